/-! ===== all events, one behind the other, as plain functions ===== -/
/-- a wording, and what of it is commuted: its table, its treaties, which are commuted, conditions -/
abbrev WdQ : Type := WT × Nat × (Nat → Bool) × (Nat → Nat) × (Nat → Nat → Int × Int)
abbrev WdQ.w (W : WdQ) : WT := W.1
abbrev WdQ.nt (W : WdQ) : Nat := W.2.1
abbrev WdQ.cm (W : WdQ) : Nat → Bool := W.2.2.1
abbrev WdQ.cn (W : WdQ) : Nat → Nat := W.2.2.2.1
abbrev WdQ.cc (W : WdQ) : Nat → Nat → Int × Int := W.2.2.2.2
/-- an event: direct amounts, cause, day, losses -/
abbrev EvQ : Type := (Int → Int) × Int × Int × Int
abbrev EvQ.d (Q : EvQ) : Int → Int := Q.1
abbrev EvQ.ca (Q : EvQ) : Int := Q.2.1
abbrev EvQ.da (Q : EvQ) : Int := Q.2.2.1
abbrev EvQ.lo (Q : EvQ) : Int := Q.2.2.2
def rmP (w : WT) (us : Nat → Int) (t : Nat) : Int := if w t 3 * (1 + w t 5) - us t < w t 3 then w t 3 * (1 + w t 5) - us t else w t 3
def pyP (W : WdQ) (Q : EvQ) (t : Nat) : Bool := decide (W.cm t = false ∧ resC (fct Q.ca Q.da Q.lo (Q.d (W.w t 0)) (hitF Q.d 12)) (W.cc t) (W.cn t) ≠ 0)
section
variable (W : WdQ) (us : Nat → Int) (Q : EvQ)
def slP : Nat × Bool × (Int → Int) := slF W.w (rmP W.w us) (pyP W Q) Q.d W.nt 2000 0 Q.d
def grP (h : Int) : Int := if (slP W us Q).2.1 = true then Q.d h else (slP W us Q).2.2 h
def rtP (h : Int) : Int := if (slP W us Q).2.1 = true then Q.d h else (hsF W.w (rmP W.w us) (pyP W Q) Q.d (slP W us Q).2.2 h W.nt).1
def baP (t : Nat) : Int := if (slP W us Q).2.1 = true then 0 else if pyP W Q t = true then bsF W.w (rmP W.w us) (pyP W Q) Q.d (slP W us Q).2.2 t else 0
def auP (t : Nat) : Int := auF W.w (rmP W.w us) (pyP W Q) Q.d (slP W us Q).2.2 t
def usP (t : Nat) : Int := if (slP W us Q).2.1 = true then 0 else if pyP W Q t = true then (if W.w t 1 = 0 then pdF W.w t (auP W us Q t) else auP W us Q t) else 0
def paP (t : Nat) : Int := if (slP W us Q).2.1 = true then 0 else if pyP W Q t = true then pdF W.w t (auP W us Q t) else 0
end
/-- what was used and restored by the events ahead -/
def acP (W : WdQ) (Q : Nat → EvQ) : Nat → (Nat → Int) × (Nat → Int)
  | 0 => (fun _ => 0, fun _ => 0)
  | e + 1 => (fun t => (acP W Q e).1 t + (if W.w t 1 = 0 then 0 else usP W (acP W Q e).1 (Q e) t), fun t => (acP W Q e).2 t + rsF W.w (acP W Q e).2 (usP W (acP W Q e).1 (Q e)) t)
def owP (W : WdQ) (Q : Nat → EvQ) : Nat → Int → Int → Int
  | 0 => fun _ _ => 0
  | e + 1 => fun a b => owP W Q e a b + owF W.w (acP W Q e).2 (usP W (acP W Q e).1 (Q e)) (baP W (acP W Q e).1 (Q e)) a b W.nt
def WqB (W : WdQ) (nh : Int) : Prop := wOk W.w W.nt nh ∧ ∀ t, t < W.nt → (0 ≤ W.w t 3 ∧ W.w t 3 ≤ 999999) ∧ (0 ≤ W.w t 5 ∧ W.w t 5 ≤ 9) ∧ (0 ≤ W.w t 6 ∧ W.w t 6 ≤ 999999) ∧ (¬ W.w t 1 = 0 → 1 ≤ W.w t 3)
def EqB (Q : EvQ) : Prop := ∀ h : Int, 0 ≤ h → h < 12 → 0 ≤ Q.d h ∧ Q.d h ≤ 6000000
theorem rmP_in {W : WdQ} {nh : Int} {us : Nat → Int} {t : Nat} (hW : WqB W nh) (ht : t < W.nt) (hu : 0 ≤ us t ∧ us t ≤ W.w t 3 * (1 + W.w t 5)) : 0 ≤ rmP W.w us t ∧ rmP W.w us t ≤ W.w t 3 * (1 + W.w t 5) - us t := by
  have l3 := (hW.2 t ht).1
  unfold rmP
  split <;> omega
theorem slP_in {W : WdQ} {nh : Int} {us : Nat → Int} {Q : EvQ} (hW : WqB W nh) (hu : ∀ t, t < W.nt → 0 ≤ us t ∧ us t ≤ W.w t 3 * (1 + W.w t 5)) (hQ : EqB Q) (hen : (slP W us Q).2.1 = false) : ∀ h : Int, 0 ≤ h → h < 12 → Q.d h ≤ (slP W us Q).2.2 h ∧ (slP W us Q).2.2 h ≤ 20000000 :=
  slF_in hW.1 (fun t ht => (rmP_in hW ht (hu t ht)).1) (fun h q1 q2 => (hQ h q1 q2).1) 2000 0 Q.d (fun h q1 q2 => by have := hQ h q1 q2; omega) hen
theorem auP_in {W : WdQ} {nh : Int} {us : Nat → Int} {Q : EvQ} {t : Nat} (hW : WqB W nh) (hu : ∀ t, t < W.nt → 0 ≤ us t ∧ us t ≤ W.w t 3 * (1 + W.w t 5)) (hQ : EqB Q) (hen : (slP W us Q).2.1 = false) (ht : t < W.nt) : 0 ≤ auP W us Q t ∧ auP W us Q t ≤ 20000000 ∧ (¬ W.w t 1 = 0 → auP W us Q t ≤ rmP W.w us t) := by
  have gin := slP_in hW hu hQ hen
  have h12 := hW.1.2.2.1
  have hw0 := (hW.1.2.2.2 t ht).1
  have a0 := auF_in (pay := pyP W Q) (g := (slP W us Q).2.2) (d := Q.d) hW.1 (fun t ht => (rmP_in hW ht (hu t ht)).1) (fun h q1 q2 => ⟨(hQ h q1 (by omega)).1, (gin h q1 (by omega)).1⟩) ht
  have a2 := (gin _ hw0.1 (by omega)).2
  unfold auP
  refine ⟨a0.1, by omega, fun q => ?_⟩
  unfold auF amtF
  rw [if_neg q]
  split <;> omega
theorem usP_in {W : WdQ} {nh : Int} {us : Nat → Int} {Q : EvQ} {t : Nat} (hW : WqB W nh) (hu : ∀ t, t < W.nt → 0 ≤ us t ∧ us t ≤ W.w t 3 * (1 + W.w t 5)) (hQ : EqB Q) (ht : t < W.nt) : (0 ≤ usP W us Q t ∧ usP W us Q t ≤ 20000000) ∧ (0 ≤ baP W us Q t ∧ baP W us Q t ≤ 20000000) ∧ (¬ W.w t 1 = 0 → usP W us Q t ≤ W.w t 3 * (1 + W.w t 5) - us t) ∧ (0 ≤ paP W us Q t ∧ paP W us Q t ≤ 20000000) := by
  unfold usP baP paP
  have hu' := hu t ht
  cases hen : (slP W us Q).2.1 with
  | true => rw [if_pos rfl, if_pos rfl, if_pos rfl]; omega
  | false =>
    have nf : ¬ (false = true) := by decide
    rw [if_neg nf, if_neg nf, if_neg nf]
    obtain ⟨a1, a2, a3⟩ := auP_in (t := t) hW hu hQ hen ht
    have gin := slP_in hW hu hQ hen
    have h12 := hW.1.2.2.1
    have hw0 := (hW.1.2.2.2 t ht).1
    have b0 := bsF_in (pay := pyP W Q) (g := (slP W us Q).2.2) (d := Q.d) hW.1 (fun t ht => (rmP_in hW ht (hu t ht)).1) (fun h q1 q2 => ⟨(hQ h q1 (by omega)).1, (gin h q1 (by omega)).1⟩) ht
    have g2 := (gin _ hw0.1 (by omega)).2
    have p0 := pdF_in hW.1 ht a1
    have r0 := rmP_in hW ht hu'
    by_cases hp : pyP W Q t = true
    · rw [if_pos hp, if_pos hp, if_pos hp]
      by_cases hl : W.w t 1 = 0
      · rw [if_pos hl]; exact ⟨by omega, by omega, fun q => absurd hl q, by omega⟩
      · rw [if_neg hl]
        have := a3 hl
        exact ⟨by omega, by omega, fun _ => by omega, by omega⟩
    · rw [if_neg hp, if_neg hp, if_neg hp]
      exact ⟨by omega, by omega, fun _ => by omega, by omega⟩
theorem rsF_in {W : WdQ} {nh : Int} {ra U : Nat → Int} {t : Nat} (hW : WqB W nh) (ht : t < W.nt) (hr : 0 ≤ ra t ∧ ra t ≤ W.w t 3 * W.w t 5) (hU : 0 ≤ U t) : (0 ≤ rsF W.w ra U t ∧ rsF W.w ra U t ≤ W.w t 3 * W.w t 5 - ra t ∧ rsF W.w ra U t ≤ U t) ∧ (0 ≤ pmF W.w ra U t ∧ pmF W.w ra U t ≤ W.w t 6 * W.w t 5) := by
  obtain ⟨l3, l5, l6, l1⟩ := hW.2 t ht
  have h1 : 0 ≤ rsF W.w ra U t ∧ rsF W.w ra U t ≤ W.w t 3 * W.w t 5 - ra t ∧ rsF W.w ra U t ≤ U t := by
    unfold rsF
    split
    · omega
    · split <;> omega
  refine ⟨h1, ?_⟩
  have h65 : 0 ≤ W.w t 6 * W.w t 5 := Int.mul_nonneg l6.1 l5.1
  unfold pmF
  split
  · omega
  · rename_i q
    have hl := l1 q
    refine ⟨Int.ediv_nonneg (Int.mul_nonneg l6.1 h1.1) l3.1, Int.ediv_le_of_le_mul (by omega) ?_⟩
    have h2 : W.w t 6 * rsF W.w ra U t ≤ W.w t 6 * (W.w t 3 * W.w t 5) := Int.mul_le_mul_of_nonneg_left (by omega) l6.1
    rw [Int.mul_assoc, Int.mul_comm (W.w t 5) (W.w t 3)]
    exact h2
theorem acP_in {W : WdQ} {nh : Int} {Q : Nat → EvQ} (hW : WqB W nh) : ∀ e, (∀ i, i < e → EqB (Q i)) → ∀ t, t < W.nt → (0 ≤ (acP W Q e).1 t ∧ (acP W Q e).1 t ≤ W.w t 3 * (1 + W.w t 5)) ∧ (0 ≤ (acP W Q e).2 t ∧ (acP W Q e).2 t ≤ W.w t 3 * W.w t 5) := by
  intro e
  induction e with
  | zero =>
    intro _ t ht
    obtain ⟨l3, l5, l6, l1⟩ := hW.2 t ht
    have h1 : 0 ≤ W.w t 3 * (1 + W.w t 5) := Int.mul_nonneg l3.1 (by omega)
    have h2 : 0 ≤ W.w t 3 * W.w t 5 := Int.mul_nonneg l3.1 l5.1
    show (0 ≤ (0 : Int) ∧ (0 : Int) ≤ _) ∧ (0 ≤ (0 : Int) ∧ (0 : Int) ≤ _)
    omega
  | succ e ih =>
    intro hQ t ht
    have h0 := ih (fun i hi => hQ i (by omega))
    have h1 := h0 t ht
    have u := usP_in (t := t) hW (fun t ht => (h0 t ht).1) (hQ e (by omega)) ht
    have r := rsF_in (U := usP W (acP W Q e).1 (Q e)) hW ht h1.2 u.1.1
    show (0 ≤ (acP W Q e).1 t + (if W.w t 1 = 0 then 0 else usP W (acP W Q e).1 (Q e) t) ∧ (acP W Q e).1 t + (if W.w t 1 = 0 then 0 else usP W (acP W Q e).1 (Q e) t) ≤ _) ∧ (0 ≤ (acP W Q e).2 t + rsF W.w (acP W Q e).2 (usP W (acP W Q e).1 (Q e)) t ∧ (acP W Q e).2 t + rsF W.w (acP W Q e).2 (usP W (acP W Q e).1 (Q e)) t ≤ _)
    refine ⟨?_, by omega⟩
    split
    · omega
    · rename_i q; have := u.2.2.1 q; omega
theorem owF_in {W : WdQ} {nh : Int} {ra U B : Nat → Int} {a b : Int} {n : Nat} (hW : WqB W nh) (hn : n ≤ W.nt) (hr : ∀ t, t < W.nt → 0 ≤ ra t ∧ ra t ≤ W.w t 3 * W.w t 5) (hU : ∀ t, t < W.nt → (0 ≤ U t ∧ U t ≤ 20000000) ∧ (0 ≤ B t ∧ B t ≤ 20000000)) : 0 ≤ owF W.w ra U B a b n ∧ owF W.w ra U B a b n ≤ 10560000000 := by
  have n24 := hW.1.1
  have hin : ∀ t, t < n → 0 ≤ owT W.w t (if W.w t 1 = 0 then B t else U t) (pmF W.w ra U t) a b (W.w t 7).toNat ∧ owT W.w t (if W.w t 1 = 0 then B t else U t) (pmF W.w ra U t) a b (W.w t 7).toNat ≤ 22 * 20000000 := fun t ht => by
    obtain ⟨l3, l5, l6, l1⟩ := hW.2 t (by omega)
    obtain ⟨u1, u2⟩ := hU t (by omega)
    have r := rsF_in (U := U) hW (by omega) (hr t (by omega)) u1.1
    have m : W.w t 6 * W.w t 5 ≤ 999999 * 9 := Int.mul_le_mul l6.2 l5.2 l5.1 (by decide)
    have h7 := (hW.1.2.2.2 t (by omega)).2.2.2.2.1
    exact owT_in hW.1 (by omega) (by split <;> omega) (by omega) (by omega)
  have h1 := sumF_nonneg (n := n) (fun t ht => (hin t ht).1)
  have h2 := sumF_le (n := n) (fun t ht => (hin t ht).2)
  unfold owF
  omega
theorem owP_in {W : WdQ} {nh : Int} {Q : Nat → EvQ} {a b : Int} (hW : WqB W nh) : ∀ e, (∀ i, i < e → EqB (Q i)) → 0 ≤ owP W Q e a b ∧ owP W Q e a b ≤ e * 10560000000 := by
  intro e
  induction e with
  | zero => intro _; exact ⟨Int.le_refl 0, by show (0 : Int) ≤ _; omega⟩
  | succ e ih =>
    intro hQ
    have h1 := ih (fun i hi => hQ i (by omega))
    have h0 := acP_in hW e (fun i hi => hQ i (by omega))
    have h2 := owF_in (a := a) (b := b) (n := W.nt) (U := usP W (acP W Q e).1 (Q e)) (B := baP W (acP W Q e).1 (Q e)) hW (Nat.le_refl _) (fun t ht => (h0 t ht).2) (fun t ht => by
      have u := usP_in (t := t) hW (fun t ht => (h0 t ht).1) (hQ e (by omega)) ht
      exact ⟨u.1, u.2.1⟩)
    show 0 ≤ owP W Q e a b + owF W.w (acP W Q e).2 (usP W (acP W Q e).1 (Q e)) (baP W (acP W Q e).1 (Q e)) a b W.nt ∧ owP W Q e a b + owF W.w (acP W Q e).2 (usP W (acP W Q e).1 (Q e)) (baP W (acP W Q e).1 (Q e)) a b W.nt ≤ _
    omega
