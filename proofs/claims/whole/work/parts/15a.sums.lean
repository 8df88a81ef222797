/-! ===== what a house owes all others, and is owed by them: it fits an int ===== -/
theorem sumF_le2 {f g : Nat → Int} {n : Nat} (h : ∀ k, k < n → f k ≤ g k) : sumF f n ≤ sumF g n := by
  induction n with
  | zero => exact Int.le_refl 0
  | succ n ih => have := ih (fun k hk => h k (by omega)); have := h n (by omega); rw [sumF, sumF]; omega
theorem sumF_pick {x y : Int} {c : Prop} [Decidable c] (hx : 0 ≤ x ∧ x < 12) : sumF (fun a : Nat => if x = (a : Int) ∧ c then y else 0) 12 = if c then y else 0 := by
  by_cases q : c
  · rw [if_pos q, sumF_congr (g := fun a => if a = x.toNat then y else 0) (fun a _ => ?_), sumF_one (by omega)]
    by_cases q2 : x = (a : Int)
    · rw [if_pos ⟨q2, q⟩, if_pos (by omega)]
    · rw [if_neg (fun z => q2 z.1), if_neg (by omega)]
  · rw [if_neg q, sumF_congr (g := fun _ => 0) (fun a _ => if_neg (fun z => q z.2)), sumF_zero]
theorem sumF_pick' {x y : Int} {c : Prop} [Decidable c] (hx : 0 ≤ x ∧ x < 12) : sumF (fun a : Nat => if c ∧ x = (a : Int) then y else 0) 12 = if c then y else 0 := by
  rw [← sumF_pick (c := c) (y := y) hx]
  refine sumF_congr fun a _ => ?_
  by_cases q : c ∧ x = (a : Int)
  · rw [if_pos q, if_pos q.symm]
  · rw [if_neg q, if_neg (fun z => q z.symm)]
section
variable {w : WT} {nt : Nat} {nh : Int}
theorem owT_col {t : Nat} {am pm b : Int} (hw : wOk w nt nh) (ht : t < nt) : ∀ n : Nat, (n : Int) ≤ w t 7 → sumF (fun a : Nat => owT w t am pm a b n) 12 = (if w t 0 = b then sumF (fun i => prt am (w t (200 + i))) n else 0) + ptF w t b pm n := by
  obtain ⟨-, h1, h2, h3⟩ := hw
  obtain ⟨h0, -, -, -, h7, hpp, -⟩ := h3 t ht
  intro n
  induction n with
  | zero =>
    intro _
    rw [show (fun a : Nat => owT w t am pm a b 0) = fun _ => 0 from rfl, sumF_zero]
    show (0 : Int) = (if w t 0 = b then 0 else 0) + 0
    split <;> rfl
  | succ n ih =>
    intro hn
    have e : ∀ a : Nat, owT w t am pm a b (n + 1) = owT w t am pm a b n + ((if w t (100 + n) = a ∧ w t 0 = b then prt am (w t (200 + n)) else 0) + (if w t 0 = a ∧ w t (100 + n) = b then prt pm (w t (200 + n)) else 0)) := fun a => rfl
    rw [sumF_congr (fun a _ => e a), sumF_add, sumF_add, ih (by omega), sumF_pick (by have := (hpp n (by omega)).1; omega), sumF_pick (by omega)]
    have e2 : ptF w t b pm (n + 1) = ptF w t b pm n + (if w t (100 + n) = b then prt pm (w t (200 + n)) else 0) := rfl
    rw [e2, sumF]
    by_cases q : w t 0 = b
    · rw [if_pos q, if_pos q, if_pos q]; omega
    · rw [if_neg q, if_neg q, if_neg q]; omega
theorem owT_row {t : Nat} {am pm a : Int} (hw : wOk w nt nh) (ht : t < nt) : ∀ n : Nat, (n : Int) ≤ w t 7 → sumF (fun b : Nat => owT w t am pm a b n) 12 = ptF w t a am n + (if w t 0 = a then sumF (fun i => prt pm (w t (200 + i))) n else 0) := by
  obtain ⟨-, h1, h2, h3⟩ := hw
  obtain ⟨h0, -, -, -, h7, hpp, -⟩ := h3 t ht
  intro n
  induction n with
  | zero =>
    intro _
    rw [show (fun b : Nat => owT w t am pm a b 0) = fun _ => 0 from rfl, sumF_zero]
    show (0 : Int) = 0 + (if w t 0 = a then 0 else 0)
    split <;> rfl
  | succ n ih =>
    intro hn
    have e : ∀ b : Nat, owT w t am pm a b (n + 1) = owT w t am pm a b n + ((if w t (100 + n) = a ∧ w t 0 = b then prt am (w t (200 + n)) else 0) + (if w t 0 = a ∧ w t (100 + n) = b then prt pm (w t (200 + n)) else 0)) := fun b => rfl
    rw [sumF_congr (fun b _ => e b), sumF_add, sumF_add, ih (by omega), sumF_pick' (by omega), sumF_pick' (by have := (hpp n (by omega)).1; omega)]
    have e2 : ptF w t a am (n + 1) = ptF w t a am n + (if w t (100 + n) = a then prt am (w t (200 + n)) else 0) := rfl
    rw [e2, sumF]
    by_cases q : w t 0 = a
    · rw [if_pos q, if_pos q, if_pos q]; omega
    · rw [if_neg q, if_neg q, if_neg q]; omega
/-- rounds that end have come to rest -/
theorem slF_rest {rm : Nat → Int} {pay : Nat → Bool} {d : Int → Int} (hw : wOk w nt nh) : ∀ (n r : Nat) (g : Int → Int), (slF w rm pay d nt n r g).2.1 = false → ∀ h : Int, nxF w rm pay d (slF w rm pay d nt n r g).2.2 nt h = (slF w rm pay d nt n r g).2.2 h := by
  intro n
  induction n with
  | zero => intro r g h; rw [slF] at h; cases h
  | succ n ih =>
    intro r g he h
    rw [slF] at he ⊢
    split at he
    · rename_i q
      rw [if_pos q]
      split at he
      · cases he
      · rename_i q2
        rw [if_neg q2]
        exact ih _ _ he h
    · rename_i q
      rw [if_neg q]
      refine nx_eq wEq_refl (fun _ _ _ => rfl) (fun _ _ => rfl) (fun t ht => ⟨rfl, ?_⟩) rfl
      have h0 := (hw.2.2.2 t ht).1
      have h12 := hw.2.2.1
      have key : ∀ k : Nat, k < 12 → nxF w rm pay d g nt k = g k := fun k hk => Decidable.byContradiction fun x => q (chB_iff.mpr ⟨k, hk, x⟩)
      have := key (w t 0).toNat (by omega)
      rwa [show (((w t 0).toNat : Nat) : Int) = w t 0 by omega] at this
end
/-- what a house pays for others in an event is part of its gross -/
theorem ptP_sum {W : WdQ} {nh : Int} {us : Nat → Int} {Q : EvQ} {a : Int} (hW : WqB W nh) (hu : ∀ t, t < W.nt → 0 ≤ us t ∧ us t ≤ W.w t 3 * (1 + W.w t 5)) (hQ : EqB Q) (ha : 0 ≤ a ∧ a < 12) : sumF (fun t => ptF W.w t a (if W.w t 1 = 0 then baP W us Q t else usP W us Q t) (W.w t 7).toNat) W.nt ≤ 20000000 := by
  have z : ∀ t n, ptF W.w t a 0 n = 0 := fun t n => by
    unfold ptF
    rw [sumF_congr (g := fun _ => 0) (fun i _ => by split; exact prt_zero; rfl), sumF_zero]
  cases hen : (slP W us Q).2.1 with
  | true =>
    rw [sumF_congr (g := fun _ => 0) (fun t _ => by
      have e : (if W.w t 1 = 0 then baP W us Q t else usP W us Q t) = 0 := by
        unfold baP usP
        rw [hen, if_pos rfl, if_pos rfl]
        split <;> rfl
      rw [e]; exact z t _), sumF_zero]
    decide
  | false =>
    have gin := slP_in hW hu hQ hen
    have e1 : sumF (fun t => ptF W.w t a (if W.w t 1 = 0 then baP W us Q t else usP W us Q t) (W.w t 7).toNat) W.nt = sumF (fun t => if pyP W Q t = true then ptF W.w t a (auF W.w (rmP W.w us) (pyP W Q) Q.d (slP W us Q).2.2 t) (W.w t 7).toNat else 0) W.nt := sumF_congr fun t _ => by
      unfold baP usP auP
      rw [hen, if_neg (show ¬ (false = true) by decide), if_neg (show ¬ (false = true) by decide)]
      by_cases q2 : pyP W Q t = true
      · rw [if_pos q2, if_pos q2, if_pos q2]
        by_cases q : W.w t 1 = 0
        · rw [if_pos q]
          unfold auF amtF
          rw [if_pos q]
        · rw [if_neg q, if_neg q]
      · rw [if_neg q2, if_neg q2, if_neg q2]
        split <;> exact z t _
    have h1 : nxF W.w (rmP W.w us) (pyP W Q) Q.d (slP W us Q).2.2 W.nt a = (slP W us Q).2.2 a := slF_rest hW.1 _ _ _ hen a
    have h2 := gin a ha.1 ha.2
    have h3 := hQ a ha.1 ha.2
    unfold nxF at h1
    rw [e1]
    omega
def pmS (W : WdQ) (Q : Nat → EvQ) (e : Nat) : Int := sumF (fun t => if ¬ W.w t 1 = 0 then W.w t 6 * (acP W Q e).2 t / W.w t 3 else 0) W.nt
theorem pmS_in {W : WdQ} {nh : Int} {Q : Nat → EvQ} {e : Nat} (hW : WqB W nh) (hQ : ∀ i, i < e → EqB (Q i)) : pmS W Q e ≤ 215999784 := by
  have h0 := acP_in hW e hQ
  have n24 := hW.1.1
  have h2 := sumF_le (f := fun t => if ¬ W.w t 1 = 0 then W.w t 6 * (acP W Q e).2 t / W.w t 3 else 0) (n := W.nt) (c := 8999991) (fun t ht => by
    obtain ⟨l3, l5, l6, l1⟩ := hW.2 t ht
    split
    · rename_i q
      have hl := l1 q
      refine Int.ediv_le_of_le_mul (by omega) ?_
      have r := (h0 t ht).2
      have m1 : W.w t 3 * W.w t 5 ≤ W.w t 3 * 9 := Int.mul_le_mul_of_nonneg_left l5.2 l3.1
      have m2 : W.w t 6 * (acP W Q e).2 t ≤ 999999 * (W.w t 3 * 9) := Int.mul_le_mul l6.2 (by omega) r.1 (by decide)
      omega
    · decide)
  unfold pmS
  omega
theorem pmS_step {W : WdQ} {nh : Int} {Q : Nat → EvQ} {e : Nat} (hW : WqB W nh) : sumF (fun t => pmF W.w (acP W Q e).2 (usP W (acP W Q e).1 (Q e)) t) W.nt ≤ pmS W Q (e + 1) - pmS W Q e := by
  have h : sumF (fun t => pmF W.w (acP W Q e).2 (usP W (acP W Q e).1 (Q e)) t) W.nt + pmS W Q e ≤ pmS W Q (e + 1) := by
    unfold pmS
    rw [← sumF_add]
    refine sumF_le2 fun n ht => ?_
    obtain ⟨l3, l5, l6, l1⟩ := hW.2 n ht
    have e2 : (acP W Q (e + 1)).2 n = (acP W Q e).2 n + rsF W.w (acP W Q e).2 (usP W (acP W Q e).1 (Q e)) n := rfl
    by_cases q1 : W.w n 1 = 0
    · rw [if_neg (fun x => x q1), if_neg (fun x => x q1)]
      unfold pmF
      rw [if_pos q1]
      decide
    · rw [if_pos q1, if_pos q1]
      have hl := l1 q1
      unfold pmF
      rw [if_neg q1, e2, Int.mul_add]
      generalize W.w n 6 * (acP W Q e).2 n = x
      generalize W.w n 6 * rsF W.w (acP W Q e).2 (usP W (acP W Q e).1 (Q e)) n = y
      generalize W.w n 3 = l at hl
      have m1 : x / l * l ≤ x := Int.ediv_mul_le x (by omega)
      have m2 : y / l * l ≤ y := Int.ediv_mul_le y (by omega)
      have m3 : x / l + y / l ≤ (x + y) / l := by
        apply Int.le_ediv_of_mul_le (by omega)
        rw [Int.add_mul]
        omega
      omega
  omega
theorem owP_sums {W : WdQ} {nh : Int} {Q : Nat → EvQ} {a : Int} (hW : WqB W nh) (ha : 0 ≤ a ∧ a < 12) : ∀ e, (∀ i, i < e → EqB (Q i)) → sumF (fun b : Nat => owP W Q e a b) 12 ≤ 20000000 * e + pmS W Q e ∧ sumF (fun b : Nat => owP W Q e b a) 12 ≤ 20000000 * e + pmS W Q e := by
  intro e
  induction e with
  | zero =>
    intro _
    have : pmS W Q 0 = 0 := by
      unfold pmS
      rw [sumF_congr (g := fun _ => 0) (fun t _ => ?_), sumF_zero]
      split
      · show W.w t 6 * 0 / W.w t 3 = 0
        rw [Int.mul_zero, Int.zero_ediv]
      · rfl
    rw [this]
    rw [show (fun b : Nat => owP W Q 0 a b) = fun _ => 0 from rfl, show (fun b : Nat => owP W Q 0 b a) = fun _ => 0 from rfl, sumF_zero]
    exact ⟨by decide, by decide⟩
  | succ e ih =>
    intro hQ
    have h1 := ih (fun i hi => hQ i (by omega))
    have h0 := acP_in hW e (fun i hi => hQ i (by omega))
    have hps := paP_sum (us := (acP W Q e).1) (Q := Q e) hW (fun t ht => (h0 t ht).1) (hQ e (by omega)) ha
    have hpt := ptP_sum (us := (acP W Q e).1) (Q := Q e) hW (fun t ht => (h0 t ht).1) (hQ e (by omega)) ha
    have hpm := pmS_step (Q := Q) (e := e) hW
    have rn : ∀ t, t < W.nt → 0 ≤ pmF W.w (acP W Q e).2 (usP W (acP W Q e).1 (Q e)) t := fun t ht => (rsF_in hW ht (h0 t ht).2 (usP_in hW (fun t ht => (h0 t ht).1) (hQ e (by omega)) ht).1.1).2.1
    constructor
    · have e1 : sumF (fun b : Nat => owP W Q (e + 1) a b) 12 = sumF (fun b : Nat => owP W Q e a b) 12 + sumF (fun b : Nat => owF W.w (acP W Q e).2 (usP W (acP W Q e).1 (Q e)) (baP W (acP W Q e).1 (Q e)) a b W.nt) 12 := by
        rw [← sumF_add]; rfl
      have e2 : sumF (fun b : Nat => owF W.w (acP W Q e).2 (usP W (acP W Q e).1 (Q e)) (baP W (acP W Q e).1 (Q e)) a b W.nt) 12 ≤ sumF (fun t => ptF W.w t a (if W.w t 1 = 0 then baP W (acP W Q e).1 (Q e) t else usP W (acP W Q e).1 (Q e) t) (W.w t 7).toNat) W.nt + sumF (fun t => pmF W.w (acP W Q e).2 (usP W (acP W Q e).1 (Q e)) t) W.nt := by
        rw [← sumF_add]
        unfold owF
        rw [sumF_swap]
        refine sumF_le2 fun t ht => ?_
        have h7 := (hW.1.2.2.2 t ht).2.2.2.2.1
        rw [owT_row hW.1 ht _ (by omega)]
        have := pdF_in hW.1 ht (rn t ht)
        unfold pdF at this
        have r := rn t ht
        split <;> omega
      rw [e1]
      omega
    · have e1 : sumF (fun b : Nat => owP W Q (e + 1) b a) 12 = sumF (fun b : Nat => owP W Q e b a) 12 + sumF (fun b : Nat => owF W.w (acP W Q e).2 (usP W (acP W Q e).1 (Q e)) (baP W (acP W Q e).1 (Q e)) b a W.nt) 12 := by
        rw [← sumF_add]; rfl
      have e2 : sumF (fun b : Nat => owF W.w (acP W Q e).2 (usP W (acP W Q e).1 (Q e)) (baP W (acP W Q e).1 (Q e)) b a W.nt) 12 ≤ sumF (fun t => if W.w t 0 = a then paP W (acP W Q e).1 (Q e) t else 0) W.nt + sumF (fun t => pmF W.w (acP W Q e).2 (usP W (acP W Q e).1 (Q e)) t) W.nt := by
        rw [← sumF_add]
        unfold owF
        rw [sumF_swap]
        refine sumF_le2 fun t ht => ?_
        have h7 := (hW.1.2.2.2 t ht).2.2.2.2.1
        rw [owT_col hW.1 ht _ (by omega)]
        have h8 := ptF_in (h := a) (n := (W.w t 7).toNat) hW.1 ht (rn t ht) (by omega)
        have h9 := pdF_in hW.1 ht (rn t ht)
        have e3 : sumF (fun i => prt (if W.w t 1 = 0 then baP W (acP W Q e).1 (Q e) t else usP W (acP W Q e).1 (Q e) t) (W.w t (200 + i))) (W.w t 7).toNat = paP W (acP W Q e).1 (Q e) t := paP_am
        rw [e3]
        split <;> omega
      rw [e1]
      omega
theorem cuT_owT {w : WT} {t n : Nat} {am a b : Int} : cuT w t am a b n = owT w t am 0 a b n := by
  have z : cuO w t 0 a b n = 0 := by
    unfold cuO
    rw [sumF_congr (g := fun _ => 0) (fun i _ => by split; exact prt_zero; rfl), sumF_zero]
  rw [owT_split, z]; omega
theorem cuF_sums {W : WdQ} {nh : Int} {cs : Nat → Int} {a : Int} (hW : WqB W nh) (hc : ∀ t, t < W.nt → 0 ≤ cs t ∧ cs t ≤ 999999) : sumF (fun b : Nat => cuF W cs a b W.nt) 12 ≤ 23999976 ∧ sumF (fun b : Nat => cuF W cs b a W.nt) 12 ≤ 23999976 := by
  have n24 := hW.1.1
  constructor
  · unfold cuF
    rw [sumF_swap]
    have := sumF_le (f := fun t => sumF (fun b : Nat => if W.cm t = true then cuT W.w t (cs t) a b (W.w t 7).toNat else 0) 12) (n := W.nt) (c := 999999) (fun t ht => by
      have h7 := (hW.1.2.2.2 t ht).2.2.2.2.1
      have h := hc t ht
      by_cases q : W.cm t = true
      · rw [sumF_congr (g := fun b : Nat => owT W.w t (cs t) 0 a b (W.w t 7).toNat) (fun b _ => by rw [if_pos q, cuT_owT]), owT_row hW.1 ht _ (by omega)]
        have h8 := ptF_in (h := a) (n := (W.w t 7).toNat) hW.1 ht h.1 (by omega)
        have h9 := pdF_in hW.1 ht h.1
        have h10 : sumF (fun i => prt 0 (W.w t (200 + i))) (W.w t 7).toNat = 0 := by rw [sumF_congr (g := fun _ => 0) (fun i _ => prt_zero), sumF_zero]
        rw [h10]
        split <;> omega
      · rw [sumF_congr (g := fun _ => 0) (fun b _ => if_neg q), sumF_zero]; decide)
    omega
  · unfold cuF
    rw [sumF_swap]
    have := sumF_le (f := fun t => sumF (fun b : Nat => if W.cm t = true then cuT W.w t (cs t) b a (W.w t 7).toNat else 0) 12) (n := W.nt) (c := 999999) (fun t ht => by
      have h7 := (hW.1.2.2.2 t ht).2.2.2.2.1
      have h := hc t ht
      by_cases q : W.cm t = true
      · rw [sumF_congr (g := fun b : Nat => owT W.w t (cs t) 0 b a (W.w t 7).toNat) (fun b _ => by rw [if_pos q, cuT_owT]), owT_col hW.1 ht _ (by omega)]
        have h9 := pdF_in hW.1 ht h.1
        unfold pdF at h9
        have h10 : ptF W.w t a 0 (W.w t 7).toNat = 0 := by
          unfold ptF
          rw [sumF_congr (g := fun _ => 0) (fun i _ => by split; exact prt_zero; rfl), sumF_zero]
        rw [h10]
        split <;> omega
      · rw [sumF_congr (g := fun _ => 0) (fun b _ => if_neg q), sumF_zero]; decide)
    omega
theorem cuF_nn {W : WdQ} {nh : Int} {cs : Nat → Int} {a b : Int} (hW : WqB W nh) (hc : ∀ t, t < W.nt → 0 ≤ cs t ∧ cs t ≤ 999999) : 0 ≤ cuF W cs a b W.nt := by
  unfold cuF
  refine sumF_nonneg fun t ht => ?_
  split
  · have h7 := (hW.1.2.2.2 t ht).2.2.2.2.1
    exact (cuT_in hW.1 ht (hc t ht) (by omega)).1
  · exact Int.le_refl 0
