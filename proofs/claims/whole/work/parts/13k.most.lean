/-! ===== how much may be owed ===== -/
section
variable {w : WT} {rm : Nat → Int} {pay : Nat → Bool} {d g : Int → Int} {nt : Nat} {nh : Int}
/-- what a house's treaties take of its gross -/
theorem hs_sum {h : Int} : ∀ n, (hsF w rm pay d g h n).1 = g h - sumF (fun t => if w t 0 = h ∧ pay t = true then pdF w t (auF w rm pay d g t) else 0) n := by
  intro n
  induction n with
  | zero => show g h = g h - 0; omega
  | succ n ih =>
    rw [hsF, sumF]
    by_cases q : w n 0 = h ∧ pay n = true
    · rw [if_pos q, if_pos q]
      show (hsF w rm pay d g h n).1 - pdF w n (amtF w rm n (if w n 2 = 0 then (hsF w rm pay d g h n).1 else (hsF w rm pay d g h n).2)) = _
      have e : (if w n 2 = 0 then (hsF w rm pay d g h n).1 else (hsF w rm pay d g h n).2) = bsF w rm pay d g n := by unfold bsF; rw [q.1]
      rw [e, show amtF w rm n (bsF w rm pay d g n) = auF w rm pay d g n from rfl, ih]
      omega
    · rw [if_neg q, if_neg q, ih]
      omega
theorem cuT_pd {t n : Nat} {am a b : Int} (hw : wOk w nt nh) (ht : t < nt) (ha : 0 ≤ am) (hn : n = (w t 7).toNat) : cuT w t am a b n ≤ if w t 0 = b then pdF w t am else 0 := by
  obtain ⟨-, -, -, -, h7, hpp, -⟩ := hw.2.2.2 t ht
  subst hn
  have key : ∀ n : Nat, (n : Int) ≤ w t 7 → cuT w t am a b n ≤ if w t 0 = b then sumF (fun i => prt am (w t (200 + i))) n else 0 := by
    intro n
    induction n with
    | zero => intro _; show (0 : Int) ≤ if w t 0 = b then 0 else 0; split <;> exact Int.le_refl 0
    | succ n ih =>
      intro hn
      have h1 := ih (by omega)
      have h2 := prt_in ha (hpp n (by omega)).2
      have e : cuT w t am a b (n + 1) = cuT w t am a b n + (if w t (100 + n) = a ∧ w t 0 = b then prt am (w t (200 + n)) else 0) := rfl
      rw [e, sumF]
      by_cases q : w t 0 = b
      · rw [if_pos q] at h1 ⊢
        split <;> omega
      · rw [if_neg q] at h1 ⊢
        rw [if_neg (fun x => q x.2)]
        omega
  exact key _ (by omega)
theorem cuO_pd {t n : Nat} {am a b : Int} (hw : wOk w nt nh) (ht : t < nt) (ha : 0 ≤ am) (hn : n = (w t 7).toNat) : cuO w t am a b n ≤ if w t 0 = a then am else 0 := by
  obtain ⟨-, -, -, -, h7, hpp, -⟩ := hw.2.2.2 t ht
  have hpd := pdF_in hw ht ha
  subst hn
  have key : ∀ n : Nat, (n : Int) ≤ w t 7 → cuO w t am a b n ≤ if w t 0 = a then sumF (fun i => prt am (w t (200 + i))) n else 0 := by
    intro n
    induction n with
    | zero => intro _; show (0 : Int) ≤ if w t 0 = a then 0 else 0; split <;> exact Int.le_refl 0
    | succ n ih =>
      intro hn
      have h1 := ih (by omega)
      have h2 := prt_in ha (hpp n (by omega)).2
      have e : cuO w t am a b (n + 1) = cuO w t am a b n + (if w t 0 = a ∧ w t (100 + n) = b then prt am (w t (200 + n)) else 0) := rfl
      rw [e, sumF]
      by_cases q : w t 0 = a
      · rw [if_pos q] at h1 ⊢
        split <;> omega
      · rw [if_neg q] at h1 ⊢
        rw [if_neg (fun x => q x.1)]
        omega
  have h1 := key (w t 7).toNat (by omega)
  have h2 : pdF w t am = sumF (fun i => prt am (w t (200 + i))) (w t 7).toNat := rfl
  rw [← h2] at h1
  split at h1
  · rename_i q; rw [if_pos q]; omega
  · rename_i q; rw [if_neg q]; omega
end
/-- what the parts pay is what the treaty pays -/
theorem paP_am {W : WdQ} {us : Nat → Int} {Q : EvQ} {t : Nat} : pdF W.w t (if W.w t 1 = 0 then baP W us Q t else usP W us Q t) = paP W us Q t := by
  unfold baP usP paP
  have z : pdF W.w t 0 = 0 := by
    unfold pdF
    rw [sumF_congr (g := fun _ => 0) (fun i _ => prt_zero), sumF_zero]
  by_cases q : W.w t 1 = 0
  · rw [if_pos q]
    split
    · exact z
    · split
      · show pdF W.w t (bsF _ _ _ _ _ t) = pdF W.w t (auF _ _ _ _ _ t)
        unfold auF amtF
        rw [if_pos q]
      · exact z
  · rw [if_neg q]
    split
    · exact z
    · split
      · rfl
      · exact z
theorem paP_sum {W : WdQ} {nh : Int} {us : Nat → Int} {Q : EvQ} {b : Int} (hW : WqB W nh) (hu : ∀ t, t < W.nt → 0 ≤ us t ∧ us t ≤ W.w t 3 * (1 + W.w t 5)) (hQ : EqB Q) (hb : 0 ≤ b ∧ b < 12) : sumF (fun t => if W.w t 0 = b then paP W us Q t else 0) W.nt ≤ 20000000 := by
  cases hen : (slP W us Q).2.1 with
  | true =>
    rw [sumF_congr (g := fun _ => 0) (fun t _ => by unfold paP; rw [hen, if_pos rfl]; split <;> rfl), sumF_zero]
    decide
  | false =>
    have gin := slP_in hW hu hQ hen
    have e1 : sumF (fun t => if W.w t 0 = b then paP W us Q t else 0) W.nt = sumF (fun t => if W.w t 0 = b ∧ pyP W Q t = true then pdF W.w t (auF W.w (rmP W.w us) (pyP W Q) Q.d (slP W us Q).2.2 t) else 0) W.nt := sumF_congr fun t _ => by
      unfold paP auP
      rw [hen, if_neg (show ¬ (false = true) by decide)]
      by_cases q : W.w t 0 = b
      · rw [if_pos q]
        by_cases q2 : pyP W Q t = true
        · rw [if_pos q2, if_pos ⟨q, q2⟩]
        · rw [if_neg q2, if_neg (fun x => q2 x.2)]
      · rw [if_neg q, if_neg (fun x => q x.1)]
    have h1 := hs_sum (w := W.w) (rm := rmP W.w us) (pay := pyP W Q) (d := Q.d) (g := (slP W us Q).2.2) (h := b) W.nt
    have h2 := hsF_in (pay := pyP W Q) (d := Q.d) (g := (slP W us Q).2.2) (h := b) hW.1 (fun t ht => (rmP_in hW ht (hu t ht)).1) ⟨(hQ b hb.1 hb.2).1, (gin b hb.1 hb.2).1⟩ W.nt (Nat.le_refl _)
    have h3 := (gin b hb.1 hb.2).2
    rw [e1]
    omega
theorem owP_most {W : WdQ} {nh : Int} {Q : Nat → EvQ} {a b : Int} (hW : WqB W nh) (hb : 0 ≤ b ∧ b < 12) : ∀ e, (∀ i, i < e → EqB (Q i)) → owP W Q e a b ≤ 20000000 * e + sumF (fun t => if W.w t 0 = a ∧ ¬ W.w t 1 = 0 then W.w t 6 * (acP W Q e).2 t / W.w t 3 else 0) W.nt := by
  intro e
  induction e with
  | zero =>
    intro _
    have : 0 ≤ sumF (fun t => if W.w t 0 = a ∧ ¬ W.w t 1 = 0 then W.w t 6 * (acP W Q 0).2 t / W.w t 3 else 0) W.nt := sumF_nonneg fun t _ => by
      split
      · show 0 ≤ W.w t 6 * 0 / W.w t 3
        rw [Int.mul_zero, Int.zero_ediv]; exact Int.le_refl 0
      · exact Int.le_refl 0
    show (0 : Int) ≤ _
    omega
  | succ e ih =>
    intro hQ
    have h1 := ih (fun i hi => hQ i (by omega))
    have h0 := acP_in hW e (fun i hi => hQ i (by omega))
    have hps := paP_sum (us := (acP W Q e).1) (Q := Q e) hW (fun t ht => (h0 t ht).1) (hQ e (by omega)) hb
    have step : owF W.w (acP W Q e).2 (usP W (acP W Q e).1 (Q e)) (baP W (acP W Q e).1 (Q e)) a b W.nt ≤ sumF (fun t => if W.w t 0 = b then paP W (acP W Q e).1 (Q e) t else 0) W.nt + (sumF (fun t => if W.w t 0 = a ∧ ¬ W.w t 1 = 0 then W.w t 6 * (acP W Q (e + 1)).2 t / W.w t 3 else 0) W.nt - sumF (fun t => if W.w t 0 = a ∧ ¬ W.w t 1 = 0 then W.w t 6 * (acP W Q e).2 t / W.w t 3 else 0) W.nt) := by
      have key : ∀ n, n ≤ W.nt → owF W.w (acP W Q e).2 (usP W (acP W Q e).1 (Q e)) (baP W (acP W Q e).1 (Q e)) a b n ≤ sumF (fun t => if W.w t 0 = b then paP W (acP W Q e).1 (Q e) t else 0) n + (sumF (fun t => if W.w t 0 = a ∧ ¬ W.w t 1 = 0 then W.w t 6 * (acP W Q (e + 1)).2 t / W.w t 3 else 0) n - sumF (fun t => if W.w t 0 = a ∧ ¬ W.w t 1 = 0 then W.w t 6 * (acP W Q e).2 t / W.w t 3 else 0) n) := by
        intro n
        induction n with
        | zero => intro _; show (0 : Int) ≤ 0 + (0 - 0); decide
        | succ n ihn =>
          intro hn
          have g1 := ihn (by omega)
          have ht : n < W.nt := by omega
          obtain ⟨l3, l5, l6, l1⟩ := hW.2 n ht
          have u := usP_in (t := n) hW (fun t ht => (h0 t ht).1) (hQ e (by omega)) ht
          have r := rsF_in (U := usP W (acP W Q e).1 (Q e)) hW ht (h0 n ht).2 u.1.1
          have c1 := cuT_pd (a := a) (b := b) (am := if W.w n 1 = 0 then baP W (acP W Q e).1 (Q e) n else usP W (acP W Q e).1 (Q e) n) hW.1 ht (by split <;> omega) rfl
          have c2 := cuO_pd (a := a) (b := b) (am := pmF W.w (acP W Q e).2 (usP W (acP W Q e).1 (Q e)) n) hW.1 ht r.2.1 rfl
          rw [paP_am] at c1
          have e1 : owF W.w (acP W Q e).2 (usP W (acP W Q e).1 (Q e)) (baP W (acP W Q e).1 (Q e)) a b (n + 1) = owF W.w (acP W Q e).2 (usP W (acP W Q e).1 (Q e)) (baP W (acP W Q e).1 (Q e)) a b n + owT W.w n (if W.w n 1 = 0 then baP W (acP W Q e).1 (Q e) n else usP W (acP W Q e).1 (Q e) n) (pmF W.w (acP W Q e).2 (usP W (acP W Q e).1 (Q e)) n) a b (W.w n 7).toNat := rfl
          rw [e1, owT_split, sumF, sumF, sumF]
          have e2 : (acP W Q (e + 1)).2 n = (acP W Q e).2 n + rsF W.w (acP W Q e).2 (usP W (acP W Q e).1 (Q e)) n := rfl
          have fin : (if W.w n 0 = a then pmF W.w (acP W Q e).2 (usP W (acP W Q e).1 (Q e)) n else 0) ≤ (if W.w n 0 = a ∧ ¬ W.w n 1 = 0 then W.w n 6 * (acP W Q (e + 1)).2 n / W.w n 3 else 0) - (if W.w n 0 = a ∧ ¬ W.w n 1 = 0 then W.w n 6 * (acP W Q e).2 n / W.w n 3 else 0) := by
            by_cases q : W.w n 0 = a
            · rw [if_pos q]
              by_cases q1 : W.w n 1 = 0
              · rw [if_neg (fun x => x.2 q1), if_neg (fun x => x.2 q1)]
                unfold pmF
                rw [if_pos q1]
                decide
              · rw [if_pos ⟨q, q1⟩, if_pos ⟨q, q1⟩]
                have hl := l1 q1
                unfold pmF
                rw [if_neg q1, e2, Int.mul_add]
                generalize W.w n 6 * (acP W Q e).2 n = x
                generalize W.w n 6 * rsF W.w (acP W Q e).2 (usP W (acP W Q e).1 (Q e)) n = y
                generalize W.w n 3 = l at hl
                have m1 : x / l * l ≤ x := Int.ediv_mul_le x (by omega)
                have m2 : y / l * l ≤ y := Int.ediv_mul_le y (by omega)
                have m3 : x / l + y / l ≤ (x + y) / l := by
                  apply Int.le_ediv_of_mul_le (by omega)
                  rw [Int.add_mul]
                  omega
                omega
            · rw [if_neg q, if_neg (fun x => q x.1), if_neg (fun x => q x.1)]
              decide
          omega
      exact key W.nt (Nat.le_refl _)
    show owP W Q e a b + owF W.w (acP W Q e).2 (usP W (acP W Q e).1 (Q e)) (baP W (acP W Q e).1 (Q e)) a b W.nt ≤ _
    omega
theorem owP_int {W : WdQ} {nh : Int} {Q : Nat → EvQ} {a b : Int} {e : Nat} (hW : WqB W nh) (hb : 0 ≤ b ∧ b < 12) (he : e ≤ 60) (hQ : ∀ i, i < e → EqB (Q i)) : 0 ≤ owP W Q e a b ∧ owP W Q e a b ≤ 1415999784 := by
  refine ⟨(owP_in hW e hQ).1, ?_⟩
  have h1 := owP_most (a := a) hW hb e hQ
  have h0 := acP_in hW e hQ
  have n24 := hW.1.1
  have h2 := sumF_le (f := fun t => if W.w t 0 = a ∧ ¬ W.w t 1 = 0 then W.w t 6 * (acP W Q e).2 t / W.w t 3 else 0) (n := W.nt) (c := 8999991) (fun t ht => by
    obtain ⟨l3, l5, l6, l1⟩ := hW.2 t ht
    split
    · rename_i q
      have hl := l1 q.2
      refine Int.ediv_le_of_le_mul (by omega) ?_
      have r := (h0 t ht).2
      have m1 : W.w t 3 * W.w t 5 ≤ W.w t 3 * 9 := Int.mul_le_mul_of_nonneg_left l5.2 l3.1
      have m2 : W.w t 6 * (acP W Q e).2 t ≤ 999999 * (W.w t 3 * 9) := Int.mul_le_mul l6.2 (by omega) r.1 (by decide)
      omega
    · decide)
  omega
