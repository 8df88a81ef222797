/-! ===== solve: the class ===== -/
section
variable {w w' : WT} {rm rm' : Nat → Int} {pay pay' : Nat → Bool} {d d' g g' : Int → Int} {h : Int}
theorem hsF_congr {n : Nat} (hw : ∀ t, t < n → w' t = w t ∧ rm' t = rm t ∧ pay' t = pay t) (hd : d' h = d h) (hg : g' h = g h) : hsF w' rm' pay' d' g' h n = hsF w rm pay d g h n := by
  induction n with
  | zero => rw [hsF, hsF, hd, hg]
  | succ n ih =>
    obtain ⟨h1, h2, h3⟩ := hw n (by omega)
    rw [hsF, hsF, ih (fun t ht => hw t (by omega)), h1, h3]
    unfold hsS amtF pdF
    rw [h1, h2]
theorem bsF_congr {n : Nat} (hw : ∀ t, t ≤ n → w' t = w t ∧ rm' t = rm t ∧ pay' t = pay t) (hd : d' (w n 0) = d (w n 0)) (hg : g' (w n 0) = g (w n 0)) : bsF w' rm' pay' d' g' n = bsF w rm pay d g n := by
  unfold bsF
  rw [(hw n (Nat.le_refl _)).1, hsF_congr (fun t ht => hw t (by omega)) hd hg]
theorem auF_congr {n : Nat} (hw : ∀ t, t ≤ n → w' t = w t ∧ rm' t = rm t ∧ pay' t = pay t) (hd : d' (w n 0) = d (w n 0)) (hg : g' (w n 0) = g (w n 0)) : auF w' rm' pay' d' g' n = auF w rm pay d g n := by
  unfold auF
  rw [bsF_congr hw hd hg, amtF_same (hw n (Nat.le_refl _)).1 (hw n (Nat.le_refl _)).2.1]
end
theorem chB_congr {g1 g2 f1 f2 : Int → Int} {n : Nat} (h1 : ∀ k : Nat, k < n → g1 k = f1 k) (h2 : ∀ k : Nat, k < n → g2 k = f2 k) : chB g1 g2 n = chB f1 f2 n := by
  induction n with
  | zero => rfl
  | succ n ih => rw [chB, chB, ih (fun k hk => h1 k (by omega)) (fun k hk => h2 k (by omega)), h1 n (by omega), h2 n (by omega)]
theorem bgB_congr {g1 f1 : Int → Int} {n : Nat} (h1 : ∀ k : Nat, k < n → g1 k = f1 k) : bgB g1 n = bgB f1 n := by
  induction n with
  | zero => rfl
  | succ n ih => rw [bgB, bgB, ih (fun k hk => h1 k (by omega)), h1 n (by omega)]
theorem chB_ext {g g' : Int → Int} {n m : Nat} (h : ∀ k : Nat, n ≤ k → k < m → g' k = g k) (hn : n ≤ m) : chB g g' n = chB g g' m := by
  induction m with
  | zero => rw [show n = 0 by omega]
  | succ m ih =>
    rcases (by omega : n = m + 1 ∨ n ≤ m) with q | q
    · rw [q]
    · rw [chB, ih (fun k h1 h2 => h k h1 (by omega)) q, h m q (by omega)]
      simp
theorem bgB_ext {g : Int → Int} {n m : Nat} (h : ∀ k : Nat, n ≤ k → k < m → g k ≤ 20000000) (hn : n ≤ m) : bgB g n = bgB g m := by
  induction m with
  | zero => rw [show n = 0 by omega]
  | succ m ih =>
    rcases (by omega : n = m + 1 ∨ n ≤ m) with q | q
    · rw [q]
    · have := h m q (by omega)
      rw [bgB, ih (fun k h1 h2 => h k h1 (by omega)) q, decide_eq_false (by omega)]
      simp
section
variable {G : aCX} {l : Launch} {d : Nat} {K : Nat → aKd} {D : Nat → Int → Int} {z : Nat × Nat} {P : Int → aSt → Prop}
def ToD (a : Nat) (D : Nat → Int → Int) (n : Nat) (D' : Nat → Int → Int) : Prop := (∀ r, r ≠ 106 → r ≠ a + 2 → D' r = D r) ∧ (∀ i : Nat, i < n → D' 106 i = (if D (a + 1) i + D 105 i = D (a + 2) i then 0 else 1) ∧ D' (a + 2) i = D (a + 1) i + D 105 i) ∧ ∀ i : Nat, n ≤ i → D' 106 i = D 106 i ∧ D' (a + 2) i = D (a + 2) i
theorem v_takeOver {a n : Nat} (hk : Kn K) (ha : Kh K a) (hn : n ≤ 12) (hd : ∀ i : Nat, i < 12 → 0 ≤ D (a + 1) i ∧ D (a + 1) i ≤ 6000000) (hf : ∀ i : Nat, i < 12 → 0 ≤ D 105 i ∧ D 105 i ≤ 480000000) (kk : ∀ D', ToD a D n D' → P (if chB (D (a + 2)) (fun i => D (a + 1) i + D 105 i) n = true then 1 else 0) (K, D', z)) : VM G l d iX6_takeOver [rf 104, rf a, (0, (n : Int))] (K, D, z) P := by
  obtain ⟨ha0, k0, k1, k2, k3, k4, k5, k6, k7, k8, k9⟩ := ha
  have loop : ∀ (m i : Nat) (D1 : Nat → Int → Int) (u5 : aTV), i + m = n → ToD a D i D1 → V G l d iX6_takeOver 5 [rf 104, rf a, (0, (n : Int)), (0, if chB (D (a + 2)) (fun i => D (a + 1) i + D 105 i) i = true then 1 else 0), (0, (i : Int)), u5] [] (K, D1, z) P := by
    intro m
    induction m with
    | zero =>
      intro i D1 u5 h1 hD
      have hi : i = n := by omega
      subst hi
      refine s_il4 rfl ?_
      refine s_il2 rfl ?_
      refine s_cge rfl ?_ ?_
      · intro h8
        refine s_il3 rfl ?_
        refine s_retz rfl rfl (by split <;> omega) ?_
        exact kk D1 hD
      · intro h8
        omega
    | succ m ih =>
      intro i D1 u5 h1 hD
      obtain ⟨f1, f2, f3⟩ := id hD
      have w1 : D1 (a + 1) = D (a + 1) := f1 _ (by omega) (by omega)
      have w5 : D1 105 = D 105 := f1 _ (by omega) (by omega)
      have w2 := (f3 i (Nat.le_refl _)).2
      have e1 : chB (D (a + 2)) (fun i => D (a + 1) i + D 105 i) (i + 1) = (chB (D (a + 2)) (fun i => D (a + 1) i + D 105 i) i || !decide (D (a + 1) i + D 105 i = D (a + 2) i)) := rfl
      have hdi := hd i (by omega)
      have hfi := hf i (by omega)
      have fin : ∀ (b : Int) (D2 : Nat → Int → Int), b = (if chB (D (a + 2)) (fun i => D (a + 1) i + D 105 i) (i + 1) = true then 1 else 0) → (∀ r, r ≠ 106 → D2 r = D1 r) → (∀ j : Nat, D2 106 j = if j = i then (if D (a + 1) i + D 105 i = D (a + 2) i then 0 else 1) else D1 106 j) → V G l d iX6_takeOver 71 [rf 104, rf a, (0, (n : Int)), (0, if chB (D (a + 2)) (fun i => D (a + 1) i + D 105 i) i = true then 1 else 0), (0, (i : Int)), (0, D (a + 1) i + D 105 i)] [(0, b)] (K, D2, z) P := by
        intro b D2 hb g1 g2
        subst hb
        refine s_is3 rfl rfl ?_
        refine s_al1 rfl ?_
        refine s_gf rfl k0 rfl rfl ?_
        refine s_il4 rfl ?_
        refine s_il5 rfl ?_
        refine s_iast rfl k2 (by omega) ?_
        refine s_iinc4 rfl rfl ⟨by omega, by omega⟩ ?_
        refine s_go rfl ?_
        refine ih (i + 1) _ _ (by omega) ⟨fun r q1 q2 => ?_, fun j hj => ?_, fun j hj => ?_⟩
        · rw [aUp_row q2, g1 r q1]; exact f1 r q1 q2
        · rw [aUp_row (by omega), aUp_same, g2]
          unfold uF
          rcases (by omega : j < i ∨ j = i) with q | q
          · rw [if_neg (show ¬ j = i by omega), if_neg (show ¬ (j : Int) = i by omega), g1 _ (by omega)]; exact f2 j q
          · subst q; rw [if_pos rfl, if_pos rfl]; exact ⟨rfl, rfl⟩
        · rw [aUp_row (by omega), aUp_same, g2, if_neg (by omega), uF_ne (by omega), g1 _ (by omega)]; exact f3 j (by omega)
      have moved : ∀ b : Int, b = (if D (a + 1) i + D 105 i = D (a + 2) i then 0 else 1) → V G l d iX6_takeOver 51 [rf 104, rf a, (0, (n : Int)), (0, if chB (D (a + 2)) (fun i => D (a + 1) i + D 105 i) i = true then 1 else 0), (0, (i : Int)), (0, D (a + 1) i + D 105 i)] [(0, b), (0, (i : Int)), rf 106] (K, D1, z) P := by
        intro b hb
        have hb01 : b = 0 ∨ b = 1 := by rw [hb]; split <;> omega
        have e2 : ∀ j : Nat, aUp D1 106 i b 106 j = if j = i then (if D (a + 1) i + D 105 i = D (a + 2) i then 0 else 1) else D1 106 j := fun j => by
          rw [aUp_same, ← hb]
          unfold uF
          by_cases q : j = i
          · rw [if_pos (by omega), if_pos q]
          · rw [if_neg (by omega), if_neg q]
        have e3 : aUp D1 106 i b 106 i = b := by rw [aUp_same, uF_at]
        refine s_bast rfl (hk.at rfl rfl) (by omega) hb01 ?_
        refine s_il3 rfl ?_
        refine s_zne rfl ?_ ?_
        · intro h53
          have hc : chB (D (a + 2)) (fun i => D (a + 1) i + D 105 i) i = true := Decidable.byContradiction fun q => h53 (if_neg q)
          refine s_ic rfl ?_
          refine s_go rfl ?_
          refine fin _ _ ?_ (fun r hr => aUp_row hr) e2
          rw [e1, hc]
          first | rfl | (rw [decide_eq_true hq]; rfl) | (rw [decide_eq_false hq]; rfl)
        · intro h53
          have hc : chB (D (a + 2)) (fun i => D (a + 1) i + D 105 i) i = false := by
            cases hq : chB (D (a + 2)) (fun i => D (a + 1) i + D 105 i) i with
            | false => rfl
            | true => rw [if_pos hq] at h53; cases h53
          refine s_al0 rfl ?_
          refine s_gf rfl (hk.at rfl rfl) rfl rfl ?_
          refine s_il4 rfl ?_
          refine s_bald rfl (hk.at rfl rfl) (by omega) ?_
          rw [e3]
          refine s_zeq rfl ?_ ?_
          · intro h63
            have hq : D (a + 1) i + D 105 i = D (a + 2) i := Decidable.byContradiction fun q => by rw [hb, if_neg q] at h63; cases h63
            refine s_ic rfl ?_
            refine fin _ _ ?_ (fun r hr => aUp_row hr) e2
            rw [e1, hc]
            first | rfl | (rw [decide_eq_true hq]; rfl) | (rw [decide_eq_false hq]; rfl)
          · intro h63
            have hq : ¬ D (a + 1) i + D 105 i = D (a + 2) i := fun q => h63 (by rw [hb, if_pos q])
            refine s_ic rfl ?_
            refine s_go rfl ?_
            refine fin _ _ ?_ (fun r hr => aUp_row hr) e2
            rw [e1, hc]
            first | rfl | (rw [decide_eq_true hq]; rfl) | (rw [decide_eq_false hq]; rfl)
      refine s_il4 rfl ?_
      refine s_il2 rfl ?_
      refine s_cge rfl ?_ ?_
      · intro h8
        omega
      · intro h8
        refine s_al1 rfl ?_
        refine s_gf rfl k0 rfl rfl ?_
        refine s_il4 rfl ?_
        refine s_iald rfl k1 (by omega) ?_
        rw [w1]
        refine s_al0 rfl ?_
        refine s_gf rfl (hk.at rfl rfl) rfl rfl ?_
        refine s_il4 rfl ?_
        refine s_iald rfl (hk.at rfl rfl) (by omega) ?_
        rw [w5]
        refine s_iadd rfl ⟨by omega, by omega⟩ ?_
        refine s_is5 rfl rfl ?_
        refine s_al0 rfl ?_
        refine s_gf rfl (hk.at rfl rfl) rfl rfl ?_
        refine s_il4 rfl ?_
        refine s_il5 rfl ?_
        refine s_al1 rfl ?_
        refine s_gf rfl k0 rfl rfl ?_
        refine s_il4 rfl ?_
        refine s_iald rfl k2 (by omega) ?_
        rw [w2]
        refine s_ceq rfl ?_ ?_
        · intro h43
          refine s_ic rfl ?_
          exact moved _ (by first | rw [if_pos h43] | rw [if_neg h43])
        · intro h43
          refine s_ic rfl ?_
          refine s_go rfl ?_
          exact moved _ (by first | rw [if_pos h43] | rw [if_neg h43])
  refine VM_go (tg2 rfl) (Nat.le_of_ble_eq_true rfl) ?_
  refine s_ic rfl ?_
  refine s_is3 rfl rfl ?_
  refine s_ic rfl ?_
  refine s_is4 rfl rfl ?_
  exact loop n 0 D _ (by omega) ⟨fun _ _ _ => rfl, fun i hi => absurd hi (Nat.not_lt_zero i), fun _ _ => ⟨rfl, rfl⟩⟩
theorem v_isTooMuch {a n : Nat} (ha : Kh K a) (hn : n ≤ 12) (kk : P (if bgB (D (a + 2)) n = true then 1 else 0) (K, D, z)) : VM G l d iX6_isTooMuch [rf a, (0, (n : Int))] (K, D, z) P := by
  obtain ⟨ha0, k0, k1, k2, k3, k4, k5, k6, k7, k8, k9⟩ := ha
  have loop : ∀ (m i : Nat), i + m = n → bgB (D (a + 2)) i = false → V G l d iX6_isTooMuch 2 [rf a, (0, (n : Int)), (0, (i : Int))] [] (K, D, z) P := by
    intro m
    induction m with
    | zero =>
      intro i h1 hb
      have hi : i = n := by omega
      subst hi
      rw [hb] at kk
      refine s_il2 rfl ?_
      refine s_il1 rfl ?_
      refine s_cge rfl ?_ ?_
      · intro h4
        refine s_ic rfl ?_
        refine s_retz rfl rfl (by omega) ?_
        exact kk
      · intro h4
        omega
    | succ m ih =>
      intro i h1 hb
      have e : bgB (D (a + 2)) (i + 1) = (bgB (D (a + 2)) i || decide (20000000 < D (a + 2) i)) := rfl
      refine s_il2 rfl ?_
      refine s_il1 rfl ?_
      refine s_cge rfl ?_ ?_
      · intro h4
        omega
      · intro h4
        refine s_al0 rfl ?_
        refine s_gf rfl k0 rfl rfl ?_
        refine s_il2 rfl ?_
        refine s_iald rfl k2 (by omega) ?_
        refine s_ic rfl ?_
        refine s_cle rfl ?_ ?_
        · intro h15
          refine s_iinc2 rfl rfl ⟨by omega, by omega⟩ ?_
          refine s_go rfl ?_
          exact ih (i + 1) (by omega) (by rw [e, hb, decide_eq_false (by omega)]; rfl)
        · intro h15
          have hq : bgB (D (a + 2)) n = true := bgB_iff.mpr ⟨i, by omega, h15⟩
          rw [if_pos hq] at kk
          refine s_ic rfl ?_
          refine s_retz rfl rfl (by omega) ?_
          exact kk
  refine VM_go (tg2 rfl) (Nat.le_of_ble_eq_true rfl) ?_
  refine s_ic rfl ?_
  refine s_is2 rfl rfl ?_
  exact loop n 0 (by omega) rfl
end
