def gtC (D : Nat → Int → Int) (i : Int) (n : Nat) : Int := sumF (fun j : Nat => shF (D 124 j) (D 127 (j * 12 + i)) (D 123 j)) n
def prC (D : Nat → Int → Int) (i : Int) : Int := if D 128 i + D 125 i < D 123 i then D 128 i + D 125 i else D 123 i
def ClB (D : Nat → Int → Int) (n : Nat) : Prop := (∀ a : Nat, a < n → ((0 ≤ D 124 a ∧ D 124 a ≤ D 123 a) ∧ D 123 a ≤ 2000000000) ∧ ∀ b : Nat, b < n → 0 ≤ D 127 (a * 12 + b) ∧ D 127 (a * 12 + b) ≤ 2000000000) ∧ ∀ i : Nat, i < n → gtC D i n ≤ 2000000000
section
variable {G : aCX} {l : Launch} {d : Nat} {K : Nat → aKd} {D : Nat → Int → Int} {z : Nat × Nat} {P : Int → aSt → Prop}
theorem v_takeShares {n : Nat} (hk : Kn K) (hn : n ≤ 12) (hB : ClB D n) (kk : ∀ D', (∀ r, r ≠ 125 → D' r = D r) → (∀ i : Nat, i < n → D' 125 i = gtC D i n) → (∀ j : Int, (n : Int) ≤ j → D' 125 j = D 125 j) → P 0 (K, D', z)) : VM G l (d + 1) iX1_takeShares [rf 121, (0, (n : Int))] (K, D, z) P := by
  obtain ⟨b1, b2⟩ := hB
  have sh : ∀ i j : Nat, i < n → j < n → 0 ≤ shF (D 124 j) (D 127 (j * 12 + i)) (D 123 j) := fun i j hi hj => (shF_in (b1 j hj).1.1 ((b1 j hj).2 i hi).1).1
  have loop : ∀ (m i : Nat) (D1 : Nat → Int → Int) (u3 : aTV), i + m = n → (∀ r, r ≠ 125 → D1 r = D r) → (∀ k : Nat, k < i → D1 125 k = gtC D k n) → (∀ j : Int, (i : Int) ≤ j → D1 125 j = D 125 j) → V G l (d + 1) iX1_takeShares 2 [rf 121, (0, (n : Int)), (0, (i : Int)), u3] [] (K, D1, z) P := by
    intro m
    induction m with
    | zero =>
      intro i D1 u3 hm g1 g2 g3
      have hi : i = n := by omega
      subst hi
      refine s_il2 rfl ?_
      refine s_il1 rfl ?_
      refine s_cge rfl ?_ ?_
      · intro h4
        refine s_retv rfl rfl ?_
        exact kk D1 g1 g2 g3
      · intro h4
        omega
    | succ m ih =>
      intro i D1 u3 hm g1 g2 g3
      have inner : ∀ (k j : Nat) (D2 : Nat → Int → Int), j + k = n → (∀ r, r ≠ 125 → D2 r = D r) → D2 125 = uF (D1 125) i (gtC D i j) → V G l (d + 1) iX1_takeShares 16 [rf 121, (0, (n : Int)), (0, (i : Int)), (0, (j : Int))] [] (K, D2, z) P := by
        intro k
        induction k with
        | zero =>
          intro j D2 hj f1 f2
          have hj2 : j = n := by omega
          subst hj2
          refine s_il3 rfl ?_
          refine s_il1 rfl ?_
          refine s_cge rfl ?_ ?_
          · intro h18
            refine s_iinc2 rfl rfl ⟨by omega, by omega⟩ ?_
            refine s_go rfl ?_
            refine ih (i + 1) D2 _ (by omega) f1 (fun k hk => ?_) (fun x hx => by rw [f2, uF_ne (by omega)]; exact g3 x (by omega))
            rw [f2]
            rcases (by omega : k < i ∨ k = i) with q | q
            · rw [uF_ne (by omega)]; exact g2 k q
            · subst q; rw [uF_at]
          · intro h18
            omega
        | succ k ihk =>
          intro j D2 hj f1 f2
          have e : gtC D i (j + 1) = gtC D i j + shF (D 124 j) (D 127 (j * 12 + i)) (D 123 j) := rfl
          have w5 : D2 125 i = gtC D i j := by rw [f2, uF_at]
          have s0 := sumF_nonneg (f := fun j : Nat => shF (D 124 j) (D 127 (j * 12 + i)) (D 123 j)) (n := j) (fun x hx => sh i x (by omega) (by omega))
          have s1 := sumF_mono (f := fun j : Nat => shF (D 124 j) (D 127 (j * 12 + i)) (D 123 j)) (n := j + 1) (m := n) (fun x hx => sh i x (by omega) hx) (by omega)
          have s2 := sh i j (by omega) (by omega)
          have s3 := b2 i (by omega)
          have s0' : 0 ≤ gtC D i j := s0
          have s1' : gtC D i (j + 1) ≤ gtC D i n := s1
          refine s_il3 rfl ?_
          refine s_il1 rfl ?_
          refine s_cge rfl ?_ ?_
          · intro h18
            omega
          · intro h18
            refine s_al0 rfl ?_
            refine s_gf rfl (hk.at rfl rfl) rfl rfl ?_
            refine s_il2 rfl ?_
            refine s_dup2 rfl rfl rfl ?_
            refine s_iald rfl (hk.at rfl rfl) (by omega) ?_
            rw [w5]
            refine s_al0 rfl ?_
            refine s_il3 rfl ?_
            refine s_il2 rfl ?_
            refine s_callO rfl rfl (Or.inl rfl) rfl rfl (hk.at rfl rfl) (v_shareOf hk ⟨by omega, by omega⟩ ⟨by omega, by omega⟩ (by rw [f1 124 (by omega), f1 123 (by omega)]; exact (b1 j (by omega)).1) (by rw [f1 127 (by omega)]; exact (b1 j (by omega)).2 i (by omega)) ?_)
            rw [f1 124 (by omega), f1 123 (by omega), f1 127 (by omega)]
            show V G l (d + 1) iX1_takeShares 34 [rf 121, (0, (n : Int)), (0, (i : Int)), (0, (j : Int))] [(0, shF (D 124 j) (D 127 (j * 12 + i)) (D 123 j)), (0, gtC D i j), (0, (i : Int)), rf 125] (K, D2, z) P
            refine s_iadd rfl ⟨by omega, by omega⟩ ?_
            refine s_iast rfl (hk.at rfl rfl) (by omega) ?_
            refine s_iinc3 rfl rfl ⟨by omega, by omega⟩ ?_
            refine s_go rfl ?_
            exact ihk (j + 1) _ (by omega) (fun r hr => by rw [aUp_row hr]; exact f1 r hr) (by rw [aUp_same, f2, uF_uF, e])
      refine s_il2 rfl ?_
      refine s_il1 rfl ?_
      refine s_cge rfl ?_ ?_
      · intro h4
        omega
      · intro h4
        refine s_al0 rfl ?_
        refine s_gf rfl (hk.at rfl rfl) rfl rfl ?_
        refine s_il2 rfl ?_
        refine s_ic rfl ?_
        refine s_iast rfl (hk.at rfl rfl) (by omega) ?_
        refine s_ic rfl ?_
        refine s_is3 rfl rfl ?_
        exact inner n 0 _ (by omega) (fun r hr => by rw [aUp_row hr]; exact g1 r hr) (by rw [aUp_same]; rfl)
  refine VM_go (tg2 rfl) (Nat.le_of_ble_eq_true rfl) ?_
  refine s_ic rfl ?_
  refine s_is2 rfl rfl ?_
  exact loop n 0 D _ (by omega) (fun _ _ => rfl) (fun k hk => absurd hk (Nat.not_lt_zero k)) (fun _ _ => rfl)
theorem v_payRound {n : Nat} (hk : Kn K) (hn : n ≤ 12) (hb : ∀ i : Nat, i < n → (0 ≤ D 128 i ∧ D 128 i ≤ 100000000) ∧ (0 ≤ D 125 i ∧ D 125 i ≤ 2000000000)) (kk : ∀ D', (∀ r, r ≠ 124 → D' r = D r) → (∀ i : Nat, i < n → D' 124 i = prC D i) → (∀ j : Int, (n : Int) ≤ j → D' 124 j = D 124 j) → P (if chB (D 124) (prC D) n = true then 1 else 0) (K, D', z)) : VM G l d iX1_payRound [rf 121, (0, (n : Int))] (K, D, z) P := by
  have loop : ∀ (m i : Nat) (D1 : Nat → Int → Int) (u4 : aTV), i + m = n → (∀ r, r ≠ 124 → D1 r = D r) → (∀ k : Nat, k < i → D1 124 k = prC D k) → (∀ j : Int, (i : Int) ≤ j → D1 124 j = D 124 j) → V G l d iX1_payRound 4 [rf 121, (0, (n : Int)), (0, (if chB (D 124) (prC D) i = true then 1 else 0)), (0, (i : Int)), u4] [] (K, D1, z) P := by
    intro m
    induction m with
    | zero =>
      intro i D1 u4 hm g1 g2 g3
      have hi : i = n := by omega
      subst hi
      refine s_il3 rfl ?_
      refine s_il1 rfl ?_
      refine s_cge rfl ?_ ?_
      · intro h6
        refine s_il2 rfl ?_
        refine s_retz rfl rfl (by split <;> omega) ?_
        exact kk D1 g1 g2 g3
      · intro h6
        omega
    | succ m ih =>
      intro i D1 u4 hm g1 g2 g3
      obtain ⟨c1, c2⟩ := hb i (by omega)
      have e : chB (D 124) (prC D) (i + 1) = (chB (D 124) (prC D) i || !decide (prC D i = D 124 i)) := rfl
      have w3 : D1 123 = D 123 := g1 _ (by omega)
      have w8 : D1 128 = D 128 := g1 _ (by omega)
      have w5 : D1 125 = D 125 := g1 _ (by omega)
      have w4 : D1 124 i = D 124 i := g3 i (Int.le_refl _)
      have nx : ∀ b : Int, b = (if chB (D 124) (prC D) (i + 1) = true then 1 else 0) → V G l d iX1_payRound 53 [rf 121, (0, (n : Int)), (0, (if chB (D 124) (prC D) i = true then 1 else 0)), (0, (i : Int)), (0, prC D i)] [(0, b)] (K, D1, z) P := by
        intro b hb
        subst hb
        refine s_is2 rfl rfl ?_
        refine s_al0 rfl ?_
        refine s_gf rfl (hk.at rfl rfl) rfl rfl ?_
        refine s_il3 rfl ?_
        refine s_il4 rfl ?_
        refine s_iast rfl (hk.at rfl rfl) (by omega) ?_
        refine s_iinc3 rfl rfl ⟨by omega, by omega⟩ ?_
        refine s_go rfl ?_
        refine ih (i + 1) _ _ (by omega) (fun r hr => by rw [aUp_row hr]; exact g1 r hr) (fun k hk => ?_) (fun j hj => by rw [aUp_ne (by omega)]; exact g3 j (by omega))
        rw [aUp_same]
        rcases (by omega : k < i ∨ k = i) with q | q
        · rw [uF_ne (by omega)]; exact g2 k q
        · subst q; rw [uF_at]
      refine s_il3 rfl ?_
      refine s_il1 rfl ?_
      refine s_cge rfl ?_ ?_
      · intro h6
        omega
      · intro h6
        refine s_al0 rfl ?_
        refine s_gf rfl (hk.at rfl rfl) rfl rfl ?_
        refine s_il3 rfl ?_
        refine s_iald rfl (hk.at rfl rfl) (by omega) ?_
        rw [w3]
        refine s_al0 rfl ?_
        refine s_gf rfl (hk.at rfl rfl) rfl rfl ?_
        refine s_il3 rfl ?_
        refine s_iald rfl (hk.at rfl rfl) (by omega) ?_
        rw [w8]
        refine s_al0 rfl ?_
        refine s_gf rfl (hk.at rfl rfl) rfl rfl ?_
        refine s_il3 rfl ?_
        refine s_iald rfl (hk.at rfl rfl) (by omega) ?_
        rw [w5]
        refine s_iadd rfl ⟨by omega, by omega⟩ ?_
        refine s_min rfl rfl ?_
        change V G l d iX1_payRound 31 _ [(0, prC D i)] _ P
        refine s_is4 rfl rfl ?_
        refine s_il2 rfl ?_
        refine s_zne rfl ?_ ?_
        · intro h34
          have hq : chB (D 124) (prC D) i = true := Decidable.byContradiction fun q => h34 (if_neg q)
          refine s_ic rfl ?_
          refine s_go rfl ?_
          refine nx _ ?_
          rw [e, hq]
          first | rfl | (rw [decide_eq_true h45]; rfl) | (rw [decide_eq_false h45]; rfl)
        · intro h34
          have hq : chB (D 124) (prC D) i = false := by
            cases hq : chB (D 124) (prC D) i with
            | false => rfl
            | true => rw [if_pos hq] at h34; cases h34
          refine s_il4 rfl ?_
          refine s_al0 rfl ?_
          refine s_gf rfl (hk.at rfl rfl) rfl rfl ?_
          refine s_il3 rfl ?_
          refine s_iald rfl (hk.at rfl rfl) (by omega) ?_
          rw [w4]
          refine s_ceq rfl ?_ ?_
          · intro h45
            refine s_ic rfl ?_
            refine nx _ ?_
            rw [e, hq]
            first | rfl | (rw [decide_eq_true h45]; rfl) | (rw [decide_eq_false h45]; rfl)
          · intro h45
            refine s_ic rfl ?_
            refine s_go rfl ?_
            refine nx _ ?_
            rw [e, hq]
            first | rfl | (rw [decide_eq_true h45]; rfl) | (rw [decide_eq_false h45]; rfl)
  refine VM_go (tg2 rfl) (Nat.le_of_ble_eq_true rfl) ?_
  refine s_ic rfl ?_
  refine s_is2 rfl rfl ?_
  refine s_ic rfl ?_
  refine s_is3 rfl rfl ?_
  exact loop n 0 D _ (by omega) (fun _ _ => rfl) (fun k hk => absurd hk (Nat.not_lt_zero k)) (fun _ _ => rfl)
end
