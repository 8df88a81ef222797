/-! ===== findGets: the reference ===== -/
def gtM (D : Nat → Int → Int) (i : Int) (n : Nat) : Int := sumF (fun j : Nat => shF (D 276 j) (D 273 (12 * j + i)) (D 274 j)) n
def ClM (D : Nat → Int → Int) : Prop := ∀ a : Nat, a < 12 → ((0 ≤ D 276 a ∧ D 276 a ≤ D 274 a) ∧ D 274 a ≤ 2000000000) ∧ ∀ b : Nat, b < 12 → 0 ≤ D 273 (12 * a + b) ∧ D 273 (12 * a + b) ≤ 2000000000
section
variable {G : aCX} {l : Launch} {d : Nat} {K : Nat → aKd} {D : Nat → Int → Int} {z : Nat × Nat} {P : Int → aSt → Prop}
theorem u_findGets (hk : Kn K) (hB : ClM D) (kk : ∀ D', (∀ r, r ≠ 277 → D' r = D r) → (∀ i : Nat, i < 12 → D' 277 i = gtM D i 12) → P 0 (K, D', z)) : VM G l d iX12_findGets [rf 210] (K, D, z) P := by
  have sh : ∀ i j : Nat, i < 12 → j < 12 → 0 ≤ shF (D 276 j) (D 273 (12 * j + i)) (D 274 j) ∧ shF (D 276 j) (D 273 (12 * j + i)) (D 274 j) ≤ 2000000000 := fun i j hi hj => by
    have h1 := shF_in (hB j hj).1.1 ((hB j hj).2 i hi).1
    have h2 := ((hB j hj).2 i hi).2
    omega
  have loop : ∀ (m i : Nat) (D1 : Nat → Int → Int) (u2 : aTV), i + m = 12 → (∀ r, r ≠ 277 → D1 r = D r) → (∀ k : Nat, k < i → D1 277 k = gtM D k 12) → V G l d iX12_findGets 2 [rf 210, (0, (i : Int)), u2] [] (K, D1, z) P := by
    intro m
    induction m with
    | zero =>
      intro i D1 u2 hm g1 g2
      have hi : i = 12 := by omega
      subst hi
      refine s_il1 rfl ?_
      refine s_ic rfl ?_
      refine s_cge rfl ?_ ?_
      · intro h5
        refine s_retv rfl rfl ?_
        exact kk D1 g1 g2
      · intro h5
        exact absurd h5 (by decide)
    | succ m ih =>
      intro i D1 u2 hm g1 g2
      have inner : ∀ (k j : Nat) (D2 : Nat → Int → Int), j + k = 12 → (∀ r, r ≠ 277 → D2 r = D r) → D2 277 = uF (D1 277) i (gtM D i j) → V G l d iX12_findGets 17 [rf 210, (0, (i : Int)), (0, (j : Int))] [] (K, D2, z) P := by
        intro k
        induction k with
        | zero =>
          intro j D2 hj f1 f2
          have hj2 : j = 12 := by omega
          subst hj2
          refine s_il2 rfl ?_
          refine s_ic rfl ?_
          refine s_cge rfl ?_ ?_
          · intro h20
            refine s_iinc1 rfl rfl ⟨by omega, by omega⟩ ?_
            refine s_go rfl ?_
            refine ih (i + 1) D2 _ (by omega) f1 (fun k hk => ?_)
            rw [f2]
            rcases (by omega : k < i ∨ k = i) with q | q
            · rw [uF_ne (by omega)]; exact g2 k q
            · subst q; rw [uF_at]
          · intro h20
            exact absurd h20 (by decide)
        | succ k ihk =>
          intro j D2 hj f1 f2
          have e : gtM D i (j + 1) = gtM D i j + shF (D 276 j) (D 273 (12 * j + i)) (D 274 j) := rfl
          have w7 : D2 277 i = gtM D i j := by rw [f2, uF_at]
          have s0 : 0 ≤ gtM D i j := sumF_nonneg (f := fun j : Nat => shF (D 276 j) (D 273 (12 * j + i)) (D 274 j)) (n := j) (fun x hx => (sh i x (by omega) (by omega)).1)
          have s1 : gtM D i j ≤ j * 2000000000 := sumF_le (f := fun j : Nat => shF (D 276 j) (D 273 (12 * j + i)) (D 274 j)) (n := j) (fun x hx => (sh i x (by omega) (by omega)).2)
          have s2 := sh i j (by omega) (by omega)
          have w4 : D2 274 = D 274 := f1 _ (by omega)
          have w6 : D2 276 = D 276 := f1 _ (by omega)
          have w3 : D2 273 = D 273 := f1 _ (by omega)
          obtain ⟨⟨c1, c2⟩, c3⟩ := hB j (by omega)
          have c3 := c3 i (by omega)
          have hm2 : 0 ≤ D 276 j * D 273 (12 * j + i) ∧ D 276 j * D 273 (12 * j + i) ≤ 2000000000 * 2000000000 := ⟨Int.mul_nonneg c1.1 c3.1, Int.mul_le_mul (by omega) c3.2 c3.1 (by decide)⟩
          have nx : ∀ v, v = shF (D 276 j) (D 273 (12 * j + i)) (D 274 j) → V G l d iX12_findGets 70 [rf 210, (0, (i : Int)), (0, (j : Int))] [(1, v), (1, gtM D i j), (0, (i : Int)), rf 277] (K, D2, z) P := by
            intro v hv
            subst hv
            refine s_ladd rfl ⟨by omega, by omega⟩ ?_
            refine s_last rfl (hk.at rfl rfl) (by omega) ?_
            refine s_iinc2 rfl rfl ⟨by omega, by omega⟩ ?_
            refine s_go rfl ?_
            exact ihk (j + 1) _ (by omega) (fun r hr => by rw [aUp_row hr]; exact f1 r hr) (by rw [aUp_same, f2, uF_uF, e])
          refine s_il2 rfl ?_
          refine s_ic rfl ?_
          refine s_cge rfl ?_ ?_
          · intro h20
            omega
          · intro h20
            refine s_al0 rfl ?_
            refine s_gf rfl (hk.at rfl rfl) rfl rfl ?_
            refine s_il1 rfl ?_
            refine s_dup2 rfl rfl rfl ?_
            refine s_lald rfl (hk.at rfl rfl) (by omega) ?_
            rw [w7]
            refine s_al0 rfl ?_
            refine s_gf rfl (hk.at rfl rfl) rfl rfl ?_
            refine s_il2 rfl ?_
            refine s_lald rfl (hk.at rfl rfl) (by omega) ?_
            rw [w4]
            refine s_lc rfl ?_
            refine s_lcmp rfl ?_
            refine s_zne rfl ?_ ?_
            · intro h38
              have hz : ¬ D 274 j = 0 := fun q => h38 (cmp3_eq.mpr q)
              have ed : (D 276 j * D 273 (12 * j + i)).tdiv (D 274 j) = shF (D 276 j) (D 273 (12 * j + i)) (D 274 j) := by unfold shF; rw [if_neg hz]; exact Int.tdiv_eq_ediv_of_nonneg hm2.1
              refine s_al0 rfl ?_
              refine s_gf rfl (hk.at rfl rfl) rfl rfl ?_
              refine s_il2 rfl ?_
              refine s_lald rfl (hk.at rfl rfl) (by omega) ?_
              rw [w6]
              refine s_al0 rfl ?_
              refine s_gf rfl (hk.at rfl rfl) rfl rfl ?_
              refine s_ic rfl ?_
              refine s_il2 rfl ?_
              refine s_imul rfl ⟨by omega, by omega⟩ ?_
              refine s_il1 rfl ?_
              refine s_iadd rfl ⟨by omega, by omega⟩ ?_
              refine s_lald rfl (hk.at rfl rfl) (by omega) ?_
              rw [w3]
              refine s_lmul rfl ⟨by omega, by omega⟩ ?_
              refine s_al0 rfl ?_
              refine s_gf rfl (hk.at rfl rfl) rfl rfl ?_
              refine s_il2 rfl ?_
              refine s_lald rfl (hk.at rfl rfl) (by omega) ?_
              rw [w4]
              refine s_ldiv rfl hz (by rw [ed]; exact ⟨by omega, by omega⟩) ?_
              rw [ed]
              first | exact nx _ rfl | exact nx 0 (if_pos hz).symm
            · intro h38
              have hz : D 274 j = 0 := Decidable.byContradiction fun q => by have : cmp3 (D 274 j) 0 ≠ 0 := fun x => q (cmp3_eq.mp x); omega
              refine s_lc rfl ?_
              refine s_go rfl ?_
              first | exact nx _ rfl | exact nx 0 (if_pos hz).symm
      refine s_il1 rfl ?_
      refine s_ic rfl ?_
      refine s_cge rfl ?_ ?_
      · intro h5
        omega
      · intro h5
        refine s_al0 rfl ?_
        refine s_gf rfl (hk.at rfl rfl) rfl rfl ?_
        refine s_il1 rfl ?_
        refine s_lc rfl ?_
        refine s_last rfl (hk.at rfl rfl) (by omega) ?_
        refine s_ic rfl ?_
        refine s_is2 rfl rfl ?_
        exact inner 12 0 _ rfl (fun r hr => by rw [aUp_row hr]; exact g1 r hr) (by rw [aUp_same]; rfl)
  refine VM_go (tg2 rfl) (Nat.le_of_ble_eq_true rfl) ?_
  refine s_ic rfl ?_
  refine s_is1 rfl rfl ?_
  exact loop 12 0 D _ rfl (fun _ _ => rfl) (fun k hk => absurd hk (Nat.not_lt_zero k))
end
