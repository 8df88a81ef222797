/-! ===== clearing: the class ===== -/
def ntC (D : Nat → Int → Int) (a b : Int) : Int := if 0 < D 102 (a * 12 + b) - D 102 (b * 12 + a) then D 102 (a * 12 + b) - D 102 (b * 12 + a) else 0
def shF (p n o : Int) : Int := if o = 0 then 0 else p * n / o
theorem ntC_nn {D : Nat → Int → Int} {a b : Int} : 0 ≤ ntC D a b := by unfold ntC; split <;> omega
theorem shF_in {p n o : Int} (hp : 0 ≤ p ∧ p ≤ o) (hn : 0 ≤ n) : 0 ≤ shF p n o ∧ shF p n o ≤ n := by
  unfold shF
  split
  · omega
  · have h1 : 0 ≤ p * n := Int.mul_nonneg hp.1 hn
    refine ⟨Int.ediv_nonneg h1 (by omega), Int.ediv_le_of_le_mul (by omega) ?_⟩
    rw [Int.mul_comm n o]
    exact Int.mul_le_mul_of_nonneg_right hp.2 hn
section
variable {G : aCX} {l : Launch} {d : Nat} {K : Nat → aKd} {D : Nat → Int → Int} {z : Nat × Nat} {P : Int → aSt → Prop}
theorem v_takeNet {h : Int} {n : Nat} (hk : Kn K) (hh : 0 ≤ h ∧ h < 12) (hn : n ≤ 12) (hO : ∀ a b : Int, 0 ≤ a → a < 12 → 0 ≤ b → b < 12 → 0 ≤ D 102 (a * 12 + b) ∧ D 102 (a * 12 + b) ≤ 2000000000) (hs : sumF (fun i : Nat => ntC D h i) n ≤ 2000000000) (kk : ∀ D', (∀ r, r ≠ 123 → r ≠ 127 → D' r = D r) → D' 123 = uF (D 123) h (sumF (fun i : Nat => ntC D h i) n) → (∀ i : Nat, i < n → D' 127 (h * 12 + i) = ntC D h i) → (∀ j : Int, ¬ (h * 12 ≤ j ∧ j < h * 12 + n) → D' 127 j = D 127 j) → P 0 (K, D', z)) : VM G l (d + 1) iX1_takeNet [rf 121, rf 101, (0, h), (0, (n : Int))] (K, D, z) P := by
  have loop : ∀ (m i : Nat) (D1 : Nat → Int → Int) (u5 : aTV), i + m = n → (∀ r, r ≠ 123 → r ≠ 127 → D1 r = D r) → D1 123 = uF (D 123) h (sumF (fun i : Nat => ntC D h i) i) → (∀ k : Nat, k < i → D1 127 (h * 12 + k) = ntC D h k) → (∀ j : Int, ¬ (h * 12 ≤ j ∧ j < h * 12 + i) → D1 127 j = D 127 j) → V G l (d + 1) iX1_takeNet 10 [rf 121, rf 101, (0, h), (0, (n : Int)), (0, (i : Int)), u5] [] (K, D1, z) P := by
    intro m
    induction m with
    | zero =>
      intro i D1 u5 hm g1 g2 g3 g4
      have hi : i = n := by omega
      subst hi
      refine s_il4 rfl ?_
      refine s_il3 rfl ?_
      refine s_cge rfl ?_ ?_
      · intro h13
        refine s_retv rfl rfl ?_
        exact kk D1 g1 g2 g3 g4
      · intro h13
        omega
    | succ m ih =>
      intro i D1 u5 hm g1 g2 g3 g4
      have q1 := hO h i hh.1 hh.2 (by omega) (by omega)
      have q2 := hO i h (by omega) (by omega) hh.1 hh.2
      have e : sumF (fun i : Nat => ntC D h i) (i + 1) = sumF (fun i : Nat => ntC D h i) i + ntC D h i := rfl
      have s0 := sumF_nonneg (f := fun i : Nat => ntC D h i) (n := i) (fun _ _ => ntC_nn)
      have s1 := sumF_mono (f := fun i : Nat => ntC D h i) (n := i + 1) (m := n) (fun _ _ => ntC_nn) (by omega)
      have s2 : 0 ≤ ntC D h i := ntC_nn
      have w2 : D1 102 = D 102 := g1 _ (by omega) (by omega)
      have w3 : ∀ j x, aUp D1 127 j x 123 h = sumF (fun i : Nat => ntC D h i) i := fun j x => by rw [aUp_row (by omega), g2, uF_at]
      refine s_il4 rfl ?_
      refine s_il3 rfl ?_
      refine s_cge rfl ?_ ?_
      · intro h13
        omega
      · intro h13
        refine s_ic rfl ?_
        refine s_al1 rfl ?_
        refine s_il2 rfl ?_
        refine s_il4 rfl ?_
        refine s_callO rfl rfl (Or.inl rfl) rfl rfl (hk.at rfl rfl) (v_owedBy hk hh ⟨by omega, by omega⟩ ?_)
        rw [w2]
        show V G l (d + 1) iX1_takeNet 24 [rf 121, rf 101, (0, h), (0, (n : Int)), (0, (i : Int)), u5] [(0, D 102 (h * 12 + i)), (0, 0)] (K, D1, z) P
        refine s_al1 rfl ?_
        refine s_il4 rfl ?_
        refine s_il2 rfl ?_
        refine s_callO rfl rfl (Or.inl rfl) rfl rfl (hk.at rfl rfl) (v_owedBy hk ⟨by omega, by omega⟩ hh ?_)
        rw [w2]
        show V G l (d + 1) iX1_takeNet 31 [rf 121, rf 101, (0, h), (0, (n : Int)), (0, (i : Int)), u5] [(0, D 102 (i * 12 + h)), (0, D 102 (h * 12 + i)), (0, 0)] (K, D1, z) P
        refine s_isub rfl ⟨by omega, by omega⟩ ?_
        refine s_max rfl rfl ?_
        change V G l (d + 1) iX1_takeNet 35 _ [(0, ntC D h i)] _ P
        refine s_is5 rfl rfl ?_
        refine s_al0 rfl ?_
        refine s_gf rfl (hk.at rfl rfl) rfl rfl ?_
        refine s_il2 rfl ?_
        refine s_ic rfl ?_
        refine s_imul rfl ⟨by omega, by omega⟩ ?_
        refine s_il4 rfl ?_
        refine s_iadd rfl ⟨by omega, by omega⟩ ?_
        refine s_il5 rfl ?_
        refine s_iast rfl (hk.at rfl rfl) (by omega) ?_
        refine s_al0 rfl ?_
        refine s_gf rfl (hk.at rfl rfl) rfl rfl ?_
        refine s_il2 rfl ?_
        refine s_dup2 rfl rfl rfl ?_
        refine s_iald rfl (hk.at rfl rfl) (by omega) ?_
        rw [w3]
        refine s_il5 rfl ?_
        refine s_iadd rfl ⟨by omega, by omega⟩ ?_
        refine s_iast rfl (hk.at rfl rfl) (by omega) ?_
        refine s_iinc4 rfl rfl ⟨by omega, by omega⟩ ?_
        refine s_go rfl ?_
        refine ih (i + 1) _ _ (by omega) (fun r r1 r2 => by rw [aUp_row r1, aUp_row r2]; exact g1 r r1 r2) (by rw [aUp_same, aUp_row (by omega), g2, uF_uF, e]) (fun k hk => ?_) (fun j hj => by rw [aUp_row (by omega), aUp_ne (by omega)]; exact g4 j (by omega))
        rw [aUp_row (by omega), aUp_same]
        rcases (by omega : k < i ∨ k = i) with q | q
        · rw [uF_ne (by omega)]; exact g3 k q
        · subst q; rw [uF_at]
  refine VM_go (tg2 rfl) (Nat.le_of_ble_eq_true rfl) ?_
  refine s_al0 rfl ?_
  refine s_gf rfl (hk.at rfl rfl) rfl rfl ?_
  refine s_il2 rfl ?_
  refine s_ic rfl ?_
  refine s_iast rfl (hk.at rfl rfl) (by omega) ?_
  refine s_ic rfl ?_
  refine s_is4 rfl rfl ?_
  exact loop n 0 _ _ (by omega) (fun r r1 _ => aUp_row r1) (by rw [aUp_same]; rfl) (fun k hk => absurd hk (Nat.not_lt_zero k)) (fun j _ => by rw [aUp_row (by omega)])
theorem v_shareOf {a b : Int} (hk : Kn K) (ha : 0 ≤ a ∧ a < 12) (hb : 0 ≤ b ∧ b < 12) (hp : (0 ≤ D 124 a ∧ D 124 a ≤ D 123 a) ∧ D 123 a ≤ 2000000000) (hn : 0 ≤ D 127 (a * 12 + b) ∧ D 127 (a * 12 + b) ≤ 2000000000) (kk : P (shF (D 124 a) (D 127 (a * 12 + b)) (D 123 a)) (K, D, z)) : VM G l d iX1_shareOf [rf 121, (0, a), (0, b)] (K, D, z) P := by
  have hi := shF_in hp.1 hn.1
  have hm : 0 ≤ D 124 a * D 127 (a * 12 + b) ∧ D 124 a * D 127 (a * 12 + b) ≤ 2000000000 * 2000000000 := ⟨Int.mul_nonneg hp.1.1 hn.1, Int.mul_le_mul (by omega) hn.2 hn.1 (by decide)⟩
  refine VM_go (tg2 rfl) (Nat.le_of_ble_eq_true rfl) ?_
  refine s_al0 rfl ?_
  refine s_gf rfl (hk.at rfl rfl) rfl rfl ?_
  refine s_il1 rfl ?_
  refine s_iald rfl (hk.at rfl rfl) (by omega) ?_
  refine s_zne rfl ?_ ?_
  · intro h6
    have ed : (D 124 a * D 127 (a * 12 + b)).tdiv (D 123 a) = shF (D 124 a) (D 127 (a * 12 + b)) (D 123 a) := by unfold shF; rw [if_neg h6]; exact Int.tdiv_eq_ediv_of_nonneg hm.1
    refine s_al0 rfl ?_
    refine s_gf rfl (hk.at rfl rfl) rfl rfl ?_
    refine s_il1 rfl ?_
    refine s_iald rfl (hk.at rfl rfl) (by omega) ?_
    refine s_i2l rfl ?_
    refine s_al0 rfl ?_
    refine s_gf rfl (hk.at rfl rfl) rfl rfl ?_
    refine s_il1 rfl ?_
    refine s_ic rfl ?_
    refine s_imul rfl ⟨by omega, by omega⟩ ?_
    refine s_il2 rfl ?_
    refine s_iadd rfl ⟨by omega, by omega⟩ ?_
    refine s_iald rfl (hk.at rfl rfl) (by omega) ?_
    refine s_i2l rfl ?_
    refine s_lmul rfl ⟨by omega, by omega⟩ ?_
    refine s_al0 rfl ?_
    refine s_gf rfl (hk.at rfl rfl) rfl rfl ?_
    refine s_il1 rfl ?_
    refine s_iald rfl (hk.at rfl rfl) (by omega) ?_
    refine s_i2l rfl ?_
    refine s_ldiv rfl h6 (by rw [ed]; exact ⟨by omega, by omega⟩) ?_
    rw [ed]
    refine s_l2i rfl ⟨by omega, by omega⟩ ?_
    refine s_reti rfl rfl ?_
    exact kk
  · intro h6
    have q : D 123 a = 0 := by omega
    rw [show shF (D 124 a) (D 127 (a * 12 + b)) (D 123 a) = 0 from if_pos q] at kk
    refine s_ic rfl ?_
    refine s_reti rfl rfl ?_
    exact kk
end
