/-! ===== split, purse ===== -/
section
variable {G : aCX} {l : Launch} {d : Nat} {K : Nat → aKd} {D : Nat → Int → Int} {z : Nat × Nat} {P : Int → aSt → Prop}
theorem v_split {q y : Int} (hk : Kn K) (hy : y = 0 ∨ y = 1) (hn : D 89 0 ≤ 60) (k1 : 0 ≤ q ∧ q < D 89 0 → P 1 (K, aUp (aUp (aUp (aUp (aUp D 95 q y) 1 10 0) 1 11 0) 116 1 0) 116 2 0, z)) (k0 : ¬ (0 ≤ q ∧ q < D 89 0) → P 0 (K, D, z)) : VM G l (d + 1) iX11_split [rf 1, (0, q), (0, y)] (K, D, z) P := by
  refine VM_go (tg2 rfl) (Nat.le_of_ble_eq_true rfl) ?_
  refine s_al0 rfl ?_
  refine s_il1 rfl ?_
  refine s_callO rfl rfl (Or.inl rfl) rfl rfl (hk.at rfl rfl) (v_isLoss hk ?_)
  show V G l (d + 1) iX11_split 5 [rf 1, (0, q), (0, y)] [(0, if 0 ≤ q ∧ q < D 89 0 then 1 else 0)] (K, D, z) P
  generalize hc : (if 0 ≤ q ∧ q < D 89 0 then (1 : Int) else 0) = c
  refine s_zne rfl ?_ ?_
  · intro h5
    have hq : 0 ≤ q ∧ q < D 89 0 := Decidable.byContradiction fun x => by rw [if_neg x] at hc; omega
    refine s_al0 rfl ?_
    refine s_gf rfl (hk.at rfl rfl) rfl rfl ?_
    refine s_gf rfl (hk.at rfl rfl) rfl rfl ?_
    refine s_il1 rfl ?_
    refine s_il2 rfl ?_
    refine s_bast rfl (hk.at rfl rfl) (by omega) hy ?_
    refine s_al0 rfl ?_
    refine s_callO rfl rfl (Or.inl rfl) rfl rfl (hk.at rfl rfl) (v_forgetAnswers hk ?_)
    show V G l (d + 1) iX11_split 24 [rf 1, (0, q), (0, y)] [] (K, _, z) P
    refine s_ic rfl ?_
    refine s_retz rfl rfl (Or.inr rfl) ?_
    exact k1 hq
  · intro h5
    have hq : ¬ (0 ≤ q ∧ q < D 89 0) := fun x => by rw [if_pos x] at hc; omega
    refine s_ic rfl ?_
    refine s_retz rfl rfl (Or.inl rfl) ?_
    exact k0 hq
theorem u_split {q y : Int} (hk : Kn K) (hy : y = 0 ∨ y = 1) (hn : D 210 37 ≤ 60) (k1 : 0 ≤ q ∧ q < D 210 37 → P 1 (K, aUp (aUp D 210 0 0) 243 q y, z)) (k0 : ¬ (0 ≤ q ∧ q < D 210 37) → P 0 (K, aUp D 210 0 0, z)) : VM G l (d + 1) iX12_split [rf 210, (0, q), (0, y)] (K, D, z) P := by
  have e : aUp D 210 0 0 210 37 = D 210 37 := aUp_ne (by decide)
  refine VM_go (tg2 rfl) (Nat.le_of_ble_eq_true rfl) ?_
  refine s_al0 rfl ?_
  refine s_ic rfl ?_
  refine s_pi rfl (hk.at rfl rfl) rfl ?_
  refine s_al0 rfl ?_
  refine s_il1 rfl ?_
  refine s_callO rfl rfl (Or.inl rfl) rfl rfl (hk.at rfl rfl) (u_isLoss hk ?_)
  rw [e]
  show V G l (d + 1) iX12_split 10 [rf 210, (0, q), (0, y)] [(0, if 0 ≤ q ∧ q < D 210 37 then 1 else 0)] (K, aUp D 210 0 0, z) P
  generalize hc : (if 0 ≤ q ∧ q < D 210 37 then (1 : Int) else 0) = c
  refine s_zne rfl ?_ ?_
  · intro h10
    have hq : 0 ≤ q ∧ q < D 210 37 := Decidable.byContradiction fun x => by rw [if_neg x] at hc; omega
    refine s_al0 rfl ?_
    refine s_gf rfl (hk.at rfl rfl) rfl rfl ?_
    refine s_il1 rfl ?_
    refine s_il2 rfl ?_
    refine s_bast rfl (hk.at rfl rfl) (by omega) hy ?_
    refine s_ic rfl ?_
    refine s_retz rfl rfl (Or.inr rfl) ?_
    exact k1 hq
  · intro h10
    have hq : ¬ (0 ≤ q ∧ q < D 210 37) := fun x => by rw [if_pos x] at hc; omega
    refine s_ic rfl ?_
    refine s_retz rfl rfl (Or.inl rfl) ?_
    exact k0 hq
theorem v_purse {h n : Int} (hk : Kn K) (k1 : (0 ≤ h ∧ h ≤ 11) ∧ (0 ≤ n ∧ n ≤ 99999999) → P 1 (K, aUp (aUp D 122 h n) 1 11 0, z)) (k0 : ¬ ((0 ≤ h ∧ h ≤ 11) ∧ (0 ≤ n ∧ n ≤ 99999999)) → P 0 (K, D, z)) : VM G l (d + 1) iX11_purse [rf 1, (0, h), (0, n)] (K, D, z) P := by
  refine VM_go (tg2 rfl) (Nat.le_of_ble_eq_true rfl) ?_
  refine s_il1 rfl ?_
  refine s_ic rfl ?_
  refine s_callS rfl rfl rfl rfl (v_isWithin ?_)
  show V G l (d + 1) iX11_purse 6 [rf 1, (0, h), (0, n)] [(0, if 0 ≤ h ∧ h ≤ 11 then 1 else 0)] (K, D, z) P
  generalize hc : (if 0 ≤ h ∧ h ≤ 11 then (1 : Int) else 0) = c
  refine s_zeq rfl ?_ ?_
  · intro h6
    have hq : ¬ (0 ≤ h ∧ h ≤ 11) := fun q => by rw [if_pos q] at hc; omega
    refine s_ic rfl ?_
    refine s_retz rfl rfl (Or.inl rfl) ?_
    exact k0 (by omega)
  · intro h6
    have hq : 0 ≤ h ∧ h ≤ 11 := Decidable.byContradiction fun q => by rw [if_neg q] at hc; omega
    refine s_il2 rfl ?_
    refine s_ic rfl ?_
    refine s_callS rfl rfl rfl rfl (v_isWithin ?_)
    show V G l (d + 1) iX11_purse 16 [rf 1, (0, h), (0, n)] [(0, if 0 ≤ n ∧ n ≤ 99999999 then 1 else 0)] (K, D, z) P
    generalize hc2 : (if 0 ≤ n ∧ n ≤ 99999999 then (1 : Int) else 0) = c2
    refine s_zne rfl ?_ ?_
    · intro h16
      have hq2 : 0 ≤ n ∧ n ≤ 99999999 := Decidable.byContradiction fun q => by rw [if_neg q] at hc2; omega
      refine s_al0 rfl ?_
      refine s_gf rfl (hk.at rfl rfl) rfl rfl ?_
      refine s_gf rfl (hk.at rfl rfl) rfl rfl ?_
      refine s_il1 rfl ?_
      refine s_il2 rfl ?_
      refine s_iast rfl (hk.at rfl rfl) (by omega) ?_
      refine s_al0 rfl ?_
      refine s_ic rfl ?_
      refine s_pz rfl (hk.at rfl rfl) rfl (Or.inl rfl) ?_
      refine s_ic rfl ?_
      refine s_retz rfl rfl (Or.inr rfl) ?_
      exact k1 ⟨hq, hq2⟩
    · intro h16
      have hq2 : ¬ (0 ≤ n ∧ n ≤ 99999999) := fun q => by rw [if_pos q] at hc2; omega
      refine s_ic rfl ?_
      refine s_retz rfl rfl (Or.inl rfl) ?_
      exact k0 (by omega)
theorem u_purse {h n : Int} (hk : Kn K) (k1 : (0 ≤ h ∧ h ≤ 11) ∧ (0 ≤ n ∧ n ≤ 99999999) → P 1 (K, aUp (aUp D 210 0 0) 272 h n, z)) (k0 : ¬ ((0 ≤ h ∧ h ≤ 11) ∧ (0 ≤ n ∧ n ≤ 99999999)) → P 0 (K, aUp D 210 0 0, z)) : VM G l (d + 1) iX12_purse [rf 210, (0, h), (0, n)] (K, D, z) P := by
  refine VM_go (tg2 rfl) (Nat.le_of_ble_eq_true rfl) ?_
  refine s_al0 rfl ?_
  refine s_ic rfl ?_
  refine s_pi rfl (hk.at rfl rfl) rfl ?_
  refine s_il1 rfl ?_
  refine s_ic rfl ?_
  refine s_ic rfl ?_
  refine s_callS rfl rfl rfl rfl (u_within ?_)
  show V G l (d + 1) iX12_purse 12 [rf 210, (0, h), (0, n)] [(0, if 0 ≤ h ∧ h ≤ 11 then 1 else 0)] (K, aUp D 210 0 0, z) P
  generalize hc : (if 0 ≤ h ∧ h ≤ 11 then (1 : Int) else 0) = c
  refine s_zeq rfl ?_ ?_
  · intro h12
    have hq : ¬ (0 ≤ h ∧ h ≤ 11) := fun q => by rw [if_pos q] at hc; omega
    refine s_ic rfl ?_
    refine s_retz rfl rfl (Or.inl rfl) ?_
    exact k0 (by omega)
  · intro h12
    have hq : 0 ≤ h ∧ h ≤ 11 := Decidable.byContradiction fun q => by rw [if_neg q] at hc; omega
    refine s_il2 rfl ?_
    refine s_ic rfl ?_
    refine s_ic rfl ?_
    refine s_callS rfl rfl rfl rfl (u_within ?_)
    show V G l (d + 1) iX12_purse 23 [rf 210, (0, h), (0, n)] [(0, if 0 ≤ n ∧ n ≤ 99999999 then 1 else 0)] (K, aUp D 210 0 0, z) P
    generalize hc2 : (if 0 ≤ n ∧ n ≤ 99999999 then (1 : Int) else 0) = c2
    refine s_zne rfl ?_ ?_
    · intro h23
      have hq2 : 0 ≤ n ∧ n ≤ 99999999 := Decidable.byContradiction fun q => by rw [if_neg q] at hc2; omega
      refine s_al0 rfl ?_
      refine s_gf rfl (hk.at rfl rfl) rfl rfl ?_
      refine s_il1 rfl ?_
      refine s_il2 rfl ?_
      refine s_iast rfl (hk.at rfl rfl) (by omega) ?_
      refine s_ic rfl ?_
      refine s_retz rfl rfl (Or.inr rfl) ?_
      exact k1 ⟨hq, hq2⟩
    · intro h23
      have hq2 : ¬ (0 ≤ n ∧ n ≤ 99999999) := fun q => by rw [if_pos q] at hc2; omega
      refine s_ic rfl ?_
      refine s_retz rfl rfl (Or.inl rfl) ?_
      exact k0 (by omega)
end
