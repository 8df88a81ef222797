/-! ===== helpers of the public methods ===== -/
abbrev vwC (D : Nat → Int → Int) : Int := if D 1 8 = -1 then D 1 7 else D 1 8
section
variable {G : aCX} {l : Launch} {d : Nat} {K : Nat → aKd} {D : Nat → Int → Int} {z : Nat × Nat} {P : Int → aSt → Prop}
theorem v_isLoss {q : Int} (hk : Kn K) (kk : P (if 0 ≤ q ∧ q < D 89 0 then 1 else 0) (K, D, z)) : VM G l d iX11_isLoss [rf 1, (0, q)] (K, D, z) P := by
  refine VM_go (tg2 rfl) (Nat.le_of_ble_eq_true rfl) ?_
  refine s_il1 rfl ?_
  refine s_zlt rfl ?_ ?_
  · intro h1
    refine s_ic rfl ?_
    refine s_retz rfl rfl (by omega) ?_
    first | (rw [if_pos (by omega)] at kk; exact kk) | (rw [if_neg (by omega)] at kk; exact kk)
  · intro h1
    refine s_il1 rfl ?_
    refine s_al0 rfl ?_
    refine s_gf rfl (hk.at rfl rfl) rfl rfl ?_
    refine s_gi rfl (hk.at rfl rfl) rfl ?_
    refine s_cge rfl ?_ ?_
    · intro h12
      refine s_ic rfl ?_
      refine s_retz rfl rfl (by omega) ?_
      first | (rw [if_pos (by omega)] at kk; exact kk) | (rw [if_neg (by omega)] at kk; exact kk)
    · intro h12
      refine s_ic rfl ?_
      refine s_go rfl ?_
      refine s_retz rfl rfl (by omega) ?_
      first | (rw [if_pos (by omega)] at kk; exact kk) | (rw [if_neg (by omega)] at kk; exact kk)
theorem v_isHouse {q : Int} {T : Nat} (hk : Kn K) (hT : isT T) (ht : D 1 6 = (T : Nat)) (kk : P (if 0 ≤ q ∧ q < D T 0 then 1 else 0) (K, D, z)) : VM G l d iX11_isHouse [rf 1, (0, q)] (K, D, z) P := by
  refine VM_go (tg2 rfl) (Nat.le_of_ble_eq_true rfl) ?_
  refine s_il1 rfl ?_
  refine s_zlt rfl ?_ ?_
  · intro h1
    refine s_ic rfl ?_
    refine s_retz rfl rfl (by omega) ?_
    first | (rw [if_pos (by omega)] at kk; exact kk) | (rw [if_neg (by omega)] at kk; exact kk)
  · intro h1
    refine s_il1 rfl ?_
    refine s_al0 rfl ?_
    refine s_gr rfl (hk.at rfl rfl) rfl ?_
    rw [ht]
    refine s_gi rfl (KT hk hT) rfl ?_
    refine s_cge rfl ?_ ?_
    · intro h12
      refine s_ic rfl ?_
      refine s_retz rfl rfl (by omega) ?_
      first | (rw [if_pos (by omega)] at kk; exact kk) | (rw [if_neg (by omega)] at kk; exact kk)
    · intro h12
      refine s_ic rfl ?_
      refine s_go rfl ?_
      refine s_retz rfl rfl (by omega) ?_
      first | (rw [if_pos (by omega)] at kk; exact kk) | (rw [if_neg (by omega)] at kk; exact kk)
theorem v_isTreaty {q : Int} {T : Nat} (hk : Kn K) (hT : isT T) (ht : D 1 6 = (T : Nat)) (kk : P (if 0 ≤ q ∧ q < D T 1 then 1 else 0) (K, D, z)) : VM G l d iX11_isTreaty [rf 1, (0, q)] (K, D, z) P := by
  refine VM_go (tg2 rfl) (Nat.le_of_ble_eq_true rfl) ?_
  refine s_il1 rfl ?_
  refine s_zlt rfl ?_ ?_
  · intro h1
    refine s_ic rfl ?_
    refine s_retz rfl rfl (by omega) ?_
    first | (rw [if_pos (by omega)] at kk; exact kk) | (rw [if_neg (by omega)] at kk; exact kk)
  · intro h1
    refine s_il1 rfl ?_
    refine s_al0 rfl ?_
    refine s_gr rfl (hk.at rfl rfl) rfl ?_
    rw [ht]
    refine s_gi rfl (KT hk hT) rfl ?_
    refine s_cge rfl ?_ ?_
    · intro h12
      refine s_ic rfl ?_
      refine s_retz rfl rfl (by omega) ?_
      first | (rw [if_pos (by omega)] at kk; exact kk) | (rw [if_neg (by omega)] at kk; exact kk)
    · intro h12
      refine s_ic rfl ?_
      refine s_go rfl ?_
      refine s_retz rfl rfl (by omega) ?_
      first | (rw [if_pos (by omega)] at kk; exact kk) | (rw [if_neg (by omega)] at kk; exact kk)
theorem v_isEvent {q : Int} (hk : Kn K) (kk : P (if 0 ≤ q ∧ q < D 111 1 then 1 else 0) (K, D, z)) : VM G l d iX11_isEvent [rf 1, (0, q)] (K, D, z) P := by
  refine VM_go (tg2 rfl) (Nat.le_of_ble_eq_true rfl) ?_
  refine s_il1 rfl ?_
  refine s_zlt rfl ?_ ?_
  · intro h1
    refine s_ic rfl ?_
    refine s_retz rfl rfl (by omega) ?_
    first | (rw [if_pos (by omega)] at kk; exact kk) | (rw [if_neg (by omega)] at kk; exact kk)
  · intro h1
    refine s_il1 rfl ?_
    refine s_al0 rfl ?_
    refine s_gf rfl (hk.at rfl rfl) rfl rfl ?_
    refine s_gf rfl (hk.at rfl rfl) rfl rfl ?_
    refine s_gi rfl (hk.at rfl rfl) rfl ?_
    refine s_cge rfl ?_ ?_
    · intro h15
      refine s_ic rfl ?_
      refine s_retz rfl rfl (by omega) ?_
      first | (rw [if_pos (by omega)] at kk; exact kk) | (rw [if_neg (by omega)] at kk; exact kk)
    · intro h15
      refine s_ic rfl ?_
      refine s_go rfl ?_
      refine s_retz rfl rfl (by omega) ?_
      first | (rw [if_pos (by omega)] at kk; exact kk) | (rw [if_neg (by omega)] at kk; exact kk)
theorem v_viewDay (hk : Kn K) (kk : P (vwC D) (K, D, z)) : VM G l d iX11_viewDay [rf 1] (K, D, z) P := by
  refine VM_go (tg2 rfl) (Nat.le_of_ble_eq_true rfl) ?_
  refine s_al0 rfl ?_
  refine s_gi rfl (hk.at rfl rfl) rfl ?_
  refine s_ic rfl ?_
  refine s_cne rfl ?_ ?_
  · intro h5
    refine s_al0 rfl ?_
    refine s_gi rfl (hk.at rfl rfl) rfl ?_
    refine s_reti rfl rfl ?_
    first | (rw [show vwC D = D 1 8 from if_neg h5] at kk; exact kk) | (rw [show vwC D = D 1 7 from if_pos (by omega)] at kk; exact kk)
  · intro h5
    refine s_al0 rfl ?_
    refine s_gi rfl (hk.at rfl rfl) rfl ?_
    refine s_go rfl ?_
    refine s_reti rfl rfl ?_
    first | (rw [show vwC D = D 1 8 from if_neg h5] at kk; exact kk) | (rw [show vwC D = D 1 7 from if_pos (by omega)] at kk; exact kk)
theorem v_stormsIn (hk : Kn K) (kk : P (bAnd 63 (bXor (D 1 9) (-1))) (K, D, z)) : VM G l d iX11_stormsIn [rf 1] (K, D, z) P := by
  refine VM_go (tg2 rfl) (Nat.le_of_ble_eq_true rfl) ?_
  refine s_ic rfl ?_
  refine s_al0 rfl ?_
  refine s_gi rfl (hk.at rfl rfl) rfl ?_
  refine s_ic rfl ?_
  refine s_ixor rfl ?_
  refine s_iand rfl ?_
  refine s_reti rfl rfl ?_
  exact kk
theorem v_forgetAnswers (hk : Kn K) (kk : P 0 (K, aUp (aUp (aUp (aUp D 1 10 0) 1 11 0) 116 1 0) 116 2 0, z)) : VM G l d iX11_forgetAnswers [rf 1] (K, D, z) P := by
  refine VM_go (tg2 rfl) (Nat.le_of_ble_eq_true rfl) ?_
  refine s_al0 rfl ?_
  refine s_ic rfl ?_
  refine s_pz rfl (hk.at rfl rfl) rfl (Or.inl rfl) ?_
  refine s_al0 rfl ?_
  refine s_ic rfl ?_
  refine s_pz rfl (hk.at rfl rfl) rfl (Or.inl rfl) ?_
  refine s_al0 rfl ?_
  refine s_gf rfl (hk.at rfl rfl) rfl rfl ?_
  refine s_ic rfl ?_
  refine s_pz rfl (hk.at rfl rfl) rfl (Or.inl rfl) ?_
  refine s_al0 rfl ?_
  refine s_gf rfl (hk.at rfl rfl) rfl rfl ?_
  refine s_ic rfl ?_
  refine s_pz rfl (hk.at rfl rfl) rfl (Or.inl rfl) ?_
  refine s_retv rfl rfl ?_
  exact kk
theorem u_isHouse {q : Int} (hk : Kn K) (hh : 0 ≤ D 210 10 ∧ D 210 10 ≤ 1) (kk : P (if 0 ≤ q ∧ q < D 216 (D 210 10) then 1 else 0) (K, D, z)) : VM G l d iX12_isHouse [rf 210, (0, q)] (K, D, z) P := by
  refine VM_go (tg2 rfl) (Nat.le_of_ble_eq_true rfl) ?_
  refine s_il1 rfl ?_
  refine s_zlt rfl ?_ ?_
  · intro h1
    refine s_ic rfl ?_
    refine s_retz rfl rfl (by omega) ?_
    first | (rw [if_pos (by omega)] at kk; exact kk) | (rw [if_neg (by omega)] at kk; exact kk)
  · intro h1
    refine s_il1 rfl ?_
    refine s_al0 rfl ?_
    refine s_gf rfl (hk.at rfl rfl) rfl rfl ?_
    refine s_al0 rfl ?_
    refine s_gi rfl (hk.at rfl rfl) rfl ?_
    refine s_iald rfl (hk.at rfl rfl) (by omega) ?_
    refine s_cge rfl ?_ ?_
    · intro h14
      refine s_ic rfl ?_
      refine s_retz rfl rfl (by omega) ?_
      first | (rw [if_pos (by omega)] at kk; exact kk) | (rw [if_neg (by omega)] at kk; exact kk)
    · intro h14
      refine s_ic rfl ?_
      refine s_go rfl ?_
      refine s_retz rfl rfl (by omega) ?_
      first | (rw [if_pos (by omega)] at kk; exact kk) | (rw [if_neg (by omega)] at kk; exact kk)
theorem u_isTreaty {q : Int} (hk : Kn K) (hh : 0 ≤ D 210 10 ∧ D 210 10 ≤ 1) (kk : P (if 0 ≤ q ∧ q < D 221 (D 210 10) then 1 else 0) (K, D, z)) : VM G l d iX12_isTreaty [rf 210, (0, q)] (K, D, z) P := by
  refine VM_go (tg2 rfl) (Nat.le_of_ble_eq_true rfl) ?_
  refine s_il1 rfl ?_
  refine s_zlt rfl ?_ ?_
  · intro h1
    refine s_ic rfl ?_
    refine s_retz rfl rfl (by omega) ?_
    first | (rw [if_pos (by omega)] at kk; exact kk) | (rw [if_neg (by omega)] at kk; exact kk)
  · intro h1
    refine s_il1 rfl ?_
    refine s_al0 rfl ?_
    refine s_gf rfl (hk.at rfl rfl) rfl rfl ?_
    refine s_al0 rfl ?_
    refine s_gi rfl (hk.at rfl rfl) rfl ?_
    refine s_iald rfl (hk.at rfl rfl) (by omega) ?_
    refine s_cge rfl ?_ ?_
    · intro h14
      refine s_ic rfl ?_
      refine s_retz rfl rfl (by omega) ?_
      first | (rw [if_pos (by omega)] at kk; exact kk) | (rw [if_neg (by omega)] at kk; exact kk)
    · intro h14
      refine s_ic rfl ?_
      refine s_go rfl ?_
      refine s_retz rfl rfl (by omega) ?_
      first | (rw [if_pos (by omega)] at kk; exact kk) | (rw [if_neg (by omega)] at kk; exact kk)
theorem u_isLoss {q : Int} (hk : Kn K) (kk : P (if 0 ≤ q ∧ q < D 210 37 then 1 else 0) (K, D, z)) : VM G l d iX12_isLoss [rf 210, (0, q)] (K, D, z) P := by
  refine VM_go (tg2 rfl) (Nat.le_of_ble_eq_true rfl) ?_
  refine s_il1 rfl ?_
  refine s_zlt rfl ?_ ?_
  · intro h1
    refine s_ic rfl ?_
    refine s_retz rfl rfl (by omega) ?_
    first | (rw [if_pos (by omega)] at kk; exact kk) | (rw [if_neg (by omega)] at kk; exact kk)
  · intro h1
    refine s_il1 rfl ?_
    refine s_al0 rfl ?_
    refine s_gi rfl (hk.at rfl rfl) rfl ?_
    refine s_cge rfl ?_ ?_
    · intro h9
      refine s_ic rfl ?_
      refine s_retz rfl rfl (by omega) ?_
      first | (rw [if_pos (by omega)] at kk; exact kk) | (rw [if_neg (by omega)] at kk; exact kk)
    · intro h9
      refine s_ic rfl ?_
      refine s_go rfl ?_
      refine s_retz rfl rfl (by omega) ?_
      first | (rw [if_pos (by omega)] at kk; exact kk) | (rw [if_neg (by omega)] at kk; exact kk)
end
