/-! ===== known, factor, foretold ===== -/
theorem E0_vw {D : Nat → Int → Int} : vwM (aUp D 210 0 0) = vwM D := by
  show (if aUp D 210 0 0 210 36 < 0 then aUp D 210 0 0 210 35 else aUp D 210 0 0 210 36) = _
  rw [aUp_ne (by decide), aUp_ne (by decide)]
theorem E0_kn {D : Nat → Int → Int} : knM (aUp D 210 0 0) = knM D := by
  show knF (aUp D 210 0 0 238) (aUp D 210 0 0 239) (aUp D 210 0 0 245) (aUp D 210 0 0 246) (aUp D 210 0 0 247) (aUp D 210 0 0 210 37).toNat (aUp D 210 0 0 210 45).toNat = _
  rw [aUp_row (by decide), aUp_row (by decide), aUp_row (by decide), aUp_row (by decide), aUp_row (by decide), aUp_ne (by decide), aUp_ne (by decide)]
theorem E0_fa {D : Nat → Int → Int} : faM (aUp D 210 0 0) = faM D := by
  show faF (aUp D 210 0 0 238) (aUp D 210 0 0 239) (aUp D 210 0 0 245) (aUp D 210 0 0 246) (aUp D 210 0 0 247) (aUp D 210 0 0 210 37).toNat (aUp D 210 0 0 210 45).toNat = _
  rw [aUp_row (by decide), aUp_row (by decide), aUp_row (by decide), aUp_row (by decide), aUp_row (by decide), aUp_ne (by decide), aUp_ne (by decide)]
theorem E0_mk {D : Nat → Int → Int} (h : MkB D) : MkB (aUp D 210 0 0) := by
  unfold MkB at h ⊢
  rw [aUp_ne (by decide), aUp_ne (by decide), aUp_row (by decide), aUp_row (by decide)]
  exact h
section
variable {G : aCX} {l : Launch} {d : Nat} {K : Nat → aKd} {D : Nat → Int → Int} {z : Nat × Nat} {P : Int → aSt → Prop}
theorem v_known {h y lag : Int} {wo : Int → Int} (hk : Kn K) (hc : ChR D wo) (hb : BkB D) (k1 : (0 ≤ h ∧ h ≤ 11) ∧ (0 ≤ y ∧ y ≤ 26) ∧ (0 ≤ lag ∧ lag ≤ 9) ∧ (y + 1 + lag) * 365 - 1 ≤ vwC D → P (knC D wo h y lag) (K, D, z)) (k0 : ¬ ((0 ≤ h ∧ h ≤ 11) ∧ (0 ≤ y ∧ y ≤ 26) ∧ (0 ≤ lag ∧ lag ≤ 9) ∧ (y + 1 + lag) * 365 - 1 ≤ vwC D) → P (-1) (K, D, z)) : VM G l (d + 3) iX11_known [rf 1, (0, h), (0, y), (0, lag)] (K, D, z) P := by
  have bad : ¬ ((0 ≤ h ∧ h ≤ 11) ∧ (0 ≤ y ∧ y ≤ 26) ∧ (0 ≤ lag ∧ lag ≤ 9)) → V G l (d + 3) iX11_known 31 [rf 1, (0, h), (0, y), (0, lag), (9, 0)] [] (K, D, z) P := by
    intro hb
    refine s_ic rfl ?_
    refine s_is4 rfl rfl ?_
    refine s_il4 rfl ?_
    refine s_zeq rfl ?_ ?_
    · intro h36
      refine s_ic rfl ?_
      refine s_reti rfl rfl ?_
      exact k0 (fun q => hb ⟨q.1, q.2.1, q.2.2.1⟩)
    · intro h36
      exact absurd rfl h36
  refine VM_go (tg2 rfl) (Nat.le_of_ble_eq_true rfl) ?_
  refine s_il1 rfl ?_
  refine s_ic rfl ?_
  refine s_callS rfl rfl rfl rfl (v_isWithin ?_)
  show V G l (d + 3) iX11_known 6 [rf 1, (0, h), (0, y), (0, lag), (9, 0)] ((0, if 0 ≤ h ∧ h ≤ 11 then 1 else 0) :: []) (K, D, z) P
  generalize h1 : (if 0 ≤ h ∧ h ≤ 11 then (1 : Int) else 0) = c_h1
  refine s_zeq rfl ?_ ?_
  · intro h6
    have h1n : ¬ (0 ≤ h ∧ h ≤ 11) := fun x => by rw [if_pos x] at h1; omega
    exact bad (fun q => h1n q.1)
  · intro h6
    have h1y : 0 ≤ h ∧ h ≤ 11 := Decidable.byContradiction fun x => by rw [if_neg x] at h1; omega
    refine s_il2 rfl ?_
    refine s_ic rfl ?_
    refine s_callS rfl rfl rfl rfl (v_isWithin ?_)
    show V G l (d + 3) iX11_known 15 [rf 1, (0, h), (0, y), (0, lag), (9, 0)] ((0, if 0 ≤ y ∧ y ≤ 26 then 1 else 0) :: []) (K, D, z) P
    generalize h2 : (if 0 ≤ y ∧ y ≤ 26 then (1 : Int) else 0) = c_h2
    refine s_zeq rfl ?_ ?_
    · intro h15
      have h2n : ¬ (0 ≤ y ∧ y ≤ 26) := fun x => by rw [if_pos x] at h2; omega
      exact bad (fun q => h2n q.2.1)
    · intro h15
      have h2y : 0 ≤ y ∧ y ≤ 26 := Decidable.byContradiction fun x => by rw [if_neg x] at h2; omega
      refine s_il3 rfl ?_
      refine s_ic rfl ?_
      refine s_callS rfl rfl rfl rfl (v_isWithin ?_)
      show V G l (d + 3) iX11_known 24 [rf 1, (0, h), (0, y), (0, lag), (9, 0)] ((0, if 0 ≤ lag ∧ lag ≤ 9 then 1 else 0) :: []) (K, D, z) P
      generalize h3 : (if 0 ≤ lag ∧ lag ≤ 9 then (1 : Int) else 0) = c_h3
      refine s_zeq rfl ?_ ?_
      · intro h24
        have h3n : ¬ (0 ≤ lag ∧ lag ≤ 9) := fun x => by rw [if_pos x] at h3; omega
        exact bad (fun q => h3n q.2.2)
      · intro h24
        have h3y : 0 ≤ lag ∧ lag ≤ 9 := Decidable.byContradiction fun x => by rw [if_neg x] at h3; omega
        refine s_ic rfl ?_
        refine s_go rfl ?_
        refine s_is4 rfl rfl ?_
        refine s_il4 rfl ?_
        refine s_zeq rfl ?_ ?_
        · intro h36
          exact absurd h36 (by decide)
        · intro h36
          refine s_il2 rfl ?_
          refine s_il3 rfl ?_
          refine s_callS rfl rfl rfl rfl (v_lateDay (by omega) (by omega) ?_)
          show V G l (d + 3) iX11_known 44 [rf 1, (0, h), (0, y), (0, lag), (0, 1)] [(0, (y + 1 + lag) * 365 - 1)] (K, D, z) P
          refine s_al0 rfl ?_
          refine s_callO rfl rfl (Or.inl rfl) rfl rfl (hk.at rfl rfl) (v_viewDay hk ?_)
          show V G l (d + 3) iX11_known 48 [rf 1, (0, h), (0, y), (0, lag), (0, 1)] [(0, vwC D), (0, (y + 1 + lag) * 365 - 1)] (K, D, z) P
          refine s_cle rfl ?_ ?_
          · intro h48
            refine s_al0 rfl ?_
            refine s_gf rfl (hk.at rfl rfl) rfl rfl ?_
            refine s_il1 rfl ?_
            refine s_il2 rfl ?_
            refine s_il3 rfl ?_
            refine s_callO rfl rfl (Or.inl rfl) rfl rfl (hk.at rfl rfl) (v_sumOfYear hk hc hb (by omega) ?_)
            show V G l (d + 3) iX11_known 63 [rf 1, (0, h), (0, y), (0, lag), (0, 1)] [(0, knC D wo h y lag)] (K, D, z) P
            refine s_reti rfl rfl ?_
            exact k1 ⟨h1y, h2y, h3y, h48⟩
          · intro h48
            refine s_ic rfl ?_
            refine s_reti rfl rfl ?_
            exact k0 (fun q => by have := q.2.2.2; omega)
theorem u_knownP {h y lag : Int} (hk : Kn K) (hb : MkB D) (k1 : (0 ≤ h ∧ h ≤ 11) ∧ (0 ≤ y ∧ y ≤ 26) ∧ (0 ≤ lag ∧ lag ≤ 9) ∧ (y + 1 + lag) * 365 - 1 ≤ vwM D → P (knM D h y lag) (K, aUp D 210 0 0, z)) (k0 : ¬ ((0 ≤ h ∧ h ≤ 11) ∧ (0 ≤ y ∧ y ≤ 26) ∧ (0 ≤ lag ∧ lag ≤ 9) ∧ (y + 1 + lag) * 365 - 1 ≤ vwM D) → P (-1) (K, aUp D 210 0 0, z)) : VM G l (d + 3) iX12_known [rf 210, (0, h), (0, y), (0, lag)] (K, D, z) P := by
  have bad : ¬ ((0 ≤ h ∧ h ≤ 11) ∧ (0 ≤ y ∧ y ≤ 26) ∧ (0 ≤ lag ∧ lag ≤ 9) ∧ (y + 1 + lag) * 365 - 1 ≤ vwM D) → V G l (d + 3) iX12_known 44 [rf 210, (0, h), (0, y), (0, lag)] [] (K, aUp D 210 0 0, z) P := by
    intro hb
    refine s_ic rfl ?_
    refine s_go rfl ?_
    refine s_reti rfl rfl ?_
    exact k0 hb
  refine VM_go (tg2 rfl) (Nat.le_of_ble_eq_true rfl) ?_
  refine s_al0 rfl ?_
  refine s_ic rfl ?_
  refine s_pi rfl (hk.at rfl rfl) rfl ?_
  refine s_il1 rfl ?_
  refine s_ic rfl ?_
  refine s_ic rfl ?_
  refine s_callS rfl rfl rfl rfl (u_within ?_)
  show V G l (d + 3) iX12_known 12 [rf 210, (0, h), (0, y), (0, lag)] ((0, if 0 ≤ h ∧ h ≤ 11 then 1 else 0) :: []) (K, aUp D 210 0 0, z) P
  generalize h1 : (if 0 ≤ h ∧ h ≤ 11 then (1 : Int) else 0) = c_h1
  refine s_zeq rfl ?_ ?_
  · intro h12
    have h1n : ¬ (0 ≤ h ∧ h ≤ 11) := fun x => by rw [if_pos x] at h1; omega
    exact bad (fun q => h1n q.1)
  · intro h12
    have h1y : 0 ≤ h ∧ h ≤ 11 := Decidable.byContradiction fun x => by rw [if_neg x] at h1; omega
    refine s_il2 rfl ?_
    refine s_ic rfl ?_
    refine s_ic rfl ?_
    refine s_callS rfl rfl rfl rfl (u_within ?_)
    show V G l (d + 3) iX12_known 22 [rf 210, (0, h), (0, y), (0, lag)] ((0, if 0 ≤ y ∧ y ≤ 26 then 1 else 0) :: []) (K, aUp D 210 0 0, z) P
    generalize h2 : (if 0 ≤ y ∧ y ≤ 26 then (1 : Int) else 0) = c_h2
    refine s_zeq rfl ?_ ?_
    · intro h22
      have h2n : ¬ (0 ≤ y ∧ y ≤ 26) := fun x => by rw [if_pos x] at h2; omega
      exact bad (fun q => h2n q.2.1)
    · intro h22
      have h2y : 0 ≤ y ∧ y ≤ 26 := Decidable.byContradiction fun x => by rw [if_neg x] at h2; omega
      refine s_il3 rfl ?_
      refine s_ic rfl ?_
      refine s_ic rfl ?_
      refine s_callS rfl rfl rfl rfl (u_within ?_)
      show V G l (d + 3) iX12_known 32 [rf 210, (0, h), (0, y), (0, lag)] ((0, if 0 ≤ lag ∧ lag ≤ 9 then 1 else 0) :: []) (K, aUp D 210 0 0, z) P
      generalize h3 : (if 0 ≤ lag ∧ lag ≤ 9 then (1 : Int) else 0) = c_h3
      refine s_zeq rfl ?_ ?_
      · intro h32
        have h3n : ¬ (0 ≤ lag ∧ lag ≤ 9) := fun x => by rw [if_pos x] at h3; omega
        exact bad (fun q => h3n q.2.2.1)
      · intro h32
        have h3y : 0 ≤ lag ∧ lag ≤ 9 := Decidable.byContradiction fun x => by rw [if_neg x] at h3; omega
        refine s_al0 rfl ?_
        refine s_il2 rfl ?_
        refine s_il3 rfl ?_
        refine s_callO rfl rfl (Or.inl rfl) rfl rfl (hk.at rfl rfl) (u_canBeKnown hk (by omega) (by omega) ?_)
        rw [E0_vw]
        show V G l (d + 3) iX12_known 41 [rf 210, (0, h), (0, y), (0, lag)] [(0, if (y + 1 + lag) * 365 - 1 ≤ vwM D then 1 else 0)] (K, aUp D 210 0 0, z) P
        generalize h4 : (if (y + 1 + lag) * 365 - 1 ≤ vwM D then (1 : Int) else 0) = c_h4
        refine s_zne rfl ?_ ?_
        · intro h41
          have h4y : (y + 1 + lag) * 365 - 1 ≤ vwM D := Decidable.byContradiction fun x => by rw [if_neg x] at h4; omega
          refine s_al0 rfl ?_
          refine s_il1 rfl ?_
          refine s_il2 rfl ?_
          refine s_il3 rfl ?_
          refine s_callO rfl rfl (Or.inl rfl) rfl rfl (hk.at rfl rfl) (u_knownOf hk (E0_mk hb) (by omega) (by omega) ?_)
          rw [E0_kn]
          show V G l (d + 3) iX12_known 55 [rf 210, (0, h), (0, y), (0, lag)] [(0, knM D h y lag)] (K, aUp D 210 0 0, z) P
          refine s_reti rfl rfl ?_
          exact k1 ⟨h1y, h2y, h3y, h4y⟩
        · intro h41
          have h4n : ¬ ((y + 1 + lag) * 365 - 1 ≤ vwM D) := fun x => by rw [if_pos x] at h4; omega
          exact bad (fun q => h4n q.2.2.2)
theorem v_factor {h lag : Int} {wo : Int → Int} (hk : Kn K) (hc : ChR D wo) (hb : BkB D) (k1 : (0 ≤ h ∧ h ≤ 11) ∧ (0 ≤ lag ∧ lag ≤ 8) → P (faC D wo h lag (vwC D)) (K, D, z)) (k0 : ¬ ((0 ≤ h ∧ h ≤ 11) ∧ (0 ≤ lag ∧ lag ≤ 8)) → P (-1) (K, D, z)) : VM G l (d + 3) iX11_factor [rf 1, (0, h), (0, lag)] (K, D, z) P := by
  refine VM_go (tg2 rfl) (Nat.le_of_ble_eq_true rfl) ?_
  refine s_il1 rfl ?_
  refine s_ic rfl ?_
  refine s_callS rfl rfl rfl rfl (v_isWithin ?_)
  show V G l (d + 3) iX11_factor 6 [rf 1, (0, h), (0, lag)] ((0, if 0 ≤ h ∧ h ≤ 11 then 1 else 0) :: []) (K, D, z) P
  generalize h1 : (if 0 ≤ h ∧ h ≤ 11 then (1 : Int) else 0) = c_h1
  refine s_zeq rfl ?_ ?_
  · intro h6
    have h1n : ¬ (0 ≤ h ∧ h ≤ 11) := fun x => by rw [if_pos x] at h1; omega
    refine s_ic rfl ?_
    refine s_reti rfl rfl ?_
    first | exact k0 (fun q => h1n q.1) | exact k0 (fun q => h2n q.2)
  · intro h6
    have h1y : 0 ≤ h ∧ h ≤ 11 := Decidable.byContradiction fun x => by rw [if_neg x] at h1; omega
    refine s_il2 rfl ?_
    refine s_ic rfl ?_
    refine s_callS rfl rfl rfl rfl (v_isWithin ?_)
    show V G l (d + 3) iX11_factor 15 [rf 1, (0, h), (0, lag)] ((0, if 0 ≤ lag ∧ lag ≤ 8 then 1 else 0) :: []) (K, D, z) P
    generalize h2 : (if 0 ≤ lag ∧ lag ≤ 8 then (1 : Int) else 0) = c_h2
    refine s_zne rfl ?_ ?_
    · intro h15
      have h2y : 0 ≤ lag ∧ lag ≤ 8 := Decidable.byContradiction fun x => by rw [if_neg x] at h2; omega
      refine s_al0 rfl ?_
      refine s_gf rfl (hk.at rfl rfl) rfl rfl ?_
      refine s_il1 rfl ?_
      refine s_il2 rfl ?_
      refine s_al0 rfl ?_
      refine s_callO rfl rfl (Or.inl rfl) rfl rfl (hk.at rfl rfl) (v_viewDay hk ?_)
      show V G l (d + 3) iX11_factor 30 [rf 1, (0, h), (0, lag)] [(0, vwC D), (0, lag), (0, h), rf 89] (K, D, z) P
      refine s_callO rfl rfl (Or.inl rfl) rfl rfl (hk.at rfl rfl) (v_growth hk hc hb (by omega) ?_)
      show V G l (d + 3) iX11_factor 33 [rf 1, (0, h), (0, lag)] [(0, faC D wo h lag (vwC D))] (K, D, z) P
      refine s_reti rfl rfl ?_
      exact k1 ⟨h1y, h2y⟩
    · intro h15
      have h2n : ¬ (0 ≤ lag ∧ lag ≤ 8) := fun x => by rw [if_pos x] at h2; omega
      refine s_ic rfl ?_
      refine s_reti rfl rfl ?_
      first | exact k0 (fun q => h1n q.1) | exact k0 (fun q => h2n q.2)
theorem u_factor {h lag : Int} (hk : Kn K) (hb : MkB D) (hv : vwM D ≤ 9999) (k1 : (0 ≤ h ∧ h ≤ 11) ∧ (0 ≤ lag ∧ lag ≤ 8) → P (faM D h lag (vwM D)) (K, aUp D 210 0 0, z)) (k0 : ¬ ((0 ≤ h ∧ h ≤ 11) ∧ (0 ≤ lag ∧ lag ≤ 8)) → P (-1) (K, aUp D 210 0 0, z)) : VM G l (d + 3) iX12_factor [rf 210, (0, h), (0, lag)] (K, D, z) P := by
  refine VM_go (tg2 rfl) (Nat.le_of_ble_eq_true rfl) ?_
  refine s_al0 rfl ?_
  refine s_ic rfl ?_
  refine s_pi rfl (hk.at rfl rfl) rfl ?_
  refine s_il1 rfl ?_
  refine s_ic rfl ?_
  refine s_ic rfl ?_
  refine s_callS rfl rfl rfl rfl (u_within ?_)
  show V G l (d + 3) iX12_factor 12 [rf 210, (0, h), (0, lag)] ((0, if 0 ≤ h ∧ h ≤ 11 then 1 else 0) :: []) (K, aUp D 210 0 0, z) P
  generalize h1 : (if 0 ≤ h ∧ h ≤ 11 then (1 : Int) else 0) = c_h1
  refine s_zeq rfl ?_ ?_
  · intro h12
    have h1n : ¬ (0 ≤ h ∧ h ≤ 11) := fun x => by rw [if_pos x] at h1; omega
    refine s_ic rfl ?_
    refine s_go rfl ?_
    refine s_reti rfl rfl ?_
    first | exact k1 ⟨h1y, h2y⟩ | exact k0 (fun q => h1n q.1) | exact k0 (fun q => h2n q.2)
  · intro h12
    have h1y : 0 ≤ h ∧ h ≤ 11 := Decidable.byContradiction fun x => by rw [if_neg x] at h1; omega
    refine s_il2 rfl ?_
    refine s_ic rfl ?_
    refine s_ic rfl ?_
    refine s_callS rfl rfl rfl rfl (u_within ?_)
    show V G l (d + 3) iX12_factor 22 [rf 210, (0, h), (0, lag)] ((0, if 0 ≤ lag ∧ lag ≤ 8 then 1 else 0) :: []) (K, aUp D 210 0 0, z) P
    generalize h2 : (if 0 ≤ lag ∧ lag ≤ 8 then (1 : Int) else 0) = c_h2
    refine s_zne rfl ?_ ?_
    · intro h22
      have h2y : 0 ≤ lag ∧ lag ≤ 8 := Decidable.byContradiction fun x => by rw [if_neg x] at h2; omega
      refine s_al0 rfl ?_
      refine s_il1 rfl ?_
      refine s_il2 rfl ?_
      refine s_callO rfl rfl (Or.inl rfl) rfl rfl (hk.at rfl rfl) (u_factorOf hk (E0_mk hb) (by rw [E0_vw]; exact hv) (by omega) ?_)
      rw [E0_fa, E0_vw]
      show V G l (d + 3) iX12_factor 35 [rf 210, (0, h), (0, lag)] [(0, faM D h lag (vwM D))] (K, aUp D 210 0 0, z) P
      refine s_reti rfl rfl ?_
      first | exact k1 ⟨h1y, h2y⟩ | exact k0 (fun q => h1n q.1) | exact k0 (fun q => h2n q.2)
    · intro h22
      have h2n : ¬ (0 ≤ lag ∧ lag ≤ 8) := fun x => by rw [if_pos x] at h2; omega
      refine s_ic rfl ?_
      refine s_go rfl ?_
      refine s_reti rfl rfl ?_
      first | exact k1 ⟨h1y, h2y⟩ | exact k0 (fun q => h1n q.1) | exact k0 (fun q => h2n q.2)
theorem v_foretold {h y : Int} {wo : Int → Int} (hk : Kn K) (hc : ChR D wo) (hb : BkB D) (k1 : (0 ≤ h ∧ h ≤ 11) ∧ (0 ≤ y ∧ y ≤ 26) → P (if lgF y (vwC D) 10 (-1) = -1 then -1 else foI (fun i => faC D wo h i (vwC D)) (9 - lgF y (vwC D) 10 (-1)).toNat (lgF y (vwC D) 10 (-1)) (knC D wo h y (lgF y (vwC D) 10 (-1)))) (K, D, z)) (k0 : ¬ ((0 ≤ h ∧ h ≤ 11) ∧ (0 ≤ y ∧ y ≤ 26)) → P (-1) (K, D, z)) : VM G l (d + 4) iX11_foretold [rf 1, (0, h), (0, y)] (K, D, z) P := by
  refine VM_go (tg2 rfl) (Nat.le_of_ble_eq_true rfl) ?_
  refine s_il1 rfl ?_
  refine s_ic rfl ?_
  refine s_callS rfl rfl rfl rfl (v_isWithin ?_)
  show V G l (d + 4) iX11_foretold 6 [rf 1, (0, h), (0, y)] ((0, if 0 ≤ h ∧ h ≤ 11 then 1 else 0) :: []) (K, D, z) P
  generalize h1 : (if 0 ≤ h ∧ h ≤ 11 then (1 : Int) else 0) = c_h1
  refine s_zeq rfl ?_ ?_
  · intro h6
    have h1n : ¬ (0 ≤ h ∧ h ≤ 11) := fun x => by rw [if_pos x] at h1; omega
    refine s_ic rfl ?_
    refine s_reti rfl rfl ?_
    first | exact k0 (fun q => h1n q.1) | exact k0 (fun q => h2n q.2)
  · intro h6
    have h1y : 0 ≤ h ∧ h ≤ 11 := Decidable.byContradiction fun x => by rw [if_neg x] at h1; omega
    refine s_il2 rfl ?_
    refine s_ic rfl ?_
    refine s_callS rfl rfl rfl rfl (v_isWithin ?_)
    show V G l (d + 4) iX11_foretold 15 [rf 1, (0, h), (0, y)] ((0, if 0 ≤ y ∧ y ≤ 26 then 1 else 0) :: []) (K, D, z) P
    generalize h2 : (if 0 ≤ y ∧ y ≤ 26 then (1 : Int) else 0) = c_h2
    refine s_zne rfl ?_ ?_
    · intro h15
      have h2y : 0 ≤ y ∧ y ≤ 26 := Decidable.byContradiction fun x => by rw [if_neg x] at h2; omega
      refine s_al0 rfl ?_
      refine s_gf rfl (hk.at rfl rfl) rfl rfl ?_
      refine s_il1 rfl ?_
      refine s_il2 rfl ?_
      refine s_al0 rfl ?_
      refine s_callO rfl rfl (Or.inl rfl) rfl rfl (hk.at rfl rfl) (v_viewDay hk ?_)
      show V G l (d + 4) iX11_foretold 30 [rf 1, (0, h), (0, y)] [(0, vwC D), (0, y), (0, h), rf 89] (K, D, z) P
      refine s_callO rfl rfl (Or.inl rfl) rfl rfl (hk.at rfl rfl) (v_foretell hk hc hb h2y ?_)
      show V G l (d + 4) iX11_foretold 33 [rf 1, (0, h), (0, y)] [(0, (if lgF y (vwC D) 10 (-1) = -1 then -1 else foI (fun i => faC D wo h i (vwC D)) (9 - lgF y (vwC D) 10 (-1)).toNat (lgF y (vwC D) 10 (-1)) (knC D wo h y (lgF y (vwC D) 10 (-1)))))] (K, D, z) P
      refine s_reti rfl rfl ?_
      exact k1 ⟨h1y, h2y⟩
    · intro h15
      have h2n : ¬ (0 ≤ y ∧ y ≤ 26) := fun x => by rw [if_pos x] at h2; omega
      refine s_ic rfl ?_
      refine s_reti rfl rfl ?_
      first | exact k0 (fun q => h1n q.1) | exact k0 (fun q => h2n q.2)
theorem u_foretold {h y : Int} (hk : Kn K) (hb : MkB D) (hv : vwM D ≤ 9999) (k1 : (0 ≤ h ∧ h ≤ 11) ∧ (0 ≤ y ∧ y ≤ 26) → P (if lgF y (vwM D) 10 (-1) = -1 then -1 else foI (fun i => faM D h i (vwM D)) (9 - lgF y (vwM D) 10 (-1)).toNat (lgF y (vwM D) 10 (-1)) (knM D h y (lgF y (vwM D) 10 (-1)))) (K, aUp D 210 0 0, z)) (k0 : ¬ ((0 ≤ h ∧ h ≤ 11) ∧ (0 ≤ y ∧ y ≤ 26)) → P (-1) (K, aUp D 210 0 0, z)) : VM G l (d + 3) iX12_foretold [rf 210, (0, h), (0, y)] (K, D, z) P := by
  have hwa : ∀ j : Nat, j < (D 210 45).toNat → 0 ≤ D 247 j ∧ D 247 j ≤ 100000 := hb.2.2
  have hnl : (D 210 37).toNat ≤ 60 := by have := hb.1; omega
  have hfa : ∀ i, 0 ≤ faM D h i (vwM D) ∧ faM D h i (vwM D) ≤ 1000000 := fun i => faF_in hnl hwa
  have loop2 : ∀ (n : Nat) (i s : Int), i + n = 9 → 0 ≤ i → (0 ≤ s ∧ s ≤ 1000000000) → P (foI (fun i => faM D h i (vwM D)) n i s) (K, aUp D 210 0 0, z) → V G l (d + 3) iX12_foretold 71 [rf 210, (0, h), (0, y), (0, i), (1, s), (9, 0)] [] (K, aUp D 210 0 0, z) P := by
    intro n
    induction n with
    | zero =>
      intro i s hi h0 hs hp
      refine s_il3 rfl ?_
      refine s_ic rfl ?_
      refine s_cgt rfl ?_ ?_
      · intro h74
        refine s_ll4 rfl ?_
        refine s_l2i rfl ⟨by omega, by omega⟩ ?_
        refine s_reti rfl rfl ?_
        exact hp
      · intro h74
        omega
    | succ n ih =>
      intro i s hi h0 hs hp
      have hf := hfa i
      have hm : 0 ≤ s * faM D h i (vwM D) ∧ s * faM D h i (vwM D) ≤ 1000000000 * 1000000 := ⟨Int.mul_nonneg hs.1 hf.1, Int.mul_le_mul hs.2 hf.2 hf.1 (by decide)⟩
      have ed : (s * faM D h i (vwM D)).tdiv 1000 = s * faM D h i (vwM D) / 1000 := Int.tdiv_eq_ediv_of_nonneg hm.1
      have hp : P (foI (fun i => faM D h i (vwM D)) n (i + 1) (if s * faM D h i (vwM D) / 1000 < 1000000000 then s * faM D h i (vwM D) / 1000 else 1000000000)) (K, aUp D 210 0 0, z) := hp
      generalize hX : s * faM D h i (vwM D) = X at hm ed hp
      refine s_il3 rfl ?_
      refine s_ic rfl ?_
      refine s_cgt rfl ?_ ?_
      · intro h74
        omega
      · intro h74
        refine s_ll4 rfl ?_
        refine s_al0 rfl ?_
        refine s_il1 rfl ?_
        refine s_il3 rfl ?_
        refine s_callO rfl rfl (Or.inl rfl) rfl rfl (hk.at rfl rfl) (u_factorOf hk (E0_mk hb) (by rw [E0_vw]; exact hv) (by omega) ?_)
        rw [E0_fa, E0_vw]
        show V G l (d + 3) iX12_foretold 85 [rf 210, (0, h), (0, y), (0, i), (1, s), (9, 0)] [(0, faM D h i (vwM D)), (1, s)] (K, aUp D 210 0 0, z) P
        refine s_i2l rfl ?_
        refine s_lmul rfl (by rw [hX]; exact ⟨by omega, by omega⟩) ?_
        rw [hX]
        refine s_lc rfl ?_
        refine s_ldiv rfl (by decide) (by rw [ed]; exact ⟨by omega, by omega⟩) ?_
        rw [ed]
        refine s_ls4 rfl rfl ?_
        refine s_ll4 rfl ?_
        refine s_lc rfl ?_
        refine s_lcmp rfl ?_
        refine s_zle rfl ?_ ?_
        · intro h99
          have y9 := cmp3_le.mp h99
          refine s_ll4 rfl ?_
          refine s_ls4 rfl rfl ?_
          refine s_iinc3 rfl rfl ⟨by omega, by omega⟩ ?_
          refine s_go rfl ?_
          first
          | (refine ih (i + 1) _ (by omega) (by omega) ⟨by omega, by omega⟩ ?_
             rcases (by omega : X / 1000 < 1000000000 ∨ X / 1000 = 1000000000) with q | q
             · rw [if_pos q] at hp; exact hp
             · rw [if_neg (by omega)] at hp; rw [q]; exact hp)
          | (refine ih (i + 1) _ (by omega) (by omega) ⟨by omega, by omega⟩ ?_
             rw [if_neg (by omega)] at hp; exact hp)
        · intro h99
          have y9 := cmp3_gt.mp h99
          refine s_lc rfl ?_
          refine s_go rfl ?_
          refine s_ls4 rfl rfl ?_
          refine s_iinc3 rfl rfl ⟨by omega, by omega⟩ ?_
          refine s_go rfl ?_
          first
          | (refine ih (i + 1) _ (by omega) (by omega) ⟨by omega, by omega⟩ ?_
             rcases (by omega : X / 1000 < 1000000000 ∨ X / 1000 = 1000000000) with q | q
             · rw [if_pos q] at hp; exact hp
             · rw [if_neg (by omega)] at hp; rw [q]; exact hp)
          | (refine ih (i + 1) _ (by omega) (by omega) ⟨by omega, by omega⟩ ?_
             rw [if_neg (by omega)] at hp; exact hp)
  have fin : ∀ i : Int, 0 ≤ i → i ≤ 9 → P (foI (fun i => faM D h i (vwM D)) (9 - i).toNat i (knM D h y i)) (K, aUp D 210 0 0, z) → ((0 ≤ h ∧ h ≤ 11) ∧ (0 ≤ y ∧ y ≤ 26)) → V G l (d + 3) iX12_foretold 61 [rf 210, (0, h), (0, y), (0, i), (9, 0), (9, 0)] [] (K, aUp D 210 0 0, z) P := by
    intro i h0 h9 hp hh
    have kin := knF_in (hs := D 238) (hr := D 239) (wo := D 245) (wd := D 246) (wa := D 247) (nl := (D 210 37).toNat) (nw := (D 210 45).toNat) (h := h) (y := y) (lag := i) hnl hwa
    have kin : 0 ≤ knM D h y i ∧ knM D h y i ≤ 6000000 := kin
    refine s_al0 rfl ?_
    refine s_il1 rfl ?_
    refine s_il2 rfl ?_
    refine s_il3 rfl ?_
    refine s_callO rfl rfl (Or.inl rfl) rfl rfl (hk.at rfl rfl) (u_knownOf hk (E0_mk hb) (by omega) (by omega) ?_)
    rw [E0_kn]
    show V G l (d + 3) iX12_foretold 68 [rf 210, (0, h), (0, y), (0, i), (9, 0), (9, 0)] [(0, knM D h y i)] (K, aUp D 210 0 0, z) P
    refine s_i2l rfl ?_
    refine s_ls4 rfl rfl ?_
    exact loop2 (9 - i).toNat i _ (by omega) h0 ⟨by omega, by omega⟩ hp
  have loop1 : ∀ (n : Nat) (i : Int), i + n = 9 → 0 ≤ i → ((0 ≤ h ∧ h ≤ 11) ∧ (0 ≤ y ∧ y ≤ 26)) → P (foI (fun i => faM D h i (vwM D)) (9 - lgF y (vwM D) n i).toNat (lgF y (vwM D) n i) (knM D h y (lgF y (vwM D) n i))) (K, aUp D 210 0 0, z) → V G l (d + 3) iX12_foretold 38 [rf 210, (0, h), (0, y), (0, i), (9, 0), (9, 0)] [] (K, aUp D 210 0 0, z) P := by
    intro n
    induction n with
    | zero =>
      intro i hi h0 hh hp
      refine s_il3 rfl ?_
      refine s_ic rfl ?_
      refine s_cge rfl ?_ ?_
      · intro h41
        exact fin i h0 (by omega) hp hh
      · intro h41
        omega
    | succ n ih =>
      intro i hi h0 hh hp
      rw [lgF] at hp
      refine s_il3 rfl ?_
      refine s_ic rfl ?_
      refine s_cge rfl ?_ ?_
      · intro h41
        omega
      · intro h41
        refine s_al0 rfl ?_
        refine s_il2 rfl ?_
        refine s_il3 rfl ?_
        refine s_ic rfl ?_
        refine s_iadd rfl ⟨by omega, by omega⟩ ?_
        refine s_callO rfl rfl (Or.inl rfl) rfl rfl (hk.at rfl rfl) (u_canBeKnown hk (by omega) (by omega) ?_)
        rw [E0_vw]
        show V G l (d + 3) iX12_foretold 52 [rf 210, (0, h), (0, y), (0, i), (9, 0), (9, 0)] [(0, if (y + 1 + (i + 1)) * 365 - 1 ≤ vwM D then 1 else 0)] (K, aUp D 210 0 0, z) P
        generalize h4 : (if (y + 1 + (i + 1)) * 365 - 1 ≤ vwM D then (1 : Int) else 0) = c_h4
        refine s_zeq rfl ?_ ?_
        · intro h52
          have h4n : ¬ ((y + 1 + (i + 1)) * 365 - 1 ≤ vwM D) := fun x => by rw [if_pos x] at h4; omega
          rw [if_neg h4n] at hp
          exact fin i h0 (by omega) hp hh
        · intro h52
          have h4y : (y + 1 + (i + 1)) * 365 - 1 ≤ vwM D := Decidable.byContradiction fun x => by rw [if_neg x] at h4; omega
          rw [if_pos h4y] at hp
          refine s_iinc3 rfl rfl ⟨by omega, by omega⟩ ?_
          refine s_go rfl ?_
          exact ih (i + 1) (by omega) (by omega) hh hp
  refine VM_go (tg2 rfl) (Nat.le_of_ble_eq_true rfl) ?_
  refine s_al0 rfl ?_
  refine s_ic rfl ?_
  refine s_pi rfl (hk.at rfl rfl) rfl ?_
  refine s_il1 rfl ?_
  refine s_ic rfl ?_
  refine s_ic rfl ?_
  refine s_callS rfl rfl rfl rfl (u_within ?_)
  show V G l (d + 3) iX12_foretold 12 [rf 210, (0, h), (0, y), (9, 0), (9, 0), (9, 0)] ((0, if 0 ≤ h ∧ h ≤ 11 then 1 else 0) :: []) (K, aUp D 210 0 0, z) P
  generalize h1 : (if 0 ≤ h ∧ h ≤ 11 then (1 : Int) else 0) = c_h1
  refine s_zeq rfl ?_ ?_
  · intro h12
    have h1n : ¬ (0 ≤ h ∧ h ≤ 11) := fun x => by rw [if_pos x] at h1; omega
    refine s_ic rfl ?_
    refine s_reti rfl rfl ?_
    first | exact k0 (fun q => h1n q.1) | exact k0 (fun q => h2n q.2) | exact k1
  · intro h12
    have h1y : 0 ≤ h ∧ h ≤ 11 := Decidable.byContradiction fun x => by rw [if_neg x] at h1; omega
    refine s_il2 rfl ?_
    refine s_ic rfl ?_
    refine s_ic rfl ?_
    refine s_callS rfl rfl rfl rfl (u_within ?_)
    show V G l (d + 3) iX12_foretold 22 [rf 210, (0, h), (0, y), (9, 0), (9, 0), (9, 0)] ((0, if 0 ≤ y ∧ y ≤ 26 then 1 else 0) :: []) (K, aUp D 210 0 0, z) P
    generalize h2 : (if 0 ≤ y ∧ y ≤ 26 then (1 : Int) else 0) = c_h2
    refine s_zeq rfl ?_ ?_
    · intro h22
      have h2n : ¬ (0 ≤ y ∧ y ≤ 26) := fun x => by rw [if_pos x] at h2; omega
      refine s_ic rfl ?_
      refine s_reti rfl rfl ?_
      first | exact k0 (fun q => h1n q.1) | exact k0 (fun q => h2n q.2) | exact k1
    · intro h22
      have h2y : 0 ≤ y ∧ y ≤ 26 := Decidable.byContradiction fun x => by rw [if_neg x] at h2; omega
      refine s_al0 rfl ?_
      refine s_il2 rfl ?_
      refine s_ic rfl ?_
      refine s_callO rfl rfl (Or.inl rfl) rfl rfl (hk.at rfl rfl) (u_canBeKnown hk (by omega) (by omega) ?_)
      rw [E0_vw]
      show V G l (d + 3) iX12_foretold 31 [rf 210, (0, h), (0, y), (9, 0), (9, 0), (9, 0)] [(0, if (y + 1 + 0) * 365 - 1 ≤ vwM D then 1 else 0)] (K, aUp D 210 0 0, z) P
      have e10 : lgF y (vwM D) 10 (-1) = (if (y + 1 + 0) * 365 - 1 ≤ vwM D then lgF y (vwM D) 9 0 else -1) := rfl
      have k1 := k1 ⟨h1y, h2y⟩
      rw [e10] at k1
      generalize h4 : (if (y + 1 + 0) * 365 - 1 ≤ vwM D then (1 : Int) else 0) = c_h4
      refine s_zne rfl ?_ ?_
      · intro h31
        have h4y : (y + 1 + 0) * 365 - 1 ≤ vwM D := Decidable.byContradiction fun x => by rw [if_neg x] at h4; omega
        rw [if_pos h4y] at k1
        refine s_ic rfl ?_
        refine s_is3 rfl rfl ?_
        have lg0 : ∀ (n : Nat) (i : Int), 0 ≤ i → 0 ≤ lgF y (vwM D) n i := by
          intro n
          induction n with
          | zero => intro i hi; exact hi
          | succ n ih => intro i hi; rw [lgF]; split; exact ih _ (by omega); exact hi
        rw [if_neg (by have := lg0 9 0 (by decide); omega)] at k1
        exact loop1 9 0 (by omega) (by omega) ⟨h1y, h2y⟩ k1
      · intro h31
        have h4n : ¬ ((y + 1 + 0) * 365 - 1 ≤ vwM D) := fun x => by rw [if_pos x] at h4; omega
        rw [if_neg h4n] at k1
        refine s_ic rfl ?_
        refine s_reti rfl rfl ?_
        first | exact k0 (fun q => h1n q.1) | exact k0 (fun q => h2n q.2) | exact k1
end
