/-! ===== days, view, purse ===== -/
section
variable {G : aCX} {l : Launch} {d : Nat} {K : Nat → aKd} {D : Nat → Int → Int} {z : Nat × Nat} {P : Int → aSt → Prop}
theorem v_days {n : Int} (hk : Kn K) (h7 : 0 ≤ D 1 7 ∧ D 1 7 ≤ 9999) (k1 : (0 ≤ n ∧ n ≤ 1000) ∧ D 1 7 + n ≤ 9999 → P (D 1 7 + n) (K, aUp D 1 7 (D 1 7 + n), z)) (k0 : ¬ ((0 ≤ n ∧ n ≤ 1000) ∧ D 1 7 + n ≤ 9999) → P (-1) (K, D, z)) : VM G l (d + 1) iX11_days [rf 1, (0, n)] (K, D, z) P := by
  refine VM_go (tg2 rfl) (Nat.le_of_ble_eq_true rfl) ?_
  refine s_il1 rfl ?_
  refine s_ic rfl ?_
  refine s_callS rfl rfl rfl rfl (v_isWithin ?_)
  show V G l (d + 1) iX11_days 7 [rf 1, (0, n)] [(0, if 0 ≤ n ∧ n ≤ 1000 then 1 else 0)] (K, D, z) P
  generalize hc : (if 0 ≤ n ∧ n ≤ 1000 then (1 : Int) else 0) = c
  refine s_zeq rfl ?_ ?_
  · intro h7
    have hq : ¬ (0 ≤ n ∧ n ≤ 1000) := fun q => by rw [if_pos q] at hc; omega
    refine s_ic rfl ?_
    refine s_reti rfl rfl ?_
    exact k0 (by omega)
  · intro h7
    have hq : 0 ≤ n ∧ n ≤ 1000 := Decidable.byContradiction fun q => by rw [if_neg q] at hc; omega
    refine s_al0 rfl ?_
    refine s_gi rfl (hk.at rfl rfl) rfl ?_
    refine s_il1 rfl ?_
    refine s_iadd rfl ⟨by omega, by omega⟩ ?_
    refine s_ic rfl ?_
    refine s_cle rfl ?_ ?_
    · intro h19
      refine s_al0 rfl ?_
      refine s_dup rfl (by decide) ?_
      refine s_gi rfl (hk.at rfl rfl) rfl ?_
      refine s_il1 rfl ?_
      refine s_iadd rfl ⟨by omega, by omega⟩ ?_
      refine s_pi rfl (hk.at rfl rfl) rfl ?_
      refine s_al0 rfl ?_
      refine s_gi rfl (hk.at rfl rfl) rfl ?_
      rw [aUp_at]
      refine s_reti rfl rfl ?_
      exact k1 (by omega)
    · intro h19
      refine s_ic rfl ?_
      refine s_reti rfl rfl ?_
      exact k0 (by omega)
theorem u_days {n : Int} (hk : Kn K) (h7 : 0 ≤ D 210 35 ∧ D 210 35 ≤ 9999) (k1 : (0 ≤ n ∧ n ≤ 1000) ∧ D 210 35 + n ≤ 9999 → P (D 210 35 + n) (K, aUp (aUp D 210 0 0) 210 35 (D 210 35 + n), z)) (k0 : ¬ ((0 ≤ n ∧ n ≤ 1000) ∧ D 210 35 + n ≤ 9999) → P (-1) (K, aUp D 210 0 0, z)) : VM G l (d + 1) iX12_days [rf 210, (0, n)] (K, D, z) P := by
  have e : aUp D 210 0 0 210 35 = D 210 35 := aUp_ne (by decide)
  refine VM_go (tg2 rfl) (Nat.le_of_ble_eq_true rfl) ?_
  refine s_al0 rfl ?_
  refine s_ic rfl ?_
  refine s_pi rfl (hk.at rfl rfl) rfl ?_
  refine s_il1 rfl ?_
  refine s_ic rfl ?_
  refine s_ic rfl ?_
  refine s_callS rfl rfl rfl rfl (u_within ?_)
  show V G l (d + 1) iX12_days 13 [rf 210, (0, n)] [(0, if 0 ≤ n ∧ n ≤ 1000 then 1 else 0)] (K, aUp D 210 0 0, z) P
  generalize hc : (if 0 ≤ n ∧ n ≤ 1000 then (1 : Int) else 0) = c
  refine s_zeq rfl ?_ ?_
  · intro h13
    have hq : ¬ (0 ≤ n ∧ n ≤ 1000) := fun q => by rw [if_pos q] at hc; omega
    refine s_ic rfl ?_
    refine s_reti rfl rfl ?_
    exact k0 (by omega)
  · intro h13
    have hq : 0 ≤ n ∧ n ≤ 1000 := Decidable.byContradiction fun q => by rw [if_neg q] at hc; omega
    refine s_al0 rfl ?_
    refine s_gi rfl (hk.at rfl rfl) rfl ?_
    rw [e]
    refine s_il1 rfl ?_
    refine s_iadd rfl ⟨by omega, by omega⟩ ?_
    refine s_ic rfl ?_
    refine s_cle rfl ?_ ?_
    · intro h25
      refine s_al0 rfl ?_
      refine s_dup rfl (by decide) ?_
      refine s_gi rfl (hk.at rfl rfl) rfl ?_
      rw [e]
      refine s_il1 rfl ?_
      refine s_iadd rfl ⟨by omega, by omega⟩ ?_
      refine s_pi rfl (hk.at rfl rfl) rfl ?_
      refine s_al0 rfl ?_
      refine s_gi rfl (hk.at rfl rfl) rfl ?_
      rw [aUp_at]
      refine s_reti rfl rfl ?_
      exact k1 (by omega)
    · intro h25
      refine s_ic rfl ?_
      refine s_reti rfl rfl ?_
      exact k0 (by omega)
theorem v_view {n : Int} (hk : Kn K) (k1 : 0 ≤ n ∧ n ≤ D 1 7 → P 1 (K, aUp (aUp (aUp (aUp (aUp D 1 8 (if n = D 1 7 then -1 else n)) 1 10 0) 1 11 0) 116 1 0) 116 2 0, z)) (k0 : ¬ (0 ≤ n ∧ n ≤ D 1 7) → P 0 (K, D, z)) : VM G l (d + 1) iX11_view [rf 1, (0, n)] (K, D, z) P := by
  have fin : 0 ≤ n ∧ n ≤ D 1 7 → ∀ w, w = (if n = D 1 7 then -1 else n) → V G l (d + 1) iX11_view 27 [rf 1, (0, n)] [(0, w), rf 1] (K, D, z) P := by
    intro hq w hw
    subst hw
    refine s_pi rfl (hk.at rfl rfl) rfl ?_
    refine s_al0 rfl ?_
    refine s_callO rfl rfl (Or.inl rfl) rfl rfl (hk.at rfl rfl) (v_forgetAnswers hk ?_)
    show V G l (d + 1) iX11_view 34 [rf 1, (0, n)] [] (K, _, z) P
    refine s_ic rfl ?_
    refine s_retz rfl rfl (Or.inr rfl) ?_
    exact k1 hq
  refine VM_go (tg2 rfl) (Nat.le_of_ble_eq_true rfl) ?_
  refine s_il1 rfl ?_
  refine s_al0 rfl ?_
  refine s_gi rfl (hk.at rfl rfl) rfl ?_
  refine s_callS rfl rfl rfl rfl (v_isWithin ?_)
  show V G l (d + 1) iX11_view 8 [rf 1, (0, n)] [(0, if 0 ≤ n ∧ n ≤ D 1 7 then 1 else 0)] (K, D, z) P
  generalize hc : (if 0 ≤ n ∧ n ≤ D 1 7 then (1 : Int) else 0) = c
  refine s_zne rfl ?_ ?_
  · intro h8
    have hq : 0 ≤ n ∧ n ≤ D 1 7 := Decidable.byContradiction fun q => by rw [if_neg q] at hc; omega
    refine s_al0 rfl ?_
    refine s_il1 rfl ?_
    refine s_al0 rfl ?_
    refine s_gi rfl (hk.at rfl rfl) rfl ?_
    refine s_cne rfl ?_ ?_
    · intro h19
      refine s_il1 rfl ?_
      exact fin hq _ (by first | rw [if_neg h19] | rw [if_pos (by omega)])
    · intro h19
      refine s_ic rfl ?_
      refine s_go rfl ?_
      exact fin hq _ (by first | rw [if_neg h19] | rw [if_pos (by omega)])
  · intro h8
    have hq : ¬ (0 ≤ n ∧ n ≤ D 1 7) := fun q => by rw [if_pos q] at hc; omega
    refine s_ic rfl ?_
    refine s_retz rfl rfl (Or.inl rfl) ?_
    exact k0 hq
theorem u_view {n : Int} (hk : Kn K) (k1 : 0 ≤ n ∧ n ≤ D 210 35 → P 1 (K, aUp (aUp D 210 0 0) 210 36 (if n = D 210 35 then -1 else n), z)) (k0 : ¬ (0 ≤ n ∧ n ≤ D 210 35) → P 0 (K, aUp D 210 0 0, z)) : VM G l (d + 1) iX12_view [rf 210, (0, n)] (K, D, z) P := by
  have e : aUp D 210 0 0 210 35 = D 210 35 := aUp_ne (by decide)
  have fin : 0 ≤ n ∧ n ≤ D 210 35 → ∀ w, w = (if n = D 210 35 then -1 else n) → V G l (d + 1) iX12_view 33 [rf 210, (0, n)] [(0, w), rf 210] (K, aUp D 210 0 0, z) P := by
    intro hq w hw
    subst hw
    refine s_pi rfl (hk.at rfl rfl) rfl ?_
    refine s_ic rfl ?_
    refine s_retz rfl rfl (Or.inr rfl) ?_
    exact k1 hq
  refine VM_go (tg2 rfl) (Nat.le_of_ble_eq_true rfl) ?_
  refine s_al0 rfl ?_
  refine s_ic rfl ?_
  refine s_pi rfl (hk.at rfl rfl) rfl ?_
  refine s_il1 rfl ?_
  refine s_ic rfl ?_
  refine s_al0 rfl ?_
  refine s_gi rfl (hk.at rfl rfl) rfl ?_
  rw [e]
  refine s_callS rfl rfl rfl rfl (u_within ?_)
  show V G l (d + 1) iX12_view 14 [rf 210, (0, n)] [(0, if 0 ≤ n ∧ n ≤ D 210 35 then 1 else 0)] (K, aUp D 210 0 0, z) P
  generalize hc : (if 0 ≤ n ∧ n ≤ D 210 35 then (1 : Int) else 0) = c
  refine s_zne rfl ?_ ?_
  · intro h14
    have hq : 0 ≤ n ∧ n ≤ D 210 35 := Decidable.byContradiction fun q => by rw [if_neg q] at hc; omega
    refine s_al0 rfl ?_
    refine s_il1 rfl ?_
    refine s_al0 rfl ?_
    refine s_gi rfl (hk.at rfl rfl) rfl ?_
    rw [e]
    refine s_cne rfl ?_ ?_
    · intro h25
      refine s_il1 rfl ?_
      exact fin hq _ (by first | rw [if_neg h25] | rw [if_pos (by omega)])
    · intro h25
      refine s_ic rfl ?_
      refine s_go rfl ?_
      exact fin hq _ (by first | rw [if_neg h25] | rw [if_pos (by omega)])
  · intro h14
    have hq : ¬ (0 ≤ n ∧ n ≤ D 210 35) := fun q => by rw [if_pos q] at hc; omega
    refine s_ic rfl ?_
    refine s_retz rfl rfl (Or.inl rfl) ?_
    exact k0 hq
end
