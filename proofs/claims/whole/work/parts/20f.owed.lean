/-! ===== owed, bears, wants, worst: the class ===== -/
section
variable {G : aCX} {l : Launch} {d : Nat} {K : Nat → aKd} {D : Nat → Int → Int} {z : Nat × Nat} {P : Int → aSt → Prop}
theorem v_owedP {s0 m T nt : Nat} {wo : Int → Int} {cn : Nat → Nat} {cc : Nat → Nat → Int × Int} {a b : Int} (hR : RnH s0 m T nt wo cn cc K D z) (ha : 0 ≤ a ∧ a < D T 0) (hb : 0 ≤ b ∧ b < D T 0) (hab : a ≠ b) (kk : ∀ K' D' z' m', RnK s0 m' T nt wo cn cc D K' D' z' → P (owX D' wo T nt cn cc (vwC D') (stC D') (-1) a b) (K', D', z')) : VM G l (d + 6) iX11_owed [rf 1, (0, a), (0, b)] (K, D, z) P := by
  have hk := hR.1.1
  have hT := hR.1.2.2.2.1
  have n12 := hR.1.2.2.2.2.2.2.2.2.1.2.2.1
  refine VM_go (tg2 rfl) (Nat.le_of_ble_eq_true rfl) ?_
  refine s_al0 rfl ?_
  refine s_il1 rfl ?_
  refine s_callO rfl rfl (Or.inl rfl) rfl rfl (hk.at rfl rfl) (v_isHouse hk hT hR.2.1 ?_)
  show V G l (d + 6) iX11_owed 5 [rf 1, (0, a), (0, b)] ((0, if 0 ≤ a ∧ a < D T 0 then 1 else 0) :: []) (K, D, z) P
  generalize h1 : (if 0 ≤ a ∧ a < D T 0 then (1 : Int) else 0) = c_h1
  refine s_zeq rfl ?_ ?_
  · intro h5
    exact absurd ha (fun x => by rw [if_pos x] at h1; omega)
  · intro h5
    refine s_al0 rfl ?_
    refine s_il2 rfl ?_
    refine s_callO rfl rfl (Or.inl rfl) rfl rfl (hk.at rfl rfl) (v_isHouse hk hT hR.2.1 ?_)
    show V G l (d + 6) iX11_owed 13 [rf 1, (0, a), (0, b)] ((0, if 0 ≤ b ∧ b < D T 0 then 1 else 0) :: []) (K, D, z) P
    generalize h2 : (if 0 ≤ b ∧ b < D T 0 then (1 : Int) else 0) = c_h2
    refine s_zeq rfl ?_ ?_
    · intro h13
      exact absurd hb (fun x => by rw [if_pos x] at h2; omega)
    · intro h13
      refine s_il1 rfl ?_
      refine s_il2 rfl ?_
      refine s_cne rfl ?_ ?_
      · intro h18
        refine s_al0 rfl ?_
        refine s_callO rfl rfl (Or.inl rfl) rfl rfl (hk.at rfl rfl) (v_rn hR (fun K' D' z' m' hR' => ?_))
        obtain ⟨hC', hF', h10', hK', hm', hvs'⟩ := id hR'
        have hk' := hC'.1
        have h16' : D' 1 6 = (T : Nat) := by rw [hF'.2 6 (by decide)]; exact hR.2.1
        have hT' := hC'.2.2.2.1
        have n60 := (evX_facts (v := vwC D') (stm := stC D') (ms := -1) hC'.2.2.2).2.1
        show V G l (d + 6) iX11_owed 35 [rf 1, (0, a), (0, b)] [] (K', D', z') P
        refine s_al0 rfl ?_
        refine s_gf rfl (hk'.at rfl rfl) rfl rfl ?_
        refine s_il1 rfl ?_
        refine s_il2 rfl ?_
        refine s_callO rfl rfl (Or.inl rfl) rfl rfl (hk'.at rfl rfl) (v_owedBy hk' (by omega) (by omega) ?_)
        show V G l (d + 6) iX11_owed 44 [rf 1, (0, a), (0, b)] [(0, D' 102 (a * 12 + b))] (K', D', z') P
        refine s_reti rfl rfl ?_
        rw [hK'.2.2.2.2.2 a b (by omega) (by omega) (by omega) (by omega)]
        exact kk K' D' z' m' hR'
      · intro h18
        exact absurd h18 hab
theorem v_bearsP {s0 m T nt : Nat} {wo : Int → Int} {cn : Nat → Nat} {cc : Nat → Nat → Int × Int} {a : Int} (hR : RnH s0 m T nt wo cn cc K D z) (ha : 0 ≤ a ∧ a < D T 0) (kk : ∀ K' D' z' m', RnK s0 m' T nt wo cn cc D K' D' z' → P (buX D' wo T nt cn cc (vwC D') (stC D') (-1) a) (K', D', z')) : VM G l (d + 6) iX11_bears [rf 1, (0, a)] (K, D, z) P := by
  have hk := hR.1.1
  have hT := hR.1.2.2.2.1
  have n12 := hR.1.2.2.2.2.2.2.2.2.1.2.2.1
  refine VM_go (tg2 rfl) (Nat.le_of_ble_eq_true rfl) ?_
  refine s_al0 rfl ?_
  refine s_il1 rfl ?_
  refine s_callO rfl rfl (Or.inl rfl) rfl rfl (hk.at rfl rfl) (v_isHouse hk hT hR.2.1 ?_)
  show V G l (d + 6) iX11_bears 5 [rf 1, (0, a)] ((0, if 0 ≤ a ∧ a < D T 0 then 1 else 0) :: []) (K, D, z) P
  generalize h1 : (if 0 ≤ a ∧ a < D T 0 then (1 : Int) else 0) = c_h1
  refine s_zne rfl ?_ ?_
  · intro h5
    refine s_al0 rfl ?_
    refine s_callO rfl rfl (Or.inl rfl) rfl rfl (hk.at rfl rfl) (v_rn hR (fun K' D' z' m' hR' => ?_))
    obtain ⟨hC', hF', h10', hK', hm', hvs'⟩ := id hR'
    have hk' := hC'.1
    have h16' : D' 1 6 = (T : Nat) := by rw [hF'.2 6 (by decide)]; exact hR.2.1
    have hT' := hC'.2.2.2.1
    have n60 := (evX_facts (v := vwC D') (stm := stC D') (ms := -1) hC'.2.2.2).2.1
    show V G l (d + 6) iX11_bears 22 [rf 1, (0, a)] [] (K', D', z') P
    refine s_al0 rfl ?_
    refine s_gf rfl (hk'.at rfl rfl) rfl rfl ?_
    refine s_il1 rfl ?_
    refine s_callO rfl rfl (Or.inl rfl) rfl rfl (hk'.at rfl rfl) (v_bur (nt := nt) (T := T) hk' hC'.2.2.2 hK'.2.2.2.2.2 hK'.2.2.2.2.1 (by omega) ?_)
    show V G l (d + 6) iX11_bears 30 [rf 1, (0, a)] [(0, buX D' wo T nt cn cc (vwC D') (stC D') (-1) a)] (K', D', z') P
    refine s_reti rfl rfl ?_
    exact kk K' D' z' m' hR'
  · intro h5
    exact absurd ha (fun x => by rw [if_pos x] at h1; omega)
theorem v_wants {s0 m T nt : Nat} {wo : Int → Int} {cn : Nat → Nat} {cc : Nat → Nat → Int × Int} {h : Int} (hC : CI s0 m T nt wo cn cc K D z) (h16 : D 1 6 = (T : Nat)) (hf : D 116 1 = 0 ∨ (D 116 1 = 1 ∧ ∀ h : Nat, (h : Int) < D T 0 → D 117 h = (wnF (wtX D wo T (vwC D) (stC D)) (fun i => buX D wo T nt cn cc (vwC D) (stC D) i h) (buX D wo T nt cn cc (vwC D) (stC D) (-1) h) (D 89 0).toNat).2)) (k0 : ¬ (0 ≤ h ∧ h < D T 0) → P (-1) (K, D, z)) (k1 : 0 ≤ h ∧ h < D T 0 → D 116 1 = 1 → P (D 117 h) (K, D, z)) (k2 : 0 ≤ h ∧ h < D T 0 → D 116 1 = 0 → ∀ K' D' z' m', CI s0 m' T nt wo cn cc K' D' z' → TsD D wo T nt cn cc (vwC D) (stC D) D' → P (D' 117 h) (K', aUp D' 1 10 0, z')) : VM G l (d + 6) iX11_wants [rf 1, (0, h)] (K, D, z) P := by
  have hk := hC.1
  have hT := hC.2.2.2.1
  have n12 := hC.2.2.2.2.2.2.2.2.1.2.2.1
  refine VM_go (tg2 rfl) (Nat.le_of_ble_eq_true rfl) ?_
  refine s_al0 rfl ?_
  refine s_il1 rfl ?_
  refine s_callO rfl rfl (Or.inl rfl) rfl rfl (hk.at rfl rfl) (v_isHouse hk hT h16 ?_)
  show V G l (d + 6) iX11_wants 5 [rf 1, (0, h)] ((0, if 0 ≤ h ∧ h < D T 0 then 1 else 0) :: []) (K, D, z) P
  generalize h1 : (if 0 ≤ h ∧ h < D T 0 then (1 : Int) else 0) = c_h1
  refine s_zne rfl ?_ ?_
  · intro h5
    have h1y : 0 ≤ h ∧ h < D T 0 := Decidable.byContradiction fun x => by rw [if_neg x] at h1; omega
    refine s_al0 rfl ?_
    refine s_gf rfl (hk.at rfl rfl) rfl rfl ?_
    refine s_gz rfl (hk.at rfl rfl) rfl ?_
    refine s_zne rfl ?_ ?_
    · intro h17
      refine s_al0 rfl ?_
      refine s_gf rfl (hk.at rfl rfl) rfl rfl ?_
      refine s_gf rfl (hk.at rfl rfl) rfl rfl ?_
      refine s_il1 rfl ?_
      refine s_iald rfl (hk.at rfl rfl) (by omega) ?_
      refine s_reti rfl rfl ?_
      exact k1 h1y (by omega)
    · intro h17
      have f0 : D 116 1 = 0 := h17
      refine s_al0 rfl ?_
      refine s_gf rfl (hk.at rfl rfl) rfl rfl ?_
      refine s_al0 rfl ?_
      refine s_gr rfl (hk.at rfl rfl) rfl ?_
      rw [h16]
      refine s_al0 rfl ?_
      refine s_callO rfl rfl (Or.inl rfl) rfl rfl (hk.at rfl rfl) (v_viewDay hk ?_)
      show V G l (d + 6) iX11_wants 32 [rf 1, (0, h)] [(0, vwC D), rf T, rf 116] (K, D, z) P
      refine s_al0 rfl ?_
      refine s_callO rfl rfl (Or.inl rfl) rfl rfl (hk.at rfl rfl) (v_stormsIn hk ?_)
      show V G l (d + 6) iX11_wants 36 [rf 1, (0, h)] [(0, stC D), (0, vwC D), rf T, rf 116] (K, D, z) P
      refine s_callO rfl rfl (Or.inl rfl) rfl rfl (hk.at rfl rfl) (v_trySplits hC (fun K' D' z' m' hC' hX => ?_))
      have hk' := hC'.1
      have k2 := k2 h1y f0 K' D' z' m' hC' hX
      show V G l (d + 6) iX11_wants 39 [rf 1, (0, h)] [] (K', D', z') P
      refine s_al0 rfl ?_
      refine s_ic rfl ?_
      refine s_pz rfl (hk'.at rfl rfl) rfl (Or.inl rfl) ?_
      refine s_al0 rfl ?_
      refine s_gf rfl (hk'.at rfl rfl) rfl rfl ?_
      refine s_gf rfl (hk'.at rfl rfl) rfl rfl ?_
      refine s_il1 rfl ?_
      refine s_iald rfl (hk'.at rfl rfl) (by omega) ?_
      rw [aUp_row (by decide)]
      refine s_reti rfl rfl ?_
      exact k2
  · intro h5
    have h1n : ¬ (0 ≤ h ∧ h < D T 0) := fun x => by rw [if_pos x] at h1; omega
    refine s_ic rfl ?_
    refine s_reti rfl rfl ?_
    exact k0 h1n
end
