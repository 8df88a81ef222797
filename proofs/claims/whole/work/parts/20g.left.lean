/-! ===== left, worst: the class ===== -/
section
variable {G : aCX} {l : Launch} {d : Nat} {K : Nat → aKd} {D : Nat → Int → Int} {z : Nat × Nat} {P : Int → aSt → Prop}
theorem v_left {s0 m T nt : Nat} {wo : Int → Int} {cn : Nat → Nat} {cc : Nat → Nat → Int × Int} {q : Int} (hR : RnH s0 m T nt wo cn cc K D z) (k1 : ∀ t : Nat, q = (t : Int) → t < nt → ¬ wC D T t 1 = 0 → ∀ K' D' z' m', RnK s0 m' T nt wo cn cc D K' D' z' → P (wC D' T t 3 * (1 + wC D' T t 5) - (acP (WqC D' T nt (vwC D') cn cc) (qX D' wo T (vwC D') (stC D') (-1)) (evX D' wo T (vwC D') (stC D') (-1)).1).1 t) (K', D', z')) (k0 : (∀ t : Nat, q = (t : Int) → t < nt → wC D T t 1 = 0) → P (-1) (K, D, z)) : VM G l (d + 6) iX11_left [rf 1, (0, q)] (K, D, z) P := by
  have hk := hR.1.1
  have hT := hR.1.2.2.2.1
  have hT2 : T = 8 ∨ T = 129 := hT
  have n24 := hR.1.2.2.2.2.2.2.2.2.1.1
  have e1 : D T 1 = nt := hR.1.2.2.2.2.2.2.2.1
  refine VM_go (tg2 rfl) (Nat.le_of_ble_eq_true rfl) ?_
  refine s_al0 rfl ?_
  refine s_il1 rfl ?_
  refine s_callO rfl rfl (Or.inl rfl) rfl rfl (hk.at rfl rfl) (v_isTreaty hk hT hR.2.1 ?_)
  show V G l (d + 6) iX11_left 5 [rf 1, (0, q)] ((0, if 0 ≤ q ∧ q < D T 1 then 1 else 0) :: []) (K, D, z) P
  generalize h1 : (if 0 ≤ q ∧ q < D T 1 then (1 : Int) else 0) = c_h1
  refine s_zeq rfl ?_ ?_
  · intro h5
    have h1n : ¬ (0 ≤ q ∧ q < D T 1) := fun x => by rw [if_pos x] at h1; omega
    refine s_ic rfl ?_
    refine s_reti rfl rfl ?_
    first
    | exact k0 (fun t e ht => absurd ⟨by omega, by rw [e1]; omega⟩ h1n)
    | exact k0 (fun t' e _ => by have e : t = t' := by omega
                                 subst e; exact hl)
  · intro h5
    have h1y : 0 ≤ q ∧ q < D T 1 := Decidable.byContradiction fun x => by rw [if_neg x] at h1; omega
    rw [e1] at h1y
    obtain ⟨t, rfl⟩ : ∃ t : Nat, q = (t : Int) := ⟨q.toNat, by omega⟩
    have ht : t < nt := by omega
    refine s_al0 rfl ?_
    refine s_gr rfl (hk.at rfl rfl) rfl ?_
    rw [hR.2.1]
    refine s_gf rfl (KT hk hT) rfl rfl ?_
    refine s_il1 rfl ?_
    refine s_aaldT rfl (KTa hk hT).1 (by omega) (by rw [Int.toNat_natCast, List.getElem?_map, List.getElem?_range (by omega)]; rfl) ?_
    refine s_gz rfl (KTt hk hT (show t < 24 by omega)).1 rfl ?_
    refine s_zne rfl ?_ ?_
    · intro h20
      have hl : ¬ wC D T t 1 = 0 := h20
      refine s_al0 rfl ?_
      refine s_callO rfl rfl (Or.inl rfl) rfl rfl (hk.at rfl rfl) (v_rn hR (fun K' D' z' m' hR' => ?_))
      obtain ⟨hC', hF', h10', hK', hm', hvs'⟩ := id hR'
      have hk' := hC'.1
      have h16' : D' 1 6 = (T : Nat) := by rw [hF'.2 6 (by decide)]; exact hR.2.1
      have hT' := hC'.2.2.2.1
      have n60 := (evX_facts (v := vwC D') (stm := stC D') (ms := -1) hC'.2.2.2).2.1
      show V G l (d + 6) iX11_left 29 [rf 1, (0, (t : Int))] [] (K', D', z') P
      refine s_al0 rfl ?_
      refine s_gf rfl (hk'.at rfl rfl) rfl rfl ?_
      refine s_al0 rfl ?_
      refine s_gr rfl (hk'.at rfl rfl) rfl ?_
      rw [h16']
      refine s_il1 rfl ?_
      have h109 := hK'.2.2.2.1 t ht
      have wb := WqX_B (v := vwC D') hC'.2.2.2
      have ain := (acP_in (Q := (qX D' wo T (vwC D') (stC D') (-1))) wb (evX D' wo T (vwC D') (stC D') (-1)).1 (fun i _ => (evX_facts (v := vwC D') (stm := stC D') (ms := -1) hC'.2.2.2).2.2.2.1 i) t ht).1
      have b := wb.2 t ht
      have a3 : 0 ≤ D' (T + 9 + 3 * t) 3 ∧ D' (T + 9 + 3 * t) 3 ≤ 999999 := b.1
      have a5 : 0 ≤ D' (T + 9 + 3 * t) 5 ∧ D' (T + 9 + 3 * t) 5 ≤ 9 := b.2.1
      have mx : D' (T + 9 + 3 * t) 3 * (1 + D' (T + 9 + 3 * t) 5) ≤ 999999 * 10 := Int.mul_le_mul a3.2 (by omega) (by omega) (by omega)
      have ain : 0 ≤ (acP (WqC D' T nt (vwC D') cn cc) (qX D' wo T (vwC D') (stC D') (-1)) (evX D' wo T (vwC D') (stC D') (-1)).1).1 t ∧ (acP (WqC D' T nt (vwC D') cn cc) (qX D' wo T (vwC D') (stC D') (-1)) (evX D' wo T (vwC D') (stC D') (-1)).1).1 t ≤ D' (T + 9 + 3 * t) 3 * (1 + D' (T + 9 + 3 * t) 5) := ain
      refine s_callO rfl rfl (Or.inl rfl) rfl rfl (hk'.at rfl rfl) (v_leftOf hk' hT' (by omega) a3 a5 (by rw [h109]; omega) ?_)
      show V G l (d + 6) iX11_left 41 [rf 1, (0, (t : Int))] [(0, D' (T + 9 + 3 * t) 3 * (1 + D' (T + 9 + 3 * t) 5) - D' 109 t)] (K', D', z') P
      refine s_reti rfl rfl ?_
      rw [h109]
      exact k1 t rfl ht hl K' D' z' m' hR'
    · intro h20
      have hl : wC D T t 1 = 0 := h20
      refine s_ic rfl ?_
      refine s_reti rfl rfl ?_
      first
      | exact k0 (fun t e ht => absurd ⟨by omega, by rw [e1]; omega⟩ h1n)
      | exact k0 (fun t' e _ => by have e : t = t' := by omega
                                   subst e; exact hl)
theorem v_worst {s0 m T nt : Nat} {wo : Int → Int} {cn : Nat → Nat} {cc : Nat → Nat → Int × Int} {h u : Int} (hC : CI s0 m T nt wo cn cc K D z) (h16 : D 1 6 = (T : Nat)) (hf : D 116 2 = 0 ∨ (D 116 2 = 1 ∧ D 116 7 = prX D wo T (vwC D) (stC D) ∧ ∀ s h : Nat, s < 64 → okS (prX D wo T (vwC D) (stC D)) s = true → (h : Int) < D T 0 → D 120 (s * 12 + h) = buX D wo T nt cn cc (vwC D) s (-1) h)) (k0 : ¬ ((0 ≤ h ∧ h < D T 0) ∧ 1 ≤ u ∧ u ≤ 6) → P (-1) (K, D, z)) (k1 : 0 ≤ h ∧ h < D T 0 → ∀ k : Nat, u = (k : Int) → 1 ≤ k ∧ k ≤ 6 → D 116 2 = 1 → P (wsF (prX D wo T (vwC D) (stC D)) (fun s : Nat => buX D wo T nt cn cc (vwC D) s (-1) h) k) (K, D, z)) (k2 : 0 ≤ h ∧ h < D T 0 → ∀ k : Nat, u = (k : Int) → 1 ≤ k ∧ k ≤ 6 → D 116 2 = 0 → ∀ K' D' z' m', CI s0 m' T nt wo cn cc K' D' z' → StormD D wo T nt cn cc (vwC D) (stC D) D' → P (wsF (prX D wo T (vwC D) (stC D)) (fun s : Nat => buX D wo T nt cn cc (vwC D) s (-1) h) k) (K', aUp D' 1 10 0, z')) : VM G l (d + 6) iX11_worst [rf 1, (0, h), (0, u)] (K, D, z) P := by
  have hk := hC.1
  have hT := hC.2.2.2.1
  have n12 := hC.2.2.2.2.2.2.2.2.1.2.2.1
  refine VM_go (tg2 rfl) (Nat.le_of_ble_eq_true rfl) ?_
  refine s_al0 rfl ?_
  refine s_il1 rfl ?_
  refine s_callO rfl rfl (Or.inl rfl) rfl rfl (hk.at rfl rfl) (v_isHouse hk hT h16 ?_)
  show V G l (d + 6) iX11_worst 5 [rf 1, (0, h), (0, u)] ((0, if 0 ≤ h ∧ h < D T 0 then 1 else 0) :: []) (K, D, z) P
  generalize h1 : (if 0 ≤ h ∧ h < D T 0 then (1 : Int) else 0) = c_h1
  refine s_zeq rfl ?_ ?_
  · intro h5
    have h1n : ¬ (0 ≤ h ∧ h < D T 0) := fun x => by rw [if_pos x] at h1; omega
    refine s_ic rfl ?_
    refine s_reti rfl rfl ?_
    first | exact k0 (fun q => h1n q.1) | exact k0 (fun q => by omega)
  · intro h5
    have h1y : 0 ≤ h ∧ h < D T 0 := Decidable.byContradiction fun x => by rw [if_neg x] at h1; omega
    refine s_il2 rfl ?_
    refine s_ic rfl ?_
    refine s_clt rfl ?_ ?_
    · intro h10
      refine s_ic rfl ?_
      refine s_reti rfl rfl ?_
      first | exact k0 (fun q => h1n q.1) | exact k0 (fun q => by omega)
    · intro h10
      refine s_il2 rfl ?_
      refine s_ic rfl ?_
      refine s_cle rfl ?_ ?_
      · intro g16
        obtain ⟨k, rfl⟩ : ∃ k : Nat, u = (k : Int) := ⟨u.toNat, by omega⟩
        obtain ⟨hN, rfl⟩ : ∃ hN : Nat, h = (hN : Int) := ⟨h.toNat, by omega⟩
        refine s_al0 rfl ?_
        refine s_gf rfl (hk.at rfl rfl) rfl rfl ?_
        refine s_gz rfl (hk.at rfl rfl) rfl ?_
        refine s_zne rfl ?_ ?_
        · intro h28
          refine s_al0 rfl ?_
          refine s_gf rfl (hk.at rfl rfl) rfl rfl ?_
          refine s_il1 rfl ?_
          refine s_il2 rfl ?_
          refine s_callO rfl rfl (Or.inl rfl) rfl rfl (hk.at rfl rfl) (v_worstSet (bu := (fun s : Nat => buX D wo T nt cn cc (vwC D) s (-1) hN)) hk (by omega) (fun s hs ho => ?_) (by omega) ?_)
          · have hF := hf.resolve_left h28
            rw [hF.2.1] at ho
            exact hF.2.2 s hN hs ho (by omega)
          rw [(hf.resolve_left h28).2.1]
          show V G l (d + 6) iX11_worst 64 _ [(0, _)] (K, D, z) P
          refine s_reti rfl rfl ?_
          exact k1 h1y k rfl (by omega) (hf.resolve_left h28).1
        · intro h28
          have f0 : D 116 2 = 0 := h28
          refine s_al0 rfl ?_
          refine s_gf rfl (hk.at rfl rfl) rfl rfl ?_
          refine s_al0 rfl ?_
          refine s_gr rfl (hk.at rfl rfl) rfl ?_
          rw [h16]
          refine s_al0 rfl ?_
          refine s_callO rfl rfl (Or.inl rfl) rfl rfl (hk.at rfl rfl) (v_viewDay hk ?_)
          show V G l (d + 6) iX11_worst 43 [rf 1, (0, (hN : Int)), (0, (k : Int))] [(0, vwC D), rf T, rf 116] (K, D, z) P
          refine s_al0 rfl ?_
          refine s_callO rfl rfl (Or.inl rfl) rfl rfl (hk.at rfl rfl) (v_stormsIn hk ?_)
          show V G l (d + 6) iX11_worst 47 [rf 1, (0, (hN : Int)), (0, (k : Int))] [(0, stC D), (0, vwC D), rf T, rf 116] (K, D, z) P
          refine s_callO rfl rfl (Or.inl rfl) rfl rfl (hk.at rfl rfl) (v_tryStorms hC (fun K' D' z' m' hC' hX => ?_))
          have hk' := hC'.1
          have k2 := k2 h1y k rfl (by omega) f0 K' D' z' m' hC' hX
          have e7 : aUp D' 1 10 0 116 7 = prX D wo T (vwC D) (stC D) := by rw [aUp_row (by decide), hX.2.1, uF_ne (by decide), uF_at]
          show V G l (d + 6) iX11_worst 50 [rf 1, (0, (hN : Int)), (0, (k : Int))] [] (K', D', z') P
          refine s_al0 rfl ?_
          refine s_ic rfl ?_
          refine s_pz rfl (hk'.at rfl rfl) rfl (Or.inl rfl) ?_
          refine s_al0 rfl ?_
          refine s_gf rfl (hk'.at rfl rfl) rfl rfl ?_
          refine s_il1 rfl ?_
          refine s_il2 rfl ?_
          refine s_callO rfl rfl (Or.inl rfl) rfl rfl (hk'.at rfl rfl) (v_worstSet (bu := (fun s : Nat => buX D wo T nt cn cc (vwC D) s (-1) hN)) hk' (by omega) (fun s hs ho => ?_) (by omega) ?_)
          · rw [aUp_row (by decide)]
            rw [e7] at ho
            exact hX.2.2 s hN hs ho (by omega)
          rw [e7]
          show V G l (d + 6) iX11_worst 64 _ [(0, _)] (K', _, z') P
          refine s_reti rfl rfl ?_
          exact k2
      · intro g16
        refine s_ic rfl ?_
        refine s_reti rfl rfl ?_
        first | exact k0 (fun q => h1n q.1) | exact k0 (fun q => by omega)
end
