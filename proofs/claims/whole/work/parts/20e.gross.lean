/-! ===== gross, treaty, left: the class ===== -/
section
variable {G : aCX} {l : Launch} {d : Nat} {K : Nat → aKd} {D : Nat → Int → Int} {z : Nat × Nat} {P : Int → aSt → Prop}
theorem v_gross {s0 m T nt : Nat} {wo : Int → Int} {cn : Nat → Nat} {cc : Nat → Nat → Int × Int} {e h what : Int} (hR : RnH s0 m T nt wo cn cc K D z) (k1 : ∀ K' D' z' m', RnK s0 m' T nt wo cn cc D K' D' z' → ∀ i : Nat, e = (i : Int) → i < (evX D' wo T (vwC D') (stC D') (-1)).1 → 0 ≤ h ∧ h < D' T 0 → 0 ≤ what ∧ what ≤ 2 → P (anG wo T nt cn cc D' i h what) (K', D', z')) (k0 : ∀ K' D' z' m', RnK s0 m' T nt wo cn cc D K' D' z' → ¬ ((0 ≤ e ∧ e < (((evX D' wo T (vwC D') (stC D') (-1)).1 : Nat) : Int)) ∧ (0 ≤ h ∧ h < D' T 0) ∧ 0 ≤ what ∧ what ≤ 2) → P (-1) (K', D', z')) : VM G l (d + 6) iX11_gross [rf 1, (0, e), (0, h), (0, what)] (K, D, z) P := by
  have hk := hR.1.1
  refine VM_go (tg2 rfl) (Nat.le_of_ble_eq_true rfl) ?_
  refine s_al0 rfl ?_
  refine s_callO rfl rfl (Or.inl rfl) rfl rfl (hk.at rfl rfl) (v_rn hR (fun K' D' z' m' hR' => ?_))
  obtain ⟨hC', hF', h10', hK', hm', hvs'⟩ := id hR'
  have hk' := hC'.1
  have h16' : D' 1 6 = (T : Nat) := by rw [hF'.2 6 (by decide)]; exact hR.2.1
  have hT' := hC'.2.2.2.1
  have n60 := (evX_facts (v := vwC D') (stm := stC D') (ms := -1) hC'.2.2.2).2.1
  show V G l (d + 6) iX11_gross 4 [rf 1, (0, e), (0, h), (0, what), (9, 0)] [] (K', D', z') P
  refine s_al0 rfl ?_
  refine s_il1 rfl ?_
  refine s_callO rfl rfl (Or.inl rfl) rfl rfl (hk'.at rfl rfl) (v_isEvent hk' ?_)
  rw [hK'.1.1]
  show V G l (d + 6) iX11_gross 9 [rf 1, (0, e), (0, h), (0, what), (9, 0)] [(0, if 0 ≤ e ∧ e < (((evX D' wo T (vwC D') (stC D') (-1)).1 : Nat) : Int) then 1 else 0)] (K', D', z') P
  generalize h1 : (if 0 ≤ e ∧ e < (((evX D' wo T (vwC D') (stC D') (-1)).1 : Nat) : Int) then (1 : Int) else 0) = c_h1
  refine s_zeq rfl ?_ ?_
  · intro h9
    have h1n : ¬ (0 ≤ e ∧ e < (((evX D' wo T (vwC D') (stC D') (-1)).1 : Nat) : Int)) := fun x => by rw [if_pos x] at h1; omega
    refine s_ic rfl ?_
    refine s_reti rfl rfl ?_
    first | exact k0 K' D' z' m' hR' (fun q => h1n q.1) | exact k0 K' D' z' m' hR' (fun q => h2n q.2.1)
  · intro h9
    have h1y : 0 ≤ e ∧ e < (((evX D' wo T (vwC D') (stC D') (-1)).1 : Nat) : Int) := Decidable.byContradiction fun x => by rw [if_neg x] at h1; omega
    refine s_al0 rfl ?_
    refine s_il2 rfl ?_
    refine s_callO rfl rfl (Or.inl rfl) rfl rfl (hk'.at rfl rfl) (v_isHouse hk' hT' h16' ?_)
    show V G l (d + 6) iX11_gross 17 [rf 1, (0, e), (0, h), (0, what), (9, 0)] [(0, if 0 ≤ h ∧ h < D' T 0 then 1 else 0)] (K', D', z') P
    generalize h2 : (if 0 ≤ h ∧ h < D' T 0 then (1 : Int) else 0) = c_h2
    refine s_zne rfl ?_ ?_
    · intro h17
      have h2y : 0 ≤ h ∧ h < D' T 0 := Decidable.byContradiction fun x => by rw [if_neg x] at h2; omega
      have n12 := hC'.2.2.2.2.2.2.2.2.1.2.2.1
      obtain ⟨i, rfl⟩ : ∃ i : Nat, e = (i : Int) := ⟨e.toNat, by omega⟩
      have hi : i < (evX D' wo T (vwC D') (stC D') (-1)).1 := by omega
      have kh := (hC'.2.1.2.2.2.1 i (by omega)).2
      obtain ⟨sA1, sA2, ⟨sA3, sA4, sA5, sA6⟩, sA7⟩ := hK'.2.2.1 i hi
      refine s_al0 rfl ?_
      refine s_gf rfl (hk'.at rfl rfl) rfl rfl ?_
      refine s_il1 rfl ?_
      refine s_callO rfl rfl (Or.inl rfl) rfl rfl (hk'.at rfl rfl) (v_slot hk' hC'.2.1 (show i < m' by omega) ?_)
      show V G l (d + 6) iX11_gross 30 [rf 1, (0, (i : Int)), (0, h), (0, what), (9, 0)] ((2, ((279 + 10 * i : Nat) : Int)) :: []) (K', D', z') P
      refine s_as4 rfl rfl ?_
      refine s_il3 rfl ?_
      refine s_sw rfl ?_
      refine And.intro (fun h33 => ?_) (fun h33n0 => ?_)
      · skip
        refine s_al4 rfl ?_
        refine s_gf rfl kh.2.1 rfl rfl ?_
        refine s_il2 rfl ?_
        refine s_iald rfl kh.2.2.1 (by omega) ?_
        refine s_reti rfl rfl ?_
        have k1 := k1 K' D' z' m' hR' i rfl hi h2y (by omega)
        unfold anG at k1
        rw [if_pos h33] at k1
        rw [sA2 h (by omega) (by omega)]; exact k1
      refine And.intro (fun h33 => ?_) (fun h33n1 => ?_)
      · skip
        refine s_al4 rfl ?_
        refine s_gf rfl kh.2.1 rfl rfl ?_
        refine s_il2 rfl ?_
        refine s_iald rfl kh.2.2.2.1 (by omega) ?_
        refine s_reti rfl rfl ?_
        have k1 := k1 K' D' z' m' hR' i rfl hi h2y (by omega)
        unfold anG at k1
        rw [if_neg (by omega), if_pos h33] at k1
        rw [(sA5 h (by omega) (by omega)).1]; exact k1
      refine And.intro (fun h33 => ?_) (fun h33n2 => ?_)
      · skip
        refine s_al4 rfl ?_
        refine s_gf rfl kh.2.1 rfl rfl ?_
        refine s_il2 rfl ?_
        refine s_iald rfl kh.2.2.2.2.1 (by omega) ?_
        refine s_reti rfl rfl ?_
        have k1 := k1 K' D' z' m' hR' i rfl hi h2y (by omega)
        unfold anG at k1
        rw [if_neg (by omega), if_neg (by omega)] at k1
        rw [(sA5 h (by omega) (by omega)).2]; exact k1
      refine s_ic rfl ?_
      refine s_reti rfl rfl ?_
      exact k0 K' D' z' m' hR' (fun q => by omega)
    · intro h17
      have h2n : ¬ (0 ≤ h ∧ h < D' T 0) := fun x => by rw [if_pos x] at h2; omega
      refine s_ic rfl ?_
      refine s_reti rfl rfl ?_
      first | exact k0 K' D' z' m' hR' (fun q => h1n q.1) | exact k0 K' D' z' m' hR' (fun q => h2n q.2.1)
theorem v_treaty {s0 m T nt : Nat} {wo : Int → Int} {cn : Nat → Nat} {cc : Nat → Nat → Int × Int} {e u what : Int} (hR : RnH s0 m T nt wo cn cc K D z) (k1 : ∀ K' D' z' m', RnK s0 m' T nt wo cn cc D K' D' z' → ∀ i t : Nat, e = (i : Int) → u = (t : Int) → i < (evX D' wo T (vwC D') (stC D') (-1)).1 → t < nt → 0 ≤ what ∧ what ≤ 4 → P (anT wo T nt cn cc D' i t what) (K', D', z')) (k0 : ∀ K' D' z' m', RnK s0 m' T nt wo cn cc D K' D' z' → ¬ ((0 ≤ e ∧ e < (((evX D' wo T (vwC D') (stC D') (-1)).1 : Nat) : Int)) ∧ (0 ≤ u ∧ u < D' T 1) ∧ 0 ≤ what ∧ what ≤ 4) → P (-1) (K', D', z')) : VM G l (d + 6) iX11_treaty [rf 1, (0, e), (0, u), (0, what)] (K, D, z) P := by
  have hk := hR.1.1
  refine VM_go (tg2 rfl) (Nat.le_of_ble_eq_true rfl) ?_
  refine s_al0 rfl ?_
  refine s_callO rfl rfl (Or.inl rfl) rfl rfl (hk.at rfl rfl) (v_rn hR (fun K' D' z' m' hR' => ?_))
  obtain ⟨hC', hF', h10', hK', hm', hvs'⟩ := id hR'
  have hk' := hC'.1
  have h16' : D' 1 6 = (T : Nat) := by rw [hF'.2 6 (by decide)]; exact hR.2.1
  have hT' := hC'.2.2.2.1
  have n60 := (evX_facts (v := vwC D') (stm := stC D') (ms := -1) hC'.2.2.2).2.1
  show V G l (d + 6) iX11_treaty 4 [rf 1, (0, e), (0, u), (0, what), (9, 0)] [] (K', D', z') P
  refine s_al0 rfl ?_
  refine s_il1 rfl ?_
  refine s_callO rfl rfl (Or.inl rfl) rfl rfl (hk'.at rfl rfl) (v_isEvent hk' ?_)
  rw [hK'.1.1]
  show V G l (d + 6) iX11_treaty 9 [rf 1, (0, e), (0, u), (0, what), (9, 0)] [(0, if 0 ≤ e ∧ e < (((evX D' wo T (vwC D') (stC D') (-1)).1 : Nat) : Int) then 1 else 0)] (K', D', z') P
  generalize h1 : (if 0 ≤ e ∧ e < (((evX D' wo T (vwC D') (stC D') (-1)).1 : Nat) : Int) then (1 : Int) else 0) = c_h1
  refine s_zeq rfl ?_ ?_
  · intro h9
    have h1n : ¬ (0 ≤ e ∧ e < (((evX D' wo T (vwC D') (stC D') (-1)).1 : Nat) : Int)) := fun x => by rw [if_pos x] at h1; omega
    refine s_ic rfl ?_
    refine s_reti rfl rfl ?_
    first | exact k0 K' D' z' m' hR' (fun q => h1n q.1) | exact k0 K' D' z' m' hR' (fun q => h2n q.2.1)
  · intro h9
    have h1y : 0 ≤ e ∧ e < (((evX D' wo T (vwC D') (stC D') (-1)).1 : Nat) : Int) := Decidable.byContradiction fun x => by rw [if_neg x] at h1; omega
    refine s_al0 rfl ?_
    refine s_il2 rfl ?_
    refine s_callO rfl rfl (Or.inl rfl) rfl rfl (hk'.at rfl rfl) (v_isTreaty hk' hT' h16' ?_)
    show V G l (d + 6) iX11_treaty 17 [rf 1, (0, e), (0, u), (0, what), (9, 0)] [(0, if 0 ≤ u ∧ u < D' T 1 then 1 else 0)] (K', D', z') P
    generalize h2 : (if 0 ≤ u ∧ u < D' T 1 then (1 : Int) else 0) = c_h2
    refine s_zne rfl ?_ ?_
    · intro h17
      have h2y : 0 ≤ u ∧ u < D' T 1 := Decidable.byContradiction fun x => by rw [if_neg x] at h2; omega
      have n24 := hC'.2.2.2.2.2.2.2.2.1.1
      have e1 : D' T 1 = nt := hC'.2.2.2.2.2.2.2.1
      rw [e1] at h2y
      obtain ⟨i, rfl⟩ : ∃ i : Nat, e = (i : Int) := ⟨e.toNat, by omega⟩
      have hi : i < (evX D' wo T (vwC D') (stC D') (-1)).1 := by omega
      have kh := (hC'.2.1.2.2.2.1 i (by omega)).2
      obtain ⟨sA1, sA2, ⟨sA3, sA4, sA5, sA6⟩, sA7⟩ := hK'.2.2.1 i hi
      obtain ⟨t, rfl⟩ : ∃ t : Nat, u = (t : Int) := ⟨u.toNat, by omega⟩
      have ht : t < nt := by omega
      refine s_al0 rfl ?_
      refine s_gf rfl (hk'.at rfl rfl) rfl rfl ?_
      refine s_il1 rfl ?_
      refine s_callO rfl rfl (Or.inl rfl) rfl rfl (hk'.at rfl rfl) (v_slot hk' hC'.2.1 (show i < m' by omega) ?_)
      show V G l (d + 6) iX11_treaty 30 [rf 1, (0, (i : Int)), (0, (t : Int)), (0, what), (9, 0)] ((2, ((279 + 10 * i : Nat) : Int)) :: []) (K', D', z') P
      refine s_as4 rfl rfl ?_
      refine s_il3 rfl ?_
      refine s_sw rfl ?_
      refine And.intro (fun h33 => ?_) (fun h33n0 => ?_)
      · skip
        refine s_al4 rfl ?_
        refine s_gf rfl kh.2.1 rfl rfl ?_
        refine s_il2 rfl ?_
        refine s_iald rfl kh.2.2.2.2.2.2.1 (by omega) ?_
        refine s_reti rfl rfl ?_
        have k1 := k1 K' D' z' m' hR' i t rfl rfl hi ht (by omega)
        unfold anT at k1
        rw [if_pos h33] at k1
        rw [(sA6 t ht).1]; exact k1
      refine And.intro (fun h33 => ?_) (fun h33n1 => ?_)
      · skip
        refine s_al4 rfl ?_
        refine s_gf rfl kh.2.1 rfl rfl ?_
        refine s_il2 rfl ?_
        refine s_iald rfl kh.2.2.2.2.2.2.2.1 (by omega) ?_
        refine s_reti rfl rfl ?_
        have k1 := k1 K' D' z' m' hR' i t rfl rfl hi ht (by omega)
        unfold anT at k1
        rw [if_neg (by omega), if_pos h33] at k1
        rw [(sA6 t ht).2.1]; exact k1
      refine And.intro (fun h33 => ?_) (fun h33n2 => ?_)
      · skip
        refine s_al4 rfl ?_
        refine s_gf rfl kh.2.1 rfl rfl ?_
        refine s_il2 rfl ?_
        refine s_iald rfl kh.2.2.2.2.2.2.2.2.1 (by omega) ?_
        refine s_reti rfl rfl ?_
        have k1 := k1 K' D' z' m' hR' i t rfl rfl hi ht (by omega)
        unfold anT at k1
        rw [if_neg (by omega), if_neg (by omega), if_pos h33] at k1
        rw [(sA6 t ht).2.2]; exact k1
      refine And.intro (fun h33 => ?_) (fun h33n3 => ?_)
      · skip
        refine s_al4 rfl ?_
        refine s_gf rfl kh.2.1 rfl rfl ?_
        refine s_il2 rfl ?_
        refine s_iald rfl kh.2.2.2.2.2.2.2.2.2.1 (by omega) ?_
        refine s_reti rfl rfl ?_
        have k1 := k1 K' D' z' m' hR' i t rfl rfl hi ht (by omega)
        unfold anT at k1
        rw [if_neg (by omega), if_neg (by omega), if_neg (by omega), if_pos h33] at k1
        rw [(sA7 t ht).1]; exact k1
      refine And.intro (fun h33 => ?_) (fun h33n4 => ?_)
      · skip
        refine s_al4 rfl ?_
        refine s_gf rfl kh.2.1 rfl rfl ?_
        refine s_il2 rfl ?_
        refine s_iald rfl kh.2.2.2.2.2.2.2.2.2.2 (by omega) ?_
        refine s_reti rfl rfl ?_
        have k1 := k1 K' D' z' m' hR' i t rfl rfl hi ht (by omega)
        unfold anT at k1
        rw [if_neg (by omega), if_neg (by omega), if_neg (by omega), if_neg (by omega)] at k1
        rw [(sA7 t ht).2]; exact k1
      refine s_ic rfl ?_
      refine s_reti rfl rfl ?_
      exact k0 K' D' z' m' hR' (fun q => by omega)
    · intro h17
      have h2n : ¬ (0 ≤ u ∧ u < D' T 1) := fun x => by rw [if_pos x] at h2; omega
      refine s_ic rfl ?_
      refine s_reti rfl rfl ?_
      first | exact k0 K' D' z' m' hR' (fun q => h1n q.1) | exact k0 K' D' z' m' hR' (fun q => h2n q.2.1)
end
