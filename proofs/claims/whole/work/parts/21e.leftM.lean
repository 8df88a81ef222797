/-! ===== left: the reference ===== -/
section
variable {G : aCX} {l : Launch} {d : Nat} {K : Nat → aKd} {D : Nat → Int → Int} {z : Nat × Nat} {P : Int → aSt → Prop}
theorem u_left {T nt : Nat} {wo : Int → Int} {cn : Nat → Nat} {cc : Nat → Nat → Int × Int} {u : Int} {D0 : Nat → Int → Int} (hk : Kn K) (hD : D0 = aUp D 210 0 0) (hC : CW T nt wo cn cc D0) (hP : Cp T nt wo cn cc D0) (hst : StR D0 wo T (vwC D0) 63 (stC D0)) (k1 : ∀ t : Nat, u = (t : Int) → t < nt → ¬ wC D0 T t 1 = 0 → ∀ D', MsX D0 wo T nt cn cc (-1) (stC D0) D' → P (wC D0 T t 3 * (1 + wC D0 T t 5) - (acP (WqC D0 T nt (vwC D0) cn cc) (qX D0 wo T (vwC D0) (stC D0) (-1)) (evX D0 wo T (vwC D0) (stC D0) (-1)).1).1 t) (K, D', z)) (k0 : (∀ t : Nat, u = (t : Int) → t < nt → wC D0 T t 1 = 0) → ∀ D', MsX D0 wo T nt cn cc (-1) (stC D0) D' → P (-1) (K, D', z)) : VM G l (d + 5) iX12_left [rf 210, (0, u)] (K, D, z) P := by
  have ef := evX_facts (v := vwC D0) (stm := stC D0) (ms := -1) hC
  have h10 := hP.2.2.1.1
  have e221 := hP.2.2.1.2.2.1
  have n24 := hC.2.2.2.2.2.1.1
  refine VM_go (tg2 rfl) (Nat.le_of_ble_eq_true rfl) ?_
  refine s_al0 rfl ?_
  refine s_ic rfl ?_
  refine s_pi rfl (hk.at rfl rfl) rfl ?_
  rw [← hD]
  refine s_al0 rfl ?_
  refine s_callO rfl rfl (Or.inl rfl) rfl rfl (hk.at rfl rfl) (u_settlesAll hk hC hP hst (fun D' hX => ?_))
  have e10 : D' 210 10 = D0 210 10 := hX.2.1 10 (by decide) (by decide) (by decide) (by decide)
  have row : ∀ r, 216 ≤ r → r < 236 → D' r = D0 r := fun r q1 q2 => hX.1 r (by omega) (by omega)
  show V G l (d + 5) iX12_left 9 [rf 210, (0, u), (9, 0)] [] (K, D', z) P
  refine s_ic rfl ?_
  refine s_al0 rfl ?_
  refine s_gi rfl (hk.at rfl rfl) rfl ?_
  rw [e10]
  refine s_imul rfl ⟨by omega, by omega⟩ ?_
  refine s_il1 rfl ?_
  refine s_iaddW rfl ?_
  refine s_is2 rfl rfl ?_
  refine s_al0 rfl ?_
  refine s_il1 rfl ?_
  refine s_callO rfl rfl (Or.inl rfl) rfl rfl (hk.at rfl rfl) (u_isTreaty hk (by rw [e10]; omega) ?_)
  rw [e10, row 221 (by decide) (by decide), e221]
  show V G l (d + 5) iX12_left 24 [rf 210, (0, u), (0, wr (24 * D0 210 10 + u))] [(0, if 0 ≤ u ∧ u < (nt : Int) then 1 else 0)] (K, D', z) P
  generalize h1 : (if 0 ≤ u ∧ u < (nt : Int) then (1 : Int) else 0) = c_h1
  refine s_zeq rfl ?_ ?_
  · intro h24
    have h1n : ¬ (0 ≤ u ∧ u < (nt : Int)) := fun x => by rw [if_pos x] at h1; omega
    refine s_ic rfl ?_
    refine s_go rfl ?_
    refine s_reti rfl rfl ?_
    first
    | exact k1 t rfl ht h33 D' hX
    | exact k0 (fun t e ht => absurd ⟨by omega, by omega⟩ h1n) D' hX
    | exact k0 (fun t' e _ => by have e : t = t' := by omega
                                 subst e; exact h33) D' hX
  · intro h24
    have h1y : 0 ≤ u ∧ u < (nt : Int) := Decidable.byContradiction fun x => by rw [if_neg x] at h1; omega
    obtain ⟨t, rfl⟩ : ∃ t : Nat, u = (t : Int) := ⟨u.toNat, by omega⟩
    have ht : t < nt := by omega
    have w1 : D0 223 (24 * D0 210 10 + (t : Int)) = wC D0 T t 1 := (hP.2.2.1.2.2.2.1 t ht).2.1
    have hL := hP.2.2.1.2.2.2.2.1 t ht
    have r3 : D0 226 (24 * D0 210 10 + (t : Int)) = wM D0 t 3 := rfl
    have r5 : D0 228 (24 * D0 210 10 + (t : Int)) = wM D0 t 5 := rfl
    have h63 := hX.2.2.2.2.2.2.2.1 t ht
    rw [wr_id (show i32 (24 * D0 210 10 + (t : Int)) from ⟨by omega, by omega⟩)]
    refine s_al0 rfl ?_
    refine s_gf rfl (hk.at rfl rfl) rfl rfl ?_
    refine s_il2 rfl ?_
    refine s_bald rfl (hk.at rfl rfl) (by omega) ?_
    rw [row 223 (by decide) (by decide), w1]
    refine s_zne rfl ?_ ?_
    · intro h33
      obtain ⟨l3, l5, -⟩ := hL.1 h33
      have wb := WqX_B (v := vwC D0) hC
      have ain := (acP_in (Q := (qX D0 wo T (vwC D0) (stC D0) (-1))) wb (evX D0 wo T (vwC D0) (stC D0) (-1)).1 (fun i _ => ef.2.2.2.1 i) t ht).1
      have ain : 0 ≤ (acP (WqC D0 T nt (vwC D0) cn cc) (qX D0 wo T (vwC D0) (stC D0) (-1)) (evX D0 wo T (vwC D0) (stC D0) (-1)).1).1 t ∧ (acP (WqC D0 T nt (vwC D0) cn cc) (qX D0 wo T (vwC D0) (stC D0) (-1)) (evX D0 wo T (vwC D0) (stC D0) (-1)).1).1 t ≤ wC D0 T t 3 * (1 + wC D0 T t 5) := ain
      have b := wb.2 t ht
      have a3 : 0 ≤ wC D0 T t 3 ∧ wC D0 T t 3 ≤ 999999 := b.1
      have a5 : 0 ≤ wC D0 T t 5 ∧ wC D0 T t 5 ≤ 9 := b.2.1
      have mx : wC D0 T t 3 * (1 + wC D0 T t 5) ≤ 999999 * 10 := Int.mul_le_mul a3.2 (by omega) (by omega) (by omega)
      have mn : 0 ≤ wC D0 T t 3 * (1 + wC D0 T t 5) := Int.mul_nonneg a3.1 (by omega)
      refine s_al0 rfl ?_
      refine s_gf rfl (hk.at rfl rfl) rfl rfl ?_
      refine s_il2 rfl ?_
      refine s_iald rfl (hk.at rfl rfl) (by omega) ?_
      rw [row 226 (by decide) (by decide), r3, l3]
      refine s_i2l rfl ?_
      refine s_ic rfl ?_
      refine s_al0 rfl ?_
      refine s_gf rfl (hk.at rfl rfl) rfl rfl ?_
      refine s_il2 rfl ?_
      refine s_iald rfl (hk.at rfl rfl) (by omega) ?_
      rw [row 228 (by decide) (by decide), r5, l5]
      refine s_iadd rfl ⟨by omega, by omega⟩ ?_
      refine s_i2l rfl ?_
      refine s_lmul rfl ⟨by omega, by omega⟩ ?_
      refine s_al0 rfl ?_
      refine s_gf rfl (hk.at rfl rfl) rfl rfl ?_
      refine s_il1 rfl ?_
      refine s_lald rfl (hk.at rfl rfl) (by omega) ?_
      rw [h63]
      refine s_lsub rfl ⟨by omega, by omega⟩ ?_
      refine s_l2i rfl ⟨by omega, by omega⟩ ?_
      refine s_reti rfl rfl ?_
      first
      | exact k1 t rfl ht h33 D' hX
      | exact k0 (fun t e ht => absurd ⟨by omega, by omega⟩ h1n) D' hX
      | exact k0 (fun t' e _ => by have e : t = t' := by omega
                                   subst e; exact h33) D' hX
    · intro h33
      refine s_ic rfl ?_
      refine s_go rfl ?_
      refine s_reti rfl rfl ?_
      first
      | exact k1 t rfl ht h33 D' hX
      | exact k0 (fun t e ht => absurd ⟨by omega, by omega⟩ h1n) D' hX
      | exact k0 (fun t' e _ => by have e : t = t' := by omega
                                   subst e; exact h33) D' hX
end
