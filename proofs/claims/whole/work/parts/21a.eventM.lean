/-! ===== event: the reference ===== -/
section
variable {G : aCX} {l : Launch} {d : Nat} {K : Nat → aKd} {D : Nat → Int → Int} {z : Nat × Nat} {P : Int → aSt → Prop}
theorem u_event {T nt : Nat} {wo : Int → Int} {cn : Nat → Nat} {cc : Nat → Nat → Int × Int} {e what : Int} {D0 : Nat → Int → Int} (hk : Kn K) (hD : D0 = aUp D 210 0 0) (hC : CW T nt wo cn cc D0) (hP : Cp T nt wo cn cc D0) (hst : StR D0 wo T (vwC D0) 63 (stC D0)) (k1 : ∀ D', MsX D0 wo T nt cn cc (-1) (stC D0) D' → ∀ i : Nat, e = (i : Int) → i < (evX D0 wo T (vwC D0) (stC D0) (-1)).1 → 0 ≤ what ∧ what ≤ 4 → P (anE wo T nt cn cc D0 i what) (K, D', z)) (k0 : ∀ D', MsX D0 wo T nt cn cc (-1) (stC D0) D' → ¬ ((0 ≤ e ∧ e < (((evX D0 wo T (vwC D0) (stC D0) (-1)).1 : Nat) : Int)) ∧ 0 ≤ what ∧ what ≤ 4) → P (-1) (K, D', z)) : VM G l (d + 5) iX12_event [rf 210, (0, e), (0, what)] (K, D, z) P := by
  have ef := evX_facts (v := vwC D0) (stm := stC D0) (ms := -1) hC
  refine VM_go (tg2 rfl) (Nat.le_of_ble_eq_true rfl) ?_
  refine s_al0 rfl ?_
  refine s_ic rfl ?_
  refine s_pi rfl (hk.at rfl rfl) rfl ?_
  rw [← hD]
  refine s_al0 rfl ?_
  refine s_callO rfl rfl (Or.inl rfl) rfl rfl (hk.at rfl rfl) (u_settlesAll hk hC hP hst (fun D' hX => ?_))
  have n54 := hX.2.2.2.1
  have n60 := ef.2.1
  show V G l (d + 5) iX12_event 9 [rf 210, (0, e), (0, what), (9, 0), (9, 0), (9, 0)] [] (K, D', z) P
  refine s_il1 rfl ?_
  refine s_zlt rfl ?_ ?_
  · intro h10
    refine s_ic rfl ?_
    refine s_reti rfl rfl ?_
    exact k0 D' hX (fun q => by omega)
  · intro h10
    refine s_il1 rfl ?_
    refine s_al0 rfl ?_
    refine s_gi rfl (hk.at rfl rfl) rfl ?_
    rw [n54]
    refine s_cge rfl ?_ ?_
    · intro h18
      refine s_ic rfl ?_
      refine s_reti rfl rfl ?_
      exact k0 D' hX (fun q => by omega)
    · intro h18
      refine s_il2 rfl ?_
      refine s_zlt rfl ?_ ?_
      · intro h22
        refine s_ic rfl ?_
        refine s_reti rfl rfl ?_
        exact k0 D' hX (fun q => by omega)
      · intro h22
        refine s_il2 rfl ?_
        refine s_ic rfl ?_
        refine s_cle rfl ?_ ?_
        · intro h27
          refine s_lc rfl ?_
          refine s_ls3 rfl rfl ?_
          refine s_ic rfl ?_
          refine s_is5 rfl rfl ?_
          obtain ⟨i, rfl⟩ : ∃ i : Nat, e = (i : Int) := ⟨e.toNat, by omega⟩
          have hi : i < (evX D0 wo T (vwC D0) (stC D0) (-1)).1 := by omega
          obtain ⟨f1, f2⟩ := hX.2.2.2.2.2.1 i hi
          obtain ⟨s1, s2, s3, s4⟩ := hX.2.2.2.2.2.2.1 i hi
          have dq : ∀ h : Int, 0 ≤ h → h < 12 → 0 ≤ ((qX D0 wo T (vwC D0) (stC D0) (-1)) i).d h ∧ ((qX D0 wo T (vwC D0) (stC D0) (-1)) i).d h ≤ 6000000 := ef.2.2.2.1 i
          have fin : ∀ w : Int, w = anE wo T nt cn cc D0 i what → V G l (d + 5) iX12_event 130 [rf 210, (0, (i : Int)), (0, what), (1, sumF (fun h : Nat => ((qX D0 wo T (vwC D0) (stC D0) (-1)) i).d h) 12), (9, 0), (0, 12)] [(0, w)] (K, D', z) P := by
            intro w hw
            subst hw
            refine s_reti rfl rfl ?_
            exact k1 D' hX i rfl hi ⟨by omega, by omega⟩
          have last : V G l (d + 5) iX12_event 65 [rf 210, (0, (i : Int)), (0, what), (1, sumF (fun h : Nat => ((qX D0 wo T (vwC D0) (stC D0) (-1)) i).d h) 12), (9, 0), (0, 12)] [] (K, D', z) P := by
            refine s_il2 rfl ?_
            refine s_zne rfl ?_ ?_
            · intro h66
              refine s_il2 rfl ?_
              refine s_ic rfl ?_
              refine s_cne rfl ?_ ?_
              · intro h80
                refine s_il2 rfl ?_
                refine s_ic rfl ?_
                refine s_cne rfl ?_ ?_
                · intro h94
                  refine s_il2 rfl ?_
                  refine s_ic rfl ?_
                  refine s_cne rfl ?_ ?_
                  · intro h108
                    have n1 := sumF_le (f := fun h : Nat => ((qX D0 wo T (vwC D0) (stC D0) (-1)) i).d h) (n := 12) (c := 6000000) (fun h' hh' => (dq h' (by omega) (by omega)).2)
                    have n0 := sumF_nonneg (f := fun h : Nat => ((qX D0 wo T (vwC D0) (stC D0) (-1)) i).d h) (n := 12) (fun h' hh' => (dq h' (by omega) (by omega)).1)
                    refine s_ll3 rfl ?_
                    refine s_l2i rfl ⟨by omega, by omega⟩ ?_
                    refine fin _ ?_
                    unfold anE; rw [if_neg h66, if_neg h80, if_neg h94, if_neg h108]
                  · intro h108
                    refine s_al0 rfl ?_
                    refine s_gf rfl (hk.at rfl rfl) rfl rfl ?_
                    refine s_il1 rfl ?_
                    refine s_bald rfl (hk.at rfl rfl) (by omega) ?_
                    rw [s2]
                    have fin := fin
                    unfold anE at fin
                    rw [if_neg h66, if_neg h80, if_neg h94, if_pos h108] at fin
                    generalize (slP (WqC D0 T nt (vwC D0) cn cc) (acP (WqC D0 T nt (vwC D0) cn cc) (qX D0 wo T (vwC D0) (stC D0) (-1)) i).1 ((qX D0 wo T (vwC D0) (stC D0) (-1)) i)).2.1 = bb at fin ⊢
                    cases bb
                    · refine s_zeq rfl (fun _ => ?_) (fun q => absurd rfl q)
                      refine s_ic rfl ?_
                      refine s_go rfl ?_
                      exact fin 0 rfl
                    · refine s_zeq rfl (fun q => absurd q (by decide)) (fun _ => ?_)
                      refine s_ic rfl ?_
                      refine s_go rfl ?_
                      exact fin 1 rfl
                · intro h94
                  refine s_al0 rfl ?_
                  refine s_gf rfl (hk.at rfl rfl) rfl rfl ?_
                  refine s_il1 rfl ?_
                  refine s_iald rfl (hk.at rfl rfl) (by omega) ?_
                  refine s_go rfl ?_
                  refine fin _ ?_
                  unfold anE; rw [if_neg h66, if_neg h80, if_pos h94, s1]
              · intro h80
                refine s_al0 rfl ?_
                refine s_gf rfl (hk.at rfl rfl) rfl rfl ?_
                refine s_il1 rfl ?_
                refine s_iald rfl (hk.at rfl rfl) (by omega) ?_
                refine s_go rfl ?_
                refine fin _ ?_
                unfold anE; rw [if_neg h66, if_pos h80, f2]
            · intro h66
              refine s_al0 rfl ?_
              refine s_gf rfl (hk.at rfl rfl) rfl rfl ?_
              refine s_il1 rfl ?_
              refine s_iald rfl (hk.at rfl rfl) (by omega) ?_
              refine s_go rfl ?_
              refine fin _ ?_
              unfold anE; rw [if_pos h66, f1]
          have lp : ∀ (f h : Nat), h + f = 12 → V G l (d + 5) iX12_event 37 [rf 210, (0, (i : Int)), (0, what), (1, sumF (fun h : Nat => ((qX D0 wo T (vwC D0) (stC D0) (-1)) i).d h) h), (9, 0), (0, (h : Int))] [] (K, D', z) P := by
            intro f
            induction f with
            | zero =>
              intro h hf
              have hf : h = 12 := by omega
              subst hf
              refine s_il5 rfl ?_
              refine s_ic rfl ?_
              refine s_cge rfl ?_ ?_
              · intro h41
                exact last
              · intro h41
                omega
            | succ f ih =>
              intro h hf
              have dd := (s3 h (by omega) (by omega)).1
              have db := dq h (by omega) (by omega)
              have n0 := sumF_nonneg (f := fun h : Nat => ((qX D0 wo T (vwC D0) (stC D0) (-1)) i).d h) (n := h) (fun h' hh' => (dq h' (by omega) (by omega)).1)
              have n1 := sumF_le (f := fun h : Nat => ((qX D0 wo T (vwC D0) (stC D0) (-1)) i).d h) (n := h) (c := 6000000) (fun h' hh' => (dq h' (by omega) (by omega)).2)
              have st : sumF (fun h : Nat => ((qX D0 wo T (vwC D0) (stC D0) (-1)) i).d h) (h + 1) = sumF (fun h : Nat => ((qX D0 wo T (vwC D0) (stC D0) (-1)) i).d h) h + ((qX D0 wo T (vwC D0) (stC D0) (-1)) i).d h := rfl
              refine s_il5 rfl ?_
              refine s_ic rfl ?_
              refine s_cge rfl ?_ ?_
              · intro h41
                omega
              · intro h41
                refine s_ll3 rfl ?_
                refine s_al0 rfl ?_
                refine s_gf rfl (hk.at rfl rfl) rfl rfl ?_
                refine s_ic rfl ?_
                refine s_il1 rfl ?_
                refine s_imul rfl ⟨by omega, by omega⟩ ?_
                refine s_il5 rfl ?_
                refine s_iadd rfl ⟨by omega, by omega⟩ ?_
                refine s_lald rfl (hk.at rfl rfl) (by omega) ?_
                rw [dd]
                refine s_ladd rfl ⟨by omega, by omega⟩ ?_
                refine s_ls3 rfl rfl ?_
                refine s_iinc5 rfl rfl ⟨by omega, by omega⟩ ?_
                refine s_go rfl ?_
                exact ih (h + 1) (by omega)
          exact lp 12 0 (by omega)
        · intro h27
          refine s_ic rfl ?_
          refine s_reti rfl rfl ?_
          exact k0 D' hX (fun q => by omega)
end
