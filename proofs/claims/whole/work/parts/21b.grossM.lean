/-! ===== gross, treaty: the reference ===== -/
theorem gr_in {W : WdQ} {nh : Int} {us : Nat → Int} {Q : EvQ} {h : Int} (hW : WqB W nh) (hu : ∀ t, t < W.nt → 0 ≤ us t ∧ us t ≤ W.w t 3 * (1 + W.w t 5)) (hQ : EqB Q) (h0 : 0 ≤ h) (h12 : h < 12) : (0 ≤ grP W us Q h ∧ grP W us Q h ≤ 20000000) ∧ (0 ≤ rtP W us Q h ∧ rtP W us Q h ≤ 20000000) := by
  have q := hQ h h0 h12
  unfold grP rtP
  cases hen : (slP W us Q).2.1 with
  | true => rw [if_pos rfl, if_pos rfl]; omega
  | false =>
    have s := slP_in hW hu hQ hen h h0 h12
    rw [if_neg (by decide), if_neg (by decide)]
    have rm : ∀ t, t < W.nt → 0 ≤ rmP W.w us t := fun t ht => by
      have a := hu t ht
      have b := (hW.2 t ht).1
      unfold rmP; split <;> omega
    have hs := hsF_in (w := W.w) (rm := rmP W.w us) (pay := pyP W Q) (d := Q.d) (g := (slP W us Q).2.2) (h := h) hW.1 rm ⟨q.1, s.1⟩ W.nt (Nat.le_refl _)
    omega
section
variable {G : aCX} {l : Launch} {d : Nat} {K : Nat → aKd} {D : Nat → Int → Int} {z : Nat × Nat} {P : Int → aSt → Prop}
theorem u_gross {T nt : Nat} {wo : Int → Int} {cn : Nat → Nat} {cc : Nat → Nat → Int × Int} {e h what : Int} {D0 : Nat → Int → Int} (hk : Kn K) (hD : D0 = aUp D 210 0 0) (hC : CW T nt wo cn cc D0) (hP : Cp T nt wo cn cc D0) (hst : StR D0 wo T (vwC D0) 63 (stC D0)) (k1 : ∀ D', MsX D0 wo T nt cn cc (-1) (stC D0) D' → ∀ i : Nat, e = (i : Int) → i < (evX D0 wo T (vwC D0) (stC D0) (-1)).1 → 0 ≤ h ∧ h < D0 T 0 → 0 ≤ what ∧ what ≤ 2 → P (anG wo T nt cn cc D0 i h what) (K, D', z)) (k0 : ∀ D', MsX D0 wo T nt cn cc (-1) (stC D0) D' → ¬ ((0 ≤ e ∧ e < (((evX D0 wo T (vwC D0) (stC D0) (-1)).1 : Nat) : Int)) ∧ (0 ≤ h ∧ h < D0 T 0) ∧ 0 ≤ what ∧ what ≤ 2) → P (-1) (K, D', z)) : VM G l (d + 5) iX12_gross [rf 210, (0, e), (0, h), (0, what)] (K, D, z) P := by
  have ef := evX_facts (v := vwC D0) (stm := stC D0) (ms := -1) hC
  have h10 := hP.2.2.1.1
  have e216 := hP.2.2.1.2.1
  have n12 := hC.2.2.2.2.2.1.2.2.1
  refine VM_go (tg2 rfl) (Nat.le_of_ble_eq_true rfl) ?_
  refine s_al0 rfl ?_
  refine s_ic rfl ?_
  refine s_pi rfl (hk.at rfl rfl) rfl ?_
  rw [← hD]
  refine s_al0 rfl ?_
  refine s_callO rfl rfl (Or.inl rfl) rfl rfl (hk.at rfl rfl) (u_settlesAll hk hC hP hst (fun D' hX => ?_))
  have n54 := hX.2.2.2.1
  have n60 := ef.2.1
  have e10 : D' 210 10 = D0 210 10 := hX.2.1 10 (by decide) (by decide) (by decide) (by decide)
  show V G l (d + 5) iX12_gross 9 [rf 210, (0, e), (0, h), (0, what), (9, 0)] [] (K, D', z) P
  refine s_il1 rfl ?_
  refine s_zlt rfl ?_ ?_
  · intro h10
    refine s_ic rfl ?_
    refine s_reti rfl rfl ?_
    first | exact k0 D' hX (fun q => h1n q.2.1) | exact k0 D' hX (fun q => by omega)
  · intro h10
    refine s_il1 rfl ?_
    refine s_al0 rfl ?_
    refine s_gi rfl (hk.at rfl rfl) rfl ?_
    rw [n54]
    refine s_cge rfl ?_ ?_
    · intro h18
      refine s_ic rfl ?_
      refine s_reti rfl rfl ?_
      first | exact k0 D' hX (fun q => h1n q.2.1) | exact k0 D' hX (fun q => by omega)
    · intro h18
      refine s_al0 rfl ?_
      refine s_il2 rfl ?_
      refine s_callO rfl rfl (Or.inl rfl) rfl rfl (hk.at rfl rfl) (u_isHouse hk (by rw [e10]; omega) ?_)
      have e2 : D' 216 = D0 216 := hX.1 216 (by decide) (by decide)
      rw [e10, e2, e216]
      show V G l (d + 5) iX12_gross 26 [rf 210, (0, e), (0, h), (0, what), (9, 0)] [(0, if 0 ≤ h ∧ h < D0 T 0 then 1 else 0)] (K, D', z) P
      generalize h1 : (if 0 ≤ h ∧ h < D0 T 0 then (1 : Int) else 0) = c_h1
      refine s_zeq rfl ?_ ?_
      · intro h26
        have h1n : ¬ (0 ≤ h ∧ h < D0 T 0) := fun x => by rw [if_pos x] at h1; omega
        refine s_ic rfl ?_
        refine s_reti rfl rfl ?_
        first | exact k0 D' hX (fun q => h1n q.2.1) | exact k0 D' hX (fun q => by omega)
      · intro h26
        have h1y : 0 ≤ h ∧ h < D0 T 0 := Decidable.byContradiction fun x => by rw [if_neg x] at h1; omega
        refine s_il3 rfl ?_
        refine s_zlt rfl ?_ ?_
        · intro h30
          refine s_ic rfl ?_
          refine s_reti rfl rfl ?_
          first | exact k0 D' hX (fun q => h1n q.2.1) | exact k0 D' hX (fun q => by omega)
        · intro h30
          refine s_il3 rfl ?_
          refine s_ic rfl ?_
          refine s_cle rfl ?_ ?_
          · intro h35
            obtain ⟨i, rfl⟩ : ∃ i : Nat, e = (i : Int) := ⟨e.toNat, by omega⟩
            have hi : i < (evX D0 wo T (vwC D0) (stC D0) (-1)).1 := by omega
            obtain ⟨s1, s2, s3, s4⟩ := hX.2.2.2.2.2.2.1 i hi
            have wb := WqX_B (v := vwC D0) hC
            have eqb := ef.2.2.2.1
            have ain := acP_in (Q := (qX D0 wo T (vwC D0) (stC D0) (-1))) wb i (fun j _ => eqb j)
            have gi := gr_in (h := h) wb (fun t ht => (ain t ht).1) (eqb i) (by omega) (by omega)
            have dq := eqb i h (by omega) (by omega)
            obtain ⟨d1, d2, d3⟩ := s3 h (by omega) (by omega)
            have fin : ∀ w : Int, w = anG wo T nt cn cc D0 i h what → i32 w → V G l (d + 5) iX12_gross 84 [rf 210, (0, (i : Int)), (0, h), (0, what), (0, 12 * (i : Int) + h)] [(1, w)] (K, D', z) P := by
              intro w hw hr
              refine s_l2i rfl hr ?_
              refine s_reti rfl rfl ?_
              rw [hw]
              exact k1 D' hX i rfl hi h1y ⟨by omega, by omega⟩
            refine s_ic rfl ?_
            refine s_il1 rfl ?_
            refine s_imul rfl ⟨by omega, by omega⟩ ?_
            refine s_il2 rfl ?_
            refine s_iadd rfl ⟨by omega, by omega⟩ ?_
            refine s_is4 rfl rfl ?_
            refine s_il3 rfl ?_
            refine s_zne rfl ?_ ?_
            · intro h49
              refine s_il3 rfl ?_
              refine s_ic rfl ?_
              refine s_cne rfl ?_ ?_
              · intro h64
                refine s_al0 rfl ?_
                refine s_gf rfl (hk.at rfl rfl) rfl rfl ?_
                refine s_il4 rfl ?_
                refine s_lald rfl (hk.at rfl rfl) (by omega) ?_
                rw [d3]
                first
                | exact fin _ (by unfold anG; rw [if_pos h49]) ⟨by omega, by omega⟩
                | exact fin _ (by unfold anG; rw [if_neg h49, if_pos h64]) ⟨by omega, by omega⟩
                | exact fin _ (by unfold anG; rw [if_neg h49, if_neg h64]) ⟨by omega, by omega⟩
              · intro h64
                refine s_al0 rfl ?_
                refine s_gf rfl (hk.at rfl rfl) rfl rfl ?_
                refine s_il4 rfl ?_
                refine s_lald rfl (hk.at rfl rfl) (by omega) ?_
                rw [d2]
                refine s_go rfl ?_
                first
                | exact fin _ (by unfold anG; rw [if_pos h49]) ⟨by omega, by omega⟩
                | exact fin _ (by unfold anG; rw [if_neg h49, if_pos h64]) ⟨by omega, by omega⟩
                | exact fin _ (by unfold anG; rw [if_neg h49, if_neg h64]) ⟨by omega, by omega⟩
            · intro h49
              refine s_al0 rfl ?_
              refine s_gf rfl (hk.at rfl rfl) rfl rfl ?_
              refine s_il4 rfl ?_
              refine s_lald rfl (hk.at rfl rfl) (by omega) ?_
              rw [d1]
              refine s_go rfl ?_
              first
              | exact fin _ (by unfold anG; rw [if_pos h49]) ⟨by omega, by omega⟩
              | exact fin _ (by unfold anG; rw [if_neg h49, if_pos h64]) ⟨by omega, by omega⟩
              | exact fin _ (by unfold anG; rw [if_neg h49, if_neg h64]) ⟨by omega, by omega⟩
          · intro h35
            refine s_ic rfl ?_
            refine s_reti rfl rfl ?_
            first | exact k0 D' hX (fun q => h1n q.2.1) | exact k0 D' hX (fun q => by omega)
theorem u_treaty {T nt : Nat} {wo : Int → Int} {cn : Nat → Nat} {cc : Nat → Nat → Int × Int} {e u what : Int} {D0 : Nat → Int → Int} (hk : Kn K) (hD : D0 = aUp D 210 0 0) (hC : CW T nt wo cn cc D0) (hP : Cp T nt wo cn cc D0) (hst : StR D0 wo T (vwC D0) 63 (stC D0)) (k1 : ∀ D', MsX D0 wo T nt cn cc (-1) (stC D0) D' → ∀ i t : Nat, e = (i : Int) → u = (t : Int) → i < (evX D0 wo T (vwC D0) (stC D0) (-1)).1 → t < nt → 0 ≤ what ∧ what ≤ 4 → P (anT wo T nt cn cc D0 i t what) (K, D', z)) (k0 : ∀ D', MsX D0 wo T nt cn cc (-1) (stC D0) D' → ¬ ((0 ≤ e ∧ e < (((evX D0 wo T (vwC D0) (stC D0) (-1)).1 : Nat) : Int)) ∧ (0 ≤ u ∧ u < (nt : Int)) ∧ 0 ≤ what ∧ what ≤ 4) → P (-1) (K, D', z)) : VM G l (d + 5) iX12_treaty [rf 210, (0, e), (0, u), (0, what)] (K, D, z) P := by
  have ef := evX_facts (v := vwC D0) (stm := stC D0) (ms := -1) hC
  have h10 := hP.2.2.1.1
  have e221 := hP.2.2.1.2.2.1
  have n24 := hC.2.2.2.2.2.1.1
  refine VM_go (tg2 rfl) (Nat.le_of_ble_eq_true rfl) ?_
  refine s_al0 rfl ?_
  refine s_ic rfl ?_
  refine s_pi rfl (hk.at rfl rfl) rfl ?_
  rw [← hD]
  refine s_al0 rfl ?_
  refine s_callO rfl rfl (Or.inl rfl) rfl rfl (hk.at rfl rfl) (u_settlesAll hk hC hP hst (fun D' hX => ?_))
  have n54 := hX.2.2.2.1
  have n60 := ef.2.1
  have e10 : D' 210 10 = D0 210 10 := hX.2.1 10 (by decide) (by decide) (by decide) (by decide)
  show V G l (d + 5) iX12_treaty 9 [rf 210, (0, e), (0, u), (0, what), (9, 0)] [] (K, D', z) P
  refine s_il1 rfl ?_
  refine s_zlt rfl ?_ ?_
  · intro h10
    refine s_ic rfl ?_
    refine s_reti rfl rfl ?_
    first | exact k0 D' hX (fun q => h1n q.2.1) | exact k0 D' hX (fun q => by omega)
  · intro h10
    refine s_il1 rfl ?_
    refine s_al0 rfl ?_
    refine s_gi rfl (hk.at rfl rfl) rfl ?_
    rw [n54]
    refine s_cge rfl ?_ ?_
    · intro h18
      refine s_ic rfl ?_
      refine s_reti rfl rfl ?_
      first | exact k0 D' hX (fun q => h1n q.2.1) | exact k0 D' hX (fun q => by omega)
    · intro h18
      refine s_al0 rfl ?_
      refine s_il2 rfl ?_
      refine s_callO rfl rfl (Or.inl rfl) rfl rfl (hk.at rfl rfl) (u_isTreaty hk (by rw [e10]; omega) ?_)
      have e2 : D' 221 = D0 221 := hX.1 221 (by decide) (by decide)
      rw [e10, e2, e221]
      show V G l (d + 5) iX12_treaty 26 [rf 210, (0, e), (0, u), (0, what), (9, 0)] [(0, if 0 ≤ u ∧ u < (nt : Int) then 1 else 0)] (K, D', z) P
      generalize h1 : (if 0 ≤ u ∧ u < (nt : Int) then (1 : Int) else 0) = c_h1
      refine s_zeq rfl ?_ ?_
      · intro h26
        have h1n : ¬ (0 ≤ u ∧ u < (nt : Int)) := fun x => by rw [if_pos x] at h1; omega
        refine s_ic rfl ?_
        refine s_reti rfl rfl ?_
        first | exact k0 D' hX (fun q => h1n q.2.1) | exact k0 D' hX (fun q => by omega)
      · intro h26
        have h1y : 0 ≤ u ∧ u < (nt : Int) := Decidable.byContradiction fun x => by rw [if_neg x] at h1; omega
        refine s_il3 rfl ?_
        refine s_zlt rfl ?_ ?_
        · intro h30
          refine s_ic rfl ?_
          refine s_reti rfl rfl ?_
          first | exact k0 D' hX (fun q => h1n q.2.1) | exact k0 D' hX (fun q => by omega)
        · intro h30
          refine s_il3 rfl ?_
          refine s_ic rfl ?_
          refine s_cle rfl ?_ ?_
          · intro h35
            obtain ⟨i, rfl⟩ : ∃ i : Nat, e = (i : Int) := ⟨e.toNat, by omega⟩
            have hi : i < (evX D0 wo T (vwC D0) (stC D0) (-1)).1 := by omega
            obtain ⟨s1, s2, s3, s4⟩ := hX.2.2.2.2.2.2.1 i hi
            have wb := WqX_B (v := vwC D0) hC
            have eqb := ef.2.2.2.1
            have ain := acP_in (Q := (qX D0 wo T (vwC D0) (stC D0) (-1))) wb i (fun j _ => eqb j)
            obtain ⟨t, rfl⟩ : ∃ t : Nat, u = (t : Int) := ⟨u.toNat, by omega⟩
            have ht : t < nt := by omega
            have ui := usP_in (t := t) wb (fun t ht => (ain t ht).1) (eqb i) ht
            have ri := rsF_in (U := usP (WqC D0 T nt (vwC D0) cn cc) (acP (WqC D0 T nt (vwC D0) cn cc) (qX D0 wo T (vwC D0) (stC D0) (-1)) i).1 ((qX D0 wo T (vwC D0) (stC D0) (-1)) i)) wb ht (ain t ht).2 ui.1.1
            have wt := wb.2 t ht
            have mx : ((WqC D0 T nt (vwC D0) cn cc)).w t 6 * ((WqC D0 T nt (vwC D0) cn cc)).w t 5 ≤ 999999 * 9 := Int.mul_le_mul wt.2.2.1.2 wt.2.1.2 wt.2.1.1 (by omega)
            obtain ⟨a1, a2, a3, a4, a5⟩ := s4 t ht
            have fin : ∀ w : Int, w = anT wo T nt cn cc D0 i t what → i32 w → V G l (d + 5) iX12_treaty 114 [rf 210, (0, (i : Int)), (0, (t : Int)), (0, what), (0, 24 * (i : Int) + (t : Int))] [(1, w)] (K, D', z) P := by
              intro w hw hr
              refine s_l2i rfl hr ?_
              refine s_reti rfl rfl ?_
              rw [hw]
              exact k1 D' hX i t rfl rfl hi ht ⟨by omega, by omega⟩
            refine s_ic rfl ?_
            refine s_il1 rfl ?_
            refine s_imul rfl ⟨by omega, by omega⟩ ?_
            refine s_il2 rfl ?_
            refine s_iadd rfl ⟨by omega, by omega⟩ ?_
            refine s_is4 rfl rfl ?_
            refine s_il3 rfl ?_
            refine s_zne rfl ?_ ?_
            · intro h49
              refine s_il3 rfl ?_
              refine s_ic rfl ?_
              refine s_cne rfl ?_ ?_
              · intro h64
                refine s_il3 rfl ?_
                refine s_ic rfl ?_
                refine s_cne rfl ?_ ?_
                · intro h79
                  refine s_il3 rfl ?_
                  refine s_ic rfl ?_
                  refine s_cne rfl ?_ ?_
                  · intro h94
                    refine s_al0 rfl ?_
                    refine s_gf rfl (hk.at rfl rfl) rfl rfl ?_
                    refine s_il4 rfl ?_
                    refine s_lald rfl (hk.at rfl rfl) (by omega) ?_
                    rw [a5]
                    first
                    | exact fin _ (by unfold anT; rw [if_pos h49]) ⟨by omega, by omega⟩
                    | exact fin _ (by unfold anT; rw [if_neg h49, if_pos h64]) ⟨by omega, by omega⟩
                    | exact fin _ (by unfold anT; rw [if_neg h49, if_neg h64, if_pos h79]) ⟨by omega, by omega⟩
                    | exact fin _ (by unfold anT; rw [if_neg h49, if_neg h64, if_neg h79, if_pos h94]) ⟨by omega, by omega⟩
                    | exact fin _ (by unfold anT; rw [if_neg h49, if_neg h64, if_neg h79, if_neg h94]) ⟨by omega, by omega⟩
                  · intro h94
                    refine s_al0 rfl ?_
                    refine s_gf rfl (hk.at rfl rfl) rfl rfl ?_
                    refine s_il4 rfl ?_
                    refine s_lald rfl (hk.at rfl rfl) (by omega) ?_
                    rw [a4]
                    refine s_go rfl ?_
                    first
                    | exact fin _ (by unfold anT; rw [if_pos h49]) ⟨by omega, by omega⟩
                    | exact fin _ (by unfold anT; rw [if_neg h49, if_pos h64]) ⟨by omega, by omega⟩
                    | exact fin _ (by unfold anT; rw [if_neg h49, if_neg h64, if_pos h79]) ⟨by omega, by omega⟩
                    | exact fin _ (by unfold anT; rw [if_neg h49, if_neg h64, if_neg h79, if_pos h94]) ⟨by omega, by omega⟩
                    | exact fin _ (by unfold anT; rw [if_neg h49, if_neg h64, if_neg h79, if_neg h94]) ⟨by omega, by omega⟩
                · intro h79
                  refine s_al0 rfl ?_
                  refine s_gf rfl (hk.at rfl rfl) rfl rfl ?_
                  refine s_il4 rfl ?_
                  refine s_lald rfl (hk.at rfl rfl) (by omega) ?_
                  rw [a3]
                  refine s_go rfl ?_
                  first
                  | exact fin _ (by unfold anT; rw [if_pos h49]) ⟨by omega, by omega⟩
                  | exact fin _ (by unfold anT; rw [if_neg h49, if_pos h64]) ⟨by omega, by omega⟩
                  | exact fin _ (by unfold anT; rw [if_neg h49, if_neg h64, if_pos h79]) ⟨by omega, by omega⟩
                  | exact fin _ (by unfold anT; rw [if_neg h49, if_neg h64, if_neg h79, if_pos h94]) ⟨by omega, by omega⟩
                  | exact fin _ (by unfold anT; rw [if_neg h49, if_neg h64, if_neg h79, if_neg h94]) ⟨by omega, by omega⟩
              · intro h64
                refine s_al0 rfl ?_
                refine s_gf rfl (hk.at rfl rfl) rfl rfl ?_
                refine s_il4 rfl ?_
                refine s_lald rfl (hk.at rfl rfl) (by omega) ?_
                rw [a2]
                refine s_go rfl ?_
                first
                | exact fin _ (by unfold anT; rw [if_pos h49]) ⟨by omega, by omega⟩
                | exact fin _ (by unfold anT; rw [if_neg h49, if_pos h64]) ⟨by omega, by omega⟩
                | exact fin _ (by unfold anT; rw [if_neg h49, if_neg h64, if_pos h79]) ⟨by omega, by omega⟩
                | exact fin _ (by unfold anT; rw [if_neg h49, if_neg h64, if_neg h79, if_pos h94]) ⟨by omega, by omega⟩
                | exact fin _ (by unfold anT; rw [if_neg h49, if_neg h64, if_neg h79, if_neg h94]) ⟨by omega, by omega⟩
            · intro h49
              refine s_al0 rfl ?_
              refine s_gf rfl (hk.at rfl rfl) rfl rfl ?_
              refine s_il4 rfl ?_
              refine s_lald rfl (hk.at rfl rfl) (by omega) ?_
              rw [a1]
              refine s_go rfl ?_
              first
              | exact fin _ (by unfold anT; rw [if_pos h49]) ⟨by omega, by omega⟩
              | exact fin _ (by unfold anT; rw [if_neg h49, if_pos h64]) ⟨by omega, by omega⟩
              | exact fin _ (by unfold anT; rw [if_neg h49, if_neg h64, if_pos h79]) ⟨by omega, by omega⟩
              | exact fin _ (by unfold anT; rw [if_neg h49, if_neg h64, if_neg h79, if_pos h94]) ⟨by omega, by omega⟩
              | exact fin _ (by unfold anT; rw [if_neg h49, if_neg h64, if_neg h79, if_neg h94]) ⟨by omega, by omega⟩
          · intro h35
            refine s_ic rfl ?_
            refine s_reti rfl rfl ?_
            first | exact k0 D' hX (fun q => h1n q.2.1) | exact k0 D' hX (fun q => by omega)
end
