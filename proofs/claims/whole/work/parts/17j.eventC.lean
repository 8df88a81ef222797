/-! ===== an event line: the class ===== -/
section
variable {G : aCX} {l : Launch} {d : Nat} {K : Nat → aKd} {D : Nat → Int → Int} {z : Nat × Nat} {P : Int → aSt → Prop}
theorem v_readEvent {s ws : Int → Int} {n T k : Nat} {S : PS} (hg : SgR G l) (hk : Kn K) (hT : isT T) (hH : TpH s n ws D) (hA : AtC s n ws k D) (h53 : D 5 3 = (T : Nat)) (hI : PsI (kT s n ws) (mT s n) S k) (hS : StC s n T S D) (kk : ∀ w D', LiC s ws n T (qEv (kT s n ws) (nT s n) (pT2 s n) k S) D w D' → P w (K, D', z)) : VM G l (d + 3) iX4_readEvent [rf 5] (K, D, z) P := by
  have hT2 : T = 8 ∨ T = 129 := hT
  have h15 := hH.2.2.2.1
  have hpl : ∀ k, 0 ≤ pT2 s n k := fun k => (pl_in (s := s) (n := n) (k := k) h15).1
  obtain ⟨⟨i1, i2⟩, i3, i4, i5, i6, i7, i8, i9, i10⟩ := hI
  obtain ⟨⟨a0, a1⟩, a2, a3, a4, a5, a6, a7⟩ := id hS
  have bad : ∀ (f : Int) (D' : Nat → Int → Int), FrC T D D' → D' 5 4 = f → (qEv (kT s n ws) (nT s n) (pT2 s n) k S).1 = f → f ≠ 0 → P 0 (K, D', z) := fun f D' q1 q2 q3 q4 => kk 0 D' ⟨q1, fun y => absurd (q3.symm.trans y) q4, fun _ => ⟨rfl, by rw [q3]; exact q2⟩⟩
  have hF : (qEv (kT s n ws) (nT s n) (pT2 s n) k S).1 = qFo (qNm (kT s n ws) (nT s n) (pT2 s n) 0 7 (k + 1)) (qFo (qE6 (nT s n) (pT2 s n) (k + 1) S) (qFo (qTk (kT s n ws) (pT2 s n) 16 (k + 2)) (qFo (qNm (kT s n ws) (nT s n) (pT2 s n) 1 999 (k + 3)) (qFo (qTk (kT s n ws) (pT2 s n) 17 (k + 4)) (qFo (qNm (kT s n ws) (nT s n) (pT2 s n) 0 999 (k + 5)) (qTk (kT s n ws) (pT2 s n) 11 (k + 6))))))) := rfl
  refine VM_go (tg2 rfl) (Nat.le_of_ble_eq_true rfl) ?_
  refine s_al0 rfl ?_
  refine s_gf rfl (hk.at rfl rfl) rfl rfl ?_
  refine s_callO rfl rfl (Or.inl rfl) rfl rfl (hk.at rfl rfl) (v_adv (s := s) (ws := ws) (n := n) (k := k) hg hk hH hA (fun D1 gD1 hD1 hAD1 => ?_))
  have fD1 : FrC T D D1 := FrC_trans FrC_refl (FrC_0 (Fr0_tape gD1 hD1))
  have hHD1 := TpH_keep hH (gD1 3 (by decide)) (gD1 4 (by decide)) hD1
  show V G l (d + 3) iX4_readEvent 7 [rf 5, (9, 0)] [] (K, D1, z) P
  refine s_al0 rfl ?_
  refine s_ic rfl ?_
  refine s_ic rfl ?_
  refine s_callO rfl rfl (Or.inl rfl) rfl rfl (hk.at rfl rfl) (v_isNumber (s := s) (ws := ws) (n := n) (k := k + 1) hk hHD1 hAD1 (fun y1 z1 w1 => ?_) (fun y1 => ?_) (fun y1 z1 => ?_))
  rotate_left
  · show V G l (d + 3) iX4_readEvent 14 [rf 5, (9, 0)] [(0, 0)] (K, _, z) P
    refine s_zne rfl (fun q => absurd rfl q) (fun _ => ?_)
    refine s_ic rfl ?_
    refine s_retz rfl rfl (Or.inl rfl) ?_
    exact bad _ _ (FrC_trans fD1 (FrC_0 Fr0_fault)) aUp_at (by rw [hF, qNm_1 y1, qFo_l (by have := hpl (k + 1); omega)]) (by have := hpl (k + 1); omega)
  · show V G l (d + 3) iX4_readEvent 14 [rf 5, (9, 0)] [(0, 0)] (K, _, z) P
    refine s_zne rfl (fun q => absurd rfl q) (fun _ => ?_)
    refine s_ic rfl ?_
    refine s_retz rfl rfl (Or.inl rfl) ?_
    exact bad _ _ (FrC_trans fD1 (FrC_0 Fr0_fault)) aUp_at (by rw [hF, qNm_4 y1 z1, qFo_l (by have := hpl (k + 1); omega)]) (by have := hpl (k + 1); omega)
  rw [qNm_0 y1 z1, qFo_r rfl] at hF
  show V G l (d + 3) iX4_readEvent 14 [rf 5, (9, 0)] [(0, 1)] (K, D1, z) P
  refine s_zne rfl ?_ ?_
  · intro h14
    refine s_al0 rfl ?_
    refine s_gf rfl (hk.at rfl rfl) rfl rfl ?_
    refine s_gi rfl (hk.at rfl rfl) rfl ?_
    rw [w1]
    refine s_is1 rfl rfl ?_
    refine s_al0 rfl ?_
    refine s_gr rfl (hk.at rfl rfl) rfl ?_
    rw [show D1 5 3 = (T : Nat) by rw [gD1 5 (by decide)]; exact h53]
    refine s_gf rfl (KT hk hT) rfl rfl ?_
    refine s_il1 rfl ?_
    refine s_bald rfl (hT.elim (fun h => by subst h; exact hk.at rfl rfl) (fun h => by subst h; exact hk.at rfl rfl)) (by omega) ?_
    rw [show D1 (T + 6) (nT s n (k + 1)) = S.ct (nT s n (k + 1)) by rw [gD1 _ (by omega)]; exact (a7 _ z1.1 (by omega)).1]
    refine s_zeq rfl ?_ ?_
    · intro h36
      have e6 : qE6 (nT s n) (pT2 s n) (k + 1) S = 0 := if_pos h36
      rw [e6, qFo_r rfl] at hF
      refine s_al0 rfl ?_
      refine s_gr rfl (hk.at rfl rfl) rfl ?_
      rw [show D1 5 3 = (T : Nat) by rw [gD1 5 (by decide)]; exact h53]
      refine s_gf rfl (KT hk hT) rfl rfl ?_
      refine s_il1 rfl ?_
      refine s_ic rfl ?_
      refine s_bast rfl (hT.elim (fun h => by subst h; exact hk.at rfl rfl) (fun h => by subst h; exact hk.at rfl rfl)) (by omega) (Or.inr rfl) ?_
      generalize hD2 : aUp D1 (T + 6) (nT s n (k + 1)) 1 = D2
      have u2 : ∀ r, r ≠ T + 6 → D2 r = D1 r := fun r hr => by rw [← hD2, aUp_row hr]
      have fD2 : FrC T D D2 := FrC_trans fD1 (by rw [← hD2]; exact FrC_up hT (by omega))
      have hHD2 := FrC_TpH hT fD2 hH
      have hAD2 := AtC_keep hAD1 (u2 2 (by omega)) (u2 5 (by omega))
      refine s_al0 rfl ?_
      refine s_gf rfl (hk.at rfl rfl) rfl rfl ?_
      refine s_callO rfl rfl (Or.inl rfl) rfl rfl (hk.at rfl rfl) (v_adv (s := s) (ws := ws) (n := n) (k := k + 1) hg hk hHD2 hAD2 (fun D3 gD3 hD3 hAD3 => ?_))
      have fD3 : FrC T D D3 := FrC_trans fD2 (FrC_0 (Fr0_tape gD3 hD3))
      have hHD3 := TpH_keep hHD2 (gD3 3 (by decide)) (gD3 4 (by decide)) hD3
      show V G l (d + 3) iX4_readEvent 63 [rf 5, (0, nT s n (k + 1))] [] (K, D3, z) P
      refine s_al0 rfl ?_
      refine s_ic rfl ?_
      refine s_callO rfl rfl (Or.inl rfl) rfl rfl (hk.at rfl rfl) (v_take (s := s) (ws := ws) (n := n) (k := k + 2) hg hk hHD3 hAD3 (fun yD4 D4 xD4 hAD4 => ?_) (fun yD4 => ?_))
      rotate_left
      · show V G l (d + 3) iX4_readEvent 69 [rf 5, (0, nT s n (k + 1))] [(0, 0)] (K, _, z) P
        refine s_zeq rfl (fun _ => ?_) (fun q => absurd rfl q)
        refine s_ic rfl ?_
        refine s_retz rfl rfl (Or.inl rfl) ?_
        exact bad _ _ (FrC_trans fD3 (FrC_0 Fr0_fault)) aUp_at (by rw [hF, qTk_1 yD4, qFo_l (by have := hpl (k + 2); omega)]) (by have := hpl (k + 2); omega)
      rw [qTk_0 yD4, qFo_r rfl] at hF
      have fD4 : FrC T D D4 := FrC_trans fD3 (FrC_0 xD4)
      have hHD4 := Fr0_TpH xD4 hHD3
      show V G l (d + 3) iX4_readEvent 69 [rf 5, (0, nT s n (k + 1))] [(0, 1)] (K, D4, z) P
      refine s_zeq rfl ?_ ?_
      · intro h69
        exact absurd h69 (by decide)
      · intro h69
        refine s_al0 rfl ?_
        refine s_ic rfl ?_
        refine s_ic rfl ?_
        refine s_callO rfl rfl (Or.inl rfl) rfl rfl (hk.at rfl rfl) (v_isNumber (s := s) (ws := ws) (n := n) (k := k + 3) hk hHD4 hAD4 (fun y4 z4 w4 => ?_) (fun y4 => ?_) (fun y4 z4 => ?_))
        rotate_left
        · show V G l (d + 3) iX4_readEvent 80 [rf 5, (0, nT s n (k + 1))] [(0, 0)] (K, _, z) P
          refine s_zne rfl (fun q => absurd rfl q) (fun _ => ?_)
          refine s_ic rfl ?_
          refine s_retz rfl rfl (Or.inl rfl) ?_
          exact bad _ _ (FrC_trans fD4 (FrC_0 Fr0_fault)) aUp_at (by rw [hF, qNm_1 y4, qFo_l (by have := hpl (k + 3); omega)]) (by have := hpl (k + 3); omega)
        · show V G l (d + 3) iX4_readEvent 80 [rf 5, (0, nT s n (k + 1))] [(0, 0)] (K, _, z) P
          refine s_zne rfl (fun q => absurd rfl q) (fun _ => ?_)
          refine s_ic rfl ?_
          refine s_retz rfl rfl (Or.inl rfl) ?_
          exact bad _ _ (FrC_trans fD4 (FrC_0 Fr0_fault)) aUp_at (by rw [hF, qNm_4 y4 z4, qFo_l (by have := hpl (k + 3); omega)]) (by have := hpl (k + 3); omega)
        rw [qNm_0 y4 z4, qFo_r rfl] at hF
        show V G l (d + 3) iX4_readEvent 80 [rf 5, (0, nT s n (k + 1))] [(0, 1)] (K, D4, z) P
        refine s_zne rfl ?_ ?_
        · intro h80
          have o4 : ∀ r, r ≠ 2 → r ≠ 5 → D4 r = D2 r := fun r q1 q2 => by rw [xD4.1 r q1 q2, gD3 r q1]
          refine s_al0 rfl ?_
          refine s_gr rfl (hk.at rfl rfl) rfl ?_
          rw [show D4 5 3 = (T : Nat) by rw [fD4.2.2 3 (by decide)]; exact h53]
          refine s_gf rfl (KT hk hT) rfl rfl ?_
          refine s_il1 rfl ?_
          refine s_al0 rfl ?_
          refine s_gf rfl (hk.at rfl rfl) rfl rfl ?_
          refine s_gi rfl (hk.at rfl rfl) rfl ?_
          rw [w4]
          refine s_iast rfl (hT.elim (fun h => by subst h; exact hk.at rfl rfl) (fun h => by subst h; exact hk.at rfl rfl)) (by omega) ?_
          generalize hD5 : aUp D4 (T + 4) (nT s n (k + 1)) (nT s n (k + 3)) = D5
          have u5 : ∀ r, r ≠ T + 4 → D5 r = D4 r := fun r hr => by rw [← hD5, aUp_row hr]
          have fD5 : FrC T D D5 := FrC_trans fD4 (by rw [← hD5]; exact FrC_up hT (by omega))
          have hHD5 := FrC_TpH hT fD5 hH
          have hAD5 := AtC_keep hAD4 (u5 2 (by omega)) (u5 5 (by omega))
          refine s_al0 rfl ?_
          refine s_gf rfl (hk.at rfl rfl) rfl rfl ?_
          refine s_callO rfl rfl (Or.inl rfl) rfl rfl (hk.at rfl rfl) (v_adv (s := s) (ws := ws) (n := n) (k := k + 3) hg hk hHD5 hAD5 (fun D6 gD6 hD6 hAD6 => ?_))
          have fD6 : FrC T D D6 := FrC_trans fD5 (FrC_0 (Fr0_tape gD6 hD6))
          have hHD6 := TpH_keep hHD5 (gD6 3 (by decide)) (gD6 4 (by decide)) hD6
          show V G l (d + 3) iX4_readEvent 108 [rf 5, (0, nT s n (k + 1))] [] (K, D6, z) P
          refine s_al0 rfl ?_
          refine s_ic rfl ?_
          refine s_callO rfl rfl (Or.inl rfl) rfl rfl (hk.at rfl rfl) (v_take (s := s) (ws := ws) (n := n) (k := k + 4) hg hk hHD6 hAD6 (fun yD7 D7 xD7 hAD7 => ?_) (fun yD7 => ?_))
          rotate_left
          · show V G l (d + 3) iX4_readEvent 114 [rf 5, (0, nT s n (k + 1))] [(0, 0)] (K, _, z) P
            refine s_zeq rfl (fun _ => ?_) (fun q => absurd rfl q)
            refine s_ic rfl ?_
            refine s_retz rfl rfl (Or.inl rfl) ?_
            exact bad _ _ (FrC_trans fD6 (FrC_0 Fr0_fault)) aUp_at (by rw [hF, qTk_1 yD7, qFo_l (by have := hpl (k + 4); omega)]) (by have := hpl (k + 4); omega)
          rw [qTk_0 yD7, qFo_r rfl] at hF
          have fD7 : FrC T D D7 := FrC_trans fD6 (FrC_0 xD7)
          have hHD7 := Fr0_TpH xD7 hHD6
          show V G l (d + 3) iX4_readEvent 114 [rf 5, (0, nT s n (k + 1))] [(0, 1)] (K, D7, z) P
          refine s_zeq rfl ?_ ?_
          · intro h114
            exact absurd h114 (by decide)
          · intro h114
            refine s_al0 rfl ?_
            refine s_ic rfl ?_
            refine s_ic rfl ?_
            refine s_callO rfl rfl (Or.inl rfl) rfl rfl (hk.at rfl rfl) (v_isNumber (s := s) (ws := ws) (n := n) (k := k + 5) hk hHD7 hAD7 (fun y7 z7 w7 => ?_) (fun y7 => ?_) (fun y7 z7 => ?_))
            rotate_left
            · show V G l (d + 3) iX4_readEvent 125 [rf 5, (0, nT s n (k + 1))] [(0, 0)] (K, _, z) P
              refine s_zne rfl (fun q => absurd rfl q) (fun _ => ?_)
              refine s_ic rfl ?_
              refine s_retz rfl rfl (Or.inl rfl) ?_
              exact bad _ _ (FrC_trans fD7 (FrC_0 Fr0_fault)) aUp_at (by rw [hF, qNm_1 y7, qFo_l (by have := hpl (k + 5); omega)]) (by have := hpl (k + 5); omega)
            · show V G l (d + 3) iX4_readEvent 125 [rf 5, (0, nT s n (k + 1))] [(0, 0)] (K, _, z) P
              refine s_zne rfl (fun q => absurd rfl q) (fun _ => ?_)
              refine s_ic rfl ?_
              refine s_retz rfl rfl (Or.inl rfl) ?_
              exact bad _ _ (FrC_trans fD7 (FrC_0 Fr0_fault)) aUp_at (by rw [hF, qNm_4 y7 z7, qFo_l (by have := hpl (k + 5); omega)]) (by have := hpl (k + 5); omega)
            rw [qNm_0 y7 z7, qFo_r rfl] at hF
            show V G l (d + 3) iX4_readEvent 125 [rf 5, (0, nT s n (k + 1))] [(0, 1)] (K, D7, z) P
            refine s_zne rfl ?_ ?_
            · intro h125
              have o7 : ∀ r, r ≠ 2 → r ≠ 5 → D7 r = D5 r := fun r q1 q2 => by rw [xD7.1 r q1 q2, gD6 r q1]
              refine s_al0 rfl ?_
              refine s_gr rfl (hk.at rfl rfl) rfl ?_
              rw [show D7 5 3 = (T : Nat) by rw [fD7.2.2 3 (by decide)]; exact h53]
              refine s_gf rfl (KT hk hT) rfl rfl ?_
              refine s_il1 rfl ?_
              refine s_al0 rfl ?_
              refine s_gf rfl (hk.at rfl rfl) rfl rfl ?_
              refine s_gi rfl (hk.at rfl rfl) rfl ?_
              rw [w7]
              refine s_iast rfl (hT.elim (fun h => by subst h; exact hk.at rfl rfl) (fun h => by subst h; exact hk.at rfl rfl)) (by omega) ?_
              generalize hD8 : aUp D7 (T + 5) (nT s n (k + 1)) (nT s n (k + 5)) = D8
              have u8 : ∀ r, r ≠ T + 5 → D8 r = D7 r := fun r hr => by rw [← hD8, aUp_row hr]
              have fD8 : FrC T D D8 := FrC_trans fD7 (by rw [← hD8]; exact FrC_up hT (by omega))
              have hHD8 := FrC_TpH hT fD8 hH
              have hAD8 := AtC_keep hAD7 (u8 2 (by omega)) (u8 5 (by omega))
              refine s_al0 rfl ?_
              refine s_gf rfl (hk.at rfl rfl) rfl rfl ?_
              refine s_callO rfl rfl (Or.inl rfl) rfl rfl (hk.at rfl rfl) (v_adv (s := s) (ws := ws) (n := n) (k := k + 5) hg hk hHD8 hAD8 (fun D9 gD9 hD9 hAD9 => ?_))
              have fD9 : FrC T D D9 := FrC_trans fD8 (FrC_0 (Fr0_tape gD9 hD9))
              have hHD9 := TpH_keep hHD8 (gD9 3 (by decide)) (gD9 4 (by decide)) hD9
              show V G l (d + 3) iX4_readEvent 153 [rf 5, (0, nT s n (k + 1))] [] (K, D9, z) P
              refine s_al0 rfl ?_
              refine s_ic rfl ?_
              refine s_callO rfl rfl (Or.inl rfl) rfl rfl (hk.at rfl rfl) (v_take (s := s) (ws := ws) (n := n) (k := k + 6) hg hk hHD9 hAD9 (fun yDa Da xDa hADa => ?_) (fun yDa => ?_))
              rotate_left
              · show V G l (d + 3) iX4_readEvent 159 [rf 5, (0, nT s n (k + 1))] [(0, 0)] (K, _, z) P
                refine s_retz rfl rfl (Or.inl rfl) ?_
                exact bad _ _ (FrC_trans fD9 (FrC_0 Fr0_fault)) aUp_at (by rw [hF, qTk_1 yDa]) (by have := hpl (k + 6); omega)
              rw [qTk_0 yDa] at hF
              have fDa : FrC T D Da := FrC_trans fD9 (FrC_0 xDa)
              have hHDa := Fr0_TpH xDa hHD9
              show V G l (d + 3) iX4_readEvent 159 [rf 5, (0, nT s n (k + 1))] [(0, 1)] (K, Da, z) P
              refine s_retz rfl rfl (Or.inr rfl) ?_
              refine kk 1 Da ⟨fDa, fun _ => ⟨rfl, hADa, ?_⟩, fun q => absurd hF q⟩
              have o9 : ∀ r, r ≠ 2 → r ≠ 5 → Da r = D8 r := fun r q1 q2 => by rw [xDa.1 r q1 q2, gD9 r q1]
              have cr : ∀ r, r ≠ 2 → r ≠ 5 → r ≠ T + 4 → r ≠ T + 5 → r ≠ T + 6 → Da r = D r := fun r q1 q2 q3 q4 q5 => by rw [o9 r q1 q2, u8 r q4, o7 r q1 q2, u5 r q3, o4 r q1 q2, u2 r q5, gD1 r q1]
              have c6 : Da (T + 6) = uF (D (T + 6)) (nT s n (k + 1)) 1 := by rw [o9 _ (by omega) (by omega), u8 _ (by omega), o7 _ (by omega) (by omega), u5 _ (by omega), o4 _ (by omega) (by omega), ← hD2, aUp_same, gD1 _ (by omega)]
              have c4 : Da (T + 4) = uF (D (T + 4)) (nT s n (k + 1)) (nT s n (k + 3)) := by rw [o9 _ (by omega) (by omega), u8 _ (by omega), o7 _ (by omega) (by omega), ← hD5, aUp_same, o4 _ (by omega) (by omega), u2 _ (by omega), gD1 _ (by omega)]
              have c5 : Da (T + 5) = uF (D (T + 5)) (nT s n (k + 1)) (nT s n (k + 5)) := by rw [o9 _ (by omega) (by omega), ← hD8, aUp_same, o7 _ (by omega) (by omega), u5 _ (by omega), o4 _ (by omega) (by omega), u2 _ (by omega), gD1 _ (by omega)]
              refine ⟨⟨by rw [cr T (by omega) (by omega) (by omega) (by omega) (by omega)]; exact a0, by rw [cr T (by omega) (by omega) (by omega) (by omega) (by omega)]; exact a1⟩, by rw [cr 6 (by omega) (by omega) (by omega) (by omega) (by omega)]; exact a2, by rw [cr 7 (by omega) (by omega) (by omega) (by omega) (by omega)]; exact a3, fun h hh => by rw [cr (T + 2) (by omega) (by omega) (by omega) (by omega) (by omega), cr (T + 3) (by omega) (by omega) (by omega) (by omega) (by omega)]; exact a4 h hh, fun t ht => ?_, by rw [cr T (by omega) (by omega) (by omega) (by omega) (by omega)]; exact a6, fun c c1 c2 => ?_⟩
              · have ht : t < S.nt := ht
                have := a5 t ht
                unfold TrR at this ⊢
                rw [cr (T + 9 + 3 * t) (by omega) (by omega) (by omega) (by omega) (by omega), cr (T + 10 + 3 * t) (by omega) (by omega) (by omega) (by omega) (by omega), cr (T + 11 + 3 * t) (by omega) (by omega) (by omega) (by omega) (by omega), cr (T + 7) (by omega) (by omega) (by omega) (by omega) (by omega)]
                exact this
              · show Da (T + 6) c = uF S.ct (nT s n (k + 1)) 1 c ∧ Da (T + 4) c = uF S.hs (nT s n (k + 1)) (nT s n (k + 3)) c ∧ Da (T + 5) c = uF S.ms (nT s n (k + 1)) (nT s n (k + 5)) c
                rw [c6, c4, c5]
                by_cases q : c = nT s n (k + 1)
                · rw [q, uF_at, uF_at, uF_at, uF_at, uF_at, uF_at]; exact ⟨rfl, rfl, rfl⟩
                · rw [uF_ne q, uF_ne q, uF_ne q, uF_ne q, uF_ne q, uF_ne q]; exact a7 c c1 c2
            · intro h125
              exact absurd h125 (by decide)
        · intro h80
          exact absurd h80 (by decide)
    · intro h36
      have e6 : qE6 (nT s n) (pT2 s n) (k + 1) S = 6 + 16 * pT2 s n (k + 1) := if_neg h36
      refine s_al0 rfl ?_
      refine s_ic rfl ?_
      refine s_callO rfl rfl (Or.inl rfl) rfl rfl (hk.at rfl rfl) (v_fail (c := 6) hk hHD1 hAD1 (by decide) ?_)
      show V G l (d + 3) iX4_readEvent 45 _ [(0, 0)] (K, _, z) P
      refine s_retz rfl rfl (Or.inl rfl) ?_
      exact bad _ _ (FrC_trans fD1 (FrC_0 Fr0_fault)) aUp_at (by rw [hF, e6, qFo_l (by have := hpl (k + 1); omega)]) (by have := hpl (k + 1); omega)
  · intro h14
    exact absurd h14 (by decide)
end
