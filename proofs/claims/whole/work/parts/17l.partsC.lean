/-! ===== parts and the condition of a treaty line: the class ===== -/
section
variable {G : aCX} {l : Launch} {d : Nat} {K : Nat → aKd} {D : Nat → Int → Int} {z : Nat × Nat} {P : Int → aSt → Prop}
theorem v_readPart {s ws : Int → Int} {n T t k : Nat} (hg : SgR G l) (hk : Kn K) (hT : isT T) (ht : t < 24) (hH : TpH s n ws D) (hA : AtC s n ws k D) {nh : Nat} {hn : Nat → Nat} {own : Int} {r : PT5} (h53 : D 5 3 = (T : Nat)) (hnh : D T 0 = nh) (h12 : nh ≤ 12) (h3 : ∀ i, i < nh → kT s n ws (hn i) = 3) (h6 : ∀ i : Nat, i < nh → D 6 i = lT3 s n (hn i)) (ho : 0 ≤ own ∧ own < nh) (how : D (T + 9 + 3 * t) 0 = own) (hP : PaC T t r D) (hI : PtI nh own r) (k1 : (qPt (kT s n ws) (nT s n) (mT s n) (pT2 s n) nh hn own k r).1 = 0 → ∀ D' : Nat → Int → Int, FrR T t D D' → D' (T + 9 + 3 * t) = uF (D (T + 9 + 3 * t)) 7 ((r.2.2.1 + 1 : Nat) : Int) → PaC T t (qPt (kT s n ws) (nT s n) (mT s n) (pT2 s n) nh hn own k r) D' → AtC s n ws (k + 3) D' → P 1 (K, D', z)) (k0 : ∀ D' : Nat → Int → Int, FrC T D D' → D' 5 4 = (qPt (kT s n ws) (nT s n) (mT s n) (pT2 s n) nh hn own k r).1 → (qPt (kT s n ws) (nT s n) (mT s n) (pT2 s n) nh hn own k r).1 ≠ 0 → P 0 (K, D', z)) : VM G l (d + 3) iX4_readPart [rf 5, rf (T + 9 + 3 * t)] (K, D, z) P := by
  have hT2 : T = 8 ∨ T = 129 := hT
  have h15 := hH.2.2.2.1
  have hpl : ∀ k, 0 ≤ pT2 s n k := fun k => (pl_in (s := s) (n := n) (k := k) h15).1
  have bad : ∀ (f : Int) (D' : Nat → Int → Int), FrC T D D' → D' 5 4 = f → (qPt (kT s n ws) (nT s n) (mT s n) (pT2 s n) nh hn own k r).1 = f → f ≠ 0 → P 0 (K, D', z) := fun f D' q1 q2 q3 q4 => k0 D' q1 (by rw [q3]; exact q2) (by rw [q3]; exact q4)
  have h11 := PtI_many hI h12 ho
  obtain ⟨p7, pp⟩ := hP
  obtain ⟨j1, j2, j3⟩ := id hI
  have esum : sumF (fun i : Nat => D (T + 11 + 3 * t) i) r.2.2.1 = sumF (fun i : Nat => r.2.2.2.2 i) r.2.2.1 := sumF_congr fun i hi => (pp i hi).2
  have nsum := sumF_nonneg (f := fun i : Nat => r.2.2.2.2 i) (n := r.2.2.1) (fun i hi => (j1 i hi).2.2.1)
  have hF : (qPt (kT s n ws) (nT s n) (mT s n) (pT2 s n) nh hn own k r).1 = qFo (qNm (kT s n ws) (nT s n) (pT2 s n) 1 (1000 - sumF (fun i => r.2.2.2.2 i) r.2.2.1) k) (qFo (qTk (kT s n ws) (pT2 s n) 24 (k + 1)) (qFo (qHf (kT s n ws) (mT s n) (pT2 s n) nh hn (k + 2)) (qP6 (pT2 s n) own r.2.2.1 r.2.2.2.1 (qIx (mT s n) nh hn (k + 2)) (k + 2)))) := rfl
  refine VM_go (tg2 rfl) (Nat.le_of_ble_eq_true rfl) ?_
  refine s_al0 rfl ?_
  refine s_ic rfl ?_
  refine s_ic rfl ?_
  refine s_al1 rfl ?_
  refine s_callO rfl rfl (Or.inl rfl) rfl rfl (KTt hk hT ht).1 (v_sharesTogether hk hT ht p7 h11 (fun i hi => by rw [(pp i hi).2]; exact (j1 i hi).2.2) ?_)
  rw [esum]
  show V G l (d + 3) iX4_readPart 9 [rf 5, rf (T + 9 + 3 * t), (9, 0), (9, 0)] [(0, sumF (fun i : Nat => r.2.2.2.2 i) r.2.2.1), (0, 1000), (0, 1), rf 5] (K, D, z) P
  refine s_isub rfl ⟨by omega, by omega⟩ ?_
  refine s_callO rfl rfl (Or.inl rfl) rfl rfl (hk.at rfl rfl) (v_isNumber (s := s) (ws := ws) (n := n) (k := k) hk hH hA (fun y0 z0 w0 => ?_) (fun y0 => ?_) (fun y0 z0 => ?_))
  rotate_left
  · show V G l (d + 3) iX4_readPart 13 [rf 5, rf (T + 9 + 3 * t), (9, 0), (9, 0)] [(0, 0)] (K, _, z) P
    refine s_zne rfl (fun q => absurd rfl q) (fun _ => ?_)
    refine s_ic rfl ?_
    refine s_retz rfl rfl (Or.inl rfl) ?_
    exact bad _ _ (FrC_trans FrC_refl (FrC_0 Fr0_fault)) aUp_at (by rw [hF, qNm_1 y0, qFo_l (by have := hpl (k); omega)]) (by have := hpl (k); omega)
  · show V G l (d + 3) iX4_readPart 13 [rf 5, rf (T + 9 + 3 * t), (9, 0), (9, 0)] [(0, 0)] (K, _, z) P
    refine s_zne rfl (fun q => absurd rfl q) (fun _ => ?_)
    refine s_ic rfl ?_
    refine s_retz rfl rfl (Or.inl rfl) ?_
    exact bad _ _ (FrC_trans FrC_refl (FrC_0 Fr0_fault)) aUp_at (by rw [hF, qNm_4 y0 z0, qFo_l (by have := hpl (k); omega)]) (by have := hpl (k); omega)
  rw [qNm_0 y0 z0, qFo_r rfl] at hF
  show V G l (d + 3) iX4_readPart 13 [rf 5, rf (T + 9 + 3 * t), (9, 0), (9, 0)] [(0, 1)] (K, D, z) P
  refine s_zne rfl ?_ ?_
  · intro h13
    refine s_al0 rfl ?_
    refine s_gf rfl (hk.at rfl rfl) rfl rfl ?_
    refine s_gi rfl (hk.at rfl rfl) rfl ?_
    rw [w0]
    refine s_is2 rfl rfl ?_
    refine s_al0 rfl ?_
    refine s_gf rfl (hk.at rfl rfl) rfl rfl ?_
    refine s_callO rfl rfl (Or.inl rfl) rfl rfl (hk.at rfl rfl) (v_adv (s := s) (ws := ws) (n := n) (k := k) hg hk hH hA (fun D1 gD1 hD1 hAD1 => ?_))
    have fD1 : FrC T D D1 := FrC_trans FrC_refl (FrC_0 (Fr0_tape gD1 hD1))
    have hHD1 := TpH_keep hH (gD1 3 (by decide)) (gD1 4 (by decide)) hD1
    show V G l (d + 3) iX4_readPart 33 [rf 5, rf (T + 9 + 3 * t), (0, nT s n k), (9, 0)] [] (K, D1, z) P
    refine s_al0 rfl ?_
    refine s_ic rfl ?_
    refine s_callO rfl rfl (Or.inl rfl) rfl rfl (hk.at rfl rfl) (v_take (s := s) (ws := ws) (n := n) (k := k + 1) hg hk hHD1 hAD1 (fun yD2 D2 xD2 hAD2 => ?_) (fun yD2 => ?_))
    rotate_left
    · show V G l (d + 3) iX4_readPart 39 [rf 5, rf (T + 9 + 3 * t), (0, nT s n k), (9, 0)] [(0, 0)] (K, _, z) P
      refine s_zne rfl (fun q => absurd rfl q) (fun _ => ?_)
      refine s_ic rfl ?_
      refine s_retz rfl rfl (Or.inl rfl) ?_
      exact bad _ _ (FrC_trans fD1 (FrC_0 Fr0_fault)) aUp_at (by rw [hF, qTk_1 yD2, qFo_l (by have := hpl (k + 1); omega)]) (by have := hpl (k + 1); omega)
    rw [qTk_0 yD2, qFo_r rfl] at hF
    have fD2 : FrC T D D2 := FrC_trans fD1 (FrC_0 xD2)
    have hHD2 := Fr0_TpH xD2 hHD1
    have o2 : ∀ q, q ≠ 2 → q ≠ 5 → D2 q = D q := fun q q1 q2 => by rw [xD2.1 q q1 q2, gD1 q q1]
    have h532 : D2 5 3 = (T : Nat) := by rw [fD2.2.2 3 (by decide)]; exact h53
    show V G l (d + 3) iX4_readPart 39 [rf 5, rf (T + 9 + 3 * t), (0, nT s n k), (9, 0)] [(0, 1)] (K, D2, z) P
    refine s_zne rfl ?_ ?_
    · intro h39
      refine s_al0 rfl ?_
      refine s_callO rfl rfl (Or.inl rfl) rfl rfl (hk.at rfl rfl) (v_houseHere (s := s) (ws := ws) (n := n) (k := k + 2) (nh := nh) hk hHD2 hAD2 hT h532 (by rw [o2 T (by omega) (by omega)]; exact hnh) h12 (fun y3 y4 => ?_) (fun y3 => ?_) (fun y3 y4 => ?_))
      rotate_left
      · show V G l (d + 3) iX4_readPart 48 [rf 5, rf (T + 9 + 3 * t), (0, nT s n k), (9, 0)] [(0, -1)] (K, _, z) P
        refine s_is3 rfl rfl ?_
        refine s_il3 rfl ?_
        refine s_ic rfl ?_
        refine s_cne rfl (fun q => absurd rfl q) (fun _ => ?_)
        refine s_ic rfl ?_
        refine s_retz rfl rfl (Or.inl rfl) ?_
        have e : qHf (kT s n ws) (mT s n) (pT2 s n) nh hn (k + 2) = 1 + 16 * pT2 s n (k + 2) := if_neg y3
        exact bad _ _ (FrC_trans fD2 (FrC_0 Fr0_fault)) aUp_at (by rw [hF, e, qFo_l (by have := hpl (k + 2); omega)]) (by have := hpl (k + 2); omega)
      · show V G l (d + 3) iX4_readPart 48 [rf 5, rf (T + 9 + 3 * t), (0, nT s n k), (9, 0)] [(0, -1)] (K, _, z) P
        refine s_is3 rfl rfl ?_
        refine s_il3 rfl ?_
        refine s_ic rfl ?_
        refine s_cne rfl (fun q => absurd rfl q) (fun _ => ?_)
        refine s_ic rfl ?_
        refine s_retz rfl rfl (Or.inl rfl) ?_
        rw [ix_eq y3 h3 (fun i hi => by rw [o2 6 (by decide) (by decide)]; exact h6 i hi)] at y4
        have e : qHf (kT s n ws) (mT s n) (pT2 s n) nh hn (k + 2) = 2 + 16 * pT2 s n (k + 2) := by unfold qHf; rw [if_pos y3, if_pos y4]
        exact bad _ _ (FrC_trans fD2 (FrC_0 Fr0_fault)) aUp_at (by rw [hF, e, qFo_l (by have := hpl (k + 2); omega)]) (by have := hpl (k + 2); omega)
      rw [ix_eq y3 h3 (fun i hi => by rw [o2 6 (by decide) (by decide)]; exact h6 i hi)] at y4 ⊢
      have e : qHf (kT s n ws) (mT s n) (pT2 s n) nh hn (k + 2) = 0 := by unfold qHf; rw [if_pos y3, if_neg y4]
      rw [e, qFo_r rfl] at hF
      have six : ∀ i : Nat, i < r.2.2.1 → (D2 (T + 10 + 3 * t) i = qIx (mT s n) nh hn (k + 2) ↔ r.2.2.2.1 i = qIx (mT s n) nh hn (k + 2)) := fun i hi => by rw [o2 _ (by omega) (by omega), (pp i hi).1]
      have eix := ixF_congr six
      show V G l (d + 3) iX4_readPart 48 [rf 5, rf (T + 9 + 3 * t), (0, nT s n k), (9, 0)] [(0, qIx (mT s n) nh hn (k + 2))] (K, D2, z) P
      refine s_is3 rfl rfl ?_
      refine s_il3 rfl ?_
      refine s_ic rfl ?_
      refine s_cne rfl ?_ ?_
      · intro h51
        refine s_il3 rfl ?_
        refine s_al1 rfl ?_
        refine s_gi rfl (KTt hk hT ht).1 rfl ?_
        rw [show D2 (T + 9 + 3 * t) 0 = own by rw [o2 _ (by omega) (by omega)]; exact how]
        refine s_ceq rfl ?_ ?_
        · intro h61
          refine s_al0 rfl ?_
          refine s_ic rfl ?_
          have e6 : qP6 (pT2 s n) own r.2.2.1 r.2.2.2.1 (qIx (mT s n) nh hn (k + 2)) (k + 2) = 6 + 16 * pT2 s n (k + 2) := by first | exact e6 | exact if_pos (Or.inl h61)
          refine s_callO rfl rfl (Or.inl rfl) rfl rfl (hk.at rfl rfl) (v_fail (c := 6) hk hHD2 hAD2 (by decide) ?_)
          show V G l (d + 3) iX4_readPart 78 _ [(0, 0)] (K, _, z) P
          refine s_retz rfl rfl (Or.inl rfl) ?_
          exact bad _ _ (FrC_trans fD2 (FrC_0 Fr0_fault)) aUp_at (by rw [hF, e6]) (by have := hpl (k + 2); omega)
        · intro h61
          refine s_al1 rfl ?_
          refine s_il3 rfl ?_
          refine s_callO rfl rfl (Or.inl rfl) rfl rfl (KTt hk hT ht).1 (v_hasPart hk hT ht (by rw [o2 _ (by omega) (by omega)]; exact p7) h11 ?_)
          rw [eix]
          show V G l (d + 3) iX4_readPart 69 [rf 5, rf (T + 9 + 3 * t), (0, nT s n k), (0, qIx (mT s n) nh hn (k + 2))] [(0, if ixF r.2.2.2.1 (qIx (mT s n) nh hn (k + 2)) r.2.2.1 ≠ -1 then 1 else 0)] (K, D2, z) P
          generalize hc : (if ixF r.2.2.2.1 (qIx (mT s n) nh hn (k + 2)) r.2.2.1 ≠ -1 then (1 : Int) else 0) = cc
          refine s_zeq rfl ?_ ?_
          · intro h69
            have n6 : ¬ (qIx (mT s n) nh hn (k + 2) = own ∨ ixF r.2.2.2.1 (qIx (mT s n) nh hn (k + 2)) r.2.2.1 ≠ -1) := fun q => by
              rcases q with q | q
              · exact h61 q
              · rw [if_pos q] at hc; omega
            have e6 : qP6 (pT2 s n) own r.2.2.1 r.2.2.2.1 (qIx (mT s n) nh hn (k + 2)) (k + 2) = 0 := if_neg n6
            rw [e6] at hF
            have hI2 := pt_ok (kd := kT s n ws) (nu := nT s n) (nm := mT s n) (pl := pT2 s n) (hn := hn) (k := k) hpl hI hF
            have h11b : r.2.2.1 + 1 ≤ 11 := PtI_many hI2 h12 ho
            refine s_al1 rfl ?_
            refine s_il3 rfl ?_
            refine s_il2 rfl ?_
            refine s_callO rfl rfl (Or.inl rfl) rfl rfl (KTt hk hT ht).1 (v_addPart hk hT ht (by rw [o2 _ (by omega) (by omega)]; exact p7) (by omega) ?_)
            generalize hD3 : aUp (aUp (aUp D2 (T + 10 + 3 * t) (r.2.2.1 : Int) (qIx (mT s n) nh hn (k + 2))) (T + 11 + 3 * t) (r.2.2.1 : Int) (nT s n k)) (T + 9 + 3 * t) 7 ((r.2.2.1 : Int) + 1) = D3
            have fR3 : FrR T t D2 D3 := by rw [← hD3]; exact FrR_trans (FrR_up hT (Or.inr (Or.inl rfl))) (FrR_trans (FrR_up hT (Or.inr (Or.inr rfl))) (FrR_up hT (Or.inl rfl)))
            have u0 : D3 (T + 9 + 3 * t) = uF (D2 (T + 9 + 3 * t)) 7 ((r.2.2.1 : Int) + 1) := by rw [← hD3, aUp_same, aUp_row (by omega), aUp_row (by omega)]
            have u1 : D3 (T + 10 + 3 * t) = uF (D2 (T + 10 + 3 * t)) (r.2.2.1 : Int) (qIx (mT s n) nh hn (k + 2)) := by rw [← hD3, aUp_row (by omega), aUp_row (by omega), aUp_same]
            have u2 : D3 (T + 11 + 3 * t) = uF (D2 (T + 11 + 3 * t)) (r.2.2.1 : Int) (nT s n k) := by rw [← hD3, aUp_row (by omega), aUp_same, aUp_row (by omega)]
            have fD3 : FrC T D D3 := FrC_trans fD2 (FrR_C ht fR3)
            have hHD3 := FrC_TpH hT fD3 hH
            have hAD3 := AtC_keep hAD2 (show D3 2 = D2 2 by rw [← hD3, aUp_row (by omega), aUp_row (by omega), aUp_row (by omega)]) (show D3 5 = D2 5 by rw [← hD3, aUp_row (by omega), aUp_row (by omega), aUp_row (by omega)])
            show V G l (d + 3) iX4_readPart 85 [rf 5, rf (T + 9 + 3 * t), (0, nT s n k), (0, qIx (mT s n) nh hn (k + 2))] [] (K, D3, z) P
            refine s_al0 rfl ?_
            refine s_gf rfl (hk.at rfl rfl) rfl rfl ?_
            refine s_callO rfl rfl (Or.inl rfl) rfl rfl (hk.at rfl rfl) (v_adv (s := s) (ws := ws) (n := n) (k := k + 2) hg hk hHD3 hAD3 (fun D4 gD4 hD4 hAD4 => ?_))
            have fD4 : FrC T D D4 := FrC_trans fD3 (FrC_0 (Fr0_tape gD4 hD4))
            have hHD4 := TpH_keep hHD3 (gD4 3 (by decide)) (gD4 4 (by decide)) hD4
            show V G l (d + 3) iX4_readPart 92 [rf 5, rf (T + 9 + 3 * t), (0, nT s n k), (0, qIx (mT s n) nh hn (k + 2))] [] (K, D4, z) P
            refine s_ic rfl ?_
            refine s_retz rfl rfl (Or.inr rfl) ?_
            refine k1 hF D4 (FrR_trans (FrR_0 (Fr0_tape gD1 hD1)) (FrR_trans (FrR_0 xD2) (FrR_trans fR3 (FrR_0 (Fr0_tape gD4 hD4))))) ?_ ⟨?_, fun i hi => ?_⟩ hAD4
            · rw [gD4 _ (by omega), u0, o2 _ (by omega) (by omega)]; rfl
            · rw [gD4 _ (by omega), u0, uF_at]; rfl
            · have hi : i < r.2.2.1 + 1 := hi
              show D4 (T + 10 + 3 * t) i = uF r.2.2.2.1 r.2.2.1 (qIx (mT s n) nh hn (k + 2)) i ∧ D4 (T + 11 + 3 * t) i = uF r.2.2.2.2 r.2.2.1 (nT s n k) i
              rw [gD4 _ (by omega), gD4 _ (by omega), u1, u2, o2 _ (by omega) (by omega), o2 _ (by omega) (by omega)]
              rcases (by omega : i < r.2.2.1 ∨ i = r.2.2.1) with q | q
              · rw [uF_ne (by omega), uF_ne (by omega), uF_ne (by omega), uF_ne (by omega)]; exact pp i q
              · subst q; rw [uF_at, uF_at, uF_at, uF_at]; exact ⟨rfl, rfl⟩
          · intro h69
            have e6 : qP6 (pT2 s n) own r.2.2.1 r.2.2.2.1 (qIx (mT s n) nh hn (k + 2)) (k + 2) = 6 + 16 * pT2 s n (k + 2) := if_pos (Or.inr (fun q => by rw [if_neg (fun y => y q)] at hc; omega))
            refine s_al0 rfl ?_
            refine s_ic rfl ?_
            have e6 : qP6 (pT2 s n) own r.2.2.1 r.2.2.2.1 (qIx (mT s n) nh hn (k + 2)) (k + 2) = 6 + 16 * pT2 s n (k + 2) := by first | exact e6 | exact if_pos (Or.inl h61)
            refine s_callO rfl rfl (Or.inl rfl) rfl rfl (hk.at rfl rfl) (v_fail (c := 6) hk hHD2 hAD2 (by decide) ?_)
            show V G l (d + 3) iX4_readPart 78 _ [(0, 0)] (K, _, z) P
            refine s_retz rfl rfl (Or.inl rfl) ?_
            exact bad _ _ (FrC_trans fD2 (FrC_0 Fr0_fault)) aUp_at (by rw [hF, e6]) (by have := hpl (k + 2); omega)
      · intro h51
        exact absurd h51 y4
    · intro h39
      exact absurd h39 (by decide)
  · intro h13
    exact absurd h13 (by decide)
theorem v_readParts {s ws : Int → Int} {n T t k : Nat} (hg : SgR G l) (hk : Kn K) (hT : isT T) (ht : t < 24) (hH : TpH s n ws D) (hA : AtC s n ws k D) {nh : Nat} {hn : Nat → Nat} {own : Int} {N : Nat} (hN : kT s n ws N = 0) (hkN : k ≤ N) (h53 : D 5 3 = (T : Nat)) (hnh : D T 0 = nh) (h12 : nh ≤ 12) (h3 : ∀ i, i < nh → kT s n ws (hn i) = 3) (h6 : ∀ i : Nat, i < nh → D 6 i = lT3 s n (hn i)) (ho : 0 ≤ own ∧ own < nh) (how : D (T + 9 + 3 * t) 0 = own) (h70 : D (T + 9 + 3 * t) 7 = 0) (k1 : (qPs (kT s n ws) (nT s n) (mT s n) (pT2 s n) nh hn own k).1 = 0 → ∀ D' : Nat → Int → Int, FrR T t D D' → D' (T + 9 + 3 * t) = uF (D (T + 9 + 3 * t)) 7 (((qPs (kT s n ws) (nT s n) (mT s n) (pT2 s n) nh hn own k).2.2.1 : Nat) : Int) → PaC T t (qPs (kT s n ws) (nT s n) (mT s n) (pT2 s n) nh hn own k) D' → AtC s n ws (qPs (kT s n ws) (nT s n) (mT s n) (pT2 s n) nh hn own k).2.1 D' → P 1 (K, D', z)) (k0 : ∀ D' : Nat → Int → Int, FrC T D D' → D' 5 4 = (qPs (kT s n ws) (nT s n) (mT s n) (pT2 s n) nh hn own k).1 → (qPs (kT s n ws) (nT s n) (mT s n) (pT2 s n) nh hn own k).1 ≠ 0 → P 0 (K, D', z)) : VM G l (d + 4) iX4_readParts [rf 5, rf (T + 9 + 3 * t)] (K, D, z) P := by
  have hT2 : T = 8 ∨ T = 129 := hT
  have h15 := hH.2.2.2.1
  have hpl : ∀ k, 0 ≤ pT2 s n k := fun k => (pl_in (s := s) (n := n) (k := k) h15).1
  have i0 : PtI nh own (qP0 k) := ⟨fun i hi => absurd hi (Nat.not_lt_zero i), fun i j _ hj => absurd hj (Nat.not_lt_zero j), by show (0 : Int) ≤ 1000; omega⟩
  have dead : ∀ (f i : Nat) (D1 : Nat → Int → Int), i ≤ 12 → FrC T D D1 → D1 5 4 = (qPs (kT s n ws) (nT s n) (mT s n) (pT2 s n) nh hn own k).1 → (qPs (kT s n ws) (nT s n) (mT s n) (pT2 s n) nh hn own k).1 ≠ 0 → V G l (d + 4) iX4_readParts 8 [rf 5, rf (T + 9 + 3 * t), (0, 0), (0, (i : Int))] [] (K, D1, z) P := by
    intro f i D1 hi q1 q2 q3
    refine s_il3 rfl ?_
    refine s_ic rfl ?_
    refine s_cge rfl ?_ ?_
    · intro h11
      refine s_il2 rfl ?_
      refine s_retz rfl rfl (Or.inl rfl) ?_
      exact k0 D1 q1 q2 q3
    · intro h11
      refine s_il2 rfl ?_
      refine s_zeq rfl ?_ ?_
      · intro h15'
        refine s_il2 rfl ?_
        refine s_retz rfl rfl (Or.inl rfl) ?_
        exact k0 D1 q1 q2 q3
      · intro h15'
        exact absurd rfl h15'
  have loop : ∀ (f i : Nat) (D1 : Nat → Int → Int) (r : PT5), i + f = 12 → r.1 = 0 → PtI nh own r → FrR T t D D1 → D1 (T + 9 + 3 * t) = uF (D (T + 9 + 3 * t)) 7 ((r.2.2.1 : Nat) : Int) → PaC T t r D1 → AtC s n ws r.2.1 D1 → qLp (kT s n ws) (nT s n) (mT s n) (pT2 s n) nh hn own f r = qPs (kT s n ws) (nT s n) (mT s n) (pT2 s n) nh hn own k → V G l (d + 4) iX4_readParts 8 [rf 5, rf (T + 9 + 3 * t), (0, 1), (0, (i : Int))] [] (K, D1, z) P := by
    intro f
    induction f with
    | zero =>
      intro i D1 r hif r0 hI fr e7 hP hA1 he
      have he : r = qPs (kT s n ws) (nT s n) (mT s n) (pT2 s n) nh hn own k := he
      refine s_il3 rfl ?_
      refine s_ic rfl ?_
      refine s_cge rfl ?_ ?_
      · intro h11
        refine s_il2 rfl ?_
        refine s_retz rfl rfl (Or.inr rfl) ?_
        rw [← he] at k1; exact k1 r0 D1 fr e7 hP hA1
      · intro h11
        omega
    | succ f ih =>
      intro i D1 r hif r0 hI fr e7 hP hA1 he
      have e4 : D1 2 4 = kT s n ws r.2.1 := hA1.2.2.1
      have hH1 := FrC_TpH hT (FrR_C ht fr) hH
      rw [qLp] at he
      refine s_il3 rfl ?_
      refine s_ic rfl ?_
      refine s_cge rfl ?_ ?_
      · intro h11
        omega
      · intro h11
        refine s_il2 rfl ?_
        refine s_zeq rfl ?_ ?_
        · intro h15
          exact absurd h15 (by decide)
        · intro h15
          refine s_al0 rfl ?_
          refine s_gf rfl (hk.at rfl rfl) rfl rfl ?_
          refine s_gi rfl (hk.at rfl rfl) rfl ?_
          rw [e4]
          refine s_ic rfl ?_
          refine s_cne rfl ?_ ?_
          · intro h27
            rw [if_neg (fun q => h27 q.2)] at he
            refine s_il2 rfl ?_
            refine s_retz rfl rfl (Or.inr rfl) ?_
            rw [← he] at k1; exact k1 r0 D1 fr e7 hP hA1
          · intro h27
            rw [if_pos ⟨r0, h27⟩] at he
            refine s_al0 rfl ?_
            refine s_gf rfl (hk.at rfl rfl) rfl rfl ?_
            refine s_callO rfl rfl (Or.inl rfl) rfl rfl (hk.at rfl rfl) (v_adv (s := s) (ws := ws) (n := n) (k := r.2.1) hg hk hH1 hA1 (fun D2 g1 g2 g3 => ?_))
            have fr2 : FrR T t D D2 := FrR_trans fr (FrR_0 (Fr0_tape g1 g2))
            show V G l (d + 4) iX4_readParts 37 [rf 5, rf (T + 9 + 3 * t), (0, 1), (0, (i : Int))] [] (K, D2, z) P
            refine s_al0 rfl ?_
            refine s_al1 rfl ?_
            refine s_callO rfl rfl (Or.inl rfl) rfl rfl (hk.at rfl rfl) (v_readPart (s := s) (ws := ws) (n := n) (k := r.2.1 + 1) (nh := nh) (hn := hn) (own := own) (r := r) hg hk hT ht (TpH_keep hH1 (g1 3 (by decide)) (g1 4 (by decide)) g2) g3 (by rw [fr2.2.2 3 (by decide)]; exact h53) (by rw [fr2.1 T (by omega) (by omega) (by omega) (by omega) (by omega)]; exact hnh) h12 h3 (fun i hi => by rw [fr2.1 6 (by omega) (by omega) (by omega) (by omega) (by omega)]; exact h6 i hi) ho (by rw [g1 _ (by omega), e7, uF_ne (by decide)]; exact how) (by unfold PaC at hP ⊢; rw [g1 _ (by omega), g1 _ (by omega), g1 _ (by omega)]; exact hP) hI (fun y D3 w1 w2 w3 w4 => ?_) (fun D3 w1 w2 w3 => ?_))
            · show V G l (d + 4) iX4_readParts 42 [rf 5, rf (T + 9 + 3 * t), (0, 1), (0, (i : Int))] [(0, 1)] (K, D3, z) P
              refine s_is2 rfl rfl ?_
              refine s_iinc3 rfl rfl ⟨by omega, by omega⟩ ?_
              refine s_go rfl ?_
              refine ih (i + 1) D3 _ (by omega) y (pt_ok hpl hI y) (FrR_trans fr2 w1) ?_ w3 w4 he
              rw [w2, g1 _ (by omega), e7, uF_uF]; rfl
            · show V G l (d + 4) iX4_readParts 42 [rf 5, rf (T + 9 + 3 * t), (0, 1), (0, (i : Int))] [(0, 0)] (K, D3, z) P
              have e : qLp (kT s n ws) (nT s n) (mT s n) (pT2 s n) nh hn own f (qPt (kT s n ws) (nT s n) (mT s n) (pT2 s n) nh hn own (r.2.1 + 1) r) = qPt (kT s n ws) (nT s n) (mT s n) (pT2 s n) nh hn own (r.2.1 + 1) r := by
                cases f with
                | zero => rfl
                | succ f => rw [qLp, if_neg (fun q => w3 q.1)]
              rw [e] at he
              refine s_is2 rfl rfl ?_
              refine s_iinc3 rfl rfl ⟨by omega, by omega⟩ ?_
              refine s_go rfl ?_
              exact dead 0 (i + 1) D3 (by omega) (FrC_trans (FrR_C ht fr2) w1) (by rw [← he]; exact w2) (by rw [← he]; exact w3)
  refine VM_go (tg2 rfl) (Nat.le_of_ble_eq_true rfl) ?_
  refine s_al0 rfl ?_
  refine s_al1 rfl ?_
  refine s_callO rfl rfl (Or.inl rfl) rfl rfl (hk.at rfl rfl) (v_readPart (s := s) (ws := ws) (n := n) (k := k) (nh := nh) (hn := hn) (own := own) (r := qP0 k) hg hk hT ht hH hA h53 hnh h12 h3 h6 ho how ⟨h70, fun i hi => absurd hi (Nat.not_lt_zero i)⟩ i0 (fun y D3 w1 w2 w3 w4 => ?_) (fun D3 w1 w2 w3 => ?_))
  · show V G l (d + 4) iX4_readParts 5 [rf 5, rf (T + 9 + 3 * t), (9, 0), (9, 0)] [(0, 1)] (K, D3, z) P
    refine s_is2 rfl rfl ?_
    refine s_ic rfl ?_
    refine s_is3 rfl rfl ?_
    exact loop 12 0 D3 _ (by omega) y (pt_ok hpl i0 y) w1 w2 w3 w4 rfl
  · show V G l (d + 4) iX4_readParts 5 [rf 5, rf (T + 9 + 3 * t), (9, 0), (9, 0)] [(0, 0)] (K, D3, z) P
    have e : qPs (kT s n ws) (nT s n) (mT s n) (pT2 s n) nh hn own k = qPt (kT s n ws) (nT s n) (mT s n) (pT2 s n) nh hn own k (qP0 k) := by
      unfold qPs
      rw [qLp, if_neg (fun q => w3 q.1)]
    refine s_is2 rfl rfl ?_
    refine s_ic rfl ?_
    refine s_is3 rfl rfl ?_
    exact dead 0 0 D3 (by omega) w1 (by rw [e]; exact w2) (by rw [e]; exact w3)
theorem v_readCondition {s ws : Int → Int} {n T t k : Nat} (hg : SgR G l) (hk : Kn K) (hT : isT T) (ht : t < 24) (hH : TpH s n ws D) (hA : AtC s n ws k D) {N c : Nat} (hN : kT s n ws N = 0) (hN15 : N ≤ 1500) (hkN : k ≤ N) (hnu : ∀ k, kT s n ws k = 2 → 0 ≤ nT s n k ∧ nT s n k ≤ 999999) (h53 : D 5 3 = (T : Nat)) (h9 : D T 9 = c) (hck : c ≤ k) (k1 : (qCd (kT s n ws) (nT s n) (pT2 s n) k).1 = 0 → ∀ D' : Nat → Int → Int, FrC T D D' → (∀ q, q ≠ 2 → q ≠ 5 → q ≠ T → q ≠ T + 7 → q ≠ T + 9 + 3 * t → D' q = D q) → (∀ j : Int, j ≠ 9 → D' T j = D T j) → D' (T + 9 + 3 * t) = uF (uF (D (T + 9 + 3 * t)) 10 c) 11 (c + (qCd (kT s n ws) (nT s n) (pT2 s n) k).2.2.length) → D' T 9 = c + (qCd (kT s n ws) (nT s n) (pT2 s n) k).2.2.length → EncL (D' (T + 7)) c (qCd (kT s n ws) (nT s n) (pT2 s n) k).2.2 → (∀ j : Int, j < c → D' (T + 7) j = D (T + 7) j) → AtC s n ws (qCd (kT s n ws) (nT s n) (pT2 s n) k).2.1 D' → P 1 (K, D', z)) (k0 : ∀ D' : Nat → Int → Int, FrC T D D' → D' 5 4 = (qCd (kT s n ws) (nT s n) (pT2 s n) k).1 → (qCd (kT s n ws) (nT s n) (pT2 s n) k).1 ≠ 0 → P 0 (K, D', z)) : VM G l (d + 28) iX4_readCondition [rf 5, rf (T + 9 + 3 * t)] (K, D, z) P := by
  have hT2 : T = 8 ∨ T = 129 := hT
  have h15 := hH.2.2.2.1
  have hpl : ∀ k, 0 ≤ pT2 s n k := fun k => (pl_in (s := s) (n := n) (k := k) h15).1
  have bad : ∀ (f : Int) (D' : Nat → Int → Int), FrC T D D' → D' 5 4 = f → (qCd (kT s n ws) (nT s n) (pT2 s n) k).1 = f → f ≠ 0 → P 0 (K, D', z) := fun f D' q1 q2 q3 q4 => k0 D' q1 (by rw [q3]; exact q2) (by rw [q3]; exact q4)
  have hv := v_readValue (z := z) hg hk hT hN hN15 hpl hnu 4 (by omega)
  have hc := v_readChain (z := z) hg hk hT hN hN15 (by omega) hpl hv 3 (by omega)
  have e4 : D 2 4 = kT s n ws k := hA.2.2.1
  have fin : ∀ (w : Int) (D2 : Nat → Int → Int), (w = 0 ∨ w = 1) → (w = 1 → (qCd (kT s n ws) (nT s n) (pT2 s n) k).1 = 0 ∧ AtC s n ws (qCd (kT s n ws) (nT s n) (pT2 s n) k).2.1 D2 ∧ D2 T 9 = c + (qCd (kT s n ws) (nT s n) (pT2 s n) k).2.2.length ∧ EncL (D2 (T + 7)) c (qCd (kT s n ws) (nT s n) (pT2 s n) k).2.2 ∧ ∀ j : Int, j < c → D2 (T + 7) j = D (T + 7) j) → (w = 0 → D2 5 4 = (qCd (kT s n ws) (nT s n) (pT2 s n) k).1 ∧ (qCd (kT s n ws) (nT s n) (pT2 s n) k).1 ≠ 0) → FrX T (aUp D (T + 9 + 3 * t) 10 c) D2 → V G l (d + 28) iX4_readCondition 39 [rf 5, rf (T + 9 + 3 * t), (0, w)] [] (K, D2, z) P := by
    intro w D2 hw h1 h0 fx
    have fc : FrC T D D2 := FrC_trans (FrC_up hT (by omega)) (FrC_X fx)
    have eR : D2 (T + 9 + 3 * t) = uF (D (T + 9 + 3 * t)) 10 c := by rw [fx.1 _ (by omega) (by omega) (by omega) (by omega), aUp_same]
    refine s_al1 rfl ?_
    refine s_al0 rfl ?_
    refine s_gr rfl (hk.at rfl rfl) rfl ?_
    rw [show D2 5 3 = (T : Nat) by rw [fc.2.2 3 (by decide)]; exact h53]
    refine s_gi rfl (KT hk hT) rfl ?_
    refine s_pi rfl (KTt hk hT ht).1 rfl ?_
    refine s_il2 rfl ?_
    refine s_retz rfl rfl hw ?_
    rcases hw with rfl | rfl
    · obtain ⟨y1, y2⟩ := h0 rfl
      exact k0 _ (FrC_trans fc (FrC_up hT (by omega))) (by rw [aUp_row (by omega)]; exact y1) y2
    · obtain ⟨y1, y2, y3, y4, y5⟩ := h1 rfl
      refine k1 y1 _ (FrC_trans fc (FrC_up hT (by omega))) (fun q q1 q2 q3 q4 q5 => ?_) (fun j hj => ?_) ?_ ?_ ?_ (fun j hj => ?_) (AtC_keep y2 (by rw [aUp_row (by omega)]) (by rw [aUp_row (by omega)]))
      · rw [aUp_row q5, fx.1 q q1 q2 q3 q4, aUp_row q5]
      · rw [aUp_row (by omega), fx.2.2.2 j hj, aUp_row (by omega)]
      · rw [aUp_same, eR, y3]
      · rw [aUp_row (by omega)]; exact y3
      · rw [aUp_row (by omega)]; exact y4
      · rw [aUp_row (by omega)]; exact y5 j hj
  refine VM_go (tg2 rfl) (Nat.le_of_ble_eq_true rfl) ?_
  refine s_al1 rfl ?_
  refine s_al0 rfl ?_
  refine s_gr rfl (hk.at rfl rfl) rfl ?_
  rw [h53]
  refine s_gi rfl (KT hk hT) rfl ?_
  rw [h9]
  refine s_pi rfl (KTt hk hT ht).1 rfl ?_
  refine s_ic rfl ?_
  refine s_is2 rfl rfl ?_
  refine s_al0 rfl ?_
  refine s_gf rfl (hk.at rfl rfl) rfl rfl ?_
  refine s_gi rfl (hk.at rfl rfl) rfl ?_
  rw [show aUp D (T + 9 + 3 * t) 10 (c : Int) 2 4 = kT s n ws k by rw [aUp_row (by omega)]; exact e4]
  refine s_ic rfl ?_
  refine s_cne rfl ?_ ?_
  · intro h22
    have e : qCd (kT s n ws) (nT s n) (pT2 s n) k = (0, k, []) := if_neg h22
    refine fin 1 _ (Or.inr rfl) (fun _ => ?_) (fun q => absurd q (by decide)) FrX_refl
    rw [e]
    exact ⟨rfl, AtC_keep hA (aUp_row (by omega)) (aUp_row (by omega)), by rw [aUp_row (by omega), h9]; show (c : Int) = c + ((0 : Nat) : Int); omega, trivial, fun j _ => by rw [aUp_row (by omega)]⟩
  · intro h22
    have e : qCd (kT s n ws) (nT s n) (pT2 s n) k = chE (kT s n ws) (vaE (kT s n ws) (nT s n) (pT2 s n) 4) 3 (k + 1) := if_pos h22
    refine s_al0 rfl ?_
    refine s_gf rfl (hk.at rfl rfl) rfl rfl ?_
    refine s_callO rfl rfl (Or.inl rfl) rfl rfl (hk.at rfl rfl) (v_adv (s := s) (ws := ws) (n := n) (k := k) hg hk (FrC_TpH hT (FrC_up hT (by omega)) hH) (AtC_keep hA (aUp_row (by omega)) (aUp_row (by omega))) (fun D1 g1 g2 g3 => ?_))
    have hlt : k + 1 ≤ N := tk_nx (kd := kT s n ws) hN hkN (by omega)
    have f1 : FrC T D D1 := FrC_trans (FrC_up hT (by omega)) (FrC_0 (Fr0_tape g1 g2))
    show V G l (d + 28) iX4_readCondition 32 [rf 5, rf (T + 9 + 3 * t), (0, 1)] [] (K, D1, z) P
    refine s_al0 rfl ?_
    refine s_ic rfl ?_
    refine s_ic rfl ?_
    refine s_callO rfl rfl (Or.inl rfl) rfl rfl (hk.at rfl rfl) (hc (d + 27) (by omega) _ D1 (k + 1) c (FrC_TpH hT f1 hH) g3 hlt (by rw [f1.2.2 3 (by decide)]; exact h53) (by rw [g1 T (by omega), aUp_row (by omega)]; exact h9) (by omega) (fun w D2 hX => ?_))
    rw [← e] at hX
    show V G l (d + 28) iX4_readCondition 38 [rf 5, rf (T + 9 + 3 * t), (0, 1)] [(0, w)] (K, D2, z) P
    refine s_is2 rfl rfl ?_
    obtain ⟨x1, x2, x3, x4⟩ := hX
    refine fin w D2 ?_ (fun y => ?_) (fun y => ?_) (FrX_trans (FrX_0 hT (Fr0_tape g1 g2)) x1)
    · rcases Classical.em ((qCd (kT s n ws) (nT s n) (pT2 s n) k).1 = 0) with y | y
      · exact Or.inr (x3 y).1
      · exact Or.inl (x4 y).1
    · have z0 : (qCd (kT s n ws) (nT s n) (pT2 s n) k).1 = 0 := Classical.byContradiction fun q => by have := (x4 q).1; omega
      obtain ⟨-, b2, b3, b4, b5⟩ := x3 z0
      exact ⟨z0, b2, b3, b4, fun j hj => by rw [b5 j hj, g1 _ (by omega), aUp_row (by omega)]⟩
    · have nz : (qCd (kT s n ws) (nT s n) (pT2 s n) k).1 ≠ 0 := fun q => by have := (x3 q).1; omega
      exact ⟨(x4 nz).2, nz⟩
end
