/-! ===== a line: the reference ===== -/
theorem nu_in {s ws : Int → Int} {n : Nat} : ∀ k, kT s n ws k = 2 → 0 ≤ nT s n k ∧ nT s n k ≤ 999999 := by
  intro k h
  have h : kdF s n ws (tpF s n k) = 2 := h
  show 0 ≤ pkF 10 48 s (tpF s n k) (runE isD s n (tpF s n k) - tpF s n k) ∧ pkF 10 48 s (tpF s n k) (runE isD s n (tpF s n k) - tpF s n k) ≤ 999999
  generalize tpF s n k = p at h
  unfold kdF at h
  split at h
  · omega
  rename_i hp
  split at h
  · split at h
    · omega
    · rcases kwF_in (ws := ws) (x := pkF 32 96 s p (runE isL s n p - p)) 21 with q | ⟨i, h1, -, h3⟩ <;> omega
  split at h
  · split at h
    · omega
    · have sp := runE_sp (p := isD) (s := s) (n := n) (n - p) p (by omega)
      have := dig_in (s := s) (i := p) (m := runE isD s n p - p) (fun k hk => sp.2.1 (p + k) (by omega) (by omega)) (by omega)
      exact ⟨this.1, this.2.1⟩
  · have := sgF_in (s p); omega
def LiM (s ws : Int → Int) (n N nx : Nat) (r : Int × Nat × PS) (D D' : Nat → Int → Int) : Prop := FrN nx D D' ∧ (r.1 = 0 → AtM s ws n N nx r.2.1 r.2.2 D' ∧ StM s ws n nx r.2.2 D') ∧ (r.1 ≠ 0 → D' 210 8 = r.1 ∧ 0 < r.1)
section
variable {G : aCX} {l : Launch} {d : Nat} {K : Nat → aKd} {D : Nat → Int → Int} {z : Nat × Nat} {P : Int → aSt → Prop}
theorem u_line {s ws : Int → Int} {n N k nx : Nat} {S : PS} (hk : Kn K) (hx2 : nx ≤ 1) (hI : PsI (kT s n ws) (mT s n) S k) (hA : AtM s ws n N nx k S D) (hS : StM s ws n nx S D) (h0 : kT s n ws k ≠ 0) (kk : ∀ D', LiM s ws n N nx (qLi (kT s n ws) (nT s n) (mT s n) (pT2 s n) k S) D D' → P 0 (K, D', z)) : VM G l (d + 25) iX12_line [rf 210] (K, D, z) P := by
  obtain ⟨hH, h8, h7, hkN, hnx, hM⟩ := id hA
  obtain ⟨b1, b2, b3, b4, b5⟩ := id hH
  have hpl : ∀ k, 0 ≤ pT2 s n k := fun k => (pl_in (s := s) (n := n) (k := k) b4).1
  have hk1 : k + 1 ≤ N := tk_nx (kd := kT s n ws) b3 hkN h0
  have tail : ∀ (f : Int) (k' : Nat) (S' : PS) (D1 : Nat → Int → Int), RdM s ws n N nx D f k' S' D1 → qLi (kT s n ws) (nT s n) (mT s n) (pT2 s n) k S = (qFo f (qTk (kT s n ws) (pT2 s n) 11 k'), k' + 1, S') → V G l (d + 25) iX12_line 58 [rf 210] [] (K, D1, z) P := by
    intro f k' S' D1 hR he
    rw [he] at kk
    by_cases f0 : f = 0
    · obtain ⟨y8, y7, yN, yS⟩ := hR.2.1 f0
      have hH1 := FrN_RfH hR.1 hH
      have hn1 : D1 210 11 = (nx : Nat) := by rw [hR.1.2.1 11 (by decide) (by decide) (by decide)]; exact hnx
      refine s_al0 rfl ?_
      refine s_ic rfl ?_
      refine s_callO rfl rfl (Or.inl rfl) rfl rfl (hk.at rfl rfl) (u_takeSign (c := 59) hk hH1 y8 y7 yN (by decide) (fun y => ?_) (fun y => ?_))
      · have y : kT s n ws k' = 11 := y
        show V G l (d + 25) iX12_line 64 [rf 210] [] (K, _, z) P
        refine s_retv rfl rfl ?_
        have hk2 : k' + 1 ≤ N := tk_nx (kd := kT s n ws) b3 yN (by omega)
        have hS1 := yS y
        rw [show ((k' : Nat) : Int) + 1 = ((k' + 1 : Nat) : Int) from rfl]
        refine kk _ ⟨FrN_trans hR.1 (FrN_210 (Or.inl rfl)), fun _ => ?_, fun q => ?_⟩
        · have a1 : AtM s ws n N nx k' S' D1 := ⟨hH1, y8, y7, yN, hn1, hS1.1⟩
          have a2 := AtM_to a1 hk2
          refine ⟨a2, a2.2.2.2.2.2, fun t ht => ?_, by rw [aUp_ne (by decide)]; exact hS1.2.2.1, fun c hc => ?_⟩
          · have := hS1.2.1 t ht
            unfold TrM at this ⊢
            rw [aUp_row (by decide), aUp_row (by decide), aUp_row (by decide), aUp_row (by decide), aUp_row (by decide), aUp_row (by decide), aUp_row (by decide), aUp_row (by decide), aUp_row (by decide), aUp_row (by decide), aUp_row (by decide)]
            simp only [aUp_row (show 231 ≠ 210 by decide), aUp_row (show 232 ≠ 210 by decide)]
            exact this
          · rw [aUp_row (by decide), aUp_row (by decide), aUp_row (by decide)]; exact hS1.2.2.2 c hc
        · exact absurd (by rw [f0, qFo_r rfl]; exact qTk_0 y) q
      · have y : ¬ kT s n ws k' = 11 := y
        have hp := hpl k'
        show V G l (d + 25) iX12_line 64 [rf 210] [] (K, _, z) P
        refine s_retv rfl rfl ?_
        have e : qFo f (qTk (kT s n ws) (pT2 s n) 11 k') = 1 + 16 * pT2 s n k' := by rw [f0, qFo_r rfl]; exact qTk_1 y
        refine kk _ ⟨FrN_trans hR.1 (FrN_210 (Or.inr (Or.inl rfl))), fun q => ?_, fun _ => ?_⟩
        · have q : qFo f (qTk (kT s n ws) (pT2 s n) 11 k') = 0 := q
          omega
        · show _ = qFo f (qTk (kT s n ws) (pT2 s n) 11 k') ∧ 0 < qFo f (qTk (kT s n ws) (pT2 s n) 11 k')
          rw [e, aUp_at]; exact ⟨rfl, by omega⟩
    · obtain ⟨f1, y8, y7⟩ := hR.2.2 f0
      refine s_al0 rfl ?_
      refine s_ic rfl ?_
      refine s_callO rfl rfl (Or.inl rfl) rfl rfl (hk.at rfl rfl) (u_takeSignD hk (by omega) ?_)
      show V G l (d + 25) iX12_line 64 [rf 210] [] (K, D1, z) P
      refine s_retv rfl rfl ?_
      refine kk _ ⟨hR.1, fun q => ?_, fun _ => ?_⟩
      · have q : qFo f (qTk (kT s n ws) (pT2 s n) 11 k') = 0 := q
        rw [qFo_l f0] at q; exact absurd q f0
      · show _ = qFo f (qTk (kT s n ws) (pT2 s n) 11 k') ∧ 0 < qFo f (qTk (kT s n ws) (pT2 s n) 11 k')
        rw [qFo_l f0]; exact ⟨y8, f1⟩
  refine VM_go (tg2 rfl) (Nat.le_of_ble_eq_true rfl) ?_
  refine s_al0 rfl ?_
  refine s_ic rfl ?_
  refine s_callO rfl rfl (Or.inl rfl) rfl rfl (hk.at rfl rfl) (u_isWord (w := 0) hk hH h8 h7 hkN (by decide) ?_)
  show V G l (d + 25) iX12_line 5 [rf 210] [(0, if kT s n ws k = 12 then 1 else 0)] (K, D, z) P
  generalize hc0 : (if kT s n ws k = 12 then (1 : Int) else 0) = c0
  refine s_zeq rfl ?_ ?_
  · intro h5
    have n12 : ¬ kT s n ws k = 12 := fun q => by rw [if_pos q] at hc0; omega
    refine s_al0 rfl ?_
    refine s_ic rfl ?_
    refine s_callO rfl rfl (Or.inl rfl) rfl rfl (hk.at rfl rfl) (u_isWord (w := 1) hk hH h8 h7 hkN (by decide) ?_)
    show V G l (d + 25) iX12_line 20 [rf 210] [(0, if kT s n ws k = 13 then 1 else 0)] (K, D, z) P
    generalize hc1 : (if kT s n ws k = 13 then (1 : Int) else 0) = c1
    refine s_zeq rfl ?_ ?_
    · intro h20
      have n13 : ¬ kT s n ws k = 13 := fun q => by rw [if_pos q] at hc1; omega
      refine s_al0 rfl ?_
      refine s_ic rfl ?_
      refine s_callO rfl rfl (Or.inl rfl) rfl rfl (hk.at rfl rfl) (u_isWord (w := 2) hk hH h8 h7 hkN (by decide) ?_)
      show V G l (d + 25) iX12_line 35 [rf 210] [(0, if kT s n ws k = 14 then 1 else 0)] (K, D, z) P
      generalize hc2 : (if kT s n ws k = 14 then (1 : Int) else 0) = c2
      refine s_zne rfl ?_ ?_
      · intro h35
        have y14 : kT s n ws k = 14 := Decidable.byContradiction fun q => by rw [if_neg q] at hc2; omega
        refine s_al0 rfl ?_
        refine s_callO rfl rfl (Or.inl rfl) rfl rfl (hk.at rfl rfl) (u_readTreaty (ly := 0) (d := d) hk hx2 hI hA hS hk1 nu_in (by omega) (fun D' hR => ?_))
        show V G l (d + 25) iX12_line 50 [rf 210] [] (K, D', z) P
        refine s_go rfl ?_
        refine tail _ _ _ D' hR ?_
        have e : qLi (kT s n ws) (nT s n) (mT s n) (pT2 s n) k S = qTr (kT s n ws) (nT s n) (mT s n) (pT2 s n) 0 k S := by unfold qLi; rw [if_neg n12, if_neg n13, if_pos y14]
        rw [e]
        show ((qTrF (kT s n ws) (nT s n) (mT s n) (pT2 s n) 0 k S, (qT6 (kT s n ws) (nT s n) (mT s n) (pT2 s n) 0 k S).2.1 + 1, (qTr (kT s n ws) (nT s n) (mT s n) (pT2 s n) 0 k S).2.2) : Int × Nat × PS) = _
        refine Prod.ext ?_ rfl
        show qTrF (kT s n ws) (nT s n) (mT s n) (pT2 s n) 0 k S = qFo (if 24 ≤ S.nt then 5 + 16 * pT2 s n k else qFo (qNn (kT s n ws) (mT s n) (pT2 s n) S.nh S.hn S.nt S.tn (k + 1)) (qFo (qTk (kT s n ws) (pT2 s n) 18 (k + 2)) (qFo (qHf (kT s n ws) (mT s n) (pT2 s n) S.nh S.hn (k + 3)) (qFo (qTk (kT s n ws) (pT2 s n) 10 (qT1 (kT s n ws) k)) (qFo (if 0 = 0 then 0 else qLm (kT s n ws) (nT s n) (pT2 s n) (qT1 (kT s n ws) k + 1)) (qFo (qT4 (kT s n ws) (nT s n) (mT s n) (pT2 s n) 0 k S).1 (qFo (qA5 (kT s n ws) (nT s n) (pT2 s n) 0 (qT4 (kT s n ws) (nT s n) (mT s n) (pT2 s n) 0 k S).2.1) (qT6 (kT s n ws) (nT s n) (mT s n) (pT2 s n) 0 k S).1))))))) _
        unfold qTrF
        by_cases q : 24 ≤ S.nt
        · rw [if_pos q, if_pos q, qFo_l (by have := hpl k; omega)]
        · rw [if_neg q, if_neg q, qFo_as, qFo_as, qFo_as, qFo_as, qFo_as, qFo_as, qFo_as]
      · intro h35
        have n14 : ¬ kT s n ws k = 14 := fun q => by rw [if_pos q] at hc2; omega
        refine s_al0 rfl ?_
        refine s_ic rfl ?_
        refine s_callO rfl rfl (Or.inl rfl) rfl rfl (hk.at rfl rfl) (u_isWord (w := 3) hk hH h8 h7 hkN (by decide) ?_)
        show V G l (d + 25) iX12_line 43 [rf 210] [(0, if kT s n ws k = 15 then 1 else 0)] (K, D, z) P
        generalize hc3 : (if kT s n ws k = 15 then (1 : Int) else 0) = c3
        refine s_zeq rfl ?_ ?_
        · intro h43
          have n15 : ¬ kT s n ws k = 15 := fun q => by rw [if_pos q] at hc3; omega
          refine s_al0 rfl ?_
          refine s_ic rfl ?_
          refine s_callO rfl rfl (Or.inl rfl) rfl rfl (hk.at rfl rfl) (u_wrong (c := 1) hk hH h8 h7 hkN (by decide) ?_)
          show V G l (d + 25) iX12_line 58 [rf 210] [] (K, _, z) P
          have e : qLi (kT s n ws) (nT s n) (mT s n) (pT2 s n) k S = (1 + 16 * pT2 s n k, k, S) := by unfold qLi; rw [if_neg n12, if_neg n13, if_neg n14, if_neg n15]
          rw [e] at kk
          have hp := hpl k
          refine s_al0 rfl ?_
          refine s_ic rfl ?_
          refine s_callO rfl rfl (Or.inl rfl) rfl rfl (hk.at rfl rfl) (u_takeSignD hk (by rw [aUp_at]; omega) ?_)
          show V G l (d + 25) iX12_line 64 [rf 210] [] (K, _, z) P
          refine s_retv rfl rfl ?_
          refine kk _ ⟨FrN_210 (Or.inr (Or.inl rfl)), fun q => ?_, fun _ => ⟨aUp_at, ?_⟩⟩
          · have q : 1 + 16 * pT2 s n k = 0 := q
            omega
          · show 0 < 1 + 16 * pT2 s n k
            omega
        · intro h43
          have y15 : kT s n ws k = 15 := Decidable.byContradiction fun q => by rw [if_neg q] at hc3; omega
          refine s_al0 rfl ?_
          refine s_callO rfl rfl (Or.inl rfl) rfl rfl (hk.at rfl rfl) (u_readTreaty (ly := 1) (d := d) hk hx2 hI hA hS hk1 nu_in (by omega) (fun D' hR => ?_))
          show V G l (d + 25) iX12_line 50 [rf 210] [] (K, D', z) P
          refine s_go rfl ?_
          refine tail _ _ _ D' hR ?_
          have e : qLi (kT s n ws) (nT s n) (mT s n) (pT2 s n) k S = qTr (kT s n ws) (nT s n) (mT s n) (pT2 s n) 1 k S := by unfold qLi; rw [if_neg n12, if_neg n13, if_neg n14, if_pos y15]
          rw [e]
          show ((qTrF (kT s n ws) (nT s n) (mT s n) (pT2 s n) 1 k S, (qT6 (kT s n ws) (nT s n) (mT s n) (pT2 s n) 1 k S).2.1 + 1, (qTr (kT s n ws) (nT s n) (mT s n) (pT2 s n) 1 k S).2.2) : Int × Nat × PS) = _
          refine Prod.ext ?_ rfl
          show qTrF (kT s n ws) (nT s n) (mT s n) (pT2 s n) 1 k S = qFo (if 24 ≤ S.nt then 5 + 16 * pT2 s n k else qFo (qNn (kT s n ws) (mT s n) (pT2 s n) S.nh S.hn S.nt S.tn (k + 1)) (qFo (qTk (kT s n ws) (pT2 s n) 18 (k + 2)) (qFo (qHf (kT s n ws) (mT s n) (pT2 s n) S.nh S.hn (k + 3)) (qFo (qTk (kT s n ws) (pT2 s n) 10 (qT1 (kT s n ws) k)) (qFo (if 1 = 0 then 0 else qLm (kT s n ws) (nT s n) (pT2 s n) (qT1 (kT s n ws) k + 1)) (qFo (qT4 (kT s n ws) (nT s n) (mT s n) (pT2 s n) 1 k S).1 (qFo (qA5 (kT s n ws) (nT s n) (pT2 s n) 1 (qT4 (kT s n ws) (nT s n) (mT s n) (pT2 s n) 1 k S).2.1) (qT6 (kT s n ws) (nT s n) (mT s n) (pT2 s n) 1 k S).1))))))) _
          unfold qTrF
          by_cases q : 24 ≤ S.nt
          · rw [if_pos q, if_pos q, qFo_l (by have := hpl k; omega)]
          · rw [if_neg q, if_neg q, qFo_as, qFo_as, qFo_as, qFo_as, qFo_as, qFo_as, qFo_as]
    · intro h20
      have y13 : kT s n ws k = 13 := Decidable.byContradiction fun q => by rw [if_neg q] at hc1; omega
      refine s_al0 rfl ?_
      refine s_callO rfl rfl (Or.inl rfl) rfl rfl (hk.at rfl rfl) (u_readEvent (d := d + 21) hk hx2 hI hA hS hk1 nu_in (fun D' hR => ?_))
      show V G l (d + 25) iX12_line 27 [rf 210] [] (K, D', z) P
      refine s_go rfl ?_
      refine tail _ _ _ D' hR ?_
      have e : qLi (kT s n ws) (nT s n) (mT s n) (pT2 s n) k S = qEv (kT s n ws) (nT s n) (pT2 s n) k S := by unfold qLi; rw [if_neg n12, if_pos y13]
      rw [e]
      refine Prod.ext ?_ rfl
      show qFo _ _ = qFo (qFo (qNm (kT s n ws) (nT s n) (pT2 s n) 0 7 (k + 1)) (qFo (qE6 (nT s n) (pT2 s n) (k + 1) S) (qFo (qTk (kT s n ws) (pT2 s n) 16 (k + 2)) (qFo (qNm (kT s n ws) (nT s n) (pT2 s n) 1 999 (k + 3)) (qFo (qTk (kT s n ws) (pT2 s n) 17 (k + 4)) (qNm (kT s n ws) (nT s n) (pT2 s n) 0 999 (k + 5))))))) _
      rw [qFo_as, qFo_as, qFo_as, qFo_as, qFo_as]
  · intro h5
    have y12 : kT s n ws k = 12 := Decidable.byContradiction fun q => by rw [if_neg q] at hc0; omega
    refine s_al0 rfl ?_
    refine s_callO rfl rfl (Or.inl rfl) rfl rfl (hk.at rfl rfl) (u_readHouse (d := d + 21) hk hx2 hI hA hS hk1 (fun D' hR => ?_))
    show V G l (d + 25) iX12_line 12 [rf 210] [] (K, D', z) P
    refine s_go rfl ?_
    refine tail _ _ _ D' hR ?_
    have e : qLi (kT s n ws) (nT s n) (mT s n) (pT2 s n) k S = qHo (kT s n ws) (mT s n) (pT2 s n) k S := by unfold qLi; exact if_pos y12
    rw [e]
    refine Prod.ext ?_ rfl
    show (if 12 ≤ S.nh then 5 + 16 * pT2 s n k else qFo _ _) = qFo (if 12 ≤ S.nh then 5 + 16 * pT2 s n k else qNn (kT s n ws) (mT s n) (pT2 s n) S.nh S.hn S.nt S.tn (k + 1)) _
    by_cases q : 12 ≤ S.nh
    · rw [if_pos q, if_pos q, qFo_l (by have := hpl k; omega)]
    · rw [if_neg q, if_neg q]
end
