/-! ===== a treaty line: the class ===== -/
section
variable {G : aCX} {l : Launch} {d : Nat} {K : Nat → aKd} {D : Nat → Int → Int} {z : Nat × Nat} {P : Int → aSt → Prop}
theorem v_readTreaty {s ws : Int → Int} {n T k N : Nat} {S : PS} {ly : Int} (hg : SgR G l) (hk : Kn K) (hT : isT T) (hH : TpH s n ws D) (hA : AtC s n ws k D) (h53 : D 5 3 = (T : Nat)) (hN : kT s n ws N = 0) (hN15 : N ≤ 1500) (hkN : k + 1 ≤ N) (hnu : ∀ k, kT s n ws k = 2 → 0 ≤ nT s n k ∧ nT s n k ≤ 999999) (hly : ly = 0 ∨ ly = 1) (hI : PsI (kT s n ws) (mT s n) S k) (hS : StC s n T S D) (kk : ∀ w D', LiC s ws n T (qTr (kT s n ws) (nT s n) (mT s n) (pT2 s n) ly k S) D w D' → P w (K, D', z)) : VM G l (d + 29) iX4_readTreaty [rf 5, (0, ly)] (K, D, z) P := by
  have hT2 : T = 8 ∨ T = 129 := hT
  have h15 := hH.2.2.2.1
  have hpl : ∀ k, 0 ≤ pT2 s n k := fun k => (pl_in (s := s) (n := n) (k := k) h15).1
  have h32 : ∀ k, kT s n ws k ≤ 32 := fun k => (kdF_in (s := s) (n := n) (ws := ws) (p := tpF s n k)).2
  obtain ⟨⟨i1, i2⟩, i3, i4, i5, i6, i7, i8, i9, i10⟩ := id hI
  obtain ⟨⟨a0, a1⟩, a2, a3, a4, a5, a6, a7⟩ := id hS
  have ix := qIx_in (nm := mT s n) (nh := S.nh) (hn := S.hn) (k := k + 3)
  have bad : ∀ (f : Int) (D' : Nat → Int → Int), FrC T D D' → D' 5 4 = f → qTrF (kT s n ws) (nT s n) (mT s n) (pT2 s n) ly k S = f → f ≠ 0 → P 0 (K, D', z) := fun f D' q1 q2 q3 q4 => kk 0 D' ⟨q1, fun y => absurd (q3.symm.trans y) q4, fun _ => ⟨rfl, by show D' 5 4 = qTrF (kT s n ws) (nT s n) (mT s n) (pT2 s n) ly k S; rw [q3]; exact q2⟩⟩
  obtain ⟨t1, ht1e⟩ : ∃ x, (qT1 (kT s n ws) k) = x := ⟨_, rfl⟩
  obtain ⟨ixv, hixe⟩ : ∃ x, (qIx (mT s n) S.nh S.hn (k + 3)) = x := ⟨_, rfl⟩
  obtain ⟨r4, h4e⟩ : ∃ x, (qT4 (kT s n ws) (nT s n) (mT s n) (pT2 s n) ly k S) = x := ⟨_, rfl⟩
  obtain ⟨r6, h6e⟩ : ∃ x, (qT6 (kT s n ws) (nT s n) (mT s n) (pT2 s n) ly k S) = x := ⟨_, rfl⟩
  obtain ⟨t5, h5e⟩ : ∃ x, qT5 (kT s n ws) ly r4.2.1 = x := ⟨_, rfl⟩
  obtain ⟨hb, hbe⟩ : ∃ x, qHa (kT s n ws) ly r4.2.1 = x := ⟨_, rfl⟩
  obtain ⟨g0, hg0⟩ : ∃ g : Int → Int, g = uF (bgF ixv ly) 2 (if kT s n ws (k + 4) = 19 then 1 else 0) := ⟨_, rfl⟩
  obtain ⟨gA, hgA⟩ : ∃ g : Int → Int, g = (if ly = 0 then g0 else uF (uF g0 3 (nT s n (t1 + 1))) 4 (nT s n (t1 + 3))) := ⟨_, rfl⟩
  obtain ⟨gB, hgB⟩ : ∃ g : Int → Int, g = uF gA 7 ((r4.2.2.1 : Nat) : Int) := ⟨_, rfl⟩
  obtain ⟨gC, hgC⟩ : ∃ g : Int → Int, g = (if hb = true then uF (uF gB 5 (nT s n (r4.2.1 + 1))) 6 (nT s n (r4.2.1 + 3)) else gB) := ⟨_, rfl⟩
  have h4p : qPs (kT s n ws) (nT s n) (mT s n) (pT2 s n) S.nh S.hn ixv (qT3 (kT s n ws) ly k) = r4 := by rw [← h4e, ← hixe]; rfl
  have h6p : qCd (kT s n ws) (nT s n) (pT2 s n) t5 = r6 := by rw [← h6e, ← h5e, ← h4e]; rfl
  rw [hixe] at ix
  -- the state behind addTreaty, as the rest of the line needs it
  have tail : ∀ (D6 : Nat → Int → Int), S.nt < 24 → 0 ≤ ixv ∧ ixv < S.nh → FrC T D D6 → D6 6 = D 6 → D6 7 = uF (D 7) S.nt (lT3 s n (k + 1)) → (D6 T 0 = S.nh ∧ D6 T 1 = ((S.nt + 1 : Nat) : Int) ∧ D6 T 9 = ((cTo S.cl S.nt : Nat) : Int)) → D6 (T + 3) = uF (D (T + 3)) ixv S.nt → (D (T + 3) ixv = -1 → D6 (T + 2) = uF (D (T + 2)) ixv S.nt ∧ ∀ i, i < S.nt → D6 (T + 9 + 3 * i) = D (T + 9 + 3 * i)) → (∀ a : Nat, a < S.nt → D (T + 3) ixv = a → D6 (T + 2) = D (T + 2) ∧ D6 (T + 9 + 3 * a) = uF (D (T + 9 + 3 * a)) 12 S.nt ∧ ∀ i, i < S.nt → i ≠ a → D6 (T + 9 + 3 * i) = D (T + 9 + 3 * i)) → (∀ i, i < S.nt → D6 (T + 10 + 3 * i) = D (T + 10 + 3 * i) ∧ D6 (T + 11 + 3 * i) = D (T + 11 + 3 * i)) → D6 (T + 7) = D (T + 7) → (D6 (T + 4) = D (T + 4) ∧ D6 (T + 5) = D (T + 5) ∧ D6 (T + 6) = D (T + 6)) → RwI T S.nt g0 D6 → AtC s n ws t1 D6 → t1 ≤ N → k + 4 ≤ t1 → qTrF (kT s n ws) (nT s n) (mT s n) (pT2 s n) ly k S = qFo (qTk (kT s n ws) (pT2 s n) 10 t1) (qFo (if ly = 0 then 0 else qLm (kT s n ws) (nT s n) (pT2 s n) (t1 + 1)) (qFo r4.1 (qFo (qA5 (kT s n ws) (nT s n) (pT2 s n) ly r4.2.1) (qFo r6.1 (qTk (kT s n ws) (pT2 s n) 11 r6.2.1))))) → V G l (d + 29) iX4_readTreaty 122 [rf 5, (0, ly), (0, (S.nt : Int)), (0, ixv), rf (T + 9 + 3 * S.nt)] [] (K, D6, z) P := by
    intro D6 hnt hix fD6 q6 q7 qT q3 qa qb qr q7c q456 hRw hA6 ht1 ht1k hF
    have hH6 := FrC_TpH hT fD6 hH
    have h536 : D6 5 3 = (T : Nat) := by rw [fD6.2.2 3 (by decide)]; exact h53
    have t166 : ∀ (D9 : Nat → Int → Int), FrR T S.nt D6 D9 → PaC T S.nt r4 D9 → RwI T S.nt gC D9 → AtC s n ws (t5) D9 → t5 ≤ N → k ≤ t5 → r4.2.2.1 ≤ 11 → qTrF (kT s n ws) (nT s n) (mT s n) (pT2 s n) ly k S = qFo r6.1 (qTk (kT s n ws) (pT2 s n) 11 r6.2.1) → V G l (d + 29) iX4_readTreaty 166 [rf 5, (0, ly), (0, (S.nt : Int)), (0, ixv), rf (T + 9 + 3 * S.nt)] [] (K, D9, z) P := by
      intro D9 fr hP hRw hA9 h5N h5k h11 hF
      have fD9 : FrC T D D9 := FrC_trans fD6 (FrR_C hnt fr)
      have hH9 := FrC_TpH hT fD9 hH
      have e9 : D9 T = D6 T := fr.1 T (by omega) (by omega) (by omega) (by omega) (by omega)
      refine s_al0 rfl ?_
      refine s_al4 rfl ?_
      refine s_callO rfl rfl (Or.inl rfl) rfl rfl (hk.at rfl rfl) (v_readCondition (s := s) (ws := ws) (n := n) (T := T) (t := S.nt) (k := t5) (c := cTo S.cl S.nt) hg hk hT hnt hH9 hA9 hN hN15 h5N hnu (by rw [fD9.2.2 3 (by decide)]; exact h53) (by rw [e9]; exact qT.2.2) (by omega) (fun y Da w1 w2 w3 w4 w5 w6 w7 w8 => ?_) (fun Da w1 w2 w3 => ?_))
      rotate_left
      · rw [h6p] at w2 w3
        show V G l (d + 29) iX4_readTreaty 172 [rf 5, (0, ly), (0, (S.nt : Int)), (0, ixv), rf (T + 9 + 3 * S.nt)] [(0, 0)] (K, Da, z) P
        refine s_zeq rfl (fun _ => ?_) (fun q => absurd rfl q)
        refine s_ic rfl ?_
        refine s_retz rfl rfl (Or.inl rfl) ?_
        exact bad _ Da (FrC_trans fD9 w1) w2 (by rw [hF]; exact qFo_l w3) w3
      have fDa : FrC T D Da := FrC_trans fD9 w1
      rw [h6p] at y w4 w5 w6 w8
      rw [qFo_r y] at hF
      show V G l (d + 29) iX4_readTreaty 172 [rf 5, (0, ly), (0, (S.nt : Int)), (0, ixv), rf (T + 9 + 3 * S.nt)] [(0, 1)] (K, Da, z) P
      refine s_zeq rfl ?_ ?_
      · intro h172
        exact absurd h172 (by decide)
      · intro h172
        refine s_al0 rfl ?_
        refine s_ic rfl ?_
        refine s_callO rfl rfl (Or.inl rfl) rfl rfl (hk.at rfl rfl) (v_take (s := s) (ws := ws) (n := n) (k := r6.2.1) hg hk (FrC_TpH hT fDa hH) w8 (fun yb Db xb hAb => ?_) (fun yb => ?_))
        rotate_left
        · show V G l (d + 29) iX4_readTreaty 181 [rf 5, (0, ly), (0, (S.nt : Int)), (0, ixv), rf (T + 9 + 3 * S.nt)] [(0, 0)] (K, _, z) P
          refine s_zeq rfl (fun _ => ?_) (fun q => absurd rfl q)
          refine s_ic rfl ?_
          refine s_retz rfl rfl (Or.inl rfl) ?_
          exact bad _ _ (FrC_trans fDa (FrC_0 Fr0_fault)) aUp_at (by rw [hF, qTk_1 yb]) (by have := hpl r6.2.1; omega)
        rw [qTk_0 yb] at hF
        show V G l (d + 29) iX4_readTreaty 181 [rf 5, (0, ly), (0, (S.nt : Int)), (0, ixv), rf (T + 9 + 3 * S.nt)] [(0, 1)] (K, Db, z) P
        refine s_zeq rfl ?_ ?_
        · intro h181
          exact absurd h181 (by decide)
        · intro h181
          refine s_ic rfl ?_
          refine s_go rfl ?_
          refine s_retz rfl rfl (Or.inr rfl) ?_
          refine kk 1 Db ⟨FrC_trans fDa (FrC_0 xb), fun _ => ⟨rfl, by show AtC s n ws ((qT6 (kT s n ws) (nT s n) (mT s n) (pT2 s n) ly k S).2.1 + 1) Db; rw [h6e]; exact hAb, ?_⟩, fun q => absurd hF q⟩
          have ob : ∀ r, r ≠ 2 → r ≠ 5 → Db r = Da r := fun r q1 q2 => xb.1 r q1 q2
          have oc : ∀ r, r ≠ 2 → r ≠ 5 → r ≠ T → r ≠ T + 7 → r ≠ T + 9 + 3 * S.nt → r ≠ T + 10 + 3 * S.nt → r ≠ T + 11 + 3 * S.nt → Db r = D6 r := fun r q1 q2 q3 q4 q5 q6 q7 => by rw [ob r q1 q2, w2 r q1 q2 q3 q4 q5, fr.1 r q1 q2 q5 q6 q7]
          have rw4 : RwI T S.nt (uF (uF gC 10 ((cTo S.cl S.nt : Nat) : Int)) 11 (((cTo S.cl S.nt : Nat) : Int) + r6.2.2.length)) Db := RwI_keep (RwI_up2 hRw w4) (ob _ (by omega) (by omega))
          have z0 : ∀ j : Int, j ≠ 0 → j ≠ 1 → j ≠ 2 → j ≠ 12 → j ≠ 13 → g0 j = 0 := fun j j0 j1 j2 j12 j13 => by rw [hg0, uF_ne j2]; unfold bgF; rw [if_neg j0, if_neg j1, if_neg j12, if_neg j13]
          have vA : ∀ j : Int, j ≠ 3 → j ≠ 4 → gA j = g0 j := fun j j3 j4 => by
            rw [hgA]
            by_cases y0 : ly = 0
            · rw [if_pos y0]
            · rw [if_neg y0, uF_ne j4, uF_ne j3]
          have vB : ∀ j : Int, j ≠ 7 → gB j = gA j := fun j j7 => by rw [hgB, uF_ne j7]
          have vC : ∀ j : Int, j ≠ 5 → j ≠ 6 → gC j = gB j := fun j j5 j6 => by
            rw [hgC]
            by_cases y0 : hb = true
            · rw [if_pos y0, uF_ne j6, uF_ne j5]
            · rw [if_neg y0]
          have gval : ∀ j : Int, j ≠ 3 → j ≠ 4 → j ≠ 5 → j ≠ 6 → j ≠ 7 → gC j = g0 j := fun j j3 j4 j5 j6 j7 => by rw [vC j j5 j6, vB j j7, vA j j3 j4]
          have dW : ∀ j : Int, qTrW (kT s n ws) (nT s n) (mT s n) (pT2 s n) ly k S j = (if j = 0 then ixv else if j = 1 then ly else if j = 2 then (if kT s n ws (k + 4) = 19 then 1 else 0) else if j = 3 then (if ly = 0 then 0 else nT s n (t1 + 1)) else if j = 4 then (if ly = 0 then 0 else nT s n (t1 + 3)) else if j = 5 then (if hb = true then nT s n (r4.2.1 + 1) else 0) else if j = 6 then (if hb = true then nT s n (r4.2.1 + 3) else 0) else if j = 7 then ((r4.2.2.1 : Nat) : Int) else if j < 100 then 0 else if j < 200 then r4.2.2.2.1 (j - 100) else r4.2.2.2.2 (j - 200)) := fun j => by unfold qTrW; rw [h4e, hixe, ht1e, hbe]
          have hW : ∀ j : Int, 0 ≤ j → j < 8 → gC j = qTrW (kT s n ws) (nT s n) (mT s n) (pT2 s n) ly k S j := fun j j1 j2 => by
            rw [dW]
            have hj : j = 0 ∨ j = 1 ∨ j = 2 ∨ j = 3 ∨ j = 4 ∨ j = 5 ∨ j = 6 ∨ j = 7 := by omega
            rcases hj with rfl | rfl | rfl | rfl | rfl | rfl | rfl | rfl
            · rw [gval 0 (by decide) (by decide) (by decide) (by decide) (by decide), hg0, uF_ne (by decide)]; rfl
            · rw [gval 1 (by decide) (by decide) (by decide) (by decide) (by decide), hg0, uF_ne (by decide)]; rfl
            · rw [gval 2 (by decide) (by decide) (by decide) (by decide) (by decide), hg0, uF_at]; rfl
            · rw [vC 3 (by decide) (by decide), vB 3 (by decide), hgA]
              show _ = (if ly = 0 then 0 else nT s n (t1 + 1))
              by_cases y0 : ly = 0
              · rw [if_pos y0, if_pos y0]; exact z0 3 (by decide) (by decide) (by decide) (by decide) (by decide)
              · rw [if_neg y0, if_neg y0, uF_ne (by decide), uF_at]
            · rw [vC 4 (by decide) (by decide), vB 4 (by decide), hgA]
              show _ = (if ly = 0 then 0 else nT s n (t1 + 3))
              by_cases y0 : ly = 0
              · rw [if_pos y0, if_pos y0]; exact z0 4 (by decide) (by decide) (by decide) (by decide) (by decide)
              · rw [if_neg y0, if_neg y0, uF_at]
            · rw [hgC]
              show _ = (if hb = true then nT s n (r4.2.1 + 1) else 0)
              by_cases y0 : hb = true
              · rw [if_pos y0, if_pos y0, uF_ne (by decide), uF_at]
              · rw [if_neg y0, if_neg y0, vB 5 (by decide), vA 5 (by decide) (by decide)]; exact z0 5 (by decide) (by decide) (by decide) (by decide) (by decide)
            · rw [hgC]
              show _ = (if hb = true then nT s n (r4.2.1 + 3) else 0)
              by_cases y0 : hb = true
              · rw [if_pos y0, if_pos y0, uF_at]
              · rw [if_neg y0, if_neg y0, vB 6 (by decide), vA 6 (by decide) (by decide)]; exact z0 6 (by decide) (by decide) (by decide) (by decide) (by decide)
            · rw [vC 7 (by decide) (by decide), hgB, uF_at]; rfl
          rw [← hixe] at q3 qa qb
          rw [← h6e] at w5 w6 rw4
          rw [← h4e] at hP h11
          refine St_add hI hS hnt (by rw [hixe]; exact hix) (by rw [oc 6 (by omega) (by omega) (by omega) (by omega) (by omega) (by omega) (by omega)]; exact q6) (by rw [oc 7 (by omega) (by omega) (by omega) (by omega) (by omega) (by omega) (by omega)]; exact q7) ⟨by rw [ob T (by omega) (by omega), w3 0 (by decide), e9]; exact qT.1, by rw [ob T (by omega) (by omega), w3 1 (by decide), e9]; exact qT.2.1, by rw [ob T (by omega) (by omega)]; exact w5⟩ (by rw [oc _ (by omega) (by omega) (by omega) (by omega) (by omega) (by omega) (by omega)]; exact q3) (fun y2 => ?_) (fun a ha y2 => ?_) (fun i hi => ?_) ⟨fun j hj => ?_, by rw [ob _ (by omega) (by omega)]; exact w6⟩ ⟨fun j j1 j2 => ?_, ?_⟩ (fun i hi => ?_) h11 ?_
          · exact ⟨by rw [oc _ (by omega) (by omega) (by omega) (by omega) (by omega) (by omega) (by omega)]; exact (qa y2).1, fun i hi => by rw [oc _ (by omega) (by omega) (by omega) (by omega) (by omega) (by omega) (by omega)]; exact (qa y2).2 i hi⟩
          · obtain ⟨b1, b2, b3⟩ := qb a ha y2
            exact ⟨by rw [oc _ (by omega) (by omega) (by omega) (by omega) (by omega) (by omega) (by omega)]; exact b1, by rw [oc _ (by omega) (by omega) (by omega) (by omega) (by omega) (by omega) (by omega)]; exact b2, fun i hi hia => by rw [oc _ (by omega) (by omega) (by omega) (by omega) (by omega) (by omega) (by omega)]; exact b3 i hi hia⟩
          · rw [oc _ (by omega) (by omega) (by omega) (by omega) (by omega) (by omega) (by omega), oc _ (by omega) (by omega) (by omega) (by omega) (by omega) (by omega) (by omega)]; exact qr i hi
          · rw [ob _ (by omega) (by omega), w7 j hj, fr.1 _ (by omega) (by omega) (by omega) (by omega) (by omega), q7c]
          · rw [rw4 j j1 (by omega) (by omega) (by omega), uF_ne (by omega), uF_ne (by omega)]; exact hW j j1 j2
          · refine ⟨?_, ?_, ?_, ?_, ?_⟩
            · rw [rw4 10 (by decide) (by decide) (by decide) (by decide), uF_ne (by decide), uF_at]
            · rw [rw4 11 (by decide) (by decide) (by decide) (by decide), uF_at]
            · rw [rw4 12 (by decide) (by decide) (by decide) (by decide), uF_ne (by decide), uF_ne (by decide), gval 12 (by decide) (by decide) (by decide) (by decide) (by decide), hg0, uF_ne (by decide)]; rfl
            · rw [rw4 13 (by decide) (by decide) (by decide) (by decide), uF_ne (by decide), uF_ne (by decide), gval 13 (by decide) (by decide) (by decide) (by decide) (by decide), hg0, uF_ne (by decide)]; rfl
            · rw [rw4 14 (by decide) (by decide) (by decide) (by decide), uF_ne (by decide), uF_ne (by decide), gval 14 (by decide) (by decide) (by decide) (by decide) (by decide), hg0, uF_ne (by decide)]; rfl
          · have := hP.2 i hi
            rw [ob _ (by omega) (by omega), ob _ (by omega) (by omega), w2 _ (by omega) (by omega) (by omega) (by omega) (by omega), w2 _ (by omega) (by omega) (by omega) (by omega) (by omega)]
            exact this
          · rw [oc _ (by omega) (by omega) (by omega) (by omega) (by omega) (by omega) (by omega), oc _ (by omega) (by omega) (by omega) (by omega) (by omega) (by omega) (by omega), oc _ (by omega) (by omega) (by omega) (by omega) (by omega) (by omega) (by omega)]; exact q456
    have t144 : ∀ (D7 : Nat → Int → Int), FrR T S.nt D6 D7 → RwI T S.nt gA D7 → AtC s n ws (qT3 (kT s n ws) ly k) D7 → qT3 (kT s n ws) ly k ≤ N → k ≤ qT3 (kT s n ws) ly k → qTrF (kT s n ws) (nT s n) (mT s n) (pT2 s n) ly k S = qFo r4.1 (qFo (qA5 (kT s n ws) (nT s n) (pT2 s n) ly r4.2.1) (qFo r6.1 (qTk (kT s n ws) (pT2 s n) 11 r6.2.1))) → V G l (d + 29) iX4_readTreaty 144 [rf 5, (0, ly), (0, (S.nt : Int)), (0, ixv), rf (T + 9 + 3 * S.nt)] [] (K, D7, z) P := by
      intro D7 fr hRw hA7 h3N h3k hF
      have fD7 : FrC T D D7 := FrC_trans fD6 (FrR_C hnt fr)
      have hH7 := FrC_TpH hT fD7 hH
      have e9 : D7 T = D6 T := fr.1 T (by omega) (by omega) (by omega) (by omega) (by omega)
      have g7 : D7 (T + 9 + 3 * S.nt) 7 = 0 := by
        rw [hRw 7 (by decide) (by decide) (by decide) (by decide), hgA, hg0]
        split <;> (repeat rw [uF_ne (by decide)]) <;> rfl
      have g0 : D7 (T + 9 + 3 * S.nt) 0 = ixv := by
        rw [hRw 0 (by decide) (by decide) (by decide) (by decide), hgA, hg0]
        split <;> (repeat rw [uF_ne (by decide)]) <;> rfl
      have p4 := ps_ok (kd := (kT s n ws)) (nu := nT s n) (nm := mT s n) (pl := pT2 s n) (hn := S.hn) hpl hN i1 hix h3N
      refine s_al0 rfl ?_
      refine s_al4 rfl ?_
      refine s_callO rfl rfl (Or.inl rfl) rfl rfl (hk.at rfl rfl) (v_readParts (s := s) (ws := ws) (n := n) (T := T) (t := S.nt) (k := qT3 (kT s n ws) ly k) (nh := S.nh) (hn := S.hn) (own := ixv) hg hk hT hnt hH7 hA7 hN h3N (by rw [fD7.2.2 3 (by decide)]; exact h53) (by rw [e9]; exact qT.1) i1 i3 (fun i hi => by rw [fr.1 6 (by omega) (by omega) (by omega) (by omega) (by omega), q6]; exact a2 i hi) hix g0 g7 (fun y Da w1 w2 w3 w4 => ?_) (fun Da w1 w2 w3 => ?_))
      rotate_left
      · rw [h4p] at w2 w3
        show V G l (d + 29) iX4_readTreaty 150 [rf 5, (0, ly), (0, (S.nt : Int)), (0, ixv), rf (T + 9 + 3 * S.nt)] [(0, 0)] (K, Da, z) P
        refine s_zeq rfl (fun _ => ?_) (fun q => absurd rfl q)
        refine s_ic rfl ?_
        refine s_retz rfl rfl (Or.inl rfl) ?_
        exact bad _ Da (FrC_trans fD7 w1) w2 (by rw [hF]; exact qFo_l w3) w3
      rw [h4p] at y w2 w3 w4 p4
      obtain ⟨c1, c2, c3, c4, c5⟩ := p4.2 y
      rw [qFo_r y] at hF
      have frA := FrR_trans fr w1
      have hRwA : RwI T S.nt gB Da := by rw [hgB]; exact RwI_up hRw w2
      have fDa : FrC T D Da := FrC_trans fD6 (FrR_C hnt frA)
      show V G l (d + 29) iX4_readTreaty 150 [rf 5, (0, ly), (0, (S.nt : Int)), (0, ixv), rf (T + 9 + 3 * S.nt)] [(0, 1)] (K, Da, z) P
      refine s_zeq rfl ?_ ?_
      · intro h150
        exact absurd h150 (by decide)
      · intro h150
        refine s_il1 rfl ?_
        refine s_zeq rfl ?_ ?_
        · intro h154
          have na : ¬ hb = true := fun q => by rw [← hbe] at q; exact (of_decide_eq_true q).1 h154
          have e5 : qA5 (kT s n ws) (nT s n) (pT2 s n) ly r4.2.1 = 0 := if_neg (by rw [hbe]; exact na)
          have t5e : t5 = r4.2.1 := by rw [← h5e]; exact if_neg (by rw [hbe]; exact na)
          rw [e5, qFo_r rfl] at hF
          exact t166 Da frA w3 (by rw [hgC, if_neg na]; exact hRwA) (by rw [t5e]; exact w4) (by rw [t5e]; exact c3) (by rw [t5e]; omega) c5 hF
        · intro h154
          refine s_al0 rfl ?_
          refine s_al4 rfl ?_
          refine s_callO rfl rfl (Or.inl rfl) rfl rfl (hk.at rfl rfl) (v_readAgain (s := s) (ws := ws) (n := n) (T := T) (t := S.nt) (k := r4.2.1) hg hk hT hnt (FrC_TpH hT fDa hH) w4 (fun yb Db x1 x2 x3 x4 x5 => ?_) (fun Db x1 x2 x3 => ?_))
          rotate_left
          · show V G l (d + 29) iX4_readTreaty 163 [rf 5, (0, ly), (0, (S.nt : Int)), (0, ixv), rf (T + 9 + 3 * S.nt)] [(0, 0)] (K, Db, z) P
            have ely : ly = 1 := by omega
            rw [← ely] at x2 x3
            refine s_zeq rfl (fun _ => ?_) (fun q => absurd rfl q)
            refine s_ic rfl ?_
            refine s_retz rfl rfl (Or.inl rfl) ?_
            exact bad _ Db (FrC_trans fDa x1) x2 (by rw [hF]; exact qFo_l x3) x3
          show V G l (d + 29) iX4_readTreaty 163 [rf 5, (0, ly), (0, (S.nt : Int)), (0, ixv), rf (T + 9 + 3 * S.nt)] [(0, 1)] (K, Db, z) P
          have ely : (1 : Int) = ly := by omega
          rw [ely] at yb x5
          rw [h5e] at x5
          rw [qFo_r yb] at hF
          refine s_zeq rfl ?_ ?_
          · intro h163
            exact absurd h163 (by decide)
          · intro h163
            refine t166 Db (FrR_trans frA x1) (by unfold PaC at w3 ⊢; rw [x3, x4, x2]; refine ⟨?_, w3.2⟩; split; rw [uF_ne (by decide), uF_ne (by decide)]; exact w3.1; exact w3.1) ?_ x5 ?_ ?_ c5 hF
            · by_cases y2 : kT s n ws r4.2.1 = 22
              · have ha : hb = true := by rw [← hbe]; exact decide_eq_true ⟨by omega, y2⟩
                rw [hgC, if_pos ha]
                rw [if_pos y2] at x2
                exact RwI_up2 hRwA x2
              · have ha : ¬ hb = true := fun q => by rw [← hbe] at q; exact y2 (of_decide_eq_true q).2
                rw [hgC, if_neg ha]
                rw [if_neg y2] at x2
                exact RwI_keep hRwA x2
            · rw [← h5e]
              unfold qT5
              split
              · rename_i ha
                have ha2 := (of_decide_eq_true ha).2
                unfold qA5 at yb
                rw [if_pos ha] at yb
                unfold qAg at yb
                rw [qFo_0, qFo_0, qNm_z (hpl _), qTk_z (hpl _), qNm_z (hpl _)] at yb
                obtain ⟨u1, u2, u3⟩ := yb
                have e1 := tk_nx (kd := (kT s n ws)) hN (i := r4.2.1) c3 (by omega)
                have e2 := tk_nx (kd := (kT s n ws)) hN e1 (by omega)
                have e3 := tk_nx (kd := (kT s n ws)) hN (i := r4.2.1 + 2) e2 (by omega)
                exact tk_nx (kd := (kT s n ws)) hN (i := r4.2.1 + 3) e3 (by omega)
              · exact c3
            · rw [← h5e]; unfold qT5; split <;> omega
    refine s_al0 rfl ?_
    refine s_ic rfl ?_
    refine s_callO rfl rfl (Or.inl rfl) rfl rfl (hk.at rfl rfl) (v_take (s := s) (ws := ws) (n := n) (k := t1) hg hk hH6 hA6 (fun yb D7 xb hAb => ?_) (fun yb => ?_))
    rotate_left
    · show V G l (d + 29) iX4_readTreaty 128 [rf 5, (0, ly), (0, (S.nt : Int)), (0, ixv), rf (T + 9 + 3 * S.nt)] [(0, 0)] (K, _, z) P
      refine s_zeq rfl (fun _ => ?_) (fun q => absurd rfl q)
      refine s_ic rfl ?_
      refine s_retz rfl rfl (Or.inl rfl) ?_
      exact bad _ _ (FrC_trans fD6 (FrC_0 Fr0_fault)) aUp_at (by rw [hF, qTk_1 yb, qFo_l (by have := hpl t1; omega)]) (by have := hpl t1; omega)
    rw [qTk_0 yb, qFo_r rfl] at hF
    have s4 := tk_nx (kd := (kT s n ws)) hN ht1 (by omega)
    have fr7 : FrR T S.nt D6 D7 := FrR_0 xb
    have fD7 : FrC T D D7 := FrC_trans fD6 (FrR_C hnt fr7)
    have hRw7 : RwI T S.nt g0 D7 := RwI_keep hRw (xb.1 _ (by omega) (by omega))
    show V G l (d + 29) iX4_readTreaty 128 [rf 5, (0, ly), (0, (S.nt : Int)), (0, ixv), rf (T + 9 + 3 * S.nt)] [(0, 1)] (K, D7, z) P
    refine s_zeq rfl ?_ ?_
    · intro h128
      exact absurd h128 (by decide)
    · intro h128
      refine s_il1 rfl ?_
      refine s_zeq rfl ?_ ?_
      · intro h132
        have t3 : qT3 (kT s n ws) ly k = t1 + 1 := by rw [← ht1e]; exact if_pos h132
        rw [if_pos h132, qFo_r rfl] at hF
        exact t144 D7 fr7 (by rw [hgA, if_pos h132]; exact hRw7) (by rw [t3]; exact hAb) (by rw [t3]; exact s4) (by rw [t3]; omega) hF
      · intro h132
        have t3 : qT3 (kT s n ws) ly k = t1 + 4 := by rw [← ht1e]; exact if_neg h132
        rw [if_neg h132] at hF
        refine s_al0 rfl ?_
        refine s_al4 rfl ?_
        refine s_callO rfl rfl (Or.inl rfl) rfl rfl (hk.at rfl rfl) (v_readLimit (s := s) (ws := ws) (n := n) (T := T) (t := S.nt) (k := t1 + 1) hg hk hT hnt (FrC_TpH hT fD7 hH) hAb (fun yc D8 x1 x2 x3 x4 x5 => ?_) (fun D8 x1 x2 x3 => ?_))
        rotate_left
        · show V G l (d + 29) iX4_readTreaty 141 [rf 5, (0, ly), (0, (S.nt : Int)), (0, ixv), rf (T + 9 + 3 * S.nt)] [(0, 0)] (K, D8, z) P
          refine s_zeq rfl (fun _ => ?_) (fun q => absurd rfl q)
          refine s_ic rfl ?_
          refine s_retz rfl rfl (Or.inl rfl) ?_
          exact bad _ D8 (FrC_trans fD7 x1) x2 (by rw [hF]; exact qFo_l x3) x3
        show V G l (d + 29) iX4_readTreaty 141 [rf 5, (0, ly), (0, (S.nt : Int)), (0, ixv), rf (T + 9 + 3 * S.nt)] [(0, 1)] (K, D8, z) P
        rw [qFo_r yc] at hF
        unfold qLm at yc
        rw [qFo_0, qFo_0, qNm_z (hpl _), qTk_z (hpl _), qNm_z (hpl _)] at yc
        obtain ⟨u1, u2, u3⟩ := yc
        have s5 := tk_nx (kd := (kT s n ws)) hN s4 (by omega)
        have s6 := tk_nx (kd := (kT s n ws)) hN (i := t1 + 1 + 1) s5 (by omega)
        have s7 := tk_nx (kd := (kT s n ws)) hN (i := t1 + 1 + 2) s6 (by omega)
        refine s_zeq rfl ?_ ?_
        · intro h141
          exact absurd h141 (by decide)
        · intro h141
          exact t144 D8 (FrR_trans fr7 x1) (by rw [hgA, if_neg h132]; exact RwI_up2 hRw7 x2) (by rw [t3]; exact x5) (by rw [t3]; exact s7) (by rw [t3]; omega) hF
  refine VM_go (tg2 rfl) (Nat.le_of_ble_eq_true rfl) ?_
  refine s_al0 rfl ?_
  refine s_gr rfl (hk.at rfl rfl) rfl ?_
  rw [h53]
  refine s_gi rfl (KT hk hT) rfl ?_
  rw [a1]
  refine s_is2 rfl rfl ?_
  refine s_il2 rfl ?_
  refine s_ic rfl ?_
  refine s_clt rfl ?_ ?_
  · intro h11
    have n24 : ¬ 24 ≤ S.nt := by omega
    have hF : qTrF (kT s n ws) (nT s n) (mT s n) (pT2 s n) ly k S = qFo (qNn (kT s n ws) (mT s n) (pT2 s n) S.nh S.hn S.nt S.tn (k + 1)) (qFo (qTk (kT s n ws) (pT2 s n) 18 (k + 2)) (qFo (qHf (kT s n ws) (mT s n) (pT2 s n) S.nh S.hn (k + 3)) (qFo (qTk (kT s n ws) (pT2 s n) 10 t1) (qFo (if ly = 0 then 0 else qLm (kT s n ws) (nT s n) (pT2 s n) (t1 + 1)) (qFo r4.1 (qFo (qA5 (kT s n ws) (nT s n) (pT2 s n) ly r4.2.1) (qFo r6.1 (qTk (kT s n ws) (pT2 s n) 11 r6.2.1)))))))) := by rw [← h4e, ← h6e, ← ht1e]; exact if_neg n24
    refine s_al0 rfl ?_
    refine s_gf rfl (hk.at rfl rfl) rfl rfl ?_
    refine s_callO rfl rfl (Or.inl rfl) rfl rfl (hk.at rfl rfl) (v_adv (s := s) (ws := ws) (n := n) (k := k) hg hk hH hA (fun D1 gD1 hD1 hAD1 => ?_))
    have fD1 : FrC T D D1 := FrC_trans FrC_refl (FrC_0 (Fr0_tape gD1 hD1))
    have hHD1 := TpH_keep hH (gD1 3 (by decide)) (gD1 4 (by decide)) hD1
    show V G l (d + 29) iX4_readTreaty 27 [rf 5, (0, ly), (0, (S.nt : Int)), (9, 0), (9, 0)] [] (K, D1, z) P
    refine s_al0 rfl ?_
    refine s_callO rfl rfl (Or.inl rfl) rfl rfl (hk.at rfl rfl) (v_isNewName (s := s) (ws := ws) (n := n) (k := k + 1) (T := T) (nh := S.nh) (nt := S.nt) hk hHD1 hAD1 hT (by rw [gD1 5 (by decide)]; exact h53) (by rw [gD1 T (by omega)]; exact a0) i1 (by rw [gD1 T (by omega)]; exact a1) i2 (fun y1 y7 y2 => ?_) (fun y1 => ?_) (fun y1 y2 => ?_))
    rotate_left
    · show V G l (d + 29) iX4_readTreaty 31 [rf 5, (0, ly), (0, (S.nt : Int)), (9, 0), (9, 0)] [(0, 0)] (K, _, z) P
      refine s_zne rfl (fun q => absurd rfl q) (fun _ => ?_)
      refine s_ic rfl ?_
      refine s_retz rfl rfl (Or.inl rfl) ?_
      have e : qNn (kT s n ws) (mT s n) (pT2 s n) S.nh S.hn S.nt S.tn (k + 1) = 1 + 16 * pT2 s n (k + 1) := if_neg y1
      exact bad _ _ (FrC_trans fD1 (FrC_0 Fr0_fault)) aUp_at (by rw [hF, e, qFo_l (by have := hpl (k + 1); omega)]) (by have := hpl (k + 1); omega)
    · show V G l (d + 29) iX4_readTreaty 31 [rf 5, (0, ly), (0, (S.nt : Int)), (9, 0), (9, 0)] [(0, 0)] (K, _, z) P
      refine s_zne rfl (fun q => absurd rfl q) (fun _ => ?_)
      refine s_ic rfl ?_
      refine s_retz rfl rfl (Or.inl rfl) ?_
      rw [ix_eq y1 i3 (fun i hi => by rw [gD1 6 (by decide)]; exact a2 i hi), ix_eq y1 i5 (fun i hi => by rw [gD1 7 (by decide)]; exact a3 i hi)] at y2
      have e : qNn (kT s n ws) (mT s n) (pT2 s n) S.nh S.hn S.nt S.tn (k + 1) = 3 + 16 * pT2 s n (k + 1) := by unfold qNn; rw [if_pos y1, if_neg y2]
      exact bad _ _ (FrC_trans fD1 (FrC_0 Fr0_fault)) aUp_at (by rw [hF, e, qFo_l (by have := hpl (k + 1); omega)]) (by have := hpl (k + 1); omega)
    rw [ix_eq y1 i3 (fun i hi => by rw [gD1 6 (by decide)]; exact a2 i hi), ix_eq y1 i5 (fun i hi => by rw [gD1 7 (by decide)]; exact a3 i hi)] at y2
    have e : qNn (kT s n ws) (mT s n) (pT2 s n) S.nh S.hn S.nt S.tn (k + 1) = 0 := by unfold qNn; rw [if_pos y1, if_pos y2]
    rw [e, qFo_r rfl] at hF
    have s1 := tk_nx (kd := (kT s n ws)) hN hkN (by omega)
    show V G l (d + 29) iX4_readTreaty 31 [rf 5, (0, ly), (0, (S.nt : Int)), (9, 0), (9, 0)] [(0, 1)] (K, D1, z) P
    refine s_zne rfl ?_ ?_
    · intro h31
      refine s_al0 rfl ?_
      refine s_gf rfl (hk.at rfl rfl) rfl rfl ?_
      refine s_il2 rfl ?_
      refine s_al0 rfl ?_
      refine s_gf rfl (hk.at rfl rfl) rfl rfl ?_
      refine s_gl rfl (hk.at rfl rfl) rfl ?_
      rw [y7]
      refine s_last rfl (hk.at rfl rfl) (by omega) ?_
      generalize hD2 : aUp D1 7 (S.nt : Int) (lT3 s n (k + 1)) = D2
      have u2 : ∀ r, r ≠ 7 → D2 r = D1 r := fun r hr => by rw [← hD2, aUp_row hr]
      have fD2 : FrC T D D2 := FrC_trans fD1 (by rw [← hD2]; exact FrC_up hT (by omega))
      have hHD2 := FrC_TpH hT fD2 hH
      have hAD2 := AtC_keep hAD1 (u2 2 (by omega)) (u2 5 (by omega))
      refine s_al0 rfl ?_
      refine s_gf rfl (hk.at rfl rfl) rfl rfl ?_
      refine s_callO rfl rfl (Or.inl rfl) rfl rfl (hk.at rfl rfl) (v_adv (s := s) (ws := ws) (n := n) (k := k + 1) hg hk hHD2 hAD2 (fun D3 gD3 hD3 hAD3 => ?_))
      have fD3 : FrC T D D3 := FrC_trans fD2 (FrC_0 (Fr0_tape gD3 hD3))
      have hHD3 := TpH_keep hHD2 (gD3 3 (by decide)) (gD3 4 (by decide)) hD3
      show V G l (d + 29) iX4_readTreaty 56 [rf 5, (0, ly), (0, (S.nt : Int)), (9, 0), (9, 0)] [] (K, D3, z) P
      refine s_al0 rfl ?_
      refine s_ic rfl ?_
      refine s_callO rfl rfl (Or.inl rfl) rfl rfl (hk.at rfl rfl) (v_take (s := s) (ws := ws) (n := n) (k := k + 2) hg hk hHD3 hAD3 (fun yD4 D4 xD4 hAD4 => ?_) (fun yD4 => ?_))
      rotate_left
      · show V G l (d + 29) iX4_readTreaty 62 [rf 5, (0, ly), (0, (S.nt : Int)), (9, 0), (9, 0)] [(0, 0)] (K, _, z) P
        refine s_zne rfl (fun q => absurd rfl q) (fun _ => ?_)
        refine s_ic rfl ?_
        refine s_retz rfl rfl (Or.inl rfl) ?_
        exact bad _ _ (FrC_trans fD3 (FrC_0 Fr0_fault)) aUp_at (by rw [hF, qTk_1 yD4, qFo_l (by have := hpl (k + 2); omega)]) (by have := hpl (k + 2); omega)
      rw [qTk_0 yD4, qFo_r rfl] at hF
      have fD4 : FrC T D D4 := FrC_trans fD3 (FrC_0 xD4)
      have hHD4 := Fr0_TpH xD4 hHD3
      have s2 := tk_nx (kd := (kT s n ws)) hN (i := k + 2) s1 (by omega)
      have o4 : ∀ q, q ≠ 2 → q ≠ 5 → D4 q = D2 q := fun q q1 q2 => by rw [xD4.1 q q1 q2, gD3 q q1]
      show V G l (d + 29) iX4_readTreaty 62 [rf 5, (0, ly), (0, (S.nt : Int)), (9, 0), (9, 0)] [(0, 1)] (K, D4, z) P
      refine s_zne rfl ?_ ?_
      · intro h62
        refine s_al0 rfl ?_
        refine s_callO rfl rfl (Or.inl rfl) rfl rfl (hk.at rfl rfl) (v_houseHere (s := s) (ws := ws) (n := n) (k := k + 3) (T := T) (nh := S.nh) hk hHD4 hAD4 hT (by rw [fD4.2.2 3 (by decide)]; exact h53) (by rw [o4 T (by omega) (by omega), u2 T (by omega), gD1 T (by omega)]; exact a0) i1 (fun y3 y4 => ?_) (fun y3 => ?_) (fun y3 y4 => ?_))
        rotate_left
        · show V G l (d + 29) iX4_readTreaty 71 [rf 5, (0, ly), (0, (S.nt : Int)), (9, 0), (9, 0)] [(0, -1)] (K, _, z) P
          refine s_is3 rfl rfl ?_
          refine s_il3 rfl ?_
          refine s_ic rfl ?_
          refine s_cne rfl (fun q => absurd rfl q) (fun _ => ?_)
          refine s_ic rfl ?_
          refine s_retz rfl rfl (Or.inl rfl) ?_
          have e : qHf (kT s n ws) (mT s n) (pT2 s n) S.nh S.hn (k + 3) = 1 + 16 * pT2 s n (k + 3) := if_neg y3
          exact bad _ _ (FrC_trans fD4 (FrC_0 Fr0_fault)) aUp_at (by rw [hF, e, qFo_l (by have := hpl (k + 3); omega)]) (by have := hpl (k + 3); omega)
        · show V G l (d + 29) iX4_readTreaty 71 [rf 5, (0, ly), (0, (S.nt : Int)), (9, 0), (9, 0)] [(0, -1)] (K, _, z) P
          refine s_is3 rfl rfl ?_
          refine s_il3 rfl ?_
          refine s_ic rfl ?_
          refine s_cne rfl (fun q => absurd rfl q) (fun _ => ?_)
          refine s_ic rfl ?_
          refine s_retz rfl rfl (Or.inl rfl) ?_
          rw [ix_eq y3 i3 (fun i hi => by rw [o4 6 (by decide) (by decide), u2 6 (by decide), gD1 6 (by decide)]; exact a2 i hi)] at y4
          have e : qHf (kT s n ws) (mT s n) (pT2 s n) S.nh S.hn (k + 3) = 2 + 16 * pT2 s n (k + 3) := by unfold qHf; rw [if_pos y3, if_pos y4]
          exact bad _ _ (FrC_trans fD4 (FrC_0 Fr0_fault)) aUp_at (by rw [hF, e, qFo_l (by have := hpl (k + 3); omega)]) (by have := hpl (k + 3); omega)
        rw [ix_eq y3 i3 (fun i hi => by rw [o4 6 (by decide) (by decide), u2 6 (by decide), gD1 6 (by decide)]; exact a2 i hi)] at y4 ⊢
        have e : qHf (kT s n ws) (mT s n) (pT2 s n) S.nh S.hn (k + 3) = 0 := by unfold qHf; rw [if_pos y3, if_neg y4]
        rw [e, qFo_r rfl] at hF
        rw [hixe] at y4 ⊢
        have s3 := tk_nx (kd := (kT s n ws)) hN (i := k + 3) s2 (by omega)
        show V G l (d + 29) iX4_readTreaty 71 [rf 5, (0, ly), (0, (S.nt : Int)), (9, 0), (9, 0)] [(0, ixv)] (K, D4, z) P
        refine s_is3 rfl rfl ?_
        refine s_il3 rfl ?_
        refine s_ic rfl ?_
        refine s_cne rfl ?_ ?_
        · intro h74
          refine s_al0 rfl ?_
          refine s_gf rfl (hk.at rfl rfl) rfl rfl ?_
          refine s_callO rfl rfl (Or.inl rfl) rfl rfl (hk.at rfl rfl) (v_adv (s := s) (ws := ws) (n := n) (k := k + 3) hg hk hHD4 hAD4 (fun D5 gD5 hD5 hAD5 => ?_))
          have fD5 : FrC T D D5 := FrC_trans fD4 (FrC_0 (Fr0_tape gD5 hD5))
          have hHD5 := TpH_keep hHD4 (gD5 3 (by decide)) (gD5 4 (by decide)) hD5
          show V G l (d + 29) iX4_readTreaty 86 [rf 5, (0, ly), (0, (S.nt : Int)), (0, ixv), (9, 0)] [] (K, D5, z) P
          refine s_al0 rfl ?_
          refine s_gr rfl (hk.at rfl rfl) rfl ?_
          rw [show D5 5 3 = (T : Nat) by rw [fD5.2.2 3 (by decide)]; exact h53]
          refine s_il3 rfl ?_
          refine s_il1 rfl ?_
          have o5 : ∀ q, q ≠ 2 → q ≠ 5 → q ≠ 7 → D5 q = D q := fun q q1 q2 q3 => by rw [gD5 q q1, o4 q q1 q2, u2 q q3, gD1 q q1]
          have r7 : D5 7 = uF (D 7) S.nt (lT3 s n (k + 1)) := by rw [gD5 7 (by decide), o4 7 (by decide) (by decide), ← hD2, aUp_same, gD1 7 (by decide)]
          have la := (a4 ixv.toNat (by omega)).2
          rw [show ((ixv.toNat : Nat) : Int) = ixv by omega] at la
          refine s_callO rfl rfl (Or.inl rfl) rfl rfl (KT hk hT) (v_addTreaty (T := T) (nt := S.nt) (own := ixv) (ly := ly) hk hT (by rw [o5 T (by omega) (by omega) (by omega)]; exact a1) (by omega) ⟨by omega, by omega⟩ hly (by rw [o5 (T + 3) (by omega) (by omega) (by omega)]; rcases la with ⟨l1, -⟩ | ⟨a, l1, l2, -⟩; exact Or.inl l1; exact Or.inr ⟨a, l1, l2⟩) (fun D6 w1 w2 w3 w4 w5 => ?_))
          rw [o5 T (by omega) (by omega) (by omega)] at w2
          rw [o5 (T + 3) (by omega) (by omega) (by omega)] at w3 w4 w5
          have keep : ∀ q, q ≠ T → q ≠ T + 2 → q ≠ T + 3 → ¬ (∃ i, i ≤ S.nt ∧ q = T + 9 + 3 * i) → D6 q = D5 q := fun q q1 q2 q3 q4 => by
            rcases la with ⟨l1, -⟩ | ⟨a, l1, l2, -⟩
            · exact (w4 l1).2 q q1 q2 q3 (fun y => q4 ⟨S.nt, by omega, y⟩)
            · exact (w5 a l1 l2).2 q q1 q3 (fun y => q4 ⟨S.nt, by omega, y⟩) (fun y => q4 ⟨a, by omega, y⟩)
          have fD6 : FrC T D D6 := FrC_trans fD5 ⟨fun q q1 q2 q3 q4 q5 => keep q (by omega) (by omega) (by omega) (by rintro ⟨i, h1, h2⟩; omega), by rw [keep 2 (by omega) (by omega) (by omega) (by rintro ⟨i, h1, h2⟩; omega)], fun j _ => by rw [keep 5 (by omega) (by omega) (by omega) (by rintro ⟨i, h1, h2⟩; omega)]⟩
          have hHD6 := FrC_TpH hT fD6 hH
          have hAD6 := AtC_keep hAD5 (keep 2 (by omega) (by omega) (by omega) (by rintro ⟨i, h1, h2⟩; omega)) (keep 5 (by omega) (by omega) (by omega) (by rintro ⟨i, h1, h2⟩; omega))
          have e4 : D6 2 4 = kT s n ws (k + 4) := hAD6.2.2.1
          have hRw6 : RwI T S.nt (bgF ixv ly) D6 := w1
          have go := fun (Dx : Nat → Int → Int) (hx : ∀ q, q ≠ 2 → q ≠ T + 9 + 3 * S.nt → Dx q = D6 q) (fx : FrC T D Dx) => tail Dx (by omega) ⟨by omega, ix.2.1⟩ fx (by rw [hx 6 (by omega) (by omega), keep 6 (by omega) (by omega) (by omega) (by rintro ⟨i, h1, h2⟩; omega)]; exact o5 6 (by decide) (by decide) (by decide)) (by rw [hx 7 (by omega) (by omega), keep 7 (by omega) (by omega) (by omega) (by rintro ⟨i, h1, h2⟩; omega)]; exact r7) ⟨by rw [hx T (by omega) (by omega), w2, uF_ne (by decide)]; exact a0, by rw [hx T (by omega) (by omega), w2, uF_at]; rfl, by rw [hx T (by omega) (by omega), w2, uF_ne (by decide)]; exact a6⟩ (by rw [hx _ (by omega) (by omega)]; exact w3) (fun y => ⟨by rw [hx _ (by omega) (by omega), (w4 y).1, o5 _ (by omega) (by omega) (by omega)], fun i hi => by rw [hx _ (by omega) (by omega), (w4 y).2 _ (by omega) (by omega) (by omega) (by omega), o5 _ (by omega) (by omega) (by omega)]⟩) (fun a ha y => ⟨by rw [hx _ (by omega) (by omega), (w5 a ha y).2 _ (by omega) (by omega) (by omega) (by omega), o5 _ (by omega) (by omega) (by omega)], by rw [hx _ (by omega) (by omega), (w5 a ha y).1, o5 _ (by omega) (by omega) (by omega)], fun i hi hia => by rw [hx _ (by omega) (by omega), (w5 a ha y).2 _ (by omega) (by omega) (by omega) (by omega), o5 _ (by omega) (by omega) (by omega)]⟩) (fun i hi => ⟨by rw [hx _ (by omega) (by omega), keep _ (by omega) (by omega) (by omega) (by rintro ⟨i, h1, h2⟩; omega), o5 _ (by omega) (by omega) (by omega)], by rw [hx _ (by omega) (by omega), keep _ (by omega) (by omega) (by omega) (by rintro ⟨i, h1, h2⟩; omega), o5 _ (by omega) (by omega) (by omega)]⟩) (by rw [hx _ (by omega) (by omega), keep _ (by omega) (by omega) (by omega) (by rintro ⟨i, h1, h2⟩; omega), o5 _ (by omega) (by omega) (by omega)]) ⟨by rw [hx _ (by omega) (by omega), keep _ (by omega) (by omega) (by omega) (by rintro ⟨i, h1, h2⟩; omega), o5 _ (by omega) (by omega) (by omega)], by rw [hx _ (by omega) (by omega), keep _ (by omega) (by omega) (by omega) (by rintro ⟨i, h1, h2⟩; omega), o5 _ (by omega) (by omega) (by omega)], by rw [hx _ (by omega) (by omega), keep _ (by omega) (by omega) (by omega) (by rintro ⟨i, h1, h2⟩; omega), o5 _ (by omega) (by omega) (by omega)]⟩
          show V G l (d + 29) iX4_readTreaty 95 [rf 5, (0, ly), (0, (S.nt : Int)), (0, ixv), (9, 0)] [rf (T + 9 + 3 * S.nt)] (K, D6, z) P
          refine s_as4 rfl rfl ?_
          refine s_al0 rfl ?_
          refine s_gf rfl (hk.at rfl rfl) rfl rfl ?_
          refine s_gi rfl (hk.at rfl rfl) rfl ?_
          rw [e4]
          refine s_ic rfl ?_
          refine s_cne rfl ?_ ?_
          · intro h106
            have t1e : t1 = k + 4 := by rw [← ht1e]; exact if_neg h106
            refine go D6 (fun _ _ _ => rfl) fD6 ?_ (by rw [t1e]; exact hAD6) (by rw [t1e]; omega) (by rw [t1e]; omega) hF
            rw [hg0, if_neg h106]
            intro j j1 j2 j8 j9
            by_cases q : j = 2
            · subst q; rw [uF_at, hRw6 2 j1 j2 j8 j9]; rfl
            · rw [uF_ne q]; exact hRw6 j j1 j2 j8 j9
          · intro h106
            have t1e : t1 = k + 5 := by rw [← ht1e]; exact if_pos h106
            refine s_al4 rfl ?_
            refine s_ic rfl ?_
            refine s_pz rfl (KTt hk hT (show S.nt < 24 by omega)).1 rfl (Or.inr rfl) ?_
            generalize hD7 : aUp D6 (T + 9 + 3 * S.nt) 2 1 = D7
            have u7 : ∀ r, r ≠ T + 9 + 3 * S.nt → D7 r = D6 r := fun r hr => by rw [← hD7, aUp_row hr]
            have fD7 : FrC T D D7 := FrC_trans fD6 (by rw [← hD7]; exact FrC_up hT (by omega))
            have hHD7 := FrC_TpH hT fD7 hH
            have hAD7 := AtC_keep hAD6 (u7 2 (by omega)) (u7 5 (by omega))
            refine s_al0 rfl ?_
            refine s_gf rfl (hk.at rfl rfl) rfl rfl ?_
            refine s_callO rfl rfl (Or.inl rfl) rfl rfl (hk.at rfl rfl) (v_adv (s := s) (ws := ws) (n := n) (k := k + 4) hg hk hHD7 hAD7 (fun D8 gD8 hD8 hAD8 => ?_))
            have fD8 : FrC T D D8 := FrC_trans fD7 (FrC_0 (Fr0_tape gD8 hD8))
            have hHD8 := TpH_keep hHD7 (gD8 3 (by decide)) (gD8 4 (by decide)) hD8
            show V G l (d + 29) iX4_readTreaty 122 [rf 5, (0, ly), (0, (S.nt : Int)), (0, ixv), rf (T + 9 + 3 * S.nt)] [] (K, D8, z) P
            have s4 := tk_nx (kd := (kT s n ws)) hN (i := k + 4) s3 (by omega)
            refine go D8 (fun q q1 q2 => by rw [gD8 q q1, u7 q q2]) fD8 ?_ (by rw [t1e]; exact hAD8) (by rw [t1e]; exact s4) (by rw [t1e]; omega) hF
            rw [hg0, if_pos h106]
            exact RwI_up hRw6 (by rw [gD8 _ (by omega), ← hD7, aUp_same])
        · intro h74
          exact absurd h74 y4
      · intro h62
        exact absurd h62 (by decide)
    · intro h31
      exact absurd h31 (by decide)
  · intro h11
    have hF : qTrF (kT s n ws) (nT s n) (mT s n) (pT2 s n) ly k S = 5 + 16 * pT2 s n k := if_pos (by omega)
    refine s_al0 rfl ?_
    refine s_ic rfl ?_
    refine s_callO rfl rfl (Or.inl rfl) rfl rfl (hk.at rfl rfl) (v_fail (c := 5) hk hH hA (by decide) ?_)
    show V G l (d + 29) iX4_readTreaty 19 _ [(0, 0)] (K, _, z) P
    refine s_retz rfl rfl (Or.inl rfl) ?_
    exact bad _ _ (FrC_0 Fr0_fault) aUp_at hF (by have := hpl k; omega)
end
