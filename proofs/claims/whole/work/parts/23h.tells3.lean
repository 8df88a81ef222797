/-! ===== split, purse, feed, word ===== -/
section
variable {G : aCX} {l : Launch} {s0 : Nat} {st : aSt}
theorem g_split {q y : Int} (hy : y = 0 ∨ y = 1) (hG : GIv s0 st) : VM G l 31 iX11_split [rf 1, (0, q), (0, y)] st (fun w st1 => Kn st1.1 ∧ VM G l 31 iX12_split [rf 210, (0, q), (0, y)] st1 (fun w' st2 => w' = w ∧ GIv s0 st2)) := by
  obtain ⟨K, D, z⟩ := st
  obtain ⟨m, T, T2, nt, n, wo, cn, cc, hX⟩ := hG
  have hX : giX s0 m T T2 nt n wo cn cc K D z := hX
  have hT := hX.1.2.2.2.1
  have hT2 : T = 8 ∨ T = 129 := hT
  have hV := hX.2.1.2.1
  have hB := hX.2.1.1
  have nl := giX_nl hX
  refine v_split hX.1.1 hy nl.1.2 (fun hq => ?_) (fun hn => ?_)
  · refine ⟨hX.1.1, ?_⟩
    show VM G l 31 iX12_split [rf 210, (0, q), (0, y)] (K, FgA (aUp D 95 q y), z) _
    have e37 : FgA (aUp D 95 q y) 210 37 = D 89 0 := by rw [FgA_row (by decide) (by decide), aUp_row (by decide)]; exact hB.1.1
    refine u_split hX.1.1 hy (by rw [e37]; exact nl.1.2) (fun _ => ⟨rfl, ?_⟩) (fun hn => absurd (by rw [e37]; exact hq) hn)
    have row : ∀ r, r ≠ 1 → r ≠ 116 → r ≠ 210 → r ≠ 243 → r ≠ 95 → aUp (aUp (FgA (aUp D 95 q y)) 210 0 0) 243 q y r = D r := fun r q1 q2 q3 q4 q5 => by rw [aUp_row q4, aUp_row q3, FgA_row q1 q2, aUp_row q5]
    have c1 : ∀ j : Int, j ≠ 10 → j ≠ 11 → aUp (aUp (FgA (aUp D 95 q y)) 210 0 0) 243 q y 1 j = D 1 j := fun j q1 q2 => by rw [aUp_row (by decide), aUp_row (by decide), FgA_1 q1 q2, aUp_row (by decide)]
    have cz : aUp (aUp (FgA (aUp D 95 q y)) 210 0 0) 243 q y 1 = FgA (aUp D 95 q y) 1 := by rw [aUp_row (by decide), aUp_row (by decide)]
    have cz2 : aUp (aUp (FgA (aUp D 95 q y)) 210 0 0) 243 q y 116 = FgA (aUp D 95 q y) 116 := by rw [aUp_row (by decide), aUp_row (by decide)]
    obtain ⟨f1, f2, f3, f4⟩ := FgA_z (D := aUp D 95 q y)
    rw [← cz] at f1 f2
    rw [← cz2] at f3 f4
    have c210 : ∀ j : Int, j ≠ 0 → aUp (aUp (FgA (aUp D 95 q y)) 210 0 0) 243 q y 210 j = D 210 j := fun j q1 => by rw [aUp_row (by decide), aUp_ne q1, FgA_row (by decide) (by decide), aUp_row (by decide)]
    have c95 : aUp (aUp (FgA (aUp D 95 q y)) 210 0 0) 243 q y 95 = uF (D 95) q y := by rw [aUp_row (by decide), aUp_row (by decide), FgA_row (by decide) (by decide), aUp_same]
    have c243 : aUp (aUp (FgA (aUp D 95 q y)) 210 0 0) 243 q y 243 = uF (D 243) q y := by rw [aUp_same, aUp_row (by decide), FgA_row (by decide) (by decide), aUp_row (by decide)]
    generalize aUp (aUp (FgA (aUp D 95 q y)) 210 0 0) 243 q y = E at row c1 f1 f2 f3 f4 c210 c95 c243 ⊢
    have rw1 : ∀ r, (r = 2 ∨ r = 3 ∨ r = 4 ∨ r = 5 ∨ (89 ≤ r ∧ r ≤ 94) ∨ (96 ≤ r ∧ r ≤ 100) ∨ r = 122 ∨ r = 211 ∨ r = 215 ∨ (238 ≤ r ∧ r ≤ 242) ∨ (244 ≤ r ∧ r ≤ 247) ∨ r = 272) → E r = D r := fun r q => row r (by omega) (by omega) (by omega) (by omega) (by omega)
    obtain ⟨v1, v2, v3, v4⟩ := id hV
    have e89 := rw1 89 (by decide)
    refine GIv_mk (giX_mk2 (wo' := wo) hX (fun r q => row r (by omega) (by omega) (by omega) (by omega) (by omega)) (c210 10 (by decide)) (c1 6 (by decide) (by decide)) (by rw [rw1 5 (by decide)]) (by rw [c1 7 (by decide) (by decide)]; exact Int.le_refl _) ⟨?_, ?_, ?_⟩ ⟨⟨?_, ?_⟩, fun x q1 q2 => ?_, ?_⟩ (CpV_keep (c1 7 (by decide) (by decide)) (c1 8 (by decide) (by decide)) (c1 9 (by decide) (by decide)) (c210 35 (by decide)) (c210 36 (by decide)) (rw1 244 (by decide)) hV) (giT_keep (rw1 3 (by decide)) (rw1 4 (by decide)) (rw1 211 (by decide)) (rw1 215 (by decide)) (by rw [rw1 2 (by decide)]) (c210 2 (by decide)) hX.2.2.1) ?_ (giC_zero f1 f2 f3 f4))
    · have h := hX.1.2.2.2.2.1
      unfold ChR at h ⊢
      rw [e89, rw1 100 (by decide), rw1 97 (by decide)]; exact h
    · have h := hX.1.2.2.2.2.2.1
      unfold BkB at h ⊢
      rw [e89, rw1 90 (by decide), rw1 91 (by decide), rw1 92 (by decide), rw1 93 (by decide), rw1 94 (by decide), rw1 99 (by decide), c95]
      refine ⟨fun x q1 q2 => ?_, h.2⟩
      obtain ⟨a1, a2, a3, a4, a5, a6⟩ := h.1 x q1 q2
      refine ⟨a1, a2, a3, a4, a5, ?_⟩
      by_cases e : x = q
      · rw [e, uF_at]; exact hy
      · rw [uF_ne e]; exact a6
    · have h := hX.1.2.2.2.2.2.2.1
      unfold OrdC at h ⊢
      rw [e89, rw1 91 (by decide), rw1 96 (by decide)]; exact h
    · rw [c210 37 (by decide), e89]; exact hB.1.1
    · rw [c210 45 (by decide), e89]; exact hB.1.2
    · rw [e89] at q2
      obtain ⟨a1, a2, a3, a4, a5, a6⟩ := hB.2.1 x q1 q2
      rw [rw1 238 (by decide), rw1 239 (by decide), rw1 240 (by decide), rw1 241 (by decide), rw1 242 (by decide), rw1 90 (by decide), rw1 91 (by decide), rw1 92 (by decide), rw1 93 (by decide), rw1 94 (by decide), c243, c95]
      refine ⟨a1, a2, a3, a4, a5, ?_⟩
      by_cases e : x = q
      · rw [e, uF_at, uF_at]
      · rw [uF_ne e, uF_ne e]; exact a6
    · rw [e89, rw1 245 (by decide), rw1 246 (by decide), rw1 247 (by decide), rw1 98 (by decide), rw1 99 (by decide)]; exact hB.2.2
    · obtain ⟨u1, u2, u3, u4⟩ := hX.2.2.2.2.1
      unfold giP
      rw [rw1 122 (by decide), rw1 272 (by decide), e89, rw1 98 (by decide), c1 7 (by decide) (by decide), c243]
      refine ⟨u1, u2, u3, fun x hx => ?_⟩
      rw [uF_ne (by omega)]; exact u4 x hx
  · exact ⟨hX.1.1, u_split hX.1.1 hy (by rw [hB.1.1]; exact nl.1.2) (fun hq => absurd (by rw [hB.1.1] at hq; exact hq) hn) (fun _ => ⟨rfl, GIv_mk (giX_thr hX)⟩)⟩
theorem g_purse {h x : Int} (hG : GIv s0 st) : VM G l 31 iX11_purse [rf 1, (0, h), (0, x)] st (fun w st1 => Kn st1.1 ∧ VM G l 31 iX12_purse [rf 210, (0, h), (0, x)] st1 (fun w' st2 => w' = w ∧ GIv s0 st2)) := by
  obtain ⟨K, D, z⟩ := st
  obtain ⟨m, T, T2, nt, n, wo, cn, cc, hX⟩ := hG
  have hX : giX s0 m T T2 nt n wo cn cc K D z := hX
  have hT := hX.1.2.2.2.1
  have hT2 : T = 8 ∨ T = 129 := hT
  refine v_purse hX.1.1 (fun hq => ?_) (fun hn => ?_)
  · refine ⟨hX.1.1, ?_⟩
    refine u_purse hX.1.1 (fun _ => ⟨rfl, ?_⟩) (fun hn => absurd hq hn)
    have row : ∀ r, r ≠ 1 → r ≠ 122 → r ≠ 210 → r ≠ 272 → aUp (aUp (aUp (aUp D 122 h x) 1 11 0) 210 0 0) 272 h x r = D r := fun r q1 q2 q3 q4 => by rw [aUp_row q4, aUp_row q3, aUp_row q1, aUp_row q2]
    have c1 : ∀ j : Int, j ≠ 11 → aUp (aUp (aUp (aUp D 122 h x) 1 11 0) 210 0 0) 272 h x 1 j = D 1 j := fun j q1 => by rw [aUp_row (by decide), aUp_row (by decide), aUp_ne q1, aUp_row (by decide)]
    have c11 : aUp (aUp (aUp (aUp D 122 h x) 1 11 0) 210 0 0) 272 h x 1 11 = 0 := by rw [aUp_row (by decide), aUp_row (by decide), aUp_at]
    have c210 : ∀ j : Int, j ≠ 0 → aUp (aUp (aUp (aUp D 122 h x) 1 11 0) 210 0 0) 272 h x 210 j = D 210 j := fun j q1 => by rw [aUp_row (by decide), aUp_ne q1, aUp_row (by decide), aUp_row (by decide)]
    have c122 : aUp (aUp (aUp (aUp D 122 h x) 1 11 0) 210 0 0) 272 h x 122 = uF (D 122) h x := by rw [aUp_row (by decide), aUp_row (by decide), aUp_row (by decide), aUp_same]
    have c272 : aUp (aUp (aUp (aUp D 122 h x) 1 11 0) 210 0 0) 272 h x 272 = uF (D 272) h x := by rw [aUp_same, aUp_row (by decide), aUp_row (by decide), aUp_row (by decide)]
    generalize aUp (aUp (aUp (aUp D 122 h x) 1 11 0) 210 0 0) 272 h x = E at row c1 c11 c210 c122 c272 ⊢
    have rw1 : ∀ r, r ≠ 1 → r ≠ 122 → r ≠ 210 → r ≠ 272 → E r = D r := row
    have inR_row : ∀ r, inR T r → E r = D r := fun r q => row r (by unfold inR at q; omega) (by unfold inR at q; omega) (by unfold inR at q; omega) (by unfold inR at q; omega)
    have ev : vwC E = vwC D := by
      show (if E 1 8 = -1 then E 1 7 else E 1 8) = if D 1 8 = -1 then D 1 7 else D 1 8
      rw [c1 8 (by decide), c1 7 (by decide)]
    have hE : giE D E wo T nt cn cc (vwC D) (vwC E) := by rw [ev]; exact giE_of hX.1.2.2.2 inR_row
    have hs : stC E = stC D := by unfold stC; rw [c1 9 (by decide)]
    obtain ⟨b1, b2, b3, -⟩ := hX.2.2.2.2.2
    have r16 := row 116 (by decide) (by decide) (by decide) (by decide)
    refine GIv_mk (giX_mk2 hX (fun r q => row r (by omega) (by omega) (by omega) (by omega)) (c210 10 (by decide)) (c1 6 (by decide)) (by rw [row 5 (by decide) (by decide) (by decide) (by decide)]) (by rw [c1 7 (by decide)]; exact Int.le_refl _) (Bk_keep (fun r q1 q2 => row r (by omega) (by omega) (by omega) (by omega)) hX.1.2.2.2.2.1 hX.1.2.2.2.2.2.1 hX.1.2.2.2.2.2.2.1) (CpB_keep (fun r q => row r (by omega) (by omega) (by omega) (by omega)) (c210 37 (by decide)) (c210 45 (by decide)) hX.2.1.1) (CpV_keep (c1 7 (by decide)) (c1 8 (by decide)) (c1 9 (by decide)) (c210 35 (by decide)) (c210 36 (by decide)) (row 244 (by decide) (by decide) (by decide) (by decide)) hX.2.1.2.1) (giT_keep (row 3 (by decide) (by decide) (by decide) (by decide)) (row 4 (by decide) (by decide) (by decide) (by decide)) (row 211 (by decide) (by decide) (by decide) (by decide)) (row 215 (by decide) (by decide) (by decide) (by decide)) (by rw [row 2 (by decide) (by decide) (by decide) (by decide)]) (c210 2 (by decide)) hX.2.2.1) ?_ ⟨chR_keep hX.1.2.2.2 hE hs (Nat.le_refl _) (c1 10 (by decide)) (fun r q => row r (by unfold ctR at q; omega) (by unfold ctR at q; omega) (by unfold ctR at q; omega) (by unfold ctR at q; omega)) b1, chS_keep hX.1.2.2.2 hE hs (by rw [r16]) (row 117 (by decide) (by decide) (by decide) (by decide)) b2, chW_keep hX.1.2.2.2 hE hs (by rw [r16]) (by rw [r16]) (row 120 (by decide) (by decide) (by decide) (by decide)) b3, Or.inl c11⟩)
    obtain ⟨u1, u2, u3, u4⟩ := hX.2.2.2.2.1
    unfold giP
    rw [c122, c272, row 89 (by decide) (by decide) (by decide) (by decide), row 98 (by decide) (by decide) (by decide) (by decide), c1 7 (by decide), row 243 (by decide) (by decide) (by decide) (by decide)]
    refine ⟨fun a ha => ?_, fun a ha => ?_, u3, u4⟩
    · by_cases e : (a : Int) = h
      · rw [e, uF_at, uF_at]
      · rw [uF_ne e, uF_ne e]; exact u1 a ha
    · by_cases e : (a : Int) = h
      · rw [e, uF_at]; exact hq.2
      · rw [uF_ne e]; exact u2 a ha
  · exact ⟨hX.1.1, u_purse hX.1.1 (fun hq => absurd hq hn) (fun _ => ⟨rfl, GIv_mk (giX_thr hX)⟩)⟩
theorem feF_same {a b c : Int} {t u : (Int → Int) × Nat} (h2 : t.2 = u.2) (h1 : ∀ i : Nat, i < t.2 → t.1 i = u.1 i) : (feF a b c t).2 = (feF a b c u).2 ∧ ∀ i : Nat, i < (feF a b c t).2 → (feF a b c t).1 i = (feF a b c u).1 i := by
  obtain ⟨x1, x2⟩ := adF_same (a := a) h2 h1 8
  obtain ⟨y1, y2⟩ := adF_same (a := b) x1 x2 8
  exact adF_same (a := c) y1 y2 8
theorem g_feed {a b c : Int} (hG : GIv s0 st) : VM G l 31 iX11_feed [rf 1, (1, a), (1, b), (1, c)] st (fun w st1 => Kn st1.1 ∧ VM G l 31 iX12_feed [rf 210, (1, a), (1, b), (1, c)] st1 (fun w' st2 => w' = w ∧ GIv s0 st2)) := by
  obtain ⟨K, D, z⟩ := st
  obtain ⟨m, T, T2, nt, n, wo, cn, cc, hX⟩ := hG
  have hX : giX s0 m T T2 nt n wo cn cc K D z := hX
  have hT := hX.1.2.2.2.1
  have hT2 : T = 8 ∨ T = 129 := hT
  obtain ⟨t1, t2, t3, t4, t5, t6⟩ := hX.2.2.1
  have sg : SgI (feF a b c (D 3, n)) := adF_SgI (adF_SgI (adF_SgI ⟨t3, fun i hi => (t4 i hi).2⟩ 8) 8) 8
  refine v_feed (t := (D 3, n)) hX.1.1 rfl t1 t3 (fun D1 f1 => ?_)
  have e211 : D1 211 = D 211 := f1.1 211 (by decide) (by decide)
  have e210 : D1 210 = D 210 := f1.1 210 (by decide) (by decide)
  refine ⟨hX.1.1, ?_⟩
  refine u_feed (t := (D1 211, n)) hX.1.1 rfl (by rw [e210]; exact t2) t3 (fun E f2 => ?_)
  obtain ⟨s1, s2⟩ := feF_same (a := a) (b := b) (c := c) (t := (D 3, n)) (u := (D1 211, n)) rfl (fun i hi => by rw [e211]; exact (t4 i hi).1)
  refine ⟨by rw [s1], ?_⟩
  obtain ⟨g1, g2, g3, g4⟩ := f1
  obtain ⟨k1, k2, k3, k4⟩ := f2
  have row : ∀ r, r ≠ 2 → r ≠ 3 → r ≠ 210 → r ≠ 211 → E r = D r := fun r q1 q2 q3 q4 => by rw [k1 r q3 q4, aUp_row q3, g1 r q1 q2]
  have c210 : ∀ j : Int, j ≠ 0 → j ≠ 2 → E 210 j = D 210 j := fun j q1 q2 => by rw [k2 j q2, aUp_ne q1, e210]
  have e1 := row 1 (by decide) (by decide) (by decide) (by decide)
  have inR_row : ∀ r, inR T r → E r = D r := fun r q => row r (by unfold inR at q; omega) (by unfold inR at q; omega) (by unfold inR at q; omega) (by unfold inR at q; omega)
  have ev : vwC E = vwC D := by unfold vwC; rw [e1]
  have hs : stC E = stC D := by unfold stC; rw [e1]
  have hE : giE D E wo T nt cn cc (vwC D) (vwC E) := by rw [ev]; exact giE_of hX.1.2.2.2 inR_row
  refine GIv_mk (giX_mk2 (n' := (feF a b c (D 3, n)).2) hX (fun r q => row r (by omega) (by omega) (by omega) (by omega)) (c210 10 (by decide) (by decide)) (by rw [e1]) (by rw [row 5 (by decide) (by decide) (by decide) (by decide)]) (by rw [e1]; exact Int.le_refl _) (Bk_keep (fun r q1 q2 => row r (by omega) (by omega) (by omega) (by omega)) hX.1.2.2.2.2.1 hX.1.2.2.2.2.2.1 hX.1.2.2.2.2.2.2.1) (CpB_keep (fun r q => row r (by omega) (by omega) (by omega) (by omega)) (c210 37 (by decide) (by decide)) (c210 45 (by decide) (by decide)) hX.2.1.1) (CpV_keep (by rw [e1]) (by rw [e1]) (by rw [e1]) (c210 35 (by decide) (by decide)) (c210 36 (by decide) (by decide)) (row 244 (by decide) (by decide) (by decide) (by decide)) hX.2.1.2.1) ⟨?_, ?_, sg.1, fun i hi => ?_, ?_, ?_⟩ (giP_keep (row 122 (by decide) (by decide) (by decide) (by decide)) (row 272 (by decide) (by decide) (by decide) (by decide)) (row 89 (by decide) (by decide) (by decide) (by decide)) (row 98 (by decide) (by decide) (by decide) (by decide)) (row 243 (by decide) (by decide) (by decide) (by decide)) (by rw [e1]; exact Int.le_refl _) hX.2.2.2.2.1) (giC_keep hX.1.2.2.2 hE hs (row 272 (by decide) (by decide) (by decide) (by decide)) (Nat.le_refl _) ⟨fun r q => row r (by unfold ctR at q; omega) (by unfold ctR at q; omega) (by unfold ctR at q; omega) (by unfold ctR at q; omega), by rw [e1], by rw [e1]⟩ hX.2.2.2.2.2))
  · rw [k1 2 (by decide) (by decide), aUp_row (by decide)]; exact g4
  · rw [k4, s1]
  · rw [k1 3 (by decide) (by decide), aUp_row (by decide), g3, k3]
    exact ⟨s2 i hi, sg.2 i hi⟩
  · rw [row 4 (by decide) (by decide) (by decide) (by decide)]; exact t5
  · rw [row 215 (by decide) (by decide) (by decide) (by decide)]; exact t6
end
