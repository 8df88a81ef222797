/-! ===== days, view, split, leave, purse ===== -/
section
variable {G : aCX} {l : Launch} {s0 : Nat} {st : aSt}
theorem g_days {x : Int} (hG : GIv s0 st) : VM G l 31 iX11_days [rf 1, (0, x)] st (fun w st1 => Kn st1.1 ∧ VM G l 31 iX12_days [rf 210, (0, x)] st1 (fun w' st2 => w' = w ∧ GIv s0 st2)) := by
  obtain ⟨K, D, z⟩ := st
  obtain ⟨m, T, T2, nt, n, wo, cn, cc, hX⟩ := hG
  have hX : giX s0 m T T2 nt n wo cn cc K D z := hX
  have hT := hX.1.2.2.2.1
  have hT2 : T = 8 ∨ T = 129 := hT
  have hV := hX.2.1.2.1
  obtain ⟨⟨v1, v2⟩, v3, v4, v5⟩ := id hV
  refine v_days hX.1.1 v3 (fun hy => ?_) (fun hn => ?_)
  · have e35 : aUp D 1 7 (D 1 7 + x) 210 35 = D 1 7 := by rw [aUp_row (by decide)]; exact v1
    refine ⟨hX.1.1, ?_⟩
    refine u_days hX.1.1 (by rw [e35]; exact v3) (fun _ => ⟨by rw [e35], ?_⟩) (fun hn => absurd (by rw [e35]; exact hy) hn)
    rw [e35]
    have row : ∀ r, r ≠ 1 → r ≠ 210 → aUp (aUp (aUp D 1 7 (D 1 7 + x)) 210 0 0) 210 35 (D 1 7 + x) r = D r := fun r q1 q2 => by rw [aUp_row q2, aUp_row q2, aUp_row q1]
    have c1 : ∀ j : Int, j ≠ 7 → aUp (aUp (aUp D 1 7 (D 1 7 + x)) 210 0 0) 210 35 (D 1 7 + x) 1 j = D 1 j := fun j q => by rw [aUp_row (by decide), aUp_row (by decide), aUp_ne q]
    have c7 : aUp (aUp (aUp D 1 7 (D 1 7 + x)) 210 0 0) 210 35 (D 1 7 + x) 1 7 = D 1 7 + x := by rw [aUp_row (by decide), aUp_row (by decide), aUp_at]
    have c210 : ∀ j : Int, j ≠ 0 → j ≠ 35 → aUp (aUp (aUp D 1 7 (D 1 7 + x)) 210 0 0) 210 35 (D 1 7 + x) 210 j = D 210 j := fun j q1 q2 => by rw [aUp_ne q2, aUp_ne q1, aUp_row (by decide)]
    have c35 : aUp (aUp (aUp D 1 7 (D 1 7 + x)) 210 0 0) 210 35 (D 1 7 + x) 210 35 = D 1 7 + x := aUp_at
    generalize aUp (aUp (aUp D 1 7 (D 1 7 + x)) 210 0 0) 210 35 (D 1 7 + x) = E at row c1 c7 c210 c35 ⊢
    have inR_row : ∀ r, inR T r → E r = D r := fun r q => row r (by unfold inR at q; omega) (by unfold inR at q; omega)
    have hE : giE D E wo T nt cn cc (vwC D) (vwC E) := by
      by_cases q : D 1 8 = -1
      · have h1 : vwC D = D 1 7 := if_pos q
        have h2 : vwC E = D 1 7 + x := by
          show (if E 1 8 = -1 then E 1 7 else E 1 8) = _
          rw [c1 8 (by decide), if_pos q, c7]
        rw [h1, h2]
        exact giE_later hX.1.2.2.2 inR_row (by omega) (fun k hk => (hX.2.2.2.2.1.2.2.1 k hk).1) (fun t ht => by
          obtain ⟨x1, -, -, x4⟩ := hX.2.1.2.2.2.1 t ht
          omega)
      · have h2 : vwC E = vwC D := by
          show (if E 1 8 = -1 then E 1 7 else E 1 8) = if D 1 8 = -1 then D 1 7 else D 1 8
          rw [c1 8 (by decide), if_neg q, if_neg q]
        rw [h2]
        exact giE_of hX.1.2.2.2 inR_row
    have hs : stC E = stC D := by unfold stC; rw [c1 9 (by decide)]
    have h7 : D 1 7 ≤ E 1 7 := by omega
    have e2 := row 2 (by decide) (by decide)
    have e5 := row 5 (by decide) (by decide)
    refine GIv_mk (giX_mk2 hX (fun r q => row r (by omega) (by omega)) (c210 10 (by decide) (by decide)) (c1 6 (by decide)) (by rw [e5]) h7 (Bk_keep (fun r q1 q2 => row r (by omega) (by omega)) hX.1.2.2.2.2.1 hX.1.2.2.2.2.2.1 hX.1.2.2.2.2.2.2.1) (CpB_keep (fun r q => row r (by omega) (by omega)) (c210 37 (by decide) (by decide)) (c210 45 (by decide) (by decide)) hX.2.1.1) ⟨⟨?_, ?_⟩, ?_, ?_, ?_⟩ (giT_keep (row 3 (by decide) (by decide)) (row 4 (by decide) (by decide)) (row 211 (by decide) (by decide)) (row 215 (by decide) (by decide)) (by rw [e2]) (c210 2 (by decide) (by decide)) hX.2.2.1) (giP_keep (row 122 (by decide) (by decide)) (row 272 (by decide) (by decide)) (row 89 (by decide) (by decide)) (row 98 (by decide) (by decide)) (row 243 (by decide) (by decide)) h7 hX.2.2.2.2.1) (giC_keep hX.1.2.2.2 hE hs (row 272 (by decide) (by decide)) (Nat.le_refl _) ⟨fun r q => row r (by unfold ctR at q; omega) (by unfold ctR at q; omega), c1 10 (by decide), c1 11 (by decide)⟩ hX.2.2.2.2.2))
    · rw [c35, c7]
    · rw [c210 36 (by decide) (by decide), c1 8 (by decide)]; exact v2
    · rw [c7]; omega
    · rw [c1 8 (by decide)]; omega
    · rw [row 244 (by decide) (by decide), c1 9 (by decide)]; exact v5
  · exact ⟨hX.1.1, u_days hX.1.1 (by rw [v1]; exact v3) (fun hy => absurd (by rw [v1] at hy; exact hy) hn) (fun _ => ⟨rfl, GIv_mk (giX_thr hX)⟩)⟩
theorem g_view {x : Int} (hG : GIv s0 st) : VM G l 31 iX11_view [rf 1, (0, x)] st (fun w st1 => Kn st1.1 ∧ VM G l 31 iX12_view [rf 210, (0, x)] st1 (fun w' st2 => w' = w ∧ GIv s0 st2)) := by
  obtain ⟨K, D, z⟩ := st
  obtain ⟨m, T, T2, nt, n, wo, cn, cc, hX⟩ := hG
  have hX : giX s0 m T T2 nt n wo cn cc K D z := hX
  have hT := hX.1.2.2.2.1
  have hT2 : T = 8 ∨ T = 129 := hT
  have hV := hX.2.1.2.1
  obtain ⟨⟨v1, v2⟩, v3, v4, v5⟩ := id hV
  refine v_view hX.1.1 (fun hy => ?_) (fun hn => ?_)
  · obtain ⟨y, hyy⟩ : ∃ y : Int, (if x = D 1 7 then -1 else x) = y := ⟨_, rfl⟩
    have hyr : -1 ≤ y ∧ y ≤ D 1 7 := by subst hyy; split <;> omega
    rw [hyy]
    refine ⟨hX.1.1, ?_⟩
    show VM G l 31 iX12_view [rf 210, (0, x)] (K, FgA (aUp D 1 8 y), z) _
    have e35 : FgA (aUp D 1 8 y) 210 35 = D 1 7 := by rw [FgA_row (by decide) (by decide), aUp_row (by decide)]; exact v1
    refine u_view hX.1.1 (fun _ => ⟨rfl, ?_⟩) (fun hn => absurd (by rw [e35]; exact hy) hn)
    rw [e35, hyy]
    have row : ∀ r, r ≠ 1 → r ≠ 116 → r ≠ 210 → aUp (aUp (FgA (aUp D 1 8 y)) 210 0 0) 210 36 y r = D r := fun r q1 q2 q3 => by rw [aUp_row q3, aUp_row q3, FgA_row q1 q2, aUp_row q1]
    have c1 : ∀ j : Int, j ≠ 10 → j ≠ 11 → j ≠ 8 → aUp (aUp (FgA (aUp D 1 8 y)) 210 0 0) 210 36 y 1 j = D 1 j := fun j q1 q2 q3 => by rw [aUp_row (by decide), aUp_row (by decide), FgA_1 q1 q2, aUp_ne q3]
    have c8 : aUp (aUp (FgA (aUp D 1 8 y)) 210 0 0) 210 36 y 1 8 = y := by rw [aUp_row (by decide), aUp_row (by decide), FgA_1 (by decide) (by decide), aUp_at]
    have cz : aUp (aUp (FgA (aUp D 1 8 y)) 210 0 0) 210 36 y 1 = FgA (aUp D 1 8 y) 1 := by rw [aUp_row (by decide), aUp_row (by decide)]
    have cz2 : aUp (aUp (FgA (aUp D 1 8 y)) 210 0 0) 210 36 y 116 = FgA (aUp D 1 8 y) 116 := by rw [aUp_row (by decide), aUp_row (by decide)]
    obtain ⟨f1, f2, f3, f4⟩ := FgA_z (D := aUp D 1 8 y)
    rw [← cz] at f1 f2
    rw [← cz2] at f3 f4
    have c210 : ∀ j : Int, j ≠ 0 → j ≠ 36 → aUp (aUp (FgA (aUp D 1 8 y)) 210 0 0) 210 36 y 210 j = D 210 j := fun j q1 q2 => by rw [aUp_ne q2, aUp_ne q1, FgA_row (by decide) (by decide), aUp_row (by decide)]
    have c36 : aUp (aUp (FgA (aUp D 1 8 y)) 210 0 0) 210 36 y 210 36 = y := aUp_at
    generalize aUp (aUp (FgA (aUp D 1 8 y)) 210 0 0) 210 36 y = E at row c1 c8 f1 f2 f3 f4 c210 c36 ⊢
    have h7 : E 1 7 = D 1 7 := c1 7 (by decide) (by decide) (by decide)
    have e2 := row 2 (by decide) (by decide) (by decide)
    have e5 := row 5 (by decide) (by decide) (by decide)
    refine GIv_mk (giX_mk2 hX (fun r q => row r (by omega) (by omega) (by omega)) (c210 10 (by decide) (by decide)) (c1 6 (by decide) (by decide) (by decide)) (by rw [e5]) (by omega) (Bk_keep (fun r q1 q2 => row r (by omega) (by omega) (by omega)) hX.1.2.2.2.2.1 hX.1.2.2.2.2.2.1 hX.1.2.2.2.2.2.2.1) (CpB_keep (fun r q => row r (by omega) (by omega) (by omega)) (c210 37 (by decide) (by decide)) (c210 45 (by decide) (by decide)) hX.2.1.1) ⟨⟨?_, ?_⟩, ?_, ?_, ?_⟩ (giT_keep (row 3 (by decide) (by decide) (by decide)) (row 4 (by decide) (by decide) (by decide)) (row 211 (by decide) (by decide) (by decide)) (row 215 (by decide) (by decide) (by decide)) (by rw [e2]) (c210 2 (by decide) (by decide)) hX.2.2.1) (giP_keep (row 122 (by decide) (by decide) (by decide)) (row 272 (by decide) (by decide) (by decide)) (row 89 (by decide) (by decide) (by decide)) (row 98 (by decide) (by decide) (by decide)) (row 243 (by decide) (by decide) (by decide)) (by omega) hX.2.2.2.2.1) (giC_zero f1 f2 f3 f4))
    · rw [c210 35 (by decide) (by decide), h7]; exact v1
    · rw [c36, c8]
    · rw [h7]; exact v3
    · rw [c8, h7]; exact hyr
    · rw [row 244 (by decide) (by decide) (by decide), c1 9 (by decide) (by decide) (by decide)]; exact v5
  · exact ⟨hX.1.1, u_view hX.1.1 (fun hy => absurd (by rw [v1] at hy; exact hy) hn) (fun _ => ⟨rfl, GIv_mk (giX_thr hX)⟩)⟩
theorem g_leave {s y : Int} (hy : y = 0 ∨ y = 1) (hG : GIv s0 st) : VM G l 31 iX11_leave [rf 1, (0, s), (0, y)] st (fun w st1 => Kn st1.1 ∧ VM G l 31 iX12_leave [rf 210, (0, s), (0, y)] st1 (fun w' st2 => w' = w ∧ GIv s0 st2)) := by
  obtain ⟨K, D, z⟩ := st
  obtain ⟨m, T, T2, nt, n, wo, cn, cc, hX⟩ := hG
  have hX : giX s0 m T T2 nt n wo cn cc K D z := hX
  have hT := hX.1.2.2.2.1
  have hT2 : T = 8 ∨ T = 129 := hT
  have hV := hX.2.1.2.1
  obtain ⟨⟨v1, v2⟩, v3, v4, v5⟩ := id hV
  refine v_leave hX.1.1 (fun hs => ?_) (fun hn => ?_)
  · obtain ⟨b, hb⟩ : ∃ b : Int, (if y = 0 then bAnd (D 1 9) (bXor (bShl 1 s) (-1)) else bOr (D 1 9) (bShl 1 s)) = b := ⟨_, rfl⟩
    rw [hb]
    refine ⟨hX.1.1, ?_⟩
    show VM G l 31 iX12_leave [rf 210, (0, s), (0, y)] (K, FgA (aUp D 1 9 b), z) _
    refine u_leave hX.1.1 hy (fun _ => ⟨rfl, ?_⟩) (fun hn => absurd hs hn)
    have row : ∀ r, r ≠ 1 → r ≠ 116 → r ≠ 210 → r ≠ 244 → aUp (aUp (FgA (aUp D 1 9 b)) 210 0 0) 244 s y r = D r := fun r q1 q2 q3 q4 => by rw [aUp_row q4, aUp_row q3, FgA_row q1 q2, aUp_row q1]
    have c1 : ∀ j : Int, j ≠ 10 → j ≠ 11 → j ≠ 9 → aUp (aUp (FgA (aUp D 1 9 b)) 210 0 0) 244 s y 1 j = D 1 j := fun j q1 q2 q3 => by rw [aUp_row (by decide), aUp_row (by decide), FgA_1 q1 q2, aUp_ne q3]
    have c9 : aUp (aUp (FgA (aUp D 1 9 b)) 210 0 0) 244 s y 1 9 = b := by rw [aUp_row (by decide), aUp_row (by decide), FgA_1 (by decide) (by decide), aUp_at]
    have cz : aUp (aUp (FgA (aUp D 1 9 b)) 210 0 0) 244 s y 1 = FgA (aUp D 1 9 b) 1 := by rw [aUp_row (by decide), aUp_row (by decide)]
    have cz2 : aUp (aUp (FgA (aUp D 1 9 b)) 210 0 0) 244 s y 116 = FgA (aUp D 1 9 b) 116 := by rw [aUp_row (by decide), aUp_row (by decide)]
    obtain ⟨f1, f2, f3, f4⟩ := FgA_z (D := aUp D 1 9 b)
    rw [← cz] at f1 f2
    rw [← cz2] at f3 f4
    have c210 : ∀ j : Int, j ≠ 0 → aUp (aUp (FgA (aUp D 1 9 b)) 210 0 0) 244 s y 210 j = D 210 j := fun j q1 => by rw [aUp_row (by decide), aUp_ne q1, FgA_row (by decide) (by decide), aUp_row (by decide)]
    have c244 : aUp (aUp (FgA (aUp D 1 9 b)) 210 0 0) 244 s y 244 = uF (D 244) s y := by rw [aUp_same, aUp_row (by decide), FgA_row (by decide) (by decide), aUp_row (by decide)]
    generalize aUp (aUp (FgA (aUp D 1 9 b)) 210 0 0) 244 s y = E at row c1 c9 f1 f2 f3 f4 c210 c244 ⊢
    have h7 : E 1 7 = D 1 7 := c1 7 (by decide) (by decide) (by decide)
    have e2 := row 2 (by decide) (by decide) (by decide) (by decide)
    have e5 := row 5 (by decide) (by decide) (by decide) (by decide)
    refine GIv_mk (giX_mk2 hX (fun r q => row r (by omega) (by omega) (by omega) (by omega)) (c210 10 (by decide)) (c1 6 (by decide) (by decide) (by decide)) (by rw [e5]) (by omega) (Bk_keep (fun r q1 q2 => row r (by omega) (by omega) (by omega) (by omega)) hX.1.2.2.2.2.1 hX.1.2.2.2.2.2.1 hX.1.2.2.2.2.2.2.1) ?_ ⟨⟨?_, ?_⟩, ?_, ?_, fun k hk => ?_⟩ (giT_keep (row 3 (by decide) (by decide) (by decide) (by decide)) (row 4 (by decide) (by decide) (by decide) (by decide)) (row 211 (by decide) (by decide) (by decide) (by decide)) (row 215 (by decide) (by decide) (by decide) (by decide)) (by rw [e2]) (c210 2 (by decide)) hX.2.2.1) (giP_keep (row 122 (by decide) (by decide) (by decide) (by decide)) (row 272 (by decide) (by decide) (by decide) (by decide)) (row 89 (by decide) (by decide) (by decide) (by decide)) (row 98 (by decide) (by decide) (by decide) (by decide)) (row 243 (by decide) (by decide) (by decide) (by decide)) (by omega) hX.2.2.2.2.1) (giC_zero f1 f2 f3 f4))
    · have hB := hX.2.1.1
      unfold CpB at hB ⊢
      rw [c210 37 (by decide), c210 45 (by decide), row 89 (by decide) (by decide) (by decide) (by decide), row 90 (by decide) (by decide) (by decide) (by decide), row 91 (by decide) (by decide) (by decide) (by decide), row 92 (by decide) (by decide) (by decide) (by decide), row 93 (by decide) (by decide) (by decide) (by decide), row 94 (by decide) (by decide) (by decide) (by decide), row 95 (by decide) (by decide) (by decide) (by decide), row 98 (by decide) (by decide) (by decide) (by decide), row 99 (by decide) (by decide) (by decide) (by decide), row 238 (by decide) (by decide) (by decide) (by decide), row 239 (by decide) (by decide) (by decide) (by decide), row 240 (by decide) (by decide) (by decide) (by decide), row 241 (by decide) (by decide) (by decide) (by decide), row 242 (by decide) (by decide) (by decide) (by decide), row 243 (by decide) (by decide) (by decide) (by decide), row 245 (by decide) (by decide) (by decide) (by decide), row 246 (by decide) (by decide) (by decide) (by decide), row 247 (by decide) (by decide) (by decide) (by decide)]
      exact hB
    · rw [c210 35 (by decide), h7]; exact v1
    · rw [c210 36 (by decide), c1 8 (by decide) (by decide) (by decide)]; exact v2
    · rw [h7]; exact v3
    · rw [c1 8 (by decide) (by decide) (by decide), h7]; exact v4
    · obtain ⟨i, hi⟩ : ∃ i : Nat, s = (i : Int) := ⟨s.toNat, by omega⟩
      subst hi
      have w := v5 k hk
      have bt := tb_bit (i := i) (t := k) (by omega) (by omega)
      rw [c9, c244, ← hb]
      by_cases q : k = i
      · subst q
        rw [uF_at]
        refine ⟨hy, ?_⟩
        rcases hy with hy | hy
        · subst hy
          rw [if_pos rfl, tb_and, tb_not (by omega), bt]
          simp
        · subst hy
          rw [if_neg (by decide), tb_or, bt]
          simp
      · rw [uF_ne (by omega)]
        refine ⟨w.1, ?_⟩
        rw [← w.2]
        split
        · rw [tb_and, tb_not (by omega), bt]
          simp [q]
        · rw [tb_or, bt]
          simp [q]
  · exact ⟨hX.1.1, u_leave hX.1.1 hy (fun hs => absurd hs hn) (fun _ => ⟨rfl, GIv_mk (giX_thr hX)⟩)⟩
end
