/-! ===== clears, count ===== -/
section
variable {G : aCX} {l : Launch} {s0 : Nat} {st : aSt}
theorem r_clears {m T T2 nt n nh : Nat} {wo : Int → Int} {cn : Nat → Nat} {cc : Nat → Nat → Int × Int} {K : Nat → aKd} {D : Nat → Int → Int} {z : Nat × Nat} {h what v : Int} (hv : D 278 0 = v) (hX : giX s0 m T T2 nt n wo cn cc K D z) (hc : ClC D wo T nt cn cc nh D) (hn : D T 0 = (nh : Nat)) (hh : 0 ≤ h ∧ h < D T 0) (hw : 0 ≤ what ∧ what ≤ 4) (h32 : i32 (if what = 0 then D 123 h else if what = 1 then D 124 h else if what = 2 then D 125 h else if what = 3 then D 126 h else D 121 7)) : VM G l 31 iX12_clears [rf 210, (0, h), (0, what)] (K, D, z) (fun w' st2 => w' = (if what = 0 then D 123 h else if what = 1 then D 124 h else if what = 2 then D 125 h else if what = 3 then D 126 h else D 121 7) ∧ st2.2.1 210 0 = 0 ∧ st2.2.1 278 0 = v ∧ GIv s0 st2) := by
  have hT := hX.1.2.2.2.1
  have hX0 := giX_thr (w := 0) hX
  have hI0 : giI T D (aUp D 210 0 0) := thr_I hT
  have hE := giI_E hX.1.2.2.2 hI0
  have hs := (giI_vs hI0).2
  obtain ⟨a1, a2, a3, a4⟩ := giE_cl hX.1.2.2.2 hE (aUp_row (by decide)) (stC D)
  obtain ⟨c1, c2, c3⟩ := hc
  obtain ⟨d1, d2, d3, d4⟩ := c3 h.toNat (by omega)
  rw [show ((h.toNat : Nat) : Int) = h by omega] at d1 d2 d3 d4
  refine u_clears (D0 := aUp D 210 0 0) hX.1.1 rfl hX.2.1.2.2.1.1 hX.2.1.2.2.1.2.1 (giX_nh hX).2 hX0.1.2.2.2 hX0.2.1 (giX_StR hX0) hX0.2.2.2.2.1.2.1 (fun _ D'' hf => ⟨?_, ?_, ?_, GIv_mk (giX_ref hX0 (FrG_Ca hf))⟩) (fun hn => absurd ⟨hh, hw⟩ hn)
  · rw [hs, a1, a2, a3, a4, ← d1, ← d2, ← d3, ← d4, ← c1]
    by_cases q0 : what = 0
    · rw [if_pos q0, if_pos q0]
    · rw [if_neg q0] at h32 ⊢
      rw [if_neg q0]
      by_cases q1 : what = 1
      · rw [if_pos q1] at h32 ⊢
        rw [if_pos q1, wr_id h32]
      · rw [if_neg q1] at h32 ⊢
        rw [if_neg q1]
        by_cases q2 : what = 2
        · rw [if_pos q2] at h32 ⊢
          rw [if_pos q2, wr_id h32]
        · rw [if_neg q2] at h32 ⊢
          rw [if_neg q2]
  · show D'' 210 0 = 0
    rw [hf.2.1 0 (by decide) (by decide) (by decide) (by decide) (by decide), aUp_at]
  · show D'' 278 0 = v
    rw [hf.1 278 (by decide) (by decide), aUp_row (by decide)]
    exact hv
theorem g_clearsN {h what : Int} (hG : GIv s0 st) (hno : ¬ ((0 ≤ h ∧ h < nhS st.2.1) ∧ 0 ≤ what ∧ what ≤ 4)) : VM G l 31 iX12_clears [rf 210, (0, h), (0, what)] st (fun _ st2 => st2.2.1 210 0 = 1 ∧ GIv s0 st2) := by
  obtain ⟨K, D, z⟩ := st
  obtain ⟨m, T, T2, nt, n, wo, cn, cc, hX⟩ := hG
  have hX : giX s0 m T T2 nt n wo cn cc K D z := hX
  have en : nhS D = D T 0 := nhS_eq hX.2.2.2.1.1
  have h' : ¬ ((0 ≤ h ∧ h < nhS D) ∧ 0 ≤ what ∧ what ≤ 4) := hno
  rw [en] at h'
  have hX0 := giX_thr (w := 0) hX
  exact u_clears (D0 := aUp D 210 0 0) hX.1.1 rfl hX.2.1.2.2.1.1 hX.2.1.2.2.1.2.1 (giX_nh hX).2 hX0.1.2.2.2 hX0.2.1 (giX_StR hX0) hX0.2.2.2.2.1.2.1 (fun q => absurd q h') (fun _ => ⟨(aUp_at : aUp D 210 0 1 210 0 = 1), GIv_mk (giX_thr hX)⟩)
theorem r_count8 {m T T2 nt n nh : Nat} {wo : Int → Int} {cn : Nat → Nat} {cc : Nat → Nat → Int × Int} {K : Nat → aKd} {D : Nat → Int → Int} {z : Nat × Nat} (hX : giX s0 m T T2 nt n wo cn cc K D z) (hc : ClC D wo T nt cn cc nh D) (hn : D T 0 = (nh : Nat)) : VM G l 31 iX12_count [rf 210, (0, 8)] (K, D, z) (fun w' st2 => w' = D 121 8 ∧ GIv s0 st2) := by
  have hT := hX.1.2.2.2.1
  have hX0 := giX_thr (w := 0) hX
  have hI0 : giI T D (aUp D 210 0 0) := thr_I hT
  have hE := giI_E hX.1.2.2.2 hI0
  have hs := (giI_vs hI0).2
  obtain ⟨a1, a2, a3, a4⟩ := giE_cl hX.1.2.2.2 hE (aUp_row (by decide)) (stC D)
  refine u_count (D0 := aUp D 210 0 0) hX.1.1 rfl hX0.1.2.2.2 hX0.2.1 (giX_StR hX0) (by rw [thr_T hT]; exact hn) hX0.2.2.2.2.1.2.1 (fun _ q => absurd rfl q) (fun q => absurd q (by decide)) (fun _ D'' hf => ⟨?_, GIv_mk (giX_ref hX0 (FrG_Ca hf))⟩)
  rw [hc.2.1, hs, a4]
theorem g_count {what : Int} (hG : GIv s0 st) : VM G l 31 iX11_count [rf 1, (0, what)] st (fun w st1 => Kn st1.1 ∧ VM G l 31 iX12_count [rf 210, (0, what)] st1 (fun w' st2 => w' = w ∧ GIv s0 st2)) := by
  obtain ⟨K, D, z⟩ := st
  obtain ⟨m, T, T2, nt, n, wo, cn, cc, hX⟩ := hG
  have hX : giX s0 m T T2 nt n wo cn cc K D z := hX
  have hT := hX.1.2.2.2.1
  have hT2 : T = 8 ∨ T = 129 := hT
  have n12 := giX_nh hX
  obtain ⟨nh, hn⟩ : ∃ nh : Nat, D T 0 = (nh : Nat) := ⟨(D T 0).toNat, by omega⟩
  refine v_count (giX_rnH hX) hn hX.2.2.2.2.1.1 hX.2.2.2.2.1.2.1 (fun h6 h8 => ?_) (fun h6 K' D' z' m' hR => ?_) (fun h8 q => ?_) (fun h8 q K' D' z' m' hR D2 hr hC => ?_)
  · have hX0 := giX_thr (w := 0) hX
    refine ⟨hX.1.1, ?_⟩
    refine u_count (D0 := aUp D 210 0 0) hX.1.1 rfl hX0.1.2.2.2 hX0.2.1 (giX_StR hX0) (by rw [thr_T hT]; exact hn) hX0.2.2.2.2.1.2.1 (fun _ _ => ⟨?_, GIv_mk hX0⟩) (fun q => absurd q h6) (fun q => absurd q h8)
    have hB := hX.2.1.1
    have hV := hX.2.1.2.1
    have hW := hX.2.1.2.2.1
    have c0 : ∀ j : Int, j ≠ 0 → aUp D 210 0 0 210 j = D 210 j := fun j q => aUp_ne q
    have ev : vwM (aUp D 210 0 0) = vwC D := by
      rw [E0_vw]; exact vw_eq hV
    have e0 : aUp D 210 0 0 216 (aUp D 210 0 0 210 10) = D T 0 := by rw [c0 10 (by decide), aUp_row (by decide)]; exact hW.2.1
    have e1 : aUp D 210 0 0 221 (aUp D 210 0 0 210 10) = D T 1 := by rw [c0 10 (by decide), aUp_row (by decide), hW.2.2.1, (giX_nt hX).1]
    have e2 : aUp D 210 0 0 210 37 = D 89 0 := by rw [c0 37 (by decide)]; exact hB.1.1
    have e3 : aUp D 210 0 0 210 45 = D 89 1 := by rw [c0 45 (by decide)]; exact hB.1.2
    have e4 : aUp D 210 0 0 210 35 = D 1 7 := by rw [c0 35 (by decide)]; exact hV.1.1
    have e7 : cmN (fun t : Nat => decide (0 ≤ aUp D 210 0 0 265 t ∧ aUp D 210 0 0 265 t ≤ vwM (aUp D 210 0 0))) nt = cmN (fun t : Nat => decide (D (T + 9 + 3 * t) 13 ≠ -1 ∧ D (T + 9 + 3 * t) 13 ≤ vwC D)) nt := by
      refine cmN_same nt (fun t ht => ?_)
      obtain ⟨x1, -, x3, -⟩ := hX.2.1.2.2.2.1 t ht
      rw [ev, aUp_row (by decide), x1]
      rw [x1] at x3
      exact decide_eq_decide.mpr ⟨fun y => ⟨by omega, y.2⟩, fun y => ⟨by omega, y.2⟩⟩
    have e9 : aUp D 210 0 0 210 2 = D 2 3 := by rw [c0 2 (by decide), hX.2.2.1.2.1, hX.2.2.1.1]
    rw [e7, e0, e1, e2, e3, e4, ev, e9]
  · subst h6
    have hX' := giX_rn hX hR
    have hX0 := giX_thr (w := 0) hX'
    have hI0 : giI T D' (aUp D' 210 0 0) := thr_I hT
    have hE := giI_E hX'.1.2.2.2 hI0
    have hs := (giI_vs hI0).2
    have eT : D' T = D T := giI_inR (FrI_I hT hR.2.1) T (by unfold inR; omega)
    refine ⟨hX'.1.1, ?_⟩
    refine u_count (D0 := aUp D' 210 0 0) hX'.1.1 rfl hX0.1.2.2.2 hX0.2.1 (giX_StR hX0) (by rw [thr_T hT, eT]; exact hn) hX0.2.2.2.2.1.2.1 (fun q => absurd rfl q) (fun _ D'' hf => ⟨?_, GIv_mk (giX_ref hX0 (FrG_E hf))⟩) (fun q => absurd q (by decide))
    rw [hR.2.2.2.1.1.2, hs, (hE.1 (stC D') (-1)).2.1]
  · subst h8
    have := (hX.2.2.2.2.2.2.2.2).resolve_left q
    rw [hn, Int.toNat_natCast] at this
    exact ⟨hX.1.1, r_count8 hX this hn⟩
  · subst h8
    obtain ⟨hX', hc'⟩ := giX_cl hX hn hR hr hC
    have eT : aUp D2 1 11 1 T = D T := by
      rw [aUp_row (by omega), hr T (by omega)]
      exact giI_inR (FrI_I hT hR.2.1) T (by unfold inR; omega)
    have := r_count8 (G := G) (l := l) hX' hc' (by rw [eT]; exact hn)
    rw [aUp_row (by decide)] at this
    exact ⟨hX'.1.1, this⟩
end
