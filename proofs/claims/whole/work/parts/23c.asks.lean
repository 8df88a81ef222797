/-! ===== calls that ask: class and reference answer alike, and the invariant stays ===== -/
section
variable {D D' : Nat → Int → Int} {T T2 nt m m' n s0 : Nat} {wo : Int → Int} {cn : Nat → Nat} {cc : Nat → Nat → Int × Int} {K K' : Nat → aKd} {z z' : Nat × Nat}
theorem GIv_mk (h : giX s0 m T T2 nt n wo cn cc K D z) : GIv s0 (K, D, z) := ⟨m, T, T2, nt, n, wo, cn, cc, h⟩
theorem giX_nh (hX : giX s0 m T T2 nt n wo cn cc K D z) : 0 ≤ D T 0 ∧ D T 0 ≤ 12 := ⟨hX.1.2.2.2.2.2.2.2.2.1.2.1, hX.1.2.2.2.2.2.2.2.2.1.2.2.1⟩
theorem giX_nt (hX : giX s0 m T T2 nt n wo cn cc K D z) : D T 1 = nt ∧ nt ≤ 24 := ⟨hX.1.2.2.2.2.2.2.2.1, hX.1.2.2.2.2.2.2.2.2.1.1⟩
theorem giX_nl (hX : giX s0 m T T2 nt n wo cn cc K D z) : (0 ≤ D 89 0 ∧ D 89 0 ≤ 60) ∧ 0 ≤ D 89 1 ∧ D 89 1 ≤ 300 := by
  have h := hX.1.2.2.2.2.1
  exact ⟨⟨h.2.2.2.2.1, h.2.2.2.2.2⟩, h.2.2.1, h.2.2.2.1⟩
theorem thr_I (hT : isT T) {w : Int} : giI T D (aUp D 210 0 w) := FrG_I hT (FrG_M FrM_thr)
theorem thr_T (hT : isT T) {w : Int} : aUp D 210 0 w T = D T := by
  have hT2 : T = 8 ∨ T = 129 := hT
  exact aUp_row (by omega)
theorem thr_an (hX : giX s0 m T T2 nt n wo cn cc K D z) : evX (aUp D 210 0 0) wo T (vwC (aUp D 210 0 0)) (stC (aUp D 210 0 0)) (-1) = evX D wo T (vwC D) (stC D) (-1) ∧ (∀ (i : Nat) (what : Int), anE wo T nt cn cc (aUp D 210 0 0) i what = anE wo T nt cn cc D i what) ∧ (∀ (i : Nat) (h what : Int), 0 ≤ h → h < 12 → anG wo T nt cn cc (aUp D 210 0 0) i h what = anG wo T nt cn cc D i h what) ∧ ∀ (i t : Nat) (what : Int), t < nt → anT wo T nt cn cc (aUp D 210 0 0) i t what = anT wo T nt cn cc D i t what := by
  have hI : giI T D (aUp D 210 0 0) := thr_I hX.1.2.2.2.1
  exact an_congr hX.1.2.2.2 (giI_inR hI) (giI_vs hI).1 (giI_vs hI).2
end
section
variable {G : aCX} {l : Launch} {s0 : Nat} {st : aSt}
theorem g_events (hG : GIv s0 st) : VM G l 31 iX11_events [rf 1] st (fun w st1 => Kn st1.1 ∧ VM G l 31 iX12_events [rf 210] st1 (fun w' st2 => w' = w ∧ GIv s0 st2)) := by
  obtain ⟨K, D, z⟩ := st
  obtain ⟨m, T, T2, nt, n, wo, cn, cc, hX⟩ := hG
  have hX : giX s0 m T T2 nt n wo cn cc K D z := hX
  refine v_events (giX_rnH hX) (fun K' D' z' m' hR => ?_)
  have hX' := giX_rn hX hR
  have hX0 := giX_thr (w := 0) hX'
  refine ⟨hX'.1.1, ?_⟩
  refine u_eventsP (D0 := aUp D' 210 0 0) hX'.1.1 rfl hX0.1.2.2.2 hX0.2.1 (giX_StR hX0) (fun D'' hf q1 q2 q3 => ⟨?_, GIv_mk (giX_ref hX0 (FrG_E hf))⟩)
  rw [(thr_an hX').1]
theorem g_eventOf {q : Int} (hG : GIv s0 st) : VM G l 31 iX11_eventOf [rf 1, (0, q)] st (fun w st1 => Kn st1.1 ∧ VM G l 31 iX12_eventOf [rf 210, (0, q)] st1 (fun w' st2 => w' = w ∧ GIv s0 st2)) := by
  obtain ⟨K, D, z⟩ := st
  obtain ⟨m, T, T2, nt, n, wo, cn, cc, hX⟩ := hG
  have hX : giX s0 m T T2 nt n wo cn cc K D z := hX
  refine v_eventOf (giX_rnH hX) (fun hq K' D' z' m' hR => ?_) (fun hq => ?_)
  · have hX' := giX_rn hX hR
    have hX0 := giX_thr (w := 0) hX'
    have e89 : aUp D' 210 0 0 89 = D 89 := by
      rw [aUp_row (by decide)]
      exact giI_inR (FrI_I hX.1.2.2.2.1 hR.2.1) 89 (by unfold inR; omega)
    refine ⟨hX'.1.1, ?_⟩
    refine u_eventOf (D0 := aUp D' 210 0 0) hX'.1.1 rfl hX0.1.2.2.2 hX0.2.1 (giX_StR hX0) (giX_nl hX0).1.2 (fun _ D'' hf => ⟨?_, GIv_mk (giX_ref hX0 (FrG_E hf))⟩) (fun hn => ?_)
    · rw [(thr_an hX').1]
    · rw [e89] at hn; exact absurd hq hn
  · have hX0 := giX_thr (w := 0) hX
    have e89 : aUp D 210 0 0 89 = D 89 := aUp_row (by decide)
    refine ⟨hX.1.1, ?_⟩
    refine u_eventOf (D0 := aUp D 210 0 0) hX.1.1 rfl hX0.1.2.2.2 hX0.2.1 (giX_StR hX0) (giX_nl hX0).1.2 (fun hn => ?_) (fun _ => ⟨rfl, GIv_mk hX0⟩)
    rw [e89] at hn; exact absurd hn hq
theorem g_event {e what : Int} (hG : GIv s0 st) : VM G l 31 iX11_event [rf 1, (0, e), (0, what)] st (fun w st1 => Kn st1.1 ∧ VM G l 31 iX12_event [rf 210, (0, e), (0, what)] st1 (fun w' st2 => w' = w ∧ GIv s0 st2)) := by
  obtain ⟨K, D, z⟩ := st
  obtain ⟨m, T, T2, nt, n, wo, cn, cc, hX⟩ := hG
  have hX : giX s0 m T T2 nt n wo cn cc K D z := hX
  refine v_eventP (giX_rnH hX) (fun K' D' z' m' hR i hi hlt hw => ?_) (fun K' D' z' m' hR hn => ?_)
  · have hX' := giX_rn hX hR
    have hX0 := giX_thr (w := 0) hX'
    refine ⟨hX'.1.1, ?_⟩
    refine u_event (D0 := aUp D' 210 0 0) hX'.1.1 rfl hX0.1.2.2.2 hX0.2.1 (giX_StR hX0) (fun D'' hf j hj hlt' hw' => ⟨?_, GIv_mk (giX_ref hX0 (FrG_M (FrM_ms hf)))⟩) (fun D'' hf hn => ?_)
    · have hji : j = i := by omega
      subst hji
      exact (thr_an hX').2.1 j what
    · rw [(thr_an hX').1] at hn
      exact absurd ⟨⟨by omega, by omega⟩, hw⟩ hn
  · have hX' := giX_rn hX hR
    have hX0 := giX_thr (w := 0) hX'
    refine ⟨hX'.1.1, ?_⟩
    refine u_event (D0 := aUp D' 210 0 0) hX'.1.1 rfl hX0.1.2.2.2 hX0.2.1 (giX_StR hX0) (fun D'' hf j hj hlt' hw' => ?_) (fun D'' hf hn => ⟨rfl, GIv_mk (giX_ref hX0 (FrG_M (FrM_ms hf)))⟩)
    rw [(thr_an hX').1] at hlt'
    exact absurd ⟨⟨by omega, by omega⟩, hw'⟩ hn
theorem g_gross {e h what : Int} (hG : GIv s0 st) : VM G l 31 iX11_gross [rf 1, (0, e), (0, h), (0, what)] st (fun w st1 => Kn st1.1 ∧ VM G l 31 iX12_gross [rf 210, (0, e), (0, h), (0, what)] st1 (fun w' st2 => w' = w ∧ GIv s0 st2)) := by
  obtain ⟨K, D, z⟩ := st
  obtain ⟨m, T, T2, nt, n, wo, cn, cc, hX⟩ := hG
  have hX : giX s0 m T T2 nt n wo cn cc K D z := hX
  refine v_gross (giX_rnH hX) (fun K' D' z' m' hR i hi hlt hh hw => ?_) (fun K' D' z' m' hR hn => ?_)
  · have hX' := giX_rn hX hR
    have hX0 := giX_thr (w := 0) hX'
    have eT : aUp D' 210 0 0 T = D' T := thr_T hX.1.2.2.2.1
    have n12 := giX_nh hX'
    refine ⟨hX'.1.1, ?_⟩
    refine u_gross (D0 := aUp D' 210 0 0) hX'.1.1 rfl hX0.1.2.2.2 hX0.2.1 (giX_StR hX0) (fun D'' hf j hj hlt' hh' hw' => ⟨?_, GIv_mk (giX_ref hX0 (FrG_M (FrM_ms hf)))⟩) (fun D'' hf hn => ?_)
    · have hji : j = i := by omega
      subst hji
      exact (thr_an hX').2.2.1 j h what hh.1 (by omega)
    · rw [(thr_an hX').1, eT] at hn
      exact absurd ⟨⟨by omega, by omega⟩, hh, hw⟩ hn
  · have hX' := giX_rn hX hR
    have hX0 := giX_thr (w := 0) hX'
    have eT : aUp D' 210 0 0 T = D' T := thr_T hX.1.2.2.2.1
    refine ⟨hX'.1.1, ?_⟩
    refine u_gross (D0 := aUp D' 210 0 0) hX'.1.1 rfl hX0.1.2.2.2 hX0.2.1 (giX_StR hX0) (fun D'' hf j hj hlt' hh' hw' => ?_) (fun D'' hf hn => ⟨rfl, GIv_mk (giX_ref hX0 (FrG_M (FrM_ms hf)))⟩)
    rw [(thr_an hX').1] at hlt'
    rw [eT] at hh'
    exact absurd ⟨⟨by omega, by omega⟩, hh', hw'⟩ hn
theorem g_treaty {e u what : Int} (hG : GIv s0 st) : VM G l 31 iX11_treaty [rf 1, (0, e), (0, u), (0, what)] st (fun w st1 => Kn st1.1 ∧ VM G l 31 iX12_treaty [rf 210, (0, e), (0, u), (0, what)] st1 (fun w' st2 => w' = w ∧ GIv s0 st2)) := by
  obtain ⟨K, D, z⟩ := st
  obtain ⟨m, T, T2, nt, n, wo, cn, cc, hX⟩ := hG
  have hX : giX s0 m T T2 nt n wo cn cc K D z := hX
  refine v_treaty (giX_rnH hX) (fun K' D' z' m' hR i t hi ht hlt htn hw => ?_) (fun K' D' z' m' hR hn => ?_)
  · have hX' := giX_rn hX hR
    have hX0 := giX_thr (w := 0) hX'
    refine ⟨hX'.1.1, ?_⟩
    refine u_treaty (D0 := aUp D' 210 0 0) hX'.1.1 rfl hX0.1.2.2.2 hX0.2.1 (giX_StR hX0) (fun D'' hf j t' hj ht' hlt' htn' hw' => ⟨?_, GIv_mk (giX_ref hX0 (FrG_M (FrM_ms hf)))⟩) (fun D'' hf hn => ?_)
    · have hji : j = i := by omega
      have htt : t' = t := by omega
      subst hji
      subst htt
      exact (thr_an hX').2.2.2 j t' what htn
    · rw [(thr_an hX').1] at hn
      exact absurd ⟨⟨by omega, by omega⟩, ⟨by omega, by omega⟩, hw⟩ hn
  · have hX' := giX_rn hX hR
    have hX0 := giX_thr (w := 0) hX'
    have e1 := (giX_nt hX').1
    refine ⟨hX'.1.1, ?_⟩
    refine u_treaty (D0 := aUp D' 210 0 0) hX'.1.1 rfl hX0.1.2.2.2 hX0.2.1 (giX_StR hX0) (fun D'' hf j t' hj ht' hlt' htn' hw' => ?_) (fun D'' hf hn => ⟨rfl, GIv_mk (giX_ref hX0 (FrG_M (FrM_ms hf)))⟩)
    rw [(thr_an hX').1] at hlt'
    exact absurd ⟨⟨by omega, by omega⟩, ⟨by omega, by rw [e1]; omega⟩, hw'⟩ hn
theorem g_left {u : Int} (hG : GIv s0 st) : VM G l 31 iX11_left [rf 1, (0, u)] st (fun w st1 => Kn st1.1 ∧ VM G l 31 iX12_left [rf 210, (0, u)] st1 (fun w' st2 => w' = w ∧ GIv s0 st2)) := by
  obtain ⟨K, D, z⟩ := st
  obtain ⟨m, T, T2, nt, n, wo, cn, cc, hX⟩ := hG
  have hX : giX s0 m T T2 nt n wo cn cc K D z := hX
  have hT := hX.1.2.2.2.1
  have n24 := (giX_nt hX).2
  refine v_left (giX_rnH hX) (fun t hu htn hla K' D' z' m' hR => ?_) (fun hno => ?_)
  · have hX' := giX_rn hX hR
    have hX0 := giX_thr (w := 0) hX'
    have hI1 := FrI_I hT hR.2.1
    have hI0 : giI T D' (aUp D' 210 0 0) := thr_I hT
    have ew1 := wC_keep (nt := nt) n24 (giI_inR hI1)
    have ew0 := wC_keep (nt := nt) n24 (giI_inR hI0)
    have hE := giI_E hX'.1.2.2.2 hI0
    refine ⟨hX'.1.1, ?_⟩
    refine u_left (D0 := aUp D' 210 0 0) hX'.1.1 rfl hX0.1.2.2.2 hX0.2.1 (giX_StR hX0) (fun t' hu' htn' hla' D'' hf => ⟨?_, GIv_mk (giX_ref hX0 (FrG_M (FrM_ms hf)))⟩) (fun hno D'' hf => ?_)
    · have htt : t' = t := by omega
      subst htt
      have e1 := (thr_an hX').1
      have e2 := (hE.1 (stC D') (-1)).2.2
      have ev := (giI_vs hI0).1
      have es := (giI_vs hI0).2
      have ac := ((all_agree (Q := qX D' wo T (vwC D') (stC D') (-1)) (Q' := qX D' wo T (vwC D') (stC D') (-1)) hE.2.1 (giE_h0 hX'.1.2.2.2) (evX D' wo T (vwC D') (stC D') (-1)).1 (fun _ _ => QEq_rfl)).1 t' htn).1
      rw [ew0 t' htn, e1, es, e2, ac]
    · have := hno t hu htn
      rw [ew0 t htn, ew1 t htn] at this
      exact absurd this hla
  · have hX0 := giX_thr (w := 0) hX
    have hI0 : giI T D (aUp D 210 0 0) := thr_I hT
    have ew0 := wC_keep (nt := nt) n24 (giI_inR hI0)
    refine ⟨hX.1.1, ?_⟩
    refine u_left (D0 := aUp D 210 0 0) hX.1.1 rfl hX0.1.2.2.2 hX0.2.1 (giX_StR hX0) (fun t' hu' htn' hla' D'' hf => ?_) (fun _ D'' hf => ⟨rfl, GIv_mk (giX_ref hX0 (FrG_M (FrM_ms hf)))⟩)
    rw [ew0 t' htn'] at hla'
    exact absurd (hno t' hu' htn') hla'
/-- the houses of the wording in force -/
abbrev nhS (D : Nat → Int → Int) : Int := D (D 1 6).toNat 0
theorem nhS_eq {D : Nat → Int → Int} {T : Nat} (h : D 1 6 = (T : Nat)) : nhS D = D T 0 := by
  show D (D 1 6).toNat 0 = D T 0
  rw [h, Int.toNat_natCast]
theorem g_owedY {a b : Int} (hG : GIv s0 st) (ha : 0 ≤ a ∧ a < nhS st.2.1) (hb : 0 ≤ b ∧ b < nhS st.2.1) (hab : a ≠ b) : VM G l 31 iX11_owed [rf 1, (0, a), (0, b)] st (fun w st1 => VM G l 31 iX12_owed [rf 210, (0, a), (0, b)] st1 (fun w' st2 => w' = w ∧ st2.2.1 210 0 = 0 ∧ GIv s0 st2)) := by
  obtain ⟨K, D, z⟩ := st
  obtain ⟨m, T, T2, nt, n, wo, cn, cc, hX⟩ := hG
  have hX : giX s0 m T T2 nt n wo cn cc K D z := hX
  have hT := hX.1.2.2.2.1
  have hT2 : T = 8 ∨ T = 129 := hT
  have en : nhS D = D T 0 := nhS_eq hX.2.2.2.1.1
  have ha' : 0 ≤ a ∧ a < D T 0 := by rw [← en]; exact ha
  have hb' : 0 ≤ b ∧ b < D T 0 := by rw [← en]; exact hb
  refine v_owedP (giX_rnH hX) ha' hb' hab (fun K' D' z' m' hR => ?_)
  have hX' := giX_rn hX hR
  have hX0 := giX_thr (w := 0) hX'
  have hI0 : giI T D' (aUp D' 210 0 0) := thr_I hT
  have eT : D' T = D T := giI_inR (FrI_I hT hR.2.1) T (by unfold inR; omega)
  refine u_owed (D0 := aUp D' 210 0 0) hX'.1.1 rfl hX'.2.1.2.2.1.1 hX'.2.1.2.2.1.2.1 (giX_nh hX').2 hX0.1.2.2.2 hX0.2.1 (giX_StR hX0) (fun _ D'' hf => ⟨?_, ?_, GIv_mk (giX_ref hX0 (FrG_M (FrM_ms hf)))⟩) (fun hn => ?_)
  · rw [(giI_vs hI0).2]
    exact giE_ow hX'.1.2.2.2 (giI_E hX'.1.2.2.2 hI0) _ _ _ _
  · show D'' 210 0 = 0
    rw [hf.2.1 0 (by decide) (by decide) (by decide) (by decide), aUp_at]
  · rw [eT] at hn
    exact absurd ⟨ha', hb', hab⟩ hn
theorem g_owedN {a b : Int} (hG : GIv s0 st) (h : ¬ ((0 ≤ a ∧ a < nhS st.2.1) ∧ (0 ≤ b ∧ b < nhS st.2.1) ∧ a ≠ b)) : VM G l 31 iX12_owed [rf 210, (0, a), (0, b)] st (fun _ st2 => st2.2.1 210 0 = 1 ∧ GIv s0 st2) := by
  obtain ⟨K, D, z⟩ := st
  obtain ⟨m, T, T2, nt, n, wo, cn, cc, hX⟩ := hG
  have hX : giX s0 m T T2 nt n wo cn cc K D z := hX
  have en : nhS D = D T 0 := nhS_eq hX.2.2.2.1.1
  have h' : ¬ ((0 ≤ a ∧ a < nhS D) ∧ (0 ≤ b ∧ b < nhS D) ∧ a ≠ b) := h
  rw [en] at h'
  have hX0 := giX_thr (w := 0) hX
  exact u_owed (D0 := aUp D 210 0 0) hX.1.1 rfl hX.2.1.2.2.1.1 hX.2.1.2.2.1.2.1 (giX_nh hX).2 hX0.1.2.2.2 hX0.2.1 (giX_StR hX0) (fun q => absurd q h') (fun _ => ⟨(aUp_at : aUp D 210 0 1 210 0 = 1), GIv_mk (giX_thr hX)⟩)
theorem g_bearsY {a : Int} (hG : GIv s0 st) (ha : 0 ≤ a ∧ a < nhS st.2.1) : VM G l 31 iX11_bears [rf 1, (0, a)] st (fun w st1 => VM G l 31 iX12_bears [rf 210, (0, a)] st1 (fun w' st2 => w' = w ∧ st2.2.1 210 0 = 0 ∧ GIv s0 st2)) := by
  obtain ⟨K, D, z⟩ := st
  obtain ⟨m, T, T2, nt, n, wo, cn, cc, hX⟩ := hG
  have hX : giX s0 m T T2 nt n wo cn cc K D z := hX
  have hT := hX.1.2.2.2.1
  have hT2 : T = 8 ∨ T = 129 := hT
  have en : nhS D = D T 0 := nhS_eq hX.2.2.2.1.1
  have ha' : 0 ≤ a ∧ a < D T 0 := by rw [← en]; exact ha
  refine v_bearsP (giX_rnH hX) ha' (fun K' D' z' m' hR => ?_)
  have hX' := giX_rn hX hR
  have hX0 := giX_thr (w := 0) hX'
  have hI0 : giI T D' (aUp D' 210 0 0) := thr_I hT
  have eT : D' T = D T := giI_inR (FrI_I hT hR.2.1) T (by unfold inR; omega)
  refine u_bears (D0 := aUp D' 210 0 0) hX'.1.1 rfl hX'.2.1.2.2.1.1 hX'.2.1.2.2.1.2.1 (giX_nh hX').2 hX0.1.2.2.2 hX0.2.1 (giX_StR hX0) (fun _ D'' hf => ⟨?_, ?_, GIv_mk (giX_ref hX0 (FrG_M (FrM_ms hf)))⟩) (fun hn => ?_)
  · rw [(giI_vs hI0).2]
    exact giE_bu hX'.1.2.2.2 (giI_E hX'.1.2.2.2 hI0) _ _ _
  · show D'' 210 0 = 0
    rw [hf.2.1 0 (by decide) (by decide) (by decide) (by decide), aUp_at]
  · rw [eT] at hn
    exact absurd ha' hn
theorem g_bearsN {a : Int} (hG : GIv s0 st) (h : ¬ (0 ≤ a ∧ a < nhS st.2.1)) : VM G l 31 iX12_bears [rf 210, (0, a)] st (fun _ st2 => st2.2.1 210 0 = 1 ∧ GIv s0 st2) := by
  obtain ⟨K, D, z⟩ := st
  obtain ⟨m, T, T2, nt, n, wo, cn, cc, hX⟩ := hG
  have hX : giX s0 m T T2 nt n wo cn cc K D z := hX
  have en : nhS D = D T 0 := nhS_eq hX.2.2.2.1.1
  have h' : ¬ (0 ≤ a ∧ a < nhS D) := h
  rw [en] at h'
  have hX0 := giX_thr (w := 0) hX
  exact u_bears (D0 := aUp D 210 0 0) hX.1.1 rfl hX.2.1.2.2.1.1 hX.2.1.2.2.1.2.1 (giX_nh hX).2 hX0.1.2.2.2 hX0.2.1 (giX_StR hX0) (fun q => absurd q h') (fun _ => ⟨(aUp_at : aUp D 210 0 1 210 0 = 1), GIv_mk (giX_thr hX)⟩)
end
