/-! ===== the answers of the four calls that may throw, with the law's cell 'out' written between ===== -/
/-- out[0] := v -/
abbrev oS (st : aSt) (v : Int) : aSt := (st.1, aUp st.2.1 278 0 v, st.2.2)
section
variable {D D' D'' : Nat → Int → Int} {T T2 nt m n s0 : Nat} {wo : Int → Int} {cn : Nat → Nat} {cc : Nat → Nat → Int × Int} {K : Nat → aKd} {z : Nat × Nat} {v : Int}
theorem giI_tr (h1 : giI T D D') (h2 : giI T D' D'') : giI T D D'' := ⟨fun r q => (h2.1 r q).trans (h1.1 r q), fun j a b => (h2.2.1 j a b).trans (h1.2.1 j a b), h2.2.2.1.trans h1.2.2.1, h2.2.2.2.1.trans h1.2.2.2.1, fun j q => (h2.2.2.2.2 j q).trans (h1.2.2.2.2 j q)⟩
theorem out_I (hT : isT T) : giI T D (aUp D 278 0 v) := by
  have hT2 : T = 8 ∨ T = 129 := hT
  exact ⟨fun r q => aUp_row (by unfold giN inR at q; omega), fun j _ _ => by rw [aUp_row (by decide)], by rw [aUp_row (by decide)], by rw [aUp_row (by decide)], fun j _ => by rw [aUp_row (by decide)]⟩
theorem giX_out (hX : giX s0 m T T2 nt n wo cn cc K D z) : giX s0 m T T2 nt n wo cn cc K (aUp D 278 0 v) z := by
  have hT := hX.1.2.2.2.1
  have hT2 : T = 8 ∨ T = 129 := hT
  have hI : giI T D (aUp D 278 0 v) := out_I hT
  refine giI_keep hX hI (CI_keep hX.1 (fun r q => aUp_row (by unfold inR at q; omega))) (giC_keep hX.1.2.2.2 (giI_E hX.1.2.2.2 hI) (giI_vs hI).2 (aUp_row (by decide)) (Nat.le_refl _) ⟨fun r q => aUp_row (by unfold ctR at q; omega), ?_, ?_⟩ hX.2.2.2.2.2)
  · rw [aUp_row (by decide)]
  · rw [aUp_row (by decide)]
end
section
variable {G : aCX} {l : Launch} {s0 : Nat} {st : aSt}
theorem g_owedV {a b : Int} (hG : GIv s0 st) (ha : 0 ≤ a ∧ a < nhS st.2.1) (hb : 0 ≤ b ∧ b < nhS st.2.1) (hab : a ≠ b) : VM G l 31 iX11_owed [rf 1, (0, a), (0, b)] st (fun w st1 => GIv s0 st1 ∧ ∀ v : Int, VM G l 31 iX12_owed [rf 210, (0, a), (0, b)] (oS st1 v) (fun w' st2 => w' = w ∧ st2.2.1 210 0 = 0 ∧ st2.2.1 278 0 = v ∧ GIv s0 st2)) := by
  obtain ⟨K, D, z⟩ := st
  obtain ⟨m, T, T2, nt, n, wo, cn, cc, hX⟩ := hG
  have hX : giX s0 m T T2 nt n wo cn cc K D z := hX
  have hT := hX.1.2.2.2.1
  have hT2 : T = 8 ∨ T = 129 := hT
  have en : nhS D = D T 0 := nhS_eq hX.2.2.2.1.1
  have ha' : 0 ≤ a ∧ a < D T 0 := by rw [← en]; exact ha
  have hb' : 0 ≤ b ∧ b < D T 0 := by rw [← en]; exact hb
  refine v_owedP (giX_rnH hX) ha' hb' hab (fun K' D' z' m' hR => ⟨GIv_mk (giX_rn hX hR), fun v => ?_⟩)
  have hXo := giX_rn hX hR
  have hX' := giX_out (v := v) hXo
  have hX0 := giX_thr (w := 0) hX'
  have hI0 : giI T D' (aUp (aUp D' 278 0 v) 210 0 0) := giI_tr (out_I hT) (thr_I hT)
  have eT : aUp D' 278 0 v T = D T := by
    rw [aUp_row (by omega)]
    exact giI_inR (FrI_I hT hR.2.1) T (by unfold inR; omega)
  refine u_owed (D0 := aUp (aUp D' 278 0 v) 210 0 0) hX'.1.1 rfl hX'.2.1.2.2.1.1 hX'.2.1.2.2.1.2.1 (giX_nh hX').2 hX0.1.2.2.2 hX0.2.1 (giX_StR hX0) (fun _ D'' hf => ⟨?_, ?_, ?_, GIv_mk (giX_ref hX0 (FrG_M (FrM_ms hf)))⟩) (fun hn => ?_)
  · rw [(giI_vs hI0).2]
    exact giE_ow hXo.1.2.2.2 (giI_E hXo.1.2.2.2 hI0) _ _ _ _
  · show D'' 210 0 = 0
    rw [hf.2.1 0 (by decide) (by decide) (by decide) (by decide), aUp_at]
  · show D'' 278 0 = v
    rw [hf.1 278 (by decide) (by decide), aUp_row (by decide), aUp_at]
  · rw [eT] at hn
    exact absurd ⟨ha', hb', hab⟩ hn
theorem g_bearsV {a : Int} (hG : GIv s0 st) (ha : 0 ≤ a ∧ a < nhS st.2.1) : VM G l 31 iX11_bears [rf 1, (0, a)] st (fun w st1 => GIv s0 st1 ∧ ∀ v : Int, VM G l 31 iX12_bears [rf 210, (0, a)] (oS st1 v) (fun w' st2 => w' = w ∧ st2.2.1 210 0 = 0 ∧ st2.2.1 278 0 = v ∧ GIv s0 st2)) := by
  obtain ⟨K, D, z⟩ := st
  obtain ⟨m, T, T2, nt, n, wo, cn, cc, hX⟩ := hG
  have hX : giX s0 m T T2 nt n wo cn cc K D z := hX
  have hT := hX.1.2.2.2.1
  have hT2 : T = 8 ∨ T = 129 := hT
  have en : nhS D = D T 0 := nhS_eq hX.2.2.2.1.1
  have ha' : 0 ≤ a ∧ a < D T 0 := by rw [← en]; exact ha
  refine v_bearsP (giX_rnH hX) ha' (fun K' D' z' m' hR => ⟨GIv_mk (giX_rn hX hR), fun v => ?_⟩)
  have hXo := giX_rn hX hR
  have hX' := giX_out (v := v) hXo
  have hX0 := giX_thr (w := 0) hX'
  have hI0 : giI T D' (aUp (aUp D' 278 0 v) 210 0 0) := giI_tr (out_I hT) (thr_I hT)
  have eT : aUp D' 278 0 v T = D T := by
    rw [aUp_row (by omega)]
    exact giI_inR (FrI_I hT hR.2.1) T (by unfold inR; omega)
  refine u_bears (D0 := aUp (aUp D' 278 0 v) 210 0 0) hX'.1.1 rfl hX'.2.1.2.2.1.1 hX'.2.1.2.2.1.2.1 (giX_nh hX').2 hX0.1.2.2.2 hX0.2.1 (giX_StR hX0) (fun _ D'' hf => ⟨?_, ?_, ?_, GIv_mk (giX_ref hX0 (FrG_M (FrM_ms hf)))⟩) (fun hn => ?_)
  · rw [(giI_vs hI0).2]
    exact giE_bu hXo.1.2.2.2 (giI_E hXo.1.2.2.2 hI0) _ _ _
  · show D'' 210 0 = 0
    rw [hf.2.1 0 (by decide) (by decide) (by decide) (by decide), aUp_at]
  · show D'' 278 0 = v
    rw [hf.1 278 (by decide) (by decide), aUp_row (by decide), aUp_at]
  · rw [eT] at hn
    exact absurd ha' hn
theorem g_lookV {q what : Int} (hG : GIv s0 st) (hq : 0 ≤ q ∧ q < st.2.1 89 0) (hw : 0 ≤ what ∧ what ≤ 6) : VM G l 31 iX11_look [rf 1, (0, q), (0, what)] st (fun w st1 => GIv s0 st1 ∧ ∀ v : Int, VM G l 31 iX12_look [rf 210, (0, q), (0, what)] (oS st1 v) (fun w' st2 => w' = w ∧ st2.2.1 210 0 = 0 ∧ st2.2.1 278 0 = v ∧ GIv s0 st2)) := by
  obtain ⟨K, D, z⟩ := st
  obtain ⟨m, T, T2, nt, n, wo, cn, cc, hX⟩ := hG
  have hX : giX s0 m T T2 nt n wo cn cc K D z := hX
  have hq : 0 ≤ q ∧ q < D 89 0 := hq
  refine v_lookP hX.1.1 hX.1.2.2.2.2.1 hX.1.2.2.2.2.2.1 hq hw ⟨GIv_mk hX, fun v => ?_⟩
  have hX' := giX_out (v := v) hX
  obtain ⟨u1, u2, u3⟩ := giX_u43 hX'
  have hT := hX.1.2.2.2.1
  have hT2 : T = 8 ∨ T = 129 := hT
  have eq : 0 ≤ q ∧ q < aUp D 278 0 v 89 0 := by rw [aUp_row (by decide)]; exact hq
  refine u_look hX'.1.1 u1 u2 u3 (fun _ => ⟨?_, (aUp_at : aUp (aUp D 278 0 v) 210 0 0 210 0 = 0), (by show aUp (aUp D 278 0 v) 210 0 0 278 0 = v; rw [aUp_row (by decide), aUp_at]), GIv_mk (giX_thr hX')⟩) (fun hn => ?_)
  · have := look_eq (what := what) hX'.2.1.1 hX'.2.1.2.1 eq
    exact this
  · rw [hX'.2.1.1.1.1] at hn
    exact absurd ⟨eq, hw⟩ hn
theorem g_clearsV {h what : Int} (hG : GIv s0 st) (hh : 0 ≤ h ∧ h < nhS st.2.1) (hw : 0 ≤ what ∧ what ≤ 4) : VM G l 31 iX11_clears [rf 1, (0, h), (0, what)] st (fun w st1 => GIv s0 st1 ∧ ∀ v : Int, VM G l 31 iX12_clears [rf 210, (0, h), (0, what)] (oS st1 v) (fun w' st2 => w' = w ∧ st2.2.1 210 0 = 0 ∧ st2.2.1 278 0 = v ∧ GIv s0 st2)) := by
  obtain ⟨K, D, z⟩ := st
  obtain ⟨m, T, T2, nt, n, wo, cn, cc, hX⟩ := hG
  have hX : giX s0 m T T2 nt n wo cn cc K D z := hX
  have hT := hX.1.2.2.2.1
  have hT2 : T = 8 ∨ T = 129 := hT
  have en : nhS D = D T 0 := nhS_eq hX.2.2.2.1.1
  have hh' : 0 ≤ h ∧ h < D T 0 := by rw [← en]; exact hh
  have n12 := giX_nh hX
  obtain ⟨nh, hn⟩ : ∃ nh : Nat, D T 0 = (nh : Nat) := ⟨(D T 0).toNat, by omega⟩
  have cl_of : ∀ (D1 : Nat → Int → Int) (m1 : Nat), giX s0 m1 T T2 nt n wo cn cc K D1 z → D1 T 0 = (nh : Nat) → ¬ D1 1 11 = 0 → ClC D1 wo T nt cn cc nh D1 := fun D1 m1 hX1 hn1 q => by
    have := (hX1.2.2.2.2.2.2.2.2).resolve_left q
    rwa [hn1, Int.toNat_natCast] at this
  have hcl := cl_of D m hX hn
  refine VM_ok ?_
  refine v_clearsP (giX_rnH hX) hn hX.2.2.2.2.1.1 hX.2.2.2.2.1.2.1 hh' hw (fun q i hi => ?_) (fun q hok _ => ⟨GIv_mk hX, fun v => ?_⟩) (fun q K' D' z' m' hR D2 hr hC hok _ => ⟨GIv_mk (giX_cl hX hn hR hr hC).1, fun v => ?_⟩)
  · rw [((hcl q).2.2 i hi).2.2.2]
    split
    · exact Or.inr rfl
    · exact Or.inl rfl
  · have hX' := giX_out (v := v) hX
    have hn' : aUp D 278 0 v T 0 = (nh : Nat) := by rw [aUp_row (by omega)]; exact hn
    have hc' : ClC (aUp D 278 0 v) wo T nt cn cc nh (aUp D 278 0 v) := cl_of _ m hX' hn' (by rw [aUp_row (by decide)]; exact q)
    have := r_clears (G := G) (l := l) (h := h) (what := what) (v := v) aUp_at hX' hc' hn' (by rw [aUp_row (by omega)]; exact hh') hw
    rw [aUp_row (by decide), aUp_row (by decide), aUp_row (by decide), aUp_row (by decide), aUp_row (by decide)] at this
    exact this ((hok _ (List.mem_cons_self)).1 rfl)
  · obtain ⟨hXo, hc'⟩ := giX_cl hX hn hR hr hC
    have eT : aUp D2 1 11 1 T = D T := by
      rw [aUp_row (by omega), hr T (by omega)]
      exact giI_inR (FrI_I hT hR.2.1) T (by unfold inR; omega)
    have hX' := giX_out (v := v) hXo
    have hn' : aUp (aUp D2 1 11 1) 278 0 v T 0 = (nh : Nat) := by rw [aUp_row (by omega), eT]; exact hn
    have hc2 : ClC (aUp (aUp D2 1 11 1) 278 0 v) wo T nt cn cc nh (aUp (aUp D2 1 11 1) 278 0 v) := by
      have := (hX'.2.2.2.2.2.2.2.2).resolve_left (by rw [aUp_row (by decide), aUp_at]; decide)
      rwa [hn', Int.toNat_natCast] at this
    have := r_clears (G := G) (l := l) (h := h) (what := what) (v := v) aUp_at hX' hc2 hn' (by rw [aUp_row (by omega), eT]; exact hh') hw
    rw [aUp_row (by decide), aUp_row (by decide), aUp_row (by decide), aUp_row (by decide), aUp_row (by decide), aUp_row (by decide), aUp_row (by decide), aUp_row (by decide), aUp_row (by decide), aUp_row (by decide)] at this
    exact this ((hok _ (List.mem_cons_self)).1 rfl)
end
