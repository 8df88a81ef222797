/-! ===== calls that ask: the rest ===== -/
theorem VM_ok {G : aCX} {l : Launch} {d y : Nat} {A : List aTV} {st : aSt} {P : Int → aSt → Prop} (h : VM G l d y A st (fun w st' => aOkL (aPush (aM y).2.2.2.2.1.2.1 w []) → aCan st' → P w st')) : VM G l d y A st P := fun hA hC p e a1 a2 a3 s m args below a4 a5 a6 a7 => by
  obtain ⟨n, o, b1, b2, b3, ⟨w, st', c1, c2, c3, c4⟩, b5⟩ := h hA hC p e a1 a2 a3 s m args below a4 a5 a6 a7
  exact ⟨n, o, b1, b2, b3, ⟨w, st', c1 c2 c3, c2, c3, c4⟩, b5⟩
section
variable {D D' : Nat → Int → Int} {T T2 nt m m' n s0 : Nat} {wo : Int → Int} {cn : Nat → Nat} {cc : Nat → Nat → Int × Int} {K K' : Nat → aKd} {z z' : Nat × Nat}
theorem giE_wn (hC : CW T nt wo cn cc D) (hE : giE D D' wo T nt cn cc (vwC D) (vwC D')) (hs : stC D' = stC D) (x : Int) : wnF (wtX D' wo T (vwC D') (stC D')) (fun i => buX D' wo T nt cn cc (vwC D') (stC D') i x) (buX D' wo T nt cn cc (vwC D') (stC D') (-1) x) (D' 89 0).toNat = wnF (wtX D wo T (vwC D) (stC D)) (fun i => buX D wo T nt cn cc (vwC D) (stC D) i x) (buX D wo T nt cn cc (vwC D) (stC D) (-1) x) (D 89 0).toNat := by
  have e1 : wtX D' wo T (vwC D') (stC D) = wtX D wo T (vwC D) (stC D) := by
    funext i
    unfold wtX
    rw [(hE.1 (stC D) (-1)).1]
  have e2 : (fun i : Nat => buX D' wo T nt cn cc (vwC D') (stC D) i x) = fun i : Nat => buX D wo T nt cn cc (vwC D) (stC D) i x := by
    funext i
    exact giE_bu hC hE _ _ _
  rw [hs, e1, e2, giE_bu hC hE, hE.2.2.2.1]
theorem giX_ts (hX : giX s0 m T T2 nt n wo cn cc K D z) (hI : CI s0 m' T nt wo cn cc K' D' z') (h : TsD D wo T nt cn cc (vwC D) (stC D) D') : giX s0 m' T T2 nt n wo cn cc K' (aUp D' 1 10 0) z' ∧ aUp D' 1 10 0 116 1 = 1 := by
  have hT := hX.1.2.2.2.1
  have hT2 : T = 8 ∨ T = 129 := hT
  obtain ⟨f, f16, f17⟩ := h
  have row : ∀ r, r ≠ 1 → aUp D' 1 10 0 r = D' r := fun r q => aUp_row q
  have rw2 : ∀ r, r ≠ 1 → frT T r → r ≠ 116 → aUp D' 1 10 0 r = D r := fun r q1 q2 q3 => by rw [row r q1]; exact f r q2 q3
  have c1 : ∀ j : Int, j ≠ 10 → aUp D' 1 10 0 1 j = D 1 j := fun j q => by rw [aUp_ne q, f 1 (by unfold frT rkR; omega) (by decide)]
  have e16 : ∀ j : Int, aUp D' 1 10 0 116 j = uF (D 116) 1 1 j := fun j => by rw [row 116 (by decide), f16]
  have e2 := rw2 2 (by decide) (by unfold frT rkR; omega) (by decide)
  have e5 := rw2 5 (by decide) (by unfold frT rkR; omega) (by decide)
  have e210 := rw2 210 (by decide) (by unfold frT rkR; omega) (by decide)
  have hI2 : giI T D (aUp D' 1 10 0) := by
    refine ⟨fun x q => rw2 x ?_ ?_ ?_, fun j q1 q2 => c1 j (by omega), by rw [e2], by rw [e5], fun j q => by rw [e210]⟩
    · unfold giN inR at q; omega
    · unfold giN inR at q; unfold frT rkR; omega
    · unfold giN inR at q; omega
  have hE := giI_E hX.1.2.2.2 hI2
  have hs := (giI_vs hI2).2
  obtain ⟨b1, b2, b3, b4⟩ := hX.2.2.2.2.2
  have k1 : aUp D' 1 10 0 116 1 = 1 := by rw [e16]; exact uF_at
  refine ⟨giI_keep hX hI2 (CI_keep hI (fun r q => row r (by unfold inR at q; omega))) ⟨Or.inl aUp_at, Or.inr ⟨k1, fun x hx => ?_⟩, chW_keep hX.1.2.2.2 hE hs (by rw [e16]; exact uF_ne (by decide)) (by rw [e16]; exact uF_ne (by decide)) (rw2 120 (by decide) (by unfold frT rkR; omega) (by decide)) b3, chC_keep hX.1.2.2.2 hE hs (rw2 272 (by decide) (by unfold frT rkR; omega) (by decide)) (c1 11 (by decide)) (rw2 121 (by decide) (by unfold frT rkR; omega) (by decide)) (fun x q1 q2 => rw2 x (by omega) (by unfold frT rkR; omega) (by omega)) b4⟩, k1⟩
  rw [hE.2.2.2.2.2] at hx
  rw [row 117 (by decide), giE_wn hX.1.2.2.2 hE hs]
  exact f17 x hx
theorem giX_st (hX : giX s0 m T T2 nt n wo cn cc K D z) (hI : CI s0 m' T nt wo cn cc K' D' z') (h : StormD D wo T nt cn cc (vwC D) (stC D) D') : giX s0 m' T T2 nt n wo cn cc K' (aUp D' 1 10 0) z' ∧ giI T D (aUp D' 1 10 0) := by
  have hT := hX.1.2.2.2.1
  have hT2 : T = 8 ∨ T = 129 := hT
  obtain ⟨f, f16, f17⟩ := h
  have row : ∀ r, r ≠ 1 → aUp D' 1 10 0 r = D' r := fun r q => aUp_row q
  have rw2 : ∀ r, r ≠ 1 → frS T r → aUp D' 1 10 0 r = D r := fun r q1 q2 => by rw [row r q1]; exact f r q2
  have c1 : ∀ j : Int, j ≠ 10 → aUp D' 1 10 0 1 j = D 1 j := fun j q => by rw [aUp_ne q, f 1 (by unfold frS rkR; omega)]
  have e16 : ∀ j : Int, aUp D' 1 10 0 116 j = uF (uF (D 116) 7 (prX D wo T (vwC D) (stC D))) 2 1 j := fun j => by rw [row 116 (by decide), f16]
  have e2 := rw2 2 (by decide) (by unfold frS rkR; omega)
  have e5 := rw2 5 (by decide) (by unfold frS rkR; omega)
  have e210 := rw2 210 (by decide) (by unfold frS rkR; omega)
  have hI2 : giI T D (aUp D' 1 10 0) := by
    refine ⟨fun x q => rw2 x ?_ ?_, fun j q1 q2 => c1 j (by omega), by rw [e2], by rw [e5], fun j q => by rw [e210]⟩
    · unfold giN inR at q; omega
    · unfold giN inR at q; unfold frS rkR; omega
  have hE := giI_E hX.1.2.2.2 hI2
  have hs := (giI_vs hI2).2
  obtain ⟨b1, b2, b3, b4⟩ := hX.2.2.2.2.2
  have ep : prX (aUp D' 1 10 0) wo T (vwC (aUp D' 1 10 0)) (stC D) = prX D wo T (vwC D) (stC D) := by
    show prF (evX (aUp D' 1 10 0) wo T (vwC (aUp D' 1 10 0)) (stC D) (-1)).2.2.1 (aUp D' 1 10 0 94) (aUp D' 1 10 0 89 0).toNat = prF (evX D wo T (vwC D) (stC D) (-1)).2.2.1 (D 94) (D 89 0).toNat
    rw [(hE.1 (stC D) (-1)).1, hE.2.2.2.1, hE.2.2.2.2.1]
  refine ⟨giI_keep hX hI2 (CI_keep hI (fun r q => row r (by unfold inR at q; omega))) ⟨Or.inl aUp_at, chS_keep hX.1.2.2.2 hE hs (by rw [e16, uF_ne (by decide), uF_ne (by decide)]) (rw2 117 (by decide) (by unfold frS rkR; omega)) b2, Or.inr ⟨?_, ?_, fun s x q1 q2 q3 => ?_⟩, chC_keep hX.1.2.2.2 hE hs (rw2 272 (by decide) (by unfold frS rkR; omega)) (c1 11 (by decide)) (rw2 121 (by decide) (by unfold frS rkR; omega)) (fun x q1 q2 => rw2 x (by omega) (by unfold frS rkR; omega)) b4⟩, hI2⟩
  · rw [e16]; exact uF_at
  · rw [hs, ep, e16, uF_ne (by decide), uF_at]
  · rw [hs, ep] at q2
    rw [hE.2.2.2.2.2] at q3
    rw [row 120 (by decide), giE_bu hX.1.2.2.2 hE]
    exact f17 s x q1 q2 q3
theorem kn_eq {h y lag : Int} (hB : CpB wo D) : knM D h y lag = knC D wo h y lag := by
  show sumF (knG (D 238) (D 239) (D 245) (D 246) (D 247) (D 210 45).toNat h y lag) (D 210 37).toNat = sumF (knG (D 90) (D 91) wo (D 98) (D 99) (D 89 1).toNat h y lag) (D 89 0).toNat
  rw [hB.1.1, hB.1.2]
  refine sumF_congr fun k hk => ?_
  obtain ⟨a1, a2, -⟩ := hB.2.1 k (by omega) (by omega)
  unfold knG laF
  rw [a1, a2, amF_congr (fun j hj => hB.2.2 j (by omega))]
theorem fa_eq {h lag v : Int} (hB : CpB wo D) : faM D h lag v = faC D wo h lag v := by
  have es : ∀ q, soF (D 238) (D 239) (D 245) (D 246) (D 247) (D 210 37).toNat (D 210 45).toNat h lag v q = soF (D 90) (D 91) wo (D 98) (D 99) (D 89 0).toNat (D 89 1).toNat h lag v q := fun q => by
    unfold soF
    rw [hB.1.1, hB.1.2]
    refine sumF_congr fun k hk => ?_
    obtain ⟨a1, a2, -⟩ := hB.2.1 k (by omega) (by omega)
    unfold soG laF
    rw [a1, a2, amF_congr (fun j hj => hB.2.2 j (by omega))]
  show faF (D 238) (D 239) (D 245) (D 246) (D 247) (D 210 37).toNat (D 210 45).toNat h lag v = faF (D 90) (D 91) wo (D 98) (D 99) (D 89 0).toNat (D 89 1).toNat h lag v
  unfold faF
  rw [es, es]
theorem giX_mk (hX : giX s0 m T T2 nt n wo cn cc K D z) : MkB D ∧ vwM D = vwC D ∧ vwM D ≤ 9999 := by
  have hB := hX.2.1.1
  have hV := hX.2.1.2.1
  have nl := giX_nl hX
  have bk := hX.1.2.2.2.2.2.1
  have ev := vw_eq hV
  refine ⟨⟨⟨?_, ?_, ?_, ?_⟩, fun k hk => ?_, fun k hk => ?_⟩, ev, ?_⟩
  · rw [hB.1.1]; exact nl.1.1
  · rw [hB.1.1]; exact nl.1.2
  · rw [hB.1.2]; exact nl.2.1
  · rw [hB.1.2]; exact nl.2.2
  · rw [hB.1.1] at hk
    rw [(hB.2.1 k (by omega) (by omega)).2.1]
    exact (bk.1 k (by omega) (by omega)).2.1
  · rw [hB.1.2] at hk
    rw [(hB.2.2 k (by omega)).2.2]
    exact bk.2 k hk
  · rw [ev]
    obtain ⟨-, v3, v4, -⟩ := hV
    show (if D 1 8 = -1 then D 1 7 else D 1 8) ≤ 9999
    split <;> omega
end
section
variable {G : aCX} {l : Launch} {s0 : Nat} {st : aSt}
theorem r_wants {m T T2 nt n : Nat} {wo : Int → Int} {cn : Nat → Nat} {cc : Nat → Nat → Int × Int} {K : Nat → aKd} {D : Nat → Int → Int} {z : Nat × Nat} {h : Int} (hX : giX s0 m T T2 nt n wo cn cc K D z) (h1 : D 116 1 = 1) (hh : 0 ≤ h ∧ h < D T 0) : VM G l 31 iX12_wants [rf 210, (0, h)] (K, D, z) (fun w' st2 => w' = D 117 h ∧ GIv s0 st2) := by
  have hX0 := giX_thr (w := 0) hX
  have eT : aUp D 210 0 0 T = D T := thr_T hX.1.2.2.2.1
  refine u_wants (D0 := aUp D 210 0 0) (stm := stC (aUp D 210 0 0)) hX.1.1 rfl hX0.1.2.2.2 hX0.2.1 (giX_StR hX0) (fun _ D'' hf _ => ⟨?_, GIv_mk (giX_ref hX0 (FrG_M hf))⟩) (fun hn => ?_)
  · rw [← wants_eq hX0.1.2.2.2]
    rcases hX0.2.2.2.2.2.2.1 with q | ⟨-, q⟩
    · rw [aUp_row (by decide)] at q; omega
    · have := q h.toNat (by rw [eT]; omega)
      rw [show ((h.toNat : Nat) : Int) = h by omega] at this
      rw [← this, aUp_row (by decide)]
  · rw [eT] at hn; exact absurd hh hn
theorem g_wants {h : Int} (hG : GIv s0 st) : VM G l 31 iX11_wants [rf 1, (0, h)] st (fun w st1 => Kn st1.1 ∧ VM G l 31 iX12_wants [rf 210, (0, h)] st1 (fun w' st2 => w' = w ∧ GIv s0 st2)) := by
  obtain ⟨K, D, z⟩ := st
  obtain ⟨m, T, T2, nt, n, wo, cn, cc, hX⟩ := hG
  have hX : giX s0 m T T2 nt n wo cn cc K D z := hX
  have hT := hX.1.2.2.2.1
  have hT2 : T = 8 ∨ T = 129 := hT
  refine v_wants hX.1 hX.2.2.2.1.1 hX.2.2.2.2.2.2.1 (fun hn => ?_) (fun hh h1 => ⟨hX.1.1, r_wants hX h1 hh⟩) (fun hh h1 K' D' z' m' hI hS => ?_)
  · have hX0 := giX_thr (w := 0) hX
    have eT : aUp D 210 0 0 T = D T := thr_T hT
    refine ⟨hX.1.1, ?_⟩
    refine u_wants (D0 := aUp D 210 0 0) (stm := stC (aUp D 210 0 0)) hX.1.1 rfl hX0.1.2.2.2 hX0.2.1 (giX_StR hX0) (fun hh => ?_) (fun _ => ⟨rfl, GIv_mk hX0⟩)
    rw [eT] at hh; exact absurd hh hn
  · obtain ⟨hX', h1'⟩ := giX_ts hX hI hS
    have eT : aUp D' 1 10 0 T = D T := by
      rw [aUp_row (by omega)]
      exact hS.1 T (by unfold frT rkR; omega) (by omega)
    have := r_wants (G := G) (l := l) hX' h1' (h := h) (by rw [eT]; exact hh)
    rw [aUp_row (by decide)] at this
    exact ⟨hI.1, this⟩
theorem r_worst {m T T2 nt n : Nat} {wo : Int → Int} {cn : Nat → Nat} {cc : Nat → Nat → Int × Int} {K : Nat → aKd} {D : Nat → Int → Int} {z : Nat × Nat} {h u : Int} {k : Nat} (hX : giX s0 m T T2 nt n wo cn cc K D z) (hu : u = (k : Int)) (hk : 1 ≤ k ∧ k ≤ 6) (hh : 0 ≤ h ∧ h < D T 0) : VM G l 31 iX12_worst [rf 210, (0, h), (0, u)] (K, D, z) (fun w' st2 => w' = wsF (prX D wo T (vwC D) (stC D)) (fun s : Nat => buX D wo T nt cn cc (vwC D) s (-1) h) k ∧ GIv s0 st2) := by
  have hX0 := giX_thr (w := 0) hX
  have eT : aUp D 210 0 0 T = D T := thr_T hX.1.2.2.2.1
  have hI0 : giI T D (aUp D 210 0 0) := thr_I hX.1.2.2.2.1
  have hE := giI_E hX.1.2.2.2 hI0
  have hs := (giI_vs hI0).2
  refine u_worst (D0 := aUp D 210 0 0) (stm := fun s : Nat => bAnd s (bXor (aUp D 210 0 0 1 9) (-1))) hX.1.1 rfl hX0.1.2.2.2 hX0.2.1 (fun s _ => StR_of hX0.1.2.2.2 hX0.2.1.2.1 s _) (fun k' hk' _ _ D'' hf _ => ⟨?_, GIv_mk (giX_ref hX0 (FrG_M hf))⟩) (fun hn => ?_)
  · have hkk : k' = k := by omega
    subst hkk
    have e := worst_eq (h := h) (k := k') hX0.1.2.2.2 hX0.2.1.2.1
    have ep : prX (aUp D 210 0 0) wo T (vwC (aUp D 210 0 0)) (stC D) = prX D wo T (vwC D) (stC D) := by
      show prF (evX (aUp D 210 0 0) wo T (vwC (aUp D 210 0 0)) (stC D) (-1)).2.2.1 (aUp D 210 0 0 94) (aUp D 210 0 0 89 0).toNat = prF (evX D wo T (vwC D) (stC D) (-1)).2.2.1 (D 94) (D 89 0).toNat
      rw [(hE.1 (stC D) (-1)).1, hE.2.2.2.1, hE.2.2.2.2.1]
    have eb : (fun s : Nat => buX (aUp D 210 0 0) wo T nt cn cc (vwC (aUp D 210 0 0)) s (-1) h) = fun s : Nat => buX D wo T nt cn cc (vwC D) s (-1) h := by
      funext s
      exact giE_bu hX.1.2.2.2 hE _ _ _
    have e' : wsF (prX (aUp D 210 0 0) wo T (vwC (aUp D 210 0 0)) (stC (aUp D 210 0 0))) (fun s : Nat => buX (aUp D 210 0 0) wo T nt cn cc (vwC (aUp D 210 0 0)) s (-1) h) k' = _ := e
    rw [hs, ep, eb] at e'
    rw [e']
  · rw [eT] at hn
    exact absurd ⟨hh, by omega, by omega⟩ hn
theorem g_worst {h u : Int} (hG : GIv s0 st) : VM G l 31 iX11_worst [rf 1, (0, h), (0, u)] st (fun w st1 => Kn st1.1 ∧ VM G l 31 iX12_worst [rf 210, (0, h), (0, u)] st1 (fun w' st2 => w' = w ∧ GIv s0 st2)) := by
  obtain ⟨K, D, z⟩ := st
  obtain ⟨m, T, T2, nt, n, wo, cn, cc, hX⟩ := hG
  have hX : giX s0 m T T2 nt n wo cn cc K D z := hX
  have hT := hX.1.2.2.2.1
  have hT2 : T = 8 ∨ T = 129 := hT
  refine v_worst hX.1 hX.2.2.2.1.1 hX.2.2.2.2.2.2.2.1 (fun hn => ?_) (fun hh k hu hk h1 => ⟨hX.1.1, r_worst hX hu hk hh⟩) (fun hh k hu hk h1 K' D' z' m' hI hS => ?_)
  · have hX0 := giX_thr (w := 0) hX
    have eT : aUp D 210 0 0 T = D T := thr_T hT
    refine ⟨hX.1.1, ?_⟩
    refine u_worst (D0 := aUp D 210 0 0) (stm := fun s : Nat => bAnd s (bXor (aUp D 210 0 0 1 9) (-1))) hX.1.1 rfl hX0.1.2.2.2 hX0.2.1 (fun s _ => StR_of hX0.1.2.2.2 hX0.2.1.2.1 s _) (fun k hk hh hk2 => ?_) (fun _ => ⟨rfl, GIv_mk hX0⟩)
    rw [eT] at hh; exact absurd ⟨hh, by omega, by omega⟩ hn
  · obtain ⟨hX', hI2⟩ := giX_st hX hI hS
    have hE := giI_E hX.1.2.2.2 hI2
    have hs := (giI_vs hI2).2
    have := r_worst (G := G) (l := l) hX' (h := h) hu hk (by rw [hE.2.2.2.2.2]; exact hh)
    have ep : prX (aUp D' 1 10 0) wo T (vwC (aUp D' 1 10 0)) (stC D) = prX D wo T (vwC D) (stC D) := by
      show prF (evX (aUp D' 1 10 0) wo T (vwC (aUp D' 1 10 0)) (stC D) (-1)).2.2.1 (aUp D' 1 10 0 94) (aUp D' 1 10 0 89 0).toNat = prF (evX D wo T (vwC D) (stC D) (-1)).2.2.1 (D 94) (D 89 0).toNat
      rw [(hE.1 (stC D) (-1)).1, hE.2.2.2.1, hE.2.2.2.2.1]
    have eb : (fun s : Nat => buX (aUp D' 1 10 0) wo T nt cn cc (vwC (aUp D' 1 10 0)) s (-1) h) = fun s : Nat => buX D wo T nt cn cc (vwC D) s (-1) h := by
      funext s
      exact giE_bu hX.1.2.2.2 hE _ _ _
    rw [hs, ep, eb] at this
    exact ⟨hI.1, this⟩
theorem g_known {h y lag : Int} (hG : GIv s0 st) : VM G l 31 iX11_known [rf 1, (0, h), (0, y), (0, lag)] st (fun w st1 => Kn st1.1 ∧ VM G l 31 iX12_known [rf 210, (0, h), (0, y), (0, lag)] st1 (fun w' st2 => w' = w ∧ GIv s0 st2)) := by
  obtain ⟨K, D, z⟩ := st
  obtain ⟨m, T, T2, nt, n, wo, cn, cc, hX⟩ := hG
  have hX : giX s0 m T T2 nt n wo cn cc K D z := hX
  obtain ⟨hM, ev, h9⟩ := giX_mk hX
  have gi : GIv s0 (K, aUp D 210 0 0, z) := GIv_mk (giX_thr hX)
  refine v_known hX.1.1 hX.1.2.2.2.2.1 hX.1.2.2.2.2.2.1 (fun hy => ?_) (fun hn => ?_)
  · exact ⟨hX.1.1, u_knownP hX.1.1 hM (fun _ => ⟨kn_eq hX.2.1.1, gi⟩) (fun hn => absurd (by rw [ev]; exact hy) hn)⟩
  · exact ⟨hX.1.1, u_knownP hX.1.1 hM (fun hy => absurd (by rw [← ev]; exact hy) hn) (fun _ => ⟨rfl, gi⟩)⟩
theorem g_factor {h lag : Int} (hG : GIv s0 st) : VM G l 31 iX11_factor [rf 1, (0, h), (0, lag)] st (fun w st1 => Kn st1.1 ∧ VM G l 31 iX12_factor [rf 210, (0, h), (0, lag)] st1 (fun w' st2 => w' = w ∧ GIv s0 st2)) := by
  obtain ⟨K, D, z⟩ := st
  obtain ⟨m, T, T2, nt, n, wo, cn, cc, hX⟩ := hG
  have hX : giX s0 m T T2 nt n wo cn cc K D z := hX
  obtain ⟨hM, ev, h9⟩ := giX_mk hX
  have gi : GIv s0 (K, aUp D 210 0 0, z) := GIv_mk (giX_thr hX)
  refine v_factor hX.1.1 hX.1.2.2.2.2.1 hX.1.2.2.2.2.2.1 (fun hy => ?_) (fun hn => ?_)
  · exact ⟨hX.1.1, u_factor hX.1.1 hM h9 (fun _ => ⟨by rw [ev]; exact fa_eq hX.2.1.1, gi⟩) (fun hn => absurd hy hn)⟩
  · exact ⟨hX.1.1, u_factor hX.1.1 hM h9 (fun hy => absurd hy hn) (fun _ => ⟨rfl, gi⟩)⟩
theorem g_foretold {h y : Int} (hG : GIv s0 st) : VM G l 31 iX11_foretold [rf 1, (0, h), (0, y)] st (fun w st1 => Kn st1.1 ∧ VM G l 31 iX12_foretold [rf 210, (0, h), (0, y)] st1 (fun w' st2 => w' = w ∧ GIv s0 st2)) := by
  obtain ⟨K, D, z⟩ := st
  obtain ⟨m, T, T2, nt, n, wo, cn, cc, hX⟩ := hG
  have hX : giX s0 m T T2 nt n wo cn cc K D z := hX
  obtain ⟨hM, ev, h9⟩ := giX_mk hX
  have gi : GIv s0 (K, aUp D 210 0 0, z) := GIv_mk (giX_thr hX)
  refine v_foretold hX.1.1 hX.1.2.2.2.2.1 hX.1.2.2.2.2.2.1 (fun hy => ?_) (fun hn => ?_)
  · refine ⟨hX.1.1, ?_⟩
    refine u_foretold hX.1.1 hM h9 (fun _ => ⟨?_, gi⟩) (fun hn => absurd hy hn)
    have e : (fun i => faM D h i (vwC D)) = fun i => faC D wo h i (vwC D) := by
      funext i
      exact fa_eq hX.2.1.1
    rw [ev, kn_eq hX.2.1.1, e]
  · exact ⟨hX.1.1, u_foretold hX.1.1 hM h9 (fun hy => absurd hy hn) (fun _ => ⟨rfl, gi⟩)⟩
theorem look_eq {wo : Int → Int} {D : Nat → Int → Int} {q what : Int} (hB : CpB wo D) (hV : CpV D) (hq : 0 ≤ q ∧ q < D 89 0) : (if what = 0 then D 238 q else if what = 1 then D 239 q else if what = 2 then D 240 q else if what = 3 then D 241 q else if what = 4 then D 242 q else if what = 5 then amF (D 245) (D 246) (D 247) q (vwM D) (D 210 45).toNat else D 243 q) = if what = 0 then D 90 q else if what = 1 then D 91 q else if what = 2 then D 92 q else if what = 3 then D 93 q else if what = 4 then D 94 q else if what = 5 then amF wo (D 98) (D 99) q (vwC D) (D 89 1).toNat else D 95 q := by
  obtain ⟨a1, a2, a3, a4, a5, a6⟩ := hB.2.1 q hq.1 hq.2
  have e : amF (D 245) (D 246) (D 247) q (vwM D) (D 210 45).toNat = amF wo (D 98) (D 99) q (vwC D) (D 89 1).toNat := by
    rw [vw_eq hV, hB.1.2]
    exact amF_congr (fun j hj => hB.2.2 j (by omega))
  rw [a1, a2, a3, a4, a5, a6, e]
theorem giX_u43 {m T T2 nt n : Nat} {wo : Int → Int} {cn : Nat → Nat} {cc : Nat → Nat → Int × Int} {K : Nat → aKd} {D : Nat → Int → Int} {z : Nat × Nat} (hX : giX s0 m T T2 nt n wo cn cc K D z) : D 210 37 ≤ 60 ∧ (0 ≤ D 210 45 ∧ D 210 45 ≤ 300) ∧ ∀ q : Int, 0 ≤ q → q < D 210 37 → D 243 q = 0 ∨ D 243 q = 1 := by
  have hB := hX.2.1.1
  have nl := giX_nl hX
  refine ⟨by rw [hB.1.1]; exact nl.1.2, by rw [hB.1.2]; exact nl.2, fun q q1 q2 => ?_⟩
  rw [hB.1.1] at q2
  rw [(hB.2.1 q q1 q2).2.2.2.2.2]
  exact (hX.1.2.2.2.2.2.1.1 q q1 q2).2.2.2.2.2
theorem g_lookY {q what : Int} (hG : GIv s0 st) (hq : 0 ≤ q ∧ q < st.2.1 89 0) (hw : 0 ≤ what ∧ what ≤ 6) : VM G l 31 iX11_look [rf 1, (0, q), (0, what)] st (fun w st1 => VM G l 31 iX12_look [rf 210, (0, q), (0, what)] st1 (fun w' st2 => w' = w ∧ st2.2.1 210 0 = 0 ∧ GIv s0 st2)) := by
  obtain ⟨K, D, z⟩ := st
  obtain ⟨m, T, T2, nt, n, wo, cn, cc, hX⟩ := hG
  have hX : giX s0 m T T2 nt n wo cn cc K D z := hX
  have hq : 0 ≤ q ∧ q < D 89 0 := hq
  obtain ⟨u1, u2, u3⟩ := giX_u43 hX
  refine v_lookP hX.1.1 hX.1.2.2.2.2.1 hX.1.2.2.2.2.2.1 hq hw ?_
  refine u_look hX.1.1 u1 u2 u3 (fun _ => ⟨look_eq hX.2.1.1 hX.2.1.2.1 hq, (aUp_at : aUp D 210 0 0 210 0 = 0), GIv_mk (giX_thr hX)⟩) (fun hn => ?_)
  rw [hX.2.1.1.1.1] at hn
  exact absurd ⟨hq, hw⟩ hn
theorem g_lookN {q what : Int} (hG : GIv s0 st) (h : ¬ ((0 ≤ q ∧ q < st.2.1 89 0) ∧ 0 ≤ what ∧ what ≤ 6)) : VM G l 31 iX12_look [rf 210, (0, q), (0, what)] st (fun _ st2 => st2.2.1 210 0 = 1 ∧ GIv s0 st2) := by
  obtain ⟨K, D, z⟩ := st
  obtain ⟨m, T, T2, nt, n, wo, cn, cc, hX⟩ := hG
  have hX : giX s0 m T T2 nt n wo cn cc K D z := hX
  have h : ¬ ((0 ≤ q ∧ q < D 89 0) ∧ 0 ≤ what ∧ what ≤ 6) := h
  obtain ⟨u1, u2, u3⟩ := giX_u43 hX
  refine u_look hX.1.1 u1 u2 u3 (fun hn => ?_) (fun _ => ⟨(aUp_at : aUp D 210 0 1 210 0 = 1), GIv_mk (giX_thr hX)⟩)
  rw [hX.2.1.1.1.1] at hn
  exact absurd hn h
end
