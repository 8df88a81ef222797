/-! ===== the law: its loop ===== -/
theorem and31 (x : Int32) : ∃ j : Nat, j < 32 ∧ x &&& 31 = Int32.ofNat j := by
  refine ⟨(x.toBitVec &&& 31#32).toNat, ?_, ?_⟩
  · rw [BitVec.toNat_and]
    exact Nat.lt_of_le_of_lt Nat.and_le_right (by decide)
  · apply Int32.toBitVec_inj.mp
    show x.toBitVec &&& 31#32 = BitVec.ofNat 32 _
    rw [BitVec.ofNat_toNat, BitVec.setWidth_eq]
theorem lwB_01 {v : Int32} : (if v = 0 then (0 : Int) else 1) = 0 ∨ (if v = 0 then (0 : Int) else 1) = 1 := by
  split
  · exact Or.inl rfl
  · exact Or.inr rfl
section
variable {G : aCX} {l : Launch} {p : Program} {e : Env} {R : Room} {s : State} {m : MethodId} {args : Array Value} {below : List Frame} {meth : Method} {c : Code} {Q : State → Prop} {st : aSt} {H : Heap} {locs : List Loc} {ls : Array Slot} {pc b Ls iN s0 : Nat} {xs : Nat → Int32} {adK adV adT : Nat → Nat}
theorem lw_body (hl0 : l.stackTraces = false) (hX : aCtx G 33 mL_law p R s m args meth c) (hsE : ∀ vm, G.2.2.2.2.1 vm → sE G.1.1 G.2.2.2.1 adK adV vm) (hT : tE G.1.1 G.2.2.2.1 adT s.vm) (hv : va_X b Ls xs s s.heap ∧ b < s.heap.size ∧ Ls ≤ 3584 ∧ G.1.1 + 1 = s.heap.size ∧ G.2.2.2.1 = s.heap) (hl : lv_has ls 7 (lwV b (aAd G 1) (aAd G 210) (aAd G 278) iN)) (hi : iN + 6 < Ls) (hE : lwE2 G l p e R s m args below meth c Q s0 b iN) (hs0 : s0 ≤ 100000) (hg : gS G.1.2 st.2.2.1 < 1000) (hG : GIv s0 st) (hC : aCan st) (hH : aHold G st H) (hlo : ∀ q ∈ locs, G.1.1 < q.base) : W p l e R s m args below meth c H locs 3000 200000 Q (F0 m 33 ls []) := by
  obtain ⟨v1, v2, v3, v4, v5⟩ := id hv
  obtain ⟨l7, l0, l1, l2, l3, l4⟩ := lwL_of (tl := []) hl
  have hx := hX.1
  have hb := hX.2.1
  obtain ⟨-, -, -, hSS⟩ := lwS_of v1 v2 v3 v4 v5 hC hH hlo
  refine lv_aload_n hx hb (by decide +kernel : decode code 33 = .ok (.aload_n 0, 1)) rfl l0 ?_
  refine lv_iload hx hb (by decide +kernel : decode code 34 = .ok (.iload 4, 2)) l4 ?_
  refine va_sld hx hb v1 v2 (fun q => by omega) hSS (ix_in (by omega) (by omega)) (by decide +kernel : decode code 36 = .ok (.iaload, 1)) ?_
  rw [ix_nat (by omega)]
  refine lv_bipush (v := 31) hx hb (by decide +kernel : decode code 37 = .ok (.bipush 31, 2)) rfl ?_
  refine lv_iand hx hb (by decide +kernel : decode code 39 = .ok (.iand, 1)) ?_
  obtain ⟨j, hj, ej⟩ := and31 (xs iN)
  rw [ej]
  have hX2 : aCtx G 32 mL_law p R s m args meth c := by
    obtain ⟨a1, a2, a3, a4, a5, a6, a7, a8, a9, a10, a11, a12, a13, a14, a15⟩ := hX
    exact ⟨a1, a2, a3, a4, a5, a6, a7, a8, a9, a10, by omega, by omega, by omega, by omega, a15⟩
  have hEp : lwE G l p e R s m args below meth c Q s0 ls := fun st H locs a1 a2 a3 a4 => lwE2_G hE ls st H locs hl a1 a2 a3 a4
  have d40 : decode code 40 = .ok (.tableswitch 1302 0 25 #[120, 145, 170, 317, 330, 417, 454, 507, 560, 573, 610, 635, 684, 733, 758, 795, 863, 919, 944, 981, 1018, 1086, 1135, 1172, 1209, 1277], 120) := by decide +kernel
  rcases (by omega : j = 0 ∨ j = 1 ∨ j = 2 ∨ j = 3 ∨ j = 4 ∨ j = 5 ∨ j = 6 ∨ j = 7 ∨ j = 8 ∨ j = 9 ∨ j = 10 ∨ j = 11 ∨ j = 12 ∨ j = 13 ∨ j = 14 ∨ j = 15 ∨ j = 16 ∨ j = 17 ∨ j = 18 ∨ j = 19 ∨ j = 20 ∨ j = 21 ∨ j = 22 ∨ j = 23 ∨ j = 24 ∨ j = 25 ∨ 26 ≤ j) with rfl | rfl | rfl | rfl | rfl | rfl | rfl | rfl | rfl | rfl | rfl | rfl | rfl | rfl | rfl | rfl | rfl | rfl | rfl | rfl | rfl | rfl | rfl | rfl | rfl | rfl | h26
  · exact lv_tableIn (tgt := 160) (off := 120) hx hb d40 (by decide) (by decide) rfl (by decide) (lw_days hX2 hv (lwL_of (tl := []) hl) hi hEp hG hC hH hlo (g_days hG))
  · exact lv_tableIn (tgt := 185) (off := 145) hx hb d40 (by decide) (by decide) rfl (by decide) (lw_view hX2 hv (lwL_of (tl := []) hl) hi hEp hG hC hH hlo (g_view hG))
  · exact lv_tableIn (tgt := 210) (off := 170) hx hb d40 (by decide) (by decide) rfl (by decide) (lw_feed hX2 hv (lwL_of (tl := []) hl) hi hEp hG hC hH hlo (g_feed hG))
  · exact lv_tableIn (tgt := 357) (off := 317) hx hb d40 (by decide) (by decide) rfl (by decide) (lw_wording hX2 hv (lwL_of (tl := []) hl) hi hEp hG hC hH hlo (g_wording (sgR_of hsE) hG))
  · exact lv_tableIn (tgt := 370) (off := 330) hx hb d40 (by decide) (by decide) rfl (by decide) (lw_loss hX2 hv (lwL_of (tl := []) hl) hi hEp hG hC hH hlo (g_loss hG))
  · exact lv_tableIn (tgt := 457) (off := 417) hx hb d40 (by decide) (by decide) rfl (by decide) (lw_word hX2 hv (lwL_of (tl := []) hl) hi hEp hG hC hH hlo (g_word hG))
  · exact lv_tableIn (tgt := 494) (off := 454) hx hb d40 (by decide) (by decide) rfl (by decide) (lw_split hX2 hv (lwL_of (tl := []) hl) hi hEp hG hC hH hlo (g_split lwB_01 hG))
  · exact lv_tableIn (tgt := 547) (off := 507) hx hb d40 (by decide) (by decide) rfl (by decide) (lw_leave hX2 hv (lwL_of (tl := []) hl) hi hEp hG hC hH hlo (g_leave lwB_01 hG))
  · exact lv_tableIn (tgt := 600) (off := 560) hx hb d40 (by decide) (by decide) rfl (by decide) (lw_events hX2 hv (lwL_of (tl := []) hl) hi hEp hG hC hH hlo (g_events hG))
  · exact lv_tableIn (tgt := 613) (off := 573) hx hb d40 (by decide) (by decide) rfl (by decide) (lw_event hX2 hv (lwL_of (tl := []) hl) hi hEp hG hC hH hlo (g_event hG))
  · exact lv_tableIn (tgt := 650) (off := 610) hx hb d40 (by decide) (by decide) rfl (by decide) (lw_eventOf hX2 hv (lwL_of (tl := []) hl) hi hEp hG hC hH hlo (g_eventOf hG))
  · exact lv_tableIn (tgt := 675) (off := 635) hx hb d40 (by decide) (by decide) rfl (by decide) (lw_gross hX2 hv (lwL_of (tl := []) hl) hi hEp hG hC hH hlo (g_gross hG))
  · exact lv_tableIn (tgt := 724) (off := 684) hx hb d40 (by decide) (by decide) rfl (by decide) (lw_treaty hX2 hv (lwL_of (tl := []) hl) hi hEp hG hC hH hlo (g_treaty hG))
  · exact lv_tableIn (tgt := 773) (off := 733) hx hb d40 (by decide) (by decide) rfl (by decide) (lw_left hX2 hv (lwL_of (tl := []) hl) hi hEp hG hC hH hlo (g_left hG))
  · exact lv_tableIn (tgt := 798) (off := 758) hx hb d40 (by decide) (by decide) rfl (by decide) (lw_commute hX2 hv (lwL_of (tl := []) hl) hi hEp hG hC hH hlo (g_commute hG))
  · exact lv_tableIn (tgt := 835) (off := 795) hx hb d40 (by decide) (by decide) rfl (by decide) (lw_owed hl0 hX hT hv hl hi hE hs0 hg hG hC hH hlo)
  · exact lv_tableIn (tgt := 903) (off := 863) hx hb d40 (by decide) (by decide) rfl (by decide) (lw_bears hl0 hX hT hv hl hi hE hs0 hg hG hC hH hlo)
  · exact lv_tableIn (tgt := 959) (off := 919) hx hb d40 (by decide) (by decide) rfl (by decide) (lw_wants hX2 hv (lwL_of (tl := []) hl) hi hEp hG hC hH hlo (g_wants hG))
  · exact lv_tableIn (tgt := 984) (off := 944) hx hb d40 (by decide) (by decide) rfl (by decide) (lw_worst hX2 hv (lwL_of (tl := []) hl) hi hEp hG hC hH hlo (g_worst hG))
  · exact lv_tableIn (tgt := 1021) (off := 981) hx hb d40 (by decide) (by decide) rfl (by decide) (lw_purse hX2 hv (lwL_of (tl := []) hl) hi hEp hG hC hH hlo (g_purse hG))
  · exact lv_tableIn (tgt := 1058) (off := 1018) hx hb d40 (by decide) (by decide) rfl (by decide) (lw_clears hl0 hX hT hv hl hi hE hs0 hg hG hC hH hlo)
  · exact lv_tableIn (tgt := 1126) (off := 1086) hx hb d40 (by decide) (by decide) rfl (by decide) (lw_known hX2 hv (lwL_of (tl := []) hl) hi hEp hG hC hH hlo (g_known hG))
  · exact lv_tableIn (tgt := 1175) (off := 1135) hx hb d40 (by decide) (by decide) rfl (by decide) (lw_factor hX2 hv (lwL_of (tl := []) hl) hi hEp hG hC hH hlo (g_factor hG))
  · exact lv_tableIn (tgt := 1212) (off := 1172) hx hb d40 (by decide) (by decide) rfl (by decide) (lw_foretold hX2 hv (lwL_of (tl := []) hl) hi hEp hG hC hH hlo (g_foretold hG))
  · exact lv_tableIn (tgt := 1249) (off := 1209) hx hb d40 (by decide) (by decide) rfl (by decide) (lw_look hl0 hX hT hv hl hi hE hs0 hg hG hC hH hlo)
  · exact lv_tableIn (tgt := 1317) (off := 1277) hx hb d40 (by decide) (by decide) rfl (by decide) (lw_count hX2 hv (lwL_of (tl := []) hl) hi hEp hG hC hH hlo (g_count hG))
  · refine lv_tableOut (tgt := 1342) hx hb d40 (Or.inr ?_) (by decide) (hEp st H locs hG hC hH hlo)
    rw [Int32.toInt_ofNat_of_lt (by omega)]
    omega
/-- the loop's head -/
theorem lw_head (hX : aCtx G 33 mL_law p R s m args meth c) (hv : va_X b Ls xs s s.heap ∧ b < s.heap.size ∧ Ls ≤ 3584 ∧ G.1.1 + 1 = s.heap.size ∧ G.2.2.2.1 = s.heap) (hl : lv_has ls 7 (lwV b (aAd G 1) (aAd G 210) (aAd G 278) iN)) (hiN : iN ≤ 3600) (hC : aCan st) (hH : aHold G st H) (hlo : ∀ q ∈ locs, G.1.1 < q.base) (k1 : W p l e R s m args below meth c H locs 3000 200000 Q (F0 m 1348 ls [])) (k0 : iN + 6 < Ls → W p l e R s m args below meth c H locs 3000 200000 Q (F0 m 33 ls [])) : W p l e R s m args below meth c H locs 3000 200000 Q (F0 m 23 ls []) := by
  obtain ⟨v1, v2, v3, v4, v5⟩ := id hv
  obtain ⟨l7, l0, l1, l2, l3, l4⟩ := lwL_of (tl := []) hl
  have hx := hX.1
  have hb := hX.2.1
  obtain ⟨-, -, -, hSS⟩ := lwS_of v1 v2 v3 v4 v5 hC hH hlo
  refine lv_iload hx hb (by decide +kernel : decode code 23 = .ok (.iload 4, 2)) l4 ?_
  refine lv_aload_n hx hb (by decide +kernel : decode code 25 = .ok (.aload_n 0, 1)) rfl l0 ?_
  refine va_slen hx hb v1 v2 (fun q => by omega) hSS (by decide +kernel : decode code 26 = .ok (.arraylength, 1)) ?_
  refine lv_bipush (v := 7) hx hb (by decide +kernel : decode code 27 = .ok (.bipush 7, 2)) rfl ?_
  refine lv_isub hx hb (by decide +kernel : decode code 29 = .ok (.isub, 1)) ?_
  refine lv_icmp_gt (tgt := 1348) hx hb (by decide +kernel : decode code 30 = .ok (.if_icmp .gt 1318, 3)) (by decide) (fun _ => k1) (fun q => k0 ?_)
  rw [Int32.lt_iff_toInt_lt] at q
  have e1 : (Int32.ofNat iN).toInt = iN := Int32.toInt_ofNat_of_lt (by omega)
  have e2 : (Int32.ofNat Ls - 7).toInt = (Ls : Int) - 7 := by
    rw [show (7 : Int32) = Int32.ofInt 7 from rfl, show Int32.ofNat Ls = Int32.ofInt (Ls : Int) from Int32.ofInt_eq_ofNat.symm, ← Int32.ofInt_sub, Int32.toInt_ofInt_of_le (by omega) (by omega)]
  rw [e1, e2] at q
  omega
end
section
variable {B : Nat} {g2 : va_G × (Nat → ClassId) × Heap × aEx} {l : Launch} {p : Program} {e : Env} {R : Room} {s : State} {m : MethodId} {args : Array Value} {below : List Frame} {meth : Method} {c : Code} {Q : State → Prop} {b Ls : Nat} {xs : Nat → Int32} {adK adV adT : Nat → Nat}
theorem lw_loop (hl0 : l.stackTraces = false) (hX : ∀ gm : Nat → Nat, aCtx ((B, gm), g2) 33 mL_law p R s m args meth c) (hsE : ∀ vm, g2.2.2.2.1 vm → sE B g2.2.2.1 adK adV vm) (hT : tE B g2.2.2.1 adT s.vm) (hv : va_X b Ls xs s s.heap ∧ b < s.heap.size ∧ Ls ≤ 3584 ∧ B + 1 = s.heap.size ∧ g2.2.2.1 = s.heap) (hEnd : ∀ (gm : Nat → Nat) (ls : Array Slot) (st : aSt) (H : Heap) (locs : List Loc), ls.size = 7 → aCan st → aHold ((B, gm), g2) st H → (∀ q ∈ locs, B < q.base) → W p l e R s m args below meth c H locs 3000 200000 Q (F0 m 1348 ls [])) : ∀ (n : Nat) (gm : Nat → Nat) (k s0 : Nat) (ls : Array Slot) (st : aSt) (H : Heap) (locs : List Loc), Ls ≤ 7 * k + n → k ≤ 512 → s0 ≤ 37895 + 6 * k → (∀ r, gS gm r ≤ k) → lv_has ls 7 (lwV b (aAd ((B, gm), g2) 1) (aAd ((B, gm), g2) 210) (aAd ((B, gm), g2) 278) (7 * k)) → GIv s0 st → aCan st → aHold ((B, gm), g2) st H → (∀ q ∈ locs, B < q.base) → W p l e R s m args below meth c H locs 3000 200000 Q (F0 m 23 ls []) := by
  intro n
  induction n with
  | zero =>
    intro gm k s0 ls st H locs hn hk hs0 hg hl hG hC hH hlo
    exact lw_head (G := ((B, gm), g2)) (hX gm) hv hl (by omega) hC hH hlo (hEnd gm ls st H locs hl.1 hC hH hlo) (fun h => absurd h (by omega))
  | succ n ih =>
    intro gm k s0 ls st H locs hn hk hs0 hg hl hG hC hH hlo
    refine lw_head (G := ((B, gm), g2)) (hX gm) hv hl (by omega) hC hH hlo (hEnd gm ls st H locs hl.1 hC hH hlo) (fun h => ?_)
    have hLs : Ls ≤ 3584 := hv.2.2.1
    refine lw_body (G := ((B, gm), g2)) (s0 := s0) (adK := adK) (adV := adV) (adT := adT) hl0 (hX gm) hsE hT hv hl h ?_ (by omega) (by have := hg st.2.2.1; show gS gm st.2.2.1 < 1000; omega) hG hC hH hlo
    intro G' s1 eB eg hs1 hgs ls' st' H' locs' hl' hG' hC' hH' hlo'
    obtain ⟨⟨B', gm'⟩, g2'⟩ := G'
    have eB : B' = B := eB
    have eg : g2' = g2 := eg
    subst eB
    subst eg
    have hx := (hX gm).1
    have hb := (hX gm).2.1
    refine lv_iinc (k := 4) (v := Int32.ofNat (7 * (k + 1))) hx hb (by decide +kernel : decode code 1342 = .ok (.iinc 4 7, 3)) hl' rfl ?_ (by decide) rfl (fun ls2 h2 => ?_)
    · rw [show 7 * (k + 1) = 7 * k + 7 from by omega, Int32.ofNat_add]
      rfl
    · refine lv_goto (tgt := 23) hx hb (by decide +kernel : decode code 1345 = .ok (.goto (-1322), 3)) (by decide) ?_
      exact ih gm' (k + 1) s1 ls2 st' H' locs' (by omega) (by omega) (by omega) (fun r => by have := hgs r; have := hg r; show gS gm' r ≤ k + 1; exact Nat.le_trans (hgs r) (Nat.succ_le_succ (hg r))) (lv_sub h2 [1, 2, 3, 4, 0] rfl) hG' hC' hH' hlo'
end
