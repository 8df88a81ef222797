/-! ===== the law: the four calls that may throw, as cases ===== -/
theorem VM_mono {G : aCX} {l : Launch} {d y : Nat} {A : List aTV} {st : aSt} {P P' : Int → aSt → Prop} (h : VM G l d y A st P') (hp : ∀ w st', P' w st' → P w st') : VM G l d y A st P := fun hA hC p e a1 a2 a3 s m args below a4 a5 a6 a7 => by
  obtain ⟨n, o, b1, b2, b3, ⟨w, st', c1, c2, c3, c4⟩, b5⟩ := h hA hC p e a1 a2 a3 s m args below a4 a5 a6 a7
  exact ⟨n, o, b1, b2, b3, ⟨w, st', hp _ _ c1, c2, c3, c4⟩, b5⟩
theorem gS_gp {G : aCX} {nx g : Nat} (h : 1 ≤ nx) : ∀ r, gS (gp G nx g).1.2 r ≤ gS G.1.2 r + g := by
  intro r
  induction r with
  | zero => exact Nat.zero_le _
  | succ r ih =>
    rcases (by omega : r + 1 < nx ∨ r + 1 = nx ∨ nx ≤ r) with q | q | q
    · rw [gS_lo q]; omega
    · rw [q, gS_hi h]; exact Nat.le_refl _
    · rw [gS, gS]
      have e : (gp G nx g).1.2 r = G.1.2 r := if_neg (by omega)
      omega
theorem lg_same (x : Int64) : lg_cmp x x = 0 := by
  unfold lg_cmp
  rw [if_neg (Int64.lt_irrefl), if_pos rfl]
/-- the law's locals at a loop's head -/
abbrev lwV (b x r o iN : Nat) : List (Nat × Value) := [(0, .ref b), (1, .ref x), (2, .ref r), (3, .ref o), (4, .int (Int32.ofNat iN))]
theorem lwL_of {ls : Array Slot} {b x r o iN : Nat} {tl : List (Nat × Value)} (h : lv_has ls 7 (lwV b x r o iN ++ tl)) : lwL ls b x r o iN := ⟨h.1, lv_at h 0 rfl, lv_at h 1 rfl, lv_at h 2 rfl, lv_at h 3 rfl, lv_at h 4 rfl⟩
theorem lwL_ls {ls : Array Slot} {b x r o iN : Nat} {q : Nat × Value} (h : lv_has ls 7 (q :: lwV b x r o iN)) : lwL ls b x r o iN := ⟨h.1, lv_at h 1 rfl, lv_at h 2 rfl, lv_at h 3 rfl, lv_at h 4 rfl, lv_at h 5 rfl⟩
section
variable {G : aCX} {l : Launch} {p : Program} {e : Env} {R : Room} {s : State} {m : MethodId} {args : Array Value} {below : List Frame} {meth : Method} {c : Code} {Q : State → Prop} {st : aSt} {H : Heap} {locs : List Loc} {ls : Array Slot} {pc b Ls iN s0 : Nat} {xs : Nat → Int32} {st0 rest : List Value}
theorem GIv_kn (h : GIv s0 st) : Kn st.1 := by
  obtain ⟨m', T, T2, nt, n, wo, cn, cc, hX1⟩ := h
  exact hX1.1.1
/-- where a case ends, G as it was -/
def lwE3 (G : aCX) (l : Launch) (p : Program) (e : Env) (R : Room) (s : State) (m : MethodId) (args : Array Value) (below : List Frame) (meth : Method) (c : Code) (Q : State → Prop) (s0 b iN : Nat) : Prop := ∀ (ls : Array Slot) (st : aSt) (H : Heap) (locs : List Loc), lv_has ls 7 (lwV b (aAd G 1) (aAd G 210) (aAd G 278) iN) → GIv s0 st → aCan st → aHold G st H → (∀ q ∈ locs, G.1.1 < q.base) → W p l e R s m args below meth c H locs 3000 200000 Q (F0 m 1342 ls [])
/-- where a case ends: a cell that is not ours may have come, and its six slots -/
def lwE2 (G : aCX) (l : Launch) (p : Program) (e : Env) (R : Room) (s : State) (m : MethodId) (args : Array Value) (below : List Frame) (meth : Method) (c : Code) (Q : State → Prop) (s0 b iN : Nat) : Prop := ∀ (G' : aCX) (s1 : Nat), G'.1.1 = G.1.1 → G'.2 = G.2 → s1 ≤ s0 + 6 → (∀ r, gS G'.1.2 r ≤ gS G.1.2 r + 1) → lwE3 G' l p e R s m args below meth c Q s1 b iN
theorem lwE2_G (h : lwE2 G l p e R s m args below meth c Q s0 b iN) : lwE3 G l p e R s m args below meth c Q s0 b iN := h G s0 rfl rfl (Nat.le_add_right _ _) (fun r => Nat.le_add_right _ _)
/-- from the store of the reference's answer to the case's end -/
theorem lwTail {off : Int} {k w : Int} (hX : aCtx G 33 mL_law p R s m args meth c) (d0 : decode code pc = .ok (.istore 6, 2)) (d1 : decode code (pc + 2) = .ok (.aload_n 2, 1)) (d2 : decode code (pc + 2 + 1) = .ok (.invokevirtual 104, 3)) (d3 : decode code (pc + 2 + 1 + 3) = .ok (.iload 5, 2)) (d4 : decode code (pc + 2 + 1 + 3 + 2) = .ok (.if_icmp .eq 5, 3)) (d5 : decode code (pc + 13) = .ok (.iload 5, 2)) (d6 : decode code (pc + 13 + 2) = .ok (.ifCond .ne 15, 3)) (d7 : decode code (pc + 13 + 2 + 3) = .ok (.aload_n 3, 1)) (d8 : decode code (pc + 13 + 2 + 3 + 1) = .ok (.iconst 0, 1)) (d9 : decode code (pc + 13 + 2 + 3 + 1 + 1) = .ok (.laload, 1)) (d10 : decode code (pc + 13 + 2 + 3 + 1 + 1 + 1) = .ok (.iload 6, 2)) (d11 : decode code (pc + 13 + 2 + 3 + 1 + 1 + 1 + 2) = .ok (.i2l, 1)) (d12 : decode code (pc + 13 + 2 + 3 + 1 + 1 + 1 + 2 + 1) = .ok (.lcmp, 1)) (d13 : decode code (pc + 13 + 2 + 3 + 1 + 1 + 1 + 2 + 1 + 1) = .ok (.ifCond .eq 5, 3)) (d14 : decode code (pc + 30) = .ok (.goto off, 3)) (ho : ((pc + 30 : Nat) : Int) + off = 1342) (hl : lv_has ls 7 ((5, .int (Int32.ofInt k)) :: lwV b (aAd G 1) (aAd G 210) (aAd G 278) iN)) (hE : lwE3 G l p e R s m args below meth c Q s0 b iN) (hk : k = 0 ∨ k = 1) (hG : GIv s0 st) (hth : st.2.1 210 0 = k) (hw : k = 0 → st.2.1 278 0 = w) (iw : i32 w) (hC : aCan st) (hH : aHold G st H) (hlo : ∀ q ∈ locs, G.1.1 < q.base) : W p l e R s m args below meth c H locs 3000 200000 Q (F0 m pc ls (.int (Int32.ofInt w) :: [])) := by
  have hx := hX.1
  have hb := hX.2.1
  have hX2 : aCtx G 32 mL_law p R s m args meth c := by
    obtain ⟨a1, a2, a3, a4, a5, a6, a7, a8, a9, a10, a11, a12, a13, a14, a15⟩ := hX
    exact ⟨a1, a2, a3, a4, a5, a6, a7, a8, a9, a10, by omega, by omega, by omega, by omega, a15⟩
  refine lv_istore hx hb d0 hl (by decide) rfl (fun ls1 h1 => ?_)
  refine lv_aload_n hx hb d1 rfl (lv_at h1 4 rfl) ?_
  refine lwCall (y := iX12_thrown) (r := 210) (x := 104) (A := []) (rest := []) (P := fun w' st' => w' = st.2.1 210 0 ∧ st' = st) hX2 (by decide +kernel) rfl ((GIv_k1 hG).2.1.trans (by decide +kernel)) (by decide +kernel) (u_thrown (GIv_kn hG) ⟨rfl, rfl⟩) (fun v hv => by cases hv) hC hH hlo h1.1 (by decide) (gW (by decide +kernel)) d2 (fun w1 st1 H1 locs1 hM hw1 hC1 hH1 hlo1 => ?_)
  obtain ⟨ew, -⟩ := rv_ok (G := G) (by decide +kernel) hw1
  rw [ew]
  obtain ⟨rfl, rfl⟩ := hM
  rw [hth]
  refine lv_iload hx hb d3 (lv_at h1 1 rfl) ?_
  refine lv_icmp_eq (tgt := pc + 13) hx hb d4 (by omega) (fun _ => ?_) (fun q => absurd rfl q)
  have hend : ∀ ls2 : Array Slot, lv_has ls2 7 ((6, .int (Int32.ofInt w)) :: (5, .int (Int32.ofInt k)) :: lwV b (aAd G 1) (aAd G 210) (aAd G 278) iN) → W p l e R s m args below meth c H1 locs1 3000 200000 Q (F0 m (pc + 30) ls2 []) := fun ls2 h2 => lv_goto (tgt := 1342) hx hb d14 ho (hE ls2 _ _ _ (lv_sub h2 [2, 3, 4, 5, 6] rfl) hG hC1 hH1 hlo1)
  refine lv_iload hx hb d5 (lv_at h1 1 rfl) ?_
  refine lv_if_ne (tgt := pc + 30) hx hb d6 (by omega) (fun _ => hend _ h1) (fun q => ?_)
  have k0 : k = 0 := by
    rcases hk with hk | hk
    · exact hk
    · subst hk
      exact absurd q (by decide)
  have hw := hw k0
  refine lv_aload_n hx hb d7 rfl (lv_at h1 5 rfl) ?_
  refine lv_iconst (v := Int32.ofInt 0) hx hb d8 rfl ?_
  have k2 : st1.1 278 = (15, 1, []) := (GIv_k1 hG).2.2
  obtain ⟨g1, g2, g3⟩ := hold_at hH1 hC1 (r := 278) (by rw [k2]; decide)
  rw [ent_15 (n := 1) (by rw [k2]) (by rw [k2])] at g3
  refine va_lald hx hb hX.2.2.2.2.2.2.1 (va_one g3) 0 2 rfl rfl (i := Int32.ofInt 0) (of_in ⟨by decide, by decide⟩ (by decide) (by decide)) d9 ?_
  rw [of_clamp ⟨by decide, by decide⟩]
  show W p l e R s m args below meth c H1 locs1 3000 200000 Q (F0 m _ ls1 (.long (Int64.ofInt (st1.2.1 278 0)) :: []))
  rw [hw]
  refine lv_iload hx hb d10 (lv_at h1 0 rfl) ?_
  refine lv_i2l hx hb d11 (of_i2l iw) ?_
  refine W.lcmp hx hb d12 ?_
  rw [lg_same]
  exact lv_if_eq (tgt := pc + 30) hx hb d13 (by omega) (fun _ => hend _ h1) (fun q => absurd rfl q)
end
section
variable {G : aCX} {l : Launch} {p : Program} {e : Env} {R : Room} {s : State} {m : MethodId} {args : Array Value} {below : List Frame} {meth : Method} {c : Code} {Q : State → Prop} {st : aSt} {H : Heap} {locs : List Loc} {ls : Array Slot} {pc b Ls iN s0 : Nat} {xs : Nat → Int32} {st0 rest : List Value}
theorem lwM_owed {k : Int} (hX : aCtx G 33 mL_law p R s m args meth c) (hv : va_X b Ls xs s s.heap ∧ b < s.heap.size ∧ Ls ≤ 3584 ∧ G.1.1 + 1 = s.heap.size ∧ G.2.2.2.1 = s.heap) (hl : lv_has ls 7 (lwV b (aAd G 1) (aAd G 210) (aAd G 278) iN)) (hi : iN + 6 < Ls) (hE : lwE3 G l p e R s m args below meth c Q s0 b iN) (hk : k = 0 ∨ k = 1) (h12 : (st.1 210).1 = 12) (hC : aCan st) (hH : aHold G st H) (hlo : ∀ q ∈ locs, G.1.1 < q.base)
    (hg : VM G l 31 iX12_owed [rf 210, (0, (xs (iN + 1)).toInt), (0, (xs (iN + 2)).toInt)] st (fun w' st2 => st2.2.1 210 0 = k ∧ (k = 0 → st2.2.1 278 0 = w') ∧ GIv s0 st2)) : W p l e R s m args below meth c H locs 3000 200000 Q (F0 m 852 ls (.int (Int32.ofInt k) :: [])) := by
  obtain ⟨v1, v2, v3, v4, v5⟩ := hv
  have hx := hX.1
  have hb := hX.2.1
  have hX2 : aCtx G 32 mL_law p R s m args meth c := by
    obtain ⟨a1, a2, a3, a4, a5, a6, a7, a8, a9, a10, a11, a12, a13, a14, a15⟩ := hX
    exact ⟨a1, a2, a3, a4, a5, a6, a7, a8, a9, a10, by omega, by omega, by omega, by omega, a15⟩
  refine lv_istore hx hb (by decide +kernel : decode code 852 = .ok (.istore 5, 2)) hl (by decide) rfl (fun ls1 h1 => ?_)
  obtain ⟨l7, l0, l1, l2, l3, l4⟩ := lwL_ls h1
  refine lv_aload_n hx hb (by decide +kernel : decode code 854 = .ok (.aload_n 2, 1)) rfl l2 ?_
  refine ldS (k := 1) hx hb (lwS_of v1 v2 v3 v4 v5 hC hH hlo) l0 l4 (by decide) (by omega) (by decide +kernel) (by decide +kernel) (by decide +kernel) (by decide +kernel) (by decide +kernel) ?_
  refine ldS (k := 2) hx hb (lwS_of v1 v2 v3 v4 v5 hC hH hlo) l0 l4 (by decide) (by omega) (by decide +kernel) (by decide +kernel) (by decide +kernel) (by decide +kernel) (by decide +kernel) ?_
  rw [← aV_i (G := G) (v := xs (iN + 1)), ← aV_i (G := G) (v := xs (iN + 2))]
  refine lwCall (y := iX12_owed) (r := 210) (x := 103) (A := [(0, (xs (iN + 1)).toInt), (0, (xs (iN + 2)).toInt)]) (rest := []) hX2 (by decide +kernel) rfl (h12.trans (by decide +kernel)) (by decide +kernel) hg (aOkCo (aOk_i (i32_v _)) (aOkCo (aOk_i (i32_v _)) (fun v hv => by cases hv))) hC hH hlo l7 (by decide) (gW (by decide +kernel)) (by decide +kernel) (fun w1 st1 H1 locs1 hM hw1 hC1 hH1 hlo1 => ?_)
  obtain ⟨ew, iw⟩ := rv_ok (G := G) (by decide +kernel) hw1
  rw [ew]
  obtain ⟨q1, q2, q3⟩ := hM
  exact lwTail (pc := 870) (off := 442) hX (by decide +kernel) (by decide +kernel) (by decide +kernel) (by decide +kernel) (by decide +kernel) (by decide +kernel) (by decide +kernel) (by decide +kernel) (by decide +kernel) (by decide +kernel) (by decide +kernel) (by decide +kernel) (by decide +kernel) (by decide +kernel) (by decide +kernel) (by decide) h1 hE hk q3 q1 q2 iw hC1 hH1 hlo1
theorem lw_owed {adT : Nat → Nat} (hl0 : l.stackTraces = false) (hX : aCtx G 33 mL_law p R s m args meth c) (hT : tE G.1.1 G.2.2.2.1 adT s.vm) (hv : va_X b Ls xs s s.heap ∧ b < s.heap.size ∧ Ls ≤ 3584 ∧ G.1.1 + 1 = s.heap.size ∧ G.2.2.2.1 = s.heap) (hl : lv_has ls 7 (lwV b (aAd G 1) (aAd G 210) (aAd G 278) iN)) (hi : iN + 6 < Ls) (hE : lwE2 G l p e R s m args below meth c Q s0 b iN) (hs0 : s0 ≤ 100000) (hg : gS G.1.2 st.2.2.1 < 1000) (hG : GIv s0 st) (hC : aCan st) (hH : aHold G st H) (hlo : ∀ q ∈ locs, G.1.1 < q.base) : W p l e R s m args below meth c H locs 3000 200000 Q (F0 m 835 ls []) := by
  obtain ⟨v1, v2, v3, v4, v5⟩ := hv
  obtain ⟨l7, l0, l1, l2, l3, l4⟩ := lwL_of (tl := []) hl
  have hx := hX.1
  have hb := hX.2.1
  refine lv_aload_n hx hb (by decide +kernel : decode code 835 = .ok (.aload_n 1, 1)) rfl l1 ?_
  refine ldS (k := 1) hx hb (lwS_of v1 v2 v3 v4 v5 hC hH hlo) l0 l4 (by decide) (by omega) (by decide +kernel) (by decide +kernel) (by decide +kernel) (by decide +kernel) (by decide +kernel) ?_
  refine ldS (k := 2) hx hb (lwS_of v1 v2 v3 v4 v5 hC hH hlo) l0 l4 (by decide) (by omega) (by decide +kernel) (by decide +kernel) (by decide +kernel) (by decide +kernel) (by decide +kernel) ?_
  refine lv_aload_n hx hb (by decide +kernel : decode code 848 = .ok (.aload_n 3, 1)) rfl l3 ?_
  have eA : ∀ G : aCX, [rf 1, (0, (xs (iN + 1)).toInt), (0, (xs (iN + 2)).toInt), rf 278].map (aV G) = [.ref (aAd G 1), .int (xs (iN + 1)), .int (xs (iN + 2)), .ref (aAd G 278)] := fun G => by
    show [aV G (2, Int.ofNat 1), aV G (0, (xs (iN + 1)).toInt), aV G (0, (xs (iN + 2)).toInt), aV G (2, Int.ofNat 278)] = _
    rw [aV_ref (by decide), aV_ref (by decide), aV_i, aV_i]
  by_cases h : ((0 ≤ (xs (iN + 1)).toInt ∧ (xs (iN + 1)).toInt < nhS st.2.1) ∧ (0 ≤ (xs (iN + 2)).toInt ∧ (xs (iN + 2)).toInt < nhS st.2.1) ∧ (xs (iN + 1)).toInt ≠ (xs (iN + 2)).toInt)
  · refine (fun KK => ?_) (lwHelpN (l := l) (e := e) (below := below) (Q := Q) (ls := ls) (locs := locs) (pc := 849) (x := 98) (k := 4) hX (hn_owed (l := l) hG hC (i32_v _) (i32_v _) h.1 h.2.1 h.2.2) rfl (gW (by decide +kernel)) (gW (by decide +kernel)) (gW (by decide +kernel)) (gW (by decide +kernel)) ⟨by decide, by decide, by decide +kernel⟩ (by decide) hC hH hlo l7 (by decide +kernel) (fun w st1 H1 locs1 hM hw hC1 hH1 hlo1 => ?_))
    · rw [eA G] at KK
      exact KK
    · obtain ⟨rfl, kn1, wv, iw, h278, hv2⟩ := hM
      exact lwM_owed (k := 0) hX ⟨v1, v2, v3, v4, v5⟩ hl hi (lwE2_G hE) (Or.inl rfl) (by rw [kn1 210 rfl]; rfl) hC1 hH1 hlo1 (VM_mono hv2 (fun w' st2 q => ⟨q.2.1, fun _ => q.2.2.1.trans q.1.symm, q.2.2.2⟩))
  · obtain ⟨K, D, z⟩ := st
    obtain ⟨m1, T1, T2, nt, n1, wo, cn, cc, hX1⟩ := id hG
    have hX1 : giX s0 m1 T1 T2 nt n1 wo cn cc K D z := hX1
    have nx : 279 ≤ z.1 := by
      have ez : z = (279 + 10 * m1, s0 + 197 * m1) := hX1.1.2.1.2.1
      rw [ez]
      show 279 ≤ 279 + 10 * m1
      omega
    have ead : ∀ g r : Nat, r < 279 → aAd (gp G z.1 g) r = aAd G r := fun g r hr => ad_lo (by omega)
    have hM := ht_owed (G := G) (adT := adT) catchOk l hl0 hX1.1.1 hX1.1.2.2.2.1 hX1.2.2.2.1.1 hC (i32_v _) (i32_v _) (by rw [← nhS_eq hX1.2.2.2.1.1]; exact h)
    rw [Int32.ofInt_toInt, Int32.ofInt_toInt] at hM
    refine (fun KK => ?_) (lwHelpT (l := l) (e := e) (below := below) (Q := Q) (ls := ls) (locs := locs) (pc := 849) (x := 98) (k := 4) hX hT hM rfl (gW (by decide +kernel)) (gW (by decide +kernel)) (gW (by decide +kernel)) (gW (by decide +kernel)) ⟨by decide, by decide, by decide +kernel⟩ (by decide) hs0 hG hC hH hg l7 (by decide +kernel) (fun g H1 hg1 hH1 => ?_))
    · exact KK
    · have hG6 := GIv6 hs0 hG
      have hC6 := can6 hs0 hG hC
      exact lwM_owed (G := gp G z.1 g) (st := aS6 (K, D, z)) (s0 := s0 + 6) (k := 1) hX ⟨v1, v2, v3, v4, v5⟩ (by rw [ead g 1 (by decide), ead g 210 (by decide), ead g 278 (by decide)]; exact hl) hi (hE _ _ rfl rfl (Nat.le_refl _) (fun r => Nat.le_trans (gS_gp (by omega) r) (by omega))) (Or.inr rfl) (by show (K 210).1 = 12; rw [hX1.1.1 210 rfl]; rfl) hC6 hH1 hlo (VM_mono (g_owedN hG6 h) (fun _ _ q => ⟨q.1, fun q0 => absurd q0 (by decide), q.2⟩))
theorem lwM_bears {k : Int} (hX : aCtx G 33 mL_law p R s m args meth c) (hv : va_X b Ls xs s s.heap ∧ b < s.heap.size ∧ Ls ≤ 3584 ∧ G.1.1 + 1 = s.heap.size ∧ G.2.2.2.1 = s.heap) (hl : lv_has ls 7 (lwV b (aAd G 1) (aAd G 210) (aAd G 278) iN)) (hi : iN + 6 < Ls) (hE : lwE3 G l p e R s m args below meth c Q s0 b iN) (hk : k = 0 ∨ k = 1) (h12 : (st.1 210).1 = 12) (hC : aCan st) (hH : aHold G st H) (hlo : ∀ q ∈ locs, G.1.1 < q.base)
    (hg : VM G l 31 iX12_bears [rf 210, (0, (xs (iN + 1)).toInt)] st (fun w' st2 => st2.2.1 210 0 = k ∧ (k = 0 → st2.2.1 278 0 = w') ∧ GIv s0 st2)) : W p l e R s m args below meth c H locs 3000 200000 Q (F0 m 914 ls (.int (Int32.ofInt k) :: [])) := by
  obtain ⟨v1, v2, v3, v4, v5⟩ := hv
  have hx := hX.1
  have hb := hX.2.1
  have hX2 : aCtx G 32 mL_law p R s m args meth c := by
    obtain ⟨a1, a2, a3, a4, a5, a6, a7, a8, a9, a10, a11, a12, a13, a14, a15⟩ := hX
    exact ⟨a1, a2, a3, a4, a5, a6, a7, a8, a9, a10, by omega, by omega, by omega, by omega, a15⟩
  refine lv_istore hx hb (by decide +kernel : decode code 914 = .ok (.istore 5, 2)) hl (by decide) rfl (fun ls1 h1 => ?_)
  obtain ⟨l7, l0, l1, l2, l3, l4⟩ := lwL_ls h1
  refine lv_aload_n hx hb (by decide +kernel : decode code 916 = .ok (.aload_n 2, 1)) rfl l2 ?_
  refine ldS (k := 1) hx hb (lwS_of v1 v2 v3 v4 v5 hC hH hlo) l0 l4 (by decide) (by omega) (by decide +kernel) (by decide +kernel) (by decide +kernel) (by decide +kernel) (by decide +kernel) ?_
  rw [← aV_i (G := G) (v := xs (iN + 1))]
  refine lwCall (y := iX12_bears) (r := 210) (x := 110) (A := [(0, (xs (iN + 1)).toInt)]) (rest := []) hX2 (by decide +kernel) rfl (h12.trans (by decide +kernel)) (by decide +kernel) hg (aOkCo (aOk_i (i32_v _)) (fun v hv => by cases hv)) hC hH hlo l7 (by decide) (gW (by decide +kernel)) (by decide +kernel) (fun w1 st1 H1 locs1 hM hw1 hC1 hH1 hlo1 => ?_)
  obtain ⟨ew, iw⟩ := rv_ok (G := G) (by decide +kernel) hw1
  rw [ew]
  obtain ⟨q1, q2, q3⟩ := hM
  exact lwTail (pc := 926) (off := 386) hX (by decide +kernel) (by decide +kernel) (by decide +kernel) (by decide +kernel) (by decide +kernel) (by decide +kernel) (by decide +kernel) (by decide +kernel) (by decide +kernel) (by decide +kernel) (by decide +kernel) (by decide +kernel) (by decide +kernel) (by decide +kernel) (by decide +kernel) (by decide) h1 hE hk q3 q1 q2 iw hC1 hH1 hlo1
theorem lw_bears {adT : Nat → Nat} (hl0 : l.stackTraces = false) (hX : aCtx G 33 mL_law p R s m args meth c) (hT : tE G.1.1 G.2.2.2.1 adT s.vm) (hv : va_X b Ls xs s s.heap ∧ b < s.heap.size ∧ Ls ≤ 3584 ∧ G.1.1 + 1 = s.heap.size ∧ G.2.2.2.1 = s.heap) (hl : lv_has ls 7 (lwV b (aAd G 1) (aAd G 210) (aAd G 278) iN)) (hi : iN + 6 < Ls) (hE : lwE2 G l p e R s m args below meth c Q s0 b iN) (hs0 : s0 ≤ 100000) (hg : gS G.1.2 st.2.2.1 < 1000) (hG : GIv s0 st) (hC : aCan st) (hH : aHold G st H) (hlo : ∀ q ∈ locs, G.1.1 < q.base) : W p l e R s m args below meth c H locs 3000 200000 Q (F0 m 903 ls []) := by
  obtain ⟨v1, v2, v3, v4, v5⟩ := hv
  obtain ⟨l7, l0, l1, l2, l3, l4⟩ := lwL_of (tl := []) hl
  have hx := hX.1
  have hb := hX.2.1
  refine lv_aload_n hx hb (by decide +kernel : decode code 903 = .ok (.aload_n 1, 1)) rfl l1 ?_
  refine ldS (k := 1) hx hb (lwS_of v1 v2 v3 v4 v5 hC hH hlo) l0 l4 (by decide) (by omega) (by decide +kernel) (by decide +kernel) (by decide +kernel) (by decide +kernel) (by decide +kernel) ?_
  refine lv_aload_n hx hb (by decide +kernel : decode code 910 = .ok (.aload_n 3, 1)) rfl l3 ?_
  have eA : ∀ G : aCX, [rf 1, (0, (xs (iN + 1)).toInt), rf 278].map (aV G) = [.ref (aAd G 1), .int (xs (iN + 1)), .ref (aAd G 278)] := fun G => by
    show [aV G (2, Int.ofNat 1), aV G (0, (xs (iN + 1)).toInt), aV G (2, Int.ofNat 278)] = _
    rw [aV_ref (by decide), aV_ref (by decide), aV_i]
  by_cases h : (0 ≤ (xs (iN + 1)).toInt ∧ (xs (iN + 1)).toInt < nhS st.2.1)
  · refine (fun KK => ?_) (lwHelpN (l := l) (e := e) (below := below) (Q := Q) (ls := ls) (locs := locs) (pc := 911) (x := 107) (k := 3) hX (hn_bears (l := l) hG hC (i32_v _) h) rfl (gW (by decide +kernel)) (gW (by decide +kernel)) (gW (by decide +kernel)) (gW (by decide +kernel)) ⟨by decide, by decide, by decide +kernel⟩ (by decide) hC hH hlo l7 (by decide +kernel) (fun w st1 H1 locs1 hM hw hC1 hH1 hlo1 => ?_))
    · rw [eA G] at KK
      exact KK
    · obtain ⟨rfl, kn1, wv, iw, h278, hv2⟩ := hM
      exact lwM_bears (k := 0) hX ⟨v1, v2, v3, v4, v5⟩ hl hi (lwE2_G hE) (Or.inl rfl) (by rw [kn1 210 rfl]; rfl) hC1 hH1 hlo1 (VM_mono hv2 (fun w' st2 q => ⟨q.2.1, fun _ => q.2.2.1.trans q.1.symm, q.2.2.2⟩))
  · obtain ⟨K, D, z⟩ := st
    obtain ⟨m1, T1, T2, nt, n1, wo, cn, cc, hX1⟩ := id hG
    have hX1 : giX s0 m1 T1 T2 nt n1 wo cn cc K D z := hX1
    have nx : 279 ≤ z.1 := by
      have ez : z = (279 + 10 * m1, s0 + 197 * m1) := hX1.1.2.1.2.1
      rw [ez]
      show 279 ≤ 279 + 10 * m1
      omega
    have ead : ∀ g r : Nat, r < 279 → aAd (gp G z.1 g) r = aAd G r := fun g r hr => ad_lo (by omega)
    have hM := ht_bears (G := G) (adT := adT) catchOk l hl0 hX1.1.1 hX1.1.2.2.2.1 hX1.2.2.2.1.1 hC (i32_v _) (by rw [← nhS_eq hX1.2.2.2.1.1]; exact h)
    rw [Int32.ofInt_toInt] at hM
    refine (fun KK => ?_) (lwHelpT (l := l) (e := e) (below := below) (Q := Q) (ls := ls) (locs := locs) (pc := 911) (x := 107) (k := 3) hX hT hM rfl (gW (by decide +kernel)) (gW (by decide +kernel)) (gW (by decide +kernel)) (gW (by decide +kernel)) ⟨by decide, by decide, by decide +kernel⟩ (by decide) hs0 hG hC hH hg l7 (by decide +kernel) (fun g H1 hg1 hH1 => ?_))
    · exact KK
    · have hG6 := GIv6 hs0 hG
      have hC6 := can6 hs0 hG hC
      exact lwM_bears (G := gp G z.1 g) (st := aS6 (K, D, z)) (s0 := s0 + 6) (k := 1) hX ⟨v1, v2, v3, v4, v5⟩ (by rw [ead g 1 (by decide), ead g 210 (by decide), ead g 278 (by decide)]; exact hl) hi (hE _ _ rfl rfl (Nat.le_refl _) (fun r => Nat.le_trans (gS_gp (by omega) r) (by omega))) (Or.inr rfl) (by show (K 210).1 = 12; rw [hX1.1.1 210 rfl]; rfl) hC6 hH1 hlo (VM_mono (g_bearsN hG6 h) (fun _ _ q => ⟨q.1, fun q0 => absurd q0 (by decide), q.2⟩))
theorem lwM_clears {k : Int} (hX : aCtx G 33 mL_law p R s m args meth c) (hv : va_X b Ls xs s s.heap ∧ b < s.heap.size ∧ Ls ≤ 3584 ∧ G.1.1 + 1 = s.heap.size ∧ G.2.2.2.1 = s.heap) (hl : lv_has ls 7 (lwV b (aAd G 1) (aAd G 210) (aAd G 278) iN)) (hi : iN + 6 < Ls) (hE : lwE3 G l p e R s m args below meth c Q s0 b iN) (hk : k = 0 ∨ k = 1) (h12 : (st.1 210).1 = 12) (hC : aCan st) (hH : aHold G st H) (hlo : ∀ q ∈ locs, G.1.1 < q.base)
    (hg : VM G l 31 iX12_clears [rf 210, (0, (xs (iN + 1)).toInt), (0, (xs (iN + 2)).toInt)] st (fun w' st2 => st2.2.1 210 0 = k ∧ (k = 0 → st2.2.1 278 0 = w') ∧ GIv s0 st2)) : W p l e R s m args below meth c H locs 3000 200000 Q (F0 m 1075 ls (.int (Int32.ofInt k) :: [])) := by
  obtain ⟨v1, v2, v3, v4, v5⟩ := hv
  have hx := hX.1
  have hb := hX.2.1
  have hX2 : aCtx G 32 mL_law p R s m args meth c := by
    obtain ⟨a1, a2, a3, a4, a5, a6, a7, a8, a9, a10, a11, a12, a13, a14, a15⟩ := hX
    exact ⟨a1, a2, a3, a4, a5, a6, a7, a8, a9, a10, by omega, by omega, by omega, by omega, a15⟩
  refine lv_istore hx hb (by decide +kernel : decode code 1075 = .ok (.istore 5, 2)) hl (by decide) rfl (fun ls1 h1 => ?_)
  obtain ⟨l7, l0, l1, l2, l3, l4⟩ := lwL_ls h1
  refine lv_aload_n hx hb (by decide +kernel : decode code 1077 = .ok (.aload_n 2, 1)) rfl l2 ?_
  refine ldS (k := 1) hx hb (lwS_of v1 v2 v3 v4 v5 hC hH hlo) l0 l4 (by decide) (by omega) (by decide +kernel) (by decide +kernel) (by decide +kernel) (by decide +kernel) (by decide +kernel) ?_
  refine ldS (k := 2) hx hb (lwS_of v1 v2 v3 v4 v5 hC hH hlo) l0 l4 (by decide) (by omega) (by decide +kernel) (by decide +kernel) (by decide +kernel) (by decide +kernel) (by decide +kernel) ?_
  rw [← aV_i (G := G) (v := xs (iN + 1)), ← aV_i (G := G) (v := xs (iN + 2))]
  refine lwCall (y := iX12_clears) (r := 210) (x := 125) (A := [(0, (xs (iN + 1)).toInt), (0, (xs (iN + 2)).toInt)]) (rest := []) hX2 (by decide +kernel) rfl (h12.trans (by decide +kernel)) (by decide +kernel) hg (aOkCo (aOk_i (i32_v _)) (aOkCo (aOk_i (i32_v _)) (fun v hv => by cases hv))) hC hH hlo l7 (by decide) (gW (by decide +kernel)) (by decide +kernel) (fun w1 st1 H1 locs1 hM hw1 hC1 hH1 hlo1 => ?_)
  obtain ⟨ew, iw⟩ := rv_ok (G := G) (by decide +kernel) hw1
  rw [ew]
  obtain ⟨q1, q2, q3⟩ := hM
  exact lwTail (pc := 1093) (off := 219) hX (by decide +kernel) (by decide +kernel) (by decide +kernel) (by decide +kernel) (by decide +kernel) (by decide +kernel) (by decide +kernel) (by decide +kernel) (by decide +kernel) (by decide +kernel) (by decide +kernel) (by decide +kernel) (by decide +kernel) (by decide +kernel) (by decide +kernel) (by decide) h1 hE hk q3 q1 q2 iw hC1 hH1 hlo1
theorem lw_clears {adT : Nat → Nat} (hl0 : l.stackTraces = false) (hX : aCtx G 33 mL_law p R s m args meth c) (hT : tE G.1.1 G.2.2.2.1 adT s.vm) (hv : va_X b Ls xs s s.heap ∧ b < s.heap.size ∧ Ls ≤ 3584 ∧ G.1.1 + 1 = s.heap.size ∧ G.2.2.2.1 = s.heap) (hl : lv_has ls 7 (lwV b (aAd G 1) (aAd G 210) (aAd G 278) iN)) (hi : iN + 6 < Ls) (hE : lwE2 G l p e R s m args below meth c Q s0 b iN) (hs0 : s0 ≤ 100000) (hg : gS G.1.2 st.2.2.1 < 1000) (hG : GIv s0 st) (hC : aCan st) (hH : aHold G st H) (hlo : ∀ q ∈ locs, G.1.1 < q.base) : W p l e R s m args below meth c H locs 3000 200000 Q (F0 m 1058 ls []) := by
  obtain ⟨v1, v2, v3, v4, v5⟩ := hv
  obtain ⟨l7, l0, l1, l2, l3, l4⟩ := lwL_of (tl := []) hl
  have hx := hX.1
  have hb := hX.2.1
  refine lv_aload_n hx hb (by decide +kernel : decode code 1058 = .ok (.aload_n 1, 1)) rfl l1 ?_
  refine ldS (k := 1) hx hb (lwS_of v1 v2 v3 v4 v5 hC hH hlo) l0 l4 (by decide) (by omega) (by decide +kernel) (by decide +kernel) (by decide +kernel) (by decide +kernel) (by decide +kernel) ?_
  refine ldS (k := 2) hx hb (lwS_of v1 v2 v3 v4 v5 hC hH hlo) l0 l4 (by decide) (by omega) (by decide +kernel) (by decide +kernel) (by decide +kernel) (by decide +kernel) (by decide +kernel) ?_
  refine lv_aload_n hx hb (by decide +kernel : decode code 1071 = .ok (.aload_n 3, 1)) rfl l3 ?_
  have eA : ∀ G : aCX, [rf 1, (0, (xs (iN + 1)).toInt), (0, (xs (iN + 2)).toInt), rf 278].map (aV G) = [.ref (aAd G 1), .int (xs (iN + 1)), .int (xs (iN + 2)), .ref (aAd G 278)] := fun G => by
    show [aV G (2, Int.ofNat 1), aV G (0, (xs (iN + 1)).toInt), aV G (0, (xs (iN + 2)).toInt), aV G (2, Int.ofNat 278)] = _
    rw [aV_ref (by decide), aV_ref (by decide), aV_i, aV_i]
  by_cases h : ((0 ≤ (xs (iN + 1)).toInt ∧ (xs (iN + 1)).toInt < nhS st.2.1) ∧ 0 ≤ (xs (iN + 2)).toInt ∧ (xs (iN + 2)).toInt ≤ 4)
  · refine (fun KK => ?_) (lwHelpN (l := l) (e := e) (below := below) (Q := Q) (ls := ls) (locs := locs) (pc := 1072) (x := 123) (k := 4) hX (hn_clears (l := l) hG hC (i32_v _) (i32_v _) h.1 h.2) rfl (gW (by decide +kernel)) (gW (by decide +kernel)) (gW (by decide +kernel)) (gW (by decide +kernel)) ⟨by decide, by decide, by decide +kernel⟩ (by decide) hC hH hlo l7 (by decide +kernel) (fun w st1 H1 locs1 hM hw hC1 hH1 hlo1 => ?_))
    · rw [eA G] at KK
      exact KK
    · obtain ⟨rfl, kn1, wv, iw, h278, hv2⟩ := hM
      exact lwM_clears (k := 0) hX ⟨v1, v2, v3, v4, v5⟩ hl hi (lwE2_G hE) (Or.inl rfl) (by rw [kn1 210 rfl]; rfl) hC1 hH1 hlo1 (VM_mono hv2 (fun w' st2 q => ⟨q.2.1, fun _ => q.2.2.1.trans q.1.symm, q.2.2.2⟩))
  · obtain ⟨K, D, z⟩ := st
    obtain ⟨m1, T1, T2, nt, n1, wo, cn, cc, hX1⟩ := id hG
    have hX1 : giX s0 m1 T1 T2 nt n1 wo cn cc K D z := hX1
    have nx : 279 ≤ z.1 := by
      have ez : z = (279 + 10 * m1, s0 + 197 * m1) := hX1.1.2.1.2.1
      rw [ez]
      show 279 ≤ 279 + 10 * m1
      omega
    have ead : ∀ g r : Nat, r < 279 → aAd (gp G z.1 g) r = aAd G r := fun g r hr => ad_lo (by omega)
    have hM := ht_clears (G := G) (adT := adT) catchOk l hl0 hX1.1.1 hX1.1.2.2.2.1 hX1.2.2.2.1.1 hC (i32_v _) (i32_v _) (by rw [← nhS_eq hX1.2.2.2.1.1]; exact h)
    rw [Int32.ofInt_toInt, Int32.ofInt_toInt] at hM
    refine (fun KK => ?_) (lwHelpT (l := l) (e := e) (below := below) (Q := Q) (ls := ls) (locs := locs) (pc := 1072) (x := 123) (k := 4) hX hT hM rfl (gW (by decide +kernel)) (gW (by decide +kernel)) (gW (by decide +kernel)) (gW (by decide +kernel)) ⟨by decide, by decide, by decide +kernel⟩ (by decide) hs0 hG hC hH hg l7 (by decide +kernel) (fun g H1 hg1 hH1 => ?_))
    · exact KK
    · have hG6 := GIv6 hs0 hG
      have hC6 := can6 hs0 hG hC
      exact lwM_clears (G := gp G z.1 g) (st := aS6 (K, D, z)) (s0 := s0 + 6) (k := 1) hX ⟨v1, v2, v3, v4, v5⟩ (by rw [ead g 1 (by decide), ead g 210 (by decide), ead g 278 (by decide)]; exact hl) hi (hE _ _ rfl rfl (Nat.le_refl _) (fun r => Nat.le_trans (gS_gp (by omega) r) (by omega))) (Or.inr rfl) (by show (K 210).1 = 12; rw [hX1.1.1 210 rfl]; rfl) hC6 hH1 hlo (VM_mono (g_clearsN hG6 h) (fun _ _ q => ⟨q.1, fun q0 => absurd q0 (by decide), q.2⟩))
theorem lwM_look {k : Int} (hX : aCtx G 33 mL_law p R s m args meth c) (hv : va_X b Ls xs s s.heap ∧ b < s.heap.size ∧ Ls ≤ 3584 ∧ G.1.1 + 1 = s.heap.size ∧ G.2.2.2.1 = s.heap) (hl : lv_has ls 7 (lwV b (aAd G 1) (aAd G 210) (aAd G 278) iN)) (hi : iN + 6 < Ls) (hE : lwE3 G l p e R s m args below meth c Q s0 b iN) (hk : k = 0 ∨ k = 1) (h12 : (st.1 210).1 = 12) (hC : aCan st) (hH : aHold G st H) (hlo : ∀ q ∈ locs, G.1.1 < q.base)
    (hg : VM G l 31 iX12_look [rf 210, (0, (xs (iN + 1)).toInt), (0, (xs (iN + 2)).toInt)] st (fun w' st2 => st2.2.1 210 0 = k ∧ (k = 0 → st2.2.1 278 0 = w') ∧ GIv s0 st2)) : W p l e R s m args below meth c H locs 3000 200000 Q (F0 m 1266 ls (.int (Int32.ofInt k) :: [])) := by
  obtain ⟨v1, v2, v3, v4, v5⟩ := hv
  have hx := hX.1
  have hb := hX.2.1
  have hX2 : aCtx G 32 mL_law p R s m args meth c := by
    obtain ⟨a1, a2, a3, a4, a5, a6, a7, a8, a9, a10, a11, a12, a13, a14, a15⟩ := hX
    exact ⟨a1, a2, a3, a4, a5, a6, a7, a8, a9, a10, by omega, by omega, by omega, by omega, a15⟩
  refine lv_istore hx hb (by decide +kernel : decode code 1266 = .ok (.istore 5, 2)) hl (by decide) rfl (fun ls1 h1 => ?_)
  obtain ⟨l7, l0, l1, l2, l3, l4⟩ := lwL_ls h1
  refine lv_aload_n hx hb (by decide +kernel : decode code 1268 = .ok (.aload_n 2, 1)) rfl l2 ?_
  refine ldS (k := 1) hx hb (lwS_of v1 v2 v3 v4 v5 hC hH hlo) l0 l4 (by decide) (by omega) (by decide +kernel) (by decide +kernel) (by decide +kernel) (by decide +kernel) (by decide +kernel) ?_
  refine ldS (k := 2) hx hb (lwS_of v1 v2 v3 v4 v5 hC hH hlo) l0 l4 (by decide) (by omega) (by decide +kernel) (by decide +kernel) (by decide +kernel) (by decide +kernel) (by decide +kernel) ?_
  rw [← aV_i (G := G) (v := xs (iN + 1)), ← aV_i (G := G) (v := xs (iN + 2))]
  refine lwCall (y := iX12_look) (r := 210) (x := 140) (A := [(0, (xs (iN + 1)).toInt), (0, (xs (iN + 2)).toInt)]) (rest := []) hX2 (by decide +kernel) rfl (h12.trans (by decide +kernel)) (by decide +kernel) hg (aOkCo (aOk_i (i32_v _)) (aOkCo (aOk_i (i32_v _)) (fun v hv => by cases hv))) hC hH hlo l7 (by decide) (gW (by decide +kernel)) (by decide +kernel) (fun w1 st1 H1 locs1 hM hw1 hC1 hH1 hlo1 => ?_)
  obtain ⟨ew, iw⟩ := rv_ok (G := G) (by decide +kernel) hw1
  rw [ew]
  obtain ⟨q1, q2, q3⟩ := hM
  exact lwTail (pc := 1284) (off := 28) hX (by decide +kernel) (by decide +kernel) (by decide +kernel) (by decide +kernel) (by decide +kernel) (by decide +kernel) (by decide +kernel) (by decide +kernel) (by decide +kernel) (by decide +kernel) (by decide +kernel) (by decide +kernel) (by decide +kernel) (by decide +kernel) (by decide +kernel) (by decide) h1 hE hk q3 q1 q2 iw hC1 hH1 hlo1
theorem lw_look {adT : Nat → Nat} (hl0 : l.stackTraces = false) (hX : aCtx G 33 mL_law p R s m args meth c) (hT : tE G.1.1 G.2.2.2.1 adT s.vm) (hv : va_X b Ls xs s s.heap ∧ b < s.heap.size ∧ Ls ≤ 3584 ∧ G.1.1 + 1 = s.heap.size ∧ G.2.2.2.1 = s.heap) (hl : lv_has ls 7 (lwV b (aAd G 1) (aAd G 210) (aAd G 278) iN)) (hi : iN + 6 < Ls) (hE : lwE2 G l p e R s m args below meth c Q s0 b iN) (hs0 : s0 ≤ 100000) (hg : gS G.1.2 st.2.2.1 < 1000) (hG : GIv s0 st) (hC : aCan st) (hH : aHold G st H) (hlo : ∀ q ∈ locs, G.1.1 < q.base) : W p l e R s m args below meth c H locs 3000 200000 Q (F0 m 1249 ls []) := by
  obtain ⟨v1, v2, v3, v4, v5⟩ := hv
  obtain ⟨l7, l0, l1, l2, l3, l4⟩ := lwL_of (tl := []) hl
  have hx := hX.1
  have hb := hX.2.1
  refine lv_aload_n hx hb (by decide +kernel : decode code 1249 = .ok (.aload_n 1, 1)) rfl l1 ?_
  refine ldS (k := 1) hx hb (lwS_of v1 v2 v3 v4 v5 hC hH hlo) l0 l4 (by decide) (by omega) (by decide +kernel) (by decide +kernel) (by decide +kernel) (by decide +kernel) (by decide +kernel) ?_
  refine ldS (k := 2) hx hb (lwS_of v1 v2 v3 v4 v5 hC hH hlo) l0 l4 (by decide) (by omega) (by decide +kernel) (by decide +kernel) (by decide +kernel) (by decide +kernel) (by decide +kernel) ?_
  refine lv_aload_n hx hb (by decide +kernel : decode code 1262 = .ok (.aload_n 3, 1)) rfl l3 ?_
  have eA : ∀ G : aCX, [rf 1, (0, (xs (iN + 1)).toInt), (0, (xs (iN + 2)).toInt), rf 278].map (aV G) = [.ref (aAd G 1), .int (xs (iN + 1)), .int (xs (iN + 2)), .ref (aAd G 278)] := fun G => by
    show [aV G (2, Int.ofNat 1), aV G (0, (xs (iN + 1)).toInt), aV G (0, (xs (iN + 2)).toInt), aV G (2, Int.ofNat 278)] = _
    rw [aV_ref (by decide), aV_ref (by decide), aV_i, aV_i]
  by_cases h : ((0 ≤ (xs (iN + 1)).toInt ∧ (xs (iN + 1)).toInt < st.2.1 89 0) ∧ 0 ≤ (xs (iN + 2)).toInt ∧ (xs (iN + 2)).toInt ≤ 6)
  · refine (fun KK => ?_) (lwHelpN (l := l) (e := e) (below := below) (Q := Q) (ls := ls) (locs := locs) (pc := 1263) (x := 138) (k := 4) hX (hn_look (l := l) hG hC (i32_v _) (i32_v _) h.1 h.2) rfl (gW (by decide +kernel)) (gW (by decide +kernel)) (gW (by decide +kernel)) (gW (by decide +kernel)) ⟨by decide, by decide, by decide +kernel⟩ (by decide) hC hH hlo l7 (by decide +kernel) (fun w st1 H1 locs1 hM hw hC1 hH1 hlo1 => ?_))
    · rw [eA G] at KK
      exact KK
    · obtain ⟨rfl, kn1, wv, iw, h278, hv2⟩ := hM
      exact lwM_look (k := 0) hX ⟨v1, v2, v3, v4, v5⟩ hl hi (lwE2_G hE) (Or.inl rfl) (by rw [kn1 210 rfl]; rfl) hC1 hH1 hlo1 (VM_mono hv2 (fun w' st2 q => ⟨q.2.1, fun _ => q.2.2.1.trans q.1.symm, q.2.2.2⟩))
  · obtain ⟨K, D, z⟩ := st
    obtain ⟨m1, T1, T2, nt, n1, wo, cn, cc, hX1⟩ := id hG
    have hX1 : giX s0 m1 T1 T2 nt n1 wo cn cc K D z := hX1
    have nx : 279 ≤ z.1 := by
      have ez : z = (279 + 10 * m1, s0 + 197 * m1) := hX1.1.2.1.2.1
      rw [ez]
      show 279 ≤ 279 + 10 * m1
      omega
    have ead : ∀ g r : Nat, r < 279 → aAd (gp G z.1 g) r = aAd G r := fun g r hr => ad_lo (by omega)
    have hM := ht_look (G := G) (adT := adT) catchOk l hl0 hX1.1.1 hC (i32_v _) (i32_v _) h
    rw [Int32.ofInt_toInt, Int32.ofInt_toInt] at hM
    refine (fun KK => ?_) (lwHelpT (l := l) (e := e) (below := below) (Q := Q) (ls := ls) (locs := locs) (pc := 1263) (x := 138) (k := 4) hX hT hM rfl (gW (by decide +kernel)) (gW (by decide +kernel)) (gW (by decide +kernel)) (gW (by decide +kernel)) ⟨by decide, by decide, by decide +kernel⟩ (by decide) hs0 hG hC hH hg l7 (by decide +kernel) (fun g H1 hg1 hH1 => ?_))
    · exact KK
    · have hG6 := GIv6 hs0 hG
      have hC6 := can6 hs0 hG hC
      exact lwM_look (G := gp G z.1 g) (st := aS6 (K, D, z)) (s0 := s0 + 6) (k := 1) hX ⟨v1, v2, v3, v4, v5⟩ (by rw [ead g 1 (by decide), ead g 210 (by decide), ead g 278 (by decide)]; exact hl) hi (hE _ _ rfl rfl (Nat.le_refl _) (fun r => Nat.le_trans (gS_gp (by omega) r) (by omega))) (Or.inr rfl) (by show (K 210).1 = 12; rw [hX1.1.1 210 rfl]; rfl) hC6 hH1 hlo (VM_mono (g_lookN hG6 h) (fun _ _ q => ⟨q.1, fun q0 => absurd q0 (by decide), q.2⟩))
end
