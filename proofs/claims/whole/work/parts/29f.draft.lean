/-! ===== the law: the four calls that may throw ===== -/
section
variable {G : aCX} {l : Launch} {d : Nat} {K : Nat → aKd} {D : Nat → Int → Int} {z : Nat × Nat} {P : Int → aSt → Prop}
theorem u_thrown (hk : Kn K) (kk : P (D 210 0) (K, D, z)) : VM G l d iX12_thrown [rf 210] (K, D, z) P := by
  refine VM_go (tg2 rfl) (Nat.le_of_ble_eq_true rfl) ?_
  refine s_al0 rfl ?_
  refine s_gi rfl (hk.at rfl rfl) rfl ?_
  refine s_reti rfl rfl ?_
  exact kk
end
theorem sum_ext {b : Nat} {H H' : Heap} (hb : b ≤ H.size) (h1 : H.size ≤ H'.size) (h2 : H'.size ≤ H.size + 1) (h : ∀ q : Nat, q < H.size → H'[q]? = H[q]?) : hSum b H' = hSum b H + hSum H.size H' := by
  have z2 : hSum H.size H = 0 := by
    unfold hSum
    rw [List.drop_of_length_le (by rw [Array.length_toList]; exact Nat.le_refl _)]
    rfl
  rcases (by omega : H'.size = H.size ∨ H'.size = H.size + 1) with e | e
  · have sm : ∀ (q : Nat) (x x' : Cell), H[q]? = some x → H'[q]? = some x' → x'.slots.size = x.slots.size := fun q x x' e1 e2 => by
      have hq : q < H.size := (Array.getElem?_eq_some_iff.mp e1).1
      rw [h q hq, e1] at e2
      cases e2
      rfl
    rw [hSum_same e sm, hSum_same (b := H.size) e sm, z2]
    rfl
  · have hx : H'[H.size]? = some (H'[H.size]'(by omega)) := Array.getElem?_eq_getElem (by omega)
    rw [hSum_push e hb hx h, hSum_push (b := H.size) e (Nat.le_refl _) hx h, z2]
    omega
section
variable {G : aCX} {l : Launch} {p : Program} {e : Env} {R : Room} {s : State} {m : MethodId} {args : Array Value} {below : List Frame} {meth : Method} {c : Code} {Q : State → Prop} {st : aSt} {H : Heap} {locs : List Loc} {ls : Array Slot} {pc b Ls iN s0 : Nat} {xs : Nat → Int32} {st0 rest : List Value}
theorem lw_cw {y : MethodName} {bb : ByteArray} {n k x mc ms : Nat} {hh : List (Nat × Nat × Nat × Nat)} {rm : Room} (hts : ∀ w ∈ gTbl, w.before args s = true) (h1 : Cond.codeWith y bb n (some .int) hh ∈ gTbl) (h2 : Cond.methodLink RL x y ∈ gTbl) (h3 : Cond.static y ∈ gTbl) (h4 : Cond.initialized y.cls ∈ gTbl) (hrc : rm.cells = mc) (hrs : rm.slots = ms) (hd : y.cls ≠ "java/lang/invoke/MethodHandle" ∧ y.cls ≠ "java/lang/invoke/VarHandle" ∧ (parseMethodDescriptor y.desc).map (fun d => d.parameters.length) = some k) (hR : rm.frames + 1 ≤ R.frames ∧ 8 + (n + 11) + rm.locals ≤ R.locals) : vx_CSW R s args RL x y bb n (some .int) hh (wsH y bb n hh) rm mc ms k := by
  refine vx_cwSW (Ts := gTbl) k hts (fun w hw => ?_) rfl hrc hrs hd hR
  have hg : w ∈ gTbl := by
    unfold va_wsS at hw
    rcases List.mem_append.mp hw with hw | hw
    · rcases List.mem_cons.mp hw with rfl | hw
      · exact h2
      · rcases List.mem_cons.mp hw with rfl | hw
        · exact h3
        · rcases List.mem_cons.mp hw with rfl | hw
          · exact h4
          · cases hw
    · rcases List.mem_cons.mp hw with rfl | hw
      · exact h1
      · exact hw
  exact ⟨hg, good_of_word (gGood _ hg)⟩
/-- a helper whose class answers -/
theorem lwHelpN {y : MethodName} {bb : ByteArray} {n k x : Nat} {hh : List (Nat × Nat × Nat × Nat)} {A : List aTV} {P : Int → aSt → Prop} (hX : aCtx G 33 mL_law p R s m args meth c) (hM : Met l y (wsH y bb n hh) (aRm 32) (aPre G A st) (aPost G 0 P) (3000 * (32 + 2)) (200000 * (32 + 2)) (fun q => G.1.1 < q)) (hk : A.length = k) (h1 : Cond.codeWith y bb n (some .int) hh ∈ gTbl) (h2 : Cond.methodLink RL x y ∈ gTbl) (h3 : Cond.static y ∈ gTbl) (h4 : Cond.initialized y.cls ∈ gTbl) (hd : y.cls ≠ "java/lang/invoke/MethodHandle" ∧ y.cls ≠ "java/lang/invoke/VarHandle" ∧ (parseMethodDescriptor y.desc).map (fun d => d.parameters.length) = some k) (hn : n ≤ 21) (hC : aCan st) (hH : aHold G st H) (hlo : ∀ q ∈ locs, G.1.1 < q.base) (hls : ls.size = 7) (hdg : decode code pc = .ok (.invokestatic x, 3))
    (kk : ∀ (w : Int) (st' : aSt) (H1 : Heap) (locs1 : List Loc), P w st' → aOkL (aPush 0 w []) → aCan st' → aHold G st' H1 → (∀ q ∈ locs1, G.1.1 < q.base) → W p l e R s m args below meth c H1 locs1 3000 200000 Q (F0 m (pc + 3) ls ((aRv G 0 w).toList ++ []))) : W p l e R s m args below meth c H locs 3000 200000 Q (F0 m pc ls ((A.map (aV G)).reverse ++ [])) := by
  obtain ⟨hx, hb, hrt, hml, hown, hts, hK, hlk, hnm, hB, hf1, hf2, hf3, hf4, ao1, ao2, ao3⟩ := hX
  have hc1 : 3000 + 3000 * (32 + 2) ≤ R.cells := rm_g hf2
  have hc2 : 200000 + 200000 * (32 + 2) ≤ R.slots := rm_g hf3
  exact callW hB hlo (vx_runSW (As := A.map (aV G)) (rest := []) (Ts := gTbl) ⟨hx, hb, hml, hown, hts⟩ hM (lw_cw hts h1 h2 h3 h4 rfl rfl hd ⟨by show 32 + 12 + 1 ≤ R.frames; omega, by show 8 + (n + 11) + 40 * (32 + 12) ≤ R.locals; omega⟩) ⟨aPre_blind, aPre_of hK ao1 ao2 ao3 hH hC⟩ rfl (by simpa using hk) hls rfl (by show 2 * 0 + 0 ≤ 8; omega) hdg ⟨hc1, hc2⟩) kk
/-- behind a helper whose class throws -/
theorem throwW {As : Array Value} (hB : G.1.1 + 1 ≤ s.heap.size) (hs0 : s0 ≤ 100000) (hG : GIv s0 st) (hC : aCan st) (hH : aHold G st H) (hg : gS G.1.2 st.2.2.1 < 1000) (hr : va_Run p l e R s m args below meth c H locs 3000 200000 1 6 (F0 m pc ls st0) rest (HQ As) NoF) (kk : ∀ (g : Nat) (H1 : Heap), g ≤ 1 → aHold (gp G st.2.2.1 g) (aS6 st) H1 → W p l e R s m args below meth c H1 locs 3000 200000 Q (F0 m (pc + 3) ls (.int 1 :: rest))) : W p l e R s m args below meth c H locs 3000 200000 Q (F0 m pc ls st0) := by
  intro T hT X
  obtain ⟨w, st₀, t, T', L, h0, X', hL, e1, e2, ⟨g1, g2, g3, g4, g5⟩, stp⟩ := hr T hT X
  have eL : L = [] := by
    cases L with
    | nil => rfl
    | cons q L => exact (hL q List.mem_cons_self).elim
  subst eL
  rw [List.append_nil] at X'
  cases g1
  rw [h0] at g2 g3 g4 g5
  rw [← e1] at g2 g3 g4 g5
  have hsz : G.1.1 + 1 ≤ H.size := by
    rw [hH.1]
    have := aAd_pos (G := G) hC.2.1.1
    omega
  have hq : hSum (G.1.1 + 1) T'.heap ≤ hSum (G.1.1 + 1) H + 6 := by
    rw [sum_ext hsz g2 g3 g4]
    omega
  obtain ⟨K, D, z⟩ := st
  obtain ⟨m', T1, T2, nt, n, wo, cn, cc, hX1⟩ := hG
  have hh := hold_gap hC (fun r r1 r2 _ => RfC_of hX1 r r1 r2) hg g2 g3 g4 hq hH
  obtain ⟨t2, a1, b1⟩ := W.cap hh (can6 hs0 (GIv_mk hX1) hC) hB (kk _ _ (by omega) hh) T' rfl X'
  exact ⟨t2, stp t2 a1, b1⟩
theorem lwHelpT {y : MethodName} {bb : ByteArray} {n k x : Nat} {hh : List (Nat × Nat × Nat × Nat)} {As : List Value} {adT : Nat → Nat} (hX : aCtx G 33 mL_law p R s m args meth c) (hT : tE G.1.1 G.2.2.2.1 adT s.vm) (hM : Met l y (wsH y bb n hh) rmH (fun ar U => ar = As.toArray ∧ tPre G st adT U) HQ 1 6 NoF) (hk : As.length = k) (h1 : Cond.codeWith y bb n (some .int) hh ∈ gTbl) (h2 : Cond.methodLink RL x y ∈ gTbl) (h3 : Cond.static y ∈ gTbl) (h4 : Cond.initialized y.cls ∈ gTbl) (hd : y.cls ≠ "java/lang/invoke/MethodHandle" ∧ y.cls ≠ "java/lang/invoke/VarHandle" ∧ (parseMethodDescriptor y.desc).map (fun d => d.parameters.length) = some k) (hn : n ≤ 21) (hs0 : s0 ≤ 100000) (hG : GIv s0 st) (hC : aCan st) (hH : aHold G st H) (hg : gS G.1.2 st.2.2.1 < 1000) (hls : ls.size = 7) (hdg : decode code pc = .ok (.invokestatic x, 3))
    (kk : ∀ (g : Nat) (H1 : Heap), g ≤ 1 → aHold (gp G st.2.2.1 g) (aS6 st) H1 → W p l e R s m args below meth c H1 locs 3000 200000 Q (F0 m (pc + 3) ls (.int 1 :: []))) : W p l e R s m args below meth c H locs 3000 200000 Q (F0 m pc ls (As.reverse ++ [])) := by
  obtain ⟨hx, hb, hrt, hml, hown, hts, hK, hlk, hnm, hB, hf1, hf2, hf3, hf4, ao1, ao2, ao3⟩ := hX
  have hc1 : 3000 + 1 ≤ R.cells := by
    have : 3000 + 3000 * (32 + 2) ≤ R.cells := rm_g hf2
    omega
  have hc2 : 200000 + 6 ≤ R.slots := by
    have : 200000 + 200000 * (32 + 2) ≤ R.slots := rm_g hf3
    omega
  exact throwW hB hs0 hG hC hH hg (vx_runSW (As := As) (rest := []) (Ts := gTbl) ⟨hx, hb, hml, hown, hts⟩ hM (lw_cw hts h1 h2 h3 h4 rfl rfl hd ⟨by show 12 + 1 ≤ R.frames; omega, by show 8 + (n + 11) + 480 ≤ R.locals; omega⟩) ⟨tPre_blind, fun U hU hW => ⟨rfl, ⟨⟨by rw [hU]; exact hH, va_K.moved hW.alike hK⟩, tE_warm s U.vm hW hT⟩⟩⟩ rfl hk hls rfl (by show 2 * 0 + 0 ≤ 8; omega) hdg ⟨hc1, hc2⟩) kk
end
/-! ===== the law: the four calls that may throw, as cases ===== -/
theorem VM_mono {G : aCX} {l : Launch} {d y : Nat} {A : List aTV} {st : aSt} {P P' : Int → aSt → Prop} (h : VM G l d y A st P') (hp : ∀ w st', P' w st' → P w st') : VM G l d y A st P := fun hA hC p e a1 a2 a3 s m args below a4 a5 a6 a7 => by
  obtain ⟨n, o, b1, b2, b3, ⟨w, st', c1, c2, c3, c4⟩, b5⟩ := h hA hC p e a1 a2 a3 s m args below a4 a5 a6 a7
  exact ⟨n, o, b1, b2, b3, ⟨w, st', hp _ _ c1, c2, c3, c4⟩, b5⟩
theorem gS_gp {G : aCX} {nx g : Nat} (h : 1 ≤ nx) : ∀ r, gS (gp G nx g).1.2 r ≤ gS G.1.2 r + g := by
  intro r
  induction r with
  | zero => exact Nat.zero_le _
  | succ r ih =>
    rcases (by omega : r + 1 < nx ∨ r + 1 = nx ∨ nx ≤ r) with q | q | q
    · rw [gS_lo q]; omega
    · rw [q, gS_hi h]; exact Nat.le_refl _
    · rw [gS, gS]
      have e : (gp G nx g).1.2 r = G.1.2 r := if_neg (by omega)
      omega
theorem lg_same (x : Int64) : lg_cmp x x = 0 := by
  unfold lg_cmp
  rw [if_neg (Int64.lt_irrefl), if_pos rfl]
/-- the law's locals at a loop's head -/
abbrev lwV (b x r o iN : Nat) : List (Nat × Value) := [(0, .ref b), (1, .ref x), (2, .ref r), (3, .ref o), (4, .int (Int32.ofNat iN))]
theorem lwL_of {ls : Array Slot} {b x r o iN : Nat} {tl : List (Nat × Value)} (h : lv_has ls 7 (lwV b x r o iN ++ tl)) : lwL ls b x r o iN := ⟨h.1, lv_at h 0 rfl, lv_at h 1 rfl, lv_at h 2 rfl, lv_at h 3 rfl, lv_at h 4 rfl⟩
theorem lwL_ls {ls : Array Slot} {b x r o iN : Nat} {q : Nat × Value} (h : lv_has ls 7 (q :: lwV b x r o iN)) : lwL ls b x r o iN := ⟨h.1, lv_at h 1 rfl, lv_at h 2 rfl, lv_at h 3 rfl, lv_at h 4 rfl, lv_at h 5 rfl⟩
section
variable {G : aCX} {l : Launch} {p : Program} {e : Env} {R : Room} {s : State} {m : MethodId} {args : Array Value} {below : List Frame} {meth : Method} {c : Code} {Q : State → Prop} {st : aSt} {H : Heap} {locs : List Loc} {ls : Array Slot} {pc b Ls iN s0 : Nat} {xs : Nat → Int32} {st0 rest : List Value}
theorem GIv_kn (h : GIv s0 st) : Kn st.1 := by
  obtain ⟨m', T, T2, nt, n, wo, cn, cc, hX1⟩ := h
  exact hX1.1.1
/-- where a case ends, G as it was -/
def lwE3 (G : aCX) (l : Launch) (p : Program) (e : Env) (R : Room) (s : State) (m : MethodId) (args : Array Value) (below : List Frame) (meth : Method) (c : Code) (Q : State → Prop) (s0 b iN : Nat) : Prop := ∀ (ls : Array Slot) (st : aSt) (H : Heap) (locs : List Loc), lv_has ls 7 (lwV b (aAd G 1) (aAd G 210) (aAd G 278) iN) → GIv s0 st → aCan st → aHold G st H → (∀ q ∈ locs, G.1.1 < q.base) → W p l e R s m args below meth c H locs 3000 200000 Q (F0 m 1342 ls [])
/-- where a case ends: a cell that is not ours may have come, and its six slots -/
def lwE2 (G : aCX) (l : Launch) (p : Program) (e : Env) (R : Room) (s : State) (m : MethodId) (args : Array Value) (below : List Frame) (meth : Method) (c : Code) (Q : State → Prop) (s0 b iN : Nat) : Prop := ∀ (G' : aCX) (s1 : Nat), G'.1.1 = G.1.1 → G'.2 = G.2 → s1 ≤ s0 + 6 → (∀ r, gS G'.1.2 r ≤ gS G.1.2 r + 1) → lwE3 G' l p e R s m args below meth c Q s1 b iN
theorem lwE2_G (h : lwE2 G l p e R s m args below meth c Q s0 b iN) : lwE3 G l p e R s m args below meth c Q s0 b iN := h G s0 rfl rfl (Nat.le_add_right _ _) (fun r => Nat.le_add_right _ _)
/-- from the store of the reference's answer to the case's end -/
theorem lwTail {off : Int} {k w : Int} (hX : aCtx G 33 mL_law p R s m args meth c) (d0 : decode code pc = .ok (.istore 6, 2)) (d1 : decode code (pc + 2) = .ok (.aload_n 2, 1)) (d2 : decode code (pc + 2 + 1) = .ok (.invokevirtual 104, 3)) (d3 : decode code (pc + 2 + 1 + 3) = .ok (.iload 5, 2)) (d4 : decode code (pc + 2 + 1 + 3 + 2) = .ok (.if_icmp .eq 5, 3)) (d5 : decode code (pc + 13) = .ok (.iload 5, 2)) (d6 : decode code (pc + 13 + 2) = .ok (.ifCond .ne 15, 3)) (d7 : decode code (pc + 13 + 2 + 3) = .ok (.aload_n 3, 1)) (d8 : decode code (pc + 13 + 2 + 3 + 1) = .ok (.iconst 0, 1)) (d9 : decode code (pc + 13 + 2 + 3 + 1 + 1) = .ok (.laload, 1)) (d10 : decode code (pc + 13 + 2 + 3 + 1 + 1 + 1) = .ok (.iload 6, 2)) (d11 : decode code (pc + 13 + 2 + 3 + 1 + 1 + 1 + 2) = .ok (.i2l, 1)) (d12 : decode code (pc + 13 + 2 + 3 + 1 + 1 + 1 + 2 + 1) = .ok (.lcmp, 1)) (d13 : decode code (pc + 13 + 2 + 3 + 1 + 1 + 1 + 2 + 1 + 1) = .ok (.ifCond .eq 5, 3)) (d14 : decode code (pc + 30) = .ok (.goto off, 3)) (ho : ((pc + 30 : Nat) : Int) + off = 1342) (hl : lv_has ls 7 ((5, .int (Int32.ofInt k)) :: lwV b (aAd G 1) (aAd G 210) (aAd G 278) iN)) (hE : lwE3 G l p e R s m args below meth c Q s0 b iN) (hk : k = 0 ∨ k = 1) (hG : GIv s0 st) (hth : st.2.1 210 0 = k) (hw : k = 0 → st.2.1 278 0 = w) (iw : i32 w) (hC : aCan st) (hH : aHold G st H) (hlo : ∀ q ∈ locs, G.1.1 < q.base) : W p l e R s m args below meth c H locs 3000 200000 Q (F0 m pc ls (.int (Int32.ofInt w) :: [])) := by
  have hx := hX.1
  have hb := hX.2.1
  have hX2 : aCtx G 32 mL_law p R s m args meth c := by
    obtain ⟨a1, a2, a3, a4, a5, a6, a7, a8, a9, a10, a11, a12, a13, a14, a15⟩ := hX
    exact ⟨a1, a2, a3, a4, a5, a6, a7, a8, a9, a10, by omega, by omega, by omega, by omega, a15⟩
  refine lv_istore hx hb d0 hl (by decide) rfl (fun ls1 h1 => ?_)
  refine lv_aload_n hx hb d1 rfl (lv_at h1 4 rfl) ?_
  refine lwCall (y := iX12_thrown) (r := 210) (x := 104) (A := []) (rest := []) (P := fun w' st' => w' = st.2.1 210 0 ∧ st' = st) hX2 (by decide +kernel) rfl ((GIv_k1 hG).2.1.trans (by decide +kernel)) (by decide +kernel) (u_thrown (GIv_kn hG) ⟨rfl, rfl⟩) (fun v hv => by cases hv) hC hH hlo h1.1 (by decide) (gW (by decide +kernel)) d2 (fun w1 st1 H1 locs1 hM hw1 hC1 hH1 hlo1 => ?_)
  obtain ⟨ew, -⟩ := rv_ok (G := G) (by decide +kernel) hw1
  rw [ew]
  obtain ⟨rfl, rfl⟩ := hM
  rw [hth]
  refine lv_iload hx hb d3 (lv_at h1 1 rfl) ?_
  refine lv_icmp_eq (tgt := pc + 13) hx hb d4 (by omega) (fun _ => ?_) (fun q => absurd rfl q)
  have hend : ∀ ls2 : Array Slot, lv_has ls2 7 ((6, .int (Int32.ofInt w)) :: (5, .int (Int32.ofInt k)) :: lwV b (aAd G 1) (aAd G 210) (aAd G 278) iN) → W p l e R s m args below meth c H1 locs1 3000 200000 Q (F0 m (pc + 30) ls2 []) := fun ls2 h2 => lv_goto (tgt := 1342) hx hb d14 ho (hE ls2 _ _ _ (lv_sub h2 [2, 3, 4, 5, 6] rfl) hG hC1 hH1 hlo1)
  refine lv_iload hx hb d5 (lv_at h1 1 rfl) ?_
  refine lv_if_ne (tgt := pc + 30) hx hb d6 (by omega) (fun _ => hend _ h1) (fun q => ?_)
  have k0 : k = 0 := by
    rcases hk with hk | hk
    · exact hk
    · subst hk
      exact absurd q (by decide)
  have hw := hw k0
  refine lv_aload_n hx hb d7 rfl (lv_at h1 5 rfl) ?_
  refine lv_iconst (v := Int32.ofInt 0) hx hb d8 rfl ?_
  have k2 : st1.1 278 = (15, 1, []) := (GIv_k1 hG).2.2
  obtain ⟨g1, g2, g3⟩ := hold_at hH1 hC1 (r := 278) (by rw [k2]; decide)
  rw [ent_15 (n := 1) (by rw [k2]) (by rw [k2])] at g3
  refine va_lald hx hb hX.2.2.2.2.2.2.1 (va_one g3) 0 2 rfl rfl (i := Int32.ofInt 0) (of_in ⟨by decide, by decide⟩ (by decide) (by decide)) d9 ?_
  rw [of_clamp ⟨by decide, by decide⟩]
  show W p l e R s m args below meth c H1 locs1 3000 200000 Q (F0 m _ ls1 (.long (Int64.ofInt (st1.2.1 278 0)) :: []))
  rw [hw]
  refine lv_iload hx hb d10 (lv_at h1 0 rfl) ?_
  refine lv_i2l hx hb d11 (of_i2l iw) ?_
  refine W.lcmp hx hb d12 ?_
  rw [lg_same]
  exact lv_if_eq (tgt := pc + 30) hx hb d13 (by omega) (fun _ => hend _ h1) (fun q => absurd rfl q)
end
section
variable {G : aCX} {l : Launch} {p : Program} {e : Env} {R : Room} {s : State} {m : MethodId} {args : Array Value} {below : List Frame} {meth : Method} {c : Code} {Q : State → Prop} {st : aSt} {H : Heap} {locs : List Loc} {ls : Array Slot} {pc b Ls iN s0 : Nat} {xs : Nat → Int32} {st0 rest : List Value}
theorem lwM_owed {k : Int} (hX : aCtx G 33 mL_law p R s m args meth c) (hv : va_X b Ls xs s s.heap ∧ b < s.heap.size ∧ Ls ≤ 3584 ∧ G.1.1 + 1 = s.heap.size ∧ G.2.2.2.1 = s.heap) (hl : lv_has ls 7 (lwV b (aAd G 1) (aAd G 210) (aAd G 278) iN)) (hi : iN + 6 < Ls) (hE : lwE3 G l p e R s m args below meth c Q s0 b iN) (hk : k = 0 ∨ k = 1) (h12 : (st.1 210).1 = 12) (hC : aCan st) (hH : aHold G st H) (hlo : ∀ q ∈ locs, G.1.1 < q.base)
    (hg : VM G l 31 iX12_owed [rf 210, (0, (xs (iN + 1)).toInt), (0, (xs (iN + 2)).toInt)] st (fun w' st2 => st2.2.1 210 0 = k ∧ (k = 0 → st2.2.1 278 0 = w') ∧ GIv s0 st2)) : W p l e R s m args below meth c H locs 3000 200000 Q (F0 m 852 ls (.int (Int32.ofInt k) :: [])) := by
  obtain ⟨v1, v2, v3, v4, v5⟩ := hv
  have hx := hX.1
  have hb := hX.2.1
  have hX2 : aCtx G 32 mL_law p R s m args meth c := by
    obtain ⟨a1, a2, a3, a4, a5, a6, a7, a8, a9, a10, a11, a12, a13, a14, a15⟩ := hX
    exact ⟨a1, a2, a3, a4, a5, a6, a7, a8, a9, a10, by omega, by omega, by omega, by omega, a15⟩
  refine lv_istore hx hb (by decide +kernel : decode code 852 = .ok (.istore 5, 2)) hl (by decide) rfl (fun ls1 h1 => ?_)
  obtain ⟨l7, l0, l1, l2, l3, l4⟩ := lwL_ls h1
  refine lv_aload_n hx hb (by decide +kernel : decode code 854 = .ok (.aload_n 2, 1)) rfl l2 ?_
  refine ldS (k := 1) hx hb (lwS_of v1 v2 v3 v4 v5 hC hH hlo) l0 l4 (by decide) (by omega) (by decide +kernel) (by decide +kernel) (by decide +kernel) (by decide +kernel) (by decide +kernel) ?_
  refine ldS (k := 2) hx hb (lwS_of v1 v2 v3 v4 v5 hC hH hlo) l0 l4 (by decide) (by omega) (by decide +kernel) (by decide +kernel) (by decide +kernel) (by decide +kernel) (by decide +kernel) ?_
  rw [← aV_i (G := G) (v := xs (iN + 1)), ← aV_i (G := G) (v := xs (iN + 2))]
  refine lwCall (y := iX12_owed) (r := 210) (x := 103) (A := [(0, (xs (iN + 1)).toInt), (0, (xs (iN + 2)).toInt)]) (rest := []) hX2 (by decide +kernel) rfl (h12.trans (by decide +kernel)) (by decide +kernel) hg (aOkCo (aOk_i (i32_v _)) (aOkCo (aOk_i (i32_v _)) (fun v hv => by cases hv))) hC hH hlo l7 (by decide) (gW (by decide +kernel)) (by decide +kernel) (fun w1 st1 H1 locs1 hM hw1 hC1 hH1 hlo1 => ?_)
  obtain ⟨ew, iw⟩ := rv_ok (G := G) (by decide +kernel) hw1
  rw [ew]
  obtain ⟨q1, q2, q3⟩ := hM
  exact lwTail (pc := 870) (off := 442) hX (by decide +kernel) (by decide +kernel) (by decide +kernel) (by decide +kernel) (by decide +kernel) (by decide +kernel) (by decide +kernel) (by decide +kernel) (by decide +kernel) (by decide +kernel) (by decide +kernel) (by decide +kernel) (by decide +kernel) (by decide +kernel) (by decide +kernel) (by decide) h1 hE hk q3 q1 q2 iw hC1 hH1 hlo1
theorem lw_owed {adT : Nat → Nat} (hl0 : l.stackTraces = false) (hX : aCtx G 33 mL_law p R s m args meth c) (hT : tE G.1.1 G.2.2.2.1 adT s.vm) (hv : va_X b Ls xs s s.heap ∧ b < s.heap.size ∧ Ls ≤ 3584 ∧ G.1.1 + 1 = s.heap.size ∧ G.2.2.2.1 = s.heap) (hl : lv_has ls 7 (lwV b (aAd G 1) (aAd G 210) (aAd G 278) iN)) (hi : iN + 6 < Ls) (hE : lwE2 G l p e R s m args below meth c Q s0 b iN) (hs0 : s0 ≤ 100000) (hg : gS G.1.2 st.2.2.1 < 1000) (hG : GIv s0 st) (hC : aCan st) (hH : aHold G st H) (hlo : ∀ q ∈ locs, G.1.1 < q.base) : W p l e R s m args below meth c H locs 3000 200000 Q (F0 m 835 ls []) := by
  obtain ⟨v1, v2, v3, v4, v5⟩ := hv
  obtain ⟨l7, l0, l1, l2, l3, l4⟩ := lwL_of (tl := []) hl
  have hx := hX.1
  have hb := hX.2.1
  refine lv_aload_n hx hb (by decide +kernel : decode code 835 = .ok (.aload_n 1, 1)) rfl l1 ?_
  refine ldS (k := 1) hx hb (lwS_of v1 v2 v3 v4 v5 hC hH hlo) l0 l4 (by decide) (by omega) (by decide +kernel) (by decide +kernel) (by decide +kernel) (by decide +kernel) (by decide +kernel) ?_
  refine ldS (k := 2) hx hb (lwS_of v1 v2 v3 v4 v5 hC hH hlo) l0 l4 (by decide) (by omega) (by decide +kernel) (by decide +kernel) (by decide +kernel) (by decide +kernel) (by decide +kernel) ?_
  refine lv_aload_n hx hb (by decide +kernel : decode code 848 = .ok (.aload_n 3, 1)) rfl l3 ?_
  have eA : ∀ G : aCX, [rf 1, (0, (xs (iN + 1)).toInt), (0, (xs (iN + 2)).toInt), rf 278].map (aV G) = [.ref (aAd G 1), .int (xs (iN + 1)), .int (xs (iN + 2)), .ref (aAd G 278)] := fun G => by
    show [aV G (2, Int.ofNat 1), aV G (0, (xs (iN + 1)).toInt), aV G (0, (xs (iN + 2)).toInt), aV G (2, Int.ofNat 278)] = _
    rw [aV_ref (by decide), aV_ref (by decide), aV_i, aV_i]
  by_cases h : ((0 ≤ (xs (iN + 1)).toInt ∧ (xs (iN + 1)).toInt < nhS st.2.1) ∧ (0 ≤ (xs (iN + 2)).toInt ∧ (xs (iN + 2)).toInt < nhS st.2.1) ∧ (xs (iN + 1)).toInt ≠ (xs (iN + 2)).toInt)
  · refine (fun KK => ?_) (lwHelpN (l := l) (e := e) (below := below) (Q := Q) (ls := ls) (locs := locs) (pc := 849) (x := 98) (k := 4) hX (hn_owed (l := l) hG hC (i32_v _) (i32_v _) h.1 h.2.1 h.2.2) rfl (gW (by decide +kernel)) (gW (by decide +kernel)) (gW (by decide +kernel)) (gW (by decide +kernel)) ⟨by decide, by decide, by decide +kernel⟩ (by decide) hC hH hlo l7 (by decide +kernel) (fun w st1 H1 locs1 hM hw hC1 hH1 hlo1 => ?_))
    · rw [eA G] at KK
      exact KK
    · obtain ⟨rfl, kn1, wv, iw, h278, hv2⟩ := hM
      exact lwM_owed (k := 0) hX ⟨v1, v2, v3, v4, v5⟩ hl hi (lwE2_G hE) (Or.inl rfl) (by rw [kn1 210 rfl]; rfl) hC1 hH1 hlo1 (VM_mono hv2 (fun w' st2 q => ⟨q.2.1, fun _ => q.2.2.1.trans q.1.symm, q.2.2.2⟩))
  · obtain ⟨K, D, z⟩ := st
    obtain ⟨m1, T1, T2, nt, n1, wo, cn, cc, hX1⟩ := id hG
    have hX1 : giX s0 m1 T1 T2 nt n1 wo cn cc K D z := hX1
    have nx : 279 ≤ z.1 := by
      have ez : z = (279 + 10 * m1, s0 + 197 * m1) := hX1.1.2.1.2.1
      rw [ez]
      show 279 ≤ 279 + 10 * m1
      omega
    have ead : ∀ g r : Nat, r < 279 → aAd (gp G z.1 g) r = aAd G r := fun g r hr => ad_lo (by omega)
    have hM := ht_owed (G := G) (adT := adT) catchOk l hl0 hX1.1.1 hX1.1.2.2.2.1 hX1.2.2.2.1.1 hC (i32_v _) (i32_v _) (by rw [← nhS_eq hX1.2.2.2.1.1]; exact h)
    rw [Int32.ofInt_toInt, Int32.ofInt_toInt] at hM
    refine (fun KK => ?_) (lwHelpT (l := l) (e := e) (below := below) (Q := Q) (ls := ls) (locs := locs) (pc := 849) (x := 98) (k := 4) hX hT hM rfl (gW (by decide +kernel)) (gW (by decide +kernel)) (gW (by decide +kernel)) (gW (by decide +kernel)) ⟨by decide, by decide, by decide +kernel⟩ (by decide) hs0 hG hC hH hg l7 (by decide +kernel) (fun g H1 hg1 hH1 => ?_))
    · exact KK
    · have hG6 := GIv6 hs0 hG
      have hC6 := can6 hs0 hG hC
      exact lwM_owed (G := gp G z.1 g) (st := aS6 (K, D, z)) (s0 := s0 + 6) (k := 1) hX ⟨v1, v2, v3, v4, v5⟩ (by rw [ead g 1 (by decide), ead g 210 (by decide), ead g 278 (by decide)]; exact hl) hi (hE _ _ rfl rfl (Nat.le_refl _) (fun r => Nat.le_trans (gS_gp (by omega) r) (by omega))) (Or.inr rfl) (by show (K 210).1 = 12; rw [hX1.1.1 210 rfl]; rfl) hC6 hH1 hlo (VM_mono (g_owedN hG6 h) (fun _ _ q => ⟨q.1, fun q0 => absurd q0 (by decide), q.2⟩))
theorem lwM_bears {k : Int} (hX : aCtx G 33 mL_law p R s m args meth c) (hv : va_X b Ls xs s s.heap ∧ b < s.heap.size ∧ Ls ≤ 3584 ∧ G.1.1 + 1 = s.heap.size ∧ G.2.2.2.1 = s.heap) (hl : lv_has ls 7 (lwV b (aAd G 1) (aAd G 210) (aAd G 278) iN)) (hi : iN + 6 < Ls) (hE : lwE3 G l p e R s m args below meth c Q s0 b iN) (hk : k = 0 ∨ k = 1) (h12 : (st.1 210).1 = 12) (hC : aCan st) (hH : aHold G st H) (hlo : ∀ q ∈ locs, G.1.1 < q.base)
    (hg : VM G l 31 iX12_bears [rf 210, (0, (xs (iN + 1)).toInt)] st (fun w' st2 => st2.2.1 210 0 = k ∧ (k = 0 → st2.2.1 278 0 = w') ∧ GIv s0 st2)) : W p l e R s m args below meth c H locs 3000 200000 Q (F0 m 914 ls (.int (Int32.ofInt k) :: [])) := by
  obtain ⟨v1, v2, v3, v4, v5⟩ := hv
  have hx := hX.1
  have hb := hX.2.1
  have hX2 : aCtx G 32 mL_law p R s m args meth c := by
    obtain ⟨a1, a2, a3, a4, a5, a6, a7, a8, a9, a10, a11, a12, a13, a14, a15⟩ := hX
    exact ⟨a1, a2, a3, a4, a5, a6, a7, a8, a9, a10, by omega, by omega, by omega, by omega, a15⟩
  refine lv_istore hx hb (by decide +kernel : decode code 914 = .ok (.istore 5, 2)) hl (by decide) rfl (fun ls1 h1 => ?_)
  obtain ⟨l7, l0, l1, l2, l3, l4⟩ := lwL_ls h1
  refine lv_aload_n hx hb (by decide +kernel : decode code 916 = .ok (.aload_n 2, 1)) rfl l2 ?_
  refine ldS (k := 1) hx hb (lwS_of v1 v2 v3 v4 v5 hC hH hlo) l0 l4 (by decide) (by omega) (by decide +kernel) (by decide +kernel) (by decide +kernel) (by decide +kernel) (by decide +kernel) ?_
  rw [← aV_i (G := G) (v := xs (iN + 1))]
  refine lwCall (y := iX12_bears) (r := 210) (x := 110) (A := [(0, (xs (iN + 1)).toInt)]) (rest := []) hX2 (by decide +kernel) rfl (h12.trans (by decide +kernel)) (by decide +kernel) hg (aOkCo (aOk_i (i32_v _)) (fun v hv => by cases hv)) hC hH hlo l7 (by decide) (gW (by decide +kernel)) (by decide +kernel) (fun w1 st1 H1 locs1 hM hw1 hC1 hH1 hlo1 => ?_)
  obtain ⟨ew, iw⟩ := rv_ok (G := G) (by decide +kernel) hw1
  rw [ew]
  obtain ⟨q1, q2, q3⟩ := hM
  exact lwTail (pc := 926) (off := 386) hX (by decide +kernel) (by decide +kernel) (by decide +kernel) (by decide +kernel) (by decide +kernel) (by decide +kernel) (by decide +kernel) (by decide +kernel) (by decide +kernel) (by decide +kernel) (by decide +kernel) (by decide +kernel) (by decide +kernel) (by decide +kernel) (by decide +kernel) (by decide) h1 hE hk q3 q1 q2 iw hC1 hH1 hlo1
theorem lw_bears {adT : Nat → Nat} (hl0 : l.stackTraces = false) (hX : aCtx G 33 mL_law p R s m args meth c) (hT : tE G.1.1 G.2.2.2.1 adT s.vm) (hv : va_X b Ls xs s s.heap ∧ b < s.heap.size ∧ Ls ≤ 3584 ∧ G.1.1 + 1 = s.heap.size ∧ G.2.2.2.1 = s.heap) (hl : lv_has ls 7 (lwV b (aAd G 1) (aAd G 210) (aAd G 278) iN)) (hi : iN + 6 < Ls) (hE : lwE2 G l p e R s m args below meth c Q s0 b iN) (hs0 : s0 ≤ 100000) (hg : gS G.1.2 st.2.2.1 < 1000) (hG : GIv s0 st) (hC : aCan st) (hH : aHold G st H) (hlo : ∀ q ∈ locs, G.1.1 < q.base) : W p l e R s m args below meth c H locs 3000 200000 Q (F0 m 903 ls []) := by
  obtain ⟨v1, v2, v3, v4, v5⟩ := hv
  obtain ⟨l7, l0, l1, l2, l3, l4⟩ := lwL_of (tl := []) hl
  have hx := hX.1
  have hb := hX.2.1
  refine lv_aload_n hx hb (by decide +kernel : decode code 903 = .ok (.aload_n 1, 1)) rfl l1 ?_
  refine ldS (k := 1) hx hb (lwS_of v1 v2 v3 v4 v5 hC hH hlo) l0 l4 (by decide) (by omega) (by decide +kernel) (by decide +kernel) (by decide +kernel) (by decide +kernel) (by decide +kernel) ?_
  refine lv_aload_n hx hb (by decide +kernel : decode code 910 = .ok (.aload_n 3, 1)) rfl l3 ?_
  have eA : ∀ G : aCX, [rf 1, (0, (xs (iN + 1)).toInt), rf 278].map (aV G) = [.ref (aAd G 1), .int (xs (iN + 1)), .ref (aAd G 278)] := fun G => by
    show [aV G (2, Int.ofNat 1), aV G (0, (xs (iN + 1)).toInt), aV G (2, Int.ofNat 278)] = _
    rw [aV_ref (by decide), aV_ref (by decide), aV_i]
  by_cases h : (0 ≤ (xs (iN + 1)).toInt ∧ (xs (iN + 1)).toInt < nhS st.2.1)
  · refine (fun KK => ?_) (lwHelpN (l := l) (e := e) (below := below) (Q := Q) (ls := ls) (locs := locs) (pc := 911) (x := 107) (k := 3) hX (hn_bears (l := l) hG hC (i32_v _) h) rfl (gW (by decide +kernel)) (gW (by decide +kernel)) (gW (by decide +kernel)) (gW (by decide +kernel)) ⟨by decide, by decide, by decide +kernel⟩ (by decide) hC hH hlo l7 (by decide +kernel) (fun w st1 H1 locs1 hM hw hC1 hH1 hlo1 => ?_))
    · rw [eA G] at KK
      exact KK
    · obtain ⟨rfl, kn1, wv, iw, h278, hv2⟩ := hM
      exact lwM_bears (k := 0) hX ⟨v1, v2, v3, v4, v5⟩ hl hi (lwE2_G hE) (Or.inl rfl) (by rw [kn1 210 rfl]; rfl) hC1 hH1 hlo1 (VM_mono hv2 (fun w' st2 q => ⟨q.2.1, fun _ => q.2.2.1.trans q.1.symm, q.2.2.2⟩))
  · obtain ⟨K, D, z⟩ := st
    obtain ⟨m1, T1, T2, nt, n1, wo, cn, cc, hX1⟩ := id hG
    have hX1 : giX s0 m1 T1 T2 nt n1 wo cn cc K D z := hX1
    have nx : 279 ≤ z.1 := by
      have ez : z = (279 + 10 * m1, s0 + 197 * m1) := hX1.1.2.1.2.1
      rw [ez]
      show 279 ≤ 279 + 10 * m1
      omega
    have ead : ∀ g r : Nat, r < 279 → aAd (gp G z.1 g) r = aAd G r := fun g r hr => ad_lo (by omega)
    have hM := ht_bears (G := G) (adT := adT) catchOk l hl0 hX1.1.1 hX1.1.2.2.2.1 hX1.2.2.2.1.1 hC (i32_v _) (by rw [← nhS_eq hX1.2.2.2.1.1]; exact h)
    rw [Int32.ofInt_toInt] at hM
    refine (fun KK => ?_) (lwHelpT (l := l) (e := e) (below := below) (Q := Q) (ls := ls) (locs := locs) (pc := 911) (x := 107) (k := 3) hX hT hM rfl (gW (by decide +kernel)) (gW (by decide +kernel)) (gW (by decide +kernel)) (gW (by decide +kernel)) ⟨by decide, by decide, by decide +kernel⟩ (by decide) hs0 hG hC hH hg l7 (by decide +kernel) (fun g H1 hg1 hH1 => ?_))
    · exact KK
    · have hG6 := GIv6 hs0 hG
      have hC6 := can6 hs0 hG hC
      exact lwM_bears (G := gp G z.1 g) (st := aS6 (K, D, z)) (s0 := s0 + 6) (k := 1) hX ⟨v1, v2, v3, v4, v5⟩ (by rw [ead g 1 (by decide), ead g 210 (by decide), ead g 278 (by decide)]; exact hl) hi (hE _ _ rfl rfl (Nat.le_refl _) (fun r => Nat.le_trans (gS_gp (by omega) r) (by omega))) (Or.inr rfl) (by show (K 210).1 = 12; rw [hX1.1.1 210 rfl]; rfl) hC6 hH1 hlo (VM_mono (g_bearsN hG6 h) (fun _ _ q => ⟨q.1, fun q0 => absurd q0 (by decide), q.2⟩))
theorem lwM_clears {k : Int} (hX : aCtx G 33 mL_law p R s m args meth c) (hv : va_X b Ls xs s s.heap ∧ b < s.heap.size ∧ Ls ≤ 3584 ∧ G.1.1 + 1 = s.heap.size ∧ G.2.2.2.1 = s.heap) (hl : lv_has ls 7 (lwV b (aAd G 1) (aAd G 210) (aAd G 278) iN)) (hi : iN + 6 < Ls) (hE : lwE3 G l p e R s m args below meth c Q s0 b iN) (hk : k = 0 ∨ k = 1) (h12 : (st.1 210).1 = 12) (hC : aCan st) (hH : aHold G st H) (hlo : ∀ q ∈ locs, G.1.1 < q.base)
    (hg : VM G l 31 iX12_clears [rf 210, (0, (xs (iN + 1)).toInt), (0, (xs (iN + 2)).toInt)] st (fun w' st2 => st2.2.1 210 0 = k ∧ (k = 0 → st2.2.1 278 0 = w') ∧ GIv s0 st2)) : W p l e R s m args below meth c H locs 3000 200000 Q (F0 m 1075 ls (.int (Int32.ofInt k) :: [])) := by
  obtain ⟨v1, v2, v3, v4, v5⟩ := hv
  have hx := hX.1
  have hb := hX.2.1
  have hX2 : aCtx G 32 mL_law p R s m args meth c := by
    obtain ⟨a1, a2, a3, a4, a5, a6, a7, a8, a9, a10, a11, a12, a13, a14, a15⟩ := hX
    exact ⟨a1, a2, a3, a4, a5, a6, a7, a8, a9, a10, by omega, by omega, by omega, by omega, a15⟩
  refine lv_istore hx hb (by decide +kernel : decode code 1075 = .ok (.istore 5, 2)) hl (by decide) rfl (fun ls1 h1 => ?_)
  obtain ⟨l7, l0, l1, l2, l3, l4⟩ := lwL_ls h1
  refine lv_aload_n hx hb (by decide +kernel : decode code 1077 = .ok (.aload_n 2, 1)) rfl l2 ?_
  refine ldS (k := 1) hx hb (lwS_of v1 v2 v3 v4 v5 hC hH hlo) l0 l4 (by decide) (by omega) (by decide +kernel) (by decide +kernel) (by decide +kernel) (by decide +kernel) (by decide +kernel) ?_
  refine ldS (k := 2) hx hb (lwS_of v1 v2 v3 v4 v5 hC hH hlo) l0 l4 (by decide) (by omega) (by decide +kernel) (by decide +kernel) (by decide +kernel) (by decide +kernel) (by decide +kernel) ?_
  rw [← aV_i (G := G) (v := xs (iN + 1)), ← aV_i (G := G) (v := xs (iN + 2))]
  refine lwCall (y := iX12_clears) (r := 210) (x := 125) (A := [(0, (xs (iN + 1)).toInt), (0, (xs (iN + 2)).toInt)]) (rest := []) hX2 (by decide +kernel) rfl (h12.trans (by decide +kernel)) (by decide +kernel) hg (aOkCo (aOk_i (i32_v _)) (aOkCo (aOk_i (i32_v _)) (fun v hv => by cases hv))) hC hH hlo l7 (by decide) (gW (by decide +kernel)) (by decide +kernel) (fun w1 st1 H1 locs1 hM hw1 hC1 hH1 hlo1 => ?_)
  obtain ⟨ew, iw⟩ := rv_ok (G := G) (by decide +kernel) hw1
  rw [ew]
  obtain ⟨q1, q2, q3⟩ := hM
  exact lwTail (pc := 1093) (off := 219) hX (by decide +kernel) (by decide +kernel) (by decide +kernel) (by decide +kernel) (by decide +kernel) (by decide +kernel) (by decide +kernel) (by decide +kernel) (by decide +kernel) (by decide +kernel) (by decide +kernel) (by decide +kernel) (by decide +kernel) (by decide +kernel) (by decide +kernel) (by decide) h1 hE hk q3 q1 q2 iw hC1 hH1 hlo1
theorem lw_clears {adT : Nat → Nat} (hl0 : l.stackTraces = false) (hX : aCtx G 33 mL_law p R s m args meth c) (hT : tE G.1.1 G.2.2.2.1 adT s.vm) (hv : va_X b Ls xs s s.heap ∧ b < s.heap.size ∧ Ls ≤ 3584 ∧ G.1.1 + 1 = s.heap.size ∧ G.2.2.2.1 = s.heap) (hl : lv_has ls 7 (lwV b (aAd G 1) (aAd G 210) (aAd G 278) iN)) (hi : iN + 6 < Ls) (hE : lwE2 G l p e R s m args below meth c Q s0 b iN) (hs0 : s0 ≤ 100000) (hg : gS G.1.2 st.2.2.1 < 1000) (hG : GIv s0 st) (hC : aCan st) (hH : aHold G st H) (hlo : ∀ q ∈ locs, G.1.1 < q.base) : W p l e R s m args below meth c H locs 3000 200000 Q (F0 m 1058 ls []) := by
  obtain ⟨v1, v2, v3, v4, v5⟩ := hv
  obtain ⟨l7, l0, l1, l2, l3, l4⟩ := lwL_of (tl := []) hl
  have hx := hX.1
  have hb := hX.2.1
  refine lv_aload_n hx hb (by decide +kernel : decode code 1058 = .ok (.aload_n 1, 1)) rfl l1 ?_
  refine ldS (k := 1) hx hb (lwS_of v1 v2 v3 v4 v5 hC hH hlo) l0 l4 (by decide) (by omega) (by decide +kernel) (by decide +kernel) (by decide +kernel) (by decide +kernel) (by decide +kernel) ?_
  refine ldS (k := 2) hx hb (lwS_of v1 v2 v3 v4 v5 hC hH hlo) l0 l4 (by decide) (by omega) (by decide +kernel) (by decide +kernel) (by decide +kernel) (by decide +kernel) (by decide +kernel) ?_
  refine lv_aload_n hx hb (by decide +kernel : decode code 1071 = .ok (.aload_n 3, 1)) rfl l3 ?_
  have eA : ∀ G : aCX, [rf 1, (0, (xs (iN + 1)).toInt), (0, (xs (iN + 2)).toInt), rf 278].map (aV G) = [.ref (aAd G 1), .int (xs (iN + 1)), .int (xs (iN + 2)), .ref (aAd G 278)] := fun G => by
    show [aV G (2, Int.ofNat 1), aV G (0, (xs (iN + 1)).toInt), aV G (0, (xs (iN + 2)).toInt), aV G (2, Int.ofNat 278)] = _
    rw [aV_ref (by decide), aV_ref (by decide), aV_i, aV_i]
  by_cases h : ((0 ≤ (xs (iN + 1)).toInt ∧ (xs (iN + 1)).toInt < nhS st.2.1) ∧ 0 ≤ (xs (iN + 2)).toInt ∧ (xs (iN + 2)).toInt ≤ 4)
  · refine (fun KK => ?_) (lwHelpN (l := l) (e := e) (below := below) (Q := Q) (ls := ls) (locs := locs) (pc := 1072) (x := 123) (k := 4) hX (hn_clears (l := l) hG hC (i32_v _) (i32_v _) h.1 h.2) rfl (gW (by decide +kernel)) (gW (by decide +kernel)) (gW (by decide +kernel)) (gW (by decide +kernel)) ⟨by decide, by decide, by decide +kernel⟩ (by decide) hC hH hlo l7 (by decide +kernel) (fun w st1 H1 locs1 hM hw hC1 hH1 hlo1 => ?_))
    · rw [eA G] at KK
      exact KK
    · obtain ⟨rfl, kn1, wv, iw, h278, hv2⟩ := hM
      exact lwM_clears (k := 0) hX ⟨v1, v2, v3, v4, v5⟩ hl hi (lwE2_G hE) (Or.inl rfl) (by rw [kn1 210 rfl]; rfl) hC1 hH1 hlo1 (VM_mono hv2 (fun w' st2 q => ⟨q.2.1, fun _ => q.2.2.1.trans q.1.symm, q.2.2.2⟩))
  · obtain ⟨K, D, z⟩ := st
    obtain ⟨m1, T1, T2, nt, n1, wo, cn, cc, hX1⟩ := id hG
    have hX1 : giX s0 m1 T1 T2 nt n1 wo cn cc K D z := hX1
    have nx : 279 ≤ z.1 := by
      have ez : z = (279 + 10 * m1, s0 + 197 * m1) := hX1.1.2.1.2.1
      rw [ez]
      show 279 ≤ 279 + 10 * m1
      omega
    have ead : ∀ g r : Nat, r < 279 → aAd (gp G z.1 g) r = aAd G r := fun g r hr => ad_lo (by omega)
    have hM := ht_clears (G := G) (adT := adT) catchOk l hl0 hX1.1.1 hX1.1.2.2.2.1 hX1.2.2.2.1.1 hC (i32_v _) (i32_v _) (by rw [← nhS_eq hX1.2.2.2.1.1]; exact h)
    rw [Int32.ofInt_toInt, Int32.ofInt_toInt] at hM
    refine (fun KK => ?_) (lwHelpT (l := l) (e := e) (below := below) (Q := Q) (ls := ls) (locs := locs) (pc := 1072) (x := 123) (k := 4) hX hT hM rfl (gW (by decide +kernel)) (gW (by decide +kernel)) (gW (by decide +kernel)) (gW (by decide +kernel)) ⟨by decide, by decide, by decide +kernel⟩ (by decide) hs0 hG hC hH hg l7 (by decide +kernel) (fun g H1 hg1 hH1 => ?_))
    · exact KK
    · have hG6 := GIv6 hs0 hG
      have hC6 := can6 hs0 hG hC
      exact lwM_clears (G := gp G z.1 g) (st := aS6 (K, D, z)) (s0 := s0 + 6) (k := 1) hX ⟨v1, v2, v3, v4, v5⟩ (by rw [ead g 1 (by decide), ead g 210 (by decide), ead g 278 (by decide)]; exact hl) hi (hE _ _ rfl rfl (Nat.le_refl _) (fun r => Nat.le_trans (gS_gp (by omega) r) (by omega))) (Or.inr rfl) (by show (K 210).1 = 12; rw [hX1.1.1 210 rfl]; rfl) hC6 hH1 hlo (VM_mono (g_clearsN hG6 h) (fun _ _ q => ⟨q.1, fun q0 => absurd q0 (by decide), q.2⟩))
theorem lwM_look {k : Int} (hX : aCtx G 33 mL_law p R s m args meth c) (hv : va_X b Ls xs s s.heap ∧ b < s.heap.size ∧ Ls ≤ 3584 ∧ G.1.1 + 1 = s.heap.size ∧ G.2.2.2.1 = s.heap) (hl : lv_has ls 7 (lwV b (aAd G 1) (aAd G 210) (aAd G 278) iN)) (hi : iN + 6 < Ls) (hE : lwE3 G l p e R s m args below meth c Q s0 b iN) (hk : k = 0 ∨ k = 1) (h12 : (st.1 210).1 = 12) (hC : aCan st) (hH : aHold G st H) (hlo : ∀ q ∈ locs, G.1.1 < q.base)
    (hg : VM G l 31 iX12_look [rf 210, (0, (xs (iN + 1)).toInt), (0, (xs (iN + 2)).toInt)] st (fun w' st2 => st2.2.1 210 0 = k ∧ (k = 0 → st2.2.1 278 0 = w') ∧ GIv s0 st2)) : W p l e R s m args below meth c H locs 3000 200000 Q (F0 m 1266 ls (.int (Int32.ofInt k) :: [])) := by
  obtain ⟨v1, v2, v3, v4, v5⟩ := hv
  have hx := hX.1
  have hb := hX.2.1
  have hX2 : aCtx G 32 mL_law p R s m args meth c := by
    obtain ⟨a1, a2, a3, a4, a5, a6, a7, a8, a9, a10, a11, a12, a13, a14, a15⟩ := hX
    exact ⟨a1, a2, a3, a4, a5, a6, a7, a8, a9, a10, by omega, by omega, by omega, by omega, a15⟩
  refine lv_istore hx hb (by decide +kernel : decode code 1266 = .ok (.istore 5, 2)) hl (by decide) rfl (fun ls1 h1 => ?_)
  obtain ⟨l7, l0, l1, l2, l3, l4⟩ := lwL_ls h1
  refine lv_aload_n hx hb (by decide +kernel : decode code 1268 = .ok (.aload_n 2, 1)) rfl l2 ?_
  refine ldS (k := 1) hx hb (lwS_of v1 v2 v3 v4 v5 hC hH hlo) l0 l4 (by decide) (by omega) (by decide +kernel) (by decide +kernel) (by decide +kernel) (by decide +kernel) (by decide +kernel) ?_
  refine ldS (k := 2) hx hb (lwS_of v1 v2 v3 v4 v5 hC hH hlo) l0 l4 (by decide) (by omega) (by decide +kernel) (by decide +kernel) (by decide +kernel) (by decide +kernel) (by decide +kernel) ?_
  rw [← aV_i (G := G) (v := xs (iN + 1)), ← aV_i (G := G) (v := xs (iN + 2))]
  refine lwCall (y := iX12_look) (r := 210) (x := 140) (A := [(0, (xs (iN + 1)).toInt), (0, (xs (iN + 2)).toInt)]) (rest := []) hX2 (by decide +kernel) rfl (h12.trans (by decide +kernel)) (by decide +kernel) hg (aOkCo (aOk_i (i32_v _)) (aOkCo (aOk_i (i32_v _)) (fun v hv => by cases hv))) hC hH hlo l7 (by decide) (gW (by decide +kernel)) (by decide +kernel) (fun w1 st1 H1 locs1 hM hw1 hC1 hH1 hlo1 => ?_)
  obtain ⟨ew, iw⟩ := rv_ok (G := G) (by decide +kernel) hw1
  rw [ew]
  obtain ⟨q1, q2, q3⟩ := hM
  exact lwTail (pc := 1284) (off := 28) hX (by decide +kernel) (by decide +kernel) (by decide +kernel) (by decide +kernel) (by decide +kernel) (by decide +kernel) (by decide +kernel) (by decide +kernel) (by decide +kernel) (by decide +kernel) (by decide +kernel) (by decide +kernel) (by decide +kernel) (by decide +kernel) (by decide +kernel) (by decide) h1 hE hk q3 q1 q2 iw hC1 hH1 hlo1
theorem lw_look {adT : Nat → Nat} (hl0 : l.stackTraces = false) (hX : aCtx G 33 mL_law p R s m args meth c) (hT : tE G.1.1 G.2.2.2.1 adT s.vm) (hv : va_X b Ls xs s s.heap ∧ b < s.heap.size ∧ Ls ≤ 3584 ∧ G.1.1 + 1 = s.heap.size ∧ G.2.2.2.1 = s.heap) (hl : lv_has ls 7 (lwV b (aAd G 1) (aAd G 210) (aAd G 278) iN)) (hi : iN + 6 < Ls) (hE : lwE2 G l p e R s m args below meth c Q s0 b iN) (hs0 : s0 ≤ 100000) (hg : gS G.1.2 st.2.2.1 < 1000) (hG : GIv s0 st) (hC : aCan st) (hH : aHold G st H) (hlo : ∀ q ∈ locs, G.1.1 < q.base) : W p l e R s m args below meth c H locs 3000 200000 Q (F0 m 1249 ls []) := by
  obtain ⟨v1, v2, v3, v4, v5⟩ := hv
  obtain ⟨l7, l0, l1, l2, l3, l4⟩ := lwL_of (tl := []) hl
  have hx := hX.1
  have hb := hX.2.1
  refine lv_aload_n hx hb (by decide +kernel : decode code 1249 = .ok (.aload_n 1, 1)) rfl l1 ?_
  refine ldS (k := 1) hx hb (lwS_of v1 v2 v3 v4 v5 hC hH hlo) l0 l4 (by decide) (by omega) (by decide +kernel) (by decide +kernel) (by decide +kernel) (by decide +kernel) (by decide +kernel) ?_
  refine ldS (k := 2) hx hb (lwS_of v1 v2 v3 v4 v5 hC hH hlo) l0 l4 (by decide) (by omega) (by decide +kernel) (by decide +kernel) (by decide +kernel) (by decide +kernel) (by decide +kernel) ?_
  refine lv_aload_n hx hb (by decide +kernel : decode code 1262 = .ok (.aload_n 3, 1)) rfl l3 ?_
  have eA : ∀ G : aCX, [rf 1, (0, (xs (iN + 1)).toInt), (0, (xs (iN + 2)).toInt), rf 278].map (aV G) = [.ref (aAd G 1), .int (xs (iN + 1)), .int (xs (iN + 2)), .ref (aAd G 278)] := fun G => by
    show [aV G (2, Int.ofNat 1), aV G (0, (xs (iN + 1)).toInt), aV G (0, (xs (iN + 2)).toInt), aV G (2, Int.ofNat 278)] = _
    rw [aV_ref (by decide), aV_ref (by decide), aV_i, aV_i]
  by_cases h : ((0 ≤ (xs (iN + 1)).toInt ∧ (xs (iN + 1)).toInt < st.2.1 89 0) ∧ 0 ≤ (xs (iN + 2)).toInt ∧ (xs (iN + 2)).toInt ≤ 6)
  · refine (fun KK => ?_) (lwHelpN (l := l) (e := e) (below := below) (Q := Q) (ls := ls) (locs := locs) (pc := 1263) (x := 138) (k := 4) hX (hn_look (l := l) hG hC (i32_v _) (i32_v _) h.1 h.2) rfl (gW (by decide +kernel)) (gW (by decide +kernel)) (gW (by decide +kernel)) (gW (by decide +kernel)) ⟨by decide, by decide, by decide +kernel⟩ (by decide) hC hH hlo l7 (by decide +kernel) (fun w st1 H1 locs1 hM hw hC1 hH1 hlo1 => ?_))
    · rw [eA G] at KK
      exact KK
    · obtain ⟨rfl, kn1, wv, iw, h278, hv2⟩ := hM
      exact lwM_look (k := 0) hX ⟨v1, v2, v3, v4, v5⟩ hl hi (lwE2_G hE) (Or.inl rfl) (by rw [kn1 210 rfl]; rfl) hC1 hH1 hlo1 (VM_mono hv2 (fun w' st2 q => ⟨q.2.1, fun _ => q.2.2.1.trans q.1.symm, q.2.2.2⟩))
  · obtain ⟨K, D, z⟩ := st
    obtain ⟨m1, T1, T2, nt, n1, wo, cn, cc, hX1⟩ := id hG
    have hX1 : giX s0 m1 T1 T2 nt n1 wo cn cc K D z := hX1
    have nx : 279 ≤ z.1 := by
      have ez : z = (279 + 10 * m1, s0 + 197 * m1) := hX1.1.2.1.2.1
      rw [ez]
      show 279 ≤ 279 + 10 * m1
      omega
    have ead : ∀ g r : Nat, r < 279 → aAd (gp G z.1 g) r = aAd G r := fun g r hr => ad_lo (by omega)
    have hM := ht_look (G := G) (adT := adT) catchOk l hl0 hX1.1.1 hC (i32_v _) (i32_v _) h
    rw [Int32.ofInt_toInt, Int32.ofInt_toInt] at hM
    refine (fun KK => ?_) (lwHelpT (l := l) (e := e) (below := below) (Q := Q) (ls := ls) (locs := locs) (pc := 1263) (x := 138) (k := 4) hX hT hM rfl (gW (by decide +kernel)) (gW (by decide +kernel)) (gW (by decide +kernel)) (gW (by decide +kernel)) ⟨by decide, by decide, by decide +kernel⟩ (by decide) hs0 hG hC hH hg l7 (by decide +kernel) (fun g H1 hg1 hH1 => ?_))
    · exact KK
    · have hG6 := GIv6 hs0 hG
      have hC6 := can6 hs0 hG hC
      exact lwM_look (G := gp G z.1 g) (st := aS6 (K, D, z)) (s0 := s0 + 6) (k := 1) hX ⟨v1, v2, v3, v4, v5⟩ (by rw [ead g 1 (by decide), ead g 210 (by decide), ead g 278 (by decide)]; exact hl) hi (hE _ _ rfl rfl (Nat.le_refl _) (fun r => Nat.le_trans (gS_gp (by omega) r) (by omega))) (Or.inr rfl) (by show (K 210).1 = 12; rw [hX1.1.1 210 rfl]; rfl) hC6 hH1 hlo (VM_mono (g_lookN hG6 h) (fun _ _ q => ⟨q.1, fun q0 => absurd q0 (by decide), q.2⟩))
end
/-! ===== the law: its own objects ===== -/
section
variable {G : aCX} {l : Launch} {d : Nat} {p : Program} {e : Env} {R : Room} {s : State} {m : MethodId} {args : Array Value} {below : List Frame} {meth : Method} {c : Code} {Q : State → Prop} {pc : Nat} {st : aSt} {H : Heap} {locs : List Loc} {ls : Array Slot} {rest : List Value}
theorem lwNew {ci x : Nat} (h1 : st.2.2.1 + 1 ≤ 2000) (h2 : st.2.2.2 + aNf ci ≤ 200000) (hci : ci < 13) (hX : aCtx G d mL_law p R s m args meth c) (hw : Cond.classLink RL x (aCl ci) ∈ gTbl) (hd : decode code pc = .ok (.new x, 3)) (hC : aCan st) (hH : aHold G st H) (kk : ∀ H1 : Heap, aCan (aNew st (ci, 0, List.replicate (aNf ci) 0) (aNf ci)) → aHold G (aNew st (ci, 0, List.replicate (aNf ci) 0) (aNf ci)) H1 → W p l e R s m args below meth c H1 locs 3000 200000 Q (F0 m (pc + 3) ls (.ref (aAd G st.2.2.1) :: rest))) : W p l e R s m args below meth c H locs 3000 200000 Q (F0 m pc ls rest) := by
  obtain ⟨hx, hb, hrt, hml, hown, hts, hK, hlk, hnm, hB, hf1, hf2, hf3, hf4⟩ := hX
  obtain ⟨i1, i2, i3⟩ := ins_of hci
  have hC' := can_push hC (ci, 0, List.replicate (aNf ci) 0) h1 h2
  have c2 : 1 ≤ st.2.2.1 := hC.2.1.1
  have hKn := hK.1 ci _ (cls_at hci)
  refine W.newc hx hb hown (hts _ hw) (hts _ i1) (hts _ i2) rfl hd (by omega) (by omega) fun cC kC f1 f2 f3 f4 => ?_
  have ecA : cC = G.2.1.1 ci := Option.some.inj (f1.symm.trans hKn.2.1)
  subst ecA
  generalize hH1 : H.push ({ cls := G.2.1.1 ci, slots := kC.instanceTypes.map defaultValue, vm := .none } : Cell) = H1
  have hz := hH.1
  have z1 : H1.size = aAd G st.2.2.1 + 1 := by rw [← hH1, Array.size_push, hz]
  have e1 : H1[aAd G st.2.2.1]? = some (blank (G.2.1.1 ci) kC) := by rw [← hH1, ← hz, Array.getElem?_push_size]; rfl
  have o1 : ∀ q : Nat, q < aAd G st.2.2.1 → H1[q]? = H[q]? := fun q hq => by rw [← hH1, Array.getElem?_push, if_neg (by omega)]
  have hsz : (blank (G.2.1.1 ci) kC).slots.size = aNf ci := by rw [← f4]; simp [blank]
  obtain ⟨ty, hty⟩ := tyAll hci
  have k1 : (aNew st (ci, 0, List.replicate (aNf ci) 0) (aNf ci)).1 st.2.2.1 = (ci, 0, List.replicate (aNf ci) 0) := aUk_at
  have k2 : (aNew st (ci, 0, List.replicate (aNf ci) 0) (aNf ci)).2.1 st.2.2.1 = fun _ => 0 := aUz_at
  have hat : va_at G.2.1 vwCl (aAd G st.2.2.1, aEnt G (aNew st (ci, 0, List.replicate (aNf ci) 0) (aNf ci)) st.2.2.1) H1 := by
    rw [ent_o (st := aNew st (ci, 0, List.replicate (aNf ci) 0) (aNf ci)) (t := ci) (by rw [k1]) hci, k1, k2]
    refine ⟨_, cls_at hci, (u_born ty hts (inAll hci) hKn f2 e1 hty).to fun j hj => ?_⟩
    rw [fv_born (G := G) (n := aNf ci) (tc_of hci hj) (hty j hj)]
    show _ = (aFs G (fun _ => 0) ci (List.replicate (aNf ci) 0)).getD j .null
    rw [List.getD_eq_getElem?_getD, fs_at hj]
    rfl
  have hH' := hold_push hH hC z1 e1 o1 hsz hat
  rw [hz]
  exact W.cap hH' hC' hB (kk H1 hC' hH')
theorem lwNewL {n : Nat} (hn : i32 (Int.ofNat n)) (h1 : st.2.2.1 + 1 ≤ 2000) (h2 : st.2.2.2 + n ≤ 200000) (hX : aCtx G d mL_law p R s m args meth c) (hd : decode code pc = .ok (.newarray .long, 2)) (hC : aCan st) (hH : aHold G st H) (kk : ∀ H1 : Heap, aCan (aNew st (15, n, []) n) → aHold G (aNew st (15, n, []) n) H1 → W p l e R s m args below meth c H1 locs 3000 200000 Q (F0 m (pc + 2) ls (.ref (aAd G st.2.2.1) :: rest))) : W p l e R s m args below meth c H locs 3000 200000 Q (F0 m pc ls (.int (Int32.ofInt (Int.ofNat n)) :: rest)) := by
  obtain ⟨hx, hb, hrt, hml, hown, hts, hK, hlk, hnm, hB, hf1, hf2, hf3, hf4⟩ := hX
  have hC' := can_push hC (15, n, []) h1 h2
  have hcl : (Int32.ofInt (Int.ofNat n)).toNatClampNeg = n := by rw [of_clamp hn]; rfl
  have c2 : 1 ≤ st.2.2.1 := hC.2.1.1
  have hk : (aTys G)[2]? = some (G.2.2.1 2, .long) := rfl
  refine va_newaK (atype := .long) hx hb (hts _ w_arrL) rfl hd rfl (of_nneg hn (Int.natCast_nonneg n)) hcl (by show n * 8 ≤ _; omega) (by omega) (by omega) hH.1 fun H1 cA e1 z1 o1 hAr hNm => ?_
  have ecA : cA = G.2.2.1 2 := Option.some.inj (hNm.symm.trans (hK.2 2 _ hk).2)
  subst ecA
  have q0 : (aNew st (15, n, []) n).2.1 st.2.2.1 = fun _ => 0 := aUz_at
  have q1 : (aNew st (15, n, []) n).1 st.2.2.1 = (15, n, []) := aUk_at
  have hat : va_at G.2.1 vwCl (aAd G st.2.2.1, aEnt G (aNew st (15, n, []) n) st.2.2.1) H1 := by
    rw [ent_15 (st := aNew st (15, n, []) n) (n := n) (by rw [q1]) (by rw [q1]), q0]
    exact e1
  have hH' := hold_push (kd := (15, n, [])) hH hC z1 e1 o1 (arrV_size _ _ _) hat
  exact W.cap hH' hC' hB (kk H1 hC' hH')
theorem lwCallI {y r x : Nat} {P : Int → aSt → Prop} (hX : aCtx G 32 mL_law p R s m args meth c) (hkd : (aM y).2.2.2.2.1.2.2.1 = 1) (hlen : (aM y).2.2.2.2.1.2.2.2 = 0) (hrc : (aM y).2.2.2.1 = none) (hr : (st.1 r).1 = (aM y).2.2.2.2.1.1) (hci : (aM y).2.2.2.2.1.1 < 13) (hM : VM G l 31 y [(2, Int.ofNat r)] st P) (hC : aCan st) (hH : aHold G st H) (hlo : ∀ q ∈ locs, G.1.1 < q.base) (hls : ls.size = 7) (hct : (rest.map fun v => v.category).sum ≤ 8) (hlw : Cond.methodLink RL x (aM y).1 ∈ gTbl) (hd : decode code pc = .ok (.invokespecial x, 3))
    (kk : ∀ (w : Int) (st' : aSt) (H1 : Heap) (locs1 : List Loc), P w st' → aCan st' → aHold G st' H1 → (∀ q ∈ locs1, G.1.1 < q.base) → W p l e R s m args below meth c H1 locs1 3000 200000 Q (F0 m (pc + 3) ls ((aRv G (aM y).2.2.2.2.1.2.1 w).toList ++ rest))) : W p l e R s m args below meth c H locs 3000 200000 Q (F0 m pc ls (.ref (aAd G r) :: rest)) := by
  obtain ⟨hx, hb, hrt, hml, hown, hts, hK, hlk, hnm, hB, hf1, hf2, hf3, hf4, ao1, ao2, ao3⟩ := hX
  have hc1 : 3000 + 3000 * (31 + 2) ≤ R.cells := rm_g hf2
  have hc2 : 200000 + 200000 * (31 + 2) ≤ R.slots := rm_g hf3
  have hmw := (okAll y).2.1
  have hcb := callB_a (x := x) (mi := mL_law) hmw hts hlw (R := R) (d' := 31) hf1 hf4
  rw [hrc] at hcb
  obtain ⟨q1, q2, q3⟩ := hold_at hH hC (r := r) (by omega)
  have hM := hM (aOkCo (aOk_r (Int.natCast_nonneg r)) (fun v hv => by cases hv)) hC
  have eA : ([(2, Int.ofNat r)] : List aTV).map (aV G) = [.ref (aAd G r)] := by rw [List.map_cons, aV_ref q1]; rfl
  have hpre := aPre_of (A := [(2, Int.ofNat r)]) hK ao1 ao2 ao3 hH hC
  rw [eA] at hpre
  obtain ⟨w1, w2, w3, w4, w5, w6, w7, w8⟩ := hmw
  have hst : Cond.instanceMethod (aM y).1 ∈ gTbl ∧ (aM y).1.name = "<init>" := by
    rcases w8 with ⟨q, -, q'⟩ | ⟨-, q, q'⟩ | ⟨q, -⟩
    · omega
    · exact ⟨q, q'⟩
    · omega
  exact callW hB hlo (va_runI (b := aAd G r) (As := []) (rest := rest) ⟨hx, hb, hml, hown, hts⟩ hM ⟨hcb, hst.2, hts _ hst.1⟩ ⟨aPre_blind, hpre⟩ rfl (by rw [hlen]; rfl) hls rfl (by show 2 * 0 + _ ≤ 8; omega) hd ⟨hc1, hc2⟩) (fun w st' H1 locs1 k1 _ k3 k4 k5 => kk w st' H1 locs1 k1 k3 k4 k5)
end
/-! ===== the law's start: what the Statement gives of the machine ===== -/
abbrev nwC : Cond := Jvm.Cond.and given_1 narrow_1
def tmS (i : Nat) : Term := if i = 0 then .string RX7 39 else .string RX7 61
abbrev tmV (i : Nat) : Term := .field (tmS i) "java/lang/String" "value" "[B"
theorem nw_in : (List.range 2).all (fun i => decide (Cond.exactly (tmS i) "java/lang/String" ∈ flatC nwC) && decide (Cond.eq (.field (tmS i) "java/lang/String" "coder" "B") (.int 0) ∈ flatC nwC) && decide (Cond.arrayOf (tmV i) .byte ∈ flatC nwC) && decide (Cond.eq (.length (tmV i)) (.int (Int32.ofNat (sLen.getD i 0))) ∈ flatC nwC) && (List.range (sLen.getD i 0)).all (fun j => decide (Cond.eq (.elem (tmV i) (.int (Int32.ofNat j))) (.int ((sByt.getD i []).getD j 0)) ∈ flatC nwC))) = true := by decide +kernel
theorem nw_ne : (decide (Cond.not (Cond.eq (tmS 0) (tmS 1)) ∈ flatC nwC) || decide (Cond.not (Cond.eq (tmS 1) (tmS 0)) ∈ flatC nwC)) = true := by decide +kernel
theorem nw_st : (decide (Cond.eq (.static "java/lang/String" "COMPACT_STRINGS" "Z") (.int 1) ∈ flatC nwC) && decide (Cond.isRef (.static "jdk/internal/util/Preconditions" "SIOOBE_FORMATTER" "Ljava/util/function/BiFunction;") ∈ flatC nwC) && decide (Cond.isRef (.static Bundle.tN "UNASSIGNED_STACK" Bundle.steD) ∈ flatC nwC) && decide (Cond.isRef (.static Bundle.tN "SUPPRESSED_SENTINEL" Bundle.listD) ∈ flatC nwC)) = true := by decide +kernel
section
variable {s : State} {args : Array Value}
/-- a cell kept: up to B all is as it was -/
theorem st_sE {B : Nat} (hB : B + 1 = s.heap.size) (hts : ∀ w ∈ gTbl, w.before args s = true) (htL : ∀ w ∈ lw_tbl, w.before args s = true) (hn : ∀ w ∈ flatC nwC, w.before args s = true) : ∃ adK adV : Nat → Nat, sE B s.heap adK adV s.vm := by
  have hA : ∀ a : Nat, a < s.heap.size → ¬ B < a := fun a h1 h2 => by omega
  have h2 : ∀ i : Nat, i < 2 → Cond.exactly (tmS i) "java/lang/String" ∈ flatC nwC ∧ Cond.eq (.field (tmS i) "java/lang/String" "coder" "B") (.int 0) ∈ flatC nwC ∧ Cond.arrayOf (tmV i) .byte ∈ flatC nwC ∧ Cond.eq (.length (tmV i)) (.int (Int32.ofNat (sLen.getD i 0))) ∈ flatC nwC ∧ ∀ j : Nat, j < sLen.getD i 0 → Cond.eq (.elem (tmV i) (.int (Int32.ofNat j))) (.int ((sByt.getD i []).getD j 0)) ∈ flatC nwC := fun i hi => by
    have h := List.all_eq_true.mp nw_in i (List.mem_range.mpr hi)
    simp only [Bool.and_eq_true, decide_eq_true_eq, List.all_eq_true] at h
    obtain ⟨⟨⟨⟨a1, a2⟩, a3⟩, a4⟩, a5⟩ := h
    exact ⟨a1, a2, a3, a4, fun j hj => a5 j (List.mem_range.mpr hj)⟩
  have hst := nw_st
  simp only [Bool.and_eq_true, decide_eq_true_eq] at hst
  obtain ⟨⟨⟨s1, s2⟩, -⟩, -⟩ := hst
  obtain ⟨adK, adV, k1, k2⟩ := vk_Sof (args := args) (s := s) (N := 2) (tm := tmS) (len := sLen) (byt := sByt) (A := fun q => B < q) (fun i hi => by
      rcases (by omega : i = 0 ∨ i = 1) with rfl | rfl <;> decide) (fun i hi => hn _ (h2 i hi).1) (fun i hi => hn _ (h2 i hi).2.1) (fun i hi => hn _ (h2 i hi).2.2.1) (fun i hi => hn _ (h2 i hi).2.2.2.1) (fun i hi j hj => hn _ ((h2 i hi).2.2.2.2 j hj)) (fun i j hi hj hij => by
      have hne := nw_ne
      simp only [Bool.or_eq_true, decide_eq_true_eq] at hne
      rcases (by omega : (i = 0 ∧ j = 1) ∨ (i = 1 ∧ j = 0)) with ⟨rfl, rfl⟩ | ⟨rfl, rfl⟩
      · rcases hne with q | q
        · exact Or.inl (hn _ q)
        · exact Or.inr (hn _ q)
      · rcases hne with q | q
        · exact Or.inr (hn _ q)
        · exact Or.inl (hn _ q)) hA
  have r1 : vk_R RX7 39 kwT (adK 0) s := vk_R.of (htL _ (by decide +kernel)) (k2 0 (by decide))
  have r2 : vk_R RX7 61 sgT (adK 1) s := vk_R.of (htL _ (by decide +kernel)) (k2 1 (by decide))
  have z1 := va_Zof (A := fun q => B < q) (htL (.laysStatic "java/lang/String" "COMPACT_STRINGS" "Z") (by decide +kernel)) (hts _ (gW (by decide +kernel))) (va_eqi (hn _ s1)) hA
  have z2 := va_Zqof (A := fun q => B < q) (htL (.laysStatic "jdk/internal/util/Preconditions" "SIOOBE_FORMATTER" "Ljava/util/function/BiFunction;") (by decide +kernel)) (hts _ (gW (by decide +kernel))) (hn _ s2) hA
  refine ⟨adK, adV, fun U hU => ?_⟩
  have hW : s.WarmedH U.vm := by rw [hU]; exact State.WarmedH.refl s
  refine ⟨⟨vk_R.warm hW r1, vk_R.warm hW r2⟩, fun H hH => ?_⟩
  have hq : ∀ a : Nat, a < s.heap.size → ¬ B < a → H[a]? = s.heap[a]? := fun a _ h => hH a (by omega)
  exact ⟨va_Z.moved hW.alike (va_Z.kept z1 hq), va_Zq.moved hW.alike (va_Zq.kept z2 hq), vk_S.moved hW.alike (vk_S.kept k1 hq)⟩
theorem st_R {k : Nat} {tx : String} {cur : Nat} (hc : s.vm.findClass RX11 = some cur) (h : (Cond.stringRef RX11 k tx).before args s = true) : ∃ a : Nat, vk_R RX11 k tx a s := by
  obtain ⟨k1, cf, i, a, -, -, -, -, -, h6⟩ := Cond.stringRef_spec hc h
  exact ⟨a, vk_R.of h h6⟩
theorem st_tE {B cur : Nat} (hB : B + 1 = s.heap.size) (hc : s.vm.findClass RX11 = some cur) (hts : ∀ w ∈ gTbl, w.before args s = true) (htL : ∀ w ∈ lw_tbl, w.before args s = true) (hn : ∀ w ∈ flatC nwC, w.before args s = true) : ∃ adT : Nat → Nat, tE B s.heap adT s.vm := by
  have hA : ∀ a : Nat, a < s.heap.size → ¬ B < a := fun a h1 h2 => by omega
  have hst := nw_st
  simp only [Bool.and_eq_true, decide_eq_true_eq] at hst
  obtain ⟨⟨-, s3⟩, s4⟩ := hst
  obtain ⟨a0, h0⟩ := st_R hc (htL (.stringRef RX11 219 "no such houses") (by decide +kernel))
  obtain ⟨a1, h1⟩ := st_R hc (htL (.stringRef RX11 228 "no such house") (by decide +kernel))
  obtain ⟨a2, h2⟩ := st_R hc (htL (.stringRef RX11 263 "no such house or what") (by decide +kernel))
  obtain ⟨a3, h3⟩ := st_R hc (htL (.stringRef RX11 294 "no such loss or what") (by decide +kernel))
  have z1 := vx_Zqof (A := fun q => B < q) (htL (.laysStatic Bundle.tN "UNASSIGNED_STACK" Bundle.steD) (by decide +kernel)) (hts (.initialized Bundle.tN) (gW (by decide +kernel))) (hn _ s3) hA
  have z2 := vx_Zqof (A := fun q => B < q) (htL (.laysStatic Bundle.tN "SUPPRESSED_SENTINEL" Bundle.listD) (by decide +kernel)) (hts (.initialized Bundle.tN) (gW (by decide +kernel))) (hn _ s4) hA
  have n1 : va_Nw (.declares (Bundle.initS "java/lang/RuntimeException")) s := va_Nw.of rfl (htL _ (by decide +kernel))
  have n2 : va_Nw (.declares (Bundle.initS "java/lang/Exception")) s := va_Nw.of rfl (htL _ (by decide +kernel))
  have n3 : va_Nw (.declares (Bundle.initS Bundle.tN)) s := va_Nw.of rfl (htL _ (by decide +kernel))
  have n4 : va_Nw (.castable nsE nsE) s := va_Nw.of rfl (htL _ (by decide +kernel))
  refine ⟨fun i => match i with | 0 => a0 | 1 => a1 | 2 => a2 | _ => a3, fun U hU => ?_⟩
  have hW : s.WarmedH U.vm := by rw [hU]; exact State.WarmedH.refl s
  refine ⟨⟨⟨vk_R.warm hW h0, vk_R.warm hW h1, vk_R.warm hW h2, vk_R.warm hW h3⟩, va_Nw.warmD hW n1, va_Nw.warmD hW n2, va_Nw.warmD hW n3, va_Nw.warmC hW n4⟩, fun H hH => ?_⟩
  have hq : ∀ a : Nat, a < s.heap.size → ¬ B < a → H[a]? = s.heap[a]? := fun a _ h => hH a (by omega)
  exact ⟨vx_Zq.moved hW.alike (vx_Zq.kept z1 hq), vx_Zq.moved hW.alike (vx_Zq.kept z2 hq)⟩
theorem st_cls (hts : ∀ w ∈ gTbl, w.before args s = true) : ∃ D : va_G, ∀ (k : Nat) (q : vw_C), vwCl[k]? = some q → u_Kn s q.1 q.2.1 q.2.2 (D.1 k) (D.2 k) := by
  have h : ∀ k : Nat, ∃ r : ClassId × (Nat → Nat), ∀ q : vw_C, vwCl[k]? = some q → u_Kn s q.1 q.2.1 q.2.2 r.1 r.2 := fun k => by
    by_cases hk : k < 13
    · obtain ⟨i1, -, -⟩ := ins_of hk
      obtain ⟨c0, iS, hKn⟩ := u_known (C := aCl k) (T := aTf k) (N := aNf k) (n := aNf k) hts (inAll hk) (hts _ i1)
      refine ⟨(c0, iS), fun q hq => ?_⟩
      rw [cls_at hk] at hq
      cases hq
      exact hKn
    · refine ⟨(0, fun _ => 0), fun q hq => ?_⟩
      have := (List.getElem?_eq_some_iff.mp hq).1
      exact absurd this hk
  obtain ⟨f, hf⟩ := Classical.axiomOfChoice h
  exact ⟨(fun k => (f k).1, fun k => (f k).2), hf⟩
theorem st_arr {ty : FieldType} (h : (Cond.arrayClass ty).before args s = true) : ∃ cA : ClassId, ArrOfT s cA ty ∧ s.vm.findClass ("[" ++ ty.toString) = some cA := by
  obtain ⟨cA, kA, comp, h1, h2, h3⟩ := Cond.arrayClass_spec h
  exact ⟨cA, fun n z => ⟨fun k h => (by cases h), kA, h2, comp, h3⟩, h1⟩
theorem st_arq {C : String} (h : (Cond.arrayOver (.object C)).before args s = true) : ∃ cA : ClassId, ArrOfT s cA (.object C) ∧ va_RA s cA (.object C) := by
  obtain ⟨comp, cA, kA, h1, h2, h3, h4, h5⟩ := Cond.arrayOver_spec h
  exact ⟨cA, fun N z => ⟨(fun k h => by cases h), kA, h3, comp, h4⟩, kA, comp, h3, h4, h1, h5⟩
theorem st_K (hts : ∀ w ∈ gTbl, w.before args s = true) (htL : ∀ w ∈ lw_tbl, w.before args s = true) : ∃ (D : va_G) (ca : Nat → ClassId), va_K D vwCl [(ca 0, .char), (ca 1, .int), (ca 2, .long), (ca 3, .boolean), (ca 4, .object RX3), (ca 5, .object RX9)] s := by
  obtain ⟨D, hD⟩ := st_cls hts
  obtain ⟨c0, a0, b0⟩ := st_arr (hts _ w_arrC)
  obtain ⟨c1, a1, b1⟩ := st_arr (hts _ w_arrI)
  obtain ⟨c2, a2, b2⟩ := st_arr (hts _ w_arrL)
  obtain ⟨c3, a3, b3⟩ := st_arr (hts _ w_arrZ)
  obtain ⟨c4, a4, b4⟩ := st_arq (C := RX3) (htL _ (by decide +kernel))
  obtain ⟨c5, a5, b5⟩ := st_arq (C := RX9) (htL _ (by decide +kernel))
  refine ⟨D, fun i => match i with | 0 => c0 | 1 => c1 | 2 => c2 | 3 => c3 | 4 => c4 | _ => c5, hD, fun k q hq => ?_⟩
  match k, hq with
  | 0, hq => cases hq; exact ⟨a0, b0⟩
  | 1, hq => cases hq; exact ⟨a1, b1⟩
  | 2, hq => cases hq; exact ⟨a2, b2⟩
  | 3, hq => cases hq; exact ⟨a3, b3⟩
  | 4, hq => cases hq; exact ⟨a4, b4⟩
  | 5, hq => cases hq; exact ⟨a5, b5⟩
  | k + 6, hq => exact absurd (List.getElem?_eq_some_iff.mp hq).1 (by simp)
end
/-! ===== the law: its loop ===== -/
theorem and31 (x : Int32) : ∃ j : Nat, j < 32 ∧ x &&& 31 = Int32.ofNat j := by
  refine ⟨(x.toBitVec &&& 31#32).toNat, ?_, ?_⟩
  · rw [BitVec.toNat_and]
    exact Nat.lt_of_le_of_lt Nat.and_le_right (by decide)
  · apply Int32.toBitVec_inj.mp
    show x.toBitVec &&& 31#32 = BitVec.ofNat 32 _
    rw [BitVec.ofNat_toNat, BitVec.setWidth_eq]
theorem lwB_01 {v : Int32} : (if v = 0 then (0 : Int) else 1) = 0 ∨ (if v = 0 then (0 : Int) else 1) = 1 := by
  split
  · exact Or.inl rfl
  · exact Or.inr rfl
section
variable {G : aCX} {l : Launch} {p : Program} {e : Env} {R : Room} {s : State} {m : MethodId} {args : Array Value} {below : List Frame} {meth : Method} {c : Code} {Q : State → Prop} {st : aSt} {H : Heap} {locs : List Loc} {ls : Array Slot} {pc b Ls iN s0 : Nat} {xs : Nat → Int32} {adK adV adT : Nat → Nat}
theorem lw_body (hl0 : l.stackTraces = false) (hX : aCtx G 33 mL_law p R s m args meth c) (hsE : ∀ vm, G.2.2.2.2.1 vm → sE G.1.1 G.2.2.2.1 adK adV vm) (hT : tE G.1.1 G.2.2.2.1 adT s.vm) (hv : va_X b Ls xs s s.heap ∧ b < s.heap.size ∧ Ls ≤ 3584 ∧ G.1.1 + 1 = s.heap.size ∧ G.2.2.2.1 = s.heap) (hl : lv_has ls 7 (lwV b (aAd G 1) (aAd G 210) (aAd G 278) iN)) (hi : iN + 6 < Ls) (hE : lwE2 G l p e R s m args below meth c Q s0 b iN) (hs0 : s0 ≤ 100000) (hg : gS G.1.2 st.2.2.1 < 1000) (hG : GIv s0 st) (hC : aCan st) (hH : aHold G st H) (hlo : ∀ q ∈ locs, G.1.1 < q.base) : W p l e R s m args below meth c H locs 3000 200000 Q (F0 m 33 ls []) := by
  obtain ⟨v1, v2, v3, v4, v5⟩ := id hv
  obtain ⟨l7, l0, l1, l2, l3, l4⟩ := lwL_of (tl := []) hl
  have hx := hX.1
  have hb := hX.2.1
  obtain ⟨-, -, -, hSS⟩ := lwS_of v1 v2 v3 v4 v5 hC hH hlo
  refine lv_aload_n hx hb (by decide +kernel : decode code 33 = .ok (.aload_n 0, 1)) rfl l0 ?_
  refine lv_iload hx hb (by decide +kernel : decode code 34 = .ok (.iload 4, 2)) l4 ?_
  refine va_sld hx hb v1 v2 (fun q => by omega) hSS (ix_in (by omega) (by omega)) (by decide +kernel : decode code 36 = .ok (.iaload, 1)) ?_
  rw [ix_nat (by omega)]
  refine lv_bipush (v := 31) hx hb (by decide +kernel : decode code 37 = .ok (.bipush 31, 2)) rfl ?_
  refine lv_iand hx hb (by decide +kernel : decode code 39 = .ok (.iand, 1)) ?_
  obtain ⟨j, hj, ej⟩ := and31 (xs iN)
  rw [ej]
  have hX2 : aCtx G 32 mL_law p R s m args meth c := by
    obtain ⟨a1, a2, a3, a4, a5, a6, a7, a8, a9, a10, a11, a12, a13, a14, a15⟩ := hX
    exact ⟨a1, a2, a3, a4, a5, a6, a7, a8, a9, a10, by omega, by omega, by omega, by omega, a15⟩
  have hEp : lwE G l p e R s m args below meth c Q s0 ls := fun st H locs a1 a2 a3 a4 => lwE2_G hE ls st H locs hl a1 a2 a3 a4
  have d40 : decode code 40 = .ok (.tableswitch 1302 0 25 #[120, 145, 170, 317, 330, 417, 454, 507, 560, 573, 610, 635, 684, 733, 758, 795, 863, 919, 944, 981, 1018, 1086, 1135, 1172, 1209, 1277], 120) := by decide +kernel
  rcases (by omega : j = 0 ∨ j = 1 ∨ j = 2 ∨ j = 3 ∨ j = 4 ∨ j = 5 ∨ j = 6 ∨ j = 7 ∨ j = 8 ∨ j = 9 ∨ j = 10 ∨ j = 11 ∨ j = 12 ∨ j = 13 ∨ j = 14 ∨ j = 15 ∨ j = 16 ∨ j = 17 ∨ j = 18 ∨ j = 19 ∨ j = 20 ∨ j = 21 ∨ j = 22 ∨ j = 23 ∨ j = 24 ∨ j = 25 ∨ 26 ≤ j) with rfl | rfl | rfl | rfl | rfl | rfl | rfl | rfl | rfl | rfl | rfl | rfl | rfl | rfl | rfl | rfl | rfl | rfl | rfl | rfl | rfl | rfl | rfl | rfl | rfl | rfl | h26
  · exact lv_tableIn (tgt := 160) (off := 120) hx hb d40 (by decide) (by decide) rfl (by decide) (lw_days hX2 hv (lwL_of (tl := []) hl) hi hEp hG hC hH hlo (g_days hG))
  · exact lv_tableIn (tgt := 185) (off := 145) hx hb d40 (by decide) (by decide) rfl (by decide) (lw_view hX2 hv (lwL_of (tl := []) hl) hi hEp hG hC hH hlo (g_view hG))
  · exact lv_tableIn (tgt := 210) (off := 170) hx hb d40 (by decide) (by decide) rfl (by decide) (lw_feed hX2 hv (lwL_of (tl := []) hl) hi hEp hG hC hH hlo (g_feed hG))
  · exact lv_tableIn (tgt := 357) (off := 317) hx hb d40 (by decide) (by decide) rfl (by decide) (lw_wording hX2 hv (lwL_of (tl := []) hl) hi hEp hG hC hH hlo (g_wording (sgR_of hsE) hG))
  · exact lv_tableIn (tgt := 370) (off := 330) hx hb d40 (by decide) (by decide) rfl (by decide) (lw_loss hX2 hv (lwL_of (tl := []) hl) hi hEp hG hC hH hlo (g_loss hG))
  · exact lv_tableIn (tgt := 457) (off := 417) hx hb d40 (by decide) (by decide) rfl (by decide) (lw_word hX2 hv (lwL_of (tl := []) hl) hi hEp hG hC hH hlo (g_word hG))
  · exact lv_tableIn (tgt := 494) (off := 454) hx hb d40 (by decide) (by decide) rfl (by decide) (lw_split hX2 hv (lwL_of (tl := []) hl) hi hEp hG hC hH hlo (g_split lwB_01 hG))
  · exact lv_tableIn (tgt := 547) (off := 507) hx hb d40 (by decide) (by decide) rfl (by decide) (lw_leave hX2 hv (lwL_of (tl := []) hl) hi hEp hG hC hH hlo (g_leave lwB_01 hG))
  · exact lv_tableIn (tgt := 600) (off := 560) hx hb d40 (by decide) (by decide) rfl (by decide) (lw_events hX2 hv (lwL_of (tl := []) hl) hi hEp hG hC hH hlo (g_events hG))
  · exact lv_tableIn (tgt := 613) (off := 573) hx hb d40 (by decide) (by decide) rfl (by decide) (lw_event hX2 hv (lwL_of (tl := []) hl) hi hEp hG hC hH hlo (g_event hG))
  · exact lv_tableIn (tgt := 650) (off := 610) hx hb d40 (by decide) (by decide) rfl (by decide) (lw_eventOf hX2 hv (lwL_of (tl := []) hl) hi hEp hG hC hH hlo (g_eventOf hG))
  · exact lv_tableIn (tgt := 675) (off := 635) hx hb d40 (by decide) (by decide) rfl (by decide) (lw_gross hX2 hv (lwL_of (tl := []) hl) hi hEp hG hC hH hlo (g_gross hG))
  · exact lv_tableIn (tgt := 724) (off := 684) hx hb d40 (by decide) (by decide) rfl (by decide) (lw_treaty hX2 hv (lwL_of (tl := []) hl) hi hEp hG hC hH hlo (g_treaty hG))
  · exact lv_tableIn (tgt := 773) (off := 733) hx hb d40 (by decide) (by decide) rfl (by decide) (lw_left hX2 hv (lwL_of (tl := []) hl) hi hEp hG hC hH hlo (g_left hG))
  · exact lv_tableIn (tgt := 798) (off := 758) hx hb d40 (by decide) (by decide) rfl (by decide) (lw_commute hX2 hv (lwL_of (tl := []) hl) hi hEp hG hC hH hlo (g_commute hG))
  · exact lv_tableIn (tgt := 835) (off := 795) hx hb d40 (by decide) (by decide) rfl (by decide) (lw_owed hl0 hX hT hv hl hi hE hs0 hg hG hC hH hlo)
  · exact lv_tableIn (tgt := 903) (off := 863) hx hb d40 (by decide) (by decide) rfl (by decide) (lw_bears hl0 hX hT hv hl hi hE hs0 hg hG hC hH hlo)
  · exact lv_tableIn (tgt := 959) (off := 919) hx hb d40 (by decide) (by decide) rfl (by decide) (lw_wants hX2 hv (lwL_of (tl := []) hl) hi hEp hG hC hH hlo (g_wants hG))
  · exact lv_tableIn (tgt := 984) (off := 944) hx hb d40 (by decide) (by decide) rfl (by decide) (lw_worst hX2 hv (lwL_of (tl := []) hl) hi hEp hG hC hH hlo (g_worst hG))
  · exact lv_tableIn (tgt := 1021) (off := 981) hx hb d40 (by decide) (by decide) rfl (by decide) (lw_purse hX2 hv (lwL_of (tl := []) hl) hi hEp hG hC hH hlo (g_purse hG))
  · exact lv_tableIn (tgt := 1058) (off := 1018) hx hb d40 (by decide) (by decide) rfl (by decide) (lw_clears hl0 hX hT hv hl hi hE hs0 hg hG hC hH hlo)
  · exact lv_tableIn (tgt := 1126) (off := 1086) hx hb d40 (by decide) (by decide) rfl (by decide) (lw_known hX2 hv (lwL_of (tl := []) hl) hi hEp hG hC hH hlo (g_known hG))
  · exact lv_tableIn (tgt := 1175) (off := 1135) hx hb d40 (by decide) (by decide) rfl (by decide) (lw_factor hX2 hv (lwL_of (tl := []) hl) hi hEp hG hC hH hlo (g_factor hG))
  · exact lv_tableIn (tgt := 1212) (off := 1172) hx hb d40 (by decide) (by decide) rfl (by decide) (lw_foretold hX2 hv (lwL_of (tl := []) hl) hi hEp hG hC hH hlo (g_foretold hG))
  · exact lv_tableIn (tgt := 1249) (off := 1209) hx hb d40 (by decide) (by decide) rfl (by decide) (lw_look hl0 hX hT hv hl hi hE hs0 hg hG hC hH hlo)
  · exact lv_tableIn (tgt := 1317) (off := 1277) hx hb d40 (by decide) (by decide) rfl (by decide) (lw_count hX2 hv (lwL_of (tl := []) hl) hi hEp hG hC hH hlo (g_count hG))
  · refine lv_tableOut (tgt := 1342) hx hb d40 (Or.inr ?_) (by decide) (hEp st H locs hG hC hH hlo)
    rw [Int32.toInt_ofNat_of_lt (by omega)]
    omega
/-- the loop's head -/
theorem lw_head (hX : aCtx G 33 mL_law p R s m args meth c) (hv : va_X b Ls xs s s.heap ∧ b < s.heap.size ∧ Ls ≤ 3584 ∧ G.1.1 + 1 = s.heap.size ∧ G.2.2.2.1 = s.heap) (hl : lv_has ls 7 (lwV b (aAd G 1) (aAd G 210) (aAd G 278) iN)) (hiN : iN ≤ 3600) (hC : aCan st) (hH : aHold G st H) (hlo : ∀ q ∈ locs, G.1.1 < q.base) (k1 : W p l e R s m args below meth c H locs 3000 200000 Q (F0 m 1348 ls [])) (k0 : iN + 6 < Ls → W p l e R s m args below meth c H locs 3000 200000 Q (F0 m 33 ls [])) : W p l e R s m args below meth c H locs 3000 200000 Q (F0 m 23 ls []) := by
  obtain ⟨v1, v2, v3, v4, v5⟩ := id hv
  obtain ⟨l7, l0, l1, l2, l3, l4⟩ := lwL_of (tl := []) hl
  have hx := hX.1
  have hb := hX.2.1
  obtain ⟨-, -, -, hSS⟩ := lwS_of v1 v2 v3 v4 v5 hC hH hlo
  refine lv_iload hx hb (by decide +kernel : decode code 23 = .ok (.iload 4, 2)) l4 ?_
  refine lv_aload_n hx hb (by decide +kernel : decode code 25 = .ok (.aload_n 0, 1)) rfl l0 ?_
  refine va_slen hx hb v1 v2 (fun q => by omega) hSS (by decide +kernel : decode code 26 = .ok (.arraylength, 1)) ?_
  refine lv_bipush (v := 7) hx hb (by decide +kernel : decode code 27 = .ok (.bipush 7, 2)) rfl ?_
  refine lv_isub hx hb (by decide +kernel : decode code 29 = .ok (.isub, 1)) ?_
  refine lv_icmp_gt (tgt := 1348) hx hb (by decide +kernel : decode code 30 = .ok (.if_icmp .gt 1318, 3)) (by decide) (fun _ => k1) (fun q => k0 ?_)
  rw [Int32.lt_iff_toInt_lt] at q
  have e1 : (Int32.ofNat iN).toInt = iN := Int32.toInt_ofNat_of_lt (by omega)
  have e2 : (Int32.ofNat Ls - 7).toInt = (Ls : Int) - 7 := by
    rw [show (7 : Int32) = Int32.ofInt 7 from rfl, show Int32.ofNat Ls = Int32.ofInt (Ls : Int) from Int32.ofInt_eq_ofNat.symm, ← Int32.ofInt_sub, Int32.toInt_ofInt_of_le (by omega) (by omega)]
  rw [e1, e2] at q
  omega
end
section
variable {B : Nat} {g2 : va_G × (Nat → ClassId) × Heap × aEx} {l : Launch} {p : Program} {e : Env} {R : Room} {s : State} {m : MethodId} {args : Array Value} {below : List Frame} {meth : Method} {c : Code} {Q : State → Prop} {b Ls : Nat} {xs : Nat → Int32} {adK adV adT : Nat → Nat}
theorem lw_loop (hl0 : l.stackTraces = false) (hX : ∀ gm : Nat → Nat, aCtx ((B, gm), g2) 33 mL_law p R s m args meth c) (hsE : ∀ vm, g2.2.2.2.1 vm → sE B g2.2.2.1 adK adV vm) (hT : tE B g2.2.2.1 adT s.vm) (hv : va_X b Ls xs s s.heap ∧ b < s.heap.size ∧ Ls ≤ 3584 ∧ B + 1 = s.heap.size ∧ g2.2.2.1 = s.heap) (hEnd : ∀ (gm : Nat → Nat) (ls : Array Slot) (st : aSt) (H : Heap) (locs : List Loc), ls.size = 7 → aCan st → aHold ((B, gm), g2) st H → (∀ q ∈ locs, B < q.base) → W p l e R s m args below meth c H locs 3000 200000 Q (F0 m 1348 ls [])) : ∀ (n : Nat) (gm : Nat → Nat) (k s0 : Nat) (ls : Array Slot) (st : aSt) (H : Heap) (locs : List Loc), Ls ≤ 7 * k + n → k ≤ 512 → s0 ≤ 37895 + 6 * k → (∀ r, gS gm r ≤ k) → lv_has ls 7 (lwV b (aAd ((B, gm), g2) 1) (aAd ((B, gm), g2) 210) (aAd ((B, gm), g2) 278) (7 * k)) → GIv s0 st → aCan st → aHold ((B, gm), g2) st H → (∀ q ∈ locs, B < q.base) → W p l e R s m args below meth c H locs 3000 200000 Q (F0 m 23 ls []) := by
  intro n
  induction n with
  | zero =>
    intro gm k s0 ls st H locs hn hk hs0 hg hl hG hC hH hlo
    exact lw_head (G := ((B, gm), g2)) (hX gm) hv hl (by omega) hC hH hlo (hEnd gm ls st H locs hl.1 hC hH hlo) (fun h => absurd h (by omega))
  | succ n ih =>
    intro gm k s0 ls st H locs hn hk hs0 hg hl hG hC hH hlo
    refine lw_head (G := ((B, gm), g2)) (hX gm) hv hl (by omega) hC hH hlo (hEnd gm ls st H locs hl.1 hC hH hlo) (fun h => ?_)
    have hLs : Ls ≤ 3584 := hv.2.2.1
    refine lw_body (G := ((B, gm), g2)) (s0 := s0) (adK := adK) (adV := adV) (adT := adT) hl0 (hX gm) hsE hT hv hl h ?_ (by omega) (by have := hg st.2.2.1; show gS gm st.2.2.1 < 1000; omega) hG hC hH hlo
    intro G' s1 eB eg hs1 hgs ls' st' H' locs' hl' hG' hC' hH' hlo'
    obtain ⟨⟨B', gm'⟩, g2'⟩ := G'
    have eB : B' = B := eB
    have eg : g2' = g2 := eg
    subst eB
    subst eg
    have hx := (hX gm).1
    have hb := (hX gm).2.1
    refine lv_iinc (k := 4) (v := Int32.ofNat (7 * (k + 1))) hx hb (by decide +kernel : decode code 1342 = .ok (.iinc 4 7, 3)) hl' rfl ?_ (by decide) rfl (fun ls2 h2 => ?_)
    · rw [show 7 * (k + 1) = 7 * k + 7 from by omega, Int32.ofNat_add]
      rfl
    · refine lv_goto (tgt := 23) hx hb (by decide +kernel : decode code 1345 = .ok (.goto (-1322), 3)) (by decide) ?_
      exact ih gm' (k + 1) s1 ls2 st' H' locs' (by omega) (by omega) (by omega) (fun r => by have := hgs r; have := hg r; show gS gm' r ≤ k + 1; exact Nat.le_trans (hgs r) (Nat.succ_le_succ (hg r))) (lv_sub h2 [1, 2, 3, 4, 0] rfl) hG' hC' hH' hlo'
end
/-! ===== the law's start ===== -/
section
variable {B : Nat} {g2 : va_G × (Nat → ClassId) × Heap × aEx} {l : Launch} {p : Program} {e : Env} {R : Room} {s : State} {m : MethodId} {args : Array Value} {below : List Frame} {meth : Method} {c : Code} {Q : State → Prop} {b Ls : Nat} {xs : Nat → Int32} {adK adV adT : Nat → Nat}
theorem lw_init (hX : ∀ gm : Nat → Nat, aCtx ((B, gm), g2) 33 mL_law p R s m args meth c) (hsE : ∀ vm, g2.2.2.2.1 vm → sE B g2.2.2.1 adK adV vm) (hB : B + 1 = s.heap.size) (hh : g2.2.2.1 = s.heap) {ls : Array Slot} (hl : lv_has ls 7 [(0, .ref b)]) (kk : ∀ (ls : Array Slot) (st : aSt) (H : Heap) (locs : List Loc), lv_has ls 7 (lwV b (aAd ((B, fun _ => 0), g2) 1) (aAd ((B, fun _ => 0), g2) 210) (aAd ((B, fun _ => 0), g2) 278) 0) → GIv 37895 st → aCan st → aHold ((B, fun _ => 0), g2) st H → (∀ q ∈ locs, B < q.base) → W p l e R s m args below meth c H locs 3000 200000 Q (F0 m 23 ls [])) : W p l e R s m args below meth c s.heap [] 3000 200000 Q (F0 m 0 ls []) := by
  have hX0 := hX (fun _ => 0)
  have hx := hX0.1
  have hb := hX0.2.1
  have hX2 : aCtx ((B, fun _ => 0), g2) 32 mL_law p R s m args meth c := by
    obtain ⟨a1, a2, a3, a4, a5, a6, a7, a8, a9, a10, a11, a12, a13, a14, a15⟩ := hX0
    exact ⟨a1, a2, a3, a4, a5, a6, a7, a8, a9, a10, by omega, by omega, by omega, by omega, a15⟩
  have hsE0 : ∀ vm, (((B, fun _ => 0), g2) : aCX).2.2.2.2.1 vm → sE (((B, fun _ => 0), g2) : aCX).1.1 (((B, fun _ => 0), g2) : aCX).2.2.2.1 adK adV vm := hsE
  have g0 : ∀ r, gS (fun _ => 0) r = 0 := fun r => by
    induction r with
    | zero => rfl
    | succ r ih => rw [gS, ih]
  have hC0 : aCan (((fun _ => (99, 0, [])), (fun _ _ => 0), (1, 0)) : aSt) := ⟨rfl, ⟨Nat.le_refl _, by decide, Nat.zero_le _⟩, fun _ _ => rfl, fun r i => ⟨fun q => by have q : (9 : Nat) = 1 := q; omega, fun q => by have q : (9 : Nat) = 0 ∨ (9 : Nat) = 4 := q; omega, fun q => by have q : (9 : Nat) = 3 := q; omega⟩⟩
  have hH0 : aHold ((B, fun _ => 0), g2) (((fun _ => (99, 0, [])), (fun _ _ => 0), (1, 0)) : aSt) s.heap := by
    refine ⟨?_, ⟨?_, fun _ _ => rfl, ?_⟩, fun q _ => by show s.heap[q]? = g2.2.2.1[q]?; rw [hh], fun r r1 r2 => ?_⟩
    · show s.heap.size = B + 1 + gS (fun _ => 0) 1
      rw [g0]; omega
    · show hSum (B + 1) s.heap ≤ 0
      unfold hSum
      rw [List.drop_of_length_le (by rw [Array.length_toList]; omega)]
      exact Nat.le_refl _
    · show gS (fun _ => 0) 1 ≤ 1000
      rw [g0]; omega
    · have r2 : r < 1 := r2
      omega
  have hlo0 : ∀ q ∈ ([] : List Loc), B < q.base := fun q hq => by cases hq
  refine lwNew (G := ((B, fun _ => 0), g2)) (ci := 11) (x := 8) (by decide) (by decide) (by decide) hX2 (gW (by decide +kernel)) (by decide +kernel : decode code 0 = .ok (.new 8, 3)) hC0 hH0 (fun H1 hC1 hH1 => ?_)
  refine lv_dup hx hb (by decide +kernel : decode code 3 = .ok (.dup, 1)) rfl ?_
  refine lwCallI (G := ((B, fun _ => 0), g2)) (y := iX11_init) (r := 1) (x := 25) (P := fun _ st => ∃ K D, st = (K, D, (210, 12 + 10508)) ∧ K 0 = (99, 0, []) ∧ (∀ r, 1 ≤ r → r < 210 → K r = kK r) ∧ (D 1 6 = 129 ∧ D 1 8 = -1 ∧ D 1 7 = 0 ∧ D 1 9 = 0 ∧ D 1 10 = 0 ∧ D 1 11 = 0) ∧ D 2 3 = 0 ∧ (∀ i : Nat, i < 21 → D 4 i = kw32 i) ∧ D 5 3 = 8 ∧ (∀ r, 89 ≤ r → r < 129 → ∀ j, D r j = 0) ∧ (∀ j, D 129 j = 0)) hX2 (by decide +kernel) (by decide +kernel) (by decide +kernel) ((congrArg Prod.fst aUk_at).trans (by decide +kernel : (11 : Nat) = (aM iX11_init).2.2.2.2.1.1)) (by decide +kernel) (v_initClass (d := 28) (s := 12) (sgR_of hsE0) (kwR_of hsE0) aUk_at (fun j => by rw [show aUz (fun _ _ => (0 : Int)) 1 1 = fun _ => 0 from aUz_at]) (by decide) (fun K' D' a0 a1 a2 a3 a4 a5 a6 a7 => ⟨K', D', rfl, by rw [a0, aUk_ne (by decide)], a1, a2, a3, a4, a5, a6, a7⟩)) hC1 hH1 hlo0 hl.1 (by show 1 + 0 ≤ 8; decide) (gW (by decide +kernel)) (by decide +kernel : decode code 4 = .ok (.invokespecial 25, 3)) (fun w st2 H2 locs2 hP hC2 hH2 hlo2 => ?_)
  obtain ⟨K, D, rfl, k99, hkk, c1, h23, h4, h53, hz, h129⟩ := hP
  refine lv_astore_n (lv' := [(1, .ref (aAd ((B, fun _ => 0), g2) 1)), (0, .ref b)]) hx hb (by decide +kernel : decode code 7 = .ok (.astore_n 1, 1)) rfl hl (by decide) rfl (fun ls1 hl1 => ?_)
  refine lwNew (G := ((B, fun _ => 0), g2)) (ci := 12) (x := 26) (by show 210 + 1 ≤ 2000; decide) (by show 12 + 10508 + aNf 12 ≤ 200000; decide) (by decide) hX2 (gW (by decide +kernel)) (by decide +kernel : decode code 8 = .ok (.new 26, 3)) hC2 hH2 (fun H3 hC3 hH3 => ?_)
  refine lv_dup hx hb (by decide +kernel : decode code 11 = .ok (.dup, 1)) rfl ?_
  refine lwCallI (G := ((B, fun _ => 0), g2)) (y := iX12_init) (r := 210) (x := 28) (P := fun _ st => ∃ K1 D1, st = (K1, D1, (278, 10604 + 27290)) ∧ (∀ r, r < 210 → K1 r = K r ∧ D1 r = D r) ∧ (∀ r, 210 ≤ r → r < 278 → K1 r = kK r) ∧ (∀ r, 216 ≤ r → r < 278 → r ≠ 219 → r ≠ 220 → ∀ j, D1 r j = 0) ∧ (∀ w : Nat, w < 21 → D1 215 w = wdV w) ∧ (D1 210 36 = -1 ∧ ∀ j : Int, j ≠ 36 → D1 210 j = 0)) hX2 (by decide +kernel) (by decide +kernel) (by decide +kernel) ((congrArg Prod.fst aUk_at).trans (by decide +kernel : (12 : Nat) = (aM iX12_init).2.2.2.2.1.1)) (by decide +kernel) (v_initModel (s := 10604) aUk_at (fun j => by rw [show aUz D 210 210 = fun _ => 0 from aUz_at]) (by decide) (fun K1 D1 a1 a2 a3 a4 a5 => ⟨K1, D1, rfl, fun r hr => ⟨by rw [(a1 r hr).1, aUk_ne (by show r ≠ 210; omega)], by rw [(a1 r hr).2, aUz_ne (by show r ≠ 210; omega)]⟩, a2, a3, a4, a5⟩)) hC3 hH3 hlo2 hl1.1 (by show 1 + 0 ≤ 8; decide) (gW (by decide +kernel)) (by decide +kernel : decode code 12 = .ok (.invokespecial 28, 3)) (fun w4 st4 H4 locs4 hP hC4 hH4 hlo4 => ?_)
  obtain ⟨K1, D1, rfl, m0, m1, m2, m3, m4⟩ := hP
  refine lv_astore_n (lv' := [(2, .ref (aAd ((B, fun _ => 0), g2) 210)), (1, .ref (aAd ((B, fun _ => 0), g2) 1)), (0, .ref b)]) hx hb (by decide +kernel : decode code 15 = .ok (.astore_n 2, 1)) rfl hl1 (by decide) rfl (fun ls2 hl2 => ?_)
  refine lv_iconst (v := Int32.ofInt (Int.ofNat 1)) hx hb (by decide +kernel : decode code 16 = .ok (.iconst 1, 1)) rfl ?_
  refine lwNewL (G := ((B, fun _ => 0), g2)) (n := 1) ⟨by decide, by decide⟩ (by show 278 + 1 ≤ 2000; decide) (by show 10604 + 27290 + 1 ≤ 200000; decide) hX2 (by decide +kernel : decode code 17 = .ok (.newarray .long, 2)) hC4 hH4 (fun H5 hC5 hH5 => ?_)
  refine lv_astore_n (lv' := [(3, .ref (aAd ((B, fun _ => 0), g2) 278)), (2, .ref (aAd ((B, fun _ => 0), g2) 210)), (1, .ref (aAd ((B, fun _ => 0), g2) 1)), (0, .ref b)]) hx hb (by decide +kernel : decode code 19 = .ok (.astore_n 3, 1)) rfl hl2 (by decide) rfl (fun ls3 hl3 => ?_)
  refine lv_iconst (v := Int32.ofNat 0) hx hb (by decide +kernel : decode code 20 = .ok (.iconst 0, 1)) rfl ?_
  refine lv_istore hx hb (by decide +kernel : decode code 21 = .ok (.istore 4, 2)) hl3 (by decide) rfl (fun ls4 hl4 => ?_)
  refine kk ls4 _ H5 locs4 (lv_sub hl4 [4, 3, 2, 1, 0] rfl) ?_ hC5 hH5 hlo4
  have e1 : ∀ r, r ≠ 278 → aUz D1 278 r = D1 r := fun r q => aUz_ne q
  refine gi_start (K := aUk K1 278 (15, 1, [])) (D := aUz D1 278) (fun r hr => ?_) ?_ ?_ (fun i hi => ?_) ?_ (fun r r1 r2 j => ?_) (fun j => ?_) (fun r r1 r2 r3 r4 j => ?_) (fun w hw => ?_) ?_
  · have hr : r < 279 := by
      have := Nat.le_of_ble_eq_true hr
      omega
    rcases (by omega : r = 0 ∨ (1 ≤ r ∧ r < 210) ∨ (210 ≤ r ∧ r < 278) ∨ r = 278) with q | q | q | q
    · subst q
      rw [aUk_ne (by decide), (m0 0 (by decide)).1, k99]; rfl
    · rw [aUk_ne (by omega), (m0 r q.2).1]; exact hkk r q.1 q.2
    · rw [aUk_ne (by omega)]; exact m1 r q.1 q.2
    · subst q
      rw [aUk_at]; rfl
  · rw [e1 1 (by decide), (m0 1 (by decide)).2]; exact c1
  · rw [e1 2 (by decide), (m0 2 (by decide)).2]; exact h23
  · rw [e1 4 (by decide), (m0 4 (by decide)).2]; exact h4 i hi
  · rw [e1 5 (by decide), (m0 5 (by decide)).2]; exact h53
  · rw [e1 r (by omega), (m0 r (by omega)).2]; exact hz r r1 r2 j
  · rw [e1 129 (by decide), (m0 129 (by decide)).2]; exact h129 j
  · rw [e1 r (by omega)]; exact m2 r r1 r2 r3 r4 j
  · rw [e1 215 (by decide)]; exact m3 w hw
  · rw [e1 210 (by decide)]; exact m4
end
/-! ===== the claim ===== -/
/-! THE CLAIM OUT OF ONE WALK OF THE LAW'S BODY. Your part is whole_start (and what it stands on); all else here is the same for every law, but numbers. -/
def R_law : String := "CoverHousesLaw"
def lw_P (b : Addr) (xs : List Int32) (args : Array Value) (s : State) : Prop := args = #[.ref b] ∧ s.IntsAt b xs ∧ xs.length ≤ 3584 ∧ (Jvm.Cond.and given_1 narrow_1).before args s = true
def lw_Q (_ : Array Value) (s : State) (o : Outcome) (t : State) : Prop := o = .returned (some (.int 1)) ∧ Framed s o t [] 601024 7293034
def lw_Z (below : List Frame) (a : Array Value) (s : State) : State → Prop := fun t => ∃ o, t.status = .running ∧ Ended t below o ∧ lw_Q a s o t
/-- the law's own end, with 1 on the stack, nothing written that was there before, its room as the claim has it -/
theorem lw_ret {p : Program} {l : Launch} {e : Env} {s : State} {m : MethodId} {below : List Frame} {meth : Method} {c : Code} {b : Nat} (hx : p.tables.exec = Jvm.exec) (hb : c.code = code) (hr : meth.sig.returnType = ret) (hlocks : meth.locks = false) {pc : Nat} {H : Heap} {ls : Array Slot} (hdg : decode code pc = .ok (.ireturn, 1)) : W p l e room_1 s m #[Value.ref b] below meth c H [] 601024 7293034 (lw_Z below #[Value.ref b] s) (F0 m pc ls [.int 1]) := by
  intro T hT X
  obtain ⟨fs, hret, hrun, hended, hW, hframe⟩ := X.leave (v := some (.int 1)) (hlocks := hlocks) (fun h => by rw [hr] at h; cases h)
  have hmeth' : T.vm.method? m = some meth := X.method'
  refine ⟨T.setFrames fs, ?_, .returned (some (.int 1)), hrun, hended, rfl, ⟨_, rfl⟩, hW, hframe⟩
  jvm_step X.here [X.here.top, hx, hb, hdg, hmeth', hr, ret, narrow_b1]
  (try refine ⟨rfl, ?_⟩); (try refine ⟨rfl, ?_⟩)
  first | (intro acts; rw [hret _ acts rfl rfl rfl]) | rw [hret _ _ rfl rfl rfl]
  exact Steps.refl _
/-- what holds at the law's entry: the machine, the code, the tables' words (any of lw_tbl by 'hts w (by decide +kernel)'), the script of L ints xs at the cell b, what the Statement gives of the start (any of its parts by flat_of_before) -/
def lw_At (p : Program) (s : State) (m : MethodId) (meth : Method) (c : Code) (b L : Nat) (xs : Nat → Int32) : Prop :=
  p.tables.exec = Jvm.exec ∧ c.code = code ∧ meth.sig.returnType = ret ∧ c.maxLocals = 7 ∧ s.vm.findClass R_law = some m.cls ∧ (∀ w ∈ lw_tbl, w.before #[Value.ref b] s = true) ∧ va_X b L xs s s.heap ∧ b < s.heap.size ∧ meth.locks = false ∧ (Jvm.Cond.and given_1 narrow_1).before #[Value.ref b] s = true ∧ meth.name = yL_law.name
theorem whole_start {p : Program} {e : Env} {s : State} {m : MethodId} {below : List Frame} {meth : Method} {c : Code} (l : Launch) (hl0 : l.stackTraces = false) {b L : Nat} {xs : Nat → Int32} (hL : L ≤ 3584) (C0 : lw_At p s m meth c b L xs) : W p l e room_1 s m #[Value.ref b] below meth c s.heap [] 0 0 (lw_Z below #[Value.ref b] s) (entryFrame m ([Value.ref b] : List Value).toArray 7) := by
  obtain ⟨hx, hb, hr, hml, hown, hts, hXs, hbl, hlocks, hgv, hnm⟩ := C0
  have htg : ∀ w ∈ gTbl, w.before #[Value.ref b] s = true := fun w hw => hts w (List.mem_filter.mp hw).1
  have hn : ∀ w ∈ flatC nwC, w.before #[Value.ref b] s = true := flat_of_before _ hgv
  obtain ⟨D, ca, hK⟩ := st_K htg hts
  obtain ⟨B, hB⟩ : ∃ B, B + 1 = s.heap.size := ⟨s.heap.size - 1, by omega⟩
  obtain ⟨adK, adV, hsE⟩ := st_sE hB htg hts hn
  obtain ⟨adT, htE⟩ := st_tE hB (hK.1 11 _ (cls_at (by decide))).2.1 htg hts hn
  obtain ⟨ex, hex⟩ : ∃ ex : aEx, ex.1 = fun vm => sE B s.heap adK adV vm ∧ tE B s.heap adT vm := ⟨⟨fun vm => sE B s.heap adK adV vm ∧ tE B s.heap adT vm, fun s v hW h => ⟨sE_warm s v hW h.1, tE_warm s v hW h.2⟩⟩, rfl⟩
  have hX : ∀ gm : Nat → Nat, aCtx ((B, gm), (D, ca, s.heap, ex)) 33 mL_law p room_1 s m #[Value.ref b] meth c := fun gm => ⟨hx, hb, hr, hml, hown, htg, hK, hlocks, hnm, by show B + 1 ≤ s.heap.size; omega, by decide, by decide, by decide, by decide, va_AO.of (hts (.arrayOver (.object RX3)) (by decide +kernel)), va_AO.of (hts (.arrayOver (.object RX9)) (by decide +kernel)), by show ex.1 s.vm; rw [hex]; exact ⟨hsE, htE⟩⟩
  have hs1 : ∀ vm, ((D, ca, s.heap, ex) : va_G × (Nat → ClassId) × Heap × aEx).2.2.2.1 vm → sE B s.heap adK adV vm := fun vm h => by
    have h : ex.1 vm := h
    rw [hex] at h
    exact h.1
  have hl := lv_entry ([.ref b]) (n := 7) (Nat.le_of_ble_eq_true rfl)
  rw [lg_entry_eq]
  generalize (lg_sl ([.ref b]) ++ List.replicate (7 - (lg_sl ([.ref b])).length) Slot.unset).toArray = ls at hl ⊢
  have hl : lv_has ls 7 [(0, .ref b)] := hl
  refine W.widen (k := 3000) (n := 200000) (Nat.zero_le _) (Nat.zero_le _) ?_
  refine lw_init (B := B) (g2 := (D, ca, s.heap, ex)) (adK := adK) (adV := adV) hX hs1 hB rfl hl (fun ls st H locs hl hG hC hH hlo => ?_)
  refine lw_loop (B := B) (g2 := (D, ca, s.heap, ex)) (adK := adK) (adV := adV) (adT := adT) hl0 hX hs1 htE ⟨hXs, hbl, hL, hB, rfl⟩ (fun gm ls st H locs h7 hC hH hlo => ?_) L (fun _ => 0) 0 37895 ls st H locs (by omega) (by decide) (by decide) (fun r => ?_) hl hG hC hH hlo
  · refine lv_iconst (v := 1) hx hb (by decide +kernel : decode code 1348 = .ok (.iconst 1, 1)) rfl ?_
    refine va_forget (fun q hq => by have := hlo q hq; omega) ?_
    refine W.widen (k := 601024) (n := 7293034) (by decide) (by decide) ?_
    exact lw_ret hx hb hr hlocks (by decide +kernel : decode code 1349 = .ok (.ireturn, 1))
  · induction r with
    | zero => exact Nat.le_refl _
    | succ r ih => rw [gS]; exact ih
set_option maxHeartbeats 4000000 in
theorem lw_walk (l : Launch) (hl0 : l.stackTraces = false) (b : Addr) (xs : List Int32) : MetFree l x (headSpec (Jvm.Cond.code x code maxLocals ret :: tables_1) room_1) (lw_P b xs) (fun _ _ _ _ _ => True) lw_Q := by
  refine MetFree.of_bodyS (code := code) (maxLocals := maxLocals) (ret := ret) (by decide) ?_ ?_
  · intro args s m h hn
    obtain ⟨meth, c, h1, h2, h3, h4, h5, h6, -, -⟩ := Cond.code_spec hn (atoms_spec (ws := Jvm.Cond.code x code maxLocals ret :: tables_1) h _ List.mem_cons_self)
    exact ⟨meth, c, h1, h2, h3, h4, h5, h6⟩
  · intro p e s m args below meth c s₁ B hml0 hP _
    obtain ⟨rfl, hx, hbd, hgv⟩ := hP
    obtain ⟨scr, harrAt, hlist, hof, hsmall⟩ := hx
    obtain ⟨hcb, hkn, -, -⟩ := State.arrayAt?_spec harrAt
    have hown : s.vm.findClass R_law = some m.cls := findClass_of_methodNamed B.named
    have hts0 : ∀ c ∈ (Jvm.Cond.code x code maxLocals ret :: tables_1), c.before #[Value.ref b] s = true := atoms_spec (ws := Jvm.Cond.code x code maxLocals ret :: tables_1) B.pre
    have hts : ∀ w ∈ lw_tbl, w.before #[Value.ref b] s = true := k2_hts_sels lw_privs (fun w hw => hts0 w (List.mem_cons_of_mem _ hw)) lw_privs_ok
    have hml : c.maxLocals = 7 := B.maxLocals_eq (hts0 _ List.mem_cons_self)
    have X₀ : Stand p l e room_1 s m #[Value.ref b] below meth c s₁ [] 0 0 := Stand.of_body B
    have hh0 : s₁.heap = s.heap := by rw [B.state]; rfl
    have hsz : scr.slots.size = xs.length := by rw [← Array.length_toList, hlist, List.length_map]
    have hval : ∀ j : Nat, j < xs.length → scr.slots[j]? = some (.int (xs.getD j 0)) := fun j hj => by
      rw [← Array.getElem?_toList, hlist]
      simp [hj]
    have hbl : b < s.heap.size := (Array.getElem?_eq_some_iff.mp hcb).1
    have hX : va_X b xs.length (fun j => xs.getD j 0) s s.heap := ⟨scr, hcb, hof, hkn, hsz, hval⟩
    have K : W p l e room_1 s m #[Value.ref b] below meth c s₁.heap [] 0 0 (lw_Z below #[Value.ref b] s) (entryFrame m ([Value.ref b] : List Value).toArray 7) := by
      rw [hh0]
      exact whole_start l hl0 hbd ⟨B.exec, B.bytes, B.returns, hml, hown, hts, hX, hbl, B.notSynchronized, hgv, (name_of_methodNamed B.named B.method).1⟩
    obtain ⟨t, a1, o, b1, b2, b3⟩ := K s₁ rfl X₀
    exact ⟨t, o, a1, b1, b2, b3⟩
theorem lw_pre_spec {args : Array Value} {s : State} (h : (Jvm.Cond.and given_1 narrow_1).before args s = true) (hr : rest_1_c.before args s = true) : ∃ (b : Addr) (xs : List Int32), lw_P b xs args s := by
  have hs := flat_of_before _ h
  have hq := flat_of_before _ hr
  have hc : (Cond.count 1).before args s = true := hs _ (by decide +kernel)
  have harr : (Cond.arrayOf (.arg 0) .int).before args s = true := hs _ (by decide +kernel)
  have hle : (Cond.le (.length (.arg 0)) (.int 3584)).before args s = true := hs _ (by decide +kernel)
  have hlen : (Cond.isInt (.length (.arg 0))).before args s = true := hq _ (by decide +kernel)
  have hall : (Cond.all (.arg 0) (.isInt (.elem (.arg 0) (.index 0)))).before args s = true := hq _ (by decide +kernel)
  obtain ⟨b, xs, hb, hx⟩ := State.ints_of_pre rfl harr hlen hall
  have hsm : xs.length < 2 ^ 31 := hx.choose_spec.2.2.2
  have hev : (Term.length (.arg 0)).eval args s none [] s = some (.int xs.length.toInt32) := hx.length_eval hb
  have hv := Cond.le_ints hev (show (Term.int 3584).eval args s none [] s = some (.int 3584) from rfl)
  have hd : xs.length.toInt32 ≤ 3584 := by
    simpa [Cond.before, Cond.holds, hv] using hle
  have hN : xs.length ≤ 3584 := (Int32.ofNat_le_ofNat hsm (by decide)).mp (show Int32.ofNat xs.length ≤ Int32.ofNat 3584 from hd)
  exact ⟨b, xs, Cond.one_arg hc (show args[0]? = some (.ref b) from hb), hx, hN, h⟩
theorem lw_comes (l : Launch) (hl0 : l.stackTraces = false) : Comes l x (Jvm.Cond.code x code maxLocals ret :: tables_1) room_1 (fun tb e args s => Calls_1 tb e args s ∧ rest_1 tb e args s ∧ Pre_1 tb e args s)
    (fun _ _ args s o t => lw_Q args s o t) := by
  intro p e ha hc hk s m args below hf hfit hheap happ hpre
  obtain ⟨b, xs, hP⟩ := lw_pre_spec hpre.2.2 hpre.2.1
  obtain ⟨k, o, h1, h2, h3, hQ⟩ := lw_walk l hl0 b xs p e ha hc hk s m args below hf ((Spec.applies_iff_loose hf).mp happ).1 hP trivial
  exact ⟨k, o, h1, h2, h3, hQ⟩
theorem lw_frame {s t : State} {o : Outcome} {args : Array Value} (h : Framed s o t [] 601024 7293034) :
    Framed s o t (fieldLocs frame_1_writes args s ++ arrayLocs frame_1_arrays args s ++ staticLocs frame_1_statics s) 601024 7293034 := h
theorem lw_limb (L : Cond) (hL : ∀ (args : Array Value) (s t : State), L.after args s (.returned (some (.int 1))) t = true) :
    ArmFor flags0 classFile x code maxLocals ret World_1 tables_1 room_1 Calls_1 rest_1 Pre_1
      (fun tb e a s o t => postC L tb e a s o t ∧ Framed s o t (fieldLocs frame_1_writes a s ++ arrayLocs frame_1_arrays a s ++ staticLocs frame_1_statics s) 601024 7293034) := by
  intro l hfl _ _ p e ha hc hk s m args below hf hfit hheap happ hpre
  obtain ⟨k, o, h1, h2, h3, rfl, hF⟩ := lw_comes l (by unfold Launch.stackTraces; rw [hfl]; decide +kernel) p e ha hc hk s m args below hf hfit hheap happ hpre
  exact ⟨k, _, h1, h2, h3, hL args s _, lw_frame hF⟩
theorem i_vc : Claimed_1_1 ∧ Claimed_1_2 := ⟨lw_limb limb_1_1 (fun args s t => by simp [limb_1_1, Cond.after, Cond.holds, Cond.value]), lw_limb limb_1_2 (fun args s t => Cond.after_iff.mpr (by
  first | (rw [show limb_1_2 = Cond.eq .result (.int 1) from rfl, Cond.eq_ints (x := 1) (y := 1) rfl rfl]; simp; done) | (simp [limb_1_2, Cond.value, Term.eval]; done)))⟩
