/-! ===== the law: the four calls that may throw ===== -/
section
variable {G : aCX} {l : Launch} {d : Nat} {K : Nat → aKd} {D : Nat → Int → Int} {z : Nat × Nat} {P : Int → aSt → Prop}
theorem u_thrown (hk : Kn K) (kk : P (D 210 0) (K, D, z)) : VM G l d iX12_thrown [rf 210] (K, D, z) P := by
  refine VM_go (tg2 rfl) (Nat.le_of_ble_eq_true rfl) ?_
  refine s_al0 rfl ?_
  refine s_gi rfl (hk.at rfl rfl) rfl ?_
  refine s_reti rfl rfl ?_
  exact kk
end
theorem sum_ext {b : Nat} {H H' : Heap} (hb : b ≤ H.size) (h1 : H.size ≤ H'.size) (h2 : H'.size ≤ H.size + 1) (h : ∀ q : Nat, q < H.size → H'[q]? = H[q]?) : hSum b H' = hSum b H + hSum H.size H' := by
  have z2 : hSum H.size H = 0 := by
    unfold hSum
    rw [List.drop_of_length_le (by rw [Array.length_toList]; exact Nat.le_refl _)]
    rfl
  rcases (by omega : H'.size = H.size ∨ H'.size = H.size + 1) with e | e
  · have sm : ∀ (q : Nat) (x x' : Cell), H[q]? = some x → H'[q]? = some x' → x'.slots.size = x.slots.size := fun q x x' e1 e2 => by
      have hq : q < H.size := (Array.getElem?_eq_some_iff.mp e1).1
      rw [h q hq, e1] at e2
      cases e2
      rfl
    rw [hSum_same e sm, hSum_same (b := H.size) e sm, z2]
    rfl
  · have hx : H'[H.size]? = some (H'[H.size]'(by omega)) := Array.getElem?_eq_getElem (by omega)
    rw [hSum_push e hb hx h, hSum_push (b := H.size) e (Nat.le_refl _) hx h, z2]
    omega
section
variable {G : aCX} {l : Launch} {p : Program} {e : Env} {R : Room} {s : State} {m : MethodId} {args : Array Value} {below : List Frame} {meth : Method} {c : Code} {Q : State → Prop} {st : aSt} {H : Heap} {locs : List Loc} {ls : Array Slot} {pc b Ls iN s0 : Nat} {xs : Nat → Int32} {st0 rest : List Value}
theorem lw_cw {y : MethodName} {bb : ByteArray} {n k x mc ms : Nat} {hh : List (Nat × Nat × Nat × Nat)} {rm : Room} (hts : ∀ w ∈ gTbl, w.before args s = true) (h1 : Cond.codeWith y bb n (some .int) hh ∈ gTbl) (h2 : Cond.methodLink RL x y ∈ gTbl) (h3 : Cond.static y ∈ gTbl) (h4 : Cond.initialized y.cls ∈ gTbl) (hrc : rm.cells = mc) (hrs : rm.slots = ms) (hd : y.cls ≠ "java/lang/invoke/MethodHandle" ∧ y.cls ≠ "java/lang/invoke/VarHandle" ∧ (parseMethodDescriptor y.desc).map (fun d => d.parameters.length) = some k) (hR : rm.frames + 1 ≤ R.frames ∧ 8 + (n + 11) + rm.locals ≤ R.locals) : vx_CSW R s args RL x y bb n (some .int) hh (wsH y bb n hh) rm mc ms k := by
  refine vx_cwSW (Ts := gTbl) k hts (fun w hw => ?_) rfl hrc hrs hd hR
  have hg : w ∈ gTbl := by
    unfold va_wsS at hw
    rcases List.mem_append.mp hw with hw | hw
    · rcases List.mem_cons.mp hw with rfl | hw
      · exact h2
      · rcases List.mem_cons.mp hw with rfl | hw
        · exact h3
        · rcases List.mem_cons.mp hw with rfl | hw
          · exact h4
          · cases hw
    · rcases List.mem_cons.mp hw with rfl | hw
      · exact h1
      · exact hw
  exact ⟨hg, good_of_word (gGood _ hg)⟩
/-- a helper whose class answers -/
theorem lwHelpN {y : MethodName} {bb : ByteArray} {n k x : Nat} {hh : List (Nat × Nat × Nat × Nat)} {A : List aTV} {P : Int → aSt → Prop} (hX : aCtx G 33 mL_law p R s m args meth c) (hM : Met l y (wsH y bb n hh) (aRm 32) (aPre G A st) (aPost G 0 P) (3000 * (32 + 2)) (200000 * (32 + 2)) (fun q => G.1.1 < q)) (hk : A.length = k) (h1 : Cond.codeWith y bb n (some .int) hh ∈ gTbl) (h2 : Cond.methodLink RL x y ∈ gTbl) (h3 : Cond.static y ∈ gTbl) (h4 : Cond.initialized y.cls ∈ gTbl) (hd : y.cls ≠ "java/lang/invoke/MethodHandle" ∧ y.cls ≠ "java/lang/invoke/VarHandle" ∧ (parseMethodDescriptor y.desc).map (fun d => d.parameters.length) = some k) (hn : n ≤ 21) (hC : aCan st) (hH : aHold G st H) (hlo : ∀ q ∈ locs, G.1.1 < q.base) (hls : ls.size = 7) (hdg : decode code pc = .ok (.invokestatic x, 3))
    (kk : ∀ (w : Int) (st' : aSt) (H1 : Heap) (locs1 : List Loc), P w st' → aOkL (aPush 0 w []) → aCan st' → aHold G st' H1 → (∀ q ∈ locs1, G.1.1 < q.base) → W p l e R s m args below meth c H1 locs1 3000 200000 Q (F0 m (pc + 3) ls ((aRv G 0 w).toList ++ []))) : W p l e R s m args below meth c H locs 3000 200000 Q (F0 m pc ls ((A.map (aV G)).reverse ++ [])) := by
  obtain ⟨hx, hb, hrt, hml, hown, hts, hK, hlk, hnm, hB, hf1, hf2, hf3, hf4, ao1, ao2, ao3⟩ := hX
  have hc1 : 3000 + 3000 * (32 + 2) ≤ R.cells := rm_g hf2
  have hc2 : 200000 + 200000 * (32 + 2) ≤ R.slots := rm_g hf3
  exact callW hB hlo (vx_runSW (As := A.map (aV G)) (rest := []) (Ts := gTbl) ⟨hx, hb, hml, hown, hts⟩ hM (lw_cw hts h1 h2 h3 h4 rfl rfl hd ⟨by show 32 + 12 + 1 ≤ R.frames; omega, by show 8 + (n + 11) + 40 * (32 + 12) ≤ R.locals; omega⟩) ⟨aPre_blind, aPre_of hK ao1 ao2 ao3 hH hC⟩ rfl (by simpa using hk) hls rfl (by show 2 * 0 + 0 ≤ 8; omega) hdg ⟨hc1, hc2⟩) kk
/-- behind a helper whose class throws -/
theorem throwW {As : Array Value} (hB : G.1.1 + 1 ≤ s.heap.size) (hs0 : s0 ≤ 100000) (hG : GIv s0 st) (hC : aCan st) (hH : aHold G st H) (hg : gS G.1.2 st.2.2.1 < 1000) (hr : va_Run p l e R s m args below meth c H locs 3000 200000 1 6 (F0 m pc ls st0) rest (HQ As) NoF) (kk : ∀ (g : Nat) (H1 : Heap), g ≤ 1 → aHold (gp G st.2.2.1 g) (aS6 st) H1 → W p l e R s m args below meth c H1 locs 3000 200000 Q (F0 m (pc + 3) ls (.int 1 :: rest))) : W p l e R s m args below meth c H locs 3000 200000 Q (F0 m pc ls st0) := by
  intro T hT X
  obtain ⟨w, st₀, t, T', L, h0, X', hL, e1, e2, ⟨g1, g2, g3, g4, g5⟩, stp⟩ := hr T hT X
  have eL : L = [] := by
    cases L with
    | nil => rfl
    | cons q L => exact (hL q List.mem_cons_self).elim
  subst eL
  rw [List.append_nil] at X'
  cases g1
  rw [h0] at g2 g3 g4 g5
  rw [← e1] at g2 g3 g4 g5
  have hsz : G.1.1 + 1 ≤ H.size := by
    rw [hH.1]
    have := aAd_pos (G := G) hC.2.1.1
    omega
  have hq : hSum (G.1.1 + 1) T'.heap ≤ hSum (G.1.1 + 1) H + 6 := by
    rw [sum_ext hsz g2 g3 g4]
    omega
  obtain ⟨K, D, z⟩ := st
  obtain ⟨m', T1, T2, nt, n, wo, cn, cc, hX1⟩ := hG
  have hh := hold_gap hC (fun r r1 r2 _ => RfC_of hX1 r r1 r2) hg g2 g3 g4 hq hH
  obtain ⟨t2, a1, b1⟩ := W.cap hh (can6 hs0 (GIv_mk hX1) hC) hB (kk _ _ (by omega) hh) T' rfl X'
  exact ⟨t2, stp t2 a1, b1⟩
theorem lwHelpT {y : MethodName} {bb : ByteArray} {n k x : Nat} {hh : List (Nat × Nat × Nat × Nat)} {As : List Value} {adT : Nat → Nat} (hX : aCtx G 33 mL_law p R s m args meth c) (hT : tE G.1.1 G.2.2.2.1 adT s.vm) (hM : Met l y (wsH y bb n hh) rmH (fun ar U => ar = As.toArray ∧ tPre G st adT U) HQ 1 6 NoF) (hk : As.length = k) (h1 : Cond.codeWith y bb n (some .int) hh ∈ gTbl) (h2 : Cond.methodLink RL x y ∈ gTbl) (h3 : Cond.static y ∈ gTbl) (h4 : Cond.initialized y.cls ∈ gTbl) (hd : y.cls ≠ "java/lang/invoke/MethodHandle" ∧ y.cls ≠ "java/lang/invoke/VarHandle" ∧ (parseMethodDescriptor y.desc).map (fun d => d.parameters.length) = some k) (hn : n ≤ 21) (hs0 : s0 ≤ 100000) (hG : GIv s0 st) (hC : aCan st) (hH : aHold G st H) (hg : gS G.1.2 st.2.2.1 < 1000) (hls : ls.size = 7) (hdg : decode code pc = .ok (.invokestatic x, 3))
    (kk : ∀ (g : Nat) (H1 : Heap), g ≤ 1 → aHold (gp G st.2.2.1 g) (aS6 st) H1 → W p l e R s m args below meth c H1 locs 3000 200000 Q (F0 m (pc + 3) ls (.int 1 :: []))) : W p l e R s m args below meth c H locs 3000 200000 Q (F0 m pc ls (As.reverse ++ [])) := by
  obtain ⟨hx, hb, hrt, hml, hown, hts, hK, hlk, hnm, hB, hf1, hf2, hf3, hf4, ao1, ao2, ao3⟩ := hX
  have hc1 : 3000 + 1 ≤ R.cells := by
    have : 3000 + 3000 * (32 + 2) ≤ R.cells := rm_g hf2
    omega
  have hc2 : 200000 + 6 ≤ R.slots := by
    have : 200000 + 200000 * (32 + 2) ≤ R.slots := rm_g hf3
    omega
  exact throwW hB hs0 hG hC hH hg (vx_runSW (As := As) (rest := []) (Ts := gTbl) ⟨hx, hb, hml, hown, hts⟩ hM (lw_cw hts h1 h2 h3 h4 rfl rfl hd ⟨by show 12 + 1 ≤ R.frames; omega, by show 8 + (n + 11) + 480 ≤ R.locals; omega⟩) ⟨tPre_blind, fun U hU hW => ⟨rfl, ⟨⟨by rw [hU]; exact hH, va_K.moved hW.alike hK⟩, tE_warm s U.vm hW hT⟩⟩⟩ rfl hk hls rfl (by show 2 * 0 + 0 ≤ 8; omega) hdg ⟨hc1, hc2⟩) kk
end
