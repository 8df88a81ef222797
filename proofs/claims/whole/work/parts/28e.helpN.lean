/-! ===== the law's helpers, where the class answers ===== -/
abbrev mL_owed : aMI := (yL_owed, method_3_code, 5, some .int, (13, 0, 2, 4), [])
abbrev mL_bears : aMI := (yL_bears, method_4_code, 4, some .int, (13, 0, 2, 3), [])
abbrev mL_clears : aMI := (yL_clears, method_5_code, 5, some .int, (13, 0, 2, 4), [])
abbrev mL_look : aMI := (yL_look, method_6_code, 5, some .int, (13, 0, 2, 4), [])
theorem hn_of {G : aCX} {l : Launch} {y : MethodName} {b : ByteArray} {n na : Nat} {A : List aTV} {st : aSt} {P : Int → aSt → Prop} {hh : List (Nat × Nat × Nat × Nat)} (hy : plainName y.cls = true) (htg : ∀ v ∈ A, v.1 ≤ 2) (hcat : aCat A ≤ n) (hA : aOkL A) (hC : aCan st)
    (h : ∀ (p : Program) (e : Env) (R : Room) (s : State) (m : MethodId) (args : Array Value) (below : List Frame) (meth : Method) (c : Code) (Q : State → Prop), aCtx G 32 (y, b, n, some .int, (13, 0, 2, na), []) p R s m args meth c → VR G l (y, b, n, some .int, (13, 0, 2, na), []) P p e R s m args below meth c Q → VW G l (y, b, n, some .int, (13, 0, 2, na), []) p e R s m args below meth c Q 0 (aArg A n) [] st) : Met l y (wsH y b n hh) (aRm 32) (aPre G A st) (aPost G 0 P) (3000 * (32 + 2)) (200000 * (32 + 2)) (fun q => G.1.1 < q) := by
  refine va_MetW (cc := b) (maxL := n) (ret := some .int) (hh := hh) hy rfl ?_
  intro p e s m args below meth c s₁ B hml hv
  obtain ⟨rfl, hH, hK, hB, ao1, ao2, ao3⟩ := hv
  have hx := B.exec
  have hb := B.bytes
  have hr := B.returns
  have hts := atoms_spec (ws := wsH y b n hh) B.pre
  have hown : s.vm.findClass y.cls = some m.cls := findClass_of_methodNamed B.named
  have hlocks := B.notSynchronized
  have hnm : meth.name = y.name := (name_of_methodNamed B.named B.method).1
  have hX : aCtx G 32 (y, b, n, some .int, (13, 0, 2, na), []) p (headSpec (wsH y b n hh) (aRm 32)).room s m (A.map (aV G)).toArray meth c := ⟨hx, hb, hr, hml, hown, fun w hw => hts w (List.mem_cons_of_mem _ hw), hK, hlocks, hnm, hB, Nat.le_refl _, Nat.le_refl _, Nat.le_refl _, Nat.le_refl _, ao1, ao2, ao3⟩
  have hl := lv_entry (A.map (aV G)) (n := n) (by rw [lg_len]; exact hcat)
  rw [lg_entry_eq]
  generalize (lg_sl (A.map (aV G)) ++ List.replicate (n - (lg_sl (A.map (aV G))).length) Slot.unset).toArray = ls at hl ⊢
  have hl' := lv_fewer (l' := aLv G 0 (aArg A n)) hl (fun q hq => aArg_mem htg hq)
  refine h p e (headSpec (wsH y b n hh) (aRm 32)).room s m (A.map (aV G)).toArray below meth c _ hX ?_ (aArg_ok hA) (fun v hv => by cases hv) hC ls s.heap [] hl' hH (fun q hq => by cases hq) |> fun k => W.widen (k := 3000) (n := 200000) (Nat.zero_le _) (Nat.zero_le _) k
  intro w st1 pc ls1 H locs i hP hok h4 hC1 hH1 hlo hrt hdg hi
  refine W.widen (k := 3000 * (32 + 2)) (n := 200000 * (32 + 2)) mul_big mul_big ?_
  rcases hi with ⟨rfl, -⟩ | ⟨-, h0⟩ | ⟨-, h0⟩ | ⟨-, h0⟩
  · exact W.iret (v := Int32.ofInt w) hx hb hr (fun t ht _ => ⟨w, st1, hP, hok, hC1, rfl, by rw [ht]; exact hH1⟩) hlo hdg hlocks
  · exact absurd h0 (by show ¬ (0 : Nat) = 1; decide)
  · exact absurd h0 (by show ¬ (0 : Nat) = 2; decide)
  · exact absurd h0 (by show ¬ (0 : Nat) = 9; decide)
theorem hn_owed {G : aCX} {l : Launch} {s0 : Nat} {st : aSt} {a b : Int} (hG : GIv s0 st) (hC : aCan st) (ia : i32 a) (ib : i32 b) (ha : 0 ≤ a ∧ a < nhS st.2.1) (hb : 0 ≤ b ∧ b < nhS st.2.1) (hab : a ≠ b) : Met l yL_owed (wsH yL_owed method_3_code 5 [(0, 10, 13, 13)]) (aRm 32) (aPre G [rf 1, (0, a), (0, b), rf 278] st) (aPost G 0 (fun r st1 => r = 0 ∧ Kn st1.1 ∧ ∃ w : Int, i32 w ∧ st1.2.1 278 0 = w ∧ VM G l 31 iX12_owed [rf 210, (0, a), (0, b)] st1 (fun w' st2 => w' = w ∧ st2.2.1 210 0 = 0 ∧ st2.2.1 278 0 = w ∧ GIv s0 st2))) (3000 * (32 + 2)) (200000 * (32 + 2)) (fun q => G.1.1 < q) := by
  refine hn_of (na := 4) (by decide +kernel) (by simp) (Nat.le_of_ble_eq_true rfl) ?_ hC ?_
  · exact aOkCo (aOk_r (by decide)) (aOkCo (aOk_i ia) (aOkCo (aOk_i ib) (aOkCo (aOk_r (by decide)) (fun v hv => by cases hv))))
  intro p e R s m args below meth c Q hX hVR
  have k1 : (st.1 1).1 = 11 := by
    obtain ⟨m', T, T2, nt, n, wo, cn, cc, hX1⟩ := hG
    rw [hX1.1.1 1 rfl]; rfl
  refine r_aload (nxt := 1) (i := .aload_n 3) (a := 3) (b := 0) (tgt := 0) (tl := []) (w := 278) rfl rfl hX (by decide +kernel) (by decide +kernel) ?_
  refine r_pushI (nxt := 2) (i := .iconst 0) (a := 0) (b := 0) (tgt := 0) (tl := []) rfl hX (by decide +kernel) (by decide +kernel) ?_
  refine r_aload (nxt := 3) (i := .aload_n 0) (a := 0) (b := 0) (tgt := 0) (tl := []) (w := 1) rfl rfl hX (by decide +kernel) (by decide +kernel) ?_
  refine r_iload (nxt := 4) (i := .iload_n 1) (a := 1) (b := 0) (tgt := 0) (tl := []) (w := a) rfl rfl hX (by decide +kernel) (by decide +kernel) ?_
  refine r_iload (nxt := 5) (i := .iload_n 2) (a := 2) (b := 0) (tgt := 0) (tl := []) (w := b) rfl rfl hX (by decide +kernel) (by decide +kernel) ?_
  refine r_callO (y := iX11_owed) (d' := 31) (r := 1) (A := [(0, a), (0, b)]) (S := [(0, 0), (2, 278)]) (nxt := 8) (i := .invokevirtual 7) (a := 115) (b := 0) (tgt := 0) (tl := []) rfl (okAll iX11_owed).2.1 (by decide +kernel) (Nat.le_of_ble_eq_true rfl) rfl rfl (k1.trans rfl) (by decide +kernel) (okAll iX11_owed).2.2.2.2 (g_owedV hG ha hb hab) rfl hX (by decide +kernel) (by decide +kernel) rfl (fun w st1 hP => ?_)
  obtain ⟨hG1, hv⟩ := hP
  have k2 : st1.1 278 = (15, 1, []) := by
    obtain ⟨m', T, T2, nt, n, wo, cn, cc, hX1⟩ := hG1
    rw [hX1.1.1 278 rfl]; rfl
  refine fun hL hS hC1 => ?_
  have iw : i32 w := (hS _ List.mem_cons_self).1 rfl
  refine r_i2l (nxt := 9) (i := .i2l) (a := 0) (b := 0) (tgt := 0) (tl := []) rfl hX (by decide +kernel) (by decide +kernel) ?_ hL hS hC1
  refine r_last (r := 278) (n := 1) (x := 0) (w := w) (nxt := 10) (i := .lastore) (a := 0) (b := 0) (tgt := 0) (tl := []) (by rw [k2]) (by rw [k2]) (by decide) (by decide) rfl hX (by decide +kernel) (by decide +kernel) ?_
  refine r_goto (nxt := 13) (i := .goto 7) (a := 0) (b := 0) (tgt := 17) (tl := []) rfl hX (by decide +kernel) (by decide +kernel) ?_
  refine r_pushI (nxt := 18) (i := .iconst 0) (a := 0) (b := 0) (tgt := 0) (tl := []) rfl hX (by decide +kernel) (by decide +kernel) ?_
  exact s_ret (w := 0) (rc := 0) (nxt := 19) (i := .ireturn) (a := 0) (b := 0) (tgt := 0) (tl := []) hVR (by decide +kernel) (by decide +kernel) rfl rfl (fun q => absurd q (by decide)) ⟨rfl, (by obtain ⟨m', T, T2, nt, n, wo, cn, cc, hX1⟩ := hG1; exact hX1.1.1), w, iw, (aUp_at : aUp st1.2.1 278 0 w 278 0 = w), hv w⟩
theorem hn_bears {G : aCX} {l : Launch} {s0 : Nat} {st : aSt} {a : Int} (hG : GIv s0 st) (hC : aCan st) (ia : i32 a) (ha : 0 ≤ a ∧ a < nhS st.2.1) : Met l yL_bears (wsH yL_bears method_4_code 4 [(0, 9, 12, 13)]) (aRm 32) (aPre G [rf 1, (0, a), rf 278] st) (aPost G 0 (fun r st1 => r = 0 ∧ Kn st1.1 ∧ ∃ w : Int, i32 w ∧ st1.2.1 278 0 = w ∧ VM G l 31 iX12_bears [rf 210, (0, a)] st1 (fun w' st2 => w' = w ∧ st2.2.1 210 0 = 0 ∧ st2.2.1 278 0 = w ∧ GIv s0 st2))) (3000 * (32 + 2)) (200000 * (32 + 2)) (fun q => G.1.1 < q) := by
  refine hn_of (na := 3) (by decide +kernel) (by simp) (Nat.le_of_ble_eq_true rfl) ?_ hC ?_
  · exact aOkCo (aOk_r (by decide)) (aOkCo (aOk_i ia) (aOkCo (aOk_r (by decide)) (fun v hv => by cases hv)))
  intro p e R s m args below meth c Q hX hVR
  have k1 : (st.1 1).1 = 11 := by
    obtain ⟨m', T, T2, nt, n, wo, cn, cc, hX1⟩ := hG
    rw [hX1.1.1 1 rfl]; rfl
  refine r_aload (nxt := 1) (i := .aload_n 2) (a := 2) (b := 0) (tgt := 0) (tl := []) (w := 278) rfl rfl hX (by decide +kernel) (by decide +kernel) ?_
  refine r_pushI (nxt := 2) (i := .iconst 0) (a := 0) (b := 0) (tgt := 0) (tl := []) rfl hX (by decide +kernel) (by decide +kernel) ?_
  refine r_aload (nxt := 3) (i := .aload_n 0) (a := 0) (b := 0) (tgt := 0) (tl := []) (w := 1) rfl rfl hX (by decide +kernel) (by decide +kernel) ?_
  refine r_iload (nxt := 4) (i := .iload_n 1) (a := 1) (b := 0) (tgt := 0) (tl := []) (w := a) rfl rfl hX (by decide +kernel) (by decide +kernel) ?_
  refine r_callO (y := iX11_bears) (d' := 31) (r := 1) (A := [(0, a)]) (S := [(0, 0), (2, 278)]) (nxt := 7) (i := .invokevirtual 15) (a := 116) (b := 0) (tgt := 0) (tl := []) rfl (okAll iX11_bears).2.1 (by decide +kernel) (Nat.le_of_ble_eq_true rfl) rfl rfl (k1.trans rfl) (by decide +kernel) (okAll iX11_bears).2.2.2.2 (g_bearsV hG ha) rfl hX (by decide +kernel) (by decide +kernel) rfl (fun w st1 hP => ?_)
  obtain ⟨hG1, hv⟩ := hP
  have k2 : st1.1 278 = (15, 1, []) := by
    obtain ⟨m', T, T2, nt, n, wo, cn, cc, hX1⟩ := hG1
    rw [hX1.1.1 278 rfl]; rfl
  refine fun hL hS hC1 => ?_
  have iw : i32 w := (hS _ List.mem_cons_self).1 rfl
  refine r_i2l (nxt := 8) (i := .i2l) (a := 0) (b := 0) (tgt := 0) (tl := []) rfl hX (by decide +kernel) (by decide +kernel) ?_ hL hS hC1
  refine r_last (r := 278) (n := 1) (x := 0) (w := w) (nxt := 9) (i := .lastore) (a := 0) (b := 0) (tgt := 0) (tl := []) (by rw [k2]) (by rw [k2]) (by decide) (by decide) rfl hX (by decide +kernel) (by decide +kernel) ?_
  refine r_goto (nxt := 12) (i := .goto 6) (a := 0) (b := 0) (tgt := 15) (tl := []) rfl hX (by decide +kernel) (by decide +kernel) ?_
  refine r_pushI (nxt := 16) (i := .iconst 0) (a := 0) (b := 0) (tgt := 0) (tl := []) rfl hX (by decide +kernel) (by decide +kernel) ?_
  exact s_ret (w := 0) (rc := 0) (nxt := 17) (i := .ireturn) (a := 0) (b := 0) (tgt := 0) (tl := []) hVR (by decide +kernel) (by decide +kernel) rfl rfl (fun q => absurd q (by decide)) ⟨rfl, (by obtain ⟨m', T, T2, nt, n, wo, cn, cc, hX1⟩ := hG1; exact hX1.1.1), w, iw, (aUp_at : aUp st1.2.1 278 0 w 278 0 = w), hv w⟩
theorem hn_clears {G : aCX} {l : Launch} {s0 : Nat} {st : aSt} {a b : Int} (hG : GIv s0 st) (hC : aCan st) (ia : i32 a) (ib : i32 b) (ha : 0 ≤ a ∧ a < nhS st.2.1) (hb : 0 ≤ b ∧ b ≤ 4) : Met l yL_clears (wsH yL_clears method_5_code 5 [(0, 10, 13, 13)]) (aRm 32) (aPre G [rf 1, (0, a), (0, b), rf 278] st) (aPost G 0 (fun r st1 => r = 0 ∧ Kn st1.1 ∧ ∃ w : Int, i32 w ∧ st1.2.1 278 0 = w ∧ VM G l 31 iX12_clears [rf 210, (0, a), (0, b)] st1 (fun w' st2 => w' = w ∧ st2.2.1 210 0 = 0 ∧ st2.2.1 278 0 = w ∧ GIv s0 st2))) (3000 * (32 + 2)) (200000 * (32 + 2)) (fun q => G.1.1 < q) := by
  refine hn_of (na := 4) (by decide +kernel) (by simp) (Nat.le_of_ble_eq_true rfl) ?_ hC ?_
  · exact aOkCo (aOk_r (by decide)) (aOkCo (aOk_i ia) (aOkCo (aOk_i ib) (aOkCo (aOk_r (by decide)) (fun v hv => by cases hv))))
  intro p e R s m args below meth c Q hX hVR
  have k1 : (st.1 1).1 = 11 := by
    obtain ⟨m', T, T2, nt, n, wo, cn, cc, hX1⟩ := hG
    rw [hX1.1.1 1 rfl]; rfl
  refine r_aload (nxt := 1) (i := .aload_n 3) (a := 3) (b := 0) (tgt := 0) (tl := []) (w := 278) rfl rfl hX (by decide +kernel) (by decide +kernel) ?_
  refine r_pushI (nxt := 2) (i := .iconst 0) (a := 0) (b := 0) (tgt := 0) (tl := []) rfl hX (by decide +kernel) (by decide +kernel) ?_
  refine r_aload (nxt := 3) (i := .aload_n 0) (a := 0) (b := 0) (tgt := 0) (tl := []) (w := 1) rfl rfl hX (by decide +kernel) (by decide +kernel) ?_
  refine r_iload (nxt := 4) (i := .iload_n 1) (a := 1) (b := 0) (tgt := 0) (tl := []) (w := a) rfl rfl hX (by decide +kernel) (by decide +kernel) ?_
  refine r_iload (nxt := 5) (i := .iload_n 2) (a := 2) (b := 0) (tgt := 0) (tl := []) (w := b) rfl rfl hX (by decide +kernel) (by decide +kernel) ?_
  refine r_callO (y := iX11_clears) (d' := 31) (r := 1) (A := [(0, a), (0, b)]) (S := [(0, 0), (2, 278)]) (nxt := 8) (i := .invokevirtual 19) (a := 120) (b := 0) (tgt := 0) (tl := []) rfl (okAll iX11_clears).2.1 (by decide +kernel) (Nat.le_of_ble_eq_true rfl) rfl rfl (k1.trans rfl) (by decide +kernel) (okAll iX11_clears).2.2.2.2 (g_clearsV hG ha hb) rfl hX (by decide +kernel) (by decide +kernel) rfl (fun w st1 hP => ?_)
  obtain ⟨hG1, hv⟩ := hP
  have k2 : st1.1 278 = (15, 1, []) := by
    obtain ⟨m', T, T2, nt, n, wo, cn, cc, hX1⟩ := hG1
    rw [hX1.1.1 278 rfl]; rfl
  refine fun hL hS hC1 => ?_
  have iw : i32 w := (hS _ List.mem_cons_self).1 rfl
  refine r_i2l (nxt := 9) (i := .i2l) (a := 0) (b := 0) (tgt := 0) (tl := []) rfl hX (by decide +kernel) (by decide +kernel) ?_ hL hS hC1
  refine r_last (r := 278) (n := 1) (x := 0) (w := w) (nxt := 10) (i := .lastore) (a := 0) (b := 0) (tgt := 0) (tl := []) (by rw [k2]) (by rw [k2]) (by decide) (by decide) rfl hX (by decide +kernel) (by decide +kernel) ?_
  refine r_goto (nxt := 13) (i := .goto 7) (a := 0) (b := 0) (tgt := 17) (tl := []) rfl hX (by decide +kernel) (by decide +kernel) ?_
  refine r_pushI (nxt := 18) (i := .iconst 0) (a := 0) (b := 0) (tgt := 0) (tl := []) rfl hX (by decide +kernel) (by decide +kernel) ?_
  exact s_ret (w := 0) (rc := 0) (nxt := 19) (i := .ireturn) (a := 0) (b := 0) (tgt := 0) (tl := []) hVR (by decide +kernel) (by decide +kernel) rfl rfl (fun q => absurd q (by decide)) ⟨rfl, (by obtain ⟨m', T, T2, nt, n, wo, cn, cc, hX1⟩ := hG1; exact hX1.1.1), w, iw, (aUp_at : aUp st1.2.1 278 0 w 278 0 = w), hv w⟩
theorem hn_look {G : aCX} {l : Launch} {s0 : Nat} {st : aSt} {a b : Int} (hG : GIv s0 st) (hC : aCan st) (ia : i32 a) (ib : i32 b) (ha : 0 ≤ a ∧ a < st.2.1 89 0) (hb : 0 ≤ b ∧ b ≤ 6) : Met l yL_look (wsH yL_look method_6_code 5 [(0, 10, 13, 13)]) (aRm 32) (aPre G [rf 1, (0, a), (0, b), rf 278] st) (aPost G 0 (fun r st1 => r = 0 ∧ Kn st1.1 ∧ ∃ w : Int, i32 w ∧ st1.2.1 278 0 = w ∧ VM G l 31 iX12_look [rf 210, (0, a), (0, b)] st1 (fun w' st2 => w' = w ∧ st2.2.1 210 0 = 0 ∧ st2.2.1 278 0 = w ∧ GIv s0 st2))) (3000 * (32 + 2)) (200000 * (32 + 2)) (fun q => G.1.1 < q) := by
  refine hn_of (na := 4) (by decide +kernel) (by simp) (Nat.le_of_ble_eq_true rfl) ?_ hC ?_
  · exact aOkCo (aOk_r (by decide)) (aOkCo (aOk_i ia) (aOkCo (aOk_i ib) (aOkCo (aOk_r (by decide)) (fun v hv => by cases hv))))
  intro p e R s m args below meth c Q hX hVR
  have k1 : (st.1 1).1 = 11 := by
    obtain ⟨m', T, T2, nt, n, wo, cn, cc, hX1⟩ := hG
    rw [hX1.1.1 1 rfl]; rfl
  refine r_aload (nxt := 1) (i := .aload_n 3) (a := 3) (b := 0) (tgt := 0) (tl := []) (w := 278) rfl rfl hX (by decide +kernel) (by decide +kernel) ?_
  refine r_pushI (nxt := 2) (i := .iconst 0) (a := 0) (b := 0) (tgt := 0) (tl := []) rfl hX (by decide +kernel) (by decide +kernel) ?_
  refine r_aload (nxt := 3) (i := .aload_n 0) (a := 0) (b := 0) (tgt := 0) (tl := []) (w := 1) rfl rfl hX (by decide +kernel) (by decide +kernel) ?_
  refine r_iload (nxt := 4) (i := .iload_n 1) (a := 1) (b := 0) (tgt := 0) (tl := []) (w := a) rfl rfl hX (by decide +kernel) (by decide +kernel) ?_
  refine r_iload (nxt := 5) (i := .iload_n 2) (a := 2) (b := 0) (tgt := 0) (tl := []) (w := b) rfl rfl hX (by decide +kernel) (by decide +kernel) ?_
  refine r_callO (y := iX11_look) (d' := 31) (r := 1) (A := [(0, a), (0, b)]) (S := [(0, 0), (2, 278)]) (nxt := 8) (i := .invokevirtual 22) (a := 124) (b := 0) (tgt := 0) (tl := []) rfl (okAll iX11_look).2.1 (by decide +kernel) (Nat.le_of_ble_eq_true rfl) rfl rfl (k1.trans rfl) (by decide +kernel) (okAll iX11_look).2.2.2.2 (g_lookV hG ha hb) rfl hX (by decide +kernel) (by decide +kernel) rfl (fun w st1 hP => ?_)
  obtain ⟨hG1, hv⟩ := hP
  have k2 : st1.1 278 = (15, 1, []) := by
    obtain ⟨m', T, T2, nt, n, wo, cn, cc, hX1⟩ := hG1
    rw [hX1.1.1 278 rfl]; rfl
  refine fun hL hS hC1 => ?_
  have iw : i32 w := (hS _ List.mem_cons_self).1 rfl
  refine r_i2l (nxt := 9) (i := .i2l) (a := 0) (b := 0) (tgt := 0) (tl := []) rfl hX (by decide +kernel) (by decide +kernel) ?_ hL hS hC1
  refine r_last (r := 278) (n := 1) (x := 0) (w := w) (nxt := 10) (i := .lastore) (a := 0) (b := 0) (tgt := 0) (tl := []) (by rw [k2]) (by rw [k2]) (by decide) (by decide) rfl hX (by decide +kernel) (by decide +kernel) ?_
  refine r_goto (nxt := 13) (i := .goto 7) (a := 0) (b := 0) (tgt := 17) (tl := []) rfl hX (by decide +kernel) (by decide +kernel) ?_
  refine r_pushI (nxt := 18) (i := .iconst 0) (a := 0) (b := 0) (tgt := 0) (tl := []) rfl hX (by decide +kernel) (by decide +kernel) ?_
  exact s_ret (w := 0) (rc := 0) (nxt := 19) (i := .ireturn) (a := 0) (b := 0) (tgt := 0) (tl := []) hVR (by decide +kernel) (by decide +kernel) rfl rfl (fun q => absurd q (by decide)) ⟨rfl, (by obtain ⟨m', T, T2, nt, n, wo, cn, cc, hX1⟩ := hG1; exact hX1.1.1), w, iw, (aUp_at : aUp st1.2.1 278 0 w 278 0 = w), hv w⟩
