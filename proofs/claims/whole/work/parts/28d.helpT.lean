/-! ===== the law's helpers, where the class throws ===== -/
/-- an exception is caught by the one row of this method's table (the printed row 'vx_catch', which stands over the whole library) -/
def CatchOk : Prop := ∀ (p : Program) (l : Launch) (e : Env) (R : Room) (s : State) (m : MethodId) (args : Array Value) (below : List Frame) (meth : Method) (c : Code) (H : Heap) (locs : List Loc) (cells slots : Nat) (Q : State → Prop) (pc : Nat) (ls : Array Slot) (rest : List Value) (own name E : String) (ce : Cell) (q : Addr) (x : ExceptionTableEntry), s.vm.findClass own = some m.cls → c.exceptionTable.toList = [x] → covers x pc = true → x.catchType ≠ 0 → (Cond.classLink own x.catchType name).before args s = true → (Cond.castable E name).before args s = true → H[q]? = some ce → ce.vm = .none → s.vm.findClass E = some ce.cls → W p l e R s m args below meth c H locs cells slots Q (F0 m x.handlerPc ls [.ref q]) → vx_W p l e R s m args below meth c H locs cells slots Q (F0 m pc ls rest) q
def rmH : Room := { frames := 12, cells := 1, slots := 6, locals := 480 }
abbrev wsH (y : MethodName) (b : ByteArray) (n : Nat) (hh : List (Nat × Nat × Nat × Nat)) : List Cond := .codeWith y b n (some .int) hh :: gTbl
/-- it answers 1, one cell more, all else as it was -/
abbrev HQ : Array Value → State → Outcome → State → Prop := fun _ U o t => o = .returned (some (.int 1)) ∧ U.heap.size ≤ t.heap.size ∧ t.heap.size ≤ U.heap.size + 1 ∧ (∀ q : Nat, q < U.heap.size → t.heap[q]? = U.heap[q]?) ∧ hSum U.heap.size t.heap ≤ 6
theorem tPre_blind {G : aCX} {st : aSt} {adT : Nat → Nat} {As : List Value} : FrameBlind (fun a U => a = As.toArray ∧ tPre G st adT U) := fun a U g mk q => ⟨q.1, ⟨q.2.1.1, va_K.moved (u := U) (U := U.calling g mk a) (Vm.Alike.refl U.vm) q.2.1.2⟩, q.2.2⟩
theorem tPre_on {G : aCX} {st : aSt} {adT : Nat → Nat} {s : State} (h : tPre G st adT s) : ∀ U : State, U.heap = s.heap → s.WarmedH U.vm → tPre G st adT U := fun U e1 e2 => ⟨hPre_on h.1 U e1 e2, tE_warm s U.vm e2 h.2⟩
theorem hm_of {l : Launch} {y : MethodName} {b : ByteArray} {n : Nat} {hh : List (Nat × Nat × Nat × Nat)} {As : List Value} {Pre : State → Prop} (hy : plainName y.cls = true) (hc : (lg_sl As).length ≤ n)
    (h : ∀ (p : Program) (e : Env) (s : State) (m : MethodId) (below : List Frame) (meth : Method) (c : Code) (ls : Array Slot), p.tables.exec = Jvm.exec → c.code = b → meth.sig.returnType = some .int → c.maxLocals = n → s.vm.findClass y.cls = some m.cls → (∀ w ∈ gTbl, w.before As.toArray s = true) → meth.locks = false → c.exceptionTable.toList = tableOf hh → lv_has ls n (lv_args 0 As) → Pre s → W p l e rmH s m As.toArray below meth c s.heap [] 0 0 (MQ below HQ As.toArray s 1 6 NoF) (F0 m 0 ls [])) : Met l y (wsH y b n hh) rmH (fun a U => a = As.toArray ∧ Pre U) HQ 1 6 NoF := by
  refine va_MetW (cc := b) (maxL := n) (ret := some .int) (hh := hh) hy rfl ?_
  intro p e s m args below meth c s₁ B hml hv
  obtain ⟨rfl, hP⟩ := hv
  have hws := atoms_spec (ws := wsH y b n hh) B.pre
  have htab : c.exceptionTable.toList = tableOf hh := vx_table (x := yL_law) B (hws _ List.mem_cons_self)
  have hl := lv_entry As (n := n) hc
  rw [lg_entry_eq]
  exact h p e s m below meth c _ B.exec B.bytes B.returns hml (findClass_of_methodNamed B.named) (fun w hw => hws w (List.mem_cons_of_mem _ hw)) B.notSynchronized htab hl hP
section
variable {G : aCX} {K : Nat → aKd} {D : Nat → Int → Int} {z : Nat × Nat} {adT : Nat → Nat}
theorem ht_owed (hCt : CatchOk) (l : Launch) (hl0 : l.stackTraces = false) {a b : Int} {T : Nat} (hk : Kn K) (hT : isT T) (ht : D 1 6 = (T : Nat)) (hC : aCan (K, D, z)) (ha : i32 a) (hb0 : i32 b) (h : ¬ ((0 ≤ a ∧ a < D T 0) ∧ (0 ≤ b ∧ b < D T 0) ∧ a ≠ b)) : Met l yL_owed (wsH yL_owed method_3_code 5 [(0, 10, 13, 13)]) rmH (fun ar U => ar = ([.ref (aAd G 1), .int (Int32.ofInt a), .int (Int32.ofInt b), .ref (aAd G 278)] : List Value).toArray ∧ tPre G (K, D, z) adT U) HQ 1 6 NoF := by
  refine hm_of (by decide +kernel) (Nat.le_of_ble_eq_true rfl) ?_
  intro p e s m below meth c ls hx hb hr hml hown hts hlk htab0 hl hP
  have htab : c.exceptionTable.toList = [⟨0, 10, 13, 13⟩] := htab0.trans rfl
  have hr1 : (K 1).1 = 11 := by rw [hk 1 rfl]; rfl
  obtain ⟨cell, c1, c2, c3⟩ := rec_at (r := 1) hP.1.2 hP.1.1 hC (by show (K 1).1 < 13; rw [hr1]; decide)
  have c3 : s.vm.findClass (aCl (K 1).1) = some cell.cls := c3
  rw [hr1] at c3
  refine lv_aload_n hx hb (by decide +kernel : decode method_3_code 0 = .ok (.aload_n 3, 1)) rfl (lv_at hl 3 rfl) ?_
  refine lv_iconst hx hb (by decide +kernel : decode method_3_code 1 = .ok (.iconst 0, 1)) rfl ?_
  refine lv_aload_n hx hb (by decide +kernel : decode method_3_code 2 = .ok (.aload_n 0, 1)) rfl (lv_at hl 0 rfl) ?_
  refine lv_iload_n hx hb (by decide +kernel : decode method_3_code 3 = .ok (.iload_n 1, 1)) rfl (lv_at hl 1 rfl) ?_
  refine lv_iload_n hx hb (by decide +kernel : decode method_3_code 4 = .ok (.iload_n 2, 1)) rfl (lv_at hl 2 rfl) ?_
  have cb : CallB rmH s ([.ref (aAd G 1), .int (Int32.ofInt a), .int (Int32.ofInt b), .ref (aAd G 278)] : List Value).toArray RL 7 yX11_owed prog_1_method_17_code 3 (some .int) (wsP yX11_owed prog_1_method_17_code 3 (some .int)) rmT 1 6 2 := callB_of 2 hts (fun w hw => by
    rcases List.mem_cons.mp hw with rfl | hw
    · exact ⟨gW (by decide +kernel), good_of_word (by decide +kernel)⟩
    · exact ⟨hw, good_of_word (gGood _ hw)⟩) rfl rfl rfl (hts _ (gW (by decide +kernel))) (hts _ (gW (by decide +kernel))) ⟨by decide +kernel, by decide +kernel, by decide +kernel⟩ ⟨by decide, by decide⟩
  intro Tm hTm X
  rcases vx_runV (C := RX11) (b := aAd G 1) (As := [.int (Int32.ofInt a), .int (Int32.ofInt b)]) (rest := [.int 0, .ref (aAd G 278)]) (g := F0 m 5 ls [.int (Int32.ofInt b), .int (Int32.ofInt a), .ref (aAd G 1), .int 0, .ref (aAd G 278)]) ⟨hx, hb, hml, hown, hts⟩ (t_owed (G := G) (z := z) (adT := adT) l hl0 hk hT ht hC ha hb0 h) ⟨cb, hts _ (gW (by decide +kernel)), hts _ (gW (by decide +kernel))⟩ ⟨tPre_blind, ⟨cell, c1, c2, c3⟩, fun U e1 e2 => ⟨rfl, tPre_on hP U e1 e2⟩⟩ rfl rfl hl.1 rfl (by show 2 * 0 + (1 + (1 + 0)) ≤ 8; decide) (by decide +kernel : decode method_3_code 5 = .ok (.invokevirtual 7, 3)) ⟨by decide, by decide⟩ Tm hTm X with ⟨v, st₀, t, T', L, h0, X', hL, e1, e2, hq, _⟩ | ⟨q, st₀, t, T', L, E, ce, h0, X', hL, e1, e2, ⟨rfl, f1, f2⟩, hce, hcv, hcl, st⟩
  · exact hq.elim
  · have eL : L = [] := by
      cases L with
      | nil => rfl
      | cons q L => exact (hL q List.mem_cons_self).elim
    subst eL
    have X' : Stand p l e rmH s m ([.ref (aAd G 1), .int (Int32.ofInt a), .int (Int32.ofInt b), .ref (aAd G 278)] : List Value).toArray below meth c T' [] 1 6 := X'
    have hm := X'.same
    have g3 : T'.heap.size ≤ s.heap.size + 1 := hm.2.2.1
    have g5 : hSum s.heap.size T'.heap ≤ 6 := hm.2.2.2.2.1
    rw [h0] at f1 f2
    rw [← e1] at f1 f2 hce
    refine (fun (KK : vx_W p l e rmH s m ([.ref (aAd G 1), .int (Int32.ofInt a), .int (Int32.ofInt b), .ref (aAd G 278)] : List Value).toArray below meth c T'.heap [] 1 6 _ (F0 m 5 ls [.int 0, .ref (aAd G 278)]) q) => ?_) (hCt p l e rmH s m ([.ref (aAd G 1), .int (Int32.ofInt a), .int (Int32.ofInt b), .ref (aAd G 278)] : List Value).toArray below meth c T'.heap [] 1 6 (MQ below HQ ([.ref (aAd G 1), .int (Int32.ofInt a), .int (Int32.ofInt b), .ref (aAd G 278)] : List Value).toArray s 1 6 NoF) 5 ls [.int 0, .ref (aAd G 278)] RL nsE nsE ce q ⟨0, 10, 13, 13⟩ hown htab (by decide) (by decide) (hts _ (gW (by decide +kernel))) (va_any rfl (hP.2 s rfl).1.2.2.2.2) hce hcv hcl ?_)
    · obtain ⟨t2, a1, b1⟩ := KK T' rfl X'
      exact ⟨t2, st.trans a1, b1⟩
    · refine lv_astore hx hb (by decide +kernel : decode method_3_code 13 = .ok (.astore 4, 2)) hl (by decide) rfl (fun ls' hl' => ?_)
      refine lv_iconst hx hb (by decide +kernel : decode method_3_code 15 = .ok (.iconst 1, 1)) rfl ?_
      exact W.iret hx hb hr (fun t ht _ => ⟨rfl, by rw [ht]; exact f1, by rw [ht]; exact g3, by rw [ht]; exact f2, by rw [ht]; exact g5⟩) (fun q hq => by cases hq) (by decide +kernel : decode method_3_code 16 = .ok (.ireturn, 1)) hlk
theorem ht_bears (hCt : CatchOk) (l : Launch) (hl0 : l.stackTraces = false) {a : Int} {T : Nat} (hk : Kn K) (hT : isT T) (ht : D 1 6 = (T : Nat)) (hC : aCan (K, D, z)) (ha : i32 a) (h : ¬ (0 ≤ a ∧ a < D T 0)) : Met l yL_bears (wsH yL_bears method_4_code 4 [(0, 9, 12, 13)]) rmH (fun ar U => ar = ([.ref (aAd G 1), .int (Int32.ofInt a), .ref (aAd G 278)] : List Value).toArray ∧ tPre G (K, D, z) adT U) HQ 1 6 NoF := by
  refine hm_of (by decide +kernel) (Nat.le_of_ble_eq_true rfl) ?_
  intro p e s m below meth c ls hx hb hr hml hown hts hlk htab0 hl hP
  have htab : c.exceptionTable.toList = [⟨0, 9, 12, 13⟩] := htab0.trans rfl
  have hr1 : (K 1).1 = 11 := by rw [hk 1 rfl]; rfl
  obtain ⟨cell, c1, c2, c3⟩ := rec_at (r := 1) hP.1.2 hP.1.1 hC (by show (K 1).1 < 13; rw [hr1]; decide)
  have c3 : s.vm.findClass (aCl (K 1).1) = some cell.cls := c3
  rw [hr1] at c3
  refine lv_aload_n hx hb (by decide +kernel : decode method_4_code 0 = .ok (.aload_n 2, 1)) rfl (lv_at hl 2 rfl) ?_
  refine lv_iconst hx hb (by decide +kernel : decode method_4_code 1 = .ok (.iconst 0, 1)) rfl ?_
  refine lv_aload_n hx hb (by decide +kernel : decode method_4_code 2 = .ok (.aload_n 0, 1)) rfl (lv_at hl 0 rfl) ?_
  refine lv_iload_n hx hb (by decide +kernel : decode method_4_code 3 = .ok (.iload_n 1, 1)) rfl (lv_at hl 1 rfl) ?_
  have cb : CallB rmH s ([.ref (aAd G 1), .int (Int32.ofInt a), .ref (aAd G 278)] : List Value).toArray RL 15 yX11_bears prog_1_method_18_code 2 (some .int) (wsP yX11_bears prog_1_method_18_code 2 (some .int)) rmT 1 6 1 := callB_of 1 hts (fun w hw => by
    rcases List.mem_cons.mp hw with rfl | hw
    · exact ⟨gW (by decide +kernel), good_of_word (by decide +kernel)⟩
    · exact ⟨hw, good_of_word (gGood _ hw)⟩) rfl rfl rfl (hts _ (gW (by decide +kernel))) (hts _ (gW (by decide +kernel))) ⟨by decide +kernel, by decide +kernel, by decide +kernel⟩ ⟨by decide, by decide⟩
  intro Tm hTm X
  rcases vx_runV (C := RX11) (b := aAd G 1) (As := [.int (Int32.ofInt a)]) (rest := [.int 0, .ref (aAd G 278)]) (g := F0 m 4 ls [.int (Int32.ofInt a), .ref (aAd G 1), .int 0, .ref (aAd G 278)]) ⟨hx, hb, hml, hown, hts⟩ (t_bears (G := G) (z := z) (adT := adT) l hl0 hk hT ht hC ha h) ⟨cb, hts _ (gW (by decide +kernel)), hts _ (gW (by decide +kernel))⟩ ⟨tPre_blind, ⟨cell, c1, c2, c3⟩, fun U e1 e2 => ⟨rfl, tPre_on hP U e1 e2⟩⟩ rfl rfl hl.1 rfl (by show 2 * 0 + (1 + (1 + 0)) ≤ 8; decide) (by decide +kernel : decode method_4_code 4 = .ok (.invokevirtual 15, 3)) ⟨by decide, by decide⟩ Tm hTm X with ⟨v, st₀, t, T', L, h0, X', hL, e1, e2, hq, _⟩ | ⟨q, st₀, t, T', L, E, ce, h0, X', hL, e1, e2, ⟨rfl, f1, f2⟩, hce, hcv, hcl, st⟩
  · exact hq.elim
  · have eL : L = [] := by
      cases L with
      | nil => rfl
      | cons q L => exact (hL q List.mem_cons_self).elim
    subst eL
    have X' : Stand p l e rmH s m ([.ref (aAd G 1), .int (Int32.ofInt a), .ref (aAd G 278)] : List Value).toArray below meth c T' [] 1 6 := X'
    have hm := X'.same
    have g3 : T'.heap.size ≤ s.heap.size + 1 := hm.2.2.1
    have g5 : hSum s.heap.size T'.heap ≤ 6 := hm.2.2.2.2.1
    rw [h0] at f1 f2
    rw [← e1] at f1 f2 hce
    refine (fun (KK : vx_W p l e rmH s m ([.ref (aAd G 1), .int (Int32.ofInt a), .ref (aAd G 278)] : List Value).toArray below meth c T'.heap [] 1 6 _ (F0 m 4 ls [.int 0, .ref (aAd G 278)]) q) => ?_) (hCt p l e rmH s m ([.ref (aAd G 1), .int (Int32.ofInt a), .ref (aAd G 278)] : List Value).toArray below meth c T'.heap [] 1 6 (MQ below HQ ([.ref (aAd G 1), .int (Int32.ofInt a), .ref (aAd G 278)] : List Value).toArray s 1 6 NoF) 4 ls [.int 0, .ref (aAd G 278)] RL nsE nsE ce q ⟨0, 9, 12, 13⟩ hown htab (by decide) (by decide) (hts _ (gW (by decide +kernel))) (va_any rfl (hP.2 s rfl).1.2.2.2.2) hce hcv hcl ?_)
    · obtain ⟨t2, a1, b1⟩ := KK T' rfl X'
      exact ⟨t2, st.trans a1, b1⟩
    · refine lv_astore_n hx hb (by decide +kernel : decode method_4_code 12 = .ok (.astore_n 3, 1)) rfl hl (by decide) rfl (fun ls' hl' => ?_)
      refine lv_iconst hx hb (by decide +kernel : decode method_4_code 13 = .ok (.iconst 1, 1)) rfl ?_
      exact W.iret hx hb hr (fun t ht _ => ⟨rfl, by rw [ht]; exact f1, by rw [ht]; exact g3, by rw [ht]; exact f2, by rw [ht]; exact g5⟩) (fun q hq => by cases hq) (by decide +kernel : decode method_4_code 14 = .ok (.ireturn, 1)) hlk
theorem ht_clears (hCt : CatchOk) (l : Launch) (hl0 : l.stackTraces = false) {a b : Int} {T : Nat} (hk : Kn K) (hT : isT T) (ht : D 1 6 = (T : Nat)) (hC : aCan (K, D, z)) (ha : i32 a) (hb0 : i32 b) (h : ¬ ((0 ≤ a ∧ a < D T 0) ∧ 0 ≤ b ∧ b ≤ 4)) : Met l yL_clears (wsH yL_clears method_5_code 5 [(0, 10, 13, 13)]) rmH (fun ar U => ar = ([.ref (aAd G 1), .int (Int32.ofInt a), .int (Int32.ofInt b), .ref (aAd G 278)] : List Value).toArray ∧ tPre G (K, D, z) adT U) HQ 1 6 NoF := by
  refine hm_of (by decide +kernel) (Nat.le_of_ble_eq_true rfl) ?_
  intro p e s m below meth c ls hx hb hr hml hown hts hlk htab0 hl hP
  have htab : c.exceptionTable.toList = [⟨0, 10, 13, 13⟩] := htab0.trans rfl
  have hr1 : (K 1).1 = 11 := by rw [hk 1 rfl]; rfl
  obtain ⟨cell, c1, c2, c3⟩ := rec_at (r := 1) hP.1.2 hP.1.1 hC (by show (K 1).1 < 13; rw [hr1]; decide)
  have c3 : s.vm.findClass (aCl (K 1).1) = some cell.cls := c3
  rw [hr1] at c3
  refine lv_aload_n hx hb (by decide +kernel : decode method_5_code 0 = .ok (.aload_n 3, 1)) rfl (lv_at hl 3 rfl) ?_
  refine lv_iconst hx hb (by decide +kernel : decode method_5_code 1 = .ok (.iconst 0, 1)) rfl ?_
  refine lv_aload_n hx hb (by decide +kernel : decode method_5_code 2 = .ok (.aload_n 0, 1)) rfl (lv_at hl 0 rfl) ?_
  refine lv_iload_n hx hb (by decide +kernel : decode method_5_code 3 = .ok (.iload_n 1, 1)) rfl (lv_at hl 1 rfl) ?_
  refine lv_iload_n hx hb (by decide +kernel : decode method_5_code 4 = .ok (.iload_n 2, 1)) rfl (lv_at hl 2 rfl) ?_
  have cb : CallB rmH s ([.ref (aAd G 1), .int (Int32.ofInt a), .int (Int32.ofInt b), .ref (aAd G 278)] : List Value).toArray RL 19 yX11_clears prog_1_method_22_code 3 (some .int) (wsP yX11_clears prog_1_method_22_code 3 (some .int)) rmT 1 6 2 := callB_of 2 hts (fun w hw => by
    rcases List.mem_cons.mp hw with rfl | hw
    · exact ⟨gW (by decide +kernel), good_of_word (by decide +kernel)⟩
    · exact ⟨hw, good_of_word (gGood _ hw)⟩) rfl rfl rfl (hts _ (gW (by decide +kernel))) (hts _ (gW (by decide +kernel))) ⟨by decide +kernel, by decide +kernel, by decide +kernel⟩ ⟨by decide, by decide⟩
  intro Tm hTm X
  rcases vx_runV (C := RX11) (b := aAd G 1) (As := [.int (Int32.ofInt a), .int (Int32.ofInt b)]) (rest := [.int 0, .ref (aAd G 278)]) (g := F0 m 5 ls [.int (Int32.ofInt b), .int (Int32.ofInt a), .ref (aAd G 1), .int 0, .ref (aAd G 278)]) ⟨hx, hb, hml, hown, hts⟩ (t_clears (G := G) (z := z) (adT := adT) l hl0 hk hT ht hC ha hb0 h) ⟨cb, hts _ (gW (by decide +kernel)), hts _ (gW (by decide +kernel))⟩ ⟨tPre_blind, ⟨cell, c1, c2, c3⟩, fun U e1 e2 => ⟨rfl, tPre_on hP U e1 e2⟩⟩ rfl rfl hl.1 rfl (by show 2 * 0 + (1 + (1 + 0)) ≤ 8; decide) (by decide +kernel : decode method_5_code 5 = .ok (.invokevirtual 19, 3)) ⟨by decide, by decide⟩ Tm hTm X with ⟨v, st₀, t, T', L, h0, X', hL, e1, e2, hq, _⟩ | ⟨q, st₀, t, T', L, E, ce, h0, X', hL, e1, e2, ⟨rfl, f1, f2⟩, hce, hcv, hcl, st⟩
  · exact hq.elim
  · have eL : L = [] := by
      cases L with
      | nil => rfl
      | cons q L => exact (hL q List.mem_cons_self).elim
    subst eL
    have X' : Stand p l e rmH s m ([.ref (aAd G 1), .int (Int32.ofInt a), .int (Int32.ofInt b), .ref (aAd G 278)] : List Value).toArray below meth c T' [] 1 6 := X'
    have hm := X'.same
    have g3 : T'.heap.size ≤ s.heap.size + 1 := hm.2.2.1
    have g5 : hSum s.heap.size T'.heap ≤ 6 := hm.2.2.2.2.1
    rw [h0] at f1 f2
    rw [← e1] at f1 f2 hce
    refine (fun (KK : vx_W p l e rmH s m ([.ref (aAd G 1), .int (Int32.ofInt a), .int (Int32.ofInt b), .ref (aAd G 278)] : List Value).toArray below meth c T'.heap [] 1 6 _ (F0 m 5 ls [.int 0, .ref (aAd G 278)]) q) => ?_) (hCt p l e rmH s m ([.ref (aAd G 1), .int (Int32.ofInt a), .int (Int32.ofInt b), .ref (aAd G 278)] : List Value).toArray below meth c T'.heap [] 1 6 (MQ below HQ ([.ref (aAd G 1), .int (Int32.ofInt a), .int (Int32.ofInt b), .ref (aAd G 278)] : List Value).toArray s 1 6 NoF) 5 ls [.int 0, .ref (aAd G 278)] RL nsE nsE ce q ⟨0, 10, 13, 13⟩ hown htab (by decide) (by decide) (hts _ (gW (by decide +kernel))) (va_any rfl (hP.2 s rfl).1.2.2.2.2) hce hcv hcl ?_)
    · obtain ⟨t2, a1, b1⟩ := KK T' rfl X'
      exact ⟨t2, st.trans a1, b1⟩
    · refine lv_astore hx hb (by decide +kernel : decode method_5_code 13 = .ok (.astore 4, 2)) hl (by decide) rfl (fun ls' hl' => ?_)
      refine lv_iconst hx hb (by decide +kernel : decode method_5_code 15 = .ok (.iconst 1, 1)) rfl ?_
      exact W.iret hx hb hr (fun t ht _ => ⟨rfl, by rw [ht]; exact f1, by rw [ht]; exact g3, by rw [ht]; exact f2, by rw [ht]; exact g5⟩) (fun q hq => by cases hq) (by decide +kernel : decode method_5_code 16 = .ok (.ireturn, 1)) hlk
theorem ht_look (hCt : CatchOk) (l : Launch) (hl0 : l.stackTraces = false) {a b : Int} (hk : Kn K) (hC : aCan (K, D, z)) (ha : i32 a) (hb0 : i32 b) (h : ¬ ((0 ≤ a ∧ a < D 89 0) ∧ 0 ≤ b ∧ b ≤ 6)) : Met l yL_look (wsH yL_look method_6_code 5 [(0, 10, 13, 13)]) rmH (fun ar U => ar = ([.ref (aAd G 1), .int (Int32.ofInt a), .int (Int32.ofInt b), .ref (aAd G 278)] : List Value).toArray ∧ tPre G (K, D, z) adT U) HQ 1 6 NoF := by
  refine hm_of (by decide +kernel) (Nat.le_of_ble_eq_true rfl) ?_
  intro p e s m below meth c ls hx hb hr hml hown hts hlk htab0 hl hP
  have htab : c.exceptionTable.toList = [⟨0, 10, 13, 13⟩] := htab0.trans rfl
  have hr1 : (K 1).1 = 11 := by rw [hk 1 rfl]; rfl
  obtain ⟨cell, c1, c2, c3⟩ := rec_at (r := 1) hP.1.2 hP.1.1 hC (by show (K 1).1 < 13; rw [hr1]; decide)
  have c3 : s.vm.findClass (aCl (K 1).1) = some cell.cls := c3
  rw [hr1] at c3
  refine lv_aload_n hx hb (by decide +kernel : decode method_6_code 0 = .ok (.aload_n 3, 1)) rfl (lv_at hl 3 rfl) ?_
  refine lv_iconst hx hb (by decide +kernel : decode method_6_code 1 = .ok (.iconst 0, 1)) rfl ?_
  refine lv_aload_n hx hb (by decide +kernel : decode method_6_code 2 = .ok (.aload_n 0, 1)) rfl (lv_at hl 0 rfl) ?_
  refine lv_iload_n hx hb (by decide +kernel : decode method_6_code 3 = .ok (.iload_n 1, 1)) rfl (lv_at hl 1 rfl) ?_
  refine lv_iload_n hx hb (by decide +kernel : decode method_6_code 4 = .ok (.iload_n 2, 1)) rfl (lv_at hl 2 rfl) ?_
  have cb : CallB rmH s ([.ref (aAd G 1), .int (Int32.ofInt a), .int (Int32.ofInt b), .ref (aAd G 278)] : List Value).toArray RL 22 yX11_look prog_1_method_26_code 3 (some .int) (wsP yX11_look prog_1_method_26_code 3 (some .int)) rmT 1 6 2 := callB_of 2 hts (fun w hw => by
    rcases List.mem_cons.mp hw with rfl | hw
    · exact ⟨gW (by decide +kernel), good_of_word (by decide +kernel)⟩
    · exact ⟨hw, good_of_word (gGood _ hw)⟩) rfl rfl rfl (hts _ (gW (by decide +kernel))) (hts _ (gW (by decide +kernel))) ⟨by decide +kernel, by decide +kernel, by decide +kernel⟩ ⟨by decide, by decide⟩
  intro Tm hTm X
  rcases vx_runV (C := RX11) (b := aAd G 1) (As := [.int (Int32.ofInt a), .int (Int32.ofInt b)]) (rest := [.int 0, .ref (aAd G 278)]) (g := F0 m 5 ls [.int (Int32.ofInt b), .int (Int32.ofInt a), .ref (aAd G 1), .int 0, .ref (aAd G 278)]) ⟨hx, hb, hml, hown, hts⟩ (t_look (G := G) (z := z) (adT := adT) l hl0 hk hC ha hb0 h) ⟨cb, hts _ (gW (by decide +kernel)), hts _ (gW (by decide +kernel))⟩ ⟨tPre_blind, ⟨cell, c1, c2, c3⟩, fun U e1 e2 => ⟨rfl, tPre_on hP U e1 e2⟩⟩ rfl rfl hl.1 rfl (by show 2 * 0 + (1 + (1 + 0)) ≤ 8; decide) (by decide +kernel : decode method_6_code 5 = .ok (.invokevirtual 22, 3)) ⟨by decide, by decide⟩ Tm hTm X with ⟨v, st₀, t, T', L, h0, X', hL, e1, e2, hq, _⟩ | ⟨q, st₀, t, T', L, E, ce, h0, X', hL, e1, e2, ⟨rfl, f1, f2⟩, hce, hcv, hcl, st⟩
  · exact hq.elim
  · have eL : L = [] := by
      cases L with
      | nil => rfl
      | cons q L => exact (hL q List.mem_cons_self).elim
    subst eL
    have X' : Stand p l e rmH s m ([.ref (aAd G 1), .int (Int32.ofInt a), .int (Int32.ofInt b), .ref (aAd G 278)] : List Value).toArray below meth c T' [] 1 6 := X'
    have hm := X'.same
    have g3 : T'.heap.size ≤ s.heap.size + 1 := hm.2.2.1
    have g5 : hSum s.heap.size T'.heap ≤ 6 := hm.2.2.2.2.1
    rw [h0] at f1 f2
    rw [← e1] at f1 f2 hce
    refine (fun (KK : vx_W p l e rmH s m ([.ref (aAd G 1), .int (Int32.ofInt a), .int (Int32.ofInt b), .ref (aAd G 278)] : List Value).toArray below meth c T'.heap [] 1 6 _ (F0 m 5 ls [.int 0, .ref (aAd G 278)]) q) => ?_) (hCt p l e rmH s m ([.ref (aAd G 1), .int (Int32.ofInt a), .int (Int32.ofInt b), .ref (aAd G 278)] : List Value).toArray below meth c T'.heap [] 1 6 (MQ below HQ ([.ref (aAd G 1), .int (Int32.ofInt a), .int (Int32.ofInt b), .ref (aAd G 278)] : List Value).toArray s 1 6 NoF) 5 ls [.int 0, .ref (aAd G 278)] RL nsE nsE ce q ⟨0, 10, 13, 13⟩ hown htab (by decide) (by decide) (hts _ (gW (by decide +kernel))) (va_any rfl (hP.2 s rfl).1.2.2.2.2) hce hcv hcl ?_)
    · obtain ⟨t2, a1, b1⟩ := KK T' rfl X'
      exact ⟨t2, st.trans a1, b1⟩
    · refine lv_astore hx hb (by decide +kernel : decode method_6_code 13 = .ok (.astore 4, 2)) hl (by decide) rfl (fun ls' hl' => ?_)
      refine lv_iconst hx hb (by decide +kernel : decode method_6_code 15 = .ok (.iconst 1, 1)) rfl ?_
      exact W.iret hx hb hr (fun t ht _ => ⟨rfl, by rw [ht]; exact f1, by rw [ht]; exact g3, by rw [ht]; exact f2, by rw [ht]; exact g5⟩) (fun q hq => by cases hq) (by decide +kernel : decode method_6_code 16 = .ok (.ireturn, 1)) hlk
end
