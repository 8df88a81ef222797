/-! ===== a method that throws ===== -/
def nsE : String := "java/util/NoSuchElementException"
def nsN : List String := ["java/lang/RuntimeException", "java/lang/Exception"]
def nsB : List Cond := [.declares (Bundle.initS "java/lang/RuntimeException"), .declares (Bundle.initS "java/lang/Exception"), .declares (Bundle.initS Bundle.tN)]
/-- what is known of the machine: the four texts, the words on the exception's classes, the two statics of Throwable in every heap that keeps the cells up to B -/
def tE (B : Nat) (h0 : Heap) (adT : Nat → Nat) (vm : Vm) : Prop := ∀ U : State, U.vm = vm → ((vk_R RX11 219 "no such houses" (adT 0) U ∧ vk_R RX11 228 "no such house" (adT 1) U ∧ vk_R RX11 263 "no such house or what" (adT 2) U ∧ vk_R RX11 294 "no such loss or what" (adT 3) U) ∧ va_Nw (.declares (Bundle.initS "java/lang/RuntimeException")) U ∧ va_Nw (.declares (Bundle.initS "java/lang/Exception")) U ∧ va_Nw (.declares (Bundle.initS Bundle.tN)) U ∧ va_Nw (.castable nsE nsE) U) ∧ ∀ H : Heap, (∀ q : Nat, q ≤ B → H[q]? = h0[q]?) → vx_Zq Bundle.tN "UNASSIGNED_STACK" Bundle.steD (fun q => B < q) U H ∧ vx_Zq Bundle.tN "SUPPRESSED_SENTINEL" Bundle.listD (fun q => B < q) U H
theorem tE_warm {B : Nat} {h0 : Heap} {adT : Nat → Nat} (s : State) (v : Vm) (hW : s.WarmedH v) (h : tE B h0 adT s.vm) : tE B h0 adT v := fun U hU => by
  subst hU
  obtain ⟨⟨⟨h1, h2, h3, h4⟩, g1, g2, g3, g4⟩, k⟩ := h s rfl
  refine ⟨⟨⟨vk_R.warm hW h1, vk_R.warm hW h2, vk_R.warm hW h3, vk_R.warm hW h4⟩, va_Nw.warmD hW g1, va_Nw.warmD hW g2, va_Nw.warmD hW g3, va_Nw.warmC hW g4⟩, fun H hH => ?_⟩
  obtain ⟨k1, k2⟩ := k H hH
  exact ⟨vx_Zq.moved hW.alike k1, vx_Zq.moved hW.alike k2⟩
def rmT : Room := { frames := 9, cells := 1, slots := 6, locals := 360 }
abbrev TX : String → State → State → Prop := fun E st t => E = nsE ∧ st.heap.size ≤ t.heap.size ∧ ∀ q : Nat, q < st.heap.size → t.heap[q]? = st.heap[q]?
def tPre (G : aCX) (st : aSt) (adT : Nat → Nat) : State → Prop := fun U => hPre G st U ∧ tE G.1.1 G.2.2.2.1 adT U.vm
abbrev NoQ : Array Value → State → Outcome → State → Prop := fun _ _ _ _ => False
abbrev NoF : Addr → Prop := fun _ => False
/-- the method y, called with As, where Pre holds, throws NoSuchElementException, one cell for it, and leaves all else as it is -/
abbrev TM (l : Launch) (y : MethodName) (b : ByteArray) (n : Nat) (As : List Value) (Pre : State → Prop) : Prop := vx_Met l y (wsP y b n (some .int)) rmT (fun a U => a = As.toArray ∧ Pre U) NoQ TX 1 6 NoF
theorem tm_of {l : Launch} {y : MethodName} {b : ByteArray} {n : Nat} {As : List Value} {Pre : State → Prop} (hy : plainName y.cls = true) (hc : (lg_sl As).length ≤ n)
    (h : ∀ (p : Program) (e : Env) (s : State) (m : MethodId) (below : List Frame) (meth : Method) (c : Code) (ls : Array Slot), p.tables.exec = Jvm.exec → c.code = b → c.maxLocals = n → s.vm.findClass y.cls = some m.cls → (∀ w ∈ gTbl, w.before As.toArray s = true) → meth.locks = false → (∀ x ∈ c.exceptionTable.toList, False) → lv_has ls n (lv_args 0 As) → Pre s → W p l e rmT s m As.toArray below meth c s.heap [] 0 0 (vx_MQ below NoQ TX As.toArray s 1 6 NoF) (F0 m 0 ls [])) : TM l y b n As Pre := by
  refine vx_ofW (cc := b) (maxL := n) (ret := some .int) hy rfl ?_
  intro p e s m args below meth c s₁ B hml ht hv
  obtain ⟨rfl, hP⟩ := hv
  have hts := atoms_spec (ws := wsP y b n (some .int)) B.pre
  have hl := lv_entry As (n := n) hc
  rw [lg_entry_eq]
  exact h p e s m below meth c _ B.exec B.bytes hml (findClass_of_methodNamed B.named) (fun w hw => hts w (List.mem_cons_of_mem _ hw)) B.notSynchronized ht hl hP
def nsL : List Cond := cAt RX11 221 nsE "java/lang/RuntimeException" ["java/lang/Exception"] 13 prog_26_method_4_code
theorem thr_in : ∀ w ∈ (nsL.filter vx_no).filter goodWord, w ∈ lw_tbl := by decide +kernel
theorem thr_nb : ∀ w ∈ (nsL.filter vx_no).filter (fun w => !goodWord w), w ∈ nsB := by decide +kernel
theorem thr_at {B : Nat} {h0 : Heap} {adT : Nat → Nat} {args : Array Value} {s : State} (hts : ∀ w ∈ gTbl, w.before args s = true) (h : tE B h0 adT s.vm) (hH : ∀ q : Nat, q ≤ B → s.heap[q]? = h0[q]?) : ∀ w ∈ nsL, w.before args s = true := by
  obtain ⟨⟨-, g1, g2, g3, g4⟩, k⟩ := h s rfl
  obtain ⟨k1, k2⟩ := k s.heap hH
  refine vx_own (vx_hat (B := nsB) (fun w hw => hts _ (List.mem_filter.mpr ⟨thr_in w hw, (List.mem_filter.mp hw).2⟩)) thr_nb ?_) (vx_isRefq k1.1) (vx_isRefq k2.1) k1.2.word k2.2.word
  exact vx_c (va_any rfl g1) (vx_c (va_any rfl g2) (vx_c (va_any rfl g3) vx_n))
section
variable {p : Program} {l : Launch} {e : Env} {s : State} {m : MethodId} {args : Array Value} {below : List Frame} {meth : Method} {c : Code} {pc : Nat} {ls : Array Slot} {cc : ByteArray} {B : Nat} {h0 : Heap} {adT : Nat → Nat}
theorem thrS {is sa : Nat} {tx : String} (hx : p.tables.exec = Jvm.exec) (hb : c.code = cc) (hl0 : l.stackTraces = false) (hown : s.vm.findClass RX11 = some m.cls) (hts : ∀ w ∈ gTbl, w.before args s = true) (hE : tE B h0 adT s.vm) (hstr : vk_R RX11 is tx sa s) (hH : ∀ q : Nat, q ≤ B → s.heap[q]? = h0[q]?) (hsize : ls.size = c.maxLocals) (hout : ∀ x ∈ c.exceptionTable.toList, False) (hlk : meth.locks = false)
    (d0 : decode cc pc = .ok (.new 217, 3)) (d3 : decode cc (pc + 3) = .ok (.dup, 1)) (d4 : decode cc (pc + 4) = .ok (.ldc is, 2)) (d6 : decode cc (pc + 6) = .ok (.invokespecial 221, 3)) (d9 : decode cc (pc + 9) = .ok (.athrow, 1)) : W p l e rmT s m args below meth c s.heap [] 0 0 (vx_MQ below NoQ TX args s 1 6 NoF) (F0 m pc ls []) := by
  intro T hT X
  have htr : e.platform.stackTraces = false := (show e.platform.stackTraces = l.stackTraces by rw [X.admits.platform]).trans hl0
  have h := thr_at hts hE hH
  obtain ⟨vm₁, cX, kX, hfX, hkX, -, -, X₁, st1⟩ := X.newCold hx (own := RX11) (C := nsE) (index := 217) (n := 6) hown (hts _ (gW (by decide +kernel))) (h _ (by simp [nsL, cAt])) (hts _ (gW (by decide +kernel))) (g := F0 m pc ls []) rfl (by rw [hb]; exact d0) (by decide) (by decide)
  generalize hT1 : (T.setVm vm₁).pushCell { cls := cX, slots := kX.instanceTypes.map defaultValue, vm := .none } = T1 at X₁ st1
  have hcat : (Value.ref T.heap.size).category = 1 := rfl
  have hcellA : T1.heap[T.heap.size]? = some (freshCell cX kX) := by rw [← hT1]; exact State.heap_pushCell_size _ _
  have d3' : decode c.code (pc + 3) = .ok (.dup, 1) := by rw [hb]; exact d3
  have d4' : decode c.code (pc + 4) = .ok (.ldc is, 2) := by rw [hb]; exact d4
  obtain ⟨U, hsteps, hrun, hend, hW, hsame, ce, hce, hcv, hcl⟩ := cThrow X₁ hx htr (own := RX11) (cls := nsE) (Y1 := "java/lang/RuntimeException") (names := ["java/lang/Exception"]) (ic := 221) (i1 := 13) (b1 := prog_26_method_4_code) hown (by decide +kernel) (by decide +kernel) (by decide +kernel) (by decide +kernel) (by decide +kernel) (by decide +kernel) (by decide +kernel) h hfX hkX hcellA (by rw [hT]; exact Nat.le_refl _) (msg := .ref sa) rfl
    (g := { method := m, pc := pc + 6, locals := ls, stack := .ref sa :: .ref T.heap.size :: .ref T.heap.size :: [], locked := none }) rfl hsize rfl rfl (rest := []) rfl
    (by rw [hb]; exact d6) (by rw [hb]; exact d9) (fun x hx => (hout x hx).elim) (by decide) (by show 2 * 0 + (1 + 0) + (13 * 3 + 42) ≤ 360; decide) hlk
  obtain ⟨f1, f2⟩ := vx_frame hsame
  refine ⟨U, ?_, .threw T.heap.size, hrun, hend, Or.inr ⟨T.heap.size, rfl, nsE, ce, [], ⟨rfl, f1, fun q hq => f2 q hq (fun z hz => nomatch hz)⟩, hce, hcv, hcl, hW, hsame, fun z hz => by cases hz⟩⟩
  refine st1 _ ?_
  show Steps p.tables e below (T1.setTop { method := m, pc := pc + 3, locals := ls, stack := .ref T.heap.size :: [], locked := none }) _
  jvm_step X₁.here [X₁.here.top, hx, d3', Value.category]
  exact X₁.ldcString hx (own := RX11) (text := tx) (index := is) (a := sa) hown hstr.1 hstr.2
    (g := { method := m, pc := pc + 4, locals := ls, stack := .ref T.heap.size :: .ref T.heap.size :: [], locked := none }) rfl d4' _ hsteps
theorem thrSW {is sa : Nat} {tx : String} (hx : p.tables.exec = Jvm.exec) (hb : c.code = cc) (hl0 : l.stackTraces = false) (hown : s.vm.findClass RX11 = some m.cls) (hts : ∀ w ∈ gTbl, w.before args s = true) (hE : tE B h0 adT s.vm) (hstr : vk_R RX11 is tx sa s) (hH : ∀ q : Nat, q ≤ B → s.heap[q]? = h0[q]?) (hsize : ls.size = c.maxLocals) (hout : ∀ x ∈ c.exceptionTable.toList, False) (hlk : meth.locks = false)
    (d0 : decode cc pc = .ok (.new 217, 3)) (d3 : decode cc (pc + 3) = .ok (.dup, 1)) (d4 : decode cc (pc + 4) = .ok (.ldc_w is, 3)) (d6 : decode cc (pc + 7) = .ok (.invokespecial 221, 3)) (d9 : decode cc (pc + 10) = .ok (.athrow, 1)) : W p l e rmT s m args below meth c s.heap [] 0 0 (vx_MQ below NoQ TX args s 1 6 NoF) (F0 m pc ls []) := by
  intro T hT X
  have htr : e.platform.stackTraces = false := (show e.platform.stackTraces = l.stackTraces by rw [X.admits.platform]).trans hl0
  have h := thr_at hts hE hH
  obtain ⟨vm₁, cX, kX, hfX, hkX, -, -, X₁, st1⟩ := X.newCold hx (own := RX11) (C := nsE) (index := 217) (n := 6) hown (hts _ (gW (by decide +kernel))) (h _ (by simp [nsL, cAt])) (hts _ (gW (by decide +kernel))) (g := F0 m pc ls []) rfl (by rw [hb]; exact d0) (by decide) (by decide)
  generalize hT1 : (T.setVm vm₁).pushCell { cls := cX, slots := kX.instanceTypes.map defaultValue, vm := .none } = T1 at X₁ st1
  have hcat : (Value.ref T.heap.size).category = 1 := rfl
  have hcellA : T1.heap[T.heap.size]? = some (freshCell cX kX) := by rw [← hT1]; exact State.heap_pushCell_size _ _
  have d3' : decode c.code (pc + 3) = .ok (.dup, 1) := by rw [hb]; exact d3
  have d4' : decode c.code (pc + 4) = .ok (.ldc_w is, 3) := by rw [hb]; exact d4
  obtain ⟨U, hsteps, hrun, hend, hW, hsame, ce, hce, hcv, hcl⟩ := cThrow X₁ hx htr (own := RX11) (cls := nsE) (Y1 := "java/lang/RuntimeException") (names := ["java/lang/Exception"]) (ic := 221) (i1 := 13) (b1 := prog_26_method_4_code) hown (by decide +kernel) (by decide +kernel) (by decide +kernel) (by decide +kernel) (by decide +kernel) (by decide +kernel) (by decide +kernel) h hfX hkX hcellA (by rw [hT]; exact Nat.le_refl _) (msg := .ref sa) rfl
    (g := { method := m, pc := pc + 7, locals := ls, stack := .ref sa :: .ref T.heap.size :: .ref T.heap.size :: [], locked := none }) rfl hsize rfl rfl (rest := []) rfl
    (by rw [hb]; exact d6) (by rw [hb]; exact d9) (fun x hx => (hout x hx).elim) (by decide) (by show 2 * 0 + (1 + 0) + (13 * 3 + 42) ≤ 360; decide) hlk
  obtain ⟨f1, f2⟩ := vx_frame hsame
  refine ⟨U, ?_, .threw T.heap.size, hrun, hend, Or.inr ⟨T.heap.size, rfl, nsE, ce, [], ⟨rfl, f1, fun q hq => f2 q hq (fun z hz => nomatch hz)⟩, hce, hcv, hcl, hW, hsame, fun z hz => by cases hz⟩⟩
  refine st1 _ ?_
  show Steps p.tables e below (T1.setTop { method := m, pc := pc + 3, locals := ls, stack := .ref T.heap.size :: [], locked := none }) _
  jvm_step X₁.here [X₁.here.top, hx, d3', Value.category]
  exact X₁.ldcStringW hx (own := RX11) (text := tx) (index := is) (a := sa) hown hstr.1 hstr.2
    (g := { method := m, pc := pc + 4, locals := ls, stack := .ref T.heap.size :: .ref T.heap.size :: [], locked := none }) rfl d4' _ hsteps
end
