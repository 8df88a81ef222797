/-! ===== methods that only read: their contracts ===== -/
def rmQ (k : Nat) : Room := { frames := k + 1, cells := 0, slots := 0, locals := 40 * (k + 1) }
abbrev Pur (v : Option Value) : Array Value → State → Outcome → State → Prop := fun _ U o t => o = .returned v ∧ t.heap = U.heap
abbrev wsP (y : MethodName) (b : ByteArray) (n : Nat) (ret : Option FieldType) : List Cond := .code y b n ret :: gTbl
/-- the method y, called with As, where Pre holds, answers v and leaves all as it is -/
abbrev PM (l : Launch) (y : MethodName) (b : ByteArray) (n : Nat) (ret : Option FieldType) (k : Nat) (As : List Value) (Pre : State → Prop) (v : Option Value) : Prop := Met l y (wsP y b n ret) (rmQ k) (fun a U => a = As.toArray ∧ Pre U) (Pur v) 0 0 (fun _ => False)
/-- a fact on tables and heap alone -/
def PreOk (Pre : State → Prop) : Prop := ∀ (u U : State), u.vm.Alike U.vm → U.heap = u.heap → Pre u → Pre U
theorem pm_of {l : Launch} {y : MethodName} {b : ByteArray} {n k : Nat} {ret : Option FieldType} {As : List Value} {Pre : State → Prop} {v : Option Value} (hy : plainName y.cls = true) (hc : (lg_sl As).length ≤ n)
    (h : ∀ (p : Program) (e : Env) (s : State) (m : MethodId) (below : List Frame) (meth : Method) (c : Code) (ls : Array Slot), p.tables.exec = Jvm.exec → c.code = b → meth.sig.returnType = ret → c.maxLocals = n → s.vm.findClass y.cls = some m.cls → (∀ w ∈ gTbl, w.before As.toArray s = true) → meth.locks = false → lv_has ls n (lv_args 0 As) → Pre s → W p l e (rmQ k) s m As.toArray below meth c s.heap [] 0 0 (MQ below (Pur v) As.toArray s 0 0 (fun _ => False)) (F0 m 0 ls [])) : PM l y b n ret k As Pre v := by
  refine Met.ofW (cc := b) (maxL := n) (ret := ret) hy rfl ?_
  intro p e s m args below meth c s₁ B hml hv
  obtain ⟨rfl, hP⟩ := hv
  have hts := atoms_spec (ws := wsP y b n ret) B.pre
  have hl := lv_entry As (n := n) hc
  rw [lg_entry_eq]
  exact h p e s m below meth c _ B.exec B.bytes B.returns hml (findClass_of_methodNamed B.named) (fun w hw => hts w (List.mem_cons_of_mem _ hw)) B.notSynchronized hl hP
section
variable {p : Program} {l : Launch} {e : Env} {R : Room} {s : State} {m : MethodId} {args : Array Value} {below : List Frame} {meth : Method} {c : Code} {H : Heap} {locs : List Loc} {cells slots : Nat} {Q : State → Prop} {pc : Nat} {ls : Array Slot} {rest : List Value}
theorem callP {v : Option Value} {st0 : List Value} {As : Array Value} (hr : va_Run p l e R s m args below meth c H locs cells slots 0 0 (F0 m pc ls st0) rest (Pur v As) (fun _ => False)) (kk : W p l e R s m args below meth c H locs cells slots Q (F0 m (pc + 3) ls (v.toList ++ rest))) : W p l e R s m args below meth c H locs cells slots Q (F0 m pc ls st0) := by
  intro T hT X
  obtain ⟨v', st₀, t, T', L, h0, X', hL, e1, e2, ⟨g1, g2⟩, st⟩ := hr T hT X
  cases g1
  have eL : L = [] := by
    cases L with
    | nil => rfl
    | cons q L => exact (hL q List.mem_cons_self).elim
  subst eL
  rw [List.append_nil] at X'
  obtain ⟨t2, a1, b1⟩ := kk T' (by rw [e1, g2, h0]) X'
  exact ⟨t2, st t2 a1, b1⟩
theorem preOk_pre {Pre : State → Prop} {As : List Value} (hp : PreOk Pre) : FrameBlind (fun a U => a = As.toArray ∧ Pre U) := fun a U g mk q => ⟨q.1, hp U (U.calling g mk a) (Vm.Alike.refl U.vm) rfl q.2⟩
/-- a static method that only reads, called -/
theorem callPS {own : String} {index k n nL na : Nat} {y : MethodName} {b cc : ByteArray} {ret : Option FieldType} {As : List Value} {Pre : State → Prop} {v : Option Value} (hx : p.tables.exec = Jvm.exec) (hb : c.code = cc) (hml : c.maxLocals = nL) (hown : s.vm.findClass own = some m.cls) (hts : ∀ w ∈ gTbl, w.before args s = true) (hM : PM l y b n ret k As Pre v) (hok : PreOk Pre) (hcode : Cond.code y b n ret ∈ gTbl) (hini : Cond.initialized y.cls ∈ gTbl) (hlink : Cond.methodLink own index y ∈ gTbl) (hst : Cond.static y ∈ gTbl) (hd : y.cls ≠ "java/lang/invoke/MethodHandle" ∧ y.cls ≠ "java/lang/invoke/VarHandle" ∧ (parseMethodDescriptor y.desc).map (fun d => d.parameters.length) = some na) (hna : As.length = na) (hR : k + 2 ≤ R.frames ∧ 8 + (n + 11) + 40 * (k + 1) ≤ R.locals) (hpre : ∀ U : State, U.heap = H → s.WarmedH U.vm → Pre U) (hls : ls.size = nL) (hcat : (rest.map fun v => v.category).sum ≤ 8) (hdg : decode cc pc = .ok (.invokestatic index, 3)) (hf : cells ≤ R.cells ∧ slots ≤ R.slots) (kk : W p l e R s m args below meth c H locs cells slots Q (F0 m (pc + 3) ls (v.toList ++ rest))) : W p l e R s m args below meth c H locs cells slots Q (F0 m pc ls (As.reverse ++ rest)) := by
  have cb : CallB R s args own index y b n ret (wsP y b n ret) (rmQ k) 0 0 na := callB_of na hts (fun w hw => by
    rcases List.mem_cons.mp hw with rfl | hw
    · exact ⟨hcode, good_of_word (gGood _ hcode)⟩
    · exact ⟨hw, good_of_word (gGood _ hw)⟩) rfl rfl rfl (hts _ hini) (hts _ hlink) hd ⟨hR.1, hR.2⟩
  exact callP (va_runS (As := As) (rest := rest) ⟨hx, hb, hml, hown, hts⟩ hM ⟨cb, hts _ hst⟩ ⟨preOk_pre hok, fun U h1 h2 => ⟨rfl, hpre U h1 h2⟩⟩ rfl hna hls rfl (by show 2 * 0 + _ ≤ 8; omega) hdg hf) kk
/-- a method of an object that only reads, called -/
theorem callPV {own : String} {index k n nL na a : Nat} {y : MethodName} {b cc : ByteArray} {ret : Option FieldType} {As : List Value} {Pre : State → Prop} {v : Option Value} (hx : p.tables.exec = Jvm.exec) (hb : c.code = cc) (hml : c.maxLocals = nL) (hown : s.vm.findClass own = some m.cls) (hts : ∀ w ∈ gTbl, w.before args s = true) (hM : PM l y b n ret k (.ref a :: As) Pre v) (hok : PreOk Pre) (hcode : Cond.code y b n ret ∈ gTbl) (hini : Cond.initialized y.cls ∈ gTbl) (hlink : Cond.methodLink own index y ∈ gTbl) (hin : Cond.instanceMethod y ∈ gTbl) (hse : Cond.selects y.cls y y ∈ gTbl) (hd : y.cls ≠ "java/lang/invoke/MethodHandle" ∧ y.cls ≠ "java/lang/invoke/VarHandle" ∧ (parseMethodDescriptor y.desc).map (fun d => d.parameters.length) = some na) (hna : As.length = na) (hR : k + 2 ≤ R.frames ∧ 8 + (n + 11) + 40 * (k + 1) ≤ R.locals) (hcell : ∃ cell : Cell, H[a]? = some cell ∧ cell.vm.isStatics = false ∧ s.vm.findClass y.cls = some cell.cls) (hpre : ∀ U : State, U.heap = H → s.WarmedH U.vm → Pre U) (hls : ls.size = nL) (hcat : (rest.map fun v => v.category).sum ≤ 8) (hdg : decode cc pc = .ok (.invokevirtual index, 3)) (hf : cells ≤ R.cells ∧ slots ≤ R.slots) (kk : W p l e R s m args below meth c H locs cells slots Q (F0 m (pc + 3) ls (v.toList ++ rest))) : W p l e R s m args below meth c H locs cells slots Q (F0 m pc ls (As.reverse ++ .ref a :: rest)) := by
  have cb : CallB R s args own index y b n ret (wsP y b n ret) (rmQ k) 0 0 na := callB_of na hts (fun w hw => by
    rcases List.mem_cons.mp hw with rfl | hw
    · exact ⟨hcode, good_of_word (gGood _ hcode)⟩
    · exact ⟨hw, good_of_word (gGood _ hw)⟩) rfl rfl rfl (hts _ hini) (hts _ hlink) hd ⟨hR.1, hR.2⟩
  exact callP (va_runV (C := y.cls) (b := a) (As := As) (rest := rest) ⟨hx, hb, hml, hown, hts⟩ hM ⟨cb, hts _ hin, hts _ hse⟩ ⟨preOk_pre hok, hcell, fun U h1 h2 => ⟨rfl, hpre U h1 h2⟩⟩ rfl hna hls rfl (by show 2 * 0 + _ ≤ 8; omega) hdg hf) kk
theorem pm_iret {v : Int32} {b : ByteArray} (hx : p.tables.exec = Jvm.exec) (hb : c.code = b) (hr : meth.sig.returnType = some .int) (hlk : meth.locks = false) (hdg : decode b pc = .ok (.ireturn, 1)) : W p l e R s m args below meth c s.heap [] 0 0 (MQ below (Pur (some (.int v))) args s 0 0 (fun _ => False)) (F0 m pc ls [.int v]) := W.iret hx hb hr (fun t ht _ => ⟨rfl, ht⟩) (fun q hq => by cases hq) hdg hlk
theorem pm_zret {v : Int32} {b : ByteArray} {ty : FieldType} (hx : p.tables.exec = Jvm.exec) (hb : c.code = b) (hr : meth.sig.returnType = some ty) (hn : narrow ty (.int v) = .int v) (hlk : meth.locks = false) (hdg : decode b pc = .ok (.ireturn, 1)) : W p l e R s m args below meth c s.heap [] 0 0 (MQ below (Pur (some (.int v))) args s 0 0 (fun _ => False)) (F0 m pc ls [.int v]) := W.zret hx hb hr hn (fun t ht _ => ⟨rfl, ht⟩) (fun q hq => by cases hq) hdg hlk
theorem pm_vret {b : ByteArray} (hx : p.tables.exec = Jvm.exec) (hb : c.code = b) (hr : meth.sig.returnType = none) (hlk : meth.locks = false) (hdg : decode b pc = .ok (.return_, 1)) : W p l e R s m args below meth c s.heap [] 0 0 (MQ below (Pur none) args s 0 0 (fun _ => False)) (F0 m pc ls []) := W.vret hx hb hr (fun t ht _ => ⟨rfl, ht⟩) (fun q hq => by cases hq) hdg hlk
end
