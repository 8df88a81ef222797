/-! ===== the law: its script ===== -/
theorem ix_nat {n : Nat} (h : n < 4000) : (Int32.ofNat n).toNatClampNeg = n := by
  have e : (Int32.ofNat n).toInt = n := Int32.toInt_ofNat_of_lt (by omega)
  unfold Int32.toNatClampNeg
  rw [e]
  rfl
theorem ix_in {n L : Nat} (h : n < 4000) (hL : n < L) : vp_in (Int32.ofNat n) L := by
  have e : (Int32.ofNat n).toInt = n := Int32.toInt_ofNat_of_lt (by omega)
  intro q
  rcases q with q | q
  · rw [Int32.lt_iff_toInt_lt, e] at q
    have : (0 : Int32).toInt = 0 := rfl
    omega
  · rw [ix_nat h] at q
    omega
section
variable {p : Program} {l : Launch} {e : Env} {R : Room} {s : State} {m : MethodId} {args : Array Value} {below : List Frame} {meth : Method} {c : Code} {H : Heap} {locs : List Loc} {cells slots : Nat} {Q : State → Prop} {pc : Nat} {ls : Array Slot} {rest : List Value} {b Ls : Nat} {xs : Nat → Int32} {iN : Nat}
/-- the values of the locals that the law's loop keeps: the script, the class, the reference, out, the place -/
def lwL (ls : Array Slot) (b x r o iN : Nat) : Prop := ls.size = 7 ∧ ls[0]? = some (.val (.ref b)) ∧ ls[1]? = some (.val (.ref x)) ∧ ls[2]? = some (.val (.ref r)) ∧ ls[3]? = some (.val (.ref o)) ∧ ls[4]? = some (.val (.int (Int32.ofNat iN)))
/-- the script lies as it did -/
def lwS (b Ls : Nat) (xs : Nat → Int32) (s : State) (H : Heap) (locs : List Loc) : Prop := va_X b Ls xs s s.heap ∧ b < s.heap.size ∧ Ls ≤ 3584 ∧ va_S (fun q => s.heap.size ≤ q) s.heap H locs
/-- script[i + k] -/
theorem ldS {k : Nat} (hx : p.tables.exec = Jvm.exec) (hb : c.code = code) (hs : lwS b Ls xs s H locs) (l0 : ls[0]? = some (.val (.ref b))) (l4 : ls[4]? = some (.val (.int (Int32.ofNat iN)))) (hk : k ≤ 5) (hi : iN + k < Ls)
    (d0 : decode code pc = .ok (.aload_n 0, 1)) (d1 : decode code (pc + 1) = .ok (.iload 4, 2)) (d3 : decode code (pc + 1 + 2) = .ok (.iconst (k : Int), 1)) (d4 : decode code (pc + 1 + 2 + 1) = .ok (.iadd, 1)) (d5 : decode code (pc + 1 + 2 + 1 + 1) = .ok (.iaload, 1))
    (kk : W p l e R s m args below meth c H locs cells slots Q (F0 m (pc + 6) ls (.int (xs (iN + k)) :: rest))) : W p l e R s m args below meth c H locs cells slots Q (F0 m pc ls rest) := by
  obtain ⟨hX, hbl, hL, hS⟩ := hs
  refine lv_aload_n hx hb d0 rfl l0 ?_
  refine lv_iload hx hb d1 l4 ?_
  refine lv_iconst (v := Int32.ofNat k) hx hb d3 rfl ?_
  refine lv_iadd hx hb d4 ?_
  rw [← Int32.ofNat_add]
  refine va_sld hx hb hX hbl (fun q => by omega) hS (ix_in (by omega) hi) d5 ?_
  rw [ix_nat (by omega)]
  exact kk
theorem ldS6 (hx : p.tables.exec = Jvm.exec) (hb : c.code = code) (hs : lwS b Ls xs s H locs) (l0 : ls[0]? = some (.val (.ref b))) (l4 : ls[4]? = some (.val (.int (Int32.ofNat iN)))) (hi : iN + 6 < Ls)
    (d0 : decode code pc = .ok (.aload_n 0, 1)) (d1 : decode code (pc + 1) = .ok (.iload 4, 2)) (d3 : decode code (pc + 1 + 2) = .ok (.bipush 6, 2)) (d4 : decode code (pc + 1 + 2 + 2) = .ok (.iadd, 1)) (d5 : decode code (pc + 1 + 2 + 2 + 1) = .ok (.iaload, 1))
    (kk : W p l e R s m args below meth c H locs cells slots Q (F0 m (pc + 7) ls (.int (xs (iN + 6)) :: rest))) : W p l e R s m args below meth c H locs cells slots Q (F0 m pc ls rest) := by
  obtain ⟨hX, hbl, hL, hS⟩ := hs
  refine lv_aload_n hx hb d0 rfl l0 ?_
  refine lv_iload hx hb d1 l4 ?_
  refine lv_bipush (v := Int32.ofNat 6) hx hb d3 rfl ?_
  refine lv_iadd hx hb d4 ?_
  rw [← Int32.ofNat_add]
  refine va_sld hx hb hX hbl (fun q => by omega) hS (ix_in (by omega) hi) d5 ?_
  rw [ix_nat (by omega)]
  exact kk
end
