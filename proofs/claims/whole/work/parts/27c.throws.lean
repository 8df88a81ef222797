/-! ===== owed, bears, clears, look where they throw ===== -/
section
variable {p : Program} {l : Launch} {e : Env} {s : State} {m : MethodId} {args : Array Value} {below : List Frame} {meth : Method} {c : Code} {pc : Nat} {ls : Array Slot} {cc : ByteArray} {Q : State → Prop} {G : aCX} {K : Nat → aKd} {D : Nat → Int → Int} {z : Nat × Nat} {nL : Nat}
theorem hPre_on {st : aSt} (h : hPre G st s) : ∀ U : State, U.heap = s.heap → s.WarmedH U.vm → hPre G st U := fun U e1 e2 => ⟨by rw [e1]; exact h.1, va_K.moved e2.alike h.2⟩
theorem tHouse {h : Int} {T : Nat} (hx : p.tables.exec = Jvm.exec) (hb : c.code = cc) (hml : c.maxLocals = nL) (hown : s.vm.findClass RX11 = some m.cls) (hts : ∀ w ∈ gTbl, w.before args s = true) (hP : hPre G (K, D, z) s) (hk : Kn K) (hT : isT T) (ht : D 1 6 = (T : Nat)) (hC : aCan (K, D, z)) (hh : i32 h) (hls : ls.size = nL) (hd : decode cc pc = .ok (.invokevirtual 167, 3)) (kk : W p l e rmT s m args below meth c s.heap [] 0 0 Q (F0 m (pc + 3) ls [.int (Int32.ofInt (if 0 ≤ h ∧ h < D T 0 then 1 else 0))])) : W p l e rmT s m args below meth c s.heap [] 0 0 Q (F0 m pc ls [.int (Int32.ofInt h), .ref (aAd G 1)]) := by
  have hr : (K 1).1 = 11 := by rw [hk 1 rfl]; rfl
  obtain ⟨cell, c1, c2, c3⟩ := rec_at (r := 1) hP.2 hP.1 hC (by show (K 1).1 < 13; rw [hr]; decide)
  have c3 : s.vm.findClass (aCl (K 1).1) = some cell.cls := c3
  rw [hr] at c3
  exact callPV (na := 1) (As := [.int (Int32.ofInt h)]) (rest := []) hx hb hml hown hts (p_isHouse l hk hT ht hC hh) hPre_ok (gW (by decide +kernel)) (gW (by decide +kernel)) (gW (by decide +kernel)) (gW (by decide +kernel)) (gW (by decide +kernel)) ⟨by decide +kernel, by decide +kernel, by decide +kernel⟩ rfl ⟨by decide, by decide⟩ ⟨cell, c1, c2, c3⟩ (hPre_on hP) hls (by decide) hd ⟨by decide, by decide⟩ kk
theorem tLoss {h : Int} (hx : p.tables.exec = Jvm.exec) (hb : c.code = cc) (hml : c.maxLocals = nL) (hown : s.vm.findClass RX11 = some m.cls) (hts : ∀ w ∈ gTbl, w.before args s = true) (hP : hPre G (K, D, z) s) (hk : Kn K) (hC : aCan (K, D, z)) (hh : i32 h) (hls : ls.size = nL) (hd : decode cc pc = .ok (.invokevirtual 121, 3)) (kk : W p l e rmT s m args below meth c s.heap [] 0 0 Q (F0 m (pc + 3) ls [.int (Int32.ofInt (if 0 ≤ h ∧ h < D 89 0 then 1 else 0))])) : W p l e rmT s m args below meth c s.heap [] 0 0 Q (F0 m pc ls [.int (Int32.ofInt h), .ref (aAd G 1)]) := by
  have hr : (K 1).1 = 11 := by rw [hk 1 rfl]; rfl
  obtain ⟨cell, c1, c2, c3⟩ := rec_at (r := 1) hP.2 hP.1 hC (by show (K 1).1 < 13; rw [hr]; decide)
  have c3 : s.vm.findClass (aCl (K 1).1) = some cell.cls := c3
  rw [hr] at c3
  exact callPV (na := 1) (As := [.int (Int32.ofInt h)]) (rest := []) hx hb hml hown hts (p_isLoss l hk hC hh) hPre_ok (gW (by decide +kernel)) (gW (by decide +kernel)) (gW (by decide +kernel)) (gW (by decide +kernel)) (gW (by decide +kernel)) ⟨by decide +kernel, by decide +kernel, by decide +kernel⟩ rfl ⟨by decide, by decide⟩ ⟨cell, c1, c2, c3⟩ (hPre_on hP) hls (by decide) hd ⟨by decide, by decide⟩ kk
theorem tWithin {x y : Int} (hx : p.tables.exec = Jvm.exec) (hb : c.code = cc) (hml : c.maxLocals = nL) (hown : s.vm.findClass RX11 = some m.cls) (hts : ∀ w ∈ gTbl, w.before args s = true) (hP : hPre G (K, D, z) s) (hx0 : i32 x) (hy0 : i32 y) (hls : ls.size = nL) (hd : decode cc pc = .ok (.invokestatic 81, 3)) (kk : W p l e rmT s m args below meth c s.heap [] 0 0 Q (F0 m (pc + 3) ls [.int (Int32.ofInt (if 0 ≤ x ∧ x ≤ y then 1 else 0))])) : W p l e rmT s m args below meth c s.heap [] 0 0 Q (F0 m pc ls [.int (Int32.ofInt y), .int (Int32.ofInt x)]) :=
  callPS (na := 2) (As := [.int (Int32.ofInt x), .int (Int32.ofInt y)]) (rest := []) hx hb hml hown hts (p_isWithin l hx0 hy0) hPre_ok (gW (by decide +kernel)) (gW (by decide +kernel)) (gW (by decide +kernel)) (gW (by decide +kernel)) ⟨by decide +kernel, by decide +kernel, by decide +kernel⟩ rfl ⟨by decide, by decide⟩ (hPre_on hP) hls (by decide) hd ⟨by decide, by decide⟩ kk
end
section
variable {G : aCX} {K : Nat → aKd} {D : Nat → Int → Int} {z : Nat × Nat} {adT : Nat → Nat}
theorem t_owed (l : Launch) (hl0 : l.stackTraces = false) {a b : Int} {T : Nat} (hk : Kn K) (hT : isT T) (ht : D 1 6 = (T : Nat)) (hC : aCan (K, D, z)) (ha : i32 a) (hb0 : i32 b) (h : ¬ ((0 ≤ a ∧ a < D T 0) ∧ (0 ≤ b ∧ b < D T 0) ∧ a ≠ b)) : TM l yX11_owed prog_1_method_17_code 3 [.ref (aAd G 1), .int (Int32.ofInt a), .int (Int32.ofInt b)] (tPre G (K, D, z) adT) := by
  refine tm_of (by decide +kernel) (Nat.le_of_ble_eq_true rfl) ?_
  intro p e s m below meth c ls hx hb hml hown hts hlk hex hl hP
  obtain ⟨hP, hE⟩ := hP
  have fin : W p l e rmT s m ([.ref (aAd G 1), .int (Int32.ofInt a), .int (Int32.ofInt b)] : List Value).toArray below meth c s.heap [] 0 0 (vx_MQ below NoQ TX ([.ref (aAd G 1), .int (Int32.ofInt a), .int (Int32.ofInt b)] : List Value).toArray s 1 6 NoF) (F0 m 21 ls []) := thrS hx hb hl0 hown hts hE (hE s rfl).1.1.1 hP.1.2.2.1 (hl.1.trans hml.symm) hex hlk (by decide +kernel) (by decide +kernel) (by decide +kernel) (by decide +kernel) (by decide +kernel)
  refine lv_aload_n hx hb (by decide +kernel : decode prog_1_method_17_code 0 = .ok (.aload_n 0, 1)) rfl (lv_at hl 0 rfl) ?_
  refine lv_iload_n hx hb (by decide +kernel : decode prog_1_method_17_code 1 = .ok (.iload_n 1, 1)) rfl (lv_at hl 1 rfl) ?_
  refine tHouse hx hb hml hown hts hP hk hT ht hC ha hl.1 (by decide +kernel) ?_
  by_cases q1 : 0 ≤ a ∧ a < D T 0
  · rw [if_pos q1]
    refine lv_if_eq (tgt := 21) hx hb (by decide +kernel : decode prog_1_method_17_code 5 = .ok (.ifCond .eq 16, 3)) (by decide) (fun q => absurd q (by decide)) (fun _ => ?_)
    refine lv_aload_n hx hb (by decide +kernel : decode prog_1_method_17_code 8 = .ok (.aload_n 0, 1)) rfl (lv_at hl 0 rfl) ?_
    refine lv_iload_n hx hb (by decide +kernel : decode prog_1_method_17_code 9 = .ok (.iload_n 2, 1)) rfl (lv_at hl 2 rfl) ?_
    refine tHouse hx hb hml hown hts hP hk hT ht hC hb0 hl.1 (by decide +kernel) ?_
    by_cases q2 : 0 ≤ b ∧ b < D T 0
    · rw [if_pos q2]
      refine lv_if_eq (tgt := 21) hx hb (by decide +kernel : decode prog_1_method_17_code 13 = .ok (.ifCond .eq 8, 3)) (by decide) (fun q => absurd q (by decide)) (fun _ => ?_)
      refine lv_iload_n hx hb (by decide +kernel : decode prog_1_method_17_code 16 = .ok (.iload_n 1, 1)) rfl (lv_at hl 1 rfl) ?_
      refine lv_iload_n hx hb (by decide +kernel : decode prog_1_method_17_code 17 = .ok (.iload_n 2, 1)) rfl (lv_at hl 2 rfl) ?_
      exact lv_icmp_ne (tgt := 31) hx hb (by decide +kernel : decode prog_1_method_17_code 18 = .ok (.if_icmp .ne 13, 3)) (by decide) (fun q => absurd ⟨q1, q2, fun ee => q (by rw [ee])⟩ h) (fun _ => fin)
    · rw [if_neg q2]
      exact lv_if_eq (tgt := 21) hx hb (by decide +kernel : decode prog_1_method_17_code 13 = .ok (.ifCond .eq 8, 3)) (by decide) (fun _ => fin) (fun q => absurd rfl q)
  · rw [if_neg q1]
    exact lv_if_eq (tgt := 21) hx hb (by decide +kernel : decode prog_1_method_17_code 5 = .ok (.ifCond .eq 16, 3)) (by decide) (fun _ => fin) (fun q => absurd rfl q)
theorem t_bears (l : Launch) (hl0 : l.stackTraces = false) {a : Int} {T : Nat} (hk : Kn K) (hT : isT T) (ht : D 1 6 = (T : Nat)) (hC : aCan (K, D, z)) (ha : i32 a) (h : ¬ (0 ≤ a ∧ a < D T 0)) : TM l yX11_bears prog_1_method_18_code 2 [.ref (aAd G 1), .int (Int32.ofInt a)] (tPre G (K, D, z) adT) := by
  refine tm_of (by decide +kernel) (Nat.le_of_ble_eq_true rfl) ?_
  intro p e s m below meth c ls hx hb hml hown hts hlk hex hl hP
  obtain ⟨hP, hE⟩ := hP
  refine lv_aload_n hx hb (by decide +kernel : decode prog_1_method_18_code 0 = .ok (.aload_n 0, 1)) rfl (lv_at hl 0 rfl) ?_
  refine lv_iload_n hx hb (by decide +kernel : decode prog_1_method_18_code 1 = .ok (.iload_n 1, 1)) rfl (lv_at hl 1 rfl) ?_
  refine tHouse hx hb hml hown hts hP hk hT ht hC ha hl.1 (by decide +kernel) ?_
  rw [if_neg h]
  refine lv_if_ne (tgt := 18) hx hb (by decide +kernel : decode prog_1_method_18_code 5 = .ok (.ifCond .ne 13, 3)) (by decide) (fun q => absurd rfl q) (fun _ => ?_)
  exact thrS hx hb hl0 hown hts hE (hE s rfl).1.1.2.1 hP.1.2.2.1 (hl.1.trans hml.symm) hex hlk (by decide +kernel) (by decide +kernel) (by decide +kernel) (by decide +kernel) (by decide +kernel)
theorem t_clears (l : Launch) (hl0 : l.stackTraces = false) {a b : Int} {T : Nat} (hk : Kn K) (hT : isT T) (ht : D 1 6 = (T : Nat)) (hC : aCan (K, D, z)) (ha : i32 a) (hb0 : i32 b) (h : ¬ ((0 ≤ a ∧ a < D T 0) ∧ 0 ≤ b ∧ b ≤ 4)) : TM l yX11_clears prog_1_method_22_code 3 [.ref (aAd G 1), .int (Int32.ofInt a), .int (Int32.ofInt b)] (tPre G (K, D, z) adT) := by
  refine tm_of (by decide +kernel) (Nat.le_of_ble_eq_true rfl) ?_
  intro p e s m below meth c ls hx hb hml hown hts hlk hex hl hP
  obtain ⟨hP, hE⟩ := hP
  have fin : W p l e rmT s m ([.ref (aAd G 1), .int (Int32.ofInt a), .int (Int32.ofInt b)] : List Value).toArray below meth c s.heap [] 0 0 (vx_MQ below NoQ TX ([.ref (aAd G 1), .int (Int32.ofInt a), .int (Int32.ofInt b)] : List Value).toArray s 1 6 NoF) (F0 m 16 ls []) := thrSW hx hb hl0 hown hts hE (hE s rfl).1.1.2.2.1 hP.1.2.2.1 (hl.1.trans hml.symm) hex hlk (by decide +kernel) (by decide +kernel) (by decide +kernel) (by decide +kernel) (by decide +kernel)
  refine lv_aload_n hx hb (by decide +kernel : decode prog_1_method_22_code 0 = .ok (.aload_n 0, 1)) rfl (lv_at hl 0 rfl) ?_
  refine lv_iload_n hx hb (by decide +kernel : decode prog_1_method_22_code 1 = .ok (.iload_n 1, 1)) rfl (lv_at hl 1 rfl) ?_
  refine tHouse hx hb hml hown hts hP hk hT ht hC ha hl.1 (by decide +kernel) ?_
  by_cases q1 : 0 ≤ a ∧ a < D T 0
  · rw [if_pos q1]
    refine lv_if_eq (tgt := 16) hx hb (by decide +kernel : decode prog_1_method_22_code 5 = .ok (.ifCond .eq 11, 3)) (by decide) (fun q => absurd q (by decide)) (fun _ => ?_)
    refine lv_iload_n hx hb (by decide +kernel : decode prog_1_method_22_code 8 = .ok (.iload_n 2, 1)) rfl (lv_at hl 2 rfl) ?_
    refine lv_iconst hx hb (by decide +kernel : decode prog_1_method_22_code 9 = .ok (.iconst 4, 1)) rfl ?_
    refine tWithin (y := 4) hx hb hml hown hts hP hb0 ⟨by decide, by decide⟩ hl.1 (by decide +kernel) ?_
    rw [if_neg (fun q => h ⟨q1, q⟩)]
    exact lv_if_ne (tgt := 27) hx hb (by decide +kernel : decode prog_1_method_22_code 13 = .ok (.ifCond .ne 14, 3)) (by decide) (fun q => absurd rfl q) (fun _ => fin)
  · rw [if_neg q1]
    exact lv_if_eq (tgt := 16) hx hb (by decide +kernel : decode prog_1_method_22_code 5 = .ok (.ifCond .eq 11, 3)) (by decide) (fun _ => fin) (fun q => absurd rfl q)
theorem t_look (l : Launch) (hl0 : l.stackTraces = false) {a b : Int} (hk : Kn K) (hC : aCan (K, D, z)) (ha : i32 a) (hb0 : i32 b) (h : ¬ ((0 ≤ a ∧ a < D 89 0) ∧ 0 ≤ b ∧ b ≤ 6)) : TM l yX11_look prog_1_method_26_code 3 [.ref (aAd G 1), .int (Int32.ofInt a), .int (Int32.ofInt b)] (tPre G (K, D, z) adT) := by
  refine tm_of (by decide +kernel) (Nat.le_of_ble_eq_true rfl) ?_
  intro p e s m below meth c ls hx hb hml hown hts hlk hex hl hP
  obtain ⟨hP, hE⟩ := hP
  have fin : W p l e rmT s m ([.ref (aAd G 1), .int (Int32.ofInt a), .int (Int32.ofInt b)] : List Value).toArray below meth c s.heap [] 0 0 (vx_MQ below NoQ TX ([.ref (aAd G 1), .int (Int32.ofInt a), .int (Int32.ofInt b)] : List Value).toArray s 1 6 NoF) (F0 m 17 ls []) := thrSW hx hb hl0 hown hts hE (hE s rfl).1.1.2.2.2 hP.1.2.2.1 (hl.1.trans hml.symm) hex hlk (by decide +kernel) (by decide +kernel) (by decide +kernel) (by decide +kernel) (by decide +kernel)
  refine lv_aload_n hx hb (by decide +kernel : decode prog_1_method_26_code 0 = .ok (.aload_n 0, 1)) rfl (lv_at hl 0 rfl) ?_
  refine lv_iload_n hx hb (by decide +kernel : decode prog_1_method_26_code 1 = .ok (.iload_n 1, 1)) rfl (lv_at hl 1 rfl) ?_
  refine tLoss hx hb hml hown hts hP hk hC ha hl.1 (by decide +kernel) ?_
  by_cases q1 : 0 ≤ a ∧ a < D 89 0
  · rw [if_pos q1]
    refine lv_if_eq (tgt := 17) hx hb (by decide +kernel : decode prog_1_method_26_code 5 = .ok (.ifCond .eq 12, 3)) (by decide) (fun q => absurd q (by decide)) (fun _ => ?_)
    refine lv_iload_n hx hb (by decide +kernel : decode prog_1_method_26_code 8 = .ok (.iload_n 2, 1)) rfl (lv_at hl 2 rfl) ?_
    refine lv_bipush hx hb (by decide +kernel : decode prog_1_method_26_code 9 = .ok (.bipush 6, 2)) rfl ?_
    refine tWithin (y := 6) hx hb hml hown hts hP hb0 ⟨by decide, by decide⟩ hl.1 (by decide +kernel) ?_
    rw [if_neg (fun q => h ⟨q1, q⟩)]
    exact lv_if_ne (tgt := 28) hx hb (by decide +kernel : decode prog_1_method_26_code 14 = .ok (.ifCond .ne 14, 3)) (by decide) (fun q => absurd rfl q) (fun _ => fin)
  · rw [if_neg q1]
    exact lv_if_eq (tgt := 17) hx hb (by decide +kernel : decode prog_1_method_26_code 5 = .ok (.ifCond .eq 12, 3)) (by decide) (fun _ => fin) (fun q => absurd rfl q)
end
