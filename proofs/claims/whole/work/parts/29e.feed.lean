/-! ===== the law: split, leave, feed ===== -/
theorem aV_l {G : aCX} {v : Int64} : aV G (1, v.toInt) = .long v := by
  show Value.long (Int64.ofInt v.toInt) = _
  rw [Int64.ofInt_toInt]
theorem i64_v (v : Int64) : i64 v.toInt := ⟨Int64.le_toInt v, by have := Int64.toInt_lt v; omega⟩

/-- two ints make a long -/
def lwF (a b : Int32) : Int64 := (a.toInt64 <<< ((32 : Int32).toInt64 &&& 63)) ||| (b.toInt64 &&& 4294967295)
section
variable {l : Launch} {p : Program} {e : Env} {R : Room} {s : State} {m : MethodId} {args : Array Value} {below : List Frame} {meth : Method} {c : Code} {Q : State → Prop} {H : Heap} {locs : List Loc} {cells slots : Nat} {ls : Array Slot} {pc : Nat} {rest : List Value}
theorem lwB_i {v : Int32} : i32 (if v = 0 then 0 else 1) := by
  split
  · exact ⟨by decide, by decide⟩
  · exact ⟨by decide, by decide⟩
theorem lwB {v : Int32} (hx : p.tables.exec = Jvm.exec) (hb : c.code = code) (d0 : decode code pc = .ok (.ifCond .eq 7, 3)) (d1 : decode code (pc + 3) = .ok (.iconst 1, 1)) (d2 : decode code (pc + 3 + 1) = .ok (.goto 4, 3)) (d3 : decode code (pc + 7) = .ok (.iconst 0, 1)) (kk : W p l e R s m args below meth c H locs cells slots Q (F0 m (pc + 8) ls (.int (Int32.ofInt (if v = 0 then 0 else 1)) :: rest))) : W p l e R s m args below meth c H locs cells slots Q (F0 m pc ls (.int v :: rest)) := by
  refine lv_if_eq (tgt := pc + 7) hx hb d0 (by omega) (fun q => ?_) (fun q => ?_)
  · refine lv_iconst hx hb d3 rfl ?_
    rw [if_pos q] at kk
    exact kk
  · refine lv_iconst hx hb d1 rfl ?_
    refine lv_goto (tgt := pc + 8) hx hb d2 (by omega) ?_
    rw [if_neg q] at kk
    exact kk
theorem lwP1 {v : Int32} (hx : p.tables.exec = Jvm.exec) (hb : c.code = code) (d0 : decode code pc = .ok (.i2l, 1)) (d1 : decode code (pc + 1) = .ok (.bipush 32, 2)) (d2 : decode code (pc + 1 + 2) = .ok (.lshl, 1)) (kk : W p l e R s m args below meth c H locs cells slots Q (F0 m (pc + 4) ls (.long (v.toInt64 <<< ((32 : Int32).toInt64 &&& 63)) :: rest))) : W p l e R s m args below meth c H locs cells slots Q (F0 m pc ls (.int v :: rest)) := by
  refine lv_i2l hx hb d0 rfl ?_
  refine lv_bipush (v := 32) hx hb d1 rfl ?_
  exact lv_lshl hx hb d2 rfl kk
theorem lwP2 {a v : Int32} (hx : p.tables.exec = Jvm.exec) (hb : c.code = code) (hown : s.vm.findClass RL = some m.cls) (hc : (Jvm.Cond.constantLong RL 38 4294967295).before args s = true) (d0 : decode code pc = .ok (.i2l, 1)) (d1 : decode code (pc + 1) = .ok (.ldc2_w 38, 3)) (d2 : decode code (pc + 1 + 3) = .ok (.land, 1)) (d3 : decode code (pc + 1 + 3 + 1) = .ok (.lor, 1)) (kk : W p l e R s m args below meth c H locs cells slots Q (F0 m (pc + 6) ls (.long (lwF a v) :: rest))) : W p l e R s m args below meth c H locs cells slots Q (F0 m pc ls (.int v :: .long (a.toInt64 <<< ((32 : Int32).toInt64 &&& 63)) :: rest)) := by
  refine lv_i2l hx hb d0 rfl ?_
  refine lv_ldc2 (v := 4294967295) hx hb hown hc d1 ?_
  refine lv_land hx hb d2 ?_
  exact lv_lor hx hb d3 kk
end
section
variable {G : aCX} {l : Launch} {p : Program} {e : Env} {R : Room} {s : State} {m : MethodId} {args : Array Value} {below : List Frame} {meth : Method} {c : Code} {Q : State → Prop} {st : aSt} {H : Heap} {locs : List Loc} {ls : Array Slot} {b Ls iN s0 : Nat} {xs : Nat → Int32}
theorem lw_split (hX : aCtx G 32 mL_law p R s m args meth c) (hv : va_X b Ls xs s s.heap ∧ b < s.heap.size ∧ Ls ≤ 3584 ∧ G.1.1 + 1 = s.heap.size ∧ G.2.2.2.1 = s.heap) (hl : lwL ls b (aAd G 1) (aAd G 210) (aAd G 278) iN) (hi : iN + 6 < Ls) (hE : lwE G l p e R s m args below meth c Q s0 ls) (hG : GIv s0 st) (hC : aCan st) (hH : aHold G st H) (hlo : ∀ q ∈ locs, G.1.1 < q.base)
    (hg : VM G l 31 iX11_split [rf 1, (0, (xs (iN + 1)).toInt), (0, (if xs (iN + 2) = 0 then 0 else 1))] st (fun w st1 => Kn st1.1 ∧ VM G l 31 iX12_split [rf 210, (0, (xs (iN + 1)).toInt), (0, (if xs (iN + 2) = 0 then 0 else 1))] st1 (fun w' st2 => w' = w ∧ GIv s0 st2))) : W p l e R s m args below meth c H locs 3000 200000 Q (F0 m 494 ls []) := by
  obtain ⟨v1, v2, v3, v4, v5⟩ := hv
  obtain ⟨l7, l0, l1, l2, l3, l4⟩ := hl
  have hx := hX.1
  have hb := hX.2.1
  refine lv_aload_n hx hb (by decide +kernel : decode code 494 = .ok (.aload_n 1, 1)) rfl l1 ?_
  refine ldS (k := 1) hx hb (lwS_of v1 v2 v3 v4 v5 hC hH hlo) l0 l4 (by decide) (by omega) (by decide +kernel) (by decide +kernel) (by decide +kernel) (by decide +kernel) (by decide +kernel) ?_
  refine ldS (k := 2) hx hb (lwS_of v1 v2 v3 v4 v5 hC hH hlo) l0 l4 (by decide) (by omega) (by decide +kernel) (by decide +kernel) (by decide +kernel) (by decide +kernel) (by decide +kernel) ?_
  refine lwB hx hb (by decide +kernel) (by decide +kernel) (by decide +kernel) (by decide +kernel) ?_
  rw [← aV_i (G := G) (v := xs (iN + 1))]
  refine lwCall (y := iX11_split) (r := 1) (x := 60) (A := [(0, (xs (iN + 1)).toInt), (0, (if xs (iN + 2) = 0 then 0 else 1))]) (rest := []) hX (by decide +kernel) rfl ((GIv_k1 hG).1.trans (by decide +kernel)) (by decide +kernel) hg (aOkCo (aOk_i (i32_v _)) (aOkCo (aOk_i lwB_i) (fun v hv => by cases hv))) hC hH hlo l7 (by decide) (gW (by decide +kernel)) (by decide +kernel) (fun w st1 H1 locs1 hM hw hC1 hH1 hlo1 => ?_)
  obtain ⟨hK1, hM⟩ := hM
  obtain ⟨ew, iw⟩ := rv_ok (G := G) (by decide +kernel) hw
  rw [ew]
  refine lv_aload_n hx hb (by decide +kernel : decode code 518 = .ok (.aload_n 2, 1)) rfl l2 ?_
  refine ldS (k := 1) hx hb (lwS_of v1 v2 v3 v4 v5 hC1 hH1 hlo1) l0 l4 (by decide) (by omega) (by decide +kernel) (by decide +kernel) (by decide +kernel) (by decide +kernel) (by decide +kernel) ?_
  refine ldS (k := 2) hx hb (lwS_of v1 v2 v3 v4 v5 hC1 hH1 hlo1) l0 l4 (by decide) (by omega) (by decide +kernel) (by decide +kernel) (by decide +kernel) (by decide +kernel) (by decide +kernel) ?_
  refine lwB hx hb (by decide +kernel) (by decide +kernel) (by decide +kernel) (by decide +kernel) ?_
  rw [← aV_i (G := G) (v := xs (iN + 1))]
  refine lwCall (y := iX12_split) (r := 210) (x := 64) (A := [(0, (xs (iN + 1)).toInt), (0, (if xs (iN + 2) = 0 then 0 else 1))]) (rest := [.int (Int32.ofInt w)]) hX (by decide +kernel) rfl (by rw [hK1 210 rfl]; decide +kernel) (by decide +kernel) hM (aOkCo (aOk_i (i32_v _)) (aOkCo (aOk_i lwB_i) (fun v hv => by cases hv))) hC1 hH1 hlo1 l7 (by show 1 + 0 ≤ 8; decide) (gW (by decide +kernel)) (by decide +kernel) (fun w2 st2 H2 locs2 hM2 hw2 hC2 hH2 hlo2 => ?_)
  obtain ⟨ew2, iw2⟩ := rv_ok (G := G) (by decide +kernel) hw2
  rw [ew2]
  obtain ⟨rfl, hG2⟩ := hM2
  exact lv_icmp_eq (tgt := 1342) hx hb (by decide +kernel : decode code 542 = .ok (.if_icmp .eq 800, 3)) (by decide) (fun _ => hE st2 H2 locs2 hG2 hC2 hH2 hlo2) (fun q => absurd rfl q)
theorem lw_leave (hX : aCtx G 32 mL_law p R s m args meth c) (hv : va_X b Ls xs s s.heap ∧ b < s.heap.size ∧ Ls ≤ 3584 ∧ G.1.1 + 1 = s.heap.size ∧ G.2.2.2.1 = s.heap) (hl : lwL ls b (aAd G 1) (aAd G 210) (aAd G 278) iN) (hi : iN + 6 < Ls) (hE : lwE G l p e R s m args below meth c Q s0 ls) (hG : GIv s0 st) (hC : aCan st) (hH : aHold G st H) (hlo : ∀ q ∈ locs, G.1.1 < q.base)
    (hg : VM G l 31 iX11_leave [rf 1, (0, (xs (iN + 1)).toInt), (0, (if xs (iN + 2) = 0 then 0 else 1))] st (fun w st1 => Kn st1.1 ∧ VM G l 31 iX12_leave [rf 210, (0, (xs (iN + 1)).toInt), (0, (if xs (iN + 2) = 0 then 0 else 1))] st1 (fun w' st2 => w' = w ∧ GIv s0 st2))) : W p l e R s m args below meth c H locs 3000 200000 Q (F0 m 547 ls []) := by
  obtain ⟨v1, v2, v3, v4, v5⟩ := hv
  obtain ⟨l7, l0, l1, l2, l3, l4⟩ := hl
  have hx := hX.1
  have hb := hX.2.1
  refine lv_aload_n hx hb (by decide +kernel : decode code 547 = .ok (.aload_n 1, 1)) rfl l1 ?_
  refine ldS (k := 1) hx hb (lwS_of v1 v2 v3 v4 v5 hC hH hlo) l0 l4 (by decide) (by omega) (by decide +kernel) (by decide +kernel) (by decide +kernel) (by decide +kernel) (by decide +kernel) ?_
  refine ldS (k := 2) hx hb (lwS_of v1 v2 v3 v4 v5 hC hH hlo) l0 l4 (by decide) (by omega) (by decide +kernel) (by decide +kernel) (by decide +kernel) (by decide +kernel) (by decide +kernel) ?_
  refine lwB hx hb (by decide +kernel) (by decide +kernel) (by decide +kernel) (by decide +kernel) ?_
  rw [← aV_i (G := G) (v := xs (iN + 1))]
  refine lwCall (y := iX11_leave) (r := 1) (x := 65) (A := [(0, (xs (iN + 1)).toInt), (0, (if xs (iN + 2) = 0 then 0 else 1))]) (rest := []) hX (by decide +kernel) rfl ((GIv_k1 hG).1.trans (by decide +kernel)) (by decide +kernel) hg (aOkCo (aOk_i (i32_v _)) (aOkCo (aOk_i lwB_i) (fun v hv => by cases hv))) hC hH hlo l7 (by decide) (gW (by decide +kernel)) (by decide +kernel) (fun w st1 H1 locs1 hM hw hC1 hH1 hlo1 => ?_)
  obtain ⟨hK1, hM⟩ := hM
  obtain ⟨ew, iw⟩ := rv_ok (G := G) (by decide +kernel) hw
  rw [ew]
  refine lv_aload_n hx hb (by decide +kernel : decode code 571 = .ok (.aload_n 2, 1)) rfl l2 ?_
  refine ldS (k := 1) hx hb (lwS_of v1 v2 v3 v4 v5 hC1 hH1 hlo1) l0 l4 (by decide) (by omega) (by decide +kernel) (by decide +kernel) (by decide +kernel) (by decide +kernel) (by decide +kernel) ?_
  refine ldS (k := 2) hx hb (lwS_of v1 v2 v3 v4 v5 hC1 hH1 hlo1) l0 l4 (by decide) (by omega) (by decide +kernel) (by decide +kernel) (by decide +kernel) (by decide +kernel) (by decide +kernel) ?_
  refine lwB hx hb (by decide +kernel) (by decide +kernel) (by decide +kernel) (by decide +kernel) ?_
  rw [← aV_i (G := G) (v := xs (iN + 1))]
  refine lwCall (y := iX12_leave) (r := 210) (x := 68) (A := [(0, (xs (iN + 1)).toInt), (0, (if xs (iN + 2) = 0 then 0 else 1))]) (rest := [.int (Int32.ofInt w)]) hX (by decide +kernel) rfl (by rw [hK1 210 rfl]; decide +kernel) (by decide +kernel) hM (aOkCo (aOk_i (i32_v _)) (aOkCo (aOk_i lwB_i) (fun v hv => by cases hv))) hC1 hH1 hlo1 l7 (by show 1 + 0 ≤ 8; decide) (gW (by decide +kernel)) (by decide +kernel) (fun w2 st2 H2 locs2 hM2 hw2 hC2 hH2 hlo2 => ?_)
  obtain ⟨ew2, iw2⟩ := rv_ok (G := G) (by decide +kernel) hw2
  rw [ew2]
  obtain ⟨rfl, hG2⟩ := hM2
  exact lv_icmp_eq (tgt := 1342) hx hb (by decide +kernel : decode code 595 = .ok (.if_icmp .eq 747, 3)) (by decide) (fun _ => hE st2 H2 locs2 hG2 hC2 hH2 hlo2) (fun q => absurd rfl q)
theorem lw_feed (hX : aCtx G 32 mL_law p R s m args meth c) (hv : va_X b Ls xs s s.heap ∧ b < s.heap.size ∧ Ls ≤ 3584 ∧ G.1.1 + 1 = s.heap.size ∧ G.2.2.2.1 = s.heap) (hl : lwL ls b (aAd G 1) (aAd G 210) (aAd G 278) iN) (hi : iN + 6 < Ls) (hE : lwE G l p e R s m args below meth c Q s0 ls) (hG : GIv s0 st) (hC : aCan st) (hH : aHold G st H) (hlo : ∀ q ∈ locs, G.1.1 < q.base)
    (hg : VM G l 31 iX11_feed [rf 1, (1, (lwF (xs (iN + 1)) (xs (iN + 2))).toInt), (1, (lwF (xs (iN + 3)) (xs (iN + 4))).toInt), (1, (lwF (xs (iN + 5)) (xs (iN + 6))).toInt)] st (fun w st1 => Kn st1.1 ∧ VM G l 31 iX12_feed [rf 210, (1, (lwF (xs (iN + 1)) (xs (iN + 2))).toInt), (1, (lwF (xs (iN + 3)) (xs (iN + 4))).toInt), (1, (lwF (xs (iN + 5)) (xs (iN + 6))).toInt)] st1 (fun w' st2 => w' = w ∧ GIv s0 st2))) : W p l e R s m args below meth c H locs 3000 200000 Q (F0 m 210 ls []) := by
  obtain ⟨v1, v2, v3, v4, v5⟩ := hv
  obtain ⟨l7, l0, l1, l2, l3, l4⟩ := hl
  have hx := hX.1
  have hb := hX.2.1
  have hcl : (Jvm.Cond.constantLong RL 38 4294967295).before args s = true := hX.2.2.2.2.2.1 _ (gW (by decide +kernel))
  have hown : s.vm.findClass RL = some m.cls := hX.2.2.2.2.1
  refine lv_aload_n hx hb (by decide +kernel : decode code 210 = .ok (.aload_n 1, 1)) rfl l1 ?_
  refine ldS (k := 1) hx hb (lwS_of v1 v2 v3 v4 v5 hC hH hlo) l0 l4 (by decide) (by omega) (by decide +kernel) (by decide +kernel) (by decide +kernel) (by decide +kernel) (by decide +kernel) ?_
  refine lwP1 hx hb (by decide +kernel) (by decide +kernel) (by decide +kernel) ?_
  refine ldS (k := 2) hx hb (lwS_of v1 v2 v3 v4 v5 hC hH hlo) l0 l4 (by decide) (by omega) (by decide +kernel) (by decide +kernel) (by decide +kernel) (by decide +kernel) (by decide +kernel) ?_
  refine lwP2 hx hb hown hcl (by decide +kernel) (by decide +kernel) (by decide +kernel) (by decide +kernel) ?_
  refine ldS (k := 3) hx hb (lwS_of v1 v2 v3 v4 v5 hC hH hlo) l0 l4 (by decide) (by omega) (by decide +kernel) (by decide +kernel) (by decide +kernel) (by decide +kernel) (by decide +kernel) ?_
  refine lwP1 hx hb (by decide +kernel) (by decide +kernel) (by decide +kernel) ?_
  refine ldS (k := 4) hx hb (lwS_of v1 v2 v3 v4 v5 hC hH hlo) l0 l4 (by decide) (by omega) (by decide +kernel) (by decide +kernel) (by decide +kernel) (by decide +kernel) (by decide +kernel) ?_
  refine lwP2 hx hb hown hcl (by decide +kernel) (by decide +kernel) (by decide +kernel) (by decide +kernel) ?_
  refine ldS (k := 5) hx hb (lwS_of v1 v2 v3 v4 v5 hC hH hlo) l0 l4 (by decide) (by omega) (by decide +kernel) (by decide +kernel) (by decide +kernel) (by decide +kernel) (by decide +kernel) ?_
  refine lwP1 hx hb (by decide +kernel) (by decide +kernel) (by decide +kernel) ?_
  refine ldS6 hx hb (lwS_of v1 v2 v3 v4 v5 hC hH hlo) l0 l4 hi (by decide +kernel) (by decide +kernel) (by decide +kernel) (by decide +kernel) (by decide +kernel) ?_
  refine lwP2 hx hb hown hcl (by decide +kernel) (by decide +kernel) (by decide +kernel) (by decide +kernel) ?_
  rw [← aV_l (G := G) (v := (lwF (xs (iN + 1)) (xs (iN + 2)))), ← aV_l (G := G) (v := (lwF (xs (iN + 3)) (xs (iN + 4)))), ← aV_l (G := G) (v := (lwF (xs (iN + 5)) (xs (iN + 6))))]
  refine lwCall (y := iX11_feed) (r := 1) (x := 40) (A := [(1, (lwF (xs (iN + 1)) (xs (iN + 2))).toInt), (1, (lwF (xs (iN + 3)) (xs (iN + 4))).toInt), (1, (lwF (xs (iN + 5)) (xs (iN + 6))).toInt)]) (rest := []) hX (by decide +kernel) rfl ((GIv_k1 hG).1.trans (by decide +kernel)) (by decide +kernel) hg (aOkCo (aOk_l (i64_v _)) (aOkCo (aOk_l (i64_v _)) (aOkCo (aOk_l (i64_v _)) (fun v hv => by cases hv)))) hC hH hlo l7 (by decide) (gW (by decide +kernel)) (by decide +kernel) (fun w st1 H1 locs1 hM hw hC1 hH1 hlo1 => ?_)
  obtain ⟨hK1, hM⟩ := hM
  obtain ⟨ew, iw⟩ := rv_ok (G := G) (by decide +kernel) hw
  rw [ew]
  refine lv_aload_n hx hb (by decide +kernel : decode code 281 = .ok (.aload_n 2, 1)) rfl l2 ?_
  refine ldS (k := 1) hx hb (lwS_of v1 v2 v3 v4 v5 hC1 hH1 hlo1) l0 l4 (by decide) (by omega) (by decide +kernel) (by decide +kernel) (by decide +kernel) (by decide +kernel) (by decide +kernel) ?_
  refine lwP1 hx hb (by decide +kernel) (by decide +kernel) (by decide +kernel) ?_
  refine ldS (k := 2) hx hb (lwS_of v1 v2 v3 v4 v5 hC1 hH1 hlo1) l0 l4 (by decide) (by omega) (by decide +kernel) (by decide +kernel) (by decide +kernel) (by decide +kernel) (by decide +kernel) ?_
  refine lwP2 hx hb hown hcl (by decide +kernel) (by decide +kernel) (by decide +kernel) (by decide +kernel) ?_
  refine ldS (k := 3) hx hb (lwS_of v1 v2 v3 v4 v5 hC1 hH1 hlo1) l0 l4 (by decide) (by omega) (by decide +kernel) (by decide +kernel) (by decide +kernel) (by decide +kernel) (by decide +kernel) ?_
  refine lwP1 hx hb (by decide +kernel) (by decide +kernel) (by decide +kernel) ?_
  refine ldS (k := 4) hx hb (lwS_of v1 v2 v3 v4 v5 hC1 hH1 hlo1) l0 l4 (by decide) (by omega) (by decide +kernel) (by decide +kernel) (by decide +kernel) (by decide +kernel) (by decide +kernel) ?_
  refine lwP2 hx hb hown hcl (by decide +kernel) (by decide +kernel) (by decide +kernel) (by decide +kernel) ?_
  refine ldS (k := 5) hx hb (lwS_of v1 v2 v3 v4 v5 hC1 hH1 hlo1) l0 l4 (by decide) (by omega) (by decide +kernel) (by decide +kernel) (by decide +kernel) (by decide +kernel) (by decide +kernel) ?_
  refine lwP1 hx hb (by decide +kernel) (by decide +kernel) (by decide +kernel) ?_
  refine ldS6 hx hb (lwS_of v1 v2 v3 v4 v5 hC1 hH1 hlo1) l0 l4 hi (by decide +kernel) (by decide +kernel) (by decide +kernel) (by decide +kernel) (by decide +kernel) ?_
  refine lwP2 hx hb hown hcl (by decide +kernel) (by decide +kernel) (by decide +kernel) (by decide +kernel) ?_
  rw [← aV_l (G := G) (v := (lwF (xs (iN + 1)) (xs (iN + 2)))), ← aV_l (G := G) (v := (lwF (xs (iN + 3)) (xs (iN + 4)))), ← aV_l (G := G) (v := (lwF (xs (iN + 5)) (xs (iN + 6))))]
  refine lwCall (y := iX12_feed) (r := 210) (x := 44) (A := [(1, (lwF (xs (iN + 1)) (xs (iN + 2))).toInt), (1, (lwF (xs (iN + 3)) (xs (iN + 4))).toInt), (1, (lwF (xs (iN + 5)) (xs (iN + 6))).toInt)]) (rest := [.int (Int32.ofInt w)]) hX (by decide +kernel) rfl (by rw [hK1 210 rfl]; decide +kernel) (by decide +kernel) hM (aOkCo (aOk_l (i64_v _)) (aOkCo (aOk_l (i64_v _)) (aOkCo (aOk_l (i64_v _)) (fun v hv => by cases hv)))) hC1 hH1 hlo1 l7 (by show 1 + 0 ≤ 8; decide) (gW (by decide +kernel)) (by decide +kernel) (fun w2 st2 H2 locs2 hM2 hw2 hC2 hH2 hlo2 => ?_)
  obtain ⟨ew2, iw2⟩ := rv_ok (G := G) (by decide +kernel) hw2
  rw [ew2]
  obtain ⟨rfl, hG2⟩ := hM2
  exact lv_icmp_eq (tgt := 1342) hx hb (by decide +kernel : decode code 352 = .ok (.if_icmp .eq 990, 3)) (by decide) (fun _ => hE st2 H2 locs2 hG2 hC2 hH2 hlo2) (fun q => absurd rfl q)
end
