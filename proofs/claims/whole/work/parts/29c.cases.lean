/-! ===== the law: the cases ===== -/
theorem aV_i {G : aCX} {v : Int32} : aV G (0, v.toInt) = .int v := by
  show Value.int (Int32.ofInt v.toInt) = _
  rw [Int32.ofInt_toInt]
theorem i32_v (v : Int32) : i32 v.toInt := ⟨Int32.le_toInt v, by have := Int32.toInt_lt v; omega⟩
theorem rv_ok {G : aCX} {rc : Nat} {w : Int} (h : rc = 0 ∨ rc = 4) (ho : aOkL (aPush rc w [])) : aRv G rc w = some (.int (Int32.ofInt w)) ∧ i32 w := by
  rcases h with rfl | rfl
  · exact ⟨rfl, (ho _ List.mem_cons_self).1 rfl⟩
  · exact ⟨rfl, (ho _ List.mem_cons_self).1 rfl⟩
section
variable {G : aCX} {l : Launch} {p : Program} {e : Env} {R : Room} {s : State} {m : MethodId} {args : Array Value} {below : List Frame} {meth : Method} {c : Code} {Q : State → Prop} {st : aSt} {H : Heap} {locs : List Loc} {ls : Array Slot} {b Ls iN s0 : Nat} {xs : Nat → Int32}
/-- where a case ends: the place 1342, the coupling holds -/
def lwE (G : aCX) (l : Launch) (p : Program) (e : Env) (R : Room) (s : State) (m : MethodId) (args : Array Value) (below : List Frame) (meth : Method) (c : Code) (Q : State → Prop) (s0 : Nat) (ls : Array Slot) : Prop := ∀ (st : aSt) (H : Heap) (locs : List Loc), GIv s0 st → aCan st → aHold G st H → (∀ q ∈ locs, G.1.1 < q.base) → W p l e R s m args below meth c H locs 3000 200000 Q (F0 m 1342 ls [])
theorem GIv_k1 (h : GIv s0 st) : (st.1 1).1 = 11 ∧ (st.1 210).1 = 12 ∧ st.1 278 = (15, 1, []) := by
  obtain ⟨m', T, T2, nt, n, wo, cn, cc, hX1⟩ := h
  exact ⟨by rw [hX1.1.1 1 rfl]; rfl, by rw [hX1.1.1 210 rfl]; rfl, by rw [hX1.1.1 278 rfl]; rfl⟩
/-- the script lies as it did -/
theorem lwS_of (hX : va_X b Ls xs s s.heap) (hbl : b < s.heap.size) (hL : Ls ≤ 3584) (hG0 : G.1.1 + 1 = s.heap.size) (hG1 : G.2.2.2.1 = s.heap) (hC : aCan st) (hH : aHold G st H) (hlo : ∀ q ∈ locs, G.1.1 < q.base) : lwS b Ls xs s H locs := by
  refine ⟨hX, hbl, hL, ?_, fun q h1 h2 => ?_, fun q hq => ?_⟩
  · rw [hH.1]
    have := aAd_pos (G := G) hC.2.1.1
    omega
  · rw [← hG1]
    exact hH.2.2.1 q (by omega)
  · have := hlo q hq
    omega
theorem lw_days (hX : aCtx G 32 mL_law p R s m args meth c) (hv : va_X b Ls xs s s.heap ∧ b < s.heap.size ∧ Ls ≤ 3584 ∧ G.1.1 + 1 = s.heap.size ∧ G.2.2.2.1 = s.heap) (hl : lwL ls b (aAd G 1) (aAd G 210) (aAd G 278) iN) (hi : iN + 6 < Ls) (hE : lwE G l p e R s m args below meth c Q s0 ls) (hG : GIv s0 st) (hC : aCan st) (hH : aHold G st H) (hlo : ∀ q ∈ locs, G.1.1 < q.base)
    (hg : VM G l 31 iX11_days [rf 1, (0, (xs (iN + 1)).toInt)] st (fun w st1 => Kn st1.1 ∧ VM G l 31 iX12_days [rf 210, (0, (xs (iN + 1)).toInt)] st1 (fun w' st2 => w' = w ∧ GIv s0 st2))) : W p l e R s m args below meth c H locs 3000 200000 Q (F0 m 160 ls []) := by
  obtain ⟨v1, v2, v3, v4, v5⟩ := hv
  obtain ⟨l7, l0, l1, l2, l3, l4⟩ := hl
  have hx := hX.1
  have hb := hX.2.1
  refine lv_aload_n hx hb (by decide +kernel : decode code 160 = .ok (.aload_n 1, 1)) rfl l1 ?_
  refine ldS (k := 1) hx hb (lwS_of v1 v2 v3 v4 v5 hC hH hlo) l0 l4 (by decide) (by omega) (by decide +kernel) (by decide +kernel) (by decide +kernel) (by decide +kernel) (by decide +kernel) ?_
  rw [← aV_i (G := G) (v := xs (iN + 1))]
  refine lwCall (y := iX11_days) (r := 1) (x := 29) (A := [(0, (xs (iN + 1)).toInt)]) (rest := []) hX (by decide +kernel) rfl ((GIv_k1 hG).1.trans (by decide +kernel)) (by decide +kernel) hg (aOkCo (aOk_i (i32_v _)) (fun v hv => by cases hv)) hC hH hlo l7 (by decide) (gW (by decide +kernel)) (by decide +kernel) (fun w st1 H1 locs1 hM hw hC1 hH1 hlo1 => ?_)
  obtain ⟨hK1, hM⟩ := hM
  obtain ⟨ew, iw⟩ := rv_ok (G := G) (by decide +kernel) hw
  rw [ew]
  refine lv_aload_n hx hb (by decide +kernel : decode code 170 = .ok (.aload_n 2, 1)) rfl l2 ?_
  refine ldS (k := 1) hx hb (lwS_of v1 v2 v3 v4 v5 hC1 hH1 hlo1) l0 l4 (by decide) (by omega) (by decide +kernel) (by decide +kernel) (by decide +kernel) (by decide +kernel) (by decide +kernel) ?_
  rw [← aV_i (G := G) (v := xs (iN + 1))]
  refine lwCall (y := iX12_days) (r := 210) (x := 32) (A := [(0, (xs (iN + 1)).toInt)]) (rest := [.int (Int32.ofInt w)]) hX (by decide +kernel) rfl (by rw [hK1 210 rfl]; decide +kernel) (by decide +kernel) hM (aOkCo (aOk_i (i32_v _)) (fun v hv => by cases hv)) hC1 hH1 hlo1 l7 (by show 1 + 0 ≤ 8; decide) (gW (by decide +kernel)) (by decide +kernel) (fun w2 st2 H2 locs2 hM2 hw2 hC2 hH2 hlo2 => ?_)
  obtain ⟨ew2, iw2⟩ := rv_ok (G := G) (by decide +kernel) hw2
  rw [ew2]
  obtain ⟨rfl, hG2⟩ := hM2
  exact lv_icmp_eq (tgt := 1342) hx hb (by decide +kernel : decode code 180 = .ok (.if_icmp .eq 1162, 3)) (by decide) (fun _ => hE st2 H2 locs2 hG2 hC2 hH2 hlo2) (fun q => absurd rfl q)
end
