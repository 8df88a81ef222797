/-! ===== the law: the plain cases ===== -/
section
variable {G : aCX} {l : Launch} {p : Program} {e : Env} {R : Room} {s : State} {m : MethodId} {args : Array Value} {below : List Frame} {meth : Method} {c : Code} {Q : State → Prop} {st : aSt} {H : Heap} {locs : List Loc} {ls : Array Slot} {b Ls iN s0 : Nat} {xs : Nat → Int32}
theorem lw_view (hX : aCtx G 32 mL_law p R s m args meth c) (hv : va_X b Ls xs s s.heap ∧ b < s.heap.size ∧ Ls ≤ 3584 ∧ G.1.1 + 1 = s.heap.size ∧ G.2.2.2.1 = s.heap) (hl : lwL ls b (aAd G 1) (aAd G 210) (aAd G 278) iN) (hi : iN + 6 < Ls) (hE : lwE G l p e R s m args below meth c Q s0 ls) (hG : GIv s0 st) (hC : aCan st) (hH : aHold G st H) (hlo : ∀ q ∈ locs, G.1.1 < q.base)
    (hg : VM G l 31 iX11_view [rf 1, (0, (xs (iN + 1)).toInt)] st (fun w st1 => Kn st1.1 ∧ VM G l 31 iX12_view [rf 210, (0, (xs (iN + 1)).toInt)] st1 (fun w' st2 => w' = w ∧ GIv s0 st2))) : W p l e R s m args below meth c H locs 3000 200000 Q (F0 m 185 ls []) := by
  obtain ⟨v1, v2, v3, v4, v5⟩ := hv
  obtain ⟨l7, l0, l1, l2, l3, l4⟩ := hl
  have hx := hX.1
  have hb := hX.2.1
  refine lv_aload_n hx hb (by decide +kernel : decode code 185 = .ok (.aload_n 1, 1)) rfl l1 ?_
  refine ldS (k := 1) hx hb (lwS_of v1 v2 v3 v4 v5 hC hH hlo) l0 l4 (by decide) (by omega) (by decide +kernel) (by decide +kernel) (by decide +kernel) (by decide +kernel) (by decide +kernel) ?_
  rw [← aV_i (G := G) (v := xs (iN + 1))]
  refine lwCall (y := iX11_view) (r := 1) (x := 33) (A := [(0, (xs (iN + 1)).toInt)]) (rest := []) hX (by decide +kernel) rfl ((GIv_k1 hG).1.trans (by decide +kernel)) (by decide +kernel) hg (aOkCo (aOk_i (i32_v _)) (fun v hv => by cases hv)) hC hH hlo l7 (by decide) (gW (by decide +kernel)) (by decide +kernel) (fun w st1 H1 locs1 hM hw hC1 hH1 hlo1 => ?_)
  obtain ⟨hK1, hM⟩ := hM
  obtain ⟨ew, iw⟩ := rv_ok (G := G) (by decide +kernel) hw
  rw [ew]
  refine lv_aload_n hx hb (by decide +kernel : decode code 195 = .ok (.aload_n 2, 1)) rfl l2 ?_
  refine ldS (k := 1) hx hb (lwS_of v1 v2 v3 v4 v5 hC1 hH1 hlo1) l0 l4 (by decide) (by omega) (by decide +kernel) (by decide +kernel) (by decide +kernel) (by decide +kernel) (by decide +kernel) ?_
  rw [← aV_i (G := G) (v := xs (iN + 1))]
  refine lwCall (y := iX12_view) (r := 210) (x := 37) (A := [(0, (xs (iN + 1)).toInt)]) (rest := [.int (Int32.ofInt w)]) hX (by decide +kernel) rfl (by rw [hK1 210 rfl]; decide +kernel) (by decide +kernel) hM (aOkCo (aOk_i (i32_v _)) (fun v hv => by cases hv)) hC1 hH1 hlo1 l7 (by show 1 + 0 ≤ 8; decide) (gW (by decide +kernel)) (by decide +kernel) (fun w2 st2 H2 locs2 hM2 hw2 hC2 hH2 hlo2 => ?_)
  obtain ⟨ew2, iw2⟩ := rv_ok (G := G) (by decide +kernel) hw2
  rw [ew2]
  obtain ⟨rfl, hG2⟩ := hM2
  exact lv_icmp_eq (tgt := 1342) hx hb (by decide +kernel : decode code 205 = .ok (.if_icmp .eq 1137, 3)) (by decide) (fun _ => hE st2 H2 locs2 hG2 hC2 hH2 hlo2) (fun q => absurd rfl q)
theorem lw_wording (hX : aCtx G 32 mL_law p R s m args meth c) (hv : va_X b Ls xs s s.heap ∧ b < s.heap.size ∧ Ls ≤ 3584 ∧ G.1.1 + 1 = s.heap.size ∧ G.2.2.2.1 = s.heap) (hl : lwL ls b (aAd G 1) (aAd G 210) (aAd G 278) iN) (hi : iN + 6 < Ls) (hE : lwE G l p e R s m args below meth c Q s0 ls) (hG : GIv s0 st) (hC : aCan st) (hH : aHold G st H) (hlo : ∀ q ∈ locs, G.1.1 < q.base)
    (hg : VM G l 31 iX11_wording [rf 1] st (fun w st1 => Kn st1.1 ∧ VM G l 31 iX12_wording [rf 210] st1 (fun w' st2 => w' = w ∧ GIv s0 st2))) : W p l e R s m args below meth c H locs 3000 200000 Q (F0 m 357 ls []) := by
  obtain ⟨v1, v2, v3, v4, v5⟩ := hv
  obtain ⟨l7, l0, l1, l2, l3, l4⟩ := hl
  have hx := hX.1
  have hb := hX.2.1
  refine lv_aload_n hx hb (by decide +kernel : decode code 357 = .ok (.aload_n 1, 1)) rfl l1 ?_
  refine lwCall (y := iX11_wording) (r := 1) (x := 45) (A := []) (rest := []) hX (by decide +kernel) rfl ((GIv_k1 hG).1.trans (by decide +kernel)) (by decide +kernel) hg (fun v hv => by cases hv) hC hH hlo l7 (by decide) (gW (by decide +kernel)) (by decide +kernel) (fun w st1 H1 locs1 hM hw hC1 hH1 hlo1 => ?_)
  obtain ⟨hK1, hM⟩ := hM
  obtain ⟨ew, iw⟩ := rv_ok (G := G) (by decide +kernel) hw
  rw [ew]
  refine lv_aload_n hx hb (by decide +kernel : decode code 361 = .ok (.aload_n 2, 1)) rfl l2 ?_
  refine lwCall (y := iX12_wording) (r := 210) (x := 49) (A := []) (rest := [.int (Int32.ofInt w)]) hX (by decide +kernel) rfl (by rw [hK1 210 rfl]; decide +kernel) (by decide +kernel) hM (fun v hv => by cases hv) hC1 hH1 hlo1 l7 (by show 1 + 0 ≤ 8; decide) (gW (by decide +kernel)) (by decide +kernel) (fun w2 st2 H2 locs2 hM2 hw2 hC2 hH2 hlo2 => ?_)
  obtain ⟨ew2, iw2⟩ := rv_ok (G := G) (by decide +kernel) hw2
  rw [ew2]
  obtain ⟨rfl, hG2⟩ := hM2
  exact lv_icmp_eq (tgt := 1342) hx hb (by decide +kernel : decode code 365 = .ok (.if_icmp .eq 977, 3)) (by decide) (fun _ => hE st2 H2 locs2 hG2 hC2 hH2 hlo2) (fun q => absurd rfl q)
theorem lw_loss (hX : aCtx G 32 mL_law p R s m args meth c) (hv : va_X b Ls xs s s.heap ∧ b < s.heap.size ∧ Ls ≤ 3584 ∧ G.1.1 + 1 = s.heap.size ∧ G.2.2.2.1 = s.heap) (hl : lwL ls b (aAd G 1) (aAd G 210) (aAd G 278) iN) (hi : iN + 6 < Ls) (hE : lwE G l p e R s m args below meth c Q s0 ls) (hG : GIv s0 st) (hC : aCan st) (hH : aHold G st H) (hlo : ∀ q ∈ locs, G.1.1 < q.base)
    (hg : VM G l 31 iX11_loss [rf 1, (0, (xs (iN + 1)).toInt), (0, (xs (iN + 2)).toInt), (0, (xs (iN + 3)).toInt), (0, (xs (iN + 4)).toInt), (0, (xs (iN + 5)).toInt), (0, (xs (iN + 6)).toInt)] st (fun w st1 => Kn st1.1 ∧ VM G l 31 iX12_loss [rf 210, (0, (xs (iN + 1)).toInt), (0, (xs (iN + 2)).toInt), (0, (xs (iN + 3)).toInt), (0, (xs (iN + 4)).toInt), (0, (xs (iN + 5)).toInt), (0, (xs (iN + 6)).toInt)] st1 (fun w' st2 => w' = w ∧ GIv s0 st2))) : W p l e R s m args below meth c H locs 3000 200000 Q (F0 m 370 ls []) := by
  obtain ⟨v1, v2, v3, v4, v5⟩ := hv
  obtain ⟨l7, l0, l1, l2, l3, l4⟩ := hl
  have hx := hX.1
  have hb := hX.2.1
  refine lv_aload_n hx hb (by decide +kernel : decode code 370 = .ok (.aload_n 1, 1)) rfl l1 ?_
  refine ldS (k := 1) hx hb (lwS_of v1 v2 v3 v4 v5 hC hH hlo) l0 l4 (by decide) (by omega) (by decide +kernel) (by decide +kernel) (by decide +kernel) (by decide +kernel) (by decide +kernel) ?_
  refine ldS (k := 2) hx hb (lwS_of v1 v2 v3 v4 v5 hC hH hlo) l0 l4 (by decide) (by omega) (by decide +kernel) (by decide +kernel) (by decide +kernel) (by decide +kernel) (by decide +kernel) ?_
  refine ldS (k := 3) hx hb (lwS_of v1 v2 v3 v4 v5 hC hH hlo) l0 l4 (by decide) (by omega) (by decide +kernel) (by decide +kernel) (by decide +kernel) (by decide +kernel) (by decide +kernel) ?_
  refine ldS (k := 4) hx hb (lwS_of v1 v2 v3 v4 v5 hC hH hlo) l0 l4 (by decide) (by omega) (by decide +kernel) (by decide +kernel) (by decide +kernel) (by decide +kernel) (by decide +kernel) ?_
  refine ldS (k := 5) hx hb (lwS_of v1 v2 v3 v4 v5 hC hH hlo) l0 l4 (by decide) (by omega) (by decide +kernel) (by decide +kernel) (by decide +kernel) (by decide +kernel) (by decide +kernel) ?_
  refine ldS6 hx hb (lwS_of v1 v2 v3 v4 v5 hC hH hlo) l0 l4 hi (by decide +kernel) (by decide +kernel) (by decide +kernel) (by decide +kernel) (by decide +kernel) ?_
  rw [← aV_i (G := G) (v := xs (iN + 1)), ← aV_i (G := G) (v := xs (iN + 2)), ← aV_i (G := G) (v := xs (iN + 3)), ← aV_i (G := G) (v := xs (iN + 4)), ← aV_i (G := G) (v := xs (iN + 5)), ← aV_i (G := G) (v := xs (iN + 6))]
  refine lwCall (y := iX11_loss) (r := 1) (x := 50) (A := [(0, (xs (iN + 1)).toInt), (0, (xs (iN + 2)).toInt), (0, (xs (iN + 3)).toInt), (0, (xs (iN + 4)).toInt), (0, (xs (iN + 5)).toInt), (0, (xs (iN + 6)).toInt)]) (rest := []) hX (by decide +kernel) rfl ((GIv_k1 hG).1.trans (by decide +kernel)) (by decide +kernel) hg (aOkCo (aOk_i (i32_v _)) (aOkCo (aOk_i (i32_v _)) (aOkCo (aOk_i (i32_v _)) (aOkCo (aOk_i (i32_v _)) (aOkCo (aOk_i (i32_v _)) (aOkCo (aOk_i (i32_v _)) (fun v hv => by cases hv))))))) hC hH hlo l7 (by decide) (gW (by decide +kernel)) (by decide +kernel) (fun w st1 H1 locs1 hM hw hC1 hH1 hlo1 => ?_)
  obtain ⟨hK1, hM⟩ := hM
  obtain ⟨ew, iw⟩ := rv_ok (G := G) (by decide +kernel) hw
  rw [ew]
  refine lv_aload_n hx hb (by decide +kernel : decode code 411 = .ok (.aload_n 2, 1)) rfl l2 ?_
  refine ldS (k := 1) hx hb (lwS_of v1 v2 v3 v4 v5 hC1 hH1 hlo1) l0 l4 (by decide) (by omega) (by decide +kernel) (by decide +kernel) (by decide +kernel) (by decide +kernel) (by decide +kernel) ?_
  refine ldS (k := 2) hx hb (lwS_of v1 v2 v3 v4 v5 hC1 hH1 hlo1) l0 l4 (by decide) (by omega) (by decide +kernel) (by decide +kernel) (by decide +kernel) (by decide +kernel) (by decide +kernel) ?_
  refine ldS (k := 3) hx hb (lwS_of v1 v2 v3 v4 v5 hC1 hH1 hlo1) l0 l4 (by decide) (by omega) (by decide +kernel) (by decide +kernel) (by decide +kernel) (by decide +kernel) (by decide +kernel) ?_
  refine ldS (k := 4) hx hb (lwS_of v1 v2 v3 v4 v5 hC1 hH1 hlo1) l0 l4 (by decide) (by omega) (by decide +kernel) (by decide +kernel) (by decide +kernel) (by decide +kernel) (by decide +kernel) ?_
  refine ldS (k := 5) hx hb (lwS_of v1 v2 v3 v4 v5 hC1 hH1 hlo1) l0 l4 (by decide) (by omega) (by decide +kernel) (by decide +kernel) (by decide +kernel) (by decide +kernel) (by decide +kernel) ?_
  refine ldS6 hx hb (lwS_of v1 v2 v3 v4 v5 hC1 hH1 hlo1) l0 l4 hi (by decide +kernel) (by decide +kernel) (by decide +kernel) (by decide +kernel) (by decide +kernel) ?_
  rw [← aV_i (G := G) (v := xs (iN + 1)), ← aV_i (G := G) (v := xs (iN + 2)), ← aV_i (G := G) (v := xs (iN + 3)), ← aV_i (G := G) (v := xs (iN + 4)), ← aV_i (G := G) (v := xs (iN + 5)), ← aV_i (G := G) (v := xs (iN + 6))]
  refine lwCall (y := iX12_loss) (r := 210) (x := 54) (A := [(0, (xs (iN + 1)).toInt), (0, (xs (iN + 2)).toInt), (0, (xs (iN + 3)).toInt), (0, (xs (iN + 4)).toInt), (0, (xs (iN + 5)).toInt), (0, (xs (iN + 6)).toInt)]) (rest := [.int (Int32.ofInt w)]) hX (by decide +kernel) rfl (by rw [hK1 210 rfl]; decide +kernel) (by decide +kernel) hM (aOkCo (aOk_i (i32_v _)) (aOkCo (aOk_i (i32_v _)) (aOkCo (aOk_i (i32_v _)) (aOkCo (aOk_i (i32_v _)) (aOkCo (aOk_i (i32_v _)) (aOkCo (aOk_i (i32_v _)) (fun v hv => by cases hv))))))) hC1 hH1 hlo1 l7 (by show 1 + 0 ≤ 8; decide) (gW (by decide +kernel)) (by decide +kernel) (fun w2 st2 H2 locs2 hM2 hw2 hC2 hH2 hlo2 => ?_)
  obtain ⟨ew2, iw2⟩ := rv_ok (G := G) (by decide +kernel) hw2
  rw [ew2]
  obtain ⟨rfl, hG2⟩ := hM2
  exact lv_icmp_eq (tgt := 1342) hx hb (by decide +kernel : decode code 452 = .ok (.if_icmp .eq 890, 3)) (by decide) (fun _ => hE st2 H2 locs2 hG2 hC2 hH2 hlo2) (fun q => absurd rfl q)
theorem lw_word (hX : aCtx G 32 mL_law p R s m args meth c) (hv : va_X b Ls xs s s.heap ∧ b < s.heap.size ∧ Ls ≤ 3584 ∧ G.1.1 + 1 = s.heap.size ∧ G.2.2.2.1 = s.heap) (hl : lwL ls b (aAd G 1) (aAd G 210) (aAd G 278) iN) (hi : iN + 6 < Ls) (hE : lwE G l p e R s m args below meth c Q s0 ls) (hG : GIv s0 st) (hC : aCan st) (hH : aHold G st H) (hlo : ∀ q ∈ locs, G.1.1 < q.base)
    (hg : VM G l 31 iX11_word [rf 1, (0, (xs (iN + 1)).toInt), (0, (xs (iN + 2)).toInt)] st (fun w st1 => Kn st1.1 ∧ VM G l 31 iX12_word [rf 210, (0, (xs (iN + 1)).toInt), (0, (xs (iN + 2)).toInt)] st1 (fun w' st2 => w' = w ∧ GIv s0 st2))) : W p l e R s m args below meth c H locs 3000 200000 Q (F0 m 457 ls []) := by
  obtain ⟨v1, v2, v3, v4, v5⟩ := hv
  obtain ⟨l7, l0, l1, l2, l3, l4⟩ := hl
  have hx := hX.1
  have hb := hX.2.1
  refine lv_aload_n hx hb (by decide +kernel : decode code 457 = .ok (.aload_n 1, 1)) rfl l1 ?_
  refine ldS (k := 1) hx hb (lwS_of v1 v2 v3 v4 v5 hC hH hlo) l0 l4 (by decide) (by omega) (by decide +kernel) (by decide +kernel) (by decide +kernel) (by decide +kernel) (by decide +kernel) ?_
  refine ldS (k := 2) hx hb (lwS_of v1 v2 v3 v4 v5 hC hH hlo) l0 l4 (by decide) (by omega) (by decide +kernel) (by decide +kernel) (by decide +kernel) (by decide +kernel) (by decide +kernel) ?_
  rw [← aV_i (G := G) (v := xs (iN + 1)), ← aV_i (G := G) (v := xs (iN + 2))]
  refine lwCall (y := iX11_word) (r := 1) (x := 55) (A := [(0, (xs (iN + 1)).toInt), (0, (xs (iN + 2)).toInt)]) (rest := []) hX (by decide +kernel) rfl ((GIv_k1 hG).1.trans (by decide +kernel)) (by decide +kernel) hg (aOkCo (aOk_i (i32_v _)) (aOkCo (aOk_i (i32_v _)) (fun v hv => by cases hv))) hC hH hlo l7 (by decide) (gW (by decide +kernel)) (by decide +kernel) (fun w st1 H1 locs1 hM hw hC1 hH1 hlo1 => ?_)
  obtain ⟨hK1, hM⟩ := hM
  obtain ⟨ew, iw⟩ := rv_ok (G := G) (by decide +kernel) hw
  rw [ew]
  refine lv_aload_n hx hb (by decide +kernel : decode code 473 = .ok (.aload_n 2, 1)) rfl l2 ?_
  refine ldS (k := 1) hx hb (lwS_of v1 v2 v3 v4 v5 hC1 hH1 hlo1) l0 l4 (by decide) (by omega) (by decide +kernel) (by decide +kernel) (by decide +kernel) (by decide +kernel) (by decide +kernel) ?_
  refine ldS (k := 2) hx hb (lwS_of v1 v2 v3 v4 v5 hC1 hH1 hlo1) l0 l4 (by decide) (by omega) (by decide +kernel) (by decide +kernel) (by decide +kernel) (by decide +kernel) (by decide +kernel) ?_
  rw [← aV_i (G := G) (v := xs (iN + 1)), ← aV_i (G := G) (v := xs (iN + 2))]
  refine lwCall (y := iX12_word) (r := 210) (x := 59) (A := [(0, (xs (iN + 1)).toInt), (0, (xs (iN + 2)).toInt)]) (rest := [.int (Int32.ofInt w)]) hX (by decide +kernel) rfl (by rw [hK1 210 rfl]; decide +kernel) (by decide +kernel) hM (aOkCo (aOk_i (i32_v _)) (aOkCo (aOk_i (i32_v _)) (fun v hv => by cases hv))) hC1 hH1 hlo1 l7 (by show 1 + 0 ≤ 8; decide) (gW (by decide +kernel)) (by decide +kernel) (fun w2 st2 H2 locs2 hM2 hw2 hC2 hH2 hlo2 => ?_)
  obtain ⟨ew2, iw2⟩ := rv_ok (G := G) (by decide +kernel) hw2
  rw [ew2]
  obtain ⟨rfl, hG2⟩ := hM2
  exact lv_icmp_eq (tgt := 1342) hx hb (by decide +kernel : decode code 489 = .ok (.if_icmp .eq 853, 3)) (by decide) (fun _ => hE st2 H2 locs2 hG2 hC2 hH2 hlo2) (fun q => absurd rfl q)
theorem lw_events (hX : aCtx G 32 mL_law p R s m args meth c) (hv : va_X b Ls xs s s.heap ∧ b < s.heap.size ∧ Ls ≤ 3584 ∧ G.1.1 + 1 = s.heap.size ∧ G.2.2.2.1 = s.heap) (hl : lwL ls b (aAd G 1) (aAd G 210) (aAd G 278) iN) (hi : iN + 6 < Ls) (hE : lwE G l p e R s m args below meth c Q s0 ls) (hG : GIv s0 st) (hC : aCan st) (hH : aHold G st H) (hlo : ∀ q ∈ locs, G.1.1 < q.base)
    (hg : VM G l 31 iX11_events [rf 1] st (fun w st1 => Kn st1.1 ∧ VM G l 31 iX12_events [rf 210] st1 (fun w' st2 => w' = w ∧ GIv s0 st2))) : W p l e R s m args below meth c H locs 3000 200000 Q (F0 m 600 ls []) := by
  obtain ⟨v1, v2, v3, v4, v5⟩ := hv
  obtain ⟨l7, l0, l1, l2, l3, l4⟩ := hl
  have hx := hX.1
  have hb := hX.2.1
  refine lv_aload_n hx hb (by decide +kernel : decode code 600 = .ok (.aload_n 1, 1)) rfl l1 ?_
  refine lwCall (y := iX11_events) (r := 1) (x := 69) (A := []) (rest := []) hX (by decide +kernel) rfl ((GIv_k1 hG).1.trans (by decide +kernel)) (by decide +kernel) hg (fun v hv => by cases hv) hC hH hlo l7 (by decide) (gW (by decide +kernel)) (by decide +kernel) (fun w st1 H1 locs1 hM hw hC1 hH1 hlo1 => ?_)
  obtain ⟨hK1, hM⟩ := hM
  obtain ⟨ew, iw⟩ := rv_ok (G := G) (by decide +kernel) hw
  rw [ew]
  refine lv_aload_n hx hb (by decide +kernel : decode code 604 = .ok (.aload_n 2, 1)) rfl l2 ?_
  refine lwCall (y := iX12_events) (r := 210) (x := 72) (A := []) (rest := [.int (Int32.ofInt w)]) hX (by decide +kernel) rfl (by rw [hK1 210 rfl]; decide +kernel) (by decide +kernel) hM (fun v hv => by cases hv) hC1 hH1 hlo1 l7 (by show 1 + 0 ≤ 8; decide) (gW (by decide +kernel)) (by decide +kernel) (fun w2 st2 H2 locs2 hM2 hw2 hC2 hH2 hlo2 => ?_)
  obtain ⟨ew2, iw2⟩ := rv_ok (G := G) (by decide +kernel) hw2
  rw [ew2]
  obtain ⟨rfl, hG2⟩ := hM2
  exact lv_icmp_eq (tgt := 1342) hx hb (by decide +kernel : decode code 608 = .ok (.if_icmp .eq 734, 3)) (by decide) (fun _ => hE st2 H2 locs2 hG2 hC2 hH2 hlo2) (fun q => absurd rfl q)
theorem lw_event (hX : aCtx G 32 mL_law p R s m args meth c) (hv : va_X b Ls xs s s.heap ∧ b < s.heap.size ∧ Ls ≤ 3584 ∧ G.1.1 + 1 = s.heap.size ∧ G.2.2.2.1 = s.heap) (hl : lwL ls b (aAd G 1) (aAd G 210) (aAd G 278) iN) (hi : iN + 6 < Ls) (hE : lwE G l p e R s m args below meth c Q s0 ls) (hG : GIv s0 st) (hC : aCan st) (hH : aHold G st H) (hlo : ∀ q ∈ locs, G.1.1 < q.base)
    (hg : VM G l 31 iX11_event [rf 1, (0, (xs (iN + 1)).toInt), (0, (xs (iN + 2)).toInt)] st (fun w st1 => Kn st1.1 ∧ VM G l 31 iX12_event [rf 210, (0, (xs (iN + 1)).toInt), (0, (xs (iN + 2)).toInt)] st1 (fun w' st2 => w' = w ∧ GIv s0 st2))) : W p l e R s m args below meth c H locs 3000 200000 Q (F0 m 613 ls []) := by
  obtain ⟨v1, v2, v3, v4, v5⟩ := hv
  obtain ⟨l7, l0, l1, l2, l3, l4⟩ := hl
  have hx := hX.1
  have hb := hX.2.1
  refine lv_aload_n hx hb (by decide +kernel : decode code 613 = .ok (.aload_n 1, 1)) rfl l1 ?_
  refine ldS (k := 1) hx hb (lwS_of v1 v2 v3 v4 v5 hC hH hlo) l0 l4 (by decide) (by omega) (by decide +kernel) (by decide +kernel) (by decide +kernel) (by decide +kernel) (by decide +kernel) ?_
  refine ldS (k := 2) hx hb (lwS_of v1 v2 v3 v4 v5 hC hH hlo) l0 l4 (by decide) (by omega) (by decide +kernel) (by decide +kernel) (by decide +kernel) (by decide +kernel) (by decide +kernel) ?_
  rw [← aV_i (G := G) (v := xs (iN + 1)), ← aV_i (G := G) (v := xs (iN + 2))]
  refine lwCall (y := iX11_event) (r := 1) (x := 73) (A := [(0, (xs (iN + 1)).toInt), (0, (xs (iN + 2)).toInt)]) (rest := []) hX (by decide +kernel) rfl ((GIv_k1 hG).1.trans (by decide +kernel)) (by decide +kernel) hg (aOkCo (aOk_i (i32_v _)) (aOkCo (aOk_i (i32_v _)) (fun v hv => by cases hv))) hC hH hlo l7 (by decide) (gW (by decide +kernel)) (by decide +kernel) (fun w st1 H1 locs1 hM hw hC1 hH1 hlo1 => ?_)
  obtain ⟨hK1, hM⟩ := hM
  obtain ⟨ew, iw⟩ := rv_ok (G := G) (by decide +kernel) hw
  rw [ew]
  refine lv_aload_n hx hb (by decide +kernel : decode code 629 = .ok (.aload_n 2, 1)) rfl l2 ?_
  refine ldS (k := 1) hx hb (lwS_of v1 v2 v3 v4 v5 hC1 hH1 hlo1) l0 l4 (by decide) (by omega) (by decide +kernel) (by decide +kernel) (by decide +kernel) (by decide +kernel) (by decide +kernel) ?_
  refine ldS (k := 2) hx hb (lwS_of v1 v2 v3 v4 v5 hC1 hH1 hlo1) l0 l4 (by decide) (by omega) (by decide +kernel) (by decide +kernel) (by decide +kernel) (by decide +kernel) (by decide +kernel) ?_
  rw [← aV_i (G := G) (v := xs (iN + 1)), ← aV_i (G := G) (v := xs (iN + 2))]
  refine lwCall (y := iX12_event) (r := 210) (x := 76) (A := [(0, (xs (iN + 1)).toInt), (0, (xs (iN + 2)).toInt)]) (rest := [.int (Int32.ofInt w)]) hX (by decide +kernel) rfl (by rw [hK1 210 rfl]; decide +kernel) (by decide +kernel) hM (aOkCo (aOk_i (i32_v _)) (aOkCo (aOk_i (i32_v _)) (fun v hv => by cases hv))) hC1 hH1 hlo1 l7 (by show 1 + 0 ≤ 8; decide) (gW (by decide +kernel)) (by decide +kernel) (fun w2 st2 H2 locs2 hM2 hw2 hC2 hH2 hlo2 => ?_)
  obtain ⟨ew2, iw2⟩ := rv_ok (G := G) (by decide +kernel) hw2
  rw [ew2]
  obtain ⟨rfl, hG2⟩ := hM2
  exact lv_icmp_eq (tgt := 1342) hx hb (by decide +kernel : decode code 645 = .ok (.if_icmp .eq 697, 3)) (by decide) (fun _ => hE st2 H2 locs2 hG2 hC2 hH2 hlo2) (fun q => absurd rfl q)
theorem lw_eventOf (hX : aCtx G 32 mL_law p R s m args meth c) (hv : va_X b Ls xs s s.heap ∧ b < s.heap.size ∧ Ls ≤ 3584 ∧ G.1.1 + 1 = s.heap.size ∧ G.2.2.2.1 = s.heap) (hl : lwL ls b (aAd G 1) (aAd G 210) (aAd G 278) iN) (hi : iN + 6 < Ls) (hE : lwE G l p e R s m args below meth c Q s0 ls) (hG : GIv s0 st) (hC : aCan st) (hH : aHold G st H) (hlo : ∀ q ∈ locs, G.1.1 < q.base)
    (hg : VM G l 31 iX11_eventOf [rf 1, (0, (xs (iN + 1)).toInt)] st (fun w st1 => Kn st1.1 ∧ VM G l 31 iX12_eventOf [rf 210, (0, (xs (iN + 1)).toInt)] st1 (fun w' st2 => w' = w ∧ GIv s0 st2))) : W p l e R s m args below meth c H locs 3000 200000 Q (F0 m 650 ls []) := by
  obtain ⟨v1, v2, v3, v4, v5⟩ := hv
  obtain ⟨l7, l0, l1, l2, l3, l4⟩ := hl
  have hx := hX.1
  have hb := hX.2.1
  refine lv_aload_n hx hb (by decide +kernel : decode code 650 = .ok (.aload_n 1, 1)) rfl l1 ?_
  refine ldS (k := 1) hx hb (lwS_of v1 v2 v3 v4 v5 hC hH hlo) l0 l4 (by decide) (by omega) (by decide +kernel) (by decide +kernel) (by decide +kernel) (by decide +kernel) (by decide +kernel) ?_
  rw [← aV_i (G := G) (v := xs (iN + 1))]
  refine lwCall (y := iX11_eventOf) (r := 1) (x := 77) (A := [(0, (xs (iN + 1)).toInt)]) (rest := []) hX (by decide +kernel) rfl ((GIv_k1 hG).1.trans (by decide +kernel)) (by decide +kernel) hg (aOkCo (aOk_i (i32_v _)) (fun v hv => by cases hv)) hC hH hlo l7 (by decide) (gW (by decide +kernel)) (by decide +kernel) (fun w st1 H1 locs1 hM hw hC1 hH1 hlo1 => ?_)
  obtain ⟨hK1, hM⟩ := hM
  obtain ⟨ew, iw⟩ := rv_ok (G := G) (by decide +kernel) hw
  rw [ew]
  refine lv_aload_n hx hb (by decide +kernel : decode code 660 = .ok (.aload_n 2, 1)) rfl l2 ?_
  refine ldS (k := 1) hx hb (lwS_of v1 v2 v3 v4 v5 hC1 hH1 hlo1) l0 l4 (by decide) (by omega) (by decide +kernel) (by decide +kernel) (by decide +kernel) (by decide +kernel) (by decide +kernel) ?_
  rw [← aV_i (G := G) (v := xs (iN + 1))]
  refine lwCall (y := iX12_eventOf) (r := 210) (x := 80) (A := [(0, (xs (iN + 1)).toInt)]) (rest := [.int (Int32.ofInt w)]) hX (by decide +kernel) rfl (by rw [hK1 210 rfl]; decide +kernel) (by decide +kernel) hM (aOkCo (aOk_i (i32_v _)) (fun v hv => by cases hv)) hC1 hH1 hlo1 l7 (by show 1 + 0 ≤ 8; decide) (gW (by decide +kernel)) (by decide +kernel) (fun w2 st2 H2 locs2 hM2 hw2 hC2 hH2 hlo2 => ?_)
  obtain ⟨ew2, iw2⟩ := rv_ok (G := G) (by decide +kernel) hw2
  rw [ew2]
  obtain ⟨rfl, hG2⟩ := hM2
  exact lv_icmp_eq (tgt := 1342) hx hb (by decide +kernel : decode code 670 = .ok (.if_icmp .eq 672, 3)) (by decide) (fun _ => hE st2 H2 locs2 hG2 hC2 hH2 hlo2) (fun q => absurd rfl q)
theorem lw_gross (hX : aCtx G 32 mL_law p R s m args meth c) (hv : va_X b Ls xs s s.heap ∧ b < s.heap.size ∧ Ls ≤ 3584 ∧ G.1.1 + 1 = s.heap.size ∧ G.2.2.2.1 = s.heap) (hl : lwL ls b (aAd G 1) (aAd G 210) (aAd G 278) iN) (hi : iN + 6 < Ls) (hE : lwE G l p e R s m args below meth c Q s0 ls) (hG : GIv s0 st) (hC : aCan st) (hH : aHold G st H) (hlo : ∀ q ∈ locs, G.1.1 < q.base)
    (hg : VM G l 31 iX11_gross [rf 1, (0, (xs (iN + 1)).toInt), (0, (xs (iN + 2)).toInt), (0, (xs (iN + 3)).toInt)] st (fun w st1 => Kn st1.1 ∧ VM G l 31 iX12_gross [rf 210, (0, (xs (iN + 1)).toInt), (0, (xs (iN + 2)).toInt), (0, (xs (iN + 3)).toInt)] st1 (fun w' st2 => w' = w ∧ GIv s0 st2))) : W p l e R s m args below meth c H locs 3000 200000 Q (F0 m 675 ls []) := by
  obtain ⟨v1, v2, v3, v4, v5⟩ := hv
  obtain ⟨l7, l0, l1, l2, l3, l4⟩ := hl
  have hx := hX.1
  have hb := hX.2.1
  refine lv_aload_n hx hb (by decide +kernel : decode code 675 = .ok (.aload_n 1, 1)) rfl l1 ?_
  refine ldS (k := 1) hx hb (lwS_of v1 v2 v3 v4 v5 hC hH hlo) l0 l4 (by decide) (by omega) (by decide +kernel) (by decide +kernel) (by decide +kernel) (by decide +kernel) (by decide +kernel) ?_
  refine ldS (k := 2) hx hb (lwS_of v1 v2 v3 v4 v5 hC hH hlo) l0 l4 (by decide) (by omega) (by decide +kernel) (by decide +kernel) (by decide +kernel) (by decide +kernel) (by decide +kernel) ?_
  refine ldS (k := 3) hx hb (lwS_of v1 v2 v3 v4 v5 hC hH hlo) l0 l4 (by decide) (by omega) (by decide +kernel) (by decide +kernel) (by decide +kernel) (by decide +kernel) (by decide +kernel) ?_
  rw [← aV_i (G := G) (v := xs (iN + 1)), ← aV_i (G := G) (v := xs (iN + 2)), ← aV_i (G := G) (v := xs (iN + 3))]
  refine lwCall (y := iX11_gross) (r := 1) (x := 81) (A := [(0, (xs (iN + 1)).toInt), (0, (xs (iN + 2)).toInt), (0, (xs (iN + 3)).toInt)]) (rest := []) hX (by decide +kernel) rfl ((GIv_k1 hG).1.trans (by decide +kernel)) (by decide +kernel) hg (aOkCo (aOk_i (i32_v _)) (aOkCo (aOk_i (i32_v _)) (aOkCo (aOk_i (i32_v _)) (fun v hv => by cases hv)))) hC hH hlo l7 (by decide) (gW (by decide +kernel)) (by decide +kernel) (fun w st1 H1 locs1 hM hw hC1 hH1 hlo1 => ?_)
  obtain ⟨hK1, hM⟩ := hM
  obtain ⟨ew, iw⟩ := rv_ok (G := G) (by decide +kernel) hw
  rw [ew]
  refine lv_aload_n hx hb (by decide +kernel : decode code 697 = .ok (.aload_n 2, 1)) rfl l2 ?_
  refine ldS (k := 1) hx hb (lwS_of v1 v2 v3 v4 v5 hC1 hH1 hlo1) l0 l4 (by decide) (by omega) (by decide +kernel) (by decide +kernel) (by decide +kernel) (by decide +kernel) (by decide +kernel) ?_
  refine ldS (k := 2) hx hb (lwS_of v1 v2 v3 v4 v5 hC1 hH1 hlo1) l0 l4 (by decide) (by omega) (by decide +kernel) (by decide +kernel) (by decide +kernel) (by decide +kernel) (by decide +kernel) ?_
  refine ldS (k := 3) hx hb (lwS_of v1 v2 v3 v4 v5 hC1 hH1 hlo1) l0 l4 (by decide) (by omega) (by decide +kernel) (by decide +kernel) (by decide +kernel) (by decide +kernel) (by decide +kernel) ?_
  rw [← aV_i (G := G) (v := xs (iN + 1)), ← aV_i (G := G) (v := xs (iN + 2)), ← aV_i (G := G) (v := xs (iN + 3))]
  refine lwCall (y := iX12_gross) (r := 210) (x := 85) (A := [(0, (xs (iN + 1)).toInt), (0, (xs (iN + 2)).toInt), (0, (xs (iN + 3)).toInt)]) (rest := [.int (Int32.ofInt w)]) hX (by decide +kernel) rfl (by rw [hK1 210 rfl]; decide +kernel) (by decide +kernel) hM (aOkCo (aOk_i (i32_v _)) (aOkCo (aOk_i (i32_v _)) (aOkCo (aOk_i (i32_v _)) (fun v hv => by cases hv)))) hC1 hH1 hlo1 l7 (by show 1 + 0 ≤ 8; decide) (gW (by decide +kernel)) (by decide +kernel) (fun w2 st2 H2 locs2 hM2 hw2 hC2 hH2 hlo2 => ?_)
  obtain ⟨ew2, iw2⟩ := rv_ok (G := G) (by decide +kernel) hw2
  rw [ew2]
  obtain ⟨rfl, hG2⟩ := hM2
  exact lv_icmp_eq (tgt := 1342) hx hb (by decide +kernel : decode code 719 = .ok (.if_icmp .eq 623, 3)) (by decide) (fun _ => hE st2 H2 locs2 hG2 hC2 hH2 hlo2) (fun q => absurd rfl q)
theorem lw_treaty (hX : aCtx G 32 mL_law p R s m args meth c) (hv : va_X b Ls xs s s.heap ∧ b < s.heap.size ∧ Ls ≤ 3584 ∧ G.1.1 + 1 = s.heap.size ∧ G.2.2.2.1 = s.heap) (hl : lwL ls b (aAd G 1) (aAd G 210) (aAd G 278) iN) (hi : iN + 6 < Ls) (hE : lwE G l p e R s m args below meth c Q s0 ls) (hG : GIv s0 st) (hC : aCan st) (hH : aHold G st H) (hlo : ∀ q ∈ locs, G.1.1 < q.base)
    (hg : VM G l 31 iX11_treaty [rf 1, (0, (xs (iN + 1)).toInt), (0, (xs (iN + 2)).toInt), (0, (xs (iN + 3)).toInt)] st (fun w st1 => Kn st1.1 ∧ VM G l 31 iX12_treaty [rf 210, (0, (xs (iN + 1)).toInt), (0, (xs (iN + 2)).toInt), (0, (xs (iN + 3)).toInt)] st1 (fun w' st2 => w' = w ∧ GIv s0 st2))) : W p l e R s m args below meth c H locs 3000 200000 Q (F0 m 724 ls []) := by
  obtain ⟨v1, v2, v3, v4, v5⟩ := hv
  obtain ⟨l7, l0, l1, l2, l3, l4⟩ := hl
  have hx := hX.1
  have hb := hX.2.1
  refine lv_aload_n hx hb (by decide +kernel : decode code 724 = .ok (.aload_n 1, 1)) rfl l1 ?_
  refine ldS (k := 1) hx hb (lwS_of v1 v2 v3 v4 v5 hC hH hlo) l0 l4 (by decide) (by omega) (by decide +kernel) (by decide +kernel) (by decide +kernel) (by decide +kernel) (by decide +kernel) ?_
  refine ldS (k := 2) hx hb (lwS_of v1 v2 v3 v4 v5 hC hH hlo) l0 l4 (by decide) (by omega) (by decide +kernel) (by decide +kernel) (by decide +kernel) (by decide +kernel) (by decide +kernel) ?_
  refine ldS (k := 3) hx hb (lwS_of v1 v2 v3 v4 v5 hC hH hlo) l0 l4 (by decide) (by omega) (by decide +kernel) (by decide +kernel) (by decide +kernel) (by decide +kernel) (by decide +kernel) ?_
  rw [← aV_i (G := G) (v := xs (iN + 1)), ← aV_i (G := G) (v := xs (iN + 2)), ← aV_i (G := G) (v := xs (iN + 3))]
  refine lwCall (y := iX11_treaty) (r := 1) (x := 86) (A := [(0, (xs (iN + 1)).toInt), (0, (xs (iN + 2)).toInt), (0, (xs (iN + 3)).toInt)]) (rest := []) hX (by decide +kernel) rfl ((GIv_k1 hG).1.trans (by decide +kernel)) (by decide +kernel) hg (aOkCo (aOk_i (i32_v _)) (aOkCo (aOk_i (i32_v _)) (aOkCo (aOk_i (i32_v _)) (fun v hv => by cases hv)))) hC hH hlo l7 (by decide) (gW (by decide +kernel)) (by decide +kernel) (fun w st1 H1 locs1 hM hw hC1 hH1 hlo1 => ?_)
  obtain ⟨hK1, hM⟩ := hM
  obtain ⟨ew, iw⟩ := rv_ok (G := G) (by decide +kernel) hw
  rw [ew]
  refine lv_aload_n hx hb (by decide +kernel : decode code 746 = .ok (.aload_n 2, 1)) rfl l2 ?_
  refine ldS (k := 1) hx hb (lwS_of v1 v2 v3 v4 v5 hC1 hH1 hlo1) l0 l4 (by decide) (by omega) (by decide +kernel) (by decide +kernel) (by decide +kernel) (by decide +kernel) (by decide +kernel) ?_
  refine ldS (k := 2) hx hb (lwS_of v1 v2 v3 v4 v5 hC1 hH1 hlo1) l0 l4 (by decide) (by omega) (by decide +kernel) (by decide +kernel) (by decide +kernel) (by decide +kernel) (by decide +kernel) ?_
  refine ldS (k := 3) hx hb (lwS_of v1 v2 v3 v4 v5 hC1 hH1 hlo1) l0 l4 (by decide) (by omega) (by decide +kernel) (by decide +kernel) (by decide +kernel) (by decide +kernel) (by decide +kernel) ?_
  rw [← aV_i (G := G) (v := xs (iN + 1)), ← aV_i (G := G) (v := xs (iN + 2)), ← aV_i (G := G) (v := xs (iN + 3))]
  refine lwCall (y := iX12_treaty) (r := 210) (x := 89) (A := [(0, (xs (iN + 1)).toInt), (0, (xs (iN + 2)).toInt), (0, (xs (iN + 3)).toInt)]) (rest := [.int (Int32.ofInt w)]) hX (by decide +kernel) rfl (by rw [hK1 210 rfl]; decide +kernel) (by decide +kernel) hM (aOkCo (aOk_i (i32_v _)) (aOkCo (aOk_i (i32_v _)) (aOkCo (aOk_i (i32_v _)) (fun v hv => by cases hv)))) hC1 hH1 hlo1 l7 (by show 1 + 0 ≤ 8; decide) (gW (by decide +kernel)) (by decide +kernel) (fun w2 st2 H2 locs2 hM2 hw2 hC2 hH2 hlo2 => ?_)
  obtain ⟨ew2, iw2⟩ := rv_ok (G := G) (by decide +kernel) hw2
  rw [ew2]
  obtain ⟨rfl, hG2⟩ := hM2
  exact lv_icmp_eq (tgt := 1342) hx hb (by decide +kernel : decode code 768 = .ok (.if_icmp .eq 574, 3)) (by decide) (fun _ => hE st2 H2 locs2 hG2 hC2 hH2 hlo2) (fun q => absurd rfl q)
theorem lw_left (hX : aCtx G 32 mL_law p R s m args meth c) (hv : va_X b Ls xs s s.heap ∧ b < s.heap.size ∧ Ls ≤ 3584 ∧ G.1.1 + 1 = s.heap.size ∧ G.2.2.2.1 = s.heap) (hl : lwL ls b (aAd G 1) (aAd G 210) (aAd G 278) iN) (hi : iN + 6 < Ls) (hE : lwE G l p e R s m args below meth c Q s0 ls) (hG : GIv s0 st) (hC : aCan st) (hH : aHold G st H) (hlo : ∀ q ∈ locs, G.1.1 < q.base)
    (hg : VM G l 31 iX11_left [rf 1, (0, (xs (iN + 1)).toInt)] st (fun w st1 => Kn st1.1 ∧ VM G l 31 iX12_left [rf 210, (0, (xs (iN + 1)).toInt)] st1 (fun w' st2 => w' = w ∧ GIv s0 st2))) : W p l e R s m args below meth c H locs 3000 200000 Q (F0 m 773 ls []) := by
  obtain ⟨v1, v2, v3, v4, v5⟩ := hv
  obtain ⟨l7, l0, l1, l2, l3, l4⟩ := hl
  have hx := hX.1
  have hb := hX.2.1
  refine lv_aload_n hx hb (by decide +kernel : decode code 773 = .ok (.aload_n 1, 1)) rfl l1 ?_
  refine ldS (k := 1) hx hb (lwS_of v1 v2 v3 v4 v5 hC hH hlo) l0 l4 (by decide) (by omega) (by decide +kernel) (by decide +kernel) (by decide +kernel) (by decide +kernel) (by decide +kernel) ?_
  rw [← aV_i (G := G) (v := xs (iN + 1))]
  refine lwCall (y := iX11_left) (r := 1) (x := 90) (A := [(0, (xs (iN + 1)).toInt)]) (rest := []) hX (by decide +kernel) rfl ((GIv_k1 hG).1.trans (by decide +kernel)) (by decide +kernel) hg (aOkCo (aOk_i (i32_v _)) (fun v hv => by cases hv)) hC hH hlo l7 (by decide) (gW (by decide +kernel)) (by decide +kernel) (fun w st1 H1 locs1 hM hw hC1 hH1 hlo1 => ?_)
  obtain ⟨hK1, hM⟩ := hM
  obtain ⟨ew, iw⟩ := rv_ok (G := G) (by decide +kernel) hw
  rw [ew]
  refine lv_aload_n hx hb (by decide +kernel : decode code 783 = .ok (.aload_n 2, 1)) rfl l2 ?_
  refine ldS (k := 1) hx hb (lwS_of v1 v2 v3 v4 v5 hC1 hH1 hlo1) l0 l4 (by decide) (by omega) (by decide +kernel) (by decide +kernel) (by decide +kernel) (by decide +kernel) (by decide +kernel) ?_
  rw [← aV_i (G := G) (v := xs (iN + 1))]
  refine lwCall (y := iX12_left) (r := 210) (x := 93) (A := [(0, (xs (iN + 1)).toInt)]) (rest := [.int (Int32.ofInt w)]) hX (by decide +kernel) rfl (by rw [hK1 210 rfl]; decide +kernel) (by decide +kernel) hM (aOkCo (aOk_i (i32_v _)) (fun v hv => by cases hv)) hC1 hH1 hlo1 l7 (by show 1 + 0 ≤ 8; decide) (gW (by decide +kernel)) (by decide +kernel) (fun w2 st2 H2 locs2 hM2 hw2 hC2 hH2 hlo2 => ?_)
  obtain ⟨ew2, iw2⟩ := rv_ok (G := G) (by decide +kernel) hw2
  rw [ew2]
  obtain ⟨rfl, hG2⟩ := hM2
  exact lv_icmp_eq (tgt := 1342) hx hb (by decide +kernel : decode code 793 = .ok (.if_icmp .eq 549, 3)) (by decide) (fun _ => hE st2 H2 locs2 hG2 hC2 hH2 hlo2) (fun q => absurd rfl q)
theorem lw_commute (hX : aCtx G 32 mL_law p R s m args meth c) (hv : va_X b Ls xs s s.heap ∧ b < s.heap.size ∧ Ls ≤ 3584 ∧ G.1.1 + 1 = s.heap.size ∧ G.2.2.2.1 = s.heap) (hl : lwL ls b (aAd G 1) (aAd G 210) (aAd G 278) iN) (hi : iN + 6 < Ls) (hE : lwE G l p e R s m args below meth c Q s0 ls) (hG : GIv s0 st) (hC : aCan st) (hH : aHold G st H) (hlo : ∀ q ∈ locs, G.1.1 < q.base)
    (hg : VM G l 31 iX11_commute [rf 1, (0, (xs (iN + 1)).toInt), (0, (xs (iN + 2)).toInt)] st (fun w st1 => Kn st1.1 ∧ VM G l 31 iX12_commute [rf 210, (0, (xs (iN + 1)).toInt), (0, (xs (iN + 2)).toInt)] st1 (fun w' st2 => w' = w ∧ GIv s0 st2))) : W p l e R s m args below meth c H locs 3000 200000 Q (F0 m 798 ls []) := by
  obtain ⟨v1, v2, v3, v4, v5⟩ := hv
  obtain ⟨l7, l0, l1, l2, l3, l4⟩ := hl
  have hx := hX.1
  have hb := hX.2.1
  refine lv_aload_n hx hb (by decide +kernel : decode code 798 = .ok (.aload_n 1, 1)) rfl l1 ?_
  refine ldS (k := 1) hx hb (lwS_of v1 v2 v3 v4 v5 hC hH hlo) l0 l4 (by decide) (by omega) (by decide +kernel) (by decide +kernel) (by decide +kernel) (by decide +kernel) (by decide +kernel) ?_
  refine ldS (k := 2) hx hb (lwS_of v1 v2 v3 v4 v5 hC hH hlo) l0 l4 (by decide) (by omega) (by decide +kernel) (by decide +kernel) (by decide +kernel) (by decide +kernel) (by decide +kernel) ?_
  rw [← aV_i (G := G) (v := xs (iN + 1)), ← aV_i (G := G) (v := xs (iN + 2))]
  refine lwCall (y := iX11_commute) (r := 1) (x := 94) (A := [(0, (xs (iN + 1)).toInt), (0, (xs (iN + 2)).toInt)]) (rest := []) hX (by decide +kernel) rfl ((GIv_k1 hG).1.trans (by decide +kernel)) (by decide +kernel) hg (aOkCo (aOk_i (i32_v _)) (aOkCo (aOk_i (i32_v _)) (fun v hv => by cases hv))) hC hH hlo l7 (by decide) (gW (by decide +kernel)) (by decide +kernel) (fun w st1 H1 locs1 hM hw hC1 hH1 hlo1 => ?_)
  obtain ⟨hK1, hM⟩ := hM
  obtain ⟨ew, iw⟩ := rv_ok (G := G) (by decide +kernel) hw
  rw [ew]
  refine lv_aload_n hx hb (by decide +kernel : decode code 814 = .ok (.aload_n 2, 1)) rfl l2 ?_
  refine ldS (k := 1) hx hb (lwS_of v1 v2 v3 v4 v5 hC1 hH1 hlo1) l0 l4 (by decide) (by omega) (by decide +kernel) (by decide +kernel) (by decide +kernel) (by decide +kernel) (by decide +kernel) ?_
  refine ldS (k := 2) hx hb (lwS_of v1 v2 v3 v4 v5 hC1 hH1 hlo1) l0 l4 (by decide) (by omega) (by decide +kernel) (by decide +kernel) (by decide +kernel) (by decide +kernel) (by decide +kernel) ?_
  rw [← aV_i (G := G) (v := xs (iN + 1)), ← aV_i (G := G) (v := xs (iN + 2))]
  refine lwCall (y := iX12_commute) (r := 210) (x := 97) (A := [(0, (xs (iN + 1)).toInt), (0, (xs (iN + 2)).toInt)]) (rest := [.int (Int32.ofInt w)]) hX (by decide +kernel) rfl (by rw [hK1 210 rfl]; decide +kernel) (by decide +kernel) hM (aOkCo (aOk_i (i32_v _)) (aOkCo (aOk_i (i32_v _)) (fun v hv => by cases hv))) hC1 hH1 hlo1 l7 (by show 1 + 0 ≤ 8; decide) (gW (by decide +kernel)) (by decide +kernel) (fun w2 st2 H2 locs2 hM2 hw2 hC2 hH2 hlo2 => ?_)
  obtain ⟨ew2, iw2⟩ := rv_ok (G := G) (by decide +kernel) hw2
  rw [ew2]
  obtain ⟨rfl, hG2⟩ := hM2
  exact lv_icmp_eq (tgt := 1342) hx hb (by decide +kernel : decode code 830 = .ok (.if_icmp .eq 512, 3)) (by decide) (fun _ => hE st2 H2 locs2 hG2 hC2 hH2 hlo2) (fun q => absurd rfl q)
theorem lw_wants (hX : aCtx G 32 mL_law p R s m args meth c) (hv : va_X b Ls xs s s.heap ∧ b < s.heap.size ∧ Ls ≤ 3584 ∧ G.1.1 + 1 = s.heap.size ∧ G.2.2.2.1 = s.heap) (hl : lwL ls b (aAd G 1) (aAd G 210) (aAd G 278) iN) (hi : iN + 6 < Ls) (hE : lwE G l p e R s m args below meth c Q s0 ls) (hG : GIv s0 st) (hC : aCan st) (hH : aHold G st H) (hlo : ∀ q ∈ locs, G.1.1 < q.base)
    (hg : VM G l 31 iX11_wants [rf 1, (0, (xs (iN + 1)).toInt)] st (fun w st1 => Kn st1.1 ∧ VM G l 31 iX12_wants [rf 210, (0, (xs (iN + 1)).toInt)] st1 (fun w' st2 => w' = w ∧ GIv s0 st2))) : W p l e R s m args below meth c H locs 3000 200000 Q (F0 m 959 ls []) := by
  obtain ⟨v1, v2, v3, v4, v5⟩ := hv
  obtain ⟨l7, l0, l1, l2, l3, l4⟩ := hl
  have hx := hX.1
  have hb := hX.2.1
  refine lv_aload_n hx hb (by decide +kernel : decode code 959 = .ok (.aload_n 1, 1)) rfl l1 ?_
  refine ldS (k := 1) hx hb (lwS_of v1 v2 v3 v4 v5 hC hH hlo) l0 l4 (by decide) (by omega) (by decide +kernel) (by decide +kernel) (by decide +kernel) (by decide +kernel) (by decide +kernel) ?_
  rw [← aV_i (G := G) (v := xs (iN + 1))]
  refine lwCall (y := iX11_wants) (r := 1) (x := 111) (A := [(0, (xs (iN + 1)).toInt)]) (rest := []) hX (by decide +kernel) rfl ((GIv_k1 hG).1.trans (by decide +kernel)) (by decide +kernel) hg (aOkCo (aOk_i (i32_v _)) (fun v hv => by cases hv)) hC hH hlo l7 (by decide) (gW (by decide +kernel)) (by decide +kernel) (fun w st1 H1 locs1 hM hw hC1 hH1 hlo1 => ?_)
  obtain ⟨hK1, hM⟩ := hM
  obtain ⟨ew, iw⟩ := rv_ok (G := G) (by decide +kernel) hw
  rw [ew]
  refine lv_aload_n hx hb (by decide +kernel : decode code 969 = .ok (.aload_n 2, 1)) rfl l2 ?_
  refine ldS (k := 1) hx hb (lwS_of v1 v2 v3 v4 v5 hC1 hH1 hlo1) l0 l4 (by decide) (by omega) (by decide +kernel) (by decide +kernel) (by decide +kernel) (by decide +kernel) (by decide +kernel) ?_
  rw [← aV_i (G := G) (v := xs (iN + 1))]
  refine lwCall (y := iX12_wants) (r := 210) (x := 114) (A := [(0, (xs (iN + 1)).toInt)]) (rest := [.int (Int32.ofInt w)]) hX (by decide +kernel) rfl (by rw [hK1 210 rfl]; decide +kernel) (by decide +kernel) hM (aOkCo (aOk_i (i32_v _)) (fun v hv => by cases hv)) hC1 hH1 hlo1 l7 (by show 1 + 0 ≤ 8; decide) (gW (by decide +kernel)) (by decide +kernel) (fun w2 st2 H2 locs2 hM2 hw2 hC2 hH2 hlo2 => ?_)
  obtain ⟨ew2, iw2⟩ := rv_ok (G := G) (by decide +kernel) hw2
  rw [ew2]
  obtain ⟨rfl, hG2⟩ := hM2
  exact lv_icmp_eq (tgt := 1342) hx hb (by decide +kernel : decode code 979 = .ok (.if_icmp .eq 363, 3)) (by decide) (fun _ => hE st2 H2 locs2 hG2 hC2 hH2 hlo2) (fun q => absurd rfl q)
theorem lw_worst (hX : aCtx G 32 mL_law p R s m args meth c) (hv : va_X b Ls xs s s.heap ∧ b < s.heap.size ∧ Ls ≤ 3584 ∧ G.1.1 + 1 = s.heap.size ∧ G.2.2.2.1 = s.heap) (hl : lwL ls b (aAd G 1) (aAd G 210) (aAd G 278) iN) (hi : iN + 6 < Ls) (hE : lwE G l p e R s m args below meth c Q s0 ls) (hG : GIv s0 st) (hC : aCan st) (hH : aHold G st H) (hlo : ∀ q ∈ locs, G.1.1 < q.base)
    (hg : VM G l 31 iX11_worst [rf 1, (0, (xs (iN + 1)).toInt), (0, (xs (iN + 2)).toInt)] st (fun w st1 => Kn st1.1 ∧ VM G l 31 iX12_worst [rf 210, (0, (xs (iN + 1)).toInt), (0, (xs (iN + 2)).toInt)] st1 (fun w' st2 => w' = w ∧ GIv s0 st2))) : W p l e R s m args below meth c H locs 3000 200000 Q (F0 m 984 ls []) := by
  obtain ⟨v1, v2, v3, v4, v5⟩ := hv
  obtain ⟨l7, l0, l1, l2, l3, l4⟩ := hl
  have hx := hX.1
  have hb := hX.2.1
  refine lv_aload_n hx hb (by decide +kernel : decode code 984 = .ok (.aload_n 1, 1)) rfl l1 ?_
  refine ldS (k := 1) hx hb (lwS_of v1 v2 v3 v4 v5 hC hH hlo) l0 l4 (by decide) (by omega) (by decide +kernel) (by decide +kernel) (by decide +kernel) (by decide +kernel) (by decide +kernel) ?_
  refine ldS (k := 2) hx hb (lwS_of v1 v2 v3 v4 v5 hC hH hlo) l0 l4 (by decide) (by omega) (by decide +kernel) (by decide +kernel) (by decide +kernel) (by decide +kernel) (by decide +kernel) ?_
  rw [← aV_i (G := G) (v := xs (iN + 1)), ← aV_i (G := G) (v := xs (iN + 2))]
  refine lwCall (y := iX11_worst) (r := 1) (x := 115) (A := [(0, (xs (iN + 1)).toInt), (0, (xs (iN + 2)).toInt)]) (rest := []) hX (by decide +kernel) rfl ((GIv_k1 hG).1.trans (by decide +kernel)) (by decide +kernel) hg (aOkCo (aOk_i (i32_v _)) (aOkCo (aOk_i (i32_v _)) (fun v hv => by cases hv))) hC hH hlo l7 (by decide) (gW (by decide +kernel)) (by decide +kernel) (fun w st1 H1 locs1 hM hw hC1 hH1 hlo1 => ?_)
  obtain ⟨hK1, hM⟩ := hM
  obtain ⟨ew, iw⟩ := rv_ok (G := G) (by decide +kernel) hw
  rw [ew]
  refine lv_aload_n hx hb (by decide +kernel : decode code 1000 = .ok (.aload_n 2, 1)) rfl l2 ?_
  refine ldS (k := 1) hx hb (lwS_of v1 v2 v3 v4 v5 hC1 hH1 hlo1) l0 l4 (by decide) (by omega) (by decide +kernel) (by decide +kernel) (by decide +kernel) (by decide +kernel) (by decide +kernel) ?_
  refine ldS (k := 2) hx hb (lwS_of v1 v2 v3 v4 v5 hC1 hH1 hlo1) l0 l4 (by decide) (by omega) (by decide +kernel) (by decide +kernel) (by decide +kernel) (by decide +kernel) (by decide +kernel) ?_
  rw [← aV_i (G := G) (v := xs (iN + 1)), ← aV_i (G := G) (v := xs (iN + 2))]
  refine lwCall (y := iX12_worst) (r := 210) (x := 118) (A := [(0, (xs (iN + 1)).toInt), (0, (xs (iN + 2)).toInt)]) (rest := [.int (Int32.ofInt w)]) hX (by decide +kernel) rfl (by rw [hK1 210 rfl]; decide +kernel) (by decide +kernel) hM (aOkCo (aOk_i (i32_v _)) (aOkCo (aOk_i (i32_v _)) (fun v hv => by cases hv))) hC1 hH1 hlo1 l7 (by show 1 + 0 ≤ 8; decide) (gW (by decide +kernel)) (by decide +kernel) (fun w2 st2 H2 locs2 hM2 hw2 hC2 hH2 hlo2 => ?_)
  obtain ⟨ew2, iw2⟩ := rv_ok (G := G) (by decide +kernel) hw2
  rw [ew2]
  obtain ⟨rfl, hG2⟩ := hM2
  exact lv_icmp_eq (tgt := 1342) hx hb (by decide +kernel : decode code 1016 = .ok (.if_icmp .eq 326, 3)) (by decide) (fun _ => hE st2 H2 locs2 hG2 hC2 hH2 hlo2) (fun q => absurd rfl q)
theorem lw_purse (hX : aCtx G 32 mL_law p R s m args meth c) (hv : va_X b Ls xs s s.heap ∧ b < s.heap.size ∧ Ls ≤ 3584 ∧ G.1.1 + 1 = s.heap.size ∧ G.2.2.2.1 = s.heap) (hl : lwL ls b (aAd G 1) (aAd G 210) (aAd G 278) iN) (hi : iN + 6 < Ls) (hE : lwE G l p e R s m args below meth c Q s0 ls) (hG : GIv s0 st) (hC : aCan st) (hH : aHold G st H) (hlo : ∀ q ∈ locs, G.1.1 < q.base)
    (hg : VM G l 31 iX11_purse [rf 1, (0, (xs (iN + 1)).toInt), (0, (xs (iN + 2)).toInt)] st (fun w st1 => Kn st1.1 ∧ VM G l 31 iX12_purse [rf 210, (0, (xs (iN + 1)).toInt), (0, (xs (iN + 2)).toInt)] st1 (fun w' st2 => w' = w ∧ GIv s0 st2))) : W p l e R s m args below meth c H locs 3000 200000 Q (F0 m 1021 ls []) := by
  obtain ⟨v1, v2, v3, v4, v5⟩ := hv
  obtain ⟨l7, l0, l1, l2, l3, l4⟩ := hl
  have hx := hX.1
  have hb := hX.2.1
  refine lv_aload_n hx hb (by decide +kernel : decode code 1021 = .ok (.aload_n 1, 1)) rfl l1 ?_
  refine ldS (k := 1) hx hb (lwS_of v1 v2 v3 v4 v5 hC hH hlo) l0 l4 (by decide) (by omega) (by decide +kernel) (by decide +kernel) (by decide +kernel) (by decide +kernel) (by decide +kernel) ?_
  refine ldS (k := 2) hx hb (lwS_of v1 v2 v3 v4 v5 hC hH hlo) l0 l4 (by decide) (by omega) (by decide +kernel) (by decide +kernel) (by decide +kernel) (by decide +kernel) (by decide +kernel) ?_
  rw [← aV_i (G := G) (v := xs (iN + 1)), ← aV_i (G := G) (v := xs (iN + 2))]
  refine lwCall (y := iX11_purse) (r := 1) (x := 119) (A := [(0, (xs (iN + 1)).toInt), (0, (xs (iN + 2)).toInt)]) (rest := []) hX (by decide +kernel) rfl ((GIv_k1 hG).1.trans (by decide +kernel)) (by decide +kernel) hg (aOkCo (aOk_i (i32_v _)) (aOkCo (aOk_i (i32_v _)) (fun v hv => by cases hv))) hC hH hlo l7 (by decide) (gW (by decide +kernel)) (by decide +kernel) (fun w st1 H1 locs1 hM hw hC1 hH1 hlo1 => ?_)
  obtain ⟨hK1, hM⟩ := hM
  obtain ⟨ew, iw⟩ := rv_ok (G := G) (by decide +kernel) hw
  rw [ew]
  refine lv_aload_n hx hb (by decide +kernel : decode code 1037 = .ok (.aload_n 2, 1)) rfl l2 ?_
  refine ldS (k := 1) hx hb (lwS_of v1 v2 v3 v4 v5 hC1 hH1 hlo1) l0 l4 (by decide) (by omega) (by decide +kernel) (by decide +kernel) (by decide +kernel) (by decide +kernel) (by decide +kernel) ?_
  refine ldS (k := 2) hx hb (lwS_of v1 v2 v3 v4 v5 hC1 hH1 hlo1) l0 l4 (by decide) (by omega) (by decide +kernel) (by decide +kernel) (by decide +kernel) (by decide +kernel) (by decide +kernel) ?_
  rw [← aV_i (G := G) (v := xs (iN + 1)), ← aV_i (G := G) (v := xs (iN + 2))]
  refine lwCall (y := iX12_purse) (r := 210) (x := 122) (A := [(0, (xs (iN + 1)).toInt), (0, (xs (iN + 2)).toInt)]) (rest := [.int (Int32.ofInt w)]) hX (by decide +kernel) rfl (by rw [hK1 210 rfl]; decide +kernel) (by decide +kernel) hM (aOkCo (aOk_i (i32_v _)) (aOkCo (aOk_i (i32_v _)) (fun v hv => by cases hv))) hC1 hH1 hlo1 l7 (by show 1 + 0 ≤ 8; decide) (gW (by decide +kernel)) (by decide +kernel) (fun w2 st2 H2 locs2 hM2 hw2 hC2 hH2 hlo2 => ?_)
  obtain ⟨ew2, iw2⟩ := rv_ok (G := G) (by decide +kernel) hw2
  rw [ew2]
  obtain ⟨rfl, hG2⟩ := hM2
  exact lv_icmp_eq (tgt := 1342) hx hb (by decide +kernel : decode code 1053 = .ok (.if_icmp .eq 289, 3)) (by decide) (fun _ => hE st2 H2 locs2 hG2 hC2 hH2 hlo2) (fun q => absurd rfl q)
theorem lw_known (hX : aCtx G 32 mL_law p R s m args meth c) (hv : va_X b Ls xs s s.heap ∧ b < s.heap.size ∧ Ls ≤ 3584 ∧ G.1.1 + 1 = s.heap.size ∧ G.2.2.2.1 = s.heap) (hl : lwL ls b (aAd G 1) (aAd G 210) (aAd G 278) iN) (hi : iN + 6 < Ls) (hE : lwE G l p e R s m args below meth c Q s0 ls) (hG : GIv s0 st) (hC : aCan st) (hH : aHold G st H) (hlo : ∀ q ∈ locs, G.1.1 < q.base)
    (hg : VM G l 31 iX11_known [rf 1, (0, (xs (iN + 1)).toInt), (0, (xs (iN + 2)).toInt), (0, (xs (iN + 3)).toInt)] st (fun w st1 => Kn st1.1 ∧ VM G l 31 iX12_known [rf 210, (0, (xs (iN + 1)).toInt), (0, (xs (iN + 2)).toInt), (0, (xs (iN + 3)).toInt)] st1 (fun w' st2 => w' = w ∧ GIv s0 st2))) : W p l e R s m args below meth c H locs 3000 200000 Q (F0 m 1126 ls []) := by
  obtain ⟨v1, v2, v3, v4, v5⟩ := hv
  obtain ⟨l7, l0, l1, l2, l3, l4⟩ := hl
  have hx := hX.1
  have hb := hX.2.1
  refine lv_aload_n hx hb (by decide +kernel : decode code 1126 = .ok (.aload_n 1, 1)) rfl l1 ?_
  refine ldS (k := 1) hx hb (lwS_of v1 v2 v3 v4 v5 hC hH hlo) l0 l4 (by decide) (by omega) (by decide +kernel) (by decide +kernel) (by decide +kernel) (by decide +kernel) (by decide +kernel) ?_
  refine ldS (k := 2) hx hb (lwS_of v1 v2 v3 v4 v5 hC hH hlo) l0 l4 (by decide) (by omega) (by decide +kernel) (by decide +kernel) (by decide +kernel) (by decide +kernel) (by decide +kernel) ?_
  refine ldS (k := 3) hx hb (lwS_of v1 v2 v3 v4 v5 hC hH hlo) l0 l4 (by decide) (by omega) (by decide +kernel) (by decide +kernel) (by decide +kernel) (by decide +kernel) (by decide +kernel) ?_
  rw [← aV_i (G := G) (v := xs (iN + 1)), ← aV_i (G := G) (v := xs (iN + 2)), ← aV_i (G := G) (v := xs (iN + 3))]
  refine lwCall (y := iX11_known) (r := 1) (x := 126) (A := [(0, (xs (iN + 1)).toInt), (0, (xs (iN + 2)).toInt), (0, (xs (iN + 3)).toInt)]) (rest := []) hX (by decide +kernel) rfl ((GIv_k1 hG).1.trans (by decide +kernel)) (by decide +kernel) hg (aOkCo (aOk_i (i32_v _)) (aOkCo (aOk_i (i32_v _)) (aOkCo (aOk_i (i32_v _)) (fun v hv => by cases hv)))) hC hH hlo l7 (by decide) (gW (by decide +kernel)) (by decide +kernel) (fun w st1 H1 locs1 hM hw hC1 hH1 hlo1 => ?_)
  obtain ⟨hK1, hM⟩ := hM
  obtain ⟨ew, iw⟩ := rv_ok (G := G) (by decide +kernel) hw
  rw [ew]
  refine lv_aload_n hx hb (by decide +kernel : decode code 1148 = .ok (.aload_n 2, 1)) rfl l2 ?_
  refine ldS (k := 1) hx hb (lwS_of v1 v2 v3 v4 v5 hC1 hH1 hlo1) l0 l4 (by decide) (by omega) (by decide +kernel) (by decide +kernel) (by decide +kernel) (by decide +kernel) (by decide +kernel) ?_
  refine ldS (k := 2) hx hb (lwS_of v1 v2 v3 v4 v5 hC1 hH1 hlo1) l0 l4 (by decide) (by omega) (by decide +kernel) (by decide +kernel) (by decide +kernel) (by decide +kernel) (by decide +kernel) ?_
  refine ldS (k := 3) hx hb (lwS_of v1 v2 v3 v4 v5 hC1 hH1 hlo1) l0 l4 (by decide) (by omega) (by decide +kernel) (by decide +kernel) (by decide +kernel) (by decide +kernel) (by decide +kernel) ?_
  rw [← aV_i (G := G) (v := xs (iN + 1)), ← aV_i (G := G) (v := xs (iN + 2)), ← aV_i (G := G) (v := xs (iN + 3))]
  refine lwCall (y := iX12_known) (r := 210) (x := 129) (A := [(0, (xs (iN + 1)).toInt), (0, (xs (iN + 2)).toInt), (0, (xs (iN + 3)).toInt)]) (rest := [.int (Int32.ofInt w)]) hX (by decide +kernel) rfl (by rw [hK1 210 rfl]; decide +kernel) (by decide +kernel) hM (aOkCo (aOk_i (i32_v _)) (aOkCo (aOk_i (i32_v _)) (aOkCo (aOk_i (i32_v _)) (fun v hv => by cases hv)))) hC1 hH1 hlo1 l7 (by show 1 + 0 ≤ 8; decide) (gW (by decide +kernel)) (by decide +kernel) (fun w2 st2 H2 locs2 hM2 hw2 hC2 hH2 hlo2 => ?_)
  obtain ⟨ew2, iw2⟩ := rv_ok (G := G) (by decide +kernel) hw2
  rw [ew2]
  obtain ⟨rfl, hG2⟩ := hM2
  exact lv_icmp_eq (tgt := 1342) hx hb (by decide +kernel : decode code 1170 = .ok (.if_icmp .eq 172, 3)) (by decide) (fun _ => hE st2 H2 locs2 hG2 hC2 hH2 hlo2) (fun q => absurd rfl q)
theorem lw_factor (hX : aCtx G 32 mL_law p R s m args meth c) (hv : va_X b Ls xs s s.heap ∧ b < s.heap.size ∧ Ls ≤ 3584 ∧ G.1.1 + 1 = s.heap.size ∧ G.2.2.2.1 = s.heap) (hl : lwL ls b (aAd G 1) (aAd G 210) (aAd G 278) iN) (hi : iN + 6 < Ls) (hE : lwE G l p e R s m args below meth c Q s0 ls) (hG : GIv s0 st) (hC : aCan st) (hH : aHold G st H) (hlo : ∀ q ∈ locs, G.1.1 < q.base)
    (hg : VM G l 31 iX11_factor [rf 1, (0, (xs (iN + 1)).toInt), (0, (xs (iN + 2)).toInt)] st (fun w st1 => Kn st1.1 ∧ VM G l 31 iX12_factor [rf 210, (0, (xs (iN + 1)).toInt), (0, (xs (iN + 2)).toInt)] st1 (fun w' st2 => w' = w ∧ GIv s0 st2))) : W p l e R s m args below meth c H locs 3000 200000 Q (F0 m 1175 ls []) := by
  obtain ⟨v1, v2, v3, v4, v5⟩ := hv
  obtain ⟨l7, l0, l1, l2, l3, l4⟩ := hl
  have hx := hX.1
  have hb := hX.2.1
  refine lv_aload_n hx hb (by decide +kernel : decode code 1175 = .ok (.aload_n 1, 1)) rfl l1 ?_
  refine ldS (k := 1) hx hb (lwS_of v1 v2 v3 v4 v5 hC hH hlo) l0 l4 (by decide) (by omega) (by decide +kernel) (by decide +kernel) (by decide +kernel) (by decide +kernel) (by decide +kernel) ?_
  refine ldS (k := 2) hx hb (lwS_of v1 v2 v3 v4 v5 hC hH hlo) l0 l4 (by decide) (by omega) (by decide +kernel) (by decide +kernel) (by decide +kernel) (by decide +kernel) (by decide +kernel) ?_
  rw [← aV_i (G := G) (v := xs (iN + 1)), ← aV_i (G := G) (v := xs (iN + 2))]
  refine lwCall (y := iX11_factor) (r := 1) (x := 130) (A := [(0, (xs (iN + 1)).toInt), (0, (xs (iN + 2)).toInt)]) (rest := []) hX (by decide +kernel) rfl ((GIv_k1 hG).1.trans (by decide +kernel)) (by decide +kernel) hg (aOkCo (aOk_i (i32_v _)) (aOkCo (aOk_i (i32_v _)) (fun v hv => by cases hv))) hC hH hlo l7 (by decide) (gW (by decide +kernel)) (by decide +kernel) (fun w st1 H1 locs1 hM hw hC1 hH1 hlo1 => ?_)
  obtain ⟨hK1, hM⟩ := hM
  obtain ⟨ew, iw⟩ := rv_ok (G := G) (by decide +kernel) hw
  rw [ew]
  refine lv_aload_n hx hb (by decide +kernel : decode code 1191 = .ok (.aload_n 2, 1)) rfl l2 ?_
  refine ldS (k := 1) hx hb (lwS_of v1 v2 v3 v4 v5 hC1 hH1 hlo1) l0 l4 (by decide) (by omega) (by decide +kernel) (by decide +kernel) (by decide +kernel) (by decide +kernel) (by decide +kernel) ?_
  refine ldS (k := 2) hx hb (lwS_of v1 v2 v3 v4 v5 hC1 hH1 hlo1) l0 l4 (by decide) (by omega) (by decide +kernel) (by decide +kernel) (by decide +kernel) (by decide +kernel) (by decide +kernel) ?_
  rw [← aV_i (G := G) (v := xs (iN + 1)), ← aV_i (G := G) (v := xs (iN + 2))]
  refine lwCall (y := iX12_factor) (r := 210) (x := 133) (A := [(0, (xs (iN + 1)).toInt), (0, (xs (iN + 2)).toInt)]) (rest := [.int (Int32.ofInt w)]) hX (by decide +kernel) rfl (by rw [hK1 210 rfl]; decide +kernel) (by decide +kernel) hM (aOkCo (aOk_i (i32_v _)) (aOkCo (aOk_i (i32_v _)) (fun v hv => by cases hv))) hC1 hH1 hlo1 l7 (by show 1 + 0 ≤ 8; decide) (gW (by decide +kernel)) (by decide +kernel) (fun w2 st2 H2 locs2 hM2 hw2 hC2 hH2 hlo2 => ?_)
  obtain ⟨ew2, iw2⟩ := rv_ok (G := G) (by decide +kernel) hw2
  rw [ew2]
  obtain ⟨rfl, hG2⟩ := hM2
  exact lv_icmp_eq (tgt := 1342) hx hb (by decide +kernel : decode code 1207 = .ok (.if_icmp .eq 135, 3)) (by decide) (fun _ => hE st2 H2 locs2 hG2 hC2 hH2 hlo2) (fun q => absurd rfl q)
theorem lw_foretold (hX : aCtx G 32 mL_law p R s m args meth c) (hv : va_X b Ls xs s s.heap ∧ b < s.heap.size ∧ Ls ≤ 3584 ∧ G.1.1 + 1 = s.heap.size ∧ G.2.2.2.1 = s.heap) (hl : lwL ls b (aAd G 1) (aAd G 210) (aAd G 278) iN) (hi : iN + 6 < Ls) (hE : lwE G l p e R s m args below meth c Q s0 ls) (hG : GIv s0 st) (hC : aCan st) (hH : aHold G st H) (hlo : ∀ q ∈ locs, G.1.1 < q.base)
    (hg : VM G l 31 iX11_foretold [rf 1, (0, (xs (iN + 1)).toInt), (0, (xs (iN + 2)).toInt)] st (fun w st1 => Kn st1.1 ∧ VM G l 31 iX12_foretold [rf 210, (0, (xs (iN + 1)).toInt), (0, (xs (iN + 2)).toInt)] st1 (fun w' st2 => w' = w ∧ GIv s0 st2))) : W p l e R s m args below meth c H locs 3000 200000 Q (F0 m 1212 ls []) := by
  obtain ⟨v1, v2, v3, v4, v5⟩ := hv
  obtain ⟨l7, l0, l1, l2, l3, l4⟩ := hl
  have hx := hX.1
  have hb := hX.2.1
  refine lv_aload_n hx hb (by decide +kernel : decode code 1212 = .ok (.aload_n 1, 1)) rfl l1 ?_
  refine ldS (k := 1) hx hb (lwS_of v1 v2 v3 v4 v5 hC hH hlo) l0 l4 (by decide) (by omega) (by decide +kernel) (by decide +kernel) (by decide +kernel) (by decide +kernel) (by decide +kernel) ?_
  refine ldS (k := 2) hx hb (lwS_of v1 v2 v3 v4 v5 hC hH hlo) l0 l4 (by decide) (by omega) (by decide +kernel) (by decide +kernel) (by decide +kernel) (by decide +kernel) (by decide +kernel) ?_
  rw [← aV_i (G := G) (v := xs (iN + 1)), ← aV_i (G := G) (v := xs (iN + 2))]
  refine lwCall (y := iX11_foretold) (r := 1) (x := 134) (A := [(0, (xs (iN + 1)).toInt), (0, (xs (iN + 2)).toInt)]) (rest := []) hX (by decide +kernel) rfl ((GIv_k1 hG).1.trans (by decide +kernel)) (by decide +kernel) hg (aOkCo (aOk_i (i32_v _)) (aOkCo (aOk_i (i32_v _)) (fun v hv => by cases hv))) hC hH hlo l7 (by decide) (gW (by decide +kernel)) (by decide +kernel) (fun w st1 H1 locs1 hM hw hC1 hH1 hlo1 => ?_)
  obtain ⟨hK1, hM⟩ := hM
  obtain ⟨ew, iw⟩ := rv_ok (G := G) (by decide +kernel) hw
  rw [ew]
  refine lv_aload_n hx hb (by decide +kernel : decode code 1228 = .ok (.aload_n 2, 1)) rfl l2 ?_
  refine ldS (k := 1) hx hb (lwS_of v1 v2 v3 v4 v5 hC1 hH1 hlo1) l0 l4 (by decide) (by omega) (by decide +kernel) (by decide +kernel) (by decide +kernel) (by decide +kernel) (by decide +kernel) ?_
  refine ldS (k := 2) hx hb (lwS_of v1 v2 v3 v4 v5 hC1 hH1 hlo1) l0 l4 (by decide) (by omega) (by decide +kernel) (by decide +kernel) (by decide +kernel) (by decide +kernel) (by decide +kernel) ?_
  rw [← aV_i (G := G) (v := xs (iN + 1)), ← aV_i (G := G) (v := xs (iN + 2))]
  refine lwCall (y := iX12_foretold) (r := 210) (x := 137) (A := [(0, (xs (iN + 1)).toInt), (0, (xs (iN + 2)).toInt)]) (rest := [.int (Int32.ofInt w)]) hX (by decide +kernel) rfl (by rw [hK1 210 rfl]; decide +kernel) (by decide +kernel) hM (aOkCo (aOk_i (i32_v _)) (aOkCo (aOk_i (i32_v _)) (fun v hv => by cases hv))) hC1 hH1 hlo1 l7 (by show 1 + 0 ≤ 8; decide) (gW (by decide +kernel)) (by decide +kernel) (fun w2 st2 H2 locs2 hM2 hw2 hC2 hH2 hlo2 => ?_)
  obtain ⟨ew2, iw2⟩ := rv_ok (G := G) (by decide +kernel) hw2
  rw [ew2]
  obtain ⟨rfl, hG2⟩ := hM2
  exact lv_icmp_eq (tgt := 1342) hx hb (by decide +kernel : decode code 1244 = .ok (.if_icmp .eq 98, 3)) (by decide) (fun _ => hE st2 H2 locs2 hG2 hC2 hH2 hlo2) (fun q => absurd rfl q)
theorem lw_count (hX : aCtx G 32 mL_law p R s m args meth c) (hv : va_X b Ls xs s s.heap ∧ b < s.heap.size ∧ Ls ≤ 3584 ∧ G.1.1 + 1 = s.heap.size ∧ G.2.2.2.1 = s.heap) (hl : lwL ls b (aAd G 1) (aAd G 210) (aAd G 278) iN) (hi : iN + 6 < Ls) (hE : lwE G l p e R s m args below meth c Q s0 ls) (hG : GIv s0 st) (hC : aCan st) (hH : aHold G st H) (hlo : ∀ q ∈ locs, G.1.1 < q.base)
    (hg : VM G l 31 iX11_count [rf 1, (0, (xs (iN + 1)).toInt)] st (fun w st1 => Kn st1.1 ∧ VM G l 31 iX12_count [rf 210, (0, (xs (iN + 1)).toInt)] st1 (fun w' st2 => w' = w ∧ GIv s0 st2))) : W p l e R s m args below meth c H locs 3000 200000 Q (F0 m 1317 ls []) := by
  obtain ⟨v1, v2, v3, v4, v5⟩ := hv
  obtain ⟨l7, l0, l1, l2, l3, l4⟩ := hl
  have hx := hX.1
  have hb := hX.2.1
  refine lv_aload_n hx hb (by decide +kernel : decode code 1317 = .ok (.aload_n 1, 1)) rfl l1 ?_
  refine ldS (k := 1) hx hb (lwS_of v1 v2 v3 v4 v5 hC hH hlo) l0 l4 (by decide) (by omega) (by decide +kernel) (by decide +kernel) (by decide +kernel) (by decide +kernel) (by decide +kernel) ?_
  rw [← aV_i (G := G) (v := xs (iN + 1))]
  refine lwCall (y := iX11_count) (r := 1) (x := 141) (A := [(0, (xs (iN + 1)).toInt)]) (rest := []) hX (by decide +kernel) rfl ((GIv_k1 hG).1.trans (by decide +kernel)) (by decide +kernel) hg (aOkCo (aOk_i (i32_v _)) (fun v hv => by cases hv)) hC hH hlo l7 (by decide) (gW (by decide +kernel)) (by decide +kernel) (fun w st1 H1 locs1 hM hw hC1 hH1 hlo1 => ?_)
  obtain ⟨hK1, hM⟩ := hM
  obtain ⟨ew, iw⟩ := rv_ok (G := G) (by decide +kernel) hw
  rw [ew]
  refine lv_aload_n hx hb (by decide +kernel : decode code 1327 = .ok (.aload_n 2, 1)) rfl l2 ?_
  refine ldS (k := 1) hx hb (lwS_of v1 v2 v3 v4 v5 hC1 hH1 hlo1) l0 l4 (by decide) (by omega) (by decide +kernel) (by decide +kernel) (by decide +kernel) (by decide +kernel) (by decide +kernel) ?_
  rw [← aV_i (G := G) (v := xs (iN + 1))]
  refine lwCall (y := iX12_count) (r := 210) (x := 144) (A := [(0, (xs (iN + 1)).toInt)]) (rest := [.int (Int32.ofInt w)]) hX (by decide +kernel) rfl (by rw [hK1 210 rfl]; decide +kernel) (by decide +kernel) hM (aOkCo (aOk_i (i32_v _)) (fun v hv => by cases hv)) hC1 hH1 hlo1 l7 (by show 1 + 0 ≤ 8; decide) (gW (by decide +kernel)) (by decide +kernel) (fun w2 st2 H2 locs2 hM2 hw2 hC2 hH2 hlo2 => ?_)
  obtain ⟨ew2, iw2⟩ := rv_ok (G := G) (by decide +kernel) hw2
  rw [ew2]
  obtain ⟨rfl, hG2⟩ := hM2
  exact lv_icmp_eq (tgt := 1342) hx hb (by decide +kernel : decode code 1337 = .ok (.if_icmp .eq 5, 3)) (by decide) (fun _ => hE st2 H2 locs2 hG2 hC2 hH2 hlo2) (fun q => absurd rfl q)
end
