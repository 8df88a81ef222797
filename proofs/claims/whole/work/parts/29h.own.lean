/-! ===== the law: its own objects ===== -/
section
variable {G : aCX} {l : Launch} {d : Nat} {p : Program} {e : Env} {R : Room} {s : State} {m : MethodId} {args : Array Value} {below : List Frame} {meth : Method} {c : Code} {Q : State → Prop} {pc : Nat} {st : aSt} {H : Heap} {locs : List Loc} {ls : Array Slot} {rest : List Value}
theorem lwNew {ci x : Nat} (h1 : st.2.2.1 + 1 ≤ 2000) (h2 : st.2.2.2 + aNf ci ≤ 200000) (hci : ci < 13) (hX : aCtx G d mL_law p R s m args meth c) (hw : Cond.classLink RL x (aCl ci) ∈ gTbl) (hd : decode code pc = .ok (.new x, 3)) (hC : aCan st) (hH : aHold G st H) (kk : ∀ H1 : Heap, aCan (aNew st (ci, 0, List.replicate (aNf ci) 0) (aNf ci)) → aHold G (aNew st (ci, 0, List.replicate (aNf ci) 0) (aNf ci)) H1 → W p l e R s m args below meth c H1 locs 3000 200000 Q (F0 m (pc + 3) ls (.ref (aAd G st.2.2.1) :: rest))) : W p l e R s m args below meth c H locs 3000 200000 Q (F0 m pc ls rest) := by
  obtain ⟨hx, hb, hrt, hml, hown, hts, hK, hlk, hnm, hB, hf1, hf2, hf3, hf4⟩ := hX
  obtain ⟨i1, i2, i3⟩ := ins_of hci
  have hC' := can_push hC (ci, 0, List.replicate (aNf ci) 0) h1 h2
  have c2 : 1 ≤ st.2.2.1 := hC.2.1.1
  have hKn := hK.1 ci _ (cls_at hci)
  refine W.newc hx hb hown (hts _ hw) (hts _ i1) (hts _ i2) rfl hd (by omega) (by omega) fun cC kC f1 f2 f3 f4 => ?_
  have ecA : cC = G.2.1.1 ci := Option.some.inj (f1.symm.trans hKn.2.1)
  subst ecA
  generalize hH1 : H.push ({ cls := G.2.1.1 ci, slots := kC.instanceTypes.map defaultValue, vm := .none } : Cell) = H1
  have hz := hH.1
  have z1 : H1.size = aAd G st.2.2.1 + 1 := by rw [← hH1, Array.size_push, hz]
  have e1 : H1[aAd G st.2.2.1]? = some (blank (G.2.1.1 ci) kC) := by rw [← hH1, ← hz, Array.getElem?_push_size]; rfl
  have o1 : ∀ q : Nat, q < aAd G st.2.2.1 → H1[q]? = H[q]? := fun q hq => by rw [← hH1, Array.getElem?_push, if_neg (by omega)]
  have hsz : (blank (G.2.1.1 ci) kC).slots.size = aNf ci := by rw [← f4]; simp [blank]
  obtain ⟨ty, hty⟩ := tyAll hci
  have k1 : (aNew st (ci, 0, List.replicate (aNf ci) 0) (aNf ci)).1 st.2.2.1 = (ci, 0, List.replicate (aNf ci) 0) := aUk_at
  have k2 : (aNew st (ci, 0, List.replicate (aNf ci) 0) (aNf ci)).2.1 st.2.2.1 = fun _ => 0 := aUz_at
  have hat : va_at G.2.1 vwCl (aAd G st.2.2.1, aEnt G (aNew st (ci, 0, List.replicate (aNf ci) 0) (aNf ci)) st.2.2.1) H1 := by
    rw [ent_o (st := aNew st (ci, 0, List.replicate (aNf ci) 0) (aNf ci)) (t := ci) (by rw [k1]) hci, k1, k2]
    refine ⟨_, cls_at hci, (u_born ty hts (inAll hci) hKn f2 e1 hty).to fun j hj => ?_⟩
    rw [fv_born (G := G) (n := aNf ci) (tc_of hci hj) (hty j hj)]
    show _ = (aFs G (fun _ => 0) ci (List.replicate (aNf ci) 0)).getD j .null
    rw [List.getD_eq_getElem?_getD, fs_at hj]
    rfl
  have hH' := hold_push hH hC z1 e1 o1 hsz hat
  rw [hz]
  exact W.cap hH' hC' hB (kk H1 hC' hH')
theorem lwNewL {n : Nat} (hn : i32 (Int.ofNat n)) (h1 : st.2.2.1 + 1 ≤ 2000) (h2 : st.2.2.2 + n ≤ 200000) (hX : aCtx G d mL_law p R s m args meth c) (hd : decode code pc = .ok (.newarray .long, 2)) (hC : aCan st) (hH : aHold G st H) (kk : ∀ H1 : Heap, aCan (aNew st (15, n, []) n) → aHold G (aNew st (15, n, []) n) H1 → W p l e R s m args below meth c H1 locs 3000 200000 Q (F0 m (pc + 2) ls (.ref (aAd G st.2.2.1) :: rest))) : W p l e R s m args below meth c H locs 3000 200000 Q (F0 m pc ls (.int (Int32.ofInt (Int.ofNat n)) :: rest)) := by
  obtain ⟨hx, hb, hrt, hml, hown, hts, hK, hlk, hnm, hB, hf1, hf2, hf3, hf4⟩ := hX
  have hC' := can_push hC (15, n, []) h1 h2
  have hcl : (Int32.ofInt (Int.ofNat n)).toNatClampNeg = n := by rw [of_clamp hn]; rfl
  have c2 : 1 ≤ st.2.2.1 := hC.2.1.1
  have hk : (aTys G)[2]? = some (G.2.2.1 2, .long) := rfl
  refine va_newaK (atype := .long) hx hb (hts _ w_arrL) rfl hd rfl (of_nneg hn (Int.natCast_nonneg n)) hcl (by show n * 8 ≤ _; omega) (by omega) (by omega) hH.1 fun H1 cA e1 z1 o1 hAr hNm => ?_
  have ecA : cA = G.2.2.1 2 := Option.some.inj (hNm.symm.trans (hK.2 2 _ hk).2)
  subst ecA
  have q0 : (aNew st (15, n, []) n).2.1 st.2.2.1 = fun _ => 0 := aUz_at
  have q1 : (aNew st (15, n, []) n).1 st.2.2.1 = (15, n, []) := aUk_at
  have hat : va_at G.2.1 vwCl (aAd G st.2.2.1, aEnt G (aNew st (15, n, []) n) st.2.2.1) H1 := by
    rw [ent_15 (st := aNew st (15, n, []) n) (n := n) (by rw [q1]) (by rw [q1]), q0]
    exact e1
  have hH' := hold_push (kd := (15, n, [])) hH hC z1 e1 o1 (arrV_size _ _ _) hat
  exact W.cap hH' hC' hB (kk H1 hC' hH')
theorem lwCallI {y r x : Nat} {P : Int → aSt → Prop} (hX : aCtx G 32 mL_law p R s m args meth c) (hkd : (aM y).2.2.2.2.1.2.2.1 = 1) (hlen : (aM y).2.2.2.2.1.2.2.2 = 0) (hrc : (aM y).2.2.2.1 = none) (hr : (st.1 r).1 = (aM y).2.2.2.2.1.1) (hci : (aM y).2.2.2.2.1.1 < 13) (hM : VM G l 31 y [(2, Int.ofNat r)] st P) (hC : aCan st) (hH : aHold G st H) (hlo : ∀ q ∈ locs, G.1.1 < q.base) (hls : ls.size = 7) (hct : (rest.map fun v => v.category).sum ≤ 8) (hlw : Cond.methodLink RL x (aM y).1 ∈ gTbl) (hd : decode code pc = .ok (.invokespecial x, 3))
    (kk : ∀ (w : Int) (st' : aSt) (H1 : Heap) (locs1 : List Loc), P w st' → aCan st' → aHold G st' H1 → (∀ q ∈ locs1, G.1.1 < q.base) → W p l e R s m args below meth c H1 locs1 3000 200000 Q (F0 m (pc + 3) ls ((aRv G (aM y).2.2.2.2.1.2.1 w).toList ++ rest))) : W p l e R s m args below meth c H locs 3000 200000 Q (F0 m pc ls (.ref (aAd G r) :: rest)) := by
  obtain ⟨hx, hb, hrt, hml, hown, hts, hK, hlk, hnm, hB, hf1, hf2, hf3, hf4, ao1, ao2, ao3⟩ := hX
  have hc1 : 3000 + 3000 * (31 + 2) ≤ R.cells := rm_g hf2
  have hc2 : 200000 + 200000 * (31 + 2) ≤ R.slots := rm_g hf3
  have hmw := (okAll y).2.1
  have hcb := callB_a (x := x) (mi := mL_law) hmw hts hlw (R := R) (d' := 31) hf1 hf4
  rw [hrc] at hcb
  obtain ⟨q1, q2, q3⟩ := hold_at hH hC (r := r) (by omega)
  have hM := hM (aOkCo (aOk_r (Int.natCast_nonneg r)) (fun v hv => by cases hv)) hC
  have eA : ([(2, Int.ofNat r)] : List aTV).map (aV G) = [.ref (aAd G r)] := by rw [List.map_cons, aV_ref q1]; rfl
  have hpre := aPre_of (A := [(2, Int.ofNat r)]) hK ao1 ao2 ao3 hH hC
  rw [eA] at hpre
  obtain ⟨w1, w2, w3, w4, w5, w6, w7, w8⟩ := hmw
  have hst : Cond.instanceMethod (aM y).1 ∈ gTbl ∧ (aM y).1.name = "<init>" := by
    rcases w8 with ⟨q, -, q'⟩ | ⟨-, q, q'⟩ | ⟨q, -⟩
    · omega
    · exact ⟨q, q'⟩
    · omega
  exact callW hB hlo (va_runI (b := aAd G r) (As := []) (rest := rest) ⟨hx, hb, hml, hown, hts⟩ hM ⟨hcb, hst.2, hts _ hst.1⟩ ⟨aPre_blind, hpre⟩ rfl (by rw [hlen]; rfl) hls rfl (by show 2 * 0 + _ ≤ 8; omega) hd ⟨hc1, hc2⟩) (fun w st' H1 locs1 k1 _ k3 k4 k5 => kk w st' H1 locs1 k1 k3 k4 k5)
end
