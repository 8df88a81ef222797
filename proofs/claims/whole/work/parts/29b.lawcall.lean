/-! ===== the law: its calls ===== -/
abbrev mL_law : aMI := (yL_law, code, 7, some .boolean, (13, 4, 2, 1), [])
section
variable {G : aCX} {l : Launch} {p : Program} {e : Env} {R : Room} {s : State} {m : MethodId} {args : Array Value} {below : List Frame} {meth : Method} {c : Code} {Q : State → Prop} {pc : Nat} {st : aSt} {H : Heap} {locs : List Loc} {ls : Array Slot} {rest : List Value}
theorem lwCall {y r x : Nat} {P : Int → aSt → Prop} {A : List aTV} (hX : aCtx G 32 mL_law p R s m args meth c) (hkd : (aM y).2.2.2.2.1.2.2.1 = 0) (hlen : A.length = (aM y).2.2.2.2.1.2.2.2) (hr : (st.1 r).1 = (aM y).2.2.2.2.1.1) (hci : (aM y).2.2.2.2.1.1 < 13) (hM : VM G l 31 y ((2, Int.ofNat r) :: A) st P) (hA : aOkL A) (hC : aCan st) (hH : aHold G st H) (hlo : ∀ q ∈ locs, G.1.1 < q.base) (hls : ls.size = 7) (hct : (rest.map fun v => v.category).sum ≤ 8) (hlw : Cond.methodLink RL x (aM y).1 ∈ gTbl) (hd : decode code pc = .ok (.invokevirtual x, 3))
    (kk : ∀ (w : Int) (st' : aSt) (H1 : Heap) (locs1 : List Loc), P w st' → aOkL (aPush (aM y).2.2.2.2.1.2.1 w []) → aCan st' → aHold G st' H1 → (∀ q ∈ locs1, G.1.1 < q.base) → W p l e R s m args below meth c H1 locs1 3000 200000 Q (F0 m (pc + 3) ls ((aRv G (aM y).2.2.2.2.1.2.1 w).toList ++ rest))) : W p l e R s m args below meth c H locs 3000 200000 Q (F0 m pc ls ((A.map (aV G)).reverse ++ .ref (aAd G r) :: rest)) := by
  obtain ⟨hx, hb, hrt, hml, hown, hts, hK, hlk, hnm, hB, hf1, hf2, hf3, hf4, ao1, ao2, ao3⟩ := hX
  have hc1 : 3000 + 3000 * (31 + 2) ≤ R.cells := rm_g hf2
  have hc2 : 200000 + 200000 * (31 + 2) ≤ R.slots := rm_g hf3
  have hmw := (okAll y).2.1
  have hcb := callB_a (x := x) (mi := mL_law) hmw hts hlw (R := R) (d' := 31) hf1 hf4
  obtain ⟨q1, q2, q3⟩ := hold_at hH hC (r := r) (by omega)
  have hM := hM (aOkCo (aOk_r (Int.natCast_nonneg r)) hA) hC
  have eA : ((2, Int.ofNat r) :: A).map (aV G) = .ref (aAd G r) :: A.map (aV G) := by rw [List.map_cons, aV_ref q1]
  have hpre := aPre_of (A := (2, Int.ofNat r) :: A) hK ao1 ao2 ao3 hH hC
  rw [eA] at hpre
  obtain ⟨cell, c1, c2, c3⟩ := rec_at hK hH hC (r := r) (by omega)
  obtain ⟨w1, w2, w3, w4, w5, w6, w7, w8⟩ := hmw
  have hcl : aCl (st.1 r).1 = (aM y).1.cls := by rw [hr, w3, (ins_of hci).2.2]
  rw [hcl] at c3
  have hst : Cond.instanceMethod (aM y).1 ∈ gTbl ∧ Cond.selects (aM y).1.cls (aM y).1 (aM y).1 ∈ gTbl := by
    rcases w8 with ⟨-, q, q'⟩ | ⟨q, -⟩ | ⟨q, -⟩
    · exact ⟨q, q'⟩
    · omega
    · omega
  exact callW hB hlo (va_runV (C := (aM y).1.cls) (b := aAd G r) (As := A.map (aV G)) (rest := rest) ⟨hx, hb, hml, hown, hts⟩ hM ⟨hcb, hts _ hst.1, hts _ hst.2⟩ ⟨aPre_blind, ⟨cell, c1, c2, c3⟩, hpre⟩ rfl (by simpa using hlen) hls rfl (by show 2 * 0 + _ ≤ 8; omega) hd ⟨hc1, hc2⟩) kk
end
