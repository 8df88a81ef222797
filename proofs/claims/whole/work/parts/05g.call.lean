/-! ===== calls and returns ===== -/
theorem aPop_inv {f : List aTV → List aTV → Prop} : ∀ {n : Nat} {S A : List aTV}, aPop n S A f → ∃ B S', B.length = n ∧ S = B.reverse ++ S' ∧ f (B ++ A) S' := by
  intro n
  induction n with
  | zero => intro S A h; exact ⟨[], S, rfl, rfl, h⟩
  | succ n ih =>
    intro S A h
    cases S with
    | nil => exact h.elim
    | cons v S1 =>
      obtain ⟨B, S', h1, h2, h3⟩ := ih (S := S1) (A := v :: A) h
      exact ⟨B ++ [v], S', by simp [h1], by simp [h2], by simpa using h3⟩
theorem aOkL_app {A B : List aTV} : aOkL (A ++ B) ↔ aOkL A ∧ aOkL B := by
  unfold aOkL
  constructor
  · intro h; exact ⟨fun v hv => h v (List.mem_append_left _ hv), fun v hv => h v (List.mem_append_right _ hv)⟩
  · rintro ⟨h1, h2⟩ v hv
    rcases List.mem_append.mp hv with hv | hv
    · exact h1 v hv
    · exact h2 v hv
theorem aOkL_rev {A : List aTV} : aOkL A.reverse ↔ aOkL A := by unfold aOkL; simp
theorem aPush_map {G : aCX} {rc : Nat} {w : Int} {S : List aTV} : (aRv G rc w).toList ++ S.map (aV G) = (aPush rc w S).map (aV G) := by
  unfold aRv aPush
  cases Nat.beq rc 9 <;> rfl
theorem aPush_ok {rc : Nat} {w : Int} {S : List aTV} (h : aOkL (aPush rc w [])) (hS : aOkL S) : aOkL (aPush rc w S) := by
  unfold aPush at h ⊢
  cases hb : Nat.beq rc 9 with
  | true => rw [hb] at h; exact hS
  | false => rw [hb] at h; exact aOkCo (h _ List.mem_cons_self) hS
theorem rm_g {k d r : Nat} (h : k * (d + 1 + 2) ≤ r) : k + k * (d + 2) ≤ r := by
  rw [show d + 1 + 2 = 1 + (d + 2) from by omega, Nat.mul_add, Nat.mul_one] at h
  exact h
/-- what a call's contract asks and gives -/
abbrev aPre (G : aCX) (A : List aTV) (st : aSt) : Array Value → State → Prop := fun a U => a = (A.map (aV G)).toArray ∧ aHold G st U.heap ∧ va_K G.2.1 vwCl (aTys G) U ∧ G.1.1 + 1 ≤ U.heap.size ∧ va_AO RX3 U ∧ va_AO RX9 U ∧ G.2.2.2.2.1 U.vm
abbrev aPost (G : aCX) (rc : Nat) (P : Int → aSt → Prop) : Array Value → State → Outcome → State → Prop := fun _ _ o t => ∃ (w : Int) (st' : aSt), P w st' ∧ aOkL (aPush rc w []) ∧ aCan st' ∧ o = .returned (aRv G rc w) ∧ aHold G st' t.heap
theorem aPre_blind {G : aCX} {A : List aTV} {st : aSt} : FrameBlind (aPre G A st) := fun a U g mk q => by
  obtain ⟨q1, q2, q3, q4, q5, q6, q7⟩ := q
  exact ⟨q1, q2, va_K.moved (u := U) (U := U.calling g mk a) (Vm.Alike.refl U.vm) q3, q4, va_AO.moved (u := U) (U := U.calling g mk a) (Vm.Alike.refl U.vm) q5, va_AO.moved (u := U) (U := U.calling g mk a) (Vm.Alike.refl U.vm) q6, q7⟩
section
variable {G : aCX} {l : Launch} {d : Nat} {mi : aMI} {p : Program} {e : Env} {R : Room} {s : State} {m : MethodId} {args : Array Value} {below : List Frame} {meth : Method} {c : Code} {Q : State → Prop} {pc nxt tgt : Nat} {i : Instr} {a b : Int} {tl : List (Int × Nat)} {L S : List aTV} {st : aSt} {H : Heap}
theorem aPre_of {A : List aTV} (hK : va_K G.2.1 vwCl (aTys G) s) (h1 : va_AO RX3 s) (h2 : va_AO RX9 s) (h3 : G.2.2.2.2.1 s.vm) (hH : aHold G st H) (hC : aCan st) : ∀ U : State, U.heap = H → s.WarmedH U.vm → aPre G A st (A.map (aV G)).toArray U := fun U hU hW => by
  refine ⟨rfl, by rw [hU]; exact hH, va_K.moved hW.alike hK, ?_, va_AO.moved hW.alike h1, va_AO.moved hW.alike h2, G.2.2.2.2.2 s U.vm hW h3⟩
  rw [hU, hH.1]
  have := aAd_pos (G := G) hC.2.1.1
  omega
theorem callW {ls : Array Slot} {locs : List Loc} {rc mc ms : Nat} {P : Int → aSt → Prop} {As : Array Value} {st0 rest : List Value} (hB : G.1.1 + 1 ≤ s.heap.size) (hlo : ∀ q ∈ locs, G.1.1 < q.base) (hr : va_Run p l e R s m args below meth c H locs 3000 200000 mc ms (F0 m pc ls st0) rest (aPost G rc P As) (fun q => G.1.1 < q))
    (kk : ∀ (w : Int) (st' : aSt) (H1 : Heap) (locs1 : List Loc), P w st' → aOkL (aPush rc w []) → aCan st' → aHold G st' H1 → (∀ q ∈ locs1, G.1.1 < q.base) → W p l e R s m args below meth c H1 locs1 3000 200000 Q (F0 m (pc + 3) ls ((aRv G rc w).toList ++ rest))) : W p l e R s m args below meth c H locs 3000 200000 Q (F0 m pc ls st0) := by
  intro T hT X
  obtain ⟨v, st₀, t, T', Lc, h0, X', hL, e1, e2, ⟨w, st', g1, g2, g3, g4, g5⟩, st⟩ := hr T hT X
  cases g4
  rw [← e1] at g5
  have K := kk w st' T'.heap (locs ++ Lc) g1 g2 g3 g5 (fun q hq => by
    rcases List.mem_append.mp hq with h | h
    · exact hlo q h
    · exact hL q h)
  obtain ⟨t2, a1, b1⟩ := W.cap g5 g3 hB K T' rfl X'
  exact ⟨t2, st t2 a1, b1⟩
/-- the callee's words, its room -/
theorem callB_a {y x : Nat} {d' : Nat} (hmw : aMW (aM y)) (hts : ∀ w ∈ gTbl, w.before args s = true) (hl : Cond.methodLink mi.1.cls x (aM y).1 ∈ gTbl) (hf1 : d' + 1 + 12 ≤ R.frames) (hf4 : 40 * (d' + 1 + 12) ≤ R.locals) : CallB R s args mi.1.cls x (aM y).1 (aM y).2.1 (aM y).2.2.1 (aM y).2.2.2.1 (aWs (aM y)) (aRm d') (3000 * (d' + 2)) (200000 * (d' + 2)) (aM y).2.2.2.2.1.2.2.2 := by
  obtain ⟨w1, w2, w3, w4, w5, w6, w7, w8⟩ := hmw
  have e4 : 40 * (d' + 12) + 40 ≤ R.locals := by
    rw [show d' + 1 + 12 = (d' + 12) + 1 from by omega, Nat.mul_add, Nat.mul_one] at hf4
    exact hf4
  have e5 : 8 + ((aM y).2.2.1 + 11) + 40 * (d' + 12) ≤ R.locals := by
    clear hf4
    generalize 40 * (d' + 12) = X at e4 ⊢
    omega
  refine callB_of _ hts (fun w hw => ?_) rfl rfl rfl (hts _ w2) (hts _ hl) ⟨w5.1, w5.2, w6⟩ ⟨by show d' + 12 + 1 ≤ R.frames; rw [show d' + 12 + 1 = d' + 1 + 12 from by clear hf4 e4 e5; omega]; exact hf1, e5⟩
  rcases List.mem_cons.mp hw with rfl | hw
  · exact ⟨w1, good_of_word (gGood _ w1)⟩
  · exact ⟨hw, good_of_word (gGood _ hw)⟩
theorem r_callS {y d' : Nat} {P : Int → aSt → Prop} {A : List aTV} (hdd : d = d' + 1) (hmw : aMW (aM y)) (hkd : (aM y).2.2.2.2.1.2.2.1 = 2) (hct : aCat S ≤ 8) (hlen : A.length = (aM y).2.2.2.2.1.2.2.2) (hay : a.toNat = y) (hcal : VM G l d' y A st P) (hcn : mi.1.cls = aCn mi.2.2.2.2.1.1) (hX : aCtx G d mi p R s m args meth c) (hd : decode mi.2.1 pc = .ok (i, nxt - pc)) (ho : opOk mi pc nxt i 63 a b tgt tl = true) (hk : aKind.getD y 9 = (aM y).2.2.2.2.1.2.2.1) (kk : ∀ w st', P w st' → VW G l mi p e R s m args below meth c Q nxt L (aPush (aM y).2.2.2.2.1.2.1 w S) st') : VW G l mi p e R s m args below meth c Q pc L (A.reverse ++ S) st := by
  intro hL hS hC ls H locs hl hH hlo
  obtain ⟨hx, hb, hrt, hml, hown, hts, hK, hlk, hnm, hB, hf1, hf2, hf3, hf4, ao1, ao2, ao3⟩ := hX
  obtain ⟨hA, hS'⟩ := aOkL_app.mp hS
  have hA := aOkL_rev.mp hA
  subst hdd
  have hc1 : 3000 + 3000 * (d' + 2) ≤ R.cells := rm_g hf2
  have hc2 : 200000 + 200000 * (d' + 2) ≤ R.slots := rm_g hf3
  rw [hkd] at hk
  have hcb := fun x h => callB_a (x := x) (mi := mi) hmw hts h (R := R) (d' := d') hf1 hf4
  have hM := hcal hA hC
  simp only [opOk, hay, hk] at ho
  split at ho
  · simp at ho
  · simp at ho
  · rename_i x
    simp only [Bool.and_eq_true, decide_eq_true_eq] at ho
    obtain ⟨⟨rfl, -⟩, hm⟩ := ho
    rw [Nat.add_sub_cancel_left] at hd
    have hlw := anyM_inv hm
    rw [← hcn] at hlw
    obtain ⟨w1, w2, w3, w4, w5, w6, w7, w8⟩ := hmw
    have hst : Cond.static (aM y).1 ∈ gTbl := by
      rcases w8 with ⟨q, -⟩ | ⟨q, -⟩ | ⟨-, q⟩
      · omega
      · omega
      · exact q
    refine callW hB hlo (va_runS (As := A.map (aV G)) (rest := S.map (aV G)) ⟨hx, hb, hml, hown, hts⟩ hM ⟨hcb x hlw, hts _ hst⟩ ⟨aPre_blind, aPre_of hK ao1 ao2 ao3 hH hC⟩ rfl (by simpa using hlen) hl.1 (by simp) (by show 2 * 0 + _ ≤ 8; rw [aCat_eq]; omega) hd ⟨hc1, hc2⟩) fun w st' H1 locs1 k1 k2 k3 k4 k5 => ?_
    rw [aPush_map]
    exact kk w st' k1 hL (aPush_ok k2 hS') k3 ls H1 locs1 hl k4 k5
  · cases ho
theorem r_callO {y d' r : Nat} {P : Int → aSt → Prop} {A : List aTV} (hdd : d = d' + 1) (hmw : aMW (aM y)) (hkd : (aM y).2.2.2.2.1.2.2.1 ≠ 2) (hct : aCat S ≤ 8) (hlen : A.length = (aM y).2.2.2.2.1.2.2.2) (hay : a.toNat = y) (hr : (st.1 r).1 = (aM y).2.2.2.2.1.1) (hci : (aM y).2.2.2.2.1.1 < 13) (hrc : (aM y).2.2.2.2.1.2.2.1 = 1 → (aM y).2.2.2.1 = none) (hcal : VM G l d' y ((2, Int.ofNat r) :: A) st P) (hcn : mi.1.cls = aCn mi.2.2.2.2.1.1) (hX : aCtx G d mi p R s m args meth c) (hd : decode mi.2.1 pc = .ok (i, nxt - pc)) (ho : opOk mi pc nxt i 63 a b tgt tl = true) (hk : aKind.getD y 9 = (aM y).2.2.2.2.1.2.2.1) (kk : ∀ w st', P w st' → VW G l mi p e R s m args below meth c Q nxt L (aPush (aM y).2.2.2.2.1.2.1 w S) st') : VW G l mi p e R s m args below meth c Q pc L (A.reverse ++ (2, Int.ofNat r) :: S) st := by
  intro hL hS hC ls H locs hl hH hlo
  obtain ⟨hx, hb, hrt, hml, hown, hts, hK, hlk, hnm, hB, hf1, hf2, hf3, hf4, ao1, ao2, ao3⟩ := hX
  obtain ⟨hA, hS'⟩ := aOkL_app.mp hS
  have hA := aOkL_rev.mp hA
  subst hdd
  have hc1 : 3000 + 3000 * (d' + 2) ≤ R.cells := rm_g hf2
  have hc2 : 200000 + 200000 * (d' + 2) ≤ R.slots := rm_g hf3
  have hcb := fun x h => callB_a (x := x) (mi := mi) hmw hts h (R := R) (d' := d') hf1 hf4
  have hM := hcal (aOkCo (aOkL_cons.mp hS').1 hA) hC
  obtain ⟨q1, q2, q3⟩ := hold_at hH hC (r := r) (by omega)
  have eA : ((2, Int.ofNat r) :: A).map (aV G) = .ref (aAd G r) :: A.map (aV G) := by rw [List.map_cons, aV_ref q1]
  have hpre := aPre_of (A := (2, Int.ofNat r) :: A) hK ao1 ao2 ao3 hH hC
  rw [eA] at hpre
  have hstk : (A.reverse ++ (2, Int.ofNat r) :: S).map (aV G) = (A.map (aV G)).reverse ++ .ref (aAd G r) :: S.map (aV G) := by rw [List.map_append, List.map_reverse, List.map_cons, aV_ref q1]
  obtain ⟨cell, c1, c2, c3⟩ := rec_at hK hH hC (r := r) (by omega)
  obtain ⟨w1, w2, w3, w4, w5, w6, w7, w8⟩ := hmw
  have hcl : aCl (st.1 r).1 = (aM y).1.cls := by rw [hr, w3, (ins_of hci).2.2]
  rw [hcl] at c3
  simp only [opOk, hay, hk] at ho
  split at ho
  · rename_i x
    simp only [Bool.and_eq_true, decide_eq_true_eq] at ho
    obtain ⟨⟨rfl, h0⟩, hm⟩ := ho
    rw [Nat.add_sub_cancel_left] at hd
    have hlw := anyM_inv hm
    rw [← hcn] at hlw
    have hst : Cond.instanceMethod (aM y).1 ∈ gTbl ∧ Cond.selects (aM y).1.cls (aM y).1 (aM y).1 ∈ gTbl := by
      rcases w8 with ⟨-, q, q'⟩ | ⟨q, -⟩ | ⟨q, -⟩
      · exact ⟨q, q'⟩
      · omega
      · omega
    rw [hstk]
    refine callW hB hlo (va_runV (C := (aM y).1.cls) (b := aAd G r) (As := A.map (aV G)) (rest := S.map (aV G)) ⟨hx, hb, hml, hown, hts⟩ hM ⟨hcb x hlw, hts _ hst.1, hts _ hst.2⟩ ⟨aPre_blind, ⟨cell, c1, c2, c3⟩, hpre⟩ rfl (by simpa using hlen) hl.1 rfl (by show 2 * 0 + _ ≤ 8; rw [aCat_eq]; omega) hd ⟨hc1, hc2⟩) fun w st' H1 locs1 k1 k2 k3 k4 k5 => ?_
    rw [aPush_map]
    exact kk w st' k1 hL (aPush_ok k2 (aOkTl hS')) k3 ls H1 locs1 hl k4 k5
  · rename_i x
    simp only [Bool.and_eq_true, decide_eq_true_eq] at ho
    obtain ⟨⟨rfl, h0⟩, hm⟩ := ho
    rw [Nat.add_sub_cancel_left] at hd
    have hlw := anyM_inv hm
    rw [← hcn] at hlw
    have hst : Cond.instanceMethod (aM y).1 ∈ gTbl ∧ (aM y).1.name = "<init>" := by
      rcases w8 with ⟨q, -, q'⟩ | ⟨-, q, q'⟩ | ⟨q, -⟩
      · omega
      · exact ⟨q, q'⟩
      · omega
    rw [hstk]
    have hcb' := hcb x hlw
    rw [hrc h0] at hcb'
    refine callW hB hlo (va_runI (b := aAd G r) (As := A.map (aV G)) (rest := S.map (aV G)) ⟨hx, hb, hml, hown, hts⟩ hM ⟨hcb', hst.2, hts _ hst.1⟩ ⟨aPre_blind, hpre⟩ rfl (by simpa using hlen) hl.1 rfl (by show 2 * 0 + _ ≤ 8; rw [aCat_eq]; omega) hd ⟨hc1, hc2⟩) fun w st' H1 locs1 k1 k2 k3 k4 k5 => ?_
    rw [aPush_map]
    exact kk w st' k1 hL (aPush_ok k2 (aOkTl hS')) k3 ls H1 locs1 hl k4 k5
  · simp only [Bool.and_eq_true, decide_eq_true_eq] at ho
    exact absurd ho.1.2 hkd
  · cases ho
end
/-! ===== a method's entry ===== -/
theorem aArg_mem {G : aCX} {q : Nat × Value} : ∀ {A : List aTV} {n k : Nat}, (∀ v ∈ A, v.1 ≤ 2) → q ∈ aLv G k (aArg A n) → q ∈ lv_args k (A.map (aV G)) := by
  intro A
  induction A with
  | nil =>
    intro n k _ h
    exfalso
    have : ∀ n k, q ∉ aLv G k (aPad n) := by
      intro n
      induction n with
      | zero => intro k h; cases h
      | succ n ih => intro k h; exact ih (k + 1) h
    exact this n k h
  | cons v A ih =>
    intro n k hA h
    have hv := hA v List.mem_cons_self
    have hA' : ∀ u ∈ A, u.1 ≤ 2 := fun u hu => hA u (List.mem_cons_of_mem _ hu)
    obtain ⟨t, w⟩ := v
    by_cases ht : t = 1
    · subst ht
      have h : q ∈ aLv G k ((1, w) :: (9, 0) :: aArg A (n - 2)) := h
      have e : aLv G k ((1, w) :: (9, 0) :: aArg A (n - 2)) = (k, aV G (1, w)) :: aLv G (k + 1 + 1) (aArg A (n - 2)) := rfl
      rw [e] at h
      rw [List.map_cons]
      have e2 : lv_args k (aV G (1, w) :: A.map (aV G)) = (k, aV G (1, w)) :: lv_args (k + 2) (A.map (aV G)) := rfl
      rw [e2]
      rcases List.mem_cons.mp h with h | h
      · exact h ▸ List.mem_cons_self
      · exact List.mem_cons_of_mem _ (ih hA' h)
    · have hb : Nat.beq t 1 = false := by
        cases hb : Nat.beq t 1 with
        | false => rfl
        | true => exact absurd (Nat.eq_of_beq_eq_true hb) ht
      have e0 : aArg ((t, w) :: A) n = (t, w) :: aArg A (n - 1) := by
        show (bif Nat.beq t 1 then _ else _) = _
        rw [hb]; rfl
      rw [e0] at h
      have e : aLv G k ((t, w) :: aArg A (n - 1)) = (k, aV G (t, w)) :: aLv G (k + 1) (aArg A (n - 1)) := by
        show (if t ≤ 2 then _ else _) = _
        rw [if_pos hv]
      rw [e] at h
      rw [List.map_cons]
      have e2 : lv_args k (aV G (t, w) :: A.map (aV G)) = (k, aV G (t, w)) :: lv_args (k + 1) (A.map (aV G)) := by
        show (k, aV G (t, w)) :: lv_args (if (aV G (t, w)).category = 2 then k + 2 else k + 1) (A.map (aV G)) = _
        rw [if_neg (by rw [aV_cat1 ht]; decide)]
      rw [e2]
      rcases List.mem_cons.mp h with h | h
      · exact h ▸ List.mem_cons_self
      · exact List.mem_cons_of_mem _ (ih hA' h)
