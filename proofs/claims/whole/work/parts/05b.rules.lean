/-! ===== the instructions that leave the heap alone: each row of the small machine is a walk of the real one ===== -/
section
variable {G : aCX} {l : Launch} {d : Nat} {mi : aMI} {p : Program} {e : Env} {R : Room} {s : State} {m : MethodId} {args : Array Value} {below : List Frame} {meth : Method} {c : Code} {Q : State → Prop} {pc nxt tgt : Nat} {i : Instr} {a b : Int} {tl : List (Int × Nat)} {L S : List aTV} {st : aSt}
theorem aOk32 {w : Int} {S : List aTV} (h : aOkL ((0, w) :: S)) : i32 w := (aOkL_cons.mp h).1.1 rfl
theorem aOk64 {w : Int} {S : List aTV} (h : aOkL ((1, w) :: S)) : i64 w := (aOkL_cons.mp h).1.2.1 rfl
theorem aOkRf {w : Int} {S : List aTV} (h : aOkL ((2, w) :: S)) : 0 ≤ w := (aOkL_cons.mp h).1.2.2 rfl
theorem aOkTl {v : aTV} {S : List aTV} (h : aOkL (v :: S)) : aOkL S := (aOkL_cons.mp h).2
theorem aOkCo {v : aTV} {S : List aTV} (h1 : aOk v) (h : aOkL S) : aOkL (v :: S) := aOkL_cons.mpr ⟨h1, h⟩
theorem r_pushI  (hcn : mi.1.cls = aCn mi.2.2.2.2.1.1) (hX : aCtx G d mi p R s m args meth c) (hd : decode mi.2.1 pc = .ok (i, nxt - pc)) (ho : opOk mi pc nxt i 0 a b tgt tl = true) (kk : VW G l mi p e R s m args below meth c Q nxt L ((0, a) :: S) st) : VW G l mi p e R s m args below meth c Q pc L S st := by
  intro hL hS hC ls H locs hl hH hlo
  obtain ⟨hx, hb, hr, hml, hown, hts, hK, hlk, hnm, hB, hf1, hf2, hf3, hf4⟩ := hX
  simp only [opOk, Bool.and_eq_true] at ho
  obtain ⟨ha, ho⟩ := ho
  have ha : i32 a := by simpa [in32, i32] using ha
  have K := kk hL (aOkCo (aOk_i ha) hS) hC ls H locs hl hH hlo
  split at ho
  · simp only [Bool.and_eq_true, decide_eq_true_eq] at ho
    obtain ⟨rfl, hv⟩ := ho
    rw [Nat.add_sub_cancel_left] at hd
    exact lv_iconst hx hb hd hv K
  · simp only [Bool.and_eq_true, decide_eq_true_eq] at ho
    obtain ⟨rfl, hv⟩ := ho
    rw [Nat.add_sub_cancel_left] at hd
    exact lv_bipush hx hb hd hv K
  · simp only [Bool.and_eq_true, decide_eq_true_eq] at ho
    obtain ⟨rfl, hv⟩ := ho
    rw [Nat.add_sub_cancel_left] at hd
    exact lv_sipush hx hb hd hv K
  · simp only [Bool.and_eq_true, decide_eq_true_eq, List.any_eq_true] at ho
    obtain ⟨rfl, q, hq, h1, h2, h3⟩ := ho
    rw [Nat.add_sub_cancel_left] at hd
    have hw := lk_in (List.all_eq_true.mp aKI_ok q hq)
    rw [aKIw, h1, h2, h3, ← hcn] at hw
    exact lv_ldc hx hb hown (hts _ hw) hd K
  · simp only [Bool.and_eq_true, decide_eq_true_eq, List.any_eq_true] at ho
    obtain ⟨rfl, q, hq, h1, h2, h3⟩ := ho
    rw [Nat.add_sub_cancel_left] at hd
    have hw := lk_in (List.all_eq_true.mp aKI_ok q hq)
    rw [aKIw, h1, h2, h3, ← hcn] at hw
    exact lv_ldcw hx hb hown (hts _ hw) hd K
  · cases ho
theorem r_pushL  (hcn : mi.1.cls = aCn mi.2.2.2.2.1.1) (hX : aCtx G d mi p R s m args meth c) (hd : decode mi.2.1 pc = .ok (i, nxt - pc)) (ho : opOk mi pc nxt i 1 a b tgt tl = true) (kk : VW G l mi p e R s m args below meth c Q nxt L ((1, a) :: S) st) : VW G l mi p e R s m args below meth c Q pc L S st := by
  intro hL hS hC ls H locs hl hH hlo
  obtain ⟨hx, hb, hr, hml, hown, hts, hK, hlk, hnm, hB, hf1, hf2, hf3, hf4⟩ := hX
  simp only [opOk, Bool.and_eq_true] at ho
  obtain ⟨ha, ho⟩ := ho
  have ha : i64 a := by simpa [in64, i64] using ha
  have K := kk hL (aOkCo (aOk_l ha) hS) hC ls H locs hl hH hlo
  split at ho
  · simp only [Bool.and_eq_true, decide_eq_true_eq] at ho
    obtain ⟨rfl, hv⟩ := ho
    rw [Nat.add_sub_cancel_left] at hd
    exact lv_lconst hx hb hd hv K
  · simp only [Bool.and_eq_true, decide_eq_true_eq, List.any_eq_true] at ho
    obtain ⟨rfl, q, hq, h1, h2, h3⟩ := ho
    rw [Nat.add_sub_cancel_left] at hd
    have hw := lk_in (List.all_eq_true.mp aKL_ok q hq)
    rw [aKLw, h1, h2, h3, ← hcn] at hw
    exact lv_ldc2 hx hb hown (hts _ hw) hd K
  · cases ho
theorem r_iload {w : Int} (hw : aNth L a.toNat = some (0, w)) (hcn : mi.1.cls = aCn mi.2.2.2.2.1.1) (hX : aCtx G d mi p R s m args meth c) (hd : decode mi.2.1 pc = .ok (i, nxt - pc)) (ho : opOk mi pc nxt i 2 a b tgt tl = true) (kk : VW G l mi p e R s m args below meth c Q nxt L ((0, w) :: S) st) : VW G l mi p e R s m args below meth c Q pc L S st := by
  intro hL hS hC ls H locs hl hH hlo
  obtain ⟨hx, hb, hr, hml, hown, hts, hK, hlk, hnm, hB, hf1, hf2, hf3, hf4⟩ := hX
  have K := kk hL (aOkCo (hL _ (aNth_mem hw)) hS) hC ls H locs hl hH hlo
  have hv := hl.2.2 _ (aLv_mem.mpr ⟨_, _, hw, Nat.le_of_ble_eq_true rfl, rfl⟩)
  rw [Nat.zero_add] at hv
  simp only [opOk] at ho
  split at ho
  · simp only [decide_eq_true_eq] at ho
    obtain ⟨rfl, h2⟩ := ho
    rw [Nat.add_sub_cancel_left] at hd
    rw [h2] at hv
    exact lv_iload hx hb hd hv K
  · simp only [decide_eq_true_eq] at ho
    obtain ⟨rfl, h2⟩ := ho
    rw [Nat.add_sub_cancel_left] at hd
    rw [h2] at hv
    exact lv_iload_n hx hb hd rfl hv K
  · cases ho
theorem r_lload {w : Int} (hw : aNth L a.toNat = some (1, w)) (hcn : mi.1.cls = aCn mi.2.2.2.2.1.1) (hX : aCtx G d mi p R s m args meth c) (hd : decode mi.2.1 pc = .ok (i, nxt - pc)) (ho : opOk mi pc nxt i 3 a b tgt tl = true) (kk : VW G l mi p e R s m args below meth c Q nxt L ((1, w) :: S) st) : VW G l mi p e R s m args below meth c Q pc L S st := by
  intro hL hS hC ls H locs hl hH hlo
  obtain ⟨hx, hb, hr, hml, hown, hts, hK, hlk, hnm, hB, hf1, hf2, hf3, hf4⟩ := hX
  have K := kk hL (aOkCo (hL _ (aNth_mem hw)) hS) hC ls H locs hl hH hlo
  have hv := hl.2.2 _ (aLv_mem.mpr ⟨_, _, hw, Nat.le_of_ble_eq_true rfl, rfl⟩)
  rw [Nat.zero_add] at hv
  simp only [opOk] at ho
  split at ho
  · simp only [decide_eq_true_eq] at ho
    obtain ⟨rfl, h2⟩ := ho
    rw [Nat.add_sub_cancel_left] at hd
    rw [h2] at hv
    exact lv_lload hx hb hd hv K
  · simp only [decide_eq_true_eq] at ho
    obtain ⟨rfl, h2⟩ := ho
    rw [Nat.add_sub_cancel_left] at hd
    rw [h2] at hv
    exact lv_lload_n hx hb hd rfl hv K
  · cases ho
theorem aV_r (G : aCX) {w : Int} (h : 0 ≤ w) : (w = 0 ∧ aV G (2, w) = .null) ∨ (w ≠ 0 ∧ aV G (2, w) = .ref (aAd G w.toNat)) := by
  by_cases h0 : w = 0
  · subst h0; exact Or.inl ⟨rfl, rfl⟩
  · refine Or.inr ⟨h0, ?_⟩
    show va_rf (aRf G w) = _
    rw [aRf, if_neg (by omega)]
    rfl
theorem r_aload {w : Int} (hw : aNth L a.toNat = some (2, w)) (hcn : mi.1.cls = aCn mi.2.2.2.2.1.1) (hX : aCtx G d mi p R s m args meth c) (hd : decode mi.2.1 pc = .ok (i, nxt - pc)) (ho : opOk mi pc nxt i 4 a b tgt tl = true) (kk : VW G l mi p e R s m args below meth c Q nxt L ((2, w) :: S) st) : VW G l mi p e R s m args below meth c Q pc L S st := by
  intro hL hS hC ls H locs hl hH hlo
  obtain ⟨hx, hb, hr, hml, hown, hts, hK, hlk, hnm, hB, hf1, hf2, hf3, hf4⟩ := hX
  have hwo := hL _ (aNth_mem hw)
  have K := kk hL (aOkCo hwo hS) hC ls H locs hl hH hlo
  have hv := hl.2.2 _ (aLv_mem.mpr ⟨_, _, hw, Nat.le_of_ble_eq_true rfl, rfl⟩)
  rw [Nat.zero_add] at hv
  rw [List.map_cons] at K
  simp only [opOk] at ho
  rcases aV_r G (hwo.2.2 rfl) with ⟨-, hn⟩ | ⟨-, hn⟩
  · rw [hn] at hv K
    split at ho
    · simp only [decide_eq_true_eq] at ho
      obtain ⟨rfl, h2⟩ := ho
      rw [Nat.add_sub_cancel_left] at hd
      rw [h2] at hv
      exact lv_aloadN hx hb hd hv K
    · simp only [decide_eq_true_eq] at ho
      obtain ⟨rfl, h2⟩ := ho
      rw [Nat.add_sub_cancel_left] at hd
      rw [h2] at hv
      exact lv_aload_nN hx hb hd rfl hv K
    · cases ho
  · rw [hn] at hv K
    split at ho
    · simp only [decide_eq_true_eq] at ho
      obtain ⟨rfl, h2⟩ := ho
      rw [Nat.add_sub_cancel_left] at hd
      rw [h2] at hv
      exact lv_aload hx hb hd hv K
    · simp only [decide_eq_true_eq] at ho
      obtain ⟨rfl, h2⟩ := ho
      rw [Nat.add_sub_cancel_left] at hd
      rw [h2] at hv
      exact lv_aload_n hx hb hd rfl hv K
    · cases ho
theorem st1 {G : aCX} {L : List aTV} {n : Nat} {v : aTV} {x : Value} (hx : aV G v = x) (hj : ∀ (j : Nat) (u : aTV), j + 1 = n → aNth L j = some u → u.1 ≠ 1) : ∀ q ∈ aLv G 0 (aSet L n v), q ∈ (n, x) :: (aLv G 0 L).filter (fun q => !(q.1 == n) && !(q.1 + 1 == n && q.2.category == 2)) := by
  intro q hq
  obtain ⟨j, u, h1, h2, rfl⟩ := aLv_mem.mp hq
  rcases aNth_set v L n j u h1 with ⟨rfl, rfl⟩ | ⟨h3, h4⟩
  · rw [hx, Nat.zero_add]
    exact List.mem_cons_self
  · refine List.mem_cons_of_mem _ (List.mem_filter.mpr ⟨aLv_mem.mpr ⟨j, u, h4, h2, rfl⟩, ?_⟩)
    simp only [Nat.zero_add, Bool.and_eq_true, Bool.not_eq_true', beq_eq_false_iff_ne, ne_eq, Bool.and_eq_false_iff]
    refine ⟨h3, ?_⟩
    by_cases hn : j + 1 = n
    · refine Or.inr ?_
      have := hj j u hn h4
      obtain ⟨t, w⟩ := u
      rw [aV_cat1 this]
      decide
    · exact Or.inl hn
theorem st2 {G : aCX} {L : List aTV} {n : Nat} {w : Int} (hj : ∀ (j : Nat) (u : aTV), j + 1 = n → aNth L j = some u → u.1 ≠ 1) : ∀ q ∈ aLv G 0 (aSet (aSet L n (1, w)) (n + 1) (9, 0)), q ∈ (n, Value.long (Int64.ofInt w)) :: (aLv G 0 L).filter (fun q => !(q.1 == n) && (!(q.1 == n + 1) && !(q.1 + 1 == n && q.2.category == 2))) := by
  intro q hq
  obtain ⟨j, u, h1, h2, rfl⟩ := aLv_mem.mp hq
  rcases aNth_set _ _ _ j u h1 with ⟨rfl, rfl⟩ | ⟨h3, h4⟩
  · exact absurd h2 (by decide)
  · rcases aNth_set _ L n j u h4 with ⟨rfl, rfl⟩ | ⟨h5, h6⟩
    · rw [Nat.zero_add]
      exact List.mem_cons_self
    · refine List.mem_cons_of_mem _ (List.mem_filter.mpr ⟨aLv_mem.mpr ⟨j, u, h6, h2, rfl⟩, ?_⟩)
      simp only [Nat.zero_add, Bool.and_eq_true, Bool.not_eq_true', beq_eq_false_iff_ne, ne_eq, Bool.and_eq_false_iff]
      refine ⟨h5, h3, ?_⟩
      by_cases hn : j + 1 = n
      · refine Or.inr ?_
        have := hj j u hn h6
        obtain ⟨t, w⟩ := u
        rw [aV_cat1 this]
        decide
      · exact Or.inl hn
theorem r_istore {w : Int} (hj : ∀ (j : Nat) (u : aTV), j + 1 = a.toNat → aNth L j = some u → u.1 ≠ 1) (hcn : mi.1.cls = aCn mi.2.2.2.2.1.1) (hX : aCtx G d mi p R s m args meth c) (hd : decode mi.2.1 pc = .ok (i, nxt - pc)) (ho : opOk mi pc nxt i 5 a b tgt tl = true) (kk : VW G l mi p e R s m args below meth c Q nxt (aSet L a.toNat (0, w)) S st) : VW G l mi p e R s m args below meth c Q pc L ((0, w) :: S) st := by
  intro hL hS hC ls H locs hl hH hlo
  obtain ⟨hx, hb, hr, hml, hown, hts, hK, hlk, hnm, hB, hf1, hf2, hf3, hf4⟩ := hX
  have K := fun ls' hl' => kk (aOkL_set hL (hS _ List.mem_cons_self)) (aOkTl hS) hC ls' H locs hl' hH hlo
  simp only [opOk] at ho
  split at ho
  · simp only [decide_eq_true_eq] at ho
    obtain ⟨rfl, h2, h3⟩ := ho
    rw [Nat.add_sub_cancel_left] at hd
    rw [h2] at K hj
    exact lv_istore hx hb hd hl h3 rfl (fun ls' hl' => K ls' (lv_fewer hl' (st1 rfl hj)))
  · simp only [decide_eq_true_eq] at ho
    obtain ⟨rfl, h2, h3⟩ := ho
    rw [Nat.add_sub_cancel_left] at hd
    rw [h2] at K hj
    exact lv_istore_n hx hb hd rfl hl h3 rfl (fun ls' hl' => K ls' (lv_fewer hl' (st1 rfl hj)))
  · cases ho
theorem r_lstore {w : Int} (hj : ∀ (j : Nat) (u : aTV), j + 1 = a.toNat → aNth L j = some u → u.1 ≠ 1) (hcn : mi.1.cls = aCn mi.2.2.2.2.1.1) (hX : aCtx G d mi p R s m args meth c) (hd : decode mi.2.1 pc = .ok (i, nxt - pc)) (ho : opOk mi pc nxt i 6 a b tgt tl = true) (kk : VW G l mi p e R s m args below meth c Q nxt (aSet (aSet L a.toNat (1, w)) (a.toNat + 1) (9, 0)) S st) : VW G l mi p e R s m args below meth c Q pc L ((1, w) :: S) st := by
  intro hL hS hC ls H locs hl hH hlo
  obtain ⟨hx, hb, hr, hml, hown, hts, hK, hlk, hnm, hB, hf1, hf2, hf3, hf4⟩ := hX
  have K := fun ls' hl' => kk (aOkL_set (aOkL_set hL (hS _ List.mem_cons_self)) aOk_9) (aOkTl hS) hC ls' H locs hl' hH hlo
  simp only [opOk] at ho
  split at ho
  · simp only [decide_eq_true_eq] at ho
    obtain ⟨rfl, h2, h3⟩ := ho
    rw [Nat.add_sub_cancel_left] at hd
    rw [h2] at K hj
    exact lv_lstore hx hb hd hl h3 rfl (fun ls' hl' => K ls' (lv_fewer hl' (st2 hj)))
  · simp only [decide_eq_true_eq] at ho
    obtain ⟨rfl, h2, h3⟩ := ho
    rw [Nat.add_sub_cancel_left] at hd
    rw [h2] at K hj
    exact lv_lstore_n hx hb hd rfl hl h3 rfl (fun ls' hl' => K ls' (lv_fewer hl' (st2 hj)))
  · cases ho
theorem r_astore {w : Int} (hj : ∀ (j : Nat) (u : aTV), j + 1 = a.toNat → aNth L j = some u → u.1 ≠ 1) (hcn : mi.1.cls = aCn mi.2.2.2.2.1.1) (hX : aCtx G d mi p R s m args meth c) (hd : decode mi.2.1 pc = .ok (i, nxt - pc)) (ho : opOk mi pc nxt i 7 a b tgt tl = true) (kk : VW G l mi p e R s m args below meth c Q nxt (aSet L a.toNat (2, w)) S st) : VW G l mi p e R s m args below meth c Q pc L ((2, w) :: S) st := by
  intro hL hS hC ls H locs hl hH hlo
  obtain ⟨hx, hb, hr, hml, hown, hts, hK, hlk, hnm, hB, hf1, hf2, hf3, hf4⟩ := hX
  have K := fun ls' hl' => kk (aOkL_set hL (hS _ List.mem_cons_self)) (aOkTl hS) hC ls' H locs hl' hH hlo
  simp only [opOk] at ho
  rw [List.map_cons]
  rcases aV_r G (aOkRf hS) with ⟨-, hn⟩ | ⟨-, hn⟩
  · rw [hn]
    split at ho
    · simp only [decide_eq_true_eq] at ho
      obtain ⟨rfl, h2, h3⟩ := ho
      rw [Nat.add_sub_cancel_left] at hd
      rw [h2] at K hj
      exact lv_astoreN hx hb hd hl h3 rfl (fun ls' hl' => K ls' (lv_fewer hl' (st1 hn hj)))
    · simp only [decide_eq_true_eq] at ho
      obtain ⟨rfl, h2, h3⟩ := ho
      rw [Nat.add_sub_cancel_left] at hd
      rw [h2] at K hj
      exact lv_astore_nN hx hb hd rfl hl h3 rfl (fun ls' hl' => K ls' (lv_fewer hl' (st1 hn hj)))
    · cases ho
  · rw [hn]
    split at ho
    · simp only [decide_eq_true_eq] at ho
      obtain ⟨rfl, h2, h3⟩ := ho
      rw [Nat.add_sub_cancel_left] at hd
      rw [h2] at K hj
      exact lv_astore hx hb hd hl h3 rfl (fun ls' hl' => K ls' (lv_fewer hl' (st1 hn hj)))
    · simp only [decide_eq_true_eq] at ho
      obtain ⟨rfl, h2, h3⟩ := ho
      rw [Nat.add_sub_cancel_left] at hd
      rw [h2] at K hj
      exact lv_astore_n hx hb hd rfl hl h3 rfl (fun ls' hl' => K ls' (lv_fewer hl' (st1 hn hj)))
    · cases ho
theorem r_iinc {w : Int} (hw : aNth L a.toNat = some (0, w)) (hj : ∀ (j : Nat) (u : aTV), j + 1 = a.toNat → aNth L j = some u → u.1 ≠ 1) (hcn : mi.1.cls = aCn mi.2.2.2.2.1.1) (hX : aCtx G d mi p R s m args meth c) (hd : decode mi.2.1 pc = .ok (i, nxt - pc)) (ho : opOk mi pc nxt i 31 a b tgt tl = true) (kk : VW G l mi p e R s m args below meth c Q nxt (aSet L a.toNat (0, wr (w + b))) S st) : VW G l mi p e R s m args below meth c Q pc L S st := by
  intro hL hS hC ls H locs hl hH hlo
  obtain ⟨hx, hb, hr, hml, hown, hts, hK, hlk, hnm, hB, hf1, hf2, hf3, hf4⟩ := hX
  have K := fun ls' hl' => kk (aOkL_set hL (aOk_i (i32_wr _))) hS hC ls' H locs hl' hH hlo
  obtain ⟨kx, hkx⟩ := List.getElem?_of_mem (aLv_mem.mpr ⟨_, _, hw, Nat.le_of_ble_eq_true rfl, rfl⟩ : (0 + a.toNat, aV G (0, w)) ∈ aLv G 0 L)
  rw [Nat.zero_add] at hkx
  simp only [opOk] at ho
  split at ho
  · simp only [decide_eq_true_eq] at ho
    obtain ⟨rfl, h2, h3, rfl⟩ := ho
    rw [Nat.add_sub_cancel_left] at hd
    rw [h2] at K hj hkx
    exact lv_iinc hx hb hd hl hkx (of_add w _) h3 rfl (fun ls' hl' => K ls' (lv_fewer hl' (st1 rfl hj)))
  · cases ho
theorem r_iadd {x y : Int} (hcn : mi.1.cls = aCn mi.2.2.2.2.1.1) (hX : aCtx G d mi p R s m args meth c) (hd : decode mi.2.1 pc = .ok (i, nxt - pc)) (ho : opOk mi pc nxt i 11 a b tgt tl = true) (kk : VW G l mi p e R s m args below meth c Q nxt L ((0, wr (x + y)) :: S) st) : VW G l mi p e R s m args below meth c Q pc L ((0, y) :: (0, x) :: S) st := by
  intro hL hS hC ls H locs hl hH hlo
  obtain ⟨hx, hb, hr, hml, hown, hts, hK, hlk, hnm, hB, hf1, hf2, hf3, hf4⟩ := hX
  simp only [opOk, opSimple, decide_eq_true_eq] at ho
  obtain ⟨rfl, rfl⟩ := ho
  rw [Nat.add_sub_cancel_left] at hd
  refine lv_iadd (x := Int32.ofInt x) (y := Int32.ofInt y) hx hb hd ?_
  rw [of_add]
  exact kk hL (aOkCo (aOk_i (i32_wr _)) (aOkTl (aOkTl hS))) hC ls H locs hl hH hlo
theorem r_isub {x y : Int} (hcn : mi.1.cls = aCn mi.2.2.2.2.1.1) (hX : aCtx G d mi p R s m args meth c) (hd : decode mi.2.1 pc = .ok (i, nxt - pc)) (ho : opOk mi pc nxt i 12 a b tgt tl = true) (kk : VW G l mi p e R s m args below meth c Q nxt L ((0, wr (x - y)) :: S) st) : VW G l mi p e R s m args below meth c Q pc L ((0, y) :: (0, x) :: S) st := by
  intro hL hS hC ls H locs hl hH hlo
  obtain ⟨hx, hb, hr, hml, hown, hts, hK, hlk, hnm, hB, hf1, hf2, hf3, hf4⟩ := hX
  simp only [opOk, opSimple, decide_eq_true_eq] at ho
  obtain ⟨rfl, rfl⟩ := ho
  rw [Nat.add_sub_cancel_left] at hd
  refine lv_isub (x := Int32.ofInt x) (y := Int32.ofInt y) hx hb hd ?_
  rw [of_sub]
  exact kk hL (aOkCo (aOk_i (i32_wr _)) (aOkTl (aOkTl hS))) hC ls H locs hl hH hlo
theorem r_imul {x y : Int} (hcn : mi.1.cls = aCn mi.2.2.2.2.1.1) (hX : aCtx G d mi p R s m args meth c) (hd : decode mi.2.1 pc = .ok (i, nxt - pc)) (ho : opOk mi pc nxt i 13 a b tgt tl = true) (kk : VW G l mi p e R s m args below meth c Q nxt L ((0, wr (x * y)) :: S) st) : VW G l mi p e R s m args below meth c Q pc L ((0, y) :: (0, x) :: S) st := by
  intro hL hS hC ls H locs hl hH hlo
  obtain ⟨hx, hb, hr, hml, hown, hts, hK, hlk, hnm, hB, hf1, hf2, hf3, hf4⟩ := hX
  simp only [opOk, opSimple, decide_eq_true_eq] at ho
  obtain ⟨rfl, rfl⟩ := ho
  rw [Nat.add_sub_cancel_left] at hd
  refine lv_imul (x := Int32.ofInt x) (y := Int32.ofInt y) hx hb hd ?_
  rw [of_mul]
  exact kk hL (aOkCo (aOk_i (i32_wr _)) (aOkTl (aOkTl hS))) hC ls H locs hl hH hlo
theorem r_iand {x y : Int} (hcn : mi.1.cls = aCn mi.2.2.2.2.1.1) (hX : aCtx G d mi p R s m args meth c) (hd : decode mi.2.1 pc = .ok (i, nxt - pc)) (ho : opOk mi pc nxt i 14 a b tgt tl = true) (kk : VW G l mi p e R s m args below meth c Q nxt L ((0, bAnd x y) :: S) st) : VW G l mi p e R s m args below meth c Q pc L ((0, y) :: (0, x) :: S) st := by
  intro hL hS hC ls H locs hl hH hlo
  obtain ⟨hx, hb, hr, hml, hown, hts, hK, hlk, hnm, hB, hf1, hf2, hf3, hf4⟩ := hX
  simp only [opOk, opSimple, decide_eq_true_eq] at ho
  obtain ⟨rfl, rfl⟩ := ho
  rw [Nat.add_sub_cancel_left] at hd
  have K := kk hL (aOkCo (aOk_i (i32_to _)) (aOkTl (aOkTl hS))) hC ls H locs hl hH hlo
  refine lv_iand (x := Int32.ofInt x) (y := Int32.ofInt y) hx hb hd ?_
  rw [List.map_cons, show aV G (0, bAnd x y) = .int (Int32.ofInt (bAnd x y)) from rfl, bAnd, Int32.ofInt_toInt] at K
  exact K
theorem r_ior {x y : Int} (hcn : mi.1.cls = aCn mi.2.2.2.2.1.1) (hX : aCtx G d mi p R s m args meth c) (hd : decode mi.2.1 pc = .ok (i, nxt - pc)) (ho : opOk mi pc nxt i 15 a b tgt tl = true) (kk : VW G l mi p e R s m args below meth c Q nxt L ((0, bOr x y) :: S) st) : VW G l mi p e R s m args below meth c Q pc L ((0, y) :: (0, x) :: S) st := by
  intro hL hS hC ls H locs hl hH hlo
  obtain ⟨hx, hb, hr, hml, hown, hts, hK, hlk, hnm, hB, hf1, hf2, hf3, hf4⟩ := hX
  simp only [opOk, opSimple, decide_eq_true_eq] at ho
  obtain ⟨rfl, rfl⟩ := ho
  rw [Nat.add_sub_cancel_left] at hd
  have K := kk hL (aOkCo (aOk_i (i32_to _)) (aOkTl (aOkTl hS))) hC ls H locs hl hH hlo
  refine lv_ior (x := Int32.ofInt x) (y := Int32.ofInt y) hx hb hd ?_
  rw [List.map_cons, show aV G (0, bOr x y) = .int (Int32.ofInt (bOr x y)) from rfl, bOr, Int32.ofInt_toInt] at K
  exact K
theorem r_ixor {x y : Int} (hcn : mi.1.cls = aCn mi.2.2.2.2.1.1) (hX : aCtx G d mi p R s m args meth c) (hd : decode mi.2.1 pc = .ok (i, nxt - pc)) (ho : opOk mi pc nxt i 16 a b tgt tl = true) (kk : VW G l mi p e R s m args below meth c Q nxt L ((0, bXor x y) :: S) st) : VW G l mi p e R s m args below meth c Q pc L ((0, y) :: (0, x) :: S) st := by
  intro hL hS hC ls H locs hl hH hlo
  obtain ⟨hx, hb, hr, hml, hown, hts, hK, hlk, hnm, hB, hf1, hf2, hf3, hf4⟩ := hX
  simp only [opOk, opSimple, decide_eq_true_eq] at ho
  obtain ⟨rfl, rfl⟩ := ho
  rw [Nat.add_sub_cancel_left] at hd
  have K := kk hL (aOkCo (aOk_i (i32_to _)) (aOkTl (aOkTl hS))) hC ls H locs hl hH hlo
  refine lv_ixor (x := Int32.ofInt x) (y := Int32.ofInt y) hx hb hd ?_
  rw [List.map_cons, show aV G (0, bXor x y) = .int (Int32.ofInt (bXor x y)) from rfl, bXor, Int32.ofInt_toInt] at K
  exact K
theorem r_ishl {x y : Int} (hcn : mi.1.cls = aCn mi.2.2.2.2.1.1) (hX : aCtx G d mi p R s m args meth c) (hd : decode mi.2.1 pc = .ok (i, nxt - pc)) (ho : opOk mi pc nxt i 17 a b tgt tl = true) (kk : VW G l mi p e R s m args below meth c Q nxt L ((0, bShl x y) :: S) st) : VW G l mi p e R s m args below meth c Q pc L ((0, y) :: (0, x) :: S) st := by
  intro hL hS hC ls H locs hl hH hlo
  obtain ⟨hx, hb, hr, hml, hown, hts, hK, hlk, hnm, hB, hf1, hf2, hf3, hf4⟩ := hX
  simp only [opOk, opSimple, decide_eq_true_eq] at ho
  obtain ⟨rfl, rfl⟩ := ho
  rw [Nat.add_sub_cancel_left] at hd
  have K := kk hL (aOkCo (aOk_i (i32_to _)) (aOkTl (aOkTl hS))) hC ls H locs hl hH hlo
  refine lv_ishl (x := Int32.ofInt x) (y := Int32.ofInt y) hx hb hd ?_
  rw [List.map_cons, show aV G (0, bShl x y) = .int (Int32.ofInt (bShl x y)) from rfl, bShl, Int32.ofInt_toInt] at K
  exact K
theorem r_ishr {x y : Int} (hcn : mi.1.cls = aCn mi.2.2.2.2.1.1) (hX : aCtx G d mi p R s m args meth c) (hd : decode mi.2.1 pc = .ok (i, nxt - pc)) (ho : opOk mi pc nxt i 18 a b tgt tl = true) (kk : VW G l mi p e R s m args below meth c Q nxt L ((0, bShr x y) :: S) st) : VW G l mi p e R s m args below meth c Q pc L ((0, y) :: (0, x) :: S) st := by
  intro hL hS hC ls H locs hl hH hlo
  obtain ⟨hx, hb, hr, hml, hown, hts, hK, hlk, hnm, hB, hf1, hf2, hf3, hf4⟩ := hX
  simp only [opOk, opSimple, decide_eq_true_eq] at ho
  obtain ⟨rfl, rfl⟩ := ho
  rw [Nat.add_sub_cancel_left] at hd
  have K := kk hL (aOkCo (aOk_i (i32_to _)) (aOkTl (aOkTl hS))) hC ls H locs hl hH hlo
  refine lv_ishr (x := Int32.ofInt x) (y := Int32.ofInt y) hx hb hd ?_
  rw [List.map_cons, show aV G (0, bShr x y) = .int (Int32.ofInt (bShr x y)) from rfl, bShr, Int32.ofInt_toInt] at K
  exact K
theorem r_iushr {x y : Int} (hcn : mi.1.cls = aCn mi.2.2.2.2.1.1) (hX : aCtx G d mi p R s m args meth c) (hd : decode mi.2.1 pc = .ok (i, nxt - pc)) (ho : opOk mi pc nxt i 19 a b tgt tl = true) (kk : VW G l mi p e R s m args below meth c Q nxt L ((0, bUsh x y) :: S) st) : VW G l mi p e R s m args below meth c Q pc L ((0, y) :: (0, x) :: S) st := by
  intro hL hS hC ls H locs hl hH hlo
  obtain ⟨hx, hb, hr, hml, hown, hts, hK, hlk, hnm, hB, hf1, hf2, hf3, hf4⟩ := hX
  simp only [opOk, opSimple, decide_eq_true_eq] at ho
  obtain ⟨rfl, rfl⟩ := ho
  rw [Nat.add_sub_cancel_left] at hd
  have K := kk hL (aOkCo (aOk_i (i32_to _)) (aOkTl (aOkTl hS))) hC ls H locs hl hH hlo
  refine lv_iushr (x := Int32.ofInt x) (y := Int32.ofInt y) hx hb hd rfl ?_
  rw [List.map_cons, show aV G (0, bUsh x y) = .int (Int32.ofInt (bUsh x y)) from rfl, bUsh, Int32.ofInt_toInt] at K
  exact K
theorem r_ladd {x y : Int} (hcn : mi.1.cls = aCn mi.2.2.2.2.1.1) (hX : aCtx G d mi p R s m args meth c) (hd : decode mi.2.1 pc = .ok (i, nxt - pc)) (ho : opOk mi pc nxt i 20 a b tgt tl = true) (kk : VW G l mi p e R s m args below meth c Q nxt L ((1, wl (x + y)) :: S) st) : VW G l mi p e R s m args below meth c Q pc L ((1, y) :: (1, x) :: S) st := by
  intro hL hS hC ls H locs hl hH hlo
  obtain ⟨hx, hb, hr, hml, hown, hts, hK, hlk, hnm, hB, hf1, hf2, hf3, hf4⟩ := hX
  simp only [opOk, opSimple, decide_eq_true_eq] at ho
  obtain ⟨rfl, rfl⟩ := ho
  rw [Nat.add_sub_cancel_left] at hd
  refine lv_ladd (x := Int64.ofInt x) (y := Int64.ofInt y) hx hb hd ?_
  rw [of_addL]
  exact kk hL (aOkCo (aOk_l (i64_wl _)) (aOkTl (aOkTl hS))) hC ls H locs hl hH hlo
theorem r_lsub {x y : Int} (hcn : mi.1.cls = aCn mi.2.2.2.2.1.1) (hX : aCtx G d mi p R s m args meth c) (hd : decode mi.2.1 pc = .ok (i, nxt - pc)) (ho : opOk mi pc nxt i 21 a b tgt tl = true) (kk : VW G l mi p e R s m args below meth c Q nxt L ((1, wl (x - y)) :: S) st) : VW G l mi p e R s m args below meth c Q pc L ((1, y) :: (1, x) :: S) st := by
  intro hL hS hC ls H locs hl hH hlo
  obtain ⟨hx, hb, hr, hml, hown, hts, hK, hlk, hnm, hB, hf1, hf2, hf3, hf4⟩ := hX
  simp only [opOk, opSimple, decide_eq_true_eq] at ho
  obtain ⟨rfl, rfl⟩ := ho
  rw [Nat.add_sub_cancel_left] at hd
  refine lv_lsub (x := Int64.ofInt x) (y := Int64.ofInt y) hx hb hd ?_
  rw [of_subL]
  exact kk hL (aOkCo (aOk_l (i64_wl _)) (aOkTl (aOkTl hS))) hC ls H locs hl hH hlo
theorem r_lmul {x y : Int} (hcn : mi.1.cls = aCn mi.2.2.2.2.1.1) (hX : aCtx G d mi p R s m args meth c) (hd : decode mi.2.1 pc = .ok (i, nxt - pc)) (ho : opOk mi pc nxt i 22 a b tgt tl = true) (kk : VW G l mi p e R s m args below meth c Q nxt L ((1, wl (x * y)) :: S) st) : VW G l mi p e R s m args below meth c Q pc L ((1, y) :: (1, x) :: S) st := by
  intro hL hS hC ls H locs hl hH hlo
  obtain ⟨hx, hb, hr, hml, hown, hts, hK, hlk, hnm, hB, hf1, hf2, hf3, hf4⟩ := hX
  simp only [opOk, opSimple, decide_eq_true_eq] at ho
  obtain ⟨rfl, rfl⟩ := ho
  rw [Nat.add_sub_cancel_left] at hd
  refine lv_lmul (x := Int64.ofInt x) (y := Int64.ofInt y) hx hb hd ?_
  rw [of_mulL]
  exact kk hL (aOkCo (aOk_l (i64_wl _)) (aOkTl (aOkTl hS))) hC ls H locs hl hH hlo
theorem r_land {x y : Int} (hcn : mi.1.cls = aCn mi.2.2.2.2.1.1) (hX : aCtx G d mi p R s m args meth c) (hd : decode mi.2.1 pc = .ok (i, nxt - pc)) (ho : opOk mi pc nxt i 23 a b tgt tl = true) (kk : VW G l mi p e R s m args below meth c Q nxt L ((1, bAndL x y) :: S) st) : VW G l mi p e R s m args below meth c Q pc L ((1, y) :: (1, x) :: S) st := by
  intro hL hS hC ls H locs hl hH hlo
  obtain ⟨hx, hb, hr, hml, hown, hts, hK, hlk, hnm, hB, hf1, hf2, hf3, hf4⟩ := hX
  simp only [opOk, opSimple, decide_eq_true_eq] at ho
  obtain ⟨rfl, rfl⟩ := ho
  rw [Nat.add_sub_cancel_left] at hd
  have K := kk hL (aOkCo (aOk_l (i64_to _)) (aOkTl (aOkTl hS))) hC ls H locs hl hH hlo
  refine lv_land (x := Int64.ofInt x) (y := Int64.ofInt y) hx hb hd ?_
  rw [List.map_cons, show aV G (1, bAndL x y) = .long (Int64.ofInt (bAndL x y)) from rfl, bAndL, Int64.ofInt_toInt] at K
  exact K
theorem r_lor {x y : Int} (hcn : mi.1.cls = aCn mi.2.2.2.2.1.1) (hX : aCtx G d mi p R s m args meth c) (hd : decode mi.2.1 pc = .ok (i, nxt - pc)) (ho : opOk mi pc nxt i 24 a b tgt tl = true) (kk : VW G l mi p e R s m args below meth c Q nxt L ((1, bOrL x y) :: S) st) : VW G l mi p e R s m args below meth c Q pc L ((1, y) :: (1, x) :: S) st := by
  intro hL hS hC ls H locs hl hH hlo
  obtain ⟨hx, hb, hr, hml, hown, hts, hK, hlk, hnm, hB, hf1, hf2, hf3, hf4⟩ := hX
  simp only [opOk, opSimple, decide_eq_true_eq] at ho
  obtain ⟨rfl, rfl⟩ := ho
  rw [Nat.add_sub_cancel_left] at hd
  have K := kk hL (aOkCo (aOk_l (i64_to _)) (aOkTl (aOkTl hS))) hC ls H locs hl hH hlo
  refine lv_lor (x := Int64.ofInt x) (y := Int64.ofInt y) hx hb hd ?_
  rw [List.map_cons, show aV G (1, bOrL x y) = .long (Int64.ofInt (bOrL x y)) from rfl, bOrL, Int64.ofInt_toInt] at K
  exact K
theorem r_lshl {x y : Int} (hcn : mi.1.cls = aCn mi.2.2.2.2.1.1) (hX : aCtx G d mi p R s m args meth c) (hd : decode mi.2.1 pc = .ok (i, nxt - pc)) (ho : opOk mi pc nxt i 25 a b tgt tl = true) (kk : VW G l mi p e R s m args below meth c Q nxt L ((1, bShlL x y) :: S) st) : VW G l mi p e R s m args below meth c Q pc L ((0, y) :: (1, x) :: S) st := by
  intro hL hS hC ls H locs hl hH hlo
  obtain ⟨hx, hb, hr, hml, hown, hts, hK, hlk, hnm, hB, hf1, hf2, hf3, hf4⟩ := hX
  simp only [opOk, opSimple, decide_eq_true_eq] at ho
  obtain ⟨rfl, rfl⟩ := ho
  rw [Nat.add_sub_cancel_left] at hd
  have K := kk hL (aOkCo (aOk_l (i64_to _)) (aOkTl (aOkTl hS))) hC ls H locs hl hH hlo
  refine lv_lshl (x := Int64.ofInt x) (y := Int32.ofInt y) hx hb hd rfl ?_
  rw [List.map_cons, show aV G (1, bShlL x y) = .long (Int64.ofInt (bShlL x y)) from rfl, bShlL, Int64.ofInt_toInt] at K
  exact K
theorem r_lshr {x y : Int} (hcn : mi.1.cls = aCn mi.2.2.2.2.1.1) (hX : aCtx G d mi p R s m args meth c) (hd : decode mi.2.1 pc = .ok (i, nxt - pc)) (ho : opOk mi pc nxt i 26 a b tgt tl = true) (kk : VW G l mi p e R s m args below meth c Q nxt L ((1, bShrL x y) :: S) st) : VW G l mi p e R s m args below meth c Q pc L ((0, y) :: (1, x) :: S) st := by
  intro hL hS hC ls H locs hl hH hlo
  obtain ⟨hx, hb, hr, hml, hown, hts, hK, hlk, hnm, hB, hf1, hf2, hf3, hf4⟩ := hX
  simp only [opOk, opSimple, decide_eq_true_eq] at ho
  obtain ⟨rfl, rfl⟩ := ho
  rw [Nat.add_sub_cancel_left] at hd
  have K := kk hL (aOkCo (aOk_l (i64_to _)) (aOkTl (aOkTl hS))) hC ls H locs hl hH hlo
  refine lv_lshr (x := Int64.ofInt x) (y := Int32.ofInt y) hx hb hd rfl ?_
  rw [List.map_cons, show aV G (1, bShrL x y) = .long (Int64.ofInt (bShrL x y)) from rfl, bShrL, Int64.ofInt_toInt] at K
  exact K
theorem r_lushr {x y : Int} (hcn : mi.1.cls = aCn mi.2.2.2.2.1.1) (hX : aCtx G d mi p R s m args meth c) (hd : decode mi.2.1 pc = .ok (i, nxt - pc)) (ho : opOk mi pc nxt i 27 a b tgt tl = true) (kk : VW G l mi p e R s m args below meth c Q nxt L ((1, bUshL x y) :: S) st) : VW G l mi p e R s m args below meth c Q pc L ((0, y) :: (1, x) :: S) st := by
  intro hL hS hC ls H locs hl hH hlo
  obtain ⟨hx, hb, hr, hml, hown, hts, hK, hlk, hnm, hB, hf1, hf2, hf3, hf4⟩ := hX
  simp only [opOk, opSimple, decide_eq_true_eq] at ho
  obtain ⟨rfl, rfl⟩ := ho
  rw [Nat.add_sub_cancel_left] at hd
  have K := kk hL (aOkCo (aOk_l (i64_to _)) (aOkTl (aOkTl hS))) hC ls H locs hl hH hlo
  refine lv_lushr (x := Int64.ofInt x) (y := Int32.ofInt y) hx hb hd rfl ?_
  rw [List.map_cons, show aV G (1, bUshL x y) = .long (Int64.ofInt (bUshL x y)) from rfl, bUshL, Int64.ofInt_toInt] at K
  exact K
theorem r_idiv {x y : Int} (hy : ¬ y = 0) (hcn : mi.1.cls = aCn mi.2.2.2.2.1.1) (hX : aCtx G d mi p R s m args meth c) (hd : decode mi.2.1 pc = .ok (i, nxt - pc)) (ho : opOk mi pc nxt i 28 a b tgt tl = true) (kk : VW G l mi p e R s m args below meth c Q nxt L ((0, wr (x.tdiv y)) :: S) st) : VW G l mi p e R s m args below meth c Q pc L ((0, y) :: (0, x) :: S) st := by
  intro hL hS hC ls H locs hl hH hlo
  obtain ⟨hx, hb, hr, hml, hown, hts, hK, hlk, hnm, hB, hf1, hf2, hf3, hf4⟩ := hX
  simp only [opOk, opSimple, decide_eq_true_eq] at ho
  obtain ⟨rfl, rfl⟩ := ho
  rw [Nat.add_sub_cancel_left] at hd
  refine lv_idiv (x := Int32.ofInt x) (y := Int32.ofInt y) hx hb hd (fun q => hy ((of_eq0 (aOk32 hS)).mp q)) ?_
  rw [of_div (aOk32 (aOkTl hS)) (aOk32 hS)]
  exact kk hL (aOkCo (aOk_i (i32_wr _)) (aOkTl (aOkTl hS))) hC ls H locs hl hH hlo
theorem r_ldiv {x y : Int} (hy : ¬ y = 0) (hcn : mi.1.cls = aCn mi.2.2.2.2.1.1) (hX : aCtx G d mi p R s m args meth c) (hd : decode mi.2.1 pc = .ok (i, nxt - pc)) (ho : opOk mi pc nxt i 29 a b tgt tl = true) (kk : VW G l mi p e R s m args below meth c Q nxt L ((1, wl (x.tdiv y)) :: S) st) : VW G l mi p e R s m args below meth c Q pc L ((1, y) :: (1, x) :: S) st := by
  intro hL hS hC ls H locs hl hH hlo
  obtain ⟨hx, hb, hr, hml, hown, hts, hK, hlk, hnm, hB, hf1, hf2, hf3, hf4⟩ := hX
  simp only [opOk, opSimple, decide_eq_true_eq] at ho
  obtain ⟨rfl, rfl⟩ := ho
  rw [Nat.add_sub_cancel_left] at hd
  refine lv_ldiv (x := Int64.ofInt x) (y := Int64.ofInt y) hx hb hd (fun q => hy ((of_eq0L (aOk64 hS)).mp q)) ?_
  rw [of_divL (aOk64 (aOkTl hS)) (aOk64 hS)]
  exact kk hL (aOkCo (aOk_l (i64_wl _)) (aOkTl (aOkTl hS))) hC ls H locs hl hH hlo
theorem r_ineg {x : Int} (hcn : mi.1.cls = aCn mi.2.2.2.2.1.1) (hX : aCtx G d mi p R s m args meth c) (hd : decode mi.2.1 pc = .ok (i, nxt - pc)) (ho : opOk mi pc nxt i 30 a b tgt tl = true) (kk : VW G l mi p e R s m args below meth c Q nxt L ((0, wr (-x)) :: S) st) : VW G l mi p e R s m args below meth c Q pc L ((0, x) :: S) st := by
  intro hL hS hC ls H locs hl hH hlo
  obtain ⟨hx, hb, hr, hml, hown, hts, hK, hlk, hnm, hB, hf1, hf2, hf3, hf4⟩ := hX
  simp only [opOk, opSimple, decide_eq_true_eq] at ho
  obtain ⟨rfl, rfl⟩ := ho
  rw [Nat.add_sub_cancel_left] at hd
  refine lv_ineg (x := Int32.ofInt x) hx hb hd ?_
  rw [of_neg]
  exact kk hL (aOkCo (aOk_i (i32_wr _)) (aOkTl hS)) hC ls H locs hl hH hlo
theorem r_i2l {x : Int} (hcn : mi.1.cls = aCn mi.2.2.2.2.1.1) (hX : aCtx G d mi p R s m args meth c) (hd : decode mi.2.1 pc = .ok (i, nxt - pc)) (ho : opOk mi pc nxt i 32 a b tgt tl = true) (kk : VW G l mi p e R s m args below meth c Q nxt L ((1, x) :: S) st) : VW G l mi p e R s m args below meth c Q pc L ((0, x) :: S) st := by
  intro hL hS hC ls H locs hl hH hlo
  obtain ⟨hx, hb, hr, hml, hown, hts, hK, hlk, hnm, hB, hf1, hf2, hf3, hf4⟩ := hX
  simp only [opOk, opSimple, decide_eq_true_eq] at ho
  obtain ⟨rfl, rfl⟩ := ho
  rw [Nat.add_sub_cancel_left] at hd
  exact lv_i2l (x := Int32.ofInt x) hx hb hd (of_i2l (aOk32 hS)) (kk hL (aOkCo (aOk_l (i32_64 (aOk32 hS))) (aOkTl hS)) hC ls H locs hl hH hlo)
theorem r_l2i {x : Int} (hcn : mi.1.cls = aCn mi.2.2.2.2.1.1) (hX : aCtx G d mi p R s m args meth c) (hd : decode mi.2.1 pc = .ok (i, nxt - pc)) (ho : opOk mi pc nxt i 33 a b tgt tl = true) (kk : VW G l mi p e R s m args below meth c Q nxt L ((0, wr x) :: S) st) : VW G l mi p e R s m args below meth c Q pc L ((1, x) :: S) st := by
  intro hL hS hC ls H locs hl hH hlo
  obtain ⟨hx, hb, hr, hml, hown, hts, hK, hlk, hnm, hB, hf1, hf2, hf3, hf4⟩ := hX
  simp only [opOk, opSimple, decide_eq_true_eq] at ho
  obtain ⟨rfl, rfl⟩ := ho
  rw [Nat.add_sub_cancel_left] at hd
  exact lv_l2i (x := Int64.ofInt x) hx hb hd (of_l2i x) (kk hL (aOkCo (aOk_i (i32_wr _)) (aOkTl hS)) hC ls H locs hl hH hlo)
theorem r_i2c {x : Int} (hcn : mi.1.cls = aCn mi.2.2.2.2.1.1) (hX : aCtx G d mi p R s m args meth c) (hd : decode mi.2.1 pc = .ok (i, nxt - pc)) (ho : opOk mi pc nxt i 34 a b tgt tl = true) (kk : VW G l mi p e R s m args below meth c Q nxt L ((0, wc x) :: S) st) : VW G l mi p e R s m args below meth c Q pc L ((0, x) :: S) st := by
  intro hL hS hC ls H locs hl hH hlo
  obtain ⟨hx, hb, hr, hml, hown, hts, hK, hlk, hnm, hB, hf1, hf2, hf3, hf4⟩ := hX
  simp only [opOk, opSimple, decide_eq_true_eq] at ho
  obtain ⟨rfl, rfl⟩ := ho
  rw [Nat.add_sub_cancel_left] at hd
  exact lv_i2c (x := Int32.ofInt x) hx hb hd (of_i2c (aOk32 hS)) (kk hL (aOkCo (aOk_i (i32_wc _)) (aOkTl hS)) hC ls H locs hl hH hlo)
theorem r_lcmp {x y : Int} (hcn : mi.1.cls = aCn mi.2.2.2.2.1.1) (hX : aCtx G d mi p R s m args meth c) (hd : decode mi.2.1 pc = .ok (i, nxt - pc)) (ho : opOk mi pc nxt i 35 a b tgt tl = true) (kk : VW G l mi p e R s m args below meth c Q nxt L ((0, cmp3 x y) :: S) st) : VW G l mi p e R s m args below meth c Q pc L ((1, y) :: (1, x) :: S) st := by
  intro hL hS hC ls H locs hl hH hlo
  obtain ⟨hx, hb, hr, hml, hown, hts, hK, hlk, hnm, hB, hf1, hf2, hf3, hf4⟩ := hX
  simp only [opOk, opSimple, decide_eq_true_eq] at ho
  obtain ⟨rfl, rfl⟩ := ho
  rw [Nat.add_sub_cancel_left] at hd
  refine W.lcmp (x := Int64.ofInt x) (y := Int64.ofInt y) hx hb hd ?_
  have e : lg_cmp (Int64.ofInt x) (Int64.ofInt y) = Int32.ofInt (cmp3 x y) := by
    have h1 := of_ltL (aOk64 hS) (aOk64 (aOkTl hS))
    have h2 := of_eqL (aOk64 (aOkTl hS)) (aOk64 hS)
    unfold lg_cmp cmp3
    simp only [h1, h2]
    by_cases hlt : x < y
    · rw [if_neg (by omega), if_neg (by omega), if_pos hlt]; rfl
    · by_cases he : x = y
      · rw [if_neg (by omega), if_pos he, if_neg hlt, if_pos he]; rfl
      · rw [if_pos (by omega), if_neg hlt, if_neg he]; rfl
  rw [e]
  exact kk hL (aOkCo (aOk_i (i32_cmp3 _ _)) (aOkTl (aOkTl hS))) hC ls H locs hl hH hlo
theorem r_icmp_eq {x y : Int} (hcn : mi.1.cls = aCn mi.2.2.2.2.1.1) (hX : aCtx G d mi p R s m args meth c) (hd : decode mi.2.1 pc = .ok (i, nxt - pc)) (ho : opOk mi pc nxt i 36 a b tgt tl = true) (kt : x = y → VW G l mi p e R s m args below meth c Q tgt L S st) (kf : ¬ x = y → VW G l mi p e R s m args below meth c Q nxt L S st) : VW G l mi p e R s m args below meth c Q pc L ((0, y) :: (0, x) :: S) st := by
  intro hL hS hC ls H locs hl hH hlo
  obtain ⟨hx, hb, hr, hml, hown, hts, hK, hlk, hnm, hB, hf1, hf2, hf3, hf4⟩ := hX
  have KT := fun q => kt q hL (aOkTl (aOkTl hS)) hC ls H locs hl hH hlo
  have KF := fun q => kf q hL (aOkTl (aOkTl hS)) hC ls H locs hl hH hlo
  simp only [opOk] at ho
  split at ho
  · simp only [decide_eq_true_eq] at ho
    obtain ⟨rfl, ht⟩ := ho
    rw [Nat.add_sub_cancel_left] at hd
    exact lv_icmp_eq hx hb hd ht (fun q => KT ((of_eq (aOk32 (aOkTl hS)) (aOk32 hS)).mp q)) (fun q => KF (fun z => q ((of_eq (aOk32 (aOkTl hS)) (aOk32 hS)).mpr z)))
  · cases ho
theorem r_icmp_ne {x y : Int} (hcn : mi.1.cls = aCn mi.2.2.2.2.1.1) (hX : aCtx G d mi p R s m args meth c) (hd : decode mi.2.1 pc = .ok (i, nxt - pc)) (ho : opOk mi pc nxt i 37 a b tgt tl = true) (kt : ¬ x = y → VW G l mi p e R s m args below meth c Q tgt L S st) (kf : x = y → VW G l mi p e R s m args below meth c Q nxt L S st) : VW G l mi p e R s m args below meth c Q pc L ((0, y) :: (0, x) :: S) st := by
  intro hL hS hC ls H locs hl hH hlo
  obtain ⟨hx, hb, hr, hml, hown, hts, hK, hlk, hnm, hB, hf1, hf2, hf3, hf4⟩ := hX
  have KT := fun q => kt q hL (aOkTl (aOkTl hS)) hC ls H locs hl hH hlo
  have KF := fun q => kf q hL (aOkTl (aOkTl hS)) hC ls H locs hl hH hlo
  simp only [opOk] at ho
  split at ho
  · simp only [decide_eq_true_eq] at ho
    obtain ⟨rfl, ht⟩ := ho
    rw [Nat.add_sub_cancel_left] at hd
    exact lv_icmp_ne hx hb hd ht (fun q => KT (fun z => q ((of_eq (aOk32 (aOkTl hS)) (aOk32 hS)).mpr z))) (fun q => KF ((of_eq (aOk32 (aOkTl hS)) (aOk32 hS)).mp q))
  · cases ho
theorem r_icmp_lt {x y : Int} (hcn : mi.1.cls = aCn mi.2.2.2.2.1.1) (hX : aCtx G d mi p R s m args meth c) (hd : decode mi.2.1 pc = .ok (i, nxt - pc)) (ho : opOk mi pc nxt i 38 a b tgt tl = true) (kt : x < y → VW G l mi p e R s m args below meth c Q tgt L S st) (kf : y ≤ x → VW G l mi p e R s m args below meth c Q nxt L S st) : VW G l mi p e R s m args below meth c Q pc L ((0, y) :: (0, x) :: S) st := by
  intro hL hS hC ls H locs hl hH hlo
  obtain ⟨hx, hb, hr, hml, hown, hts, hK, hlk, hnm, hB, hf1, hf2, hf3, hf4⟩ := hX
  have KT := fun q => kt q hL (aOkTl (aOkTl hS)) hC ls H locs hl hH hlo
  have KF := fun q => kf q hL (aOkTl (aOkTl hS)) hC ls H locs hl hH hlo
  simp only [opOk] at ho
  split at ho
  · simp only [decide_eq_true_eq] at ho
    obtain ⟨rfl, ht⟩ := ho
    rw [Nat.add_sub_cancel_left] at hd
    exact lv_icmp_lt hx hb hd ht (fun q => KT ((of_lt (aOk32 (aOkTl hS)) (aOk32 hS)).mp q)) (fun q => KF (Int.not_lt.mp (fun z => q ((of_lt (aOk32 (aOkTl hS)) (aOk32 hS)).mpr z))))
  · cases ho
theorem r_icmp_ge {x y : Int} (hcn : mi.1.cls = aCn mi.2.2.2.2.1.1) (hX : aCtx G d mi p R s m args meth c) (hd : decode mi.2.1 pc = .ok (i, nxt - pc)) (ho : opOk mi pc nxt i 39 a b tgt tl = true) (kt : y ≤ x → VW G l mi p e R s m args below meth c Q tgt L S st) (kf : x < y → VW G l mi p e R s m args below meth c Q nxt L S st) : VW G l mi p e R s m args below meth c Q pc L ((0, y) :: (0, x) :: S) st := by
  intro hL hS hC ls H locs hl hH hlo
  obtain ⟨hx, hb, hr, hml, hown, hts, hK, hlk, hnm, hB, hf1, hf2, hf3, hf4⟩ := hX
  have KT := fun q => kt q hL (aOkTl (aOkTl hS)) hC ls H locs hl hH hlo
  have KF := fun q => kf q hL (aOkTl (aOkTl hS)) hC ls H locs hl hH hlo
  simp only [opOk] at ho
  split at ho
  · simp only [decide_eq_true_eq] at ho
    obtain ⟨rfl, ht⟩ := ho
    rw [Nat.add_sub_cancel_left] at hd
    exact lv_icmp_ge hx hb hd ht (fun q => KT ((of_le (aOk32 hS) (aOk32 (aOkTl hS))).mp q)) (fun q => KF (Int.not_le.mp (fun z => q ((of_le (aOk32 hS) (aOk32 (aOkTl hS))).mpr z))))
  · cases ho
theorem r_icmp_gt {x y : Int} (hcn : mi.1.cls = aCn mi.2.2.2.2.1.1) (hX : aCtx G d mi p R s m args meth c) (hd : decode mi.2.1 pc = .ok (i, nxt - pc)) (ho : opOk mi pc nxt i 40 a b tgt tl = true) (kt : y < x → VW G l mi p e R s m args below meth c Q tgt L S st) (kf : x ≤ y → VW G l mi p e R s m args below meth c Q nxt L S st) : VW G l mi p e R s m args below meth c Q pc L ((0, y) :: (0, x) :: S) st := by
  intro hL hS hC ls H locs hl hH hlo
  obtain ⟨hx, hb, hr, hml, hown, hts, hK, hlk, hnm, hB, hf1, hf2, hf3, hf4⟩ := hX
  have KT := fun q => kt q hL (aOkTl (aOkTl hS)) hC ls H locs hl hH hlo
  have KF := fun q => kf q hL (aOkTl (aOkTl hS)) hC ls H locs hl hH hlo
  simp only [opOk] at ho
  split at ho
  · simp only [decide_eq_true_eq] at ho
    obtain ⟨rfl, ht⟩ := ho
    rw [Nat.add_sub_cancel_left] at hd
    exact lv_icmp_gt hx hb hd ht (fun q => KT ((of_lt (aOk32 hS) (aOk32 (aOkTl hS))).mp q)) (fun q => KF (Int.not_lt.mp (fun z => q ((of_lt (aOk32 hS) (aOk32 (aOkTl hS))).mpr z))))
  · cases ho
theorem r_icmp_le {x y : Int} (hcn : mi.1.cls = aCn mi.2.2.2.2.1.1) (hX : aCtx G d mi p R s m args meth c) (hd : decode mi.2.1 pc = .ok (i, nxt - pc)) (ho : opOk mi pc nxt i 41 a b tgt tl = true) (kt : x ≤ y → VW G l mi p e R s m args below meth c Q tgt L S st) (kf : y < x → VW G l mi p e R s m args below meth c Q nxt L S st) : VW G l mi p e R s m args below meth c Q pc L ((0, y) :: (0, x) :: S) st := by
  intro hL hS hC ls H locs hl hH hlo
  obtain ⟨hx, hb, hr, hml, hown, hts, hK, hlk, hnm, hB, hf1, hf2, hf3, hf4⟩ := hX
  have KT := fun q => kt q hL (aOkTl (aOkTl hS)) hC ls H locs hl hH hlo
  have KF := fun q => kf q hL (aOkTl (aOkTl hS)) hC ls H locs hl hH hlo
  simp only [opOk] at ho
  split at ho
  · simp only [decide_eq_true_eq] at ho
    obtain ⟨rfl, ht⟩ := ho
    rw [Nat.add_sub_cancel_left] at hd
    exact lv_icmp_le hx hb hd ht (fun q => KT ((of_le (aOk32 (aOkTl hS)) (aOk32 hS)).mp q)) (fun q => KF (Int.not_le.mp (fun z => q ((of_le (aOk32 (aOkTl hS)) (aOk32 hS)).mpr z))))
  · cases ho
theorem r_if_eq {x : Int} (hcn : mi.1.cls = aCn mi.2.2.2.2.1.1) (hX : aCtx G d mi p R s m args meth c) (hd : decode mi.2.1 pc = .ok (i, nxt - pc)) (ho : opOk mi pc nxt i 42 a b tgt tl = true) (kt : x = 0 → VW G l mi p e R s m args below meth c Q tgt L S st) (kf : ¬ x = 0 → VW G l mi p e R s m args below meth c Q nxt L S st) : VW G l mi p e R s m args below meth c Q pc L ((0, x) :: S) st := by
  intro hL hS hC ls H locs hl hH hlo
  obtain ⟨hx, hb, hr, hml, hown, hts, hK, hlk, hnm, hB, hf1, hf2, hf3, hf4⟩ := hX
  have KT := fun q => kt q hL (aOkTl hS) hC ls H locs hl hH hlo
  have KF := fun q => kf q hL (aOkTl hS) hC ls H locs hl hH hlo
  simp only [opOk] at ho
  split at ho
  · simp only [decide_eq_true_eq] at ho
    obtain ⟨rfl, ht⟩ := ho
    rw [Nat.add_sub_cancel_left] at hd
    exact lv_if_eq hx hb hd ht (fun q => KT ((of_eq (aOk32 hS) i32_0).mp q)) (fun q => KF (fun z => q ((of_eq (aOk32 hS) i32_0).mpr z)))
  · cases ho
theorem r_if_ne {x : Int} (hcn : mi.1.cls = aCn mi.2.2.2.2.1.1) (hX : aCtx G d mi p R s m args meth c) (hd : decode mi.2.1 pc = .ok (i, nxt - pc)) (ho : opOk mi pc nxt i 43 a b tgt tl = true) (kt : ¬ x = 0 → VW G l mi p e R s m args below meth c Q tgt L S st) (kf : x = 0 → VW G l mi p e R s m args below meth c Q nxt L S st) : VW G l mi p e R s m args below meth c Q pc L ((0, x) :: S) st := by
  intro hL hS hC ls H locs hl hH hlo
  obtain ⟨hx, hb, hr, hml, hown, hts, hK, hlk, hnm, hB, hf1, hf2, hf3, hf4⟩ := hX
  have KT := fun q => kt q hL (aOkTl hS) hC ls H locs hl hH hlo
  have KF := fun q => kf q hL (aOkTl hS) hC ls H locs hl hH hlo
  simp only [opOk] at ho
  split at ho
  · simp only [decide_eq_true_eq] at ho
    obtain ⟨rfl, ht⟩ := ho
    rw [Nat.add_sub_cancel_left] at hd
    exact lv_if_ne hx hb hd ht (fun q => KT (fun z => q ((of_eq (aOk32 hS) i32_0).mpr z))) (fun q => KF ((of_eq (aOk32 hS) i32_0).mp q))
  · cases ho
theorem r_if_lt {x : Int} (hcn : mi.1.cls = aCn mi.2.2.2.2.1.1) (hX : aCtx G d mi p R s m args meth c) (hd : decode mi.2.1 pc = .ok (i, nxt - pc)) (ho : opOk mi pc nxt i 44 a b tgt tl = true) (kt : x < 0 → VW G l mi p e R s m args below meth c Q tgt L S st) (kf : 0 ≤ x → VW G l mi p e R s m args below meth c Q nxt L S st) : VW G l mi p e R s m args below meth c Q pc L ((0, x) :: S) st := by
  intro hL hS hC ls H locs hl hH hlo
  obtain ⟨hx, hb, hr, hml, hown, hts, hK, hlk, hnm, hB, hf1, hf2, hf3, hf4⟩ := hX
  have KT := fun q => kt q hL (aOkTl hS) hC ls H locs hl hH hlo
  have KF := fun q => kf q hL (aOkTl hS) hC ls H locs hl hH hlo
  simp only [opOk] at ho
  split at ho
  · simp only [decide_eq_true_eq] at ho
    obtain ⟨rfl, ht⟩ := ho
    rw [Nat.add_sub_cancel_left] at hd
    exact lv_if_lt hx hb hd ht (fun q => KT ((of_lt (aOk32 hS) i32_0).mp q)) (fun q => KF (Int.not_lt.mp (fun z => q ((of_lt (aOk32 hS) i32_0).mpr z))))
  · cases ho
theorem r_if_ge {x : Int} (hcn : mi.1.cls = aCn mi.2.2.2.2.1.1) (hX : aCtx G d mi p R s m args meth c) (hd : decode mi.2.1 pc = .ok (i, nxt - pc)) (ho : opOk mi pc nxt i 45 a b tgt tl = true) (kt : 0 ≤ x → VW G l mi p e R s m args below meth c Q tgt L S st) (kf : x < 0 → VW G l mi p e R s m args below meth c Q nxt L S st) : VW G l mi p e R s m args below meth c Q pc L ((0, x) :: S) st := by
  intro hL hS hC ls H locs hl hH hlo
  obtain ⟨hx, hb, hr, hml, hown, hts, hK, hlk, hnm, hB, hf1, hf2, hf3, hf4⟩ := hX
  have KT := fun q => kt q hL (aOkTl hS) hC ls H locs hl hH hlo
  have KF := fun q => kf q hL (aOkTl hS) hC ls H locs hl hH hlo
  simp only [opOk] at ho
  split at ho
  · simp only [decide_eq_true_eq] at ho
    obtain ⟨rfl, ht⟩ := ho
    rw [Nat.add_sub_cancel_left] at hd
    exact lv_if_ge hx hb hd ht (fun q => KT ((of_le i32_0 (aOk32 hS)).mp q)) (fun q => KF (Int.not_le.mp (fun z => q ((of_le i32_0 (aOk32 hS)).mpr z))))
  · cases ho
theorem r_if_gt {x : Int} (hcn : mi.1.cls = aCn mi.2.2.2.2.1.1) (hX : aCtx G d mi p R s m args meth c) (hd : decode mi.2.1 pc = .ok (i, nxt - pc)) (ho : opOk mi pc nxt i 46 a b tgt tl = true) (kt : 0 < x → VW G l mi p e R s m args below meth c Q tgt L S st) (kf : x ≤ 0 → VW G l mi p e R s m args below meth c Q nxt L S st) : VW G l mi p e R s m args below meth c Q pc L ((0, x) :: S) st := by
  intro hL hS hC ls H locs hl hH hlo
  obtain ⟨hx, hb, hr, hml, hown, hts, hK, hlk, hnm, hB, hf1, hf2, hf3, hf4⟩ := hX
  have KT := fun q => kt q hL (aOkTl hS) hC ls H locs hl hH hlo
  have KF := fun q => kf q hL (aOkTl hS) hC ls H locs hl hH hlo
  simp only [opOk] at ho
  split at ho
  · simp only [decide_eq_true_eq] at ho
    obtain ⟨rfl, ht⟩ := ho
    rw [Nat.add_sub_cancel_left] at hd
    exact lv_if_gt hx hb hd ht (fun q => KT ((of_lt i32_0 (aOk32 hS)).mp q)) (fun q => KF (Int.not_lt.mp (fun z => q ((of_lt i32_0 (aOk32 hS)).mpr z))))
  · cases ho
theorem r_if_le {x : Int} (hcn : mi.1.cls = aCn mi.2.2.2.2.1.1) (hX : aCtx G d mi p R s m args meth c) (hd : decode mi.2.1 pc = .ok (i, nxt - pc)) (ho : opOk mi pc nxt i 47 a b tgt tl = true) (kt : x ≤ 0 → VW G l mi p e R s m args below meth c Q tgt L S st) (kf : 0 < x → VW G l mi p e R s m args below meth c Q nxt L S st) : VW G l mi p e R s m args below meth c Q pc L ((0, x) :: S) st := by
  intro hL hS hC ls H locs hl hH hlo
  obtain ⟨hx, hb, hr, hml, hown, hts, hK, hlk, hnm, hB, hf1, hf2, hf3, hf4⟩ := hX
  have KT := fun q => kt q hL (aOkTl hS) hC ls H locs hl hH hlo
  have KF := fun q => kf q hL (aOkTl hS) hC ls H locs hl hH hlo
  simp only [opOk] at ho
  split at ho
  · simp only [decide_eq_true_eq] at ho
    obtain ⟨rfl, ht⟩ := ho
    rw [Nat.add_sub_cancel_left] at hd
    exact lv_if_le hx hb hd ht (fun q => KT ((of_le (aOk32 hS) i32_0).mp q)) (fun q => KF (Int.not_le.mp (fun z => q ((of_le (aOk32 hS) i32_0).mpr z))))
  · cases ho
theorem r_goto  (hcn : mi.1.cls = aCn mi.2.2.2.2.1.1) (hX : aCtx G d mi p R s m args meth c) (hd : decode mi.2.1 pc = .ok (i, nxt - pc)) (ho : opOk mi pc nxt i 48 a b tgt tl = true) (kk : VW G l mi p e R s m args below meth c Q tgt L S st) : VW G l mi p e R s m args below meth c Q pc L S st := by
  intro hL hS hC ls H locs hl hH hlo
  obtain ⟨hx, hb, hr, hml, hown, hts, hK, hlk, hnm, hB, hf1, hf2, hf3, hf4⟩ := hX
  have K := kk hL hS hC ls H locs hl hH hlo
  simp only [opOk] at ho
  split at ho
  · simp only [decide_eq_true_eq] at ho
    obtain ⟨rfl, ht⟩ := ho
    rw [Nat.add_sub_cancel_left] at hd
    exact lv_goto hx hb hd ht K
  · cases ho
theorem r_dup {v : aTV} (hv : v.1 ≠ 1) (hcn : mi.1.cls = aCn mi.2.2.2.2.1.1) (hX : aCtx G d mi p R s m args meth c) (hd : decode mi.2.1 pc = .ok (i, nxt - pc)) (ho : opOk mi pc nxt i 66 a b tgt tl = true) (kk : VW G l mi p e R s m args below meth c Q nxt L (v :: v :: S) st) : VW G l mi p e R s m args below meth c Q pc L (v :: S) st := by
  intro hL hS hC ls H locs hl hH hlo
  obtain ⟨hx, hb, hr, hml, hown, hts, hK, hlk, hnm, hB, hf1, hf2, hf3, hf4⟩ := hX
  simp only [opOk, opSimple, decide_eq_true_eq] at ho
  obtain ⟨rfl, rfl⟩ := ho
  rw [Nat.add_sub_cancel_left] at hd
  exact lv_dup hx hb hd (aV_cat1 hv) (kk hL (aOkCo (hS _ List.mem_cons_self) hS) hC ls H locs hl hH hlo)
theorem r_dup2 {v u : aTV} (hv : v.1 ≠ 1) (hu : u.1 ≠ 1) (hcn : mi.1.cls = aCn mi.2.2.2.2.1.1) (hX : aCtx G d mi p R s m args meth c) (hd : decode mi.2.1 pc = .ok (i, nxt - pc)) (ho : opOk mi pc nxt i 67 a b tgt tl = true) (kk : VW G l mi p e R s m args below meth c Q nxt L (v :: u :: v :: u :: S) st) : VW G l mi p e R s m args below meth c Q pc L (v :: u :: S) st := by
  intro hL hS hC ls H locs hl hH hlo
  obtain ⟨hx, hb, hr, hml, hown, hts, hK, hlk, hnm, hB, hf1, hf2, hf3, hf4⟩ := hX
  simp only [opOk, opSimple, decide_eq_true_eq] at ho
  obtain ⟨rfl, rfl⟩ := ho
  rw [Nat.add_sub_cancel_left] at hd
  exact lv_dup2_11 hx hb hd (aV_cat1 hv) (aV_cat1 hu) (kk hL (aOkCo (hS _ List.mem_cons_self) (aOkCo (aOkTl hS _ List.mem_cons_self) hS)) hC ls H locs hl hH hlo)
theorem r_pop {v : aTV} (hv : v.1 ≠ 1) (hcn : mi.1.cls = aCn mi.2.2.2.2.1.1) (hX : aCtx G d mi p R s m args meth c) (hd : decode mi.2.1 pc = .ok (i, nxt - pc)) (ho : opOk mi pc nxt i 68 a b tgt tl = true) (kk : VW G l mi p e R s m args below meth c Q nxt L S st) : VW G l mi p e R s m args below meth c Q pc L (v :: S) st := by
  intro hL hS hC ls H locs hl hH hlo
  obtain ⟨hx, hb, hr, hml, hown, hts, hK, hlk, hnm, hB, hf1, hf2, hf3, hf4⟩ := hX
  simp only [opOk, opSimple, decide_eq_true_eq] at ho
  obtain ⟨rfl, rfl⟩ := ho
  rw [Nat.add_sub_cancel_left] at hd
  exact lv_pop hx hb hd (aV_cat1 hv) (kk hL (aOkTl hS) hC ls H locs hl hH hlo)
theorem r_ifnull {w : Int} (hcn : mi.1.cls = aCn mi.2.2.2.2.1.1) (hX : aCtx G d mi p R s m args meth c) (hd : decode mi.2.1 pc = .ok (i, nxt - pc)) (ho : opOk mi pc nxt i 71 a b tgt tl = true) (kt : w = 0 → VW G l mi p e R s m args below meth c Q tgt L S st) (kf : ¬ w = 0 → VW G l mi p e R s m args below meth c Q nxt L S st) : VW G l mi p e R s m args below meth c Q pc L ((2, w) :: S) st := by
  intro hL hS hC ls H locs hl hH hlo
  obtain ⟨hx, hb, hr, hml, hown, hts, hK, hlk, hnm, hB, hf1, hf2, hf3, hf4⟩ := hX
  have KT := fun q => kt q hL (aOkTl hS) hC ls H locs hl hH hlo
  have KF := fun q => kf q hL (aOkTl hS) hC ls H locs hl hH hlo
  simp only [opOk] at ho
  rw [List.map_cons]
  split at ho
  · simp only [decide_eq_true_eq] at ho
    obtain ⟨rfl, ht⟩ := ho
    rw [Nat.add_sub_cancel_left] at hd
    rcases aV_r G (aOkRf hS) with ⟨h0, hn⟩ | ⟨h0, hn⟩
    · rw [hn]
      exact lv_ifnullN hx hb hd ht (KT h0)
    · rw [hn]
      exact lv_ifnull hx hb hd (KF h0)
  · cases ho
theorem r_ifnonnull {w : Int} (hcn : mi.1.cls = aCn mi.2.2.2.2.1.1) (hX : aCtx G d mi p R s m args meth c) (hd : decode mi.2.1 pc = .ok (i, nxt - pc)) (ho : opOk mi pc nxt i 72 a b tgt tl = true) (kt : ¬ w = 0 → VW G l mi p e R s m args below meth c Q tgt L S st) (kf : w = 0 → VW G l mi p e R s m args below meth c Q nxt L S st) : VW G l mi p e R s m args below meth c Q pc L ((2, w) :: S) st := by
  intro hL hS hC ls H locs hl hH hlo
  obtain ⟨hx, hb, hr, hml, hown, hts, hK, hlk, hnm, hB, hf1, hf2, hf3, hf4⟩ := hX
  have KT := fun q => kt q hL (aOkTl hS) hC ls H locs hl hH hlo
  have KF := fun q => kf q hL (aOkTl hS) hC ls H locs hl hH hlo
  simp only [opOk] at ho
  rw [List.map_cons]
  split at ho
  · simp only [decide_eq_true_eq] at ho
    obtain ⟨rfl, ht⟩ := ho
    rw [Nat.add_sub_cancel_left] at hd
    rcases aV_r G (aOkRf hS) with ⟨h0, hn⟩ | ⟨h0, hn⟩
    · rw [hn]
      exact lv_ifnonnullN hx hb hd (KF h0)
    · rw [hn]
      exact lv_ifnonnull hx hb hd ht (KT h0)
  · cases ho
end
