/-! ===== fields written, arrays read and written ===== -/
theorem aUp_at {d : Nat → Int → Int} {r : Nat} {i v : Int} : aUp d r i v r i = v := by simp [aUp]
theorem aUp_row {d : Nat → Int → Int} {r q : Nat} {i v : Int} (h : q ≠ r) : aUp d r i v q = d q := by
  funext j
  simp [aUp, h]
theorem aUp_ne {d : Nat → Int → Int} {r q : Nat} {i j v : Int} (h : j ≠ i) : aUp d r i v q j = d q j := by simp [aUp, h]
theorem aSet_eq {α : Type} (v : α) : ∀ (l : List α) (i : Nat), aSet l i v = l.set i v := by
  intro l
  induction l with
  | nil => intro i; rfl
  | cons x l ih =>
    intro i
    cases i with
    | zero => rfl
    | succ i => show x :: aSet l i v = x :: l.set i v; rw [ih]
theorem can_put {st : aSt} (hC : aCan st) {r : Nat} {i w : Int} (hw : (aCc (st.1 r).1 i = 1 → i64 w) ∧ (aCc (st.1 r).1 i = 0 ∨ aCc (st.1 r).1 i = 4 → i32 w) ∧ (aCc (st.1 r).1 i = 3 → 0 ≤ w)) : aCan (st.1, aUp st.2.1 r i w, st.2.2) := by
  obtain ⟨c1, c2, c3, c4⟩ := hC
  refine ⟨c1, c2, c3, fun q j => ?_⟩
  by_cases hq : q = r
  · subst hq
    by_cases hj : j = i
    · subst hj
      unfold aDok
      dsimp only
      rw [aUp_at]
      exact hw
    · have := c4 q j
      unfold aDok at this ⊢
      dsimp only
      rw [aUp_ne hj]
      exact this
  · have := c4 q j
    unfold aDok at this ⊢
    dsimp only
    rw [aUp_row hq]
    exact this
theorem cc_o {t : Nat} {i : Int} (h : t < 13) : aCc t i = aFc t i.toNat := by
  unfold aCc
  rw [if_neg (by omega), if_neg (by omega), if_neg (by omega), if_pos h]
section
variable {G : aCX} {l : Launch} {d : Nat} {mi : aMI} {p : Program} {e : Env} {R : Room} {s : State} {m : MethodId} {args : Array Value} {below : List Frame} {meth : Method} {c : Code} {Q : State → Prop} {pc nxt tgt : Nat} {i : Instr} {a b : Int} {tl : List (Int × Nat)} {L S : List aTV} {st : aSt} {H : Heap}
theorem rf_fits {ty : FieldType} {G : aCX} {w : Int} (h : (match (some ty : Option FieldType) with
    | some (.object _) => true
    | some (.array _) => true
    | _ => false) = true) : narrow ty (va_rf (aRf G w)) = va_rf (aRf G w) ∧ fits ty (va_rf (aRf G w)) = true := by
  unfold aRf
  cases ty <;> first | (cases h; done) | (split <;> exact ⟨rfl, rfl⟩)
theorem r_put {r : Nat} {v : aTV} (hr : (st.1 r).1 = a.toNat) (hv : (aFc a.toNat b.toNat = 0 ∧ v.1 = 0) ∨ (aFc a.toNat b.toNat = 1 ∧ v.1 = 1) ∨ (aFc a.toNat b.toNat = 3 ∧ v.1 = 2) ∨ (aFc a.toNat b.toNat = 4 ∧ v.1 = 0 ∧ (v.2 = 0 ∨ v.2 = 1))) (hcn : mi.1.cls = aCn mi.2.2.2.2.1.1) (hX : aCtx G d mi p R s m args meth c) (hd : decode mi.2.1 pc = .ok (i, nxt - pc)) (ho : opOk mi pc nxt i 9 a b tgt tl = true) (kk : VW G l mi p e R s m args below meth c Q nxt L S (st.1, aUp st.2.1 r b v.2, st.2.2)) : VW G l mi p e R s m args below meth c Q pc L (v :: (2, Int.ofNat r) :: S) st := by
  intro hL hS hC ls H locs hl hH hlo
  obtain ⟨hx, hb, hrt, hml, hown, hts, hK, hlk, hnm, hB, hf1, hf2, hf3, hf4⟩ := hX
  simp only [opOk] at ho
  split at ho
  · simp only [Bool.and_eq_true, decide_eq_true_eq] at ho
    obtain ⟨⟨rfl, hbb, hfin⟩, hF⟩ := ho
    rw [Nat.add_sub_cancel_left] at hd
    obtain ⟨hci, hk, hw⟩ := anyF_inv hF
    obtain ⟨h1, h2, h3⟩ := hold_at hH hC (r := r) (by omega)
    rw [ent_o hr hci] at h3
    rw [← hcn] at hw
    have hvo := hS v List.mem_cons_self
    obtain ⟨t, w⟩ := v
    have htc := tc_of hci hk
    unfold tcB at htc
    have key : ∃ ty, parseFieldDescriptor (aTf a.toNat b.toNat).2.2.1 = some ty ∧ narrow ty (aV G (t, w)) = aV G (t, w) ∧ fits ty (aV G (t, w)) = true ∧ (∀ f rs, f ((b.toNat : Nat) : Int) = w → aFv G f rs (aFc a.toNat b.toNat) b.toNat = aV G (t, w)) ∧ ((aFc a.toNat b.toNat = 1 → i64 w) ∧ (aFc a.toNat b.toNat = 0 ∨ aFc a.toNat b.toNat = 4 → i32 w) ∧ (aFc a.toNat b.toNat = 3 → 0 ≤ w)) := by
      rcases hv with ⟨e1, e2⟩ | ⟨e1, e2⟩ | ⟨e1, e2⟩ | ⟨e1, e2, e3⟩
      · dsimp only at e2
        subst e2
        rw [e1] at htc ⊢
        refine ⟨_, of_decide_eq_true htc, rfl, rfl, fun f rs h => ?_, ⟨(fun q => by cases q), fun _ => hvo.1 rfl, (fun q => by cases q)⟩⟩
        show Value.int (Int32.ofInt (f _)) = _
        rw [h]
        rfl
      · dsimp only at e2
        subst e2
        rw [e1] at htc ⊢
        refine ⟨_, of_decide_eq_true htc, rfl, rfl, fun f rs h => ?_, ⟨fun _ => hvo.2.1 rfl, (fun q => by rcases q with q | q <;> cases q), (fun q => by cases q)⟩⟩
        show Value.long (Int64.ofInt (f _)) = _
        rw [h]
        rfl
      · dsimp only at e2
        subst e2
        rw [e1] at htc ⊢
        cases hp : parseFieldDescriptor (aTf a.toNat b.toNat).2.2.1 with
        | none => rw [hp] at htc; cases htc
        | some ty =>
          rw [hp] at htc
          obtain ⟨f1, f2⟩ := rf_fits (G := G) (w := w) htc
          refine ⟨ty, rfl, f1, f2, fun f rs h => ?_, ⟨(fun q => by cases q), (fun q => by rcases q with q | q <;> cases q), fun _ => hvo.2.2 rfl⟩⟩
          show va_rf (aRf G (f _)) = _
          rw [h]
          rfl
      · dsimp only at e2 e3
        subst e2
        rw [e1] at htc ⊢
        refine ⟨_, of_decide_eq_true htc, ?_, ?_, fun f rs h => ?_, ⟨(fun q => by cases q), fun _ => hvo.1 rfl, (fun q => by cases q)⟩⟩
        · rcases e3 with rfl | rfl <;> rfl
        · rcases e3 with rfl | rfl <;> rfl
        · show Value.int (Int32.ofInt (f _)) = _
          rw [h]
          rfl
    obtain ⟨ty, k1, k2, k3, k4, k5⟩ := key
    have hC' := can_put hC (r := r) (i := b) (w := w) (by rw [hr, cc_o hci]; exact k5)
    rw [List.map_cons, List.map_cons, aV_ref h1]
    refine putH hx hb hts hown hK hci hk h3 (hts _ hw) (Or.inl hfin) k1 k2 k3 (by simpa [aFs] using hk) hd fun H1 sl g1 g2 g3 g4 => ?_
    refine kk hL (aOkTl (aOkTl hS)) hC' ls H1 _ hl (hold_put hH rfl h1 g2 g3 g4 (fun _ => ?_) (fun q hq => ⟨rfl, aUp_row hq⟩)) (fun q hq => ?_)
    · have e1 : aEnt G (st.1, aUp st.2.1 r b w, st.2.2) r = .inr (a.toNat, aFs G (aUp st.2.1 r b w r) a.toNat (st.1 r).2.2) := ent_o (st := (st.1, aUp st.2.1 r b w, st.2.2)) hr hci
      rw [e1, aFs_set (f := st.2.1 r) (rs := (st.1 r).2.2) hk (v := aV G (t, w)) (fun j hj => ?_) (k4 _ _ (by rw [← hbb]; exact aUp_at))]
      · exact g1
      · have e2 : aUp st.2.1 r b w r ((j : Nat) : Int) = st.2.1 r ((j : Nat) : Int) := aUp_ne (by omega)
        unfold aFv
        rw [e2]
    · rcases List.mem_append.mp hq with hq | hq
      · exact hlo q hq
      · rw [List.mem_singleton.mp hq]
        show G.1.1 < aAd G r
        exact aAd_pos (by omega)
  · cases ho
theorem r_putF {r n : Nat} (hr : (st.1 r).1 = a.toNat) (hv : aFc a.toNat b.toNat = 2) (hlen : b.toNat < (st.1 r).2.2.length) (hcn : mi.1.cls = aCn mi.2.2.2.2.1.1) (hX : aCtx G d mi p R s m args meth c) (hd : decode mi.2.1 pc = .ok (i, nxt - pc)) (ho : opOk mi pc nxt i 10 a b tgt tl = true) (kk : VW G l mi p e R s m args below meth c Q nxt L S (aUk st.1 r ((st.1 r).1, (st.1 r).2.1, aSet (st.1 r).2.2 b.toNat n), st.2)) : VW G l mi p e R s m args below meth c Q pc L ((2, Int.ofNat n) :: (2, Int.ofNat r) :: S) st := by
  intro hL hS hC ls H locs hl hH hlo
  obtain ⟨hx, hb, hrt, hml, hown, hts, hK, hlk, hnm, hB, hf1, hf2, hf3, hf4⟩ := hX
  simp only [opOk] at ho
  split at ho
  · simp only [Bool.and_eq_true, decide_eq_true_eq] at ho
    obtain ⟨⟨rfl, hbb, hfin, hdc, hin⟩, hF⟩ := ho
    rw [Nat.add_sub_cancel_left] at hd
    obtain ⟨hci, hk, hw⟩ := anyF_inv hF
    obtain ⟨h1, h2, h3⟩ := hold_at hH hC (r := r) (by omega)
    rw [ent_o hr hci] at h3
    rw [← hcn] at hw
    have htc := tc_of hci hk
    unfold tcB at htc
    rw [hv] at htc
    cases hp : parseFieldDescriptor (aTf a.toNat b.toNat).2.2.1 with
    | none => rw [hp] at htc; cases htc
    | some ty =>
      rw [hp] at htc
      obtain ⟨f1, f2⟩ := rf_fits (G := G) (w := Int.ofNat n) htc
      have hu : ∀ q, q ≠ r → aUk st.1 r ((st.1 r).1, (st.1 r).2.1, aSet (st.1 r).2.2 b.toNat n) q = st.1 q := fun q hq => by simp [aUk, hq]
      have hu' : aUk st.1 r ((st.1 r).1, (st.1 r).2.1, aSet (st.1 r).2.2 b.toNat n) r = ((st.1 r).1, (st.1 r).2.1, aSet (st.1 r).2.2 b.toNat n) := by simp [aUk]
      have hu1 : ∀ q, (aUk st.1 r ((st.1 r).1, (st.1 r).2.1, aSet (st.1 r).2.2 b.toNat n) q).1 = (st.1 q).1 := fun q => by
        by_cases hq : q = r
        · subst hq; rw [hu']
        · rw [hu q hq]
      have hC' : aCan (aUk st.1 r ((st.1 r).1, (st.1 r).2.1, aSet (st.1 r).2.2 b.toNat n), st.2) := by
        obtain ⟨c1, c2, c3, c4⟩ := hC
        refine ⟨by rw [hu1]; exact c1, c2, fun q hq => by rw [hu1]; exact c3 q hq, fun q j => ?_⟩
        have := c4 q j
        unfold aDok at this ⊢
        rw [hu1]
        exact this
      rw [List.map_cons, List.map_cons, aV_ref h1]
      refine putH hx hb hts hown hK hci hk h3 (hts _ hw) (Or.inr ⟨hfin, by rw [hnm]; exact hin, hdc⟩) hp f1 f2 (by simpa [aFs] using hk) hd fun H1 sl g1 g2 g3 g4 => ?_
      refine kk hL (aOkTl (aOkTl hS)) hC' ls H1 _ hl (hold_put hH rfl h1 g2 g3 g4 (fun _ => ?_) (fun q hq => ⟨hu q hq, rfl⟩)) (fun q hq => ?_)
      · have e1 : aEnt G (aUk st.1 r ((st.1 r).1, (st.1 r).2.1, aSet (st.1 r).2.2 b.toNat n), st.2) r = .inr (a.toNat, aFs G (st.2.1 r) a.toNat (aUk st.1 r ((st.1 r).1, (st.1 r).2.1, aSet (st.1 r).2.2 b.toNat n) r).2.2) := ent_o (st := (aUk st.1 r ((st.1 r).1, (st.1 r).2.1, aSet (st.1 r).2.2 b.toNat n), st.2)) (by rw [hu1]; exact hr) hci
        rw [e1, hu', aFs_set (f := st.2.1 r) (rs := (st.1 r).2.2) hk (v := aV G (2, Int.ofNat n)) (fun j hj => ?_) ?_]
        · exact g1
        · rw [hv]
          show va_rf (aRf G (Int.ofNat ((aSet (st.1 r).2.2 b.toNat n).getD b.toNat 0))) = _
          rw [aSet_eq, List.getD_eq_getElem?_getD, List.getElem?_set_self hlen]
          rfl
        · have e2 : (aSet (st.1 r).2.2 b.toNat n).getD j 0 = (st.1 r).2.2.getD j 0 := by
            rw [aSet_eq, List.getD_eq_getElem?_getD, List.getElem?_set_ne (fun q => hj q.symm), List.getD_eq_getElem?_getD]
          show aFv G (st.2.1 r) (aSet (st.1 r).2.2 b.toNat n) (aFc a.toNat j) j = _
          unfold aFv
          rw [e2]
      · rcases List.mem_append.mp hq with hq | hq
        · exact hlo q hq
        · rw [List.mem_singleton.mp hq]
          show G.1.1 < aAd G r
          exact aAd_pos (by omega)
  · cases ho
theorem ent_13 {r n : Nat} (h : (st.1 r).1 = 13) (hn : (st.1 r).2.1 = n) : aEnt G st r = .inl (G.2.2.1 0, n, .inl (fun i => Int32.ofInt (st.2.1 r i))) := by
  subst hn
  unfold aEnt
  split
  rename_i t n rs h0
  rw [h0] at h ⊢
  dsimp only at h
  subst h
  rfl
theorem ent_14 {r n : Nat} (h : (st.1 r).1 = 14) (hn : (st.1 r).2.1 = n) : aEnt G st r = .inl (G.2.2.1 1, n, .inl (fun i => Int32.ofInt (st.2.1 r i))) := by
  subst hn
  unfold aEnt
  split
  rename_i t n rs h0
  rw [h0] at h ⊢
  dsimp only at h
  subst h
  rfl
theorem ent_16 {r n : Nat} (h : (st.1 r).1 = 16) (hn : (st.1 r).2.1 = n) : aEnt G st r = .inl (G.2.2.1 3, n, .inl (fun i => Int32.ofInt (st.2.1 r i))) := by
  subst hn
  unfold aEnt
  split
  rename_i t n rs h0
  rw [h0] at h ⊢
  dsimp only at h
  subst h
  rfl
theorem ent_15 {r n : Nat} (h : (st.1 r).1 = 15) (hn : (st.1 r).2.1 = n) : aEnt G st r = .inl (G.2.2.1 2, n, .inr (.inl (fun i => Int64.ofInt (st.2.1 r i)))) := by
  subst hn
  unfold aEnt
  split
  rename_i t n rs h0
  rw [h0] at h ⊢
  dsimp only at h
  subst h
  rfl
theorem ent_17 {r n : Nat} (h : (st.1 r).1 = 17) (hn : (st.1 r).2.1 = n) : aEnt G st r = .inl (G.2.2.1 4, n, .inr (.inr (.inr (.inr (fun i => aRf G (st.2.1 r i)))))) := by
  subst hn
  unfold aEnt
  split
  rename_i t n rs h0
  rw [h0] at h ⊢
  dsimp only at h
  subst h
  rfl
theorem ent_18 {r n : Nat} (h : (st.1 r).1 = 18) (hn : (st.1 r).2.1 = n) : aEnt G st r = .inl (G.2.2.1 5, n, .inr (.inr (.inr (.inr (fun i => aRf G (Int.ofNat ((st.1 r).2.2.getD i 0))))))) := by
  subst hn
  unfold aEnt
  split
  rename_i t n rs h0
  rw [h0] at h ⊢
  dsimp only at h
  subst h
  rfl
theorem va_one {D : va_G} {q : Nat × va_E} {H : Heap} (h : va_at D vwCl q H) : va_P D vwCl [q] H := fun k q' hq => by
  cases k with
  | zero => cases hq; exact h
  | succ k => cases hq
theorem r_iald {r n : Nat} {x : Int} (ht : (st.1 r).1 = 14) (hn : (st.1 r).2.1 = n) (h0 : 0 ≤ x) (h1 : x < n) (hcn : mi.1.cls = aCn mi.2.2.2.2.1.1) (hX : aCtx G d mi p R s m args meth c) (hd : decode mi.2.1 pc = .ok (i, nxt - pc)) (ho : opOk mi pc nxt i 49 a b tgt tl = true) (kk : VW G l mi p e R s m args below meth c Q nxt L ((0, st.2.1 r x) :: S) st) : VW G l mi p e R s m args below meth c Q pc L ((0, x) :: (2, Int.ofNat r) :: S) st := by
  intro hL hS hC ls H locs hl hH hlo
  obtain ⟨hx, hb, hrt, hml, hown, hts, hK, hlk, hnm, hB, hf1, hf2, hf3, hf4⟩ := hX
  simp only [opOk, opSimple, decide_eq_true_eq] at ho
  obtain ⟨rfl, rfl⟩ := ho
  rw [Nat.add_sub_cancel_left] at hd
  have hxr := aOk32 hS
  have K := kk hL (aOkCo (aOk_i ((hC.2.2.2 r x).2.1 (Or.inl (by rw [ht]; rfl)))) (aOkTl (aOkTl hS))) hC ls H locs hl hH hlo
  obtain ⟨g1, g2, g3⟩ := hold_at hH hC (r := r) (by rw [ht]; decide)
  rw [ent_14 ht hn] at g3
  rw [List.map_cons, List.map_cons, aV_ref g1]
  refine va_iald hx hb hK (va_one g3) 0 1 rfl rfl (i := Int32.ofInt x) (of_in hxr h0 h1) hd ?_
  rw [of_clamp hxr, Int.toNat_of_nonneg h0]
  exact K
theorem r_bald {r n : Nat} {x : Int} (ht : (st.1 r).1 = 16) (hn : (st.1 r).2.1 = n) (h0 : 0 ≤ x) (h1 : x < n) (hcn : mi.1.cls = aCn mi.2.2.2.2.1.1) (hX : aCtx G d mi p R s m args meth c) (hd : decode mi.2.1 pc = .ok (i, nxt - pc)) (ho : opOk mi pc nxt i 53 a b tgt tl = true) (kk : VW G l mi p e R s m args below meth c Q nxt L ((0, st.2.1 r x) :: S) st) : VW G l mi p e R s m args below meth c Q pc L ((0, x) :: (2, Int.ofNat r) :: S) st := by
  intro hL hS hC ls H locs hl hH hlo
  obtain ⟨hx, hb, hrt, hml, hown, hts, hK, hlk, hnm, hB, hf1, hf2, hf3, hf4⟩ := hX
  simp only [opOk, opSimple, decide_eq_true_eq] at ho
  obtain ⟨rfl, rfl⟩ := ho
  rw [Nat.add_sub_cancel_left] at hd
  have hxr := aOk32 hS
  have K := kk hL (aOkCo (aOk_i ((hC.2.2.2 r x).2.1 (Or.inl (by rw [ht]; rfl)))) (aOkTl (aOkTl hS))) hC ls H locs hl hH hlo
  obtain ⟨g1, g2, g3⟩ := hold_at hH hC (r := r) (by rw [ht]; decide)
  rw [ent_16 ht hn] at g3
  rw [List.map_cons, List.map_cons, aV_ref g1]
  refine va_zald hx hb hK (va_one g3) 0 3 rfl rfl (i := Int32.ofInt x) (of_in hxr h0 h1) hd ?_
  rw [of_clamp hxr, Int.toNat_of_nonneg h0]
  exact K
theorem r_cald {r n : Nat} {x : Int} (ht : (st.1 r).1 = 13) (hn : (st.1 r).2.1 = n) (h0 : 0 ≤ x) (h1 : x < n) (hcn : mi.1.cls = aCn mi.2.2.2.2.1.1) (hX : aCtx G d mi p R s m args meth c) (hd : decode mi.2.1 pc = .ok (i, nxt - pc)) (ho : opOk mi pc nxt i 55 a b tgt tl = true) (kk : VW G l mi p e R s m args below meth c Q nxt L ((0, st.2.1 r x) :: S) st) : VW G l mi p e R s m args below meth c Q pc L ((0, x) :: (2, Int.ofNat r) :: S) st := by
  intro hL hS hC ls H locs hl hH hlo
  obtain ⟨hx, hb, hrt, hml, hown, hts, hK, hlk, hnm, hB, hf1, hf2, hf3, hf4⟩ := hX
  simp only [opOk, opSimple, decide_eq_true_eq] at ho
  obtain ⟨rfl, rfl⟩ := ho
  rw [Nat.add_sub_cancel_left] at hd
  have hxr := aOk32 hS
  have K := kk hL (aOkCo (aOk_i ((hC.2.2.2 r x).2.1 (Or.inl (by rw [ht]; rfl)))) (aOkTl (aOkTl hS))) hC ls H locs hl hH hlo
  obtain ⟨g1, g2, g3⟩ := hold_at hH hC (r := r) (by rw [ht]; decide)
  rw [ent_13 ht hn] at g3
  rw [List.map_cons, List.map_cons, aV_ref g1]
  refine va_cald hx hb hK (va_one g3) 0 0 rfl rfl (i := Int32.ofInt x) (of_in hxr h0 h1) hd ?_
  rw [of_clamp hxr, Int.toNat_of_nonneg h0]
  exact K
theorem r_lald {r n : Nat} {x : Int} (ht : (st.1 r).1 = 15) (hn : (st.1 r).2.1 = n) (h0 : 0 ≤ x) (h1 : x < n) (hcn : mi.1.cls = aCn mi.2.2.2.2.1.1) (hX : aCtx G d mi p R s m args meth c) (hd : decode mi.2.1 pc = .ok (i, nxt - pc)) (ho : opOk mi pc nxt i 51 a b tgt tl = true) (kk : VW G l mi p e R s m args below meth c Q nxt L ((1, st.2.1 r x) :: S) st) : VW G l mi p e R s m args below meth c Q pc L ((0, x) :: (2, Int.ofNat r) :: S) st := by
  intro hL hS hC ls H locs hl hH hlo
  obtain ⟨hx, hb, hrt, hml, hown, hts, hK, hlk, hnm, hB, hf1, hf2, hf3, hf4⟩ := hX
  simp only [opOk, opSimple, decide_eq_true_eq] at ho
  obtain ⟨rfl, rfl⟩ := ho
  rw [Nat.add_sub_cancel_left] at hd
  have hxr := aOk32 hS
  have K := kk hL (aOkCo (aOk_l ((hC.2.2.2 r x).1 (by rw [ht]; rfl))) (aOkTl (aOkTl hS))) hC ls H locs hl hH hlo
  obtain ⟨g1, g2, g3⟩ := hold_at hH hC (r := r) (by rw [ht]; decide)
  rw [ent_15 ht hn] at g3
  rw [List.map_cons, List.map_cons, aV_ref g1]
  refine va_lald hx hb hK (va_one g3) 0 2 rfl rfl (i := Int32.ofInt x) (of_in hxr h0 h1) hd ?_
  rw [of_clamp hxr, Int.toNat_of_nonneg h0]
  exact K
theorem r_aald {r n : Nat} {x : Int} (ht : (st.1 r).1 = 17) (hn : (st.1 r).2.1 = n) (h0 : 0 ≤ x) (h1 : x < n) (hcn : mi.1.cls = aCn mi.2.2.2.2.1.1) (hX : aCtx G d mi p R s m args meth c) (hd : decode mi.2.1 pc = .ok (i, nxt - pc)) (ho : opOk mi pc nxt i 57 a b tgt tl = true) (kk : VW G l mi p e R s m args below meth c Q nxt L ((2, st.2.1 r x) :: S) st) : VW G l mi p e R s m args below meth c Q pc L ((0, x) :: (2, Int.ofNat r) :: S) st := by
  intro hL hS hC ls H locs hl hH hlo
  obtain ⟨hx, hb, hrt, hml, hown, hts, hK, hlk, hnm, hB, hf1, hf2, hf3, hf4⟩ := hX
  simp only [opOk, opSimple, decide_eq_true_eq] at ho
  obtain ⟨rfl, rfl⟩ := ho
  rw [Nat.add_sub_cancel_left] at hd
  have hxr := aOk32 hS
  have K := kk hL (aOkCo (aOk_r ((hC.2.2.2 r x).2.2 (by rw [ht]; rfl))) (aOkTl (aOkTl hS))) hC ls H locs hl hH hlo
  obtain ⟨g1, g2, g3⟩ := hold_at hH hC (r := r) (by rw [ht]; decide)
  rw [ent_17 ht hn] at g3
  rw [List.map_cons, List.map_cons, aV_ref g1]
  refine va_aldq hx hb hK (va_one g3) 0 4 rfl rfl (i := Int32.ofInt x) (of_in hxr h0 h1) hd ?_
  rw [of_clamp hxr, Int.toNat_of_nonneg h0]
  exact K
theorem r_aald18 {r n q : Nat} {x : Int} (ht : (st.1 r).1 = 18) (hn : (st.1 r).2.1 = n) (h0 : 0 ≤ x) (h1 : x < n) (hq : (st.1 r).2.2[x.toNat]? = some q) (hcn : mi.1.cls = aCn mi.2.2.2.2.1.1) (hX : aCtx G d mi p R s m args meth c) (hd : decode mi.2.1 pc = .ok (i, nxt - pc)) (ho : opOk mi pc nxt i 57 a b tgt tl = true) (kk : VW G l mi p e R s m args below meth c Q nxt L ((2, Int.ofNat q) :: S) st) : VW G l mi p e R s m args below meth c Q pc L ((0, x) :: (2, Int.ofNat r) :: S) st := by
  intro hL hS hC ls H locs hl hH hlo
  obtain ⟨hx, hb, hrt, hml, hown, hts, hK, hlk, hnm, hB, hf1, hf2, hf3, hf4⟩ := hX
  simp only [opOk, opSimple, decide_eq_true_eq] at ho
  obtain ⟨rfl, rfl⟩ := ho
  rw [Nat.add_sub_cancel_left] at hd
  have hxr := aOk32 hS
  have K := kk hL (aOkCo (aOk_r (Int.natCast_nonneg q)) (aOkTl (aOkTl hS))) hC ls H locs hl hH hlo
  obtain ⟨g1, g2, g3⟩ := hold_at hH hC (r := r) (by rw [ht]; decide)
  rw [ent_18 ht hn] at g3
  rw [List.map_cons, List.map_cons, aV_ref g1]
  refine va_aldq hx hb hK (va_one g3) 0 5 rfl rfl (i := Int32.ofInt x) (of_in hxr h0 h1) hd ?_
  rw [of_clamp hxr, List.getD_eq_getElem?_getD, hq, Option.getD_some]
  exact K
theorem r_alen {r n : Nat} (ht : 13 ≤ (st.1 r).1 ∧ (st.1 r).1 ≤ 18) (hn : (st.1 r).2.1 = n) (hn2 : n < 2147483648) (hcn : mi.1.cls = aCn mi.2.2.2.2.1.1) (hX : aCtx G d mi p R s m args meth c) (hd : decode mi.2.1 pc = .ok (i, nxt - pc)) (ho : opOk mi pc nxt i 59 a b tgt tl = true) (kk : VW G l mi p e R s m args below meth c Q nxt L ((0, Int.ofNat n) :: S) st) : VW G l mi p e R s m args below meth c Q pc L ((2, Int.ofNat r) :: S) st := by
  intro hL hS hC ls H locs hl hH hlo
  obtain ⟨hx, hb, hrt, hml, hown, hts, hK, hlk, hnm, hB, hf1, hf2, hf3, hf4⟩ := hX
  simp only [opOk, opSimple, decide_eq_true_eq] at ho
  obtain ⟨rfl, rfl⟩ := ho
  rw [Nat.add_sub_cancel_left] at hd
  have K := kk hL (aOkCo (aOk_i ⟨by show -2147483648 ≤ (n : Int); omega, by show (n : Int) < 2147483648; omega⟩) (aOkTl hS)) hC ls H locs hl hH hlo
  obtain ⟨g1, g2, g3⟩ := hold_at hH hC (r := r) (by omega)
  have e : Int32.ofNat n = Int32.ofInt (Int.ofNat n) := Int32.ofInt_eq_ofNat.symm
  rw [List.map_cons, aV_ref g1]
  rcases (by omega : (st.1 r).1 = 13 ∨ (st.1 r).1 = 14 ∨ (st.1 r).1 = 15 ∨ (st.1 r).1 = 16 ∨ (st.1 r).1 = 17 ∨ (st.1 r).1 = 18) with h | h | h | h | h | h
  · rw [ent_13 h hn] at g3; exact va_alen hx hb hK (va_one g3) 0 0 rfl rfl e hd K
  · rw [ent_14 h hn] at g3; exact va_alen hx hb hK (va_one g3) 0 1 rfl rfl e hd K
  · rw [ent_15 h hn] at g3; exact va_alen hx hb hK (va_one g3) 0 2 rfl rfl e hd K
  · rw [ent_16 h hn] at g3; exact va_alen hx hb hK (va_one g3) 0 3 rfl rfl e hd K
  · rw [ent_17 h hn] at g3; exact va_alen hx hb hK (va_one g3) 0 4 rfl rfl e hd K
  · rw [ent_18 h hn] at g3; exact va_alen hx hb hK (va_one g3) 0 5 rfl rfl e hd K
theorem sum_set {adr j : Nat} {v : Value} {cell : Cell} {H1 : Heap} (h : H[adr]? = some cell) (e1 : H1[adr]? = some (cell.setSlot j v)) (e2 : H1.size = H.size) (e3 : ∀ q : Nat, q ≠ adr → H1[q]? = H[q]?) : ∀ b, hSum b H1 = hSum b H := by
  intro b
  refine hSum_same e2 fun q x x' hx1 hx2 => ?_
  by_cases hq : q = adr
  · subst hq
    rw [e1] at hx2
    cases hx2
    rw [h] at hx1
    cases hx1
    simp [Cell.setSlot]
  · rw [e3 q hq, hx1] at hx2
    cases hx2
    rfl
theorem lo_app {locs : List Loc} {r z : Nat} (hlo : ∀ q ∈ locs, G.1.1 < q.base) (h : 1 ≤ r) : ∀ q ∈ locs ++ [⟨aAd G r, z⟩], G.1.1 < q.base := fun q hq => by
  rcases List.mem_append.mp hq with hq | hq
  · exact hlo q hq
  · rw [List.mem_singleton.mp hq]
    show G.1.1 < aAd G r
    exact aAd_pos (by omega)
theorem r_iast {r n : Nat} {x w : Int} (ht : (st.1 r).1 = 14) (hn : (st.1 r).2.1 = n) (h0 : 0 ≤ x) (h1 : x < n)  (hcn : mi.1.cls = aCn mi.2.2.2.2.1.1) (hX : aCtx G d mi p R s m args meth c) (hd : decode mi.2.1 pc = .ok (i, nxt - pc)) (ho : opOk mi pc nxt i 50 a b tgt tl = true) (kk : VW G l mi p e R s m args below meth c Q nxt L S (st.1, aUp st.2.1 r x w, st.2.2)) : VW G l mi p e R s m args below meth c Q pc L ((0, w) :: (0, x) :: (2, Int.ofNat r) :: S) st := by
  intro hL hS hC ls H locs hl hH hlo
  obtain ⟨hx, hb, hrt, hml, hown, hts, hK, hlk, hnm, hB, hf1, hf2, hf3, hf4⟩ := hX
  simp only [opOk, opSimple, decide_eq_true_eq] at ho
  obtain ⟨rfl, rfl⟩ := ho
  rw [Nat.add_sub_cancel_left] at hd
  have hxr := aOk32 (aOkTl hS)
  have hC' := can_put hC (r := r) (i := x) (w := w) ⟨(fun q => by rw [ht] at q; cases q), fun _ => aOk32 hS, (fun q => by rw [ht] at q; cases q)⟩
  obtain ⟨g1, g2, g3⟩ := hold_at hH hC (r := r) (by rw [ht]; decide)
  rw [ent_14 ht hn] at g3
  have g4 : H[aAd G r]? = some (vp_cell _ _) := g3
  rw [List.map_cons, List.map_cons, List.map_cons, aV_ref g1]
  refine W.iast hx hb g4 ((hK.2 1 _ rfl).1 n _) (fun q => by cases q) (j := Int32.ofInt x) (x := (Int32.ofInt w)) (by show ¬ (_ ∨ (arrV _ _ _).slots.size ≤ _); rw [arrV_size]; exact of_in hxr h0 h1) rfl rfl hd fun H1 e1 e2 e3 => ?_
  rw [of_clamp hxr] at e1 ⊢
  refine kk hL (aOkTl (aOkTl (aOkTl hS))) hC' ls H1 _ hl (hold_put hH rfl g1 e2 e3 (sum_set g4 e1 e2 e3) (fun _ => ?_) (fun q hq => ⟨rfl, aUp_row hq⟩)) (lo_app hlo g1)
  · rw [ent_14 (st := (st.1, aUp st.2.1 r x w, st.2.2)) ht hn]
    show H1[aAd G r]? = some (vp_cell _ _)
    rw [e1, vp_cell_i, vp_cell_i, arrV_store]
    congr 2
    funext q
    by_cases hq : q = x.toNat
    · subst hq
      have : ((x.toNat : Nat) : Int) = x := Int.toNat_of_nonneg h0
      simp [updV, aUp, this]
    · have : ¬ ((q : Nat) : Int) = x := by omega
      simp [updV, aUp, hq, this]
theorem r_last {r n : Nat} {x w : Int} (ht : (st.1 r).1 = 15) (hn : (st.1 r).2.1 = n) (h0 : 0 ≤ x) (h1 : x < n)  (hcn : mi.1.cls = aCn mi.2.2.2.2.1.1) (hX : aCtx G d mi p R s m args meth c) (hd : decode mi.2.1 pc = .ok (i, nxt - pc)) (ho : opOk mi pc nxt i 52 a b tgt tl = true) (kk : VW G l mi p e R s m args below meth c Q nxt L S (st.1, aUp st.2.1 r x w, st.2.2)) : VW G l mi p e R s m args below meth c Q pc L ((1, w) :: (0, x) :: (2, Int.ofNat r) :: S) st := by
  intro hL hS hC ls H locs hl hH hlo
  obtain ⟨hx, hb, hrt, hml, hown, hts, hK, hlk, hnm, hB, hf1, hf2, hf3, hf4⟩ := hX
  simp only [opOk, opSimple, decide_eq_true_eq] at ho
  obtain ⟨rfl, rfl⟩ := ho
  rw [Nat.add_sub_cancel_left] at hd
  have hxr := aOk32 (aOkTl hS)
  have hC' := can_put hC (r := r) (i := x) (w := w) ⟨fun _ => aOk64 hS, (fun q => by rw [ht] at q; rcases q with q | q <;> cases q), (fun q => by rw [ht] at q; cases q)⟩
  obtain ⟨g1, g2, g3⟩ := hold_at hH hC (r := r) (by rw [ht]; decide)
  rw [ent_15 ht hn] at g3
  have g4 : H[aAd G r]? = some (vp_cell _ _) := g3
  rw [List.map_cons, List.map_cons, List.map_cons, aV_ref g1]
  refine W.last hx hb g4 ((hK.2 2 _ rfl).1 n _) (fun q => by cases q) (j := Int32.ofInt x) (x := (Int64.ofInt w)) (by show ¬ (_ ∨ (arrV _ _ _).slots.size ≤ _); rw [arrV_size]; exact of_in hxr h0 h1) rfl rfl hd fun H1 e1 e2 e3 => ?_
  rw [of_clamp hxr] at e1 ⊢
  refine kk hL (aOkTl (aOkTl (aOkTl hS))) hC' ls H1 _ hl (hold_put hH rfl g1 e2 e3 (sum_set g4 e1 e2 e3) (fun _ => ?_) (fun q hq => ⟨rfl, aUp_row hq⟩)) (lo_app hlo g1)
  · rw [ent_15 (st := (st.1, aUp st.2.1 r x w, st.2.2)) ht hn]
    show H1[aAd G r]? = some (vp_cell _ _)
    rw [e1, vp_cell_l, vp_cell_l, arrV_store]
    congr 2
    funext q
    by_cases hq : q = x.toNat
    · subst hq
      have : ((x.toNat : Nat) : Int) = x := Int.toNat_of_nonneg h0
      simp [updV, aUp, this]
    · have : ¬ ((q : Nat) : Int) = x := by omega
      simp [updV, aUp, hq, this]
theorem r_bast {r n : Nat} {x w : Int} (ht : (st.1 r).1 = 16) (hn : (st.1 r).2.1 = n) (h0 : 0 ≤ x) (h1 : x < n) (hw : w = 0 ∨ w = 1) (hcn : mi.1.cls = aCn mi.2.2.2.2.1.1) (hX : aCtx G d mi p R s m args meth c) (hd : decode mi.2.1 pc = .ok (i, nxt - pc)) (ho : opOk mi pc nxt i 54 a b tgt tl = true) (kk : VW G l mi p e R s m args below meth c Q nxt L S (st.1, aUp st.2.1 r x w, st.2.2)) : VW G l mi p e R s m args below meth c Q pc L ((0, w) :: (0, x) :: (2, Int.ofNat r) :: S) st := by
  intro hL hS hC ls H locs hl hH hlo
  obtain ⟨hx, hb, hrt, hml, hown, hts, hK, hlk, hnm, hB, hf1, hf2, hf3, hf4⟩ := hX
  simp only [opOk, opSimple, decide_eq_true_eq] at ho
  obtain ⟨rfl, rfl⟩ := ho
  rw [Nat.add_sub_cancel_left] at hd
  have hxr := aOk32 (aOkTl hS)
  have hC' := can_put hC (r := r) (i := x) (w := w) ⟨(fun q => by rw [ht] at q; cases q), fun _ => aOk32 hS, (fun q => by rw [ht] at q; cases q)⟩
  obtain ⟨g1, g2, g3⟩ := hold_at hH hC (r := r) (by rw [ht]; decide)
  rw [ent_16 ht hn] at g3
  have g4 : H[aAd G r]? = some (vp_cell _ _) := g3
  rw [List.map_cons, List.map_cons, List.map_cons, aV_ref g1]
  refine W.zast hx hb g4 ((hK.2 3 _ rfl).1 n _) (fun q => by cases q) (j := Int32.ofInt x) (x := (Int32.ofInt w)) (by show ¬ (_ ∨ (arrV _ _ _).slots.size ≤ _); rw [arrV_size]; exact of_in hxr h0 h1) rfl rfl hd fun H1 e1 e2 e3 => ?_
  rw [of_clamp hxr] at e1 ⊢
  refine kk hL (aOkTl (aOkTl (aOkTl hS))) hC' ls H1 _ hl (hold_put hH rfl g1 e2 e3 (sum_set g4 e1 e2 e3) (fun _ => ?_) (fun q hq => ⟨rfl, aUp_row hq⟩)) (lo_app hlo g1)
  · rw [ent_16 (st := (st.1, aUp st.2.1 r x w, st.2.2)) ht hn]
    show H1[aAd G r]? = some (vp_cell _ _)
    rw [show narrow .boolean (.int (Int32.ofInt w)) = .int (Int32.ofInt w) from by rcases hw with rfl | rfl <;> decide] at e1
    rw [e1, vp_cell_i, vp_cell_i, arrV_store]
    congr 2
    funext q
    by_cases hq : q = x.toNat
    · subst hq
      have : ((x.toNat : Nat) : Int) = x := Int.toNat_of_nonneg h0
      simp [updV, aUp, this]
    · have : ¬ ((q : Nat) : Int) = x := by omega
      simp [updV, aUp, hq, this]
theorem char_ok {w : Int} (hw : 0 ≤ w ∧ w < 65536) : narrow .char (.int (Int32.ofInt w)) = .int (Int32.ofInt w) := by
  have h := (pk_charN (q := w.toNat) (by omega)).1
  have e : nI w.toNat = Int32.ofInt w := by
    rw [nI, ← Int32.ofInt_eq_ofNat, Int.toNat_of_nonneg hw.1]
  rw [← e]
  exact h
theorem r_cast {r n : Nat} {x w : Int} (ht : (st.1 r).1 = 13) (hn : (st.1 r).2.1 = n) (h0 : 0 ≤ x) (h1 : x < n) (hw : 0 ≤ w ∧ w < 65536) (hcn : mi.1.cls = aCn mi.2.2.2.2.1.1) (hX : aCtx G d mi p R s m args meth c) (hd : decode mi.2.1 pc = .ok (i, nxt - pc)) (ho : opOk mi pc nxt i 56 a b tgt tl = true) (kk : VW G l mi p e R s m args below meth c Q nxt L S (st.1, aUp st.2.1 r x w, st.2.2)) : VW G l mi p e R s m args below meth c Q pc L ((0, w) :: (0, x) :: (2, Int.ofNat r) :: S) st := by
  intro hL hS hC ls H locs hl hH hlo
  obtain ⟨hx, hb, hrt, hml, hown, hts, hK, hlk, hnm, hB, hf1, hf2, hf3, hf4⟩ := hX
  simp only [opOk, opSimple, decide_eq_true_eq] at ho
  obtain ⟨rfl, rfl⟩ := ho
  rw [Nat.add_sub_cancel_left] at hd
  have hxr := aOk32 (aOkTl hS)
  have hC' := can_put hC (r := r) (i := x) (w := w) ⟨(fun q => by rw [ht] at q; cases q), fun _ => aOk32 hS, (fun q => by rw [ht] at q; cases q)⟩
  obtain ⟨g1, g2, g3⟩ := hold_at hH hC (r := r) (by rw [ht]; decide)
  rw [ent_13 ht hn] at g3
  have g4 : H[aAd G r]? = some (vp_cell _ _) := g3
  rw [List.map_cons, List.map_cons, List.map_cons, aV_ref g1]
  refine W.cast hx hb g4 ((hK.2 0 _ rfl).1 n _) (fun q => by cases q) (j := Int32.ofInt x) (x := (Int32.ofInt w)) (by show ¬ (_ ∨ (arrV _ _ _).slots.size ≤ _); rw [arrV_size]; exact of_in hxr h0 h1) rfl rfl hd fun H1 e1 e2 e3 => ?_
  rw [of_clamp hxr] at e1 ⊢
  refine kk hL (aOkTl (aOkTl (aOkTl hS))) hC' ls H1 _ hl (hold_put hH rfl g1 e2 e3 (sum_set g4 e1 e2 e3) (fun _ => ?_) (fun q hq => ⟨rfl, aUp_row hq⟩)) (lo_app hlo g1)
  · rw [ent_13 (st := (st.1, aUp st.2.1 r x w, st.2.2)) ht hn]
    show H1[aAd G r]? = some (vp_cell _ _)
    rw [show narrow .char (.int (Int32.ofInt w)) = .int (Int32.ofInt w) from (char_ok hw)] at e1
    rw [e1, vp_cell_i, vp_cell_i, arrV_store]
    congr 2
    funext q
    by_cases hq : q = x.toNat
    · subst hq
      have : ((x.toNat : Nat) : Int) = x := Int.toNat_of_nonneg h0
      simp [updV, aUp, this]
    · have : ¬ ((q : Nat) : Int) = x := by omega
      simp [updV, aUp, hq, this]
end
