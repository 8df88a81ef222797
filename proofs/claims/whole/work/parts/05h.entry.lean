/-! ===== a method from its entry to its return ===== -/
theorem lg_len {G : aCX} : ∀ {A : List aTV}, (lg_sl (A.map (aV G))).length = aCat A := by
  intro A
  induction A with
  | nil => rfl
  | cons v A ih =>
    obtain ⟨t, w⟩ := v
    unfold lg_sl at ih ⊢
    rw [List.map_cons, List.flatMap_cons, List.length_append, ih]
    show _ = (bif Nat.beq t 1 then 2 else 1) + aCat A
    congr 1
    by_cases h : t = 1
    · subst h; rfl
    · rw [if_neg (by rw [aV_cat1 h]; decide)]
      have : Nat.beq t 1 = false := by
        cases hb : Nat.beq t 1 with
        | false => rfl
        | true => exact absurd (Nat.eq_of_beq_eq_true hb) h
      rw [this]
      rfl
theorem aArg_ok : ∀ {A : List aTV} {n : Nat}, aOkL A → aOkL (aArg A n) := by
  intro A
  induction A with
  | nil =>
    intro n _
    show aOkL (aPad n)
    induction n with
    | zero => intro v hv; cases hv
    | succ n ih => exact aOkCo aOk_9 ih
  | cons v A ih =>
    intro n h
    obtain ⟨h1, h2⟩ := aOkL_cons.mp h
    show aOkL (bif Nat.beq v.1 1 then _ else _)
    cases Nat.beq v.1 1 with
    | true => exact aOkCo h1 (aOkCo aOk_9 (ih h2))
    | false => exact aOkCo h1 (ih h2)
theorem mul_big {k d : Nat} : k ≤ k * (d + 2) := Nat.le_mul_of_pos_right k (by omega)
/-- the method's frame and its return -/
theorem VM_in {G : aCX} {l : Launch} {d y : Nat} {A : List aTV} {st : aSt} {P : Int → aSt → Prop} (hmw : aMW (aM y)) (htg : ∀ v ∈ A, v.1 ≤ 2) (hcat : aCat A ≤ (aM y).2.2.1) (h : V G l d y 0 (aArg A (aM y).2.2.1) [] st P) : VM G l d y A st P := by
  intro hA hC
  obtain ⟨w1, w2, w3, w4, w5, w6, w7, w8⟩ := hmw
  refine Met.ofW (cc := (aM y).2.1) (maxL := (aM y).2.2.1) (ret := (aM y).2.2.2.1) w4 rfl ?_
  intro p e s m args below meth c s₁ B hml hv
  obtain ⟨rfl, hH, hK, hB, ao1, ao2, ao3⟩ := hv
  have hx := B.exec
  have hb := B.bytes
  have hr := B.returns
  have hts := atoms_spec (ws := aWs (aM y)) B.pre
  have hown : s.vm.findClass (aM y).1.cls = some m.cls := findClass_of_methodNamed B.named
  have hlocks := B.notSynchronized
  have hnm : meth.name = (aM y).1.name := (name_of_methodNamed B.named B.method).1
  have hX : aCtx G d (aM y) p (headSpec (aWs (aM y)) (aRm d)).room s m (A.map (aV G)).toArray meth c := ⟨hx, hb, hr, hml, hown, fun w hw => hts w (List.mem_cons_of_mem _ hw), hK, hlocks, hnm, hB, Nat.le_refl _, Nat.le_refl _, Nat.le_refl _, Nat.le_refl _, ao1, ao2, ao3⟩
  have hl := lv_entry (A.map (aV G)) (n := (aM y).2.2.1) (by rw [lg_len]; exact hcat)
  rw [lg_entry_eq]
  generalize (lg_sl (A.map (aV G)) ++ List.replicate ((aM y).2.2.1 - (lg_sl (A.map (aV G))).length) Slot.unset).toArray = ls at hl ⊢
  have hl' := lv_fewer (l' := aLv G 0 (aArg A (aM y).2.2.1)) hl (fun q hq => aArg_mem htg hq)
  have hVR : VR G l (aM y) P p e (headSpec (aWs (aM y)) (aRm d)).room s m (A.map (aV G)).toArray below meth c (MQ below (aPost G (aM y).2.2.2.2.1.2.1 P) (A.map (aV G)).toArray s (3000 * (d + 2)) (200000 * (d + 2)) (fun q => G.1.1 < q)) := by
    intro w st1 pc ls1 H locs i hP hok h4 hC1 hH1 hlo hrt hdg hi
    refine W.widen (k := 3000 * (d + 2)) (n := 200000 * (d + 2)) mul_big mul_big ?_
    have hq : ∀ (t : State), t.heap = H → aPost G (aM y).2.2.2.2.1.2.1 P (A.map (aV G)).toArray s (.returned (aRv G (aM y).2.2.2.2.1.2.1 w)) t := fun t ht => ⟨w, st1, hP, hok, hC1, rfl, by rw [ht]; exact hH1⟩
    rcases hi with ⟨rfl, h0 | h0⟩ | ⟨rfl, h0⟩ | ⟨rfl, h0⟩ | ⟨rfl, h0⟩
    · rw [h0] at hrt hq ⊢
      have hrt := of_decide_eq_true hrt
      exact W.iret (v := Int32.ofInt w) hx hb (hr.trans hrt) (fun t ht _ => hq t ht) hlo hdg hlocks
    · have h4 := h4 h0
      rw [h0] at hrt hq ⊢
      have hrt := of_decide_eq_true hrt
      exact W.zret (v := Int32.ofInt w) hx hb (hr.trans hrt) (by rcases h4 with rfl | rfl <;> rfl) (fun t ht _ => hq t ht) hlo hdg hlocks
    · rw [h0] at hrt hq ⊢
      have hrt := of_decide_eq_true hrt
      exact W.lret (v := Int64.ofInt w) hx hb (hr.trans hrt) (fun t ht _ => hq t ht) hlo hdg hlocks
    · rw [h0] at hrt hq ⊢
      unfold aRtc at hrt
      split at hrt
      · rename_i z; cases z
      · rename_i z; cases z
      · rename_i z; cases z
      · rename_i z; cases z
      · split at hrt
        · rename_i n hz
          refine W.aret (v := aV G (2, w)) hx hb (hr.trans hz) (Or.inl ⟨_, rfl⟩) ?_ (fun t ht _ => hq t ht) hlo hdg hlocks
          show va_rf (aRf G w) = .null ∨ ∃ a, va_rf (aRf G w) = .ref a
          unfold aRf
          split
          · exact Or.inl rfl
          · exact Or.inr ⟨_, rfl⟩
        · cases hrt
      · cases hrt
    · rw [h0] at hrt hq ⊢
      have hrt := of_decide_eq_true hrt
      exact W.vret hx hb (hr.trans hrt) (fun t ht _ => hq t ht) hlo hdg hlocks
  have hW := h p e _ s m _ below meth c _ hX hVR (aArg_ok hA) (fun v hv => by cases hv) hC ls s.heap [] hl' hH (fun q hq => by cases hq)
  exact W.widen (Nat.zero_le _) (Nat.zero_le _) hW
