/-! ===== wants: class and reference agree ===== -/
theorem wnF_le {wt : Nat → Bool} {bu : Nat → Int} {b0 : Int} : ∀ n, (wnF wt bu b0 n).1 ≤ b0 := by
  intro n
  induction n with
  | zero => exact Int.le_refl _
  | succ n ih =>
    rw [wnF]
    split
    · rename_i q; have := q.2; show bu n ≤ b0; omega
    · exact ih
theorem wnF_eq {wt wt' : Nat → Bool} {bu : Nat → Int} {b0 : Int} : ∀ n, (∀ i, i < n → wt i = true → wt' i = true) → (∀ i, i < n → wt' i = true → ¬ wt i = true → bu i = b0) → wnF wt bu b0 n = wnF wt' bu b0 n := by
  intro n
  induction n with
  | zero => intro _ _; rfl
  | succ n ih =>
    intro h1 h2
    have e := ih (fun i hi => h1 i (by omega)) (fun i hi => h2 i (by omega))
    rw [wnF, wnF, e]
    have le := wnF_le (wt := wt') (bu := bu) (b0 := b0) n
    by_cases q : wt n = true
    · have q' := h1 n (by omega) q
      by_cases y : bu n < (wnF wt' bu b0 n).1
      · rw [if_pos ⟨q, y⟩, if_pos ⟨q', y⟩]
      · rw [if_neg (fun x => y x.2), if_neg (fun x => y x.2)]
    · rw [if_neg (fun x => q x.1), if_neg (fun x => ?_)]
      have := h2 n (by omega) x.1 q
      have := x.2
      omega
section
variable {hr pl ca sp hrs mls : Int → Int}
theorem fold_ms {a b : Int} : ∀ (zs : List Int) (E : ES), (∀ x, x ∈ zs → x ≠ a ∧ x ≠ b) → zs.foldl (evStep hr pl ca sp hrs mls a) E = zs.foldl (evStep hr pl ca sp hrs mls b) E := by
  intro zs
  induction zs with
  | nil => intro E _; rfl
  | cons q zs ih =>
    intro E h
    have hq := h q List.mem_cons_self
    have ep : evPick hr pl ca sp hrs mls a q E = evPick hr pl ca sp hrs mls b q E := by
      unfold evPick
      by_cases y : sp q ≠ 0
      · rw [if_pos (Or.inl y), if_pos (Or.inl y)]
      · rw [if_neg (fun x => x.elim y hq.1), if_neg (fun x => x.elim y hq.2)]
    have es : evStep hr pl ca sp hrs mls a E q = evStep hr pl ca sp hrs mls b E q := by unfold evStep; rw [ep]
    show zs.foldl _ (evStep hr pl ca sp hrs mls a E q) = zs.foldl _ (evStep hr pl ca sp hrs mls b E q)
    rw [es]
    exact ih _ (fun x hx => h x (List.mem_cons_of_mem _ hx))
theorem fold_keep {ms q : Int} : ∀ (zs : List Int) (E : ES), q ∉ zs → (zs.foldl (evStep hr pl ca sp hrs mls ms) E).2.2.1 q = E.2.2.1 q ∧ E.1 ≤ (zs.foldl (evStep hr pl ca sp hrs mls ms) E).1 ∧ ∀ k : Nat, k < E.1 → (zs.foldl (evStep hr pl ca sp hrs mls ms) E).2.1 k = E.2.1 k := by
  intro zs
  induction zs with
  | nil => intro E _; exact ⟨rfl, Nat.le_refl _, fun _ _ => rfl⟩
  | cons x zs ih =>
    intro E hq
    have hx : q ≠ x := fun y => hq (y ▸ List.mem_cons_self)
    obtain ⟨a1, a2, a3⟩ := ih (evStep hr pl ca sp hrs mls ms E x) (fun y => hq (List.mem_cons_of_mem _ y))
    show (zs.foldl (evStep hr pl ca sp hrs mls ms) (evStep hr pl ca sp hrs mls ms E x)).2.2.1 q = _ ∧ E.1 ≤ (zs.foldl (evStep hr pl ca sp hrs mls ms) (evStep hr pl ca sp hrs mls ms E x)).1 ∧ ∀ k : Nat, k < E.1 → (zs.foldl (evStep hr pl ca sp hrs mls ms) (evStep hr pl ca sp hrs mls ms E x)).2.1 k = E.2.1 k
    have st : (evStep hr pl ca sp hrs mls ms E x).2.2.1 q = E.2.2.1 q ∧ E.1 ≤ (evStep hr pl ca sp hrs mls ms E x).1 ∧ ∀ k : Nat, k < E.1 → (evStep hr pl ca sp hrs mls ms E x).2.1 k = E.2.1 k := by
      unfold evStep
      split
      · refine ⟨uF_ne hx, Nat.le_succ _, fun k hk => ?_⟩
        show uF E.2.1 E.1 x k = E.2.1 k
        exact uF_ne (by omega)
      · exact ⟨uF_ne hx, Nat.le_refl _, fun _ _ => rfl⟩
    exact ⟨a1.trans st.1, Nat.le_trans st.2.1 a2, fun k hk => (a3 k (Nat.lt_of_lt_of_le hk st.2.1)).trans (st.2.2 k hk)⟩
theorem EV_first {xs : List Int} {q ms : Int} (hn : xs.Nodup) (hq : q ∈ xs) (hm : ms ∉ xs) : (sp q ≠ 0 → (EV hr pl ca sp hrs mls ms xs).2.1 ((EV hr pl ca sp hrs mls ms xs).2.2.1 q) = q) ∧ ((EV hr pl ca sp hrs mls ms xs).2.1 ((EV hr pl ca sp hrs mls ms xs).2.2.1 q) = q → EV hr pl ca sp hrs mls q xs = EV hr pl ca sp hrs mls ms xs) := by
  obtain ⟨ys, zs, rfl⟩ := List.append_of_mem hq
  have hd := List.nodup_append.mp hn
  have hz : q ∉ zs := (List.nodup_cons.mp hd.2.1).1
  have hy : q ∉ ys := fun y => hd.2.2 q y q List.mem_cons_self rfl
  have hmq : q ≠ ms := fun y => hm (y ▸ hq)
  have inv := EV_inv (hr := hr) (pl := pl) (ca := ca) (sp := sp) (hrs := hrs) (mls := mls) (ms := ms) hd.1
  have f1 : EV hr pl ca sp hrs mls q ys = EV hr pl ca sp hrs mls ms ys := fold_ms ys evNil (fun x hx => ⟨fun y => hy (y ▸ hx), fun y => hm (y ▸ List.mem_append_left _ hx)⟩)
  have e1 : ∀ m, EV hr pl ca sp hrs mls m (ys ++ q :: zs) = zs.foldl (evStep hr pl ca sp hrs mls m) (evStep hr pl ca sp hrs mls m (EV hr pl ca sp hrs mls m ys) q) := fun m => by unfold EV; rw [List.foldl_append]; rfl
  rw [e1 ms, e1 q, f1]
  generalize hE : EV hr pl ca sp hrs mls ms ys = E at inv
  have hp := evPick_lt (hr := hr) (pl := pl) (ca := ca) (sp := sp) (hrs := hrs) (mls := mls) (ms := ms) (l := q) (E := E)
  obtain ⟨k1, k2, k3⟩ := fold_keep (hr := hr) (pl := pl) (ca := ca) (sp := sp) (hrs := hrs) (mls := mls) (ms := ms) (q := q) zs (evStep hr pl ca sp hrs mls ms E q) hz
  by_cases y : evPick hr pl ca sp hrs mls ms q E < 0
  · have st : evStep hr pl ca sp hrs mls ms E q = evJoin q E.1 (evOpen q E) := by unfold evStep; rw [if_pos y]
    have stq : evStep hr pl ca sp hrs mls q E q = evJoin q E.1 (evOpen q E) := by
      unfold evStep
      rw [if_pos]
      unfold evPick
      rw [if_pos (Or.inr rfl)]
      decide
    have j1 : (evStep hr pl ca sp hrs mls ms E q).2.2.1 q = E.1 := by rw [st]; exact uF_at
    have j2 : (evStep hr pl ca sp hrs mls ms E q).2.1 E.1 = q := by rw [st]; exact uF_at
    have j3 : E.1 < (evStep hr pl ca sp hrs mls ms E q).1 := by rw [st]; exact Nat.lt_succ_self _
    refine ⟨fun _ => ?_, fun _ => ?_⟩
    · rw [k1, j1, k3 E.1 j3, j2]
    · rw [st, stq]
      exact fold_ms zs _ (fun x hx => ⟨fun y => hz (y ▸ hx), fun y => hm (y ▸ List.mem_append_right _ (List.mem_cons_of_mem _ hx))⟩)
  · have st : evStep hr pl ca sp hrs mls ms E q = evJoin q (evPick hr pl ca sp hrs mls ms q E) E := by unfold evStep; rw [if_neg y]
    have no : ¬ (zs.foldl (evStep hr pl ca sp hrs mls ms) (evStep hr pl ca sp hrs mls ms E q)).2.1 ((zs.foldl (evStep hr pl ca sp hrs mls ms) (evStep hr pl ca sp hrs mls ms E q)).2.2.1 q) = q := by
      rw [k1, st]
      rw [st] at k3
      have j1 : (evJoin q (evPick hr pl ca sp hrs mls ms q E) E).2.2.1 q = evPick hr pl ca sp hrs mls ms q E := uF_at
      rw [j1]
      have := k3 (evPick hr pl ca sp hrs mls ms q E).toNat (show _ < E.1 by omega)
      rw [show (((evPick hr pl ca sp hrs mls ms q E).toNat : Nat) : Int) = evPick hr pl ca sp hrs mls ms q E by omega] at this
      rw [this]
      show ¬ E.2.1 (evPick hr pl ca sp hrs mls ms q E) = q
      have mem := (inv.2.2.2.2.1 (evPick hr pl ca sp hrs mls ms q E).toNat (by omega)).1
      rw [show (((evPick hr pl ca sp hrs mls ms q E).toNat : Nat) : Int) = evPick hr pl ca sp hrs mls ms q E by omega] at mem
      exact fun x => hy (x ▸ mem)
    refine ⟨fun h => ?_, fun h => absurd h no⟩
    exfalso
    apply y
    unfold evPick
    rw [if_pos (Or.inl h)]
    decide
end
theorem wants_eq {D : Nat → Int → Int} {T nt : Nat} {wo : Int → Int} {cn : Nat → Nat} {cc : Nat → Nat → Int × Int} {stm h : Int} (hC : CW T nt wo cn cc D) : wnF (wtX D wo T (vwC D) stm) (fun i => buX D wo T nt cn cc (vwC D) stm i h) (buX D wo T nt cn cc (vwC D) stm (-1) h) (D 89 0).toNat = wnF (wtM D wo T stm) (fun i => buX D wo T nt cn cc (vwC D) stm i h) (buX D wo T nt cn cc (vwC D) stm (-1) h) (D 89 0).toNat := by
  have xf := evX_facts (v := vwC D) (stm := stm) (ms := -1) hC
  have hm : (-1 : Int) ∉ xsC D wo T (vwC D) stm (D 89 0).toNat := fun y => by have := ((xf.2.2.1 _).mp y).1.1; omega
  refine wnF_eq _ (fun i hi h1 => ?_) (fun i hi h1 h2 => ?_)
  · have h1 := of_decide_eq_true h1
    have hq : (i : Int) ∈ xsC D wo T (vwC D) stm (D 89 0).toNat := Decidable.byContradiction fun y => h1.1 (xf.1.2.2.1 _ y)
    refine decide_eq_true ⟨((xf.2.2.1 _).mp hq).2, Decidable.byContradiction fun y => h1.2 ?_⟩
    exact (EV_first xf.2.2.2.2.1 hq hm).1 y
  · have h1 := of_decide_eq_true h1
    have hq : (i : Int) ∈ xsC D wo T (vwC D) stm (D 89 0).toNat := (xf.2.2.1 _).mpr ⟨by omega, h1.1⟩
    have h3 : (evX D wo T (vwC D) stm (-1)).2.1 ((evX D wo T (vwC D) stm (-1)).2.2.1 i) = i := Decidable.byContradiction fun y => h2 (decide_eq_true ⟨fun z => by have := xf.1.2.2.2.1 _ hq; omega, y⟩)
    have e : evX D wo T (vwC D) stm i = evX D wo T (vwC D) stm (-1) := (EV_first xf.2.2.2.2.1 hq hm).2 h3
    show buX D wo T nt cn cc (vwC D) stm i h = _
    unfold buX drX owX qX
    rw [e]
