/-! ===== events as plain functions: losses in their order, one after the other ===== -/
def uF (f : Int → Int) (i v : Int) : Int → Int := fun j => if j = i then v else f j
theorem uF_at {f : Int → Int} {i v : Int} : uF f i v i = v := if_pos rfl
theorem uF_ne {f : Int → Int} {i j v : Int} (h : j ≠ i) : uF f i v j = f j := if_neg h
section
variable (hr pl ca sp hrs mls : Int → Int) (ms : Int)
def efF (fi : Int → Int) (l : Int) : Nat → Int
  | 0 => -1
  | n + 1 => if ca (fi n) = ca l ∧ hr l - hr (fi n) < hrs (ca l) ∧ pl (fi n) - pl l ≤ mls (ca l) ∧ pl l - pl (fi n) ≤ mls (ca l) then n else efF fi l n
/-- how many events, their first losses, each loss's event, how many losses each has -/
abbrev ES : Type := Nat × (Int → Int) × (Int → Int) × (Int → Int)
def evPick (l : Int) (E : ES) : Int := if sp l ≠ 0 ∨ l = ms then -1 else efF hr pl ca hrs mls E.2.1 l E.1
def evJoin (l : Int) (e : Int) (E : ES) : ES := (E.1, E.2.1, uF E.2.2.1 l e, uF E.2.2.2 e (E.2.2.2 e + 1))
def evOpen (l : Int) (E : ES) : ES := (E.1 + 1, uF E.2.1 E.1 l, E.2.2.1, uF E.2.2.2 E.1 0)
def evStep (E : ES) (l : Int) : ES := if evPick hr pl ca sp hrs mls ms l E < 0 then evJoin l E.1 (evOpen l E) else evJoin l (evPick hr pl ca sp hrs mls ms l E) E
def evNil : ES := (0, fun _ => 0, fun _ => -1, fun _ => 0)
def EV (xs : List Int) : ES := xs.foldl (evStep hr pl ca sp hrs mls ms) evNil
end
theorem efF_lt {hr pl ca hrs mls fi : Int → Int} {l : Int} (n : Nat) : -1 ≤ efF hr pl ca hrs mls fi l n ∧ efF hr pl ca hrs mls fi l n < n := by
  induction n with
  | zero => have : efF hr pl ca hrs mls fi l 0 = -1 := rfl; omega
  | succ n ih => rw [efF]; split <;> omega
theorem efF_congr {hr pl ca hrs mls fi hr' pl' ca' hrs' mls' fi' : Int → Int} {l : Int} {n : Nat} (h0 : ca l = ca' l ∧ hr l = hr' l ∧ pl l = pl' l) (h1 : hrs (ca l) = hrs' (ca l) ∧ mls (ca l) = mls' (ca l)) (h : ∀ k : Nat, k < n → fi k = fi' k ∧ ca (fi k) = ca' (fi k) ∧ hr (fi k) = hr' (fi k) ∧ pl (fi k) = pl' (fi k)) : efF hr pl ca hrs mls fi l n = efF hr' pl' ca' hrs' mls' fi' l n := by
  induction n with
  | zero => rfl
  | succ n ih =>
    obtain ⟨g1, g2, g3, g4⟩ := h n (by omega)
    rw [efF, efF, ih (fun k hk => h k (by omega)), ← g1, ← g2, ← g3, ← g4, ← h0.1, ← h0.2.1, ← h0.2.2, ← h1.1, ← h1.2]
section
variable {hr pl ca sp hrs mls : Int → Int} {ms : Int}
/-- what holds of the events behind losses without one twice -/
def evInv (xs : List Int) (E : ES) : Prop := E.1 ≤ xs.length ∧ (∀ l, -1 ≤ E.2.2.1 l ∧ E.2.2.1 l < E.1) ∧ (∀ l, l ∉ xs → E.2.2.1 l = -1) ∧ (∀ l, l ∈ xs → 0 ≤ E.2.2.1 l) ∧ (∀ e : Nat, e < E.1 → E.2.1 e ∈ xs ∧ E.2.2.1 (E.2.1 e) = e) ∧ (∀ e : Nat, e < E.1 → 0 ≤ E.2.2.2 e ∧ E.2.2.2 e ≤ xs.length)
theorem evPick_lt {l : Int} {E : ES} : -1 ≤ evPick hr pl ca sp hrs mls ms l E ∧ evPick hr pl ca sp hrs mls ms l E < E.1 := by
  unfold evPick
  split
  · omega
  · exact efF_lt _
theorem evInv_step {xs : List Int} {E : ES} {l : Int} (h : evInv xs E) (hl : l ∉ xs) : evInv (xs ++ [l]) (evStep hr pl ca sp hrs mls ms E l) := by
  obtain ⟨h1, h2, h3, h4, h5, h6⟩ := h
  have hp := evPick_lt (hr := hr) (pl := pl) (ca := ca) (sp := sp) (hrs := hrs) (mls := mls) (ms := ms) (l := l) (E := E)
  unfold evStep
  generalize evPick hr pl ca sp hrs mls ms l E = e at hp ⊢
  have hlen : (xs ++ [l]).length = xs.length + 1 := by simp
  have hmem : ∀ q, q ∈ xs ++ [l] ↔ q ∈ xs ∨ q = l := fun q => by simp
  split
  · refine ⟨?_, fun q => ?_, fun q hq => ?_, fun q hq => ?_, fun k hk => ?_, fun k hk => ?_⟩
    · show E.1 + 1 ≤ _; omega
    · show -1 ≤ uF E.2.2.1 l E.1 q ∧ uF E.2.2.1 l E.1 q < ((E.1 + 1 : Nat) : Int)
      unfold uF
      have := h2 q
      split <;> omega
    · show uF E.2.2.1 l E.1 q = -1
      rw [hmem] at hq
      rw [uF_ne (fun z => hq (Or.inr z))]
      exact h3 q (fun z => hq (Or.inl z))
    · show 0 ≤ uF E.2.2.1 l E.1 q
      unfold uF
      split
      · omega
      · rename_i hne
        rw [hmem] at hq
        exact h4 q (hq.resolve_right hne)
    · have hk : k < E.1 + 1 := hk
      show uF E.2.1 E.1 l k ∈ _ ∧ uF E.2.2.1 l E.1 (uF E.2.1 E.1 l k) = k
      by_cases hke : k = E.1
      · subst hke
        rw [uF_at, uF_at]
        exact ⟨(hmem l).mpr (Or.inr rfl), rfl⟩
      · rw [uF_ne (by omega)]
        obtain ⟨g1, g2⟩ := h5 k (by omega)
        refine ⟨(hmem _).mpr (Or.inl g1), ?_⟩
        have hne : ¬ E.2.1 k = l := fun z => hl (by rw [← z]; exact g1)
        rw [uF_ne hne]
        exact g2
    · have hk : k < E.1 + 1 := hk
      show 0 ≤ uF (uF E.2.2.2 E.1 0) E.1 (uF E.2.2.2 E.1 0 E.1 + 1) k ∧ uF (uF E.2.2.2 E.1 0) E.1 (uF E.2.2.2 E.1 0 E.1 + 1) k ≤ _
      by_cases hke : k = E.1
      · subst hke
        rw [uF_at, uF_at]
        omega
      · rw [uF_ne (by omega), uF_ne (by omega)]
        have := h6 k (by omega)
        omega
  · rename_i hne
    obtain ⟨en, rfl⟩ : ∃ n : Nat, e = n := ⟨e.toNat, by omega⟩
    refine ⟨?_, fun q => ?_, fun q hq => ?_, fun q hq => ?_, fun k hk => ?_, fun k hk => ?_⟩
    · show E.1 ≤ _; omega
    · show -1 ≤ uF E.2.2.1 l en q ∧ uF E.2.2.1 l en q < ((E.1 : Nat) : Int)
      unfold uF
      have := h2 q
      split <;> omega
    · show uF E.2.2.1 l en q = -1
      rw [hmem] at hq
      rw [uF_ne (fun z => hq (Or.inr z))]
      exact h3 q (fun z => hq (Or.inl z))
    · show 0 ≤ uF E.2.2.1 l en q
      unfold uF
      split
      · omega
      · rename_i hne
        rw [hmem] at hq
        exact h4 q (hq.resolve_right hne)
    · have hk : k < E.1 := hk
      show E.2.1 k ∈ _ ∧ uF E.2.2.1 l en (E.2.1 k) = k
      obtain ⟨g1, g2⟩ := h5 k hk
      refine ⟨(hmem _).mpr (Or.inl g1), ?_⟩
      have hne : ¬ E.2.1 k = l := fun z => hl (by rw [← z]; exact g1)
      rw [uF_ne hne]
      exact g2
    · have hk : k < E.1 := hk
      show 0 ≤ uF E.2.2.2 en (E.2.2.2 en + 1) k ∧ uF E.2.2.2 en (E.2.2.2 en + 1) k ≤ _
      have := h6 k hk
      unfold uF
      split
      · rename_i z
        have := h6 en (by omega)
        omega
      · omega
theorem evInv_nil : evInv [] evNil := ⟨Nat.le_refl 0, (fun _ => ⟨Int.le_refl _, (by show (-1 : Int) < ((0 : Nat) : Int); omega)⟩), (fun _ _ => rfl), (fun l h => nomatch h), (fun e h => nomatch h), (fun e h => nomatch h)⟩
theorem EV_snoc {xs : List Int} {l : Int} : EV hr pl ca sp hrs mls ms (xs ++ [l]) = evStep hr pl ca sp hrs mls ms (EV hr pl ca sp hrs mls ms xs) l := by
  unfold EV
  rw [List.foldl_append]
  rfl
theorem EV_inv : ∀ {xs : List Int}, xs.Nodup → evInv xs (EV hr pl ca sp hrs mls ms xs) := by
  intro xs
  have key : ∀ (ys zs : List Int) (E : ES), evInv zs E → (zs ++ ys).Nodup → evInv (zs ++ ys) (ys.foldl (evStep hr pl ca sp hrs mls ms) E) := by
    intro ys
    induction ys with
    | nil => intro zs E h _; rw [List.append_nil]; exact h
    | cons y ys ih =>
      intro zs E h hn
      have e : zs ++ y :: ys = (zs ++ [y]) ++ ys := by simp
      rw [e] at hn ⊢
      rw [List.foldl_cons]
      refine ih _ _ (evInv_step h ?_) hn
      intro hy
      have := (List.nodup_append.mp (List.nodup_append.mp hn).1).2.2 y hy y List.mem_cons_self
      exact this rfl
  intro h
  exact key xs [] evNil evInv_nil (by simpa using h)
end
/-! ===== lists in strict order ===== -/
theorem sorted_eq {κ : Int → Int} : ∀ {xs ys : List Int}, xs.Pairwise (fun a b => κ a < κ b) → ys.Pairwise (fun a b => κ a < κ b) → (∀ a, a ∈ xs ↔ a ∈ ys) → xs = ys := by
  intro xs
  induction xs with
  | nil =>
    intro ys _ _ h
    cases ys with
    | nil => rfl
    | cons y ys => exact absurd ((h y).mpr List.mem_cons_self) (by simp)
  | cons x xs ih =>
    intro ys h1 h2 h
    cases ys with
    | nil => exact absurd ((h x).mp List.mem_cons_self) (by simp)
    | cons y ys =>
      rw [List.pairwise_cons] at h1 h2
      have hxy : x = y := by
        rcases List.mem_cons.mp ((h x).mp List.mem_cons_self) with e | e
        · exact e
        · rcases List.mem_cons.mp ((h y).mpr List.mem_cons_self) with e2 | e2
          · exact e2.symm
          · have := h2.1 x e
            have := h1.1 y e2
            omega
      subst hxy
      congr 1
      refine ih h1.2 h2.2 fun a => ?_
      have ha := h a
      rw [List.mem_cons, List.mem_cons] at ha
      constructor
      · intro q
        rcases ha.mp (Or.inr q) with e | e
        · subst e; have := h1.1 a q; omega
        · exact e
      · intro q
        rcases ha.mpr (Or.inr q) with e | e
        · subst e; have := h2.1 a q; omega
        · exact e
theorem sorted_nodup {κ : Int → Int} {xs : List Int} (h : xs.Pairwise (fun a b => κ a < κ b)) : xs.Nodup := by
  unfold List.Nodup
  exact h.imp fun hab e => by subst e; omega
/-- the first n values of a row -/
def rowL (f : Int → Int) (n : Nat) : List Int := (List.range n).map fun i : Nat => f (i : Int)
theorem rowL_succ {f : Int → Int} {n : Nat} : rowL f (n + 1) = rowL f n ++ [f n] := by
  unfold rowL
  rw [List.range_succ, List.map_append]
  rfl
theorem rowL_mem {f : Int → Int} {n : Nat} {a : Int} : a ∈ rowL f n ↔ ∃ i : Nat, i < n ∧ f i = a := by
  unfold rowL
  simp
theorem rowL_sorted {κ : Int → Int} {f : Int → Int} {n : Nat} (h : ∀ i j : Nat, i < j → j < n → κ (f i) < κ (f j)) : (rowL f n).Pairwise (fun a b => κ a < κ b) := by
  induction n with
  | zero => exact List.Pairwise.nil
  | succ n ih =>
    rw [rowL_succ, List.pairwise_append]
    refine ⟨ih (fun i j h1 h2 => h i j h1 (by omega)), List.pairwise_singleton _ _, fun a ha b hb => ?_⟩
    obtain ⟨i, h1, rfl⟩ := rowL_mem.mp ha
    rw [List.mem_singleton.mp hb]
    exact h i n h1 (by omega)
theorem rowL_len {f : Int → Int} {n : Nat} : (rowL f n).length = n := by unfold rowL; simp
