/-! ===== a condition, read: (FAULT, the token behind it, its steps) ===== -/
abbrev RE : Type := Int × Nat × List (Int × Int)
def opE (c : Int) : Int := if c = 8 then 4 else if c = 9 then 5 else if c = 6 then 6 else if c = 7 then 7 else if c = 25 then 8 else 9
/-- which signs join at a level: j counts from SINGLE down -/
def lvOk (j : Nat) (c : Int) : Bool := if j = 0 then decide (c = 8 ∨ c = 9) else if j = 1 then decide (c = 6 ∨ c = 7) else decide (c = 25 ∨ c = 26)
def lvN (j : Nat) : Nat := if j = 1 then 1 else 1500
section
variable (kd nu pl : Nat → Int)
def lpE (j : Nat) (U : Nat → RE) : Nat → RE → RE
  | 0, r => r
  | f + 1, r => if r.1 = 0 ∧ lvOk j (kd r.2.1) = true then lpE j U f ((U (r.2.1 + 1)).1, (U (r.2.1 + 1)).2.1, r.2.2 ++ (U (r.2.1 + 1)).2.2 ++ [(opE (kd r.2.1), 0)]) else r
def chE (V : Nat → RE) : Nat → Nat → RE
  | 0, k => V k
  | j + 1, k => lpE kd j (chE V j) (lvN j) (chE V j k)
def vaE : Nat → Nat → RE
  | 0, k => if kd k = 2 ∨ 28 ≤ kd k ∨ kd k = 27 ∨ kd k = 4 then (5 + 16 * pl k, k, []) else (1 + 16 * pl k, k, [])
  | g + 1, k => if kd k = 2 then (0, k + 1, [(1, nu k)]) else if 28 ≤ kd k then (0, k + 1, [(2, kd k - 28)]) else if kd k = 27 then ((vaE g (k + 1)).1, (vaE g (k + 1)).2.1, (vaE g (k + 1)).2.2 ++ [(3, 0)]) else if kd k = 4 then (if (chE kd (vaE g) 3 (k + 1)).1 = 0 then (if kd (chE kd (vaE g) 3 (k + 1)).2.1 = 5 then (0, (chE kd (vaE g) 3 (k + 1)).2.1 + 1, (chE kd (vaE g) 3 (k + 1)).2.2) else (1 + 16 * pl (chE kd (vaE g) 3 (k + 1)).2.1, (chE kd (vaE g) 3 (k + 1)).2.1, [])) else chE kd (vaE g) 3 (k + 1)) else (1 + 16 * pl k, k, [])
end
/-- what a result is: the token moves on, a step wants a token -/
def OkR (N k : Nat) (r : RE) : Prop := 0 ≤ r.1 ∧ (r.1 = 0 → k < r.2.1 ∧ r.2.1 ≤ N ∧ r.2.2.length + k ≤ r.2.1)
def stH (x : Int × Int) (h : Nat) : Nat := if x.1 = 1 ∨ x.1 = 2 then h + 1 else if x.1 = 3 then h else h - 1
def hgO (h : Nat) : List (Int × Int) → Nat
  | [] => h
  | x :: l => hgO (stH x h) l
def cdH (x : Int × Int) (h m : Nat) : Prop := (1 ≤ x.1 ∧ x.1 ≤ 9) ∧ (x.1 = 3 → 1 ≤ h) ∧ (4 ≤ x.1 → 2 ≤ h) ∧ h ≤ m ∧ (x.1 = 2 → 0 ≤ x.2 ∧ x.2 ≤ 4) ∧ (x.1 = 1 → 0 ≤ x.2 ∧ x.2 ≤ 999999) ∧ (3 ≤ x.1 → x.2 = 0)
def okO (h m : Nat) : List (Int × Int) → Prop
  | [] => True
  | x :: l => cdH x h m ∧ okO (stH x h) m l
theorem cd1 {x : Int} {h m : Nat} (hx : 0 ≤ x ∧ x ≤ 999999) (hm : h ≤ m) : cdH (1, x) h m := by unfold cdH; dsimp only; omega
theorem cd2 {x : Int} {h m : Nat} (hx : 0 ≤ x ∧ x ≤ 4) (hm : h ≤ m) : cdH (2, x) h m := by unfold cdH; dsimp only; omega
theorem cd3 {h m : Nat} (h1 : 1 ≤ h) (hm : h ≤ m) : cdH (3, 0) h m := by unfold cdH; dsimp only; omega
theorem hgO_app {a b : List (Int × Int)} : ∀ {h : Nat}, hgO h (a ++ b) = hgO (hgO h a) b := by
  induction a with
  | nil => intro h; rfl
  | cons x a ih => intro h; exact ih
theorem okO_app {a b : List (Int × Int)} {m : Nat} : ∀ {h : Nat}, okO h m (a ++ b) ↔ okO h m a ∧ okO (hgO h a) m b := by
  induction a with
  | nil => intro h; exact ⟨fun q => ⟨trivial, q⟩, fun q => q.2⟩
  | cons x a ih =>
    intro h
    show cdH x h m ∧ okO (stH x h) m (a ++ b) ↔ (cdH x h m ∧ okO (stH x h) m a) ∧ okO (hgO (stH x h) a) m b
    rw [ih, and_assoc]
theorem okO_mono {l : List (Int × Int)} {m m' : Nat} (hm : m ≤ m') : ∀ {h : Nat}, okO h m l → okO h m' l := by
  induction l with
  | nil => intro h _; trivial
  | cons x l ih =>
    intro h q
    obtain ⟨⟨a1, a2, a3, a4, a5⟩, q2⟩ := q
    exact ⟨⟨a1, a2, a3, by omega, a5⟩, ih q2⟩
/-- the heights of a condition that was read -/
def HtR (m : Nat) (r : RE) : Prop := r.1 = 0 → ∀ h, hgO h r.2.2 = h + 1 ∧ okO h (h + m) r.2.2
section
variable {kd nu pl : Nat → Int} {N : Nat}
theorem lvOk_0 {j : Nat} {c : Int} (h : lvOk j c = true) : c ≠ 0 ∧ (4 ≤ opE c ∧ opE c ≤ 9) := by
  unfold lvOk at h
  unfold opE
  split at h
  · have := of_decide_eq_true h; exact ⟨by omega, by (repeat' split) <;> omega⟩
  split at h
  · have := of_decide_eq_true h; exact ⟨by omega, by (repeat' split) <;> omega⟩
  · have := of_decide_eq_true h; exact ⟨by omega, by (repeat' split) <;> omega⟩
theorem lp_ok {j : Nat} {U : Nat → RE} (hN : kd N = 0) (hU : ∀ k, k ≤ N → OkR N k (U k)) : ∀ (f k : Nat) (r : RE), OkR N k r → OkR N k (lpE kd j U f r) := by
  intro f
  induction f with
  | zero => intro k r h; exact h
  | succ f ih =>
    intro k r h
    rw [lpE]
    split
    · rename_i q
      obtain ⟨q1, q2⟩ := q
      obtain ⟨h1, h2, h3⟩ := h.2 q1
      have hlt : r.2.1 < N := by
        rcases (by omega : r.2.1 < N ∨ r.2.1 = N) with y | y
        · exact y
        · rw [y, hN] at q2; exact absurd rfl (lvOk_0 q2).1
      have u := hU (r.2.1 + 1) (by omega)
      refine ih k _ ⟨u.1, fun y => ?_⟩
      obtain ⟨u1, u2, u3⟩ := u.2 y
      refine ⟨by show k < (U (r.2.1 + 1)).2.1; omega, u2, ?_⟩
      show (r.2.2 ++ (U (r.2.1 + 1)).2.2 ++ [(opE (kd r.2.1), 0)]).length + k ≤ (U (r.2.1 + 1)).2.1
      rw [List.length_append, List.length_append, List.length_cons, List.length_nil]; omega
    · exact h
theorem ch_ok {V : Nat → RE} (hN : kd N = 0) (hV : ∀ k, k ≤ N → OkR N k (V k)) : ∀ j k, k ≤ N → OkR N k (chE kd V j k) := by
  intro j
  induction j with
  | zero => exact hV
  | succ j ih => intro k hk; exact lp_ok hN ih _ k _ (ih k hk)
theorem va_ok (hN : kd N = 0) (hp : ∀ k, 0 ≤ pl k) : ∀ g k, k ≤ N → OkR N k (vaE kd nu pl g k) := by
  intro g
  induction g with
  | zero =>
    intro k hk
    have := hp k
    rw [vaE]
    split
    · exact ⟨by show 0 ≤ 5 + 16 * pl k; omega, fun q => by have q : 5 + 16 * pl k = 0 := q; omega⟩
    · exact ⟨by show 0 ≤ 1 + 16 * pl k; omega, fun q => by have q : 1 + 16 * pl k = 0 := q; omega⟩
  | succ g ih =>
    intro k hk
    have hpk := hp k
    have nz : kd k ≠ 0 → k < N := fun y => by
      rcases (by omega : k < N ∨ k = N) with z | z
      · exact z
      · exact absurd (z ▸ hN) y
    rw [vaE]
    split
    · rename_i q
      exact ⟨Int.le_refl 0, fun _ => ⟨Nat.lt_succ_self k, by have := nz (by omega); show k + 1 ≤ N; omega, by show 1 + k ≤ k + 1; omega⟩⟩
    split
    · rename_i q
      exact ⟨Int.le_refl 0, fun _ => ⟨Nat.lt_succ_self k, by have := nz (by omega); show k + 1 ≤ N; omega, by show 1 + k ≤ k + 1; omega⟩⟩
    split
    · rename_i q
      have hlt := nz (by omega)
      have u := ih (k + 1) (by omega)
      refine ⟨u.1, fun y => ?_⟩
      obtain ⟨u1, u2, u3⟩ := u.2 y
      refine ⟨by show k < (vaE kd nu pl g (k + 1)).2.1; omega, u2, ?_⟩
      show ((vaE kd nu pl g (k + 1)).2.2 ++ [(3, 0)]).length + k ≤ (vaE kd nu pl g (k + 1)).2.1
      rw [List.length_append, List.length_cons, List.length_nil]; omega
    split
    · rename_i q
      have hlt := nz (by omega)
      have u := ch_ok hN ih 3 (k + 1) (by omega)
      split
      · rename_i y
        obtain ⟨u1, u2, u3⟩ := u.2 y
        split
        · rename_i y5
          have : (chE kd (vaE kd nu pl g) 3 (k + 1)).2.1 < N := by
            rcases (by omega : (chE kd (vaE kd nu pl g) 3 (k + 1)).2.1 < N ∨ (chE kd (vaE kd nu pl g) 3 (k + 1)).2.1 = N) with z | z
            · exact z
            · rw [z, hN] at y5; omega
          exact ⟨Int.le_refl 0, fun _ => ⟨by show k < (chE kd (vaE kd nu pl g) 3 (k + 1)).2.1 + 1; omega, by show (chE kd (vaE kd nu pl g) 3 (k + 1)).2.1 + 1 ≤ N; omega, by show (chE kd (vaE kd nu pl g) 3 (k + 1)).2.2.length + k ≤ (chE kd (vaE kd nu pl g) 3 (k + 1)).2.1 + 1; omega⟩⟩
        · have := hp (chE kd (vaE kd nu pl g) 3 (k + 1)).2.1
          exact ⟨by show 0 ≤ 1 + 16 * pl (chE kd (vaE kd nu pl g) 3 (k + 1)).2.1; omega, fun q => by have q : 1 + 16 * pl (chE kd (vaE kd nu pl g) 3 (k + 1)).2.1 = 0 := q; omega⟩
      · rename_i y
        exact ⟨u.1, fun q => absurd q y⟩
    · exact ⟨by show 0 ≤ 1 + 16 * pl k; omega, fun q => by have q : 1 + 16 * pl k = 0 := q; omega⟩
theorem lp_ht {j m : Nat} {U : Nat → RE} (hm : 1 ≤ m) (hU : ∀ k, HtR m (U k)) : ∀ (f : Nat) (r : RE), HtR (m + 1) r → HtR (m + 1) (lpE kd j U f r) := by
  intro f
  induction f with
  | zero => intro r h; exact h
  | succ f ih =>
    intro r h
    rw [lpE]
    split
    · rename_i q
      obtain ⟨q1, q2⟩ := q
      refine ih _ fun y h' => ?_
      obtain ⟨a1, a2⟩ := h q1 h'
      obtain ⟨b1, b2⟩ := hU _ y (h' + 1)
      have ho := (lvOk_0 q2).2
      have st : stH (opE (kd r.2.1), 0) (h' + 1 + 1) = h' + 1 := by unfold stH; rw [if_neg (by show ¬ (opE (kd r.2.1) = 1 ∨ opE (kd r.2.1) = 2); omega), if_neg (by show ¬ opE (kd r.2.1) = 3; omega)]; omega
      show hgO h' (r.2.2 ++ (U (r.2.1 + 1)).2.2 ++ [(opE (kd r.2.1), 0)]) = h' + 1 ∧ okO h' (h' + (m + 1)) (r.2.2 ++ (U (r.2.1 + 1)).2.2 ++ [(opE (kd r.2.1), 0)])
      rw [hgO_app, hgO_app, okO_app, okO_app, hgO_app, a1, b1]
      refine ⟨st, ⟨a2, by rw [show h' + (m + 1) = h' + 1 + m by omega]; exact b2⟩, ⟨⟨by show 1 ≤ opE _; omega, by show opE _ ≤ 9; omega⟩, fun y => by have y : opE (kd r.2.1) = 3 := y; omega, fun _ => by omega, by omega, fun y => by have y : opE (kd r.2.1) = 2 := y; omega, fun y => by have y : opE (kd r.2.1) = 1 := y; omega, fun _ => rfl⟩, trivial⟩
    · exact h
theorem HtR_up {m m' : Nat} {r : RE} (hm : m ≤ m') (h : HtR m r) : HtR m' r := fun q h' => ⟨(h q h').1, okO_mono (by omega) (h q h').2⟩
theorem ch_ht {m : Nat} {V : Nat → RE} (hm : 1 ≤ m) (hV : ∀ k, HtR m (V k)) : ∀ j k, HtR (m + j) (chE kd V j k) := by
  intro j
  induction j with
  | zero => exact hV
  | succ j ih => intro k; exact lp_ht (m := m + j) (by omega) ih _ _ (HtR_up (by omega) (ih k))
theorem va_ht (hn : ∀ k, kd k = 2 → 0 ≤ nu k ∧ nu k ≤ 999999) (hk : ∀ k, kd k ≤ 32) (hp : ∀ k, 0 ≤ pl k) : ∀ g k, HtR (3 * g + 1) (vaE kd nu pl (g + 1) k) := by
  have st1 : ∀ (x : Int) (h : Nat), stH (1, x) h = h + 1 := fun x h => by unfold stH; rw [if_pos (Or.inl rfl)]
  have st2 : ∀ (x : Int) (h : Nat), stH (2, x) h = h + 1 := fun x h => by unfold stH; rw [if_pos (Or.inr rfl)]
  have z0 : ∀ k, ¬ (vaE kd nu pl 0 k).1 = 0 := fun k q => by
    have := hp k
    rw [vaE] at q
    split at q
    · have q : 5 + 16 * pl k = 0 := q; omega
    · have q : 1 + 16 * pl k = 0 := q; omega
  have c0 : ∀ j k, ¬ (chE kd (vaE kd nu pl 0) j k).1 = 0 := by
    intro j
    induction j with
    | zero => exact z0
    | succ j ih =>
      intro k
      show ¬ (lpE kd j (chE kd (vaE kd nu pl 0) j) (lvN j) (chE kd (vaE kd nu pl 0) j k)).1 = 0
      have : lvN j = (lvN j - 1) + 1 := by unfold lvN; split <;> omega
      rw [this, lpE, if_neg (fun q => ih k q.1)]
      exact ih k
  intro g
  induction g with
  | zero =>
    intro k
    rw [vaE]
    split
    · rename_i q
      intro _ h
      have := hn k q
      exact ⟨st1 (nu k) h, cd1 this (by omega), trivial⟩
    split
    · rename_i q2 q
      intro _ h
      have := hk k
      exact ⟨st2 (kd k - 28) h, cd2 ⟨by omega, by omega⟩ (by omega), trivial⟩
    split
    · intro q; exact absurd q (z0 _)
    split
    · split
      · rename_i y; exact absurd y (c0 3 _)
      · rename_i y; intro q; exact absurd q y
    · intro q; have := hp k; have q : 1 + 16 * pl k = 0 := q; omega
  | succ g ih =>
    intro k
    rw [vaE]
    split
    · rename_i q
      intro _ h
      have := hn k q
      exact ⟨st1 (nu k) h, cd1 this (by omega), trivial⟩
    split
    · rename_i q2 q
      intro _ h
      have := hk k
      exact ⟨st2 (kd k - 28) h, cd2 ⟨by omega, by omega⟩ (by omega), trivial⟩
    split
    · intro q h
      obtain ⟨a1, a2⟩ := ih (k + 1) q h
      show hgO h ((vaE kd nu pl (g + 1) (k + 1)).2.2 ++ [(3, 0)]) = h + 1 ∧ okO h (h + (3 * (g + 1) + 1)) ((vaE kd nu pl (g + 1) (k + 1)).2.2 ++ [(3, 0)])
      rw [hgO_app, okO_app, a1]
      exact ⟨rfl, okO_mono (by omega) a2, cd3 (by omega) (by omega), trivial⟩
    split
    · have u := ch_ht (kd := kd) (m := 3 * g + 1) (by omega) ih 3 (k + 1)
      split
      · rename_i y
        split
        · intro _ h
          obtain ⟨a1, a2⟩ := u y h
          exact ⟨a1, by rw [show h + (3 * (g + 1) + 1) = h + (3 * g + 1 + 3) by omega]; exact a2⟩
        · intro q; have := hp (chE kd (vaE kd nu pl (g + 1)) 3 (k + 1)).2.1; have q : 1 + 16 * pl (chE kd (vaE kd nu pl (g + 1)) 3 (k + 1)).2.1 = 0 := q; omega
      · rename_i y; intro q; exact absurd q y
    · intro q; have := hp k; have q : 1 + 16 * pl k = 0 := q; omega
end
theorem WfC_of {cs : List (Int × Int)} (h1 : hgO 0 cs = 1) (h2 : okO 0 13 cs) : WfC (fun k => cs.getD k (0, 0)) cs.length := by
  have hh : ∀ k, k ≤ cs.length → hgt (fun k => cs.getD k (0, 0)) k = hgO 0 (cs.take k) := by
    intro k
    induction k with
    | zero => intro _; rfl
    | succ k ih =>
      intro hk
      have e : cs.take (k + 1) = cs.take k ++ [cs.getD k (0, 0)] := by
        rw [List.take_succ, List.getD_eq_getElem?_getD, List.getElem?_eq_getElem (by omega)]
        rfl
      rw [e, hgO_app, ← ih (by omega)]
      rfl
  refine ⟨fun k hk => ?_, Or.inr (by rw [hh _ (Nat.le_refl _), List.take_length]; exact h1)⟩
  have e : cs = cs.take k ++ cs.getD k (0, 0) :: cs.drop (k + 1) := by
    rw [List.getD_eq_getElem?_getD, List.getElem?_eq_getElem hk]
    show cs = cs.take k ++ cs[k] :: cs.drop (k + 1)
    rw [List.getElem_cons_drop, List.take_append_drop]
  rw [e, okO_app] at h2
  obtain ⟨-, ⟨a1, a2, a3, a4, a5, -⟩, -⟩ := h2
  rw [hh k (by omega)]
  exact ⟨a1, a2, a3, a4, a5⟩
/-- the steps as they lie in the class's row, in the reference's rows -/
def EncL (f : Int → Int) : Int → List (Int × Int) → Prop
  | _, [] => True
  | c, x :: l => encR x (f c) ∧ EncL f (c + 1) l
def OpL (f g : Int → Int) : Int → List (Int × Int) → Prop
  | _, [] => True
  | c, x :: l => (f c = x.1 ∧ g c = x.2) ∧ OpL f g (c + 1) l
theorem EncL_app {f : Int → Int} {a b : List (Int × Int)} : ∀ {c : Int}, EncL f c (a ++ b) ↔ EncL f c a ∧ EncL f (c + a.length) b := by
  induction a with
  | nil => intro c; rw [List.nil_append, List.length_nil, Int.natCast_zero, Int.add_zero]; exact ⟨fun q => ⟨trivial, q⟩, fun q => q.2⟩
  | cons x a ih =>
    intro c
    show encR x (f c) ∧ EncL f (c + 1) (a ++ b) ↔ (encR x (f c) ∧ EncL f (c + 1) a) ∧ EncL f (c + ((x :: a).length : Nat)) b
    rw [ih, and_assoc, List.length_cons, show c + 1 + (a.length : Int) = c + ((a.length + 1 : Nat) : Int) by omega]
theorem OpL_app {f g : Int → Int} {a b : List (Int × Int)} : ∀ {c : Int}, OpL f g c (a ++ b) ↔ OpL f g c a ∧ OpL f g (c + a.length) b := by
  induction a with
  | nil => intro c; rw [List.nil_append, List.length_nil, Int.natCast_zero, Int.add_zero]; exact ⟨fun q => ⟨trivial, q⟩, fun q => q.2⟩
  | cons x a ih =>
    intro c
    show (f c = x.1 ∧ g c = x.2) ∧ OpL f g (c + 1) (a ++ b) ↔ ((f c = x.1 ∧ g c = x.2) ∧ OpL f g (c + 1) a) ∧ OpL f g (c + ((x :: a).length : Nat)) b
    rw [ih, ← and_assoc (a := f c = x.1 ∧ g c = x.2), List.length_cons, show c + 1 + (a.length : Int) = c + ((a.length + 1 : Nat) : Int) by omega]
theorem EncL_congr {f f' : Int → Int} {a : List (Int × Int)} : ∀ {c : Int}, (∀ j, c ≤ j → j < c + a.length → f' j = f j) → EncL f c a → EncL f' c a := by
  induction a with
  | nil => intro c _ _; trivial
  | cons x a ih =>
    intro c h q
    rw [List.length_cons] at h
    exact ⟨by rw [h c (by omega) (by omega)]; exact q.1, ih (fun j j1 j2 => h j (by omega) (by omega)) q.2⟩
theorem OpL_congr {f f' g g' : Int → Int} {a : List (Int × Int)} : ∀ {c : Int}, (∀ j, c ≤ j → j < c + a.length → f' j = f j ∧ g' j = g j) → OpL f g c a → OpL f' g' c a := by
  induction a with
  | nil => intro c _ _; trivial
  | cons x a ih =>
    intro c h q
    rw [List.length_cons] at h
    have e := h c (by omega) (by omega)
    exact ⟨by rw [e.1, e.2]; exact q.1, ih (fun j j1 j2 => h j (by omega) (by omega)) q.2⟩
theorem EncL_at {f : Int → Int} {a : List (Int × Int)} : ∀ {c : Int}, EncL f c a → ∀ k : Nat, k < a.length → encR (a.getD k (0, 0)) (f (c + k)) := by
  induction a with
  | nil => intro c _ k hk; exact absurd hk (Nat.not_lt_zero k)
  | cons x a ih =>
    intro c q k hk
    rw [List.length_cons] at hk
    cases k with
    | zero => rw [Int.natCast_zero, Int.add_zero]; exact q.1
    | succ k =>
      have := ih q.2 k (by omega)
      rw [show c + ((k + 1 : Nat) : Int) = c + 1 + (k : Int) by omega]
      exact this
theorem OpL_at {f g : Int → Int} {a : List (Int × Int)} : ∀ {c : Int}, OpL f g c a → ∀ k : Nat, k < a.length → f (c + k) = (a.getD k (0, 0)).1 ∧ g (c + k) = (a.getD k (0, 0)).2 := by
  induction a with
  | nil => intro c _ k hk; exact absurd hk (Nat.not_lt_zero k)
  | cons x a ih =>
    intro c q k hk
    rw [List.length_cons] at hk
    cases k with
    | zero => rw [Int.natCast_zero, Int.add_zero]; exact q.1
    | succ k =>
      have := ih q.2 k (by omega)
      rw [show c + ((k + 1 : Nat) : Int) = c + 1 + (k : Int) by omega]
      exact this
