/-! ===== rounds as plain functions. A wording's table w: of treaty t, w t 0 its house, 1 layer, 2 own, 3 limit, 4 over, 5 again, 6 premium, 7 parts; w t (100 + i), w t (200 + i): the i-th part's house and share ===== -/
abbrev WT : Type := Nat → Int → Int
def prt (a n : Int) : Int := a * n / 1000
def mx0 (x : Int) : Int := if 0 < x then x else 0
def pdF (w : WT) (t : Nat) (a : Int) : Int := sumF (fun i => prt a (w t (200 + i))) (w t 7).toNat
def amtF (w : WT) (rm : Nat → Int) (t : Nat) (b : Int) : Int := if w t 1 = 0 then b else if mx0 (b - w t 4) < rm t then mx0 (b - w t 4) else rm t
def hsS (w : WT) (rm : Nat → Int) (t : Nat) (s : Int × Int) : Int × Int :=
  (s.1 - pdF w t (amtF w rm t (if w t 2 = 0 then s.1 else s.2)), if s.1 - pdF w t (amtF w rm t (if w t 2 = 0 then s.1 else s.2)) < (if w t 2 = 0 then s.2 else mx0 (s.2 - pdF w t (amtF w rm t (if w t 2 = 0 then s.1 else s.2)))) then s.1 - pdF w t (amtF w rm t (if w t 2 = 0 then s.1 else s.2)) else (if w t 2 = 0 then s.2 else mx0 (s.2 - pdF w t (amtF w rm t (if w t 2 = 0 then s.1 else s.2)))))
section
variable (w : WT) (rm : Nat → Int) (pay : Nat → Bool) (d g : Int → Int)
def hsF (h : Int) : Nat → Int × Int
  | 0 => (g h, d h)
  | t + 1 => if w t 0 = h ∧ pay t = true then hsS w rm t (hsF h t) else hsF h t
def bsF (t : Nat) : Int := if w t 2 = 0 then (hsF w rm pay d g (w t 0) t).1 else (hsF w rm pay d g (w t 0) t).2
def auF (t : Nat) : Int := amtF w rm t (bsF w rm pay d g t)
/-- what the parts that are the house h pay of treaty t, of its first n parts -/
def ptF (t : Nat) (h a : Int) (n : Nat) : Int := sumF (fun i => if w t (100 + i) = h then prt a (w t (200 + i)) else 0) n
def nxF (nt : Nat) (h : Int) : Int := d h + sumF (fun t => if pay t = true then ptF w t h (auF w rm pay d g t) (w t 7).toNat else 0) nt
end
def chB (g g' : Int → Int) : Nat → Bool
  | 0 => false
  | n + 1 => chB g g' n || !decide (g' n = g n)
def bgB (g : Int → Int) : Nat → Bool
  | 0 => false
  | n + 1 => bgB g n || decide (20000000 < g n)
def slF (w : WT) (rm : Nat → Int) (pay : Nat → Bool) (d : Int → Int) (nt : Nat) : Nat → Nat → (Int → Int) → Nat × Bool × (Int → Int)
  | 0, r, g => (r, true, g)
  | n + 1, r, g => if chB g (nxF w rm pay d g nt) 12 = true then (if bgB (nxF w rm pay d g nt) 12 = true then (r + 1, true, nxF w rm pay d g nt) else slF w rm pay d nt n (r + 1) (nxF w rm pay d g nt)) else (r + 1, false, nxF w rm pay d g nt)
/-- a wording's table is as the wording's rules have it -/
def wOk (w : WT) (nt : Nat) (nh : Int) : Prop := nt ≤ 24 ∧ 0 ≤ nh ∧ nh ≤ 12 ∧ ∀ t : Nat, t < nt → (0 ≤ w t 0 ∧ w t 0 < nh) ∧ (w t 1 = 0 ∨ w t 1 = 1) ∧ (w t 2 = 0 ∨ w t 2 = 1) ∧ (0 ≤ w t 4 ∧ w t 4 ≤ 999999) ∧ (0 ≤ w t 7 ∧ w t 7 ≤ 11) ∧ (∀ i : Nat, (i : Int) < w t 7 → (0 ≤ w t (100 + i) ∧ w t (100 + i) < nh) ∧ (0 ≤ w t (200 + i) ∧ w t (200 + i) ≤ 1000)) ∧ sumF (fun i => w t (200 + i)) (w t 7).toNat ≤ 1000
theorem prt_in {a n : Int} (ha : 0 ≤ a) (hn : 0 ≤ n ∧ n ≤ 1000) : 0 ≤ prt a n ∧ prt a n ≤ a := by
  unfold prt
  have h1 : 0 ≤ a * n := Int.mul_nonneg ha hn.1
  have h2 : a * n ≤ a * 1000 := Int.mul_le_mul_of_nonneg_left hn.2 ha
  omega
theorem prt_sum {a : Int} {f : Nat → Int} (ha : 0 ≤ a) (hf : ∀ i, 0 ≤ f i) (n : Nat) : 1000 * sumF (fun i => prt a (f i)) n ≤ a * sumF f n := by
  induction n with
  | zero => simp [sumF]
  | succ n ih =>
    rw [sumF, sumF, Int.mul_add, Int.mul_add]
    have : 1000 * prt a (f n) ≤ a * f n := by unfold prt; omega
    omega
theorem pdF_in {w : WT} {nt t : Nat} {nh a : Int} (hw : wOk w nt nh) (ht : t < nt) (ha : 0 ≤ a) : 0 ≤ pdF w t a ∧ pdF w t a ≤ a := by
  obtain ⟨-, -, -, hw⟩ := hw
  obtain ⟨-, -, -, -, h7, hp, hs⟩ := hw t ht
  unfold pdF
  refine ⟨sumF_nonneg fun i hi => (prt_in ha (hp i (by omega)).2).1, ?_⟩
  have key : ∀ n : Nat, (n : Int) ≤ w t 7 → 1000 * sumF (fun i => prt a (w t (200 + i))) n ≤ a * sumF (fun i => w t (200 + i)) n := by
    intro n
    induction n with
    | zero => intro _; simp [sumF]
    | succ n ih =>
      intro hn
      rw [sumF, sumF, Int.mul_add, Int.mul_add]
      have := ih (by omega)
      have : 1000 * prt a (w t (200 + n)) ≤ a * w t (200 + n) := by unfold prt; omega
      omega
  have h1 := key (w t 7).toNat (by omega)
  have h2 : a * sumF (fun i => w t (200 + i)) (w t 7).toNat ≤ a * 1000 := Int.mul_le_mul_of_nonneg_left hs ha
  omega
theorem amtF_in {w : WT} {rm : Nat → Int} {t : Nat} {b : Int} (hr : 0 ≤ rm t) (h4 : 0 ≤ w t 4) (hb : 0 ≤ b) : 0 ≤ amtF w rm t b ∧ amtF w rm t b ≤ b := by
  unfold amtF mx0
  split
  · omega
  · split <;> split <;> omega
section
variable {w : WT} {rm : Nat → Int} {pay : Nat → Bool} {d g : Int → Int} {nt : Nat} {nh : Int}
theorem hsS_in {t : Nat} {s : Int × Int} (hw : wOk w nt nh) (ht : t < nt) (hr : 0 ≤ rm t) (hs : 0 ≤ s.2 ∧ s.2 ≤ s.1) : 0 ≤ (hsS w rm t s).2 ∧ (hsS w rm t s).2 ≤ (hsS w rm t s).1 ∧ (hsS w rm t s).1 ≤ s.1 := by
  have h4 := (hw.2.2.2 t ht).2.2.2.1.1
  have hb : 0 ≤ (if w t 2 = 0 then s.1 else s.2) ∧ (if w t 2 = 0 then s.1 else s.2) ≤ s.1 := by split <;> omega
  have ha := amtF_in (w := w) hr h4 hb.1
  have hp := pdF_in hw ht ha.1
  unfold hsS
  generalize pdF w t (amtF w rm t (if w t 2 = 0 then s.1 else s.2)) = p at *
  dsimp only
  have hm : 0 ≤ (if w t 2 = 0 then s.2 else mx0 (s.2 - p)) := by
    split
    · omega
    · unfold mx0; split <;> omega
  split <;> omega
theorem hsF_in {h : Int} (hw : wOk w nt nh) (hr : ∀ t, t < nt → 0 ≤ rm t) (hd : 0 ≤ d h ∧ d h ≤ g h) : ∀ t, t ≤ nt → 0 ≤ (hsF w rm pay d g h t).2 ∧ (hsF w rm pay d g h t).2 ≤ (hsF w rm pay d g h t).1 ∧ (hsF w rm pay d g h t).1 ≤ g h := by
  intro t
  induction t with
  | zero => intro _; exact ⟨hd.1, hd.2, Int.le_refl _⟩
  | succ t ih =>
    intro ht
    have h1 := ih (by omega)
    rw [hsF]
    split
    · have := hsS_in (w := w) (nt := nt) (s := hsF w rm pay d g h t) hw (by omega) (hr t (by omega)) ⟨h1.1, h1.2.1⟩
      omega
    · exact h1
theorem bsF_in {t : Nat} (hw : wOk w nt nh) (hr : ∀ t, t < nt → 0 ≤ rm t) (hd : ∀ h, 0 ≤ h → h < nh → 0 ≤ d h ∧ d h ≤ g h) (ht : t < nt) : 0 ≤ bsF w rm pay d g t ∧ bsF w rm pay d g t ≤ g (w t 0) := by
  have h0 := (hw.2.2.2 t ht).1
  have h1 := hsF_in (pay := pay) hw hr (hd (w t 0) h0.1 h0.2) t (by omega)
  unfold bsF
  split <;> omega
theorem auF_in {t : Nat} (hw : wOk w nt nh) (hr : ∀ t, t < nt → 0 ≤ rm t) (hd : ∀ h, 0 ≤ h → h < nh → 0 ≤ d h ∧ d h ≤ g h) (ht : t < nt) : 0 ≤ auF w rm pay d g t ∧ auF w rm pay d g t ≤ g (w t 0) := by
  have h1 := bsF_in (pay := pay) hw hr hd ht
  have h2 := amtF_in (w := w) (hr t ht) (hw.2.2.2 t ht).2.2.2.1.1 h1.1
  unfold auF
  omega
theorem ptF_in {t : Nat} {h a : Int} {n : Nat} (hw : wOk w nt nh) (ht : t < nt) (ha : 0 ≤ a) (hn : (n : Int) ≤ w t 7) : 0 ≤ ptF w t h a n ∧ ptF w t h a n ≤ pdF w t a := by
  obtain ⟨-, -, -, -, h7, hp, hs⟩ := hw.2.2.2 t ht
  have key : ∀ m : Nat, (m : Int) ≤ w t 7 → 0 ≤ ptF w t h a m ∧ ptF w t h a m ≤ sumF (fun i => prt a (w t (200 + i))) m := by
    intro m
    induction m with
    | zero => intro _; exact ⟨Int.le_refl _, Int.le_refl _⟩
    | succ m ih =>
      intro hm
      have h1 := ih (by omega)
      have h2 := prt_in ha (hp m (by omega)).2
      unfold ptF at h1 ⊢
      rw [sumF, sumF]
      split <;> omega
  have mono : ∀ m k : Nat, ((m + k : Nat) : Int) ≤ w t 7 → sumF (fun i => prt a (w t (200 + i))) m ≤ sumF (fun i => prt a (w t (200 + i))) (m + k) := by
    intro m k
    induction k with
    | zero => intro _; exact Int.le_refl _
    | succ k ih =>
      intro hk
      have h1 := ih (by omega)
      have h2 := prt_in ha (hp (m + k) (by omega)).2
      show _ ≤ sumF (fun i => prt a (w t (200 + i))) (m + k + 1)
      rw [sumF]
      omega
  have h1 := key n hn
  have h2 := mono n ((w t 7).toNat - n) (by omega)
  rw [show n + ((w t 7).toNat - n) = (w t 7).toNat by omega] at h2
  exact ⟨h1.1, Int.le_trans h1.2 h2⟩
theorem nxF_in {h m : Int} (hw : wOk w nt nh) (hr : ∀ t, t < nt → 0 ≤ rm t) (hd : ∀ h, 0 ≤ h → h < nh → 0 ≤ d h ∧ d h ≤ g h) (hg : ∀ h, 0 ≤ h → h < nh → g h ≤ m) (hm : 0 ≤ m) : d h ≤ nxF w rm pay d g nt h ∧ nxF w rm pay d g nt h ≤ d h + 24 * m := by
  unfold nxF
  have hin : ∀ t, t < nt → 0 ≤ (if pay t = true then ptF w t h (auF w rm pay d g t) (w t 7).toNat else 0) ∧ (if pay t = true then ptF w t h (auF w rm pay d g t) (w t 7).toNat else 0) ≤ m := fun t ht => by
    have h1 := auF_in (pay := pay) hw hr hd ht
    have h2 := ptF_in (h := h) (n := (w t 7).toNat) hw ht h1.1 (by have := (hw.2.2.2 t ht).2.2.2.2.1; omega)
    have h3 := pdF_in hw ht h1.1
    have h0 := (hw.2.2.2 t ht).1
    have h4 := hg (w t 0) h0.1 h0.2
    split <;> omega
  have h1 := sumF_nonneg (n := nt) (fun t ht => (hin t ht).1)
  have h2 := sumF_le (n := nt) (fun t ht => (hin t ht).2)
  have h3 : (nt : Int) * m ≤ 24 * m := Int.mul_le_mul_of_nonneg_right (by have := hw.1; omega) hm
  omega
theorem chB_iff {g g' : Int → Int} : ∀ {n : Nat}, chB g g' n = true ↔ ∃ k : Nat, k < n ∧ g' k ≠ g k := by
  intro n
  induction n with
  | zero => simp [chB]
  | succ n ih =>
    rw [chB, Bool.or_eq_true, ih]
    constructor
    · rintro (⟨k, h1, h2⟩ | h)
      · exact ⟨k, by omega, h2⟩
      · exact ⟨n, by omega, by simpa using h⟩
    · rintro ⟨k, h1, h2⟩
      rcases (by omega : k < n ∨ k = n) with h | h
      · exact Or.inl ⟨k, h, h2⟩
      · subst h; exact Or.inr (by simpa using h2)
theorem bgB_iff {g : Int → Int} : ∀ {n : Nat}, bgB g n = true ↔ ∃ k : Nat, k < n ∧ 20000000 < g k := by
  intro n
  induction n with
  | zero => simp [bgB]
  | succ n ih =>
    rw [bgB, Bool.or_eq_true, ih]
    constructor
    · rintro (⟨k, h1, h2⟩ | h)
      · exact ⟨k, by omega, h2⟩
      · exact ⟨n, by omega, of_decide_eq_true h⟩
    · rintro ⟨k, h1, h2⟩
      rcases (by omega : k < n ∨ k = n) with h | h
      · exact Or.inl ⟨k, h, h2⟩
      · subst h; exact Or.inr (decide_eq_true h2)
end
