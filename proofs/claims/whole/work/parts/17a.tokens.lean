/-! ===== tokens of a tape: s its signs, n how many, ws the class's packed keywords ===== -/
def isL (c : Int) : Bool := decide (97 ≤ c ∧ c ≤ 122)
def isD (c : Int) : Bool := decide (48 ≤ c ∧ c ≤ 57)
def isB (c : Int) : Bool := decide (c = 10 ∨ c = 32)
def runF (p : Int → Bool) (s : Int → Int) (n : Nat) : Nat → Nat → Nat
  | 0, i => i
  | f + 1, i => if p (s i) = true then runF p s n f (i + 1) else i
def runE (p : Int → Bool) (s : Int → Int) (n i : Nat) : Nat := runF p s n (n - i) i
theorem runE_in {p : Int → Bool} {s : Int → Int} {n i : Nat} (h : i < n) (hp : p (s i) = true) : runE p s n i = runE p s n (i + 1) := by
  unfold runE
  rw [show n - i = (n - (i + 1)) + 1 by omega, runF, if_pos hp]
theorem runE_out {p : Int → Bool} {s : Int → Int} {n i : Nat} (h : n ≤ i ∨ ¬ p (s i) = true) : runE p s n i = i := by
  unfold runE
  rcases Nat.lt_or_ge i n with q | q
  · rw [show n - i = (n - (i + 1)) + 1 by omega, runF, if_neg (h.resolve_left (by omega))]
  · rw [show n - i = 0 by omega, runF]
theorem runE_sp {p : Int → Bool} {s : Int → Int} {n : Nat} : ∀ (m i : Nat), i + m = n → (i ≤ runE p s n i ∧ runE p s n i ≤ n) ∧ (∀ j, i ≤ j → j < runE p s n i → p (s j) = true) ∧ (runE p s n i < n → ¬ p (s (runE p s n i)) = true) := by
  intro m
  induction m with
  | zero => intro i h; rw [runE_out (Or.inl (by omega))]; exact ⟨by omega, fun j _ _ => by omega, fun _ => by omega⟩
  | succ m ih =>
    intro i h
    by_cases hp : p (s i) = true
    · rw [runE_in (by omega) hp]
      obtain ⟨a1, a2, a3⟩ := ih (i + 1) (by omega)
      refine ⟨by omega, fun j j1 j2 => ?_, a3⟩
      rcases (by omega : j = i ∨ i + 1 ≤ j) with q | q
      · subst q; exact hp
      · exact a2 j q j2
    · rw [runE_out (Or.inr hp)]; exact ⟨by omega, fun j _ _ => by omega, fun _ => hp⟩
/-- a row of signs as a number -/
def pkF (B o : Int) (s : Int → Int) (i : Nat) : Nat → Int
  | 0 => 0
  | k + 1 => B * pkF B o s i k + (s ((i + k : Nat) : Int) - o)
theorem pkF_congr {B o : Int} {s t : Int → Int} {i j : Nat} : ∀ {m : Nat}, (∀ k, k < m → s ((i + k : Nat) : Int) = t ((j + k : Nat) : Int)) → pkF B o s i m = pkF B o t j m := by
  intro m
  induction m with
  | zero => intro _; rfl
  | succ m ih => intro h; rw [pkF, pkF, ih (fun k hk => h k (by omega)), h m (by omega)]
theorem pkF_pos {B : Int} {s : Int → Int} {i : Nat} (hB : 1 ≤ B) : ∀ {m : Nat}, (∀ k, k < m → isL (s ((i + k : Nat) : Int)) = true) → 0 ≤ pkF B 96 s i m ∧ (1 ≤ m → 1 ≤ pkF B 96 s i m) := by
  intro m
  induction m with
  | zero => intro _; exact ⟨Int.le_refl 0, fun h => by omega⟩
  | succ m ih =>
    intro h
    have h1 := (ih (fun k hk => h k (by omega))).1
    have h2 := of_decide_eq_true (h m (by omega))
    have h3 : 0 ≤ B * pkF B 96 s i m := Int.mul_nonneg (by omega) h1
    rw [pkF]
    exact ⟨by omega, fun _ => by omega⟩
theorem mul_dig {B x y a b : Int} (hB : 27 ≤ B) (ha : 1 ≤ a ∧ a ≤ 26) (hb : 1 ≤ b ∧ b ≤ 26) (h : B * x + a = B * y + b) : x = y ∧ a = b := by
  have e : B * (x - y) = b - a := by rw [Int.mul_sub]; omega
  have hx : x - y = 0 := by
    rcases Int.lt_trichotomy (x - y) 0 with q | q | q
    · have := Int.mul_le_mul_of_nonneg_left (show x - y ≤ -1 by omega) (show 0 ≤ B by omega)
      omega
    · exact q
    · have := Int.mul_le_mul_of_nonneg_left (show 1 ≤ x - y by omega) (show 0 ≤ B by omega)
      omega
  rw [hx, Int.mul_zero] at e
  omega
theorem pkF_inj {B : Int} {s t : Int → Int} {i j : Nat} (hB : 27 ≤ B) : ∀ {m m' : Nat}, (∀ k, k < m → isL (s ((i + k : Nat) : Int)) = true) → (∀ k, k < m' → isL (t ((j + k : Nat) : Int)) = true) → pkF B 96 s i m = pkF B 96 t j m' → m = m' ∧ ∀ k, k < m → s ((i + k : Nat) : Int) = t ((j + k : Nat) : Int) := by
  intro m
  induction m with
  | zero =>
    intro m' _ h2 h
    rcases Nat.eq_zero_or_pos m' with q | q
    · exact ⟨q.symm, fun k hk => by omega⟩
    · have := (pkF_pos (B := B) (by omega) h2).2 q
      rw [← h] at this
      exact absurd this (by show ¬ (1 : Int) ≤ 0; omega)
  | succ m ih =>
    intro m' h1 h2 h
    cases m' with
    | zero =>
      have := (pkF_pos (B := B) (by omega) h1).2 (by omega)
      rw [h] at this
      exact absurd this (by show ¬ (1 : Int) ≤ 0; omega)
    | succ m' =>
      rw [pkF, pkF] at h
      have a1 := of_decide_eq_true (h1 m (by omega))
      have a2 := of_decide_eq_true (h2 m' (by omega))
      obtain ⟨e1, e2⟩ := mul_dig hB (by omega) (by omega) h
      obtain ⟨rfl, e3⟩ := ih (fun k hk => h1 k (by omega)) (fun k hk => h2 k (by omega)) e1
      refine ⟨rfl, fun k hk => ?_⟩
      rcases (by omega : k < m ∨ k = m) with q | q
      · exact e3 k q
      · subst q; omega
theorem pkF_two {B C : Int} {s t : Int → Int} {i j m m' : Nat} (hB : 27 ≤ B) (hC : 27 ≤ C) (h1 : ∀ k, k < m → isL (s ((i + k : Nat) : Int)) = true) (h2 : ∀ k, k < m' → isL (t ((j + k : Nat) : Int)) = true) : pkF B 96 s i m = pkF B 96 t j m' ↔ pkF C 96 s i m = pkF C 96 t j m' := by
  constructor
  · intro h
    obtain ⟨rfl, e⟩ := pkF_inj hB h1 h2 h
    exact pkF_congr e
  · intro h
    obtain ⟨rfl, e⟩ := pkF_inj hC h1 h2 h
    exact pkF_congr e
/-- the keyword that a packed word is, among the first i -/
def kwF (ws : Int → Int) (x : Int) : Nat → Int
  | 0 => 3
  | i + 1 => if kwF ws x i = 3 then (if ws i = x then 12 + (i : Int) else 3) else kwF ws x i
def sgF (c : Int) : Int := if c = 40 then 4 else if c = 41 then 5 else if c = 60 then 6 else if c = 61 then 7 else if c = 43 then 8 else if c = 45 then 9 else if c = 58 then 10 else if c = 59 then 11 else 1
section
variable (s : Int → Int) (n : Nat) (ws : Int → Int)
def enF (p : Nat) : Nat := if n ≤ p then n else if isL (s p) = true then runE isL s n p else if isD (s p) = true then runE isD s n p else p + 1
def kdF (p : Nat) : Int := if n ≤ p then 0 else if isL (s p) = true then (if 8 < runE isL s n p - p then 1 else kwF ws (pkF 32 96 s p (runE isL s n p - p)) 21) else if isD (s p) = true then (if 6 < runE isD s n p - p then 1 else 2) else sgF (s p)
def tpF : Nat → Nat
  | 0 => runE isB s n 0
  | k + 1 => runE isB s n (enF s n (tpF k))
abbrev kT (k : Nat) : Int := kdF s n ws (tpF s n k)
abbrev pT2 (k : Nat) : Int := (tpF s n k : Nat)
abbrev nT (k : Nat) : Int := pkF 10 48 s (tpF s n k) (runE isD s n (tpF s n k) - tpF s n k)
abbrev lT3 (k : Nat) : Int := pkF 32 96 s (tpF s n k) (runE isL s n (tpF s n k) - tpF s n k)
abbrev mT (k : Nat) : Int := pkF 37 96 s (tpF s n k) (runE isL s n (tpF s n k) - tpF s n k)
end
def kwS (i : Nat) : Int → Int := fun j => ((match i with
  | 0 => [104, 111, 117, 115, 101]
  | 1 => [101, 118, 101, 110, 116]
  | 2 => [115, 104, 97, 114, 101]
  | 3 => [108, 97, 121, 101, 114]
  | 4 => [104, 111, 117, 114, 115]
  | 5 => [109, 105, 108, 101, 115]
  | 6 => [111, 102]
  | 7 => [111, 119, 110]
  | 8 => [119, 104, 101, 110]
  | 9 => [111, 118, 101, 114]
  | 10 => [97, 103, 97, 105, 110]
  | 11 => [97, 116]
  | 12 => [116, 111]
  | 13 => [97, 110, 100]
  | 14 => [111, 114]
  | 15 => [110, 111, 116]
  | 16 => [99, 97, 117, 115, 101]
  | 17 => [100, 97, 121]
  | 18 => [108, 111, 115, 115, 101, 115]
  | 19 => [100, 105, 114, 101, 99, 116]
  | 20 => [104, 105, 116]
  | _ => ([] : List Nat)).getD j.toNat 0 : Nat)
def kwN (i : Nat) : Nat := [5, 5, 5, 5, 5, 5, 2, 3, 4, 4, 5, 2, 2, 3, 2, 3, 5, 3, 6, 6, 3].getD i 0
/-- the packed keywords of the class and of the reference, in the class's order -/
def kw32 (i : Nat) : Int := (([8902245, 5969364, 20186693, 12641458, 8902227, 13938867, 486, 16110, 762030, 514226, 1279278, 52, 655, 1476, 498, 14836, 3200613, 4153, 419024051, 144249972, 8500] : List Nat).getD i 0 : Nat)
def kw37 (i : Nat) : Int := (([15782540, 10492554, 36016323, 22575013, 15782517, 24836602, 561, 21400, 1176170, 790116, 2230448, 57, 755, 1891, 573, 19741, 5702593, 5538, 861228521, 295162007, 11305] : List Nat).getD i 0 : Nat)
def kwG (i : Nat) : Nat := [0, 1, 2, 3, 4, 5, 6, 7, 10, 11, 12, 13, 14, 8, 9, 15, 16, 17, 18, 19, 20].getD i 0
theorem kw_pk : ∀ i : Nat, i < 21 → pkF 32 96 (kwS i) 0 (kwN i) = kw32 i ∧ pkF 37 96 (kwS i) 0 (kwN i) = kw37 i ∧ kwN i ≤ 8 ∧ kwG i < 21 := by decide +kernel
theorem kw_let : ∀ i : Nat, i < 21 → ∀ k : Nat, k < kwN i → isL (kwS i ((0 + k : Nat) : Int)) = true := by
  intro i hi k hk
  have h8 := (kw_pk i hi).2.2.1
  have : ∀ i : Nat, i < 21 → ∀ k : Nat, k < 8 → k < kwN i → isL (kwS i ((0 + k : Nat) : Int)) = true := by decide +kernel
  exact this i hi k (by omega) hk
theorem kw_same {s : Int → Int} {p m i : Nat} (hi : i < 21) (h : ∀ k, k < m → isL (s ((p + k : Nat) : Int)) = true) : pkF 32 96 s p m = kw32 i ↔ pkF 37 96 s p m = kw37 i := by
  obtain ⟨e1, e2, -⟩ := kw_pk i hi
  rw [← e1, ← e2]
  exact pkF_two (by decide) (by decide) h (kw_let i hi)
theorem kw_ne : ∀ i : Nat, i < 21 → ∀ j : Nat, j < 21 → kw32 i = kw32 j → i = j := by decide +kernel
theorem kwF_in {ws : Int → Int} {x : Int} : ∀ n : Nat, kwF ws x n = 3 ∨ ∃ i : Nat, i < n ∧ ws i = x ∧ kwF ws x n = 12 + (i : Int) := by
  intro n
  induction n with
  | zero => exact Or.inl rfl
  | succ n ih =>
    rw [kwF]
    rcases ih with h | ⟨i, h1, h2, h3⟩
    · rw [if_pos h]
      by_cases q : ws n = x
      · rw [if_pos q]; exact Or.inr ⟨n, by omega, q, rfl⟩
      · rw [if_neg q]; exact Or.inl rfl
    · rw [if_neg (by omega)]; exact Or.inr ⟨i, by omega, h2, h3⟩
theorem kwF_not {ws : Int → Int} {x : Int} : ∀ {n : Nat}, (∀ i : Nat, i < n → ws i ≠ x) → kwF ws x n = 3 := by
  intro n
  induction n with
  | zero => intro _; rfl
  | succ n ih => intro h; rw [kwF, ih (fun i hi => h i (by omega)), if_pos rfl, if_neg (h n (by omega))]
theorem kwF_is {ws : Int → Int} {x : Int} (hw : ∀ i : Nat, i < 21 → ws i = kw32 i) {i : Nat} (hi : i < 21) : kwF ws x 21 = 12 + (i : Int) ↔ x = kw32 i := by
  rcases kwF_in (ws := ws) (x := x) 21 with h | ⟨j, h1, h2, h3⟩
  · refine ⟨fun q => by omega, fun q => ?_⟩
    exfalso
    -- some keyword is x, so it can't be 3
    have : ∀ n : Nat, i < n → kwF ws x n ≠ 3 := by
      intro n
      induction n with
      | zero => intro y; omega
      | succ n ih =>
        intro y
        rw [kwF]
        by_cases z : kwF ws x n = 3
        · rw [if_pos z]
          have hn : i = n := by
            rcases (by omega : i < n ∨ i = n) with y2 | y2
            · exact absurd z (ih y2)
            · exact y2
          subst hn
          rw [if_pos (by rw [hw i hi, q])]; omega
        · rw [if_neg z]; exact z
    exact this 21 hi h
  · rw [h3]
    constructor
    · intro q
      have : i = j := by omega
      subst this
      rw [← h2, hw i hi]
    · intro q
      rw [hw j h1, q] at h2
      have := kw_ne j h1 i hi h2
      omega
theorem sgF_in (c : Int) : sgF c = 1 ∨ (4 ≤ sgF c ∧ sgF c ≤ 11) := by unfold sgF; (repeat' split) <;> omega
section
variable {s : Int → Int} {n : Nat} {ws : Int → Int}
theorem enF_in {p : Nat} (h : p < n) : p < enF s n p ∧ enF s n p ≤ n := by
  unfold enF
  rw [if_neg (by omega)]
  by_cases q : isL (s p) = true
  · rw [if_pos q, runE_in h q]
    have := (runE_sp (p := isL) (s := s) (n := n) (n - (p + 1)) (p + 1) (by omega)).1
    omega
  · rw [if_neg q]
    by_cases q2 : isD (s p) = true
    · rw [if_pos q2, runE_in h q2]
      have := (runE_sp (p := isD) (s := s) (n := n) (n - (p + 1)) (p + 1) (by omega)).1
      omega
    · rw [if_neg q2]; omega
theorem tpF_in : ∀ k, tpF s n k ≤ n := by
  intro k
  cases k with
  | zero => exact (runE_sp (p := isB) (s := s) (n := n) n 0 (by omega)).1.2
  | succ k =>
    rw [tpF]
    have : enF s n (tpF s n k) ≤ n := by
      rcases Nat.lt_or_ge (tpF s n k) n with q | q
      · exact (enF_in q).2
      · unfold enF; rw [if_pos q]; omega
    exact (runE_sp (p := isB) (s := s) (n := n) (n - enF s n (tpF s n k)) _ (by omega)).1.2
theorem tpF_lt {k : Nat} (h : tpF s n k < n) : tpF s n k < tpF s n (k + 1) := by
  rw [tpF]
  have := enF_in (s := s) h
  have := (runE_sp (p := isB) (s := s) (n := n) (n - enF s n (tpF s n k)) (enF s n (tpF s n k)) (by omega)).1
  omega
/-- a token is never blank -/
theorem tpF_nb {k : Nat} (h : tpF s n k < n) : ¬ isB (s (tpF s n k)) = true := by
  cases k with
  | zero => exact (runE_sp (p := isB) (s := s) (n := n) n 0 (by omega)).2.2 h
  | succ k =>
    rw [tpF] at h ⊢
    have : enF s n (tpF s n k) ≤ n := by
      rcases Nat.lt_or_ge (tpF s n k) n with q | q
      · exact (enF_in q).2
      · unfold enF; rw [if_pos q]; omega
    exact (runE_sp (p := isB) (s := s) (n := n) (n - enF s n (tpF s n k)) _ (by omega)).2.2 h
theorem kdF_in {p : Nat} : 0 ≤ kdF s n ws p ∧ kdF s n ws p ≤ 32 := by
  unfold kdF
  split
  · omega
  split
  · split
    · omega
    · rcases kwF_in (ws := ws) (x := pkF 32 96 s p (runE isL s n p - p)) 21 with h | ⟨j, h1, -, h3⟩ <;> omega
  split
  · split <;> omega
  · have := sgF_in (s p); omega
theorem kdF_0 {p : Nat} : kdF s n ws p = 0 ↔ n ≤ p := by
  unfold kdF
  split
  · omega
  refine ⟨fun h => ?_, fun h => by omega⟩
  exfalso
  split at h
  · split at h
    · omega
    · rcases kwF_in (ws := ws) (x := pkF 32 96 s p (runE isL s n p - p)) 21 with h | ⟨j, h1, -, h3⟩ <;> omega
  split at h
  · split at h <;> omega
  · have := sgF_in (s p); omega
/-- how many tokens -/
theorem tk_many : ∃ N : Nat, N ≤ n ∧ kT s n ws N = 0 ∧ ∀ k, k < N → kT s n ws k ≠ 0 := by
  have far : ∀ m, (∀ k, k < m → tpF s n k < n) → m ≤ tpF s n m := by
    intro m
    induction m with
    | zero => intro _; omega
    | succ m ih =>
      intro h
      have := ih (fun k hk => h k (by omega))
      have := tpF_lt (h m (by omega))
      omega
  have : ∀ m, (∃ N : Nat, N ≤ m ∧ n ≤ tpF s n N ∧ ∀ k, k < N → tpF s n k < n) ∨ ∀ k, k ≤ m → tpF s n k < n := by
    intro m
    induction m with
    | zero =>
      rcases Nat.lt_or_ge (tpF s n 0) n with q | q
      · exact Or.inr fun k hk => by have : k = 0 := by omega
                                    subst this; exact q
      · exact Or.inl ⟨0, by omega, q, fun k hk => by omega⟩
    | succ m ih =>
      rcases ih with ⟨N, h1, h2, h3⟩ | h
      · exact Or.inl ⟨N, by omega, h2, h3⟩
      · rcases Nat.lt_or_ge (tpF s n (m + 1)) n with q | q
        · exact Or.inr fun k hk => by
            rcases (by omega : k ≤ m ∨ k = m + 1) with y | y
            · exact h k y
            · subst y; exact q
        · exact Or.inl ⟨m + 1, by omega, q, fun k hk => h k (by omega)⟩
  rcases this n with ⟨N, h1, h2, h3⟩ | h
  · exact ⟨N, h1, kdF_0.mpr h2, fun k hk q => by have := kdF_0.mp q; have := h3 k hk; omega⟩
  · have := far n (fun k hk => h k (by omega))
    have := h n (Nat.le_refl _)
    omega
end
