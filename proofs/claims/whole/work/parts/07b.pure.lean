/-! ===== plain functions: sums, the words of a loss ===== -/
def sumF (f : Nat → Int) : Nat → Int
  | 0 => 0
  | n + 1 => sumF f n + f n
theorem sumF_congr {f g : Nat → Int} {n : Nat} (h : ∀ k, k < n → f k = g k) : sumF f n = sumF g n := by
  induction n with
  | zero => rfl
  | succ n ih => rw [sumF, sumF, ih (fun k hk => h k (by omega)), h n (by omega)]
theorem sumF_add {f g : Nat → Int} {n : Nat} : sumF (fun k => f k + g k) n = sumF f n + sumF g n := by
  induction n with
  | zero => rfl
  | succ n ih => rw [sumF, sumF, sumF, ih]; omega
theorem sumF_zero {n : Nat} : sumF (fun _ => 0) n = 0 := by
  induction n with
  | zero => rfl
  | succ n ih => rw [sumF, ih]; rfl
theorem sumF_nonneg {f : Nat → Int} {n : Nat} (h : ∀ k, k < n → 0 ≤ f k) : 0 ≤ sumF f n := by
  induction n with
  | zero => exact Int.le_refl 0
  | succ n ih => have := ih (fun k hk => h k (by omega)); have := h n (by omega); rw [sumF]; omega
theorem sumF_le {f : Nat → Int} {n : Nat} {c : Int} (h : ∀ k, k < n → f k ≤ c) : sumF f n ≤ n * c := by
  induction n with
  | zero => simp [sumF]
  | succ n ih =>
    have h1 := ih (fun k hk => h k (by omega))
    have h2 := h n (by omega)
    rw [sumF, Int.natCast_add, Int.add_mul]
    simp only [Int.natCast_one, Int.one_mul]
    omega
theorem sumF_swap {f : Nat → Nat → Int} {n m : Nat} : sumF (fun i => sumF (fun j => f i j) m) n = sumF (fun j => sumF (fun i => f i j) n) m := by
  induction n with
  | zero => rw [sumF]; exact sumF_zero.symm
  | succ n ih =>
    rw [sumF, ih, ← sumF_add]
    exact sumF_congr fun j _ => rfl
theorem sumF_one {x : Int} {a n : Nat} (h : a < n) : sumF (fun k => if k = a then x else 0) n = x := by
  induction n with
  | zero => omega
  | succ n ih =>
    rw [sumF]
    by_cases ha : a = n
    · subst ha
      rw [if_pos rfl, sumF_congr (g := fun _ => 0) (fun k hk => if_neg (by omega)), sumF_zero]; omega
    · rw [ih (by omega), if_neg (by omega)]; omega
/-- the word of a loss ahead of the k-th word -/
def pvF (wo : Int → Int) (l : Int) : Nat → Int
  | 0 => -1
  | k + 1 => if wo k = l then k else pvF wo l k
/-- the amount of a loss by a day, of the first k words -/
def amF (wo wd wa : Int → Int) (l day : Int) : Nat → Int
  | 0 => -1
  | k + 1 => if wo k = l ∧ wd k ≤ day then wa k else amF wo wd wa l day k
theorem pvF_lt (wo : Int → Int) (l : Int) (k : Nat) : -1 ≤ pvF wo l k ∧ pvF wo l k < k := by
  induction k with
  | zero => have : pvF wo l 0 = -1 := rfl; omega
  | succ k ih => rw [pvF]; split <;> omega
theorem pvF_of (wo : Int → Int) (l : Int) (k : Nat) (h : pvF wo l k ≠ -1) : wo (pvF wo l k) = l := by
  induction k with
  | zero => exact absurd rfl h
  | succ k ih =>
    rw [pvF] at h ⊢
    split
    · assumption
    · rename_i hn; rw [if_neg hn] at h; exact ih h
theorem amF_pv (wo wd wa : Int → Int) (l day : Int) (k : Nat) : amF wo wd wa l day k = if pvF wo l k = -1 then -1 else if wd (pvF wo l k) ≤ day then wa (pvF wo l k) else amF wo wd wa l day (pvF wo l k).toNat := by
  induction k with
  | zero => rfl
  | succ k ih =>
    rw [amF, pvF]
    by_cases h : wo k = l
    · rw [if_pos h]
      have : ¬ (k : Int) = -1 := by omega
      rw [if_neg this]
      by_cases h2 : wd k ≤ day
      · rw [if_pos ⟨h, h2⟩, if_pos h2]
      · rw [if_neg (fun q => h2 q.2), if_neg h2]; rfl
    · rw [if_neg h, if_neg (fun q => h q.1)]; exact ih
theorem amF_congr {wo wd wa wo' wd' wa' : Int → Int} {l day : Int} {n : Nat} (h : ∀ k : Nat, k < n → wo k = wo' k ∧ wd k = wd' k ∧ wa k = wa' k) : amF wo wd wa l day n = amF wo' wd' wa' l day n := by
  induction n with
  | zero => rfl
  | succ n ih =>
    obtain ⟨h1, h2, h3⟩ := h n (by omega)
    rw [amF, amF, h1, h2, h3, ih (fun k hk => h k (by omega))]
theorem pvF_congr {wo wo' : Int → Int} {l : Int} {n : Nat} (h : ∀ k : Nat, k < n → wo k = wo' k) : pvF wo l n = pvF wo' l n := by
  induction n with
  | zero => rfl
  | succ n ih => rw [pvF, pvF, h n (by omega), ih (fun k hk => h k (by omega))]
theorem amF_in {wo wd wa : Int → Int} {l day m : Int} {n : Nat} (h : ∀ k : Nat, k < n → 0 ≤ wa k ∧ wa k ≤ m) (hm : 0 ≤ m) : -1 ≤ amF wo wd wa l day n ∧ amF wo wd wa l day n ≤ m := by
  induction n with
  | zero => have : amF wo wd wa l day 0 = -1 := rfl; omega
  | succ n ih =>
    rw [amF]
    split
    · have := h n (by omega); omega
    · exact ih (fun k hk => h k (by omega))
