/-! ===== the class's tape ===== -/
/-- the tape's own cells are made -/
def KnL (K : Nat → aKd) : Prop := ∀ r : Nat, Nat.blt r 5 = true → Nat.blt 1 r = true → K r = kK r
theorem KnL.at {K : Nat → aKd} (h : KnL K) {r : Nat} {v : aKd} (hr : (Nat.blt r 5 && Nat.blt 1 r) = true) (e : kK r = v) : K r = v := (h r (Bool.and_eq_true_iff.mp hr).1 (Bool.and_eq_true_iff.mp hr).2).trans e
theorem Kn.low {K : Nat → aKd} (h : Kn K) : KnL K := fun r hr _ => h r (by
  have : r < 5 := Nat.le_of_ble_eq_true hr
  exact Nat.ble_eq_true_of_le (by omega))
theorem dig_in {s : Int → Int} {i m : Nat} (h : ∀ k, k < m → isD (s ((i + k : Nat) : Int)) = true) (hm : m ≤ 6) : 0 ≤ pkF 10 48 s i m ∧ pkF 10 48 s i m ≤ 999999 ∧ (m ≤ 5 → pkF 10 48 s i m ≤ 99999) := by
  have d : ∀ k, k < m → 48 ≤ s ((i + k : Nat) : Int) ∧ s ((i + k : Nat) : Int) ≤ 57 := fun k hk => of_decide_eq_true (h k hk)
  have up : ∀ k, k ≤ m → 0 ≤ pkF 10 48 s i k ∧ (k = 0 → pkF 10 48 s i k = 0) := by
    intro k
    induction k with
    | zero => intro _; exact ⟨Int.le_refl 0, fun _ => rfl⟩
    | succ k ih => intro hk; have := ih (by omega); have := d k (by omega); rw [pkF]; exact ⟨by omega, fun q => by omega⟩
  have lim : ∀ k, k ≤ m → pkF 10 48 s i k ≤ ([0, 9, 99, 999, 9999, 99999, 999999] : List Int).getD k 0 := by
    intro k
    induction k with
    | zero => intro _; exact Int.le_refl 0
    | succ k ih =>
      intro hk
      have h1 := ih (by omega)
      have := d k (by omega)
      rw [pkF]
      match k, h1 with
      | 0, h1 => simp only [List.getD_cons_zero, List.getD_cons_succ] at h1 ⊢; omega
      | 1, h1 => simp only [List.getD_cons_zero, List.getD_cons_succ] at h1 ⊢; omega
      | 2, h1 => simp only [List.getD_cons_zero, List.getD_cons_succ] at h1 ⊢; omega
      | 3, h1 => simp only [List.getD_cons_zero, List.getD_cons_succ] at h1 ⊢; omega
      | 4, h1 => simp only [List.getD_cons_zero, List.getD_cons_succ] at h1 ⊢; omega
      | 5, h1 => simp only [List.getD_cons_zero, List.getD_cons_succ] at h1 ⊢; omega
      | k + 6, h1 => omega
  have h0 := (up m (Nat.le_refl _)).1
  have h1 := lim m (Nat.le_refl _)
  match m, hm, h1 with
  | 0, _, h1 => simp only [List.getD_cons_zero, List.getD_cons_succ] at h1; exact ⟨h0, by omega, fun _ => by omega⟩
  | 1, _, h1 => simp only [List.getD_cons_zero, List.getD_cons_succ] at h1; exact ⟨h0, by omega, fun _ => by omega⟩
  | 2, _, h1 => simp only [List.getD_cons_zero, List.getD_cons_succ] at h1; exact ⟨h0, by omega, fun _ => by omega⟩
  | 3, _, h1 => simp only [List.getD_cons_zero, List.getD_cons_succ] at h1; exact ⟨h0, by omega, fun _ => by omega⟩
  | 4, _, h1 => simp only [List.getD_cons_zero, List.getD_cons_succ] at h1; exact ⟨h0, by omega, fun _ => by omega⟩
  | 5, _, h1 => simp only [List.getD_cons_zero, List.getD_cons_succ] at h1; exact ⟨h0, by omega, fun _ => by omega⟩
  | 6, _, h1 => simp only [List.getD_cons_zero, List.getD_cons_succ] at h1; exact ⟨h0, by omega, fun q => by omega⟩
  | m + 7, hm, _ => omega
theorem let_in {B : Int} {s : Int → Int} {i m : Nat} (hB : 27 ≤ B ∧ B ≤ 37) (h : ∀ k, k < m → isL (s ((i + k : Nat) : Int)) = true) : m ≤ 8 → 0 ≤ pkF B 96 s i m ∧ pkF B 96 s i m ≤ 4000000000000 ∧ (m ≤ 7 → pkF B 96 s i m ≤ 100000000000) := by
  have step : ∀ (x c lim : Int), 0 ≤ x → x ≤ lim → 97 ≤ c → c ≤ 122 → B * x + (c - 96) ≤ 37 * lim + 26 := fun x c lim h1 h2 h3 h4 => by
    have := Int.mul_le_mul hB.2 h2 h1 (by omega)
    omega
  have d : ∀ k, k < m → 97 ≤ s ((i + k : Nat) : Int) ∧ s ((i + k : Nat) : Int) ≤ 122 := fun k hk => of_decide_eq_true (h k hk)
  have lim : ∀ k, k ≤ m → k ≤ 8 → pkF B 96 s i k ≤ ([0, 26, 988, 36582, 1353560, 50081746, 1853024628, 68561911262, 2536790716720] : List Int).getD k 0 := by
    intro k
    induction k with
    | zero => intro _ _; exact Int.le_refl 0
    | succ k ih =>
      intro hk h8
      have h1 := ih (by omega) (by omega)
      have := d k (by omega)
      have h0 := (pkF_pos (B := B) (s := s) (i := i) (m := k) (by omega) (fun j hj => h j (by omega))).1
      rw [pkF]
      match k, h1, h0 with
      | 0, h1, h0 => exact Int.le_trans (step _ _ _ h0 h1 this.1 this.2) (by decide)
      | 1, h1, h0 => exact Int.le_trans (step _ _ _ h0 h1 this.1 this.2) (by decide)
      | 2, h1, h0 => exact Int.le_trans (step _ _ _ h0 h1 this.1 this.2) (by decide)
      | 3, h1, h0 => exact Int.le_trans (step _ _ _ h0 h1 this.1 this.2) (by decide)
      | 4, h1, h0 => exact Int.le_trans (step _ _ _ h0 h1 this.1 this.2) (by decide)
      | 5, h1, h0 => exact Int.le_trans (step _ _ _ h0 h1 this.1 this.2) (by decide)
      | 6, h1, h0 => exact Int.le_trans (step _ _ _ h0 h1 this.1 this.2) (by decide)
      | 7, h1, h0 => exact Int.le_trans (step _ _ _ h0 h1 this.1 this.2) (by decide)
      | k + 8, h1, h0 => omega
  intro hm
  have h0 := (pkF_pos (B := B) (s := s) (i := i) (m := m) (by omega) h).1
  have h1 := lim m (Nat.le_refl _) hm
  have mono : ∀ k : Nat, k ≤ 8 → (([0, 26, 988, 36582, 1353560, 50081746, 1853024628, 68561911262, 2536790716720] : List Int).getD k 0 ≤ 4000000000000 ∧ (k ≤ 7 → ([0, 26, 988, 36582, 1353560, 50081746, 1853024628, 68561911262, 2536790716720] : List Int).getD k 0 ≤ 100000000000)) := by decide
  obtain ⟨m1, m2⟩ := mono m hm
  exact ⟨h0, Int.le_trans h1 m1, fun q => Int.le_trans h1 (m2 q)⟩
theorem kwF_stay {ws : Int → Int} {x : Int} {i : Nat} (h : kwF ws x i ≠ 3) : ∀ m, kwF ws x (i + m) = kwF ws x i := by
  intro m
  induction m with
  | zero => rfl
  | succ m ih => rw [← Nat.add_assoc, kwF, ih, if_neg h]
section
variable {G : aCX} {l : Launch} {d : Nat} {K : Nat → aKd} {D : Nat → Int → Int} {z : Nat × Nat} {P : Int → aSt → Prop}
theorem v_takeNumber {n p : Nat} (hk : KnL K) (hn : D 2 3 = n) (h15 : n ≤ 1500) (hp : p ≤ n) (h2 : D 2 2 = p) (h5 : D 2 5 = p) (kk : ∀ D' : Nat → Int → Int, (∀ r, r ≠ 2 → D' r = D r) → D' 2 3 = D 2 3 → D' 2 5 = p → D' 2 2 = (runE isD (D 3) n p : Nat) → D' 2 4 = (if 6 < runE isD (D 3) n p - p then 1 else 2) → (runE isD (D 3) n p - p ≤ 6 → D' 2 6 = pkF 10 48 (D 3) p (runE isD (D 3) n p - p)) → P 0 (K, D', z)) : VM G l d iX7_takeNumber [rf 2] (K, D, z) P := by
  have loop : ∀ (m i : Nat) (D1 : Nat → Int → Int), i + m = n → p ≤ i → (∀ r, r ≠ 2 → D1 r = D r) → D1 2 3 = n → D1 2 5 = p → D1 2 2 = i → runE isD (D 3) n i = runE isD (D 3) n p → (∀ k, p ≤ k → k < i → isD (D 3 k) = true) → (i - p ≤ 6 → D1 2 6 = pkF 10 48 (D 3) p (i - p)) → V G l d iX7_takeNumber 5 [rf 2] [] (K, D1, z) P := by
    intro m
    have fin : ∀ (i : Nat) (D1 : Nat → Int → Int), i ≤ n → p ≤ i → (∀ r, r ≠ 2 → D1 r = D r) → D1 2 3 = n → D1 2 5 = p → D1 2 2 = i → runE isD (D 3) n p = i → (i - p ≤ 6 → D1 2 6 = pkF 10 48 (D 3) p (i - p)) → V G l d iX7_takeNumber 81 [rf 2] [] (K, D1, z) P := by
      intro i D1 hin hpi f q3 q5 q2 he h6
      have last : ∀ x : Int, x = (if 6 < i - p then 1 else 2) → V G l d iX7_takeNumber 101 [rf 2] [(0, x), rf 2] (K, D1, z) P := by
        intro x hx
        refine s_pi rfl (hk.at rfl rfl) rfl ?_
        refine s_retv rfl rfl ?_
        refine kk _ (fun r hr => by rw [aUp_row hr]; exact f r hr) ?_ ?_ ?_ ?_ ?_
        · rw [aUp_ne (by decide), q3, hn]
        · rw [aUp_ne (by decide), q5]
        · rw [aUp_ne (by decide), q2, he]
        · rw [aUp_at, he]; exact hx
        · rw [he, aUp_ne (by decide)]; exact h6
      refine s_al0 rfl ?_
      refine s_al0 rfl ?_
      refine s_gi rfl (hk.at rfl rfl) rfl ?_
      try simp only [aUp_app, Nat.reduceEqDiff, Int.reduceEq, eq_self, true_and, false_and, and_false, and_true, if_true, if_false, ↓reduceIte]
      rw [q2]
      refine s_al0 rfl ?_
      refine s_gi rfl (hk.at rfl rfl) rfl ?_
      try simp only [aUp_app, Nat.reduceEqDiff, Int.reduceEq, eq_self, true_and, false_and, and_false, and_true, if_true, if_false, ↓reduceIte]
      rw [q5]
      refine s_isub rfl ⟨by omega, by omega⟩ ?_
      refine s_ic rfl ?_
      refine s_cle rfl ?_ ?_
      · intro h93
        refine s_ic rfl ?_
        exact last _ (by rw [if_neg (by omega)])
      · intro h93
        refine s_ic rfl ?_
        refine s_go rfl ?_
        exact last _ (by rw [if_pos (by omega)])
    induction m with
    | zero =>
      intro i D1 him hpi f q3 q5 q2 he hd h6
      have e3 : D1 3 = D 3 := f 3 (by decide)
      refine s_al0 rfl ?_
      refine s_gi rfl (hk.at rfl rfl) rfl ?_
      try simp only [aUp_app, Nat.reduceEqDiff, Int.reduceEq, eq_self, true_and, false_and, and_false, and_true, if_true, if_false, ↓reduceIte]
      rw [q2]
      refine s_al0 rfl ?_
      refine s_gi rfl (hk.at rfl rfl) rfl ?_
      try simp only [aUp_app, Nat.reduceEqDiff, Int.reduceEq, eq_self, true_and, false_and, and_false, and_true, if_true, if_false, ↓reduceIte]
      rw [q3]
      refine s_cge rfl ?_ ?_
      · intro h13
        exact fin i D1 (by omega) hpi f q3 q5 q2 (by rw [← he, runE_out (Or.inl (by omega))]) h6
      · intro h13
        omega
    | succ m ih =>
      intro i D1 him hpi f q3 q5 q2 he hd h6
      have e3 : D1 3 = D 3 := f 3 (by decide)
      refine s_al0 rfl ?_
      refine s_gi rfl (hk.at rfl rfl) rfl ?_
      try simp only [aUp_app, Nat.reduceEqDiff, Int.reduceEq, eq_self, true_and, false_and, and_false, and_true, if_true, if_false, ↓reduceIte]
      rw [q2]
      refine s_al0 rfl ?_
      refine s_gi rfl (hk.at rfl rfl) rfl ?_
      try simp only [aUp_app, Nat.reduceEqDiff, Int.reduceEq, eq_self, true_and, false_and, and_false, and_true, if_true, if_false, ↓reduceIte]
      rw [q3]
      refine s_cge rfl ?_ ?_
      · intro h13
        omega
      · intro h13
        refine s_al0 rfl ?_
        refine s_gf rfl (hk.at rfl rfl) rfl rfl ?_
        refine s_al0 rfl ?_
        refine s_gi rfl (hk.at rfl rfl) rfl ?_
        try simp only [aUp_app, Nat.reduceEqDiff, Int.reduceEq, eq_self, true_and, false_and, and_false, and_true, if_true, if_false, ↓reduceIte]
        rw [q2]
        refine s_cald rfl (hk.at rfl rfl) (by omega) ?_
        try simp only [aUp_app, Nat.reduceEqDiff, Int.reduceEq, eq_self, true_and, false_and, and_false, and_true, if_true, if_false, ↓reduceIte]
        rw [e3]
        refine s_ic rfl ?_
        refine s_clt rfl ?_ ?_
        · intro h27
          exact fin i D1 (by omega) hpi f q3 q5 q2 (by rw [← he, runE_out (Or.inr (fun y => by have := of_decide_eq_true y; omega))]) h6
        · intro h27
          refine s_al0 rfl ?_
          refine s_gf rfl (hk.at rfl rfl) rfl rfl ?_
          refine s_al0 rfl ?_
          refine s_gi rfl (hk.at rfl rfl) rfl ?_
          try simp only [aUp_app, Nat.reduceEqDiff, Int.reduceEq, eq_self, true_and, false_and, and_false, and_true, if_true, if_false, ↓reduceIte]
          rw [q2]
          refine s_cald rfl (hk.at rfl rfl) (by omega) ?_
          try simp only [aUp_app, Nat.reduceEqDiff, Int.reduceEq, eq_self, true_and, false_and, and_false, and_true, if_true, if_false, ↓reduceIte]
          rw [e3]
          refine s_ic rfl ?_
          refine s_cgt rfl ?_ ?_
          · intro h41
            exact fin i D1 (by omega) hpi f q3 q5 q2 (by rw [← he, runE_out (Or.inr (fun y => by have := of_decide_eq_true y; omega))]) h6
          · intro h41
            refine s_al0 rfl ?_
            refine s_al0 rfl ?_
            refine s_gi rfl (hk.at rfl rfl) rfl ?_
            refine s_ic rfl ?_
            refine s_imulW rfl ?_
            refine s_al0 rfl ?_
            refine s_gf rfl (hk.at rfl rfl) rfl rfl ?_
            refine s_al0 rfl ?_
            refine s_gi rfl (hk.at rfl rfl) rfl ?_
            try simp only [aUp_app, Nat.reduceEqDiff, Int.reduceEq, eq_self, true_and, false_and, and_false, and_true, if_true, if_false, ↓reduceIte]
            rw [q2]
            refine s_cald rfl (hk.at rfl rfl) (by omega) ?_
            try simp only [aUp_app, Nat.reduceEqDiff, Int.reduceEq, eq_self, true_and, false_and, and_false, and_true, if_true, if_false, ↓reduceIte]
            rw [e3]
            refine s_ic rfl ?_
            refine s_isub rfl ⟨by omega, by omega⟩ ?_
            refine s_iaddW rfl ?_
            refine s_pi rfl (hk.at rfl rfl) rfl ?_
            refine s_al0 rfl ?_
            refine s_dup rfl (by decide) ?_
            refine s_gi rfl (hk.at rfl rfl) rfl ?_
            try simp only [aUp_app, Nat.reduceEqDiff, Int.reduceEq, eq_self, true_and, false_and, and_false, and_true, if_true, if_false, ↓reduceIte]
            rw [q2]
            refine s_ic rfl ?_
            refine s_iadd rfl ⟨by omega, by omega⟩ ?_
            refine s_pi rfl (hk.at rfl rfl) rfl ?_
            refine s_go rfl ?_
            have dg : isD (D 3 i) = true := decide_eq_true ⟨by omega, by omega⟩
            refine ih (i + 1) _ (by omega) (by omega) (fun r hr => by rw [aUp_row hr, aUp_row hr]; exact f r hr) (by rw [aUp_ne (by decide), aUp_ne (by decide)]; exact q3) (by rw [aUp_ne (by decide), aUp_ne (by decide)]; exact q5) (by rw [aUp_at]; omega) (by rw [← he, runE_in (by omega) dg]) (fun k k1 k2 => ?_) (fun y => ?_)
            · rcases (by omega : k < i ∨ k = i) with y | y
              · exact hd k k1 y
              · subst y; exact dg
            · rw [aUp_ne (by decide), aUp_at, h6 (by omega), show i + 1 - p = (i - p) + 1 by omega, pkF, show p + (i - p) = i by omega]
              have b := dig_in (s := D 3) (i := p) (m := i - p) (fun k hk => hd (p + k) (by omega) (by omega)) (by omega)
              have b5 := b.2.2 (by omega)
              rw [wr_id (x := pkF 10 48 (D 3) p (i - p) * 10) ⟨by omega, by omega⟩, wr_id ⟨by omega, by omega⟩]
              omega
  refine VM_go (tg2 rfl) (Nat.le_of_ble_eq_true rfl) ?_
  refine s_al0 rfl ?_
  refine s_ic rfl ?_
  refine s_pi rfl (hk.at rfl rfl) rfl ?_
  refine loop (n - p) p _ (by omega) (Nat.le_refl _) (fun r hr => aUp_row hr) ?_ ?_ ?_ rfl (fun k k1 k2 => by omega) (fun _ => ?_)
  · rw [aUp_ne (by decide), hn]
  · rw [aUp_ne (by decide), h5]
  · rw [aUp_ne (by decide), h2]
  · rw [aUp_at, Nat.sub_self]; rfl
theorem v_takeWord {n p : Nat} (hk : KnL K) (hn : D 2 3 = n) (h15 : n ≤ 1500) (hp : p ≤ n) (h2 : D 2 2 = p) (h5 : D 2 5 = p) (kk : ∀ D' : Nat → Int → Int, (∀ r, r ≠ 2 → D' r = D r) → D' 2 3 = D 2 3 → D' 2 5 = p → D' 2 2 = (runE isL (D 3) n p : Nat) → D' 2 4 = (if 8 < runE isL (D 3) n p - p then 1 else kwF (D 4) (pkF 32 96 (D 3) p (runE isL (D 3) n p - p)) 21) → (runE isL (D 3) n p - p ≤ 8 → D' 2 7 = pkF 32 96 (D 3) p (runE isL (D 3) n p - p)) → P 0 (K, D', z)) : VM G l d iX7_takeWord [rf 2] (K, D, z) P := by
  have kws : ∀ (m i : Nat) (D1 : Nat → Int → Int) (x : Int), i + m = 21 → (∀ r, r ≠ 2 → D1 r = D r) → D1 2 3 = n → D1 2 5 = p → D1 2 2 = (runE isL (D 3) n p : Nat) → D1 2 7 = x → (runE isL (D 3) n p - p ≤ 8 → x = pkF 32 96 (D 3) p (runE isL (D 3) n p - p)) → D1 2 4 = (if 8 < runE isL (D 3) n p - p then 1 else kwF (D 4) x i) → V G l d iX7_takeWord 110 [rf 2, (0, (i : Int))] [] (K, D1, z) P := by
    intro m
    have fin : ∀ (i j : Nat) (D1 : Nat → Int → Int) (x : Int), i ≤ 21 → (∀ r, r ≠ 2 → D1 r = D r) → D1 2 3 = n → D1 2 5 = p → D1 2 2 = (runE isL (D 3) n p : Nat) → D1 2 7 = x → (runE isL (D 3) n p - p ≤ 8 → x = pkF 32 96 (D 3) p (runE isL (D 3) n p - p)) → D1 2 4 = (if 8 < runE isL (D 3) n p - p then 1 else kwF (D 4) x i) → (8 < runE isL (D 3) n p - p ∨ kwF (D 4) x 21 = kwF (D 4) x i) → V G l d iX7_takeWord 152 [rf 2, (0, (j : Int))] [] (K, D1, z) P := by
      intro i j D1 x hi f q3 q5 q2 q7 hx q4 hs
      refine s_retv rfl rfl ?_
      refine kk D1 f (by rw [q3, hn]) q5 q2 ?_ (fun y => by rw [q7]; exact hx y)
      rw [q4]
      by_cases y : 8 < runE isL (D 3) n p - p
      · rw [if_pos y, if_pos y]
      · rw [if_neg y, if_neg y, ← hx (by omega)]
        rcases hs with hs | hs
        · exact absurd hs y
        · exact hs.symm
    induction m with
    | zero =>
      intro i D1 x him f q3 q5 q2 q7 hx q4
      refine s_il1 rfl ?_
      refine s_ic rfl ?_
      refine s_cge rfl ?_ ?_
      · intro h113
        exact fin i i D1 x (by omega) f q3 q5 q2 q7 hx q4 (Or.inr (by rw [show i = 21 by omega]))
      · intro h113
        omega
    | succ m ih =>
      intro i D1 x him f q3 q5 q2 q7 hx q4
      have e4 : D1 4 = D 4 := f 4 (by decide)
      refine s_il1 rfl ?_
      refine s_ic rfl ?_
      refine s_cge rfl ?_ ?_
      · intro h113
        omega
      · intro h113
        refine s_al0 rfl ?_
        refine s_gi rfl (hk.at rfl rfl) rfl ?_
        rw [q4]
        refine s_ic rfl ?_
        refine s_cne rfl ?_ ?_
        · intro h121
          refine fin i i D1 x (by omega) f q3 q5 q2 q7 hx q4 ?_
          by_cases y : 8 < runE isL (D 3) n p - p
          · exact Or.inl y
          · rw [if_neg y] at h121
            exact Or.inr (by have := kwF_stay h121 (21 - i); rw [show i + (21 - i) = 21 by omega] at this; exact this)
        · intro h121
          have n8 : ¬ 8 < runE isL (D 3) n p - p := fun y => by rw [if_pos y] at h121; omega
          rw [if_neg n8] at h121
          refine s_al0 rfl ?_
          refine s_gf rfl (hk.at rfl rfl) rfl rfl ?_
          refine s_il1 rfl ?_
          refine s_lald rfl (hk.at rfl rfl) (by omega) ?_
          rw [e4]
          refine s_al0 rfl ?_
          refine s_gl rfl (hk.at rfl rfl) rfl ?_
          rw [q7]
          refine s_lcmp rfl ?_
          refine s_zne rfl ?_ ?_
          · intro h135
            have ne := fun y => h135 (cmp3_eq.mpr y)
            refine s_iinc1 rfl rfl ⟨by omega, by omega⟩ ?_
            refine s_go rfl ?_
            first
            | (refine ih (i + 1) _ x (by omega) (fun r hr => by rw [aUp_row hr]; exact f r hr) (by rw [aUp_ne (by decide)]; exact q3) (by rw [aUp_ne (by decide)]; exact q5) (by rw [aUp_ne (by decide)]; exact q2) (by rw [aUp_ne (by decide)]; exact q7) hx ?_
               rw [aUp_at, if_neg n8, kwF, if_pos h121, if_pos ye])
            | (refine ih (i + 1) D1 x (by omega) f q3 q5 q2 q7 hx ?_
               rw [q4, if_neg n8, if_neg n8, kwF, if_pos h121, if_neg ne, h121])
          · intro h135
            have ye := cmp3_eq.mp h135
            refine s_al0 rfl ?_
            refine s_ic rfl ?_
            refine s_il1 rfl ?_
            refine s_iadd rfl ⟨by omega, by omega⟩ ?_
            refine s_pi rfl (hk.at rfl rfl) rfl ?_
            refine s_iinc1 rfl rfl ⟨by omega, by omega⟩ ?_
            refine s_go rfl ?_
            first
            | (refine ih (i + 1) _ x (by omega) (fun r hr => by rw [aUp_row hr]; exact f r hr) (by rw [aUp_ne (by decide)]; exact q3) (by rw [aUp_ne (by decide)]; exact q5) (by rw [aUp_ne (by decide)]; exact q2) (by rw [aUp_ne (by decide)]; exact q7) hx ?_
               rw [aUp_at, if_neg n8, kwF, if_pos h121, if_pos ye])
            | (refine ih (i + 1) D1 x (by omega) f q3 q5 q2 q7 hx ?_
               rw [q4, if_neg n8, if_neg n8, kwF, if_pos h121, if_neg ne, h121])
  have loop : ∀ (m i : Nat) (D1 : Nat → Int → Int), i + m = n → p ≤ i → (∀ r, r ≠ 2 → D1 r = D r) → D1 2 3 = n → D1 2 5 = p → D1 2 2 = i → runE isL (D 3) n i = runE isL (D 3) n p → (∀ k, p ≤ k → k < i → isL (D 3 k) = true) → (i - p ≤ 8 → D1 2 7 = pkF 32 96 (D 3) p (i - p)) → V G l d iX7_takeWord 5 [rf 2, (9, 0)] [] (K, D1, z) P := by
    intro m
    have fin : ∀ (i : Nat) (D1 : Nat → Int → Int), i ≤ n → p ≤ i → (∀ r, r ≠ 2 → D1 r = D r) → D1 2 3 = n → D1 2 5 = p → D1 2 2 = i → runE isL (D 3) n p = i → (i - p ≤ 8 → D1 2 7 = pkF 32 96 (D 3) p (i - p)) → V G l d iX7_takeWord 85 [rf 2, (9, 0)] [] (K, D1, z) P := by
      intro i D1 hin hpi f q3 q5 q2 he h6
      have last : ∀ x : Int, x = (if 8 < i - p then 1 else 3) → V G l d iX7_takeWord 105 [rf 2, (9, 0)] [(0, x), rf 2] (K, D1, z) P := by
        intro x hx
        refine s_pi rfl (hk.at rfl rfl) rfl ?_
        refine s_ic rfl ?_
        refine s_is1 rfl rfl ?_
        refine kws 21 0 _ (D1 2 7) (by omega) (fun r hr => by rw [aUp_row hr]; exact f r hr) (by rw [aUp_ne (by decide)]; exact q3) (by rw [aUp_ne (by decide)]; exact q5) (by rw [aUp_ne (by decide), q2, he]) (by rw [aUp_ne (by decide)]) (by rw [he]; exact h6) ?_
        rw [aUp_at, he]; exact hx
      refine s_al0 rfl ?_
      refine s_al0 rfl ?_
      refine s_gi rfl (hk.at rfl rfl) rfl ?_
      try simp only [aUp_app, Nat.reduceEqDiff, Int.reduceEq, eq_self, true_and, false_and, and_false, and_true, if_true, if_false, ↓reduceIte]
      rw [q2]
      refine s_al0 rfl ?_
      refine s_gi rfl (hk.at rfl rfl) rfl ?_
      try simp only [aUp_app, Nat.reduceEqDiff, Int.reduceEq, eq_self, true_and, false_and, and_false, and_true, if_true, if_false, ↓reduceIte]
      rw [q5]
      refine s_isub rfl ⟨by omega, by omega⟩ ?_
      refine s_ic rfl ?_
      refine s_cle rfl ?_ ?_
      · intro h97
        refine s_ic rfl ?_
        exact last _ (by rw [if_neg (by omega)])
      · intro h97
        refine s_ic rfl ?_
        refine s_go rfl ?_
        exact last _ (by rw [if_pos (by omega)])
    induction m with
    | zero =>
      intro i D1 him hpi f q3 q5 q2 he hd h6
      have e3 : D1 3 = D 3 := f 3 (by decide)
      refine s_al0 rfl ?_
      refine s_gi rfl (hk.at rfl rfl) rfl ?_
      try simp only [aUp_app, Nat.reduceEqDiff, Int.reduceEq, eq_self, true_and, false_and, and_false, and_true, if_true, if_false, ↓reduceIte]
      rw [q2]
      refine s_al0 rfl ?_
      refine s_gi rfl (hk.at rfl rfl) rfl ?_
      try simp only [aUp_app, Nat.reduceEqDiff, Int.reduceEq, eq_self, true_and, false_and, and_false, and_true, if_true, if_false, ↓reduceIte]
      rw [q3]
      refine s_cge rfl ?_ ?_
      · intro h13
        exact fin i D1 (by omega) hpi f q3 q5 q2 (by rw [← he, runE_out (Or.inl (by omega))]) h6
      · intro h13
        omega
    | succ m ih =>
      intro i D1 him hpi f q3 q5 q2 he hd h6
      have e3 : D1 3 = D 3 := f 3 (by decide)
      refine s_al0 rfl ?_
      refine s_gi rfl (hk.at rfl rfl) rfl ?_
      try simp only [aUp_app, Nat.reduceEqDiff, Int.reduceEq, eq_self, true_and, false_and, and_false, and_true, if_true, if_false, ↓reduceIte]
      rw [q2]
      refine s_al0 rfl ?_
      refine s_gi rfl (hk.at rfl rfl) rfl ?_
      try simp only [aUp_app, Nat.reduceEqDiff, Int.reduceEq, eq_self, true_and, false_and, and_false, and_true, if_true, if_false, ↓reduceIte]
      rw [q3]
      refine s_cge rfl ?_ ?_
      · intro h13
        omega
      · intro h13
        refine s_al0 rfl ?_
        refine s_gf rfl (hk.at rfl rfl) rfl rfl ?_
        refine s_al0 rfl ?_
        refine s_gi rfl (hk.at rfl rfl) rfl ?_
        try simp only [aUp_app, Nat.reduceEqDiff, Int.reduceEq, eq_self, true_and, false_and, and_false, and_true, if_true, if_false, ↓reduceIte]
        rw [q2]
        refine s_cald rfl (hk.at rfl rfl) (by omega) ?_
        try simp only [aUp_app, Nat.reduceEqDiff, Int.reduceEq, eq_self, true_and, false_and, and_false, and_true, if_true, if_false, ↓reduceIte]
        rw [e3]
        refine s_ic rfl ?_
        refine s_clt rfl ?_ ?_
        · intro h27
          exact fin i D1 (by omega) hpi f q3 q5 q2 (by rw [← he, runE_out (Or.inr (fun y => by have := of_decide_eq_true y; omega))]) h6
        · intro h27
          refine s_al0 rfl ?_
          refine s_gf rfl (hk.at rfl rfl) rfl rfl ?_
          refine s_al0 rfl ?_
          refine s_gi rfl (hk.at rfl rfl) rfl ?_
          try simp only [aUp_app, Nat.reduceEqDiff, Int.reduceEq, eq_self, true_and, false_and, and_false, and_true, if_true, if_false, ↓reduceIte]
          rw [q2]
          refine s_cald rfl (hk.at rfl rfl) (by omega) ?_
          try simp only [aUp_app, Nat.reduceEqDiff, Int.reduceEq, eq_self, true_and, false_and, and_false, and_true, if_true, if_false, ↓reduceIte]
          rw [e3]
          refine s_ic rfl ?_
          refine s_cgt rfl ?_ ?_
          · intro h41
            exact fin i D1 (by omega) hpi f q3 q5 q2 (by rw [← he, runE_out (Or.inr (fun y => by have := of_decide_eq_true y; omega))]) h6
          · intro h41
            refine s_al0 rfl ?_
            refine s_al0 rfl ?_
            refine s_gl rfl (hk.at rfl rfl) rfl ?_
            refine s_lc rfl ?_
            refine s_lmulW rfl ?_
            refine s_al0 rfl ?_
            refine s_gf rfl (hk.at rfl rfl) rfl rfl ?_
            refine s_al0 rfl ?_
            refine s_gi rfl (hk.at rfl rfl) rfl ?_
            try simp only [aUp_app, Nat.reduceEqDiff, Int.reduceEq, eq_self, true_and, false_and, and_false, and_true, if_true, if_false, ↓reduceIte]
            rw [q2]
            refine s_cald rfl (hk.at rfl rfl) (by omega) ?_
            try simp only [aUp_app, Nat.reduceEqDiff, Int.reduceEq, eq_self, true_and, false_and, and_false, and_true, if_true, if_false, ↓reduceIte]
            rw [e3]
            refine s_ic rfl ?_
            refine s_isub rfl ⟨by omega, by omega⟩ ?_
            refine s_ic rfl ?_
            refine s_iadd rfl ⟨by omega, by omega⟩ ?_
            refine s_i2l rfl ?_
            refine s_laddW rfl ?_
            refine s_pl rfl (hk.at rfl rfl) rfl ?_
            refine s_al0 rfl ?_
            refine s_dup rfl (by decide) ?_
            refine s_gi rfl (hk.at rfl rfl) rfl ?_
            try simp only [aUp_app, Nat.reduceEqDiff, Int.reduceEq, eq_self, true_and, false_and, and_false, and_true, if_true, if_false, ↓reduceIte]
            rw [q2]
            refine s_ic rfl ?_
            refine s_iadd rfl ⟨by omega, by omega⟩ ?_
            refine s_pi rfl (hk.at rfl rfl) rfl ?_
            refine s_go rfl ?_
            have dg : isL (D 3 i) = true := decide_eq_true ⟨by omega, by omega⟩
            refine ih (i + 1) _ (by omega) (by omega) (fun r hr => by rw [aUp_row hr, aUp_row hr]; exact f r hr) (by rw [aUp_ne (by decide), aUp_ne (by decide)]; exact q3) (by rw [aUp_ne (by decide), aUp_ne (by decide)]; exact q5) (by rw [aUp_at]; omega) (by rw [← he, runE_in (by omega) dg]) (fun k k1 k2 => ?_) (fun y => ?_)
            · rcases (by omega : k < i ∨ k = i) with y | y
              · exact hd k k1 y
              · subst y; exact dg
            · rw [aUp_ne (by decide), aUp_at, h6 (by omega), show i + 1 - p = (i - p) + 1 by omega, pkF, show p + (i - p) = i by omega]
              have b := let_in (B := 32) (s := D 3) (i := p) (m := i - p) (by decide) (fun k hk => hd (p + k) (by omega) (by omega)) (by omega)
              have b5 := b.2.2 (by omega)
              rw [wl_id (x := pkF 32 96 (D 3) p (i - p) * 32) ⟨by omega, by omega⟩, wl_id ⟨by omega, by omega⟩]
              omega
  refine VM_go (tg2 rfl) (Nat.le_of_ble_eq_true rfl) ?_
  refine s_al0 rfl ?_
  refine s_lc rfl ?_
  refine s_pl rfl (hk.at rfl rfl) rfl ?_
  refine loop (n - p) p _ (by omega) (Nat.le_refl _) (fun r hr => aUp_row hr) ?_ ?_ ?_ rfl (fun k k1 k2 => by omega) (fun _ => ?_)
  · rw [aUp_ne (by decide), hn]
  · rw [aUp_ne (by decide), h5]
  · rw [aUp_ne (by decide), h2]
  · rw [aUp_at, Nat.sub_self]; rfl
end
