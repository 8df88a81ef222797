/-! ===== forgetSolved, commutedBy, addLoss: the class ===== -/
def cmN (c : Nat → Bool) : Nat → Int := sumF (fun t => if c t = true then 1 else 0)
theorem cmN_in {c : Nat → Bool} {n : Nat} : 0 ≤ cmN c n ∧ cmN c n ≤ n := by
  have h1 := sumF_nonneg (f := fun t => if c t = true then 1 else 0) (n := n) (fun h _ => by split <;> omega)
  have h2 := sumF_le (f := fun t => if c t = true then 1 else 0) (n := n) (c := 1) (fun h _ => by split <;> omega)
  unfold cmN
  omega
def AlD (D : Nat → Int → Int) (h hr pl ca st : Int) (D' : Nat → Int → Int) : Prop := (∀ r, (r < 89 ∨ 97 < r) → D' r = D r) ∧ D' 89 = uF (D 89) 0 (D 89 0 + 1) ∧ D' 90 = uF (D 90) (D 89 0) h ∧ D' 91 = uF (D 91) (D 89 0) hr ∧ D' 92 = uF (D 92) (D 89 0) pl ∧ D' 93 = uF (D 93) (D 89 0) ca ∧ D' 94 = uF (D 94) (D 89 0) st ∧ D' 95 = uF (D 95) (D 89 0) 0 ∧ D' 97 = uF (D 97) (D 89 0) (-1)
section
variable {G : aCX} {l : Launch} {d : Nat} {K : Nat → aKd} {D : Nat → Int → Int} {z : Nat × Nat} {P : Int → aSt → Prop}
theorem v_forgetSolved {s0 m : Nat} (hk : Kn K) (hS : SlI s0 m K D z) (kk : ∀ D', (∀ r, r < 279 → D' r = D r) → (∀ i : Nat, i < m → D' (279 + 10 * i) 0 = 0) → P 0 (K, D', z)) : VM G l d iX5_forgetSolved [rf 101] (K, D, z) P := by
  obtain ⟨h60, hz, hs0, h1, h2⟩ := hS
  have loop : ∀ (k n : Nat) (D1 : Nat → Int → Int) (u : aTV), n + k = 60 → (∀ r, r < 279 → D1 r = D r) → (∀ i : Nat, i < m → i < n → D1 (279 + 10 * i) 0 = 0) → V G l d iX5_forgetSolved 2 [rf 101, (0, (n : Int)), u] [] (K, D1, z) P := by
    intro k
    induction k with
    | zero =>
      intro n D1 u hn g1 g2
      have hn2 : n = 60 := by omega
      subst hn2
      refine s_il1 rfl ?_
      refine s_ic rfl ?_
      refine s_cge rfl ?_ ?_
      · intro h5
        refine s_retv rfl rfl ?_
        exact kk D1 g1 (fun i hi => g2 i hi (by omega))
      · intro h5
        exact absurd h5 (by decide)
    | succ k ih =>
      intro n D1 u hn g1 g2
      have w8 : D1 108 = D 108 := g1 _ (by omega)
      by_cases q : n < m
      · have q1 := (h1 n q).1
        have q2 := (h1 n q).2.2.1
        refine s_il1 rfl ?_
        refine s_ic rfl ?_
        refine s_cge rfl ?_ ?_
        · intro h5
          omega
        · intro h5
          refine s_al0 rfl ?_
          refine s_gf rfl (hk.at rfl rfl) rfl rfl ?_
          refine s_il1 rfl ?_
          refine s_aald rfl (hk.at rfl rfl) (by omega) ?_
          rw [w8, q1]
          refine s_as2 rfl rfl ?_
          refine s_al2 rfl ?_
          refine s_nul rfl ?_ ?_
          · intro h16
            exact absurd h16 (by show ¬ (((279 + 10 * n : Nat) : Int) = 0); omega)
          · intro h16
            refine s_al2 rfl ?_
            refine s_ic rfl ?_
            refine s_pz rfl q2 rfl (Or.inl rfl) ?_
            refine s_iinc1 rfl rfl ⟨by omega, by omega⟩ ?_
            refine s_go rfl ?_
            refine ih (n + 1) _ _ (by omega) (fun r hr => by rw [aUp_row (by omega)]; exact g1 r hr) (fun i hi1 hi2 => ?_)
            rcases (by omega : i < n ∨ i = n) with x | x
            · rw [aUp_row (by omega)]; exact g2 i hi1 x
            · subst x; rw [aUp_at]
      · have q1 := h2 n (by omega) (by omega)
        refine s_il1 rfl ?_
        refine s_ic rfl ?_
        refine s_cge rfl ?_ ?_
        · intro h5
          omega
        · intro h5
          refine s_al0 rfl ?_
          refine s_gf rfl (hk.at rfl rfl) rfl rfl ?_
          refine s_il1 rfl ?_
          refine s_aald rfl (hk.at rfl rfl) (by omega) ?_
          rw [w8, q1]
          refine s_as2 rfl rfl ?_
          refine s_al2 rfl ?_
          refine s_nul rfl ?_ ?_
          · intro h16
            refine s_iinc1 rfl rfl ⟨by omega, by omega⟩ ?_
            refine s_go rfl ?_
            exact ih (n + 1) D1 _ (by omega) g1 (fun i hi1 hi2 => g2 i hi1 (by omega))
          · intro h16
            exact absurd rfl h16
  refine VM_go (tg2 rfl) (Nat.le_of_ble_eq_true rfl) ?_
  refine s_ic rfl ?_
  refine s_is1 rfl rfl ?_
  exact loop 60 0 D _ rfl (fun _ _ => rfl) (fun i _ hi => absurd hi (Nat.not_lt_zero i))
theorem v_commutedBy {T nt : Nat} {v : Int} (hk : Kn K) (hT : isT T) (hn : D T 1 = nt) (h24 : nt ≤ 24) (kk : P (cmN (fun t : Nat => decide (D (T + 9 + 3 * t) 13 ≠ -1 ∧ D (T + 9 + 3 * t) 13 ≤ v)) nt) (K, D, z)) : VM G l (d + 1) iX8_commutedBy [rf T, (0, v)] (K, D, z) P := by
  have loop : ∀ (k n : Nat), n + k = nt → V G l (d + 1) iX8_commutedBy 4 [rf T, (0, v), (0, cmN (fun t : Nat => decide (D (T + 9 + 3 * t) 13 ≠ -1 ∧ D (T + 9 + 3 * t) 13 ≤ v)) n), (0, (n : Int))] [] (K, D, z) P := by
    intro k
    induction k with
    | zero =>
      intro n hnk
      have hn2 : n = nt := by omega
      refine s_il3 rfl ?_
      refine s_al0 rfl ?_
      refine s_gi rfl (KT hk hT) rfl ?_
      rw [hn]
      refine s_cge rfl ?_ ?_
      · intro h9
        refine s_il2 rfl ?_
        refine s_reti rfl rfl ?_
        rw [hn2]
        exact kk
      · intro h9
        omega
    | succ k ih =>
      intro n hnk
      have h24n : n < 24 := by omega
      obtain ⟨t1, t2, t3⟩ := KTt hk hT h24n
      have ci := cmN_in (c := fun t : Nat => decide (D (T + 9 + 3 * t) 13 ≠ -1 ∧ D (T + 9 + 3 * t) 13 ≤ v)) (n := n)
      have e : cmN (fun t : Nat => decide (D (T + 9 + 3 * t) 13 ≠ -1 ∧ D (T + 9 + 3 * t) 13 ≤ v)) (n + 1) = cmN (fun t : Nat => decide (D (T + 9 + 3 * t) 13 ≠ -1 ∧ D (T + 9 + 3 * t) 13 ≤ v)) n + (if decide (D (T + 9 + 3 * n) 13 ≠ -1 ∧ D (T + 9 + 3 * n) 13 ≤ v) = true then 1 else 0) := rfl
      refine s_il3 rfl ?_
      refine s_al0 rfl ?_
      refine s_gi rfl (KT hk hT) rfl ?_
      rw [hn]
      refine s_cge rfl ?_ ?_
      · intro h9
        omega
      · intro h9
        refine s_al0 rfl ?_
        refine s_gf rfl (KT hk hT) rfl rfl ?_
        refine s_il3 rfl ?_
        refine s_aaldT rfl (KTa hk hT).1 (by omega) (by rw [Int.toNat_natCast, List.getElem?_map, List.getElem?_range (by omega)]; rfl) ?_
        refine s_il1 rfl ?_
        refine s_callO rfl rfl (Or.inl rfl) rfl rfl t1 (v_isCommutedBy hk hT h24n ?_)
        show V G l (d + 1) iX8_commutedBy 22 [rf T, (0, v), (0, cmN (fun t : Nat => decide (D (T + 9 + 3 * t) 13 ≠ -1 ∧ D (T + 9 + 3 * t) 13 ≤ v)) n), (0, (n : Int))] [(0, if D (T + 9 + 3 * n) 13 ≠ -1 ∧ D (T + 9 + 3 * n) 13 ≤ v then 1 else 0)] (K, D, z) P
        generalize hcv : (if D (T + 9 + 3 * n) 13 ≠ -1 ∧ D (T + 9 + 3 * n) 13 ≤ v then (1 : Int) else 0) = cv
        refine s_zeq rfl ?_ ?_
        · intro h22
          have hno : ¬ (D (T + 9 + 3 * n) 13 ≠ -1 ∧ D (T + 9 + 3 * n) 13 ≤ v) := fun q => by rw [if_pos q] at hcv; omega
          rw [decide_eq_false hno, if_neg (by decide), Int.add_zero] at e
          refine s_iinc3 rfl rfl ⟨by omega, by omega⟩ ?_
          refine s_go rfl ?_
          rw [← e]
          exact ih (n + 1) (by omega)
        · intro h22
          have hyes : D (T + 9 + 3 * n) 13 ≠ -1 ∧ D (T + 9 + 3 * n) 13 ≤ v := Decidable.byContradiction fun q => by rw [if_neg q] at hcv; omega
          rw [decide_eq_true hyes, if_pos rfl] at e
          refine s_iinc2 rfl rfl ⟨by omega, by omega⟩ ?_
          refine s_iinc3 rfl rfl ⟨by omega, by omega⟩ ?_
          refine s_go rfl ?_
          rw [← e]
          exact ih (n + 1) (by omega)
  refine VM_go (tg2 rfl) (Nat.le_of_ble_eq_true rfl) ?_
  refine s_ic rfl ?_
  refine s_is2 rfl rfl ?_
  refine s_ic rfl ?_
  refine s_is3 rfl rfl ?_
  exact loop nt 0 (by omega)
theorem v_addLoss {h hr pl ca st : Int} (hk : Kn K) (hO : OrdC D) (hn : 0 ≤ D 89 0 ∧ D 89 0 < 60) (kk : ∀ D', AlD D h hr pl ca st D' → OrdC D' → P (D 89 0) (K, D', z)) : VM G l d iX0_addLoss [rf 89, (0, h), (0, hr), (0, pl), (0, ca), (0, st)] (K, D, z) P := by
  obtain ⟨o1, o2, o3⟩ := id hO
  have fin : ∀ (s : Nat) (D1 : Nat → Int → Int), (s : Int) ≤ D 89 0 → (∀ r, (r < 89 ∨ 97 < r) → D1 r = D r) → D1 89 = D 89 → D1 90 = uF (D 90) (D 89 0) h → D1 91 = uF (D 91) (D 89 0) hr → D1 92 = uF (D 92) (D 89 0) pl → D1 93 = uF (D 93) (D 89 0) ca → D1 94 = uF (D 94) (D 89 0) st → D1 95 = uF (D 95) (D 89 0) 0 → D1 97 = uF (D 97) (D 89 0) (-1) → (∀ j : Nat, j < s → D1 96 j = D 96 j) → (∀ j : Nat, s < j → (j : Int) ≤ D 89 0 → D1 96 j = D 96 ((j : Int) - 1) ∧ hr < D 91 (D 96 ((j : Int) - 1))) → (0 < s → D 91 (D 96 ((s : Int) - 1)) ≤ hr) → V G l d iX0_addLoss 113 [rf 89, (0, h), (0, hr), (0, pl), (0, ca), (0, st), (0, D 89 0), (0, (s : Int))] [] (K, D1, z) P := by
    intro s D1 hs f0 f89 f90 f91 f92 f93 f94 f95 f97 a1 a2 a3
    have e89 : aUp D1 96 s (D 89 0) 89 0 = D 89 0 := by rw [aUp_row (by omega), f89]
    refine s_al0 rfl ?_
    refine s_gf rfl (hk.at rfl rfl) rfl rfl ?_
    refine s_il7 rfl ?_
    refine s_il6 rfl ?_
    refine s_iast rfl (hk.at rfl rfl) (by omega) ?_
    refine s_al0 rfl ?_
    refine s_dup rfl (by show (2 : Nat) ≠ 1; decide) ?_
    refine s_gi rfl (hk.at rfl rfl) rfl ?_
    rw [e89]
    refine s_ic rfl ?_
    refine s_iadd rfl ⟨by omega, by omega⟩ ?_
    refine s_pi rfl (hk.at rfl rfl) rfl ?_
    refine s_il6 rfl ?_
    refine s_reti rfl rfl ?_
    have h96 : ∀ j : Nat, (j : Int) ≤ D 89 0 → aUp (aUp D1 96 s (D 89 0)) 89 0 (D 89 0 + 1) 96 j = if j < s then D 96 j else if j = s then D 89 0 else D 96 ((j : Int) - 1) := fun j hj => by
      rw [aUp_row (by omega), aUp_same]
      unfold uF
      rcases (by omega : j < s ∨ j = s ∨ s < j) with q | q | q
      · rw [if_neg (by omega), if_pos q]; exact a1 j q
      · rw [if_pos (by omega), if_neg (by omega), if_pos q]
      · rw [if_neg (by omega), if_neg (by omega), if_neg (by omega)]; exact (a2 j q hj).1
    have h91 : aUp (aUp D1 96 s (D 89 0)) 89 0 (D 89 0 + 1) 91 = uF (D 91) (D 89 0) hr := by rw [aUp_row (by omega), aUp_row (by omega), f91]
    have h89 : aUp (aUp D1 96 s (D 89 0)) 89 0 (D 89 0 + 1) 89 0 = D 89 0 + 1 := aUp_at
    refine kk _ ⟨fun r hr => by rw [aUp_row (by omega), aUp_row (by omega)]; exact f0 r hr, ?_, ?_, h91, ?_, ?_, ?_, ?_, ?_⟩ ⟨fun i j hij hj => ?_, fun i hi => ?_, fun q q1 q2 => ?_⟩
    · rw [aUp_same, aUp_row (by omega), f89]
    · rw [aUp_row (by omega), aUp_row (by omega), f90]
    · rw [aUp_row (by omega), aUp_row (by omega), f92]
    · rw [aUp_row (by omega), aUp_row (by omega), f93]
    · rw [aUp_row (by omega), aUp_row (by omega), f94]
    · rw [aUp_row (by omega), aUp_row (by omega), f95]
    · rw [aUp_row (by omega), aUp_row (by omega), f97]
    · rw [h89] at hj
      rw [h96 i (by omega), h96 j (by omega), h91]
      have lo : ∀ k : Nat, k < s → (0 ≤ D 96 k ∧ D 96 k < D 89 0) ∧ D 91 (D 96 k) ≤ hr := fun k hk => by
        refine ⟨o2 k (by omega), ?_⟩
        have a3' := a3 (by omega)
        rcases (by omega : k = s - 1 ∨ k < s - 1) with x | x
        · rw [show ((s : Int) - 1) = ((s - 1 : Nat) : Int) by omega] at a3'
          rw [x]; exact a3'
        · have y1 := o1 k (s - 1) x (by omega)
          have y2 := o2 k (by omega)
          have y3 := o2 (s - 1) (by omega)
          rw [show ((s : Int) - 1) = ((s - 1 : Nat) : Int) by omega] at a3'
          omega
      have hi' : ∀ k : Nat, s < k → (k : Int) ≤ D 89 0 → (0 ≤ D 96 ((k : Int) - 1) ∧ D 96 ((k : Int) - 1) < D 89 0) ∧ hr < D 91 (D 96 ((k : Int) - 1)) := fun k k1 k2 => by
        have := o2 (k - 1) (by omega)
        rw [show ((k - 1 : Nat) : Int) = (k : Int) - 1 by omega] at this
        exact ⟨this, (a2 k k1 k2).2⟩
      rcases (by omega : j < s ∨ j = s ∨ s < j) with x | x | x
      · rw [if_pos x, if_pos (by omega), uF_ne (by have := (lo i (by omega)).1; omega), uF_ne (by have := (lo j x).1; omega)]
        exact o1 i j hij (by omega)
      · rw [if_neg (by omega : ¬ j < s), if_pos x, if_pos (by omega), uF_at, uF_ne (by have := (lo i (by omega)).1; omega)]
        have := lo i (by omega)
        omega
      · rw [if_neg (by omega : ¬ j < s), if_neg (by omega : ¬ j = s), uF_ne (i := D 89 0) (j := D 96 ((j : Int) - 1)) (by have := (hi' j x (by omega)).1; omega)]
        have hj' := hi' j x (by omega)
        rcases (by omega : i < s ∨ i = s ∨ s < i) with y | y | y
        · rw [if_pos y, uF_ne (by have := (lo i y).1; omega)]
          have := o1 i (j - 1) (by omega) (by omega)
          rw [show ((j - 1 : Nat) : Int) = (j : Int) - 1 by omega] at this
          exact this
        · rw [if_neg (by omega : ¬ i < s), if_pos y, uF_at]
          omega
        · rw [if_neg (by omega : ¬ i < s), if_neg (by omega : ¬ i = s), uF_ne (by have := (hi' i y (by omega)).1; omega)]
          have := o1 (i - 1) (j - 1) (by omega) (by omega)
          rw [show ((i - 1 : Nat) : Int) = (i : Int) - 1 by omega, show ((j - 1 : Nat) : Int) = (j : Int) - 1 by omega] at this
          exact this
    · rw [h89] at hi ⊢
      rw [h96 i (by omega)]
      split
      · have := o2 i (by omega); omega
      · split
        · omega
        · have := o2 (i - 1) (by omega)
          rw [show ((i - 1 : Nat) : Int) = (i : Int) - 1 by omega] at this
          omega
    · rw [h89] at q2 ⊢
      by_cases x : q = D 89 0
      · exact ⟨s, by omega, by rw [h96 s (by omega), if_neg (by omega), if_pos rfl, x]⟩
      · obtain ⟨i, i1, i2⟩ := o3 q q1 (by omega)
        by_cases y : i < s
        · exact ⟨i, by omega, by rw [h96 i (by omega), if_pos y, i2]⟩
        · refine ⟨i + 1, by omega, ?_⟩
          rw [h96 (i + 1) (by omega), if_neg (by omega), if_neg (by omega), show (((i + 1 : Nat) : Int) - 1) = i by omega, i2]
  have loop : ∀ (s : Nat) (D1 : Nat → Int → Int), (s : Int) ≤ D 89 0 → (∀ r, (r < 89 ∨ 97 < r) → D1 r = D r) → D1 89 = D 89 → D1 90 = uF (D 90) (D 89 0) h → D1 91 = uF (D 91) (D 89 0) hr → D1 92 = uF (D 92) (D 89 0) pl → D1 93 = uF (D 93) (D 89 0) ca → D1 94 = uF (D 94) (D 89 0) st → D1 95 = uF (D 95) (D 89 0) 0 → D1 97 = uF (D 97) (D 89 0) (-1) → (∀ j : Nat, j < s → D1 96 j = D 96 j) → (∀ j : Nat, s < j → (j : Int) ≤ D 89 0 → D1 96 j = D 96 ((j : Int) - 1) ∧ hr < D 91 (D 96 ((j : Int) - 1))) → V G l d iX0_addLoss 68 [rf 89, (0, h), (0, hr), (0, pl), (0, ca), (0, st), (0, D 89 0), (0, (s : Int))] [] (K, D1, z) P := by
    intro s
    induction s with
    | zero =>
      intro D1 hs f0 f89 f90 f91 f92 f93 f94 f95 f97 a1 a2
      refine s_il7 rfl ?_
      refine s_zle rfl ?_ ?_
      · intro h70
        exact fin 0 D1 hs f0 f89 f90 f91 f92 f93 f94 f95 f97 a1 a2 (fun q => absurd q (by decide))
      · intro h70
        exact absurd h70 (by decide)
    | succ s ih =>
      intro D1 hs f0 f89 f90 f91 f92 f93 f94 f95 f97 a1 a2
      have i1 : ((s + 1 : Nat) : Int) - 1 = (s : Int) := by omega
      have b1 : D1 96 s = D 96 s := a1 s (by omega)
      have b2 := o2 s (by omega)
      have b3 : D1 91 (D 96 s) = D 91 (D 96 s) := by rw [f91, uF_ne (by omega)]
      refine s_il7 rfl ?_
      refine s_zle rfl ?_ ?_
      · intro h70
        omega
      · intro h70
        refine s_al0 rfl ?_
        refine s_gf rfl (hk.at rfl rfl) rfl rfl ?_
        refine s_al0 rfl ?_
        refine s_gf rfl (hk.at rfl rfl) rfl rfl ?_
        refine s_il7 rfl ?_
        refine s_ic rfl ?_
        refine s_isub rfl ⟨by omega, by omega⟩ ?_
        rw [i1]
        refine s_iald rfl (hk.at rfl rfl) (by omega) ?_
        rw [b1]
        refine s_iald rfl (hk.at rfl rfl) (by omega) ?_
        rw [b3]
        refine s_il2 rfl ?_
        refine s_cle rfl ?_ ?_
        · intro h88
          exact fin (s + 1) D1 hs f0 f89 f90 f91 f92 f93 f94 f95 f97 a1 a2 (fun _ => by rw [i1]; exact h88)
        · intro h88
          refine s_al0 rfl ?_
          refine s_gf rfl (hk.at rfl rfl) rfl rfl ?_
          refine s_il7 rfl ?_
          refine s_al0 rfl ?_
          refine s_gf rfl (hk.at rfl rfl) rfl rfl ?_
          refine s_il7 rfl ?_
          refine s_ic rfl ?_
          refine s_isub rfl ⟨by omega, by omega⟩ ?_
          rw [i1]
          refine s_iald rfl (hk.at rfl rfl) (by omega) ?_
          rw [b1]
          refine s_iast rfl (hk.at rfl rfl) (by omega) ?_
          refine s_iinc7 rfl rfl ⟨by omega, by omega⟩ ?_
          refine s_go rfl ?_
          have i2 : ((s + 1 : Nat) : Int) + -1 = (s : Int) := by omega
          rw [i2]
          refine ih _ (by omega) (fun r hr => by rw [aUp_row (by omega)]; exact f0 r hr) (by rw [aUp_row (by omega)]; exact f89) (by rw [aUp_row (by omega)]; exact f90) (by rw [aUp_row (by omega)]; exact f91) (by rw [aUp_row (by omega)]; exact f92) (by rw [aUp_row (by omega)]; exact f93) (by rw [aUp_row (by omega)]; exact f94) (by rw [aUp_row (by omega)]; exact f95) (by rw [aUp_row (by omega)]; exact f97) (fun j hj => by rw [aUp_ne (by omega)]; exact a1 j (by omega)) (fun j j1 j2 => ?_)
          rcases (by omega : j = s + 1 ∨ s + 1 < j) with q | q
          · subst q; rw [aUp_at, i1]; exact ⟨rfl, by omega⟩
          · rw [aUp_ne (by omega)]; exact a2 j q j2
  refine VM_go (tg2 rfl) (Nat.le_of_ble_eq_true rfl) ?_
  refine s_al0 rfl ?_
  refine s_gi rfl (hk.at rfl rfl) rfl ?_
  try simp only [aUp_app, Nat.reduceEqDiff, Int.reduceEq, eq_self, true_and, false_and, and_false, and_true, if_true, if_false, ↓reduceIte]
  refine s_is6 rfl rfl ?_
  refine s_al0 rfl ?_
  refine s_gf rfl (hk.at rfl rfl) rfl rfl ?_
  try simp only [aUp_app, Nat.reduceEqDiff, Int.reduceEq, eq_self, true_and, false_and, and_false, and_true, if_true, if_false, ↓reduceIte]
  refine s_il6 rfl ?_
  refine s_il1 rfl ?_
  refine s_iast rfl (hk.at rfl rfl) (by omega) ?_
  refine s_al0 rfl ?_
  refine s_gf rfl (hk.at rfl rfl) rfl rfl ?_
  try simp only [aUp_app, Nat.reduceEqDiff, Int.reduceEq, eq_self, true_and, false_and, and_false, and_true, if_true, if_false, ↓reduceIte]
  refine s_il6 rfl ?_
  refine s_il2 rfl ?_
  refine s_iast rfl (hk.at rfl rfl) (by omega) ?_
  refine s_al0 rfl ?_
  refine s_gf rfl (hk.at rfl rfl) rfl rfl ?_
  try simp only [aUp_app, Nat.reduceEqDiff, Int.reduceEq, eq_self, true_and, false_and, and_false, and_true, if_true, if_false, ↓reduceIte]
  refine s_il6 rfl ?_
  refine s_il3 rfl ?_
  refine s_iast rfl (hk.at rfl rfl) (by omega) ?_
  refine s_al0 rfl ?_
  refine s_gf rfl (hk.at rfl rfl) rfl rfl ?_
  try simp only [aUp_app, Nat.reduceEqDiff, Int.reduceEq, eq_self, true_and, false_and, and_false, and_true, if_true, if_false, ↓reduceIte]
  refine s_il6 rfl ?_
  refine s_il4 rfl ?_
  refine s_iast rfl (hk.at rfl rfl) (by omega) ?_
  refine s_al0 rfl ?_
  refine s_gf rfl (hk.at rfl rfl) rfl rfl ?_
  try simp only [aUp_app, Nat.reduceEqDiff, Int.reduceEq, eq_self, true_and, false_and, and_false, and_true, if_true, if_false, ↓reduceIte]
  refine s_il6 rfl ?_
  refine s_il5 rfl ?_
  refine s_iast rfl (hk.at rfl rfl) (by omega) ?_
  refine s_al0 rfl ?_
  refine s_gf rfl (hk.at rfl rfl) rfl rfl ?_
  try simp only [aUp_app, Nat.reduceEqDiff, Int.reduceEq, eq_self, true_and, false_and, and_false, and_true, if_true, if_false, ↓reduceIte]
  refine s_il6 rfl ?_
  refine s_ic rfl ?_
  refine s_bast rfl (hk.at rfl rfl) (by omega) (Or.inl rfl) ?_
  refine s_al0 rfl ?_
  refine s_gf rfl (hk.at rfl rfl) rfl rfl ?_
  try simp only [aUp_app, Nat.reduceEqDiff, Int.reduceEq, eq_self, true_and, false_and, and_false, and_true, if_true, if_false, ↓reduceIte]
  refine s_il6 rfl ?_
  refine s_ic rfl ?_
  refine s_iast rfl (hk.at rfl rfl) (by omega) ?_
  refine s_il6 rfl ?_
  refine s_is7 rfl rfl ?_
  have hx := loop (D 89 0).toNat (aUp (aUp (aUp (aUp (aUp (aUp (aUp D 90 (D 89 0) h) 91 (D 89 0) hr) 92 (D 89 0) pl) 93 (D 89 0) ca) 94 (D 89 0) st) 95 (D 89 0) 0) 97 (D 89 0) (-1)) (by omega) (fun r hr => by rw [aUp_row (by omega), aUp_row (by omega), aUp_row (by omega), aUp_row (by omega), aUp_row (by omega), aUp_row (by omega), aUp_row (by omega)]) (by rw [aUp_row (by omega), aUp_row (by omega), aUp_row (by omega), aUp_row (by omega), aUp_row (by omega), aUp_row (by omega), aUp_row (by omega)]) (by rw [aUp_row (by omega), aUp_row (by omega), aUp_row (by omega), aUp_row (by omega), aUp_row (by omega), aUp_row (by omega), aUp_same]) (by rw [aUp_row (by omega), aUp_row (by omega), aUp_row (by omega), aUp_row (by omega), aUp_row (by omega), aUp_same, aUp_row (by omega)]) (by rw [aUp_row (by omega), aUp_row (by omega), aUp_row (by omega), aUp_row (by omega), aUp_same, aUp_row (by omega), aUp_row (by omega)]) (by rw [aUp_row (by omega), aUp_row (by omega), aUp_row (by omega), aUp_same, aUp_row (by omega), aUp_row (by omega), aUp_row (by omega)]) (by rw [aUp_row (by omega), aUp_row (by omega), aUp_same, aUp_row (by omega), aUp_row (by omega), aUp_row (by omega), aUp_row (by omega)]) (by rw [aUp_row (by omega), aUp_same, aUp_row (by omega), aUp_row (by omega), aUp_row (by omega), aUp_row (by omega), aUp_row (by omega)]) (by rw [aUp_same, aUp_row (by omega), aUp_row (by omega), aUp_row (by omega), aUp_row (by omega), aUp_row (by omega), aUp_row (by omega)]) (fun j hj => by rw [aUp_row (by omega), aUp_row (by omega), aUp_row (by omega), aUp_row (by omega), aUp_row (by omega), aUp_row (by omega), aUp_row (by omega)]) (fun j j1 j2 => absurd j1 (by omega))
  rw [show (((D 89 0).toNat : Nat) : Int) = D 89 0 by omega] at hx
  exact hx
end
