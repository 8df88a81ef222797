/-! ===== trials: splits ===== -/
/-- the least burden and the loss at whose split it comes, of the n first losses -/
def wnF (wt : Nat → Bool) (bu : Nat → Int) (b0 : Int) : Nat → Int × Int
  | 0 => (b0, -1)
  | n + 1 => if wt n = true ∧ bu n < (wnF wt bu b0 n).1 then (bu n, n) else wnF wt bu b0 n
def wtX (D : Nat → Int → Int) (wo : Int → Int) (T : Nat) (v stm : Int) (i : Nat) : Bool := decide ((evX D wo T v stm (-1)).2.2.1 i ≠ -1 ∧ (evX D wo T v stm (-1)).2.1 ((evX D wo T v stm (-1)).2.2.1 i) ≠ i)
section
variable {G : aCX} {l : Launch} {d : Nat} {K : Nat → aKd} {D : Nat → Int → Int} {z : Nat × Nat} {P : Int → aSt → Prop}
theorem RkX_join {T nt : Nat} {wo : Int → Int} {cn : Nat → Nat} {cc : Nat → Nat → Int × Int} {v stm ms : Int} {D' : Nat → Int → Int} (hC : CW T nt wo cn cc D) (h : RkX D wo T nt cn cc v stm ms D') : ∀ q : Int, 0 ≤ q → q < D 89 0 → D' 112 q = (evX D wo T v stm ms).2.2.1 q := fun q q1 q2 => by
  obtain ⟨i, i1, i2⟩ := hC.2.2.2.1.2.2 q q1 q2
  have := h.2.2.1 i (by omega)
  rwa [i2] at this
theorem RkX_ow {T nt : Nat} {wo : Int → Int} {cn : Nat → Nat} {cc : Nat → Nat → Int × Int} {v stm ms : Int} {D' : Nat → Int → Int} (h : RkX D wo T nt cn cc v stm ms D') : ∀ a b : Int, 0 ≤ a → a < 12 → 0 ≤ b → b < 12 → D' 102 (a * 12 + b) = owX D wo T nt cn cc v stm ms a b := h.2.2.2.2.2.2.2
theorem RkX_dr {T nt : Nat} {wo : Int → Int} {cn : Nat → Nat} {cc : Nat → Nat → Int × Int} {v stm ms : Int} {D' : Nat → Int → Int} (h : RkX D wo T nt cn cc v stm ms D') : ∀ h : Nat, h < 12 → D' 103 h = drX D wo T v stm ms h := h.2.2.2.2.2.2.1
theorem v_markWorthTrying {n : Nat} (hk : Kn K) (hn : n ≤ 60) (hj : ∀ q : Nat, q < n → -1 ≤ D 112 q ∧ D 112 q < 60) (kk : ∀ D', (∀ r, r ≠ 119 → D' r = D r) → (∀ q : Nat, q < n → D' 119 q = if D 112 q ≠ -1 ∧ D 113 (D 112 q) ≠ q then 1 else 0) → P 0 (K, D', z)) : VM G l d iX10_markWorthTrying [rf 116, (0, (n : Int))] (K, D, z) P := by
  have loop : ∀ (m i : Nat) (D1 : Nat → Int → Int) (u4 : aTV), i + m = n → (∀ r, r ≠ 119 → D1 r = D r) → (∀ q : Nat, q < i → D1 119 q = if D 112 q ≠ -1 ∧ D 113 (D 112 q) ≠ q then 1 else 0) → V G l d iX10_markWorthTrying 10 [rf 116, (0, (n : Int)), rf 111, (0, (i : Int)), u4] [] (K, D1, z) P := by
    intro m
    induction m with
    | zero =>
      intro i D1 u4 hm g1 g2
      have hi : i = n := by omega
      subst hi
      refine s_il3 rfl ?_
      refine s_il1 rfl ?_
      refine s_cge rfl ?_ ?_
      · intro h12
        refine s_retv rfl rfl ?_
        exact kk D1 g1 g2
      · intro h12
        omega
    | succ m ih =>
      intro i D1 u4 hm g1 g2
      have e2 : D1 112 = D 112 := g1 _ (by decide)
      have e3 : D1 113 = D 113 := g1 _ (by decide)
      have hji := hj i (by omega)
      have fin : ∀ w : Int, w = (if D 112 i ≠ -1 ∧ D 113 (D 112 i) ≠ i then 1 else 0) → V G l d iX10_markWorthTrying 50 [rf 116, (0, (n : Int)), rf 111, (0, (i : Int)), (0, D 112 i)] [(0, w), (0, (i : Int)), rf 119] (K, D1, z) P := by
        intro w hw
        have hw2 : w = 0 ∨ w = 1 := by subst hw; split <;> omega
        refine s_bast rfl (hk.at rfl rfl) (by omega) hw2 ?_
        refine s_iinc3 rfl rfl ⟨by omega, by omega⟩ ?_
        refine s_go rfl ?_
        refine ih (i + 1) _ _ (by omega) (fun r hr => by rw [aUp_row hr]; exact g1 r hr) (fun q hq => ?_)
        rw [aUp_same]
        rcases (by omega : q < i ∨ q = i) with y | y
        · rw [uF_ne (by omega)]; exact g2 q y
        · subst y; rw [uF_at]; exact hw
      refine s_il3 rfl ?_
      refine s_il1 rfl ?_
      refine s_cge rfl ?_ ?_
      · intro h12
        omega
      · intro h12
        refine s_al2 rfl ?_
        refine s_gf rfl (hk.at rfl rfl) rfl rfl ?_
        refine s_il3 rfl ?_
        refine s_iald rfl (hk.at rfl rfl) (by omega) ?_
        rw [e2]
        refine s_is4 rfl rfl ?_
        refine s_al0 rfl ?_
        refine s_gf rfl (hk.at rfl rfl) rfl rfl ?_
        refine s_il3 rfl ?_
        refine s_il4 rfl ?_
        refine s_ic rfl ?_
        refine s_ceq rfl ?_ ?_
        · intro h31
          refine s_ic rfl ?_
          exact fin _ (by split <;> omega)
        · intro h31
          refine s_al2 rfl ?_
          refine s_gf rfl (hk.at rfl rfl) rfl rfl ?_
          refine s_il4 rfl ?_
          refine s_iald rfl (hk.at rfl rfl) (by omega) ?_
          rw [e3]
          refine s_il3 rfl ?_
          refine s_ceq rfl ?_ ?_
          · intro h42
            refine s_ic rfl ?_
            exact fin _ (by split <;> omega)
          · intro h42
            refine s_ic rfl ?_
            refine s_go rfl ?_
            exact fin _ (by split <;> omega)
  refine VM_go (tg2 rfl) (Nat.le_of_ble_eq_true rfl) ?_
  refine s_al0 rfl ?_
  refine s_gf rfl (hk.at rfl rfl) rfl rfl ?_
  refine s_gf rfl (hk.at rfl rfl) rfl rfl ?_
  refine s_as2 rfl rfl ?_
  refine s_ic rfl ?_
  refine s_is3 rfl rfl ?_
  exact loop n 0 D _ (by omega) (fun _ _ => rfl) (fun q hq => absurd hq (Nat.not_lt_zero q))
theorem v_keepBetter {T nt : Nat} {wo : Int → Int} {cn : Nat → Nat} {cc : Nat → Nat → Int × Int} {v stm ms : Int} {D0 : Nat → Int → Int} {n : Nat} {lo : Int} (hk : Kn K) (hC : CW T nt wo cn cc D0) (hR : ∀ a b : Int, 0 ≤ a → a < 12 → 0 ≤ b → b < 12 → D 102 (a * 12 + b) = owX D0 wo T nt cn cc v stm ms a b) (hR3 : ∀ h : Nat, h < 12 → D 103 h = drX D0 wo T v stm ms h) (hn : n ≤ 12) (kk : ∀ D', (∀ r, r ≠ 117 → r ≠ 118 → D' r = D r) → (∀ h : Nat, h < n → D' 118 h = (if buX D0 wo T nt cn cc v stm ms h < D 118 h then buX D0 wo T nt cn cc v stm ms h else D 118 h) ∧ D' 117 h = (if buX D0 wo T nt cn cc v stm ms h < D 118 h then lo else D 117 h)) → P 0 (K, D', z)) : VM G l (d + 2) iX10_keepBetter [rf 116, (0, (n : Int)), (0, lo)] (K, D, z) P := by
  have loop : ∀ (m i : Nat) (D1 : Nat → Int → Int) (u4 : aTV), i + m = n → (∀ r, r ≠ 117 → r ≠ 118 → D1 r = D r) → (∀ h : Nat, h < i → D1 118 h = (if buX D0 wo T nt cn cc v stm ms h < D 118 h then buX D0 wo T nt cn cc v stm ms h else D 118 h) ∧ D1 117 h = (if buX D0 wo T nt cn cc v stm ms h < D 118 h then lo else D 117 h)) → (∀ h : Nat, i ≤ h → D1 118 h = D 118 h ∧ D1 117 h = D 117 h) → V G l (d + 2) iX10_keepBetter 2 [rf 116, (0, (n : Int)), (0, lo), (0, (i : Int)), u4] [] (K, D1, z) P := by
    intro m
    induction m with
    | zero =>
      intro i D1 u4 hm g1 g2 g3
      have hi : i = n := by omega
      subst hi
      refine s_il3 rfl ?_
      refine s_il1 rfl ?_
      refine s_cge rfl ?_ ?_
      · intro h4
        refine s_retv rfl rfl ?_
        exact kk D1 g1 g2
      · intro h4
        omega
    | succ m ih =>
      intro i D1 u4 hm g1 g2 g3
      have e2 : D1 102 = D 102 := g1 _ (by decide) (by decide)
      have e3 : D1 103 = D 103 := g1 _ (by decide) (by decide)
      obtain ⟨f8, f7⟩ := g3 i (Nat.le_refl _)
      have nx : ∀ D2 : Nat → Int → Int, (∀ r, r ≠ 117 → r ≠ 118 → D2 r = D1 r) → (∀ h : Nat, h ≠ i → D2 118 h = D1 118 h ∧ D2 117 h = D1 117 h) → D2 118 i = (if buX D0 wo T nt cn cc v stm ms i < D 118 i then buX D0 wo T nt cn cc v stm ms i else D 118 i) → D2 117 i = (if buX D0 wo T nt cn cc v stm ms i < D 118 i then lo else D 117 i) → V G l (d + 2) iX10_keepBetter 43 [rf 116, (0, (n : Int)), (0, lo), (0, (i : Int)), (0, buX D0 wo T nt cn cc v stm ms i)] [] (K, D2, z) P := by
        intro D2 k1 k2 k3 k4
        refine s_iinc3 rfl rfl ⟨by omega, by omega⟩ ?_
        refine s_go rfl ?_
        refine ih (i + 1) D2 _ (by omega) (fun r q1 q2 => by rw [k1 r q1 q2]; exact g1 r q1 q2) (fun h hh => ?_) (fun h hh => by rw [(k2 h (by omega)).1, (k2 h (by omega)).2]; exact g3 h (by omega))
        rcases (by omega : h < i ∨ h = i) with y | y
        · rw [(k2 h (by omega)).1, (k2 h (by omega)).2]; exact g2 h y
        · subst y; exact ⟨k3, k4⟩
      refine s_il3 rfl ?_
      refine s_il1 rfl ?_
      refine s_cge rfl ?_ ?_
      · intro h4
        omega
      · intro h4
        refine s_al0 rfl ?_
        refine s_gf rfl (hk.at rfl rfl) rfl rfl ?_
        refine s_il3 rfl ?_
        refine s_callO rfl rfl (Or.inl rfl) rfl rfl (hk.at rfl rfl) (v_bur (v := v) (stm := stm) (ms := ms) hk hC (by rw [e2]; exact hR) (by rw [e3]; exact hR3) (by omega) ?_)
        show V G l (d + 2) iX10_keepBetter 15 [rf 116, (0, (n : Int)), (0, lo), (0, (i : Int)), u4] [(0, buX D0 wo T nt cn cc v stm ms i)] (K, D1, z) P
        refine s_is4 rfl rfl ?_
        refine s_il4 rfl ?_
        refine s_al0 rfl ?_
        refine s_gf rfl (hk.at rfl rfl) rfl rfl ?_
        refine s_il3 rfl ?_
        refine s_iald rfl (hk.at rfl rfl) (by omega) ?_
        rw [f8]
        refine s_cge rfl ?_ ?_
        · intro h25
          exact nx D1 (fun _ _ _ => rfl) (fun _ _ => ⟨rfl, rfl⟩) (by rw [f8, if_neg (by omega)]) (by rw [f7, if_neg (by omega)])
        · intro h25
          refine s_al0 rfl ?_
          refine s_gf rfl (hk.at rfl rfl) rfl rfl ?_
          refine s_il3 rfl ?_
          refine s_il4 rfl ?_
          refine s_iast rfl (hk.at rfl rfl) (by omega) ?_
          refine s_al0 rfl ?_
          refine s_gf rfl (hk.at rfl rfl) rfl rfl ?_
          refine s_il3 rfl ?_
          refine s_il2 rfl ?_
          refine s_iast rfl (hk.at rfl rfl) (by omega) ?_
          refine nx _ (fun r q1 q2 => by rw [aUp_row q1, aUp_row q2]) (fun h hh => ?_) ?_ ?_
          · rw [aUp_row (by decide), aUp_same, aUp_same, uF_ne (by omega), uF_ne (by omega)]; exact ⟨rfl, by rw [aUp_row (by decide)]⟩
          · rw [aUp_row (by decide), aUp_same, uF_at, if_pos h25]
          · rw [aUp_same, uF_at, if_pos h25]
  refine VM_go (tg2 rfl) (Nat.le_of_ble_eq_true rfl) ?_
  refine s_ic rfl ?_
  refine s_is3 rfl rfl ?_
  exact loop n 0 D _ (by omega) (fun _ _ _ => rfl) (fun h hh => absurd hh (Nat.not_lt_zero h)) (fun _ _ => ⟨rfl, rfl⟩)
end
