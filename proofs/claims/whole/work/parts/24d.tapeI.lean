/-! ===== the tape's constructor ===== -/
def kwA : Int → Int := fun j => (([104, 111, 117, 115, 101, 32, 101, 118, 101, 110, 116, 32, 115, 104, 97, 114, 101, 32, 108, 97, 121, 101, 114, 32, 104, 111, 117, 114, 115, 32, 109, 105, 108, 101, 115, 32, 111, 102, 32, 111, 119, 110, 32, 119, 104, 101, 110, 32, 111, 118, 101, 114, 32, 97, 103, 97, 105, 110, 32, 97, 116, 32, 116, 111, 32, 97, 110, 100, 32, 111, 114, 32, 110, 111, 116, 32, 99, 97, 117, 115, 101, 32, 100, 97, 121, 32, 108, 111, 115, 115, 101, 115, 32, 100, 105, 114, 101, 99, 116, 32, 104, 105, 116, 32] : List Nat).getD j.toNat 0 : Nat)
/-- the two rows of the String KEYWORDS: its length, its signs (to be shown of the machine) -/
def KwR (G : aCX) (l : Launch) : Prop := (∀ (d : Nat) (i : Int) (st : aSt) (P : Int → aSt → Prop), V G l d iX7_init 59 [rf 2, (0, i)] [(0, 104), (0, i)] st P → V G l d iX7_init 54 [rf 2, (0, i)] [(0, i)] st P) ∧ ∀ (d : Nat) (i n : Int) (st : aSt) (P : Int → aSt → Prop), 0 ≤ i → i < 104 → V G l d iX7_init 86 [rf 2, (0, i)] [(0, kwA i), (0, n), rf 3] st P → V G l d iX7_init 80 [rf 2, (0, i)] [(0, n), rf 3] st P
theorem kwA_in : ∀ i : Nat, i < 104 → 0 ≤ kwA i ∧ kwA i < 128 := by decide +kernel
def kwE (k : Nat) : Nat := ([0, 5, 11, 17, 23, 29, 35, 38, 42, 47, 52, 58, 61, 64, 68, 71, 75, 81, 85, 92, 99, 103] : List Nat).getD k 0
theorem kwA_run : ∀ k : Nat, k < 21 → enF kwA 104 (runE isB kwA 104 (kwE k)) = kwE (k + 1) ∧ kwE k ≤ 104 ∧ pkF 32 96 kwA (runE isB kwA 104 (kwE k)) (runE isL kwA 104 (runE isB kwA 104 (kwE k)) - runE isB kwA 104 (kwE k)) = kw32 k ∧ ¬ 104 ≤ runE isB kwA 104 (kwE k) ∧ isL (kwA (runE isB kwA 104 (kwE k) : Nat)) = true ∧ ¬ 8 < runE isL kwA 104 (runE isB kwA 104 (kwE k)) - runE isB kwA 104 (kwE k) := by decide +kernel
/-- a tape is read by its first n signs alone -/
theorem kw_cong {s : Int → Int} (h : ∀ i : Nat, i < 104 → s i = kwA i) {p : Nat} (hp : p ≤ 104) : runE isB s 104 p = runE isB kwA 104 p ∧ enF s 104 p = enF kwA 104 p := by
  exact ⟨runE_same h, enF_same h⟩
section
variable {G : aCX} {l : Launch} {d : Nat} {K : Nat → aKd} {D : Nat → Int → Int} {P : Int → aSt → Prop}
theorem v_initTape {s : Nat} (hg : SgR G l) (hw : KwR G l) (hc : K 2 = (7, 0, [0, 0, 0, 0, 0, 0, 0, 0])) (h2 : s + 1521 ≤ 200000) (kk : ∀ K' D', (∀ r, r < 2 → K' r = K r ∧ D' r = D r) → (∀ r, 2 ≤ r → r < 5 → K' r = kK r) → D' 2 3 = 0 → (∀ i : Nat, i < 21 → D' 4 i = kw32 i) → P 0 (K', D', (5, s + 1521))) : VM G l (d + 2) iX7_init [rf 2] (K, D, (3, s)) P := by
  have main : ∀ (K0 : Nat → aKd) (D0 : Nat → Int → Int), (∀ r, r < 2 → K0 r = K r ∧ D0 r = D r) → (∀ r, 2 ≤ r → r < 5 → K0 r = kK r) → D0 2 3 = 0 → D0 2 2 = 0 → V G l (d + 2) iX7_init 53 [rf 2, (0, 0)] [] (K0, D0, (5, s + 1521)) P := by
    intro K0 D0 a1 a2 a3 a4
    have hk : KnL K0 := fun r q1 q2 => a2 r (by have : 1 < r := Nat.le_of_ble_eq_true q2; omega) (by have : r < 5 := Nat.le_of_ble_eq_true q1; omega)
    have loop2 : ∀ (n i : Nat) (D1 : Nat → Int → Int), i + n = 21 → (∀ r, r < 2 → D1 r = D0 r) → (∀ j : Nat, j < 104 → D1 3 j = kwA j) → D1 2 3 = 104 → D1 2 2 = (kwE i : Nat) → (∀ j : Nat, j < i → D1 4 j = kw32 j) → V G l (d + 2) iX7_init 105 [rf 2, (0, (i : Int))] [] (K0, D1, (5, s + 1521)) P := by
      intro n
      induction n with
      | zero =>
        intro i D1 hi b1 b2 b3 b4 b5
        have hi2 : i = 21 := by omega
        subst hi2
        refine s_il1 rfl ?_
        refine s_ic rfl ?_
        refine s_cge rfl ?_ ?_
        · intro h108
          refine s_al0 rfl ?_
          refine s_ic rfl ?_
          refine s_pi rfl (hk.at rfl rfl) rfl ?_
          refine s_retv rfl rfl ?_
          refine kk _ _ (fun r hr => ⟨(a1 r hr).1, ?_⟩) a2 aUp_at (fun i hi => ?_)
          · rw [aUp_row (by omega), b1 r hr]; exact (a1 r hr).2
          · rw [aUp_row (by decide)]; exact b5 i hi
        · intro h108
          omega
      | succ n ih =>
        intro i D1 hi b1 b2 b3 b4 b5
        obtain ⟨r1, r2, r3, r4, r5, r6⟩ := kwA_run i (by omega)
        have cb := (kw_cong b2 r2).1
        have pb : runE isB kwA 104 (kwE i) ≤ 104 := by omega
        have cl : runE isL (D1 3) 104 (runE isB kwA 104 (kwE i)) = runE isL kwA 104 (runE isB kwA 104 (kwE i)) := runE_same b2
        refine s_il1 rfl ?_
        refine s_ic rfl ?_
        refine s_cge rfl ?_ ?_
        · intro h108
          omega
        · intro h108
          refine s_al0 rfl ?_
          refine s_callO rfl rfl (Or.inl rfl) rfl rfl (hk.at rfl rfl) (v_advance (s := D1 3) (ws := D1 4) (n := 104) (e := kwE i) hg hk ⟨rfl, rfl, b3, by decide, fun j hj => by rw [b2 j hj]; exact kwA_in j hj⟩ b4 r2 (fun D2 e1 e2 e3 => ?_))
          rw [cb] at e3
          obtain ⟨-, t2, t3, -, t5⟩ := e3
          have k3 : kdF (D1 3) 104 (D1 4) (runE isB kwA 104 (kwE i)) = 3 ∨ 12 ≤ kdF (D1 3) 104 (D1 4) (runE isB kwA 104 (kwE i)) := by
            unfold kdF
            rw [if_neg r4, b2 _ (by omega), if_pos r5, cl, if_neg r6]
            rcases kwF_in (ws := D1 4) (x := pkF 32 96 (D1 3) (runE isB kwA 104 (kwE i)) (runE isL kwA 104 (runE isB kwA 104 (kwE i)) - runE isB kwA 104 (kwE i))) 21 with y | ⟨q, -, -, y⟩
            · exact Or.inl y
            · exact Or.inr (by omega)
          have t5 := t5 k3
          have t7 : D2 2 7 = kw32 i := by
            rw [t5, cl, ← r3]
            exact pkF_congr (fun k hk => b2 _ (by
              have := (runE_sp (p := isL) (s := kwA) (n := 104) (104 - runE isB kwA 104 (kwE i)) (runE isB kwA 104 (kwE i)) (by omega)).1
              omega))
          have t2' : D2 2 2 = (kwE (i + 1) : Nat) := by rw [t2, (kw_cong b2 pb).2, r1]
          show V G l (d + 2) iX7_init 115 [rf 2, (0, (i : Int))] [] (K0, D2, (5, s + 1521)) P
          refine s_al0 rfl ?_
          refine s_gf rfl (hk.at rfl rfl) rfl rfl ?_
          refine s_il1 rfl ?_
          refine s_al0 rfl ?_
          refine s_gl rfl (hk.at rfl rfl) rfl ?_
          refine s_last rfl (hk.at rfl rfl) (by omega) ?_
          refine s_iinc1 rfl rfl ⟨by omega, by omega⟩ ?_
          refine s_go rfl ?_
          rw [t7, show (i : Int) + 1 = ((i + 1 : Nat) : Int) by omega]
          refine ih (i + 1) _ (by omega) (fun r hr => ?_) (fun j hj => ?_) ?_ ?_ (fun j hj => ?_)
          · rw [aUp_row (by omega), e1 r (by omega)]; exact b1 r hr
          · rw [aUp_row (by decide), e1 3 (by decide)]; exact b2 j hj
          · rw [aUp_row (by decide), e2]; exact b3
          · rw [aUp_row (by decide)]; exact t2'
          · rcases (by omega : j < i ∨ j = i) with q | q
            · rw [aUp_ne (by omega), e1 4 (by decide)]; exact b5 j q
            · subst q; exact aUp_at
    have loop1 : ∀ (n i : Nat) (D1 : Nat → Int → Int), i + n = 104 → (∀ r, r < 2 → D1 r = D0 r) → (∀ j : Nat, j < i → D1 3 j = kwA j) → D1 2 3 = (i : Nat) → D1 2 2 = 0 → V G l (d + 2) iX7_init 53 [rf 2, (0, (i : Int))] [] (K0, D1, (5, s + 1521)) P := by
      intro n
      induction n with
      | zero =>
        intro i D1 hi b1 b2 b3 b4
        have hi2 : i = 104 := by omega
        subst hi2
        refine s_il1 rfl ?_
        refine hw.1 (d + 2) _ _ _ ?_
        refine s_cge rfl ?_ ?_
        · intro h59
          refine s_ic rfl ?_
          refine s_is1 rfl rfl ?_
          exact loop2 21 0 D1 rfl b1 b2 b3 b4 (fun j hj => absurd hj (Nat.not_lt_zero j))
        · intro h59
          omega
      | succ n ih =>
        intro i D1 hi b1 b2 b3 b4
        refine s_il1 rfl ?_
        refine hw.1 (d + 2) _ _ _ ?_
        refine s_cge rfl ?_ ?_
        · intro h59
          omega
        · intro h59
          refine s_al0 rfl ?_
          refine s_gi rfl (hk.at rfl rfl) rfl ?_
          rw [b3]
          refine s_ic rfl ?_
          refine s_cge rfl ?_ ?_
          · intro h69
            omega
          · intro h69
            refine s_al0 rfl ?_
            refine s_gf rfl (hk.at rfl rfl) rfl rfl ?_
            refine s_al0 rfl ?_
            refine s_gi rfl (hk.at rfl rfl) rfl ?_
            rw [b3]
            refine hw.2 (d + 2) _ _ _ _ (by omega) (by omega) ?_
            refine s_cast rfl (hk.at rfl rfl) (by omega) (by have := kwA_in i (by omega); omega) ?_
            refine s_al0 rfl ?_
            refine s_dup rfl (by first | decide | (show (2 : Nat) ≠ 1; decide)) ?_
            refine s_gi rfl (hk.at rfl rfl) rfl ?_
            rw [aUp_row (by decide), b3]
            refine s_ic rfl ?_
            refine s_iadd rfl ⟨by omega, by omega⟩ ?_
            refine s_pi rfl (hk.at rfl rfl) rfl ?_
            refine s_iinc1 rfl rfl ⟨by omega, by omega⟩ ?_
            refine s_go rfl ?_
            rw [show (i : Int) + 1 = ((i + 1 : Nat) : Int) by omega]
            refine ih (i + 1) _ (by omega) (fun r hr => ?_) (fun j hj => ?_) aUp_at ?_
            · rw [aUp_row (by omega), aUp_row (by omega)]; exact b1 r hr
            · rw [aUp_row (by decide)]
              rcases (by omega : j < i ∨ j = i) with q | q
              · rw [aUp_ne (by omega)]; exact b2 j q
              · subst q; exact aUp_at
            · rw [aUp_ne (by decide), aUp_row (by decide)]; exact b4
    exact loop1 104 0 D0 rfl (fun _ _ => rfl) (fun j hj => absurd hj (Nat.not_lt_zero j)) a3 a4
  refine VM_go (tg2 rfl) (Nat.le_of_ble_eq_true rfl) ?_
  refine s_al0 rfl ?_
  refine s_oi rfl (by show (Nat.ble (aCat []) 8 && Nat.blt 0 2) = true; have : Nat.blt 0 2 = true := Nat.ble_eq_true_of_le (by omega); rw [this]; rfl) ?_
  refine s_al0 rfl ?_
  refine s_ic rfl ?_
  refine s_newa (n := 1500) rfl ⟨by show _ ≤ 2000; omega, by show _ ≤ 200000; omega⟩ ?_
  refine s_pf rfl (by first | (rw [aUk_ne (by show 2 ≠ _; omega), aUk_at]) | (rw [aUk_at]) | (rw [aUk_ne (by show 2 ≠ _; omega)]; exact hc) | exact hc) rfl rfl ?_
  refine s_al0 rfl ?_
  refine s_ic rfl ?_
  refine s_newa (n := 21) rfl ⟨by show _ ≤ 2000; omega, by show _ ≤ 200000; omega⟩ ?_
  refine s_pf rfl (by first | (rw [aUk_ne (by show 2 ≠ _; omega), aUk_at]) | (rw [aUk_at]) | (rw [aUk_ne (by show 2 ≠ _; omega)]; exact hc) | exact hc) rfl rfl ?_
  refine s_al0 rfl ?_
  refine s_ic rfl ?_
  refine s_pi rfl (by first | (rw [aUk_ne (by show 2 ≠ _; omega), aUk_at]) | (rw [aUk_at]) | (rw [aUk_ne (by show 2 ≠ _; omega)]; exact hc) | exact hc) rfl ?_
  refine s_al0 rfl ?_
  refine s_ic rfl ?_
  refine s_pi rfl (by first | (rw [aUk_ne (by show 2 ≠ _; omega), aUk_at]) | (rw [aUk_at]) | (rw [aUk_ne (by show 2 ≠ _; omega)]; exact hc) | exact hc) rfl ?_
  refine s_al0 rfl ?_
  refine s_ic rfl ?_
  refine s_pi rfl (by first | (rw [aUk_ne (by show 2 ≠ _; omega), aUk_at]) | (rw [aUk_at]) | (rw [aUk_ne (by show 2 ≠ _; omega)]; exact hc) | exact hc) rfl ?_
  refine s_al0 rfl ?_
  refine s_ic rfl ?_
  refine s_pi rfl (by first | (rw [aUk_ne (by show 2 ≠ _; omega), aUk_at]) | (rw [aUk_at]) | (rw [aUk_ne (by show 2 ≠ _; omega)]; exact hc) | exact hc) rfl ?_
  refine s_al0 rfl ?_
  refine s_ic rfl ?_
  refine s_pi rfl (by first | (rw [aUk_ne (by show 2 ≠ _; omega), aUk_at]) | (rw [aUk_at]) | (rw [aUk_ne (by show 2 ≠ _; omega)]; exact hc) | exact hc) rfl ?_
  refine s_al0 rfl ?_
  refine s_lc rfl ?_
  refine s_pl rfl (by first | (rw [aUk_ne (by show 2 ≠ _; omega), aUk_at]) | (rw [aUk_at]) | (rw [aUk_ne (by show 2 ≠ _; omega)]; exact hc) | exact hc) rfl ?_
  refine s_ic rfl ?_
  refine s_is1 rfl rfl ?_
  refine main _ _ (fun r hr => ⟨?_, ?_⟩) (fun r q1 q2 => ?_) ?_ ?_
  · repeat' rw [aUk_ne (by omega)]
  · repeat' first | rw [aUz_ne (by omega)] | rw [aUp_row (by omega)]
  · rcases (by omega : r = 2 ∨ r = 3 ∨ r = 4) with q | q | q <;> subst q <;> rfl
  · rfl
  · rfl
end
