/-! ===== late told: the class ===== -/
section
variable {G : aCX} {l : Launch} {d : Nat} {K : Nat → aKd} {D : Nat → Int → Int} {z : Nat × Nat} {P : Int → aSt → Prop}
/-- the book's numbers are in their bounds -/
def BkB (D : Nat → Int → Int) : Prop := (∀ lo : Int, 0 ≤ lo → lo < D 89 0 → (0 ≤ D 90 lo ∧ D 90 lo < 12) ∧ (0 ≤ D 91 lo ∧ D 91 lo < 240000) ∧ (0 ≤ D 92 lo ∧ D 92 lo < 1000) ∧ (0 ≤ D 93 lo ∧ D 93 lo < 8) ∧ (0 ≤ D 94 lo ∧ D 94 lo < 6) ∧ (D 95 lo = 0 ∨ D 95 lo = 1)) ∧ ∀ k : Nat, k < (D 89 1).toNat → 0 ≤ D 99 k ∧ D 99 k ≤ 100000
abbrev laC (D : Nat → Int → Int) (wo : Int → Int) := laF (D 91) wo (D 98) (D 99) (D 89 1).toNat
abbrev knC (D : Nat → Int → Int) (wo : Int → Int) := knF (D 90) (D 91) wo (D 98) (D 99) (D 89 0).toNat (D 89 1).toNat
abbrev soC (D : Nat → Int → Int) (wo : Int → Int) := soF (D 90) (D 91) wo (D 98) (D 99) (D 89 0).toNat (D 89 1).toNat
abbrev faC (D : Nat → Int → Int) (wo : Int → Int) := faF (D 90) (D 91) wo (D 98) (D 99) (D 89 0).toNat (D 89 1).toNat
theorem v_lateDay {y lag : Int} (hy : -2 ≤ y ∧ y ≤ 30) (hl : -2 ≤ lag ∧ lag ≤ 20) (kk : P ((y + 1 + lag) * 365 - 1) (K, D, z)) : VM G l d iX0_lateDay [(0, y), (0, lag)] (K, D, z) P := by
  refine VM_go (tg2 rfl) (Nat.le_of_ble_eq_true rfl) ?_
  refine s_il0 rfl ?_
  refine s_ic rfl ?_
  refine s_iadd rfl ⟨by omega, by omega⟩ ?_
  refine s_il1 rfl ?_
  refine s_iadd rfl ⟨by omega, by omega⟩ ?_
  refine s_ic rfl ?_
  refine s_imul rfl ⟨by omega, by omega⟩ ?_
  refine s_ic rfl ?_
  refine s_isub rfl ⟨by omega, by omega⟩ ?_
  refine s_reti rfl rfl ?_
  exact kk
theorem v_lateAmount {k : Nat} {lag : Int} {wo : Int → Int} (hk : Kn K) (hc : ChR D wo) (hb : BkB D) (hl : (k : Int) < D 89 0) (hg : 0 ≤ lag ∧ lag ≤ 10) (kk : P (laC D wo k lag) (K, D, z)) : VM G l (d + 1) iX0_lateAmount [rf 89, (0, (k : Int)), (0, lag)] (K, D, z) P := by
  have hh := (hb.1 k (by omega) hl).2.1
  have h60 := hc.2.2.2.2.2
  refine VM_go (tg2 rfl) (Nat.le_of_ble_eq_true rfl) ?_
  refine s_ic rfl ?_
  refine s_al0 rfl ?_
  refine s_il1 rfl ?_
  refine s_al0 rfl ?_
  refine s_il1 rfl ?_
  refine s_callO rfl rfl (Or.inl rfl) rfl rfl (hk.at rfl rfl) (v_yearOf hk (by omega) hh ?_)
  refine s_il2 rfl ?_
  refine s_callS rfl rfl rfl rfl (v_lateDay (by omega) (by omega) ?_)
  refine s_callO rfl rfl (Or.inl rfl) rfl rfl (hk.at rfl rfl) (v_amountOn hk hc (by omega) ?_)
  refine s_max rfl rfl ?_
  refine s_reti rfl rfl ?_
  have e : laC D wo k lag = ps (amF wo (D 98) (D 99) k ((D 91 k / 24 / 365 + 1 + lag) * 365 - 1) (D 89 1).toNat) := rfl
  rw [e] at kk
  generalize amF wo (D 98) (D 99) k ((D 91 k / 24 / 365 + 1 + lag) * 365 - 1) (D 89 1).toNat = x at kk ⊢
  unfold ps at kk
  by_cases hx : x < 0
  · rw [if_pos hx] at kk; rw [if_neg (by omega)]; exact kk
  · rw [if_neg hx] at kk
    by_cases h0 : 0 < x
    · rw [if_pos h0]; exact kk
    · rw [if_neg h0, show (0 : Int) = x by omega]; exact kk
theorem v_sumOfYear {h y lag : Int} {wo : Int → Int} (hk : Kn K) (hc : ChR D wo) (hb : BkB D) (hg : 0 ≤ lag ∧ lag ≤ 10) (kk : P (knC D wo h y lag) (K, D, z)) : VM G l (d + 2) iX0_sumOfYear [rf 89, (0, h), (0, y), (0, lag)] (K, D, z) P := by
  have c5 := hc.2.2.2.2.1
  have c6 := hc.2.2.2.2.2
  have hin : ∀ n, n ≤ 60 → 0 ≤ sumF (knG (D 90) (D 91) wo (D 98) (D 99) (D 89 1).toNat h y lag) n ∧ sumF (knG (D 90) (D 91) wo (D 98) (D 99) (D 89 1).toNat h y lag) n ≤ 6000000 := fun n hn => sum_in (fun _ => knG_in hb.2) hn
  have loop : ∀ (n k : Nat), k + n = (D 89 0).toNat → V G l (d + 2) iX0_sumOfYear 6 [rf 89, (0, h), (0, y), (0, lag), (0, sumF (knG (D 90) (D 91) wo (D 98) (D 99) (D 89 1).toNat h y lag) k), (0, (k : Int))] [] (K, D, z) P := by
    intro n
    induction n with
    | zero =>
      intro k h1
      have hk0 : k = (D 89 0).toNat := by omega
      refine s_il5 rfl ?_
      refine s_al0 rfl ?_
      refine s_gi rfl (hk.at rfl rfl) rfl ?_
      refine s_cge rfl ?_ ?_
      · intro h12
        refine s_il4 rfl ?_
        refine s_reti rfl rfl ?_
        rw [hk0]
        exact kk
      · intro h12
        omega
    | succ n ih =>
      intro k h1
      have hh := (hb.1 k (by omega) (by omega)).2.1
      have i1 := hin k (by omega)
      have i2 := hin (k + 1) (by omega)
      have e : sumF (knG (D 90) (D 91) wo (D 98) (D 99) (D 89 1).toNat h y lag) (k + 1) = sumF (knG (D 90) (D 91) wo (D 98) (D 99) (D 89 1).toNat h y lag) k + (if D 90 k = h ∧ D 91 k / 24 / 365 = y then laC D wo k lag else 0) := rfl
      have step : ∀ w : Int, w = sumF (knG (D 90) (D 91) wo (D 98) (D 99) (D 89 1).toNat h y lag) (k + 1) → V G l (d + 2) iX0_sumOfYear 48 [rf 89, (0, h), (0, y), (0, lag), (0, w), (0, (k : Int))] [] (K, D, z) P := by
        intro w hw
        subst hw
        refine s_iinc5 rfl rfl ⟨by omega, by omega⟩ ?_
        refine s_go rfl ?_
        exact ih (k + 1) (by omega)
      refine s_il5 rfl ?_
      refine s_al0 rfl ?_
      refine s_gi rfl (hk.at rfl rfl) rfl ?_
      refine s_cge rfl ?_ ?_
      · intro h12
        omega
      · intro h12
        refine s_al0 rfl ?_
        refine s_gf rfl (hk.at rfl rfl) rfl rfl ?_
        refine s_il5 rfl ?_
        refine s_iald rfl (hk.at rfl rfl) (by omega) ?_
        refine s_il1 rfl ?_
        refine s_cne rfl ?_ ?_
        · intro h23
          exact step _ (by rw [e, if_neg (fun q => h23 q.1)]; omega)
        · intro h23
          refine s_al0 rfl ?_
          refine s_il5 rfl ?_
          refine s_callO rfl rfl (Or.inl rfl) rfl rfl (hk.at rfl rfl) (v_yearOf hk (by omega) hh ?_)
          refine s_il2 rfl ?_
          refine s_cne rfl ?_ ?_
          · intro h33
            exact step _ (by rw [e, if_neg (fun q => h33 q.2)]; omega)
          · intro h33
            rw [if_pos ⟨h23, h33⟩] at e
            refine s_il4 rfl ?_
            refine s_al0 rfl ?_
            refine s_il5 rfl ?_
            refine s_il3 rfl ?_
            refine s_callO rfl rfl (Or.inl rfl) rfl rfl (hk.at rfl rfl) (v_lateAmount hk hc hb (by omega) hg ?_)
            refine s_iadd rfl ⟨by omega, by omega⟩ ?_
            refine s_is4 rfl rfl ?_
            exact step _ e.symm
  refine VM_go (tg2 rfl) (Nat.le_of_ble_eq_true rfl) ?_
  refine s_ic rfl ?_
  refine s_is4 rfl rfl ?_
  refine s_ic rfl ?_
  refine s_is5 rfl rfl ?_
  exact loop (D 89 0).toNat 0 (by omega)
theorem v_growth {h lag v : Int} {wo : Int → Int} (hk : Kn K) (hc : ChR D wo) (hb : BkB D) (hg : 0 ≤ lag ∧ lag ≤ 8) (kk : P (faC D wo h lag v) (K, D, z)) : VM G l (d + 2) iX0_growth [rf 89, (0, h), (0, lag), (0, v)] (K, D, z) P := by
  have c5 := hc.2.2.2.2.1
  have c6 := hc.2.2.2.2.2
  have hin : ∀ q n, n ≤ 60 → 0 ≤ sumF (soG (D 90) (D 91) wo (D 98) (D 99) (D 89 1).toNat h lag v q) n ∧ sumF (soG (D 90) (D 91) wo (D 98) (D 99) (D 89 1).toNat h lag v q) n ≤ 6000000 := fun q n hn => sum_in (fun _ => soG_in hb.2) hn
  have loop : ∀ (n k : Nat), k + n = (D 89 0).toNat → V G l (d + 2) iX0_growth 9 [rf 89, (0, h), (0, lag), (0, v), (1, sumF (soG (D 90) (D 91) wo (D 98) (D 99) (D 89 1).toNat h lag v lag) k), (9, 0), (1, sumF (soG (D 90) (D 91) wo (D 98) (D 99) (D 89 1).toNat h lag v (lag + 1)) k), (9, 0), (0, (k : Int))] [] (K, D, z) P := by
    intro n
    induction n with
    | zero =>
      intro k h1
      have hk0 : k = (D 89 0).toNat := by omega
      have i1 := hin lag k (by omega)
      have i2 := hin (lag + 1) k (by omega)
      have ek : faC D wo h lag v = if sumF (soG (D 90) (D 91) wo (D 98) (D 99) (D 89 1).toNat h lag v lag) k = 0 then 1000 else if 1000 * sumF (soG (D 90) (D 91) wo (D 98) (D 99) (D 89 1).toNat h lag v (lag + 1)) k / sumF (soG (D 90) (D 91) wo (D 98) (D 99) (D 89 1).toNat h lag v lag) k < 1000000 then 1000 * sumF (soG (D 90) (D 91) wo (D 98) (D 99) (D 89 1).toNat h lag v (lag + 1)) k / sumF (soG (D 90) (D 91) wo (D 98) (D 99) (D 89 1).toNat h lag v lag) k else 1000000 := by rw [hk0]; rfl
      rw [ek] at kk
      generalize sumF (soG (D 90) (D 91) wo (D 98) (D 99) (D 89 1).toNat h lag v lag) k = so at kk i1 ⊢
      generalize sumF (soG (D 90) (D 91) wo (D 98) (D 99) (D 89 1).toNat h lag v (lag + 1)) k = la at kk i2 ⊢
      have ed : (1000 * la).tdiv so = 1000 * la / so := Int.tdiv_eq_ediv_of_nonneg (by omega)
      have e0 := Int.ediv_nonneg (a := 1000 * la) (b := so) (by omega) i1.1
      have e1 : so ≠ 0 → 1000 * la / so ≤ 1000 * la := fun _ => Int.ediv_le_self _ (by omega)
      refine s_il8 rfl ?_
      refine s_al0 rfl ?_
      refine s_gi rfl (hk.at rfl rfl) rfl ?_
      refine s_cge rfl ?_ ?_
      · intro h15
        refine s_ll4 rfl ?_
        refine s_lc rfl ?_
        refine s_lcmp rfl ?_
        refine s_zne rfl ?_ ?_
        · intro h83
          have h83 : ¬ so = 0 := fun q => h83 (cmp3_eq.mpr q)
          have e1 := e1 h83
          rw [if_neg h83] at kk
          refine s_lc rfl ?_
          refine s_lc rfl ?_
          refine s_ll6 rfl ?_
          refine s_lmul rfl ⟨by omega, by omega⟩ ?_
          refine s_ll4 rfl ?_
          refine s_ldiv rfl h83 (by rw [ed]; exact ⟨by omega, by omega⟩) ?_
          rw [ed]
          refine s_minL rfl rfl ?_
          refine s_l2i rfl (by split <;> exact ⟨by omega, by omega⟩) ?_
          refine s_reti rfl rfl ?_
          exact kk
        · intro h83
          have h83 := cmp3_eq.mp h83
          rw [if_pos h83] at kk
          refine s_ic rfl ?_
          refine s_reti rfl rfl ?_
          exact kk
      · intro h15
        omega
    | succ n ih =>
      intro k h1
      have hh := (hb.1 k (by omega) (by omega)).2.1
      have i1 := hin lag k (by omega)
      have i2 := hin lag (k + 1) (by omega)
      have i3 := hin (lag + 1) k (by omega)
      have i4 := hin (lag + 1) (k + 1) (by omega)
      have e : ∀ q, sumF (soG (D 90) (D 91) wo (D 98) (D 99) (D 89 1).toNat h lag v q) (k + 1) = sumF (soG (D 90) (D 91) wo (D 98) (D 99) (D 89 1).toNat h lag v q) k + (if D 90 k = h ∧ (D 91 k / 24 / 365 + 1 + (lag + 1)) * 365 - 1 ≤ v then laC D wo k q else 0) := fun q => rfl
      have f1 := e lag
      have f2 := e (lag + 1)
      have step : ∀ w u : Int, w = sumF (soG (D 90) (D 91) wo (D 98) (D 99) (D 89 1).toNat h lag v lag) (k + 1) → u = sumF (soG (D 90) (D 91) wo (D 98) (D 99) (D 89 1).toNat h lag v (lag + 1)) (k + 1) → V G l (d + 2) iX0_growth 73 [rf 89, (0, h), (0, lag), (0, v), (1, w), (9, 0), (1, u), (9, 0), (0, (k : Int))] [] (K, D, z) P := by
        intro w u hw hu
        subst hw hu
        refine s_iinc8 rfl rfl ⟨by omega, by omega⟩ ?_
        refine s_go rfl ?_
        exact ih (k + 1) (by omega)
      refine s_il8 rfl ?_
      refine s_al0 rfl ?_
      refine s_gi rfl (hk.at rfl rfl) rfl ?_
      refine s_cge rfl ?_ ?_
      · intro h15
        omega
      · intro h15
        refine s_al0 rfl ?_
        refine s_gf rfl (hk.at rfl rfl) rfl rfl ?_
        refine s_il8 rfl ?_
        refine s_iald rfl (hk.at rfl rfl) (by omega) ?_
        refine s_il1 rfl ?_
        refine s_cne rfl ?_ ?_
        · intro h26
          rw [if_neg (fun q => h26 q.1)] at f1 f2
          exact step _ _ (by omega) (by omega)
        · intro h26
          refine s_al0 rfl ?_
          refine s_il8 rfl ?_
          refine s_callO rfl rfl (Or.inl rfl) rfl rfl (hk.at rfl rfl) (v_yearOf hk (by omega) hh ?_)
          refine s_il2 rfl ?_
          refine s_ic rfl ?_
          refine s_iadd rfl ⟨by omega, by omega⟩ ?_
          refine s_callS rfl rfl rfl rfl (v_lateDay (by omega) (by omega) ?_)
          refine s_il3 rfl ?_
          refine s_cgt rfl ?_ ?_
          · intro h42
            rw [if_neg (by omega)] at f1 f2
            exact step _ _ (by omega) (by omega)
          · intro h42
            rw [if_pos ⟨h26, h42⟩] at f1 f2
            refine s_ll4 rfl ?_
            refine s_al0 rfl ?_
            refine s_il8 rfl ?_
            refine s_il2 rfl ?_
            refine s_callO rfl rfl (Or.inl rfl) rfl rfl (hk.at rfl rfl) (v_lateAmount hk hc hb (by omega) (by omega) ?_)
            refine s_i2l rfl ?_
            refine s_ladd rfl ⟨by omega, by omega⟩ ?_
            refine s_ls4 rfl rfl ?_
            refine s_ll6 rfl ?_
            refine s_al0 rfl ?_
            refine s_il8 rfl ?_
            refine s_il2 rfl ?_
            refine s_ic rfl ?_
            refine s_iadd rfl ⟨by omega, by omega⟩ ?_
            refine s_callO rfl rfl (Or.inl rfl) rfl rfl (hk.at rfl rfl) (v_lateAmount hk hc hb (by omega) (by omega) ?_)
            refine s_i2l rfl ?_
            refine s_ladd rfl ⟨by omega, by omega⟩ ?_
            refine s_ls6 rfl rfl ?_
            exact step _ _ f1.symm f2.symm
  refine VM_go (tg2 rfl) (Nat.le_of_ble_eq_true rfl) ?_
  refine s_lc rfl ?_
  refine s_ls4 rfl rfl ?_
  refine s_lc rfl ?_
  refine s_ls6 rfl rfl ?_
  refine s_ic rfl ?_
  refine s_is8 rfl rfl ?_
  exact loop (D 89 0).toNat 0 (by omega)
theorem v_foretell {h y v : Int} {wo : Int → Int} (hk : Kn K) (hc : ChR D wo) (hb : BkB D) (hy : 0 ≤ y ∧ y ≤ 26) (kk : P (if lgF y v 10 (-1) = -1 then -1 else foI (fun i => faC D wo h i v) (9 - lgF y v 10 (-1)).toNat (lgF y v 10 (-1)) (knC D wo h y (lgF y v 10 (-1)))) (K, D, z)) : VM G l (d + 3) iX0_foretell [rf 89, (0, h), (0, y), (0, v)] (K, D, z) P := by
  have c5 := hc.2.2.2.2.1
  have c6 := hc.2.2.2.2.2
  have hfa : ∀ i, 0 ≤ faC D wo h i v ∧ faC D wo h i v ≤ 1000000 := fun i => faF_in (by omega) hb.2
  have loop2 : ∀ (n : Nat) (i s u : Int), i + n = 9 → 0 ≤ i → 0 ≤ s ∧ s ≤ 1000000000 → P (foI (fun i => faC D wo h i v) n i s) (K, D, z) → V G l (d + 3) iX0_foretell 51 [rf 89, (0, h), (0, y), (0, v), (0, u), (1, s), (9, 0), (0, i)] [] (K, D, z) P := by
    intro n
    induction n with
    | zero =>
      intro i s u h1 h2 h3 kk
      refine s_il7 rfl ?_
      refine s_ic rfl ?_
      refine s_cge rfl ?_ ?_
      · intro h55
        refine s_ll5 rfl ?_
        refine s_l2i rfl ⟨by omega, by omega⟩ ?_
        refine s_reti rfl rfl ?_
        exact kk
      · intro h55
        omega
    | succ n ih =>
      intro i s u h1 h2 h3 kk
      have hf := hfa i
      have hm : 0 ≤ s * faC D wo h i v ∧ s * faC D wo h i v ≤ 1000000000 * 1000000 := ⟨Int.mul_nonneg h3.1 hf.1, Int.mul_le_mul h3.2 hf.2 hf.1 (by decide)⟩
      have ed : (s * faC D wo h i v).tdiv 1000 = s * faC D wo h i v / 1000 := Int.tdiv_eq_ediv_of_nonneg hm.1
      rw [foI] at kk
      refine s_il7 rfl ?_
      refine s_ic rfl ?_
      refine s_cge rfl ?_ ?_
      · intro h55
        omega
      · intro h55
        refine s_lc rfl ?_
        refine s_ll5 rfl ?_
        refine s_al0 rfl ?_
        refine s_il1 rfl ?_
        refine s_il7 rfl ?_
        refine s_il3 rfl ?_
        refine s_callO rfl rfl (Or.inl rfl) rfl rfl (hk.at rfl rfl) (v_growth hk hc hb (by omega) ?_)
        refine s_i2l rfl ?_
        refine s_lmul rfl ⟨by omega, by omega⟩ ?_
        refine s_lc rfl ?_
        refine s_ldiv rfl (by decide) (by rw [ed]; exact ⟨by omega, by omega⟩) ?_
        rw [ed]
        refine s_minL rfl rfl ?_
        refine s_ls5 rfl rfl ?_
        refine s_iinc7 rfl rfl ⟨by omega, by omega⟩ ?_
        refine s_go rfl ?_
        exact ih (i + 1) _ u (by omega) (by omega) (by split <;> omega) kk
  have loop1 : ∀ (n : Nat) (i : Int), i + n = 9 → -1 ≤ i → P (if lgF y v n i = -1 then -1 else foI (fun i => faC D wo h i v) (9 - lgF y v n i).toNat (lgF y v n i) (knC D wo h y (lgF y v n i))) (K, D, z) → V G l (d + 3) iX0_foretell 3 [rf 89, (0, h), (0, y), (0, v), (0, i), (9, 0), (9, 0), (9, 0)] [] (K, D, z) P := by
    have fin : ∀ i : Int, -1 ≤ i → i ≤ 9 → P (if i = -1 then -1 else foI (fun i => faC D wo h i v) (9 - i).toNat i (knC D wo h y i)) (K, D, z) → V G l (d + 3) iX0_foretell 28 [rf 89, (0, h), (0, y), (0, v), (0, i), (9, 0), (9, 0), (9, 0)] [] (K, D, z) P := by
      intro i h1 h2 kk
      refine s_il4 rfl ?_
      refine s_ic rfl ?_
      refine s_cne rfl ?_ ?_
      · intro h31
        rw [if_neg h31] at kk
        refine s_al0 rfl ?_
        refine s_il1 rfl ?_
        refine s_il2 rfl ?_
        refine s_il4 rfl ?_
        refine s_callO rfl rfl (Or.inl rfl) rfl rfl (hk.at rfl rfl) (v_sumOfYear hk hc hb (by omega) ?_)
        refine s_i2l rfl ?_
        refine s_ls5 rfl rfl ?_
        refine s_il4 rfl ?_
        refine s_is7 rfl rfl ?_
        exact loop2 _ i _ i (by omega) (by omega) (by have := knF_in (hs := D 90) (hr := D 91) (wo := wo) (wd := D 98) (h := h) (y := y) (lag := i) (nl := (D 89 0).toNat) (by omega) hb.2; exact ⟨this.1, Int.le_trans this.2 (by decide)⟩) kk
      · intro h31
        rw [if_pos h31] at kk
        refine s_ic rfl ?_
        refine s_reti rfl rfl ?_
        exact kk
    intro n
    induction n with
    | zero =>
      intro i h1 h2 kk
      refine s_il4 rfl ?_
      refine s_ic rfl ?_
      refine s_cge rfl ?_ ?_
      · intro h7
        exact fin i h2 (by omega) kk
      · intro h7
        omega
    | succ n ih =>
      intro i h1 h2 kk
      have e : lgF y v (n + 1) i = if (y + 1 + (i + 1)) * 365 - 1 ≤ v then lgF y v n (i + 1) else i := rfl
      refine s_il4 rfl ?_
      refine s_ic rfl ?_
      refine s_cge rfl ?_ ?_
      · intro h7
        omega
      · intro h7
        refine s_il2 rfl ?_
        refine s_il4 rfl ?_
        refine s_ic rfl ?_
        refine s_iadd rfl ⟨by omega, by omega⟩ ?_
        refine s_callS rfl rfl rfl rfl (v_lateDay (by omega) (by omega) ?_)
        refine s_il3 rfl ?_
        refine s_cgt rfl ?_ ?_
        · intro h19
          rw [if_neg (by omega)] at e
          rw [e] at kk
          exact fin i h2 (by omega) kk
        · intro h19
          rw [if_pos h19] at e
          rw [e] at kk
          refine s_iinc4 rfl rfl ⟨by omega, by omega⟩ ?_
          refine s_go rfl ?_
          exact ih (i + 1) (by omega) (by omega) kk
  refine VM_go (tg2 rfl) (Nat.le_of_ble_eq_true rfl) ?_
  refine s_ic rfl ?_
  refine s_is4 rfl rfl ?_
  exact loop1 10 (-1) (by omega) (by omega) kk
end
