/-! ===== amounts by the words ===== -/
section
variable {G : aCX} {l : Launch} {d : Nat} {K : Nat → aKd} {D : Nat → Int → Int} {z : Nat × Nat} {P : Int → aSt → Prop}
/-- the chains of the words: each loss's last word, each word's one ahead -/
def ChR (D : Nat → Int → Int) (wo : Int → Int) : Prop := (∀ k : Nat, (k : Int) < D 89 1 → D 100 k = pvF wo (wo k) k) ∧ (∀ lo : Int, 0 ≤ lo → lo < D 89 0 → D 97 lo = pvF wo lo (D 89 1).toNat) ∧ 0 ≤ D 89 1 ∧ D 89 1 ≤ 300 ∧ 0 ≤ D 89 0 ∧ D 89 0 ≤ 60
theorem v_amountOn {lo day : Int} {wo : Int → Int} (hk : Kn K) (hc : ChR D wo) (hl : 0 ≤ lo ∧ lo < D 89 0) (kk : P (amF wo (D 98) (D 99) lo day (D 89 1).toNat) (K, D, z)) : VM G l d iX0_amountOn [rf 89, (0, lo), (0, day)] (K, D, z) P := by
  obtain ⟨c1, c2, c3, c4, c5, c6⟩ := hc
  have loop : ∀ (n k : Nat) (i : Int), k ≤ n → (k : Int) ≤ D 89 1 → 0 ≤ i → i + k ≤ 300 → P (amF wo (D 98) (D 99) lo day k) (K, D, z) → V G l d iX0_amountOn 10 [rf 89, (0, lo), (0, day), (0, pvF wo lo k), (0, i)] [] (K, D, z) P := by
    intro n
    induction n with
    | zero =>
      intro k i h1 h2 h3 h4 kk
      have hk0 : k = 0 := by omega
      subst hk0
      have e0 : pvF wo lo 0 = -1 := rfl
      rw [e0]
      refine s_il4 rfl ?_
      refine s_ic rfl ?_
      refine s_cge rfl ?_ ?_
      · intro h15
        refine s_ic rfl ?_
        exact s_reti rfl rfl kk
      · intro h15
        refine s_il3 rfl ?_
        refine s_zlt rfl ?_ ?_
        · intro h19
          refine s_ic rfl ?_
          refine s_reti rfl rfl ?_
          exact kk
        · intro h19
          omega
    | succ n ih =>
      intro k i h1 h2 h3 h4 kk
      have hlt := pvF_lt wo lo k
      have hof := pvF_of wo lo k
      have ham := amF_pv wo (D 98) (D 99) lo day k
      generalize hp : pvF wo lo k = w at *
      refine s_il4 rfl ?_
      refine s_ic rfl ?_
      refine s_cge rfl ?_ ?_
      · intro h15
        have hk0 : k = 0 := by omega
        subst hk0
        refine s_ic rfl ?_
        exact s_reti rfl rfl kk
      · intro h15
        refine s_il3 rfl ?_
        refine s_zlt rfl ?_ ?_
        · intro h19
          rw [if_pos (by omega)] at ham
          refine s_ic rfl ?_
          refine s_reti rfl rfl ?_
          rw [ham] at kk
          exact kk
        · intro h19
          have h20 : ¬ w = -1 := by omega
          refine s_il3 rfl ?_
          refine s_al0 rfl ?_
          refine s_gi rfl (hk.at rfl rfl) rfl ?_
          refine s_cge rfl ?_ ?_
          · intro h27
            omega
          · intro h27
            refine s_al0 rfl ?_
            refine s_gf rfl (hk.at rfl rfl) rfl rfl ?_
            refine s_il3 rfl ?_
            refine s_iald rfl (hk.at rfl rfl) (by omega) ?_
            refine s_il2 rfl ?_
            refine s_cgt rfl ?_ ?_
            · intro h37
              rw [if_neg h20, if_neg (by omega)] at ham
              refine s_al0 rfl ?_
              refine s_gf rfl (hk.at rfl rfl) rfl rfl ?_
              refine s_il3 rfl ?_
              refine s_iald rfl (hk.at rfl rfl) (by omega) ?_
              have hwk := c1 w.toNat (by omega)
              rw [Int.toNat_of_nonneg (by omega), hof h20] at hwk
              rw [hwk]
              refine s_is3 rfl rfl ?_
              refine s_iinc4 rfl rfl ⟨by omega, by omega⟩ ?_
              refine s_go rfl ?_
              exact ih w.toNat (i + 1) (by omega) (by omega) (by omega) (by omega) (by rw [ham] at kk; exact kk)
            · intro h37
              rw [if_neg h20, if_pos h37] at ham
              rw [ham] at kk
              refine s_al0 rfl ?_
              refine s_gf rfl (hk.at rfl rfl) rfl rfl ?_
              refine s_il3 rfl ?_
              refine s_iald rfl (hk.at rfl rfl) (by omega) ?_
              refine s_reti rfl rfl ?_
              exact kk
  refine VM_go (tg2 rfl) (Nat.le_of_ble_eq_true rfl) ?_
  refine s_al0 rfl ?_
  refine s_gf rfl (hk.at rfl rfl) rfl rfl ?_
  refine s_il1 rfl ?_
  refine s_iald rfl (hk.at rfl rfl) (by omega) ?_
  rw [c2 lo hl.1 hl.2]
  refine s_is3 rfl rfl ?_
  refine s_ic rfl ?_
  refine s_is4 rfl rfl ?_
  exact loop _ _ 0 (Nat.le_refl _) (by omega) (by omega) (by omega) kk
/-- the reference's -/
theorem u_amountOn {lo day : Int} (hk : Kn K) (hw : 0 ≤ D 210 45 ∧ D 210 45 ≤ 300) (kk : P (amF (D 245) (D 246) (D 247) lo day (D 210 45).toNat) (K, D, z)) : VM G l d iX12_amountOn [rf 210, (0, lo), (0, day)] (K, D, z) P := by
  have loop : ∀ (n k : Nat), k + n = (D 210 45).toNat → V G l d iX12_amountOn 5 [rf 210, (0, lo), (0, day), (0, amF (D 245) (D 246) (D 247) lo day k), (0, (k : Int))] [] (K, D, z) P := by
    intro n
    induction n with
    | zero =>
      intro k h1
      have hk0 : k = (D 210 45).toNat := by omega
      refine s_il4 rfl ?_
      refine s_al0 rfl ?_
      refine s_gi rfl (hk.at rfl rfl) rfl ?_
      refine s_cge rfl ?_ ?_
      · intro h11
        refine s_il3 rfl ?_
        refine s_reti rfl rfl ?_
        rw [hk0]
        exact kk
      · intro h11
        omega
    | succ n ih =>
      intro k h1
      have step : ∀ w : Int, w = amF (D 245) (D 246) (D 247) lo day (k + 1) → V G l d iX12_amountOn 47 [rf 210, (0, lo), (0, day), (0, amF (D 245) (D 246) (D 247) lo day k), (0, (k : Int))] [(0, w)] (K, D, z) P := by
        intro w hw
        subst hw
        refine s_is3 rfl rfl ?_
        refine s_iinc4 rfl rfl ⟨by omega, by omega⟩ ?_
        refine s_go rfl ?_
        exact ih (k + 1) (by omega)
      have e : amF (D 245) (D 246) (D 247) lo day (k + 1) = if D 245 k = lo ∧ D 246 k ≤ day then D 247 k else amF (D 245) (D 246) (D 247) lo day k := rfl
      refine s_il4 rfl ?_
      refine s_al0 rfl ?_
      refine s_gi rfl (hk.at rfl rfl) rfl ?_
      refine s_cge rfl ?_ ?_
      · intro h11
        omega
      · intro h11
        refine s_al0 rfl ?_
        refine s_gf rfl (hk.at rfl rfl) rfl rfl ?_
        refine s_il4 rfl ?_
        refine s_iald rfl (hk.at rfl rfl) (by omega) ?_
        refine s_il1 rfl ?_
        refine s_cne rfl ?_ ?_
        · intro h22
          refine s_il3 rfl ?_
          exact step _ (by rw [e]; first | rw [if_pos ⟨by omega, by omega⟩] | rw [if_neg (by omega)])
        · intro h22
          refine s_al0 rfl ?_
          refine s_gf rfl (hk.at rfl rfl) rfl rfl ?_
          refine s_il4 rfl ?_
          refine s_iald rfl (hk.at rfl rfl) (by omega) ?_
          refine s_il2 rfl ?_
          refine s_cgt rfl ?_ ?_
          · intro h33
            refine s_il3 rfl ?_
            exact step _ (by rw [e]; first | rw [if_pos ⟨by omega, by omega⟩] | rw [if_neg (by omega)])
          · intro h33
            refine s_al0 rfl ?_
            refine s_gf rfl (hk.at rfl rfl) rfl rfl ?_
            refine s_il4 rfl ?_
            refine s_iald rfl (hk.at rfl rfl) (by omega) ?_
            refine s_go rfl ?_
            exact step _ (by rw [e]; first | rw [if_pos ⟨by omega, by omega⟩] | rw [if_neg (by omega)])
  refine VM_go (tg2 rfl) (Nat.le_of_ble_eq_true rfl) ?_
  refine s_ic rfl ?_
  refine s_is3 rfl rfl ?_
  refine s_ic rfl ?_
  refine s_is4 rfl rfl ?_
  exact loop (D 210 45).toNat 0 (by omega)
end
