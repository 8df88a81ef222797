/-! ===== late told: the reference ===== -/
section
variable {G : aCX} {l : Launch} {d : Nat} {K : Nat → aKd} {D : Nat → Int → Int} {z : Nat × Nat} {P : Int → aSt → Prop}
def MkB (D : Nat → Int → Int) : Prop := (0 ≤ D 210 37 ∧ D 210 37 ≤ 60 ∧ 0 ≤ D 210 45 ∧ D 210 45 ≤ 300) ∧ (∀ k : Nat, k < (D 210 37).toNat → 0 ≤ D 239 k ∧ D 239 k < 240000) ∧ ∀ k : Nat, k < (D 210 45).toNat → 0 ≤ D 247 k ∧ D 247 k ≤ 100000
abbrev vwM (D : Nat → Int → Int) : Int := if D 210 36 < 0 then D 210 35 else D 210 36
abbrev knM (D : Nat → Int → Int) := knF (D 238) (D 239) (D 245) (D 246) (D 247) (D 210 37).toNat (D 210 45).toNat
abbrev soM (D : Nat → Int → Int) := soF (D 238) (D 239) (D 245) (D 246) (D 247) (D 210 37).toNat (D 210 45).toNat
abbrev faM (D : Nat → Int → Int) := faF (D 238) (D 239) (D 245) (D 246) (D 247) (D 210 37).toNat (D 210 45).toNat
theorem u_within {n m lo : Int} (kk : P (if lo ≤ n ∧ n ≤ m then 1 else 0) (K, D, z)) : VM G l d iX12_within [(0, n), (0, lo), (0, m)] (K, D, z) P := by
  refine VM_go (tg2 rfl) (Nat.le_of_ble_eq_true rfl) ?_
  refine s_il0 rfl ?_
  refine s_il1 rfl ?_
  refine s_clt rfl ?_ ?_
  · intro h2
    refine s_ic rfl ?_
    refine s_retz rfl rfl (by omega) ?_
    first | (rw [if_pos (by omega)] at kk; exact kk) | (rw [if_neg (by omega)] at kk; exact kk)
  · intro h2
    refine s_il0 rfl ?_
    refine s_il2 rfl ?_
    refine s_cgt rfl ?_ ?_
    · intro h7
      refine s_ic rfl ?_
      refine s_retz rfl rfl (by omega) ?_
      first | (rw [if_pos (by omega)] at kk; exact kk) | (rw [if_neg (by omega)] at kk; exact kk)
    · intro h7
      refine s_ic rfl ?_
      refine s_go rfl ?_
      refine s_retz rfl rfl (by omega) ?_
      first | (rw [if_pos (by omega)] at kk; exact kk) | (rw [if_neg (by omega)] at kk; exact kk)
theorem u_viewDay (hk : Kn K) (kk : P (vwM D) (K, D, z)) : VM G l d iX12_viewDay [rf 210] (K, D, z) P := by
  refine VM_go (tg2 rfl) (Nat.le_of_ble_eq_true rfl) ?_
  refine s_al0 rfl ?_
  refine s_gi rfl (hk.at rfl rfl) rfl ?_
  refine s_zge rfl ?_ ?_
  · intro h4
    refine s_al0 rfl ?_
    refine s_gi rfl (hk.at rfl rfl) rfl ?_
    refine s_reti rfl rfl ?_
    unfold vwM at kk
    first | (rw [if_pos (by omega)] at kk; exact kk) | (rw [if_neg (by omega)] at kk; exact kk)
  · intro h4
    refine s_al0 rfl ?_
    refine s_gi rfl (hk.at rfl rfl) rfl ?_
    refine s_go rfl ?_
    refine s_reti rfl rfl ?_
    unfold vwM at kk
    first | (rw [if_pos (by omega)] at kk; exact kk) | (rw [if_neg (by omega)] at kk; exact kk)
theorem u_canBeKnown {y lag : Int} (hk : Kn K) (hy : 0 ≤ y ∧ y ≤ 30) (hl : 0 ≤ lag ∧ lag ≤ 20) (kk : P (if (y + 1 + lag) * 365 - 1 ≤ vwM D then 1 else 0) (K, D, z)) : VM G l (d + 1) iX12_canBeKnown [rf 210, (0, y), (0, lag)] (K, D, z) P := by
  refine VM_go (tg2 rfl) (Nat.le_of_ble_eq_true rfl) ?_
  refine s_il1 rfl ?_
  refine s_ic rfl ?_
  refine s_iadd rfl ⟨by omega, by omega⟩ ?_
  refine s_il2 rfl ?_
  refine s_iadd rfl ⟨by omega, by omega⟩ ?_
  refine s_ic rfl ?_
  refine s_imul rfl ⟨by omega, by omega⟩ ?_
  refine s_ic rfl ?_
  refine s_isub rfl ⟨by omega, by omega⟩ ?_
  refine s_al0 rfl ?_
  refine s_callO rfl rfl (Or.inl rfl) rfl rfl (hk.at rfl rfl) (u_viewDay hk ?_)
  refine s_cgt rfl ?_ ?_
  · intro h15
    rw [if_neg (by omega)] at kk
    refine s_ic rfl ?_
    refine s_retz rfl rfl (by omega) ?_
    exact kk
  · intro h15
    rw [if_pos h15] at kk
    refine s_ic rfl ?_
    refine s_go rfl ?_
    refine s_retz rfl rfl (by omega) ?_
    exact kk
theorem u_knownOf {h y lag : Int} (hk : Kn K) (hb : MkB D) (hy : 0 ≤ y ∧ y ≤ 30) (hg : 0 ≤ lag ∧ lag ≤ 10) (kk : P (knM D h y lag) (K, D, z)) : VM G l (d + 1) iX12_knownOf [rf 210, (0, h), (0, y), (0, lag)] (K, D, z) P := by
  obtain ⟨⟨b1, b2, b3, b4⟩, b5, b6⟩ := hb
  have hin : ∀ n, n ≤ 60 → 0 ≤ sumF (knG (D 238) (D 239) (D 245) (D 246) (D 247) (D 210 45).toNat h y lag) n ∧ sumF (knG (D 238) (D 239) (D 245) (D 246) (D 247) (D 210 45).toNat h y lag) n ≤ 6000000 := fun n hn => sum_in (fun _ => knG_in b6) hn
  have loop : ∀ (n k : Nat) (u : aTV), k + n = (D 210 37).toNat → V G l (d + 1) iX12_knownOf 19 [rf 210, (0, h), (0, y), (0, lag), (0, (y + 1 + lag) * 365 - 1), (0, sumF (knG (D 238) (D 239) (D 245) (D 246) (D 247) (D 210 45).toNat h y lag) k), (0, (k : Int)), u] [] (K, D, z) P := by
    intro n
    induction n with
    | zero =>
      intro k u h1
      have hk0 : k = (D 210 37).toNat := by omega
      refine s_il6 rfl ?_
      refine s_al0 rfl ?_
      refine s_gi rfl (hk.at rfl rfl) rfl ?_
      refine s_cge rfl ?_ ?_
      · intro h25
        refine s_il5 rfl ?_
        refine s_reti rfl rfl ?_
        rw [hk0]
        exact kk
      · intro h25
        omega
    | succ n ih =>
      intro k u h1
      have hh := b5 k (by omega)
      have e1 : (D 239 k).tdiv 24 = D 239 k / 24 := Int.tdiv_eq_ediv_of_nonneg hh.1
      have e2 : (D 239 k / 24).tdiv 365 = D 239 k / 24 / 365 := Int.tdiv_eq_ediv_of_nonneg (by omega)
      have i1 := hin k (by omega)
      have i2 := hin (k + 1) (by omega)
      have e : sumF (knG (D 238) (D 239) (D 245) (D 246) (D 247) (D 210 45).toNat h y lag) (k + 1) = sumF (knG (D 238) (D 239) (D 245) (D 246) (D 247) (D 210 45).toNat h y lag) k + (if D 238 k = h ∧ D 239 k / 24 / 365 = y then ps (amF (D 245) (D 246) (D 247) k ((D 239 k / 24 / 365 + 1 + lag) * 365 - 1) (D 210 45).toNat) else 0) := rfl
      have fin : ∀ w : Int, w = sumF (knG (D 238) (D 239) (D 245) (D 246) (D 247) (D 210 45).toNat h y lag) (k + 1) - sumF (knG (D 238) (D 239) (D 245) (D 246) (D 247) (D 210 45).toNat h y lag) k → ∀ u' : aTV, V G l (d + 1) iX12_knownOf 84 [rf 210, (0, h), (0, y), (0, lag), (0, (y + 1 + lag) * 365 - 1), (0, sumF (knG (D 238) (D 239) (D 245) (D 246) (D 247) (D 210 45).toNat h y lag) k), (0, (k : Int)), u'] [(0, w), (0, sumF (knG (D 238) (D 239) (D 245) (D 246) (D 247) (D 210 45).toNat h y lag) k)] (K, D, z) P := by
        intro w hw u'
        have hw : sumF (knG (D 238) (D 239) (D 245) (D 246) (D 247) (D 210 45).toNat h y lag) k + w = sumF (knG (D 238) (D 239) (D 245) (D 246) (D 247) (D 210 45).toNat h y lag) (k + 1) := by omega
        refine s_iadd rfl ⟨by omega, by omega⟩ ?_
        rw [hw]
        refine s_is5 rfl rfl ?_
        refine s_iinc6 rfl rfl ⟨by omega, by omega⟩ ?_
        refine s_go rfl ?_
        exact ih (k + 1) _ (by omega)
      have step : ∀ w : Int, ps w = sumF (knG (D 238) (D 239) (D 245) (D 246) (D 247) (D 210 45).toNat h y lag) (k + 1) - sumF (knG (D 238) (D 239) (D 245) (D 246) (D 247) (D 210 45).toNat h y lag) k → V G l (d + 1) iX12_knownOf 69 [rf 210, (0, h), (0, y), (0, lag), (0, (y + 1 + lag) * 365 - 1), (0, sumF (knG (D 238) (D 239) (D 245) (D 246) (D 247) (D 210 45).toNat h y lag) k), (0, (k : Int)), u] [(0, w)] (K, D, z) P := by
        intro w hw
        unfold ps at hw
        refine s_is7 rfl rfl ?_
        refine s_il5 rfl ?_
        refine s_il7 rfl ?_
        refine s_zge rfl ?_ ?_
        · intro h75
          refine s_il7 rfl ?_
          refine fin _ ?_ _
          rw [← hw]
          first | rw [if_pos (by omega)] | rw [if_neg (by omega)]
        · intro h75
          refine s_ic rfl ?_
          refine s_go rfl ?_
          refine fin _ ?_ _
          rw [← hw]
          first | rw [if_pos (by omega)] | rw [if_neg (by omega)]
      refine s_il6 rfl ?_
      refine s_al0 rfl ?_
      refine s_gi rfl (hk.at rfl rfl) rfl ?_
      refine s_cge rfl ?_ ?_
      · intro h25
        omega
      · intro h25
        refine s_al0 rfl ?_
        refine s_gf rfl (hk.at rfl rfl) rfl rfl ?_
        refine s_il6 rfl ?_
        refine s_iald rfl (hk.at rfl rfl) (by omega) ?_
        refine s_il1 rfl ?_
        refine s_cne rfl ?_ ?_
        · intro h36
          rw [if_neg (fun q => h36 q.1)] at e
          refine s_ic rfl ?_
          exact step _ (by first | (rw [e, show ps 0 = 0 from rfl]; omega) | (rw [e]; omega))
        · intro h36
          refine s_al0 rfl ?_
          refine s_gf rfl (hk.at rfl rfl) rfl rfl ?_
          refine s_il6 rfl ?_
          refine s_iald rfl (hk.at rfl rfl) (by omega) ?_
          refine s_ic rfl ?_
          refine s_idiv rfl (by decide) (by rw [e1]; exact ⟨by omega, by omega⟩) ?_
          rw [e1]
          refine s_ic rfl ?_
          refine s_idiv rfl (by decide) (by rw [e2]; exact ⟨by omega, by omega⟩) ?_
          rw [e2]
          refine s_il2 rfl ?_
          refine s_cne rfl ?_ ?_
          · intro h54
            rw [if_neg (fun q => h54 q.2)] at e
            refine s_ic rfl ?_
            exact step _ (by first | (rw [e, show ps 0 = 0 from rfl]; omega) | (rw [e]; omega))
          · intro h54
            rw [if_pos ⟨h36, h54⟩, h54] at e
            refine s_al0 rfl ?_
            refine s_il6 rfl ?_
            refine s_il4 rfl ?_
            refine s_callO rfl rfl (Or.inl rfl) rfl rfl (hk.at rfl rfl) (u_amountOn hk ⟨b3, b4⟩ ?_)
            refine s_go rfl ?_
            exact step _ (by first | (rw [e, show ps 0 = 0 from rfl]; omega) | (rw [e]; omega))
  refine VM_go (tg2 rfl) (Nat.le_of_ble_eq_true rfl) ?_
  refine s_il2 rfl ?_
  refine s_ic rfl ?_
  refine s_iadd rfl ⟨by omega, by omega⟩ ?_
  refine s_il3 rfl ?_
  refine s_iadd rfl ⟨by omega, by omega⟩ ?_
  refine s_ic rfl ?_
  refine s_imul rfl ⟨by omega, by omega⟩ ?_
  refine s_ic rfl ?_
  refine s_isub rfl ⟨by omega, by omega⟩ ?_
  refine s_is4 rfl rfl ?_
  refine s_ic rfl ?_
  refine s_is5 rfl rfl ?_
  refine s_ic rfl ?_
  refine s_is6 rfl rfl ?_
  exact loop (D 210 37).toNat 0 _ (by omega)
theorem u_factorOf {h lag : Int} (hk : Kn K) (hb : MkB D) (hv : vwM D ≤ 9999) (hg : 0 ≤ lag ∧ lag ≤ 8) (kk : P (faM D h lag (vwM D)) (K, D, z)) : VM G l (d + 2) iX12_factorOf [rf 210, (0, h), (0, lag)] (K, D, z) P := by
  have hb0 := hb
  obtain ⟨⟨b1, b2, b3, b4⟩, b5, b6⟩ := hb
  have hkn : ∀ y q, 0 ≤ knM D h y q ∧ knM D h y q ≤ 6000000 := fun y q => knF_in (by omega) b6
  have hin : ∀ q n, n ≤ 27 → 0 ≤ sumF (fun y : Nat => if ((y : Int) + 1 + (lag + 1)) * 365 - 1 ≤ vwM D then knM D h y q else 0) n ∧ sumF (fun y : Nat => if ((y : Int) + 1 + (lag + 1)) * 365 - 1 ≤ vwM D then knM D h y q else 0) n ≤ 27 * 6000000 := fun q n hn => by
    have h1 := sumF_nonneg (f := fun y : Nat => if ((y : Int) + 1 + (lag + 1)) * 365 - 1 ≤ vwM D then knM D h y q else 0) (n := n) (fun k _ => by
      have := hkn k q
      split <;> omega)
    have h2 := sumF_le (f := fun y : Nat => if ((y : Int) + 1 + (lag + 1)) * 365 - 1 ≤ vwM D then knM D h y q else 0) (n := n) (c := 6000000) (fun k _ => by
      have := hkn k q
      split <;> omega)
    omega
  have loop : ∀ (n k : Nat), k + n = 27 → V G l (d + 2) iX12_factorOf 8 [rf 210, (0, h), (0, lag), (1, sumF (fun y : Nat => if ((y : Int) + 1 + (lag + 1)) * 365 - 1 ≤ vwM D then knM D h y (lag + 1) else 0) k), (9, 0), (1, sumF (fun y : Nat => if ((y : Int) + 1 + (lag + 1)) * 365 - 1 ≤ vwM D then knM D h y lag else 0) k), (9, 0), (0, (k : Int)), (9, 0)] [] (K, D, z) P := by
    intro n
    induction n with
    | zero =>
      intro k h1
      have hk0 : k = 27 := by omega
      subst hk0
      have i1 : 0 ≤ soM D h lag (vwM D) lag ∧ soM D h lag (vwM D) lag ≤ 6000000 := soF_in (by omega) b6
      have i2 : 0 ≤ soM D h lag (vwM D) (lag + 1) ∧ soM D h lag (vwM D) (lag + 1) ≤ 6000000 := soF_in (by omega) b6
      rw [show sumF (fun y : Nat => if ((y : Int) + 1 + (lag + 1)) * 365 - 1 ≤ vwM D then knM D h y (lag + 1) else 0) 27 = soM D h lag (vwM D) (lag + 1) from kn_so b5 hv hg.1, show sumF (fun y : Nat => if ((y : Int) + 1 + (lag + 1)) * 365 - 1 ≤ vwM D then knM D h y lag else 0) 27 = soM D h lag (vwM D) lag from kn_so b5 hv hg.1]
      have ek : faM D h lag (vwM D) = if soM D h lag (vwM D) lag = 0 then 1000 else if 1000 * soM D h lag (vwM D) (lag + 1) / soM D h lag (vwM D) lag < 1000000 then 1000 * soM D h lag (vwM D) (lag + 1) / soM D h lag (vwM D) lag else 1000000 := rfl
      rw [ek] at kk
      generalize soM D h lag (vwM D) lag = so at kk i1 ⊢
      generalize soM D h lag (vwM D) (lag + 1) = la at kk i2 ⊢
      have ed : (1000 * la).tdiv so = 1000 * la / so := Int.tdiv_eq_ediv_of_nonneg (by omega)
      have e0 := Int.ediv_nonneg (a := 1000 * la) (b := so) (by omega) i1.1
      have e1 : so ≠ 0 → 1000 * la / so ≤ 1000 * la := fun _ => Int.ediv_le_self _ (by omega)
      have fin : ∀ (x : Int) (u u' : aTV), Nat.beq u.1 1 = false → 0 ≤ x → x ≤ 1000 * la + 1000 → P (if x < 1000000 then x else 1000000) (K, D, z) → V G l (d + 2) iX12_factorOf 82 [rf 210, (0, h), (0, lag), (1, la), (9, 0), (1, so), (9, 0), u, u'] [(1, x)] (K, D, z) P := by
        intro x u u' hu hx hx2 kk
        refine s_ls7 rfl rfl ?_
        refine s_ll7 rfl ?_
        refine s_lc rfl ?_
        refine s_lcmp rfl ?_
        refine s_zle rfl ?_ ?_
        · intro h90
          have h90 := cmp3_le.mp h90
          refine s_ll7 rfl ?_
          refine s_l2i rfl ⟨by omega, by omega⟩ ?_
          refine s_reti rfl rfl ?_
          first | (rw [if_neg (by omega)] at kk; exact kk) | (by_cases hq : x < 1000000; (rw [if_pos hq] at kk; exact kk); (rw [if_neg hq, show (1000000 : Int) = x by omega] at kk; exact kk))
        · intro h90
          have h90 : 1000000 < x := cmp3_gt.mp h90
          refine s_ic rfl ?_
          refine s_go rfl ?_
          refine s_reti rfl rfl ?_
          first | (rw [if_neg (by omega)] at kk; exact kk) | (by_cases hq : x < 1000000; (rw [if_pos hq] at kk; exact kk); (rw [if_neg hq, show (1000000 : Int) = x by omega] at kk; exact kk))
      refine s_il7 rfl ?_
      refine s_ic rfl ?_
      refine s_cgt rfl ?_ ?_
      · intro h12
        refine s_ll5 rfl ?_
        refine s_lc rfl ?_
        refine s_lcmp rfl ?_
        refine s_zne rfl ?_ ?_
        · intro h65
          have h65 : ¬ so = 0 := fun q => h65 (cmp3_eq.mpr q)
          have e1 := e1 h65
          rw [if_neg h65] at kk
          refine s_lc rfl ?_
          refine s_ll3 rfl ?_
          refine s_lmul rfl ⟨by omega, by omega⟩ ?_
          refine s_ll5 rfl ?_
          refine s_ldiv rfl h65 (by rw [ed]; exact ⟨by omega, by omega⟩) ?_
          rw [ed]
          exact fin _ _ _ rfl (by omega) (by omega) (by first | exact kk | (rw [if_pos (by decide)]; exact kk))
        · intro h65
          have h65 := cmp3_eq.mp h65
          rw [if_pos h65] at kk
          refine s_lc rfl ?_
          refine s_go rfl ?_
          exact fin _ _ _ rfl (by omega) (by omega) (by first | exact kk | (rw [if_pos (by decide)]; exact kk))
      · intro h12
        omega
    | succ n ih =>
      intro k h1
      have i1 := hin lag k (by omega)
      have i2 := hin lag (k + 1) (by omega)
      have i3 := hin (lag + 1) k (by omega)
      have i4 := hin (lag + 1) (k + 1) (by omega)
      have e : ∀ q, sumF (fun y : Nat => if ((y : Int) + 1 + (lag + 1)) * 365 - 1 ≤ vwM D then knM D h y q else 0) (k + 1) = sumF (fun y : Nat => if ((y : Int) + 1 + (lag + 1)) * 365 - 1 ≤ vwM D then knM D h y q else 0) k + (if ((k : Int) + 1 + (lag + 1)) * 365 - 1 ≤ vwM D then knM D h k q else 0) := fun q => rfl
      have f1 := e lag
      have f2 := e (lag + 1)
      have step : ∀ w u : Int, w = sumF (fun y : Nat => if ((y : Int) + 1 + (lag + 1)) * 365 - 1 ≤ vwM D then knM D h y (lag + 1) else 0) (k + 1) → u = sumF (fun y : Nat => if ((y : Int) + 1 + (lag + 1)) * 365 - 1 ≤ vwM D then knM D h y lag else 0) (k + 1) → V G l (d + 2) iX12_factorOf 55 [rf 210, (0, h), (0, lag), (1, w), (9, 0), (1, u), (9, 0), (0, (k : Int)), (9, 0)] [] (K, D, z) P := by
        intro w u hw hu
        subst hw hu
        refine s_iinc7 rfl rfl ⟨by omega, by omega⟩ ?_
        refine s_go rfl ?_
        exact ih (k + 1) (by omega)
      refine s_il7 rfl ?_
      refine s_ic rfl ?_
      refine s_cgt rfl ?_ ?_
      · intro h12
        omega
      · intro h12
        refine s_al0 rfl ?_
        refine s_il7 rfl ?_
        refine s_il2 rfl ?_
        refine s_ic rfl ?_
        refine s_iadd rfl ⟨by omega, by omega⟩ ?_
        refine s_callO rfl rfl (Or.inl rfl) rfl rfl (hk.at rfl rfl) (u_canBeKnown hk (by omega) (by omega) ?_)
        refine s_zeq rfl ?_ ?_
        · intro h24
          have hq : ¬ ((k : Int) + 1 + (lag + 1)) * 365 - 1 ≤ vwM D := fun q => by rw [if_pos q] at h24; cases h24
          rw [if_neg hq] at f1 f2
          exact step _ _ (by omega) (by omega)
        · intro h24
          have hq : ((k : Int) + 1 + (lag + 1)) * 365 - 1 ≤ vwM D := Decidable.byContradiction fun q => h24 (if_neg q)
          rw [if_pos hq] at f1 f2
          refine s_ll3 rfl ?_
          refine s_al0 rfl ?_
          refine s_il1 rfl ?_
          refine s_il7 rfl ?_
          refine s_il2 rfl ?_
          refine s_ic rfl ?_
          refine s_iadd rfl ⟨by omega, by omega⟩ ?_
          refine s_callO rfl rfl (Or.inl rfl) rfl rfl (hk.at rfl rfl) (u_knownOf hk hb0 (by omega) (by omega) ?_)
          refine s_i2l rfl ?_
          refine s_ladd rfl ⟨by omega, by omega⟩ ?_
          refine s_ls3 rfl rfl ?_
          refine s_ll5 rfl ?_
          refine s_al0 rfl ?_
          refine s_il1 rfl ?_
          refine s_il7 rfl ?_
          refine s_il2 rfl ?_
          refine s_callO rfl rfl (Or.inl rfl) rfl rfl (hk.at rfl rfl) (u_knownOf hk hb0 (by omega) (by omega) ?_)
          refine s_i2l rfl ?_
          refine s_ladd rfl ⟨by omega, by omega⟩ ?_
          refine s_ls5 rfl rfl ?_
          exact step _ _ f2.symm f1.symm
  refine VM_go (tg2 rfl) (Nat.le_of_ble_eq_true rfl) ?_
  refine s_lc rfl ?_
  refine s_ls3 rfl rfl ?_
  refine s_lc rfl ?_
  refine s_ls5 rfl rfl ?_
  refine s_ic rfl ?_
  refine s_is7 rfl rfl ?_
  exact loop 27 0 (by omega)
end
