/-! ===== the reference's constructor ===== -/
theorem zUpR {D : Nat → Int → Int} {r q : Nat} {i v : Int} (hq : r ≠ q) (h : ∀ j, D r j = 0) : ∀ j, aUp D q i v r j = 0 := fun j => by
  rw [aUp_row hq]; exact h j
section
variable {G : aCX} {l : Launch} {d : Nat} {K : Nat → aKd} {D : Nat → Int → Int} {P : Int → aSt → Prop}
theorem v_initModel {s : Nat} (hc : K 210 = (12, 0, [0, 0, 0, 0, 0, 0, 0, 0, 0, 0, 0, 0, 0, 0, 0, 0, 0, 0, 0, 0, 0, 0, 0, 0, 0, 0, 0, 0, 0, 0, 0, 0, 0, 0, 0, 0, 0, 0, 0, 0, 0, 0, 0, 0, 0, 0, 0, 0, 0, 0, 0, 0, 0, 0, 0, 0, 0, 0, 0, 0, 0, 0, 0, 0, 0, 0, 0, 0, 0, 0, 0, 0, 0, 0, 0, 0, 0, 0, 0, 0, 0, 0, 0, 0])) (hz : ∀ j, D 210 j = 0) (h2 : s + 27290 ≤ 200000) (kk : ∀ K1 D1, (∀ r, r < 210 → K1 r = K r ∧ D1 r = D r) → (∀ r, 210 ≤ r → r < 278 → K1 r = kK r) → (∀ r, 216 ≤ r → r < 278 → r ≠ 219 → r ≠ 220 → ∀ j, D1 r j = 0) → (∀ w : Nat, w < 21 → D1 215 w = wdV w) → (D1 210 36 = -1 ∧ ∀ j : Int, j ≠ 36 → D1 210 j = 0) → P 0 (K1, D1, (278, s + 27290))) : VM G l d iX12_init [rf 210] (K, D, (211, s)) P := by
  have loop : ∀ (n i : Nat) (K1 : Nat → aKd) (D1 : Nat → Int → Int), i + n = 16 → (∀ r, r < 210 → K1 r = K r ∧ D1 r = D r) → (∀ r, 210 ≤ r → r < 278 → K1 r = kK r) → (∀ r, 216 ≤ r → r < 278 → r ≠ 219 → r ≠ 220 → ∀ j, D1 r j = 0) → (∀ w : Nat, w < 21 → D1 215 w = wdV w) → (∀ j, D1 210 j = 0) → V G l d iX12_init 702 [rf 210, (0, (i : Int))] [] (K1, D1, (278, s + 27290)) P := by
    intro n
    induction n with
    | zero =>
      intro i K1 D1 hi a1 a2 a3 a4 a5
      have k210 := a2 210 (by decide) (by decide)
      have hi2 : i = 16 := by omega
      subst hi2
      refine s_il1 rfl ?_
      refine s_ic rfl ?_
      refine s_cge rfl ?_ ?_
      · intro h705
        refine s_al0 rfl ?_
        refine s_ic rfl ?_
        refine s_pi rfl (k210.trans rfl) rfl ?_
        refine s_retv rfl rfl ?_
        refine kk _ _ (fun r hr => ⟨(a1 r hr).1, ?_⟩) a2 (fun r q1 q2 q3 q4 j => ?_) (fun w hw => ?_) ⟨aUp_at, fun j hj => ?_⟩
        · rw [aUp_row (by omega)]; exact (a1 r hr).2
        · rw [aUp_row (by omega)]; exact a3 r q1 q2 q3 q4 j
        · rw [aUp_row (by decide)]; exact a4 w hw
        · rw [aUp_ne hj]; exact a5 j
      · intro h705
        omega
    | succ n ih =>
      intro i K1 D1 hi a1 a2 a3 a4 a5
      have k210 := a2 210 (by decide) (by decide)
      refine s_il1 rfl ?_
      refine s_ic rfl ?_
      refine s_cge rfl ?_ ?_
      · intro h705
        omega
      · intro h705
        refine s_al0 rfl ?_
        refine s_gf rfl (k210.trans rfl) rfl rfl ?_
        refine s_il1 rfl ?_
        refine s_ic rfl ?_
        refine s_iast rfl ((a2 219 (by decide) (by decide)).trans rfl) (by omega) ?_
        refine s_al0 rfl ?_
        refine s_gf rfl (k210.trans rfl) rfl rfl ?_
        refine s_il1 rfl ?_
        refine s_ic rfl ?_
        refine s_iast rfl ((a2 220 (by decide) (by decide)).trans rfl) (by omega) ?_
        refine s_iinc1 rfl rfl ⟨by omega, by omega⟩ ?_
        refine s_go rfl ?_
        rw [show (i : Int) + 1 = ((i + 1 : Nat) : Int) by omega]
        refine ih (i + 1) _ _ (by omega) (fun r hr => ⟨(a1 r hr).1, ?_⟩) a2 (fun r q1 q2 q3 q4 j => ?_) (fun w hw => ?_) (fun j => ?_)
        · rw [aUp_row (by omega), aUp_row (by omega)]; exact (a1 r hr).2
        · rw [aUp_row q4, aUp_row q3]; exact a3 r q1 q2 q3 q4 j
        · rw [aUp_row (by decide), aUp_row (by decide)]; exact a4 w hw
        · rw [aUp_row (by decide), aUp_row (by decide)]; exact a5 j
  refine VM_go (tg2 rfl) (Nat.le_of_ble_eq_true rfl) ?_
  have sm : s + 27290 = s + 27290 := rfl
  refine s_al0 rfl ?_
  refine s_oi rfl (by show (Nat.ble (aCat []) 8 && Nat.blt 0 210) = true; have : Nat.blt 0 210 = true := Nat.ble_eq_true_of_le (by omega); rw [this]; rfl) ?_
  refine s_al0 rfl ?_
  refine s_ic rfl ?_
  refine s_newa (n := 1500) rfl ⟨by show _ ≤ 2000; omega, by show _ ≤ 200000; omega⟩ ?_
  refine s_pf rfl (by first | (rw [aUk_ne (by show 210 ≠ _; omega), aUk_at]) | (rw [aUk_at]) | (rw [aUk_ne (by show 210 ≠ _; omega)]; exact hc) | exact hc) rfl rfl ?_
  refine s_al0 rfl ?_
  refine s_ic rfl ?_
  refine s_newa (n := 1502) rfl ⟨by show _ ≤ 2000; omega, by show _ ≤ 200000; omega⟩ ?_
  refine s_pf rfl (by first | (rw [aUk_ne (by show 210 ≠ _; omega), aUk_at]) | (rw [aUk_at]) | (rw [aUk_ne (by show 210 ≠ _; omega)]; exact hc) | exact hc) rfl rfl ?_
  refine s_al0 rfl ?_
  refine s_ic rfl ?_
  refine s_newa (n := 1502) rfl ⟨by show _ ≤ 2000; omega, by show _ ≤ 200000; omega⟩ ?_
  refine s_pf rfl (by first | (rw [aUk_ne (by show 210 ≠ _; omega), aUk_at]) | (rw [aUk_at]) | (rw [aUk_ne (by show 210 ≠ _; omega)]; exact hc) | exact hc) rfl rfl ?_
  refine s_al0 rfl ?_
  refine s_ic rfl ?_
  refine s_newa (n := 1502) rfl ⟨by show _ ≤ 2000; omega, by show _ ≤ 200000; omega⟩ ?_
  refine s_pf rfl (by first | (rw [aUk_ne (by show 210 ≠ _; omega), aUk_at]) | (rw [aUk_at]) | (rw [aUk_ne (by show 210 ≠ _; omega)]; exact hc) | exact hc) rfl rfl ?_
  refine s_al0 rfl ?_
  refine s_ic rfl ?_
  refine s_newa (n := 21) rfl ⟨by show _ ≤ 2000; omega, by show _ ≤ 200000; omega⟩ ?_
  refine s_dup rfl (by first | decide | (show (2 : Nat) ≠ 1; decide)) ?_
  refine s_ic rfl ?_
  refine s_lc rfl ?_
  refine s_last rfl rfl (by decide) ?_
  refine s_dup rfl (by first | decide | (show (2 : Nat) ≠ 1; decide)) ?_
  refine s_ic rfl ?_
  refine s_lc rfl ?_
  refine s_last rfl rfl (by decide) ?_
  refine s_dup rfl (by first | decide | (show (2 : Nat) ≠ 1; decide)) ?_
  refine s_ic rfl ?_
  refine s_lc rfl ?_
  refine s_last rfl rfl (by decide) ?_
  refine s_dup rfl (by first | decide | (show (2 : Nat) ≠ 1; decide)) ?_
  refine s_ic rfl ?_
  refine s_lc rfl ?_
  refine s_last rfl rfl (by decide) ?_
  refine s_dup rfl (by first | decide | (show (2 : Nat) ≠ 1; decide)) ?_
  refine s_ic rfl ?_
  refine s_lc rfl ?_
  refine s_last rfl rfl (by decide) ?_
  refine s_dup rfl (by first | decide | (show (2 : Nat) ≠ 1; decide)) ?_
  refine s_ic rfl ?_
  refine s_lc rfl ?_
  refine s_last rfl rfl (by decide) ?_
  refine s_dup rfl (by first | decide | (show (2 : Nat) ≠ 1; decide)) ?_
  refine s_ic rfl ?_
  refine s_lc rfl ?_
  refine s_last rfl rfl (by decide) ?_
  refine s_dup rfl (by first | decide | (show (2 : Nat) ≠ 1; decide)) ?_
  refine s_ic rfl ?_
  refine s_lc rfl ?_
  refine s_last rfl rfl (by decide) ?_
  refine s_dup rfl (by first | decide | (show (2 : Nat) ≠ 1; decide)) ?_
  refine s_ic rfl ?_
  refine s_lc rfl ?_
  refine s_last rfl rfl (by decide) ?_
  refine s_dup rfl (by first | decide | (show (2 : Nat) ≠ 1; decide)) ?_
  refine s_ic rfl ?_
  refine s_lc rfl ?_
  refine s_last rfl rfl (by decide) ?_
  refine s_dup rfl (by first | decide | (show (2 : Nat) ≠ 1; decide)) ?_
  refine s_ic rfl ?_
  refine s_lc rfl ?_
  refine s_last rfl rfl (by decide) ?_
  refine s_dup rfl (by first | decide | (show (2 : Nat) ≠ 1; decide)) ?_
  refine s_ic rfl ?_
  refine s_lc rfl ?_
  refine s_last rfl rfl (by decide) ?_
  refine s_dup rfl (by first | decide | (show (2 : Nat) ≠ 1; decide)) ?_
  refine s_ic rfl ?_
  refine s_lc rfl ?_
  refine s_last rfl rfl (by decide) ?_
  refine s_dup rfl (by first | decide | (show (2 : Nat) ≠ 1; decide)) ?_
  refine s_ic rfl ?_
  refine s_lc rfl ?_
  refine s_last rfl rfl (by decide) ?_
  refine s_dup rfl (by first | decide | (show (2 : Nat) ≠ 1; decide)) ?_
  refine s_ic rfl ?_
  refine s_lc rfl ?_
  refine s_last rfl rfl (by decide) ?_
  refine s_dup rfl (by first | decide | (show (2 : Nat) ≠ 1; decide)) ?_
  refine s_ic rfl ?_
  refine s_lc rfl ?_
  refine s_last rfl rfl (by decide) ?_
  refine s_dup rfl (by first | decide | (show (2 : Nat) ≠ 1; decide)) ?_
  refine s_ic rfl ?_
  refine s_lc rfl ?_
  refine s_last rfl rfl (by decide) ?_
  refine s_dup rfl (by first | decide | (show (2 : Nat) ≠ 1; decide)) ?_
  refine s_ic rfl ?_
  refine s_lc rfl ?_
  refine s_last rfl rfl (by decide) ?_
  refine s_dup rfl (by first | decide | (show (2 : Nat) ≠ 1; decide)) ?_
  refine s_ic rfl ?_
  refine s_lc rfl ?_
  refine s_last rfl rfl (by decide) ?_
  refine s_dup rfl (by first | decide | (show (2 : Nat) ≠ 1; decide)) ?_
  refine s_ic rfl ?_
  refine s_lc rfl ?_
  refine s_last rfl rfl (by decide) ?_
  refine s_dup rfl (by first | decide | (show (2 : Nat) ≠ 1; decide)) ?_
  refine s_ic rfl ?_
  refine s_lc rfl ?_
  refine s_last rfl rfl (by decide) ?_
  refine s_pf rfl (by first | (rw [aUk_ne (by show 210 ≠ _; omega), aUk_at]) | (rw [aUk_at]) | (rw [aUk_ne (by show 210 ≠ _; omega)]; exact hc) | exact hc) rfl rfl ?_
  refine s_al0 rfl ?_
  refine s_ic rfl ?_
  refine s_newa (n := 2) rfl ⟨by show _ ≤ 2000; omega, by show _ ≤ 200000; omega⟩ ?_
  refine s_pf rfl (by first | (rw [aUk_ne (by show 210 ≠ _; omega), aUk_at]) | (rw [aUk_at]) | (rw [aUk_ne (by show 210 ≠ _; omega)]; exact hc) | exact hc) rfl rfl ?_
  refine s_al0 rfl ?_
  refine s_ic rfl ?_
  refine s_newa (n := 24) rfl ⟨by show _ ≤ 2000; omega, by show _ ≤ 200000; omega⟩ ?_
  refine s_pf rfl (by first | (rw [aUk_ne (by show 210 ≠ _; omega), aUk_at]) | (rw [aUk_at]) | (rw [aUk_ne (by show 210 ≠ _; omega)]; exact hc) | exact hc) rfl rfl ?_
  refine s_al0 rfl ?_
  refine s_ic rfl ?_
  refine s_newa (n := 16) rfl ⟨by show _ ≤ 2000; omega, by show _ ≤ 200000; omega⟩ ?_
  refine s_pf rfl (by first | (rw [aUk_ne (by show 210 ≠ _; omega), aUk_at]) | (rw [aUk_at]) | (rw [aUk_ne (by show 210 ≠ _; omega)]; exact hc) | exact hc) rfl rfl ?_
  refine s_al0 rfl ?_
  refine s_ic rfl ?_
  refine s_newa (n := 16) rfl ⟨by show _ ≤ 2000; omega, by show _ ≤ 200000; omega⟩ ?_
  refine s_pf rfl (by first | (rw [aUk_ne (by show 210 ≠ _; omega), aUk_at]) | (rw [aUk_at]) | (rw [aUk_ne (by show 210 ≠ _; omega)]; exact hc) | exact hc) rfl rfl ?_
  refine s_al0 rfl ?_
  refine s_ic rfl ?_
  refine s_newa (n := 16) rfl ⟨by show _ ≤ 2000; omega, by show _ ≤ 200000; omega⟩ ?_
  refine s_pf rfl (by first | (rw [aUk_ne (by show 210 ≠ _; omega), aUk_at]) | (rw [aUk_at]) | (rw [aUk_ne (by show 210 ≠ _; omega)]; exact hc) | exact hc) rfl rfl ?_
  refine s_al0 rfl ?_
  refine s_ic rfl ?_
  refine s_newa (n := 2) rfl ⟨by show _ ≤ 2000; omega, by show _ ≤ 200000; omega⟩ ?_
  refine s_pf rfl (by first | (rw [aUk_ne (by show 210 ≠ _; omega), aUk_at]) | (rw [aUk_at]) | (rw [aUk_ne (by show 210 ≠ _; omega)]; exact hc) | exact hc) rfl rfl ?_
  refine s_al0 rfl ?_
  refine s_ic rfl ?_
  refine s_newa (n := 48) rfl ⟨by show _ ≤ 2000; omega, by show _ ≤ 200000; omega⟩ ?_
  refine s_pf rfl (by first | (rw [aUk_ne (by show 210 ≠ _; omega), aUk_at]) | (rw [aUk_at]) | (rw [aUk_ne (by show 210 ≠ _; omega)]; exact hc) | exact hc) rfl rfl ?_
  refine s_al0 rfl ?_
  refine s_ic rfl ?_
  refine s_newa (n := 48) rfl ⟨by show _ ≤ 2000; omega, by show _ ≤ 200000; omega⟩ ?_
  refine s_pf rfl (by first | (rw [aUk_ne (by show 210 ≠ _; omega), aUk_at]) | (rw [aUk_at]) | (rw [aUk_ne (by show 210 ≠ _; omega)]; exact hc) | exact hc) rfl rfl ?_
  refine s_al0 rfl ?_
  refine s_ic rfl ?_
  refine s_newa (n := 48) rfl ⟨by show _ ≤ 2000; omega, by show _ ≤ 200000; omega⟩ ?_
  refine s_pf rfl (by first | (rw [aUk_ne (by show 210 ≠ _; omega), aUk_at]) | (rw [aUk_at]) | (rw [aUk_ne (by show 210 ≠ _; omega)]; exact hc) | exact hc) rfl rfl ?_
  refine s_al0 rfl ?_
  refine s_ic rfl ?_
  refine s_newa (n := 48) rfl ⟨by show _ ≤ 2000; omega, by show _ ≤ 200000; omega⟩ ?_
  refine s_pf rfl (by first | (rw [aUk_ne (by show 210 ≠ _; omega), aUk_at]) | (rw [aUk_at]) | (rw [aUk_ne (by show 210 ≠ _; omega)]; exact hc) | exact hc) rfl rfl ?_
  refine s_al0 rfl ?_
  refine s_ic rfl ?_
  refine s_newa (n := 48) rfl ⟨by show _ ≤ 2000; omega, by show _ ≤ 200000; omega⟩ ?_
  refine s_pf rfl (by first | (rw [aUk_ne (by show 210 ≠ _; omega), aUk_at]) | (rw [aUk_at]) | (rw [aUk_ne (by show 210 ≠ _; omega)]; exact hc) | exact hc) rfl rfl ?_
  refine s_al0 rfl ?_
  refine s_ic rfl ?_
  refine s_newa (n := 48) rfl ⟨by show _ ≤ 2000; omega, by show _ ≤ 200000; omega⟩ ?_
  refine s_pf rfl (by first | (rw [aUk_ne (by show 210 ≠ _; omega), aUk_at]) | (rw [aUk_at]) | (rw [aUk_ne (by show 210 ≠ _; omega)]; exact hc) | exact hc) rfl rfl ?_
  refine s_al0 rfl ?_
  refine s_ic rfl ?_
  refine s_newa (n := 48) rfl ⟨by show _ ≤ 2000; omega, by show _ ≤ 200000; omega⟩ ?_
  refine s_pf rfl (by first | (rw [aUk_ne (by show 210 ≠ _; omega), aUk_at]) | (rw [aUk_at]) | (rw [aUk_ne (by show 210 ≠ _; omega)]; exact hc) | exact hc) rfl rfl ?_
  refine s_al0 rfl ?_
  refine s_ic rfl ?_
  refine s_newa (n := 48) rfl ⟨by show _ ≤ 2000; omega, by show _ ≤ 200000; omega⟩ ?_
  refine s_pf rfl (by first | (rw [aUk_ne (by show 210 ≠ _; omega), aUk_at]) | (rw [aUk_at]) | (rw [aUk_ne (by show 210 ≠ _; omega)]; exact hc) | exact hc) rfl rfl ?_
  refine s_al0 rfl ?_
  refine s_ic rfl ?_
  refine s_newa (n := 48) rfl ⟨by show _ ≤ 2000; omega, by show _ ≤ 200000; omega⟩ ?_
  refine s_pf rfl (by first | (rw [aUk_ne (by show 210 ≠ _; omega), aUk_at]) | (rw [aUk_at]) | (rw [aUk_ne (by show 210 ≠ _; omega)]; exact hc) | exact hc) rfl rfl ?_
  refine s_al0 rfl ?_
  refine s_ic rfl ?_
  refine s_newa (n := 576) rfl ⟨by show _ ≤ 2000; omega, by show _ ≤ 200000; omega⟩ ?_
  refine s_pf rfl (by first | (rw [aUk_ne (by show 210 ≠ _; omega), aUk_at]) | (rw [aUk_at]) | (rw [aUk_ne (by show 210 ≠ _; omega)]; exact hc) | exact hc) rfl rfl ?_
  refine s_al0 rfl ?_
  refine s_ic rfl ?_
  refine s_newa (n := 576) rfl ⟨by show _ ≤ 2000; omega, by show _ ≤ 200000; omega⟩ ?_
  refine s_pf rfl (by first | (rw [aUk_ne (by show 210 ≠ _; omega), aUk_at]) | (rw [aUk_at]) | (rw [aUk_ne (by show 210 ≠ _; omega)]; exact hc) | exact hc) rfl rfl ?_
  refine s_al0 rfl ?_
  refine s_ic rfl ?_
  refine s_newa (n := 48) rfl ⟨by show _ ≤ 2000; omega, by show _ ≤ 200000; omega⟩ ?_
  refine s_pf rfl (by first | (rw [aUk_ne (by show 210 ≠ _; omega), aUk_at]) | (rw [aUk_at]) | (rw [aUk_ne (by show 210 ≠ _; omega)]; exact hc) | exact hc) rfl rfl ?_
  refine s_al0 rfl ?_
  refine s_ic rfl ?_
  refine s_newa (n := 3200) rfl ⟨by show _ ≤ 2000; omega, by show _ ≤ 200000; omega⟩ ?_
  refine s_pf rfl (by first | (rw [aUk_ne (by show 210 ≠ _; omega), aUk_at]) | (rw [aUk_at]) | (rw [aUk_ne (by show 210 ≠ _; omega)]; exact hc) | exact hc) rfl rfl ?_
  refine s_al0 rfl ?_
  refine s_ic rfl ?_
  refine s_newa (n := 3200) rfl ⟨by show _ ≤ 2000; omega, by show _ ≤ 200000; omega⟩ ?_
  refine s_pf rfl (by first | (rw [aUk_ne (by show 210 ≠ _; omega), aUk_at]) | (rw [aUk_at]) | (rw [aUk_ne (by show 210 ≠ _; omega)]; exact hc) | exact hc) rfl rfl ?_
  refine s_al0 rfl ?_
  refine s_ic rfl ?_
  refine s_newa (n := 5) rfl ⟨by show _ ≤ 2000; omega, by show _ ≤ 200000; omega⟩ ?_
  refine s_pf rfl (by first | (rw [aUk_ne (by show 210 ≠ _; omega), aUk_at]) | (rw [aUk_at]) | (rw [aUk_ne (by show 210 ≠ _; omega)]; exact hc) | exact hc) rfl rfl ?_
  refine s_al0 rfl ?_
  refine s_ic rfl ?_
  refine s_newa (n := 1600) rfl ⟨by show _ ≤ 2000; omega, by show _ ≤ 200000; omega⟩ ?_
  refine s_pf rfl (by first | (rw [aUk_ne (by show 210 ≠ _; omega), aUk_at]) | (rw [aUk_at]) | (rw [aUk_ne (by show 210 ≠ _; omega)]; exact hc) | exact hc) rfl rfl ?_
  refine s_al0 rfl ?_
  refine s_ic rfl ?_
  refine s_newa (n := 60) rfl ⟨by show _ ≤ 2000; omega, by show _ ≤ 200000; omega⟩ ?_
  refine s_pf rfl (by first | (rw [aUk_ne (by show 210 ≠ _; omega), aUk_at]) | (rw [aUk_at]) | (rw [aUk_ne (by show 210 ≠ _; omega)]; exact hc) | exact hc) rfl rfl ?_
  refine s_al0 rfl ?_
  refine s_ic rfl ?_
  refine s_newa (n := 60) rfl ⟨by show _ ≤ 2000; omega, by show _ ≤ 200000; omega⟩ ?_
  refine s_pf rfl (by first | (rw [aUk_ne (by show 210 ≠ _; omega), aUk_at]) | (rw [aUk_at]) | (rw [aUk_ne (by show 210 ≠ _; omega)]; exact hc) | exact hc) rfl rfl ?_
  refine s_al0 rfl ?_
  refine s_ic rfl ?_
  refine s_newa (n := 60) rfl ⟨by show _ ≤ 2000; omega, by show _ ≤ 200000; omega⟩ ?_
  refine s_pf rfl (by first | (rw [aUk_ne (by show 210 ≠ _; omega), aUk_at]) | (rw [aUk_at]) | (rw [aUk_ne (by show 210 ≠ _; omega)]; exact hc) | exact hc) rfl rfl ?_
  refine s_al0 rfl ?_
  refine s_ic rfl ?_
  refine s_newa (n := 60) rfl ⟨by show _ ≤ 2000; omega, by show _ ≤ 200000; omega⟩ ?_
  refine s_pf rfl (by first | (rw [aUk_ne (by show 210 ≠ _; omega), aUk_at]) | (rw [aUk_at]) | (rw [aUk_ne (by show 210 ≠ _; omega)]; exact hc) | exact hc) rfl rfl ?_
  refine s_al0 rfl ?_
  refine s_ic rfl ?_
  refine s_newa (n := 60) rfl ⟨by show _ ≤ 2000; omega, by show _ ≤ 200000; omega⟩ ?_
  refine s_pf rfl (by first | (rw [aUk_ne (by show 210 ≠ _; omega), aUk_at]) | (rw [aUk_at]) | (rw [aUk_ne (by show 210 ≠ _; omega)]; exact hc) | exact hc) rfl rfl ?_
  refine s_al0 rfl ?_
  refine s_ic rfl ?_
  refine s_newa (n := 60) rfl ⟨by show _ ≤ 2000; omega, by show _ ≤ 200000; omega⟩ ?_
  refine s_pf rfl (by first | (rw [aUk_ne (by show 210 ≠ _; omega), aUk_at]) | (rw [aUk_at]) | (rw [aUk_ne (by show 210 ≠ _; omega)]; exact hc) | exact hc) rfl rfl ?_
  refine s_al0 rfl ?_
  refine s_ic rfl ?_
  refine s_newa (n := 6) rfl ⟨by show _ ≤ 2000; omega, by show _ ≤ 200000; omega⟩ ?_
  refine s_pf rfl (by first | (rw [aUk_ne (by show 210 ≠ _; omega), aUk_at]) | (rw [aUk_at]) | (rw [aUk_ne (by show 210 ≠ _; omega)]; exact hc) | exact hc) rfl rfl ?_
  refine s_al0 rfl ?_
  refine s_ic rfl ?_
  refine s_newa (n := 300) rfl ⟨by show _ ≤ 2000; omega, by show _ ≤ 200000; omega⟩ ?_
  refine s_pf rfl (by first | (rw [aUk_ne (by show 210 ≠ _; omega), aUk_at]) | (rw [aUk_at]) | (rw [aUk_ne (by show 210 ≠ _; omega)]; exact hc) | exact hc) rfl rfl ?_
  refine s_al0 rfl ?_
  refine s_ic rfl ?_
  refine s_newa (n := 300) rfl ⟨by show _ ≤ 2000; omega, by show _ ≤ 200000; omega⟩ ?_
  refine s_pf rfl (by first | (rw [aUk_ne (by show 210 ≠ _; omega), aUk_at]) | (rw [aUk_at]) | (rw [aUk_ne (by show 210 ≠ _; omega)]; exact hc) | exact hc) rfl rfl ?_
  refine s_al0 rfl ?_
  refine s_ic rfl ?_
  refine s_newa (n := 300) rfl ⟨by show _ ≤ 2000; omega, by show _ ≤ 200000; omega⟩ ?_
  refine s_pf rfl (by first | (rw [aUk_ne (by show 210 ≠ _; omega), aUk_at]) | (rw [aUk_at]) | (rw [aUk_ne (by show 210 ≠ _; omega)]; exact hc) | exact hc) rfl rfl ?_
  refine s_al0 rfl ?_
  refine s_ic rfl ?_
  refine s_newa (n := 60) rfl ⟨by show _ ≤ 2000; omega, by show _ ≤ 200000; omega⟩ ?_
  refine s_pf rfl (by first | (rw [aUk_ne (by show 210 ≠ _; omega), aUk_at]) | (rw [aUk_at]) | (rw [aUk_ne (by show 210 ≠ _; omega)]; exact hc) | exact hc) rfl rfl ?_
  refine s_al0 rfl ?_
  refine s_ic rfl ?_
  refine s_newa (n := 60) rfl ⟨by show _ ≤ 2000; omega, by show _ ≤ 200000; omega⟩ ?_
  refine s_pf rfl (by first | (rw [aUk_ne (by show 210 ≠ _; omega), aUk_at]) | (rw [aUk_at]) | (rw [aUk_ne (by show 210 ≠ _; omega)]; exact hc) | exact hc) rfl rfl ?_
  refine s_al0 rfl ?_
  refine s_ic rfl ?_
  refine s_newa (n := 60) rfl ⟨by show _ ≤ 2000; omega, by show _ ≤ 200000; omega⟩ ?_
  refine s_pf rfl (by first | (rw [aUk_ne (by show 210 ≠ _; omega), aUk_at]) | (rw [aUk_at]) | (rw [aUk_ne (by show 210 ≠ _; omega)]; exact hc) | exact hc) rfl rfl ?_
  refine s_al0 rfl ?_
  refine s_ic rfl ?_
  refine s_newa (n := 60) rfl ⟨by show _ ≤ 2000; omega, by show _ ≤ 200000; omega⟩ ?_
  refine s_pf rfl (by first | (rw [aUk_ne (by show 210 ≠ _; omega), aUk_at]) | (rw [aUk_at]) | (rw [aUk_ne (by show 210 ≠ _; omega)]; exact hc) | exact hc) rfl rfl ?_
  refine s_al0 rfl ?_
  refine s_ic rfl ?_
  refine s_newa (n := 60) rfl ⟨by show _ ≤ 2000; omega, by show _ ≤ 200000; omega⟩ ?_
  refine s_pf rfl (by first | (rw [aUk_ne (by show 210 ≠ _; omega), aUk_at]) | (rw [aUk_at]) | (rw [aUk_ne (by show 210 ≠ _; omega)]; exact hc) | exact hc) rfl rfl ?_
  refine s_al0 rfl ?_
  refine s_ic rfl ?_
  refine s_newa (n := 60) rfl ⟨by show _ ≤ 2000; omega, by show _ ≤ 200000; omega⟩ ?_
  refine s_pf rfl (by first | (rw [aUk_ne (by show 210 ≠ _; omega), aUk_at]) | (rw [aUk_at]) | (rw [aUk_ne (by show 210 ≠ _; omega)]; exact hc) | exact hc) rfl rfl ?_
  refine s_al0 rfl ?_
  refine s_ic rfl ?_
  refine s_newa (n := 60) rfl ⟨by show _ ≤ 2000; omega, by show _ ≤ 200000; omega⟩ ?_
  refine s_pf rfl (by first | (rw [aUk_ne (by show 210 ≠ _; omega), aUk_at]) | (rw [aUk_at]) | (rw [aUk_ne (by show 210 ≠ _; omega)]; exact hc) | exact hc) rfl rfl ?_
  refine s_al0 rfl ?_
  refine s_ic rfl ?_
  refine s_newa (n := 720) rfl ⟨by show _ ≤ 2000; omega, by show _ ≤ 200000; omega⟩ ?_
  refine s_pf rfl (by first | (rw [aUk_ne (by show 210 ≠ _; omega), aUk_at]) | (rw [aUk_at]) | (rw [aUk_ne (by show 210 ≠ _; omega)]; exact hc) | exact hc) rfl rfl ?_
  refine s_al0 rfl ?_
  refine s_ic rfl ?_
  refine s_newa (n := 720) rfl ⟨by show _ ≤ 2000; omega, by show _ ≤ 200000; omega⟩ ?_
  refine s_pf rfl (by first | (rw [aUk_ne (by show 210 ≠ _; omega), aUk_at]) | (rw [aUk_at]) | (rw [aUk_ne (by show 210 ≠ _; omega)]; exact hc) | exact hc) rfl rfl ?_
  refine s_al0 rfl ?_
  refine s_ic rfl ?_
  refine s_newa (n := 720) rfl ⟨by show _ ≤ 2000; omega, by show _ ≤ 200000; omega⟩ ?_
  refine s_pf rfl (by first | (rw [aUk_ne (by show 210 ≠ _; omega), aUk_at]) | (rw [aUk_at]) | (rw [aUk_ne (by show 210 ≠ _; omega)]; exact hc) | exact hc) rfl rfl ?_
  refine s_al0 rfl ?_
  refine s_ic rfl ?_
  refine s_newa (n := 1440) rfl ⟨by show _ ≤ 2000; omega, by show _ ≤ 200000; omega⟩ ?_
  refine s_pf rfl (by first | (rw [aUk_ne (by show 210 ≠ _; omega), aUk_at]) | (rw [aUk_at]) | (rw [aUk_ne (by show 210 ≠ _; omega)]; exact hc) | exact hc) rfl rfl ?_
  refine s_al0 rfl ?_
  refine s_ic rfl ?_
  refine s_newa (n := 1440) rfl ⟨by show _ ≤ 2000; omega, by show _ ≤ 200000; omega⟩ ?_
  refine s_pf rfl (by first | (rw [aUk_ne (by show 210 ≠ _; omega), aUk_at]) | (rw [aUk_at]) | (rw [aUk_ne (by show 210 ≠ _; omega)]; exact hc) | exact hc) rfl rfl ?_
  refine s_al0 rfl ?_
  refine s_ic rfl ?_
  refine s_newa (n := 1440) rfl ⟨by show _ ≤ 2000; omega, by show _ ≤ 200000; omega⟩ ?_
  refine s_pf rfl (by first | (rw [aUk_ne (by show 210 ≠ _; omega), aUk_at]) | (rw [aUk_at]) | (rw [aUk_ne (by show 210 ≠ _; omega)]; exact hc) | exact hc) rfl rfl ?_
  refine s_al0 rfl ?_
  refine s_ic rfl ?_
  refine s_newa (n := 1440) rfl ⟨by show _ ≤ 2000; omega, by show _ ≤ 200000; omega⟩ ?_
  refine s_pf rfl (by first | (rw [aUk_ne (by show 210 ≠ _; omega), aUk_at]) | (rw [aUk_at]) | (rw [aUk_ne (by show 210 ≠ _; omega)]; exact hc) | exact hc) rfl rfl ?_
  refine s_al0 rfl ?_
  refine s_ic rfl ?_
  refine s_newa (n := 1440) rfl ⟨by show _ ≤ 2000; omega, by show _ ≤ 200000; omega⟩ ?_
  refine s_pf rfl (by first | (rw [aUk_ne (by show 210 ≠ _; omega), aUk_at]) | (rw [aUk_at]) | (rw [aUk_ne (by show 210 ≠ _; omega)]; exact hc) | exact hc) rfl rfl ?_
  refine s_al0 rfl ?_
  refine s_ic rfl ?_
  refine s_newa (n := 24) rfl ⟨by show _ ≤ 2000; omega, by show _ ≤ 200000; omega⟩ ?_
  refine s_pf rfl (by first | (rw [aUk_ne (by show 210 ≠ _; omega), aUk_at]) | (rw [aUk_at]) | (rw [aUk_ne (by show 210 ≠ _; omega)]; exact hc) | exact hc) rfl rfl ?_
  refine s_al0 rfl ?_
  refine s_ic rfl ?_
  refine s_newa (n := 24) rfl ⟨by show _ ≤ 2000; omega, by show _ ≤ 200000; omega⟩ ?_
  refine s_pf rfl (by first | (rw [aUk_ne (by show 210 ≠ _; omega), aUk_at]) | (rw [aUk_at]) | (rw [aUk_ne (by show 210 ≠ _; omega)]; exact hc) | exact hc) rfl rfl ?_
  refine s_al0 rfl ?_
  refine s_ic rfl ?_
  refine s_newa (n := 24) rfl ⟨by show _ ≤ 2000; omega, by show _ ≤ 200000; omega⟩ ?_
  refine s_pf rfl (by first | (rw [aUk_ne (by show 210 ≠ _; omega), aUk_at]) | (rw [aUk_at]) | (rw [aUk_ne (by show 210 ≠ _; omega)]; exact hc) | exact hc) rfl rfl ?_
  refine s_al0 rfl ?_
  refine s_ic rfl ?_
  refine s_newa (n := 24) rfl ⟨by show _ ≤ 2000; omega, by show _ ≤ 200000; omega⟩ ?_
  refine s_pf rfl (by first | (rw [aUk_ne (by show 210 ≠ _; omega), aUk_at]) | (rw [aUk_at]) | (rw [aUk_ne (by show 210 ≠ _; omega)]; exact hc) | exact hc) rfl rfl ?_
  refine s_al0 rfl ?_
  refine s_ic rfl ?_
  refine s_newa (n := 144) rfl ⟨by show _ ≤ 2000; omega, by show _ ≤ 200000; omega⟩ ?_
  refine s_pf rfl (by first | (rw [aUk_ne (by show 210 ≠ _; omega), aUk_at]) | (rw [aUk_at]) | (rw [aUk_ne (by show 210 ≠ _; omega)]; exact hc) | exact hc) rfl rfl ?_
  refine s_al0 rfl ?_
  refine s_ic rfl ?_
  refine s_newa (n := 24) rfl ⟨by show _ ≤ 2000; omega, by show _ ≤ 200000; omega⟩ ?_
  refine s_pf rfl (by first | (rw [aUk_ne (by show 210 ≠ _; omega), aUk_at]) | (rw [aUk_at]) | (rw [aUk_ne (by show 210 ≠ _; omega)]; exact hc) | exact hc) rfl rfl ?_
  refine s_al0 rfl ?_
  refine s_ic rfl ?_
  refine s_newa (n := 12) rfl ⟨by show _ ≤ 2000; omega, by show _ ≤ 200000; omega⟩ ?_
  refine s_pf rfl (by first | (rw [aUk_ne (by show 210 ≠ _; omega), aUk_at]) | (rw [aUk_at]) | (rw [aUk_ne (by show 210 ≠ _; omega)]; exact hc) | exact hc) rfl rfl ?_
  refine s_al0 rfl ?_
  refine s_ic rfl ?_
  refine s_newa (n := 12) rfl ⟨by show _ ≤ 2000; omega, by show _ ≤ 200000; omega⟩ ?_
  refine s_pf rfl (by first | (rw [aUk_ne (by show 210 ≠ _; omega), aUk_at]) | (rw [aUk_at]) | (rw [aUk_ne (by show 210 ≠ _; omega)]; exact hc) | exact hc) rfl rfl ?_
  refine s_al0 rfl ?_
  refine s_ic rfl ?_
  refine s_newa (n := 12) rfl ⟨by show _ ≤ 2000; omega, by show _ ≤ 200000; omega⟩ ?_
  refine s_pf rfl (by first | (rw [aUk_ne (by show 210 ≠ _; omega), aUk_at]) | (rw [aUk_at]) | (rw [aUk_ne (by show 210 ≠ _; omega)]; exact hc) | exact hc) rfl rfl ?_
  refine s_al0 rfl ?_
  refine s_ic rfl ?_
  refine s_newa (n := 12) rfl ⟨by show _ ≤ 2000; omega, by show _ ≤ 200000; omega⟩ ?_
  refine s_pf rfl (by first | (rw [aUk_ne (by show 210 ≠ _; omega), aUk_at]) | (rw [aUk_at]) | (rw [aUk_ne (by show 210 ≠ _; omega)]; exact hc) | exact hc) rfl rfl ?_
  refine s_al0 rfl ?_
  refine s_ic rfl ?_
  refine s_newa (n := 144) rfl ⟨by show _ ≤ 2000; omega, by show _ ≤ 200000; omega⟩ ?_
  refine s_pf rfl (by first | (rw [aUk_ne (by show 210 ≠ _; omega), aUk_at]) | (rw [aUk_at]) | (rw [aUk_ne (by show 210 ≠ _; omega)]; exact hc) | exact hc) rfl rfl ?_
  refine s_al0 rfl ?_
  refine s_ic rfl ?_
  refine s_newa (n := 12) rfl ⟨by show _ ≤ 2000; omega, by show _ ≤ 200000; omega⟩ ?_
  refine s_pf rfl (by first | (rw [aUk_ne (by show 210 ≠ _; omega), aUk_at]) | (rw [aUk_at]) | (rw [aUk_ne (by show 210 ≠ _; omega)]; exact hc) | exact hc) rfl rfl ?_
  refine s_al0 rfl ?_
  refine s_ic rfl ?_
  refine s_newa (n := 12) rfl ⟨by show _ ≤ 2000; omega, by show _ ≤ 200000; omega⟩ ?_
  refine s_pf rfl (by first | (rw [aUk_ne (by show 210 ≠ _; omega), aUk_at]) | (rw [aUk_at]) | (rw [aUk_ne (by show 210 ≠ _; omega)]; exact hc) | exact hc) rfl rfl ?_
  refine s_al0 rfl ?_
  refine s_ic rfl ?_
  refine s_newa (n := 12) rfl ⟨by show _ ≤ 2000; omega, by show _ ≤ 200000; omega⟩ ?_
  refine s_pf rfl (by first | (rw [aUk_ne (by show 210 ≠ _; omega), aUk_at]) | (rw [aUk_at]) | (rw [aUk_ne (by show 210 ≠ _; omega)]; exact hc) | exact hc) rfl rfl ?_
  refine s_al0 rfl ?_
  refine s_ic rfl ?_
  refine s_newa (n := 12) rfl ⟨by show _ ≤ 2000; omega, by show _ ≤ 200000; omega⟩ ?_
  refine s_pf rfl (by first | (rw [aUk_ne (by show 210 ≠ _; omega), aUk_at]) | (rw [aUk_at]) | (rw [aUk_ne (by show 210 ≠ _; omega)]; exact hc) | exact hc) rfl rfl ?_
  refine s_ic rfl ?_
  refine s_is1 rfl rfl ?_
  refine loop 16 0 _ _ rfl (fun r hr => ⟨?_, ?_⟩) (fun r q1 q2 => ?_) (fun r q1 q2 q3 q4 => ?_) (fun w hw => ?_) ?_
  · repeat' rw [aUk_ne (by omega)]
  · repeat' first | rw [aUz_ne (by omega)] | rw [aUp_row (by omega)]
  · rcases (by omega : r = 210 ∨ r = 211 ∨ r = 212 ∨ r = 213 ∨ r = 214 ∨ r = 215 ∨ r = 216 ∨ r = 217 ∨ r = 218 ∨ r = 219 ∨ r = 220 ∨ r = 221 ∨ r = 222 ∨ r = 223 ∨ r = 224 ∨ r = 225 ∨ r = 226 ∨ r = 227 ∨ r = 228 ∨ r = 229 ∨ r = 230 ∨ r = 231 ∨ r = 232 ∨ r = 233 ∨ r = 234 ∨ r = 235 ∨ r = 236 ∨ r = 237 ∨ r = 238 ∨ r = 239 ∨ r = 240 ∨ r = 241 ∨ r = 242 ∨ r = 243 ∨ r = 244 ∨ r = 245 ∨ r = 246 ∨ r = 247 ∨ r = 248 ∨ r = 249 ∨ r = 250 ∨ r = 251 ∨ r = 252 ∨ r = 253 ∨ r = 254 ∨ r = 255 ∨ r = 256 ∨ r = 257 ∨ r = 258 ∨ r = 259 ∨ r = 260 ∨ r = 261 ∨ r = 262 ∨ r = 263 ∨ r = 264 ∨ r = 265 ∨ r = 266 ∨ r = 267 ∨ r = 268 ∨ r = 269 ∨ r = 270 ∨ r = 271 ∨ r = 272 ∨ r = 273 ∨ r = 274 ∨ r = 275 ∨ r = 276 ∨ r = 277) with q | q | q | q | q | q | q | q | q | q | q | q | q | q | q | q | q | q | q | q | q | q | q | q | q | q | q | q | q | q | q | q | q | q | q | q | q | q | q | q | q | q | q | q | q | q | q | q | q | q | q | q | q | q | q | q | q | q | q | q | q | q | q | q | q | q | q | q <;> subst q <;> rfl
  · rcases (by omega : r = 216 ∨ r = 217 ∨ r = 218 ∨ r = 221 ∨ r = 222 ∨ r = 223 ∨ r = 224 ∨ r = 225 ∨ r = 226 ∨ r = 227 ∨ r = 228 ∨ r = 229 ∨ r = 230 ∨ r = 231 ∨ r = 232 ∨ r = 233 ∨ r = 234 ∨ r = 235 ∨ r = 236 ∨ r = 237 ∨ r = 238 ∨ r = 239 ∨ r = 240 ∨ r = 241 ∨ r = 242 ∨ r = 243 ∨ r = 244 ∨ r = 245 ∨ r = 246 ∨ r = 247 ∨ r = 248 ∨ r = 249 ∨ r = 250 ∨ r = 251 ∨ r = 252 ∨ r = 253 ∨ r = 254 ∨ r = 255 ∨ r = 256 ∨ r = 257 ∨ r = 258 ∨ r = 259 ∨ r = 260 ∨ r = 261 ∨ r = 262 ∨ r = 263 ∨ r = 264 ∨ r = 265 ∨ r = 266 ∨ r = 267 ∨ r = 268 ∨ r = 269 ∨ r = 270 ∨ r = 271 ∨ r = 272 ∨ r = 273 ∨ r = 274 ∨ r = 275 ∨ r = 276 ∨ r = 277) with q | q | q | q | q | q | q | q | q | q | q | q | q | q | q | q | q | q | q | q | q | q | q | q | q | q | q | q | q | q | q | q | q | q | q | q | q | q | q | q | q | q | q | q | q | q | q | q | q | q | q | q | q | q | q | q | q | q | q | q <;> subst q
    all_goals (repeat' first | exact zUz_at | refine zUz ?_)
  · rcases (by omega : w = 0 ∨ w = 1 ∨ w = 2 ∨ w = 3 ∨ w = 4 ∨ w = 5 ∨ w = 6 ∨ w = 7 ∨ w = 8 ∨ w = 9 ∨ w = 10 ∨ w = 11 ∨ w = 12 ∨ w = 13 ∨ w = 14 ∨ w = 15 ∨ w = 16 ∨ w = 17 ∨ w = 18 ∨ w = 19 ∨ w = 20) with q | q | q | q | q | q | q | q | q | q | q | q | q | q | q | q | q | q | q | q | q <;> subst q <;> rfl
  · repeat' first | exact hz | refine zUz ?_ | refine zUpR (by decide) ?_
end
