/-! ===== constructors of the class ===== -/
section
variable {G : aCX} {l : Launch} {d : Nat} {K : Nat → aKd} {D : Nat → Int → Int} {P : Int → aSt → Prop}
theorem v_initBook {s : Nat} (hc : K 89 = (0, 0, [0, 0, 0, 0, 0, 0, 0, 0, 0, 0, 0, 0, 0])) (hz : ∀ j, D 89 j = 0) (h2 : s + 1380 ≤ 200000) (kk : ∀ K' D', (∀ r, r < 89 → K' r = K r ∧ D' r = D r) → (∀ r, 89 ≤ r → r < 101 → K' r = kK r) → (∀ r, 89 ≤ r → r < 101 → ∀ j, D' r j = 0) → P 0 (K', D', (101, s + 1380))) : VM G l d iX0_init [rf 89] (K, D, (90, s)) P := by
  refine VM_go (tg2 rfl) (Nat.le_of_ble_eq_true rfl) ?_
  refine s_al0 rfl ?_
  refine s_oi rfl (by show (Nat.ble (aCat []) 8 && Nat.blt 0 89) = true; have : Nat.blt 0 89 = true := Nat.ble_eq_true_of_le (by omega); rw [this]; rfl) ?_
  refine s_al0 rfl ?_
  refine s_ic rfl ?_
  refine s_pi rfl (by first | (rw [aUk_ne (by show 89 ≠ _; omega), aUk_at]) | (rw [aUk_at]) | (rw [aUk_ne (by show 89 ≠ _; omega)]; exact hc) | exact hc) rfl ?_
  refine s_al0 rfl ?_
  refine s_ic rfl ?_
  refine s_pi rfl (by first | (rw [aUk_ne (by show 89 ≠ _; omega), aUk_at]) | (rw [aUk_at]) | (rw [aUk_ne (by show 89 ≠ _; omega)]; exact hc) | exact hc) rfl ?_
  refine s_al0 rfl ?_
  refine s_ic rfl ?_
  refine s_newa (n := 60) rfl ⟨by show _ ≤ 2000; omega, by show _ ≤ 200000; omega⟩ ?_
  refine s_pf rfl (by first | (rw [aUk_ne (by show 89 ≠ _; omega), aUk_at]) | (rw [aUk_at]) | (rw [aUk_ne (by show 89 ≠ _; omega)]; exact hc) | exact hc) rfl rfl ?_
  refine s_al0 rfl ?_
  refine s_ic rfl ?_
  refine s_newa (n := 60) rfl ⟨by show _ ≤ 2000; omega, by show _ ≤ 200000; omega⟩ ?_
  refine s_pf rfl (by first | (rw [aUk_ne (by show 89 ≠ _; omega), aUk_at]) | (rw [aUk_at]) | (rw [aUk_ne (by show 89 ≠ _; omega)]; exact hc) | exact hc) rfl rfl ?_
  refine s_al0 rfl ?_
  refine s_ic rfl ?_
  refine s_newa (n := 60) rfl ⟨by show _ ≤ 2000; omega, by show _ ≤ 200000; omega⟩ ?_
  refine s_pf rfl (by first | (rw [aUk_ne (by show 89 ≠ _; omega), aUk_at]) | (rw [aUk_at]) | (rw [aUk_ne (by show 89 ≠ _; omega)]; exact hc) | exact hc) rfl rfl ?_
  refine s_al0 rfl ?_
  refine s_ic rfl ?_
  refine s_newa (n := 60) rfl ⟨by show _ ≤ 2000; omega, by show _ ≤ 200000; omega⟩ ?_
  refine s_pf rfl (by first | (rw [aUk_ne (by show 89 ≠ _; omega), aUk_at]) | (rw [aUk_at]) | (rw [aUk_ne (by show 89 ≠ _; omega)]; exact hc) | exact hc) rfl rfl ?_
  refine s_al0 rfl ?_
  refine s_ic rfl ?_
  refine s_newa (n := 60) rfl ⟨by show _ ≤ 2000; omega, by show _ ≤ 200000; omega⟩ ?_
  refine s_pf rfl (by first | (rw [aUk_ne (by show 89 ≠ _; omega), aUk_at]) | (rw [aUk_at]) | (rw [aUk_ne (by show 89 ≠ _; omega)]; exact hc) | exact hc) rfl rfl ?_
  refine s_al0 rfl ?_
  refine s_ic rfl ?_
  refine s_newa (n := 60) rfl ⟨by show _ ≤ 2000; omega, by show _ ≤ 200000; omega⟩ ?_
  refine s_pf rfl (by first | (rw [aUk_ne (by show 89 ≠ _; omega), aUk_at]) | (rw [aUk_at]) | (rw [aUk_ne (by show 89 ≠ _; omega)]; exact hc) | exact hc) rfl rfl ?_
  refine s_al0 rfl ?_
  refine s_ic rfl ?_
  refine s_newa (n := 60) rfl ⟨by show _ ≤ 2000; omega, by show _ ≤ 200000; omega⟩ ?_
  refine s_pf rfl (by first | (rw [aUk_ne (by show 89 ≠ _; omega), aUk_at]) | (rw [aUk_at]) | (rw [aUk_ne (by show 89 ≠ _; omega)]; exact hc) | exact hc) rfl rfl ?_
  refine s_al0 rfl ?_
  refine s_ic rfl ?_
  refine s_newa (n := 60) rfl ⟨by show _ ≤ 2000; omega, by show _ ≤ 200000; omega⟩ ?_
  refine s_pf rfl (by first | (rw [aUk_ne (by show 89 ≠ _; omega), aUk_at]) | (rw [aUk_at]) | (rw [aUk_ne (by show 89 ≠ _; omega)]; exact hc) | exact hc) rfl rfl ?_
  refine s_al0 rfl ?_
  refine s_ic rfl ?_
  refine s_newa (n := 300) rfl ⟨by show _ ≤ 2000; omega, by show _ ≤ 200000; omega⟩ ?_
  refine s_pf rfl (by first | (rw [aUk_ne (by show 89 ≠ _; omega), aUk_at]) | (rw [aUk_at]) | (rw [aUk_ne (by show 89 ≠ _; omega)]; exact hc) | exact hc) rfl rfl ?_
  refine s_al0 rfl ?_
  refine s_ic rfl ?_
  refine s_newa (n := 300) rfl ⟨by show _ ≤ 2000; omega, by show _ ≤ 200000; omega⟩ ?_
  refine s_pf rfl (by first | (rw [aUk_ne (by show 89 ≠ _; omega), aUk_at]) | (rw [aUk_at]) | (rw [aUk_ne (by show 89 ≠ _; omega)]; exact hc) | exact hc) rfl rfl ?_
  refine s_al0 rfl ?_
  refine s_ic rfl ?_
  refine s_newa (n := 300) rfl ⟨by show _ ≤ 2000; omega, by show _ ≤ 200000; omega⟩ ?_
  refine s_pf rfl (by first | (rw [aUk_ne (by show 89 ≠ _; omega), aUk_at]) | (rw [aUk_at]) | (rw [aUk_ne (by show 89 ≠ _; omega)]; exact hc) | exact hc) rfl rfl ?_
  refine s_retv rfl rfl ?_
  refine kk _ _ (fun r hr => ⟨?_, ?_⟩) (fun r q1 q2 => ?_) (fun r q1 q2 j => ?_)
  · repeat' rw [aUk_ne (by omega)]
  · repeat' first | rw [aUz_ne (by omega)] | rw [aUp_row (by omega)]
  · rcases (by omega : r = 89 ∨ r = 90 ∨ r = 91 ∨ r = 92 ∨ r = 93 ∨ r = 94 ∨ r = 95 ∨ r = 96 ∨ r = 97 ∨ r = 98 ∨ r = 99 ∨ r = 100) with q | q | q | q | q | q | q | q | q | q | q | q <;> subst q <;> rfl
  · rcases (by omega : r = 89 ∨ r = 90 ∨ r = 91 ∨ r = 92 ∨ r = 93 ∨ r = 94 ∨ r = 95 ∨ r = 96 ∨ r = 97 ∨ r = 98 ∨ r = 99 ∨ r = 100) with q | q | q | q | q | q | q | q | q | q | q | q <;> subst q <;> revert j
    all_goals (repeat' first | exact hz | exact zUz_at | refine zUz ?_ | refine zUp ?_)
theorem v_initRounds {s : Nat} (hc : K 104 = (6, 0, [0, 0, 0])) (hz : ∀ j, D 104 j = 0) (h2 : s + 288 ≤ 200000) (kk : ∀ K' D', (∀ r, r < 104 → K' r = K r ∧ D' r = D r) → (∀ r, 104 ≤ r → r < 108 → K' r = kK r) → (∀ r, 104 ≤ r → r < 108 → ∀ j, D' r j = 0) → P 0 (K', D', (108, s + 288))) : VM G l d iX6_init [rf 104] (K, D, (105, s)) P := by
  refine VM_go (tg2 rfl) (Nat.le_of_ble_eq_true rfl) ?_
  refine s_al0 rfl ?_
  refine s_oi rfl (by show (Nat.ble (aCat []) 8 && Nat.blt 0 104) = true; have : Nat.blt 0 104 = true := Nat.ble_eq_true_of_le (by omega); rw [this]; rfl) ?_
  refine s_al0 rfl ?_
  refine s_ic rfl ?_
  refine s_newa (n := 12) rfl ⟨by show _ ≤ 2000; omega, by show _ ≤ 200000; omega⟩ ?_
  refine s_pf rfl (by first | (rw [aUk_ne (by show 104 ≠ _; omega), aUk_at]) | (rw [aUk_at]) | (rw [aUk_ne (by show 104 ≠ _; omega)]; exact hc) | exact hc) rfl rfl ?_
  refine s_al0 rfl ?_
  refine s_ic rfl ?_
  refine s_newa (n := 12) rfl ⟨by show _ ≤ 2000; omega, by show _ ≤ 200000; omega⟩ ?_
  refine s_pf rfl (by first | (rw [aUk_ne (by show 104 ≠ _; omega), aUk_at]) | (rw [aUk_at]) | (rw [aUk_ne (by show 104 ≠ _; omega)]; exact hc) | exact hc) rfl rfl ?_
  refine s_al0 rfl ?_
  refine s_ic rfl ?_
  refine s_newa (n := 264) rfl ⟨by show _ ≤ 2000; omega, by show _ ≤ 200000; omega⟩ ?_
  refine s_pf rfl (by first | (rw [aUk_ne (by show 104 ≠ _; omega), aUk_at]) | (rw [aUk_at]) | (rw [aUk_ne (by show 104 ≠ _; omega)]; exact hc) | exact hc) rfl rfl ?_
  refine s_retv rfl rfl ?_
  refine kk _ _ (fun r hr => ⟨?_, ?_⟩) (fun r q1 q2 => ?_) (fun r q1 q2 j => ?_)
  · repeat' rw [aUk_ne (by omega)]
  · repeat' first | rw [aUz_ne (by omega)] | rw [aUp_row (by omega)]
  · rcases (by omega : r = 104 ∨ r = 105 ∨ r = 106 ∨ r = 107) with q | q | q | q <;> subst q <;> rfl
  · rcases (by omega : r = 104 ∨ r = 105 ∨ r = 106 ∨ r = 107) with q | q | q | q <;> subst q <;> revert j
    all_goals (repeat' first | exact hz | exact zUz_at | refine zUz ?_ | refine zUp ?_)
theorem v_initGathering {s : Nat} (hc : K 111 = (2, 0, [0, 0, 0, 0, 0, 0, 0])) (hz : ∀ j, D 111 j = 0) (h2 : s + 900 ≤ 200000) (kk : ∀ K' D', (∀ r, r < 111 → K' r = K r ∧ D' r = D r) → (∀ r, 111 ≤ r → r < 116 → K' r = kK r) → (∀ r, 111 ≤ r → r < 116 → ∀ j, D' r j = 0) → P 0 (K', D', (116, s + 900))) : VM G l d iX2_init [rf 111, rf 89] (K, D, (112, s)) P := by
  refine VM_go (tg2 rfl) (Nat.le_of_ble_eq_true rfl) ?_
  refine s_al0 rfl ?_
  refine s_oi rfl (by show (Nat.ble (aCat []) 8 && Nat.blt 0 111) = true; have : Nat.blt 0 111 = true := Nat.ble_eq_true_of_le (by omega); rw [this]; rfl) ?_
  refine s_al0 rfl ?_
  refine s_ic rfl ?_
  refine s_pi rfl (by first | (rw [aUk_ne (by show 111 ≠ _; omega), aUk_at]) | (rw [aUk_at]) | (rw [aUk_ne (by show 111 ≠ _; omega)]; exact hc) | exact hc) rfl ?_
  refine s_al0 rfl ?_
  refine s_ic rfl ?_
  refine s_pi rfl (by first | (rw [aUk_ne (by show 111 ≠ _; omega), aUk_at]) | (rw [aUk_at]) | (rw [aUk_ne (by show 111 ≠ _; omega)]; exact hc) | exact hc) rfl ?_
  refine s_al0 rfl ?_
  refine s_ic rfl ?_
  refine s_newa (n := 60) rfl ⟨by show _ ≤ 2000; omega, by show _ ≤ 200000; omega⟩ ?_
  refine s_pf rfl (by first | (rw [aUk_ne (by show 111 ≠ _; omega), aUk_at]) | (rw [aUk_at]) | (rw [aUk_ne (by show 111 ≠ _; omega)]; exact hc) | exact hc) rfl rfl ?_
  refine s_al0 rfl ?_
  refine s_ic rfl ?_
  refine s_newa (n := 60) rfl ⟨by show _ ≤ 2000; omega, by show _ ≤ 200000; omega⟩ ?_
  refine s_pf rfl (by first | (rw [aUk_ne (by show 111 ≠ _; omega), aUk_at]) | (rw [aUk_at]) | (rw [aUk_ne (by show 111 ≠ _; omega)]; exact hc) | exact hc) rfl rfl ?_
  refine s_al0 rfl ?_
  refine s_ic rfl ?_
  refine s_newa (n := 60) rfl ⟨by show _ ≤ 2000; omega, by show _ ≤ 200000; omega⟩ ?_
  refine s_pf rfl (by first | (rw [aUk_ne (by show 111 ≠ _; omega), aUk_at]) | (rw [aUk_at]) | (rw [aUk_ne (by show 111 ≠ _; omega)]; exact hc) | exact hc) rfl rfl ?_
  refine s_al0 rfl ?_
  refine s_ic rfl ?_
  refine s_newa (n := 720) rfl ⟨by show _ ≤ 2000; omega, by show _ ≤ 200000; omega⟩ ?_
  refine s_pf rfl (by first | (rw [aUk_ne (by show 111 ≠ _; omega), aUk_at]) | (rw [aUk_at]) | (rw [aUk_ne (by show 111 ≠ _; omega)]; exact hc) | exact hc) rfl rfl ?_
  refine s_al0 rfl ?_
  refine s_al1 rfl ?_
  refine s_pf rfl (by first | (rw [aUk_ne (by show 111 ≠ _; omega), aUk_at]) | (rw [aUk_at]) | (rw [aUk_ne (by show 111 ≠ _; omega)]; exact hc) | exact hc) rfl rfl ?_
  refine s_retv rfl rfl ?_
  refine kk _ _ (fun r hr => ⟨?_, ?_⟩) (fun r q1 q2 => ?_) (fun r q1 q2 j => ?_)
  · repeat' rw [aUk_ne (by omega)]
  · repeat' first | rw [aUz_ne (by omega)] | rw [aUp_row (by omega)]
  · rcases (by omega : r = 111 ∨ r = 112 ∨ r = 113 ∨ r = 114 ∨ r = 115) with q | q | q | q | q <;> subst q <;> rfl
  · rcases (by omega : r = 111 ∨ r = 112 ∨ r = 113 ∨ r = 114 ∨ r = 115) with q | q | q | q | q <;> subst q <;> revert j
    all_goals (repeat' first | exact hz | exact zUz_at | refine zUz ?_ | refine zUp ?_)
theorem v_initTrials {s : Nat} (hc : K 116 = (10, 0, [0, 0, 0, 0, 0, 0, 0, 0])) (hz : ∀ j, D 116 j = 0) (h2 : s + 852 ≤ 200000) (kk : ∀ K' D', (∀ r, r < 116 → K' r = K r ∧ D' r = D r) → (∀ r, 116 ≤ r → r < 121 → K' r = kK r) → (∀ r, 116 ≤ r → r < 121 → ∀ j, D' r j = 0) → P 0 (K', D', (121, s + 852))) : VM G l d iX10_init [rf 116, rf 101] (K, D, (117, s)) P := by
  refine VM_go (tg2 rfl) (Nat.le_of_ble_eq_true rfl) ?_
  refine s_al0 rfl ?_
  refine s_oi rfl (by show (Nat.ble (aCat []) 8 && Nat.blt 0 116) = true; have : Nat.blt 0 116 = true := Nat.ble_eq_true_of_le (by omega); rw [this]; rfl) ?_
  refine s_al0 rfl ?_
  refine s_ic rfl ?_
  refine s_pz rfl (by first | (rw [aUk_ne (by show 116 ≠ _; omega), aUk_at]) | (rw [aUk_at]) | (rw [aUk_ne (by show 116 ≠ _; omega)]; exact hc) | exact hc) rfl (by omega) ?_
  refine s_al0 rfl ?_
  refine s_ic rfl ?_
  refine s_pz rfl (by first | (rw [aUk_ne (by show 116 ≠ _; omega), aUk_at]) | (rw [aUk_at]) | (rw [aUk_ne (by show 116 ≠ _; omega)]; exact hc) | exact hc) rfl (by omega) ?_
  refine s_al0 rfl ?_
  refine s_ic rfl ?_
  refine s_newa (n := 12) rfl ⟨by show _ ≤ 2000; omega, by show _ ≤ 200000; omega⟩ ?_
  refine s_pf rfl (by first | (rw [aUk_ne (by show 116 ≠ _; omega), aUk_at]) | (rw [aUk_at]) | (rw [aUk_ne (by show 116 ≠ _; omega)]; exact hc) | exact hc) rfl rfl ?_
  refine s_al0 rfl ?_
  refine s_ic rfl ?_
  refine s_newa (n := 12) rfl ⟨by show _ ≤ 2000; omega, by show _ ≤ 200000; omega⟩ ?_
  refine s_pf rfl (by first | (rw [aUk_ne (by show 116 ≠ _; omega), aUk_at]) | (rw [aUk_at]) | (rw [aUk_ne (by show 116 ≠ _; omega)]; exact hc) | exact hc) rfl rfl ?_
  refine s_al0 rfl ?_
  refine s_ic rfl ?_
  refine s_newa (n := 60) rfl ⟨by show _ ≤ 2000; omega, by show _ ≤ 200000; omega⟩ ?_
  refine s_pf rfl (by first | (rw [aUk_ne (by show 116 ≠ _; omega), aUk_at]) | (rw [aUk_at]) | (rw [aUk_ne (by show 116 ≠ _; omega)]; exact hc) | exact hc) rfl rfl ?_
  refine s_al0 rfl ?_
  refine s_ic rfl ?_
  refine s_newa (n := 768) rfl ⟨by show _ ≤ 2000; omega, by show _ ≤ 200000; omega⟩ ?_
  refine s_pf rfl (by first | (rw [aUk_ne (by show 116 ≠ _; omega), aUk_at]) | (rw [aUk_at]) | (rw [aUk_ne (by show 116 ≠ _; omega)]; exact hc) | exact hc) rfl rfl ?_
  refine s_al0 rfl ?_
  refine s_ic rfl ?_
  refine s_pi rfl (by first | (rw [aUk_ne (by show 116 ≠ _; omega), aUk_at]) | (rw [aUk_at]) | (rw [aUk_ne (by show 116 ≠ _; omega)]; exact hc) | exact hc) rfl ?_
  refine s_al0 rfl ?_
  refine s_al1 rfl ?_
  refine s_pf rfl (by first | (rw [aUk_ne (by show 116 ≠ _; omega), aUk_at]) | (rw [aUk_at]) | (rw [aUk_ne (by show 116 ≠ _; omega)]; exact hc) | exact hc) rfl rfl ?_
  refine s_retv rfl rfl ?_
  refine kk _ _ (fun r hr => ⟨?_, ?_⟩) (fun r q1 q2 => ?_) (fun r q1 q2 j => ?_)
  · repeat' rw [aUk_ne (by omega)]
  · repeat' first | rw [aUz_ne (by omega)] | rw [aUp_row (by omega)]
  · rcases (by omega : r = 116 ∨ r = 117 ∨ r = 118 ∨ r = 119 ∨ r = 120) with q | q | q | q | q <;> subst q <;> rfl
  · rcases (by omega : r = 116 ∨ r = 117 ∨ r = 118 ∨ r = 119 ∨ r = 120) with q | q | q | q | q <;> subst q <;> revert j
    all_goals (repeat' first | exact hz | exact zUz_at | refine zUz ?_ | refine zUp ?_)
theorem v_initClearing {s : Nat} (hc : K 121 = (1, 0, [0, 0, 0, 0, 0, 0, 0, 0, 0])) (hz : ∀ j, D 121 j = 0) (h2 : s + 216 ≤ 200000) (kk : ∀ K' D', (∀ r, r < 121 → K' r = K r ∧ D' r = D r) → (∀ r, 121 ≤ r → r < 129 → K' r = kK r) → (∀ r, 121 ≤ r → r < 129 → ∀ j, D' r j = 0) → P 0 (K', D', (129, s + 216))) : VM G l d iX1_init [rf 121] (K, D, (122, s)) P := by
  refine VM_go (tg2 rfl) (Nat.le_of_ble_eq_true rfl) ?_
  refine s_al0 rfl ?_
  refine s_oi rfl (by show (Nat.ble (aCat []) 8 && Nat.blt 0 121) = true; have : Nat.blt 0 121 = true := Nat.ble_eq_true_of_le (by omega); rw [this]; rfl) ?_
  refine s_al0 rfl ?_
  refine s_ic rfl ?_
  refine s_newa (n := 12) rfl ⟨by show _ ≤ 2000; omega, by show _ ≤ 200000; omega⟩ ?_
  refine s_pf rfl (by first | (rw [aUk_ne (by show 121 ≠ _; omega), aUk_at]) | (rw [aUk_at]) | (rw [aUk_ne (by show 121 ≠ _; omega)]; exact hc) | exact hc) rfl rfl ?_
  refine s_al0 rfl ?_
  refine s_ic rfl ?_
  refine s_newa (n := 12) rfl ⟨by show _ ≤ 2000; omega, by show _ ≤ 200000; omega⟩ ?_
  refine s_pf rfl (by first | (rw [aUk_ne (by show 121 ≠ _; omega), aUk_at]) | (rw [aUk_at]) | (rw [aUk_ne (by show 121 ≠ _; omega)]; exact hc) | exact hc) rfl rfl ?_
  refine s_al0 rfl ?_
  refine s_ic rfl ?_
  refine s_newa (n := 12) rfl ⟨by show _ ≤ 2000; omega, by show _ ≤ 200000; omega⟩ ?_
  refine s_pf rfl (by first | (rw [aUk_ne (by show 121 ≠ _; omega), aUk_at]) | (rw [aUk_at]) | (rw [aUk_ne (by show 121 ≠ _; omega)]; exact hc) | exact hc) rfl rfl ?_
  refine s_al0 rfl ?_
  refine s_ic rfl ?_
  refine s_newa (n := 12) rfl ⟨by show _ ≤ 2000; omega, by show _ ≤ 200000; omega⟩ ?_
  refine s_pf rfl (by first | (rw [aUk_ne (by show 121 ≠ _; omega), aUk_at]) | (rw [aUk_at]) | (rw [aUk_ne (by show 121 ≠ _; omega)]; exact hc) | exact hc) rfl rfl ?_
  refine s_al0 rfl ?_
  refine s_ic rfl ?_
  refine s_newa (n := 12) rfl ⟨by show _ ≤ 2000; omega, by show _ ≤ 200000; omega⟩ ?_
  refine s_pf rfl (by first | (rw [aUk_ne (by show 121 ≠ _; omega), aUk_at]) | (rw [aUk_at]) | (rw [aUk_ne (by show 121 ≠ _; omega)]; exact hc) | exact hc) rfl rfl ?_
  refine s_al0 rfl ?_
  refine s_ic rfl ?_
  refine s_newa (n := 144) rfl ⟨by show _ ≤ 2000; omega, by show _ ≤ 200000; omega⟩ ?_
  refine s_pf rfl (by first | (rw [aUk_ne (by show 121 ≠ _; omega), aUk_at]) | (rw [aUk_at]) | (rw [aUk_ne (by show 121 ≠ _; omega)]; exact hc) | exact hc) rfl rfl ?_
  refine s_al0 rfl ?_
  refine s_ic rfl ?_
  refine s_newa (n := 12) rfl ⟨by show _ ≤ 2000; omega, by show _ ≤ 200000; omega⟩ ?_
  refine s_pf rfl (by first | (rw [aUk_ne (by show 121 ≠ _; omega), aUk_at]) | (rw [aUk_at]) | (rw [aUk_ne (by show 121 ≠ _; omega)]; exact hc) | exact hc) rfl rfl ?_
  refine s_al0 rfl ?_
  refine s_ic rfl ?_
  refine s_pi rfl (by first | (rw [aUk_ne (by show 121 ≠ _; omega), aUk_at]) | (rw [aUk_at]) | (rw [aUk_ne (by show 121 ≠ _; omega)]; exact hc) | exact hc) rfl ?_
  refine s_al0 rfl ?_
  refine s_ic rfl ?_
  refine s_pi rfl (by first | (rw [aUk_ne (by show 121 ≠ _; omega), aUk_at]) | (rw [aUk_at]) | (rw [aUk_ne (by show 121 ≠ _; omega)]; exact hc) | exact hc) rfl ?_
  refine s_retv rfl rfl ?_
  refine kk _ _ (fun r hr => ⟨?_, ?_⟩) (fun r q1 q2 => ?_) (fun r q1 q2 j => ?_)
  · repeat' rw [aUk_ne (by omega)]
  · repeat' first | rw [aUz_ne (by omega)] | rw [aUp_row (by omega)]
  · rcases (by omega : r = 121 ∨ r = 122 ∨ r = 123 ∨ r = 124 ∨ r = 125 ∨ r = 126 ∨ r = 127 ∨ r = 128) with q | q | q | q | q | q | q | q <;> subst q <;> rfl
  · rcases (by omega : r = 121 ∨ r = 122 ∨ r = 123 ∨ r = 124 ∨ r = 125 ∨ r = 126 ∨ r = 127 ∨ r = 128) with q | q | q | q | q | q | q | q <;> subst q <;> revert j
    all_goals (repeat' first | exact hz | exact zUz_at | refine zUz ?_ | refine zUp ?_)
end
