/-! ===== constructors: Reckoning, Reader ===== -/
section
variable {G : aCX} {l : Launch} {d : Nat} {K : Nat → aKd} {D : Nat → Int → Int} {P : Int → aSt → Prop}
theorem v_initReckoning {s : Nat} (hc : K 101 = (5, 0, [0, 0, 0, 0, 0, 0, 0, 0])) (hz : ∀ j, D 101 j = 0) (h2 : s + 1462 ≤ 200000) (kk : ∀ K' D', (∀ r, r < 101 → K' r = K r ∧ D' r = D r) → (∀ r, 101 ≤ r → r < 116 → K' r = kK r) → (∀ r, 101 ≤ r → r < 116 → ∀ j, D' r j = 0) → P 0 (K', D', (116, s + 1462))) : VM G l (d + 1) iX5_init [rf 101, rf 89] (K, D, (102, s)) P := by
  refine VM_go (tg2 rfl) (Nat.le_of_ble_eq_true rfl) ?_
  refine s_al0 rfl ?_
  refine s_oi rfl (by show (Nat.ble (aCat []) 8 && Nat.blt 0 101) = true; have : Nat.blt 0 101 = true := Nat.ble_eq_true_of_le (by omega); rw [this]; rfl) ?_
  refine s_al0 rfl ?_
  refine s_ic rfl ?_
  refine s_newa (n := 144) rfl ⟨by show _ ≤ 2000; omega, by show _ ≤ 200000; omega⟩ ?_
  refine s_pf rfl (by first | (rw [aUk_ne (by show 101 ≠ _; omega), aUk_at]) | (rw [aUk_at]) | (rw [aUk_ne (by show 101 ≠ _; omega)]; exact hc) | exact hc) rfl rfl ?_
  refine s_al0 rfl ?_
  refine s_ic rfl ?_
  refine s_newa (n := 12) rfl ⟨by show _ ≤ 2000; omega, by show _ ≤ 200000; omega⟩ ?_
  refine s_pf rfl (by first | (rw [aUk_ne (by show 101 ≠ _; omega), aUk_at]) | (rw [aUk_at]) | (rw [aUk_ne (by show 101 ≠ _; omega)]; exact hc) | exact hc) rfl rfl ?_
  refine s_al0 rfl ?_
  refine s_new (n := 3) rfl rfl rfl ⟨by show _ ≤ 2000; omega, by show _ ≤ 200000; omega⟩ ?_
  refine s_dup rfl (by first | decide | (show (2 : Nat) ≠ 1; decide)) ?_
  refine s_callO rfl rfl (Or.inr rfl) rfl rfl rfl (v_initRounds (s := s + 159) rfl zUz_at (by omega) (fun K2 D2 f1 f2 f3 => ?_))
  have low : ∀ r, r < 101 → K2 r = K r ∧ D2 r = D r := fun r hr => by
    rw [(f1 r (by omega)).1, (f1 r (by omega)).2]
    refine ⟨?_, ?_⟩
    · repeat' rw [aUk_ne (by omega)]
    · repeat' first | rw [aUz_ne (by omega)] | rw [aUp_row (by omega)]
  replace hc : K2 101 = (5, 0, [0, 0, 102, 103, 0, 0, 0, 0]) := by rw [(f1 101 (by omega)).1]; rfl
  have a102 : K2 102 = (14, 144, []) := by rw [(f1 102 (by omega)).1]; rfl
  have a103 : K2 103 = (14, 12, []) := by rw [(f1 103 (by omega)).1]; rfl
  have z101 : ∀ j, D2 101 j = 0 := by
    rw [(f1 101 (by omega)).2]
    repeat' first | exact hz | exact zUz_at | refine zUz ?_ | refine zUp ?_
  have z102 : ∀ j, D2 102 j = 0 := by
    rw [(f1 102 (by omega)).2]
    repeat' first | exact zUz_at | refine zUz ?_ | refine zUp ?_
  have z103 : ∀ j, D2 103 j = 0 := by
    rw [(f1 103 (by omega)).2]
    repeat' first | exact zUz_at | refine zUz ?_ | refine zUp ?_
  show V G l (d + 1) iX5_init 29 [rf 101, rf 89] [rf 104, rf 101] (K2, D2, (108, s + 447)) P
  refine s_pf rfl (by first | (rw [aUk_ne (by show 101 ≠ _; omega), aUk_at]) | (rw [aUk_at]) | (rw [aUk_ne (by show 101 ≠ _; omega)]; exact hc) | exact hc) rfl rfl ?_
  refine s_al0 rfl ?_
  refine s_ic rfl ?_
  refine s_newq (n := 60) rfl ⟨by show _ ≤ 2000; omega, by show _ ≤ 200000; omega⟩ ?_
  refine s_pf rfl (by first | (rw [aUk_ne (by show 101 ≠ _; omega), aUk_at]) | (rw [aUk_at]) | (rw [aUk_ne (by show 101 ≠ _; omega)]; exact hc) | exact hc) rfl rfl ?_
  refine s_al0 rfl ?_
  refine s_ic rfl ?_
  refine s_newa (n := 24) rfl ⟨by show _ ≤ 2000; omega, by show _ ≤ 200000; omega⟩ ?_
  refine s_pf rfl (by first | (rw [aUk_ne (by show 101 ≠ _; omega), aUk_at]) | (rw [aUk_at]) | (rw [aUk_ne (by show 101 ≠ _; omega)]; exact hc) | exact hc) rfl rfl ?_
  refine s_al0 rfl ?_
  refine s_ic rfl ?_
  refine s_newa (n := 24) rfl ⟨by show _ ≤ 2000; omega, by show _ ≤ 200000; omega⟩ ?_
  refine s_pf rfl (by first | (rw [aUk_ne (by show 101 ≠ _; omega), aUk_at]) | (rw [aUk_at]) | (rw [aUk_ne (by show 101 ≠ _; omega)]; exact hc) | exact hc) rfl rfl ?_
  refine s_al0 rfl ?_
  refine s_al1 rfl ?_
  refine s_pf rfl (by first | (rw [aUk_ne (by show 101 ≠ _; omega), aUk_at]) | (rw [aUk_at]) | (rw [aUk_ne (by show 101 ≠ _; omega)]; exact hc) | exact hc) rfl rfl ?_
  refine s_al0 rfl ?_
  refine s_new (n := 7) rfl rfl rfl ⟨by show _ ≤ 2000; omega, by show _ ≤ 200000; omega⟩ ?_
  refine s_dup rfl (by first | decide | (show (2 : Nat) ≠ 1; decide)) ?_
  refine s_al1 rfl ?_
  refine s_callO rfl rfl (Or.inr rfl) rfl rfl rfl (v_initGathering (s := s + 562) rfl zUz_at (by omega) (fun K3 D3 g1 g2 g3 => ?_))
  show V G l (d + 1) iX5_init 71 [rf 101, rf 89] [rf 111, rf 101] (K3, D3, (116, s + 1462)) P
  have b101 : K3 101 = (5, 0, [89, 0, 102, 103, 104, 108, 109, 110]) := by rw [(g1 101 (by omega)).1]; rfl
  refine s_pf rfl b101 rfl rfl ?_
  refine s_retv rfl rfl ?_
  refine kk _ _ (fun r hr => ⟨?_, ?_⟩) (fun r q1 q2 => ?_) (fun r q1 q2 => ?_)
  · rw [aUk_ne (by omega), (g1 r (by omega)).1]
    repeat' rw [aUk_ne (by omega)]
    exact (low r hr).1
  · rw [(g1 r (by omega)).2]
    repeat' first | rw [aUz_ne (by omega)] | rw [aUp_row (by omega)]
    exact (low r hr).2
  · rcases (by omega : r = 101 ∨ r = 102 ∨ r = 103 ∨ (104 ≤ r ∧ r < 108) ∨ r = 108 ∨ r = 109 ∨ r = 110 ∨ 111 ≤ r) with q | q | q | q | q | q | q | q
    · subst q; rw [aUk_at]; rfl
    · subst q; rw [aUk_ne (by omega), (g1 102 (by omega)).1]; repeat' rw [aUk_ne (by omega)]
      rw [a102]; rfl
    · subst q; rw [aUk_ne (by omega), (g1 103 (by omega)).1]; repeat' rw [aUk_ne (by omega)]
      rw [a103]; rfl
    · rw [aUk_ne (by omega), (g1 r (by omega)).1]; repeat' rw [aUk_ne (by omega)]
      exact f2 r q.1 q.2
    · subst q; rw [aUk_ne (by omega), (g1 108 (by omega)).1]; rfl
    · subst q; rw [aUk_ne (by omega), (g1 109 (by omega)).1]; rfl
    · subst q; rw [aUk_ne (by omega), (g1 110 (by omega)).1]; rfl
    · rw [aUk_ne (by omega)]; exact g2 r q q2
  · rcases (by omega : r = 101 ∨ r = 102 ∨ r = 103 ∨ (104 ≤ r ∧ r < 108) ∨ r = 108 ∨ r = 109 ∨ r = 110 ∨ 111 ≤ r) with q | q | q | q | q | q | q | q
    · subst q; rw [(g1 101 (by omega)).2]; repeat' first | exact z101 | exact zUz_at | refine zUz ?_ | refine zUp ?_
    · subst q; rw [(g1 102 (by omega)).2]; repeat' first | exact z102 | exact zUz_at | refine zUz ?_ | refine zUp ?_
    · subst q; rw [(g1 103 (by omega)).2]; repeat' first | exact z103 | exact zUz_at | refine zUz ?_ | refine zUp ?_
    · rw [(g1 r (by omega)).2]; repeat' first | exact f3 r q.1 q.2 | refine zUz ?_ | refine zUp ?_
    · subst q; rw [(g1 108 (by omega)).2]; repeat' first | exact zUz_at | refine zUz ?_ | refine zUp ?_
    · subst q; rw [(g1 109 (by omega)).2]; repeat' first | exact zUz_at | refine zUz ?_ | refine zUp ?_
    · subst q; rw [(g1 110 (by omega)).2]; repeat' first | exact zUz_at | refine zUz ?_ | refine zUp ?_
    · exact g3 r q q2
theorem v_initReader {s : Nat} (hc : K 5 = (4, 0, [0, 0, 0, 0, 0])) (h2 : s + 2600 ≤ 200000) (kk : ∀ K' D', (∀ r, r < 5 → K' r = K r ∧ D' r = D r) → (∀ r, 5 ≤ r → r < 89 → K' r = kK r) → D' 5 3 = 8 → P 0 (K', D', (89, s + 2531))) : VM G l (d + 2) iX4_init [rf 5, rf 2] (K, D, (6, s)) P := by
  refine VM_go (tg2 rfl) (Nat.le_of_ble_eq_true rfl) ?_
  refine s_al0 rfl ?_
  refine s_oi rfl (by show (Nat.ble (aCat []) 8 && Nat.blt 0 5) = true; have : Nat.blt 0 5 = true := Nat.ble_eq_true_of_le (by omega); rw [this]; rfl) ?_
  refine s_al0 rfl ?_
  refine s_ic rfl ?_
  refine s_newa (n := 12) rfl ⟨by show _ ≤ 2000; omega, by show _ ≤ 200000; omega⟩ ?_
  refine s_pf rfl (by first | (rw [aUk_ne (by show 5 ≠ _; omega), aUk_at]) | (rw [aUk_at]) | (rw [aUk_ne (by show 5 ≠ _; omega)]; exact hc) | exact hc) rfl rfl ?_
  refine s_al0 rfl ?_
  refine s_ic rfl ?_
  refine s_newa (n := 24) rfl ⟨by show _ ≤ 2000; omega, by show _ ≤ 200000; omega⟩ ?_
  refine s_pf rfl (by first | (rw [aUk_ne (by show 5 ≠ _; omega), aUk_at]) | (rw [aUk_at]) | (rw [aUk_ne (by show 5 ≠ _; omega)]; exact hc) | exact hc) rfl rfl ?_
  refine s_al0 rfl ?_
  refine s_new (n := 11) rfl rfl rfl ⟨by show _ ≤ 2000; omega, by show _ ≤ 200000; omega⟩ ?_
  refine s_dup rfl (by first | decide | (show (2 : Nat) ≠ 1; decide)) ?_
  refine s_callO rfl rfl (Or.inr rfl) rfl rfl rfl (v_initTerms (T := 8) (s := s + 47) (Or.inl rfl) rfl zUz_at (by omega) (fun K2 D2 f1 f2 _ => ?_))
  have low : ∀ r, r < 5 → K2 r = K r ∧ D2 r = D r := fun r hr => by
    rw [(f1 r (by omega)).1, (f1 r (by omega)).2]
    refine ⟨?_, ?_⟩
    · repeat' rw [aUk_ne (by omega)]
    · repeat' first | rw [aUz_ne (by omega)] | rw [aUp_row (by omega)]
  replace hc : K2 5 = (4, 0, [0, 6, 7, 0, 0]) := by rw [(f1 5 (by omega)).1]; rfl
  have a6 : K2 6 = (15, 12, []) := by rw [(f1 6 (by omega)).1]; rfl
  have a7 : K2 7 = (15, 24, []) := by rw [(f1 7 (by omega)).1]; rfl
  show V G l (d + 2) iX4_init 28 [rf 5, rf 2] [rf 8, rf 5] (K2, D2, (89, s + 2531)) P
  refine s_pr rfl (by first | (rw [aUk_ne (by show 5 ≠ _; omega), aUk_at]) | (rw [aUk_at]) | (rw [aUk_ne (by show 5 ≠ _; omega)]; exact hc) | exact hc) rfl ?_
  refine s_al0 rfl ?_
  refine s_ic rfl ?_
  refine s_pi rfl (by first | (rw [aUk_ne (by show 5 ≠ _; omega), aUk_at]) | (rw [aUk_at]) | (rw [aUk_ne (by show 5 ≠ _; omega)]; exact hc) | exact hc) rfl ?_
  refine s_al0 rfl ?_
  refine s_al1 rfl ?_
  refine s_pf rfl (by first | (rw [aUk_ne (by show 5 ≠ _; omega), aUk_at]) | (rw [aUk_at]) | (rw [aUk_ne (by show 5 ≠ _; omega)]; exact hc) | exact hc) rfl rfl ?_
  refine s_retv rfl rfl ?_
  refine kk _ _ (fun r hr => ⟨?_, ?_⟩) (fun r q1 q2 => ?_) ?_
  · rw [aUk_ne (by omega)]; exact (low r hr).1
  · rw [aUp_row (by omega), aUp_row (by omega)]; exact (low r hr).2
  · rcases (by omega : r = 5 ∨ r = 6 ∨ r = 7 ∨ 8 ≤ r) with q | q | q | q
    · subst q; rw [aUk_at]; rfl
    · subst q; rw [aUk_ne (by omega), a6]; rfl
    · subst q; rw [aUk_ne (by omega), a7]; rfl
    · rw [aUk_ne (by omega)]; exact f2 r q q2
  · rw [aUp_ne (by decide)]; exact aUp_at
end
