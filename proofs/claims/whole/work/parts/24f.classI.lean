/-! ===== the class's constructor ===== -/
section
variable {G : aCX} {l : Launch} {d : Nat} {K : Nat → aKd} {D : Nat → Int → Int} {P : Int → aSt → Prop}
theorem v_initClass {s : Nat} (hg : SgR G l) (hw : KwR G l) (hc : K 1 = (11, 0, [0, 0, 0, 0, 0, 0, 0, 0, 0, 0, 0, 0])) (hz : ∀ j, D 1 j = 0) (h2 : s + 10600 ≤ 200000) (kk : ∀ K' D', K' 0 = K 0 → (∀ r, 1 ≤ r → r < 210 → K' r = kK r) → (D' 1 6 = 129 ∧ D' 1 8 = -1 ∧ D' 1 7 = 0 ∧ D' 1 9 = 0 ∧ D' 1 10 = 0 ∧ D' 1 11 = 0) → D' 2 3 = 0 → (∀ i : Nat, i < 21 → D' 4 i = kw32 i) → D' 5 3 = 8 → (∀ r, 89 ≤ r → r < 129 → ∀ j, D' r j = 0) → (∀ j, D' 129 j = 0) → P 0 (K', D', (210, s + 10508))) : VM G l (d + 3) iX11_init [rf 1] (K, D, (2, s)) P := by
  refine VM_go (tg2 rfl) (Nat.le_of_ble_eq_true rfl) ?_
  refine s_al0 rfl ?_
  refine s_oi rfl (by show (Nat.ble (aCat []) 8 && Nat.blt 0 1) = true; have : Nat.blt 0 1 = true := Nat.ble_eq_true_of_le (by omega); rw [this]; rfl) ?_
  refine s_al0 rfl ?_
  refine s_new (n := 8) rfl rfl rfl ⟨by show _ ≤ 2000; omega, by show _ ≤ 200000; omega⟩ ?_
  refine s_dup rfl (by first | decide | (show (2 : Nat) ≠ 1; decide)) ?_
  refine s_callO rfl rfl (Or.inr rfl) rfl rfl rfl (v_initTape (s := s + 8) hg hw rfl (by omega) (fun K1 D1 f1 h1 g1_1 g2_1 => ?_))
  have A1 : ∀ r, 1 < r → r < 5 → K1 r = kK r := fun r q1 q2 => h1 r q1 q2
  have B1 : K1 1 = (11, 0, [0, 0, 0, 0, 0, 0, 0, 0, 0, 0, 0, 0]) := by rw [(f1 1 (by omega)).1, aUk_ne (by show 1 ≠ 2; omega)]; exact hc
  have B0_1 : K1 0 = K 0 := by rw [(f1 0 (by omega)).1, aUk_ne (by show 0 ≠ 2; omega)]
  have C1 : ∀ j, D1 1 j = 0 := by rw [(f1 1 (by omega)).2, aUz_ne (by show 1 ≠ 2; omega)]; exact hz
  show V G l (d + 3) iX11_init 12 [rf 1] [rf 2, rf 1] (K1, D1, (5, s + 1529)) P
  refine s_pf rfl B1 rfl rfl ?_
  refine s_al0 rfl ?_
  refine s_new (n := 5) rfl rfl rfl ⟨by show _ ≤ 2000; omega, by show _ ≤ 200000; omega⟩ ?_
  refine s_dup rfl (by first | decide | (show (2 : Nat) ≠ 1; decide)) ?_
  refine s_al0 rfl ?_
  refine s_gf rfl (by first | (rw [aUk_ne (by show 1 ≠ _; omega), aUk_at]) | (rw [aUk_at]) | (rw [aUk_ne (by show 1 ≠ _; omega)]; exact hc) | exact hc) rfl rfl ?_
  refine s_callO rfl rfl (Or.inr rfl) rfl rfl rfl (v_initReader (s := s + 1534) rfl (by omega) (fun K2 D2 f2 h2 g1_2 => ?_))
  have A2 : ∀ r, 1 < r → r < 89 → K2 r = kK r := fun r q1 q2 => by
    rcases (by omega : r < 5 ∨ 5 ≤ r) with q | q
    · rw [(f2 r q).1, aUk_ne (by show r ≠ 5; omega), aUk_ne (by omega)]; exact A1 r q1 q
    · exact h2 r q q2
  have B2 : K2 1 = (11, 0, [2, 0, 0, 0, 0, 0, 0, 0, 0, 0, 0, 0]) := by rw [(f2 1 (by omega)).1, aUk_ne (by show 1 ≠ 5; omega), aUk_at]; rfl
  have B0_2 : K2 0 = K 0 := by rw [(f2 0 (by omega)).1, aUk_ne (by show 0 ≠ 5; omega), aUk_ne (by omega)]; exact B0_1
  have C2 : ∀ j, D2 1 j = 0 := by rw [(f2 1 (by omega)).2, aUz_ne (by show 1 ≠ 5; omega)]; exact C1
  have lo2 : ∀ r, r < 5 → D2 r = D1 r := fun r q => by rw [(f2 r q).2, aUz_ne (by show r ≠ 5; omega)]
  show V G l (d + 3) iX11_init 27 [rf 1] [rf 5, rf 1] (K2, D2, (89, s + 4065)) P
  refine s_pf rfl B2 rfl rfl ?_
  refine s_al0 rfl ?_
  refine s_new (n := 13) rfl rfl rfl ⟨by show _ ≤ 2000; omega, by show _ ≤ 200000; omega⟩ ?_
  refine s_dup rfl (by first | decide | (show (2 : Nat) ≠ 1; decide)) ?_
  refine s_callO rfl rfl (Or.inr rfl) rfl rfl rfl (v_initBook (s := s + 4078) rfl zUz_at (by omega) (fun K3 D3 f3 h3 g1_3 => ?_))
  have A3 : ∀ r, 1 < r → r < 101 → K3 r = kK r := fun r q1 q2 => by
    rcases (by omega : r < 89 ∨ 89 ≤ r) with q | q
    · rw [(f3 r q).1, aUk_ne (by show r ≠ 89; omega), aUk_ne (by omega)]; exact A2 r q1 q
    · exact h3 r q q2
  have B3 : K3 1 = (11, 0, [2, 5, 0, 0, 0, 0, 0, 0, 0, 0, 0, 0]) := by rw [(f3 1 (by omega)).1, aUk_ne (by show 1 ≠ 89; omega), aUk_at]; rfl
  have B0_3 : K3 0 = K 0 := by rw [(f3 0 (by omega)).1, aUk_ne (by show 0 ≠ 89; omega), aUk_ne (by omega)]; exact B0_2
  have C3 : ∀ j, D3 1 j = 0 := by rw [(f3 1 (by omega)).2, aUz_ne (by show 1 ≠ 89; omega)]; exact C2
  have lo3 : ∀ r, r < 89 → D3 r = D2 r := fun r q => by rw [(f3 r q).2, aUz_ne (by show r ≠ 89; omega)]
  show V G l (d + 3) iX11_init 38 [rf 1] [rf 89, rf 1] (K3, D3, (101, s + 5458)) P
  refine s_pf rfl B3 rfl rfl ?_
  refine s_al0 rfl ?_
  refine s_new (n := 8) rfl rfl rfl ⟨by show _ ≤ 2000; omega, by show _ ≤ 200000; omega⟩ ?_
  refine s_dup rfl (by first | decide | (show (2 : Nat) ≠ 1; decide)) ?_
  refine s_al0 rfl ?_
  refine s_gf rfl (by first | (rw [aUk_ne (by show 1 ≠ _; omega), aUk_at]) | (rw [aUk_at]) | (rw [aUk_ne (by show 1 ≠ _; omega)]; exact hc) | exact hc) rfl rfl ?_
  refine s_callO rfl rfl (Or.inr rfl) rfl rfl rfl (v_initReckoning (s := s + 5466) rfl zUz_at (by omega) (fun K4 D4 f4 h4 g1_4 => ?_))
  have A4 : ∀ r, 1 < r → r < 116 → K4 r = kK r := fun r q1 q2 => by
    rcases (by omega : r < 101 ∨ 101 ≤ r) with q | q
    · rw [(f4 r q).1, aUk_ne (by show r ≠ 101; omega), aUk_ne (by omega)]; exact A3 r q1 q
    · exact h4 r q q2
  have B4 : K4 1 = (11, 0, [2, 5, 89, 0, 0, 0, 0, 0, 0, 0, 0, 0]) := by rw [(f4 1 (by omega)).1, aUk_ne (by show 1 ≠ 101; omega), aUk_at]; rfl
  have B0_4 : K4 0 = K 0 := by rw [(f4 0 (by omega)).1, aUk_ne (by show 0 ≠ 101; omega), aUk_ne (by omega)]; exact B0_3
  have C4 : ∀ j, D4 1 j = 0 := by rw [(f4 1 (by omega)).2, aUz_ne (by show 1 ≠ 101; omega)]; exact C3
  have lo4 : ∀ r, r < 101 → D4 r = D3 r := fun r q => by rw [(f4 r q).2, aUz_ne (by show r ≠ 101; omega)]
  show V G l (d + 3) iX11_init 53 [rf 1] [rf 101, rf 1] (K4, D4, (116, s + 6928)) P
  refine s_pf rfl B4 rfl rfl ?_
  refine s_al0 rfl ?_
  refine s_new (n := 8) rfl rfl rfl ⟨by show _ ≤ 2000; omega, by show _ ≤ 200000; omega⟩ ?_
  refine s_dup rfl (by first | decide | (show (2 : Nat) ≠ 1; decide)) ?_
  refine s_al0 rfl ?_
  refine s_gf rfl (by first | (rw [aUk_ne (by show 1 ≠ _; omega), aUk_at]) | (rw [aUk_at]) | (rw [aUk_ne (by show 1 ≠ _; omega)]; exact hc) | exact hc) rfl rfl ?_
  refine s_callO rfl rfl (Or.inr rfl) rfl rfl rfl (v_initTrials (s := s + 6936) rfl zUz_at (by omega) (fun K5 D5 f5 h5 g1_5 => ?_))
  have A5 : ∀ r, 1 < r → r < 121 → K5 r = kK r := fun r q1 q2 => by
    rcases (by omega : r < 116 ∨ 116 ≤ r) with q | q
    · rw [(f5 r q).1, aUk_ne (by show r ≠ 116; omega), aUk_ne (by omega)]; exact A4 r q1 q
    · exact h5 r q q2
  have B5 : K5 1 = (11, 0, [2, 5, 89, 101, 0, 0, 0, 0, 0, 0, 0, 0]) := by rw [(f5 1 (by omega)).1, aUk_ne (by show 1 ≠ 116; omega), aUk_at]; rfl
  have B0_5 : K5 0 = K 0 := by rw [(f5 0 (by omega)).1, aUk_ne (by show 0 ≠ 116; omega), aUk_ne (by omega)]; exact B0_4
  have C5 : ∀ j, D5 1 j = 0 := by rw [(f5 1 (by omega)).2, aUz_ne (by show 1 ≠ 116; omega)]; exact C4
  have lo5 : ∀ r, r < 116 → D5 r = D4 r := fun r q => by rw [(f5 r q).2, aUz_ne (by show r ≠ 116; omega)]
  show V G l (d + 3) iX11_init 68 [rf 1] [rf 116, rf 1] (K5, D5, (121, s + 7788)) P
  refine s_pf rfl B5 rfl rfl ?_
  refine s_al0 rfl ?_
  refine s_new (n := 9) rfl rfl rfl ⟨by show _ ≤ 2000; omega, by show _ ≤ 200000; omega⟩ ?_
  refine s_dup rfl (by first | decide | (show (2 : Nat) ≠ 1; decide)) ?_
  refine s_callO rfl rfl (Or.inr rfl) rfl rfl rfl (v_initClearing (s := s + 7797) rfl zUz_at (by omega) (fun K6 D6 f6 h6 g1_6 => ?_))
  have A6 : ∀ r, 1 < r → r < 129 → K6 r = kK r := fun r q1 q2 => by
    rcases (by omega : r < 121 ∨ 121 ≤ r) with q | q
    · rw [(f6 r q).1, aUk_ne (by show r ≠ 121; omega), aUk_ne (by omega)]; exact A5 r q1 q
    · exact h6 r q q2
  have B6 : K6 1 = (11, 0, [2, 5, 89, 101, 116, 0, 0, 0, 0, 0, 0, 0]) := by rw [(f6 1 (by omega)).1, aUk_ne (by show 1 ≠ 121; omega), aUk_at]; rfl
  have B0_6 : K6 0 = K 0 := by rw [(f6 0 (by omega)).1, aUk_ne (by show 0 ≠ 121; omega), aUk_ne (by omega)]; exact B0_5
  have C6 : ∀ j, D6 1 j = 0 := by rw [(f6 1 (by omega)).2, aUz_ne (by show 1 ≠ 121; omega)]; exact C5
  have lo6 : ∀ r, r < 121 → D6 r = D5 r := fun r q => by rw [(f6 r q).2, aUz_ne (by show r ≠ 121; omega)]
  show V G l (d + 3) iX11_init 79 [rf 1] [rf 121, rf 1] (K6, D6, (129, s + 8013)) P
  refine s_pf rfl B6 rfl rfl ?_
  refine s_al0 rfl ?_
  refine s_new (n := 11) rfl rfl rfl ⟨by show _ ≤ 2000; omega, by show _ ≤ 200000; omega⟩ ?_
  refine s_dup rfl (by first | decide | (show (2 : Nat) ≠ 1; decide)) ?_
  refine s_callO rfl rfl (Or.inr rfl) rfl rfl rfl (v_initTerms (T := 129) (s := s + 8024) (Or.inr rfl) rfl zUz_at (by omega) (fun K7 D7 f7 h7 g1_7 => ?_))
  have A7 : ∀ r, 1 < r → r < 210 → K7 r = kK r := fun r q1 q2 => by
    rcases (by omega : r < 129 ∨ 129 ≤ r) with q | q
    · rw [(f7 r q).1, aUk_ne (by show r ≠ 129; omega), aUk_ne (by omega)]; exact A6 r q1 q
    · exact h7 r q q2
  have B7 : K7 1 = (11, 0, [2, 5, 89, 101, 116, 121, 0, 0, 0, 0, 0, 0]) := by rw [(f7 1 (by omega)).1, aUk_ne (by show 1 ≠ 129; omega), aUk_at]; rfl
  have B0_7 : K7 0 = K 0 := by rw [(f7 0 (by omega)).1, aUk_ne (by show 0 ≠ 129; omega), aUk_ne (by omega)]; exact B0_6
  have C7 : ∀ j, D7 1 j = 0 := by rw [(f7 1 (by omega)).2, aUz_ne (by show 1 ≠ 129; omega)]; exact C6
  have lo7 : ∀ r, r < 129 → D7 r = D6 r := fun r q => by rw [(f7 r q).2, aUz_ne (by show r ≠ 129; omega)]
  show V G l (d + 3) iX11_init 90 [rf 1] [rf 129, rf 1] (K7, D7, (210, s + 10508)) P
  refine s_pr rfl B7 rfl ?_
  refine s_al0 rfl ?_
  refine s_ic rfl ?_
  refine s_pi rfl B7 rfl ?_
  refine s_al0 rfl ?_
  refine s_ic rfl ?_
  refine s_pi rfl B7 rfl ?_
  refine s_al0 rfl ?_
  refine s_ic rfl ?_
  refine s_pi rfl B7 rfl ?_
  refine s_al0 rfl ?_
  refine s_ic rfl ?_
  refine s_pz rfl B7 rfl (Or.inl rfl) ?_
  refine s_al0 rfl ?_
  refine s_ic rfl ?_
  refine s_pz rfl B7 rfl (Or.inl rfl) ?_
  refine s_retv rfl rfl ?_
  have z2 : ∀ r, r ≠ 1 → aUp (aUp (aUp (aUp (aUp (aUp D7 1 6 (Int.ofNat 129)) 1 7 0) 1 8 (-1)) 1 9 0) 1 10 0) 1 11 0 r = D7 r := fun r q => by rw [aUp_row q, aUp_row q, aUp_row q, aUp_row q, aUp_row q, aUp_row q]
  refine kk _ _ B0_7 (fun r q1 q2 => ?_) ⟨?_, ?_, ?_, ?_, ?_, ?_⟩ ?_ (fun i hi => ?_) ?_ (fun r q1 q2 => ?_) ?_
  · rcases (by omega : r = 1 ∨ 1 < r) with q | q
    · subst q; rw [B7]; rfl
    · exact A7 r q q2
  · rw [aUp_ne (by decide), aUp_ne (by decide), aUp_ne (by decide), aUp_ne (by decide), aUp_ne (by decide), aUp_at]; rfl
  · rw [aUp_ne (by decide), aUp_ne (by decide), aUp_ne (by decide), aUp_at]
  · rw [aUp_ne (by decide), aUp_ne (by decide), aUp_ne (by decide), aUp_ne (by decide), aUp_at]
  · rw [aUp_ne (by decide), aUp_ne (by decide), aUp_at]
  · rw [aUp_ne (by decide), aUp_at]
  · exact aUp_at
  · rw [z2 2 (by decide), lo7 2 (by decide), lo6 2 (by decide), lo5 2 (by decide), lo4 2 (by decide), lo3 2 (by decide), lo2 2 (by decide)]; exact g1_1
  · rw [z2 4 (by decide), lo7 4 (by decide), lo6 4 (by decide), lo5 4 (by decide), lo4 4 (by decide), lo3 4 (by decide), lo2 4 (by decide)]; exact g2_1 i hi
  · rw [z2 5 (by decide), lo7 5 (by decide), lo6 5 (by decide), lo5 5 (by decide), lo4 5 (by decide), lo3 5 (by decide)]; exact g1_2
  · rw [z2 r (by omega), lo7 r (by omega)]
    rcases (by omega : r < 101 ∨ (101 ≤ r ∧ r < 116) ∨ (116 ≤ r ∧ r < 121) ∨ 121 ≤ r) with q | q | q | q
    · rw [lo6 r (by omega), lo5 r (by omega), lo4 r (by omega)]; exact g1_3 r q1 q
    · rw [lo6 r (by omega), lo5 r (by omega)]; exact g1_4 r q.1 q.2
    · rw [lo6 r (by omega)]; exact g1_5 r q.1 q.2
    · exact g1_6 r q q2
  · rw [z2 129 (by decide)]; exact g1_7
end
