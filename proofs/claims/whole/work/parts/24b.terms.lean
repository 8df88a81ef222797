/-! ===== constructors: Treaty, Terms, Reckoning, Reader ===== -/
theorem kK_tr : ∀ i : Nat, i < 24 → (kK (8 + 9 + 3 * i) = (9, 0, [0, 0, 0, 0, 0, 0, 0, 0, 8 + 10 + 3 * i, 8 + 11 + 3 * i, 0, 0, 0, 0, 0]) ∧ kK (8 + 10 + 3 * i) = (14, 11, []) ∧ kK (8 + 11 + 3 * i) = (14, 11, [])) ∧ (kK (129 + 9 + 3 * i) = (9, 0, [0, 0, 0, 0, 0, 0, 0, 0, 129 + 10 + 3 * i, 129 + 11 + 3 * i, 0, 0, 0, 0, 0]) ∧ kK (129 + 10 + 3 * i) = (14, 11, []) ∧ kK (129 + 11 + 3 * i) = (14, 11, [])) := by decide +kernel
def rsT (T i : Nat) : List Nat := (List.range 24).map (fun k => if k < i then T + 9 + 3 * k else 0)
theorem rsT_set {T i : Nat} (h : i < 24) : aSet (rsT T i) i (T + 9 + 3 * i) = rsT T (i + 1) := by
  rw [aSet_eq]
  unfold rsT
  apply List.ext_getElem?
  intro k
  rw [List.getElem?_set]
  by_cases e : i = k
  · subst e
    rw [if_pos rfl, if_pos (by simp; exact h), List.getElem?_map, List.getElem?_range h]
    simp
  · rw [if_neg e, List.getElem?_map, List.getElem?_map]
    by_cases q : k < 24
    · rw [List.getElem?_range q]
      simp only [Option.map_some, Option.some.injEq]
      by_cases q2 : k < i
      · rw [if_pos q2, if_pos (by omega)]
      · rw [if_neg q2, if_neg (by omega)]
    · rw [List.getElem?_eq_none (by simp; omega)]
      rfl
theorem rsT_len {T i : Nat} : (rsT T i).length = 24 := by unfold rsT; simp
theorem rsT_0 {T : Nat} : List.replicate 24 0 = rsT T 0 := by unfold rsT; rfl
section
variable {G : aCX} {l : Launch} {d : Nat} {K : Nat → aKd} {D : Nat → Int → Int} {P : Int → aSt → Prop}
theorem v_initTreaty {c s : Nat} (hc : K c = (9, 0, [0, 0, 0, 0, 0, 0, 0, 0, 0, 0, 0, 0, 0, 0, 0])) (h0 : 1 ≤ c) (h1 : c + 3 ≤ 2000) (h2 : s + 22 ≤ 200000) (kk : ∀ K' D', (∀ r, r < c → K' r = K r ∧ D' r = D r) → K' c = (9, 0, [0, 0, 0, 0, 0, 0, 0, 0, c + 1, c + 2, 0, 0, 0, 0, 0]) → K' (c + 1) = (14, 11, []) → K' (c + 2) = (14, 11, []) → P 0 (K', D', (c + 3, s + 22))) : VM G l d iX9_init [rf c] (K, D, (c + 1, s)) P := by
  refine VM_go (tg2 rfl) (Nat.le_of_ble_eq_true rfl) ?_
  refine s_al0 rfl ?_
  refine s_oi rfl (by show (Nat.ble (aCat []) 8 && Nat.blt 0 c) = true; have : Nat.blt 0 c = true := Nat.ble_eq_true_of_le (by omega); rw [this]; rfl) ?_
  refine s_al0 rfl ?_
  refine s_ic rfl ?_
  refine s_pi rfl (by first | (rw [aUk_ne (by show c ≠ _; omega), aUk_at]) | (rw [aUk_at]) | (rw [aUk_ne (by show c ≠ _; omega)]; exact hc) | exact hc) rfl ?_
  refine s_al0 rfl ?_
  refine s_ic rfl ?_
  refine s_pz rfl (by first | (rw [aUk_ne (by show c ≠ _; omega), aUk_at]) | (rw [aUk_at]) | (rw [aUk_ne (by show c ≠ _; omega)]; exact hc) | exact hc) rfl (Or.inl rfl) ?_
  refine s_al0 rfl ?_
  refine s_ic rfl ?_
  refine s_pz rfl (by first | (rw [aUk_ne (by show c ≠ _; omega), aUk_at]) | (rw [aUk_at]) | (rw [aUk_ne (by show c ≠ _; omega)]; exact hc) | exact hc) rfl (Or.inl rfl) ?_
  refine s_al0 rfl ?_
  refine s_ic rfl ?_
  refine s_pi rfl (by first | (rw [aUk_ne (by show c ≠ _; omega), aUk_at]) | (rw [aUk_at]) | (rw [aUk_ne (by show c ≠ _; omega)]; exact hc) | exact hc) rfl ?_
  refine s_al0 rfl ?_
  refine s_ic rfl ?_
  refine s_pi rfl (by first | (rw [aUk_ne (by show c ≠ _; omega), aUk_at]) | (rw [aUk_at]) | (rw [aUk_ne (by show c ≠ _; omega)]; exact hc) | exact hc) rfl ?_
  refine s_al0 rfl ?_
  refine s_ic rfl ?_
  refine s_pi rfl (by first | (rw [aUk_ne (by show c ≠ _; omega), aUk_at]) | (rw [aUk_at]) | (rw [aUk_ne (by show c ≠ _; omega)]; exact hc) | exact hc) rfl ?_
  refine s_al0 rfl ?_
  refine s_ic rfl ?_
  refine s_pi rfl (by first | (rw [aUk_ne (by show c ≠ _; omega), aUk_at]) | (rw [aUk_at]) | (rw [aUk_ne (by show c ≠ _; omega)]; exact hc) | exact hc) rfl ?_
  refine s_al0 rfl ?_
  refine s_ic rfl ?_
  refine s_pi rfl (by first | (rw [aUk_ne (by show c ≠ _; omega), aUk_at]) | (rw [aUk_at]) | (rw [aUk_ne (by show c ≠ _; omega)]; exact hc) | exact hc) rfl ?_
  refine s_al0 rfl ?_
  refine s_ic rfl ?_
  refine s_newa (n := 11) rfl ⟨by show _ ≤ 2000; omega, by show _ ≤ 200000; omega⟩ ?_
  refine s_pf rfl (by first | (rw [aUk_ne (by show c ≠ _; omega), aUk_at]) | (rw [aUk_at]) | (rw [aUk_ne (by show c ≠ _; omega)]; exact hc) | exact hc) rfl rfl ?_
  refine s_al0 rfl ?_
  refine s_ic rfl ?_
  refine s_newa (n := 11) rfl ⟨by show _ ≤ 2000; omega, by show _ ≤ 200000; omega⟩ ?_
  refine s_pf rfl (by first | (rw [aUk_ne (by show c ≠ _; omega), aUk_at]) | (rw [aUk_at]) | (rw [aUk_ne (by show c ≠ _; omega)]; exact hc) | exact hc) rfl rfl ?_
  refine s_al0 rfl ?_
  refine s_ic rfl ?_
  refine s_pi rfl (by first | (rw [aUk_ne (by show c ≠ _; omega), aUk_at]) | (rw [aUk_at]) | (rw [aUk_ne (by show c ≠ _; omega)]; exact hc) | exact hc) rfl ?_
  refine s_al0 rfl ?_
  refine s_ic rfl ?_
  refine s_pi rfl (by first | (rw [aUk_ne (by show c ≠ _; omega), aUk_at]) | (rw [aUk_at]) | (rw [aUk_ne (by show c ≠ _; omega)]; exact hc) | exact hc) rfl ?_
  refine s_al0 rfl ?_
  refine s_ic rfl ?_
  refine s_pi rfl (by first | (rw [aUk_ne (by show c ≠ _; omega), aUk_at]) | (rw [aUk_at]) | (rw [aUk_ne (by show c ≠ _; omega)]; exact hc) | exact hc) rfl ?_
  refine s_al0 rfl ?_
  refine s_ic rfl ?_
  refine s_pi rfl (by first | (rw [aUk_ne (by show c ≠ _; omega), aUk_at]) | (rw [aUk_at]) | (rw [aUk_ne (by show c ≠ _; omega)]; exact hc) | exact hc) rfl ?_
  refine s_al0 rfl ?_
  refine s_ic rfl ?_
  refine s_pi rfl (by first | (rw [aUk_ne (by show c ≠ _; omega), aUk_at]) | (rw [aUk_at]) | (rw [aUk_ne (by show c ≠ _; omega)]; exact hc) | exact hc) rfl ?_
  refine s_retv rfl rfl ?_
  refine kk _ _ (fun r hr => ⟨?_, ?_⟩) ?_ ?_ ?_
  · repeat' rw [aUk_ne (by omega)]
  · repeat' first | rw [aUz_ne (by omega)] | rw [aUp_row (by omega)]
  · rw [aUk_at]; rfl
  all_goals ((repeat' first | rw [aUk_at] | rw [aUk_ne (by omega)]) <;> rfl)
theorem v_initTerms {T s : Nat} (hT : isT T) (hc : K T = (8, 0, [0, 0, 0, 0, 0, 0, 0, 0, 0, 0, 0])) (hz : ∀ j, D T j = 0) (h2 : s + 2500 ≤ 200000) (kk : ∀ K' D', (∀ r, r < T → K' r = K r ∧ D' r = D r) → (∀ r, T ≤ r → r < T + 81 → K' r = kK r) → (∀ j, D' T j = 0) → P 0 (K', D', (T + 81, s + 2484))) : VM G l (d + 1) iX8_init [rf T] (K, D, (T + 1, s)) P := by
  have hT2 : T = 8 ∨ T = 129 := hT
  have loop : ∀ (n i : Nat) (K1 : Nat → aKd) (D1 : Nat → Int → Int), i + n = 24 → (∀ r, r < T → K1 r = K r ∧ D1 r = D r) → K1 T = (8, 0, [0, 0, T + 1, T + 2, T + 3, T + 4, T + 5, T + 6, T + 7, 0, T + 8]) → K1 (T + 1) = (18, 24, rsT T i) → K1 (T + 2) = (14, 12, []) → K1 (T + 3) = (14, 12, []) → K1 (T + 4) = (14, 8, []) → K1 (T + 5) = (14, 8, []) → K1 (T + 6) = (16, 8, []) → K1 (T + 7) = (14, 1500, []) → K1 (T + 8) = (14, 24, []) → (∀ k : Nat, k < i → K1 (T + 9 + 3 * k) = (9, 0, [0, 0, 0, 0, 0, 0, 0, 0, T + 10 + 3 * k, T + 11 + 3 * k, 0, 0, 0, 0, 0]) ∧ K1 (T + 10 + 3 * k) = (14, 11, []) ∧ K1 (T + 11 + 3 * k) = (14, 11, [])) → (∀ j, D1 T j = 0) →  V G l (d + 1) iX8_init 87 [rf T, (0, (i : Int))] [] (K1, D1, (T + 9 + 3 * i, s + 1596 + 37 * i)) P := by
    intro n
    induction n with
    | zero =>
      intro i K1 D1 hi g1 kT k1 k2 k3 k4 k5 k6 k7 k8 gt gz
      have hi2 : i = 24 := by omega
      subst hi2
      refine s_il1 rfl ?_
      refine s_ic rfl ?_
      refine s_cge rfl ?_ ?_
      · intro h90
        refine s_retv rfl rfl ?_
        refine kk K1 D1 g1 (fun r q1 q2 => ?_) gz
        rcases (by omega : r = T ∨ r = T + 1 ∨ r = T + 2 ∨ r = T + 3 ∨ r = T + 4 ∨ r = T + 5 ∨ r = T + 6 ∨ r = T + 7 ∨ r = T + 8 ∨ T + 9 ≤ r) with q | q | q | q | q | q | q | q | q | q9
        · subst q; rw [kT]; rcases hT2 with e | e <;> subst e <;> rfl
        · subst q; rw [k1]; rcases hT2 with e | e <;> subst e <;> rfl
        · subst q; rw [k2]; rcases hT2 with e | e <;> subst e <;> rfl
        · subst q; rw [k3]; rcases hT2 with e | e <;> subst e <;> rfl
        · subst q; rw [k4]; rcases hT2 with e | e <;> subst e <;> rfl
        · subst q; rw [k5]; rcases hT2 with e | e <;> subst e <;> rfl
        · subst q; rw [k6]; rcases hT2 with e | e <;> subst e <;> rfl
        · subst q; rw [k7]; rcases hT2 with e | e <;> subst e <;> rfl
        · subst q; rw [k8]; rcases hT2 with e | e <;> subst e <;> rfl
        · obtain ⟨k, hk, q⟩ : ∃ k, k < 24 ∧ (r = T + 9 + 3 * k ∨ r = T + 10 + 3 * k ∨ r = T + 11 + 3 * k) := ⟨(r - (T + 9)) / 3, by omega, by omega⟩
          have g := gt k hk
          have t := kK_tr k hk
          rcases hT2 with e | e <;> subst e
          · rcases q with q | q | q <;> rw [q]
            · rw [g.1, t.1.1]
            · rw [g.2.1, t.1.2.1]
            · rw [g.2.2, t.1.2.2]
          · rcases q with q | q | q <;> rw [q]
            · rw [g.1, t.2.1]
            · rw [g.2.1, t.2.2.1]
            · rw [g.2.2, t.2.2.2]
      · intro h90
        omega
    | succ n ih =>
      intro i K1 D1 hi g1 kT k1 k2 k3 k4 k5 k6 k7 k8 gt gz
      have hi24 : i < 24 := by omega
      refine s_il1 rfl ?_
      refine s_ic rfl ?_
      refine s_cge rfl ?_ ?_
      · intro h90
        omega
      · intro h90
        refine s_al0 rfl ?_
        refine s_gf rfl kT rfl rfl ?_
        refine s_il1 rfl ?_
        refine s_new (n := 15) rfl rfl rfl ⟨by show _ ≤ 2000; omega, by show _ ≤ 200000; omega⟩ ?_
        refine s_dup rfl (by first | decide | (show (2 : Nat) ≠ 1; decide)) ?_
        refine s_callO rfl rfl (Or.inr rfl) rfl rfl aUk_at (v_initTreaty (c := T + 9 + 3 * i) (s := s + 1596 + 37 * i + 15) aUk_at (by omega) (by omega) (by omega) (fun K2 D2 f1 f2 f3 f4 => ?_))
        have low : ∀ r, r < T + 9 + 3 * i → K2 r = K1 r ∧ D2 r = D1 r := fun r hr => by
          rw [(f1 r hr).1, (f1 r hr).2, aUk_ne (by show r ≠ T + 9 + 3 * i; omega), aUz_ne (by show r ≠ T + 9 + 3 * i; omega)]
          exact ⟨rfl, rfl⟩
        show V G l (d + 1) iX8_init 105 [rf T, (0, (i : Int))] [(2, Int.ofNat (T + 9 + 3 * i)), (0, (i : Int)), (2, Int.ofNat (T + 1))] (K2, D2, (T + 9 + 3 * i + 3, s + 1596 + 37 * i + 15 + 22)) P
        refine s_aastT rfl (by rw [(low (T + 1) (by omega)).1]; exact k1) f2 ⟨by omega, by omega, by rw [rsT_len]; omega⟩ ?_
        refine s_iinc1 rfl rfl ⟨by omega, by omega⟩ ?_
        refine s_go rfl ?_
        have e0 : (i : Int) + 1 = ((i + 1 : Nat) : Int) := by omega
        rw [e0, show T + 9 + 3 * i + 3 = T + 9 + 3 * (i + 1) by omega, show s + 1596 + 37 * i + 15 + 22 = s + 1596 + 37 * (i + 1) by omega]
        have up : ∀ r, r ≠ T + 1 → aUk K2 (T + 1) (18, 24, aSet (rsT T i) ((i : Int)).toNat (T + 9 + 3 * i)) r = K2 r := fun r q => aUk_ne q
        refine ih (i + 1) _ D2 (by omega) (fun r hr => ?_) ?_ ?_ ?_ ?_ ?_ ?_ ?_ ?_ ?_ (fun k hk => ?_) (fun j => ?_)
        · rw [up r (by omega), (low r (by omega)).1, (low r (by omega)).2]; exact g1 r hr
        · rw [up _ (by omega), (low _ (by omega)).1]; exact kT
        · rw [aUk_at, Int.toNat_natCast, rsT_set hi24]
        · rw [up _ (by omega), (low _ (by omega)).1]; exact k2
        · rw [up _ (by omega), (low _ (by omega)).1]; exact k3
        · rw [up _ (by omega), (low _ (by omega)).1]; exact k4
        · rw [up _ (by omega), (low _ (by omega)).1]; exact k5
        · rw [up _ (by omega), (low _ (by omega)).1]; exact k6
        · rw [up _ (by omega), (low _ (by omega)).1]; exact k7
        · rw [up _ (by omega), (low _ (by omega)).1]; exact k8
        · rw [up _ (by omega), up _ (by omega), up _ (by omega)]
          rcases (by omega : k < i ∨ k = i) with q | q
          · rw [(low _ (by omega)).1, (low _ (by omega)).1, (low _ (by omega)).1]; exact gt k q
          · subst q
            rw [f2, show T + 10 + 3 * k = T + 9 + 3 * k + 1 by omega, show T + 11 + 3 * k = T + 9 + 3 * k + 2 by omega, f3, f4]
            exact ⟨rfl, rfl, rfl⟩
        · rw [(low T (by omega)).2]; exact gz j
  refine VM_go (tg2 rfl) (Nat.le_of_ble_eq_true rfl) ?_
  refine s_al0 rfl ?_
  refine s_oi rfl (by show (Nat.ble (aCat []) 8 && Nat.blt 0 T) = true; have : Nat.blt 0 T = true := Nat.ble_eq_true_of_le (by omega); rw [this]; rfl) ?_
  refine s_al0 rfl ?_
  refine s_ic rfl ?_
  refine s_pi rfl (by first | (rw [aUk_ne (by show T ≠ _; omega), aUk_at]) | (rw [aUk_at]) | (rw [aUk_ne (by show T ≠ _; omega)]; exact hc) | exact hc) rfl ?_
  refine s_al0 rfl ?_
  refine s_ic rfl ?_
  refine s_pi rfl (by first | (rw [aUk_ne (by show T ≠ _; omega), aUk_at]) | (rw [aUk_at]) | (rw [aUk_ne (by show T ≠ _; omega)]; exact hc) | exact hc) rfl ?_
  refine s_al0 rfl ?_
  refine s_ic rfl ?_
  refine s_newq (n := 24) rfl ⟨by show _ ≤ 2000; omega, by show _ ≤ 200000; omega⟩ ?_
  refine s_pf rfl (by first | (rw [aUk_ne (by show T ≠ _; omega), aUk_at]) | (rw [aUk_at]) | (rw [aUk_ne (by show T ≠ _; omega)]; exact hc) | exact hc) rfl rfl ?_
  refine s_al0 rfl ?_
  refine s_ic rfl ?_
  refine s_newa (n := 12) rfl ⟨by show _ ≤ 2000; omega, by show _ ≤ 200000; omega⟩ ?_
  refine s_pf rfl (by first | (rw [aUk_ne (by show T ≠ _; omega), aUk_at]) | (rw [aUk_at]) | (rw [aUk_ne (by show T ≠ _; omega)]; exact hc) | exact hc) rfl rfl ?_
  refine s_al0 rfl ?_
  refine s_ic rfl ?_
  refine s_newa (n := 12) rfl ⟨by show _ ≤ 2000; omega, by show _ ≤ 200000; omega⟩ ?_
  refine s_pf rfl (by first | (rw [aUk_ne (by show T ≠ _; omega), aUk_at]) | (rw [aUk_at]) | (rw [aUk_ne (by show T ≠ _; omega)]; exact hc) | exact hc) rfl rfl ?_
  refine s_al0 rfl ?_
  refine s_ic rfl ?_
  refine s_newa (n := 8) rfl ⟨by show _ ≤ 2000; omega, by show _ ≤ 200000; omega⟩ ?_
  refine s_pf rfl (by first | (rw [aUk_ne (by show T ≠ _; omega), aUk_at]) | (rw [aUk_at]) | (rw [aUk_ne (by show T ≠ _; omega)]; exact hc) | exact hc) rfl rfl ?_
  refine s_al0 rfl ?_
  refine s_ic rfl ?_
  refine s_newa (n := 8) rfl ⟨by show _ ≤ 2000; omega, by show _ ≤ 200000; omega⟩ ?_
  refine s_pf rfl (by first | (rw [aUk_ne (by show T ≠ _; omega), aUk_at]) | (rw [aUk_at]) | (rw [aUk_ne (by show T ≠ _; omega)]; exact hc) | exact hc) rfl rfl ?_
  refine s_al0 rfl ?_
  refine s_ic rfl ?_
  refine s_newa (n := 8) rfl ⟨by show _ ≤ 2000; omega, by show _ ≤ 200000; omega⟩ ?_
  refine s_pf rfl (by first | (rw [aUk_ne (by show T ≠ _; omega), aUk_at]) | (rw [aUk_at]) | (rw [aUk_ne (by show T ≠ _; omega)]; exact hc) | exact hc) rfl rfl ?_
  refine s_al0 rfl ?_
  refine s_ic rfl ?_
  refine s_newa (n := 1500) rfl ⟨by show _ ≤ 2000; omega, by show _ ≤ 200000; omega⟩ ?_
  refine s_pf rfl (by first | (rw [aUk_ne (by show T ≠ _; omega), aUk_at]) | (rw [aUk_at]) | (rw [aUk_ne (by show T ≠ _; omega)]; exact hc) | exact hc) rfl rfl ?_
  refine s_al0 rfl ?_
  refine s_ic rfl ?_
  refine s_pi rfl (by first | (rw [aUk_ne (by show T ≠ _; omega), aUk_at]) | (rw [aUk_at]) | (rw [aUk_ne (by show T ≠ _; omega)]; exact hc) | exact hc) rfl ?_
  refine s_al0 rfl ?_
  refine s_ic rfl ?_
  refine s_newa (n := 24) rfl ⟨by show _ ≤ 2000; omega, by show _ ≤ 200000; omega⟩ ?_
  refine s_pf rfl (by first | (rw [aUk_ne (by show T ≠ _; omega), aUk_at]) | (rw [aUk_at]) | (rw [aUk_ne (by show T ≠ _; omega)]; exact hc) | exact hc) rfl rfl ?_
  refine s_ic rfl ?_
  refine s_is1 rfl rfl ?_
  rw [show (T + 1 + 1 + 1 + 1 + 1 + 1 + 1 + 1 + 1 : Nat) = T + 9 + 3 * 0 by omega]
  have hz2 : ∀ j, D T j = 0 := hz
  refine loop 24 0 _ _ rfl (fun r hr => ⟨?_, ?_⟩) ?_ ?_ ?_ ?_ ?_ ?_ ?_ ?_ ?_ (fun k hk => absurd hk (Nat.not_lt_zero k)) (fun j => ?_)
  · repeat' rw [aUk_ne (by omega)]
  · repeat' first | rw [aUz_ne (by omega)] | rw [aUp_row (by omega)]
  · rw [aUk_at]; rfl
  · repeat' first | rw [aUk_at] | rw [aUk_ne (by omega)]
    rw [← rsT_0]; rfl
  all_goals first | ((repeat' first | rw [aUk_at] | rw [aUk_ne (by omega)]) <;> rfl) | (revert j; repeat' first | exact hz2 | refine zUz ?_ | refine zUp ?_)
end
