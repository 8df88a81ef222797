/-! ===== gathering: the class ===== -/
theorem aUp_same {D : Nat → Int → Int} {r : Nat} {i v : Int} : aUp D r i v r = uF (D r) i v := by
  funext j
  unfold aUp uF
  simp
def isT (T : Nat) : Prop := T = 8 ∨ T = 129
theorem KT {K : Nat → aKd} {T : Nat} (hk : Kn K) (hT : isT T) : K T = (8, 0, [0, 0, T + 1, T + 2, T + 3, T + 4, T + 5, T + 6, T + 7, 0, T + 8]) := by
  rcases hT with rfl | rfl <;> exact hk.at rfl rfl
theorem KTa {K : Nat → aKd} {T : Nat} (hk : Kn K) (hT : isT T) : K (T + 1) = (18, 24, (List.range 24).map (fun i => T + 9 + 3 * i)) ∧ K (T + 2) = (14, 12, []) ∧ K (T + 3) = (14, 12, []) ∧ K (T + 4) = (14, 8, []) ∧ K (T + 5) = (14, 8, []) ∧ K (T + 6) = (16, 8, []) ∧ K (T + 7) = (14, 1500, []) ∧ K (T + 8) = (14, 24, []) := by
  rcases hT with rfl | rfl <;> exact ⟨hk.at rfl rfl, hk.at rfl rfl, hk.at rfl rfl, hk.at rfl rfl, hk.at rfl rfl, hk.at rfl rfl, hk.at rfl rfl, hk.at rfl rfl⟩
theorem kT8 : ∀ i, i < 24 → kK (8 + 9 + 3 * i) = (9, 0, [0, 0, 0, 0, 0, 0, 0, 0, 8 + 10 + 3 * i, 8 + 11 + 3 * i, 0, 0, 0, 0, 0]) ∧ kK (8 + 10 + 3 * i) = (14, 11, []) ∧ kK (8 + 11 + 3 * i) = (14, 11, []) := by decide +kernel
theorem kT9 : ∀ i, i < 24 → kK (129 + 9 + 3 * i) = (9, 0, [0, 0, 0, 0, 0, 0, 0, 0, 129 + 10 + 3 * i, 129 + 11 + 3 * i, 0, 0, 0, 0, 0]) ∧ kK (129 + 10 + 3 * i) = (14, 11, []) ∧ kK (129 + 11 + 3 * i) = (14, 11, []) := by decide +kernel
theorem blt_lt {a b : Nat} (h : a < b) : Nat.blt a b = true := Nat.ble_eq_true_of_le h
/-- the cells of a treaty -/
theorem KTt {K : Nat → aKd} {T i : Nat} (hk : Kn K) (hT : isT T) (hi : i < 24) : K (T + 9 + 3 * i) = (9, 0, [0, 0, 0, 0, 0, 0, 0, 0, T + 10 + 3 * i, T + 11 + 3 * i, 0, 0, 0, 0, 0]) ∧ K (T + 10 + 3 * i) = (14, 11, []) ∧ K (T + 11 + 3 * i) = (14, 11, []) := by
  rcases hT with rfl | rfl
  · obtain ⟨h1, h2, h3⟩ := kT8 i hi
    exact ⟨(hk _ (blt_lt (by omega))).trans h1, (hk _ (blt_lt (by omega))).trans h2, (hk _ (blt_lt (by omega))).trans h3⟩
  · obtain ⟨h1, h2, h3⟩ := kT9 i hi
    exact ⟨(hk _ (blt_lt (by omega))).trans h1, (hk _ (blt_lt (by omega))).trans h2, (hk _ (blt_lt (by omega))).trans h3⟩
section
variable {G : aCX} {l : Launch} {d : Nat} {K : Nat → aKd} {D : Nat → Int → Int} {z : Nat × Nat} {P : Int → aSt → Prop}
theorem v_eventToJoin {T : Nat} {lo : Int} (hk : Kn K) (hT : isT T) (hb : BkB D) (hn : 0 ≤ D 89 0 ∧ D 89 0 ≤ 60) (hl : 0 ≤ lo ∧ lo < D 89 0) (hf : 0 ≤ D 111 1 ∧ D 111 1 ≤ 60) (hfi : ∀ e : Nat, e < (D 111 1).toNat → 0 ≤ D 113 e ∧ D 113 e < D 89 0) (kk : P (efF (D 91) (D 92) (D 93) (D (T + 4)) (D (T + 5)) (D 113) lo (D 111 1).toNat) (K, D, z)) : VM G l d iX2_eventToJoin [rf 111, rf T, (0, lo)] (K, D, z) P := by
  obtain ⟨k1, k2, k3, k4, k5, k6, k7, k8⟩ := KTa hk hT
  obtain ⟨p1, p2, p3, p4, p5, p6⟩ := hb.1 lo hl.1 hl.2
  have loop : ∀ (n : Nat) (u : aTV), n ≤ (D 111 1).toNat → P (efF (D 91) (D 92) (D 93) (D (T + 4)) (D (T + 5)) (D 113) lo n) (K, D, z) → V G l d iX2_eventToJoin 18 [rf 111, rf T, (0, lo), (0, D 93 lo), (0, (n : Int) - 1), u] [] (K, D, z) P := by
    intro n
    induction n with
    | zero =>
      intro u h1 kk
      refine s_il4 rfl ?_
      refine s_zlt rfl ?_ ?_
      · intro h20
        refine s_ic rfl ?_
        refine s_reti rfl rfl ?_
        exact kk
      · intro h20
        omega
    | succ n ih =>
      intro u h1 kk
      have hq := hfi n (by omega)
      obtain ⟨q1, q2, q3, q4, q5, q6⟩ := hb.1 _ hq.1 hq.2
      have en : ((n + 1 : Nat) : Int) - 1 = n := by omega
      rw [en]
      have next : ∀ u' : aTV, P (efF (D 91) (D 92) (D 93) (D (T + 4)) (D (T + 5)) (D 113) lo n) (K, D, z) → V G l d iX2_eventToJoin 110 [rf 111, rf T, (0, lo), (0, D 93 lo), (0, (n : Int)), u'] [] (K, D, z) P := by
        intro u' kk
        refine s_iinc4 rfl rfl ⟨by omega, by omega⟩ ?_
        refine s_go rfl ?_
        exact ih u' (by omega) kk
      rw [efF] at kk
      refine s_il4 rfl ?_
      refine s_zlt rfl ?_ ?_
      · intro h20
        omega
      · intro h20
        refine s_al0 rfl ?_
        refine s_gf rfl (hk.at rfl rfl) rfl rfl ?_
        refine s_il4 rfl ?_
        refine s_iald rfl (hk.at rfl rfl) (by omega) ?_
        refine s_is5 rfl rfl ?_
        refine s_al0 rfl ?_
        refine s_gf rfl (hk.at rfl rfl) rfl rfl ?_
        refine s_gf rfl (hk.at rfl rfl) rfl rfl ?_
        refine s_il5 rfl ?_
        refine s_iald rfl (hk.at rfl rfl) (by omega) ?_
        refine s_il3 rfl ?_
        refine s_cne rfl ?_ ?_
        · intro h43
          rw [if_neg (fun q => h43 q.1)] at kk
          exact next _ kk
        · intro h43
          refine s_al0 rfl ?_
          refine s_gf rfl (hk.at rfl rfl) rfl rfl ?_
          refine s_gf rfl (hk.at rfl rfl) rfl rfl ?_
          refine s_il2 rfl ?_
          refine s_iald rfl (hk.at rfl rfl) (by omega) ?_
          refine s_al0 rfl ?_
          refine s_gf rfl (hk.at rfl rfl) rfl rfl ?_
          refine s_gf rfl (hk.at rfl rfl) rfl rfl ?_
          refine s_il5 rfl ?_
          refine s_iald rfl (hk.at rfl rfl) (by omega) ?_
          refine s_isub rfl ⟨by omega, by omega⟩ ?_
          refine s_al1 rfl ?_
          refine s_gf rfl (KT hk hT) rfl rfl ?_
          refine s_il3 rfl ?_
          refine s_iald rfl k4 (by omega) ?_
          refine s_cge rfl ?_ ?_
          · intro h72
            rw [if_neg (fun q => by omega)] at kk
            exact next _ kk
          · intro h72
            refine s_al0 rfl ?_
            refine s_gf rfl (hk.at rfl rfl) rfl rfl ?_
            refine s_gf rfl (hk.at rfl rfl) rfl rfl ?_
            refine s_il2 rfl ?_
            refine s_iald rfl (hk.at rfl rfl) (by omega) ?_
            refine s_al0 rfl ?_
            refine s_gf rfl (hk.at rfl rfl) rfl rfl ?_
            refine s_gf rfl (hk.at rfl rfl) rfl rfl ?_
            refine s_il5 rfl ?_
            refine s_iald rfl (hk.at rfl rfl) (by omega) ?_
            refine s_isub rfl ⟨by omega, by omega⟩ ?_
            refine s_abs rfl rfl ⟨by omega, by omega⟩ ?_
            refine s_al1 rfl ?_
            refine s_gf rfl (KT hk hT) rfl rfl ?_
            refine s_il3 rfl ?_
            refine s_iald rfl k5 (by omega) ?_
            refine s_cgt rfl ?_ ?_
            · intro h104
              rw [if_neg (fun q => by split at h104 <;> omega)] at kk
              exact next _ kk
            · intro h104
              rw [if_pos ⟨h43, by omega, by split at h104 <;> omega, by split at h104 <;> omega⟩] at kk
              refine s_il4 rfl ?_
              refine s_reti rfl rfl ?_
              exact kk
  refine VM_go (tg2 rfl) (Nat.le_of_ble_eq_true rfl) ?_
  refine s_al0 rfl ?_
  refine s_gf rfl (hk.at rfl rfl) rfl rfl ?_
  refine s_gf rfl (hk.at rfl rfl) rfl rfl ?_
  refine s_il2 rfl ?_
  refine s_iald rfl (hk.at rfl rfl) (by omega) ?_
  refine s_is3 rfl rfl ?_
  refine s_al0 rfl ?_
  refine s_gi rfl (hk.at rfl rfl) rfl ?_
  refine s_ic rfl ?_
  refine s_isub rfl ⟨by omega, by omega⟩ ?_
  refine s_is4 rfl rfl ?_
  have e0 : D 111 1 - 1 = ((D 111 1).toNat : Int) - 1 := by omega
  rw [e0]
  exact loop _ _ (Nat.le_refl _) kk
theorem v_begin {lo : Int} (hk : Kn K) (hf : 0 ≤ D 111 1 ∧ D 111 1 < 60) (kk : ∀ D', (∀ r, r ≠ 111 → r ≠ 113 → r ≠ 114 → r ≠ 115 → D' r = D r) → D' 113 = uF (D 113) (D 111 1) lo → D' 114 = uF (D 114) (D 111 1) 0 → (∀ j, D' 115 j = if D 111 1 * 12 ≤ j ∧ j < D 111 1 * 12 + 12 then 0 else D 115 j) → D' 111 = uF (D 111) 1 (D 111 1 + 1) → P (D 111 1) (K, D', z)) : VM G l d iX2_begin [rf 111, (0, lo)] (K, D, z) P := by
  have loop : ∀ (n : Nat) (i : Int) (D1 : Nat → Int → Int), i + n = 12 → 0 ≤ i → (∀ r, r ≠ 113 → r ≠ 114 → r ≠ 115 → D1 r = D r) → D1 113 = uF (D 113) (D 111 1) lo → D1 114 = uF (D 114) (D 111 1) 0 → (∀ j, D1 115 j = if D 111 1 * 12 ≤ j ∧ j < D 111 1 * 12 + i then 0 else D 115 j) → V G l d iX2_begin 21 [rf 111, (0, lo), (0, D 111 1), (0, i)] [] (K, D1, z) P := by
    intro n
    induction n with
    | zero =>
      intro i D1 h1 h2 f1 f2 f3 f4
      have hi : i = 12 := by omega
      subst hi
      have e1 : D1 111 = D 111 := f1 111 (by decide) (by decide) (by decide)
      refine s_il3 rfl ?_
      refine s_ic rfl ?_
      refine s_cge rfl ?_ ?_
      · intro h24
        refine s_al0 rfl ?_
        refine s_dup rfl (by decide) ?_
        refine s_gi rfl (hk.at rfl rfl) rfl ?_
        rw [e1]
        refine s_ic rfl ?_
        refine s_iadd rfl ⟨by omega, by omega⟩ ?_
        refine s_pi rfl (hk.at rfl rfl) rfl ?_
        refine s_il2 rfl ?_
        refine s_reti rfl rfl ?_
        refine kk _ (fun r a1 a2 a3 a4 => ?_) ?_ ?_ (fun j => ?_) ?_
        · rw [aUp_row a1]; exact f1 r a2 a3 a4
        · rw [aUp_row (by decide)]; exact f2
        · rw [aUp_row (by decide)]; exact f3
        · rw [aUp_row (by decide)]; exact f4 j
        · rw [aUp_same, e1]
      · intro h24
        omega
    | succ n ih =>
      intro i D1 h1 h2 f1 f2 f3 f4
      refine s_il3 rfl ?_
      refine s_ic rfl ?_
      refine s_cge rfl ?_ ?_
      · intro h24
        omega
      · intro h24
        refine s_al0 rfl ?_
        refine s_gf rfl (hk.at rfl rfl) rfl rfl ?_
        refine s_il2 rfl ?_
        refine s_ic rfl ?_
        refine s_imul rfl ⟨by omega, by omega⟩ ?_
        refine s_il3 rfl ?_
        refine s_iadd rfl ⟨by omega, by omega⟩ ?_
        refine s_ic rfl ?_
        refine s_iast rfl (hk.at rfl rfl) (by omega) ?_
        refine s_iinc3 rfl rfl ⟨by omega, by omega⟩ ?_
        refine s_go rfl ?_
        refine ih (i + 1) _ (by omega) (by omega) (fun r a1 a2 a3 => ?_) ?_ ?_ (fun j => ?_)
        · rw [aUp_row a3]; exact f1 r a1 a2 a3
        · rw [aUp_row (by decide)]; exact f2
        · rw [aUp_row (by decide)]; exact f3
        · rw [aUp_same, uF]
          by_cases hj : j = D 111 1 * 12 + i
          · rw [if_pos hj, if_pos (by omega)]
          · rw [if_neg hj, f4 j]
            by_cases hq : D 111 1 * 12 ≤ j ∧ j < D 111 1 * 12 + i
            · rw [if_pos hq, if_pos (by omega)]
            · rw [if_neg hq, if_neg (by omega)]
  refine VM_go (tg2 rfl) (Nat.le_of_ble_eq_true rfl) ?_
  refine s_al0 rfl ?_
  refine s_gi rfl (hk.at rfl rfl) rfl ?_
  refine s_is2 rfl rfl ?_
  refine s_al0 rfl ?_
  refine s_gf rfl (hk.at rfl rfl) rfl rfl ?_
  refine s_il2 rfl ?_
  refine s_il1 rfl ?_
  refine s_iast rfl (hk.at rfl rfl) (by omega) ?_
  refine s_al0 rfl ?_
  refine s_gf rfl (hk.at rfl rfl) rfl rfl ?_
  refine s_il2 rfl ?_
  refine s_ic rfl ?_
  refine s_iast rfl (hk.at rfl rfl) (by omega) ?_
  refine s_ic rfl ?_
  refine s_is3 rfl rfl ?_
  refine loop 12 0 _ (by omega) (by omega) (fun r a1 a2 a3 => ?_) ?_ ?_ (fun j => ?_)
  · rw [aUp_row a2, aUp_row a1]
  · rw [aUp_row (by decide), aUp_same]
  · rw [aUp_same, aUp_row (by decide)]
  · rw [aUp_row (by decide), aUp_row (by decide), if_neg (by omega)]
theorem v_join {e lo am : Int} (hk : Kn K) (he : 0 ≤ e ∧ e < 60) (hl : 0 ≤ lo ∧ lo < 60) (hh : 0 ≤ D 90 lo ∧ D 90 lo < 12) (hs : 0 ≤ D 114 e ∧ D 114 e ≤ 60) (ha : 0 ≤ am ∧ am ≤ 100000) (hd : 0 ≤ D 115 (e * 12 + D 90 lo) ∧ D 115 (e * 12 + D 90 lo) ≤ 6000000) (hc : 0 ≤ D 111 2 ∧ D 111 2 ≤ 60) (kk : P 0 (K, aUp (aUp (aUp (aUp D 112 lo e) 114 e (D 114 e + 1)) 115 (e * 12 + D 90 lo) (D 115 (e * 12 + D 90 lo) + am)) 111 2 (D 111 2 + 1), z)) : VM G l d iX2_join [rf 111, (0, e), (0, lo), (0, am)] (K, D, z) P := by
  refine VM_go (tg2 rfl) (Nat.le_of_ble_eq_true rfl) ?_
  refine s_al0 rfl ?_
  refine s_gf rfl (hk.at rfl rfl) rfl rfl ?_
  try simp only [aUp_app, Nat.reduceEqDiff, Int.reduceEq, eq_self, true_and, false_and, and_false, and_true, if_true, if_false, ↓reduceIte]
  refine s_il2 rfl ?_
  refine s_il1 rfl ?_
  refine s_iast rfl (hk.at rfl rfl) (by omega) ?_
  refine s_al0 rfl ?_
  refine s_gf rfl (hk.at rfl rfl) rfl rfl ?_
  try simp only [aUp_app, Nat.reduceEqDiff, Int.reduceEq, eq_self, true_and, false_and, and_false, and_true, if_true, if_false, ↓reduceIte]
  refine s_il1 rfl ?_
  refine s_dup2 rfl rfl rfl ?_
  refine s_iald rfl (hk.at rfl rfl) (by omega) ?_
  try simp only [aUp_app, Nat.reduceEqDiff, Int.reduceEq, eq_self, true_and, false_and, and_false, and_true, if_true, if_false, ↓reduceIte]
  refine s_ic rfl ?_
  refine s_iadd rfl ⟨by omega, by omega⟩ ?_
  refine s_iast rfl (hk.at rfl rfl) (by omega) ?_
  refine s_al0 rfl ?_
  refine s_gf rfl (hk.at rfl rfl) rfl rfl ?_
  try simp only [aUp_app, Nat.reduceEqDiff, Int.reduceEq, eq_self, true_and, false_and, and_false, and_true, if_true, if_false, ↓reduceIte]
  refine s_il1 rfl ?_
  refine s_ic rfl ?_
  refine s_imul rfl ⟨by omega, by omega⟩ ?_
  refine s_al0 rfl ?_
  refine s_gf rfl (hk.at rfl rfl) rfl rfl ?_
  try simp only [aUp_app, Nat.reduceEqDiff, Int.reduceEq, eq_self, true_and, false_and, and_false, and_true, if_true, if_false, ↓reduceIte]
  refine s_gf rfl (hk.at rfl rfl) rfl rfl ?_
  try simp only [aUp_app, Nat.reduceEqDiff, Int.reduceEq, eq_self, true_and, false_and, and_false, and_true, if_true, if_false, ↓reduceIte]
  refine s_il2 rfl ?_
  refine s_iald rfl (hk.at rfl rfl) (by omega) ?_
  try simp only [aUp_app, Nat.reduceEqDiff, Int.reduceEq, eq_self, true_and, false_and, and_false, and_true, if_true, if_false, ↓reduceIte]
  refine s_iadd rfl ⟨by omega, by omega⟩ ?_
  refine s_dup2 rfl rfl rfl ?_
  refine s_iald rfl (hk.at rfl rfl) (by omega) ?_
  try simp only [aUp_app, Nat.reduceEqDiff, Int.reduceEq, eq_self, true_and, false_and, and_false, and_true, if_true, if_false, ↓reduceIte]
  refine s_il3 rfl ?_
  refine s_iadd rfl ⟨by omega, by omega⟩ ?_
  refine s_iast rfl (hk.at rfl rfl) (by omega) ?_
  refine s_al0 rfl ?_
  refine s_dup rfl (by decide) ?_
  refine s_gi rfl (hk.at rfl rfl) rfl ?_
  try simp only [aUp_app, Nat.reduceEqDiff, Int.reduceEq, eq_self, true_and, false_and, and_false, and_true, if_true, if_false, ↓reduceIte]
  refine s_ic rfl ?_
  refine s_iadd rfl ⟨by omega, by omega⟩ ?_
  refine s_pi rfl (hk.at rfl rfl) rfl ?_
  refine s_retv rfl rfl ?_
  exact kk
end
