/-! ===== the class's book ===== -/
theorem aUp_app {D : Nat → Int → Int} {r r' : Nat} {i i' v : Int} : aUp D r i v r' i' = if r' = r ∧ i' = i then v else D r' i' := rfl
abbrev rf (n : Nat) : aTV := (2, Int.ofNat n)
theorem tg2 {A : List aTV} (h : A.all (fun v => Nat.ble v.1 2) = true) : ∀ v ∈ A, v.1 ≤ 2 := fun v hv => Nat.le_of_ble_eq_true (List.all_eq_true.mp h v hv)
section
variable {G : aCX} {l : Launch} {d : Nat} {K : Nat → aKd} {D : Nat → Int → Int} {z : Nat × Nat} {P : Int → aSt → Prop}
theorem v_isWithin {n m : Int} (kk : P (if 0 ≤ n ∧ n ≤ m then 1 else 0) (K, D, z)) : VM G l d iX11_isWithin [(0, n), (0, m)] (K, D, z) P := by
  refine VM_go (tg2 rfl) (Nat.le_of_ble_eq_true rfl) ?_
  refine s_il0 rfl ?_
  refine s_zlt rfl ?_ ?_
  · intro h1
    refine s_ic rfl ?_
    refine s_retz rfl rfl (by omega) ?_
    first | (rw [if_pos (by omega)] at kk; exact kk) | (rw [if_neg (by omega)] at kk; exact kk)
  · intro h1
    refine s_il0 rfl ?_
    refine s_il1 rfl ?_
    refine s_cgt rfl ?_ ?_
    · intro h6
      refine s_ic rfl ?_
      refine s_retz rfl rfl (by omega) ?_
      first | (rw [if_pos (by omega)] at kk; exact kk) | (rw [if_neg (by omega)] at kk; exact kk)
    · intro h6
      refine s_ic rfl ?_
      refine s_go rfl ?_
      refine s_retz rfl rfl (by omega) ?_
      first | (rw [if_pos (by omega)] at kk; exact kk) | (rw [if_neg (by omega)] at kk; exact kk)
theorem v_addWord {lo day am : Int} (hk : Kn K) (hl : 0 ≤ lo ∧ lo < 60) (hw : 0 ≤ D 89 1 ∧ D 89 1 < 300) (kk : P 0 (K, aUp (aUp (aUp (aUp (aUp D 98 (D 89 1) day) 99 (D 89 1) am) 100 (D 89 1) (D 97 lo)) 97 lo (D 89 1)) 89 1 (D 89 1 + 1), z)) : VM G l d iX0_addWord [rf 89, (0, lo), (0, day), (0, am)] (K, D, z) P := by
  refine VM_go (tg2 rfl) (Nat.le_of_ble_eq_true rfl) ?_
  refine s_al0 rfl ?_
  refine s_gf rfl (hk.at rfl rfl) rfl rfl ?_
  try simp only [aUp_app, Nat.reduceEqDiff, Int.reduceEq, eq_self, true_and, false_and, and_false, and_true, if_true, if_false, ↓reduceIte]
  refine s_al0 rfl ?_
  refine s_gi rfl (hk.at rfl rfl) rfl ?_
  try simp only [aUp_app, Nat.reduceEqDiff, Int.reduceEq, eq_self, true_and, false_and, and_false, and_true, if_true, if_false, ↓reduceIte]
  refine s_il2 rfl ?_
  refine s_iast rfl (hk.at rfl rfl) (by omega) ?_
  refine s_al0 rfl ?_
  refine s_gf rfl (hk.at rfl rfl) rfl rfl ?_
  try simp only [aUp_app, Nat.reduceEqDiff, Int.reduceEq, eq_self, true_and, false_and, and_false, and_true, if_true, if_false, ↓reduceIte]
  refine s_al0 rfl ?_
  refine s_gi rfl (hk.at rfl rfl) rfl ?_
  try simp only [aUp_app, Nat.reduceEqDiff, Int.reduceEq, eq_self, true_and, false_and, and_false, and_true, if_true, if_false, ↓reduceIte]
  refine s_il3 rfl ?_
  refine s_iast rfl (hk.at rfl rfl) (by omega) ?_
  refine s_al0 rfl ?_
  refine s_gf rfl (hk.at rfl rfl) rfl rfl ?_
  try simp only [aUp_app, Nat.reduceEqDiff, Int.reduceEq, eq_self, true_and, false_and, and_false, and_true, if_true, if_false, ↓reduceIte]
  refine s_al0 rfl ?_
  refine s_gi rfl (hk.at rfl rfl) rfl ?_
  try simp only [aUp_app, Nat.reduceEqDiff, Int.reduceEq, eq_self, true_and, false_and, and_false, and_true, if_true, if_false, ↓reduceIte]
  refine s_al0 rfl ?_
  refine s_gf rfl (hk.at rfl rfl) rfl rfl ?_
  try simp only [aUp_app, Nat.reduceEqDiff, Int.reduceEq, eq_self, true_and, false_and, and_false, and_true, if_true, if_false, ↓reduceIte]
  refine s_il1 rfl ?_
  refine s_iald rfl (hk.at rfl rfl) (by omega) ?_
  try simp only [aUp_app, Nat.reduceEqDiff, Int.reduceEq, eq_self, true_and, false_and, and_false, and_true, if_true, if_false, ↓reduceIte]
  refine s_iast rfl (hk.at rfl rfl) (by omega) ?_
  refine s_al0 rfl ?_
  refine s_gf rfl (hk.at rfl rfl) rfl rfl ?_
  try simp only [aUp_app, Nat.reduceEqDiff, Int.reduceEq, eq_self, true_and, false_and, and_false, and_true, if_true, if_false, ↓reduceIte]
  refine s_il1 rfl ?_
  refine s_al0 rfl ?_
  refine s_gi rfl (hk.at rfl rfl) rfl ?_
  try simp only [aUp_app, Nat.reduceEqDiff, Int.reduceEq, eq_self, true_and, false_and, and_false, and_true, if_true, if_false, ↓reduceIte]
  refine s_iast rfl (hk.at rfl rfl) (by omega) ?_
  refine s_al0 rfl ?_
  refine s_dup rfl (by decide) ?_
  refine s_gi rfl (hk.at rfl rfl) rfl ?_
  try simp only [aUp_app, Nat.reduceEqDiff, Int.reduceEq, eq_self, true_and, false_and, and_false, and_true, if_true, if_false, ↓reduceIte]
  refine s_ic rfl ?_
  refine s_iadd rfl ⟨by omega, by omega⟩ ?_
  refine s_pi rfl (hk.at rfl rfl) rfl ?_
  refine s_retv rfl rfl ?_
  exact kk
theorem v_yearOf {lo : Int} (hk : Kn K) (hl : 0 ≤ lo ∧ lo < 60) (hh : 0 ≤ D 91 lo ∧ D 91 lo < 240000) (kk : P (D 91 lo / 24 / 365) (K, D, z)) : VM G l d iX0_yearOf [rf 89, (0, lo)] (K, D, z) P := by
  refine VM_go (tg2 rfl) (Nat.le_of_ble_eq_true rfl) ?_
  have e1 : (D 91 lo).tdiv 24 = D 91 lo / 24 := Int.tdiv_eq_ediv_of_nonneg hh.1
  have e2 : (D 91 lo / 24).tdiv 365 = D 91 lo / 24 / 365 := Int.tdiv_eq_ediv_of_nonneg (by omega)
  refine s_al0 rfl ?_
  refine s_gf rfl (hk.at rfl rfl) rfl rfl ?_
  refine s_il1 rfl ?_
  refine s_iald rfl (hk.at rfl rfl) (by omega) ?_
  refine s_ic rfl ?_
  refine s_idiv rfl (by decide) (by rw [e1]; exact ⟨by omega, by omega⟩) ?_
  rw [e1]
  refine s_ic rfl ?_
  refine s_idiv rfl (by decide) (by rw [e2]; exact ⟨by omega, by omega⟩) ?_
  rw [e2]
  refine s_reti rfl rfl ?_
  exact kk
end
