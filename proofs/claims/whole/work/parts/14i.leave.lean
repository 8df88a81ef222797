/-! ===== leave, word ===== -/
section
variable {G : aCX} {l : Launch} {d : Nat} {K : Nat → aKd} {D : Nat → Int → Int} {z : Nat × Nat} {P : Int → aSt → Prop}
theorem v_leave {s y : Int} (hk : Kn K) (k1 : 0 ≤ s ∧ s ≤ 5 → P 1 (K, aUp (aUp (aUp (aUp (aUp D 1 9 (if y = 0 then bAnd (D 1 9) (bXor (bShl 1 s) (-1)) else bOr (D 1 9) (bShl 1 s))) 1 10 0) 1 11 0) 116 1 0) 116 2 0, z)) (k0 : ¬ (0 ≤ s ∧ s ≤ 5) → P 0 (K, D, z)) : VM G l (d + 1) iX11_leave [rf 1, (0, s), (0, y)] (K, D, z) P := by
  have fin : 0 ≤ s ∧ s ≤ 5 → ∀ w, w = (if y = 0 then bAnd (D 1 9) (bXor (bShl 1 s) (-1)) else bOr (D 1 9) (bShl 1 s)) → V G l (d + 1) iX11_leave 36 [rf 1, (0, s), (0, y), (0, bShl 1 s)] [(0, w), rf 1] (K, D, z) P := by
    intro hq w hw
    subst hw
    refine s_pi rfl (hk.at rfl rfl) rfl ?_
    refine s_al0 rfl ?_
    refine s_callO rfl rfl (Or.inl rfl) rfl rfl (hk.at rfl rfl) (v_forgetAnswers hk ?_)
    show V G l (d + 1) iX11_leave 43 [rf 1, (0, s), (0, y), (0, bShl 1 s)] [] (K, _, z) P
    refine s_ic rfl ?_
    refine s_retz rfl rfl (Or.inr rfl) ?_
    exact k1 hq
  refine VM_go (tg2 rfl) (Nat.le_of_ble_eq_true rfl) ?_
  refine s_il1 rfl ?_
  refine s_ic rfl ?_
  refine s_callS rfl rfl rfl rfl (v_isWithin ?_)
  show V G l (d + 1) iX11_leave 5 [rf 1, (0, s), (0, y), (9, 0)] [(0, if 0 ≤ s ∧ s ≤ 5 then 1 else 0)] (K, D, z) P
  generalize hc : (if 0 ≤ s ∧ s ≤ 5 then (1 : Int) else 0) = c
  refine s_zne rfl ?_ ?_
  · intro h5
    have hq : 0 ≤ s ∧ s ≤ 5 := Decidable.byContradiction fun x => by rw [if_neg x] at hc; omega
    refine s_ic rfl ?_
    refine s_il1 rfl ?_
    refine s_ishl rfl ?_
    refine s_is3 rfl rfl ?_
    refine s_al0 rfl ?_
    refine s_il2 rfl ?_
    refine s_zeq rfl ?_ ?_
    · intro h16
      refine s_al0 rfl ?_
      refine s_gi rfl (hk.at rfl rfl) rfl ?_
      refine s_il3 rfl ?_
      refine s_ic rfl ?_
      refine s_ixor rfl ?_
      refine s_iand rfl ?_
      exact fin hq _ (by first | rw [if_pos h16] | rw [if_neg h16])
    · intro h16
      refine s_al0 rfl ?_
      refine s_gi rfl (hk.at rfl rfl) rfl ?_
      refine s_il3 rfl ?_
      refine s_ior rfl ?_
      refine s_go rfl ?_
      exact fin hq _ (by first | rw [if_pos h16] | rw [if_neg h16])
  · intro h5
    have hq : ¬ (0 ≤ s ∧ s ≤ 5) := fun x => by rw [if_pos x] at hc; omega
    refine s_ic rfl ?_
    refine s_retz rfl rfl (Or.inl rfl) ?_
    exact k0 hq
theorem u_leave {s y : Int} (hk : Kn K) (hy : y = 0 ∨ y = 1) (k1 : 0 ≤ s ∧ s ≤ 5 → P 1 (K, aUp (aUp D 210 0 0) 244 s y, z)) (k0 : ¬ (0 ≤ s ∧ s ≤ 5) → P 0 (K, aUp D 210 0 0, z)) : VM G l (d + 1) iX12_leave [rf 210, (0, s), (0, y)] (K, D, z) P := by
  refine VM_go (tg2 rfl) (Nat.le_of_ble_eq_true rfl) ?_
  refine s_al0 rfl ?_
  refine s_ic rfl ?_
  refine s_pi rfl (hk.at rfl rfl) rfl ?_
  refine s_il1 rfl ?_
  refine s_ic rfl ?_
  refine s_ic rfl ?_
  refine s_callS rfl rfl rfl rfl (u_within ?_)
  show V G l (d + 1) iX12_leave 11 [rf 210, (0, s), (0, y)] [(0, if 0 ≤ s ∧ s ≤ 5 then 1 else 0)] (K, aUp D 210 0 0, z) P
  generalize hc : (if 0 ≤ s ∧ s ≤ 5 then (1 : Int) else 0) = c
  refine s_zne rfl ?_ ?_
  · intro h11
    have hq : 0 ≤ s ∧ s ≤ 5 := Decidable.byContradiction fun x => by rw [if_neg x] at hc; omega
    refine s_al0 rfl ?_
    refine s_gf rfl (hk.at rfl rfl) rfl rfl ?_
    refine s_il1 rfl ?_
    refine s_il2 rfl ?_
    refine s_bast rfl (hk.at rfl rfl) (by omega) hy ?_
    refine s_ic rfl ?_
    refine s_retz rfl rfl (Or.inr rfl) ?_
    exact k1 hq
  · intro h11
    have hq : ¬ (0 ≤ s ∧ s ≤ 5) := fun x => by rw [if_pos x] at hc; omega
    refine s_ic rfl ?_
    refine s_retz rfl rfl (Or.inl rfl) ?_
    exact k0 hq
theorem u_tells {q am : Int} (hk : Kn K) (hw : 0 ≤ D 210 45 ∧ D 210 45 < 300) (kk : P 0 (K, aUp (aUp (aUp (aUp D 245 (D 210 45) q) 246 (D 210 45) (D 210 35)) 247 (D 210 45) am) 210 45 (D 210 45 + 1), z)) : VM G l d iX12_tells [rf 210, (0, q), (0, am)] (K, D, z) P := by
  refine VM_go (tg2 rfl) (Nat.le_of_ble_eq_true rfl) ?_
  refine s_al0 rfl ?_
  refine s_gf rfl (hk.at rfl rfl) rfl rfl ?_
  try simp only [aUp_app, Nat.reduceEqDiff, Int.reduceEq, eq_self, true_and, false_and, and_false, and_true, if_true, if_false, ↓reduceIte]
  refine s_al0 rfl ?_
  refine s_gi rfl (hk.at rfl rfl) rfl ?_
  try simp only [aUp_app, Nat.reduceEqDiff, Int.reduceEq, eq_self, true_and, false_and, and_false, and_true, if_true, if_false, ↓reduceIte]
  refine s_il1 rfl ?_
  refine s_iast rfl (hk.at rfl rfl) (by omega) ?_
  refine s_al0 rfl ?_
  refine s_gf rfl (hk.at rfl rfl) rfl rfl ?_
  try simp only [aUp_app, Nat.reduceEqDiff, Int.reduceEq, eq_self, true_and, false_and, and_false, and_true, if_true, if_false, ↓reduceIte]
  refine s_al0 rfl ?_
  refine s_gi rfl (hk.at rfl rfl) rfl ?_
  try simp only [aUp_app, Nat.reduceEqDiff, Int.reduceEq, eq_self, true_and, false_and, and_false, and_true, if_true, if_false, ↓reduceIte]
  refine s_al0 rfl ?_
  refine s_gi rfl (hk.at rfl rfl) rfl ?_
  try simp only [aUp_app, Nat.reduceEqDiff, Int.reduceEq, eq_self, true_and, false_and, and_false, and_true, if_true, if_false, ↓reduceIte]
  refine s_iast rfl (hk.at rfl rfl) (by omega) ?_
  refine s_al0 rfl ?_
  refine s_gf rfl (hk.at rfl rfl) rfl rfl ?_
  try simp only [aUp_app, Nat.reduceEqDiff, Int.reduceEq, eq_self, true_and, false_and, and_false, and_true, if_true, if_false, ↓reduceIte]
  refine s_al0 rfl ?_
  refine s_gi rfl (hk.at rfl rfl) rfl ?_
  try simp only [aUp_app, Nat.reduceEqDiff, Int.reduceEq, eq_self, true_and, false_and, and_false, and_true, if_true, if_false, ↓reduceIte]
  refine s_il2 rfl ?_
  refine s_iast rfl (hk.at rfl rfl) (by omega) ?_
  refine s_al0 rfl ?_
  refine s_dup rfl (by decide) ?_
  refine s_gi rfl (hk.at rfl rfl) rfl ?_
  try simp only [aUp_app, Nat.reduceEqDiff, Int.reduceEq, eq_self, true_and, false_and, and_false, and_true, if_true, if_false, ↓reduceIte]
  refine s_ic rfl ?_
  refine s_iadd rfl ⟨by omega, by omega⟩ ?_
  refine s_pi rfl (hk.at rfl rfl) rfl ?_
  refine s_retv rfl rfl ?_
  exact kk
end
