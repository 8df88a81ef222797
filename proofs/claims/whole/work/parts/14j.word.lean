/-! ===== word ===== -/
section
variable {G : aCX} {l : Launch} {d : Nat} {K : Nat → aKd} {D : Nat → Int → Int} {z : Nat × Nat} {P : Int → aSt → Prop}
theorem v_word {q am : Int} (hk : Kn K) (hn : D 89 0 ≤ 60) (hw : 0 ≤ D 89 1 ∧ D 89 1 ≤ 300) (k1 : (0 ≤ q ∧ q < D 89 0) ∧ (0 ≤ am ∧ am ≤ 100000) ∧ D 89 1 < 300 → P 1 (K, aUp (aUp (aUp (aUp (aUp (aUp (aUp (aUp (aUp D 98 (D 89 1) (D 1 7)) 99 (D 89 1) am) 100 (D 89 1) (D 97 q)) 97 q (D 89 1)) 89 1 (D 89 1 + 1)) 1 10 0) 1 11 0) 116 1 0) 116 2 0, z)) (k0 : ¬ ((0 ≤ q ∧ q < D 89 0) ∧ (0 ≤ am ∧ am ≤ 100000) ∧ D 89 1 < 300) → P 0 (K, D, z)) : VM G l (d + 1) iX11_word [rf 1, (0, q), (0, am)] (K, D, z) P := by
  refine VM_go (tg2 rfl) (Nat.le_of_ble_eq_true rfl) ?_
  refine s_al0 rfl ?_
  refine s_il1 rfl ?_
  refine s_callO rfl rfl (Or.inl rfl) rfl rfl (hk.at rfl rfl) (v_isLoss hk ?_)
  show V G l (d + 1) iX11_word 5 [rf 1, (0, q), (0, am)] [(0, if 0 ≤ q ∧ q < D 89 0 then 1 else 0)] (K, D, z) P
  generalize hc : (if 0 ≤ q ∧ q < D 89 0 then (1 : Int) else 0) = c
  refine s_zeq rfl ?_ ?_
  · intro h5
    have hq : ¬ (0 ≤ q ∧ q < D 89 0) := fun x => by rw [if_pos x] at hc; omega
    refine s_ic rfl ?_
    refine s_retz rfl rfl (Or.inl rfl) ?_
    exact k0 (by omega)
  · intro h5
    have hq : 0 ≤ q ∧ q < D 89 0 := Decidable.byContradiction fun x => by rw [if_neg x] at hc; omega
    refine s_il2 rfl ?_
    refine s_ic rfl ?_
    refine s_callS rfl rfl rfl rfl (v_isWithin ?_)
    show V G l (d + 1) iX11_word 14 [rf 1, (0, q), (0, am)] [(0, if 0 ≤ am ∧ am ≤ 100000 then 1 else 0)] (K, D, z) P
    generalize hc2 : (if 0 ≤ am ∧ am ≤ 100000 then (1 : Int) else 0) = c2
    refine s_zeq rfl ?_ ?_
    · intro h14
      have hq2 : ¬ (0 ≤ am ∧ am ≤ 100000) := fun x => by rw [if_pos x] at hc2; omega
      refine s_ic rfl ?_
      refine s_retz rfl rfl (Or.inl rfl) ?_
      exact k0 (by omega)
    · intro h14
      have hq2 : 0 ≤ am ∧ am ≤ 100000 := Decidable.byContradiction fun x => by rw [if_neg x] at hc2; omega
      refine s_al0 rfl ?_
      refine s_gf rfl (hk.at rfl rfl) rfl rfl ?_
      refine s_gi rfl (hk.at rfl rfl) rfl ?_
      refine s_ic rfl ?_
      refine s_clt rfl ?_ ?_
      · intro h27
        refine s_al0 rfl ?_
        refine s_gf rfl (hk.at rfl rfl) rfl rfl ?_
        refine s_il1 rfl ?_
        refine s_al0 rfl ?_
        refine s_gi rfl (hk.at rfl rfl) rfl ?_
        refine s_il2 rfl ?_
        refine s_callO rfl rfl (Or.inl rfl) rfl rfl (hk.at rfl rfl) (v_addWord hk (by omega) (by omega) ?_)
        show V G l (d + 1) iX11_word 45 [rf 1, (0, q), (0, am)] [] (K, _, z) P
        refine s_al0 rfl ?_
        refine s_callO rfl rfl (Or.inl rfl) rfl rfl (hk.at rfl rfl) (v_forgetAnswers hk ?_)
        show V G l (d + 1) iX11_word 49 [rf 1, (0, q), (0, am)] [] (K, _, z) P
        refine s_ic rfl ?_
        refine s_retz rfl rfl (Or.inr rfl) ?_
        exact k1 ⟨hq, hq2, by omega⟩
      · intro h27
        refine s_ic rfl ?_
        refine s_retz rfl rfl (Or.inl rfl) ?_
        exact k0 (by omega)
theorem u_word {q am : Int} (hk : Kn K) (hw : 0 ≤ D 210 45 ∧ D 210 45 ≤ 300) (k1 : (0 ≤ q ∧ q < D 210 37) ∧ (0 ≤ am ∧ am ≤ 100000) ∧ D 210 45 < 300 → P 1 (K, aUp (aUp (aUp (aUp (aUp D 210 0 0) 245 (D 210 45) q) 246 (D 210 45) (D 210 35)) 247 (D 210 45) am) 210 45 (D 210 45 + 1), z)) (k0 : ¬ ((0 ≤ q ∧ q < D 210 37) ∧ (0 ≤ am ∧ am ≤ 100000) ∧ D 210 45 < 300) → P 0 (K, aUp D 210 0 0, z)) : VM G l (d + 1) iX12_word [rf 210, (0, q), (0, am)] (K, D, z) P := by
  have e37 : aUp D 210 0 0 210 37 = D 210 37 := aUp_ne (by decide)
  have e45 : aUp D 210 0 0 210 45 = D 210 45 := aUp_ne (by decide)
  have e35 : aUp D 210 0 0 210 35 = D 210 35 := aUp_ne (by decide)
  refine VM_go (tg2 rfl) (Nat.le_of_ble_eq_true rfl) ?_
  refine s_al0 rfl ?_
  refine s_ic rfl ?_
  refine s_pi rfl (hk.at rfl rfl) rfl ?_
  refine s_al0 rfl ?_
  refine s_il1 rfl ?_
  refine s_callO rfl rfl (Or.inl rfl) rfl rfl (hk.at rfl rfl) (u_isLoss hk ?_)
  rw [e37]
  show V G l (d + 1) iX12_word 10 [rf 210, (0, q), (0, am)] [(0, if 0 ≤ q ∧ q < D 210 37 then 1 else 0)] (K, aUp D 210 0 0, z) P
  generalize hc : (if 0 ≤ q ∧ q < D 210 37 then (1 : Int) else 0) = c
  refine s_zeq rfl ?_ ?_
  · intro h10
    have hq : ¬ (0 ≤ q ∧ q < D 210 37) := fun x => by rw [if_pos x] at hc; omega
    refine s_ic rfl ?_
    refine s_retz rfl rfl (Or.inl rfl) ?_
    exact k0 (by omega)
  · intro h10
    have hq : 0 ≤ q ∧ q < D 210 37 := Decidable.byContradiction fun x => by rw [if_neg x] at hc; omega
    refine s_il2 rfl ?_
    refine s_ic rfl ?_
    refine s_ic rfl ?_
    refine s_callS rfl rfl rfl rfl (u_within ?_)
    show V G l (d + 1) iX12_word 21 [rf 210, (0, q), (0, am)] [(0, if 0 ≤ am ∧ am ≤ 100000 then 1 else 0)] (K, aUp D 210 0 0, z) P
    generalize hc2 : (if 0 ≤ am ∧ am ≤ 100000 then (1 : Int) else 0) = c2
    refine s_zeq rfl ?_ ?_
    · intro h21
      have hq2 : ¬ (0 ≤ am ∧ am ≤ 100000) := fun x => by rw [if_pos x] at hc2; omega
      refine s_ic rfl ?_
      refine s_retz rfl rfl (Or.inl rfl) ?_
      exact k0 (by omega)
    · intro h21
      have hq2 : 0 ≤ am ∧ am ≤ 100000 := Decidable.byContradiction fun x => by rw [if_neg x] at hc2; omega
      refine s_al0 rfl ?_
      refine s_gi rfl (hk.at rfl rfl) rfl ?_
      rw [e45]
      refine s_ic rfl ?_
      refine s_cne rfl ?_ ?_
      · intro h31
        refine s_al0 rfl ?_
        refine s_il1 rfl ?_
        refine s_il2 rfl ?_
        refine s_callO rfl rfl (Or.inl rfl) rfl rfl (hk.at rfl rfl) (u_tells (D := aUp D 210 0 0) hk (by rw [e45]; omega) ?_)
        rw [e45, e35]
        show V G l (d + 1) iX12_word 42 [rf 210, (0, q), (0, am)] [] (K, _, z) P
        refine s_ic rfl ?_
        refine s_retz rfl rfl (Or.inr rfl) ?_
        exact k1 ⟨hq, hq2, by omega⟩
      · intro h31
        refine s_ic rfl ?_
        refine s_retz rfl rfl (Or.inl rfl) ?_
        exact k0 (by omega)
end
