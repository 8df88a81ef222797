/-! ===== owed, bears, left: the reference ===== -/
section
variable {G : aCX} {l : Launch} {d : Nat} {K : Nat → aKd} {D : Nat → Int → Int} {z : Nat × Nat} {P : Int → aSt → Prop}
theorem u_owed {T nt : Nat} {wo : Int → Int} {cn : Nat → Nat} {cc : Nat → Nat → Int × Int} {a b : Int} {D0 : Nat → Int → Int} (hk : Kn K) (hD : D0 = aUp D 210 0 0) (hh : D 210 10 = 0 ∨ D 210 10 = 1) (hnh : D 216 (D 210 10) = D T 0) (n12 : D T 0 ≤ 12) (hC : CW T nt wo cn cc D0) (hP : Cp T nt wo cn cc D0) (hst : StR D0 wo T (vwC D0) 63 (stC D0)) (k1 : (0 ≤ a ∧ a < D T 0) ∧ (0 ≤ b ∧ b < D T 0) ∧ a ≠ b → ∀ D', MsX D0 wo T nt cn cc (-1) (stC D0) D' → P (owX D0 wo T nt cn cc (vwC D0) (stC D0) (-1) a b) (K, D', z)) (k0 : ¬ ((0 ≤ a ∧ a < D T 0) ∧ (0 ≤ b ∧ b < D T 0) ∧ a ≠ b) → P 0 (K, aUp D 210 0 1, z)) : VM G l (d + 5) iX12_owed [rf 210, (0, a), (0, b)] (K, D, z) P := by
  have bad : ¬ ((0 ≤ a ∧ a < D T 0) ∧ (0 ≤ b ∧ b < D T 0) ∧ a ≠ b) → V G l (d + 5) iX12_owed 26 [rf 210, (0, a), (0, b)] [rf 210] (K, D, z) P := by
    intro hb
    refine s_ic rfl ?_
    refine s_pi rfl (hk.at rfl rfl) rfl ?_
    refine s_al0 rfl ?_
    refine s_gi rfl (hk.at rfl rfl) rfl ?_
    rw [aUp_at]
    refine s_zle rfl ?_ ?_
    · intro h34
      exact absurd h34 (by decide)
    · intro h34
      refine s_ic rfl ?_
      refine s_reti rfl rfl ?_
      exact k0 hb
  refine VM_go (tg2 rfl) (Nat.le_of_ble_eq_true rfl) ?_
  refine s_al0 rfl ?_
  refine s_al0 rfl ?_
  refine s_il1 rfl ?_
  refine s_callO rfl rfl (Or.inl rfl) rfl rfl (hk.at rfl rfl) (u_isHouse hk (by omega) ?_)
  rw [hnh]
  show V G l (d + 5) iX12_owed 6 [rf 210, (0, a), (0, b)] ((0, if 0 ≤ a ∧ a < D T 0 then 1 else 0) :: [rf 210]) (K, D, z) P
  generalize h1 : (if 0 ≤ a ∧ a < D T 0 then (1 : Int) else 0) = c_h1
  refine s_zeq rfl ?_ ?_
  · intro h6
    have h1n : ¬ (0 ≤ a ∧ a < D T 0) := fun x => by rw [if_pos x] at h1; omega
    exact bad (fun q => h1n q.1)
  · intro h6
    have h1y : 0 ≤ a ∧ a < D T 0 := Decidable.byContradiction fun x => by rw [if_neg x] at h1; omega
    refine s_al0 rfl ?_
    refine s_il2 rfl ?_
    refine s_callO rfl rfl (Or.inl rfl) rfl rfl (hk.at rfl rfl) (u_isHouse hk (by omega) ?_)
    rw [hnh]
    show V G l (d + 5) iX12_owed 14 [rf 210, (0, a), (0, b)] ((0, if 0 ≤ b ∧ b < D T 0 then 1 else 0) :: [rf 210]) (K, D, z) P
    generalize h2 : (if 0 ≤ b ∧ b < D T 0 then (1 : Int) else 0) = c_h2
    refine s_zeq rfl ?_ ?_
    · intro h14
      have h2n : ¬ (0 ≤ b ∧ b < D T 0) := fun x => by rw [if_pos x] at h2; omega
      exact bad (fun q => h2n q.2.1)
    · intro h14
      have h2y : 0 ≤ b ∧ b < D T 0 := Decidable.byContradiction fun x => by rw [if_neg x] at h2; omega
      refine s_il1 rfl ?_
      refine s_il2 rfl ?_
      refine s_ceq rfl ?_ ?_
      · intro h19
        exact bad (fun q => q.2.2 h19)
      · intro h19
        refine s_ic rfl ?_
        refine s_go rfl ?_
        refine s_pi rfl (hk.at rfl rfl) rfl ?_
        rw [← hD]
        refine s_al0 rfl ?_
        refine s_gi rfl (hk.at rfl rfl) rfl ?_
        rw [show D0 210 0 = 0 by rw [hD]; exact aUp_at]
        refine s_zle rfl ?_ ?_
        · intro h34
          refine s_al0 rfl ?_
          refine s_callO rfl rfl (Or.inl rfl) rfl rfl (hk.at rfl rfl) (u_settlesAll hk hC hP hst (fun D' hX => ?_))
          have ow := hX.2.2.2.2.2.2.2.2 a b (by omega) (by omega) (by omega) (by omega)
          have oi := owX_in (a := a) (b := b) (v := vwC D0) (stm := stC D0) (ms := -1) hC (by omega)
          show V G l (d + 5) iX12_owed 43 [rf 210, (0, a), (0, b)] [] (K, D', z) P
          refine s_al0 rfl ?_
          refine s_gf rfl (hk.at rfl rfl) rfl rfl ?_
          refine s_ic rfl ?_
          refine s_il1 rfl ?_
          refine s_imul rfl ⟨by omega, by omega⟩ ?_
          refine s_il2 rfl ?_
          refine s_iadd rfl ⟨by omega, by omega⟩ ?_
          refine s_lald rfl (hk.at rfl rfl) (by omega) ?_
          rw [ow]
          refine s_l2i rfl ⟨by omega, by omega⟩ ?_
          refine s_reti rfl rfl ?_
          exact k1 ⟨h1y, h2y, h19⟩ D' hX
        · intro h34
          exact absurd h34 (by decide)
theorem u_bears {T nt : Nat} {wo : Int → Int} {cn : Nat → Nat} {cc : Nat → Nat → Int × Int} {a : Int} {D0 : Nat → Int → Int} (hk : Kn K) (hD : D0 = aUp D 210 0 0) (hh : D 210 10 = 0 ∨ D 210 10 = 1) (hnh : D 216 (D 210 10) = D T 0) (n12 : D T 0 ≤ 12) (hC : CW T nt wo cn cc D0) (hP : Cp T nt wo cn cc D0) (hst : StR D0 wo T (vwC D0) 63 (stC D0)) (k1 : 0 ≤ a ∧ a < D T 0 → ∀ D', MsX D0 wo T nt cn cc (-1) (stC D0) D' → P (buX D0 wo T nt cn cc (vwC D0) (stC D0) (-1) a) (K, D', z)) (k0 : ¬ (0 ≤ a ∧ a < D T 0) → P 0 (K, aUp D 210 0 1, z)) : VM G l (d + 5) iX12_bears [rf 210, (0, a)] (K, D, z) P := by
  have bad : ¬ (0 ≤ a ∧ a < D T 0) → V G l (d + 5) iX12_bears 13 [rf 210, (0, a)] [rf 210] (K, D, z) P := by
    intro hb
    refine s_ic rfl ?_
    refine s_pi rfl (hk.at rfl rfl) rfl ?_
    refine s_al0 rfl ?_
    refine s_gi rfl (hk.at rfl rfl) rfl ?_
    rw [aUp_at]
    refine s_zle rfl ?_ ?_
    · intro h21
      exact absurd h21 (by decide)
    · intro h21
      refine s_ic rfl ?_
      refine s_reti rfl rfl ?_
      exact k0 hb
  refine VM_go (tg2 rfl) (Nat.le_of_ble_eq_true rfl) ?_
  refine s_al0 rfl ?_
  refine s_al0 rfl ?_
  refine s_il1 rfl ?_
  refine s_callO rfl rfl (Or.inl rfl) rfl rfl (hk.at rfl rfl) (u_isHouse hk (by omega) ?_)
  rw [hnh]
  show V G l (d + 5) iX12_bears 6 [rf 210, (0, a)] ((0, if 0 ≤ a ∧ a < D T 0 then 1 else 0) :: [rf 210]) (K, D, z) P
  generalize h1 : (if 0 ≤ a ∧ a < D T 0 then (1 : Int) else 0) = c_h1
  refine s_zeq rfl ?_ ?_
  · intro h6
    have h1n : ¬ (0 ≤ a ∧ a < D T 0) := fun x => by rw [if_pos x] at h1; omega
    exact bad h1n
  · intro h6
    have h1y : 0 ≤ a ∧ a < D T 0 := Decidable.byContradiction fun x => by rw [if_neg x] at h1; omega
    refine s_ic rfl ?_
    refine s_go rfl ?_
    refine s_pi rfl (hk.at rfl rfl) rfl ?_
    rw [← hD]
    refine s_al0 rfl ?_
    refine s_gi rfl (hk.at rfl rfl) rfl ?_
    rw [show D0 210 0 = 0 by rw [hD]; exact aUp_at]
    refine s_zle rfl ?_ ?_
    · intro h21
      refine s_al0 rfl ?_
      refine s_callO rfl rfl (Or.inl rfl) rfl rfl (hk.at rfl rfl) (u_settlesAll hk hC hP hst (fun D' hX => ?_))
      have oi := buX_in (a := a) (v := vwC D0) (stm := stC D0) (ms := -1) hC (by omega)
      show V G l (d + 5) iX12_bears 30 [rf 210, (0, a)] [] (K, D', z) P
      refine s_al0 rfl ?_
      refine s_il1 rfl ?_
      refine s_callO rfl rfl (Or.inl rfl) rfl rfl (hk.at rfl rfl) (u_bur hk hC hX (by omega) ?_)
      show V G l (d + 5) iX12_bears 35 [rf 210, (0, a)] [(1, buX D0 wo T nt cn cc (vwC D0) (stC D0) (-1) a)] (K, D', z) P
      refine s_l2i rfl ⟨by omega, by omega⟩ ?_
      refine s_reti rfl rfl ?_
      exact k1 h1y D' hX
    · intro h21
      exact absurd h21 (by decide)
end
