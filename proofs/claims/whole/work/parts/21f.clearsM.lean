/-! ===== clears: the reference ===== -/
section
variable {G : aCX} {l : Launch} {d : Nat} {K : Nat → aKd} {D : Nat → Int → Int} {z : Nat × Nat} {P : Int → aSt → Prop}
theorem u_clears {T nt : Nat} {wo : Int → Int} {cn : Nat → Nat} {cc : Nat → Nat → Int × Int} {h what : Int} {D0 : Nat → Int → Int} (hk : Kn K) (hD : D0 = aUp D 210 0 0) (hh : D 210 10 = 0 ∨ D 210 10 = 1) (hnh : D 216 (D 210 10) = D T 0) (n12 : D T 0 ≤ 12) (hC : CW T nt wo cn cc D0) (hP : Cp T nt wo cn cc D0) (hst : StR D0 wo T (vwC D0) 63 (stC D0)) (hpu : ∀ a : Nat, a < 12 → 0 ≤ D0 272 a ∧ D0 272 a ≤ 99999999) (k1 : (0 ≤ h ∧ h < D T 0) ∧ (0 ≤ what ∧ what ≤ 4) → ∀ D', CaD D0 wo T nt cn cc (stC D0) D' → P (if what = 0 then alX D0 wo T nt cn cc (stC D0) h else if what = 1 then wr ((clM D0 wo T nt cn cc (stC D0)).2 h) else if what = 2 then wr (gtP 12 (ntX D0 wo T nt cn cc (stC D0)) (alX D0 wo T nt cn cc (stC D0)) (clM D0 wo T nt cn cc (stC D0)).2 h) else if what = 3 then (if faX D0 wo T nt cn cc (stC D0) h = true then 1 else 0) else ((clM D0 wo T nt cn cc (stC D0)).1 : Nat)) (K, D', z)) (k0 : ¬ ((0 ≤ h ∧ h < D T 0) ∧ (0 ≤ what ∧ what ≤ 4)) → P 0 (K, aUp D 210 0 1, z)) : VM G l (d + 6) iX12_clears [rf 210, (0, h), (0, what)] (K, D, z) P := by
  have bad : ¬ ((0 ≤ h ∧ h < D T 0) ∧ (0 ≤ what ∧ what ≤ 4)) → V G l (d + 6) iX12_clears 22 [rf 210, (0, h), (0, what)] [rf 210] (K, D, z) P := by
    intro hb
    refine s_ic rfl ?_
    refine s_pi rfl (hk.at rfl rfl) rfl ?_
    refine s_al0 rfl ?_
    refine s_gi rfl (hk.at rfl rfl) rfl ?_
    rw [aUp_at]
    refine s_zle rfl ?_ ?_
    · intro h30
      exact absurd h30 (by decide)
    · intro h30
      refine s_ic rfl ?_
      refine s_reti rfl rfl ?_
      exact k0 hb
  refine VM_go (tg2 rfl) (Nat.le_of_ble_eq_true rfl) ?_
  refine s_al0 rfl ?_
  refine s_al0 rfl ?_
  refine s_il1 rfl ?_
  refine s_callO rfl rfl (Or.inl rfl) rfl rfl (hk.at rfl rfl) (u_isHouse hk (by omega) ?_)
  rw [hnh]
  show V G l (d + 6) iX12_clears 6 [rf 210, (0, h), (0, what)] [(0, if 0 ≤ h ∧ h < D T 0 then 1 else 0), rf 210] (K, D, z) P
  generalize h1 : (if 0 ≤ h ∧ h < D T 0 then (1 : Int) else 0) = c_h1
  refine s_zeq rfl ?_ ?_
  · intro h6
    have h1n : ¬ (0 ≤ h ∧ h < D T 0) := fun x => by rw [if_pos x] at h1; omega
    exact bad (fun q => h1n q.1)
  · intro h6
    have h1y : 0 ≤ h ∧ h < D T 0 := Decidable.byContradiction fun x => by rw [if_neg x] at h1; omega
    refine s_il2 rfl ?_
    refine s_ic rfl ?_
    refine s_ic rfl ?_
    refine s_callS rfl rfl rfl rfl (u_within ?_)
    show V G l (d + 6) iX12_clears 15 [rf 210, (0, h), (0, what)] ((0, if 0 ≤ what ∧ what ≤ 4 then 1 else 0) :: [rf 210]) (K, D, z) P
    generalize h2 : (if 0 ≤ what ∧ what ≤ 4 then (1 : Int) else 0) = c_h2
    refine s_zeq rfl ?_ ?_
    · intro h15
      have h2n : ¬ (0 ≤ what ∧ what ≤ 4) := fun x => by rw [if_pos x] at h2; omega
      exact bad (fun q => h2n q.2)
    · intro h15
      have h2y : 0 ≤ what ∧ what ≤ 4 := Decidable.byContradiction fun x => by rw [if_neg x] at h2; omega
      refine s_ic rfl ?_
      refine s_go rfl ?_
      refine s_pi rfl (hk.at rfl rfl) rfl ?_
      rw [← hD]
      refine s_al0 rfl ?_
      refine s_gi rfl (hk.at rfl rfl) rfl ?_
      rw [show D0 210 0 = 0 by rw [hD]; exact aUp_at]
      refine s_zle rfl ?_ ?_
      · intro h30
        refine s_al0 rfl ?_
        refine s_callO rfl rfl (Or.inl rfl) rfl rfl (hk.at rfl rfl) (u_clearsAll hk hC hP hst hpu (fun D' hX => ?_))
        have hr := hX.2.2.2.2 h.toNat (by omega)
        rw [show ((h.toNat : Nat) : Int) = h by omega] at hr
        have ai := alX_in (stm := stC D0) hC (a := h) (by omega)
        show V G l (d + 6) iX12_clears 39 [rf 210, (0, h), (0, what)] [] (K, D', z) P
        refine s_il2 rfl ?_
        refine s_sw rfl ?_
        refine And.intro (fun h40 => ?_) (fun h40n0 => ?_)
        · skip
          refine s_al0 rfl ?_
          refine s_gf rfl (hk.at rfl rfl) rfl rfl ?_
          refine s_il1 rfl ?_
          refine s_lald rfl (hk.at rfl rfl) (by omega) ?_
          rw [hr.1]
          refine s_l2i rfl ⟨by omega, by omega⟩ ?_
          refine s_reti rfl rfl ?_
          have k1 := k1 ⟨h1y, h2y⟩ D' hX
          rw [if_pos h40] at k1
          exact k1
        refine And.intro (fun h40 => ?_) (fun h40n1 => ?_)
        · skip
          refine s_al0 rfl ?_
          refine s_gf rfl (hk.at rfl rfl) rfl rfl ?_
          refine s_il1 rfl ?_
          refine s_lald rfl (hk.at rfl rfl) (by omega) ?_
          rw [hr.2.1]
          refine s_l2iW rfl ?_
          refine s_reti rfl rfl ?_
          have k1 := k1 ⟨h1y, h2y⟩ D' hX
          rw [if_neg (by omega), if_pos h40] at k1
          exact k1
        refine And.intro (fun h40 => ?_) (fun h40n2 => ?_)
        · skip
          refine s_al0 rfl ?_
          refine s_gf rfl (hk.at rfl rfl) rfl rfl ?_
          refine s_il1 rfl ?_
          refine s_lald rfl (hk.at rfl rfl) (by omega) ?_
          rw [hr.2.2]
          refine s_l2iW rfl ?_
          refine s_reti rfl rfl ?_
          have k1 := k1 ⟨h1y, h2y⟩ D' hX
          rw [if_neg (by omega), if_neg (by omega), if_pos h40] at k1
          exact k1
        refine And.intro (fun h40 => ?_) (fun h40n3 => ?_)
        · skip
          refine s_al0 rfl ?_
          refine s_il1 rfl ?_
          refine s_callO rfl rfl (Or.inl rfl) rfl rfl (hk.at rfl rfl) (u_hasFailed hk hC hpu hX (by omega) ?_)
          have k1 := k1 ⟨h1y, h2y⟩ D' hX
          rw [if_neg (by omega), if_neg (by omega), if_neg (by omega), if_pos h40] at k1
          generalize faX D0 wo T nt cn cc (stC D0) h = bb at k1 ⊢
          show V G l (d + 6) iX12_clears 101 [rf 210, (0, h), (0, what)] [(0, if bb = true then 1 else 0)] (K, D', z) P
          refine s_zeq rfl ?_ ?_
          · intro h101
            refine s_ic rfl ?_
            refine s_reti rfl rfl ?_
            cases bb
            · first | exact k1 | exact absurd rfl h101
            · first | exact k1 | exact absurd h101 (by decide)
          · intro h101
            refine s_ic rfl ?_
            refine s_go rfl ?_
            refine s_reti rfl rfl ?_
            cases bb
            · first | exact k1 | exact absurd rfl h101
            · first | exact k1 | exact absurd h101 (by decide)
        refine s_al0 rfl ?_
        refine s_gi rfl (hk.at rfl rfl) rfl ?_
        rw [hX.2.2.1]
        refine s_reti rfl rfl ?_
        have k1 := k1 ⟨h1y, h2y⟩ D' hX
        rw [if_neg (by omega), if_neg (by omega), if_neg (by omega), if_neg (by omega)] at k1
        exact k1
      · intro h30
        exact absurd h30 (by decide)
end
