/-! ===== look ===== -/
section
variable {G : aCX} {l : Launch} {d : Nat} {K : Nat → aKd} {D : Nat → Int → Int} {z : Nat × Nat} {P : Int → aSt → Prop}
theorem v_lookP {q what : Int} {wo : Int → Int} (hk : Kn K) (hc : ChR D wo) (hb : BkB D) (hq : 0 ≤ q ∧ q < D 89 0) (hw : 0 ≤ what ∧ what ≤ 6) (kk : P (if what = 0 then D 90 q else if what = 1 then D 91 q else if what = 2 then D 92 q else if what = 3 then D 93 q else if what = 4 then D 94 q else if what = 5 then amF wo (D 98) (D 99) q (vwC D) (D 89 1).toNat else D 95 q) (K, D, z)) : VM G l (d + 1) iX11_look [rf 1, (0, q), (0, what)] (K, D, z) P := by
  have n60 := hc.2.2.2.2.2
  have b95 := (hb.1 q hq.1 hq.2).2.2.2.2.2
  refine VM_go (tg2 rfl) (Nat.le_of_ble_eq_true rfl) ?_
  refine s_al0 rfl ?_
  refine s_il1 rfl ?_
  refine s_callO rfl rfl (Or.inl rfl) rfl rfl (hk.at rfl rfl) (v_isLoss hk ?_)
  show V G l (d + 1) iX11_look 5 [rf 1, (0, q), (0, what)] ((0, if 0 ≤ q ∧ q < D 89 0 then 1 else 0) :: []) (K, D, z) P
  generalize h1 : (if 0 ≤ q ∧ q < D 89 0 then (1 : Int) else 0) = c_h1
  refine s_zeq rfl ?_ ?_
  · intro h5
    exact absurd hq (fun x => by rw [if_pos x] at h1; omega)
  · intro h5
    refine s_il2 rfl ?_
    refine s_ic rfl ?_
    refine s_callS rfl rfl rfl rfl (v_isWithin ?_)
    show V G l (d + 1) iX11_look 14 [rf 1, (0, q), (0, what)] ((0, if 0 ≤ what ∧ what ≤ 6 then 1 else 0) :: []) (K, D, z) P
    generalize h2 : (if 0 ≤ what ∧ what ≤ 6 then (1 : Int) else 0) = c_h2
    refine s_zne rfl ?_ ?_
    · intro h14
      refine s_il2 rfl ?_
      refine s_sw rfl ?_
      refine And.intro (fun h29 => ?_) (fun h29n0 => ?_)
      · skip
        refine s_al0 rfl ?_
        refine s_gf rfl (hk.at rfl rfl) rfl rfl ?_
        refine s_gf rfl (hk.at rfl rfl) rfl rfl ?_
        refine s_il1 rfl ?_
        refine s_iald rfl (hk.at rfl rfl) (by omega) ?_
        refine s_reti rfl rfl ?_
        rw [if_pos h29] at kk; exact kk
      refine And.intro (fun h29 => ?_) (fun h29n1 => ?_)
      · skip
        refine s_al0 rfl ?_
        refine s_gf rfl (hk.at rfl rfl) rfl rfl ?_
        refine s_gf rfl (hk.at rfl rfl) rfl rfl ?_
        refine s_il1 rfl ?_
        refine s_iald rfl (hk.at rfl rfl) (by omega) ?_
        refine s_reti rfl rfl ?_
        rw [if_neg (by omega), if_pos h29] at kk; exact kk
      refine And.intro (fun h29 => ?_) (fun h29n2 => ?_)
      · skip
        refine s_al0 rfl ?_
        refine s_gf rfl (hk.at rfl rfl) rfl rfl ?_
        refine s_gf rfl (hk.at rfl rfl) rfl rfl ?_
        refine s_il1 rfl ?_
        refine s_iald rfl (hk.at rfl rfl) (by omega) ?_
        refine s_reti rfl rfl ?_
        rw [if_neg (by omega), if_neg (by omega), if_pos h29] at kk; exact kk
      refine And.intro (fun h29 => ?_) (fun h29n3 => ?_)
      · skip
        refine s_al0 rfl ?_
        refine s_gf rfl (hk.at rfl rfl) rfl rfl ?_
        refine s_gf rfl (hk.at rfl rfl) rfl rfl ?_
        refine s_il1 rfl ?_
        refine s_iald rfl (hk.at rfl rfl) (by omega) ?_
        refine s_reti rfl rfl ?_
        rw [if_neg (by omega), if_neg (by omega), if_neg (by omega), if_pos h29] at kk; exact kk
      refine And.intro (fun h29 => ?_) (fun h29n4 => ?_)
      · skip
        refine s_al0 rfl ?_
        refine s_gf rfl (hk.at rfl rfl) rfl rfl ?_
        refine s_gf rfl (hk.at rfl rfl) rfl rfl ?_
        refine s_il1 rfl ?_
        refine s_iald rfl (hk.at rfl rfl) (by omega) ?_
        refine s_reti rfl rfl ?_
        rw [if_neg (by omega), if_neg (by omega), if_neg (by omega), if_neg (by omega), if_pos h29] at kk; exact kk
      refine And.intro (fun h29 => ?_) (fun h29n5 => ?_)
      · skip
        refine s_al0 rfl ?_
        refine s_gf rfl (hk.at rfl rfl) rfl rfl ?_
        refine s_il1 rfl ?_
        refine s_al0 rfl ?_
        refine s_callO rfl rfl (Or.inl rfl) rfl rfl (hk.at rfl rfl) (v_viewDay hk ?_)
        show V G l (d + 1) iX11_look 127 [rf 1, (0, q), (0, what)] [(0, vwC D), (0, q), rf 89] (K, D, z) P
        refine s_callO rfl rfl (Or.inl rfl) rfl rfl (hk.at rfl rfl) (v_amountOn hk hc hq ?_)
        show V G l (d + 1) iX11_look 130 [rf 1, (0, q), (0, what)] [(0, _)] (K, D, z) P
        refine s_reti rfl rfl ?_
        rw [if_neg (by omega), if_neg (by omega), if_neg (by omega), if_neg (by omega), if_neg (by omega), if_pos h29] at kk; exact kk
      refine s_al0 rfl ?_
      refine s_gf rfl (hk.at rfl rfl) rfl rfl ?_
      refine s_gf rfl (hk.at rfl rfl) rfl rfl ?_
      refine s_il1 rfl ?_
      refine s_bald rfl (hk.at rfl rfl) (by omega) ?_
      refine s_zeq rfl ?_ ?_
      · intro h140
        refine s_ic rfl ?_
        refine s_reti rfl rfl ?_
        rw [if_neg (by omega), if_neg (by omega), if_neg (by omega), if_neg (by omega), if_neg (by omega), if_neg (by omega)] at kk
        first
        | (rw [h140] at kk; exact kk)
        | (have e1 : D 95 q = 1 := by omega
           rw [e1] at kk; exact kk)
      · intro h140
        refine s_ic rfl ?_
        refine s_go rfl ?_
        refine s_reti rfl rfl ?_
        rw [if_neg (by omega), if_neg (by omega), if_neg (by omega), if_neg (by omega), if_neg (by omega), if_neg (by omega)] at kk
        first
        | (rw [h140] at kk; exact kk)
        | (have e1 : D 95 q = 1 := by omega
           rw [e1] at kk; exact kk)
    · intro h14
      exact absurd hw (fun x => by rw [if_pos x] at h2; omega)
theorem u_look {q what : Int} (hk : Kn K) (hn : D 210 37 ≤ 60) (hw : 0 ≤ D 210 45 ∧ D 210 45 ≤ 300) (h43 : ∀ q : Int, 0 ≤ q → q < D 210 37 → D 243 q = 0 ∨ D 243 q = 1) (k1 : (0 ≤ q ∧ q < D 210 37) ∧ (0 ≤ what ∧ what ≤ 6) → P (if what = 0 then D 238 q else if what = 1 then D 239 q else if what = 2 then D 240 q else if what = 3 then D 241 q else if what = 4 then D 242 q else if what = 5 then amF (D 245) (D 246) (D 247) q (vwM D) (D 210 45).toNat else D 243 q) (K, aUp D 210 0 0, z)) (k0 : ¬ ((0 ≤ q ∧ q < D 210 37) ∧ (0 ≤ what ∧ what ≤ 6)) → P 0 (K, aUp D 210 0 1, z)) : VM G l (d + 1) iX12_look [rf 210, (0, q), (0, what)] (K, D, z) P := by
  have bad : ¬ ((0 ≤ q ∧ q < D 210 37) ∧ (0 ≤ what ∧ what ≤ 6)) → V G l (d + 1) iX12_look 23 [rf 210, (0, q), (0, what)] [rf 210] (K, D, z) P := by
    intro hb
    refine s_ic rfl ?_
    refine s_pi rfl (hk.at rfl rfl) rfl ?_
    refine s_al0 rfl ?_
    refine s_gi rfl (hk.at rfl rfl) rfl ?_
    rw [aUp_at]
    refine s_zle rfl ?_ ?_
    · intro h31
      exact absurd h31 (by decide)
    · intro h31
      refine s_ic rfl ?_
      refine s_reti rfl rfl ?_
      exact k0 hb
  refine VM_go (tg2 rfl) (Nat.le_of_ble_eq_true rfl) ?_
  refine s_al0 rfl ?_
  refine s_al0 rfl ?_
  refine s_il1 rfl ?_
  refine s_callO rfl rfl (Or.inl rfl) rfl rfl (hk.at rfl rfl) (u_isLoss hk ?_)
  show V G l (d + 1) iX12_look 6 [rf 210, (0, q), (0, what)] ((0, if 0 ≤ q ∧ q < D 210 37 then 1 else 0) :: [rf 210]) (K, D, z) P
  generalize h1 : (if 0 ≤ q ∧ q < D 210 37 then (1 : Int) else 0) = c_h1
  refine s_zeq rfl ?_ ?_
  · intro h6
    have h1n : ¬ (0 ≤ q ∧ q < D 210 37) := fun x => by rw [if_pos x] at h1; omega
    exact bad (fun q => h1n q.1)
  · intro h6
    have h1y : 0 ≤ q ∧ q < D 210 37 := Decidable.byContradiction fun x => by rw [if_neg x] at h1; omega
    refine s_il2 rfl ?_
    refine s_ic rfl ?_
    refine s_ic rfl ?_
    refine s_callS rfl rfl rfl rfl (u_within ?_)
    show V G l (d + 1) iX12_look 16 [rf 210, (0, q), (0, what)] ((0, if 0 ≤ what ∧ what ≤ 6 then 1 else 0) :: [rf 210]) (K, D, z) P
    generalize h2 : (if 0 ≤ what ∧ what ≤ 6 then (1 : Int) else 0) = c_h2
    refine s_zeq rfl ?_ ?_
    · intro h16
      have h2n : ¬ (0 ≤ what ∧ what ≤ 6) := fun x => by rw [if_pos x] at h2; omega
      exact bad (fun q => h2n q.2)
    · intro h16
      have h2y : 0 ≤ what ∧ what ≤ 6 := Decidable.byContradiction fun x => by rw [if_neg x] at h2; omega
      refine s_ic rfl ?_
      refine s_go rfl ?_
      refine s_pi rfl (hk.at rfl rfl) rfl ?_
      refine s_al0 rfl ?_
      refine s_gi rfl (hk.at rfl rfl) rfl ?_
      rw [aUp_at]
      refine s_zle rfl ?_ ?_
      · intro h31
        refine s_il2 rfl ?_
        refine s_sw rfl ?_
        refine And.intro (fun h37 => ?_) (fun h37n0 => ?_)
        · skip
          refine s_al0 rfl ?_
          refine s_gf rfl (hk.at rfl rfl) rfl rfl ?_
          refine s_il1 rfl ?_
          refine s_iald rfl (hk.at rfl rfl) (by omega) ?_
          refine s_reti rfl rfl ?_
          have k1 := k1 ⟨h1y, h2y⟩
          rw [if_pos h37] at k1
          rw [aUp_row (by decide)]; exact k1
        refine And.intro (fun h37 => ?_) (fun h37n1 => ?_)
        · skip
          refine s_al0 rfl ?_
          refine s_gf rfl (hk.at rfl rfl) rfl rfl ?_
          refine s_il1 rfl ?_
          refine s_iald rfl (hk.at rfl rfl) (by omega) ?_
          refine s_reti rfl rfl ?_
          have k1 := k1 ⟨h1y, h2y⟩
          rw [if_neg (by omega), if_pos h37] at k1
          rw [aUp_row (by decide)]; exact k1
        refine And.intro (fun h37 => ?_) (fun h37n2 => ?_)
        · skip
          refine s_al0 rfl ?_
          refine s_gf rfl (hk.at rfl rfl) rfl rfl ?_
          refine s_il1 rfl ?_
          refine s_iald rfl (hk.at rfl rfl) (by omega) ?_
          refine s_reti rfl rfl ?_
          have k1 := k1 ⟨h1y, h2y⟩
          rw [if_neg (by omega), if_neg (by omega), if_pos h37] at k1
          rw [aUp_row (by decide)]; exact k1
        refine And.intro (fun h37 => ?_) (fun h37n3 => ?_)
        · skip
          refine s_al0 rfl ?_
          refine s_gf rfl (hk.at rfl rfl) rfl rfl ?_
          refine s_il1 rfl ?_
          refine s_iald rfl (hk.at rfl rfl) (by omega) ?_
          refine s_reti rfl rfl ?_
          have k1 := k1 ⟨h1y, h2y⟩
          rw [if_neg (by omega), if_neg (by omega), if_neg (by omega), if_pos h37] at k1
          rw [aUp_row (by decide)]; exact k1
        refine And.intro (fun h37 => ?_) (fun h37n4 => ?_)
        · skip
          refine s_al0 rfl ?_
          refine s_gf rfl (hk.at rfl rfl) rfl rfl ?_
          refine s_il1 rfl ?_
          refine s_iald rfl (hk.at rfl rfl) (by omega) ?_
          refine s_reti rfl rfl ?_
          have k1 := k1 ⟨h1y, h2y⟩
          rw [if_neg (by omega), if_neg (by omega), if_neg (by omega), if_neg (by omega), if_pos h37] at k1
          rw [aUp_row (by decide)]; exact k1
        refine And.intro (fun h37 => ?_) (fun h37n5 => ?_)
        · skip
          refine s_al0 rfl ?_
          refine s_il1 rfl ?_
          refine s_al0 rfl ?_
          refine s_callO rfl rfl (Or.inl rfl) rfl rfl (hk.at rfl rfl) (u_viewDay hk ?_)
          rw [E0_vw]
          show V G l (d + 1) iX12_look 117 [rf 210, (0, q), (0, what)] [(0, vwM D), (0, q), rf 210] (K, aUp D 210 0 0, z) P
          refine s_callO rfl rfl (Or.inl rfl) rfl rfl (hk.at rfl rfl) (u_amountOn hk (by rw [aUp_ne (by decide)]; exact hw) ?_)
          rw [aUp_row (by decide), aUp_row (by decide), aUp_row (by decide), aUp_ne (by decide)]
          show V G l (d + 1) iX12_look 120 [rf 210, (0, q), (0, what)] [(0, _)] (K, aUp D 210 0 0, z) P
          refine s_reti rfl rfl ?_
          have k1 := k1 ⟨h1y, h2y⟩
          rw [if_neg (by omega), if_neg (by omega), if_neg (by omega), if_neg (by omega), if_neg (by omega), if_pos h37] at k1
          exact k1
        refine s_al0 rfl ?_
        refine s_gf rfl (hk.at rfl rfl) rfl rfl ?_
        refine s_il1 rfl ?_
        refine s_bald rfl (hk.at rfl rfl) (by omega) ?_
        rw [aUp_row (by decide)]
        refine s_zeq rfl ?_ ?_
        · intro h127
          refine s_ic rfl ?_
          refine s_reti rfl rfl ?_
          have k1 := k1 ⟨h1y, h2y⟩
          rw [if_neg (by omega), if_neg (by omega), if_neg (by omega), if_neg (by omega), if_neg (by omega), if_neg (by omega)] at k1
          first
          | (rw [h127] at k1; exact k1)
          | (have e1 : D 243 q = 1 := (h43 q h1y.1 h1y.2).resolve_left h127
             rw [e1] at k1; exact k1)
        · intro h127
          refine s_ic rfl ?_
          refine s_go rfl ?_
          refine s_reti rfl rfl ?_
          have k1 := k1 ⟨h1y, h2y⟩
          rw [if_neg (by omega), if_neg (by omega), if_neg (by omega), if_neg (by omega), if_neg (by omega), if_neg (by omega)] at k1
          first
          | (rw [h127] at k1; exact k1)
          | (have e1 : D 243 q = 1 := (h43 q h1y.1 h1y.2).resolve_left h127
             rw [e1] at k1; exact k1)
      · intro h31
        exact absurd h31 (by decide)
end
