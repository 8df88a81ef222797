/-! ===== loss, commute ===== -/
section
variable {G : aCX} {l : Launch} {d : Nat} {K : Nat → aKd} {D : Nat → Int → Int} {z : Nat × Nat} {P : Int → aSt → Prop}
theorem v_loss {h hr pl ca st am : Int} (hk : Kn K) (hO : OrdC D) (hn : 0 ≤ D 89 0 ∧ D 89 0 ≤ 60) (hw : 0 ≤ D 89 1 ∧ D 89 1 ≤ 300) (k1 : ((0 ≤ h ∧ h ≤ 11) ∧ (0 ≤ hr ∧ hr ≤ 239999) ∧ hr / 24 ≤ D 1 7 ∧ (0 ≤ pl ∧ pl ≤ 999) ∧ (0 ≤ ca ∧ ca ≤ 7) ∧ (0 ≤ st ∧ st ≤ 5) ∧ (0 ≤ am ∧ am ≤ 100000)) → D 89 0 < 60 → D 89 1 < 300 → ∀ D', AlD D h hr pl ca st D' → OrdC D' → P (D 89 0) (K, aUp (aUp (aUp (aUp (aUp (aUp (aUp (aUp (aUp D' 98 (D 89 1) (D 1 7)) 99 (D 89 1) am) 100 (D 89 1) (D' 97 (D 89 0))) 97 (D 89 0) (D 89 1)) 89 1 (D 89 1 + 1)) 1 10 0) 1 11 0) 116 1 0) 116 2 0, z)) (k0 : ¬ (((0 ≤ h ∧ h ≤ 11) ∧ (0 ≤ hr ∧ hr ≤ 239999) ∧ hr / 24 ≤ D 1 7 ∧ (0 ≤ pl ∧ pl ≤ 999) ∧ (0 ≤ ca ∧ ca ≤ 7) ∧ (0 ≤ st ∧ st ≤ 5) ∧ (0 ≤ am ∧ am ≤ 100000)) ∧ D 89 0 < 60 ∧ D 89 1 < 300) → P (-1) (K, D, z)) : VM G l (d + 1) iX11_loss [rf 1, (0, h), (0, hr), (0, pl), (0, ca), (0, st), (0, am)] (K, D, z) P := by
  have bad : ¬ ((0 ≤ h ∧ h ≤ 11) ∧ (0 ≤ hr ∧ hr ≤ 239999) ∧ hr / 24 ≤ D 1 7 ∧ (0 ≤ pl ∧ pl ≤ 999) ∧ (0 ≤ ca ∧ ca ≤ 7) ∧ (0 ≤ st ∧ st ≤ 5) ∧ (0 ≤ am ∧ am ≤ 100000)) → V G l (d + 1) iX11_loss 72 [rf 1, (0, h), (0, hr), (0, pl), (0, ca), (0, st), (0, am), (9, 0), (9, 0)] [] (K, D, z) P := by
    intro hb
    refine s_ic rfl ?_
    refine s_is7 rfl rfl ?_
    refine s_il7 rfl ?_
    refine s_zeq rfl ?_ ?_
    · intro h77
      refine s_ic rfl ?_
      refine s_reti rfl rfl ?_
      exact k0 (fun q => hb q.1)
    · intro h77
      exact absurd rfl h77
  refine VM_go (tg2 rfl) (Nat.le_of_ble_eq_true rfl) ?_
  refine s_il1 rfl ?_
  refine s_ic rfl ?_
  refine s_callS rfl rfl rfl rfl (v_isWithin ?_)
  show V G l (d + 1) iX11_loss 6 [rf 1, (0, h), (0, hr), (0, pl), (0, ca), (0, st), (0, am), (9, 0), (9, 0)] ((0, if 0 ≤ h ∧ h ≤ 11 then 1 else 0) :: []) (K, D, z) P
  generalize h1 : (if 0 ≤ h ∧ h ≤ 11 then (1 : Int) else 0) = c_h1
  refine s_zeq rfl ?_ ?_
  · intro h6
    have h1n : ¬ (0 ≤ h ∧ h ≤ 11) := fun x => by rw [if_pos x] at h1; omega
    exact bad (fun q => h1n q.1)
  · intro h6
    have h1y : 0 ≤ h ∧ h ≤ 11 := Decidable.byContradiction fun x => by rw [if_neg x] at h1; omega
    refine s_il2 rfl ?_
    refine s_ic rfl ?_
    refine s_callS rfl rfl rfl rfl (v_isWithin ?_)
    show V G l (d + 1) iX11_loss 15 [rf 1, (0, h), (0, hr), (0, pl), (0, ca), (0, st), (0, am), (9, 0), (9, 0)] ((0, if 0 ≤ hr ∧ hr ≤ 239999 then 1 else 0) :: []) (K, D, z) P
    generalize h2 : (if 0 ≤ hr ∧ hr ≤ 239999 then (1 : Int) else 0) = c_h2
    refine s_zeq rfl ?_ ?_
    · intro h15
      have h2n : ¬ (0 ≤ hr ∧ hr ≤ 239999) := fun x => by rw [if_pos x] at h2; omega
      exact bad (fun q => h2n q.2.1)
    · intro h15
      have h2y : 0 ≤ hr ∧ hr ≤ 239999 := Decidable.byContradiction fun x => by rw [if_neg x] at h2; omega
      refine s_il2 rfl ?_
      refine s_ic rfl ?_
      refine s_idiv rfl (by decide) (by rw [Int.tdiv_eq_ediv_of_nonneg (by omega)]; exact ⟨by omega, by omega⟩) ?_
      rw [Int.tdiv_eq_ediv_of_nonneg (by omega)]
      refine s_al0 rfl ?_
      refine s_gi rfl (hk.at rfl rfl) rfl ?_
      refine s_cgt rfl ?_ ?_
      · intro h26
        exact bad (fun q => by omega)
      · intro h26
        refine s_il3 rfl ?_
        refine s_ic rfl ?_
        refine s_callS rfl rfl rfl rfl (v_isWithin ?_)
        show V G l (d + 1) iX11_loss 36 [rf 1, (0, h), (0, hr), (0, pl), (0, ca), (0, st), (0, am), (9, 0), (9, 0)] ((0, if 0 ≤ pl ∧ pl ≤ 999 then 1 else 0) :: []) (K, D, z) P
        generalize h3 : (if 0 ≤ pl ∧ pl ≤ 999 then (1 : Int) else 0) = c_h3
        refine s_zeq rfl ?_ ?_
        · intro h36
          have h3n : ¬ (0 ≤ pl ∧ pl ≤ 999) := fun x => by rw [if_pos x] at h3; omega
          exact bad (fun q => h3n q.2.2.2.1)
        · intro h36
          have h3y : 0 ≤ pl ∧ pl ≤ 999 := Decidable.byContradiction fun x => by rw [if_neg x] at h3; omega
          refine s_il4 rfl ?_
          refine s_ic rfl ?_
          refine s_callS rfl rfl rfl rfl (v_isWithin ?_)
          show V G l (d + 1) iX11_loss 46 [rf 1, (0, h), (0, hr), (0, pl), (0, ca), (0, st), (0, am), (9, 0), (9, 0)] ((0, if 0 ≤ ca ∧ ca ≤ 7 then 1 else 0) :: []) (K, D, z) P
          generalize h4 : (if 0 ≤ ca ∧ ca ≤ 7 then (1 : Int) else 0) = c_h4
          refine s_zeq rfl ?_ ?_
          · intro h46
            have h4n : ¬ (0 ≤ ca ∧ ca ≤ 7) := fun x => by rw [if_pos x] at h4; omega
            exact bad (fun q => h4n q.2.2.2.2.1)
          · intro h46
            have h4y : 0 ≤ ca ∧ ca ≤ 7 := Decidable.byContradiction fun x => by rw [if_neg x] at h4; omega
            refine s_il5 rfl ?_
            refine s_ic rfl ?_
            refine s_callS rfl rfl rfl rfl (v_isWithin ?_)
            show V G l (d + 1) iX11_loss 55 [rf 1, (0, h), (0, hr), (0, pl), (0, ca), (0, st), (0, am), (9, 0), (9, 0)] ((0, if 0 ≤ st ∧ st ≤ 5 then 1 else 0) :: []) (K, D, z) P
            generalize h5 : (if 0 ≤ st ∧ st ≤ 5 then (1 : Int) else 0) = c_h5
            refine s_zeq rfl ?_ ?_
            · intro h55
              have h5n : ¬ (0 ≤ st ∧ st ≤ 5) := fun x => by rw [if_pos x] at h5; omega
              exact bad (fun q => h5n q.2.2.2.2.2.1)
            · intro h55
              have h5y : 0 ≤ st ∧ st ≤ 5 := Decidable.byContradiction fun x => by rw [if_neg x] at h5; omega
              refine s_il6 rfl ?_
              refine s_ic rfl ?_
              refine s_callS rfl rfl rfl rfl (v_isWithin ?_)
              show V G l (d + 1) iX11_loss 65 [rf 1, (0, h), (0, hr), (0, pl), (0, ca), (0, st), (0, am), (9, 0), (9, 0)] ((0, if 0 ≤ am ∧ am ≤ 100000 then 1 else 0) :: []) (K, D, z) P
              generalize h6 : (if 0 ≤ am ∧ am ≤ 100000 then (1 : Int) else 0) = c_h6
              refine s_zeq rfl ?_ ?_
              · intro h65
                have h6n : ¬ (0 ≤ am ∧ am ≤ 100000) := fun x => by rw [if_pos x] at h6; omega
                exact bad (fun q => h6n q.2.2.2.2.2.2)
              · intro h65
                have h6y : 0 ≤ am ∧ am ≤ 100000 := Decidable.byContradiction fun x => by rw [if_neg x] at h6; omega
                refine s_ic rfl ?_
                refine s_go rfl ?_
                refine s_is7 rfl rfl ?_
                refine s_il7 rfl ?_
                refine s_zeq rfl ?_ ?_
                · intro h77
                  exact absurd h77 (by decide)
                · intro h77
                  refine s_al0 rfl ?_
                  refine s_gf rfl (hk.at rfl rfl) rfl rfl ?_
                  refine s_gi rfl (hk.at rfl rfl) rfl ?_
                  refine s_ic rfl ?_
                  refine s_cge rfl ?_ ?_
                  · intro h89
                    refine s_ic rfl ?_
                    refine s_reti rfl rfl ?_
                    exact k0 (fun q => by omega)
                  · intro h89
                    refine s_al0 rfl ?_
                    refine s_gf rfl (hk.at rfl rfl) rfl rfl ?_
                    refine s_gi rfl (hk.at rfl rfl) rfl ?_
                    refine s_ic rfl ?_
                    refine s_clt rfl ?_ ?_
                    · intro h102
                      refine s_al0 rfl ?_
                      refine s_gf rfl (hk.at rfl rfl) rfl rfl ?_
                      refine s_il1 rfl ?_
                      refine s_il2 rfl ?_
                      refine s_il3 rfl ?_
                      refine s_il4 rfl ?_
                      refine s_il5 rfl ?_
                      refine s_callO rfl rfl (Or.inl rfl) rfl rfl (hk.at rfl rfl) (v_addLoss hk hO (by omega) (fun D' hA hO' => ?_))
                      have e891 : D' 89 1 = D 89 1 := by rw [hA.2.1, uF_ne (by decide)]
                      have e17 : D' 1 7 = D 1 7 := by rw [hA.1 1 (by omega)]
                      show V G l (d + 1) iX11_loss 121 [rf 1, (0, h), (0, hr), (0, pl), (0, ca), (0, st), (0, am), (0, 1), (9, 0)] [(0, D 89 0)] (K, D', z) P
                      refine s_is8 rfl rfl ?_
                      refine s_al0 rfl ?_
                      refine s_gf rfl (hk.at rfl rfl) rfl rfl ?_
                      refine s_il8 rfl ?_
                      refine s_al0 rfl ?_
                      refine s_gi rfl (hk.at rfl rfl) rfl ?_
                      rw [e17]
                      refine s_il6 rfl ?_
                      refine s_callO rfl rfl (Or.inl rfl) rfl rfl (hk.at rfl rfl) (v_addWord hk (by omega) (by rw [e891]; omega) ?_)
                      rw [e891]
                      show V G l (d + 1) iX11_loss 138 [rf 1, (0, h), (0, hr), (0, pl), (0, ca), (0, st), (0, am), (0, 1), (0, D 89 0)] [] (K, _, z) P
                      refine s_al0 rfl ?_
                      refine s_callO rfl rfl (Or.inl rfl) rfl rfl (hk.at rfl rfl) (v_forgetAnswers hk ?_)
                      show V G l (d + 1) iX11_loss 142 [rf 1, (0, h), (0, hr), (0, pl), (0, ca), (0, st), (0, am), (0, 1), (0, D 89 0)] [] (K, _, z) P
                      refine s_il8 rfl ?_
                      refine s_reti rfl rfl ?_
                      exact k1 ⟨h1y, h2y, by omega, h3y, h4y, h5y, h6y⟩ (by omega) (by omega) D' hA hO'
                    · intro h102
                      refine s_ic rfl ?_
                      refine s_reti rfl rfl ?_
                      exact k0 (fun q => by omega)
theorem u_loss {h hr pl ca st am : Int} (hk : Kn K) (hn : 0 ≤ D 210 37 ∧ D 210 37 ≤ 60) (hw : 0 ≤ D 210 45 ∧ D 210 45 ≤ 300) (k1 : ((0 ≤ h ∧ h ≤ 11) ∧ (0 ≤ hr ∧ hr ≤ 239999) ∧ hr / 24 ≤ D 210 35 ∧ (0 ≤ pl ∧ pl ≤ 999) ∧ (0 ≤ ca ∧ ca ≤ 7) ∧ (0 ≤ st ∧ st ≤ 5) ∧ (0 ≤ am ∧ am ≤ 100000)) → D 210 37 < 60 → D 210 45 < 300 → P (D 210 37) (K, aUp (aUp (aUp (aUp (aUp (aUp (aUp (aUp (aUp (aUp (aUp D 210 0 0) 238 (D 210 37) h) 239 (D 210 37) hr) 240 (D 210 37) pl) 241 (D 210 37) ca) 242 (D 210 37) st) 210 37 (D 210 37 + 1)) 245 (D 210 45) (D 210 37)) 246 (D 210 45) (D 210 35)) 247 (D 210 45) am) 210 45 (D 210 45 + 1), z)) (k0 : ¬ (((0 ≤ h ∧ h ≤ 11) ∧ (0 ≤ hr ∧ hr ≤ 239999) ∧ hr / 24 ≤ D 210 35 ∧ (0 ≤ pl ∧ pl ≤ 999) ∧ (0 ≤ ca ∧ ca ≤ 7) ∧ (0 ≤ st ∧ st ≤ 5) ∧ (0 ≤ am ∧ am ≤ 100000)) ∧ D 210 37 < 60 ∧ D 210 45 < 300) → P (-1) (K, aUp D 210 0 0, z)) : VM G l (d + 1) iX12_loss [rf 210, (0, h), (0, hr), (0, pl), (0, ca), (0, st), (0, am)] (K, D, z) P := by
  have e37 : aUp D 210 0 0 210 37 = D 210 37 := aUp_ne (by decide)
  have e45 : aUp D 210 0 0 210 45 = D 210 45 := aUp_ne (by decide)
  have e35 : aUp D 210 0 0 210 35 = D 210 35 := aUp_ne (by decide)
  have bad : ¬ ((0 ≤ h ∧ h ≤ 11) ∧ (0 ≤ hr ∧ hr ≤ 239999) ∧ hr / 24 ≤ D 210 35 ∧ (0 ≤ pl ∧ pl ≤ 999) ∧ (0 ≤ ca ∧ ca ≤ 7) ∧ (0 ≤ st ∧ st ≤ 5) ∧ (0 ≤ am ∧ am ≤ 100000)) → V G l (d + 1) iX12_loss 73 [rf 210, (0, h), (0, hr), (0, pl), (0, ca), (0, st), (0, am), (9, 0)] [] (K, aUp D 210 0 0, z) P := by
    intro hb
    refine s_ic rfl ?_
    refine s_is7 rfl rfl ?_
    refine s_il7 rfl ?_
    refine s_zeq rfl ?_ ?_
    · intro h78
      refine s_ic rfl ?_
      refine s_reti rfl rfl ?_
      exact k0 (fun q => hb q.1)
    · intro h78
      exact absurd rfl h78
  refine VM_go (tg2 rfl) (Nat.le_of_ble_eq_true rfl) ?_
  refine s_al0 rfl ?_
  refine s_ic rfl ?_
  refine s_pi rfl (hk.at rfl rfl) rfl ?_
  refine s_il1 rfl ?_
  refine s_ic rfl ?_
  refine s_ic rfl ?_
  refine s_callS rfl rfl rfl rfl (u_within ?_)
  show V G l (d + 1) iX12_loss 12 [rf 210, (0, h), (0, hr), (0, pl), (0, ca), (0, st), (0, am), (9, 0)] ((0, if 0 ≤ h ∧ h ≤ 11 then 1 else 0) :: []) (K, aUp D 210 0 0, z) P
  generalize h1 : (if 0 ≤ h ∧ h ≤ 11 then (1 : Int) else 0) = c_h1
  refine s_zeq rfl ?_ ?_
  · intro h12
    have h1n : ¬ (0 ≤ h ∧ h ≤ 11) := fun x => by rw [if_pos x] at h1; omega
    exact bad (fun q => h1n q.1)
  · intro h12
    have h1y : 0 ≤ h ∧ h ≤ 11 := Decidable.byContradiction fun x => by rw [if_neg x] at h1; omega
    refine s_il2 rfl ?_
    refine s_ic rfl ?_
    refine s_ic rfl ?_
    refine s_callS rfl rfl rfl rfl (u_within ?_)
    show V G l (d + 1) iX12_loss 23 [rf 210, (0, h), (0, hr), (0, pl), (0, ca), (0, st), (0, am), (9, 0)] ((0, if 0 ≤ hr ∧ hr ≤ 239999 then 1 else 0) :: []) (K, aUp D 210 0 0, z) P
    generalize h2 : (if 0 ≤ hr ∧ hr ≤ 239999 then (1 : Int) else 0) = c_h2
    refine s_zeq rfl ?_ ?_
    · intro h23
      have h2n : ¬ (0 ≤ hr ∧ hr ≤ 239999) := fun x => by rw [if_pos x] at h2; omega
      exact bad (fun q => h2n q.2.1)
    · intro h23
      have h2y : 0 ≤ hr ∧ hr ≤ 239999 := Decidable.byContradiction fun x => by rw [if_neg x] at h2; omega
      refine s_il2 rfl ?_
      refine s_ic rfl ?_
      refine s_idiv rfl (by decide) (by rw [Int.tdiv_eq_ediv_of_nonneg (by omega)]; exact ⟨by omega, by omega⟩) ?_
      rw [Int.tdiv_eq_ediv_of_nonneg (by omega)]
      refine s_al0 rfl ?_
      refine s_gi rfl (hk.at rfl rfl) rfl ?_
      rw [e35]
      refine s_cgt rfl ?_ ?_
      · intro h34
        exact bad (fun q => by omega)
      · intro h34
        refine s_il3 rfl ?_
        refine s_ic rfl ?_
        refine s_ic rfl ?_
        refine s_callS rfl rfl rfl rfl (u_within ?_)
        show V G l (d + 1) iX12_loss 45 [rf 210, (0, h), (0, hr), (0, pl), (0, ca), (0, st), (0, am), (9, 0)] ((0, if 0 ≤ pl ∧ pl ≤ 999 then 1 else 0) :: []) (K, aUp D 210 0 0, z) P
        generalize h3 : (if 0 ≤ pl ∧ pl ≤ 999 then (1 : Int) else 0) = c_h3
        refine s_zeq rfl ?_ ?_
        · intro h45
          have h3n : ¬ (0 ≤ pl ∧ pl ≤ 999) := fun x => by rw [if_pos x] at h3; omega
          exact bad (fun q => h3n q.2.2.2.1)
        · intro h45
          have h3y : 0 ≤ pl ∧ pl ≤ 999 := Decidable.byContradiction fun x => by rw [if_neg x] at h3; omega
          refine s_il4 rfl ?_
          refine s_ic rfl ?_
          refine s_ic rfl ?_
          refine s_callS rfl rfl rfl rfl (u_within ?_)
          show V G l (d + 1) iX12_loss 56 [rf 210, (0, h), (0, hr), (0, pl), (0, ca), (0, st), (0, am), (9, 0)] ((0, if 0 ≤ ca ∧ ca ≤ 7 then 1 else 0) :: []) (K, aUp D 210 0 0, z) P
          generalize h4 : (if 0 ≤ ca ∧ ca ≤ 7 then (1 : Int) else 0) = c_h4
          refine s_zeq rfl ?_ ?_
          · intro h56
            have h4n : ¬ (0 ≤ ca ∧ ca ≤ 7) := fun x => by rw [if_pos x] at h4; omega
            exact bad (fun q => h4n q.2.2.2.2.1)
          · intro h56
            have h4y : 0 ≤ ca ∧ ca ≤ 7 := Decidable.byContradiction fun x => by rw [if_neg x] at h4; omega
            refine s_il5 rfl ?_
            refine s_ic rfl ?_
            refine s_ic rfl ?_
            refine s_callS rfl rfl rfl rfl (u_within ?_)
            show V G l (d + 1) iX12_loss 66 [rf 210, (0, h), (0, hr), (0, pl), (0, ca), (0, st), (0, am), (9, 0)] ((0, if 0 ≤ st ∧ st ≤ 5 then 1 else 0) :: []) (K, aUp D 210 0 0, z) P
            generalize h5 : (if 0 ≤ st ∧ st ≤ 5 then (1 : Int) else 0) = c_h5
            refine s_zeq rfl ?_ ?_
            · intro h66
              have h5n : ¬ (0 ≤ st ∧ st ≤ 5) := fun x => by rw [if_pos x] at h5; omega
              exact bad (fun q => h5n q.2.2.2.2.2.1)
            · intro h66
              have h5y : 0 ≤ st ∧ st ≤ 5 := Decidable.byContradiction fun x => by rw [if_neg x] at h5; omega
              refine s_ic rfl ?_
              refine s_go rfl ?_
              refine s_is7 rfl rfl ?_
              refine s_il7 rfl ?_
              refine s_zeq rfl ?_ ?_
              · intro h78
                exact absurd h78 (by decide)
              · intro h78
                refine s_il6 rfl ?_
                refine s_ic rfl ?_
                refine s_ic rfl ?_
                refine s_callS rfl rfl rfl rfl (u_within ?_)
                show V G l (d + 1) iX12_loss 90 [rf 210, (0, h), (0, hr), (0, pl), (0, ca), (0, st), (0, am), (0, 1)] ((0, if 0 ≤ am ∧ am ≤ 100000 then 1 else 0) :: []) (K, aUp D 210 0 0, z) P
                generalize h6 : (if 0 ≤ am ∧ am ≤ 100000 then (1 : Int) else 0) = c_h6
                refine s_zeq rfl ?_ ?_
                · intro h90
                  have h6n : ¬ (0 ≤ am ∧ am ≤ 100000) := fun x => by rw [if_pos x] at h6; omega
                  refine s_ic rfl ?_
                  refine s_reti rfl rfl ?_
                  first
                  | exact k0 (fun q => h6n q.1.2.2.2.2.2.2)
                  | exact k0 (fun q => by omega)
                · intro h90
                  have h6y : 0 ≤ am ∧ am ≤ 100000 := Decidable.byContradiction fun x => by rw [if_neg x] at h6; omega
                  refine s_al0 rfl ?_
                  refine s_gi rfl (hk.at rfl rfl) rfl ?_
                  rw [e37]
                  refine s_ic rfl ?_
                  refine s_ceq rfl ?_ ?_
                  · intro h99
                    refine s_ic rfl ?_
                    refine s_reti rfl rfl ?_
                    first
                    | exact k0 (fun q => h6n q.1.2.2.2.2.2.2)
                    | exact k0 (fun q => by omega)
                  · intro h99
                    refine s_al0 rfl ?_
                    refine s_gi rfl (hk.at rfl rfl) rfl ?_
                    rw [e45]
                    refine s_ic rfl ?_
                    refine s_cne rfl ?_ ?_
                    · intro h109
                      refine s_al0 rfl ?_
                      refine s_gf rfl (hk.at rfl rfl) rfl rfl ?_
                      refine s_al0 rfl ?_
                      refine s_gi rfl (hk.at rfl rfl) rfl ?_
                      rw [e37]
                      refine s_il1 rfl ?_
                      refine s_iast rfl (hk.at rfl rfl) (by omega) ?_
                      refine s_al0 rfl ?_
                      refine s_gf rfl (hk.at rfl rfl) rfl rfl ?_
                      refine s_al0 rfl ?_
                      refine s_gi rfl (hk.at rfl rfl) rfl ?_
                      rw [aUp_row (by decide), e37]
                      refine s_il2 rfl ?_
                      refine s_iast rfl (hk.at rfl rfl) (by omega) ?_
                      refine s_al0 rfl ?_
                      refine s_gf rfl (hk.at rfl rfl) rfl rfl ?_
                      refine s_al0 rfl ?_
                      refine s_gi rfl (hk.at rfl rfl) rfl ?_
                      rw [aUp_row (by decide), aUp_row (by decide), e37]
                      refine s_il3 rfl ?_
                      refine s_iast rfl (hk.at rfl rfl) (by omega) ?_
                      refine s_al0 rfl ?_
                      refine s_gf rfl (hk.at rfl rfl) rfl rfl ?_
                      refine s_al0 rfl ?_
                      refine s_gi rfl (hk.at rfl rfl) rfl ?_
                      rw [aUp_row (by decide), aUp_row (by decide), aUp_row (by decide), e37]
                      refine s_il4 rfl ?_
                      refine s_iast rfl (hk.at rfl rfl) (by omega) ?_
                      refine s_al0 rfl ?_
                      refine s_gf rfl (hk.at rfl rfl) rfl rfl ?_
                      refine s_al0 rfl ?_
                      refine s_gi rfl (hk.at rfl rfl) rfl ?_
                      rw [aUp_row (by decide), aUp_row (by decide), aUp_row (by decide), aUp_row (by decide), e37]
                      refine s_il5 rfl ?_
                      refine s_iast rfl (hk.at rfl rfl) (by omega) ?_
                      refine s_al0 rfl ?_
                      refine s_dup rfl (by first | decide | (show (2 : Nat) ≠ 1; decide)) ?_
                      refine s_gi rfl (hk.at rfl rfl) rfl ?_
                      rw [aUp_row (by decide), aUp_row (by decide), aUp_row (by decide), aUp_row (by decide), aUp_row (by decide), e37]
                      refine s_ic rfl ?_
                      refine s_iadd rfl ⟨by omega, by omega⟩ ?_
                      refine s_pi rfl (hk.at rfl rfl) rfl ?_
                      have f45 : (aUp (aUp (aUp (aUp (aUp (aUp (aUp D 210 0 0) 238 (D 210 37) h) 239 (D 210 37) hr) 240 (D 210 37) pl) 241 (D 210 37) ca) 242 (D 210 37) st) 210 37 (D 210 37 + 1)) 210 45 = D 210 45 := by rw [aUp_ne (by decide), aUp_row (by decide), aUp_row (by decide), aUp_row (by decide), aUp_row (by decide), aUp_row (by decide), e45]
                      have f35 : (aUp (aUp (aUp (aUp (aUp (aUp (aUp D 210 0 0) 238 (D 210 37) h) 239 (D 210 37) hr) 240 (D 210 37) pl) 241 (D 210 37) ca) 242 (D 210 37) st) 210 37 (D 210 37 + 1)) 210 35 = D 210 35 := by rw [aUp_ne (by decide), aUp_row (by decide), aUp_row (by decide), aUp_row (by decide), aUp_row (by decide), aUp_row (by decide), e35]
                      refine s_al0 rfl ?_
                      refine s_al0 rfl ?_
                      refine s_gi rfl (hk.at rfl rfl) rfl ?_
                      rw [aUp_at]
                      refine s_ic rfl ?_
                      refine s_isub rfl ⟨by omega, by omega⟩ ?_
                      rw [show D 210 37 + 1 - 1 = D 210 37 by omega]
                      refine s_il6 rfl ?_
                      refine s_callO rfl rfl (Or.inl rfl) rfl rfl (hk.at rfl rfl) (u_tells hk (by rw [f45]; omega) ?_)
                      rw [f45, f35]
                      show V G l (d + 1) iX12_loss 188 [rf 210, (0, h), (0, hr), (0, pl), (0, ca), (0, st), (0, am), (0, 1)] [] (K, _, z) P
                      refine s_al0 rfl ?_
                      refine s_gi rfl (hk.at rfl rfl) rfl ?_
                      rw [aUp_ne (by decide), aUp_row (by decide), aUp_row (by decide), aUp_row (by decide), aUp_at]
                      refine s_ic rfl ?_
                      refine s_isub rfl ⟨by omega, by omega⟩ ?_
                      rw [show D 210 37 + 1 - 1 = D 210 37 by omega]
                      refine s_reti rfl rfl ?_
                      exact k1 ⟨h1y, h2y, by omega, h3y, h4y, h5y, h6y⟩ (by omega) (by omega)
                    · intro h109
                      refine s_ic rfl ?_
                      refine s_reti rfl rfl ?_
                      first
                      | exact k0 (fun q => h6n q.1.2.2.2.2.2.2)
                      | exact k0 (fun q => by omega)
theorem v_commute {q am : Int} {T : Nat} (hk : Kn K) (hT : isT T) (h16 : D 1 6 = (T : Nat)) (h24 : D T 1 ≤ 24) (k1 : (0 ≤ q ∧ q < D T 1) ∧ (0 ≤ am ∧ am ≤ 999999) → ∀ t : Nat, q = (t : Int) → D (T + 9 + 3 * t) 13 = -1 → P 1 (K, aUp (aUp (aUp (aUp (aUp (aUp D (T + 9 + 3 * t) 13 (D 1 7)) (T + 9 + 3 * t) 14 am) 1 10 0) 1 11 0) 116 1 0) 116 2 0, z)) (k0 : (∀ t : Nat, q = (t : Int) → (0 ≤ q ∧ q < D T 1) ∧ (0 ≤ am ∧ am ≤ 999999) → D (T + 9 + 3 * t) 13 ≠ -1) → P 0 (K, D, z)) : VM G l (d + 1) iX11_commute [rf 1, (0, q), (0, am)] (K, D, z) P := by
  have hT2 : T = 8 ∨ T = 129 := hT
  refine VM_go (tg2 rfl) (Nat.le_of_ble_eq_true rfl) ?_
  refine s_al0 rfl ?_
  refine s_il1 rfl ?_
  refine s_callO rfl rfl (Or.inl rfl) rfl rfl (hk.at rfl rfl) (v_isTreaty hk hT h16 ?_)
  show V G l (d + 1) iX11_commute 5 [rf 1, (0, q), (0, am), (9, 0)] ((0, if 0 ≤ q ∧ q < D T 1 then 1 else 0) :: []) (K, D, z) P
  generalize h1 : (if 0 ≤ q ∧ q < D T 1 then (1 : Int) else 0) = c_h1
  refine s_zeq rfl ?_ ?_
  · intro h5
    have h1n : ¬ (0 ≤ q ∧ q < D T 1) := fun x => by rw [if_pos x] at h1; omega
    refine s_ic rfl ?_
    refine s_retz rfl rfl (Or.inl rfl) ?_
    first
    | exact k0 (fun t _ q => absurd q.1 h1n)
    | exact k0 (fun t _ q => absurd q.2 h2n)
  · intro h5
    have h1y : 0 ≤ q ∧ q < D T 1 := Decidable.byContradiction fun x => by rw [if_neg x] at h1; omega
    refine s_il2 rfl ?_
    refine s_ic rfl ?_
    refine s_callS rfl rfl rfl rfl (v_isWithin ?_)
    show V G l (d + 1) iX11_commute 14 [rf 1, (0, q), (0, am), (9, 0)] ((0, if 0 ≤ am ∧ am ≤ 999999 then 1 else 0) :: []) (K, D, z) P
    generalize h2 : (if 0 ≤ am ∧ am ≤ 999999 then (1 : Int) else 0) = c_h2
    refine s_zne rfl ?_ ?_
    · intro h14
      have h2y : 0 ≤ am ∧ am ≤ 999999 := Decidable.byContradiction fun x => by rw [if_neg x] at h2; omega
      obtain ⟨t, rfl⟩ : ∃ t : Nat, q = (t : Int) := ⟨q.toNat, by omega⟩
      have ht : t < 24 := by omega
      refine s_al0 rfl ?_
      refine s_gr rfl (hk.at rfl rfl) rfl ?_
      rw [h16]
      refine s_gf rfl (KT hk hT) rfl rfl ?_
      refine s_il1 rfl ?_
      refine s_aaldT rfl (KTa hk hT).1 (by omega) (by rw [Int.toNat_natCast, List.getElem?_map, List.getElem?_range (by omega)]; rfl) ?_
      refine s_as3 rfl rfl ?_
      refine s_al3 rfl ?_
      refine s_gi rfl (KTt hk hT ht).1 rfl ?_
      refine s_ic rfl ?_
      refine s_ceq rfl ?_ ?_
      · intro h34
        refine s_al3 rfl ?_
        refine s_al0 rfl ?_
        refine s_gi rfl (hk.at rfl rfl) rfl ?_
        refine s_pi rfl (KTt hk hT ht).1 rfl ?_
        refine s_al3 rfl ?_
        refine s_il2 rfl ?_
        refine s_pi rfl (KTt hk hT ht).1 rfl ?_
        refine s_al0 rfl ?_
        refine s_callO rfl rfl (Or.inl rfl) rfl rfl (hk.at rfl rfl) (v_forgetAnswers hk ?_)
        show V G l (d + 1) iX11_commute 56 _ [] (K, _, z) P
        refine s_ic rfl ?_
        refine s_retz rfl rfl (Or.inr rfl) ?_
        exact k1 ⟨h1y, h2y⟩ t rfl h34
      · intro h34
        refine s_ic rfl ?_
        refine s_retz rfl rfl (Or.inl rfl) ?_
        refine k0 (fun t' e _ => ?_)
        have e : t = t' := by omega
        subst e
        exact h34
    · intro h14
      have h2n : ¬ (0 ≤ am ∧ am ≤ 999999) := fun x => by rw [if_pos x] at h2; omega
      refine s_ic rfl ?_
      refine s_retz rfl rfl (Or.inl rfl) ?_
      first
      | exact k0 (fun t _ q => absurd q.1 h1n)
      | exact k0 (fun t _ q => absurd q.2 h2n)
theorem u_commute {q am : Int} (hk : Kn K) (hh : 0 ≤ D 210 10 ∧ D 210 10 ≤ 1) (h24 : D 221 (D 210 10) ≤ 24) (k1 : (0 ≤ q ∧ q < D 221 (D 210 10)) ∧ (0 ≤ am ∧ am ≤ 999999) ∧ D 265 q < 0 → P 1 (K, aUp (aUp (aUp D 210 0 0) 265 q (D 210 35)) 266 q am, z)) (k0 : ¬ ((0 ≤ q ∧ q < D 221 (D 210 10)) ∧ (0 ≤ am ∧ am ≤ 999999) ∧ D 265 q < 0) → P 0 (K, aUp D 210 0 0, z)) : VM G l (d + 1) iX12_commute [rf 210, (0, q), (0, am)] (K, D, z) P := by
  have e10 : aUp D 210 0 0 210 10 = D 210 10 := aUp_ne (by decide)
  have e221 : aUp D 210 0 0 221 = D 221 := aUp_row (by decide)
  refine VM_go (tg2 rfl) (Nat.le_of_ble_eq_true rfl) ?_
  refine s_al0 rfl ?_
  refine s_ic rfl ?_
  refine s_pi rfl (hk.at rfl rfl) rfl ?_
  refine s_al0 rfl ?_
  refine s_il1 rfl ?_
  refine s_callO rfl rfl (Or.inl rfl) rfl rfl (hk.at rfl rfl) (u_isTreaty hk (by rw [e10]; exact hh) ?_)
  rw [e10, e221]
  show V G l (d + 1) iX12_commute 10 [rf 210, (0, q), (0, am)] [(0, if 0 ≤ q ∧ q < D 221 (D 210 10) then 1 else 0)] (K, aUp D 210 0 0, z) P
  generalize h1 : (if 0 ≤ q ∧ q < D 221 (D 210 10) then (1 : Int) else 0) = c_h1
  refine s_zeq rfl ?_ ?_
  · intro h10
    have h1n : ¬ (0 ≤ q ∧ q < D 221 (D 210 10)) := fun x => by rw [if_pos x] at h1; omega
    refine s_ic rfl ?_
    refine s_retz rfl rfl (Or.inl rfl) ?_
    first
    | exact k0 (fun q => h1n q.1)
    | exact k0 (fun q => h2n q.2.1)
    | exact k0 (fun q => by omega)
  · intro h10
    have h1y : 0 ≤ q ∧ q < D 221 (D 210 10) := Decidable.byContradiction fun x => by rw [if_neg x] at h1; omega
    refine s_il2 rfl ?_
    refine s_ic rfl ?_
    refine s_ic rfl ?_
    refine s_callS rfl rfl rfl rfl (u_within ?_)
    show V G l (d + 1) iX12_commute 21 [rf 210, (0, q), (0, am)] ((0, if 0 ≤ am ∧ am ≤ 999999 then 1 else 0) :: []) (K, aUp D 210 0 0, z) P
    generalize h2 : (if 0 ≤ am ∧ am ≤ 999999 then (1 : Int) else 0) = c_h2
    refine s_zeq rfl ?_ ?_
    · intro h21
      have h2n : ¬ (0 ≤ am ∧ am ≤ 999999) := fun x => by rw [if_pos x] at h2; omega
      refine s_ic rfl ?_
      refine s_retz rfl rfl (Or.inl rfl) ?_
      first
      | exact k0 (fun q => h1n q.1)
      | exact k0 (fun q => h2n q.2.1)
      | exact k0 (fun q => by omega)
    · intro h21
      have h2y : 0 ≤ am ∧ am ≤ 999999 := Decidable.byContradiction fun x => by rw [if_neg x] at h2; omega
      refine s_al0 rfl ?_
      refine s_gf rfl (hk.at rfl rfl) rfl rfl ?_
      refine s_il1 rfl ?_
      refine s_iald rfl (hk.at rfl rfl) (by omega) ?_
      rw [aUp_row (by decide)]
      refine s_zlt rfl ?_ ?_
      · intro h30
        refine s_al0 rfl ?_
        refine s_gf rfl (hk.at rfl rfl) rfl rfl ?_
        refine s_il1 rfl ?_
        refine s_al0 rfl ?_
        refine s_gi rfl (hk.at rfl rfl) rfl ?_
        rw [aUp_ne (by decide)]
        refine s_iast rfl (hk.at rfl rfl) (by omega) ?_
        refine s_al0 rfl ?_
        refine s_gf rfl (hk.at rfl rfl) rfl rfl ?_
        refine s_il1 rfl ?_
        refine s_il2 rfl ?_
        refine s_iast rfl (hk.at rfl rfl) (by omega) ?_
        refine s_ic rfl ?_
        refine s_retz rfl rfl (Or.inr rfl) ?_
        exact k1 ⟨h1y, h2y, h30⟩
      · intro h30
        refine s_ic rfl ?_
        refine s_retz rfl rfl (Or.inl rfl) ?_
        first
        | exact k0 (fun q => h1n q.1)
        | exact k0 (fun q => h2n q.2.1)
        | exact k0 (fun q => by omega)
end
