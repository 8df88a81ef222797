/-! ===== values of a condition: the reference ===== -/
theorem wdK_f : ∀ i : Nat, i < 5 → wdK (16 + i) = 28 + (i : Int) := by decide +kernel
section
variable {G : aCX} {l : Launch} {d : Nat} {K : Nat → aKd} {D : Nat → Int → Int} {z : Nat × Nat} {P : Int → aSt → Prop}
theorem u_takeValue {s ws : Int → Int} {n N nx : Nat} (hk : Kn K) (hx2 : nx ≤ 1) (hN : kT s n ws N = 0) (hpl : ∀ k, 0 ≤ pT2 s n k) (hnu : ∀ k, kT s n ws k = 2 → 0 ≤ nT s n k ∧ nT s n k ≤ 999999) : ∀ g, g ≤ 4 → LvM G l K z s ws n N nx iX12_takeValue (4 * g + 4) (3 * g) (4 - ((g : Nat) : Int)) (vaE (kT s n ws) (nT s n) (pT2 s n) g) := by
  intro g
  induction g with
  | zero =>
    intro _
    intro d hd P D k c hH hnx h8 h7 hkN h30 hck kk
    obtain ⟨d, rfl⟩ : ∃ d', d = d' + 3 := ⟨d - 3, by omega⟩
    obtain ⟨b1, b2, b3, b4, b5⟩ := id hH
    obtain ⟨r0, r1, r2, r3, r4, r5, r6, r7, r8⟩ := b1 k hkN
    have hp := hpl k
    have hk32 := kdF_in (s := s) (n := n) (ws := ws) (p := tpF s n k)
    have hk32 : 0 ≤ kT s n ws k ∧ kT s n ws k ≤ 32 := hk32
    obtain ⟨F, hF⟩ : ∃ F : Int, (if 28 ≤ kT s n ws k then kT s n ws k - 28 else -1) = F := ⟨_, rfl⟩
    obtain ⟨M, hM⟩ : ∃ M : Int, (if kT s n ws k = 2 then 1 else 0) = M := ⟨_, rfl⟩
    have bad : ∀ (f : Int) (q : RE), f = q.1 → 0 < f → q = vaE (kT s n ws) (nT s n) (pT2 s n) 0 k → V G l (d + 3) iX12_takeValue 105 [rf 210, (0, 4 - ((0 : Nat) : Int)), (0, F), (0, M)] [] (K, aUp D 210 8 f, z) P := by
      intro f q hf h0 hq
      have h77 : aUp D 210 8 f 210 7 = (k : Nat) := by rw [aUp_ne (by decide)]; exact h7
      refine s_al0 rfl ?_
      refine s_gi rfl (hk.at rfl rfl) rfl ?_
      rw [aUp_at]
      refine s_zle rfl ?_ ?_
      · intro h109
        omega
      · intro h109
        refine s_retv rfl rfl ?_
        refine kk _ ?_
        rw [← hq]
        exact ⟨FrK_210 (Or.inr (Or.inl rfl)), fun y => by omega, fun _ => ⟨by rw [aUp_at]; exact hf, by rw [h77]; omega, c, by rw [aUp_ne (by decide)]; exact h30, Nat.le_refl _, by omega⟩⟩
    have at95 : kT s n ws k = 2 ∨ 28 ≤ kT s n ws k ∨ kT s n ws k = 27 ∨ kT s n ws k = 4 → V G l (d + 3) iX12_takeValue 95 [rf 210, (0, 4 - ((0 : Nat) : Int)), (0, F), (0, M)] [] (K, D, z) P := by
      intro hst
      refine s_il1 rfl ?_
      refine s_ic rfl ?_
      refine s_cne rfl ?_ ?_
      · intro h97
        omega
      · intro h97
        refine s_al0 rfl ?_
        refine s_ic rfl ?_
        refine s_callO rfl rfl (Or.inl rfl) rfl rfl (hk.at rfl rfl) (u_wrong (c := 5) hk hH h8 h7 hkN (by decide) ?_)
        show V G l (d + 3) iX12_takeValue 105 [rf 210, (0, 4 - ((0 : Nat) : Int)), (0, F), (0, M)] [] (K, _, z) P
        exact bad _ (5 + 16 * pT2 s n k, k, []) rfl (by omega) (by rw [vaE, if_pos hst])
    have at61 : V G l (d + 3) iX12_takeValue 61 [rf 210, (0, 4 - ((0 : Nat) : Int)), (0, F), (0, M)] [] (K, D, z) P := by
      refine s_il2 rfl ?_
      refine s_zge rfl ?_ ?_
      · intro h62
        have a28 : 28 ≤ kT s n ws k := Decidable.byContradiction fun q => by rw [← hF, if_neg q] at h62; omega
        exact at95 (Or.inr (Or.inl a28))
      · intro h62
        have n28 : ¬ 28 ≤ kT s n ws k := fun q => by rw [← hF, if_pos q] at h62; omega
        refine s_il3 rfl ?_
        refine s_zne rfl ?_ ?_
        · intro h66
          exact at95 (Or.inl (Decidable.byContradiction fun q => by rw [← hM, if_neg q] at h66; omega))
        · intro h66
          have n2 : ¬ kT s n ws k = 2 := fun q => by rw [← hM, if_pos q] at h66; omega
          refine s_al0 rfl ?_
          refine s_ic rfl ?_
          refine s_callO rfl rfl (Or.inl rfl) rfl rfl (hk.at rfl rfl) (u_isSign (c := 40) hk hH h8 h7 hkN (by decide) ?_)
          show V G l (d + 3) iX12_takeValue 75 [rf 210, (0, 4 - ((0 : Nat) : Int)), (0, F), (0, M)] [(0, if kT s n ws k = 4 then 1 else 0)] (K, D, z) P
          generalize hcc : (if kT s n ws k = 4 then (1 : Int) else 0) = cc
          refine s_zne rfl ?_ ?_
          · intro h75
            exact at95 (Or.inr (Or.inr (Or.inr (Decidable.byContradiction fun q => by rw [if_neg q] at hcc; omega))))
          · intro h75
            have n4 : ¬ kT s n ws k = 4 := fun q => by rw [if_pos q] at hcc; omega
            refine s_al0 rfl ?_
            refine s_ic rfl ?_
            refine s_callO rfl rfl (Or.inl rfl) rfl rfl (hk.at rfl rfl) (u_isWord (w := 15) hk hH h8 h7 hkN (by decide) ?_)
            show V G l (d + 3) iX12_takeValue 84 [rf 210, (0, 4 - ((0 : Nat) : Int)), (0, F), (0, M)] [(0, if kT s n ws k = 27 then 1 else 0)] (K, D, z) P
            generalize hcd : (if kT s n ws k = 27 then (1 : Int) else 0) = cd
            refine s_zne rfl ?_ ?_
            · intro h84
              exact at95 (Or.inr (Or.inr (Or.inl (Decidable.byContradiction fun q => by rw [if_neg q] at hcd; omega))))
            · intro h84
              have n27 : ¬ kT s n ws k = 27 := fun q => by rw [if_pos q] at hcd; omega
              refine s_al0 rfl ?_
              refine s_ic rfl ?_
              refine s_callO rfl rfl (Or.inl rfl) rfl rfl (hk.at rfl rfl) (u_wrong (c := 1) hk hH h8 h7 hkN (by decide) ?_)
              show V G l (d + 3) iX12_takeValue 92 [rf 210, (0, 4 - ((0 : Nat) : Int)), (0, F), (0, M)] [] (K, _, z) P
              refine s_go rfl ?_
              exact bad _ (1 + 16 * pT2 s n k, k, []) rfl (by omega) (by rw [vaE, if_neg (by omega)])
    have loop : ∀ (f i : Nat) (e : Int), i + f = 5 → e = (if 28 ≤ kT s n ws k ∧ kT s n ws k < 28 + (i : Int) then kT s n ws k - 28 else -1) → V G l (d + 3) iX12_takeValue 13 [rf 210, (0, 4 - ((0 : Nat) : Int)), (0, e), (0, ((16 + i : Nat) : Int))] [] (K, D, z) P := by
      intro f
      induction f with
      | zero =>
        intro i e hi he
        have hi : i = 5 := by omega
        subst hi
        have e2 : e = F := by rw [he, ← hF]; by_cases q : 28 ≤ kT s n ws k; rw [if_pos q, if_pos ⟨q, by omega⟩]; rw [if_neg q, if_neg (fun y => q y.1)]
        refine s_il3 rfl ?_
        refine s_ic rfl ?_
        refine s_cge rfl ?_ ?_
        · intro h16
          refine s_al0 rfl ?_
          refine s_gf rfl (hk.at rfl rfl) rfl rfl ?_
          refine s_al0 rfl ?_
          refine s_gi rfl (hk.at rfl rfl) rfl ?_
          rw [h7]
          refine s_iald rfl (hk.at rfl rfl) (by omega) ?_
          refine s_ic rfl ?_
          refine s_cne rfl ?_ ?_
          · intro h52
            refine s_ic rfl ?_
            refine s_is3 rfl rfl ?_
            have m0 : M = 0 := by rw [← hM, if_neg (fun q => h52 (r2.mpr q))]
            rw [e2]
            rw [m0] at at61
            exact at61
          · intro h52
            refine s_ic rfl ?_
            refine s_go rfl ?_
            refine s_is3 rfl rfl ?_
            have m0 : M = 1 := by rw [← hM, if_pos (r2.mp h52)]
            rw [e2]
            rw [m0] at at61
            exact at61
        · intro h16
          omega
      | succ f ihf =>
        intro i e hi he
        have wk := wdK_f i (by omega)
        have nxt : ∀ x : Int, x = (if 28 ≤ kT s n ws k ∧ kT s n ws k < 28 + ((i + 1 : Nat) : Int) then kT s n ws k - 28 else -1) → V G l (d + 3) iX12_takeValue 35 [rf 210, (0, 4 - ((0 : Nat) : Int)), (0, e), (0, ((16 + i : Nat) : Int))] [(0, x)] (K, D, z) P := by
          intro x hx
          refine s_is2 rfl rfl ?_
          refine s_iinc3 rfl rfl ⟨by omega, by omega⟩ ?_
          refine s_go rfl ?_
          exact ihf (i + 1) x (by omega) hx
        refine s_il3 rfl ?_
        refine s_ic rfl ?_
        refine s_cge rfl ?_ ?_
        · intro h16
          omega
        · intro h16
          refine s_al0 rfl ?_
          refine s_il3 rfl ?_
          refine s_callO rfl rfl (Or.inl rfl) rfl rfl (hk.at rfl rfl) (u_isWord (w := 16 + i) hk hH h8 h7 hkN (by omega) ?_)
          rw [wk]
          show V G l (d + 3) iX12_takeValue 24 [rf 210, (0, 4 - ((0 : Nat) : Int)), (0, e), (0, ((16 + i : Nat) : Int))] [(0, if kT s n ws k = 28 + (i : Int) then 1 else 0)] (K, D, z) P
          generalize hcc : (if kT s n ws k = 28 + (i : Int) then (1 : Int) else 0) = cc
          refine s_zeq rfl ?_ ?_
          · intro h24
            have nq : ¬ kT s n ws k = 28 + (i : Int) := fun q => by rw [if_pos q] at hcc; omega
            refine s_il2 rfl ?_
            refine nxt _ ?_
            rw [he]
            by_cases q : 28 ≤ kT s n ws k ∧ kT s n ws k < 28 + (i : Int)
            · rw [if_pos q, if_pos ⟨q.1, by omega⟩]
            · rw [if_neg q, if_neg (fun y => q ⟨y.1, by omega⟩)]
          · intro h24
            have nq : kT s n ws k = 28 + (i : Int) := Decidable.byContradiction fun q => by rw [if_neg q] at hcc; omega
            refine s_il3 rfl ?_
            refine s_ic rfl ?_
            refine s_isub rfl ⟨by omega, by omega⟩ ?_
            refine s_go rfl ?_
            refine nxt _ ?_
            rw [if_pos ⟨by omega, by omega⟩]; omega
    refine VM_go (tg2 rfl) (Nat.le_of_ble_eq_true rfl) ?_
    refine s_al0 rfl ?_
    refine s_gi rfl (hk.at rfl rfl) rfl ?_
    rw [h8]
    refine s_zle rfl ?_ ?_
    · intro h4
      refine s_ic rfl ?_
      refine s_is2 rfl rfl ?_
      refine s_ic rfl ?_
      refine s_is3 rfl rfl ?_
      exact loop 5 0 (-1) (by omega) (by rw [if_neg (by omega)])
    · intro h4
      omega
  | succ g ih =>
    intro hg4
    have ih := ih (by omega)
    have okv := va_ok (kd := kT s n ws) (nu := nT s n) (N := N) hN hpl g
    have h1 := u_sums (z := z) hk hx2 (by omega) (by omega) okv ih
    have h2 := u_test (z := z) hk hx2 (by omega) (by omega) (ch_ok hN okv 1) h1
    have hall := u_all (z := z) hk hx2 (by omega) (by omega) (ch_ok hN okv 2) h2
    have hall : LvM G l K z s ws n N nx iX12_all (4 * g + 4 + 1 + 1 + 1) (3 * g + 1 + 1 + 1) (4 - ((g : Nat) : Int)) (chE (kT s n ws) (vaE (kT s n ws) (nT s n) (pT2 s n) g) 3) := hall
    intro d hd P D k c hH hnx h8 h7 hkN h30 hck kk
    obtain ⟨d, rfl⟩ : ∃ d', d = d' + 3 := ⟨d - 3, by omega⟩
    obtain ⟨b1, b2, b3, b4, b5⟩ := id hH
    obtain ⟨r0, r1, r2, r3, r4, r5, r6, r7, r8⟩ := b1 k hkN
    have hp := hpl k
    have hk32 := kdF_in (s := s) (n := n) (ws := ws) (p := tpF s n k)
    have hk32 : 0 ≤ kT s n ws k ∧ kT s n ws k ≤ 32 := hk32
    obtain ⟨F, hF⟩ : ∃ F : Int, (if 28 ≤ kT s n ws k then kT s n ws k - 28 else -1) = F := ⟨_, rfl⟩
    obtain ⟨M, hM⟩ : ∃ M : Int, (if kT s n ws k = 2 then 1 else 0) = M := ⟨_, rfl⟩
    have bad : ∀ (f : Int) (q : RE), f = q.1 → 0 < f → q = vaE (kT s n ws) (nT s n) (pT2 s n) (g + 1) k → V G l (d + 3) iX12_takeValue 105 [rf 210, (0, 4 - ((g + 1 : Nat) : Int)), (0, F), (0, M)] [] (K, aUp D 210 8 f, z) P := by
      intro f q hf h0 hq
      have h77 : aUp D 210 8 f 210 7 = (k : Nat) := by rw [aUp_ne (by decide)]; exact h7
      refine s_al0 rfl ?_
      refine s_gi rfl (hk.at rfl rfl) rfl ?_
      rw [aUp_at]
      refine s_zle rfl ?_ ?_
      · intro h109
        omega
      · intro h109
        refine s_retv rfl rfl ?_
        refine kk _ ?_
        rw [← hq]
        exact ⟨FrK_210 (Or.inr (Or.inl rfl)), fun y => by omega, fun _ => ⟨by rw [aUp_at]; exact hf, by rw [h77]; omega, c, by rw [aUp_ne (by decide)]; exact h30, Nat.le_refl _, by omega⟩⟩
    have at95 : kT s n ws k = 2 ∨ 28 ≤ kT s n ws k ∨ kT s n ws k = 27 ∨ kT s n ws k = 4 → V G l (d + 3) iX12_takeValue 95 [rf 210, (0, 4 - ((g + 1 : Nat) : Int)), (0, F), (0, M)] [] (K, D, z) P := by
      intro hst
      have hlt : k + 1 ≤ N := tk_nx (kd := kT s n ws) b3 hkN (by omega)
      refine s_il1 rfl ?_
      refine s_ic rfl ?_
      refine s_cne rfl ?_ ?_
      · intro h97
        refine s_al0 rfl ?_
        refine s_gi rfl (hk.at rfl rfl) rfl ?_
        rw [h8]
        refine s_zle rfl ?_ ?_
        · intro h109
          refine s_al0 rfl ?_
          refine s_ic rfl ?_
          refine s_callO rfl rfl (Or.inl rfl) rfl rfl (hk.at rfl rfl) (u_hasWord (w := 15) hk hH h8 h7 hkN (by decide) (fun y => ?_) (fun y => ?_))
          · have y : kT s n ws k = 27 := y
            show V G l (d + 3) iX12_takeValue 119 [rf 210, (0, 4 - ((g + 1 : Nat) : Int)), (0, F), (0, M)] [(0, 1)] (K, aUp D 210 7 ((k : Int) + 1), z) P
            have e : vaE (kT s n ws) (nT s n) (pT2 s n) (g + 1) k = ((vaE (kT s n ws) (nT s n) (pT2 s n) g (k + 1)).1, (vaE (kT s n ws) (nT s n) (pT2 s n) g (k + 1)).2.1, (vaE (kT s n ws) (nT s n) (pT2 s n) g (k + 1)).2.2 ++ [(3, 0)]) := by rw [vaE, if_neg (by omega), if_neg (by omega), if_pos y]
            refine s_zeq rfl (fun q => absurd q (by decide)) (fun _ => ?_)
            refine s_al0 rfl ?_
            refine s_il1 rfl ?_
            refine s_ic rfl ?_
            refine s_iadd rfl ⟨by omega, by omega⟩ ?_
            rw [show (4 : Int) - ((g + 1 : Nat) : Int) + 1 = 4 - (g : Int) by omega]
            refine s_callO rfl rfl (Or.inl rfl) rfl rfl (hk.at rfl rfl) (ih (d + 2) (by omega) _ (aUp D 210 7 ((k + 1 : Nat) : Int)) (k + 1) c (FrK_RfH (FrK_210 (c := c) (nx := nx) (Or.inl rfl)) hH) (by rw [aUp_ne (by decide)]; exact hnx) (by rw [aUp_ne (by decide)]; exact h8) aUp_at hlt (by rw [aUp_ne (by decide)]; exact h30) (by omega) (fun D2 hX2 => ?_))
            show V G l (d + 3) iX12_takeValue 129 [rf 210, (0, 4 - ((g + 1 : Nat) : Int)), (0, F), (0, M)] [] (K, D2, z) P
            have hn2 : D2 210 11 = (nx : Nat) := by rw [hX2.1.2.1 11 (by decide) (by decide) (by decide), aUp_ne (by decide)]; exact hnx
            have st0 : ExM nx c (3 * (g + 1)) D (0, k, []) D := ⟨FrK_refl, fun _ => ⟨h8, h7, by rw [h30]; rfl, trivial⟩, fun q => absurd rfl q⟩
            refine s_al0 rfl ?_
            refine s_ic rfl ?_
            refine s_ic rfl ?_
            by_cases v0 : (vaE (kT s n ws) (nT s n) (pT2 s n) g (k + 1)).1 = 0
            · obtain ⟨y8, y7, y30, yo⟩ := hX2.2.1 v0
              obtain ⟨u1, u2, u3⟩ := (va_ok (N := N) b3 hpl g (k + 1) hlt).2 v0
              refine s_callO rfl rfl (Or.inl rfl) rfl rfl (hk.at rfl rfl) (u_emit hk hn2 hx2 y30 (by omega) ?_)
              show V G l (d + 3) iX12_takeValue 135 [rf 210, (0, 4 - ((g + 1 : Nat) : Int)), (0, F), (0, M)] [] (K, _, z) P
              refine s_go rfl ?_
              refine s_retv rfl rfl ?_
              refine kk _ ?_
              rw [e]
              exact ExM_op (a := 3) (b := 0) st0 rfl hX2 v0 (by show c + 0 + (vaE (kT s n ws) (nT s n) (pT2 s n) g (k + 1)).2.2.length < 1600; omega)
            · obtain ⟨y8, y7, c', y30, yc, ym⟩ := hX2.2.2 v0
              have st := ExM_bad (a := 3) (b := 0) (m := 3 * (g + 1)) (w := vaE (kT s n ws) (nT s n) (pT2 s n) (g + 1) k) (FrK_refl (nx := nx) (c := c) (D := D)) (Nat.le_refl c) hX2 v0 (by rw [e]) y30 (by omega) (by omega)
              refine s_callO rfl rfl (Or.inl rfl) rfl rfl (hk.at rfl rfl) (u_emit hk hn2 hx2 y30 st.1 ?_)
              show V G l (d + 3) iX12_takeValue 135 [rf 210, (0, 4 - ((g + 1 : Nat) : Int)), (0, F), (0, M)] [] (K, _, z) P
              refine s_go rfl ?_
              refine s_retv rfl rfl ?_
              exact kk _ st.2
          have y27 : ¬ kT s n ws k = 27 := y
          show V G l (d + 3) iX12_takeValue 119 [rf 210, (0, 4 - ((g + 1 : Nat) : Int)), (0, F), (0, M)] [(0, 0)] (K, D, z) P
          refine s_zeq rfl ?_ ?_
          · intro h119
            refine s_al0 rfl ?_
            refine s_ic rfl ?_
            refine s_callO rfl rfl (Or.inl rfl) rfl rfl (hk.at rfl rfl) (u_hasSign (c := 40) hk hH h8 h7 hkN (by decide) (fun y => ?_) (fun y => ?_))
            · have y : kT s n ws k = 4 := y
              show V G l (d + 3) iX12_takeValue 144 [rf 210, (0, 4 - ((g + 1 : Nat) : Int)), (0, F), (0, M)] [(0, 1)] (K, aUp D 210 7 ((k : Int) + 1), z) P
              have e : vaE (kT s n ws) (nT s n) (pT2 s n) (g + 1) k = (if (chE (kT s n ws) (vaE (kT s n ws) (nT s n) (pT2 s n) g) 3 (k + 1)).1 = 0 then (if kT s n ws (chE (kT s n ws) (vaE (kT s n ws) (nT s n) (pT2 s n) g) 3 (k + 1)).2.1 = 5 then (0, (chE (kT s n ws) (vaE (kT s n ws) (nT s n) (pT2 s n) g) 3 (k + 1)).2.1 + 1, (chE (kT s n ws) (vaE (kT s n ws) (nT s n) (pT2 s n) g) 3 (k + 1)).2.2) else (1 + 16 * pT2 s n (chE (kT s n ws) (vaE (kT s n ws) (nT s n) (pT2 s n) g) 3 (k + 1)).2.1, (chE (kT s n ws) (vaE (kT s n ws) (nT s n) (pT2 s n) g) 3 (k + 1)).2.1, [])) else chE (kT s n ws) (vaE (kT s n ws) (nT s n) (pT2 s n) g) 3 (k + 1)) := by rw [vaE, if_neg (by omega), if_neg (by omega), if_neg (by omega), if_pos y]
              have hok := ch_ok b3 (va_ok (nu := nT s n) (N := N) b3 hpl g) 3 (k + 1) hlt
              refine s_zeq rfl (fun q => absurd q (by decide)) (fun _ => ?_)
              refine s_al0 rfl ?_
              refine s_il1 rfl ?_
              refine s_ic rfl ?_
              refine s_iadd rfl ⟨by omega, by omega⟩ ?_
              rw [show (4 : Int) - ((g + 1 : Nat) : Int) + 1 = 4 - (g : Int) by omega]
              refine s_callO rfl rfl (Or.inl rfl) rfl rfl (hk.at rfl rfl) (hall (d + 2) (by omega) _ (aUp D 210 7 ((k + 1 : Nat) : Int)) (k + 1) c (FrK_RfH (FrK_210 (c := c) (nx := nx) (Or.inl rfl)) hH) (by rw [aUp_ne (by decide)]; exact hnx) (by rw [aUp_ne (by decide)]; exact h8) aUp_at hlt (by rw [aUp_ne (by decide)]; exact h30) (by omega) (fun D2 hX2 => ?_))
              show V G l (d + 3) iX12_takeValue 154 [rf 210, (0, 4 - ((g + 1 : Nat) : Int)), (0, F), (0, M)] [] (K, D2, z) P
              generalize chE (kT s n ws) (vaE (kT s n ws) (nT s n) (pT2 s n) g) 3 (k + 1) = r at e hX2 hok
              have f2 : FrK nx c D D2 := FrK_trans (Nat.le_refl c) (FrK_210 (Or.inl rfl)) hX2.1
              refine s_al0 rfl ?_
              refine s_ic rfl ?_
              by_cases v0 : r.1 = 0
              · obtain ⟨y8, y7, y30, yo⟩ := hX2.2.1 v0
                obtain ⟨o1, o2, o3⟩ := hok.2 v0
                rw [if_pos v0] at e
                refine s_callO rfl rfl (Or.inl rfl) rfl rfl (hk.at rfl rfl) (u_takeSign (c := 41) hk (FrK_RfH hX2.1 (FrK_RfH (FrK_210 (c := c) (nx := nx) (Or.inl rfl)) hH)) y8 y7 o2 (by decide) (fun y5 => ?_) (fun y5 => ?_))
                · have y5 : kT s n ws r.2.1 = 5 := y5
                  show V G l (d + 3) iX12_takeValue 160 [rf 210, (0, 4 - ((g + 1 : Nat) : Int)), (0, F), (0, M)] [] (K, _, z) P
                  refine s_go rfl ?_
                  refine s_retv rfl rfl ?_
                  refine kk _ ?_
                  rw [e, if_pos y5]
                  refine ⟨FrK_trans (Nat.le_refl c) f2 (FrK_210 (Or.inl rfl)), fun _ => ⟨by rw [aUp_ne (by decide)]; exact y8, by rw [aUp_at]; rfl, by rw [aUp_ne (by decide)]; exact y30, by rw [aUp_row (by decide), aUp_row (by decide)]; exact yo⟩, fun q => absurd rfl q⟩
                · have y5 : ¬ kT s n ws r.2.1 = 5 := y5
                  show V G l (d + 3) iX12_takeValue 160 [rf 210, (0, 4 - ((g + 1 : Nat) : Int)), (0, F), (0, M)] [] (K, _, z) P
                  have hp := hpl r.2.1
                  refine s_go rfl ?_
                  refine s_retv rfl rfl ?_
                  refine kk _ ?_
                  rw [e, if_neg y5]
                  refine ⟨FrK_trans (Nat.le_refl c) f2 (FrK_210 (Or.inr (Or.inl rfl))), (fun q => by have q : 1 + 16 * pT2 s n r.2.1 = 0 := q; omega), fun _ => ⟨aUp_at, by rw [aUp_ne (by decide), y7]; omega, c + r.2.2.length, by rw [aUp_ne (by decide)]; exact y30, by omega, by omega⟩⟩
              · obtain ⟨y8, y7, c', y30, yc, ym⟩ := hX2.2.2 v0
                have p0 := hok.1
                rw [if_neg v0] at e
                refine s_callO rfl rfl (Or.inl rfl) rfl rfl (hk.at rfl rfl) (u_takeSignD hk (by omega) ?_)
                show V G l (d + 3) iX12_takeValue 160 [rf 210, (0, 4 - ((g + 1 : Nat) : Int)), (0, F), (0, M)] [] (K, D2, z) P
                refine s_go rfl ?_
                refine s_retv rfl rfl ?_
                refine kk _ ?_
                rw [e]
                exact ⟨f2, fun q => absurd q v0, fun _ => ⟨y8, y7, c', y30, yc, by omega⟩⟩
            have y4 : ¬ kT s n ws k = 4 := y
            show V G l (d + 3) iX12_takeValue 144 [rf 210, (0, 4 - ((g + 1 : Nat) : Int)), (0, F), (0, M)] [(0, 0)] (K, D, z) P
            have pl2 : kT s n ws k = 2 ∨ 28 ≤ kT s n ws k := by omega
            have eend : ∀ a b : Int, (a, b) = (if kT s n ws k = 2 then (1, nT s n k) else (2, kT s n ws k - 28)) → V G l (d + 3) iX12_takeValue 191 [rf 210, (0, 4 - ((g + 1 : Nat) : Int)), (0, F), (0, M)] [(0, b), (0, a), rf 210] (K, D, z) P := by
              intro a b hab
              have e : vaE (kT s n ws) (nT s n) (pT2 s n) (g + 1) k = (0, k + 1, [(a, b)]) := by
                rw [vaE, hab]
                by_cases q : kT s n ws k = 2
                · rw [if_pos q, if_pos q]
                · rw [if_neg q, if_pos (by omega), if_neg q]
              refine s_callO rfl rfl (Or.inl rfl) rfl rfl (hk.at rfl rfl) (u_emit hk hnx hx2 h30 (by omega) ?_)
              show V G l (d + 3) iX12_takeValue 194 [rf 210, (0, 4 - ((g + 1 : Nat) : Int)), (0, F), (0, M)] [] (K, emU nx c a b D, z) P
              refine s_al0 rfl ?_
              refine s_dup rfl (by decide) ?_
              refine s_gi rfl (hk.at rfl rfl) rfl ?_
              rw [show emU nx c a b D 210 7 = (k : Nat) by rw [em_210 (by decide)]; exact h7]
              refine s_ic rfl ?_
              refine s_iadd rfl ⟨by omega, by omega⟩ ?_
              refine s_pi rfl (hk.at rfl rfl) rfl ?_
              refine s_retv rfl rfl ?_
              refine kk _ ?_
              rw [e]
              refine ⟨FrK_trans (Nat.le_refl c) (FrK_em (Nat.le_refl c) (by omega)) (FrK_210 (Or.inl rfl)), fun _ => ⟨by rw [aUp_ne (by decide), em_210 (by decide)]; exact h8, by rw [aUp_at]; rfl, by rw [aUp_ne (by decide), em_30]; rfl, ⟨⟨?_, ?_⟩, trivial⟩⟩, fun q => absurd rfl q⟩
              · rw [aUp_row (by decide), em_234, uF_at]
              · rw [aUp_row (by decide), em_235, uF_at]
            refine s_zeq rfl ?_ ?_
            · intro h144
              refine s_al0 rfl ?_
              refine s_il3 rfl ?_
              refine s_zeq rfl ?_ ?_
              · intro h165
                have n2 : ¬ kT s n ws k = 2 := fun q => by rw [← hM, if_pos q] at h165; omega
                refine s_ic rfl ?_
                refine s_il3 rfl ?_
                refine s_zeq rfl (fun _ => ?_) (fun q => absurd h165 q)
                refine s_il2 rfl ?_
                refine eend 2 F ?_
                rw [if_neg n2, ← hF, if_pos (by omega)]
              · intro h165
                have n2 : kT s n ws k = 2 := Decidable.byContradiction fun q => by rw [← hM, if_neg q] at h165; omega
                refine s_ic rfl ?_
                refine s_go rfl ?_
                refine s_il3 rfl ?_
                refine s_zeq rfl (fun q => absurd q h165) (fun _ => ?_)
                refine s_al0 rfl ?_
                refine s_gf rfl (hk.at rfl rfl) rfl rfl ?_
                refine s_al0 rfl ?_
                refine s_gi rfl (hk.at rfl rfl) rfl ?_
                rw [h7]
                refine s_lald rfl (hk.at rfl rfl) (by omega) ?_
                rw [r3 n2]
                have nb := hnu k n2
                refine s_l2i rfl ⟨by omega, by omega⟩ ?_
                refine s_go rfl ?_
                refine eend 1 (nT s n k) ?_
                rw [if_pos n2]
            · intro h144
              exact absurd rfl h144
          · intro h119
            exact absurd rfl h119
        · intro h109
          omega
      · intro h97
        omega
    have at61 : V G l (d + 3) iX12_takeValue 61 [rf 210, (0, 4 - ((g + 1 : Nat) : Int)), (0, F), (0, M)] [] (K, D, z) P := by
      refine s_il2 rfl ?_
      refine s_zge rfl ?_ ?_
      · intro h62
        have a28 : 28 ≤ kT s n ws k := Decidable.byContradiction fun q => by rw [← hF, if_neg q] at h62; omega
        exact at95 (Or.inr (Or.inl a28))
      · intro h62
        have n28 : ¬ 28 ≤ kT s n ws k := fun q => by rw [← hF, if_pos q] at h62; omega
        refine s_il3 rfl ?_
        refine s_zne rfl ?_ ?_
        · intro h66
          exact at95 (Or.inl (Decidable.byContradiction fun q => by rw [← hM, if_neg q] at h66; omega))
        · intro h66
          have n2 : ¬ kT s n ws k = 2 := fun q => by rw [← hM, if_pos q] at h66; omega
          refine s_al0 rfl ?_
          refine s_ic rfl ?_
          refine s_callO rfl rfl (Or.inl rfl) rfl rfl (hk.at rfl rfl) (u_isSign (c := 40) hk hH h8 h7 hkN (by decide) ?_)
          show V G l (d + 3) iX12_takeValue 75 [rf 210, (0, 4 - ((g + 1 : Nat) : Int)), (0, F), (0, M)] [(0, if kT s n ws k = 4 then 1 else 0)] (K, D, z) P
          generalize hcc : (if kT s n ws k = 4 then (1 : Int) else 0) = cc
          refine s_zne rfl ?_ ?_
          · intro h75
            exact at95 (Or.inr (Or.inr (Or.inr (Decidable.byContradiction fun q => by rw [if_neg q] at hcc; omega))))
          · intro h75
            have n4 : ¬ kT s n ws k = 4 := fun q => by rw [if_pos q] at hcc; omega
            refine s_al0 rfl ?_
            refine s_ic rfl ?_
            refine s_callO rfl rfl (Or.inl rfl) rfl rfl (hk.at rfl rfl) (u_isWord (w := 15) hk hH h8 h7 hkN (by decide) ?_)
            show V G l (d + 3) iX12_takeValue 84 [rf 210, (0, 4 - ((g + 1 : Nat) : Int)), (0, F), (0, M)] [(0, if kT s n ws k = 27 then 1 else 0)] (K, D, z) P
            generalize hcd : (if kT s n ws k = 27 then (1 : Int) else 0) = cd
            refine s_zne rfl ?_ ?_
            · intro h84
              exact at95 (Or.inr (Or.inr (Or.inl (Decidable.byContradiction fun q => by rw [if_neg q] at hcd; omega))))
            · intro h84
              have n27 : ¬ kT s n ws k = 27 := fun q => by rw [if_pos q] at hcd; omega
              refine s_al0 rfl ?_
              refine s_ic rfl ?_
              refine s_callO rfl rfl (Or.inl rfl) rfl rfl (hk.at rfl rfl) (u_wrong (c := 1) hk hH h8 h7 hkN (by decide) ?_)
              show V G l (d + 3) iX12_takeValue 92 [rf 210, (0, 4 - ((g + 1 : Nat) : Int)), (0, F), (0, M)] [] (K, _, z) P
              refine s_go rfl ?_
              exact bad _ (1 + 16 * pT2 s n k, k, []) rfl (by omega) (by rw [vaE, if_neg (by omega), if_neg (by omega), if_neg (by omega), if_neg (by omega)])
    have loop : ∀ (f i : Nat) (e : Int), i + f = 5 → e = (if 28 ≤ kT s n ws k ∧ kT s n ws k < 28 + (i : Int) then kT s n ws k - 28 else -1) → V G l (d + 3) iX12_takeValue 13 [rf 210, (0, 4 - ((g + 1 : Nat) : Int)), (0, e), (0, ((16 + i : Nat) : Int))] [] (K, D, z) P := by
      intro f
      induction f with
      | zero =>
        intro i e hi he
        have hi : i = 5 := by omega
        subst hi
        have e2 : e = F := by rw [he, ← hF]; by_cases q : 28 ≤ kT s n ws k; rw [if_pos q, if_pos ⟨q, by omega⟩]; rw [if_neg q, if_neg (fun y => q y.1)]
        refine s_il3 rfl ?_
        refine s_ic rfl ?_
        refine s_cge rfl ?_ ?_
        · intro h16
          refine s_al0 rfl ?_
          refine s_gf rfl (hk.at rfl rfl) rfl rfl ?_
          refine s_al0 rfl ?_
          refine s_gi rfl (hk.at rfl rfl) rfl ?_
          rw [h7]
          refine s_iald rfl (hk.at rfl rfl) (by omega) ?_
          refine s_ic rfl ?_
          refine s_cne rfl ?_ ?_
          · intro h52
            refine s_ic rfl ?_
            refine s_is3 rfl rfl ?_
            have m0 : M = 0 := by rw [← hM, if_neg (fun q => h52 (r2.mpr q))]
            rw [e2]
            rw [m0] at at61
            exact at61
          · intro h52
            refine s_ic rfl ?_
            refine s_go rfl ?_
            refine s_is3 rfl rfl ?_
            have m0 : M = 1 := by rw [← hM, if_pos (r2.mp h52)]
            rw [e2]
            rw [m0] at at61
            exact at61
        · intro h16
          omega
      | succ f ihf =>
        intro i e hi he
        have wk := wdK_f i (by omega)
        have nxt : ∀ x : Int, x = (if 28 ≤ kT s n ws k ∧ kT s n ws k < 28 + ((i + 1 : Nat) : Int) then kT s n ws k - 28 else -1) → V G l (d + 3) iX12_takeValue 35 [rf 210, (0, 4 - ((g + 1 : Nat) : Int)), (0, e), (0, ((16 + i : Nat) : Int))] [(0, x)] (K, D, z) P := by
          intro x hx
          refine s_is2 rfl rfl ?_
          refine s_iinc3 rfl rfl ⟨by omega, by omega⟩ ?_
          refine s_go rfl ?_
          exact ihf (i + 1) x (by omega) hx
        refine s_il3 rfl ?_
        refine s_ic rfl ?_
        refine s_cge rfl ?_ ?_
        · intro h16
          omega
        · intro h16
          refine s_al0 rfl ?_
          refine s_il3 rfl ?_
          refine s_callO rfl rfl (Or.inl rfl) rfl rfl (hk.at rfl rfl) (u_isWord (w := 16 + i) hk hH h8 h7 hkN (by omega) ?_)
          rw [wk]
          show V G l (d + 3) iX12_takeValue 24 [rf 210, (0, 4 - ((g + 1 : Nat) : Int)), (0, e), (0, ((16 + i : Nat) : Int))] [(0, if kT s n ws k = 28 + (i : Int) then 1 else 0)] (K, D, z) P
          generalize hcc : (if kT s n ws k = 28 + (i : Int) then (1 : Int) else 0) = cc
          refine s_zeq rfl ?_ ?_
          · intro h24
            have nq : ¬ kT s n ws k = 28 + (i : Int) := fun q => by rw [if_pos q] at hcc; omega
            refine s_il2 rfl ?_
            refine nxt _ ?_
            rw [he]
            by_cases q : 28 ≤ kT s n ws k ∧ kT s n ws k < 28 + (i : Int)
            · rw [if_pos q, if_pos ⟨q.1, by omega⟩]
            · rw [if_neg q, if_neg (fun y => q ⟨y.1, by omega⟩)]
          · intro h24
            have nq : kT s n ws k = 28 + (i : Int) := Decidable.byContradiction fun q => by rw [if_neg q] at hcc; omega
            refine s_il3 rfl ?_
            refine s_ic rfl ?_
            refine s_isub rfl ⟨by omega, by omega⟩ ?_
            refine s_go rfl ?_
            refine nxt _ ?_
            rw [if_pos ⟨by omega, by omega⟩]; omega
    refine VM_go (tg2 rfl) (Nat.le_of_ble_eq_true rfl) ?_
    refine s_al0 rfl ?_
    refine s_gi rfl (hk.at rfl rfl) rfl ?_
    rw [h8]
    refine s_zle rfl ?_ ?_
    · intro h4
      refine s_ic rfl ?_
      refine s_is2 rfl rfl ?_
      refine s_ic rfl ?_
      refine s_is3 rfl rfl ?_
      exact loop 5 0 (-1) (by omega) (by rw [if_neg (by omega)])
    · intro h4
      omega
theorem u_cond {s ws : Int → Int} {n N nx : Nat} (hk : Kn K) (hx2 : nx ≤ 1) (hN : kT s n ws N = 0) (hpl : ∀ k, 0 ≤ pT2 s n k) (hnu : ∀ k, kT s n ws k = 2 → 0 ≤ nT s n k ∧ nT s n k ≤ 999999) : LvM G l K z s ws n N nx iX12_all 23 15 0 (chE (kT s n ws) (vaE (kT s n ws) (nT s n) (pT2 s n) 4) 3) := by
  have ih := u_takeValue (G := G) (l := l) (z := z) hk hx2 hN hpl hnu 4 (by omega)
  have okv := va_ok (kd := kT s n ws) (nu := nT s n) (N := N) hN hpl 4
  have h1 := u_sums (z := z) hk hx2 (by omega) (by omega) okv ih
  have h2 := u_test (z := z) hk hx2 (by omega) (by omega) (ch_ok hN okv 1) h1
  exact u_all (z := z) hk hx2 (by omega) (by omega) (ch_ok hN okv 2) h2
end
