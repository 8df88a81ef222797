/-! ===== trials: trySplits ===== -/
def frT (T r : Nat) : Prop := r < 279 ∧ ¬ rkR T r ∧ (r < 111 ∨ 115 < r) ∧ (r < 117 ∨ 119 < r)
theorem frT_inR {T r : Nat} (hT : isT T) (h : inR T r) : frT T r := by
  have q := inR_T hT h
  have hT2 : T = 8 ∨ T = 129 := hT
  unfold inR at h
  exact ⟨q.1, q.2.1, q.2.2, by omega⟩
theorem inR_ne {T r : Nat} (hT : isT T) (h : inR T r ∨ r = 108 ∨ 279 ≤ r) : (r < 116 ∨ 128 < r) ∧ 7 < r := by
  have hT2 : T = 8 ∨ T = 129 := hT
  unfold inR at h
  omega
def TsD (D : Nat → Int → Int) (wo : Int → Int) (T nt : Nat) (cn : Nat → Nat) (cc : Nat → Nat → Int × Int) (v stm : Int) (D' : Nat → Int → Int) : Prop := (∀ r, frT T r → r ≠ 116 → D' r = D r) ∧ D' 116 = uF (D 116) 1 1 ∧ ∀ h : Nat, (h : Int) < D T 0 → D' 117 h = (wnF (wtX D wo T v stm) (fun i => buX D wo T nt cn cc v stm i h) (buX D wo T nt cn cc v stm (-1) h) (D 89 0).toNat).2
section
variable {G : aCX} {l : Launch} {d : Nat} {K : Nat → aKd} {D : Nat → Int → Int} {z : Nat × Nat} {P : Int → aSt → Prop}
theorem v_trySplits {s0 m T nt : Nat} {wo : Int → Int} {cn : Nat → Nat} {cc : Nat → Nat → Int × Int} {v stm : Int} (hC : CI s0 m T nt wo cn cc K D z) (kk : ∀ K' D' z' m', CI s0 m' T nt wo cn cc K' D' z' → TsD D wo T nt cn cc v stm D' → P 0 (K', D', z')) : VM G l (d + 5) iX10_trySplits [rf 116, rf T, (0, v), (0, stm)] (K, D, z) P := by
  have hW := hC.2.2.2
  have hT := hW.1
  have hT2 : T = 8 ∨ T = 129 := hT
  have h12 := hW.2.2.2.2.2.1.2.2.1
  have h00 := hW.2.2.2.2.2.1.2.1
  obtain ⟨nh, hnh⟩ : ∃ nh : Nat, D T 0 = nh := ⟨(D T 0).toNat, by omega⟩
  have nl60 : 0 ≤ D 89 0 ∧ D 89 0 ≤ 60 := ⟨hW.2.1.2.2.2.2.1, hW.2.1.2.2.2.2.2⟩
  obtain ⟨nl, hnl⟩ : ∃ nl : Nat, D 89 0 = nl := ⟨(D 89 0).toNat, by omega⟩
  have hnl2 : (D 89 0).toNat = nl := by omega
  have frK : ∀ {K1 D1 z1 m1} {D2 : Nat → Int → Int}, CI s0 m1 T nt wo cn cc K1 D1 z1 → (∀ r, (r < 116 ∨ 119 < r) → D2 r = D1 r) → CI s0 m1 T nt wo cn cc K1 D2 z1 := fun hc hr => CI_keep hc (fun r q => hr r (by have := inR_ne hT q; omega))
  have loop2 : ∀ (n i : Nat) (K1 : Nat → aKd) (D1 : Nat → Int → Int) (z1 : Nat × Nat) (m1 : Nat), i + n = nl → CI s0 m1 T nt wo cn cc K1 D1 z1 → (∀ r, frT T r → D1 r = D r) → (∀ q : Nat, q < nl → D1 119 q = if wtX D wo T v stm q = true then 1 else 0) → (∀ h : Nat, h < nh → D1 118 h = (wnF (wtX D wo T v stm) (fun i => buX D wo T nt cn cc v stm i h) (buX D wo T nt cn cc v stm (-1) h) i).1 ∧ D1 117 h = (wnF (wtX D wo T v stm) (fun i => buX D wo T nt cn cc v stm i h) (buX D wo T nt cn cc v stm (-1) h) i).2) → V G l (d + 5) iX10_trySplits 74 [rf 116, rf T, (0, v), (0, stm), (0, (nl : Int)), (0, (i : Int))] [] (K1, D1, z1) P := by
    intro n
    induction n with
    | zero =>
      intro i K1 D1 z1 m1 hi c1 f1 g1 g2
      have hi2 : i = nl := by omega
      subst hi2
      have hk1 := c1.1
      refine s_il5 rfl ?_
      refine s_il4 rfl ?_
      refine s_cge rfl ?_ ?_
      · intro h78
        refine s_al0 rfl ?_
        refine s_ic rfl ?_
        refine s_pz rfl (hk1.at rfl rfl) rfl (Or.inr rfl) ?_
        refine s_retv rfl rfl ?_
        refine kk _ _ _ m1 (frK c1 (fun r q => aUp_row (by omega))) ⟨fun r q1 q2 => by rw [aUp_row q2]; exact f1 r q1, ?_, fun h hh => ?_⟩
        · rw [aUp_same, f1 116 (by unfold frT rkR; omega)]
        · rw [aUp_row (by decide), hnl2]
          exact (g2 h (by omega)).2
      · intro h78
        omega
    | succ n ih =>
      intro i K1 D1 z1 m1 hi c1 f1 g1 g2
      have hk1 := c1.1
      have g1i := g1 i (by omega)
      have nx : ∀ (K2 : Nat → aKd) (D2 : Nat → Int → Int) (z2 : Nat × Nat) (m2 : Nat), CI s0 m2 T nt wo cn cc K2 D2 z2 → (∀ r, frT T r → D2 r = D r) → D2 119 = D1 119 → (∀ h : Nat, h < nh → D2 118 h = (wnF (wtX D wo T v stm) (fun i => buX D wo T nt cn cc v stm i h) (buX D wo T nt cn cc v stm (-1) h) (i + 1)).1 ∧ D2 117 h = (wnF (wtX D wo T v stm) (fun i => buX D wo T nt cn cc v stm i h) (buX D wo T nt cn cc v stm (-1) h) (i + 1)).2) → V G l (d + 5) iX10_trySplits 113 [rf 116, rf T, (0, v), (0, stm), (0, (nl : Int)), (0, (i : Int))] [] (K2, D2, z2) P := by
        intro K2 D2 z2 m2 c2 f2 a1 a2
        refine s_iinc5 rfl rfl ⟨by omega, by omega⟩ ?_
        refine s_go rfl ?_
        exact ih (i + 1) K2 D2 z2 m2 (by omega) c2 f2 (fun q hq => by rw [a1]; exact g1 q hq) a2
      refine s_il5 rfl ?_
      refine s_il4 rfl ?_
      refine s_cge rfl ?_ ?_
      · intro h78
        omega
      · intro h78
        refine s_al0 rfl ?_
        refine s_gf rfl (hk1.at rfl rfl) rfl rfl ?_
        refine s_il5 rfl ?_
        refine s_bald rfl (hk1.at rfl rfl) (by omega) ?_
        rw [g1i]
        refine s_zeq rfl ?_ ?_
        · intro h88
          have hw : ¬ wtX D wo T v stm i = true := fun x => by rw [if_pos x] at h88; omega
          refine nx K1 D1 z1 m1 c1 f1 rfl (fun h hh => ?_)
          rw [wnF, if_neg (fun x => hw x.1)]
          exact g2 h hh
        · intro h88
          have hw : wtX D wo T v stm i = true := Decidable.byContradiction fun x => by rw [if_neg x] at h88; omega
          refine s_al0 rfl ?_
          refine s_gf rfl (hk1.at rfl rfl) rfl rfl ?_
          refine s_al1 rfl ?_
          refine s_il2 rfl ?_
          refine s_il3 rfl ?_
          refine s_il5 rfl ?_
          refine s_callO rfl rfl (Or.inl rfl) rfl rfl (hk1.at rfl rfl) (v_reck (d := d) (v := v) (stm := stm) (ms := (i : Int)) c1 (fun K2 D2 z2 m2 c2 c3 R => ?_))
          show V G l (d + 5) iX10_trySplits 103 [rf 116, rf T, (0, v), (0, stm), (0, (nl : Int)), (0, (i : Int))] [] (K2, D2, z2) P
          have hk2 := c2.1
          have hi1 : ∀ r, inR T r → D1 r = D r := fun r q => f1 r (frT_inR hT q)
          have hi2 := RkX_inR hT R
          have eT : D2 T 0 = (nh : Int) := by rw [hi2 T (by unfold inR; omega), hi1 T (by unfold inR; omega)]; exact hnh
          have fr2 : ∀ r, frT T r ∨ (117 ≤ r ∧ r ≤ 119) → D2 r = D1 r := fun r q => R.1 r (by unfold frT at q; omega) (by unfold frT rkR at q; unfold rkR; omega) (by unfold frT at q; omega)
          refine s_al0 rfl ?_
          refine s_al1 rfl ?_
          refine s_gi rfl (KT hk2 hT) rfl ?_
          rw [eT]
          refine s_il5 rfl ?_
          refine s_callO rfl rfl (Or.inl rfl) rfl rfl (hk2.at rfl rfl) (v_keepBetter (d := d + 2) (v := v) (stm := stm) (ms := (i : Int)) (D0 := D1) hk2 c1.2.2.2 (RkX_ow R) (RkX_dr R) (by omega) (fun D3 a1 a2 => ?_))
          show V G l (d + 5) iX10_trySplits 113 [rf 116, rf T, (0, v), (0, stm), (0, (nl : Int)), (0, (i : Int))] [] (K2, D3, z2) P
          refine nx K2 D3 z2 m2 (frK c2 (fun r q => a1 r (by omega) (by omega))) (fun r q => ?_) ?_ (fun h hh => ?_)
          · rw [a1 r (by unfold frT at q; omega) (by unfold frT at q; omega), fr2 r (Or.inl q)]; exact f1 r q
          · rw [a1 119 (by decide) (by decide), fr2 119 (Or.inr (by omega))]
          · obtain ⟨b1, b2⟩ := a2 h hh
            rw [b1, b2, fr2 117 (Or.inr (by omega)), fr2 118 (Or.inr (by omega)), (g2 h hh).1, (g2 h hh).2, buX_congr hW hi1, wnF]
            split
            · rename_i y; rw [if_pos ⟨hw, y⟩]; exact ⟨rfl, rfl⟩
            · rename_i y; rw [if_neg (fun x => y x.2)]; exact ⟨rfl, rfl⟩
  have start : ∀ (K1 : Nat → aKd) (D1 : Nat → Int → Int) (z1 : Nat × Nat) (m1 : Nat), CI s0 m1 T nt wo cn cc K1 D1 z1 → RkX D wo T nt cn cc v stm (-1) D1 → V G l (d + 5) iX10_trySplits 11 [rf 116, rf T, (0, v), (0, stm), (9, 0), (9, 0)] [] (K1, D1, z1) P := by
    intro K1 D1 z1 m1 c1 R
    have hk1 := c1.1
    have hi1 := RkX_inR hT R
    have fr1 : ∀ r, frT T r ∨ (117 ≤ r ∧ r ≤ 119) → D1 r = D r := fun r q => R.1 r (by unfold frT at q; omega) (by unfold frT rkR at q; unfold rkR; omega) (by unfold frT at q; omega)
    have jo := RkX_join hW R
    have xi := (evX_facts (v := v) (stm := stm) (ms := -1) hW)
    have loop1 : ∀ (n i : Nat) (D2 : Nat → Int → Int), i + n = nh → (∀ r, r ≠ 117 → r ≠ 118 → D2 r = D1 r) → (∀ h : Nat, h < i → D2 118 h = buX D wo T nt cn cc v stm (-1) h ∧ D2 117 h = -1) → V G l (d + 5) iX10_trySplits 14 [rf 116, rf T, (0, v), (0, stm), (0, (i : Int)), (9, 0)] [] (K1, D2, z1) P := by
      intro n
      induction n with
      | zero =>
        intro i D2 hi a1 a2
        have hi2 : i = nh := by omega
        subst hi2
        have eT : D2 T 0 = (i : Int) := by rw [a1 T (by omega) (by omega), hi1 T (by unfold inR; omega)]; exact hnh
        have e89 : D2 89 0 = (nl : Int) := by rw [a1 89 (by omega) (by omega), hi1 89 (by unfold inR; omega)]; exact hnl
        refine s_il4 rfl ?_
        refine s_al1 rfl ?_
        refine s_gi rfl (KT hk1 hT) rfl ?_
        rw [eT]
        refine s_cge rfl ?_ ?_
        · intro h20
          refine s_al0 rfl ?_
          refine s_gf rfl (hk1.at rfl rfl) rfl rfl ?_
          refine s_gf rfl (hk1.at rfl rfl) rfl rfl ?_
          refine s_gi rfl (hk1.at rfl rfl) rfl ?_
          rw [e89]
          refine s_is4 rfl rfl ?_
          refine s_al0 rfl ?_
          refine s_il4 rfl ?_
          refine s_callO rfl rfl (Or.inl rfl) rfl rfl (hk1.at rfl rfl) (v_markWorthTrying (D := D2) hk1 (by omega) (fun q hq => ?_) (fun D3 b1 b2 => ?_))
          · rw [a1 112 (by decide) (by decide), jo q (by omega) (by omega)]
            have y := xi.1.2.1 q
            have y2 := xi.2.1
            omega
          show V G l (d + 5) iX10_trySplits 71 [rf 116, rf T, (0, v), (0, stm), (0, (nl : Int)), (9, 0)] [] (K1, D3, z1) P
          refine s_ic rfl ?_
          refine s_is5 rfl rfl ?_
          refine loop2 nl 0 K1 D3 z1 m1 (by omega) (frK c1 (fun r q => by rw [b1 r (by omega)]; exact a1 r (by omega) (by omega))) (fun r q => ?_) (fun q hq => ?_) (fun h hh => ?_)
          · rw [b1 r (by unfold frT at q; omega), a1 r (by unfold frT at q; omega) (by unfold frT at q; omega)]; exact fr1 r (Or.inl q)
          · rw [b2 q hq, a1 112 (by decide) (by decide), a1 113 (by decide) (by decide), jo q (by omega) (by omega)]
            unfold wtX
            have y := xi.1.2.1 q
            by_cases q1 : (evX D wo T v stm (-1)).2.2.1 q = -1
            · rw [if_neg (fun x => x.1 q1), if_neg (fun x => (of_decide_eq_true x).1 q1)]
            · have y3 := (R.2.2.2.1 ((evX D wo T v stm (-1)).2.2.1 q).toNat (by omega)).1
              rw [show ((((evX D wo T v stm (-1)).2.2.1 q).toNat : Nat) : Int) = (evX D wo T v stm (-1)).2.2.1 q by omega] at y3
              rw [y3]
              by_cases q2 : (evX D wo T v stm (-1)).2.1 ((evX D wo T v stm (-1)).2.2.1 q) = q
              · rw [if_neg (fun x => x.2 q2), if_neg (fun x => (of_decide_eq_true x).2 q2)]
              · rw [if_pos ⟨q1, q2⟩, if_pos (decide_eq_true ⟨q1, q2⟩)]
          · rw [b1 118 (by decide), b1 117 (by decide)]
            exact a2 h hh
        · intro h20
          omega
      | succ n ih =>
        intro i D2 hi a1 a2
        have eT : D2 T 0 = (nh : Int) := by rw [a1 T (by omega) (by omega), hi1 T (by unfold inR; omega)]; exact hnh
        have e2 : aUp D2 117 i (-1) 102 = D1 102 := by rw [aUp_row (by decide)]; exact a1 _ (by decide) (by decide)
        have e3 : aUp D2 117 i (-1) 103 = D1 103 := by rw [aUp_row (by decide)]; exact a1 _ (by decide) (by decide)
        refine s_il4 rfl ?_
        refine s_al1 rfl ?_
        refine s_gi rfl (KT hk1 hT) rfl ?_
        rw [eT]
        refine s_cge rfl ?_ ?_
        · intro h20
          omega
        · intro h20
          refine s_al0 rfl ?_
          refine s_gf rfl (hk1.at rfl rfl) rfl rfl ?_
          refine s_il4 rfl ?_
          refine s_ic rfl ?_
          refine s_iast rfl (hk1.at rfl rfl) (by omega) ?_
          refine s_al0 rfl ?_
          refine s_gf rfl (hk1.at rfl rfl) rfl rfl ?_
          refine s_il4 rfl ?_
          refine s_al0 rfl ?_
          refine s_gf rfl (hk1.at rfl rfl) rfl rfl ?_
          refine s_il4 rfl ?_
          refine s_callO rfl rfl (Or.inl rfl) rfl rfl (hk1.at rfl rfl) (v_bur (v := v) (stm := stm) (ms := -1) (D0 := D) hk1 hW (by rw [e2]; exact RkX_ow R) (by rw [e3]; exact RkX_dr R) (by omega) ?_)
          show V G l (d + 5) iX10_trySplits 46 [rf 116, rf T, (0, v), (0, stm), (0, (i : Int)), (9, 0)] [(0, buX D wo T nt cn cc v stm (-1) i), (0, (i : Int)), rf 118] (K1, aUp D2 117 i (-1), z1) P
          refine s_iast rfl (hk1.at rfl rfl) (by omega) ?_
          refine s_iinc4 rfl rfl ⟨by omega, by omega⟩ ?_
          refine s_go rfl ?_
          refine ih (i + 1) _ (by omega) (fun r q1 q2 => by rw [aUp_row q2, aUp_row q1]; exact a1 r q1 q2) (fun h hh => ?_)
          rw [aUp_same, aUp_row (by decide), aUp_row (by decide), aUp_same]
          rcases (by omega : h < i ∨ h = i) with y | y
          · rw [uF_ne (by omega), uF_ne (by omega)]; exact a2 h y
          · subst y; rw [uF_at, uF_at]; exact ⟨rfl, rfl⟩
    refine s_ic rfl ?_
    refine s_is4 rfl rfl ?_
    exact loop1 nh 0 D1 (by omega) (fun _ _ _ => rfl) (fun h hh => absurd hh (Nat.not_lt_zero h))
  have hk := hC.1
  refine VM_go (tg2 rfl) (Nat.le_of_ble_eq_true rfl) ?_
  refine s_al0 rfl ?_
  refine s_gf rfl (hk.at rfl rfl) rfl rfl ?_
  refine s_al1 rfl ?_
  refine s_il2 rfl ?_
  refine s_il3 rfl ?_
  refine s_ic rfl ?_
  refine s_callO rfl rfl (Or.inl rfl) rfl rfl (hk.at rfl rfl) (v_reck (d := d) (v := v) (stm := stm) (ms := -1) hC (fun K1 D1 z1 m1 c1 c2 R => ?_))
  exact start K1 D1 z1 m1 c1 R
end
