abbrev QX (D : Nat → Int → Int) (wo : Int → Int) (v : Int) (E : ES) (e : Nat) : EvQ := (fun h => dF (D 90) (amC D wo v) (D 89 0).toNat E.2.2.1 e h, D 93 (E.2.1 e), D 91 (E.2.1 e) / 24, E.2.2.2 e)
theorem cuF_congr {W W' : WdQ} {cs cs' : Nat → Int} {a b : Int} {n : Nat} (h1 : ∀ t, t < n → W'.w t = W.w t ∧ W'.cm t = W.cm t ∧ cs' t = cs t) : cuF W' cs' a b n = cuF W cs a b n := by
  unfold cuF
  refine sumF_congr fun t ht => ?_
  obtain ⟨q1, q2, q3⟩ := h1 t ht
  rw [q2, q3, q1, cuT_congr q1]
def RkP (D : Nat → Int → Int) (T nt : Nat) (W : WdQ) (Q : Nat → EvQ) (E : ES) (c : Nat) (D' : Nat → Int → Int) : Prop := (∀ r, r < 279 → ¬ rkR T r → (r < 111 ∨ 115 < r) → D' r = D r) ∧ (D' 111 1 = E.1 ∧ D' 111 2 = c) ∧ (∀ j : Nat, j < (D 89 0).toNat → D' 112 (D 96 j) = E.2.2.1 (D 96 j)) ∧ (∀ e : Nat, e < E.1 → D' 113 e = E.2.1 e ∧ D' 114 e = E.2.2.2 e) ∧ (∀ e : Nat, e < E.1 → SlA W Q E nt e D') ∧ (∀ t : Nat, t < nt → D' 109 t = (acP W Q E.1).1 t) ∧ (∀ h : Nat, h < 12 → D' 103 h = sumF (fun i => (Q i).d h) E.1) ∧ ∀ a b : Int, 0 ≤ a → a < 12 → 0 ≤ b → b < 12 → D' 102 (a * 12 + b) = owP W Q E.1 a b + cuF W (fun t => D (T + 9 + 3 * t) 14) a b nt
section
variable {G : aCX} {l : Launch} {d : Nat} {K : Nat → aKd} {D : Nat → Int → Int} {z : Nat × Nat} {P : Int → aSt → Prop}
theorem v_reckon {T nt s0 m : Nat} {v stm ms : Int} {wo : Int → Int} {cn : Nat → Nat} {cc : Nat → Nat → Int × Int} (hk : Kn K) (hT : isT T) (hS : SlI s0 m K D z) (hV : SlV D T nt m) (hcr : ChR D wo) (hbk : BkB D) (hor : OrdC D) (hn : D T 1 = nt) (hw : wOk (wC D T) nt (D T 0)) (hch : ChT D T nt (D T 0)) (hB : WcB D T nt) (hc : CoC D T nt cn cc) (hs : ∀ t : Nat, t < nt → 0 ≤ D (T + 9 + 3 * t) 14 ∧ D (T + 9 + 3 * t) 14 ≤ 999999)
    (kk : ∀ K' D' z' m', Kn K' → SlI s0 m' K' D' z' → (evC D T ms (xsC D wo T v stm (D 89 0).toNat)).1 ≤ m' → m ≤ m' → SlV D' T nt m' → RkP D T nt (WqC D T nt v cn cc) (QX D wo v (evC D T ms (xsC D wo T v stm (D 89 0).toNat))) (evC D T ms (xsC D wo T v stm (D 89 0).toNat)) (xsC D wo T v stm (D 89 0).toNat).length D' → P 0 (K', D', z')) : VM G l (d + 4) iX5_reckon [rf 101, rf T, (0, v), (0, stm), (0, ms)] (K, D, z) P := by
  have hT2 : T = 8 ∨ T = 129 := hT
  have n24 := hw.1
  have h12 := hw.2.2.1
  have nl60 : 0 ≤ D 89 0 ∧ D 89 0 ≤ 60 := ⟨hcr.2.2.2.2.1, hcr.2.2.2.2.2⟩
  have main : ∀ Dg : Nat → Int → Int, GaM D wo v (D 89 0).toNat (evC D T ms (xsC D wo T v stm (D 89 0).toNat)) (xsC D wo T v stm (D 89 0).toNat).length Dg → V G l (d + 4) iX5_reckon 12 [rf 101, rf T, (0, v), (0, stm), (0, ms), (9, 0), (9, 0)] [] (K, Dg, z) P := by
    intro Dg hG
    have xn := xsC_nodup (wo := wo) (T := T) (v := v) (stm := stm) (i := (D 89 0).toNat) hor (by omega)
    have x3 : evInv (xsC D wo T v stm (D 89 0).toNat) (evC D T ms (xsC D wo T v stm (D 89 0).toNat)) := EV_inv xn
    have xm : ∀ q, q ∈ (xsC D wo T v stm (D 89 0).toNat) → (0 ≤ q ∧ q < D 89 0) ∧ cntC D wo T v stm q = true := fun q hq => by
      obtain ⟨⟨j, j1, j2⟩, c⟩ := xsC_mem.mp hq
      have := hor.2.1 j (by omega)
      rw [j2] at this
      exact ⟨this, c⟩
    have hE60 : (evC D T ms (xsC D wo T v stm (D 89 0).toNat)).1 ≤ 60 := by
      have q1 := x3.1
      have q2 : (xsC D wo T v stm (D 89 0).toNat).length ≤ (D 89 0).toNat := xsC_len
      omega
    obtain ⟨g1, g2, g3, g4, g5⟩ := hG
    generalize hXl : (xsC D wo T v stm (D 89 0).toNat).length = xl at *
    generalize hEE : (evC D T ms (xsC D wo T v stm (D 89 0).toNat)) = E at *
    have cnt : ∀ q, cntC D wo T v stm q = true → 0 < amC D wo v q ∧ D 90 q < D T 0 := fun q h => by
      have := of_decide_eq_true h
      exact ⟨this.1, this.2.1⟩
    have hQ : ∀ i, i < E.1 → EqB (QX D wo v E i) := fun i hi h q1 q2 => dF_in (by omega) (fun k hk hj => by
      have hm : (k : Int) ∈ (xsC D wo T v stm (D 89 0).toNat) := Decidable.byContradiction fun q => by rw [x3.2.2.1 k q] at hj; omega
      have := (cnt _ (xm _ hm).2).1
      have := (amF_in (wo := wo) (wd := D 98) (l := k) (day := v) (m := 100000) hbk.2 (by decide)).2
      exact ⟨by omega, this⟩)
    have hd0 : ∀ (e h : Nat), e < E.1 → D T 0 ≤ h → dF (D 90) (amC D wo v) (D 89 0).toNat E.2.2.1 e h = 0 := fun e h he hq => by
      unfold dF
      rw [sumF_congr (g := fun _ => 0) (fun k hk => ?_), sumF_zero]
      rw [if_neg (fun x => ?_)]
      have hm : (k : Int) ∈ (xsC D wo T v stm (D 89 0).toNat) := Decidable.byContradiction fun q => by have := x3.2.2.1 k q; omega
      have := (cnt _ (xm _ hm).2).2
      omega
    have ewg : ∀ t, t < nt → wC Dg T t = wC D T t := wC_congr n24 (fun r q1 q2 => g1 r (by omega))
    have rtg : ∀ t, t < 24 → Dg (T + 9 + 3 * t) = D (T + 9 + 3 * t) := fun t ht => g1 _ (by omega)
    have eTg : Dg T = D T := g1 _ (by omega)
    have hWq : WqB (WqC D T nt v cn cc) (D T 0) := ⟨hw, hB⟩
    have loop : ∀ (n e : Nat) (K1 : Nat → aKd) (D1 : Nat → Int → Int) (z1 : Nat × Nat) (m1 : Nat) (u6 : aTV), e + n = E.1 → Kn K1 → SlI s0 m1 K1 D1 z1 → e ≤ m1 → m ≤ m1 → SlV D1 T nt m1 → LoR T nt (WqC D T nt v cn cc) (QX D wo v E) E e Dg D1 → V G l (d + 4) iX5_reckon 47 [rf 101, rf T, (0, v), (0, stm), (0, ms), (0, (e : Int)), u6] [] (K1, D1, z1) P := by
      intro n
      induction n with
      | zero =>
        intro e K1 D1 z1 m1 u6 hen hk1 hS1 hem hmm hV1 hL
        have he : e = E.1 := by omega
        subst he
        obtain ⟨l1, l2, l3, l4, l5⟩ := hL
        have l1' : ∀ r, r < 279 → r ≠ 102 → r ≠ 103 → (r < 105 ∨ 110 < r) → r ≠ T + 8 → D1 r = Dg r := fun r q1 q2 q3 q4 q5 => l1 r q1 (by unfold rkR; omega)
        have r11 : D1 111 1 = E.1 := by rw [l1' _ (by omega) (by omega) (by omega) (by omega) (by omega)]; exact g2
        have ew1 : ∀ t, t < nt → wC D1 T t = wC D T t := fun t ht => by rw [wC_congr n24 (fun r q1 q2 => l1' r (by omega) (by omega) (by omega) (by omega) (by omega)) t ht, ewg t ht]
        have rt1 : ∀ t, t < 24 → D1 (T + 9 + 3 * t) = D (T + 9 + 3 * t) := fun t ht => by rw [l1' _ (by omega) (by omega) (by omega) (by omega) (by omega), rtg t ht]
        have ecu : ∀ a b, cuF (WqC D1 T nt v cn cc) (fun t => D1 (T + 9 + 3 * t) 14) a b nt = cuF (WqC D T nt v cn cc) (fun t => D (T + 9 + 3 * t) 14) a b nt := fun a b => cuF_congr fun t ht => by
          refine ⟨ew1 t ht, ?_, by rw [rt1 t (by omega)]⟩
          show decide (D1 (T + 9 + 3 * t) 13 ≠ -1 ∧ D1 (T + 9 + 3 * t) 13 ≤ v) = _
          rw [rt1 t (by omega)]
        refine s_il5 rfl ?_
        refine s_al0 rfl ?_
        refine s_gf rfl (hk1.at rfl rfl) rfl rfl ?_
        refine s_gi rfl (hk1.at rfl rfl) rfl ?_
        rw [r11]
        refine s_cge rfl ?_ ?_
        · intro h56
          refine s_al0 rfl ?_
          refine s_al1 rfl ?_
          refine s_il2 rfl ?_
          refine s_callO rfl rfl (Or.inl rfl) rfl rfl (hk1.at rfl rfl) (v_addCommuted (D := D1) (nt := nt) (nh := D T 0) (cn := cn) (cc := cc) hk1 hT (wOk_congr hw ew1) (by rw [l1' T (by omega) (by omega) (by omega) (by omega) (by omega), eTg]; exact hn) (fun t ht => by rw [rt1 t (by omega)]; exact hs t ht) (fun a b a1 a2 b1 b2 => ?_) (fun D' f1 f2 => ?_))
          · rw [l5 a b a1 a2 b1 b2, ecu]
            have z0 := owP_int (Q := QX D wo v E) (a := a) (b := b) (e := E.1) hWq ⟨b1, b2⟩ hE60 hQ
            have q : ∀ s, s < nt → (if (WqC D T nt v cn cc).cm s = true then cuT (wC D T) s (D (T + 9 + 3 * s) 14) a b (wC D T s 7).toNat else 0) ≤ 11 * 999999 := fun s hs' => by
              have h7 := (hw.2.2.2 s hs').2.2.2.2.1
              have := cuT_in (t := s) (a := a) (b := b) (n := (wC D T s 7).toNat) hw hs' (hs s hs') (by omega)
              split <;> omega
            have q2 := sumF_le (n := nt) (fun s hs => q s hs)
            have q3 : cuF (WqC D T nt v cn cc) (fun t => D (T + 9 + 3 * t) 14) a b nt ≤ 24 * (11 * 999999) := Int.le_trans q2 (Int.mul_le_mul_of_nonneg_right (show (nt : Int) ≤ 24 by omega) (by decide))
            omega
          refine s_retv rfl rfl ?_
          have fS : SlI s0 m1 K1 D' z1 := by unfold SlI at hS1 ⊢; rw [f1 108 (by omega)]; exact hS1
          have ew2 : ∀ t, t < nt → wC D' T t = wC D1 T t := wC_congr n24 (fun r q1 q2 => f1 r (by omega))
          refine kk K1 D' z1 m1 hk1 fS hem hmm (fun i hi => ?_) ⟨fun r q1 q2 q3 => ?_, ⟨?_, ?_⟩, fun j hj => ?_, fun e he => ?_, fun e he => SlA_keep (l2 e he) (fun r q1 q2 => f1 r (by omega)), fun t ht => ?_, fun h hh => ?_, fun a b a1 a2 b1 b2 => ?_⟩
          · obtain ⟨v1, v2⟩ := hV1 i hi
            rw [f1 (279 + 10 * i) (by omega)]
            exact ⟨v1, fun x => CtD_keep (nh := D T 0) (v2 x) (wOk_congr hw ew1) ew2 (fun r q1 q2 => f1 r (by omega))⟩
          · have : r ≠ 102 := fun x => q2 (by unfold rkR; omega)
            rw [f1 r this, l1 r q1 q2, g1 r q3]
          · rw [f1 _ (by omega)]; exact r11
          · rw [f1 _ (by omega), l1' _ (by omega) (by omega) (by omega) (by omega) (by omega)]; exact g3
          · rw [f1 _ (by omega), l1' _ (by omega) (by omega) (by omega) (by omega) (by omega)]; exact g4 j hj
          · rw [f1 _ (by omega), l1' _ (by omega) (by omega) (by omega) (by omega) (by omega), f1 _ (by omega), l1' _ (by omega) (by omega) (by omega) (by omega) (by omega)]; exact ⟨(g5 e he).1, (g5 e he).2.1⟩
          · rw [f1 _ (by omega)]; exact (l3 t ht).1
          · rw [f1 _ (by omega)]; exact l4 h hh
          · rw [f2 a b a1 a2 b1 b2, l5 a b a1 a2 b1 b2, ecu]
        · intro h56
          omega
      | succ n ih =>
        intro e K1 D1 z1 m1 u6 hen hk1 hS1 hem hmm hV1 hL
        have he : e < E.1 := by omega
        have r11 : D1 111 1 = E.1 := by rw [hL.1 111 (by omega) (by unfold rkR; omega)]; exact g2
        obtain ⟨p1, p2, p3⟩ := g5 e he
        have hfx := xm _ (x3.2.2.2.2.1 e he).1
        have r91 : Dg 91 = D 91 := g1 _ (by omega)
        have r93 : Dg 93 = D 93 := g1 _ (by omega)
        have hbb := hbk.1 (E.2.1 e) hfx.1.1 hfx.1.2
        refine s_il5 rfl ?_
        refine s_al0 rfl ?_
        refine s_gf rfl (hk1.at rfl rfl) rfl rfl ?_
        refine s_gi rfl (hk1.at rfl rfl) rfl ?_
        rw [r11]
        refine s_cge rfl ?_ ?_
        · intro h56
          omega
        · intro h56
          refine v_eventAt (Dg := Dg) (E := E) (W := WqC D T nt v cn cc) (Q := QX D wo v E) (cn := cn) (cc := cc) (m := m1) hk1 hT (by omega) hem hS1 hV1 (fun t ht => (ewg t ht).symm) rfl (fun t ht => by rw [rtg t (by omega)]) ⟨rfl, rfl⟩ (by rw [eTg]; exact hn) (by rw [eTg]; exact wOk_congr hw ewg) ?_ (fun t ht => by rw [ewg t ht]; exact hB t ht) ?_ (fun i hi => hQ i (by omega)) (fun h q1 q2 => (p3 h q1 q2).symm) (by rw [p1, p2, r91, r93]; exact ⟨rfl, rfl, rfl⟩) ⟨p1, p2⟩ (by rw [p1]; omega) (by rw [p1, r91]; exact hbb.2.1) (fun h hh hq => ?_) hL (fun K4 D4 z4 m4 hk4 hS4 he4 hm4 hV4 hL4 => ?_)
          · rw [eTg]
            refine ⟨fun h q1 q2 => ?_, fun t ht => ?_⟩
            · rw [g1 (T + 2) (by omega), hch.1 h q1 q2]
              exact (nxT_congr nt 0 (fun s hs => ewg s (by omega))).symm
            · rw [rtg t (by omega), hch.2 t ht, ewg t ht]
              exact (nxT_congr (nt - (t + 1)) (t + 1) (fun s hs => ewg s (by omega))).symm
          · intro t ht
            rw [rtg t (by omega), g1 (T + 7) (by omega)]
            exact hc t ht
          · rw [eTg] at hq
            rw [p3 h (by omega) (by omega)]
            exact hd0 e h he hq
          refine s_iinc5 rfl rfl ⟨by omega, by omega⟩ ?_
          refine s_go rfl ?_
          exact ih (e + 1) K4 D4 z4 m4 _ (by omega) hk4 hS4 (by omega) (by omega) hV4 hL4
    have k02 : K 102 = (14, 144, []) := hk.at rfl rfl
    have k03 : K 103 = (14, 12, []) := hk.at rfl rfl
    have k09 : K 109 = (14, 24, []) := hk.at rfl rfl
    have k10 : K 110 = (14, 24, []) := hk.at rfl rfl
    refine s_al0 rfl ?_
    refine s_gf rfl (hk.at rfl rfl) rfl rfl ?_
    refine s_ic rfl ?_
    refine s_callS rfl rfl rfl rfl (v_fill k02 (by decide) ?_)
    show V G l (d + 4) iX5_reckon 20 [rf 101, rf T, (0, v), (0, stm), (0, ms), (9, 0), (9, 0)] [] (K, aFl Dg 102 144 0, z) P
    refine s_al0 rfl ?_
    refine s_gf rfl (hk.at rfl rfl) rfl rfl ?_
    refine s_ic rfl ?_
    refine s_callS rfl rfl rfl rfl (v_fill k03 (by decide) ?_)
    show V G l (d + 4) iX5_reckon 28 [rf 101, rf T, (0, v), (0, stm), (0, ms), (9, 0), (9, 0)] [] (K, aFl (aFl Dg 102 144 0) 103 12 0, z) P
    refine s_al0 rfl ?_
    refine s_gf rfl (hk.at rfl rfl) rfl rfl ?_
    refine s_ic rfl ?_
    refine s_callS rfl rfl rfl rfl (v_fill k09 (by decide) ?_)
    show V G l (d + 4) iX5_reckon 36 [rf 101, rf T, (0, v), (0, stm), (0, ms), (9, 0), (9, 0)] [] (K, aFl (aFl (aFl Dg 102 144 0) 103 12 0) 109 24 0, z) P
    refine s_al0 rfl ?_
    refine s_gf rfl (hk.at rfl rfl) rfl rfl ?_
    refine s_ic rfl ?_
    refine s_callS rfl rfl rfl rfl (v_fill k10 (by decide) ?_)
    show V G l (d + 4) iX5_reckon 44 [rf 101, rf T, (0, v), (0, stm), (0, ms), (9, 0), (9, 0)] [] (K, aFl (aFl (aFl (aFl Dg 102 144 0) 103 12 0) 109 24 0) 110 24 0, z) P
    refine s_ic rfl ?_
    refine s_is5 rfl rfl ?_
    generalize hD1 : aFl (aFl (aFl (aFl Dg 102 144 0) 103 12 0) 109 24 0) 110 24 0 = D1
    have r1 : ∀ r, r ≠ 102 → r ≠ 103 → r ≠ 109 → r ≠ 110 → D1 r = Dg r := fun r q1 q2 q3 q4 => by rw [← hD1, aFl_row q4, aFl_row q3, aFl_row q2, aFl_row q1]
    have ew1 : ∀ t, t < nt → wC D1 T t = wC D T t := fun t ht => by rw [wC_congr n24 (fun r q1 q2 => r1 r (by omega) (by omega) (by omega) (by omega)) t ht, ewg t ht]
    refine loop E.1 0 K D1 z m _ (by omega) hk ?_ (by omega) (Nat.le_refl _) (fun i hi => ?_) ⟨fun r q1 q2 => ?_, fun i hi => absurd hi (Nat.not_lt_zero i), fun t ht => ⟨?_, ?_⟩, fun h hh => ?_, fun a b a1 a2 b1 b2 => ?_⟩
    · unfold SlI at hS ⊢; rw [r1 108 (by omega) (by omega) (by omega) (by omega), g1 108 (by omega)]; exact hS
    · obtain ⟨v1, v2⟩ := hV i hi
      have e0 : ∀ r, 279 ≤ r → D1 r = D r := fun r hr => by rw [r1 r (by omega) (by omega) (by omega) (by omega), g1 r (by omega)]
      rw [e0 _ (by omega)]
      exact ⟨v1, fun x => CtD_keep (nh := D T 0) (v2 x) hw ew1 (fun r q1 q2 => e0 r (by omega))⟩
    · unfold rkR at q2; exact r1 r (by omega) (by omega) (by omega) (by omega)
    · rw [← hD1, aFl_row (by omega), aFl_at (by omega)]; rfl
    · rw [← hD1, aFl_at (by omega)]; rfl
    · rw [← hD1, aFl_row (by omega), aFl_row (by omega), aFl_at (by omega)]; rfl
    · rw [← hD1, aFl_row (by omega), aFl_row (by omega), aFl_row (by omega), aFl_at (by omega)]; rfl
  refine VM_go (tg2 rfl) (Nat.le_of_ble_eq_true rfl) ?_
  refine s_al0 rfl ?_
  refine s_gf rfl (hk.at rfl rfl) rfl rfl ?_
  refine s_al1 rfl ?_
  refine s_il2 rfl ?_
  refine s_il3 rfl ?_
  refine s_il4 rfl ?_
  refine s_callO rfl rfl (Or.inl rfl) rfl rfl (hk.at rfl rfl) (v_gather (d := d + 2) hk hT hcr hbk hor (fun Dg hG => ?_))
  exact main Dg hG
end
