/-! ===== a draft: the class ===== -/
def qS0 : PS := ((0, fun _ => 0), (0, fun _ => 0), fun _ _ => 0, (fun _ => 0, fun _ => 168, fun _ => 999), fun _ => [])
theorem PsI_0 {kd nm : Nat → Int} {k : Nat} : PsI kd nm qS0 k := ⟨⟨by decide, by decide⟩, fun i hi => absurd hi (Nat.not_lt_zero i), fun i j _ hj => absurd hj (Nat.not_lt_zero j), fun i hi => absurd hi (Nat.not_lt_zero i), ⟨by decide, by decide, by decide, fun t ht => absurd ht (Nat.not_lt_zero t)⟩, fun t ht => absurd ht (Nat.not_lt_zero t), fun t ht => absurd ht (Nat.not_lt_zero t), ⟨Nat.zero_le k, Nat.zero_le k⟩, fun _ => Or.inl rfl⟩
section
variable {G : aCX} {l : Launch} {d : Nat} {K : Nat → aKd} {D : Nat → Int → Int} {z : Nat × Nat} {P : Int → aSt → Prop}
theorem v_clear {T : Nat} (hk : Kn K) (hT : isT T) (kk : ∀ D' : Nat → Int → Int, (∀ q, q ≠ T → q ≠ T + 4 → q ≠ T + 5 → q ≠ T + 6 → D' q = D q) → (D' T 0 = 0 ∧ D' T 1 = 0 ∧ D' T 9 = 0) → (∀ c : Int, 0 ≤ c → c < 8 → D' (T + 4) c = 168 ∧ D' (T + 5) c = 999 ∧ D' (T + 6) c = 0) → P 0 (K, D', z)) : VM G l (d + 1) iX8_clear [rf T] (K, D, z) P := by
  have hT2 : T = 8 ∨ T = 129 := hT
  have loop : ∀ (m i : Nat) (D1 : Nat → Int → Int), i + m = 8 → (∀ q, q ≠ T → q ≠ T + 4 → q ≠ T + 5 → q ≠ T + 6 → D1 q = D q) → (D1 T 0 = 0 ∧ D1 T 1 = 0 ∧ D1 T 9 = 0) → (∀ c : Int, 0 ≤ c → c < 8 → D1 (T + 4) c = 168 ∧ D1 (T + 5) c = 999) → (∀ c : Int, 0 ≤ c → c < i → D1 (T + 6) c = 0) → V G l (d + 1) iX8_clear 37 [rf T, (0, (i : Int))] [] (K, D1, z) P := by
    intro m
    induction m with
    | zero =>
      intro i D1 hm f1 f2 f3 f4
      refine s_il1 rfl ?_
      refine s_ic rfl ?_
      refine s_cge rfl ?_ ?_
      · intro h40
        refine s_retv rfl rfl ?_
        exact kk D1 f1 f2 (fun c c1 c2 => ⟨(f3 c c1 c2).1, (f3 c c1 c2).2, f4 c c1 (by omega)⟩)
      · intro h40
        omega
    | succ m ih =>
      intro i D1 hm f1 f2 f3 f4
      refine s_il1 rfl ?_
      refine s_ic rfl ?_
      refine s_cge rfl ?_ ?_
      · intro h40
        omega
      · intro h40
        refine s_al0 rfl ?_
        refine s_gf rfl (KT hk hT) rfl rfl ?_
        refine s_il1 rfl ?_
        refine s_ic rfl ?_
        refine s_bast rfl (hT.elim (fun h => by subst h; exact hk.at rfl rfl) (fun h => by subst h; exact hk.at rfl rfl)) (by omega) (Or.inl rfl) ?_
        refine s_iinc1 rfl rfl ⟨by omega, by omega⟩ ?_
        refine s_go rfl ?_
        refine ih (i + 1) _ (by omega) (fun q q1 q2 q3 q4 => by rw [aUp_row q4]; exact f1 q q1 q2 q3 q4) (by rw [aUp_row (by omega)]; exact f2) (fun c c1 c2 => by rw [aUp_row (by omega), aUp_row (by omega)]; exact f3 c c1 c2) (fun c c1 c2 => ?_)
        rw [aUp_same]
        by_cases q : c = i
        · rw [q, uF_at]
        · rw [uF_ne q]; exact f4 c c1 (by omega)
  refine VM_go (tg2 rfl) (Nat.le_of_ble_eq_true rfl) ?_
  refine s_al0 rfl ?_
  refine s_ic rfl ?_
  refine s_pi rfl (KT hk hT) rfl ?_
  refine s_al0 rfl ?_
  refine s_ic rfl ?_
  refine s_pi rfl (KT hk hT) rfl ?_
  refine s_al0 rfl ?_
  refine s_ic rfl ?_
  refine s_pi rfl (KT hk hT) rfl ?_
  refine s_al0 rfl ?_
  refine s_gf rfl (KT hk hT) rfl rfl ?_
  refine s_ic rfl ?_
  refine s_callS rfl rfl rfl rfl (v_fill (r := T + 4) (n := 8) (KTa hk hT).2.2.2.1 (by decide) ?_)
  show V G l (d + 1) iX8_clear 25 [rf T, (9, 0)] [] (K, _, z) P
  refine s_al0 rfl ?_
  refine s_gf rfl (KT hk hT) rfl rfl ?_
  refine s_ic rfl ?_
  refine s_callS rfl rfl rfl rfl (v_fill (r := T + 5) (n := 8) (KTa hk hT).2.2.2.2.1 (by decide) ?_)
  show V G l (d + 1) iX8_clear 35 [rf T, (9, 0)] [] (K, _, z) P
  refine s_ic rfl ?_
  refine s_is1 rfl rfl ?_
  refine loop 8 0 _ (by omega) (fun q q1 q2 q3 q4 => ?_) ?_ (fun c c1 c2 => ?_) (fun c c1 c2 => by omega)
  · rw [aFl_row q3, aFl_row q2, aUp_row q1, aUp_row q1, aUp_row q1]
  · rw [aFl_row (by omega), aFl_row (by omega)]
    refine ⟨?_, ?_, aUp_at⟩
    · rw [aUp_ne (by decide), aUp_ne (by decide), aUp_at]
    · rw [aUp_ne (by decide), aUp_at]
  · rw [aFl_row (r := T + 5) (q := T + 4) (by omega)]
    unfold aFl
    rw [if_pos ⟨rfl, c1, c2⟩, if_pos ⟨rfl, c1, c2⟩]
    exact ⟨rfl, rfl⟩
theorem v_readDraft {s ws : Int → Int} {n T N : Nat} (hg : SgR G l) (hk : Kn K) (hT : isT T) (hH : TpH s n ws D) (h53 : D 5 3 = (T : Nat)) (hN : kT s n ws N = 0) (hN15 : N ≤ 1500) (hnu : ∀ k, kT s n ws k = 2 → 0 ≤ nT s n k ∧ nT s n k ≤ 999999) (kk : ∀ D' : Nat → Int → Int, FrC T D D' → ((qDr (kT s n ws) (nT s n) (mT s n) (pT2 s n) 1500 0 qS0).1 = 0 → StC s n T (qDr (kT s n ws) (nT s n) (mT s n) (pT2 s n) 1500 0 qS0).2.2 D') → P (qDr (kT s n ws) (nT s n) (mT s n) (pT2 s n) 1500 0 qS0).1 (K, D', z)) : VM G l (d + 30) iX4_readDraft [rf 5] (K, D, z) P := by
  have hT2 : T = 8 ∨ T = 129 := hT
  have h15 := hH.2.2.2.1
  have hpl : ∀ k, 0 ≤ pT2 s n k := fun k => (pl_in (s := s) (n := n) (k := k) h15).1
  have h32 : ∀ k, kT s n ws k ≤ 32 := fun k => (kdF_in (s := s) (n := n) (ws := ws) (p := tpF s n k)).2
  generalize hR : qDr (kT s n ws) (nT s n) (mT s n) (pT2 s n) 1500 0 qS0 = R at kk
  have dead : ∀ (i : Nat) (D1 : Nat → Int → Int), i ≤ 1500 → FrC T D D1 → R.1 ≠ 0 → D1 5 4 = R.1 → V G l (d + 30) iX4_readDraft 23 [rf 5, (0, 0), (0, (i : Int))] [] (K, D1, z) P := by
    intro i D1 hi q1 q2 q3
    refine s_il2 rfl ?_
    refine s_ic rfl ?_
    refine s_cge rfl ?_ ?_
    · intro h27
      refine s_al0 rfl ?_
      refine s_gi rfl (hk.at rfl rfl) rfl ?_
      rw [q3]
      refine s_reti rfl rfl ?_
      exact kk D1 q1 (fun y => absurd y q2)
    · intro h27
      refine s_il1 rfl ?_
      refine s_zeq rfl ?_ ?_
      · intro h31
        refine s_al0 rfl ?_
        refine s_gi rfl (hk.at rfl rfl) rfl ?_
        rw [q3]
        refine s_reti rfl rfl ?_
        exact kk D1 q1 (fun y => absurd y q2)
      · intro h31
        exact absurd rfl h31
  have loop : ∀ (f i k : Nat) (S : PS) (D1 : Nat → Int → Int), i + f = 1500 → k ≤ N → FrC T D D1 → D1 5 4 = 0 → AtC s n ws k D1 → StC s n T S D1 → PsI (kT s n ws) (mT s n) S k → qDr (kT s n ws) (nT s n) (mT s n) (pT2 s n) f k S = R → V G l (d + 30) iX4_readDraft 23 [rf 5, (0, 1), (0, (i : Int))] [] (K, D1, z) P := by
    intro f
    induction f with
    | zero =>
      intro i k S D1 hif hkN fr e54 hA hS hI he
      have he : (0, k, S) = R := he
      refine s_il2 rfl ?_
      refine s_ic rfl ?_
      refine s_cge rfl ?_ ?_
      · intro h27
        refine s_al0 rfl ?_
        refine s_gi rfl (hk.at rfl rfl) rfl ?_
        rw [e54]
        refine s_reti rfl rfl ?_
        rw [← he] at kk; exact kk D1 fr (fun _ => hS)
      · intro h27
        omega
    | succ f ih =>
      intro i k S D1 hif hkN fr e54 hA hS hI he
      have e4 : D1 2 4 = kT s n ws k := hA.2.2.1
      have hH1 := FrC_TpH hT fr hH
      have h531 : D1 5 3 = (T : Nat) := by rw [fr.2.2 3 (by decide)]; exact h53
      rw [qDr] at he
      have nx : ∀ (w : Int) (D2 : Nat → Int → Int), kT s n ws k ≠ 0 → LiC s ws n T (qLi (kT s n ws) (nT s n) (mT s n) (pT2 s n) k S) D1 w D2 → V G l (d + 30) iX4_readDraft 120 [rf 5, (0, w), (0, (i : Int))] [] (K, D2, z) P := by
        intro w D2 h0 hL
        rw [if_neg h0] at he
        obtain ⟨x1, x2, x3⟩ := hL
        have lo := li_ok hpl hnu h32 hN hkN h0 hI
        refine s_iinc2 rfl rfl ⟨by omega, by omega⟩ ?_
        refine s_go rfl ?_
        by_cases y : (qLi (kT s n ws) (nT s n) (mT s n) (pT2 s n) k S).1 = 0
        · rw [if_pos y] at he
          obtain ⟨b1, b2, b3⟩ := x2 y
          obtain ⟨c1, c2, c3⟩ := lo.2 y
          subst b1
          exact ih (i + 1) _ _ D2 (by omega) c3 (FrC_trans fr x1) b2.2.2.2.2.2 b2 b3 c1 he
        · rw [if_neg y] at he
          obtain ⟨b1, b2⟩ := x3 y
          subst b1
          exact dead (i + 1) D2 (by omega) (FrC_trans fr x1) (by rw [← he]; exact y) (by rw [← he]; exact b2)
      refine s_il2 rfl ?_
      refine s_ic rfl ?_
      refine s_cge rfl ?_ ?_
      · intro h27
        omega
      · intro h27
        refine s_il1 rfl ?_
        refine s_zeq rfl ?_ ?_
        · intro h31
          exact absurd h31 (by decide)
        · intro h31
          refine s_al0 rfl ?_
          refine s_gf rfl (hk.at rfl rfl) rfl rfl ?_
          refine s_gi rfl (hk.at rfl rfl) rfl ?_
          rw [e4]
          refine s_zeq rfl ?_ ?_
          · intro h41
            rw [if_pos h41] at he
            refine s_al0 rfl ?_
            refine s_gi rfl (hk.at rfl rfl) rfl ?_
            rw [e54]
            refine s_reti rfl rfl ?_
            rw [← he] at kk; exact kk D1 fr (fun _ => hS)
          · intro h41
            refine s_al0 rfl ?_
            refine s_gf rfl (hk.at rfl rfl) rfl rfl ?_
            refine s_gi rfl (hk.at rfl rfl) rfl ?_
            rw [e4]
            refine s_sw rfl ?_
            refine And.intro (fun h51 => ?_) (fun h51n12 => ?_)
            · skip
              refine s_al0 rfl ?_
              refine s_callO rfl rfl (Or.inl rfl) rfl rfl (hk.at rfl rfl) (v_readHouse (N := N) (S := S) (k := k) hg hk hT hH1 hA h531 hI hS (fun w D2 hL => ?_))
              show V G l (d + 30) iX4_readDraft 84 [rf 5, (0, 1), (0, (i : Int))] [(0, w)] (K, D2, z) P
              refine s_is1 rfl rfl ?_
              refine s_go rfl ?_
              refine nx w D2 h41 ?_
              unfold qLi
              first
              | (rw [if_pos h51]; exact hL)
              | (rw [if_neg h51n12, if_pos h51]; exact hL)
              | (rw [if_neg h51n12, if_neg h51n13, if_pos h51]; exact hL)
              | (rw [if_neg h51n12, if_neg h51n13, if_neg h51n14, if_pos h51]; exact hL)
            refine And.intro (fun h51 => ?_) (fun h51n13 => ?_)
            · skip
              refine s_al0 rfl ?_
              refine s_callO rfl rfl (Or.inl rfl) rfl rfl (hk.at rfl rfl) (v_readEvent (S := S) (k := k) hg hk hT hH1 hA h531 hI hS (fun w D2 hL => ?_))
              show V G l (d + 30) iX4_readDraft 92 [rf 5, (0, 1), (0, (i : Int))] [(0, w)] (K, D2, z) P
              refine s_is1 rfl rfl ?_
              refine s_go rfl ?_
              refine nx w D2 h41 ?_
              unfold qLi
              first
              | (rw [if_pos h51]; exact hL)
              | (rw [if_neg h51n12, if_pos h51]; exact hL)
              | (rw [if_neg h51n12, if_neg h51n13, if_pos h51]; exact hL)
              | (rw [if_neg h51n12, if_neg h51n13, if_neg h51n14, if_pos h51]; exact hL)
            refine And.intro (fun h51 => ?_) (fun h51n14 => ?_)
            · skip
              refine s_al0 rfl ?_
              refine s_ic rfl ?_
              refine s_callO rfl rfl (Or.inl rfl) rfl rfl (hk.at rfl rfl) (v_readTreaty (N := N) (S := S) (k := k) (ly := 0) hg hk hT hH1 hA h531 hN hN15 (tk_nx (kd := kT s n ws) hN hkN h41) hnu (Or.inl rfl) hI hS (fun w D2 hL => ?_))
              show V G l (d + 30) iX4_readDraft 101 [rf 5, (0, 1), (0, (i : Int))] [(0, w)] (K, D2, z) P
              refine s_is1 rfl rfl ?_
              refine s_go rfl ?_
              refine nx w D2 h41 ?_
              unfold qLi
              first
              | (rw [if_pos h51]; exact hL)
              | (rw [if_neg h51n12, if_pos h51]; exact hL)
              | (rw [if_neg h51n12, if_neg h51n13, if_pos h51]; exact hL)
              | (rw [if_neg h51n12, if_neg h51n13, if_neg h51n14, if_pos h51]; exact hL)
            refine And.intro (fun h51 => ?_) (fun h51n15 => ?_)
            · skip
              refine s_al0 rfl ?_
              refine s_ic rfl ?_
              refine s_callO rfl rfl (Or.inl rfl) rfl rfl (hk.at rfl rfl) (v_readTreaty (N := N) (S := S) (k := k) (ly := 1) hg hk hT hH1 hA h531 hN hN15 (tk_nx (kd := kT s n ws) hN hkN h41) hnu (Or.inr rfl) hI hS (fun w D2 hL => ?_))
              show V G l (d + 30) iX4_readDraft 110 [rf 5, (0, 1), (0, (i : Int))] [(0, w)] (K, D2, z) P
              refine s_is1 rfl rfl ?_
              refine s_go rfl ?_
              refine nx w D2 h41 ?_
              unfold qLi
              first
              | (rw [if_pos h51]; exact hL)
              | (rw [if_neg h51n12, if_pos h51]; exact hL)
              | (rw [if_neg h51n12, if_neg h51n13, if_pos h51]; exact hL)
              | (rw [if_neg h51n12, if_neg h51n13, if_neg h51n14, if_pos h51]; exact hL)
            refine s_al0 rfl ?_
            refine s_ic rfl ?_
            refine s_callO rfl rfl (Or.inl rfl) rfl rfl (hk.at rfl rfl) (v_fail (c := 1) hk hH1 hA (by decide) ?_)
            show V G l (d + 30) iX4_readDraft 119 [rf 5, (0, 1), (0, (i : Int))] [(0, 0)] (K, _, z) P
            refine s_is1 rfl rfl ?_
            refine nx 0 _ h41 ?_
            have e : qLi (kT s n ws) (nT s n) (mT s n) (pT2 s n) k S = (1 + 16 * pT2 s n k, k, S) := by unfold qLi; rw [if_neg h51n12, if_neg h51n13, if_neg h51n14, if_neg h51n15]
            rw [e]
            exact ⟨FrC_0 Fr0_fault, (fun q => by have q : 1 + 16 * pT2 s n k = 0 := q; have := hpl k; omega), fun _ => ⟨rfl, aUp_at⟩⟩
  refine VM_go (tg2 rfl) (Nat.le_of_ble_eq_true rfl) ?_
  refine s_al0 rfl ?_
  refine s_gr rfl (hk.at rfl rfl) rfl ?_
  rw [h53]
  refine s_callO rfl rfl (Or.inl rfl) rfl rfl (KT hk hT) (v_clear hk hT (fun D1 g1 g2 g3 => ?_))
  have f1 : FrC T D D1 := ⟨fun q q1 q2 q3 q4 q5 => g1 q (by omega) (by omega) (by omega) (by omega), by rw [g1 2 (by omega) (by omega) (by omega) (by omega)], fun j _ => by rw [g1 5 (by omega) (by omega) (by omega) (by omega)]⟩
  show V G l (d + 30) iX4_readDraft 7 [rf 5, (9, 0), (9, 0)] [] (K, D1, z) P
  refine s_al0 rfl ?_
  refine s_ic rfl ?_
  refine s_pi rfl (hk.at rfl rfl) rfl ?_
  refine s_al0 rfl ?_
  refine s_gf rfl (hk.at rfl rfl) rfl rfl ?_
  refine s_callO rfl rfl (Or.inl rfl) rfl rfl (hk.at rfl rfl) (v_startReading (s := s) (ws := ws) (n := n) hg hk (FrC_TpH hT (FrC_trans f1 (FrC_0 Fr0_fault)) hH) aUp_at (fun D2 w1 w2 w3 => ?_))
  have f2 : FrC T D D2 := FrC_trans (FrC_trans f1 (FrC_0 Fr0_fault)) (FrC_0 (Fr0_tape w1 w2))
  have eT : ∀ q, q ≠ 2 → q ≠ 5 → D2 q = D1 q := fun q q1 q2 => by rw [w1 q q1, aUp_row q2]
  show V G l (d + 30) iX4_readDraft 19 [rf 5, (9, 0), (9, 0)] [] (K, D2, z) P
  refine s_ic rfl ?_
  refine s_is1 rfl rfl ?_
  refine s_ic rfl ?_
  refine s_is2 rfl rfl ?_
  refine loop 1500 0 0 qS0 D2 (by omega) (by omega) f2 (by rw [w1 5 (by decide), aUp_at]) w3 ⟨⟨by rw [eT T (by omega) (by omega)]; exact g2.1, by rw [eT T (by omega) (by omega)]; exact g2.2.1⟩, fun i hi => absurd hi (Nat.not_lt_zero i), fun i hi => absurd hi (Nat.not_lt_zero i), fun i hi => absurd hi (Nat.not_lt_zero i), fun i hi => absurd hi (Nat.not_lt_zero i), by rw [eT T (by omega) (by omega)]; exact g2.2.2, fun c c1 c2 => ?_⟩ PsI_0 hR
  rw [eT _ (by omega) (by omega), eT _ (by omega) (by omega), eT _ (by omega) (by omega)]
  obtain ⟨b1, b2, b3⟩ := g3 c c1 c2
  exact ⟨b3, b1, b2⟩
end
