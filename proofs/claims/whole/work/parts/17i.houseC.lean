/-! ===== lines of a wording: the class ===== -/
theorem kd_run {s ws : Int → Int} {n p : Nat} (h : kdF s n ws p = 3 ∨ 12 ≤ kdF s n ws p) : p < n ∧ runE isL s n p - p ≤ 8 ∧ ∀ k, k < runE isL s n p - p → isL (s ((p + k : Nat) : Int)) = true := by
  unfold kdF at h
  split at h
  · omega
  rename_i hp
  split at h
  · split at h
    · omega
    · rename_i h8
      have sp := runE_sp (p := isL) (s := s) (n := n) (n - p) p (by omega)
      exact ⟨by omega, by omega, fun k hk => sp.2.1 (p + k) (by omega) (by omega)⟩
  split at h
  · split at h <;> omega
  · have := sgF_in (s p); omega
theorem nm_eq {s ws : Int → Int} {n a b : Nat} (ha : kT s n ws a = 3) (hb : kT s n ws b = 3) : lT3 s n a = lT3 s n b ↔ mT s n a = mT s n b := pkF_two (by decide) (by decide) (kd_run (ws := ws) (Or.inl ha)).2.2 (kd_run (ws := ws) (Or.inl hb)).2.2
theorem ix_eq {s ws : Int → Int} {n k m : Nat} {f : Int → Int} {hn : Nat → Nat} (hk : kT s n ws k = 3) (h3 : ∀ i, i < m → kT s n ws (hn i) = 3) (hf : ∀ i : Nat, i < m → f i = lT3 s n (hn i)) : ixF f (lT3 s n k) m = qIx (mT s n) m hn k := by
  refine ixF_congr fun i hi => ?_
  rw [hf i hi]
  exact nm_eq (h3 i hi) hk
def LsI (w : WT) (nt : Nat) (h x : Int) : Prop := (x = -1 ∧ ∀ t, t < nt → w t 0 ≠ h) ∨ ∃ a : Nat, a < nt ∧ x = a ∧ w a 0 = h ∧ ∀ t, a < t → t < nt → w t 0 ≠ h
def TrR (T : Nat) (S : PS) (D : Nat → Int → Int) (t : Nat) : Prop := (∀ j : Int, 0 ≤ j → j < 8 → D (T + 9 + 3 * t) j = S.w t j) ∧ (∀ i : Nat, (i : Int) < S.w t 7 → D (T + 10 + 3 * t) i = S.w t (100 + i) ∧ D (T + 11 + 3 * t) i = S.w t (200 + i)) ∧ (D (T + 9 + 3 * t) 13 = -1 ∧ D (T + 9 + 3 * t) 14 = 0) ∧ D (T + 9 + 3 * t) 10 = cTo S.cl t ∧ D (T + 9 + 3 * t) 11 = cTo S.cl t + (S.cl t).length ∧ EncL (D (T + 7)) (cTo S.cl t) (S.cl t) ∧ D (T + 9 + 3 * t) 12 = nxT S.w (S.w t 0) (S.nt - (t + 1)) (t + 1)
def StC (s : Int → Int) (n T : Nat) (S : PS) (D : Nat → Int → Int) : Prop := (D T 0 = S.nh ∧ D T 1 = S.nt) ∧ (∀ i : Nat, i < S.nh → D 6 i = lT3 s n (S.hn i)) ∧ (∀ i : Nat, i < S.nt → D 7 i = lT3 s n (S.tn i)) ∧ (∀ h : Nat, h < S.nh → D (T + 2) h = nxT S.w h S.nt 0 ∧ LsI S.w S.nt h (D (T + 3) h)) ∧ (∀ t, t < S.nt → TrR T S D t) ∧ D T 9 = cTo S.cl S.nt ∧ ∀ c : Int, 0 ≤ c → c < 8 → D (T + 6) c = S.ct c ∧ D (T + 4) c = S.hs c ∧ D (T + 5) c = S.ms c
/-- what a line may write -/
def FrC (T : Nat) (D D' : Nat → Int → Int) : Prop := (∀ r, r ≠ 2 → r ≠ 5 → r ≠ 6 → r ≠ 7 → ¬ (T ≤ r ∧ r ≤ T + 80) → D' r = D r) ∧ D' 2 3 = D 2 3 ∧ ∀ j : Int, j ≠ 4 → D' 5 j = D 5 j
theorem FrC_refl {T : Nat} {D : Nat → Int → Int} : FrC T D D := ⟨fun _ _ _ _ _ _ => rfl, rfl, fun _ _ => rfl⟩
theorem FrC_trans {T : Nat} {A B C : Nat → Int → Int} (h : FrC T A B) (g : FrC T B C) : FrC T A C := ⟨fun r q1 q2 q3 q4 q5 => (g.1 r q1 q2 q3 q4 q5).trans (h.1 r q1 q2 q3 q4 q5), g.2.1.trans h.2.1, fun j q => (g.2.2 j q).trans (h.2.2 j q)⟩
theorem FrC_0 {T : Nat} {D D' : Nat → Int → Int} (h : Fr0 D D') : FrC T D D' := ⟨fun r q1 q2 _ _ _ => h.1 r q1 q2, h.2.1, h.2.2⟩
theorem FrC_X {T : Nat} {D D' : Nat → Int → Int} (h : FrX T D D') : FrC T D D' := ⟨fun r q1 q2 _ _ q5 => h.1 r q1 q2 (by omega) (by omega), h.2.1, h.2.2.1⟩
theorem FrC_TpH {s ws : Int → Int} {n T : Nat} {D D' : Nat → Int → Int} (hT : isT T) (h : FrC T D D') (hH : TpH s n ws D) : TpH s n ws D' := by
  have hT : T = 8 ∨ T = 129 := hT
  exact TpH_keep hH (h.1 3 (by decide) (by decide) (by decide) (by decide) (by omega)) (h.1 4 (by decide) (by decide) (by decide) (by decide) (by omega)) h.2.1
theorem FrC_up {T r : Nat} {D : Nat → Int → Int} {i v : Int} (hT : isT T) (h : r = 6 ∨ r = 7 ∨ (T ≤ r ∧ r ≤ T + 80)) : FrC T D (aUp D r i v) := by
  have hT : T = 8 ∨ T = 129 := hT
  exact ⟨fun q q1 q2 q3 q4 q5 => aUp_row (by omega), by rw [aUp_row (by omega)], fun j q => by rw [aUp_row (by omega)]⟩
/-- a line was read -/
def LiC (s ws : Int → Int) (n T : Nat) (r : Int × Nat × PS) (D : Nat → Int → Int) (w : Int) (D' : Nat → Int → Int) : Prop := FrC T D D' ∧ (r.1 = 0 → w = 1 ∧ AtC s n ws r.2.1 D' ∧ StC s n T r.2.2 D') ∧ (r.1 ≠ 0 → w = 0 ∧ D' 5 4 = r.1)
theorem StC_keep {s : Int → Int} {n T : Nat} {S : PS} {D D' : Nat → Int → Int} (h24 : S.nt ≤ 24) (h : StC s n T S D) (h6 : D' 6 = D 6) (h7 : D' 7 = D 7) (hr : ∀ r, T ≤ r → r ≤ T + 80 → D' r = D r) : StC s n T S D' := by
  obtain ⟨a1, a2, a3, a4, a5, a6, a7⟩ := h
  refine ⟨by rw [hr T (by omega) (by omega)]; exact a1, by rw [h6]; exact a2, by rw [h7]; exact a3, fun h hh => by rw [hr (T + 2) (by omega) (by omega), hr (T + 3) (by omega) (by omega)]; exact a4 h hh, fun t ht => ?_, by rw [hr T (by omega) (by omega)]; exact a6, fun c c1 c2 => by rw [hr (T + 6) (by omega) (by omega), hr (T + 4) (by omega) (by omega), hr (T + 5) (by omega) (by omega)]; exact a7 c c1 c2⟩
  have := a5 t ht
  unfold TrR at this ⊢
  rw [hr (T + 9 + 3 * t) (by omega) (by omega), hr (T + 10 + 3 * t) (by omega) (by omega), hr (T + 11 + 3 * t) (by omega) (by omega), hr (T + 7) (by omega) (by omega)]
  exact this
section
variable {G : aCX} {l : Launch} {d : Nat} {K : Nat → aKd} {D : Nat → Int → Int} {z : Nat × Nat} {P : Int → aSt → Prop}
theorem v_addHouse {T nh : Nat} (hk : Kn K) (hT : isT T) (h0 : D T 0 = nh) (h12 : nh < 12) (kk : P 0 (K, aUp (aUp (aUp D (T + 2) nh (-1)) (T + 3) nh (-1)) T 0 (nh + 1), z)) : VM G l d iX8_addHouse [rf T] (K, D, z) P := by
  have hT2 : T = 8 ∨ T = 129 := hT
  have e1 : aUp D (T + 2) nh (-1) T 0 = nh := by rw [aUp_row (by omega)]; exact h0
  have e2 : aUp (aUp D (T + 2) nh (-1)) (T + 3) nh (-1) T 0 = nh := by rw [aUp_row (by omega)]; exact e1
  refine VM_go (tg2 rfl) (Nat.le_of_ble_eq_true rfl) ?_
  refine s_al0 rfl ?_
  refine s_gi rfl (KT hk hT) rfl ?_
  rw [h0]
  refine s_ic rfl ?_
  refine s_cge rfl ?_ ?_
  · intro h6
    omega
  · intro h6
    refine s_al0 rfl ?_
    refine s_gf rfl (KT hk hT) rfl rfl ?_
    refine s_al0 rfl ?_
    refine s_gi rfl (KT hk hT) rfl ?_
    rw [h0]
    refine s_ic rfl ?_
    refine s_iast rfl (hT.elim (fun h => by subst h; exact hk.at rfl rfl) (fun h => by subst h; exact hk.at rfl rfl)) (by omega) ?_
    refine s_al0 rfl ?_
    refine s_gf rfl (KT hk hT) rfl rfl ?_
    refine s_al0 rfl ?_
    refine s_gi rfl (KT hk hT) rfl ?_
    rw [e1]
    refine s_ic rfl ?_
    refine s_iast rfl (hT.elim (fun h => by subst h; exact hk.at rfl rfl) (fun h => by subst h; exact hk.at rfl rfl)) (by omega) ?_
    refine s_al0 rfl ?_
    refine s_dup rfl (by first | decide | (show (2 : Nat) ≠ 1; decide)) ?_
    refine s_gi rfl (KT hk hT) rfl ?_
    rw [e2]
    refine s_ic rfl ?_
    refine s_iadd rfl ⟨by omega, by omega⟩ ?_
    refine s_pi rfl (KT hk hT) rfl ?_
    refine s_retv rfl rfl ?_
    exact kk
theorem v_readHouse {s ws : Int → Int} {n N T k : Nat} {S : PS} (hg : SgR G l) (hk : Kn K) (hT : isT T) (hH : TpH s n ws D) (hA : AtC s n ws k D) (h53 : D 5 3 = (T : Nat)) (hI : PsI (kT s n ws) (mT s n) S k) (hS : StC s n T S D) (kk : ∀ w D', LiC s ws n T (qHo (kT s n ws) (mT s n) (pT2 s n) k S) D w D' → P w (K, D', z)) : VM G l (d + 3) iX4_readHouse [rf 5] (K, D, z) P := by
  have hT2 : T = 8 ∨ T = 129 := hT
  have h15 := hH.2.2.2.1
  have hp0 := (pl_in (s := s) (n := n) (k := k) h15).1
  have hp1 := (pl_in (s := s) (n := n) (k := k + 1) h15).1
  have hp2 := (pl_in (s := s) (n := n) (k := k + 2) h15).1
  obtain ⟨⟨i1, i2⟩, i3, i4, i5, i6, -⟩ := hI
  have hI0 : ∀ t, t < S.nt → S.w t 0 < S.nh := fun t ht => (i6.2.2.2 t ht).1.2
  obtain ⟨⟨a0, a1⟩, a2, a3, a4, a5, a6, a7⟩ := id hS
  have bad : ∀ (f : Int) (D' : Nat → Int → Int), FrC T D D' → D' 5 4 = f → (qHo (kT s n ws) (mT s n) (pT2 s n) k S).1 = f → f ≠ 0 → P 0 (K, D', z) := fun f D' q1 q2 q3 q4 => kk 0 D' ⟨q1, fun y => absurd (q3.symm.trans y) q4, fun _ => ⟨rfl, by rw [q3]; exact q2⟩⟩
  have hF : (qHo (kT s n ws) (mT s n) (pT2 s n) k S).1 = (if 12 ≤ S.nh then 5 + 16 * pT2 s n k else qFo (qNn (kT s n ws) (mT s n) (pT2 s n) S.nh S.hn S.nt S.tn (k + 1)) (qTk (kT s n ws) (pT2 s n) 11 (k + 2))) := rfl
  refine VM_go (tg2 rfl) (Nat.le_of_ble_eq_true rfl) ?_
  refine s_al0 rfl ?_
  refine s_gr rfl (hk.at rfl rfl) rfl ?_
  rw [h53]
  refine s_gi rfl (KT hk hT) rfl ?_
  rw [a0]
  refine s_is1 rfl rfl ?_
  refine s_il1 rfl ?_
  refine s_ic rfl ?_
  refine s_clt rfl ?_ ?_
  · intro h11
    have n12 : ¬ 12 ≤ S.nh := by omega
    rw [if_neg n12] at hF
    refine s_al0 rfl ?_
    refine s_gf rfl (hk.at rfl rfl) rfl rfl ?_
    refine s_callO rfl rfl (Or.inl rfl) rfl rfl (hk.at rfl rfl) (v_adv (s := s) (ws := ws) (n := n) (k := k) hg hk hH hA (fun D1 g1 g2 g3 => ?_))
    have f1 : Fr0 D D1 := Fr0_tape g1 g2
    have hH1 := Fr0_TpH f1 hH
    have r6 : D1 6 = D 6 := g1 6 (by decide)
    have r7 : D1 7 = D 7 := g1 7 (by decide)
    show V G l (d + 3) iX4_readHouse 27 [rf 5, (0, (S.nh : Int))] [] (K, D1, z) P
    refine s_al0 rfl ?_
    refine s_callO rfl rfl (Or.inl rfl) rfl rfl (hk.at rfl rfl) (v_isNewName (s := s) (ws := ws) (n := n) (k := k + 1) (T := T) (nh := S.nh) (nt := S.nt) hk hH1 g3 hT (by rw [g1 5 (by decide)]; exact h53) (by rw [g1 T (by omega)]; exact a0) i1 (by rw [g1 T (by omega)]; exact a1) i2 (fun y1 y7 y2 => ?_) (fun y1 => ?_) (fun y1 y2 => ?_))
    rotate_left
    · show V G l (d + 3) iX4_readHouse 31 [rf 5, (0, (S.nh : Int))] [(0, 0)] (K, _, z) P
      refine s_zne rfl (fun q => absurd rfl q) (fun _ => ?_)
      refine s_ic rfl ?_
      refine s_retz rfl rfl (Or.inl rfl) ?_
      have e : qNn (kT s n ws) (mT s n) (pT2 s n) S.nh S.hn S.nt S.tn (k + 1) = 1 + 16 * pT2 s n (k + 1) := if_neg y1
      exact bad _ _ (FrC_trans (FrC_0 f1) (FrC_0 Fr0_fault)) aUp_at (by rw [hF, e, qFo_l (by omega)]) (by omega)
    · show V G l (d + 3) iX4_readHouse 31 [rf 5, (0, (S.nh : Int))] [(0, 0)] (K, _, z) P
      refine s_zne rfl (fun q => absurd rfl q) (fun _ => ?_)
      refine s_ic rfl ?_
      refine s_retz rfl rfl (Or.inl rfl) ?_
      rw [ix_eq y1 i3 (fun i hi => by rw [r6]; exact a2 i hi), ix_eq y1 i5 (fun i hi => by rw [r7]; exact a3 i hi)] at y2
      have e : qNn (kT s n ws) (mT s n) (pT2 s n) S.nh S.hn S.nt S.tn (k + 1) = 3 + 16 * pT2 s n (k + 1) := by unfold qNn; rw [if_pos y1, if_neg y2]
      exact bad _ _ (FrC_trans (FrC_0 f1) (FrC_0 Fr0_fault)) aUp_at (by rw [hF, e, qFo_l (by omega)]) (by omega)
    rw [ix_eq y1 i3 (fun i hi => by rw [r6]; exact a2 i hi), ix_eq y1 i5 (fun i hi => by rw [r7]; exact a3 i hi)] at y2
    have e : qNn (kT s n ws) (mT s n) (pT2 s n) S.nh S.hn S.nt S.tn (k + 1) = 0 := by unfold qNn; rw [if_pos y1, if_pos y2]
    rw [e, qFo_r rfl] at hF
    show V G l (d + 3) iX4_readHouse 31 [rf 5, (0, (S.nh : Int))] [(0, 1)] (K, D1, z) P
    refine s_zne rfl ?_ ?_
    · intro h31
      refine s_al0 rfl ?_
      refine s_gf rfl (hk.at rfl rfl) rfl rfl ?_
      refine s_il1 rfl ?_
      refine s_al0 rfl ?_
      refine s_gf rfl (hk.at rfl rfl) rfl rfl ?_
      refine s_gl rfl (hk.at rfl rfl) rfl ?_
      rw [y7]
      refine s_last rfl (hk.at rfl rfl) (by omega) ?_
      generalize hD2 : aUp D1 6 (S.nh : Int) (lT3 s n (k + 1)) = D2
      have u2 : ∀ r, r ≠ 6 → D2 r = D1 r := fun r hr => by rw [← hD2, aUp_row hr]
      refine s_al0 rfl ?_
      refine s_gr rfl (hk.at rfl rfl) rfl ?_
      rw [show D2 5 3 = (T : Nat) by rw [u2 5 (by decide), g1 5 (by decide)]; exact h53]
      refine s_callO rfl rfl (Or.inl rfl) rfl rfl (KT hk hT) (v_addHouse (nh := S.nh) hk hT (by rw [u2 T (by omega), g1 T (by omega)]; exact a0) (by omega) ?_)
      generalize hD3 : aUp (aUp (aUp D2 (T + 2) S.nh (-1)) (T + 3) S.nh (-1)) T 0 ((S.nh : Int) + 1) = D3
      have u3 : ∀ r, r ≠ T → r ≠ T + 2 → r ≠ T + 3 → D3 r = D2 r := fun r q1 q2 q3 => by rw [← hD3, aUp_row q1, aUp_row q3, aUp_row q2]
      show V G l (d + 3) iX4_readHouse 56 [rf 5, (0, (S.nh : Int))] [] (K, D3, z) P
      refine s_al0 rfl ?_
      refine s_gf rfl (hk.at rfl rfl) rfl rfl ?_
      refine s_callO rfl rfl (Or.inl rfl) rfl rfl (hk.at rfl rfl) (v_adv (s := s) (ws := ws) (n := n) (k := k + 1) hg hk (TpH_keep hH1 (by rw [u3 3 (by omega) (by omega) (by omega), u2 3 (by decide)]) (by rw [u3 4 (by omega) (by omega) (by omega), u2 4 (by decide)]) (by rw [u3 2 (by omega) (by omega) (by omega), u2 2 (by decide)])) (AtC_keep g3 (by rw [u3 2 (by omega) (by omega) (by omega), u2 2 (by decide)]) (by rw [u3 5 (by omega) (by omega) (by omega), u2 5 (by decide)])) (fun D4 w1 w2 w3 => ?_))
      have f4 : FrC T D D4 := ⟨fun r q1 q2 q3 q4 q5 => by rw [w1 r q1, u3 r (by omega) (by omega) (by omega), u2 r q3, g1 r q1], by rw [w2, u3 2 (by omega) (by omega) (by omega), u2 2 (by decide), g2], fun j _ => by rw [w1 5 (by decide), u3 5 (by omega) (by omega) (by omega), u2 5 (by decide), g1 5 (by decide)]⟩
      show V G l (d + 3) iX4_readHouse 63 [rf 5, (0, (S.nh : Int))] [] (K, D4, z) P
      refine s_al0 rfl ?_
      refine s_ic rfl ?_
      refine s_callO rfl rfl (Or.inl rfl) rfl rfl (hk.at rfl rfl) (v_take (s := s) (ws := ws) (n := n) (k := k + 2) hg hk (FrC_TpH hT f4 hH) w3 (fun y D5 x1 x2 => ?_) (fun y => ?_))
      · show V G l (d + 3) iX4_readHouse 69 [rf 5, (0, (S.nh : Int))] [(0, 1)] (K, D5, z) P
        refine s_retz rfl rfl (Or.inr rfl) ?_
        refine kk 1 D5 ⟨FrC_trans f4 (FrC_0 x1), fun _ => ⟨rfl, x2, ?_⟩, fun q => absurd (hF.trans (qTk_0 y)) q⟩
        have c6 : D5 6 = uF (D 6) S.nh (lT3 s n (k + 1)) := by rw [x1.1 6 (by decide) (by decide), w1 6 (by decide), u3 6 (by omega) (by omega) (by omega), ← hD2, aUp_same, r6]
        have c7 : D5 7 = D 7 := by rw [x1.1 7 (by decide) (by decide), w1 7 (by decide), u3 7 (by omega) (by omega) (by omega), u2 7 (by decide), r7]
        have cr : ∀ r, T < r → r ≠ T + 2 → r ≠ T + 3 → r ≤ T + 80 → D5 r = D r := fun r q0 q1 q2 q3 => by rw [x1.1 r (by omega) (by omega), w1 r (by omega), u3 r (by omega) q1 q2, u2 r (by omega), g1 r (by omega)]
        have cT : D5 T = uF (D T) 0 ((S.nh : Int) + 1) := by rw [x1.1 T (by omega) (by omega), w1 T (by omega), ← hD3, aUp_same, aUp_row (by omega), aUp_row (by omega), u2 T (by omega), g1 T (by omega)]
        have c2 : D5 (T + 2) = uF (D (T + 2)) S.nh (-1) := by rw [x1.1 _ (by omega) (by omega), w1 _ (by omega), ← hD3, aUp_row (by omega), aUp_row (by omega), aUp_same, u2 _ (by omega), g1 _ (by omega)]
        have c3 : D5 (T + 3) = uF (D (T + 3)) S.nh (-1) := by rw [x1.1 _ (by omega) (by omega), w1 _ (by omega), ← hD3, aUp_row (by omega), aUp_same, aUp_row (by omega), u2 _ (by omega), g1 _ (by omega)]
        have hw : ∀ t, t < S.nt → S.w t 0 < S.nh := hI0
        have nx : ∀ (f t : Nat), t + f ≤ S.nt → nxT S.w S.nh f t = -1 := by
          intro f
          induction f with
          | zero => intro t _; rfl
          | succ f ih => intro t ht; rw [nxT, if_neg (by have := hw t (by omega); omega)]; exact ih (t + 1) (by omega)
        refine ⟨⟨by rw [cT, uF_at]; rfl, by rw [cT, uF_ne (by decide)]; exact a1⟩, fun i hi => ?_, by rw [c7]; exact a3, fun h hh => ?_, fun t ht => ?_, by rw [cT, uF_ne (by decide)]; exact a6, fun c c1 c2 => by rw [cr _ (by omega) (by omega) (by omega) (by omega), cr _ (by omega) (by omega) (by omega) (by omega), cr _ (by omega) (by omega) (by omega) (by omega)]; exact a7 c c1 c2⟩
        · have hi : i < S.nh + 1 := hi
          show D5 6 i = lT3 s n (uN S.hn S.nh (k + 1) i)
          rw [c6]
          rcases (by omega : i < S.nh ∨ i = S.nh) with q | q
          · rw [uF_ne (by omega), uN_ne (by omega)]; exact a2 i q
          · subst q; rw [uF_at, uN_at]
        · have hh : h < S.nh + 1 := hh
          show D5 (T + 2) h = nxT S.w h S.nt 0 ∧ LsI S.w S.nt h (D5 (T + 3) h)
          rw [c2, c3]
          rcases (by omega : h < S.nh ∨ h = S.nh) with q | q
          · rw [uF_ne (by omega), uF_ne (by omega)]; exact a4 h q
          · subst q
            rw [uF_at, uF_at]
            exact ⟨(nx S.nt 0 (by omega)).symm, Or.inl ⟨rfl, fun t ht y => by have := hw t ht; omega⟩⟩
        · have ht : t < S.nt := ht
          have := a5 t ht
          unfold TrR at this ⊢
          rw [cr (T + 9 + 3 * t) (by omega) (by omega) (by omega) (by omega), cr (T + 10 + 3 * t) (by omega) (by omega) (by omega) (by omega), cr (T + 11 + 3 * t) (by omega) (by omega) (by omega) (by omega), cr (T + 7) (by omega) (by omega) (by omega) (by omega)]
          exact this
      · show V G l (d + 3) iX4_readHouse 69 [rf 5, (0, (S.nh : Int))] [(0, 0)] (K, _, z) P
        refine s_retz rfl rfl (Or.inl rfl) ?_
        exact bad _ _ (FrC_trans f4 (FrC_0 Fr0_fault)) aUp_at (by rw [hF, qTk_1 y]) (by omega)
    · intro h31
      exact absurd h31 (by decide)
  · intro h11
    have n12 : 12 ≤ S.nh := by omega
    rw [if_pos n12] at hF
    refine s_al0 rfl ?_
    refine s_ic rfl ?_
    refine s_callO rfl rfl (Or.inl rfl) rfl rfl (hk.at rfl rfl) (v_fail (c := 5) hk hH hA (by decide) ?_)
    show V G l (d + 3) iX4_readHouse 19 _ [(0, 0)] (K, _, z) P
    refine s_retz rfl rfl (Or.inl rfl) ?_
    exact bad _ _ (FrC_0 Fr0_fault) aUp_at hF (by omega)
end
