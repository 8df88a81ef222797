/-! ===== tapes alike; wording: the class ===== -/
theorem runF_same {p : Int → Bool} {s s' : Int → Int} {n : Nat} (h : ∀ i : Nat, i < n → s i = s' i) : ∀ (f i : Nat), i + f ≤ n ∨ f = 0 → runF p s n f i = runF p s' n f i := by
  intro f
  induction f with
  | zero => intro i _; rfl
  | succ f ih =>
    intro i hi
    rw [runF, runF, h i (by omega), ih (i + 1) (by omega)]
theorem runE_same {p : Int → Bool} {s s' : Int → Int} {n i : Nat} (h : ∀ i : Nat, i < n → s i = s' i) : runE p s n i = runE p s' n i := runF_same h _ _ (by omega)
theorem runE_le {p : Int → Bool} {s : Int → Int} {n i : Nat} : runE p s n i - i + i ≤ n ∨ runE p s n i - i = 0 := by
  rcases (by omega : i ≤ n ∨ n ≤ i) with q | q
  · have := (runE_sp (p := p) (s := s) (n := n) (n - i) i (by omega)).1; omega
  · rw [runE_out (Or.inl q)]; omega
theorem pk_same {B o : Int} {p : Int → Bool} {s s' : Int → Int} {n i : Nat} (h : ∀ i : Nat, i < n → s i = s' i) : pkF B o s i (runE p s n i - i) = pkF B o s' i (runE p s' n i - i) := by
  rw [← runE_same (p := p) (i := i) h]
  have := runE_le (p := p) (s := s) (n := n) (i := i)
  exact pkF_congr (fun k hk => h (i + k) (by omega))
theorem enF_same {s s' : Int → Int} {n p : Nat} (h : ∀ i : Nat, i < n → s i = s' i) : enF s n p = enF s' n p := by
  unfold enF
  by_cases q : n ≤ p
  · rw [if_pos q, if_pos q]
  · rw [if_neg q, if_neg q, h p (by omega), runE_same h, runE_same h]
theorem kdF_same {s s' ws : Int → Int} {n p : Nat} (h : ∀ i : Nat, i < n → s i = s' i) : kdF s n ws p = kdF s' n ws p := by
  unfold kdF
  by_cases q : n ≤ p
  · rw [if_pos q, if_pos q]
  · rw [if_neg q, if_neg q, pk_same (s' := s') h, h p (by omega), runE_same (p := isL) (s' := s') h, runE_same (p := isD) (s' := s') h]
theorem tpF_same {s s' : Int → Int} {n : Nat} (h : ∀ i : Nat, i < n → s i = s' i) : ∀ k, tpF s n k = tpF s' n k := by
  intro k
  induction k with
  | zero => exact runE_same h
  | succ k ih => rw [tpF, tpF, ih, enF_same h, runE_same h]
theorem tok_same {s s' ws : Int → Int} {n : Nat} (h : ∀ i : Nat, i < n → s i = s' i) : kT s n ws = kT s' n ws ∧ nT s n = nT s' n ∧ mT s n = mT s' n ∧ pT2 s n = pT2 s' n := by
  refine ⟨funext fun k => ?_, funext fun k => ?_, funext fun k => ?_, funext fun k => ?_⟩
  · show kdF s n ws (tpF s n k) = kdF s' n ws (tpF s' n k)
    rw [tpF_same h k, kdF_same h]
  · show pkF 10 48 s (tpF s n k) _ = pkF 10 48 s' (tpF s' n k) _
    rw [← tpF_same h k]; exact pk_same h
  · show pkF 37 96 s (tpF s n k) _ = pkF 37 96 s' (tpF s' n k) _
    rw [← tpF_same h k]; exact pk_same h
  · show ((tpF s n k : Nat) : Int) = ((tpF s' n k : Nat) : Int)
    rw [tpF_same h k]
section
variable {G : aCX} {l : Launch} {d : Nat} {K : Nat → aKd} {D : Nat → Int → Int} {z : Nat × Nat} {P : Int → aSt → Prop}
theorem v_wording {s ws : Int → Int} {n T T2 s0 m : Nat} (hg : SgR G l) (hk : Kn K) (hT : isT T) (hT2 : isT T2) (hne : T ≠ T2) (hH : TpH s n ws D) (h53 : D 5 3 = (T : Nat)) (h16 : D 1 6 = (T2 : Nat)) (hS : SlI s0 m K D z) (k0 : (qDr (kT s n ws) (nT s n) (mT s n) (pT2 s n) 1500 0 qS0).1 ≠ 0 → ∀ D1 : Nat → Int → Int, FrC T D D1 → P (qDr (kT s n ws) (nT s n) (mT s n) (pT2 s n) 1500 0 qS0).1 (K, aUp D1 2 3 0, z)) (k1 : (qDr (kT s n ws) (nT s n) (mT s n) (pT2 s n) 1500 0 qS0).1 = 0 → ∀ D1 D4 : Nat → Int → Int, FrC T D D1 → StC s n T (qDr (kT s n ws) (nT s n) (mT s n) (pT2 s n) 1500 0 qS0).2.2 D1 → (∀ r, r < 279 → D4 r = aUp (aUp (aUp D1 2 3 0) 1 6 (T : Nat)) 5 3 (T2 : Nat) r) → (∀ i : Nat, i < m → D4 (279 + 10 * i) 0 = 0) → P 0 (K, aUp (aUp (aUp (aUp D4 1 10 0) 1 11 0) 116 1 0) 116 2 0, z)) : VM G l (d + 31) iX11_wording [rf 1] (K, D, z) P := by
  obtain ⟨N, hNn, hN, -⟩ := tk_many (s := s) (n := n) (ws := ws)
  have h15 := hH.2.2.2.1
  have hT' : T = 8 ∨ T = 129 := hT
  have hT2' : T2 = 8 ∨ T2 = 129 := hT2
  refine VM_go (tg2 rfl) (Nat.le_of_ble_eq_true rfl) ?_
  refine s_al0 rfl ?_
  refine s_gf rfl (hk.at rfl rfl) rfl rfl ?_
  refine s_callO rfl rfl (Or.inl rfl) rfl rfl (hk.at rfl rfl) (v_readDraft hg hk hT hH h53 hN (by omega) nu_in (fun D1 f1 s1 => ?_))
  generalize qDr (kT s n ws) (nT s n) (mT s n) (pT2 s n) 1500 0 qS0 = R at k0 k1 s1
  have e16 : D1 1 6 = (T2 : Nat) := by rw [f1.1 1 (by decide) (by decide) (by decide) (by decide) (by omega)]; exact h16
  have e53 : D1 5 3 = (T : Nat) := by rw [f1.2.2 3 (by decide)]; exact h53
  show V G l (d + 31) iX11_wording 7 [rf 1, (9, 0), (9, 0)] [(0, R.1)] (K, D1, z) P
  refine s_is1 rfl rfl ?_
  refine s_al0 rfl ?_
  refine s_gf rfl (hk.at rfl rfl) rfl rfl ?_
  refine s_ic rfl ?_
  refine s_pi rfl (hk.at rfl rfl) rfl ?_
  refine s_il1 rfl ?_
  refine s_zne rfl ?_ ?_
  · intro h17
    refine s_il1 rfl ?_
    refine s_reti rfl rfl ?_
    first
    | exact k0 h17 D1 f1
    | (rw [h17]; exact k1')
  · intro h17
    refine s_al0 rfl ?_
    refine s_gr rfl (hk.at rfl rfl) rfl ?_
    rw [aUp_row (by decide), e16]
    refine s_as2 rfl rfl ?_
    refine s_al0 rfl ?_
    refine s_al0 rfl ?_
    refine s_gf rfl (hk.at rfl rfl) rfl rfl ?_
    refine s_gr rfl (hk.at rfl rfl) rfl ?_
    rw [aUp_row (by decide), e53]
    refine s_pr rfl (hk.at rfl rfl) rfl ?_
    refine s_al0 rfl ?_
    refine s_gf rfl (hk.at rfl rfl) rfl rfl ?_
    refine s_al2 rfl ?_
    refine s_pr rfl (hk.at rfl rfl) rfl ?_
    refine s_al0 rfl ?_
    refine s_gf rfl (hk.at rfl rfl) rfl rfl ?_
    refine s_callO rfl rfl (Or.inl rfl) rfl rfl (hk.at rfl rfl) (v_forgetSolved (s0 := s0) (m := m) hk (SlI_keep hS (by rw [aUp_row (by decide), aUp_row (by decide), aUp_row (by decide), f1.1 108 (by decide) (by decide) (by decide) (by decide) (by omega)])) (fun D4 q1 q2 => ?_))
    show V G l (d + 31) iX11_wording 51 _ [] (K, D4, z) P
    refine s_al0 rfl ?_
    refine s_callO rfl rfl (Or.inl rfl) rfl rfl (hk.at rfl rfl) (v_forgetAnswers hk ?_)
    have k1' := k1 h17 D1 D4 f1 (s1 h17) q1 q2
    show V G l (d + 31) iX11_wording 55 _ [] (K, _, z) P
    refine s_il1 rfl ?_
    refine s_reti rfl rfl ?_
    first
    | exact k0 h17 D1 f1
    | (rw [h17]; exact k1')
end
theorem wOk_wEq {w w' : WT} {nt : Nat} {nh : Int} (h : wEq w' w nt) (hw : wOk w nt nh) : wOk w' nt nh := by
  refine ⟨hw.1, hw.2.1, hw.2.2.1, fun t ht => ?_⟩
  obtain ⟨e0, e1, e2, e4, e7, ei⟩ := h t ht
  obtain ⟨a0, a1, a2, a4, a7, ai, as⟩ := hw.2.2.2 t ht
  rw [e0, e1, e2, e4, e7]
  refine ⟨a0, a1, a2, a4, a7, fun i hi => ?_, ?_⟩
  · rw [(ei i hi).1, (ei i hi).2]; exact ai i hi
  · rw [sumF_congr (g := fun i : Nat => w t (200 + i)) (fun i hi => (ei i (by omega)).2)]; exact as
theorem nxT_w0 {w w' : WT} {h : Int} : ∀ (n t : Nat), (∀ s, s < t + n → w' s 0 = w s 0) → nxT w' h n t = nxT w h n t := by
  intro n
  induction n with
  | zero => intro t _; rfl
  | succ n ih => intro t hs; rw [nxT, nxT, hs t (by omega), ih (t + 1) (fun s q => hs s (by omega))]
/-- what a wording's draft says, as the reckonings want it: the class -/
def TmC (T nt : Nat) (cn : Nat → Nat) (cc : Nat → Nat → Int × Int) (D : Nat → Int → Int) : Prop := D T 1 = nt ∧ wOk (wC D T) nt (D T 0) ∧ ChT D T nt (D T 0) ∧ WcB D T nt ∧ CoC D T nt cn cc ∧ ∀ t : Nat, t < nt → 0 ≤ D (T + 9 + 3 * t) 14 ∧ D (T + 9 + 3 * t) 14 ≤ 999999
abbrev cnS (S : PS) : Nat → Nat := fun t => (S.cl t).length
abbrev ccS (S : PS) : Nat → Nat → Int × Int := fun t k => (S.cl t).getD k (0, 0)
theorem StC_wEq {s : Int → Int} {n T : Nat} {S : PS} {D : Nat → Int → Int} (hw : wOk S.w S.nt S.nh) (hS : StC s n T S D) : wEq (wC D T) S.w S.nt := fun t ht => by
  obtain ⟨a1, a2, -⟩ := hS.2.2.2.2.1 t ht
  unfold wC
  refine ⟨?_, ?_, ?_, ?_, ?_, fun i hi => ⟨?_, ?_⟩⟩
  · rw [if_pos (by decide)]; exact a1 0 (by decide) (by decide)
  · rw [if_pos (by decide)]; exact a1 1 (by decide) (by decide)
  · rw [if_pos (by decide)]; exact a1 2 (by decide) (by decide)
  · rw [if_pos (by decide)]; exact a1 4 (by decide) (by decide)
  · rw [if_pos (by decide)]; exact a1 7 (by decide) (by decide)
  · have h12 : (i : Int) < 100 ∨ 100 ≤ (i : Int) := by omega
    by_cases q : 100 + (i : Int) < 200
    · rw [if_neg (by omega), if_pos q, show 100 + (i : Int) - 100 = i by omega]; exact (a2 i hi).1
    · have := (hw.2.2.2 t ht).2.2.2.2.1; omega
  · rw [if_neg (by omega), if_neg (by omega), show 200 + (i : Int) - 200 = i by omega]; exact (a2 i hi).2
