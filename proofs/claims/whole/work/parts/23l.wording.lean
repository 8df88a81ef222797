/-! ===== wording ===== -/
theorem hw24 {r : Nat} (h : (222 ≤ r ∧ r ≤ 230) ∨ r = 233) : hwR r = 24 := by
  unfold hwR
  rw [if_neg (by omega), if_neg (by omega), if_neg (by omega), if_neg (by omega), if_neg (by omega)]
section
variable {D D' : Nat → Int → Int} {T nt : Nat} {cn : Nat → Nat} {cc : Nat → Nat → Int × Int} {nx ho : Nat}
theorem out24 (hx : nx + ho = 1) (r : ∀ (r : Nat) (j : Int), 216 ≤ r → r ≤ 235 → ¬ inN nx r j → D' r j = D r j) {q : Nat} (h : (222 ≤ q ∧ q ≤ 230) ∨ q = 233) {t : Nat} (ht : t < 24) : D' q (24 * (ho : Int) + t) = D q (24 * (ho : Int) + t) := by
  refine r q _ (by omega) (by omega) ?_
  unfold inN
  rw [hw24 h]
  omega
theorem wM_half (hx : nx + ho = 1) (h10 : D 210 10 = (ho : Nat)) (h10' : D' 210 10 = D 210 10) (r : ∀ (r : Nat) (j : Int), 216 ≤ r → r ≤ 235 → ¬ inN nx r j → D' r j = D r j) {t : Nat} (ht : t < 24) {j : Int} (hj : j < 8 ∨ (100 ≤ j ∧ j < 112) ∨ (200 ≤ j ∧ j < 212)) : wM D' t j = wM D t j := by
  unfold wM
  rw [h10', h10]
  split
  · split
    · exact out24 hx r (by omega) ht
    · split
      · exact out24 hx r (by omega) ht
      · split
        · rcases (by omega : j < 0 ∨ 0 ≤ j) with q | q
          · have e : j.toNat = 0 := by omega
            rw [e]; exact out24 hx r (by omega) ht
          · exact out24 hx r (by omega) ht
        · rfl
  · split
    · refine r 232 _ (by decide) (by decide) ?_
      unfold inN
      rw [show hwR 232 = 288 from rfl]
      omega
    · refine r 231 _ (by decide) (by decide) ?_
      unfold inN
      rw [show hwR 231 = 288 from rfl]
      omega
theorem CpW_half {nh : Int} (hok : wOk (wC D T) nt nh) (hx : nx + ho = 1) (h10 : D 210 10 = (ho : Nat)) (h10' : D' 210 10 = D 210 10) (r : ∀ (r : Nat) (j : Int), 216 ≤ r → r ≤ 235 → ¬ inN nx r j → D' r j = D r j) (hr : ∀ r, T ≤ r → r ≤ T + 80 → r ≠ T + 8 → D' r = D r) (hH : giH nt cn D) (h : CpW T nt cn cc D) : CpW T nt cn cc D' ∧ giH nt cn D' := by
  have hn := hok.1
  have ewc : ∀ t, t < nt → wC D' T t = wC D T t := wC_congr hn (fun x q1 q2 => hr x (by omega) (by omega) (by omega))
  obtain ⟨w1, w2, w3, w4, w5, w6, w7⟩ := h
  have e216 : D' 216 (ho : Int) = D 216 (ho : Int) := r 216 _ (by decide) (by decide) (by unfold inN; rw [show hwR 216 = 1 from rfl]; omega)
  have e221 : D' 221 (ho : Int) = D 221 (ho : Int) := r 221 _ (by decide) (by decide) (by unfold inN; rw [show hwR 221 = 1 from rfl]; omega)
  have e233 : ∀ t : Nat, t < nt → D' 233 (24 * (ho : Int) + t) = D 233 (24 * (ho : Int) + t) := fun t ht => out24 hx r (by omega) (by omega)
  have ent : ntM D = nt := by show (D 221 (D 210 10)).toNat = nt; rw [w3]; omega
  have hH2 := hH
  unfold giH at hH2
  rw [h10] at hH2 w2 w3
  refine ⟨⟨?_, ?_, ?_, fun t ht => ?_, fun t ht => ?_, fun t ht => ?_, fun h0 c q1 q2 => ?_⟩, fun t ht hc => ?_⟩
  · rw [h10']; exact w1
  · rw [h10', h10, e216, hr T (by omega) (by omega) (by omega)]; exact w2
  · rw [h10', h10, e221]; exact w3
  · obtain ⟨a0, a1, a2, a4, a7, ai⟩ := w4 t ht
    have b7 := (hok.2.2.2 t ht).2.2.2.2.1
    rw [ewc t ht, wM_half hx h10 h10' r (by omega) (by omega), wM_half hx h10 h10' r (by omega) (by omega), wM_half hx h10 h10' r (by omega) (by omega), wM_half hx h10 h10' r (by omega) (by omega), wM_half hx h10 h10' r (by omega) (by omega)]
    refine ⟨a0, a1, a2, a4, a7, fun i hi => ?_⟩
    rw [wM_half hx h10 h10' r (by omega) (by omega), wM_half hx h10 h10' r (by omega) (by omega)]
    exact ai i hi
  · rw [ewc t ht, wM_half hx h10 h10' r (by omega) (by omega), wM_half hx h10 h10' r (by omega) (by omega), wM_half hx h10 h10' r (by omega) (by omega)]
    exact w5 t ht
  · have ht2 : t < nt := by
      have : ntM D' = nt := by show (D' 221 (D' 210 10)).toNat = nt; rw [h10', h10, e221, w3]; omega
      omega
    have g := w6 t (by omega)
    have k := hH2 t ht2
    rw [h10] at g
    rw [h10', h10, e233 t ht2]
    refine ⟨g.1, ?_⟩
    rcases g.2 with g2 | ⟨g2, g3, g4, g5⟩
    · exact Or.inl g2
    · have k := k g2
      have o4 : ∀ j : Int, 1600 * (ho : Int) ≤ j → j < 1600 * (ho : Int) + 1600 → D' 234 j = D 234 j ∧ D' 235 j = D 235 j := fun j j1 j2 => ⟨r 234 _ (by decide) (by decide) (by unfold inN; rw [show hwR 234 = 1600 from rfl]; omega), r 235 _ (by decide) (by decide) (by unfold inN; rw [show hwR 235 = 1600 from rfl]; omega)⟩
      refine Or.inr ⟨g2, g3, fun x hx2 => ?_, ?_⟩
      · rw [(o4 _ (by omega) (by omega)).1, (o4 _ (by omega) (by omega)).2]; exact g4 x hx2
      · rw [(o4 _ (by omega) (by omega)).1]; exact g5
  · have e1 : D' 219 (8 * (ho : Int) + c) = D 219 (8 * (ho : Int) + c) := r 219 _ (by decide) (by decide) (by unfold inN; rw [show hwR 219 = 8 from rfl]; omega)
    have e2 : D' 220 (8 * (ho : Int) + c) = D 220 (8 * (ho : Int) + c) := r 220 _ (by decide) (by decide) (by unfold inN; rw [show hwR 220 = 8 from rfl]; omega)
    have w7 := w7 (by rw [hr T (by omega) (by omega) (by omega)] at h0; exact h0) c q1 q2
    rw [h10] at w7
    rw [h10', h10, e1, e2, hr (T + 4) (by omega) (by omega) (by omega), hr (T + 5) (by omega) (by omega) (by omega)]; exact w7
  · rw [h10', h10, e233 t ht]; exact hH2 t ht hc
end
section
variable {G : aCX} {l : Launch} {s0 : Nat} {st : aSt}
theorem g_wording (hg : SgR G l) (hG : GIv s0 st) : VM G l 31 iX11_wording [rf 1] st (fun w st1 => Kn st1.1 ∧ VM G l 31 iX12_wording [rf 210] st1 (fun w' st2 => w' = w ∧ GIv s0 st2)) := by
  obtain ⟨K, D, z⟩ := st
  obtain ⟨m, T, T2, nt, n, wo, cn, cc, hX⟩ := hG
  have hX : giX s0 m T T2 nt n wo cn cc K D z := hX
  have hT := hX.1.2.2.2.1
  have hT' : T = 8 ∨ T = 129 := hT
  obtain ⟨t1, t2, t3, t4, t5, t6⟩ := id hX.2.2.1
  obtain ⟨f1, f2, f3, f4, f5⟩ := id hX.2.2.2.1
  have hT2' : T2 = 8 ∨ T2 = 129 := f3
  obtain ⟨s, hs⟩ : ∃ s, D 3 = s := ⟨_, rfl⟩
  obtain ⟨ws, hws⟩ : ∃ ws, D 4 = ws := ⟨_, rfl⟩
  obtain ⟨s', hs'⟩ : ∃ s', D 211 = s' := ⟨_, rfl⟩
  have t4' : ∀ i : Nat, i < n → s i = s' i ∧ 0 ≤ s i ∧ s i < 128 := fun i hi => by rw [← hs, ← hs']; exact t4 i hi
  have hw21 : ∀ i : Nat, i < 21 → ws i = kw32 i := fun i hi => by rw [← hws]; exact t5 i hi
  obtain ⟨z1, z2, z3, z4⟩ := tok_same (ws := ws) (n := n) (s := s) (s' := s') (fun i hi => (t4' i hi).1)
  have hW := hX.2.1.2.2.1
  obtain ⟨ho, hho⟩ : ∃ ho : Nat, D 210 10 = (ho : Nat) := ⟨(D 210 10).toNat, by have := hW.1; omega⟩
  obtain ⟨nx, hnx⟩ : ∃ nx : Nat, nx + ho = 1 := ⟨1 - ho, by have := hW.1; omega⟩
  have key : ∀ C : Nat → Int → Int, C 211 = s' → C 210 2 = n → C 215 = D 215 → C 210 10 = (ho : Nat) → (∀ E : Nat → Int → Int, WrM s' ws n nx (qDr (kT s n ws) (nT s n) (mT s n) (pT2 s n) 1500 0 qS0) C E → GIv s0 (K, E, z)) → VM G l 31 iX12_wording [rf 210] (K, C, z) (fun w' st2 => w' = (qDr (kT s n ws) (nT s n) (mT s n) (pT2 s n) 1500 0 qS0).1 ∧ GIv s0 st2) := by
    intro C c1 c2 c3 c4 kk
    refine u_wordingM (s := s') (ws := ws) (n := n) (ho := ho) (nx := nx) hX.1.1 c1 c2 t3 (fun i hi => by rw [← (t4' i hi).1]; exact (t4' i hi).2) hw21 (by rw [c3]; exact t6) c4 hnx (fun E hE => ?_)
    rw [← z1, ← z2, ← z3, ← z4] at hE ⊢
    exact ⟨rfl, kk E hE⟩
  obtain ⟨N, hNn, hN, -⟩ := tk_many (s := s) (n := n) (ws := ws)
  have hpl : ∀ k, 0 ≤ pT2 s n k := fun k => (pl_in (s := s) (n := n) (k := k) t3).1
  have h32 : ∀ k, kT s n ws k ≤ 32 := fun k => (kdF_in (s := s) (n := n) (ws := ws) (p := tpF s n k)).2
  have dok := dr_ok (kd := kT s n ws) (nu := nT s n) (nm := mT s n) (pl := pT2 s n) hpl nu_in h32 hN 1500 0 qS0 (Nat.zero_le N) PsI_0
  refine v_wording (s := s) (ws := ws) (n := n) (T := T2) (T2 := T) hg hX.1.1 f3 hT (fun e => f4 e.symm) ⟨hs, hws, t1, t3, fun i hi => (t4' i hi).2⟩ f2 f1 hX.1.2.1 (fun h0 D1 hF => ?_) (fun h0 D1 D4 hF hS h4 hz => ?_)
  · have r1 : ∀ r, r ≠ 2 → r ≠ 5 → r ≠ 6 → r ≠ 7 → ¬ (T2 ≤ r ∧ r ≤ T2 + 80) → aUp D1 2 3 0 r = D r := fun r q1 q2 q3 q4 q5 => by rw [aUp_row q1]; exact hF.1 r q1 q2 q3 q4 q5
    have e210 := r1 210 (by decide) (by decide) (by decide) (by decide) (by omega)
    have e215 := r1 215 (by decide) (by decide) (by decide) (by decide) (by omega)
    refine ⟨hX.1.1, ?_⟩
    refine key _ (by rw [r1 211 (by decide) (by decide) (by decide) (by decide) (by omega)]; exact hs') (by rw [e210]; exact t2) e215 (by rw [e210]; exact hho) (fun E hE => ?_)
    obtain ⟨g1, g2, g3, ⟨g4, g5⟩, g6, -⟩ := hE
    obtain ⟨g6, g7⟩ := g6 h0
    have rE : ∀ r, r ≠ 2 → r ≠ 5 → r ≠ 6 → r ≠ 7 → ¬ (T2 ≤ r ∧ r ≤ T2 + 80) → r ≠ 210 → (r < 212 ∨ r = 215 ∨ 235 < r) → E r = D r := fun r q1 q2 q3 q4 q5 q6 q7 => by
      by_cases e : r = 265
      · rw [e, g7]; exact r1 265 (by decide) (by decide) (by decide) (by decide) (by omega)
      · rw [g1 r q6 (by omega)]; exact r1 r q1 q2 q3 q4 q5
    have c210 : ∀ j : Int, j = 35 ∨ j = 36 ∨ j = 37 ∨ j = 45 → E 210 j = D 210 j := fun j q => by rw [g2 j (by omega) (by omega) (by omega) (by omega) (by omega) (by omega), e210]
    have e10 : E 210 10 = D 210 10 := by rw [g6, e210]
    have e1 := rE 1 (by decide) (by decide) (by decide) (by decide) (by omega) (by decide) (by decide)
    have rT : ∀ r, T ≤ r → r ≤ T + 80 → r ≠ T + 8 → E r = D r := fun r q1 q2 q3 => rE r (by omega) (by omega) (by omega) (by omega) (by omega) (by omega) (by omega)
    have half : ∀ (r : Nat) (j : Int), 216 ≤ r → r ≤ 235 → ¬ inN nx r j → E r j = D r j := fun r j q1 q2 q3 => by
      rw [g3 r j q1 q2 q3, r1 r (by omega) (by omega) (by omega) (by omega) (by omega)]
    have rw1 : ∀ r, ((89 ≤ r ∧ r ≤ 128) ∨ r = 3 ∨ r = 4 ∨ r = 211 ∨ r = 215 ∨ 236 ≤ r) → E r = D r := fun r q => rE r (by omega) (by omega) (by omega) (by omega) (by omega) (by omega) (by omega)
    have inR_row : ∀ r, inR T r → E r = D r := fun r q => by
      unfold inR at q
      rcases q with q | q
      · exact rw1 r (by omega)
      · exact rT r q.1 q.2.1 q.2.2
    have ev : vwC E = vwC D := by unfold vwC; rw [e1]
    have hsc : stC E = stC D := by unfold stC; rw [e1]
    have hEE : giE D E wo T nt cn cc (vwC D) (vwC E) := by rw [ev]; exact giE_of hX.1.2.2.2 inR_row
    have cw := CpW_half (nh := D T 0) hX.1.2.2.2.2.2.2.2.2.1 hnx hho e10 half rT f5 hW
    refine GIv_mk (giX_mk3 (n' := 0) (wo' := wo) hX rT (rw1 108 (by omega)) (fun r q => rw1 r (by omega)) (by rw [e1]) ?_ cw.2 (Bk_keep (fun r q1 q2 => rw1 r (by omega)) hX.1.2.2.2.2.1 hX.1.2.2.2.2.2.1 hX.1.2.2.2.2.2.2.1) (CpB_keep (fun r q => rw1 r (by omega)) (c210 37 (by omega)) (c210 45 (by omega)) hX.2.1.1) (CpV_keep (by rw [e1]) (by rw [e1]) (by rw [e1]) (c210 35 (by omega)) (c210 36 (by omega)) (rw1 244 (by omega)) hX.2.1.2.1) cw.1 (CpC_keep (giX_nt hX).2 (rw1 265 (by omega)) (rw1 266 (by omega)) (by rw [e1]; exact Int.le_refl _) rT hX.2.1.2.2.2) ⟨?_, g5, by decide, fun i hi => absurd hi (Nat.not_lt_zero i), ?_, ?_⟩ (giP_keep (rw1 122 (by omega)) (rw1 272 (by omega)) (rw1 89 (by omega)) (rw1 98 (by omega)) (rw1 243 (by omega)) (by rw [e1]; exact Int.le_refl _) hX.2.2.2.2.1) (giC_keep hX.1.2.2.2 hEE hsc (rw1 272 (by omega)) (Nat.le_refl _) ⟨fun r q => rw1 r (by unfold ctR at q; omega), by rw [e1], by rw [e1]⟩ hX.2.2.2.2.2))
    · rw [g1 5 (by decide) (by decide), aUp_row (by decide)]; exact hF.2.2 3 (by decide)
    · rw [g1 2 (by decide) (by decide)]; exact aUp_at
    · rw [rw1 4 (by omega)]; exact t5
    · rw [rw1 215 (by omega)]; exact t6
  · refine ⟨hX.1.1, ?_⟩
    show VM G l 31 iX12_wording [rf 210] (K, FgA D4, z) _
    obtain ⟨dk, dI⟩ := dok h0
    have key := key (FgA D4)
    rw [h0] at key
    generalize qDr (kT s n ws) (nT s n) (mT s n) (pT2 s n) 1500 0 qS0 = R at *
    obtain ⟨Rf, k, S⟩ := R
    have dI : PsI (kT s n ws) (mT s n) S k := dI
    have dk : k ≤ N := dk
    have hS : StC s n T2 S D1 := hS
    have c4 : ∀ r, r < 279 → r ≠ 1 → r ≠ 2 → r ≠ 5 → D4 r = D1 r := fun r q1 q2 q3 q4 => by rw [h4 r q1, aUp_row q4, aUp_row q2, aUp_row q3]
    have cF : ∀ r, r < 279 → r ≠ 1 → r ≠ 116 → r ≠ 2 → r ≠ 5 → FgA D4 r = D1 r := fun r q1 q2 q3 q4 q5 => by rw [FgA_row q2 q3, c4 r q1 q2 q4 q5]
    have cD : ∀ r, r < 279 → r ≠ 1 → r ≠ 116 → r ≠ 2 → r ≠ 5 → r ≠ 6 → r ≠ 7 → ¬ (T2 ≤ r ∧ r ≤ T2 + 80) → FgA D4 r = D r := fun r q1 q2 q3 q4 q5 q6 q7 q8 => by rw [cF r q1 q2 q3 q4 q5]; exact hF.1 r q4 q5 q6 q7 q8
    have e210 := cD 210 (by decide) (by decide) (by decide) (by decide) (by decide) (by decide) (by decide) (by omega)
    have e215 := cD 215 (by decide) (by decide) (by decide) (by decide) (by decide) (by decide) (by decide) (by omega)
    have F1 := hF.1 1 (by decide) (by decide) (by decide) (by decide) (by omega)
    have k1 : ∀ j : Int, j ≠ 10 → j ≠ 11 → j ≠ 6 → FgA D4 1 j = D 1 j := fun j q1 q2 q3 => by rw [FgA_1 q1 q2, h4 1 (by decide), aUp_row (by decide), aUp_ne q3, aUp_row (by decide), F1]
    have k16 : FgA D4 1 6 = (T2 : Nat) := by rw [FgA_1 (by decide) (by decide), h4 1 (by decide), aUp_row (by decide), aUp_at]
    have k53 : FgA D4 5 3 = (T : Nat) := by rw [FgA_row (by decide) (by decide), h4 5 (by decide), aUp_at]
    have k23 : FgA D4 2 3 = 0 := by rw [FgA_row (by decide) (by decide), h4 2 (by decide), aUp_row (by decide), aUp_row (by decide), aUp_at]
    have kz : ∀ i : Nat, i < m → FgA D4 (279 + 10 * i) 0 = 0 := fun i hi => by rw [FgA_row (by omega) (by omega)]; exact hz i hi
    obtain ⟨y1, y2, y3, y4⟩ := FgA_z (D := D4)
    generalize FgA D4 = C at key cF cD e210 e215 k1 k16 k53 k23 kz y1 y2 y3 y4 ⊢
    refine key (by rw [cD 211 (by decide) (by decide) (by decide) (by decide) (by decide) (by decide) (by decide) (by omega)]; exact hs') (by rw [e210]; exact t2) e215 (by rw [e210]; exact hho) (fun E hE => ?_)
    obtain ⟨g1, g2, -, ⟨g4, g5⟩, -, g6⟩ := hE
    obtain ⟨g6, g7, g8⟩ := g6 h0
    have g7 : StM s' ws n nx S E := g7
    have g7' : StM s ws n nx S E := by
      unfold StM NmM at g7 ⊢
      rw [z3]; exact g7
    have rC : ∀ r, r ≠ 210 → (r < 212 ∨ r = 215 ∨ (235 < r ∧ r ≠ 265)) → E r = C r := g1
    have rD : ∀ r, ((89 ≤ r ∧ r ≤ 115) ∨ (117 ≤ r ∧ r ≤ 128) ∨ r = 3 ∨ r = 4 ∨ r = 211 ∨ r = 215 ∨ (236 ≤ r ∧ r < 265) ∨ (266 ≤ r ∧ r < 279)) → E r = D r := fun r q => by rw [rC r (by omega) (by omega)]; exact cD r (by omega) (by omega) (by omega) (by omega) (by omega) (by omega) (by omega) (by omega)
    have c210 : ∀ j : Int, j = 35 ∨ j = 36 ∨ j = 37 ∨ j = 45 → E 210 j = D 210 j := fun j q => by rw [g2 j (by omega) (by omega) (by omega) (by omega) (by omega) (by omega), e210]
    have E1 := rC 1 (by decide) (by decide)
    have cE : ∀ j : Int, j ≠ 10 → j ≠ 11 → j ≠ 6 → E 1 j = D 1 j := fun j q1 q2 q3 => by rw [E1]; exact k1 j q1 q2 q3
    have sE : StC s n T2 S E := StC_keep dI.1.2 hS (by rw [rC 6 (by decide) (by decide)]; exact cF 6 (by decide) (by decide) (by decide) (by decide) (by decide)) (by rw [rC 7 (by decide) (by decide)]; exact cF 7 (by decide) (by decide) (by decide) (by decide) (by decide)) (fun r q1 q2 => by rw [rC r (by omega) (by omega)]; exact cF r (by omega) (by omega) (by omega) (by omega) (by omega))
    have tm : TmC T2 S.nt (cnS S) (ccS S) E := StC_TmC dI (by omega) sE
    have cw : CpW T2 S.nt (cnS S) (ccS S) E := CpW_of dI (by omega) sE g7' g6 (by omega)
    have bk := Bk_keep (fun r q1 q2 => rD r (by omega)) hX.1.2.2.2.2.1 hX.1.2.2.2.2.2.1 hX.1.2.2.2.2.2.2.1
    have e116 := rC 116 (by decide) (by decide)
    refine GIv_mk (m := m) (T := T2) (T2 := T) (nt := S.nt) (n := 0) (wo := wo) (cn := cnS S) (cc := ccS S) ⟨⟨hX.1.1, SlI_keep hX.1.2.1 (rD 108 (by omega)), fun i hi => ?_, f3, bk.1, bk.2.1, bk.2.2, tm⟩, ⟨CpB_keep (fun r q => rD r (by omega)) (c210 37 (by omega)) (c210 45 (by omega)) hX.2.1.1, CpV_keep (cE 7 (by decide) (by decide) (by decide)) (cE 8 (by decide) (by decide) (by decide)) (cE 9 (by decide) (by decide) (by decide)) (c210 35 (by omega)) (c210 36 (by omega)) (rD 244 (by omega)) hX.2.1.2.1, cw, fun t ht => ?_, ?_⟩, ⟨?_, g5, by decide, fun i hi => absurd hi (Nat.not_lt_zero i), ?_, ?_⟩, ⟨?_, ?_, hT, fun e => f4 e.symm, fun t ht hc => ?_⟩, giP_keep (rD 122 (by omega)) (rD 272 (by omega)) (rD 89 (by omega)) (rD 98 (by omega)) (rD 243 (by omega)) (by rw [cE 7 (by decide) (by decide) (by decide)]; exact Int.le_refl _) hX.2.2.2.2.1, giC_zero (by rw [E1]; exact y1) (by rw [E1]; exact y2) (by rw [e116]; exact y3) (by rw [e116]; exact y4)⟩
    · have : E (279 + 10 * i) 0 = 0 := by rw [rC _ (by omega) (by omega)]; exact kz i hi
      rw [this]
      exact ⟨Or.inl rfl, fun q => absurd q (by decide)⟩
    · have n24 := dI.1.2
      have tr := (sE.2.2.2.2.1 t ht).2.2.1
      rw [g8 t (by omega), tr.1, cE 7 (by decide) (by decide) (by decide)]
      have := hX.2.1.2.1.2.1
      exact ⟨rfl, fun q => absurd rfl q, by omega, by omega⟩
    · rw [rD 266 (by omega)]; exact hX.2.1.2.2.2.2
    · rw [rC 2 (by decide) (by decide)]; exact k23
    · rw [rD 4 (by omega)]; exact t5
    · rw [rD 215 (by omega)]; exact t6
    · rw [E1]; exact k16
    · rw [rC 5 (by decide) (by decide)]; exact k53
    · have ne : S.cl t ≠ [] := fun q => by
        have : (S.cl t).length = 0 := by rw [q]; rfl
        have hc : 0 < (S.cl t).length := hc
        omega
      obtain ⟨q1, -⟩ := (g7.2.1 t ht).2.2.2.2.2 ne
      have le := (cTo_le (cl := S.cl) (show t + 1 ≤ S.nt by omega)).2
      rw [rTo, if_neg ne] at le
      have i8 := dI.2.2.2.2.2.2.2.1.2
      rw [g6, show (24 * (nx : Int) + (t : Int)) = ((24 * nx + t : Nat) : Int) by omega, q1]
      show 1600 * (nx : Int) ≤ ((1600 * nx + rTo S.cl t : Nat) : Int) ∧ ((1600 * nx + rTo S.cl t : Nat) : Int) + (((S.cl t).length : Nat) : Int) < 1600 * (nx : Int) + 1600
      omega
end
