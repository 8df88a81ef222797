/-! ===== calls that tell ===== -/
abbrev FgA (D : Nat → Int → Int) : Nat → Int → Int := aUp (aUp (aUp (aUp D 1 10 0) 1 11 0) 116 1 0) 116 2 0
theorem FgA_row {D : Nat → Int → Int} {r : Nat} (h1 : r ≠ 1) (h2 : r ≠ 116) : FgA D r = D r := by
  show aUp (aUp (aUp (aUp D 1 10 0) 1 11 0) 116 1 0) 116 2 0 r = D r
  rw [aUp_row h2, aUp_row h2, aUp_row h1, aUp_row h1]
theorem FgA_1 {D : Nat → Int → Int} {j : Int} (h1 : j ≠ 10) (h2 : j ≠ 11) : FgA D 1 j = D 1 j := by
  show aUp (aUp (aUp (aUp D 1 10 0) 1 11 0) 116 1 0) 116 2 0 1 j = D 1 j
  rw [aUp_row (by decide), aUp_row (by decide), aUp_ne h2, aUp_ne h1]
theorem FgA_z {D : Nat → Int → Int} : FgA D 1 10 = 0 ∧ FgA D 1 11 = 0 ∧ FgA D 116 1 = 0 ∧ FgA D 116 2 = 0 := by
  show aUp (aUp (aUp (aUp D 1 10 0) 1 11 0) 116 1 0) 116 2 0 1 10 = 0 ∧ aUp (aUp (aUp (aUp D 1 10 0) 1 11 0) 116 1 0) 116 2 0 1 11 = 0 ∧ aUp (aUp (aUp (aUp D 1 10 0) 1 11 0) 116 1 0) 116 2 0 116 1 = 0 ∧ aUp (aUp (aUp (aUp D 1 10 0) 1 11 0) 116 1 0) 116 2 0 116 2 = 0
  refine ⟨?_, ?_, ?_, ?_⟩
  · rw [aUp_row (by decide), aUp_row (by decide), aUp_ne (by decide), aUp_at]
  · rw [aUp_row (by decide), aUp_row (by decide), aUp_at]
  · rw [aUp_ne (by decide), aUp_at]
  · exact aUp_at
/-- the terms T are the same, but for what was commuted -/
def TmS (T : Nat) (D D' : Nat → Int → Int) : Prop := (∀ r, T ≤ r → r ≤ T + 80 → r ≠ T + 8 → (∀ t : Nat, r ≠ T + 9 + 3 * t) → D' r = D r) ∧ ∀ (t : Nat) (j : Int), t < 24 → j ≠ 13 → j ≠ 14 → D' (T + 9 + 3 * t) j = D (T + 9 + 3 * t) j
section
variable {D D' : Nat → Int → Int} {T T2 nt m m' n n' s0 : Nat} {wo wo' : Int → Int} {cn : Nat → Nat} {cc : Nat → Nat → Int × Int} {K K' : Nat → aKd} {z z' : Nat × Nat}
theorem TmS_of (r : ∀ r, T ≤ r → r ≤ T + 80 → r ≠ T + 8 → D' r = D r) : TmS T D D' := ⟨fun x q1 q2 q3 _ => r x q1 q2 q3, fun t j ht _ _ => by rw [r (T + 9 + 3 * t) (by omega) (by omega) (by omega)]⟩
theorem wC_S (h : TmS T D D') {t : Nat} (ht : t < 24) {j : Int} (h1 : j ≠ 13) (h2 : j ≠ 14) : wC D' T t j = wC D T t j := by
  unfold wC
  split
  · exact h.2 t j ht h1 h2
  · split
    · rw [h.1 (T + 10 + 3 * t) (by omega) (by omega) (by omega) (fun t => by omega)]
    · rw [h.1 (T + 11 + 3 * t) (by omega) (by omega) (by omega) (fun t => by omega)]
theorem wEq_S (hn : nt ≤ 24) (h : TmS T D D') : wEq (wC D' T) (wC D T) nt := fun t ht => ⟨wC_S h (by omega) (by decide) (by decide), wC_S h (by omega) (by decide) (by decide), wC_S h (by omega) (by decide) (by decide), wC_S h (by omega) (by decide) (by decide), wC_S h (by omega) (by decide) (by decide), fun i _ => ⟨wC_S h (by omega) (by omega) (by omega), wC_S h (by omega) (by omega) (by omega)⟩⟩
theorem TmC_S (h : TmS T D D') (h14 : ∀ t : Nat, t < nt → 0 ≤ D' (T + 9 + 3 * t) 14 ∧ D' (T + 9 + 3 * t) 14 ≤ 999999) (hc : TmC T nt cn cc D) : TmC T nt cn cc D' := by
  obtain ⟨h4, h5, h6, h7, h8, -⟩ := hc
  have n24 := h5.1
  have eT : D' T = D T := h.1 T (by omega) (by omega) (by omega) (fun t => by omega)
  have e2 : D' (T + 2) = D (T + 2) := h.1 _ (by omega) (by omega) (by omega) (fun t => by omega)
  have e7 : D' (T + 7) = D (T + 7) := h.1 _ (by omega) (by omega) (by omega) (fun t => by omega)
  refine ⟨by rw [eT]; exact h4, ?_, ⟨fun x q1 q2 => ?_, fun t ht => ?_⟩, fun t ht => ?_, fun t ht => ?_, h14⟩
  · rw [eT]; exact wOk_wEq (wEq_S n24 h) h5
  · rw [eT] at q2
    rw [e2, nxT_w0 nt 0 (fun s hs => wC_S h (by omega) (by decide) (by decide))]; exact h6.1 x q1 q2
  · rw [h.2 t 12 (by omega) (by decide) (by decide), wC_S h (by omega) (by decide) (by decide), nxT_w0 (nt - (t + 1)) (t + 1) (fun s hs => wC_S h (by omega) (by decide) (by decide))]; exact h6.2 t ht
  · rw [wC_S h (by omega) (by decide) (by decide), wC_S h (by omega) (by decide) (by decide), wC_S h (by omega) (by decide) (by decide), wC_S h (by omega) (by decide) (by decide)]; exact h7 t ht
  · rw [h.2 t 10 (by omega) (by decide) (by decide), h.2 t 11 (by omega) (by decide) (by decide), e7]; exact h8 t ht
theorem CtD_S {a : Nat} {nh : Int} (hC : CtD D T a nt) (hok : wOk (wC D T) nt nh) (we : wEq (wC D' T) (wC D T) nt) (hr : ∀ r, a ≤ r → r ≤ a + 7 → D' r = D r) : CtD D' T a nt := by
  have h012 : ∀ t, t < nt → 0 ≤ wC D T t 0 ∧ wC D T t 0 < 12 := fun t ht => by
    have := (hok.2.2.2 t ht).1
    have := hok.2.2.1
    omega
  obtain ⟨x1, x2, x3⟩ := sl_eq (w' := wC D' T) (w := wC D T) (rm' := rmC D a) (rm := rmC D a) (pay' := payC D a) (pay := payC D a) (d' := D (a + 1)) (d := D (a + 1)) (nt := nt) we (fun t ht _ => rfl) (fun _ _ => rfl) h012 (fun _ _ _ => rfl) 2000 0 (D (a + 1)) (D (a + 1)) (fun _ _ _ => rfl)
  have e4 : rmC D' a = rmC D a := by funext t; show D' (a + 4) t = D (a + 4) t; rw [hr _ (by omega) (by omega)]
  have ep : payC D' a = payC D a := by funext t; show decide (bAnd (bShr (D' a 5) t) 1 = 1) = _; rw [hr a (by omega) (by omega)]
  obtain ⟨c1, c2, c3, c4⟩ := hC
  unfold CtD
  rw [e4, ep, hr a (by omega) (by omega), hr (a + 1) (by omega) (by omega), hr (a + 2) (by omega) (by omega), hr (a + 3) (by omega) (by omega), hr (a + 5) (by omega) (by omega), hr (a + 6) (by omega) (by omega), hr (a + 7) (by omega) (by omega), x1, x2]
  refine ⟨c1, c2, fun h q1 q2 => ?_, fun t ht => ?_⟩
  · rw [x3 h q1 q2, hs_eq we (fun t ht _ => rfl) (fun _ _ => rfl) rfl (x3 h q1 q2) nt (Nat.le_refl _)]
    exact c3 h q1 q2
  · have h0 := h012 t ht
    rw [bs_eq we (fun t ht _ => rfl) (fun _ _ => rfl) ht rfl (x3 _ h0.1 h0.2), au_eq we (fun t ht _ => rfl) (fun _ _ => rfl) ht rfl (x3 _ h0.1 h0.2), pd_eq we ht, (we t ht).2.1]
    exact c4 t ht
theorem SlV_S {nh : Int} (hok : wOk (wC D T) nt nh) (h : TmS T D D') (hr : ∀ r, 279 ≤ r → D' r = D r) (hV : SlV D T nt m) : SlV D' T nt m := fun i hi => by
  rw [hr (279 + 10 * i) (by omega)]
  exact ⟨(hV i hi).1, fun q => CtD_S ((hV i hi).2 q) hok (wEq_S hok.1 h) (fun r q1 q2 => hr r (by omega))⟩
theorem Bk_keep (r : ∀ r, 89 ≤ r → r ≤ 100 → D' r = D r) (h1 : ChR D wo) (h2 : BkB D) (h3 : OrdC D) : ChR D' wo ∧ BkB D' ∧ OrdC D' := by
  refine ⟨?_, ?_, ?_⟩
  · unfold ChR at h1 ⊢
    rw [r 89 (by omega) (by omega), r 100 (by omega) (by omega), r 97 (by omega) (by omega)]; exact h1
  · unfold BkB at h2 ⊢
    rw [r 89 (by omega) (by omega), r 90 (by omega) (by omega), r 91 (by omega) (by omega), r 92 (by omega) (by omega), r 93 (by omega) (by omega), r 94 (by omega) (by omega), r 95 (by omega) (by omega), r 99 (by omega) (by omega)]; exact h2
  · unfold OrdC at h3 ⊢
    rw [r 89 (by omega) (by omega), r 91 (by omega) (by omega), r 96 (by omega) (by omega)]; exact h3
theorem giT_keep (h3 : D' 3 = D 3) (h4 : D' 4 = D 4) (h211 : D' 211 = D 211) (h215 : D' 215 = D 215) (h23 : D' 2 3 = D 2 3) (h2 : D' 210 2 = D 210 2) (h : giT n D) : giT n D' := by
  unfold giT at h ⊢
  rw [h3, h4, h211, h215, h23, h2]; exact h
theorem giP_keep (h122 : D' 122 = D 122) (h272 : D' 272 = D 272) (h89 : D' 89 = D 89) (h98 : D' 98 = D 98) (h243 : D' 243 = D 243) (h7 : D 1 7 ≤ D' 1 7) (h : giP wo D) : giP wo D' := by
  unfold giP at h ⊢
  rw [h122, h272, h89, h98, h243]
  refine ⟨h.1, h.2.1, fun k hk => ?_, h.2.2.2⟩
  have := h.2.2.1 k hk
  omega
theorem giC_zero (h1 : D 1 10 = 0) (h2 : D 1 11 = 0) (h3 : D 116 1 = 0) (h4 : D 116 2 = 0) : giC m T nt wo cn cc D := ⟨Or.inl h1, Or.inl h3, Or.inl h4, Or.inl h2⟩
/-- a state whose terms are those of another -/
theorem giX_mk3 (hX : giX s0 m T T2 nt n wo cn cc K D z) (rT : ∀ r, T ≤ r → r ≤ T + 80 → r ≠ T + 8 → D' r = D r) (h108 : D' 108 = D 108) (h279 : ∀ r, 279 ≤ r → D' r = D r) (h6 : D' 1 6 = D 1 6) (h53 : D' 5 3 = D 5 3) (f5 : giH nt cn D') (b : ChR D' wo' ∧ BkB D' ∧ OrdC D') (p1 : CpB wo' D') (p2 : CpV D') (p3 : CpW T nt cn cc D') (p4 : CpC T nt D') (t : giT n' D') (u : giP wo' D') (c : giC m T nt wo' cn cc D') : giX s0 m T T2 nt n' wo' cn cc K D' z := by
  obtain ⟨⟨k1, k2, k3, kT, -, -, -, kt⟩, -, -, ⟨f1, f2, f3, f4, -⟩, -, -⟩ := hX
  have kt : TmC T nt cn cc D := kt
  have hS := TmS_of rT
  have n24 := kt.2.1.1
  have kt' : TmC T nt cn cc D' := TmC_S hS (fun t ht => by rw [rT (T + 9 + 3 * t) (by omega) (by omega) (by omega)]; exact kt.2.2.2.2.2 t ht) kt
  exact ⟨⟨k1, SlI_keep k2 h108, SlV_S kt.2.1 hS h279 k3, kT, b.1, b.2.1, b.2.2, kt'⟩, ⟨p1, p2, p3, p4⟩, t, ⟨by rw [h6]; exact f1, by rw [h53]; exact f2, f3, f4, f5⟩, u, c⟩
theorem giX_mk2 (hX : giX s0 m T T2 nt n wo cn cc K D z) (r : ∀ r, (T ≤ r ∧ r ≤ T + 80 ∧ r ≠ T + 8) ∨ r = 108 ∨ (216 ≤ r ∧ r ≤ 235) ∨ r = 265 ∨ r = 266 ∨ 279 ≤ r → D' r = D r) (h10 : D' 210 10 = D 210 10) (h6 : D' 1 6 = D 1 6) (h53 : D' 5 3 = D 5 3) (h7 : D 1 7 ≤ D' 1 7) (b : ChR D' wo' ∧ BkB D' ∧ OrdC D') (p1 : CpB wo' D') (p2 : CpV D') (t : giT n' D') (u : giP wo' D') (c : giC m T nt wo' cn cc D') : giX s0 m T T2 nt n' wo' cn cc K D' z := by
  have rT : ∀ r, T ≤ r → r ≤ T + 80 → r ≠ T + 8 → D' r = D r := fun x q1 q2 q3 => r x (by omega)
  have n24 : nt ≤ 24 := hX.1.2.2.2.2.2.2.2.2.1.1
  refine giX_mk3 hX rT (r 108 (by omega)) (fun x q => r x (by omega)) h6 h53 ?_ b p1 p2 (CpW_keep hX.1.2.2.2.1 n24 (fun x q1 q2 => r x (by omega)) h10 rT hX.2.1.2.2.1) (CpC_keep n24 (r 265 (by omega)) (r 266 (by omega)) h7 rT hX.2.1.2.2.2) t u c
  have f5 := hX.2.2.2.1.2.2.2.2
  unfold giH at f5 ⊢
  rw [h10, r 233 (by omega)]
  exact f5
end
