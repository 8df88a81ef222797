/-! ===== the invariant between calls ===== -/
section
variable {D D' : Nat → Int → Int} {T nt : Nat} {wo : Int → Int} {cn : Nat → Nat} {cc : Nat → Nat → Int × Int}
theorem CpB_keep (r : ∀ r, (89 ≤ r ∧ r ≤ 100) ∨ (238 ≤ r ∧ r ≤ 247) → D' r = D r) (h37 : D' 210 37 = D 210 37) (h45 : D' 210 45 = D 210 45) (h : CpB wo D) : CpB wo D' := by
  unfold CpB at h ⊢
  rw [h37, h45, r 89 (by decide), r 90 (by decide), r 91 (by decide), r 92 (by decide), r 93 (by decide), r 94 (by decide), r 95 (by decide), r 98 (by decide), r 99 (by decide), r 238 (by decide), r 239 (by decide), r 240 (by decide), r 241 (by decide), r 242 (by decide), r 243 (by decide), r 245 (by decide), r 246 (by decide), r 247 (by decide)]
  exact h
theorem CpV_keep (h7 : D' 1 7 = D 1 7) (h8 : D' 1 8 = D 1 8) (h9 : D' 1 9 = D 1 9) (h35 : D' 210 35 = D 210 35) (h36 : D' 210 36 = D 210 36) (h44 : D' 244 = D 244) (h : CpV D) : CpV D' := by
  unfold CpV at h ⊢
  rw [h7, h8, h9, h35, h36, h44]
  exact h
theorem wM_keep (r : ∀ r, 223 ≤ r → r ≤ 232 → D' r = D r) (h10 : D' 210 10 = D 210 10) : wM D' = wM D := by
  funext t j
  unfold wM
  rw [h10, r 224 (by decide) (by decide), r 223 (by decide) (by decide), r 232 (by decide) (by decide), r 231 (by decide) (by decide)]
  split
  · split
    · rfl
    · split
      · rfl
      · split
        · rw [r (223 + j.toNat) (by omega) (by omega)]
        · rfl
  · rfl
theorem CpW_keep (hT : isT T) (hn : nt ≤ 24) (r : ∀ r, 216 ≤ r → r ≤ 235 → D' r = D r) (h10 : D' 210 10 = D 210 10) (hr : ∀ r, T ≤ r → r ≤ T + 80 → r ≠ T + 8 → D' r = D r) (h : CpW T nt cn cc D) : CpW T nt cn cc D' := by
  have hT2 : T = 8 ∨ T = 129 := hT
  have ew : wM D' = wM D := wM_keep (fun x q1 q2 => r x (by omega) (by omega)) h10
  have ewc : ∀ t, t < nt → wC D' T t = wC D T t := wC_congr hn (fun x q1 q2 => hr x (by omega) (by omega) (by omega))
  obtain ⟨w1, w2, w3, w4, w5, w6, w7⟩ := h
  refine ⟨?_, ?_, ?_, ?_, ?_, ?_, ?_⟩
  · rw [h10]; exact w1
  · rw [h10, r 216 (by decide) (by decide), hr T (by omega) (by omega) (by omega)]; exact w2
  · rw [h10, r 221 (by decide) (by decide)]; exact w3
  · rw [ew]
    intro t ht
    rw [ewc t ht]; exact w4 t ht
  · intro t ht
    rw [ew, ewc t ht]; exact w5 t ht
  · intro t ht
    have := w6 t (by unfold ntM at ht ⊢; rw [h10, r 221 (by decide) (by decide)] at ht; exact ht)
    rw [h10, r 233 (by decide) (by decide), r 234 (by decide) (by decide), r 235 (by decide) (by decide)]
    exact this
  · rw [h10, r 219 (by decide) (by decide), r 220 (by decide) (by decide), hr (T + 4) (by omega) (by omega) (by omega), hr (T + 5) (by omega) (by omega) (by omega), hr T (by omega) (by omega) (by omega)]; exact w7
theorem CpC_keep (hn : nt ≤ 24) (h65 : D' 265 = D 265) (h66 : D' 266 = D 266) (h7 : D 1 7 ≤ D' 1 7) (hr : ∀ r, T ≤ r → r ≤ T + 80 → r ≠ T + 8 → D' r = D r) (h : CpC T nt D) : CpC T nt D' := by
  obtain ⟨c1, c2⟩ := h
  refine ⟨fun t ht => ?_, by rw [h66]; exact c2⟩
  rw [h65, h66, hr (T + 9 + 3 * t) (by omega) (by omega) (by omega)]
  obtain ⟨a1, a2, a3, a4⟩ := c1 t ht
  exact ⟨a1, a2, a3, by omega⟩
end
def giT (n : Nat) (D : Nat → Int → Int) : Prop := D 2 3 = (n : Nat) ∧ D 210 2 = (n : Nat) ∧ n ≤ 1500 ∧ (∀ i : Nat, i < n → D 3 i = D 211 i ∧ 0 ≤ D 3 i ∧ D 3 i < 128) ∧ (∀ i : Nat, i < 21 → D 4 i = kw32 i) ∧ ∀ w : Nat, w < 21 → D 215 w = wdV w
/-- the conditions of the wording in force lie in its own half -/
def giH (nt : Nat) (cn : Nat → Nat) (D : Nat → Int → Int) : Prop := ∀ t : Nat, t < nt → 0 < cn t → 1600 * D 210 10 ≤ D 233 (24 * D 210 10 + t) ∧ D 233 (24 * D 210 10 + t) + cn t < 1600 * D 210 10 + 1600
def giF (T T2 nt : Nat) (cn : Nat → Nat) (D : Nat → Int → Int) : Prop := D 1 6 = (T : Nat) ∧ D 5 3 = (T2 : Nat) ∧ isT T2 ∧ T ≠ T2 ∧ giH nt cn D
def giP (wo : Int → Int) (D : Nat → Int → Int) : Prop := (∀ h : Nat, h < 12 → D 122 h = D 272 h) ∧ (∀ a : Nat, a < 12 → 0 ≤ D 272 a ∧ D 272 a ≤ 99999999) ∧ (∀ k : Nat, k < (D 89 1).toNat → D 98 k ≤ D 1 7 ∧ 0 ≤ wo k ∧ wo k < D 89 0) ∧ ∀ q : Int, D 89 0 ≤ q → D 243 q = 0
/-- the caches -/
def giC (m T nt : Nat) (wo : Int → Int) (cn : Nat → Nat) (cc : Nat → Nat → Int × Int) (D : Nat → Int → Int) : Prop := chR m T nt wo cn cc D ∧ chS T nt wo cn cc D ∧ chW T nt wo cn cc D ∧ chC T nt wo cn cc D
def giX (s0 m T T2 nt n : Nat) (wo : Int → Int) (cn : Nat → Nat) (cc : Nat → Nat → Int × Int) (K : Nat → aKd) (D : Nat → Int → Int) (z : Nat × Nat) : Prop := CI s0 m T nt wo cn cc K D z ∧ Cp T nt wo cn cc D ∧ giT n D ∧ giF T T2 nt cn D ∧ giP wo D ∧ giC m T nt wo cn cc D
def GIv (s0 : Nat) (st : aSt) : Prop := ∃ (m T T2 nt n : Nat) (wo : Int → Int) (cn : Nat → Nat) (cc : Nat → Nat → Int × Int), giX s0 m T T2 nt n wo cn cc st.1 st.2.1 st.2.2
/-- rows that are inputs -/
def giN (T r : Nat) : Prop := (3 ≤ r ∧ r ≤ 4) ∨ inR T r ∨ r = 122 ∨ r = 211 ∨ (215 ≤ r ∧ r ≤ 235) ∨ (238 ≤ r ∧ r ≤ 247) ∨ r = 265 ∨ r = 266 ∨ r = 272
def giI (T : Nat) (D D' : Nat → Int → Int) : Prop := (∀ r, giN T r → D' r = D r) ∧ (∀ j : Int, 6 ≤ j → j ≤ 9 → D' 1 j = D 1 j) ∧ D' 2 3 = D 2 3 ∧ D' 5 3 = D 5 3 ∧ ∀ j : Int, j = 2 ∨ j = 10 ∨ j = 35 ∨ j = 36 ∨ j = 37 ∨ j = 45 → D' 210 j = D 210 j
section
variable {D D' : Nat → Int → Int} {T T2 nt m m' n s0 : Nat} {wo : Int → Int} {cn : Nat → Nat} {cc : Nat → Nat → Int × Int} {K K' : Nat → aKd} {z z' : Nat × Nat}
theorem giI_inR (h : giI T D D') : ∀ r, inR T r → D' r = D r := fun r q => h.1 r (Or.inr (Or.inl q))
theorem giI_vs (h : giI T D D') : vwC D' = vwC D ∧ stC D' = stC D := by
  have e7 := h.2.1 7 (by decide) (by decide)
  have e8 := h.2.1 8 (by decide) (by decide)
  have e9 := h.2.1 9 (by decide) (by decide)
  exact ⟨by unfold vwC; rw [e7, e8], by unfold stC; rw [e9]⟩
theorem giI_E (hC : CW T nt wo cn cc D) (h : giI T D D') : giE D D' wo T nt cn cc (vwC D) (vwC D') := by
  rw [(giI_vs h).1]; exact giE_of hC (giI_inR h)
theorem giI_keep (hX : giX s0 m T T2 nt n wo cn cc K D z) (h : giI T D D') (hI : CI s0 m' T nt wo cn cc K' D' z') (hc : giC m' T nt wo cn cc D') : giX s0 m' T T2 nt n wo cn cc K' D' z' := by
  obtain ⟨x1, ⟨p1, p2, p3, p4⟩, ⟨t1, t2, t3, t4, t5, t6⟩, ⟨f1, f2, f3, f4, f5⟩, ⟨u1, u2, u3⟩, -⟩ := hX
  have hT := x1.2.2.2.1
  have n24 := x1.2.2.2.2.2.2.2.2.1.1
  have hr := giI_inR h
  obtain ⟨r, c1, c2, c5, c210⟩ := h
  have e3 := r 3 (by unfold giN; omega)
  have e4 := r 4 (by unfold giN; omega)
  have e211 := r 211 (by unfold giN; omega)
  have e215 := r 215 (by unfold giN; omega)
  have e122 := r 122 (by unfold giN; omega)
  have e272 := r 272 (by unfold giN; omega)
  have e89 := hr 89 (by unfold inR; omega)
  have e98 := hr 98 (by unfold inR; omega)
  refine ⟨hI, ⟨CpB_keep (fun x q => r x (by unfold giN inR; omega)) (c210 37 (by omega)) (c210 45 (by omega)) p1, CpV_keep (c1 7 (by decide) (by decide)) (c1 8 (by decide) (by decide)) (c1 9 (by decide) (by decide)) (c210 35 (by omega)) (c210 36 (by omega)) (r 244 (by unfold giN; omega)) p2, CpW_keep hT n24 (fun x q1 q2 => r x (by unfold giN; omega)) (c210 10 (by omega)) (fun x q1 q2 q3 => hr x (by unfold inR; omega)) p3, CpC_keep n24 (r 265 (by unfold giN; omega)) (r 266 (by unfold giN; omega)) (by rw [c1 7 (by decide) (by decide)]; exact Int.le_refl _) (fun x q1 q2 q3 => hr x (by unfold inR; omega)) p4⟩, ⟨?_, ?_, t3, ?_, ?_, ?_⟩, ⟨?_, ?_, f3, f4, ?_⟩, ⟨?_, ?_, ?_⟩, hc⟩
  · rw [c2]; exact t1
  · rw [c210 2 (by omega)]; exact t2
  · rw [e3, e211]; exact t4
  · rw [e4]; exact t5
  · rw [e215]; exact t6
  · rw [c1 6 (by decide) (by decide)]; exact f1
  · rw [c5]; exact f2
  · unfold giH at f5 ⊢; rw [c210 10 (by omega), r 233 (by unfold giN; omega)]; exact f5
  · rw [e122, e272]; exact u1
  · rw [e272]; exact u2
  · rw [e89, e98, c1 7 (by decide) (by decide), r 243 (by unfold giN; omega)]; exact u3
/-- rows that the caches are -/
def giK (D D' : Nat → Int → Int) : Prop := (∀ r, ctR r ∨ r = 108 ∨ (116 ≤ r ∧ r ≤ 126) → D' r = D r) ∧ D' 1 10 = D 1 10 ∧ D' 1 11 = D 1 11
theorem giC_keep (hC : CW T nt wo cn cc D) (hE : giE D D' wo T nt cn cc (vwC D) (vwC D')) (hs : stC D' = stC D) (h72 : D' 272 = D 272) (hm : m ≤ m') (h : giK D D') (hc : giC m T nt wo cn cc D) : giC m' T nt wo cn cc D' := by
  obtain ⟨c1, c2, c3, c4⟩ := hc
  obtain ⟨r, h10, h11⟩ := h
  have r16 := r 116 (by omega)
  exact ⟨chR_keep hC hE hs hm h10 (fun x q => r x (Or.inl q)) c1, chS_keep hC hE hs (by rw [r16]) (r 117 (by omega)) c2, chW_keep hC hE hs (by rw [r16]) (by rw [r16]) (r 120 (by omega)) c3, chC_keep hC hE hs h72 h11 (r 121 (by omega)) (fun x q1 q2 => r x (by omega)) c4⟩
/-- what the reference may do between two calls -/
def FrG (D D' : Nat → Int → Int) : Prop := (∀ r, r ≠ 210 → (r < 236 ∨ (237 < r ∧ r < 248) ∨ r = 265 ∨ r = 266 ∨ r = 272 ∨ 277 < r) → D' r = D r) ∧ ∀ j : Int, j ≠ 0 → j ≠ 49 → j ≠ 50 → j ≠ 51 → j ≠ 54 → j ≠ 83 → D' 210 j = D 210 j
theorem FrG_M (h : FrM D D') : FrG D D' := ⟨fun r q1 q2 => h.1 r q1 (by omega), fun j q0 q1 q2 q3 q4 _ => h.2 j q0 q1 q2 q3 q4⟩
theorem FrG_Ca {stm : Int} (h : CaD D wo T nt cn cc stm D') : FrG D D' := ⟨fun r q1 q2 => h.1 r q1 q2, fun j _ q1 q2 q3 q4 q5 => h.2.1 j q1 q2 q3 q4 q5⟩
theorem FrG_E {a b : Int} (h : FrE (D2 D a b) D') : FrG D D' := ⟨fun r q1 q2 => by rw [h.1 r q1 (by omega), D2_row q1], fun j _ q1 q2 q3 q4 _ => by rw [h.2 j q3 q4, D2_210 q1 q2]⟩
theorem FrG_trans {A B C : Nat → Int → Int} (h1 : FrG A B) (h2 : FrG B C) : FrG A C := ⟨fun r q1 q2 => (h2.1 r q1 q2).trans (h1.1 r q1 q2), fun j q0 q1 q2 q3 q4 q5 => (h2.2 j q0 q1 q2 q3 q4 q5).trans (h1.2 j q0 q1 q2 q3 q4 q5)⟩
theorem FrG_I (hT : isT T) (h : FrG D D') : giI T D D' := by
  have hT2 : T = 8 ∨ T = 129 := hT
  have e1 := h.1 1 (by decide) (by decide)
  have e2 := h.1 2 (by decide) (by decide)
  have e5 := h.1 5 (by decide) (by decide)
  exact ⟨fun r q => h.1 r (by unfold giN inR at q; omega) (by unfold giN inR at q; omega), fun j _ _ => by rw [e1], by rw [e2], by rw [e5], fun j q => h.2 j (by omega) (by omega) (by omega) (by omega) (by omega) (by omega)⟩
theorem giX_ref (hX : giX s0 m T T2 nt n wo cn cc K D z) (h : FrG D D') : giX s0 m T T2 nt n wo cn cc K D' z := by
  have hT := hX.1.2.2.2.1
  have hT2 : T = 8 ∨ T = 129 := hT
  have hI := FrG_I hT h
  refine giI_keep hX hI (CI_keep hX.1 (fun r q => h.1 r (by unfold inR at q; omega) (by unfold inR at q; omega))) (giC_keep hX.1.2.2.2 (giI_E hX.1.2.2.2 hI) (giI_vs hI).2 (h.1 272 (by decide) (by decide)) (Nat.le_refl _) ⟨fun r q => h.1 r (by unfold ctR at q; omega) ?_, ?_, ?_⟩ hX.2.2.2.2.2)
  · unfold ctR at q; omega
  · rw [h.1 1 (by decide) (by decide)]
  · rw [h.1 1 (by decide) (by decide)]
theorem giX_thr {w : Int} (hX : giX s0 m T T2 nt n wo cn cc K D z) : giX s0 m T T2 nt n wo cn cc K (aUp D 210 0 w) z := giX_ref hX (FrG_M FrM_thr)
theorem giX_rnH (hX : giX s0 m T T2 nt n wo cn cc K D z) : RnH s0 m T nt wo cn cc K D z := ⟨hX.1, hX.2.2.2.1.1, hX.2.2.2.2.2.1⟩
theorem giX_StR (hX : giX s0 m T T2 nt n wo cn cc K D z) : StR D wo T (vwC D) 63 (stC D) := StR_of hX.1.2.2.2 hX.2.1.2.1 63 (vwC D)
/-- behind reckonIfNeeded -/
theorem FrI_I (hT : isT T) (h : FrI T D D') : giI T D D' := by
  have hT2 : T = 8 ∨ T = 129 := hT
  have r : ∀ r, r < 279 → r ≠ 1 → ¬ rkR T r → (r < 111 ∨ 115 < r) → D' r = D r := h.1
  have e2 := r 2 (by decide) (by decide) (by unfold rkR; omega) (by decide)
  have e5 := r 5 (by decide) (by decide) (by unfold rkR; omega) (by decide)
  have e210 := r 210 (by decide) (by decide) (by unfold rkR; omega) (by decide)
  refine ⟨fun x q => r x ?_ ?_ ?_ ?_, fun j q1 q2 => h.2 j (by omega), by rw [e2], by rw [e5], fun j q => by rw [e210]⟩
  · unfold giN inR at q; omega
  · unfold giN inR at q; omega
  · unfold giN inR at q; unfold rkR; omega
  · unfold giN inR at q; omega
theorem giX_rn (hX : giX s0 m T T2 nt n wo cn cc K D z) (h : RnK s0 m' T nt wo cn cc D K' D' z') : giX s0 m' T T2 nt n wo cn cc K' D' z' := by
  have hT := hX.1.2.2.2.1
  have hT2 : T = 8 ∨ T = 129 := hT
  obtain ⟨h1, h2, h3, h4, h5, h6⟩ := h
  have hI := FrI_I hT h2
  have hE := giI_E hX.1.2.2.2 hI
  have r : ∀ r, 116 ≤ r → r ≤ 128 → D' r = D r := fun r q1 q2 => h2.1 r (by omega) (by omega) (by unfold rkR; omega) (by omega)
  have e272 : D' 272 = D 272 := h2.1 272 (by decide) (by decide) (by unfold rkR; omega) (by decide)
  obtain ⟨c1, c2, c3, c4⟩ := hX.2.2.2.2.2
  have hs := (giI_vs hI).2
  have r16 := r 116 (by decide) (by decide)
  exact giI_keep hX hI h1 ⟨Or.inr ⟨h3, h4, h5⟩, chS_keep hX.1.2.2.2 hE hs (by rw [r16]) (r 117 (by decide) (by decide)) c2, chW_keep hX.1.2.2.2 hE hs (by rw [r16]) (by rw [r16]) (r 120 (by decide) (by decide)) c3, chC_keep hX.1.2.2.2 hE hs e272 (h2.2 11 (by decide)) (r 121 (by decide) (by decide)) (fun x q1 q2 => r x (by omega) (by omega)) c4⟩
/-- behind clearIfNeeded -/
theorem giX_cl {D2 : Nat → Int → Int} {nh : Nat} (hX : giX s0 m T T2 nt n wo cn cc K D z) (hn : D T 0 = (nh : Nat)) (hR : RnK s0 m' T nt wo cn cc D K' D' z') (h : ∀ r, (r < 121 ∨ 128 < r ∨ r = 122) → D2 r = D' r) (hC : ClC D' wo T nt cn cc nh D2) : giX s0 m' T T2 nt n wo cn cc K' (aUp D2 1 11 1) z' ∧ ClC (aUp D2 1 11 1) wo T nt cn cc nh (aUp D2 1 11 1) := by
  have hX' := giX_rn hX hR
  have hT := hX.1.2.2.2.1
  have hT2 : T = 8 ∨ T = 129 := hT
  have row : ∀ r, r ≠ 1 → aUp D2 1 11 1 r = D2 r := fun r q => aUp_row q
  have rw2 : ∀ r, r ≠ 1 → (r < 121 ∨ 128 < r ∨ r = 122) → aUp D2 1 11 1 r = D' r := fun r q1 q2 => by rw [row r q1]; exact h r q2
  have c1 : ∀ j : Int, j ≠ 11 → aUp D2 1 11 1 1 j = D' 1 j := fun j q => by rw [aUp_ne q, h 1 (by decide)]
  have e2 := rw2 2 (by decide) (by decide)
  have e5 := rw2 5 (by decide) (by decide)
  have e210 := rw2 210 (by decide) (by decide)
  have hI : giI T D' (aUp D2 1 11 1) := by
    refine ⟨fun x q => rw2 x ?_ ?_, fun j q1 q2 => c1 j (by omega), by rw [e2], by rw [e5], fun j q => by rw [e210]⟩
    · unfold giN inR at q; omega
    · unfold giN inR at q; omega
  have hE := giI_E hX'.1.2.2.2 hI
  have hs := (giI_vs hI).2
  have e272 := rw2 272 (by decide) (by decide)
  obtain ⟨a1, a2, a3, a4⟩ := giE_cl hX'.1.2.2.2 hE e272 (stC D')
  have hT0 : aUp D2 1 11 1 T = D T := by
    rw [rw2 T (by omega) (by omega)]
    exact giI_inR (FrI_I hT hR.2.1) T (by unfold inR; omega)
  have hcl : ClC (aUp D2 1 11 1) wo T nt cn cc nh (aUp D2 1 11 1) := by
    unfold ClC at hC ⊢
    rw [hs, a1, a2, a3, a4, row 121 (by decide), row 123 (by decide), row 124 (by decide), row 125 (by decide), row 126 (by decide)]
    exact hC
  obtain ⟨b1, b2, b3, b4⟩ := hX'.2.2.2.2.2
  have r16 := rw2 116 (by decide) (by decide)
  refine ⟨giI_keep hX' hI (CI_keep hX'.1 (fun r q => rw2 r (by unfold inR at q; omega) (by unfold inR at q; omega))) ⟨chR_keep hX'.1.2.2.2 hE hs (Nat.le_refl _) (c1 10 (by decide)) (fun r q => rw2 r (by unfold ctR at q; omega) (by unfold ctR at q; omega)) b1, chS_keep hX'.1.2.2.2 hE hs (by rw [r16]) (rw2 117 (by decide) (by decide)) b2, chW_keep hX'.1.2.2.2 hE hs (by rw [r16]) (by rw [r16]) (rw2 120 (by decide) (by decide)) b3, Or.inr ?_⟩, hcl⟩
  rw [hT0, hn, Int.toNat_natCast]
  exact hcl
end
