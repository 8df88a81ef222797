/-! ===== class and reference hold the same book, wording and view ===== -/
def CpB (wo : Int → Int) (D : Nat → Int → Int) : Prop := (D 210 37 = D 89 0 ∧ D 210 45 = D 89 1) ∧ (∀ q : Int, 0 ≤ q → q < D 89 0 → D 238 q = D 90 q ∧ D 239 q = D 91 q ∧ D 240 q = D 92 q ∧ D 241 q = D 93 q ∧ D 242 q = D 94 q ∧ D 243 q = D 95 q) ∧ ∀ k : Nat, (k : Int) < D 89 1 → D 245 k = wo k ∧ D 246 k = D 98 k ∧ D 247 k = D 99 k
def CpV (D : Nat → Int → Int) : Prop := (D 210 35 = D 1 7 ∧ D 210 36 = D 1 8) ∧ (0 ≤ D 1 7 ∧ D 1 7 ≤ 9999) ∧ (-1 ≤ D 1 8 ∧ D 1 8 ≤ D 1 7) ∧ ∀ s : Nat, s < 6 → (D 244 s = 0 ∨ D 244 s = 1) ∧ tb (D 1 9) s = decide (D 244 s = 1)
def CpW (T nt : Nat) (cn : Nat → Nat) (cc : Nat → Nat → Int × Int) (D : Nat → Int → Int) : Prop := (D 210 10 = 0 ∨ D 210 10 = 1) ∧ D 216 (D 210 10) = D T 0 ∧ D 221 (D 210 10) = nt ∧ wEq (wM D) (wC D T) nt ∧ (∀ t, t < nt → (¬ wC D T t 1 = 0 → wM D t 3 = wC D T t 3 ∧ wM D t 5 = wC D T t 5 ∧ wM D t 6 = wC D T t 6) ∧ (0 ≤ wM D t 3 ∧ wM D t 3 ≤ 999999) ∧ (0 ≤ wM D t 5 ∧ wM D t 5 ≤ 9) ∧ (0 ≤ wM D t 6 ∧ wM D t 6 ≤ 999999)) ∧ CoM D cn cc ∧ (0 < D T 0 → ∀ c : Int, 0 ≤ c → c < 8 → D 219 (8 * D 210 10 + c) = D (T + 4) c ∧ D 220 (8 * D 210 10 + c) = D (T + 5) c)
def CpC (T nt : Nat) (D : Nat → Int → Int) : Prop := (∀ t : Nat, t < nt → D 265 t = D (T + 9 + 3 * t) 13 ∧ (D 265 t ≠ -1 → D 266 t = D (T + 9 + 3 * t) 14) ∧ -1 ≤ D 265 t ∧ D 265 t ≤ D 1 7) ∧ ∀ t : Nat, t < 24 → 0 ≤ D 266 t ∧ D 266 t ≤ 999999
def Cp (T nt : Nat) (wo : Int → Int) (cn : Nat → Nat) (cc : Nat → Nat → Int × Int) (D : Nat → Int → Int) : Prop := CpB wo D ∧ CpV D ∧ CpW T nt cn cc D ∧ CpC T nt D
def StR (D : Nat → Int → Int) (wo : Int → Int) (T : Nat) (v st stm : Int) : Prop := ∀ q : Int, 0 ≤ q → q < D 89 0 → 0 < amC D wo v q → D 90 q < D T 0 → ((D 244 (D 94 q) = 0 ∧ bAnd (bShr st (D 94 q)) 1 = 1) ↔ bAnd (bShr stm (D 94 q)) 1 = 1)
/-- events depend on what the losses are alone -/
theorem EV_congr {hr pl ca sp hrs mls hr' pl' ca' sp' hrs' mls' : Int → Int} {ms : Int} : ∀ (xs : List Int) (E : ES), (∀ q, q ∈ xs → hr' q = hr q ∧ pl' q = pl q ∧ ca' q = ca q ∧ sp' q = sp q ∧ hrs' (ca q) = hrs (ca q) ∧ mls' (ca q) = mls (ca q)) → (∀ k : Nat, k < E.1 → hr' (E.2.1 k) = hr (E.2.1 k) ∧ pl' (E.2.1 k) = pl (E.2.1 k) ∧ ca' (E.2.1 k) = ca (E.2.1 k)) → xs.foldl (evStep hr' pl' ca' sp' hrs' mls' ms) E = xs.foldl (evStep hr pl ca sp hrs mls ms) E := by
  intro xs
  induction xs with
  | nil => intro E _ _; rfl
  | cons q xs ih =>
    intro E h1 h2
    obtain ⟨a1, a2, a3, a4, a5, a6⟩ := h1 q (List.mem_cons_self)
    have ep : evPick hr' pl' ca' sp' hrs' mls' ms q E = evPick hr pl ca sp hrs mls ms q E := by
      unfold evPick
      rw [a4, efF_congr (hr := hr') (pl := pl') (ca := ca') (hrs := hrs') (mls := mls') (fi := E.2.1) (hr' := hr) (pl' := pl) (ca' := ca) (hrs' := hrs) (mls' := mls) (fi' := E.2.1) ⟨a3, a1, a2⟩ ⟨by rw [a3]; exact a5, by rw [a3]; exact a6⟩ (fun k hk => ⟨rfl, (h2 k hk).2.2, (h2 k hk).1, (h2 k hk).2.1⟩)]
    have es : evStep hr' pl' ca' sp' hrs' mls' ms E q = evStep hr pl ca sp hrs mls ms E q := by unfold evStep; rw [ep]
    show xs.foldl _ (evStep hr' pl' ca' sp' hrs' mls' ms E q) = xs.foldl _ (evStep hr pl ca sp hrs mls ms E q)
    rw [es]
    refine ih _ (fun x hx => h1 x (List.mem_cons_of_mem _ hx)) (fun k hk => ?_)
    unfold evStep at hk ⊢
    split at hk
    · rename_i y
      rw [if_pos y]
      have hk' : k < E.1 + 1 := hk
      show hr' (uF E.2.1 E.1 q k) = _ ∧ pl' (uF E.2.1 E.1 q k) = pl (uF E.2.1 E.1 q k) ∧ ca' (uF E.2.1 E.1 q k) = ca (uF E.2.1 E.1 q k)
      rcases (by omega : k < E.1 ∨ k = E.1) with y2 | y2
      · have e : uF E.2.1 E.1 q k = E.2.1 k := uF_ne (by omega)
        show hr' (uF E.2.1 E.1 q k) = hr (uF E.2.1 E.1 q k) ∧ _
        rw [e]; exact h2 k y2
      · subst y2
        have e : uF E.2.1 E.1 q E.1 = q := uF_at
        show hr' (uF E.2.1 E.1 q E.1) = hr (uF E.2.1 E.1 q E.1) ∧ _
        rw [e]; exact ⟨a1, a2, a3⟩
    · rename_i y
      rw [if_neg y]
      exact h2 k hk
theorem cu_agree2 {W W' : WdQ} {cs cs' : Nat → Int} {a b : Int} (hW : WEq W' W) (h1 : ∀ t, t < W.nt → W.cm t = true → cs' t = cs t) : cuF W' cs' a b W.nt = cuF W cs a b W.nt := by
  have e := cu_agree (cs := fun t => if W.cm t = true then cs t else 0) (cs' := fun t => if W.cm t = true then cs t else 0) (a := a) (b := b) hW (fun _ _ => rfl)
  have e1 : cuF W' cs' a b W.nt = cuF W' (fun t => if W.cm t = true then cs t else 0) a b W.nt := sumF_congr fun t ht => by
    have hm := (hW.2.2 t ht).2.1
    by_cases q : W.cm t = true
    · rw [hm, if_pos q, if_pos q]
      show cuT W'.w t (cs' t) a b _ = cuT W'.w t (if W.cm t = true then cs t else 0) a b _
      rw [if_pos q, h1 t ht q]
    · rw [hm, if_neg q, if_neg q]
  have e2 : cuF W cs a b W.nt = cuF W (fun t => if W.cm t = true then cs t else 0) a b W.nt := sumF_congr fun t ht => by
    by_cases q : W.cm t = true
    · rw [if_pos q, if_pos q]
      show cuT W.w t (cs t) a b _ = cuT W.w t (if W.cm t = true then cs t else 0) a b _
      rw [if_pos q]
    · rw [if_neg q, if_neg q]
  rw [e1, e2, e]
theorem An_agree {W W' : WdQ} {us us' ra ra' : Nat → Int} {Q Q' : EvQ} {e : Nat} {D : Nat → Int → Int} (hW : WEq W' W) (hQ : QEq Q' Q) (h0 : ∀ t, t < W.nt → 0 ≤ W.w t 0 ∧ W.w t 0 < 12) (hu : ∀ t, t < W.nt → us' t = us t) (hra : ∀ t, t < W.nt → ra' t = ra t) (h : AnM W' us' ra' Q' e D) : AnM W us ra Q e D := by
  obtain ⟨s1, s2, -⟩ := sl_agree hW hQ h0 hu
  obtain ⟨e1, e2⟩ := ev_agree hW hQ h0 hu
  obtain ⟨g1, g2, g3, g4⟩ := h
  refine ⟨by rw [g1, s1], by rw [g2, s2], fun x q1 q2 => ?_, fun t ht => ?_⟩
  · obtain ⟨b1, b2, b3⟩ := g3 x q1 q2
    rw [b1, b2, b3, hQ.1 x q1 q2, (e1 x q1 q2).1, (e1 x q1 q2).2]
    exact ⟨rfl, rfl, rfl⟩
  · have hn : W'.nt = W.nt := hW.1
    obtain ⟨b1, b2, b3, b4, b5⟩ := g4 t (by omega)
    obtain ⟨c1, c2, c3⟩ := e2 t ht
    have r := rs_agree (ra := ra) (ra' := ra') (U := usP W us Q) (U' := usP W' us' Q') hW ht (hra t ht) c2
    rw [b1, b2, b3, b4, b5, c1, c2, c3, r.1, r.2]
    exact ⟨rfl, rfl, rfl, rfl, rfl⟩
section
variable {D : Nat → Int → Int} {T nt : Nat} {wo : Int → Int} {cn : Nat → Nat} {cc : Nat → Nat → Int × Int}
abbrev D2 (D : Nat → Int → Int) (sp st : Int) : Nat → Int → Int := aUp (aUp D 210 49 sp) 210 50 st
theorem D2_row {r : Nat} {sp st : Int} (h : r ≠ 210) : D2 D sp st r = D r := by unfold D2; rw [aUp_row h, aUp_row h]
theorem D2_210 {j sp st : Int} (h1 : j ≠ 49) (h2 : j ≠ 50) : D2 D sp st 210 j = D 210 j := by unfold D2; rw [aUp_ne h2, aUp_ne h1]
theorem D2_wM {sp st : Int} : wM (D2 D sp st) = wM D := by
  funext t j
  unfold wM
  rw [D2_210 (by decide) (by decide), D2_row (r := 224) (by decide), D2_row (r := 223) (by decide), D2_row (r := 223 + j.toNat) (by omega), D2_row (r := 232) (by decide), D2_row (r := 231) (by decide)]
theorem D2_vw {sp st : Int} : vwM (D2 D sp st) = vwM D := by
  unfold vwM
  rw [D2_210 (by decide) (by decide), D2_210 (by decide) (by decide)]
theorem vw_eq (h : CpV D) : vwM D = vwC D := by
  obtain ⟨⟨a1, a2⟩, -, a3, -⟩ := h
  unfold vwM vwC
  rw [a1, a2]
  by_cases q : D 1 8 = -1
  · rw [if_pos q, if_pos (by omega)]
  · rw [if_neg q, if_neg (by omega)]
theorem am_eqM {sp st q : Int} (hB : CpB wo D) (hV : CpV D) : amM (D2 D sp st) q = amC D wo (vwC D) q := by
  unfold amM amC
  rw [D2_row (by decide), D2_row (by decide), D2_row (by decide), D2_vw, vw_eq hV, D2_210 (by decide) (by decide), hB.1.2]
  exact amF_congr fun k hk => by
    have := hB.2.2 k (by omega)
    exact ⟨this.1, this.2.1, this.2.2⟩
theorem MbL_of {sp st : Int} (hC : CW T nt wo cn cc D) (h : Cp T nt wo cn cc D) : MbL (D2 D sp st) ∧ StW (D2 D sp st) (D T 0) ∧ CoM (D2 D sp st) cn cc ∧ (∀ k : Nat, k < (D2 D sp st 210 45).toNat → 0 ≤ D2 D sp st 247 k ∧ D2 D sp st 247 k ≤ 100000) ∧ ∀ t : Nat, t < ntM (D2 D sp st) → 0 ≤ D2 D sp st 266 t ∧ D2 D sp st 266 t ≤ 999999 := by
  obtain ⟨hT, hcr, hbk, hor, h4, h5, h6, h7, h8, h9⟩ := hC
  obtain ⟨⟨⟨b1, b2⟩, b3, b4⟩, hV, ⟨w1, w2, w3, w4, w5, w6, w7⟩, c1, c2⟩ := h
  have e10 : D2 D sp st 210 10 = D 210 10 := D2_210 (by decide) (by decide)
  have e37 : D2 D sp st 210 37 = D 89 0 := by rw [D2_210 (by decide) (by decide), b1]
  have e45 : D2 D sp st 210 45 = D 89 1 := by rw [D2_210 (by decide) (by decide), b2]
  have ent : ntM (D2 D sp st) = nt := by unfold ntM; rw [e10, D2_row (by decide), w3]; omega
  have n24 := h5.1
  refine ⟨⟨⟨by rw [e37]; exact hcr.2.2.2.2.1, by rw [e37]; exact hcr.2.2.2.2.2, by rw [e45]; exact hcr.2.2.1, by rw [e45]; exact hcr.2.2.2.1, by rw [e10]; omega, by rw [e10]; omega⟩, fun q q1 q2 => ?_⟩, ⟨by rw [e10]; exact w1, by rw [e10, D2_row (by decide), w3]; omega, ?_, fun t ht => ?_⟩, fun t ht => ?_, fun k hk => ?_, fun t ht => ?_⟩
  · rw [e37] at q2
    obtain ⟨a1, a2, a3, a4, a5, a6⟩ := b3 q q1 q2
    rw [D2_row (by decide), D2_row (by decide), D2_row (by decide), D2_row (by decide), D2_row (by decide), D2_row (by decide), a1, a2, a3, a4, a5, a6]
    exact hbk.1 q q1 q2
  · rw [ent, D2_wM]
    refine ⟨h5.1, h5.2.1, h5.2.2.1, fun t ht => ?_⟩
    obtain ⟨x0, x1, x2, x4, x7, xp⟩ := w4 t ht
    obtain ⟨g0, g1, g2, g4, g7, gp, gs⟩ := h5.2.2.2 t ht
    rw [x0, x1, x2, x4, x7]
    refine ⟨g0, g1, g2, g4, g7, fun i hi => ?_, ?_⟩
    · rw [(xp i hi).1, (xp i hi).2]; exact gp i hi
    · rw [sumF_congr (g := fun i : Nat => wC D T t (200 + i)) (fun i hi => (xp i (by omega)).2)]; exact gs
  · rw [ent] at ht
    rw [D2_wM]
    obtain ⟨x1, x2, x3, x4⟩ := w5 t ht
    refine ⟨x2, x3, x4, fun q => ?_⟩
    rw [(w4 t ht).2.1] at q
    rw [(x1 q).1]
    exact (h7 t ht).2.2.2 q
  · rw [ent] at ht
    have := w6 t (by unfold ntM; rw [w3]; omega)
    rw [e10, D2_row (by decide), D2_row (by decide), D2_row (by decide)]
    exact this
  · rw [e45] at hk
    rw [D2_row (by decide), (b4 k (by omega)).2.2]
    exact hbk.2 k hk
  · rw [ent] at ht
    rw [D2_row (by decide)]
    exact c2 t (by omega)
theorem xs_eq {sp st stm : Int} {xs : List Int} (hC : CW T nt wo cn cc D) (h : Cp T nt wo cn cc D) (hst : StR D wo T (vwC D) st stm) (hx : isXs (D2 D sp st) xs) : xs = xsC D wo T (vwC D) stm (D 89 0).toNat := by
  have xf := (evX_facts (v := vwC D) (stm := stm) (ms := -1) hC).2.2.1
  have hB := h.1
  have e37 : D2 D sp st 210 37 = D 89 0 := by rw [D2_210 (by decide) (by decide), hB.1.1]
  have e10 : D2 D sp st 210 10 = D 210 10 := D2_210 (by decide) (by decide)
  have mem : ∀ q, q ∈ xs ↔ q ∈ xsC D wo T (vwC D) stm (D 89 0).toNat := fun q => by
    rw [xf q, hx.2 q, e37]
    refine and_congr_right fun hq => ?_
    obtain ⟨a1, a2, a3, a4, a5, a6⟩ := hB.2.1 q hq.1 hq.2
    unfold cntM cntC
    rw [am_eqM hB h.2.1, D2_row (r := 238) (by decide), D2_row (r := 216) (by decide), D2_row (r := 244) (by decide), D2_row (r := 242) (by decide), e10, h.2.2.1.2.1, a1, a5, show D2 D sp st 210 50 = st from aUp_at]
    constructor
    · intro x
      exact decide_eq_true ⟨x.1, x.2.1, (hst q hq.1 hq.2 x.1 x.2.1).mp x.2.2⟩
    · intro x
      have x := of_decide_eq_true x
      exact ⟨x.1, x.2.1, (hst q hq.1 hq.2 x.1 x.2.1).mpr x.2.2⟩
  have srt := xsC_sorted (wo := wo) (T := T) (v := vwC D) (stm := stm) (i := (D 89 0).toNat) hC.2.2.2.1 (by have := hC.2.1.2.2.2.2.1; omega)
  refine sorted_eq (κ := fun q => D 91 q * 60 + q) ?_ srt mem
  refine List.Pairwise.imp_of_mem (fun {a b} ha hb hab => ?_) hx.1
  have qa := ((hx.2 a).mp ha).1
  have qb := ((hx.2 b).mp hb).1
  rw [e37] at qa qb
  rw [D2_row (by decide), (hB.2.1 a qa.1 qa.2).2.1, (hB.2.1 b qb.1 qb.2).2.1] at hab
  exact hab
theorem ev_eqM {sp st stm : Int} (hC : CW T nt wo cn cc D) (h : Cp T nt wo cn cc D) : evM (D2 D sp st) (xsC D wo T (vwC D) stm (D 89 0).toNat) = evX D wo T (vwC D) stm sp := by
  have xf := (evX_facts (v := vwC D) (stm := stm) (ms := -1) hC).2.2.1
  unfold evM evX evC EV
  rw [show D2 D sp st 210 49 = sp by unfold D2; rw [aUp_ne (by decide), aUp_at], D2_210 (by decide) (by decide), D2_row (by decide), D2_row (by decide), D2_row (by decide), D2_row (by decide), D2_row (by decide), D2_row (by decide)]
  refine EV_congr _ _ (fun q hq => ?_) (fun k hk => absurd hk (Nat.not_lt_zero k))
  have hq2 := of_decide_eq_true ((xf q).mp hq).2
  have hq := ((xf q).mp hq).1
  obtain ⟨a1, a2, a3, a4, a5, a6⟩ := h.1.2.1 q hq.1 hq.2
  have c0 := (hC.2.2.1.1 q hq.1 hq.2).1
  have c := (hC.2.2.1.1 q hq.1 hq.2).2.2.2.1
  have w7 := h.2.2.1.2.2.2.2.2.2 (by have := hq2.2.1; omega) (D 93 q) c.1 c.2
  exact ⟨a2, a3, a4, a6, w7.1, w7.2⟩
theorem WqM_eq {sp st : Int} (hC : CW T nt wo cn cc D) (h : Cp T nt wo cn cc D) : WEq (WqM (D2 D sp st) cn cc) (WqC D T nt (vwC D) cn cc) := by
  have e10 : D2 D sp st 210 10 = D 210 10 := D2_210 (by decide) (by decide)
  obtain ⟨hB, hV, ⟨w1, w2, w3, w4, w5, w6, w7⟩, c1, c2⟩ := h
  have ent : ntM (D2 D sp st) = nt := by unfold ntM; rw [e10, D2_row (by decide), w3]; omega
  refine ⟨ent, ?_, fun t ht => ⟨fun q => ?_, ?_, rfl, rfl⟩⟩
  · show wEq (wM (D2 D sp st)) (wC D T) nt
    rw [D2_wM]; exact w4
  · show wM (D2 D sp st) t 3 = wC D T t 3 ∧ wM (D2 D sp st) t 5 = wC D T t 5 ∧ wM (D2 D sp st) t 6 = wC D T t 6
    rw [D2_wM]
    exact (w5 t ht).1 q
  · show decide (0 ≤ D2 D sp st 265 t ∧ D2 D sp st 265 t ≤ vwM (D2 D sp st)) = decide (D (T + 9 + 3 * t) 13 ≠ -1 ∧ D (T + 9 + 3 * t) 13 ≤ vwC D)
    obtain ⟨x1, x2, x3, x4⟩ := c1 t ht
    rw [D2_row (by decide), D2_vw, vw_eq hV, x1]
    refine decide_eq_decide.mpr ?_
    rw [x1] at x3
    constructor <;> intro y <;> exact ⟨by omega, y.2⟩
theorem QE_eq {sp st stm : Int} (hC : CW T nt wo cn cc D) (h : Cp T nt wo cn cc D) : ∀ e, e < (evX D wo T (vwC D) stm sp).1 → QEq (QE (D2 D sp st) (xsC D wo T (vwC D) stm (D 89 0).toNat) e) (qX D wo T (vwC D) stm sp e) := by
  intro e he
  have xf := evX_facts (v := vwC D) (stm := stm) (ms := sp) hC
  have ee := ev_eqM (sp := sp) (st := st) (stm := stm) hC h
  have e37 : D2 D sp st 210 37 = D 89 0 := by rw [D2_210 (by decide) (by decide), h.1.1.1]
  have hf := (xf.2.2.1 _).mp (xf.1.2.2.2.2.1 e he).1
  obtain ⟨a1, a2, a3, a4, a5, a6⟩ := h.1.2.1 _ hf.1.1 hf.1.2
  unfold QE qX QX
  rw [ee, e37]
  refine ⟨fun x q1 q2 => ?_, ?_, ?_, rfl⟩
  · show dF (D2 D sp st 238) (amM (D2 D sp st)) (D 89 0).toNat (evX D wo T (vwC D) stm sp).2.2.1 e x = dF (D 90) (amC D wo (vwC D)) (D 89 0).toNat (evX D wo T (vwC D) stm sp).2.2.1 e x
    unfold dF
    refine sumF_congr fun k hk => ?_
    rw [D2_row (by decide), (h.1.2.1 k (by omega) (by omega)).1, am_eqM h.1 h.2.1]
  · show D2 D sp st 241 _ = D 93 _
    rw [D2_row (by decide)]; exact a4
  · show D2 D sp st 239 _ / 24 = D 91 _ / 24
    rw [D2_row (by decide), a2]
end
