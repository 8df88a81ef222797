/-! ===== all that a reckoning of the class rests on; what comes of it, as plain functions of the book and the wording ===== -/
def inR (T r : Nat) : Prop := (89 ≤ r ∧ r ≤ 100) ∨ (T ≤ r ∧ r ≤ T + 80 ∧ r ≠ T + 8)
def CW (T nt : Nat) (wo : Int → Int) (cn : Nat → Nat) (cc : Nat → Nat → Int × Int) (D : Nat → Int → Int) : Prop := isT T ∧ ChR D wo ∧ BkB D ∧ OrdC D ∧ D T 1 = nt ∧ wOk (wC D T) nt (D T 0) ∧ ChT D T nt (D T 0) ∧ WcB D T nt ∧ CoC D T nt cn cc ∧ ∀ t : Nat, t < nt → 0 ≤ D (T + 9 + 3 * t) 14 ∧ D (T + 9 + 3 * t) 14 ≤ 999999
def CI (s0 m T nt : Nat) (wo : Int → Int) (cn : Nat → Nat) (cc : Nat → Nat → Int × Int) (K : Nat → aKd) (D : Nat → Int → Int) (z : Nat × Nat) : Prop := Kn K ∧ SlI s0 m K D z ∧ SlV D T nt m ∧ CW T nt wo cn cc D
def evX (D : Nat → Int → Int) (wo : Int → Int) (T : Nat) (v stm ms : Int) : ES := evC D T ms (xsC D wo T v stm (D 89 0).toNat)
def ncX (D : Nat → Int → Int) (wo : Int → Int) (T : Nat) (v stm : Int) : Nat := (xsC D wo T v stm (D 89 0).toNat).length
def qX (D : Nat → Int → Int) (wo : Int → Int) (T : Nat) (v stm ms : Int) : Nat → EvQ := QX D wo v (evX D wo T v stm ms)
def owX (D : Nat → Int → Int) (wo : Int → Int) (T nt : Nat) (cn : Nat → Nat) (cc : Nat → Nat → Int × Int) (v stm ms a b : Int) : Int := owP (WqC D T nt v cn cc) (qX D wo T v stm ms) (evX D wo T v stm ms).1 a b + cuF (WqC D T nt v cn cc) (fun t => D (T + 9 + 3 * t) 14) a b nt
def drX (D : Nat → Int → Int) (wo : Int → Int) (T : Nat) (v stm ms h : Int) : Int := sumF (fun i => (qX D wo T v stm ms i).d h) (evX D wo T v stm ms).1
def buX (D : Nat → Int → Int) (wo : Int → Int) (T nt : Nat) (cn : Nat → Nat) (cc : Nat → Nat → Int × Int) (v stm ms h : Int) : Int := drX D wo T v stm ms h + sumF (fun i : Nat => owX D wo T nt cn cc v stm ms h i - owX D wo T nt cn cc v stm ms i h) 12
def RkX (D : Nat → Int → Int) (wo : Int → Int) (T nt : Nat) (cn : Nat → Nat) (cc : Nat → Nat → Int × Int) (v stm ms : Int) (D' : Nat → Int → Int) : Prop := RkP D T nt (WqC D T nt v cn cc) (qX D wo T v stm ms) (evX D wo T v stm ms) (ncX D wo T v stm) D'
theorem inR_T {T r : Nat} (hT : isT T) (h : inR T r) : r < 279 ∧ ¬ rkR T r ∧ (r < 111 ∨ 115 < r) := by
  unfold inR at h; unfold rkR
  have hT2 : T = 8 ∨ T = 129 := hT
  omega
section
variable {D D' : Nat → Int → Int} {T nt : Nat} {wo : Int → Int} {cn : Nat → Nat} {cc : Nat → Nat → Int × Int} {v stm ms : Int}
theorem wC_keep (h24 : nt ≤ 24) (hr : ∀ r, inR T r → D' r = D r) : ∀ t, t < nt → wC D' T t = wC D T t := wC_congr h24 (fun r q1 q2 => hr r (by unfold inR; omega))
theorem CW_keep (h : CW T nt wo cn cc D) (hr : ∀ r, inR T r → D' r = D r) : CW T nt wo cn cc D' := by
  obtain ⟨hT, h1, h2, h3, h4, h5, h6, h7, h8, h9⟩ := h
  have n24 := h5.1
  have b : ∀ r, 89 ≤ r → r ≤ 100 → D' r = D r := fun r q1 q2 => hr r (Or.inl ⟨q1, q2⟩)
  have eT : D' T = D T := hr T (Or.inr ⟨by omega, by omega, by omega⟩)
  have e2 : D' (T + 2) = D (T + 2) := hr _ (Or.inr ⟨by omega, by omega, by omega⟩)
  have e7 : D' (T + 7) = D (T + 7) := hr _ (Or.inr ⟨by omega, by omega, by omega⟩)
  have et : ∀ t, t < nt → D' (T + 9 + 3 * t) = D (T + 9 + 3 * t) := fun t ht => hr _ (Or.inr ⟨by omega, by omega, by omega⟩)
  have ew := wC_keep (nt := nt) n24 hr
  refine ⟨hT, ?_, ?_, ?_, ?_, ?_, ?_, ?_, ?_, ?_⟩
  · unfold ChR at h1 ⊢
    rw [b 89 (by omega) (by omega), b 100 (by omega) (by omega), b 97 (by omega) (by omega)]; exact h1
  · unfold BkB at h2 ⊢
    rw [b 89 (by omega) (by omega), b 90 (by omega) (by omega), b 91 (by omega) (by omega), b 92 (by omega) (by omega), b 93 (by omega) (by omega), b 94 (by omega) (by omega), b 95 (by omega) (by omega), b 99 (by omega) (by omega)]; exact h2
  · unfold OrdC at h3 ⊢
    rw [b 89 (by omega) (by omega), b 91 (by omega) (by omega), b 96 (by omega) (by omega)]; exact h3
  · rw [eT]; exact h4
  · rw [eT]; exact wOk_congr h5 ew
  · rw [eT]
    unfold ChT at h6 ⊢
    rw [e2]
    refine ⟨fun h q1 q2 => ?_, fun t ht => ?_⟩
    · rw [nxT_congr nt 0 (fun s hs => ew s (by omega))]; exact h6.1 h q1 q2
    · rw [et t ht, ew t ht, nxT_congr (nt - (t + 1)) (t + 1) (fun s hs => ew s (by omega))]; exact h6.2 t ht
  · intro t ht
    rw [ew t ht]; exact h7 t ht
  · intro t ht
    rw [et t ht, e7]; exact h8 t ht
  · intro t ht
    rw [et t ht]; exact h9 t ht
theorem evX_congr (hr : ∀ r, inR T r → D' r = D r) : evX D' wo T v stm ms = evX D wo T v stm ms ∧ ncX D' wo T v stm = ncX D wo T v stm ∧ qX D' wo T v stm ms = qX D wo T v stm ms := by
  have b : ∀ r, 89 ≤ r → r ≤ 100 → D' r = D r := fun r q1 q2 => hr r (Or.inl ⟨q1, q2⟩)
  have eT : D' T = D T := hr T (Or.inr ⟨by omega, by omega, by omega⟩)
  have e4 : D' (T + 4) = D (T + 4) := hr _ (Or.inr ⟨by omega, by omega, by omega⟩)
  have e5 : D' (T + 5) = D (T + 5) := hr _ (Or.inr ⟨by omega, by omega, by omega⟩)
  have ea : amC D' wo v = amC D wo v := by
    funext q
    simp only [amC, b 89 (by omega) (by omega), b 98 (by omega) (by omega), b 99 (by omega) (by omega)]
  have ec : cntC D' wo T v stm = cntC D wo T v stm := by
    funext q
    unfold cntC
    rw [show amC D' wo v q = amC D wo v q from congrFun ea q]
    simp only [b 90 (by omega) (by omega), b 94 (by omega) (by omega), eT]
  have ex : evX D' wo T v stm ms = evX D wo T v stm ms := by
    unfold evX
    simp only [evC, xsC, ec, b 89 (by omega) (by omega), b 96 (by omega) (by omega), b 91 (by omega) (by omega), b 92 (by omega) (by omega), b 93 (by omega) (by omega), b 95 (by omega) (by omega), e4, e5]
  refine ⟨ex, ?_, ?_⟩
  · unfold ncX
    simp only [xsC, ec, b 89 (by omega) (by omega), b 96 (by omega) (by omega)]
  · unfold qX
    rw [ex]
    funext e
    simp only [QX, ea, b 89 (by omega) (by omega), b 90 (by omega) (by omega), b 91 (by omega) (by omega), b 93 (by omega) (by omega)]
theorem WqC_eq (h24 : nt ≤ 24) (hr : ∀ r, inR T r → D' r = D r) : WEq (WqC D' T nt v cn cc) (WqC D T nt v cn cc) := by
  have ew := wC_keep (nt := nt) h24 hr
  refine ⟨rfl, wEq_of ew, fun t ht => ⟨fun _ => ?_, ?_, rfl, rfl⟩⟩
  · have : wC D' T t = wC D T t := ew t ht
    exact ⟨congrFun this 3, congrFun this 5, congrFun this 6⟩
  · have ht' : t < nt := ht
    show decide (D' (T + 9 + 3 * t) 13 ≠ -1 ∧ D' (T + 9 + 3 * t) 13 ≤ v) = decide (D (T + 9 + 3 * t) 13 ≠ -1 ∧ D (T + 9 + 3 * t) 13 ≤ v)
    rw [hr (T + 9 + 3 * t) (Or.inr ⟨by omega, by omega, by omega⟩)]
theorem owX_congr (h : CW T nt wo cn cc D) (hr : ∀ r, inR T r → D' r = D r) (a b : Int) : owX D' wo T nt cn cc v stm ms a b = owX D wo T nt cn cc v stm ms a b := by
  have hw := h.2.2.2.2.2.1
  obtain ⟨e1, -, e3⟩ := evX_congr (wo := wo) (v := v) (stm := stm) (ms := ms) hr
  have hW := WqC_eq (v := v) (cn := cn) (cc := cc) hw.1 hr
  have h0 : ∀ t, t < (WqC D T nt v cn cc).nt → 0 ≤ (WqC D T nt v cn cc).w t 0 ∧ (WqC D T nt v cn cc).w t 0 < 12 := fun t ht => by
    have q1 := (hw.2.2.2 t ht).1
    have q2 := hw.2.2.1
    have q3 : 0 ≤ wC D T t 0 ∧ wC D T t 0 < 12 := ⟨by omega, by omega⟩
    exact q3
  unfold owX
  rw [e1, e3, (all_agree (Q := qX D wo T v stm ms) hW h0 _ (fun i _ => ⟨fun _ _ _ => rfl, rfl, rfl, rfl⟩)).2 a b]
  have := cu_agree (cs := fun t => D (T + 9 + 3 * t) 14) (cs' := fun t => D' (T + 9 + 3 * t) 14) (a := a) (b := b) hW (fun t ht => by
    have ht' : t < nt := ht
    have n24 := hw.1
    rw [hr (T + 9 + 3 * t) (Or.inr ⟨by omega, by omega, by omega⟩)])
  have e : cuF (WqC D' T nt v cn cc) (fun t => D' (T + 9 + 3 * t) 14) a b nt = cuF (WqC D T nt v cn cc) (fun t => D (T + 9 + 3 * t) 14) a b nt := this
  rw [e]
theorem buX_congr (h : CW T nt wo cn cc D) (hr : ∀ r, inR T r → D' r = D r) (q : Int) : buX D' wo T nt cn cc v stm ms q = buX D wo T nt cn cc v stm ms q := by
  obtain ⟨e1, -, e3⟩ := evX_congr (wo := wo) (v := v) (stm := stm) (ms := ms) hr
  unfold buX drX
  rw [e1, e3]
  congr 1
  exact sumF_congr fun i _ => by rw [owX_congr h hr, owX_congr h hr]
theorem evX_facts (h : CW T nt wo cn cc D) : evInv (xsC D wo T v stm (D 89 0).toNat) (evX D wo T v stm ms) ∧ (evX D wo T v stm ms).1 ≤ 60 ∧ (∀ q, q ∈ xsC D wo T v stm (D 89 0).toNat ↔ (0 ≤ q ∧ q < D 89 0) ∧ cntC D wo T v stm q = true) ∧ (∀ i, EqB (qX D wo T v stm ms i)) ∧ (xsC D wo T v stm (D 89 0).toNat).Nodup ∧ ncX D wo T v stm ≤ 60 := by
  obtain ⟨hT, hcr, hbk, hor, h4, h5, h6, h7, h8, h9⟩ := h
  have nl60 : 0 ≤ D 89 0 ∧ D 89 0 ≤ 60 := ⟨hcr.2.2.2.2.1, hcr.2.2.2.2.2⟩
  have xn := xsC_nodup (wo := wo) (T := T) (v := v) (stm := stm) (i := (D 89 0).toNat) hor (by omega)
  have x3 : evInv (xsC D wo T v stm (D 89 0).toNat) (evX D wo T v stm ms) := EV_inv xn
  have xm : ∀ q, q ∈ xsC D wo T v stm (D 89 0).toNat ↔ (0 ≤ q ∧ q < D 89 0) ∧ cntC D wo T v stm q = true := fun q => by
    refine ⟨fun hq => ?_, fun hq => ?_⟩
    · obtain ⟨⟨j, j1, j2⟩, c⟩ := xsC_mem.mp hq
      have := hor.2.1 j (by omega)
      rw [j2] at this
      exact ⟨this, c⟩
    · obtain ⟨i, i1, i2⟩ := hor.2.2 q hq.1.1 hq.1.2
      exact xsC_mem.mpr ⟨⟨i, by omega, i2⟩, hq.2⟩
  have q2 : (xsC D wo T v stm (D 89 0).toNat).length ≤ (D 89 0).toNat := xsC_len
  refine ⟨x3, ?_, xm, fun i h q1 q2 => dF_in (by omega) (fun k hk hj => ?_), xn, ?_⟩
  · have q1 := x3.1
    omega
  · have hj0 : -1 ≤ (evX D wo T v stm ms).2.2.1 k := (x3.2.1 k).1
    have hm : (k : Int) ∈ (xsC D wo T v stm (D 89 0).toNat) := Decidable.byContradiction fun q => by
      have := x3.2.2.1 k q
      rw [this] at hj
      omega
    have := of_decide_eq_true ((xm _).mp hm).2
    exact ⟨by have := this.1; omega, (amF_in (wo := wo) (wd := D 98) (l := k) (day := v) (m := 100000) hbk.2 (by decide)).2⟩
  · unfold ncX
    omega
theorem WqX_B (h : CW T nt wo cn cc D) : WqB (WqC D T nt v cn cc) (D T 0) := ⟨h.2.2.2.2.2.1, h.2.2.2.2.2.2.2.1⟩
theorem owX_in (h : CW T nt wo cn cc D) {a b : Int} (hb : 0 ≤ b ∧ b < 12) : 0 ≤ owX D wo T nt cn cc v stm ms a b ∧ owX D wo T nt cn cc v stm ms a b ≤ 1600000000 := by
  obtain ⟨-, e60, -, hQ, -⟩ := evX_facts (v := v) (stm := stm) (ms := ms) h
  have h1 := owP_int (a := a) (b := b) (WqX_B (v := v) h) hb e60 (fun i _ => hQ i)
  have h2 : 0 ≤ cuF (WqC D T nt v cn cc) (fun t => D (T + 9 + 3 * t) 14) a b nt := cuF_nn (WqX_B (v := v) h) h.2.2.2.2.2.2.2.2.2
  have h3 : cuF (WqC D T nt v cn cc) (fun t => D (T + 9 + 3 * t) 14) a b nt ≤ sumF (fun b : Nat => cuF (WqC D T nt v cn cc) (fun t => D (T + 9 + 3 * t) 14) a b nt) 12 := by
    have := sumF_pick' (x := b) (c := True) (y := cuF (WqC D T nt v cn cc) (fun t => D (T + 9 + 3 * t) 14) a b nt) hb
    rw [if_pos trivial] at this
    rw [← this]
    refine sumF_le2 fun k _ => ?_
    have hn : 0 ≤ cuF (WqC D T nt v cn cc) (fun t => D (T + 9 + 3 * t) 14) a k nt := cuF_nn (WqX_B (v := v) h) h.2.2.2.2.2.2.2.2.2
    split
    · rename_i q; rw [q.2]; exact Int.le_refl _
    · exact hn
  have h4 := (cuF_sums (a := a) (WqX_B (v := v) h) h.2.2.2.2.2.2.2.2.2).1
  have h5 : sumF (fun b : Nat => cuF (WqC D T nt v cn cc) (fun t => D (T + 9 + 3 * t) 14) a b nt) 12 ≤ 23999976 := h4
  unfold owX
  omega
theorem owX_sums (h : CW T nt wo cn cc D) {a : Int} (ha : 0 ≤ a ∧ a < 12) : sumF (fun b : Nat => owX D wo T nt cn cc v stm ms a b) 12 ≤ 1439999760 ∧ sumF (fun b : Nat => owX D wo T nt cn cc v stm ms b a) 12 ≤ 1439999760 := by
  obtain ⟨-, e60, -, hQ, -⟩ := evX_facts (v := v) (stm := stm) (ms := ms) h
  have h1 := owP_sums (a := a) (WqX_B (v := v) h) ha (evX D wo T v stm ms).1 (fun i _ => hQ i)
  have h2 : pmS (WqC D T nt v cn cc) (qX D wo T v stm ms) (evX D wo T v stm ms).1 ≤ 215999784 := pmS_in (WqX_B (v := v) h) (fun i _ => hQ i)
  have h4 : sumF (fun b : Nat => cuF (WqC D T nt v cn cc) (fun t => D (T + 9 + 3 * t) 14) a b nt) 12 ≤ 23999976 ∧ sumF (fun b : Nat => cuF (WqC D T nt v cn cc) (fun t => D (T + 9 + 3 * t) 14) b a nt) 12 ≤ 23999976 := cuF_sums (a := a) (WqX_B (v := v) h) h.2.2.2.2.2.2.2.2.2
  unfold owX
  rw [sumF_add, sumF_add]
  omega
theorem drX_in (h : CW T nt wo cn cc D) {a : Int} (ha : 0 ≤ a ∧ a < 12) : 0 ≤ drX D wo T v stm ms a ∧ drX D wo T v stm ms a ≤ 360000000 := by
  obtain ⟨-, e60, -, hQ, -⟩ := evX_facts (v := v) (stm := stm) (ms := ms) h
  have h1 := sumF_nonneg (f := fun i => (qX D wo T v stm ms i).d a) (n := (evX D wo T v stm ms).1) (fun i _ => (hQ i a ha.1 ha.2).1)
  have h2 := sumF_le (f := fun i => (qX D wo T v stm ms i).d a) (n := (evX D wo T v stm ms).1) (c := 6000000) (fun i _ => (hQ i a ha.1 ha.2).2)
  unfold drX
  omega
theorem sumF_sub {f g : Nat → Int} {n : Nat} : sumF (fun k => f k - g k) n = sumF f n - sumF g n := by
  induction n with
  | zero => rfl
  | succ n ih => rw [sumF, sumF, sumF, ih]; omega
theorem buX_in (h : CW T nt wo cn cc D) {a : Int} (ha : 0 ≤ a ∧ a < 12) : -1600000000 ≤ buX D wo T nt cn cc v stm ms a ∧ buX D wo T nt cn cc v stm ms a ≤ 2000000000 := by
  have h1 := owX_sums (v := v) (stm := stm) (ms := ms) h ha
  have h2 := drX_in (v := v) (stm := stm) (ms := ms) h ha
  have h3 : 0 ≤ sumF (fun b : Nat => owX D wo T nt cn cc v stm ms a b) 12 := sumF_nonneg fun k hk => (owX_in h (by omega)).1
  have h4 : 0 ≤ sumF (fun b : Nat => owX D wo T nt cn cc v stm ms b a) 12 := sumF_nonneg fun k hk => (owX_in h ha).1
  unfold buX
  rw [sumF_sub]
  omega
end
section
variable {G : aCX} {l : Launch} {d : Nat} {K : Nat → aKd} {D : Nat → Int → Int} {z : Nat × Nat} {P : Int → aSt → Prop}
theorem SlI_keep {s0 m : Nat} {D' : Nat → Int → Int} (h : SlI s0 m K D z) (hr : D' 108 = D 108) : SlI s0 m K D' z := by
  unfold SlI at h ⊢; rw [hr]; exact h
theorem SlV_keep {T nt m : Nat} {wo : Int → Int} {cn : Nat → Nat} {cc : Nat → Nat → Int × Int} {D' : Nat → Int → Int} (hw : CW T nt wo cn cc D) (h : SlV D T nt m) (hr : ∀ r, inR T r ∨ 279 ≤ r → D' r = D r) : SlV D' T nt m := fun i hi => by
  have hT2 : T = 8 ∨ T = 129 := hw.1
  rw [hr (279 + 10 * i) (by omega)]
  exact ⟨(h i hi).1, fun q => CtD_keep ((h i hi).2 q) hw.2.2.2.2.2.1 (wC_keep hw.2.2.2.2.2.1.1 (fun r q => hr r (Or.inl q))) (fun r q1 q2 => hr r (by omega))⟩
theorem CI_keep {s0 m T nt : Nat} {wo : Int → Int} {cn : Nat → Nat} {cc : Nat → Nat → Int × Int} {D' : Nat → Int → Int} (h : CI s0 m T nt wo cn cc K D z) (hr : ∀ r, inR T r ∨ r = 108 ∨ 279 ≤ r → D' r = D r) : CI s0 m T nt wo cn cc K D' z :=
  ⟨h.1, SlI_keep h.2.1 (hr 108 (by omega)), SlV_keep h.2.2.2 h.2.2.1 (fun r q => hr r (q.elim Or.inl (fun x => Or.inr (Or.inr x)))), CW_keep h.2.2.2 (fun r q => hr r (Or.inl q))⟩
theorem RkX_inR {T nt : Nat} {wo : Int → Int} {cn : Nat → Nat} {cc : Nat → Nat → Int × Int} {v stm ms : Int} {D' : Nat → Int → Int} (hT : isT T) (h : RkX D wo T nt cn cc v stm ms D') : ∀ r, inR T r → D' r = D r := fun r q => by
  obtain ⟨q1, q2, q3⟩ := inR_T hT q
  exact h.1 r q1 q2 q3
theorem v_reck {s0 m T nt : Nat} {wo : Int → Int} {cn : Nat → Nat} {cc : Nat → Nat → Int × Int} {v stm ms : Int} (hC : CI s0 m T nt wo cn cc K D z) (kk : ∀ K' D' z' m', CI s0 m' T nt wo cn cc K' D' z' → (evX D wo T v stm ms).1 ≤ m' → RkX D wo T nt cn cc v stm ms D' → P 0 (K', D', z')) : VM G l (d + 4) iX5_reckon [rf 101, rf T, (0, v), (0, stm), (0, ms)] (K, D, z) P := by
  obtain ⟨hk, hS, hV, hW⟩ := hC
  have hW' := hW
  obtain ⟨hT, h1, h2, h3, h4, h5, h6, h7, h8, h9⟩ := hW
  refine v_reckon hk hT hS hV h1 h2 h3 h4 h5 h6 h7 h8 h9 (fun K' D' z' m' g1 g2 g3 g4 g5 g6 => ?_)
  have hX : RkX D wo T nt cn cc v stm ms D' := g6
  exact kk K' D' z' m' ⟨g1, g2, g5, CW_keep hW' (RkX_inR hT hX)⟩ g3 hX
theorem v_bur {T nt : Nat} {wo : Int → Int} {cn : Nat → Nat} {cc : Nat → Nat → Int × Int} {v stm ms h : Int} {D0 : Nat → Int → Int} (hk : Kn K) (hC : CW T nt wo cn cc D0) (hR : ∀ a b : Int, 0 ≤ a → a < 12 → 0 ≤ b → b < 12 → D 102 (a * 12 + b) = owX D0 wo T nt cn cc v stm ms a b) (hR3 : ∀ h : Nat, h < 12 → D 103 h = drX D0 wo T v stm ms h) (hh : 0 ≤ h ∧ h < 12) (kk : P (buX D0 wo T nt cn cc v stm ms h) (K, D, z)) : VM G l (d + 1) iX5_burdenOf [rf 101, (0, h)] (K, D, z) P := by
  have e3 : D 103 h = drX D0 wo T v stm ms h := by
    have := hR3 h.toNat (by omega)
    rwa [show ((h.toNat : Nat) : Int) = h by omega] at this
  have d1 := drX_in (v := v) (stm := stm) (ms := ms) hC hh
  refine v_burdenOf hk hh (by rw [e3]; exact ⟨by omega, by omega⟩) (fun a b q1 q2 q3 q4 => by rw [hR a b q1 q2 q3 q4]; have := owX_in (a := a) (v := v) (stm := stm) (ms := ms) hC ⟨q3, q4⟩; exact ⟨this.1, by omega⟩) ?_
  have e : buC D h 12 = buX D0 wo T nt cn cc v stm ms h := by
    unfold buC buX
    rw [e3]
    congr 1
    exact sumF_congr fun i hi => by rw [hR h i hh.1 hh.2 (by omega) (by omega), hR i h (by omega) (by omega) hh.1 hh.2]
  have bi := buX_in (v := v) (stm := stm) (ms := ms) hC hh
  rw [e, wr_id ⟨by omega, by omega⟩]
  exact kk
end
