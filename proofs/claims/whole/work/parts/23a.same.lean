/-! ===== two states whose inputs say the same ===== -/
theorem am_later {wo wd wa : Int → Int} {l v v' : Int} (h : v ≤ v') : ∀ n : Nat, (∀ k : Nat, k < n → wd k ≤ v) → amF wo wd wa l v' n = amF wo wd wa l v n := by
  intro n
  induction n with
  | zero => intro _; rfl
  | succ n ih =>
    intro hd
    rw [amF, amF, ih (fun k hk => hd k (by omega))]
    have := hd n (by omega)
    by_cases q : wo n = l
    · rw [if_pos ⟨q, by omega⟩, if_pos ⟨q, this⟩]
    · rw [if_neg (fun x => q x.1), if_neg (fun x => q x.1)]
def giE (D D' : Nat → Int → Int) (wo : Int → Int) (T nt : Nat) (cn : Nat → Nat) (cc : Nat → Nat → Int × Int) (v v' : Int) : Prop := (∀ stm ms : Int, evX D' wo T v' stm ms = evX D wo T v stm ms ∧ ncX D' wo T v' stm = ncX D wo T v stm ∧ qX D' wo T v' stm ms = qX D wo T v stm ms) ∧ WEq (WqC D' T nt v' cn cc) (WqC D T nt v cn cc) ∧ (∀ t : Nat, t < nt → D' (T + 9 + 3 * t) 14 = D (T + 9 + 3 * t) 14) ∧ D' 89 = D 89 ∧ D' 94 = D 94 ∧ D' T = D T
section
variable {D D' : Nat → Int → Int} {T nt : Nat} {wo : Int → Int} {cn : Nat → Nat} {cc : Nat → Nat → Int × Int} {v v' : Int}
theorem giE_later (hC : CW T nt wo cn cc D) (hr : ∀ r, inR T r → D' r = D r) (h : v ≤ v') (hd : ∀ k : Nat, k < (D 89 1).toNat → D 98 k ≤ v) (hc : ∀ t : Nat, t < nt → D (T + 9 + 3 * t) 13 ≤ v) : giE D D' wo T nt cn cc v v' := by
  have hT2 : T = 8 ∨ T = 129 := hC.1
  have n24 := hC.2.2.2.2.2.1.1
  have ea : amC D wo v' = amC D wo v := by
    funext q
    exact am_later h _ hd
  have ec : ∀ stm, cntC D wo T v' stm = cntC D wo T v stm := fun stm => by
    funext q
    unfold cntC
    rw [show amC D wo v' q = amC D wo v q from congrFun ea q]
  have ex : ∀ stm ms, evX D wo T v' stm ms = evX D wo T v stm ms := fun stm ms => by
    unfold evX
    simp only [xsC, ec]
  have ew := wC_keep (nt := nt) n24 hr
  refine ⟨fun stm ms => ?_, ⟨rfl, wEq_of ew, fun t ht => ⟨fun _ => ?_, ?_, rfl, rfl⟩⟩, fun t ht => ?_, hr 89 (by unfold inR; omega), hr 94 (by unfold inR; omega), hr T (by unfold inR; omega)⟩
  · obtain ⟨a1, a2, a3⟩ := evX_congr (wo := wo) (v := v') (stm := stm) (ms := ms) hr
    refine ⟨a1.trans (ex stm ms), a2.trans ?_, a3.trans ?_⟩
    · unfold ncX
      simp only [xsC, ec]
    · unfold qX
      rw [ex]
      funext e
      simp only [QX, ea]
  · have : wC D' T t = wC D T t := ew t ht
    exact ⟨congrFun this 3, congrFun this 5, congrFun this 6⟩
  · have ht' : t < nt := ht
    show decide (D' (T + 9 + 3 * t) 13 ≠ -1 ∧ D' (T + 9 + 3 * t) 13 ≤ v') = decide (D (T + 9 + 3 * t) 13 ≠ -1 ∧ D (T + 9 + 3 * t) 13 ≤ v)
    rw [hr (T + 9 + 3 * t) (Or.inr ⟨by omega, by omega, by omega⟩)]
    have := hc t ht'
    exact decide_eq_decide.mpr ⟨fun x => ⟨x.1, by omega⟩, fun x => ⟨x.1, by omega⟩⟩
  · rw [hr (T + 9 + 3 * t) (Or.inr ⟨by omega, by omega, by omega⟩)]
theorem giE_of (hC : CW T nt wo cn cc D) (hr : ∀ r, inR T r → D' r = D r) : giE D D' wo T nt cn cc v v := by
  have hT2 : T = 8 ∨ T = 129 := hC.1
  have n24 := hC.2.2.2.2.2.1.1
  exact ⟨fun stm ms => evX_congr hr, WqC_eq n24 hr, fun t ht => by rw [hr (T + 9 + 3 * t) (Or.inr ⟨by omega, by omega, by omega⟩)], hr 89 (by unfold inR; omega), hr 94 (by unfold inR; omega), hr T (by unfold inR; omega)⟩
theorem giE_h0 (hC : CW T nt wo cn cc D) : ∀ t, t < (WqC D T nt v cn cc).nt → 0 ≤ (WqC D T nt v cn cc).w t 0 ∧ (WqC D T nt v cn cc).w t 0 < 12 := fun t ht => by
  have hw := hC.2.2.2.2.2.1
  have a := (hw.2.2.2 t ht).1
  have b := hw.2.2.1
  have c : 0 ≤ wC D T t 0 ∧ wC D T t 0 < 12 := ⟨by omega, by omega⟩
  exact c
theorem giE_ow (hC : CW T nt wo cn cc D) (hI : giE D D' wo T nt cn cc v v') (stm ms a b : Int) : owX D' wo T nt cn cc v' stm ms a b = owX D wo T nt cn cc v stm ms a b := by
  obtain ⟨h1, hW, h3, -⟩ := hI
  obtain ⟨e1, -, e3⟩ := h1 stm ms
  unfold owX
  rw [e1, e3, (all_agree (Q := qX D wo T v stm ms) hW (giE_h0 hC) _ (fun i _ => QEq_rfl)).2 a b]
  have := cu_agree (cs := fun t => D (T + 9 + 3 * t) 14) (cs' := fun t => D' (T + 9 + 3 * t) 14) (a := a) (b := b) hW (fun t ht => h3 t ht)
  have e : cuF (WqC D' T nt v' cn cc) (fun t => D' (T + 9 + 3 * t) 14) a b nt = cuF (WqC D T nt v cn cc) (fun t => D (T + 9 + 3 * t) 14) a b nt := this
  rw [e]
theorem giE_dr (hI : giE D D' wo T nt cn cc v v') (stm ms q : Int) : drX D' wo T v' stm ms q = drX D wo T v stm ms q := by
  obtain ⟨h1, -⟩ := hI
  obtain ⟨e1, -, e3⟩ := h1 stm ms
  unfold drX
  rw [e1, e3]
theorem giE_bu (hC : CW T nt wo cn cc D) (hI : giE D D' wo T nt cn cc v v') (stm ms q : Int) : buX D' wo T nt cn cc v' stm ms q = buX D wo T nt cn cc v stm ms q := by
  unfold buX
  rw [giE_dr hI]
  congr 1
  exact sumF_congr fun i _ => by rw [giE_ow hC hI, giE_ow hC hI]
theorem giE_Rk {E E' : Nat → Int → Int} {stm ms : Int} (hC : CW T nt wo cn cc D) (hI : giE D D' wo T nt cn cc v v') (hd : ∀ r, ctR r → E' r = E r) (h : RkC D wo T nt cn cc v stm ms E) : RkC D' wo T nt cn cc v' stm ms E' := by
  have hI2 := hI
  obtain ⟨g1, hW, -, g4, -, -⟩ := hI
  obtain ⟨e1, e2, e3⟩ := g1 stm ms
  obtain ⟨⟨h1, h1'⟩, h2, h4, h5, h6, h7⟩ := h
  unfold RkC
  rw [e1, e2, e3, hd 111 (by unfold ctR; omega), hd 112 (by unfold ctR; omega), hd 109 (by unfold ctR; omega), hd 103 (by unfold ctR; omega), hd 102 (by unfold ctR; omega), g4]
  refine ⟨⟨h1, h1'⟩, h2, fun e he => SlA_agree hW rfl (giE_h0 hC) (SlA_keep (h4 e he) (fun r q _ => hd r (by unfold ctR; omega))), fun t ht => ?_, fun h hh => ?_, fun a b q1 q2 q3 q4 => ?_⟩
  · rw [((all_agree (Q := qX D wo T v stm ms) (Q' := qX D wo T v stm ms) hW (giE_h0 hC) (evX D wo T v stm ms).1 (fun _ _ => QEq_rfl)).1 t ht).1]; exact h5 t ht
  · rw [giE_dr hI2]; exact h6 h hh
  · rw [giE_ow hC hI2]; exact h7 a b q1 q2 q3 q4
end
/-! ===== the caches of the class are right ===== -/
def chR (m T nt : Nat) (wo : Int → Int) (cn : Nat → Nat) (cc : Nat → Nat → Int × Int) (D : Nat → Int → Int) : Prop := D 1 10 = 0 ∨ (D 1 10 = 1 ∧ RkC D wo T nt cn cc (vwC D) (stC D) (-1) D ∧ (evX D wo T (vwC D) (stC D) (-1)).1 ≤ m)
def chS (T nt : Nat) (wo : Int → Int) (cn : Nat → Nat) (cc : Nat → Nat → Int × Int) (D : Nat → Int → Int) : Prop := D 116 1 = 0 ∨ (D 116 1 = 1 ∧ ∀ h : Nat, (h : Int) < D T 0 → D 117 h = (wnF (wtX D wo T (vwC D) (stC D)) (fun i => buX D wo T nt cn cc (vwC D) (stC D) i h) (buX D wo T nt cn cc (vwC D) (stC D) (-1) h) (D 89 0).toNat).2)
def chW (T nt : Nat) (wo : Int → Int) (cn : Nat → Nat) (cc : Nat → Nat → Int × Int) (D : Nat → Int → Int) : Prop := D 116 2 = 0 ∨ (D 116 2 = 1 ∧ D 116 7 = prX D wo T (vwC D) (stC D) ∧ ∀ s h : Nat, s < 64 → okS (prX D wo T (vwC D) (stC D)) s = true → (h : Int) < D T 0 → D 120 (s * 12 + h) = buX D wo T nt cn cc (vwC D) s (-1) h)
def chC (T nt : Nat) (wo : Int → Int) (cn : Nat → Nat) (cc : Nat → Nat → Int × Int) (D : Nat → Int → Int) : Prop := D 1 11 = 0 ∨ ClC D wo T nt cn cc (D T 0).toNat D
section
variable {D D' : Nat → Int → Int} {T nt m m' : Nat} {wo : Int → Int} {cn : Nat → Nat} {cc : Nat → Nat → Int × Int}
theorem chR_keep (hC : CW T nt wo cn cc D) (hI : giE D D' wo T nt cn cc (vwC D) (vwC D')) (hs : stC D' = stC D) (hm : m ≤ m') (h10 : D' 1 10 = D 1 10) (hd : ∀ r, ctR r → D' r = D r) (h : chR m T nt wo cn cc D) : chR m' T nt wo cn cc D' := by
  unfold chR at h ⊢
  rcases h with h | ⟨h1, h2, h3⟩
  · exact Or.inl (h10.trans h)
  · refine Or.inr ⟨h10.trans h1, ?_, ?_⟩
    · rw [hs]; exact giE_Rk hC hI hd h2
    · rw [hs, (hI.1 (stC D) (-1)).1]; omega
theorem chS_keep (hC : CW T nt wo cn cc D) (hI : giE D D' wo T nt cn cc (vwC D) (vwC D')) (hs : stC D' = stC D) (h16 : D' 116 1 = D 116 1) (h17 : D' 117 = D 117) (h : chS T nt wo cn cc D) : chS T nt wo cn cc D' := by
  unfold chS at h ⊢
  rcases h with h | ⟨h1, h2⟩
  · exact Or.inl (h16.trans h)
  · refine Or.inr ⟨h16.trans h1, fun x hx => ?_⟩
    rw [hI.2.2.2.2.2] at hx
    have e1 : wtX D' wo T (vwC D') (stC D) = wtX D wo T (vwC D) (stC D) := by
      funext i
      unfold wtX
      rw [(hI.1 (stC D) (-1)).1]
    have e2 : (fun i : Nat => buX D' wo T nt cn cc (vwC D') (stC D) i x) = fun i : Nat => buX D wo T nt cn cc (vwC D) (stC D) i x := by
      funext i
      exact giE_bu hC hI _ _ _
    rw [h17, hs, e1, e2, giE_bu hC hI, hI.2.2.2.1]
    exact h2 x hx
theorem chW_keep (hC : CW T nt wo cn cc D) (hI : giE D D' wo T nt cn cc (vwC D) (vwC D')) (hs : stC D' = stC D) (h16 : D' 116 2 = D 116 2) (h17 : D' 116 7 = D 116 7) (h20 : D' 120 = D 120) (h : chW T nt wo cn cc D) : chW T nt wo cn cc D' := by
  unfold chW at h ⊢
  rcases h with h | ⟨h1, h2, h3⟩
  · exact Or.inl (h16.trans h)
  · have e1 : prX D' wo T (vwC D') (stC D) = prX D wo T (vwC D) (stC D) := by
      show prF (evX D' wo T (vwC D') (stC D) (-1)).2.2.1 (D' 94) (D' 89 0).toNat = prF (evX D wo T (vwC D) (stC D) (-1)).2.2.1 (D 94) (D 89 0).toNat
      rw [(hI.1 (stC D) (-1)).1, hI.2.2.2.1, hI.2.2.2.2.1]
    refine Or.inr ⟨h16.trans h1, by rw [hs, e1, h17]; exact h2, fun s x q1 q2 q3 => ?_⟩
    rw [hs, e1] at q2
    rw [hI.2.2.2.2.2] at q3
    rw [h20, giE_bu hC hI]
    exact h3 s x q1 q2 q3
theorem giE_cl (hC : CW T nt wo cn cc D) (hI : giE D D' wo T nt cn cc (vwC D) (vwC D')) (h72 : D' 272 = D 272) (stm : Int) : ntX D' wo T nt cn cc stm = ntX D wo T nt cn cc stm ∧ alX D' wo T nt cn cc stm = alX D wo T nt cn cc stm ∧ clM D' wo T nt cn cc stm = clM D wo T nt cn cc stm ∧ faX D' wo T nt cn cc stm = faX D wo T nt cn cc stm := by
  have e1 : ntX D' wo T nt cn cc stm = ntX D wo T nt cn cc stm := by
    funext a b
    unfold ntX
    rw [giE_ow hC hI, giE_ow hC hI]
  have e2 : alX D' wo T nt cn cc stm = alX D wo T nt cn cc stm := by
    funext a
    unfold alX
    rw [e1]
  have e3 : spX D' wo T nt cn cc stm = spX D wo T nt cn cc stm := by
    funext a
    unfold spX
    rw [giE_dr hI, h72]
  have e4 : clM D' wo T nt cn cc stm = clM D wo T nt cn cc stm := by
    unfold clM
    rw [e1, e2, e3]
  refine ⟨e1, e2, e4, ?_⟩
  funext a
  unfold faX
  rw [e2, e4, giE_dr hI, h72]
theorem chC_keep (hC : CW T nt wo cn cc D) (hI : giE D D' wo T nt cn cc (vwC D) (vwC D')) (hs : stC D' = stC D) (h72 : D' 272 = D 272) (h11 : D' 1 11 = D 1 11) (h21 : D' 121 = D 121) (hr : ∀ r, 123 ≤ r → r ≤ 126 → D' r = D r) (h : chC T nt wo cn cc D) : chC T nt wo cn cc D' := by
  unfold chC at h ⊢
  rcases h with h | h
  · exact Or.inl (h11.trans h)
  · obtain ⟨e1, e2, e3, e4⟩ := giE_cl hC hI h72 (stC D)
    refine Or.inr ?_
    unfold ClC at h ⊢
    rw [hs, e1, e2, e3, e4, h21, hr 123 (by decide) (by decide), hr 124 (by decide) (by decide), hr 125 (by decide) (by decide), hr 126 (by decide) (by decide), hI.2.2.2.2.2]
    exact h
end
