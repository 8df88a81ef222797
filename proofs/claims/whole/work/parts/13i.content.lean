/-! ===== what a slot holds is what its question asks for: the class ===== -/
def CtD (D : Nat → Int → Int) (T a nt : Nat) : Prop := D a 6 = (slF (wC D T) (rmC D a) (payC D a) (D (a + 1)) nt 2000 0 (D (a + 1))).1 ∧ D a 7 = (if (slF (wC D T) (rmC D a) (payC D a) (D (a + 1)) nt 2000 0 (D (a + 1))).2.1 = true then 1 else 0) ∧ (∀ h : Int, 0 ≤ h → h < 12 → D (a + 2) h = (if (slF (wC D T) (rmC D a) (payC D a) (D (a + 1)) nt 2000 0 (D (a + 1))).2.1 = true then D (a + 1) h else (slF (wC D T) (rmC D a) (payC D a) (D (a + 1)) nt 2000 0 (D (a + 1))).2.2 h) ∧ D (a + 3) h = (if (slF (wC D T) (rmC D a) (payC D a) (D (a + 1)) nt 2000 0 (D (a + 1))).2.1 = true then D (a + 1) h else (hsF (wC D T) (rmC D a) (payC D a) (D (a + 1)) (slF (wC D T) (rmC D a) (payC D a) (D (a + 1)) nt 2000 0 (D (a + 1))).2.2 h nt).1)) ∧ ∀ t : Nat, t < nt → D (a + 5) t = (if (slF (wC D T) (rmC D a) (payC D a) (D (a + 1)) nt 2000 0 (D (a + 1))).2.1 = true then 0 else if payC D a t = true then bsF (wC D T) (rmC D a) (payC D a) (D (a + 1)) (slF (wC D T) (rmC D a) (payC D a) (D (a + 1)) nt 2000 0 (D (a + 1))).2.2 t else 0) ∧ D (a + 6) t = (if (slF (wC D T) (rmC D a) (payC D a) (D (a + 1)) nt 2000 0 (D (a + 1))).2.1 = true then 0 else if payC D a t = true then (if wC D T t 1 = 0 then pdF (wC D T) t (auF (wC D T) (rmC D a) (payC D a) (D (a + 1)) (slF (wC D T) (rmC D a) (payC D a) (D (a + 1)) nt 2000 0 (D (a + 1))).2.2 t) else auF (wC D T) (rmC D a) (payC D a) (D (a + 1)) (slF (wC D T) (rmC D a) (payC D a) (D (a + 1)) nt 2000 0 (D (a + 1))).2.2 t) else 0) ∧ D (a + 7) t = (if (slF (wC D T) (rmC D a) (payC D a) (D (a + 1)) nt 2000 0 (D (a + 1))).2.1 = true then 0 else if payC D a t = true then pdF (wC D T) t (auF (wC D T) (rmC D a) (payC D a) (D (a + 1)) (slF (wC D T) (rmC D a) (payC D a) (D (a + 1)) nt 2000 0 (D (a + 1))).2.2 t) else 0)
theorem wEq_of {w w' : WT} {nt : Nat} (h : ∀ t, t < nt → w' t = w t) : wEq w' w nt := fun t ht => by rw [h t ht]; exact ⟨rfl, rfl, rfl, rfl, rfl, fun _ _ => ⟨rfl, rfl⟩⟩
/-- the question decides the answer: W, us, Q the question that D' puts, D' holds what D holds -/
theorem CtD_eq {D : Nat → Int → Int} {T a nt : Nat} {W : WdQ} {us : Nat → Int} {Q : EvQ} {nh : Int} (hC : CtD D T a nt) (hnt : W.nt = nt) (hok : wOk W.w nt nh) (hw : ∀ t, t < nt → wC D T t = W.w t) (hr : ∀ t : Nat, t < nt → D (a + 4) t = rmP W.w us t) (hp : ∀ t, t < nt → payC D a t = pyP W Q t) (hd : ∀ h : Int, 0 ≤ h → h < 12 → D (a + 1) h = Q.d h) :
    D a 6 = (slP W us Q).1 ∧ D a 7 = (if (slP W us Q).2.1 = true then 1 else 0) ∧ (∀ h : Int, 0 ≤ h → h < 12 → D (a + 2) h = grP W us Q h ∧ D (a + 3) h = rtP W us Q h) ∧ ∀ t : Nat, t < nt → D (a + 5) t = baP W us Q t ∧ D (a + 6) t = usP W us Q t ∧ D (a + 7) t = paP W us Q t := by
  obtain ⟨c1, c2, c3, c4⟩ := hC
  have we := wEq_of hw
  have h012 : ∀ t, t < nt → 0 ≤ W.w t 0 ∧ W.w t 0 < 12 := fun t ht => by
    have := (hok.2.2.2 t ht).1
    have := hok.2.2.1
    omega
  obtain ⟨x1, x2, x3⟩ := sl_eq (w' := wC D T) (w := W.w) (rm' := rmC D a) (rm := rmP W.w us) (pay' := payC D a) (pay := pyP W Q) (d' := D (a + 1)) (d := Q.d) (nt := nt) we (fun t ht _ => hr t ht) hp h012 hd 2000 0 (D (a + 1)) Q.d hd
  have hsl : slF W.w (rmP W.w us) (pyP W Q) Q.d nt 2000 0 Q.d = slP W us Q := by unfold slP; rw [hnt]
  rw [hsl] at x1 x2 x3
  rw [x1] at c1
  rw [x2] at c2 c3 c4
  refine ⟨c1, c2, fun h q1 q2 => ?_, fun t ht => ?_⟩
  · obtain ⟨y1, y2⟩ := c3 h q1 q2
    rw [hd h q1 q2, x3 h q1 q2] at y1
    rw [hd h q1 q2, hs_eq we (fun t ht _ => hr t ht) hp (hd h q1 q2) (x3 h q1 q2) nt (Nat.le_refl _)] at y2
    unfold rtP
    rw [hnt]
    exact ⟨y1, y2⟩
  · have h0 := h012 t ht
    have v := c4 t ht
    rw [bs_eq we (fun t ht _ => hr t ht) hp ht (hd _ h0.1 h0.2) (x3 _ h0.1 h0.2), au_eq we (fun t ht _ => hr t ht) hp ht (hd _ h0.1 h0.2) (x3 _ h0.1 h0.2), hp t ht, pd_eq we ht, (we t ht).2.1] at v
    exact v
theorem SoD_CtD {D D' : Nat → Int → Int} {T a nt : Nat} {nh : Int} (ha : 279 ≤ a) (hT : isT T) (h24 : nt ≤ 24) (hok : wOk (wC D T) nt nh) (h : SoD D T a nt (slF (wC D T) (rmC D a) (payC D a) (D (a + 1)) nt 2000 0 (D (a + 1))).1 (slF (wC D T) (rmC D a) (payC D a) (D (a + 1)) nt 2000 0 (D (a + 1))).2.1 (slF (wC D T) (rmC D a) (payC D a) (D (a + 1)) nt 2000 0 (D (a + 1))).2.2 D') : CtD D' T a nt := by
  have hT2 : T = 8 ∨ T = 129 := hT
  obtain ⟨f1, f2, f3, f4, f5, f6⟩ := h
  have hw : ∀ t, t < nt → wC D' T t = wC D T t := wC_congr h24 (fun r q1 q2 => f1 r (by omega) (by omega) (by omega) (by omega) (by omega) (by omega) (by omega) (by omega) (by omega))
  have e4 : rmC D' a = rmC D a := by funext t; show D' (a + 4) t = D (a + 4) t; rw [f1 _ (by omega) (by omega) (by omega) (by omega) (by omega) (by omega) (by omega) (by omega) (by omega)]
  have ep : payC D' a = payC D a := by funext t; show decide (bAnd (bShr (D' a 5) t) 1 = 1) = _; rw [f2 5 (by decide) (by decide)]
  have e1 : D' (a + 1) = D (a + 1) := f1 _ (by omega) (by omega) (by omega) (by omega) (by omega) (by omega) (by omega) (by omega) (by omega)
  have we := wEq_of hw
  have h012 : ∀ t, t < nt → 0 ≤ wC D T t 0 ∧ wC D T t 0 < 12 := fun t ht => by
    have := (hok.2.2.2 t ht).1
    have := hok.2.2.1
    omega
  obtain ⟨x1, x2, x3⟩ := sl_eq (w' := wC D' T) (w := wC D T) (rm' := rmC D a) (rm := rmC D a) (pay' := payC D a) (pay := payC D a) (d' := D (a + 1)) (d := D (a + 1)) (nt := nt) we (fun t ht _ => rfl) (fun _ _ => rfl) h012 (fun _ _ _ => rfl) 2000 0 (D (a + 1)) (D (a + 1)) (fun _ _ _ => rfl)
  unfold CtD
  rw [e4, ep, e1, x1, x2]
  refine ⟨f3, f4, fun h q1 q2 => ?_, fun t ht => ?_⟩
  · rw [x3 h q1 q2, hs_eq we (fun t ht _ => rfl) (fun _ _ => rfl) rfl (x3 h q1 q2) nt (Nat.le_refl _)]
    cases hen : (slF (wC D T) (rmC D a) (payC D a) (D (a + 1)) nt 2000 0 (D (a + 1))).2.1 with
    | true => obtain ⟨y1, y2⟩ := (f5 hen).1 h ⟨q1, q2⟩; exact ⟨y1, y2⟩
    | false =>
      have := (f6 hen).1 h.toNat (by omega)
      rw [show ((h.toNat : Nat) : Int) = h by omega] at this
      exact this
  · have h0 := h012 t ht
    rw [bs_eq we (fun t ht _ => rfl) (fun _ _ => rfl) ht rfl (x3 _ h0.1 h0.2), au_eq we (fun t ht _ => rfl) (fun _ _ => rfl) ht rfl (x3 _ h0.1 h0.2), pd_eq we ht, hw t ht]
    cases hen : (slF (wC D T) (rmC D a) (payC D a) (D (a + 1)) nt 2000 0 (D (a + 1))).2.1 with
    | true =>
      have := (f5 hen).2 t ⟨by omega, by omega⟩
      exact this
    | false =>
      by_cases q : payC D a t = true
      · have := (f6 hen).2.1 t ht q
        rw [if_pos q, if_pos q, if_pos q]
        exact this
      · have := (f6 hen).2.2 t (by omega) (fun x => q x.2)
        rw [if_neg q, if_neg q, if_neg q]
        exact this
