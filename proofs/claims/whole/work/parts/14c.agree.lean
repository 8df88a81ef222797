/-! ===== two wordings that say the same give the same events ===== -/
def WEq (W' W : WdQ) : Prop := W'.nt = W.nt ∧ wEq W'.w W.w W.nt ∧ ∀ t, t < W.nt → (¬ W.w t 1 = 0 → W'.w t 3 = W.w t 3 ∧ W'.w t 5 = W.w t 5 ∧ W'.w t 6 = W.w t 6) ∧ W'.cm t = W.cm t ∧ W'.cn t = W.cn t ∧ W'.cc t = W.cc t
def QEq (Q' Q : EvQ) : Prop := (∀ h : Int, 0 ≤ h → h < 12 → Q'.d h = Q.d h) ∧ Q'.ca = Q.ca ∧ Q'.da = Q.da ∧ Q'.lo = Q.lo
section
variable {W W' : WdQ} {us us' : Nat → Int} {Q Q' : EvQ}
theorem py_agree (hW : WEq W' W) (hQ : QEq Q' Q) (h0 : ∀ t, t < W.nt → 0 ≤ W.w t 0 ∧ W.w t 0 < 12) : ∀ t, t < W.nt → pyP W' Q' t = pyP W Q t := fun t ht => by
  obtain ⟨-, c1, c2, c3⟩ := hW.2.2 t ht
  have e0 := (hW.2.1 t ht).1
  unfold pyP
  rw [c1, c2, c3, e0, hQ.2.1, hQ.2.2.1, hQ.2.2.2, hQ.1 _ (h0 t ht).1 (h0 t ht).2, hitF_congr (f := Q'.d) (g := Q.d) (fun k hk => hQ.1 k (by omega) (by omega))]
theorem rm_agree (hW : WEq W' W) (hu : ∀ t, t < W.nt → us' t = us t) : ∀ t, t < W.nt → ¬ W.w t 1 = 0 → rmP W'.w us' t = rmP W.w us t := fun t ht hl => by
  obtain ⟨c3, c5, -⟩ := (hW.2.2 t ht).1 hl
  unfold rmP
  rw [c3, c5, hu t ht]
theorem sl_agree (hW : WEq W' W) (hQ : QEq Q' Q) (h0 : ∀ t, t < W.nt → 0 ≤ W.w t 0 ∧ W.w t 0 < 12) (hu : ∀ t, t < W.nt → us' t = us t) : (slP W' us' Q').1 = (slP W us Q).1 ∧ (slP W' us' Q').2.1 = (slP W us Q).2.1 ∧ ∀ h : Int, 0 ≤ h → h < 12 → (slP W' us' Q').2.2 h = (slP W us Q).2.2 h := by
  have x := sl_eq (w' := W'.w) (w := W.w) (rm' := rmP W'.w us') (rm := rmP W.w us) (pay' := pyP W' Q') (pay := pyP W Q) (d' := Q'.d) (d := Q.d) (nt := W.nt) hW.2.1 (rm_agree hW hu) (py_agree hW hQ h0) h0 hQ.1 2000 0 Q'.d Q.d hQ.1
  have e : slP W' us' Q' = slF W'.w (rmP W'.w us') (pyP W' Q') Q'.d W.nt 2000 0 Q'.d := by unfold slP; rw [hW.1]
  rw [e]
  exact x
theorem ev_agree (hW : WEq W' W) (hQ : QEq Q' Q) (h0 : ∀ t, t < W.nt → 0 ≤ W.w t 0 ∧ W.w t 0 < 12) (hu : ∀ t, t < W.nt → us' t = us t) : (∀ h : Int, 0 ≤ h → h < 12 → grP W' us' Q' h = grP W us Q h ∧ rtP W' us' Q' h = rtP W us Q h) ∧ ∀ t, t < W.nt → baP W' us' Q' t = baP W us Q t ∧ usP W' us' Q' t = usP W us Q t ∧ paP W' us' Q' t = paP W us Q t := by
  obtain ⟨x1, x2, x3⟩ := sl_agree hW hQ h0 hu
  have hr := rm_agree (us := us) (us' := us') hW hu
  have hp := py_agree hW hQ h0
  refine ⟨fun h q1 q2 => ?_, fun t ht => ?_⟩
  · unfold grP rtP
    rw [x2, x3 h q1 q2, hQ.1 h q1 q2, hW.1, hs_eq hW.2.1 hr hp (hQ.1 h q1 q2) (x3 h q1 q2) W.nt (Nat.le_refl _)]
    exact ⟨rfl, rfl⟩
  · have q := h0 t ht
    unfold baP usP paP auP
    rw [x2, hp t ht, bs_eq hW.2.1 hr hp ht (hQ.1 _ q.1 q.2) (x3 _ q.1 q.2), au_eq hW.2.1 hr hp ht (hQ.1 _ q.1 q.2) (x3 _ q.1 q.2), pd_eq hW.2.1 ht, (hW.2.1 t ht).2.1]
    exact ⟨rfl, rfl, rfl⟩
theorem rs_agree {ra ra' U U' : Nat → Int} {t : Nat} (hW : WEq W' W) (ht : t < W.nt) (h1 : ra' t = ra t) (h2 : U' t = U t) : rsF W'.w ra' U' t = rsF W.w ra U t ∧ pmF W'.w ra' U' t = pmF W.w ra U t := by
  have e1 := (hW.2.1 t ht).2.1
  have h : rsF W'.w ra' U' t = rsF W.w ra U t := by
    unfold rsF
    rw [e1, h1, h2]
    by_cases q : W.w t 1 = 0
    · rw [if_pos q, if_pos q]
    · obtain ⟨c3, c5, -⟩ := (hW.2.2 t ht).1 q
      rw [c3, c5]
  refine ⟨h, ?_⟩
  unfold pmF
  rw [e1, h]
  by_cases q : W.w t 1 = 0
  · rw [if_pos q, if_pos q]
  · obtain ⟨c3, c5, c6⟩ := (hW.2.2 t ht).1 q
    rw [c3, c6]
theorem ow_agree {ra ra' U U' B B' : Nat → Int} {a b : Int} (hW : WEq W' W) (h1 : ∀ t, t < W.nt → ra' t = ra t) (h2 : ∀ t, t < W.nt → U' t = U t) (h3 : ∀ t, t < W.nt → B' t = B t) : owF W'.w ra' U' B' a b W'.nt = owF W.w ra U B a b W.nt := by
  unfold owF
  rw [hW.1]
  refine sumF_congr fun t ht => ?_
  obtain ⟨e0, e1, -, -, e7, ep⟩ := hW.2.1 t ht
  rw [(rs_agree hW ht (h1 t ht) (h2 t ht)).2, h2 t ht, h3 t ht, e1, e7]
  unfold owT
  refine sumF_congr fun i hi => ?_
  rw [e0, (ep i (by omega)).1, (ep i (by omega)).2]
theorem cu_agree {cs cs' : Nat → Int} {a b : Int} (hW : WEq W' W) (h1 : ∀ t, t < W.nt → cs' t = cs t) : cuF W' cs' a b W.nt = cuF W cs a b W.nt := by
  unfold cuF
  refine sumF_congr fun t ht => ?_
  obtain ⟨e0, e1, -, -, e7, ep⟩ := hW.2.1 t ht
  rw [(hW.2.2 t ht).2.1, h1 t ht, e7]
  have e : cuT W'.w t (cs t) a b (W.w t 7).toNat = cuT W.w t (cs t) a b (W.w t 7).toNat := by
    unfold cuT
    refine sumF_congr fun i hi => ?_
    rw [e0, (ep i (by omega)).1, (ep i (by omega)).2]
  rw [e]
end
theorem all_agree {W W' : WdQ} {Q Q' : Nat → EvQ} (hW : WEq W' W) (h0 : ∀ t, t < W.nt → 0 ≤ W.w t 0 ∧ W.w t 0 < 12) : ∀ e, (∀ i, i < e → QEq (Q' i) (Q i)) → (∀ t, t < W.nt → (acP W' Q' e).1 t = (acP W Q e).1 t ∧ (acP W' Q' e).2 t = (acP W Q e).2 t) ∧ ∀ a b, owP W' Q' e a b = owP W Q e a b := by
  intro e
  induction e with
  | zero => intro _; exact ⟨fun t _ => ⟨rfl, rfl⟩, fun _ _ => rfl⟩
  | succ e ih =>
    intro hQ
    obtain ⟨i1, i2⟩ := ih (fun i hi => hQ i (by omega))
    obtain ⟨v1, v2⟩ := ev_agree (us' := (acP W' Q' e).1) (us := (acP W Q e).1) hW (hQ e (by omega)) h0 (fun t ht => (i1 t ht).1)
    refine ⟨fun t ht => ⟨?_, ?_⟩, fun a b => ?_⟩
    · show (acP W' Q' e).1 t + (if W'.w t 1 = 0 then 0 else usP W' (acP W' Q' e).1 (Q' e) t) = (acP W Q e).1 t + (if W.w t 1 = 0 then 0 else usP W (acP W Q e).1 (Q e) t)
      rw [(i1 t ht).1, (v2 t ht).2.1, (hW.2.1 t ht).2.1]
    · show (acP W' Q' e).2 t + rsF W'.w (acP W' Q' e).2 (usP W' (acP W' Q' e).1 (Q' e)) t = (acP W Q e).2 t + rsF W.w (acP W Q e).2 (usP W (acP W Q e).1 (Q e)) t
      rw [(i1 t ht).2, (rs_agree hW ht (i1 t ht).2 (v2 t ht).2.1).1]
    · show owP W' Q' e a b + owF W'.w (acP W' Q' e).2 (usP W' (acP W' Q' e).1 (Q' e)) (baP W' (acP W' Q' e).1 (Q' e)) a b W'.nt = owP W Q e a b + owF W.w (acP W Q e).2 (usP W (acP W Q e).1 (Q e)) (baP W (acP W Q e).1 (Q e)) a b W.nt
      rw [i2 a b, ow_agree hW (fun t ht => (i1 t ht).2) (fun t ht => (v2 t ht).2.1) (fun t ht => (v2 t ht).1)]
