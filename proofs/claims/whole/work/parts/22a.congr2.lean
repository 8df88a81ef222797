/-! ===== answers depend on the inputs alone ===== -/
theorem an_congr {T nt : Nat} {wo : Int → Int} {cn : Nat → Nat} {cc : Nat → Nat → Int × Int} {D0 D1 : Nat → Int → Int} (hC : CW T nt wo cn cc D0) (hr : ∀ r, inR T r → D1 r = D0 r) (hv : vwC D1 = vwC D0) (hs : stC D1 = stC D0) : evX D1 wo T (vwC D1) (stC D1) (-1) = evX D0 wo T (vwC D0) (stC D0) (-1) ∧ (∀ (i : Nat) (what : Int), anE wo T nt cn cc D1 i what = anE wo T nt cn cc D0 i what) ∧ (∀ (i : Nat) (h what : Int), 0 ≤ h → h < 12 → anG wo T nt cn cc D1 i h what = anG wo T nt cn cc D0 i h what) ∧ ∀ (i t : Nat) (what : Int), t < nt → anT wo T nt cn cc D1 i t what = anT wo T nt cn cc D0 i t what := by
  have hw := hC.2.2.2.2.2.1
  obtain ⟨e1, -, e3⟩ := evX_congr (wo := wo) (v := vwC D0) (stm := stC D0) (ms := -1) hr
  have hW : WEq (WqC D1 T nt (vwC D0) cn cc) (WqC D0 T nt (vwC D0) cn cc) := WqC_eq hw.1 hr
  have h0 : ∀ t, t < (WqC D0 T nt (vwC D0) cn cc).nt → 0 ≤ (WqC D0 T nt (vwC D0) cn cc).w t 0 ∧ (WqC D0 T nt (vwC D0) cn cc).w t 0 < 12 := fun t ht => by
    have a := (hw.2.2.2 t ht).1
    have b := hw.2.2.1
    have c : 0 ≤ wC D0 T t 0 ∧ wC D0 T t 0 < 12 := ⟨by omega, by omega⟩
    exact c
  have ac := fun i => (all_agree (Q := qX D0 wo T (vwC D0) (stC D0) (-1)) (Q' := qX D0 wo T (vwC D0) (stC D0) (-1)) hW h0 i (fun _ _ => QEq_rfl)).1
  have sl := fun i => sl_agree (Q := qX D0 wo T (vwC D0) (stC D0) (-1) i) (Q' := qX D0 wo T (vwC D0) (stC D0) (-1) i) hW QEq_rfl h0 (fun t ht => (ac i t ht).1)
  have ev := fun i => ev_agree (Q := qX D0 wo T (vwC D0) (stC D0) (-1) i) (Q' := qX D0 wo T (vwC D0) (stC D0) (-1) i) hW QEq_rfl h0 (fun t ht => (ac i t ht).1)
  refine ⟨by rw [hv, hs, e1], fun i what => ?_, fun i h what q1 q2 => ?_, fun i t what ht => ?_⟩
  · unfold anE; rw [hv, hs, e1, e3, (sl i).1, (sl i).2.1]
  · unfold anG; rw [hv, hs, e3, ((ev i).1 h q1 q2).1, ((ev i).1 h q1 q2).2]
  · have r := rs_agree hW (show t < (WqC D0 T nt (vwC D0) cn cc).nt from ht) (ac i t ht).2 ((ev i).2 t ht).2.1
    unfold anT; rw [hv, hs, e3, ((ev i).2 t ht).1, ((ev i).2 t ht).2.1, ((ev i).2 t ht).2.2, r.1, r.2]
