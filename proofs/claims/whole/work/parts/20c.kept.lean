/-! ===== the class's reckoning, kept ===== -/
theorem QEq_rfl {Q : EvQ} : QEq Q Q := by unfold QEq; exact ⟨by intros; rfl, rfl, rfl, rfl⟩
theorem SlA_agree {W W' : WdQ} {Q : Nat → EvQ} {E : ES} {nt e : Nat} {D : Nat → Int → Int} (hW : WEq W' W) (hn : W.nt = nt) (h0 : ∀ t, t < W.nt → 0 ≤ W.w t 0 ∧ W.w t 0 < 12) (h : SlA W Q E nt e D) : SlA W' Q E nt e D := by
  obtain ⟨h1, h2, ⟨a1, a2, a3, a4⟩, h4⟩ := h
  have ac := (all_agree (Q := Q) (Q' := Q) hW h0 e (fun _ _ => QEq_rfl)).1
  have sl := sl_agree (Q := Q e) (Q' := Q e) hW QEq_rfl h0 (fun t ht => (ac t ht).1)
  have ev := ev_agree (Q := Q e) (Q' := Q e) hW QEq_rfl h0 (fun t ht => (ac t ht).1)
  refine ⟨h1, h2, ⟨by rw [sl.1]; exact a1, by rw [sl.2.1]; exact a2, fun h q1 q2 => ?_, fun t ht => ?_⟩, fun t ht => ?_⟩
  · rw [(ev.1 h q1 q2).1, (ev.1 h q1 q2).2]; exact a3 h q1 q2
  · have e := ev.2 t (by omega)
    rw [e.1, e.2.1, e.2.2]; exact a4 t ht
  · have r := rs_agree hW (show t < W.nt by omega) (ac t (by omega)).2 (ev.2 t (by omega)).2.1
    rw [r.1, r.2]; exact h4 t ht
/-- D' holds what the reckoning of D0's book and wording gives -/
def RkC (D0 : Nat → Int → Int) (wo : Int → Int) (T nt : Nat) (cn : Nat → Nat) (cc : Nat → Nat → Int × Int) (v stm ms : Int) (D : Nat → Int → Int) : Prop := (D 111 1 = (evX D0 wo T v stm ms).1 ∧ D 111 2 = ncX D0 wo T v stm) ∧ (∀ q : Nat, (q : Int) < D0 89 0 → D 112 q = (evX D0 wo T v stm ms).2.2.1 q) ∧ (∀ e : Nat, e < (evX D0 wo T v stm ms).1 → SlA (WqC D0 T nt v cn cc) (qX D0 wo T v stm ms) (evX D0 wo T v stm ms) nt e D) ∧ (∀ t : Nat, t < nt → D 109 t = (acP (WqC D0 T nt v cn cc) (qX D0 wo T v stm ms) (evX D0 wo T v stm ms).1).1 t) ∧ (∀ h : Nat, h < 12 → D 103 h = drX D0 wo T v stm ms h) ∧ ∀ a b : Int, 0 ≤ a → a < 12 → 0 ≤ b → b < 12 → D 102 (a * 12 + b) = owX D0 wo T nt cn cc v stm ms a b
theorem RkC_of {T nt : Nat} {wo : Int → Int} {cn : Nat → Nat} {cc : Nat → Nat → Int × Int} {v stm ms : Int} {D0 D' : Nat → Int → Int} (hC : CW T nt wo cn cc D0) (h : RkX D0 wo T nt cn cc v stm ms D') : RkC D0 wo T nt cn cc v stm ms D' := by
  obtain ⟨-, h1, h2, -, h4, h5, h6, h7⟩ := h
  refine ⟨h1, fun q hq => ?_, h4, h5, h6, h7⟩
  obtain ⟨i, i1, i2⟩ := hC.2.2.2.1.2.2 q (by omega) hq
  rw [← i2]
  exact h2 i (by omega)
def ctR (r : Nat) : Prop := r = 102 ∨ r = 103 ∨ r = 109 ∨ (111 ≤ r ∧ r ≤ 112) ∨ 279 ≤ r
theorem RkC_congr {T nt : Nat} {wo : Int → Int} {cn : Nat → Nat} {cc : Nat → Nat → Int × Int} {v stm ms : Int} {D0 D1 D D' : Nat → Int → Int} (hC : CW T nt wo cn cc D0) (hr : ∀ r, inR T r → D1 r = D0 r) (hd : ∀ r, ctR r → D' r = D r) (h : RkC D0 wo T nt cn cc v stm ms D) : RkC D1 wo T nt cn cc v stm ms D' := by
  obtain ⟨⟨h1, h1'⟩, h2, h4, h5, h6, h7⟩ := h
  obtain ⟨e1, e2, e3⟩ := evX_congr (wo := wo) (v := v) (stm := stm) (ms := ms) hr
  have hw := hC.2.2.2.2.2.1
  have hW : WEq (WqC D1 T nt v cn cc) (WqC D0 T nt v cn cc) := WqC_eq hw.1 hr
  have h0 : ∀ t, t < (WqC D0 T nt v cn cc).nt → 0 ≤ (WqC D0 T nt v cn cc).w t 0 ∧ (WqC D0 T nt v cn cc).w t 0 < 12 := fun t ht => by
    have a := (hw.2.2.2 t ht).1
    have b := hw.2.2.1
    have c : 0 ≤ wC D0 T t 0 ∧ wC D0 T t 0 < 12 := ⟨by omega, by omega⟩
    exact c
  have e89 : D1 89 = D0 89 := hr 89 (Or.inl (by decide))
  unfold RkC
  rw [e1, e2, e3, hd 111 (by unfold ctR; omega), hd 112 (by unfold ctR; omega), hd 109 (by unfold ctR; omega), hd 103 (by unfold ctR; omega), hd 102 (by unfold ctR; omega), e89]
  refine ⟨⟨h1, h1'⟩, h2, fun e he => SlA_agree hW rfl h0 (SlA_keep (h4 e he) (fun r q _ => hd r (by unfold ctR; omega))), fun t ht => ?_, fun h hh => ?_, fun a b q1 q2 q3 q4 => ?_⟩
  · rw [((all_agree (Q := qX D0 wo T v stm ms) (Q' := qX D0 wo T v stm ms) hW h0 (evX D0 wo T v stm ms).1 (fun _ _ => QEq_rfl)).1 t ht).1]; exact h5 t ht
  · have : drX D1 wo T v stm ms h = drX D0 wo T v stm ms h := by unfold drX; rw [e1, e3]
    rw [this]; exact h6 h hh
  · rw [owX_congr hC hr a b]; exact h7 a b q1 q2 q3 q4
/-- the storms that count -/
abbrev stC (D : Nat → Int → Int) : Int := bAnd 63 (bXor (D 1 9) (-1))
/-- what reckonIfNeeded leaves -/
def FrI (T : Nat) (D D' : Nat → Int → Int) : Prop := (∀ r, r < 279 → r ≠ 1 → ¬ rkR T r → (r < 111 ∨ 115 < r) → D' r = D r) ∧ ∀ j : Int, j ≠ 10 → D' 1 j = D 1 j
section
variable {G : aCX} {l : Launch} {d : Nat} {K : Nat → aKd} {D : Nat → Int → Int} {z : Nat × Nat} {P : Int → aSt → Prop}
theorem v_reckonIfNeeded {s0 m T nt : Nat} {wo : Int → Int} {cn : Nat → Nat} {cc : Nat → Nat → Int × Int} (hC : CI s0 m T nt wo cn cc K D z) (h16 : D 1 6 = (T : Nat)) (hf : D 1 10 = 0 ∨ (D 1 10 = 1 ∧ RkC D wo T nt cn cc (vwC D) (stC D) (-1) D ∧ (evX D wo T (vwC D) (stC D) (-1)).1 ≤ m)) (kk : ∀ K' D' z' m', CI s0 m' T nt wo cn cc K' D' z' → FrI T D D' → D' 1 10 = 1 → RkC D' wo T nt cn cc (vwC D') (stC D') (-1) D' → (evX D' wo T (vwC D') (stC D') (-1)).1 ≤ m' → vwC D' = vwC D ∧ stC D' = stC D → P 0 (K', D', z')) : VM G l (d + 5) iX11_reckonIfNeeded [rf 1] (K, D, z) P := by
  have hk := hC.1
  have hT := hC.2.2.2.1
  have hT2 : T = 8 ∨ T = 129 := hT
  refine VM_go (tg2 rfl) (Nat.le_of_ble_eq_true rfl) ?_
  refine s_al0 rfl ?_
  refine s_gz rfl (hk.at rfl rfl) rfl ?_
  refine s_zne rfl ?_ ?_
  · intro h4
    refine s_retv rfl rfl ?_
    first
    | (have q1 : D 1 10 = 1 := by omega
       have hR := hf.resolve_left (by omega)
       exact kk K D z m hC ⟨fun _ _ _ _ _ => rfl, fun _ _ => rfl⟩ q1 hR.2.1 hR.2.2 ⟨rfl, rfl⟩)
    | (have row : ∀ r, r ≠ 1 → aUp D' 1 10 1 r = D' r := fun r q => aUp_row q
       have c1 : ∀ j : Int, j ≠ 10 → aUp D' 1 10 1 1 j = D 1 j := fun j q => by rw [aUp_ne q, e1]
       have iR2 : ∀ r, inR T r → aUp D' 1 10 1 r = D r := fun r q => by rw [row r (by unfold inR at q; omega)]; exact iR r q
       have ev : vwC (aUp D' 1 10 1) = vwC D := by
         show (if aUp D' 1 10 1 1 8 = -1 then aUp D' 1 10 1 1 7 else aUp D' 1 10 1 1 8) = _
         rw [c1 8 (by decide), c1 7 (by decide)]
       have es : stC (aUp D' 1 10 1) = stC D := by
         show bAnd 63 (bXor (aUp D' 1 10 1 1 9) (-1)) = _
         rw [c1 9 (by decide)]
       refine kk K' _ z' m' (CI_keep hC' (fun r q => row r (by unfold inR at q; omega))) ⟨fun r q1 q2 q3 q4 => by rw [row r q2]; exact hX.1 r q1 q3 q4, c1⟩ aUp_at ?_ ?_ ⟨ev, es⟩
       · rw [ev, es]
         exact RkC_congr hC.2.2.2 iR2 (fun r q => row r (by unfold ctR at q; omega)) (RkC_of hC.2.2.2 hX)
       · rw [ev, es, (evX_congr (wo := wo) (v := vwC D) (stm := stC D) (ms := -1) iR2).1]; exact hm)
  · intro h4
    refine s_al0 rfl ?_
    refine s_gf rfl (hk.at rfl rfl) rfl rfl ?_
    refine s_al0 rfl ?_
    refine s_gr rfl (hk.at rfl rfl) rfl ?_
    rw [h16]
    refine s_al0 rfl ?_
    refine s_callO rfl rfl (Or.inl rfl) rfl rfl (hk.at rfl rfl) (v_viewDay hk ?_)
    show V G l (d + 5) iX11_reckonIfNeeded 19 [rf 1] [(0, vwC D), rf T, rf 101] (K, D, z) P
    refine s_al0 rfl ?_
    refine s_callO rfl rfl (Or.inl rfl) rfl rfl (hk.at rfl rfl) (v_stormsIn hk ?_)
    show V G l (d + 5) iX11_reckonIfNeeded 23 [rf 1] [(0, stC D), (0, vwC D), rf T, rf 101] (K, D, z) P
    refine s_ic rfl ?_
    refine s_callO rfl rfl (Or.inl rfl) rfl rfl (hk.at rfl rfl) (v_reck hC (fun K' D' z' m' hC' hm hX => ?_))
    have hk' := hC'.1
    have iR := RkX_inR hT hX
    have e1 : D' 1 = D 1 := hX.1 1 (by decide) (by unfold rkR; omega) (by decide)
    show V G l (d + 5) iX11_reckonIfNeeded 27 [rf 1] [] (K', D', z') P
    refine s_al0 rfl ?_
    refine s_ic rfl ?_
    refine s_pz rfl (hk'.at rfl rfl) rfl (Or.inr rfl) ?_
    refine s_retv rfl rfl ?_
    first
    | (have q1 : D 1 10 = 1 := by omega
       have hR := hf.resolve_left (by omega)
       exact kk K D z m hC ⟨fun _ _ _ _ _ => rfl, fun _ _ => rfl⟩ q1 hR.2.1 hR.2.2 ⟨rfl, rfl⟩)
    | (have row : ∀ r, r ≠ 1 → aUp D' 1 10 1 r = D' r := fun r q => aUp_row q
       have c1 : ∀ j : Int, j ≠ 10 → aUp D' 1 10 1 1 j = D 1 j := fun j q => by rw [aUp_ne q, e1]
       have iR2 : ∀ r, inR T r → aUp D' 1 10 1 r = D r := fun r q => by rw [row r (by unfold inR at q; omega)]; exact iR r q
       have ev : vwC (aUp D' 1 10 1) = vwC D := by
         show (if aUp D' 1 10 1 1 8 = -1 then aUp D' 1 10 1 1 7 else aUp D' 1 10 1 1 8) = _
         rw [c1 8 (by decide), c1 7 (by decide)]
       have es : stC (aUp D' 1 10 1) = stC D := by
         show bAnd 63 (bXor (aUp D' 1 10 1 1 9) (-1)) = _
         rw [c1 9 (by decide)]
       refine kk K' _ z' m' (CI_keep hC' (fun r q => row r (by unfold inR at q; omega))) ⟨fun r q1 q2 q3 q4 => by rw [row r q2]; exact hX.1 r q1 q3 q4, c1⟩ aUp_at ?_ ?_ ⟨ev, es⟩
       · rw [ev, es]
         exact RkC_congr hC.2.2.2 iR2 (fun r q => row r (by unfold ctR at q; omega)) (RkC_of hC.2.2.2 hX)
       · rw [ev, es, (evX_congr (wo := wo) (v := vwC D) (stm := stC D) (ms := -1) iR2).1]; exact hm)
end
