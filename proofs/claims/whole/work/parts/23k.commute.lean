/-! ===== commute ===== -/
section
variable {D D' : Nat → Int → Int} {T nt : Nat} {cn : Nat → Nat} {cc : Nat → Nat → Int × Int}
theorem CpW_S (hn : nt ≤ 24) (r : ∀ r, 216 ≤ r → r ≤ 235 → D' r = D r) (h10 : D' 210 10 = D 210 10) (hS : TmS T D D') (h : CpW T nt cn cc D) : CpW T nt cn cc D' := by
  have ew : wM D' = wM D := wM_keep (fun x q1 q2 => r x (by omega) (by omega)) h10
  have eT : D' T = D T := hS.1 T (by omega) (by omega) (by omega) (fun t => by omega)
  obtain ⟨w1, w2, w3, w4, w5, w6, w7⟩ := h
  refine ⟨?_, ?_, ?_, ?_, ?_, ?_, ?_⟩
  · rw [h10]; exact w1
  · rw [h10, r 216 (by decide) (by decide), eT]; exact w2
  · rw [h10, r 221 (by decide) (by decide)]; exact w3
  · rw [ew]
    intro t ht
    obtain ⟨a0, a1, a2, a4, a7, ai⟩ := w4 t ht
    rw [wC_S hS (by omega) (by decide) (by decide), wC_S hS (by omega) (by decide) (by decide), wC_S hS (by omega) (by decide) (by decide), wC_S hS (by omega) (by decide) (by decide), wC_S hS (by omega) (by decide) (by decide)]
    refine ⟨a0, a1, a2, a4, a7, fun i hi => ?_⟩
    rw [wC_S hS (by omega) (by omega) (by omega), wC_S hS (by omega) (by omega) (by omega)]
    exact ai i hi
  · intro t ht
    rw [ew, wC_S hS (by omega) (by decide) (by decide), wC_S hS (by omega) (by decide) (by decide), wC_S hS (by omega) (by decide) (by decide), wC_S hS (by omega) (by decide) (by decide)]; exact w5 t ht
  · intro t ht
    have := w6 t (by unfold ntM at ht ⊢; rw [h10, r 221 (by decide) (by decide)] at ht; exact ht)
    rw [h10, r 233 (by decide) (by decide), r 234 (by decide) (by decide), r 235 (by decide) (by decide)]
    exact this
  · rw [h10, r 219 (by decide) (by decide), r 220 (by decide) (by decide), hS.1 (T + 4) (by omega) (by omega) (by omega) (fun t => by omega), hS.1 (T + 5) (by omega) (by omega) (by omega) (fun t => by omega), eT]; exact w7
end
section
variable {G : aCX} {l : Launch} {s0 : Nat} {st : aSt}
theorem g_commute {q am : Int} (hG : GIv s0 st) : VM G l 31 iX11_commute [rf 1, (0, q), (0, am)] st (fun w st1 => Kn st1.1 ∧ VM G l 31 iX12_commute [rf 210, (0, q), (0, am)] st1 (fun w' st2 => w' = w ∧ GIv s0 st2)) := by
  obtain ⟨K, D, z⟩ := st
  obtain ⟨m, T, T2, nt, n, wo, cn, cc, hX⟩ := hG
  have hX : giX s0 m T T2 nt n wo cn cc K D z := hX
  have hT := hX.1.2.2.2.1
  have hT2 : T = 8 ∨ T = 129 := hT
  have hV := hX.2.1.2.1
  have hW := hX.2.1.2.2.1
  obtain ⟨cp1, cp2⟩ := hX.2.1.2.2.2
  obtain ⟨n1, n24⟩ := giX_nt hX
  refine v_commute hX.1.1 hT hX.2.2.2.1.1 (by omega) (fun hc t hq h13 => ?_) (fun hn => ?_)
  · refine ⟨hX.1.1, ?_⟩
    show VM G l 31 iX12_commute [rf 210, (0, q), (0, am)] (K, FgA (aUp (aUp D (T + 9 + 3 * t) 13 (D 1 7)) (T + 9 + 3 * t) 14 am), z) _
    have ht : t < nt := by omega
    obtain ⟨x1, x2, x3, x4⟩ := cp1 t ht
    obtain ⟨a, ha⟩ : ∃ a, T + 9 + 3 * t = a := ⟨_, rfl⟩
    have ar : (17 ≤ a ∧ a ≤ 86) ∨ (138 ≤ a ∧ a ≤ 207) := by omega
    rw [ha]
    rw [ha] at h13 x1 x2
    have cr : ∀ r, r ≠ 1 → r ≠ 116 → r ≠ a → FgA (aUp (aUp D a 13 (D 1 7)) a 14 am) r = D r := fun r q1 q2 q3 => by rw [FgA_row q1 q2, aUp_row q3, aUp_row q3]
    have c1 : ∀ j : Int, j ≠ 10 → j ≠ 11 → FgA (aUp (aUp D a 13 (D 1 7)) a 14 am) 1 j = D 1 j := fun j q1 q2 => by rw [FgA_1 q1 q2, aUp_row (by omega), aUp_row (by omega)]
    have ca : ∀ j : Int, j ≠ 13 → j ≠ 14 → FgA (aUp (aUp D a 13 (D 1 7)) a 14 am) a j = D a j := fun j q1 q2 => by rw [FgA_row (by omega) (by omega), aUp_ne q2, aUp_ne q1]
    have ca13 : FgA (aUp (aUp D a 13 (D 1 7)) a 14 am) a 13 = D 1 7 := by rw [FgA_row (by omega) (by omega), aUp_ne (by decide), aUp_at]
    have ca14 : FgA (aUp (aUp D a 13 (D 1 7)) a 14 am) a 14 = am := by rw [FgA_row (by omega) (by omega), aUp_at]
    obtain ⟨f1, f2, f3, f4⟩ := FgA_z (D := aUp (aUp D a 13 (D 1 7)) a 14 am)
    generalize FgA (aUp (aUp D a 13 (D 1 7)) a 14 am) = C at cr c1 ca ca13 ca14 f1 f2 f3 f4 ⊢
    have e210 := cr 210 (by decide) (by decide) (by omega)
    have e221 := cr 221 (by decide) (by decide) (by omega)
    have e265 := cr 265 (by decide) (by decide) (by omega)
    have e35 : C 210 35 = D 1 7 := by rw [e210]; exact hV.1.1
    refine u_commute hX.1.1 (by rw [e210]; have := hW.1; omega) (by rw [e210, e221, hW.2.2.1]; omega) (fun _ => ⟨rfl, ?_⟩) (fun hn => absurd (by rw [e210, e221, e265, hW.2.2.1, hq, x1, h13]; exact ⟨⟨by omega, by omega⟩, hc.2, by omega⟩) hn)
    rw [e35]
    have row : ∀ r, r ≠ 210 → r ≠ 265 → r ≠ 266 → aUp (aUp (aUp C 210 0 0) 265 q (D 1 7)) 266 q am r = C r := fun r q1 q2 q3 => by rw [aUp_row q3, aUp_row q2, aUp_row q1]
    have c210 : ∀ j : Int, j ≠ 0 → aUp (aUp (aUp C 210 0 0) 265 q (D 1 7)) 266 q am 210 j = D 210 j := fun j q1 => by rw [aUp_row (by decide), aUp_row (by decide), aUp_ne q1, e210]
    have c265 : aUp (aUp (aUp C 210 0 0) 265 q (D 1 7)) 266 q am 265 = uF (D 265) q (D 1 7) := by rw [aUp_row (by decide), aUp_same, aUp_row (by decide), e265]
    have c266 : aUp (aUp (aUp C 210 0 0) 265 q (D 1 7)) 266 q am 266 = uF (D 266) q am := by rw [aUp_same, aUp_row (by decide), aUp_row (by decide), cr 266 (by decide) (by decide) (by omega)]
    generalize aUp (aUp (aUp C 210 0 0) 265 q (D 1 7)) 266 q am = E at row c210 c265 c266 ⊢
    have rE : ∀ r, r ≠ 1 → r ≠ 116 → r ≠ a → r ≠ 210 → r ≠ 265 → r ≠ 266 → E r = D r := fun r q1 q2 q3 q4 q5 q6 => by rw [row r q4 q5 q6, cr r q1 q2 q3]
    have cE : ∀ j : Int, j ≠ 10 → j ≠ 11 → E 1 j = D 1 j := fun j q1 q2 => by rw [row 1 (by decide) (by decide) (by decide), c1 j q1 q2]
    have ea := row a (by omega) (by omega) (by omega)
    rw [← ea] at ca ca13 ca14
    rw [← row 1 (by decide) (by decide) (by decide)] at f1 f2
    rw [← row 116 (by decide) (by decide) (by decide)] at f3 f4
    have rw1 : ∀ r, ((2 ≤ r ∧ r ≤ 5) ∨ (89 ≤ r ∧ r ≤ 100) ∨ r = 108 ∨ r = 122 ∨ r = 211 ∨ (215 ≤ r ∧ r ≤ 247) ∨ 267 ≤ r) → E r = D r := fun r y => rE r (by omega) (by omega) (by omega) (by omega) (by omega) (by omega)
    have hS : TmS T D E := by
      refine ⟨fun r q1 q2 q3 q4 => rE r (by omega) (by omega) (by have := q4 t; omega) (by omega) (by omega) (by omega), fun t' j ht' q1 q2 => ?_⟩
      by_cases e : t' = t
      · rw [e, ha]; exact ca j q1 q2
      · rw [rE (T + 9 + 3 * t') (by omega) (by omega) (by omega) (by omega) (by omega) (by omega)]
    have kt : TmC T nt cn cc D := hX.1.2.2.2.2.2.2.2
    have ot : ∀ t' : Nat, t' < nt → t' ≠ t → E (T + 9 + 3 * t') = D (T + 9 + 3 * t') := fun t' q1 q2 => rE (T + 9 + 3 * t') (by omega) (by omega) (by omega) (by omega) (by omega) (by omega)
    have kt' : TmC T nt cn cc E := TmC_S hS (fun t' ht' => by
      by_cases e : t' = t
      · rw [e, ha, ca14]; exact hc.2
      · rw [ot t' ht' e]; exact kt.2.2.2.2.2 t' ht') kt
    have h7 := cE 7 (by decide) (by decide)
    have bk := Bk_keep (fun r q1 q2 => rw1 r (by omega)) hX.1.2.2.2.2.1 hX.1.2.2.2.2.2.1 hX.1.2.2.2.2.2.2.1
    refine GIv_mk (m := m) (T := T) (T2 := T2) (nt := nt) (n := n) (wo := wo) (cn := cn) (cc := cc) ⟨⟨hX.1.1, SlI_keep hX.1.2.1 (rw1 108 (by decide)), SlV_S kt.2.1 hS (fun x y => rw1 x (by omega)) hX.1.2.2.1, hT, bk.1, bk.2.1, bk.2.2, kt'⟩, ⟨CpB_keep (fun r y => rw1 r (by omega)) (c210 37 (by decide)) (c210 45 (by decide)) hX.2.1.1, CpV_keep h7 (cE 8 (by decide) (by decide)) (cE 9 (by decide) (by decide)) (c210 35 (by decide)) (c210 36 (by decide)) (rw1 244 (by decide)) hV, CpW_S n24 (fun x q1 q2 => rw1 x (by omega)) (c210 10 (by decide)) hS hW, fun t' ht' => ?_, fun t' ht' => ?_⟩, giT_keep (rw1 3 (by decide)) (rw1 4 (by decide)) (rw1 211 (by decide)) (rw1 215 (by decide)) (by rw [rw1 2 (by decide)]) (c210 2 (by decide)) hX.2.2.1, ⟨?_, ?_, hX.2.2.2.1.2.2.1, hX.2.2.2.1.2.2.2.1, ?_⟩, giP_keep (rw1 122 (by decide)) (rw1 272 (by decide)) (rw1 89 (by decide)) (rw1 98 (by decide)) (rw1 243 (by decide)) (by omega) hX.2.2.2.2.1, giC_zero f1 f2 f3 f4⟩
    · rw [c265, c266, h7]
      by_cases e : t' = t
      · rw [e, hq, uF_at, uF_at, ha, ca13, ca14]
        have := hV.2.1
        exact ⟨rfl, fun _ => rfl, by omega, by omega⟩
      · rw [uF_ne (by omega), uF_ne (by omega), ot t' ht' e]; exact cp1 t' ht'
    · rw [c266]
      by_cases e : t' = t
      · rw [e, hq, uF_at]; exact hc.2
      · rw [uF_ne (by omega)]; exact cp2 t' ht'
    · rw [cE 6 (by decide) (by decide)]; exact hX.2.2.2.1.1
    · rw [rw1 5 (by decide)]; exact hX.2.2.2.1.2.1
    · have f5 := hX.2.2.2.1.2.2.2.2
      unfold giH at f5 ⊢
      rw [c210 10 (by decide), rw1 233 (by decide)]
      exact f5
  · refine ⟨hX.1.1, ?_⟩
    refine u_commute hX.1.1 (by have := hW.1; omega) (by rw [hW.2.2.1]; omega) (fun hy => ?_) (fun _ => ⟨rfl, GIv_mk (giX_thr hX)⟩)
    obtain ⟨y1, y2, y3⟩ := hy
    rw [hW.2.2.1] at y1
    have hq : q = ((q.toNat : Nat) : Int) := by omega
    obtain ⟨x1, x2, x3, x4⟩ := cp1 q.toNat (by omega)
    have := hn q.toNat hq ⟨by omega, y2⟩
    rw [← hq] at x1 x3
    exact absurd (by omega) this
end
