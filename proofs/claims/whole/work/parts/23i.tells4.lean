/-! ===== word, loss ===== -/
abbrev WdA (D : Nat → Int → Int) (q W now am : Int) : Nat → Int → Int := aUp (aUp (aUp (aUp (aUp D 98 W now) 99 W am) 100 W (D 97 q)) 97 q W) 89 1 (W + 1)
theorem WdA_row {D : Nat → Int → Int} {q W now am : Int} {r : Nat} (h1 : r ≠ 89) (h2 : r < 97 ∨ 100 < r) : WdA D q W now am r = D r := by
  show aUp (aUp (aUp (aUp (aUp D 98 W now) 99 W am) 100 W (D 97 q)) 97 q W) 89 1 (W + 1) r = D r
  rw [aUp_row h1, aUp_row (by omega), aUp_row (by omega), aUp_row (by omega), aUp_row (by omega)]
theorem WdA_at {D : Nat → Int → Int} {q W now am : Int} : WdA D q W now am 89 = uF (D 89) 1 (W + 1) ∧ WdA D q W now am 97 = uF (D 97) q W ∧ WdA D q W now am 98 = uF (D 98) W now ∧ WdA D q W now am 99 = uF (D 99) W am ∧ WdA D q W now am 100 = uF (D 100) W (D 97 q) := by
  refine ⟨?_, ?_, ?_, ?_, ?_⟩
  · show aUp (aUp (aUp (aUp (aUp D 98 W now) 99 W am) 100 W (D 97 q)) 97 q W) 89 1 (W + 1) 89 = _
    rw [aUp_same, aUp_row (by decide), aUp_row (by decide), aUp_row (by decide), aUp_row (by decide)]
  · show aUp (aUp (aUp (aUp (aUp D 98 W now) 99 W am) 100 W (D 97 q)) 97 q W) 89 1 (W + 1) 97 = _
    rw [aUp_row (by decide), aUp_same, aUp_row (by decide), aUp_row (by decide), aUp_row (by decide)]
  · show aUp (aUp (aUp (aUp (aUp D 98 W now) 99 W am) 100 W (D 97 q)) 97 q W) 89 1 (W + 1) 98 = _
    rw [aUp_row (by decide), aUp_row (by decide), aUp_row (by decide), aUp_row (by decide), aUp_same]
  · show aUp (aUp (aUp (aUp (aUp D 98 W now) 99 W am) 100 W (D 97 q)) 97 q W) 89 1 (W + 1) 99 = _
    rw [aUp_row (by decide), aUp_row (by decide), aUp_row (by decide), aUp_same, aUp_row (by decide)]
  · show aUp (aUp (aUp (aUp (aUp D 98 W now) 99 W am) 100 W (D 97 q)) 97 q W) 89 1 (W + 1) 100 = _
    rw [aUp_row (by decide), aUp_row (by decide), aUp_same, aUp_row (by decide), aUp_row (by decide)]
theorem pvF_none {wo : Int → Int} {l : Int} : ∀ n : Nat, (∀ k : Nat, k < n → wo k ≠ l) → pvF wo l n = -1 := by
  intro n
  induction n with
  | zero => intro _; rfl
  | succ n ih => intro h; rw [pvF, if_neg (h n (by omega))]; exact ih (fun k hk => h k (by omega))
/-- the book behind a word -/
theorem bk_word {D E : Nat → Int → Int} {wo : Int → Int} {q W am : Int} (h1 : ChR D wo) (h2 : BkB D) (h3 : OrdC D) (hW : D 89 1 = W) (hW3 : W < 300) (hq : 0 ≤ q ∧ q < D 89 0) (ham : 0 ≤ am ∧ am ≤ 100000) (e89 : E 89 = uF (D 89) 1 (W + 1)) (e97 : E 97 = uF (D 97) q W) (e99 : E 99 = uF (D 99) W am) (e100 : E 100 = uF (D 100) W (D 97 q)) (r : ∀ r, 90 ≤ r → r ≤ 96 → E r = D r) : ChR E (uF wo W q) ∧ BkB E ∧ OrdC E := by
  obtain ⟨a1, a2, a3, a4, a5, a6⟩ := h1
  rw [hW] at a3 a4
  have x0 : E 89 0 = D 89 0 := by rw [e89]; exact uF_ne (by decide)
  have x1 : E 89 1 = W + 1 := by rw [e89]; exact uF_at
  obtain ⟨w, hw⟩ : ∃ w : Nat, W = (w : Int) := ⟨W.toNat, by omega⟩
  have tw : (W + 1).toNat = w + 1 := by omega
  have tw' : (D 89 1).toNat = w := by omega
  have cong : ∀ (lo : Int) (k : Nat), k ≤ w → pvF (uF wo W q) lo k = pvF wo lo k := fun lo k hk => pvF_congr (fun j hj => uF_ne (by omega))
  refine ⟨⟨fun k hk => ?_, fun lo l1 l2 => ?_, by omega, by omega, by omega, by omega⟩, ?_, ?_⟩
  · rw [x1] at hk
    rw [e100, cong _ k (by omega)]
    by_cases e : (k : Int) = W
    · rw [e, uF_at, uF_at, a2 q hq.1 hq.2, tw', show k = w by omega]
    · rw [uF_ne e, uF_ne e]; exact a1 k (by omega)
  · rw [x0] at l2
    rw [e97, x1, tw, pvF, cong lo w (by omega)]
    rw [← hw, uF_at]
    by_cases e : lo = q
    · rw [e, uF_at, if_pos rfl]
    · rw [uF_ne e, if_neg (fun y => e y.symm), a2 lo l1 l2, tw']
  · unfold BkB at h2 ⊢
    rw [x0, x1, r 90 (by omega) (by omega), r 91 (by omega) (by omega), r 92 (by omega) (by omega), r 93 (by omega) (by omega), r 94 (by omega) (by omega), r 95 (by omega) (by omega), e99]
    refine ⟨h2.1, fun k hk => ?_⟩
    by_cases e : (k : Int) = W
    · rw [e, uF_at]; exact ham
    · rw [uF_ne e]; exact h2.2 k (by omega)
  · unfold OrdC at h3 ⊢
    rw [x0, r 91 (by omega) (by omega), r 96 (by omega) (by omega)]; exact h3
section
variable {G : aCX} {l : Launch} {s0 : Nat} {st : aSt}
theorem g_word {q am : Int} (hG : GIv s0 st) : VM G l 31 iX11_word [rf 1, (0, q), (0, am)] st (fun w st1 => Kn st1.1 ∧ VM G l 31 iX12_word [rf 210, (0, q), (0, am)] st1 (fun w' st2 => w' = w ∧ GIv s0 st2)) := by
  obtain ⟨K, D, z⟩ := st
  obtain ⟨m, T, T2, nt, n, wo, cn, cc, hX⟩ := hG
  have hX : giX s0 m T T2 nt n wo cn cc K D z := hX
  have hT := hX.1.2.2.2.1
  have hT2 : T = 8 ∨ T = 129 := hT
  have hV := hX.2.1.2.1
  have hB := hX.2.1.1
  have nl := giX_nl hX
  refine v_word hX.1.1 nl.1.2 nl.2 (fun hq => ?_) (fun hn => ?_)
  · refine ⟨hX.1.1, ?_⟩
    show VM G l 31 iX12_word [rf 210, (0, q), (0, am)] (K, FgA (WdA D q (D 89 1) (D 1 7) am), z) _
    have e210 : FgA (WdA D q (D 89 1) (D 1 7) am) 210 = D 210 := by rw [FgA_row (by decide) (by decide), WdA_row (by decide) (by decide)]
    have e37 : FgA (WdA D q (D 89 1) (D 1 7) am) 210 37 = D 89 0 := by rw [e210]; exact hB.1.1
    have e45 : FgA (WdA D q (D 89 1) (D 1 7) am) 210 45 = D 89 1 := by rw [e210]; exact hB.1.2
    have e35 : FgA (WdA D q (D 89 1) (D 1 7) am) 210 35 = D 1 7 := by rw [e210]; exact hV.1.1
    refine u_word hX.1.1 (by rw [e45]; exact nl.2) (fun _ => ⟨rfl, ?_⟩) (fun hn => absurd (by rw [e37, e45]; exact hq) hn)
    rw [e45, e35]
    obtain ⟨W, hW⟩ : ∃ W, D 89 1 = W := ⟨_, rfl⟩
    obtain ⟨nw, hnw⟩ : ∃ nw, D 1 7 = nw := ⟨_, rfl⟩
    rw [hW, hnw]
    have c1 : ∀ j : Int, j ≠ 10 → j ≠ 11 → FgA (WdA D q W nw am) 1 j = D 1 j := fun j q1 q2 => by rw [FgA_1 q1 q2, WdA_row (by decide) (by decide)]
    have cr : ∀ r, r ≠ 1 → r ≠ 116 → r ≠ 89 → (r < 97 ∨ 100 < r) → FgA (WdA D q W nw am) r = D r := fun r q1 q2 q3 q4 => by rw [FgA_row q1 q2, WdA_row q3 q4]
    have ca : ∀ r, r ≠ 1 → r ≠ 116 → FgA (WdA D q W nw am) r = WdA D q W nw am r := fun r q1 q2 => FgA_row q1 q2
    obtain ⟨w1, w2, w3, w4, w5⟩ := WdA_at (D := D) (q := q) (W := W) (now := nw) (am := am)
    rw [← ca 89 (by decide) (by decide)] at w1
    rw [← ca 97 (by decide) (by decide)] at w2
    rw [← ca 98 (by decide) (by decide)] at w3
    rw [← ca 99 (by decide) (by decide)] at w4
    rw [← ca 100 (by decide) (by decide)] at w5
    obtain ⟨f1, f2, f3, f4⟩ := FgA_z (D := WdA D q W nw am)
    generalize FgA (WdA D q W nw am) = C at c1 cr w1 w2 w3 w4 w5 f1 f2 f3 f4 ⊢
    have row : ∀ r, r ≠ 210 → (r < 245 ∨ 247 < r) → aUp (aUp (aUp (aUp (aUp C 210 0 0) 245 W q) 246 W nw) 247 W am) 210 45 (W + 1) r = C r := fun r q1 q2 => by rw [aUp_row q1, aUp_row (by omega), aUp_row (by omega), aUp_row (by omega), aUp_row q1]
    have k245 : aUp (aUp (aUp (aUp (aUp C 210 0 0) 245 W q) 246 W nw) 247 W am) 210 45 (W + 1) 245 = uF (D 245) W q := by rw [aUp_row (by decide), aUp_row (by decide), aUp_row (by decide), aUp_same, aUp_row (by decide), cr 245 (by decide) (by decide) (by decide) (by decide)]
    have k246 : aUp (aUp (aUp (aUp (aUp C 210 0 0) 245 W q) 246 W nw) 247 W am) 210 45 (W + 1) 246 = uF (D 246) W nw := by rw [aUp_row (by decide), aUp_row (by decide), aUp_same, aUp_row (by decide), aUp_row (by decide), cr 246 (by decide) (by decide) (by decide) (by decide)]
    have k247 : aUp (aUp (aUp (aUp (aUp C 210 0 0) 245 W q) 246 W nw) 247 W am) 210 45 (W + 1) 247 = uF (D 247) W am := by rw [aUp_row (by decide), aUp_same, aUp_row (by decide), aUp_row (by decide), aUp_row (by decide), cr 247 (by decide) (by decide) (by decide) (by decide)]
    have c210 : ∀ j : Int, j ≠ 0 → j ≠ 45 → aUp (aUp (aUp (aUp (aUp C 210 0 0) 245 W q) 246 W nw) 247 W am) 210 45 (W + 1) 210 j = D 210 j := fun j q1 q2 => by rw [aUp_ne q2, aUp_row (by decide), aUp_row (by decide), aUp_row (by decide), aUp_ne q1, cr 210 (by decide) (by decide) (by decide) (by decide)]
    have c45 : aUp (aUp (aUp (aUp (aUp C 210 0 0) 245 W q) 246 W nw) 247 W am) 210 45 (W + 1) 210 45 = W + 1 := aUp_at
    generalize aUp (aUp (aUp (aUp (aUp C 210 0 0) 245 W q) 246 W nw) 247 W am) 210 45 (W + 1) = E at row k245 k246 k247 c210 c45 ⊢
    have rE : ∀ r, r ≠ 1 → r ≠ 116 → r ≠ 89 → (r < 97 ∨ (100 < r ∧ r < 245) ∨ 247 < r) → r ≠ 210 → E r = D r := fun r q1 q2 q3 q4 q5 => by rw [row r q5 (by omega), cr r q1 q2 q3 (by omega)]
    have cE : ∀ j : Int, j ≠ 10 → j ≠ 11 → E 1 j = D 1 j := fun j q1 q2 => by rw [row 1 (by decide) (by decide), c1 j q1 q2]
    rw [← row 89 (by decide) (by decide)] at w1
    rw [← row 97 (by decide) (by decide)] at w2
    rw [← row 98 (by decide) (by decide)] at w3
    rw [← row 99 (by decide) (by decide)] at w4
    rw [← row 100 (by decide) (by decide)] at w5
    rw [← row 1 (by decide) (by decide)] at f1 f2
    rw [← row 116 (by decide) (by decide)] at f3 f4
    have x0 : E 89 0 = D 89 0 := by rw [w1]; exact uF_ne (by decide)
    have x1 : E 89 1 = W + 1 := by rw [w1]; exact uF_at
    have W0 : 0 ≤ W := by omega
    refine GIv_mk (giX_mk2 (wo' := uF wo W q) hX (fun r y => rE r (by omega) (by omega) (by omega) (by omega) (by omega)) (c210 10 (by decide) (by decide)) (cE 6 (by decide) (by decide)) (by rw [rE 5 (by decide) (by decide) (by decide) (by decide) (by decide)]) (by rw [cE 7 (by decide) (by decide)]; exact Int.le_refl _) (bk_word hX.1.2.2.2.2.1 hX.1.2.2.2.2.2.1 hX.1.2.2.2.2.2.2.1 hW (by omega) hq.1 hq.2.1 w1 w2 w4 w5 (fun r q1 q2 => rE r (by omega) (by omega) (by omega) (by omega) (by omega))) ⟨⟨?_, ?_⟩, ?_, fun k hk => ?_⟩ (CpV_keep (cE 7 (by decide) (by decide)) (cE 8 (by decide) (by decide)) (cE 9 (by decide) (by decide)) (c210 35 (by decide) (by decide)) (c210 36 (by decide) (by decide)) (rE 244 (by decide) (by decide) (by decide) (by decide) (by decide)) hV) (giT_keep (rE 3 (by decide) (by decide) (by decide) (by decide) (by decide)) (rE 4 (by decide) (by decide) (by decide) (by decide) (by decide)) (rE 211 (by decide) (by decide) (by decide) (by decide) (by decide)) (rE 215 (by decide) (by decide) (by decide) (by decide) (by decide)) (by rw [rE 2 (by decide) (by decide) (by decide) (by decide) (by decide)]) (c210 2 (by decide) (by decide)) hX.2.2.1) ?_ (giC_zero f1 f2 f3 f4))
    · rw [c210 37 (by decide) (by decide), x0]; exact hB.1.1
    · rw [c45, x1]
    · rw [x0, rE 238 (by decide) (by decide) (by decide) (by decide) (by decide), rE 239 (by decide) (by decide) (by decide) (by decide) (by decide), rE 240 (by decide) (by decide) (by decide) (by decide) (by decide), rE 241 (by decide) (by decide) (by decide) (by decide) (by decide), rE 242 (by decide) (by decide) (by decide) (by decide) (by decide), rE 243 (by decide) (by decide) (by decide) (by decide) (by decide), rE 90 (by decide) (by decide) (by decide) (by decide) (by decide), rE 91 (by decide) (by decide) (by decide) (by decide) (by decide), rE 92 (by decide) (by decide) (by decide) (by decide) (by decide), rE 93 (by decide) (by decide) (by decide) (by decide) (by decide), rE 94 (by decide) (by decide) (by decide) (by decide) (by decide), rE 95 (by decide) (by decide) (by decide) (by decide) (by decide)]
      exact hB.2.1
    · rw [x1] at hk
      rw [k245, k246, k247, w3, w4]
      by_cases e : (k : Int) = W
      · rw [e, uF_at, uF_at, uF_at, uF_at, uF_at, uF_at]; exact ⟨rfl, rfl, rfl⟩
      · rw [uF_ne e, uF_ne e, uF_ne e, uF_ne e, uF_ne e, uF_ne e]; exact hB.2.2 k (by omega)
    · obtain ⟨u1, u2, u3, u4⟩ := hX.2.2.2.2.1
      unfold giP
      rw [rE 122 (by decide) (by decide) (by decide) (by decide) (by decide), rE 272 (by decide) (by decide) (by decide) (by decide) (by decide), x0, x1, w3, cE 7 (by decide) (by decide), rE 243 (by decide) (by decide) (by decide) (by decide) (by decide)]
      refine ⟨u1, u2, fun k hk => ?_, u4⟩
      by_cases e : (k : Int) = W
      · rw [e, uF_at, uF_at]; exact ⟨by omega, hq.1⟩
      · rw [uF_ne e, uF_ne e]; exact u3 k (by omega)
  · exact ⟨hX.1.1, u_word hX.1.1 (by rw [hB.1.2]; exact nl.2) (fun hq => absurd (by rw [hB.1.1, hB.1.2] at hq; exact hq) hn) (fun _ => ⟨rfl, GIv_mk (giX_thr hX)⟩)⟩
end
