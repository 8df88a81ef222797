/-! ===== loss, commute ===== -/
/-- the book behind a new loss -/
theorem bk_loss {D D1 : Nat → Int → Int} {wo : Int → Int} {h hr pl ca st : Int} (h1 : ChR D wo) (h2 : BkB D) (hO : OrdC D1) (hA : AlD D h hr pl ca st D1) (hL : D 89 0 < 60) (hw : ∀ k : Nat, k < (D 89 1).toNat → wo k < D 89 0) (r1 : 0 ≤ h ∧ h ≤ 11) (r2 : 0 ≤ hr ∧ hr ≤ 239999) (r3 : 0 ≤ pl ∧ pl ≤ 999) (r4 : 0 ≤ ca ∧ ca ≤ 7) (r5 : 0 ≤ st ∧ st ≤ 5) : ChR D1 wo ∧ BkB D1 ∧ OrdC D1 := by
  obtain ⟨a1, a2, a3, a4, a5, a6⟩ := h1
  obtain ⟨g1, g89, g90, g91, g92, g93, g94, g95, g97⟩ := hA
  have x0 : D1 89 0 = D 89 0 + 1 := by rw [g89]; exact uF_at
  have x1 : D1 89 1 = D 89 1 := by rw [g89]; exact uF_ne (by decide)
  refine ⟨⟨fun k hk => ?_, fun lo l1 l2 => ?_, by omega, by omega, by omega, by omega⟩, ⟨fun lo l1 l2 => ?_, fun k hk => ?_⟩, hO⟩
  · rw [g1 100 (by decide)]; exact a1 k (by omega)
  · rw [x0] at l2
    rw [g97, x1]
    by_cases e : lo = D 89 0
    · rw [e, uF_at, pvF_none _ (fun k hk => by have := hw k hk; omega)]
    · rw [uF_ne e]; exact a2 lo l1 (by omega)
  · rw [x0] at l2
    rw [g90, g91, g92, g93, g94, g95]
    by_cases e : lo = D 89 0
    · rw [e, uF_at, uF_at, uF_at, uF_at, uF_at, uF_at]
      exact ⟨by omega, by omega, by omega, by omega, by omega, Or.inl rfl⟩
    · rw [uF_ne e, uF_ne e, uF_ne e, uF_ne e, uF_ne e, uF_ne e]
      exact h2.1 lo l1 (by omega)
  · rw [x1] at hk
    rw [g1 99 (by decide)]; exact h2.2 k hk
section
variable {G : aCX} {l : Launch} {s0 : Nat} {st : aSt}
theorem g_loss {h hr pl ca sm am : Int} (hG : GIv s0 st) : VM G l 31 iX11_loss [rf 1, (0, h), (0, hr), (0, pl), (0, ca), (0, sm), (0, am)] st (fun w st1 => Kn st1.1 ∧ VM G l 31 iX12_loss [rf 210, (0, h), (0, hr), (0, pl), (0, ca), (0, sm), (0, am)] st1 (fun w' st2 => w' = w ∧ GIv s0 st2)) := by
  obtain ⟨K, D, z⟩ := st
  obtain ⟨m, T, T2, nt, n, wo, cn, cc, hX⟩ := hG
  have hX : giX s0 m T T2 nt n wo cn cc K D z := hX
  have hT := hX.1.2.2.2.1
  have hT2 : T = 8 ∨ T = 129 := hT
  have hV := hX.2.1.2.1
  have hB := hX.2.1.1
  have nl := giX_nl hX
  have v35 := hV.1.1
  refine v_loss hX.1.1 hX.1.2.2.2.2.2.2.1 nl.1 nl.2 (fun hf hL hW3 D1 hA hO => ?_) (fun hn => ?_)
  · refine ⟨hX.1.1, ?_⟩
    show VM G l 31 iX12_loss [rf 210, (0, h), (0, hr), (0, pl), (0, ca), (0, sm), (0, am)] (K, FgA (WdA D1 (D 89 0) (D 89 1) (D 1 7) am), z) _
    have bk := bk_loss hX.1.2.2.2.2.1 hX.1.2.2.2.2.2.1 hO hA hL (fun k hk => (hX.2.2.2.2.1.2.2.1 k hk).2.2) hf.1 hf.2.1 hf.2.2.2.1 hf.2.2.2.2.1 hf.2.2.2.2.2.1
    obtain ⟨g1, g89, g90, g91, g92, g93, g94, g95, g97⟩ := id hA
    have e210 : FgA (WdA D1 (D 89 0) (D 89 1) (D 1 7) am) 210 = D 210 := by rw [FgA_row (by decide) (by decide), WdA_row (by decide) (by decide), g1 210 (by decide)]
    have e37 : FgA (WdA D1 (D 89 0) (D 89 1) (D 1 7) am) 210 37 = D 89 0 := by rw [e210]; exact hB.1.1
    have e45 : FgA (WdA D1 (D 89 0) (D 89 1) (D 1 7) am) 210 45 = D 89 1 := by rw [e210]; exact hB.1.2
    have e35 : FgA (WdA D1 (D 89 0) (D 89 1) (D 1 7) am) 210 35 = D 1 7 := by rw [e210]; exact v35
    refine u_loss hX.1.1 (by rw [e37]; exact nl.1) (by rw [e45]; exact nl.2) (fun _ _ _ => ⟨by rw [e37], ?_⟩) (fun hn => absurd (by rw [e37, e45, e35]; exact ⟨hf, hL, hW3⟩) hn)
    rw [e37, e45, e35]
    obtain ⟨W, hW⟩ : ∃ W, D 89 1 = W := ⟨_, rfl⟩
    obtain ⟨L, hLL⟩ : ∃ L, D 89 0 = L := ⟨_, rfl⟩
    obtain ⟨nw, hnw⟩ : ∃ nw, D 1 7 = nw := ⟨_, rfl⟩
    rw [hLL] at g89 g90 g91 g92 g93 g94 g95 g97
    rw [hW, hnw, hLL]
    have y0 : D1 89 0 = L + 1 := by rw [g89]; exact uF_at
    have y1 : D1 89 1 = W := by rw [g89, uF_ne (by decide)]; exact hW
    have c1 : ∀ j : Int, j ≠ 10 → j ≠ 11 → FgA (WdA D1 L W nw am) 1 j = D 1 j := fun j q1 q2 => by rw [FgA_1 q1 q2, WdA_row (by decide) (by decide), g1 1 (by decide)]
    have cr : ∀ r, r ≠ 1 → r ≠ 116 → r ≠ 89 → (r < 97 ∨ 100 < r) → FgA (WdA D1 L W nw am) r = D1 r := fun r q1 q2 q3 q4 => by rw [FgA_row q1 q2, WdA_row q3 q4]
    have cg : ∀ r, r ≠ 1 → r ≠ 116 → FgA (WdA D1 L W nw am) r = WdA D1 L W nw am r := fun r q1 q2 => FgA_row q1 q2
    obtain ⟨w1, w2, w3, w4, w5⟩ := WdA_at (D := D1) (q := L) (W := W) (now := nw) (am := am)
    rw [← cg 89 (by decide) (by decide)] at w1
    rw [← cg 97 (by decide) (by decide)] at w2
    rw [← cg 98 (by decide) (by decide)] at w3
    rw [← cg 99 (by decide) (by decide)] at w4
    rw [← cg 100 (by decide) (by decide)] at w5
    obtain ⟨f1, f2, f3, f4⟩ := FgA_z (D := WdA D1 L W nw am)
    generalize FgA (WdA D1 L W nw am) = C at c1 cr w1 w2 w3 w4 w5 f1 f2 f3 f4 ⊢
    have cD : ∀ r, r ≠ 1 → r ≠ 116 → (r < 89 ∨ 100 < r) → C r = D r := fun r q1 q2 q3 => by rw [cr r q1 q2 (by omega) (by omega), g1 r (by omega)]
    have row : ∀ r, r ≠ 210 → (r < 238 ∨ (242 < r ∧ r < 245) ∨ 247 < r) → aUp (aUp (aUp (aUp (aUp (aUp (aUp (aUp (aUp (aUp (aUp C 210 0 0) 238 L h) 239 L hr) 240 L pl) 241 L ca) 242 L sm) 210 37 (L + 1)) 245 W L) 246 W nw) 247 W am) 210 45 (W + 1) r = C r := fun r q1 q2 => by rw [aUp_row q1, aUp_row (by omega), aUp_row (by omega), aUp_row (by omega), aUp_row q1, aUp_row (by omega), aUp_row (by omega), aUp_row (by omega), aUp_row (by omega), aUp_row (by omega), aUp_row q1]
    have k238 : aUp (aUp (aUp (aUp (aUp (aUp (aUp (aUp (aUp (aUp (aUp C 210 0 0) 238 L h) 239 L hr) 240 L pl) 241 L ca) 242 L sm) 210 37 (L + 1)) 245 W L) 246 W nw) 247 W am) 210 45 (W + 1) 238 = uF (D 238) L h := by rw [aUp_row (by decide), aUp_row (by decide), aUp_row (by decide), aUp_row (by decide), aUp_row (by decide), aUp_row (by decide), aUp_row (by decide), aUp_row (by decide), aUp_row (by decide), aUp_same, aUp_row (by decide), cD 238 (by decide) (by decide) (by decide)]
    have k239 : aUp (aUp (aUp (aUp (aUp (aUp (aUp (aUp (aUp (aUp (aUp C 210 0 0) 238 L h) 239 L hr) 240 L pl) 241 L ca) 242 L sm) 210 37 (L + 1)) 245 W L) 246 W nw) 247 W am) 210 45 (W + 1) 239 = uF (D 239) L hr := by rw [aUp_row (by decide), aUp_row (by decide), aUp_row (by decide), aUp_row (by decide), aUp_row (by decide), aUp_row (by decide), aUp_row (by decide), aUp_row (by decide), aUp_same, aUp_row (by decide), aUp_row (by decide), cD 239 (by decide) (by decide) (by decide)]
    have k240 : aUp (aUp (aUp (aUp (aUp (aUp (aUp (aUp (aUp (aUp (aUp C 210 0 0) 238 L h) 239 L hr) 240 L pl) 241 L ca) 242 L sm) 210 37 (L + 1)) 245 W L) 246 W nw) 247 W am) 210 45 (W + 1) 240 = uF (D 240) L pl := by rw [aUp_row (by decide), aUp_row (by decide), aUp_row (by decide), aUp_row (by decide), aUp_row (by decide), aUp_row (by decide), aUp_row (by decide), aUp_same, aUp_row (by decide), aUp_row (by decide), aUp_row (by decide), cD 240 (by decide) (by decide) (by decide)]
    have k241 : aUp (aUp (aUp (aUp (aUp (aUp (aUp (aUp (aUp (aUp (aUp C 210 0 0) 238 L h) 239 L hr) 240 L pl) 241 L ca) 242 L sm) 210 37 (L + 1)) 245 W L) 246 W nw) 247 W am) 210 45 (W + 1) 241 = uF (D 241) L ca := by rw [aUp_row (by decide), aUp_row (by decide), aUp_row (by decide), aUp_row (by decide), aUp_row (by decide), aUp_row (by decide), aUp_same, aUp_row (by decide), aUp_row (by decide), aUp_row (by decide), aUp_row (by decide), cD 241 (by decide) (by decide) (by decide)]
    have k242 : aUp (aUp (aUp (aUp (aUp (aUp (aUp (aUp (aUp (aUp (aUp C 210 0 0) 238 L h) 239 L hr) 240 L pl) 241 L ca) 242 L sm) 210 37 (L + 1)) 245 W L) 246 W nw) 247 W am) 210 45 (W + 1) 242 = uF (D 242) L sm := by rw [aUp_row (by decide), aUp_row (by decide), aUp_row (by decide), aUp_row (by decide), aUp_row (by decide), aUp_same, aUp_row (by decide), aUp_row (by decide), aUp_row (by decide), aUp_row (by decide), aUp_row (by decide), cD 242 (by decide) (by decide) (by decide)]
    have k245 : aUp (aUp (aUp (aUp (aUp (aUp (aUp (aUp (aUp (aUp (aUp C 210 0 0) 238 L h) 239 L hr) 240 L pl) 241 L ca) 242 L sm) 210 37 (L + 1)) 245 W L) 246 W nw) 247 W am) 210 45 (W + 1) 245 = uF (D 245) W L := by rw [aUp_row (by decide), aUp_row (by decide), aUp_row (by decide), aUp_same, aUp_row (by decide), aUp_row (by decide), aUp_row (by decide), aUp_row (by decide), aUp_row (by decide), aUp_row (by decide), aUp_row (by decide), cD 245 (by decide) (by decide) (by decide)]
    have k246 : aUp (aUp (aUp (aUp (aUp (aUp (aUp (aUp (aUp (aUp (aUp C 210 0 0) 238 L h) 239 L hr) 240 L pl) 241 L ca) 242 L sm) 210 37 (L + 1)) 245 W L) 246 W nw) 247 W am) 210 45 (W + 1) 246 = uF (D 246) W nw := by rw [aUp_row (by decide), aUp_row (by decide), aUp_same, aUp_row (by decide), aUp_row (by decide), aUp_row (by decide), aUp_row (by decide), aUp_row (by decide), aUp_row (by decide), aUp_row (by decide), aUp_row (by decide), cD 246 (by decide) (by decide) (by decide)]
    have k247 : aUp (aUp (aUp (aUp (aUp (aUp (aUp (aUp (aUp (aUp (aUp C 210 0 0) 238 L h) 239 L hr) 240 L pl) 241 L ca) 242 L sm) 210 37 (L + 1)) 245 W L) 246 W nw) 247 W am) 210 45 (W + 1) 247 = uF (D 247) W am := by rw [aUp_row (by decide), aUp_same, aUp_row (by decide), aUp_row (by decide), aUp_row (by decide), aUp_row (by decide), aUp_row (by decide), aUp_row (by decide), aUp_row (by decide), aUp_row (by decide), aUp_row (by decide), cD 247 (by decide) (by decide) (by decide)]
    have c210 : ∀ j : Int, j ≠ 0 → j ≠ 37 → j ≠ 45 → aUp (aUp (aUp (aUp (aUp (aUp (aUp (aUp (aUp (aUp (aUp C 210 0 0) 238 L h) 239 L hr) 240 L pl) 241 L ca) 242 L sm) 210 37 (L + 1)) 245 W L) 246 W nw) 247 W am) 210 45 (W + 1) 210 j = D 210 j := fun j q1 q2 q3 => by rw [aUp_ne q3, aUp_row (by decide), aUp_row (by decide), aUp_row (by decide), aUp_ne q2, aUp_row (by decide), aUp_row (by decide), aUp_row (by decide), aUp_row (by decide), aUp_row (by decide), aUp_ne q1, cD 210 (by decide) (by decide) (by decide)]
    have c37 : aUp (aUp (aUp (aUp (aUp (aUp (aUp (aUp (aUp (aUp (aUp C 210 0 0) 238 L h) 239 L hr) 240 L pl) 241 L ca) 242 L sm) 210 37 (L + 1)) 245 W L) 246 W nw) 247 W am) 210 45 (W + 1) 210 37 = L + 1 := by rw [aUp_ne (by decide), aUp_row (by decide), aUp_row (by decide), aUp_row (by decide), aUp_at]
    have c45 : aUp (aUp (aUp (aUp (aUp (aUp (aUp (aUp (aUp (aUp (aUp C 210 0 0) 238 L h) 239 L hr) 240 L pl) 241 L ca) 242 L sm) 210 37 (L + 1)) 245 W L) 246 W nw) 247 W am) 210 45 (W + 1) 210 45 = W + 1 := aUp_at
    generalize aUp (aUp (aUp (aUp (aUp (aUp (aUp (aUp (aUp (aUp (aUp C 210 0 0) 238 L h) 239 L hr) 240 L pl) 241 L ca) 242 L sm) 210 37 (L + 1)) 245 W L) 246 W nw) 247 W am) 210 45 (W + 1) = E at row k238 k239 k240 k241 k242 k245 k246 k247 c210 c37 c45 ⊢
    have rE : ∀ r, r ≠ 1 → r ≠ 116 → (r < 89 ∨ (100 < r ∧ r < 238) ∨ (242 < r ∧ r < 245) ∨ 247 < r) → r ≠ 210 → E r = D r := fun r q1 q2 q3 q4 => by rw [row r q4 (by omega), cD r q1 q2 (by omega)]
    have r1 : ∀ r, 90 ≤ r → r ≤ 96 → E r = D1 r := fun r q1 q2 => by rw [row r (by omega) (by omega), cr r (by omega) (by omega) (by omega) (by omega)]
    have cE : ∀ j : Int, j ≠ 10 → j ≠ 11 → E 1 j = D 1 j := fun j q1 q2 => by rw [row 1 (by decide) (by decide), c1 j q1 q2]
    rw [← row 89 (by decide) (by decide)] at w1
    rw [← row 97 (by decide) (by decide)] at w2
    rw [← row 98 (by decide) (by decide)] at w3
    rw [← row 99 (by decide) (by decide)] at w4
    rw [← row 100 (by decide) (by decide)] at w5
    rw [← row 1 (by decide) (by decide)] at f1 f2
    rw [← row 116 (by decide) (by decide)] at f3 f4
    have x0 : E 89 0 = L + 1 := by rw [w1, uF_ne (by decide), y0]
    have x1 : E 89 1 = W + 1 := by rw [w1]; exact uF_at
    have W0 : 0 ≤ W := by omega
    have bw := bk_word (E := E) (q := L) bk.1 bk.2.1 bk.2.2 y1 (by omega) ⟨by omega, by omega⟩ hf.2.2.2.2.2.2 w1 w2 w4 w5 r1
    refine GIv_mk (giX_mk2 (wo' := uF wo W L) hX (fun r y => rE r (by omega) (by omega) (by omega) (by omega)) (c210 10 (by decide) (by decide) (by decide)) (cE 6 (by decide) (by decide)) (by rw [rE 5 (by decide) (by decide) (by decide) (by decide)]) (by rw [cE 7 (by decide) (by decide)]; exact Int.le_refl _) bw ⟨⟨?_, ?_⟩, fun x q1 q2 => ?_, fun k hk => ?_⟩ (CpV_keep (cE 7 (by decide) (by decide)) (cE 8 (by decide) (by decide)) (cE 9 (by decide) (by decide)) (c210 35 (by decide) (by decide) (by decide)) (c210 36 (by decide) (by decide) (by decide)) (rE 244 (by decide) (by decide) (by decide) (by decide)) hV) (giT_keep (rE 3 (by decide) (by decide) (by decide) (by decide)) (rE 4 (by decide) (by decide) (by decide) (by decide)) (rE 211 (by decide) (by decide) (by decide) (by decide)) (rE 215 (by decide) (by decide) (by decide) (by decide)) (by rw [rE 2 (by decide) (by decide) (by decide) (by decide)]) (c210 2 (by decide) (by decide) (by decide)) hX.2.2.1) ?_ (giC_zero f1 f2 f3 f4))
    · rw [c37, x0]
    · rw [c45, x1]
    · rw [x0] at q2
      rw [k238, k239, k240, k241, k242, rE 243 (by decide) (by decide) (by decide) (by decide), r1 90 (by decide) (by decide), r1 91 (by decide) (by decide), r1 92 (by decide) (by decide), r1 93 (by decide) (by decide), r1 94 (by decide) (by decide), r1 95 (by decide) (by decide), g90, g91, g92, g93, g94, g95]
      by_cases e : x = L
      · rw [e, uF_at, uF_at, uF_at, uF_at, uF_at, uF_at, uF_at, uF_at, uF_at, uF_at, uF_at]
        exact ⟨rfl, rfl, rfl, rfl, rfl, hX.2.2.2.2.1.2.2.2 L (by omega)⟩
      · rw [uF_ne e, uF_ne e, uF_ne e, uF_ne e, uF_ne e, uF_ne e, uF_ne e, uF_ne e, uF_ne e, uF_ne e, uF_ne e]
        exact hB.2.1 x q1 (by omega)
    · rw [x1] at hk
      rw [k245, k246, k247, w3, w4, g1 98 (by decide), g1 99 (by decide)]
      by_cases e : (k : Int) = W
      · rw [e, uF_at, uF_at, uF_at, uF_at, uF_at, uF_at]; exact ⟨rfl, rfl, rfl⟩
      · rw [uF_ne e, uF_ne e, uF_ne e, uF_ne e, uF_ne e, uF_ne e]; exact hB.2.2 k (by omega)
    · obtain ⟨u1, u2, u3, u4⟩ := hX.2.2.2.2.1
      unfold giP
      rw [rE 122 (by decide) (by decide) (by decide) (by decide), rE 272 (by decide) (by decide) (by decide) (by decide), x0, x1, w3, g1 98 (by decide), cE 7 (by decide) (by decide), rE 243 (by decide) (by decide) (by decide) (by decide)]
      refine ⟨u1, u2, fun k hk => ?_, fun x hx => u4 x (by omega)⟩
      by_cases e : (k : Int) = W
      · rw [e, uF_at, uF_at]; exact ⟨by omega, by omega, by omega⟩
      · rw [uF_ne e, uF_ne e]
        have := u3 k (by omega)
        omega
  · exact ⟨hX.1.1, u_loss hX.1.1 (by rw [hB.1.1]; exact nl.1) (by rw [hB.1.2]; exact nl.2) (fun a1 a2 a3 => absurd (by rw [hB.1.1] at a2; rw [hB.1.2] at a3; rw [v35] at a1; exact ⟨a1, a2, a3⟩) hn) (fun _ => ⟨rfl, GIv_mk (giX_thr hX)⟩)⟩
end
