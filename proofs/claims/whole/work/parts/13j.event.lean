/-! ===== an event in reckon: the class ===== -/
def Ans (W : WdQ) (us : Nat → Int) (Q : EvQ) (a nt : Nat) (D : Nat → Int → Int) : Prop := D a 6 = (slP W us Q).1 ∧ D a 7 = (if (slP W us Q).2.1 = true then 1 else 0) ∧ (∀ h : Int, 0 ≤ h → h < 12 → D (a + 2) h = grP W us Q h ∧ D (a + 3) h = rtP W us Q h) ∧ ∀ t : Nat, t < nt → D (a + 5) t = baP W us Q t ∧ D (a + 6) t = usP W us Q t ∧ D (a + 7) t = paP W us Q t
theorem CtD_mk {D : Nat → Int → Int} {T a nt : Nat} {W : WdQ} {us : Nat → Int} {Q : EvQ} {nh : Int} (hC : Ans W us Q a nt D) (hnt : W.nt = nt) (hok : wOk W.w nt nh) (hw : ∀ t, t < nt → wC D T t = W.w t) (hr : ∀ t : Nat, t < nt → D (a + 4) t = rmP W.w us t) (hp : ∀ t, t < nt → payC D a t = pyP W Q t) (hd : ∀ h : Int, 0 ≤ h → h < 12 → D (a + 1) h = Q.d h) : CtD D T a nt := by
  obtain ⟨c1, c2, c3, c4⟩ := hC
  have we := wEq_of hw
  have h012 : ∀ t, t < nt → 0 ≤ W.w t 0 ∧ W.w t 0 < 12 := fun t ht => by
    have := (hok.2.2.2 t ht).1
    have := hok.2.2.1
    omega
  obtain ⟨x1, x2, x3⟩ := sl_eq (w' := wC D T) (w := W.w) (rm' := rmC D a) (rm := rmP W.w us) (pay' := payC D a) (pay := pyP W Q) (d' := D (a + 1)) (d := Q.d) (nt := nt) we (fun t ht _ => hr t ht) hp h012 hd 2000 0 (D (a + 1)) Q.d hd
  have hsl : slF W.w (rmP W.w us) (pyP W Q) Q.d nt 2000 0 Q.d = slP W us Q := by unfold slP; rw [hnt]
  rw [hsl] at x1 x2 x3
  unfold CtD
  rw [x1, x2]
  refine ⟨c1, c2, fun h q1 q2 => ?_, fun t ht => ?_⟩
  · obtain ⟨y1, y2⟩ := c3 h q1 q2
    rw [hd h q1 q2, x3 h q1 q2, hs_eq we (fun t ht _ => hr t ht) hp (hd h q1 q2) (x3 h q1 q2) nt (Nat.le_refl _)]
    unfold rtP at y2
    rw [hnt] at y2
    exact ⟨y1, y2⟩
  · have h0 := h012 t ht
    rw [bs_eq we (fun t ht _ => hr t ht) hp ht (hd _ h0.1 h0.2) (x3 _ h0.1 h0.2), au_eq we (fun t ht _ => hr t ht) hp ht (hd _ h0.1 h0.2) (x3 _ h0.1 h0.2), hp t ht, pd_eq we ht, (we t ht).2.1]
    exact c4 t ht
theorem nxT_congr {w w' : WT} {h : Int} : ∀ (n t : Nat), (∀ s, s < t + n → w' s = w s) → nxT w' h n t = nxT w h n t := by
  intro n
  induction n with
  | zero => intro t _; rfl
  | succ n ih => intro t hs; rw [nxT, nxT, hs t (by omega), ih (t + 1) (fun s h => hs s (by omega))]
theorem hitF_congr {f g : Int → Int} {n : Nat} (h : ∀ k : Nat, k < n → f k = g k) : hitF f n = hitF g n := by
  unfold hitF
  exact sumF_congr fun k hk => by rw [h k hk]
theorem ow_eq2 {w w' : WT} {ra ra' U U' B B' : Nat → Int} {a b : Int} {n : Nat} (h0 : ∀ t, t < n → w' t = w t) (h1 : ∀ t, t < n → ra' t = ra t) (h2 : ∀ t, t < n → U' t = U t) (h3 : ∀ t, t < n → B' t = B t) : owF w' ra' U' B' a b n = owF w ra U B a b n := by
  unfold owF
  refine sumF_congr fun t ht => ?_
  rw [(rs_congr2 (h0 t ht) (h1 t ht) (h2 t ht)).2, h2 t ht, h3 t ht]
  unfold owT
  rw [h0 t ht]
abbrev QC (D : Nat → Int → Int) (e : Nat) : EvQ := (fun h => D 115 (e * 12 + h), D 93 (D 113 e), D 91 (D 113 e) / 24, D 114 e)
def EvD (D : Nat → Int → Int) (T a e nt : Nat) (W : WdQ) (us ra : Nat → Int) (Q : EvQ) (D4 : Nat → Int → Int) : Prop := (∀ r, ¬ (a ≤ r ∧ r ≤ a + 9) → r ≠ 102 → r ≠ 103 → r ≠ 105 → r ≠ 106 → r ≠ 107 → r ≠ 109 → r ≠ 110 → r ≠ T + 8 → D4 r = D r) ∧ (D4 a 0 = 1 ∧ D4 a 1 = D 113 e ∧ D4 a 2 = D 114 e) ∧ (∀ h : Int, 0 ≤ h → h < 12 → D4 (a + 1) h = Q.d h) ∧ Ans W us Q a nt D4 ∧ CtD D4 T a nt ∧ (∀ t : Nat, t < nt → D4 109 t = us t + (if W.w t 1 = 0 then 0 else usP W us Q t) ∧ D4 110 t = ra t + rsF W.w ra (usP W us Q) t ∧ D4 (a + 8) t = rsF W.w ra (usP W us Q) t ∧ D4 (a + 9) t = pmF W.w ra (usP W us Q) t) ∧ (∀ h : Nat, h < 12 → D4 103 h = D 103 h + Q.d h) ∧ ∀ a' b : Int, 0 ≤ a' → a' < 12 → 0 ≤ b → b < 12 → D4 102 (a' * 12 + b) = D 102 (a' * 12 + b) + owF W.w ra (usP W us Q) (baP W us Q) a' b nt
section
variable {G : aCX} {l : Launch} {d : Nat} {K : Nat → aKd} {D : Nat → Int → Int} {z : Nat × Nat} {P : Int → aSt → Prop}
theorem v_event {T a e nt : Nat} {v stm ms : Int} {cn : Nat → Nat} {cc : Nat → Nat → Int × Int} {W : WdQ} {us ra : Nat → Int} {Q : EvQ} (eWw : ∀ t, t < nt → W.w t = wC D T t) (eWn : W.nt = nt) (eWc : ∀ t, t < nt → W.cm t = decide (D (T + 9 + 3 * t) 13 ≠ -1 ∧ D (T + 9 + 3 * t) 13 ≤ v)) (eWk : W.cn = cn ∧ W.cc = cc) (hus : ∀ t : Nat, t < nt → us t = D 109 t) (hra : ∀ t : Nat, t < nt → ra t = D 110 t) (qd : ∀ h : Int, 0 ≤ h → h < 12 → Q.d h = D 115 (e * 12 + h)) (hQ3 : Q.ca = D 93 (D 113 e) ∧ Q.da = D 91 (D 113 e) / 24 ∧ Q.lo = D 114 e) (hk : Kn K) (hT : isT T) (ha : Kh K a) (he : e < 60) (hn : D T 1 = nt) (hw : wOk (wC D T) nt (D T 0)) (hch : ChT D T nt (D T 0)) (hB : WcB D T nt) (hc : CoC D T nt cn cc) (hf : 0 ≤ D 113 e ∧ D 113 e < 60) (hh : 0 ≤ D 91 (D 113 e) ∧ D 91 (D 113 e) < 240000) (hb0 : D a 0 = 0 ∨ D a 0 = 1) (hv : D a 0 = 1 → CtD D T a nt) (hd : ∀ h : Nat, h < 12 → 0 ≤ D 115 (e * 12 + h) ∧ D 115 (e * 12 + h) ≤ 6000000) (hd0 : ∀ h : Nat, h < 12 → D T 0 ≤ h → D 115 (e * 12 + h) = 0) (h3 : ∀ h : Nat, h < 12 → 0 ≤ D 103 h ∧ D 103 h ≤ 400000000) (hu : ∀ t : Nat, t < nt → (0 ≤ D 109 t ∧ D 109 t ≤ wC D T t 3 * (1 + wC D T t 5)) ∧ (0 ≤ D 110 t ∧ D 110 t ≤ wC D T t 3 * wC D T t 5)) (hO : ∀ a' b : Int, 0 ≤ a' → a' < 12 → 0 ≤ b → b < 12 → 0 ≤ D 102 (a' * 12 + b) ∧ D 102 (a' * 12 + b) + owF W.w ra (usP W us Q) (baP W us Q) a' b nt ≤ 2000000000) (kk : ∀ D4, EvD D T a e nt W us ra Q D4 → V G l (d + 4) iX5_reckon 97 [rf 101, rf T, (0, v), (0, stm), (0, ms), (0, (e : Int)), rf a] [] (K, D4, z) P) : V G l (d + 4) iX5_reckon 67 [rf 101, rf T, (0, v), (0, stm), (0, ms), (0, (e : Int)), rf a] [] (K, D, z) P := by
  have hT2 : T = 8 ∨ T = 129 := hT
  have n24 := hw.1
  have ha279 := ha.1
  have l10 : ∀ t, t < nt → 0 ≤ wC D T t 3 * (1 + wC D T t 5) ∧ wC D T t 3 * (1 + wC D T t 5) ≤ 999999 * 10 := fun t ht => by
    obtain ⟨l3, l5, -, -⟩ := hB t ht
    exact ⟨Int.mul_nonneg l3.1 (by omega), Int.mul_le_mul l3.2 (by omega) (by omega) (by decide)⟩
  have hEq : EqB Q := fun h q1 q2 => by
    have := hd h.toNat (by omega)
    rw [show ((h.toNat : Nat) : Int) = h by omega] at this
    rw [qd h q1 q2]; exact this
  have hWq : WqB W (D T 0) := ⟨by rw [eWn]; exact wOk_congr hw eWw, fun t ht => by rw [eWw t (by rw [← eWn]; exact ht)]; exact hB t (by rw [← eWn]; exact ht)⟩
  have husb : ∀ t, t < W.nt → 0 ≤ us t ∧ us t ≤ W.w t 3 * (1 + W.w t 5) := fun t ht => by rw [eWw t (by rw [← eWn]; exact ht), hus t (by rw [← eWn]; exact ht)]; exact (hu t (by rw [← eWn]; exact ht)).1
  have hrm : ∀ t, t < nt → rmC2 D T t = rmP W.w us t := fun t ht => by
    unfold rmC2 rmP
    rw [eWw t ht, hus t ht, wC_f (by decide), wC_f (by decide)]
  refine s_al0 rfl ?_
  refine s_al6 rfl ?_
  refine s_al1 rfl ?_
  refine s_il2 rfl ?_
  refine s_il5 rfl ?_
  refine s_callO rfl rfl (Or.inl rfl) rfl rfl (hk.at rfl rfl) (v_asksAnew hk hT ha he hn n24 (fun t ht => by
    have h0 := (hw.2.2.2 t ht).1
    have h12 := hw.2.2.1
    rw [wC_f (by decide)] at h0
    exact ⟨h0.1, by omega⟩) (fun t ht => by
    obtain ⟨l3, l5, -, -⟩ := hB t ht
    have := hu t ht
    have := l10 t ht
    rw [wC_f (by decide)] at l3 l5
    exact ⟨l3, l5, by omega⟩) hc hf hh hb0 (fun A1 x p hA hbits hx hx0 => ?_))
  obtain ⟨f1, f2, f3, f4⟩ := hA
  have ewt : ∀ t, t < nt → wC A1 T t = wC D T t := wC_congr n24 (fun r q1 q2 => f1 r (by omega) (by omega) (by omega) (by omega))
  have aT : A1 T = D T := f1 _ (by omega) (by omega) (by omega) (by omega)
  have a1 : ∀ h : Int, 0 ≤ h → h < 12 → A1 (a + 1) h = Q.d h := fun h q1 q2 => by
    have := f3 h.toNat (by omega)
    rw [show ((h.toNat : Nat) : Int) = h by omega] at this
    rw [this, qd h q1 q2]
  have a5 : A1 a 5 = p := by rw [f2]; rfl
  have hpy : ∀ t, t < nt → decide (bAnd (bShr p t) 1 = 1) = pyP W Q t := fun t ht => by
    rw [hbits t ht]
    have h0 := (hw.2.2.2 t ht).1
    have h12 := hw.2.2.1
    have hx0 : W.w t 0 = D (T + 9 + 3 * t) 0 := by rw [eWw t ht]; exact wC_f (by decide)
    rw [wC_f (by decide)] at h0
    unfold pyC pyP
    rw [f1 (T + 9 + 3 * t) (by omega) (by omega) (by omega) (by omega), hx0, hitF_congr (f := A1 (a + 1)) (g := Q.d) (fun k hk => a1 k (by omega) (by omega))]
    have ek : ∀ j, 0 ≤ j → j ≤ 4 → knC5 A1 a (D (T + 9 + 3 * t) 0) (hitF Q.d 12) j = fct Q.ca Q.da Q.lo (Q.d (D (T + 9 + 3 * t) 0)) (hitF Q.d 12) j := fun j _ _ => by
      unfold knC5 fct
      rw [f2, a1 _ h0.1 (by omega), hQ3.1, hQ3.2.1, hQ3.2.2]
      rfl
    rw [resC_congr (hc t ht).1 ek, eWk.1, eWk.2, eWc t ht]
    by_cases q : D (T + 9 + 3 * t) 13 ≠ -1 ∧ D (T + 9 + 3 * t) 13 ≤ v
    · rw [decide_eq_true q, decide_eq_false (fun x => x.1 q), decide_eq_false (fun x => by cases x.1)]
    · rw [decide_eq_false q]
      congr 1
      apply propext
      constructor
      · intro x; exact ⟨rfl, x.2⟩
      · intro x; exact ⟨q, x.2⟩
  show V G l (d + 4) iX5_reckon 77 [rf 101, rf T, (0, v), (0, stm), (0, ms), (0, (e : Int)), rf a] [(0, x)] (K, A1, z) P
  have go : ∀ A2 : Nat → Int → Int, (∀ r, r ≠ a → r ≠ 105 → r ≠ 106 → r ≠ 107 → r ≠ a + 2 → r ≠ a + 3 → r ≠ a + 5 → r ≠ a + 6 → r ≠ a + 7 → A2 r = A1 r) → (∀ j : Int, j ≠ 6 → j ≠ 7 → A2 a j = A1 a j) → Ans W us Q a nt A2 → V G l (d + 4) iX5_reckon 90 [rf 101, rf T, (0, v), (0, stm), (0, ms), (0, (e : Int)), rf a] [] (K, A2, z) P := by
    intro A2 g1 g2 hAns
    obtain ⟨n1, n2, n3, n4⟩ := id hAns
    have ewt2 : ∀ t, t < nt → wC A2 T t = wC D T t := fun t ht => by rw [wC_congr n24 (fun r q1 q2 => g1 r (by omega) (by omega) (by omega) (by omega) (by omega) (by omega) (by omega) (by omega) (by omega)) t ht, ewt t ht]
    have gD : ∀ r, r < 279 → r ≠ 105 → r ≠ 106 → r ≠ 107 → r ≠ T + 8 → A2 r = D r := fun r r1 r2 r3 r4 r5 => by rw [g1 r (by omega) r2 r3 r4 (by omega) (by omega) (by omega) (by omega) (by omega), f1 r (by omega) (by omega) (by omega) r5]
    have b1 : A2 (a + 1) = A1 (a + 1) := g1 _ (by omega) (by omega) (by omega) (by omega) (by omega) (by omega) (by omega) (by omega) (by omega)
    have b4 : A2 (a + 4) = A1 (a + 4) := g1 _ (by omega) (by omega) (by omega) (by omega) (by omega) (by omega) (by omega) (by omega) (by omega)
    have uin : ∀ t, t < nt → _ := fun t ht => usP_in (t := t) hWq husb hEq (by rw [eWn]; exact ht)
    have hra2 : ∀ t, t < nt → raC A2 t = ra t := fun t ht => by show A2 110 t = _; rw [gD _ (by omega) (by omega) (by omega) (by omega) (by omega), hra t ht]
    have hU2 : ∀ t, t < nt → useC A2 a t = usP W us Q t := fun t ht => (n4 t ht).2.1
    have hB2 : ∀ t, t < nt → basC A2 a t = baP W us Q t := fun t ht => (n4 t ht).1
    have eow : ∀ a' b, owF (wC A2 T) (raC A2) (useC A2 a) (basC A2 a) a' b nt = owF W.w ra (usP W us Q) (baP W us Q) a' b nt := fun a' b => ow_eq2 (fun t ht => by rw [ewt2 t ht, eWw t ht]) hra2 hU2 hB2
    have c02 : A2 102 = D 102 := gD _ (by omega) (by omega) (by omega) (by omega) (by omega)
    have c03 : A2 103 = D 103 := gD _ (by omega) (by omega) (by omega) (by omega) (by omega)
    have c09 : A2 109 = D 109 := gD _ (by omega) (by omega) (by omega) (by omega) (by omega)
    refine s_al0 rfl ?_
    refine s_al6 rfl ?_
    refine s_al1 rfl ?_
    refine s_callO rfl rfl (Or.inl rfl) rfl rfl (hk.at rfl rfl) (v_settle (D := A2) (nt := nt) (nh := D T 0) hk hT ha (wOk_congr hw ewt2) (by rw [gD T (by omega) (by omega) (by omega) (by omega) (by omega)]; exact hn) (fun t ht => by rw [ewt2 t ht]; exact hB t ht) (fun h hh => ⟨by rw [b1, f3 h hh]; exact hd h hh, by rw [c03]; exact h3 h hh⟩) (fun t ht => ?_) (fun a' b a1 a2 b1 b2 => by rw [c02, eow]; exact hO a' b a1 a2 b1 b2) (fun A3 hC => ?_))
    · have u := uin t ht
      rw [hU2 t ht, hB2 t ht, hra2 t ht, ewt2 t ht, c09, hra t ht]
      have := hu t ht
      have := l10 t ht
      exact ⟨u.1, u.2.1, by omega, (hu t ht).2⟩
    · obtain ⟨s1, s2, s3, s4, s5⟩ := hC
      show V G l (d + 4) iX5_reckon 97 [rf 101, rf T, (0, v), (0, stm), (0, ms), (0, (e : Int)), rf a] [] (K, A3, z) P
      have t1 : ∀ r, a ≤ r → r ≤ a + 7 → A3 r = A2 r := fun r q1 q2 => s1 r (by omega) (by omega) (by omega) (by omega) (by omega) (by omega)
      have hA3 : Ans W us Q a nt A3 := by
        unfold Ans
        rw [t1 a (by omega) (by omega), t1 (a + 2) (by omega) (by omega), t1 (a + 3) (by omega) (by omega), t1 (a + 5) (by omega) (by omega), t1 (a + 6) (by omega) (by omega), t1 (a + 7) (by omega) (by omega)]
        exact hAns
      have hd3 : ∀ h : Int, 0 ≤ h → h < 12 → A3 (a + 1) h = Q.d h := fun h q1 q2 => by rw [t1 _ (by omega) (by omega), b1]; exact a1 h q1 q2
      have ewt3 : ∀ t, t < nt → wC A3 T t = wC D T t := fun t ht => by rw [wC_congr n24 (fun r q1 q2 => s1 r (by omega) (by omega) (by omega) (by omega) (by omega) (by omega)) t ht, ewt2 t ht]
      have j05 : ∀ j : Int, j ≠ 6 → j ≠ 7 → A3 a j = A1 a j := fun j q1 q2 => by rw [t1 a (by omega) (by omega)]; exact g2 j q1 q2
      refine kk A3 ⟨fun r r0 r1 r2 r3 r4 r5 r6 r7 r8 => ?_, ⟨?_, ?_, ?_⟩, hd3, hA3, ?_, fun t ht => ?_, fun h hh => ?_, fun a' b a1 a2 b1 b2 => ?_⟩
      · rw [s1 r r1 r2 r6 r7 (by omega) (by omega), g1 r (by omega) r3 r4 r5 (by omega) (by omega) (by omega) (by omega) (by omega), f1 r (by omega) (by omega) (by omega) r8]
      · rw [j05 0 (by decide) (by decide), f2]; rfl
      · rw [j05 1 (by decide) (by decide), f2]; rfl
      · rw [j05 2 (by decide) (by decide), f2]; rfl
      · refine CtD_mk (nh := D T 0) hA3 eWn (wOk_congr hw eWw) (fun t ht => by rw [ewt3 t ht, eWw t ht]) (fun t ht => by rw [t1 _ (by omega) (by omega), b4, f4 t ht, hrm t ht]) (fun t ht => ?_) hd3
        show decide (bAnd (bShr (A3 a 5) t) 1 = 1) = _
        rw [j05 5 (by decide) (by decide), a5]
        exact hpy t ht
      · obtain ⟨v1, v2, v3, v4⟩ := s3 t ht
        obtain ⟨w1, w2⟩ := rs_congr2 (w' := wC A2 T) (ra' := raC A2) (U' := useC A2 a) (ra := ra) (U := usP W us Q) (w := W.w) (by rw [ewt2 t ht, eWw t ht]) (hra2 t ht) (hU2 t ht)
        rw [v1, v2, v3, v4, w1, w2, hU2 t ht, ewt2 t ht, c09, gD 110 (by omega) (by omega) (by omega) (by omega) (by omega), hus t ht, hra t ht, eWw t ht]
        exact ⟨rfl, rfl, rfl, rfl⟩
      · rw [s2 h hh, c03, b1, a1 h (by omega) (by omega)]
      · rw [s5 a' b a1 a2 b1 b2, eow, c02]
  rcases hx with rfl | rfl
  · obtain ⟨y1, y2, y3, y4⟩ := hx0 rfl
    refine s_zeq rfl ?_ ?_
    · intro _
      have hC := hv y1
      have hA : Ans W us Q a nt D := CtD_eq (nh := D T 0) hC eWn (wOk_congr hw eWw) (fun t ht => by rw [eWw t ht]) (fun t ht => by rw [y3 t ht, hrm t ht]) (fun t ht => by
        show decide (bAnd (bShr (D a 5) t) 1 = 1) = _
        rw [y4]; exact hpy t ht) (fun h q1 q2 => by
        have := y2 h.toNat (by omega)
        rw [show ((h.toNat : Nat) : Int) = h by omega] at this
        rw [this, qd h q1 q2])
      refine go A1 (fun _ _ _ _ _ _ _ _ _ _ => rfl) (fun _ _ _ => rfl) ?_
      obtain ⟨n1, n2, n3, n4⟩ := hA
      unfold Ans
      rw [f1 (a + 2) (by omega) (by omega) (by omega) (by omega), f1 (a + 3) (by omega) (by omega) (by omega) (by omega), f1 (a + 5) (by omega) (by omega) (by omega) (by omega), f1 (a + 6) (by omega) (by omega) (by omega) (by omega), f1 (a + 7) (by omega) (by omega) (by omega) (by omega), f2]
      exact ⟨n1, n2, n3, n4⟩
    · intro q; exact absurd rfl q
  · refine s_zeq rfl ?_ ?_
    · intro q; exact absurd q (by decide)
    · intro _
      refine s_al0 rfl ?_
      refine s_gf rfl (hk.at rfl rfl) rfl rfl ?_
      refine s_al6 rfl ?_
      refine s_al1 rfl ?_
      refine s_callO rfl rfl (Or.inl rfl) rfl rfl (hk.at rfl rfl) (v_solve (D := A1) (nt := nt) hk hT ha (by rw [aT]; exact wOk_congr hw ewt) (by rw [aT]; exact hn) ?_ (fun t ht => ?_) (fun i hi => ?_) (fun i hi hq => ?_) (fun A2 hS => ?_))
      · rw [aT]
        refine ⟨fun h q1 q2 => ?_, fun t ht => ?_⟩
        · rw [f1 (T + 2) (by omega) (by omega) (by omega) (by omega), hch.1 h q1 q2]
          exact (nxT_congr nt 0 (fun s hs => ewt s (by omega))).symm
        · rw [f1 (T + 9 + 3 * t) (by omega) (by omega) (by omega) (by omega), hch.2 t ht, ewt t ht]
          exact (nxT_congr (nt - (t + 1)) (t + 1) (fun s hs => ewt s (by omega))).symm
      · rw [f4 t ht, hrm t ht]
        exact (rmP_in hWq (by rw [eWn]; exact ht) (husb t (by rw [eWn]; exact ht))).1
      · rw [f3 i hi]; exact hd i hi
      · rw [aT] at hq; rw [f3 i hi]; exact hd0 i hi hq
      · show V G l (d + 4) iX5_reckon 90 [rf 101, rf T, (0, v), (0, stm), (0, ms), (0, (e : Int)), rf a] [] (K, A2, z) P
        have hC2 := SoD_CtD ha279 hT n24 (wOk_congr hw ewt) hS
        have g1 := hS.1
        have g2 := hS.2.1
        refine go A2 g1 g2 (CtD_eq (nh := D T 0) hC2 eWn (wOk_congr hw eWw) (fun t ht => ?_) (fun t ht => ?_) (fun t ht => ?_) (fun h q1 q2 => ?_))
        · rw [wC_congr n24 (fun r q1 q2 => g1 r (by omega) (by omega) (by omega) (by omega) (by omega) (by omega) (by omega) (by omega) (by omega)) t ht, ewt t ht, eWw t ht]
        · rw [g1 _ (by omega) (by omega) (by omega) (by omega) (by omega) (by omega) (by omega) (by omega) (by omega), f4 t ht, hrm t ht]
        · show decide (bAnd (bShr (A2 a 5) t) 1 = 1) = _
          rw [g2 5 (by decide) (by decide), a5]; exact hpy t ht
        · rw [g1 _ (by omega) (by omega) (by omega) (by omega) (by omega) (by omega) (by omega) (by omega) (by omega)]; exact a1 h q1 q2
end
