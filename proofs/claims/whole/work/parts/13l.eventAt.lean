/-! ===== reckon: the class ===== -/
theorem CtD_keep {D D' : Nat → Int → Int} {T a nt : Nat} {nh : Int} (hC : CtD D T a nt) (hok : wOk (wC D T) nt nh) (hw : ∀ t, t < nt → wC D' T t = wC D T t) (hr : ∀ r, a ≤ r → r ≤ a + 7 → D' r = D r) : CtD D' T a nt := by
  have we := wEq_of hw
  have h012 : ∀ t, t < nt → 0 ≤ wC D T t 0 ∧ wC D T t 0 < 12 := fun t ht => by
    have := (hok.2.2.2 t ht).1
    have := hok.2.2.1
    omega
  obtain ⟨x1, x2, x3⟩ := sl_eq (w' := wC D' T) (w := wC D T) (rm' := rmC D a) (rm := rmC D a) (pay' := payC D a) (pay := payC D a) (d' := D (a + 1)) (d := D (a + 1)) (nt := nt) we (fun t ht _ => rfl) (fun _ _ => rfl) h012 (fun _ _ _ => rfl) 2000 0 (D (a + 1)) (D (a + 1)) (fun _ _ _ => rfl)
  have e4 : rmC D' a = rmC D a := by funext t; show D' (a + 4) t = D (a + 4) t; rw [hr _ (by omega) (by omega)]
  have ep : payC D' a = payC D a := by funext t; show decide (bAnd (bShr (D' a 5) t) 1 = 1) = _; rw [hr a (by omega) (by omega)]
  obtain ⟨c1, c2, c3, c4⟩ := hC
  unfold CtD
  rw [e4, ep, hr a (by omega) (by omega), hr (a + 1) (by omega) (by omega), hr (a + 2) (by omega) (by omega), hr (a + 3) (by omega) (by omega), hr (a + 5) (by omega) (by omega), hr (a + 6) (by omega) (by omega), hr (a + 7) (by omega) (by omega), x1, x2]
  refine ⟨c1, c2, fun h q1 q2 => ?_, fun t ht => ?_⟩
  · rw [x3 h q1 q2, hs_eq we (fun t ht _ => rfl) (fun _ _ => rfl) rfl (x3 h q1 q2) nt (Nat.le_refl _)]
    exact c3 h q1 q2
  · have h0 := h012 t ht
    rw [bs_eq we (fun t ht _ => rfl) (fun _ _ => rfl) ht rfl (x3 _ h0.1 h0.2), au_eq we (fun t ht _ => rfl) (fun _ _ => rfl) ht rfl (x3 _ h0.1 h0.2), pd_eq we ht, hw t ht]
    exact c4 t ht
/-- the slot of event e holds its answers -/
def SlA (W : WdQ) (Q : Nat → EvQ) (E : ES) (nt e : Nat) (D : Nat → Int → Int) : Prop := (D (279 + 10 * e) 1 = E.2.1 e ∧ D (279 + 10 * e) 2 = E.2.2.2 e) ∧ (∀ h : Int, 0 ≤ h → h < 12 → D (279 + 10 * e + 1) h = (Q e).d h) ∧ Ans W (acP W Q e).1 (Q e) (279 + 10 * e) nt D ∧ ∀ t : Nat, t < nt → D (279 + 10 * e + 8) t = rsF W.w (acP W Q e).2 (usP W (acP W Q e).1 (Q e)) t ∧ D (279 + 10 * e + 9) t = pmF W.w (acP W Q e).2 (usP W (acP W Q e).1 (Q e)) t
theorem SlA_keep {W : WdQ} {Q : Nat → EvQ} {E : ES} {nt e : Nat} {D D' : Nat → Int → Int} (h : SlA W Q E nt e D) (hr : ∀ r, 279 + 10 * e ≤ r → r < 279 + 10 * e + 10 → D' r = D r) : SlA W Q E nt e D' := by
  unfold SlA Ans at h ⊢
  rw [hr (279 + 10 * e) (by omega) (by omega), hr (279 + 10 * e + 1) (by omega) (by omega), hr (279 + 10 * e + 2) (by omega) (by omega), hr (279 + 10 * e + 3) (by omega) (by omega), hr (279 + 10 * e + 5) (by omega) (by omega), hr (279 + 10 * e + 6) (by omega) (by omega), hr (279 + 10 * e + 7) (by omega) (by omega), hr (279 + 10 * e + 8) (by omega) (by omega), hr (279 + 10 * e + 9) (by omega) (by omega)]
  exact h
/-- every slot that says it is solved holds what its question asks for -/
def SlV (D : Nat → Int → Int) (T nt m : Nat) : Prop := ∀ i, i < m → (D (279 + 10 * i) 0 = 0 ∨ D (279 + 10 * i) 0 = 1) ∧ (D (279 + 10 * i) 0 = 1 → CtD D T (279 + 10 * i) nt)
/-- the rows that reckoning writes -/
def rkR (T r : Nat) : Prop := r = 102 ∨ r = 103 ∨ (105 ≤ r ∧ r ≤ 110) ∨ r = T + 8
def LoR (T nt : Nat) (W : WdQ) (Q : Nat → EvQ) (E : ES) (e : Nat) (Dg D1 : Nat → Int → Int) : Prop := (∀ r, r < 279 → ¬ rkR T r → D1 r = Dg r) ∧ (∀ i : Nat, i < e → SlA W Q E nt i D1) ∧ (∀ t : Nat, t < nt → D1 109 t = (acP W Q e).1 t ∧ D1 110 t = (acP W Q e).2 t) ∧ (∀ h : Nat, h < 12 → D1 103 h = sumF (fun i => (Q i).d h) e) ∧ ∀ a b : Int, 0 ≤ a → a < 12 → 0 ≤ b → b < 12 → D1 102 (a * 12 + b) = owP W Q e a b
section
variable {G : aCX} {l : Launch} {d : Nat} {K : Nat → aKd} {D : Nat → Int → Int} {z : Nat × Nat} {P : Int → aSt → Prop}
theorem v_eventAt {T e nt s0 m : Nat} {v stm ms : Int} {cn : Nat → Nat} {cc : Nat → Nat → Int × Int} {W : WdQ} {Q : Nat → EvQ} {E : ES} {Dg : Nat → Int → Int} {u6 : aTV} (hk : Kn K) (hT : isT T) (he : e < 60) (hem : e ≤ m) (hS : SlI s0 m K D z) (hV : SlV D T nt m) (eWw : ∀ t, t < nt → W.w t = wC Dg T t) (eWn : W.nt = nt) (eWc : ∀ t, t < nt → W.cm t = decide (Dg (T + 9 + 3 * t) 13 ≠ -1 ∧ Dg (T + 9 + 3 * t) 13 ≤ v)) (eWk : W.cn = cn ∧ W.cc = cc) (hn : Dg T 1 = nt) (hw : wOk (wC Dg T) nt (Dg T 0)) (hch : ChT Dg T nt (Dg T 0)) (hB : WcB Dg T nt) (hc : CoC Dg T nt cn cc) (hQ : ∀ i, i ≤ e → EqB (Q i)) (qd : ∀ h : Int, 0 ≤ h → h < 12 → (Q e).d h = Dg 115 (e * 12 + h)) (hQ3 : (Q e).ca = Dg 93 (Dg 113 e) ∧ (Q e).da = Dg 91 (Dg 113 e) / 24 ∧ (Q e).lo = Dg 114 e) (hE : Dg 113 e = E.2.1 e ∧ Dg 114 e = E.2.2.2 e) (hf : 0 ≤ Dg 113 e ∧ Dg 113 e < 60) (hh : 0 ≤ Dg 91 (Dg 113 e) ∧ Dg 91 (Dg 113 e) < 240000) (hd0 : ∀ h : Nat, h < 12 → Dg T 0 ≤ h → Dg 115 (e * 12 + h) = 0) (hL : LoR T nt W Q E e Dg D)
    (kk : ∀ K4 D4 z4 m4, Kn K4 → SlI s0 m4 K4 D4 z4 → e < m4 → m ≤ m4 → SlV D4 T nt m4 → LoR T nt W Q E (e + 1) Dg D4 → V G l (d + 4) iX5_reckon 97 [rf 101, rf T, (0, v), (0, stm), (0, ms), (0, (e : Int)), rf (279 + 10 * e)] [] (K4, D4, z4) P) : V G l (d + 4) iX5_reckon 59 [rf 101, rf T, (0, v), (0, stm), (0, ms), (0, (e : Int)), u6] [] (K, D, z) P := by
  have hT2 : T = 8 ∨ T = 129 := hT
  have n24 := hw.1
  obtain ⟨l1, l2, l3, l4, l5⟩ := hL
  refine s_al0 rfl ?_
  refine s_il5 rfl ?_
  refine s_callO rfl rfl (Or.inl rfl) rfl rfl (hk.at rfl rfl) (v_happeningAt hk hS he hem (fun K2 D2 z2 m2 hS2 hem2 hmm hk2 f1 f2 f3 => ?_))
  show V G l (d + 4) iX5_reckon 65 [rf 101, rf T, (0, v), (0, stm), (0, ms), (0, (e : Int)), u6] [rf (279 + 10 * e)] (K2, D2, z2) P
  refine s_as6 rfl rfl ?_
  have g1 : ∀ r, r < 279 → ¬ rkR T r → D2 r = Dg r := fun r q1 q2 => by rw [f1 r q1 (fun x => q2 (by unfold rkR; omega)), l1 r q1 q2]
  have g1' : ∀ r, r < 279 → r ≠ 102 → r ≠ 103 → (r < 105 ∨ 110 < r) → r ≠ T + 8 → D2 r = Dg r := fun r q1 q2 q3 q4 q5 => g1 r q1 (by unfold rkR; omega)
  have ewt : ∀ t, t < nt → wC D2 T t = wC Dg T t := wC_congr n24 (fun r q1 q2 => g1' r (by omega) (by omega) (by omega) (by omega) (by omega))
  have ewtD : ∀ t, t < nt → wC D T t = wC Dg T t := wC_congr n24 (fun r q1 q2 => l1 r (by omega) (by unfold rkR; omega))
  have eT : D2 T = Dg T := g1' _ (by omega) (by omega) (by omega) (by omega) (by omega)
  have hWq : WqB W (Dg T 0) := ⟨by rw [eWn]; exact wOk_congr hw eWw, fun t ht => by rw [eWw t (by rw [← eWn]; exact ht)]; exact hB t (by rw [← eWn]; exact ht)⟩
  have hac := acP_in (Q := Q) hWq e (fun i hi => hQ i (by omega))
  have r09 : D2 109 = D 109 := f1 _ (by omega) (by omega)
  have r10 : D2 110 = D 110 := f1 _ (by omega) (by omega)
  have r02 : D2 102 = D 102 := f1 _ (by omega) (by omega)
  have r03 : D2 103 = D 103 := f1 _ (by omega) (by omega)
  have r13 : D2 113 = Dg 113 := g1' _ (by omega) (by omega) (by omega) (by omega) (by omega)
  have r14 : D2 114 = Dg 114 := g1' _ (by omega) (by omega) (by omega) (by omega) (by omega)
  have r15 : D2 115 = Dg 115 := g1' _ (by omega) (by omega) (by omega) (by omega) (by omega)
  have r91 : D2 91 = Dg 91 := g1' _ (by omega) (by omega) (by omega) (by omega) (by omega)
  have r93 : D2 93 = Dg 93 := g1' _ (by omega) (by omega) (by omega) (by omega) (by omega)
  have rt : ∀ t, t < 24 → D2 (T + 9 + 3 * t) = Dg (T + 9 + 3 * t) := fun t ht => g1' _ (by omega) (by omega) (by omega) (by omega) (by omega)
  have hV2 : SlV D2 T nt m2 := fun i hi => by
    by_cases q : i < m
    · obtain ⟨v1, v2⟩ := hV i q
      have e0 : D2 (279 + 10 * i) = D (279 + 10 * i) := (f2 i q _ (by omega) (by omega)).2
      rw [e0]
      exact ⟨v1, fun x => CtD_keep (nh := Dg T 0) (v2 x) (wOk_congr hw ewtD) (fun t ht => by rw [ewt t ht, ewtD t ht]) (fun r q1 q2 => (f2 i q r q1 (by omega)).2)⟩
    · have hi2 : i = e ∧ m ≤ e := by omega
      have e0 := f3 hi2.2 (279 + 10 * i) (by omega) (by omega) 0
      rw [e0]
      exact ⟨Or.inl rfl, fun x => absurd x (by decide)⟩
  have hKe : Kh K2 (279 + 10 * e) := (hS2.2.2.2.1 e hem2).2
  refine v_event (W := W) (us := (acP W Q e).1) (ra := (acP W Q e).2) (Q := Q e) (cn := cn) (cc := cc) (fun t ht => by rw [ewt t ht, eWw t ht]) eWn (fun t ht => by rw [rt t (by omega)]; exact eWc t ht) eWk (fun t ht => by rw [r09]; exact (l3 t ht).1.symm) (fun t ht => by rw [r10]; exact (l3 t ht).2.symm) (fun h q1 q2 => by rw [r15]; exact qd h q1 q2) (by rw [r13, r14, r91, r93]; exact hQ3) hk2 hT hKe he (by rw [eT]; exact hn) (by rw [eT]; exact wOk_congr hw ewt) ?_ (fun t ht => by rw [ewt t ht]; exact hB t ht) ?_ (by rw [r13]; exact hf) (by rw [r13, r91]; exact hh) (hV2 e hem2).1 (hV2 e hem2).2 (fun h hh => ?_) (fun h hh hq => by rw [r15]; rw [eT] at hq; exact hd0 h hh hq) (fun h hh => ?_) (fun t ht => ?_) (fun a' b a1 a2 b1 b2 => ?_) (fun D4 hD => ?_)
  · rw [eT]
    refine ⟨fun h q1 q2 => ?_, fun t ht => ?_⟩
    · rw [g1' (T + 2) (by omega) (by omega) (by omega) (by omega) (by omega), hch.1 h q1 q2]
      exact (nxT_congr nt 0 (fun s hs => ewt s (by omega))).symm
    · rw [rt t (by omega), hch.2 t ht, ewt t ht]
      exact (nxT_congr (nt - (t + 1)) (t + 1) (fun s hs => ewt s (by omega))).symm
  · intro t ht
    rw [rt t (by omega), g1' (T + 7) (by omega) (by omega) (by omega) (by omega) (by omega)]
    exact hc t ht
  · have := hQ e (Nat.le_refl _) h (by omega) (by omega)
    rw [r15, ← qd h (by omega) (by omega)]; exact this
  · rw [r03, l4 h hh]
    have s1 := sumF_nonneg (f := fun i => (Q i).d h) (n := e) (fun i hi => (hQ i (by omega) h (by omega) (by omega)).1)
    have s2 := sumF_le (f := fun i => (Q i).d h) (n := e) (fun i hi => (hQ i (by omega) h (by omega) (by omega)).2)
    omega
  · rw [r09, r10, (l3 t ht).1, (l3 t ht).2, ewt t ht, ← eWw t ht]
    exact hac t (by rw [eWn]; exact ht)
  · rw [r02, l5 a' b a1 a2 b1 b2]
    have z0 := owP_int (Q := Q) (a := a') (b := b) (e := e) hWq ⟨b1, b2⟩ (by omega) (fun i hi => hQ i (by omega))
    have z1 := owP_int (Q := Q) (a := a') (b := b) (e := e + 1) hWq ⟨b1, b2⟩ (by omega) (fun i hi => hQ i (by omega))
    have z2 : owP W Q (e + 1) a' b = owP W Q e a' b + owF W.w (acP W Q e).2 (usP W (acP W Q e).1 (Q e)) (baP W (acP W Q e).1 (Q e)) a' b W.nt := rfl
    rw [eWn] at z2
    omega
  · obtain ⟨d1, d2, d3, d4, d5, d6, d7, d8⟩ := hD
    have fr : ∀ i r, i ≠ e → 279 + 10 * i ≤ r → r < 279 + 10 * i + 10 → D4 r = D2 r := fun i r q0 q1 q2 => d1 r (by omega) (by omega) (by omega) (by omega) (by omega) (by omega) (by omega) (by omega) (by omega)
    have ewt4 : ∀ t, t < nt → wC D4 T t = wC D2 T t := wC_congr n24 (fun r q1 q2 => d1 r (by omega) (by omega) (by omega) (by omega) (by omega) (by omega) (by omega) (by omega) (by omega))
    refine kk K2 D4 z2 m2 hk2 ?_ hem2 (by omega) (fun i hi => ?_) ⟨fun r q1 q2 => ?_, fun i hi => ?_, fun t ht => ?_, fun h hh => ?_, fun a' b a1 a2 b1 b2 => ?_⟩
    · obtain ⟨y1, y2, y3, y4, y5⟩ := hS2
      have e8 : D4 108 = D2 108 := d1 _ (by omega) (by omega) (by omega) (by omega) (by omega) (by omega) (by omega) (by omega) (by omega)
      unfold SlI
      rw [e8]
      exact ⟨y1, y2, y3, y4, y5⟩
    · by_cases q : i = e
      · subst q; exact ⟨Or.inr d2.1, fun _ => d5⟩
      · obtain ⟨v1, v2⟩ := hV2 i hi
        rw [fr i (279 + 10 * i) q (by omega) (by omega)]
        exact ⟨v1, fun x => CtD_keep (nh := Dg T 0) (v2 x) (wOk_congr hw ewt) ewt4 (fun r q1 q2 => fr i r q q1 (by omega))⟩
    · unfold rkR at q2
      rw [d1 r (by omega) (by omega) (by omega) (by omega) (by omega) (by omega) (by omega) (by omega) (by omega)]
      exact g1 r q1 (by unfold rkR; exact q2)
    · by_cases q : i = e
      · subst q
        exact ⟨⟨by rw [d2.2.1, r13]; exact hE.1, by rw [d2.2.2, r14]; exact hE.2⟩, d3, d4, fun t ht => ⟨(d6 t ht).2.2.1, (d6 t ht).2.2.2⟩⟩
      · refine SlA_keep (SlA_keep (l2 i (by omega)) (fun r q1 q2 => ?_)) (fun r q1 q2 => fr i r q q1 q2)
        exact (f2 i (by omega) r q1 q2).2
    · exact ⟨(d6 t ht).1, (d6 t ht).2.1⟩
    · rw [d7 h hh, r03, l4 h hh]; rfl
    · rw [d8 a' b a1 a2 b1 b2, r02, l5 a' b a1 a2 b1 b2, ← eWn]; rfl
end
