/-! ===== a treaty told: the reference ===== -/
/-- what a treaty line may change -/
def FrT (nx x c : Nat) (D D' : Nat → Int → Int) : Prop := (∀ r, r ≠ 210 → (r < 222 ∨ 235 < r) → D' r = D r) ∧ (∀ j : Int, j ≠ 7 → j ≠ 8 → j ≠ 30 → D' 210 j = D 210 j) ∧ (∀ (r : Nat) (j : Int), (222 ≤ r ∧ r ≤ 230 ∨ r = 233) → j ≠ (x : Int) → D' r j = D r j) ∧ (∀ (r : Nat) (j : Int), r = 231 ∨ r = 232 → (j < ((12 * x : Nat) : Int) ∨ ((12 * x + 12 : Nat) : Int) ≤ j) → D' r j = D r j) ∧ ∀ j : Int, (j < ((1600 * nx + c : Nat) : Int) ∨ ((1600 * nx + 1600 : Nat) : Int) ≤ j) → D' 234 j = D 234 j ∧ D' 235 j = D 235 j
theorem FrT_refl {nx x c : Nat} {D : Nat → Int → Int} : FrT nx x c D D := ⟨fun _ _ _ => rfl, fun _ _ _ _ => rfl, fun _ _ _ _ => rfl, fun _ _ _ _ => rfl, fun _ _ => ⟨rfl, rfl⟩⟩
theorem FrT_trans {nx x c : Nat} {A B C : Nat → Int → Int} (h : FrT nx x c A B) (g : FrT nx x c B C) : FrT nx x c A C := ⟨fun r q1 q2 => (g.1 r q1 q2).trans (h.1 r q1 q2), fun j q1 q2 q3 => (g.2.1 j q1 q2 q3).trans (h.2.1 j q1 q2 q3), fun r j q1 q2 => (g.2.2.1 r j q1 q2).trans (h.2.2.1 r j q1 q2), fun r j q1 q2 => (g.2.2.2.1 r j q1 q2).trans (h.2.2.2.1 r j q1 q2), fun j q => ⟨(g.2.2.2.2 j q).1.trans (h.2.2.2.2 j q).1, (g.2.2.2.2 j q).2.trans (h.2.2.2.2 j q).2⟩⟩
theorem FrT_210 {nx x c : Nat} {D : Nat → Int → Int} {i v : Int} (h : i = 7 ∨ i = 8 ∨ i = 30) : FrT nx x c D (aUp D 210 i v) := ⟨fun r q _ => aUp_row q, fun j q1 q2 q3 => aUp_ne (by omega), fun r j q _ => by rw [aUp_row (by omega)], fun r j q _ => by rw [aUp_row (by omega)], fun j _ => ⟨by rw [aUp_row (by decide)], by rw [aUp_row (by decide)]⟩⟩
theorem FrT_up {nx x c r : Nat} {D : Nat → Int → Int} {v : Int} (h : 222 ≤ r ∧ r ≤ 230 ∨ r = 233) : FrT nx x c D (aUp D r (x : Int) v) := ⟨fun q q1 q2 => aUp_row (by omega), fun j _ _ _ => by rw [aUp_row (by omega)], fun q j q1 q2 => by
  rw [aUp_app, if_neg (fun y => q2 y.2)], fun q j q1 q2 => by rw [aUp_row (by omega)], fun j _ => ⟨by rw [aUp_row (by omega)], by rw [aUp_row (by omega)]⟩⟩
theorem FrT_pt {nx x c r i : Nat} {D : Nat → Int → Int} {v : Int} (h : r = 231 ∨ r = 232) (hi : i < 12) : FrT nx x c D (aUp D r ((12 * x + i : Nat) : Int) v) := ⟨fun q q1 q2 => aUp_row (by omega), fun j _ _ _ => by rw [aUp_row (by omega)], fun q j q1 q2 => by rw [aUp_row (by omega)], fun q j q1 q2 => by
  rw [aUp_app, if_neg (fun y => by omega)], fun j _ => ⟨by rw [aUp_row (by omega)], by rw [aUp_row (by omega)]⟩⟩
theorem FrT_K {nx x c : Nat} {D D' : Nat → Int → Int} (h : FrK nx c D D') : FrT nx x c D D' := ⟨fun r q1 q2 => h.1 r q1 (by omega) (by omega), h.2.1, fun r j q1 q2 => by rw [h.1 r (by omega) (by omega) (by omega)], fun r j q1 q2 => by rw [h.1 r (by omega) (by omega) (by omega)], h.2.2⟩
theorem hw_24 {r : Nat} (h : 222 ≤ r ∧ r ≤ 230 ∨ r = 233) : hwR r = 24 := by
  unfold hwR
  rw [if_neg (by omega), if_neg (by omega), if_neg (by omega), if_neg (by omega), if_neg (by omega)]
theorem FrT_N {nx x c : Nat} {D D' : Nat → Int → Int} (hx : 24 * nx ≤ x ∧ x < 24 * nx + 24) (h : FrT nx x c D D') : FrN nx D D' := by
  refine ⟨fun r q1 q2 => h.1 r q1 (by omega), h.2.1, fun r j q1 q2 q3 => ?_⟩
  unfold inN at q3
  rcases (by omega : r < 222 ∨ (222 ≤ r ∧ r ≤ 230 ∨ r = 233) ∨ (r = 231 ∨ r = 232) ∨ (r = 234 ∨ r = 235)) with y | y | y | y
  · rw [h.1 r (by omega) (Or.inl y)]
  · rw [hw_24 y] at q3
    exact h.2.2.1 r j y (by omega)
  · have e : hwR r = 288 := by rcases y with rfl | rfl <;> rfl
    rw [e] at q3
    exact h.2.2.2.1 r j y (by omega)
  · have e : hwR r = 1600 := by rcases y with rfl | rfl <;> rfl
    rw [e] at q3
    have := h.2.2.2.2 j (by omega)
    rcases y with rfl | rfl
    · exact this.1
    · exact this.2
def RwM (x : Nat) (g : Nat → Int) (D : Nat → Int → Int) : Prop := ∀ j : Nat, j < 8 → D (222 + j) (x : Int) = g j
/-- alive in a treaty line -/
def AlM (s ws : Int → Int) (n N nx x c k : Nat) (S : PS) (g : Nat → Int) (D D1 : Nat → Int → Int) : Prop := AtM s ws n N nx k S D1 ∧ FrT nx x c D D1 ∧ RwM x g D1 ∧ D1 210 30 = (c : Nat)
/-- dead in a treaty line -/
def DdM (nx nt : Nat) (F : Int) (D D1 : Nat → Int → Int) : Prop := FrN nx D D1 ∧ D1 210 8 = F ∧ (0 ≤ D1 210 7 ∧ D1 210 7 ≤ 1500) ∧ D1 210 11 = (nx : Nat) ∧ D1 221 (nx : Int) = (nt : Nat)
theorem AlM_to {s ws : Int → Int} {n N k nx x c : Nat} {S : PS} {g : Nat → Int} {D D1 : Nat → Int → Int} {j : Nat} (h : AlM s ws n N nx x c k S g D D1) (hj : j ≤ N) : AlM s ws n N nx x c j S g D (aUp D1 210 7 (j : Nat)) := ⟨AtM_to h.1 hj, FrT_trans h.2.1 (FrT_210 (Or.inl rfl)), fun i hi => by rw [aUp_row (by omega)]; exact h.2.2.1 i hi, by rw [aUp_ne (by decide)]; exact h.2.2.2⟩
theorem AlM_st {s ws : Int → Int} {n N k nx x c : Nat} {S : PS} {g : Nat → Int} {D D1 : Nat → Int → Int} {r j : Nat} {v : Int} (h : AlM s ws n N nx x c k S g D D1) (e : r = 222 + j) (hj : 1 ≤ j ∧ j < 8) : AlM s ws n N nx x c k S (uN g j v) D (aUp D1 r (x : Int) v) := ⟨AtM_keep h.1 (fun q y => aUp_row (by omega)), FrT_trans h.2.1 (FrT_up (by omega)), fun i hi => by
  subst e
  by_cases q : i = j
  · subst q; rw [aUp_at, uN_at]
  · rw [aUp_row (by omega), uN_ne q]; exact h.2.2.1 i hi, by rw [aUp_row (by omega)]; exact h.2.2.2⟩
theorem AlM_nm {s ws : Int → Int} {n N k nx x c : Nat} {S : PS} {g : Nat → Int} {D D1 : Nat → Int → Int} {v : Int} (hx : x = 24 * nx + S.nt) (h : AlM s ws n N nx x c k S g D D1) : AlM s ws n N nx x c k S (uN g 0 v) D (aUp D1 222 (x : Int) v) := ⟨⟨RfH_keep h.1.1 (aUp_row (by decide)) (aUp_row (by decide)) (aUp_row (by decide)) (aUp_row (by decide)), by rw [aUp_row (by decide)]; exact h.1.2.1, by rw [aUp_row (by decide)]; exact h.1.2.2.1, h.1.2.2.2.1, by rw [aUp_row (by decide)]; exact h.1.2.2.2.2.1, by rw [aUp_row (by decide)]; exact h.1.2.2.2.2.2.1, fun i hi => by rw [aUp_row (by decide)]; exact h.1.2.2.2.2.2.2.1 i hi, by rw [aUp_row (by decide)]; exact h.1.2.2.2.2.2.2.2.1, fun i hi => by rw [aUp_ne (by omega)]; exact h.1.2.2.2.2.2.2.2.2 i hi⟩, FrT_trans h.2.1 (FrT_up (by decide)), fun i hi => by
  by_cases q : i = 0
  · subst q; rw [aUp_at, uN_at]
  · rw [aUp_row (by omega), uN_ne q]; exact h.2.2.1 i hi, by rw [aUp_row (by omega)]; exact h.2.2.2⟩
theorem AlM_dead {s ws : Int → Int} {n N k nx x c : Nat} {S : PS} {g : Nat → Int} {D D1 : Nat → Int → Int} {F : Int} (hx : 24 * nx ≤ x ∧ x < 24 * nx + 24) (hN : N ≤ 1500) (h : AlM s ws n N nx x c k S g D D1) : DdM nx S.nt F D (aUp D1 210 8 F) := ⟨FrT_N hx (FrT_trans h.2.1 (FrT_210 (Or.inr (Or.inl rfl)))), aUp_at, by rw [aUp_ne (by decide), h.1.2.2.1]; have := h.1.2.2.2.1; omega, by rw [aUp_ne (by decide)]; exact h.1.2.2.2.2.1, by rw [aUp_row (by decide)]; exact h.1.2.2.2.2.2.2.2.1⟩
theorem DdM_up {nx nt r x : Nat} {F v : Int} {D D1 : Nat → Int → Int} (hx : 24 * nx ≤ x ∧ x < 24 * nx + 24) (h : DdM nx nt F D D1) (hr : 222 ≤ r ∧ r ≤ 230 ∨ r = 233) : DdM nx nt F D (aUp D1 r (x : Int) v) := ⟨FrN_trans h.1 (FrN_up (by omega) (by unfold inN; rw [hw_24 hr]; omega)), by rw [aUp_row (by omega)]; exact h.2.1, by rw [aUp_row (by omega)]; exact h.2.2.1, by rw [aUp_row (by omega)]; exact h.2.2.2.1, by rw [aUp_row (by omega)]; exact h.2.2.2.2⟩
theorem TrM_S {nx t : Nat} {S S' : PS} {D : Nat → Int → Int} (e1 : S'.w t = S.w t) (e2 : S'.cl t = S.cl t) (e3 : rTo S'.cl t = rTo S.cl t) (h : TrM nx S D t) : TrM nx S' D t := by
  unfold TrM at h ⊢
  rw [e1, e2, e3]; exact h
theorem qFo_as {a b c : Int} : qFo (qFo a b) c = qFo a (qFo b c) := by
  unfold qFo
  by_cases h : a = 0
  · rw [if_pos h, if_pos h]
  · rw [if_neg h, if_neg h, if_neg h]
theorem StM_add {s ws : Int → Int} {n N k nx x : Nat} {S : PS} {g : Nat → Int} {ly : Int} {D D4 : Nat → Int → Int} (hI : PsI (kT s n ws) (mT s n) S k) (hS : StM s ws n nx S D) (hnt : S.nt < 24) (hx : x = 24 * nx + S.nt) (hfr : FrT nx x (rTo S.cl S.nt) D D4) (hrw : RwM x g D4) (hg : g 0 = mT s n (k + 1) ∧ g 1 = ly ∧ g 2 = qIx (mT s n) S.nh S.hn (k + 3) ∧ g 3 = (if kT s n ws (k + 4) = 19 then 1 else 0) ∧ g 4 = (if ly = 0 then 1 else nT s n (qT1 (kT s n ws) k + 1)) ∧ g 5 = (if ly = 0 then 0 else nT s n (qT1 (kT s n ws) k + 3)) ∧ g 6 = (if qHa (kT s n ws) ly (qT4 (kT s n ws) (nT s n) (mT s n) (pT2 s n) ly k S).2.1 = true then nT s n ((qT4 (kT s n ws) (nT s n) (mT s n) (pT2 s n) ly k S).2.1 + 1) else 0) ∧ g 7 = (if qHa (kT s n ws) ly (qT4 (kT s n ws) (nT s n) (mT s n) (pT2 s n) ly k S).2.1 = true then nT s n ((qT4 (kT s n ws) (nT s n) (mT s n) (pT2 s n) ly k S).2.1 + 3) else 0)) (hpt : PtM x (qT4 (kT s n ws) (nT s n) (mT s n) (pT2 s n) ly k S) D4) (h11 : (qT4 (kT s n ws) (nT s n) (mT s n) (pT2 s n) ly k S).2.2.1 ≤ 11) (w0 : (qT6 (kT s n ws) (nT s n) (mT s n) (pT2 s n) ly k S).2.2 = [] → D4 233 (x : Int) = -1) (w1 : (qT6 (kT s n ws) (nT s n) (mT s n) (pT2 s n) ly k S).2.2 ≠ [] → D4 233 (x : Int) = ((1600 * nx + rTo S.cl S.nt : Nat) : Int) ∧ OpL (D4 234) (D4 235) ((1600 * nx + rTo S.cl S.nt : Nat) : Int) (qT6 (kT s n ws) (nT s n) (mT s n) (pT2 s n) ly k S).2.2 ∧ D4 234 ((1600 * nx + rTo S.cl S.nt + (qT6 (kT s n ws) (nT s n) (mT s n) (pT2 s n) ly k S).2.2.length : Nat) : Int) = 0) (h30 : D4 210 30 = ((rTo S.cl S.nt + (if (qT6 (kT s n ws) (nT s n) (mT s n) (pT2 s n) ly k S).2.2 = [] then 0 else (qT6 (kT s n ws) (nT s n) (mT s n) (pT2 s n) ly k S).2.2.length + 1) : Nat) : Int)) : StM s ws n nx (qTr (kT s n ws) (nT s n) (mT s n) (pT2 s n) ly k S).2.2 (aUp D4 221 (nx : Int) ((S.nt + 1 : Nat) : Int)) := by
  obtain ⟨⟨h12, h24⟩, i2, hdi, i4, i5, i6, i7, i8, i9⟩ := id hI
  obtain ⟨⟨n1, n2, n3, n4⟩, tr, c30, cau⟩ := hS
  obtain ⟨f1, f2, f3, f4, f5⟩ := hfr
  obtain ⟨g0, g1, g2, g3, g4, g5, g6, g7⟩ := hg
  have rto : ∀ t, t ≤ S.nt → rTo (uN S.cl S.nt (qT6 (kT s n ws) (nT s n) (mT s n) (pT2 s n) ly k S).2.2) t = rTo S.cl t := fun t ht => (cTo_congr (fun i hi => uN_ne (by omega))).2
  refine ⟨⟨?_, fun i hi => ?_, ?_, fun i hi => ?_⟩, fun t ht => ?_, ?_, fun c hc => ?_⟩
  · rw [aUp_row (by decide), f1 216 (by decide) (by decide)]; exact n1
  · rw [aUp_row (by decide), f1 217 (by decide) (by decide)]; exact n2 i hi
  · rw [aUp_at]; rfl
  · have hi : i < S.nt + 1 := hi
    show _ = mT s n (uN S.tn S.nt (k + 1) i)
    rw [aUp_row (by decide)]
    rcases (by omega : i < S.nt ∨ i = S.nt) with q | q
    · rw [uN_ne (by omega), f3 222 _ (by decide) (by omega)]; exact n4 i q
    · subst q; rw [uN_at, ← g0, ← hrw 0 (by decide), hx]
  · have ht : t < S.nt + 1 := ht
    rcases (by omega : t < S.nt ∨ t = S.nt) with q | q
    · refine TrM_S (S := S) (show uN S.w S.nt _ t = S.w t from uN_ne (by omega)) (show uN S.cl S.nt _ t = S.cl t from uN_ne (by omega)) (rto t (by omega)) ?_
      have le := (cTo_le (cl := S.cl) (show t + 1 ≤ S.nt by omega)).2
      refine TrM_keep (by have := (i5.2.2.2 t q).2.2.2.2.1; omega) (tr t q) (fun r y => ?_) (fun i hi => ⟨?_, ?_⟩) (fun j hj => ⟨?_, ?_⟩)
      · rw [aUp_row (by omega), f3 r _ (by omega) (by omega)]
      · rw [aUp_row (by decide), f4 232 _ (Or.inr rfl) (by omega)]
      · rw [aUp_row (by decide), f4 231 _ (Or.inl rfl) (by omega)]
      · rw [aUp_row (by decide), (f5 j (by omega)).1]
      · rw [aUp_row (by decide), (f5 j (by omega)).2]
    · subst q
      subst hx
      obtain ⟨p7, pp⟩ := hpt
      have ew : (qTr (kT s n ws) (nT s n) (mT s n) (pT2 s n) ly k S).2.2.w S.nt = qTrW (kT s n ws) (nT s n) (mT s n) (pT2 s n) ly k S := uN_at
      have ec : (qTr (kT s n ws) (nT s n) (mT s n) (pT2 s n) ly k S).2.2.cl S.nt = (qT6 (kT s n ws) (nT s n) (mT s n) (pT2 s n) ly k S).2.2 := uN_at
      have er : rTo (qTr (kT s n ws) (nT s n) (mT s n) (pT2 s n) ly k S).2.2.cl S.nt = rTo S.cl S.nt := rto S.nt (Nat.le_refl _)
      unfold TrM
      rw [ew, ec, er]
      have y : ∀ j : Nat, j < 8 → aUp D4 221 (nx : Int) ((S.nt + 1 : Nat) : Int) (222 + j) ((24 * nx + S.nt : Nat) : Int) = g j := fun j hj => by rw [aUp_row (by omega)]; exact hrw j hj
      rw [aUp_row (show 233 ≠ 221 by decide), aUp_row (show 234 ≠ 221 by decide), aUp_row (show 235 ≠ 221 by decide)]
      refine ⟨⟨(y 1 (by decide)).trans g1, (y 2 (by decide)).trans g2, (y 3 (by decide)).trans g3⟩, ⟨?_, (y 5 (by decide)).trans g5, (y 6 (by decide)).trans g6, (y 7 (by decide)).trans g7⟩, ?_, fun i hi => ?_, w0, w1⟩
      · refine ((y 4 (by decide)).trans g4).trans ?_
        show _ = if ly = 0 then 1 else (if ly = 0 then 0 else nT s n (qT1 (kT s n ws) k + 1))
        by_cases q : ly = 0
        · rw [if_pos q, if_pos q]
        · rw [if_neg q, if_neg q, if_neg q]
      · rw [aUp_row (by decide)]; exact p7
      · have hi : (i : Int) < ((qT4 (kT s n ws) (nT s n) (mT s n) (pT2 s n) ly k S).2.2.1 : Nat) := hi
        rw [aUp_row (by decide), aUp_row (by decide), (pp i (by omega)).1, (pp i (by omega)).2]
        have w100 : qTrW (kT s n ws) (nT s n) (mT s n) (pT2 s n) ly k S (100 + (i : Int)) = (qT4 (kT s n ws) (nT s n) (mT s n) (pT2 s n) ly k S).2.2.2.1 i := by
          unfold qTrW
          rw [if_neg (by omega), if_neg (by omega), if_neg (by omega), if_neg (by omega), if_neg (by omega), if_neg (by omega), if_neg (by omega), if_neg (by omega), if_neg (by omega), if_pos (by omega), show 100 + (i : Int) - 100 = i by omega]
        have w200 : qTrW (kT s n ws) (nT s n) (mT s n) (pT2 s n) ly k S (200 + (i : Int)) = (qT4 (kT s n ws) (nT s n) (mT s n) (pT2 s n) ly k S).2.2.2.2 i := by
          unfold qTrW
          rw [if_neg (by omega), if_neg (by omega), if_neg (by omega), if_neg (by omega), if_neg (by omega), if_neg (by omega), if_neg (by omega), if_neg (by omega), if_neg (by omega), if_neg (by omega), show 200 + (i : Int) - 200 = i by omega]
        exact ⟨w100.symm, w200.symm⟩
  · rw [aUp_row (by decide), h30]
    show _ = ((rTo (uN S.cl S.nt (qT6 (kT s n ws) (nT s n) (mT s n) (pT2 s n) ly k S).2.2) (S.nt + 1) : Nat) : Int)
    rw [rTo, rto S.nt (Nat.le_refl _), uN_at]
  · rw [aUp_row (by decide), aUp_row (by decide), aUp_row (by decide), f1 218 (by decide) (by decide), f1 219 (by decide) (by decide), f1 220 (by decide) (by decide)]; exact cau c hc
