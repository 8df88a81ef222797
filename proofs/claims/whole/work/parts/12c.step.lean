/-! ===== an event more: the reference ===== -/
abbrev WqM (D : Nat → Int → Int) (cn : Nat → Nat) (cc : Nat → Nat → Int × Int) : WdQ := (wM D, ntM D, fun t => decide (0 ≤ D 265 t ∧ D 265 t ≤ vwM D), cn, cc)
abbrev QM (D : Nat → Int → Int) (e : Nat) : EvQ := (dM D e, D 241 (D 250 e), D 239 (D 250 e) / 24, D 251 e)
def AnM (W : WdQ) (us ra : Nat → Int) (Q : EvQ) (i : Nat) (D2 : Nat → Int → Int) : Prop := D2 253 i = (slP W us Q).1 ∧ D2 254 i = (if (slP W us Q).2.1 = true then 1 else 0) ∧ (∀ h : Int, 0 ≤ h → h < 12 → D2 255 (12 * i + h) = Q.d h ∧ D2 256 (12 * i + h) = grP W us Q h ∧ D2 257 (12 * i + h) = rtP W us Q h) ∧ ∀ t : Nat, t < W.nt → D2 258 (24 * i + t) = baP W us Q t ∧ D2 259 (24 * i + t) = usP W us Q t ∧ D2 260 (24 * i + t) = paP W us Q t ∧ D2 261 (24 * i + t) = rsF W.w ra (usP W us Q) t ∧ D2 262 (24 * i + t) = pmF W.w ra (usP W us Q) t
def FrS (D D' : Nat → Int → Int) : Prop := ∀ r, (r < 236 ∨ (237 < r ∧ r < 253) ∨ r = 265 ∨ r = 266 ∨ 271 < r) → D' r = D r
def OtS (e : Nat) (D D' : Nat → Int → Int) : Prop := (∀ i : Nat, i ≠ e → D' 253 i = D 253 i ∧ D' 254 i = D 254 i) ∧ (∀ j : Int, ¬ (12 * (e : Int) ≤ j ∧ j < 12 * e + 12) → D' 255 j = D 255 j ∧ D' 256 j = D 256 j ∧ D' 257 j = D 257 j) ∧ ∀ j : Int, ¬ (24 * (e : Int) ≤ j ∧ j < 24 * e + 24) → D' 258 j = D 258 j ∧ D' 259 j = D 259 j ∧ D' 260 j = D 260 j ∧ D' 261 j = D 261 j ∧ D' 262 j = D 262 j
theorem An_keep {W : WdQ} {us ra : Nat → Int} {Q : EvQ} {i e : Nat} {D D' : Nat → Int → Int} (h : AnM W us ra Q i D) (hn : W.nt ≤ 24) (hi : i ≠ e) (ho : OtS e D D') : AnM W us ra Q i D' := by
  obtain ⟨a1, a2, a3, a4⟩ := h
  obtain ⟨o1, o2, o3⟩ := ho
  refine ⟨by rw [(o1 i hi).1, a1], by rw [(o1 i hi).2, a2], fun h q1 q2 => ?_, fun t ht => ?_⟩
  · obtain ⟨p1, p2, p3⟩ := o2 (12 * i + h) (by omega)
    rw [p1, p2, p3]; exact a3 h q1 q2
  · obtain ⟨p1, p2, p3, p4, p5⟩ := o3 (24 * i + t) (by omega)
    rw [p1, p2, p3, p4, p5]; exact a4 t ht
theorem rs_eq {w : WT} {ra ra' U U' : Nat → Int} {t : Nat} (h1 : ra' t = ra t) (h2 : U' t = U t) : rsF w ra' U' t = rsF w ra U t := by
  unfold rsF
  rw [h1, h2]
theorem pm_eq {w : WT} {ra ra' U U' : Nat → Int} {t : Nat} (h1 : ra' t = ra t) (h2 : U' t = U t) : pmF w ra' U' t = pmF w ra U t := by
  unfold pmF
  rw [rs_eq h1 h2]
theorem ow_eq {w : WT} {ra ra' U U' B B' : Nat → Int} {a b : Int} {n : Nat} (h1 : ∀ t, t < n → ra' t = ra t) (h2 : ∀ t, t < n → U' t = U t) (h3 : ∀ t, t < n → B' t = B t) : owF w ra' U' B' a b n = owF w ra U B a b n := by
  unfold owF
  exact sumF_congr fun t ht => by rw [pm_eq (h1 t ht) (h2 t ht), h2 t ht, h3 t ht]
theorem pyM_eq {D A1 : Nat → Int → Int} {cn : Nat → Nat} {cc : Nat → Nat → Int × Int} {e t : Nat} {nh : Int} (hb : StB D nh) (ht : t < ntM D) (F : FdD e D A1) : pyM A1 cn cc e t = pyP (WqM D cn cc) (QM D e) t := by
  obtain ⟨f1, f2, f3, f4, f5, f6, f7⟩ := F
  have h0 := (hb.2.2.1.2.2.2 t ht).1
  have h12 := hb.2.2.1.2.2.1
  have e0 : wM D t 0 = D 224 (24 * D 210 10 + t) := rfl
  have e1 : A1 210 = D 210 := f1 _ (by omega) (by omega) (by omega)
  have ev : vwM A1 = vwM D := by show (if A1 210 36 < 0 then A1 210 35 else A1 210 36) = _; rw [e1]
  unfold pyM pyP
  rw [f4, f5, f6, f7, e1, ev, f1 265 (by omega) (by omega) (by omega), f1 224 (by omega) (by omega) (by omega), (f2 (D 224 (24 * D 210 10 + t)) (by omega) (by omega)).1]
  by_cases q : 0 ≤ D 265 t ∧ D 265 t ≤ vwM D
  · have c : (WqM D cn cc).cm t = true := decide_eq_true q
    rw [decide_eq_false (fun x => x.1 q), decide_eq_false (fun x => by rw [c] at x; cases x.1)]
  · have c : (WqM D cn cc).cm t = false := decide_eq_false q
    congr 1
    apply propext
    constructor
    · intro x; exact ⟨c, x.2⟩
    · intro x; exact ⟨q, x.2⟩
theorem An_step {D A1 A2 A3 A4 : Nat → Int → Int} {cn : Nat → Nat} {cc : Nat → Nat → Int × Int} {us ra : Nat → Int} {nh : Int} {e : Nat} (hb : StB D nh) (hus : ∀ t : Nat, t < ntM D → D 263 t = us t ∧ D 264 t = ra t) (F : FdD e D A1) (Pa : PaD e (ntM A1) cn cc A1 A2) (S : SeD A2 e (slF (wM A2) (rmM A2) (payM A2) (diM A2 e) (ntM A2) 2000 0 (diM A2 e)).1 (slF (wM A2) (rmM A2) (payM A2) (diM A2 e) (ntM A2) 2000 0 (diM A2 e)).2.1 (slF (wM A2) (rmM A2) (payM A2) (diM A2 e) (ntM A2) 2000 0 (diM A2 e)).2.2 A3) (C : ClD e (ntM A3) A3 A4) :
    AnM (WqM D cn cc) us ra (QM D e) e A4 ∧ (∀ t : Nat, t < ntM D → A4 263 t = us t + (if wM D t 1 = 0 then 0 else usP (WqM D cn cc) us (QM D e) t) ∧ A4 264 t = ra t + rsF (wM D) ra (usP (WqM D cn cc) us (QM D e)) t) ∧ (∀ a b : Int, 0 ≤ a → a < 12 → 0 ≤ b → b < 12 → A4 267 (12 * a + b) = D 267 (12 * a + b) + owF (wM D) ra (usP (WqM D cn cc) us (QM D e)) (baP (WqM D cn cc) us (QM D e)) a b (ntM D)) ∧ FrS D A4 ∧ OtS e D A4 := by
  obtain ⟨s1, w1, m1, t1⟩ := StB_of hb (D' := A1) (fun r hr => F.1 r (by omega) (by omega) (by omega))
  obtain ⟨s2, w2, m2, t2⟩ := StB_of s1 (D' := A2) (fun r hr => Pa.1 r (by omega) (by omega) (by omega))
  obtain ⟨S1, S2, S3, S4, S5⟩ := S
  obtain ⟨s3, w3, m3, t3⟩ := StB_of s2 (D' := A3) (fun r hr => S1.1 r (by omega))
  obtain ⟨C1, C2, C3, C4, C5⟩ := C
  have n24 := hb.2.2.1.1
  have ew : wM A2 = wM D := by rw [w2, w1]
  have et : ntM A2 = ntM D := by rw [t2, t1]
  have hrm : ∀ t, t < ntM D → rmM A2 t = rmP (wM D) us t := fun t ht => by
    unfold rmM rmP
    rw [ew, Pa.1 263 (by omega) (by omega) (by omega), F.1 263 (by omega) (by omega) (by omega), (hus t ht).1]
  have hpy : ∀ t, t < ntM D → payM A2 t = pyP (WqM D cn cc) (QM D e) t := fun t ht => by
    show decide (A2 268 t = 1) = _
    rw [Pa.2.2 t (by rw [t1]; exact ht), pyM_eq hb ht F]
    cases pyP (WqM D cn cc) (QM D e) t with
    | true => rfl
    | false => rfl
  have hdi : ∀ h : Int, 0 ≤ h → h < 12 → diM A2 e h = (QM D e).d h := fun h q1 q2 => by
    show A2 255 _ = _
    rw [Pa.1 255 (by omega) (by omega) (by omega)]
    exact (F.2.1 h q1 q2).1
  have h012 : ∀ t, t < ntM D → 0 ≤ wM D t 0 ∧ wM D t 0 < 12 := fun t ht => by
    have := (hb.2.2.1.2.2.2 t ht).1
    have := hb.2.2.1.2.2.1
    omega
  obtain ⟨x1, x2, x3⟩ := sl_eq (w' := wM D) (w := wM D) (rm' := rmM A2) (rm := rmP (wM D) us) (pay' := payM A2) (pay := pyP (WqM D cn cc) (QM D e)) (d' := diM A2 e) (d := (QM D e).d) (nt := ntM D) wEq_refl (fun t ht _ => hrm t ht) hpy h012 hdi 2000 0 (diM A2 e) (QM D e).d hdi
  rw [ew, et, x1] at S2
  rw [ew, et, x2] at S3 S4 S5
  have hsl : slF (wM D) (rmP (wM D) us) (pyP (WqM D cn cc) (QM D e)) (QM D e).d (ntM D) 2000 0 (QM D e).d = slP (WqM D cn cc) us (QM D e) := rfl
  rw [hsl] at S2 S3 S4 S5 x3
  have B1 : ∀ t, t < ntM D → A3 258 (24 * e + t) = baP (WqM D cn cc) us (QM D e) t ∧ A3 259 (24 * e + t) = usP (WqM D cn cc) us (QM D e) t ∧ A3 260 (24 * e + t) = paP (WqM D cn cc) us (QM D e) t := fun t ht => by
    have h0 := h012 t ht
    have hb0 := bs_eq (w' := wM D) (w := wM D) wEq_refl (fun t ht _ => hrm t ht) hpy ht (hdi _ h0.1 h0.2) (x3 _ h0.1 h0.2)
    have ha0 := au_eq (w' := wM D) (w := wM D) wEq_refl (fun t ht _ => hrm t ht) hpy ht (hdi _ h0.1 h0.2) (x3 _ h0.1 h0.2)
    have v := S5 t ht
    rw [hb0, ha0, hpy t ht] at v
    exact v
  have R1 : ∀ t, t < ntM D → raM A3 t = ra t := fun t ht => by
    show A3 264 t = _
    rw [S1.1 264 (by omega), Pa.1 264 (by omega) (by omega) (by omega), F.1 264 (by omega) (by omega) (by omega), (hus t ht).2]
  have U1 : ∀ t, t < ntM D → useM A3 e t = usP (WqM D cn cc) us (QM D e) t := fun t ht => (B1 t ht).2.1
  have et3 : ntM A3 = ntM D := by rw [t3, et]
  have ew3 : wM A3 = wM D := by rw [w3, ew]
  rw [et3] at C2 C3 C4 C5
  rw [ew3] at C2 C5
  refine ⟨⟨?_, ?_, fun h q1 q2 => ⟨?_, ?_, ?_⟩, fun t ht => ?_⟩, fun t ht => ?_, fun a b a1 a2 b1 b2 => ?_, fun r hr => ?_, fun i hi => ?_, fun j hj => ?_, fun j hj => ?_⟩
  · rw [C1 253 (by omega) (by omega) (by omega) (by omega) (by omega), S2]
  · rw [C1 254 (by omega) (by omega) (by omega) (by omega) (by omega), S3]
  · rw [C1 255 (by omega) (by omega) (by omega) (by omega) (by omega), S1.1 255 (by omega)]; exact hdi h q1 q2
  · rw [C1 256 (by omega) (by omega) (by omega) (by omega) (by omega), (S4 h q1 q2).1, hdi h q1 q2, x3 h q1 q2]; rfl
  · rw [C1 257 (by omega) (by omega) (by omega) (by omega) (by omega), (S4 h q1 q2).2, hdi h q1 q2, hs_eq (w' := wM D) (w := wM D) wEq_refl (fun t ht _ => hrm t ht) hpy (hdi h q1 q2) (x3 h q1 q2) (ntM D) (Nat.le_refl _)]; rfl
  · have ht' : t < ntM D := ht
    rw [C1 258 (by omega) (by omega) (by omega) (by omega) (by omega), C1 259 (by omega) (by omega) (by omega) (by omega) (by omega), C1 260 (by omega) (by omega) (by omega) (by omega) (by omega), (C2 t ht').1, (C2 t ht').2.1, rs_eq (R1 t ht') (U1 t ht'), pm_eq (R1 t ht') (U1 t ht')]
    exact ⟨(B1 t ht').1, (B1 t ht').2.1, (B1 t ht').2.2, rfl, rfl⟩
  · obtain ⟨-, -, c3, c4⟩ := C2 t ht
    rw [c3, c4, U1 t ht, rs_eq (R1 t ht) (U1 t ht), S1.1 263 (by omega), Pa.1 263 (by omega) (by omega) (by omega), F.1 263 (by omega) (by omega) (by omega), (hus t ht).1, S1.1 264 (by omega), Pa.1 264 (by omega) (by omega) (by omega), F.1 264 (by omega) (by omega) (by omega), (hus t ht).2]
    exact ⟨rfl, rfl⟩
  · rw [C5 a b a1 a2 b1 b2, ow_eq R1 U1 (fun t ht => (B1 t ht).1), S1.1 267 (by omega), Pa.1 267 (by omega) (by omega) (by omega), F.1 267 (by omega) (by omega) (by omega)]
  · rw [C1 r (by omega) (by omega) (by omega) (by omega) (by omega), S1.1 r (by omega), Pa.1 r (by omega) (by omega) (by omega), F.1 r (by omega) (by omega) (by omega)]
  · rw [C1 253 (by omega) (by omega) (by omega) (by omega) (by omega), C1 254 (by omega) (by omega) (by omega) (by omega) (by omega), (S1.2.1 i (by omega)).1, (S1.2.1 i (by omega)).2, Pa.1 253 (by omega) (by omega) (by omega), F.1 253 (by omega) (by omega) (by omega), Pa.1 254 (by omega) (by omega) (by omega), F.1 254 (by omega) (by omega) (by omega)]
    exact ⟨rfl, rfl⟩
  · rw [C1 255 (by omega) (by omega) (by omega) (by omega) (by omega), C1 256 (by omega) (by omega) (by omega) (by omega) (by omega), C1 257 (by omega) (by omega) (by omega) (by omega) (by omega), S1.1 255 (by omega), (S1.2.2.1 j hj).1, (S1.2.2.1 j hj).2, Pa.1 255 (by omega) (by omega) (by omega), Pa.1 256 (by omega) (by omega) (by omega), Pa.1 257 (by omega) (by omega) (by omega), (F.2.2.1 j hj).1, (F.2.2.1 j hj).2, F.1 257 (by omega) (by omega) (by omega)]
    exact ⟨rfl, rfl, rfl⟩
  · obtain ⟨k1, k2, k3⟩ := S1.2.2.2 j (by rw [et]; omega)
    rw [C1 258 (by omega) (by omega) (by omega) (by omega) (by omega), C1 259 (by omega) (by omega) (by omega) (by omega) (by omega), C1 260 (by omega) (by omega) (by omega) (by omega) (by omega), (C3 j (by omega)).1, (C3 j (by omega)).2, k1, k2, k3, S1.1 261 (by omega), S1.1 262 (by omega), Pa.1 258 (by omega) (by omega) (by omega), Pa.1 259 (by omega) (by omega) (by omega), Pa.1 260 (by omega) (by omega) (by omega), Pa.1 261 (by omega) (by omega) (by omega), Pa.1 262 (by omega) (by omega) (by omega), F.1 258 (by omega) (by omega) (by omega), F.1 259 (by omega) (by omega) (by omega), F.1 260 (by omega) (by omega) (by omega), F.1 261 (by omega) (by omega) (by omega), F.1 262 (by omega) (by omega) (by omega)]
    exact ⟨rfl, rfl, rfl, rfl, rfl⟩
