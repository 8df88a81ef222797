/-! ===== a treaty line: the class ===== -/
theorem nx_ext {w w' : WT} {h own : Int} {nt : Nat} (hw : ∀ t, t < nt → w' t 0 = w t 0) (ho : w' nt 0 = own) : ∀ (f t : Nat), t + f = nt → nxT w' h (f + 1) t = (if nxT w h f t = -1 then (if own = h then (nt : Int) else -1) else nxT w h f t) := by
  intro f
  induction f with
  | zero =>
    intro t ht
    have : t = nt := by omega
    subst this
    show (if w' t 0 = h then (t : Int) else -1) = (if (-1 : Int) = -1 then (if own = h then (t : Int) else -1) else -1)
    rw [ho, if_pos rfl]
  | succ f ih =>
    intro t ht
    rw [nxT, hw t (by omega), ih (t + 1) (by omega)]
    rw [show nxT w h (f + 1) t = (if w t 0 = h then (t : Int) else nxT w h f (t + 1)) from rfl]
    by_cases q : w t 0 = h
    · rw [if_pos q, if_pos q, if_neg (by omega)]
    · rw [if_neg q, if_neg q]
theorem nx_none {w : WT} {h : Int} : ∀ (f t : Nat), nxT w h f t = -1 ↔ ∀ i, t ≤ i → i < t + f → w i 0 ≠ h := by
  intro f
  induction f with
  | zero => intro t; exact ⟨fun _ i h1 h2 => by omega, fun _ => rfl⟩
  | succ f ih =>
    intro t
    rw [nxT]
    by_cases q : w t 0 = h
    · rw [if_pos q]; exact ⟨fun y => by omega, fun y => absurd q (y t (by omega) (by omega))⟩
    · rw [if_neg q, ih (t + 1)]
      refine ⟨fun y i h1 h2 => ?_, fun y i h1 h2 => y i (by omega) (by omega)⟩
      rcases (by omega : i = t ∨ t + 1 ≤ i) with z | z
      · subst z; exact q
      · exact y i z (by omega)
/-- the fields of a treaty's cell that count -/
def RwI (T t : Nat) (g : Int → Int) (D : Nat → Int → Int) : Prop := ∀ j : Int, 0 ≤ j → j < 15 → j ≠ 8 → j ≠ 9 → D (T + 9 + 3 * t) j = g j
theorem RwI_up {T t : Nat} {g : Int → Int} {D D' : Nat → Int → Int} {i v : Int} (h : RwI T t g D) (e : D' (T + 9 + 3 * t) = uF (D (T + 9 + 3 * t)) i v) : RwI T t (uF g i v) D' := fun j j1 j2 j8 j9 => by
  rw [e]
  by_cases q : j = i
  · subst q; rw [uF_at, uF_at]
  · rw [uF_ne q, uF_ne q]; exact h j j1 j2 j8 j9
theorem RwI_up2 {T t : Nat} {g : Int → Int} {D D' : Nat → Int → Int} {i v i2 v2 : Int} (h : RwI T t g D) (e : D' (T + 9 + 3 * t) = uF (uF (D (T + 9 + 3 * t)) i v) i2 v2) : RwI T t (uF (uF g i v) i2 v2) D' := fun j j1 j2 j8 j9 => by
  rw [e]
  by_cases q : j = i2
  · subst q; rw [uF_at, uF_at]
  · rw [uF_ne q, uF_ne q]
    by_cases q2 : j = i
    · subst q2; rw [uF_at, uF_at]
    · rw [uF_ne q2, uF_ne q2]; exact h j j1 j2 j8 j9
theorem RwI_keep {T t : Nat} {g : Int → Int} {D D' : Nat → Int → Int} (h : RwI T t g D) (e : D' (T + 9 + 3 * t) = D (T + 9 + 3 * t)) : RwI T t g D' := fun j j1 j2 j8 j9 => by rw [e]; exact h j j1 j2 j8 j9
/-- a treaty more -/
theorem St_add {s ws : Int → Int} {n T k : Nat} {S : PS} {ly : Int} {D De : Nat → Int → Int} (hI : PsI (kT s n ws) (mT s n) S k) (hS : StC s n T S D) (hnt : S.nt < 24) (hix : 0 ≤ (qIx (mT s n) S.nh S.hn (k + 3)) ∧ (qIx (mT s n) S.nh S.hn (k + 3)) < S.nh) (e6 : De 6 = D 6) (e7 : De 7 = uF (D 7) S.nt (lT3 s n (k + 1))) (eT0 : De T 0 = S.nh ∧ De T 1 = ((S.nt + 1 : Nat) : Int) ∧ De T 9 = ((cTo S.cl S.nt : Nat) : Int) + (qT6 (kT s n ws) (nT s n) (mT s n) (pT2 s n) ly k S).2.2.length) (e3 : De (T + 3) = uF (D (T + 3)) (qIx (mT s n) S.nh S.hn (k + 3)) S.nt) (ea : D (T + 3) (qIx (mT s n) S.nh S.hn (k + 3)) = -1 → De (T + 2) = uF (D (T + 2)) (qIx (mT s n) S.nh S.hn (k + 3)) S.nt ∧ ∀ i, i < S.nt → De (T + 9 + 3 * i) = D (T + 9 + 3 * i)) (eb : ∀ a : Nat, a < S.nt → D (T + 3) (qIx (mT s n) S.nh S.hn (k + 3)) = a → De (T + 2) = D (T + 2) ∧ De (T + 9 + 3 * a) = uF (D (T + 9 + 3 * a)) 12 S.nt ∧ ∀ i, i < S.nt → i ≠ a → De (T + 9 + 3 * i) = D (T + 9 + 3 * i)) (er : ∀ i, i < S.nt → De (T + 10 + 3 * i) = D (T + 10 + 3 * i) ∧ De (T + 11 + 3 * i) = D (T + 11 + 3 * i)) (ec : (∀ j : Int, j < (cTo S.cl S.nt : Nat) → De (T + 7) j = D (T + 7) j) ∧ EncL (De (T + 7)) ((cTo S.cl S.nt : Nat) : Int) (qT6 (kT s n ws) (nT s n) (mT s n) (pT2 s n) ly k S).2.2) (eR : (∀ j : Int, 0 ≤ j → j < 8 → De (T + 9 + 3 * S.nt) j = qTrW (kT s n ws) (nT s n) (mT s n) (pT2 s n) ly k S j) ∧ (De (T + 9 + 3 * S.nt) 10 = (cTo S.cl S.nt : Nat) ∧ De (T + 9 + 3 * S.nt) 11 = (cTo S.cl S.nt : Nat) + (qT6 (kT s n ws) (nT s n) (mT s n) (pT2 s n) ly k S).2.2.length ∧ De (T + 9 + 3 * S.nt) 12 = -1 ∧ De (T + 9 + 3 * S.nt) 13 = -1 ∧ De (T + 9 + 3 * S.nt) 14 = 0)) (eP : ∀ i : Nat, i < (qT4 (kT s n ws) (nT s n) (mT s n) (pT2 s n) ly k S).2.2.1 → De (T + 10 + 3 * S.nt) i = (qT4 (kT s n ws) (nT s n) (mT s n) (pT2 s n) ly k S).2.2.2.1 i ∧ De (T + 11 + 3 * S.nt) i = (qT4 (kT s n ws) (nT s n) (mT s n) (pT2 s n) ly k S).2.2.2.2 i) (em : (qT4 (kT s n ws) (nT s n) (mT s n) (pT2 s n) ly k S).2.2.1 ≤ 11) (e456 : De (T + 4) = D (T + 4) ∧ De (T + 5) = D (T + 5) ∧ De (T + 6) = D (T + 6)) : StC s n T (qTr (kT s n ws) (nT s n) (mT s n) (pT2 s n) ly k S).2.2 De := by
  obtain ⟨⟨i1, i2⟩, i3, i4, i5, i6, i7, i8, i9, i10⟩ := hI
  obtain ⟨⟨a0, a1⟩, a2, a3, a4, a5, a6, a7⟩ := hS
  have hw : ∀ t, t < S.nt → uN S.w S.nt (qTrW (kT s n ws) (nT s n) (mT s n) (pT2 s n) ly k S) t 0 = S.w t 0 := fun t ht => by rw [uN_ne (by omega)]
  have ho : uN S.w S.nt (qTrW (kT s n ws) (nT s n) (mT s n) (pT2 s n) ly k S) S.nt 0 = (qIx (mT s n) S.nh S.hn (k + 3)) := by rw [uN_at]; rfl
  have hcl : ∀ t, t ≤ S.nt → cTo (uN S.cl S.nt (qT6 (kT s n ws) (nT s n) (mT s n) (pT2 s n) ly k S).2.2) t = cTo S.cl t := fun t ht => (cTo_congr (fun i hi => uN_ne (by omega))).1
  have la := (a4 (qIx (mT s n) S.nh S.hn (k + 3)).toNat (by omega)).2
  rw [show (((qIx (mT s n) S.nh S.hn (k + 3)).toNat : Nat) : Int) = (qIx (mT s n) S.nh S.hn (k + 3)) by omega] at la
  refine ⟨⟨eT0.1, eT0.2.1⟩, by rw [e6]; exact a2, fun i hi => ?_, fun h hh => ?_, fun t ht => ?_, ?_, fun c c1 c2 => by rw [e456.1, e456.2.1, e456.2.2]; exact a7 c c1 c2⟩
  · have hi : i < S.nt + 1 := hi
    show De 7 i = lT3 s n (uN S.tn S.nt (k + 1) i)
    rw [e7]
    rcases (by omega : i < S.nt ∨ i = S.nt) with q | q
    · rw [uF_ne (by omega), uN_ne (by omega)]; exact a3 i q
    · subst q; rw [uF_at, uN_at]
  · have hh : h < S.nh := hh
    show De (T + 2) h = nxT (uN S.w S.nt (qTrW (kT s n ws) (nT s n) (mT s n) (pT2 s n) ly k S)) h (S.nt + 1) 0 ∧ LsI (uN S.w S.nt (qTrW (kT s n ws) (nT s n) (mT s n) (pT2 s n) ly k S)) (S.nt + 1) h (De (T + 3) h)
    obtain ⟨b1, b2⟩ := a4 h hh
    rw [nx_ext hw ho S.nt 0 (by omega), e3]
    refine ⟨?_, ?_⟩
    · rcases la with ⟨l1, l2⟩ | ⟨a, l1, l2, l3, l4⟩
      · rw [(ea l1).1]
        by_cases q : (h : Int) = (qIx (mT s n) S.nh S.hn (k + 3))
        · rw [q, uF_at, if_pos ((nx_none S.nt 0).mpr (fun i _ hi => l2 i (by omega))), if_pos rfl]
        · rw [uF_ne q, b1]
          split
          · rename_i y; rw [if_neg (fun z => q z.symm), y]
          · rfl
      · rw [(eb a l1 l2).1, b1]
        split
        · rename_i y
          have nn := (nx_none (w := S.w) (h := (h : Int)) S.nt 0).mp y a (by omega) (by omega)
          rw [if_neg (fun z => nn (by rw [l3, z])), y]
        · rfl
    · by_cases q : (h : Int) = (qIx (mT s n) S.nh S.hn (k + 3))
      · rw [q, uF_at]
        exact Or.inr ⟨S.nt, by omega, rfl, ho, fun t t1 t2 => by omega⟩
      · rw [uF_ne q]
        have nq : ∀ t, t < S.nt + 1 → S.nt ≤ t → uN S.w S.nt (qTrW (kT s n ws) (nT s n) (mT s n) (pT2 s n) ly k S) t 0 ≠ (h : Int) := fun t t1 t2 => by
          have : t = S.nt := by omega
          subst this
          rw [ho]; exact fun z => q z.symm
        rcases b2 with ⟨l1, l2⟩ | ⟨a, l1, l2, l3, l4⟩
        · refine Or.inl ⟨l1, fun t ht => ?_⟩
          rcases (by omega : t < S.nt ∨ S.nt ≤ t) with y | y
          · rw [hw t y]; exact l2 t y
          · exact nq t ht y
        · refine Or.inr ⟨a, by omega, l2, by rw [hw a l1]; exact l3, fun t t1 t2 => ?_⟩
          rcases (by omega : t < S.nt ∨ S.nt ≤ t) with y | y
          · rw [hw t y]; exact l4 t t1 y
          · exact nq t t2 y
  · have ht : t < S.nt + 1 := ht
    unfold TrR
    show (∀ j : Int, 0 ≤ j → j < 8 → De (T + 9 + 3 * t) j = uN S.w S.nt (qTrW (kT s n ws) (nT s n) (mT s n) (pT2 s n) ly k S) t j) ∧ (∀ i : Nat, (i : Int) < uN S.w S.nt (qTrW (kT s n ws) (nT s n) (mT s n) (pT2 s n) ly k S) t 7 → De (T + 10 + 3 * t) i = uN S.w S.nt (qTrW (kT s n ws) (nT s n) (mT s n) (pT2 s n) ly k S) t (100 + i) ∧ De (T + 11 + 3 * t) i = uN S.w S.nt (qTrW (kT s n ws) (nT s n) (mT s n) (pT2 s n) ly k S) t (200 + i)) ∧ (De (T + 9 + 3 * t) 13 = -1 ∧ De (T + 9 + 3 * t) 14 = 0) ∧ De (T + 9 + 3 * t) 10 = ((cTo (uN S.cl S.nt (qT6 (kT s n ws) (nT s n) (mT s n) (pT2 s n) ly k S).2.2) t : Nat) : Int) ∧ De (T + 9 + 3 * t) 11 = ((cTo (uN S.cl S.nt (qT6 (kT s n ws) (nT s n) (mT s n) (pT2 s n) ly k S).2.2) t : Nat) : Int) + (uN S.cl S.nt (qT6 (kT s n ws) (nT s n) (mT s n) (pT2 s n) ly k S).2.2 t).length ∧ EncL (De (T + 7)) ((cTo (uN S.cl S.nt (qT6 (kT s n ws) (nT s n) (mT s n) (pT2 s n) ly k S).2.2) t : Nat) : Int) (uN S.cl S.nt (qT6 (kT s n ws) (nT s n) (mT s n) (pT2 s n) ly k S).2.2 t) ∧ De (T + 9 + 3 * t) 12 = nxT (uN S.w S.nt (qTrW (kT s n ws) (nT s n) (mT s n) (pT2 s n) ly k S)) (uN S.w S.nt (qTrW (kT s n ws) (nT s n) (mT s n) (pT2 s n) ly k S) t 0) (S.nt + 1 - (t + 1)) (t + 1)
    rw [hcl t (by omega)]
    rcases (by omega : t < S.nt ∨ t = S.nt) with q | q
    · obtain ⟨b1, b2, b3, b4, b5, b6, b7⟩ := a5 t q
      rw [hw t q, show S.nt + 1 - (t + 1) = (S.nt - (t + 1)) + 1 by omega, nx_ext hw ho (S.nt - (t + 1)) (t + 1) (by omega), uN_ne (f := S.w) (by omega), uN_ne (f := S.cl) (by omega), (er t q).1, (er t q).2]
      have row : ∀ j : Int, j ≠ 12 → De (T + 9 + 3 * t) j = D (T + 9 + 3 * t) j := fun j hj => by
        rcases la with ⟨l1, l2⟩ | ⟨a, l1, l2, l3, l4⟩
        · rw [(ea l1).2 t q]
        · by_cases y : t = a
          · subst y; rw [(eb t l1 l2).2.1, uF_ne hj]
          · rw [(eb a l1 l2).2.2 t q y]
      refine ⟨fun j j1 j2 => by rw [row j (by omega)]; exact b1 j j1 j2, b2, ⟨by rw [row 13 (by decide)]; exact b3.1, by rw [row 14 (by decide)]; exact b3.2⟩, by rw [row 10 (by decide)]; exact b4, by rw [row 11 (by decide)]; exact b5, EncL_congr (fun j j1 j2 => ec.1 j ?_) b6, ?_⟩
      · have := (cTo_le (cl := S.cl) (t := t + 1) (u := S.nt) (by omega)).1
        rw [cTo] at this; omega
      · rcases la with ⟨l1, l2⟩ | ⟨a, l1, l2, l3, l4⟩
        · rw [(ea l1).2 t q, b7]
          split
          · rename_i y; rw [if_neg (fun z => l2 t q z.symm), y]
          · rfl
        · by_cases y : t = a
          · subst y
            rw [(eb t l1 l2).2.1, uF_at, if_pos ((nx_none _ _).mpr (fun i h1 h2 => by rw [l3]; exact l4 i (by omega) (by omega))), if_pos l3.symm]
          · rw [(eb a l1 l2).2.2 t q y, b7]
            split
            · rename_i y2
              have nn : ¬ (qIx (mT s n) S.nh S.hn (k + 3)) = S.w t 0 := fun z => by
                rcases (by omega : t < a ∨ a < t) with y3 | y3
                · exact (nx_none _ _).mp y2 a (by omega) (by omega) (by rw [l3, z])
                · exact l4 t y3 q z.symm
              rw [if_neg nn, y2]
            · rfl
    · subst q
      rw [show S.nt + 1 - (S.nt + 1) = 0 by omega, uN_at, uN_at]
      have w7 : qTrW (kT s n ws) (nT s n) (mT s n) (pT2 s n) ly k S 7 = (((qT4 (kT s n ws) (nT s n) (mT s n) (pT2 s n) ly k S).2.2.1 : Nat) : Int) := rfl
      refine ⟨eR.1, fun i hi => ?_, ⟨eR.2.2.2.2.1, eR.2.2.2.2.2⟩, eR.2.1, eR.2.2.1, ec.2, eR.2.2.2.1⟩
      rw [w7] at hi
      obtain ⟨p1, p2⟩ := eP i (by omega)
      rw [p1, p2]
      unfold qTrW
      rw [if_neg (by omega), if_neg (by omega), if_neg (by omega), if_neg (by omega), if_neg (by omega), if_neg (by omega), if_neg (by omega), if_neg (by omega), if_neg (by omega), if_pos (by omega), if_neg (by omega), if_neg (by omega), if_neg (by omega), if_neg (by omega), if_neg (by omega), if_neg (by omega), if_neg (by omega), if_neg (by omega), if_neg (by omega), if_neg (by omega), show (100 : Int) + i - 100 = i by omega, show (200 : Int) + i - 200 = i by omega]
      exact ⟨rfl, rfl⟩
  · show De T 9 = ((cTo (uN S.cl S.nt (qT6 (kT s n ws) (nT s n) (mT s n) (pT2 s n) ly k S).2.2) (S.nt + 1) : Nat) : Int)
    rw [eT0.2.2, cTo, hcl S.nt (by omega), uN_at]; omega
