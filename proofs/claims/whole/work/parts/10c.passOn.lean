/-! ===== passOn: the class ===== -/
def nxT (w : WT) (h : Int) : Nat → Nat → Int
  | 0, _ => -1
  | n + 1, t => if w t 0 = h then (t : Int) else nxT w h n (t + 1)
def ChT (D : Nat → Int → Int) (T nt : Nat) (nh : Int) : Prop := (∀ h : Int, 0 ≤ h → h < nh → D (T + 2) h = nxT (wC D T) h nt 0) ∧ ∀ t : Nat, t < nt → D (T + 9 + 3 * t) 12 = nxT (wC D T) (wC D T t 0) (nt - (t + 1)) (t + 1)
def foF (w : WT) (q : Int → Int) (nt : Nat) (h : Int) : Int := sumF (fun t => sumF (fun i => if w t (100 + i) = h then q (11 * t + i) else 0) (w t 7).toNat) nt
def QOk (w : WT) (nt : Nat) (q : Int → Int) : Prop := ∀ t : Nat, t < nt → ∃ am : Int, (0 ≤ am ∧ am ≤ 20000000) ∧ ∀ i : Nat, (i : Int) < w t 7 → q (11 * t + i) = prt am (w t (200 + i))
theorem foF_in {w : WT} {q : Int → Int} {nt : Nat} {nh h : Int} (hw : wOk w nt nh) (hq : QOk w nt q) : 0 ≤ foF w q nt h ∧ foF w q nt h ≤ 480000000 := by
  unfold foF
  have hin : ∀ t, t < nt → 0 ≤ sumF (fun i => if w t (100 + i) = h then q (11 * t + i) else 0) (w t 7).toNat ∧ sumF (fun i => if w t (100 + i) = h then q (11 * t + i) else 0) (w t 7).toNat ≤ 20000000 := fun t ht => by
    obtain ⟨am, ha, he⟩ := hq t ht
    have h7 := (hw.2.2.2 t ht).2.2.2.2.1
    have e : sumF (fun i => if w t (100 + i) = h then q (11 * t + i) else 0) (w t 7).toNat = ptF w t h am (w t 7).toNat := by
      unfold ptF
      exact sumF_congr fun i hi => by rw [he i (by omega)]
    rw [e]
    have h1 := ptF_in (h := h) (n := (w t 7).toNat) hw ht ha.1 (by omega)
    have h2 := pdF_in hw ht ha.1
    omega
  have h1 := sumF_nonneg (n := nt) (fun t ht => (hin t ht).1)
  have h2 := sumF_le (n := nt) (fun t ht => (hin t ht).2)
  have := hw.1
  omega
/-- a sum in which one place is another -/
theorem sumF_swap1 {f g : Nat → Int} {n t : Nat} (ht : t < n) (h : ∀ k, k < n → k ≠ t → f k = g k) : sumF f n = sumF g n + (f t - g t) := by
  induction n with
  | zero => omega
  | succ n ih =>
    rw [sumF, sumF]
    rcases (by omega : t < n ∨ t = n) with h1 | h1
    · rw [ih h1 (fun k hk => h k (by omega)), h n (by omega) (by omega)]; omega
    · subst h1
      rw [sumF_congr (g := g) (fun k hk => h k (by omega) (by omega))]; omega
theorem hsF_skip {w : WT} {rm : Nat → Int} {pay : Nat → Bool} {d g : Int → Int} {h : Int} {t : Nat} (hn : ¬ (w t 0 = h ∧ pay t = true)) : hsF w rm pay d g h (t + 1) = hsF w rm pay d g h t := by rw [hsF, if_neg hn]
abbrev rmC (D : Nat → Int → Int) (a : Nat) : Nat → Int := fun t => D (a + 4) t
abbrev hsC (D : Nat → Int → Int) (T a : Nat) := hsF (wC D T) (rmC D a) (payC D a) (D (a + 1)) (D (a + 2))
abbrev bsC (D : Nat → Int → Int) (T a : Nat) := bsF (wC D T) (rmC D a) (payC D a) (D (a + 1)) (D (a + 2))
abbrev auC (D : Nat → Int → Int) (T a : Nat) := auF (wC D T) (rmC D a) (payC D a) (D (a + 1)) (D (a + 2))
/-- the treaty's numbers in an event, as they come of the gross -/
def TrC (D : Nat → Int → Int) (T a : Nat) (D' : Nat → Int → Int) (s : Nat) : Prop := D' (a + 5) s = bsC D T a s ∧ D' (a + 6) s = (if wC D T s 1 = 0 then pdF (wC D T) s (auC D T a s) else auC D T a s) ∧ D' (a + 7) s = pdF (wC D T) s (auC D T a s) ∧ ∀ i : Nat, (i : Int) < wC D T s 7 → D' 107 (11 * s + i) = prt (auC D T a s) (wC D T s (200 + i))
/-- the treaty's numbers stand as they did -/
def TrS (D : Nat → Int → Int) (a : Nat) (D' : Nat → Int → Int) (s : Nat) : Prop := D' (a + 5) s = D (a + 5) s ∧ D' (a + 6) s = D (a + 6) s ∧ D' (a + 7) s = D (a + 7) s ∧ ∀ i : Nat, i < 11 → D' 107 (11 * s + i) = D 107 (11 * s + i)
def PoD (D : Nat → Int → Int) (T a nt : Nat) (h : Int) (t : Nat) (D' : Nat → Int → Int) : Prop := (∀ r, r ≠ 105 → r ≠ 107 → r ≠ a + 5 → r ≠ a + 6 → r ≠ a + 7 → D' r = D r) ∧ (∀ s : Nat, s < nt → (s < t ∧ wC D T s 0 = h ∧ payC D a s = true) → TrC D T a D' s) ∧ (∀ s : Nat, ¬ (s < t ∧ wC D T s 0 = h ∧ payC D a s = true) → TrS D a D' s) ∧ (∀ h' : Int, 0 ≤ h' → h' < 12 → D' 105 h' = foF (wC D T) (D' 107) nt h') ∧ (∀ s i : Nat, s < nt → i < 11 → 0 ≤ D' 107 (11 * s + i) ∧ D' 107 (11 * s + i) ≤ 20000000) ∧ QOk (wC D T) nt (D' 107)
theorem wC_same {D D' : Nat → Int → Int} {T t : Nat} (hT : isT T) (ht : t < 24) (h : ∀ r, r < 210 → r ≠ 105 → r ≠ 107 → D' r = D r) : wC D' T t = wC D T t := by
  have hT2 : T = 8 ∨ T = 129 := hT
  funext j
  unfold wC
  rw [h _ (by omega) (by omega) (by omega), h _ (by omega) (by omega) (by omega), h _ (by omega) (by omega) (by omega)]
theorem wOk_same {w w' : WT} {nt : Nat} {nh : Int} (h : ∀ t, t < nt → w' t = w t) (hw : wOk w nt nh) : wOk w' nt nh := by
  refine ⟨hw.1, hw.2.1, hw.2.2.1, fun t ht => ?_⟩
  rw [h t ht]
  exact hw.2.2.2 t ht
theorem pdF_same {w w' : WT} {t : Nat} {a : Int} (h : w' t = w t) : pdF w' t a = pdF w t a := by unfold pdF; rw [h]
theorem amtF_same {w w' : WT} {rm rm' : Nat → Int} {t : Nat} {a : Int} (h : w' t = w t) (hr : rm' t = rm t) : amtF w' rm' t a = amtF w rm t a := by unfold amtF; rw [h, hr]
section
variable {G : aCX} {l : Launch} {d : Nat} {K : Nat → aKd} {D : Nat → Int → Int} {z : Nat × Nat} {P : Int → aSt → Prop}
theorem v_passOn {T a nt : Nat} {nh h : Int} (hk : Kn K) (hT : isT T) (ha : Kh K a) (hw : wOk (wC D T) nt nh) (hnT : D T 1 = (nt : Int)) (hc : ChT D T nt nh) (hh : 0 ≤ h ∧ h < nh) (hr : ∀ t, t < nt → 0 ≤ D (a + 4) t) (hg : ∀ q, 0 ≤ q → q < nh → 0 ≤ D (a + 1) q ∧ D (a + 1) q ≤ D (a + 2) q ∧ D (a + 2) q ≤ 20000000) (h0 : PoD D T a nt h 0 D) (kk : ∀ D', PoD D T a nt h nt D' → P 0 (K, aUp D' (a + 3) h (hsC D T a h nt).1, z)) : VM G l (d + 2) iX6_passOn [rf 104, rf a, rf T, (0, h)] (K, D, z) P := by
  have hT2 : T = 8 ∨ T = 129 := hT
  have n24 := hw.1
  have nh12 := hw.2.2.1
  obtain ⟨ha0, k0, k1, k2, k3, k4, k5, k6, k7, k8, k9⟩ := id ha
  have hd : ∀ q, 0 ≤ q → q < nh → 0 ≤ D (a + 1) q ∧ D (a + 1) q ≤ D (a + 2) q := fun q h1 h2 => ⟨(hg q h1 h2).1, (hg q h1 h2).2.1⟩
  have hrm : ∀ t, t < nt → 0 ≤ rmC D a t := hr
  have hst : ∀ t : Nat, t ≤ nt → 0 ≤ (hsC D T a h t).2 ∧ (hsC D T a h t).2 ≤ (hsC D T a h t).1 ∧ (hsC D T a h t).1 ≤ D (a + 2) h := fun t ht => hsF_in hw hrm (hd h hh.1 hh.2) t ht
  have hgh := hg h hh.1 hh.2
  have loop : ∀ (n t : Nat) (i : Int) (D1 : Nat → Int → Int) (u8 u9 u10 u11 : aTV), t + n = nt → 0 ≤ i → i ≤ t → PoD D T a nt h t D1 → Nat.beq u8.1 1 = false → Nat.beq u9.1 1 = false → Nat.beq u10.1 1 = false → V G l (d + 2) iX6_passOn 27 [rf 104, rf a, rf T, (0, h), (0, (hsC D T a h t).1), (0, (hsC D T a h t).2), (0, nxT (wC D T) h n t), (0, i), u8, u9, u10, u11] [] (K, D1, z) P := by
    intro n
    induction n with
    | zero =>
      intro t i D1 u8 u9 u10 u11 h1 h2 h3 hP t8 t9 t10
      have et : t = nt := by omega
      subst et
      have e0 : nxT (wC D T) h 0 t = -1 := rfl
      rw [e0]
      have fin : V G l (d + 2) iX6_passOn 207 [rf 104, rf a, rf T, (0, h), (0, (hsC D T a h t).1), (0, (hsC D T a h t).2), (0, -1), (0, i), u8, u9, u10, u11] [] (K, D1, z) P := by
        refine s_al1 rfl ?_
        refine s_gf rfl k0 rfl rfl ?_
        refine s_il3 rfl ?_
        refine s_il4 rfl ?_
        refine s_iast rfl k3 (by omega) ?_
        refine s_retv rfl rfl ?_
        exact kk D1 hP
      refine s_il7 rfl ?_
      refine s_ic rfl ?_
      refine s_cge rfl ?_ ?_
      · intro h31
        exact fin
      · intro h31
        refine s_il6 rfl ?_
        refine s_zlt rfl ?_ ?_
        · intro h36
          exact fin
        · intro h36
          omega
    | succ n ih =>
      intro t i D1 u8 u9 u10 u11 h1 h2 h3 hP t8 t9 t10
      have ht : t < nt := by omega
      by_cases hown : wC D T t 0 = h
      · have e0 : nxT (wC D T) h (n + 1) t = t := by rw [nxT, if_pos hown]
        rw [e0]
        obtain ⟨f1, f2, f3, f4, f5, f6⟩ := id hP
        have w0 : D1 a = D a := f1 a (by omega) (by omega) (by omega) (by omega) (by omega)
        have w1 : D1 (a + 1) = D (a + 1) := f1 _ (by omega) (by omega) (by omega) (by omega) (by omega)
        have w2 : D1 (a + 2) = D (a + 2) := f1 _ (by omega) (by omega) (by omega) (by omega) (by omega)
        have w4 : D1 (a + 4) = D (a + 4) := f1 _ (by omega) (by omega) (by omega) (by omega) (by omega)
        have wt : D1 (T + 9 + 3 * t) = D (T + 9 + 3 * t) := f1 _ (by omega) (by omega) (by omega) (by omega) (by omega)
        have wT1 : D1 T 1 = (nt : Int) := by rw [f1 T (by omega) (by omega) (by omega) (by omega) (by omega)]; exact hnT
        obtain ⟨q1, q2, q3⟩ := KTt hk hT (show t < 24 by omega)
        have hwt := hw.2.2.2 t ht
        have hst1 := hst t (by omega)
        have hst2 := hst (t + 1) (by omega)
        have x1 : wC D T t 1 = D (T + 9 + 3 * t) 1 := wC_f (by decide)
        have x2 : wC D T t 2 = D (T + 9 + 3 * t) 2 := wC_f (by decide)
        have x4 : wC D T t 4 = D (T + 9 + 3 * t) 4 := wC_f (by decide)
        have x12 : D (T + 9 + 3 * t) 12 = nxT (wC D T) h n (t + 1) := by rw [hc.2 t ht, hown, show nt - (t + 1) = n by omega]
        have eb : bsC D T a t = if wC D T t 2 = 0 then (hsC D T a h t).1 else (hsC D T a h t).2 := by
          show (if wC D T t 2 = 0 then (hsF (wC D T) (rmC D a) (payC D a) (D (a + 1)) (D (a + 2)) (wC D T t 0) t).1 else (hsF (wC D T) (rmC D a) (payC D a) (D (a + 1)) (D (a + 2)) (wC D T t 0) t).2) = _
          rw [hown]
        have follow : ∀ (D1 : Nat → Int → Int) (u9 u10 u11 : aTV), PoD D T a nt h (t + 1) D1 → Nat.beq u9.1 1 = false → Nat.beq u10.1 1 = false → V G l (d + 2) iX6_passOn 194 [rf 104, rf a, rf T, (0, h), (0, (hsC D T a h (t + 1)).1), (0, (hsC D T a h (t + 1)).2), (0, (t : Int)), (0, i), rf (T + 9 + 3 * t), u9, u10, u11] [] (K, D1, z) P := by
          intro D1 u9 u10 u11 hP t9 t10
          have wt : D1 (T + 9 + 3 * t) = D (T + 9 + 3 * t) := hP.1 _ (by omega) (by omega) (by omega) (by omega) (by omega)
          refine s_al8 rfl ?_
          refine s_gi rfl q1 rfl ?_
          rw [wt, x12]
          refine s_is6 rfl rfl ?_
          refine s_iinc7 rfl rfl ⟨by omega, by omega⟩ ?_
          refine s_go rfl ?_
          exact ih (t + 1) (i + 1) D1 _ u9 u10 u11 (by omega) (by omega) (by omega) hP rfl t9 t10
        by_cases hpay : payC D a t = true
        · have hpay' : bAnd (bShr (D a 5) t) 1 = 1 := of_decide_eq_true hpay
          have hbs : 0 ≤ bsC D T a t ∧ bsC D T a t ≤ D (a + 2) (wC D T t 0) := bsF_in hw hrm hd ht
          have hau : 0 ≤ auC D T a t ∧ auC D T a t ≤ D (a + 2) (wC D T t 0) := auF_in hw hrm hd ht
          have hpd : 0 ≤ pdF (wC D T) t (auC D T a t) ∧ pdF (wC D T) t (auC D T a t) ≤ auC D T a t := pdF_in hw ht hau.1
          rw [hown] at hbs hau
          have ehs : hsC D T a h (t + 1) = hsS (wC D T) (rmC D a) t (hsC D T a h t) := by
            show (if wC D T t 0 = h ∧ payC D a t = true then hsS (wC D T) (rmC D a) t (hsC D T a h t) else hsC D T a h t) = _
            rw [if_pos ⟨hown, hpay⟩]
          have eau : auC D T a t = amtF (wC D T) (rmC D a) t (if wC D T t 2 = 0 then (hsC D T a h t).1 else (hsC D T a h t).2) := by
            show amtF (wC D T) (rmC D a) t (bsC D T a t) = _
            rw [eb]
          have e1 : (hsC D T a h (t + 1)).1 = (hsC D T a h t).1 - pdF (wC D T) t (auC D T a t) := by rw [ehs, eau]; rfl
          have e2 : (hsC D T a h (t + 1)).2 = if (hsC D T a h t).1 - pdF (wC D T) t (auC D T a t) < (if wC D T t 2 = 0 then (hsC D T a h t).2 else mx0 ((hsC D T a h t).2 - pdF (wC D T) t (auC D T a t))) then (hsC D T a h t).1 - pdF (wC D T) t (auC D T a t) else (if wC D T t 2 = 0 then (hsC D T a h t).2 else mx0 ((hsC D T a h t).2 - pdF (wC D T) t (auC D T a t))) := by rw [ehs, eau]; rfl
          have wsame : ∀ s, s < 24 → wC D1 T s = wC D T s := fun s hs => wC_same hT hs (fun r g1 g2 g3 => f1 r g2 g3 (by omega) (by omega) (by omega))
          have hwD1 : wOk (wC D1 T) nt nh := wOk_same (fun s hs => wsame s (by omega)) hw
          generalize hX : bsC D T a t = X at *
          generalize hA : auC D T a t = A at *
          generalize hPd : pdF (wC D T) t A = Pd at *
          have based : ∀ (u9 u10 u11 : aTV), V G l (d + 2) iX6_passOn 81 [rf 104, rf a, rf T, (0, h), (0, (hsC D T a h t).1), (0, (hsC D T a h t).2), (0, (t : Int)), (0, i), rf (T + 9 + 3 * t), u9, u10, u11] [(0, X)] (K, D1, z) P := by
            intro u9 u10 u11
            have last : ∀ (D2 : Nat → Int → Int), PpD T t A D1 (wC D1 T t 7).toNat D2 → V G l (d + 2) iX6_passOn 112 [rf 104, rf a, rf T, (0, h), (0, (hsC D T a h t).1), (0, (hsC D T a h t).2), (0, (t : Int)), (0, i), rf (T + 9 + 3 * t), (0, X), (0, A), u11] [(0, Pd)] (K, D2, z) P := by
              intro D2 hD2
              obtain ⟨m1, m2, m3, m4⟩ := id hD2
              rw [wsame t (by omega)] at m2 m3 m4
              have mt : D2 (T + 9 + 3 * t) = D (T + 9 + 3 * t) := by rw [m1 _ (by omega) (by omega)]; exact wt
              have npos := hwt.2.2.2.2.1
              have stored : ∀ U : Int, U = (if wC D T t 1 = 0 then Pd else A) → PoD D T a nt h (t + 1) (aUp (aUp (aUp D2 (a + 5) t X) (a + 6) t U) (a + 7) t Pd) := by
                intro U hU
                refine ⟨fun r g1 g2 g3 g4 g5 => ?_, fun s hs hsp => ?_, fun s hsn => ?_, fun h' g1 g2 => ?_, fun s j hs hj => ?_, fun s hs => ?_⟩
                · rw [aUp_row g5, aUp_row g4, aUp_row g3, m1 r g1 g2]; exact f1 r g1 g2 g3 g4 g5
                · by_cases hst : s = t
                  · subst hst
                    refine ⟨?_, ?_, ?_, fun j hj => ?_⟩
                    · rw [aUp_row (by omega), aUp_row (by omega), aUp_same, uF_at]; exact hX.symm
                    · rw [aUp_row (by omega), aUp_same, uF_at, hU, hA, hPd]
                    · rw [aUp_same, uF_at, hA, hPd]
                    · rw [aUp_row (by omega), aUp_row (by omega), aUp_row (by omega), m2 j (by omega), hA]
                  · obtain ⟨r1, r2, r3, r4⟩ := f2 s hs ⟨by omega, hsp.2⟩
                    have hs7 := (hw.2.2.2 s hs).2.2.2.2.1
                    refine ⟨?_, ?_, ?_, fun j hj => ?_⟩
                    · rw [aUp_row (by omega), aUp_row (by omega), aUp_same, uF_ne (by omega), m1 _ (by omega) (by omega)]; exact r1
                    · rw [aUp_row (by omega), aUp_same, uF_ne (by omega), aUp_row (by omega), m1 _ (by omega) (by omega)]; exact r2
                    · rw [aUp_same, uF_ne (by omega), aUp_row (by omega), aUp_row (by omega), m1 _ (by omega) (by omega)]; exact r3
                    · rw [aUp_row (by omega), aUp_row (by omega), aUp_row (by omega), m3 _ (by omega)]; exact r4 j hj
                · have hst : s ≠ t := fun q => hsn ⟨by omega, by rw [q]; exact hown, by rw [q]; exact hpay⟩
                  obtain ⟨r1, r2, r3, r4⟩ := f3 s (fun q => hsn ⟨by omega, q.2⟩)
                  refine ⟨?_, ?_, ?_, fun j hj => ?_⟩
                  · rw [aUp_row (by omega), aUp_row (by omega), aUp_same, uF_ne (by omega), m1 _ (by omega) (by omega)]; exact r1
                  · rw [aUp_row (by omega), aUp_same, uF_ne (by omega), aUp_row (by omega), m1 _ (by omega) (by omega)]; exact r2
                  · rw [aUp_same, uF_ne (by omega), aUp_row (by omega), aUp_row (by omega), m1 _ (by omega) (by omega)]; exact r3
                  · rw [aUp_row (by omega), aUp_row (by omega), aUp_row (by omega), m3 _ (by omega)]; exact r4 j hj
                · rw [aUp_row (by omega), aUp_row (by omega), aUp_row (by omega), aUp_row (by omega), aUp_row (by omega), aUp_row (by omega), m4, f4 h' g1 g2]
                  unfold foF
                  rw [sumF_swap1 (f := fun s => sumF (fun i => if wC D T s (100 + i) = h' then D2 107 (11 * s + i) else 0) (wC D T s 7).toNat) (g := fun s => sumF (fun i => if wC D T s (100 + i) = h' then D1 107 (11 * s + i) else 0) (wC D T s 7).toNat) ht (fun s hs hst => by
                    have hs7 := (hw.2.2.2 s hs).2.2.2.2.1
                    exact sumF_congr fun j hj => by rw [m3 _ (by omega)])]
                  have e5 : sumF (fun i => if wC D T t (100 + i) = h' then D2 107 (11 * t + i) else 0) (wC D T t 7).toNat = sumF (fun i => if wC D T t (100 + i) = h' then D1 107 (11 * t + i) else 0) (wC D T t 7).toNat + sumF (fun i => if wC D T t (100 + i) = h' then prt A (wC D T t (200 + i)) - D1 107 (11 * t + i) else 0) (wC D T t 7).toNat := by
                    rw [← sumF_add]
                    exact sumF_congr fun j hj => by
                      rw [m2 j (by omega)]
                      split <;> omega
                  rw [e5]
                  omega
                · rw [aUp_row (by omega), aUp_row (by omega), aUp_row (by omega)]
                  by_cases hb9 : 11 * (t : Int) ≤ 11 * s + j ∧ 11 * (s : Int) + j < 11 * t + (wC D T t 7).toNat
                  · have hst : s = t := by omega
                    subst hst
                    rw [m2 j (by omega)]
                    have := prt_in hau.1 (hwt.2.2.2.2.2.1 j (by omega)).2
                    omega
                  · rw [m3 _ hb9]; exact f5 s j hs hj
                · rw [aUp_row (by omega), aUp_row (by omega), aUp_row (by omega)]
                  by_cases hst : s = t
                  · subst hst
                    exact ⟨A, by omega, fun j hj => m2 j (by omega)⟩
                  · obtain ⟨am, g1, g2⟩ := f6 s hs
                    have hs7 := (hw.2.2.2 s hs).2.2.2.2.1
                    exact ⟨am, g1, fun j hj => by rw [m3 _ (by omega)]; exact g2 j hj⟩
              refine s_is11 rfl rfl ?_
              refine s_al1 rfl ?_
              refine s_gf rfl k0 rfl rfl ?_
              refine s_il6 rfl ?_
              refine s_il9 rfl ?_
              refine s_iast rfl k5 (by omega) ?_
              refine s_al1 rfl ?_
              refine s_gf rfl k0 rfl rfl ?_
              refine s_il6 rfl ?_
              refine s_al8 rfl ?_
              refine s_gz rfl q1 rfl ?_
              rw [aUp_row (by omega), mt, ← x1]
              refine s_zeq rfl ?_ ?_
              · intro h134
                refine s_il11 rfl ?_
                refine s_iast rfl k6 (by omega) ?_
                refine s_al1 rfl ?_
                refine s_gf rfl k0 rfl rfl ?_
                refine s_il6 rfl ?_
                refine s_il11 rfl ?_
                refine s_iast rfl k7 (by omega) ?_
                refine s_il4 rfl ?_
                refine s_il11 rfl ?_
                refine s_isub rfl ⟨by omega, by omega⟩ ?_
                rw [← e1]
                refine s_is4 rfl rfl ?_
                refine s_al8 rfl ?_
                refine s_gz rfl q1 rfl ?_
                rw [aUp_row (by omega), aUp_row (by omega), aUp_row (by omega), mt, ← x2]
                refine s_zeq rfl ?_ ?_
                · intro h166
                  refine s_il5 rfl ?_
                  refine s_is5 rfl rfl ?_
                  refine s_il5 rfl ?_
                  refine s_il4 rfl ?_
                  refine s_min rfl rfl ?_
                  have e9 : ∀ y : Int, y = (if wC D T t 2 = 0 then (hsC D T a h t).2 else mx0 ((hsC D T a h t).2 - Pd)) → (if (hsC D T a h (t + 1)).1 < y then (hsC D T a h (t + 1)).1 else y) = (hsC D T a h (t + 1)).2 := fun y hy => by rw [e2, e1, hy]
                  rw [e9 _ (by first | (rw [if_pos h166]) | (rw [if_neg h166]; rfl))]
                  refine s_is5 rfl rfl ?_
                  exact follow _ _ _ _ (stored _ (by first | rw [if_pos h134] | rw [if_neg h134])) rfl rfl
                · intro h166
                  refine s_ic rfl ?_
                  refine s_il5 rfl ?_
                  refine s_il11 rfl ?_
                  refine s_isub rfl ⟨by omega, by omega⟩ ?_
                  refine s_max rfl rfl ?_
                  refine s_go rfl ?_
                  refine s_is5 rfl rfl ?_
                  refine s_il5 rfl ?_
                  refine s_il4 rfl ?_
                  refine s_min rfl rfl ?_
                  have e9 : ∀ y : Int, y = (if wC D T t 2 = 0 then (hsC D T a h t).2 else mx0 ((hsC D T a h t).2 - Pd)) → (if (hsC D T a h (t + 1)).1 < y then (hsC D T a h (t + 1)).1 else y) = (hsC D T a h (t + 1)).2 := fun y hy => by rw [e2, e1, hy]
                  rw [e9 _ (by first | (rw [if_pos h166]) | (rw [if_neg h166]; rfl))]
                  refine s_is5 rfl rfl ?_
                  exact follow _ _ _ _ (stored _ (by first | rw [if_pos h134] | rw [if_neg h134])) rfl rfl
              · intro h134
                refine s_il10 rfl ?_
                refine s_go rfl ?_
                refine s_iast rfl k6 (by omega) ?_
                refine s_al1 rfl ?_
                refine s_gf rfl k0 rfl rfl ?_
                refine s_il6 rfl ?_
                refine s_il11 rfl ?_
                refine s_iast rfl k7 (by omega) ?_
                refine s_il4 rfl ?_
                refine s_il11 rfl ?_
                refine s_isub rfl ⟨by omega, by omega⟩ ?_
                rw [← e1]
                refine s_is4 rfl rfl ?_
                refine s_al8 rfl ?_
                refine s_gz rfl q1 rfl ?_
                rw [aUp_row (by omega), aUp_row (by omega), aUp_row (by omega), mt, ← x2]
                refine s_zeq rfl ?_ ?_
                · intro h166
                  refine s_il5 rfl ?_
                  refine s_is5 rfl rfl ?_
                  refine s_il5 rfl ?_
                  refine s_il4 rfl ?_
                  refine s_min rfl rfl ?_
                  have e9 : ∀ y : Int, y = (if wC D T t 2 = 0 then (hsC D T a h t).2 else mx0 ((hsC D T a h t).2 - Pd)) → (if (hsC D T a h (t + 1)).1 < y then (hsC D T a h (t + 1)).1 else y) = (hsC D T a h (t + 1)).2 := fun y hy => by rw [e2, e1, hy]
                  rw [e9 _ (by first | (rw [if_pos h166]) | (rw [if_neg h166]; rfl))]
                  refine s_is5 rfl rfl ?_
                  exact follow _ _ _ _ (stored _ (by first | rw [if_pos h134] | rw [if_neg h134])) rfl rfl
                · intro h166
                  refine s_ic rfl ?_
                  refine s_il5 rfl ?_
                  refine s_il11 rfl ?_
                  refine s_isub rfl ⟨by omega, by omega⟩ ?_
                  refine s_max rfl rfl ?_
                  refine s_go rfl ?_
                  refine s_is5 rfl rfl ?_
                  refine s_il5 rfl ?_
                  refine s_il4 rfl ?_
                  refine s_min rfl rfl ?_
                  have e9 : ∀ y : Int, y = (if wC D T t 2 = 0 then (hsC D T a h t).2 else mx0 ((hsC D T a h t).2 - Pd)) → (if (hsC D T a h (t + 1)).1 < y then (hsC D T a h (t + 1)).1 else y) = (hsC D T a h (t + 1)).2 := fun y hy => by rw [e2, e1, hy]
                  rw [e9 _ (by first | (rw [if_pos h166]) | (rw [if_neg h166]; rfl))]
                  refine s_is5 rfl rfl ?_
                  exact follow _ _ _ _ (stored _ (by first | rw [if_pos h134] | rw [if_neg h134])) rfl rfl
            refine s_is9 rfl rfl ?_
            refine s_al8 rfl ?_
            refine s_il9 rfl ?_
            refine s_al1 rfl ?_
            refine s_gf rfl k0 rfl rfl ?_
            refine s_il6 rfl ?_
            refine s_iald rfl k4 (by omega) ?_
            rw [w4]
            refine s_callS rfl rfl rfl rfl (v_amountOf hk hT (by omega) (by rw [wt, ← x4]; exact hwt.2.2.2.1) (by omega) ?_)
            rw [amtF_same (w := wC D T) (rm := rmC D a) (rm' := fun _ => D (a + 4) t) (wsame t (by omega)) rfl]
            have eA : amtF (wC D T) (rmC D a) t X = A := by rw [eau, eb]
            rw [eA]
            refine s_is10 rfl rfl ?_
            refine s_al0 rfl ?_
            refine s_al8 rfl ?_
            refine s_il6 rfl ?_
            refine s_ic rfl ?_
            refine s_imul rfl ⟨by omega, by omega⟩ ?_
            rw [Int.mul_comm]
            refine s_il10 rfl ?_
            refine s_callO rfl rfl (Or.inl rfl) rfl rfl (hk.at rfl rfl) (v_payParts hk hT hwD1 ht (by omega) (fun j hj => f5 t j ht hj) (fun q hq => by rw [f4 q hq.1 hq.2]; have := foF_in (h := q) hw f6; omega) (fun D2 hD2 => ?_))
            rw [pdF_same (wsame t (by omega)), hPd]
            exact last D2 hD2
          refine s_il7 rfl ?_
          refine s_ic rfl ?_
          refine s_cge rfl ?_ ?_
          · intro h31
            omega
          · intro h31
            refine s_il6 rfl ?_
            refine s_zlt rfl ?_ ?_
            · intro h36
              omega
            · intro h36
              refine s_il6 rfl ?_
              refine s_al2 rfl ?_
              refine s_gi rfl (KT hk hT) rfl ?_
              rw [wT1]
              refine s_cge rfl ?_ ?_
              · intro h45
                omega
              · intro h45
                refine s_al2 rfl ?_
                refine s_gf rfl (KT hk hT) rfl rfl ?_
                refine s_il6 rfl ?_
                refine s_aaldT rfl (KTa hk hT).1 (by omega) (by rw [Int.toNat_natCast, List.getElem?_map, List.getElem?_range (by omega)]; rfl) ?_
                refine s_as8 rfl rfl ?_
                refine s_al1 rfl ?_
                refine s_il6 rfl ?_
                refine s_callO rfl rfl (Or.inl rfl) rfl rfl k0 (v_isPaying ha ?_)
                rw [w0, if_pos hpay']
                refine s_zeq rfl ?_ ?_
                · intro h63
                  exact absurd h63 (by decide)
                · intro h63
                  refine s_al8 rfl ?_
                  refine s_gz rfl q1 rfl ?_
                  rw [wt, ← x2]
                  refine s_zeq rfl ?_ ?_
                  · intro h71
                    refine s_il4 rfl ?_
                    have e73 : V G l (d + 2) iX6_passOn 81 _ _ _ P := based u9 u10 u11
                    rw [eb] at e73
                    first | (rw [if_pos h71] at e73; exact e73) | (rw [if_neg h71] at e73; exact e73)
                  · intro h71
                    refine s_il5 rfl ?_
                    refine s_go rfl ?_
                    have e73 : V G l (d + 2) iX6_passOn 81 _ _ _ P := based u9 u10 u11
                    rw [eb] at e73
                    first | (rw [if_pos h71] at e73; exact e73) | (rw [if_neg h71] at e73; exact e73)
        · have hpay' : ¬ bAnd (bShr (D a 5) t) 1 = 1 := fun q => hpay (decide_eq_true q)
          have ehs : hsC D T a h (t + 1) = hsC D T a h t := hsF_skip (fun q => hpay q.2)
          rw [ehs] at follow
          have hP2 : PoD D T a nt h (t + 1) D1 := ⟨f1, fun s hs hsp => f2 s hs ⟨by
            rcases (by omega : s < t ∨ s = t) with q | q
            · exact q
            · rw [q] at hsp; exact absurd hsp.2.2 hpay, hsp.2⟩, fun s hsn => f3 s (fun q => hsn ⟨by omega, q.2⟩), f4, f5, f6⟩
          refine s_il7 rfl ?_
          refine s_ic rfl ?_
          refine s_cge rfl ?_ ?_
          · intro h31
            omega
          · intro h31
            refine s_il6 rfl ?_
            refine s_zlt rfl ?_ ?_
            · intro h36
              omega
            · intro h36
              refine s_il6 rfl ?_
              refine s_al2 rfl ?_
              refine s_gi rfl (KT hk hT) rfl ?_
              rw [wT1]
              refine s_cge rfl ?_ ?_
              · intro h45
                omega
              · intro h45
                refine s_al2 rfl ?_
                refine s_gf rfl (KT hk hT) rfl rfl ?_
                refine s_il6 rfl ?_
                refine s_aaldT rfl (KTa hk hT).1 (by omega) (by rw [Int.toNat_natCast, List.getElem?_map, List.getElem?_range (by omega)]; rfl) ?_
                refine s_as8 rfl rfl ?_
                refine s_al1 rfl ?_
                refine s_il6 rfl ?_
                refine s_callO rfl rfl (Or.inl rfl) rfl rfl k0 (v_isPaying ha ?_)
                rw [w0, if_neg hpay']
                refine s_zeq rfl ?_ ?_
                · intro h63
                  exact follow D1 u9 u10 u11 hP2 t9 t10
                · intro h63
                  exact absurd rfl h63
      · have e0 : nxT (wC D T) h (n + 1) t = nxT (wC D T) h n (t + 1) := by rw [nxT, if_neg hown]
        have ehs : hsC D T a h (t + 1) = hsC D T a h t := hsF_skip (fun q => hown q.1)
        rw [e0, ← ehs]
        obtain ⟨f1, f2, f3, f4, f5, f6⟩ := hP
        refine ih (t + 1) i D1 u8 u9 u10 u11 (by omega) h2 (by omega) ⟨f1, fun s hs hsp => f2 s hs ⟨?_, hsp.2⟩, fun s hsn => f3 s (fun q => hsn ⟨by omega, q.2⟩), f4, f5, f6⟩ t8 t9 t10
        rcases (by omega : s < t ∨ s = t) with q | q
        · exact q
        · rw [q] at hsp; exact absurd hsp.2.1 hown
  refine VM_go (tg2 rfl) (Nat.le_of_ble_eq_true rfl) ?_
  refine s_al1 rfl ?_
  refine s_gf rfl k0 rfl rfl ?_
  refine s_il3 rfl ?_
  refine s_iald rfl k2 (by omega) ?_
  refine s_is4 rfl rfl ?_
  refine s_al1 rfl ?_
  refine s_gf rfl k0 rfl rfl ?_
  refine s_il3 rfl ?_
  refine s_iald rfl k1 (by omega) ?_
  refine s_is5 rfl rfl ?_
  refine s_al2 rfl ?_
  refine s_gf rfl (KT hk hT) rfl rfl ?_
  refine s_il3 rfl ?_
  refine s_iald rfl (KTa hk hT).2.1 (by omega) ?_
  rw [hc.1 h hh.1 hh.2]
  refine s_is6 rfl rfl ?_
  refine s_ic rfl ?_
  refine s_is7 rfl rfl ?_
  exact loop nt 0 0 D _ _ _ _ (by omega) (by omega) (by omega) h0 rfl rfl rfl
end
