/-! ===== solve: the class ===== -/
/-- the treaty's numbers by the gross g -/
def TrG (D : Nat → Int → Int) (T a : Nat) (g : Int → Int) (D' : Nat → Int → Int) (s : Nat) : Prop := D' (a + 5) s = bsF (wC D T) (rmC D a) (payC D a) (D (a + 1)) g s ∧ D' (a + 6) s = (if wC D T s 1 = 0 then pdF (wC D T) s (auF (wC D T) (rmC D a) (payC D a) (D (a + 1)) g s) else auF (wC D T) (rmC D a) (payC D a) (D (a + 1)) g s) ∧ D' (a + 7) s = pdF (wC D T) s (auF (wC D T) (rmC D a) (payC D a) (D (a + 1)) g s) ∧ ∀ i : Nat, (i : Int) < wC D T s 7 → D' 107 (11 * s + i) = prt (auF (wC D T) (rmC D a) (payC D a) (D (a + 1)) g s) (wC D T s (200 + i))
/-- house h's numbers are those of the gross g -/
def HcG (D : Nat → Int → Int) (T a nt : Nat) (g : Int → Int) (D' : Nat → Int → Int) (h : Int) : Prop := D' (a + 3) h = (hsF (wC D T) (rmC D a) (payC D a) (D (a + 1)) g h nt).1 ∧ ∀ s : Nat, s < nt → wC D T s 0 = h → payC D a s = true → TrG D T a g D' s
def SoI (D : Nat → Int → Int) (T a nt : Nat) (g : Int → Int) (D' : Nat → Int → Int) : Prop :=
  (∀ r, r ≠ 105 → r ≠ 106 → r ≠ 107 → r ≠ a + 2 → r ≠ a + 3 → r ≠ a + 5 → r ≠ a + 6 → r ≠ a + 7 → D' r = D r) ∧ (∀ h : Nat, h < 12 → D' (a + 2) h = g h) ∧
  (∀ h' : Int, 0 ≤ h' → h' < 12 → D' 105 h' = foF (wC D T) (D' 107) nt h') ∧ (∀ s i : Nat, s < nt → i < 11 → 0 ≤ D' 107 (11 * s + i) ∧ D' 107 (11 * s + i) ≤ 20000000) ∧ QOk (wC D T) nt (D' 107) ∧
  (∀ s : Nat, s < 24 → ¬ (s < nt ∧ payC D a s = true) → D' (a + 5) s = 0 ∧ D' (a + 6) s = 0 ∧ D' (a + 7) s = 0 ∧ ∀ i : Nat, i < 11 → D' 107 (11 * s + i) = 0) ∧ (∀ h : Nat, h < 12 → D' 106 h = 0 ∨ D' 106 h = 1) ∧ ∀ h : Nat, h < 12 → D T 0 ≤ h → D' (a + 3) h = 0
/-- behind solve: R rounds, e if endless, the gross g -/
def SoD (D : Nat → Int → Int) (T a nt R : Nat) (e : Bool) (g : Int → Int) (D' : Nat → Int → Int) : Prop :=
  (∀ r, r ≠ a → r ≠ 105 → r ≠ 106 → r ≠ 107 → r ≠ a + 2 → r ≠ a + 3 → r ≠ a + 5 → r ≠ a + 6 → r ≠ a + 7 → D' r = D r) ∧ (∀ j : Int, j ≠ 6 → j ≠ 7 → D' a j = D a j) ∧ D' a 6 = R ∧ D' a 7 = (if e = true then 1 else 0) ∧
  (e = true → (∀ h : Int, 0 ≤ h ∧ h < 12 → D' (a + 2) h = D (a + 1) h ∧ D' (a + 3) h = D (a + 1) h) ∧ ∀ t : Int, 0 ≤ t ∧ t < 24 → D' (a + 5) t = 0 ∧ D' (a + 6) t = 0 ∧ D' (a + 7) t = 0) ∧
  (e = false → (∀ h : Nat, h < 12 → D' (a + 2) h = g h ∧ D' (a + 3) h = (hsF (wC D T) (rmC D a) (payC D a) (D (a + 1)) g h nt).1) ∧ (∀ s : Nat, s < nt → payC D a s = true → D' (a + 5) s = bsF (wC D T) (rmC D a) (payC D a) (D (a + 1)) g s ∧ D' (a + 6) s = (if wC D T s 1 = 0 then pdF (wC D T) s (auF (wC D T) (rmC D a) (payC D a) (D (a + 1)) g s) else auF (wC D T) (rmC D a) (payC D a) (D (a + 1)) g s) ∧ D' (a + 7) s = pdF (wC D T) s (auF (wC D T) (rmC D a) (payC D a) (D (a + 1)) g s)) ∧ ∀ s : Nat, s < 24 → ¬ (s < nt ∧ payC D a s = true) → D' (a + 5) s = 0 ∧ D' (a + 6) s = 0 ∧ D' (a + 7) s = 0)
theorem hsF_none {w : WT} {rm : Nat → Int} {pay : Nat → Bool} {d g : Int → Int} {h : Int} {n : Nat} (hn : ∀ t, t < n → w t 0 ≠ h) : hsF w rm pay d g h n = (g h, d h) := by
  induction n with
  | zero => rfl
  | succ n ih => rw [hsF, if_neg (fun q => hn n (by omega) q.1), ih (fun t ht => hn t (by omega))]
theorem nxF_none {w : WT} {rm : Nat → Int} {pay : Nat → Bool} {d g : Int → Int} {h nh : Int} {nt : Nat} (hw : wOk w nt nh) (hh : nh ≤ h) : nxF w rm pay d g nt h = d h := by
  unfold nxF
  have e : sumF (fun t => if pay t = true then ptF w t h (auF w rm pay d g t) (w t 7).toNat else 0) nt = 0 := by
    rw [sumF_congr (g := fun _ => 0) (fun t ht => ?_), sumF_zero]
    obtain ⟨-, -, -, -, h7, hp, -⟩ := hw.2.2.2 t ht
    have e2 : ptF w t h (auF w rm pay d g t) (w t 7).toNat = 0 := by
      unfold ptF
      rw [sumF_congr (g := fun _ => 0) (fun i hi => ?_), sumF_zero]
      have := (hp i (by omega)).1
      rw [if_neg (by omega)]
    rw [e2]
    split <;> rfl
  rw [e]
  omega
section
variable {G : aCX} {l : Launch} {d : Nat} {K : Nat → aKd} {D : Nat → Int → Int} {z : Nat × Nat} {P : Int → aSt → Prop}
theorem v_solve {T a nt : Nat} (hk : Kn K) (hT : isT T) (ha : Kh K a) (hw : wOk (wC D T) nt (D T 0)) (hnT : D T 1 = (nt : Int)) (hc : ChT D T nt (D T 0)) (hr : ∀ t, t < nt → 0 ≤ D (a + 4) t) (hd : ∀ i : Nat, i < 12 → 0 ≤ D (a + 1) i ∧ D (a + 1) i ≤ 6000000) (hd0 : ∀ i : Nat, i < 12 → D T 0 ≤ i → D (a + 1) i = 0) (kk : ∀ D', SoD D T a nt (slF (wC D T) (rmC D a) (payC D a) (D (a + 1)) nt 2000 0 (D (a + 1))).1 (slF (wC D T) (rmC D a) (payC D a) (D (a + 1)) nt 2000 0 (D (a + 1))).2.1 (slF (wC D T) (rmC D a) (payC D a) (D (a + 1)) nt 2000 0 (D (a + 1))).2.2 D' → P 0 (K, D', z)) : VM G l (d + 3) iX6_solve [rf 104, rf a, rf T] (K, D, z) P := by
  have hT2 : T = 8 ∨ T = 129 := hT
  have n24 := hw.1
  have nh0 := hw.2.1
  have nh12 := hw.2.2.1
  obtain ⟨ha0, k0, k1, k2, k3, k4, k5, k6, k7, k8, k9⟩ := id ha
  obtain ⟨nh, hnh⟩ : ∃ n : Nat, D T 0 = n := ⟨(D T 0).toNat, by omega⟩
  rw [hnh] at hw hc hd0 nh0 nh12
  have nh12' : nh ≤ 12 := by omega
  have ends : ∀ (R : Nat) (e : Bool) (g : Int → Int) (D1 : Nat → Int → Int) (b : Int) (u4 u6 : aTV), R ≤ 2000 → b = (if e = true then 1 else 0) → SoI D T a nt g D1 → (e = false → (∀ h : Nat, h < nh → HcG D T a nt g D1 h) ∧ ∀ h : Nat, h < 12 → nh ≤ h → g h = 0) → (∀ D', SoD D T a nt R e g D' → P 0 (K, D', z)) → V G l (d + 3) iX6_solve 153 [rf 104, rf a, rf T, (0, b), u4, (0, (R : Int)), u6] [] (K, D1, z) P := by
    intro R e g D1 b u4 u6 hR hb hI hfin kk
    have hb01 : b = 0 ∨ b = 1 := by rw [hb]; split <;> omega
    obtain ⟨f1, f2, f3, f4, f5, f6, f7, f8⟩ := id hI
    have wa : D1 a = D a := f1 a (by omega) (by omega) (by omega) (by omega) (by omega) (by omega) (by omega) (by omega)
    have w1 : D1 (a + 1) = D (a + 1) := f1 _ (by omega) (by omega) (by omega) (by omega) (by omega) (by omega) (by omega) (by omega)
    have row1 : ∀ r : Nat, r ≠ a → aUp (aUp D1 a 6 R) a 7 b r = D1 r := fun r hr => by rw [aUp_row hr, aUp_row hr]
    have rowa : ∀ j : Int, j ≠ 6 → j ≠ 7 → aUp (aUp D1 a 6 R) a 7 b a j = D a j := fun j h1 h2 => by rw [aUp_same, uF_ne h2, aUp_same, uF_ne h1, wa]
    have ra6 : aUp (aUp D1 a 6 R) a 7 b a 6 = R := by rw [aUp_same, uF_ne (by decide), aUp_same, uF_at]
    have ra7 : aUp (aUp D1 a 6 R) a 7 b a 7 = (if e = true then 1 else 0) := by rw [aUp_same, uF_at, hb]
    refine s_al1 rfl ?_
    refine s_il5 rfl ?_
    refine s_pi rfl k0 rfl ?_
    refine s_al1 rfl ?_
    refine s_il3 rfl ?_
    refine s_pz rfl k0 rfl hb01 ?_
    refine s_il3 rfl ?_
    refine s_zeq rfl ?_ ?_
    · intro h165
      have he : e = false := by
        cases e with
        | false => rfl
        | true => rw [hb] at h165; cases h165
      refine s_retv rfl rfl ?_
      first
      | (obtain ⟨c1, c2⟩ := hfin he
         refine kk _ ⟨fun r g1 g2 g3 g4 g5 g6 g7 g8 g9 => ?_, rowa, ra6, ra7, fun q => absurd q (by rw [he]; decide), fun _ => ⟨fun h hh => ⟨?_, ?_⟩, fun s hs hp => ?_, fun s hs hn => ?_⟩⟩
         · rw [row1 r g1]; exact f1 r g2 g3 g4 g5 g6 g7 g8 g9
         · rw [row1 _ (by omega)]; exact f2 h hh
         · rw [row1 _ (by omega)]
           rcases (by omega : h < nh ∨ nh ≤ h) with q | q
           · exact (c1 h q).1
           · rw [hsF_none (fun t ht => by have := (hw.2.2.2 t ht).1; omega), f8 h hh (by omega)]; exact (c2 h hh q).symm
         · have ho := (hw.2.2.2 s hs).1
           obtain ⟨m, hm⟩ : ∃ m : Nat, wC D T s 0 = m := ⟨(wC D T s 0).toNat, by omega⟩
           obtain ⟨t1, t2, t3, -⟩ := (c1 m (by omega)).2 s hs hm hp
           rw [row1 _ (by omega), row1 _ (by omega), row1 _ (by omega)]
           exact ⟨t1, t2, t3⟩
         · obtain ⟨t1, t2, t3, -⟩ := f6 s hs hn
           rw [row1 _ (by omega), row1 _ (by omega), row1 _ (by omega)]
           exact ⟨t1, t2, t3⟩)
      | (obtain ⟨p1, p2, p3⟩ := hD2
         refine kk _ ⟨fun r g1 g2 g3 g4 g5 g6 g7 g8 g9 => ?_, fun j j1 j2 => ?_, ?_, ?_, fun _ => ⟨fun h hh => ?_, p3⟩, fun q => absurd q (by rw [he]; decide)⟩
         · rw [p1 r g5 g6 g7 g8 g9, row1 r g1]; exact f1 r g2 g3 g4 g5 g6 g7 g8 g9
         · rw [p1 a (by omega) (by omega) (by omega) (by omega) (by omega)]; exact rowa j j1 j2
         · rw [p1 a (by omega) (by omega) (by omega) (by omega) (by omega)]; exact ra6
         · rw [p1 a (by omega) (by omega) (by omega) (by omega) (by omega)]; exact ra7
         · have := p2 h hh
           rw [row1 _ (by omega), w1] at this
           exact this)
    · intro h165
      have he : e = true := by
        cases e with
        | true => rfl
        | false => exact absurd hb h165
      refine s_al1 rfl ?_
      refine s_callO rfl rfl (Or.inl rfl) rfl rfl k0 (v_payNothing ha (fun D2 hD2 => ?_))
      refine s_retv rfl rfl ?_
      first
      | (obtain ⟨c1, c2⟩ := hfin he
         refine kk _ ⟨fun r g1 g2 g3 g4 g5 g6 g7 g8 g9 => ?_, rowa, ra6, ra7, fun q => absurd q (by rw [he]; decide), fun _ => ⟨fun h hh => ⟨?_, ?_⟩, fun s hs hp => ?_, fun s hs hn => ?_⟩⟩
         · rw [row1 r g1]; exact f1 r g2 g3 g4 g5 g6 g7 g8 g9
         · rw [row1 _ (by omega)]; exact f2 h hh
         · rw [row1 _ (by omega)]
           rcases (by omega : h < nh ∨ nh ≤ h) with q | q
           · exact (c1 h q).1
           · rw [hsF_none (fun t ht => by have := (hw.2.2.2 t ht).1; omega), f8 h hh (by omega)]; exact (c2 h hh q).symm
         · have ho := (hw.2.2.2 s hs).1
           obtain ⟨m, hm⟩ : ∃ m : Nat, wC D T s 0 = m := ⟨(wC D T s 0).toNat, by omega⟩
           obtain ⟨t1, t2, t3, -⟩ := (c1 m (by omega)).2 s hs hm hp
           rw [row1 _ (by omega), row1 _ (by omega), row1 _ (by omega)]
           exact ⟨t1, t2, t3⟩
         · obtain ⟨t1, t2, t3, -⟩ := f6 s hs hn
           rw [row1 _ (by omega), row1 _ (by omega), row1 _ (by omega)]
           exact ⟨t1, t2, t3⟩)
      | (obtain ⟨p1, p2, p3⟩ := hD2
         refine kk _ ⟨fun r g1 g2 g3 g4 g5 g6 g7 g8 g9 => ?_, fun j j1 j2 => ?_, ?_, ?_, fun _ => ⟨fun h hh => ?_, p3⟩, fun q => absurd q (by rw [he]; decide)⟩
         · rw [p1 r g5 g6 g7 g8 g9, row1 r g1]; exact f1 r g2 g3 g4 g5 g6 g7 g8 g9
         · rw [p1 a (by omega) (by omega) (by omega) (by omega) (by omega)]; exact rowa j j1 j2
         · rw [p1 a (by omega) (by omega) (by omega) (by omega) (by omega)]; exact ra6
         · rw [p1 a (by omega) (by omega) (by omega) (by omega) (by omega)]; exact ra7
         · have := p2 h hh
           rw [row1 _ (by omega), w1] at this
           exact this)
  have loop : ∀ (n R : Nat) (g : Int → Int) (D1 : Nat → Int → Int) (u6 : aTV), R + n = 2000 → SoI D T a nt g D1 → (∀ h : Nat, h < nh → D1 106 h = 0 → HcG D T a nt g D1 h) → (∀ h : Nat, h < 12 → D (a + 1) h ≤ g h ∧ g h ≤ 20000000) → (∀ h : Nat, h < 12 → nh ≤ h → g h = 0) → (∀ D', SoD D T a nt (slF (wC D T) (rmC D a) (payC D a) (D (a + 1)) nt n R g).1 (slF (wC D T) (rmC D a) (payC D a) (D (a + 1)) nt n R g).2.1 (slF (wC D T) (rmC D a) (payC D a) (D (a + 1)) nt n R g).2.2 D' → P 0 (K, D', z)) → V G l (d + 3) iX6_solve 62 [rf 104, rf a, rf T, (0, 1), (0, 0), (0, (R : Int)), u6] [] (K, D1, z) P := by
    intro n
    induction n with
    | zero =>
      intro R g D1 u6 h1 hI hc1 hg hg0 kk
      refine s_il5 rfl ?_
      refine s_ic rfl ?_
      refine s_cge rfl ?_ ?_
      · intro h67
        exact ends R true g D1 1 _ _ (by omega) rfl hI (fun q => by cases q) kk
      · intro h67
        omega
    | succ n ih =>
      intro R g D1 u6 h1 hI hc1 hg hg0 kk
      have esl : slF (wC D T) (rmC D a) (payC D a) (D (a + 1)) nt (n + 1) R g = if chB g (nxF (wC D T) (rmC D a) (payC D a) (D (a + 1)) g nt) 12 = true then (if bgB (nxF (wC D T) (rmC D a) (payC D a) (D (a + 1)) g nt) 12 = true then (R + 1, true, nxF (wC D T) (rmC D a) (payC D a) (D (a + 1)) g nt) else slF (wC D T) (rmC D a) (payC D a) (D (a + 1)) nt n (R + 1) (nxF (wC D T) (rmC D a) (payC D a) (D (a + 1)) g nt)) else (R + 1, false, nxF (wC D T) (rmC D a) (payC D a) (D (a + 1)) g nt) := rfl
      have hdg : ∀ h : Int, 0 ≤ h → h < nh → 0 ≤ D (a + 1) h ∧ D (a + 1) h ≤ g h := fun h g1 g2 => by
        have e := Int.toNat_of_nonneg g1
        have q1 := hd h.toNat (by omega)
        have q2 := hg h.toNat (by omega)
        rw [e] at q1 q2
        exact ⟨q1.1, q2.1⟩
      have hnx : ∀ h : Int, D (a + 1) h ≤ nxF (wC D T) (rmC D a) (payC D a) (D (a + 1)) g nt h ∧ nxF (wC D T) (rmC D a) (payC D a) (D (a + 1)) g nt h ≤ D (a + 1) h + 24 * 20000000 := fun h => nxF_in hw hr hdg (fun q g1 g2 => by
        have e := Int.toNat_of_nonneg g1
        have q2 := hg q.toNat (by omega)
        rw [e] at q2
        exact q2.2) (by decide)
      have round : ∀ (D2 : Nat → Int → Int) (u6 : aTV), SoI D T a nt g D2 → (∀ h : Nat, h < nh → HcG D T a nt g D2 h) → V G l (d + 3) iX6_solve 118 [rf 104, rf a, rf T, (0, 1), (0, 0), (0, (R : Int) + 1), u6] [] (K, D2, z) P := by
        intro D2 u6 hI hc2
        obtain ⟨f1, f2, f3, f4, f5, f6, f7, f8⟩ := id hI
        have wT : D2 T = D T := f1 T (by omega) (by omega) (by omega) (by omega) (by omega) (by omega) (by omega) (by omega)
        have w1 : D2 (a + 1) = D (a + 1) := f1 _ (by omega) (by omega) (by omega) (by omega) (by omega) (by omega) (by omega) (by omega)
        have hfo : ∀ h : Int, 0 ≤ h → h < 12 → D (a + 1) h + D2 105 h = nxF (wC D T) (rmC D a) (payC D a) (D (a + 1)) g nt h := fun h g1 g2 => by
          rw [f3 h g1 g2]
          unfold nxF foF
          congr 1
          refine sumF_congr fun t ht => ?_
          obtain ⟨ho, -, -, -, h7, hp, -⟩ := hw.2.2.2 t ht
          by_cases hpay : payC D a t = true
          · rw [if_pos hpay]
            obtain ⟨m, hm⟩ : ∃ m : Nat, wC D T t 0 = m := ⟨(wC D T t 0).toNat, by omega⟩
            obtain ⟨-, -, -, t4⟩ := (hc2 m (by omega)).2 t ht hm hpay
            unfold ptF
            exact sumF_congr fun i hi => by rw [t4 i (by omega)]
          · rw [if_neg hpay]
            obtain ⟨-, -, -, t4⟩ := f6 t (by omega) (fun q => hpay q.2)
            rw [sumF_congr (g := fun _ => 0) (fun i hi => ?_), sumF_zero]
            rw [t4 i (by omega)]
            split <;> rfl
        have hf : ∀ i : Nat, i < 12 → 0 ≤ D2 105 i ∧ D2 105 i ≤ 480000000 := fun i hi => by rw [f3 i (by omega) (by omega)]; exact foF_in hw f5
        have e12 : chB (D2 (a + 2)) (fun i => D2 (a + 1) i + D2 105 i) nh = chB g (nxF (wC D T) (rmC D a) (payC D a) (D (a + 1)) g nt) 12 := by
          rw [chB_congr (f1 := g) (f2 := nxF (wC D T) (rmC D a) (payC D a) (D (a + 1)) g nt) (fun k hk => f2 k (by omega)) (fun k hk => by rw [w1]; exact hfo k (by omega) (by omega))]
          refine chB_ext (fun k h1 h2 => ?_) nh12'
          rw [nxF_none hw (by omega), hg0 k h2 h1]
          exact hd0 k h2 (by omega)
        have after : ∀ D3, ToD a D2 nh D3 → V G l (d + 3) iX6_solve 127 [rf 104, rf a, rf T, (0, 1), (0, 0), (0, (R : Int) + 1), u6] [(0, if chB g (nxF (wC D T) (rmC D a) (payC D a) (D (a + 1)) g nt) 12 = true then 1 else 0)] (K, D3, z) P := by
          intro D3 hD3
          obtain ⟨t1, t2, t3⟩ := id hD3
          have wT3 : D3 T = D T := by rw [t1 T (by omega) (by omega)]; exact wT
          have hI3 : SoI D T a nt (nxF (wC D T) (rmC D a) (payC D a) (D (a + 1)) g nt) D3 := by
            refine ⟨fun r g1 g2 g3 g4 g5 g6 g7 g8 => ?_, fun h hh => ?_, fun h' g1 g2 => ?_, fun s i hs hi => ?_, ?_, fun s hs hn => ?_, fun h hh => ?_, fun h hh g1 => ?_⟩
            · rw [t1 r g2 g4]; exact f1 r g1 g2 g3 g4 g5 g6 g7 g8
            · rcases (by omega : h < nh ∨ nh ≤ h) with q | q
              · rw [(t2 h q).2, w1]; exact hfo h (by omega) (by omega)
              · rw [(t3 h q).2, f2 h hh, nxF_none hw (by omega), hg0 h hh q]; exact (hd0 h hh (by omega)).symm
            · rw [t1 105 (by omega) (by omega), t1 107 (by omega) (by omega)]; exact f3 h' g1 g2
            · rw [t1 107 (by omega) (by omega)]; exact f4 s i hs hi
            · rw [t1 107 (by omega) (by omega)]; exact f5
            · rw [t1 107 (by omega) (by omega), t1 (a + 5) (by omega) (by omega), t1 (a + 6) (by omega) (by omega), t1 (a + 7) (by omega) (by omega)]; exact f6 s hs hn
            · rcases (by omega : h < nh ∨ nh ≤ h) with q | q
              · rw [(t2 h q).1]; split <;> omega
              · rw [(t3 h q).1]; exact f7 h hh
            · rw [t1 (a + 3) (by omega) (by omega)]; exact f8 h hh g1
          have still : ∀ h : Nat, h < nh → nxF (wC D T) (rmC D a) (payC D a) (D (a + 1)) g nt h = g h → HcG D T a nt (nxF (wC D T) (rmC D a) (payC D a) (D (a + 1)) g nt) D3 h := fun h hh he => by
            obtain ⟨c1, c2⟩ := hc2 h hh
            refine ⟨?_, fun s hs ho hp => ?_⟩
            · rw [t1 (a + 3) (by omega) (by omega), c1]
              exact congrArg Prod.fst (hsF_congr (fun _ _ => ⟨rfl, rfl, rfl⟩) rfl he.symm)
            · obtain ⟨x1, x2, x3, x4⟩ := c2 s hs ho hp
              have eb : bsF (wC D T) (rmC D a) (payC D a) (D (a + 1)) (nxF (wC D T) (rmC D a) (payC D a) (D (a + 1)) g nt) s = bsF (wC D T) (rmC D a) (payC D a) (D (a + 1)) g s := bsF_congr (fun _ _ => ⟨rfl, rfl, rfl⟩) rfl (by rw [ho]; exact he)
              have ea : auF (wC D T) (rmC D a) (payC D a) (D (a + 1)) (nxF (wC D T) (rmC D a) (payC D a) (D (a + 1)) g nt) s = auF (wC D T) (rmC D a) (payC D a) (D (a + 1)) g s := auF_congr (fun _ _ => ⟨rfl, rfl, rfl⟩) rfl (by rw [ho]; exact he)
              unfold TrG
              rw [eb, ea, t1 (a + 5) (by omega) (by omega), t1 (a + 6) (by omega) (by omega), t1 (a + 7) (by omega) (by omega), t1 107 (by omega) (by omega)]
              exact ⟨x1, x2, x3, x4⟩
          have hg0' : ∀ h : Nat, h < 12 → nh ≤ h → nxF (wC D T) (rmC D a) (payC D a) (D (a + 1)) g nt h = 0 := fun h hh q => by rw [nxF_none hw (by omega)]; exact hd0 h hh (by omega)
          by_cases hch : chB g (nxF (wC D T) (rmC D a) (payC D a) (D (a + 1)) g nt) 12 = true
          · rw [if_pos hch] at esl ⊢
            have e13 : bgB (D3 (a + 2)) nh = bgB (nxF (wC D T) (rmC D a) (payC D a) (D (a + 1)) g nt) 12 := by
              rw [bgB_congr (f1 := nxF (wC D T) (rmC D a) (payC D a) (D (a + 1)) g nt) (fun k hk => hI3.2.1 k (by omega))]
              exact bgB_ext (fun k h1 h2 => by rw [hg0' k h2 h1]; decide) nh12'
            by_cases hbg : bgB (nxF (wC D T) (rmC D a) (payC D a) (D (a + 1)) g nt) 12 = true
            · rw [if_pos hbg] at esl
              rw [esl] at kk
              refine s_is3 rfl rfl ?_
              refine s_il3 rfl ?_
              refine s_zeq rfl ?_ ?_
              · intro h129
                exact absurd h129 (by decide)
              · intro h129
                refine s_al1 rfl ?_
                refine s_al2 rfl ?_
                refine s_gi rfl (KT hk hT) rfl ?_
                rw [wT3, hnh]
                refine s_callS rfl rfl rfl rfl (v_isTooMuch ha nh12' ?_)
                rw [e13, if_pos hbg]
                refine s_zeq rfl ?_ ?_
                · intro h140
                  exact absurd h140 (by decide)
                · intro h140
                  refine s_ic rfl ?_
                  refine s_go rfl ?_
                  refine s_is4 rfl rfl ?_
                  refine s_go rfl ?_
                  refine s_il5 rfl ?_
                  refine s_ic rfl ?_
                  refine s_cge rfl ?_ ?_
                  · intro h67
                    exact ends (R + 1) true _ D3 1 _ _ (by omega) rfl hI3 (fun q => by cases q) kk
                  · intro h67
                    refine s_il3 rfl ?_
                    refine s_zeq rfl ?_ ?_
                    · intro h71
                      exact absurd h71 (by decide)
                    · intro h71
                      refine s_il4 rfl ?_
                      refine s_zne rfl ?_ ?_
                      · intro h76
                        exact ends (R + 1) true _ D3 1 _ _ (by omega) rfl hI3 (fun q => by cases q) kk
                      · intro h76
                        exact absurd h76 (by decide)
            · rw [if_neg hbg] at esl
              rw [esl] at kk
              refine s_is3 rfl rfl ?_
              refine s_il3 rfl ?_
              refine s_zeq rfl ?_ ?_
              · intro h129
                exact absurd h129 (by decide)
              · intro h129
                refine s_al1 rfl ?_
                refine s_al2 rfl ?_
                refine s_gi rfl (KT hk hT) rfl ?_
                rw [wT3, hnh]
                refine s_callS rfl rfl rfl rfl (v_isTooMuch ha nh12' ?_)
                rw [e13, if_neg hbg]
                refine s_zeq rfl ?_ ?_
                · intro h140
                  refine s_ic rfl ?_
                  refine s_is4 rfl rfl ?_
                  refine s_go rfl ?_
                  refine ih (R + 1) _ D3 _ (by omega) hI3 (fun h hh hm => still h hh ?_) (fun h hh => ⟨(hnx h).1, ?_⟩) hg0' kk
                  · have hq := (t2 h hh).1
                    rw [hm] at hq
                    have hq2 : D2 (a + 1) h + D2 105 h = D2 (a + 2) h := Decidable.byContradiction fun q => by rw [if_neg q] at hq; cases hq
                    rw [w1, hfo h (by omega) (by omega), f2 h (by omega)] at hq2
                    exact hq2
                  · exact Decidable.byContradiction fun q => hbg (bgB_iff.mpr ⟨h, hh, by omega⟩)
                · intro h140
                  exact absurd rfl h140
          · rw [if_neg hch] at esl ⊢
            rw [esl] at kk
            have hall : ∀ h : Nat, h < nh → nxF (wC D T) (rmC D a) (payC D a) (D (a + 1)) g nt h = g h := fun h hh => Decidable.byContradiction fun q => hch (chB_iff.mpr ⟨h, by omega, q⟩)
            refine s_is3 rfl rfl ?_
            refine s_il3 rfl ?_
            refine s_zeq rfl ?_ ?_
            · intro h129
              refine s_ic rfl ?_
              refine s_is4 rfl rfl ?_
              refine s_go rfl ?_
              refine s_il5 rfl ?_
              refine s_ic rfl ?_
              refine s_cge rfl ?_ ?_
              · intro h67
                exact ends (R + 1) false _ D3 0 _ _ (by omega) rfl hI3 (fun _ => ⟨fun h hh => still h hh (hall h hh), hg0'⟩) kk
              · intro h67
                refine s_il3 rfl ?_
                refine s_zeq rfl ?_ ?_
                · intro h71
                  exact ends (R + 1) false _ D3 0 _ _ (by omega) rfl hI3 (fun _ => ⟨fun h hh => still h hh (hall h hh), hg0'⟩) kk
                · intro h71
                  exact absurd rfl h71
            · intro h129
              exact absurd rfl h129
        refine s_al0 rfl ?_
        refine s_al1 rfl ?_
        refine s_al2 rfl ?_
        refine s_gi rfl (KT hk hT) rfl ?_
        rw [wT, hnh]
        refine s_callO rfl rfl (Or.inl rfl) rfl rfl (hk.at rfl rfl) (v_takeOver hk ha nh12' (by rw [w1]; exact hd) hf (fun D3 hD3 => ?_))
        rw [e12]
        exact after D3 hD3
      have inner : ∀ (m i : Nat) (D2 : Nat → Int → Int), i + m = nh → SoI D T a nt g D2 → (∀ h : Nat, h < nh → h < i ∨ D2 106 h = 0 → HcG D T a nt g D2 h) → V G l (d + 3) iX6_solve 85 [rf 104, rf a, rf T, (0, 1), (0, 0), (0, (R : Int) + 1), (0, (i : Int))] [] (K, D2, z) P := by
        intro m
        induction m with
        | zero =>
          intro i D2 h1 hI hc2
          have wT : D2 T = D T := hI.1 T (by omega) (by omega) (by omega) (by omega) (by omega) (by omega) (by omega) (by omega)
          refine s_il6 rfl ?_
          refine s_al2 rfl ?_
          refine s_gi rfl (KT hk hT) rfl ?_
          rw [wT, hnh]
          refine s_cge rfl ?_ ?_
          · intro h91
            exact round D2 _ hI (fun h hh => hc2 h hh (Or.inl (by omega)))
          · intro h91
            omega
        | succ m ihm =>
          intro i D2 h1 hI hc2
          obtain ⟨f1, f2, f3, f4, f5, f6, f7, f8⟩ := id hI
          have wT : D2 T = D T := f1 T (by omega) (by omega) (by omega) (by omega) (by omega) (by omega) (by omega) (by omega)
          have w0 : D2 a = D a := f1 _ (by omega) (by omega) (by omega) (by omega) (by omega) (by omega) (by omega) (by omega)
          have w1 : D2 (a + 1) = D (a + 1) := f1 _ (by omega) (by omega) (by omega) (by omega) (by omega) (by omega) (by omega) (by omega)
          have w4 : D2 (a + 4) = D (a + 4) := f1 _ (by omega) (by omega) (by omega) (by omega) (by omega) (by omega) (by omega) (by omega)
          have rows : ∀ r, r < 210 → r ≠ 105 → r ≠ 106 → r ≠ 107 → D2 r = D r := fun r g1 g2 g3 g4 => f1 r g2 g3 g4 (by omega) (by omega) (by omega) (by omega) (by omega)
          have wsame : ∀ s, s < 24 → wC D2 T s = wC D T s := fun s hs => by
            funext j
            unfold wC
            rw [rows _ (by omega) (by omega) (by omega) (by omega), rows _ (by omega) (by omega) (by omega) (by omega), rows _ (by omega) (by omega) (by omega) (by omega)]
          have hw2 : wOk (wC D2 T) nt nh := wOk_same (fun s hs => wsame s (by omega)) hw
          have nxsame : ∀ (h : Int) (m t : Nat), t + m ≤ 24 → nxT (wC D2 T) h m t = nxT (wC D T) h m t := by
            intro h m
            induction m with
            | zero => intro t _; rfl
            | succ m ihx => intro t ht; rw [nxT, nxT, wsame t (by omega), ihx (t + 1) (by omega)]
          have hc2' : ChT D2 T nt nh := ⟨fun h g1 g2 => by rw [rows _ (by omega) (by omega) (by omega) (by omega), nxsame h nt 0 (by omega)]; exact hc.1 h g1 g2, fun t ht => by rw [rows _ (by omega) (by omega) (by omega) (by omega), wsame t (by omega), nxsame _ _ _ (by omega)]; exact hc.2 t ht⟩
          have psame : ∀ s, payC D2 a s = payC D a s := fun s => by unfold payC; rw [w0]
          have cg : ∀ s, s < 24 → wC D2 T s = wC D T s ∧ rmC D2 a s = rmC D a s ∧ payC D2 a s = payC D a s := fun s hs => ⟨wsame s hs, by unfold rmC; rw [w4], psame s⟩
          have foSame : ∀ (q : Int → Int) (h : Int), foF (wC D2 T) q nt h = foF (wC D T) q nt h := fun q h => by
            unfold foF
            exact sumF_congr fun t ht => by rw [wsame t (by omega)]
          have qSame : ∀ q : Int → Int, QOk (wC D2 T) nt q ↔ QOk (wC D T) nt q := fun q => by
            constructor
            · intro h t ht; obtain ⟨am, g1, g2⟩ := h t ht; rw [wsame t (by omega)] at g2; exact ⟨am, g1, g2⟩
            · intro h t ht; obtain ⟨am, g1, g2⟩ := h t ht; rw [← wsame t (by omega)] at g2; exact ⟨am, g1, g2⟩
          have next : ∀ D2, SoI D T a nt g D2 → (∀ h : Nat, h < nh → h < i + 1 ∨ D2 106 h = 0 → HcG D T a nt g D2 h) → V G l (d + 3) iX6_solve 112 [rf 104, rf a, rf T, (0, 1), (0, 0), (0, (R : Int) + 1), (0, (i : Int))] [] (K, D2, z) P := by
            intro D2 hI hc2
            refine s_iinc6 rfl rfl ⟨by omega, by omega⟩ ?_
            refine s_go rfl ?_
            exact ihm (i + 1) D2 (by omega) hI hc2
          refine s_il6 rfl ?_
          refine s_al2 rfl ?_
          refine s_gi rfl (KT hk hT) rfl ?_
          rw [wT, hnh]
          refine s_cge rfl ?_ ?_
          · intro h91
            omega
          · intro h91
            refine s_al0 rfl ?_
            refine s_gf rfl (hk.at rfl rfl) rfl rfl ?_
            refine s_il6 rfl ?_
            refine s_bald rfl (hk.at rfl rfl) (by omega) ?_
            refine s_zeq rfl ?_ ?_
            · intro h101
              refine next D2 hI (fun h hh q => ?_)
              rcases q with q | q
              · rcases (by omega : h < i ∨ h = i) with q2 | q2
                · exact hc2 h hh (Or.inl q2)
                · exact hc2 h hh (Or.inr (by rw [q2]; exact h101))
              · exact hc2 h hh (Or.inr q)
            · intro h101
              refine s_al0 rfl ?_
              refine s_al1 rfl ?_
              refine s_al2 rfl ?_
              refine s_il6 rfl ?_
              refine s_callO rfl rfl (Or.inl rfl) rfl rfl (hk.at rfl rfl) (v_passOn hk hT ha hw2 (by rw [wT]; exact hnT) hc2' (by omega) (fun t ht => by rw [w4]; exact hr t ht) (fun q g1 g2 => ?_) ?_ (fun D3 hD3 => ?_))
              · have e := Int.toNat_of_nonneg g1
                have q1 := hd q.toNat (by omega)
                have q2 := hg q.toNat (by omega)
                have q3 := f2 q.toNat (by omega)
                rw [e] at q1 q2 q3
                rw [w1, q3]
                exact ⟨q1.1, q2.1, q2.2⟩
              · exact ⟨fun _ _ _ _ _ _ => rfl, fun s _ q => absurd q.1 (Nat.not_lt_zero s), fun s _ => ⟨rfl, rfl, rfl, fun _ _ => rfl⟩, fun h' g1 g2 => by rw [foSame]; exact f3 h' g1 g2, f4, (qSame _).mpr f5⟩
              obtain ⟨o1, o2, o3, o4, o5, o6⟩ := hD3
              have ehs : (hsC D2 T a i nt).1 = (hsF (wC D T) (rmC D a) (payC D a) (D (a + 1)) g i nt).1 := congrArg Prod.fst (hsF_congr (fun t ht => cg t (by omega)) (by rw [w1]) (f2 i (by omega)))
              rw [ehs]
              refine next _ ⟨fun r g1 g2 g3 g4 g5 g6 g7 g8 => ?_, fun h hh => ?_, fun h' g1 g2 => ?_, fun s j hs hj => ?_, ?_, fun s hs hn => ?_, fun h hh => ?_, fun h hh g1 => ?_⟩ (fun h hh q => ?_)
              · rw [aUp_row g5, o1 r g1 g3 g6 g7 g8]; exact f1 r g1 g2 g3 g4 g5 g6 g7 g8
              · rw [aUp_row (by omega), o1 _ (by omega) (by omega) (by omega) (by omega) (by omega)]; exact f2 h hh
              · rw [aUp_row (by omega), aUp_row (by omega), o4 h' g1 g2, foSame]
              · rw [aUp_row (by omega)]; exact o5 s j hs hj
              · rw [aUp_row (by omega)]; exact (qSame _).mp o6
              · obtain ⟨r1, r2, r3, r4⟩ := o3 s (fun q => hn ⟨q.1, by rw [← psame]; exact q.2.2⟩)
                obtain ⟨y1, y2, y3, y4⟩ := f6 s hs hn
                rw [aUp_row (by omega), aUp_row (by omega), aUp_row (by omega), aUp_row (by omega), r1, r2, r3]
                exact ⟨y1, y2, y3, fun j hj => by rw [r4 j hj]; exact y4 j hj⟩
              · rw [aUp_row (by omega), o1 _ (by omega) (by omega) (by omega) (by omega) (by omega)]; exact f7 h hh
              · rw [aUp_same, uF_ne (by omega), o1 _ (by omega) (by omega) (by omega) (by omega) (by omega)]; exact f8 h hh g1
              · rw [aUp_row (by omega), o1 106 (by omega) (by omega) (by omega) (by omega) (by omega)] at q
                by_cases hi : h = i
                · subst hi
                  refine ⟨by rw [aUp_same, uF_at], fun s hs ho hp => ?_⟩
                  obtain ⟨x1, x2, x3, x4⟩ := o2 s hs ⟨hs, by rw [wsame s (by omega)]; exact ho, by rw [psame]; exact hp⟩
                  have eb : bsC D2 T a s = bsF (wC D T) (rmC D a) (payC D a) (D (a + 1)) g s := bsF_congr (fun t ht => cg t (by omega)) (by rw [w1]) (by rw [ho]; exact f2 h (by omega))
                  have ea : auC D2 T a s = auF (wC D T) (rmC D a) (payC D a) (D (a + 1)) g s := auF_congr (fun t ht => cg t (by omega)) (by rw [w1]) (by rw [ho]; exact f2 h (by omega))
                  rw [eb] at x1
                  rw [ea, wsame s (by omega), pdF_same (wsame s (by omega))] at x2
                  rw [ea, pdF_same (wsame s (by omega))] at x3
                  rw [ea, wsame s (by omega)] at x4
                  unfold TrG
                  rw [aUp_row (by omega), aUp_row (by omega), aUp_row (by omega), aUp_row (by omega)]
                  exact ⟨x1, x2, x3, x4⟩
                · obtain ⟨c1, c2⟩ := hc2 h hh (by omega)
                  refine ⟨by rw [aUp_same, uF_ne (by omega), o1 _ (by omega) (by omega) (by omega) (by omega) (by omega)]; exact c1, fun s hs ho hp => ?_⟩
                  obtain ⟨x1, x2, x3, x4⟩ := c2 s hs ho hp
                  obtain ⟨r1, r2, r3, r4⟩ := o3 s (fun q => hi (by have := q.2.1; rw [wsame s (by omega), ho] at this; omega))
                  have h7 := (hw.2.2.2 s hs).2.2.2.2.1
                  unfold TrG
                  rw [aUp_row (by omega), aUp_row (by omega), aUp_row (by omega), aUp_row (by omega), r1, r2, r3]
                  exact ⟨x1, x2, x3, fun j hj => by rw [r4 j (by omega)]; exact x4 j hj⟩
      refine s_il5 rfl ?_
      refine s_ic rfl ?_
      refine s_cge rfl ?_ ?_
      · intro h67
        omega
      · intro h67
        refine s_il3 rfl ?_
        refine s_zeq rfl ?_ ?_
        · intro h71
          exact absurd h71 (by decide)
        · intro h71
          refine s_il4 rfl ?_
          refine s_zne rfl ?_ ?_
          · intro h76
            exact absurd rfl h76
          · intro h76
            refine s_iinc5 rfl rfl ⟨by omega, by omega⟩ ?_
            refine s_ic rfl ?_
            refine s_is6 rfl rfl ?_
            exact inner nh 0 D1 (by omega) hI (fun h hh q => hc1 h hh (by omega))
  have hrm : ∀ t, t < nt → 0 ≤ rmC D a t := hr
  have begin1 : ∀ (m i : Nat) (Db D1 : Nat → Int → Int) (u4 u5 u6 : aTV), i + m = 12 → PnD a D Db → (∀ r, r ≠ 105 → r ≠ 106 → r ≠ 107 → D1 r = Db r) → (∀ j : Int, 0 ≤ j → j < 12 → D1 105 j = 0) → (∀ j : Int, 0 ≤ j → j < 264 → D1 107 j = 0) → (∀ j : Nat, j < i → D1 106 j = if 0 < D (a + 1) j then 1 else 0) → Nat.beq u4.1 1 = false → Nat.beq u5.1 1 = false → V G l (d + 3) iX6_solve 22 [rf 104, rf a, rf T, (0, (i : Int)), u4, u5, u6] [] (K, D1, z) P := by
    intro m
    induction m with
    | zero =>
      intro i Db D1 u4 u5 u6 h1 hP g1 g2 g3 g4 t4 t5
      have hi : i = 12 := by omega
      subst hi
      obtain ⟨p1, p2, p3⟩ := hP
      have z107 : ∀ s j : Nat, s < 24 → j < 11 → D1 107 (11 * s + j) = 0 := fun s j hs hj => g3 _ (by omega) (by omega)
      have hI : SoI D T a nt (D (a + 1)) D1 := by
        refine ⟨fun r q1 q2 q3 q4 q5 q6 q7 q8 => by rw [g1 r q1 q2 q3]; exact p1 r q4 q5 q6 q7 q8, fun h hh => by rw [g1 _ (by omega) (by omega) (by omega)]; exact (p2 h (by omega)).1, fun h' q1 q2 => ?_, fun s j hs hj => by rw [z107 s j (by omega) hj]; omega, fun s hs => ⟨0, by omega, fun j hj => ?_⟩, fun s hs hn => ?_, fun h hh => by rw [g4 h hh]; split <;> omega, fun h hh q => ?_⟩
        · rw [g2 h' q1 q2]
          unfold foF
          rw [sumF_congr (g := fun _ => 0) (fun s hs => ?_), sumF_zero]
          have h7 := (hw.2.2.2 s hs).2.2.2.2.1
          rw [sumF_congr (g := fun _ => 0) (fun j hj => ?_), sumF_zero]
          rw [z107 s j (by omega) (by omega)]
          split <;> rfl
        · have h7 := (hw.2.2.2 s hs).2.2.2.2.1
          rw [z107 s j (by omega) (by omega)]
          unfold prt
          omega
        · have q := p3 s (by omega)
          rw [g1 _ (by omega) (by omega) (by omega), g1 _ (by omega) (by omega) (by omega), g1 _ (by omega) (by omega) (by omega)]
          exact ⟨q.1, q.2.1, q.2.2, fun j hj => z107 s j hs hj⟩
        · rw [g1 _ (by omega) (by omega) (by omega), (p2 h (by omega)).2]
          exact hd0 h hh (by omega)
      have hdd : ∀ h : Int, 0 ≤ h → h < nh → 0 ≤ D (a + 1) h ∧ D (a + 1) h ≤ D (a + 1) h := fun h q1 q2 => by
        have e := Int.toNat_of_nonneg q1
        have q3 := hd h.toNat (by omega)
        rw [e] at q3
        exact ⟨q3.1, Int.le_refl _⟩
      have hc0 : ∀ h : Nat, h < nh → D1 106 h = 0 → HcG D T a nt (D (a + 1)) D1 h := fun h hh hm => by
        have hz : D (a + 1) h = 0 := by
          have q1 := hd h (by omega)
          have q2 := g4 h (by omega)
          rw [hm] at q2
          have q3 : ¬ 0 < D (a + 1) h := fun q => by rw [if_pos q] at q2; cases q2
          omega
        refine ⟨?_, fun s hs ho hp => ?_⟩
        · have q := hsF_in (pay := payC D a) (g := D (a + 1)) hw hrm (hdd h (by omega) (by omega)) nt (Nat.le_refl _)
          rw [g1 _ (by omega) (by omega) (by omega), (p2 h (by omega)).2]
          omega
        · have q1 := bsF_in (pay := payC D a) (d := D (a + 1)) (g := D (a + 1)) hw hrm hdd hs
          have q2 := auF_in (pay := payC D a) (d := D (a + 1)) (g := D (a + 1)) hw hrm hdd hs
          have q3 := pdF_in hw hs q2.1
          rw [ho, hz] at q1 q2
          have q4 := p3 s (by omega)
          have h7 := (hw.2.2.2 s hs).2.2.2.2.1
          unfold TrG
          rw [g1 _ (by omega) (by omega) (by omega), g1 _ (by omega) (by omega) (by omega), g1 _ (by omega) (by omega) (by omega), q4.1, q4.2.1, q4.2.2]
          refine ⟨by omega, by split <;> omega, by omega, fun j hj => ?_⟩
          rw [z107 s j (by omega) (by omega), show auF (wC D T) (rmC D a) (payC D a) (D (a + 1)) (D (a + 1)) s = 0 by omega]
          unfold prt
          omega
      refine s_il3 rfl ?_
      refine s_ic rfl ?_
      refine s_cge rfl ?_ ?_
      · intro h25
        refine s_ic rfl ?_
        refine s_is3 rfl rfl ?_
        refine s_ic rfl ?_
        refine s_is4 rfl rfl ?_
        refine s_ic rfl ?_
        refine s_is5 rfl rfl ?_
        exact loop 2000 0 (D (a + 1)) D1 _ (by omega) hI hc0 (fun h hh => ⟨Int.le_refl _, by have := hd h hh; omega⟩) (fun h hh q => hd0 h hh (by omega)) kk
      · intro h25
        omega
    | succ m ih =>
      intro i Db D1 u4 u5 u6 h1 hP g1 g2 g3 g4 t4 t5
      have w1 : D1 (a + 1) = D (a + 1) := by rw [g1 _ (by omega) (by omega) (by omega)]; exact hP.1 _ (by omega) (by omega) (by omega) (by omega) (by omega)
      have fin : ∀ b : Int, b = (if 0 < D (a + 1) i then 1 else 0) → V G l (d + 3) iX6_solve 47 [rf 104, rf a, rf T, (0, (i : Int)), u4, u5, u6] [(0, b), (0, (i : Int)), rf 106] (K, D1, z) P := by
        intro b hb
        have hb01 : b = 0 ∨ b = 1 := by rw [hb]; split <;> omega
        refine s_bast rfl (hk.at rfl rfl) (by omega) hb01 ?_
        refine s_iinc3 rfl rfl ⟨by omega, by omega⟩ ?_
        refine s_go rfl ?_
        refine ih (i + 1) Db _ _ _ _ (by omega) hP (fun r q1 q2 q3 => by rw [aUp_row q2]; exact g1 r q1 q2 q3) (fun j q1 q2 => by rw [aUp_row (by decide)]; exact g2 j q1 q2) (fun j q1 q2 => by rw [aUp_row (by decide)]; exact g3 j q1 q2) (fun j hj => ?_) t4 t5
        rw [aUp_same]
        unfold uF
        rcases (by omega : j < i ∨ j = i) with q | q
        · rw [if_neg (by omega)]; exact g4 j q
        · subst q; rw [if_pos rfl]; exact hb
      refine s_il3 rfl ?_
      refine s_ic rfl ?_
      refine s_cge rfl ?_ ?_
      · intro h25
        omega
      · intro h25
        refine s_al0 rfl ?_
        refine s_gf rfl (hk.at rfl rfl) rfl rfl ?_
        refine s_il3 rfl ?_
        refine s_al1 rfl ?_
        refine s_gf rfl k0 rfl rfl ?_
        refine s_il3 rfl ?_
        refine s_iald rfl k1 (by omega) ?_
        rw [w1]
        refine s_zle rfl ?_ ?_
        · intro h39
          refine s_ic rfl ?_
          exact fin _ (by first | rw [if_pos h39] | rw [if_neg (by omega)])
        · intro h39
          refine s_ic rfl ?_
          refine s_go rfl ?_
          exact fin _ (by first | rw [if_pos h39] | rw [if_neg (by omega)])
  refine VM_go (tg2 rfl) (Nat.le_of_ble_eq_true rfl) ?_
  refine s_al1 rfl ?_
  refine s_callO rfl rfl (Or.inl rfl) rfl rfl k0 (v_payNothing ha (fun Db hDb => ?_))
  refine s_al0 rfl ?_
  refine s_gf rfl (hk.at rfl rfl) rfl rfl ?_
  refine s_ic rfl ?_
  refine s_callS rfl rfl rfl rfl (v_fill (hk.at rfl rfl) (by decide) ?_)
  refine s_al0 rfl ?_
  refine s_gf rfl (hk.at rfl rfl) rfl rfl ?_
  refine s_ic rfl ?_
  refine s_callS rfl rfl rfl rfl (v_fill (hk.at rfl rfl) (by decide) ?_)
  refine s_ic rfl ?_
  refine s_is3 rfl rfl ?_
  refine begin1 12 0 Db _ _ _ _ (by omega) hDb (fun r q1 q2 q3 => by rw [aFl_row q3, aFl_row q1]) (fun j q1 q2 => by rw [aFl_row (by decide), aFl_at (by omega)]) (fun j q1 q2 => by rw [aFl_at (by omega)]) (fun j hj => absurd hj (Nat.not_lt_zero j)) rfl rfl
end
