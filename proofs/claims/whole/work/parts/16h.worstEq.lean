/-! ===== worst: class and reference agree ===== -/
def bestS (bu : Nat → Int) (S : Nat → Prop) (w : Nat) : Prop := S w ∧ ∀ t, S t → bu t ≤ bu w ∧ (bu t = bu w → popc w ≤ popc t ∧ (popc w = popc t → w ≤ t))
theorem bestS_ext {bu : Nat → Int} {S S' : Nat → Prop} {w : Nat} (h : bestS bu S w) (e : ∀ t, S' t ↔ S t) : bestS bu S' w := ⟨(e w).mpr h.1, fun t ht => h.2 t ((e t).mp ht)⟩
theorem popc_0 : ∀ s : Nat, s < 64 → popc s = 0 → s = 0 := by decide +kernel
theorem ws_best {p : Int} {bu : Nat → Int} : ∀ k, bestS bu (fun s => s < 64 ∧ okS p s = true ∧ popc s ≤ k) (wsF p bu k) := by
  intro k
  induction k with
  | zero =>
    refine ⟨⟨by show 0 < 64; decide, okS_0, by show popc 0 ≤ 0; decide⟩, fun t ht => ?_⟩
    have := popc_0 t ht.1 (by omega)
    subst this
    exact ⟨Int.le_refl _, fun _ => ⟨Nat.le_refl _, fun _ => Nat.le_refl _⟩⟩
  | succ k ih =>
    have key : ∀ n, n ≤ 64 → bestS bu (fun s => (s < 64 ∧ okS p s = true) ∧ (popc s ≤ k ∨ (popc s = k + 1 ∧ s < n))) (wsI p bu (k + 1) (wsF p bu k) n) := by
      intro n
      induction n with
      | zero => exact fun _ => bestS_ext ih (fun t => ⟨fun h => ⟨h.1.1, h.1.2, by omega⟩, fun h => ⟨⟨h.1, h.2.1⟩, Or.inl h.2.2⟩⟩)
      | succ n ihn =>
        intro hn
        have b := ihn (by omega)
        rw [wsI]
        generalize wsI p bu (k + 1) (wsF p bu k) n = w at b
        obtain ⟨⟨bw1, bw2⟩, bt⟩ := b
        split
        · rename_i q
          refine ⟨⟨⟨by omega, q.1⟩, Or.inr ⟨q.2.1, by omega⟩⟩, fun t ht => ?_⟩
          rcases (by omega : t = n ∨ (popc t ≤ k ∨ (popc t = k + 1 ∧ t < n))) with y | y
          · subst y; exact ⟨Int.le_refl _, fun _ => ⟨Nat.le_refl _, fun _ => Nat.le_refl _⟩⟩
          · have := (bt t ⟨ht.1, y⟩).1
            have := q.2.2
            exact ⟨by omega, fun z => by omega⟩
        · rename_i q
          refine ⟨⟨bw1, by omega⟩, fun t ht => ?_⟩
          rcases (by omega : (t = n ∧ popc t = k + 1) ∨ (popc t ≤ k ∨ (popc t = k + 1 ∧ t < n))) with y | y
          · obtain ⟨rfl, y2⟩ := y
            have : ¬ bu w < bu t := fun z => q ⟨ht.1.2, y2, z⟩
            exact ⟨by omega, fun _ => ⟨by omega, fun _ => by omega⟩⟩
          · exact bt t ⟨ht.1, y⟩
    exact bestS_ext (key 64 (Nat.le_refl _)) (fun t => ⟨fun h => ⟨⟨h.1, h.2.1⟩, by omega⟩, fun h => ⟨h.1.1, h.1.2, by omega⟩⟩)
theorem wm_best {bu : Nat → Int} {k : Nat} : ∀ s, 1 ≤ s → (wmF bu k s).2 = bu (wmF bu k s).1 ∧ bestS bu (fun t => t < s ∧ popc t ≤ k) (wmF bu k s).1 := by
  intro s
  induction s with
  | zero => intro h; omega
  | succ s ih =>
    intro _
    rw [wmF]
    by_cases y : s = 0
    · subst y
      rw [if_pos ⟨by show popc 0 ≤ k; exact Nat.zero_le _, Or.inl rfl⟩]
      refine ⟨rfl, ⟨by show 0 < 0 + 1; decide, by show popc 0 ≤ k; exact Nat.zero_le _⟩, fun t ht => ?_⟩
      have : t = 0 := by have := ht.1; omega
      subst this
      exact ⟨Int.le_refl _, fun _ => ⟨Nat.le_refl _, fun _ => Nat.le_refl _⟩⟩
    · obtain ⟨e, ⟨bw1, bw2⟩, bt⟩ := ih (by omega)
      generalize wmF bu k s = w at *
      split
      · rename_i q
        refine ⟨rfl, ⟨by show s < s + 1; omega, q.1⟩, fun t ht => ?_⟩
        show bu t ≤ bu s ∧ (bu t = bu s → popc s ≤ popc t ∧ (popc s = popc t → s ≤ t))
        rcases (by have := ht.1; omega : t = s ∨ t < s) with z | z
        · subst z; exact ⟨Int.le_refl _, fun _ => ⟨Nat.le_refl _, fun _ => Nat.le_refl _⟩⟩
        · have b := bt t ⟨z, ht.2⟩
          have q2 := q.2
          exact ⟨by omega, fun x => by have := b.2; omega⟩
      · rename_i q
        refine ⟨e, ⟨by omega, bw2⟩, fun t ht => ?_⟩
        rcases (by have := ht.1; omega : t = s ∨ t < s) with z | z
        · subst z
          have q1 : ¬ (w.2 < bu t) := fun x => q ⟨ht.2, Or.inr (Or.inl x)⟩
          have q2 : ¬ (bu t = w.2 ∧ popc t < popc w.1) := fun x => q ⟨ht.2, Or.inr (Or.inr x)⟩
          exact ⟨by omega, fun x => by omega⟩
        · exact bt t ⟨z, ht.2⟩
/-- bits of sets of storms -/
theorem set_and : ∀ p : Nat, p < 64 → ∀ s : Nat, s < 64 → okS p s = decide (s &&& p = s) ∧ s &&& p < 64 ∧ popc (s &&& p) ≤ popc s ∧ (popc (s &&& p) = popc s → s &&& p = s) ∧ (s &&& p) &&& p = s &&& p := by decide +kernel
theorem set_or : ∀ m : Nat, m < 64 → ∀ k : Nat, k < 6 → bOr m (bShl 1 k) = ((m ||| 2 ^ k : Nat) : Int) ∧ m ||| 2 ^ k < 64 ∧ ∀ j : Nat, j < 6 → (m ||| 2 ^ k).testBit j = (m.testBit j || decide (j = k)) := by decide +kernel
theorem set_bit : ∀ m : Nat, m < 64 → ∀ j : Nat, j < 6 → (bAnd (bShr m j) 1 = 1 ↔ m.testBit j = true) := by decide +kernel
theorem prF_bits {jo st : Int → Int} : ∀ n : Nat, (∀ q : Nat, q < n → 0 ≤ st q ∧ st q < 6) → ∃ m : Nat, m < 64 ∧ prF jo st n = m ∧ ∀ j : Nat, j < 6 → (m.testBit j = true ↔ ∃ q : Nat, q < n ∧ jo q ≠ -1 ∧ st q = j) := by
  intro n
  induction n with
  | zero => intro _; exact ⟨0, by decide, rfl, fun j _ => ⟨fun h => by simp at h, fun ⟨q, hq, _⟩ => absurd hq (Nat.not_lt_zero q)⟩⟩
  | succ n ih =>
    intro hs
    obtain ⟨m, m1, m2, m3⟩ := ih (fun q hq => hs q (by omega))
    by_cases y : jo n = -1
    · refine ⟨m, m1, by rw [prF, if_pos y]; exact m2, fun j hj => (m3 j hj).trans ⟨fun ⟨q, h1, h2⟩ => ⟨q, by omega, h2⟩, fun ⟨q, h1, h2, h3⟩ => ⟨q, ?_, h2, h3⟩⟩⟩
      rcases (by omega : q < n ∨ q = n) with x | x
      · exact x
      · subst x; exact absurd y h2
    · obtain ⟨k, hk⟩ : ∃ k : Nat, st n = k := ⟨(st n).toNat, by have := hs n (by omega); omega⟩
      have k6 : k < 6 := by have := hs n (by omega); omega
      obtain ⟨o1, o2, o3⟩ := set_or m m1 k k6
      refine ⟨m ||| 2 ^ k, o2, by rw [prF, if_neg y, m2, hk]; exact o1, fun j hj => ?_⟩
      rw [o3 j hj, Bool.or_eq_true, decide_eq_true_iff, m3 j hj]
      constructor
      · rintro (⟨q, h1, h2⟩ | x)
        · exact ⟨q, by omega, h2⟩
        · exact ⟨n, by omega, y, by omega⟩
      · rintro ⟨q, h1, h2, h3⟩
        rcases (by omega : q < n ∨ q = n) with x | x
        · exact Or.inl ⟨q, x, h2, h3⟩
        · subst x; exact Or.inr (by omega)
theorem tb_and {p q : Int} {t : Nat} : tb (bAnd p q) t = (tb p t && tb q t) := by
  unfold tb bAnd
  rw [Int32.ofInt_toInt]
  show ((Int32.ofInt p).toBitVec &&& (Int32.ofInt q).toBitVec).getLsbD t = _
  rw [BitVec.getLsbD_and]
theorem tb_not {p : Int} {t : Nat} (ht : t < 32) : tb (bXor p (-1)) t = !tb p t := by
  unfold tb bXor
  rw [Int32.ofInt_toInt]
  show ((Int32.ofInt p).toBitVec ^^^ (Int32.ofInt (-1)).toBitVec).getLsbD t = _
  rw [BitVec.getLsbD_xor]
  have e : ∀ t, t < 32 → (Int32.ofInt (-1)).toBitVec.getLsbD t = true := by decide
  rw [e t ht, Bool.xor_true]
section
variable {D : Nat → Int → Int} {T nt : Nat} {wo : Int → Int} {cn : Nat → Nat} {cc : Nat → Nat → Int × Int}
theorem StR_of (hC : CW T nt wo cn cc D) (hV : CpV D) (s v : Int) : StR D wo T v s (bAnd s (bXor (D 1 9) (-1))) := by
  intro q q1 q2 _ _
  have hs := (hC.2.2.1.1 q q1 q2).2.2.2.2.1
  obtain ⟨k, hk⟩ : ∃ k : Nat, D 94 q = k := ⟨(D 94 q).toNat, by omega⟩
  rw [hk]
  obtain ⟨v1, v2⟩ := hV.2.2.2 k (by omega)
  rw [tb_shr (by omega), tb_shr (by omega), tb_and, tb_not (by omega), v2, Bool.and_eq_true, Bool.not_eq_true', decide_eq_false_iff_not]
  constructor
  · intro x; exact ⟨x.2, by omega⟩
  · intro x; exact ⟨by have := x.2; omega, x.1⟩
theorem buX_stm {v stm stm' ms : Int} (hC : CW T nt wo cn cc D) (h : ∀ q : Int, 0 ≤ q → q < D 89 0 → cntC D wo T v stm' q = cntC D wo T v stm q) (x : Int) : buX D wo T nt cn cc v stm' ms x = buX D wo T nt cn cc v stm ms x := by
  have e : xsC D wo T v stm' (D 89 0).toNat = xsC D wo T v stm (D 89 0).toNat := by
    unfold xsC
    refine List.filter_congr fun q hq => ?_
    obtain ⟨i, i1, i2⟩ := rowL_mem.mp hq
    have := hC.2.2.2.1.2.1 i (by omega)
    rw [i2] at this
    exact h q this.1 this.2
  have e2 : evX D wo T v stm' ms = evX D wo T v stm ms := by unfold evX; rw [e]
  unfold buX drX owX qX
  rw [e2]
theorem worst_eq {h : Int} {k : Nat} (hC : CW T nt wo cn cc D) (hV : CpV D) : wsF (prX D wo T (vwC D) (bAnd 63 (bXor (D 1 9) (-1)))) (fun s => buX D wo T nt cn cc (vwC D) s (-1) h) k = (wmF (fun s => buX D wo T nt cn cc (vwC D) (bAnd s (bXor (D 1 9) (-1))) (-1) h) k 64).1 := by
  have hs : ∀ q : Nat, q < (D 89 0).toNat → 0 ≤ D 94 q ∧ D 94 q < 6 := fun q hq => (hC.2.2.1.1 q (by omega) (by omega)).2.2.2.2.1
  have xf := evX_facts (v := vwC D) (stm := bAnd 63 (bXor (D 1 9) (-1))) (ms := -1) hC
  obtain ⟨p, p1, p2, p3⟩ := prF_bits (jo := (evX D wo T (vwC D) (bAnd 63 (bXor (D 1 9) (-1))) (-1)).2.2.1) (st := D 94) (D 89 0).toNat hs
  have p2' : prX D wo T (vwC D) (bAnd 63 (bXor (D 1 9) (-1))) = p := p2
  rw [p2']
  have e63 : ∀ j : Nat, j < 6 → tb 63 j = true := by decide
  have lef : ∀ (s : Int) (j : Nat), j < 6 → (bAnd (bShr (bAnd s (bXor (D 1 9) (-1))) j) 1 = 1 ↔ tb s j = true ∧ tb (D 1 9) j = false) := fun s j hj => by
    rw [tb_shr (by omega), tb_and, tb_not (by omega), Bool.and_eq_true, Bool.not_eq_true']
  have cq : ∀ (s : Nat) (q : Int), s < 64 → 0 ≤ q → q < D 89 0 → cntC D wo T (vwC D) (bAnd s (bXor (D 1 9) (-1))) q = cntC D wo T (vwC D) ((s &&& p : Nat) : Int) q := fun s q s1 q1 q2 => by
    obtain ⟨j, hj⟩ : ∃ j : Nat, D 94 q = j := ⟨(D 94 q).toNat, by have := (hC.2.2.1.1 q q1 q2).2.2.2.2.1; omega⟩
    have j6 : j < 6 := by have := (hC.2.2.1.1 q q1 q2).2.2.2.2.1; omega
    unfold cntC
    refine decide_eq_decide.mpr ?_
    rw [hj]
    refine and_congr_right fun am => and_congr_right fun ho => ?_
    rw [lef s j j6, set_bit _ (set_and p p1 s s1).2.1 j j6, Nat.testBit_and, Bool.and_eq_true, ← set_bit s s1 j j6, tb_shr (by omega)]
    refine and_congr_right fun _ => ?_
    rw [p3 j j6]
    constructor
    · intro x
      refine ⟨q.toNat, by omega, ?_, by rw [show ((q.toNat : Nat) : Int) = q by omega]; exact hj⟩
      rw [show ((q.toNat : Nat) : Int) = q by omega]
      have hm : q ∈ xsC D wo T (vwC D) (bAnd 63 (bXor (D 1 9) (-1))) (D 89 0).toNat := (xf.2.2.1 q).mpr ⟨⟨q1, q2⟩, decide_eq_true ⟨am, ho, by rw [hj]; exact (lef 63 j j6).mpr ⟨e63 j j6, x⟩⟩⟩
      have := xf.1.2.2.2.1 q hm
      omega
    · rintro ⟨q', a1, a2, a3⟩
      have hm : (q' : Int) ∈ xsC D wo T (vwC D) (bAnd 63 (bXor (D 1 9) (-1))) (D 89 0).toNat := Decidable.byContradiction fun y => a2 (xf.1.2.2.1 _ y)
      have c := (of_decide_eq_true ((xf.2.2.1 _).mp hm).2).2.2
      rw [a3] at c
      exact ((lef 63 j j6).mp c).2
  have eb : ∀ s : Nat, s < 64 → buX D wo T nt cn cc (vwC D) (bAnd s (bXor (D 1 9) (-1))) (-1) h = buX D wo T nt cn cc (vwC D) ((s &&& p : Nat) : Int) (-1) h := fun s s1 => buX_stm hC (fun q q1 q2 => cq s q s1 q1 q2) h
  obtain ⟨⟨w1, w2, w3⟩, wt⟩ := ws_best (p := (p : Int)) (bu := fun s => buX D wo T nt cn cc (vwC D) s (-1) h) k
  obtain ⟨-, ⟨m1, m3⟩, mt⟩ := wm_best (bu := fun s => buX D wo T nt cn cc (vwC D) (bAnd s (bXor (D 1 9) (-1))) (-1) h) (k := k) 64 (by decide)
  generalize wsF (p : Int) (fun s => buX D wo T nt cn cc (vwC D) s (-1) h) k = w at *
  generalize (wmF (fun s => buX D wo T nt cn cc (vwC D) (bAnd s (bXor (D 1 9) (-1))) (-1) h) k 64).1 = m at *
  obtain ⟨sm1, sm2, sm3, sm4, sm5⟩ := set_and p p1 m m1
  obtain ⟨sw1, -⟩ := set_and p p1 w w1
  have wok : w &&& p = w := by rw [sw1] at w2; exact of_decide_eq_true w2
  have mok : m &&& p = m := by
    have t := (mt (m &&& p) ⟨sm2, by omega⟩)
    have e : buX D wo T nt cn cc (vwC D) (bAnd ((m &&& p : Nat) : Int) (bXor (D 1 9) (-1))) (-1) h = buX D wo T nt cn cc (vwC D) (bAnd m (bXor (D 1 9) (-1))) (-1) h := by rw [eb _ sm2, eb m m1, sm5]
    exact sm4 (Nat.le_antisymm sm3 (t.2 e).1)
  have c1 := mt w ⟨w1, w3⟩
  have c2 := wt m ⟨m1, by rw [sm1]; exact decide_eq_true mok, m3⟩
  have ew : buX D wo T nt cn cc (vwC D) (bAnd w (bXor (D 1 9) (-1))) (-1) h = buX D wo T nt cn cc (vwC D) w (-1) h := by rw [eb w w1, wok]
  have em : buX D wo T nt cn cc (vwC D) (bAnd m (bXor (D 1 9) (-1))) (-1) h = buX D wo T nt cn cc (vwC D) m (-1) h := by rw [eb m m1, mok]
  simp only [ew, em] at c1 c2
  have le := Int.le_antisymm c1.1 c2.1
  have p1 := c1.2 le
  have p2 := c2.2 le.symm
  have pe := Nat.le_antisymm p1.1 p2.1
  exact Nat.le_antisymm (p2.2 pe.symm) (p1.2 pe)
end
