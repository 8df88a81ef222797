/-! ===== clearing: class and reference agree ===== -/
theorem sumF_tail {f : Nat → Int} {n m : Nat} (h : n ≤ m) (hz : ∀ k, n ≤ k → k < m → f k = 0) : sumF f m = sumF f n := by
  induction m with
  | zero => have : n = 0 := by omega
            subst this; rfl
  | succ m ih =>
    rcases (by omega : n = m + 1 ∨ n ≤ m) with y | y
    · subst y; rfl
    · rw [sumF, ih y (fun k h1 h2 => hz k h1 (by omega)), hz m y (by omega)]; omega
theorem shF_0 {p n : Int} : shF p n 0 = 0 := if_pos rfl
theorem shF_z {p o : Int} : shF p 0 o = 0 := by unfold shF; split; rfl; rw [Int.mul_zero, Int.zero_ediv]
theorem clP_eq {n : Nat} {net net' : Int → Int → Int} {al al' sp sp' : Int → Int} (hn : n ≤ 12) (h1 : ∀ a b : Nat, a < 12 → b < 12 → net' a b = net a b) (h2 : ∀ a : Nat, a < 12 → al' a = al a) (h3 : ∀ a : Nat, a < n → sp' a = sp a) (z1 : ∀ a b : Nat, a < 12 → b < 12 → n ≤ b → net a b = 0) (z2 : ∀ a : Nat, n ≤ a → a < 12 → al a = 0) (z3 : ∀ a : Nat, n ≤ a → a < 12 → 0 ≤ sp a) : ∀ (f k : Nat) (p p' : Int → Int), (∀ a : Nat, a < n → p' a = p a) → (∀ a : Nat, n ≤ a → a < 12 → p a = 0) → (clP n net' al' sp' f k p').1 = (clP 12 net al sp f k p).1 ∧ (∀ a : Nat, a < n → (clP n net' al' sp' f k p').2 a = (clP 12 net al sp f k p).2 a) ∧ ∀ a : Nat, a < n → gtP n net' al' (clP n net' al' sp' f k p').2 a = gtP 12 net al (clP 12 net al sp f k p).2 a := by
  have gt : ∀ (p p' : Int → Int), (∀ a : Nat, a < n → p' a = p a) → ∀ i : Nat, i < 12 → gtP n net' al' p' i = gtP 12 net al p i := fun p p' hp i hi => by
    unfold gtP
    rw [sumF_tail (n := n) (m := 12) hn (fun k q1 q2 => by rw [z2 k q1 q2]; exact shF_0)]
    exact sumF_congr fun j hj => by rw [hp j hj, h1 j i (by omega) hi, h2 j (by omega)]
  intro f
  induction f with
  | zero => intro k p p' hp _; exact ⟨rfl, hp, fun a ha => gt p p' hp a (by omega)⟩
  | succ f ih =>
    intro k p p' hp hz
    have pr : ∀ a : Nat, a < n → prP n net' al' sp' p' a = prP 12 net al sp p a := fun a ha => by
      unfold prP
      rw [gt p p' hp a (by omega), h3 a ha, h2 a (by omega)]
    have pz : ∀ a : Nat, n ≤ a → a < 12 → prP 12 net al sp p a = 0 := fun a q1 q2 => by
      have g0 : gtP 12 net al p a = 0 := by
        unfold gtP
        rw [sumF_congr (g := fun _ => 0) (fun j hj => by rw [z1 j a hj q2 q1]; exact shF_z), sumF_zero]
      have := z3 a q1 q2
      unfold prP
      rw [g0, z2 a q1 q2]
      split <;> omega
    have ce : chB p' (prP n net' al' sp' p') n = chB p (prP 12 net al sp p) 12 := by
      rw [chB_congr hp pr]
      exact chB_ext (fun j q1 q2 => by rw [pz j q1 q2, hz j q1 q2]) hn
    rw [clP, clP, ce]
    split
    · exact ih (k + 1) _ _ pr pz
    · exact ⟨rfl, pr, fun a ha => gt _ _ pr a (by omega)⟩
section
variable {D D' : Nat → Int → Int} {T nt : Nat} {wo : Int → Int} {cn : Nat → Nat} {cc : Nat → Nat → Int × Int} {stm : Int}
theorem owT_zero {w : WT} {t : Nat} {am pm a b nh : Int} (hw : wOk w nt nh) (ht : t < nt) (h : nh ≤ a ∨ nh ≤ b) : ∀ n : Nat, (n : Int) ≤ w t 7 → owT w t am pm a b n = 0 := by
  obtain ⟨h0, -, -, -, -, hpp, -⟩ := hw.2.2.2 t ht
  intro n
  induction n with
  | zero => intro _; rfl
  | succ n ih =>
    intro hn
    have p := (hpp n (by omega)).1
    have e : owT w t am pm a b (n + 1) = owT w t am pm a b n + ((if w t (100 + n) = a ∧ w t 0 = b then prt am (w t (200 + n)) else 0) + (if w t 0 = a ∧ w t (100 + n) = b then prt pm (w t (200 + n)) else 0)) := rfl
    rw [e, ih (by omega), if_neg (by omega), if_neg (by omega)]
    rfl
theorem owX_zero {v ms a b : Int} (hC : CW T nt wo cn cc D) (h : D T 0 ≤ a ∨ D T 0 ≤ b) : owX D wo T nt cn cc v stm ms a b = 0 := by
  have hw := hC.2.2.2.2.2.1
  have h1 : ∀ e, owP (WqC D T nt v cn cc) (qX D wo T v stm ms) e a b = 0 := by
    intro e
    induction e with
    | zero => rfl
    | succ e ih =>
      show owP (WqC D T nt v cn cc) (qX D wo T v stm ms) e a b + owF _ _ _ _ a b nt = 0
      rw [ih]
      unfold owF
      rw [sumF_congr (g := fun _ => 0) (fun t ht => ?_), sumF_zero]
      · rfl
      · have h7 := (hw.2.2.2 t ht).2.2.2.2.1
        exact owT_zero hw ht h _ (by show (((wC D T t 7).toNat : Nat) : Int) ≤ wC D T t 7; omega)
  have h2 : cuF (WqC D T nt v cn cc) (fun t => D (T + 9 + 3 * t) 14) a b nt = 0 := by
    unfold cuF
    rw [sumF_congr (g := fun _ => 0) (fun t ht => ?_), sumF_zero]
    split
    · have h7 := (hw.2.2.2 t ht).2.2.2.2.1
      rw [cuT_owT]
      exact owT_zero hw ht h _ (by show (((wC D T t 7).toNat : Nat) : Int) ≤ wC D T t 7; omega)
    · rfl
  unfold owX
  rw [h1, h2]
  rfl
/-- what the class's clearing leaves is what the reference's does -/
theorem clear_eq {n : Nat} (hC : CW T nt wo cn cc D) (hn : D T 0 = n) (ho : ∀ a b : Int, 0 ≤ a → a < 12 → 0 ≤ b → b < 12 → D' 102 (a * 12 + b) = owX D wo T nt cn cc (vwC D) stm (-1) a b) (hd : ∀ h : Nat, h < 12 → D' 103 h = drX D wo T (vwC D) stm (-1) h) (hp : ∀ h : Nat, h < 12 → D' 122 h = D 272 h) (hpu : ∀ a : Nat, a < 12 → 0 ≤ D 272 a ∧ D 272 a ≤ 99999999) : (clX D' n).1 = (clM D wo T nt cn cc stm).1 ∧ (∀ a : Nat, a < n → clAl D' n a = alX D wo T nt cn cc stm a ∧ (clX D' n).2 a = (clM D wo T nt cn cc stm).2 a ∧ gtP n (ntC D') (clAl D' n) (clX D' n).2 a = gtP 12 (ntX D wo T nt cn cc stm) (alX D wo T nt cn cc stm) (clM D wo T nt cn cc stm).2 a ∧ faB D' n a = faX D wo T nt cn cc stm a) ∧ (∀ a : Nat, a < n → clAl D' n a ≤ 2000000000) ∧ ∀ i : Nat, i < n → sumF (fun j : Nat => ntC D' j i) n ≤ 2000000000 := by
  have h12 : n ≤ 12 := by have := hC.2.2.2.2.2.1.2.2.1; omega
  have hnt : ∀ a b : Nat, a < 12 → b < 12 → ntC D' a b = ntX D wo T nt cn cc stm a b := fun a b ha hb => by
    unfold ntC ntX
    rw [ho a b (by omega) (by omega) (by omega) (by omega), ho b a (by omega) (by omega) (by omega) (by omega)]
  have z1 : ∀ a b : Nat, a < 12 → b < 12 → n ≤ b → ntX D wo T nt cn cc stm a b = 0 := fun a b ha hb q => by
    unfold ntX
    rw [owX_zero hC (Or.inr (by omega)), owX_zero hC (Or.inl (by omega))]
    rfl
  have z1' : ∀ a b : Nat, a < 12 → b < 12 → n ≤ a → ntX D wo T nt cn cc stm a b = 0 := fun a b ha hb q => by
    unfold ntX
    rw [owX_zero hC (Or.inl (by omega)), owX_zero hC (Or.inr (by omega))]
    rfl
  have hal : ∀ a : Nat, a < 12 → clAl D' n a = alX D wo T nt cn cc stm a := fun a ha => by
    unfold clAl alX
    rw [sumF_tail (n := n) (m := 12) h12 (fun k q1 q2 => z1 a k ha q2 q1)]
    exact sumF_congr fun b hb => hnt a b ha (by omega)
  have z2 : ∀ a : Nat, n ≤ a → a < 12 → alX D wo T nt cn cc stm a = 0 := fun a q1 q2 => by
    unfold alX
    rw [sumF_congr (g := fun _ => 0) (fun b hb => z1' a b q2 hb q1), sumF_zero]
  have hsp : ∀ a : Nat, a < n → clSp D' a = spX D wo T nt cn cc stm a := fun a ha => by
    unfold clSp spX
    rw [hp a (by omega), hd a (by omega)]
  have z3 : ∀ a : Nat, n ≤ a → a < 12 → 0 ≤ spX D wo T nt cn cc stm a := fun a _ _ => by
    unfold spX
    split <;> omega
  obtain ⟨e1, e2, e3⟩ := clP_eq (net' := ntC D') (net := ntX D wo T nt cn cc stm) (al' := clAl D' n) (al := alX D wo T nt cn cc stm) (sp' := clSp D') (sp := spX D wo T nt cn cc stm) h12 hnt hal hsp z1 z2 z3 200 0 (alX D wo T nt cn cc stm) (clAl D' n) (fun a ha => hal a (by omega)) z2
  refine ⟨e1, fun a ha => ⟨hal a (by omega), e2 a ha, e3 a ha, ?_⟩, fun a ha => ?_, fun i hi => ?_⟩
  · unfold faB faX
    refine decide_eq_decide.mpr ?_
    rw [hal a (by omega), hp a (by omega), hd a (by omega)]
    have : (clX D' n).2 a = (clM D wo T nt cn cc stm).2 a := e2 a ha
    rw [this]
  · rw [hal a (by omega)]
    have := (alX_in (stm := stm) hC (a := a) (by omega)).2
    omega
  · have h1 : sumF (fun j : Nat => ntC D' j i) n = sumF (fun j : Nat => ntX D wo T nt cn cc stm j i) 12 := by
      rw [sumF_tail (n := n) (m := 12) h12 (fun k q1 q2 => z1' k i q2 (by omega) q1)]
      exact sumF_congr fun j hj => hnt j i (by omega) (by omega)
    rw [h1]
    have := clX_col (stm := stm) hC (a := i) (by omega)
    omega
end
