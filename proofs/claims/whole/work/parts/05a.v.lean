/-! ===== what the small machine's states say of the real one ===== -/
/-- what else holds of the machine, and stays: a fact on it alone -/
abbrev aEx : Type := { E : Vm → Prop // ∀ (s : State) (v : Vm), s.WarmedH v → E s.vm → E v }
/-- the cells made since the law began are numbered from 1, the n-th lies at B + n: B, the classes and slots, the classes of arrays, the heap at the start -/
abbrev aCX : Type := (Nat × (Nat → Nat)) × va_G × (Nat → ClassId) × Heap × aEx
/-- cells that are not ours (thrown exceptions) lie between ours: g r of them behind the r-th -/
def gS (g : Nat → Nat) : Nat → Nat
  | 0 => 0
  | r + 1 => gS g r + g r
def aAd (G : aCX) (r : Nat) : Nat := G.1.1 + r + gS G.1.2 r
theorem aAd_succ (G : aCX) (r : Nat) : aAd G (r + 1) = aAd G r + 1 + G.1.2 r := by unfold aAd; rw [gS]; omega
theorem aAd_lt {G : aCX} {a b : Nat} (h : a < b) : aAd G a < aAd G b := by
  induction b with
  | zero => omega
  | succ b ih =>
    have := aAd_succ G b
    rcases (by omega : a < b ∨ a = b) with q | q
    · have := ih q; omega
    · subst q; omega
theorem aAd_pos {G : aCX} {r : Nat} (h : 1 ≤ r) : G.1.1 < aAd G r := by unfold aAd; omega
theorem aAd_ne {G : aCX} {a b : Nat} (h : a ≠ b) : aAd G a ≠ aAd G b := by
  rcases (by omega : a < b ∨ b < a) with q | q
  · have := aAd_lt (G := G) q; omega
  · have := aAd_lt (G := G) q; omega
def aRf (G : aCX) (w : Int) : Option Nat := if w ≤ 0 then none else some (aAd G w.toNat)
def aV (G : aCX) (v : aTV) : Value := match v.1 with
  | 0 => .int (Int32.ofInt v.2)
  | 1 => .long (Int64.ofInt v.2)
  | _ => va_rf (aRf G v.2)
def aFc (t k : Nat) : Nat := (aFts.getD t []).getD k 9
def aFv (G : aCX) (f : Int → Int) (rs : List Nat) (c k : Nat) : Value := match c with
  | 0 => .int (Int32.ofInt (f k))
  | 4 => .int (Int32.ofInt (f k))
  | 1 => .long (Int64.ofInt (f k))
  | 2 => va_rf (aRf G (Int.ofNat (rs.getD k 0)))
  | _ => va_rf (aRf G (f k))
def aFs (G : aCX) (f : Int → Int) (t : Nat) (rs : List Nat) : List Value := (List.range (aNf t)).map (fun k => aFv G f rs (aFc t k) k)
def aEnt (G : aCX) (st : aSt) (r : Nat) : va_E := match st.1 r with
  | (t, n, rs) => if t < 13 then .inr (t, aFs G (st.2.1 r) t rs)
    else if t = 15 then .inl (G.2.2.1 2, n, .inr (.inl (fun i => Int64.ofInt (st.2.1 r i))))
    else if t = 17 then .inl (G.2.2.1 4, n, .inr (.inr (.inr (.inr (fun i => aRf G (st.2.1 r i))))))
    else if t = 18 then .inl (G.2.2.1 5, n, .inr (.inr (.inr (.inr (fun i => aRf G (Int.ofNat (rs.getD i 0)))))))
    else .inl (G.2.2.1 (t - 13), n, .inl (fun i => Int32.ofInt (st.2.1 r i)))
abbrev aTys (G : aCX) : List (ClassId × FieldType) := [(G.2.2.1 0, .char), (G.2.2.1 1, .int), (G.2.2.1 2, .long), (G.2.2.1 3, .boolean), (G.2.2.1 4, .object RX3), (G.2.2.1 5, .object RX9)]
def hSum (b : Nat) (H : Heap) : Nat := ((H.toList.drop b).map (fun q => q.slots.size)).sum
def aHold (G : aCX) (st : aSt) (H : Heap) : Prop := H.size = aAd G st.2.2.1 ∧ (hSum (G.1.1 + 1) H ≤ st.2.2.2 ∧ (∀ r : Nat, st.2.2.1 ≤ r → G.1.2 r = 0) ∧ gS G.1.2 st.2.2.1 ≤ 1000) ∧ (∀ q : Nat, q ≤ G.1.1 → H[q]? = G.2.2.2.1[q]?) ∧ ∀ r : Nat, 1 ≤ r → r < st.2.2.1 → (st.1 r).1 < 19 → va_at G.2.1 vwCl (aAd G r, aEnt G st r) H
/-- the words of a value, of a cell's place, are in their range -/
def aOk (v : aTV) : Prop := (v.1 = 0 → i32 v.2) ∧ (v.1 = 1 → i64 v.2) ∧ (v.1 = 2 → 0 ≤ v.2)
def aOkL (L : List aTV) : Prop := ∀ v ∈ L, aOk v
def aCc (t : Nat) (i : Int) : Nat := if t = 15 then 1 else if t = 13 ∨ t = 14 ∨ t = 16 then 0 else if t = 17 then 3 else if t < 13 then aFc t i.toNat else 9
def aDok (st : aSt) (r : Nat) (i : Int) : Prop := (aCc (st.1 r).1 i = 1 → i64 (st.2.1 r i)) ∧ (aCc (st.1 r).1 i = 0 ∨ aCc (st.1 r).1 i = 4 → i32 (st.2.1 r i)) ∧ (aCc (st.1 r).1 i = 3 → 0 ≤ st.2.1 r i)
def aCan (st : aSt) : Prop := (st.1 0).1 = 99 ∧ (1 ≤ st.2.2.1 ∧ st.2.2.1 ≤ 2000 ∧ st.2.2.2 ≤ 200000) ∧ (∀ r : Nat, st.2.2.1 ≤ r → (st.1 r).1 = 99) ∧ ∀ (r : Nat) (i : Int), aDok st r i
def aLv (G : aCX) (i : Nat) (L : List aTV) : List (Nat × Value) := match L with
  | [] => []
  | v :: L' => if v.1 ≤ 2 then (i, aV G v) :: aLv G (i + 1) L' else aLv G (i + 1) L'
/-- a method at depth d: what its frame stands in -/
def aCtx (G : aCX) (d : Nat) (mi : aMI) (p : Program) (R : Room) (s : State) (m : MethodId) (args : Array Value) (meth : Method) (c : Code) : Prop :=
  p.tables.exec = Jvm.exec ∧ c.code = mi.2.1 ∧ meth.sig.returnType = mi.2.2.2.1 ∧ c.maxLocals = mi.2.2.1 ∧ s.vm.findClass mi.1.cls = some m.cls ∧ (∀ w ∈ gTbl, w.before args s = true) ∧ va_K G.2.1 vwCl (aTys G) s ∧ meth.locks = false ∧ meth.name = mi.1.name ∧ G.1.1 + 1 ≤ s.heap.size ∧ d + 12 ≤ R.frames ∧ 3000 * (d + 2) ≤ R.cells ∧ 200000 * (d + 2) ≤ R.slots ∧ 40 * (d + 12) ≤ R.locals ∧ va_AO RX3 s ∧ va_AO RX9 s ∧ G.2.2.2.2.1 s.vm
def aRv (G : aCX) (rc : Nat) (w : Int) : Option Value := (aPush rc w []).head?.map (aV G)
section
variable (G : aCX) (l : Launch) (mi : aMI) (P : Int → aSt → Prop) (p : Program) (e : Env) (R : Room) (s : State) (m : MethodId) (args : Array Value) (below : List Frame) (meth : Method) (c : Code) (Q : State → Prop)
/-- from this frame, with this state, the machine comes to Q -/
def VW (pc : Nat) (L S : List aTV) (st : aSt) : Prop := aOkL L → aOkL S → aCan st → ∀ (ls : Array Slot) (H : Heap) (locs : List Loc), lv_has ls mi.2.2.1 (aLv G 0 L) → aHold G st H → (∀ q ∈ locs, G.1.1 < q.base) → W p l e R s m args below meth c H locs 3000 200000 Q (F0 m pc ls (S.map (aV G)))
/-- the return: with an answer that P takes, the machine comes to Q -/
def VR : Prop := ∀ (w : Int) (st : aSt) (pc : Nat) (ls : Array Slot) (H : Heap) (locs : List Loc) (i : Instr), P w st → aOkL (aPush mi.2.2.2.2.1.2.1 w []) → (mi.2.2.2.2.1.2.1 = 4 → w = 0 ∨ w = 1) → aCan st → aHold G st H → (∀ q ∈ locs, G.1.1 < q.base) → aRtc mi.2.2.2.1 mi.2.2.2.2.1.2.1 = true → decode mi.2.1 pc = .ok (i, 1) → (i = .ireturn ∧ (mi.2.2.2.2.1.2.1 = 0 ∨ mi.2.2.2.2.1.2.1 = 4) ∨ i = .lreturn ∧ mi.2.2.2.2.1.2.1 = 1 ∨ i = .areturn ∧ mi.2.2.2.2.1.2.1 = 2 ∨ i = .return_ ∧ mi.2.2.2.2.1.2.1 = 9) → W p l e R s m args below meth c H locs 3000 200000 Q (F0 m pc ls ((aPush mi.2.2.2.2.1.2.1 w []).map (aV G)))
end
/-- from this frame of the method y, at depth d, the method comes to an answer and a state that P takes -/
def V (G : aCX) (l : Launch) (d y : Nat) (pc : Nat) (L S : List aTV) (st : aSt) (P : Int → aSt → Prop) : Prop :=
  ∀ (p : Program) (e : Env) (R : Room) (s : State) (m : MethodId) (args : Array Value) (below : List Frame) (meth : Method) (c : Code) (Q : State → Prop), aCtx G d (aM y) p R s m args meth c → VR G l (aM y) P p e R s m args below meth c Q → VW G l (aM y) p e R s m args below meth c Q pc L S st
def aRm (d : Nat) : Room := { frames := d + 12, cells := 3000 * (d + 2), slots := 200000 * (d + 2), locals := 40 * (d + 12) }
def aWs (mi : aMI) : List Cond := .code mi.1 mi.2.1 mi.2.2.1 mi.2.2.2.1 :: gTbl
/-- the method y, called at depth d -/
def VM (G : aCX) (l : Launch) (d y : Nat) (A : List aTV) (st : aSt) (P : Int → aSt → Prop) : Prop := aOkL A → aCan st →
  Met l (aM y).1 (aWs (aM y)) (aRm d) (fun a U => a = (A.map (aV G)).toArray ∧ aHold G st U.heap ∧ va_K G.2.1 vwCl (aTys G) U ∧ G.1.1 + 1 ≤ U.heap.size ∧ va_AO RX3 U ∧ va_AO RX9 U ∧ G.2.2.2.2.1 U.vm) (fun _ _ o t => ∃ (w : Int) (st' : aSt), P w st' ∧ aOkL (aPush (aM y).2.2.2.2.1.2.1 w []) ∧ aCan st' ∧ o = .returned (aRv G (aM y).2.2.2.2.1.2.1 w) ∧ aHold G st' t.heap) (3000 * (d + 2)) (200000 * (d + 2)) (fun q => G.1.1 < q)
/-- one instruction of the method y -/
def aStep (G : aCX) (l : Launch) (d y pc : Nat) (L S : List aTV) (st : aSt) (k : Nat → List aTV → List aTV → aSt → Prop) (P : Int → aSt → Prop) : Prop := match aLook (aM y) pc with
  | none => False
  | some (_, nxt, _, op, a, b, tgt, tl) => aIns aM (fun z A st P => match d with
    | 0 => False
    | d' + 1 => VM G l d' z A st P) nxt op a b tgt tl L S st k P
/-! ===== small things ===== -/
theorem hSum_drop {a b : Nat} (h : a ≤ b) (H : Heap) : hSum b H ≤ hSum a H := by
  unfold hSum
  obtain ⟨k, rfl⟩ := Nat.exists_eq_add_of_le h
  clear h
  rw [← List.drop_drop]
  generalize H.toList.drop a = L
  induction k generalizing L with
  | zero => simp
  | succ k ih =>
    cases L with
    | nil => simp
    | cons x L =>
      simp only [List.drop_succ_cons, List.map_cons, List.sum_cons]
      have := ih L
      omega
theorem hSum_same {b : Nat} {H H' : Heap} (hz : H'.size = H.size) (h : ∀ (q : Nat) (x x' : Cell), H[q]? = some x → H'[q]? = some x' → x'.slots.size = x.slots.size) : hSum b H' = hSum b H := by
  unfold hSum
  rw [List.map_drop, List.map_drop]
  congr 2
  apply List.ext_getElem
  · simp [hz]
  · intro i h1 h2
    simp only [List.length_map, Array.length_toList] at h1 h2
    simp only [List.getElem_map, Array.getElem_toList]
    exact h i _ _ (Array.getElem?_eq_getElem (by omega)) (Array.getElem?_eq_getElem (by omega))
theorem hSum_push {b : Nat} {H H' : Heap} {x : Cell} (hz : H'.size = H.size + 1) (hb : b ≤ H.size) (hx : H'[H.size]? = some x) (h : ∀ q, q < H.size → H'[q]? = H[q]?) : hSum b H' = hSum b H + x.slots.size := by
  have e : H'.toList = H.toList ++ [x] := by
    apply List.ext_getElem?
    intro i
    rw [Array.getElem?_toList]
    rcases Nat.lt_trichotomy i H.size with hi | hi | hi
    · rw [h i hi, List.getElem?_append_left (by simpa using hi), Array.getElem?_toList]
    · subst hi
      rw [hx]
      simp
    · rw [Array.getElem?_eq_none (by omega), List.getElem?_eq_none (by simp; omega)]
  unfold hSum
  rw [e, List.drop_append_of_le_length (by simpa using hb)]
  simp
theorem aLv_mem {G : aCX} {q : Nat × Value} : ∀ {L : List aTV} {i : Nat}, q ∈ aLv G i L ↔ ∃ (j : Nat) (u : aTV), aNth L j = some u ∧ u.1 ≤ 2 ∧ q = (i + j, aV G u) := by
  intro L
  induction L with
  | nil => intro i; simp [aLv, aNth]
  | cons v L ih =>
    intro i
    have key : (∃ (j : Nat) (u : aTV), aNth (v :: L) j = some u ∧ u.1 ≤ 2 ∧ q = (i + j, aV G u)) ↔ (v.1 ≤ 2 ∧ q = (i, aV G v)) ∨ ∃ (j : Nat) (u : aTV), aNth L j = some u ∧ u.1 ≤ 2 ∧ q = (i + 1 + j, aV G u) := by
      constructor
      · rintro ⟨j, u, h1, h2, h3⟩
        cases j with
        | zero =>
          simp only [aNth, Option.some.injEq] at h1
          subst h1
          exact Or.inl ⟨h2, h3⟩
        | succ j => exact Or.inr ⟨j, u, h1, h2, by rw [h3]; congr 1; omega⟩
      · rintro (⟨h1, h2⟩ | ⟨j, u, h1, h2, h3⟩)
        · exact ⟨0, v, rfl, h1, h2⟩
        · exact ⟨j + 1, u, h1, h2, by rw [h3]; congr 1; omega⟩
    rw [key]
    unfold aLv
    split
    · rename_i hv
      rw [List.mem_cons, ih]
      simp [hv]
    · rename_i hv
      rw [ih]
      simp [hv]
theorem lv_fewer {ls : Array Slot} {n : Nat} {l l' : List (Nat × Value)} (h : lv_has ls n l) (hs : ∀ q ∈ l', q ∈ l) : lv_has ls n l' := ⟨h.1, h.2.1, fun q hq => h.2.2 q (hs q hq)⟩
theorem aNth_set {α : Type} (v : α) : ∀ (L : List α) (i j : Nat) (u : α), aNth (aSet L i v) j = some u → (j = i ∧ u = v) ∨ (j ≠ i ∧ aNth L j = some u) := by
  intro L
  induction L with
  | nil => intro i j u h; simp [aSet, aNth] at h
  | cons x L ih =>
    intro i j u h
    cases i with
    | zero =>
      cases j with
      | zero => simp only [aSet, aNth, Option.some.injEq] at h; exact Or.inl ⟨rfl, h.symm⟩
      | succ j => exact Or.inr ⟨by omega, h⟩
    | succ i =>
      cases j with
      | zero => exact Or.inr ⟨by omega, h⟩
      | succ j =>
        rcases ih i j u h with ⟨h1, h2⟩ | ⟨h1, h2⟩
        · exact Or.inl ⟨by omega, h2⟩
        · exact Or.inr ⟨by omega, h2⟩
theorem aNth_mem {α : Type} : ∀ {L : List α} {i : Nat} {u : α}, aNth L i = some u → u ∈ L := by
  intro L
  induction L with
  | nil => intro i u h; simp [aNth] at h
  | cons x L ih =>
    intro i u h
    cases i with
    | zero => simp only [aNth, Option.some.injEq] at h; subst h; exact List.mem_cons_self
    | succ i => exact List.mem_cons_of_mem _ (ih h)
theorem aSet_mem {α : Type} {v : α} : ∀ {L : List α} {i : Nat} {u : α}, u ∈ aSet L i v → u = v ∨ u ∈ L := by
  intro L
  induction L with
  | nil => intro i u h; simp [aSet] at h
  | cons x L ih =>
    intro i u h
    cases i with
    | zero =>
      rcases List.mem_cons.mp h with h | h
      · exact Or.inl h
      · exact Or.inr (List.mem_cons_of_mem _ h)
    | succ i =>
      rcases List.mem_cons.mp h with h | h
      · exact Or.inr (h ▸ List.mem_cons_self)
      · rcases ih h with h | h
        · exact Or.inl h
        · exact Or.inr (List.mem_cons_of_mem _ h)
theorem pT_inv {S : List aTV} {f : Int → List aTV → Prop} {t : Nat} (h : pT S f t) : ∃ (w : Int) (S' : List aTV), S = (t, w) :: S' ∧ f w S' := by
  unfold pT at h
  split at h
  · exact h.elim
  · rename_i v S'
    obtain ⟨x, w⟩ := v
    cases hb : Nat.beq x t with
    | true =>
      rw [Nat.eq_of_beq_eq_true hb]
      simp only [hb, cond_true] at h
      exact ⟨w, S', rfl, h⟩
    | false => simp only [hb, cond_false] at h
theorem pR_inv {S : List aTV} {g : Nat → List aTV → Prop} (h : pR S g) : ∃ (n : Nat) (S' : List aTV), S = (2, Int.ofNat n) :: S' ∧ g n S' := by
  obtain ⟨w, S', rfl, h⟩ := pT_inv h
  cases w with
  | ofNat n => exact ⟨n, S', rfl, h⟩
  | negSucc n => exact h.elim
theorem lT_inv {L : List aTV} {f : Int → Prop} {t i : Nat} (h : lT L f t i) : ∃ w : Int, aNth L i = some (t, w) ∧ f w := by
  unfold lT at h
  split at h
  · exact h.elim
  · rename_i v hv
    obtain ⟨x, w⟩ := v
    cases hb : Nat.beq x t with
    | true =>
      rw [Nat.eq_of_beq_eq_true hb] at hv
      simp only [hb, cond_true] at h
      exact ⟨w, hv, h⟩
    | false => simp only [hb, cond_false] at h
theorem sT_inv {L : List aTV} {i : Nat} {v : aTV} {f : List aTV → Prop} (h : sT L i v f) : f (aSet L i v) ∧ ∀ (j : Nat) (u : aTV), j + 1 = i → aNth L j = some u → u.1 ≠ 1 := by
  unfold sT at h
  split at h
  · exact ⟨h, fun j u e => by omega⟩
  · split at h
    · exact h.elim
    · rename_i j _ u hu
      cases hb : Nat.beq u.1 1 with
      | true => simp only [hb, cond_true] at h
      | false =>
        simp only [hb, cond_false] at h
        refine ⟨h, fun j' u' e hu' => ?_⟩
        have : j' = j := by omega
        subst this
        rw [hu] at hu'
        cases hu'
        exact fun q => by rw [q] at hb; cases hb
theorem bif_inv {b : Bool} {A : Prop} (h : bif b then A else False) : b = true ∧ A := by
  cases b with
  | true => exact ⟨rfl, h⟩
  | false => exact h.elim
theorem aOkL_cons {v : aTV} {L : List aTV} : aOkL (v :: L) ↔ aOk v ∧ aOkL L := by simp [aOkL]
theorem aOk_i {w : Int} (h : i32 w) : aOk (0, w) := ⟨fun _ => h, (fun q => by cases q), (fun q => by cases q)⟩
theorem aOk_l {w : Int} (h : i64 w) : aOk (1, w) := ⟨(fun q => by cases q), fun _ => h, (fun q => by cases q)⟩
theorem aOk_r {w : Int} (h : 0 ≤ w) : aOk (2, w) := ⟨(fun q => by cases q), (fun q => by cases q), fun _ => h⟩
theorem aOk_9 : aOk (9, 0) := ⟨(fun q => by cases q), (fun q => by cases q), (fun q => by cases q)⟩
theorem aOkL_set {L : List aTV} {i : Nat} {v : aTV} (h : aOkL L) (hv : aOk v) : aOkL (aSet L i v) := fun u hu => (aSet_mem hu).elim (fun q => q ▸ hv) (h u)
theorem aV_cat1 {G : aCX} {t : Nat} {w : Int} (h : t ≠ 1) : (aV G (t, w)).category = 1 := by
  unfold aV aRf
  split
  · rfl
  · rename_i q; exact absurd q h
  · split <;> rfl
theorem aCat_eq (G : aCX) : ∀ S : List aTV, ((S.map (aV G)).map fun v => v.category).sum = aCat S := by
  intro S
  induction S with
  | nil => rfl
  | cons v S ih =>
    obtain ⟨t, w⟩ := v
    simp only [List.map_cons, List.sum_cons, ih, aCat]
    congr 1
    by_cases h : t = 1
    · subst h; rfl
    · rw [aV_cat1 h]
      have : Nat.beq t 1 = false := by
        cases hb : Nat.beq t 1 with
        | false => rfl
        | true => exact absurd (Nat.eq_of_beq_eq_true hb) h
      simp [this]
section
variable {G : aCX} {l : Launch} {p : Program} {e : Env} {R : Room} {s : State} {m : MethodId} {args : Array Value} {below : List Frame} {meth : Method} {c : Code} {Q : State → Prop} {H : Heap} {locs : List Loc} {cells slots : Nat} {g : JFrame}
/-- the counts of what is new may be told anew by the heap itself -/
theorem W.fix (k n : Nat) (h1 : H.size ≤ s.heap.size + k) (h2 : hSum s.heap.size H ≤ n) (kk : W p l e R s m args below meth c H locs k n Q g) : W p l e R s m args below meth c H locs cells slots Q g := by
  intro T hT X
  refine kk T hT { X with same := ?_ }
  obtain ⟨a1, a2, a3, a4, a5, a6⟩ := X.same
  have e1 : (T.setVm s.vm).heap = H := hT
  refine ⟨a1, a2, by rw [e1]; exact h1, a4, ?_, a6⟩
  rw [e1]
  exact h2
theorem W.cap {st : aSt} (hH : aHold G st H) (hC : aCan st) (hB : G.1.1 + 1 ≤ s.heap.size) (kk : W p l e R s m args below meth c H locs 3000 200000 Q g) : W p l e R s m args below meth c H locs cells slots Q g := by
  obtain ⟨-, ⟨h1, h2, h3⟩, -⟩ := hC
  obtain ⟨a1, ⟨a2, -, a3⟩, -⟩ := hH
  have := hSum_drop hB H
  unfold aAd at a1
  exact W.fix 3000 200000 (by omega) (by omega) kk
end
