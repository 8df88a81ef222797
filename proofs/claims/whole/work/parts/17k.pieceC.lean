/-! ===== a treaty line, piece by piece: the class ===== -/
def bgF (h l : Int) : Int → Int := fun j => if j = 0 then h else if j = 1 then l else if j = 12 then -1 else if j = 13 then -1 else 0
def FrR (T t : Nat) (D D' : Nat → Int → Int) : Prop := (∀ q, q ≠ 2 → q ≠ 5 → q ≠ T + 9 + 3 * t → q ≠ T + 10 + 3 * t → q ≠ T + 11 + 3 * t → D' q = D q) ∧ D' 2 3 = D 2 3 ∧ ∀ j : Int, j ≠ 4 → D' 5 j = D 5 j
theorem FrR_refl {T t : Nat} {D : Nat → Int → Int} : FrR T t D D := ⟨fun _ _ _ _ _ _ => rfl, rfl, fun _ _ => rfl⟩
theorem FrR_trans {T t : Nat} {A B C : Nat → Int → Int} (h : FrR T t A B) (g : FrR T t B C) : FrR T t A C := ⟨fun r q1 q2 q3 q4 q5 => (g.1 r q1 q2 q3 q4 q5).trans (h.1 r q1 q2 q3 q4 q5), g.2.1.trans h.2.1, fun j q => (g.2.2 j q).trans (h.2.2 j q)⟩
theorem FrR_C {T t : Nat} {D D' : Nat → Int → Int} (ht : t < 24) (h : FrR T t D D') : FrC T D D' := ⟨fun r q1 q2 q3 q4 q5 => h.1 r q1 q2 (by omega) (by omega) (by omega), h.2.1, h.2.2⟩
theorem FrR_0 {T t : Nat} {D D' : Nat → Int → Int} (h : Fr0 D D') : FrR T t D D' := ⟨fun r q1 q2 _ _ _ => h.1 r q1 q2, h.2.1, h.2.2⟩
theorem FrR_up {T t r : Nat} {D : Nat → Int → Int} {i v : Int} (hT : isT T) (h : r = T + 9 + 3 * t ∨ r = T + 10 + 3 * t ∨ r = T + 11 + 3 * t) : FrR T t D (aUp D r i v) := by
  have hT : T = 8 ∨ T = 129 := hT
  exact ⟨fun q q1 q2 q3 q4 q5 => aUp_row (by omega), by rw [aUp_row (by omega)], fun j q => by rw [aUp_row (by omega)]⟩
/-- the parts that a treaty has by now -/
def PaC (T t : Nat) (r : PT5) (D : Nat → Int → Int) : Prop := D (T + 9 + 3 * t) 7 = (r.2.2.1 : Nat) ∧ ∀ i : Nat, i < r.2.2.1 → D (T + 10 + 3 * t) i = r.2.2.2.1 i ∧ D (T + 11 + 3 * t) i = r.2.2.2.2 i
section
variable {G : aCX} {l : Launch} {d : Nat} {K : Nat → aKd} {D : Nat → Int → Int} {z : Nat × Nat} {P : Int → aSt → Prop}
theorem v_beginT {T t : Nat} {h ly : Int} (hk : Kn K) (hT : isT T) (ht : t < 24) (hly : ly = 0 ∨ ly = 1) (kk : ∀ D' : Nat → Int → Int, (∀ q, q ≠ T + 9 + 3 * t → D' q = D q) → (∀ j : Int, 0 ≤ j → j < 15 → j ≠ 8 → j ≠ 9 → D' (T + 9 + 3 * t) j = bgF h ly j) → P 0 (K, D', z)) : VM G l d iX9_begin [rf (T + 9 + 3 * t), (0, h), (0, ly)] (K, D, z) P := by
  refine VM_go (tg2 rfl) (Nat.le_of_ble_eq_true rfl) ?_
  refine s_al0 rfl ?_
  refine s_il1 rfl ?_
  refine s_pi rfl (KTt hk hT ht).1 rfl ?_
  refine s_al0 rfl ?_
  refine s_il2 rfl ?_
  refine s_pz rfl (KTt hk hT ht).1 rfl hly ?_
  refine s_al0 rfl ?_
  refine s_ic rfl ?_
  refine s_pz rfl (KTt hk hT ht).1 rfl (Or.inl rfl) ?_
  refine s_al0 rfl ?_
  refine s_ic rfl ?_
  refine s_pi rfl (KTt hk hT ht).1 rfl ?_
  refine s_al0 rfl ?_
  refine s_ic rfl ?_
  refine s_pi rfl (KTt hk hT ht).1 rfl ?_
  refine s_al0 rfl ?_
  refine s_ic rfl ?_
  refine s_pi rfl (KTt hk hT ht).1 rfl ?_
  refine s_al0 rfl ?_
  refine s_ic rfl ?_
  refine s_pi rfl (KTt hk hT ht).1 rfl ?_
  refine s_al0 rfl ?_
  refine s_ic rfl ?_
  refine s_pi rfl (KTt hk hT ht).1 rfl ?_
  refine s_al0 rfl ?_
  refine s_ic rfl ?_
  refine s_pi rfl (KTt hk hT ht).1 rfl ?_
  refine s_al0 rfl ?_
  refine s_ic rfl ?_
  refine s_pi rfl (KTt hk hT ht).1 rfl ?_
  refine s_al0 rfl ?_
  refine s_ic rfl ?_
  refine s_pi rfl (KTt hk hT ht).1 rfl ?_
  refine s_al0 rfl ?_
  refine s_ic rfl ?_
  refine s_pi rfl (KTt hk hT ht).1 rfl ?_
  refine s_al0 rfl ?_
  refine s_ic rfl ?_
  refine s_pi rfl (KTt hk hT ht).1 rfl ?_
  refine s_retv rfl rfl ?_
  refine kk _ (fun q hq => ?_) (fun j j1 j2 j8 j9 => ?_)
  · repeat rw [aUp_row hq]
  · have hj : j = 0 ∨ j = 1 ∨ j = 2 ∨ j = 3 ∨ j = 4 ∨ j = 5 ∨ j = 6 ∨ j = 7 ∨ j = 10 ∨ j = 11 ∨ j = 12 ∨ j = 13 ∨ j = 14 := by omega
    rcases hj with rfl | rfl | rfl | rfl | rfl | rfl | rfl | rfl | rfl | rfl | rfl | rfl | rfl <;> simp [aUp_app, bgF]
theorem v_hasPart {T t m : Nat} {h : Int} (hk : Kn K) (hT : isT T) (ht : t < 24) (hm : D (T + 9 + 3 * t) 7 = m) (h11 : m ≤ 11) (kk : P (if ixF (D (T + 10 + 3 * t)) h m ≠ -1 then 1 else 0) (K, D, z)) : VM G l d iX9_hasPart [rf (T + 9 + 3 * t), (0, h)] (K, D, z) P := by
  have loop : ∀ (f i : Nat), i + f = m → ixF (D (T + 10 + 3 * t)) h i = -1 → V G l d iX9_hasPart 2 [rf (T + 9 + 3 * t), (0, h), (0, (i : Int))] [] (K, D, z) P := by
    intro f
    induction f with
    | zero =>
      intro i hi h0
      have : i = m := by omega
      subst this
      refine s_il2 rfl ?_
      refine s_al0 rfl ?_
      refine s_gi rfl (KTt hk hT ht).1 rfl ?_
      rw [hm]
      refine s_cge rfl ?_ ?_
      · intro h7
        refine s_ic rfl ?_
        refine s_retz rfl rfl (Or.inl rfl) ?_
        rw [h0, if_neg (fun q => q rfl)] at kk; exact kk
      · intro h7
        omega
    | succ f ih =>
      intro i hi h0
      refine s_il2 rfl ?_
      refine s_al0 rfl ?_
      refine s_gi rfl (KTt hk hT ht).1 rfl ?_
      rw [hm]
      refine s_cge rfl ?_ ?_
      · intro h7
        omega
      · intro h7
        refine s_al0 rfl ?_
        refine s_gf rfl (KTt hk hT ht).1 rfl rfl ?_
        refine s_il2 rfl ?_
        refine s_iald rfl (KTt hk hT ht).2.1 (by omega) ?_
        refine s_il1 rfl ?_
        refine s_cne rfl ?_ ?_
        · intro h17
          refine s_iinc2 rfl rfl ⟨by omega, by omega⟩ ?_
          refine s_go rfl ?_
          exact ih (i + 1) (by omega) (by rw [ixF, if_pos h0, if_neg h17])
        · intro h17
          refine s_ic rfl ?_
          refine s_retz rfl rfl (Or.inr rfl) ?_
          have e : ixF (D (T + 10 + 3 * t)) h (i + 1) = i := by rw [ixF, if_pos h0, if_pos h17]
          have e2 := ixF_stay (f := D (T + 10 + 3 * t)) (x := h) (i := i + 1) (by rw [e]; omega) f
          rw [show i + 1 + f = m by omega] at e2
          rw [e2, e, if_pos (by omega)] at kk; exact kk
  refine VM_go (tg2 rfl) (Nat.le_of_ble_eq_true rfl) ?_
  refine s_ic rfl ?_
  refine s_is2 rfl rfl ?_
  exact loop m 0 (by omega) rfl
theorem v_sharesTogether {T t m : Nat} (hk : Kn K) (hT : isT T) (ht : t < 24) (hm : D (T + 9 + 3 * t) 7 = m) (h11 : m ≤ 11) (hb : ∀ i : Nat, i < m → 0 ≤ D (T + 11 + 3 * t) i ∧ D (T + 11 + 3 * t) i ≤ 1000) (kk : P (sumF (fun i : Nat => D (T + 11 + 3 * t) i) m) (K, D, z)) : VM G l d iX9_sharesTogether [rf (T + 9 + 3 * t)] (K, D, z) P := by
  have loop : ∀ (f i : Nat), i + f = m → V G l d iX9_sharesTogether 4 [rf (T + 9 + 3 * t), (0, sumF (fun i : Nat => D (T + 11 + 3 * t) i) i), (0, (i : Int))] [] (K, D, z) P := by
    intro f
    induction f with
    | zero =>
      intro i hi
      have : i = m := by omega
      subst this
      refine s_il2 rfl ?_
      refine s_al0 rfl ?_
      refine s_gi rfl (KTt hk hT ht).1 rfl ?_
      rw [hm]
      refine s_cge rfl ?_ ?_
      · intro h9
        refine s_il1 rfl ?_
        refine s_reti rfl rfl ?_
        exact kk
      · intro h9
        omega
    | succ f ih =>
      intro i hi
      have s1 := sumF_nonneg (f := fun i : Nat => D (T + 11 + 3 * t) i) (n := i) (fun k hk => (hb k (by omega)).1)
      have s2 := sumF_le (f := fun i : Nat => D (T + 11 + 3 * t) i) (n := i) (c := 1000) (fun k hk => (hb k (by omega)).2)
      have s3 := hb i (by omega)
      have e : sumF (fun i : Nat => D (T + 11 + 3 * t) i) i + D (T + 11 + 3 * t) i = sumF (fun i : Nat => D (T + 11 + 3 * t) i) (i + 1) := rfl
      refine s_il2 rfl ?_
      refine s_al0 rfl ?_
      refine s_gi rfl (KTt hk hT ht).1 rfl ?_
      rw [hm]
      refine s_cge rfl ?_ ?_
      · intro h9
        omega
      · intro h9
        refine s_il1 rfl ?_
        refine s_al0 rfl ?_
        refine s_gf rfl (KTt hk hT ht).1 rfl rfl ?_
        refine s_il2 rfl ?_
        refine s_iald rfl (KTt hk hT ht).2.2 (by omega) ?_
        refine s_iadd rfl ⟨by omega, by omega⟩ ?_
        rw [e]
        refine s_is1 rfl rfl ?_
        refine s_iinc2 rfl rfl ⟨by omega, by omega⟩ ?_
        refine s_go rfl ?_
        exact ih (i + 1) (by omega)
  refine VM_go (tg2 rfl) (Nat.le_of_ble_eq_true rfl) ?_
  refine s_ic rfl ?_
  refine s_is1 rfl rfl ?_
  refine s_ic rfl ?_
  refine s_is2 rfl rfl ?_
  exact loop m 0 (by omega)
theorem v_addPart {T t m : Nat} {h sh : Int} (hk : Kn K) (hT : isT T) (ht : t < 24) (hm : D (T + 9 + 3 * t) 7 = m) (h11 : m < 11) (kk : P 0 (K, aUp (aUp (aUp D (T + 10 + 3 * t) m h) (T + 11 + 3 * t) m sh) (T + 9 + 3 * t) 7 ((m : Int) + 1), z)) : VM G l d iX9_addPart [rf (T + 9 + 3 * t), (0, h), (0, sh)] (K, D, z) P := by
  have e1 : aUp D (T + 10 + 3 * t) m h (T + 9 + 3 * t) 7 = m := by rw [aUp_row (by omega)]; exact hm
  have e2 : aUp (aUp D (T + 10 + 3 * t) m h) (T + 11 + 3 * t) m sh (T + 9 + 3 * t) 7 = m := by rw [aUp_row (by omega)]; exact e1
  refine VM_go (tg2 rfl) (Nat.le_of_ble_eq_true rfl) ?_
  refine s_al0 rfl ?_
  refine s_gi rfl (KTt hk hT ht).1 rfl ?_
  rw [hm]
  refine s_ic rfl ?_
  refine s_cge rfl ?_ ?_
  · intro h6
    omega
  · intro h6
    refine s_al0 rfl ?_
    refine s_gf rfl (KTt hk hT ht).1 rfl rfl ?_
    refine s_al0 rfl ?_
    refine s_gi rfl (KTt hk hT ht).1 rfl ?_
    rw [hm]
    refine s_il1 rfl ?_
    refine s_iast rfl (KTt hk hT ht).2.1 (by omega) ?_
    refine s_al0 rfl ?_
    refine s_gf rfl (KTt hk hT ht).1 rfl rfl ?_
    refine s_al0 rfl ?_
    refine s_gi rfl (KTt hk hT ht).1 rfl ?_
    rw [e1]
    refine s_il2 rfl ?_
    refine s_iast rfl (KTt hk hT ht).2.2 (by omega) ?_
    refine s_al0 rfl ?_
    refine s_dup rfl (by first | decide | (show (2 : Nat) ≠ 1; decide)) ?_
    refine s_gi rfl (KTt hk hT ht).1 rfl ?_
    rw [e2]
    refine s_ic rfl ?_
    refine s_iadd rfl ⟨by omega, by omega⟩ ?_
    refine s_pi rfl (KTt hk hT ht).1 rfl ?_
    refine s_retv rfl rfl ?_
    exact kk
theorem v_addTreaty {T nt : Nat} {own ly : Int} (hk : Kn K) (hT : isT T) (hnt : D T 1 = nt) (h24 : nt < 24) (ho : 0 ≤ own ∧ own < 12) (hly : ly = 0 ∨ ly = 1) (hla : D (T + 3) own = -1 ∨ ∃ a : Nat, a < nt ∧ D (T + 3) own = a) (kk : ∀ D' : Nat → Int → Int, (∀ j : Int, 0 ≤ j → j < 15 → j ≠ 8 → j ≠ 9 → D' (T + 9 + 3 * nt) j = bgF own ly j) → D' T = uF (D T) 1 ((nt : Int) + 1) → D' (T + 3) = uF (D (T + 3)) own nt → (D (T + 3) own = -1 → D' (T + 2) = uF (D (T + 2)) own nt ∧ ∀ q, q ≠ T → q ≠ T + 2 → q ≠ T + 3 → q ≠ T + 9 + 3 * nt → D' q = D q) → (∀ a : Nat, a < nt → D (T + 3) own = a → D' (T + 9 + 3 * a) = uF (D (T + 9 + 3 * a)) 12 nt ∧ ∀ q, q ≠ T → q ≠ T + 3 → q ≠ T + 9 + 3 * nt → q ≠ T + 9 + 3 * a → D' q = D q) → P ((T + 9 + 3 * nt : Nat) : Int) (K, D', z)) : VM G l (d + 1) iX8_addTreaty [rf T, (0, own), (0, ly)] (K, D, z) P := by
  have hT2 : T = 8 ∨ T = 129 := hT
  have mid : ∀ (D1 : Nat → Int → Int) (x : Int), D1 T = D T → D1 (T + 3) = D (T + 3) → (D (T + 3) own = -1 → D1 (T + 2) = uF (D (T + 2)) own nt ∧ ∀ q, q ≠ T + 2 → D1 q = D q) → (∀ a : Nat, a < nt → D (T + 3) own = a → D1 (T + 9 + 3 * a) = uF (D (T + 9 + 3 * a)) 12 nt ∧ ∀ q, q ≠ T + 9 + 3 * a → D1 q = D q) → V G l (d + 1) iX8_addTreaty 45 [rf T, (0, own), (0, ly), (0, (nt : Int)), (0, x), (9, 0)] [] (K, D1, z) P := by
    intro D1 x eT e3 c1 c2
    have eT1 : aUp D1 (T + 3) own nt T 1 = nt := by rw [aUp_row (by omega), eT]; exact hnt
    refine s_al0 rfl ?_
    refine s_gf rfl (KT hk hT) rfl rfl ?_
    refine s_il1 rfl ?_
    refine s_il3 rfl ?_
    refine s_iast rfl (hT.elim (fun h => by subst h; exact hk.at rfl rfl) (fun h => by subst h; exact hk.at rfl rfl)) (by omega) ?_
    refine s_al0 rfl ?_
    refine s_dup rfl (by first | decide | (show (2 : Nat) ≠ 1; decide)) ?_
    refine s_gi rfl (KT hk hT) rfl ?_
    rw [eT1]
    refine s_ic rfl ?_
    refine s_iadd rfl ⟨by omega, by omega⟩ ?_
    refine s_pi rfl (KT hk hT) rfl ?_
    refine s_al0 rfl ?_
    refine s_gf rfl (KT hk hT) rfl rfl ?_
    refine s_il3 rfl ?_
    refine s_aaldT rfl (KTa hk hT).1 (by omega) (w := T + 9 + 3 * nt) (by rw [Int.toNat_natCast, List.getElem?_map, List.getElem?_range (by omega)]; rfl) ?_
    refine s_as5 rfl rfl ?_
    refine s_al5 rfl ?_
    refine s_il1 rfl ?_
    refine s_il2 rfl ?_
    refine s_callO rfl rfl (Or.inl rfl) rfl rfl (KTt hk hT h24).1 (v_beginT hk hT h24 hly (fun D' g1 g2 => ?_))
    show V G l (d + 1) iX8_addTreaty 77 [rf T, (0, own), (0, ly), (0, (nt : Int)), (0, x), rf (T + 9 + 3 * nt)] [] (K, D', z) P
    refine s_al5 rfl ?_
    refine s_retr rfl rfl ?_
    refine kk D' g2 ?_ ?_ (fun y => ?_) (fun a ha y => ?_)
    · rw [g1 T (by omega), aUp_same, aUp_row (by omega), eT]
    · rw [g1 _ (by omega), aUp_row (by omega), aUp_same, e3]
    · obtain ⟨b1, b2⟩ := c1 y
      exact ⟨by rw [g1 _ (by omega), aUp_row (by omega), aUp_row (by omega), b1], fun q q1 q2 q3 q4 => by rw [g1 q q4, aUp_row q1, aUp_row q3, b2 q q2]⟩
    · obtain ⟨b1, b2⟩ := c2 a ha y
      exact ⟨by rw [g1 _ (by omega), aUp_row (by omega), aUp_row (by omega), b1], fun q q1 q2 q3 q4 => by rw [g1 q q3, aUp_row q1, aUp_row q2, b2 q q4]⟩
  refine VM_go (tg2 rfl) (Nat.le_of_ble_eq_true rfl) ?_
  refine s_al0 rfl ?_
  refine s_gi rfl (KT hk hT) rfl ?_
  rw [hnt]
  refine s_is3 rfl rfl ?_
  refine s_al0 rfl ?_
  refine s_gf rfl (KT hk hT) rfl rfl ?_
  refine s_il1 rfl ?_
  refine s_iald rfl (hT.elim (fun h => by subst h; exact hk.at rfl rfl) (fun h => by subst h; exact hk.at rfl rfl)) (by omega) ?_
  refine s_is4 rfl rfl ?_
  refine s_il4 rfl ?_
  refine s_zlt rfl ?_ ?_
  · intro h15
    refine s_al0 rfl ?_
    refine s_gf rfl (KT hk hT) rfl rfl ?_
    refine s_il1 rfl ?_
    refine s_il3 rfl ?_
    refine s_iast rfl (hT.elim (fun h => by subst h; exact hk.at rfl rfl) (fun h => by subst h; exact hk.at rfl rfl)) (by omega) ?_
    first
    | exact mid _ _ (aUp_row (by omega)) (aUp_row (by omega)) (fun y => absurd y (by omega)) (fun a' ha' y => by
        have : a' = a := by omega
        subst this
        exact ⟨aUp_same, fun q hq => aUp_row hq⟩)
    | exact mid _ _ (aUp_row (by omega)) (aUp_row (by omega)) (fun _ => ⟨aUp_same, fun q hq => aUp_row hq⟩) (fun a' ha' y => by omega)
  · intro h15
    obtain ⟨a, ha, ea⟩ : ∃ a : Nat, a < nt ∧ D (T + 3) own = a := hla.resolve_left (by omega)
    refine s_il4 rfl ?_
    refine s_il3 rfl ?_
    refine s_cge rfl ?_ ?_
    · intro h21
      omega
    · intro h21
      refine s_al0 rfl ?_
      refine s_gf rfl (KT hk hT) rfl rfl ?_
      refine s_il4 rfl ?_
      refine s_aaldT rfl (KTa hk hT).1 (by rw [ea]; omega) (w := T + 9 + 3 * a) (by rw [ea, Int.toNat_natCast, List.getElem?_map, List.getElem?_range (by omega)]; rfl) ?_
      refine s_il3 rfl ?_
      refine s_pi rfl (KTt hk hT (show a < 24 by omega)).1 rfl ?_
      refine s_go rfl ?_
      first
      | exact mid _ _ (aUp_row (by omega)) (aUp_row (by omega)) (fun y => absurd y (by omega)) (fun a' ha' y => by
          have : a' = a := by omega
          subst this
          exact ⟨aUp_same, fun q hq => aUp_row hq⟩)
      | exact mid _ _ (aUp_row (by omega)) (aUp_row (by omega)) (fun _ => ⟨aUp_same, fun q hq => aUp_row hq⟩) (fun a' ha' y => by omega)
theorem v_readLimit {s ws : Int → Int} {n T t k : Nat} (hg : SgR G l) (hk : Kn K) (hT : isT T) (ht : t < 24) (hH : TpH s n ws D) (hA : AtC s n ws k D) (k1 : qLm (kT s n ws) (nT s n) (pT2 s n) k = 0 → ∀ D' : Nat → Int → Int, FrR T t D D' → D' (T + 9 + 3 * t) = uF (uF (D (T + 9 + 3 * t)) 3 (nT s n k)) 4 (nT s n (k + 2)) → D' (T + 10 + 3 * t) = D (T + 10 + 3 * t) → D' (T + 11 + 3 * t) = D (T + 11 + 3 * t) → AtC s n ws (k + 3) D' → P 1 (K, D', z)) (k0 : ∀ D' : Nat → Int → Int, FrC T D D' → D' 5 4 = qLm (kT s n ws) (nT s n) (pT2 s n) k → qLm (kT s n ws) (nT s n) (pT2 s n) k ≠ 0 → P 0 (K, D', z)) : VM G l (d + 3) iX4_readLimit [rf 5, rf (T + 9 + 3 * t)] (K, D, z) P := by
  have hT2 : T = 8 ∨ T = 129 := hT
  have h15 := hH.2.2.2.1
  have hpl : ∀ k, 0 ≤ pT2 s n k := fun k => (pl_in (s := s) (n := n) (k := k) h15).1
  have bad : ∀ (f : Int) (D' : Nat → Int → Int), FrC T D D' → D' 5 4 = f → qLm (kT s n ws) (nT s n) (pT2 s n) k = f → f ≠ 0 → P 0 (K, D', z) := fun f D' q1 q2 q3 q4 => k0 D' q1 (by rw [q3]; exact q2) (by rw [q3]; exact q4)
  have hF : qLm (kT s n ws) (nT s n) (pT2 s n) k = qFo (qNm (kT s n ws) (nT s n) (pT2 s n) 1 999999 k) (qFo (qTk (kT s n ws) (pT2 s n) 21 (k + 1)) (qNm (kT s n ws) (nT s n) (pT2 s n) 0 999999 (k + 2))) := rfl
  refine VM_go (tg2 rfl) (Nat.le_of_ble_eq_true rfl) ?_
  refine s_al0 rfl ?_
  refine s_ic rfl ?_
  refine s_ic rfl ?_
  refine s_callO rfl rfl (Or.inl rfl) rfl rfl (hk.at rfl rfl) (v_isNumber (s := s) (ws := ws) (n := n) (k := k) hk hH hA (fun y0 z0 w0 => ?_) (fun y0 => ?_) (fun y0 z0 => ?_))
  rotate_left
  · show V G l (d + 3) iX4_readLimit 7 [rf 5, rf (T + 9 + 3 * t)] [(0, 0)] (K, _, z) P
    refine s_zne rfl (fun q => absurd rfl q) (fun _ => ?_)
    refine s_ic rfl ?_
    refine s_retz rfl rfl (Or.inl rfl) ?_
    exact bad _ _ (FrC_trans FrC_refl (FrC_0 Fr0_fault)) aUp_at (by rw [hF, qNm_1 y0, qFo_l (by have := hpl (k); omega)]) (by have := hpl (k); omega)
  · show V G l (d + 3) iX4_readLimit 7 [rf 5, rf (T + 9 + 3 * t)] [(0, 0)] (K, _, z) P
    refine s_zne rfl (fun q => absurd rfl q) (fun _ => ?_)
    refine s_ic rfl ?_
    refine s_retz rfl rfl (Or.inl rfl) ?_
    exact bad _ _ (FrC_trans FrC_refl (FrC_0 Fr0_fault)) aUp_at (by rw [hF, qNm_4 y0 z0, qFo_l (by have := hpl (k); omega)]) (by have := hpl (k); omega)
  rw [qNm_0 y0 z0, qFo_r rfl] at hF
  show V G l (d + 3) iX4_readLimit 7 [rf 5, rf (T + 9 + 3 * t)] [(0, 1)] (K, D, z) P
  refine s_zne rfl ?_ ?_
  · intro h7
    refine s_al1 rfl ?_
    refine s_al0 rfl ?_
    refine s_gf rfl (hk.at rfl rfl) rfl rfl ?_
    refine s_gi rfl (hk.at rfl rfl) rfl ?_
    rw [w0]
    refine s_pi rfl (KTt hk hT ht).1 rfl ?_
    generalize hD1 : aUp D (T + 9 + 3 * t) 3 (nT s n k) = D1
    have u1 : ∀ r, r ≠ T + 9 + 3 * t → D1 r = D r := fun r hr => by rw [← hD1, aUp_row hr]
    have fR1 : FrR T t D D1 := by rw [← hD1]; exact FrR_up hT (Or.inl rfl)
    have fD1 := FrR_C ht fR1
    have hHD1 := FrC_TpH hT fD1 hH
    have hAD1 := AtC_keep hA (u1 2 (by omega)) (u1 5 (by omega))
    refine s_al0 rfl ?_
    refine s_gf rfl (hk.at rfl rfl) rfl rfl ?_
    refine s_callO rfl rfl (Or.inl rfl) rfl rfl (hk.at rfl rfl) (v_adv (s := s) (ws := ws) (n := n) (k := k) hg hk hHD1 hAD1 (fun D2 gD2 hD2 hAD2 => ?_))
    have fD2 : FrC T D D2 := FrC_trans fD1 (FrC_0 (Fr0_tape gD2 hD2))
    have hHD2 := TpH_keep hHD1 (gD2 3 (by decide)) (gD2 4 (by decide)) hD2
    show V G l (d + 3) iX4_readLimit 30 [rf 5, rf (T + 9 + 3 * t)] [] (K, D2, z) P
    refine s_al0 rfl ?_
    refine s_ic rfl ?_
    refine s_callO rfl rfl (Or.inl rfl) rfl rfl (hk.at rfl rfl) (v_take (s := s) (ws := ws) (n := n) (k := k + 1) hg hk hHD2 hAD2 (fun yD3 D3 xD3 hAD3 => ?_) (fun yD3 => ?_))
    rotate_left
    · show V G l (d + 3) iX4_readLimit 36 [rf 5, rf (T + 9 + 3 * t)] [(0, 0)] (K, _, z) P
      refine s_zeq rfl (fun _ => ?_) (fun q => absurd rfl q)
      refine s_ic rfl ?_
      refine s_retz rfl rfl (Or.inl rfl) ?_
      exact bad _ _ (FrC_trans fD2 (FrC_0 Fr0_fault)) aUp_at (by rw [hF, qTk_1 yD3, qFo_l (by have := hpl (k + 1); omega)]) (by have := hpl (k + 1); omega)
    rw [qTk_0 yD3, qFo_r rfl] at hF
    have fD3 : FrC T D D3 := FrC_trans fD2 (FrC_0 xD3)
    have hHD3 := Fr0_TpH xD3 hHD2
    show V G l (d + 3) iX4_readLimit 36 [rf 5, rf (T + 9 + 3 * t)] [(0, 1)] (K, D3, z) P
    refine s_zeq rfl ?_ ?_
    · intro h36
      exact absurd h36 (by decide)
    · intro h36
      refine s_al0 rfl ?_
      refine s_ic rfl ?_
      refine s_ic rfl ?_
      refine s_callO rfl rfl (Or.inl rfl) rfl rfl (hk.at rfl rfl) (v_isNumber (s := s) (ws := ws) (n := n) (k := k + 2) hk hHD3 hAD3 (fun y3 z3 w3 => ?_) (fun y3 => ?_) (fun y3 z3 => ?_))
      rotate_left
      · show V G l (d + 3) iX4_readLimit 46 [rf 5, rf (T + 9 + 3 * t)] [(0, 0)] (K, _, z) P
        refine s_zne rfl (fun q => absurd rfl q) (fun _ => ?_)
        refine s_ic rfl ?_
        refine s_retz rfl rfl (Or.inl rfl) ?_
        exact bad _ _ (FrC_trans fD3 (FrC_0 Fr0_fault)) aUp_at (by rw [hF, qNm_1 y3]) (by have := hpl (k + 2); omega)
      · show V G l (d + 3) iX4_readLimit 46 [rf 5, rf (T + 9 + 3 * t)] [(0, 0)] (K, _, z) P
        refine s_zne rfl (fun q => absurd rfl q) (fun _ => ?_)
        refine s_ic rfl ?_
        refine s_retz rfl rfl (Or.inl rfl) ?_
        exact bad _ _ (FrC_trans fD3 (FrC_0 Fr0_fault)) aUp_at (by rw [hF, qNm_4 y3 z3]) (by have := hpl (k + 2); omega)
      rw [qNm_0 y3 z3] at hF
      show V G l (d + 3) iX4_readLimit 46 [rf 5, rf (T + 9 + 3 * t)] [(0, 1)] (K, D3, z) P
      refine s_zne rfl ?_ ?_
      · intro h46
        refine s_al1 rfl ?_
        refine s_al0 rfl ?_
        refine s_gf rfl (hk.at rfl rfl) rfl rfl ?_
        refine s_gi rfl (hk.at rfl rfl) rfl ?_
        rw [w3]
        refine s_pi rfl (KTt hk hT ht).1 rfl ?_
        generalize hD4 : aUp D3 (T + 9 + 3 * t) 4 (nT s n (k + 2)) = D4
        have u4 : ∀ r, r ≠ T + 9 + 3 * t → D4 r = D3 r := fun r hr => by rw [← hD4, aUp_row hr]
        have fR4 : FrR T t D3 D4 := by rw [← hD4]; exact FrR_up hT (Or.inl rfl)
        have fD4 : FrC T D D4 := FrC_trans fD3 (FrR_C ht fR4)
        have hHD4 := FrC_TpH hT fD4 hH
        have hAD4 := AtC_keep hAD3 (u4 2 (by omega)) (u4 5 (by omega))
        refine s_al0 rfl ?_
        refine s_gf rfl (hk.at rfl rfl) rfl rfl ?_
        refine s_callO rfl rfl (Or.inl rfl) rfl rfl (hk.at rfl rfl) (v_adv (s := s) (ws := ws) (n := n) (k := k + 2) hg hk hHD4 hAD4 (fun D5 gD5 hD5 hAD5 => ?_))
        have fD5 : FrC T D D5 := FrC_trans fD4 (FrC_0 (Fr0_tape gD5 hD5))
        have hHD5 := TpH_keep hHD4 (gD5 3 (by decide)) (gD5 4 (by decide)) hD5
        show V G l (d + 3) iX4_readLimit 69 [rf 5, rf (T + 9 + 3 * t)] [] (K, D5, z) P
        refine s_ic rfl ?_
        refine s_retz rfl rfl (Or.inr rfl) ?_
        refine k1 hF D5 (FrR_trans fR1 (FrR_trans (FrR_0 (Fr0_tape gD2 hD2)) (FrR_trans (FrR_0 xD3) (FrR_trans fR4 (FrR_0 (Fr0_tape gD5 hD5)))))) ?_ ?_ ?_ hAD5
        · rw [gD5 _ (by omega), ← hD4, aUp_same, xD3.1 _ (by omega) (by omega), gD2 _ (by omega), ← hD1, aUp_same]
        · rw [gD5 _ (by omega), u4 _ (by omega), xD3.1 _ (by omega) (by omega), gD2 _ (by omega), u1 _ (by omega)]
        · rw [gD5 _ (by omega), u4 _ (by omega), xD3.1 _ (by omega) (by omega), gD2 _ (by omega), u1 _ (by omega)]
      · intro h46
        exact absurd h46 (by decide)
  · intro h7
    exact absurd h7 (by decide)
theorem v_readAgain {s ws : Int → Int} {n T t k : Nat} (hg : SgR G l) (hk : Kn K) (hT : isT T) (ht : t < 24) (hH : TpH s n ws D) (hA : AtC s n ws k D) (k1 : qA5 (kT s n ws) (nT s n) (pT2 s n) 1 k = 0 → ∀ D' : Nat → Int → Int, FrR T t D D' → D' (T + 9 + 3 * t) = (if kT s n ws k = 22 then uF (uF (D (T + 9 + 3 * t)) 5 (nT s n (k + 1))) 6 (nT s n (k + 3)) else D (T + 9 + 3 * t)) → D' (T + 10 + 3 * t) = D (T + 10 + 3 * t) → D' (T + 11 + 3 * t) = D (T + 11 + 3 * t) → AtC s n ws (qT5 (kT s n ws) 1 k) D' → P 1 (K, D', z)) (k0 : ∀ D' : Nat → Int → Int, FrC T D D' → D' 5 4 = qA5 (kT s n ws) (nT s n) (pT2 s n) 1 k → qA5 (kT s n ws) (nT s n) (pT2 s n) 1 k ≠ 0 → P 0 (K, D', z)) : VM G l (d + 3) iX4_readAgain [rf 5, rf (T + 9 + 3 * t)] (K, D, z) P := by
  have hT2 : T = 8 ∨ T = 129 := hT
  have h15 := hH.2.2.2.1
  have hpl : ∀ k, 0 ≤ pT2 s n k := fun k => (pl_in (s := s) (n := n) (k := k) h15).1
  have bad : ∀ (f : Int) (D' : Nat → Int → Int), FrC T D D' → D' 5 4 = f → qA5 (kT s n ws) (nT s n) (pT2 s n) 1 k = f → f ≠ 0 → P 0 (K, D', z) := fun f D' q1 q2 q3 q4 => k0 D' q1 (by rw [q3]; exact q2) (by rw [q3]; exact q4)
  have e4 : D 2 4 = kT s n ws k := hA.2.2.1
  refine VM_go (tg2 rfl) (Nat.le_of_ble_eq_true rfl) ?_
  refine s_al0 rfl ?_
  refine s_gf rfl (hk.at rfl rfl) rfl rfl ?_
  refine s_gi rfl (hk.at rfl rfl) rfl ?_
  rw [e4]
  refine s_ic rfl ?_
  refine s_ceq rfl ?_ ?_
  · intro h9
    have ha : qHa (kT s n ws) 1 k = true := decide_eq_true ⟨by decide, h9⟩
    have hF : qA5 (kT s n ws) (nT s n) (pT2 s n) 1 k = qFo (qNm (kT s n ws) (nT s n) (pT2 s n) 0 9 (k + 1)) (qFo (qTk (kT s n ws) (pT2 s n) 23 (k + 2)) (qNm (kT s n ws) (nT s n) (pT2 s n) 0 999999 (k + 3))) := by unfold qA5; rw [if_pos ha]; rfl
    refine s_al0 rfl ?_
    refine s_gf rfl (hk.at rfl rfl) rfl rfl ?_
    refine s_callO rfl rfl (Or.inl rfl) rfl rfl (hk.at rfl rfl) (v_adv (s := s) (ws := ws) (n := n) (k := k) hg hk hH hA (fun D1 gD1 hD1 hAD1 => ?_))
    have fD1 : FrC T D D1 := FrC_trans FrC_refl (FrC_0 (Fr0_tape gD1 hD1))
    have hHD1 := TpH_keep hH (gD1 3 (by decide)) (gD1 4 (by decide)) hD1
    show V G l (d + 3) iX4_readAgain 21 [rf 5, rf (T + 9 + 3 * t)] [] (K, D1, z) P
    refine s_al0 rfl ?_
    refine s_ic rfl ?_
    refine s_ic rfl ?_
    refine s_callO rfl rfl (Or.inl rfl) rfl rfl (hk.at rfl rfl) (v_isNumber (s := s) (ws := ws) (n := n) (k := k + 1) hk hHD1 hAD1 (fun y1 z1 w1 => ?_) (fun y1 => ?_) (fun y1 z1 => ?_))
    rotate_left
    · show V G l (d + 3) iX4_readAgain 28 [rf 5, rf (T + 9 + 3 * t)] [(0, 0)] (K, _, z) P
      refine s_zne rfl (fun q => absurd rfl q) (fun _ => ?_)
      refine s_ic rfl ?_
      refine s_retz rfl rfl (Or.inl rfl) ?_
      exact bad _ _ (FrC_trans fD1 (FrC_0 Fr0_fault)) aUp_at (by rw [hF, qNm_1 y1, qFo_l (by have := hpl (k + 1); omega)]) (by have := hpl (k + 1); omega)
    · show V G l (d + 3) iX4_readAgain 28 [rf 5, rf (T + 9 + 3 * t)] [(0, 0)] (K, _, z) P
      refine s_zne rfl (fun q => absurd rfl q) (fun _ => ?_)
      refine s_ic rfl ?_
      refine s_retz rfl rfl (Or.inl rfl) ?_
      exact bad _ _ (FrC_trans fD1 (FrC_0 Fr0_fault)) aUp_at (by rw [hF, qNm_4 y1 z1, qFo_l (by have := hpl (k + 1); omega)]) (by have := hpl (k + 1); omega)
    rw [qNm_0 y1 z1, qFo_r rfl] at hF
    show V G l (d + 3) iX4_readAgain 28 [rf 5, rf (T + 9 + 3 * t)] [(0, 1)] (K, D1, z) P
    refine s_zne rfl ?_ ?_
    · intro h28
      refine s_al1 rfl ?_
      refine s_al0 rfl ?_
      refine s_gf rfl (hk.at rfl rfl) rfl rfl ?_
      refine s_gi rfl (hk.at rfl rfl) rfl ?_
      rw [w1]
      refine s_pi rfl (KTt hk hT ht).1 rfl ?_
      generalize hDa : aUp D1 (T + 9 + 3 * t) 5 (nT s n (k + 1)) = D2
      have u2 : ∀ r, r ≠ T + 9 + 3 * t → D2 r = D1 r := fun r hr => by rw [← hDa, aUp_row hr]
      have fR2 : FrR T t D1 D2 := by rw [← hDa]; exact FrR_up hT (Or.inl rfl)
      have fD2 : FrC T D D2 := FrC_trans fD1 (FrR_C ht fR2)
      have hHD2 := FrC_TpH hT fD2 hH
      have hAD2 := AtC_keep hAD1 (u2 2 (by omega)) (u2 5 (by omega))
      refine s_al0 rfl ?_
      refine s_gf rfl (hk.at rfl rfl) rfl rfl ?_
      refine s_callO rfl rfl (Or.inl rfl) rfl rfl (hk.at rfl rfl) (v_adv (s := s) (ws := ws) (n := n) (k := k + 1) hg hk hHD2 hAD2 (fun D3 gD3 hD3 hAD3 => ?_))
      have fD3 : FrC T D D3 := FrC_trans fD2 (FrC_0 (Fr0_tape gD3 hD3))
      have hHD3 := TpH_keep hHD2 (gD3 3 (by decide)) (gD3 4 (by decide)) hD3
      show V G l (d + 3) iX4_readAgain 51 [rf 5, rf (T + 9 + 3 * t)] [] (K, D3, z) P
      refine s_al0 rfl ?_
      refine s_ic rfl ?_
      refine s_callO rfl rfl (Or.inl rfl) rfl rfl (hk.at rfl rfl) (v_take (s := s) (ws := ws) (n := n) (k := k + 2) hg hk hHD3 hAD3 (fun yD4 D4 xD4 hAD4 => ?_) (fun yD4 => ?_))
      rotate_left
      · show V G l (d + 3) iX4_readAgain 57 [rf 5, rf (T + 9 + 3 * t)] [(0, 0)] (K, _, z) P
        refine s_zeq rfl (fun _ => ?_) (fun q => absurd rfl q)
        refine s_ic rfl ?_
        refine s_retz rfl rfl (Or.inl rfl) ?_
        exact bad _ _ (FrC_trans fD3 (FrC_0 Fr0_fault)) aUp_at (by rw [hF, qTk_1 yD4, qFo_l (by have := hpl (k + 2); omega)]) (by have := hpl (k + 2); omega)
      rw [qTk_0 yD4, qFo_r rfl] at hF
      have fD4 : FrC T D D4 := FrC_trans fD3 (FrC_0 xD4)
      have hHD4 := Fr0_TpH xD4 hHD3
      show V G l (d + 3) iX4_readAgain 57 [rf 5, rf (T + 9 + 3 * t)] [(0, 1)] (K, D4, z) P
      refine s_zeq rfl ?_ ?_
      · intro h57
        exact absurd h57 (by decide)
      · intro h57
        refine s_al0 rfl ?_
        refine s_ic rfl ?_
        refine s_ic rfl ?_
        refine s_callO rfl rfl (Or.inl rfl) rfl rfl (hk.at rfl rfl) (v_isNumber (s := s) (ws := ws) (n := n) (k := k + 3) hk hHD4 hAD4 (fun y4 z4 w4 => ?_) (fun y4 => ?_) (fun y4 z4 => ?_))
        rotate_left
        · show V G l (d + 3) iX4_readAgain 67 [rf 5, rf (T + 9 + 3 * t)] [(0, 0)] (K, _, z) P
          refine s_zne rfl (fun q => absurd rfl q) (fun _ => ?_)
          refine s_ic rfl ?_
          refine s_retz rfl rfl (Or.inl rfl) ?_
          exact bad _ _ (FrC_trans fD4 (FrC_0 Fr0_fault)) aUp_at (by rw [hF, qNm_1 y4]) (by have := hpl (k + 3); omega)
        · show V G l (d + 3) iX4_readAgain 67 [rf 5, rf (T + 9 + 3 * t)] [(0, 0)] (K, _, z) P
          refine s_zne rfl (fun q => absurd rfl q) (fun _ => ?_)
          refine s_ic rfl ?_
          refine s_retz rfl rfl (Or.inl rfl) ?_
          exact bad _ _ (FrC_trans fD4 (FrC_0 Fr0_fault)) aUp_at (by rw [hF, qNm_4 y4 z4]) (by have := hpl (k + 3); omega)
        rw [qNm_0 y4 z4] at hF
        show V G l (d + 3) iX4_readAgain 67 [rf 5, rf (T + 9 + 3 * t)] [(0, 1)] (K, D4, z) P
        refine s_zne rfl ?_ ?_
        · intro h67
          refine s_al1 rfl ?_
          refine s_al0 rfl ?_
          refine s_gf rfl (hk.at rfl rfl) rfl rfl ?_
          refine s_gi rfl (hk.at rfl rfl) rfl ?_
          rw [w4]
          refine s_pi rfl (KTt hk hT ht).1 rfl ?_
          generalize hDb : aUp D4 (T + 9 + 3 * t) 6 (nT s n (k + 3)) = D5
          have u5 : ∀ r, r ≠ T + 9 + 3 * t → D5 r = D4 r := fun r hr => by rw [← hDb, aUp_row hr]
          have fR5 : FrR T t D4 D5 := by rw [← hDb]; exact FrR_up hT (Or.inl rfl)
          have fD5 : FrC T D D5 := FrC_trans fD4 (FrR_C ht fR5)
          have hHD5 := FrC_TpH hT fD5 hH
          have hAD5 := AtC_keep hAD4 (u5 2 (by omega)) (u5 5 (by omega))
          refine s_al0 rfl ?_
          refine s_gf rfl (hk.at rfl rfl) rfl rfl ?_
          refine s_callO rfl rfl (Or.inl rfl) rfl rfl (hk.at rfl rfl) (v_adv (s := s) (ws := ws) (n := n) (k := k + 3) hg hk hHD5 hAD5 (fun D6 gD6 hD6 hAD6 => ?_))
          have fD6 : FrC T D D6 := FrC_trans fD5 (FrC_0 (Fr0_tape gD6 hD6))
          have hHD6 := TpH_keep hHD5 (gD6 3 (by decide)) (gD6 4 (by decide)) hD6
          show V G l (d + 3) iX4_readAgain 90 [rf 5, rf (T + 9 + 3 * t)] [] (K, D6, z) P
          refine s_ic rfl ?_
          refine s_retz rfl rfl (Or.inr rfl) ?_
          refine k1 hF D6 (FrR_trans (FrR_0 (Fr0_tape gD1 hD1)) (FrR_trans fR2 (FrR_trans (FrR_0 (Fr0_tape gD3 hD3)) (FrR_trans (FrR_0 xD4) (FrR_trans fR5 (FrR_0 (Fr0_tape gD6 hD6))))))) ?_ ?_ ?_ ?_
          · rw [if_pos h9, gD6 _ (by omega), ← hDb, aUp_same, xD4.1 _ (by omega) (by omega), gD3 _ (by omega), ← hDa, aUp_same, gD1 _ (by omega)]
          · rw [gD6 _ (by omega), u5 _ (by omega), xD4.1 _ (by omega) (by omega), gD3 _ (by omega), u2 _ (by omega), gD1 _ (by omega)]
          · rw [gD6 _ (by omega), u5 _ (by omega), xD4.1 _ (by omega) (by omega), gD3 _ (by omega), u2 _ (by omega), gD1 _ (by omega)]
          · unfold qT5; rw [if_pos ha]; exact hAD6
        · intro h67
          exact absurd h67 (by decide)
    · intro h28
      exact absurd h28 (by decide)
  · intro h9
    have ha : ¬ qHa (kT s n ws) 1 k = true := fun q => h9 (of_decide_eq_true q).2
    refine s_ic rfl ?_
    refine s_retz rfl rfl (Or.inr rfl) ?_
    refine k1 (by unfold qA5; rw [if_neg ha]) D FrR_refl (by rw [if_neg h9]) rfl rfl ?_
    unfold qT5; rw [if_neg ha]; exact hA
end
