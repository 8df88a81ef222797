/-! ===== feed ===== -/
theorem by_C {a : Int} {k : Nat} (hk : k < 64) : bAndL (bUshL a (k : Int)) 255 = (((Int64.ofInt a).toBitVec.toNat / 2 ^ k % 256 : Nat) : Int) := by
  unfold bAndL bUshL
  rw [Int64.ofInt_toInt]
  have e : ∀ k, k < 64 → ((((Int32.ofInt (k : Nat)).toInt64.toUInt64 &&& Int64.toUInt64 63).toBitVec % 64#64)).toNat = k := by decide
  have h : ((((Int64.ofInt a).toUInt64 >>> ((Int32.ofInt k).toInt64.toUInt64 &&& Int64.toUInt64 63)).toInt64 &&& Int64.ofInt 255)).toInt = ((Int64.ofInt a).toBitVec >>> ((((Int32.ofInt (k : Nat)).toInt64.toUInt64 &&& Int64.toUInt64 63).toBitVec % 64#64)).toNat &&& 255#64).toInt := by rfl
  rw [h, e k hk]
  have n : ((Int64.ofInt a).toBitVec >>> k &&& 255#64).toNat = (Int64.ofInt a).toBitVec.toNat / 2 ^ k % 256 := by
    rw [BitVec.toNat_and, BitVec.toNat_ushiftRight, Nat.shiftRight_eq_div_pow]
    exact Nat.and_two_pow_sub_one_eq_mod _ 8
  rw [BitVec.toInt_eq_toNat_of_lt (by rw [n]; omega), n]
theorem by_M {a : Int} {k : Nat} (hk : k < 64) : bAnd (wr (bShrL a (k : Int))) 255 = (((wr ((Int64.ofInt a).toInt / 2 ^ k)) % 256)) := by
  have e : ∀ k, k < 64 → (((Int32.ofInt (k : Nat)).toInt64 &&& 63).toBitVec.smod 64#64).toNat = k := by decide
  have h1 : bShrL a (k : Int) = ((Int64.ofInt a).toBitVec.sshiftRight (((Int32.ofInt (k : Nat)).toInt64 &&& 63).toBitVec.smod 64#64).toNat).toInt := by rfl
  rw [h1, e k hk, BitVec.toInt_sshiftRight, Int.shiftRight_eq_div_pow]
  show bAnd (wr ((Int64.ofInt a).toInt / ((2 ^ k : Nat) : Int))) 255 = _
  rw [show (((2 ^ k : Nat) : Int)) = 2 ^ k by exact Int.natCast_pow 2 k]
  generalize wr ((Int64.ofInt a).toInt / 2 ^ k) = y
  unfold bAnd
  have h2 : (Int32.ofInt y &&& Int32.ofInt 255).toInt = (BitVec.ofInt 32 y &&& 255#32).toInt := by rfl
  have n : (BitVec.ofInt 32 y &&& 255#32).toNat = (BitVec.ofInt 32 y).toNat % 256 := by
    rw [BitVec.toNat_and]
    exact Nat.and_two_pow_sub_one_eq_mod _ 8
  rw [h2, BitVec.toInt_eq_toNat_of_lt (by rw [n]; omega), n, BitVec.toNat_ofInt]
  omega
def byF (a : Int) (k : Nat) : Int := (((Int64.ofInt a).toBitVec.toNat / 2 ^ k % 256 : Nat) : Int)
theorem by_in {a : Int} {k : Nat} : 0 ≤ byF a k ∧ byF a k < 256 := by unfold byF; omega
theorem by_same {a : Int} {i : Nat} (hi : i < 8) : bAnd (wr (bShrL a ((56 - 8 * i : Nat) : Int))) 255 = byF a (56 - 8 * i) := by
  rw [by_M (by omega)]
  unfold byF
  have h1 : (Int64.ofInt a).toInt = (Int64.ofInt a).toBitVec.toInt := rfl
  rw [h1, BitVec.toInt_eq_toNat_bmod]
  have hb := (Int64.ofInt a).toBitVec.isLt
  generalize (Int64.ofInt a).toBitVec.toNat = N at hb ⊢
  unfold wr
  rcases (by omega : i = 0 ∨ i = 1 ∨ i = 2 ∨ i = 3 ∨ i = 4 ∨ i = 5 ∨ i = 6 ∨ i = 7) with rfl | rfl | rfl | rfl | rfl | rfl | rfl | rfl <;> simp only [Int.bmod, Nat.reduceSub, Nat.reduceMul, Nat.reducePow, Int.reducePow] <;> omega
def stF (b : Int) (t : (Int → Int) × Nat) : (Int → Int) × Nat := if (b = 10 ∨ 32 ≤ b ∧ b ≤ 126) ∧ t.2 < 1500 then (uF t.1 (t.2 : Nat) b, t.2 + 1) else t
def adF (a : Int) (t : (Int → Int) × Nat) : Nat → (Int → Int) × Nat
  | 0 => t
  | i + 1 => stF (byF a (56 - 8 * i)) (adF a t i)
theorem adF_in {a : Int} {t : (Int → Int) × Nat} (h : t.2 ≤ 1500) : ∀ i : Nat, (adF a t i).2 ≤ 1500 := by
  intro i
  induction i with
  | zero => exact h
  | succ i ih =>
    rw [adF]
    unfold stF
    split
    · show (adF a t i).2 + 1 ≤ 1500; omega
    · exact ih
/-- the signs laid so far are signs of the tape -/
def SgI (t : (Int → Int) × Nat) : Prop := t.2 ≤ 1500 ∧ ∀ i : Nat, i < t.2 → 0 ≤ t.1 i ∧ t.1 i < 128
theorem stF_SgI {b : Int} {t : (Int → Int) × Nat} (h : SgI t) : SgI (stF b t) := by
  unfold stF
  split
  · rename_i q
    refine ⟨by show t.2 + 1 ≤ 1500; omega, fun i hi => ?_⟩
    have hi : i < t.2 + 1 := hi
    show 0 ≤ uF t.1 (t.2 : Nat) b i ∧ uF t.1 (t.2 : Nat) b i < 128
    rcases (by omega : i < t.2 ∨ i = t.2) with y | y
    · rw [uF_ne (by omega)]; exact h.2 i y
    · subst y; rw [uF_at]; omega
  · exact h
theorem adF_SgI {a : Int} {t : (Int → Int) × Nat} (h : SgI t) : ∀ i : Nat, SgI (adF a t i) := by
  intro i
  induction i with
  | zero => exact h
  | succ i ih => exact stF_SgI ih
/-- two tapes alike stay alike -/
theorem adF_same {a : Int} {t u : (Int → Int) × Nat} (h2 : t.2 = u.2) (h1 : ∀ i : Nat, i < t.2 → t.1 i = u.1 i) : ∀ k : Nat, (adF a t k).2 = (adF a u k).2 ∧ ∀ i : Nat, i < (adF a t k).2 → (adF a t k).1 i = (adF a u k).1 i := by
  intro k
  induction k with
  | zero => exact ⟨h2, h1⟩
  | succ k ih =>
    rw [adF, adF]
    generalize adF a t k = t at ih
    generalize adF a u k = u at ih
    unfold stF
    rw [ih.1]
    by_cases q : (byF a (56 - 8 * k) = 10 ∨ 32 ≤ byF a (56 - 8 * k) ∧ byF a (56 - 8 * k) ≤ 126) ∧ u.2 < 1500
    · rw [if_pos q, if_pos q]
      refine ⟨rfl, fun i hi => ?_⟩
      have hi : i < u.2 + 1 := hi
      show uF t.1 (u.2 : Nat) (byF a (56 - 8 * k)) i = uF u.1 (u.2 : Nat) (byF a (56 - 8 * k)) i
      rcases (by omega : i < u.2 ∨ i = u.2) with y | y
      · rw [uF_ne (by omega), uF_ne (by omega)]; exact ih.2 i (by rw [ih.1]; exact y)
      · subst y; rw [uF_at, uF_at]
    · rw [if_neg q, if_neg q]; exact ih
def FdC (D D' : Nat → Int → Int) (t : (Int → Int) × Nat) : Prop := (∀ r, r ≠ 2 → r ≠ 3 → D' r = D r) ∧ (∀ j : Int, j ≠ 3 → D' 2 j = D 2 j) ∧ D' 3 = t.1 ∧ D' 2 3 = (t.2 : Nat)
def FdM (D D' : Nat → Int → Int) (t : (Int → Int) × Nat) : Prop := (∀ r, r ≠ 210 → r ≠ 211 → D' r = D r) ∧ (∀ j : Int, j ≠ 2 → D' 210 j = D 210 j) ∧ D' 211 = t.1 ∧ D' 210 2 = (t.2 : Nat)
section
variable {G : aCX} {l : Launch} {d : Nat} {K : Nat → aKd} {D : Nat → Int → Int} {z : Nat × Nat} {P : Int → aSt → Prop}
theorem v_addBytes {a : Int} {t : (Int → Int) × Nat} (hk : Kn K) (h3 : D 3 = t.1) (hl : D 2 3 = (t.2 : Nat)) (h15 : t.2 ≤ 1500) (kk : ∀ D', FdC D D' (adF a t 8) → P 0 (K, D', z)) : VM G l d iX7_addBytes [rf 2, (1, a)] (K, D, z) P := by
  have loop : ∀ (f i : Nat) (D1 : Nat → Int → Int) (u4 u5 : aTV), i + f = 8 → FdC D D1 (adF a t i) → V G l d iX7_addBytes 3 [rf 2, (1, a), (9, 0), (0, 56 - 8 * (i : Int)), u4, u5] [] (K, D1, z) P := by
    intro f
    induction f with
    | zero =>
      intro i D1 u4 u5 hi hf
      have hi : i = 8 := by omega
      subst hi
      refine s_il3 rfl ?_
      refine s_zlt rfl ?_ ?_
      · intro h4
        refine s_retv rfl rfl ?_
        exact kk D1 hf
      · intro h4
        omega
    | succ f ih =>
      intro i D1 u4 u5 hi hf
      have a15 := adF_in (a := a) h15 i
      have bi := by_in (a := a) (k := 56 - 8 * i)
      have st : adF a t (i + 1) = stF (byF a (56 - 8 * i)) (adF a t i) := rfl
      obtain ⟨f1, f2, f3, f4⟩ := id hf
      obtain ⟨t', ht'⟩ : ∃ X, adF a t i = X := ⟨_, rfl⟩
      rw [ht'] at f3 f4 st a15
      have nxt : ∀ (D2 : Nat → Int → Int) (v4 v5 : aTV), FdC D D2 (adF a t (i + 1)) → V G l d iX7_addBytes 82 [rf 2, (1, a), (9, 0), (0, 56 - 8 * (i : Int)), v4, v5] [] (K, D2, z) P := by
        intro D2 v4 v5 hf2
        refine s_iinc3 rfl rfl ⟨by omega, by omega⟩ ?_
        refine s_go rfl ?_
        rw [show (56 : Int) - 8 * (i : Int) + -8 = 56 - 8 * ((i + 1 : Nat) : Int) by omega]
        exact ih (i + 1) D2 _ _ (by omega) hf2
      refine s_il3 rfl ?_
      refine s_zlt rfl ?_ ?_
      · intro h4
        omega
      · intro h4
        refine s_ll1 rfl ?_
        refine s_il3 rfl ?_
        refine s_lushr rfl ?_
        refine s_lc rfl ?_
        refine s_land rfl ?_
        rw [show (56 : Int) - 8 * (i : Int) = ((56 - 8 * i : Nat) : Int) by omega]
        rw [by_C (by omega)]
        change V G l d iX7_addBytes 14 _ [(1, byF a (56 - 8 * i))] _ P
        rw [← show (56 : Int) - 8 * (i : Int) = ((56 - 8 * i : Nat) : Int) by omega]
        refine s_l2i rfl ⟨by omega, by omega⟩ ?_
        refine s_i2c rfl ?_
        rw [show wc (byF a (56 - 8 * i)) = byF a (56 - 8 * i) by unfold wc; omega]
        refine s_is4 rfl rfl ?_
        refine s_il4 rfl ?_
        refine s_ic rfl ?_
        refine s_ceq rfl ?_ ?_
        · intro h22
          refine s_ic rfl ?_
          refine s_go rfl ?_
          refine s_is5 rfl rfl ?_
          refine s_il5 rfl ?_
          refine s_zeq rfl ?_ ?_
          · intro h48
            exact nxt D1 _ _ (by rw [st]; unfold stF; rw [if_neg (by omega)]; rw [← ht']; exact hf)
          · intro h48
            refine s_al0 rfl ?_
            refine s_gi rfl (hk.at rfl rfl) rfl ?_
            rw [f4]
            refine s_ic rfl ?_
            refine s_cge rfl ?_ ?_
            · intro h58
              exact nxt D1 _ _ (by rw [st]; unfold stF; rw [if_neg (by omega)]; rw [← ht']; exact hf)
            · intro h58
              refine s_al0 rfl ?_
              refine s_gf rfl (hk.at rfl rfl) rfl rfl ?_
              refine s_al0 rfl ?_
              refine s_gi rfl (hk.at rfl rfl) rfl ?_
              rw [f4]
              refine s_il4 rfl ?_
              refine s_cast rfl (hk.at rfl rfl) (by omega) (by omega) ?_
              refine s_al0 rfl ?_
              refine s_dup rfl (by first | decide | (show (2 : Nat) ≠ 1; decide)) ?_
              refine s_gi rfl (hk.at rfl rfl) rfl ?_
              rw [aUp_row (by decide), f4]
              refine s_ic rfl ?_
              refine s_iadd rfl ⟨by omega, by omega⟩ ?_
              refine s_pi rfl (hk.at rfl rfl) rfl ?_
              refine nxt _ _ _ ?_
              rw [st]; unfold stF; rw [if_pos ⟨by omega, by omega⟩]
              refine ⟨fun r q1 q2 => ?_, fun j q => ?_, ?_, ?_⟩
              · rw [aUp_row q1, aUp_row q2]; exact f1 r q1 q2
              · rw [aUp_ne q, aUp_row (by decide)]; exact f2 j q
              · rw [aUp_row (by decide), aUp_same, f3]
              · rw [aUp_at]; rfl
        · intro h22
          refine s_il4 rfl ?_
          refine s_ic rfl ?_
          refine s_clt rfl ?_ ?_
          · intro h29
            refine s_ic rfl ?_
            refine s_is5 rfl rfl ?_
            refine s_il5 rfl ?_
            refine s_zeq rfl ?_ ?_
            · intro h48
              exact nxt D1 _ _ (by rw [st]; unfold stF; rw [if_neg (by omega)]; rw [← ht']; exact hf)
            · intro h48
              refine s_al0 rfl ?_
              refine s_gi rfl (hk.at rfl rfl) rfl ?_
              rw [f4]
              refine s_ic rfl ?_
              refine s_cge rfl ?_ ?_
              · intro h58
                exact nxt D1 _ _ (by rw [st]; unfold stF; rw [if_neg (by omega)]; rw [← ht']; exact hf)
              · intro h58
                refine s_al0 rfl ?_
                refine s_gf rfl (hk.at rfl rfl) rfl rfl ?_
                refine s_al0 rfl ?_
                refine s_gi rfl (hk.at rfl rfl) rfl ?_
                rw [f4]
                refine s_il4 rfl ?_
                refine s_cast rfl (hk.at rfl rfl) (by omega) (by omega) ?_
                refine s_al0 rfl ?_
                refine s_dup rfl (by first | decide | (show (2 : Nat) ≠ 1; decide)) ?_
                refine s_gi rfl (hk.at rfl rfl) rfl ?_
                rw [aUp_row (by decide), f4]
                refine s_ic rfl ?_
                refine s_iadd rfl ⟨by omega, by omega⟩ ?_
                refine s_pi rfl (hk.at rfl rfl) rfl ?_
                refine nxt _ _ _ ?_
                rw [st]; unfold stF; rw [if_pos ⟨by omega, by omega⟩]
                refine ⟨fun r q1 q2 => ?_, fun j q => ?_, ?_, ?_⟩
                · rw [aUp_row q1, aUp_row q2]; exact f1 r q1 q2
                · rw [aUp_ne q, aUp_row (by decide)]; exact f2 j q
                · rw [aUp_row (by decide), aUp_same, f3]
                · rw [aUp_at]; rfl
          · intro h29
            refine s_il4 rfl ?_
            refine s_ic rfl ?_
            refine s_cgt rfl ?_ ?_
            · intro h36
              refine s_ic rfl ?_
              refine s_is5 rfl rfl ?_
              refine s_il5 rfl ?_
              refine s_zeq rfl ?_ ?_
              · intro h48
                exact nxt D1 _ _ (by rw [st]; unfold stF; rw [if_neg (by omega)]; rw [← ht']; exact hf)
              · intro h48
                refine s_al0 rfl ?_
                refine s_gi rfl (hk.at rfl rfl) rfl ?_
                rw [f4]
                refine s_ic rfl ?_
                refine s_cge rfl ?_ ?_
                · intro h58
                  exact nxt D1 _ _ (by rw [st]; unfold stF; rw [if_neg (by omega)]; rw [← ht']; exact hf)
                · intro h58
                  refine s_al0 rfl ?_
                  refine s_gf rfl (hk.at rfl rfl) rfl rfl ?_
                  refine s_al0 rfl ?_
                  refine s_gi rfl (hk.at rfl rfl) rfl ?_
                  rw [f4]
                  refine s_il4 rfl ?_
                  refine s_cast rfl (hk.at rfl rfl) (by omega) (by omega) ?_
                  refine s_al0 rfl ?_
                  refine s_dup rfl (by first | decide | (show (2 : Nat) ≠ 1; decide)) ?_
                  refine s_gi rfl (hk.at rfl rfl) rfl ?_
                  rw [aUp_row (by decide), f4]
                  refine s_ic rfl ?_
                  refine s_iadd rfl ⟨by omega, by omega⟩ ?_
                  refine s_pi rfl (hk.at rfl rfl) rfl ?_
                  refine nxt _ _ _ ?_
                  rw [st]; unfold stF; rw [if_pos ⟨by omega, by omega⟩]
                  refine ⟨fun r q1 q2 => ?_, fun j q => ?_, ?_, ?_⟩
                  · rw [aUp_row q1, aUp_row q2]; exact f1 r q1 q2
                  · rw [aUp_ne q, aUp_row (by decide)]; exact f2 j q
                  · rw [aUp_row (by decide), aUp_same, f3]
                  · rw [aUp_at]; rfl
            · intro h36
              refine s_ic rfl ?_
              refine s_go rfl ?_
              refine s_is5 rfl rfl ?_
              refine s_il5 rfl ?_
              refine s_zeq rfl ?_ ?_
              · intro h48
                exact nxt D1 _ _ (by rw [st]; unfold stF; rw [if_neg (by omega)]; rw [← ht']; exact hf)
              · intro h48
                refine s_al0 rfl ?_
                refine s_gi rfl (hk.at rfl rfl) rfl ?_
                rw [f4]
                refine s_ic rfl ?_
                refine s_cge rfl ?_ ?_
                · intro h58
                  exact nxt D1 _ _ (by rw [st]; unfold stF; rw [if_neg (by omega)]; rw [← ht']; exact hf)
                · intro h58
                  refine s_al0 rfl ?_
                  refine s_gf rfl (hk.at rfl rfl) rfl rfl ?_
                  refine s_al0 rfl ?_
                  refine s_gi rfl (hk.at rfl rfl) rfl ?_
                  rw [f4]
                  refine s_il4 rfl ?_
                  refine s_cast rfl (hk.at rfl rfl) (by omega) (by omega) ?_
                  refine s_al0 rfl ?_
                  refine s_dup rfl (by first | decide | (show (2 : Nat) ≠ 1; decide)) ?_
                  refine s_gi rfl (hk.at rfl rfl) rfl ?_
                  rw [aUp_row (by decide), f4]
                  refine s_ic rfl ?_
                  refine s_iadd rfl ⟨by omega, by omega⟩ ?_
                  refine s_pi rfl (hk.at rfl rfl) rfl ?_
                  refine nxt _ _ _ ?_
                  rw [st]; unfold stF; rw [if_pos ⟨by omega, by omega⟩]
                  refine ⟨fun r q1 q2 => ?_, fun j q => ?_, ?_, ?_⟩
                  · rw [aUp_row q1, aUp_row q2]; exact f1 r q1 q2
                  · rw [aUp_ne q, aUp_row (by decide)]; exact f2 j q
                  · rw [aUp_row (by decide), aUp_same, f3]
                  · rw [aUp_at]; rfl
  refine VM_go (tg2 rfl) (Nat.le_of_ble_eq_true rfl) ?_
  refine s_ic rfl ?_
  refine s_is3 rfl rfl ?_
  rw [show (56 : Int) = 56 - 8 * ((0 : Nat) : Int) by omega]
  exact loop 8 0 D _ _ (by omega) ⟨fun _ _ _ => rfl, fun _ _ => rfl, h3, hl⟩
theorem u_layM {a : Int} {t : (Int → Int) × Nat} (hk : Kn K) (h3 : D 211 = t.1) (hl : D 210 2 = (t.2 : Nat)) (h15 : t.2 ≤ 1500) (kk : ∀ D', FdM D D' (adF a t 8) → P 0 (K, D', z)) : VM G l d iX12_lay [rf 210, (1, a)] (K, D, z) P := by
  have loop : ∀ (f i : Nat) (D1 : Nat → Int → Int) (u4 : aTV), i + f = 8 → FdM D D1 (adF a t i) → V G l d iX12_lay 3 [rf 210, (1, a), (9, 0), (0, 56 - 8 * (i : Int)), u4] [] (K, D1, z) P := by
    intro f
    induction f with
    | zero =>
      intro i D1 u4 hi hf
      have hi : i = 8 := by omega
      subst hi
      refine s_il3 rfl ?_
      refine s_zlt rfl ?_ ?_
      · intro h4
        refine s_retv rfl rfl ?_
        exact kk D1 hf
      · intro h4
        omega
    | succ f ih =>
      intro i D1 u4 hi hf
      have a15 := adF_in (a := a) h15 i
      have bi := by_in (a := a) (k := 56 - 8 * i)
      have st : adF a t (i + 1) = stF (byF a (56 - 8 * i)) (adF a t i) := rfl
      obtain ⟨f1, f2, f3, f4⟩ := id hf
      obtain ⟨t', ht'⟩ : ∃ X, adF a t i = X := ⟨_, rfl⟩
      rw [ht'] at f3 f4 st a15
      have nxt : ∀ (D2 : Nat → Int → Int) (v4 : aTV), FdM D D2 (adF a t (i + 1)) → V G l d iX12_lay 69 [rf 210, (1, a), (9, 0), (0, 56 - 8 * (i : Int)), v4] [] (K, D2, z) P := by
        intro D2 v4 hf2
        refine s_iinc3 rfl rfl ⟨by omega, by omega⟩ ?_
        refine s_go rfl ?_
        rw [show (56 : Int) - 8 * (i : Int) + -8 = 56 - 8 * ((i + 1 : Nat) : Int) by omega]
        exact ih (i + 1) D2 _ (by omega) hf2
      refine s_il3 rfl ?_
      refine s_zlt rfl ?_ ?_
      · intro h4
        omega
      · intro h4
        refine s_ll1 rfl ?_
        refine s_il3 rfl ?_
        refine s_lshr rfl ?_
        refine s_l2iW rfl ?_
        refine s_ic rfl ?_
        refine s_iand rfl ?_
        rw [show (56 : Int) - 8 * (i : Int) = ((56 - 8 * i : Nat) : Int) by omega]
        rw [by_same (by omega)]
        rw [← show (56 : Int) - 8 * (i : Int) = ((56 - 8 * i : Nat) : Int) by omega]
        refine s_is4 rfl rfl ?_
        refine s_il4 rfl ?_
        refine s_ic rfl ?_
        refine s_ceq rfl ?_ ?_
        · intro h21
          refine s_al0 rfl ?_
          refine s_gi rfl (hk.at rfl rfl) rfl ?_
          rw [f4]
          refine s_ic rfl ?_
          refine s_cge rfl ?_ ?_
          · intro h45
            exact nxt D1 _ (by rw [st]; unfold stF; rw [if_neg (by omega)]; rw [← ht']; exact hf)
          · intro h45
            refine s_al0 rfl ?_
            refine s_gf rfl (hk.at rfl rfl) rfl rfl ?_
            refine s_al0 rfl ?_
            refine s_gi rfl (hk.at rfl rfl) rfl ?_
            rw [f4]
            refine s_il4 rfl ?_
            refine s_iast rfl (hk.at rfl rfl) (by omega) ?_
            refine s_al0 rfl ?_
            refine s_dup rfl (by first | decide | (show (2 : Nat) ≠ 1; decide)) ?_
            refine s_gi rfl (hk.at rfl rfl) rfl ?_
            rw [aUp_row (by decide), f4]
            refine s_ic rfl ?_
            refine s_iadd rfl ⟨by omega, by omega⟩ ?_
            refine s_pi rfl (hk.at rfl rfl) rfl ?_
            refine nxt _ _ ?_
            rw [st]; unfold stF; rw [if_pos ⟨by omega, by omega⟩]
            refine ⟨fun r q1 q2 => ?_, fun j q => ?_, ?_, ?_⟩
            · rw [aUp_row q1, aUp_row q2]; exact f1 r q1 q2
            · rw [aUp_ne q, aUp_row (by decide)]; exact f2 j q
            · rw [aUp_row (by decide), aUp_same, f3]
            · rw [aUp_at]; rfl
        · intro h21
          refine s_il4 rfl ?_
          refine s_ic rfl ?_
          refine s_clt rfl ?_ ?_
          · intro h28
            exact nxt D1 _ (by rw [st]; unfold stF; rw [if_neg (by omega)]; rw [← ht']; exact hf)
          · intro h28
            refine s_il4 rfl ?_
            refine s_ic rfl ?_
            refine s_cgt rfl ?_ ?_
            · intro h35
              exact nxt D1 _ (by rw [st]; unfold stF; rw [if_neg (by omega)]; rw [← ht']; exact hf)
            · intro h35
              refine s_al0 rfl ?_
              refine s_gi rfl (hk.at rfl rfl) rfl ?_
              rw [f4]
              refine s_ic rfl ?_
              refine s_cge rfl ?_ ?_
              · intro h45
                exact nxt D1 _ (by rw [st]; unfold stF; rw [if_neg (by omega)]; rw [← ht']; exact hf)
              · intro h45
                refine s_al0 rfl ?_
                refine s_gf rfl (hk.at rfl rfl) rfl rfl ?_
                refine s_al0 rfl ?_
                refine s_gi rfl (hk.at rfl rfl) rfl ?_
                rw [f4]
                refine s_il4 rfl ?_
                refine s_iast rfl (hk.at rfl rfl) (by omega) ?_
                refine s_al0 rfl ?_
                refine s_dup rfl (by first | decide | (show (2 : Nat) ≠ 1; decide)) ?_
                refine s_gi rfl (hk.at rfl rfl) rfl ?_
                rw [aUp_row (by decide), f4]
                refine s_ic rfl ?_
                refine s_iadd rfl ⟨by omega, by omega⟩ ?_
                refine s_pi rfl (hk.at rfl rfl) rfl ?_
                refine nxt _ _ ?_
                rw [st]; unfold stF; rw [if_pos ⟨by omega, by omega⟩]
                refine ⟨fun r q1 q2 => ?_, fun j q => ?_, ?_, ?_⟩
                · rw [aUp_row q1, aUp_row q2]; exact f1 r q1 q2
                · rw [aUp_ne q, aUp_row (by decide)]; exact f2 j q
                · rw [aUp_row (by decide), aUp_same, f3]
                · rw [aUp_at]; rfl
  refine VM_go (tg2 rfl) (Nat.le_of_ble_eq_true rfl) ?_
  refine s_ic rfl ?_
  refine s_is3 rfl rfl ?_
  rw [show (56 : Int) = 56 - 8 * ((0 : Nat) : Int) by omega]
  exact loop 8 0 D _ (by omega) ⟨fun _ _ _ => rfl, fun _ _ => rfl, h3, hl⟩
theorem FdC_trans {A B C : Nat → Int → Int} {t u : (Int → Int) × Nat} (h : FdC A B t) (g : FdC B C u) : FdC A C u := ⟨fun r q1 q2 => (g.1 r q1 q2).trans (h.1 r q1 q2), fun j q => (g.2.1 j q).trans (h.2.1 j q), g.2.2⟩
theorem FdM_trans {A B C : Nat → Int → Int} {t u : (Int → Int) × Nat} (h : FdM A B t) (g : FdM B C u) : FdM A C u := ⟨fun r q1 q2 => (g.1 r q1 q2).trans (h.1 r q1 q2), fun j q => (g.2.1 j q).trans (h.2.1 j q), g.2.2⟩
def feF (a b c : Int) (t : (Int → Int) × Nat) : (Int → Int) × Nat := adF c (adF b (adF a t 8) 8) 8
theorem v_feed {a b c : Int} {t : (Int → Int) × Nat} (hk : Kn K) (h3 : D 3 = t.1) (hl : D 2 3 = (t.2 : Nat)) (h15 : t.2 ≤ 1500) (kk : ∀ D', FdC D D' (feF a b c t) → P ((feF a b c t).2 : Nat) (K, D', z)) : VM G l (d + 1) iX11_feed [rf 1, (1, a), (1, b), (1, c)] (K, D, z) P := by
  refine VM_go (tg2 rfl) (Nat.le_of_ble_eq_true rfl) ?_
  refine s_al0 rfl ?_
  refine s_gf rfl (hk.at rfl rfl) rfl rfl ?_
  refine s_ll1 rfl ?_
  refine s_callO rfl rfl (Or.inl rfl) rfl rfl (hk.at rfl rfl) (v_addBytes hk h3 hl h15 (fun D1 q1 => ?_))
  show V G l (d + 1) iX11_feed 8 [rf 1, (1, a), (9, 0), (1, b), (9, 0), (1, c), (9, 0)] [] (K, D1, z) P
  refine s_al0 rfl ?_
  refine s_gf rfl (hk.at rfl rfl) rfl rfl ?_
  refine s_ll3 rfl ?_
  refine s_callO rfl rfl (Or.inl rfl) rfl rfl (hk.at rfl rfl) (v_addBytes hk q1.2.2.1 q1.2.2.2 (adF_in h15 8) (fun D2 q2 => ?_))
  show V G l (d + 1) iX11_feed 16 [rf 1, (1, a), (9, 0), (1, b), (9, 0), (1, c), (9, 0)] [] (K, D2, z) P
  refine s_al0 rfl ?_
  refine s_gf rfl (hk.at rfl rfl) rfl rfl ?_
  refine s_ll5 rfl ?_
  refine s_callO rfl rfl (Or.inl rfl) rfl rfl (hk.at rfl rfl) (v_addBytes hk q2.2.2.1 q2.2.2.2 (adF_in (adF_in h15 8) 8) (fun D3 q3 => ?_))
  show V G l (d + 1) iX11_feed 25 [rf 1, (1, a), (9, 0), (1, b), (9, 0), (1, c), (9, 0)] [] (K, D3, z) P
  refine s_al0 rfl ?_
  refine s_gf rfl (hk.at rfl rfl) rfl rfl ?_
  refine s_gi rfl (hk.at rfl rfl) rfl ?_
  rw [q3.2.2.2]
  refine s_reti rfl rfl ?_
  exact kk _ (FdC_trans (FdC_trans q1 q2) q3)
theorem u_feed {a b c : Int} {t : (Int → Int) × Nat} (hk : Kn K) (h3 : D 211 = t.1) (hl : D 210 2 = (t.2 : Nat)) (h15 : t.2 ≤ 1500) (kk : ∀ D', FdM (aUp D 210 0 0) D' (feF a b c t) → P ((feF a b c t).2 : Nat) (K, D', z)) : VM G l (d + 1) iX12_feed [rf 210, (1, a), (1, b), (1, c)] (K, D, z) P := by
  refine VM_go (tg2 rfl) (Nat.le_of_ble_eq_true rfl) ?_
  refine s_al0 rfl ?_
  refine s_ic rfl ?_
  refine s_pi rfl (hk.at rfl rfl) rfl ?_
  refine s_al0 rfl ?_
  refine s_ll1 rfl ?_
  refine s_callO rfl rfl (Or.inl rfl) rfl rfl (hk.at rfl rfl) (u_layM (t := t) hk (by rw [aUp_row (by decide)]; exact h3) (by rw [aUp_ne (by decide)]; exact hl) h15 (fun D1 q1 => ?_))
  show V G l (d + 1) iX12_feed 10 [rf 210, (1, a), (9, 0), (1, b), (9, 0), (1, c), (9, 0)] [] (K, D1, z) P
  refine s_al0 rfl ?_
  refine s_ll3 rfl ?_
  refine s_callO rfl rfl (Or.inl rfl) rfl rfl (hk.at rfl rfl) (u_layM hk q1.2.2.1 q1.2.2.2 (adF_in h15 8) (fun D2 q2 => ?_))
  show V G l (d + 1) iX12_feed 15 [rf 210, (1, a), (9, 0), (1, b), (9, 0), (1, c), (9, 0)] [] (K, D2, z) P
  refine s_al0 rfl ?_
  refine s_ll5 rfl ?_
  refine s_callO rfl rfl (Or.inl rfl) rfl rfl (hk.at rfl rfl) (u_layM hk q2.2.2.1 q2.2.2.2 (adF_in (adF_in h15 8) 8) (fun D3 q3 => ?_))
  show V G l (d + 1) iX12_feed 21 [rf 210, (1, a), (9, 0), (1, b), (9, 0), (1, c), (9, 0)] [] (K, D3, z) P
  refine s_al0 rfl ?_
  refine s_gi rfl (hk.at rfl rfl) rfl ?_
  rw [q3.2.2.2]
  refine s_reti rfl rfl ?_
  exact kk _ (FdM_trans (FdM_trans q1 q2) q3)
end
