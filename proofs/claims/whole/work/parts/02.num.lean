/-! ===== numbers: words are whole numbers, an int's and a long's range ===== -/
def wr (x : Int) : Int := x.bmod 4294967296
def wl (x : Int) : Int := x.bmod 18446744073709551616
def i32 (x : Int) : Prop := -2147483648 ≤ x ∧ x < 2147483648
def i64 (x : Int) : Prop := -9223372036854775808 ≤ x ∧ x < 9223372036854775808
theorem i32_wr (x : Int) : i32 (wr x) := by
  have h1 := Int.le_bmod (x := x) (m := 4294967296) (by decide)
  have h2 := Int.bmod_lt (x := x) (m := 4294967296) (by decide)
  exact ⟨by unfold wr; omega, by unfold wr; omega⟩
theorem i64_wl (x : Int) : i64 (wl x) := by
  have h1 := Int.le_bmod (x := x) (m := 18446744073709551616) (by decide)
  have h2 := Int.bmod_lt (x := x) (m := 18446744073709551616) (by decide)
  exact ⟨by unfold wl; omega, by unfold wl; omega⟩
theorem wr_id {x : Int} (h : i32 x) : wr x = x := by
  unfold wr
  exact Int.bmod_eq_of_le (by have := h.1; omega) (by have := h.2; omega)
theorem wl_id {x : Int} (h : i64 x) : wl x = x := by
  unfold wl
  exact Int.bmod_eq_of_le (by have := h.1; omega) (by have := h.2; omega)
theorem i32_64 {x : Int} (h : i32 x) : i64 x := ⟨by have := h.1; omega, by have := h.2; omega⟩
theorem aT32 {x : Int} (h : i32 x) : (Int32.ofInt x).toInt = x := Int32.toInt_ofInt_of_le (by have := h.1; omega) (by have := h.2; omega)
theorem aT64 {x : Int} (h : i64 x) : (Int64.ofInt x).toInt = x := Int64.toInt_ofInt_of_le (by have := h.1; omega) (by have := h.2; omega)
theorem i32_to (x : Int32) : i32 x.toInt := ⟨by have := x.le_toInt; omega, by have := x.toInt_lt; omega⟩
theorem i64_to (x : Int64) : i64 x.toInt := ⟨by have := x.le_toInt; omega, by have := x.toInt_lt; omega⟩
theorem of_wr (x : Int) : Int32.ofInt (wr x) = Int32.ofInt x := by
  apply Int32.toInt_inj.mp
  rw [aT32 (i32_wr x), Int32.toInt_ofInt]
  rfl
theorem of_wl (x : Int) : Int64.ofInt (wl x) = Int64.ofInt x := by
  apply Int64.toInt_inj.mp
  rw [aT64 (i64_wl x), Int64.toInt_ofInt]
  rfl
theorem of_add (x y : Int) : Int32.ofInt x + Int32.ofInt y = Int32.ofInt (wr (x + y)) := by rw [of_wr, Int32.ofInt_add]
theorem of_sub (x y : Int) : Int32.ofInt x - Int32.ofInt y = Int32.ofInt (wr (x - y)) := by rw [of_wr, Int32.ofInt_sub]
theorem of_mul (x y : Int) : Int32.ofInt x * Int32.ofInt y = Int32.ofInt (wr (x * y)) := by rw [of_wr, Int32.ofInt_mul]
theorem of_neg (x : Int) : -Int32.ofInt x = Int32.ofInt (wr (-x)) := by rw [of_wr, Int32.ofInt_neg]
theorem of_div {x y : Int} (hx : i32 x) (hy : i32 y) : Int32.ofInt x / Int32.ofInt y = Int32.ofInt (wr (x.tdiv y)) := by
  apply Int32.toInt_inj.mp
  rw [Int32.toInt_div, aT32 hx, aT32 hy, aT32 (i32_wr _)]
  rfl
theorem of_addL (x y : Int) : Int64.ofInt x + Int64.ofInt y = Int64.ofInt (wl (x + y)) := by rw [of_wl, Int64.ofInt_add]
theorem of_subL (x y : Int) : Int64.ofInt x - Int64.ofInt y = Int64.ofInt (wl (x - y)) := by rw [of_wl, Int64.ofInt_sub]
theorem of_mulL (x y : Int) : Int64.ofInt x * Int64.ofInt y = Int64.ofInt (wl (x * y)) := by rw [of_wl, Int64.ofInt_mul]
theorem of_divL {x y : Int} (hx : i64 x) (hy : i64 y) : Int64.ofInt x / Int64.ofInt y = Int64.ofInt (wl (x.tdiv y)) := by
  apply Int64.toInt_inj.mp
  rw [Int64.toInt_div, aT64 hx, aT64 hy, aT64 (i64_wl _)]
  rfl
theorem of_i2l {x : Int} (hx : i32 x) : (Int32.ofInt x).toInt64 = Int64.ofInt x := by
  apply Int64.toInt_inj.mp
  rw [Int32.toInt_toInt64, aT32 hx, aT64 (i32_64 hx)]
theorem of_l2i (x : Int) : (Int64.ofInt x).toInt32 = Int32.ofInt (wr x) := by rw [of_wr, Int64.toInt32_ofInt]
theorem of_lt {x y : Int} (hx : i32 x) (hy : i32 y) : Int32.ofInt x < Int32.ofInt y ↔ x < y := by rw [Int32.lt_iff_toInt_lt, aT32 hx, aT32 hy]
theorem of_le {x y : Int} (hx : i32 x) (hy : i32 y) : Int32.ofInt x ≤ Int32.ofInt y ↔ x ≤ y := by rw [Int32.le_iff_toInt_le, aT32 hx, aT32 hy]
theorem of_eq {x y : Int} (hx : i32 x) (hy : i32 y) : Int32.ofInt x = Int32.ofInt y ↔ x = y := by rw [← Int32.toInt_inj, aT32 hx, aT32 hy]
theorem of_ltL {x y : Int} (hx : i64 x) (hy : i64 y) : Int64.ofInt x < Int64.ofInt y ↔ x < y := by rw [Int64.lt_iff_toInt_lt, aT64 hx, aT64 hy]
theorem of_leL {x y : Int} (hx : i64 x) (hy : i64 y) : Int64.ofInt x ≤ Int64.ofInt y ↔ x ≤ y := by rw [Int64.le_iff_toInt_le, aT64 hx, aT64 hy]
theorem of_eqL {x y : Int} (hx : i64 x) (hy : i64 y) : Int64.ofInt x = Int64.ofInt y ↔ x = y := by rw [← Int64.toInt_inj, aT64 hx, aT64 hy]
theorem i32_0 : i32 0 := ⟨by decide, by decide⟩
theorem of_zero : Int32.ofInt 0 = 0 := rfl
theorem of_lt0 {x : Int} (hx : i32 x) : Int32.ofInt x < 0 ↔ x < 0 := by rw [← of_zero]; exact of_lt hx i32_0
theorem of_eq0 {x : Int} (hx : i32 x) : Int32.ofInt x = 0 ↔ x = 0 := by rw [← of_zero]; exact of_eq hx i32_0
theorem of_eq0L {x : Int} (hx : i64 x) : Int64.ofInt x = 0 ↔ x = 0 := by
  rw [show (0 : Int64) = Int64.ofInt 0 from rfl]; exact of_eqL hx (i32_64 i32_0)
theorem of_clamp {x : Int} (hx : i32 x) : (Int32.ofInt x).toNatClampNeg = x.toNat := Int32.toNatClampNeg_ofInt_of_le (by have := hx.1; omega) (by have := hx.2; omega)
theorem of_in {x : Int} {n : Nat} (hx : i32 x) (h0 : 0 ≤ x) (h : x < n) : vp_in (Int32.ofInt x) n := by
  rw [vp_in_iff, aT32 hx]
  exact ⟨h0, h⟩
/-- the numbers of bits: as the machine has them -/
def bAnd (a b : Int) : Int := (Int32.ofInt a &&& Int32.ofInt b).toInt
def bOr (a b : Int) : Int := (Int32.ofInt a ||| Int32.ofInt b).toInt
def bXor (a b : Int) : Int := (Int32.ofInt a ^^^ Int32.ofInt b).toInt
def bShl (a b : Int) : Int := (Int32.ofInt a <<< (Int32.ofInt b &&& 31)).toInt
def bShr (a b : Int) : Int := (Int32.ofInt a >>> (Int32.ofInt b &&& 31)).toInt
def bUsh (a b : Int) : Int := ((Int32.ofInt a).toUInt32 >>> ((Int32.ofInt b).toUInt32 &&& Int32.toUInt32 31)).toInt32.toInt
def bAndL (a b : Int) : Int := (Int64.ofInt a &&& Int64.ofInt b).toInt
def bOrL (a b : Int) : Int := (Int64.ofInt a ||| Int64.ofInt b).toInt
def bShlL (a b : Int) : Int := (Int64.ofInt a <<< ((Int32.ofInt b).toInt64 &&& 63)).toInt
def bShrL (a b : Int) : Int := (Int64.ofInt a >>> ((Int32.ofInt b).toInt64 &&& 63)).toInt
def bUshL (a b : Int) : Int := ((Int64.ofInt a).toUInt64 >>> ((Int32.ofInt b).toInt64.toUInt64 &&& Int64.toUInt64 63)).toInt64.toInt
def cmp3 (a b : Int) : Int := if a < b then -1 else if a = b then 0 else 1
theorem cmp3_lt {a b : Int} : cmp3 a b < 0 ↔ a < b := by unfold cmp3; split <;> (try split) <;> omega
theorem cmp3_le {a b : Int} : cmp3 a b ≤ 0 ↔ a ≤ b := by unfold cmp3; split <;> (try split) <;> omega
theorem cmp3_gt {a b : Int} : cmp3 a b > 0 ↔ a > b := by unfold cmp3; split <;> (try split) <;> omega
theorem cmp3_ge {a b : Int} : cmp3 a b ≥ 0 ↔ a ≥ b := by unfold cmp3; split <;> (try split) <;> omega
theorem cmp3_eq {a b : Int} : cmp3 a b = 0 ↔ a = b := by unfold cmp3; split <;> (try split) <;> omega
theorem i32_cmp3 (a b : Int) : i32 (cmp3 a b) := by unfold cmp3 i32; split <;> (try split) <;> omega
def wc (x : Int) : Int := x % 65536
theorem wc_in (x : Int) : 0 ≤ wc x ∧ wc x < 65536 := by unfold wc; omega
theorem i32_wc (x : Int) : i32 (wc x) := by have := wc_in x; exact ⟨by omega, by omega⟩
theorem of_i2c {x : Int} (hx : i32 x) : ((Int32.ofInt x).toUInt32 % 65536).toInt32 = Int32.ofInt (wc x) := by
  rw [pk_char]
  have h : (((Int32.ofInt x).toBitVec.toNat % 65536 : Nat) : Int) = wc x := by
    have h1 : (Int32.ofInt x).toBitVec.toInt = x := aT32 hx
    unfold wc
    rw [BitVec.toInt_eq_toNat_bmod] at h1
    have e : ((2 ^ 32 : Nat) : Int) = 4294967296 := rfl
    simp only [Int.bmod, e] at h1
    split at h1 <;> omega
  rw [← h, nI, Int32.ofInt_eq_ofNat]
