/-! ===== the bits of an int ===== -/
def tb (p : Int) (t : Nat) : Bool := (Int32.ofInt p).toBitVec.getLsbD t
theorem and1 (y : Int32) : (y &&& Int32.ofInt 1).toInt = 1 ↔ y.toBitVec.getLsbD 0 = true := by
  have h : (y &&& Int32.ofInt 1).toInt = (y.toBitVec &&& 1#32).toInt := by rfl
  rw [h, BitVec.and_one_eq_setWidth_ofBool_getLsbD]
  cases y.toBitVec.getLsbD 0 <;> decide
theorem shN (x : Int32) {t : Nat} (ht : t < 32) : (x >>> (Int32.ofInt t &&& 31)).toBitVec = x.toBitVec.sshiftRight t := by
  have h : (x >>> (Int32.ofInt t &&& 31)).toBitVec = x.toBitVec.sshiftRight (((Int32.ofInt t &&& 31).toBitVec.smod 32)).toNat := by rfl
  have e : ∀ t, t < 32 → (((Int32.ofInt (t : Nat) &&& 31).toBitVec.smod 32)).toNat = t := by decide
  rw [h, e t ht]
theorem slN (x : Int32) {t : Nat} (ht : t < 32) : (x <<< (Int32.ofInt t &&& 31)).toBitVec = x.toBitVec <<< t := by
  have h : (x <<< (Int32.ofInt t &&& 31)).toBitVec = x.toBitVec <<< (((Int32.ofInt t &&& 31).toBitVec.smod 32)).toNat := by rfl
  have e : ∀ t, t < 32 → (((Int32.ofInt (t : Nat) &&& 31).toBitVec.smod 32)).toNat = t := by decide
  rw [h, e t ht]
theorem tb_shr {p : Int} {t : Nat} (ht : t < 32) : bAnd (bShr p t) 1 = 1 ↔ tb p t = true := by
  unfold bAnd bShr tb
  rw [Int32.ofInt_toInt, and1, shN _ ht, BitVec.getLsbD_sshiftRight]
  simp only [Nat.add_zero]
  rw [if_pos ht]
  simp
theorem tb_or {p q : Int} {t : Nat} : tb (bOr p q) t = (tb p t || tb q t) := by
  unfold tb bOr
  rw [Int32.ofInt_toInt]
  show ((Int32.ofInt p).toBitVec ||| (Int32.ofInt q).toBitVec).getLsbD t = _
  rw [BitVec.getLsbD_or]
theorem tb_bit {i t : Nat} (hi : i < 32) (ht : t < 32) : tb (bShl 1 i) t = decide (t = i) := by
  unfold tb bShl
  rw [Int32.ofInt_toInt, slN _ hi]
  have e : ∀ i, i < 32 → ∀ t, t < 32 → ((Int32.ofInt 1).toBitVec <<< i).getLsbD t = decide (t = i) := by decide
  exact e i hi t ht
theorem tb_zero {t : Nat} : tb 0 t = false := by
  unfold tb
  show (0#32).getLsbD t = false
  simp
