/-! the bytes of a fed int: the class's and the model's -/
def gzFC (x s : Int32) : Int32 := ((x.toUInt32 >>> (s.toUInt32 &&& Int32.toUInt32 31)).toInt32) &&& 255
def gzFM (x : Int32) (s : Nat) : Int32 := ((x >>> (Int32.ofNat s &&& 31)).toInt8.toInt32).toInt8.toInt32
theorem gzFM_same {x : Int32} {s : Nat} : (gzFM x s).toInt8.toInt32 = gzFM x s := by
  unfold gzFM
  simp
theorem gz255 : ∀ k, k < 32 → gzB 255 k = decide (k < 8) := by decide
theorem gzFC_bit {x : Int32} {s k : Nat} (hs : s = 0 ∨ s = 8 ∨ s = 16 ∨ s = 24) (hk : k < 8) : gzB ((x.toUInt32 >>> ((Int32.ofNat s).toUInt32 &&& Int32.toUInt32 31)).toInt32) k = x.toBitVec.getLsbD (s + k) := by
  unfold gzB
  have e : ((x.toUInt32 >>> ((Int32.ofNat s).toUInt32 &&& Int32.toUInt32 31)).toInt32).toBitVec = x.toBitVec >>> s := by
    rcases hs with rfl | rfl | rfl | rfl <;> rfl
  rw [e, BitVec.getLsbD_ushiftRight]
theorem gzFM_bit {x : Int32} {s k : Nat} (hs : s = 0 ∨ s = 8 ∨ s = 16 ∨ s = 24) (hk : k < 8) : gzB (gzFM x s) k = x.toBitVec.getLsbD (s + k) := by
  have e : gzFM x s = (x >>> (Int32.ofNat s &&& 31)).toInt8.toInt32 := by
    unfold gzFM
    simp
  rw [e]
  unfold gzB
  show ((((x >>> (Int32.ofNat s &&& 31)).toBitVec.signExtend 8).signExtend 32).getLsbD k) = _
  rw [gzb_sshr (by omega), BitVec.getLsbD_signExtend, BitVec.getLsbD_signExtend]
  simp only [show k < 32 by omega, show k < 8 by omega, decide_true, Bool.true_and, if_true]
  rw [BitVec.getLsbD_sshiftRight]
  simp [show k < 32 by omega, show s + k < 32 by omega]
theorem gz_fbyte {x : Int32} {s : Nat} (hs : s = 0 ∨ s = 8 ∨ s = 16 ∨ s = 24) : gzFC x (Int32.ofNat s) = gzFM x s &&& 255 := gzb_ext fun k hk => by
  unfold gzFC
  rw [gzb_and, gzb_and, gz255 k hk]
  by_cases h8 : k < 8
  · rw [gzFC_bit hs h8, gzFM_bit hs h8]
  · rw [decide_eq_false h8, Bool.and_false, Bool.and_false]
