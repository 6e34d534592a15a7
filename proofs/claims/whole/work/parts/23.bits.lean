/-! sets as bits of an int -/
def gzB (s : Int32) (j : Nat) : Bool := s.toBitVec.getLsbD j
theorem gzb_and31 : ∀ j, j < 32 → Int32.ofNat j &&& 31 = Int32.ofNat j := by decide
theorem gzb_mod : ∀ j, j < 32 → ((Int32.ofNat j).toBitVec.smod 32#32).toNat = j := by decide
theorem gzb_sshr {s : Int32} {j : Nat} (hj : j < 32) : (s >>> (Int32.ofNat j &&& 31)).toBitVec = s.toBitVec.sshiftRight j := by
  rw [gzb_and31 j hj, Int32.toBitVec_shiftRight]
  show s.toBitVec.sshiftRight ((Int32.ofNat j).toBitVec.smod 32#32).toNat = _
  rw [gzb_mod j hj]
theorem gzb_has {s : Int32} {j : Nat} (hj : j < 32) : (s >>> (Int32.ofNat j &&& 31)) &&& 1 = if gzB s j then 1 else 0 := by
  apply Int32.toBitVec_inj.mp
  rw [Int32.toBitVec_and, gzb_sshr hj]
  have h1 : (1 : Int32).toBitVec = 1#32 := rfl
  rw [h1]
  apply BitVec.eq_of_getLsbD_eq
  intro i hi
  rw [BitVec.getLsbD_and, BitVec.getLsbD_sshiftRight]
  unfold gzB
  have h2 : ∀ c : Bool, (if c = true then (1 : Int32) else 0).toBitVec.getLsbD i = (c && decide (i = 0)) := by
    intro c
    cases c with
    | true => show (1#32).getLsbD i = _; rw [BitVec.getLsbD_one]; simp
    | false => show (0#32).getLsbD i = _; simp
  rw [h2, BitVec.getLsbD_one]
  by_cases h0 : i = 0
  · subst h0
    rw [if_pos (show j + 0 < 32 by omega)]
    simp
  · simp [h0]
theorem gzb_or {a b : Int32} {j : Nat} : gzB (a ||| b) j = (gzB a j || gzB b j) := by
  unfold gzB; rw [Int32.toBitVec_or, BitVec.getLsbD_or]
theorem gzb_zero {j : Nat} : gzB 0 j = false := by
  unfold gzB
  show (0#32).getLsbD j = false
  simp
theorem gzb_one : ∀ i, i < 32 → ∀ j, j < 32 → gzB ((1 : Int32) <<< (Int32.ofNat i &&& 31)) j = decide (j = i) := by decide +kernel
/-- those of i .. i + m - 1 that P has, as bits -/
theorem gzb_fold {P : Nat → Bool} : ∀ (m i : Nat) (s : Int32) (j : Nat), i + m ≤ 32 → j < 32 → gzB (gzFo (fun s k => if P k = true then s ||| (1 : Int32) <<< (Int32.ofNat k &&& 31) else s) i m s) j = (gzB s j || (decide (i ≤ j ∧ j < i + m) && P j)) := by
  intro m
  induction m with
  | zero =>
    intro i s j h hj
    show gzB s j = _
    have : ¬ (i ≤ j ∧ j < i + 0) := by omega
    rw [decide_eq_false this, Bool.false_and, Bool.or_false]
  | succ m ih =>
    intro i s j h hj
    unfold gzFo
    rw [ih (i + 1) _ j (by omega) hj]
    by_cases hP : P i = true
    · rw [if_pos hP, gzb_or, gzb_one i (by omega) j hj]
      by_cases e : j = i
      · subst e
        have : ¬ (j + 1 ≤ j ∧ j < j + 1 + m) := by omega
        have q : j ≤ j ∧ j < j + (m + 1) := by omega
        simp [hP]
      · have : (i + 1 ≤ j ∧ j < i + 1 + m) ↔ (i ≤ j ∧ j < i + (m + 1)) := by omega
        simp only [this]
        simp [e]
    · rw [if_neg hP]
      by_cases e : j = i
      · subst e
        have hq : P j = false := by simpa using hP
        simp [hq]
      · have : (i + 1 ≤ j ∧ j < i + 1 + m) ↔ (i ≤ j ∧ j < i + (m + 1)) := by omega
        simp only [this]
