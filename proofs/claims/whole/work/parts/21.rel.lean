/-! the class's town t and a row w of the model (its first 364 ints): what is the same in both -/
def gzLg (I : gzIT) (t : Nat) (w : Nat → Int32) (nl nx : Nat) : Prop := nl ≤ 60 ∧ nx < 60 ∧ I t 15 1 = Int32.ofNat nl ∧ w 8 = Int32.ofNat nl ∧ I t 15 2 = Int32.ofNat nx ∧
  ∀ ago, ago < nl → ∀ k, k < 4 → I t 16 ((nx + 59 - ago) % 60 * 4 + k) = w (124 + 4 * ago + k)
def gzTn (I : gzIT) (t : Nat) (w : Nat → Int32) (nf ng nl nx : Nat) : Prop :=
  (nf ≤ 6 ∧ ng ≤ 10 ∧ I t 1 5 = Int32.ofNat nf ∧ w 0 = Int32.ofNat nf ∧ I t 7 7 = Int32.ofNat ng ∧ w 1 = Int32.ofNat ng) ∧
  (I t 0 6 = w 2 ∧ I t 0 7 = w 4 ∧ I t 0 8 = w 5 ∧ I t 0 9 = w 6 ∧ I t 0 10 = w 7 ∧ I t 0 11 = w 9) ∧
  (∀ k, k < 4 → I t 19 k = w (10 + k)) ∧
  (∀ s, s < 8 → I t 17 s = w (14 + 2 * s) ∧ I t 18 s = w (15 + 2 * s)) ∧
  (∀ f, f < nf → I t 2 f = w (30 + 4 * f) ∧ I t 3 f = w (31 + 4 * f) ∧ I t 4 f = w (32 + 4 * f) ∧ I t 5 f = w (33 + 4 * f)) ∧
  (∀ g, g < ng → I t 8 g = w (54 + 7 * g) ∧ I t 9 g = w (55 + 7 * g) ∧ I t 10 g = w (56 + 7 * g) ∧ I t 11 g = w (57 + 7 * g) ∧ I t 12 g = w (58 + 7 * g) ∧ I t 13 g = w (59 + 7 * g) ∧ I t 14 g = w (60 + 7 * g)) ∧
  gzLg I t w nl nx
/-- what holds of a row of the model: each number in its bounds -/
def gzWr (w : Nat → Int32) (nf ng nl : Nat) : Prop :=
  (0 ≤ (w 2).toInt ∧ (w 2).toInt ≤ 12) ∧ (0 ≤ (w 4).toInt ∧ (w 4).toInt ≤ 9999) ∧ (0 ≤ (w 5).toInt ∧ (w 5).toInt ≤ 9999) ∧ (w 6 = 0 ∨ w 6 = 1) ∧
  (∀ g, g < ng → ∃ a b o : Nat, a < nf ∧ b < nf ∧ a ≠ b ∧ o < 8 ∧ w (54 + 7 * g) = Int32.ofNat a ∧ w (55 + 7 * g) = Int32.ofNat b ∧ w (56 + 7 * g) = Int32.ofNat o) ∧
  (∀ g, g < ng → (0 ≤ (w (57 + 7 * g)).toInt ∧ (w (57 + 7 * g)).toInt ≤ 99) ∧ (0 ≤ (w (58 + 7 * g)).toInt ∧ (w (58 + 7 * g)).toInt ≤ 999) ∧ (w (59 + 7 * g) = 0 ∨ w (59 + 7 * g) = 1) ∧ (w (60 + 7 * g) = 0 ∨ w (60 + 7 * g) = 1))
/-- the first pair: the class's frozen ones are the model's standing ones -/
theorem r_standing {φ t nf ng nl nx : Nat} {I : gzIT} (h : gzTn I t (I 0 48) nf ng nl nx) (hw : gzWr (I 0 48) nf ng nl) (hφ : 10 < φ) : f_X1_frozenOnes φ t I = f_X12_standing φ I := by
  obtain ⟨⟨h1, h2, h3, h4, h5, h6⟩, -, -, -, -, h7, -⟩ := h
  rw [s_X1_frozenOnes h5 h2 (by omega), s_X12_standing h6 h2 (by omega)]
  refine congrArg some (gzFo_congr _ _ _ fun s j _ hj => ?_)
  have e := (h7 j (by omega)).2.2.2.2.2.2
  have b := (hw.2.2.2.2.2 j (by omega)).2.2.2
  rw [e]
  rcases b with b | b
  · rw [b, if_pos rfl, if_neg (by decide)]
  · rw [b, if_neg (by decide), if_pos rfl, Int32.or_zero]
