/-! the model reads its row; the first pairs by the words of 31 -/
def gzVi (I : gzIT) (w : Nat → Int32) (nf ng : Nat) : Prop := (∀ k, k < 364 → I 0 48 k = w k) ∧ gzVm w nf ng ∧ gzVb w nf ng
section
variable {I : gzIT} {w : Nat → Int32} {nf ng : Nat}
theorem m_families (h : gzVi I w nf ng) : f_X12_families I = some (Int32.ofNat nf) := by
  unfold f_X12_families
  rw [h.1 0 (by omega), h.2.1.1.1]
theorem m_grudges (h : gzVi I w nf ng) : f_X12_grudges I = some (Int32.ofNat ng) := by
  unfold f_X12_grudges
  rw [h.1 1 (by omega), h.2.1.1.2.1]
theorem m_of0 (h : gzVi I w nf ng) {g : Nat} (hg : g < ng) : f_X12_of I (Int32.ofNat g) 0 = some (Int32.ofNat (tF w g)) := by
  have := h.2.1.1.2.2.2
  rw [show (0 : Int32) = Int32.ofNat 0 from rfl, s_X12_of (by omega) (by omega), h.1 _ (by omega), Nat.add_zero, h.2.1.2.1 g hg]
theorem m_of1 (h : gzVi I w nf ng) {g : Nat} (hg : g < ng) : f_X12_of I (Int32.ofNat g) 1 = some (Int32.ofNat (tT w g)) := by
  have := h.2.1.1.2.2.2
  rw [show (1 : Int32) = Int32.ofNat 1 from rfl, s_X12_of (by omega) (by omega), h.1 _ (by omega), show 54 + 7 * g + 1 = 55 + 7 * g by omega, h.2.1.2.2.1 g hg]
theorem m_of2 (h : gzVi I w nf ng) {g : Nat} (hg : g < ng) : f_X12_of I (Int32.ofNat g) 2 = some (Int32.ofNat (tS w g)) := by
  have := h.2.1.1.2.2.2
  rw [show (2 : Int32) = Int32.ofNat 2 from rfl, s_X12_of (by omega) (by omega), h.1 _ (by omega), show 54 + 7 * g + 2 = 56 + 7 * g by omega, h.2.1.2.2.2.1 g hg]
theorem m_of3 (h : gzVi I w nf ng) {g : Nat} (hg : g < ng) : f_X12_of I (Int32.ofNat g) 3 = some (w (57 + 7 * g)) := by
  have := h.2.1.1.2.2.2
  rw [show (3 : Int32) = Int32.ofNat 3 from rfl, s_X12_of (by omega) (by omega), h.1 _ (by omega), show 54 + 7 * g + 3 = 57 + 7 * g by omega]
theorem m_of4 (h : gzVi I w nf ng) {g : Nat} (hg : g < ng) : f_X12_of I (Int32.ofNat g) 4 = some (w (58 + 7 * g)) := by
  have := h.2.1.1.2.2.2
  rw [show (4 : Int32) = Int32.ofNat 4 from rfl, s_X12_of (by omega) (by omega), h.1 _ (by omega), show 54 + 7 * g + 4 = 58 + 7 * g by omega]
theorem m_of5 (h : gzVi I w nf ng) {g : Nat} (hg : g < ng) : f_X12_of I (Int32.ofNat g) 5 = some (if tU w g = true then 1 else 0) := by
  have := h.2.1.1.2.2.2
  rw [show (5 : Int32) = Int32.ofNat 5 from rfl, s_X12_of (by omega) (by omega), h.1 _ (by omega), show 54 + 7 * g + 5 = 59 + 7 * g by omega, h.2.1.2.2.2.2.1 g hg]
theorem m_of6 (h : gzVi I w nf ng) {g : Nat} (hg : g < ng) : f_X12_of I (Int32.ofNat g) 6 = some (if tH w g = true then 1 else 0) := by
  have := h.2.1.1.2.2.2
  rw [show (6 : Int32) = Int32.ofNat 6 from rfl, s_X12_of (by omega) (by omega), h.1 _ (by omega), show 54 + 7 * g + 6 = 60 + 7 * g by omega, h.2.1.2.2.2.2.2 g hg]
theorem m_isThawed (h : gzVi I w nf ng) {g : Nat} (hg : g < ng) : f_X12_isThawed I (Int32.ofNat g) = some (if tH w g = true then 1 else 0) := by
  unfold f_X12_isThawed
  rw [m_of6 h hg]
  cases tH w g <;> rfl
theorem m_isOf (h : gzVi I w nf ng) {g f : Nat} (hg : g < ng) (hf : f < 6) : f_X12_isOf I (Int32.ofNat g) (Int32.ofNat f) = some (if tF w g = f ∨ tT w g = f then 1 else 0) := by
  have := h.2.1.1.2.2.1
  have := h.2.2.1 g hg
  have := h.2.2.2.1 g hg
  unfold f_X12_isOf
  rw [m_of0 h hg, m_of1 h hg]
  simp (disch := omega) only [Option.bind_some, gzn_inj]
  by_cases h1 : tF w g = f
  · rw [if_pos h1, if_pos (Or.inl h1)]
  · by_cases h2 : tT w g = f
    · rw [if_neg h1, if_neg (fun q => q h2), if_pos (Or.inr h2)]
    · rw [if_neg h1, if_pos h2, if_neg (by omega)]
theorem m_ofFamily (h : gzVi I w nf ng) {f k : Nat} (hf : f < nf) (hk : k < 4) : f_X12_ofFamily I (Int32.ofNat f) (Int32.ofNat k) = some (w (30 + 4 * f + k)) := by
  have := h.2.1.1.2.2.1
  rw [s_X12_ofFamily (by omega) hk, h.1 _ (by omega)]
theorem m_ofFamily0 (h : gzVi I w nf ng) {f : Nat} (hf : f < nf) : f_X12_ofFamily I (Int32.ofNat f) 0 = some (w (30 + 4 * f)) := m_ofFamily h hf (k := 0) (by omega)
theorem m_ofFamily1 (h : gzVi I w nf ng) {f : Nat} (hf : f < nf) : f_X12_ofFamily I (Int32.ofNat f) 1 = some (w (31 + 4 * f)) := by
  rw [show (1 : Int32) = Int32.ofNat 1 from rfl, m_ofFamily h hf (by omega), show 30 + 4 * f + 1 = 31 + 4 * f by omega]
theorem m_ofFamily2 (h : gzVi I w nf ng) {f : Nat} (hf : f < nf) : f_X12_ofFamily I (Int32.ofNat f) 2 = some (w (32 + 4 * f)) := by
  rw [show (2 : Int32) = Int32.ofNat 2 from rfl, m_ofFamily h hf (by omega), show 30 + 4 * f + 2 = 32 + 4 * f by omega]
theorem m_ofFamily3 (h : gzVi I w nf ng) {f : Nat} (hf : f < nf) : f_X12_ofFamily I (Int32.ofNat f) 3 = some (w (33 + 4 * f)) := by
  rw [show (3 : Int32) = Int32.ofNat 3 from rfl, m_ofFamily h hf (by omega), show 30 + 4 * f + 3 = 33 + 4 * f by omega]
theorem m_ofSlight0 (h : gzVi I w nf ng) {g : Nat} (hg : g < ng) : f_X12_ofSlight I (Int32.ofNat g) 0 = some (w (14 + 2 * tS w g)) := by
  have := h.2.2.2.2.2 g hg
  unfold f_X12_ofSlight
  rw [m_of2 h hg]
  simp (disch := omega) only [Option.bind_some, gzc_mul, gzc_add, gzc_add', gzGd_in, gzn_clamp]
  rw [h.1 _ (by omega)]
  rfl
theorem m_ofSlight1 (h : gzVi I w nf ng) {g : Nat} (hg : g < ng) : f_X12_ofSlight I (Int32.ofNat g) 1 = some (w (15 + 2 * tS w g)) := by
  have := h.2.2.2.2.2 g hg
  unfold f_X12_ofSlight
  rw [m_of2 h hg]
  simp (disch := omega) only [Option.bind_some, gzc_mul, gzc_add, gzc_add', gzGd_in, gzn_clamp]
  rw [h.1 _ (by omega), show 14 + 2 * tS w g + 1 = 15 + 2 * tS w g by omega]
theorem m_has {s : Int32} {j : Nat} (hj : j < 32) : f_X12_has s (Int32.ofNat j) = some (if gzB s j = true then 1 else 0) := s_X12_has hj
theorem m_all (h : gzVi I w nf ng) : f_X12_allFamilies I = some (Int32.ofNat (2 ^ nf - 1)) := by
  have h6 := h.2.1.1.2.2.1
  unfold f_X12_allFamilies
  rw [m_families h]
  simp only [Option.bind_some]
  have : ∀ n, n ≤ 6 → ((1 : Int32) <<< (Int32.ofNat n &&& 31)) - 1 = Int32.ofNat (2 ^ n - 1) := by decide
  rw [this nf h6]
end
/-- how many GRUDGES lie within a camp or its rest -/
def S_within (w : Nat → Int32) (ng : Nat) (c : Int32) : Int32 := gzFo (fun s i => if tH w i = true then s else if gzB c (tF w i) = gzB c (tT w i) then s + 1 else s) 0 ng 0
theorem c_within {φ t nf ng : Nat} {I : gzIT} {w : Nat → Int32} {c : Int32} (h : gzVc I t w nf ng) (hb : gzVb w nf ng) (hφ : 10 < φ) : f_X1_within φ t I c = some (S_within w ng c) := by
  obtain ⟨⟨h1, h2, h3, h4⟩, hF, hT, hS, hA, hI, hU, hH, hP, hN, hL, hO, hB, hD⟩ := h
  obtain ⟨bF, bT, bN, bS⟩ := hb
  unfold f_X1_within
  refine gz_loop (F := fun k s i => f_X1_within_4 φ t I k c s i) (n := ng) (out := some) ?_ ?_ ng 0 φ 0 (by omega) (by omega)
  · intro k s i hi
    have q1 := bF i hi
    have q2 := bT i hi
    show f_X1_within_4 φ t I (k + 1) c s (Int32.ofNat i) = f_X1_within_4 φ t I k c _ (Int32.ofNat (i + 1))
    simp (disch := omega) only [f_X1_within_4, h2, gzn_le, gzGd_in, gzn_clamp, hH, hF, hT, gzc_has, gzc_b0, gzn_succ, Option.bind_some, if_pos, if_neg, Classical.not_not]
    cases tH w i <;> cases gzB c (tF w i) <;> cases gzB c (tT w i) <;> rfl
  · intro k s
    show f_X1_within_4 φ t I (k + 1) c s (Int32.ofNat ng) = some s
    simp (disch := omega) only [f_X1_within_4, h2, gzn_le, if_pos]
theorem m_within {φ nf ng : Nat} {I : gzIT} {w : Nat → Int32} {c : Int32} (h : gzVi I w nf ng) (hφ : 10 < φ) : f_X12_within φ I c = some (S_within w ng c) := by
  obtain ⟨-, ⟨⟨-, -, h3, h4⟩, -⟩, bF, bT, -, -⟩ := id h
  unfold f_X12_within
  refine gz_loop (F := fun k s i => f_X12_within_4 φ I k c s i) (n := ng) (out := some) ?_ ?_ ng 0 φ 0 (by omega) (by omega)
  · intro k s i hi
    have q1 := bF i hi
    have q2 := bT i hi
    show f_X12_within_4 φ I (k + 1) c s (Int32.ofNat i) = f_X12_within_4 φ I k c _ (Int32.ofNat (i + 1))
    simp (disch := omega) only [f_X12_within_4, m_grudges h, gzn_le, m_isThawed h, m_of0 h, m_of1 h, m_has, gzc_b0, gzn_succ, Option.bind_some, if_pos, if_neg, Classical.not_not, Int32.add_zero]
    cases tH w i <;> cases gzB c (tF w i) <;> cases gzB c (tT w i) <;> rfl
  · intro k s
    show f_X12_within_4 φ I (k + 1) c s (Int32.ofNat ng) = some s
    simp (disch := omega) only [f_X12_within_4, m_grudges h, Option.bind_some, gzn_le, if_pos]
