/-! mutual, twins, oldest, tight -/
section
variable {I : gzIT} {J : gzJT} {w : Nat → Int32} {nf ng t φ : Nat}
theorem c_frozen (h : gzVc I t w nf ng) {i : Nat} (hi : i < ng) : f_X1_frozen t I (Int32.ofNat i) = some (if tH w i = true then 0 else 1) := by
  obtain ⟨⟨h1, h2, h3, h4⟩, hF, hT, hS, hA, hI, hU, hH, hP, hN, hL, hO, hB, hD⟩ := h
  rw [s_X1_frozen h2 hi h4, hH i hi]
  cases tH w i <;> rfl
theorem c_find (h : gzVc I t w nf ng) (hb : gzVb w nf ng) {a b : Nat} (ha : a < 6) (hb2 : b < 6) (hφ : 10 < φ) :
    (gzAn (fun j => !tH w j && (tF w j == a) && (tT w j == b)) 0 ng = false ∧ f_X1_find φ t I (Int32.ofNat a) (Int32.ofNat b) = some (-1)) ∨
    (gzAn (fun j => !tH w j && (tF w j == a) && (tT w j == b)) 0 ng = true ∧ ∃ j, 0 ≤ j ∧ j < ng ∧ (fun j => !tH w j && (tF w j == a) && (tT w j == b)) j = true ∧ (∀ j', 0 ≤ j' → j' < j → (fun j => !tH w j && (tF w j == a) && (tT w j == b)) j' = false) ∧ f_X1_find φ t I (Int32.ofNat a) (Int32.ofNat b) = some (Int32.ofNat j)) := by
  obtain ⟨⟨h1, h2, h3, h4⟩, hF, hT, hS, hA, hI, hU, hH, hP, hN, hL, hO, hB, hD⟩ := h
  obtain ⟨bF, bT, bN, bS⟩ := hb
  unfold f_X1_find
  refine gz_exit (F := fun k j => f_X1_find_2 φ t I k (Int32.ofNat a) (Int32.ofNat b) j) (n := ng) (p := fun j => !tH w j && (tF w j == a) && (tT w j == b)) (r := Int32.ofNat) (o := some (-1)) ?_ ?_ ng 0 φ (by omega) (by omega)
  · intro k i hi
    have q1 := bF i hi
    have q2 := bT i hi
    show f_X1_find_2 φ t I (k + 1) (Int32.ofNat a) (Int32.ofNat b) (Int32.ofNat i) = if (!tH w i && (tF w i == a) && (tT w i == b)) = true then some (Int32.ofNat i) else f_X1_find_2 φ t I k (Int32.ofNat a) (Int32.ofNat b) (Int32.ofNat (i + 1))
    simp (disch := omega) only [f_X1_find_2, h2, gzn_le, gzGd_in, gzn_clamp, hH, hF, hT, gzc_b0, gzn_inj, gzn_succ, if_neg]
    cases tH w i <;> by_cases e1 : tF w i = a <;> by_cases e2 : tT w i = b <;> simp [e1, e2]
  · intro k
    show f_X1_find_2 φ t I (k + 1) (Int32.ofNat a) (Int32.ofNat b) (Int32.ofNat ng) = some (-1)
    simp (disch := omega) only [f_X1_find_2, h2, gzn_le, if_pos]
def gzRv (w : Nat → Int32) (ng i : Nat) : Bool := gzAn (fun j => !tH w j && (tF w j == tT w i) && (tT w j == tF w i)) 0 ng
theorem m_isMutual (h : gzVi I w nf ng) {i : Nat} (hi : i < ng) (hφ : 10 < φ) : f_X12_isMutual φ I (Int32.ofNat i) = some (if gzRv w ng i = true then 1 else 0) := by
  obtain ⟨-, ⟨⟨-, -, h3, h4⟩, -⟩, bF, bT, -, -⟩ := id h
  unfold f_X12_isMutual
  refine (gz_flag (F := fun k s j => f_X12_isMutual_4 φ I k (Int32.ofNat i) s j) (n := ng) (p := fun j => !tH w j && (tF w j == tT w i) && (tT w j == tF w i)) (out := fun s => some (if s = true then 1 else 0)) ?_ ?_ ng 0 φ false (by omega) (by omega)).trans rfl
  · intro k s j hj
    have q1 := bF i hi
    have q2 := bT i hi
    have q3 := bF j hj
    have q4 := bT j hj
    show f_X12_isMutual_4 φ I (k + 1) (Int32.ofNat i) (if s = true then 1 else 0) (Int32.ofNat j) = f_X12_isMutual_4 φ I k (Int32.ofNat i) (if (s || (!tH w j && (tF w j == tT w i) && (tT w j == tF w i))) = true then 1 else 0) (Int32.ofNat (j + 1))
    simp (disch := omega) only [f_X12_isMutual_4, m_grudges h, gzn_le, m_isThawed h, m_of0 h, m_of1 h, gzc_b0, gzn_inj, gzn_succ, Option.bind_some, if_neg]
    cases s <;> cases tH w j <;> by_cases e1 : tF w j = tT w i <;> by_cases e2 : tT w j = tF w i <;> simp [e1, e2]
  · intro k s
    show f_X12_isMutual_4 φ I (k + 1) (Int32.ofNat i) (if s = true then 1 else 0) (Int32.ofNat ng) = _
    simp (disch := omega) only [f_X12_isMutual_4, m_grudges h, Option.bind_some, gzn_le, if_pos, gzc_gz]
def S_mut (w : Nat → Int32) (ng : Nat) : Int32 := gzFo (fun s i => if tH w i = true then s else if gzRv w ng i = true then s ||| ((1 : Int32) <<< (Int32.ofNat i &&& 31)) else s) 0 ng 0
theorem c_mutual (h : gzVc I 0 w nf ng) (hb : gzVb w nf ng) (hφ : 10 < φ) : f_X11_mutual φ I = some (S_mut w ng) := by
  obtain ⟨⟨h1, h2, h3, h4⟩, hF, hT, hS, hA, hI, hU, hH, hP, hN, hL, hO, hB, hD⟩ := id h
  obtain ⟨bF, bT, bN, bS⟩ := id hb
  unfold f_X11_mutual
  refine gz_loop (F := fun k s i => f_X11_mutual_4 φ I k s i) (n := ng) (out := some) ?_ ?_ ng 0 φ 0 (by omega) (by omega)
  · intro k s i hi
    have q1 := bF i hi
    have q2 := bT i hi
    show f_X11_mutual_4 φ I (k + 1) s (Int32.ofNat i) = f_X11_mutual_4 φ I k (if tH w i = true then s else if gzRv w ng i = true then s ||| ((1 : Int32) <<< (Int32.ofNat i &&& 31)) else s) (Int32.ofNat (i + 1))
    simp (disch := omega) only [f_X11_mutual_4, h2, gzn_le, c_frozen h, gzGd_in, gzn_clamp, hF, hT, gzn_succ, Option.bind_some, if_neg]
    rcases c_find h hb (a := tT w i) (b := tF w i) (by omega) (by omega) hφ with ⟨e1, e2⟩ | ⟨e1, j, -, hj, -, -, e2⟩
    · rw [e2, show gzRv w ng i = false from e1]
      cases tH w i <;> rfl
    · rw [e2, show gzRv w ng i = true from e1]
      simp (disch := omega) only [Option.bind_some, gzc_m1, if_false]
      cases tH w i <;> rfl
  · intro k s
    show f_X11_mutual_4 φ I (k + 1) s (Int32.ofNat ng) = some s
    simp (disch := omega) only [f_X11_mutual_4, h2, gzn_le, if_pos]
theorem gz_or0 {a : Int32} : a ||| 0 = a := by
  apply Int32.toBitVec_inj.mp
  rw [Int32.toBitVec_or]
  show _ ||| 0#32 = _
  simp
theorem m_mutual (h : gzVi I w nf ng) (hφ : 10 < φ) : f_X12_mutual_9 φ φ 0 0 I J = some (S_mut w ng, I, J) := by
  obtain ⟨-, ⟨⟨-, -, h3, h4⟩, -⟩, bF, bT, -, -⟩ := id h
  refine gz_loop (F := fun k s i => f_X12_mutual_9 φ k s i I J) (n := ng) (out := fun s => some (s, I, J)) ?_ ?_ ng 0 φ 0 (by omega) (by omega)
  · intro k s i hi
    show f_X12_mutual_9 φ (k + 1) s (Int32.ofNat i) I J = f_X12_mutual_9 φ k _ (Int32.ofNat (i + 1)) I J
    simp (disch := omega) only [f_X12_mutual_9, m_grudges h, gzn_le, m_isThawed h, m_isMutual h, gzc_b0, gzn_succ, Option.bind_some, if_neg, gz_or0]
    cases tH w i <;> cases gzRv w ng i <;> rfl
  · intro k s
    show f_X12_mutual_9 φ (k + 1) s (Int32.ofNat ng) I J = _
    simp (disch := omega) only [f_X12_mutual_9, m_grudges h, Option.bind_some, gzn_le, if_pos]
theorem L_mutual (h : gzR I I) : ∃ v I2 J2, f_X11_mutual 4096 I = some v ∧ f_X12_mutual 4096 I J = some (v, I2, J2) ∧ gzR I2 I2 := by
  obtain ⟨nf, ng, nl, nx, -, -, c, b, m⟩ := gzR_go h
  exact ⟨_, _, _, c_mutual c b (by omega), m_mutual (m 0) (by omega), gzR_thr h⟩
/-- twins: the pairs alike -/
def gzAl (w : Nat → Int32) (i j : Nat) : Bool := !tH w i && !tH w j && (tS w i == tS w j) && (w (57 + 7 * i) == w (57 + 7 * j))
theorem c_alike (h : gzVc I t w nf ng) (hb : gzVb w nf ng) {i j : Nat} (hi : i < ng) (hj : j < ng) : f_X1_alike t I (Int32.ofNat i) (Int32.ofNat j) = some (if gzAl w i j = true then 1 else 0) := by
  obtain ⟨⟨h1, h2, h3, h4⟩, hF, hT, hS, hA, hI, hU, hH, hP, hN, hL, hO, hB, hD⟩ := id h
  have q1 := hb.2.2.2 i hi
  have q2 := hb.2.2.2 j hj
  unfold f_X1_alike gzAl
  simp (disch := omega) only [c_frozen h, gzc_cell, hS, hA, Option.bind_some, gzn_inj]
  cases tH w i <;> cases tH w j <;> by_cases e1 : tS w i = tS w j <;> by_cases e2 : w (57 + 7 * i) = w (57 + 7 * j) <;> simp [e1, e2]
def S_twin1 (w : Nat → Int32) (i : Nat) (s : Int32) : Int32 := gzFo (fun s j => if gzAl w i j = true then s + 1 else s) 0 i s
def S_twins (w : Nat → Int32) (ng : Nat) : Int32 := gzFo (fun s i => S_twin1 w i s) 0 ng 0
theorem c_twins (h : gzVc I 0 w nf ng) (hb : gzVb w nf ng) (hφ : 10 < φ) : f_X11_twins φ I = some (S_twins w ng) := by
  have h2 := h.1.2.1
  have h4 := h.1.2.2.2
  unfold f_X11_twins
  refine gz_loop (F := fun k s i => f_X11_twins_4 φ I k s i) (n := ng) (out := some) ?_ ?_ ng 0 φ 0 (by omega) (by omega)
  · intro k s i hi
    show f_X11_twins_4 φ I (k + 1) s (Int32.ofNat i) = f_X11_twins_4 φ I k (S_twin1 w i s) (Int32.ofNat (i + 1))
    simp (disch := omega) only [f_X11_twins_4, h2, gzn_le, if_neg]
    refine gz_loop (F := fun k2 s j => f_X11_twins_20 φ I (f_X11_twins_4 φ I k) k2 s (Int32.ofNat i) j) (n := i) (step := fun s j => if gzAl w i j = true then s + 1 else s) (out := fun s => f_X11_twins_4 φ I k s (Int32.ofNat (i + 1))) ?_ ?_ i 0 φ s (by omega) (by omega)
    · intro k2 s j hj
      show f_X11_twins_20 φ I (f_X11_twins_4 φ I k) (k2 + 1) s (Int32.ofNat i) (Int32.ofNat j) = f_X11_twins_20 φ I (f_X11_twins_4 φ I k) k2 (if gzAl w i j = true then s + 1 else s) (Int32.ofNat i) (Int32.ofNat (j + 1))
      simp (disch := omega) only [f_X11_twins_20, gzn_le, c_alike h hb hi, gzn_succ, Option.bind_some, if_neg]
      cases gzAl w i j <;> rfl
    · intro k2 s
      show f_X11_twins_20 φ I (f_X11_twins_4 φ I k) (k2 + 1) s (Int32.ofNat i) (Int32.ofNat i) = _
      simp (disch := omega) only [f_X11_twins_20, gzn_le, gzn_succ, if_pos]
  · intro k s
    show f_X11_twins_4 φ I (k + 1) s (Int32.ofNat ng) = some s
    simp (disch := omega) only [f_X11_twins_4, h2, gzn_le, if_pos]
theorem m_twins (h : gzVi I w nf ng) (hφ : 10 < φ) : f_X12_twins_9 φ φ 0 0 I J = some (S_twins w ng, I, J) := by
  obtain ⟨-, ⟨⟨-, -, h3, h4⟩, -⟩, bF, bT, -, bS⟩ := id h
  refine gz_loop (F := fun k s i => f_X12_twins_9 φ k s i I J) (n := ng) (out := fun s => some (s, I, J)) ?_ ?_ ng 0 φ 0 (by omega) (by omega)
  · intro k s i hi
    show f_X12_twins_9 φ (k + 1) s (Int32.ofNat i) I J = f_X12_twins_9 φ k (S_twin1 w i s) (Int32.ofNat (i + 1)) I J
    simp (disch := omega) only [f_X12_twins_9, m_grudges h, gzn_le, Option.bind_some, if_neg]
    refine gz_loop (F := fun k2 s j => f_X12_twins_19 φ (f_X12_twins_9 φ k) k2 s (Int32.ofNat i) j I J) (n := i) (step := fun s j => if gzAl w i j = true then s + 1 else s) (out := fun s => f_X12_twins_9 φ k s (Int32.ofNat (i + 1)) I J) ?_ ?_ i 0 φ s (by omega) (by omega)
    · intro k2 s j hj
      have q1 := bS i hi
      have q2 := bS j (by omega)
      show f_X12_twins_19 φ (f_X12_twins_9 φ k) (k2 + 1) s (Int32.ofNat i) (Int32.ofNat j) I J = f_X12_twins_19 φ (f_X12_twins_9 φ k) k2 (if gzAl w i j = true then s + 1 else s) (Int32.ofNat i) (Int32.ofNat (j + 1)) I J
      simp (disch := omega) only [f_X12_twins_19, gzn_le, m_isThawed h, m_of2 h, m_of3 h, gzn_inj, gzc_b0, gzn_succ, Option.bind_some, if_neg, Int32.add_zero]
      by_cases x1 : tH w i = true <;> by_cases x2 : tH w j = true <;> by_cases e1 : tS w i = tS w j <;> by_cases e2 : w (57 + 7 * i) = w (57 + 7 * j) <;> simp [gzAl, x1, x2, e1, e2]
    · intro k2 s
      show f_X12_twins_19 φ (f_X12_twins_9 φ k) (k2 + 1) s (Int32.ofNat i) (Int32.ofNat i) I J = _
      simp (disch := omega) only [f_X12_twins_19, gzn_le, gzn_succ, if_pos]
  · intro k s
    show f_X12_twins_9 φ (k + 1) s (Int32.ofNat ng) I J = _
    simp (disch := omega) only [f_X12_twins_9, m_grudges h, Option.bind_some, gzn_le, if_pos]
theorem L_twins (h : gzR I I) : ∃ v I2 J2, f_X11_twins 4096 I = some v ∧ f_X12_twins 4096 I J = some (v, I2, J2) ∧ gzR I2 I2 := by
  obtain ⟨nf, ng, nl, nx, -, -, c, b, m⟩ := gzR_go h
  exact ⟨_, _, _, c_twins c b (by omega), m_twins (m 0) (by omega), gzR_thr h⟩
/-- tight: the smallest set that misses something -/
def gzBc (x : Int32) : Int32 := (f_J6_bitCount_0f7a4 x).getD 0
theorem gzBc_eq (x : Int32) : f_J6_bitCount_0f7a4 x = some (gzBc x) := rfl
def S_tight (w : Nat → Int32) (nf ng : Nat) : Int32 := gzFo (fun s i => if gzBc (Int32.ofNat i) ≤ gzBc s then s else if S_miss w nf ng (Int32.ofNat i) ≤ 0 then s else Int32.ofNat i) 1 (2 ^ nf - 1) 0
theorem c_tight (h : gzVc I 0 w nf ng) (hb : gzVb w nf ng) (hφ : 100 < φ) : f_X11_tight φ I = some (S_tight w nf ng) := by
  have hp := gz_pow6 h.1.2.2.1
  unfold f_X11_tight
  have key := gz_loop (F := fun k s i => f_X11_tight_4 φ I k s i) (n := 2 ^ nf) (step := fun s i => if gzBc (Int32.ofNat i) ≤ gzBc s then s else if S_miss w nf ng (Int32.ofNat i) ≤ 0 then s else Int32.ofNat i) (out := some) ?_ ?_ (2 ^ nf) 0 φ 0 (by omega) (by omega)
  · rw [show 2 ^ nf = (2 ^ nf - 1) + 1 by omega] at key
    exact key
  · intro k s i hi
    show f_X11_tight_4 φ I (k + 1) s (Int32.ofNat i) = f_X11_tight_4 φ I k _ (Int32.ofNat (i + 1))
    simp (disch := omega) only [f_X11_tight_4, h.1.1, gz_full nf h.1.2.2.1, gzn_le, gzBc_eq, c_missN h hb hi, gzn_succ, Option.bind_some, if_neg]
    by_cases e1 : gzBc (Int32.ofNat i) ≤ gzBc s
    · rw [if_pos e1, if_pos e1]
    · rw [if_neg e1, if_neg e1]
      by_cases e2 : S_miss w nf ng (Int32.ofNat i) ≤ 0
      · rw [if_pos e2, if_pos e2]
      · rw [if_neg e2, if_neg e2]
  · intro k s
    show f_X11_tight_4 φ I (k + 1) s (Int32.ofNat (2 ^ nf)) = some s
    simp (disch := omega) only [f_X11_tight_4, h.1.1, gz_full nf h.1.2.2.1, gzn_le, if_pos]
theorem m_tight (h : gzVi I w nf ng) (hφ : 100 < φ) : f_X12_tight_9 φ φ 0 1 I J = some (S_tight w nf ng, I, J) := by
  have hp := gz_pow6 h.2.1.1.2.2.1
  refine gz_loop (F := fun k s i => f_X12_tight_9 φ k s i I J) (n := 2 ^ nf) (out := fun s => some (s, I, J)) ?_ ?_ (2 ^ nf - 1) 1 φ 0 (by omega) (by omega)
  · intro k s i hi
    show f_X12_tight_9 φ (k + 1) s (Int32.ofNat i) I J = f_X12_tight_9 φ k _ (Int32.ofNat (i + 1)) I J
    simp (disch := omega) only [f_X12_tight_9, m_all h, gzn_lt, m_miss h, gzBc_eq, gzn_succ, Option.bind_some, if_neg]
    by_cases e1 : gzBc (Int32.ofNat i) ≤ gzBc s
    · by_cases e2 : S_miss w nf ng (Int32.ofNat i) ≤ 0
      · rw [if_pos e2, if_pos e1]
      · rw [if_neg e2, if_pos e1, if_pos e1]
    · by_cases e2 : S_miss w nf ng (Int32.ofNat i) ≤ 0
      · rw [if_pos e2, if_neg e1, if_pos e2]
      · rw [if_neg e2, if_neg e1, if_neg e1, if_neg e2]
  · intro k s
    show f_X12_tight_9 φ (k + 1) s (Int32.ofNat (2 ^ nf)) I J = _
    simp (disch := omega) only [f_X12_tight_9, m_all h, gzn_lt, Option.bind_some, if_pos]
theorem L_tight (h : gzR I I) : ∃ v I2 J2, f_X11_tight 4096 I = some v ∧ f_X12_tight 4096 I J = some (v, I2, J2) ∧ gzR I2 I2 := by
  obtain ⟨nf, ng, nl, nx, -, -, c, b, m⟩ := gzR_go h
  exact ⟨_, _, _, c_tight c b (by omega), m_tight (m 0) (by omega), gzR_thr h⟩
end
