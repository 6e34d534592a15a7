/-! the web: who quarrels with whom; growing sets -/
theorem gzb_ext {a b : Int32} (h : ∀ j, j < 32 → gzB a j = gzB b j) : a = b := by
  apply Int32.toBitVec_inj.mp
  apply BitVec.eq_of_getLsbD_eq
  intro i hi
  exact h i hi
theorem gzb_and {a b : Int32} {j : Nat} : gzB (a &&& b) j = (gzB a j && gzB b j) := by
  unfold gzB
  rw [Int32.toBitVec_and, BitVec.getLsbD_and]
theorem gzb_not : ∀ f, f < 32 → ∀ j, j < 32 → gzB (((1 : Int32) <<< (Int32.ofNat f &&& 31)) ^^^ (-1)) j = !decide (j = f) := by decide +kernel
theorem gzAn_or {p q : Nat → Bool} : ∀ {m i : Nat}, gzAn (fun g => p g || q g) i m = (gzAn p i m || gzAn q i m) := by
  intro m
  induction m with
  | zero => intro i; rfl
  | succ m ih =>
    intro i
    show ((p i || q i) || gzAn (fun g => p g || q g) (i + 1) m) = ((p i || gzAn p (i + 1) m) || (q i || gzAn q (i + 1) m))
    rw [ih]
    cases p i <;> cases q i <;> cases gzAn p (i + 1) m <;> rfl
theorem gzAn_and {p : Nat → Bool} {c : Bool} : ∀ {m i : Nat}, (gzAn p i m && c) = gzAn (fun g => p g && c) i m := by
  intro m
  induction m with
  | zero => intro i; rfl
  | succ m ih =>
    intro i
    show ((p i || gzAn p (i + 1) m) && c) = ((p i && c) || gzAn (fun g => p g && c) (i + 1) m)
    rw [← ih]
    cases p i <;> cases c <;> cases gzAn p (i + 1) m <;> rfl
theorem gzb_fo {q : Nat → Int32} {j : Nat} : ∀ (m i : Nat) (s : Int32), gzB (gzFo (fun s g => s ||| q g) i m s) j = (gzB s j || gzAn (fun g => gzB (q g) j) i m) := by
  intro m
  induction m with
  | zero => intro i s; show gzB s j = (gzB s j || false); rw [Bool.or_false]
  | succ m ih =>
    intro i s
    show gzB (gzFo (fun s g => s ||| q g) (i + 1) m (s ||| q i)) j = (gzB s j || (gzB (q i) j || gzAn (fun g => gzB (q g) j) (i + 1) m))
    rw [ih, gzb_or, Bool.or_assoc]
def gzbt (j : Nat) : Int32 := (1 : Int32) <<< (Int32.ofNat j &&& 31)
theorem gzb_bt {i j : Nat} (hi : i < 32) (hj : j < 32) : gzB (gzbt i) j = decide (j = i) := gzb_one i hi j hj
/-- those that f quarrels with over one of the grudges -/
def gzNq (w : Nat → Int32) (act : Nat → Bool) (f g : Nat) : Int32 := if (act g && tF w g == f) = true then gzbt (tT w g) else if (act g && tT w g == f) = true then gzbt (tF w g) else 0
def S_near (w : Nat → Int32) (ng : Nat) (act : Nat → Bool) (f : Nat) : Int32 := gzFo (fun s g => s ||| gzNq w act f g) 0 ng 0
def gzOq (w : Nat → Int32) (act : Nat → Bool) (f g : Nat) : Int32 := if (act g && tF w g == f) = true then gzbt (tT w g) else 0
def S_onw (w : Nat → Int32) (ng : Nat) (act : Nat → Bool) (f : Nat) : Int32 := gzFo (fun s g => s ||| gzOq w act f g) 0 ng 0
/-- the grudges that stand -/
def gzSe (P : Nat → Bool) (n : Nat) : Int32 := gzFo (fun s k => s ||| (if P k = true then gzbt k else 0)) 0 n 0
theorem gzSe_b {P : Nat → Bool} {n j : Nat} (hn : n ≤ 32) (hj : j < 32) : gzB (gzSe P n) j = (decide (j < n) && P j) := by
  unfold gzSe
  rw [gzb_fo, gzb_zero, Bool.false_or]
  apply Bool.eq_iff_iff.mpr
  rw [gzAn_iff]
  constructor
  · rintro ⟨k, h1, h2, h3⟩
    by_cases hP : P k = true
    · rw [if_pos hP, gzb_bt (by omega) hj] at h3
      have := of_decide_eq_true h3
      subst this
      rw [hP]; simp; omega
    · rw [if_neg hP, gzb_zero] at h3; cases h3
  · intro h
    rw [Bool.and_eq_true] at h
    have h1 := of_decide_eq_true h.1
    exact ⟨j, by omega, by omega, by rw [if_pos h.2, gzb_bt (by omega) hj]; simp⟩
section
variable {I I' : gzIT} {J : gzJT} {w : Nat → Int32} {nf ng t φ : Nat}
theorem m_standing (h : gzVi I w nf ng) (hφ : 10 < φ) : f_X12_standing φ I = some (gzSe (fun g => !tH w g) ng) := by
  have h4 := h.2.1.1.2.2.2
  unfold f_X12_standing
  refine gz_loop (F := fun k s i => f_X12_standing_4 φ I k s i) (n := ng) (step := fun s k => s ||| (if (!tH w k) = true then gzbt k else 0)) (out := some) ?_ ?_ ng 0 φ 0 (by omega) (by omega)
  · intro k s i hi
    show f_X12_standing_4 φ I (k + 1) s (Int32.ofNat i) = f_X12_standing_4 φ I k (s ||| (if (!tH w i) = true then gzbt i else 0)) (Int32.ofNat (i + 1))
    simp (disch := omega) only [f_X12_standing_4, m_grudges h, gzn_le, m_isThawed h, gzc_b0, gzn_succ, Option.bind_some, if_neg, gz_or0]
    cases tH w i
    · rfl
    · show f_X12_standing_4 φ I k s _ = f_X12_standing_4 φ I k (s ||| 0) _
      rw [gz_or0]
  · intro k s
    show f_X12_standing_4 φ I (k + 1) s (Int32.ofNat ng) = some s
    simp (disch := omega) only [f_X12_standing_4, m_grudges h, Option.bind_some, gzn_le, if_pos]
theorem m_quarrelsOf {S : Int32} {f : Nat} (h : gzVi I w nf ng) (hf : f < 6) (hφ : 10 < φ) : f_X12_quarrelsOf φ I (Int32.ofNat f) S = some (S_near w ng (gzB S) f) := by
  obtain ⟨-, ⟨⟨-, -, h3, h4⟩, -⟩, bF, bT, bN, -⟩ := id h
  have key : f_X12_quarrelsOf φ I (Int32.ofNat f) S = some (gzFo (fun s g => s ||| (if (gzB S g && (tF w g == f || tT w g == f)) = true then (gzbt (tF w g) ||| gzbt (tT w g)) else 0)) 0 ng 0 &&& (gzbt f ^^^ (-1))) := by
    unfold f_X12_quarrelsOf
    refine gz_loop (F := fun k s i => f_X12_quarrelsOf_5 φ I k (Int32.ofNat f) S s i) (n := ng) (step := fun s g => s ||| (if (gzB S g && (tF w g == f || tT w g == f)) = true then (gzbt (tF w g) ||| gzbt (tT w g)) else 0)) (out := fun s => some (s &&& (gzbt f ^^^ (-1)))) ?_ ?_ ng 0 φ 0 (by omega) (by omega)
    · intro k s i hi
      show f_X12_quarrelsOf_5 φ I (k + 1) (Int32.ofNat f) S s (Int32.ofNat i) = f_X12_quarrelsOf_5 φ I k (Int32.ofNat f) S (s ||| (if (gzB S i && (tF w i == f || tT w i == f)) = true then (gzbt (tF w i) ||| gzbt (tT w i)) else 0)) (Int32.ofNat (i + 1))
      simp (disch := omega) only [f_X12_quarrelsOf_5, m_grudges h, gzn_le, m_has, m_isOf h, m_of0 h, m_of1 h, gzc_b0, gzc_p0, gzn_succ, Option.bind_some, if_neg]
      by_cases x : gzB S i = true <;> by_cases e1 : tF w i = f <;> by_cases e2 : tT w i = f <;> simp [x, e1, e2, gz_or0, gzbt]
    · intro k s
      show f_X12_quarrelsOf_5 φ I (k + 1) (Int32.ofNat f) S s (Int32.ofNat ng) = _
      simp (disch := omega) only [f_X12_quarrelsOf_5, m_grudges h, Option.bind_some, gzn_le, if_pos]
      rfl
  rw [key]
  refine congrArg some (gzb_ext fun j hj => ?_)
  unfold S_near
  rw [gzb_and, gzb_fo, gzb_fo, gzb_zero, Bool.false_or, Bool.false_or, show gzB (gzbt f ^^^ (-1)) j = !decide (j = f) from gzb_not f (by omega) j hj, gzAn_and]
  refine gzAn_congr fun g _ hg => ?_
  have q1 := bF g (by omega)
  have q2 := bT g (by omega)
  have q3 := bN g (by omega)
  unfold gzNq
  by_cases x : gzB S g = true <;> by_cases e1 : tF w g = f <;> by_cases e2 : tT w g = f <;> simp (disch := omega) [x, e1, e2, gzb_or, gzb_bt, gzb_zero]
  · omega
  · subst e1
    by_cases e3 : j = tF w g <;> simp [e3]
    omega
  · subst e2
    by_cases e3 : j = tT w g <;> simp [e3]
    omega
end
