/-! 'any' over a stretch; loops that are left early; flags -/
def gzAn (p : Nat → Bool) : Nat → Nat → Bool
  | _, 0 => false
  | i, m + 1 => p i || gzAn p (i + 1) m
theorem gzAn_iff {p : Nat → Bool} : ∀ {m i : Nat}, gzAn p i m = true ↔ ∃ j, i ≤ j ∧ j < i + m ∧ p j = true := by
  intro m
  induction m with
  | zero =>
    intro i
    exact ⟨fun h => Bool.noConfusion h, fun ⟨j, h1, h2, _⟩ => absurd h2 (by omega)⟩
  | succ m ih =>
    intro i
    show (p i || gzAn p (i + 1) m) = true ↔ _
    rw [Bool.or_eq_true, ih]
    constructor
    · rintro (h | ⟨j, h1, h2, h3⟩)
      · exact ⟨i, by omega, by omega, h⟩
      · exact ⟨j, by omega, by omega, h3⟩
    · rintro ⟨j, h1, h2, h3⟩
      by_cases e : j = i
      · subst e; exact Or.inl h3
      · exact Or.inr ⟨j, by omega, by omega, h3⟩
theorem gzAn_congr {p q : Nat → Bool} : ∀ {m i : Nat}, (∀ j, i ≤ j → j < i + m → p j = q j) → gzAn p i m = gzAn q i m := by
  intro m
  induction m with
  | zero => intro i _; rfl
  | succ m ih =>
    intro i h
    show (p i || gzAn p (i + 1) m) = (q i || gzAn q (i + 1) m)
    rw [h i (by omega) (by omega), ih (fun j h1 h2 => h j (by omega) (by omega))]
theorem gz_flag {ρ : Type} {F : Nat → Int32 → Int32 → Option ρ} {n : Nat} {p : Nat → Bool} {out : Bool → Option ρ} (h1 : ∀ (k : Nat) (s : Bool) (i : Nat), i < n → F (k + 1) (if s = true then 1 else 0) (Int32.ofNat i) = F k (if (s || p i) = true then 1 else 0) (Int32.ofNat (i + 1))) (h2 : ∀ (k : Nat) (s : Bool), F (k + 1) (if s = true then 1 else 0) (Int32.ofNat n) = out s) :
    ∀ (m i k : Nat) (s : Bool), i + m = n → m < k → F k (if s = true then 1 else 0) (Int32.ofNat i) = out (s || gzAn p i m) := by
  intro m
  induction m with
  | zero =>
    intro i k s hi hk
    obtain ⟨k, rfl⟩ : ∃ q, k = q + 1 := ⟨k - 1, by omega⟩
    rw [show i = n by omega, h2 k s]
    show out s = out (s || false)
    rw [Bool.or_false]
  | succ m ih =>
    intro i k s hi hk
    obtain ⟨k, rfl⟩ : ∃ q, k = q + 1 := ⟨k - 1, by omega⟩
    rw [h1 k s i (by omega), ih (i + 1) k _ (by omega) (by omega)]
    show out ((s || p i) || gzAn p (i + 1) m) = out (s || (p i || gzAn p (i + 1) m))
    rw [Bool.or_assoc]
theorem gz_exit {ρ : Type} {F : Nat → Int32 → Option ρ} {n : Nat} {p : Nat → Bool} {r : Nat → ρ} {o : Option ρ} (h1 : ∀ (k i : Nat), i < n → F (k + 1) (Int32.ofNat i) = if p i = true then some (r i) else F k (Int32.ofNat (i + 1))) (h2 : ∀ k : Nat, F (k + 1) (Int32.ofNat n) = o) :
    ∀ (m i k : Nat), i + m = n → m < k → (gzAn p i m = false ∧ F k (Int32.ofNat i) = o) ∨ (gzAn p i m = true ∧ ∃ j, i ≤ j ∧ j < n ∧ p j = true ∧ (∀ j', i ≤ j' → j' < j → p j' = false) ∧ F k (Int32.ofNat i) = some (r j)) := by
  intro m
  induction m with
  | zero =>
    intro i k hi hk
    obtain ⟨k, rfl⟩ : ∃ q, k = q + 1 := ⟨k - 1, by omega⟩
    rw [show i = n by omega]
    exact Or.inl ⟨rfl, h2 k⟩
  | succ m ih =>
    intro i k hi hk
    obtain ⟨k, rfl⟩ : ∃ q, k = q + 1 := ⟨k - 1, by omega⟩
    rw [h1 k i (by omega)]
    cases hp : p i with
    | true => exact Or.inr ⟨by show (p i || _) = true; rw [hp]; rfl, i, Nat.le_refl _, by omega, hp, fun j' a b => absurd b (by omega), if_pos rfl⟩
    | false =>
      have e : gzAn p i (m + 1) = gzAn p (i + 1) m := by show (p i || _) = _; rw [hp]; rfl
      rw [e, if_neg (by decide)]
      rcases ih (i + 1) k (by omega) (by omega) with h | ⟨h, j, q1, q2, q3, q4, q5⟩
      · exact Or.inl h
      · refine Or.inr ⟨h, j, by omega, q2, q3, fun j' a b => ?_, q5⟩
        by_cases e2 : j' = i
        · subst e2; exact hp
        · exact q4 j' (by omega) b
/-- the greater of 0 and x -/
def gzPo (x : Int32) : Int32 := if 0 < x then x else 0
section
variable {I : gzIT} {w : Nat → Int32} {nf ng t φ : Nat}
theorem gzR_vi {Ic Im : gzIT} {nl nx : Nat} (h : gzTn Ic t (Im 0 48) nf ng nl nx) (hw : gzWx (Im 0 48) nf ng nl) : gzVc Ic t (Im 0 48) nf ng ∧ gzVi Im (Im 0 48) nf ng ∧ gzVb (Im 0 48) nf ng :=
  ⟨gzV_c h hw.1, ⟨fun _ _ => rfl, (gzV_m h hw.1).1, (gzV_m h hw.1).2⟩, (gzV_m h hw.1).2⟩
theorem gzVi_thr {v : Int32} (h : gzVi I w nf ng) : gzVi (gz_ui I 0 47 0 v) w nf ng := ⟨fun k hk => by rw [gz_ui_o (by decide)]; exact h.1 k hk, h.2⟩
/-- what the families of a set want -/
def S_wants (w : Nat → Int32) (nf : Nat) (c : Int32) : Int32 := gzFo (fun s f => if gzB c f = true then s + gzPo (w (31 + 4 * f) - w (32 + 4 * f)) else s) 0 nf 0
theorem c_wants {c : Int32} (h : gzVc I t w nf ng) (hφ : 10 < φ) : f_X0_wantTogether φ t I c = some (S_wants w nf c) := by
  obtain ⟨⟨h1, h2, h3, h4⟩, hF, hT, hS, hA, hI, hU, hH, hP, hN, hL, hO, hB, hD⟩ := h
  unfold f_X0_wantTogether
  refine gz_loop (F := fun k s i => f_X0_wantTogether_4 φ t I k c s i) (n := nf) (out := some) ?_ ?_ nf 0 φ 0 (by omega) (by omega)
  · intro k s i hi
    show f_X0_wantTogether_4 φ t I (k + 1) c s (Int32.ofNat i) = f_X0_wantTogether_4 φ t I k c _ (Int32.ofNat (i + 1))
    simp (disch := omega) only [f_X0_wantTogether_4, h1, gzn_le, gzGd_in, gzn_clamp, hN, hL, gzc_has, gzc_b0, gzn_succ, Option.bind_some, if_neg]
    cases gzB c i <;> rfl
  · intro k s
    show f_X0_wantTogether_4 φ t I (k + 1) c s (Int32.ofNat nf) = some s
    simp (disch := omega) only [f_X0_wantTogether_4, h1, gzn_le, if_pos]
theorem m_wants {c : Int32} (h : gzVi I w nf ng) (hφ : 10 < φ) : f_X12_wantsOf φ I c = some (S_wants w nf c) := by
  have h3 := h.2.1.1.2.2.1
  unfold f_X12_wantsOf
  refine gz_loop (F := fun k s i => f_X12_wantsOf_4 φ I k c s i) (n := nf) (out := some) ?_ ?_ nf 0 φ 0 (by omega) (by omega)
  · intro k s i hi
    show f_X12_wantsOf_4 φ I (k + 1) c s (Int32.ofNat i) = f_X12_wantsOf_4 φ I k c _ (Int32.ofNat (i + 1))
    simp (disch := omega) only [f_X12_wantsOf_4, m_families h, gzn_le, m_has, m_ofFamily1 h, m_ofFamily2 h, gzc_b0, gzn_succ, Option.bind_some, if_neg, Int32.add_zero]
    cases gzB c i <;> rfl
  · intro k s
    show f_X12_wantsOf_4 φ I (k + 1) c s (Int32.ofNat nf) = some s
    simp (disch := omega) only [f_X12_wantsOf_4, m_families h, Option.bind_some, gzn_le, if_pos]
/-- there is one in the set that is neither a nor b -/
def gzOt (nf : Nat) (c : Int32) (a b : Nat) : Bool := gzAn (fun f => gzB c f && !(a == f) && !(b == f)) 0 nf
theorem gzOt_bits : ∀ nf, nf ≤ 6 → ∀ m, m < 2 ^ nf → ∀ a, a < 6 → ∀ b, b < 6 → ((Int32.ofNat m &&& ((((1 : Int32) <<< (Int32.ofNat a &&& 31)) ||| ((1 : Int32) <<< (Int32.ofNat b &&& 31))) ^^^ (-1)) = 0) ↔ gzOt nf (Int32.ofNat m) a b = false) := by decide +kernel
/-- the ICE that a set may have -/
def S_may (w : Nat → Int32) (nf ng : Nat) (c : Int32) : Int32 := gzFo (fun s g => if tH w g = true then s else if gzOt nf c (tF w g) (tT w g) = true then s + w (58 + 7 * g) else s) 0 ng 0
theorem c_may {m : Nat} (h : gzVc I t w nf ng) (hb : gzVb w nf ng) (hm : m < 2 ^ nf) (hφ : 10 < φ) : f_X1_iceFor φ t I (Int32.ofNat m) = some (S_may w nf ng (Int32.ofNat m)) := by
  obtain ⟨⟨h1, h2, h3, h4⟩, hF, hT, hS, hA, hI, hU, hH, hP, hN, hL, hO, hB, hD⟩ := h
  obtain ⟨bF, bT, bN, bS⟩ := hb
  unfold f_X1_iceFor
  refine gz_loop (F := fun k s i => f_X1_iceFor_4 φ t I k (Int32.ofNat m) s i) (n := ng) (out := some) ?_ ?_ ng 0 φ 0 (by omega) (by omega)
  · intro k s i hi
    have q1 := bF i hi
    have q2 := bT i hi
    have q3 := gzOt_bits nf h3 m hm (tF w i) (by omega) (tT w i) (by omega)
    show f_X1_iceFor_4 φ t I (k + 1) (Int32.ofNat m) s (Int32.ofNat i) = f_X1_iceFor_4 φ t I k (Int32.ofNat m) _ (Int32.ofNat (i + 1))
    simp (disch := omega) only [f_X1_iceFor_4, h2, gzn_le, gzGd_in, gzn_clamp, hH, hF, hT, hI, gzc_b0, gzn_succ, Option.bind_some, if_neg, q3]
    cases tH w i <;> cases gzOt nf (Int32.ofNat m) (tF w i) (tT w i) <;> rfl
  · intro k s
    show f_X1_iceFor_4 φ t I (k + 1) (Int32.ofNat m) s (Int32.ofNat ng) = some s
    simp (disch := omega) only [f_X1_iceFor_4, h2, gzn_le, if_pos]
theorem m_may {c : Int32} (h : gzVi I w nf ng) (hφ : 10 < φ) : f_X12_mayHave φ I c = some (S_may w nf ng c) := by
  obtain ⟨-, ⟨⟨-, -, h3, h4⟩, -⟩, bF, bT, -, -⟩ := id h
  unfold f_X12_mayHave
  refine gz_loop (F := fun k s i => f_X12_mayHave_4 φ I k c s i) (n := ng) (out := some) ?_ ?_ ng 0 φ 0 (by omega) (by omega)
  · intro k s i hi
    have q1 := bF i hi
    have q2 := bT i hi
    show f_X12_mayHave_4 φ I (k + 1) c s (Int32.ofNat i) = f_X12_mayHave_4 φ I k c _ (Int32.ofNat (i + 1))
    simp (disch := omega) only [f_X12_mayHave_4, m_grudges h, gzn_le, Option.bind_some, if_neg]
    refine (gz_flag (F := fun k2 x j => f_X12_mayHave_18 φ I (f_X12_mayHave_4 φ I k) k2 c s (Int32.ofNat i) x j) (n := nf) (p := fun f => gzB c f && !(tF w i == f) && !(tT w i == f)) (out := fun x => f_X12_mayHave_4 φ I k c (if tH w i = true then s else if x = true then s + w (58 + 7 * i) else s) (Int32.ofNat (i + 1))) ?_ ?_ nf 0 φ false (by omega) (by omega)).trans ?_
    · intro k2 x j hj
      show f_X12_mayHave_18 φ I (f_X12_mayHave_4 φ I k) (k2 + 1) c s (Int32.ofNat i) (if x = true then 1 else 0) (Int32.ofNat j) = f_X12_mayHave_18 φ I (f_X12_mayHave_4 φ I k) k2 c s (Int32.ofNat i) (if (x || (gzB c j && !(tF w i == j) && !(tT w i == j))) = true then 1 else 0) (Int32.ofNat (j + 1))
      simp (disch := omega) only [f_X12_mayHave_18, m_families h, gzn_le, m_has, m_isOf h, gzc_b0, gzc_p0, gzn_succ, Option.bind_some, if_neg]
      cases x <;> cases gzB c j <;> by_cases e1 : tF w i = j <;> by_cases e2 : tT w i = j <;> simp [e1, e2]
    · intro k2 x
      show f_X12_mayHave_18 φ I (f_X12_mayHave_4 φ I k) (k2 + 1) c s (Int32.ofNat i) (if x = true then 1 else 0) (Int32.ofNat nf) = _
      simp (disch := omega) only [f_X12_mayHave_18, m_families h, gzn_le, m_isThawed h, m_of4 h, gzc_b0, gzn_succ, Option.bind_some, if_pos, Int32.add_zero]
      cases x <;> cases tH w i <;> rfl
    · rfl
  · intro k s
    show f_X12_mayHave_4 φ I (k + 1) c s (Int32.ofNat ng) = some s
    simp (disch := omega) only [f_X12_mayHave_4, m_grudges h, Option.bind_some, gzn_le, if_pos]
/-- what a set misses -/
def S_miss (w : Nat → Int32) (nf ng : Nat) (c : Int32) : Int32 := gzPo (S_wants w nf c - S_may w nf ng c)
theorem gz_mask : ∀ n, n ≤ 6 → ((1 : Int32) <<< (Int32.ofNat n &&& 31)) - 1 = Int32.ofNat (2 ^ n - 1) := by decide
theorem gz_maskd (a : Int32) : ∀ n, n ≤ 6 → ∃ m, m < 2 ^ n ∧ a &&& Int32.ofNat (2 ^ n - 1) = Int32.ofNat m := by
  intro n hn
  refine ⟨a.toBitVec.toNat % 2 ^ n, Nat.mod_lt _ (Nat.two_pow_pos n), ?_⟩
  apply Int32.toBitVec_inj.mp
  rw [Int32.toBitVec_and]
  apply BitVec.eq_of_toNat_eq
  have hp : 2 ^ n ≤ 2 ^ 6 := Nat.pow_le_pow_right (by omega) hn
  have h1 : a.toBitVec.toNat % 2 ^ n < 2 ^ n := Nat.mod_lt _ (Nat.two_pow_pos n)
  show a.toBitVec.toNat &&& (2 ^ n - 1) % 2 ^ 32 = a.toBitVec.toNat % 2 ^ n % 2 ^ 32
  rw [Nat.mod_eq_of_lt (show 2 ^ n - 1 < 2 ^ 32 by omega), Nat.and_two_pow_sub_one_eq_mod, Nat.mod_eq_of_lt (show a.toBitVec.toNat % 2 ^ n < 2 ^ 32 by omega)]
theorem gz_maski : ∀ n, n ≤ 6 → ∀ m, m < 2 ^ n → Int32.ofNat m &&& Int32.ofNat (2 ^ n - 1) = Int32.ofNat m := by decide +kernel
theorem c_miss {a : Int32} (h : gzVc I t w nf ng) (hb : gzVb w nf ng) (hφ : 10 < φ) : f_X8_missed φ t I a = some (S_miss w nf ng (a &&& Int32.ofNat (2 ^ nf - 1))) := by
  obtain ⟨m, hm, e⟩ := gz_maskd a nf h.1.2.2.1
  unfold f_X8_missed
  rw [h.1.1, gz_mask nf h.1.2.2.1, e, c_wants h hφ, c_may h hb hm hφ]
  rfl
theorem c_missN {m : Nat} (h : gzVc I t w nf ng) (hb : gzVb w nf ng) (hm : m < 2 ^ nf) (hφ : 10 < φ) : f_X8_missed φ t I (Int32.ofNat m) = some (S_miss w nf ng (Int32.ofNat m)) := by
  rw [c_miss h hb hφ, gz_maski nf h.1.2.2.1 m hm]
theorem m_miss {c : Int32} (h : gzVi I w nf ng) (hφ : 10 < φ) : f_X12_missesOf φ I c = some (S_miss w nf ng c) := by
  unfold f_X12_missesOf
  rw [m_wants h hφ, m_may h hφ]
  rfl
end
