/-! the first pairs of calls -/
theorem gz_byn (a : Int32) (n : Nat) (hn : n < 2 ^ 31) : (∃ k, k < n ∧ a = Int32.ofNat k) ∨ (a < 0) ∨ (¬ a < 0 ∧ Int32.ofNat n ≤ a) := by
  by_cases h : a < 0
  · exact Or.inr (Or.inl h)
  · by_cases h2 : Int32.ofNat n ≤ a
    · exact Or.inr (Or.inr ⟨h, h2⟩)
    · left
      have h3 : 0 ≤ a.toInt := by
        have := Int32.not_lt.mp h
        have := Int32.le_iff_toInt_le.mp this
        have h0 : (0 : Int32).toInt = 0 := rfl
        omega
      obtain ⟨k, hk, rfl⟩ := gzn_of h3
      refine ⟨k, ?_, rfl⟩
      rw [gzn_le hn hk] at h2
      omega
theorem s_X12_in0 {k n : Nat} (hk : k < n) (hn : n ≤ 2 ^ 30) : f_X12_in (Int32.ofNat k) 0 (Int32.ofNat (n - 1)) = some 1 := by
  unfold f_X12_in
  rw [show (0 : Int32) = Int32.ofNat 0 from rfl, if_neg (by rw [gzn_lt (by omega) (by omega)]; omega), if_neg (by rw [gzn_lt (by omega) (by omega)]; omega)]
theorem s_X12_in1 {a b : Int32} (h : a < 0) : f_X12_in a 0 b = some 0 := by
  unfold f_X12_in
  rw [if_pos h]
theorem s_X12_in2 {a : Int32} {n : Nat} (hn0 : 0 < n) (hn : n ≤ 2 ^ 30) (h0 : ¬ a < 0) (h : Int32.ofNat n ≤ a) : f_X12_in a 0 (Int32.ofNat (n - 1)) = some 0 := by
  unfold f_X12_in
  rw [if_neg h0, if_pos]
  rw [Int32.lt_iff_toInt_lt, gzn_int (by omega)]
  have := Int32.le_iff_toInt_le.mp h
  rw [gzn_int (by omega)] at this
  omega
theorem s_throws0 {c : Int32} {I : gzIT} {J : gzJT} : f_X12_throwsIf 0 c I J = some (0, I, J) := by
  unfold f_X12_throwsIf gzGz
  rw [if_pos rfl, if_pos (Or.inl rfl)]
theorem s_throws1 {c : Int32} {I : gzIT} {J : gzJT} : f_X12_throwsIf 1 c I J = some (1, gz_ui I 0 47 0 c, J) := by
  unfold f_X12_throwsIf gzGz
  rw [if_neg (by decide), if_pos (Or.inr rfl)]
theorem gz_not01 : (if ¬ (1 : Int32) = 0 then (0 : Int32) else 1) = 0 := by decide
theorem gz_not00 : (if ¬ (0 : Int32) = 0 then (0 : Int32) else 1) = 1 := by decide
/-- heat: a SEASON's HEAT, or no such SEASON -/
theorem r_heat {a : Int32} {I : gzIT} {J : gzJT} (h : ∀ k, k < 4 → I 0 19 k = I 0 48 (10 + k)) :
    (∃ x, f_X11_heat a I J = some (.ok x, I, J) ∧ f_X12_heat a I J = some (x, gz_ui I 0 47 0 0, J)) ∨
    (f_X11_heat a I J = some (.error "java/lang/IndexOutOfBoundsException", I, J) ∧ f_X12_heat a I J = some (0, gz_ui (gz_ui I 0 47 0 0) 0 47 0 1, J)) := by
  rcases gz_byn a 4 (by omega) with ⟨k, hk, rfl⟩ | h1 | ⟨h1, h2⟩
  · refine Or.inl ⟨I 0 19 k, ?_, ?_⟩
    · unfold f_X11_heat
      rw [if_neg (by rw [show (0 : Int32) = Int32.ofNat 0 from rfl, gzn_lt (by omega) (by omega)]; omega), if_pos (by rw [show (4 : Int32) = Int32.ofNat 4 from rfl, gzn_lt (by omega) (by omega)]; omega), gzGd_in hk (by omega), gzn_clamp (by omega)]
    · unfold f_X12_heat
      rw [show (3 : Int32) = Int32.ofNat (4 - 1) from rfl, s_X12_in0 hk (by omega)]
      have e : (10 : Int32) + Int32.ofNat k = Int32.ofNat (10 + k) := by rw [Int32.ofNat_add]; rfl
      simp only [Option.bind_some, e, gz_not01, s_throws0]
      rw [if_pos trivial, gzGd_in (by omega) (by omega), gzn_clamp (by omega), gz_ui_o (by decide), h k hk]
  · refine Or.inr ⟨?_, ?_⟩
    · unfold f_X11_heat
      rw [if_pos h1]
    · unfold f_X12_heat
      rw [s_X12_in1 h1]
      simp only [Option.bind_some, not_true_eq_false, ↓reduceIte]
      rw [s_throws1]
      simp only [Option.bind_some]
      rw [if_neg (show ¬ (1 : Int32) = 0 by decide)]
  · refine Or.inr ⟨?_, ?_⟩
    · unfold f_X11_heat
      rw [if_neg h1, if_neg]
      intro q
      have q1 := Int32.le_iff_toInt_le.mp h2
      have q2 := Int32.lt_iff_toInt_lt.mp q
      have e4 : (4 : Int32).toInt = 4 := rfl
      rw [gzn_int (by omega)] at q1
      omega
    · unfold f_X12_heat
      rw [show (3 : Int32) = Int32.ofNat (4 - 1) from rfl, s_X12_in2 (by omega) (by omega) h1 h2]
      simp only [Option.bind_some, not_true_eq_false, ↓reduceIte]
      rw [s_throws1]
      simp only [Option.bind_some]
      rw [if_neg (show ¬ (1 : Int32) = 0 by decide)]
