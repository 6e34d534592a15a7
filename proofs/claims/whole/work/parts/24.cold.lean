/-! cold: all ICE of the standing ones, and the STORE -/
theorem s_X12_has {s : Int32} {j : Nat} (hj : j < 32) : f_X12_has s (Int32.ofNat j) = some (if gzB s j = true then 1 else 0) := by
  unfold f_X12_has
  rw [gzb_has hj]
  cases gzB s j with
  | true => rfl
  | false => rfl
theorem s_X12_iceOf {φ n : Nat} {set : Int32} {I : gzIT} (hn : I 0 48 1 = Int32.ofNat n) (hm : n ≤ 10) (hφ : n < φ) : f_X12_iceOf φ I set = some (gzFo (fun s i => if gzB set i = true then s + I 0 48 (58 + 7 * i) else s) 0 n 0) := by
  unfold f_X12_iceOf
  refine gz_loop (F := fun k s i => f_X12_iceOf_4 φ I k set s i) (n := n) (out := some) ?_ ?_ n 0 φ 0 (by omega) hφ
  · intro k s i hi
    show f_X12_iceOf_4 φ I (k + 1) set s (Int32.ofNat i) = _
    rw [f_X12_iceOf_4, f_X12_grudges, hn]
    simp only [Option.bind_some]
    rw [if_neg (by rw [gzn_le (by omega) (by omega)]; omega), s_X12_has (by omega), gzn_succ]
    simp only [Option.bind_some]
    cases h : gzB set i with
    | true =>
      rw [if_pos rfl, if_neg (by decide), show (4 : Int32) = Int32.ofNat 4 from rfl, s_X12_of (by omega) (by omega), if_pos rfl]
      simp only [Option.bind_some]
      rw [show 54 + 7 * i + 4 = 58 + 7 * i by omega]
    | false =>
      rw [if_pos (show (if false = true then (1 : Int32) else 0) = 0 by decide), if_neg (show ¬ false = true by decide), Int32.add_zero]
  · intro k s
    show f_X12_iceOf_4 φ I (k + 1) set s (Int32.ofNat n) = _
    rw [f_X12_iceOf_4, f_X12_grudges, hn]
    simp only [Option.bind_some]
    rw [if_pos (by rw [gzn_le (by omega) (by omega)]; omega)]
/-- the model's standing ones, as bits -/
theorem s_X12_standing_bit {φ n : Nat} {I : gzIT} (hn : I 0 48 1 = Int32.ofNat n) (hm : n ≤ 10) (hφ : n < φ) : ∃ st, f_X12_standing φ I = some st ∧ ∀ j, j < n → (gzB st j = true ↔ ¬ I 0 48 (60 + 7 * j) = 1) := by
  refine ⟨_, s_X12_standing hn hm hφ, fun j hj => ?_⟩
  have e : (gzFo (fun s i => s ||| (if I 0 48 (60 + 7 * i) = 1 then 0 else (1 : Int32) <<< (Int32.ofNat i &&& 31))) 0 n 0) = gzFo (fun s k => if (decide (¬ I 0 48 (60 + 7 * k) = 1)) = true then s ||| (1 : Int32) <<< (Int32.ofNat k &&& 31) else s) 0 n 0 := by
    refine gzFo_congr _ _ _ fun s k _ hk => ?_
    by_cases h : I 0 48 (60 + 7 * k) = 1
    · rw [if_pos h, if_neg (by simp [h]), Int32.or_zero]
    · rw [if_neg h, if_pos (by simp [h])]
  rw [e, gzb_fold n 0 0 j (by omega) (by omega), gzb_zero]
  have : (0 ≤ j ∧ j < 0 + n) := by omega
  rw [decide_eq_true this]
  simp
theorem r_cold {φ nf ng nl nx : Nat} {I : gzIT} {J : gzJT} (h : gzTn I 0 (I 0 48) nf ng nl nx) (hw : gzWr (I 0 48) nf ng nl) (hφ : 10 < φ) : ∃ x, f_X11_cold φ I = some x ∧ f_X12_cold φ I J = some (x, gz_ui I 0 47 0 0, J) := by
  obtain ⟨⟨h1, h2, h3, h4, h5, h6⟩, h7, -, -, -, h8, -⟩ := h
  have u : ∀ k, (gz_ui I 0 47 0 0) 0 48 k = I 0 48 k := fun k => gz_ui_o (by decide)
  have h6' : (gz_ui I 0 47 0 0) 0 48 1 = Int32.ofNat ng := by rw [u]; exact h6
  obtain ⟨st, e1, e2⟩ := s_X12_standing_bit (φ := φ) h6' h2 (by omega)
  refine ⟨gzFo (fun s i => if I 0 14 i = 0 then s + I 0 12 i else s) 0 ng 0 + I 0 0 8, ?_, ?_⟩
  · unfold f_X11_cold
    rw [s_X1_allIce h5 h2 (by omega)]
    rfl
  · unfold f_X12_cold
    rw [e1]
    simp only [Option.bind_some]
    rw [s_X12_iceOf h6' h2 (by omega)]
    simp only [Option.bind_some]
    have e3 : gzFo (fun s i => if gzB st i = true then s + (gz_ui I 0 47 0 0) 0 48 (58 + 7 * i) else s) 0 ng 0 = gzFo (fun s i => if I 0 14 i = 0 then s + I 0 12 i else s) 0 ng 0 := by
      refine gzFo_congr _ _ _ fun s j _ hj => ?_
      have a := h8 j (by omega)
      have b := (hw.2.2.2.2.2 j (by omega)).2.2.2
      have c := e2 j (by omega)
      rw [u] at c
      rw [u, a.2.2.2.2.1, a.2.2.2.2.2.2]
      rcases b with b | b
      · rw [if_pos (c.mpr (by rw [b]; decide)), b, if_pos rfl]
      · rw [if_neg (fun q => (c.mp q) b), b, if_neg (by decide)]
    rw [e3, h7.2.2.1]
