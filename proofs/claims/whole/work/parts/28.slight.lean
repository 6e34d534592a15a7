/-! slight: what is told of a SLIGHT -/
theorem s_X1_over {φ t n : Nat} {I : gzIT} {a : Int32} (hn : I t 7 7 = Int32.ofNat n) (hm : n ≤ 10) (hφ : n < φ) : f_X1_over φ t I a = some (gzFo (fun s i => if ¬ I t 14 i = 0 then s else if ¬ I t 10 i = a then s else s ||| (1 : Int32) <<< (Int32.ofNat i &&& 31)) 0 n 0) := by
  unfold f_X1_over
  refine gz_loop (F := fun k s i => f_X1_over_4 φ t I k a s i) (n := n) (out := some) ?_ ?_ n 0 φ 0 (by omega) hφ
  · intro k s i hi
    show f_X1_over_4 φ t I (k + 1) a s (Int32.ofNat i) = _
    rw [f_X1_over_4, hn, if_neg (by rw [gzn_le (by omega) (by omega)]; omega), gzGd_in (by omega) (by omega), gzn_clamp (by omega), gzn_succ]
    by_cases h : ¬ I t 14 i = 0
    · rw [if_pos h, if_pos h]
    · rw [if_neg h, if_neg h]
      by_cases h2 : ¬ I t 10 i = a
      · rw [if_pos h2, if_pos h2]
      · rw [if_neg h2, if_neg h2]
  · intro k s
    show f_X1_over_4 φ t I (k + 1) a s (Int32.ofNat n) = _
    rw [f_X1_over_4, hn, if_pos (by rw [gzn_le (by omega) (by omega)]; omega)]
theorem s_X12_thoseOver {φ n : Nat} {I : gzIT} {a : Int32} (hn : I 0 48 1 = Int32.ofNat n) (hm : n ≤ 10) (hφ : n < φ) : f_X12_thoseOver φ I a = some (gzFo (fun s i => if I 0 48 (60 + 7 * i) = 1 then s else if ¬ I 0 48 (56 + 7 * i) = a then s else s ||| (1 : Int32) <<< (Int32.ofNat i &&& 31)) 0 n 0) := by
  unfold f_X12_thoseOver
  refine gz_loop (F := fun k s i => f_X12_thoseOver_4 φ I k a s i) (n := n) (out := some) ?_ ?_ n 0 φ 0 (by omega) hφ
  · intro k s i hi
    show f_X12_thoseOver_4 φ I (k + 1) a s (Int32.ofNat i) = _
    rw [f_X12_thoseOver_4, f_X12_grudges, hn]
    simp only [Option.bind_some]
    rw [if_neg (by rw [gzn_le (by omega) (by omega)]; omega), s_X12_isThawed (by omega), gzn_succ, show (2 : Int32) = Int32.ofNat 2 from rfl, s_X12_of (by omega) (by omega), show 54 + 7 * i + 2 = 56 + 7 * i by omega]
    simp only [Option.bind_some]
    by_cases h : I 0 48 (60 + 7 * i) = 1
    · rw [if_pos h, if_pos (show ¬ (1 : Int32) = 0 by decide), if_pos h, Int32.or_zero]
    · rw [if_neg h, if_neg (show ¬ ¬ (0 : Int32) = 0 by decide), if_neg h]
      by_cases h2 : ¬ I 0 48 (56 + 7 * i) = a
      · rw [if_pos h2, if_pos h2, Int32.or_zero]
      · rw [if_neg h2, if_neg h2]
  · intro k s
    show f_X12_thoseOver_4 φ I (k + 1) a s (Int32.ofNat n) = _
    rw [f_X12_thoseOver_4, f_X12_grudges, hn]
    simp only [Option.bind_some]
    rw [if_pos (by rw [gzn_le (by omega) (by omega)]; omega)]
/-- those over a SLIGHT: the class's town t and the model's row alike; I' is a memory whose row is I's -/
theorem r_over {φ t nf ng nl nx : Nat} {I I' : gzIT} {a : Int32} (h : gzTn I t (I' 0 48) nf ng nl nx) (hw : gzWr (I' 0 48) nf ng nl) (hφ : 10 < φ) : f_X1_over φ t I a = f_X12_thoseOver φ I' a := by
  obtain ⟨⟨h1, h2, h3, h4, h5, h6⟩, -, -, -, -, h8, -⟩ := h
  rw [s_X1_over h5 h2 (by omega), s_X12_thoseOver h6 h2 (by omega)]
  refine congrArg some (gzFo_congr _ _ _ fun s j _ hj => ?_)
  obtain ⟨a1, a2, a3, a4, a5, a6, a7⟩ := h8 j (by omega)
  obtain ⟨-, -, -, b2⟩ := hw.2.2.2.2.2 j (by omega)
  rw [a3, a7]
  rcases b2 with b | b
  · rw [b, if_neg (show ¬ ¬ (0 : Int32) = 0 by decide), if_neg (show ¬ (0 : Int32) = 1 by decide)]
  · rw [b, if_pos (show ¬ (1 : Int32) = 0 by decide), if_pos rfl]
theorem gz_wrow {I : gzIT} {v : Int32} : (gz_ui I 0 47 0 v) 0 48 = I 0 48 := funext fun k => gz_ui_o (by decide)
