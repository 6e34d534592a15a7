/-! blue and nursed: sets of the standing ones -/
theorem s_X1_frozen {t n g : Nat} {I : gzIT} (hn : I t 7 7 = Int32.ofNat n) (hg : g < n) (hm : n ≤ 10) : f_X1_frozen t I (Int32.ofNat g) = some (if I t 14 g = 0 then 1 else 0) := by
  unfold f_X1_frozen
  rw [if_neg (show ¬ Int32.ofNat g < 0 by rw [show (0 : Int32) = Int32.ofNat 0 from rfl, gzn_lt (by omega) (by omega)]; omega), hn, if_neg (by rw [gzn_le (by omega) (by omega)]; omega), gzGd_in (by omega) (by omega), gzn_clamp (by omega)]
  by_cases h : I t 14 g = 0
  · rw [if_neg (show ¬ ¬ I t 14 g = 0 from fun q => q h), if_pos h]
  · rw [if_pos h, if_neg h]
theorem s_X11_blue {φ n : Nat} {I : gzIT} (hn : I 0 7 7 = Int32.ofNat n) (hm : n ≤ 10) (hφ : n < φ) : f_X11_blue φ I = some (gzFo (fun s i => if ¬ I 0 14 i = 0 then s else if I 0 12 i < 100 then s else s ||| (1 : Int32) <<< (Int32.ofNat i &&& 31)) 0 n 0) := by
  unfold f_X11_blue
  refine gz_loop (F := fun k s i => f_X11_blue_4 φ I k s i) (n := n) (out := some) ?_ ?_ n 0 φ 0 (by omega) hφ
  · intro k s i hi
    show f_X11_blue_4 φ I (k + 1) s (Int32.ofNat i) = _
    rw [f_X11_blue_4, hn, if_neg (by rw [gzn_le (by omega) (by omega)]; omega), s_X1_frozen hn hi hm, gzn_succ]
    simp only [Option.bind_some]
    by_cases h : I 0 14 i = 0
    · rw [if_pos h, if_neg (show ¬ (1 : Int32) = 0 by decide), gzGd_in (by omega) (by omega), gzn_clamp (by omega), if_neg (show ¬ ¬ I 0 14 i = 0 from fun q => q h)]
      by_cases h2 : I 0 12 i < 100
      · rw [if_pos h2, if_pos h2]
      · rw [if_neg h2, if_neg h2]
    · rw [if_neg h, if_pos rfl, if_pos h]
  · intro k s
    show f_X11_blue_4 φ I (k + 1) s (Int32.ofNat n) = _
    rw [f_X11_blue_4, hn, if_pos (by rw [gzn_le (by omega) (by omega)]; omega)]
theorem s_X12_blue {φ n : Nat} {I : gzIT} {J : gzJT} (hn : I 0 48 1 = Int32.ofNat n) (hm : n ≤ 10) (hφ : n < φ) : f_X12_blue_9 φ φ 0 0 I J = some (gzFo (fun s i => if I 0 48 (60 + 7 * i) = 1 then s else if I 0 48 (58 + 7 * i) < 100 then s else s ||| (1 : Int32) <<< (Int32.ofNat i &&& 31)) 0 n 0, I, J) := by
  refine gz_loop (F := fun k s i => f_X12_blue_9 φ k s i I J) (n := n) (out := fun s => some (s, I, J)) ?_ ?_ n 0 φ 0 (by omega) hφ
  · intro k s i hi
    show f_X12_blue_9 φ (k + 1) s (Int32.ofNat i) I J = _
    rw [f_X12_blue_9, f_X12_grudges, hn]
    simp only [Option.bind_some]
    rw [if_neg (by rw [gzn_le (by omega) (by omega)]; omega), s_X12_isThawed (by omega), gzn_succ, show (4 : Int32) = Int32.ofNat 4 from rfl, s_X12_of (by omega) (by omega), show 54 + 7 * i + 4 = 58 + 7 * i by omega]
    simp only [Option.bind_some]
    by_cases h : I 0 48 (60 + 7 * i) = 1
    · rw [if_pos h, if_pos (show ¬ (1 : Int32) = 0 by decide), if_pos h, Int32.or_zero]
    · rw [if_neg h, if_neg (show ¬ ¬ (0 : Int32) = 0 by decide), if_neg h]
      by_cases h2 : I 0 48 (58 + 7 * i) < 100
      · rw [if_pos h2, if_pos h2, Int32.or_zero]
      · rw [if_neg h2, if_neg h2]
  · intro k s
    show f_X12_blue_9 φ (k + 1) s (Int32.ofNat n) I J = _
    rw [f_X12_blue_9, f_X12_grudges, hn]
    simp only [Option.bind_some]
    rw [if_pos (by rw [gzn_le (by omega) (by omega)]; omega)]
theorem r_blue {φ nf ng nl nx : Nat} {I : gzIT} {J : gzJT} (h : gzTn I 0 (I 0 48) nf ng nl nx) (hw : gzWr (I 0 48) nf ng nl) (hφ : 10 < φ) : ∃ x, f_X11_blue φ I = some x ∧ f_X12_blue φ I J = some (x, gz_ui I 0 47 0 0, J) := by
  obtain ⟨⟨h1, h2, h3, h4, h5, h6⟩, -, -, -, -, h8, -⟩ := h
  have u : ∀ k, (gz_ui I 0 47 0 0) 0 48 k = I 0 48 k := fun k => gz_ui_o (by decide)
  refine ⟨_, s_X11_blue h5 h2 (by omega), ?_⟩
  unfold f_X12_blue
  rw [s_X12_blue (by rw [u]; exact h6) h2 (by omega)]
  refine congrArg (fun x => some (x, _, J)) (gzFo_congr _ _ _ fun s j _ hj => ?_)
  obtain ⟨a1, a2, a3, a4, a5, a6, a7⟩ := h8 j (by omega)
  obtain ⟨-, -, b1, b2⟩ := hw.2.2.2.2.2 j (by omega)
  rw [u, u, a7, a5]
  rcases b2 with b | b
  · rw [b, if_neg (show ¬ (0 : Int32) = 1 by decide), if_neg (show ¬ ¬ (0 : Int32) = 0 by decide)]
  · rw [b, if_pos rfl, if_pos (show ¬ (1 : Int32) = 0 by decide)]
theorem s_X11_nursed {φ n : Nat} {I : gzIT} (hn : I 0 7 7 = Int32.ofNat n) (hm : n ≤ 10) (hφ : n < φ) : f_X11_nursed φ I = some (gzFo (fun s i => if ¬ I 0 14 i = 0 then s else if I 0 13 i = 0 then s else s ||| (1 : Int32) <<< (Int32.ofNat i &&& 31)) 0 n 0) := by
  unfold f_X11_nursed
  refine gz_loop (F := fun k s i => f_X11_nursed_4 φ I k s i) (n := n) (out := some) ?_ ?_ n 0 φ 0 (by omega) hφ
  · intro k s i hi
    show f_X11_nursed_4 φ I (k + 1) s (Int32.ofNat i) = _
    rw [f_X11_nursed_4, hn, if_neg (by rw [gzn_le (by omega) (by omega)]; omega), s_X1_frozen hn hi hm, gzn_succ]
    simp only [Option.bind_some]
    by_cases h : I 0 14 i = 0
    · rw [if_pos h, if_neg (show ¬ (1 : Int32) = 0 by decide), gzGd_in (by omega) (by omega), gzn_clamp (by omega), if_neg (show ¬ ¬ I 0 14 i = 0 from fun q => q h)]
      by_cases h2 : I 0 13 i = 0
      · rw [if_pos h2, if_pos h2]
      · rw [if_neg h2, if_neg h2]
    · rw [if_neg h, if_pos rfl, if_pos h]
  · intro k s
    show f_X11_nursed_4 φ I (k + 1) s (Int32.ofNat n) = _
    rw [f_X11_nursed_4, hn, if_pos (by rw [gzn_le (by omega) (by omega)]; omega)]
theorem s_X12_nursed {φ n : Nat} {I : gzIT} {J : gzJT} (hn : I 0 48 1 = Int32.ofNat n) (hm : n ≤ 10) (hφ : n < φ) : f_X12_nursed_9 φ φ 0 0 I J = some (gzFo (fun s i => if I 0 48 (60 + 7 * i) = 1 then s else if ¬ I 0 48 (59 + 7 * i) = 1 then s else s ||| (1 : Int32) <<< (Int32.ofNat i &&& 31)) 0 n 0, I, J) := by
  refine gz_loop (F := fun k s i => f_X12_nursed_9 φ k s i I J) (n := n) (out := fun s => some (s, I, J)) ?_ ?_ n 0 φ 0 (by omega) hφ
  · intro k s i hi
    show f_X12_nursed_9 φ (k + 1) s (Int32.ofNat i) I J = _
    rw [f_X12_nursed_9, f_X12_grudges, hn]
    simp only [Option.bind_some]
    rw [if_neg (by rw [gzn_le (by omega) (by omega)]; omega), s_X12_isThawed (by omega), gzn_succ, show (5 : Int32) = Int32.ofNat 5 from rfl, s_X12_of (by omega) (by omega), show 54 + 7 * i + 5 = 59 + 7 * i by omega]
    simp only [Option.bind_some]
    by_cases h : I 0 48 (60 + 7 * i) = 1
    · rw [if_pos h, if_pos (show ¬ (1 : Int32) = 0 by decide), if_pos h, Int32.or_zero]
    · rw [if_neg h, if_neg (show ¬ ¬ (0 : Int32) = 0 by decide), if_neg h]
      by_cases h2 : ¬ I 0 48 (59 + 7 * i) = 1
      · rw [if_pos h2, if_pos h2, Int32.or_zero]
      · rw [if_neg h2, if_neg h2]
  · intro k s
    show f_X12_nursed_9 φ (k + 1) s (Int32.ofNat n) I J = _
    rw [f_X12_nursed_9, f_X12_grudges, hn]
    simp only [Option.bind_some]
    rw [if_pos (by rw [gzn_le (by omega) (by omega)]; omega)]
theorem r_nursed {φ nf ng nl nx : Nat} {I : gzIT} {J : gzJT} (h : gzTn I 0 (I 0 48) nf ng nl nx) (hw : gzWr (I 0 48) nf ng nl) (hφ : 10 < φ) : ∃ x, f_X11_nursed φ I = some x ∧ f_X12_nursed φ I J = some (x, gz_ui I 0 47 0 0, J) := by
  obtain ⟨⟨h1, h2, h3, h4, h5, h6⟩, -, -, -, -, h8, -⟩ := h
  have u : ∀ k, (gz_ui I 0 47 0 0) 0 48 k = I 0 48 k := fun k => gz_ui_o (by decide)
  refine ⟨_, s_X11_nursed h5 h2 (by omega), ?_⟩
  unfold f_X12_nursed
  rw [s_X12_nursed (by rw [u]; exact h6) h2 (by omega)]
  refine congrArg (fun x => some (x, _, J)) (gzFo_congr _ _ _ fun s j _ hj => ?_)
  obtain ⟨a1, a2, a3, a4, a5, a6, a7⟩ := h8 j (by omega)
  obtain ⟨-, -, b1, b2⟩ := hw.2.2.2.2.2 j (by omega)
  rw [u, u, a7, a6]
  rcases b2 with b | b
  · rw [b, if_neg (show ¬ (0 : Int32) = 1 by decide), if_neg (show ¬ ¬ (0 : Int32) = 0 by decide)]
    rcases b1 with c | c
    · rw [c, if_pos (show ¬ (0 : Int32) = 1 by decide), if_pos rfl]
    · rw [c, if_neg (show ¬ ¬ (1 : Int32) = 1 by decide), if_neg (show ¬ (1 : Int32) = 0 by decide)]
  · rw [b, if_pos rfl, if_pos (show ¬ (1 : Int32) = 0 by decide)]
