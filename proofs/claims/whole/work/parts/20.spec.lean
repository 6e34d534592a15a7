/-! what the functions of the class answer: the Grudges' sums -/
theorem s_X1_allIce {φ t n : Nat} {I : gzIT} (hn : I t 7 7 = Int32.ofNat n) (hm : n ≤ 10) (hφ : n < φ) : f_X1_allIce φ t I = some (gzFo (fun s i => if I t 14 i = 0 then s + I t 12 i else s) 0 n 0) := by
  unfold f_X1_allIce
  refine gz_loop (F := fun k s i => f_X1_allIce_4 φ t I k s i) (n := n) (out := some) ?_ ?_ n 0 φ 0 (by omega) hφ
  · intro k s i hi
    show f_X1_allIce_4 φ t I (k + 1) s (Int32.ofNat i) = _
    rw [f_X1_allIce_4, hn, if_neg (by rw [gzn_le (by omega) (by omega)]; omega), gzGd_in (by omega) (by omega), gzn_clamp (by omega), gzn_succ]
    by_cases h : I t 14 i = 0
    · rw [if_neg (fun q => q h), if_pos h]
    · rw [if_pos h, if_neg h]
  · intro k s
    show f_X1_allIce_4 φ t I (k + 1) s (Int32.ofNat n) = _
    rw [f_X1_allIce_4, hn, if_pos (by rw [gzn_le (by omega) (by omega)]; omega)]
/-- a place of the model's town is in its row -/
theorem s_X12_of {g w : Nat} {I : gzIT} (hg : g < 10) (hw : w < 7) : f_X12_of I (Int32.ofNat g) (Int32.ofNat w) = some (I 0 48 (54 + 7 * g + w)) := by
  have e : (54 : Int32) + 7 * Int32.ofNat g + Int32.ofNat w = Int32.ofNat (54 + 7 * g + w) := by
    rw [Int32.ofNat_add, Int32.ofNat_add, Int32.ofNat_mul]; rfl
  unfold f_X12_of f_X12_at
  simp only [Option.bind_some, e]
  rw [gzGd_in (by omega) (by omega), gzn_clamp (by omega)]
theorem s_X12_isThawed {g : Nat} {I : gzIT} (hg : g < 10) : f_X12_isThawed I (Int32.ofNat g) = some (if I 0 48 (60 + 7 * g) = 1 then 1 else 0) := by
  unfold f_X12_isThawed
  rw [show (6 : Int32) = Int32.ofNat 6 from rfl, s_X12_of hg (by omega), show 54 + 7 * g + 6 = 60 + 7 * g by omega]
  simp only [Option.bind_some]
  by_cases h : I 0 48 (60 + 7 * g) = 1
  · rw [if_neg (fun q => q h), if_pos h]
  · rw [if_pos h, if_neg h]
theorem s_X12_standing {φ n : Nat} {I : gzIT} (hn : I 0 48 1 = Int32.ofNat n) (hm : n ≤ 10) (hφ : n < φ) : f_X12_standing φ I = some (gzFo (fun s i => s ||| (if I 0 48 (60 + 7 * i) = 1 then 0 else (1 : Int32) <<< (Int32.ofNat i &&& 31))) 0 n 0) := by
  unfold f_X12_standing
  refine gz_loop (F := fun k s i => f_X12_standing_4 φ I k s i) (n := n) (out := some) ?_ ?_ n 0 φ 0 (by omega) hφ
  · intro k s i hi
    show f_X12_standing_4 φ I (k + 1) s (Int32.ofNat i) = _
    rw [f_X12_standing_4, f_X12_grudges, hn]
    simp only [Option.bind_some]
    rw [if_neg (by rw [gzn_le (by omega) (by omega)]; omega), s_X12_isThawed (by omega), gzn_succ]
    simp only [Option.bind_some]
    by_cases h : I 0 48 (60 + 7 * i) = 1
    · rw [if_pos h, if_neg (by decide), if_pos h]
    · rw [if_neg h, if_pos rfl, if_neg h]
  · intro k s
    show f_X12_standing_4 φ I (k + 1) s (Int32.ofNat n) = _
    rw [f_X12_standing_4, f_X12_grudges, hn]
    simp only [Option.bind_some]
    rw [if_pos (by rw [gzn_le (by omega) (by omega)]; omega)]
theorem s_X1_frozenOnes {φ t n : Nat} {I : gzIT} (hn : I t 7 7 = Int32.ofNat n) (hm : n ≤ 10) (hφ : n < φ) : f_X1_frozenOnes φ t I = some (gzFo (fun s i => if I t 14 i = 0 then s ||| (1 : Int32) <<< (Int32.ofNat i &&& 31) else s) 0 n 0) := by
  unfold f_X1_frozenOnes
  refine gz_loop (F := fun k s i => f_X1_frozenOnes_4 φ t I k s i) (n := n) (out := some) ?_ ?_ n 0 φ 0 (by omega) hφ
  · intro k s i hi
    show f_X1_frozenOnes_4 φ t I (k + 1) s (Int32.ofNat i) = _
    rw [f_X1_frozenOnes_4, hn, if_neg (by rw [gzn_le (by omega) (by omega)]; omega), gzGd_in (by omega) (by omega), gzn_clamp (by omega), gzn_succ]
    by_cases h : I t 14 i = 0
    · rw [if_neg (fun q => q h), if_pos h]
    · rw [if_pos h, if_neg h]
  · intro k s
    show f_X1_frozenOnes_4 φ t I (k + 1) s (Int32.ofNat n) = _
    rw [f_X1_frozenOnes_4, hn, if_pos (by rw [gzn_le (by omega) (by omega)]; omega)]
