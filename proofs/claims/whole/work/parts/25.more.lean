/-! fault, keeps' like: calls that need no more than the relation -/
theorem r_fault {I : gzIT} {J : gzJT} (h : I 0 33 7 = I 0 47 14) : ∃ x, f_X11_fault I = some x ∧ f_X12_fault I J = some (x, gz_ui I 0 47 0 0, J) :=
  ⟨I 0 33 7, rfl, by unfold f_X12_fault; rw [h]⟩
theorem s_X12_ofFamily {f w : Nat} {I : gzIT} (hf : f < 6) (hw : w < 4) : f_X12_ofFamily I (Int32.ofNat f) (Int32.ofNat w) = some (I 0 48 (30 + 4 * f + w)) := by
  have e : (30 : Int32) + 4 * Int32.ofNat f + Int32.ofNat w = Int32.ofNat (30 + 4 * f + w) := by
    rw [Int32.ofNat_add, Int32.ofNat_add, Int32.ofNat_mul]; rfl
  unfold f_X12_ofFamily f_X12_familyAt
  simp only [Option.bind_some, e]
  rw [gzGd_in (by omega) (by omega), gzn_clamp (by omega)]
theorem s_X11_offs {φ n : Nat} {I : gzIT} (hn : I 0 1 5 = Int32.ofNat n) (hm : n ≤ 6) (hφ : n < φ) : f_X11_offs φ I = some (gzFo (fun s i => if I 0 5 i ≤ 0 then s else s ||| (1 : Int32) <<< (Int32.ofNat i &&& 31)) 0 n 0) := by
  unfold f_X11_offs
  refine gz_loop (F := fun k s i => f_X11_offs_4 φ I k s i) (n := n) (out := some) ?_ ?_ n 0 φ 0 (by omega) hφ
  · intro k s i hi
    show f_X11_offs_4 φ I (k + 1) s (Int32.ofNat i) = _
    rw [f_X11_offs_4, hn, if_neg (by rw [gzn_le (by omega) (by omega)]; omega), gzGd_in (by omega) (by omega), gzn_clamp (by omega), gzn_succ]
    by_cases h : I 0 5 i ≤ 0
    · rw [if_pos h, if_pos h]
    · rw [if_neg h, if_neg h]
  · intro k s
    show f_X11_offs_4 φ I (k + 1) s (Int32.ofNat n) = _
    rw [f_X11_offs_4, hn, if_pos (by rw [gzn_le (by omega) (by omega)]; omega)]
theorem s_X12_offs {φ n : Nat} {I : gzIT} {J : gzJT} (hn : I 0 48 0 = Int32.ofNat n) (hm : n ≤ 6) (hφ : n < φ) : f_X12_offs_9 φ φ 0 0 I J = some (gzFo (fun s i => if I 0 48 (33 + 4 * i) ≤ 0 then s else s ||| (1 : Int32) <<< (Int32.ofNat i &&& 31)) 0 n 0, I, J) := by
  refine gz_loop (F := fun k s i => f_X12_offs_9 φ k s i I J) (n := n) (out := fun s => some (s, I, J)) ?_ ?_ n 0 φ 0 (by omega) hφ
  · intro k s i hi
    show f_X12_offs_9 φ (k + 1) s (Int32.ofNat i) I J = _
    rw [f_X12_offs_9, f_X12_families, hn]
    simp only [Option.bind_some]
    rw [if_neg (by rw [gzn_le (by omega) (by omega)]; omega), show (3 : Int32) = Int32.ofNat 3 from rfl, s_X12_ofFamily (by omega) (by omega), gzn_succ, show 30 + 4 * i + 3 = 33 + 4 * i by omega]
    simp only [Option.bind_some]
    by_cases h : I 0 48 (33 + 4 * i) ≤ 0
    · rw [if_pos h, if_pos h, Int32.or_zero]
    · rw [if_neg h, if_neg h]
  · intro k s
    show f_X12_offs_9 φ (k + 1) s (Int32.ofNat n) I J = _
    rw [f_X12_offs_9, f_X12_families, hn]
    simp only [Option.bind_some]
    rw [if_pos (by rw [gzn_le (by omega) (by omega)]; omega)]
theorem r_offs {φ nf ng nl nx : Nat} {I : gzIT} {J : gzJT} (h : gzTn I 0 (I 0 48) nf ng nl nx) (hφ : 10 < φ) : ∃ x, f_X11_offs φ I = some x ∧ f_X12_offs φ I J = some (x, gz_ui I 0 47 0 0, J) := by
  obtain ⟨⟨h1, h2, h3, h4, h5, h6⟩, -, -, -, h8, -, -⟩ := h
  have u : ∀ k, (gz_ui I 0 47 0 0) 0 48 k = I 0 48 k := fun k => gz_ui_o (by decide)
  refine ⟨_, s_X11_offs h3 h1 (by omega), ?_⟩
  unfold f_X12_offs
  rw [s_X12_offs (by rw [u]; exact h4) h1 (by omega)]
  refine congrArg (fun x => some (x, _, J)) (gzFo_congr _ _ _ fun s j _ hj => ?_)
  rw [u, (h8 j (by omega)).2.2.2]
theorem r_seed {a : Int32} {I : gzIT} {J : gzJT} (h : I 0 0 11 = I 0 48 9) : ∃ x, f_X11_seed a I J = some (x, gz_ui I 0 0 11 a, J) ∧ f_X12_seed a (gz_ui I 0 0 11 a) J = some (x, gz_ui (gz_ui (gz_ui I 0 0 11 a) 0 47 0 0) 0 48 9 a, J) := by
  refine ⟨I 0 0 11, rfl, ?_⟩
  unfold f_X12_seed
  rw [gz_ui_o (by decide), h]
