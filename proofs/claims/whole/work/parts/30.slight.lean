/-- slight: BITTER, DEEP, those OVER it -/
theorem r_slight {φ nf ng nl nx : Nat} {I : gzIT} {J J2 : gzJT} {a b : Int32} (h : gzTn I 0 (I 0 48) nf ng nl nx) (hw : gzWr (I 0 48) nf ng nl) (hφ : 10 < φ) :
    ∃ e v I2, f_X11_slight φ a b I J = some (e, I, J) ∧ f_X12_slight φ a b I J2 = some (v, I2, J2) ∧ gzSame e ["java/lang/IndexOutOfBoundsException", "java/util/NoSuchElementException"] v (I2 0 47 0) ∧ gzBut I I2 := by
  have hs := h.2.2.2.1
  rcases s_needSlight (a := a) (I := I) (J := J) with ⟨⟨k, hk, rfl⟩, e1, e2⟩ | ⟨e1, e2⟩
  · have hM : ∀ c : Int32, (14 : Int32) + 2 * Int32.ofNat k + c = Int32.ofNat (14 + 2 * k) + c := fun c => by
      rw [Int32.ofNat_add, Int32.ofNat_mul]; rfl
    have hclamp := gzn_clamp (n := k) (by omega)
    unfold f_X11_slight f_X12_slight
    rw [e1, e2]
    simp only [Option.bind_some, gzEx, s_throws0, not_true_eq_false, ↓reduceIte]
    by_cases b0 : b = 0
    · subst b0
      refine ⟨.ok (I 0 17 k), I 0 17 k, gz_ui I 0 47 0 0, ?_, ?_, ⟨rfl, gz_ui_s⟩, gzBut_1⟩
      · rw [if_pos rfl, gzGd_in hk (by omega), hclamp]
      · rw [show f_X12_in (0 : Int32) 0 2 = some 1 by rfl]
        simp only [Option.bind_some, gz_not01, s_throws0]
        rw [if_pos trivial, if_pos (show ¬ (0 : Int32) = 2 by decide), hM, Int32.add_zero, gzGd_in (by omega) (by omega), gzn_clamp (by omega), gz_wrow, (hs k hk).1]
    · by_cases b1 : b = 1
      · subst b1
        refine ⟨.ok (I 0 18 k), I 0 18 k, gz_ui I 0 47 0 0, ?_, ?_, ⟨rfl, gz_ui_s⟩, gzBut_1⟩
        · rw [if_neg (by decide), if_pos rfl, gzGd_in hk (by omega), hclamp]
        · rw [show f_X12_in (1 : Int32) 0 2 = some 1 by rfl]
          simp only [Option.bind_some, gz_not01, s_throws0]
          rw [if_pos trivial, if_pos (show ¬ (1 : Int32) = 2 by decide), hM, gzn_succ, gzGd_in (by omega) (by omega), gzn_clamp (by omega), gz_wrow, (hs k hk).2, show 14 + 2 * k + 1 = 15 + 2 * k by omega]
      · by_cases b2 : b = 2
        · subst b2
          have q := r_over (φ := φ) (I' := gz_ui I 0 47 0 0) (a := Int32.ofNat k) (by rw [gz_wrow]; exact h) (by rw [gz_wrow]; exact hw) hφ
          have q2 := s_X1_over (φ := φ) (a := Int32.ofNat k) h.1.2.2.2.2.1 h.1.2.1 (by have := h.1.2.1; omega)
          obtain ⟨x, q3⟩ : ∃ x, f_X1_over φ 0 I (Int32.ofNat k) = some x := ⟨_, q2⟩
          refine ⟨.ok x, x, gz_ui I 0 47 0 0, ?_, ?_, ⟨rfl, gz_ui_s⟩, gzBut_1⟩
          · rw [if_neg (by decide), if_neg (by decide), if_pos rfl, q3]; rfl
          · rw [show f_X12_in (2 : Int32) 0 2 = some 1 by rfl]
            simp only [Option.bind_some, gz_not01, s_throws0]
            simp only [not_true_eq_false, ↓reduceIte]
            rw [← q, q3]; rfl
        · have hin : f_X12_in b 0 2 = some 0 := by
            rcases gz_byn b 3 (by omega) with ⟨m, hm, rfl⟩ | q1 | ⟨q1, q2⟩
            · exfalso
              have : m = 0 ∨ m = 1 ∨ m = 2 := by omega
              rcases this with rfl | rfl | rfl
              · exact b0 rfl
              · exact b1 rfl
              · exact b2 rfl
            · exact s_X12_in1 q1
            · exact s_X12_in2 (n := 3) (by omega) (by omega) q1 q2
          refine ⟨.error "java/util/NoSuchElementException", 0, gz_ui (gz_ui I 0 47 0 0) 0 47 0 2, ?_, ?_, ⟨1, rfl, gz_ui_s⟩, gzBut_2⟩
          · rw [if_neg b0, if_neg b1, if_neg b2]
          · rw [hin]
            simp only [Option.bind_some, not_true_eq_false, ↓reduceIte]
            rw [s_throws1]
            simp only [Option.bind_some]
            rw [if_neg (show ¬ (1 : Int32) = 0 by decide)]
  · refine ⟨.error "java/lang/IndexOutOfBoundsException", 0, gz_ui (gz_ui I 0 47 0 0) 0 47 0 1, ?_, ?_, ⟨0, rfl, gz_ui_s⟩, gzBut_2⟩
    · unfold f_X11_slight
      rw [e1]; rfl
    · unfold f_X12_slight
      rw [e2]
      simp only [Option.bind_some]
      rw [s_throws1]
      simp only [Option.bind_some]
      rw [if_pos (show ¬ (1 : Int32) = 0 by decide)]
