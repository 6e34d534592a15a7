/-! undo, image, back -/
section
variable {I I' X : gzIT} {J : gzJT} {w : Nat → Int32} {nf ng nl nx t t1 φ : Nat}
theorem L_undo (h : gzR I I) : ∃ v I1 I2 J2, f_X11_undo 4096 I J = some (v, I1, J) ∧ f_X12_undo 4096 I1 J = some (v, I2, J2) ∧ gzR I2 I2 := by
  obtain ⟨w, v, h1, h2, h3, h4, ⟨k, m, p1, p2, p3, p4, p5, p6⟩, ⟨i1, i2⟩, ⟨n, e1, e2, e3, e4⟩, h8, h9⟩ := id h
  obtain ⟨φ, hφ⟩ : ∃ φ, φ = 4096 := ⟨_, rfl⟩
  rw [← hφ]
  by_cases hk0 : k = 0
  · subst hk0
    refine ⟨0, I, gz_ui I 0 47 0 0, J, ?_, ?_, gzR_thr h⟩
    · unfold f_X11_undo f_X5_takeBack
      rw [p3, if_neg (by decide)]
      rfl
    · unfold f_X12_undo
      rw [p4, if_neg (fun q => q rfl)]
  · obtain ⟨w0, q1, q2, q3⟩ := p6 0 (by omega)
    obtain ⟨m2, em2⟩ : ∃ m2, m2 = (m + 11) % 12 := ⟨_, rfl⟩
    have hm2 : m2 < 12 := by omega
    rw [Nat.sub_zero, ← em2] at q2
    rw [Nat.sub_zero] at q1
    obtain ⟨Y, eY⟩ : ∃ Y, Y = gz_ui (gz_ui I 0 39 2 (Int32.ofNat m2)) 0 39 1 (Int32.ofNat (k - 1)) := ⟨_, rfl⟩
    have Yo : ∀ t o j, ¬ (t = 0 ∧ o = 39 ∧ (j = 1 ∨ j = 2)) → Y t o j = I t o j := fun t o j a => by
      rw [eY]
      exact (if_neg (by omega)).trans (if_neg (by omega))
    have Y1 : Y 0 39 1 = Int32.ofNat (k - 1) := by rw [eY]; exact gz_ui_s
    have Y2 : Y 0 39 2 = Int32.ofNat m2 := by rw [eY]; exact (if_neg (by omega)).trans gz_ui_s
    have hb3 := h9 (3 + m2) (by omega) (by omega)
    have hcp := c_copyFrom (I := Y) (J := J) (t := 0) (t1 := 3 + m2) (φ := φ) (by omega) ⟨fun j hj => by rw [Yo _ 13 j (by omega), Yo _ 14 j (by omega)]; exact hb3.1 j hj, by rw [Yo _ 0 9 (by omega)]; exact hb3.2⟩ (by omega)
    obtain ⟨C, eC⟩ : ∃ C, C = gzCpy Y 0 (3 + m2) gzTcb := ⟨_, rfl⟩
    rw [← eC] at hcp
    have Co : ∀ t o j, ¬ (t = 0 ∧ o < 20) → C t o j = Y t o j := fun t o j a => by
      rw [eC]
      unfold gzCpy
      rw [if_neg]
      rintro ⟨q5, q6⟩
      have := of_decide_eq_true q6
      omega
    obtain ⟨Z, eZ⟩ : ∃ Z, Z = gz_ui (gz_ui C 0 47 0 0) 0 47 7 (Int32.ofNat (k - 1)) := ⟨_, rfl⟩
    have Zo : ∀ t o j, ¬ (t = 0 ∧ o = 47 ∧ (j = 0 ∨ j = 7)) → Z t o j = C t o j := fun t o j a => by
      rw [eZ]
      exact (if_neg (by omega)).trans (if_neg (by omega))
    have Z7 : Z 0 47 7 = Int32.ofNat (k - 1) := by rw [eZ]; exact gz_ui_s
    obtain ⟨I2, eI⟩ : ∃ I2, I2 = gzBk Z 48 0 52 (364 * (k - 1)) 364 := ⟨_, rfl⟩
    have Io : ∀ t o j, ¬ (t = 0 ∧ o = 48 ∧ j < 364) → I2 t o j = Z t o j := fun t o j a => by
      rw [eI]; exact if_neg (by omega)
    have In : ∀ j, j < 364 → I2 0 48 j = w0 j := fun j hj => by
      rw [eI]
      refine (if_pos ⟨rfl, rfl, by omega, by omega⟩).trans ?_
      rw [Nat.sub_zero, Zo 0 52 _ (by omega), Co 0 52 _ (by omega), Yo 0 52 _ (by omega)]
      exact q1 j hj
    -- a cell that is none of these
    have all : ∀ t o j, ¬ (t = 0 ∧ o < 20) → ¬ (t = 0 ∧ o = 39 ∧ (j = 1 ∨ j = 2)) → ¬ (t = 0 ∧ o = 47 ∧ (j = 0 ∨ j = 7)) → ¬ (t = 0 ∧ o = 48 ∧ j < 364) → I2 t o j = I t o j := fun t o j a b c d => (Io t o j d).trans ((Zo t o j c).trans ((Co t o j a).trans (Yo t o j b)))
    refine ⟨1, C, I2, J, ?_, ?_, ?_⟩
    · unfold f_X11_undo f_X5_takeBack
      rw [p3, p5]
      simp (disch := omega) only [gzc_add, gzc_sub, gzc_div, gzc_mul', gzc_subs]
      rw [show m + 12 - 1 - (m + 12 - 1) / 12 * 12 = m2 by omega, if_pos (by rw [gzc_lt1 (by omega) (by omega)]; omega), if_neg (by rw [gzc_lt0 (by omega)]; exact id), gzGd_in hm2 (by omega), gzn_clamp (by omega), ← eY, hcp]
      rfl
    · unfold f_X12_undo
      have C7 : C 0 47 7 = Int32.ofNat k := (Co 0 47 7 (by omega)).trans ((Yo 0 47 7 (by omega)).trans p4)
      rw [C7, if_pos (by rw [gzc_eq2 (by omega) (by omega)]; exact hk0), gzc_sub (k := 1) (show 1 ≤ k by omega), ← eZ]
      have key := gz_blk (I := Z) (F := fun k2 i s => f_X12_undo_26 φ k2 i s J) (n := 364) (o := 48) (a := 0) (o' := 52) (b := 364 * (k - 1)) (out := some (1, I2, J)) (Or.inl (by omega)) ?_ ?_ 364 0 φ (by omega) (by omega)
      · rw [gzBk_0] at key; exact key
      · intro k2 i hi
        have e7 : gzBk Z 48 0 52 (364 * (k - 1)) i 0 47 7 = Int32.ofNat (k - 1) := (if_neg (by omega)).trans Z7
        show f_X12_undo_26 φ (k2 + 1) (Int32.ofNat i) (gzBk Z 48 0 52 (364 * (k - 1)) i) J = f_X12_undo_26 φ k2 (Int32.ofNat (i + 1)) (gz_ui (gzBk Z 48 0 52 (364 * (k - 1)) i) 0 48 (0 + i) (gzBk Z 48 0 52 (364 * (k - 1)) i 0 52 (364 * (k - 1) + i))) J
        rw [f_X12_undo_26, if_neg (by rw [gzc_le1 (by omega) (by omega)]; omega), e7, gzc_mul, gzc_adds, gzGd_in (show 364 * (k - 1) + i < 4368 by omega) (by omega), gzGd_in (by omega) (by omega), gzn_clamp (show i < 2 ^ 31 by omega), gzn_clamp (show 364 * (k - 1) + i < 2 ^ 31 by omega), gzn_succ, Nat.zero_add]
      · intro k2
        show f_X12_undo_26 φ (k2 + 1) 364 (gzBk Z 48 0 52 (364 * (k - 1)) 364) J = _
        rw [f_X12_undo_26, if_pos (by decide), eI]
    · have town : ∀ t w, t ≠ 0 → gzRt I t w → gzRt I2 t w := fun t w ht hT => gzRt_congr (fun o j ho _ => all t o j (by omega) (by omega) (by omega) (by omega)) hT
      have E : ∀ o j, ((8 ≤ o ∧ o ≤ 14 ∧ j < 10) ∨ (o = 0 ∧ 6 ≤ j ∧ j ≤ 11)) → I2 0 o j = I (3 + m2) o j := fun o j q => (Io 0 o j (by omega)).trans ((Zo 0 o j (by omega)).trans (by rw [eC]; exact (gzCpy_at (decide_eq_true (by omega))).trans (Yo (3 + m2) o j (by omega))))
      refine ⟨w0, v, In, fun i hi => ?_, ?_, ?_, ⟨k - 1, m2, by omega, hm2, ?_, ?_, ?_, fun j hj => ?_⟩, ⟨?_, ?_⟩, ⟨n, e1, ?_, ?_, fun i hi => ?_⟩, ?_, fun t ht h1 => ?_⟩
      · rw [all 0 48 _ (by omega) (by omega) (by omega) (by omega)]; exact h2 i hi
      · obtain ⟨nf, ng, nl, nx, t1, t2⟩ := q2
        have ty : gzTn Y (3 + m2) w0 nf ng nl nx := gzTn_congr (fun o j ho _ => Yo (3 + m2) o j (by omega)) t1
        have tc : gzTn C 0 w0 nf ng nl nx := by rw [eC]; exact gzTn_cpy ty
        exact ⟨nf, ng, nl, nx, gzTn_congr (fun o j ho _ => (Io 0 o j (by omega)).trans (Zo 0 o j (by omega))) tc, t2⟩
      · rw [q3]; exact gzLw_congr (fun o j a b => all 0 o j (by omega) (by omega) (by omega) (by omega)) h4
      · exact (Io 0 39 1 (by omega)).trans ((Zo 0 39 1 (by omega)).trans ((Co 0 39 1 (by omega)).trans Y1))
      · exact (Io 0 47 7 (by omega)).trans Z7
      · exact (Io 0 39 2 (by omega)).trans ((Zo 0 39 2 (by omega)).trans ((Co 0 39 2 (by omega)).trans Y2))
      · obtain ⟨w2, r1, r2, r3⟩ := p6 (j + 1) (by omega)
        refine ⟨w2, fun i hi => ?_, ?_, by rw [q3]; exact r3⟩
        · rw [all 0 52 _ (by omega) (by omega) (by omega) (by omega), show k - 1 - 1 - j = k - 1 - (j + 1) by omega]; exact r1 i hi
        · rw [show 3 + (m2 + 11 - j) % 12 = 3 + (m + 11 - (j + 1)) % 12 by omega]
          exact town _ w2 (by omega) r2
      · rw [all 0 30 12 (by omega) (by omega) (by omega) (by omega), all 0 47 6 (by omega) (by omega) (by omega) (by omega)]; exact i1
      · rw [all 0 47 6 (by omega) (by omega) (by omega) (by omega)]
        rcases i2 with i2 | ⟨i2, w2, v2, r1, r2, r3, r4⟩
        · exact Or.inl i2
        · refine Or.inr ⟨i2, w2, v2, fun i hi => ?_, fun i hi => ?_, town 2 w2 (by omega) r3, gzLw_congr (fun o j a b => all 2 o j (by omega) (by omega) (by omega) (by omega)) r4⟩
          · rw [all 0 49 _ (by omega) (by omega) (by omega) (by omega)]; exact r1 i hi
          · rw [all 0 49 _ (by omega) (by omega) (by omega) (by omega)]; exact r2 i hi
      · rw [all 0 31 1 (by omega) (by omega) (by omega) (by omega)]; exact e2
      · rw [all 0 47 9 (by omega) (by omega) (by omega) (by omega)]; exact e3
      · rw [all 0 32 i (by omega) (by omega) (by omega) (by omega), all 0 53 i (by omega) (by omega) (by omega) (by omega)]; exact e4 i hi
      · rw [all 0 33 7 (by omega) (by omega) (by omega) (by omega), all 0 47 14 (by omega) (by omega) (by omega) (by omega)]; exact h8
      · by_cases e : t = 0
        · subst e
          refine ⟨fun j hj => ?_, ?_⟩
          · rw [E 13 j (by omega), E 14 j (by omega)]; exact hb3.1 j hj
          · rw [E 0 9 (by omega)]; exact hb3.2
        · obtain ⟨b1, b2⟩ := h9 t ht h1
          refine ⟨fun j hj => ?_, ?_⟩
          · rw [all t 13 j (by omega) (by omega) (by omega) (by omega), all t 14 j (by omega) (by omega) (by omega) (by omega)]; exact b1 j hj
          · rw [all t 0 9 (by omega) (by omega) (by omega) (by omega)]; exact b2
end
