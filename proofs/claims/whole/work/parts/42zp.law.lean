/-! law -/
section
variable {I I' I2 X M M0 Ic Im Ic' Im' Ic2 Im2 : gzIT} {J J' : gzJT} {φ n c N d : Nat}
theorem m_lawcp {x : Int32} : ∀ (m i k : Nat) (M : gzIT), i + m = 849 → m < k → ∃ M', f_X12_law_52 φ k x (Int32.ofNat i) M J = some (x, M', J) ∧ M' 0 48 3 = 1 ∧ M' 0 47 7 = 0 ∧ (∀ q, i ≤ q → q < 849 → M' 0 48 (364 + q) = M 0 48 (1213 + q)) ∧ ∀ t o j, ¬ (t = 0 ∧ o = 48 ∧ (j = 3 ∨ (364 + i ≤ j ∧ j < 1213))) → ¬ (t = 0 ∧ o = 47 ∧ j = 7) → M' t o j = M t o j := by
  intro m
  induction m with
  | zero =>
    intro i k M hi hk
    obtain ⟨k, rfl⟩ : ∃ q, k = q + 1 := ⟨k - 1, by omega⟩
    refine ⟨gz_ui (gz_ui M 0 48 3 1) 0 47 7 0, ?_, (if_neg (by omega)).trans gz_ui_s, gz_ui_s, fun q q1 q2 => by omega, fun t o j q r => (if_neg (by omega)).trans (if_neg (by omega))⟩
    rw [f_X12_law_52, if_pos (by rw [gzc_le1 (by omega) (by omega)]; omega)]
  | succ m ih =>
    intro i k M hi hk
    obtain ⟨k, rfl⟩ : ∃ q, k = q + 1 := ⟨k - 1, by omega⟩
    obtain ⟨M1, e1⟩ : ∃ M1, M1 = gz_ui M 0 48 (364 + i) (M 0 48 (1213 + i)) := ⟨_, rfl⟩
    have f1 : ∀ t o j, ¬ (t = 0 ∧ o = 48 ∧ j = 364 + i) → M1 t o j = M t o j := fun t o j q => by rw [e1]; exact if_neg q
    obtain ⟨M', i1, i2, i3, i4, i5⟩ := ih (i + 1) k M1 (by omega) (by omega)
    refine ⟨M', ?_, i2, i3, fun q q1 q2 => ?_, fun t o j q r => (i5 t o j (by omega) r).trans (f1 t o j (by omega))⟩
    · rw [f_X12_law_52, if_neg (by rw [gzc_le1 (by omega) (by omega)]; omega), gzc_add', gzc_add', gzGd_in (by omega) (by omega), gzGd_in (by omega) (by omega), gzn_clamp (by omega), gzn_clamp (by omega), gzn_succ, ← e1]
      exact i1
    · by_cases z : q = i
      · subst z
        rw [i5 0 48 (364 + q) (by omega) (by omega), e1]
        exact gz_ui_s
      · rw [i4 q (by omega) q2]
        exact f1 0 48 (1213 + q) (by omega)
theorem gzR_nl {I I2 : gzIT} (h : gzR I I) (hE : ∀ t o k, ¬ (gzCs t o k ∧ gzMw t o k) → ¬ (o = 31 ∨ o = 32 ∨ o = 53) → ¬ (t = 0 ∧ o = 47 ∧ (k = 7 ∨ k = 9 ∨ k = 14)) → ¬ (t = 0 ∧ o = 33 ∧ k = 7) → ¬ (t = 0 ∧ 20 ≤ o ∧ o < 26) → ¬ (t = 0 ∧ o = 39 ∧ k = 1) → ¬ (t = 0 ∧ o = 48 ∧ (k = 3 ∨ (364 ≤ k ∧ k < 1213))) → I2 t o k = I t o k) (he : gzRe I2 I2) (hf : I2 0 33 7 = I2 0 47 14) (h39 : I2 0 39 1 = 0) (h47 : I2 0 47 7 = 0) (h3 : I2 0 48 3 = 1) (hlaw : gzLw I2 0 (fun i => I2 0 48 (364 + i)) 1) : gzR I2 I2 := by
  obtain ⟨w, v, h1, h2, ⟨nf, ng, nl, nx, hT, hx⟩, h4, ⟨k, m, p1, p2, p3, p4, p5, p6⟩, ⟨i1, i2⟩, -, h8, h9⟩ := h
  have c0 : ∀ t o k, t ≠ 1 → o < 20 → o ≠ 6 → I2 t o k = I t o k := fun t o k b c d => hE t o k (by unfold gzCs gzMw; omega) (by omega) (by omega) (by omega) (by omega) (by omega) (by omega)
  have cl : ∀ t o k, t ≠ 1 → t ≠ 0 → 20 ≤ o → o < 26 → I2 t o k = I t o k := fun t o k a b c d => hE t o k (by unfold gzCs gzMw; omega) (by omega) (by omega) (by omega) (by omega) (by omega) (by omega)
  obtain ⟨w2, ew⟩ : ∃ w2 : Nat → Int32, w2 = fun i => if i = 3 then 1 else w i := ⟨_, rfl⟩
  have w23 : w2 3 = 1 := by rw [ew]; exact if_pos rfl
  have w2n : ∀ i, i ≠ 3 → w2 i = w i := fun i hi => by rw [ew]; exact if_neg hi
  have hbd := gzWx_bd hT.1.1 hx
  have hRt : gzRt I2 0 w2 := by
    refine ⟨nf, ng, nl, nx, gzRt_ch hT hx ⟨c0 0 1 5 (by omega) (by omega) (by omega), c0 0 7 7 (by omega) (by omega) (by omega), w2n 0 (by omega), w2n 1 (by omega)⟩ (fun o k i q => ?_) (gzAbo_congr hbd.1 (fun g hg => ⟨w2n _ (by omega), w2n _ (by omega), w2n _ (by omega)⟩)) (fun i hi => ?_) ?_⟩
    · unfold gzQp at q
      exact Or.inr ⟨c0 0 o k (by omega) (by omega) (by omega), w2n i (by omega)⟩
    · by_cases z : i = 3
      · subst z
        rw [w23]
        exact Or.inl ⟨fun q => by omega, fun q => by omega, fun _ => Or.inr rfl, fun q => by omega, fun q => by omega, fun f hf => ⟨fun q => by omega, fun q => by omega, fun q => by omega⟩, fun g hg => ⟨fun q => by omega, fun q => by omega, fun q => by omega⟩⟩
      · exact Or.inr (w2n i z)
    · obtain ⟨l1, l2, l3, l4, l5, l6⟩ := hT.2.2.2.2.2.2
      exact ⟨l1, l2, (c0 0 15 1 (by omega) (by omega) (by omega)).trans l3, (w2n 8 (by omega)).trans l4, (c0 0 15 2 (by omega) (by omega) (by omega)).trans l5, fun a ha k hk => (c0 0 16 _ (by omega) (by omega) (by omega)).trans ((l6 a ha k hk).trans (w2n _ (by omega)).symm)⟩
  refine ⟨w2, fun i => I2 0 48 (364 + i), fun i hi => ?_, fun _ _ => rfl, hRt, by rw [w23]; exact hlaw, ⟨0, m, by omega, p2, h39, h47, ?_, fun j hj => by omega⟩, ⟨?_, ?_⟩, he, hf, fun t ht h1 => ?_⟩
  · by_cases z : i = 3
    · rw [z, w23]; exact h3
    · rw [w2n i z, hE 0 48 i (by unfold gzCs gzMw; omega) (by omega) (by omega) (by omega) (by omega) (by omega) (by omega)]; exact h1 i hi
  · rw [hE 0 39 2 (by unfold gzCs gzMw; omega) (by omega) (by omega) (by omega) (by omega) (by omega) (by omega)]; exact p5
  · rw [hE 0 30 12 (by unfold gzCs gzMw; omega) (by omega) (by omega) (by omega) (by omega) (by omega) (by omega), hE 0 47 6 (by unfold gzCs gzMw; omega) (by omega) (by omega) (by omega) (by omega) (by omega) (by omega)]; exact i1
  · rw [hE 0 47 6 (by unfold gzCs gzMw; omega) (by omega) (by omega) (by omega) (by omega) (by omega) (by omega)]
    rcases i2 with i2 | ⟨i2, w2, v2, q1, q2, q3, q4⟩
    · exact Or.inl i2
    · refine Or.inr ⟨i2, w2, v2, fun i hi => ?_, fun i hi => ?_, gzRt_congr (fun o k => c0 2 o k (by omega)) q3, gzLw_congr (fun o k => cl 2 o k (by omega) (by omega)) q4⟩
      · rw [hE 0 49 _ (by unfold gzCs gzMw; omega) (by omega) (by omega) (by omega) (by omega) (by omega) (by omega)]; exact q1 i hi
      · rw [hE 0 49 _ (by unfold gzCs gzMw; omega) (by omega) (by omega) (by omega) (by omega) (by omega) (by omega)]; exact q2 i hi
  · obtain ⟨b1, b2⟩ := h9 t ht h1
    refine ⟨fun k hk => ?_, ?_⟩
    · rw [c0 t 13 k h1 (by omega) (by omega), c0 t 14 k h1 (by omega) (by omega)]; exact b1 k hk
    · rw [c0 t 0 9 h1 (by omega) (by omega)]; exact b2
theorem L_law {I : gzIT} {J : gzJT} (h : gzR I I) : ∃ e I1, f_X11_law 4096 I J = some (e, I1, J) ∧ (∀ E, e = .error E → ∃ k : Nat, (["java/lang/IllegalArgumentException"] : List String)[k]? = some E) ∧ ∀ J' : gzJT, ∃ v I2 J2, f_X12_law 4096 I1 J' = some (v, I2, J2) ∧ gzSame e ["java/lang/IllegalArgumentException"] v (I2 0 47 0) ∧ J2 0 59 0 = J' 0 59 0 ∧ gzR I2 I2 := by
  obtain ⟨φ, hφ⟩ : ∃ φ, φ = 4096 := ⟨_, rfl⟩
  rw [← hφ]
  have hφ1 : 1000 < φ := by omega
  obtain ⟨-, -, -, -, -, -, -, -, he, -⟩ := id h
  have hC : f_X11_law φ I J = Option.bind (gzCw φ I J) (fun v6 => gzEx v6.1 (fun E => some (.error E, v6.2.1, v6.2.2)) (fun w8 => Option.bind (f_X2_copyFrom 0 1 v6.2.1 v6.2.2) (fun v10 => Option.bind (f_X5_forget v10.2.1 v10.2.2) (fun v12 => some (.ok (v12.2.1 0 20 7), v12.2.1, v12.2.2))))) := by
    unfold f_X11_law gzCw
    simp only [Option.bind_assoc]
  rw [hC]
  rcases r_lawP (φ := φ) (J := J) (J' := J) (Im := I) he (fun _ _ _ => rfl) (by omega) with ⟨A, -, a1, -, a3, -, -, a6, -⟩ | ⟨A, -, n1, l1, a1, -, a3, -, a5, a6, -, -, a9, a10, a11, -⟩
  · rw [a1]
    refine ⟨.error "java/lang/IllegalArgumentException", A, rfl, fun E q => ⟨0, congrArg some (Except.error.inj q)⟩, fun J' => ?_⟩
    rcases r_lawP (φ := φ) (J := J) (J' := J') (Im := A) he (fun o k ho => a3 0 o k (by omega) (by omega)) (by omega) with ⟨A', B, b1, b2, b3, b4, b5, b6, b7, b8⟩ | ⟨A', B, n2, l2, b1, -⟩
    · have eA : A' = A := by
        have := b1.symm.trans a1
        exact congrArg (fun x => x.2.1) (Option.some.inj this)
      subst eA
      obtain ⟨D, eD⟩ : ∃ D, D = gz_ui (gz_ui B 0 47 14 (B 0 47 12)) 0 47 0 1 := ⟨_, rfl⟩
      have fD : ∀ t o k, ¬ (t = 0 ∧ o = 47 ∧ (k = 0 ∨ k = 14)) → D t o k = B t o k := fun t o k q => by rw [eD]; exact (if_neg (by omega)).trans (if_neg (by omega))
      have D14 : D 0 47 14 = B 0 47 12 := by rw [eD]; exact (if_neg (by omega)).trans gz_ui_s
      have D0 : D 0 47 0 = 1 := by rw [eD]; exact gz_ui_s
      have hDA : ∀ t o k, o ≠ 47 → o ≠ 48 → D t o k = A' t o k := fun t o k q r => (fD t o k (by omega)).trans (b4 t o k (by omega) (by omega))
      refine ⟨0, D, J', ?_, ⟨0, rfl, D0⟩, rfl, gzR_tf h (fun t o k q1 q2 q3 q4 => ?_) ⟨0, by omega, ?_, ?_, fun i hi => by omega⟩ ?_⟩
      · unfold f_X12_law
        rw [b2]
        simp only [Option.bind_some]
        rw [if_neg (by decide), if_neg (by decide)]
        unfold f_X12_throwsIf
        rw [if_neg (by decide)]
        unfold gzGz
        rw [if_pos (Or.inr rfl)]
        simp only [Option.bind_some]
        rw [if_neg (by decide), eD]
      · have hq1 : ¬ (t = 0 ∧ o = 47 ∧ (k = 0 ∨ k = 14 ∨ (9 ≤ k ∧ k ≤ 13) ∨ k = 16)) ∧ ¬ (t = 0 ∧ o = 48 ∧ 1213 ≤ k) ∧ ¬ (t = 0 ∧ ((33 ≤ o ∧ o ≤ 36) ∨ (o = 31 ∧ k = 1))) ∧ ¬ (t = 1 ∧ 20 ≤ o ∧ o < 26) := by
          unfold gzCs gzMw at q1
          omega
        rw [fD t o k (by omega), b4 t o k (by omega) (by omega), a3 t o k (by omega) (by omega)]
      · rw [hDA 0 31 1 (by omega) (by omega)]; exact a6
      · rw [fD 0 47 9 (by omega)]; exact b7
      · rw [hDA 0 33 7 (by omega) (by omega), D14]; exact b5
    · have := b1.symm.trans a1
      have := congrArg (fun x => x.1) (Option.some.inj this)
      cases this
  · rw [a1]
    have hcp : f_X2_copyFrom 0 1 A J = some ((), gzCpy A 0 1 gzLcb, J) := by
      have := c_lawcp (I := A) (J := J) (t := 0) (t1 := 1) (P := fun _ _ => false) (by omega)
      rw [gzCpy_0] at this
      rw [this]
      simp
    obtain ⟨A1, eA1⟩ : ∃ A1, A1 = gzCpy A 0 1 gzLcb := ⟨_, rfl⟩
    obtain ⟨A2, eA2⟩ : ∃ A2, A2 = gz_ui A1 0 39 1 0 := ⟨_, rfl⟩
    have fA1 : ∀ t o k, ¬ (t = 0 ∧ 20 ≤ o ∧ o < 26) → A1 t o k = A t o k := fun t o k q => by
      rw [eA1]
      by_cases z : t = 0
      · rw [z]
        exact gzCpy_no (show gzLcb o k = false from decide_eq_false (by omega))
      · exact gzCpy_ne z
    have fA2 : ∀ t o k, ¬ (t = 0 ∧ o = 39 ∧ k = 1) → A2 t o k = A1 t o k := fun t o k q => by rw [eA2]; exact if_neg q
    have h207 : A2 0 20 7 = Int32.ofNat l1 := by
      rw [fA2 0 20 7 (by omega), eA1]
      exact (gzCpy_at (decide_eq_true (by omega))).trans a11
    refine ⟨.ok (Int32.ofNat l1), A2, ?_, fun E q => (by cases q), fun J' => ?_⟩
    · simp only [Option.bind_some, gzEx_okq]
      rw [hcp]
      unfold f_X5_forget
      simp only [Option.bind_some]
      rw [← eA1, ← eA2, h207]
    rcases r_lawP (φ := φ) (J := J) (J' := J') (Im := A2) he (fun o k ho => (fA2 0 o k (by omega)).trans ((fA1 0 o k (by omega)).trans (a3 0 o k (by omega) (by omega)))) (by omega) with ⟨A', B, b1, -⟩ | ⟨A', B, n2, l2, b1, b2, b3, b4, b5, b6, b7, b8, b9, b10, b11, b12, b13⟩
    · have := b1.symm.trans a1
      have := congrArg (fun x => x.1) (Option.some.inj this)
      cases this
    · have eA : A' = A := by
        have := b1.symm.trans a1
        exact congrArg (fun x => x.2.1) (Option.some.inj this)
      subst eA
      have el : l2 = l1 := (gzn_inj (by omega) (by omega)).1 (b11.symm.trans a11)
      subst el
      obtain ⟨C, eC⟩ : ∃ C, C = gz_ui (gz_ui B 0 47 14 (-1)) 0 48 1213 (Int32.ofNat l2) := ⟨_, rfl⟩
      have fC : ∀ t o k, ¬ (t = 0 ∧ (o = 47 ∧ k = 14 ∨ o = 48 ∧ k = 1213)) → C t o k = B t o k := fun t o k q => by rw [eC]; exact (if_neg (by omega)).trans (if_neg (by omega))
      have C14 : C 0 47 14 = -1 := by rw [eC]; exact (if_neg (by omega)).trans gz_ui_s
      have C13 : C 0 48 1213 = Int32.ofNat l2 := by rw [eC]; exact gz_ui_s
      obtain ⟨D, d1, d2, d3, d4, d5⟩ := m_lawcp (φ := φ) (J := J') (x := Int32.ofNat l2) 849 0 φ C (by omega) (by omega)
      have hDA : ∀ t o k, o ≠ 47 → o ≠ 48 → D t o k = A2 t o k := fun t o k q r => (d5 t o k (by omega) (by omega)).trans ((fC t o k (by omega)).trans (b4 t o k (by omega) (by omega)))
      have hv : ∀ q, 1 ≤ q → q < 849 → D 0 48 (364 + q) = B 0 48 (1213 + q) := fun q q1 q2 => (d4 q (by omega) q2).trans (fC 0 48 (1213 + q) (by omega))
      refine ⟨Int32.ofNat l2, D, J', ?_, ⟨rfl, ?_⟩, rfl, gzR_nl h (fun t o k q1 q2 q3 q4 q5 q6 q7 => ?_) ⟨0, by omega, ?_, ?_, fun i hi => by omega⟩ ?_ ?_ d3 d2 ?_⟩
      · unfold f_X12_law
        rw [b2]
        simp only [Option.bind_some]
        have h0 : (0 : Int32) ≤ Int32.ofNat l2 := (gzn_le (a := 0) (by omega) (by omega)).2 (by omega)
        rw [if_pos h0, if_pos h0]
        unfold f_X12_throwsIf
        rw [if_pos rfl]
        unfold gzGz
        rw [if_pos (Or.inl rfl)]
        simp only [Option.bind_some]
        rw [if_pos (by decide), ← eC]
        exact d1
      · rw [d5 0 47 0 (by omega) (by omega), fC 0 47 0 (by omega)]; exact b8
      · have hq1 : ¬ (t = 0 ∧ o = 47 ∧ (k = 0 ∨ (9 ≤ k ∧ k ≤ 13) ∨ k = 16)) ∧ ¬ (t = 0 ∧ o = 48 ∧ 1213 ≤ k) ∧ ¬ (t = 0 ∧ ((33 ≤ o ∧ o ≤ 36) ∨ (o = 31 ∧ k = 1))) ∧ ¬ (t = 1 ∧ 20 ≤ o ∧ o < 26) := by
          unfold gzCs gzMw at q1
          omega
        rw [d5 t o k (by omega) (by omega), fC t o k (by omega), b4 t o k (by omega) (by omega), fA2 t o k q6, fA1 t o k q5, a3 t o k (by omega) (by omega)]
      · rw [hDA 0 31 1 (by omega) (by omega), fA2 0 31 1 (by omega), fA1 0 31 1 (by omega)]; exact a6
      · rw [d5 0 47 9 (by omega) (by omega), fC 0 47 9 (by omega)]; exact b7
      · rw [hDA 0 33 7 (by omega) (by omega), fA2 0 33 7 (by omega), fA1 0 33 7 (by omega), d5 0 47 14 (by omega) (by omega), C14]; exact a5
      · rw [hDA 0 39 1 (by omega) (by omega), eA2]; exact gz_ui_s
      · have hA : gzLw A' 1 (fun i => D 0 48 (364 + i)) 1 := by
          refine Or.inr ⟨rfl, l2, n2, b9, b10, b11, ?_, fun l hl => ?_⟩
          · show D 0 48 (364 + 0) = _
            rw [d4 0 (by omega) (by omega)]; exact C13
          · obtain ⟨kd, b, e, g1, g2, g3, g4, g5, g6, g7, g8, g9, g10, g11, g12⟩ := b13 l hl
            have v1 : D 0 48 (364 + (1 + 4 * l)) = B 0 48 (1214 + 4 * l) := (hv _ (by omega) (by omega)).trans (by rw [show 1213 + (1 + 4 * l) = 1214 + 4 * l by omega])
            have v2 : D 0 48 (364 + (2 + 4 * l)) = B 0 48 (1215 + 4 * l) := (hv _ (by omega) (by omega)).trans (by rw [show 1213 + (2 + 4 * l) = 1215 + 4 * l by omega])
            have v3 : D 0 48 (364 + (3 + 4 * l)) = B 0 48 (1216 + 4 * l) := (hv _ (by omega) (by omega)).trans (by rw [show 1213 + (3 + 4 * l) = 1216 + 4 * l by omega])
            have v4 : D 0 48 (364 + (4 + 4 * l)) = B 0 48 (1217 + 4 * l) := (hv _ (by omega) (by omega)).trans (by rw [show 1213 + (4 + 4 * l) = 1217 + 4 * l by omega])
            refine ⟨kd, b, e, g1, g2, g3, g4, v1.trans g5, g6.trans v2.symm, ?_, g8, v3.trans g9, g10, v4.trans g11, fun i i1 i2 => ?_, ?_⟩
            · show 0 ≤ (D 0 48 (364 + (2 + 4 * l))).toInt ∧ (D 0 48 (364 + (2 + 4 * l))).toInt ≤ 100
              rw [v2]; exact g7
            · show gzCd _ (D 0 48 (364 + (49 + 2 * i))) (D 0 48 (364 + (50 + 2 * i)))
              rw [hv _ (by omega) (by omega), hv _ (by omega) (by omega), show 1213 + (49 + 2 * i) = 1262 + 2 * i by omega, show 1213 + (50 + 2 * i) = 1263 + 2 * i by omega]
              exact b12 i (by omega)
            · rcases g12 with x | x
              · exact Or.inl x
              · refine Or.inr ?_
                rw [gzSh_cg (v := fun i => B 0 48 (1213 + i)) (e - b) b [] (fun q q1 q2 => hv (49 + 2 * q) (by omega) (by omega))]
                exact x
        have hA1 : gzLw A1 0 (fun i => D 0 48 (364 + i)) 1 := by rw [eA1]; exact gzLw_cpy (fun _ _ q => q) hA
        exact gzLw_congr (fun o k o1 o2 => (hDA 0 o k (by omega) (by omega)).trans (fA2 0 o k (by omega))) hA1
end
