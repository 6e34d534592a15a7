/-! the town's GRUDGES and lines, both sides -/
section
variable {I I' I2 X M A B Ic Im Ic' Im' Ic2 Im2 I1 A0 : gzIT} {J J' : gzJT} {φ nf ng n c N t : Nat} {bt bg en : Nat → Nat} {cd : Nat → Int32} {rc : Option (Except String Unit × gzIT × gzJT)} {rm : Option (Int32 × gzIT × gzJT)}
/-- the end of a GRUDGE's line -/
theorem r_grE {j j0 a b s x y : Nat} {age : Int32} (hk : gzTkq N c bt bg en cd) (hφ : 500 < φ) (hg : ng < 10) (h1 : gzCa c bg cd j A) (h2 : gzMa N c bt bg j B) (h3 : gzTwq A0 B nf ng) (fA : ∀ t o k, ¬ (t = 1 ∧ ((8 ≤ o ∧ o ≤ 14 ∧ k = ng) ∨ (o = 7 ∧ k = 7))) → ¬ (t = 0 ∧ o = 33 ∧ (k = 4 ∨ k = 5 ∨ k = 6)) → A t o k = A0 t o k) (c0 : A 1 7 7 = Int32.ofNat (ng + 1)) (c8 : A 1 8 ng = Int32.ofNat a) (c9 : A 1 9 ng = Int32.ofNat b) (c10 : A 1 10 ng = Int32.ofNat s) (c11 : A 1 11 ng = age) (c12 : A 1 12 ng = Int32.ofNat y) (c13 : A 1 13 ng = 0) (c14 : A 1 14 ng = 0) (ha : a < nf) (hb : b < nf) (hab : a ≠ b) (hs : s < 8) (hx : x < 100) (hy : y < 1000) (hax : age = Int32.ofNat x) (fc : gzTg Ic A0) (fm : gzTm Im B) (hj : j0 < j) : gzToq N c bt bg cd Ic Im J J' j0 (gzGc (Int32.ofNat ng) A J) (gzGw φ (Int32.ofNat ng) (Int32.ofNat a) (Int32.ofNat b) (Int32.ofNat s) (Int32.ofNat y) age B J') := by
  obtain ⟨nl, nx, hT, hx0⟩ := id h3.1
  obtain ⟨n1, n2, n3, n4, n5, n6⟩ := hT.1
  obtain ⟨w17, w18, w19, w20, w21, w22, w23, w24, w25, w26, w27, w28, -⟩ := gzWa_tab2
  obtain ⟨T, t1, t2, t3, t4, t5, t6, t7, t8, t9, t10⟩ := m_begins (a1 := Int32.ofNat a) (a2 := Int32.ofNat b) (a3 := Int32.ofNat s) (a4 := Int32.ofNat y) n6 hg
  obtain ⟨T1, eT1⟩ : ∃ T1, T1 = gz_ui T 0 48 (57 + 7 * ng) age := ⟨_, rfl⟩
  have f1 : ∀ t o k, ¬ (t = 0 ∧ o = 48 ∧ k = 57 + 7 * ng) → T1 t o k = T t o k := fun t o k q => by rw [eT1]; exact if_neg q
  have T1s : T1 0 48 (57 + 7 * ng) = age := by rw [eT1]; exact gz_ui_s
  have fT1 : ∀ t o k, ¬ (t = 0 ∧ o = 48 ∧ (k = 1 ∨ (54 + 7 * ng ≤ k ∧ k ≤ 60 + 7 * ng))) → T1 t o k = B t o k := fun t o k q => (f1 t o k (by omega)).trans (t2 t o k q)
  have hT1 : gzMa N c bt bg j T1 := gzMa_tw h2 (fun o k ho => fT1 0 o k (by omega))
  have hM : gzGw φ (Int32.ofNat ng) (Int32.ofNat a) (Int32.ofNat b) (Int32.ofNat s) (Int32.ofNat y) age B J' = Option.bind (f_X12_passes φ 28 T1 J') (fun v83 => some (1, gz_ui v83.2.1 0 48 (59 + 7 * ng) (if v83.1 = 0 then (0 : Int32) else 1), v83.2.2)) := by
    unfold gzGw
    rw [t1]
    unfold f_X12_at
    simp only [Option.bind_some]
    rw [gzc_mul, gzc_add', gzc_add, gzc_add, show 54 + 7 * ng + 3 = 57 + 7 * ng by omega, show 54 + 7 * ng + 5 = 59 + 7 * ng by omega, gzGd_in (show 57 + 7 * ng < 2062 by omega) (by omega), gzn_clamp (show 57 + 7 * ng < 2 ^ 31 by omega), gzn_clamp (show 59 + 7 * ng < 2 ^ 31 by omega), ← eT1]
    refine congrArg (Option.bind _) (funext fun v => ?_)
    exact gzGd_in (by omega) (by omega)
  rw [hM]
  -- both at the end: the class's memory C, the model's T2, NURSED or not
  have fin : ∀ (C T2 : gzIT) (j2 : Nat) (u : Int32), (u = 0 ∨ u = 1) → gzCa c bg cd j2 C → gzMa N c bt bg j2 T2 → j ≤ j2 → (∀ t o k, ¬ (t = 1 ∧ o = 13 ∧ k = ng) → ¬ (t = 0 ∧ o = 33 ∧ (k = 4 ∨ k = 5 ∨ k = 6)) → C t o k = A t o k) → C 1 13 ng = u → gzMo T1 T2 → gzToq N c bt bg cd Ic Im J J' j0 (some (.ok (), C, J)) (some (1, gz_ui T2 0 48 (59 + 7 * ng) u, J')) := by
    intro C T2 j2 u hu k1 k2 k3 k4 k5 k6
    obtain ⟨D, eD⟩ : ∃ D, D = gz_ui T2 0 48 (59 + 7 * ng) u := ⟨_, rfl⟩
    have fD : ∀ t o k, ¬ (t = 0 ∧ o = 48 ∧ k = 59 + 7 * ng) → D t o k = T2 t o k := fun t o k q => by rw [eD]; exact if_neg q
    have Ds : D 0 48 (59 + 7 * ng) = u := by rw [eD]; exact gz_ui_s
    have D1 : ∀ k, k ≠ 59 + 7 * ng → D 0 48 k = T1 0 48 k := fun k q => (fD 0 48 k (by omega)).trans (k6 0 48 k (by omega))
    have D2 : ∀ k, k ≠ 59 + 7 * ng → k ≠ 57 + 7 * ng → D 0 48 k = T 0 48 k := fun k q r => (D1 k q).trans (f1 0 48 k (by omega))
    have d57 : D 0 48 (57 + 7 * ng) = age := (D1 _ (by omega)).trans T1s
    rw [← eD]
    have hgr : gzTwq C D nf (ng + 1) := by
      refine gzTw_gr (a := a) (b := b) (s := s) h3 hg (fun o k ho q => (k4 1 o k (by omega) (by omega)).trans (fA 1 o k (by omega) (by omega))) (fun i q => (D2 i (by omega) (by omega)).trans (t2 0 48 i (by omega))) ((k4 1 7 7 (by omega) (by omega)).trans c0) ((D2 1 (by omega) (by omega)).trans t3) (fun o o1 o2 => ?_) ha hb hab hs ((D2 _ (by omega) (by omega)).trans t4) ((D2 _ (by omega) (by omega)).trans t5) ((D2 _ (by omega) (by omega)).trans t6) ?_ ?_ ?_ ?_
      · rcases (show o = 8 ∨ o = 9 ∨ o = 10 ∨ o = 11 ∨ o = 12 ∨ o = 13 ∨ o = 14 by omega) with rfl | rfl | rfl | rfl | rfl | rfl | rfl
        · exact (k4 1 8 ng (by omega) (by omega)).trans (c8.trans ((D2 (54 + 7 * ng) (by omega) (by omega)).trans t4).symm)
        · exact (k4 1 9 ng (by omega) (by omega)).trans (c9.trans ((D2 (55 + 7 * ng) (by omega) (by omega)).trans t5).symm)
        · exact (k4 1 10 ng (by omega) (by omega)).trans (c10.trans ((D2 (56 + 7 * ng) (by omega) (by omega)).trans t6).symm)
        · exact (k4 1 11 ng (by omega) (by omega)).trans (c11.trans d57.symm)
        · exact (k4 1 12 ng (by omega) (by omega)).trans (c12.trans ((D2 (58 + 7 * ng) (by omega) (by omega)).trans t8).symm)
        · exact k5.trans Ds.symm
        · exact (k4 1 14 ng (by omega) (by omega)).trans (c14.trans ((D2 (60 + 7 * ng) (by omega) (by omega)).trans t10).symm)
      · rw [d57, hax]; exact gz_nb (by omega) (by omega)
      · rw [D2 _ (by omega) (by omega), t8]; exact gz_nb (by omega) (by omega)
      · rw [Ds]; exact hu
      · rw [D2 _ (by omega) (by omega), t10]; exact Or.inl rfl
    refine Or.inr ⟨C, D, j2, nf, ng + 1, rfl, rfl, ⟨k1, gzMa_tw k2 (fun o k ho => fD 0 o k (by omega)), hgr⟩, fun t o k q r => ?_, fun t o k q r => ?_, by omega⟩
    · exact (k4 t o k (by omega) q).trans ((fA t o k (by omega) q).trans (fc t o k q r))
    · exact (fD t o k (by omega)).trans ((k6 t o k q).trans ((fT1 t o k (by omega)).trans (fm t o k q r)))
  unfold gzGc
  by_cases z : cd j = 1020
  · obtain ⟨C, p1, p2, p3, -⟩ := c_takeY (J := J) hk h1 z (by decide)
    obtain ⟨T2, q1, q2, q3, -⟩ := m_passY (φ := φ) (J := J') (a := 28) hk hT1 (by omega) (by omega) (z.trans w28.symm) hφ
    rw [p1, q1]
    simp only [Option.bind_some]
    rw [if_neg (by decide), if_neg (by decide)]
    have hC7 : C 1 7 7 = Int32.ofNat (ng + 1) := (p3 1 7 7 (by omega)).trans c0
    obtain ⟨C2, eC2⟩ : ∃ C2, C2 = gz_ui C 1 13 ng 1 := ⟨_, rfl⟩
    have hn : f_X1_makeNursed 1 (Int32.ofNat ng) C J = some ((), C2, J) := by
      unfold f_X1_makeNursed
      rw [if_neg (by rw [gzc_lt0 (by omega)]; exact id), hC7, if_neg (by rw [gzn_le (by omega) (by omega)]; omega), gzGd_in hg (by omega), gzn_clamp (by omega), eC2]
    rw [hn]
    simp only [Option.bind_some]
    have f2 : ∀ t o k, ¬ (t = 1 ∧ o = 13 ∧ k = ng) → C2 t o k = C t o k := fun t o k q => by rw [eC2]; exact if_neg q
    exact fin C2 T2 (j + 1) 1 (Or.inr rfl) (gzCa_tw p2 (fun o k ho => f2 0 o k (by omega))) q2 (by omega) (fun t o k q r => (f2 t o k q).trans (p3 t o k r)) (by rw [eC2]; exact gz_ui_s) q3
  · obtain ⟨T2, q1, q2, q3, -⟩ := m_passN (φ := φ) (J := J') (a := 28) hk hT1 (by omega) (by omega) (by rw [w28]; exact z) hφ
    rw [c_takeN h1 z, q1]
    simp only [Option.bind_some]
    rw [if_pos (by decide), if_pos (by decide)]
    exact fin A T2 j 0 (Or.inl rfl) h1 q2 (by omega) (fun t o k q r => rfl) c13 q3
/-- a GRUDGE's line -/
theorem r_gru {j : Nat} (hk : gzTkq N c bt bg en cd) (hφ : 500 < φ) (hy : gzTyq N c bt bg cd Ic Im j nf ng) (hc : cd j = 1012) (hI1 : gzMo Im I1) (h12 : I1 0 47 12 = Int32.ofNat (bg j)) (hB1 : gzMa N c bt bg (j + 1) I1) : gzToq N c bt bg cd Ic Im J J' j (f_X9_readGrudge 1 Ic J) (f_X12_readGrudge φ I1 J') := by
  obtain ⟨w17, w18, w19, w20, w21, w22, w23, w24, w25, w26, w27, w28, -⟩ := gzWa_tab2
  obtain ⟨y1, y2, y3⟩ := hy
  obtain ⟨nl, nx, hT, hx⟩ := id y3.1
  obtain ⟨n1, n2, n3, n4, n5, n6⟩ := hT.1
  have m1 : I1 0 48 1 = Int32.ofNat ng := (hI1 0 48 1 (by omega)).trans n6
  have m0 : I1 0 48 0 = Int32.ofNat nf := (hI1 0 48 0 (by omega)).trans n4
  have hnm : ∀ v, v < 1000 → (Int32.ofNat v ≤ Int32.ofNat nf - 1 ↔ v < nf) := fun v hv => gz_nm1 (by omega) hv
  have hy1 : (Int32.ofNat nf - 1) + 1 = Int32.ofNat nf := by simp
  unfold f_X9_readGrudge f_X12_readGrudge f_X12_families f_X12_grudges
  rw [n5, m1]
  simp only [Option.bind_some]
  by_cases z : ng = 10
  · rw [if_neg (by rw [gzc_lt2 (by omega) (by omega)]; omega), if_neg (fun y => y (by rw [z]; rfl)), c_wrong y1]
    exact Or.inl ⟨_, I1, rfl, rfl, gzFq_wg hI1 h12⟩
  · rw [if_pos (by rw [gzc_lt2 (by omega) (by omega)]; omega), if_pos (show ¬ Int32.ofNat ng = 10 by rw [gzc_eq2 (by omega) (by omega)]; exact z)]
    unfold f_X9_readGrudge_19
    obtain ⟨A1, a1, a2, a3, -⟩ := c_needY (J := J) hk y1 hc (by decide)
    rw [a1, m0]
    simp only [Option.bind_some, gzEx_okq]
    rw [(a3 1 1 5 (by omega)).trans n3]
    rcases r_num (φ := φ) (J := J) (J' := J') (y := Int32.ofNat nf - 1) (hi := Int32.ofNat nf - 1) (n := nf) hk hφ a2 hB1 (by omega) hy1 hnm with ⟨A, B, b1, b2, b3⟩ | ⟨A2, B2, a, la, -, b1, b2, b3, b4, b5, b6⟩
    · rw [b1, b2]
      refine Or.inl ⟨A, B, rfl, ?_, gzFq_step (gzTg_fk a3) (gzTm_mo hI1) b3⟩
      simp only [Option.bind_some]
      rw [if_neg (by decide), if_pos (by decide)]
    · rw [b1, b2]
      simp only [Option.bind_some, gzEx_okq]
      rw [if_pos (gz_ge0 (by omega))]
      have d3 := gzFk_trans a3 b5
      have e3 := gzMo_trans hI1 b6
      have mB2 : B2 0 48 0 = Int32.ofNat nf := (b6 0 48 0 (by omega)).trans m0
      rw [mB2, c_is b3]
      simp only [Option.bind_some]
      by_cases zs : cd (j + 1 + 1) = Int32.ofNat a
      · obtain ⟨B3, g1, g2, g3, g4⟩ := m_numY (φ := φ) (J := J') (hi := Int32.ofNat nf - 1) (v := a) hk b4 (by omega) zs ((hnm a (by omega)).2 la) hφ
        rw [if_pos zs, if_neg (by decide), c_wrong b3, g1]
        refine Or.inl ⟨_, B3, rfl, ?_, gzFq_step (gzTg_fk d3) (gzTm_mo e3) (gzFq_wg g3 g4)⟩
        simp only [Option.bind_some]
        rw [if_neg (by rw [gzc_lt0 (by omega)]; exact id), if_neg (by decide)]
      · rw [if_neg zs, if_pos (by decide)]
        unfold f_X9_readGrudge_64
        rw [(d3 1 1 5 (by omega)).trans n3]
        rcases r_num (φ := φ) (J := J) (J' := J') (y := Int32.ofNat nf - 1) (hi := Int32.ofNat nf - 1) (n := nf) hk hφ b3 b4 (by omega) hy1 hnm with ⟨A, B, g1, g2, g3⟩ | ⟨A3, B3, b, lb, hcb, g1, g2, g3, g4, g5, g6⟩
        · rw [g1, g2]
          refine Or.inl ⟨A, B, rfl, ?_, gzFq_step (gzTg_fk d3) (gzTm_mo e3) g3⟩
          simp only [Option.bind_some]
          rw [if_pos (by decide)]
        · have hab : a ≠ b := fun q => zs (by rw [q]; exact hcb)
          rw [g1, g2]
          simp only [Option.bind_some, gzEx_okq]
          rw [if_neg (by rw [gzc_lt0 (by omega)]; exact id), if_pos (show ¬ Int32.ofNat b = Int32.ofNat a by rw [gzn_inj (by omega) (by omega)]; exact fun q => hab q.symm)]
          have d4 := gzFk_trans d3 g5
          have e4 := gzMo_trans e3 g6
          obtain ⟨B4, h1, h2, -, h4⟩ := r_word (φ := φ) (J := J) (J' := J') (a := 25) (x := 1034) hk hφ g3 g4 (by omega) (by omega) w25 (by decide)
          rw [h1]
          simp only [Option.bind_some]
          rcases h4 with ⟨h4, h5, h6⟩ | ⟨A4, h4, h5, h6, h7, h8⟩
          · rw [h4, h5]
            refine Or.inl ⟨_, B4, rfl, ?_, gzFq_step (gzTg_fk d4) (gzTm_mo e4) h6⟩
            simp only [Option.bind_some]
            rw [if_pos (by decide), if_neg (by decide), if_neg (by decide)]
          · rw [h4, h5]
            simp only [Option.bind_some, gzEx_okq]
            rw [if_neg (by decide)]
            have d5 := gzFk_trans d4 h8
            have e5 := gzMo_trans e4 h2
            rcases r_letter (φ := φ) (J := J) (J' := J') hk hφ h6 h7 with ⟨A, B, k1, k2, k3⟩ | ⟨A5, B5, s, s1, k1, k2, k3, k4, k5, k6⟩
            · rw [k1, k2]
              refine Or.inl ⟨A, B, rfl, ?_, gzFq_step (gzTg_fk d5) (gzTm_mo e5) k3⟩
              simp only [Option.bind_some]
              rw [if_neg (by decide), if_neg (by decide)]
            · rw [k1, k2]
              simp only [Option.bind_some, gzEx_okq]
              rw [if_pos (gz_ge0 (by omega))]
              have d6 := gzFk_trans d5 k5
              have e6 := gzMo_trans e5 k6
              rcases r_after (φ := φ) (J := J) (J' := J') (a := 26) (x := 1014) (y := 999) (hi := 999) (n := 1000) hk hφ k3 k4 (by omega) (by omega) w26 (by decide) (by omega) rfl (fun v hv => by rw [gzc_le2 (by omega) (by omega)]; omega) with ⟨A, B, c1, c2, c3⟩ | ⟨A0, A, B, c1, c2, c3, c4⟩ | ⟨A0, A6, B6, y, ly, c1, c2, c3, c4, c5, c6, c7⟩
              · rw [c1, c2]
                refine Or.inl ⟨A, B, rfl, ?_, gzFq_step (gzTg_fk d6) (gzTm_mo e6) c3⟩
                simp only [Option.bind_some]
                rw [if_neg (by decide)]
              · rw [c1]
                simp only [Option.bind_some, gzEx_okq]
                rw [c2, c3]
                refine Or.inl ⟨A, B, rfl, ?_, gzFq_step (gzTg_fk d6) (gzTm_mo e6) c4⟩
                simp only [Option.bind_some]
                rw [if_neg (by decide)]
              · rw [c1]
                simp only [Option.bind_some, gzEx_okq]
                rw [c2, c3]
                simp only [Option.bind_some, gzEx_okq]
                rw [if_pos (gz_ge0 (by omega))]
                have d7 := gzFk_trans d6 c6
                have e7 := gzMo_trans e6 c7
                obtain ⟨C, p1, p2, p3, p4, p5, p6, p7, p8, p9, p10⟩ := c_add (I := A6) (J := J) (t := 1) (a1 := Int32.ofNat a) (a2 := Int32.ofNat b) (a3 := Int32.ofNat s) (a4 := Int32.ofNat y) ((d7 1 7 7 (by omega)).trans n5) (show ng < 10 by omega)
                rw [p1]
                simp only [Option.bind_some]
                have hC : gzCa c bg cd (j + 1 + 1 + 1 + 1 + 1 + 2) C := gzCa_tw c4 (fun o k ho => p2 0 o k (by omega))
                have hB7 : gzTwq A6 B6 nf ng := gzTw_st y3 d7 e7
                by_cases za : cd (j + 1 + 1 + 1 + 1 + 1 + 2) = 1013
                · obtain ⟨A7, f1, f2, f3, -⟩ := c_takeY (J := J) hk hC za (by decide)
                  obtain ⟨B7, q1, q2, q3, -⟩ := m_passY (φ := φ) (J := J') (a := 27) hk c5 (by omega) (by omega) (za.trans w27.symm) hφ
                  rw [f1, q1]
                  simp only [Option.bind_some]
                  rw [if_neg (by decide), if_neg (by decide)]
                  have e8 := gzMo_trans e7 q3
                  have gC : gzTg Ic A7 := fun t o k q r => (f3 t o k q).trans ((p2 t o k (by omega)).trans (d7 t o k q))
                  rcases r_num (φ := φ) (J := J) (J' := J') (y := 99) (hi := 99) (n := 100) hk hφ f2 q2 (by omega) rfl (fun v hv => by rw [gzc_le2 (by omega) (by omega)]; omega) with ⟨A, B, r1, r2, r3⟩ | ⟨A8, B8, x, lx, -, r1, r2, r3, r4, r5, r6⟩
                  · rw [r1, r2]
                    refine Or.inl ⟨A, B, rfl, ?_, gzFq_step gC (gzTm_mo e8) r3⟩
                    simp only [Option.bind_some]
                    rw [if_neg (by decide)]
                  · rw [r1, r2]
                    simp only [Option.bind_some, gzEx_okq]
                    rw [if_pos (gz_ge0 (by omega)), gzc_write (show ng < 10 by omega) (by omega)]
                    simp only [Option.bind_some]
                    obtain ⟨A9, e9⟩ : ∃ A9, A9 = gz_ui A8 1 11 ng (Int32.ofNat x) := ⟨_, rfl⟩
                    rw [← e9]
                    have f9 : ∀ t o k, ¬ (t = 1 ∧ o = 11 ∧ k = ng) → A9 t o k = A8 t o k := fun t o k q => by rw [e9]; exact if_neg q
                    have f9s : A9 1 11 ng = Int32.ofNat x := by rw [e9]; exact gz_ui_s
                    have fr : ∀ t o k, ¬ (t = 1 ∧ o = 11 ∧ k = ng) → ¬ (t = 0 ∧ o = 33 ∧ (k = 4 ∨ k = 5 ∨ k = 6)) → A9 t o k = C t o k := fun t o k q r => (f9 t o k q).trans ((r5 t o k r).trans (f3 t o k r))
                    have e10 := gzMo_trans e8 r6
                    exact r_grE (A0 := A6) (A := A9) (B := B8) (x := x) hk hφ (by omega) (gzCa_tw r3 (fun o k ho => f9 0 o k (by omega))) r4 (gzTw_st hB7 gzFk_refl (gzMo_trans q3 r6)) (fun t o k q r => (fr t o k (by omega) r).trans (p2 t o k q)) ((fr 1 7 7 (by omega) (by omega)).trans p3) ((fr 1 8 ng (by omega) (by omega)).trans p4) ((fr 1 9 ng (by omega) (by omega)).trans p5) ((fr 1 10 ng (by omega) (by omega)).trans p6) f9s ((fr 1 12 ng (by omega) (by omega)).trans p8) ((fr 1 13 ng (by omega) (by omega)).trans p9) ((fr 1 14 ng (by omega) (by omega)).trans p10) la lb hab s1 lx ly rfl (gzTg_fk d7) (gzTm_mo e10) (by omega)
                · obtain ⟨B7, q1, q2, q3, -⟩ := m_passN (φ := φ) (J := J') (a := 27) hk c5 (by omega) (by omega) (by rw [w27]; exact za) hφ
                  rw [c_takeN hC za, q1]
                  simp only [Option.bind_some]
                  rw [if_pos (by decide), if_pos (by decide), if_pos (show (0 : Int32) ≤ 0 by decide)]
                  exact r_grE (A0 := A6) (A := C) (B := B7) (x := 0) hk hφ (by omega) hC q2 (gzTw_st hB7 gzFk_refl q3) (fun t o k q r => p2 t o k q) p3 p4 p5 p6 p7 p8 p9 p10 la lb hab s1 (by omega) ly rfl (gzTg_fk d7) (gzTm_mo (gzMo_trans e7 q3)) (by omega)
/-- a line of the town -/
theorem r_tline {j : Nat} (hk : gzTkq N c bt bg en cd) (hφ : 500 < φ) (hy : gzTyq N c bt bg cd Ic Im j nf ng) (hI1 : gzMo Im I1) (h10 : I1 0 47 10 = Int32.ofNat (gzLe c bt bg en j)) (h12 : I1 0 47 12 = Int32.ofNat (bg j)) : gzToq N c bt bg cd Ic Im J J' j (f_X9_readLine 1 Ic J) (f_X12_readTownLine φ I1 J') := by
  obtain ⟨w17, w18, w19, w20, w21, w22, w23, w24, w25, w26, w27, w28, w29, w30, w31, w32, w33, w34, w35, w36, w37⟩ := gzWa_tab2
  obtain ⟨y1, y2, y3⟩ := id hy
  have hx := gzMx_mo y2.2.1 hI1
  have g : ∀ a, 17 ≤ a → a < 47 → f_X12_isWord φ a I1 = some (if cd j = gzWa a then 1 else 0) := fun a h1 h2 => m_word hk hx h10 h12 y1.1 h1 h2 hφ
  have at1 : ∀ a, 17 ≤ a → a < 47 → cd j = gzWa a → gzMa N c bt bg (j + 1) I1 := fun a h1 h2 h3 => m_at hk y1.1 hx h10 h1 h2 h3
  have tk : ∀ a x, 17 ≤ a → a < 47 → gzWa a = x → cd j = x → x ≠ -3 → ∃ A, f_X7_take x Ic J = some (1, A, J) ∧ gzTyq N c bt bg cd A I1 (j + 1) nf ng ∧ gzTg Ic A := fun a x h1 h2 h3 h4 h5 => by
    obtain ⟨A, p1, p2, p3, -⟩ := c_takeY (J := J) hk y1 h4 h5
    exact ⟨A, p1, ⟨p2, at1 a h1 h2 (h4.trans h3.symm), gzTw_st y3 p3 hI1⟩, gzTg_fk p3⟩
  have gm := gzTm_mo hI1
  unfold f_X9_readLine f_X12_readTownLine
  rw [c_is y1, g 17 (by omega) (by omega), g 21 (by omega) (by omega), g 24 (by omega) (by omega), g 29 (by omega) (by omega), g 34 (by omega) (by omega), g 35 (by omega) (by omega), g 36 (by omega) (by omega), g 37 (by omega) (by omega), w17, w21, w24, w29, w34, w35, w36, w37]
  simp only [Option.bind_some]
  by_cases h17 : cd j = 1030
  · rw [if_neg (show ¬ (if cd j = 1030 then (1 : Int32) else 0) = 0 by rw [if_pos h17]; decide), if_neg (show ¬ (if cd j = 1030 then (1 : Int32) else 0) = 0 by rw [if_pos h17]; decide)]
    exact gzTo_wrap (r_fam hk hφ hy h17 hI1 h12 (at1 17 (by omega) (by omega) (h17.trans w17.symm)))
  rw [if_pos (if_neg h17), if_pos (if_neg h17)]
  by_cases h21 : cd j = 1033
  · obtain ⟨A, p1, p2, p3⟩ := tk 21 1033 (by omega) (by omega) w21 h21 (by decide)
    rw [p1]
    simp only [Option.bind_some]
    rw [if_neg (by decide), if_neg (show ¬ (if cd j = 1033 then (1 : Int32) else 0) = 0 by rw [if_pos h21]; decide)]
    exact gzTo_wrap (gzTo_step (r_sli hk hφ p2) p3 gm (by omega))
  rw [c_takeN y1 h21]
  simp only [Option.bind_some]
  rw [if_pos (by decide), if_pos (if_neg h21)]
  rw [c_is y1]
  simp only [Option.bind_some]
  by_cases h24 : cd j = 1012
  · rw [if_neg (show ¬ (if cd j = 1012 then (1 : Int32) else 0) = 0 by rw [if_pos h24]; decide), if_neg (show ¬ (if cd j = 1012 then (1 : Int32) else 0) = 0 by rw [if_pos h24]; decide)]
    exact gzTo_wrap (r_gru hk hφ hy h24 hI1 h12 (at1 24 (by omega) (by omega) (h24.trans w24.symm)))
  rw [if_pos (if_neg h24), if_pos (if_neg h24)]
  by_cases h29 : cd j = 1018
  · obtain ⟨A, p1, p2, p3⟩ := tk 29 1018 (by omega) (by omega) w29 h29 (by decide)
    rw [p1]
    simp only [Option.bind_some]
    rw [if_neg (by decide), if_neg (show ¬ (if cd j = 1018 then (1 : Int32) else 0) = 0 by rw [if_pos h29]; decide)]
    exact gzTo_step (r_hea hk hφ p2) p3 gm (by omega)
  rw [c_takeN y1 h29]
  simp only [Option.bind_some]
  rw [if_pos (by decide), if_pos (if_neg h29)]
  by_cases h34 : cd j = 1035
  · obtain ⟨A, p1, p2, p3⟩ := tk 34 1035 (by omega) (by omega) w34 h34 (by decide)
    rw [p1]
    simp only [Option.bind_some]
    rw [if_neg (by decide), if_neg (show ¬ (if cd j = 1035 then (1 : Int32) else 0) = 0 by rw [if_pos h34]; decide)]
    exact gzTo_step (r_oneN (k := 8) (i := 5) (n := 1000) hk hφ p2 (by omega) rfl (fun v hv => by rw [gzc_le2 (by omega) (by omega)]; omega) rfl (by omega)) p3 gm (by omega)
  rw [c_takeN y1 h34]
  simp only [Option.bind_some]
  rw [if_pos (by decide), if_pos (if_neg h34)]
  by_cases h35 : cd j = 1036
  · obtain ⟨A, p1, p2, p3⟩ := tk 35 1036 (by omega) (by omega) w35 h35 (by decide)
    rw [p1]
    simp only [Option.bind_some]
    rw [if_neg (by decide), if_neg (show ¬ (if cd j = 1036 then (1 : Int32) else 0) = 0 by rw [if_pos h35]; decide)]
    exact gzTo_step (r_oneN (k := 10) (i := 7) (n := 101) hk hφ p2 (by omega) rfl (fun v hv => by rw [gzc_le2 (by omega) (by omega)]; omega) rfl (by omega)) p3 gm (by omega)
  rw [c_takeN y1 h35]
  simp only [Option.bind_some]
  rw [if_pos (by decide), if_pos (if_neg h35)]
  by_cases h36 : cd j = 1037
  · obtain ⟨A, p1, p2, p3⟩ := tk 36 1037 (by omega) (by omega) w36 h36 (by decide)
    rw [p1]
    simp only [Option.bind_some]
    rw [if_neg (by decide), if_neg (show ¬ (if cd j = 1037 then (1 : Int32) else 0) = 0 by rw [if_pos h36]; decide)]
    exact gzTo_step (r_oneN (k := 7) (i := 4) (n := 1000) hk hφ p2 (by omega) rfl (fun v hv => by rw [gzc_le2 (by omega) (by omega)]; omega) rfl (by omega)) p3 gm (by omega)
  rw [c_takeN y1 h36]
  simp only [Option.bind_some]
  rw [if_pos (by decide), if_pos (if_neg h36)]
  by_cases h37 : cd j = 1022
  · obtain ⟨A, p1, p2, p3, -⟩ := c_needY (J := J) hk y1 h37 (by decide)
    rw [p1]
    simp only [Option.bind_some, gzEx_okq]
    rw [if_pos (show ¬ (if cd j = 1022 then (1 : Int32) else 0) = 0 by rw [if_pos h37]; decide)]
    have t1 := gzTw_one (o := 0) (k := 9) (i := 6) (x := 1) (gzTw_st y3 p3 hI1) (by omega) (gz_bd6 (Or.inr rfl)) (fun _ _ => Or.inr rfl)
    refine Or.inr ⟨gz_ui A 1 0 9 1, gz_ui I1 0 48 6 1, j + 1, nf, ng, rfl, rfl, ⟨gzCa_tw p2 (fun o k ho => if_neg (by omega)), gzMa_tw (at1 37 (by omega) (by omega) (h37.trans w37.symm)) (fun o k ho => if_neg (by omega)), t1⟩, fun t o k q r => ?_, fun t o k q r => ?_, by omega⟩
    · exact (if_neg (by omega)).trans (p3 t o k q)
    · exact (if_neg (by omega)).trans (hI1 t o k q)
  · rw [c_needN y1 h37, if_neg (fun q => q (if_neg h37))]
    exact Or.inl ⟨_, I1, rfl, rfl, gzFq_wg hI1 h12⟩
end
