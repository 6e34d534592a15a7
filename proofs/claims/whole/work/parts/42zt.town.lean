/-! the town read: both sides to the end; town -/
/-- the class's reading of a town, to the spare one -/
def gzTc (φ : Nat) (I : gzIT) (J : gzJT) : Option (Except String Unit × gzIT × gzJT) := Option.bind (f_X7_read φ I J) (fun v2 => Option.bind (f_X8_copyFrom φ 1 0 v2.2.1 v2.2.2) (fun v4 => f_X9_read φ 1 v4.2.1 v4.2.2))
/-- the model's town behind its copy of the world -/
def gzTk1 (φ : Nat) (I : gzIT) (J : gzJT) : Option (Int32 × gzIT × gzJT) := Option.bind (f_X12_readAll φ 1 I J) (fun v2 => if 0 ≤ v2.1 then (Option.bind (f_X12_throwsIf (if 0 ≤ v2.1 then (0 : Int32) else 1) 1 (gz_ui v2.2.1 0 47 14 (-1)) v2.2.2) (fun v5 => if ¬ v5.1 = 0 then (f_X12_town_92 φ φ 0 v5.2.1 v5.2.2) else (Option.bind (f_X12_throwsIf (if ¬ v5.2.1 0 48 2 = 12 then (0 : Int32) else 1) 2 v5.2.1 v5.2.2) (fun v8 => if v8.1 = 0 then (some (((v8.2.1 0 48 2) + 1), gz_ui (gz_ui v8.2.1 0 48 2 ((v8.2.1 0 48 2) + 1)) 0 47 7 0, v8.2.2)) else (f_X12_town_92 φ φ 0 v8.2.1 v8.2.2))))) else (Option.bind (f_X12_throwsIf (if 0 ≤ v2.1 then (0 : Int32) else 1) 1 (gz_ui v2.2.1 0 47 14 (v2.2.1 0 47 12)) v2.2.2) (fun v11 => if ¬ v11.1 = 0 then (f_X12_town_92 φ φ 0 v11.2.1 v11.2.2) else (Option.bind (f_X12_throwsIf (if ¬ v11.2.1 0 48 2 = 12 then (0 : Int32) else 1) 2 v11.2.1 v11.2.2) (fun v14 => if v14.1 = 0 then (some (((v14.2.1 0 48 2) + 1), gz_ui (gz_ui v14.2.1 0 48 2 ((v14.2.1 0 48 2) + 1)) 0 47 7 0, v14.2.2)) else (f_X12_town_92 φ φ 0 v14.2.1 v14.2.2))))))
def gzF2 (I I' : gzIT) : Prop := ∀ t o k, ¬ (t = 0 ∧ ((33 ≤ o ∧ o ≤ 36) ∨ (o = 31 ∧ k = 1))) → ¬ (t = 1 ∧ o < 20) → I' t o k = I t o k
def gzM2 (I I' : gzIT) : Prop := ∀ t o k, ¬ (t = 0 ∧ o = 47 ∧ (k = 0 ∨ (9 ≤ k ∧ k ≤ 13) ∨ k = 16)) → ¬ (t = 0 ∧ o = 48 ∧ k < 124 ∧ k ≠ 2 ∧ k ≠ 3 ∧ k ≠ 8) → I' t o k = I t o k
section
variable {I I' I2 X M A B Ic Im Ic' Im' Ic2 Im2 I1 A0 : gzIT} {J J' : gzJT} {φ nf ng nl nx n c N t : Nat} {bt bg en : Nat → Nat} {cd : Nat → Int32}
theorem r_townL (hk : gzTkq N c bt bg en cd) (hφ : 500 < φ) : ∀ (m l kc km j nf ng : Nat) (Ic Im : gzIT), l + m = 14 → m < kc → m < km → gzTyq N c bt bg cd Ic Im j nf ng →
    (∃ A B, f_X9_read_15 φ 1 kc (Int32.ofNat l) Ic J = some (.error "java/lang/IllegalArgumentException", A, J) ∧ f_X12_readAll_28 φ km 1 (Int32.ofNat l) Im J' = some (-1, B, J') ∧ gzFq Ic Im A B) ∨
    (∃ A B nf' ng' l', f_X9_read_15 φ 1 kc (Int32.ofNat l) Ic J = some (.ok (), A, J) ∧ f_X12_readAll_28 φ km 1 (Int32.ofNat l) Im J' = some (Int32.ofNat l', B, J') ∧ l' ≤ 14 ∧ gzTwq A B nf' ng' ∧ gzTg Ic A ∧ gzTm Im B) := by
  intro m
  induction m with
  | zero =>
    intro l kc km j nf ng Ic Im hl hkc hkm hy
    obtain ⟨kc, rfl⟩ : ∃ q, kc = q + 1 := ⟨kc - 1, by omega⟩
    obtain ⟨km, rfl⟩ : ∃ q, km = q + 1 := ⟨km - 1, by omega⟩
    obtain ⟨I1, a1, a2, a3, a4⟩ := m_letters (J := J') hk hy.2.1.2.1 hy.2.1.2.2 hy.2.1.1 hφ
    refine Or.inl ⟨gzWg bg j Ic, I1, ?_, ?_, gzFq_wg a2 a4⟩
    · rw [f_X9_read_15, if_pos (by rw [gzc_le1 (by omega) (by omega)]; omega), c_wrong hy.1]
      rfl
    · rw [f_X12_readAll_28]
      unfold f_X12_readLine
      rw [a1]
      simp only [Option.bind_some]
      rw [if_pos (by rw [if_neg (by decide), gzc_le1 (by omega) (by omega)]; omega)]
      simp only [Option.bind_some]
      rw [if_neg (by decide)]
  | succ m ih =>
    intro l kc km j nf ng Ic Im hl hkc hkm hy
    have hcN := hk.1
    have hN := hk.2.1
    obtain ⟨kc, rfl⟩ : ∃ q, kc = q + 1 := ⟨kc - 1, by omega⟩
    obtain ⟨km, rfl⟩ : ∃ q, km = q + 1 := ⟨km - 1, by omega⟩
    obtain ⟨I1, a1, a2, a3, a4⟩ := m_letters (J := J') hk hy.2.1.2.1 hy.2.1.2.2 hy.2.1.1 hφ
    have hline := r_tline (φ := φ) (J := J) (J' := J') hk hφ hy a2 a3 a4
    have hM : f_X12_readAll_28 φ (km + 1) 1 (Int32.ofNat l) Im J' = Option.bind (f_X12_readTownLine φ I1 J') (fun v6 => if ¬ v6.1 = 0 then (Option.bind (f_X12_blanks φ v6.2.1 v6.2.2) (fun v8 => if ¬ v8.2.1 0 47 10 = v8.2.1 0 47 11 then (Option.bind (f_X12_isAt v8.2.1 59 59) (fun v10 => if ¬ v10 = 0 then (f_X12_readAll_28 φ km 1 (Int32.ofNat l + 1) (gz_ui v8.2.1 0 47 10 ((v8.2.1 0 47 10) + 1)) v8.2.2) else (some ((-1), v8.2.1, v8.2.2)))) else (some ((Int32.ofNat l + 1), v8.2.1, v8.2.2)))) else (some ((-1), v6.2.1, v6.2.2))) := by
      rw [f_X12_readAll_28]
      unfold f_X12_readLine
      rw [a1]
      simp only [Option.bind_some]
      rw [if_neg (by rw [if_neg (by decide), gzc_le1 (by omega) (by omega)]; omega), if_neg (by decide)]
      cases f_X12_readTownLine φ I1 J' with
      | none => rfl
      | some v =>
        simp only [Option.bind_some]
        by_cases z : v.1 = 0
        · rw [if_pos z, if_neg (fun y => y z)]
          simp only [Option.bind_some]
          rw [if_neg (by decide)]
        · rw [if_neg z, if_pos z]
          simp only [Option.bind_some]
          rw [if_pos (by decide)]
    rw [hM, f_X9_read_15, if_neg (by rw [gzc_le1 (by omega) (by omega)]; omega)]
    rcases hline with ⟨A, B, e1, e2, e3⟩ | ⟨A, B, j', nf', ng', e1, e2, e3, e4, e5, e6⟩
    · rw [e1, e2]
      refine Or.inl ⟨A, B, rfl, ?_, e3⟩
      simp only [Option.bind_some]
      rw [if_neg (by decide)]
    · rw [e1, e2]
      simp only [Option.bind_some]
      rw [if_pos (by decide)]
      obtain ⟨y1, y2, y3⟩ := e3
      have hj' := y1.1
      obtain ⟨g1, g2⟩ := gz_end hk y1.1
      obtain ⟨B1, b1, b2, b3, b4, b5⟩ := m_sign0 (φ := φ) (J := J') (s := 59) hk y2 (by decide) (by omega) hφ
      have b5' : f_X12_isAt B1 59 59 = some (if cd j' = gzSg 59 then 1 else 0) := b5
      have h11 : B1 0 47 11 = Int32.ofNat N := (b2 0 47 11 (by omega)).trans y2.2.1.1
      rw [b1]
      simp only [Option.bind_some]
      simp only [gzEx_okq]
      rw [c_is y1]
      simp only [Option.bind_some]
      have hb := (gzTk_bg hk y1.1).1
      by_cases hjc : j' = c
      · rw [if_pos (g1.2 hjc), if_neg (by decide), if_neg (fun y => y (by rw [b3, h11, g2.2 hjc]))]
        exact Or.inr ⟨A, B1, nf', ng', l + 1, rfl, by rw [gzn_succ], by omega, gzTw_st y3 gzFk_refl b2, e4, gzTm_trans e5 (gzTm_mo b2)⟩
      · rw [if_neg (fun y => hjc (g1.1 y)), if_pos (by decide), if_pos (show ¬ B1 0 47 10 = B1 0 47 11 by rw [b3, h11, gzn_inj (by omega) (by omega)]; exact fun y => hjc (g2.1 y)), b5']
        simp only [Option.bind_some]
        by_cases hs : cd j' = gzSg 59
        · obtain ⟨A2, c1, c2, c3, c4⟩ := c_needY (J := J) hk y1 (show cd j' = 2059 from hs) (by decide)
          rw [c1, if_pos hs]
          simp only [Option.bind_some]
          rw [if_pos (by decide), gzn_succ, b3, gzn_succ]
          obtain ⟨s1, s2⟩ := (gzSg_iff (s := 59) hk y1.1 (by decide) (by omega)).1 hs
          have hen : en j' = bg j' + 1 := (hk.2.2.2.2.2.2 j' c4).2.2.2.2.1 (by rw [s2]; decide)
          obtain ⟨B2, eB2⟩ : ∃ B2, B2 = gz_ui B1 0 47 10 (Int32.ofNat (bg j' + 1)) := ⟨_, rfl⟩
          have f2 : gzMo B1 B2 := fun t o k q => by rw [eB2]; exact if_neg (by omega)
          have f3 : gzMo B B2 := gzMo_trans b2 f2
          rw [← eB2]
          have hy2 : gzTyq N c bt bg cd A2 B2 (j' + 1) nf' ng' := ⟨c2, ⟨c4, gzMx_mo y2.2.1 f3, gzMp_next hk c4 (by rw [eB2, hen]; exact gz_ui_s)⟩, gzTw_st y3 c3 f3⟩
          rcases ih (l + 1) kc km (j' + 1) nf' ng' A2 B2 (by omega) (by omega) (by omega) hy2 with ⟨A3, B3, i1, i2, i3⟩ | ⟨A3, B3, nf3, ng3, l3, i1, i2, i3, i4, i5, i6⟩
          · exact Or.inl ⟨A3, B3, i1, i2, gzFq_step (gzTg_trans e4 (gzTg_fk c3)) (gzTm_trans e5 (gzTm_mo f3)) i3⟩
          · exact Or.inr ⟨A3, B3, nf3, ng3, l3, i1, i2, i3, i4, gzTg_trans (gzTg_trans e4 (gzTg_fk c3)) i5, gzTm_trans (gzTm_trans e5 (gzTm_mo f3)) i6⟩
        · rw [c_needN y1 (show cd j' ≠ 2059 from hs), if_neg hs]
          simp only [Option.bind_some]
          rw [if_neg (by decide)]
          exact Or.inl ⟨gzWg bg j' A, B1, rfl, rfl, gzFq_step e4 e5 (gzFq_wg b2 b4)⟩
theorem r_townP (he : gzRe I I) (hT : gzTn I 0 (I 0 48) nf ng nl nx) (hx : gzWx (I 0 48) nf ng nl) (hb : (∀ k, k < 10 → (I 0 13 k = 0 ∨ I 0 13 k = 1) ∧ (I 0 14 k = 0 ∨ I 0 14 k = 1)) ∧ (I 0 0 9 = 0 ∨ I 0 0 9 = 1)) (hm : ∀ o k, 47 ≤ o → o ≠ 50 → Im 0 o k = I 0 o k) (hφ : 500 < φ) :
    (∃ A B, gzTc φ I J = some (.error "java/lang/IllegalArgumentException", A, J) ∧ f_X12_readAll φ 1 Im J' = some (-1, B, J') ∧ gzF2 I A ∧ gzM2 Im B ∧ A 0 33 7 = B 0 47 12 ∧ A 0 31 1 = 0 ∧ B 0 47 9 = 0 ∧ B 0 47 0 = 0) ∨
    (∃ A B nf' ng' l', gzTc φ I J = some (.ok (), A, J) ∧ f_X12_readAll φ 1 Im J' = some (Int32.ofNat l', B, J') ∧ gzF2 I A ∧ gzM2 Im B ∧ A 0 33 7 = -1 ∧ A 0 31 1 = 0 ∧ B 0 47 9 = 0 ∧ B 0 47 0 = 0 ∧ l' ≤ 14 ∧ gzTwq A B nf' ng') := by
  obtain ⟨N, hN, h31, h9, hby⟩ := he
  have hbt : ∃ bt : Nat → Nat, ∀ q, q < N → bt q < 256 ∧ I 0 32 q = Int32.ofNat (bt q) ∧ (bt q < 128 → I 0 53 q = Int32.ofNat (bt q)) ∧ (128 ≤ bt q → (I 0 53 q).toInt < 0) := by
    refine ⟨fun q => (I 0 53 q).toInt8.toBitVec.toNat, fun q hq => ?_⟩
    obtain ⟨x1, x2⟩ := hby q hq
    have hk : (I 0 53 q).toInt8.toBitVec.toNat < 256 := (I 0 53 q).toInt8.toBitVec.isLt
    have he : Int8.ofNat (I 0 53 q).toInt8.toBitVec.toNat = (I 0 53 q).toInt8 := by
      apply Int8.toBitVec_inj.1
      show BitVec.ofNat 8 _ = _
      rw [BitVec.ofNat_toNat]
      simp
    have := gz_by _ hk
    rw [he, x2] at this
    exact ⟨hk, x1.trans this.1, this.2⟩
  obtain ⟨bt, hbt⟩ := hbt
  obtain ⟨c, bg, en, cd, I1, r1, hk, r3, r4, r5, r6, r7⟩ := c_readq (φ := φ) (J := J) hN h31 (fun q hq => ⟨(hbt q hq).2.1, (hbt q hq).1⟩) hφ
  have rT : ∀ o k, o < 20 → I1 0 o k = I 0 o k := fun o k ho => r7 0 o k (by omega)
  have hb1 : (∀ k, k < 10 → (I1 0 13 k = 0 ∨ I1 0 13 k = 1) ∧ (I1 0 14 k = 0 ∨ I1 0 14 k = 1)) ∧ (I1 0 0 9 = 0 ∨ I1 0 0 9 = 1) := by
    refine ⟨fun k hk => ?_, ?_⟩
    · rw [rT 13 k (by omega), rT 14 k (by omega)]; exact hb.1 k hk
    · rw [rT 0 9 (by omega)]; exact hb.2
  obtain ⟨A1, eA1⟩ : ∃ A1, A1 = gzCpy I1 1 0 gzTcb := ⟨_, rfl⟩
  have hcp : f_X8_copyFrom φ 1 0 I1 J = some ((), A1, J) := by
    rw [eA1]
    exact c_copyFrom (by omega) hb1 (by omega)
  have fA1 : ∀ t o k, ¬ (t = 1 ∧ o < 20) → A1 t o k = I1 t o k := fun t o k q => by
    rw [eA1]
    by_cases z : t = 1
    · rw [z]
      exact gzCpy_no (show gzTcb o k = false from decide_eq_false (by omega))
    · exact gzCpy_ne z
  have hca : gzCa c bg cd 0 A1 := ⟨Nat.zero_le _, ⟨(fA1 0 33 3 (by omega)).trans r3.1, fun q hq => ⟨(fA1 0 34 q (by omega)).trans (r3.2 q hq).1, (fA1 0 35 q (by omega)).trans (r3.2 q hq).2⟩⟩, (fA1 0 33 4 (by omega)).trans r4.1, (fA1 0 33 5 (by omega)).trans r4.2.1, (fA1 0 33 6 (by omega)).trans r4.2.2⟩
  obtain ⟨B1, eB1⟩ : ∃ B1, B1 = gz_ui (gz_ui (gz_ui (gz_ui (gz_ui Im 0 47 0 0) 0 47 11 (Im 0 47 9)) 0 47 9 0) 0 47 10 0) 0 47 16 0 := ⟨_, rfl⟩
  have fB1 : ∀ t o k, ¬ (t = 0 ∧ o = 47 ∧ (k = 0 ∨ k = 9 ∨ k = 10 ∨ k = 11 ∨ k = 16)) → B1 t o k = Im t o k := fun t o k q => by rw [eB1]; exact (if_neg (by omega)).trans ((if_neg (by omega)).trans ((if_neg (by omega)).trans ((if_neg (by omega)).trans (if_neg (by omega)))))
  have hmx : gzMxq B1 N bt := ⟨by rw [eB1]; exact (if_neg (by omega)).trans ((if_neg (by omega)).trans ((if_neg (by omega)).trans (gz_ui_s.trans ((hm 47 9 (by omega) (by omega)).trans h9)))), fun q hq => by rw [fB1 0 53 q (by omega), hm 53 q (by omega) (by omega)]; exact (hbt q hq).2.2⟩
  have hmp : gzMp B1 bt bg 0 := ⟨0, by rw [eB1]; exact (if_neg (by omega)).trans gz_ui_s, Nat.zero_le _, fun q q1 q2 => gz_kk0.1 (hk.2.2.2.2.2.1 q q2)⟩
  obtain ⟨B2, b1, b2, b3, b4⟩ := m_blanks (φ := φ) (J := J') hk hmx hmp (Nat.zero_le _) hφ
  have hB2 : ∀ k, B2 0 48 k = I 0 48 k := fun k => (b2 0 48 k (by omega)).trans ((fB1 0 48 k (by omega)).trans (hm 48 k (by omega) (by omega)))
  have htw : gzTwq A1 B2 nf ng := by
    have e : B2 0 48 = I 0 48 := funext hB2
    refine ⟨⟨nl, nx, ?_, ?_⟩, fun k hk => ?_, ?_⟩
    · rw [e, eA1]
      exact gzTn_cpy (gzTn_congr (fun o k ho _ => rT o k ho) hT)
    · rw [e]; exact hx
    · rw [eA1, gzCpy_at (show gzTcb 13 k = true from decide_eq_true (by omega)), gzCpy_at (show gzTcb 14 k = true from decide_eq_true (by omega))]
      exact hb1.1 k hk
    · rw [eA1, gzCpy_at (show gzTcb 0 9 = true from decide_eq_true (by omega))]
      exact hb1.2
  have hm0 : f_X12_readAll φ 1 Im J' = if ¬ B2 0 47 10 = B2 0 47 11 then f_X12_readAll_28 φ φ 1 0 B2 J' else some (0, B2, J') := by
    unfold f_X12_readAll f_X12_uses
    simp only [Option.bind_some]
    rw [← eB1, b1]
    rfl
  have hc0 : gzTc φ I J = if cd 0 = -3 then some (.ok (), A1, J) else f_X9_read_15 φ 1 φ 0 A1 J := by
    unfold gzTc
    rw [r1]
    simp only [Option.bind_some]
    rw [hcp]
    simp only [Option.bind_some]
    unfold f_X9_read
    rw [c_is hca]
    simp only [Option.bind_some]
    by_cases z : cd 0 = -3
    · rw [if_pos z, if_pos z, if_neg (by decide)]
    · rw [if_neg z, if_neg z, if_pos rfl]
  have FA : ∀ A, gzTf A1 A → gzF2 I A := fun A h t o k q r => by rw [h t o k (by omega) r, fA1 t o k r, r7 t o k (by omega)]
  have MB : ∀ B, gzTm B2 B → gzM2 Im B := fun B h t o k q r => by rw [h t o k (by omega) r, b2 t o k (by omega), fB1 t o k (by omega)]
  have hA31 : ∀ A, gzTf A1 A → A 0 31 1 = 0 := fun A h => (h 0 31 1 (by omega) (by omega)).trans ((fA1 0 31 1 (by omega)).trans r5)
  have hB9 : ∀ B, gzTm B2 B → B 0 47 9 = 0 := fun B h => by rw [h 0 47 9 (by omega) (by omega), b2 0 47 9 (by omega), eB1]; exact (if_neg (by omega)).trans ((if_neg (by omega)).trans gz_ui_s)
  have hB0 : ∀ B, gzTm B2 B → B 0 47 0 = 0 := fun B h => by rw [h 0 47 0 (by omega) (by omega), b2 0 47 0 (by omega), eB1]; exact (if_neg (by omega)).trans ((if_neg (by omega)).trans ((if_neg (by omega)).trans ((if_neg (by omega)).trans gz_ui_s)))
  have hA7 : ∀ A, gzTg A1 A → A 0 33 7 = -1 := fun A h => (h 0 33 7 (by omega) (by omega)).trans ((fA1 0 33 7 (by omega)).trans r6)
  have h11 : B2 0 47 11 = Int32.ofNat N := (b2 0 47 11 (by omega)).trans hmx.1
  obtain ⟨g1, g2⟩ := gz_end hk (Nat.zero_le c)
  have hbb := (gzTk_bg hk (Nat.zero_le c)).1
  rw [hm0, hc0]
  by_cases hc : 0 = c
  · rw [if_pos (g1.2 hc), if_neg (fun y => y (by rw [b3, h11, g2.2 hc]))]
    exact Or.inr ⟨A1, B2, nf, ng, 0, rfl, rfl, FA A1 (fun _ _ _ _ _ => rfl), MB B2 gzTm_refl, hA7 A1 gzTg_refl, hA31 A1 (fun _ _ _ _ _ => rfl), hB9 B2 gzTm_refl, hB0 B2 gzTm_refl, by omega, htw⟩
  · rw [if_neg (fun y => hc (g1.1 y)), if_pos (show ¬ B2 0 47 10 = B2 0 47 11 by rw [b3, h11, gzn_inj (by omega) (by omega)]; exact fun y => hc (g2.1 y))]
    have hy : gzTyq N c bt bg cd A1 B2 0 nf ng := ⟨hca, ⟨Nat.zero_le _, gzMx_mo hmx b2, gzMp_at b3⟩, htw⟩
    rcases r_townL (φ := φ) (J := J) (J' := J') hk hφ 14 0 φ φ 0 nf ng A1 B2 (by omega) (by omega) (by omega) hy with ⟨A, B, i1, i2, i3⟩ | ⟨A, B, nf', ng', l', i1, i2, i3, i4, i5, i6⟩
    · exact Or.inl ⟨A, B, i1, i2, FA A i3.1, MB B i3.2.1, i3.2.2, hA31 A i3.1, hB9 B i3.2.1, hB0 B i3.2.1⟩
    · exact Or.inr ⟨A, B, nf', ng', l', i1, i2, FA A (gzTf_tg i5), MB B i6, hA7 A i5, hA31 A (gzTf_tg i5), hB9 B i6, hB0 B i6, i3, i4⟩
/-- another town, nothing remembered -/
theorem gzR_nt (h : gzR I I) (hE : ∀ t o k, ¬ (gzCs t o k ∧ gzMw t o k) → ¬ (o = 31 ∨ o = 32 ∨ o = 53) → ¬ (t = 0 ∧ o = 47 ∧ (k = 7 ∨ k = 9 ∨ k = 14)) → ¬ (t = 0 ∧ o = 33 ∧ k = 7) → ¬ (t = 0 ∧ o < 20) → ¬ (t = 0 ∧ o = 39 ∧ k = 1) → ¬ (t = 0 ∧ o = 48 ∧ k < 364) → I2 t o k = I t o k) (he : gzRe I2 I2) (hf : I2 0 33 7 = I2 0 47 14) (h39 : I2 0 39 1 = 0) (h47 : I2 0 47 7 = 0) (ht : gzRt I2 0 (I2 0 48)) (h3 : I2 0 48 3 = I 0 48 3) (hb : (∀ k, k < 10 → (I2 0 13 k = 0 ∨ I2 0 13 k = 1) ∧ (I2 0 14 k = 0 ∨ I2 0 14 k = 1)) ∧ (I2 0 0 9 = 0 ∨ I2 0 0 9 = 1)) : gzR I2 I2 := by
  obtain ⟨w, v, h1, h2, -, h4, ⟨k, m, p1, p2, p3, p4, p5, p6⟩, ⟨i1, i2⟩, -, h8, h9⟩ := h
  have hw3 : I2 0 48 3 = w 3 := h3.trans (h1 3 (by omega))
  have c0 : ∀ t o k, t ≠ 0 → t ≠ 1 → o < 20 → o ≠ 6 → I2 t o k = I t o k := fun t o k a b c d => hE t o k (by unfold gzCs gzMw; omega) (by omega) (by omega) (by omega) (by omega) (by omega) (by omega)
  have cl : ∀ t o k, t ≠ 1 → 20 ≤ o → o < 26 → I2 t o k = I t o k := fun t o k a b c => hE t o k (by unfold gzCs gzMw; omega) (by omega) (by omega) (by omega) (by omega) (by omega) (by omega)
  refine ⟨I2 0 48, v, fun i hi => rfl, fun i hi => ?_, ht, ?_, ⟨0, m, by omega, p2, h39, h47, ?_, fun j hj => by omega⟩, ⟨?_, ?_⟩, he, hf, fun t ht h1 => ?_⟩
  · rw [hE 0 48 (364 + i) (by unfold gzCs gzMw; omega) (by omega) (by omega) (by omega) (by omega) (by omega) (by omega)]; exact h2 i hi
  · rw [hw3]; exact gzLw_congr (fun o k => cl 0 o k (by omega)) h4
  · rw [hE 0 39 2 (by unfold gzCs gzMw; omega) (by omega) (by omega) (by omega) (by omega) (by omega) (by omega)]; exact p5
  · rw [hE 0 30 12 (by unfold gzCs gzMw; omega) (by omega) (by omega) (by omega) (by omega) (by omega) (by omega), hE 0 47 6 (by unfold gzCs gzMw; omega) (by omega) (by omega) (by omega) (by omega) (by omega) (by omega)]; exact i1
  · rw [hE 0 47 6 (by unfold gzCs gzMw; omega) (by omega) (by omega) (by omega) (by omega) (by omega) (by omega)]
    rcases i2 with i2 | ⟨i2, w2, v2, q1, q2, q3, q4⟩
    · exact Or.inl i2
    · refine Or.inr ⟨i2, w2, v2, fun i hi => ?_, fun i hi => ?_, gzRt_congr (fun o k => c0 2 o k (by omega) (by omega)) q3, gzLw_congr (fun o k => cl 2 o k (by omega)) q4⟩
      · rw [hE 0 49 _ (by unfold gzCs gzMw; omega) (by omega) (by omega) (by omega) (by omega) (by omega) (by omega)]; exact q1 i hi
      · rw [hE 0 49 _ (by unfold gzCs gzMw; omega) (by omega) (by omega) (by omega) (by omega) (by omega) (by omega)]; exact q2 i hi
  · by_cases e0 : t = 0
    · subst e0; exact hb
    · obtain ⟨b1, b2⟩ := h9 t ht h1
      refine ⟨fun k hk => ?_, ?_⟩
      · rw [c0 t 13 k e0 h1 (by omega) (by omega), c0 t 14 k e0 h1 (by omega) (by omega)]; exact b1 k hk
      · rw [c0 t 0 9 e0 h1 (by omega) (by omega)]; exact b2
theorem m_townK (hφ : 2000 < φ) : f_X12_town φ M J = gzTk1 φ (gzBk M 50 0 48 0 1213) J := by
  have key := gz_blk (I := M) (F := fun k i s => f_X12_town_2 φ k i s J) (n := 1213) (o := 50) (a := 0) (o' := 48) (b := 0) (out := gzTk1 φ (gzBk M 50 0 48 0 1213) J) (Or.inl (by omega)) ?_ ?_ 1213 0 φ (by omega) (by omega)
  · rw [gzBk_0] at key; exact key
  · intro k i hi
    show f_X12_town_2 φ (k + 1) (Int32.ofNat i) (gzBk M 50 0 48 0 i) J = f_X12_town_2 φ k (Int32.ofNat (i + 1)) (gz_ui (gzBk M 50 0 48 0 i) 0 50 (0 + i) (gzBk M 50 0 48 0 i 0 48 (0 + i))) J
    rw [f_X12_town_2, if_neg (by rw [gzc_le1 (by omega) (by omega)]; omega), gzGd_in (by omega) (by omega), gzGd_in (by omega) (by omega), gzn_clamp (by omega), gzn_succ, Nat.zero_add]
  · intro k
    show f_X12_town_2 φ (k + 1) 1213 (gzBk M 50 0 48 0 1213) J = _
    rw [f_X12_town_2, if_pos (by decide)]
    rfl
theorem m_t92 (hφ : 2000 < φ) : f_X12_town_92 φ φ 0 M J = some (0, gzBk M 48 0 50 0 1213, J) := by
  have key := gz_blk (I := M) (F := fun k i s => f_X12_town_92 φ k i s J) (n := 1213) (o := 48) (a := 0) (o' := 50) (b := 0) (out := some (0, gzBk M 48 0 50 0 1213, J)) (Or.inl (by omega)) ?_ ?_ 1213 0 φ (by omega) (by omega)
  · rw [gzBk_0] at key; exact key
  · intro k i hi
    show f_X12_town_92 φ (k + 1) (Int32.ofNat i) (gzBk M 48 0 50 0 i) J = f_X12_town_92 φ k (Int32.ofNat (i + 1)) (gz_ui (gzBk M 48 0 50 0 i) 0 48 (0 + i) (gzBk M 48 0 50 0 i 0 50 (0 + i))) J
    rw [f_X12_town_92, if_neg (by rw [gzc_le1 (by omega) (by omega)]; omega), gzGd_in (by omega) (by omega), gzGd_in (by omega) (by omega), gzn_clamp (by omega), gzn_succ, Nat.zero_add]
  · intro k
    show f_X12_town_92 φ (k + 1) 1213 (gzBk M 48 0 50 0 1213) J = _
    rw [f_X12_town_92, if_pos (by decide)]
/-- the model, refused by the text -/
theorem m_town1 (hφ : 2000 < φ) (h : f_X12_readAll φ 1 (gzBk M 50 0 48 0 1213) J = some (-1, B, J)) : f_X12_town φ M J = some (0, gzBk (gz_ui (gz_ui B 0 47 14 (B 0 47 12)) 0 47 0 1) 48 0 50 0 1213, J) := by
  rw [m_townK hφ]
  unfold gzTk1
  rw [h]
  simp only [Option.bind_some]
  rw [if_neg (by decide), if_neg (by decide), s_throws1]
  simp only [Option.bind_some]
  rw [if_pos (by decide)]
  exact m_t92 hφ
/-- the model, refused by the number of texts -/
theorem m_town2 {l : Nat} (hφ : 2000 < φ) (hl : l < 1000) (h : f_X12_readAll φ 1 (gzBk M 50 0 48 0 1213) J = some (Int32.ofNat l, B, J)) (h2 : B 0 48 2 = 12) : f_X12_town φ M J = some (0, gzBk (gz_ui (gz_ui B 0 47 14 (-1)) 0 47 0 2) 48 0 50 0 1213, J) := by
  have e2 : gz_ui B 0 47 14 (-1) 0 48 2 = 12 := (if_neg (by omega)).trans h2
  rw [m_townK hφ]
  unfold gzTk1
  rw [h]
  simp only [Option.bind_some]
  rw [if_pos (gz_ge0 (by omega)), if_pos (gz_ge0 (by omega)), s_throws0]
  simp only [Option.bind_some]
  rw [if_neg (by decide), if_neg (fun q => q e2), s_throws1]
  simp only [Option.bind_some]
  rw [if_neg (by decide)]
  exact m_t92 hφ
/-- the model's town more -/
theorem m_town3 {l : Nat} (hφ : 2000 < φ) (hl : l < 1000) (h : f_X12_readAll φ 1 (gzBk M 50 0 48 0 1213) J = some (Int32.ofNat l, B, J)) (h2 : ¬ B 0 48 2 = 12) : f_X12_town φ M J = some (B 0 48 2 + 1, gz_ui (gz_ui (gz_ui B 0 47 14 (-1)) 0 48 2 (B 0 48 2 + 1)) 0 47 7 0, J) := by
  have e2 : gz_ui B 0 47 14 (-1) 0 48 2 = B 0 48 2 := if_neg (by omega)
  rw [m_townK hφ]
  unfold gzTk1
  rw [h]
  simp only [Option.bind_some]
  rw [if_pos (gz_ge0 (by omega)), if_pos (gz_ge0 (by omega)), s_throws0]
  simp only [Option.bind_some]
  rw [if_neg (by decide), if_pos (show ¬ gz_ui B 0 47 14 (-1) 0 48 2 = 12 by rw [e2]; exact h2), s_throws0]
  simp only [Option.bind_some]
  rw [if_pos (by decide), e2]
theorem L_town {I : gzIT} {J : gzJT} (h : gzR I I) : ∃ e I1, f_X11_town 4096 I J = some (e, I1, J) ∧ (∀ E, e = .error E → ∃ k : Nat, (["java/lang/IllegalArgumentException", "java/lang/UnsupportedOperationException"] : List String)[k]? = some E) ∧ ∀ J' : gzJT, ∃ v I2 J2, f_X12_town 4096 I1 J' = some (v, I2, J2) ∧ gzSame e ["java/lang/IllegalArgumentException", "java/lang/UnsupportedOperationException"] v (I2 0 47 0) ∧ J2 0 59 0 = J' 0 59 0 ∧ gzR I2 I2 := by
  obtain ⟨φ, hφ⟩ : ∃ φ, φ = 4096 := ⟨_, rfl⟩
  rw [← hφ]
  have hφ1 : 2000 < φ := by omega
  obtain ⟨nf, ng, nl, nx, hT, hx, -⟩ := gzR_go h
  obtain ⟨-, -, -, -, -, -, -, -, he, -, h9⟩ := id h
  have hb := h9 0 (by omega) (by omega)
  have hI2 : I 0 0 6 = I 0 48 2 := hT.2.1.1
  have hC : f_X11_town φ I J = Option.bind (gzTc φ I J) (fun v6 => gzEx v6.1 (fun E => some (.error E, v6.2.1, v6.2.2)) (fun w8 => if v6.2.1 0 0 6 < 12 then (Option.bind (f_X8_copyFrom φ 0 1 (gz_ui v6.2.1 1 0 6 ((v6.2.1 1 0 6) + 1)) v6.2.2) (fun v10 => Option.bind (f_X5_forget v10.2.1 v10.2.2) (fun v12 => some (.ok (v12.2.1 0 0 6), v12.2.1, v12.2.2)))) else (some (.error "java/lang/UnsupportedOperationException", v6.2.1, v6.2.2)))) := by
    unfold f_X11_town gzTc
    simp only [Option.bind_assoc]
  rw [hC]
  -- the model refused, all as before
  have back : ∀ (A B D : gzIT) (x y : Int32), gzF2 I A → gzM2 (gzBk A 50 0 48 0 1213) B → A 0 31 1 = 0 → B 0 47 9 = 0 → A 0 33 7 = x → D = gzBk (gz_ui (gz_ui B 0 47 14 x) 0 47 0 y) 48 0 50 0 1213 → D 0 47 0 = y ∧ gzR D D := by
    intro A B D x y hA hB a31 b9 a7 eD
    have fD : ∀ t o k, ¬ (t = 0 ∧ o = 48 ∧ k < 1213) → ¬ (t = 0 ∧ o = 47 ∧ (k = 0 ∨ k = 14)) → D t o k = B t o k := fun t o k q r => by rw [eD]; exact (if_neg (by omega)).trans ((if_neg (by omega)).trans (if_neg (by omega)))
    have D0 : D 0 47 0 = y := by rw [eD]; exact (if_neg (by omega)).trans gz_ui_s
    have D14 : D 0 47 14 = x := by rw [eD]; exact (if_neg (by omega)).trans ((if_neg (by omega)).trans gz_ui_s)
    have fM : ∀ t o k, ¬ (t = 0 ∧ o = 50 ∧ k < 1213) → gzBk A 50 0 48 0 1213 t o k = A t o k := fun t o k q => if_neg (by omega)
    have D48 : ∀ k, k < 1213 → D 0 48 k = I 0 48 k := fun k hk => by
      have q1 : D 0 48 k = (gz_ui (gz_ui B 0 47 14 x) 0 47 0 y) 0 50 (0 + (k - 0)) := by rw [eD]; exact if_pos (by omega)
      have q2 : gzBk A 50 0 48 0 1213 0 50 k = A 0 48 (0 + (k - 0)) := if_pos (by omega)
      rw [q1, show 0 + (k - 0) = k by omega]
      refine ((if_neg (by omega)).trans (if_neg (by omega))).trans ((hB 0 50 k (by omega) (by omega)).trans (q2.trans ?_))
      rw [show 0 + (k - 0) = k by omega]
      exact hA 0 48 k (by omega) (by omega)
    have gA : ∀ t o k, o < 47 → D t o k = A t o k := fun t o k q => (fD t o k (by omega) (by omega)).trans ((hB t o k (by omega) (by omega)).trans (fM t o k (by omega)))
    refine ⟨D0, gzR_tf h (fun t o k q1 q2 q3 q4 => ?_) ⟨0, by omega, (gA 0 31 1 (by omega)).trans a31, (fD 0 47 9 (by omega) (by omega)).trans b9, fun i hi => by omega⟩ ((gA 0 33 7 (by omega)).trans (a7.trans D14.symm))⟩
    by_cases z : t = 0 ∧ o = 48 ∧ k < 1213
    · obtain ⟨z1, z2, z3⟩ := z
      rw [z1, z2]; exact D48 k z3
    · have hq1 : ¬ (t = 0 ∧ o = 47 ∧ (k = 0 ∨ k = 14 ∨ (9 ≤ k ∧ k ≤ 13) ∨ k = 16)) ∧ ¬ (t = 0 ∧ o = 50) ∧ ¬ (t = 0 ∧ ((33 ≤ o ∧ o ≤ 36) ∨ (o = 31 ∧ k = 1))) ∧ ¬ (t = 1 ∧ o < 20) := by
        unfold gzCs gzMw at q1
        omega
      rw [fD t o k z (by omega), hB t o k (by omega) (by omega), fM t o k (by omega), hA t o k (by omega) (by omega)]
  rcases r_townP (φ := φ) (J := J) (J' := J) (Im := I) he hT hx hb (fun _ _ _ _ => rfl) (by omega) with ⟨A, -, a1, -, a3, -, -, a6, -⟩ | ⟨A, -, nf1, ng1, l1, a1, -, a3, -, a5, a6, -, -, -, -⟩
  · rw [a1]
    refine ⟨.error "java/lang/IllegalArgumentException", A, rfl, fun E q => ⟨0, congrArg some (Except.error.inj q)⟩, fun J' => ?_⟩
    rcases r_townP (φ := φ) (J := J) (J' := J') (Im := gzBk A 50 0 48 0 1213) he hT hx hb (fun o k ho h50 => (if_neg (by omega)).trans (a3 0 o k (by omega) (by omega))) (by omega) with ⟨A', B, b1, b2, b3, b4, b5, b6, b7, b8⟩ | ⟨A', B, nf2, ng2, l2, b1, -⟩
    · have eA : A' = A := by
        have := b1.symm.trans a1
        exact congrArg (fun x => x.2.1) (Option.some.inj this)
      subst eA
      obtain ⟨d1, d2⟩ := back A' B _ (B 0 47 12) 1 a3 b4 a6 b7 b5 rfl
      exact ⟨0, _, J', m_town1 hφ1 b2, ⟨0, rfl, d1⟩, rfl, d2⟩
    · have := b1.symm.trans a1
      have := congrArg (fun x => x.1) (Option.some.inj this)
      cases this
  · rw [a1]
    have hA6 : A 0 0 6 = I 0 0 6 := a3 0 0 6 (by omega) (by omega)
    have hbd := (gzWx_bd hT.1.1 hx).2 2
    have hbd2 := hbd.1 rfl
    obtain ⟨m, hm30, hm⟩ := gzn_of hbd2.1
    have hm12 : m ≤ 12 := by
      have := hbd2.2
      rw [hm, gzn_int hm30] at this
      omega
    by_cases hlt : m < 12
    · have h6 : A 0 0 6 < 12 := by
        rw [hA6, hI2, hm, gzc_lt2 (by omega) (by omega)]; exact hlt
      -- the class: one more, copied, nothing remembered
      rcases r_townP (φ := φ) (J := J) (J' := J) (Im := I) he hT hx hb (fun _ _ _ _ => rfl) (by omega) with ⟨A', -, b1, -⟩ | ⟨A', B0, nf2, ng2, l2, b1, b2, b3, b4, b5, b6, b7, b8, b9, b10⟩
      · have := b1.symm.trans a1
        have := congrArg (fun x => x.1) (Option.some.inj this)
        cases this
      have eA : A' = A := by
        have := b1.symm.trans a1
        exact congrArg (fun x => x.2.1) (Option.some.inj this)
      subst eA
      obtain ⟨⟨nl2, nx2, t1, t2⟩, t3, t4⟩ := id b10
      have e6 : A' 1 0 6 = Int32.ofNat m := by
        have q1 : A' 1 0 6 = B0 0 48 2 := t1.2.1.1
        rw [q1, b4 0 48 2 (by omega) (by omega), hm]
      obtain ⟨X, eX⟩ : ∃ X, X = gz_ui A' 1 0 6 (Int32.ofNat (m + 1)) := ⟨_, rfl⟩
      have fX : ∀ t o k, ¬ (t = 1 ∧ o = 0 ∧ k = 6) → X t o k = A' t o k := fun t o k q => by rw [eX]; exact if_neg q
      have X6 : X 1 0 6 = Int32.ofNat (m + 1) := by rw [eX]; exact gz_ui_s
      have hbX : (∀ k, k < 10 → (X 1 13 k = 0 ∨ X 1 13 k = 1) ∧ (X 1 14 k = 0 ∨ X 1 14 k = 1)) ∧ (X 1 0 9 = 0 ∨ X 1 0 9 = 1) := by
        refine ⟨fun k hk => ?_, ?_⟩
        · rw [fX 1 13 k (by omega), fX 1 14 k (by omega)]; exact t3 k hk
        · rw [fX 1 0 9 (by omega)]; exact t4
      obtain ⟨A1, eA1⟩ : ∃ A1, A1 = gzCpy X 0 1 gzTcb := ⟨_, rfl⟩
      obtain ⟨A2, eA2⟩ : ∃ A2, A2 = gz_ui A1 0 39 1 0 := ⟨_, rfl⟩
      have hcp : f_X8_copyFrom φ 0 1 X J = some ((), A1, J) := by
        rw [eA1]
        exact c_copyFrom (by omega) hbX (by omega)
      have fA1 : ∀ t o k, ¬ (t = 0 ∧ o < 20) → A1 t o k = X t o k := fun t o k q => by
        rw [eA1]
        by_cases z : t = 0
        · rw [z]
          exact gzCpy_no (show gzTcb o k = false from decide_eq_false (by omega))
        · exact gzCpy_ne z
      have fA2 : ∀ t o k, ¬ (t = 0 ∧ o = 39 ∧ k = 1) → A2 t o k = A1 t o k := fun t o k q => by rw [eA2]; exact if_neg q
      have h006 : A2 0 0 6 = Int32.ofNat (m + 1) := by
        rw [fA2 0 0 6 (by omega), eA1]
        exact (gzCpy_at (decide_eq_true (by omega))).trans X6
      have gA : ∀ t o k, ¬ (t = 0 ∧ o < 20) → ¬ (t = 0 ∧ o = 39 ∧ k = 1) → ¬ (t = 1 ∧ o = 0 ∧ k = 6) → A2 t o k = A' t o k := fun t o k q r s => (fA2 t o k r).trans ((fA1 t o k q).trans (fX t o k s))
      refine ⟨.ok (Int32.ofNat (m + 1)), A2, ?_, fun E q => (by cases q), fun J' => ?_⟩
      · simp only [Option.bind_some, gzEx_okq]
        rw [if_pos h6, e6, gzn_succ, ← eX, hcp]
        unfold f_X5_forget
        simp only [Option.bind_some]
        rw [← eA2, h006]
      rcases r_townP (φ := φ) (J := J) (J' := J') (Im := gzBk A2 50 0 48 0 1213) he hT hx hb (fun o k ho h50 => (if_neg (by omega)).trans ((gA 0 o k (by omega) (by omega) (by omega)).trans (a3 0 o k (by omega) (by omega)))) (by omega) with ⟨A3, B, c1, -⟩ | ⟨A3, B, nf3, ng3, l3, c1, c2, c3, c4, c5, c6, c7, c8, c9, c10⟩
      · have := c1.symm.trans a1
        have := congrArg (fun x => x.1) (Option.some.inj this)
        cases this
      have eA : A3 = A' := by
        have := c1.symm.trans a1
        exact congrArg (fun x => x.2.1) (Option.some.inj this)
      subst eA
      have fM : ∀ t o k, ¬ (t = 0 ∧ o = 50 ∧ k < 1213) → gzBk A2 50 0 48 0 1213 t o k = A2 t o k := fun t o k q => if_neg (by omega)
      have B2m : B 0 48 2 = Int32.ofNat m := by
        rw [c4 0 48 2 (by omega) (by omega), fM 0 48 2 (by omega), gA 0 48 2 (by omega) (by omega) (by omega), a3 0 48 2 (by omega) (by omega), hm]
      have hm3 := m_town3 (M := A2) (l := l3) hφ1 (by omega) c2 (by rw [B2m, gzc_eq2 (by omega) (by omega)]; omega)
      rw [B2m, gzn_succ] at hm3
      obtain ⟨D, eD⟩ : ∃ D, D = gz_ui (gz_ui (gz_ui B 0 47 14 (-1)) 0 48 2 (Int32.ofNat (m + 1))) 0 47 7 0 := ⟨_, rfl⟩
      rw [← eD] at hm3
      have fD : ∀ t o k, ¬ (t = 0 ∧ o = 47 ∧ (k = 7 ∨ k = 14)) → ¬ (t = 0 ∧ o = 48 ∧ k = 2) → D t o k = B t o k := fun t o k q r => by rw [eD]; exact (if_neg (by omega)).trans ((if_neg (by omega)).trans (if_neg (by omega)))
      have D7 : D 0 47 7 = 0 := by rw [eD]; exact gz_ui_s
      have D14 : D 0 47 14 = -1 := by rw [eD]; exact (if_neg (by omega)).trans ((if_neg (by omega)).trans gz_ui_s)
      have D2 : D 0 48 2 = Int32.ofNat (m + 1) := by rw [eD]; exact (if_neg (by omega)).trans gz_ui_s
      have gD : ∀ t o k, o < 47 → D t o k = A2 t o k := fun t o k q => (fD t o k (by omega) (by omega)).trans ((c4 t o k (by omega) (by omega)).trans (fM t o k (by omega)))
      have tw := gzTw_one (o := 0) (k := 6) (i := 2) (x := Int32.ofNat (m + 1)) c10 (by omega) ⟨fun _ => gz_nb (by omega) (by omega), fun q => by omega, fun q => by omega, fun q => by omega, fun q => by omega, fun f hf => ⟨fun q => by omega, fun q => by omega, fun q => by omega⟩, fun g hg => ⟨fun q => by omega, fun q => by omega, fun q => by omega⟩⟩ (fun _ q => by omega)
      rw [← eX] at tw
      obtain ⟨⟨nl4, nx4, u1, u2⟩, u3, u4⟩ := tw
      have eW : gz_ui B 0 48 2 (Int32.ofNat (m + 1)) 0 48 = D 0 48 := funext fun k => by
        by_cases z : k = 2
        · rw [z, D2]; exact gz_ui_s
        · exact (if_neg (by omega)).trans (fD 0 48 k (by omega) (by omega)).symm
      rw [eW] at u1 u2
      have hDT : ∀ o k, o < 20 → D 0 o k = gzCpy X 0 1 gzTcb 0 o k := fun o k ho => (gD 0 o k (by omega)).trans ((fA2 0 o k (by omega)).trans (by rw [eA1]))
      refine ⟨Int32.ofNat (m + 1), D, J', hm3, ⟨rfl, ?_⟩, rfl, gzR_nt h (fun t o k q1 q2 q3 q4 q5 q6 q7 => ?_) ⟨0, by omega, ?_, ?_, fun i hi => by omega⟩ ?_ ?_ D7 ⟨nf3, ng3, nl4, nx4, gzTn_congr (fun o k ho _ => hDT o k ho) (gzTn_cpy u1), u2⟩ ?_ ⟨fun k hk => ?_, ?_⟩⟩
      · rw [fD 0 47 0 (by omega) (by omega)]; exact c8
      · have hq1 : ¬ (t = 0 ∧ o = 47 ∧ (k = 0 ∨ (9 ≤ k ∧ k ≤ 13) ∨ k = 16)) ∧ ¬ (t = 0 ∧ o = 50) ∧ ¬ (t = 0 ∧ ((33 ≤ o ∧ o ≤ 36) ∨ (o = 31 ∧ k = 1))) ∧ ¬ (t = 1 ∧ o < 20) := by
          unfold gzCs gzMw at q1
          omega
        rw [fD t o k (by omega) (by omega), c4 t o k (by omega) (by omega), fM t o k (by omega), gA t o k (by omega) (by omega) (by omega), a3 t o k (by omega) (by omega)]
      · rw [gD 0 31 1 (by omega), gA 0 31 1 (by omega) (by omega) (by omega)]; exact a6
      · rw [fD 0 47 9 (by omega) (by omega)]; exact c7
      · rw [gD 0 33 7 (by omega), gA 0 33 7 (by omega) (by omega) (by omega), D14]; exact a5
      · rw [gD 0 39 1 (by omega), eA2]; exact gz_ui_s
      · rw [fD 0 48 3 (by omega) (by omega), c4 0 48 3 (by omega) (by omega), fM 0 48 3 (by omega), gA 0 48 3 (by omega) (by omega) (by omega), a3 0 48 3 (by omega) (by omega)]
      · rw [hDT 13 k (by omega), hDT 14 k (by omega), gzCpy_at (show gzTcb 13 k = true from decide_eq_true (by omega)), gzCpy_at (show gzTcb 14 k = true from decide_eq_true (by omega))]
        exact u3 k hk
      · rw [hDT 0 9 (by omega), gzCpy_at (show gzTcb 0 9 = true from decide_eq_true (by omega))]
        exact u4
    · have hm12' : m = 12 := by omega
      subst hm12'
      have h6 : ¬ A 0 0 6 < 12 := by
        rw [hA6, hI2, hm]; decide
      refine ⟨.error "java/lang/UnsupportedOperationException", A, ?_, fun E q => ⟨1, congrArg some (Except.error.inj q)⟩, fun J' => ?_⟩
      · simp only [Option.bind_some, gzEx_okq]
        rw [if_neg h6]
      rcases r_townP (φ := φ) (J := J) (J' := J') (Im := gzBk A 50 0 48 0 1213) he hT hx hb (fun o k ho h50 => (if_neg (by omega)).trans (a3 0 o k (by omega) (by omega))) (by omega) with ⟨A', B, b1, -⟩ | ⟨A', B, nf2, ng2, l2, b1, b2, b3, b4, b5, b6, b7, b8, b9, b10⟩
      · have := b1.symm.trans a1
        have := congrArg (fun x => x.1) (Option.some.inj this)
        cases this
      have eA : A' = A := by
        have := b1.symm.trans a1
        exact congrArg (fun x => x.2.1) (Option.some.inj this)
      subst eA
      have B12 : B 0 48 2 = 12 := by
        have q2 : gzBk A' 50 0 48 0 1213 0 48 2 = A' 0 48 2 := if_neg (by omega)
        rw [b4 0 48 2 (by omega) (by omega), q2, a3 0 48 2 (by omega) (by omega), hm]
        rfl
      obtain ⟨d1, d2⟩ := back A' B _ (-1) 2 a3 b4 a6 b7 a5 rfl
      exact ⟨0, _, J', m_town2 hφ1 (by omega) b2 B12, ⟨1, rfl, d1⟩, rfl, d2⟩
end
