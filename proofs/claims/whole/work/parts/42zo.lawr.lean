/-! the law read: both sides to the end -/
theorem gzEx_okq {α β : Type} {x : α} {f : String → β} {g : α → β} : gzEx (.ok x) f g = g x := rfl
section
variable {I I' I2 X M M0 Ic Im Ic' Im' Ic2 Im2 : gzIT} {J J' : gzJT} {φ n c N d : Nat} {kd bt B E bg en : Nat → Nat} {cd : Nat → Int32}
theorem gz_end {j : Nat} (hk : gzTkq N c bt bg en cd) (hj : j ≤ c) : (cd j = -3 ↔ j = c) ∧ (bg j = N ↔ j = c) := by
  by_cases y : j < c
  · obtain ⟨b1, b2, b3, b4, -⟩ := hk.2.2.2.2.2.2 j y
    refine ⟨⟨fun x => ?_, fun x => by omega⟩, ⟨fun x => by omega, fun x => by omega⟩⟩
    exfalso
    have h23 : ¬ (-2 : Int32) = -3 := by decide
    rcases gzTk_cd hk y with ⟨q1, q⟩ | ⟨q1, ⟨-, q, q2⟩ | ⟨-, q⟩⟩ | ⟨-, q⟩
    · rw [q] at x
      rcases gzWf_ge (u := gzTx bt (bg j) (en j - bg j)) gzVoc 1000 with p | ⟨k2, p1, p2⟩
      · exact h23 (p.symm.trans x)
      · rw [gzVoc_len.1] at p1
        exact gz_n3 (by omega) (x.symm.trans p2)
    · exact gz_n3 (by omega) (x.symm.trans q)
    · exact h23 (q.symm.trans x)
    · have := hk.2.2.2.2.1 (bg j) (by omega)
      exact gz_n3 (by omega) (x.symm.trans q)
  · have : j = c := by omega
    subst this
    exact ⟨⟨fun _ => rfl, fun _ => hk.2.2.2.1⟩, ⟨fun _ => rfl, fun _ => hk.2.2.1⟩⟩
theorem r_lawL (hk : gzTkq N c bt bg en cd) (hφ : 500 < φ) : ∀ (m l kc km j n : Nat) (Ic Im : gzIT), l + m = 12 → m < kc → m < km → gzLy N c bt bg cd Ic Im j n l →
    (∃ A B, f_X3_read_20 φ 1 kc (Int32.ofNat l) Ic J = some (.error "java/lang/IllegalArgumentException", A, J) ∧ f_X12_readAll_28 φ km 0 (Int32.ofNat l) Im J' = some (-1, B, J') ∧ gzFf Ic A ∧ gzMf Im B ∧ A 0 33 7 = B 0 47 12) ∨
    (∃ A B n' l', f_X3_read_20 φ 1 kc (Int32.ofNat l) Ic J = some (.ok (), A, J) ∧ f_X12_readAll_28 φ km 0 (Int32.ofNat l) Im J' = some (Int32.ofNat l', B, J') ∧ l' ≤ 12 ∧ n' ≤ 400 ∧ A 1 20 7 = Int32.ofNat l' ∧ gzFg Ic A ∧ gzMf Im B ∧ (∀ i, i < n' → gzCd (A 1 25 i) (B 0 48 (1262 + 2 * i)) (B 0 48 (1263 + 2 * i))) ∧ gzLn A B l' n') := by
  intro m
  induction m with
  | zero =>
    intro l kc km j n Ic Im hl hkc hkm hy
    obtain ⟨kc, rfl⟩ : ∃ q, kc = q + 1 := ⟨kc - 1, by omega⟩
    obtain ⟨km, rfl⟩ : ∃ q, km = q + 1 := ⟨km - 1, by omega⟩
    obtain ⟨I1, a1, a2, a3, a4⟩ := m_letters (J := J') hk hy.2.1.2.1 hy.2.1.2.2 hy.2.1.1 hφ
    refine Or.inl ⟨gzWg bg j Ic, I1, ?_, ?_, gzFf_wg, gzMf_mo a2, by rw [gzWg_7, a4]⟩
    · rw [f_X3_read_20, if_pos (by rw [gzc_le1 (by omega) (by omega)]; omega), c_wrong hy.1]
      rfl
    · rw [f_X12_readAll_28]
      unfold f_X12_readLine
      rw [a1]
      simp only [Option.bind_some]
      rw [if_pos (by rw [if_pos trivial, gzc_le1 (by omega) (by omega)]; omega)]
      simp only [Option.bind_some]
      rw [if_neg (by decide)]
  | succ m ih =>
    intro l kc km j n Ic Im hl hkc hkm hy
    have hcN := hk.1
    have hN := hk.2.1
    obtain ⟨kc, rfl⟩ : ∃ q, kc = q + 1 := ⟨kc - 1, by omega⟩
    obtain ⟨km, rfl⟩ : ∃ q, km = q + 1 := ⟨km - 1, by omega⟩
    obtain ⟨I1, a1, a2, a3, a4⟩ := m_letters (J := J') hk hy.2.1.2.1 hy.2.1.2.2 hy.2.1.1 hφ
    have hline := r_line (φ := φ) (J := J) (J' := J') hk hφ (by omega) hy a2 a3 a4
    have hM : f_X12_readAll_28 φ (km + 1) 0 (Int32.ofNat l) Im J' = Option.bind (f_X12_readLawLine φ (Int32.ofNat l) I1 J') (fun v6 => if ¬ v6.1 = 0 then (Option.bind (f_X12_blanks φ v6.2.1 v6.2.2) (fun v8 => if ¬ v8.2.1 0 47 10 = v8.2.1 0 47 11 then (Option.bind (f_X12_isAt v8.2.1 59 59) (fun v10 => if ¬ v10 = 0 then (f_X12_readAll_28 φ km 0 (Int32.ofNat l + 1) (gz_ui v8.2.1 0 47 10 ((v8.2.1 0 47 10) + 1)) v8.2.2) else (some ((-1), v8.2.1, v8.2.2)))) else (some ((Int32.ofNat l + 1), v8.2.1, v8.2.2)))) else (some ((-1), v6.2.1, v6.2.2))) := by
      rw [f_X12_readAll_28]
      unfold f_X12_readLine
      rw [a1]
      simp only [Option.bind_some]
      rw [if_neg (by rw [if_pos trivial, gzc_le1 (by omega) (by omega)]; omega), if_pos trivial]
      cases f_X12_readLawLine φ (Int32.ofNat l) I1 J' with
      | none => rfl
      | some v =>
        simp only [Option.bind_some]
        by_cases z : v.1 = 0
        · rw [if_pos z, if_neg (fun y => y z)]
          simp only [Option.bind_some]
          rw [if_neg (by decide)]
        · rw [if_neg z, if_pos z]
          simp only [Option.bind_some]
          rw [if_pos (by decide)]
    rw [hM, f_X3_read_20, if_neg (by rw [gzc_le1 (by omega) (by omega)]; omega)]
    rcases hline with ⟨A, B, e1, e2, e3, e4, e5⟩ | ⟨A, B, j', n', e1, e2, e3, e4, e5, e6⟩
    · rw [e1, e2]
      refine Or.inl ⟨A, B, rfl, ?_, e3, e4, e5⟩
      simp only [Option.bind_some]
      rw [if_neg (by decide)]
    · rw [e1, e2]
      simp only [Option.bind_some]
      rw [if_pos (by decide)]
      obtain ⟨y1, y2, y3, y4, y5, y6, y7, y8⟩ := e3
      have hj' := y1.1
      obtain ⟨g1, g2⟩ := gz_end hk y1.1
      obtain ⟨B1, b1, b2, b3, b4, b5⟩ := m_sign0 (φ := φ) (J := J') (s := 59) hk y2 (by decide) (by omega) hφ
      have b5' : f_X12_isAt B1 59 59 = some (if cd j' = gzSg 59 then 1 else 0) := b5
      have h11 : B1 0 47 11 = Int32.ofNat N := (b2 0 47 11 (by omega)).trans y2.2.1.1
      rw [b1]
      simp only [Option.bind_some]
      simp only [gzEx_okq]
      rw [c_is y1]
      simp only [Option.bind_some]
      have hb := (gzTk_bg hk y1.1).1
      by_cases hjc : j' = c
      · rw [if_pos (g1.2 hjc), if_neg (by decide), if_neg (fun y => y (by rw [b3, h11, g2.2 hjc]))]
        refine Or.inr ⟨A, B1, n', l + 1, rfl, by rw [gzn_succ], by omega, by omega, y5, e4, gzMf_trans e5 (gzMf_mo b2), fun i hi => ?_, ?_⟩
        · rw [b2 0 48 (1262 + 2 * i) (by omega), b2 0 48 (1263 + 2 * i) (by omega)]; exact y7 i hi
        · exact gzLn_keep y8 (by omega) (fun _ _ _ _ _ => rfl) (fun k _ _ => b2 0 48 k (by omega)) (fun k _ _ => b2 0 48 k (by omega)) (Nat.le_refl _)
      · rw [if_neg (fun y => hjc (g1.1 y)), if_pos (by decide), if_pos (show ¬ B1 0 47 10 = B1 0 47 11 by rw [b3, h11, gzn_inj (by omega) (by omega)]; exact fun y => hjc (g2.1 y)), b5']
        simp only [Option.bind_some]
        by_cases hs : cd j' = gzSg 59
        · obtain ⟨A2, c1, c2, c3, c4⟩ := c_needY (J := J) hk y1 (show cd j' = 2059 from hs) (by decide)
          rw [c1, if_pos hs]
          simp only [Option.bind_some]
          rw [if_pos (by decide), gzn_succ, b3, gzn_succ]
          obtain ⟨s1, s2⟩ := (gzSg_iff (s := 59) hk y1.1 (by decide) (by omega)).1 hs
          have hen : en j' = bg j' + 1 := (hk.2.2.2.2.2.2 j' c4).2.2.2.2.1 (by rw [s2]; decide)
          obtain ⟨B2, eB2⟩ : ∃ B2, B2 = gz_ui B1 0 47 10 (Int32.ofNat (bg j' + 1)) := ⟨_, rfl⟩
          have f2 : gzMo B1 B2 := fun t o k q => by rw [eB2]; exact if_neg (by omega)
          have f3 : gzMo B B2 := gzMo_trans b2 f2
          rw [← eB2]
          have hy2 : gzLy N c bt bg cd A2 B2 (j' + 1) n' (l + 1) := ⟨c2, ⟨c4, gzMx_mo y2.2.1 f3, gzMp_next hk c4 (by rw [eB2, hen]; exact gz_ui_s)⟩, (c3 1 20 8 (by omega)).trans y3, (f3 0 47 16 (by omega)).trans y4, (c3 1 20 7 (by omega)).trans y5, by omega, fun i hi => by rw [c3 1 25 i (by omega), f3 0 48 (1262 + 2 * i) (by omega), f3 0 48 (1263 + 2 * i) (by omega)]; exact y7 i hi, gzLn_keep y8 (by omega) (fun o k _ _ _ => c3 1 o k (by omega)) (fun k _ _ => f3 0 48 k (by omega)) (fun k _ _ => f3 0 48 k (by omega)) (Nat.le_refl _)⟩
          rcases ih (l + 1) kc km (j' + 1) n' A2 B2 (by omega) (by omega) (by omega) hy2 with ⟨A3, B3, i1, i2, i3, i4, i5⟩ | ⟨A3, B3, n3, l3, i1, i2, i3, i4, i5, i6, i7, i8, i9⟩
          · exact Or.inl ⟨A3, B3, i1, i2, gzFf_trans (gzFf_fg (gzFg_trans e4 (gzFg_fl (gzFl_fk c3)))) i3, gzMf_trans (gzMf_trans e5 (gzMf_mo f3)) i4, i5⟩
          · exact Or.inr ⟨A3, B3, n3, l3, i1, i2, i3, i4, i5, gzFg_trans (gzFg_trans e4 (gzFg_fl (gzFl_fk c3))) i6, gzMf_trans (gzMf_trans e5 (gzMf_mo f3)) i7, i8, i9⟩
        · rw [c_needN y1 (show cd j' ≠ 2059 from hs), if_neg hs]
          simp only [Option.bind_some]
          rw [if_neg (by decide)]
          exact Or.inl ⟨gzWg bg j' A, B1, rfl, rfl, gzFf_trans (gzFf_fg e4) gzFf_wg, gzMf_trans e5 (gzMf_mo b2), by rw [gzWg_7, b4]⟩
theorem gz_by : ∀ k, k < 256 → ((Int8.ofNat k).toInt32 &&& 255) = Int32.ofNat k ∧ (k < 128 → (Int8.ofNat k).toInt32 = Int32.ofNat k) ∧ (128 ≤ k → (Int8.ofNat k).toInt32.toInt < 0) := by decide +kernel
theorem gz_bytq {x : Int32} (h : x.toInt8.toInt32 = x) : ∃ k, k < 256 ∧ (x &&& 255) = Int32.ofNat k ∧ (k < 128 → x = Int32.ofNat k) ∧ (128 ≤ k → x.toInt < 0) := by
  have hk : x.toInt8.toBitVec.toNat < 256 := x.toInt8.toBitVec.isLt
  have he : Int8.ofNat x.toInt8.toBitVec.toNat = x.toInt8 := by
    apply Int8.toBitVec_inj.1
    show BitVec.ofNat 8 _ = _
    rw [BitVec.ofNat_toNat]
    simp
  have := gz_by _ hk
  rw [he, h] at this
  exact ⟨_, hk, this⟩
/-- the class's reading of the law, to the draft -/
def gzCw (φ : Nat) (I : gzIT) (J : gzJT) : Option (Except String Unit × gzIT × gzJT) := Option.bind (f_X7_read φ I J) (fun v2 => Option.bind (f_X2_clear 1 v2.2.1 v2.2.2) (fun v4 => f_X3_read φ 1 v4.2.1 v4.2.2))
def gzF1 (I I' : gzIT) : Prop := ∀ t o k, ¬ (t = 0 ∧ ((33 ≤ o ∧ o ≤ 36) ∨ (o = 31 ∧ k = 1))) → ¬ (t = 1 ∧ 20 ≤ o ∧ o < 26) → I' t o k = I t o k
def gzM1 (I I' : gzIT) : Prop := ∀ t o k, ¬ (t = 0 ∧ o = 47 ∧ (k = 0 ∨ (9 ≤ k ∧ k ≤ 13) ∨ k = 16)) → ¬ (t = 0 ∧ o = 48 ∧ 1213 ≤ k) → I' t o k = I t o k
theorem r_lawP (he : gzRe I I) (hm : ∀ o k, 47 ≤ o → Im 0 o k = I 0 o k) (hφ : 500 < φ) :
    (∃ A B, gzCw φ I J = some (.error "java/lang/IllegalArgumentException", A, J) ∧ f_X12_readAll φ 0 Im J' = some (-1, B, J') ∧ gzF1 I A ∧ gzM1 Im B ∧ A 0 33 7 = B 0 47 12 ∧ A 0 31 1 = 0 ∧ B 0 47 9 = 0 ∧ B 0 47 0 = 0) ∨
    (∃ A B n' l', gzCw φ I J = some (.ok (), A, J) ∧ f_X12_readAll φ 0 Im J' = some (Int32.ofNat l', B, J') ∧ gzF1 I A ∧ gzM1 Im B ∧ A 0 33 7 = -1 ∧ A 0 31 1 = 0 ∧ B 0 47 9 = 0 ∧ B 0 47 0 = 0 ∧ l' ≤ 12 ∧ n' ≤ 400 ∧ A 1 20 7 = Int32.ofNat l' ∧ (∀ i, i < n' → gzCd (A 1 25 i) (B 0 48 (1262 + 2 * i)) (B 0 48 (1263 + 2 * i))) ∧ gzLn A B l' n') := by
  obtain ⟨N, hN, h31, h9, hby⟩ := he
  have hbt : ∃ bt : Nat → Nat, ∀ q, q < N → bt q < 256 ∧ I 0 32 q = Int32.ofNat (bt q) ∧ (bt q < 128 → I 0 53 q = Int32.ofNat (bt q)) ∧ (128 ≤ bt q → (I 0 53 q).toInt < 0) := by
    refine ⟨fun q => (I 0 53 q).toInt8.toBitVec.toNat, fun q hq => ?_⟩
    obtain ⟨x1, x2⟩ := hby q hq
    have hk : (I 0 53 q).toInt8.toBitVec.toNat < 256 := (I 0 53 q).toInt8.toBitVec.isLt
    have he : Int8.ofNat (I 0 53 q).toInt8.toBitVec.toNat = (I 0 53 q).toInt8 := by
      apply Int8.toBitVec_inj.1
      show BitVec.ofNat 8 _ = _
      rw [BitVec.ofNat_toNat]
      simp
    have := gz_by _ hk
    rw [he, x2] at this
    exact ⟨hk, x1.trans this.1, this.2⟩
  obtain ⟨bt, hbt⟩ := hbt
  obtain ⟨c, bg, en, cd, I1, r1, hk, r3, r4, r5, r6, r7⟩ := c_readq (φ := φ) (J := J) hN h31 (fun q hq => ⟨(hbt q hq).2.1, (hbt q hq).1⟩) hφ
  obtain ⟨A1, eA1⟩ : ∃ A1, A1 = gz_ui (gz_ui (gz_ui I1 1 20 7 (-1)) 1 20 8 0) 1 20 7 0 := ⟨_, rfl⟩
  have fA1 : ∀ t o k, ¬ (t = 1 ∧ o = 20) → A1 t o k = I1 t o k := fun t o k q => by rw [eA1]; exact (if_neg (by omega)).trans ((if_neg (by omega)).trans (if_neg (by omega)))
  have hca : gzCa c bg cd 0 A1 := ⟨Nat.zero_le _, ⟨(fA1 0 33 3 (by omega)).trans r3.1, fun q hq => ⟨(fA1 0 34 q (by omega)).trans (r3.2 q hq).1, (fA1 0 35 q (by omega)).trans (r3.2 q hq).2⟩⟩, (fA1 0 33 4 (by omega)).trans r4.1, (fA1 0 33 5 (by omega)).trans r4.2.1, (fA1 0 33 6 (by omega)).trans r4.2.2⟩
  obtain ⟨B1, eB1⟩ : ∃ B1, B1 = gz_ui (gz_ui (gz_ui (gz_ui (gz_ui Im 0 47 0 0) 0 47 11 (Im 0 47 9)) 0 47 9 0) 0 47 10 0) 0 47 16 0 := ⟨_, rfl⟩
  have fB1 : ∀ t o k, ¬ (t = 0 ∧ o = 47 ∧ (k = 0 ∨ k = 9 ∨ k = 10 ∨ k = 11 ∨ k = 16)) → B1 t o k = Im t o k := fun t o k q => by rw [eB1]; exact (if_neg (by omega)).trans ((if_neg (by omega)).trans ((if_neg (by omega)).trans ((if_neg (by omega)).trans (if_neg (by omega)))))
  have hmx : gzMxq B1 N bt := ⟨by rw [eB1]; exact (if_neg (by omega)).trans ((if_neg (by omega)).trans ((if_neg (by omega)).trans (gz_ui_s.trans ((hm 47 9 (by omega)).trans h9)))), fun q hq => by rw [fB1 0 53 q (by omega), hm 53 q (by omega)]; exact (hbt q hq).2.2⟩
  have hmp : gzMp B1 bt bg 0 := ⟨0, by rw [eB1]; exact (if_neg (by omega)).trans gz_ui_s, Nat.zero_le _, fun q q1 q2 => gz_kk0.1 (hk.2.2.2.2.2.1 q q2)⟩
  obtain ⟨B2, b1, b2, b3, b4⟩ := m_blanks (φ := φ) (J := J') hk hmx hmp (Nat.zero_le _) hφ
  have hm0 : f_X12_readAll φ 0 Im J' = if ¬ B2 0 47 10 = B2 0 47 11 then f_X12_readAll_28 φ φ 0 0 B2 J' else some (0, B2, J') := by
    unfold f_X12_readAll f_X12_uses
    simp only [Option.bind_some]
    rw [← eB1, b1]
    rfl
  have hc0 : gzCw φ I J = if cd 0 = -3 then some (.ok (), A1, J) else f_X3_read_20 φ 1 φ 0 A1 J := by
    unfold gzCw
    rw [r1]
    unfold f_X2_clear
    simp only [Option.bind_some]
    unfold f_X3_read
    rw [← eA1, c_is hca]
    simp only [Option.bind_some]
    by_cases z : cd 0 = -3
    · rw [if_pos z, if_pos z, if_neg (by decide)]
    · rw [if_neg z, if_neg z, if_pos rfl]
  have FA : ∀ A, gzFf A1 A → gzF1 I A := fun A h t o k q r => by rw [h t o k (by omega) r, fA1 t o k (by omega), r7 t o k (by omega)]
  have MB : ∀ B, gzMf B2 B → gzM1 Im B := fun B h t o k q r => by rw [h t o k (by omega) r, b2 t o k (by omega), fB1 t o k (by omega)]
  have hA31 : ∀ A, gzFf A1 A → A 0 31 1 = 0 := fun A h => (h 0 31 1 (by omega) (by omega)).trans ((fA1 0 31 1 (by omega)).trans r5)
  have hB9 : ∀ B, gzMf B2 B → B 0 47 9 = 0 := fun B h => by rw [h 0 47 9 (by omega) (by omega), b2 0 47 9 (by omega), eB1]; exact (if_neg (by omega)).trans ((if_neg (by omega)).trans gz_ui_s)
  have hB0 : ∀ B, gzMf B2 B → B 0 47 0 = 0 := fun B h => by rw [h 0 47 0 (by omega) (by omega), b2 0 47 0 (by omega), eB1]; exact (if_neg (by omega)).trans ((if_neg (by omega)).trans ((if_neg (by omega)).trans ((if_neg (by omega)).trans gz_ui_s)))
  have hA7 : ∀ A, gzFg A1 A → A 0 33 7 = -1 := fun A h => (h 0 33 7 (by omega) (by omega)).trans ((fA1 0 33 7 (by omega)).trans r6)
  have h11 : B2 0 47 11 = Int32.ofNat N := (b2 0 47 11 (by omega)).trans hmx.1
  obtain ⟨g1, g2⟩ := gz_end hk (Nat.zero_le c)
  have hb := (gzTk_bg hk (Nat.zero_le c)).1
  rw [hm0, hc0]
  by_cases hc : 0 = c
  · rw [if_pos (g1.2 hc), if_neg (fun y => y (by rw [b3, h11, g2.2 hc]))]
    refine Or.inr ⟨A1, B2, 0, 0, rfl, rfl, FA A1 (fun _ _ _ _ _ => rfl), MB B2 (fun _ _ _ _ _ => rfl), hA7 A1 (fun _ _ _ _ _ => rfl), hA31 A1 (fun _ _ _ _ _ => rfl), hB9 B2 (fun _ _ _ _ _ => rfl), hB0 B2 (fun _ _ _ _ _ => rfl), by omega, by omega, by rw [eA1]; exact gz_ui_s, fun i hi => by omega, fun q hq => by omega⟩
  · rw [if_neg (fun y => hc (g1.1 y)), if_pos (show ¬ B2 0 47 10 = B2 0 47 11 by rw [b3, h11, gzn_inj (by omega) (by omega)]; exact fun y => hc (g2.1 y))]
    have hy : gzLy N c bt bg cd A1 B2 0 0 0 := ⟨hca, ⟨Nat.zero_le _, gzMx_mo hmx b2, gzMp_at b3⟩, by rw [eA1]; exact (if_neg (by omega)).trans gz_ui_s, by rw [b2 0 47 16 (by omega), eB1]; exact gz_ui_s, by rw [eA1]; exact gz_ui_s, Nat.le_refl _, fun i hi => by omega, fun q hq => by omega⟩
    rcases r_lawL (φ := φ) (J := J) (J' := J') hk hφ 12 0 φ φ 0 0 A1 B2 (by omega) (by omega) (by omega) hy with ⟨A, B, i1, i2, i3, i4, i5⟩ | ⟨A, B, n', l', i1, i2, i3, i4, i5, i6, i7, i8, i9⟩
    · exact Or.inl ⟨A, B, i1, i2, FA A i3, MB B i4, i5, hA31 A i3, hB9 B i4, hB0 B i4⟩
    · exact Or.inr ⟨A, B, n', l', i1, i2, FA A (gzFf_fg i6), MB B i7, hA7 A i6, hA31 A (gzFf_fg i6), hB9 B i7, hB0 B i7, i3, i4, i5, i8, i9⟩
theorem gzR_tf {I I2 : gzIT} (h : gzR I I) (hE : ∀ t o k, ¬ (gzCs t o k ∧ gzMw t o k) → ¬ (o = 31 ∨ o = 32 ∨ o = 53) → ¬ (t = 0 ∧ o = 47 ∧ (k = 9 ∨ k = 14)) → ¬ (t = 0 ∧ o = 33 ∧ k = 7) → I2 t o k = I t o k) (he : gzRe I2 I2) (hf : I2 0 33 7 = I2 0 47 14) : gzR I2 I2 := by
  obtain ⟨w, v, h1, h2, h3, h4, ⟨k, m, p1, p2, p3, p4, p5, p6⟩, ⟨i1, i2⟩, -, h8, h9⟩ := h
  have hE' : ∀ t o k, ¬ (gzCs t o k ∧ gzMw t o k) → (o ≠ 31 ∧ o ≠ 32 ∧ o ≠ 53 ∧ o ≠ 33) → ¬ (o = 47 ∧ (k = 9 ∨ k = 14)) → I2 t o k = I t o k := fun t o k a b c => hE t o k a (by omega) (by omega) (by omega)
  have c0 : ∀ t o k, t ≠ 1 → o < 20 → o ≠ 6 → I2 t o k = I t o k := fun t o k b c d => hE' t o k (by unfold gzCs gzMw; omega) (by omega) (by omega)
  have cl : ∀ t o k, t ≠ 1 → 20 ≤ o → o < 26 → I2 t o k = I t o k := fun t o k a b c => hE' t o k (by unfold gzCs gzMw; omega) (by omega) (by omega)
  refine ⟨w, v, fun i hi => ?_, fun i hi => ?_, gzRt_congr (fun o k => c0 0 o k (by omega)) h3, gzLw_congr (fun o k => cl 0 o k (by omega)) h4, ⟨k, m, p1, p2, ?_, ?_, ?_, fun j hj => ?_⟩, ⟨?_, ?_⟩, he, hf, fun t ht h1 => ?_⟩
  · rw [hE' 0 48 i (by unfold gzCs gzMw; omega) (by omega) (by omega)]; exact h1 i hi
  · rw [hE' 0 48 (364 + i) (by unfold gzCs gzMw; omega) (by omega) (by omega)]; exact h2 i hi
  · rw [hE' 0 39 1 (by unfold gzCs gzMw; omega) (by omega) (by omega)]; exact p3
  · rw [hE' 0 47 7 (by unfold gzCs gzMw; omega) (by omega) (by omega)]; exact p4
  · rw [hE' 0 39 2 (by unfold gzCs gzMw; omega) (by omega) (by omega)]; exact p5
  · obtain ⟨w2, q1, q2, q3⟩ := p6 j hj
    refine ⟨w2, fun i hi => ?_, gzRt_congr (fun o k => c0 _ o k (by omega)) q2, q3⟩
    rw [hE' 0 52 _ (by unfold gzCs gzMw; omega) (by omega) (by omega)]; exact q1 i hi
  · rw [hE' 0 30 12 (by unfold gzCs gzMw; omega) (by omega) (by omega), hE' 0 47 6 (by unfold gzCs gzMw; omega) (by omega) (by omega)]; exact i1
  · rw [hE' 0 47 6 (by unfold gzCs gzMw; omega) (by omega) (by omega)]
    rcases i2 with i2 | ⟨i2, w2, v2, q1, q2, q3, q4⟩
    · exact Or.inl i2
    · refine Or.inr ⟨i2, w2, v2, fun i hi => ?_, fun i hi => ?_, gzRt_congr (fun o k => c0 2 o k (by omega)) q3, gzLw_congr (fun o k => cl 2 o k (by omega)) q4⟩
      · rw [hE' 0 49 _ (by unfold gzCs gzMw; omega) (by omega) (by omega)]; exact q1 i hi
      · rw [hE' 0 49 _ (by unfold gzCs gzMw; omega) (by omega) (by omega)]; exact q2 i hi
  · obtain ⟨b1, b2⟩ := h9 t ht h1
    refine ⟨fun k hk => ?_, ?_⟩
    · rw [c0 t 13 k h1 (by omega) (by omega), c0 t 14 k h1 (by omega) (by omega)]; exact b1 k hk
    · rw [c0 t 0 9 h1 (by omega) (by omega)]; exact b2
end
