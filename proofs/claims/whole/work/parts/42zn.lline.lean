/-! the law's lines, both sides -/
/-- the lines so far -/
def gzLn (Ic Im : gzIT) (l n : Nat) : Prop := ∀ q, q < l → ∃ kd b e : Nat, kd < 3 ∧ b ≤ e ∧ e ≤ n ∧ Ic 1 21 q = Int32.ofNat (1023 + kd) ∧ Im 0 48 (1214 + 4 * q) = Int32.ofNat kd ∧ Ic 1 22 q = Im 0 48 (1215 + 4 * q) ∧ (0 ≤ (Im 0 48 (1215 + 4 * q)).toInt ∧ (Im 0 48 (1215 + 4 * q)).toInt ≤ 100) ∧ Ic 1 23 q = Int32.ofNat b ∧ Im 0 48 (1216 + 4 * q) = Int32.ofNat b ∧ Ic 1 24 q = Int32.ofNat e ∧ Im 0 48 (1217 + 4 * q) = Int32.ofNat e ∧ (b = e ∨ gzSh (fun i => Im 0 48 (1213 + i)) b (e - b) [] = some [true])
/-- both at thing j, behind l lines with n codes -/
def gzLy (N c : Nat) (bt bg : Nat → Nat) (cd : Nat → Int32) (Ic Im : gzIT) (j n l : Nat) : Prop := gzCa c bg cd j Ic ∧ gzMa N c bt bg j Im ∧ Ic 1 20 8 = Int32.ofNat n ∧ Im 0 47 16 = Int32.ofNat n ∧ Ic 1 20 7 = Int32.ofNat l ∧ n ≤ j ∧ (∀ i, i < n → gzCd (Ic 1 25 i) (Im 0 48 (1262 + 2 * i)) (Im 0 48 (1263 + 2 * i))) ∧ gzLn Ic Im l n
def gzFg (I I' : gzIT) : Prop := ∀ t o k, ¬ (t = 0 ∧ o = 33 ∧ (k = 4 ∨ k = 5 ∨ k = 6)) → ¬ (t = 1 ∧ 20 ≤ o ∧ o < 26) → I' t o k = I t o k
/-- what the model does behind a line's first word -/
def gzMn (φ l kd : Nat) (I : gzIT) (J : gzJT) : Option (Int32 × gzIT × gzJT) := Option.bind (f_X12_number φ 0 100 (gz_ui I 0 48 (1214 + 4 * l) (Int32.ofNat kd)) J) (fun v => if 0 ≤ v.1 then (Option.bind (f_X12_passes φ 41 (gz_ui (gz_ui (gz_ui v.2.1 0 48 (1214 + 4 * l + 1) v.1) 0 48 (1214 + 4 * l + 2) (v.2.1 0 47 16)) 0 47 13 0) v.2.2) (fun v13 => if v13.1 = 0 then (some (1, gz_ui v13.2.1 0 48 (1214 + 4 * l + 3) (v13.2.1 0 47 16), v13.2.2)) else (Option.bind (f_X12_readCond φ v13.2.1 v13.2.2) (fun v16 => if ¬ v16.1 = 0 then (some (1, gz_ui v16.2.1 0 48 (1214 + 4 * l + 3) (v16.2.1 0 47 16), v16.2.2)) else (some (0, v16.2.1, v16.2.2)))))) else (some (0, gz_ui v.2.1 0 48 (1214 + 4 * l + 1) v.1, v.2.2)))
section
variable {I I' I2 X M M0 Ic Im Ic' Im' Ic2 Im2 : gzIT} {J J' : gzJT} {φ n c N d : Nat} {kd bt B E bg en : Nat → Nat} {cd : Nat → Int32}
theorem gzFg_trans (a : gzFg I I') (b : gzFg I' I2) : gzFg I I2 := fun t o k q r => (b t o k q r).trans (a t o k q r)
theorem gzFf_fg (a : gzFg I I') : gzFf I I' := fun t o k q r => a t o k (by omega) r
theorem gzFg_fl (a : gzFl I I') : gzFg I I' := fun t o k q r => a t o k q (by omega)
theorem gzMf_mo (a : gzMo I I') : gzMf I I' := fun t o k q _ => a t o k (by omega)
theorem gzLn_keep {l n' : Nat} (h : gzLn Ic Im l n) (hl : l ≤ 12) (hc : ∀ o k, 21 ≤ o → o < 25 → k < l → Ic' 1 o k = Ic 1 o k) (hm : ∀ k, 1214 ≤ k → k < 1214 + 4 * l → Im' 0 48 k = Im 0 48 k) (hm2 : ∀ k, 1262 ≤ k → k < 1262 + 2 * n → Im' 0 48 k = Im 0 48 k) (hn : n ≤ n') : gzLn Ic' Im' l n' := fun q hq => by
  obtain ⟨kd, b, e, h1, h2, h3, h4, h5, h6, h7, h8, h9, h10, h11, h12⟩ := h q hq
  refine ⟨kd, b, e, h1, h2, by omega, (hc 21 q (by omega) (by omega) hq).trans h4, (hm _ (by omega) (by omega)).trans h5, ?_, ?_, (hc 23 q (by omega) (by omega) hq).trans h8, (hm _ (by omega) (by omega)).trans h9, (hc 24 q (by omega) (by omega) hq).trans h10, (hm _ (by omega) (by omega)).trans h11, ?_⟩
  · rw [hc 22 q (by omega) (by omega) hq, hm (1215 + 4 * q) (by omega) (by omega)]; exact h6
  · rw [hm (1215 + 4 * q) (by omega) (by omega)]; exact h7
  · rcases h12 with x | x
    · exact Or.inl x
    · refine Or.inr ?_
      rw [gzSh_cg (v := fun i => Im 0 48 (1213 + i)) (e - b) b [] (fun q q1 q2 => hm2 (1213 + (49 + 2 * q)) (by omega) (by omega))]
      exact x
theorem m_lawLine {j l : Nat} (hk : gzTkq N c bt bg en cd) (hx : gzMxq I N bt) (h10 : I 0 47 10 = Int32.ofNat (gzLe c bt bg en j)) (h12 : I 0 47 12 = Int32.ofNat (bg j)) (hj : j ≤ c) (hl : l < 12) (hφ : 500 < φ) : (∃ kd, kd < 3 ∧ cd j = Int32.ofNat (1023 + kd) ∧ f_X12_readLawLine φ (Int32.ofNat l) I J = gzMn φ l kd I J) ∨ ((∀ v, v < 3 → cd j ≠ Int32.ofNat (1023 + v)) ∧ f_X12_readLawLine φ (Int32.ofNat l) I J = some (0, gz_ui I 0 48 (1214 + 4 * l) (-1), J)) := by
  obtain ⟨-, -, -, -, -, -, -, -, -, -, -, w0, w1, w2, -⟩ := gzWa_tab
  have g : ∀ a, 17 ≤ a → a < 47 → f_X12_isWord φ a I = some (if cd j = gzWa a then 1 else 0) := fun a h1 h2 => m_word hk hx h10 h12 hj h1 h2 hφ
  have gd : ∀ {β : Type} (k : Nat) (x : Option β), k < 4 → gzGd (Int32.ofNat (1214 + 4 * l + k)) 2062 x = x := fun k x hk => gzGd_in (by omega) (by omega)
  have cl : ∀ k, k < 4 → (Int32.ofNat (1214 + 4 * l + k)).toNatClampNeg = 1214 + 4 * l + k := fun k hk => gzn_clamp (by omega)
  have e1 : (1214 : Int32) + 4 * Int32.ofNat l = Int32.ofNat (1214 + 4 * l + 0) := by rw [gzc_mul, gzc_add']; rfl
  have e2 : Int32.ofNat (1214 + 4 * l + 0) + 1 = Int32.ofNat (1214 + 4 * l + 1) := gzn_succ _
  have e3 : Int32.ofNat (1214 + 4 * l + 0) + 2 = Int32.ofNat (1214 + 4 * l + 2) := gzc_add
  have e4 : Int32.ofNat (1214 + 4 * l + 0) + 3 = Int32.ofNat (1214 + 4 * l + 3) := gzc_add
  unfold f_X12_readLawLine
  rw [g 38 (by omega) (by omega), g 39 (by omega) (by omega), g 40 (by omega) (by omega), w0, w1, w2]
  simp only [Option.bind_some]
  rw [e1, e2, e3, e4]
  by_cases h0 : cd j = 1023
  · refine Or.inl ⟨0, by omega, h0, ?_⟩
    rw [if_neg (by rw [if_pos h0]; decide), gd 0 _ (by omega), if_pos (by decide), cl 0 (by omega), cl 1 (by omega), cl 2 (by omega), cl 3 (by omega)]
    simp only [gd 1 _ (show 1 < 4 by omega), gd 2 _ (show 2 < 4 by omega), gd 3 _ (show 3 < 4 by omega)]
    rfl
  by_cases h1 : cd j = 1024
  · refine Or.inl ⟨1, by omega, h1, ?_⟩
    rw [if_pos (if_neg h0), if_neg (by rw [if_pos h1]; decide), gd 0 _ (by omega), if_pos (by decide), cl 0 (by omega), cl 1 (by omega), cl 2 (by omega), cl 3 (by omega)]
    simp only [gd 1 _ (show 1 < 4 by omega), gd 2 _ (show 2 < 4 by omega), gd 3 _ (show 3 < 4 by omega)]
    rfl
  by_cases h2 : cd j = 1025
  · refine Or.inl ⟨2, by omega, h2, ?_⟩
    rw [if_pos (if_neg h0), if_pos (if_neg h1), if_neg (by rw [if_pos h2]; decide), gd 0 _ (by omega), if_pos (by decide), cl 0 (by omega), cl 1 (by omega), cl 2 (by omega), cl 3 (by omega)]
    simp only [gd 1 _ (show 1 < 4 by omega), gd 2 _ (show 2 < 4 by omega), gd 3 _ (show 3 < 4 by omega)]
    rfl
  refine Or.inr ⟨fun v hv x => ?_, ?_⟩
  · rcases (show v = 0 ∨ v = 1 ∨ v = 2 by omega) with rfl | rfl | rfl
    · exact h0 x
    · exact h1 x
    · exact h2 x
  · rw [if_pos (if_neg h0), if_pos (if_neg h1), if_pos (if_neg h2), gd 0 _ (by omega), if_neg (by decide), cl 0 (by omega)]
    rfl
/-- both fail, at the same place, or a line more stands -/
def gzLoq (N c : Nat) (bt bg : Nat → Nat) (cd : Nat → Int32) (Ic Im : gzIT) (J J' : gzJT) (l j : Nat) (rc : Option (Except String Unit × gzIT × gzJT)) (rm : Option (Int32 × gzIT × gzJT)) : Prop :=
  (∃ Ic' Im', rc = some (.error "java/lang/IllegalArgumentException", Ic', J) ∧ rm = some (0, Im', J') ∧ gzFf Ic Ic' ∧ gzMf Im Im' ∧ Ic' 0 33 7 = Im' 0 47 12) ∨
  (∃ Ic' Im' j' n', rc = some (.ok (), Ic', J) ∧ rm = some (1, Im', J') ∧ gzLy N c bt bg cd Ic' Im' j' n' l ∧ gzFg Ic Ic' ∧ gzMf Im Im' ∧ j < j')
/-- the end of a line -/
theorem r_lineE {l j j0 n b kd v : Nat} {Ic0 Im0 : gzIT} (hl : l < 12) (hkd : kd < 3) (hv : v ≤ 100) (hb : b ≤ n) (hn : n ≤ j) (hn4 : n ≤ 400) (h1 : gzCa c bg cd j Ic) (h2 : gzMa N c bt bg j Im) (h3 : Ic 1 20 8 = Int32.ofNat n) (h4 : Im 0 47 16 = Int32.ofNat n) (h5 : Ic 1 20 7 = Int32.ofNat l) (h6 : ∀ i, i < n → gzCd (Ic 1 25 i) (Im 0 48 (1262 + 2 * i)) (Im 0 48 (1263 + 2 * i))) (h7 : gzLn Ic Im l n) (m0 : Im 0 48 (1214 + 4 * l) = Int32.ofNat kd) (m1 : Im 0 48 (1214 + 4 * l + 1) = Int32.ofNat v) (m2 : Im 0 48 (1214 + 4 * l + 2) = Int32.ofNat b) (hs : b = n ∨ gzSh (fun i => Im 0 48 (1213 + i)) b (n - b) [] = some [true]) (fc : gzFg Ic0 Ic) (fm : gzMf Im0 Im) (hj : j0 < j) : gzLoq N c bt bg cd Ic0 Im0 J J' (l + 1) j0 (Option.bind (f_X2_addLine 1 (1023 + Int32.ofNat kd) (Int32.ofNat v) (Int32.ofNat b) Ic J) (fun v12 => some (.ok (), v12.2.1, v12.2.2))) (some (1, gz_ui Im 0 48 (1214 + 4 * l + 3) (Im 0 47 16), J')) := by
  obtain ⟨A, eA⟩ : ∃ A, A = gz_ui (gz_ui (gz_ui (gz_ui (gz_ui Ic 1 21 l (Int32.ofNat (1023 + kd))) 1 22 l (Int32.ofNat v)) 1 23 l (Int32.ofNat b)) 1 24 l (Int32.ofNat n)) 1 20 7 (Int32.ofNat (l + 1)) := ⟨_, rfl⟩
  obtain ⟨B, eB⟩ : ∃ B, B = gz_ui Im 0 48 (1214 + 4 * l + 3) (Im 0 47 16) := ⟨_, rfl⟩
  have fA : ∀ t o k, ¬ (t = 1 ∧ (21 ≤ o ∧ o < 25 ∧ k = l ∨ o = 20 ∧ k = 7)) → A t o k = Ic t o k := fun t o k q => by rw [eA]; exact (if_neg (by omega)).trans ((if_neg (by omega)).trans ((if_neg (by omega)).trans ((if_neg (by omega)).trans (if_neg (by omega)))))
  have fB : ∀ t o k, ¬ (t = 0 ∧ o = 48 ∧ k = 1214 + 4 * l + 3) → B t o k = Im t o k := fun t o k q => by rw [eB]; exact if_neg q
  have hadd : f_X2_addLine 1 (1023 + Int32.ofNat kd) (Int32.ofNat v) (Int32.ofNat b) Ic J = some ((), A, J) := by
    unfold f_X2_addLine
    rw [h5, if_neg (by rw [gzc_lt0 (by omega)]; exact id), if_neg (by rw [gzc_le1 (by omega) (by omega)]; omega), gzGd_in (by omega) (by omega), gzn_clamp (by omega), gzc_add', gzn_succ, h3, eA]
  rw [hadd, ← eB]
  refine Or.inr ⟨A, B, j, n, rfl, rfl, ⟨⟨h1.1, ⟨(fA 0 33 3 (by omega)).trans h1.2.1.1, fun q hq => ⟨(fA 0 34 q (by omega)).trans (h1.2.1.2 q hq).1, (fA 0 35 q (by omega)).trans (h1.2.1.2 q hq).2⟩⟩, (fA 0 33 4 (by omega)).trans h1.2.2.1, (fA 0 33 5 (by omega)).trans h1.2.2.2.1, (fA 0 33 6 (by omega)).trans h1.2.2.2.2⟩, ⟨h2.1, ⟨(fB 0 47 11 (by omega)).trans h2.2.1.1, fun q hq => by rw [fB 0 53 q (by omega)]; exact h2.2.1.2 q hq⟩, ?_⟩, (fA 1 20 8 (by omega)).trans h3, (fB 0 47 16 (by omega)).trans h4, by rw [eA]; exact gz_ui_s, hn, fun i hi => ?_, fun q hq => ?_⟩, fun t o k q r => (fA t o k (by omega)).trans (fc t o k q r), fun t o k q r => (fB t o k (by omega)).trans (fm t o k q r), hj⟩
  · obtain ⟨p, p1, p2⟩ := h2.2.2
    exact ⟨p, (fB 0 47 10 (by omega)).trans p1, p2⟩
  · rw [fA 1 25 i (by omega), fB 0 48 (1262 + 2 * i) (by omega), fB 0 48 (1263 + 2 * i) (by omega)]
    exact h6 i hi
  · by_cases z : q = l
    · subst z
      have g0 : A 1 21 q = Int32.ofNat (1023 + kd) := by rw [eA]; exact (if_neg (by omega)).trans ((if_neg (by omega)).trans ((if_neg (by omega)).trans ((if_neg (by omega)).trans gz_ui_s)))
      have g1 : A 1 22 q = Int32.ofNat v := by rw [eA]; exact (if_neg (by omega)).trans ((if_neg (by omega)).trans ((if_neg (by omega)).trans gz_ui_s))
      have g2 : A 1 23 q = Int32.ofNat b := by rw [eA]; exact (if_neg (by omega)).trans ((if_neg (by omega)).trans gz_ui_s)
      have g3 : A 1 24 q = Int32.ofNat n := by rw [eA]; exact (if_neg (by omega)).trans gz_ui_s
      have k0 : B 0 48 (1214 + 4 * q) = Int32.ofNat kd := (fB 0 48 _ (by omega)).trans m0
      have k1 : B 0 48 (1215 + 4 * q) = Int32.ofNat v := (fB 0 48 _ (by omega)).trans (by rw [show 1215 + 4 * q = 1214 + 4 * q + 1 by omega]; exact m1)
      have k2 : B 0 48 (1216 + 4 * q) = Int32.ofNat b := (fB 0 48 _ (by omega)).trans (by rw [show 1216 + 4 * q = 1214 + 4 * q + 2 by omega]; exact m2)
      have k3 : B 0 48 (1217 + 4 * q) = Int32.ofNat n := by rw [show 1217 + 4 * q = 1214 + 4 * q + 3 by omega, eB]; exact gz_ui_s.trans h4
      refine ⟨kd, b, n, hkd, hb, Nat.le_refl _, g0, k0, by rw [g1, k1], by rw [k1, gzn_int (by omega)]; omega, g2, k2, g3, k3, ?_⟩
      rcases hs with x | x
      · exact Or.inl x
      · refine Or.inr ?_
        rw [gzSh_cg (v := fun i => Im 0 48 (1213 + i)) (n - b) b [] (fun q q1 q2 => fB 0 48 (1213 + (49 + 2 * q)) (by omega))]
        exact x
    · exact gzLn_keep h7 (by omega) (fun o k a1 a2 a3 => fA 1 o k (by omega)) (fun k a1 a2 => fB 0 48 k (by omega)) (fun k a1 a2 => fB 0 48 k (by omega)) (Nat.le_refl _) q (by omega)
theorem r_line {l j n : Nat} {I1 : gzIT} (hk : gzTkq N c bt bg en cd) (hφ : 500 < φ) (hl : l < 12) (hy : gzLy N c bt bg cd Ic Im j n l) (hI1 : gzMo Im I1) (h10 : I1 0 47 10 = Int32.ofNat (gzLe c bt bg en j)) (h12 : I1 0 47 12 = Int32.ofNat (bg j)) : gzLoq N c bt bg cd Ic Im J J' (l + 1) j (f_X3_readLine φ 1 Ic J) (f_X12_readLawLine φ (Int32.ofNat l) I1 J') := by
  have hcN := hk.1
  have hN := hk.2.1
  obtain ⟨y1, y2, y3, y4, y5, y6, y7, y8⟩ := hy
  have hjc := y1.1
  unfold f_X3_readLine
  rcases m_lawLine (φ := φ) (J := J') hk (gzMx_mo y2.2.1 hI1) h10 h12 y1.1 hl hφ with ⟨kd, k1, k2, k3⟩ | ⟨k1, k2⟩
  · obtain ⟨A, A1, A2, A3, A4⟩ := c_amongY (J := J) (a := 1023) (m := 3) hk y1 k2 k1 (by omega)
    have A1' : f_X7_among 1023 3 Ic J = some (.ok (Int32.ofNat kd), A, J) := A1
    rw [A1', k3]
    unfold gzMn
    -- the model is behind the word
    have hlt : gzKk (bt (bg j)) = 1 := by
      rcases gzTk_cd hk A4 with q | ⟨-, ⟨-, q, q2⟩ | ⟨-, q⟩⟩ | ⟨-, q⟩
      · exact q.1
      · rw [q, gzn_inj (by omega) (by omega)] at k2; omega
      · rw [q] at k2; exact absurd k2 (gz_n2 (by omega))
      · have := hk.2.2.2.2.1 (bg j) (by have := hk.2.2.2.2.2.2 j A4; omega)
        rw [q, gzn_inj (by omega) (by omega)] at k2; omega
    obtain ⟨B0, eB0⟩ : ∃ B0, B0 = gz_ui I1 0 48 (1214 + 4 * l) (Int32.ofNat kd) := ⟨_, rfl⟩
    have f0 : ∀ t o k, ¬ (t = 0 ∧ o = 47 ∧ (k = 10 ∨ k = 12)) → ¬ (t = 0 ∧ o = 48 ∧ k = 1214 + 4 * l) → B0 t o k = Im t o k := fun t o k q r => by rw [eB0]; exact (if_neg r).trans (hI1 t o k q)
    have hB0 : gzMa N c bt bg (j + 1) B0 := ⟨A4, ⟨(f0 0 47 11 (by omega) (by omega)).trans y2.2.1.1, fun q hq => by rw [f0 0 53 q (by omega) (by omega)]; exact y2.2.1.2 q hq⟩, gzMp_next hk A4 (by rw [eB0]; exact (if_neg (by omega)).trans (h10.trans (congrArg Int32.ofNat (if_pos ⟨A4, hlt⟩))))⟩
    rw [← eB0]
    show gzLoq N c bt bg cd Ic Im J J' (l + 1) j (Option.bind (f_X7_number 100 A J) _) _
    by_cases hn : ∃ v, v < 101 ∧ cd (j + 1) = Int32.ofNat v
    · obtain ⟨v, v1, v2⟩ := hn
      obtain ⟨C, C1, C2, C3, C4⟩ := c_numY (J := J) (x := 100) hk A2 v2 v1 (by omega) rfl
      obtain ⟨B1, b1, b2, b3, b4⟩ := m_numY (φ := φ) (J := J') (hi := 100) hk hB0 (by omega) v2 ((gzc_le2 (by omega) (by omega)).2 (by omega)) hφ
      rw [C1, b1]
      simp only [Option.bind_some]
      rw [if_pos (by rw [show (0 : Int32) = Int32.ofNat 0 from rfl, gzn_le (by omega) (by omega)]; omega)]
      have h16 : B1 0 47 16 = Int32.ofNat n := (b3 0 47 16 (by omega)).trans ((f0 0 47 16 (by omega) (by omega)).trans y4)
      obtain ⟨B2, eB2⟩ : ∃ B2, B2 = gz_ui (gz_ui (gz_ui B1 0 48 (1214 + 4 * l + 1) (Int32.ofNat v)) 0 48 (1214 + 4 * l + 2) (B1 0 47 16)) 0 47 13 0 := ⟨_, rfl⟩
      have f2 : ∀ t o k, ¬ (t = 0 ∧ (o = 47 ∧ k = 13 ∨ o = 48 ∧ (k = 1214 + 4 * l + 1 ∨ k = 1214 + 4 * l + 2))) → B2 t o k = B1 t o k := fun t o k q => by rw [eB2]; exact (if_neg (by omega)).trans ((if_neg (by omega)).trans (if_neg (by omega)))
      have hB2 : gzMa N c bt bg (j + 1 + 1) B2 := by
        refine ⟨b2.1, ⟨(f2 0 47 11 (by omega)).trans b2.2.1.1, fun q hq => by rw [f2 0 53 q (by omega)]; exact b2.2.1.2 q hq⟩, ?_⟩
        obtain ⟨p, p1, p2⟩ := b2.2.2
        exact ⟨p, (f2 0 47 10 (by omega)).trans p1, p2⟩
      rw [← eB2]
      -- all of B2
      have g2 : ∀ t o k, ¬ (t = 0 ∧ o = 47 ∧ (k = 10 ∨ k = 12 ∨ k = 13)) → ¬ (t = 0 ∧ o = 48 ∧ 1214 + 4 * l ≤ k ∧ k < 1217 + 4 * l) → B2 t o k = Im t o k := fun t o k q r => by rw [f2 t o k (by omega), b3 t o k (by omega), f0 t o k (by omega) (by omega)]
      have z0 : B2 0 48 (1214 + 4 * l) = Int32.ofNat kd := by rw [f2 _ _ _ (by omega), b3 _ _ _ (by omega), eB0]; exact gz_ui_s
      have z1 : B2 0 48 (1214 + 4 * l + 1) = Int32.ofNat v := by rw [eB2]; exact (if_neg (by omega)).trans ((if_neg (by omega)).trans gz_ui_s)
      have z2 : B2 0 48 (1214 + 4 * l + 2) = Int32.ofNat n := by rw [eB2, h16]; exact (if_neg (by omega)).trans gz_ui_s
      have z16 : B2 0 47 16 = Int32.ofNat n := (g2 0 47 16 (by omega) (by omega)).trans y4
      have cA : ∀ t o k, ¬ (t = 0 ∧ o = 33 ∧ (k = 4 ∨ k = 5 ∨ k = 6)) → C t o k = Ic t o k := fun t o k q => (C3 t o k q).trans (A3 t o k q)
      have hcC : C 1 20 8 = Int32.ofNat n := (cA 1 20 8 (by omega)).trans y3
      have w41 : gzWa 41 = 1026 := gzWa_tab.2.2.2.2.2.2.2.2.2.2.2.2.2.2.1
      show gzLoq N c bt bg cd Ic Im J J' (l + 1) j (Option.bind (f_X7_take 1026 C J) _) _
      by_cases hif : cd (j + 1 + 1) = 1026
      · obtain ⟨D, D1, D2, D3, D4⟩ := c_takeY (J := J) hk C2 hif (by decide)
        obtain ⟨B3, d1, d2, d3, d4⟩ := m_passY (φ := φ) (J := J') (a := 41) hk hB2 (by omega) (by omega) (by rw [w41]; exact hif) hφ
        rw [D1, d1]
        simp only [Option.bind_some]
        rw [if_neg (by decide), if_neg (by decide), hcC]
        have cD : ∀ t o k, ¬ (t = 0 ∧ o = 33 ∧ (k = 4 ∨ k = 5 ∨ k = 6)) → D t o k = Ic t o k := fun t o k q => (D3 t o k q).trans (cA t o k q)
        have mD : ∀ t o k, ¬ (t = 0 ∧ o = 47 ∧ (k = 10 ∨ k = 12 ∨ k = 13)) → ¬ (t = 0 ∧ o = 48 ∧ 1214 + 4 * l ≤ k ∧ k < 1217 + 4 * l) → B3 t o k = Im t o k := fun t o k q r => (d3 t o k (by omega)).trans (g2 t o k q r)
        have hz : gzLz N c bt bg cd D B3 (j + 1 + 1 + 1) (j + 1 + 1 + 1) n 0 := ⟨D2, d2, (cD 1 20 8 (by omega)).trans y3, (mD 0 47 16 (by omega) (by omega)).trans y4, by rw [d3 0 47 13 (by omega), eB2]; exact gz_ui_s, fun i hi => by rw [cD 1 25 i (by omega), mD 0 48 (1262 + 2 * i) (by omega) (by omega), mD 0 48 (1263 + 2 * i) (by omega) (by omega)]; exact y7 i hi⟩
        have hc := r_cond (J := J) (J' := J') (d := 0) (R := fR_X3_readAtom φ 1 gzRf) (R' := fR_X12_readAtom φ gzRf) hk hφ (by omega) (fun j n Ic Im g1 g2 => r_atom hk hφ gzRf 0 j n Ic Im (by omega) (by decide) g1 g2) (by omega) hz
        have hc' : gzOkq N c bt bg cd D B3 J J' (j + 1 + 1 + 1) n 0 0 (2 * 0) (fun L => L) (fun L => true :: L) (f_X3_readCondition φ 1 0 D J) (f_X12_readCond φ B3 J') := hc
        rcases hc' with ⟨E, F, e1, e2, e3, e4, e5⟩ | ⟨E, F, j', n', e1, e2, e3, e4, e5, e6, e7, e8, e9⟩
        · rw [e1, e2]
          refine Or.inl ⟨E, F, rfl, rfl, fun t o k q r => (e3 t o k q r).trans (cD t o k (by omega)), fun t o k q r => (e4 t o k q r).trans (mD t o k (by omega) (by omega)), e5⟩
        · rw [e1, e2]
          have hj' : j' ≤ c := e3.1.1
          simp only [Option.bind_some]
          rw [if_pos (by decide)]
          have eF : ∀ k, k < 1262 + 2 * n → F 0 48 k = B3 0 48 k := fun k hk => e5 0 48 k (by omega) (by omega)
          refine r_lineE (Ic := E) (Im := F) (n := n') (j := j') (b := n) (kd := kd) (v := v) hl k1 (by omega) e6 (by omega) (by omega) e3.1 e3.2.1 e3.2.2.1 e3.2.2.2.1 ?_ e3.2.2.2.2.2 ?_ ?_ ?_ ?_ ?_ ?_ ?_ (by omega)
          · rw [e4 1 20 7 (by omega) (by omega), cD 1 20 7 (by omega)]; exact y5
          · exact gzLn_keep y8 (by omega) (fun o k a1 a2 a3 => (e4 1 o k (by omega) (by omega)).trans (cD 1 o k (by omega))) (fun k a1 a2 => (eF k (by omega)).trans (mD 0 48 k (by omega) (by omega))) (fun k a1 a2 => (eF k (by omega)).trans (mD 0 48 k (by omega) (by omega))) e6
          · rw [eF _ (by omega), d3 _ _ _ (by omega)]; exact z0
          · rw [eF _ (by omega), d3 _ _ _ (by omega)]; exact z1
          · rw [eF _ (by omega), d3 _ _ _ (by omega)]; exact z2
          · exact Or.inr (e9 [] (by show 0 ≤ _; omega))
          · exact fun t o k q r => (e4 t o k q (by omega)).trans (cD t o k (by omega))
          · exact fun t o k q r => (e5 t o k q (by omega)).trans (mD t o k (by omega) (by omega))
      · obtain ⟨B3, d1, d2, d3, d4⟩ := m_passN (φ := φ) (J := J') (a := 41) hk hB2 (by omega) (by omega) (by rw [w41]; exact hif) hφ
        rw [c_takeN C2 hif, d1]
        simp only [Option.bind_some]
        rw [if_pos (by decide), if_pos (by decide), hcC]
        have mD : ∀ t o k, ¬ (t = 0 ∧ o = 47 ∧ (k = 10 ∨ k = 12 ∨ k = 13)) → ¬ (t = 0 ∧ o = 48 ∧ 1214 + 4 * l ≤ k ∧ k < 1217 + 4 * l) → B3 t o k = Im t o k := fun t o k q r => (d3 t o k (by omega)).trans (g2 t o k q r)
        refine r_lineE (Ic := C) (Im := B3) (n := n) (j := j + 1 + 1) (b := n) (kd := kd) (v := v) hl k1 (by omega) (Nat.le_refl _) (by omega) (by omega) C2 d2 hcC ((mD 0 47 16 (by omega) (by omega)).trans y4) ?_ ?_ ?_ ?_ ?_ ?_ (Or.inl rfl) ?_ ?_ (by omega)
        · rw [cA 1 20 7 (by omega)]; exact y5
        · exact fun i hi => by rw [cA 1 25 i (by omega), mD 0 48 (1262 + 2 * i) (by omega) (by omega), mD 0 48 (1263 + 2 * i) (by omega) (by omega)]; exact y7 i hi
        · exact gzLn_keep y8 (by omega) (fun o k a1 a2 a3 => cA 1 o k (by omega)) (fun k a1 a2 => mD 0 48 k (by omega) (by omega)) (fun k a1 a2 => mD 0 48 k (by omega) (by omega)) (Nat.le_refl _)
        · rw [d3 _ _ _ (by omega)]; exact z0
        · rw [d3 _ _ _ (by omega)]; exact z1
        · rw [d3 _ _ _ (by omega)]; exact z2
        · exact fun t o k q r => cA t o k q
        · exact fun t o k q r => mD t o k (by omega) (by omega)
    · obtain ⟨B1, b1, b3, b4⟩ := m_numN (φ := φ) (J := J') (hi := 100) hk hB0 (fun v hv hv2 x => hn ⟨v, by have := (gzc_le2 (by omega) (by omega)).1 hv2; omega, x⟩) hφ
      rw [c_numN (J := J) (x := 100) (n := 101) A2 (fun v hv x => hn ⟨v, hv, x⟩) (by omega) rfl, b1]
      simp only [Option.bind_some]
      rw [if_neg (by decide)]
      refine Or.inl ⟨gzWg bg (j + 1) A, _, rfl, rfl, fun t o k q r => (gzFf_wg t o k q r).trans (A3 t o k (by omega)), fun t o k q r => ?_, ?_⟩
      · exact (if_neg (by omega)).trans ((b3 t o k (by omega)).trans (f0 t o k (by omega) (by omega)))
      · rw [gzWg_7]
        exact b4.symm.trans (if_neg (by omega)).symm
  · have := c_amongN (J := J) (a := 1023) (m := 3) y1 (by omega) k1
    have this' : f_X7_among 1023 3 Ic J = some (.error "java/lang/IllegalArgumentException", gzWg bg j Ic, J) := this
    rw [this', k2]
    refine Or.inl ⟨gzWg bg j Ic, _, rfl, rfl, gzFf_wg, fun t o k q r => (if_neg (by omega)).trans (hI1 t o k (by omega)), ?_⟩
    rw [gzWg_7]
    exact h12.symm.trans (if_neg (by omega)).symm
end
