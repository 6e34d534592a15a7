/-! calls that change the town: what both remember; a town by pairs of cells; forgive, nurse -/
def gzQp (nf ng o k i : Nat) : Prop := (o = 0 ∧ k = 6 ∧ i = 2) ∨ (o = 0 ∧ 7 ≤ k ∧ k ≤ 10 ∧ i = k - 3) ∨ (o = 0 ∧ k = 11 ∧ i = 9) ∨ (o = 19 ∧ k < 4 ∧ i = 10 + k) ∨ (o = 17 ∧ k < 8 ∧ i = 14 + 2 * k) ∨ (o = 18 ∧ k < 8 ∧ i = 15 + 2 * k) ∨ (2 ≤ o ∧ o ≤ 5 ∧ k < nf ∧ i = 28 + o + 4 * k) ∨ (8 ≤ o ∧ o ≤ 14 ∧ k < ng ∧ i = 46 + o + 7 * k)
section
variable {I I' I2 X : gzIT} {J : gzJT} {w w2 : Nat → Int32} {nf ng nl nx nl2 nx2 t t1 φ : Nat}
theorem gzTn_pr (h : gzTn I t w nf ng nl nx) : ∀ o k i, gzQp nf ng o k i → I t o k = w i := by
  obtain ⟨⟨a1, a2, a3, a4, a5, a6⟩, ⟨b1, b2, b3, b4, b5, b6⟩, c1, d1, f1, g1, -⟩ := h
  intro o k i hp
  rcases hp with ⟨rfl, rfl, rfl⟩ | ⟨rfl, x1, x2, rfl⟩ | ⟨rfl, rfl, rfl⟩ | ⟨rfl, x, rfl⟩ | ⟨rfl, x, rfl⟩ | ⟨rfl, x, rfl⟩ | ⟨x1, x2, x, rfl⟩ | ⟨x1, x2, x, rfl⟩
  · exact b1
  · rcases (show k = 7 ∨ k = 8 ∨ k = 9 ∨ k = 10 by omega) with rfl | rfl | rfl | rfl
    · exact b2
    · exact b3
    · exact b4
    · exact b5
  · exact b6
  · exact c1 k x
  · exact (d1 k x).1
  · exact (d1 k x).2
  · rcases (show o = 2 ∨ o = 3 ∨ o = 4 ∨ o = 5 by omega) with rfl | rfl | rfl | rfl
    · exact (f1 k x).1
    · exact (f1 k x).2.1
    · exact (f1 k x).2.2.1
    · exact (f1 k x).2.2.2
  · rcases (show o = 8 ∨ o = 9 ∨ o = 10 ∨ o = 11 ∨ o = 12 ∨ o = 13 ∨ o = 14 by omega) with rfl | rfl | rfl | rfl | rfl | rfl | rfl
    · exact (g1 k x).1
    · exact (g1 k x).2.1
    · exact (g1 k x).2.2.1
    · exact (g1 k x).2.2.2.1
    · exact (g1 k x).2.2.2.2.1
    · exact (g1 k x).2.2.2.2.2.1
    · exact (g1 k x).2.2.2.2.2.2
theorem gzTn_mk (h0 : nf ≤ 6 ∧ ng ≤ 10 ∧ I t 1 5 = Int32.ofNat nf ∧ w 0 = Int32.ofNat nf ∧ I t 7 7 = Int32.ofNat ng ∧ w 1 = Int32.ofNat ng) (hp : ∀ o k i, gzQp nf ng o k i → I t o k = w i) (hl : gzLg I t w nl nx) : gzTn I t w nf ng nl nx := by
  refine ⟨h0, ⟨hp 0 6 2 ?_, hp 0 7 4 ?_, hp 0 8 5 ?_, hp 0 9 6 ?_, hp 0 10 7 ?_, hp 0 11 9 ?_⟩, fun k hk => hp 19 k (10 + k) ?_, fun s hs => ⟨hp 17 s (14 + 2 * s) ?_, hp 18 s (15 + 2 * s) ?_⟩, fun f hf => ⟨hp 2 f (30 + 4 * f) ?_, hp 3 f (31 + 4 * f) ?_, hp 4 f (32 + 4 * f) ?_, hp 5 f (33 + 4 * f) ?_⟩, fun g hg => ⟨hp 8 g (54 + 7 * g) ?_, hp 9 g (55 + 7 * g) ?_, hp 10 g (56 + 7 * g) ?_, hp 11 g (57 + 7 * g) ?_, hp 12 g (58 + 7 * g) ?_, hp 13 g (59 + 7 * g) ?_, hp 14 g (60 + 7 * g) ?_⟩, hl⟩
  all_goals unfold gzQp
  all_goals omega
/-- the bounds of the number i of a row -/
def gzBd (nf ng i : Nat) (x : Int32) : Prop := (i = 2 → 0 ≤ x.toInt ∧ x.toInt ≤ 12) ∧ (i = 4 ∨ i = 5 → 0 ≤ x.toInt ∧ x.toInt ≤ 9999) ∧ (i = 3 ∨ i = 6 → x = 0 ∨ x = 1) ∧ (i = 7 ∨ (10 ≤ i ∧ i < 14) → 0 ≤ x.toInt ∧ x.toInt ≤ 100) ∧ (14 ≤ i ∧ i < 30 → 0 ≤ x.toInt ∧ x.toInt ≤ 9) ∧
  (∀ f, f < nf → (i = 30 + 4 * f → 0 ≤ x.toInt ∧ x.toInt ≤ 9) ∧ (i = 31 + 4 * f ∨ i = 33 + 4 * f → 0 ≤ x.toInt ∧ x.toInt ≤ 99) ∧ (i = 32 + 4 * f → 0 ≤ x.toInt ∧ x.toInt ≤ 999)) ∧
  (∀ g, g < ng → (i = 57 + 7 * g → 0 ≤ x.toInt ∧ x.toInt ≤ 99) ∧ (i = 58 + 7 * g → 0 ≤ x.toInt ∧ x.toInt ≤ 999) ∧ (i = 59 + 7 * g ∨ i = 60 + 7 * g → x = 0 ∨ x = 1))
def gzAbo (w : Nat → Int32) (nf ng : Nat) : Prop := ∀ g, g < ng → ∃ a b o : Nat, a < nf ∧ b < nf ∧ a ≠ b ∧ o < 8 ∧ w (54 + 7 * g) = Int32.ofNat a ∧ w (55 + 7 * g) = Int32.ofNat b ∧ w (56 + 7 * g) = Int32.ofNat o
theorem gzAbo_congr (h : gzAbo w nf ng) (e : ∀ g, g < ng → w2 (54 + 7 * g) = w (54 + 7 * g) ∧ w2 (55 + 7 * g) = w (55 + 7 * g) ∧ w2 (56 + 7 * g) = w (56 + 7 * g)) : gzAbo w2 nf ng := by
  intro g hg
  obtain ⟨a, b, o, h1, h2, h3, h4, h5, h6, h7⟩ := h g hg
  obtain ⟨e1, e2, e3⟩ := e g hg
  exact ⟨a, b, o, h1, h2, h3, h4, e1.trans h5, e2.trans h6, e3.trans h7⟩
theorem gzWx_bd (hf : nf ≤ 6) (h : gzWx w nf ng nl) : gzAbo w nf ng ∧ ∀ i, gzBd nf ng i (w i) := by
  obtain ⟨⟨x1, x2, x3, x4, x5, x6⟩, y2, y3, y4, y5⟩ := h
  refine ⟨x5, fun i => ⟨fun e => ?_, fun e => ?_, fun e => ?_, fun e => ?_, fun e => ?_, fun f hf => ⟨fun e => ?_, fun e => ?_, fun e => ?_⟩, fun g hg => ⟨fun e => ?_, fun e => ?_, fun e => ?_⟩⟩⟩
  · subst e; exact x1
  · rcases e with e | e
    · subst e; exact x2
    · subst e; exact x3
  · rcases e with e | e
    · subst e; exact y5
    · subst e; exact x4
  · exact y4 i e
  · have := y3 (i - 14) (by omega)
    rw [show 14 + (i - 14) = i by omega] at this
    exact this
  · subst e; exact (y2 f hf).1
  · rcases e with e | e
    · subst e; exact (y2 f hf).2.1
    · subst e; exact (y2 f hf).2.2.2
  · subst e; exact (y2 f hf).2.2.1
  · subst e; exact (x6 g hg).1
  · subst e; exact (x6 g hg).2.1
  · rcases e with e | e
    · subst e; exact (x6 g hg).2.2.1
    · subst e; exact (x6 g hg).2.2.2
theorem gzWx_mk (hf : nf ≤ 6) (hg : ng ≤ 10) (ha : gzAbo w nf ng) (hb : ∀ i, i < 364 → gzBd nf ng i (w i)) : gzWx w nf ng nl := by
  refine ⟨⟨(hb 2 (by omega)).1 rfl, (hb 4 (by omega)).2.1 (Or.inl rfl), (hb 5 (by omega)).2.1 (Or.inr rfl), (hb 6 (by omega)).2.2.1 (Or.inr rfl), ha, fun g hg2 => ?_⟩, fun f hf2 => ?_, fun s hs => (hb (14 + s) (by omega)).2.2.2.2.1 (by omega), fun i hi => (hb i (by omega)).2.2.2.1 hi, (hb 3 (by omega)).2.2.1 (Or.inl rfl)⟩
  · exact ⟨((hb (57 + 7 * g) (by omega)).2.2.2.2.2.2 g hg2).1 rfl, ((hb (58 + 7 * g) (by omega)).2.2.2.2.2.2 g hg2).2.1 rfl, ((hb (59 + 7 * g) (by omega)).2.2.2.2.2.2 g hg2).2.2 (Or.inl rfl), ((hb (60 + 7 * g) (by omega)).2.2.2.2.2.2 g hg2).2.2 (Or.inr rfl)⟩
  · exact ⟨((hb (30 + 4 * f) (by omega)).2.2.2.2.2.1 f hf2).1 rfl, ((hb (31 + 4 * f) (by omega)).2.2.2.2.2.1 f hf2).2.1 (Or.inl rfl), ((hb (32 + 4 * f) (by omega)).2.2.2.2.2.1 f hf2).2.2 rfl, ((hb (33 + 4 * f) (by omega)).2.2.2.2.2.1 f hf2).2.1 (Or.inr rfl)⟩
/-- a town that changes alike in both -/
theorem gzRt_ch (hT : gzTn I t w nf ng nl nx) (hx : gzWx w nf ng nl) (hc : I2 t1 1 5 = I t 1 5 ∧ I2 t1 7 7 = I t 7 7 ∧ w2 0 = w 0 ∧ w2 1 = w 1) (hp : ∀ o k i, gzQp nf ng o k i → I2 t1 o k = w2 i ∨ (I2 t1 o k = I t o k ∧ w2 i = w i)) (ha : gzAbo w2 nf ng) (hb : ∀ i, i < 364 → gzBd nf ng i (w2 i) ∨ w2 i = w i) (hl : gzLg I2 t1 w2 nl2 nx2) : gzTn I2 t1 w2 nf ng nl2 nx2 ∧ gzWx w2 nf ng nl2 := by
  obtain ⟨a1, a2, a3, a4, a5, a6⟩ := hT.1
  refine ⟨gzTn_mk ⟨a1, a2, hc.1.trans a3, hc.2.2.1.trans a4, hc.2.1.trans a5, hc.2.2.2.trans a6⟩ (fun o k i q => ?_) hl, gzWx_mk a1 a2 ha fun i hi => ?_⟩
  · rcases hp o k i q with e | ⟨e1, e2⟩
    · exact e
    · rw [e1, e2]; exact gzTn_pr hT o k i q
  · rcases hb i hi with e | e
    · exact e
    · rw [e]; exact (gzWx_bd a1 hx).2 i
/-- numbers with a greatest one; less of a number -/
theorem gz_cap {x y : Int32} {c : Nat} (hx : 0 ≤ x.toInt ∧ x.toInt ≤ 9999) (hy : 0 ≤ y.toInt ∧ y.toInt ≤ 9999) (hc : c ≤ 9999) : 0 ≤ (if x + y < Int32.ofNat c then x + y else Int32.ofNat c).toInt ∧ (if x + y < Int32.ofNat c then x + y else Int32.ofNat c).toInt ≤ c := by
  obtain ⟨a, ha, rfl⟩ := gzn_of hx.1
  obtain ⟨b, hb, rfl⟩ := gzn_of hy.1
  rw [gzn_int ha] at hx
  rw [gzn_int hb] at hy
  rw [gzc_adds]
  by_cases q : Int32.ofNat (a + b) < Int32.ofNat c
  · rw [if_pos q]
    rw [gzn_lt (by omega) (by omega)] at q
    rw [gzn_int (by omega)]
    omega
  · rw [if_neg q, gzn_int (by omega)]
    omega
theorem gz_subb {x y : Int32} (hy : 0 ≤ y.toInt) (h : y.toInt ≤ x.toInt) : (x - y).toInt = x.toInt - y.toInt := by
  obtain ⟨a, ha, rfl⟩ := gzn_of (x := x) (by omega)
  obtain ⟨b, hb, rfl⟩ := gzn_of hy
  rw [gzn_int ha, gzn_int hb] at h
  rw [gzc_subs (by omega), gzn_int (by omega), gzn_int ha, gzn_int hb]
  omega
/-- both remember -/
theorem r_rem (h : gzR I I) (hφ : 4050 < φ) : ∃ (K : gzIT) (k : Nat), k ≤ 12 ∧ f_X5_keep φ 0 I J = some ((), K, J) ∧ (∀ o j, o < 20 → K 0 o j = I 0 o j) ∧ (∀ t o j, 47 ≤ o → K t o j = I t o j) ∧
    (∀ t o j, o < 47 → ¬ gzCs t o j → ¬ (o < 20) → ¬ (o = 39) → K t o j = I t o j) ∧
    (∀ X : gzIT, (∀ t o j, 47 ≤ o → ¬ (t = 0 ∧ o = 47 ∧ j = 0) → X t o j = I t o j) → (∀ J' : gzJT, f_X12_remembers φ X J' = some ((), gzRm X k, J')) ∧ (∀ t o j, ¬ (t = 0 ∧ o = 47 ∧ j = 7) → ¬ (t = 0 ∧ o = 52) → gzRm X k t o j = X t o j) ∧
      ∀ I2 : gzIT, (∀ t o j, o < 47 → ¬ gzCs t o j → ¬ (t = 0 ∧ o < 20) → I2 t o j = K t o j) → (∀ t o j, 47 ≤ o → ¬ gzMw t o j → ¬ (t = 0 ∧ o = 48 ∧ j < 364) → I2 t o j = gzRm X k t o j) → gzRt I2 0 (I2 0 48) → I2 0 48 3 = I 0 48 3 → ((∀ k, k < 10 → (I2 0 13 k = 0 ∨ I2 0 13 k = 1) ∧ (I2 0 14 k = 0 ∨ I2 0 14 k = 1)) ∧ (I2 0 0 9 = 0 ∨ I2 0 0 9 = 1)) → gzR I2 I2) := by
  obtain ⟨w0, v0, -, -, -, -, ⟨k, mm, p1, p2, p3, p4, p5, -⟩, -, -, -, hbo⟩ := id h
  have hb0 := hbo 0 (by omega) (by omega)
  have hK := r_keep h p3 p5 p1 p2
  have hk := c_keep (J := J) (φ := φ) p5 p3 p2 p1 hb0 (by omega)
  obtain ⟨K, eK⟩ : ∃ K, K = gzKp I mm k := ⟨_, rfl⟩
  rw [← eK] at hk hK
  have K0 : ∀ o j, o < 20 → K 0 o j = I 0 o j := fun o j ho => by
    rw [eK]
    unfold gzKp
    have e1 : ∀ (M : gzIT) (v : Int32), gz_ui M 0 39 1 v 0 o j = M 0 o j := fun M v => if_neg (by omega)
    have e2 : ∀ (M : gzIT) (v : Int32), gz_ui M 0 39 2 v 0 o j = M 0 o j := fun M v => if_neg (by omega)
    rw [e1, e2, gzCpy_ne (by omega)]
  have Kb : ∀ t o j, ¬ (o < 20) → ¬ (o = 39) → K t o j = I t o j := fun t o j ho h39 => by
    rw [eK]
    unfold gzKp
    have e1 : ∀ (M : gzIT) (v : Int32), gz_ui M 0 39 1 v t o j = M t o j := fun M v => if_neg (by omega)
    have e2 : ∀ (M : gzIT) (v : Int32), gz_ui M 0 39 2 v t o j = M t o j := fun M v => if_neg (by omega)
    rw [e1, e2]
    unfold gzCpy
    rw [if_neg]
    rintro ⟨-, q⟩
    have := of_decide_eq_true q
    omega
  have rm : ∀ X t o j, ¬ (t = 0 ∧ o = 47 ∧ j = 7) → ¬ (t = 0 ∧ o = 52) → gzRm X k t o j = X t o j := fun X t o j a b => by
    unfold gzRm
    by_cases e : k = 12
    · rw [if_pos e]
      exact (if_neg (by omega)).trans (if_neg (by omega))
    · rw [if_neg e]
      exact (if_neg (by omega)).trans (if_neg (by omega))
  have rmc : ∀ X X2 : gzIT, (∀ j, X2 0 48 j = X 0 48 j) → (∀ j, X2 0 52 j = X 0 52 j) → X2 0 47 7 = X 0 47 7 → gzRm X2 k 0 47 7 = gzRm X k 0 47 7 ∧ ∀ j, gzRm X2 k 0 52 j = gzRm X k 0 52 j := fun X X2 h48 h52 h7 => by
    unfold gzRm gzBk gz_ui
    by_cases e : k = 12
    · rw [if_pos e, if_pos e]
      exact ⟨by simp [h7], fun j => by simp [h48, h52]⟩
    · rw [if_neg e, if_neg e]
      exact ⟨by simp, fun j => by simp [h48, h52]⟩
  refine ⟨K, k, p1, hk, K0, fun t o j ho => Kb t o j (by omega) (by omega), fun t o j _ _ a b => Kb t o j a b, fun X Xh => ?_⟩
  refine ⟨fun J' => m_remembers (X := X) (J := J') (k := k) (φ := φ) ((Xh 0 47 7 (by omega) (by omega)).trans p4) p1 (by omega), rm X, fun I2 ha hb ht h3 hbits => ?_⟩
  obtain ⟨M, eM⟩ : ∃ M : gzIT, M = fun t o j => if o < 47 then K t o j else gzRm I k t o j := ⟨_, rfl⟩
  have hM : gzR M M := gzR_one hK (fun t o j ho => by rw [eM]; exact if_pos ho) (fun t o j ho => by rw [eM]; exact if_neg (by omega))
  have hrc := rmc I X (fun j => Xh 0 48 j (by omega) (by omega)) (fun j => Xh 0 52 j (by omega) (by omega)) (Xh 0 47 7 (by omega) (by omega))
  have Mh : ∀ t o j, 47 ≤ o → M t o j = gzRm I k t o j := fun t o j ho => by rw [eM]; exact if_neg (by omega)
  refine gzR_upd hM (fun t o j a b c => ?_) ht ?_ hbits
  · by_cases ho : o < 47
    · have e : M t o j = K t o j := by rw [eM]; exact if_pos ho
      rw [e]
      exact ha t o j ho (fun q => a ⟨q, by unfold gzMw; omega⟩) b
    · rw [hb t o j (by omega) (fun q => a ⟨by unfold gzCs; omega, q⟩) c, Mh t o j (by omega)]
      by_cases q7 : t = 0 ∧ o = 47 ∧ j = 7
      · obtain ⟨rfl, rfl, rfl⟩ := q7; exact hrc.1
      · by_cases q52 : t = 0 ∧ o = 52
        · obtain ⟨rfl, rfl⟩ := q52; exact hrc.2 j
        · rw [rm X t o j q7 q52, rm I t o j q7 q52]
          exact Xh t o j (by omega) (fun q => a (by unfold gzCs gzMw; omega))
  · rw [Mh 0 48 3 (by omega), rm I 0 48 3 (by omega) (by omega)]; exact h3
/-- a row more in the log -/
theorem gzLg_push (h : gzLg I t w nl nx) (c1 : I2 t1 15 1 = Int32.ofNat (if nl + 1 < 60 then nl + 1 else 60)) (c2 : I2 t1 15 2 = Int32.ofNat ((nx + 1) % 60)) (c3 : I2 t1 16 (nx * 4) = w2 124 ∧ I2 t1 16 (nx * 4 + 1) = w2 125 ∧ I2 t1 16 (nx * 4 + 2) = w2 126 ∧ I2 t1 16 (nx * 4 + 3) = w2 127) (c4 : ∀ j, (j < nx * 4 ∨ nx * 4 + 4 ≤ j) → I2 t1 16 j = I t 16 j) (m1 : w2 8 = Int32.ofNat (if nl + 1 < 60 then nl + 1 else 60)) (m2 : ∀ j, j < 236 → w2 (128 + j) = w (124 + j)) : gzLg I2 t1 w2 (if nl + 1 < 60 then nl + 1 else 60) ((nx + 1) % 60) := by
  obtain ⟨h1, h2, h3, h4, h5, h6⟩ := h
  refine ⟨by split <;> omega, by omega, c1, m1, c2, fun ago hago k hk => ?_⟩
  have hal : ago < nl + 1 ∧ ago < 60 := by split at hago <;> omega
  cases ago with
  | zero =>
    rw [show ((nx + 1) % 60 + 59 - 0) % 60 = nx by omega]
    rcases (show k = 0 ∨ k = 1 ∨ k = 2 ∨ k = 3 by omega) with rfl | rfl | rfl | rfl
    · exact c3.1
    · exact c3.2.1
    · exact c3.2.2.1
    · exact c3.2.2.2
  | succ a =>
    rw [show ((nx + 1) % 60 + 59 - (a + 1)) % 60 = (nx + 59 - a) % 60 by omega, c4 _ (by omega), show 124 + 4 * (a + 1) + k = 128 + (4 * a + k) by omega, m2 _ (by omega), show 124 + (4 * a + k) = 124 + 4 * a + k by omega]
    exact h6 a (by omega) k hk
theorem c_lgput {a1 a2 a3 a4 : Int32} (h1 : I t 15 1 = Int32.ofNat nl) (h2 : I t 15 2 = Int32.ofNat nx) (hl : nl ≤ 60) (hx : nx < 60) : ∃ C : gzIT, f_X4_put t a1 a2 a3 a4 I J = some ((), C, J) ∧ (∀ t' o j, ¬ (t' = t ∧ (o = 15 ∨ o = 16)) → C t' o j = I t' o j) ∧ C t 15 1 = Int32.ofNat (if nl + 1 < 60 then nl + 1 else 60) ∧ C t 15 2 = Int32.ofNat ((nx + 1) % 60) ∧ (C t 16 (nx * 4) = a1 ∧ C t 16 (nx * 4 + 1) = a2 ∧ C t 16 (nx * 4 + 2) = a3 ∧ C t 16 (nx * 4 + 3) = a4) ∧ (∀ j, (j < nx * 4 ∨ nx * 4 + 4 ≤ j) → C t 16 j = I t 16 j) := by
  refine ⟨gz_ui (gz_ui (gz_ui (gz_ui (gz_ui (gz_ui I t 16 (nx * 4) a1) t 16 (nx * 4 + 1) a2) t 16 (nx * 4 + 2) a3) t 16 (nx * 4 + 3) a4) t 15 2 (Int32.ofNat ((nx + 1) % 60))) t 15 1 (Int32.ofNat (if nl + 1 < 60 then nl + 1 else 60)), ?_, fun t' o j q => ?_, gz_ui_s, ?_, ⟨?_, ?_, ?_, ?_⟩, fun j q => ?_⟩
  · unfold f_X4_put
    simp (disch := omega) only [h2, gzc_mul', gzc_add, gzc_write, Option.bind_some, gz_ui_o, not_false_eq_true, h1, gzc_div, gzc_subs]
    rw [show nx + 1 - (nx + 1) / 60 * 60 = (nx + 1) % 60 by omega]
    have e3 : (if Int32.ofNat (nl + 1) < 60 then Int32.ofNat (nl + 1) else 60) = Int32.ofNat (if nl + 1 < 60 then nl + 1 else 60) := by
      by_cases q : nl + 1 < 60
      · rw [if_pos q, if_pos (by rw [gzc_lt2 (by omega) (by omega)]; exact q)]
      · rw [if_neg q, if_neg (by rw [gzc_lt2 (by omega) (by omega)]; exact q)]; rfl
    rw [e3]
  all_goals unfold gz_ui
  · rw [if_neg (by omega), if_neg (by omega), if_neg (by omega), if_neg (by omega), if_neg (by omega), if_neg (by omega)]
  · rw [if_neg (by omega), if_pos ⟨rfl, rfl, rfl⟩]
  · rw [if_neg (by omega), if_neg (by omega), if_neg (by omega), if_neg (by omega), if_neg (by omega), if_pos ⟨rfl, rfl, rfl⟩]
  · rw [if_neg (by omega), if_neg (by omega), if_neg (by omega), if_neg (by omega), if_pos ⟨rfl, rfl, rfl⟩]
  · rw [if_neg (by omega), if_neg (by omega), if_neg (by omega), if_pos ⟨rfl, rfl, rfl⟩]
  · rw [if_neg (by omega), if_neg (by omega), if_pos ⟨rfl, rfl, rfl⟩]
  · rw [if_neg (by omega), if_neg (by omega), if_neg (by omega), if_neg (by omega), if_neg (by omega), if_neg (by omega)]
def gzSf (I : gzIT) (j : Nat) : gzIT := fun t x k => if t = 0 ∧ x = 48 ∧ 124 + j < k ∧ k < 364 then I 0 48 (k - 4) else I t x k
theorem m_tl {a1 a2 a3 : Int32} : ∀ m k, m ≤ 236 → m < k → f_X12_tells_5 φ k a1 a2 a3 (Int32.ofNat (m + 3)) (gzSf I (m + 3)) J = f_X12_tells_5 φ 1 a1 a2 a3 3 (gzSf I 3) J := by
  intro m
  induction m with
  | zero =>
    intro k h1 h2
    obtain ⟨k, rfl⟩ : ∃ q, k = q + 1 := ⟨k - 1, by omega⟩
    show f_X12_tells_5 φ (k + 1) a1 a2 a3 3 (gzSf I 3) J = _
    rw [f_X12_tells_5, f_X12_tells_5]
    refine Eq.trans (if_pos ?_) (Eq.symm (if_pos ?_)) <;> decide
  | succ m ih =>
    intro k h1 h2
    obtain ⟨k, rfl⟩ : ∃ q, k = q + 1 := ⟨k - 1, by omega⟩
    rw [← ih k (by omega) (by omega), f_X12_tells_5, if_neg (by rw [gzc_lt2 (by omega) (by omega)]; omega), gz_subm]
    simp (disch := omega) only [gzc_add', gzc_sub, gzGd_in, gzn_clamp]
    rw [show m + 1 + 3 - 1 = m + 3 by omega]
    refine congrArg (fun M => f_X12_tells_5 φ k a1 a2 a3 (Int32.ofNat (m + 3)) M J) (funext fun t => funext fun x => funext fun j => ?_)
    have e0 : gzSf I (m + 1 + 3) 0 48 (124 + (m + 1 + 3) - 4) = I 0 48 (124 + (m + 1 + 3) - 4) := if_neg (by omega)
    rw [e0]
    unfold gz_ui gzSf
    by_cases e : t = 0 ∧ x = 48 ∧ j = 124 + (m + 1 + 3)
    · rw [if_pos e, if_pos (by omega), e.2.2]
    · rw [if_neg e]
      by_cases e2 : t = 0 ∧ x = 48 ∧ 124 + (m + 1 + 3) < j ∧ j < 364
      · rw [if_pos e2, if_pos (by omega)]
      · rw [if_neg e2, if_neg (by omega)]
theorem m_tells {a1 a2 a3 : Int32} (h8 : I 0 48 8 = Int32.ofNat nl) (hl : nl ≤ 60) (hφ : 300 < φ) : ∃ T : gzIT, (∀ J : gzJT, f_X12_tells φ a1 a2 a3 I J = some ((), T, J)) ∧ (∀ t o j, ¬ (t = 0 ∧ o = 48 ∧ (j = 8 ∨ (124 ≤ j ∧ j < 364))) → T t o j = I t o j) ∧ T 0 48 8 = Int32.ofNat (if nl + 1 < 60 then nl + 1 else 60) ∧ (T 0 48 124 = I 0 48 4 ∧ T 0 48 125 = a1 ∧ T 0 48 126 = a2 ∧ T 0 48 127 = a3) ∧ (∀ j, j < 236 → T 0 48 (128 + j) = I 0 48 (124 + j)) := by
  have S3 : ∀ t o j, ¬ (t = 0 ∧ o = 48 ∧ 127 < j ∧ j < 364) → gzSf I 3 t o j = I t o j := fun t o j q => if_neg (by omega)
  refine ⟨gz_ui (gz_ui (gz_ui (gz_ui (gz_ui (gzSf I 3) 0 48 124 (I 0 48 4)) 0 48 125 a1) 0 48 126 a2) 0 48 127 a3) 0 48 8 (Int32.ofNat (if nl + 1 < 60 then nl + 1 else 60)), fun J => ?_, fun t o j q => ?_, gz_ui_s, ⟨?_, ?_, ?_, ?_⟩, fun j q => ?_⟩
  · unfold f_X12_tells
    have e := m_tl (φ := φ) (I := I) (J := J) (a1 := a1) (a2 := a2) (a3 := a3) 236 φ (by omega) (by omega)
    have e0 : gzSf I (236 + 3) = I := by
      funext t x k
      exact if_neg (by omega)
    rw [e0] at e
    refine (show f_X12_tells_5 φ φ a1 a2 a3 239 I J = _ from e).trans ?_
    rw [f_X12_tells_5, if_pos (by decide)]
    have e3 : (if Int32.ofNat (nl + 1) < 60 then Int32.ofNat (nl + 1) else 60) = Int32.ofNat (if nl + 1 < 60 then nl + 1 else 60) := by
      by_cases q : nl + 1 < 60
      · rw [if_pos q, if_pos (by rw [gzc_lt2 (by omega) (by omega)]; exact q)]
      · rw [if_neg q, if_neg (by rw [gzc_lt2 (by omega) (by omega)]; exact q)]; rfl
    rw [S3 0 48 4 (by omega), S3 0 48 8 (by omega), h8, gzn_succ, e3]
  · exact (if_neg (by omega)).trans ((if_neg (by omega)).trans ((if_neg (by omega)).trans ((if_neg (by omega)).trans ((if_neg (by omega)).trans (S3 t o j (by omega))))))
  · exact (if_neg (by omega)).trans ((if_neg (by omega)).trans ((if_neg (by omega)).trans ((if_neg (by omega)).trans gz_ui_s)))
  · exact (if_neg (by omega)).trans ((if_neg (by omega)).trans ((if_neg (by omega)).trans gz_ui_s))
  · exact (if_neg (by omega)).trans ((if_neg (by omega)).trans gz_ui_s)
  · exact (if_neg (by omega)).trans gz_ui_s
  · refine (if_neg (by omega)).trans ((if_neg (by omega)).trans ((if_neg (by omega)).trans ((if_neg (by omega)).trans ((if_neg (by omega)).trans ((if_pos (by omega)).trans ?_)))))
    rw [show 128 + j - 4 = 124 + j by omega]
theorem m_noGr (h : gzVi I w nf ng) {k : Nat} (hk : k < ng) : f_X12_noGrudge I (Int32.ofNat k) = some 0 := by
  have h4 := h.2.1.1.2.2.2
  unfold f_X12_noGrudge
  rw [m_grudges h]
  simp only [Option.bind_some]
  rw [gzc_sub (k := 1) (show 1 ≤ ng by omega), s_X12_in0 hk (by omega)]
  rfl
theorem m_noFa (h : gzVi I w nf ng) {k : Nat} (hk : k < nf) : f_X12_noFamily I (Int32.ofNat k) = some 0 := by
  have h4 := h.2.1.1.2.2.1
  unfold f_X12_noFamily
  rw [m_families h]
  simp only [Option.bind_some]
  rw [gzc_sub (k := 1) (show 1 ≤ nf by omega), s_X12_in0 hk (by omega)]
  rfl
theorem gzVi_eq (h : gzVi I w nf ng) (e : ∀ k, k < 364 → I' 0 48 k = I 0 48 k) : gzVi I' w nf ng := ⟨fun k hk => (e k hk).trans (h.1 k hk), h.2⟩
theorem L_forgive (p0 : Int32) (h : gzR I I) : ∃ e I1, f_X11_forgive 4096 p0 I J = some (e, I1, J) ∧ (∀ E, e = .error E → ∃ k : Nat, (["java/lang/IndexOutOfBoundsException", "java/lang/IllegalStateException"] : List String)[k]? = some E) ∧ ∀ J' : gzJT, ∃ v I2 J2, f_X12_forgive 4096 p0 I1 J' = some (v, I2, J2) ∧ gzSame e ["java/lang/IndexOutOfBoundsException", "java/lang/IllegalStateException"] v (I2 0 47 0) ∧ J2 0 59 0 = J' 0 59 0 ∧ gzR I2 I2 := by
  obtain ⟨nf, ng, nl, nx, hT, hx, c, b, m⟩ := gzR_go h
  obtain ⟨φ, hφ⟩ : ∃ φ, φ = 4096 := ⟨_, rfl⟩
  rw [← hφ]
  have n3 := c.1.2.2.1
  have n4 := c.1.2.2.2
  rcases p_gr (a := p0) (J := J) c (m 0) with ⟨⟨k, hk, rfl⟩, e1, e2⟩ | ⟨e1, e2⟩
  · by_cases x : tH (I 0 48) k = true
    · refine ⟨.error "java/lang/IllegalStateException", I, ?_, fun E hE => ⟨1, by cases hE; rfl⟩, fun J' => ⟨0, gz_ui (gz_ui I 0 47 0 0) 0 47 0 2, J', ?_, ⟨1, rfl, gz_ui_s⟩, rfl, gzR_thr2 h⟩⟩
      · unfold f_X11_forgive f_X11_needFrozen
        rw [e1]
        simp only [Option.bind_some, gzEx]
        rw [c_frozen c hk, if_pos x]
        rfl
      · unfold f_X12_forgive
        rw [e2]
        simp only [Option.bind_some, s_throws0]
        rw [if_neg (by simp), m_isThawed (m 0) hk, if_pos x]
        simp only [Option.bind_some, s_throws1]
        rfl
    · obtain ⟨K, k0, hk0, hkeep, K0, Kh, Kb, hX⟩ := r_rem (J := J) h (φ := φ) (by omega)
      have hl := hT.2.2.2.2.2.2
      obtain ⟨C1, eC1⟩ : ∃ C1, C1 = gz_ui K 0 14 k 1 := ⟨_, rfl⟩
      have C1n : ∀ t o j, ¬ (t = 0 ∧ o = 14 ∧ j = k) → C1 t o j = K t o j := fun t o j q => by rw [eC1]; exact if_neg q
      have C1s : C1 0 14 k = 1 := by rw [eC1]; exact gz_ui_s
      obtain ⟨C, hput, Cn, Cc1, Cc2, Cc3, Cc4⟩ := c_lgput (J := J) (I := C1) (t := 0) (nl := nl) (nx := nx) (a1 := K 0 0 7) (a2 := Int32.ofNat k) (a3 := 1) (a4 := 0) ((C1n 0 15 1 (by omega)).trans ((K0 15 1 (by omega)).trans hl.2.2.1)) ((C1n 0 15 2 (by omega)).trans ((K0 15 2 (by omega)).trans hl.2.2.2.2.1)) hl.1 hl.2.1
      obtain ⟨X, eX⟩ : ∃ X, X = gz_ui C 0 47 0 0 := ⟨_, rfl⟩
      have Xh : ∀ t o j, 47 ≤ o → ¬ (t = 0 ∧ o = 47 ∧ j = 0) → X t o j = I t o j := fun t o j ho hn => by
        rw [eX]
        exact (if_neg hn).trans ((Cn t o j (by omega)).trans ((C1n t o j (by omega)).trans (Kh t o j ho)))
      have Xc : ∀ t o j, o < 47 → X t o j = C t o j := fun t o j ho => by rw [eX]; exact if_neg (by omega)
      obtain ⟨hrem, Rn, hfin⟩ := hX X Xh
      obtain ⟨R, eR⟩ : ∃ R, R = gzRm X k0 := ⟨_, rfl⟩
      rw [← eR] at hrem Rn hfin
      have vX : gzVi X (I 0 48) nf ng := gzVi_eq (m 0) (fun j hj => (Xh 0 48 j (by omega) (by omega)).trans (if_neg (by omega)).symm)
      obtain ⟨Y, eY⟩ : ∃ Y, Y = gz_ui R 0 48 (60 + 7 * k) 1 := ⟨_, rfl⟩
      have Yn : ∀ t o j, ¬ (t = 0 ∧ o = 48 ∧ j = 60 + 7 * k) → Y t o j = R t o j := fun t o j q => by rw [eY]; exact if_neg q
      have Ys : Y 0 48 (60 + 7 * k) = 1 := by rw [eY]; exact gz_ui_s
      have Yw : ∀ j, ¬ j = 60 + 7 * k → Y 0 48 j = I 0 48 j := fun j q => (Yn 0 48 j (by omega)).trans ((Rn 0 48 j (by omega) (by omega)).trans (Xh 0 48 j (by omega) (by omega)))
      obtain ⟨T, htell, Tn, T8, T4, Ts⟩ := m_tells (I := Y) (φ := φ) (nl := nl) (a1 := Int32.ofNat k) (a2 := 1) (a3 := 0) ((Yw 8 (by omega)).trans hl.2.2.2.1) hl.1 (by omega)
      have Tw : ∀ j, ¬ j = 60 + 7 * k → ¬ (j = 8 ∨ (124 ≤ j ∧ j < 364)) → T 0 48 j = I 0 48 j := fun j q q2 => (Tn 0 48 j (by omega)).trans (Yw j q)
      have Tc : ∀ t o j, o < 47 → T t o j = C t o j := fun t o j ho => (Tn t o j (by omega)).trans ((Yn t o j (by omega)).trans ((Rn t o j (by omega) (by omega)).trans (Xc t o j ho)))
      have Tt : ∀ o j, o < 20 → ¬ (o = 14 ∧ j = k) → ¬ (o = 15 ∨ o = 16) → T 0 o j = I 0 o j := fun o j ho q q2 => (Tc 0 o j (by omega)).trans ((Cn 0 o j (by omega)).trans ((C1n 0 o j (by omega)).trans (K0 o j ho)))
      have T14 : T 0 14 k = 1 := (Tc 0 14 k (by omega)).trans ((Cn 0 14 k (by omega)).trans C1s)
      have Tw60 : T 0 48 (60 + 7 * k) = 1 := (Tn 0 48 _ (by omega)).trans Ys
      have hCk : C 0 12 k = I 0 48 (58 + 7 * k) := (Cn 0 12 k (by omega)).trans ((C1n 0 12 k (by omega)).trans ((K0 12 k (by omega)).trans (c.2.2.2.2.2.1 k hk)))
      obtain ⟨w0, v0, -, -, -, -, -, -, -, -, hbo⟩ := id h
      have hb0 := hbo 0 (by omega) (by omega)
      refine ⟨.ok (I 0 48 (58 + 7 * k)), C, ?_, fun E hE => (by cases hE), fun J' => ⟨I 0 48 (58 + 7 * k), T, J', ?_, ⟨rfl, ?_⟩, rfl, ?_⟩⟩
      · unfold f_X11_forgive f_X11_needFrozen
        rw [e1]
        simp only [Option.bind_some, gzEx]
        rw [c_frozen c hk, if_neg x]
        simp only [Option.bind_some]
        rw [if_pos (by decide)]
        simp only [Option.bind_some, hkeep]
        rw [gzGd_in (by omega) (by omega), gzn_clamp (by omega), ← eC1, hput]
        simp only [Option.bind_some, hCk]
      · unfold f_X12_forgive
        rw [← eX, m_noGr vX hk]
        simp only [Option.bind_some, s_throws0]
        rw [if_neg (by simp), m_isThawed vX hk, if_neg x]
        simp only [Option.bind_some, s_throws0, if_true, hrem J']
        unfold f_X12_at
        simp (disch := omega) only [Option.bind_some, gzc_mul, gzc_add', gzc_add, gzGd_in, gzn_clamp]
        rw [show 54 + 7 * k + 6 = 60 + 7 * k by omega, ← eY, htell]
        simp only [Option.bind_some]
        rw [show (4 : Int32) = Int32.ofNat 4 from rfl, s_X12_of (by omega) (by omega), show 54 + 7 * k + 4 = 58 + 7 * k by omega, Tw (58 + 7 * k) (by omega) (by omega)]
        rfl
      · refine (Tn 0 47 0 (by omega)).trans ((Yn 0 47 0 (by omega)).trans ((Rn 0 47 0 (by omega) (by omega)).trans ?_))
        rw [eX]; exact gz_ui_s
      · obtain ⟨hab, hbd⟩ := gzWx_bd n3 hx
        refine hfin T (fun t o j ho q1 q2 => (Tc t o j ho).trans ((Cn t o j (by omega)).trans (C1n t o j (by omega)))) (fun t o j ho q1 q2 => (Tn t o j (by omega)).trans (Yn t o j (by omega))) ?_ (Tw 3 (by omega) (by omega)) ⟨fun j hj => ?_, ?_⟩
        · have := gzRt_ch (I := I) (I2 := T) (t := 0) (t1 := 0) (w2 := T 0 48) hT hx ⟨Tt 1 5 (by omega) (by omega) (by omega), Tt 7 7 (by omega) (by omega) (by omega), Tw 0 (by omega) (by omega), Tw 1 (by omega) (by omega)⟩ (fun o j i q => ?_) (gzAbo_congr hab fun g hg => ⟨Tw _ (by omega) (by omega), Tw _ (by omega) (by omega), Tw _ (by omega) (by omega)⟩) (fun i hi => ?_) (gzLg_push (w2 := T 0 48) hl ((Tc 0 15 1 (by omega)).trans Cc1) ((Tc 0 15 2 (by omega)).trans Cc2) ⟨?_, ?_, ?_, ?_⟩ (fun j q => ?_) T8 (fun j q => ?_))
          · exact ⟨nf, ng, _, _, this.1, this.2⟩
          · unfold gzQp at q
            by_cases e : o = 14 ∧ j = k
            · left
              obtain ⟨rfl, rfl⟩ := e
              rw [T14, show i = 60 + 7 * j by omega, Tw60]
            · right
              exact ⟨Tt o j (by omega) e (by omega), Tw i (by omega) (by omega)⟩
          · by_cases e : i = 60 + 7 * k
            · left
              rw [e, Tw60]
              exact ⟨fun q => by omega, fun q => by omega, fun q => by omega, fun q => by omega, fun q => by omega, fun f hf => ⟨fun q => by omega, fun q => by omega, fun q => by omega⟩, fun g hg => ⟨fun q => by omega, fun q => by omega, fun q => Or.inr rfl⟩⟩
            · by_cases e2 : i = 8 ∨ (124 ≤ i ∧ i < 364)
              · left
                exact ⟨fun q => by omega, fun q => by omega, fun q => by omega, fun q => by omega, fun q => by omega, fun f hf => ⟨fun q => by omega, fun q => by omega, fun q => by omega⟩, fun g hg => ⟨fun q => by omega, fun q => by omega, fun q => by omega⟩⟩
              · right; exact Tw i e e2
          · rw [Tc 0 16 _ (by omega), Cc3.1, T4.1, Yw 4 (by omega), K0 0 7 (by omega)]; exact hT.2.1.2.1
          · rw [Tc 0 16 _ (by omega), Cc3.2.1, T4.2.1]
          · rw [Tc 0 16 _ (by omega), Cc3.2.2.1, T4.2.2.1]
          · rw [Tc 0 16 _ (by omega), Cc3.2.2.2, T4.2.2.2]
          · rw [Tc 0 16 _ (by omega), Cc4 j q, C1n 0 16 j (by omega), K0 16 j (by omega)]
          · rw [Ts j q, Yw _ (by omega)]
        · by_cases e : j = k
          · rw [e, T14, Tt 13 k (by omega) (by omega) (by omega)]
            exact ⟨(hb0.1 k (by omega)).1, Or.inr rfl⟩
          · rw [Tt 13 j (by omega) (by omega) (by omega), Tt 14 j (by omega) (by omega) (by omega)]
            exact hb0.1 j hj
        · rw [Tt 0 9 (by omega) (by omega) (by omega)]; exact hb0.2
  · refine ⟨.error "java/lang/IndexOutOfBoundsException", I, ?_, fun E hE => ⟨0, by cases hE; rfl⟩, fun J' => ⟨0, gz_ui (gz_ui I 0 47 0 0) 0 47 0 1, J', ?_, ⟨0, rfl, gz_ui_s⟩, rfl, gzR_thr2 h⟩⟩
    · unfold f_X11_forgive
      rw [e1]; rfl
    · unfold f_X12_forgive
      rw [e2]
      simp only [Option.bind_some, s_throws1]
      rfl
end
