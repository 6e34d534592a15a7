/-! a change of one number of the town; prop, undo -/
theorem gzRt_f6 {I I2 : gzIT} {nf ng nl nx : Nat} (hT : gzTn I 0 (I 0 48) nf ng nl nx) (hx : gzWx (I 0 48) nf ng nl) (ec : ∀ o k, o < 20 → ¬ (o = 0 ∧ k = 9) → I2 0 o k = I 0 o k) (em : ∀ k, k ≠ 6 → I2 0 48 k = I 0 48 k) (he : I2 0 0 9 = I2 0 48 6) (hB : I2 0 48 6 = 0 ∨ I2 0 48 6 = 1) : gzRt I2 0 (I2 0 48) := by
  obtain ⟨⟨a1, a2, a3, a4, a5, a6⟩, ⟨b1, b2, b3, b4, b5, b6⟩, c1, d1, f1, g1, ⟨l1, l2, l3, l4, l5, l6⟩⟩ := hT
  refine ⟨nf, ng, nl, nx, ⟨⟨a1, a2, ?_, ?_, ?_, ?_⟩, ⟨?_, ?_, ?_, ?_, ?_, ?_⟩, fun k hk => ?_, fun s hs => ?_, fun f hf => ?_, fun g hg => ?_, ⟨l1, l2, ?_, ?_, ?_, fun a ha k hk => ?_⟩⟩, ?_⟩
  · rw [ec 1 5 (by omega) (by omega)]; exact a3
  · rw [em 0 (by omega)]; exact a4
  · rw [ec 7 7 (by omega) (by omega)]; exact a5
  · rw [em 1 (by omega)]; exact a6
  · rw [ec 0 6 (by omega) (by omega), em 2 (by omega)]; exact b1
  · rw [ec 0 7 (by omega) (by omega), em 4 (by omega)]; exact b2
  · rw [ec 0 8 (by omega) (by omega), em 5 (by omega)]; exact b3
  · exact he
  · rw [ec 0 10 (by omega) (by omega), em 7 (by omega)]; exact b5
  · rw [ec 0 11 (by omega) (by omega), em 9 (by omega)]; exact b6
  · rw [ec 19 k (by omega) (by omega), em (10 + k) (by omega)]; exact c1 k hk
  · rw [ec 17 s (by omega) (by omega), ec 18 s (by omega) (by omega), em (14 + 2 * s) (by omega), em (15 + 2 * s) (by omega)]; exact d1 s hs
  · rw [ec 2 f (by omega) (by omega), ec 3 f (by omega) (by omega), ec 4 f (by omega) (by omega), ec 5 f (by omega) (by omega), em (30 + 4 * f) (by omega), em (31 + 4 * f) (by omega), em (32 + 4 * f) (by omega), em (33 + 4 * f) (by omega)]; exact f1 f hf
  · rw [ec 8 g (by omega) (by omega), ec 9 g (by omega) (by omega), ec 10 g (by omega) (by omega), ec 11 g (by omega) (by omega), ec 12 g (by omega) (by omega), ec 13 g (by omega) (by omega), ec 14 g (by omega) (by omega), em (54 + 7 * g) (by omega), em (55 + 7 * g) (by omega), em (56 + 7 * g) (by omega), em (57 + 7 * g) (by omega), em (58 + 7 * g) (by omega), em (59 + 7 * g) (by omega), em (60 + 7 * g) (by omega)]; exact g1 g hg
  · rw [ec 15 1 (by omega) (by omega)]; exact l3
  · rw [em 8 (by omega)]; exact l4
  · rw [ec 15 2 (by omega) (by omega)]; exact l5
  · rw [ec 16 _ (by omega) (by omega), em (124 + 4 * a + k) (by omega)]; exact l6 a ha k hk
  · obtain ⟨⟨x1, x2, x3, x4, x5, x6⟩, y2, y3, y4, y5⟩ := hx
    refine ⟨⟨?_, ?_, ?_, ?_, fun g hg => ?_, fun g hg => ?_⟩, fun f hf => ?_, fun s hs => ?_, ?_, ?_⟩
    · rw [em 2 (by omega)]; exact x1
    · rw [em 4 (by omega)]; exact x2
    · rw [em 5 (by omega)]; exact x3
    · exact hB
    · rw [em (54 + 7 * g) (by omega), em (55 + 7 * g) (by omega), em (56 + 7 * g) (by omega)]; exact x5 g hg
    · rw [em (57 + 7 * g) (by omega), em (58 + 7 * g) (by omega), em (59 + 7 * g) (by omega), em (60 + 7 * g) (by omega)]; exact x6 g hg
    · rw [em (30 + 4 * f) (by omega), em (31 + 4 * f) (by omega), em (32 + 4 * f) (by omega), em (33 + 4 * f) (by omega)]; exact y2 f hf
    · rw [em (14 + s) (by omega)]; exact y3 s hs
    · intro i hi; rw [em i (by omega)]; exact y4 i hi
    · rw [em 3 (by omega)]; exact y5
theorem L_prop {I : gzIT} {J : gzJT} (p0 : Int32) (hp : p0 = 0 ∨ p0 = 1) (h : gzR I I) : ∃ v I1 I2 J2, f_X11_prop 4096 p0 I J = some (v, I1, J) ∧ f_X12_prop 4096 p0 I1 J = some (v, I2, J2) ∧ gzR I2 I2 := by
  obtain ⟨nf, ng, nl, nx, hT, hx, c, b, m⟩ := gzR_go h
  obtain ⟨w0, v0, -, -, -, -, ⟨k, mm, p1, p2, p3, p4, p5, -⟩, -, -, -, hbo⟩ := id h
  have hb0 := hbo 0 (by omega) (by omega)
  have hK := r_keep h p3 p5 p1 p2
  obtain ⟨φ, hφ⟩ : ∃ φ, φ = 4096 := ⟨_, rfl⟩
  rw [← hφ]
  have hk := c_keep (J := J) (φ := φ) p5 p3 p2 p1 hb0 (by omega)
  obtain ⟨K, eK⟩ : ∃ K, K = gzKp I mm k := ⟨_, rfl⟩
  rw [← eK] at hk hK
  have K0 : ∀ o j, o < 20 → K 0 o j = I 0 o j := fun o j ho => by
    rw [eK]
    unfold gzKp
    have e1 : ∀ (M : gzIT) (v : Int32), gz_ui M 0 39 1 v 0 o j = M 0 o j := fun M v => if_neg (by omega)
    have e2 : ∀ (M : gzIT) (v : Int32), gz_ui M 0 39 2 v 0 o j = M 0 o j := fun M v => if_neg (by omega)
    rw [e1, e2, gzCpy_ne (by omega)]
  have Kh : ∀ t o j, 47 ≤ o → K t o j = I t o j := fun t o j ho => by
    rw [eK]
    unfold gzKp
    have e1 : ∀ (M : gzIT) (v : Int32), gz_ui M 0 39 1 v t o j = M t o j := fun M v => if_neg (by omega)
    have e2 : ∀ (M : gzIT) (v : Int32), gz_ui M 0 39 2 v t o j = M t o j := fun M v => if_neg (by omega)
    rw [e1, e2]
    unfold gzCpy
    rw [if_neg]
    rintro ⟨-, q⟩
    have := of_decide_eq_true q
    omega
  have rm : ∀ X t o j, ¬ (t = 0 ∧ o = 47 ∧ j = 7) → ¬ (t = 0 ∧ o = 52) → gzRm X k t o j = X t o j := fun X t o j a b => by
    unfold gzRm
    by_cases e : k = 12
    · rw [if_pos e]
      exact (if_neg (by omega)).trans (if_neg (by omega))
    · rw [if_neg e]
      exact (if_neg (by omega)).trans (if_neg (by omega))
  have rmc : ∀ X X2 : gzIT, (∀ j, X2 0 48 j = X 0 48 j) → (∀ j, X2 0 52 j = X 0 52 j) → X2 0 47 7 = X 0 47 7 → gzRm X2 k 0 47 7 = gzRm X k 0 47 7 ∧ ∀ j, gzRm X2 k 0 52 j = gzRm X k 0 52 j := fun X X2 h48 h52 h7 => by
    unfold gzRm gzBk gz_ui
    by_cases e : k = 12
    · rw [if_pos e, if_pos e]
      exact ⟨by simp [h7], fun j => by simp [h48, h52]⟩
    · rw [if_neg e, if_neg e]
      exact ⟨by simp, fun j => by simp [h48, h52]⟩
  obtain ⟨X, eX⟩ : ∃ X, X = gz_ui (gz_ui K 0 0 9 p0) 0 47 0 0 := ⟨_, rfl⟩
  have Xh : ∀ t o j, 47 ≤ o → ¬ (t = 0 ∧ o = 47 ∧ j = 0) → X t o j = I t o j := fun t o j ho hn => by
    rw [eX]
    exact (if_neg hn).trans ((if_neg (by omega)).trans (Kh t o j ho))
  have Xc : ∀ t o j, o < 47 → ¬ (t = 0 ∧ o = 0 ∧ j = 9) → X t o j = K t o j := fun t o j ho hn => by
    rw [eX]
    exact (if_neg (by omega)).trans (if_neg hn)
  have X9 : X 0 0 9 = p0 := by
    rw [eX]
    exact (if_neg (by omega)).trans gz_ui_s
  have hrem := m_remembers (X := X) (J := J) (k := k) (φ := φ) ((Xh 0 47 7 (by omega) (by omega)).trans p4) p1 (by omega)
  obtain ⟨M, eM⟩ : ∃ M : gzIT, M = fun t o j => if o < 47 then K t o j else gzRm I k t o j := ⟨_, rfl⟩
  have hM : gzR M M := gzR_one hK (fun t o j ho => by rw [eM]; exact if_pos ho) (fun t o j ho => by rw [eM]; exact if_neg (by omega))
  obtain ⟨I2, e2⟩ : ∃ I2, I2 = gz_ui (gzRm X k) 0 48 6 (if p0 = 0 then 0 else 1) := ⟨_, rfl⟩
  have hrc := rmc I X (fun j => Xh 0 48 j (by omega) (by omega)) (fun j => Xh 0 52 j (by omega) (by omega)) (Xh 0 47 7 (by omega) (by omega))
  have I2m : ∀ t o j, ¬ (t = 0 ∧ o = 0 ∧ j = 9) → ¬ (t = 0 ∧ o = 47 ∧ j = 0) → ¬ (t = 0 ∧ o = 48 ∧ j = 6) → I2 t o j = M t o j := fun t o j a b c => by
    rw [e2, eM]
    refine (if_neg c).trans ?_
    show gzRm X k t o j = if o < 47 then K t o j else gzRm I k t o j
    by_cases ho : o < 47
    · rw [if_pos ho, rm X t o j (by omega) (by omega)]
      exact Xc t o j ho a
    · rw [if_neg ho]
      by_cases q7 : t = 0 ∧ o = 47 ∧ j = 7
      · obtain ⟨rfl, rfl, rfl⟩ := q7; exact hrc.1
      · by_cases q52 : t = 0 ∧ o = 52
        · obtain ⟨rfl, rfl⟩ := q52; exact hrc.2 j
        · rw [rm X t o j q7 q52, rm I t o j q7 q52]
          exact Xh t o j (by omega) b
  have I29 : I2 0 0 9 = p0 := by
    rw [e2]
    exact (if_neg (by omega)).trans ((rm X 0 0 9 (by omega) (by omega)).trans X9)
  have I26 : I2 0 48 6 = p0 := by
    rw [e2]
    refine gz_ui_s.trans ?_
    rcases hp with q | q <;> rw [q] <;> rfl
  have R6 : gzRm X k 0 48 6 = I 0 48 6 := (rm X 0 48 6 (by omega) (by omega)).trans (Xh 0 48 6 (by omega) (by omega))
  have h96 : I 0 0 9 = I 0 48 6 := hT.2.1.2.2.2.1
  refine ⟨if I 0 0 9 = p0 then 0 else 1, gz_ui K 0 0 9 p0, I2, J, ?_, ?_, ?_⟩
  · unfold f_X11_prop
    rw [hk]
    simp only [Option.bind_some]
    rw [gzGz_in hp]
    have hA : (if K 0 0 9 = p0 then (0 : Int32) else 1) = if I 0 0 9 = p0 then 0 else 1 := by rw [K0 0 9 (by omega)]
    exact congrArg (fun v => some (v, gz_ui K 0 0 9 p0, J)) hA
  · unfold f_X12_prop
    rw [← eX, hrem]
    simp only [Option.bind_some]
    have h1 : (if ¬ I 0 0 9 = 1 then (0 : Int32) else 1) = I 0 0 9 := by
      rcases hb0.2 with q | q <;> rw [q] <;> rfl
    have hB : (if (if ¬ gzRm X k 0 48 6 = 1 then (0 : Int32) else 1) = p0 then (0 : Int32) else 1) = if I 0 0 9 = p0 then 0 else 1 := by rw [R6, ← h96, h1]
    exact (congrArg (fun v => some (v, gz_ui (gzRm X k) 0 48 6 (if p0 = 0 then 0 else 1), J)) hB).trans (by rw [e2])
  · obtain ⟨nf, ng, nl, nx, hT2, hx2⟩ := gzR_now hM
    obtain ⟨w9, v9, -, -, -, -, -, -, -, -, hboM⟩ := id hM
    have hbM := hboM 0 (by omega) (by omega)
    refine gzR_upd hM (fun t o j a b c => I2m t o j (by omega) (fun q => a (by unfold gzCs gzMw; omega)) (by omega)) (gzRt_f6 hT2 hx2 (fun o j ho hn => I2m 0 o j (by omega) (by omega) (by omega)) (fun j hj => I2m 0 48 j (by omega) (by omega) (by omega)) (I29.trans I26.symm) (by rw [I26]; exact hp)) (I2m 0 48 3 (by omega) (by omega) (by omega)) ⟨fun j hj => ?_, by rw [I29]; exact hp⟩
    rw [I2m 0 13 j (by omega) (by omega) (by omega), I2m 0 14 j (by omega) (by omega) (by omega)]
    exact hbM.1 j hj
