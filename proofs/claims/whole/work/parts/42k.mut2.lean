/-! nurse, deliver, store, saw -/
section
variable {I I' I2 X T : gzIT} {J : gzJT} {w w2 : Nat → Int32} {nf ng nl nx nl2 nx2 t t1 φ : Nat}
theorem gzLg_same (h : gzLg I t w nl nx) (e1 : ∀ o j, (o = 15 ∨ o = 16) → I2 t1 o j = I t o j) (e2 : ∀ j, (j = 8 ∨ (124 ≤ j ∧ j < 364)) → w2 j = w j) : gzLg I2 t1 w2 nl nx := by
  obtain ⟨h1, h2, h3, h4, h5, h6⟩ := h
  exact ⟨h1, h2, (e1 15 1 (Or.inl rfl)).trans h3, (e2 8 (Or.inl rfl)).trans h4, (e1 15 2 (Or.inl rfl)).trans h5, fun a ha k hk => (e1 16 _ (Or.inr rfl)).trans ((h6 a ha k hk).trans (e2 _ (by omega)).symm)⟩
theorem r_fin {D : Nat → Nat → Prop} {E : Nat → Prop} (hT : gzTn I 0 (I 0 48) nf ng nl nx) (hx : gzWx (I 0 48) nf ng nl) (tt : ∀ o j, o < 20 → ¬ D o j → ¬ (o = 15 ∨ o = 16) → T 0 o j = I 0 o j) (tw : ∀ j, j < 124 → j ≠ 8 → ¬ E j → T 0 48 j = I 0 48 j) (pr : ∀ o k i, gzQp nf ng o k i → T 0 o k = T 0 48 i ∨ (¬ D o k ∧ ¬ E i)) (nd : ¬ D 1 5 ∧ ¬ D 7 7 ∧ ¬ E 0 ∧ ¬ E 1 ∧ ¬ E 3 ∧ (∀ g, g < ng → ¬ E (54 + 7 * g) ∧ ¬ E (55 + 7 * g) ∧ ¬ E (56 + 7 * g))) (bd : ∀ i, i < 124 → E i → gzBd nf ng i (T 0 48 i)) (lg : gzLg T 0 (T 0 48) nl2 nx2) : gzRt T 0 (T 0 48) ∧ T 0 48 3 = I 0 48 3 := by
  have n3 := hT.1.1
  have n4 := hT.1.2.1
  obtain ⟨hab, hbd⟩ := gzWx_bd n3 hx
  obtain ⟨d1, d2, d3, d4, d5, d6⟩ := nd
  have := gzRt_ch (I := I) (I2 := T) (t := 0) (t1 := 0) (w2 := T 0 48) hT hx ⟨tt 1 5 (by omega) d1 (by omega), tt 7 7 (by omega) d2 (by omega), tw 0 (by omega) (by omega) d3, tw 1 (by omega) (by omega) d4⟩ (fun o k i q => ?_) (gzAbo_congr hab fun g hg => ⟨tw _ (by omega) (by omega) (d6 g hg).1, tw _ (by omega) (by omega) (d6 g hg).2.1, tw _ (by omega) (by omega) (d6 g hg).2.2⟩) (fun i hi => ?_) lg
  · exact ⟨⟨nf, ng, _, _, this.1, this.2⟩, tw 3 (by omega) (by omega) d5⟩
  · rcases pr o k i q with e | ⟨e1, e2⟩
    · exact Or.inl e
    · unfold gzQp at q
      exact Or.inr ⟨tt o k (by omega) e1 (by omega), tw i (by omega) (by omega) e2⟩
  · by_cases q1 : i < 124 ∧ i ≠ 8
    · by_cases e : E i
      · exact Or.inl (bd i q1.1 e)
      · exact Or.inr (tw i q1.1 q1.2 e)
    · left
      exact ⟨fun q => by omega, fun q => by omega, fun q => by omega, fun q => by omega, fun q => by omega, fun f hf => ⟨fun q => by omega, fun q => by omega, fun q => by omega⟩, fun g hg => ⟨fun q => by omega, fun q => by omega, fun q => by omega⟩⟩
theorem p_num1 {a : Int32} : ((∃ k, 1 ≤ k ∧ k ≤ 999 ∧ a = Int32.ofNat k) ∧ f_X11_needNumber a 1 999 I J = some (.ok (), I, J) ∧ f_X12_in a 1 999 = some 1) ∨ (f_X11_needNumber a 1 999 I J = some (.error "java/lang/IllegalArgumentException", I, J) ∧ f_X12_in a 1 999 = some 0) := by
  unfold f_X11_needNumber f_X12_in
  have e1 : (1 : Int32).toInt = 1 := rfl
  have e9 : (999 : Int32).toInt = 999 := rfl
  by_cases q1 : a < 1
  · exact Or.inr ⟨if_pos q1, if_pos q1⟩
  · have q1' : 1 ≤ a.toInt := by
      have : ¬ a.toInt < (1 : Int32).toInt := fun q => q1 (Int32.lt_iff_toInt_lt.mpr q)
      omega
    by_cases q2 : a ≤ 999
    · have q2' := Int32.le_iff_toInt_le.mp q2
      obtain ⟨k, hk, rfl⟩ := gzn_of (x := a) (by omega)
      rw [gzn_int hk] at q1' q2'
      refine Or.inl ⟨⟨k, by omega, by omega, rfl⟩, ?_, ?_⟩
      · rw [if_neg q1, if_pos q2]
      · rw [if_neg q1, if_neg]
        rw [gzc_lt1 (by omega) (by omega)]; omega
    · have q2' : 999 < a.toInt := by
        have : ¬ a.toInt ≤ (999 : Int32).toInt := fun q => q2 (Int32.le_iff_toInt_le.mpr q)
        omega
      refine Or.inr ⟨?_, ?_⟩
      · rw [if_neg q1, if_neg q2]
      · rw [if_neg q1, if_pos (Int32.lt_iff_toInt_lt.mpr (by omega))]
theorem gz_bd0 {i : Nat} {x : Int32} (h : ¬ (2 ≤ i ∧ i ≤ 7) ∧ ¬ (10 ≤ i ∧ i < 30 + 4 * nf) ∧ ¬ (54 ≤ i ∧ i < 54 + 7 * ng)) : gzBd nf ng i x :=
  ⟨fun q => by omega, fun q => by omega, fun q => by omega, fun q => by omega, fun q => by omega, fun f hf => ⟨fun q => by omega, fun q => by omega, fun q => by omega⟩, fun g hg => ⟨fun q => by omega, fun q => by omega, fun q => by omega⟩⟩
/-- bounds of one number each -/
theorem gz_bdS {i : Nat} {x : Int32} (hi : i = 4 ∨ i = 5) (h : 0 ≤ x.toInt ∧ x.toInt ≤ 9999) : gzBd nf ng i x :=
  ⟨fun q => by omega, fun q => h, fun q => by omega, fun q => by omega, fun q => by omega, fun f hf => ⟨fun q => by omega, fun q => by omega, fun q => by omega⟩, fun g hg => ⟨fun q => by omega, fun q => by omega, fun q => by omega⟩⟩
theorem gz_bdL {k : Nat} {x : Int32} (hf : nf ≤ 6) (hk : k < nf) (h : 0 ≤ x.toInt ∧ x.toInt ≤ 999) : gzBd nf ng (32 + 4 * k) x :=
  ⟨fun q => by omega, fun q => by omega, fun q => by omega, fun q => by omega, fun q => by omega, fun f hf => ⟨fun q => by omega, fun q => by omega, fun q => h⟩, fun g hg => ⟨fun q => by omega, fun q => by omega, fun q => by omega⟩⟩
theorem gz_bdO {k : Nat} {x : Int32} (hf : nf ≤ 6) (hk : k < nf) (h : 0 ≤ x.toInt ∧ x.toInt ≤ 99) : gzBd nf ng (33 + 4 * k) x :=
  ⟨fun q => by omega, fun q => by omega, fun q => by omega, fun q => by omega, fun q => by omega, fun f hf => ⟨fun q => by omega, fun q => h, fun q => by omega⟩, fun g hg => ⟨fun q => by omega, fun q => by omega, fun q => by omega⟩⟩
theorem gz_bdI {k : Nat} {x : Int32} (hf6 : nf ≤ 6) (hk : k < ng) (h : 0 ≤ x.toInt ∧ x.toInt ≤ 999) : gzBd nf ng (58 + 7 * k) x :=
  ⟨fun q => by omega, fun q => by omega, fun q => by omega, fun q => by omega, fun q => by omega, fun f hf => ⟨fun q => by omega, fun q => by omega, fun q => h⟩, fun g hg => ⟨fun q => by omega, fun q => h, fun q => by omega⟩⟩
theorem gz_bdU {k i : Nat} {x : Int32} (hf : nf ≤ 6) (hi : i = 59 + 7 * k ∨ i = 60 + 7 * k) (h : x = 0 ∨ x = 1) : gzBd nf ng i x :=
  ⟨fun q => by omega, fun q => by omega, fun q => by omega, fun q => by omega, fun q => by omega, fun f hf => ⟨fun q => by omega, fun q => by omega, fun q => by omega⟩, fun g hg => ⟨fun q => by omega, fun q => by omega, fun q => h⟩⟩
theorem L_nurse (p0 p1 : Int32) (hp : p1 = 0 ∨ p1 = 1) (h : gzR I I) : ∃ e I1, f_X11_nurse 4096 p0 p1 I J = some (e, I1, J) ∧ (∀ E, e = .error E → ∃ k : Nat, (["java/lang/IndexOutOfBoundsException", "java/lang/IllegalStateException"] : List String)[k]? = some E) ∧ ∀ J' : gzJT, ∃ v I2 J2, f_X12_nurse 4096 p0 p1 I1 J' = some (v, I2, J2) ∧ gzSame e ["java/lang/IndexOutOfBoundsException", "java/lang/IllegalStateException"] v (I2 0 47 0) ∧ J2 0 59 0 = J' 0 59 0 ∧ gzR I2 I2 := by
  obtain ⟨nf, ng, nl, nx, hT, hx, c, b, m⟩ := gzR_go h
  obtain ⟨φ, hφ⟩ : ∃ φ, φ = 4096 := ⟨_, rfl⟩
  rw [← hφ]
  have n3 := c.1.2.2.1
  have n4 := c.1.2.2.2
  rcases p_gr (a := p0) (J := J) c (m 0) with ⟨⟨k, hk, rfl⟩, e1, e2⟩ | ⟨e1, e2⟩
  · by_cases x : tH (I 0 48) k = true
    · refine ⟨.error "java/lang/IllegalStateException", I, ?_, fun E hE => ⟨1, by cases hE; rfl⟩, fun J' => ⟨0, gz_ui (gz_ui I 0 47 0 0) 0 47 0 2, J', ?_, ⟨1, rfl, gz_ui_s⟩, rfl, gzR_thr2 h⟩⟩
      · unfold f_X11_nurse f_X11_needFrozen
        rw [e1]
        simp only [Option.bind_some, gzEx]
        rw [c_frozen c hk, if_pos x]
        rfl
      · unfold f_X12_nurse
        rw [e2]
        simp only [Option.bind_some, s_throws0]
        rw [if_neg (by simp), m_isThawed (m 0) hk, if_pos x]
        simp only [Option.bind_some, s_throws1]
        rfl
    · obtain ⟨K, k0, hk0, hkeep, K0, Kh, Kb, hX⟩ := r_rem (J := J) h (φ := φ) (by omega)
      have hl := hT.2.2.2.2.2.2
      obtain ⟨C, eC⟩ : ∃ C, C = gz_ui K 0 13 k p1 := ⟨_, rfl⟩
      have Cn : ∀ t o j, ¬ (t = 0 ∧ o = 13 ∧ j = k) → C t o j = K t o j := fun t o j q => by rw [eC]; exact if_neg q
      have Cs : C 0 13 k = p1 := by rw [eC]; exact gz_ui_s
      obtain ⟨X, eX⟩ : ∃ X, X = gz_ui C 0 47 0 0 := ⟨_, rfl⟩
      have Xh : ∀ t o j, 47 ≤ o → ¬ (t = 0 ∧ o = 47 ∧ j = 0) → X t o j = I t o j := fun t o j ho hn => by
        rw [eX]
        exact (if_neg hn).trans ((Cn t o j (by omega)).trans (Kh t o j ho))
      have Xc : ∀ t o j, o < 47 → X t o j = C t o j := fun t o j ho => by rw [eX]; exact if_neg (by omega)
      obtain ⟨hrem, Rn, hfin⟩ := hX X Xh
      obtain ⟨R, eR⟩ : ∃ R, R = gzRm X k0 := ⟨_, rfl⟩
      rw [← eR] at hrem Rn hfin
      have vX : gzVi X (I 0 48) nf ng := gzVi_eq (m 0) (fun j hj => (Xh 0 48 j (by omega) (by omega)).trans (if_neg (by omega)).symm)
      have Rw : ∀ j, R 0 48 j = I 0 48 j := fun j => (Rn 0 48 j (by omega) (by omega)).trans (Xh 0 48 j (by omega) (by omega))
      obtain ⟨T, eT⟩ : ∃ T, T = gz_ui R 0 48 (59 + 7 * k) (if p1 = 0 then (0 : Int32) else 1) := ⟨_, rfl⟩
      have Tn : ∀ t o j, ¬ (t = 0 ∧ o = 48 ∧ j = 59 + 7 * k) → T t o j = R t o j := fun t o j q => by rw [eT]; exact if_neg q
      have Ts : T 0 48 (59 + 7 * k) = p1 := by rw [eT]; exact gz_ui_s.trans (by rcases hp with q | q <;> rw [q] <;> rfl)
      have Tc : ∀ t o j, o < 47 → T t o j = C t o j := fun t o j ho => (Tn t o j (by omega)).trans ((Rn t o j (by omega) (by omega)).trans (Xc t o j ho))
      have Tt : ∀ o j, o < 20 → ¬ (o = 13 ∧ j = k) → T 0 o j = I 0 o j := fun o j ho q => (Tc 0 o j (by omega)).trans ((Cn 0 o j (by omega)).trans (K0 o j ho))
      have Tw : ∀ j, ¬ j = 59 + 7 * k → T 0 48 j = I 0 48 j := fun j q => (Tn 0 48 j (by omega)).trans (Rw j)
      obtain ⟨w0, v0, -, -, -, -, -, -, -, -, hbo⟩ := id h
      have hb0 := hbo 0 (by omega) (by omega)
      have T13 : T 0 13 k = p1 := (Tc 0 13 k (by omega)).trans Cs
      refine ⟨.ok (if (if tU (I 0 48) k = true then (1 : Int32) else 0) = p1 then 0 else 1), C, ?_, fun E hE => (by cases hE), fun J' => ⟨if (if tU (I 0 48) k = true then (1 : Int32) else 0) = p1 then 0 else 1, T, J', ?_, ⟨rfl, ?_⟩, rfl, ?_⟩⟩
      · unfold f_X11_nurse f_X11_needFrozen
        rw [e1]
        simp only [Option.bind_some, gzEx]
        rw [c_frozen c hk, if_neg x]
        simp only [Option.bind_some]
        rw [if_pos (by decide)]
        simp only [Option.bind_some, hkeep]
        rw [gzGd_in (by omega) (by omega), gzn_clamp (by omega), gzGz_in hp, ← eC]
        have hA : (if K 0 13 k = p1 then (0 : Int32) else 1) = if (if tU (I 0 48) k = true then (1 : Int32) else 0) = p1 then 0 else 1 := by rw [K0 13 k (by omega), c.2.2.2.2.2.2.1 k hk]
        exact congrArg (fun v : Int32 => (some (Except.ok v, C, J) : Option ((Except String Int32) × gzIT × gzJT))) hA
      · unfold f_X12_nurse
        rw [← eX, m_noGr vX hk]
        simp only [Option.bind_some, s_throws0]
        rw [if_neg (by simp), m_isThawed vX hk, if_neg x]
        simp only [Option.bind_some, s_throws0, if_true, hrem J']
        rw [show (5 : Int32) = Int32.ofNat 5 from rfl, s_X12_of (by omega) (by omega)]
        unfold f_X12_at
        simp (disch := omega) only [Option.bind_some, gzc_mul, gzc_add', gzc_adds, gzGd_in, gzn_clamp]
        rw [show 54 + 7 * k + 5 = 59 + 7 * k by omega, ← eT, Rw]
        have hu : (if ¬ I 0 48 (59 + 7 * k) = 1 then (0 : Int32) else 1) = if tU (I 0 48) k = true then (1 : Int32) else 0 := by
          rw [(m 0).2.1.2.2.2.2.1 k hk]
          cases tU (I 0 48) k <;> rfl
        exact congrArg (fun v => some (if v = p1 then (0 : Int32) else 1, T, J')) hu
      · refine (Tn 0 47 0 (by omega)).trans ((Rn 0 47 0 (by omega) (by omega)).trans ?_)
        rw [eX]; exact gz_ui_s
      · have fin := r_fin (T := T) (D := fun o j => o = 13 ∧ j = k) (E := fun i => i = 59 + 7 * k) hT hx (fun o j ho q _ => Tt o j ho q) (fun j _ _ q => Tw j q) (fun o j i q => ?_) ⟨by omega, by omega, by omega, by omega, by omega, fun g hg => ⟨by omega, by omega, by omega⟩⟩ (fun i _ e => ?_) (gzLg_same hl (fun o j q => Tt o j (by omega) (by omega)) (fun j q => Tw j (by omega)))
        · refine hfin T (fun t o j ho q1 q2 => (Tc t o j ho).trans (Cn t o j (by omega))) (fun t o j ho q1 q2 => Tn t o j (by omega)) fin.1 fin.2 ⟨fun j hj => ?_, ?_⟩
          · by_cases e : j = k
            · rw [e, T13, Tt 14 k (by omega) (by omega)]
              exact ⟨hp, (hb0.1 k (by omega)).2⟩
            · rw [Tt 13 j (by omega) (by omega), Tt 14 j (by omega) (by omega)]
              exact hb0.1 j hj
          · rw [Tt 0 9 (by omega) (by omega)]; exact hb0.2
        · unfold gzQp at q
          by_cases e : o = 13 ∧ j = k
          · left
            obtain ⟨rfl, rfl⟩ := e
            rw [T13, show i = 59 + 7 * j by omega, Ts]
          · right
            exact ⟨e, by omega⟩
        · have e' : i = 59 + 7 * k := e
          rw [e', Ts]
          exact gz_bdU n3 (Or.inl rfl) hp
  · refine ⟨.error "java/lang/IndexOutOfBoundsException", I, ?_, fun E hE => ⟨0, by cases hE; rfl⟩, fun J' => ⟨0, gz_ui (gz_ui I 0 47 0 0) 0 47 0 1, J', ?_, ⟨0, rfl, gz_ui_s⟩, rfl, gzR_thr2 h⟩⟩
    · unfold f_X11_nurse
      rw [e1]; rfl
    · unfold f_X12_nurse
      rw [e2]
      simp only [Option.bind_some, s_throws1]
      rfl
theorem L_deliver (p0 p1 : Int32) (h : gzR I I) : ∃ e I1, f_X11_deliver 4096 p0 p1 I J = some (e, I1, J) ∧ (∀ E, e = .error E → ∃ k : Nat, (["java/lang/IndexOutOfBoundsException", "java/lang/IllegalArgumentException", "java/lang/IllegalStateException"] : List String)[k]? = some E) ∧ ∀ J' : gzJT, ∃ v I2 J2, f_X12_deliver 4096 p0 p1 I1 J' = some (v, I2, J2) ∧ gzSame e ["java/lang/IndexOutOfBoundsException", "java/lang/IllegalArgumentException", "java/lang/IllegalStateException"] v (I2 0 47 0) ∧ J2 0 59 0 = J' 0 59 0 ∧ gzR I2 I2 := by
  obtain ⟨nf, ng, nl, nx, hT, hx, c, b, m⟩ := gzR_go h
  obtain ⟨φ, hφ⟩ : ∃ φ, φ = 4096 := ⟨_, rfl⟩
  rw [← hφ]
  have n3 := c.1.2.2.1
  have n4 := c.1.2.2.2
  have h8 : I 0 0 8 = I 0 48 5 := hT.2.1.2.2.1
  rcases p_fam (a := p0) (J := J) c (m 0) with ⟨⟨k, hk, rfl⟩, e1, e2⟩ | ⟨e1, e2⟩
  · rcases p_num1 (I := I) (J := J) (a := p1) with ⟨⟨q, hq1, hq2, rfl⟩, e3, e4⟩ | ⟨e3, e4⟩
    · by_cases x : Int32.ofNat q ≤ I 0 48 5
      · obtain ⟨K, k0, hk0, hkeep, K0, Kh, Kb, hX⟩ := r_rem (J := J) h (φ := φ) (by omega)
        have hl := hT.2.2.2.2.2.2
        obtain ⟨hab, hbd⟩ := gzWx_bd n3 hx
        have b5 := (hbd 5).2.1 (Or.inr rfl)
        have bL := ((hbd (32 + 4 * k)).2.2.2.2.2.1 k hk).2.2 rfl
        have x' := Int32.le_iff_toInt_le.mp x
        rw [gzn_int (show q < 2 ^ 31 by omega)] at x'
        obtain ⟨S, eS⟩ : ∃ S, S = I 0 48 5 - Int32.ofNat q := ⟨_, rfl⟩
        have bS : 0 ≤ S.toInt ∧ S.toInt ≤ 9999 := by
          rw [eS, gz_subb (by rw [gzn_int (show q < 2 ^ 31 by omega)]; omega) (by rw [gzn_int (show q < 2 ^ 31 by omega)]; omega), gzn_int (show q < 2 ^ 31 by omega)]
          omega
        obtain ⟨L, eL⟩ : ∃ L, L = if I 0 48 (32 + 4 * k) + Int32.ofNat q < 999 then I 0 48 (32 + 4 * k) + Int32.ofNat q else 999 := ⟨_, rfl⟩
        have bL2 : 0 ≤ L.toInt ∧ L.toInt ≤ 999 := by
          rw [eL]
          exact gz_cap (c := 999) (by omega) (by rw [gzn_int (show q < 2 ^ 31 by omega)]; omega) (by omega)
        obtain ⟨C1, eC1⟩ : ∃ C1, C1 = gz_ui K 0 0 8 S := ⟨_, rfl⟩
        have C1n : ∀ t o j, ¬ (t = 0 ∧ o = 0 ∧ j = 8) → C1 t o j = K t o j := fun t o j q => by rw [eC1]; exact if_neg q
        have C1s : C1 0 0 8 = S := by rw [eC1]; exact gz_ui_s
        obtain ⟨C, eC⟩ : ∃ C, C = gz_ui C1 0 4 k L := ⟨_, rfl⟩
        have Cn : ∀ t o j, ¬ (t = 0 ∧ o = 4 ∧ j = k) → C t o j = C1 t o j := fun t o j q => by rw [eC]; exact if_neg q
        have Cs : C 0 4 k = L := by rw [eC]; exact gz_ui_s
        have hC1L : C1 0 4 k = I 0 48 (32 + 4 * k) := (C1n 0 4 k (by omega)).trans ((K0 4 k (by omega)).trans (c.2.2.2.2.2.2.2.2.2.2.1 k hk))
        have hfill : f_X0_fill 0 (Int32.ofNat k) (Int32.ofNat q) C1 J = some ((), C, J) := by
          unfold f_X0_fill
          rw [gzc_cell (by omega) (by omega)]
          simp only [Option.bind_some]
          rw [gzc_write (by omega) (by omega), hC1L, ← eL, ← eC]
          rfl
        obtain ⟨X, eX⟩ : ∃ X, X = gz_ui C 0 47 0 0 := ⟨_, rfl⟩
        have Xh : ∀ t o j, 47 ≤ o → ¬ (t = 0 ∧ o = 47 ∧ j = 0) → X t o j = I t o j := fun t o j ho hn => by
          rw [eX]
          exact (if_neg hn).trans ((Cn t o j (by omega)).trans ((C1n t o j (by omega)).trans (Kh t o j ho)))
        have Xc : ∀ t o j, o < 47 → X t o j = C t o j := fun t o j ho => by rw [eX]; exact if_neg (by omega)
        obtain ⟨hrem, Rn, hfin⟩ := hX X Xh
        obtain ⟨R, eR⟩ : ∃ R, R = gzRm X k0 := ⟨_, rfl⟩
        rw [← eR] at hrem Rn hfin
        have vX : gzVi X (I 0 48) nf ng := gzVi_eq (m 0) (fun j hj => (Xh 0 48 j (by omega) (by omega)).trans (if_neg (by omega)).symm)
        have Rw : ∀ j, R 0 48 j = I 0 48 j := fun j => (Rn 0 48 j (by omega) (by omega)).trans (Xh 0 48 j (by omega) (by omega))
        obtain ⟨Y, eY⟩ : ∃ Y, Y = gz_ui R 0 48 5 S := ⟨_, rfl⟩
        have Yn : ∀ t o j, ¬ (t = 0 ∧ o = 48 ∧ j = 5) → Y t o j = R t o j := fun t o j q => by rw [eY]; exact if_neg q
        have Ys : Y 0 48 5 = S := by rw [eY]; exact gz_ui_s
        obtain ⟨T, eT⟩ : ∃ T, T = gz_ui Y 0 48 (32 + 4 * k) L := ⟨_, rfl⟩
        have Tn : ∀ t o j, ¬ (t = 0 ∧ o = 48 ∧ j = 32 + 4 * k) → T t o j = Y t o j := fun t o j q => by rw [eT]; exact if_neg q
        have Ts : T 0 48 (32 + 4 * k) = L := by rw [eT]; exact gz_ui_s
        have T5 : T 0 48 5 = S := (Tn 0 48 5 (by omega)).trans Ys
        have Tc : ∀ t o j, o < 47 → T t o j = C t o j := fun t o j ho => (Tn t o j (by omega)).trans ((Yn t o j (by omega)).trans ((Rn t o j (by omega) (by omega)).trans (Xc t o j ho)))
        have Tt : ∀ o j, o < 20 → ¬ ((o = 4 ∧ j = k) ∨ (o = 0 ∧ j = 8)) → T 0 o j = I 0 o j := fun o j ho q => (Tc 0 o j (by omega)).trans ((Cn 0 o j (by omega)).trans ((C1n 0 o j (by omega)).trans (K0 o j ho)))
        have Tw : ∀ j, ¬ (j = 32 + 4 * k ∨ j = 5) → T 0 48 j = I 0 48 j := fun j q => (Tn 0 48 j (by omega)).trans ((Yn 0 48 j (by omega)).trans (Rw j))
        have Tc4 : T 0 4 k = L := (Tc 0 4 k (by omega)).trans Cs
        have Tc8 : T 0 0 8 = S := (Tc 0 0 8 (by omega)).trans ((Cn 0 0 8 (by omega)).trans C1s)
        obtain ⟨w0, v0, -, -, -, -, -, -, -, -, hbo⟩ := id h
        have hb0 := hbo 0 (by omega) (by omega)
        refine ⟨.ok L, C, ?_, fun E hE => (by cases hE), fun J' => ⟨L, T, J', ?_, ⟨rfl, ?_⟩, rfl, ?_⟩⟩
        · unfold f_X11_deliver
          rw [e1]
          simp only [Option.bind_some, gzEx]
          rw [e3]
          simp only [Option.bind_some, gzEx]
          rw [h8, if_pos x, hkeep]
          simp only [Option.bind_some]
          rw [K0 0 8 (by omega), h8, ← eS, ← eC1, hfill]
          simp only [Option.bind_some]
          rw [gzGd_in (by omega) (by omega), gzn_clamp (by omega), Cs]
        · unfold f_X12_deliver
          rw [← eX, m_noFa vX hk]
          simp only [Option.bind_some, s_throws0]
          rw [if_neg (by simp), e4]
          simp only [Option.bind_some, gz_not01, s_throws0]
          rw [if_neg (by simp), if_pos (show Int32.ofNat q ≤ X 0 48 5 by rw [Xh 0 48 5 (by omega) (by omega)]; exact x), s_throws0]
          simp only [Option.bind_some, if_true, hrem J']
          rw [Rw 5, ← eS, ← eY]
          unfold f_X12_familyAt f_X12_adds
          simp (disch := omega) only [Option.bind_some, gzc_mul, gzc_add', gzc_add, gzGd_in, gzn_clamp]
          rw [show 30 + 4 * k + 2 = 32 + 4 * k by omega, Yn 0 48 (32 + 4 * k) (by omega), Rw (32 + 4 * k), ← eL, ← eT, show (2 : Int32) = Int32.ofNat 2 from rfl, s_X12_ofFamily (by omega) (by omega), show 30 + 4 * k + 2 = 32 + 4 * k by omega, Ts]
          rfl
        · refine (Tn 0 47 0 (by omega)).trans ((Yn 0 47 0 (by omega)).trans ((Rn 0 47 0 (by omega) (by omega)).trans ?_))
          rw [eX]; exact gz_ui_s
        · have fin := r_fin (T := T) (D := fun o j => (o = 4 ∧ j = k) ∨ (o = 0 ∧ j = 8)) (E := fun i => i = 32 + 4 * k ∨ i = 5) hT hx (fun o j ho q _ => Tt o j ho q) (fun j _ _ q => Tw j q) (fun o j i q => ?_) ⟨by omega, by omega, by omega, by omega, by omega, fun g hg => ⟨by omega, by omega, by omega⟩⟩ (fun i _ e => ?_) (gzLg_same hl (fun o j q => Tt o j (by omega) (by omega)) (fun j q => Tw j (by omega)))
          · refine hfin T (fun t o j ho q1 q2 => (Tc t o j ho).trans ((Cn t o j (by omega)).trans (C1n t o j (by omega)))) (fun t o j ho q1 q2 => (Tn t o j (by omega)).trans (Yn t o j (by omega))) fin.1 fin.2 ⟨fun j hj => ?_, ?_⟩
            · rw [Tt 13 j (by omega) (by omega), Tt 14 j (by omega) (by omega)]
              exact hb0.1 j hj
            · rw [Tt 0 9 (by omega) (by omega)]; exact hb0.2
          · unfold gzQp at q
            by_cases e : o = 4 ∧ j = k
            · left
              obtain ⟨rfl, rfl⟩ := e
              rw [Tc4, show i = 32 + 4 * j by omega, Ts]
            · by_cases e' : o = 0 ∧ j = 8
              · left
                obtain ⟨rfl, rfl⟩ := e'
                rw [Tc8, show i = 5 by omega, T5]
              · right
                exact ⟨by omega, by omega⟩
          · rcases e with e' | e'
            · rw [e', Ts]; exact gz_bdL n3 hk bL2
            · rw [e', T5]; exact gz_bdS (Or.inr rfl) bS
      · refine ⟨.error "java/lang/IllegalStateException", I, ?_, fun E hE => ⟨2, by cases hE; rfl⟩, fun J' => ⟨0, gz_ui (gz_ui I 0 47 0 0) 0 47 0 3, J', ?_, ⟨2, rfl, gz_ui_s⟩, rfl, gzR_thr2 h⟩⟩
        · unfold f_X11_deliver
          rw [e1]
          simp only [Option.bind_some, gzEx]
          rw [e3]
          simp only [Option.bind_some, gzEx]
          rw [h8, if_neg x]
        · unfold f_X12_deliver
          rw [e2]
          simp only [Option.bind_some, s_throws0]
          rw [if_neg (by simp), e4]
          simp only [Option.bind_some, gz_not01, s_throws0]
          rw [if_neg (by simp), if_neg (show ¬ Int32.ofNat q ≤ gz_ui I 0 47 0 0 0 48 5 by rw [gz_ui_o (by decide)]; exact x), s_throws1]
          rfl
    · refine ⟨.error "java/lang/IllegalArgumentException", I, ?_, fun E hE => ⟨1, by cases hE; rfl⟩, fun J' => ⟨0, gz_ui (gz_ui I 0 47 0 0) 0 47 0 2, J', ?_, ⟨1, rfl, gz_ui_s⟩, rfl, gzR_thr2 h⟩⟩
      · unfold f_X11_deliver
        rw [e1]
        simp only [Option.bind_some, gzEx]
        rw [e3]
        rfl
      · unfold f_X12_deliver
        rw [e2]
        simp only [Option.bind_some, s_throws0]
        rw [if_neg (by simp), e4]
        simp only [Option.bind_some, gz_not00, s_throws1]
        rfl
  · refine ⟨.error "java/lang/IndexOutOfBoundsException", I, ?_, fun E hE => ⟨0, by cases hE; rfl⟩, fun J' => ⟨0, gz_ui (gz_ui I 0 47 0 0) 0 47 0 1, J', ?_, ⟨0, rfl, gz_ui_s⟩, rfl, gzR_thr2 h⟩⟩
    · unfold f_X11_deliver
      rw [e1]; rfl
    · unfold f_X12_deliver
      rw [e2]
      simp only [Option.bind_some, s_throws1]
      rfl
end
