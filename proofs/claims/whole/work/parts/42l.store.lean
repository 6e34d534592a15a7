/-! store, saw -/
section
variable {I I' I2 X T : gzIT} {J : gzJT} {w w2 : Nat → Int32} {nf ng nl nx nl2 nx2 t t1 φ : Nat}
theorem c_lose {k : Nat} {a2 a3 : Int32} (hk : k < 10) (h1 : I t 15 1 = Int32.ofNat nl) (h2 : I t 15 2 = Int32.ofNat nx) (hl : nl ≤ 60) (hx : nx < 60) : ∃ C : gzIT, f_X8_lose t (Int32.ofNat k) a2 a3 I J = some ((), C, J) ∧ (∀ t' o j, ¬ (t' = t ∧ (o = 15 ∨ o = 16 ∨ (o = 12 ∧ j = k))) → C t' o j = I t' o j) ∧ C t 12 k = I t 12 k - a3 ∧ C t 15 1 = Int32.ofNat (if nl + 1 < 60 then nl + 1 else 60) ∧ C t 15 2 = Int32.ofNat ((nx + 1) % 60) ∧ (C t 16 (nx * 4) = I t 0 7 ∧ C t 16 (nx * 4 + 1) = Int32.ofNat k ∧ C t 16 (nx * 4 + 2) = a2 ∧ C t 16 (nx * 4 + 3) = a3) ∧ (∀ j, (j < nx * 4 ∨ nx * 4 + 4 ≤ j) → C t 16 j = I t 16 j) := by
  obtain ⟨C1, eC1⟩ : ∃ C1, C1 = gz_ui I t 12 k (I t 12 k - a3) := ⟨_, rfl⟩
  have C1n : ∀ t' o j, ¬ (t' = t ∧ o = 12 ∧ j = k) → C1 t' o j = I t' o j := fun t' o j q => by rw [eC1]; exact if_neg q
  obtain ⟨C, hput, Cn, Cc1, Cc2, Cc3, Cc4⟩ := c_lgput (J := J) (I := C1) (t := t) (nl := nl) (nx := nx) (a1 := C1 t 0 7) (a2 := Int32.ofNat k) (a3 := a2) (a4 := a3) ((C1n t 15 1 (by omega)).trans h1) ((C1n t 15 2 (by omega)).trans h2) hl hx
  refine ⟨C, ?_, fun t' o j q => (Cn t' o j (by omega)).trans (C1n t' o j (by omega)), ?_, Cc1, Cc2, ⟨Cc3.1.trans (C1n t 0 7 (by omega)), Cc3.2⟩, fun j q => (Cc4 j q).trans (C1n t 16 j (by omega))⟩
  · unfold f_X8_lose
    rw [gzc_cell hk (by omega)]
    simp only [Option.bind_some]
    rw [gzc_write hk (by omega), ← eC1]
    simp only [Option.bind_some]
    rw [hput]
    rfl
  · rw [Cn t 12 k (by omega), eC1]; exact gz_ui_s
theorem L_store (p0 p1 : Int32) (h : gzR I I) : ∃ e I1, f_X11_store 4096 p0 p1 I J = some (e, I1, J) ∧ (∀ E, e = .error E → ∃ k : Nat, (["java/lang/IndexOutOfBoundsException", "java/lang/IllegalArgumentException", "java/lang/IllegalStateException"] : List String)[k]? = some E) ∧ ∀ J' : gzJT, ∃ v I2 J2, f_X12_store 4096 p0 p1 I1 J' = some (v, I2, J2) ∧ gzSame e ["java/lang/IndexOutOfBoundsException", "java/lang/IllegalArgumentException", "java/lang/IllegalStateException"] v (I2 0 47 0) ∧ J2 0 59 0 = J' 0 59 0 ∧ gzR I2 I2 := by
  obtain ⟨nf, ng, nl, nx, hT, hx, c, b, m⟩ := gzR_go h
  obtain ⟨φ, hφ⟩ : ∃ φ, φ = 4096 := ⟨_, rfl⟩
  rw [← hφ]
  have n3 := c.1.2.2.1
  have n4 := c.1.2.2.2
  have h8 : I 0 0 8 = I 0 48 5 := hT.2.1.2.2.1
  rcases p_gr (a := p0) (J := J) c (m 0) with ⟨⟨k, hk, rfl⟩, e1, e2⟩ | ⟨e1, e2⟩
  · rcases p_num1 (I := I) (J := J) (a := p1) with ⟨⟨q, hq1, hq2, rfl⟩, e3, e4⟩ | ⟨e3, e4⟩
    · by_cases x : tH (I 0 48) k = true
      · refine ⟨.error "java/lang/IllegalStateException", I, ?_, fun E hE => ⟨2, by cases hE; rfl⟩, fun J' => ⟨0, gz_ui (gz_ui I 0 47 0 0) 0 47 0 3, J', ?_, ⟨2, rfl, gz_ui_s⟩, rfl, gzR_thr2 h⟩⟩
        · unfold f_X11_store
          unfold f_X11_needFrozen
          rw [e1]
          simp only [Option.bind_some, gzEx]
          rw [e3]
          simp only [Option.bind_some, gzEx]
          rw [c_frozen c hk, if_pos x]
          rfl
        · unfold f_X12_store
          rw [e2]
          simp only [Option.bind_some, s_throws0]
          rw [if_neg (by simp)]
          rw [e4]
          simp only [Option.bind_some, gz_not01, s_throws0]
          rw [if_neg (by simp)]
          rw [m_isThawed (m 0) hk, if_pos x]
          simp only [Option.bind_some]
          rw [if_pos (by decide), s_throws1]
          rfl
      · by_cases z : Int32.ofNat q ≤ I 0 48 (58 + 7 * k)
        · obtain ⟨K, k0, hk0, hkeep, K0, Kh, Kb, hX⟩ := r_rem (J := J) h (φ := φ) (by omega)
          have hl := hT.2.2.2.2.2.2
          obtain ⟨hab, hbd⟩ := gzWx_bd n3 hx
          have b5 := (hbd 5).2.1 (Or.inr rfl)
          have bI := ((hbd (58 + 7 * k)).2.2.2.2.2.2 k hk).2.1 rfl
          have z' := Int32.le_iff_toInt_le.mp z
          rw [gzn_int (show q < 2 ^ 31 by omega)] at z'
          obtain ⟨S, eS⟩ : ∃ S, S = I 0 48 (58 + 7 * k) - Int32.ofNat q := ⟨_, rfl⟩
          have bS : 0 ≤ S.toInt ∧ S.toInt ≤ 999 := by
            rw [eS, gz_subb (by rw [gzn_int (show q < 2 ^ 31 by omega)]; omega) (by rw [gzn_int (show q < 2 ^ 31 by omega)]; omega), gzn_int (show q < 2 ^ 31 by omega)]
            omega
          have bL := b5
          obtain ⟨L, eL⟩ : ∃ L, L = if I 0 48 5 + Int32.ofNat q < 9999 then I 0 48 5 + Int32.ofNat q else 9999 := ⟨_, rfl⟩
          have bL2 : 0 ≤ L.toInt ∧ L.toInt ≤ 9999 := by
            rw [eL]
            exact gz_cap (c := 9999) (by omega) (by rw [gzn_int (show q < 2 ^ 31 by omega)]; omega) (by omega)
          obtain ⟨C1, hlose, C1n, C1s, Cc1, Cc2, Cc3, Cc4⟩ := c_lose (J := J) (I := K) (t := 0) (k := k) (a2 := 3) (a3 := Int32.ofNat q) (nl := nl) (nx := nx) (by omega) ((K0 15 1 (by omega)).trans hl.2.2.1) ((K0 15 2 (by omega)).trans hl.2.2.2.2.1) hl.1 hl.2.1
          have hC1S : C1 0 12 k = S := by rw [C1s, K0 12 k (by omega), c.2.2.2.2.2.1 k hk, eS]
          obtain ⟨C, eC⟩ : ∃ C, C = gz_ui C1 0 0 8 L := ⟨_, rfl⟩
          have Cn : ∀ t o j, ¬ (t = 0 ∧ o = 0 ∧ j = 8) → C t o j = C1 t o j := fun t o j q => by rw [eC]; exact if_neg q
          have Cs : C 0 0 8 = L := by rw [eC]; exact gz_ui_s
          have hC1L : C1 0 0 8 = I 0 48 5 := (C1n 0 0 8 (by omega)).trans ((K0 0 8 (by omega)).trans h8)
          obtain ⟨X, eX⟩ : ∃ X, X = gz_ui C 0 47 0 0 := ⟨_, rfl⟩
          have Xh : ∀ t o j, 47 ≤ o → ¬ (t = 0 ∧ o = 47 ∧ j = 0) → X t o j = I t o j := fun t o j ho hn => by
            rw [eX]
            exact (if_neg hn).trans ((Cn t o j (by omega)).trans ((C1n t o j (by omega)).trans (Kh t o j ho)))
          have Xc : ∀ t o j, o < 47 → X t o j = C t o j := fun t o j ho => by rw [eX]; exact if_neg (by omega)
          obtain ⟨hrem, Rn, hfin⟩ := hX X Xh
          obtain ⟨R, eR⟩ : ∃ R, R = gzRm X k0 := ⟨_, rfl⟩
          rw [← eR] at hrem Rn hfin
          have vX : gzVi X (I 0 48) nf ng := gzVi_eq (m 0) (fun j hj => (Xh 0 48 j (by omega) (by omega)).trans (if_neg (by omega)).symm)
          have Rw : ∀ j, R 0 48 j = I 0 48 j := fun j => (Rn 0 48 j (by omega) (by omega)).trans (Xh 0 48 j (by omega) (by omega))
          obtain ⟨Y, eY⟩ : ∃ Y, Y = gz_ui R 0 48 (58 + 7 * k) S := ⟨_, rfl⟩
          have Yn : ∀ t o j, ¬ (t = 0 ∧ o = 48 ∧ j = 58 + 7 * k) → Y t o j = R t o j := fun t o j q => by rw [eY]; exact if_neg q
          have Ys : Y 0 48 (58 + 7 * k) = S := by rw [eY]; exact gz_ui_s
          obtain ⟨Z, eZ⟩ : ∃ Z, Z = gz_ui Y 0 48 5 L := ⟨_, rfl⟩
          have Zn : ∀ t o j, ¬ (t = 0 ∧ o = 48 ∧ j = 5) → Z t o j = Y t o j := fun t o j q => by rw [eZ]; exact if_neg q
          have Zs : Z 0 48 5 = L := by rw [eZ]; exact gz_ui_s
          have Zw : ∀ j, ¬ (j = 58 + 7 * k ∨ j = 5) → Z 0 48 j = I 0 48 j := fun j q => (Zn 0 48 j (by omega)).trans ((Yn 0 48 j (by omega)).trans (Rw j))
          obtain ⟨T, htell, Tn, T8, T4, Tsh⟩ := m_tells (I := Z) (φ := φ) (nl := nl) (a1 := Int32.ofNat k) (a2 := 3) (a3 := Int32.ofNat q) ((Zw 8 (by omega)).trans hl.2.2.2.1) hl.1 (by omega)
          have T5 : T 0 48 (58 + 7 * k) = S := (Tn 0 48 _ (by omega)).trans ((Zn 0 48 _ (by omega)).trans Ys)
          have TL : T 0 48 5 = L := (Tn 0 48 _ (by omega)).trans Zs
          have Tc : ∀ t o j, o < 47 → T t o j = C t o j := fun t o j ho => (Tn t o j (by omega)).trans ((Zn t o j (by omega)).trans ((Yn t o j (by omega)).trans ((Rn t o j (by omega) (by omega)).trans (Xc t o j ho))))
          have Tt : ∀ o j, o < 20 → ¬ ((o = 12 ∧ j = k) ∨ (o = 0 ∧ j = 8)) → ¬ (o = 15 ∨ o = 16) → T 0 o j = I 0 o j := fun o j ho q q2 => (Tc 0 o j (by omega)).trans ((Cn 0 o j (by omega)).trans ((C1n 0 o j (by omega)).trans (K0 o j ho)))
          have Tw : ∀ j, j < 124 → j ≠ 8 → ¬ (j = 58 + 7 * k ∨ j = 5) → T 0 48 j = I 0 48 j := fun j q1 q2 q => (Tn 0 48 j (by omega)).trans (Zw j q)
          have Tc12 : T 0 12 k = S := (Tc 0 12 k (by omega)).trans ((Cn 0 12 k (by omega)).trans hC1S)
          have TcL : T 0 0 8 = L := (Tc 0 0 8 (by omega)).trans Cs
          obtain ⟨w0, v0, -, -, -, -, -, -, -, -, hbo⟩ := id h
          have hb0 := hbo 0 (by omega) (by omega)
          refine ⟨.ok L, C, ?_, fun E hE => (by cases hE), fun J' => ⟨L, T, J', ?_, ⟨rfl, ?_⟩, rfl, ?_⟩⟩
          · unfold f_X11_store
            unfold f_X11_needIce
            unfold f_X11_needFrozen
            rw [e1]
            simp only [Option.bind_some, gzEx]
            rw [e3]
            simp only [Option.bind_some, gzEx]
            rw [c_frozen c hk, if_neg x]
            simp only [Option.bind_some]
            rw [if_pos (by decide)]
            simp only [Option.bind_some]
            rw [gzc_cell (by omega) (by omega), c.2.2.2.2.2.1 k hk]
            simp only [Option.bind_some]
            rw [if_pos z]
            simp only [Option.bind_some]
            rw [hkeep]
            simp only [Option.bind_some]
            rw [hlose]
            simp only [Option.bind_some]
            rw [hC1L, ← eL, ← eC]
          · unfold f_X12_store
            rw [← eX, m_noGr vX hk]
            simp only [Option.bind_some, s_throws0]
            rw [if_neg (by simp)]
            rw [e4]
            simp only [Option.bind_some, gz_not01, s_throws0]
            rw [if_neg (by simp)]
            rw [m_isThawed vX hk, if_neg x]
            simp only [Option.bind_some]
            rw [if_neg (by simp)]
            rw [m_of4 vX hk]
            simp only [Option.bind_some]
            rw [if_pos z, s_throws0]
            simp only [Option.bind_some, if_true, hrem J']
            unfold f_X12_at f_X12_adds
            simp (disch := omega) only [Option.bind_some, gzc_mul, gzc_add', gzc_add, gzGd_in, gzn_clamp]
            rw [show 54 + 7 * k + 4 = 58 + 7 * k by omega, Rw (58 + 7 * k), ← eS, ← eY, show (5 : Int32) = Int32.ofNat 5 from rfl, gzGd_in (by omega) (by omega), gzn_clamp (by omega), Yn 0 48 5 (by omega), Rw 5, ← eL, ← eZ]
            simp only [Option.bind_some]
            rw [htell]
            simp only [Option.bind_some]
            rw [TL]
          · refine (Tn 0 47 0 (by omega)).trans ((Zn 0 47 0 (by omega)).trans ((Yn 0 47 0 (by omega)).trans ((Rn 0 47 0 (by omega) (by omega)).trans ?_)))
            rw [eX]; exact gz_ui_s
          · have fin := r_fin (T := T) (D := fun o j => (o = 12 ∧ j = k) ∨ (o = 0 ∧ j = 8)) (E := fun i => i = 58 + 7 * k ∨ i = 5) hT hx Tt Tw (fun o j i q => ?_) ⟨by omega, by omega, by omega, by omega, by omega, fun g hg => ⟨by omega, by omega, by omega⟩⟩ (fun i _ e => ?_) (gzLg_push (w2 := T 0 48) hl ((Tc 0 15 1 (by omega)).trans ((Cn 0 15 1 (by omega)).trans Cc1)) ((Tc 0 15 2 (by omega)).trans ((Cn 0 15 2 (by omega)).trans Cc2)) ⟨?_, ?_, ?_, ?_⟩ (fun j q => ?_) T8 (fun j q => ?_))
            · refine hfin T (fun t o j ho q1 q2 => (Tc t o j ho).trans ((Cn t o j (by omega)).trans (C1n t o j (by omega)))) (fun t o j ho q1 q2 => (Tn t o j (by omega)).trans ((Zn t o j (by omega)).trans (Yn t o j (by omega)))) fin.1 fin.2 ⟨fun j hj => ?_, ?_⟩
              · rw [Tt 13 j (by omega) (by omega) (by omega), Tt 14 j (by omega) (by omega) (by omega)]
                exact hb0.1 j hj
              · rw [Tt 0 9 (by omega) (by omega) (by omega)]; exact hb0.2
            · unfold gzQp at q
              by_cases e : o = 12 ∧ j = k
              · left
                obtain ⟨rfl, rfl⟩ := e
                rw [Tc12, show i = 58 + 7 * j by omega, T5]
              · by_cases e' : o = 0 ∧ j = 8
                · left
                  obtain ⟨rfl, rfl⟩ := e'
                  rw [TcL, show i = 5 by omega, TL]
                · right
                  exact ⟨by omega, by omega⟩
            · rcases e with e' | e'
              · rw [e', T5]; exact gz_bdI n3 hk bS
              · rw [e', TL]; exact gz_bdS (Or.inr rfl) bL2
            · rw [Tc 0 16 _ (by omega), Cn 0 16 _ (by omega), Cc3.1, T4.1, Zw 4 (by omega), K0 0 7 (by omega)]; exact hT.2.1.2.1
            · rw [Tc 0 16 _ (by omega), Cn 0 16 _ (by omega), Cc3.2.1, T4.2.1]
            · rw [Tc 0 16 _ (by omega), Cn 0 16 _ (by omega), Cc3.2.2.1, T4.2.2.1]
            · rw [Tc 0 16 _ (by omega), Cn 0 16 _ (by omega), Cc3.2.2.2, T4.2.2.2]
            · rw [Tc 0 16 _ (by omega), Cn 0 16 _ (by omega), Cc4 j q, K0 16 j (by omega)]
            · rw [Tsh j q, Zw _ (by omega)]
        · refine ⟨.error "java/lang/IllegalStateException", I, ?_, fun E hE => ⟨2, by cases hE; rfl⟩, fun J' => ⟨0, gz_ui (gz_ui I 0 47 0 0) 0 47 0 3, J', ?_, ⟨2, rfl, gz_ui_s⟩, rfl, gzR_thr2 h⟩⟩
          · unfold f_X11_store
            unfold f_X11_needIce
            unfold f_X11_needFrozen
            rw [e1]
            simp only [Option.bind_some, gzEx]
            rw [e3]
            simp only [Option.bind_some, gzEx]
            rw [c_frozen c hk, if_neg x]
            simp only [Option.bind_some]
            rw [if_pos (by decide)]
            simp only [Option.bind_some]
            rw [gzc_cell (by omega) (by omega), c.2.2.2.2.2.1 k hk]
            simp only [Option.bind_some]
            rw [if_neg z]
            rfl
          · unfold f_X12_store
            rw [e2]
            simp only [Option.bind_some, s_throws0]
            rw [if_neg (by simp)]
            rw [e4]
            simp only [Option.bind_some, gz_not01, s_throws0]
            rw [if_neg (by simp)]
            rw [m_isThawed (m 0) hk, if_neg x]
            simp only [Option.bind_some]
            rw [if_neg (by simp)]
            rw [m_of4 (m 0) hk]
            simp only [Option.bind_some]
            rw [if_neg z, s_throws1]
            rfl
    · refine ⟨.error "java/lang/IllegalArgumentException", I, ?_, fun E hE => ⟨1, by cases hE; rfl⟩, fun J' => ⟨0, gz_ui (gz_ui I 0 47 0 0) 0 47 0 2, J', ?_, ⟨1, rfl, gz_ui_s⟩, rfl, gzR_thr2 h⟩⟩
      · unfold f_X11_store
        rw [e1]
        simp only [Option.bind_some, gzEx]
        rw [e3]
        rfl
      · unfold f_X12_store
        rw [e2]
        simp only [Option.bind_some, s_throws0]
        rw [if_neg (by simp)]
        rw [e4]
        simp only [Option.bind_some, gz_not00, s_throws1]
        rfl
  · refine ⟨.error "java/lang/IndexOutOfBoundsException", I, ?_, fun E hE => ⟨0, by cases hE; rfl⟩, fun J' => ⟨0, gz_ui (gz_ui I 0 47 0 0) 0 47 0 1, J', ?_, ⟨0, rfl, gz_ui_s⟩, rfl, gzR_thr2 h⟩⟩
    · unfold f_X11_store
      rw [e1]; rfl
    · unfold f_X12_store
      rw [e2]
      simp only [Option.bind_some, s_throws1]
      rfl
theorem L_saw (p0 p1 p2 : Int32) (h : gzR I I) : ∃ e I1, f_X11_saw 4096 p0 p1 p2 I J = some (e, I1, J) ∧ (∀ E, e = .error E → ∃ k : Nat, (["java/lang/IndexOutOfBoundsException", "java/lang/IllegalArgumentException", "java/lang/IllegalStateException"] : List String)[k]? = some E) ∧ ∀ J' : gzJT, ∃ v I2 J2, f_X12_saw 4096 p0 p1 p2 I1 J' = some (v, I2, J2) ∧ gzSame e ["java/lang/IndexOutOfBoundsException", "java/lang/IllegalArgumentException", "java/lang/IllegalStateException"] v (I2 0 47 0) ∧ J2 0 59 0 = J' 0 59 0 ∧ gzR I2 I2 := by
  obtain ⟨nf, ng, nl, nx, hT, hx, c, b, m⟩ := gzR_go h
  obtain ⟨φ, hφ⟩ : ∃ φ, φ = 4096 := ⟨_, rfl⟩
  rw [← hφ]
  have n3 := c.1.2.2.1
  have n4 := c.1.2.2.2
  have h8 : I 0 0 8 = I 0 48 5 := hT.2.1.2.2.1
  rcases p_gr (a := p0) (J := J) c (m 0) with ⟨⟨k, hk, rfl⟩, e1, e2⟩ | ⟨e1, e2⟩
  · rcases p_fam (a := p1) (J := J) c (m 0) with ⟨⟨f, hf, rfl⟩, f1, f2⟩ | ⟨f1, f2⟩
    · rcases p_num1 (I := I) (J := J) (a := p2) with ⟨⟨q, hq1, hq2, rfl⟩, e3, e4⟩ | ⟨e3, e4⟩
      · by_cases x : tH (I 0 48) k = true
        · refine ⟨.error "java/lang/IllegalStateException", I, ?_, fun E hE => ⟨2, by cases hE; rfl⟩, fun J' => ⟨0, gz_ui (gz_ui I 0 47 0 0) 0 47 0 3, J', ?_, ⟨2, rfl, gz_ui_s⟩, rfl, gzR_thr2 h⟩⟩
          · unfold f_X11_saw
            unfold f_X11_needFrozen
            rw [e1]
            simp only [Option.bind_some, gzEx]
            rw [f1]
            simp only [Option.bind_some, gzEx]
            rw [e3]
            simp only [Option.bind_some, gzEx]
            rw [c_frozen c hk, if_pos x]
            rfl
          · unfold f_X12_saw
            rw [e2]
            simp only [Option.bind_some]
            rw [if_neg (by simp), f2]
            simp only [Option.bind_some, if_true, s_throws0]
            rw [if_neg (by simp)]
            rw [e4]
            simp only [Option.bind_some, gz_not01, s_throws0]
            rw [if_neg (by simp)]
            rw [m_isThawed (m 0) hk, if_pos x]
            simp only [Option.bind_some]
            rw [if_pos (by decide), s_throws1]
            rfl
        · by_cases y : tF (I 0 48) k = f ∨ tT (I 0 48) k = f
          · refine ⟨.error "java/lang/IllegalStateException", I, ?_, fun E hE => ⟨2, by cases hE; rfl⟩, fun J' => ⟨0, gz_ui (gz_ui I 0 47 0 0) 0 47 0 3, J', ?_, ⟨2, rfl, gz_ui_s⟩, rfl, gzR_thr2 h⟩⟩
            · unfold f_X11_saw
              unfold f_X11_needFrozen
              rw [e1]
              simp only [Option.bind_some, gzEx]
              rw [f1]
              simp only [Option.bind_some, gzEx]
              rw [e3]
              simp only [Option.bind_some, gzEx]
              rw [c_frozen c hk, if_neg x]
              simp only [Option.bind_some]
              rw [if_pos (by decide)]
              simp only [Option.bind_some]
              rw [c_isOf c b hk (by omega), if_pos y]
              simp only [Option.bind_some]
              rw [if_neg (by decide)]
            · unfold f_X12_saw
              rw [e2]
              simp only [Option.bind_some]
              rw [if_neg (by simp), f2]
              simp only [Option.bind_some, if_true, s_throws0]
              rw [if_neg (by simp)]
              rw [e4]
              simp only [Option.bind_some, gz_not01, s_throws0]
              rw [if_neg (by simp)]
              rw [m_isThawed (m 0) hk, if_neg x]
              simp only [Option.bind_some]
              rw [if_neg (by simp)]
              rw [m_isOf (m 0) hk (by omega), if_pos y]
              simp only [Option.bind_some]
              rw [if_pos (by decide), s_throws1]
              rfl
          · by_cases z : Int32.ofNat q ≤ I 0 48 (58 + 7 * k)
            · obtain ⟨K, k0, hk0, hkeep, K0, Kh, Kb, hX⟩ := r_rem (J := J) h (φ := φ) (by omega)
              have hl := hT.2.2.2.2.2.2
              obtain ⟨hab, hbd⟩ := gzWx_bd n3 hx
              have b5 := (hbd 5).2.1 (Or.inr rfl)
              have bI := ((hbd (58 + 7 * k)).2.2.2.2.2.2 k hk).2.1 rfl
              have z' := Int32.le_iff_toInt_le.mp z
              rw [gzn_int (show q < 2 ^ 31 by omega)] at z'
              obtain ⟨S, eS⟩ : ∃ S, S = I 0 48 (58 + 7 * k) - Int32.ofNat q := ⟨_, rfl⟩
              have bS : 0 ≤ S.toInt ∧ S.toInt ≤ 999 := by
                rw [eS, gz_subb (by rw [gzn_int (show q < 2 ^ 31 by omega)]; omega) (by rw [gzn_int (show q < 2 ^ 31 by omega)]; omega), gzn_int (show q < 2 ^ 31 by omega)]
                omega
              have bL := ((hbd (32 + 4 * f)).2.2.2.2.2.1 f hf).2.2 rfl
              obtain ⟨L, eL⟩ : ∃ L, L = if I 0 48 (32 + 4 * f) + Int32.ofNat q < 999 then I 0 48 (32 + 4 * f) + Int32.ofNat q else 999 := ⟨_, rfl⟩
              have bL2 : 0 ≤ L.toInt ∧ L.toInt ≤ 999 := by
                rw [eL]
                exact gz_cap (c := 999) (by omega) (by rw [gzn_int (show q < 2 ^ 31 by omega)]; omega) (by omega)
              obtain ⟨C1, hlose, C1n, C1s, Cc1, Cc2, Cc3, Cc4⟩ := c_lose (J := J) (I := K) (t := 0) (k := k) (a2 := 2) (a3 := Int32.ofNat q) (nl := nl) (nx := nx) (by omega) ((K0 15 1 (by omega)).trans hl.2.2.1) ((K0 15 2 (by omega)).trans hl.2.2.2.2.1) hl.1 hl.2.1
              have hC1S : C1 0 12 k = S := by rw [C1s, K0 12 k (by omega), c.2.2.2.2.2.1 k hk, eS]
              obtain ⟨C, eC⟩ : ∃ C, C = gz_ui C1 0 4 f L := ⟨_, rfl⟩
              have Cn : ∀ t o j, ¬ (t = 0 ∧ o = 4 ∧ j = f) → C t o j = C1 t o j := fun t o j q => by rw [eC]; exact if_neg q
              have Cs : C 0 4 f = L := by rw [eC]; exact gz_ui_s
              have hC1L : C1 0 4 f = I 0 48 (32 + 4 * f) := (C1n 0 4 f (by omega)).trans ((K0 4 f (by omega)).trans (c.2.2.2.2.2.2.2.2.2.2.1 f hf))
              have hfill : f_X0_fill 0 (Int32.ofNat f) (Int32.ofNat q) C1 J = some ((), C, J) := by
                unfold f_X0_fill
                rw [gzc_cell (by omega) (by omega)]
                simp only [Option.bind_some]
                rw [gzc_write (by omega) (by omega), hC1L, ← eL, ← eC]
                rfl
              obtain ⟨X, eX⟩ : ∃ X, X = gz_ui C 0 47 0 0 := ⟨_, rfl⟩
              have Xh : ∀ t o j, 47 ≤ o → ¬ (t = 0 ∧ o = 47 ∧ j = 0) → X t o j = I t o j := fun t o j ho hn => by
                rw [eX]
                exact (if_neg hn).trans ((Cn t o j (by omega)).trans ((C1n t o j (by omega)).trans (Kh t o j ho)))
              have Xc : ∀ t o j, o < 47 → X t o j = C t o j := fun t o j ho => by rw [eX]; exact if_neg (by omega)
              obtain ⟨hrem, Rn, hfin⟩ := hX X Xh
              obtain ⟨R, eR⟩ : ∃ R, R = gzRm X k0 := ⟨_, rfl⟩
              rw [← eR] at hrem Rn hfin
              have vX : gzVi X (I 0 48) nf ng := gzVi_eq (m 0) (fun j hj => (Xh 0 48 j (by omega) (by omega)).trans (if_neg (by omega)).symm)
              have Rw : ∀ j, R 0 48 j = I 0 48 j := fun j => (Rn 0 48 j (by omega) (by omega)).trans (Xh 0 48 j (by omega) (by omega))
              obtain ⟨Y, eY⟩ : ∃ Y, Y = gz_ui R 0 48 (58 + 7 * k) S := ⟨_, rfl⟩
              have Yn : ∀ t o j, ¬ (t = 0 ∧ o = 48 ∧ j = 58 + 7 * k) → Y t o j = R t o j := fun t o j q => by rw [eY]; exact if_neg q
              have Ys : Y 0 48 (58 + 7 * k) = S := by rw [eY]; exact gz_ui_s
              obtain ⟨Z, eZ⟩ : ∃ Z, Z = gz_ui Y 0 48 (32 + 4 * f) L := ⟨_, rfl⟩
              have Zn : ∀ t o j, ¬ (t = 0 ∧ o = 48 ∧ j = (32 + 4 * f)) → Z t o j = Y t o j := fun t o j q => by rw [eZ]; exact if_neg q
              have Zs : Z 0 48 (32 + 4 * f) = L := by rw [eZ]; exact gz_ui_s
              have Zw : ∀ j, ¬ (j = 58 + 7 * k ∨ j = (32 + 4 * f)) → Z 0 48 j = I 0 48 j := fun j q => (Zn 0 48 j (by omega)).trans ((Yn 0 48 j (by omega)).trans (Rw j))
              obtain ⟨T, htell, Tn, T8, T4, Tsh⟩ := m_tells (I := Z) (φ := φ) (nl := nl) (a1 := Int32.ofNat k) (a2 := 2) (a3 := Int32.ofNat q) ((Zw 8 (by omega)).trans hl.2.2.2.1) hl.1 (by omega)
              have T5 : T 0 48 (58 + 7 * k) = S := (Tn 0 48 _ (by omega)).trans ((Zn 0 48 _ (by omega)).trans Ys)
              have TL : T 0 48 (32 + 4 * f) = L := (Tn 0 48 _ (by omega)).trans Zs
              have Tc : ∀ t o j, o < 47 → T t o j = C t o j := fun t o j ho => (Tn t o j (by omega)).trans ((Zn t o j (by omega)).trans ((Yn t o j (by omega)).trans ((Rn t o j (by omega) (by omega)).trans (Xc t o j ho))))
              have Tt : ∀ o j, o < 20 → ¬ ((o = 12 ∧ j = k) ∨ (o = 4 ∧ j = f)) → ¬ (o = 15 ∨ o = 16) → T 0 o j = I 0 o j := fun o j ho q q2 => (Tc 0 o j (by omega)).trans ((Cn 0 o j (by omega)).trans ((C1n 0 o j (by omega)).trans (K0 o j ho)))
              have Tw : ∀ j, j < 124 → j ≠ 8 → ¬ (j = 58 + 7 * k ∨ j = (32 + 4 * f)) → T 0 48 j = I 0 48 j := fun j q1 q2 q => (Tn 0 48 j (by omega)).trans (Zw j q)
              have Tc12 : T 0 12 k = S := (Tc 0 12 k (by omega)).trans ((Cn 0 12 k (by omega)).trans hC1S)
              have TcL : T 0 4 f = L := (Tc 0 4 f (by omega)).trans Cs
              obtain ⟨w0, v0, -, -, -, -, -, -, -, -, hbo⟩ := id h
              have hb0 := hbo 0 (by omega) (by omega)
              refine ⟨.ok S, C, ?_, fun E hE => (by cases hE), fun J' => ⟨S, T, J', ?_, ⟨rfl, ?_⟩, rfl, ?_⟩⟩
              · unfold f_X11_saw
                unfold f_X11_needIce
                unfold f_X11_needFrozen
                rw [e1]
                simp only [Option.bind_some, gzEx]
                rw [f1]
                simp only [Option.bind_some, gzEx]
                rw [e3]
                simp only [Option.bind_some, gzEx]
                rw [c_frozen c hk, if_neg x]
                simp only [Option.bind_some]
                rw [if_pos (by decide)]
                simp only [Option.bind_some]
                rw [c_isOf c b hk (by omega), if_neg y]
                simp only [Option.bind_some]
                rw [if_pos (by simp)]
                rw [gzc_cell (by omega) (by omega), c.2.2.2.2.2.1 k hk]
                simp only [Option.bind_some]
                rw [if_pos z]
                simp only [Option.bind_some]
                rw [hkeep]
                simp only [Option.bind_some]
                rw [hlose]
                simp only [Option.bind_some]
                rw [hfill]
                simp only [Option.bind_some]
                rw [gzGd_in (by omega) (by omega), gzn_clamp (by omega), Cn 0 12 k (by omega), hC1S]
              · unfold f_X12_saw
                rw [← eX, m_noGr vX hk]
                simp only [Option.bind_some]
                rw [if_neg (by simp), m_noFa vX hf]
                simp only [Option.bind_some, if_true, s_throws0]
                rw [if_neg (by simp)]
                rw [e4]
                simp only [Option.bind_some, gz_not01, s_throws0]
                rw [if_neg (by simp)]
                rw [m_isThawed vX hk, if_neg x]
                simp only [Option.bind_some]
                rw [if_neg (by simp)]
                rw [m_isOf vX hk (by omega), if_neg y]
                simp only [Option.bind_some]
                rw [if_neg (by simp)]
                rw [m_of4 vX hk]
                simp only [Option.bind_some]
                rw [if_pos z, s_throws0]
                simp only [Option.bind_some, if_true, hrem J']
                unfold f_X12_at f_X12_adds
                unfold f_X12_familyAt
                simp (disch := omega) only [Option.bind_some, gzc_mul, gzc_add', gzc_add, gzGd_in, gzn_clamp]
                rw [show 54 + 7 * k + 4 = 58 + 7 * k by omega, show 30 + 4 * f + 2 = 32 + 4 * f by omega, Rw (58 + 7 * k), ← eS, ← eY, Yn 0 48 (32 + 4 * f) (by omega), Rw (32 + 4 * f), ← eL, ← eZ, htell]
                simp only [Option.bind_some]
                rw [show (4 : Int32) = Int32.ofNat 4 from rfl, s_X12_of (by omega) (by omega), show 54 + 7 * k + 4 = 58 + 7 * k by omega, T5]
                rfl
              · refine (Tn 0 47 0 (by omega)).trans ((Zn 0 47 0 (by omega)).trans ((Yn 0 47 0 (by omega)).trans ((Rn 0 47 0 (by omega) (by omega)).trans ?_)))
                rw [eX]; exact gz_ui_s
              · have fin := r_fin (T := T) (D := fun o j => (o = 12 ∧ j = k) ∨ (o = 4 ∧ j = f)) (E := fun i => i = 58 + 7 * k ∨ i = (32 + 4 * f)) hT hx Tt Tw (fun o j i q => ?_) ⟨by omega, by omega, by omega, by omega, by omega, fun g hg => ⟨by omega, by omega, by omega⟩⟩ (fun i _ e => ?_) (gzLg_push (w2 := T 0 48) hl ((Tc 0 15 1 (by omega)).trans ((Cn 0 15 1 (by omega)).trans Cc1)) ((Tc 0 15 2 (by omega)).trans ((Cn 0 15 2 (by omega)).trans Cc2)) ⟨?_, ?_, ?_, ?_⟩ (fun j q => ?_) T8 (fun j q => ?_))
                · refine hfin T (fun t o j ho q1 q2 => (Tc t o j ho).trans ((Cn t o j (by omega)).trans (C1n t o j (by omega)))) (fun t o j ho q1 q2 => (Tn t o j (by omega)).trans ((Zn t o j (by omega)).trans (Yn t o j (by omega)))) fin.1 fin.2 ⟨fun j hj => ?_, ?_⟩
                  · rw [Tt 13 j (by omega) (by omega) (by omega), Tt 14 j (by omega) (by omega) (by omega)]
                    exact hb0.1 j hj
                  · rw [Tt 0 9 (by omega) (by omega) (by omega)]; exact hb0.2
                · unfold gzQp at q
                  by_cases e : o = 12 ∧ j = k
                  · left
                    obtain ⟨rfl, rfl⟩ := e
                    rw [Tc12, show i = 58 + 7 * j by omega, T5]
                  · by_cases e' : o = 4 ∧ j = f
                    · left
                      obtain ⟨rfl, rfl⟩ := e'
                      rw [TcL, show i = 32 + 4 * j by omega, TL]
                    · right
                      exact ⟨by omega, by omega⟩
                · rcases e with e' | e'
                  · rw [e', T5]; exact gz_bdI n3 hk bS
                  · rw [e', TL]; exact gz_bdL n3 hf bL2
                · rw [Tc 0 16 _ (by omega), Cn 0 16 _ (by omega), Cc3.1, T4.1, Zw 4 (by omega), K0 0 7 (by omega)]; exact hT.2.1.2.1
                · rw [Tc 0 16 _ (by omega), Cn 0 16 _ (by omega), Cc3.2.1, T4.2.1]
                · rw [Tc 0 16 _ (by omega), Cn 0 16 _ (by omega), Cc3.2.2.1, T4.2.2.1]
                · rw [Tc 0 16 _ (by omega), Cn 0 16 _ (by omega), Cc3.2.2.2, T4.2.2.2]
                · rw [Tc 0 16 _ (by omega), Cn 0 16 _ (by omega), Cc4 j q, K0 16 j (by omega)]
                · rw [Tsh j q, Zw _ (by omega)]
            · refine ⟨.error "java/lang/IllegalStateException", I, ?_, fun E hE => ⟨2, by cases hE; rfl⟩, fun J' => ⟨0, gz_ui (gz_ui I 0 47 0 0) 0 47 0 3, J', ?_, ⟨2, rfl, gz_ui_s⟩, rfl, gzR_thr2 h⟩⟩
              · unfold f_X11_saw
                unfold f_X11_needIce
                unfold f_X11_needFrozen
                rw [e1]
                simp only [Option.bind_some, gzEx]
                rw [f1]
                simp only [Option.bind_some, gzEx]
                rw [e3]
                simp only [Option.bind_some, gzEx]
                rw [c_frozen c hk, if_neg x]
                simp only [Option.bind_some]
                rw [if_pos (by decide)]
                simp only [Option.bind_some]
                rw [c_isOf c b hk (by omega), if_neg y]
                simp only [Option.bind_some]
                rw [if_pos (by simp)]
                rw [gzc_cell (by omega) (by omega), c.2.2.2.2.2.1 k hk]
                simp only [Option.bind_some]
                rw [if_neg z]
                rfl
              · unfold f_X12_saw
                rw [e2]
                simp only [Option.bind_some]
                rw [if_neg (by simp), f2]
                simp only [Option.bind_some, if_true, s_throws0]
                rw [if_neg (by simp)]
                rw [e4]
                simp only [Option.bind_some, gz_not01, s_throws0]
                rw [if_neg (by simp)]
                rw [m_isThawed (m 0) hk, if_neg x]
                simp only [Option.bind_some]
                rw [if_neg (by simp)]
                rw [m_isOf (m 0) hk (by omega), if_neg y]
                simp only [Option.bind_some]
                rw [if_neg (by simp)]
                rw [m_of4 (m 0) hk]
                simp only [Option.bind_some]
                rw [if_neg z, s_throws1]
                rfl
      · refine ⟨.error "java/lang/IllegalArgumentException", I, ?_, fun E hE => ⟨1, by cases hE; rfl⟩, fun J' => ⟨0, gz_ui (gz_ui I 0 47 0 0) 0 47 0 2, J', ?_, ⟨1, rfl, gz_ui_s⟩, rfl, gzR_thr2 h⟩⟩
        · unfold f_X11_saw
          rw [e1]
          simp only [Option.bind_some, gzEx]
          rw [f1]
          simp only [Option.bind_some, gzEx]
          rw [e3]
          rfl
        · unfold f_X12_saw
          rw [e2]
          simp only [Option.bind_some]
          rw [if_neg (by simp), f2]
          simp only [Option.bind_some, if_true, s_throws0]
          rw [if_neg (by simp)]
          rw [e4]
          simp only [Option.bind_some, gz_not00, s_throws1]
          rfl
    · refine ⟨.error "java/lang/IndexOutOfBoundsException", I, ?_, fun E hE => ⟨0, by cases hE; rfl⟩, fun J' => ⟨0, gz_ui (gz_ui I 0 47 0 0) 0 47 0 1, J', ?_, ⟨0, rfl, gz_ui_s⟩, rfl, gzR_thr2 h⟩⟩
      · unfold f_X11_saw
        rw [e1]
        simp only [Option.bind_some, gzEx]
        rw [f1]
        rfl
      · unfold f_X12_saw
        rw [e2]
        simp only [Option.bind_some]
        rw [if_neg (by simp), f2]
        simp only [Option.bind_some]
        rw [if_neg (by decide), s_throws1]
        rfl
  · refine ⟨.error "java/lang/IndexOutOfBoundsException", I, ?_, fun E hE => ⟨0, by cases hE; rfl⟩, fun J' => ⟨0, gz_ui (gz_ui I 0 47 0 0) 0 47 0 1, J', ?_, ⟨0, rfl, gz_ui_s⟩, rfl, gzR_thr2 h⟩⟩
    · unfold f_X11_saw
      rw [e1]; rfl
    · unfold f_X12_saw
      rw [e2]
      simp only [Option.bind_some]
      rw [if_pos (by decide), s_throws1]
      rfl
end
