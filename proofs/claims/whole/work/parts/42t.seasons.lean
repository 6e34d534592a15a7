/-! seasons -/
section
variable {I I' I2 X T Ic Im Ic' Im' Ic2 Im2 M K R : gzIT} {J : gzJT} {w w2 v : Nat → Int32} {nf ng nl nx nl2 nx2 t t1 φ : Nat}
/-- a family after so many meals -/
def gzEn (n : Int32) : Nat → Int32 × Int32 → Int32 × Int32
  | 0, p => p
  | m + 1, p => gzEn n m (gzE1 n p.1, gzE2 n p.1 p.2)
/-- n seasons by the class (F a loop over them) and by the model -/
theorem r_goes {dr : Int32} (hdr : dr = 0 ∨ dr = 1) (hφ : 600 < φ) (n : Nat) (hn : n ≤ 60) : ∀ (m i : Nat) (Ic Im : gzIT), gzSm Ic t Im nf ng → i + m = n → ∃ (q : Nat) (Ic' Im' : gzIT), q ≤ 10 * m ∧ (∀ {ρ : Type} (F : Nat → Int32 → Int32 → gzIT → gzJT → Option ρ), (∀ k (x : Int32) j (C : gzIT), j < n → F (k + 1) x (Int32.ofNat j) C J = Option.bind (f_X8_pass φ t 0 dr C J) (fun v => F k (x + v.1) (Int32.ofNat (j + 1)) v.2.1 v.2.2)) → ∀ (k : Nat) (x : Int32), F (k + m) x (Int32.ofNat i) Ic J = F k (x + Int32.ofNat q) (Int32.ofNat n) Ic' J) ∧ (∀ (k : Nat) (x : Int32) (J' : gzJT), f_X12_goesOn_5 φ (k + m) (Int32.ofNat n) (1 - dr) x (Int32.ofNat i) Im J' = f_X12_goesOn_5 φ k (Int32.ofNat n) (1 - dr) (x + Int32.ofNat q) (Int32.ofNat n) Im' J') ∧ gzSm Ic' t Im' nf ng ∧ gzSx t Ic Ic' Im Im' ∧ (∀ f, f < nf → (Im' 0 48 (32 + 4 * f), Im' 0 48 (33 + 4 * f)) = gzEn (Im 0 48 (31 + 4 * f)) m (Im 0 48 (32 + 4 * f), Im 0 48 (33 + 4 * f))) := by
  intro m
  induction m with
  | zero =>
    intro i Ic Im hS hi
    refine ⟨0, Ic, Im, by omega, fun F hF k x => ?_, fun k x J' => ?_, hS, gzSx_0, fun f hf => rfl⟩
    · rw [show i = n by omega, Nat.add_zero, show Int32.ofNat 0 = 0 from rfl, Int32.add_zero]
    · rw [show i = n by omega, Nat.add_zero, show Int32.ofNat 0 = 0 from rfl, Int32.add_zero]
  | succ m ih =>
    intro i Ic Im hS hi
    obtain ⟨q1, C1, N1, hq1, hc1, hm1, S1, X1, W1⟩ := r_season (J := J) (φ := φ) hdr hS hφ
    obtain ⟨q, C2, N2, hq, hc2, hm2, S2, X2, W2⟩ := ih (i + 1) C1 N1 S1 (by omega)
    refine ⟨q1 + q, C2, N2, by omega, fun F hF k x => ?_, fun k x J' => ?_, S2, gzSx_t X1 X2, fun f hf => ?_⟩
    · rw [show k + (m + 1) = (k + m) + 1 by omega, hF (k + m) x i Ic (by omega), hc1]
      simp only [Option.bind_some]
      rw [hc2 F hF k (x + Int32.ofNat q1), Int32.add_assoc, gzc_adds]
    · rw [show k + (m + 1) = (k + m) + 1 by omega, f_X12_goesOn_5, if_neg (by rw [gzn_le (by omega) (by omega)]; omega), hm1 J', gzn_succ]
      simp only [Option.bind_some]
      rw [hm2 k (x + Int32.ofNat q1) J', Int32.add_assoc, gzc_adds]
    · obtain ⟨v1, v2, v3, v4⟩ := W1.2.2.1 f hf
      rw [W2 f hf, v4, v1, v2]
      rfl
theorem m_goes_end {x a y : Int32} {n k : Nat} (hn : n < 2 ^ 31) : f_X12_goesOn_5 φ (k + 1) (Int32.ofNat n) a x (Int32.ofNat n) I J = some (x, I, J) := by
  rw [f_X12_goesOn_5, if_pos (by rw [gzn_le hn hn]; omega)]
theorem gzR_sm (h : gzR I I) : ∃ nf ng, gzSm I 0 I nf ng ∧ nf ≤ 6 ∧ ng ≤ 10 := by
  obtain ⟨nf, ng, nl, nx, hT, hx, c, b, m⟩ := gzR_go h
  exact ⟨nf, ng, ⟨⟨nl, nx, hT, hx⟩, gzR_law h⟩, c.1.2.2.1, c.1.2.2.2⟩
/-- the relation looks at these cells alone -/
theorem gzSm_congr (hS : gzSm Ic t Im nf ng) (hc : ∀ o k, o < 20 → o ≠ 6 → Ic' t1 o k = Ic t o k) (hl : ∀ o k, 20 ≤ o → o < 26 → Ic' 0 o k = Ic 0 o k) (hm : ∀ k, k < 1213 → Im' 0 48 k = Im 0 48 k) : gzSm Ic' t1 Im' nf ng := by
  obtain ⟨⟨nl, nx, hT, hx⟩, hlaw⟩ := hS
  have n3 := hT.1.1
  have n4 := hT.1.2.1
  refine ⟨⟨nl, nx, ?_, gzWx_w n3 n4 (fun i hi => hm i (by omega)) hx⟩, ?_⟩
  · refine gzTn_w (w := Im 0 48) (fun i hi => hm i (by omega)) ?_
    have e : ∀ o, o < 20 → o ≠ 6 → Ic' t1 o = Ic t o := fun o h1 h2 => funext fun k => hc o k h1 h2
    unfold gzTn gzLg at hT ⊢
    rw [e 0 (by omega) (by omega), e 1 (by omega) (by omega), e 2 (by omega) (by omega), e 3 (by omega) (by omega), e 4 (by omega) (by omega), e 5 (by omega) (by omega), e 7 (by omega) (by omega), e 8 (by omega) (by omega), e 9 (by omega) (by omega), e 10 (by omega) (by omega), e 11 (by omega) (by omega), e 12 (by omega) (by omega), e 13 (by omega) (by omega), e 14 (by omega) (by omega), e 15 (by omega) (by omega), e 16 (by omega) (by omega), e 17 (by omega) (by omega), e 18 (by omega) (by omega), e 19 (by omega) (by omega)]
    exact hT
  · rw [hm 3 (by omega)]
    have hlaw2 := gzLw_congr hl hlaw
    rcases hlaw2 with q | ⟨a1, nL, nc, a2, a3, a4, a5, a6⟩
    · exact Or.inl q
    · have hv : ∀ j, j < 849 → Im' 0 48 (364 + j) = Im 0 48 (364 + j) := fun j hj => hm _ (by omega)
      refine Or.inr ⟨a1, nL, nc, a2, a3, a4, (hv 0 (by omega)).trans a5, fun l hl2 => ?_⟩
      obtain ⟨kd, b, e, b1, b2, b3, b4, b5, b6, b7, b8, b9, b10, b11, b12, b13⟩ := a6 l hl2
      refine ⟨kd, b, e, b1, b2, b3, b4, (hv _ (by omega)).trans b5, b6.trans (hv _ (by omega)).symm, ?_, b8, (hv _ (by omega)).trans b9, b10, (hv _ (by omega)).trans b11, fun i hi hi2 => ?_, ?_⟩
      · show 0 ≤ (Im' 0 48 (364 + (2 + 4 * l))).toInt ∧ (Im' 0 48 (364 + (2 + 4 * l))).toInt ≤ 100
        rw [hv _ (by omega)]; exact b7
      · show gzCd _ (Im' 0 48 (364 + (49 + 2 * i))) (Im' 0 48 (364 + (50 + 2 * i)))
        rw [hv _ (by omega), hv _ (by omega)]; exact b12 i hi hi2
      · rcases b13 with q | q
        · exact Or.inl q
        · right
          have key : ∀ m i L, i + m ≤ 400 → gzSh (fun i => Im' 0 48 (364 + i)) i m L = gzSh (fun i => Im 0 48 (364 + i)) i m L := by
            intro m
            induction m with
            | zero => intro i L _; rfl
            | succ m ih =>
              intro i L hi
              show (if 24 < L.length then none else (gzSt (Im' 0 48 (364 + (49 + 2 * i))) L).bind (fun L' => gzSh (fun i => Im' 0 48 (364 + i)) (i + 1) m L')) = (if 24 < L.length then none else (gzSt (Im 0 48 (364 + (49 + 2 * i))) L).bind (fun L' => gzSh (fun i => Im 0 48 (364 + i)) (i + 1) m L'))
              rw [hv _ (by omega)]
              by_cases q : 24 < L.length
              · rw [if_pos q, if_pos q]
              · rw [if_neg q, if_neg q]
                exact congrArg (Option.bind _) (funext fun L' => ih (i + 1) L' (by omega))
          rw [key (e - b) b [] (by omega)]
          exact q
theorem p_num60 {a : Int32} : ((∃ k, 1 ≤ k ∧ k ≤ 60 ∧ a = Int32.ofNat k) ∧ f_X11_needNumber a 1 60 I J = some (.ok (), I, J) ∧ f_X12_in a 1 60 = some 1) ∨ (f_X11_needNumber a 1 60 I J = some (.error "java/lang/IllegalArgumentException", I, J) ∧ f_X12_in a 1 60 = some 0) := by
  unfold f_X11_needNumber f_X12_in
  have e1 : (1 : Int32).toInt = 1 := rfl
  have e9 : (60 : Int32).toInt = 60 := rfl
  by_cases q1 : a < 1
  · exact Or.inr ⟨if_pos q1, if_pos q1⟩
  · have q1' : 1 ≤ a.toInt := by
      have : ¬ a.toInt < (1 : Int32).toInt := fun q => q1 (Int32.lt_iff_toInt_lt.mpr q)
      omega
    by_cases q2 : a ≤ 60
    · have q2' := Int32.le_iff_toInt_le.mp q2
      obtain ⟨k, hk, rfl⟩ := gzn_of (x := a) (by omega)
      rw [gzn_int hk] at q1' q2'
      refine Or.inl ⟨⟨k, by omega, by omega, rfl⟩, ?_, ?_⟩
      · rw [if_neg q1, if_pos q2]
      · rw [if_neg q1, if_neg]
        rw [gzc_lt1 (by omega) (by omega)]; omega
    · have q2' : 60 < a.toInt := by
        have : ¬ a.toInt ≤ (60 : Int32).toInt := fun q => q2 (Int32.le_iff_toInt_le.mpr q)
        omega
      refine Or.inr ⟨?_, ?_⟩
      · rw [if_neg q1, if_neg q2]
      · rw [if_neg q1, if_pos (Int32.lt_iff_toInt_lt.mpr (by omega))]
theorem L_seasons (p0 : Int32) (h : gzR I I) : ∃ e I1, f_X11_seasons 4096 p0 I J = some (e, I1, J) ∧ (∀ E, e = .error E → ∃ k : Nat, (["java/lang/IllegalArgumentException"] : List String)[k]? = some E) ∧ ∀ J' : gzJT, ∃ v I2 J2, f_X12_seasons 4096 p0 I1 J' = some (v, I2, J2) ∧ gzSame e ["java/lang/IllegalArgumentException"] v (I2 0 47 0) ∧ J2 0 59 0 = J' 0 59 0 ∧ gzR I2 I2 := by
  obtain ⟨nf, ng, hS, n3, n4⟩ := gzR_sm h
  obtain ⟨φ, hφ⟩ : ∃ φ, φ = 4096 := ⟨_, rfl⟩
  rw [← hφ]
  rcases p_num60 (I := I) (J := J) (a := p0) with ⟨⟨n, hn1, hn2, rfl⟩, e1, e2⟩ | ⟨e1, e2⟩
  · obtain ⟨K, k0, hk0, hkeep, K0, Kh, Kb, hX⟩ := r_rem (J := J) h (φ := φ) (by omega)
    have SK : gzSm K 0 I nf ng := gzSm_congr hS (fun o k h1 h2 => K0 o k h1) (fun o k h1 h2 => Kb 0 o k (by omega) (by unfold gzCs; omega) (by omega) (by omega)) (fun _ _ => rfl)
    obtain ⟨q, C, N0, hq, hc, -, -, XC, -⟩ := r_goes (J := J) (φ := φ) (t := 0) (dr := 1) (Or.inr rfl) (by omega) n hn2 n 0 K I SK (by omega)
    obtain ⟨X, eX⟩ : ∃ X, X = gz_ui C 0 47 0 0 := ⟨_, rfl⟩
    have CK : ∀ t' o j, ¬ (t' = 0 ∧ o < 20) → ¬ (o = 26 ∨ o = 27) → C t' o j = K t' o j := XC.1
    have Xh : ∀ t o j, 47 ≤ o → ¬ (t = 0 ∧ o = 47 ∧ j = 0) → X t o j = I t o j := fun t o j ho hn => by
      rw [eX]
      exact (if_neg hn).trans ((CK t o j (by omega) (by omega)).trans (Kh t o j ho))
    have Xc : ∀ t o j, o < 47 → X t o j = C t o j := fun t o j ho => by rw [eX]; exact if_neg (by omega)
    obtain ⟨hrem, Rn, hfin⟩ := hX X Xh
    obtain ⟨R, eR⟩ : ∃ R, R = gzRm X k0 := ⟨_, rfl⟩
    rw [← eR] at hrem Rn hfin
    have Rw : ∀ j, R 0 48 j = I 0 48 j := fun j => (Rn 0 48 j (by omega) (by omega)).trans (Xh 0 48 j (by omega) (by omega))
    have SR : gzSm K 0 R nf ng := gzSm_congr SK (fun _ _ _ _ => rfl) (fun _ _ _ _ => rfl) (fun k _ => Rw k)
    obtain ⟨q', C', N, hq', hc', hm', SN, XN, -⟩ := r_goes (J := J) (φ := φ) (t := 0) (dr := 1) (Or.inr rfl) (by omega) n hn2 n 0 K R SR (by omega)
    have hcls : ∀ (q : Nat) (C : gzIT), (∀ {ρ : Type} (F : Nat → Int32 → Int32 → gzIT → gzJT → Option ρ), (∀ k (x : Int32) j (C : gzIT), j < n → F (k + 1) x (Int32.ofNat j) C J = Option.bind (f_X8_pass φ 0 0 1 C J) (fun v => F k (x + v.1) (Int32.ofNat (j + 1)) v.2.1 v.2.2)) → ∀ (k : Nat) (x : Int32), F (k + n) x (Int32.ofNat 0) K J = F k (x + Int32.ofNat q) (Int32.ofNat n) C J) → f_X11_seasons_23 φ φ (Int32.ofNat n) 0 0 K J = some (.ok (Int32.ofNat q), C, J) := fun q C hc => by
      have e := hc (fun k x j C J => f_X11_seasons_23 φ k (Int32.ofNat n) x j C J) (fun k x j C hj => by
        show f_X11_seasons_23 φ (k + 1) (Int32.ofNat n) x (Int32.ofNat j) C J = _
        rw [f_X11_seasons_23, if_neg (by rw [gzn_le (by omega) (by omega)]; omega), gzn_succ]) (φ - n) 0
      rw [show φ - n + n = φ by omega] at e
      refine (show f_X11_seasons_23 φ φ (Int32.ofNat n) 0 0 K J = f_X11_seasons_23 φ (φ - n) (Int32.ofNat n) (0 + Int32.ofNat q) (Int32.ofNat n) C J from e).trans ?_
      obtain ⟨z, hz⟩ : ∃ z, φ - n = z + 1 := ⟨φ - n - 1, by omega⟩
      rw [hz, f_X11_seasons_23, if_pos (by rw [gzn_le (by omega) (by omega)]; omega), Int32.zero_add]
    have h1 := hcls q C (fun F hF k x => hc F hF k x)
    have h2 := hcls q' C' (fun F hF k x => hc' F hF k x)
    have hqC : Int32.ofNat q' = Int32.ofNat q ∧ C' = C := by
      have e := h2.symm.trans h1
      simp only [Option.some.injEq, Prod.mk.injEq, Except.ok.injEq, and_true] at e
      exact e
    obtain ⟨hqq, rfl⟩ := hqC
    -- the memory at the end
    obtain ⟨I2, eI2⟩ : ∃ I2 : gzIT, I2 = N := ⟨_, rfl⟩
    have Nc : ∀ t o j, o < 47 → N t o j = C' t o j := fun t o j ho => (XN.2.1 t o j (by omega) (by omega)).trans ((Rn t o j (by omega) (by omega)).trans (Xc t o j ho))
    refine ⟨.ok (Int32.ofNat q), C', ?_, fun E hE => (by cases hE), fun J' => ⟨Int32.ofNat q, N, J', ?_, ⟨rfl, ?_⟩, rfl, ?_⟩⟩
    · unfold f_X11_seasons
      rw [e1]
      simp only [Option.bind_some, gzEx]
      rw [hkeep]
      simp only [Option.bind_some]
      exact h1
    · unfold f_X12_seasons
      rw [e2]
      simp only [Option.bind_some, gz_not01, s_throws0, if_true]
      rw [← eX, hrem J']
      simp only [Option.bind_some]
      have e := hm' (φ - n) 0 J'
      rw [show φ - n + n = φ by omega] at e
      obtain ⟨z, hz⟩ : ∃ z, φ - n = z + 1 := ⟨φ - n - 1, by omega⟩
      have e3 : f_X12_goesOn φ (Int32.ofNat n) 0 R J' = some (Int32.ofNat q, N, J') := by
        unfold f_X12_goesOn
        refine (show f_X12_goesOn_5 φ φ (Int32.ofNat n) 0 0 0 R J' = f_X12_goesOn_5 φ (φ - n) (Int32.ofNat n) 0 (0 + Int32.ofNat q') (Int32.ofNat n) N J' from e).trans ?_
        rw [hz, f_X12_goesOn_5, if_pos (by rw [gzn_le (by omega) (by omega)]; omega), Int32.zero_add, hqq]
      rw [e3]
      rfl
    · refine (XN.2.1 0 47 0 (by omega) (by omega)).trans ((Rn 0 47 0 (by omega) (by omega)).trans ?_)
      rw [eX]; exact gz_ui_s
    · obtain ⟨w0, v0, -, -, -, -, -, -, -, -, hbo⟩ := id h
      have hb0 := hbo 0 (by omega) (by omega)
      refine hfin N (fun t o j ho q1 q2 => (Nc t o j ho).trans (CK t o j q2 (fun z => q1 (by unfold gzCs; omega)))) (fun t o j ho q1 q2 => XN.2.1 t o j q2 (fun z => q1 (by unfold gzMw; omega))) ?_ (XN.2.2.1.trans (Rw 3)) ⟨fun j hj => ?_, ?_⟩
      · obtain ⟨⟨nl, nx, hT, hx⟩, -⟩ := SN
        refine ⟨nf, ng, nl, nx, gzTn_congr (fun o k h1 h2 => Nc 0 o k (by omega)) hT, hx⟩
      · rw [Nc 0 13 j (by omega), Nc 0 14 j (by omega), XC.2.2.2.1 j, K0 13 j (by omega)]
        refine ⟨(hb0.1 j hj).1, ?_⟩
        rcases XC.2.2.2.2.1 j with z | z
        · rw [z, K0 14 j (by omega)]; exact (hb0.1 j hj).2
        · exact Or.inr z
      · rw [Nc 0 0 9 (by omega), XC.2.2.2.2.2, K0 0 9 (by omega)]
        exact hb0.2
  · refine ⟨.error "java/lang/IllegalArgumentException", I, ?_, fun E hE => ⟨0, by cases hE; rfl⟩, fun J' => ⟨0, gz_ui (gz_ui I 0 47 0 0) 0 47 0 1, J', ?_, ⟨0, rfl, gz_ui_s⟩, rfl, gzR_thr2 h⟩⟩
    · unfold f_X11_seasons
      rw [e1]; rfl
    · unfold f_X12_seasons
      rw [e2]
      simp only [Option.bind_some, gz_not00, s_throws1]
      rfl
end
