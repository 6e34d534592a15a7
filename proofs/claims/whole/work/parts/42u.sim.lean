/-! what lies ahead: ahead, trial, larder -/
section
variable {I I' I2 X T Ic Im Ic' Im' Ic2 Im2 M K R : gzIT} {J : gzJT} {w w2 v : Nat → Int32} {nf ng nl nx nl2 nx2 t t1 φ : Nat}
theorem m_keepsAll (hφ : 400 < φ) : f_X12_keepsAll φ X J = some ((), gzBk X 51 0 48 0 364, J) := by
  unfold f_X12_keepsAll
  have key := gz_blk (I := X) (F := fun k i s => f_X12_keepsAll_2 φ k i s J) (n := 364) (o := 51) (a := 0) (o' := 48) (b := 0) (out := some ((), gzBk X 51 0 48 0 364, J)) (Or.inl (by omega)) ?_ ?_ 364 0 φ (by omega) (by omega)
  · rw [gzBk_0] at key; exact key
  · intro k i hi
    show f_X12_keepsAll_2 φ (k + 1) (Int32.ofNat i) (gzBk X 51 0 48 0 i) J = f_X12_keepsAll_2 φ k (Int32.ofNat (i + 1)) (gz_ui (gzBk X 51 0 48 0 i) 0 51 (0 + i) (gzBk X 51 0 48 0 i 0 48 (0 + i))) J
    rw [f_X12_keepsAll_2, if_neg (by rw [gzc_le1 (by omega) (by omega)]; omega), gzGd_in (show i < 2062 by omega) (by omega), gzGd_in hi (by omega), gzn_clamp (by omega), gzn_succ, Nat.zero_add]
  · intro k
    show f_X12_keepsAll_2 φ (k + 1) 364 (gzBk X 51 0 48 0 364) J = _
    rw [f_X12_keepsAll_2, if_pos (by decide)]
theorem m_bringsBack (hφ : 400 < φ) : f_X12_bringsBack φ X J = some ((), gzBk X 48 0 51 0 364, J) := by
  unfold f_X12_bringsBack
  have key := gz_blk (I := X) (F := fun k i s => f_X12_bringsBack_2 φ k i s J) (n := 364) (o := 48) (a := 0) (o' := 51) (b := 0) (out := some ((), gzBk X 48 0 51 0 364, J)) (Or.inl (by omega)) ?_ ?_ 364 0 φ (by omega) (by omega)
  · rw [gzBk_0] at key; exact key
  · intro k i hi
    show f_X12_bringsBack_2 φ (k + 1) (Int32.ofNat i) (gzBk X 48 0 51 0 i) J = f_X12_bringsBack_2 φ k (Int32.ofNat (i + 1)) (gz_ui (gzBk X 48 0 51 0 i) 0 48 (0 + i) (gzBk X 48 0 51 0 i 0 51 (0 + i))) J
    rw [f_X12_bringsBack_2, if_neg (by rw [gzc_le1 (by omega) (by omega)]; omega), gzGd_in hi (by omega), gzGd_in (show i < 2062 by omega) (by omega), gzn_clamp (by omega), gzn_succ, Nat.zero_add]
  · intro k
    show f_X12_bringsBack_2 φ (k + 1) 364 (gzBk X 48 0 51 0 364) J = _
    rw [f_X12_bringsBack_2, if_pos (by decide)]
theorem gzBk_n {o a o' b m t' x k : Nat} (h : ¬ (t' = 0 ∧ x = o ∧ a ≤ k ∧ k < a + m)) : gzBk I o a o' b m t' x k = I t' x k := if_neg h
theorem gzBk_at {o o' m k : Nat} (h : k < m) : gzBk I o 0 o' 0 m 0 o k = I 0 o' k := by
  refine (if_pos (by omega)).trans ?_
  rw [Nat.sub_zero, Nat.zero_add]
/-- a copy of the town, to look ahead -/
theorem r_copy (h : gzR I I) (hφ : 20 < φ) : ∃ (C0 : gzIT) (nf ng : Nat), f_X8_copyFrom φ 1 0 I J = some ((), C0, J) ∧ gzSm C0 1 I nf ng ∧ gzSm I 0 I nf ng ∧ nf ≤ 6 ∧ ng ≤ 10 ∧ (∀ t' o k, t' ≠ 1 → C0 t' o k = I t' o k) ∧ (∀ t' o k, ¬ (o < 20) → C0 t' o k = I t' o k) ∧ C0 1 0 11 = I 0 0 11 := by
  obtain ⟨w0, v0, -, -, -, -, -, -, -, -, hbo⟩ := id h
  obtain ⟨nf, ng, hS, n3, n4⟩ := gzR_sm h
  obtain ⟨⟨nl, nx, hT, hx⟩, hlaw⟩ := id hS
  have e : ∀ t' o k, t' ≠ 1 → gzCpy I 1 0 gzTcb t' o k = I t' o k := fun t' o k q => gzCpy_ne q
  have e20 : ∀ t' o k, ¬ (o < 20) → gzCpy I 1 0 gzTcb t' o k = I t' o k := fun t' o k q => by
    unfold gzCpy
    rw [if_neg]
    rintro ⟨-, z⟩
    have := of_decide_eq_true z
    omega
  refine ⟨gzCpy I 1 0 gzTcb, nf, ng, c_copyFrom (by omega) (hbo 0 (by omega) (by omega)) hφ, ⟨⟨nl, nx, gzTn_cpy hT, hx⟩, gzLw_congr (fun o k h1 h2 => e 0 o k (by omega)) hlaw⟩, hS, n3, n4, e, e20, gzCpy_at (decide_eq_true (by omega))⟩
/-- the class's loop of seasons, to say which memory it ends in -/
def gzRun (φ t : Nat) (dr n : Int32) : Nat → Int32 → Int32 → gzIT → gzJT → Option (Int32 × gzIT)
  | 0, _, _, _, _ => none
  | k + 1, x, j, C, J => if n ≤ j then some (x, C) else Option.bind (f_X8_pass φ t 0 dr C J) (fun v => gzRun φ t dr n k (x + v.1) (j + 1) v.2.1 v.2.2)
theorem r_sim {dr : Int32} (hdr : dr = 0 ∨ dr = 1) (hφ : 1000 < φ) (n : Nat) (hn : n ≤ 60) (hS : gzSm Ic t Im nf ng) : ∃ (q : Nat) (C : gzIT), (∀ {ρ : Type} (F : Nat → Int32 → Int32 → gzIT → gzJT → Option ρ), (∀ k (x : Int32) j (C : gzIT), j < n → F (k + 1) x (Int32.ofNat j) C J = Option.bind (f_X8_pass φ t 0 dr C J) (fun v => F k (x + v.1) (Int32.ofNat (j + 1)) v.2.1 v.2.2)) → ∀ (k : Nat) (x : Int32), n < k → ∃ k', 0 < k' ∧ F k x 0 Ic J = F k' (x + Int32.ofNat q) (Int32.ofNat n) C J) ∧ (∀ Im : gzIT, gzSm Ic t Im nf ng → ∃ N : gzIT, (∀ J' : gzJT, f_X12_goesOn φ (Int32.ofNat n) (1 - dr) Im J' = some (Int32.ofNat q, N, J')) ∧ gzSm C t N nf ng ∧ gzSx t Ic C Im N ∧ (∀ f, f < nf → (N 0 48 (32 + 4 * f), N 0 48 (33 + 4 * f)) = gzEn (Im 0 48 (31 + 4 * f)) n (Im 0 48 (32 + 4 * f), Im 0 48 (33 + 4 * f)))) := by
  have run : ∀ (q : Nat) (C : gzIT), (∀ {ρ : Type} (F : Nat → Int32 → Int32 → gzIT → gzJT → Option ρ), (∀ k (x : Int32) j (C : gzIT), j < n → F (k + 1) x (Int32.ofNat j) C J = Option.bind (f_X8_pass φ t 0 dr C J) (fun v => F k (x + v.1) (Int32.ofNat (j + 1)) v.2.1 v.2.2)) → ∀ (k : Nat) (x : Int32), F (k + n) x (Int32.ofNat 0) Ic J = F k (x + Int32.ofNat q) (Int32.ofNat n) C J) → gzRun φ t dr (Int32.ofNat n) (1 + n) 0 (Int32.ofNat 0) Ic J = some (Int32.ofNat q, C) := fun q C hc => by
    rw [hc (fun k x j C J => gzRun φ t dr (Int32.ofNat n) k x j C J) (fun k x j C hj => by
      show gzRun φ t dr (Int32.ofNat n) (k + 1) x (Int32.ofNat j) C J = _
      rw [gzRun, if_neg (by rw [gzn_le (by omega) (by omega)]; omega), gzn_succ]) 1 0]
    rw [gzRun, if_pos (by rw [gzn_le (by omega) (by omega)]; omega), Int32.zero_add]
  obtain ⟨q, C, N0, -, hc, -, -, -, -⟩ := r_goes (J := J) (φ := φ) (t := t) (dr := dr) hdr (by omega) n hn n 0 Ic Im hS (by omega)
  refine ⟨q, C, fun F hF k x hk => ⟨k - n, by omega, ?_⟩, fun Im hS => ?_⟩
  · have e := hc F hF (k - n) x
    rw [show k - n + n = k by omega] at e
    exact e
  · obtain ⟨q', C', N, -, hc', hm', SN, XN, WN⟩ := r_goes (J := J) (φ := φ) (t := t) (dr := dr) hdr (by omega) n hn n 0 Ic Im hS (by omega)
    have e := (run q' C' (fun F hF k x => hc' F hF k x)).symm.trans (run q C (fun F hF k x => hc F hF k x))
    simp only [Option.some.injEq, Prod.mk.injEq] at e
    obtain ⟨eq1, rfl⟩ := e
    refine ⟨N, fun J' => ?_, SN, XN, WN⟩
    have e := hm' (φ - n) 0 J'
    rw [show φ - n + n = φ by omega] at e
    obtain ⟨z, hz⟩ : ∃ z, φ - n = z + 1 := ⟨φ - n - 1, by omega⟩
    unfold f_X12_goesOn
    refine (show f_X12_goesOn_5 φ φ (Int32.ofNat n) (1 - dr) 0 0 Im J' = f_X12_goesOn_5 φ (φ - n) (Int32.ofNat n) (1 - dr) (0 + Int32.ofNat q') (Int32.ofNat n) N J' from e).trans ?_
    rw [hz, f_X12_goesOn_5, if_pos (by rw [gzn_le (by omega) (by omega)]; omega), Int32.zero_add, eq1]
theorem p_num0 {a : Int32} : ((∃ k, k ≤ 60 ∧ a = Int32.ofNat k) ∧ f_X11_needNumber a 0 60 I J = some (.ok (), I, J) ∧ f_X12_noAhead a = some 0) ∨ (f_X11_needNumber a 0 60 I J = some (.error "java/lang/IllegalArgumentException", I, J) ∧ f_X12_noAhead a = some 1) := by
  unfold f_X12_noAhead
  rcases p_num (I := I) (J := J) (a := a) (N := 60) (by omega) with ⟨hk, e1, e2⟩ | ⟨e1, e2⟩
  · refine Or.inl ⟨hk, e1, ?_⟩
    rw [show (60 : Int32) = Int32.ofNat 60 from rfl, e2]; rfl
  · refine Or.inr ⟨e1, ?_⟩
    rw [show (60 : Int32) = Int32.ofNat 60 from rfl, e2]; rfl
/-- the relation after a look ahead -/
theorem gzR_ahead {C0 C N : gzIT} (h : gzR I I) (c0 : ∀ t' o k, t' ≠ 1 → C0 t' o k = I t' o k) (c20 : ∀ t' o k, ¬ (o < 20) → C0 t' o k = I t' o k) (hC : ∀ t' o k, ¬ (t' = 1 ∧ o < 20) → ¬ (o = 26 ∨ o = 27) → C t' o k = C0 t' o k) (hN : ∀ t' o k, ¬ (t' = 0 ∧ o = 48 ∧ k < 364) → ¬ (o = 55) → N t' o k = gzBk (gz_ui C 0 47 0 0) 51 0 48 0 364 t' o k) : gzR (gzBk N 48 0 51 0 364) (gzBk N 48 0 51 0 364) ∧ gzBk N 48 0 51 0 364 0 47 0 = 0 := by
  refine ⟨gzR_scr h fun t o k q => ?_, ?_⟩
  · have h1 : ¬ (o = 26 ∨ o = 27 ∨ o = 55 ∨ o = 51) := fun e => q (by unfold gzCs gzMw; omega)
    have h3 : ¬ (t = 0 ∧ o = 47 ∧ k = 0) := fun e => q (by unfold gzCs gzMw; omega)
    have h4 : ¬ (t = 1 ∧ o < 20) := fun e => q (by unfold gzCs gzMw; omega)
    have hC2 : C t o k = I t o k := by
      rw [hC t o k h4 (by omega)]
      by_cases e : o < 20
      · exact c0 t o k (by omega)
      · exact c20 t o k e
    by_cases e : t = 0 ∧ o = 48 ∧ k < 364
    · obtain ⟨rfl, rfl, hk⟩ := e
      rw [gzBk_at hk, hN 0 51 k (by omega) (by omega), gzBk_at hk]
      exact (if_neg h3).trans hC2
    · rw [gzBk_n (by omega), hN t o k e (by omega), gzBk_n (by omega)]
      exact (if_neg h3).trans hC2
  · rw [gzBk_n (by omega), hN 0 47 0 (by omega) (by omega), gzBk_n (by omega)]
    exact gz_ui_s
theorem L_ahead (p0 p1 : Int32) (h : gzR I I) : ∃ e I1, f_X11_ahead 4096 p0 p1 I J = some (e, I1, J) ∧ (∀ E, e = .error E → ∃ k : Nat, (["java/lang/IndexOutOfBoundsException", "java/lang/IllegalArgumentException"] : List String)[k]? = some E) ∧ ∀ J' : gzJT, ∃ v I2 J2, f_X12_ahead 4096 p0 p1 I1 J' = some (v, I2, J2) ∧ gzSame e ["java/lang/IndexOutOfBoundsException", "java/lang/IllegalArgumentException"] v (I2 0 47 0) ∧ J2 0 59 0 = J' 0 59 0 ∧ gzR I2 I2 := by
  obtain ⟨nf, ng, nl, nx, hT, hx, c, b, m⟩ := gzR_go h
  obtain ⟨φ, hφ⟩ : ∃ φ, φ = 4096 := ⟨_, rfl⟩
  rw [← hφ]
  rcases p_gr (a := p0) (J := J) c (m 0) with ⟨⟨g, hg, rfl⟩, e1, e2⟩ | ⟨e1, e2⟩
  · rcases p_num0 (I := I) (J := J) (a := p1) with ⟨⟨n, hn, rfl⟩, e3, e4⟩ | ⟨e3, e4⟩
    · obtain ⟨C0, nf', ng', hcp, S0, SI, n3, n4, c0, c20, -⟩ := r_copy (J := J) (φ := φ) h (by omega)
      have hng : ng' = ng := by
        obtain ⟨⟨nl1, nx1, hT1, -⟩, -⟩ := SI
        exact (gzn_inj (by omega) (by have := c.1.2.2.2; omega)).mp (hT1.1.2.2.2.2.1.symm.trans c.1.2.1)
      subst hng
      obtain ⟨q, C, hc, hmod⟩ := r_sim (J := J) (φ := φ) (dr := 0) (Or.inl rfl) (by omega) n hn S0
      obtain ⟨k', hk', hcls⟩ := hc (fun k x j C J => f_X11_ahead_26 φ k (Int32.ofNat g) (Int32.ofNat n) j C J) (fun k x j C hj => by
        show f_X11_ahead_26 φ (k + 1) (Int32.ofNat g) (Int32.ofNat n) (Int32.ofNat j) C J = _
        rw [f_X11_ahead_26, if_neg (by rw [gzn_le (by omega) (by omega)]; omega), gzn_succ]) φ 0 (by omega)
      obtain ⟨z, rfl⟩ : ∃ z, k' = z + 1 := ⟨k' - 1, by omega⟩
      have hcls2 : f_X11_ahead_26 φ φ (Int32.ofNat g) (Int32.ofNat n) 0 C0 J = some (.ok (C 1 12 g), C, J) := by
        refine hcls.trans ?_
        show f_X11_ahead_26 φ (z + 1) (Int32.ofNat g) (Int32.ofNat n) (Int32.ofNat n) C J = _
        rw [f_X11_ahead_26, if_pos (by rw [gzn_le (by omega) (by omega)]; omega), gzGd_in (by omega) (by omega), gzn_clamp (by omega)]
      obtain ⟨N0, -, -, XC, -⟩ := hmod I S0
      have c48 : ∀ k, C 0 48 k = I 0 48 k := fun k => (XC.1 0 48 k (by omega) (by omega)).trans (c20 0 48 k (by omega))
      have x48 : ∀ k, k < 1213 → gzBk (gz_ui C 0 47 0 0) 51 0 48 0 364 0 48 k = I 0 48 k := fun k _ => by
        rw [gzBk_n (by omega)]
        exact (if_neg (by omega)).trans (c48 k)
      obtain ⟨N, hgo, SN, XN, -⟩ := hmod (gzBk (gz_ui C 0 47 0 0) 51 0 48 0 364) (gzSm_congr S0 (fun _ _ _ _ => rfl) (fun _ _ _ _ => rfl) x48)
      have hfin := gzR_ahead h c0 c20 XC.1 XN.2.1
      have vX : gzVi (gz_ui C 0 47 0 0) (I 0 48) nf ng' := gzVi_eq (m 0) (fun j hj => (if_neg (by omega)).trans ((c48 j).trans (if_neg (by omega)).symm))
      have hans : N 0 48 (58 + 7 * g) = C 1 12 g := by
        obtain ⟨⟨nl1, nx1, hT1, -⟩, -⟩ := SN
        exact (gzTn_pr hT1 12 g (58 + 7 * g) (by unfold gzQp; omega)).symm
      refine ⟨.ok (C 1 12 g), C, ?_, fun E hE => (by cases hE), fun J' => ⟨C 1 12 g, gzBk N 48 0 51 0 364, J', ?_, ⟨rfl, hfin.2⟩, rfl, hfin.1⟩⟩
      · unfold f_X11_ahead
        rw [e1]
        simp only [Option.bind_some, gzEx]
        rw [e3]
        simp only [Option.bind_some, gzEx]
        rw [hcp]
        simp only [Option.bind_some]
        exact hcls2
      · unfold f_X12_ahead
        rw [m_noGr vX hg]
        simp only [Option.bind_some, s_throws0]
        rw [if_neg (by simp), e4]
        simp only [Option.bind_some, s_throws0, if_true]
        rw [m_keepsAll (by omega)]
        simp only [Option.bind_some]
        rw [show f_X12_goesOn φ (Int32.ofNat n) 1 (gzBk (gz_ui C 0 47 0 0) 51 0 48 0 364) J' = some (Int32.ofNat q, N, J') from hgo J']
        simp only [Option.bind_some]
        rw [show (4 : Int32) = Int32.ofNat 4 from rfl, s_X12_of (by omega) (by omega), show 54 + 7 * g + 4 = 58 + 7 * g by omega, hans]
        simp only [Option.bind_some]
        rw [m_bringsBack (by omega)]
        rfl
    · refine ⟨.error "java/lang/IllegalArgumentException", I, ?_, fun E hE => ⟨1, by cases hE; rfl⟩, fun J' => ⟨0, gz_ui (gz_ui I 0 47 0 0) 0 47 0 2, J', ?_, ⟨1, rfl, gz_ui_s⟩, rfl, gzR_thr2 h⟩⟩
      · unfold f_X11_ahead
        rw [e1]
        simp only [Option.bind_some, gzEx]
        rw [e3]
        rfl
      · unfold f_X12_ahead
        rw [e2]
        simp only [Option.bind_some, s_throws0]
        rw [if_neg (by simp), e4]
        simp only [Option.bind_some, s_throws1]
        rfl
  · refine ⟨.error "java/lang/IndexOutOfBoundsException", I, ?_, fun E hE => ⟨0, by cases hE; rfl⟩, fun J' => ⟨0, gz_ui (gz_ui I 0 47 0 0) 0 47 0 1, J', ?_, ⟨0, rfl, gz_ui_s⟩, rfl, gzR_thr2 h⟩⟩
    · unfold f_X11_ahead
      rw [e1]; rfl
    · unfold f_X12_ahead
      rw [e2]
      simp only [Option.bind_some, s_throws1]
      rfl
theorem L_trial (p0 p1 : Int32) (h : gzR I I) : ∃ e I1, f_X11_trial 4096 p0 p1 I J = some (e, I1, J) ∧ (∀ E, e = .error E → ∃ k : Nat, (["java/lang/IllegalArgumentException"] : List String)[k]? = some E) ∧ ∀ J' : gzJT, ∃ v I2 J2, f_X12_trial 4096 p0 p1 I1 J' = some (v, I2, J2) ∧ gzSame e ["java/lang/IllegalArgumentException"] v (I2 0 47 0) ∧ J2 0 59 0 = J' 0 59 0 ∧ gzR I2 I2 := by
  obtain ⟨φ, hφ⟩ : ∃ φ, φ = 4096 := ⟨_, rfl⟩
  rw [← hφ]
  rcases p_num0 (I := I) (J := J) (a := p0) with ⟨⟨n, hn, rfl⟩, e3, e4⟩ | ⟨e3, e4⟩
  · obtain ⟨C0, nf, ng, hcp, S0, SI, n3, n4, c0, c20, c11⟩ := r_copy (J := J) (φ := φ) h (by omega)
    have e11 : gz_ui C0 1 0 11 (I 0 0 11) = C0 := by
      funext t o k
      unfold gz_ui
      by_cases e : t = 1 ∧ o = 0 ∧ k = 11
      · rw [if_pos e, e.1, e.2.1, e.2.2, c11]
      · rw [if_neg e]
    obtain ⟨q, C, hc, hmod⟩ := r_sim (J := J) (φ := φ) (dr := 1) (Or.inr rfl) (by omega) n hn S0
    obtain ⟨k', hk', hcls⟩ := hc (fun k x j C J => f_X11_runTrial_21 φ k (Int32.ofNat n) j C J) (fun k x j C hj => by
      show f_X11_runTrial_21 φ (k + 1) (Int32.ofNat n) (Int32.ofNat j) C J = _
      rw [f_X11_runTrial_21, if_neg (by rw [gzn_le (by omega) (by omega)]; omega), gzn_succ]) φ 0 (by omega)
    obtain ⟨z, rfl⟩ : ∃ z, k' = z + 1 := ⟨k' - 1, by omega⟩
    have hcls2 : f_X11_runTrial φ (I 0 0 11) (Int32.ofNat n) I J = some ((), C, J) := by
      unfold f_X11_runTrial
      rw [hcp]
      simp only [Option.bind_some]
      rw [e11]
      refine hcls.trans ?_
      show f_X11_runTrial_21 φ (z + 1) (Int32.ofNat n) (Int32.ofNat n) C J = _
      rw [f_X11_runTrial_21, if_pos (by rw [gzn_le (by omega) (by omega)]; omega)]
    obtain ⟨N0, -, -, XC, -⟩ := hmod I S0
    have c48 : ∀ k, C 0 48 k = I 0 48 k := fun k => (XC.1 0 48 k (by omega) (by omega)).trans (c20 0 48 k (by omega))
    have x48 : ∀ k, k < 1213 → gzBk (gz_ui C 0 47 0 0) 51 0 48 0 364 0 48 k = I 0 48 k := fun k _ => by
      rw [gzBk_n (by omega)]
      exact (if_neg (by omega)).trans (c48 k)
    obtain ⟨N, hgo, SN, XN, -⟩ := hmod (gzBk (gz_ui C 0 47 0 0) 51 0 48 0 364) (gzSm_congr S0 (fun _ _ _ _ => rfl) (fun _ _ _ _ => rfl) x48)
    have hfin := gzR_ahead h c0 c20 XC.1 XN.2.1
    obtain ⟨⟨nl1, nx1, hT1, hx1⟩, -⟩ := SN
    have vc := gzV_c hT1 hx1.1
    obtain ⟨vm, vb⟩ := gzV_m hT1 hx1.1
    have hm : gzVi N (N 0 48) nf ng := ⟨fun _ _ => rfl, vm, vb⟩
    refine ⟨.ok (if p1 = 0 then gzSe (fun g => !tH (N 0 48) g) ng else S_ice (N 0 48) ng), C, ?_, fun E hE => (by cases hE), fun J' => ⟨if p1 = 0 then gzSe (fun g => !tH (N 0 48) g) ng else S_ice (N 0 48) ng, gzBk N 48 0 51 0 364, J', ?_, ⟨rfl, hfin.2⟩, rfl, hfin.1⟩⟩
    · unfold f_X11_trial
      rw [e3]
      simp only [Option.bind_some, gzEx]
      rw [hcls2]
      simp only [Option.bind_some]
      by_cases x : p1 = 0
      · rw [if_pos x, if_pos x, c_standing vc (by omega)]; rfl
      · rw [if_neg x, if_neg x, c_allIce vc (by omega)]; rfl
    · unfold f_X12_trial
      rw [e4]
      simp only [Option.bind_some, s_throws0, if_true]
      rw [m_keepsAll (by omega)]
      simp only [Option.bind_some]
      rw [show f_X12_goesOn φ (Int32.ofNat n) 0 (gzBk (gz_ui C 0 47 0 0) 51 0 48 0 364) J' = some (Int32.ofNat q, N, J') from hgo J']
      simp only [Option.bind_some]
      rw [m_standing hm (by omega)]
      simp only [Option.bind_some]
      rw [m_allIce hm (by omega), m_bringsBack (by omega)]
      simp only [Option.bind_some]
      by_cases x : p1 = 0
      · rw [if_pos x, if_pos x]
      · rw [if_neg x, if_neg x]
  · refine ⟨.error "java/lang/IllegalArgumentException", I, ?_, fun E hE => ⟨0, by cases hE; rfl⟩, fun J' => ⟨0, gz_ui (gz_ui I 0 47 0 0) 0 47 0 1, J', ?_, ⟨0, rfl, gz_ui_s⟩, rfl, gzR_thr2 h⟩⟩
    · unfold f_X11_trial
      rw [e3]; rfl
    · unfold f_X12_trial
      rw [e4]
      simp only [Option.bind_some, s_throws1]
      rfl
/-- the class's meals -/
theorem c_meals {f n : Nat} (hnf : nf ≤ 6) (hf : f < nf) (hn : n ≤ 60) (hφ : 10 < φ) : ∀ (m i k : Nat) (C0 : gzIT), C0 1 1 5 = Int32.ofNat nf → i + m = n → m < k → ∃ C : gzIT, f_X11_larder_26 φ k (Int32.ofNat f) (Int32.ofNat n) (Int32.ofNat i) C0 J = some (.ok (gzEn (C0 1 3 f) m (C0 1 4 f, C0 1 5 f)).1, C, J) ∧ (∀ t' o k, ¬ (t' = 1 ∧ (o = 4 ∨ o = 5)) → C t' o k = C0 t' o k) := by
  intro m
  induction m with
  | zero =>
    intro i k C0 h5 hi hk
    obtain ⟨k, rfl⟩ : ∃ q, k = q + 1 := ⟨k - 1, by omega⟩
    refine ⟨C0, ?_, fun _ _ _ _ => rfl⟩
    rw [f_X11_larder_26, if_pos (by rw [gzn_le (by omega) (by omega)]; omega), gzGd_in (by omega) (by omega), gzn_clamp (by omega)]
    rfl
  | succ m ih =>
    intro i k C0 h5 hi hk
    obtain ⟨k, rfl⟩ : ∃ q, k = q + 1 := ⟨k - 1, by omega⟩
    obtain ⟨C1, h1, h2, h3⟩ := c_eat (J := J) (t := 1) (φ := φ) hnf h5 hφ
    obtain ⟨C, i1, i2⟩ := ih (i + 1) k C1 ((h3 1 1 5 (by omega)).trans h5) (by omega) (by omega)
    refine ⟨C, ?_, fun t' o k q => (i2 t' o k q).trans (h3 t' o k (by omega))⟩
    rw [f_X11_larder_26, if_neg (by rw [gzn_le (by omega) (by omega)]; omega), h1, gzn_succ]
    simp only [Option.bind_some]
    rw [i1, h3 1 3 f (by omega), (h2 f hf).1, (h2 f hf).2]
    rfl
theorem L_larder (p0 p1 : Int32) (h : gzR I I) : ∃ e I1, f_X11_larder 4096 p0 p1 I J = some (e, I1, J) ∧ (∀ E, e = .error E → ∃ k : Nat, (["java/lang/IndexOutOfBoundsException", "java/lang/IllegalArgumentException"] : List String)[k]? = some E) ∧ ∀ J' : gzJT, ∃ v I2 J2, f_X12_larder 4096 p0 p1 I1 J' = some (v, I2, J2) ∧ gzSame e ["java/lang/IndexOutOfBoundsException", "java/lang/IllegalArgumentException"] v (I2 0 47 0) ∧ J2 0 59 0 = J' 0 59 0 ∧ gzR I2 I2 := by
  obtain ⟨nf, ng, nl, nx, hT, hx, c, b, m⟩ := gzR_go h
  obtain ⟨φ, hφ⟩ : ∃ φ, φ = 4096 := ⟨_, rfl⟩
  rw [← hφ]
  rcases p_fam (a := p0) (J := J) c (m 0) with ⟨⟨f, hf, rfl⟩, e1, e2⟩ | ⟨e1, e2⟩
  · rcases p_num0 (I := I) (J := J) (a := p1) with ⟨⟨n, hn, rfl⟩, e3, e4⟩ | ⟨e3, e4⟩
    · obtain ⟨C0, nf', ng', hcp, S0, SI, n3, n4, c0, c20, -⟩ := r_copy (J := J) (φ := φ) h (by omega)
      have hnf : nf' = nf := by
        obtain ⟨⟨nl1, nx1, hT1, -⟩, -⟩ := SI
        exact (gzn_inj (by omega) (by have := c.1.2.2.1; omega)).mp (hT1.1.2.2.1.symm.trans c.1.1)
      subst hnf
      obtain ⟨⟨nl0, nx0, hT0, hx0⟩, -⟩ := id S0
      obtain ⟨C, hcls, hC⟩ := c_meals (J := J) (φ := φ) n3 hf hn (by omega) n 0 φ C0 hT0.1.2.2.1 (by omega) (by omega)
      have vc0 := gzV_c hT0 hx0.1
      rw [vc0.2.2.2.2.2.2.2.2.2.1 f hf, vc0.2.2.2.2.2.2.2.2.2.2.1 f hf, vc0.2.2.2.2.2.2.2.2.2.2.2.1 f hf] at hcls
      obtain ⟨q, C', hc, hmod⟩ := r_sim (J := J) (φ := φ) (dr := 0) (Or.inl rfl) (by omega) n hn SI
      have c48 : ∀ k, C 0 48 k = I 0 48 k := fun k => (hC 0 48 k (by omega)).trans (c20 0 48 k (by omega))
      have x48 : ∀ k, k < 1213 → gzBk (gz_ui C 0 47 0 0) 51 0 48 0 364 0 48 k = I 0 48 k := fun k _ => by
        rw [gzBk_n (by omega)]
        exact (if_neg (by omega)).trans (c48 k)
      obtain ⟨N, hgo, SN, XN, WN⟩ := hmod (gzBk (gz_ui C 0 47 0 0) 51 0 48 0 364) (gzSm_congr SI (fun _ _ _ _ => rfl) (fun _ _ _ _ => rfl) x48)
      have hfin := gzR_ahead (C := C) h c0 c20 (fun t' o k q1 q2 => hC t' o k (by omega)) XN.2.1
      have vX : gzVi (gz_ui C 0 47 0 0) (I 0 48) nf' ng := gzVi_eq (m 0) (fun j hj => (if_neg (by omega)).trans ((c48 j).trans (if_neg (by omega)).symm))
      have hans : N 0 48 (32 + 4 * f) = (gzEn (I 0 48 (31 + 4 * f)) n (I 0 48 (32 + 4 * f), I 0 48 (33 + 4 * f))).1 := by
        have e := WN f hf
        rw [x48 (31 + 4 * f) (by omega), x48 (32 + 4 * f) (by omega), x48 (33 + 4 * f) (by omega)] at e
        exact congrArg Prod.fst e
      refine ⟨.ok (gzEn (I 0 48 (31 + 4 * f)) n (I 0 48 (32 + 4 * f), I 0 48 (33 + 4 * f))).1, C, ?_, fun E hE => (by cases hE), fun J' => ⟨(gzEn (I 0 48 (31 + 4 * f)) n (I 0 48 (32 + 4 * f), I 0 48 (33 + 4 * f))).1, gzBk N 48 0 51 0 364, J', ?_, ⟨rfl, hfin.2⟩, rfl, hfin.1⟩⟩
      · unfold f_X11_larder
        rw [e1]
        simp only [Option.bind_some, gzEx]
        rw [e3]
        simp only [Option.bind_some, gzEx]
        rw [hcp]
        simp only [Option.bind_some]
        exact hcls
      · unfold f_X12_larder
        rw [m_noFa vX hf]
        simp only [Option.bind_some, s_throws0]
        rw [if_neg (by simp), e4]
        simp only [Option.bind_some, s_throws0, if_true]
        rw [m_keepsAll (by omega)]
        simp only [Option.bind_some]
        rw [show f_X12_goesOn φ (Int32.ofNat n) 1 (gzBk (gz_ui C 0 47 0 0) 51 0 48 0 364) J' = some (Int32.ofNat q, N, J') from hgo J']
        simp only [Option.bind_some]
        rw [show (2 : Int32) = Int32.ofNat 2 from rfl, s_X12_ofFamily (by omega) (by omega), show 30 + 4 * f + 2 = 32 + 4 * f by omega, hans]
        simp only [Option.bind_some]
        rw [m_bringsBack (by omega)]
        rfl
    · refine ⟨.error "java/lang/IllegalArgumentException", I, ?_, fun E hE => ⟨1, by cases hE; rfl⟩, fun J' => ⟨0, gz_ui (gz_ui I 0 47 0 0) 0 47 0 2, J', ?_, ⟨1, rfl, gz_ui_s⟩, rfl, gzR_thr2 h⟩⟩
      · unfold f_X11_larder
        rw [e1]
        simp only [Option.bind_some, gzEx]
        rw [e3]
        rfl
      · unfold f_X12_larder
        rw [e2]
        simp only [Option.bind_some, s_throws0]
        rw [if_neg (by simp), e4]
        simp only [Option.bind_some, s_throws1]
        rfl
  · refine ⟨.error "java/lang/IndexOutOfBoundsException", I, ?_, fun E hE => ⟨0, by cases hE; rfl⟩, fun J' => ⟨0, gz_ui (gz_ui I 0 47 0 0) 0 47 0 1, J', ?_, ⟨0, rfl, gz_ui_s⟩, rfl, gzR_thr2 h⟩⟩
    · unfold f_X11_larder
      rw [e1]; rfl
    · unfold f_X12_larder
      rw [e2]
      simp only [Option.bind_some, s_throws1]
      rfl
end
