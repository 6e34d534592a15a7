/-! insult -/
section
variable {I I' I2 X T : gzIT} {J : gzJT} {w w2 : Nat → Int32} {nf ng nl nx nl2 nx2 t t1 φ : Nat}
theorem p_find {a b : Nat} (h : gzVc I t w nf ng) (hb : gzVb w nf ng) (ha : a < 6) (hb2 : b < 6) (hφ : 10 < φ) : (f_X1_find φ t I (Int32.ofNat a) (Int32.ofNat b) = some (-1) ∧ ∀ I' : gzIT, gzVi I' w nf ng → f_X12_grudgeOf φ I' (Int32.ofNat a) (Int32.ofNat b) = some (-1)) ∨ ∃ j, j < ng ∧ f_X1_find φ t I (Int32.ofNat a) (Int32.ofNat b) = some (Int32.ofNat j) ∧ ∀ I' : gzIT, gzVi I' w nf ng → f_X12_grudgeOf φ I' (Int32.ofNat a) (Int32.ofNat b) = some (Int32.ofNat j) := by
  have h4 := h.1.2.2.2
  have bF := hb.1
  have bT := hb.2.1
  have h3 := h.1.2.2.1
  have key : ∀ I' : gzIT, gzVi I' w nf ng → (gzAn (fun j => !tH w j && (tF w j == a) && (tT w j == b)) 0 ng = false ∧ f_X12_grudgeOf φ I' (Int32.ofNat a) (Int32.ofNat b) = some (-1)) ∨ (gzAn (fun j => !tH w j && (tF w j == a) && (tT w j == b)) 0 ng = true ∧ ∃ j, 0 ≤ j ∧ j < ng ∧ (fun j => !tH w j && (tF w j == a) && (tT w j == b)) j = true ∧ (∀ j', 0 ≤ j' → j' < j → (fun j => !tH w j && (tF w j == a) && (tT w j == b)) j' = false) ∧ f_X12_grudgeOf φ I' (Int32.ofNat a) (Int32.ofNat b) = some (Int32.ofNat j)) := by
    intro I' hm
    unfold f_X12_grudgeOf
    refine gz_exit (F := fun k j => f_X12_grudgeOf_2 φ I' k (Int32.ofNat a) (Int32.ofNat b) j) (n := ng) (p := fun j => !tH w j && (tF w j == a) && (tT w j == b)) (r := Int32.ofNat) (o := some (-1)) ?_ ?_ ng 0 φ (by omega) (by omega)
    · intro k i hi
      have q1 := bF i hi
      have q2 := bT i hi
      show f_X12_grudgeOf_2 φ I' (k + 1) (Int32.ofNat a) (Int32.ofNat b) (Int32.ofNat i) = if (!tH w i && (tF w i == a) && (tT w i == b)) = true then some (Int32.ofNat i) else f_X12_grudgeOf_2 φ I' k (Int32.ofNat a) (Int32.ofNat b) (Int32.ofNat (i + 1))
      simp (disch := omega) only [f_X12_grudgeOf_2, m_grudges hm, gzn_le, m_isThawed hm, m_of0 hm, m_of1 hm, gzc_b0, gzn_inj, gzn_succ, Option.bind_some, if_neg]
      by_cases x1 : tH w i = true <;> by_cases x2 : tF w i = a <;> by_cases x3 : tT w i = b <;> simp [x1, x2, x3]
    · intro k
      show f_X12_grudgeOf_2 φ I' (k + 1) (Int32.ofNat a) (Int32.ofNat b) (Int32.ofNat ng) = some (-1)
      simp (disch := omega) only [f_X12_grudgeOf_2, m_grudges hm, Option.bind_some, gzn_le, if_pos]
  rcases c_find (φ := φ) h hb ha hb2 hφ with ⟨x1, x2⟩ | ⟨x1, j, -, j2, j3, j4, x2⟩
  · refine Or.inl ⟨x2, fun I' hm => ?_⟩
    rcases key I' hm with ⟨-, y⟩ | ⟨y, -⟩
    · exact y
    · rw [x1] at y; cases y
  · refine Or.inr ⟨j, j2, x2, fun I' hm => ?_⟩
    rcases key I' hm with ⟨y, -⟩ | ⟨-, j', -, y2, y3, y4, y⟩
    · rw [x1] at y; cases y
    · rcases Nat.lt_trichotomy j j' with q | q | q
      · have := y4 j (Nat.zero_le _) q
        rw [j3] at this; cases this
      · rw [q]; exact y
      · have := j4 j' (Nat.zero_le _) q
        rw [y3] at this; cases this
theorem gzQp_less {o k i : Nat} (h : gzQp nf (ng + 1) o k i) (hn : ¬ (8 ≤ o ∧ o ≤ 14 ∧ k = ng)) : gzQp nf ng o k i := by
  rcases h with h | h | h | h | h | h | h | ⟨h1, h2, h3, h4⟩
  · exact Or.inl h
  · exact Or.inr (Or.inl h)
  · exact Or.inr (Or.inr (Or.inl h))
  · exact Or.inr (Or.inr (Or.inr (Or.inl h)))
  · exact Or.inr (Or.inr (Or.inr (Or.inr (Or.inl h))))
  · exact Or.inr (Or.inr (Or.inr (Or.inr (Or.inr (Or.inl h)))))
  · exact Or.inr (Or.inr (Or.inr (Or.inr (Or.inr (Or.inr (Or.inl h))))))
  · exact Or.inr (Or.inr (Or.inr (Or.inr (Or.inr (Or.inr (Or.inr ⟨h1, h2, by omega, h4⟩))))))
theorem gzQp_lim {o k i : Nat} (hf : nf ≤ 6) (h : gzQp nf ng o k i) : o < 20 ∧ ¬ (o = 15 ∨ o = 16) ∧ ¬ (o = 7) ∧ ¬ (o = 1) ∧ 2 ≤ i ∧ i ≠ 3 ∧ i ≠ 8 ∧ i < 54 + 7 * ng := by
  rcases h with h | h | h | h | h | h | h | h
  all_goals refine ⟨by omega, by omega, by omega, by omega, by omega, by omega, by omega, by omega⟩
theorem p_sl {a : Int32} : ((∃ k, k < 8 ∧ a = Int32.ofNat k) ∧ f_X11_needSlight a I J = some (.ok (), I, J) ∧ f_X12_noSlight a = some 0) ∨ (f_X11_needSlight a I J = some (.error "java/lang/IndexOutOfBoundsException", I, J) ∧ f_X12_noSlight a = some 1) := by
  unfold f_X11_needSlight f_X12_noSlight
  rcases gz_byn a 8 (by omega) with ⟨k, hk, rfl⟩ | q | ⟨q1, q2⟩
  · refine Or.inl ⟨⟨k, hk, rfl⟩, ?_, ?_⟩
    · rw [if_neg (by rw [gzc_lt0 (by omega)]; exact id), if_pos (by rw [gzc_lt2 (by omega) (by omega)]; exact hk)]
    · rw [show (7 : Int32) = Int32.ofNat (8 - 1) from rfl, s_X12_in0 hk (by omega)]; rfl
  · refine Or.inr ⟨if_pos q, ?_⟩
    rw [s_X12_in1 q]; rfl
  · refine Or.inr ⟨?_, ?_⟩
    · rw [if_neg q1, if_neg]
      intro q
      have a1 := Int32.lt_iff_toInt_lt.mp q
      have a2 := Int32.le_iff_toInt_le.mp q2
      have e8 : (8 : Int32).toInt = 8 := rfl
      rw [gzn_int (by omega)] at a2
      omega
    · rw [show (7 : Int32) = Int32.ofNat (8 - 1) from rfl, s_X12_in2 (by omega) (by omega) q1 q2]; rfl
theorem r_fin2 {D : Nat → Nat → Prop} {E : Nat → Prop} (hT : gzTn I 0 (I 0 48) nf ng nl nx) (hx : gzWx (I 0 48) nf ng nl) (tt : ∀ o j, o < 20 → ¬ D o j → ¬ (o = 15 ∨ o = 16) → T 0 o j = I 0 o j) (tw : ∀ j, j < 124 → j ≠ 8 → ¬ E j → T 0 48 j = I 0 48 j) (pr : ∀ o k i, gzQp nf ng o k i → T 0 o k = T 0 48 i ∨ (¬ D o k ∧ ¬ E i)) (nd : ¬ D 1 5 ∧ ¬ D 7 7 ∧ ¬ E 0 ∧ ¬ E 1 ∧ ¬ E 3) (ha : gzAbo (T 0 48) nf ng) (bd : ∀ i, i < 124 → E i → gzBd nf ng i (T 0 48 i)) (lg : gzLg T 0 (T 0 48) nl2 nx2) : gzRt T 0 (T 0 48) ∧ T 0 48 3 = I 0 48 3 := by
  have n3 := hT.1.1
  have n4 := hT.1.2.1
  obtain ⟨d1, d2, d3, d4, d5⟩ := nd
  have := gzRt_ch (I := I) (I2 := T) (t := 0) (t1 := 0) (w2 := T 0 48) hT hx ⟨tt 1 5 (by omega) d1 (by omega), tt 7 7 (by omega) d2 (by omega), tw 0 (by omega) (by omega) d3, tw 1 (by omega) (by omega) d4⟩ (fun o k i q => ?_) ha (fun i hi => ?_) lg
  · exact ⟨⟨nf, ng, _, _, this.1, this.2⟩, tw 3 (by omega) (by omega) d5⟩
  · rcases pr o k i q with e | ⟨e1, e2⟩
    · exact Or.inl e
    · unfold gzQp at q
      exact Or.inr ⟨tt o k (by omega) e1 (by omega), tw i (by omega) (by omega) e2⟩
  · by_cases q1 : i < 124 ∧ i ≠ 8
    · by_cases e : E i
      · exact Or.inl (bd i q1.1 e)
      · exact Or.inr (tw i q1.1 q1.2 e)
    · left
      exact gz_bd0 (by omega)
theorem c_add {n : Nat} {a1 a2 a3 a4 : Int32} (h7 : I t 7 7 = Int32.ofNat n) (hn : n < 10) : ∃ C : gzIT, f_X1_add t a1 a2 a3 a4 I J = some (Int32.ofNat n, C, J) ∧ (∀ t' o j, ¬ (t' = t ∧ ((8 ≤ o ∧ o ≤ 14 ∧ j = n) ∨ (o = 7 ∧ j = 7))) → C t' o j = I t' o j) ∧ C t 7 7 = Int32.ofNat (n + 1) ∧ C t 8 n = a1 ∧ C t 9 n = a2 ∧ C t 10 n = a3 ∧ C t 11 n = 0 ∧ C t 12 n = a4 ∧ C t 13 n = 0 ∧ C t 14 n = 0 := by
  refine ⟨gz_ui (gz_ui (gz_ui (gz_ui (gz_ui (gz_ui (gz_ui (gz_ui I t 8 n a1) t 9 n a2) t 10 n a3) t 11 n 0) t 12 n a4) t 13 n 0) t 14 n 0) t 7 7 (Int32.ofNat (n + 1)), ?_, fun t' o j q => ?_, gz_ui_s, ?_, ?_, ?_, ?_, ?_, ?_, ?_⟩
  · unfold f_X1_add
    rw [h7, if_pos (by rw [gzc_lt2 (by omega) (by omega)]; exact hn), gzGd_in hn (by omega), gzn_clamp (by omega), gzn_succ, gzc_sub (k := 1) (show 1 ≤ n + 1 by omega), show n + 1 - 1 = n by omega]
  all_goals unfold gz_ui
  all_goals repeat (first | rw [if_neg (by omega)] | rw [if_pos (by omega)])
theorem m_begins {n : Nat} {a1 a2 a3 a4 : Int32} (h1 : I 0 48 1 = Int32.ofNat n) (hn : n < 10) : ∃ T : gzIT, (∀ J : gzJT, f_X12_begins a1 a2 a3 a4 I J = some ((), T, J)) ∧ (∀ t o j, ¬ (t = 0 ∧ o = 48 ∧ (j = 1 ∨ (54 + 7 * n ≤ j ∧ j ≤ 60 + 7 * n))) → T t o j = I t o j) ∧ T 0 48 1 = Int32.ofNat (n + 1) ∧ T 0 48 (54 + 7 * n) = a1 ∧ T 0 48 (55 + 7 * n) = a2 ∧ T 0 48 (56 + 7 * n) = a3 ∧ T 0 48 (57 + 7 * n) = 0 ∧ T 0 48 (58 + 7 * n) = a4 ∧ T 0 48 (59 + 7 * n) = 0 ∧ T 0 48 (60 + 7 * n) = 0 := by
  refine ⟨gz_ui (gz_ui (gz_ui (gz_ui (gz_ui (gz_ui (gz_ui (gz_ui I 0 48 (54 + 7 * n) a1) 0 48 (55 + 7 * n) a2) 0 48 (56 + 7 * n) a3) 0 48 (57 + 7 * n) 0) 0 48 (58 + 7 * n) a4) 0 48 (59 + 7 * n) 0) 0 48 (60 + 7 * n) 0) 0 48 1 (Int32.ofNat (n + 1)), fun J => ?_, fun t o j q => ?_, gz_ui_s, ?_, ?_, ?_, ?_, ?_, ?_, ?_⟩
  · obtain ⟨M, eM⟩ : ∃ M, M = gz_ui (gz_ui (gz_ui (gz_ui (gz_ui (gz_ui (gz_ui I 0 48 (54 + 7 * n) a1) 0 48 (55 + 7 * n) a2) 0 48 (56 + 7 * n) a3) 0 48 (57 + 7 * n) 0) 0 48 (58 + 7 * n) a4) 0 48 (59 + 7 * n) 0) 0 48 (60 + 7 * n) 0 := ⟨_, rfl⟩
    have e1 : M 0 48 1 = Int32.ofNat n := by
      rw [eM]
      unfold gz_ui
      rw [if_neg (by omega), if_neg (by omega), if_neg (by omega), if_neg (by omega), if_neg (by omega), if_neg (by omega), if_neg (by omega)]
      exact h1
    unfold f_X12_begins f_X12_at f_X12_grudges
    rw [h1]
    simp (disch := omega) only [Option.bind_some, gzc_mul, gzc_add', gzc_add, gzGd_in, gzn_clamp]
    rw [show 54 + 7 * n + 0 = 54 + 7 * n by omega, show 54 + 7 * n + 1 = 55 + 7 * n by omega, show 54 + 7 * n + 2 = 56 + 7 * n by omega, show 54 + 7 * n + 3 = 57 + 7 * n by omega, show 54 + 7 * n + 4 = 58 + 7 * n by omega, show 54 + 7 * n + 5 = 59 + 7 * n by omega, show 54 + 7 * n + 6 = 60 + 7 * n by omega, ← eM, e1, gzn_succ]
  all_goals unfold gz_ui
  all_goals repeat (first | rw [if_neg (by omega)] | rw [if_pos (by omega)])
theorem L_insult (p0 p1 p2 : Int32) (h : gzR I I) : ∃ e I1, f_X11_insult 4096 p0 p1 p2 I J = some (e, I1, J) ∧ (∀ E, e = .error E → ∃ k : Nat, (["java/lang/IndexOutOfBoundsException", "java/lang/IllegalArgumentException", "java/lang/IllegalStateException"] : List String)[k]? = some E) ∧ ∀ J' : gzJT, ∃ v I2 J2, f_X12_insult 4096 p0 p1 p2 I1 J' = some (v, I2, J2) ∧ gzSame e ["java/lang/IndexOutOfBoundsException", "java/lang/IllegalArgumentException", "java/lang/IllegalStateException"] v (I2 0 47 0) ∧ J2 0 59 0 = J' 0 59 0 ∧ gzR I2 I2 := by
  obtain ⟨nf, ng, nl, nx, hT, hx, c, b, m⟩ := gzR_go h
  obtain ⟨φ, hφ⟩ : ∃ φ, φ = 4096 := ⟨_, rfl⟩
  rw [← hφ]
  have n3 := c.1.2.2.1
  have n4 := c.1.2.2.2
  rcases p_fam (a := p0) (J := J) c (m 0) with ⟨⟨f, hf, rfl⟩, e1, e2⟩ | ⟨e1, e2⟩
  · rcases p_fam (a := p1) (J := J) c (m 0) with ⟨⟨g, hg, rfl⟩, e3, e4⟩ | ⟨e3, e4⟩
    · rcases p_sl (I := I) (J := J) (a := p2) with ⟨⟨s, hs, rfl⟩, e5, e6⟩ | ⟨e5, e6⟩
      · by_cases hfg : f = g
        · refine ⟨.error "java/lang/IllegalArgumentException", I, ?_, fun E hE => ⟨1, by cases hE; rfl⟩, fun J' => ⟨0, gz_ui (gz_ui I 0 47 0 0) 0 47 0 2, J', ?_, ⟨1, rfl, gz_ui_s⟩, rfl, gzR_thr2 h⟩⟩
          · unfold f_X11_insult f_X11_needTwo
            rw [e1]
            simp only [Option.bind_some, gzEx]
            rw [e3]
            simp only [Option.bind_some, gzEx]
            rw [e5]
            simp only [Option.bind_some, gzEx]
            rw [if_neg (by rw [hfg]; exact fun q => q rfl)]
            rfl
          · unfold f_X12_insult
            rw [e2]
            simp only [Option.bind_some]
            rw [if_neg (by simp), e4]
            simp only [Option.bind_some]
            rw [if_neg (by simp), e6]
            simp only [Option.bind_some, if_true, s_throws0]
            rw [if_neg (by simp), if_neg (by rw [hfg]; exact fun q => q rfl), s_throws1]
            rfl
        · have hne : ¬ Int32.ofNat f = Int32.ofNat g := by rw [gzn_inj (by omega) (by omega)]; exact hfg
          have full : ∀ (v : Int32) (C : gzIT), f_X1_find φ 0 I (Int32.ofNat f) (Int32.ofNat g) = some v → (¬ v = -1 ∨ ng < 10) → f_X11_insult_66 φ (Int32.ofNat f) (Int32.ofNat g) (Int32.ofNat s) v I J = some (.ok v, C, J) ∨ (v = -1 ∧ f_X11_insult_66 φ (Int32.ofNat f) (Int32.ofNat g) (Int32.ofNat s) v I J = some (.ok (Int32.ofNat ng), C, J)) → f_X11_insult φ (Int32.ofNat f) (Int32.ofNat g) (Int32.ofNat s) I J = some (.ok (if v = -1 then Int32.ofNat ng else v), C, J) := by
            intro v C h1 h2 h3
            unfold f_X11_insult f_X11_needTwo
            rw [e1]
            simp only [Option.bind_some, gzEx]
            rw [e3]
            simp only [Option.bind_some, gzEx]
            rw [e5]
            simp only [Option.bind_some, gzEx]
            rw [if_pos hne]
            simp only [Option.bind_some, gzEx]
            rw [h1]
            simp only [Option.bind_some]
            by_cases q : v = -1
            · rw [if_neg (fun q2 => q2 q), if_pos q, c.1.2.1, if_pos (by rw [gzc_lt2 (by omega) (by omega)]; rcases h2 with h2 | h2; exact absurd q h2; exact h2)]
              rcases h3 with h3 | ⟨-, h3⟩
              · rcases h2 with h2 | h2
                · exact absurd q h2
                · exfalso
                  have := gzc_m1 (n := ng) (by omega)
                  revert h3
                  rw [q]
                  intro h3
                  unfold f_X11_insult_66 at h3
                  obtain ⟨K, k0, hk0, hkeep, K0, Kh, Kb, hX⟩ := r_rem (J := J) h (φ := φ) (by omega)
                  rw [hkeep] at h3
                  simp only [Option.bind_some] at h3
                  rw [gzGd_in (by omega) (by omega), if_neg (by decide)] at h3
                  obtain ⟨C2, hc, -⟩ := c_add (I := K) (J := J) (t := 0) (n := ng) (a1 := Int32.ofNat f) (a2 := Int32.ofNat g) (a3 := Int32.ofNat s) (a4 := 10 + K 0 17 (Int32.ofNat s).toNatClampNeg) ((K0 7 7 (by omega)).trans c.1.2.1) h2
                  rw [hc] at h3
                  simp only [Option.bind_some, Option.some.injEq, Prod.mk.injEq, Except.ok.injEq] at h3
                  exact (gzc_m1 (n := ng) (by omega)).mp h3.1
              · exact h3
            · rw [if_pos q, if_neg q]
              rcases h3 with h3 | ⟨h3, -⟩
              · exact h3
              · exact absurd h3 q
          rcases p_find (φ := φ) c b (show f < 6 by omega) (show g < 6 by omega) (by omega) with ⟨y1, y2⟩ | ⟨j, hj, y1, y2⟩
          · by_cases h10 : ng < 10
            · -- a new one
              obtain ⟨K, k0, hk0, hkeep, K0, Kh, Kb, hX⟩ := r_rem (J := J) h (φ := φ) (by omega)
              have hl := hT.2.2.2.2.2.2
              obtain ⟨hab, hbd⟩ := gzWx_bd n3 hx
              have bB := (hbd (14 + 2 * s)).2.2.2.2.1 (by omega)
              obtain ⟨L, eL⟩ : ∃ L, L = 10 + I 0 48 (14 + 2 * s) := ⟨_, rfl⟩
              have bL2 : 0 ≤ L.toInt ∧ L.toInt ≤ 999 := by
                obtain ⟨x, hx2, ex⟩ := gzn_of bB.1
                rw [ex, gzn_int hx2] at bB
                rw [eL, ex, gzc_add', gzn_int (by omega)]
                omega
              obtain ⟨C, hadd, Cn, C7, C8, C9, C10, C11, C12, C13, C14⟩ := c_add (I := K) (J := J) (t := 0) (n := ng) (a1 := Int32.ofNat f) (a2 := Int32.ofNat g) (a3 := Int32.ofNat s) (a4 := L) ((K0 7 7 (by omega)).trans c.1.2.1) h10
              have hK17 : 10 + K 0 17 s = L := by rw [K0 17 s (by omega), c.2.2.2.2.2.2.2.2.2.2.2.2.1 s hs, eL]
              obtain ⟨X, eX⟩ : ∃ X, X = gz_ui C 0 47 0 0 := ⟨_, rfl⟩
              have Xh : ∀ t o j, 47 ≤ o → ¬ (t = 0 ∧ o = 47 ∧ j = 0) → X t o j = I t o j := fun t o j ho hn => by
                rw [eX]
                exact (if_neg hn).trans ((Cn t o j (by omega)).trans (Kh t o j ho))
              have Xc : ∀ t o j, o < 47 → X t o j = C t o j := fun t o j ho => by rw [eX]; exact if_neg (by omega)
              obtain ⟨hrem, Rn, hfin⟩ := hX X Xh
              obtain ⟨R, eR⟩ : ∃ R, R = gzRm X k0 := ⟨_, rfl⟩
              rw [← eR] at hrem Rn hfin
              have vX : gzVi X (I 0 48) nf ng := gzVi_eq (m 0) (fun j hj => (Xh 0 48 j (by omega) (by omega)).trans (if_neg (by omega)).symm)
              have Rw : ∀ j, R 0 48 j = I 0 48 j := fun j => (Rn 0 48 j (by omega) (by omega)).trans (Xh 0 48 j (by omega) (by omega))
              obtain ⟨T, hbeg, Tn, T1, T54, T55, T56, T57, T58, T59, T60⟩ := m_begins (I := R) (n := ng) (a1 := Int32.ofNat f) (a2 := Int32.ofNat g) (a3 := Int32.ofNat s) (a4 := L) ((Rw 1).trans (m 0).2.1.1.2.1) h10
              have Tc : ∀ t o j, o < 47 → T t o j = C t o j := fun t o j ho => (Tn t o j (by omega)).trans ((Rn t o j (by omega) (by omega)).trans (Xc t o j ho))
              have Tt : ∀ o j, o < 20 → ¬ ((8 ≤ o ∧ o ≤ 14 ∧ j = ng) ∨ (o = 7 ∧ j = 7)) → T 0 o j = I 0 o j := fun o j ho q => (Tc 0 o j (by omega)).trans ((Cn 0 o j (by omega)).trans (K0 o j ho))
              have Tw : ∀ j, ¬ (j = 1 ∨ (54 + 7 * ng ≤ j ∧ j ≤ 60 + 7 * ng)) → T 0 48 j = I 0 48 j := fun j q => (Tn 0 48 j (by omega)).trans (Rw j)
              obtain ⟨w0, v0, -, -, -, -, -, -, -, -, hbo⟩ := id h
              have hb0 := hbo 0 (by omega) (by omega)
              refine ⟨.ok (Int32.ofNat ng), C, ?_, fun E hE => (by cases hE), fun J' => ⟨Int32.ofNat ng, T, J', ?_, ⟨rfl, ?_⟩, rfl, ?_⟩⟩
              · refine full (-1) C y1 (Or.inr h10) (Or.inr ⟨rfl, ?_⟩)
                unfold f_X11_insult_66
                rw [hkeep]
                simp only [Option.bind_some]
                rw [gzGd_in (by omega) (by omega), if_neg (by decide), gzn_clamp (by omega), hK17, hadd]
                rfl
              · unfold f_X12_insult
                rw [← eX, m_noFa vX hf]
                simp only [Option.bind_some]
                rw [if_neg (by simp), m_noFa vX hg]
                simp only [Option.bind_some]
                rw [if_neg (by simp), e6]
                simp only [Option.bind_some, if_true, s_throws0]
                rw [if_neg (by simp), if_pos hne, s_throws0]
                simp only [Option.bind_some, if_true]
                rw [y2 X vX]
                simp only [Option.bind_some]
                rw [if_neg (by decide), m_grudges vX]
                simp only [Option.bind_some]
                rw [if_pos (by rw [gzc_eq2 (by omega) (by omega)]; omega)]
                simp only [s_throws0, Option.bind_some, if_true, hrem J']
                simp (disch := omega) only [gzc_mul, gzc_add', gzc_add, gzGd_in, gzn_clamp]
                rw [if_neg (by simp), Nat.add_zero, Rw, ← eL, hbeg]
                simp only [Option.bind_some]
                unfold f_X12_grudges
                rw [T1]
                simp only [Option.bind_some]
                rw [gzc_sub (k := 1) (show 1 ≤ ng + 1 by omega), show ng + 1 - 1 = ng by omega]
              · refine (Tn 0 47 0 (by omega)).trans ((Rn 0 47 0 (by omega) (by omega)).trans ?_)
                rw [eX]; exact gz_ui_s
              · refine hfin T (fun t o j ho q1 q2 => (Tc t o j ho).trans (Cn t o j (by omega))) (fun t o j ho q1 q2 => Tn t o j (by omega)) ⟨nf, ng + 1, nl, nx, gzTn_mk ⟨n3, by omega, ?_, ?_, (Tc 0 7 7 (by omega)).trans C7, T1⟩ (fun o j i q => ?_) (gzLg_same hl (fun o j q => Tt o j (by omega) (by omega)) (fun j q => Tw j (by omega))), gzWx_mk n3 (by omega) (fun q hq => ?_) (fun i hi => ?_)⟩ (Tw 3 (by omega)) ⟨fun j hj => ?_, ?_⟩
                · rw [Tt 1 5 (by omega) (by omega)]; exact hT.1.2.2.1
                · rw [Tw 0 (by omega)]; exact hT.1.2.2.2.1
                · by_cases e : 8 ≤ o ∧ o ≤ 14 ∧ j = ng
                  · obtain ⟨a1, a2, rfl⟩ := e
                    have ei : i = 46 + o + 7 * j := by unfold gzQp at q; omega
                    rw [Tc 0 o j (by omega)]
                    rcases (show o = 8 ∨ o = 9 ∨ o = 10 ∨ o = 11 ∨ o = 12 ∨ o = 13 ∨ o = 14 by omega) with rfl | rfl | rfl | rfl | rfl | rfl | rfl
                    · rw [ei, C8, show 46 + 8 + 7 * j = 54 + 7 * j by omega, T54]
                    · rw [ei, C9, show 46 + 9 + 7 * j = 55 + 7 * j by omega, T55]
                    · rw [ei, C10, show 46 + 10 + 7 * j = 56 + 7 * j by omega, T56]
                    · rw [ei, C11, show 46 + 11 + 7 * j = 57 + 7 * j by omega, T57]
                    · rw [ei, C12, show 46 + 12 + 7 * j = 58 + 7 * j by omega, T58]
                    · rw [ei, C13, show 46 + 13 + 7 * j = 59 + 7 * j by omega, T59]
                    · rw [ei, C14, show 46 + 14 + 7 * j = 60 + 7 * j by omega, T60]
                  · have q' : gzQp nf ng o j i := gzQp_less q e
                    obtain ⟨l1, l2, l3, l4, l5, l6, l7, l8⟩ := gzQp_lim n3 q'
                    rw [Tt o j l1 (by omega), Tw i (by omega)]
                    exact gzTn_pr hT o j i q'
                · by_cases e : q = ng
                  · subst e
                    exact ⟨f, g, s, hf, hg, hfg, hs, T54, T55, T56⟩
                  · obtain ⟨a, b, o, h1, h2, h3, h4, h5, h6, h7⟩ := hab q (by omega)
                    exact ⟨a, b, o, h1, h2, h3, h4, (Tw _ (by omega)).trans h5, (Tw _ (by omega)).trans h6, (Tw _ (by omega)).trans h7⟩
                · by_cases e : 54 + 7 * ng ≤ i ∧ i ≤ 60 + 7 * ng
                  · rcases (show i = 54 + 7 * ng ∨ i = 55 + 7 * ng ∨ i = 56 + 7 * ng ∨ i = 57 + 7 * ng ∨ i = 58 + 7 * ng ∨ i = 59 + 7 * ng ∨ i = 60 + 7 * ng by omega) with e | e | e | e | e | e | e
                    · exact ⟨fun q => by omega, fun q => by omega, fun q => by omega, fun q => by omega, fun q => by omega, fun f hf => ⟨fun q => by omega, fun q => by omega, fun q => by omega⟩, fun g hg => ⟨fun q => by omega, fun q => by omega, fun q => by omega⟩⟩
                    · exact ⟨fun q => by omega, fun q => by omega, fun q => by omega, fun q => by omega, fun q => by omega, fun f hf => ⟨fun q => by omega, fun q => by omega, fun q => by omega⟩, fun g hg => ⟨fun q => by omega, fun q => by omega, fun q => by omega⟩⟩
                    · exact ⟨fun q => by omega, fun q => by omega, fun q => by omega, fun q => by omega, fun q => by omega, fun f hf => ⟨fun q => by omega, fun q => by omega, fun q => by omega⟩, fun g hg => ⟨fun q => by omega, fun q => by omega, fun q => by omega⟩⟩
                    · rw [e, T57]
                      exact ⟨fun q => by omega, fun q => by omega, fun q => by omega, fun q => by omega, fun q => by omega, fun f hf => ⟨fun q => by omega, fun q => by omega, fun q => by omega⟩, fun g hg => ⟨fun q => by decide, fun q => by omega, fun q => by omega⟩⟩
                    · rw [e, T58]
                      exact gz_bdI n3 (by omega) bL2
                    · rw [e, T59]
                      exact gz_bdU n3 (Or.inl rfl) (Or.inl rfl)
                    · rw [e, T60]
                      exact gz_bdU n3 (Or.inr rfl) (Or.inl rfl)
                  · by_cases e2 : i = 1
                    · exact gz_bd0 (by omega)
                    · rw [Tw i (by omega)]
                      obtain ⟨b1, b2, b3, b4, b5, b6, b7⟩ := hbd i
                      refine ⟨b1, b2, b3, b4, b5, b6, fun q hq => ?_⟩
                      by_cases e3 : q < ng
                      · exact b7 q e3
                      · exact ⟨fun q => by omega, fun q => by omega, fun q => by omega⟩
                · by_cases e : j = ng
                  · subst e
                    rw [Tc 0 13 j (by omega), C13, Tc 0 14 j (by omega), C14]
                    exact ⟨Or.inl rfl, Or.inl rfl⟩
                  · rw [Tt 13 j (by omega) (by omega), Tt 14 j (by omega) (by omega)]
                    exact hb0.1 j hj
                · rw [Tt 0 9 (by omega) (by omega)]; exact hb0.2
            · refine ⟨.error "java/lang/IllegalStateException", I, ?_, fun E hE => ⟨2, by cases hE; rfl⟩, fun J' => ⟨0, gz_ui (gz_ui I 0 47 0 0) 0 47 0 3, J', ?_, ⟨2, rfl, gz_ui_s⟩, rfl, gzR_thr2 h⟩⟩
              · unfold f_X11_insult f_X11_needTwo
                rw [e1]
                simp only [Option.bind_some, gzEx]
                rw [e3]
                simp only [Option.bind_some, gzEx]
                rw [e5]
                simp only [Option.bind_some, gzEx]
                rw [if_pos hne]
                simp only [Option.bind_some, gzEx]
                rw [y1]
                simp only [Option.bind_some]
                rw [if_neg (by decide), c.1.2.1, if_neg (by rw [gzc_lt2 (by omega) (by omega)]; exact h10)]
              · unfold f_X12_insult
                rw [e2]
                simp only [Option.bind_some]
                rw [if_neg (by simp), e4]
                simp only [Option.bind_some]
                rw [if_neg (by simp), e6]
                simp only [Option.bind_some, if_true, s_throws0]
                rw [if_neg (by simp), if_pos hne, s_throws0]
                simp only [Option.bind_some, if_true]
                rw [y2 _ (m 0)]
                simp only [Option.bind_some]
                rw [if_neg (by decide), m_grudges (m 0)]
                simp only [Option.bind_some]
                rw [if_neg (by rw [gzc_eq2 (by omega) (by omega)]; omega), s_throws1]
                rfl
          · obtain ⟨K, k0, hk0, hkeep, K0, Kh, Kb, hX⟩ := r_rem (J := J) h (φ := φ) (by omega)
            have hl := hT.2.2.2.2.2.2
            obtain ⟨hab, hbd⟩ := gzWx_bd n3 hx
            have bB := (hbd (14 + 2 * s)).2.2.2.2.1 (by omega)
            have bI := ((hbd (58 + 7 * j)).2.2.2.2.2.2 j hj).2.1 rfl
            obtain ⟨N, eN⟩ : ∃ N, N = 10 + I 0 48 (14 + 2 * s) := ⟨_, rfl⟩
            have bN : 0 ≤ N.toInt ∧ N.toInt ≤ 9999 := by
              obtain ⟨x, hx2, ex⟩ := gzn_of bB.1
              rw [ex, gzn_int hx2] at bB
              rw [eN, ex, gzc_add', gzn_int (by omega)]
              omega
            obtain ⟨L, eL⟩ : ∃ L, L = if I 0 48 (58 + 7 * j) + N < 999 then I 0 48 (58 + 7 * j) + N else 999 := ⟨_, rfl⟩
            have bL2 : 0 ≤ L.toInt ∧ L.toInt ≤ 999 := by
              rw [eL]
              exact gz_cap (c := 999) (by omega) bN (by omega)
            have hne1 : ¬ Int32.ofNat j = -1 := fun q => (gzc_m1 (by omega)).mp q
            obtain ⟨C1, eC1⟩ : ∃ C1, C1 = gz_ui K 0 10 j (Int32.ofNat s) := ⟨_, rfl⟩
            have C1n : ∀ t o i, ¬ (t = 0 ∧ o = 10 ∧ i = j) → C1 t o i = K t o i := fun t o i q => by rw [eC1]; exact if_neg q
            have C1s : C1 0 10 j = Int32.ofNat s := by rw [eC1]; exact gz_ui_s
            obtain ⟨C, eC⟩ : ∃ C, C = gz_ui C1 0 12 j L := ⟨_, rfl⟩
            have Cn : ∀ t o i, ¬ (t = 0 ∧ o = 12 ∧ i = j) → C t o i = C1 t o i := fun t o i q => by rw [eC]; exact if_neg q
            have Cs : C 0 12 j = L := by rw [eC]; exact gz_ui_s
            have hK17 : 10 + K 0 17 s = N := by rw [K0 17 s (by omega), c.2.2.2.2.2.2.2.2.2.2.2.2.1 s hs, eN]
            have hC1L : C1 0 12 j = I 0 48 (58 + 7 * j) := (C1n 0 12 j (by omega)).trans ((K0 12 j (by omega)).trans (c.2.2.2.2.2.1 j hj))
            obtain ⟨X, eX⟩ : ∃ X, X = gz_ui C 0 47 0 0 := ⟨_, rfl⟩
            have Xh : ∀ t o j, 47 ≤ o → ¬ (t = 0 ∧ o = 47 ∧ j = 0) → X t o j = I t o j := fun t o j ho hn => by
              rw [eX]
              exact (if_neg hn).trans ((Cn t o j (by omega)).trans ((C1n t o j (by omega)).trans (Kh t o j ho)))
            have Xc : ∀ t o j, o < 47 → X t o j = C t o j := fun t o j ho => by rw [eX]; exact if_neg (by omega)
            obtain ⟨hrem, Rn, hfin⟩ := hX X Xh
            obtain ⟨R, eR⟩ : ∃ R, R = gzRm X k0 := ⟨_, rfl⟩
            rw [← eR] at hrem Rn hfin
            have vX : gzVi X (I 0 48) nf ng := gzVi_eq (m 0) (fun j hj => (Xh 0 48 j (by omega) (by omega)).trans (if_neg (by omega)).symm)
            have Rw : ∀ j, R 0 48 j = I 0 48 j := fun j => (Rn 0 48 j (by omega) (by omega)).trans (Xh 0 48 j (by omega) (by omega))
            obtain ⟨Y, eY⟩ : ∃ Y, Y = gz_ui R 0 48 (58 + 7 * j) L := ⟨_, rfl⟩
            have Yn : ∀ t o i, ¬ (t = 0 ∧ o = 48 ∧ i = 58 + 7 * j) → Y t o i = R t o i := fun t o i q => by rw [eY]; exact if_neg q
            have Ys : Y 0 48 (58 + 7 * j) = L := by rw [eY]; exact gz_ui_s
            obtain ⟨T, eT⟩ : ∃ T, T = gz_ui Y 0 48 (56 + 7 * j) (Int32.ofNat s) := ⟨_, rfl⟩
            have Tn : ∀ t o i, ¬ (t = 0 ∧ o = 48 ∧ i = 56 + 7 * j) → T t o i = Y t o i := fun t o i q => by rw [eT]; exact if_neg q
            have Ts : T 0 48 (56 + 7 * j) = Int32.ofNat s := by rw [eT]; exact gz_ui_s
            have T58 : T 0 48 (58 + 7 * j) = L := (Tn 0 48 _ (by omega)).trans Ys
            have Tc : ∀ t o j, o < 47 → T t o j = C t o j := fun t o j ho => (Tn t o j (by omega)).trans ((Yn t o j (by omega)).trans ((Rn t o j (by omega) (by omega)).trans (Xc t o j ho)))
            have Tt : ∀ o i, o < 20 → ¬ ((o = 12 ∧ i = j) ∨ (o = 10 ∧ i = j)) → T 0 o i = I 0 o i := fun o i ho q => (Tc 0 o i (by omega)).trans ((Cn 0 o i (by omega)).trans ((C1n 0 o i (by omega)).trans (K0 o i ho)))
            have Tw : ∀ i, ¬ (i = 58 + 7 * j ∨ i = 56 + 7 * j) → T 0 48 i = I 0 48 i := fun i q => (Tn 0 48 i (by omega)).trans ((Yn 0 48 i (by omega)).trans (Rw i))
            have Tc12 : T 0 12 j = L := (Tc 0 12 j (by omega)).trans Cs
            have Tc10 : T 0 10 j = Int32.ofNat s := (Tc 0 10 j (by omega)).trans ((Cn 0 10 j (by omega)).trans C1s)
            obtain ⟨w0, v0, -, -, -, -, -, -, -, -, hbo⟩ := id h
            have hb0 := hbo 0 (by omega) (by omega)
            refine ⟨.ok (Int32.ofNat j), C, ?_, fun E hE => (by cases hE), fun J' => ⟨Int32.ofNat j, T, J', ?_, ⟨rfl, ?_⟩, rfl, ?_⟩⟩
            · have := full (Int32.ofNat j) C y1 (Or.inl hne1) (Or.inl ?_)
              · rw [if_neg hne1] at this; exact this
              · unfold f_X11_insult_66
                rw [hkeep]
                simp only [Option.bind_some]
                rw [gzGd_in (by omega) (by omega), if_pos hne1, gzn_clamp (by omega), hK17]
                unfold f_X1_offend
                rw [gzc_write (by omega) (by omega), ← eC1]
                simp only [Option.bind_some]
                rw [gzc_cell (by omega) (by omega), hC1L]
                simp only [Option.bind_some]
                rw [← eL, gzc_write (by omega) (by omega), ← eC]
                rfl
            · unfold f_X12_insult
              rw [← eX, m_noFa vX hf]
              simp only [Option.bind_some]
              rw [if_neg (by simp), m_noFa vX hg]
              simp only [Option.bind_some]
              rw [if_neg (by simp), e6]
              simp only [Option.bind_some, if_true, s_throws0]
              rw [if_neg (by simp), if_pos hne, s_throws0]
              simp only [Option.bind_some, if_true]
              rw [y2 X vX]
              simp only [Option.bind_some]
              rw [if_pos hne1]
              simp only [s_throws0, Option.bind_some, if_true, hrem J']
              unfold f_X12_at f_X12_adds
              simp (disch := omega) only [Option.bind_some, gzc_mul, gzc_add', gzc_add, gzGd_in, gzn_clamp]
              rw [if_pos hne1, show 14 + 2 * s + 0 = 14 + 2 * s from rfl, Rw (14 + 2 * s), ← eN, show 54 + 7 * j + 4 = 58 + 7 * j by omega, show 54 + 7 * j + 2 = 56 + 7 * j by omega, Rw (58 + 7 * j), ← eL, ← eY, ← eT]
            · refine (Tn 0 47 0 (by omega)).trans ((Yn 0 47 0 (by omega)).trans ((Rn 0 47 0 (by omega) (by omega)).trans ?_))
              rw [eX]; exact gz_ui_s
            · have fin := r_fin2 (T := T) (D := fun o i => (o = 12 ∧ i = j) ∨ (o = 10 ∧ i = j)) (E := fun i => i = 58 + 7 * j ∨ i = 56 + 7 * j) hT hx (fun o i ho q _ => Tt o i ho q) (fun i _ _ q => Tw i q) (fun o i' i q => ?_) ⟨by omega, by omega, by omega, by omega, by omega⟩ (fun q hq => ?_) (fun i _ e => ?_) (gzLg_same hl (fun o j q => Tt o j (by omega) (by omega)) (fun j q => Tw j (by omega)))
              · refine hfin T (fun t o j ho q1 q2 => (Tc t o j ho).trans ((Cn t o j (by omega)).trans (C1n t o j (by omega)))) (fun t o j ho q1 q2 => (Tn t o j (by omega)).trans (Yn t o j (by omega))) fin.1 fin.2 ⟨fun i hi => ?_, ?_⟩
                · rw [Tt 13 i (by omega) (by omega), Tt 14 i (by omega) (by omega)]
                  exact hb0.1 i hi
                · rw [Tt 0 9 (by omega) (by omega)]; exact hb0.2
              · unfold gzQp at q
                by_cases e : o = 12 ∧ i' = j
                · left
                  obtain ⟨rfl, rfl⟩ := e
                  rw [Tc12, show i = 58 + 7 * i' by omega, T58]
                · by_cases e' : o = 10 ∧ i' = j
                  · left
                    obtain ⟨rfl, rfl⟩ := e'
                    rw [Tc10, show i = 56 + 7 * i' by omega, Ts]
                  · right
                    exact ⟨by omega, by omega⟩
              · obtain ⟨a, b, o, h1, h2, h3, h4, h5, h6, h7⟩ := hab q hq
                by_cases e : q = j
                · subst e
                  exact ⟨a, b, s, h1, h2, h3, hs, (Tw _ (by omega)).trans h5, (Tw _ (by omega)).trans h6, Ts⟩
                · exact ⟨a, b, o, h1, h2, h3, h4, (Tw _ (by omega)).trans h5, (Tw _ (by omega)).trans h6, (Tw _ (by omega)).trans h7⟩
              · rcases e with e' | e'
                · rw [e', T58]; exact gz_bdI n3 hj bL2
                · rw [e']
                  exact ⟨fun q => by omega, fun q => by omega, fun q => by omega, fun q => by omega, fun q => by omega, fun f hf => ⟨fun q => by omega, fun q => by omega, fun q => by omega⟩, fun g hg => ⟨fun q => by omega, fun q => by omega, fun q => by omega⟩⟩
      · refine ⟨.error "java/lang/IndexOutOfBoundsException", I, ?_, fun E hE => ⟨0, by cases hE; rfl⟩, fun J' => ⟨0, gz_ui (gz_ui I 0 47 0 0) 0 47 0 1, J', ?_, ⟨0, rfl, gz_ui_s⟩, rfl, gzR_thr2 h⟩⟩
        · unfold f_X11_insult
          rw [e1]
          simp only [Option.bind_some, gzEx]
          rw [e3]
          simp only [Option.bind_some, gzEx]
          rw [e5]
          rfl
        · unfold f_X12_insult
          rw [e2]
          simp only [Option.bind_some]
          rw [if_neg (by simp), e4]
          simp only [Option.bind_some]
          rw [if_neg (by simp), e6]
          simp only [Option.bind_some]
          rw [if_neg (by decide), s_throws1]
          rfl
    · refine ⟨.error "java/lang/IndexOutOfBoundsException", I, ?_, fun E hE => ⟨0, by cases hE; rfl⟩, fun J' => ⟨0, gz_ui (gz_ui I 0 47 0 0) 0 47 0 1, J', ?_, ⟨0, rfl, gz_ui_s⟩, rfl, gzR_thr2 h⟩⟩
      · unfold f_X11_insult
        rw [e1]
        simp only [Option.bind_some, gzEx]
        rw [e3]; rfl
      · unfold f_X12_insult
        rw [e2]
        simp only [Option.bind_some]
        rw [if_neg (by simp), e4]
        simp only [Option.bind_some]
        rw [if_pos (by decide), s_throws1]
        rfl
  · refine ⟨.error "java/lang/IndexOutOfBoundsException", I, ?_, fun E hE => ⟨0, by cases hE; rfl⟩, fun J' => ⟨0, gz_ui (gz_ui I 0 47 0 0) 0 47 0 1, J', ?_, ⟨0, rfl, gz_ui_s⟩, rfl, gzR_thr2 h⟩⟩
    · unfold f_X11_insult
      rw [e1]; rfl
    · unfold f_X12_insult
      rw [e2]
      simp only [Option.bind_some]
      rw [if_pos (by decide), s_throws1]
      rfl
end
