/-! swap, rests, seed -/
section
variable {I I' : gzIT} {J : gzJT} {w : Nat → Int32} {nf ng t φ : Nat}
def gzWo (w : Nat → Int32) (f : Nat) (x : Int32) : Int32 := x - 2 * (if 0 < x - 3 * w (31 + 4 * f) then x - 3 * w (31 + 4 * f) else 0)
theorem c_likes {a b : Nat} (h : gzVc I t w nf ng) (ha : a < nf) (hb : b < nf) : f_X0_likes t I (Int32.ofNat a) (Int32.ofNat b) = some (if gzWo w a (w (32 + 4 * b)) ≤ gzWo w a (w (32 + 4 * a)) then 0 else 1) := by
  obtain ⟨⟨h1, h2, h3, h4⟩, hF, hT, hS, hA, hI, hU, hH, hP, hN, hL, hO, hB, hD⟩ := id h
  unfold f_X0_likes f_X0_worth
  simp (disch := omega) only [gzc_cell, hL, hN, Option.bind_some]
  rfl
theorem m_worth {a : Nat} {x : Int32} (h : gzVi I w nf ng) (ha : a < nf) : f_X12_worthTo I (Int32.ofNat a) x = some (gzWo w a x) := by
  unfold f_X12_worthTo
  rw [m_ofFamily1 h ha]
  rfl
theorem L_swap (p0 p1 : Int32) (h : gzR I I) : ∃ e I1, f_X11_swap p0 p1 I J = some (e, I1, J) ∧ (∀ E, e = .error E → ∃ k : Nat, (["java/lang/IndexOutOfBoundsException", "java/lang/IllegalArgumentException"] : List String)[k]? = some E) ∧ ∀ J' : gzJT, ∃ v I2 J2, f_X12_swap p0 p1 I1 J' = some (v, I2, J2) ∧ gzSame e ["java/lang/IndexOutOfBoundsException", "java/lang/IllegalArgumentException"] v (I2 0 47 0) ∧ J2 0 59 0 = J' 0 59 0 ∧ gzR I2 I2 := by
  obtain ⟨nf, ng, nl, nx, -, -, c, b, m⟩ := gzR_go h
  have hn := c.1.2.2.1
  rcases p_fam (a := p0) (J := J) c (m 0) with ⟨⟨k, hk, rfl⟩, e1, e2⟩ | ⟨e1, e2⟩
  · rcases p_fam (a := p1) (J := J) c (m 0) with ⟨⟨k1, hk1, rfl⟩, e3, e4⟩ | ⟨e3, e4⟩
    · by_cases hkk : k = k1
      · refine ⟨.error "java/lang/IllegalArgumentException", I, ?_, fun E hE => ⟨1, by cases hE; rfl⟩, fun J' => ⟨0, gz_ui (gz_ui I 0 47 0 0) 0 47 0 2, J', ?_, ⟨1, rfl, gz_ui_s⟩, rfl, gzR_thr2 h⟩⟩
        · unfold f_X11_swap f_X11_needTwo
          rw [e1]
          simp only [Option.bind_some, gzEx]
          rw [e3]
          simp only [Option.bind_some, gzEx]
          rw [if_neg (by rw [hkk]; exact fun q => q rfl)]
          rfl
        · unfold f_X12_swap
          rw [e2]
          simp only [Option.bind_some, not_true_eq_false, if_false]
          rw [e4]
          simp only [Option.bind_some, if_true, s_throws0, not_true_eq_false, if_false]
          rw [if_neg (by rw [hkk]; exact fun q => q rfl), s_throws1]
          rfl
      · have hne : ¬ Int32.ofNat k = Int32.ofNat k1 := by rw [gzn_inj (by omega) (by omega)]; exact hkk
        refine ⟨.ok (if gzWo (I 0 48) k (I 0 48 (32 + 4 * k1)) ≤ gzWo (I 0 48) k (I 0 48 (32 + 4 * k)) then 0 else if gzWo (I 0 48) k1 (I 0 48 (32 + 4 * k)) ≤ gzWo (I 0 48) k1 (I 0 48 (32 + 4 * k1)) then 0 else 1), I, ?_, fun E hE => (by cases hE), fun J' => ⟨if gzWo (I 0 48) k (I 0 48 (32 + 4 * k1)) ≤ gzWo (I 0 48) k (I 0 48 (32 + 4 * k)) then 0 else if gzWo (I 0 48) k1 (I 0 48 (32 + 4 * k)) ≤ gzWo (I 0 48) k1 (I 0 48 (32 + 4 * k1)) then 0 else 1, gz_ui I 0 47 0 0, J', ?_, ⟨rfl, gz_ui_s⟩, rfl, gzR_thr h⟩⟩
        · unfold f_X11_swap f_X11_needTwo
          rw [e1]
          simp only [Option.bind_some, gzEx]
          rw [e3]
          simp only [Option.bind_some, gzEx]
          rw [if_pos hne]
          simp only [Option.bind_some, gzEx]
          rw [c_likes c hk hk1, c_likes c hk1 hk]
          simp only [Option.bind_some]
          by_cases q1 : gzWo (I 0 48) k (I 0 48 (32 + 4 * k1)) ≤ gzWo (I 0 48) k (I 0 48 (32 + 4 * k))
          · rw [if_pos q1, if_pos q1, if_pos rfl]
          · rw [if_neg q1, if_neg q1, if_neg (by decide)]
            by_cases q2 : gzWo (I 0 48) k1 (I 0 48 (32 + 4 * k)) ≤ gzWo (I 0 48) k1 (I 0 48 (32 + 4 * k1))
            · rw [if_pos q2, if_pos rfl]
            · rw [if_neg q2, if_neg (by decide)]
        · unfold f_X12_swap
          rw [e2]
          simp only [Option.bind_some, not_true_eq_false, if_false]
          rw [e4]
          simp only [Option.bind_some, if_true, s_throws0, not_true_eq_false, if_false]
          rw [if_pos hne, s_throws0]
          simp only [Option.bind_some, if_true, m_ofFamily2 (m 0) hk, m_ofFamily2 (m 0) hk1, m_worth (m 0) hk, m_worth (m 0) hk1]
          by_cases q1 : gzWo (I 0 48) k (I 0 48 (32 + 4 * k1)) ≤ gzWo (I 0 48) k (I 0 48 (32 + 4 * k))
          · rw [if_pos q1, if_pos q1]
          · rw [if_neg q1, if_neg q1]
            by_cases q2 : gzWo (I 0 48) k1 (I 0 48 (32 + 4 * k)) ≤ gzWo (I 0 48) k1 (I 0 48 (32 + 4 * k1))
            · rw [if_pos q2, if_pos q2]
            · rw [if_neg q2, if_neg q2]
    · refine ⟨.error "java/lang/IndexOutOfBoundsException", I, ?_, fun E hE => ⟨0, by cases hE; rfl⟩, fun J' => ⟨0, gz_ui (gz_ui I 0 47 0 0) 0 47 0 1, J', ?_, ⟨0, rfl, gz_ui_s⟩, rfl, gzR_thr2 h⟩⟩
      · unfold f_X11_swap
        rw [e1]
        simp only [Option.bind_some, gzEx]
        rw [e3]; rfl
      · unfold f_X12_swap
        rw [e2]
        simp only [Option.bind_some, not_true_eq_false, if_false]
        rw [e4]
        simp only [Option.bind_some]
        rw [if_neg (by decide), s_throws1]
        rfl
  · refine ⟨.error "java/lang/IndexOutOfBoundsException", I, ?_, fun E hE => ⟨0, by cases hE; rfl⟩, fun J' => ⟨0, gz_ui (gz_ui I 0 47 0 0) 0 47 0 1, J', ?_, ⟨0, rfl, gz_ui_s⟩, rfl, gzR_thr2 h⟩⟩
    · unfold f_X11_swap
      rw [e1]; rfl
    · unfold f_X12_swap
      rw [e2]
      simp only [Option.bind_some]
      rw [if_pos (by decide), s_throws1]
      rfl
/-- rests -/
def gzFr (w : Nat → Int32) (g : Nat) : Nat → Int32
  | 0 => w (14 + 2 * tS w g)
  | 1 => -1
  | 2 => -w (30 + 4 * tF w g)
  | _ => w (15 + 2 * tS w g) / 2
def gzTo (w : Nat → Int32) (g : Nat) : Nat → Int32
  | 0 => 2
  | 1 => -3
  | 2 => 4
  | _ => w (15 + 2 * tS w g) / 2
theorem c_fromHas {g c : Nat} (h : gzVc I t w nf ng) (hb : gzVb w nf ng) (hg : g < ng) (hc : c < 4) : f_X8_fromHas t I (Int32.ofNat g) (Int32.ofNat c) = some (gzFr w g c) := by
  obtain ⟨⟨h1, h2, h3, h4⟩, hF, hT, hS, hA, hI, hU, hH, hP, hN, hL, hO, hB, hD⟩ := id h
  have q1 := hb.1 g hg
  have q2 := hb.2.2.2 g hg
  unfold f_X8_fromHas
  simp (disch := omega) only [gzc_cell, hS, hF, hB, hD, hP, Option.bind_some]
  rcases (show c = 0 ∨ c = 1 ∨ c = 2 ∨ c = 3 by omega) with rfl | rfl | rfl | rfl <;> rfl
theorem c_toHas {g c : Nat} (h : gzVc I t w nf ng) (hb : gzVb w nf ng) (hg : g < ng) (hc : c < 4) : f_X8_toHas t I (Int32.ofNat g) (Int32.ofNat c) = some (gzTo w g c) := by
  obtain ⟨⟨h1, h2, h3, h4⟩, hF, hT, hS, hA, hI, hU, hH, hP, hN, hL, hO, hB, hD⟩ := id h
  have q2 := hb.2.2.2 g hg
  unfold f_X8_toHas
  simp (disch := omega) only [gzc_cell, hS, hD, Option.bind_some]
  rcases (show c = 0 ∨ c = 1 ∨ c = 2 ∨ c = 3 by omega) with rfl | rfl | rfl | rfl <;> rfl
theorem m_fromHas {g a b : Nat} (h : gzVi I w nf ng) (hg : g < ng) (ha : a < 2) (hb : b < 2) : f_X12_fromHas I (Int32.ofNat g) (Int32.ofNat a) (Int32.ofNat b) = some (gzFr w g (2 * a + b)) := by
  have q1 := h.2.2.1 g hg
  have q2 := h.2.1.1.2.2.1
  unfold f_X12_fromHas
  rw [m_ofSlight0 h hg, m_ofSlight1 h hg, m_of0 h hg]
  simp only [Option.bind_some]
  rw [m_ofFamily0 h q1]
  rcases (show a = 0 ∨ a = 1 by omega) with rfl | rfl <;> rcases (show b = 0 ∨ b = 1 by omega) with rfl | rfl <;> rfl
theorem m_toHas {g a b : Nat} (h : gzVi I w nf ng) (hg : g < ng) (ha : a < 2) (hb : b < 2) : f_X12_toHas I (Int32.ofNat g) (Int32.ofNat a) (Int32.ofNat b) = some (gzTo w g (2 * a + b)) := by
  unfold f_X12_toHas
  rw [m_ofSlight1 h hg]
  simp only [Option.bind_some]
  rcases (show a = 0 ∨ a = 1 by omega) with rfl | rfl <;> rcases (show b = 0 ∨ b = 1 by omega) with rfl | rfl <;> rfl
theorem gz_x2 : ∀ c, c < 4 → Int32.ofNat c ^^^ 2 = Int32.ofNat (2 * (1 - c / 2) + c % 2) ∧ Int32.ofNat c ^^^ 1 = Int32.ofNat (2 * (c / 2) + (1 - c % 2)) := by decide
def gzRst (w : Nat → Int32) (g : Nat) (s : Int32) (c : Nat) : Int32 := if gzFr w g c < gzFr w g (2 * (1 - c / 2) + c % 2) then s else if gzTo w g c < gzTo w g (2 * (c / 2) + (1 - c % 2)) then s else s ||| gzbt c
theorem c_rests {g : Nat} (h : gzVc I t w nf ng) (hb : gzVb w nf ng) (hg : g < ng) (hφ : 10 < φ) : f_X8_restsOf φ t I (Int32.ofNat g) = some (gzFo (gzRst w g) 0 4 0) := by
  unfold f_X8_restsOf
  refine gz_loop (F := fun k s i => f_X8_restsOf_4 φ t I k (Int32.ofNat g) s i) (n := 4) (step := gzRst w g) (out := some) ?_ ?_ 4 0 φ 0 (by omega) (by omega)
  · intro k s c hc
    show f_X8_restsOf_4 φ t I (k + 1) (Int32.ofNat g) s (Int32.ofNat c) = f_X8_restsOf_4 φ t I k (Int32.ofNat g) (gzRst w g s c) (Int32.ofNat (c + 1))
    rw [f_X8_restsOf_4, if_neg (by rw [gzc_le1 (by omega) (by omega)]; omega), (gz_x2 c hc).1, (gz_x2 c hc).2, c_fromHas h hb hg hc, c_fromHas h hb hg (by omega), c_toHas h hb hg hc, c_toHas h hb hg (by omega), gzn_succ]
    simp only [Option.bind_some]
    unfold gzRst
    by_cases q1 : gzFr w g c < gzFr w g (2 * (1 - c / 2) + c % 2)
    · rw [if_pos q1, if_pos q1, if_pos rfl]
    · rw [if_neg q1, if_neg q1, if_neg (by decide)]
      by_cases q2 : gzTo w g c < gzTo w g (2 * (c / 2) + (1 - c % 2))
      · rw [if_pos q2, if_pos q2, if_pos rfl]
      · rw [if_neg q2, if_neg q2, if_neg (by decide)]; rfl
  · intro k s
    show f_X8_restsOf_4 φ t I (k + 1) (Int32.ofNat g) s 4 = some s
    rw [f_X8_restsOf_4, if_pos (by decide)]
theorem gzFo4 {f : Int32 → Nat → Int32} {s : Int32} : gzFo f 0 4 s = gzFo (fun s a => f (f s (2 * a + 0)) (2 * a + 1)) 0 2 s := rfl
theorem gzFo2 {f : Int32 → Nat → Int32} {s : Int32} : gzFo f 0 2 s = f (f s 0) 1 := rfl
theorem m_rests {g : Nat} (h : gzVi I w nf ng) (hg : g < ng) (hφ : 10 < φ) : f_X12_rests_34 φ φ (Int32.ofNat g) 0 0 I J = some (gzFo (gzRst w g) 0 4 0, I, J) := by
  rw [gzFo4]
  refine gz_loop (F := fun k s i => f_X12_rests_34 φ k (Int32.ofNat g) s i I J) (n := 2) (step := fun s a => gzRst w g (gzRst w g s (2 * a + 0)) (2 * a + 1)) (out := fun s => some (s, I, J)) ?_ ?_ 2 0 φ 0 (by omega) (by omega)
  · intro k s a ha
    show f_X12_rests_34 φ (k + 1) (Int32.ofNat g) s (Int32.ofNat a) I J = f_X12_rests_34 φ k (Int32.ofNat g) (gzRst w g (gzRst w g s (2 * a + 0)) (2 * a + 1)) (Int32.ofNat (a + 1)) I J
    rw [f_X12_rests_34, if_neg (by rw [gzc_le1 (by omega) (by omega)]; omega)]
    have key := gz_loop (F := fun k2 s i => f_X12_rests_42 φ (f_X12_rests_34 φ k) k2 (Int32.ofNat g) s (Int32.ofNat a) i I J) (n := 2) (step := fun s b => gzRst w g s (2 * a + b)) (out := fun s => f_X12_rests_34 φ k (Int32.ofNat g) s (Int32.ofNat (a + 1)) I J) ?_ ?_ 2 0 φ s (by omega) (by omega)
    · rw [gzFo2] at key
      exact key
    · intro k2 s b hb
      show f_X12_rests_42 φ (f_X12_rests_34 φ k) (k2 + 1) (Int32.ofNat g) s (Int32.ofNat a) (Int32.ofNat b) I J = f_X12_rests_42 φ (f_X12_rests_34 φ k) k2 (Int32.ofNat g) (gzRst w g s (2 * a + b)) (Int32.ofNat a) (Int32.ofNat (b + 1)) I J
      have e1 : (1 : Int32) - Int32.ofNat a = Int32.ofNat (1 - a) := by rcases (show a = 0 ∨ a = 1 by omega) with rfl | rfl <;> rfl
      have e2 : (1 : Int32) - Int32.ofNat b = Int32.ofNat (1 - b) := by rcases (show b = 0 ∨ b = 1 by omega) with rfl | rfl <;> rfl
      have e3 : (2 : Int32) * Int32.ofNat a + Int32.ofNat b = Int32.ofNat (2 * a + b) := by rw [gzc_mul, gzc_adds]
      rw [f_X12_rests_42, if_neg (by rw [gzc_le1 (by omega) (by omega)]; omega), e1, e2, e3, m_fromHas h hg ha hb, m_fromHas h hg (by omega) hb, m_toHas h hg ha hb, m_toHas h hg ha (by omega), gzn_succ]
      simp only [Option.bind_some, gz_or0]
      unfold gzRst
      rw [show 2 * (1 - (2 * a + b) / 2) + (2 * a + b) % 2 = 2 * (1 - a) + b by omega, show 2 * ((2 * a + b) / 2) + (1 - (2 * a + b) % 2) = 2 * a + (1 - b) by omega]
      by_cases q1 : gzFr w g (2 * a + b) < gzFr w g (2 * (1 - a) + b)
      · rw [if_pos q1, if_pos q1]
      · rw [if_neg q1, if_neg q1]
        by_cases q2 : gzTo w g (2 * a + b) < gzTo w g (2 * a + (1 - b))
        · rw [if_pos q2, if_pos q2]
        · rw [if_neg q2, if_neg q2]; rfl
    · intro k2 s
      show f_X12_rests_42 φ (f_X12_rests_34 φ k) (k2 + 1) (Int32.ofNat g) s (Int32.ofNat a) 2 I J = _
      rw [f_X12_rests_42, if_pos (by decide), gzn_succ]
  · intro k s
    show f_X12_rests_34 φ (k + 1) (Int32.ofNat g) s 2 I J = _
    rw [f_X12_rests_34, if_pos (by decide)]
theorem L_rests (p0 : Int32) (h : gzR I I) : ∃ e I1, f_X11_rests 4096 p0 I J = some (e, I1, J) ∧ (∀ E, e = .error E → ∃ k : Nat, (["java/lang/IndexOutOfBoundsException"] : List String)[k]? = some E) ∧ ∀ J' : gzJT, ∃ v I2 J2, f_X12_rests 4096 p0 I1 J' = some (v, I2, J2) ∧ gzSame e ["java/lang/IndexOutOfBoundsException"] v (I2 0 47 0) ∧ J2 0 59 0 = J' 0 59 0 ∧ gzR I2 I2 := by
  obtain ⟨nf, ng, nl, nx, -, -, c, b, m⟩ := gzR_go h
  obtain ⟨φ, hφ⟩ : ∃ φ, φ = 4096 := ⟨_, rfl⟩
  rw [← hφ]
  rcases p_gr (a := p0) (J := J) c (m 0) with ⟨⟨k, hk, rfl⟩, e1, e2⟩ | ⟨e1, e2⟩
  · refine ⟨.ok (if tH (I 0 48) k = true then -1 else gzFo (gzRst (I 0 48) k) 0 4 0), I, ?_, fun E hE => (by cases hE), fun J' => ⟨if tH (I 0 48) k = true then -1 else gzFo (gzRst (I 0 48) k) 0 4 0, gz_ui I 0 47 0 0, J', ?_, ⟨rfl, gz_ui_s⟩, rfl, gzR_thr h⟩⟩
    · unfold f_X11_rests
      rw [e1]
      simp only [Option.bind_some, gzEx]
      rw [c_frozen c hk, c_rests c b hk (by omega)]
      simp only [Option.bind_some]
      by_cases x : tH (I 0 48) k = true
      · rw [if_pos x, if_pos x, if_neg (fun q => q rfl)]
      · rw [if_neg x, if_neg x, if_pos (by decide)]
    · unfold f_X12_rests
      rw [e2]
      simp only [Option.bind_some, s_throws0, if_true]
      rw [m_isThawed (m 0) hk]
      simp only [Option.bind_some]
      by_cases x : tH (I 0 48) k = true
      · rw [if_pos x, if_pos x, if_neg (by decide)]
      · rw [if_neg x, if_neg x, if_pos rfl]
        exact m_rests (m 0) hk (by omega)
  · refine ⟨.error "java/lang/IndexOutOfBoundsException", I, ?_, fun E hE => ⟨0, by cases hE; rfl⟩, fun J' => ⟨0, gz_ui (gz_ui I 0 47 0 0) 0 47 0 1, J', ?_, ⟨0, rfl, gz_ui_s⟩, rfl, gzR_thr2 h⟩⟩
    · unfold f_X11_rests
      rw [e1]; rfl
    · unfold f_X12_rests
      rw [e2]
      simp only [Option.bind_some, s_throws1]
      rfl
/-- a change of the town of now alone -/
theorem gzR_upd {I I2 : gzIT} (h : gzR I I) (hE : ∀ t o k, ¬ (gzCs t o k ∧ gzMw t o k) → ¬ (t = 0 ∧ o < 20) → ¬ (t = 0 ∧ o = 48 ∧ k < 364) → I2 t o k = I t o k) (ht : gzRt I2 0 (I2 0 48)) (h3 : I2 0 48 3 = I 0 48 3) (hb : (∀ k, k < 10 → (I2 0 13 k = 0 ∨ I2 0 13 k = 1) ∧ (I2 0 14 k = 0 ∨ I2 0 14 k = 1)) ∧ (I2 0 0 9 = 0 ∨ I2 0 0 9 = 1)) : gzR I2 I2 := by
  obtain ⟨w, v, h1, h2, _, h4, ⟨k, m, p1, p2, p3, p4, p5, p6⟩, ⟨i1, i2⟩, ⟨n, e1, e2, e3, e4⟩, h8, h9⟩ := h
  have hw3 : I2 0 48 3 = w 3 := h3.trans (h1 3 (by omega))
  have c0 : ∀ t o k, t ≠ 0 → t ≠ 1 → o < 20 → o ≠ 6 → I2 t o k = I t o k := fun t o k a b c d => hE t o k (by unfold gzCs gzMw; omega) (by omega) (by omega)
  have cl : ∀ t o k, t ≠ 1 → 20 ≤ o → o < 26 → I2 t o k = I t o k := fun t o k a b c => hE t o k (by unfold gzCs gzMw; omega) (by omega) (by omega)
  refine ⟨I2 0 48, v, fun i hi => rfl, fun i hi => ?_, ht, ?_, ⟨k, m, p1, p2, ?_, ?_, ?_, fun j hj => ?_⟩, ⟨?_, ?_⟩, ⟨n, e1, ?_, ?_, fun i hi => ?_⟩, ?_, fun t ht h1 => ?_⟩
  · rw [hE 0 48 (364 + i) (by unfold gzCs gzMw; omega) (by omega) (by omega)]; exact h2 i hi
  · rw [hw3]; exact gzLw_congr (fun o k => cl 0 o k (by omega)) h4
  · rw [hE 0 39 1 (by unfold gzCs gzMw; omega) (by omega) (by omega)]; exact p3
  · rw [hE 0 47 7 (by unfold gzCs gzMw; omega) (by omega) (by omega)]; exact p4
  · rw [hE 0 39 2 (by unfold gzCs gzMw; omega) (by omega) (by omega)]; exact p5
  · obtain ⟨w2, q1, q2, q3⟩ := p6 j hj
    refine ⟨w2, fun i hi => ?_, gzRt_congr (fun o k => c0 _ o k (by omega) (by omega)) q2, by rw [hw3]; exact q3⟩
    rw [hE 0 52 _ (by unfold gzCs gzMw; omega) (by omega) (by omega)]; exact q1 i hi
  · rw [hE 0 30 12 (by unfold gzCs gzMw; omega) (by omega) (by omega), hE 0 47 6 (by unfold gzCs gzMw; omega) (by omega) (by omega)]; exact i1
  · rw [hE 0 47 6 (by unfold gzCs gzMw; omega) (by omega) (by omega)]
    rcases i2 with i2 | ⟨i2, w2, v2, q1, q2, q3, q4⟩
    · exact Or.inl i2
    · refine Or.inr ⟨i2, w2, v2, fun i hi => ?_, fun i hi => ?_, gzRt_congr (fun o k => c0 2 o k (by omega) (by omega)) q3, gzLw_congr (fun o k => cl 2 o k (by omega)) q4⟩
      · rw [hE 0 49 _ (by unfold gzCs gzMw; omega) (by omega) (by omega)]; exact q1 i hi
      · rw [hE 0 49 _ (by unfold gzCs gzMw; omega) (by omega) (by omega)]; exact q2 i hi
  · rw [hE 0 31 1 (by unfold gzCs gzMw; omega) (by omega) (by omega)]; exact e2
  · rw [hE 0 47 9 (by unfold gzCs gzMw; omega) (by omega) (by omega)]; exact e3
  · rw [hE 0 32 i (by unfold gzCs gzMw; omega) (by omega) (by omega), hE 0 53 i (by unfold gzCs gzMw; omega) (by omega) (by omega)]; exact e4 i hi
  · rw [hE 0 33 7 (by unfold gzCs gzMw; omega) (by omega) (by omega), hE 0 47 14 (by unfold gzCs gzMw; omega) (by omega) (by omega)]; exact h8
  · by_cases e0 : t = 0
    · subst e0; exact hb
    · obtain ⟨b1, b2⟩ := h9 t ht h1
      refine ⟨fun k hk => ?_, ?_⟩
      · rw [c0 t 13 k e0 h1 (by omega) (by omega), c0 t 14 k e0 h1 (by omega) (by omega)]; exact b1 k hk
      · rw [c0 t 0 9 e0 h1 (by omega) (by omega)]; exact b2
theorem L_seed (p0 : Int32) (h : gzR I I) : ∃ v I1 I2 J2, f_X11_seed p0 I J = some (v, I1, J) ∧ f_X12_seed p0 I1 J = some (v, I2, J2) ∧ gzR I2 I2 := by
  obtain ⟨nf, ng, nl, nx, hT, hx, c, b, m⟩ := gzR_go h
  obtain ⟨x, e1, e2⟩ := r_seed (a := p0) (J := J) (I := I) hT.2.1.2.2.2.2.2
  refine ⟨x, _, _, _, e1, e2, ?_⟩
  have eo : ∀ t o k, ¬ (t = 0 ∧ o = 0 ∧ k = 11) → ¬ (t = 0 ∧ o = 47 ∧ k = 0) → ¬ (t = 0 ∧ o = 48 ∧ k = 9) → (gz_ui (gz_ui (gz_ui I 0 0 11 p0) 0 47 0 0) 0 48 9 p0) t o k = I t o k := fun t o k a b c => by
    unfold gz_ui
    rw [if_neg c, if_neg b, if_neg a]
  have e11 : (gz_ui (gz_ui (gz_ui I 0 0 11 p0) 0 47 0 0) 0 48 9 p0) 0 0 11 = p0 := by
    unfold gz_ui
    rw [if_neg (by omega), if_neg (by omega), if_pos ⟨rfl, rfl, rfl⟩]
  have e9 : (gz_ui (gz_ui (gz_ui I 0 0 11 p0) 0 47 0 0) 0 48 9 p0) 0 48 9 = p0 := gz_ui_s
  generalize (gz_ui (gz_ui (gz_ui I 0 0 11 p0) 0 47 0 0) 0 48 9 p0) = I2 at eo e11 e9 ⊢
  obtain ⟨w0, v0, -, -, -, -, -, -, -, -, hbo0⟩ := id h
  have hbo := hbo0 0 (by omega) (by omega)
  have ec : ∀ o k, o < 20 → ¬ (o = 0 ∧ k = 11) → I2 0 o k = I 0 o k := fun o k a b => eo 0 o k (by omega) (by omega) (by omega)
  have em : ∀ k, k ≠ 9 → I2 0 48 k = I 0 48 k := fun k a => eo 0 48 k (by omega) (by omega) (by omega)
  refine gzR_upd h (fun t o k a b c => eo t o k (by omega) (fun q => a (by unfold gzCs gzMw; omega)) (by omega)) ?_ (em 3 (by omega)) ⟨fun k hk => ?_, ?_⟩
  · obtain ⟨⟨a1, a2, a3, a4, a5, a6⟩, ⟨b1, b2, b3, b4, b5, b6⟩, c1, d1, f1, g1, ⟨l1, l2, l3, l4, l5, l6⟩⟩ := hT
    refine ⟨nf, ng, nl, nx, ⟨⟨a1, a2, ?_, ?_, ?_, ?_⟩, ⟨?_, ?_, ?_, ?_, ?_, ?_⟩, fun k hk => ?_, fun s hs => ?_, fun f hf => ?_, fun g hg => ?_, ⟨l1, l2, ?_, ?_, ?_, fun a ha k hk => ?_⟩⟩, ?_⟩
    · rw [ec 1 5 (by omega) (by omega)]; exact a3
    · rw [em 0 (by omega)]; exact a4
    · rw [ec 7 7 (by omega) (by omega)]; exact a5
    · rw [em 1 (by omega)]; exact a6
    · rw [ec 0 6 (by omega) (by omega), em 2 (by omega)]; exact b1
    · rw [ec 0 7 (by omega) (by omega), em 4 (by omega)]; exact b2
    · rw [ec 0 8 (by omega) (by omega), em 5 (by omega)]; exact b3
    · rw [ec 0 9 (by omega) (by omega), em 6 (by omega)]; exact b4
    · rw [ec 0 10 (by omega) (by omega), em 7 (by omega)]; exact b5
    · rw [e11, e9]
    · rw [ec 19 k (by omega) (by omega), em (10 + k) (by omega)]; exact c1 k hk
    · rw [ec 17 s (by omega) (by omega), ec 18 s (by omega) (by omega), em (14 + 2 * s) (by omega), em (15 + 2 * s) (by omega)]; exact d1 s hs
    · rw [ec 2 f (by omega) (by omega), ec 3 f (by omega) (by omega), ec 4 f (by omega) (by omega), ec 5 f (by omega) (by omega), em (30 + 4 * f) (by omega), em (31 + 4 * f) (by omega), em (32 + 4 * f) (by omega), em (33 + 4 * f) (by omega)]; exact f1 f hf
    · rw [ec 8 g (by omega) (by omega), ec 9 g (by omega) (by omega), ec 10 g (by omega) (by omega), ec 11 g (by omega) (by omega), ec 12 g (by omega) (by omega), ec 13 g (by omega) (by omega), ec 14 g (by omega) (by omega), em (54 + 7 * g) (by omega), em (55 + 7 * g) (by omega), em (56 + 7 * g) (by omega), em (57 + 7 * g) (by omega), em (58 + 7 * g) (by omega), em (59 + 7 * g) (by omega), em (60 + 7 * g) (by omega)]; exact g1 g hg
    · rw [ec 15 1 (by omega) (by omega)]; exact l3
    · rw [em 8 (by omega)]; exact l4
    · rw [ec 15 2 (by omega) (by omega)]; exact l5
    · rw [ec 16 _ (by omega) (by omega), em (124 + 4 * a + k) (by omega)]; exact l6 a ha k hk
    · obtain ⟨⟨x1, x2, x3, x4, x5, x6⟩, y2, y3, y4, y5⟩ := hx
      refine ⟨⟨?_, ?_, ?_, ?_, fun g hg => ?_, fun g hg => ?_⟩, fun f hf => ?_, fun s hs => ?_, ?_, ?_⟩
      · rw [em 2 (by omega)]; exact x1
      · rw [em 4 (by omega)]; exact x2
      · rw [em 5 (by omega)]; exact x3
      · rw [em 6 (by omega)]; exact x4
      · rw [em (54 + 7 * g) (by omega), em (55 + 7 * g) (by omega), em (56 + 7 * g) (by omega)]; exact x5 g hg
      · rw [em (57 + 7 * g) (by omega), em (58 + 7 * g) (by omega), em (59 + 7 * g) (by omega), em (60 + 7 * g) (by omega)]; exact x6 g hg
      · rw [em (30 + 4 * f) (by omega), em (31 + 4 * f) (by omega), em (32 + 4 * f) (by omega), em (33 + 4 * f) (by omega)]; exact y2 f hf
      · rw [em (14 + s) (by omega)]; exact y3 s hs
      · intro i hi; rw [em i (by omega)]; exact y4 i hi
      · rw [em 3 (by omega)]; exact y5
  · rw [ec 13 k (by omega) (by omega), ec 14 k (by omega) (by omega)]; exact hbo.1 k hk
  · rw [ec 0 9 (by omega) (by omega)]; exact hbo.2
end
