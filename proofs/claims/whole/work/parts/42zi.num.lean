/-! numbers of a text, both sides -/
section
variable {I I' I2 X M M0 : gzIT} {J : gzJT} {φ n c N : Nat} {kd bt B E bg en : Nat → Nat} {cd : Nat → Int32}
theorem m_numA {b e : Nat} {hi : Int32} (hN : N ≤ 400) (hb : ∀ q, q < N → bt q < 256) (heN : e ≤ N) (he : e = N ∨ gzKk (bt e) ≠ 2) (h3 : e - b ≤ 3) : ∀ (m p k v : Nat) (M : gzIT), p + m = e → m < k → b ≤ p → gzMxq M N bt → M 0 47 10 = Int32.ofNat p → M 0 47 12 = Int32.ofNat b → (∀ q, p ≤ q → q < e → gzKk (bt q) = 2) → v < 10 ^ (p - b) → ∃ M', f_X12_number_6 φ k 0 hi (Int32.ofNat v) M J = some (if e = b then -1 else if Int32.ofNat (gzNm bt p m v) ≤ hi then Int32.ofNat (gzNm bt p m v) else -1, M', J) ∧ gzMo M M' ∧ M' 0 47 10 = Int32.ofNat e ∧ M' 0 47 12 = Int32.ofNat b := by
  intro m
  induction m with
  | zero =>
    intro p k v M hp hk hbp hx h10 h12 hq hv
    obtain ⟨k, rfl⟩ : ∃ q, k = q + 1 := ⟨k - 1, by omega⟩
    have h := m_isAt (lo := 48) (hi := 57) hN hx hb h10 (by omega) (by omega) (by omega)
    rw [if_neg (fun x => by
      rcases he with y | y
      · omega
      · exact y (gz_kk2.2 (by rw [show e = p by omega]; exact x.2)))] at h
    have h' : f_X12_isAt M 48 57 = some 0 := h
    have hv3 : v < 1000 := by
      have : 10 ^ (p - b) ≤ 10 ^ 3 := Nat.pow_le_pow_right (by omega) (by omega)
      omega
    refine ⟨M, ?_, gzMo_refl, by rw [show e = p by omega]; exact h10, h12⟩
    rw [f_X12_number_6, h']
    simp only [Option.bind_some]
    rw [if_pos (by decide), h10, h12]
    show _ = some (if e = b then -1 else if Int32.ofNat v ≤ hi then Int32.ofNat v else -1, M, J)
    by_cases z : e = b
    · rw [if_pos (by rw [show p = b by omega]), if_pos z]
    · rw [if_neg (by rw [gzn_inj (by omega) (by omega)]; omega), if_neg z, gzc_subs (by omega), if_neg (by rw [gzc_lt1 (by omega) (by omega)]; omega), if_neg (by rw [gzc_lt0 (by omega)]; exact id)]
  | succ m ih =>
    intro p k v M hp hk hbp hx h10 h12 hq hv
    obtain ⟨k, rfl⟩ : ∃ q, k = q + 1 := ⟨k - 1, by omega⟩
    have h := m_isAt (lo := 48) (hi := 57) hN hx hb h10 (by omega) (by omega) (by omega)
    have hkd := gz_kk2.1 (hq p (by omega) (by omega))
    rw [if_pos ⟨by omega, hkd⟩] at h
    have h' : f_X12_isAt M 48 57 = some 1 := h
    obtain ⟨M1, e1⟩ : ∃ M1, M1 = gz_ui M 0 47 10 (Int32.ofNat (p + 1)) := ⟨_, rfl⟩
    have f1 : gzMo M M1 := fun t o k q => by rw [e1]; exact if_neg (by omega)
    obtain ⟨M', i1, i2, i3, i4⟩ := ih (p + 1) k (10 * v + (bt p - 48)) M1 (by omega) (by omega) (by omega) (gzMx_mo hx f1) (by rw [e1]; exact gz_ui_s) (by rw [e1]; exact (if_neg (by omega)).trans h12) (fun q q1 q2 => hq q (by omega) q2) (by rw [show p + 1 - b = (p - b) + 1 by omega, Nat.pow_succ]; omega)
    refine ⟨M', ?_, gzMo_trans f1 i2, i3, i4⟩
    rw [f_X12_number_6, h']
    simp only [Option.bind_some]
    rw [if_neg (by decide), h10, h12, gzc_subs (by omega), if_neg (by rw [gzc_le1 (by omega) (by omega)]; omega), gzGd_in (by omega) (by omega), gzn_clamp (by omega), (hx.2 p (by omega)).1 (by omega), gzc_mul, gzc_adds, gzc_sub (by omega), gzn_succ, ← e1, show 10 * v + bt p - 48 = 10 * v + (bt p - 48) by omega]
    exact i1
theorem m_numB {b e : Nat} {hi : Int32} (hN : N ≤ 400) (hb : ∀ q, q < N → bt q < 256) (heN : e ≤ N) (he : e = N ∨ gzKk (bt e) ≠ 2) (h3 : 3 < e - b) : ∀ (m p k : Nat) (x : Int32) (M : gzIT), p + m = e → m < k → b ≤ p → gzMxq M N bt → M 0 47 10 = Int32.ofNat p → M 0 47 12 = Int32.ofNat b → (∀ q, p ≤ q → q < e → gzKk (bt q) = 2) → ∃ M', f_X12_number_6 φ k 0 hi x M J = some (-1, M', J) ∧ gzMo M M' ∧ M' 0 47 12 = Int32.ofNat b := by
  intro m
  induction m with
  | zero =>
    intro p k x M hp hk hbp hx h10 h12 hq
    obtain ⟨k, rfl⟩ : ∃ q, k = q + 1 := ⟨k - 1, by omega⟩
    have h := m_isAt (lo := 48) (hi := 57) hN hx hb h10 (by omega) (by omega) (by omega)
    rw [if_neg (fun x => by
      rcases he with y | y
      · omega
      · exact y (gz_kk2.2 (by rw [show e = p by omega]; exact x.2)))] at h
    have h' : f_X12_isAt M 48 57 = some 0 := h
    refine ⟨M, ?_, gzMo_refl, h12⟩
    rw [f_X12_number_6, h']
    simp only [Option.bind_some]
    rw [if_pos (by decide), h10, h12, if_neg (by rw [gzn_inj (by omega) (by omega)]; omega), gzc_subs (by omega), if_pos (by rw [gzc_lt1 (by omega) (by omega)]; omega)]
  | succ m ih =>
    intro p k x M hp hk hbp hx h10 h12 hq
    obtain ⟨k, rfl⟩ : ∃ q, k = q + 1 := ⟨k - 1, by omega⟩
    have h := m_isAt (lo := 48) (hi := 57) hN hx hb h10 (by omega) (by omega) (by omega)
    rw [if_pos ⟨by omega, gz_kk2.1 (hq p (by omega) (by omega))⟩] at h
    have h' : f_X12_isAt M 48 57 = some 1 := h
    obtain ⟨M1, e1⟩ : ∃ M1, M1 = gz_ui M 0 47 10 (Int32.ofNat (p + 1)) := ⟨_, rfl⟩
    have f1 : gzMo M M1 := fun t o k q => by rw [e1]; exact if_neg (by omega)
    have go : ∀ x, ∃ M', f_X12_number_6 φ k 0 hi x M1 J = some (-1, M', J) ∧ gzMo M1 M' ∧ M' 0 47 12 = Int32.ofNat b := fun x => ih (p + 1) k x M1 (by omega) (by omega) (by omega) (gzMx_mo hx f1) (by rw [e1]; exact gz_ui_s) (by rw [e1]; exact (if_neg (by omega)).trans h12) (fun q q1 q2 => hq q (by omega) q2)
    by_cases z : 3 ≤ p - b
    · obtain ⟨M', i1, i2, i3⟩ := go x
      refine ⟨M', ?_, gzMo_trans f1 i2, i3⟩
      rw [f_X12_number_6, h']
      simp only [Option.bind_some]
      rw [if_neg (by decide), h10, h12, gzc_subs (by omega), if_pos (by rw [gzc_le1 (by omega) (by omega)]; omega), gzn_succ, ← e1]
      exact i1
    · obtain ⟨M', i1, i2, i3⟩ := go (10 * x + M 0 53 p - 48)
      refine ⟨M', ?_, gzMo_trans f1 i2, i3⟩
      rw [f_X12_number_6, h']
      simp only [Option.bind_some]
      rw [if_neg (by decide), h10, h12, gzc_subs (by omega), if_neg (by rw [gzc_le1 (by omega) (by omega)]; omega), gzGd_in (by omega) (by omega), gzn_clamp (by omega), gzn_succ, ← e1]
      exact i1
theorem gz_cdn {j v : Nat} (hk : gzTkq N c bt bg en cd) (hj : j ≤ c) (hv : v < 1000) (h : cd j = Int32.ofNat v) : j < c ∧ gzKk (bt (bg j)) = 2 ∧ en j - bg j ≤ 3 ∧ gzNm bt (bg j) (en j - bg j) 0 = v := by
  by_cases y : j < c
  · obtain ⟨b1, b2, b3, b4, -⟩ := hk.2.2.2.2.2.2 j y
    have := hk.2.2.2.2.1 (bg j) (by omega)
    rcases gzTk_cd hk y with ⟨q1, q⟩ | ⟨q1, ⟨p, q, q2⟩ | ⟨-, q⟩⟩ | ⟨-, q⟩
    · rw [q] at h
      rcases gzWf_ge (u := gzTx bt (bg j) (en j - bg j)) gzVoc 1000 with p | ⟨k2, p1, p2⟩
      · exact absurd (p.symm.trans h) (gz_n2 (by omega))
      · have := p2.symm.trans h
        rw [gzVoc_len.1] at p1
        rw [gzn_inj (by omega) (by omega)] at this
        omega
    · rw [q, gzn_inj (by omega) (by omega)] at h
      exact ⟨y, q1, p, h⟩
    · rw [q] at h; exact absurd h (gz_n2 (by omega))
    · rw [q, gzn_inj (by omega) (by omega)] at h; omega
  · rw [show j = c by omega, hk.2.2.2.1] at h
    exact absurd h (gz_n3 (by omega))
theorem m_numY {j v : Nat} {hi : Int32} (hk : gzTkq N c bt bg en cd) (h : gzMa N c bt bg j I) (hv : v < 1000) (hc : cd j = Int32.ofNat v) (hh : Int32.ofNat v ≤ hi) (hφ : 500 < φ) : ∃ I', f_X12_number φ 0 hi I J = some (Int32.ofNat v, I', J) ∧ gzMa N c bt bg (j + 1) I' ∧ gzMo I I' ∧ I' 0 47 12 = Int32.ofNat (bg j) := by
  obtain ⟨h1, h2, h3⟩ := h
  obtain ⟨I1, a1, a2, a3, a4⟩ := m_blanks (J := J) hk h2 h3 h1 hφ
  obtain ⟨l1, l2, l3, l4⟩ := gz_cdn hk h1 hv hc
  have hN := hk.2.1
  obtain ⟨b1, b2, b3, b4, b5, b6, b7, b8, b9⟩ := hk.2.2.2.2.2.2 j l1
  obtain ⟨I2, c1, c2, c3, c4⟩ := m_numA (φ := φ) (J := J) (hi := hi) hN hk.2.2.2.2.1 (show en j ≤ N by omega) (by rw [l2] at b7; rcases b7 with y | y | y <;> first | omega | exact Or.inl y | exact Or.inr y) l3 (en j - bg j) (bg j) φ 0 I1 (by omega) (by omega) (Nat.le_refl _) (gzMx_mo h2 a2) a3 a4 (fun q q1 q2 => (b6 q q1 q2).trans l2) (by rw [Nat.sub_self]; decide)
  rw [if_neg (by omega), l4, if_pos hh] at c1
  refine ⟨I2, ?_, ⟨l1, gzMx_mo h2 (gzMo_trans a2 c2), gzMp_next hk l1 c3⟩, gzMo_trans a2 c2, c4⟩
  unfold f_X12_number
  rw [a1]
  exact c1
theorem m_numN {j : Nat} {hi : Int32} (hk : gzTkq N c bt bg en cd) (h : gzMa N c bt bg j I) (hc : ∀ v, v < 1000 → Int32.ofNat v ≤ hi → cd j ≠ Int32.ofNat v) (hφ : 500 < φ) : ∃ I', f_X12_number φ 0 hi I J = some (-1, I', J) ∧ gzMo I I' ∧ I' 0 47 12 = Int32.ofNat (bg j) := by
  obtain ⟨h1, h2, h3⟩ := h
  obtain ⟨I1, a1, a2, a3, a4⟩ := m_blanks (J := J) hk h2 h3 h1 hφ
  have hN := hk.2.1
  have key : ∃ I', f_X12_number_6 φ φ 0 hi 0 I1 J = some (-1, I', J) ∧ gzMo I1 I' ∧ I' 0 47 12 = Int32.ofNat (bg j) := by
    by_cases z : j < c ∧ gzKk (bt (bg j)) = 2
    · obtain ⟨b1, b2, b3, b4, b5, b6, b7, b8, b9⟩ := hk.2.2.2.2.2.2 j z.1
      have hee : en j = N ∨ gzKk (bt (en j)) ≠ 2 := by
        rw [z.2] at b7; rcases b7 with y | y | y <;> first | omega | exact Or.inl y | exact Or.inr y
      by_cases l3 : en j - bg j ≤ 3
      · obtain ⟨I2, c1, c2, c3, c4⟩ := m_numA (φ := φ) (J := J) (hi := hi) hN hk.2.2.2.2.1 (show en j ≤ N by omega) hee l3 (en j - bg j) (bg j) φ 0 I1 (by omega) (by omega) (Nat.le_refl _) (gzMx_mo h2 a2) a3 a4 (fun q q1 q2 => (b6 q q1 q2).trans z.2) (by rw [Nat.sub_self]; decide)
        refine ⟨I2, ?_, c2, c4⟩
        rcases gzTk_cd hk z.1 with q | ⟨-, ⟨-, q, q2⟩ | ⟨q, -⟩⟩ | q
        · omega
        · rw [if_neg (by omega), if_neg (fun x => hc _ q2 x q)] at c1
          exact c1
        · omega
        · omega
      · obtain ⟨I2, c1, c2, c4⟩ := m_numB (φ := φ) (J := J) (hi := hi) hN hk.2.2.2.2.1 (show en j ≤ N by omega) hee (by omega) (en j - bg j) (bg j) φ 0 I1 (by omega) (by omega) (Nat.le_refl _) (gzMx_mo h2 a2) a3 a4 (fun q q1 q2 => (b6 q q1 q2).trans z.2)
        exact ⟨I2, c1, c2, c4⟩
    · obtain ⟨g1, g2⟩ := gzTk_bg hk h1
      obtain ⟨I2, c1, c2, c3, c4⟩ := m_numA (φ := φ) (J := J) (hi := hi) (b := bg j) (e := bg j) hN hk.2.2.2.2.1 g1 (by
        by_cases y : j < c
        · exact Or.inr (fun x => z ⟨y, x⟩)
        · rw [show j = c by omega]
          exact Or.inl hk.2.2.1) (by omega) 0 (bg j) φ 0 I1 (by omega) (by omega) (Nat.le_refl _) (gzMx_mo h2 a2) a3 a4 (fun q q1 q2 => by omega) (by rw [Nat.sub_self]; decide)
      rw [if_pos rfl] at c1
      exact ⟨I2, c1, c2, c4⟩
  obtain ⟨I2, c1, c2, c4⟩ := key
  refine ⟨I2, ?_, gzMo_trans a2 c2, c4⟩
  unfold f_X12_number
  rw [a1]
  exact c1
theorem c_numY {j n v : Nat} {x : Int32} (hk : gzTkq N c bt bg en cd) (h : gzCa c bg cd j I) (hc : cd j = Int32.ofNat v) (hv : v < n) (hn : n < 5000) (hx : x + 1 = Int32.ofNat n) : ∃ I', f_X7_number x I J = some (.ok (Int32.ofNat v), I', J) ∧ gzCa c bg cd (j + 1) I' ∧ gzFkq I I' ∧ j < c := by
  obtain ⟨I', a, b⟩ := c_amongY (J := J) (a := 0) (m := n) (v := v) hk h (by rw [Nat.zero_add]; exact hc) hv (by omega)
  refine ⟨I', ?_, b⟩
  unfold f_X7_number
  rw [hx]
  have a' : f_X7_among 0 (Int32.ofNat n) I J = some (.ok (Int32.ofNat v), I', J) := a
  rw [a']
  rfl
theorem c_numN {j n : Nat} {x : Int32} (h : gzCa c bg cd j I) (hc : ∀ v, v < n → cd j ≠ Int32.ofNat v) (hn : n < 5000) (hx : x + 1 = Int32.ofNat n) : f_X7_number x I J = some (.error "java/lang/IllegalArgumentException", gzWg bg j I, J) := by
  have a := c_amongN (J := J) (a := 0) (m := n) h (by omega) (fun v hv => by rw [Nat.zero_add]; exact hc v hv)
  unfold f_X7_number
  rw [hx]
  have a' : f_X7_among 0 (Int32.ofNat n) I J = some (.error "java/lang/IllegalArgumentException", gzWg bg j I, J) := a
  rw [a']
  rfl
end
