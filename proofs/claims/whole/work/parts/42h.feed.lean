/-! feed -/
section
variable {I X Z : gzIT} {J : gzJT} {n φ : Nat} {a : Nat → Int32}
def gzPw (I : gzIT) (n : Nat) (a : Nat → Int32) (m : Nat) : gzIT := fun t o k => if t = 0 ∧ o = 31 ∧ k = 1 then Int32.ofNat (n + m) else if t = 0 ∧ o = 32 ∧ n ≤ k ∧ k < n + m then gzFC (a ((k - n) / 4)) (Int32.ofNat (24 - 8 * ((k - n) % 4))) else I t o k
theorem gzPw_1 {m : Nat} : gzPw I n a m 0 31 1 = Int32.ofNat (n + m) := if_pos ⟨rfl, rfl, rfl⟩
theorem gzPw_0 (h : I 0 31 1 = Int32.ofNat n) : gzPw I n a 0 = I := by
  funext t o k
  unfold gzPw
  by_cases e : t = 0 ∧ o = 31 ∧ k = 1
  · rw [if_pos e, e.1, e.2.1, e.2.2, h]; rfl
  · rw [if_neg e, if_neg (by omega)]
theorem gzPw_s {m : Nat} : gz_ui (gz_ui (gzPw I n a m) 0 32 (n + m) (gzFC (a (m / 4)) (Int32.ofNat (24 - 8 * (m % 4))))) 0 31 1 (Int32.ofNat (n + m + 1)) = gzPw I n a (m + 1) := by
  funext t o k
  unfold gz_ui gzPw
  by_cases e : t = 0 ∧ o = 31 ∧ k = 1
  · rw [if_pos e, if_pos e]; rfl
  · rw [if_neg e, if_neg e]
    by_cases e2 : t = 0 ∧ o = 32 ∧ k = n + m
    · rw [if_pos e2, if_neg e, if_pos (by omega), show k - n = m by omega]
    · rw [if_neg e2, if_neg e]
      by_cases e3 : t = 0 ∧ o = 32 ∧ n ≤ k ∧ k < n + m
      · rw [if_pos e3, if_pos (by omega)]
      · rw [if_neg e3, if_neg (by omega)]
theorem c_put1 {m k : Nat} (hm : n + m < 400) : f_X6_put_3 φ (k + 1) (a (m / 4)) (Int32.ofNat (24 - 8 * (m % 4))) (gzPw I n a m) J = f_X6_put_3 φ k (a (m / 4)) (Int32.ofNat (24 - 8 * (m % 4)) + (-8)) (gzPw I n a (m + 1)) J := by
  rw [f_X6_put_3, if_neg (by rw [gzc_lt0 (by omega)]; exact id), gzPw_1, if_neg (by rw [gzc_le1 (by omega) (by omega)]; omega), gzGd_in hm (by omega), gzn_clamp (by omega), gzn_succ, ← gzPw_s]
  rfl
theorem c_put {q : Nat} (hq : n + (4 * q + 4) ≤ 400) (hφ : 10 < φ) : f_X6_put φ (a q) (gzPw I n a (4 * q)) J = some ((), gzPw I n a (4 * q + 4), J) := by
  unfold f_X6_put
  obtain ⟨k, hk⟩ : ∃ k, φ = k + 5 := ⟨φ - 5, by omega⟩
  have s0 := c_put1 (I := I) (J := J) (n := n) (a := a) (φ := φ) (m := 4 * q) (k := k + 4) (by omega)
  have s1 := c_put1 (I := I) (J := J) (n := n) (a := a) (φ := φ) (m := 4 * q + 1) (k := k + 3) (by omega)
  have s2 := c_put1 (I := I) (J := J) (n := n) (a := a) (φ := φ) (m := 4 * q + 2) (k := k + 2) (by omega)
  have s3 := c_put1 (I := I) (J := J) (n := n) (a := a) (φ := φ) (m := 4 * q + 3) (k := k + 1) (by omega)
  rw [show 4 * q / 4 = q by omega, show 4 * q % 4 = 0 by omega] at s0
  rw [show (4 * q + 1) / 4 = q by omega, show (4 * q + 1) % 4 = 1 by omega] at s1
  rw [show (4 * q + 2) / 4 = q by omega, show (4 * q + 2) % 4 = 2 by omega] at s2
  rw [show (4 * q + 3) / 4 = q by omega, show (4 * q + 3) % 4 = 3 by omega] at s3
  rw [show f_X6_put_3 φ φ (a q) 24 (gzPw I n a (4 * q)) J = f_X6_put_3 φ (k + 4 + 1) (a q) (Int32.ofNat (24 - 8 * 0)) (gzPw I n a (4 * q)) J by rw [← hk]; rfl]
  rw [s0, show Int32.ofNat (24 - 8 * 0) + (-8) = Int32.ofNat (24 - 8 * 1) from rfl, s1, show Int32.ofNat (24 - 8 * 1) + (-8) = Int32.ofNat (24 - 8 * 2) from rfl, s2, show Int32.ofNat (24 - 8 * 2) + (-8) = Int32.ofNat (24 - 8 * 3) from rfl, s3]
  rw [f_X6_put_3, if_pos (by decide)]
def gzFd (Z : gzIT) (n : Nat) (a : Nat → Int32) (m : Nat) : gzIT := fun t o k => if t = 0 ∧ o = 53 ∧ n ≤ k ∧ k < n + m then gzFM (a ((k - n) / 4)) (24 - 8 * ((k - n) % 4)) else Z t o k
theorem gzFd_s {m : Nat} : gz_ui (gzFd Z n a m) 0 53 (n + m) (gzFM (a (m / 4)) (24 - 8 * (m % 4))) = gzFd Z n a (m + 1) := by
  funext t o k
  unfold gz_ui gzFd
  by_cases e2 : t = 0 ∧ o = 53 ∧ k = n + m
  · rw [if_pos e2, if_pos (by omega), show k - n = m by omega]
  · rw [if_neg e2]
    by_cases e3 : t = 0 ∧ o = 53 ∧ n ≤ k ∧ k < n + m
    · rw [if_pos e3, if_pos (by omega)]
    · rw [if_neg e3, if_neg (by omega)]
theorem m_feed (h9 : Z 0 47 9 = Int32.ofNat n) (hn : n + 20 ≤ 400) (ha : ∀ q, q < 5 → Z 0 54 q = a q) (hφ : 50 < φ) : f_X12_feed_60 φ φ 0 Z J = some (Int32.ofNat n + 20, gz_ui (gzFd Z n a 20) 0 47 9 (Int32.ofNat n + 20), J) := by
  have e0 : Z = gzFd Z n a 0 := by
    funext t o k
    exact (if_neg (by omega)).symm
  have loop : ∀ m i k, i + m = 20 → m < k → f_X12_feed_60 φ k (Int32.ofNat i) (gzFd Z n a i) J = some (Int32.ofNat n + 20, gz_ui (gzFd Z n a 20) 0 47 9 (Int32.ofNat n + 20), J) := by
    intro m
    induction m with
    | zero =>
      intro i k hi hk
      obtain ⟨k, rfl⟩ : ∃ q, k = q + 1 := ⟨k - 1, by omega⟩
      have e9 : gzFd Z n a i 0 47 9 = Int32.ofNat n := (if_neg (by omega)).trans h9
      rw [f_X12_feed_60, if_pos (by rw [gzc_le1 (by omega) (by omega)]; omega), e9, show i = 20 by omega]
    | succ m ih =>
      intro i k hi hk
      obtain ⟨k, rfl⟩ : ∃ q, k = q + 1 := ⟨k - 1, by omega⟩
      have e9 : gzFd Z n a i 0 47 9 = Int32.ofNat n := (if_neg (by omega)).trans h9
      have e54 : gzFd Z n a i 0 54 (i / 4) = a (i / 4) := (if_neg (by omega)).trans (ha _ (by omega))
      rw [f_X12_feed_60, if_neg (by rw [gzc_le1 (by omega) (by omega)]; omega), e9, gzc_div (by omega) (by omega), gzGd_in (show i / 4 < 5 by omega) (by omega), gzc_adds, gzGd_in (show n + i < 400 by omega) (by omega), gzn_clamp (show i / 4 < 2 ^ 31 by omega), gzn_clamp (show n + i < 2 ^ 31 by omega), e54, gzn_succ, gzc_mul', gzc_subs (by omega), gzc_mul, show (24 : Int32) = Int32.ofNat 24 from rfl, gzc_subs (show 8 * (i - i / 4 * 4) ≤ 24 by omega)]
      rw [← ih (i + 1) k (by omega) (by omega), ← gzFd_s, show 24 - 8 * (i % 4) = 24 - 8 * (i - i / 4 * 4) by omega]
      rfl
  have := loop 20 0 φ (by omega) (by omega)
  rw [← e0] at this
  exact this
theorem L_feed {I : gzIT} {J : gzJT} (p0 p1 p2 p3 p4 : Int32) (h : gzR I I) : ∃ v I1 I2 J2, f_X11_feed 4096 p0 p1 p2 p3 p4 I J = some (v, I1, J) ∧ f_X12_feed 4096 p0 p1 p2 p3 p4 I1 J = some (v, I2, J2) ∧ gzR I2 I2 := by
  obtain ⟨w0, v0, -, -, -, -, -, -, ⟨n, hn, hc, hm, hby⟩, -⟩ := id h
  obtain ⟨φ, hφ⟩ : ∃ φ, φ = 4096 := ⟨_, rfl⟩
  rw [← hφ]
  by_cases hq : n + 20 ≤ 400
  · obtain ⟨a, e⟩ : ∃ a : Nat → Int32, a 0 = p0 ∧ a 1 = p1 ∧ a 2 = p2 ∧ a 3 = p3 ∧ a 4 = p4 := ⟨fun i => if i = 0 then p0 else if i = 1 then p1 else if i = 2 then p2 else if i = 3 then p3 else p4, rfl, rfl, rfl, rfl, rfl⟩
    obtain ⟨q0, q1, q2, q3, q4⟩ := e
    obtain ⟨P, eP⟩ : ∃ P, P = gzPw I n a 20 := ⟨_, rfl⟩
    have P9 : P 0 47 9 = Int32.ofNat n := by rw [eP]; exact (if_neg (by omega)).trans ((if_neg (by omega)).trans hm)
    obtain ⟨Z, eZ⟩ : ∃ Z, Z = gz_ui (gz_ui (gz_ui (gz_ui (gz_ui (gz_ui P 0 47 0 0) 0 54 0 p0) 0 54 1 p1) 0 54 2 p2) 0 54 3 p3) 0 54 4 p4 := ⟨_, rfl⟩
    have Zo : ∀ t o k, o ≠ 54 → ¬ (t = 0 ∧ o = 47 ∧ k = 0) → Z t o k = P t o k := fun t o k x y => by
      rw [eZ]
      exact (if_neg (by omega)).trans ((if_neg (by omega)).trans ((if_neg (by omega)).trans ((if_neg (by omega)).trans ((if_neg (by omega)).trans (if_neg y)))))
    have Za : ∀ q, q < 5 → Z 0 54 q = a q := fun q hq => by
      rw [eZ]
      unfold gz_ui
      rcases (show q = 0 ∨ q = 1 ∨ q = 2 ∨ q = 3 ∨ q = 4 by omega) with rfl | rfl | rfl | rfl | rfl <;> simp [q0, q1, q2, q3, q4]
    refine ⟨Int32.ofNat n + 20, P, gz_ui (gzFd Z n a 20) 0 47 9 (Int32.ofNat n + 20), J, ?_, ?_, ?_⟩
    · unfold f_X11_feed
      rw [hc, gzc_add, if_pos (by rw [gzc_le2 (by omega) (by omega)]; exact hq)]
      have c0 := c_put (I := I) (J := J) (n := n) (a := a) (φ := φ) (q := 0) (by omega) (by omega)
      have c1 := c_put (I := I) (J := J) (n := n) (a := a) (φ := φ) (q := 1) (by omega) (by omega)
      have c2 := c_put (I := I) (J := J) (n := n) (a := a) (φ := φ) (q := 2) (by omega) (by omega)
      have c3 := c_put (I := I) (J := J) (n := n) (a := a) (φ := φ) (q := 3) (by omega) (by omega)
      have c4 := c_put (I := I) (J := J) (n := n) (a := a) (φ := φ) (q := 4) (by omega) (by omega)
      rw [show 4 * 0 = 0 from rfl, gzPw_0 hc, q0] at c0
      rw [q1] at c1
      rw [q2] at c2
      rw [q3] at c3
      rw [q4] at c4
      rw [c0, Option.bind_some, c1, Option.bind_some, c2, Option.bind_some, c3, Option.bind_some, c4, Option.bind_some, eP]
      show some (gzPw I n a 20 0 31 1, gzPw I n a 20, J) = _
      rw [gzPw_1]
    · unfold f_X12_feed
      rw [P9, if_pos (by rw [gzc_add, gzc_le2 (by omega) (by omega)]; exact hq), ← eZ]
      exact m_feed ((Zo 0 47 9 (by omega) (by omega)).trans P9) hq Za (by omega)
    · have o1 : ∀ t o k, ¬ (t = 0 ∧ o = 47 ∧ (k = 9 ∨ k = 0)) → ¬ (o = 53) → ¬ (o = 54) → ¬ (o = 31 ∨ o = 32) → gz_ui (gzFd Z n a 20) 0 47 9 (Int32.ofNat n + 20) t o k = I t o k := fun t o k x y z u => by
        refine (if_neg (by omega)).trans ((if_neg (by omega)).trans ((Zo t o k z (by omega)).trans ?_))
        rw [eP]
        exact (if_neg (by omega)).trans (if_neg (by omega))
      refine gzR_tape h (fun t o k x y z => o1 t o k (fun q => x (by unfold gzCs gzMw; omega)) (by omega) (fun q => x (by unfold gzCs gzMw; omega)) (by omega)) ⟨n + 20, hq, ?_, ?_, fun i hi => ?_⟩
      · refine (if_neg (by omega)).trans ((if_neg (by omega)).trans ((Zo 0 31 1 (by omega) (by omega)).trans ?_))
        rw [eP]; exact gzPw_1
      · exact gz_ui_s.trans gzc_add
      · have e32 : gz_ui (gzFd Z n a 20) 0 47 9 (Int32.ofNat n + 20) 0 32 i = P 0 32 i := (if_neg (by omega)).trans ((if_neg (by omega)).trans (Zo 0 32 i (by omega) (by omega)))
        have e53 : gz_ui (gzFd Z n a 20) 0 47 9 (Int32.ofNat n + 20) 0 53 i = gzFd Z n a 20 0 53 i := if_neg (by omega)
        rw [e32, e53]
        by_cases hin : n ≤ i
        · have x1 : P 0 32 i = gzFC (a ((i - n) / 4)) (Int32.ofNat (24 - 8 * ((i - n) % 4))) := by
            rw [eP]; exact (if_neg (by omega)).trans (if_pos ⟨rfl, rfl, hin, hi⟩)
          have x2 : gzFd Z n a 20 0 53 i = gzFM (a ((i - n) / 4)) (24 - 8 * ((i - n) % 4)) := if_pos ⟨rfl, rfl, hin, hi⟩
          rw [x1, x2]
          exact ⟨gz_fbyte (by omega), gzFM_same⟩
        · have x1 : P 0 32 i = I 0 32 i := by
            rw [eP]; exact (if_neg (by omega)).trans (if_neg (by omega))
          have x2 : gzFd Z n a 20 0 53 i = I 0 53 i := by
            refine (if_neg (by omega)).trans ((Zo 0 53 i (by omega) (by omega)).trans ?_)
            rw [eP]; exact (if_neg (by omega)).trans (if_neg (by omega))
          rw [x1, x2]
          exact hby i (by omega)
  · refine ⟨-1, I, gz_ui I 0 47 0 0, J, ?_, ?_, gzR_thr h⟩
    · unfold f_X11_feed
      rw [hc, gzc_add, if_neg (by rw [gzc_le2 (by omega) (by omega)]; exact hq)]
    · unfold f_X12_feed
      rw [hm, gzc_add, if_neg (by rw [gzc_le2 (by omega) (by omega)]; exact hq)]
end
