/-! the class's text read: its things, and the steps over them -/
/-- the things of a text of N bytes: c of them, where they begin and end, their codes -/
def gzTkq (N c : Nat) (bt bg en : Nat → Nat) (cd : Nat → Int32) : Prop :=
  c ≤ N ∧ N ≤ 400 ∧ bg c = N ∧ cd c = -3 ∧ (∀ q, q < N → bt q < 256) ∧ (∀ q, q < bg 0 → gzKk (bt q) = 0) ∧
  ∀ j, j < c → bg j < en j ∧ en j ≤ bg (j + 1) ∧ bg (j + 1) ≤ N ∧ gzKk (bt (bg j)) ≠ 0 ∧ (gzKk (bt (bg j)) = 3 → en j = bg j + 1) ∧ (∀ q, bg j ≤ q → q < en j → gzKk (bt q) = gzKk (bt (bg j))) ∧ (gzKk (bt (bg j)) = 3 ∨ en j = N ∨ gzKk (bt (en j)) ≠ gzKk (bt (bg j))) ∧ (∀ q, en j ≤ q → q < bg (j + 1) → gzKk (bt q) = 0) ∧ cd j = gzCq bt (bg j) (en j)
/-- the class's text -/
def gzCtq (I : gzIT) (c : Nat) (bg : Nat → Nat) (cd : Nat → Int32) : Prop := I 0 33 3 = Int32.ofNat c ∧ ∀ q, q ≤ c → I 0 34 q = cd q ∧ I 0 35 q = Int32.ofNat (bg q)
/-- the class is at thing j -/
def gzCj (I : gzIT) (bg : Nat → Nat) (cd : Nat → Int32) (j : Nat) : Prop := I 0 33 4 = Int32.ofNat j ∧ I 0 33 5 = cd j ∧ I 0 33 6 = Int32.ofNat (bg j)
/-- only the class's place in the text is another -/
def gzFkq (I I' : gzIT) : Prop := ∀ t o k, ¬ (t = 0 ∧ o = 33 ∧ (k = 4 ∨ k = 5 ∨ k = 6)) → I' t o k = I t o k
theorem gzTks_tk {N c : Nat} {bt B E : Nat → Nat} (hN : N ≤ 400) (hb : ∀ q, q < N → bt q < 256) (h : gzTks (fun q => gzKk (bt q)) N c B E) : gzTkq N c bt (gzNu B c N) E (fun j => if j < c then gzCq bt (B j) (E j) else -3) := by
  obtain ⟨h1, h2, h3, h4, h5⟩ := h
  refine ⟨h1, hN, gzNu_at, if_neg (by omega), hb, fun q hq => ?_, fun j hj => ?_⟩
  · by_cases z : c = 0
    · rw [z, gzNu_at] at hq
      exact h4 z q hq
    · rw [gzNu_ne (show 0 ≠ c by omega)] at hq
      exact (h5 (by omega)).1 q hq
  · obtain ⟨a1, a2, a3, a4, a5⟩ := h2 j hj
    rw [gzNu_ne (show j ≠ c by omega)]
    by_cases z : j + 1 = c
    · have ej : c - 1 = j := by omega
      rw [z, gzNu_at]
      refine ⟨a1, a2, Nat.le_refl _, a3, a4, a5, ?_, fun q q1 q2 => (h5 (by omega)).2 q (by rw [ej]; exact q1) q2, if_pos hj⟩
      by_cases y : E j = N
      · exact Or.inr (Or.inl y)
      · refine Or.inr (Or.inr fun x => a3 ?_)
        have := (h5 (by omega)).2 (E j) (by rw [ej]; exact Nat.le_refl _) (by omega)
        exact x.symm.trans this
    · obtain ⟨b1, b2, b3⟩ := h3 j (by omega)
      obtain ⟨c1, c2, c3, -, -⟩ := h2 (j + 1) (by omega)
      rw [gzNu_ne z]
      refine ⟨a1, b1, by omega, a3, a4, a5, ?_, b3, if_pos hj⟩
      by_cases y : E j = B (j + 1)
      · rcases b2 y with x | x
        · exact Or.inl x
        · refine Or.inr (Or.inr ?_)
          rw [y]; exact x
      · refine Or.inr (Or.inr fun x => a3 ?_)
        exact x.symm.trans (b3 (E j) (Nat.le_refl _) (by omega))
section
variable {I I' I2 X M M0 : gzIT} {J : gzJT} {φ n c N : Nat} {kd bt B E bg en : Nat → Nat} {cd : Nat → Int32}
theorem gzFk_refl : gzFkq I I := fun _ _ _ _ => rfl
theorem gzFk_trans (a : gzFkq I I') (b : gzFkq I' I2) : gzFkq I I2 := fun t o k q => (b t o k q).trans (a t o k q)
theorem gzCt_fk (h : gzCtq I c bg cd) (f : gzFkq I I') : gzCtq I' c bg cd := ⟨(f 0 33 3 (by omega)).trans h.1, fun q hq => ⟨(f 0 34 q (by omega)).trans (h.2 q hq).1, (f 0 35 q (by omega)).trans (h.2 q hq).2⟩⟩
theorem c_step21 {j : Nat} (hc : c ≤ 400) (hj : j ≤ c) (h : gzCtq I c bg cd) (h4 : I 0 33 4 = Int32.ofNat j) : ∃ I', f_X7_step_21 I J = some ((), I', J) ∧ gzCj I' bg cd j ∧ gzFkq I I' := by
  obtain ⟨I1, e1⟩ : ∃ I1, I1 = gz_ui (gz_ui I 0 33 5 (cd j)) 0 33 6 (Int32.ofNat (bg j)) := ⟨_, rfl⟩
  refine ⟨I1, ?_, ⟨?_, ?_, ?_⟩, fun t o k q => ?_⟩
  · unfold f_X7_step_21
    rw [h4, if_neg (by rw [gzc_lt0 (by omega)]; exact id), if_neg (by rw [gzc_le1 (by omega) (by omega)]; omega), gzGd_in (by omega) (by omega), gzn_clamp (by omega), (h.2 j hj).1, (h.2 j hj).2, e1]
  · rw [e1]; exact ((if_neg (by omega)).trans (if_neg (by omega))).trans h4
  · rw [e1]; exact (if_neg (by omega)).trans gz_ui_s
  · rw [e1]; exact gz_ui_s
  · rw [e1]; exact (if_neg (by omega)).trans (if_neg (by omega))
theorem c_step {j : Nat} (hc : c ≤ 400) (hj : j < c) (h : gzCtq I c bg cd) (h4 : I 0 33 4 = Int32.ofNat j) : ∃ I', f_X7_step I J = some ((), I', J) ∧ gzCj I' bg cd (j + 1) ∧ gzFkq I I' := by
  obtain ⟨I1, e1⟩ : ∃ I1, I1 = gz_ui I 0 33 4 (Int32.ofNat (j + 1)) := ⟨_, rfl⟩
  have f1 : gzFkq I I1 := fun t o k q => by rw [e1]; exact if_neg (by omega)
  obtain ⟨I', a, b, f⟩ := c_step21 (J := J) (j := j + 1) hc (by omega) (gzCt_fk h f1) (by rw [e1]; exact gz_ui_s)
  refine ⟨I', ?_, b, gzFk_trans f1 f⟩
  unfold f_X7_step
  rw [h.1, h4, if_neg (by rw [gzn_le (by omega) (by omega)]; omega), gzn_succ, ← e1]
  exact a
theorem c_readL (hN : N ≤ 400) (hb : ∀ q, q < N → M0 0 32 q = Int32.ofNat (bt q) ∧ bt q < 256) (hT : gzTks (fun q => gzKk (bt q)) N c B E) (h3 : M0 0 33 3 = Int32.ofNat c) (hj : ∀ j, j < c → M0 0 35 j = Int32.ofNat (B j) ∧ M0 0 36 j = Int32.ofNat (E j)) (hφ : 500 < φ) : ∀ (m a k : Nat) (M : gzIT), a + m = c → m < k → (∀ t o j, ¬ (t = 0 ∧ o = 34) → M t o j = M0 t o j) → (∀ j, j < a → M 0 34 j = gzCq bt (B j) (E j)) → ∃ M', f_X7_read_18 φ k (Int32.ofNat N) (Int32.ofNat a) M J = some ((), M', J) ∧ gzCtq M' c (gzNu B c N) (fun j => if j < c then gzCq bt (B j) (E j) else -3) ∧ gzCj M' (gzNu B c N) (fun j => if j < c then gzCq bt (B j) (E j) else -3) 0 ∧ (∀ t o j, ¬ (t = 0 ∧ (o = 34 ∨ o = 35 ∨ (o = 33 ∧ (j = 4 ∨ j = 5 ∨ j = 6)))) → M' t o j = M0 t o j) := by
  have hc : c ≤ N := hT.1
  intro m
  induction m with
  | zero =>
    intro a k M ha hk hM h34
    obtain ⟨k, rfl⟩ : ∃ q, k = q + 1 := ⟨k - 1, by omega⟩
    have h3M : M 0 33 3 = Int32.ofNat c := (hM 0 33 3 (by omega)).trans h3
    obtain ⟨M1, e1⟩ : ∃ M1, M1 = gz_ui M 0 34 c (-3) := ⟨_, rfl⟩
    have h3M1 : M1 0 33 3 = Int32.ofNat c := by rw [e1]; exact (if_neg (by omega)).trans h3M
    obtain ⟨M2, e2⟩ : ∃ M2, M2 = gz_ui M1 0 35 c (Int32.ofNat N) := ⟨_, rfl⟩
    obtain ⟨M3, e3⟩ : ∃ M3, M3 = gz_ui M2 0 33 4 (-1) := ⟨_, rfl⟩
    obtain ⟨M4, e4⟩ : ∃ M4, M4 = gz_ui M3 0 33 4 0 := ⟨_, rfl⟩
    have r4 : ∀ t o j, ¬ (t = 0 ∧ o = 33 ∧ j = 4) → M4 t o j = M2 t o j := fun t o j q => by rw [e4, e3]; exact (if_neg q).trans (if_neg q)
    have h3M4 : M4 0 33 3 = Int32.ofNat c := (r4 0 33 3 (by omega)).trans (by rw [e2]; exact (if_neg (by omega)).trans h3M1)
    have hCt : gzCtq M4 c (gzNu B c N) (fun j => if j < c then gzCq bt (B j) (E j) else -3) := by
      refine ⟨h3M4, fun q hq => ⟨(r4 0 34 q (by omega)).trans ?_, (r4 0 35 q (by omega)).trans ?_⟩⟩
      · rw [e2, e1]
        refine (if_neg (by omega)).trans ?_
        by_cases z : q = c
        · rw [z]; exact gz_ui_s.trans (if_neg (by omega)).symm
        · exact (if_neg (by omega)).trans ((h34 q (by omega)).trans (if_pos (by omega)).symm)
      · rw [e2, e1]
        by_cases z : q = c
        · rw [z, gzNu_at]; exact gz_ui_s
        · rw [gzNu_ne z]
          exact (if_neg (by omega)).trans ((if_neg (by omega)).trans ((hM 0 35 q (by omega)).trans (hj q (by omega)).1))
    obtain ⟨M', s1, s2, s3⟩ := c_step21 (J := J) (j := 0) (I := M4) (by omega) (by omega) hCt (by rw [e4]; exact gz_ui_s)
    refine ⟨M', ?_, gzCt_fk hCt s3, s2, fun t o j q => ?_⟩
    · rw [f_X7_read_18, if_pos (by rw [h3M, gzn_le (by omega) (by omega)]; omega), h3M, gzc_write (by omega) (by omega), ← e1]
      simp only [Option.bind_some]
      rw [h3M1, gzc_write (by omega) (by omega), ← e2]
      simp only [Option.bind_some]
      rw [← e3]
      have st : f_X7_step M3 J = some ((), M', J) := by
        unfold f_X7_step
        have h33 : M3 0 33 3 = Int32.ofNat c := by rw [e3, e2]; exact (if_neg (by omega)).trans ((if_neg (by omega)).trans h3M1)
        have h34' : M3 0 33 4 = -1 := by rw [e3]; exact gz_ui_s
        rw [h33, h34', if_neg (by rw [gzc_gem1 (by omega)]; exact id), show (-1 : Int32) + 1 = 0 from rfl, ← e4]
        exact s1
      rw [st]
      rfl
    · rw [s3 t o j (by omega), r4 t o j (by omega), e2, e1]
      exact (if_neg (by omega)).trans ((if_neg (by omega)).trans (hM t o j (by omega)))
  | succ m ih =>
    intro a k M ha hk hM h34
    obtain ⟨k, rfl⟩ : ∃ q, k = q + 1 := ⟨k - 1, by omega⟩
    have h3M : M 0 33 3 = Int32.ofNat c := (hM 0 33 3 (by omega)).trans h3
    obtain ⟨j1, j2⟩ := hj a (by omega)
    obtain ⟨t1, t2, t3, t4, t5⟩ := hT.2.1 a (by omega)
    obtain ⟨M1, e1⟩ : ∃ M1, M1 = gz_ui M 0 34 a (gzCq bt (B a) (E a)) := ⟨_, rfl⟩
    obtain ⟨M', i1, i2⟩ := ih (a + 1) k M1 (by omega) (by omega) (fun t o j q => by rw [e1]; exact (if_neg (by omega)).trans (hM t o j q)) (fun j hj2 => by
      rw [e1]
      by_cases z : j = a
      · rw [z]; exact gz_ui_s
      · exact (if_neg (by omega)).trans (h34 j (by omega)))
    refine ⟨M', ?_, i2⟩
    rw [f_X7_read_18, if_neg (by rw [h3M, gzn_le (by omega) (by omega)]; omega), gzGd_in (by omega) (by omega), gzn_clamp (by omega), (hM 0 35 a (by omega)).trans j1, (hM 0 36 a (by omega)).trans j2, c_codeOf t1 t2 hN (fun q hq => ⟨(hM 0 32 q (by omega)).trans (hb q hq).1, (hb q hq).2⟩) t5 hφ]
    simp only [Option.bind_some]
    rw [gzn_succ, ← e1]
    exact i1
theorem c_readq (hN : N ≤ 400) (h31 : I 0 31 1 = Int32.ofNat N) (hb : ∀ q, q < N → I 0 32 q = Int32.ofNat (bt q) ∧ bt q < 256) (hφ : 500 < φ) : ∃ (c : Nat) (bg en : Nat → Nat) (cd : Nat → Int32) (I' : gzIT), f_X7_read φ I J = some ((), I', J) ∧ gzTkq N c bt bg en cd ∧ gzCtq I' c bg cd ∧ gzCj I' bg cd 0 ∧ I' 0 31 1 = 0 ∧ I' 0 33 7 = -1 ∧ (∀ t o k, ¬ (t = 0 ∧ (o = 33 ∨ o = 34 ∨ o = 35 ∨ o = 36 ∨ (o = 31 ∧ k = 1))) → I' t o k = I t o k) := by
  obtain ⟨I1, e1⟩ : ∃ I1, I1 = gz_ui (gz_ui I 0 31 1 0) 0 33 7 (-1) := ⟨_, rfl⟩
  obtain ⟨I2, e2⟩ : ∃ I2, I2 = gz_ui I1 0 33 3 0 := ⟨_, rfl⟩
  have r2 : ∀ t o k, ¬ (t = 0 ∧ (o = 31 ∧ k = 1 ∨ o = 33 ∧ (k = 3 ∨ k = 7))) → I2 t o k = I t o k := fun t o k q => by rw [e2, e1]; exact (if_neg (by omega)).trans ((if_neg (by omega)).trans (if_neg (by omega)))
  have hT0 : gzTks (fun q => gzKk (bt q)) 0 0 (fun _ => 0) (fun _ => 0) := ⟨by omega, fun j hj => by omega, fun j hj => by omega, fun _ q hq => by omega, fun q => by omega⟩
  obtain ⟨c, M0, B, E, k1, k2, k3, k4, k5⟩ := c_cutL (φ := φ) (I := I2) (J := J) hN (fun q hq => ⟨(r2 0 32 q (by omega)).trans (hb q hq).1, (hb q hq).2⟩) N 0 φ 0 0 I2 (fun _ => 0) (fun _ => 0) (by omega) (by omega) hT0 (fun _ => rfl) (fun q => by omega) (fun q => absurd rfl q) (fun _ _ _ _ => rfl) (by rw [e2]; exact gz_ui_s) (fun j hj => by omega)
  obtain ⟨M', m1, m2, m3, m4⟩ := c_readL (φ := φ) (J := J) (M0 := M0) hN (fun q hq => ⟨(k3 0 32 q (by omega)).trans ((r2 0 32 q (by omega)).trans (hb q hq).1), (hb q hq).2⟩) k2 k4 k5 hφ c 0 φ M0 (by omega) (by have := k2.1; omega) (fun _ _ _ _ => rfl) (fun j hj => by omega)
  refine ⟨c, gzNu B c N, E, _, M', ?_, gzTks_tk hN (fun q hq => (hb q hq).2) k2, m2, m3, ?_, ?_, fun t o k q => ?_⟩
  · unfold f_X7_read f_X6_use
    simp only [Option.bind_some]
    unfold f_X7_cut
    rw [h31, ← e1, ← e2]
    have k1' : f_X7_cut_10 φ φ (Int32.ofNat N) 0 0 I2 J = some ((), M0, J) := k1
    rw [k1']
    simp only [Option.bind_some]
    exact m1
  · rw [m4 0 31 1 (by omega), k3 0 31 1 (by omega), e2, e1]
    exact (if_neg (by omega)).trans ((if_neg (by omega)).trans gz_ui_s)
  · rw [m4 0 33 7 (by omega), k3 0 33 7 (by omega), e2, e1]
    exact (if_neg (by omega)).trans gz_ui_s
  · rw [m4 t o k (by omega), k3 t o k (by omega), r2 t o k (by omega)]
/-- where the class is: at thing j -/
def gzCa (c : Nat) (bg : Nat → Nat) (cd : Nat → Int32) (j : Nat) (I : gzIT) : Prop := j ≤ c ∧ gzCtq I c bg cd ∧ gzCj I bg cd j
theorem c_is {j : Nat} {x : Int32} (h : gzCa c bg cd j I) : f_X7_is I x = some (if cd j = x then 1 else 0) := by
  unfold f_X7_is
  rw [h.2.2.2.1]
  by_cases z : cd j = x
  · rw [if_neg (fun y => y z), if_pos z]
  · rw [if_pos z, if_neg z]
theorem c_takeY {j : Nat} {x : Int32} (hk : gzTkq N c bt bg en cd) (h : gzCa c bg cd j I) (hx : cd j = x) (h3 : x ≠ -3) : ∃ I', f_X7_take x I J = some (1, I', J) ∧ gzCa c bg cd (j + 1) I' ∧ gzFkq I I' ∧ j < c := by
  have hc : c ≤ 400 := Nat.le_trans hk.1 hk.2.1
  have hj : j < c := by
    by_cases z : j = c
    · rw [z, hk.2.2.2.1] at hx; exact absurd hx.symm h3
    · have := h.1; omega
  obtain ⟨I', a, b, f⟩ := c_step (J := J) hc hj h.2.1 h.2.2.1
  refine ⟨I', ?_, ⟨hj, gzCt_fk h.2.1 f, b⟩, f, hj⟩
  unfold f_X7_take
  rw [h.2.2.2.1, if_pos hx, a]
  rfl
theorem c_takeN {j : Nat} {x : Int32} (h : gzCa c bg cd j I) (hx : cd j ≠ x) : f_X7_take x I J = some (0, I, J) := by
  unfold f_X7_take
  rw [h.2.2.2.1, if_neg hx]
/-- wrong at the thing j -/
def gzWg (bg : Nat → Nat) (j : Nat) (I : gzIT) : gzIT := gz_ui I 0 33 7 (Int32.ofNat (bg j))
theorem c_wrong {j : Nat} (h : gzCa c bg cd j I) : f_X7_wrong I J = some (.error "java/lang/IllegalArgumentException", gzWg bg j I, J) := by
  unfold f_X7_wrong gzWg
  rw [h.2.2.2.2]
theorem c_needY {j : Nat} {x : Int32} (hk : gzTkq N c bt bg en cd) (h : gzCa c bg cd j I) (hx : cd j = x) (h3 : x ≠ -3) : ∃ I', f_X7_need x I J = some (.ok (), I', J) ∧ gzCa c bg cd (j + 1) I' ∧ gzFkq I I' ∧ j < c := by
  obtain ⟨I', a, b⟩ := c_takeY (J := J) hk h hx h3
  refine ⟨I', ?_, b⟩
  unfold f_X7_need
  rw [a]
  rfl
theorem c_needN {j : Nat} {x : Int32} (h : gzCa c bg cd j I) (hx : cd j ≠ x) : f_X7_need x I J = some (.error "java/lang/IllegalArgumentException", gzWg bg j I, J) := by
  unfold f_X7_need
  rw [c_takeN h hx]
  simp only [Option.bind_some]
  rw [if_neg (by decide), c_wrong h]
  rfl
theorem c_amongY {j a m v : Nat} (hk : gzTkq N c bt bg en cd) (h : gzCa c bg cd j I) (hx : cd j = Int32.ofNat (a + v)) (hv : v < m) (hm : a + m < 10000) : ∃ I', f_X7_among (Int32.ofNat a) (Int32.ofNat m) I J = some (.ok (Int32.ofNat v), I', J) ∧ gzCa c bg cd (j + 1) I' ∧ gzFkq I I' ∧ j < c := by
  have hc : c ≤ 400 := Nat.le_trans hk.1 hk.2.1
  have hj : j < c := by
    by_cases z : j = c
    · rw [z, hk.2.2.2.1] at hx
      have := congrArg Int32.toInt hx
      rw [gzn_int (by omega)] at this
      have h1 : (-3 : Int32).toInt = -3 := rfl
      omega
    · have := h.1; omega
  obtain ⟨I', a1, b, f⟩ := c_step (J := J) hc hj h.2.1 h.2.2.1
  refine ⟨I', ?_, ⟨hj, gzCt_fk h.2.1 f, b⟩, f, hj⟩
  unfold f_X7_among
  rw [h.2.2.2.1, hx, gzc_subs (by omega), show a + v - a = v by omega, if_neg (by rw [gzc_lt0 (by omega)]; exact id), if_pos (by rw [gzn_lt (by omega) (by omega)]; exact hv), a1]
  rfl
theorem gz_amN {x : Int32} {a m : Nat} (hm : a + m < 10000) (hx : ∀ v, v < m → x ≠ Int32.ofNat (a + v)) (h1 : ¬ x - Int32.ofNat a < 0) : ¬ x - Int32.ofNat a < Int32.ofNat m := by
  intro h2
  have h3 : 0 ≤ (x - Int32.ofNat a).toInt := by
    rw [Int32.lt_iff_toInt_lt] at h1
    have : (0 : Int32).toInt = 0 := rfl
    omega
  obtain ⟨v, hv, e⟩ := gzn_of h3
  rw [e, gzn_lt hv (by omega)] at h2
  refine hx v h2 ?_
  have : x = (x - Int32.ofNat a) + Int32.ofNat a := by simp
  rw [this, e, gzc_adds, Nat.add_comm]
theorem c_amongN {j a m : Nat} (h : gzCa c bg cd j I) (hm : a + m < 10000) (hx : ∀ v, v < m → cd j ≠ Int32.ofNat (a + v)) : f_X7_among (Int32.ofNat a) (Int32.ofNat m) I J = some (.error "java/lang/IllegalArgumentException", gzWg bg j I, J) := by
  unfold f_X7_among
  rw [h.2.2.2.1, c_wrong h]
  by_cases h1 : cd j - Int32.ofNat a < 0
  · rw [if_pos h1]; rfl
  · rw [if_neg h1, if_neg (gz_amN hm hx h1)]; rfl
end
