/-! misses, keeps, camps, mutual, twins, oldest, rota, tight -/
theorem gzR_go {I : gzIT} (h : gzR I I) : ∃ nf ng nl nx, gzTn I 0 (I 0 48) nf ng nl nx ∧ gzWx (I 0 48) nf ng nl ∧ gzVc I 0 (I 0 48) nf ng ∧ gzVb (I 0 48) nf ng ∧ ∀ v, gzVi (gz_ui I 0 47 0 v) (I 0 48) nf ng := by
  obtain ⟨nf, ng, nl, nx, h1, h2⟩ := gzR_now h
  obtain ⟨c, m, b⟩ := gzR_vi h1 h2
  exact ⟨nf, ng, nl, nx, h1, h2, c, b, fun v => gzVi_thr m⟩
theorem L_misses {I : gzIT} {J : gzJT} (p0 : Int32) (h : gzR I I) : ∃ v I2 J2, f_X11_misses 4096 I p0 = some v ∧ f_X12_misses 4096 p0 I J = some (v, I2, J2) ∧ gzR I2 I2 := by
  obtain ⟨nf, ng, nl, nx, -, -, c, b, m⟩ := gzR_go h
  refine ⟨S_miss (I 0 48) nf ng (p0 &&& Int32.ofNat (2 ^ nf - 1)), gz_ui I 0 47 0 0, J, ?_, ?_, gzR_thr h⟩
  · unfold f_X11_misses
    rw [c_miss c b (by omega)]; rfl
  · unfold f_X12_misses
    rw [m_all (m 0)]
    simp only [Option.bind_some]
    rw [m_miss (m 0) (by omega)]
    rfl
section
variable {I : gzIT} {J : gzJT} {w : Nat → Int32} {nf ng t φ : Nat}
theorem gz_full : ∀ n, n ≤ 6 → (1 : Int32) <<< (Int32.ofNat n &&& 31) = Int32.ofNat (2 ^ n) := by decide
/-- keeps: what all want, less the greatest miss -/
def S_keeps (w : Nat → Int32) (nf ng : Nat) : Int32 := gzFo (fun s i => if s < S_miss w nf ng (Int32.ofNat i) then S_miss w nf ng (Int32.ofNat i) else s) 0 (2 ^ nf) 0
theorem gz_pow6 (h : nf ≤ 6) : 0 < 2 ^ nf ∧ 2 ^ nf ≤ 64 := ⟨Nat.two_pow_pos nf, (Nat.pow_le_pow_right (n := 2) (by decide) h : 2 ^ nf ≤ 2 ^ 6)⟩
theorem c_keeps (h : gzVc I 0 w nf ng) (hb : gzVb w nf ng) : f_X11_keeps 4096 I = some (S_wants w nf (Int32.ofNat (2 ^ nf - 1)) - S_keeps w nf ng) := by
  have hp := gz_pow6 h.1.2.2.1
  unfold f_X11_keeps
  rw [h.1.1, gz_mask nf h.1.2.2.1]
  refine gz_loop (F := fun k s i => f_X11_keeps_19 4096 I k s (Int32.ofNat (2 ^ nf - 1)) i) (n := 2 ^ nf) (out := fun s => some (S_wants w nf (Int32.ofNat (2 ^ nf - 1)) - s)) ?_ ?_ (2 ^ nf) 0 4096 0 (by omega) (by omega)
  · intro k s i hi
    show f_X11_keeps_19 4096 I (k + 1) s (Int32.ofNat (2 ^ nf - 1)) (Int32.ofNat i) = f_X11_keeps_19 4096 I k _ (Int32.ofNat (2 ^ nf - 1)) (Int32.ofNat (i + 1))
    simp (disch := omega) only [f_X11_keeps_19, gzn_lt, c_missN h hb hi, gzn_succ, Option.bind_some, if_neg]
  · intro k s
    show f_X11_keeps_19 4096 I (k + 1) s (Int32.ofNat (2 ^ nf - 1)) (Int32.ofNat (2 ^ nf)) = _
    simp (disch := omega) only [f_X11_keeps_19, gzn_lt, c_wants h, Option.bind_some, if_pos]
theorem m_keeps (h : gzVi I w nf ng) : f_X12_keeps_9 4096 4096 0 0 I J = some (S_wants w nf (Int32.ofNat (2 ^ nf - 1)) - S_keeps w nf ng, I, J) := by
  have hp := gz_pow6 h.2.1.1.2.2.1
  refine gz_loop (F := fun k s i => f_X12_keeps_9 4096 k s i I J) (n := 2 ^ nf) (out := fun s => some (S_wants w nf (Int32.ofNat (2 ^ nf - 1)) - s, I, J)) ?_ ?_ (2 ^ nf) 0 4096 0 (by omega) (by omega)
  · intro k s i hi
    show f_X12_keeps_9 4096 (k + 1) s (Int32.ofNat i) I J = f_X12_keeps_9 4096 k _ (Int32.ofNat (i + 1)) I J
    simp (disch := omega) only [f_X12_keeps_9, m_all h, gzn_lt, m_miss h, gzn_succ, Option.bind_some, if_neg]
  · intro k s
    show f_X12_keeps_9 4096 (k + 1) s (Int32.ofNat (2 ^ nf)) I J = _
    simp (disch := omega) only [f_X12_keeps_9, m_all h, gzn_lt, m_wants h, Option.bind_some, if_pos]
theorem L_keeps (h : gzR I I) : ∃ v I2 J2, f_X11_keeps 4096 I = some v ∧ f_X12_keeps 4096 I J = some (v, I2, J2) ∧ gzR I2 I2 := by
  obtain ⟨nf, ng, nl, nx, -, -, c, b, m⟩ := gzR_go h
  exact ⟨_, _, _, c_keeps c b, m_keeps (m 0), gzR_thr h⟩
/-- camps: the best camp, by how many grudges lie within -/
def S_camps (w : Nat → Int32) (nf ng : Nat) : Int32 := gzFo (fun s i => if S_within w ng s ≤ S_within w ng (Int32.ofNat (2 * i + 2)) then s else Int32.ofNat (2 * i + 2)) 0 (2 ^ nf / 2 - 1) 0
theorem gz_loop2 {σ ρ : Type} {F : Nat → σ → Int32 → Option ρ} {n c : Nat} {step : σ → Nat → σ} {out : σ → Option ρ} (h1 : ∀ k s i, i < n → F (k + 1) s (Int32.ofNat (2 * i + c)) = F k (step s i) (Int32.ofNat (2 * (i + 1) + c))) (h2 : ∀ k s, F (k + 1) s (Int32.ofNat (2 * n + c)) = out s) : ∀ m i k s, i + m = n → m < k → F k s (Int32.ofNat (2 * i + c)) = out (gzFo step i m s) := by
  intro m
  induction m with
  | zero =>
    intro i k s hi hk
    obtain ⟨k, rfl⟩ : ∃ q, k = q + 1 := ⟨k - 1, by omega⟩
    rw [show i = n by omega]; exact h2 k s
  | succ m ih =>
    intro i k s hi hk
    obtain ⟨k, rfl⟩ : ∃ q, k = q + 1 := ⟨k - 1, by omega⟩
    rw [h1 k s i (by omega)]
    exact ih (i + 1) k (step s i) (by omega) (by omega)
theorem gz_pow2 : ∀ n, n ≤ 6 → 2 ^ n = 2 * (2 ^ n / 2 - 1) + 2 ∨ n = 0 := by decide
theorem c_camps {a : Int32} (h : gzVc I 0 w nf ng) (hb : gzVb w nf ng) (hφ : 100 < φ) : f_X11_camps φ I a = some (if a = 0 then S_camps w nf ng else S_within w ng (S_camps w nf ng)) := by
  have hp := gz_pow6 h.1.2.2.1
  unfold f_X11_camps
  rw [c_within h hb (by omega)]
  simp only [Option.bind_some]
  have key := gz_loop2 (c := 2) (F := fun k (s : Int32) i => f_X11_camps_17 φ I k a s (S_within w ng s) i) (n := 2 ^ nf / 2 - 1) (step := fun s i => if S_within w ng s ≤ S_within w ng (Int32.ofNat (2 * i + 2)) then s else Int32.ofNat (2 * i + 2)) (out := fun s => some (if a = 0 then s else S_within w ng s)) ?_ ?_ (2 ^ nf / 2 - 1) 0 φ 0 (by omega) (by omega)
  · exact key
  · intro k s i hi
    show f_X11_camps_17 φ I (k + 1) a s (S_within w ng s) (Int32.ofNat (2 * i + 2)) = _
    simp (disch := omega) only [f_X11_camps_17, h.1.1, gz_full nf h.1.2.2.1, gzn_le, c_within h hb, gzc_add, Option.bind_some, if_neg]
    by_cases q : S_within w ng s ≤ S_within w ng (Int32.ofNat (2 * i + 2))
    · rw [if_pos q, if_pos q]; rfl
    · rw [if_neg q, if_neg q]; rfl
  · intro k s
    show f_X11_camps_17 φ I (k + 1) a s (S_within w ng s) (Int32.ofNat (2 * (2 ^ nf / 2 - 1) + 2)) = _
    have := gz_pow2 nf h.1.2.2.1
    have hz : nf = 0 → 2 ^ nf = 1 := fun e => by rw [e]
    simp (disch := omega) only [f_X11_camps_17, h.1.1, gz_full nf h.1.2.2.1, gzn_le, if_pos]
theorem m_camps {a : Int32} (h : gzVi I w nf ng) (hφ : 100 < φ) : f_X12_camps_9 φ φ a 0 2 I J = some (if a = 0 then S_camps w nf ng else S_within w ng (S_camps w nf ng), I, J) := by
  have hp := gz_pow6 h.2.1.1.2.2.1
  have key := gz_loop2 (c := 2) (F := fun k (s : Int32) i => f_X12_camps_9 φ k a s i I J) (n := 2 ^ nf / 2 - 1) (step := fun s i => if S_within w ng s ≤ S_within w ng (Int32.ofNat (2 * i + 2)) then s else Int32.ofNat (2 * i + 2)) (out := fun s => some (if a = 0 then s else S_within w ng s, I, J)) ?_ ?_ (2 ^ nf / 2 - 1) 0 φ 0 (by omega) (by omega)
  · exact key
  · intro k s i hi
    show f_X12_camps_9 φ (k + 1) a s (Int32.ofNat (2 * i + 2)) I J = _
    simp (disch := omega) only [f_X12_camps_9, m_all h, gzn_lt, m_within h, gzc_add, Option.bind_some, if_neg]
    rfl
  · intro k s
    show f_X12_camps_9 φ (k + 1) a s (Int32.ofNat (2 * (2 ^ nf / 2 - 1) + 2)) I J = _
    have := gz_pow2 nf h.2.1.1.2.2.1
    have hz : nf = 0 → 2 ^ nf = 1 := fun e => by rw [e]
    simp (disch := omega) only [f_X12_camps_9, m_all h, gzn_lt, m_within h, Option.bind_some, if_pos]
    by_cases q : a = 0
    · rw [if_pos q, if_pos q]
    · rw [if_neg q, if_neg q]
theorem L_camps (p0 : Int32) (h : gzR I I) : ∃ v I2 J2, f_X11_camps 4096 I p0 = some v ∧ f_X12_camps 4096 p0 I J = some (v, I2, J2) ∧ gzR I2 I2 := by
  obtain ⟨nf, ng, nl, nx, -, -, c, b, m⟩ := gzR_go h
  exact ⟨_, _, _, c_camps c b (by omega), m_camps (m 0) (by omega), gzR_thr h⟩
end
