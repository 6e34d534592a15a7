/-! odds -/
def gzPwr (x : Int64) (n : Nat) : Int64 := gzFo (fun s _ => s * x) 0 n 1
def gzWy (p q : Int64) : Nat → Nat → Int64
  | 0, i => if i = 0 then 1 else 0
  | n + 1, i => gzWy p q n i * q + (if i = 0 then 0 else gzWy p q n (i - 1) * p)
def gzChs : Nat → Nat → Nat
  | _, 0 => 1
  | 0, _ + 1 => 0
  | n + 1, k + 1 => gzChs n k + gzChs n (k + 1)
section
variable {I I' I2 X : gzIT} {J : gzJT} {w w2 : Nat → Int32} {nf ng nl nx t t1 φ : Nat}
theorem gzPwr_s {x : Int64} {n : Nat} : gzPwr x (n + 1) = gzPwr x n * x := gzFo_last n 0 1
theorem gzChs_0 : ∀ n k, n < k → gzChs n k = 0 := by
  intro n
  induction n with
  | zero =>
    intro k h
    obtain ⟨k, rfl⟩ : ∃ q, k = q + 1 := ⟨k - 1, by omega⟩
    rfl
  | succ n ih =>
    intro k h
    obtain ⟨k, rfl⟩ : ∃ q, k = q + 1 := ⟨k - 1, by omega⟩
    show gzChs n k + gzChs n (k + 1) = 0
    rw [ih k (by omega), ih (k + 1) (by omega)]
theorem gz64_xy {a b c q : Int64} : a * b * c * q = a * b * (c * q) := Int64.mul_assoc _ _ _
theorem gz64_xz {a b c p : Int64} : a * b * c * p = a * (b * p) * c := by
  rw [Int64.mul_assoc (a * b) c p, Int64.mul_comm c p, ← Int64.mul_assoc (a * b) p c, Int64.mul_assoc a b p]
theorem gzWy_eq {p q : Int64} : ∀ n i, gzWy p q n i = if i ≤ n then Int64.ofNat (gzChs n i) * gzPwr p i * gzPwr q (n - i) else 0 := by
  intro n
  induction n with
  | zero =>
    intro i
    cases i with
    | zero => rfl
    | succ i => rw [if_neg (by omega)]; rfl
  | succ n ih =>
    intro i
    show gzWy p q n i * q + (if i = 0 then 0 else gzWy p q n (i - 1) * p) = _
    cases i with
    | zero =>
      have e1 : gzChs n 0 = 1 := by cases n <;> rfl
      have e2 : gzChs (n + 1) 0 = 1 := rfl
      rw [ih 0, if_pos (Nat.zero_le _), if_pos rfl, if_pos (Nat.zero_le _), Int64.add_zero, gz64_xy, Nat.sub_zero, Nat.sub_zero, ← gzPwr_s, e1, e2]
    | succ i =>
      rw [if_neg (by omega), Nat.add_sub_cancel, ih (i + 1), ih i]
      by_cases h : i + 1 ≤ n
      · rw [if_pos h, if_pos (by omega), if_pos (by omega), gz64_xy, ← gzPwr_s, show n - (i + 1) + 1 = n + 1 - (i + 1) by omega, gz64_xz, ← gzPwr_s, show n - i = n + 1 - (i + 1) by omega]
        show _ = Int64.ofNat (gzChs n i + gzChs n (i + 1)) * _ * _
        rw [Int64.ofNat_add, Int64.add_mul, Int64.add_mul, Int64.add_comm]
      · by_cases h2 : i = n
        · subst h2
          rw [if_neg h, if_pos (Nat.le_refl _), if_pos (Nat.le_refl _), Int64.zero_mul, Int64.zero_add, gz64_xz, ← gzPwr_s, show i - i = i + 1 - (i + 1) by omega]
          show _ = Int64.ofNat (gzChs i i + gzChs i (i + 1)) * _ * _
          rw [gzChs_0 i (i + 1) (by omega)]
          rfl
        · rw [if_neg h, if_neg (by omega), if_neg (by omega), Int64.zero_mul, Int64.zero_mul, Int64.add_zero]
theorem gzFo_add {σ : Type} {f : σ → Nat → σ} : ∀ (a i b : Nat) (s : σ), gzFo f i (a + b) s = gzFo f (i + a) b (gzFo f i a s) := by
  intro a
  induction a with
  | zero => intro i b s; rw [Nat.zero_add]; rfl
  | succ a ih =>
    intro i b s
    rw [show a + 1 + b = (a + b) + 1 by omega]
    show gzFo f (i + 1) (a + b) (f s i) = gzFo f (i + (a + 1)) b (gzFo f (i + 1) a (f s i))
    rw [ih (i + 1) b, show i + 1 + a = i + (a + 1) by omega]
theorem gzFo_id {σ : Type} {f : σ → Nat → σ} : ∀ (m i : Nat) (s : σ), (∀ s j, i ≤ j → j < i + m → f s j = s) → gzFo f i m s = s := by
  intro m
  induction m with
  | zero => intro i s _; rfl
  | succ m ih =>
    intro i s h
    show gzFo f (i + 1) m (f s i) = s
    rw [h s i (by omega) (by omega)]
    exact ih (i + 1) s fun s j a b => h s j (by omega) (by omega)
def gzOdd (p q : Int64) (n k : Nat) : Int64 := gzFo (fun s j => s + gzWy p q n j) k (7 - k) 0
theorem c_power {x : Int64} {n : Nat} (hn : n < 100) (hφ : 200 < φ) : f_X11_power φ x (Int32.ofNat n) = some (gzPwr x n) := by
  unfold f_X11_power
  refine gz_loop (F := fun k s i => f_X11_power_5 φ k x (Int32.ofNat n) s i) (n := n) (step := fun s _ => s * x) (out := some) ?_ ?_ n 0 φ 1 (by omega) (by omega)
  · intro k s i hi
    show f_X11_power_5 φ (k + 1) x (Int32.ofNat n) s (Int32.ofNat i) = f_X11_power_5 φ k x (Int32.ofNat n) (s * x) (Int32.ofNat (i + 1))
    rw [f_X11_power_5, if_neg (by rw [gzn_le (by omega) (by omega)]; omega), gzn_succ]
  · intro k s
    show f_X11_power_5 φ (k + 1) x (Int32.ofNat n) s (Int32.ofNat n) = some s
    rw [f_X11_power_5, if_pos (by rw [gzn_le (by omega) (by omega)]; omega)]
theorem gz_chd : ∀ n, n < 7 → ∀ j, j < n + 1 → (Int64.ofNat (gzChs n j) * (Int32.ofNat (n - j)).toInt64) / (Int32.ofNat (j + 1)).toInt64 = Int64.ofNat (gzChs n (j + 1)) ∧ ¬ (Int32.ofNat (j + 1)).toInt64 = 0 := by decide +kernel
theorem gz_pw100 : ∀ n, n < 7 → ¬ gzPwr 100 n = 0 ∧ 0 < lg_cmp (gzPwr 100 n) 0 := by decide +kernel
theorem gzGm_in {α : Type} {i : Int64} {x : Option α} (h : ¬ i = 0) : gzGm i x = x := if_neg h
theorem c_odds41 {n c : Nat} {g : Int64} (hn : n < 7) (hc : c < 7) (hg : ¬ g = 0) (hφ : 300 < φ) : f_X11_odds_41 φ φ (Int32.ofNat n) (Int32.ofNat c) g 0 1 0 I J = some (.ok ((gzOdd ((I 0 0 10).toInt64) ((100 - I 0 0 10).toInt64) n c * 10000) / g).toInt32, I, J) := by
  have key := gz_loop (F := fun k (s : Int64) i => f_X11_odds_41 φ k (Int32.ofNat n) (Int32.ofNat c) g s (Int64.ofNat (gzChs n i.toNatClampNeg)) i I J) (n := n + 1) (step := fun s j => if j < c then s else s + gzWy ((I 0 0 10).toInt64) ((100 - I 0 0 10).toInt64) n j) (out := fun s => (some (Except.ok ((s * 10000) / g).toInt32, I, J) : Option ((Except String Int32) × gzIT × gzJT))) ?_ ?_ (n + 1) 0 φ 0 (by omega) (by omega)
  · have e0 : gzChs n 0 = 1 := by cases n <;> rfl
    have ez : (Int32.ofNat 0).toNatClampNeg = 0 := rfl
    simp only [ez, e0] at key
    refine (show f_X11_odds_41 φ φ (Int32.ofNat n) (Int32.ofNat c) g 0 1 0 I J = _ from key).trans ?_
    refine congrArg (fun s : Int64 => (some (Except.ok ((s * 10000) / g).toInt32, I, J) : Option ((Except String Int32) × gzIT × gzJT))) ?_
    have e7 : gzFo (fun s j => if j < c then s else s + gzWy ((I 0 0 10).toInt64) ((100 - I 0 0 10).toInt64) n j) 0 (n + 1) 0 = gzFo (fun s j => if j < c then s else s + gzWy ((I 0 0 10).toInt64) ((100 - I 0 0 10).toInt64) n j) 0 7 0 := by
      rw [show (7 : Nat) = (n + 1) + (6 - n) by omega, gzFo_add (n + 1) 0 (6 - n)]
      refine (gzFo_id _ _ _ fun s j h1 h2 => ?_).symm
      rw [gzWy_eq, if_neg (show ¬ j ≤ n by omega), Int64.add_zero]
      split <;> rfl
    rw [e7, show 7 = c + (7 - c) by omega, gzFo_add, gzFo_id c 0 0 (fun s j h1 h2 => if_pos (by omega))]
    unfold gzOdd
    rw [show 0 + c = c by omega, show 7 - c = c + (7 - c) - c by omega]
    refine gzFo_congr _ _ _ fun s j h1 h2 => if_neg (by omega)
  · intro k s j hj
    have hd := gz_chd n hn j hj
    show f_X11_odds_41 φ (k + 1) (Int32.ofNat n) (Int32.ofNat c) g s (Int64.ofNat (gzChs n (Int32.ofNat j).toNatClampNeg)) (Int32.ofNat j) I J = f_X11_odds_41 φ k (Int32.ofNat n) (Int32.ofNat c) g (if j < c then s else s + gzWy ((I 0 0 10).toInt64) ((100 - I 0 0 10).toInt64) n j) (Int64.ofNat (gzChs n (Int32.ofNat (j + 1)).toNatClampNeg)) (Int32.ofNat (j + 1)) I J
    rw [gzn_clamp (by omega), gzn_clamp (by omega), f_X11_odds_41, if_neg (by rw [gzn_lt (by omega) (by omega)]; omega), gzc_subs (by omega), gzn_succ]
    by_cases q : j < c
    · rw [if_pos (by rw [gzn_lt (by omega) (by omega)]; exact q), if_pos q, gzGm_in hd.2, hd.1]
    · rw [if_neg (by rw [gzn_lt (by omega) (by omega)]; exact q), if_neg q, c_power (by omega) (by omega), c_power (by omega) (by omega)]
      simp only [Option.bind_some]
      rw [gzGm_in hd.2, hd.1, gzWy_eq, if_pos (show j ≤ n by omega)]
  · intro k s
    show f_X11_odds_41 φ (k + 1) (Int32.ofNat n) (Int32.ofNat c) g s (Int64.ofNat (gzChs n (Int32.ofNat (n + 1)).toNatClampNeg)) (Int32.ofNat (n + 1)) I J = _
    rw [f_X11_odds_41, if_pos (by rw [gzn_lt (by omega) (by omega)]; omega), gzGm_in hg]
/-- the model's ways -/
def gzWj (J : gzJT) (s : Nat → Int64) : gzJT := fun t x k => if t = 0 ∧ x = 58 ∧ k < 7 then s k else J t x k
def gzUj (s : Nat → Int64) (a : Nat) (v : Int64) : Nat → Int64 := fun j => if j = a then v else s j
theorem gzWj_at {k : Nat} {s : Nat → Int64} (hk : k < 7) : gzWj J s 0 58 k = s k := if_pos ⟨rfl, rfl, hk⟩
theorem gzWj_self : gzWj J (J 0 58) = J := by
  funext t x k
  unfold gzWj
  by_cases e : t = 0 ∧ x = 58 ∧ k < 7
  · rw [if_pos e, e.1, e.2.1]
  · rw [if_neg e]
theorem gzWj_u {a : Nat} {s : Nat → Int64} {v : Int64} (ha : a < 7) : gz_uj (gzWj J s) 0 58 a v = gzWj J (gzUj s a v) := by
  funext t x k
  unfold gz_uj gzWj gzUj
  by_cases e : t = 0 ∧ x = 58 ∧ k = a
  · rw [if_pos e, if_pos (by omega), if_pos e.2.2]
  · rw [if_neg e]
    by_cases e2 : t = 0 ∧ x = 58 ∧ k < 7
    · rw [if_pos e2, if_pos e2, if_neg (by omega)]
    · rw [if_neg e2, if_neg e2]
theorem gzWj_congr {s s' : Nat → Int64} (h : ∀ k, k < 7 → s k = s' k) : gzWj J s = gzWj J s' := by
  funext t x k
  unfold gzWj
  by_cases e : t = 0 ∧ x = 58 ∧ k < 7
  · rw [if_pos e, if_pos e, h k e.2.2]
  · rw [if_neg e, if_neg e]
def gzWs (p q : Int64) (s : Nat → Int64) (m : Nat) : Nat → Int64 := fun j => if j < m then s j * q + (if j = 0 then 0 else s (j - 1) * p) else s j
theorem m_odds88 {K : Int32 → Int32 → Int64 → Int32 → gzIT → gzJT → Option (Int32 × gzIT × gzJT)} {x1 x2 x5 : Int32} {x3 : Int64} : ∀ (m k : Nat) (s : Nat → Int64), m ≤ 7 → m < k → f_X12_odds_88 φ K k x1 x2 x3 x5 (Int32.ofNat m - 1) I (gzWj J s) = K x1 x2 (x3 * 100) (x5 + 1) I (gzWj J (gzWs ((I 0 48 7).toInt64) ((100 - I 0 48 7).toInt64) s m)) := by
  intro m
  induction m with
  | zero =>
    intro k s h1 h2
    obtain ⟨k, rfl⟩ : ∃ q, k = q + 1 := ⟨k - 1, by omega⟩
    rw [f_X12_odds_88, if_pos (by decide)]
    refine congrArg (fun s => K x1 x2 (x3 * 100) (x5 + 1) I (gzWj J s)) (funext fun j => ?_)
    exact (if_neg (by omega)).symm
  | succ m ih =>
    intro k s h1 h2
    obtain ⟨k, rfl⟩ : ∃ q, k = q + 1 := ⟨k - 1, by omega⟩
    rw [gzc_sub (k := 1) (show 1 ≤ m + 1 by omega), show m + 1 - 1 = m by omega]
    rw [f_X12_odds_88, if_neg (by rw [gzc_lt0 (by omega)]; exact id), gzGd_in (by omega) (by omega), gz_subm, gzn_clamp (by omega), gzWj_at (by omega)]
    by_cases e : m = 0
    · subst e
      rw [if_neg (by decide), gzWj_u (by omega), ih k _ (by omega) (by omega)]
      refine congrArg (fun s => K x1 x2 (x3 * 100) (x5 + 1) I (gzWj J s)) (funext fun j => ?_)
      unfold gzWs gzUj
      rw [if_neg (by omega)]
      by_cases e : j = 0
      · subst e
        rw [if_pos rfl, if_pos (by omega), if_pos rfl]
      · rw [if_neg e, if_neg (by omega)]
    · rw [if_pos (by rw [gzc_eq2 (by omega) (by omega)]; exact e), show Int32.ofNat m - 1 = Int32.ofNat (m - 1) from gzc_sub (k := 1) (show 1 ≤ m by omega), gzGd_in (by omega) (by omega), gzn_clamp (by omega), gzWj_at (by omega), gzWj_u (by omega)]
      rw [show Int32.ofNat (m - 1) = Int32.ofNat m - 1 from (gzc_sub (k := 1) (show 1 ≤ m by omega)).symm, ih k _ (by omega) (by omega)]
      refine congrArg (fun s => K x1 x2 (x3 * 100) (x5 + 1) I (gzWj J s)) (funext fun j => ?_)
      unfold gzWs gzUj
      by_cases e1 : j < m
      · rw [if_pos e1, if_neg (show ¬ j = m by omega), if_neg (show ¬ j - 1 = m by omega), if_pos (show j < m + 1 by omega)]
      · rw [if_neg e1]
        by_cases e2 : j = m
        · rw [if_pos e2, if_pos (show j < m + 1 by omega), if_neg (show ¬ j = 0 by omega), e2]
        · rw [if_neg e2, if_neg (show ¬ j < m + 1 by omega)]
def gzWt (p q : Int64) (m : Nat) : Int64 × (Nat → Int64) := gzFo (fun (s : Int64 × (Nat → Int64)) _ => (s.1 * 100, gzWs p q s.2 7)) 0 m (1, gzWy p q 0)
theorem gzWt_eq {p q : Int64} : ∀ m, (gzWt p q m).1 = gzPwr 100 m ∧ ∀ j, j < 7 → (gzWt p q m).2 j = gzWy p q m j := by
  intro m
  induction m with
  | zero => exact ⟨rfl, fun j _ => rfl⟩
  | succ m ih =>
    have e : gzWt p q (m + 1) = ((gzWt p q m).1 * 100, gzWs p q (gzWt p q m).2 7) := gzFo_last m 0 _
    rw [e]
    obtain ⟨i1, i2⟩ := ih
    refine ⟨?_, fun j hj => ?_⟩
    · show (gzWt p q m).1 * 100 = _
      rw [i1, gzPwr_s]
    · show gzWs p q (gzWt p q m).2 7 j = gzWy p q m j * q + (if j = 0 then 0 else gzWy p q m (j - 1) * p)
      unfold gzWs
      rw [if_pos hj, i2 j hj]
      by_cases e : j = 0
      · rw [if_pos e, if_pos e]
      · rw [if_neg e, if_neg e, i2 (j - 1) (by omega)]
theorem m_odds78 {n : Nat} {x2 : Int32} (hn : n < 7) (hφ : 300 < φ) : f_X12_odds_78 φ φ (Int32.ofNat n) x2 1 0 I (gzWj J (gzWy ((I 0 48 7).toInt64) ((100 - I 0 48 7).toInt64) 0)) = f_X12_odds_171 φ φ (gzPwr 100 n) 0 x2 I (gzWj J (gzWy ((I 0 48 7).toInt64) ((100 - I 0 48 7).toInt64) n)) := by
  have key := gz_loop (F := fun k (s : Int64 × (Nat → Int64)) i => f_X12_odds_78 φ k (Int32.ofNat n) x2 s.1 i I (gzWj J s.2)) (n := n) (step := fun (s : Int64 × (Nat → Int64)) _ => (s.1 * 100, gzWs ((I 0 48 7).toInt64) ((100 - I 0 48 7).toInt64) s.2 7)) (out := fun s => f_X12_odds_171 φ φ s.1 0 x2 I (gzWj J s.2)) ?_ ?_ n 0 φ (1, gzWy ((I 0 48 7).toInt64) ((100 - I 0 48 7).toInt64) 0) (by omega) (by omega)
  · have key' : f_X12_odds_78 φ φ (Int32.ofNat n) x2 1 0 I (gzWj J (gzWy ((I 0 48 7).toInt64) ((100 - I 0 48 7).toInt64) 0)) = f_X12_odds_171 φ φ (gzWt ((I 0 48 7).toInt64) ((100 - I 0 48 7).toInt64) n).1 0 x2 I (gzWj J (gzWt ((I 0 48 7).toInt64) ((100 - I 0 48 7).toInt64) n).2) := key
    obtain ⟨k1, k2⟩ := gzWt_eq (p := (I 0 48 7).toInt64) (q := (100 - I 0 48 7).toInt64) n
    rw [key', gzWj_congr k2, k1]
  · intro k s i hi
    show f_X12_odds_78 φ (k + 1) (Int32.ofNat n) x2 s.1 (Int32.ofNat i) I (gzWj J s.2) = f_X12_odds_78 φ k (Int32.ofNat n) x2 (s.1 * 100) (Int32.ofNat (i + 1)) I (gzWj J (gzWs ((I 0 48 7).toInt64) ((100 - I 0 48 7).toInt64) s.2 7))
    rw [f_X12_odds_78, if_neg (by rw [gzn_le (by omega) (by omega)]; omega), show (6 : Int32) = Int32.ofNat 7 - 1 from rfl, m_odds88 7 φ s.2 (by omega) (by omega), gzn_succ]
  · intro k s
    show f_X12_odds_78 φ (k + 1) (Int32.ofNat n) x2 s.1 (Int32.ofNat n) I (gzWj J s.2) = _
    rw [f_X12_odds_78, if_pos (by rw [gzn_le (by omega) (by omega)]; omega)]
theorem m_odds171 {c : Nat} {g : Int64} {s : Nat → Int64} (hc : c < 7) (hg : ¬ g = 0) (hφ : 300 < φ) : f_X12_odds_171 φ φ g 0 (Int32.ofNat c) I (gzWj J s) = some ((10000 * gzFo (fun a j => a + s j) c (7 - c) 0 / g).toInt32, I, gzWj J s) := by
  refine gz_loop (F := fun k a i => f_X12_odds_171 φ k g a i I (gzWj J s)) (n := 7) (step := fun a j => a + s j) (out := fun a => some ((10000 * a / g).toInt32, I, gzWj J s)) ?_ ?_ (7 - c) c φ 0 (by omega) (by omega)
  · intro k a i hi
    show f_X12_odds_171 φ (k + 1) g a (Int32.ofNat i) I (gzWj J s) = f_X12_odds_171 φ k g (a + s i) (Int32.ofNat (i + 1)) I (gzWj J s)
    rw [f_X12_odds_171, if_neg (by rw [gzc_lt1 (by omega) (by omega)]; omega), gzGd_in hi (by omega), gzn_clamp (by omega), gzWj_at hi, gzn_succ]
  · intro k a
    show f_X12_odds_171 φ (k + 1) g a 7 I (gzWj J s) = _
    rw [f_X12_odds_171, if_pos (by decide), gzGm_in hg]
theorem m_odds45 {x1 x2 : Int32} {x3 : Int64} {p q : Int64} (hφ : 300 < φ) : f_X12_odds_45 φ φ x1 x2 x3 0 I J = f_X12_odds_78 φ φ x1 x2 x3 0 I (gzWj J (gzWy p q 0)) := by
  have key := gz_loop (F := fun k (s : Nat → Int64) i => f_X12_odds_45 φ k x1 x2 x3 i I (gzWj J s)) (n := 7) (step := fun s i => gzUj s i (if i = 0 then 1 else 0)) (out := fun s => f_X12_odds_78 φ φ x1 x2 x3 0 I (gzWj J s)) ?_ ?_ 7 0 φ (J 0 58) (by omega) (by omega)
  · have key' : f_X12_odds_45 φ φ x1 x2 x3 0 I (gzWj J (J 0 58)) = f_X12_odds_78 φ φ x1 x2 x3 0 I (gzWj J (gzFo (fun s i => gzUj s i (if i = 0 then 1 else 0)) 0 7 (J 0 58))) := key
    rw [gzWj_self] at key'
    rw [key']
    rw [gzWj_congr (s' := gzWy p q 0)]
    intro k hk
    rcases (show k = 0 ∨ k = 1 ∨ k = 2 ∨ k = 3 ∨ k = 4 ∨ k = 5 ∨ k = 6 by omega) with rfl | rfl | rfl | rfl | rfl | rfl | rfl <;> rfl
  · intro k s i hi
    show f_X12_odds_45 φ (k + 1) x1 x2 x3 (Int32.ofNat i) I (gzWj J s) = f_X12_odds_45 φ k x1 x2 x3 (Int32.ofNat (i + 1)) I (gzWj J (gzUj s i (if i = 0 then 1 else 0)))
    rw [f_X12_odds_45, if_neg (by rw [gzc_lt1 (by omega) (by omega)]; omega), gzGd_in hi (by omega), gzGd_in hi (by omega), gzn_clamp (by omega), gzn_succ]
    by_cases e : i = 0
    · subst e
      rw [if_neg (by decide), if_pos rfl, gzWj_u (by omega)]
    · rw [if_pos (by rw [gzc_eq2 (by omega) (by omega)]; exact e), if_neg e, gzWj_u hi]
  · intro k s
    show f_X12_odds_45 φ (k + 1) x1 x2 x3 7 I (gzWj J s) = _
    rw [f_X12_odds_45, if_pos (by decide)]
theorem L_odds (p0 p1 : Int32) (h : gzR I I) : ∃ e I1, f_X11_odds 4096 p0 p1 I J = some (e, I1, J) ∧ (∀ E, e = .error E → ∃ k : Nat, (["java/lang/IllegalArgumentException"] : List String)[k]? = some E) ∧ ∀ J' : gzJT, ∃ v I2 J2, f_X12_odds 4096 p0 p1 I1 J' = some (v, I2, J2) ∧ gzSame e ["java/lang/IllegalArgumentException"] v (I2 0 47 0) ∧ J2 0 59 0 = J' 0 59 0 ∧ gzR I2 I2 := by
  obtain ⟨nf, ng, nl, nx, hT, hx, c, b, m⟩ := gzR_go h
  obtain ⟨φ, hφ⟩ : ∃ φ, φ = 4096 := ⟨_, rfl⟩
  rw [← hφ]
  have hk : I 0 0 10 = I 0 48 7 := hT.2.1.2.2.2.2.1
  rcases p_num (I := I) (J := J) (a := p0) (N := 6) (by omega) with ⟨⟨n, hn, rfl⟩, e1, e2⟩ | ⟨e1, e2⟩
  · rcases p_num (I := I) (J := J) (a := p1) (N := 6) (by omega) with ⟨⟨k, hk2, rfl⟩, e3, e4⟩ | ⟨e3, e4⟩
    · have h100 := gz_pw100 n (by omega)
      refine ⟨.ok ((gzOdd ((I 0 0 10).toInt64) ((100 - I 0 0 10).toInt64) n k * 10000) / gzPwr 100 n).toInt32, I, ?_, fun E hE => (by cases hE), fun J' => ⟨((gzOdd ((I 0 0 10).toInt64) ((100 - I 0 0 10).toInt64) n k * 10000) / gzPwr 100 n).toInt32, gz_ui I 0 47 0 0, gzWj J' (gzWy ((I 0 48 7).toInt64) ((100 - I 0 48 7).toInt64) n), ?_, ⟨rfl, gz_ui_s⟩, if_neg (by omega), gzR_thr h⟩⟩
      · unfold f_X11_odds
        rw [show (6 : Int32) = Int32.ofNat 6 from rfl, e1]
        simp only [Option.bind_some, gzEx]
        rw [e3]
        simp only [Option.bind_some, gzEx]
        rw [c_power (by omega) (by omega)]
        simp only [Option.bind_some]
        rw [if_pos h100.2]
        exact c_odds41 (by omega) (by omega) h100.1 (by omega)
      · unfold f_X12_odds
        rw [show (6 : Int32) = Int32.ofNat 6 from rfl, e2]
        simp only [Option.bind_some]
        rw [if_neg (by decide), e4]
        simp only [Option.bind_some, gz_not01, s_throws0, if_true]
        have e7 : gz_ui I 0 47 0 0 0 48 7 = I 0 48 7 := gz_ui_o (by decide)
        have s1 := m_odds45 (φ := φ) (I := gz_ui I 0 47 0 0) (J := J') (x1 := Int32.ofNat n) (x2 := Int32.ofNat k) (x3 := 1) (p := (I 0 48 7).toInt64) (q := (100 - I 0 48 7).toInt64) (by omega)
        have s2 := m_odds78 (φ := φ) (I := gz_ui I 0 47 0 0) (J := J') (n := n) (x2 := Int32.ofNat k) (by omega) (by omega)
        rw [e7] at s2
        rw [s1, s2, m_odds171 (by omega) h100.1 (by omega), hk]
        unfold gzOdd
        rw [Int64.mul_comm 10000]
    · refine ⟨.error "java/lang/IllegalArgumentException", I, ?_, fun E hE => ⟨0, by cases hE; rfl⟩, fun J' => ⟨0, gz_ui (gz_ui I 0 47 0 0) 0 47 0 1, J', ?_, ⟨0, rfl, gz_ui_s⟩, rfl, gzR_thr2 h⟩⟩
      · unfold f_X11_odds
        rw [show (6 : Int32) = Int32.ofNat 6 from rfl, e1]
        simp only [Option.bind_some, gzEx]
        rw [e3]
        rfl
      · unfold f_X12_odds
        rw [show (6 : Int32) = Int32.ofNat 6 from rfl, e2]
        simp only [Option.bind_some]
        rw [if_neg (by decide), e4]
        simp only [Option.bind_some, gz_not00, s_throws1]
        rfl
  · refine ⟨.error "java/lang/IllegalArgumentException", I, ?_, fun E hE => ⟨0, by cases hE; rfl⟩, fun J' => ⟨0, gz_ui (gz_ui I 0 47 0 0) 0 47 0 1, J', ?_, ⟨0, rfl, gz_ui_s⟩, rfl, gzR_thr2 h⟩⟩
    · unfold f_X11_odds
      rw [show (6 : Int32) = Int32.ofNat 6 from rfl, e1]
      rfl
    · unfold f_X12_odds
      rw [show (6 : Int32) = Int32.ofNat 6 from rfl, e2]
      simp only [Option.bind_some]
      rw [if_pos (by simp)]
      simp only [Option.bind_some, s_throws1]
      rfl
end
