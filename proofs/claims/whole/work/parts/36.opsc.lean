/-! oldest, log, led, count; what is needed of a family, of a grudge -/
section
variable {I I' : gzIT} {J : gzJT} {w : Nat → Int32} {nf ng t φ : Nat}
theorem m_in {a : Int32} {n : Nat} (hn : n ≤ 2 ^ 30) : ((∃ k, k < n ∧ a = Int32.ofNat k) ∧ f_X12_in a 0 (Int32.ofNat n - 1) = some 1) ∨ ((a < 0 ∨ ¬ a < 0 ∧ Int32.ofNat n ≤ a) ∧ f_X12_in a 0 (Int32.ofNat n - 1) = some 0) := by
  rcases gz_byn a n (by omega) with ⟨k, hk, rfl⟩ | h | ⟨h0, h1⟩
  · refine Or.inl ⟨⟨k, hk, rfl⟩, ?_⟩
    rw [gzc_sub (k := 1) (show 1 ≤ n by omega)]
    exact s_X12_in0 hk hn
  · exact Or.inr ⟨Or.inl h, s_X12_in1 h⟩
  · refine Or.inr ⟨Or.inr ⟨h0, h1⟩, ?_⟩
    by_cases hz : n = 0
    · subst hz
      unfold f_X12_in
      rw [if_neg h0, if_pos]
      rw [Int32.lt_iff_toInt_lt]
      have h3 : ¬ a.toInt < (0 : Int32).toInt := fun q => h0 (Int32.lt_iff_toInt_lt.mpr q)
      have e0 : (0 : Int32).toInt = 0 := rfl
      have e1 : (Int32.ofNat 0 - 1).toInt = -1 := by decide
      omega
    · rw [gzc_sub (k := 1) (show 1 ≤ n by omega)]
      exact s_X12_in2 (by omega) hn h0 h1
theorem p_fam {a : Int32} (h : gzVc I 0 w nf ng) (hm : gzVi I' w nf ng) : ((∃ k, k < nf ∧ a = Int32.ofNat k) ∧ f_X11_needFamily a I J = some (.ok (), I, J) ∧ f_X12_noFamily I' a = some 0) ∨ (f_X11_needFamily a I J = some (.error "java/lang/IndexOutOfBoundsException", I, J) ∧ f_X12_noFamily I' a = some 1) := by
  have h3 := h.1.2.2.1
  have h4 := h.1.2.2.2
  unfold f_X11_needFamily f_X12_noFamily
  rw [m_families hm, h.1.1]
  simp only [Option.bind_some]
  rcases m_in (a := a) (n := nf) (by omega) with ⟨⟨k, hk, rfl⟩, e⟩ | ⟨hk, e⟩
  · refine Or.inl ⟨⟨k, hk, rfl⟩, ?_, ?_⟩
    · rw [if_neg (by rw [gzc_lt0 (by omega)]; exact id), if_pos (by rw [gzn_lt (by omega) (by omega)]; exact hk)]
    · rw [e]; rfl
  · refine Or.inr ⟨?_, ?_⟩
    · rcases hk with q | ⟨q1, q2⟩
      · rw [if_pos q]
      · rw [if_neg q1, if_neg (fun q => by have a1 := Int32.lt_iff_toInt_lt.mp q; have a2 := Int32.le_iff_toInt_le.mp q2; omega)]
    · rw [e]; rfl
theorem p_gr {a : Int32} (h : gzVc I 0 w nf ng) (hm : gzVi I' w nf ng) : ((∃ k, k < ng ∧ a = Int32.ofNat k) ∧ f_X11_needGrudge a I J = some (.ok (), I, J) ∧ f_X12_noGrudge I' a = some 0) ∨ (f_X11_needGrudge a I J = some (.error "java/lang/IndexOutOfBoundsException", I, J) ∧ f_X12_noGrudge I' a = some 1) := by
  have h3 := h.1.2.2.1
  have h4 := h.1.2.2.2
  unfold f_X11_needGrudge f_X12_noGrudge
  rw [m_grudges hm, h.1.2.1]
  simp only [Option.bind_some]
  rcases m_in (a := a) (n := ng) (by omega) with ⟨⟨k, hk, rfl⟩, e⟩ | ⟨hk, e⟩
  · refine Or.inl ⟨⟨k, hk, rfl⟩, ?_, ?_⟩
    · rw [if_neg (by rw [gzc_lt0 (by omega)]; exact id), if_pos (by rw [gzn_lt (by omega) (by omega)]; exact hk)]
    · rw [e]; rfl
  · refine Or.inr ⟨?_, ?_⟩
    · rcases hk with q | ⟨q1, q2⟩
      · rw [if_pos q]
      · rw [if_neg q1, if_neg (fun q => by have a1 := Int32.lt_iff_toInt_lt.mp q; have a2 := Int32.le_iff_toInt_le.mp q2; omega)]
    · rw [e]; rfl
/-- oldest -/
def gzAg (w : Nat → Int32) (s : Option Nat) : Int32 := match s with | none => -1 | some j => w (57 + 7 * j)
def gzOld (w : Nat → Int32) (s : Option Nat) (i : Nat) : Option Nat := if tH w i = true then s else if w (57 + 7 * i) ≤ gzAg w s then s else some i
theorem gzOld_b {i : Nat} {s : Option Nat} (h : gzPb i s) : gzPb (i + 1) (gzOld w s i) := by
  intro b hb
  unfold gzOld at hb
  split at hb
  · have := h b hb; omega
  · split at hb
    · have := h b hb; omega
    · cases hb; omega
theorem c_oldest (h : gzVc I 0 w nf ng) (hw : ∀ g, g < ng → 0 ≤ (w (57 + 7 * g)).toInt) (hφ : 10 < φ) : f_X11_oldest φ I = some (gzOi (gzFo (gzOld w) 0 ng none)) := by
  obtain ⟨⟨h1, h2, h3, h4⟩, hF, hT, hS, hA, hI, hU, hH, hP, hN, hL, hO, hB, hD⟩ := id h
  unfold f_X11_oldest
  refine gz_loopp (F := fun k s i => f_X11_oldest_4 φ I k s i) (n := ng) (c := gzOi) (step := gzOld w) (out := fun s => some (gzOi s)) (p := gzPb) ?_ ?_ ng 0 φ none (fun b hb => by cases hb) (by omega) (by omega)
  · intro k s i hi hp
    refine ⟨?_, gzOld_b hp⟩
    show f_X11_oldest_4 φ I (k + 1) (gzOi s) (Int32.ofNat i) = f_X11_oldest_4 φ I k (gzOi (gzOld w s i)) (Int32.ofNat (i + 1))
    simp (disch := omega) only [f_X11_oldest_4, h2, gzn_le, c_frozen h, gzGd_in, gzn_clamp, hA, gzn_succ, Option.bind_some, if_neg]
    unfold gzOld
    cases s with
    | none =>
      have q := hw i hi
      have e : ¬ w (57 + 7 * i) ≤ gzAg w none := by
        intro q2
        have := Int32.le_iff_toInt_le.mp q2
        have e1 : (gzAg w none).toInt = -1 := rfl
        omega
      rw [if_neg e]
      by_cases x : tH w i = true
      · rw [if_pos x, if_pos x, if_pos rfl]
      · rw [if_neg x, if_neg x, if_neg (by decide), if_pos gzOi_none]; rfl
    | some j =>
      have hj := hp j rfl
      rw [if_neg (gzOi_ne (by omega)), show gzOi (some j) = Int32.ofNat j from rfl, gzc_cell (by omega) (by omega), hA j (by omega)]
      simp only [Option.bind_some]
      by_cases x : tH w i = true
      · rw [if_pos x, if_pos x, if_pos rfl]; rfl
      · rw [if_neg x, if_neg x, if_neg (by decide)]
        by_cases e : w (57 + 7 * i) ≤ w (57 + 7 * j)
        · have e' : w (57 + 7 * i) ≤ gzAg w (some j) := e
          rw [if_pos e, if_pos e']; rfl
        · have e' : ¬ w (57 + 7 * i) ≤ gzAg w (some j) := e
          rw [if_neg e, if_neg e']; rfl
  · intro k s hp
    show f_X11_oldest_4 φ I (k + 1) (gzOi s) (Int32.ofNat ng) = _
    simp (disch := omega) only [f_X11_oldest_4, h2, gzn_le, if_pos]
theorem gzAg_ge {s : Option Nat} {i : Nat} (hw : ∀ g, g < ng → 0 ≤ (w (57 + 7 * g)).toInt) (hp : gzPb i s) (hi : i ≤ ng) : -1 ≤ (gzAg w s).toInt := by
  cases s with
  | none => exact Int.le_of_eq rfl
  | some j =>
    have := hw j (by have := hp j rfl; omega)
    show -1 ≤ (w (57 + 7 * j)).toInt
    omega
theorem m_oldest (h : gzVi I w nf ng) (hw : ∀ g, g < ng → 0 ≤ (w (57 + 7 * g)).toInt) (hφ : 10 < φ) : f_X12_oldest_11 φ φ (-1) (-1) 0 I J = some (gzOi (gzFo (gzOld w) 0 ng none), I, J) := by
  obtain ⟨-, ⟨⟨-, -, h3, h4⟩, -⟩, bF, bT, -, -⟩ := id h
  refine gz_loopp (F := fun k (s : Int32 × Int32) i => f_X12_oldest_11 φ k s.1 s.2 i I J) (n := ng) (c := fun s => (gzOi s, gzAg w s)) (step := gzOld w) (out := fun s => some (gzOi s, I, J)) (p := gzPb) ?_ ?_ ng 0 φ none (fun b hb => by cases hb) (by omega) (by omega)
  · intro k s i hi hp
    refine ⟨?_, gzOld_b hp⟩
    show f_X12_oldest_11 φ (k + 1) (gzOi s) (gzAg w s) (Int32.ofNat i) I J = f_X12_oldest_11 φ k (gzOi (gzOld w s i)) (gzAg w (gzOld w s i)) (Int32.ofNat (i + 1)) I J
    have hge := gzAg_ge hw hp (by omega)
    simp (disch := omega) only [f_X12_oldest_11, m_grudges h, gzn_le, m_isThawed h, m_of3 h, gzc_b0, gzn_succ, Option.bind_some, if_neg]
    unfold gzOld
    by_cases x : tH w i = true
    · rw [if_neg (fun q => q x), if_pos x]
      rw [if_pos (show (-1 : Int32) ≤ gzAg w s from Int32.le_iff_toInt_le.mpr (by have e1 : (-1 : Int32).toInt = -1 := rfl; omega)), if_neg (fun q => by have := Int32.lt_iff_toInt_lt.mp q; have e1 : (-1 : Int32).toInt = -1 := rfl; omega)]
    · rw [if_pos x, if_neg x]
      by_cases e : w (57 + 7 * i) ≤ gzAg w s
      · rw [if_pos e, if_pos e, if_neg (fun q => by have := Int32.lt_iff_toInt_lt.mp q; have := Int32.le_iff_toInt_le.mp e; omega)]
      · rw [if_neg e, if_neg e, if_pos (Int32.lt_iff_toInt_lt.mpr (by have : ¬ (w (57 + 7 * i)).toInt ≤ (gzAg w s).toInt := fun q => e (Int32.le_iff_toInt_le.mpr q); omega))]
        rfl
  · intro k s hp
    show f_X12_oldest_11 φ (k + 1) (gzOi s) (gzAg w s) (Int32.ofNat ng) I J = _
    simp (disch := omega) only [f_X12_oldest_11, m_grudges h, Option.bind_some, gzn_le, if_pos]
theorem L_oldest (h : gzR I I) : ∃ v I2 J2, f_X11_oldest 4096 I = some v ∧ f_X12_oldest 4096 I J = some (v, I2, J2) ∧ gzR I2 I2 := by
  obtain ⟨nf, ng, nl, nx, -, hx, c, b, m⟩ := gzR_go h
  have hw : ∀ g, g < ng → 0 ≤ (I 0 48 (57 + 7 * g)).toInt := fun g hg => (hx.1.2.2.2.2.2 g hg).1.1
  exact ⟨_, _, _, c_oldest c hw (by omega), m_oldest (m 0) hw (by omega), gzR_thr h⟩
/-- the log -/
theorem c_read {nl nx a k : Nat} (hl : gzLg I t w nl nx) (ha : a < nl) (hk : k < 4) : f_X4_read t I (Int32.ofNat a) (Int32.ofNat k) = some (w (124 + 4 * a + k)) := by
  obtain ⟨l1, l2, l3, l4, l5, l6⟩ := hl
  unfold f_X4_read
  simp (disch := omega) only [gzc_lt0, l3, l5, gzn_lt, if_pos, if_false, gzc_add, gzc_sub, gzc_subs, gzc_div, gzc_mul', gzc_adds]
  rw [gzc_cell (by omega) (by omega), ← l6 a ha k hk]
  simp only [Option.bind_some]
  rw [show (nx + 60 - 1 - a - (nx + 60 - 1 - a) / 60 * 60) * 4 + k = (nx + 59 - a) % 60 * 4 + k by omega]
theorem c_read1 {nl nx a : Nat} (hl : gzLg I t w nl nx) (ha : a < nl) : f_X4_read t I (Int32.ofNat a) 1 = some (w (125 + 4 * a)) := by
  rw [show (1 : Int32) = Int32.ofNat 1 from rfl, c_read hl ha (by omega), show 124 + 4 * a + 1 = 125 + 4 * a by omega]
theorem c_read0 {nl nx a : Nat} (hl : gzLg I t w nl nx) (ha : a < nl) : f_X4_read t I (Int32.ofNat a) 0 = some (w (124 + 4 * a)) := by
  rw [show (0 : Int32) = Int32.ofNat 0 from rfl, c_read hl ha (by omega)]; rfl
theorem m_ofLog {a k : Nat} (h : ∀ k, k < 364 → I 0 48 k = w k) (ha : a < 60) (hk : k < 4) : f_X12_ofLog I (Int32.ofNat a) (Int32.ofNat k) = some (w (124 + 4 * a + k)) := by
  unfold f_X12_ofLog
  simp (disch := omega) only [gzc_mul, gzc_add', gzc_adds, gzGd_in, gzn_clamp, h]
theorem m_ofLog1 {a : Nat} (h : ∀ k, k < 364 → I 0 48 k = w k) (ha : a < 60) : f_X12_ofLog I (Int32.ofNat a) 1 = some (w (125 + 4 * a)) := by
  rw [show (1 : Int32) = Int32.ofNat 1 from rfl, m_ofLog h ha (by omega), show 124 + 4 * a + 1 = 125 + 4 * a by omega]
theorem m_ofLog0 {a : Nat} (h : ∀ k, k < 364 → I 0 48 k = w k) (ha : a < 60) : f_X12_ofLog I (Int32.ofNat a) 0 = some (w (124 + 4 * a)) := by
  rw [show (0 : Int32) = Int32.ofNat 0 from rfl, m_ofLog h ha (by omega)]; rfl
theorem L_log (p0 p1 : Int32) (h : gzR I I) : ∃ e I1, f_X11_log p0 p1 I J = some (e, I1, J) ∧ (∀ E, e = .error E → ∃ k : Nat, (["java/util/NoSuchElementException"] : List String)[k]? = some E) ∧ ∀ J' : gzJT, ∃ v I2 J2, f_X12_log p0 p1 I1 J' = some (v, I2, J2) ∧ gzSame e ["java/util/NoSuchElementException"] v (I2 0 47 0) ∧ J2 0 59 0 = J' 0 59 0 ∧ gzR I2 I2 := by
  obtain ⟨nf, ng, nl, nx, hn, hx, c, b, m⟩ := gzR_go h
  have hl := hn.2.2.2.2.2.2
  have hm := (m 0).1
  have e8 : I 0 48 8 = Int32.ofNat nl := hl.2.2.2.1
  have hl0 := hl.1
  rcases gz_byn p1 4 (by omega) with ⟨k, hk, rfl⟩ | a1 | ⟨a1, a2⟩
  · have i1 : f_X12_in (Int32.ofNat k) 0 3 = some 1 := s_X12_in0 (n := 4) hk (by omega)
    rcases m_in (a := p0) (n := nl) (by omega) with ⟨⟨a, ha, rfl⟩, e⟩ | ⟨ha, e⟩
    · refine ⟨.ok (I 0 48 (124 + 4 * a + k)), I, ?_, fun E hE => (by cases hE), fun J' => ⟨I 0 48 (124 + 4 * a + k), gz_ui I 0 47 0 0, J', ?_, ⟨rfl, gz_ui_s⟩, rfl, gzR_thr h⟩⟩
      · unfold f_X11_log
        rw [c_read hl ha hk]
        simp (disch := omega) only [gzc_lt2, Nat.not_lt_zero, if_pos, if_false, Option.bind_some]
      · unfold f_X12_log
        rw [i1]
        simp only [Option.bind_some, gz_not01, s_throws0, if_true, gz_wrow, e8, e]
        rw [m_ofLog hm (by omega) hk]
        rfl
    · refine ⟨.ok (-1), I, ?_, fun E hE => (by cases hE), fun J' => ⟨-1, gz_ui I 0 47 0 0, J', ?_, ⟨rfl, gz_ui_s⟩, rfl, gzR_thr h⟩⟩
      · unfold f_X11_log f_X4_read
        rcases ha with q | ⟨q1, q2⟩
        · simp (disch := omega) only [gzc_lt2, Nat.not_lt_zero, if_pos, if_true, if_false, Option.bind_some, q]
        · simp (disch := omega) only [gzc_lt2, Nat.not_lt_zero, if_pos, if_false, Option.bind_some, if_neg q1, hl.2.2.1, if_neg (show ¬ p0 < Int32.ofNat nl from fun q => by have a1 := Int32.lt_iff_toInt_lt.mp q; have a2 := Int32.le_iff_toInt_le.mp q2; omega)]
      · unfold f_X12_log
        rw [i1]
        simp only [Option.bind_some, gz_not01, s_throws0, if_true, gz_wrow, e8, e]
  · refine ⟨.error "java/util/NoSuchElementException", I, ?_, fun E hE => ⟨0, by cases hE; rfl⟩, fun J' => ⟨0, gz_ui (gz_ui I 0 47 0 0) 0 47 0 1, J', ?_, ⟨0, rfl, gz_ui_s⟩, rfl, gzR_thr2 h⟩⟩
    · unfold f_X11_log
      rw [if_pos a1]
    · unfold f_X12_log
      rw [s_X12_in1 a1]
      simp only [Option.bind_some, gz_not00, s_throws1]
      rfl
  · refine ⟨.error "java/util/NoSuchElementException", I, ?_, fun E hE => ⟨0, by cases hE; rfl⟩, fun J' => ⟨0, gz_ui (gz_ui I 0 47 0 0) 0 47 0 1, J', ?_, ⟨0, rfl, gz_ui_s⟩, rfl, gzR_thr2 h⟩⟩
    · unfold f_X11_log
      rw [if_neg a1, if_neg]
      intro q
      have q1 := Int32.le_iff_toInt_le.mp a2
      have q2 := Int32.lt_iff_toInt_lt.mp q
      have e4 : (4 : Int32).toInt = 4 := rfl
      rw [gzn_int (by omega)] at q1
      omega
    · unfold f_X12_log
      rw [show (3 : Int32) = Int32.ofNat (4 - 1) from rfl, s_X12_in2 (by omega) (by omega) a1 a2]
      simp only [Option.bind_some, gz_not00, s_throws1]
      rfl
/-- led -/
theorem gzFo_last {σ : Type} {f : σ → Nat → σ} : ∀ (m i : Nat) (s : σ), gzFo f i (m + 1) s = f (gzFo f i m s) (i + m) := by
  intro m
  induction m with
  | zero => intro i s; rfl
  | succ m ih =>
    intro i s
    show gzFo f (i + 1) (m + 1) (f s i) = f (gzFo f (i + 1) m (f s i)) (i + (m + 1))
    rw [ih, show i + 1 + m = i + (m + 1) by omega]
def S_rows (w : Nat → Int32) (a : Int32) (m : Nat) : Int32 := gzFo (fun s i => if w (125 + 4 * i) = a then s + 1 else s) 0 m 0
theorem c_rowsOf {nl nx : Nat} {a : Int32} (hl : gzLg I t w nl nx) (hφ : 100 < φ) : f_X4_rowsOf φ t I a = some (S_rows w a nl) := by
  have l1 := hl.1
  unfold f_X4_rowsOf
  refine gz_loop (F := fun k s i => f_X4_rowsOf_4 φ t I k a s i) (n := nl) (out := some) ?_ ?_ nl 0 φ 0 (by omega) (by omega)
  · intro k s i hi
    show f_X4_rowsOf_4 φ t I (k + 1) a s (Int32.ofNat i) = f_X4_rowsOf_4 φ t I k a _ (Int32.ofNat (i + 1))
    simp (disch := omega) only [f_X4_rowsOf_4, hl.2.2.1, gzn_le, c_read1 hl hi, gzn_succ, Option.bind_some, if_neg]
    by_cases e : w (125 + 4 * i) = a
    · rw [if_neg (fun q => q e), if_pos e]
    · rw [if_pos e, if_neg e]
  · intro k s
    show f_X4_rowsOf_4 φ t I (k + 1) a s (Int32.ofNat nl) = some s
    simp (disch := omega) only [f_X4_rowsOf_4, hl.2.2.1, gzn_le, if_pos]
theorem c_latest {nl nx : Nat} {a : Int32} (hl : gzLg I t w nl nx) (hφ : 100 < φ) :
    (gzAn (fun i => w (125 + 4 * i) == a) 0 nl = false ∧ f_X4_latestTime φ t I a = some (-1)) ∨ (gzAn (fun i => w (125 + 4 * i) == a) 0 nl = true ∧ ∃ j, 0 ≤ j ∧ j < nl ∧ (fun i => w (125 + 4 * i) == a) j = true ∧ (∀ j', 0 ≤ j' → j' < j → (fun i => w (125 + 4 * i) == a) j' = false) ∧ f_X4_latestTime φ t I a = some (w (124 + 4 * j))) := by
  have l1 := hl.1
  unfold f_X4_latestTime
  refine gz_exit (F := fun k i => f_X4_latestTime_2 φ t I k a i) (n := nl) (p := fun i => w (125 + 4 * i) == a) (r := fun i => w (124 + 4 * i)) (o := some (-1)) ?_ ?_ nl 0 φ (by omega) (by omega)
  · intro k i hi
    show f_X4_latestTime_2 φ t I (k + 1) a (Int32.ofNat i) = if (w (125 + 4 * i) == a) = true then some (w (124 + 4 * i)) else f_X4_latestTime_2 φ t I k a (Int32.ofNat (i + 1))
    simp (disch := omega) only [f_X4_latestTime_2, hl.2.2.1, gzn_le, c_read1 hl hi, c_read0 hl hi, gzn_succ, Option.bind_some, if_neg]
    by_cases e : w (125 + 4 * i) = a <;> simp [e]
  · intro k
    show f_X4_latestTime_2 φ t I (k + 1) a (Int32.ofNat nl) = some (-1)
    simp (disch := omega) only [f_X4_latestTime_2, hl.2.2.1, gzn_le, if_pos]
def gzLt (w : Nat → Int32) (a : Int32) : Nat → Int32 → Int32
  | 0, x => x
  | m + 1, x => gzLt w a m (if w (125 + 4 * m) = a then w (124 + 4 * m) else x)
theorem gzLt_no {a : Int32} : ∀ (m : Nat) (x : Int32), (∀ j, j < m → ¬ w (125 + 4 * j) = a) → gzLt w a m x = x := by
  intro m
  induction m with
  | zero => intro x _; rfl
  | succ m ih =>
    intro x h
    show gzLt w a m (if w (125 + 4 * m) = a then w (124 + 4 * m) else x) = x
    rw [if_neg (h m (by omega)), ih x (fun j hj => h j (by omega))]
theorem gzLt_at {a : Int32} {j : Nat} (hj : w (125 + 4 * j) = a) (hn : ∀ j', j' < j → ¬ w (125 + 4 * j') = a) : ∀ (m : Nat) (x : Int32), j < m → gzLt w a m x = w (124 + 4 * j) := by
  intro m
  induction m with
  | zero => intro x h; omega
  | succ m ih =>
    intro x h
    show gzLt w a m (if w (125 + 4 * m) = a then w (124 + 4 * m) else x) = _
    by_cases e : j = m
    · subst e
      rw [if_pos hj, gzLt_no j _ hn]
    · exact ih _ (by omega)
theorem gz_subm (a : Int32) : a + (-1) = a - 1 := by rw [Int32.sub_eq_add_neg]
theorem m_led {a b : Int32} (h : ∀ k, k < 364 → I 0 48 k = w k) : ∀ (m k : Nat) (x y : Int32), m ≤ 60 → m < k → f_X12_led_36 φ k a b x y (Int32.ofNat m - 1) I J = some (if b = 0 then x + S_rows w a m else gzLt w a m y, I, J) := by
  intro m
  induction m with
  | zero =>
    intro k x y h1 h2
    obtain ⟨k, rfl⟩ : ∃ q, k = q + 1 := ⟨k - 1, by omega⟩
    rw [f_X12_led_36, if_pos (by decide), show x + S_rows w a 0 = x from Int32.add_zero x]
    rfl
  | succ m ih =>
    intro k x y h1 h2
    obtain ⟨k, rfl⟩ : ∃ q, k = q + 1 := ⟨k - 1, by omega⟩
    rw [gzc_sub (k := 1) (show 1 ≤ m + 1 by omega), show m + 1 - 1 = m by omega]
    rw [f_X12_led_36, if_neg (by rw [gzc_lt0 (by omega)]; exact id), m_ofLog1 h (by omega), m_ofLog0 h (by omega), gz_subm]
    simp only [Option.bind_some]
    have e0 : S_rows w a (m + 1) = if w (125 + 4 * m) = a then S_rows w a m + 1 else S_rows w a m := by
      unfold S_rows
      rw [gzFo_last, Nat.zero_add]
    rw [e0, show gzLt w a (m + 1) y = gzLt w a m (if w (125 + 4 * m) = a then w (124 + 4 * m) else y) from rfl]
    by_cases e : w (125 + 4 * m) = a
    · rw [if_pos e, if_pos e, if_pos e, ih k _ _ (by omega) (by omega), show x + 1 + S_rows w a m = x + (S_rows w a m + 1) by rw [Int32.add_assoc, Int32.add_comm 1]]
    · rw [if_neg e, if_neg e, if_neg e, ih k _ _ (by omega) (by omega)]
theorem L_led (p0 p1 : Int32) (h : gzR I I) : ∃ e I1, f_X11_led 4096 p0 p1 I J = some (e, I1, J) ∧ (∀ E, e = .error E → ∃ k : Nat, (["java/lang/IndexOutOfBoundsException"] : List String)[k]? = some E) ∧ ∀ J' : gzJT, ∃ v I2 J2, f_X12_led 4096 p0 p1 I1 J' = some (v, I2, J2) ∧ gzSame e ["java/lang/IndexOutOfBoundsException"] v (I2 0 47 0) ∧ J2 0 59 0 = J' 0 59 0 ∧ gzR I2 I2 := by
  obtain ⟨nf, ng, nl, nx, hn, hx, c, b, m⟩ := gzR_go h
  have hl := hn.2.2.2.2.2.2
  have hm := (m 0).1
  have e8 : I 0 48 8 = Int32.ofNat nl := hl.2.2.2.1
  have hl0 := hl.1
  rcases p_gr (a := p0) (J := J) c (m 0) with ⟨⟨k, hk, rfl⟩, e1, e2⟩ | ⟨e1, e2⟩
  · obtain ⟨v, hc, hv⟩ : ∃ v, f_X11_led 4096 (Int32.ofNat k) p1 I J = some (.ok v, I, J) ∧ v = if p1 = 0 then 0 + S_rows (I 0 48) (Int32.ofNat k) nl else gzLt (I 0 48) (Int32.ofNat k) nl (-1) := by
      unfold f_X11_led
      rw [e1]
      simp only [Option.bind_some, gzEx, c_rowsOf hl (show 100 < 4096 by omega)]
      by_cases q : p1 = 0
      · refine ⟨_, by rw [if_pos q], ?_⟩
        rw [if_pos q, Int32.zero_add]
      · rw [if_neg q, if_neg q]
        rcases c_latest (a := Int32.ofNat k) hl (φ := 4096) (by omega) with ⟨a1, a2⟩ | ⟨a1, j, -, hj, a3, a4, a2⟩
        · refine ⟨-1, by rw [a2]; rfl, ?_⟩
          rw [gzLt_no]
          intro j hj q
          have := (gzAn_iff (p := fun i => I 0 48 (125 + 4 * i) == Int32.ofNat k) (m := nl) (i := 0)).mpr ⟨j, Nat.zero_le _, by omega, show (I 0 48 (125 + 4 * j) == Int32.ofNat k) = true from beq_iff_eq.mpr q⟩
          rw [a1] at this; cases this
        · refine ⟨_, by rw [a2]; rfl, ?_⟩
          rw [gzLt_at (j := j) (beq_iff_eq.mp a3) (fun j' hj' q => by have := a4 j' (Nat.zero_le _) hj'; simp [q] at this) nl _ hj]
    refine ⟨.ok v, I, hc, fun E hE => (by cases hE), fun J' => ⟨v, gz_ui I 0 47 0 0, J', ?_, ⟨rfl, gz_ui_s⟩, rfl, gzR_thr h⟩⟩
    unfold f_X12_led
    rw [e2]
    simp only [Option.bind_some, s_throws0, if_true, gz_wrow, e8]
    rw [m_led hm nl 4096 _ _ (by omega) (by omega), hv]
  · refine ⟨.error "java/lang/IndexOutOfBoundsException", I, ?_, fun E hE => ⟨0, by cases hE; rfl⟩, fun J' => ⟨0, gz_ui (gz_ui I 0 47 0 0) 0 47 0 1, J', ?_, ⟨0, rfl, gz_ui_s⟩, rfl, gzR_thr2 h⟩⟩
    · unfold f_X11_led
      rw [e1]; rfl
    · unfold f_X12_led
      rw [e2]
      simp only [Option.bind_some, s_throws1]
      rfl
end
