/-! between, count -/
section
variable {I I' : gzIT} {J : gzJT} {w : Nat → Int32} {nf ng t φ : Nat}
theorem gzRc_mono {q : Nat → Int32} {a b i : Nat} (h : gzRc q nf a b i = true) : ∀ m, gzRc q nf a b (i + m) = true := by
  intro m
  induction m with
  | zero => exact h
  | succ m ih =>
    show gzB (S_wide q nf (gzIx q nf (gzbt a) (i + m))) b = true
    rw [S_wide_b, show gzB (gzIx q nf (gzbt a) (i + m)) b = true from ih]; rfl
theorem c_conn {nr on : Nat → Int32} {a b : Nat} (hq : ∀ f, f < nf → gzBl nf (nr f)) (hn : nf ≤ 6) (ha : a < nf) (hb : b < nf) (hφ : 10 < φ) : ∃ v, f_X10_distance φ (gzSp I nf nr on) (Int32.ofNat a) (Int32.ofNat b) = some v ∧ ((v = -1) ↔ ¬ gzRc nr nf a b 6 = true) := by
  rcases c_dist (I := I) (nr := nr) (on := on) hn ha hb hφ with ⟨e1, e2⟩ | ⟨e1, j, -, hj, p1, p2, e2⟩
  · refine ⟨-1, e2, fun _ h6 => ?_, fun _ => rfl⟩
    have h1 : gzRc nr nf a b 6 = gzRc nr nf a b (nf - 1) := by
      unfold gzRc
      rw [gzIx_rest hn hq (gzbt_bl ha (by omega)) (gzbt_cn ha hn) (i := 6) (j := nf - 1) (by omega) (by omega)]
    rw [h1] at h6
    rw [gzAn_iff.mpr ⟨nf - 1, Nat.zero_le _, by omega, h6⟩] at e1; cases e1
  · refine ⟨Int32.ofNat j, e2, fun h => ?_, fun h => ?_⟩
    · rw [gzc_m1 (by omega)] at h; exact h.elim
    · exact absurd (by have := gzRc_mono p1 (6 - j); rwa [show j + (6 - j) = 6 by omega] at this) h
def gzAc (w : Nat → Int32) (i g : Nat) : Bool := !tH w g && !gzB (gzbt i) g
def gzCo (w : Nat → Int32) (nf ng i : Nat) : Bool := gzRc (S_near w ng (gzAc w i)) nf (tF w i) (tT w i) 6
def gzBs (w : Nat → Int32) (nf ng : Nat) (s : Int32 × gzIT) (i : Nat) : Int32 × gzIT := if tH w i = true then s else (if gzCo w nf ng i = true then s.1 else s.1 ||| gzbt i, gzSp s.2 nf (S_near w ng (gzAc w i)) (S_onw w ng (gzAc w i)))
def S_betw (w : Nat → Int32) (nf ng : Nat) : Int32 := gzFo (fun s i => if tH w i = true then s else if gzCo w nf ng i = true then s else s ||| gzbt i) 0 ng 0
theorem gzBs_1 : ∀ (m i : Nat) (s : Int32 × gzIT), (gzFo (gzBs w nf ng) i m s).1 = gzFo (fun s i => if tH w i = true then s else if gzCo w nf ng i = true then s else s ||| gzbt i) i m s.1 := by
  intro m
  induction m with
  | zero => intro i s; rfl
  | succ m ih =>
    intro i s
    show (gzFo (gzBs w nf ng) (i + 1) m (gzBs w nf ng s i)).1 = gzFo _ (i + 1) m (if tH w i = true then s.1 else if gzCo w nf ng i = true then s.1 else s.1 ||| gzbt i)
    rw [ih]
    congr 1
    unfold gzBs
    by_cases x : tH w i = true
    · rw [if_pos x, if_pos x]
    · rw [if_neg x, if_neg x]
theorem c_between (h : gzVc I 0 w nf ng) (hb : gzVb w nf ng) (hφ : 10 < φ) : ∃ I1, f_X11_between φ I J = some (S_betw w nf ng, I1, J) ∧ (∀ t o k, ¬ (41 ≤ o ∧ o ≤ 43) → I1 t o k = I t o k) := by
  have hn := h.1.2.2.1
  have h4 := h.1.2.2.2
  have inv : ∀ (s : Int32 × gzIT) (i : Nat), (gzVc s.2 0 w nf ng ∧ ∀ t o k, ¬ (41 ≤ o ∧ o ≤ 43) → s.2 t o k = I t o k) → (gzVc (gzBs w nf ng s i).2 0 w nf ng ∧ ∀ t o k, ¬ (41 ≤ o ∧ o ≤ 43) → (gzBs w nf ng s i).2 t o k = I t o k) := by
    intro s i hp
    unfold gzBs
    by_cases x : tH w i = true
    · rw [if_pos x]; exact hp
    · rw [if_neg x]
      exact ⟨gzSp_vc hp.1, fun t o k ho => (gzSp_o ho).trans (hp.2 t o k ho)⟩
  refine ⟨(gzFo (gzBs w nf ng) 0 ng (0, I)).2, ?_, (gzFo_keep (f := gzBs w nf ng) (p := fun _ s => gzVc s.2 0 w nf ng ∧ ∀ t o k, ¬ (41 ≤ o ∧ o ≤ 43) → s.2 t o k = I t o k) ng 0 (0, I) ⟨h, fun t o k _ => rfl⟩ (fun s j _ _ hp => inv s j hp)).2⟩
  have e1 : S_betw w nf ng = (gzFo (gzBs w nf ng) 0 ng (0, I)).1 := (gzBs_1 ng 0 (0, I)).symm
  rw [e1]
  unfold f_X11_between
  refine gz_loopp (F := fun k (s : Int32 × gzIT) i => f_X11_between_4 φ k s.1 i s.2 J) (n := ng) (c := id) (step := gzBs w nf ng) (out := fun s => some (s.1, s.2, J)) (p := fun _ s => gzVc s.2 0 w nf ng ∧ ∀ t o k, ¬ (41 ≤ o ∧ o ≤ 43) → s.2 t o k = I t o k) ?_ ?_ ng 0 φ (0, I) ⟨h, fun t o k _ => rfl⟩ (by omega) (by omega)
  · intro k s i hi hp
    refine ⟨?_, inv s i hp⟩
    obtain ⟨v, -⟩ := hp
    have q1 := hb.1 i hi
    have q2 := hb.2.1 i hi
    have e8 : ∀ x y, gzSp s.2 nf x y 0 8 i = Int32.ofNat (tF w i) := fun x y => (gzSp_vc (nr := x) (on := y) v).2.1 i hi
    have e9 : ∀ x y, gzSp s.2 nf x y 0 9 i = Int32.ofNat (tT w i) := fun x y => (gzSp_vc (nr := x) (on := y) v).2.2.1 i hi
    show f_X11_between_4 φ (k + 1) s.1 (Int32.ofNat i) s.2 J = f_X11_between_4 φ k (gzBs w nf ng s i).1 (Int32.ofNat (i + 1)) (gzBs w nf ng s i).2 J
    rw [f_X11_between_4, v.1.2.1, if_neg (by rw [gzn_le (by omega) (by omega)]; omega), c_frozen v hi]
    simp only [Option.bind_some]
    unfold gzBs
    by_cases x : tH w i = true
    · rw [if_pos x, if_pos x, if_pos rfl, gzn_succ]
    · rw [if_neg x, if_neg x, if_neg (by decide), show (1 : Int32) <<< (Int32.ofNat i &&& 31) = gzbt i from rfl, c_spin2 v hb hφ]
      simp only [Option.bind_some]
      rw [gzGd_in (by omega) (by omega), gzn_clamp (by omega), e8, e9]
      obtain ⟨d, d1, d2⟩ := c_conn (I := s.2) (nr := S_near w ng (gzAc w i)) (on := S_onw w ng (gzAc w i)) (fun f _ => S_near_bl hb hn) hn q1 q2 hφ
      rw [show (fun g => !tH w g && !gzB (gzbt i) g) = gzAc w i from rfl, d1, gzn_succ]
      simp only [Option.bind_some]
      by_cases y : gzCo w nf ng i = true
      · rw [if_pos (fun q => (d2.mp q) y), if_pos y]
      · rw [if_neg (fun q => q (d2.mpr y)), if_neg y]
  · intro k s hp
    show f_X11_between_4 φ (k + 1) s.1 (Int32.ofNat ng) s.2 J = _
    rw [f_X11_between_4, hp.1.1.2.1, if_pos (by rw [gzn_le (by omega) (by omega)]; omega)]
theorem m_between (h : gzVi I w nf ng) (hφ : 10 < φ) : f_X12_between_14 φ φ (gzSe (fun g => !tH w g) ng) 0 0 I J = some (S_betw w nf ng, I, J) := by
  obtain ⟨-, ⟨⟨-, -, hn, hg⟩, -⟩, b⟩ := id h
  refine gz_loop (F := fun k s i => f_X12_between_14 φ k (gzSe (fun g => !tH w g) ng) s i I J) (n := ng) (step := fun s i => if tH w i = true then s else if gzCo w nf ng i = true then s else s ||| gzbt i) (out := fun s => some (s, I, J)) ?_ ?_ ng 0 φ 0 (by omega) (by omega)
  · intro k s i hi
    have q1 := b.1 i hi
    have q2 := b.2.1 i hi
    show f_X12_between_14 φ (k + 1) (gzSe (fun g => !tH w g) ng) s (Int32.ofNat i) I J = f_X12_between_14 φ k (gzSe (fun g => !tH w g) ng) (if tH w i = true then s else if gzCo w nf ng i = true then s else s ||| gzbt i) (Int32.ofNat (i + 1)) I J
    simp (disch := omega) only [f_X12_between_14, m_grudges h, gzn_le, m_has, m_of0 h, m_of1 h, m_feudOf h, gzc_b0, gzn_succ, Option.bind_some, if_neg]
    have e1 : S_near w ng (gzB (gzSe (fun g => !tH w g) ng &&& (((1 : Int32) <<< (Int32.ofNat i &&& 31)) ^^^ (-1)))) = S_near w ng (gzAc w i) := funext fun f => S_near_congr fun g hg2 => by
      rw [gzb_and, gzSe_b (by omega) (by omega), gzb_not i (by omega) g (by omega)]
      unfold gzAc
      rw [gzb_bt (by omega) (by omega), decide_eq_true hg2, Bool.true_and]
    rw [e1, gzSe_b (by omega) (by omega), decide_eq_true hi, Bool.true_and]
    by_cases x : tH w i = true
    · rw [if_pos x, if_pos (by rw [x]; decide)]
    · rw [if_neg x, if_neg (by simpa using x)]
      by_cases y : gzCo w nf ng i = true
      · rw [if_pos y, if_pos (fun q => q y)]
      · rw [if_neg y, if_neg (fun q => q y)]; rfl
  · intro k s
    show f_X12_between_14 φ (k + 1) (gzSe (fun g => !tH w g) ng) s (Int32.ofNat ng) I J = _
    simp (disch := omega) only [f_X12_between_14, m_grudges h, Option.bind_some, gzn_le, if_pos]
theorem L_between (h : gzR I I) : ∃ v I1 I2 J2, f_X11_between 4096 I J = some (v, I1, J) ∧ f_X12_between 4096 I1 J = some (v, I2, J2) ∧ gzR I2 I2 := by
  obtain ⟨nf, ng, nl, nx, -, -, c, b, m⟩ := gzR_go h
  obtain ⟨φ, hφ⟩ : ∃ φ, φ = 4096 := ⟨_, rfl⟩
  rw [← hφ]
  obtain ⟨I1, e1, e2⟩ := c_between (J := J) (φ := φ) c b (by omega)
  have hR : gzR I1 I1 := gzR_scr h fun t o k hk => by
    by_cases e : 41 ≤ o ∧ o ≤ 43
    · exact absurd (by unfold gzCs gzMw; omega) hk
    · exact e2 t o k e
  have m' : gzVi (gz_ui I1 0 47 0 0) (I 0 48) nf ng := by
    refine ⟨fun k hk => ?_, (m 0).2⟩
    have := (m 0).1 k hk
    rw [gz_ui_o (by decide)] at this ⊢
    rw [e2 _ _ _ (by omega)]
  refine ⟨S_betw (I 0 48) nf ng, I1, gz_ui I1 0 47 0 0, J, e1, ?_, gzR_thr hR⟩
  unfold f_X12_between
  rw [m_standing m' (by omega)]
  exact m_between m' (by omega)
/-- count -/
def S_lard (w : Nat → Int32) (nf : Nat) : Int32 := gzFo (fun s i => s + w (32 + 4 * i)) 0 nf 0
theorem c_lard (h : gzVc I t w nf ng) (hφ : 10 < φ) : f_X0_allLarders φ t I = some (S_lard w nf) := by
  obtain ⟨⟨h1, h2, h3, h4⟩, hF, hT, hS, hA, hI, hU, hH, hP, hN, hL, hO, hB, hD⟩ := id h
  unfold f_X0_allLarders
  refine gz_loop (F := fun k s i => f_X0_allLarders_4 φ t I k s i) (n := nf) (out := some) ?_ ?_ nf 0 φ 0 (by omega) (by omega)
  · intro k s i hi
    show f_X0_allLarders_4 φ t I (k + 1) s (Int32.ofNat i) = f_X0_allLarders_4 φ t I k _ (Int32.ofNat (i + 1))
    simp (disch := omega) only [f_X0_allLarders_4, h1, gzn_le, gzGd_in, gzn_clamp, hL, gzn_succ, if_neg]
  · intro k s
    show f_X0_allLarders_4 φ t I (k + 1) s (Int32.ofNat nf) = some s
    simp (disch := omega) only [f_X0_allLarders_4, h1, gzn_le, if_pos]
def S_ice (w : Nat → Int32) (ng : Nat) : Int32 := gzFo (fun s i => if tH w i = true then s else s + w (58 + 7 * i)) 0 ng 0
theorem c_allIce (h : gzVc I t w nf ng) (hφ : 10 < φ) : f_X1_allIce φ t I = some (S_ice w ng) := by
  obtain ⟨⟨h1, h2, h3, h4⟩, hF, hT, hS, hA, hI, hU, hH, hP, hN, hL, hO, hB, hD⟩ := id h
  rw [s_X1_allIce h2 h4 (by omega)]
  refine congrArg some (gzFo_congr _ _ _ fun s i _ hi => ?_)
  rw [hH i (by omega), hI i (by omega)]
  cases tH w i <;> rfl
theorem m_allIce (h : gzVi I w nf ng) (hφ : 10 < φ) : f_X12_iceOf φ I (gzSe (fun g => !tH w g) ng) = some (S_ice w ng) := by
  have h4 := h.2.1.1.2.2.2
  rw [s_X12_iceOf (by rw [h.1 1 (by omega)]; exact h.2.1.1.2.1) h4 (by omega)]
  refine congrArg some (gzFo_congr _ _ _ fun s i _ hi => ?_)
  rw [gzSe_b (by omega) (by omega), decide_eq_true (show i < ng by omega), h.1 _ (by omega)]
  cases tH w i <;> rfl
theorem c_standing (h : gzVc I t w nf ng) (hφ : 10 < φ) : f_X1_frozenOnes φ t I = some (gzSe (fun g => !tH w g) ng) := by
  obtain ⟨⟨h1, h2, h3, h4⟩, hF, hT, hS, hA, hI, hU, hH, hP, hN, hL, hO, hB, hD⟩ := id h
  rw [s_X1_frozenOnes h2 h4 (by omega)]
  refine congrArg some (gzFo_congr _ _ _ fun s i _ hi => ?_)
  rw [hH i (by omega)]
  show (if (if tH w i = true then (1 : Int32) else 0) = 0 then s ||| gzbt i else s) = s ||| (if (!tH w i) = true then gzbt i else 0)
  cases tH w i
  · rfl
  · show s = s ||| 0
    rw [gz_or0]
theorem L_count (p0 : Int32) (h : gzR I I) : ∃ v I2 J2, f_X11_count 4096 I p0 = some v ∧ f_X12_count 4096 p0 I J = some (v, I2, J2) ∧ gzR I2 I2 := by
  obtain ⟨nf, ng, nl, nx, hT, hx, c, b, m⟩ := gzR_go h
  have hn := c.1.2.2.1
  have m' := m 0
  have em : ∀ k, gz_ui I 0 47 0 0 0 48 k = I 0 48 k := fun k => gz_ui_o (by decide)
  have e7 : gz_ui I 0 47 0 0 0 47 7 = I 0 47 7 := by unfold gz_ui; rw [if_neg (by omega)]
  obtain ⟨w0, v0, hw1, hw2, -, hlaw, hpast, -, -, -, hbo⟩ := id h
  obtain ⟨⟨a1, a2, a3, a4, a5, a6⟩, ⟨b1, b2, b3, b4, b5, b6⟩, -, -, -, -, hl⟩ := id hT
  obtain ⟨pk, pm, -, -, pk1, pk2, -⟩ := hpast
  have hbool := (hbo 0 (by omega) (by omega)).2
  have hlw : I 0 20 7 = if ¬ I 0 48 3 = 1 then -1 else I 0 48 364 := by
    rw [hw1 3 (by omega)]
    rcases hlaw with ⟨q1, q2⟩ | ⟨q1, nl, nc, -, -, q2, q3, -⟩
    · rw [q1, if_pos (by decide), q2]
    · rw [q1, if_neg (by decide), q2, show (364 : Nat) = 364 + 0 from rfl, hw2 0 (by omega), q3]
  have loop : ∀ a, f_X12_count_9 4096 4096 a 0 0 (gz_ui I 0 47 0 0) J = f_X12_count_9 4096 1 a (S_lard (I 0 48) nf) (Int32.ofNat nf) (gz_ui I 0 47 0 0) J := by
    intro a
    obtain ⟨φ, hφ⟩ : ∃ φ, φ = 4096 := ⟨_, rfl⟩
    rw [← hφ]
    generalize gz_ui I 0 47 0 0 = I2 at m'
    refine gz_loop (F := fun k s i => f_X12_count_9 φ k a s i I2 J) (n := nf) (step := fun s i => s + (I 0 48) (32 + 4 * i)) (out := fun s => f_X12_count_9 φ 1 a s (Int32.ofNat nf) I2 J) ?_ ?_ nf 0 φ 0 (by omega) (by omega)
    · intro k s i hi
      show f_X12_count_9 φ (k + 1) a s (Int32.ofNat i) I2 J = f_X12_count_9 φ k a (s + (I 0 48) (32 + 4 * i)) (Int32.ofNat (i + 1)) I2 J
      rw [f_X12_count_9, m_families m']
      simp only [Option.bind_some]
      rw [if_neg (by rw [gzn_le (by omega) (by omega)]; omega), m_ofFamily2 m' hi, gzn_succ]
      rfl
    · intro k s
      show f_X12_count_9 φ (k + 1) a s (Int32.ofNat nf) I2 J = f_X12_count_9 φ (0 + 1) a s (Int32.ofNat nf) I2 J
      have hle : Int32.ofNat nf ≤ Int32.ofNat nf := (gzn_le (by omega) (by omega)).mpr (Nat.le_refl _)
      rw [f_X12_count_9, f_X12_count_9, m_families m']
      simp only [Option.bind_some]
      rw [if_pos hle, if_pos hle]
  refine ⟨if p0 = 0 then Int32.ofNat nf else if p0 = 1 then gzSe (fun g => !tH (I 0 48) g) ng else if p0 = 2 then I 0 48 2 else if p0 = 3 then I 0 20 7 else if p0 = 4 then I 0 48 4 else if p0 = 5 then I 0 48 5 else if p0 = 6 then I 0 48 6 else if p0 = 7 then I 0 48 7 else if p0 = 8 then S_ice (I 0 48) ng else if p0 = 9 then S_lard (I 0 48) nf else if p0 = 10 then I 0 48 8 else if p0 = 11 then I 0 47 7 else -1, gz_ui I 0 47 0 0, J, ?_, ?_, gzR_thr h⟩
  · unfold f_X11_count
    rw [c_standing c (by omega), c_allIce c (by omega), c_lard c (by omega), c.1.1, b1, b2, b3, b5, hl.2.2.1, hl.2.2.2.1, pk1, pk2]
    have e6 : (if I 0 0 9 = 0 then (0 : Int32) else 1) = I 0 48 6 := by
      rw [← b4]
      rcases hbool with q | q <;> rw [q] <;> rfl
    rw [e6]
    simp only [Option.bind_some]
    by_cases q0 : p0 = 0
    · rw [if_pos q0, if_pos q0]
    rw [if_neg q0, if_neg q0]
    by_cases q1 : p0 = 1
    · rw [if_pos q1, if_pos q1]
    rw [if_neg q1, if_neg q1]
    by_cases q2 : p0 = 2
    · rw [if_pos q2, if_pos q2]
    rw [if_neg q2, if_neg q2]
    by_cases q3 : p0 = 3
    · rw [if_pos q3, if_pos q3]
    rw [if_neg q3, if_neg q3]
    by_cases q4 : p0 = 4
    · rw [if_pos q4, if_pos q4]
    rw [if_neg q4, if_neg q4]
    by_cases q5 : p0 = 5
    · rw [if_pos q5, if_pos q5]
    rw [if_neg q5, if_neg q5]
    by_cases q6 : p0 = 6
    · rw [if_pos q6, if_pos q6]
    rw [if_neg q6, if_neg q6]
    by_cases q7 : p0 = 7
    · rw [if_pos q7, if_pos q7]
    rw [if_neg q7, if_neg q7]
    by_cases q8 : p0 = 8
    · rw [if_pos q8, if_pos q8]
    rw [if_neg q8, if_neg q8]
    by_cases q9 : p0 = 9
    · rw [if_pos q9, if_pos q9]
    rw [if_neg q9, if_neg q9]
    by_cases q10 : p0 = 10
    · rw [if_pos q10, if_pos q10]
    rw [if_neg q10, if_neg q10]
    by_cases q11 : p0 = 11
    · rw [if_pos q11, if_pos q11]
    rw [if_neg q11, if_neg q11]
  · unfold f_X12_count
    rw [loop, f_X12_count_9, m_families m', m_standing m' (by omega)]
    simp only [Option.bind_some]
    rw [m_allIce m' (by omega), if_pos (by rw [gzn_le (by omega) (by omega)]; omega)]
    simp only [Option.bind_some, em, e7, hlw]
    by_cases q0 : p0 = 0
    · rw [if_pos q0, if_pos q0]
    rw [if_neg q0, if_neg q0]
    by_cases q1 : p0 = 1
    · rw [if_pos q1, if_pos q1]
    rw [if_neg q1, if_neg q1]
    by_cases q2 : p0 = 2
    · rw [if_pos q2, if_pos q2]
    rw [if_neg q2, if_neg q2]
    by_cases q3 : p0 = 3
    · rw [if_pos q3, if_pos q3]
      by_cases x : I 0 48 3 = 1
      · rw [if_neg (fun q => q x), if_neg (fun q => q x)]
      · rw [if_pos x, if_pos x]
    rw [if_neg q3, if_neg q3]
    by_cases q4 : p0 = 4
    · rw [if_pos q4, if_pos q4]
    rw [if_neg q4, if_neg q4]
    by_cases q5 : p0 = 5
    · rw [if_pos q5, if_pos q5]
    rw [if_neg q5, if_neg q5]
    by_cases q6 : p0 = 6
    · rw [if_pos q6, if_pos q6]
    rw [if_neg q6, if_neg q6]
    by_cases q7 : p0 = 7
    · rw [if_pos q7, if_pos q7]
    rw [if_neg q7, if_neg q7]
    by_cases q8 : p0 = 8
    · rw [if_pos q8, if_pos q8]
    rw [if_neg q8, if_neg q8]
    by_cases q9 : p0 = 9
    · rw [if_pos q9, if_pos q9]
    rw [if_neg q9, if_neg q9]
    by_cases q10 : p0 = 10
    · rw [if_pos q10, if_pos q10]
    rw [if_neg q10, if_neg q10]
    by_cases q11 : p0 = 11
    · rw [if_pos q11, if_pos q11]
    rw [if_neg q11, if_neg q11]
end
