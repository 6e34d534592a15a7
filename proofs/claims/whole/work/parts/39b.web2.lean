/-! ring, between, friends, rota -/
section
variable {I I' : gzIT} {J : gzJT} {w : Nat → Int32} {nf ng t φ : Nat}
/-- those scorned by one of a set -/
def S_sc (w : Nat → Int32) (ng : Nat) (x : Int32) : Int32 := gzFo (fun s g => s ||| (if (!tH w g && gzB x (tF w g)) = true then gzbt (tT w g) else 0)) 0 ng 0
theorem S_sc_b {x : Int32} {j : Nat} (hb : gzVb w nf ng) (hn : nf ≤ 6) (hj : j < 32) : gzB (S_sc w ng x) j = gzAn (fun g => !tH w g && gzB x (tF w g) && (tT w g == j)) 0 ng := by
  unfold S_sc
  rw [gzb_fo, gzb_zero, Bool.false_or]
  refine gzAn_congr fun g _ hg => ?_
  have q2 := hb.2.1 g (by omega)
  by_cases x1 : (!tH w g && gzB x (tF w g)) = true
  · rw [if_pos x1, x1, gzb_bt (by omega) hj, Bool.true_and]
    by_cases e : j = tT w g
    · subst e; simp
    · rw [decide_eq_false e]; symm; exact beq_eq_false_iff_ne.mpr (fun q => e q.symm)
  · rw [if_neg x1, gzb_zero]
    have : (!tH w g && gzB x (tF w g)) = false := by simpa using x1
    rw [this]; rfl
theorem gzOn_b {f j : Nat} (hb : gzVb w nf ng) (hn : nf ≤ 6) (hj : j < 32) : gzB (gzOn w ng f) j = gzAn (fun g => !tH w g && (tF w g == f) && (tT w g == j)) 0 ng := by
  unfold gzOn S_onw
  rw [gzb_fo, gzb_zero, Bool.false_or]
  refine gzAn_congr fun g _ hg => ?_
  have q2 := hb.2.1 g (by omega)
  unfold gzOq
  by_cases x1 : (!tH w g && tF w g == f) = true
  · rw [if_pos x1, x1, gzb_bt (by omega) hj, Bool.true_and]
    by_cases e : j = tT w g
    · subst e; simp
    · rw [decide_eq_false e]; symm; exact beq_eq_false_iff_ne.mpr (fun q => e q.symm)
  · rw [if_neg x1, gzb_zero]
    have : (!tH w g && tF w g == f) = false := by simpa using x1
    rw [this]; rfl
theorem S_sc_on {a : Nat} (hb : gzVb w nf ng) (hn : nf ≤ 6) (ha : a < nf) : S_sc w ng (gzbt a) = gzOn w ng a := gzb_ext fun j hj => by
  rw [S_sc_b hb hn hj, gzOn_b hb hn hj]
  refine gzAn_congr fun g _ hg => ?_
  have q1 := hb.1 g (by omega)
  rw [gzb_bt (by omega) (by omega)]
  congr 2
theorem S_sc_wide {x : Int32} (hb : gzVb w nf ng) (hn : nf ≤ 6) : x ||| S_sc w ng x = S_wide (gzOn w ng) nf x := gzb_ext fun j hj => by
  rw [gzb_or, S_sc_b hb hn hj, S_wide_b]
  congr 1
  apply Bool.eq_iff_iff.mpr
  rw [gzAn_iff, gzAn_iff]
  constructor
  · rintro ⟨g, h1, h2, h3⟩
    simp only [Bool.and_eq_true] at h3
    have q1 := hb.1 g (by omega)
    refine ⟨tF w g, by omega, by omega, ?_⟩
    rw [Bool.and_eq_true, gzOn_b hb hn hj, gzAn_iff]
    exact ⟨h3.1.2, g, h1, h2, by simp [h3.2]; simpa using h3.1.1⟩
  · rintro ⟨f, h1, h2, h3⟩
    rw [Bool.and_eq_true, gzOn_b hb hn hj, gzAn_iff] at h3
    obtain ⟨h3, g, a, b, c⟩ := h3
    simp only [Bool.and_eq_true] at c
    refine ⟨g, a, b, ?_⟩
    have : tF w g = f := by simpa using c.1.2
    simp only [Bool.and_eq_true]
    exact ⟨⟨c.1.1, by rw [this]; exact h3⟩, c.2⟩
theorem m_scornedBy {x : Int32} (h : gzVi I w nf ng) (hφ : 10 < φ) : f_X12_scornedBy φ I x = some (S_sc w ng x) := by
  obtain ⟨-, ⟨⟨-, -, h3, h4⟩, -⟩, bF, bT, bN, -⟩ := id h
  unfold f_X12_scornedBy
  refine gz_loop (F := fun k s i => f_X12_scornedBy_4 φ I k x s i) (n := ng) (step := fun s g => s ||| (if (!tH w g && gzB x (tF w g)) = true then gzbt (tT w g) else 0)) (out := some) ?_ ?_ ng 0 φ 0 (by omega) (by omega)
  · intro k s i hi
    have q1 := bF i hi
    show f_X12_scornedBy_4 φ I (k + 1) x s (Int32.ofNat i) = f_X12_scornedBy_4 φ I k x (s ||| (if (!tH w i && gzB x (tF w i)) = true then gzbt (tT w i) else 0)) (Int32.ofNat (i + 1))
    simp (disch := omega) only [f_X12_scornedBy_4, m_grudges h, gzn_le, m_isThawed h, m_of0 h, m_of1 h, m_has, gzc_b0, gzn_succ, Option.bind_some, if_neg]
    by_cases x1 : tH w i = true <;> by_cases x2 : gzB x (tF w i) = true <;> simp [x1, x2, gzbt]
  · intro k s
    show f_X12_scornedBy_4 φ I (k + 1) x s (Int32.ofNat ng) = some s
    simp (disch := omega) only [f_X12_scornedBy_4, m_grudges h, Option.bind_some, gzn_le, if_pos]
theorem L_ring (p0 : Int32) (h : gzR I I) : ∃ e I1, f_X11_ring 4096 p0 I J = some (e, I1, J) ∧ (∀ E, e = .error E → ∃ k : Nat, (["java/lang/IndexOutOfBoundsException"] : List String)[k]? = some E) ∧ ∀ J' : gzJT, ∃ v I2 J2, f_X12_ring 4096 p0 I1 J' = some (v, I2, J2) ∧ gzSame e ["java/lang/IndexOutOfBoundsException"] v (I2 0 47 0) ∧ J2 0 59 0 = J' 0 59 0 ∧ gzR I2 I2 := by
  obtain ⟨nf, ng, nl, nx, -, -, c, b, m⟩ := gzR_go h
  have hn := c.1.2.2.1
  have hg := c.1.2.2.2
  obtain ⟨φ, hφ⟩ : ∃ φ, φ = 4096 := ⟨_, rfl⟩
  rw [← hφ]
  rcases p_fam (a := p0) (J := J) c (m 0) with ⟨⟨k, hk, rfl⟩, e1, e2⟩ | ⟨e1, e2⟩
  · refine ⟨.ok (if gzB (gzIx (gzOn (I 0 48) ng) nf (gzOn (I 0 48) ng k) nf) k = true then 1 else 0), gzSpn I (I 0 48) nf ng, ?_, fun E hE => (by cases hE), fun J' => ⟨if gzB (gzIx (gzOn (I 0 48) ng) nf (gzOn (I 0 48) ng k) nf) k = true then 1 else 0, gz_ui (gzSpn I (I 0 48) nf ng) 0 47 0 0, J', ?_, ⟨rfl, gz_ui_s⟩, rfl, gzR_thr (gzSp_R h)⟩⟩
    · unfold f_X11_ring
      rw [e1]
      simp only [Option.bind_some, gzEx]
      rw [c_spin0 c b (by omega)]
      simp only [Option.bind_some]
      unfold f_X10_comesBack gzSpn
      simp (disch := omega) only [gzc_cell, gzSp_on, c_whole3 hn (show 10 < φ by omega), gzc_has, Option.bind_some, gzc_gz]
    · have m' : gzVi (gz_ui (gzSpn I (I 0 48) nf ng) 0 47 0 0) (I 0 48) nf ng := gzSp_vi (m 0)
      have g1 : f_X12_noFamily (gz_ui (gzSpn I (I 0 48) nf ng) 0 47 0 0) (Int32.ofNat k) = some 0 := by
        rcases p_fam (a := Int32.ofNat k) (J := J) c m' with ⟨-, -, q⟩ | ⟨q, -⟩
        · exact q
        · rw [e1] at q; cases q
      unfold f_X12_ring
      rw [g1]
      simp only [Option.bind_some, if_true, s_throws0]
      rw [show (1 : Int32) <<< (Int32.ofNat k &&& 31) = gzbt k from rfl, m_scornedBy m' (by omega), S_sc_on b hn hk]
      simp only [Option.bind_some]
      generalize gz_ui (gzSpn I (I 0 48) nf ng) 0 47 0 0 = I2 at m' ⊢
      refine (gz_loop (F := fun k2 s i => f_X12_ring_30 φ k2 (Int32.ofNat k) s i I2 J') (n := 6) (step := fun s _ => S_wide (gzOn (I 0 48) ng) nf s) (out := fun s => some (if gzB s k = true then 1 else 0, I2, J')) ?_ ?_ 6 0 φ (gzOn (I 0 48) ng k) (by omega) (by omega)).trans ?_
      · intro k2 s i hi
        show f_X12_ring_30 φ (k2 + 1) (Int32.ofNat k) s (Int32.ofNat i) I2 J' = f_X12_ring_30 φ k2 (Int32.ofNat k) (S_wide (gzOn (I 0 48) ng) nf s) (Int32.ofNat (i + 1)) I2 J'
        simp (disch := omega) only [f_X12_ring_30, gzc_le1, m_scornedBy m', S_sc_wide b hn, gzn_succ, Option.bind_some, if_neg]
      · intro k2 s
        show f_X12_ring_30 φ (k2 + 1) (Int32.ofNat k) s 6 I2 J' = _
        rw [f_X12_ring_30, if_pos (by decide), m_has (by omega)]
        simp only [Option.bind_some, gzc_gz]
      · rw [gzFo_ix, gzIx_rest (q := gzOn (I 0 48) ng) (x := gzOn (I 0 48) ng k) hn (fun f _ => S_onw_bl b hn) (S_onw_bl b hn) (Nat.zero_le _) (i := 6) (j := nf) (by omega) (by omega)]
  · refine ⟨.error "java/lang/IndexOutOfBoundsException", I, ?_, fun E hE => ⟨0, by cases hE; rfl⟩, fun J' => ⟨0, gz_ui (gz_ui I 0 47 0 0) 0 47 0 1, J', ?_, ⟨0, rfl, gz_ui_s⟩, rfl, gzR_thr2 h⟩⟩
    · unfold f_X11_ring
      rw [e1]; rfl
    · unfold f_X12_ring
      rw [e2]
      simp only [Option.bind_some, s_throws1]
      rfl
/-- friends -/
theorem c_friends (hn : nf ≤ 6) (hφ : 10 < φ) : f_X10_strangers φ (gzSpn I w nf ng) = some ((Int32.ofNat nf * (Int32.ofNat nf - 1) - gzFo (fun s i => s + gzBc (gzNr w ng i)) 0 nf 0) / 2) := by
  unfold f_X10_strangers gzSpn
  refine gz_loop (F := fun k s i => f_X10_strangers_4 φ (gzSp I nf (gzNr w ng) (gzOn w ng)) k s i) (n := nf) (step := fun s i => s + gzBc (gzNr w ng i)) (out := fun s => some ((Int32.ofNat nf * (Int32.ofNat nf - 1) - s) / 2)) ?_ ?_ nf 0 φ 0 (by omega) (by omega)
  · intro k s i hi
    show f_X10_strangers_4 φ (gzSp I nf (gzNr w ng) (gzOn w ng)) (k + 1) s (Int32.ofNat i) = f_X10_strangers_4 φ _ k (s + gzBc (gzNr w ng i)) (Int32.ofNat (i + 1))
    simp (disch := omega) only [f_X10_strangers_4, gzSp_n, gzn_le, gzGd_in, gzn_clamp, gzSp_nr, gzBc_eq, gzn_succ, Option.bind_some, if_neg]
  · intro k s
    show f_X10_strangers_4 φ (gzSp I nf (gzNr w ng) (gzOn w ng)) (k + 1) s (Int32.ofNat nf) = _
    simp (disch := omega) only [f_X10_strangers_4, gzSp_n, gzn_le, if_pos]
theorem m_friendsBy {S : Int32} (h : gzVi I w nf ng) (hφ : 10 < φ) : f_X12_friendsBy φ I S = some (gzFo (fun s i => s + ((Int32.ofNat nf - 1) - gzBc (S_near w ng (gzB S) i))) 0 nf 0 / 2) := by
  have hn := h.2.1.1.2.2.1
  unfold f_X12_friendsBy
  refine gz_loop (F := fun k s i => f_X12_friendsBy_4 φ I k S s i) (n := nf) (step := fun s i => s + ((Int32.ofNat nf - 1) - gzBc (S_near w ng (gzB S) i))) (out := fun s => some (s / 2)) ?_ ?_ nf 0 φ 0 (by omega) (by omega)
  · intro k s i hi
    show f_X12_friendsBy_4 φ I (k + 1) S s (Int32.ofNat i) = f_X12_friendsBy_4 φ I k S (s + ((Int32.ofNat nf - 1) - gzBc (S_near w ng (gzB S) i))) (Int32.ofNat (i + 1))
    simp (disch := omega) only [f_X12_friendsBy_4, m_families h, gzn_le, m_quarrelsOf h, gzBc_eq, gzn_succ, Option.bind_some, if_neg]
  · intro k s
    show f_X12_friendsBy_4 φ I (k + 1) S s (Int32.ofNat nf) = _
    simp (disch := omega) only [f_X12_friendsBy_4, m_families h, Option.bind_some, gzn_le, if_pos]
theorem gz_sum1 {p : Nat → Int32} {a : Int32} : ∀ (m i : Nat) (x y : Int32), gzFo (fun s i => s + (a - p i)) i m (x - y) = (x + Int32.ofNat m * a) - gzFo (fun s i => s + p i) i m y := by
  intro m
  induction m with
  | zero =>
    intro i x y
    show x - y = (x + 0 * a) - y
    rw [Int32.zero_mul, Int32.add_zero]
  | succ m ih =>
    intro i x y
    show gzFo (fun s i => s + (a - p i)) (i + 1) m (x - y + (a - p i)) = (x + Int32.ofNat (m + 1) * a) - gzFo (fun s i => s + p i) (i + 1) m (y + p i)
    rw [show x - y + (a - p i) = (x + a) - (y + p i) by grind, ih, show Int32.ofNat (m + 1) = Int32.ofNat m + 1 from (gzn_succ m).symm]
    congr 1
    grind
theorem L_friends (h : gzR I I) : ∃ v I1 I2 J2, f_X11_friends 4096 I J = some (v, I1, J) ∧ f_X12_friends 4096 I1 J = some (v, I2, J2) ∧ gzR I2 I2 := by
  obtain ⟨nf, ng, nl, nx, -, -, c, b, m⟩ := gzR_go h
  have hn := c.1.2.2.1
  have hg := c.1.2.2.2
  refine ⟨(Int32.ofNat nf * (Int32.ofNat nf - 1) - gzFo (fun s i => s + gzBc (gzNr (I 0 48) ng i)) 0 nf 0) / 2, gzSpn I (I 0 48) nf ng, gz_ui (gzSpn I (I 0 48) nf ng) 0 47 0 0, J, ?_, ?_, gzR_thr (gzSp_R h)⟩
  · unfold f_X11_friends
    rw [c_spin0 c b (by omega)]
    simp only [Option.bind_some]
    rw [c_friends hn (by omega)]; rfl
  · have m' : gzVi (gz_ui (gzSpn I (I 0 48) nf ng) 0 47 0 0) (I 0 48) nf ng := gzSp_vi (m 0)
    unfold f_X12_friends
    rw [m_standing m' (by omega)]
    simp only [Option.bind_some]
    rw [m_friendsBy m' (by omega), show S_near (I 0 48) ng (gzB (gzSe (fun g => !tH (I 0 48) g) ng)) = gzNr (I 0 48) ng from funext fun f => gzNr_m hg]
    simp only [Option.bind_some]
    have := gz_sum1 (p := fun i => gzBc (gzNr (I 0 48) ng i)) (a := Int32.ofNat nf - 1) nf 0 0 0
    rw [show (0 : Int32) - 0 = 0 from rfl, Int32.zero_add] at this
    rw [this]
/-- rota -/
theorem c_isOf {g f : Nat} (h : gzVc I t w nf ng) (hb : gzVb w nf ng) (hg : g < ng) (hf : f < 6) : f_X1_isOf t I (Int32.ofNat g) (Int32.ofNat f) = some (if tF w g = f ∨ tT w g = f then 1 else 0) := by
  obtain ⟨⟨h1, h2, h3, h4⟩, hF, hT, hS, hA, hI, hU, hH, hP, hN, hL, hO, hB, hD⟩ := id h
  have q1 := hb.1 g hg
  have q2 := hb.2.1 g hg
  unfold f_X1_isOf
  simp (disch := omega) only [gzc_cell, hF, hT, Option.bind_some, gzn_inj]
  by_cases e1 : tF w g = f <;> by_cases e2 : tT w g = f <;> simp [e1, e2]
theorem c_quarrels {f : Nat} (h : gzVc I t w nf ng) (hb : gzVb w nf ng) (hf : f < 6) (hφ : 10 < φ) : f_X1_quarrels φ t I (Int32.ofNat f) = some (if gzAn (fun g => !tH w g && (tF w g == f || tT w g == f)) 0 ng = true then 1 else 0) := by
  obtain ⟨⟨h1, h2, h3, h4⟩, hF, hT, hS, hA, hI, hU, hH, hP, hN, hL, hO, hB, hD⟩ := id h
  unfold f_X1_quarrels
  have key := gz_exit (F := fun k i => f_X1_quarrels_2 φ t I k (Int32.ofNat f) i) (n := ng) (p := fun g => !tH w g && (tF w g == f || tT w g == f)) (r := fun _ => 1) (o := some 0) ?_ ?_ ng 0 φ (by omega) (by omega)
  · rcases key with ⟨e1, e2⟩ | ⟨e1, j, -, -, -, -, e2⟩
    · rw [e1]; exact e2
    · rw [e1]; exact e2
  · intro k i hi
    show f_X1_quarrels_2 φ t I (k + 1) (Int32.ofNat f) (Int32.ofNat i) = if (!tH w i && (tF w i == f || tT w i == f)) = true then some 1 else f_X1_quarrels_2 φ t I k (Int32.ofNat f) (Int32.ofNat (i + 1))
    simp (disch := omega) only [f_X1_quarrels_2, h2, gzn_le, gzGd_in, gzn_clamp, hH, c_isOf h hb, gzc_b0, gzc_p0, gzn_succ, Option.bind_some, if_neg]
    by_cases x : tH w i = true <;> by_cases e1 : tF w i = f <;> by_cases e2 : tT w i = f <;> simp [x, e1, e2]
  · intro k
    show f_X1_quarrels_2 φ t I (k + 1) (Int32.ofNat f) (Int32.ofNat ng) = some 0
    simp (disch := omega) only [f_X1_quarrels_2, h2, gzn_le, if_pos]
theorem gzNr_0 {f : Nat} (hb : gzVb w nf ng) (hn : nf ≤ 6) : (gzNr w ng f = 0) ↔ gzAn (fun g => !tH w g && (tF w g == f || tT w g == f)) 0 ng = false := by
  constructor
  · intro h0
    cases hh : gzAn (fun g => !tH w g && (tF w g == f || tT w g == f)) 0 ng with
    | false => rfl
    | true =>
      exfalso
      obtain ⟨g, a, b, c⟩ := gzAn_iff.mp hh
      have q1 := hb.1 g (by omega)
      have q2 := hb.2.1 g (by omega)
      simp only [Bool.and_eq_true, Bool.or_eq_true] at c
      have bit : ∀ j, j < 32 → gzB (gzNq w (fun g => !tH w g) f g) j = true → False := by
        intro j hj hq
        have : gzB (gzNr w ng f) j = true := by
          unfold gzNr S_near
          rw [gzb_fo, gzb_zero, Bool.false_or]
          exact gzAn_iff.mpr ⟨g, a, b, hq⟩
        rw [h0, gzb_zero] at this; cases this
      have ht : tH w g = false := by simpa using c.1
      by_cases e1 : tF w g = f
      · refine bit (tT w g) (by omega) ?_
        unfold gzNq
        rw [if_pos (by simp [ht, e1]), gzb_bt (by omega) (by omega)]; simp
      · have e2 : tT w g = f := by
          rcases c.2 with q | q
          · exact absurd (by simpa using q) e1
          · simpa using q
        refine bit (tF w g) (by omega) ?_
        unfold gzNq
        rw [if_neg (by simp [ht, e1]), if_pos (by simp [ht, e2]), gzb_bt (by omega) (by omega)]; simp
  · intro hh
    refine gzb_ext fun j hj => ?_
    rw [gzb_zero]
    unfold gzNr S_near
    rw [gzb_fo, gzb_zero, Bool.false_or]
    cases h2 : gzAn (fun g => gzB (gzNq w (fun g => !tH w g) f g) j) 0 ng with
    | false => rfl
    | true =>
      exfalso
      obtain ⟨g, a, b, c⟩ := gzAn_iff.mp h2
      have : gzAn (fun g => !tH w g && (tF w g == f || tT w g == f)) 0 ng = true := by
        refine gzAn_iff.mpr ⟨g, a, b, ?_⟩
        unfold gzNq at c
        split at c
        · next q => rw [Bool.and_eq_true] at q ⊢; exact ⟨q.1, by rw [q.2]; rfl⟩
        · split at c
          · next q => rw [Bool.and_eq_true] at q ⊢; exact ⟨q.1, by rw [q.2]; simp⟩
          · rw [gzb_zero] at c; cases c
      rw [hh] at this; cases this
def S_rota (w : Nat → Int32) (nf ng : Nat) : Int32 := gzFo (fun s i => if gzAn (fun g => !tH w g && (tF w g == i || tT w g == i)) 0 ng = true then s else s + 1) 0 nf 0
theorem L_rota (h : gzR I I) : ∃ v I2 J2, f_X11_rota 4096 I = some v ∧ f_X12_rota 4096 I J = some (v, I2, J2) ∧ gzR I2 I2 := by
  obtain ⟨nf, ng, nl, nx, -, -, c, b, m⟩ := gzR_go h
  have hn := c.1.2.2.1
  have hg := c.1.2.2.2
  have m' := m 0
  obtain ⟨φ, hφ⟩ : ∃ φ, φ = 4096 := ⟨_, rfl⟩
  rw [← hφ]
  refine ⟨if nf = 1 then -1 else (S_rota (I 0 48) nf ng + 1) / 2, gz_ui I 0 47 0 0, J, ?_, ?_, gzR_thr h⟩
  · unfold f_X11_rota
    rw [c.1.1]
    by_cases e : nf = 1
    · subst e; rfl
    · rw [if_neg e, if_pos (by rw [gzc_eq2 (by omega) (by omega)]; exact e)]
      refine gz_loop (F := fun k s i => f_X11_rota_20 φ I k s i) (n := nf) (step := fun s i => if gzAn (fun g => !tH (I 0 48) g && (tF (I 0 48) g == i || tT (I 0 48) g == i)) 0 ng = true then s else s + 1) (out := fun s => some ((s + 1) / 2)) ?_ ?_ nf 0 φ 0 (by omega) (by omega)
      · intro k s i hi
        show f_X11_rota_20 φ I (k + 1) s (Int32.ofNat i) = f_X11_rota_20 φ I k (if gzAn (fun g => !tH (I 0 48) g && (tF (I 0 48) g == i || tT (I 0 48) g == i)) 0 ng = true then s else s + 1) (Int32.ofNat (i + 1))
        simp (disch := omega) only [f_X11_rota_20, c.1.1, gzn_le, c_quarrels c b, gzc_b0, gzn_succ, Option.bind_some, if_neg]
        by_cases y : gzAn (fun g => !tH (I 0 48) g && (tF (I 0 48) g == i || tT (I 0 48) g == i)) 0 ng = true
        · rw [if_pos (fun q => q y), if_pos y]
        · rw [if_neg (fun q => q y), if_neg y]
      · intro k s
        show f_X11_rota_20 φ I (k + 1) s (Int32.ofNat nf) = _
        simp (disch := omega) only [f_X11_rota_20, c.1.1, gzn_le, if_pos]
  · unfold f_X12_rota
    rw [m_families m']
    simp only [Option.bind_some]
    generalize gz_ui I 0 47 0 0 = I2 at m' ⊢
    by_cases e : nf = 1
    · subst e; rfl
    · rw [if_neg e, if_pos (by rw [gzc_eq2 (by omega) (by omega)]; exact e)]
      refine gz_loop (F := fun k s i => f_X12_rota_19 φ k s i I2 J) (n := nf) (step := fun s i => if gzAn (fun g => !tH (I 0 48) g && (tF (I 0 48) g == i || tT (I 0 48) g == i)) 0 ng = true then s else s + 1) (out := fun s => some ((s + 1) / 2, I2, J)) ?_ ?_ nf 0 φ 0 (by omega) (by omega)
      · intro k s i hi
        have h0 := gzNr_0 (f := i) b hn
        show f_X12_rota_19 φ (k + 1) s (Int32.ofNat i) I2 J = f_X12_rota_19 φ k (if gzAn (fun g => !tH (I 0 48) g && (tF (I 0 48) g == i || tT (I 0 48) g == i)) 0 ng = true then s else s + 1) (Int32.ofNat (i + 1)) I2 J
        simp (disch := omega) only [f_X12_rota_19, m_families m', gzn_le, m_standing m', m_quarrelsOf m', gzn_succ, Option.bind_some, if_neg]
        rw [gzNr_m hg]
        by_cases y : gzAn (fun g => !tH (I 0 48) g && (tF (I 0 48) g == i || tT (I 0 48) g == i)) 0 ng = true
        · rw [if_pos (fun q => by rw [h0.mp q] at y; cases y), if_pos y, Int32.add_zero]
        · rw [if_neg (fun q => q (h0.mpr (by simpa using y))), if_neg y]
      · intro k s
        show f_X12_rota_19 φ (k + 1) s (Int32.ofNat nf) I2 J = _
        simp (disch := omega) only [f_X12_rota_19, m_families m', Option.bind_some, gzn_le, if_pos]
end
