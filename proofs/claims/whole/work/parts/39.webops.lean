/-! steps, ring, feud, between, friends, rota -/
section
variable {I I' : gzIT} {J : gzJT} {w : Nat → Int32} {nf ng t φ : Nat}
theorem c_spin2 {a : Int32} (h : gzVc I 0 w nf ng) (hb : gzVb w nf ng) (hφ : 10 < φ) : f_X10_spin φ 0 a I J = some ((), gzSp I nf (S_near w ng (fun g => !tH w g && !gzB a g)) (S_onw w ng (fun g => !tH w g && !gzB a g)), J) := by
  obtain ⟨nr, on, e, h1, h2⟩ := c_spin (J := J) (a := a) h hb hφ
  rw [e, show nr = _ from funext h1, show on = _ from funext h2]
theorem S_near_congr {p q : Nat → Bool} {f : Nat} (h : ∀ g, g < ng → p g = q g) : S_near w ng p f = S_near w ng q f := by
  unfold S_near
  refine gzFo_congr _ _ _ fun s g _ hg => ?_
  unfold gzNq
  rw [h g (by omega)]
theorem S_onw_congr {p q : Nat → Bool} {f : Nat} (h : ∀ g, g < ng → p g = q g) : S_onw w ng p f = S_onw w ng q f := by
  unfold S_onw
  refine gzFo_congr _ _ _ fun s g _ hg => ?_
  unfold gzOq
  rw [h g (by omega)]
theorem gzbt_bl {a n : Nat} (ha : a < n) (hn : n ≤ 32) : gzBl n (gzbt a) := by
  intro j h1 h2
  rw [gzb_bt (by omega) h2]
  exact decide_eq_false (by omega)
theorem S_near_bl {p : Nat → Bool} {f : Nat} (hb : gzVb w nf ng) (hn : nf ≤ 6) : gzBl nf (S_near w ng p f) := by
  intro j h1 h2
  unfold S_near
  rw [gzb_fo, gzb_zero, Bool.false_or]
  cases hh : gzAn (fun g => gzB (gzNq w p f g) j) 0 ng with
  | false => rfl
  | true =>
    obtain ⟨g, a, b, c⟩ := gzAn_iff.mp hh
    have q1 := hb.1 g (by omega)
    have q2 := hb.2.1 g (by omega)
    unfold gzNq at c
    split at c
    · rw [gzbt_bl q2 (by omega) j h1 h2] at c; cases c
    · split at c
      · rw [gzbt_bl q1 (by omega) j h1 h2] at c; cases c
      · rw [gzb_zero] at c; cases c
theorem S_onw_bl {p : Nat → Bool} {f : Nat} (hb : gzVb w nf ng) (hn : nf ≤ 6) : gzBl nf (S_onw w ng p f) := by
  intro j h1 h2
  unfold S_onw
  rw [gzb_fo, gzb_zero, Bool.false_or]
  cases hh : gzAn (fun g => gzB (gzOq w p f g) j) 0 ng with
  | false => rfl
  | true =>
    obtain ⟨g, a, b, c⟩ := gzAn_iff.mp hh
    have q2 := hb.2.1 g (by omega)
    unfold gzOq at c
    split at c
    · rw [gzbt_bl q2 (by omega) j h1 h2] at c; cases c
    · rw [gzb_zero] at c; cases c
theorem c_wider2 {nr on : Nat → Int32} {x : Int32} (hn : nf ≤ 6) (hφ : 10 < φ) : f_X10_wider φ 0 42 6 (gzSp I nf nr on) x = some (S_wide nr nf x) := by
  unfold f_X10_wider
  refine gz_loop (F := fun k s i => f_X10_wider_5 φ 0 42 6 (gzSp I nf nr on) k x s i) (n := nf) (step := fun s f => s ||| (if gzB x f = true then nr f else 0)) (out := some) ?_ ?_ nf 0 φ x (by omega) (by omega)
  · intro k s i hi
    show f_X10_wider_5 φ 0 42 6 (gzSp I nf nr on) (k + 1) x s (Int32.ofNat i) = f_X10_wider_5 φ 0 42 6 (gzSp I nf nr on) k x (s ||| (if gzB x i = true then nr i else 0)) (Int32.ofNat (i + 1))
    simp (disch := omega) only [f_X10_wider_5, gzSp_n, gzn_le, gzc_has, gzGd_in, gzn_clamp, gzSp_nr, gzc_b0, gzn_succ, Option.bind_some, if_neg]
    by_cases y : gzB x i = true <;> simp [y, gz_or0]
  · intro k s
    show f_X10_wider_5 φ 0 42 6 (gzSp I nf nr on) (k + 1) x s (Int32.ofNat nf) = some s
    simp (disch := omega) only [f_X10_wider_5, gzSp_n, gzn_le, if_pos]
theorem c_wider3 {nr on : Nat → Int32} {x : Int32} (hn : nf ≤ 6) (hφ : 10 < φ) : f_X10_wider φ 0 43 6 (gzSp I nf nr on) x = some (S_wide on nf x) := by
  unfold f_X10_wider
  refine gz_loop (F := fun k s i => f_X10_wider_5 φ 0 43 6 (gzSp I nf nr on) k x s i) (n := nf) (step := fun s f => s ||| (if gzB x f = true then on f else 0)) (out := some) ?_ ?_ nf 0 φ x (by omega) (by omega)
  · intro k s i hi
    show f_X10_wider_5 φ 0 43 6 (gzSp I nf nr on) (k + 1) x s (Int32.ofNat i) = f_X10_wider_5 φ 0 43 6 (gzSp I nf nr on) k x (s ||| (if gzB x i = true then on i else 0)) (Int32.ofNat (i + 1))
    simp (disch := omega) only [f_X10_wider_5, gzSp_n, gzn_le, gzc_has, gzGd_in, gzn_clamp, gzSp_on, gzc_b0, gzn_succ, Option.bind_some, if_neg]
    by_cases y : gzB x i = true <;> simp [y, gz_or0]
  · intro k s
    show f_X10_wider_5 φ 0 43 6 (gzSp I nf nr on) (k + 1) x s (Int32.ofNat nf) = some s
    simp (disch := omega) only [f_X10_wider_5, gzSp_n, gzn_le, if_pos]
theorem gzFo_ix {q : Nat → Int32} {x : Int32} : ∀ m, gzFo (fun s _ => S_wide q nf s) 0 m x = gzIx q nf x m := by
  intro m
  induction m with
  | zero => rfl
  | succ m ih =>
    rw [gzFo_last, ih]; rfl
theorem c_whole2 {nr on : Nat → Int32} {x : Int32} (hn : nf ≤ 6) (hφ : 10 < φ) : f_X10_whole φ 0 42 6 (gzSp I nf nr on) x = some (gzIx nr nf x nf) := by
  unfold f_X10_whole
  refine (gz_loop (F := fun k s i => f_X10_whole_5 φ 0 42 6 (gzSp I nf nr on) k s i) (n := nf) (step := fun s _ => S_wide nr nf s) (out := some) ?_ ?_ nf 0 φ x (by omega) (by omega)).trans (by rw [gzFo_ix])
  · intro k s i hi
    show f_X10_whole_5 φ 0 42 6 (gzSp I nf nr on) (k + 1) s (Int32.ofNat i) = f_X10_whole_5 φ 0 42 6 (gzSp I nf nr on) k (S_wide nr nf s) (Int32.ofNat (i + 1))
    simp (disch := omega) only [f_X10_whole_5, gzSp_n, gzn_le, c_wider2 hn hφ, gzn_succ, Option.bind_some, if_neg]
  · intro k s
    show f_X10_whole_5 φ 0 42 6 (gzSp I nf nr on) (k + 1) s (Int32.ofNat nf) = some s
    simp (disch := omega) only [f_X10_whole_5, gzSp_n, gzn_le, if_pos]
theorem c_whole3 {nr on : Nat → Int32} {x : Int32} (hn : nf ≤ 6) (hφ : 10 < φ) : f_X10_whole φ 0 43 6 (gzSp I nf nr on) x = some (gzIx on nf x nf) := by
  unfold f_X10_whole
  refine (gz_loop (F := fun k s i => f_X10_whole_5 φ 0 43 6 (gzSp I nf nr on) k s i) (n := nf) (step := fun s _ => S_wide on nf s) (out := some) ?_ ?_ nf 0 φ x (by omega) (by omega)).trans (by rw [gzFo_ix])
  · intro k s i hi
    show f_X10_whole_5 φ 0 43 6 (gzSp I nf nr on) (k + 1) s (Int32.ofNat i) = f_X10_whole_5 φ 0 43 6 (gzSp I nf nr on) k (S_wide on nf s) (Int32.ofNat (i + 1))
    simp (disch := omega) only [f_X10_whole_5, gzSp_n, gzn_le, c_wider3 hn hφ, gzn_succ, Option.bind_some, if_neg]
  · intro k s
    show f_X10_whole_5 φ 0 43 6 (gzSp I nf nr on) (k + 1) s (Int32.ofNat nf) = some s
    simp (disch := omega) only [f_X10_whole_5, gzSp_n, gzn_le, if_pos]
/-- reached from a in i steps -/
def gzRc (q : Nat → Int32) (nf a b i : Nat) : Bool := gzB (gzIx q nf (gzbt a) i) b
theorem c_dist {nr on : Nat → Int32} {a b : Nat} (hn : nf ≤ 6) (ha : a < nf) (hb : b < nf) (hφ : 10 < φ) :
    (gzAn (gzRc nr nf a b) 0 nf = false ∧ f_X10_distance φ (gzSp I nf nr on) (Int32.ofNat a) (Int32.ofNat b) = some (-1)) ∨ (gzAn (gzRc nr nf a b) 0 nf = true ∧ ∃ j, 0 ≤ j ∧ j < nf ∧ gzRc nr nf a b j = true ∧ (∀ j', 0 ≤ j' → j' < j → gzRc nr nf a b j' = false) ∧ f_X10_distance φ (gzSp I nf nr on) (Int32.ofNat a) (Int32.ofNat b) = some (Int32.ofNat j)) := by
  unfold f_X10_distance
  refine gz_exit (F := fun k i => f_X10_distance_7 φ (gzSp I nf nr on) k (Int32.ofNat b) (gzIx nr nf (gzbt a) i.toNatClampNeg) i) (n := nf) (p := gzRc nr nf a b) (r := Int32.ofNat) (o := some (-1)) ?_ ?_ nf 0 φ (by omega) (by omega)
  · intro k i hi
    show f_X10_distance_7 φ (gzSp I nf nr on) (k + 1) (Int32.ofNat b) (gzIx nr nf (gzbt a) (Int32.ofNat i).toNatClampNeg) (Int32.ofNat i) = if gzRc nr nf a b i = true then some (Int32.ofNat i) else f_X10_distance_7 φ (gzSp I nf nr on) k (Int32.ofNat b) (gzIx nr nf (gzbt a) (Int32.ofNat (i + 1)).toNatClampNeg) (Int32.ofNat (i + 1))
    rw [gzn_clamp (by omega), gzn_clamp (by omega)]
    simp (disch := omega) only [f_X10_distance_7, gzSp_n, gzn_le, gzc_has, c_wider2 hn hφ, gzc_b0, gzn_succ, Option.bind_some, if_neg]
    by_cases y : gzRc nr nf a b i = true
    · rw [if_pos y, if_neg (fun q => q y)]
    · rw [if_neg y, if_pos (show ¬ gzB (gzIx nr nf (gzbt a) i) b = true from y)]; rfl
  · intro k
    show f_X10_distance_7 φ (gzSp I nf nr on) (k + 1) (Int32.ofNat b) _ (Int32.ofNat nf) = some (-1)
    simp (disch := omega) only [f_X10_distance_7, gzSp_n, gzn_le, if_pos]
theorem m_oneStep {x S : Int32} (h : gzVi I w nf ng) (hφ : 10 < φ) : f_X12_oneStep φ I x S = some (S_wide (S_near w ng (gzB S)) nf x) := by
  have h3 := h.2.1.1.2.2.1
  unfold f_X12_oneStep
  refine gz_loop (F := fun k s i => f_X12_oneStep_5 φ I k x S s i) (n := nf) (step := fun s f => s ||| (if gzB x f = true then S_near w ng (gzB S) f else 0)) (out := some) ?_ ?_ nf 0 φ x (by omega) (by omega)
  · intro k s i hi
    show f_X12_oneStep_5 φ I (k + 1) x S s (Int32.ofNat i) = f_X12_oneStep_5 φ I k x S (s ||| (if gzB x i = true then S_near w ng (gzB S) i else 0)) (Int32.ofNat (i + 1))
    simp (disch := omega) only [f_X12_oneStep_5, m_families h, gzn_le, m_has, m_quarrelsOf h, gzc_b0, gzn_succ, Option.bind_some, if_neg]
    by_cases y : gzB x i = true <;> simp [y]
  · intro k s
    show f_X12_oneStep_5 φ I (k + 1) x S s (Int32.ofNat nf) = some s
    simp (disch := omega) only [f_X12_oneStep_5, m_families h, Option.bind_some, gzn_le, if_pos]
theorem m_feudOf {S : Int32} {a : Nat} (h : gzVi I w nf ng) (hφ : 10 < φ) : f_X12_feudOf φ I (Int32.ofNat a) S = some (gzIx (S_near w ng (gzB S)) nf (gzbt a) 6) := by
  unfold f_X12_feudOf
  refine (gz_loop (F := fun k s i => f_X12_feudOf_7 φ I k S s i) (n := 6) (step := fun s _ => S_wide (S_near w ng (gzB S)) nf s) (out := some) ?_ ?_ 6 0 φ (gzbt a) (by omega) (by omega)).trans (by rw [gzFo_ix])
  · intro k s i hi
    show f_X12_feudOf_7 φ I (k + 1) S s (Int32.ofNat i) = f_X12_feudOf_7 φ I k S (S_wide (S_near w ng (gzB S)) nf s) (Int32.ofNat (i + 1))
    simp (disch := omega) only [f_X12_feudOf_7, gzc_le1, m_oneStep h hφ, gzn_succ, Option.bind_some, if_neg]
  · intro k s
    show f_X12_feudOf_7 φ I (k + 1) S s 6 = some s
    rw [f_X12_feudOf_7, if_pos (by decide)]
/-- the standing ones: who quarrels with whom now -/
def gzNr (w : Nat → Int32) (ng f : Nat) : Int32 := S_near w ng (fun g => !tH w g) f
theorem gzNr_c {f : Nat} : S_near w ng (fun g => !tH w g && !gzB 0 g) f = gzNr w ng f := S_near_congr fun g _ => by rw [gzb_zero]; simp
theorem gzNr_m {f : Nat} (hg : ng ≤ 10) : S_near w ng (gzB (gzSe (fun g => !tH w g) ng)) f = gzNr w ng f := S_near_congr fun g hg2 => by rw [gzSe_b (by omega) (by omega)]; simp [hg2]
theorem gzSp_vi {nr on : Nat → Int32} {v : Int32} (h : gzVi (gz_ui I 0 47 0 v) w nf ng) : gzVi (gz_ui (gzSp I nf nr on) 0 47 0 v) w nf ng := by
  refine ⟨fun k hk => ?_, h.2⟩
  have := h.1 k hk
  rw [gz_ui_o (by decide)] at this ⊢
  rw [gzSp_o (by omega)]; exact this
theorem gzSp_R {nr on : Nat → Int32} (h : gzR I I) : gzR (gzSp I nf nr on) (gzSp I nf nr on) := gzR_scr h fun t o k hk => by
  by_cases e : 41 ≤ o ∧ o ≤ 43
  · exact absurd (by unfold gzCs gzMw; omega) hk
  · exact gzSp_o e
theorem gzbt_cn {a : Nat} (ha : a < nf) (hn : nf ≤ 6) : 1 ≤ gzCn (gzB (gzbt a)) nf := by
  have := gzCn_lt (p := fun _ => false) (q := gzB (gzbt a)) nf (fun j _ h => by cases h) ⟨a, ha, rfl, by rw [gzb_bt (by omega) (by omega)]; simp⟩
  omega
def gzOn (w : Nat → Int32) (ng f : Nat) : Int32 := S_onw w ng (fun g => !tH w g) f
def gzSpn (I : gzIT) (w : Nat → Int32) (nf ng : Nat) : gzIT := gzSp I nf (gzNr w ng) (gzOn w ng)
theorem c_spin0 (h : gzVc I 0 w nf ng) (hb : gzVb w nf ng) (hφ : 10 < φ) : f_X10_spin φ 0 0 I J = some ((), gzSpn I w nf ng, J) := by
  rw [c_spin2 h hb hφ, show S_near w ng (fun g => !tH w g && !gzB 0 g) = gzNr w ng from funext fun f => gzNr_c, show S_onw w ng (fun g => !tH w g && !gzB 0 g) = gzOn w ng from funext fun f => S_onw_congr fun g _ => by rw [gzb_zero]; simp]
  rfl
def S_feud (w : Nat → Int32) (nf ng : Nat) : Int32 := gzFo (fun s i => if s < gzBc (gzIx (gzNr w ng) nf (gzbt i) nf) then gzBc (gzIx (gzNr w ng) nf (gzbt i) nf) else s) 0 nf 0
theorem c_feud (hn : nf ≤ 6) (hφ : 10 < φ) : f_X10_greatestFeud φ (gzSpn I w nf ng) = some (S_feud w nf ng) := by
  unfold f_X10_greatestFeud gzSpn
  refine gz_loop (F := fun k s i => f_X10_greatestFeud_4 φ (gzSp I nf (gzNr w ng) (gzOn w ng)) k s i) (n := nf) (out := some) ?_ ?_ nf 0 φ 0 (by omega) (by omega)
  · intro k s i hi
    show f_X10_greatestFeud_4 φ (gzSp I nf (gzNr w ng) (gzOn w ng)) (k + 1) s (Int32.ofNat i) = f_X10_greatestFeud_4 φ _ k _ (Int32.ofNat (i + 1))
    simp (disch := omega) only [f_X10_greatestFeud_4, gzSp_n, gzn_le, show (1 : Int32) <<< (Int32.ofNat i &&& 31) = gzbt i from rfl, c_whole2 hn hφ, gzBc_eq, gzn_succ, Option.bind_some, if_neg]
  · intro k s
    show f_X10_greatestFeud_4 φ (gzSp I nf (gzNr w ng) (gzOn w ng)) (k + 1) s (Int32.ofNat nf) = some s
    simp (disch := omega) only [f_X10_greatestFeud_4, gzSp_n, gzn_le, if_pos]
theorem m_feud (m1 : gzVi I w nf ng) (hφ : 10 < φ) : f_X12_feud_9 φ φ 0 0 I J = some (S_feud w nf ng, I, J) := by
  obtain ⟨-, ⟨⟨-, -, hn, hg⟩, -⟩, b⟩ := id m1
  have hq : ∀ f, f < nf → gzBl nf (gzNr w ng f) := fun f _ => S_near_bl b hn
  refine gz_loop (F := fun k s i => f_X12_feud_9 φ k s i I J) (n := nf) (step := fun s i => if s < gzBc (gzIx (gzNr w ng) nf (gzbt i) nf) then gzBc (gzIx (gzNr w ng) nf (gzbt i) nf) else s) (out := fun s => some (s, I, J)) ?_ ?_ nf 0 φ 0 (by omega) (by omega)
  · intro k s i hi
    show f_X12_feud_9 φ (k + 1) s (Int32.ofNat i) I J = f_X12_feud_9 φ k (if s < gzBc (gzIx (gzNr w ng) nf (gzbt i) nf) then gzBc (gzIx (gzNr w ng) nf (gzbt i) nf) else s) (Int32.ofNat (i + 1)) I J
    simp (disch := omega) only [f_X12_feud_9, m_families m1, gzn_le, m_standing m1, m_feudOf m1, gzBc_eq, gzn_succ, Option.bind_some, if_neg]
    rw [show S_near w ng (gzB (gzSe (fun g => !tH w g) ng)) = gzNr w ng from funext fun f => gzNr_m hg, gzIx_rest hn hq (gzbt_bl hi (by omega)) (Nat.zero_le _) (i := 6) (j := nf) (by omega) (by omega)]
  · intro k s
    show f_X12_feud_9 φ (k + 1) s (Int32.ofNat nf) I J = _
    simp (disch := omega) only [f_X12_feud_9, m_families m1, Option.bind_some, gzn_le, if_pos]
theorem L_feud (h : gzR I I) : ∃ v I1 I2 J2, f_X11_feud 4096 I J = some (v, I1, J) ∧ f_X12_feud 4096 I1 J = some (v, I2, J2) ∧ gzR I2 I2 := by
  obtain ⟨nf, ng, nl, nx, -, -, c, b, m⟩ := gzR_go h
  refine ⟨S_feud (I 0 48) nf ng, gzSpn I (I 0 48) nf ng, gz_ui (gzSpn I (I 0 48) nf ng) 0 47 0 0, J, ?_, ?_, gzR_thr (gzSp_R h)⟩
  · unfold f_X11_feud
    rw [c_spin0 c b (by omega)]
    simp only [Option.bind_some]
    rw [c_feud c.1.2.2.1 (by omega)]; rfl
  · exact m_feud (gzSp_vi (m 0)) (by omega)
/-- steps -/
theorem w_steps {a b : Nat} (hb0 : gzVb w nf ng) (hn : nf ≤ 6) (hg : ng ≤ 10) (ha : a < nf) (hb : b < nf) (hφ : 10 < φ) : ∃ v, f_X10_distance φ (gzSpn I w nf ng) (Int32.ofNat a) (Int32.ofNat b) = some v ∧ ∀ (I2 : gzIT) (J2 : gzJT), gzVi I2 w nf ng → f_X12_steps_43 φ φ (Int32.ofNat b) (gzbt a) 0 I2 J2 = some (v, I2, J2) := by
  have hq : ∀ f, f < nf → gzBl nf (gzNr w ng f) := fun f _ => S_near_bl hb0 hn
  have hr : ∀ i, nf ≤ i + 1 → gzRc (gzNr w ng) nf a b i = gzRc (gzNr w ng) nf a b (nf - 1) := fun i hi => by
    unfold gzRc
    rw [gzIx_rest hn hq (gzbt_bl ha (by omega)) (gzbt_cn ha hn) (i := i) (j := nf - 1) (by omega) (by omega)]
  have model : ∀ (I2 : gzIT) (J2 : gzJT), gzVi I2 w nf ng → (gzAn (gzRc (gzNr w ng) nf a b) 0 6 = false ∧ f_X12_steps_43 φ φ (Int32.ofNat b) (gzbt a) 0 I2 J2 = some (-1, I2, J2)) ∨ (gzAn (gzRc (gzNr w ng) nf a b) 0 6 = true ∧ ∃ j, 0 ≤ j ∧ j < 6 ∧ gzRc (gzNr w ng) nf a b j = true ∧ (∀ j', 0 ≤ j' → j' < j → gzRc (gzNr w ng) nf a b j' = false) ∧ f_X12_steps_43 φ φ (Int32.ofNat b) (gzbt a) 0 I2 J2 = some (Int32.ofNat j, I2, J2)) := by
    intro I2 J2 m1
    refine gz_exit (F := fun k i => f_X12_steps_43 φ k (Int32.ofNat b) (gzIx (gzNr w ng) nf (gzbt a) i.toNatClampNeg) i I2 J2) (n := 6) (p := gzRc (gzNr w ng) nf a b) (r := fun i => (Int32.ofNat i, I2, J2)) (o := some (-1, I2, J2)) ?_ ?_ 6 0 φ (by omega) (by omega)
    · intro k i hi
      show f_X12_steps_43 φ (k + 1) (Int32.ofNat b) (gzIx (gzNr w ng) nf (gzbt a) (Int32.ofNat i).toNatClampNeg) (Int32.ofNat i) I2 J2 = if gzRc (gzNr w ng) nf a b i = true then some (Int32.ofNat i, I2, J2) else f_X12_steps_43 φ k (Int32.ofNat b) (gzIx (gzNr w ng) nf (gzbt a) (Int32.ofNat (i + 1)).toNatClampNeg) (Int32.ofNat (i + 1)) I2 J2
      rw [gzn_clamp (by omega), gzn_clamp (by omega)]
      simp (disch := omega) only [f_X12_steps_43, gzc_le1, m_has, m_standing m1, m_oneStep m1, gzc_b0, gzn_succ, Option.bind_some, if_neg]
      rw [show S_near w ng (gzB (gzSe (fun g => !tH w g) ng)) = gzNr w ng from funext fun f => gzNr_m hg]
      by_cases y : gzRc (gzNr w ng) nf a b i = true
      · rw [if_pos y, if_neg (fun q => q y)]
      · rw [if_neg y, if_pos (show ¬ gzB (gzIx (gzNr w ng) nf (gzbt a) i) b = true from y)]; rfl
    · intro k
      show f_X12_steps_43 φ (k + 1) (Int32.ofNat b) _ 6 I2 J2 = _
      rw [f_X12_steps_43, if_pos (by decide)]
  rcases c_dist (I := I) (nr := gzNr w ng) (on := gzOn w ng) hn ha hb hφ with ⟨e1, e2⟩ | ⟨e1, j, -, hj, p1, p2, e2⟩
  · refine ⟨-1, e2, fun I2 J2 m1 => ?_⟩
    rcases model I2 J2 m1 with ⟨f1, f2⟩ | ⟨f1, j', -, hj', r1, r2, f2⟩
    · exact f2
    · exfalso
      have hno : ∀ i, i < nf → gzRc (gzNr w ng) nf a b i = false := fun i hi => by
        cases hh : gzRc (gzNr w ng) nf a b i with
        | false => rfl
        | true => rw [gzAn_iff.mpr ⟨i, Nat.zero_le _, by omega, hh⟩] at e1; cases e1
      by_cases q : j' < nf
      · rw [hno j' q] at r1; cases r1
      · rw [hr j' (by omega), hno (nf - 1) (by omega)] at r1; cases r1
  · refine ⟨Int32.ofNat j, e2, fun I2 J2 m1 => ?_⟩
    rcases model I2 J2 m1 with ⟨f1, f2⟩ | ⟨f1, j', -, hj', r1, r2, f2⟩
    · exfalso
      rw [gzAn_iff.mpr ⟨j, Nat.zero_le _, by omega, p1⟩] at f1; cases f1
    · have : j = j' := by
        rcases Nat.lt_trichotomy j j' with q | q | q
        · rw [r2 j (Nat.zero_le _) q] at p1; cases p1
        · exact q
        · rw [p2 j' (Nat.zero_le _) q] at r1; cases r1
      rw [this]; exact f2
theorem L_steps (p0 p1 : Int32) (h : gzR I I) : ∃ e I1, f_X11_steps 4096 p0 p1 I J = some (e, I1, J) ∧ (∀ E, e = .error E → ∃ k : Nat, (["java/lang/IndexOutOfBoundsException"] : List String)[k]? = some E) ∧ ∀ J' : gzJT, ∃ v I2 J2, f_X12_steps 4096 p0 p1 I1 J' = some (v, I2, J2) ∧ gzSame e ["java/lang/IndexOutOfBoundsException"] v (I2 0 47 0) ∧ J2 0 59 0 = J' 0 59 0 ∧ gzR I2 I2 := by
  obtain ⟨nf, ng, nl, nx, -, -, c, b, m⟩ := gzR_go h
  have hn := c.1.2.2.1
  have hg := c.1.2.2.2
  rcases p_fam (a := p0) (J := J) c (m 0) with ⟨⟨k, hk, rfl⟩, e1, e2⟩ | ⟨e1, e2⟩
  · rcases p_fam (a := p1) (J := J) c (m 0) with ⟨⟨k1, hk1, rfl⟩, e3, e4⟩ | ⟨e3, e4⟩
    · obtain ⟨v, d1, d2⟩ := w_steps (I := I) (φ := 4096) b hn hg hk hk1 (by omega)
      refine ⟨.ok v, gzSpn I (I 0 48) nf ng, ?_, fun E hE => (by cases hE), fun J' => ⟨v, gz_ui (gzSpn I (I 0 48) nf ng) 0 47 0 0, J', ?_, ⟨rfl, gz_ui_s⟩, rfl, gzR_thr (gzSp_R h)⟩⟩
      · unfold f_X11_steps
        rw [e1]
        simp only [Option.bind_some, gzEx]
        rw [e3]
        simp only [Option.bind_some, gzEx]
        rw [c_spin0 c b (by omega)]
        simp only [Option.bind_some]
        rw [d1]; rfl
      · have c' : gzVc (gzSpn I (I 0 48) nf ng) 0 (I 0 48) nf ng := gzSp_vc c
        have m' : gzVi (gz_ui (gzSpn I (I 0 48) nf ng) 0 47 0 0) (I 0 48) nf ng := gzSp_vi (m 0)
        have g1 : f_X12_noFamily (gz_ui (gzSpn I (I 0 48) nf ng) 0 47 0 0) (Int32.ofNat k) = some 0 := by
          rcases p_fam (a := Int32.ofNat k) (J := J) c m' with ⟨-, -, q⟩ | ⟨q, -⟩
          · exact q
          · rw [e1] at q; cases q
        have g2 : f_X12_noFamily (gz_ui (gzSpn I (I 0 48) nf ng) 0 47 0 0) (Int32.ofNat k1) = some 0 := by
          rcases p_fam (a := Int32.ofNat k1) (J := J) c m' with ⟨-, -, q⟩ | ⟨q, -⟩
          · exact q
          · rw [e3] at q; cases q
        unfold f_X12_steps
        rw [g1]
        simp only [Option.bind_some, not_true_eq_false, if_false]
        rw [g2]
        simp only [Option.bind_some, if_true, s_throws0]
        exact d2 _ _ m'
    · refine ⟨.error "java/lang/IndexOutOfBoundsException", I, ?_, fun E hE => ⟨0, by cases hE; rfl⟩, fun J' => ⟨0, gz_ui (gz_ui I 0 47 0 0) 0 47 0 1, J', ?_, ⟨0, rfl, gz_ui_s⟩, rfl, gzR_thr2 h⟩⟩
      · unfold f_X11_steps
        rw [e1]
        simp only [Option.bind_some, gzEx]
        rw [e3]; rfl
      · unfold f_X12_steps
        rw [e2]
        simp only [Option.bind_some, not_true_eq_false, if_false]
        rw [e4]
        simp only [Option.bind_some]
        rw [if_neg (by decide), s_throws1]
        rfl
  · refine ⟨.error "java/lang/IndexOutOfBoundsException", I, ?_, fun E hE => ⟨0, by cases hE; rfl⟩, fun J' => ⟨0, gz_ui (gz_ui I 0 47 0 0) 0 47 0 1, J', ?_, ⟨0, rfl, gz_ui_s⟩, rfl, gzR_thr2 h⟩⟩
    · unfold f_X11_steps
      rw [e1]; rfl
    · unfold f_X12_steps
      rw [e2]
      simp only [Option.bind_some]
      rw [if_pos (by decide), s_throws1]
      rfl
end
