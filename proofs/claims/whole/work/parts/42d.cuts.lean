/-! the tape as cuts; cuts -/
theorem gz_byt : ∀ m, m < 256 → (((Int8.ofNat m).toInt32 &&& 255 ≤ 1) ↔ (¬ (Int8.ofNat m).toInt32 < 0 ∧ ¬ 1 < (Int8.ofNat m).toInt32)) ∧ (((Int8.ofNat m).toInt32 &&& 255 ≤ 9) ↔ (¬ (Int8.ofNat m).toInt32 < 0 ∧ ¬ 9 < (Int8.ofNat m).toInt32)) ∧ ((Int8.ofNat m).toInt32 &&& 255 ≤ 9 → (Int8.ofNat m).toInt32 &&& 255 = (Int8.ofNat m).toInt32) := by decide +kernel
theorem gz_byt2 {b : Int32} (hb : b.toInt8.toInt32 = b) : ((b &&& 255 ≤ 1) ↔ (¬ b < 0 ∧ ¬ 1 < b)) ∧ ((b &&& 255 ≤ 9) ↔ (¬ b < 0 ∧ ¬ 9 < b)) ∧ (b &&& 255 ≤ 9 → b &&& 255 = b) := by
  have e : b.toInt8 = Int8.ofNat b.toInt8.toBitVec.toNat := by
    apply Int8.toBitVec_inj.mp
    show _ = BitVec.ofNat 8 _
    simp
  have := gz_byt b.toInt8.toBitVec.toNat b.toInt8.toBitVec.isLt
  rw [← e, hb] at this
  exact this
section
variable {I I' U V X : gzIT} {J : gzJT} {w b : Nat → Int32} {nf ng nl nx n t φ : Nat}
def gzBad (b : Nat → Int32) (i : Nat) : Bool := !decide (b i &&& 255 ≤ (if i % 2 = 0 then (1 : Int32) else 9))
def gzNoCut (b : Nat → Int32) (n : Nat) : Bool := decide (40 < n) || !(n % 2 == 0) || gzAn (gzBad b) 0 n
theorem c_needCuts (hn : n ≤ 400) (hU : ∀ i, i < n → U 0 32 i = b i &&& 255) (hφ : 500 < φ) : f_X11_needCuts φ (Int32.ofNat n) U J = some (if gzNoCut b n = true then .error "java/lang/IllegalArgumentException" else .ok (), U, J) := by
  unfold f_X11_needCuts gzNoCut
  by_cases h1 : 40 < n
  · rw [if_pos (by rw [gzc_lt1 (by omega) (by omega)]; exact h1), if_pos (by simp [h1])]
  · rw [if_neg (by rw [gzc_lt1 (by omega) (by omega)]; exact h1)]
    simp (disch := omega) only [gzc_div, gzc_mul', gzc_subs]
    by_cases h2 : n % 2 = 0
    · rw [if_pos (by rw [gzc_eq2 (by omega) (by omega)]; omega)]
      have key := gz_exit (F := fun k i => f_X11_needCuts_25 φ k (Int32.ofNat n) i U J) (n := n) (p := gzBad b) (r := fun _ => (.error "java/lang/IllegalArgumentException", U, J)) (o := some (.ok (), U, J)) ?_ ?_ n 0 φ (by omega) (by omega)
      · have e0 : (decide (40 < n) || !(n % 2 == 0) || gzAn (gzBad b) 0 n) = gzAn (gzBad b) 0 n := by simp [h1, h2]
        rw [e0]
        rcases key with ⟨e1, e2⟩ | ⟨e1, j, -, -, -, -, e2⟩
        · rw [e1]; exact e2
        · rw [e1]; exact e2
      · intro k i hi
        show f_X11_needCuts_25 φ (k + 1) (Int32.ofNat n) (Int32.ofNat i) U J = if gzBad b i = true then some (.error "java/lang/IllegalArgumentException", U, J) else f_X11_needCuts_25 φ k (Int32.ofNat n) (Int32.ofNat (i + 1)) U J
        rw [f_X11_needCuts_25, if_neg (by rw [gzn_le (by omega) (by omega)]; omega)]
        unfold f_X6_byteAt
        rw [gzc_cell (by omega) (by omega), hU i hi, gzn_succ]
        simp (disch := omega) only [Option.bind_some, gzc_div, gzc_mul', gzc_subs]
        have e1 : (if ¬ Int32.ofNat (i - i / 2 * 2) = 0 then (9 : Int32) else 1) = if i % 2 = 0 then 1 else 9 := by
          by_cases q : i % 2 = 0
          · rw [if_pos q, if_neg (fun q2 => q2 (by rw [gzc_eq2 (by omega) (by omega)]; omega))]
          · rw [if_neg q, if_pos (by rw [gzc_eq2 (by omega) (by omega)]; omega)]
        rw [e1]
        unfold gzBad
        by_cases q : b i &&& 255 ≤ (if i % 2 = 0 then (1 : Int32) else 9)
        · rw [if_pos q, if_neg (by simp [q])]
        · rw [if_neg q, if_pos (by simp [q])]
      · intro k
        show f_X11_needCuts_25 φ (k + 1) (Int32.ofNat n) (Int32.ofNat n) U J = _
        rw [f_X11_needCuts_25, if_pos (by rw [gzn_le (by omega) (by omega)]; omega)]
    · rw [if_neg (by rw [gzc_eq2 (by omega) (by omega)]; omega), if_pos (by simp [h2])]
theorem m_isCut (hn : n ≤ 400) (hV : ∀ i, i < n → V 0 53 i = b i ∧ (b i).toInt8.toInt32 = b i) (h11 : V 0 47 11 = Int32.ofNat n) (hφ : 500 < φ) : f_X12_isCut φ V = some (if gzNoCut b n = true then 0 else 1) := by
  have zero : ∀ k x, 0 < k → f_X12_isCut_26 φ V k 0 x = some 0 := by
    intro k x hk
    obtain ⟨k, rfl⟩ : ∃ q, k = q + 1 := ⟨k - 1, by omega⟩
    rw [f_X12_isCut_26]
    by_cases q : V 0 47 11 ≤ x
    · rw [if_pos q]; rfl
    · rw [if_neg q, if_pos rfl]; rfl
  unfold f_X12_isCut
  rw [h11]
  simp (disch := omega) only [gzc_div, gzc_mul', gzc_subs]
  unfold gzNoCut
  by_cases h2 : n % 2 = 0
  · rw [if_neg (fun q => q (by rw [gzc_eq2 (by omega) (by omega)]; omega))]
    by_cases h1 : 40 < n
    · rw [if_pos (by rw [gzc_lt1 (by omega) (by omega)]; exact h1), zero _ _ (by omega), if_pos (by simp [h1])]
    · rw [if_neg (by rw [gzc_lt1 (by omega) (by omega)]; exact h1)]
      have e0 : (decide (40 < n) || !(n % 2 == 0) || gzAn (gzBad b) 0 n) = gzAn (gzBad b) 0 n := by simp [h1, h2]
      rw [e0]
      have loop : ∀ m i k, i + m = n → i % 2 = 0 → m + 1 < k → f_X12_isCut_26 φ V k 1 (Int32.ofNat i) = some (if gzAn (gzBad b) i m = true then 0 else 1) := by
        intro m
        induction m using Nat.strongRecOn with
        | ind m ih =>
          intro i k hi he hk
          obtain ⟨k, rfl⟩ : ∃ q, k = q + 1 := ⟨k - 1, by omega⟩
          by_cases hm : m = 0
          · subst hm
            rw [f_X12_isCut_26, h11, if_pos (by rw [gzn_le (by omega) (by omega)]; omega)]
            rfl
          · obtain ⟨m, rfl⟩ : ∃ q, m = q + 2 := ⟨m - 2, by omega⟩
            have c0 := gz_byt2 (hV i (by omega)).2
            have c1 := gz_byt2 (hV (i + 1) (by omega)).2
            rw [f_X12_isCut_26, h11, if_neg (by rw [gzn_le (by omega) (by omega)]; omega), if_neg (by decide), gzc_add, gzc_add, gzGd_in (by omega) (by omega), gzGd_in (show i + 1 < 400 by omega) (by omega), gzn_clamp (by omega), gzn_clamp (show i + 1 < 2 ^ 31 by omega), (hV i (by omega)).1, (hV (i + 1) (by omega)).1]
            have b0 : gzBad b i = !decide (¬ b i < 0 ∧ ¬ 1 < b i) := by
              unfold gzBad
              rw [if_pos he]
              congr 1
              exact decide_eq_decide.mpr c0.1
            have b1 : gzBad b (i + 1) = !decide (¬ b (i + 1) < 0 ∧ ¬ 9 < b (i + 1)) := by
              unfold gzBad
              rw [if_neg (by omega)]
              congr 1
              exact decide_eq_decide.mpr c1.2.1
            have i0 : f_X12_in (b i) 0 1 = some (if gzBad b i = true then 0 else 1) := by
              unfold f_X12_in
              rw [b0]
              by_cases q1 : b i < 0
              · rw [if_pos q1, if_pos (by simp [q1])]
              · rw [if_neg q1]
                by_cases q2 : 1 < b i
                · rw [if_pos q2, if_pos (by simp [q2])]
                · rw [if_neg q2, if_neg (by simp [q1, q2])]
            have i1 : f_X12_in (b (i + 1)) 0 9 = some (if gzBad b (i + 1) = true then 0 else 1) := by
              unfold f_X12_in
              rw [b1]
              by_cases q1 : b (i + 1) < 0
              · rw [if_pos q1, if_pos (by simp [q1])]
              · rw [if_neg q1]
                by_cases q2 : 9 < b (i + 1)
                · rw [if_pos q2, if_pos (by simp [q2])]
                · rw [if_neg q2, if_neg (by simp [q1, q2])]
            rw [i0, i1]
            simp only [Option.bind_some]
            show _ = some (if (gzBad b i || (gzBad b (i + 1) || gzAn (gzBad b) (i + 1 + 1) m)) = true then 0 else 1)
            cases hb0 : gzBad b i with
            | true =>
              rw [if_pos rfl, if_pos rfl, zero _ _ (by omega)]
              rfl
            | false =>
              cases hb1 : gzBad b (i + 1) with
              | true =>
                rw [if_neg (show ¬ ((if false = true then (0 : Int32) else 1) = 0) by decide), if_pos (show (if true = true then (0 : Int32) else 1) = 0 from rfl), zero _ _ (by omega)]
                rfl
              | false =>
                rw [if_neg (show ¬ ((if false = true then (0 : Int32) else 1) = 0) by decide), if_neg (show ¬ ((if false = true then (0 : Int32) else 1) = 0) by decide), ih m (by omega) (i + 2) k (by omega) (by omega) (by omega)]
                rfl
      exact loop n 0 φ (by omega) rfl (by omega)
  · rw [if_pos (by rw [gzc_eq2 (by omega) (by omega)]; omega), zero _ _ (by omega), if_pos (by simp [h2])]
/-- how many pairs of the cut a slight misses -/
def gzMis (w b : Nat → Int32) (s c i : Nat) : Nat := if w (14 + 2 * s + (b (2 * i)).toNatClampNeg) = b (2 * i + 1) then c else c + 1
def gzMs2 (w b : Nat → Int32) (h s : Nat) : Nat := gzFo (gzMis w b s) 0 h 0
def S_fit (w b : Nat → Int32) (h : Nat) : Int32 := gzFo (fun x s => if 1 < gzMs2 w b h s then x else x ||| gzbt s) 0 8 0
theorem gzMis_le {s : Nat} : ∀ m i c, gzFo (gzMis w b s) i m c ≤ c + m := by
  intro m
  induction m with
  | zero => intro i c; exact Nat.le_refl _
  | succ m ih =>
    intro i c
    show gzFo (gzMis w b s) (i + 1) m (gzMis w b s c i) ≤ c + (m + 1)
    refine Nat.le_trans (ih _ _) ?_
    unfold gzMis
    split <;> omega
/-- what holds of the bytes of a cut -/
def gzCutOk (b : Nat → Int32) (h : Nat) : Prop := h ≤ 20 ∧ ∀ i, i < h → (b (2 * i) = 0 ∨ b (2 * i) = 1) ∧ b (2 * i) &&& 255 = b (2 * i) ∧ b (2 * i + 1) &&& 255 = b (2 * i + 1)
theorem gz_01 {x : Int32} (h0 : ¬ x < 0) (h1 : ¬ 1 < x) : x = 0 ∨ x = 1 := by
  rcases gz_byn x 2 (by omega) with ⟨k, hk, rfl⟩ | h | ⟨h, h2⟩
  · rcases (show k = 0 ∨ k = 1 by omega) with rfl | rfl
    · exact Or.inl rfl
    · exact Or.inr rfl
  · exact absurd h h0
  · exfalso
    apply h1
    have a := Int32.le_iff_toInt_le.mp h2
    rw [Int32.lt_iff_toInt_lt]
    have e1 : (1 : Int32).toInt = 1 := rfl
    have e2 : (Int32.ofNat 2).toInt = 2 := rfl
    omega
theorem gzCut_of (h : gzNoCut b n = false) (hV : ∀ i, i < n → (b i).toInt8.toInt32 = b i) : n = 2 * (n / 2) ∧ gzCutOk b (n / 2) := by
  unfold gzNoCut at h
  simp only [Bool.or_eq_false_iff, decide_eq_false_iff_not, Bool.not_eq_false', beq_iff_eq] at h
  obtain ⟨⟨h1, h2⟩, h3⟩ := h
  have good : ∀ i, i < n → gzBad b i = false := fun i hi => by
    cases hh : gzBad b i with
    | false => rfl
    | true => rw [gzAn_iff.mpr ⟨i, Nat.zero_le _, by omega, hh⟩] at h3; cases h3
  refine ⟨by omega, by omega, fun i hi => ?_⟩
  have c0 := gz_byt2 (hV (2 * i) (by omega))
  have c1 := gz_byt2 (hV (2 * i + 1) (by omega))
  have g0 : b (2 * i) &&& 255 ≤ 1 := by
    have := good (2 * i) (by omega)
    unfold gzBad at this
    rw [if_pos (by omega)] at this
    simpa using this
  have g1 : b (2 * i + 1) &&& 255 ≤ 9 := by
    have := good (2 * i + 1) (by omega)
    unfold gzBad at this
    rw [if_neg (by omega)] at this
    simpa using this
  have q := c0.1.mp g0
  refine ⟨gz_01 q.1 q.2, ?_, c1.2.2 g1⟩
  rcases gz_01 q.1 q.2 with e | e <;> rw [e] <;> rfl
theorem c_fitting {h : Nat} (hc : gzVc U 0 w nf ng) (hk : gzCutOk b h) (hU : ∀ i, i < 2 * h → U 0 32 i = b i &&& 255) (hφ : 500 < φ) : f_X8_fitting φ 0 U (Int32.ofNat (2 * h)) = some (S_fit w b h) := by
  obtain ⟨⟨h1, h2, h3, h4⟩, hF, hT, hS, hA, hI, hU', hH, hP, hN, hL, hO, hB, hD⟩ := id hc
  have hh := hk.1
  unfold f_X8_fitting
  refine gz_loop (F := fun k s i => f_X8_fitting_5 φ 0 U k (Int32.ofNat (2 * h)) s i) (n := 8) (step := fun x s => if 1 < gzMs2 w b h s then x else x ||| gzbt s) (out := some) ?_ ?_ 8 0 φ 0 (by omega) (by omega)
  · intro k x s hs
    show f_X8_fitting_5 φ 0 U (k + 1) (Int32.ofNat (2 * h)) x (Int32.ofNat s) = f_X8_fitting_5 φ 0 U k (Int32.ofNat (2 * h)) (if 1 < gzMs2 w b h s then x else x ||| gzbt s) (Int32.ofNat (s + 1))
    rw [f_X8_fitting_5, if_neg (by rw [gzc_le1 (by omega) (by omega)]; omega)]
    have key := gz_loop2 (c := 0) (F := fun k2 (c : Nat) i => f_X8_fitting_18 φ 0 U (f_X8_fitting_5 φ 0 U k) k2 (Int32.ofNat (2 * h)) x (Int32.ofNat s) (Int32.ofNat c) i) (n := h) (step := gzMis w b s) (out := fun c => if 1 < Int32.ofNat c then f_X8_fitting_5 φ 0 U k (Int32.ofNat (2 * h)) x (Int32.ofNat (s + 1)) else f_X8_fitting_5 φ 0 U k (Int32.ofNat (2 * h)) (x ||| gzbt s) (Int32.ofNat (s + 1))) ?_ ?_ h 0 φ 0 (by omega) (by omega)
    · refine Eq.trans key ?_
      have hb := gzMis_le (w := w) (b := b) (s := s) h 0 0
      by_cases q : 1 < gzMs2 w b h s
      · rw [if_pos q, if_pos (by rw [gzc_lt1 (by omega) (by omega)]; exact q)]
      · rw [if_neg q, if_neg (by rw [gzc_lt1 (by omega) (by omega)]; exact q)]
    · intro k2 c i hi
      obtain ⟨g0, g1, g2⟩ := hk.2 i hi
      show f_X8_fitting_18 φ 0 U (f_X8_fitting_5 φ 0 U k) (k2 + 1) (Int32.ofNat (2 * h)) x (Int32.ofNat s) (Int32.ofNat c) (Int32.ofNat (2 * i + 0)) = f_X8_fitting_18 φ 0 U (f_X8_fitting_5 φ 0 U k) k2 (Int32.ofNat (2 * h)) x (Int32.ofNat s) (Int32.ofNat (gzMis w b s c i)) (Int32.ofNat (2 * (i + 1) + 0))
      unfold gzMis
      rw [f_X8_fitting_18, Nat.add_zero, gzc_add, gzc_add, gzc_add, if_neg (by rw [gzn_le (by omega) (by omega)]; omega)]
      unfold f_X6_byteAt
      rw [gzc_cell (by omega) (by omega), gzc_cell (show 2 * i + 1 < 400 by omega) (by omega), hU _ (by omega), hU (2 * i + 1) (by omega), g1, g2, gzn_succ]
      simp only [Option.bind_some]
      rcases g0 with e | e
      · rw [e, if_neg (fun q => q rfl), gzGd_in hs (by omega), gzn_clamp (by omega), hB s hs]
        show (if b (2 * i + 1) = w (14 + 2 * s) then _ else _) = f_X8_fitting_18 φ 0 U (f_X8_fitting_5 φ 0 U k) k2 (Int32.ofNat (2 * h)) x (Int32.ofNat s) (Int32.ofNat (if w (14 + 2 * s) = b (2 * i + 1) then c else c + 1)) (Int32.ofNat (2 * (i + 1)))
        by_cases q : w (14 + 2 * s) = b (2 * i + 1)
        · rw [if_pos q, if_pos q.symm]; rfl
        · rw [if_neg q, if_neg (fun q2 => q q2.symm)]; rfl
      · rw [e, if_pos (by decide), gzGd_in hs (by omega), gzn_clamp (by omega), hD s hs]
        show (if b (2 * i + 1) = w (15 + 2 * s) then _ else _) = f_X8_fitting_18 φ 0 U (f_X8_fitting_5 φ 0 U k) k2 (Int32.ofNat (2 * h)) x (Int32.ofNat s) (Int32.ofNat (if w (14 + 2 * s + 1) = b (2 * i + 1) then c else c + 1)) (Int32.ofNat (2 * (i + 1)))
        rw [show 14 + 2 * s + 1 = 15 + 2 * s by omega]
        by_cases q : w (15 + 2 * s) = b (2 * i + 1)
        · rw [if_pos q, if_pos q.symm]; rfl
        · rw [if_neg q, if_neg (fun q2 => q q2.symm)]; rfl
    · intro k2 c
      show f_X8_fitting_18 φ 0 U (f_X8_fitting_5 φ 0 U k) (k2 + 1) (Int32.ofNat (2 * h)) x (Int32.ofNat s) (Int32.ofNat c) (Int32.ofNat (2 * h + 0)) = _
      rw [f_X8_fitting_18, Nat.add_zero, gzc_add, if_pos (by rw [gzn_le (by omega) (by omega)]; omega), gzn_succ]
      rfl
  · intro k s
    show f_X8_fitting_5 φ 0 U (k + 1) (Int32.ofNat (2 * h)) s 8 = _
    rw [f_X8_fitting_5, if_pos (by decide)]
theorem m_fitting {h : Nat} (hc : gzVi V w nf ng) (hk : gzCutOk b h) (hV : ∀ i, i < 2 * h → V 0 53 i = b i) (h11 : V 0 47 11 = Int32.ofNat (2 * h)) (hφ : 500 < φ) : f_X12_fitting φ V = some (S_fit w b h) := by
  have hh := hk.1
  unfold f_X12_fitting
  refine gz_loop (F := fun k s i => f_X12_fitting_4 φ V k s i) (n := 8) (step := fun x s => if 1 < gzMs2 w b h s then x else x ||| gzbt s) (out := some) ?_ ?_ 8 0 φ 0 (by omega) (by omega)
  · intro k x s hs
    show f_X12_fitting_4 φ V (k + 1) x (Int32.ofNat s) = f_X12_fitting_4 φ V k (if 1 < gzMs2 w b h s then x else x ||| gzbt s) (Int32.ofNat (s + 1))
    have fits : f_X12_fits φ V (Int32.ofNat s) = some (if 1 < gzMs2 w b h s then 0 else 1) := by
      unfold f_X12_fits
      have key := gz_loop2 (c := 0) (F := fun k2 (c : Nat) i => f_X12_fits_4 φ V k2 (Int32.ofNat s) (Int32.ofNat c) i) (n := h) (step := gzMis w b s) (out := fun c => some (if 2 ≤ Int32.ofNat c then 0 else 1)) ?_ ?_ h 0 φ 0 (by omega) (by omega)
      · refine Eq.trans key ?_
        have hb := gzMis_le (w := w) (b := b) (s := s) h 0 0
        by_cases q : 1 < gzMs2 w b h s
        · rw [if_pos q, if_pos (by rw [gzc_le1 (by omega) (by omega)]; exact q)]
        · rw [if_neg q, if_neg (by rw [gzc_le1 (by omega) (by omega)]; exact q)]
      · intro k2 c i hi
        obtain ⟨g0, g1, g2⟩ := hk.2 i hi
        show f_X12_fits_4 φ V (k2 + 1) (Int32.ofNat s) (Int32.ofNat c) (Int32.ofNat (2 * i + 0)) = f_X12_fits_4 φ V k2 (Int32.ofNat s) (Int32.ofNat (gzMis w b s c i)) (Int32.ofNat (2 * (i + 1) + 0))
        obtain ⟨z, hz, ez⟩ : ∃ z, z < 2 ∧ b (2 * i) = Int32.ofNat z := by
          rcases g0 with e | e
          · exact ⟨0, by omega, e⟩
          · exact ⟨1, by omega, e⟩
        unfold gzMis
        rw [f_X12_fits_4, h11, Nat.add_zero, if_neg (by rw [gzn_le (by omega) (by omega)]; omega), gzGd_in (show 2 * i < 400 by omega) (by omega), gzn_clamp (show 2 * i < 2 ^ 31 by omega), hV _ (by omega), ez, gzc_mul, gzc_add', gzc_adds, gzGd_in (by omega) (by omega), gzn_clamp (show 14 + 2 * s + z < 2 ^ 31 by omega), gzc_add, gzc_add, gzGd_in (show 2 * i + 1 < 400 by omega) (by omega), gzn_clamp (show 2 * i + 1 < 2 ^ 31 by omega), gzn_clamp (show z < 2 ^ 31 by omega), hV (2 * i + 1) (by omega), hc.1 _ (by omega)]
        by_cases q : w (14 + 2 * s + z) = b (2 * i + 1)
        · rw [if_pos q, if_neg (fun q2 => q2 q), Int32.add_zero]; rfl
        · rw [if_neg q, if_pos q, gzn_succ]; rfl
      · intro k2 c
        show f_X12_fits_4 φ V (k2 + 1) (Int32.ofNat s) (Int32.ofNat c) (Int32.ofNat (2 * h + 0)) = _
        rw [f_X12_fits_4, h11, Nat.add_zero, if_pos (by rw [gzn_le (by omega) (by omega)]; omega)]
    rw [f_X12_fitting_4, if_neg (by rw [gzc_le1 (by omega) (by omega)]; omega), fits, gzn_succ]
    simp only [Option.bind_some]
    by_cases q : 1 < gzMs2 w b h s
    · rw [if_pos q, if_pos q, if_pos rfl, gz_or0]
    · rw [if_neg q, if_neg q, if_neg (by decide)]; rfl
  · intro k s
    show f_X12_fitting_4 φ V (k + 1) s 8 = _
    rw [f_X12_fitting_4, if_pos (by decide)]
end
