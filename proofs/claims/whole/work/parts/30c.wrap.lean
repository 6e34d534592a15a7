/-! from the relation to the town of now; the calls whose pairs stood already -/
theorem gzTn_w {I : gzIT} {t : Nat} {w w' : Nat → Int32} {nf ng nl nx : Nat} (h : ∀ i, i < 364 → w' i = w i) (hT : gzTn I t w nf ng nl nx) : gzTn I t w' nf ng nl nx := by
  obtain ⟨⟨a1, a2, a3, a4, a5, a6⟩, ⟨b1, b2, b3, b4, b5, b6⟩, c1, d1, e1, f1, ⟨l1, l2, l3, l4, l5, l6⟩⟩ := hT
  refine ⟨⟨a1, a2, a3, (h 0 (by omega)).trans a4, a5, (h 1 (by omega)).trans a6⟩, ⟨b1.trans (h 2 (by omega)).symm, b2.trans (h 4 (by omega)).symm, b3.trans (h 5 (by omega)).symm, b4.trans (h 6 (by omega)).symm, b5.trans (h 7 (by omega)).symm, b6.trans (h 9 (by omega)).symm⟩, fun k hk => (c1 k hk).trans (h _ (by omega)).symm, fun s hs => ?_, fun f hf => ?_, fun g hg => ?_, ⟨l1, l2, l3, (h 8 (by omega)).trans l4, l5, fun a ha k hk => (l6 a ha k hk).trans (h _ (by omega)).symm⟩⟩
  · obtain ⟨q1, q2⟩ := d1 s hs
    exact ⟨q1.trans (h _ (by omega)).symm, q2.trans (h _ (by omega)).symm⟩
  · obtain ⟨q1, q2, q3, q4⟩ := e1 f hf
    exact ⟨q1.trans (h _ (by omega)).symm, q2.trans (h _ (by omega)).symm, q3.trans (h _ (by omega)).symm, q4.trans (h _ (by omega)).symm⟩
  · obtain ⟨q1, q2, q3, q4, q5, q6, q7⟩ := f1 g hg
    exact ⟨q1.trans (h _ (by omega)).symm, q2.trans (h _ (by omega)).symm, q3.trans (h _ (by omega)).symm, q4.trans (h _ (by omega)).symm, q5.trans (h _ (by omega)).symm, q6.trans (h _ (by omega)).symm, q7.trans (h _ (by omega)).symm⟩
theorem gzWr_w {w w' : Nat → Int32} {nf ng nl : Nat} (hg : ng ≤ 10) (h : ∀ i, i < 364 → w' i = w i) (hT : gzWr w nf ng nl) : gzWr w' nf ng nl := by
  obtain ⟨a1, a2, a3, a4, a5, a6⟩ := hT
  refine ⟨by rw [h 2 (by omega)]; exact a1, by rw [h 4 (by omega)]; exact a2, by rw [h 5 (by omega)]; exact a3, by rw [h 6 (by omega)]; exact a4, fun g hg => ?_, fun g hg => ?_⟩
  · rw [h (54 + 7 * g) (by omega), h (55 + 7 * g) (by omega), h (56 + 7 * g) (by omega)]; exact a5 g hg
  · rw [h (57 + 7 * g) (by omega), h (58 + 7 * g) (by omega), h (59 + 7 * g) (by omega), h (60 + 7 * g) (by omega)]; exact a6 g hg
theorem gzWx_w {w w' : Nat → Int32} {nf ng nl : Nat} (hf : nf ≤ 6) (hg : ng ≤ 10) (h : ∀ i, i < 364 → w' i = w i) (hT : gzWx w nf ng nl) : gzWx w' nf ng nl := by
  obtain ⟨a1, a2, a3, a4, a5⟩ := hT
  refine ⟨gzWr_w hg h a1, fun f hf => ?_, fun s hs => ?_, fun i hi => by rw [h i (by omega)]; exact a4 i hi, by rw [h 3 (by omega)]; exact a5⟩
  · rw [h (30 + 4 * f) (by omega), h (31 + 4 * f) (by omega), h (32 + 4 * f) (by omega), h (33 + 4 * f) (by omega)]; exact a2 f hf
  · rw [h (14 + s) (by omega)]; exact a3 s hs
theorem gzR_now {Ic Im : gzIT} (h : gzR Ic Im) : ∃ nf ng nl nx, gzTn Ic 0 (Im 0 48) nf ng nl nx ∧ gzWx (Im 0 48) nf ng nl := by
  obtain ⟨w, v, h1, h2, ⟨nf, ng, nl, nx, t1, t2⟩, -⟩ := h
  exact ⟨nf, ng, nl, nx, gzTn_w (fun i hi => h1 i hi) t1, gzWx_w t1.1.1 t1.1.2.1 (fun i hi => h1 i hi) t2⟩
theorem gzR_scr {I I2 : gzIT} (h : gzR I I) (hb : ∀ t o k, ¬ (gzCs t o k ∧ gzMw t o k) → I2 t o k = I t o k) : gzR I2 I2 := gzR_congr (fun t o k q => hb t o k (fun c => q c.1)) (fun t o k q => hb t o k (fun c => q c.2)) h
theorem gzR_but {I I2 : gzIT} (h : gzR I I) (hb : gzBut I I2) : gzR I2 I2 := gzR_scr h (fun t o k q => hb t o k (fun c => q (by unfold gzCs gzMw; omega)))
theorem gzR_thr {I : gzIT} {v : Int32} (h : gzR I I) : gzR (gz_ui I 0 47 0 v) (gz_ui I 0 47 0 v) := gzR_but h gzBut_1
theorem gzR_thr2 {I : gzIT} {v u : Int32} (h : gzR I I) : gzR (gz_ui (gz_ui I 0 47 0 v) 0 47 0 u) (gz_ui (gz_ui I 0 47 0 v) 0 47 0 u) := gzR_but h gzBut_2
theorem gzHs_of {e : Except String Int32} {hs : List String} {v th : Int32} (h : gzSame e hs v th) : ∀ E, e = .error E → ∃ k : Nat, hs[k]? = some E := by
  intro E hE
  subst hE
  obtain ⟨k, h1, h2⟩ := h
  exact ⟨k, h1⟩
theorem L_cold {I : gzIT} {J : gzJT} (h : gzR I I) : ∃ v I2 J2, f_X11_cold 4096 I = some v ∧ f_X12_cold 4096 I J = some (v, I2, J2) ∧ gzR I2 I2 := by
  obtain ⟨nf, ng, nl, nx, h1, h2⟩ := gzR_now h
  obtain ⟨x, e1, e2⟩ := r_cold (J := J) h1 h2.1 (φ := 4096) (by omega)
  exact ⟨x, _, _, e1, e2, gzR_thr h⟩
theorem L_offs {I : gzIT} {J : gzJT} (h : gzR I I) : ∃ v I2 J2, f_X11_offs 4096 I = some v ∧ f_X12_offs 4096 I J = some (v, I2, J2) ∧ gzR I2 I2 := by
  obtain ⟨nf, ng, nl, nx, h1, h2⟩ := gzR_now h
  obtain ⟨x, e1, e2⟩ := r_offs (J := J) h1 (φ := 4096) (by omega)
  exact ⟨x, _, _, e1, e2, gzR_thr h⟩
theorem L_blue {I : gzIT} {J : gzJT} (h : gzR I I) : ∃ v I2 J2, f_X11_blue 4096 I = some v ∧ f_X12_blue 4096 I J = some (v, I2, J2) ∧ gzR I2 I2 := by
  obtain ⟨nf, ng, nl, nx, h1, h2⟩ := gzR_now h
  obtain ⟨x, e1, e2⟩ := r_blue (J := J) h1 h2.1 (φ := 4096) (by omega)
  exact ⟨x, _, _, e1, e2, gzR_thr h⟩
theorem L_nursed {I : gzIT} {J : gzJT} (h : gzR I I) : ∃ v I2 J2, f_X11_nursed 4096 I = some v ∧ f_X12_nursed 4096 I J = some (v, I2, J2) ∧ gzR I2 I2 := by
  obtain ⟨nf, ng, nl, nx, h1, h2⟩ := gzR_now h
  obtain ⟨x, e1, e2⟩ := r_nursed (J := J) h1 h2.1 (φ := 4096) (by omega)
  exact ⟨x, _, _, e1, e2, gzR_thr h⟩
theorem L_proud {I : gzIT} {J : gzJT} (h : gzR I I) : ∃ v I2 J2, f_X11_proud 4096 I = some v ∧ f_X12_proud 4096 I J = some (v, I2, J2) ∧ gzR I2 I2 := by
  obtain ⟨nf, ng, nl, nx, h1, h2⟩ := gzR_now h
  obtain ⟨x, e1, e2⟩ := r_proud (J := J) h1 (φ := 4096) (by omega)
  exact ⟨x, _, _, e1, e2, gzR_thr h⟩
theorem L_fault {I : gzIT} {J : gzJT} (h : gzR I I) : ∃ v I2 J2, f_X11_fault I = some v ∧ f_X12_fault I J = some (v, I2, J2) ∧ gzR I2 I2 := by
  obtain ⟨x, e1, e2⟩ := r_fault (J := J) (I := I) (by obtain ⟨w, v, h1, h2, h3, h4, h5, h6, h7, h8, h9⟩ := h; exact h8)
  exact ⟨x, _, _, e1, e2, gzR_thr h⟩
theorem L_slight {I : gzIT} {J : gzJT} (p0 p1 : Int32) (h : gzR I I) : ∃ e I1, f_X11_slight 4096 p0 p1 I J = some (e, I1, J) ∧ (∀ E, e = .error E → ∃ k : Nat, (["java/lang/IndexOutOfBoundsException", "java/util/NoSuchElementException"] : List String)[k]? = some E) ∧ ∀ J' : gzJT, ∃ v I2 J2, f_X12_slight 4096 p0 p1 I1 J' = some (v, I2, J2) ∧ gzSame e ["java/lang/IndexOutOfBoundsException", "java/util/NoSuchElementException"] v (I2 0 47 0) ∧ J2 0 59 0 = J' 0 59 0 ∧ gzR I2 I2 := by
  obtain ⟨nf, ng, nl, nx, h1, h2⟩ := gzR_now h
  obtain ⟨e, v, I2, q1, q2, q3, q4⟩ := r_slight (J := J) (J2 := J) (a := p0) (b := p1) h1 h2.1 (φ := 4096) (by omega)
  refine ⟨e, I, q1, gzHs_of q3, fun J' => ?_⟩
  obtain ⟨e', v', I2', q1', q2', q3', q4'⟩ := r_slight (J := J) (J2 := J') (a := p0) (b := p1) h1 h2.1 (φ := 4096) (by omega)
  have he : e' = e := by
    have := q1'.symm.trans q1
    simpa using this
  subst he
  exact ⟨v', I2', J', q2', q3', rfl, gzR_but h q4'⟩
theorem L_heat {I : gzIT} {J : gzJT} (p0 : Int32) (h : gzR I I) : ∃ e I1, f_X11_heat p0 I J = some (e, I1, J) ∧ (∀ E, e = .error E → ∃ k : Nat, (["java/lang/IndexOutOfBoundsException"] : List String)[k]? = some E) ∧ ∀ J' : gzJT, ∃ v I2 J2, f_X12_heat p0 I1 J' = some (v, I2, J2) ∧ gzSame e ["java/lang/IndexOutOfBoundsException"] v (I2 0 47 0) ∧ J2 0 59 0 = J' 0 59 0 ∧ gzR I2 I2 := by
  obtain ⟨nf, ng, nl, nx, h1, h2⟩ := gzR_now h
  rcases gz_byn p0 4 (by omega) with ⟨k, hk, rfl⟩ | a1 | ⟨a1, a2⟩
  · refine ⟨.ok (I 0 19 k), I, ?_, fun E hE => (by cases hE), fun J' => ⟨I 0 19 k, gz_ui I 0 47 0 0, J', ?_, ⟨rfl, gz_ui_s⟩, rfl, gzR_thr h⟩⟩
    · unfold f_X11_heat
      rw [if_neg (by rw [show (0 : Int32) = Int32.ofNat 0 from rfl, gzn_lt (by omega) (by omega)]; omega), if_pos (by rw [show (4 : Int32) = Int32.ofNat 4 from rfl, gzn_lt (by omega) (by omega)]; omega), gzGd_in hk (by omega), gzn_clamp (by omega)]
    · unfold f_X12_heat
      rw [show (3 : Int32) = Int32.ofNat (4 - 1) from rfl, s_X12_in0 hk (by omega)]
      have e : (10 : Int32) + Int32.ofNat k = Int32.ofNat (10 + k) := by rw [Int32.ofNat_add]; rfl
      simp only [Option.bind_some, e, gz_not01, s_throws0]
      rw [if_pos trivial, gzGd_in (by omega) (by omega), gzn_clamp (by omega), gz_ui_o (by decide), h1.2.2.1 k hk]
  · refine ⟨.error "java/lang/IndexOutOfBoundsException", I, ?_, fun E hE => ⟨0, by cases hE; rfl⟩, fun J' => ⟨0, gz_ui (gz_ui I 0 47 0 0) 0 47 0 1, J', ?_, ⟨0, rfl, gz_ui_s⟩, rfl, gzR_thr2 h⟩⟩
    · unfold f_X11_heat
      rw [if_pos a1]
    · unfold f_X12_heat
      rw [s_X12_in1 a1]
      simp only [Option.bind_some, not_true_eq_false, ↓reduceIte]
      rw [s_throws1]
      simp only [Option.bind_some]
      rw [if_neg (show ¬ (1 : Int32) = 0 by decide)]
  · refine ⟨.error "java/lang/IndexOutOfBoundsException", I, ?_, fun E hE => ⟨0, by cases hE; rfl⟩, fun J' => ⟨0, gz_ui (gz_ui I 0 47 0 0) 0 47 0 1, J', ?_, ⟨0, rfl, gz_ui_s⟩, rfl, gzR_thr2 h⟩⟩
    · unfold f_X11_heat
      rw [if_neg a1, if_neg]
      intro q
      have q1 := Int32.le_iff_toInt_le.mp a2
      have q2 := Int32.lt_iff_toInt_lt.mp q
      have e4 : (4 : Int32).toInt = 4 := rfl
      rw [gzn_int (by omega)] at q1
      omega
    · unfold f_X12_heat
      rw [show (3 : Int32) = Int32.ofNat (4 - 1) from rfl, s_X12_in2 (by omega) (by omega) a1 a2]
      simp only [Option.bind_some, not_true_eq_false, ↓reduceIte]
      rw [s_throws1]
      simp only [Option.bind_some]
      rw [if_neg (show ¬ (1 : Int32) = 0 by decide)]
