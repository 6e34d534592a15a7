/-! image, back -/
section
variable {I I' X : gzIT} {J : gzJT} {w : Nat → Int32} {nf ng nl nx t t1 φ : Nat}
def gzLcb (o k : Nat) : Bool := decide ((21 ≤ o ∧ o ≤ 24 ∧ k < 12) ∨ (o = 25 ∧ k < 400) ∨ (o = 20 ∧ (k = 7 ∨ k = 8)))
theorem c_lawcp {P : Nat → Nat → Bool} (h : t1 ≠ t) : f_X2_copyFrom t t1 (gzCpy I t t1 P) J = some ((), gzCpy I t t1 (fun x j => P x j || gzLcb x j), J) := by
  unfold f_X2_copyFrom
  rw [gzCpy_a h (by omega)]
  simp only [Option.bind_some]
  rw [gzCpy_a h (by omega)]
  simp only [Option.bind_some]
  rw [gzCpy_a h (by omega)]
  simp only [Option.bind_some]
  rw [gzCpy_a h (by omega)]
  simp only [Option.bind_some]
  rw [gzCpy_a h (by omega)]
  obtain ⟨P0, p0⟩ : ∃ Q, Q = (fun x j => (((((P x j || (x == 21 && decide (j < 12))) || (x == 22 && decide (j < 12))) || (x == 23 && decide (j < 12))) || (x == 24 && decide (j < 12))) || (x == 25 && decide (j < 400)))) := ⟨_, rfl⟩
  rw [← p0]
  obtain ⟨M, e⟩ : ∃ Q, Q = gzCpy I t t1 P0 := ⟨_, rfl⟩
  rw [← e]
  obtain ⟨P1, p1⟩ : ∃ Q, Q = (fun x j => P0 x j || (x == 20 && j == 7)) := ⟨_, rfl⟩
  obtain ⟨M1, e1⟩ : ∃ Q, Q = gzCpy I t t1 P1 := ⟨_, rfl⟩
  have s1 : gz_ui M t 20 7 (M t1 20 7) = M1 := by rw [e, e1, p1]; exact gzCpy_s h
  have s2 : gz_ui M1 t 20 8 (M1 t1 20 8) = gzCpy I t t1 (fun x j => P1 x j || (x == 20 && j == 8)) := by rw [e1]; exact gzCpy_s h
  simp only [Option.bind_some]
  rw [s1, s2]
  refine congrArg (fun P => some ((), gzCpy I t t1 P, J)) (funext fun o => funext fun k => ?_)
  rw [p1, p0]
  unfold gzLcb
  cases hP : P o k
  · apply Bool.eq_iff_iff.mpr
    simp only [hP, Bool.false_or, Bool.or_eq_true, Bool.and_eq_true, beq_iff_eq, decide_eq_true_eq]
    constructor
    · rintro ((((((q | q) | q) | q) | q) | q) | q) <;> omega
    · rintro (q | q | q)
      · rcases (show o = 21 ∨ o = 22 ∨ o = 23 ∨ o = 24 by omega) with e | e | e | e
        · exact Or.inl (Or.inl (Or.inl (Or.inl (Or.inl (Or.inl ⟨e, q.2.2⟩)))))
        · exact Or.inl (Or.inl (Or.inl (Or.inl (Or.inl (Or.inr ⟨e, q.2.2⟩)))))
        · exact Or.inl (Or.inl (Or.inl (Or.inl (Or.inr ⟨e, q.2.2⟩))))
        · exact Or.inl (Or.inl (Or.inl (Or.inr ⟨e, q.2.2⟩)))
      · exact Or.inl (Or.inl (Or.inr q))
      · rcases q.2 with e | e
        · exact Or.inl (Or.inr ⟨q.1, e⟩)
        · exact Or.inr ⟨q.1, e⟩
  · simp [hP]
theorem gzLw_cpy {P : Nat → Nat → Bool} {v : Nat → Int32} {has : Int32} (hP : ∀ o k, gzLcb o k = true → P o k = true) (h : gzLw I t1 v has) : gzLw (gzCpy I t t1 P) t v has := by
  have E : ∀ o k, ((21 ≤ o ∧ o ≤ 24 ∧ k < 12) ∨ (o = 25 ∧ k < 400) ∨ (o = 20 ∧ (k = 7 ∨ k = 8))) → gzCpy I t t1 P t o k = I t1 o k := fun o k q => gzCpy_at (hP o k (decide_eq_true q))
  rcases h with ⟨a, b⟩ | ⟨a, nl, nc, b1, b2, b3, b4, b5⟩
  · exact Or.inl ⟨a, by rw [E 20 7 (by omega)]; exact b⟩
  · refine Or.inr ⟨a, nl, nc, b1, b2, by rw [E 20 7 (by omega)]; exact b3, b4, fun l hl => ?_⟩
    obtain ⟨kd, bb, ee, c1, c2, c3, c4, c5, c6, c7, c8, c9, c10, c11, c12, c13⟩ := b5 l hl
    refine ⟨kd, bb, ee, c1, c2, c3, by rw [E 21 l (by omega)]; exact c4, c5, by rw [E 22 l (by omega)]; exact c6, c7, by rw [E 23 l (by omega)]; exact c8, c9, by rw [E 24 l (by omega)]; exact c10, c11, fun i h1 h2 => ?_, c13⟩
    rw [E 25 i (by omega)]; exact c12 i h1 h2
theorem gzTn_cpy2 {P : Nat → Nat → Bool} (hP : ∀ o k, o < 20 → P o k = gzTcb o k) (hT : gzTn I t1 w nf ng nl nx) : gzTn (gzCpy I t t1 P) t w nf ng nl nx :=
  gzTn_congr (fun o k ho _ => by unfold gzCpy; rw [hP o k ho]) (gzTn_cpy (t := t) hT)
def gzPb2 (o k : Nat) : Bool := gzTcb o k || gzLcb o k
theorem gzPb2_t {o k : Nat} (h : o < 20) : gzPb2 o k = gzTcb o k := by
  unfold gzPb2
  have : gzLcb o k = false := decide_eq_false (by omega)
  rw [this, Bool.or_false]
theorem gzPb2_l {o k : Nat} (h : gzLcb o k = true) : gzPb2 o k = true := by unfold gzPb2; rw [h, Bool.or_true]
theorem gzPb2_n {o k : Nat} (h : 26 ≤ o) : gzPb2 o k = false := by
  unfold gzPb2
  rw [show gzTcb o k = false from decide_eq_false (by omega), show gzLcb o k = false from decide_eq_false (by omega)]; rfl
theorem L_image (h : gzR I I) : ∃ I1 I2 J2, f_X11_image 4096 I J = some ((), I1, J) ∧ f_X12_image 4096 I1 J = some ((), I2, J2) ∧ gzR I2 I2 := by
  obtain ⟨w, v, h1, h2, h3, h4, ⟨k, m, p1, p2, p3, p4, p5, p6⟩, ⟨i1, i2⟩, ⟨n, e1, e2, e3, e4⟩, h8, h9⟩ := id h
  obtain ⟨φ, hφ⟩ : ∃ φ, φ = 4096 := ⟨_, rfl⟩
  rw [← hφ]
  have hb0 := h9 0 (by omega) (by omega)
  obtain ⟨C, eC⟩ : ∃ C, C = gzCpy I 2 0 gzPb2 := ⟨_, rfl⟩
  have Co : ∀ t o j, ¬ (t = 2 ∧ o < 26) → C t o j = I t o j := fun t o j a => by
    rw [eC]
    by_cases e : t = 2
    · subst e; exact gzCpy_no (gzPb2_n (by omega))
    · exact gzCpy_ne e
  obtain ⟨I1, eI1⟩ : ∃ I1, I1 = gz_ui C 0 30 12 1 := ⟨_, rfl⟩
  obtain ⟨Z, eZ⟩ : ∃ Z, Z = gz_ui I1 0 47 0 0 := ⟨_, rfl⟩
  obtain ⟨I2, eI⟩ : ∃ I2, I2 = gz_ui (gzBk Z 49 0 48 0 1213) 0 47 6 1 := ⟨_, rfl⟩
  have Zo : ∀ t o j, ¬ (t = 0 ∧ o = 30 ∧ j = 12) → ¬ (t = 0 ∧ o = 47 ∧ j = 0) → Z t o j = C t o j := fun t o j a b => by
    rw [eZ, eI1]
    exact (if_neg b).trans (if_neg a)
  have Io : ∀ t o j, ¬ (t = 0 ∧ o = 49 ∧ j < 1213) → ¬ (t = 0 ∧ o = 47 ∧ j = 6) → I2 t o j = Z t o j := fun t o j a b => by
    rw [eI]
    exact (if_neg b).trans (if_neg (by omega))
  have In : ∀ j, j < 1213 → I2 0 49 j = I 0 48 j := fun j hj => by
    rw [eI]
    refine (if_neg (by omega)).trans ((if_pos ⟨rfl, rfl, by omega, by omega⟩).trans ?_)
    rw [Nat.sub_zero, Nat.zero_add, Zo 0 48 j (by omega) (by omega), Co 0 48 j (by omega)]
  have all : ∀ t o j, ¬ (t = 2 ∧ o < 26) → ¬ (t = 0 ∧ o = 30 ∧ j = 12) → ¬ (t = 0 ∧ o = 47 ∧ (j = 0 ∨ j = 6)) → ¬ (t = 0 ∧ o = 49) → I2 t o j = I t o j := fun t o j a b c d => (Io t o j (by omega) (by omega)).trans ((Zo t o j b (by omega)).trans (Co t o j a))
  refine ⟨I1, I2, J, ?_, ?_, ?_⟩
  · unfold f_X11_image
    rw [c_copyFrom (by omega) hb0 (by omega)]
    simp only [Option.bind_some]
    rw [c_lawcp (by omega)]
    simp only [Option.bind_some]
    rw [eI1, eC]
    rfl
  · unfold f_X12_image
    rw [← eZ]
    have key := gz_blk (I := Z) (F := fun k2 i s => f_X12_image_7 φ k2 i s J) (n := 1213) (o := 49) (a := 0) (o' := 48) (b := 0) (out := some ((), I2, J)) (Or.inl (by omega)) ?_ ?_ 1213 0 φ (by omega) (by omega)
    · rw [gzBk_0] at key; exact key
    · intro k2 i hi
      show f_X12_image_7 φ (k2 + 1) (Int32.ofNat i) (gzBk Z 49 0 48 0 i) J = f_X12_image_7 φ k2 (Int32.ofNat (i + 1)) (gz_ui (gzBk Z 49 0 48 0 i) 0 49 (0 + i) (gzBk Z 49 0 48 0 i 0 48 (0 + i))) J
      rw [f_X12_image_7, if_neg (by rw [gzc_le1 (by omega) (by omega)]; omega), gzGd_in (show i < 2062 by omega) (by omega), gzGd_in (by omega) (by omega), gzn_clamp (show i < 2 ^ 31 by omega), gzn_succ, Nat.zero_add]
    · intro k2
      show f_X12_image_7 φ (k2 + 1) 1213 (gzBk Z 49 0 48 0 1213) J = _
      rw [f_X12_image_7, if_pos (by decide), eI]
  · have town : ∀ t w, t ≠ 2 → gzRt I t w → gzRt I2 t w := fun t w ht hT => gzRt_congr (fun o j ho _ => all t o j (by omega) (by omega) (by omega) (by omega)) hT
    have C2 : ∀ o j, o < 26 → I2 2 o j = C 2 o j := fun o j ho => (Io 2 o j (by omega) (by omega)).trans (Zo 2 o j (by omega) (by omega))
    have E : ∀ o j, ((8 ≤ o ∧ o ≤ 14 ∧ j < 10) ∨ (o = 0 ∧ 6 ≤ j ∧ j ≤ 11)) → I2 2 o j = I 0 o j := fun o j q => (C2 o j (by omega)).trans (by rw [eC]; exact gzCpy_at (by rw [gzPb2_t (by omega)]; exact decide_eq_true (by omega)))
    refine ⟨w, v, fun i hi => ?_, fun i hi => ?_, town 0 w (by omega) h3, gzLw_congr (fun o j a b => all 0 o j (by omega) (by omega) (by omega) (by omega)) h4, ⟨k, m, p1, p2, ?_, ?_, ?_, fun j hj => ?_⟩, ⟨?_, Or.inr ⟨?_, w, v, fun i hi => ?_, fun i hi => ?_, ?_, ?_⟩⟩, ⟨n, e1, ?_, ?_, fun i hi => ?_⟩, ?_, fun t ht h1 => ?_⟩
    · rw [all 0 48 i (by omega) (by omega) (by omega) (by omega)]; exact h1 i hi
    · rw [all 0 48 _ (by omega) (by omega) (by omega) (by omega)]; exact h2 i hi
    · rw [all 0 39 1 (by omega) (by omega) (by omega) (by omega)]; exact p3
    · rw [all 0 47 7 (by omega) (by omega) (by omega) (by omega)]; exact p4
    · rw [all 0 39 2 (by omega) (by omega) (by omega) (by omega)]; exact p5
    · obtain ⟨w2, r1, r2, r3⟩ := p6 j hj
      refine ⟨w2, fun i hi => ?_, town _ w2 (by omega) r2, r3⟩
      rw [all 0 52 _ (by omega) (by omega) (by omega) (by omega)]; exact r1 i hi
    · rw [show I2 0 47 6 = 1 by rw [eI]; exact gz_ui_s]
      refine (Io 0 30 12 (by omega) (by omega)).trans ?_
      rw [eZ, eI1]
      exact (if_neg (by omega)).trans gz_ui_s
    · rw [eI]; exact gz_ui_s
    · rw [In i (by omega)]; exact h1 i hi
    · rw [In (364 + i) (by omega)]; exact h2 i hi
    · obtain ⟨nf, ng, nl, nx, t1, t2⟩ := h3
      have tc : gzTn C 2 w nf ng nl nx := by rw [eC]; exact gzTn_cpy2 (fun o k ho => gzPb2_t ho) t1
      exact ⟨nf, ng, nl, nx, gzTn_congr (fun o j ho _ => C2 o j (by omega)) tc, t2⟩
    · have lc : gzLw C 2 v (w 3) := by rw [eC]; exact gzLw_cpy (fun o k => gzPb2_l) h4
      exact gzLw_congr (fun o j a b => C2 o j (by omega)) lc
    · rw [all 0 31 1 (by omega) (by omega) (by omega) (by omega)]; exact e2
    · rw [all 0 47 9 (by omega) (by omega) (by omega) (by omega)]; exact e3
    · rw [all 0 32 i (by omega) (by omega) (by omega) (by omega), all 0 53 i (by omega) (by omega) (by omega) (by omega)]; exact e4 i hi
    · rw [all 0 33 7 (by omega) (by omega) (by omega) (by omega), all 0 47 14 (by omega) (by omega) (by omega) (by omega)]; exact h8
    · by_cases e : t = 2
      · subst e
        refine ⟨fun j hj => ?_, ?_⟩
        · rw [E 13 j (by omega), E 14 j (by omega)]; exact hb0.1 j hj
        · rw [E 0 9 (by omega)]; exact hb0.2
      · obtain ⟨b1, b2⟩ := h9 t ht h1
        refine ⟨fun j hj => ?_, ?_⟩
        · rw [all t 13 j (by omega) (by omega) (by omega) (by omega), all t 14 j (by omega) (by omega) (by omega) (by omega)]; exact b1 j hj
        · rw [all t 0 9 (by omega) (by omega) (by omega) (by omega)]; exact b2
theorem L_back (h : gzR I I) : ∃ v I1 I2 J2, f_X11_back 4096 I J = some (v, I1, J) ∧ f_X12_back 4096 I1 J = some (v, I2, J2) ∧ gzR I2 I2 := by
  obtain ⟨w, v, h1, h2, h3, h4, ⟨k, m, p1, p2, p3, p4, p5, p6⟩, ⟨i1, i2⟩, ⟨n, e1, e2, e3, e4⟩, h8, h9⟩ := id h
  obtain ⟨φ, hφ⟩ : ∃ φ, φ = 4096 := ⟨_, rfl⟩
  rw [← hφ]
  rcases i2 with i2 | ⟨i2, w2, v2, r1, r2, r3, r4⟩
  · refine ⟨0, I, gz_ui I 0 47 0 0, J, ?_, ?_, gzR_thr h⟩
    · unfold f_X11_back
      rw [i1, i2, if_neg (fun q => q rfl)]
    · unfold f_X12_back
      rw [i2, if_neg (fun q => q rfl)]
  · have hb2 := h9 2 (by omega) (by omega)
    obtain ⟨C, eC⟩ : ∃ C, C = gzCpy I 0 2 gzPb2 := ⟨_, rfl⟩
    have Co : ∀ t o j, ¬ (t = 0 ∧ o < 26) → C t o j = I t o j := fun t o j a => by
      rw [eC]
      by_cases e : t = 0
      · subst e; exact gzCpy_no (gzPb2_n (by omega))
      · exact gzCpy_ne e
    obtain ⟨I1, eI1⟩ : ∃ I1, I1 = gz_ui C 0 39 1 0 := ⟨_, rfl⟩
    obtain ⟨Z, eZ⟩ : ∃ Z, Z = gz_ui I1 0 47 0 0 := ⟨_, rfl⟩
    obtain ⟨I2, eI⟩ : ∃ I2, I2 = gz_ui (gzBk Z 48 0 49 0 1213) 0 47 7 0 := ⟨_, rfl⟩
    have Zo : ∀ t o j, ¬ (t = 0 ∧ o = 39 ∧ j = 1) → ¬ (t = 0 ∧ o = 47 ∧ j = 0) → Z t o j = C t o j := fun t o j a b => by
      rw [eZ, eI1]
      exact (if_neg b).trans (if_neg a)
    have Io : ∀ t o j, ¬ (t = 0 ∧ o = 48 ∧ j < 1213) → ¬ (t = 0 ∧ o = 47 ∧ j = 7) → I2 t o j = Z t o j := fun t o j a b => by
      rw [eI]
      exact (if_neg b).trans (if_neg (by omega))
    have In : ∀ j, j < 1213 → I2 0 48 j = I 0 49 j := fun j hj => by
      rw [eI]
      refine (if_neg (by omega)).trans ((if_pos ⟨rfl, rfl, by omega, by omega⟩).trans ?_)
      rw [Nat.sub_zero, Nat.zero_add, Zo 0 49 j (by omega) (by omega), Co 0 49 j (by omega)]
    have all : ∀ t o j, ¬ (t = 0 ∧ o < 26) → ¬ (t = 0 ∧ o = 39 ∧ j = 1) → ¬ (t = 0 ∧ o = 47 ∧ (j = 0 ∨ j = 7)) → ¬ (t = 0 ∧ o = 48) → I2 t o j = I t o j := fun t o j a b c d => (Io t o j (by omega) (by omega)).trans ((Zo t o j b (by omega)).trans (Co t o j a))
    refine ⟨1, I1, I2, J, ?_, ?_, ?_⟩
    · unfold f_X11_back
      rw [i1, i2, if_pos (by decide), c_copyFrom (by omega) hb2 (by omega)]
      simp only [Option.bind_some]
      rw [c_lawcp (by omega)]
      simp only [Option.bind_some]
      rw [eI1, eC]
      rfl
    · unfold f_X12_back
      have e6 : I1 0 47 6 = 1 := by
        rw [eI1]
        exact (if_neg (by omega)).trans ((Co 0 47 6 (by omega)).trans i2)
      rw [e6, if_pos (by decide), ← eZ]
      have key := gz_blk (I := Z) (F := fun k2 i s => f_X12_back_16 φ k2 i s J) (n := 1213) (o := 48) (a := 0) (o' := 49) (b := 0) (out := some (1, I2, J)) (Or.inl (by omega)) ?_ ?_ 1213 0 φ (by omega) (by omega)
      · rw [gzBk_0] at key; exact key
      · intro k2 i hi
        show f_X12_back_16 φ (k2 + 1) (Int32.ofNat i) (gzBk Z 48 0 49 0 i) J = f_X12_back_16 φ k2 (Int32.ofNat (i + 1)) (gz_ui (gzBk Z 48 0 49 0 i) 0 48 (0 + i) (gzBk Z 48 0 49 0 i 0 49 (0 + i))) J
        rw [f_X12_back_16, if_neg (by rw [gzc_le1 (by omega) (by omega)]; omega), gzGd_in (show i < 1213 by omega) (by omega), gzGd_in (by omega) (by omega), gzn_clamp (show i < 2 ^ 31 by omega), gzn_succ, Nat.zero_add]
      · intro k2
        show f_X12_back_16 φ (k2 + 1) 1213 (gzBk Z 48 0 49 0 1213) J = _
        rw [f_X12_back_16, if_pos (by decide), eI]
    · have town : ∀ t w, t ≠ 0 → gzRt I t w → gzRt I2 t w := fun t w ht hT => gzRt_congr (fun o j ho _ => all t o j (by omega) (by omega) (by omega) (by omega)) hT
      have C0 : ∀ o j, o < 26 → I2 0 o j = C 0 o j := fun o j ho => (Io 0 o j (by omega) (by omega)).trans (Zo 0 o j (by omega) (by omega))
      have E : ∀ o j, ((8 ≤ o ∧ o ≤ 14 ∧ j < 10) ∨ (o = 0 ∧ 6 ≤ j ∧ j ≤ 11)) → I2 0 o j = I 2 o j := fun o j q => (C0 o j (by omega)).trans (by rw [eC]; exact gzCpy_at (by rw [gzPb2_t (by omega)]; exact decide_eq_true (by omega)))
      refine ⟨w2, v2, fun i hi => ?_, fun i hi => ?_, ?_, ?_, ⟨0, m, by omega, p2, ?_, ?_, ?_, fun j hj => absurd hj (by omega)⟩, ⟨?_, Or.inr ⟨?_, w2, v2, fun i hi => ?_, fun i hi => ?_, town 2 w2 (by omega) r3, gzLw_congr (fun o j a b => all 2 o j (by omega) (by omega) (by omega) (by omega)) r4⟩⟩, ⟨n, e1, ?_, ?_, fun i hi => ?_⟩, ?_, fun t ht h1 => ?_⟩
      · rw [In i (by omega)]; exact r1 i hi
      · rw [In (364 + i) (by omega)]; exact r2 i hi
      · obtain ⟨nf, ng, nl, nx, t1, t2⟩ := r3
        have tc : gzTn C 0 w2 nf ng nl nx := by rw [eC]; exact gzTn_cpy2 (fun o k ho => gzPb2_t ho) t1
        exact ⟨nf, ng, nl, nx, gzTn_congr (fun o j ho _ => C0 o j (by omega)) tc, t2⟩
      · have lc : gzLw C 0 v2 (w2 3) := by rw [eC]; exact gzLw_cpy (fun o k => gzPb2_l) r4
        exact gzLw_congr (fun o j a b => C0 o j (by omega)) lc
      · refine (Io 0 39 1 (by omega) (by omega)).trans ?_
        rw [eZ, eI1]
        exact (if_neg (by omega)).trans gz_ui_s
      · rw [eI]; exact gz_ui_s
      · rw [all 0 39 2 (by omega) (by omega) (by omega) (by omega)]; exact p5
      · rw [all 0 30 12 (by omega) (by omega) (by omega) (by omega), all 0 47 6 (by omega) (by omega) (by omega) (by omega)]; exact i1
      · rw [all 0 47 6 (by omega) (by omega) (by omega) (by omega)]; exact i2
      · rw [all 0 49 _ (by omega) (by omega) (by omega) (by omega)]; exact r1 i hi
      · rw [all 0 49 _ (by omega) (by omega) (by omega) (by omega)]; exact r2 i hi
      · rw [all 0 31 1 (by omega) (by omega) (by omega) (by omega)]; exact e2
      · rw [all 0 47 9 (by omega) (by omega) (by omega) (by omega)]; exact e3
      · rw [all 0 32 i (by omega) (by omega) (by omega) (by omega), all 0 53 i (by omega) (by omega) (by omega) (by omega)]; exact e4 i hi
      · rw [all 0 33 7 (by omega) (by omega) (by omega) (by omega), all 0 47 14 (by omega) (by omega) (by omega) (by omega)]; exact h8
      · by_cases e : t = 0
        · subst e
          refine ⟨fun j hj => ?_, ?_⟩
          · rw [E 13 j (by omega), E 14 j (by omega)]; exact hb2.1 j hj
          · rw [E 0 9 (by omega)]; exact hb2.2
        · obtain ⟨b1, b2⟩ := h9 t ht h1
          refine ⟨fun j hj => ?_, ?_⟩
          · rw [all t 13 j (by omega) (by omega) (by omega) (by omega), all t 14 j (by omega) (by omega) (by omega) (by omega)]; exact b1 j hj
          · rw [all t 0 9 (by omega) (by omega) (by omega) (by omega)]; exact b2
end
