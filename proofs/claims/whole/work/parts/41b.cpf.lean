/-! the copy of a town, the class remembers -/
section
variable {I I' X : gzIT} {J : gzJT} {w : Nat → Int32} {nf ng nl nx t t1 φ : Nat}
theorem c_cpl (h : t1 ≠ t) (hb : (∀ k, k < 10 → (I t1 13 k = 0 ∨ I t1 13 k = 1) ∧ (I t1 14 k = 0 ∨ I t1 14 k = 1)) ∧ (I t1 0 9 = 0 ∨ I t1 0 9 = 1)) (hφ : 20 < φ) : ∀ P, f_X1_copyFrom_57 φ t t1 φ 0 (gzCpy I t t1 P) J = some ((), gz_ui (gzCpy I t t1 (gzFo (fun (P : Nat → Nat → Bool) i => fun x j => (P x j || (x == 13 && j == i)) || (x == 14 && j == i)) 0 10 P)) t 7 7 ((gzCpy I t t1 (gzFo (fun (P : Nat → Nat → Bool) i => fun x j => (P x j || (x == 13 && j == i)) || (x == 14 && j == i)) 0 10 P)) t1 7 7), J) := by
  intro P
  refine gz_loop (F := fun k (s : Nat → Nat → Bool) i => f_X1_copyFrom_57 φ t t1 k i (gzCpy I t t1 s) J) (n := 10) (step := fun (P : Nat → Nat → Bool) i => fun x j => (P x j || (x == 13 && j == i)) || (x == 14 && j == i)) (out := fun s => some ((), gz_ui (gzCpy I t t1 s) t 7 7 ((gzCpy I t t1 s) t1 7 7), J)) ?_ ?_ 10 0 φ P (by omega) (by omega)
  · intro k s i hi
    have e13 : gzGz ((gzCpy I t t1 s) t1 13 i) = fun (x : Option (Unit × gzIT × gzJT)) => x := funext fun x => by rw [gzCpy_ne h]; exact gzGz_in (hb.1 i hi).1
    have e14 : gzGz ((gzCpy I t t1 s) t1 14 i) = fun (x : Option (Unit × gzIT × gzJT)) => x := funext fun x => by rw [gzCpy_ne h]; exact gzGz_in (hb.1 i hi).2
    show f_X1_copyFrom_57 φ t t1 (k + 1) (Int32.ofNat i) (gzCpy I t t1 s) J = f_X1_copyFrom_57 φ t t1 k (Int32.ofNat (i + 1)) (gzCpy I t t1 (fun x j => (s x j || (x == 13 && j == i)) || (x == 14 && j == i))) J
    rw [f_X1_copyFrom_57, if_neg (by rw [gzc_le1 (by omega) (by omega)]; omega), gzGd_in hi (by omega), gzn_clamp (by omega), e13, e14, gzCpy_s h, gzn_succ]
    have e : (gzCpy I t t1 s) t1 14 i = (gzCpy I t t1 (fun x j => s x j || (x == 13 && j == i))) t1 14 i := by rw [gzCpy_ne h, gzCpy_ne h]
    rw [e, gzCpy_s h]
  · intro k s
    show f_X1_copyFrom_57 φ t t1 (k + 1) 10 (gzCpy I t t1 s) J = _
    rw [f_X1_copyFrom_57, if_pos (by decide)]
theorem c_cptail {M : gzIT} {P : Nat → Nat → Bool} (h : t1 ≠ t) (hb : I t1 0 9 = 0 ∨ I t1 0 9 = 1) (hM : M = gzCpy I t t1 P) : gzGz ((gz_ui (gz_ui (gz_ui M t 0 6 (M t1 0 6)) t 0 7 ((gz_ui M t 0 6 (M t1 0 6)) t1 0 7)) t 0 8 ((gz_ui (gz_ui M t 0 6 (M t1 0 6)) t 0 7 ((gz_ui M t 0 6 (M t1 0 6)) t1 0 7)) t1 0 8)) t1 0 9) (some ((), gz_ui (gz_ui (gz_ui (gz_ui (gz_ui (gz_ui M t 0 6 (M t1 0 6)) t 0 7 ((gz_ui M t 0 6 (M t1 0 6)) t1 0 7)) t 0 8 ((gz_ui (gz_ui M t 0 6 (M t1 0 6)) t 0 7 ((gz_ui M t 0 6 (M t1 0 6)) t1 0 7)) t1 0 8)) t 0 9 ((gz_ui (gz_ui (gz_ui M t 0 6 (M t1 0 6)) t 0 7 ((gz_ui M t 0 6 (M t1 0 6)) t1 0 7)) t 0 8 ((gz_ui (gz_ui M t 0 6 (M t1 0 6)) t 0 7 ((gz_ui M t 0 6 (M t1 0 6)) t1 0 7)) t1 0 8)) t1 0 9)) t 0 10 ((gz_ui (gz_ui (gz_ui (gz_ui M t 0 6 (M t1 0 6)) t 0 7 ((gz_ui M t 0 6 (M t1 0 6)) t1 0 7)) t 0 8 ((gz_ui (gz_ui M t 0 6 (M t1 0 6)) t 0 7 ((gz_ui M t 0 6 (M t1 0 6)) t1 0 7)) t1 0 8)) t 0 9 ((gz_ui (gz_ui (gz_ui M t 0 6 (M t1 0 6)) t 0 7 ((gz_ui M t 0 6 (M t1 0 6)) t1 0 7)) t 0 8 ((gz_ui (gz_ui M t 0 6 (M t1 0 6)) t 0 7 ((gz_ui M t 0 6 (M t1 0 6)) t1 0 7)) t1 0 8)) t1 0 9)) t1 0 10)) t 0 11 ((gz_ui (gz_ui (gz_ui (gz_ui (gz_ui M t 0 6 (M t1 0 6)) t 0 7 ((gz_ui M t 0 6 (M t1 0 6)) t1 0 7)) t 0 8 ((gz_ui (gz_ui M t 0 6 (M t1 0 6)) t 0 7 ((gz_ui M t 0 6 (M t1 0 6)) t1 0 7)) t1 0 8)) t 0 9 ((gz_ui (gz_ui (gz_ui M t 0 6 (M t1 0 6)) t 0 7 ((gz_ui M t 0 6 (M t1 0 6)) t1 0 7)) t 0 8 ((gz_ui (gz_ui M t 0 6 (M t1 0 6)) t 0 7 ((gz_ui M t 0 6 (M t1 0 6)) t1 0 7)) t1 0 8)) t1 0 9)) t 0 10 ((gz_ui (gz_ui (gz_ui (gz_ui M t 0 6 (M t1 0 6)) t 0 7 ((gz_ui M t 0 6 (M t1 0 6)) t1 0 7)) t 0 8 ((gz_ui (gz_ui M t 0 6 (M t1 0 6)) t 0 7 ((gz_ui M t 0 6 (M t1 0 6)) t1 0 7)) t1 0 8)) t 0 9 ((gz_ui (gz_ui (gz_ui M t 0 6 (M t1 0 6)) t 0 7 ((gz_ui M t 0 6 (M t1 0 6)) t1 0 7)) t 0 8 ((gz_ui (gz_ui M t 0 6 (M t1 0 6)) t 0 7 ((gz_ui M t 0 6 (M t1 0 6)) t1 0 7)) t1 0 8)) t1 0 9)) t1 0 10)) t1 0 11), J)) = some ((), gzCpy I t t1 (fun x j => P x j || (x == 0 && decide (6 ≤ j ∧ j ≤ 11))), J) := by
  obtain ⟨P1, p1⟩ : ∃ Q, Q = (fun x j => P x j || (x == 0 && j == 6)) := ⟨_, rfl⟩
  obtain ⟨M1, e1⟩ : ∃ Q, Q = gzCpy I t t1 P1 := ⟨_, rfl⟩
  have s1 : gz_ui M t 0 6 (M t1 0 6) = M1 := by rw [hM, e1, p1]; exact gzCpy_s h
  obtain ⟨P2, p2⟩ : ∃ Q, Q = (fun x j => P1 x j || (x == 0 && j == 7)) := ⟨_, rfl⟩
  obtain ⟨M2, e2⟩ : ∃ Q, Q = gzCpy I t t1 P2 := ⟨_, rfl⟩
  have s2 : gz_ui M1 t 0 7 (M1 t1 0 7) = M2 := by rw [e1, e2, p2]; exact gzCpy_s h
  obtain ⟨P3, p3⟩ : ∃ Q, Q = (fun x j => P2 x j || (x == 0 && j == 8)) := ⟨_, rfl⟩
  obtain ⟨M3, e3⟩ : ∃ Q, Q = gzCpy I t t1 P3 := ⟨_, rfl⟩
  have s3 : gz_ui M2 t 0 8 (M2 t1 0 8) = M3 := by rw [e2, e3, p3]; exact gzCpy_s h
  obtain ⟨P4, p4⟩ : ∃ Q, Q = (fun x j => P3 x j || (x == 0 && j == 9)) := ⟨_, rfl⟩
  obtain ⟨M4, e4⟩ : ∃ Q, Q = gzCpy I t t1 P4 := ⟨_, rfl⟩
  have s4 : gz_ui M3 t 0 9 (M3 t1 0 9) = M4 := by rw [e3, e4, p4]; exact gzCpy_s h
  obtain ⟨P5, p5⟩ : ∃ Q, Q = (fun x j => P4 x j || (x == 0 && j == 10)) := ⟨_, rfl⟩
  obtain ⟨M5, e5⟩ : ∃ Q, Q = gzCpy I t t1 P5 := ⟨_, rfl⟩
  have s5 : gz_ui M4 t 0 10 (M4 t1 0 10) = M5 := by rw [e4, e5, p5]; exact gzCpy_s h
  obtain ⟨P6, p6⟩ : ∃ Q, Q = (fun x j => P5 x j || (x == 0 && j == 11)) := ⟨_, rfl⟩
  obtain ⟨M6, e6⟩ : ∃ Q, Q = gzCpy I t t1 P6 := ⟨_, rfl⟩
  have s6 : gz_ui M5 t 0 11 (M5 t1 0 11) = M6 := by rw [e5, e6, p6]; exact gzCpy_s h
  have s9 : M3 t1 0 9 = 0 ∨ M3 t1 0 9 = 1 := by rw [e3, gzCpy_ne h]; exact hb
  rw [s1, s2, s3, gzGz_in s9, s4, s5, s6, e6]
  refine congrArg (fun P => some ((), gzCpy I t t1 P, J)) (funext fun o => funext fun k => ?_)
  rw [p6, p5, p4, p3, p2, p1]
  apply Bool.eq_iff_iff.mpr
  simp only [Bool.or_eq_true, Bool.and_eq_true, beq_iff_eq, decide_eq_true_eq]
  constructor
  · rintro ((((((q | q) | q) | q) | q) | q) | q)
    · exact Or.inl q
    all_goals exact Or.inr ⟨q.1, by omega⟩
  · rintro (q | ⟨q, q2⟩)
    · exact Or.inl (Or.inl (Or.inl (Or.inl (Or.inl (Or.inl q)))))
    · rcases (show k = 6 ∨ k = 7 ∨ k = 8 ∨ k = 9 ∨ k = 10 ∨ k = 11 by omega) with e | e | e | e | e | e
      · exact Or.inl (Or.inl (Or.inl (Or.inl (Or.inl (Or.inr ⟨q, e⟩)))))
      · exact Or.inl (Or.inl (Or.inl (Or.inl (Or.inr ⟨q, e⟩))))
      · exact Or.inl (Or.inl (Or.inl (Or.inr ⟨q, e⟩)))
      · exact Or.inl (Or.inl (Or.inr ⟨q, e⟩))
      · exact Or.inl (Or.inr ⟨q, e⟩)
      · exact Or.inr ⟨q, e⟩
theorem c_cp4 {P : Nat → Nat → Bool} (h : t1 ≠ t) : f_X4_copyFrom t t1 (gzCpy I t t1 P) J = some ((), gzCpy I t t1 (fun x j => P x j || ((x == 16 && decide (j < 240)) || (x == 15 && decide (1 ≤ j ∧ j ≤ 2)))), J) := by
  unfold f_X4_copyFrom
  rw [gzCpy_a h (by omega)]
  obtain ⟨P0, p0⟩ : ∃ Q, Q = (fun x j => P x j || (x == 16 && decide (j < 240))) := ⟨_, rfl⟩
  rw [← p0]
  obtain ⟨M, e⟩ : ∃ Q, Q = gzCpy I t t1 P0 := ⟨_, rfl⟩
  rw [← e]
  obtain ⟨P1, p1⟩ : ∃ Q, Q = (fun x j => P0 x j || (x == 15 && j == 1)) := ⟨_, rfl⟩
  obtain ⟨M1, e1⟩ : ∃ Q, Q = gzCpy I t t1 P1 := ⟨_, rfl⟩
  have s1 : gz_ui M t 15 1 (M t1 15 1) = M1 := by rw [e, e1, p1]; exact gzCpy_s h
  have s2 : gz_ui M1 t 15 2 (M1 t1 15 2) = gzCpy I t t1 (fun x j => P1 x j || (x == 15 && j == 2)) := by rw [e1]; exact gzCpy_s h
  simp only [Option.bind_some]
  rw [s1, s2]
  refine congrArg (fun P => some ((), gzCpy I t t1 P, J)) (funext fun o => funext fun k => ?_)
  rw [p1, p0]
  apply Bool.eq_iff_iff.mpr
  simp only [Bool.or_eq_true, Bool.and_eq_true, beq_iff_eq, decide_eq_true_eq]
  constructor
  · rintro (((q | q) | q) | q)
    · exact Or.inl q
    · exact Or.inr (Or.inl q)
    · exact Or.inr (Or.inr ⟨q.1, by omega⟩)
    · exact Or.inr (Or.inr ⟨q.1, by omega⟩)
  · rintro (q | q | ⟨q, q2⟩)
    · exact Or.inl (Or.inl (Or.inl q))
    · exact Or.inl (Or.inl (Or.inr q))
    · by_cases e : k = 1
      · exact Or.inl (Or.inr ⟨q, e⟩)
      · exact Or.inr ⟨q, by omega⟩
theorem c_cp0 {P : Nat → Nat → Bool} (h : t1 ≠ t) : f_X0_copyFrom t t1 (gzCpy I t t1 P) J = some ((), gzCpy I t t1 (fun x j => (((((P x j || (x == 2 && decide (j < 6))) || (x == 3 && decide (j < 6))) || (x == 4 && decide (j < 6))) || (x == 5 && decide (j < 6))) || (x == 1 && j == 5))), J) := by
  unfold f_X0_copyFrom
  rw [gzCpy_a h (by omega)]
  simp only [Option.bind_some]
  rw [gzCpy_a h (by omega)]
  simp only [Option.bind_some]
  rw [gzCpy_a h (by omega)]
  simp only [Option.bind_some]
  rw [gzCpy_a h (by omega)]
  simp only [Option.bind_some]
  rw [gzCpy_s h]
theorem c_cp1 {P : Nat → Nat → Bool} (h : t1 ≠ t) (hb : (∀ k, k < 10 → (I t1 13 k = 0 ∨ I t1 13 k = 1) ∧ (I t1 14 k = 0 ∨ I t1 14 k = 1)) ∧ (I t1 0 9 = 0 ∨ I t1 0 9 = 1)) (hφ : 20 < φ) : f_X1_copyFrom φ t t1 (gzCpy I t t1 P) J = some ((), gzCpy I t t1 (fun x j => P x j || (decide ((8 ≤ x ∧ x ≤ 14 ∧ j < 10) ∨ (x = 7 ∧ j = 7)))), J) := by
  unfold f_X1_copyFrom
  rw [gzCpy_a h (by omega)]
  simp only [Option.bind_some]
  rw [gzCpy_a h (by omega)]
  simp only [Option.bind_some]
  rw [gzCpy_a h (by omega)]
  simp only [Option.bind_some]
  rw [gzCpy_a h (by omega)]
  simp only [Option.bind_some]
  rw [gzCpy_a h (by omega)]
  simp only [Option.bind_some]
  rw [c_cpl (J := J) (φ := φ) h hb hφ, gzCpy_s h]
  refine congrArg (fun P => some ((), gzCpy I t t1 P, J)) (funext fun o => funext fun k => ?_)
  rw [gzPfo]
  apply Bool.eq_iff_iff.mpr
  simp only [Bool.or_eq_true, Bool.and_eq_true, beq_iff_eq, decide_eq_true_eq]
  cases hP : P o k
  · simp only [Bool.false_eq_true, false_or]
    omega
  · simp
theorem c_copyFrom (h : t1 ≠ t) (hb : (∀ k, k < 10 → (I t1 13 k = 0 ∨ I t1 13 k = 1) ∧ (I t1 14 k = 0 ∨ I t1 14 k = 1)) ∧ (I t1 0 9 = 0 ∨ I t1 0 9 = 1)) (hφ : 20 < φ) : f_X8_copyFrom φ t t1 I J = some ((), gzCpy I t t1 gzTcb, J) := by
  have start : f_X8_copyFrom φ t t1 (gzCpy I t t1 (fun _ _ => false)) J = some ((), gzCpy I t t1 gzTcb, J) := by
    unfold f_X8_copyFrom
    rw [c_cp0 h]
    simp only [Option.bind_some]
    rw [c_cp1 h hb hφ]
    simp only [Option.bind_some]
    rw [c_cp4 h]
    simp only [Option.bind_some]
    rw [gzCpy_a h (by omega)]
    simp only [Option.bind_some]
    rw [gzCpy_a h (by omega)]
    simp only [Option.bind_some]
    rw [gzCpy_a h (by omega)]
    simp only [Option.bind_some]
    generalize hM : gzCpy I t t1 _ = M
    refine (c_cptail (J := J) h hb.2 hM.symm).trans ?_
    refine congrArg (fun P => some ((), gzCpy I t t1 P, J)) (funext fun o => funext fun k => ?_)
    apply Bool.eq_iff_iff.mpr
    unfold gzTcb
    simp only [Bool.or_eq_true, Bool.and_eq_true, beq_iff_eq, decide_eq_true_eq, Bool.false_eq_true, false_or]
    by_cases ho : o < 20
    · rcases (show o = 0 ∨ o = 1 ∨ o = 2 ∨ o = 3 ∨ o = 4 ∨ o = 5 ∨ o = 6 ∨ o = 7 ∨ o = 8 ∨ o = 9 ∨ o = 10 ∨ o = 11 ∨ o = 12 ∨ o = 13 ∨ o = 14 ∨ o = 15 ∨ o = 16 ∨ o = 17 ∨ o = 18 ∨ o = 19 by omega) with rfl | rfl | rfl | rfl | rfl | rfl | rfl | rfl | rfl | rfl | rfl | rfl | rfl | rfl | rfl | rfl | rfl | rfl | rfl | rfl
      all_goals first | (simp; done) | (simp; omega)
    · constructor
      · intro hh
        exfalso
        omega
      · intro hh
        exfalso
        omega
  rw [gzCpy_0] at start
  exact start
/-- the class remembers -/
def gzKp (I : gzIT) (m k : Nat) : gzIT := gz_ui (gz_ui (gzCpy I (3 + m) 0 gzTcb) 0 39 2 (Int32.ofNat ((m + 1) % 12))) 0 39 1 (Int32.ofNat (if k + 1 < 12 then k + 1 else 12))
theorem c_keep {m k : Nat} (hm : I 0 39 2 = Int32.ofNat m) (hk : I 0 39 1 = Int32.ofNat k) (hm2 : m < 12) (hk2 : k ≤ 12) (hb : (∀ k, k < 10 → (I 0 13 k = 0 ∨ I 0 13 k = 1) ∧ (I 0 14 k = 0 ∨ I 0 14 k = 1)) ∧ (I 0 0 9 = 0 ∨ I 0 0 9 = 1)) (hφ : 20 < φ) : f_X5_keep φ 0 I J = some ((), gzKp I m k, J) := by
  unfold f_X5_keep
  rw [hm, if_neg (by rw [gzc_lt0 (by omega)]; exact id), if_neg (by rw [gzc_le1 (by omega) (by omega)]; omega), gzGd_in hm2 (by omega), gzn_clamp (by omega), c_copyFrom (by omega) hb hφ]
  simp only [Option.bind_some]
  unfold f_X5_keep_29 gzKp
  have e2 : gzCpy I (3 + m) 0 gzTcb 0 39 2 = Int32.ofNat m := (gzCpy_ne (by omega)).trans hm
  have e1 : gzCpy I (3 + m) 0 gzTcb 0 39 1 = Int32.ofNat k := (gzCpy_ne (by omega)).trans hk
  rw [e2, e1]
  simp (disch := omega) only [gzc_add, gzc_div, gzc_mul', gzc_subs]
  rw [show m + 1 - (m + 1) / 12 * 12 = (m + 1) % 12 by omega]
  have e3 : (if Int32.ofNat (k + 1) < 12 then Int32.ofNat (k + 1) else 12) = Int32.ofNat (if k + 1 < 12 then k + 1 else 12) := by
    by_cases q : k + 1 < 12
    · rw [if_pos q, if_pos (by rw [gzc_lt2 (by omega) (by omega)]; exact q)]
    · rw [if_neg q, if_neg (by rw [gzc_lt2 (by omega) (by omega)]; exact q)]; rfl
  rw [e3]
end
