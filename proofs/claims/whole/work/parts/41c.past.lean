/-! end; the past keeps the relation; prop -/
theorem gzR_tape {I I2 : gzIT} (h : gzR I I) (hE : ∀ t o k, ¬ (gzCs t o k ∧ gzMw t o k) → ¬ (o = 31 ∨ o = 32 ∨ o = 53) → ¬ (t = 0 ∧ o = 47 ∧ k = 9) → I2 t o k = I t o k) (he : gzRe I2 I2) : gzR I2 I2 := by
  obtain ⟨w, v, h1, h2, h3, h4, ⟨k, m, p1, p2, p3, p4, p5, p6⟩, ⟨i1, i2⟩, -, h8, h9⟩ := h
  have c0 : ∀ t o k, t ≠ 1 → o < 20 → o ≠ 6 → I2 t o k = I t o k := fun t o k b c d => hE t o k (by unfold gzCs gzMw; omega) (by omega) (by omega)
  have cl : ∀ t o k, t ≠ 1 → 20 ≤ o → o < 26 → I2 t o k = I t o k := fun t o k a b c => hE t o k (by unfold gzCs gzMw; omega) (by omega) (by omega)
  refine ⟨w, v, fun i hi => ?_, fun i hi => ?_, gzRt_congr (fun o k => c0 0 o k (by omega)) h3, gzLw_congr (fun o k => cl 0 o k (by omega)) h4, ⟨k, m, p1, p2, ?_, ?_, ?_, fun j hj => ?_⟩, ⟨?_, ?_⟩, he, ?_, fun t ht h1 => ?_⟩
  · rw [hE 0 48 i (by unfold gzCs gzMw; omega) (by omega) (by omega)]; exact h1 i hi
  · rw [hE 0 48 (364 + i) (by unfold gzCs gzMw; omega) (by omega) (by omega)]; exact h2 i hi
  · rw [hE 0 39 1 (by unfold gzCs gzMw; omega) (by omega) (by omega)]; exact p3
  · rw [hE 0 47 7 (by unfold gzCs gzMw; omega) (by omega) (by omega)]; exact p4
  · rw [hE 0 39 2 (by unfold gzCs gzMw; omega) (by omega) (by omega)]; exact p5
  · obtain ⟨w2, q1, q2, q3⟩ := p6 j hj
    refine ⟨w2, fun i hi => ?_, gzRt_congr (fun o k => c0 _ o k (by omega)) q2, q3⟩
    rw [hE 0 52 _ (by unfold gzCs gzMw; omega) (by omega) (by omega)]; exact q1 i hi
  · rw [hE 0 30 12 (by unfold gzCs gzMw; omega) (by omega) (by omega), hE 0 47 6 (by unfold gzCs gzMw; omega) (by omega) (by omega)]; exact i1
  · rw [hE 0 47 6 (by unfold gzCs gzMw; omega) (by omega) (by omega)]
    rcases i2 with i2 | ⟨i2, w2, v2, q1, q2, q3, q4⟩
    · exact Or.inl i2
    · refine Or.inr ⟨i2, w2, v2, fun i hi => ?_, fun i hi => ?_, gzRt_congr (fun o k => c0 2 o k (by omega)) q3, gzLw_congr (fun o k => cl 2 o k (by omega)) q4⟩
      · rw [hE 0 49 _ (by unfold gzCs gzMw; omega) (by omega) (by omega)]; exact q1 i hi
      · rw [hE 0 49 _ (by unfold gzCs gzMw; omega) (by omega) (by omega)]; exact q2 i hi
  · rw [hE 0 33 7 (by unfold gzCs gzMw; omega) (by omega) (by omega), hE 0 47 14 (by unfold gzCs gzMw; omega) (by omega) (by omega)]; exact h8
  · obtain ⟨b1, b2⟩ := h9 t ht h1
    refine ⟨fun k hk => ?_, ?_⟩
    · rw [c0 t 13 k h1 (by omega) (by omega), c0 t 14 k h1 (by omega) (by omega)]; exact b1 k hk
    · rw [c0 t 0 9 h1 (by omega) (by omega)]; exact b2
theorem L_end {I : gzIT} {J : gzJT} (p0 : Int32) (h : gzR I I) : ∃ v I1 I2 J2, f_X11_end p0 I J = some (v, I1, J) ∧ f_X12_end p0 I1 J = some (v, I2, J2) ∧ gzR I2 I2 := by
  obtain ⟨w0, v0, -, -, -, -, -, -, ⟨n, hn, hc, hm, hby⟩, -⟩ := id h
  unfold f_X11_end f_X12_end
  by_cases q1 : p0 < 0
  · exact ⟨0, I, gz_ui I 0 47 0 0, J, if_pos q1, if_pos q1, gzR_thr h⟩
  · by_cases q2 : p0 ≤ Int32.ofNat n
    · have h0 : 0 ≤ p0.toInt := by
        have h5 : ¬ p0.toInt < (0 : Int32).toInt := fun q => q1 (Int32.lt_iff_toInt_lt.mpr q)
        have h0 : (0 : Int32).toInt = 0 := rfl
        omega
      obtain ⟨k, hk, rfl⟩ := gzn_of h0
      rw [gzn_le hk (by omega)] at q2
      refine ⟨1, gz_ui I 0 31 1 (Int32.ofNat k), gz_ui (gz_ui (gz_ui I 0 31 1 (Int32.ofNat k)) 0 47 0 0) 0 47 9 (Int32.ofNat k), J, ?_, ?_, ?_⟩
      · rw [if_neg q1, hc, if_pos ((gzn_le hk (by omega)).mpr q2)]
      · rw [if_neg q1, if_pos]
        rw [gz_ui_o (by decide), hm]
        exact (gzn_le hk (by omega)).mpr q2
      · have eo : ∀ t o j, ¬ (t = 0 ∧ o = 31 ∧ j = 1) → ¬ (t = 0 ∧ o = 47 ∧ j = 0) → ¬ (t = 0 ∧ o = 47 ∧ j = 9) → (gz_ui (gz_ui (gz_ui I 0 31 1 (Int32.ofNat k)) 0 47 0 0) 0 47 9 (Int32.ofNat k)) t o j = I t o j := fun t o j a b c => by
          unfold gz_ui
          rw [if_neg c, if_neg b, if_neg a]
        refine gzR_tape h (fun t o j a b c => eo t o j (by omega) (fun q => a (by unfold gzCs gzMw; omega)) (by omega)) ⟨k, by omega, ?_, gz_ui_s, fun i hi => ?_⟩
        · unfold gz_ui
          rw [if_neg (by omega), if_neg (by omega), if_pos ⟨rfl, rfl, rfl⟩]
        · rw [eo 0 32 i (by omega) (by omega) (by omega), eo 0 53 i (by omega) (by omega) (by omega)]
          exact hby i (by omega)
    · refine ⟨0, I, gz_ui I 0 47 0 0, J, ?_, ?_, gzR_thr h⟩
      · rw [if_neg q1, hc, if_neg q2]
      · rw [if_neg q1, if_neg]
        have e9 : gz_ui I 0 47 0 0 0 47 9 = Int32.ofNat n := by unfold gz_ui; rw [if_neg (by omega)]; exact hm
        first | exact q2 | (rw [e9]; exact q2) | (rw [hm]; exact q2)
/-- both remember -/
theorem r_keep {Ic X : gzIT} {k m : Nat} (h : gzR Ic X) (hk1 : Ic 0 39 1 = Int32.ofNat k) (hm1 : Ic 0 39 2 = Int32.ofNat m) (hk : k ≤ 12) (hm : m < 12) : gzR (gzKp Ic m k) (gzRm X k) := by
  obtain ⟨w, v, h1, h2, h3, h4, ⟨k', m', p1, p2, p3, p4, p5, p6⟩, ⟨i1, i2⟩, ⟨n, e1, e2, e3, e4⟩, h8, h9⟩ := h
  have hkk : k' = k := (gzn_inj (by omega) (by omega)).mp (p3.symm.trans hk1)
  have hmm : m' = m := (gzn_inj (by omega) (by omega)).mp (p5.symm.trans hm1)
  subst hkk
  subst hmm
  have kc : ∀ t o j, t ≠ 3 + m' → ¬ (t = 0 ∧ o = 39 ∧ (j = 1 ∨ j = 2)) → gzKp Ic m' k' t o j = Ic t o j := fun t o j a b => by
    unfold gzKp
    have e1 : ∀ (M : gzIT) (v : Int32), gz_ui M 0 39 1 v t o j = M t o j := fun M v => if_neg (by omega)
    have e2 : ∀ (M : gzIT) (v : Int32), gz_ui M 0 39 2 v t o j = M t o j := fun M v => if_neg (by omega)
    rw [e1, e2, gzCpy_ne a]
  have kn : ∀ o j, gzKp Ic m' k' (3 + m') o j = gzCpy Ic (3 + m') 0 gzTcb (3 + m') o j := fun o j => by
    unfold gzKp
    have e1 : ∀ (M : gzIT) (v : Int32), gz_ui M 0 39 1 v (3 + m') o j = M (3 + m') o j := fun M v => if_neg (by omega)
    have e2 : ∀ (M : gzIT) (v : Int32), gz_ui M 0 39 2 v (3 + m') o j = M (3 + m') o j := fun M v => if_neg (by omega)
    rw [e1, e2]
  have k1 : gzKp Ic m' k' 0 39 1 = Int32.ofNat (if k' + 1 < 12 then k' + 1 else 12) := gz_ui_s
  have k2 : gzKp Ic m' k' 0 39 2 = Int32.ofNat ((m' + 1) % 12) := by
    unfold gzKp
    have e1 : ∀ (M : gzIT) (v : Int32), gz_ui M 0 39 1 v 0 39 2 = M 0 39 2 := fun M v => if_neg (by omega)
    rw [e1]; exact gz_ui_s
  have xo : ∀ t o j, ¬ (t = 0 ∧ o = 47 ∧ j = 7) → ¬ (t = 0 ∧ o = 52) → gzRm X k' t o j = X t o j := fun t o j a b => by
    unfold gzRm
    by_cases e : k' = 12
    · rw [if_pos e]
      exact (if_neg (by omega)).trans (if_neg (by omega))
    · rw [if_neg e]
      exact (if_neg (by omega)).trans (if_neg (by omega))
  have x7 : gzRm X k' 0 47 7 = Int32.ofNat (if k' + 1 < 12 then k' + 1 else 12) := by
    unfold gzRm
    by_cases e : k' = 12
    · rw [if_pos e, if_neg (by omega)]
      exact ((if_neg (by omega)).trans (if_neg (by omega))).trans (by rw [p4, e])
    · rw [if_neg e]
      refine (if_neg (by omega)).trans (gz_ui_s.trans ?_)
      by_cases e2 : k' + 1 < 12
      · rw [if_pos e2]
      · rw [if_neg e2, show k' + 1 = 12 by omega]
  have xn : ∀ i, i < 364 → gzRm X k' 0 52 (364 * ((if k' + 1 < 12 then k' + 1 else 12) - 1) + i) = X 0 48 i := fun i hi => by
    unfold gzRm
    by_cases e : k' = 12
    · rw [if_pos e, if_neg (by omega)]
      refine (if_pos ⟨rfl, rfl, by omega, by omega⟩).trans ?_
      rw [show 0 + (364 * (12 - 1) + i - 4004) = i by omega]
      exact if_neg (by omega)
    · rw [if_neg e]
      have e3 : (if k' + 1 < 12 then k' + 1 else 12) - 1 = k' := by
        by_cases e2 : k' + 1 < 12
        · rw [if_pos e2]; omega
        · rw [if_neg e2]; omega
      rw [e3]
      refine (if_pos ⟨rfl, rfl, by omega, by omega⟩).trans ?_
      rw [show 0 + (364 * k' + i - 364 * k') = i by omega]
      exact if_neg (by omega)
  have xr : ∀ j i, i < 364 → j + 1 < (if k' + 1 < 12 then k' + 1 else 12) → gzRm X k' 0 52 (364 * ((if k' + 1 < 12 then k' + 1 else 12) - 1 - (j + 1)) + i) = X 0 52 (364 * (k' - 1 - j) + i) := fun j i hi hj => by
    unfold gzRm
    by_cases e : k' = 12
    · rw [if_neg (by omega)] at hj
      rw [if_pos e, if_neg (by omega)]
      refine (if_neg (by omega)).trans ((if_pos ⟨rfl, rfl, by omega, by omega⟩).trans ?_)
      rw [show 364 + (364 * (12 - 1 - (j + 1)) + i - 0) = 364 * (k' - 1 - j) + i by omega]
    · have e3 : (if k' + 1 < 12 then k' + 1 else 12) = k' + 1 := by
        by_cases e2 : k' + 1 < 12
        · rw [if_pos e2]
        · rw [if_neg e2]; omega
      rw [e3] at hj ⊢
      rw [if_neg e]
      refine (if_neg (by omega)).trans ((if_neg (by omega)).trans ?_)
      rw [show k' + 1 - 1 - (j + 1) = k' - 1 - j by omega]
  have town : ∀ t w, t ≠ 3 + m' → gzRt Ic t w → gzRt (gzKp Ic m' k') t w := fun t w ht hT => gzRt_congr (fun o j ho _ => kc t o j ht (by omega)) hT
  refine ⟨w, v, fun i hi => ?_, fun i hi => ?_, town 0 w (by omega) h3, gzLw_congr (fun o j a b => kc 0 o j (by omega) (by omega)) h4, ⟨if k' + 1 < 12 then k' + 1 else 12, (m' + 1) % 12, ?_, by omega, k1, x7, k2, fun j hj => ?_⟩, ⟨?_, ?_⟩, ⟨n, e1, ?_, ?_, fun i hi => ?_⟩, ?_, fun t ht h1 => ?_⟩
  · rw [xo 0 48 i (by omega) (by omega)]; exact h1 i hi
  · rw [xo 0 48 _ (by omega) (by omega)]; exact h2 i hi
  · by_cases e2 : k' + 1 < 12
    · rw [if_pos e2]; omega
    · rw [if_neg e2]; omega
  · cases j with
    | zero =>
      refine ⟨w, fun i hi => ?_, ?_, rfl⟩
      · rw [Nat.sub_zero, xn i hi]; exact h1 i hi
      · rw [show 3 + ((m' + 1) % 12 + 11 - 0) % 12 = 3 + m' by omega]
        obtain ⟨nf, ng, nl, nx, t1, t2⟩ := h3
        have tt := gzTn_cpy (t := 3 + m') t1
        exact ⟨nf, ng, nl, nx, gzTn_congr (fun o j _ _ => kn o j) tt, t2⟩
    | succ j =>
      have hjk : j < k' := by
        by_cases e2 : k' + 1 < 12
        · rw [if_pos e2] at hj; omega
        · rw [if_neg e2] at hj; omega
      have hj12 : j + 1 < 12 := by
        by_cases e2 : k' + 1 < 12
        · rw [if_pos e2] at hj; omega
        · rw [if_neg e2] at hj; omega
      obtain ⟨w2, q1, q2, q3⟩ := p6 j hjk
      refine ⟨w2, fun i hi => ?_, ?_, q3⟩
      · rw [xr j i hi hj]; exact q1 i hi
      · rw [show 3 + ((m' + 1) % 12 + 11 - (j + 1)) % 12 = 3 + (m' + 11 - j) % 12 by omega]
        exact town _ w2 (by omega) q2
  · rw [kc 0 30 12 (by omega) (by omega), xo 0 47 6 (by omega) (by omega)]; exact i1
  · rw [xo 0 47 6 (by omega) (by omega)]
    rcases i2 with i2 | ⟨i2, w2, v2, q1, q2, q3, q4⟩
    · exact Or.inl i2
    · refine Or.inr ⟨i2, w2, v2, fun i hi => ?_, fun i hi => ?_, town 2 w2 (by omega) q3, gzLw_congr (fun o j a b => kc 2 o j (by omega) (by omega)) q4⟩
      · rw [xo 0 49 _ (by omega) (by omega)]; exact q1 i hi
      · rw [xo 0 49 _ (by omega) (by omega)]; exact q2 i hi
  · rw [kc 0 31 1 (by omega) (by omega)]; exact e2
  · rw [xo 0 47 9 (by omega) (by omega)]; exact e3
  · rw [kc 0 32 i (by omega) (by omega), xo 0 53 i (by omega) (by omega)]; exact e4 i hi
  · rw [kc 0 33 7 (by omega) (by omega), xo 0 47 14 (by omega) (by omega)]; exact h8
  · by_cases e : t = 3 + m'
    · subst e
      obtain ⟨b1, b2⟩ := h9 0 (by omega) (by omega)
      have E : ∀ o j, ((8 ≤ o ∧ o ≤ 14 ∧ j < 10) ∨ (o = 0 ∧ 6 ≤ j ∧ j ≤ 11)) → gzKp Ic m' k' (3 + m') o j = Ic 0 o j := fun o j q => (kn o j).trans (gzCpy_at (decide_eq_true (by omega)))
      refine ⟨fun j hj => ?_, ?_⟩
      · rw [E 13 j (by omega), E 14 j (by omega)]; exact b1 j hj
      · rw [E 0 9 (by omega)]; exact b2
    · obtain ⟨b1, b2⟩ := h9 t ht h1
      refine ⟨fun j hj => ?_, ?_⟩
      · rw [kc t 13 j e (by omega), kc t 14 j e (by omega)]; exact b1 j hj
      · rw [kc t 0 9 e (by omega)]; exact b2
/-- two memories as one -/
theorem gzR_one {Ic X M : gzIT} (h : gzR Ic X) (hc : ∀ t o k, o < 47 → M t o k = Ic t o k) (hm : ∀ t o k, 47 ≤ o → M t o k = X t o k) : gzR M M :=
  gzR_congr (fun t o k q => hc t o k (by unfold gzCs at q; omega)) (fun t o k q => hm t o k (by unfold gzMw at q; omega)) h
