/-! a season, grudge by grudge: a town of the class and the model's world -/
def gzSm (Ic : gzIT) (t : Nat) (Im : gzIT) (nf ng : Nat) : Prop := (∃ nl nx, gzTn Ic t (Im 0 48) nf ng nl nx ∧ gzWx (Im 0 48) nf ng nl) ∧ gzLw Ic 0 (fun i => Im 0 48 (364 + i)) (Im 0 48 3)
/-- what a season leaves as it is -/
def gzSx (t : Nat) (Ic Ic' Im Im' : gzIT) : Prop := (∀ t' o k, ¬ (t' = t ∧ o < 20) → ¬ (o = 26 ∨ o = 27) → Ic' t' o k = Ic t' o k) ∧ (∀ t' o k, ¬ (t' = 0 ∧ o = 48 ∧ k < 364) → ¬ (o = 55) → Im' t' o k = Im t' o k) ∧ Im' 0 48 3 = Im 0 48 3 ∧ (∀ k, Ic' t 13 k = Ic t 13 k) ∧ (∀ k, Ic' t 14 k = Ic t 14 k ∨ Ic' t 14 k = 1) ∧ Ic' t 0 9 = Ic t 0 9
section
variable {I I' I2 X T Ic Im Ic' Im' Ic2 Im2 M : gzIT} {J : gzJT} {w w2 v : Nat → Int32} {nf ng nl nx nl2 nx2 t t1 φ : Nat}
theorem gzSx_0 : gzSx t Ic Ic Im Im := ⟨fun _ _ _ _ _ => rfl, fun _ _ _ _ _ => rfl, rfl, fun _ => rfl, fun _ => Or.inl rfl, rfl⟩
theorem gzSx_t (h : gzSx t Ic Ic' Im Im') (h2 : gzSx t Ic' Ic2 Im' Im2) : gzSx t Ic Ic2 Im Im2 := by
  obtain ⟨a1, a2, a3, a4, a5, a6⟩ := h
  obtain ⟨b1, b2, b3, b4, b5, b6⟩ := h2
  refine ⟨fun t' o k q1 q2 => (b1 t' o k q1 q2).trans (a1 t' o k q1 q2), fun t' o k q1 q2 => (b2 t' o k q1 q2).trans (a2 t' o k q1 q2), b3.trans a3, fun k => (b4 k).trans (a4 k), fun k => ?_, b6.trans a6⟩
  rcases b5 k with q | q
  · rw [q]; exact a5 k
  · exact Or.inr q
theorem gzSm_upd {D : Nat → Nat → Prop} {E : Nat → Prop} (hT : gzTn Ic t (Im 0 48) nf ng nl nx) (hx : gzWx (Im 0 48) nf ng nl) (hlaw : gzLw Ic 0 (fun i => Im 0 48 (364 + i)) (Im 0 48 3)) (tt : ∀ o j, o < 20 → ¬ D o j → ¬ (o = 15 ∨ o = 16) → Ic' t o j = Ic t o j) (tw : ∀ j, j < 124 → j ≠ 8 → ¬ E j → Im' 0 48 j = Im 0 48 j) (pr : ∀ o k i, gzQp nf ng o k i → Ic' t o k = Im' 0 48 i ∨ (¬ D o k ∧ ¬ E i)) (nd : ¬ D 1 5 ∧ ¬ D 7 7 ∧ ¬ E 0 ∧ ¬ E 1 ∧ ¬ E 3 ∧ (∀ g, g < ng → ¬ E (54 + 7 * g) ∧ ¬ E (55 + 7 * g) ∧ ¬ E (56 + 7 * g))) (bd : ∀ i, i < 124 → E i → gzBd nf ng i (Im' 0 48 i)) (lg : gzLg Ic' t (Im' 0 48) nl2 nx2) (l1 : ∀ o k, 20 ≤ o → o < 26 → Ic' 0 o k = Ic 0 o k) (l2 : ∀ k, 364 ≤ k → Im' 0 48 k = Im 0 48 k) : (gzTn Ic' t (Im' 0 48) nf ng nl2 nx2 ∧ gzWx (Im' 0 48) nf ng nl2) ∧ gzLw Ic' 0 (fun i => Im' 0 48 (364 + i)) (Im' 0 48 3) := by
  have n3 := hT.1.1
  have n4 := hT.1.2.1
  obtain ⟨hab, hbd⟩ := gzWx_bd n3 hx
  obtain ⟨d1, d2, d3, d4, d5, d6⟩ := nd
  refine ⟨gzRt_ch (I := Ic) (I2 := Ic') (t := t) (t1 := t) (w2 := Im' 0 48) hT hx ⟨tt 1 5 (by omega) d1 (by omega), tt 7 7 (by omega) d2 (by omega), tw 0 (by omega) (by omega) d3, tw 1 (by omega) (by omega) d4⟩ (fun o k i q => ?_) (gzAbo_congr hab fun g hg => ⟨tw _ (by omega) (by omega) (d6 g hg).1, tw _ (by omega) (by omega) (d6 g hg).2.1, tw _ (by omega) (by omega) (d6 g hg).2.2⟩) (fun i hi => ?_) lg, ?_⟩
  · rcases pr o k i q with e | ⟨e1, e2⟩
    · exact Or.inl e
    · obtain ⟨q1, q2, q3, q4, q5, q6, q7, q8⟩ := gzQp_lim n3 q
      exact Or.inr ⟨tt o k q1 e1 q2, tw i (by omega) (by omega) e2⟩
  · by_cases q1 : i < 124 ∧ i ≠ 8
    · by_cases e : E i
      · exact Or.inl (bd i q1.1 e)
      · exact Or.inr (tw i q1.1 q1.2 e)
    · left
      exact gz_bd0 (by omega)
  · have e1 : (fun i => Im' 0 48 (364 + i)) = fun i => Im 0 48 (364 + i) := funext fun i => l2 _ (by omega)
    rw [e1, tw 3 (by omega) (by omega) d5]
    exact gzLw_congr l1 hlaw
theorem gz_less {x y : Int32} {c : Nat} (hx : 0 ≤ x.toInt ∧ x.toInt ≤ c) (hy : 0 ≤ y.toInt) (hc : c ≤ 9999) : 0 ≤ (if 0 < x - y then x - y else 0).toInt ∧ (if 0 < x - y then x - y else 0).toInt ≤ c := by
  have z : (0 : Int32).toInt = 0 := rfl
  have hy2 := y.toInt_lt
  have e : (x - y).toInt = x.toInt - y.toInt := by
    rw [Int32.toInt_sub]
    refine Int.bmod_eq_of_le ?_ ?_
    · omega
    · omega
  by_cases q : 0 < x - y
  · rw [if_pos q]
    have := Int32.lt_iff_toInt_lt.mp q
    omega
  · rw [if_neg q]
    omega
theorem gz_max0 {x : Int32} : 0 ≤ (if 0 < x then x else 0).toInt := by
  have z : (0 : Int32).toInt = 0 := rfl
  by_cases q : 0 < x
  · rw [if_pos q]
    have := Int32.lt_iff_toInt_lt.mp q
    omega
  · rw [if_neg q]; exact Int.le_of_eq z.symm
theorem gzFc_congr {g c : Nat} (hg : g < ng) (hng : ng ≤ 10) (hf : tF w g < 6) (hS : tS w g < 8) (hc : c ≠ 2) (e : ∀ j, j < 124 → j ≠ 58 + 7 * g → w2 j = w j) : gzFc w2 ng g c = gzFc w ng g c := by
  have eF : ∀ j, j < ng → tF w2 j = tF w j := fun j hj => by unfold tF; rw [e _ (by omega) (by omega)]
  have eT : ∀ j, j < ng → tT w2 j = tT w j := fun j hj => by unfold tT; rw [e _ (by omega) (by omega)]
  have eS : tS w2 g = tS w g := by unfold tS; rw [e _ (by omega) (by omega)]
  have eH : ∀ j, j < ng → tH w2 j = tH w j := fun j hj => by unfold tH; rw [e _ (by omega) (by omega)]
  by_cases h11 : 10 ≤ c
  · have : ∀ (w : Nat → Int32), gzFc w ng g c = w 6 := fun w => by
      unfold gzFc
      split <;> first | rfl | omega
    rw [this, this, e 6 (by omega) (by omega)]
  · rcases (show c = 0 ∨ c = 1 ∨ c = 3 ∨ c = 4 ∨ c = 5 ∨ c = 6 ∨ c = 7 ∨ c = 8 ∨ c = 9 by omega) with rfl | rfl | rfl | rfl | rfl | rfl | rfl | rfl | rfl
    · rfl
    · exact e _ (by omega) (by omega)
    · show w2 (30 + 4 * tF w2 g) = w (30 + 4 * tF w g)
      rw [eF g hg]; exact e _ (by omega) (by omega)
    · show w2 (14 + 2 * tS w2 g) = w (14 + 2 * tS w g)
      rw [eS]; exact e _ (by omega) (by omega)
    · show w2 (15 + 2 * tS w2 g) = w (15 + 2 * tS w g)
      rw [eS]; exact e _ (by omega) (by omega)
    · show w2 (10 + (w2 4).toNatClampNeg % 4) = w (10 + (w 4).toNatClampNeg % 4)
      rw [e 4 (by omega) (by omega)]; exact e _ (by omega) (by omega)
    · show Int32.ofNat ((w2 4).toNatClampNeg % 4) = Int32.ofNat ((w 4).toNatClampNeg % 4)
      rw [e 4 (by omega) (by omega)]
    · show (if tU w2 g = true then (1 : Int32) else 0) = if tU w g = true then 1 else 0
      have : tU w2 g = tU w g := by unfold tU; rw [e _ (by omega) (by omega)]
      rw [this]
    · show (if gzRv w2 ng g = true then (1 : Int32) else 0) = if gzRv w ng g = true then 1 else 0
      have : gzRv w2 ng g = gzRv w ng g := by
        unfold gzRv
        refine gzAn_congr fun j _ hj => ?_
        rw [eH j (by omega), eF j (by omega), eT j (by omega), eT g hg, eF g hg]
      rw [this]
theorem r_turn {g : Nat} (hS : gzSm Ic t Im nf ng) (hg : g < ng) (hφ : 500 < φ) : ∃ (d : Nat) (Ic' Im' : gzIT), d ≤ 1 ∧ (∀ k x2, f_X8_turnAll_4 φ t 0 (k + 1) x2 (Int32.ofNat g) Ic J = f_X8_turnAll_4 φ t 0 k (x2 + Int32.ofNat d) (Int32.ofNat (g + 1)) Ic' J) ∧ (∀ J' : gzJT, f_X12_ages φ (Int32.ofNat g) Im J' = some (Int32.ofNat d, Im', J')) ∧ gzSm Ic' t Im' nf ng ∧ gzSx t Ic Ic' Im Im' ∧ (∀ k, k < 54 → k ≠ 8 → Im' 0 48 k = Im 0 48 k) := by
  obtain ⟨⟨nl, nx, hT, hx⟩, hlaw⟩ := id hS
  have n3 := hT.1.1
  have n4 := hT.1.2.1
  obtain ⟨vm, vb⟩ := gzV_m hT hx.1
  have vc := gzV_c hT hx.1
  have hm : gzVi Im (Im 0 48) nf ng := ⟨fun _ _ => rfl, vm, vb⟩
  have hF := vb.1 g hg
  have hS8 := vb.2.2.2 g hg
  by_cases x : tH (Im 0 48) g = true
  · refine ⟨0, Ic, Im, by omega, fun k x2 => ?_, fun J' => ?_, hS, gzSx_0, fun _ _ _ => rfl⟩
    · rw [f_X8_turnAll_4, vc.1.2.1, if_neg (by rw [gzn_le (by omega) (by omega)]; omega), c_frozen vc hg, if_pos x]
      simp only [Option.bind_some]
      rw [if_neg (by simp), gzn_succ, show Int32.ofNat 0 = 0 from rfl, Int32.add_zero]
    · unfold f_X12_ages
      rw [m_isThawed hm hg, if_pos x]
      simp only [Option.bind_some]
      rw [if_neg (by decide)]
      rfl
  · obtain ⟨F, ht1, ht2⟩ := c_tell (J := J) (φ := φ) hT hx hg (by omega)
    obtain ⟨M1, eM1⟩ : ∃ M1, M1 = gz_uw Ic 0 26 F := ⟨_, rfl⟩
    have M1n : ∀ t' o k, ¬ (t' = 0 ∧ o = 26) → M1 t' o k = Ic t' o k := fun t' o k q => by rw [eM1, gz_uw_ne q]
    have M126 : ∀ c, M1 0 26 c = F c := fun c => by rw [eM1, gz_uw_eq]
    have hT1 : gzTn M1 t (Im 0 48) nf ng nl nx := gzTn_congr (fun o k h1 h2 => M1n t o k (by omega)) hT
    have hlaw1 : gzLw M1 0 (fun i => Im 0 48 (364 + i)) (Im 0 48 3) := gzLw_congr (fun o k h1 h2 => M1n 0 o k (by omega)) hlaw
    have h207 : M1 0 20 7 = Ic 0 20 7 := M1n 0 20 7 (by omega)
    obtain ⟨a, f1, h1, ba, ca, ma⟩ := r_amount (J := J) (φ := φ) (kd := 0) (M1 0 27) (Im 0 55) hT1 hx hm hg (fun i hi => rfl) hlaw1 (fun q c hc => by rw [M126]; rw [h207] at q; exact ht2 q c hc) (by omega) hφ
    rw [gz_uw_same rfl] at ca
    have bI := (hx.1.2.2.2.2.2 g hg).2.1
    obtain ⟨y, ey⟩ : ∃ y, y = if Im 0 48 (58 + 7 * g) + a < 999 then Im 0 48 (58 + 7 * g) + a else 999 := ⟨_, rfl⟩
    have by1 : 0 ≤ y.toInt ∧ y.toInt ≤ 999 := by
      rw [ey]
      exact gz_cap (c := 999) (by omega) (ba rfl) (by omega)
    have hice : M1 t 12 g = Im 0 48 (58 + 7 * g) := (M1n t 12 g (by omega)).trans (vc.2.2.2.2.2.1 g hg)
    obtain ⟨M2, eM2⟩ : ∃ M2, M2 = gz_uw M1 0 27 f1 := ⟨_, rfl⟩
    have M2n : ∀ t' o k, ¬ (t' = 0 ∧ o = 27) → M2 t' o k = M1 t' o k := fun t' o k q => by rw [eM2, gz_uw_ne q]
    obtain ⟨M3, eM3⟩ : ∃ M3, M3 = gz_ui M2 t 12 g y := ⟨_, rfl⟩
    obtain ⟨M4, eM4⟩ : ∃ M4, M4 = gz_ui M3 0 26 2 y := ⟨_, rfl⟩
    have M4n : ∀ t' o k, ¬ (t' = 0 ∧ o = 27) → ¬ (t' = t ∧ o = 12 ∧ k = g) → ¬ (t' = 0 ∧ o = 26 ∧ k = 2) → M4 t' o k = M1 t' o k := fun t' o k q1 q2 q3 => by
      rw [eM4, eM3]
      exact (if_neg q3).trans ((if_neg q2).trans (M2n t' o k q1))
    have M4y : M4 t 12 g = y := by rw [eM4, eM3]; exact (if_neg (by omega)).trans gz_ui_s
    have M42 : M4 0 26 2 = y := by rw [eM4]; exact gz_ui_s
    have M4c : ∀ t' o k, ¬ (o = 26 ∨ o = 27) → ¬ (t' = t ∧ o = 12 ∧ k = g) → M4 t' o k = Ic t' o k := fun t' o k q1 q2 => (M4n t' o k (by omega) q2 (by omega)).trans (M1n t' o k (by omega))
    obtain ⟨N2, eN2⟩ : ∃ N2, N2 = gz_uw Im 0 55 h1 := ⟨_, rfl⟩
    have N2n : ∀ t' o k, ¬ (t' = 0 ∧ o = 55) → N2 t' o k = Im t' o k := fun t' o k q => by rw [eN2, gz_uw_ne q]
    obtain ⟨N3, eN3⟩ : ∃ N3, N3 = gz_ui N2 0 48 (58 + 7 * g) y := ⟨_, rfl⟩
    have N3n : ∀ t' o k, ¬ (t' = 0 ∧ o = 55) → ¬ (t' = 0 ∧ o = 48 ∧ k = 58 + 7 * g) → N3 t' o k = Im t' o k := fun t' o k q1 q2 => by
      rw [eN3]
      exact (if_neg q2).trans (N2n t' o k q1)
    have N3y : N3 0 48 (58 + 7 * g) = y := by rw [eN3]; exact gz_ui_s
    have N3w : ∀ j, j ≠ 58 + 7 * g → N3 0 48 j = Im 0 48 j := fun j q => N3n 0 48 j (by omega) (by omega)
    have up3 := gzSm_upd (Ic' := M4) (Im' := N3) (D := fun o j => o = 12 ∧ j = g) (E := fun i => i = 58 + 7 * g) hT hx hlaw (fun o j ho q _ => M4c t o j (by omega) (fun z => q z.2)) (fun j _ _ q => N3w j q) (fun o j i q => by
      unfold gzQp at q
      by_cases e : o = 12 ∧ j = g
      · left
        obtain ⟨rfl, rfl⟩ := e
        rw [M4y, show i = 58 + 7 * j by omega, N3y]
      · right
        exact ⟨e, by omega⟩) ⟨by omega, by omega, by omega, by omega, by omega, fun g hg => ⟨by omega, by omega, by omega⟩⟩ (fun i _ e => by
      have e' : i = 58 + 7 * g := e
      rw [e', N3y]
      exact gz_bdI n3 hg by1) (gzLg_same hT.2.2.2.2.2.2 (fun o j q => M4c t o j (by omega) (by omega)) (fun j q => N3w j (by omega))) (fun o k q1 q2 => M4c 0 o k (by omega) (by omega)) (fun k q => N3w k (by omega))
    obtain ⟨⟨hT4, hx4⟩, hlaw4⟩ := up3
    obtain ⟨vm4, vb4⟩ := gzV_m hT4 hx4.1
    have hm4 : gzVi N3 (N3 0 48) nf ng := ⟨fun _ _ => rfl, vm4, vb4⟩
    have hval4 : M4 0 20 7 ≠ -1 → ∀ c, c < 11 → M4 0 26 c = gzFc (N3 0 48) ng g c := fun q c hc => by
      have q' : Ic 0 20 7 ≠ -1 := by
        rw [M4c 0 20 7 (by omega) (by omega)] at q
        exact q
      by_cases c2 : c = 2
      · subst c2
        rw [M42]
        exact N3y.symm
      · rw [M4n 0 26 c (by omega) (by omega) (by omega), M126, ht2 q' c hc]
        exact (gzFc_congr hg n4 (by omega) hS8 c2 (fun j _ q => N3w j q)).symm
    obtain ⟨b, f2, h2, -, cb, mb⟩ := r_amount (J := J) (φ := φ) (kd := 1) (M4 0 27) (N3 0 55) hT4 hx4 hm4 hg (fun i hi => rfl) hlaw4 hval4 (by omega) hφ
    rw [gz_uw_same rfl] at cb
    obtain ⟨c, f3, h3, -, cc, mc⟩ := r_amount (J := J) (φ := φ) (kd := 2) f2 h2 hT4 hx4 hm4 hg (fun i hi => rfl) hlaw4 hval4 (by omega) hφ
    obtain ⟨z, ez⟩ : ∃ z, z = if 0 < y - (if 0 < b - c then b - c else 0) then y - (if 0 < b - c then b - c else 0) else 0 := ⟨_, rfl⟩
    have bz : 0 ≤ z.toInt ∧ z.toInt ≤ 999 := by
      rw [ez]
      exact gz_less (c := 999) by1 gz_max0 (by omega)
    have bA := (hx.1.2.2.2.2.2 g hg).1
    obtain ⟨ag, eag⟩ : ∃ ag, ag = if Im 0 48 (57 + 7 * g) + 1 < 99 then Im 0 48 (57 + 7 * g) + 1 else 99 := ⟨_, rfl⟩
    have bag : 0 ≤ ag.toInt ∧ ag.toInt ≤ 99 := by
      rw [eag]
      exact gz_cap (c := 99) (by omega) (by decide) (by omega)
    obtain ⟨M6, eM6⟩ : ∃ M6, M6 = gz_uw M4 0 27 f3 := ⟨_, rfl⟩
    have M6n : ∀ t' o k, ¬ (t' = 0 ∧ o = 27) → M6 t' o k = M4 t' o k := fun t' o k q => by rw [eM6, gz_uw_ne q]
    obtain ⟨M7, eM7⟩ : ∃ M7, M7 = gz_ui (gz_ui M6 t 12 g z) t 11 g ag := ⟨_, rfl⟩
    have M7n : ∀ t' o k, ¬ (t' = 0 ∧ o = 27) → ¬ (t' = t ∧ (o = 12 ∨ o = 11) ∧ k = g) → M7 t' o k = M4 t' o k := fun t' o k q1 q2 => by
      rw [eM7]
      exact (if_neg (by omega)).trans ((if_neg (by omega)).trans (M6n t' o k q1))
    have M7z : M7 t 12 g = z := by rw [eM7]; exact (if_neg (by omega)).trans gz_ui_s
    have M7a : M7 t 11 g = ag := by rw [eM7]; exact gz_ui_s
    have M7c : ∀ t' o k, ¬ (o = 26 ∨ o = 27) → ¬ (t' = t ∧ (o = 12 ∨ o = 11) ∧ k = g) → M7 t' o k = Ic t' o k := fun t' o k q1 q2 => (M7n t' o k (by omega) q2).trans (M4c t' o k q1 (by omega))
    obtain ⟨N6, eN6⟩ : ∃ N6, N6 = gz_uw N3 0 55 h3 := ⟨_, rfl⟩
    have N6n : ∀ t' o k, ¬ (t' = 0 ∧ o = 55) → N6 t' o k = N3 t' o k := fun t' o k q => by rw [eN6, gz_uw_ne q]
    obtain ⟨N6b, eN6b⟩ : ∃ N6b, N6b = gz_ui N6 0 48 (58 + 7 * g) z := ⟨_, rfl⟩
    have N6bn : ∀ t' o k, ¬ (t' = 0 ∧ o = 48 ∧ k = 58 + 7 * g) → N6b t' o k = N6 t' o k := fun t' o k q => by rw [eN6b]; exact if_neg q
    obtain ⟨N7, eN7⟩ : ∃ N7, N7 = gz_ui N6b 0 48 (57 + 7 * g) ag := ⟨_, rfl⟩
    have N7n : ∀ t' o k, ¬ (t' = 0 ∧ o = 55) → ¬ (t' = 0 ∧ o = 48 ∧ (k = 58 + 7 * g ∨ k = 57 + 7 * g)) → N7 t' o k = Im t' o k := fun t' o k q1 q2 => by
      rw [eN7]
      exact (if_neg (by omega)).trans ((N6bn t' o k (by omega)).trans ((N6n t' o k q1).trans (N3n t' o k q1 (by omega))))
    have N7z : N7 0 48 (58 + 7 * g) = z := by rw [eN7, eN6b]; exact (if_neg (by omega)).trans gz_ui_s
    have N7a : N7 0 48 (57 + 7 * g) = ag := by rw [eN7]; exact gz_ui_s
    have N7w : ∀ j, ¬ (j = 58 + 7 * g ∨ j = 57 + 7 * g) → N7 0 48 j = Im 0 48 j := fun j q => N7n 0 48 j (by omega) (by omega)
    -- the class's step as far as the age
    have hcls : ∀ k x2, f_X8_turnAll_4 φ t 0 (k + 1) x2 (Int32.ofNat g) Ic J = if ¬ z = 0 then f_X8_turnAll_4 φ t 0 k x2 (Int32.ofNat (g + 1)) M7 J else Option.bind (f_X4_put t (M7 t 0 7) (Int32.ofNat g) 0 0 (gz_ui M7 t 14 g 1) J) (fun v15 => f_X8_turnAll_4 φ t 0 k (x2 + 1) (Int32.ofNat (g + 1)) v15.2.1 v15.2.2) := fun k x2 => by
      have e07 : M7 t 0 7 = M6 t 0 7 := by rw [eM7]; exact (if_neg (by omega)).trans (if_neg (by omega))
      have e12 : M6 t 12 g = y := (M6n t 12 g (by omega)).trans M4y
      have e11 : M6 t 11 g = Im 0 48 (57 + 7 * g) := (M6n t 11 g (by omega)).trans ((M4c t 11 g (by omega) (by omega)).trans (vc.2.2.2.2.1 g hg))
      rw [f_X8_turnAll_4, vc.1.2.1, if_neg (by rw [gzn_le (by omega) (by omega)]; omega), c_frozen vc hg, if_neg x]
      simp only [Option.bind_some]
      rw [if_pos (by decide), ht1]
      simp only [Option.bind_some]
      rw [gzGd_in (by omega) (by omega), gzn_clamp (by omega), ← eM1, show f_X8_amountBy φ t 0 1023 (Int32.ofNat g) M1 J = some (a, gz_uw M1 0 27 f1, J) from ca]
      simp only [Option.bind_some]
      rw [← eM2, hice, ← ey, ← eM3, show (2 : Int32) = Int32.ofNat 2 from rfl, gzc_write (by omega) (by omega), ← eM4]
      simp only [Option.bind_some]
      rw [show f_X8_amountBy φ t 0 1024 (Int32.ofNat g) M4 J = some (b, gz_uw M4 0 27 f2, J) from cb]
      simp only [Option.bind_some]
      rw [show f_X8_amountBy φ t 0 1025 (Int32.ofNat g) (gz_uw M4 0 27 f2) J = some (c, gz_uw M4 0 27 f3, J) from cc]
      simp only [Option.bind_some]
      rw [← eM6, e12, ← ez, e11, ← eag, ← eM7, gzn_succ, e07]
    have hmod : ∀ J' : gzJT, f_X12_ages φ (Int32.ofNat g) Im J' = if z ≤ 0 then Option.bind (f_X12_tells φ (Int32.ofNat g) 0 0 (gz_ui N7 0 48 (60 + 7 * g) 1) J') (fun v28 => some (1, v28.2.1, v28.2.2)) else some (0, N7, J') := fun J' => by
      have ma' := ma J'
      rw [gz_uw_same rfl, ← eN2] at ma'
      have mb' := mb J'
      rw [gz_uw_same rfl] at mb'
      have mc' := mc J'
      have e58 : N2 0 48 (58 + 7 * g) = Im 0 48 (58 + 7 * g) := N2n 0 48 _ (by omega)
      have e57 : N6b 0 48 (57 + 7 * g) = Im 0 48 (57 + 7 * g) := (N6bn 0 48 _ (by omega)).trans ((N6n 0 48 _ (by omega)).trans (N3w _ (by omega)))
      unfold f_X12_ages
      rw [m_isThawed hm hg, if_neg x]
      simp only [Option.bind_some]
      rw [if_pos (by simp), show f_X12_byLaw φ 0 (Int32.ofNat g) Im J' = some (a, N2, J') from ma']
      unfold f_X12_at f_X12_adds
      simp only [Option.bind_some]
      rw [gzc_mul, gzc_add', gzc_add, gzc_add, gzc_add, gzGd_in (show 54 + 7 * g + 4 < 2062 by omega) (by omega), gzn_clamp (show 54 + 7 * g + 4 < 2 ^ 31 by omega), show 54 + 7 * g + 4 = 58 + 7 * g by omega, e58, ← ey, ← eN3]
      simp only [Option.bind_some]
      rw [m_of4 hm4 hg]
      simp only [Option.bind_some]
      rw [show f_X12_byLaw φ 1 (Int32.ofNat g) N3 J' = some (b, gz_uw N3 0 55 h2, J') from mb']
      simp only [Option.bind_some]
      rw [show f_X12_byLaw φ 2 (Int32.ofNat g) (gz_uw N3 0 55 h2) J' = some (c, gz_uw N3 0 55 h3, J') from mc']
      simp only [Option.bind_some]
      rw [← eN6, N3y, ← ez, gzGd_in (show 58 + 7 * g < 2062 by omega) (by omega), ← eN6b, show 54 + 7 * g + 3 = 57 + 7 * g by omega, gzGd_in (show 57 + 7 * g < 2062 by omega) (by omega), gzn_clamp (show 57 + 7 * g < 2 ^ 31 by omega), e57, ← eag, ← eN7]
      simp only [Option.bind_some]
      rw [show (4 : Int32) = Int32.ofNat 4 from rfl, s_X12_of (by omega) (by omega), show 54 + 7 * g + 4 = 58 + 7 * g by omega, N7z]
      simp only [Option.bind_some]
      rw [show 54 + 7 * g + 6 = 60 + 7 * g by omega, gzGd_in (show 60 + 7 * g < 2062 by omega) (by omega), gzn_clamp (show 60 + 7 * g < 2 ^ 31 by omega)]
    have up7 : ∀ (M8 N8 : gzIT) (q8 : Bool) (nl2 nx2 : Nat), (∀ o j, o < 20 → ¬ ((o = 12 ∨ o = 11 ∨ (o = 14 ∧ q8 = true)) ∧ j = g) → ¬ (o = 15 ∨ o = 16) → M8 t o j = Ic t o j) → (∀ j, j < 124 → j ≠ 8 → ¬ (j = 58 + 7 * g ∨ j = 57 + 7 * g ∨ (j = 60 + 7 * g ∧ q8 = true)) → N8 0 48 j = Im 0 48 j) → M8 t 12 g = z → M8 t 11 g = ag → N8 0 48 (58 + 7 * g) = z → N8 0 48 (57 + 7 * g) = ag → (q8 = true → M8 t 14 g = 1 ∧ N8 0 48 (60 + 7 * g) = 1) → gzLg M8 t (N8 0 48) nl2 nx2 → (∀ o k, 20 ≤ o → o < 26 → M8 0 o k = Ic 0 o k) → (∀ k, 364 ≤ k → N8 0 48 k = Im 0 48 k) → gzSm M8 t N8 nf ng := by
      intro M8 N8 q8 nl2 nx2 tt tw s1 s2 s3 s4 s5 lg l1 l2
      have up := gzSm_upd (Ic' := M8) (Im' := N8) (D := fun o j => (o = 12 ∨ o = 11 ∨ (o = 14 ∧ q8 = true)) ∧ j = g) (E := fun i => i = 58 + 7 * g ∨ i = 57 + 7 * g ∨ (i = 60 + 7 * g ∧ q8 = true)) hT hx hlaw tt tw (fun o j i q => by
        unfold gzQp at q
        by_cases e : o = 12 ∧ j = g
        · left
          obtain ⟨rfl, rfl⟩ := e
          rw [s1, show i = 58 + 7 * j by omega, s3]
        · by_cases e2 : o = 11 ∧ j = g
          · left
            obtain ⟨rfl, rfl⟩ := e2
            rw [s2, show i = 57 + 7 * j by omega, s4]
          · by_cases e3 : (o = 14 ∧ j = g) ∧ q8 = true
            · left
              obtain ⟨⟨rfl, rfl⟩, e4⟩ := e3
              rw [(s5 e4).1, show i = 60 + 7 * j by omega, (s5 e4).2]
            · right
              refine ⟨?_, ?_⟩
              · rintro ⟨z1 | z1 | ⟨z1, z2⟩, z3⟩
                · exact e ⟨z1, z3⟩
                · exact e2 ⟨z1, z3⟩
                · exact e3 ⟨⟨z1, z3⟩, z2⟩
              · rintro (z1 | z1 | ⟨z1, z2⟩)
                · omega
                · omega
                · exact e3 ⟨by omega, z2⟩) ⟨by omega, by omega, by omega, by omega, by omega, fun g' hg' => ⟨by omega, by omega, by omega⟩⟩ (fun i _ e => by
        rcases e with e | e | ⟨e, e2⟩
        · rw [e, s3]; exact gz_bdI n3 hg bz
        · rw [e, s4]
          exact ⟨fun q => by omega, fun q => by omega, fun q => by omega, fun q => by omega, fun q => by omega, fun f hf => ⟨fun q => by omega, fun q => by omega, fun q => by omega⟩, fun g hg => ⟨fun q => bag, fun q => by omega, fun q => by omega⟩⟩
        · rw [e, (s5 e2).2]; exact gz_bdU n3 (Or.inr rfl) (Or.inr rfl)) lg l1 l2
      exact ⟨⟨_, _, up.1⟩, up.2⟩
    by_cases hz : z = 0
    · -- it thaws
      obtain ⟨M8, eM8⟩ : ∃ M8, M8 = gz_ui M7 t 14 g 1 := ⟨_, rfl⟩
      have M8n : ∀ t' o k, ¬ (t' = t ∧ o = 14 ∧ k = g) → M8 t' o k = M7 t' o k := fun t' o k q => by rw [eM8]; exact if_neg q
      have M8s : M8 t 14 g = 1 := by rw [eM8]; exact gz_ui_s
      have hl := hT.2.2.2.2.2.2
      obtain ⟨C, hput, Cn, Cc1, Cc2, Cc3, Cc4⟩ := c_lgput (J := J) (I := M8) (t := t) (nl := nl) (nx := nx) (a1 := M7 t 0 7) (a2 := Int32.ofNat g) (a3 := 0) (a4 := 0) ((M8n t 15 1 (by omega)).trans ((M7c t 15 1 (by omega) (by omega)).trans hl.2.2.1)) ((M8n t 15 2 (by omega)).trans ((M7c t 15 2 (by omega) (by omega)).trans hl.2.2.2.2.1)) hl.1 hl.2.1
      obtain ⟨N8, eN8⟩ : ∃ N8, N8 = gz_ui N7 0 48 (60 + 7 * g) 1 := ⟨_, rfl⟩
      have N8n : ∀ t' o k, ¬ (t' = 0 ∧ o = 48 ∧ k = 60 + 7 * g) → N8 t' o k = N7 t' o k := fun t' o k q => by rw [eN8]; exact if_neg q
      have N8s : N8 0 48 (60 + 7 * g) = 1 := by rw [eN8]; exact gz_ui_s
      have N8w : ∀ j, ¬ (j = 58 + 7 * g ∨ j = 57 + 7 * g ∨ j = 60 + 7 * g) → N8 0 48 j = Im 0 48 j := fun j q => (N8n 0 48 j (by omega)).trans (N7w j (by omega))
      obtain ⟨T, htell, Tn, T8, T4, Tsh⟩ := m_tells (I := N8) (φ := φ) (nl := nl) (a1 := Int32.ofNat g) (a2 := 0) (a3 := 0) ((N8w 8 (by omega)).trans hl.2.2.2.1) hl.1 (by omega)
      refine ⟨1, C, T, by omega, fun k x2 => ?_, fun J' => ?_, ?_, ?_, fun k hk h8 => (Tn 0 48 k (by omega)).trans (N8w k (by omega))⟩
      · rw [hcls, if_neg (by rw [hz]; simp), ← eM8, hput]
        rfl
      · rw [hmod, if_pos (by rw [hz]; decide), ← eN8, htell]
        rfl
      · refine up7 C T true _ _ (fun o j ho q q2 => (Cn t o j (by omega)).trans ((M8n t o j (by simp at q; omega)).trans (M7c t o j (by omega) (by simp at q; omega)))) (fun j hj h8 q => (Tn 0 48 j (by omega)).trans (N8w j (by simp at q; omega))) ((Cn t 12 g (by omega)).trans ((M8n t 12 g (by omega)).trans M7z)) ((Cn t 11 g (by omega)).trans ((M8n t 11 g (by omega)).trans M7a)) ((Tn 0 48 _ (by omega)).trans ((N8n 0 48 _ (by omega)).trans N7z)) ((Tn 0 48 _ (by omega)).trans ((N8n 0 48 _ (by omega)).trans N7a)) (fun _ => ⟨(Cn t 14 g (by omega)).trans M8s, (Tn 0 48 _ (by omega)).trans N8s⟩) (gzLg_push (w2 := T 0 48) hl Cc1 Cc2 ⟨?_, ?_, ?_, ?_⟩ (fun j q => ?_) T8 (fun j q => ?_)) (fun o k q1 q2 => (Cn 0 o k (by omega)).trans ((M8n 0 o k (by omega)).trans (M7c 0 o k (by omega) (by omega)))) (fun k q => (Tn 0 48 k (by omega)).trans (N8w k (by omega)))
        · rw [Cc3.1, T4.1, M7c t 0 7 (by omega) (by omega), N8w 4 (by omega)]; exact hT.2.1.2.1
        · rw [Cc3.2.1, T4.2.1]
        · rw [Cc3.2.2.1, T4.2.2.1]
        · rw [Cc3.2.2.2, T4.2.2.2]
        · rw [Cc4 j q, M8n t 16 j (by omega), M7c t 16 j (by omega) (by omega)]
        · rw [Tsh j q, N8w _ (by omega)]
      · refine ⟨fun t' o k q1 q2 => (Cn t' o k (by omega)).trans ((M8n t' o k (by omega)).trans (M7c t' o k q2 (by omega))), fun t' o k q1 q2 => (Tn t' o k (by omega)).trans ((N8n t' o k (by omega)).trans (N7n t' o k (by omega) (by omega))), (Tn 0 48 3 (by omega)).trans (N8w 3 (by omega)), fun k => (Cn t 13 k (by omega)).trans ((M8n t 13 k (by omega)).trans (M7c t 13 k (by omega) (by omega))), fun k => ?_, (Cn t 0 9 (by omega)).trans ((M8n t 0 9 (by omega)).trans (M7c t 0 9 (by omega) (by omega)))⟩
        by_cases e : k = g
        · right
          rw [e, Cn t 14 g (by omega), M8s]
        · left
          rw [Cn t 14 k (by omega), M8n t 14 k (by omega), M7c t 14 k (by omega) (by omega)]
    · refine ⟨0, M7, N7, by omega, fun k x2 => ?_, fun J' => ?_, ?_, ?_, fun k hk h8 => N7w k (by omega)⟩
      · rw [hcls, if_pos hz, show Int32.ofNat 0 = 0 from rfl, Int32.add_zero]
      · rw [hmod, if_neg]
        · rfl
        · intro q
          have q' := Int32.le_iff_toInt_le.mp q
          have z0 : (0 : Int32).toInt = 0 := rfl
          exact hz (Int32.toInt_inj.mp (by omega))
      · refine up7 M7 N7 false nl nx (fun o j ho q q2 => M7c t o j (by omega) (by simp at q; omega)) (fun j hj h8 q => N7w j (by simp at q; omega)) M7z M7a N7z N7a (fun q => by cases q) (gzLg_same hT.2.2.2.2.2.2 (fun o j q => M7c t o j (by omega) (by omega)) (fun j q => N7w j (by omega))) (fun o k q1 q2 => M7c 0 o k (by omega) (by omega)) (fun k q => N7w k (by omega))
      · exact ⟨fun t' o k q1 q2 => M7c t' o k q2 (by omega), fun t' o k q1 q2 => N7n t' o k (by omega) (by omega), N7w 3 (by omega), fun k => M7c t 13 k (by omega) (by omega), fun k => Or.inl (M7c t 14 k (by omega) (by omega)), M7c t 0 9 (by omega) (by omega)⟩
end
