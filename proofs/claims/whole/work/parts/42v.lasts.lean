/-! how long: family, scarce, stock -/
section
variable {I I' I2 X T Ic Im Ic' Im' Ic2 Im2 M K R : gzIT} {J : gzJT} {w w2 v : Nat → Int32} {nf ng nl nx nl2 nx2 t t1 φ : Nat}
/-- by how many seasons there will have been too little -/
def gzLs (n x : Int32) : Nat → Nat → Int32 → Int32 → Int32
  | 0, _, _, _ => -1
  | m + 1, k, l, o => if o ≤ x then gzLs n x m (k + 1) (gzE1 n l) (gzE2 n l o) else Int32.ofNat k
theorem gzLs_a {a c : Nat} (ha : 0 < a) (ha2 : a ≤ 99) (hc : c < 99) : ∀ (m k b : Nat), b ≤ 999 → gzLs (Int32.ofNat a) (Int32.ofNat c) m k (Int32.ofNat b) (Int32.ofNat c) = if b / a + 1 < m then Int32.ofNat (k + b / a + 1) else -1 := by
  intro m
  induction m with
  | zero => intro k b hb; rw [if_neg (Nat.not_lt_zero _)]; rfl
  | succ m ih =>
    intro k b hb
    show (if Int32.ofNat c ≤ Int32.ofNat c then gzLs _ _ m (k + 1) (gzE1 (Int32.ofNat a) (Int32.ofNat b)) (gzE2 (Int32.ofNat a) (Int32.ofNat b) (Int32.ofNat c)) else Int32.ofNat k) = _
    rw [if_pos (by rw [gzn_le (by omega) (by omega)]; omega)]
    unfold gzE1 gzE2
    by_cases q : b < a
    · rw [if_pos (by rw [gzn_lt (by omega) (by omega)]; exact q), if_pos (by rw [gzn_lt (by omega) (by omega)]; exact q), gzc_add, Nat.div_eq_of_lt q]
      have e : (if Int32.ofNat (c + 1) < 99 then Int32.ofNat (c + 1) else 99) = Int32.ofNat (c + 1) := by
        by_cases z : c + 1 < 99
        · rw [if_pos (by rw [gzc_lt2 (by omega) (by omega)]; exact z)]
        · rw [if_neg (by rw [gzc_lt2 (by omega) (by omega)]; exact z), show c + 1 = 99 by omega]; rfl
      rw [e]
      cases m with
      | zero => rw [if_neg (by omega)]; rfl
      | succ m =>
        show (if Int32.ofNat (c + 1) ≤ Int32.ofNat c then _ else Int32.ofNat (k + 1)) = _
        rw [if_neg (by rw [gzn_le (by omega) (by omega)]; omega), if_pos (by omega)]
    · rw [if_neg (by rw [gzn_lt (by omega) (by omega)]; exact q), if_neg (by rw [gzn_lt (by omega) (by omega)]; exact q), gzc_subs (by omega), ih (k + 1) (b - a) (by omega)]
      have e : b / a = (b - a) / a + 1 := by
        have := Nat.add_div_right (b - a) ha
        rw [show b - a + a = b by omega] at this
        omega
      rw [e]
      by_cases z : (b - a) / a + 1 < m
      · rw [if_pos z, if_pos (by omega), show k + 1 + (b - a) / a + 1 = k + ((b - a) / a + 1) + 1 by omega]
      · rw [if_neg z, if_neg (by omega)]
theorem gzLs_z {x : Int32} : ∀ (m k : Nat) (l : Int32), 0 ≤ l.toInt → gzLs 0 x m k l x = -1 := by
  intro m
  induction m with
  | zero => intro k l _; rfl
  | succ m ih =>
    intro k l hl
    show (if x ≤ x then gzLs 0 x m (k + 1) (gzE1 0 l) (gzE2 0 l x) else Int32.ofNat k) = -1
    have hn : ¬ l < 0 := fun q => by
      have := Int32.lt_iff_toInt_lt.mp q
      have z : (0 : Int32).toInt = 0 := rfl
      omega
    rw [if_pos (Int32.le_iff_toInt_le.mpr (Int.le_refl _))]
    unfold gzE1 gzE2
    rw [if_neg hn, if_neg hn, Int32.sub_zero]
    exact ih (k + 1) l hl
theorem gzLs_99 {n x : Int32} (hx : 99 ≤ x.toInt) : ∀ (m k : Nat) (l o : Int32), 0 ≤ o.toInt ∧ o.toInt ≤ 99 → gzLs n x m k l o = -1 := by
  intro m
  induction m with
  | zero => intro k l o _; rfl
  | succ m ih =>
    intro k l o ho
    show (if o ≤ x then gzLs n x m (k + 1) (gzE1 n l) (gzE2 n l o) else Int32.ofNat k) = -1
    rw [if_pos (Int32.le_iff_toInt_le.mpr (by omega))]
    exact ih (k + 1) _ _ (gz_e2b ho)
/-- the class's own count -/
theorem c_lasts {f : Nat} {l n o : Int32} (hf : f < 6) (h3 : I t 3 f = n) (h4 : I t 4 f = l) (h5 : I t 5 f = o) (bn : 0 ≤ n.toInt ∧ n.toInt ≤ 99) (bl : 0 ≤ l.toInt ∧ l.toInt ≤ 999) (bo : 0 ≤ o.toInt ∧ o.toInt ≤ 99) : f_X0_lasts t I (Int32.ofNat f) = some (gzLs n o 61 0 l o) := by
  unfold f_X0_lasts
  rw [gzc_cell hf (by omega), gzc_cell hf (by omega), gzc_cell hf (by omega), h3, h4, h5]
  simp only [Option.bind_some]
  obtain ⟨a, ha, rfl⟩ := gzn_of bn.1
  obtain ⟨b, hb, rfl⟩ := gzn_of bl.1
  obtain ⟨c, hc, rfl⟩ := gzn_of bo.1
  rw [gzn_int ha] at bn
  rw [gzn_int hb] at bl
  rw [gzn_int hc] at bo
  by_cases q : a = 0
  · subst q
    rw [if_pos (by decide)]
    exact congrArg some (gzLs_z 61 0 _ (by rw [gzn_int hb]; omega)).symm
  · rw [if_neg (by rw [gzc_le2 (by omega) (by omega)]; omega)]
    by_cases z : c < 99
    · rw [if_pos (by rw [gzc_lt2 (by omega) (by omega)]; exact z), gzLs_a (by omega) (by omega) z 61 0 b (by omega)]
      unfold gzGn
      have hd : b / a ≤ b := Nat.div_le_self b a
      rw [if_neg (by rw [gzc_eq2 (by omega) (by omega)]; exact q), gzc_divs (by omega) (by omega), gzc_add]
      by_cases y : b / a + 1 < 61
      · rw [if_pos y, if_neg (by rw [gzc_lt1 (by omega) (by omega)]; omega), show 0 + b / a + 1 = b / a + 1 by omega]
      · rw [if_neg y, if_pos (by rw [gzc_lt1 (by omega) (by omega)]; omega)]
    · rw [if_neg (by rw [gzc_lt2 (by omega) (by omega)]; exact z), gzLs_99 (by rw [gzn_int (by omega)]; omega) 61 0 _ _ (by rw [gzn_int (by omega)]; omega)]
/-- the model's, season by season -/
theorem m_lastsL {f : Nat} {x : Int32} (hf : f < nf) (hf6 : nf ≤ 6) (hφ : 1000 < φ) : ∀ (m n k : Nat) (M : gzIT), n + m = 61 → (∃ D, gzSm D 0 M nf ng) → m + 1 < k → ∃ N : gzIT, (∀ J' : gzJT, f_X12_lastsOf_16 φ k (Int32.ofNat f) x (-1) (Int32.ofNat n) M J' = some (gzLs (M 0 48 (31 + 4 * f)) x m n (M 0 48 (32 + 4 * f)) (M 0 48 (33 + 4 * f)), gzBk N 48 0 51 0 364, J')) ∧ (∀ t' o k, ¬ (t' = 0 ∧ o = 48 ∧ k < 364) → ¬ (o = 55) → N t' o k = M t' o k) := by
  intro m
  induction m with
  | zero =>
    intro n k M hn hD hk
    obtain ⟨k, rfl⟩ : ∃ q, k = q + 1 := ⟨k - 1, by omega⟩
    refine ⟨M, fun J' => ?_, fun _ _ _ _ _ => rfl⟩
    rw [f_X12_lastsOf_16, if_pos (by rw [gzc_lt1 (by omega) (by omega)]; omega), m_bringsBack (by omega)]
    rfl
  | succ m ih =>
    intro n k M hn hD hk
    obtain ⟨k, rfl⟩ : ∃ q, k = q + 1 := ⟨k - 1, by omega⟩
    obtain ⟨D, hD⟩ := hD
    obtain ⟨q, D', N1, hq, -, hm, S1, X1, W1⟩ := r_season (J := fun _ _ _ => 0) (φ := φ) (dr := 0) (Or.inl rfl) hD (by omega)
    have hm' : ∀ J' : gzJT, f_X12_oneSeason φ 1 M J' = some (Int32.ofNat q, N1, J') := hm
    have r3 : f_X12_ofFamily M (Int32.ofNat f) 3 = some (M 0 48 (33 + 4 * f)) := by
      rw [show (3 : Int32) = Int32.ofNat 3 from rfl, s_X12_ofFamily (by omega) (by omega), show 30 + 4 * f + 3 = 33 + 4 * f by omega]
    have step : ∀ J' : gzJT, f_X12_lastsOf_16 φ (k + 1) (Int32.ofNat f) x (-1) (Int32.ofNat n) M J' = f_X12_lastsOf_16 φ k (Int32.ofNat f) x (if M 0 48 (33 + 4 * f) ≤ x then (-1 : Int32) else Int32.ofNat n) (Int32.ofNat (n + 1)) N1 J' := fun J' => by
      rw [f_X12_lastsOf_16, if_neg (by rw [gzc_lt1 (by omega) (by omega)]; omega), if_neg (by simp), r3]
      simp only [Option.bind_some]
      rw [hm' J', gzn_succ]
      rfl
    obtain ⟨v1, v2, v3, v4⟩ := W1.2.2.1 f hf
    by_cases z : M 0 48 (33 + 4 * f) ≤ x
    · obtain ⟨N, i1, i2⟩ := ih (n + 1) k N1 (by omega) ⟨D', S1⟩ (by omega)
      refine ⟨N, fun J' => ?_, fun t' o k q1 q2 => (i2 t' o k q1 q2).trans (X1.2.1 t' o k q1 q2)⟩
      rw [step J', if_pos z, i1 J', v4, v1, v2]
      show _ = some ((if M 0 48 (33 + 4 * f) ≤ x then gzLs (M 0 48 (31 + 4 * f)) x m (n + 1) (gzE1 (M 0 48 (31 + 4 * f)) (M 0 48 (32 + 4 * f))) (gzE2 (M 0 48 (31 + 4 * f)) (M 0 48 (32 + 4 * f)) (M 0 48 (33 + 4 * f))) else Int32.ofNat n), _, J')
      rw [if_pos z]
    · refine ⟨N1, fun J' => ?_, X1.2.1⟩
      obtain ⟨k2, rfl⟩ : ∃ q, k = q + 1 := ⟨k - 1, by omega⟩
      rw [step J', if_neg z]
      have e : gzLs (M 0 48 (31 + 4 * f)) x (m + 1) n (M 0 48 (32 + 4 * f)) (M 0 48 (33 + 4 * f)) = Int32.ofNat n := if_neg z
      rw [e, f_X12_lastsOf_16]
      by_cases y : n + 1 ≤ 60
      · rw [if_neg (by rw [gzc_lt1 (by omega) (by omega)]; omega), if_pos (fun q => (gzc_m1 (by omega)).mp q), m_bringsBack (by omega)]
        rfl
      · rw [if_pos (by rw [gzc_lt1 (by omega) (by omega)]; omega), m_bringsBack (by omega)]
        rfl
/-- both -/
theorem r_lasts {f : Nat} (hS : gzSm Ic t Im nf ng) (hf : f < nf) (hφ : 1000 < φ) : ∃ r : Int32, (r = -1 ∨ (0 ≤ r.toInt ∧ r.toInt ≤ 60)) ∧ f_X0_lasts t Ic (Int32.ofNat f) = some r ∧ ∀ M : gzIT, (∀ k, k < 1213 → M 0 48 k = Im 0 48 k) → ∃ N : gzIT, (∀ J' : gzJT, f_X12_lastsOf φ (Int32.ofNat f) M J' = some (r, N, J')) ∧ (∀ t' o k, ¬ (o = 51 ∨ o = 55) → N t' o k = M t' o k) := by
  obtain ⟨⟨nl, nx, hT, hx⟩, hlaw⟩ := id hS
  have n3 := hT.1.1
  have vc := gzV_c hT hx.1
  obtain ⟨hab, hbd⟩ := gzWx_bd n3 hx
  have bn := ((hbd (31 + 4 * f)).2.2.2.2.2.1 f hf).2.1 (Or.inl rfl)
  have bl := ((hbd (32 + 4 * f)).2.2.2.2.2.1 f hf).2.2 rfl
  have bo := ((hbd (33 + 4 * f)).2.2.2.2.2.1 f hf).2.1 (Or.inr rfl)
  have hc := c_lasts (t := t) (I := Ic) (show f < 6 by omega) (vc.2.2.2.2.2.2.2.2.2.1 f hf) (vc.2.2.2.2.2.2.2.2.2.2.1 f hf) (vc.2.2.2.2.2.2.2.2.2.2.2.1 f hf) bn bl bo
  refine ⟨_, ?_, hc, fun M hM => ?_⟩
  · have key : ∀ m k l o, k + m = 61 → gzLs (Im 0 48 (31 + 4 * f)) (Im 0 48 (33 + 4 * f)) m k l o = -1 ∨ (0 ≤ (gzLs (Im 0 48 (31 + 4 * f)) (Im 0 48 (33 + 4 * f)) m k l o).toInt ∧ (gzLs (Im 0 48 (31 + 4 * f)) (Im 0 48 (33 + 4 * f)) m k l o).toInt ≤ 60) := by
      intro m
      induction m with
      | zero => intro k l o _; exact Or.inl rfl
      | succ m ih =>
        intro k l o hk
        show (if o ≤ _ then gzLs _ _ m (k + 1) _ _ else Int32.ofNat k) = -1 ∨ (0 ≤ (if o ≤ _ then gzLs _ _ m (k + 1) _ _ else Int32.ofNat k).toInt ∧ (if o ≤ _ then gzLs _ _ m (k + 1) _ _ else Int32.ofNat k).toInt ≤ 60)
        by_cases q : o ≤ Im 0 48 (33 + 4 * f)
        · rw [if_pos q]; exact ih (k + 1) _ _ (by omega)
        · rw [if_neg q, gzn_int (by omega)]; omega
    exact key 61 0 _ _ (by omega)
  · have SM : ∃ D, gzSm D 0 (gzBk M 51 0 48 0 364) nf ng := by
      refine ⟨fun t' o k => if t' = 0 ∧ o < 20 then Ic t o k else Ic t' o k, gzSm_congr hS (fun o k h1 h2 => if_pos ⟨rfl, h1⟩) (fun o k h1 h2 => if_neg (by omega)) (fun k hk => ?_)⟩
      rw [gzBk_n (by omega)]
      exact hM k hk
    obtain ⟨N, h1, h2⟩ := m_lastsL (φ := φ) (x := Im 0 48 (33 + 4 * f)) hf n3 hφ 61 0 φ (gzBk M 51 0 48 0 364) (by omega) SM (by omega)
    refine ⟨gzBk N 48 0 51 0 364, fun J' => ?_, fun t' o k q => ?_⟩
    · have r3 : f_X12_ofFamily M (Int32.ofNat f) 3 = some (M 0 48 (33 + 4 * f)) := by
        rw [show (3 : Int32) = Int32.ofNat 3 from rfl, s_X12_ofFamily (by omega) (by omega), show 30 + 4 * f + 3 = 33 + 4 * f by omega]
      have e48 : ∀ k, gzBk M 51 0 48 0 364 0 48 k = M 0 48 k := fun k => gzBk_n (by omega)
      unfold f_X12_lastsOf
      rw [r3]
      simp only [Option.bind_some]
      rw [m_keepsAll (by omega), hM (33 + 4 * f) (by omega)]
      simp only [Option.bind_some]
      have e := h1 J'
      rw [e48, e48, e48, hM (31 + 4 * f) (by omega), hM (32 + 4 * f) (by omega), hM (33 + 4 * f) (by omega)] at e
      exact e
    · by_cases e : t' = 0 ∧ o = 48 ∧ k < 364
      · obtain ⟨rfl, rfl, hk⟩ := e
        rw [gzBk_at hk, h2 0 51 k (by omega) (by omega), gzBk_at hk]
      · rw [gzBk_n (by omega), h2 t' o k e (by omega), gzBk_n (by omega)]
theorem L_scarce (h : gzR I I) : ∃ v I2 J2, f_X11_scarce 4096 I = some v ∧ f_X12_scarce 4096 I J = some (v, I2, J2) ∧ gzR I2 I2 := by
  obtain ⟨nf, ng, hS, n3, n4⟩ := gzR_sm h
  obtain ⟨φ, hφ⟩ : ∃ φ, φ = 4096 := ⟨_, rfl⟩
  rw [← hφ]
  obtain ⟨⟨nl, nx, hT, hx⟩, hlaw⟩ := id hS
  have key : ∀ (m f k k' : Nat) (x1 y z : Int32) (M : gzIT), f + m = nf → m < k → m < k' → (y = z ∨ (y = 61 ∧ z = 1000000)) → (∀ t' o k, ¬ (o = 51 ∨ o = 55) → M t' o k = gz_ui I 0 47 0 0 t' o k) → ∃ (v : Int32) (N : gzIT), f_X11_scarce_7 φ I k x1 y (Int32.ofNat f) = some v ∧ f_X12_scarce_13 φ k' x1 z (Int32.ofNat f) M J = some (v, N, J) ∧ (∀ t' o k, ¬ (o = 51 ∨ o = 55) → N t' o k = gz_ui I 0 47 0 0 t' o k) := by
    intro m
    induction m with
    | zero =>
      intro f k k' x1 y z M hf hk hk' hyz hM
      obtain ⟨k, rfl⟩ : ∃ q, k = q + 1 := ⟨k - 1, by omega⟩
      obtain ⟨k', rfl⟩ : ∃ q, k' = q + 1 := ⟨k' - 1, by omega⟩
      refine ⟨x1, M, ?_, ?_, hM⟩
      · rw [f_X11_scarce_7, hT.1.2.2.1, if_pos (by rw [gzn_le (by omega) (by omega)]; omega)]
      · rw [f_X12_scarce_13]
        unfold f_X12_families
        rw [hM 0 48 0 (by omega), gz_ui_o (by decide), hT.1.2.2.2.1]
        simp only [Option.bind_some]
        rw [if_pos (by rw [gzn_le (by omega) (by omega)]; omega)]
    | succ m ih =>
      intro f k k' x1 y z M hf hk hk' hyz hM
      obtain ⟨k, rfl⟩ : ∃ q, k = q + 1 := ⟨k - 1, by omega⟩
      obtain ⟨k', rfl⟩ : ∃ q, k' = q + 1 := ⟨k' - 1, by omega⟩
      obtain ⟨r, hr, hc, hmod⟩ := r_lasts (φ := φ) hS (show f < nf by omega) (by omega)
      obtain ⟨N1, hm1, hn1⟩ := hmod M (fun k hk => (hM 0 48 k (by omega)).trans (gz_ui_o (by decide)))
      have hN1 : ∀ t' o k, ¬ (o = 51 ∨ o = 55) → N1 t' o k = gz_ui I 0 47 0 0 t' o k := fun t' o k q => (hn1 t' o k q).trans (hM t' o k q)
      have ec : f_X11_scarce_7 φ I (k + 1) x1 y (Int32.ofNat f) = if r = -1 then f_X11_scarce_7 φ I k x1 y (Int32.ofNat (f + 1)) else if y ≤ r then f_X11_scarce_7 φ I k x1 y (Int32.ofNat (f + 1)) else f_X11_scarce_7 φ I k (Int32.ofNat f) r (Int32.ofNat (f + 1)) := by
        rw [f_X11_scarce_7, hT.1.2.2.1, if_neg (by rw [gzn_le (by omega) (by omega)]; omega), hc, gzn_succ]
        rfl
      have em : f_X12_scarce_13 φ (k' + 1) x1 z (Int32.ofNat f) M J = if r = -1 then f_X12_scarce_13 φ k' x1 z (Int32.ofNat (f + 1)) N1 J else if r < z then f_X12_scarce_13 φ k' (Int32.ofNat f) r (Int32.ofNat (f + 1)) N1 J else f_X12_scarce_13 φ k' x1 z (Int32.ofNat (f + 1)) N1 J := by
        rw [f_X12_scarce_13]
        unfold f_X12_families
        rw [hM 0 48 0 (by omega), gz_ui_o (by decide), hT.1.2.2.2.1]
        simp only [Option.bind_some]
        rw [if_neg (by rw [gzn_le (by omega) (by omega)]; omega), hm1 J, gzn_succ]
        rfl
      by_cases q : r = -1
      · obtain ⟨v, N, i1, i2, i3⟩ := ih (f + 1) k k' x1 y z N1 (by omega) (by omega) (by omega) hyz hN1
        exact ⟨v, N, by rw [ec, if_pos q]; exact i1, by rw [em, if_pos q]; exact i2, i3⟩
      · have hr2 : 0 ≤ r.toInt ∧ r.toInt ≤ 60 := by
          rcases hr with hr | hr
          · exact absurd hr q
          · exact hr
        by_cases hlt : r < z
        · have hy : ¬ y ≤ r := fun e => by
            have a1 := Int32.le_iff_toInt_le.mp e
            have a2 := Int32.lt_iff_toInt_lt.mp hlt
            rcases hyz with e2 | ⟨e2, e3⟩
            · rw [e2] at a1; omega
            · rw [e2] at a1
              have e61 : (61 : Int32).toInt = 61 := rfl
              omega
          obtain ⟨v, N, i1, i2, i3⟩ := ih (f + 1) k k' (Int32.ofNat f) r r N1 (by omega) (by omega) (by omega) (Or.inl rfl) hN1
          exact ⟨v, N, by rw [ec, if_neg q, if_neg hy]; exact i1, by rw [em, if_neg q, if_pos hlt]; exact i2, i3⟩
        · have hy : y ≤ r := by
            have a2 : ¬ r.toInt < z.toInt := fun e => hlt (Int32.lt_iff_toInt_lt.mpr e)
            rcases hyz with e2 | ⟨e2, e3⟩
            · rw [e2]; exact Int32.le_iff_toInt_le.mpr (by omega)
            · rw [e3] at a2
              have e61 : (1000000 : Int32).toInt = 1000000 := rfl
              omega
          obtain ⟨v, N, i1, i2, i3⟩ := ih (f + 1) k k' x1 y z N1 (by omega) (by omega) (by omega) hyz hN1
          exact ⟨v, N, by rw [ec, if_neg q, if_pos hy]; exact i1, by rw [em, if_neg q, if_neg hlt]; exact i2, i3⟩
  obtain ⟨v, N, i1, i2, i3⟩ := key nf 0 φ φ (-1) 61 1000000 (gz_ui I 0 47 0 0) (by omega) (by omega) (by omega) (Or.inr ⟨rfl, rfl⟩) (fun _ _ _ _ => rfl)
  refine ⟨v, N, J, i1, i2, gzR_scr (gzR_thr (v := 0) h) fun t o k q => i3 t o k fun e => q (by unfold gzCs gzMw; omega)⟩
/-- what a family has of the grudges -/
def S_gives (w : Nat → Int32) (ng f : Nat) : Int32 := gzFo (fun s i => if tH w i = true then s else if tF w i = f ∨ tT w i = f then s + w (58 + 7 * i) else s) 0 ng 0
theorem c_iceOf {f : Nat} (h : gzVc I t w nf ng) (hb : gzVb w nf ng) (hf : f < 6) (hφ : 10 < φ) : f_X1_iceOf φ t I (Int32.ofNat f) = some (S_gives w ng f) := by
  obtain ⟨⟨h1, h2, h3, h4⟩, hF, hT, hS, hA, hI, hU, hH, hP, hN, hL, hO, hB, hD⟩ := id h
  unfold f_X1_iceOf
  refine gz_loop (F := fun k s i => f_X1_iceOf_4 φ t I k (Int32.ofNat f) s i) (n := ng) (out := some) ?_ ?_ ng 0 φ 0 (by omega) (by omega)
  · intro k s i hi
    show f_X1_iceOf_4 φ t I (k + 1) (Int32.ofNat f) s (Int32.ofNat i) = f_X1_iceOf_4 φ t I k (Int32.ofNat f) (if tH w i = true then s else if tF w i = f ∨ tT w i = f then s + w (58 + 7 * i) else s) (Int32.ofNat (i + 1))
    rw [f_X1_iceOf_4, h2, if_neg (by rw [gzn_le (by omega) (by omega)]; omega), gzGd_in (by omega) (by omega), gzn_clamp (by omega), hH i hi, hI i hi, c_isOf h hb hi hf, gzn_succ]
    simp only [Option.bind_some]
    by_cases x : tH w i = true
    · rw [if_pos x, if_pos x, if_pos (by decide)]
    · rw [if_neg x, if_neg x, if_neg (by decide)]
      by_cases y : tF w i = f ∨ tT w i = f
      · rw [if_pos y, if_pos y, if_neg (by decide)]
      · rw [if_neg y, if_neg y, if_pos rfl]
  · intro k s
    show f_X1_iceOf_4 φ t I (k + 1) (Int32.ofNat f) s (Int32.ofNat ng) = some s
    rw [f_X1_iceOf_4, h2, if_pos (by rw [gzn_le (by omega) (by omega)]; omega)]
theorem m_gives {f : Nat} (h : gzVi I w nf ng) (hf : f < 6) (hφ : 10 < φ) : f_X12_givesOf φ I (Int32.ofNat f) = some (S_gives w ng f) := by
  have h4 := h.2.1.1.2.2.2
  unfold f_X12_givesOf
  refine gz_loop (F := fun k s i => f_X12_givesOf_4 φ I k (Int32.ofNat f) s i) (n := ng) (out := some) ?_ ?_ ng 0 φ 0 (by omega) (by omega)
  · intro k s i hi
    show f_X12_givesOf_4 φ I (k + 1) (Int32.ofNat f) s (Int32.ofNat i) = f_X12_givesOf_4 φ I k (Int32.ofNat f) (if tH w i = true then s else if tF w i = f ∨ tT w i = f then s + w (58 + 7 * i) else s) (Int32.ofNat (i + 1))
    rw [f_X12_givesOf_4, m_grudges h]
    simp only [Option.bind_some]
    rw [if_neg (by rw [gzn_le (by omega) (by omega)]; omega), m_isThawed h hi, m_isOf h hi hf, m_of4 h hi, gzn_succ]
    simp only [Option.bind_some]
    by_cases x : tH w i = true
    · rw [if_pos x, if_pos x, if_pos (by decide), Int32.add_zero]
    · rw [if_neg x, if_neg x, if_neg (by simp)]
      by_cases y : tF w i = f ∨ tT w i = f
      · rw [if_pos y, if_pos y, if_neg (by decide)]
      · rw [if_neg y, if_neg y, if_pos rfl, Int32.add_zero]
  · intro k s
    show f_X12_givesOf_4 φ I (k + 1) (Int32.ofNat f) s (Int32.ofNat ng) = some s
    rw [f_X12_givesOf_4, m_grudges h]
    simp only [Option.bind_some]
    rw [if_pos (by rw [gzn_le (by omega) (by omega)]; omega)]
theorem L_family (p0 p1 : Int32) (h : gzR I I) : ∃ e I1, f_X11_family 4096 p0 p1 I J = some (e, I1, J) ∧ (∀ E, e = .error E → ∃ k : Nat, (["java/lang/IndexOutOfBoundsException", "java/util/NoSuchElementException"] : List String)[k]? = some E) ∧ ∀ J' : gzJT, ∃ v I2 J2, f_X12_family 4096 p0 p1 I1 J' = some (v, I2, J2) ∧ gzSame e ["java/lang/IndexOutOfBoundsException", "java/util/NoSuchElementException"] v (I2 0 47 0) ∧ J2 0 59 0 = J' 0 59 0 ∧ gzR I2 I2 := by
  obtain ⟨nf, ng, nl, nx, hT, hx, c, b, m⟩ := gzR_go h
  obtain ⟨φ, hφ⟩ : ∃ φ, φ = 4096 := ⟨_, rfl⟩
  rw [← hφ]
  have n3 := c.1.2.2.1
  have n4 := c.1.2.2.2
  have hS : gzSm I 0 I nf ng := ⟨⟨nl, nx, hT, hx⟩, gzR_law h⟩
  rcases p_fam (a := p0) (J := J) c (m 0) with ⟨⟨f, hf, rfl⟩, e1, e2⟩ | ⟨e1, e2⟩
  · have simple : ∀ (k : Nat) (x : Int32), k < 4 → f_X11_family φ (Int32.ofNat f) (Int32.ofNat k) I J = some (.ok x, I, J) → I 0 48 (30 + 4 * f + k) = x → ∃ e I1, f_X11_family φ (Int32.ofNat f) (Int32.ofNat k) I J = some (e, I1, J) ∧ (∀ E, e = .error E → ∃ k : Nat, (["java/lang/IndexOutOfBoundsException", "java/util/NoSuchElementException"] : List String)[k]? = some E) ∧ ∀ J' : gzJT, ∃ v I2 J2, f_X12_family φ (Int32.ofNat f) (Int32.ofNat k) I1 J' = some (v, I2, J2) ∧ gzSame e ["java/lang/IndexOutOfBoundsException", "java/util/NoSuchElementException"] v (I2 0 47 0) ∧ J2 0 59 0 = J' 0 59 0 ∧ gzR I2 I2 := by
      intro k x hk hc hm
      refine ⟨.ok x, I, hc, fun E hE => (by cases hE), fun J' => ⟨x, gz_ui I 0 47 0 0, J', ?_, ⟨rfl, gz_ui_s⟩, rfl, gzR_thr h⟩⟩
      unfold f_X12_family
      rw [e2]
      simp only [Option.bind_some, s_throws0]
      rw [if_neg (by simp), show f_X12_in (Int32.ofNat k) 0 6 = some 1 from s_X12_in0 (k := k) (n := 7) (by omega) (by omega)]
      simp only [Option.bind_some, gz_not01, s_throws0, if_true]
      rw [if_neg (by rw [gzc_eq2 (by omega) (by omega)]; omega), if_neg (by rw [gzc_eq2 (by omega) (by omega)]; omega), if_neg (by rw [gzc_eq2 (by omega) (by omega)]; omega), s_X12_ofFamily (by omega) (by omega), gz_ui_o (by decide), hm]
      rfl
    have vi := m 0
    rcases gz_byn p1 7 (by omega) with ⟨k, hk, rfl⟩ | a1 | ⟨a1, a2⟩
    · rcases (show k = 0 ∨ k = 1 ∨ k = 2 ∨ k = 3 ∨ k = 4 ∨ k = 5 ∨ k = 6 by omega) with rfl | rfl | rfl | rfl | rfl | rfl | rfl
      · refine simple 0 (I 0 2 f) (by omega) ?_ (gzTn_pr hT 2 f (30 + 4 * f + 0) (by unfold gzQp; omega)).symm
        unfold f_X11_family
        rw [e1]
        simp only [Option.bind_some, gzEx]
        rw [if_pos (by decide), gzGd_in (by omega) (by omega), gzn_clamp (by omega)]
      · refine simple 1 (I 0 3 f) (by omega) ?_ (gzTn_pr hT 3 f (30 + 4 * f + 1) (by unfold gzQp; omega)).symm
        unfold f_X11_family
        rw [e1]
        simp only [Option.bind_some, gzEx]
        rw [if_neg (by decide), if_pos (by decide), gzGd_in (by omega) (by omega), gzn_clamp (by omega)]
      · refine simple 2 (I 0 4 f) (by omega) ?_ (gzTn_pr hT 4 f (30 + 4 * f + 2) (by unfold gzQp; omega)).symm
        unfold f_X11_family
        rw [e1]
        simp only [Option.bind_some, gzEx]
        rw [if_neg (by decide), if_neg (by decide), if_pos (by decide), gzGd_in (by omega) (by omega), gzn_clamp (by omega)]
      · refine simple 3 (I 0 5 f) (by omega) ?_ (gzTn_pr hT 5 f (30 + 4 * f + 3) (by unfold gzQp; omega)).symm
        unfold f_X11_family
        rw [e1]
        simp only [Option.bind_some, gzEx]
        rw [if_neg (by decide), if_neg (by decide), if_neg (by decide), if_pos (by decide), gzGd_in (by omega) (by omega), gzn_clamp (by omega)]
      · refine ⟨.ok (S_gives (I 0 48) ng f), I, ?_, fun E hE => (by cases hE), fun J' => ⟨S_gives (I 0 48) ng f, gz_ui I 0 47 0 0, J', ?_, ⟨rfl, gz_ui_s⟩, rfl, gzR_thr h⟩⟩
        · unfold f_X11_family
          rw [e1]
          simp only [Option.bind_some, gzEx]
          rw [if_neg (by decide), if_neg (by decide), if_neg (by decide), if_neg (by decide), if_pos (by decide), c_iceOf c b (by omega) (by omega)]
          rfl
        · unfold f_X12_family
          rw [e2]
          simp only [Option.bind_some, s_throws0]
          rw [if_neg (by simp), show f_X12_in (Int32.ofNat 4) 0 6 = some 1 from s_X12_in0 (k := 4) (n := 7) (by omega) (by omega)]
          simp only [Option.bind_some, gz_not01, s_throws0, if_true]
          rw [if_pos (by decide), m_gives vi (by omega) (by omega)]
          rfl
      · obtain ⟨r, hr, hc, hmod⟩ := r_lasts (φ := φ) hS hf (by omega)
        obtain ⟨N, hN1, hN2⟩ := hmod (gz_ui I 0 47 0 0) (fun k hk => gz_ui_o (by decide))
        refine ⟨.ok r, I, ?_, fun E hE => (by cases hE), fun J' => ⟨r, N, J', ?_, ⟨rfl, (hN2 0 47 0 (by omega)).trans gz_ui_s⟩, rfl, ?_⟩⟩
        · unfold f_X11_family
          rw [e1]
          simp only [Option.bind_some, gzEx]
          rw [if_neg (by decide), if_neg (by decide), if_neg (by decide), if_neg (by decide), if_neg (by decide), if_pos (by decide), hc]
          rfl
        · unfold f_X12_family
          rw [e2]
          simp only [Option.bind_some, s_throws0]
          rw [if_neg (by simp), show f_X12_in (Int32.ofNat 5) 0 6 = some 1 from s_X12_in0 (k := 5) (n := 7) (by omega) (by omega)]
          simp only [Option.bind_some, gz_not01, s_throws0, if_true]
          rw [if_neg (by decide), if_pos (by decide), hN1 J']
          rfl
        · exact gzR_scr (gzR_thr (v := 0) h) fun t o k q => hN2 t o k fun e => q (by unfold gzCs gzMw; omega)
      · refine ⟨.ok (if 0 < ((S_gives (I 0 48) ng f / 10) + I 0 48 (30 + 4 * f)) - I 0 48 (33 + 4 * f) then ((S_gives (I 0 48) ng f / 10) + I 0 48 (30 + 4 * f)) - I 0 48 (33 + 4 * f) else 0), I, ?_, fun E hE => (by cases hE), fun J' => ⟨if 0 < ((S_gives (I 0 48) ng f / 10) + I 0 48 (30 + 4 * f)) - I 0 48 (33 + 4 * f) then ((S_gives (I 0 48) ng f / 10) + I 0 48 (30 + 4 * f)) - I 0 48 (33 + 4 * f) else 0, gz_ui I 0 47 0 0, J', ?_, ⟨rfl, gz_ui_s⟩, rfl, gzR_thr h⟩⟩
        · unfold f_X11_family f_X8_price
          rw [e1]
          simp only [Option.bind_some, gzEx]
          rw [if_neg (by decide), if_neg (by decide), if_neg (by decide), if_neg (by decide), if_neg (by decide), if_neg (by decide), if_pos (by decide), c_iceOf c b (by omega) (by omega), gzc_cell (by omega) (by omega), gzc_cell (by omega) (by omega), c.2.2.2.2.2.2.2.2.1 f hf, c.2.2.2.2.2.2.2.2.2.2.2.1 f hf]
          rfl
        · unfold f_X12_family
          rw [e2]
          simp only [Option.bind_some, s_throws0]
          rw [if_neg (by simp), show f_X12_in (Int32.ofNat 6) 0 6 = some 1 from s_X12_in0 (k := 6) (n := 7) (by omega) (by omega)]
          simp only [Option.bind_some, gz_not01, s_throws0, if_true]
          rw [if_neg (by decide), if_neg (by decide), if_pos (by decide), m_gives vi (by omega) (by omega), m_ofFamily0 vi hf, m_ofFamily3 vi hf]
          rfl
    · have hne : ∀ k, k < 7 → ¬ p1 = Int32.ofNat k := fun k hk q => by
        rw [q, gzc_lt0 (by omega)] at a1; exact a1
      refine ⟨.error "java/util/NoSuchElementException", I, ?_, fun E hE => ⟨1, by cases hE; rfl⟩, fun J' => ⟨0, gz_ui (gz_ui I 0 47 0 0) 0 47 0 2, J', ?_, ⟨1, rfl, gz_ui_s⟩, rfl, gzR_thr2 h⟩⟩
      · unfold f_X11_family
        rw [e1]
        simp only [Option.bind_some, gzEx]
        rw [if_neg (show ¬ p1 = 0 from hne 0 (by omega)), if_neg (show ¬ p1 = 1 from hne 1 (by omega)), if_neg (show ¬ p1 = 2 from hne 2 (by omega)), if_neg (show ¬ p1 = 3 from hne 3 (by omega)), if_neg (show ¬ p1 = 4 from hne 4 (by omega)), if_neg (show ¬ p1 = 5 from hne 5 (by omega)), if_neg (show ¬ p1 = 6 from hne 6 (by omega))]
      · unfold f_X12_family
        rw [e2]
        simp only [Option.bind_some, s_throws0]
        rw [if_neg (by simp), show f_X12_in p1 0 6 = some 0 from s_X12_in1 a1]
        simp only [Option.bind_some, gz_not00, s_throws1]
        rfl
    · have hne : ∀ k, k < 7 → ¬ p1 = Int32.ofNat k := fun k hk q => by
        rw [q, gzn_le (by omega) (by omega)] at a2; omega
      refine ⟨.error "java/util/NoSuchElementException", I, ?_, fun E hE => ⟨1, by cases hE; rfl⟩, fun J' => ⟨0, gz_ui (gz_ui I 0 47 0 0) 0 47 0 2, J', ?_, ⟨1, rfl, gz_ui_s⟩, rfl, gzR_thr2 h⟩⟩
      · unfold f_X11_family
        rw [e1]
        simp only [Option.bind_some, gzEx]
        rw [if_neg (show ¬ p1 = 0 from hne 0 (by omega)), if_neg (show ¬ p1 = 1 from hne 1 (by omega)), if_neg (show ¬ p1 = 2 from hne 2 (by omega)), if_neg (show ¬ p1 = 3 from hne 3 (by omega)), if_neg (show ¬ p1 = 4 from hne 4 (by omega)), if_neg (show ¬ p1 = 5 from hne 5 (by omega)), if_neg (show ¬ p1 = 6 from hne 6 (by omega))]
      · unfold f_X12_family
        rw [e2]
        simp only [Option.bind_some, s_throws0]
        rw [if_neg (by simp), show f_X12_in p1 0 6 = some 0 from s_X12_in2 (n := 7) (by omega) (by omega) a1 a2]
        simp only [Option.bind_some, gz_not00, s_throws1]
        rfl
  · refine ⟨.error "java/lang/IndexOutOfBoundsException", I, ?_, fun E hE => ⟨0, by cases hE; rfl⟩, fun J' => ⟨0, gz_ui (gz_ui I 0 47 0 0) 0 47 0 1, J', ?_, ⟨0, rfl, gz_ui_s⟩, rfl, gzR_thr2 h⟩⟩
    · unfold f_X11_family
      rw [e1]; rfl
    · unfold f_X12_family
      rw [e2]
      simp only [Option.bind_some, s_throws1]
      rfl
end
