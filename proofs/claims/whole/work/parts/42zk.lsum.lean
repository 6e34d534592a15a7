/-! the law's sums, both sides -/
def gzPp : Nat → List Bool → List Bool
  | 0, L => L
  | _ + 1, L => false :: L
/-- the class behind a part: + and the next one, or none -/
def gzTtq (φ k : Nat) (x2 : Int32) (I : gzIT) (J : gzJT) : Option (Except String Unit × gzIT × gzJT) := Option.bind (f_X7_take 2043 I J) (fun v => if ¬ v.1 = 0 then (f_X3_readSum_2 φ 1 k (x2 + 1) v.2.1 v.2.2) else (some (.ok (), v.2.1, v.2.2)))
def gzTl (φ k : Nat) (x2 : Int32) (I : gzIT) (J : gzJT) : Option (Except String Unit × gzIT × gzJT) := if x2 ≤ 0 then gzTtq φ k x2 I J else Option.bind (f_X2_put 1 2043 I J) (fun v => gzTtq φ k x2 v.2.1 v.2.2)
/-- the model ahead of a part, behind a + (1) or not (0) -/
def gzMsq (φ : Nat) : Nat → Nat → gzIT → gzJT → Option (Int32 × gzIT × gzJT)
  | 0, k, I, J => Option.bind (f_X12_readPart φ I J) (fun v6 => if ¬ v6.1 = 0 then (f_X12_readSum_9 φ k v6.2.1 v6.2.2) else some (0, v6.2.1, v6.2.2))
  | _ + 1, k, I, J => Option.bind (f_X12_readPart φ I J) (fun v6 => if ¬ v6.1 = 0 then (Option.bind (f_X12_emits 12 0 v6.2.1 v6.2.2) (fun v8 => f_X12_readSum_9 φ k v8.2.1 v8.2.2)) else some (0, v6.2.1, v6.2.2))
section
variable {I I' I2 X M M0 Ic Im Ic' Im' Ic2 Im2 : gzIT} {J J' : gzJT} {φ n c N d : Nat} {kd bt B E bg en : Nat → Nat} {cd : Nat → Int32}
theorem c_sumW {j x2 k v : Nat} (hk : gzTkq N c bt bg en cd) (h : gzCa c bg cd j I) (hx2 : x2 < 400) (hv : v < 8) (hx : cd j = Int32.ofNat (1012 + v)) : ∃ I1, gzCa c bg cd (j + 1) I1 ∧ gzFkq I I1 ∧ j < c ∧ f_X3_readSum_2 φ 1 (k + 1) (Int32.ofNat x2) I J = Option.bind (f_X2_put 1 (Int32.ofNat (1012 + v)) I1 J) (fun v => gzTl φ k (Int32.ofNat x2) v.2.1 v.2.2) := by
  obtain ⟨I1, a1, a2, a3, a4⟩ := c_amongY (J := J) (a := 1012) (m := 8) hk h hx hv (by omega)
  refine ⟨I1, a2, a3, a4, ?_⟩
  have a1' : f_X7_among 1012 8 I J = some (.ok (Int32.ofNat v), I1, J) := a1
  have e : f_X3_readSum_2 φ 1 (k + 1) (Int32.ofNat x2) I J = f_X3_readSum_113 φ 1 (f_X3_readSum_2 φ 1 k) (Int32.ofNat x2) I J := by
    rw [f_X3_readSum_2, if_neg (by rw [gzc_le1 (by omega) (by omega)]; omega)]
    simp only [c_is h, Option.bind_some]
    rcases (show v = 0 ∨ v = 1 ∨ v = 2 ∨ v = 3 ∨ v = 4 ∨ v = 5 ∨ v = 6 ∨ v = 7 by omega) with rfl | rfl | rfl | rfl | rfl | rfl | rfl | rfl
    · rw [show cd j = 1012 from hx, if_pos (by decide)]
    · rw [show cd j = 1013 from hx, if_neg (by decide), if_pos (by decide)]
    · rw [show cd j = 1014 from hx, if_neg (by decide), if_neg (by decide), if_pos (by decide)]
    · rw [show cd j = 1015 from hx, if_neg (by decide), if_neg (by decide), if_neg (by decide), if_pos (by decide)]
    · rw [show cd j = 1016 from hx, if_neg (by decide), if_neg (by decide), if_neg (by decide), if_neg (by decide), if_pos (by decide)]
    · rw [show cd j = 1017 from hx, if_neg (by decide), if_neg (by decide), if_neg (by decide), if_neg (by decide), if_neg (by decide), if_pos (by decide)]
    · rw [show cd j = 1018 from hx, if_neg (by decide), if_neg (by decide), if_neg (by decide), if_neg (by decide), if_neg (by decide), if_neg (by decide), if_pos (by decide)]
    · rw [show cd j = 1019 from hx, if_neg (by decide), if_neg (by decide), if_neg (by decide), if_neg (by decide), if_neg (by decide), if_neg (by decide), if_neg (by decide), if_neg (by decide)]
      unfold f_X3_readSum_113
      rw [if_neg (by decide)]
  rw [e]
  unfold f_X3_readSum_113
  rw [if_neg (by decide), a1']
  show Option.bind (f_X2_put 1 (1012 + Int32.ofNat v) I1 J) _ = _
  rw [gzc_add']
  rfl
theorem c_sumO {j x2 k : Nat} (h : gzCa c bg cd j I) (hx2 : x2 < 400) (hx : ∀ v, v < 8 → cd j ≠ Int32.ofNat (1012 + v)) : f_X3_readSum_2 φ 1 (k + 1) (Int32.ofNat x2) I J = Option.bind (f_X7_among 0 1000 I J) (fun v19 => gzEx v19.1 (fun E => some (.error E, v19.2.1, v19.2.2)) (fun w21 => Option.bind (f_X2_put 1 w21 v19.2.1 v19.2.2) (fun v => gzTl φ k (Int32.ofNat x2) v.2.1 v.2.2))) := by
  rw [f_X3_readSum_2, if_neg (by rw [gzc_le1 (by omega) (by omega)]; omega)]
  simp only [c_is h, Option.bind_some]
  have h0 : cd j ≠ 1012 := hx 0 (by omega)
  have h1 : cd j ≠ 1013 := hx 1 (by omega)
  have h2 : cd j ≠ 1014 := hx 2 (by omega)
  have h3 : cd j ≠ 1015 := hx 3 (by omega)
  have h4 : cd j ≠ 1016 := hx 4 (by omega)
  have h5 : cd j ≠ 1017 := hx 5 (by omega)
  have h6 : cd j ≠ 1018 := hx 6 (by omega)
  have h7 : cd j ≠ 1019 := hx 7 (by omega)
  rw [if_neg (fun y => y (if_neg h0)), if_neg (fun y => y (if_neg h1)), if_neg (fun y => y (if_neg h2)), if_neg (fun y => y (if_neg h3)), if_neg (fun y => y (if_neg h4)), if_neg (fun y => y (if_neg h5)), if_neg (fun y => y (if_neg h6)), if_pos (by rw [if_neg h7]; rfl)]
  rfl
theorem r_part {j x2 k : Nat} (hk : gzTkq N c bt bg en cd) (hc : gzCa c bg cd j Ic) (hm : gzMa N c bt bg j Im) (hx2 : x2 < 400) (hφ : 500 < φ) : (∃ x a b Ic1 Im1, gzCd x a b ∧ (a.toInt ≤ 7 ∨ a = 11) ∧ j < c ∧ gzCa c bg cd (j + 1) Ic1 ∧ gzFkq Ic Ic1 ∧ gzMa N c bt bg (j + 1) Im1 ∧ gzMo Im Im1 ∧ f_X3_readSum_2 φ 1 (k + 1) (Int32.ofNat x2) Ic J = Option.bind (f_X2_put 1 x Ic1 J) (fun v => gzTl φ k (Int32.ofNat x2) v.2.1 v.2.2) ∧ f_X12_readPart φ Im J' = Option.bind (f_X12_emits a b Im1 J') (fun v9 => some (1, v9.2.1, v9.2.2))) ∨ (∃ a b Im1, gzMo Im Im1 ∧ Im1 0 47 12 = Int32.ofNat (bg j) ∧ f_X3_readSum_2 φ 1 (k + 1) (Int32.ofNat x2) Ic J = some (.error "java/lang/IllegalArgumentException", gzWg bg j Ic, J) ∧ f_X12_readPart φ Im J' = Option.bind (f_X12_emits a b Im1 J') (fun v9 => some (0, v9.2.1, v9.2.2))) := by
  obtain ⟨m1, m2, m3⟩ := hm
  obtain ⟨I1, a1, a2, a3, a4⟩ := m_letters (J := J') hk m2 m3 m1 hφ
  have hN := hk.2.1
  have hwp := m_wordOfPart (φ := φ) hk (gzMx_mo m2 a2) a3 a4 m1 hφ
  have hb := (gzTk_bg hk m1).1
  by_cases z : j < c ∧ gzKk (bt (bg j)) = 1
  · have el : gzLe c bt bg en j = en j := if_pos z
    have hen := hk.2.2.2.2.2.2 j z.1
    have hne : ¬ I1 0 47 10 = I1 0 47 12 := by rw [a3, a4, el, gzn_inj (by omega) (by omega)]; omega
    have em : ∀ w : Int32, f_X12_wordOfPart φ I1 = some w → f_X12_readPart φ Im J' = Option.bind (f_X12_emits w 0 I1 J') (fun v9 => some (if w < 0 then (0 : Int32) else 1, v9.2.1, v9.2.2)) := fun w hw => by
      unfold f_X12_readPart
      rw [a1]
      simp only [Option.bind_some]
      rw [if_pos (if_pos hne), hw]
      simp only [Option.bind_some]
      rw [if_pos (if_pos hne), if_pos (if_pos hne)]
    rcases hwp with ⟨v, v1, v2, v3⟩ | ⟨v1, v2⟩
    · obtain ⟨Ic1, b1, b2, b3, b4⟩ := c_sumW (φ := φ) (J := J) (k := k) (x2 := x2) hk hc hx2 v1 v2
      refine Or.inl ⟨Int32.ofNat (1012 + v), Int32.ofNat v, 0, Ic1, I1, Or.inr (Or.inl ⟨v, by omega, rfl, rfl⟩), Or.inl (by rw [gzn_int (by omega)]; omega), z.1, b1, b2, ⟨z.1, gzMx_mo m2 a2, gzMp_next hk z.1 (by rw [a3, el])⟩, a2, b4, ?_⟩
      rw [em _ v3, if_neg (by rw [gzc_lt0 (by omega)]; exact id)]
    · refine Or.inr ⟨-1, 0, I1, a2, a4, ?_, ?_⟩
      · rw [c_sumO (φ := φ) hc hx2 v1]
        have := c_amongN (J := J) (a := 0) (m := 1000) hc (by omega) (fun v hv x => by
          rw [Nat.zero_add] at x
          have := (gz_cdn hk m1 hv x).2.1
          omega)
        have this' : f_X7_among 0 1000 Ic J = some (.error "java/lang/IllegalArgumentException", gzWg bg j Ic, J) := this
        rw [this']
        rfl
      · rw [em _ v2, if_pos (by decide)]
  · have el : gzLe c bt bg en j = bg j := if_neg z
    have heq : I1 0 47 10 = I1 0 47 12 := by rw [a3, a4, el]
    have hw8 : ∀ v, v < 8 → cd j ≠ Int32.ofNat (1012 + v) := by
      rcases hwp with ⟨v, v1, v2, v3⟩ | ⟨v1, v2⟩
      · intro v' hv' x
        exfalso
        by_cases y : j < c
        · rcases gzTk_cd hk y with q | ⟨-, ⟨-, q, q2⟩ | ⟨-, q⟩⟩ | ⟨-, q⟩
          · exact z ⟨y, q.1⟩
          · rw [q, gzn_inj (by omega) (by omega)] at x; omega
          · rw [q] at x; exact gz_n2 (by omega) x
          · have := hk.2.2.2.2.1 (bg j) (by have := hk.2.2.2.2.2.2 j y; omega)
            rw [q, gzn_inj (by omega) (by omega)] at x; omega
        · rw [show j = c by omega, hk.2.2.2.1] at x
          exact gz_n3 (by omega) x
      · exact v1
    have hma : gzMa N c bt bg j I1 := ⟨m1, gzMx_mo m2 a2, gzMp_at (by rw [a3, el])⟩
    have em : ∀ (w : Int32) (I2 : gzIT), f_X12_number φ 0 999 I1 J' = some (w, I2, J') → f_X12_readPart φ Im J' = Option.bind (f_X12_emits 11 w I2 J') (fun v9 => some (if w < 0 then (0 : Int32) else 1, v9.2.1, v9.2.2)) := fun w I2 hw => by
      have hq : ¬ (if ¬ I1 0 47 10 = I1 0 47 12 then (0 : Int32) else 1) = 0 := by rw [if_neg (fun y => y heq)]; decide
      unfold f_X12_readPart
      rw [a1]
      simp only [Option.bind_some]
      rw [if_neg hq, hw]
      simp only [Option.bind_some]
      rw [if_neg hq, if_neg hq]
    rw [c_sumO (φ := φ) hc hx2 hw8]
    by_cases hn : ∃ v, v < 1000 ∧ cd j = Int32.ofNat v
    · obtain ⟨v, v1, v2⟩ := hn
      obtain ⟨Ic1, b1, b2, b3, b4⟩ := c_amongY (J := J) (a := 0) (m := 1000) (v := v) hk hc (by rw [Nat.zero_add]; exact v2) v1 (by omega)
      have b1' : f_X7_among 0 1000 Ic J = some (.ok (Int32.ofNat v), Ic1, J) := b1
      obtain ⟨I2, d1, d2, d3, d4⟩ := m_numY (φ := φ) (J := J') (hi := 999) hk hma v1 v2 ((gzc_le2 (by omega) (by omega)).2 (by omega)) hφ
      refine Or.inl ⟨Int32.ofNat v, 11, Int32.ofNat v, Ic1, I2, Or.inl ⟨rfl, rfl, by rw [gzn_int (by omega)]; omega, by rw [gzn_int (by omega)]; omega⟩, Or.inr rfl, b4, b2, b3, d2, gzMo_trans a2 d3, ?_, ?_⟩
      · rw [b1']; rfl
      · rw [em _ _ d1, if_neg (by rw [gzc_lt0 (by omega)]; exact id)]
    · obtain ⟨I2, d1, d3, d4⟩ := m_numN (φ := φ) (J := J') (hi := 999) hk hma (fun v hv _ x => hn ⟨v, hv, x⟩) hφ
      refine Or.inr ⟨11, -1, I2, gzMo_trans a2 d3, d4, ?_, ?_⟩
      · have := c_amongN (J := J) (a := 0) (m := 1000) hc (by omega) (fun v hv x => by
          rw [Nat.zero_add] at x
          exact hn ⟨v, hv, x⟩)
        have this' : f_X7_among 0 1000 Ic J = some (.error "java/lang/IllegalArgumentException", gzWg bg j Ic, J) := this
        rw [this']
        rfl
      · rw [em _ _ d1, if_pos (by decide)]
theorem gzSt_num {a : Int32} {L : List Bool} (h : a.toInt ≤ 7 ∨ a = 11) : gzSt a L = some (false :: L) := if_pos h
theorem gzSt_12q {L : List Bool} : gzSt 12 (false :: false :: L) = some (false :: L) := rfl
theorem r_sumL (hk : gzTkq N c bt bg en cd) (hφ : 500 < φ) : ∀ (m p x2 kc km j n : Nat) (Ic Im : gzIT), c - j ≤ m → m < kc → m < km → p ≤ 1 → (p = 0 ↔ x2 = 0) → x2 + 3 ≤ j → n + 3 + p ≤ j → gzLz N c bt bg cd Ic Im j j n d → gzOkq N c bt bg cd Ic Im J J' j n d p 20 (gzPp p) (fun L => false :: L) (f_X3_readSum_2 φ 1 kc (Int32.ofNat x2) Ic J) (gzMsq φ p km Im J') := by
  intro m
  induction m using Nat.strongRecOn with
  | ind m ih =>
    intro p x2 kc km j n Ic Im hm hkc hkm hp1 hpx hx2 hn hz
    have hcN := hk.1
    have hN := hk.2.1
    have hjc : j ≤ c := hz.1.1
    obtain ⟨kc, rfl⟩ : ∃ q, kc = q + 1 := ⟨kc - 1, by omega⟩
    obtain ⟨km, rfl⟩ : ∃ q, km = q + 1 := ⟨km - 1, by omega⟩
    rcases r_part (φ := φ) (J := J) (J' := J') (k := kc) (x2 := x2) hk hz.1 hz.2.1 (by omega) hφ with ⟨x, a, b, Ic1, Im1, hcd, hnum, hj, k1, k2, k3, k4, k5, k6⟩ | ⟨a, b, Im1, k1, k2, k3, k4⟩
    · have hz1 : gzLz N c bt bg cd Ic1 Im1 (j + 1) (j + 1) n d := gzLz_mo (gzLz_fk hz k1 k2) k3 k4
      -- behind a part
      have tail : ∀ (n : Nat) (Ic Im : gzIT), n + 3 ≤ j + 1 → gzLz N c bt bg cd Ic Im (j + 1) (j + 1) n d → gzOkq N c bt bg cd Ic Im J J' (j + 1) n d 0 20 (fun L => false :: L) (fun L => false :: L) (gzTtq φ kc (Int32.ofNat x2) Ic J) (f_X12_readSum_9 φ (km + 1) Im J') := by
        intro n Ic Im hn hz
        rw [f_X12_readSum_9]
        unfold gzTtq
        by_cases hp : cd (j + 1) = gzSg 43
        · obtain ⟨A, A1, A2, A3, A4⟩ := c_takeY (J := J) hk hz.1 (show cd (j + 1) = 2043 from hp) (by decide)
          obtain ⟨B, B1, B2, B3, B4⟩ := m_signY (φ := φ) (J := J') hk hz.2.1 (show gzKk 43 = 3 by decide) (by omega) hp hφ
          have B1' : f_X12_sign φ 43 Im J' = some (1, B, J') := B1
          rw [A1, B1']
          simp only [Option.bind_some]
          rw [if_pos (by decide), if_neg (by decide), gzn_succ]
          exact gzOk_step (ih (m - 1) (by omega) 1 (x2 + 1) kc km (j + 1 + 1) n A B (by omega) (by omega) (by omega) (by omega) (by omega) (by omega) (by omega) (gzLz_mo (gzLz_fk hz A2 A3) B2 B3)) (gzFl_fk A3) (gzMl_mo B3) (Nat.le_refl _) (by omega) (by omega) gzSk_nil
        · obtain ⟨B, B1, B2, B3, B4⟩ := m_signN (φ := φ) (J := J') hk hz.2.1 (show gzKk 43 = 3 by decide) (by omega) hp hφ
          have B1' : f_X12_sign φ 43 Im J' = some (0, B, J') := B1
          rw [c_takeN hz.1 (show cd (j + 1) ≠ 2043 from hp), B1']
          simp only [Option.bind_some]
          rw [if_neg (by decide), if_pos (by decide)]
          exact Or.inr ⟨Ic, B, j + 1, n, rfl, rfl, gzLz_mo hz B2 B3, gzFl_refl, gzMl_mo B3, Nat.le_refl _, Nat.le_refl _, by omega, gzSk_nil⟩
      obtain ⟨Ic2, Im2, e1, e2, e3, e4, e5, e6⟩ := r_emit (J := J) (J' := J') hz1 (by omega) hcd
      rw [k5, e1]
      simp only [Option.bind_some]
      have hs1 : ∀ p, gzSk Im2 n (n + 1) 20 (gzPp p) (fun L => false :: gzPp p L) := fun p => gzSk_one (fun L hL => ⟨by
        cases p with
        | zero => show L.length ≤ 24; omega
        | succ p => show (false :: L).length ≤ 24; rw [List.length_cons]; omega, by rw [e6]; exact gzSt_num hnum⟩)
      rcases (show p = 0 ∨ p = 1 by omega) with rfl | rfl
      · have x0 : x2 = 0 := hpx.1 rfl
        have hM : gzMsq φ 0 (km + 1) Im J' = f_X12_readSum_9 φ (km + 1) Im2 J' := by
          show Option.bind (f_X12_readPart φ Im J') _ = _
          rw [k6, e2]
          simp only [Option.bind_some]
          rw [if_pos (by decide)]
        have hT : gzTl φ kc (Int32.ofNat x2) Ic2 J = gzTtq φ kc (Int32.ofNat x2) Ic2 J := by
          unfold gzTl
          rw [if_pos (by rw [x0]; decide)]
        rw [hM, hT]
        exact gzOk_step (tail (n + 1) Ic2 Im2 (by omega) e3) (gzFl_trans (gzFl_fk k2) e4) (gzMl_trans (gzMl_mo k4) e5 (Nat.le_refl _)) (by omega) (by omega) (by omega) (hs1 0)
      · obtain ⟨Ic3, Im3, g1, g2, g3, g4, g5, g6⟩ := r_emit (J := J) (J' := J') (x := 2043) (a := 12) (b := 0) e3 (by omega) (Or.inr (Or.inr (Or.inl ⟨rfl, rfl⟩)))
        have hM : gzMsq φ 1 (km + 1) Im J' = f_X12_readSum_9 φ (km + 1) Im3 J' := by
          show Option.bind (f_X12_readPart φ Im J') _ = _
          rw [k6, e2]
          simp only [Option.bind_some]
          rw [if_pos (by decide), g2]
          rfl
        have hT : gzTl φ kc (Int32.ofNat x2) Ic2 J = gzTtq φ kc (Int32.ofNat x2) Ic3 J := by
          unfold gzTl
          rw [if_neg (by rw [show (0 : Int32) = Int32.ofNat 0 from rfl, gzn_le (by omega) (by omega)]; omega), g1]
          rfl
        rw [hM, hT]
        refine gzOk_step (tail (n + 1 + 1) Ic3 Im3 (by omega) g3) (gzFl_trans (gzFl_trans (gzFl_fk k2) e4) g4) (gzMl_trans (gzMl_trans (gzMl_mo k4) e5 (Nat.le_refl _)) g5 (by omega)) (by omega) (by omega) (by omega) ?_
        refine gzSk_app (by omega) (by omega) (gzSk_ml (hs1 1) g5 (Nat.le_refl _) (by omega)) ?_
        refine gzSk_one (fun L hL => ⟨?_, ?_⟩)
        · show (false :: false :: L).length ≤ 24
          rw [List.length_cons, List.length_cons]; omega
        · rw [g6]; exact gzSt_12q
    · obtain ⟨hz1, hz2, hz3, hz4, hz5, hz6⟩ := hz
      have he := m_emit (J := J') (I := Im1) (a := a) (b := b) (n := n) (by omega) ((k1 0 47 16 (by omega)).trans hz4)
      obtain ⟨Im2, e2⟩ : ∃ X, X = gz_ui (gz_ui (gz_ui Im1 0 48 (1262 + 2 * n) a) 0 48 (1263 + 2 * n) b) 0 47 16 (Int32.ofNat (n + 1)) := ⟨_, rfl⟩
      rw [← e2] at he
      have fm : ∀ t o k, ¬ (t = 0 ∧ (o = 47 ∧ k = 16 ∨ o = 48 ∧ (k = 1262 + 2 * n ∨ k = 1263 + 2 * n))) → Im2 t o k = Im1 t o k := fun t o k q => by rw [e2]; exact (if_neg (by omega)).trans ((if_neg (by omega)).trans (if_neg (by omega)))
      refine Or.inl ⟨gzWg bg j Ic, Im2, k3, ?_, gzFf_wg, fun t o k q r => (fm t o k (by omega)).trans (k1 t o k (by omega)), ?_⟩
      · rcases (show p = 0 ∨ p = 1 by omega) with rfl | rfl
        · show Option.bind (f_X12_readPart φ Im J') _ = _
          rw [k4, he]
          rfl
        · show Option.bind (f_X12_readPart φ Im J') _ = _
          rw [k4, he]
          rfl
      · rw [gzWg_7, fm 0 47 12 (by omega), k2]
theorem r_sumR (hk : gzTkq N c bt bg en cd) (hφ : 500 < φ) {j n : Nat} (hn : n + 3 ≤ j) (hz : gzLz N c bt bg cd Ic Im j j n d) : gzOkq N c bt bg cd Ic Im J J' j n d 0 20 (fun L => L) (fun L => false :: L) (f_X3_readSum φ 1 Ic J) (f_X12_readSum φ Im J') := by
  have hcN := hk.1
  have hN := hk.2.1
  exact r_sumL (J := J) (J' := J') hk hφ c 0 0 φ φ j n Ic Im (by omega) (by omega) (by omega) (by omega) Iff.rfl (by omega) (by omega) hz
end
