/-! the law's atoms, both sides -/
section
variable {I I' I2 X M M0 Ic Im Ic' Im' Ic2 Im2 : gzIT} {J J' : gzJT} {φ n c N d : Nat} {kd bt B E bg en : Nat → Nat} {cd : Nat → Int32}
theorem gz_n0q {x : Int32} {k : Nat} (hk : gzTkq N c bt bg en cd) {j : Nat} (h : cd j = x) (hj : j ≤ c) (hx : x = Int32.ofNat k) (hk2 : k < 30000) : j < c := by
  by_cases z : j < c
  · exact z
  · rw [show j = c by omega, hk.2.2.2.1, hx] at h
    exact absurd h (gz_n3 hk2)
theorem gzl10 : ((1 : Int32) = 0) = False := eq_false (by decide)
theorem gzl00 : ((0 : Int32) = 0) = True := eq_true rfl
theorem gzl62 : ((2062 : Int32) = 2060) = False := eq_false (by decide)
theorem gzl60 : ((2060 : Int32) = 2060) = True := eq_true rfl
/-- a SUM behind < or > -/
theorem r_sum2 (hk : gzTkq N c bt bg en cd) (hφ : 500 < φ) {j n lim : Nat} {x a : Int32} {R' : gzIT → gzJT → Option (Int32 × gzIT × gzJT)} {x1 : Int32} (hn : n + 4 ≤ j) (hl : lim ≤ 18) (hz : gzLz N c bt bg cd Ic Im j j n d) (hx : gzCd x a 0) (ha : a = 13 ∨ a = 14) (hx1 : (if x1 = 0 then (14 : Int32) else 13) = a) : gzOkq N c bt bg cd Ic Im J J' j n d 1 lim (fun L => false :: L) (fun L => true :: L) (Option.bind (f_X3_readSum φ 1 Ic J) (fun v35 => gzEx v35.1 (fun E => some (.error E, v35.2.1, v35.2.2)) (fun w37 => Option.bind (f_X2_put 1 x v35.2.1 v35.2.2) (fun v39 => some (.ok (), v39.2.1, v39.2.2))))) (f_X12_readAtom_152 φ R' x1 Im J') := by
  have hcN := hk.1
  have hN := hk.2.1
  unfold f_X12_readAtom_152
  rw [hx1]
  refine gzOk_bind (Kc := fun I J => Option.bind (f_X2_put 1 x I J) (fun v39 => some (.ok (), v39.2.1, v39.2.2))) (Km := fun I J => Option.bind (f_X12_emits a 0 I J) (fun v26 => some (1, v26.2.1, v26.2.2))) (K := fun L => false :: false :: L) (gzOk_pre (lim2 := lim) (fun L => false :: L) (r_sumR (J := J) (J' := J') hk hφ (by omega) hz) (fun L hL => by show (false :: L).length ≤ _; rw [List.length_cons]; omega)) (p2 := 1) (fun Ic' Im' j' n' a1 a2 a3 a4 => ?_) (by omega)
  have hj' : j' ≤ c := a4.1.1
  refine gzOk_emit (Kc := fun I J => some (.ok (), I, J)) (Km := fun I J => some (1, I, J)) (K := fun L => true :: L) a4 (by omega) hx (fun L hL => ⟨by show (false :: false :: L).length ≤ 24; rw [List.length_cons, List.length_cons]; omega, by rcases ha with rfl | rfl <;> rfl⟩) (fun A B hz2 => gzOk_ok hz2)
/-- an ATOM that is SUM < SUM or SUM > SUM -/
theorem r_cmp (hk : gzTkq N c bt bg en cd) (hφ : 500 < φ) {j n lim : Nat} {R' : gzIT → gzJT → Option (Int32 × gzIT × gzJT)} (hn : n + 3 ≤ j) (hl : lim ≤ 18) (hz : gzLz N c bt bg cd Ic Im j j n d) : gzOkq N c bt bg cd Ic Im J J' j n d 0 lim (fun L => L) (fun L => true :: L) (Option.bind (f_X3_readSum φ 1 Ic J) (fun v28 => gzEx v28.1 (fun E => some (.error E, v28.2.1, v28.2.2)) (fun w30 => Option.bind (f_X7_take 2062 v28.2.1 v28.2.2) (fun v32 => if ¬ (if v32.1 = 0 then (2060 : Int32) else 2062) = 2060 then (Option.bind (f_X3_readSum φ 1 v32.2.1 v32.2.2) (fun v35 => gzEx v35.1 (fun E => some (.error E, v35.2.1, v35.2.2)) (fun w37 => Option.bind (f_X2_put 1 (if v32.1 = 0 then (2060 : Int32) else 2062) v35.2.1 v35.2.2) (fun v39 => some (.ok (), v39.2.1, v39.2.2))))) else (Option.bind (f_X7_need 2060 v32.2.1 v32.2.2) (fun v41 => gzEx v41.1 (fun E => some (.error E, v41.2.1, v41.2.2)) (fun w43 => Option.bind (f_X3_readSum φ 1 v41.2.1 v41.2.2) (fun v45 => gzEx v45.1 (fun E => some (.error E, v45.2.1, v45.2.2)) (fun w47 => Option.bind (f_X2_put 1 (if v32.1 = 0 then (2060 : Int32) else 2062) v45.2.1 v45.2.2) (fun v49 => some (.ok (), v49.2.1, v49.2.2))))))))))) (Option.bind (f_X12_readSum φ Im J') (fun v8 => if ¬ v8.1 = 0 then (Option.bind (f_X12_sign φ 60 v8.2.1 v8.2.2) (fun v10 => if ¬ v10.1 = 0 then (f_X12_readAtom_152 φ R' v10.1 v10.2.1 v10.2.2) else (Option.bind (f_X12_sign φ 62 v10.2.1 v10.2.2) (fun v12 => if v12.1 = 0 then (some (0, v12.2.1, v12.2.2)) else (f_X12_readAtom_152 φ R' v10.1 v12.2.1 v12.2.2))))) else (some (0, v8.2.1, v8.2.2)))) := by
  have hcN := hk.1
  have hN := hk.2.1
  refine gzOk_bind (Kc := fun I J => Option.bind (f_X7_take 2062 I J) (fun v32 => if ¬ (if v32.1 = 0 then (2060 : Int32) else 2062) = 2060 then (Option.bind (f_X3_readSum φ 1 v32.2.1 v32.2.2) (fun v35 => gzEx v35.1 (fun E => some (.error E, v35.2.1, v35.2.2)) (fun w37 => Option.bind (f_X2_put 1 (if v32.1 = 0 then (2060 : Int32) else 2062) v35.2.1 v35.2.2) (fun v39 => some (.ok (), v39.2.1, v39.2.2))))) else (Option.bind (f_X7_need 2060 v32.2.1 v32.2.2) (fun v41 => gzEx v41.1 (fun E => some (.error E, v41.2.1, v41.2.2)) (fun w43 => Option.bind (f_X3_readSum φ 1 v41.2.1 v41.2.2) (fun v45 => gzEx v45.1 (fun E => some (.error E, v45.2.1, v45.2.2)) (fun w47 => Option.bind (f_X2_put 1 (if v32.1 = 0 then (2060 : Int32) else 2062) v45.2.1 v45.2.2) (fun v49 => some (.ok (), v49.2.1, v49.2.2))))))))) (Km := fun I J => Option.bind (f_X12_sign φ 60 I J) (fun v10 => if ¬ v10.1 = 0 then (f_X12_readAtom_152 φ R' v10.1 v10.2.1 v10.2.2) else (Option.bind (f_X12_sign φ 62 v10.2.1 v10.2.2) (fun v12 => if v12.1 = 0 then (some (0, v12.2.1, v12.2.2)) else (f_X12_readAtom_152 φ R' v10.1 v12.2.1 v12.2.2))))) (K := fun L => false :: L) (gzOk_pre (lim2 := lim) (fun L => L) (r_sumR (J := J) (J' := J') hk hφ hn hz) (fun L hL => by omega)) (p2 := 0) (fun A B j' n' a1 a2 a3 a4 => ?_) (by omega)
  have hj' : j' ≤ c := a4.1.1
  show gzOkq N c bt bg cd A B J J' j' n' d 0 lim (fun L => false :: L) (fun L => true :: L) (Option.bind (f_X7_take 2062 A J) _) (Option.bind (f_X12_sign φ 60 B J') _)
  by_cases hg : cd j' = gzSg 62
  · obtain ⟨A2, b1, b2, b3, b4⟩ := c_takeY (J := J) hk a4.1 (show cd j' = 2062 from hg) (by decide)
    obtain ⟨B2, d1, d2, d3, d4⟩ := m_signN (φ := φ) (J := J') (s := 60) hk a4.2.1 (by decide) (by omega) (by rw [hg]; decide) hφ
    obtain ⟨B3, e1, e2, e3, e4⟩ := m_signY (φ := φ) (J := J') (s := 62) hk d2 (by decide) (by omega) hg hφ
    have d1' : f_X12_sign φ 60 B J' = some (0, B2, J') := d1
    have e1' : f_X12_sign φ 62 B2 J' = some (1, B3, J') := e1
    rw [b1, d1']
    simp only [Option.bind_some, gzl10, gzl00, gzl62, gzl60, not_true_eq_false, not_false_eq_true, if_true, if_false]
    rw [e1']
    simp only [Option.bind_some, gzl10, gzl00, gzl62, gzl60, not_true_eq_false, not_false_eq_true, if_true, if_false]
    exact gzOk_step (r_sum2 hk hφ (x := 2062) (a := 14) (by omega) hl (gzLz_mo (gzLz_fk a4 b2 b3) e2 (gzMo_trans d3 e3)) (Or.inr (Or.inr (Or.inr (Or.inr (Or.inl ⟨rfl, rfl⟩))))) (Or.inr rfl) (by decide)) (gzFl_fk b3) (gzMl_mo (gzMo_trans d3 e3)) (Nat.le_refl _) (by omega) (by omega) gzSk_nil
  · rw [c_takeN a4.1 (show cd j' ≠ 2062 from hg)]
    simp only [Option.bind_some, gzl10, gzl00, gzl62, gzl60, not_true_eq_false, not_false_eq_true, if_true, if_false]
    by_cases hl2 : cd j' = gzSg 60
    · obtain ⟨A2, b1, b2, b3, b4⟩ := c_needY (J := J) hk a4.1 (show cd j' = 2060 from hl2) (by decide)
      obtain ⟨B2, d1, d2, d3, d4⟩ := m_signY (φ := φ) (J := J') (s := 60) hk a4.2.1 (by decide) (by omega) hl2 hφ
      have d1' : f_X12_sign φ 60 B J' = some (1, B2, J') := d1
      rw [b1, d1']
      simp only [Option.bind_some, gzl10, gzl00, gzl62, gzl60, not_true_eq_false, not_false_eq_true, if_true, if_false]
      exact gzOk_step (r_sum2 hk hφ (x := 2060) (a := 13) (by omega) hl (gzLz_mo (gzLz_fk a4 b2 b3) d2 d3) (Or.inr (Or.inr (Or.inr (Or.inl ⟨rfl, rfl⟩)))) (Or.inl rfl) (by decide)) (gzFl_fk b3) (gzMl_mo d3) (Nat.le_refl _) (by omega) (by omega) gzSk_nil
    · obtain ⟨B2, d1, d2, d3, d4⟩ := m_signN (φ := φ) (J := J') (s := 60) hk a4.2.1 (by decide) (by omega) hl2 hφ
      obtain ⟨B3, e1, e2, e3, e4⟩ := m_signN (φ := φ) (J := J') (s := 62) hk d2 (by decide) (by omega) hg hφ
      have d1' : f_X12_sign φ 60 B J' = some (0, B2, J') := d1
      have e1' : f_X12_sign φ 62 B2 J' = some (0, B3, J') := e1
      rw [c_needN a4.1 (show cd j' ≠ 2060 from hl2), d1']
      simp only [Option.bind_some, gzl10, gzl00, gzl62, gzl60, not_true_eq_false, not_false_eq_true, if_true, if_false]
      rw [e1']
      simp only [Option.bind_some, gzl10, gzl00, gzl62, gzl60, not_true_eq_false, not_false_eq_true, if_true, if_false]
      exact gzOk_no (gzMf_ml (n := 0) (gzMl_mo (gzMo_trans d3 e3))) e4
theorem r_tag {j : Nat} (hk : gzTkq N c bt bg en cd) (hm : gzMa N c bt bg j Im) (hφ : 500 < φ) : (∃ w, w < 3 ∧ cd j = Int32.ofNat (1020 + w) ∧ ∃ B, gzMa N c bt bg (j + 1) B ∧ gzMo Im B ∧ f_X12_readTag φ Im J' = Option.bind (f_X12_emits (Int32.ofNat (8 + w)) 0 B J') (fun v => some (1, v.2.1, v.2.2))) ∨ ((∀ w, w < 3 → cd j ≠ Int32.ofNat (1020 + w)) ∧ ∃ B, gzMa N c bt bg j B ∧ gzMo Im B ∧ f_X12_readTag φ Im J' = some (0, B, J')) := by
  obtain ⟨m1, m2, m3⟩ := hm
  obtain ⟨I1, a1, a2, a3, a4⟩ := m_letters (J := J') hk m2 m3 m1 hφ
  obtain ⟨-, -, -, -, -, -, -, -, w8, w9, w10, -⟩ := gzWa_tab
  have g : ∀ a, 17 ≤ a → a < 47 → f_X12_isWord φ a I1 = some (if cd j = gzWa a then 1 else 0) := fun a h1 h2 => m_word hk (gzMx_mo m2 a2) a3 a4 m1 h1 h2 hφ
  have hY : ∀ a, 17 ≤ a → a < 47 → cd j = gzWa a → gzMa N c bt bg (j + 1) I1 := fun a h1 h2 h => by
    obtain ⟨l1, l2⟩ := gzWa_lt hk m1 h1 h2 h
    exact ⟨l1, gzMx_mo m2 a2, gzMp_next hk l1 (by rw [a3]; exact congrArg Int32.ofNat (if_pos ⟨l1, l2⟩))⟩
  have hD : f_X12_readTag φ Im J' = if ¬ cd j = 1020 then (if ¬ cd j = 1021 then (if ¬ cd j = 1022 then some (0, gz_ui I1 0 47 10 (I1 0 47 12), J') else Option.bind (f_X12_emits 10 0 I1 J') (fun v => some (1, v.2.1, v.2.2))) else Option.bind (f_X12_emits 9 0 I1 J') (fun v => some (1, v.2.1, v.2.2))) else Option.bind (f_X12_emits 8 0 I1 J') (fun v => some (1, v.2.1, v.2.2)) := by
    unfold f_X12_readTag
    rw [a1]
    simp only [Option.bind_some]
    rw [g 28 (by omega) (by omega), g 43 (by omega) (by omega), g 37 (by omega) (by omega), w8, w9, w10]
    simp only [Option.bind_some]
    by_cases h0 : cd j = 1020
    · rw [if_neg (by rw [if_pos h0]; decide), if_neg (by decide), if_neg (by decide), if_neg (fun y => y h0)]
    · rw [if_pos (if_neg h0), if_pos h0]
      by_cases h1 : cd j = 1021
      · rw [if_neg (by rw [if_pos h1]; decide), if_neg (by decide), if_neg (by decide), if_neg (fun y => y h1)]
      · rw [if_pos (if_neg h1), if_pos h1]
        by_cases h2 : cd j = 1022
        · rw [if_neg (by rw [if_pos h2]; decide), if_neg (by decide), if_neg (by decide), if_neg (fun y => y h2)]
        · rw [if_pos (if_neg h2), if_pos (by decide), if_pos (by decide), if_pos h2]
  rw [hD]
  by_cases h0 : cd j = 1020
  · exact Or.inl ⟨0, by omega, h0, I1, hY 28 (by omega) (by omega) (by rw [w8]; exact h0), a2, by rw [if_neg (fun y => y h0)]; rfl⟩
  by_cases h1 : cd j = 1021
  · exact Or.inl ⟨1, by omega, h1, I1, hY 43 (by omega) (by omega) (by rw [w9]; exact h1), a2, by rw [if_pos h0, if_neg (fun y => y h1)]; rfl⟩
  by_cases h2 : cd j = 1022
  · exact Or.inl ⟨2, by omega, h2, I1, hY 37 (by omega) (by omega) (by rw [w10]; exact h2), a2, by rw [if_pos h0, if_pos h1, if_neg (fun y => y h2)]; rfl⟩
  obtain ⟨I2, e2⟩ : ∃ I2, I2 = gz_ui I1 0 47 10 (Int32.ofNat (bg j)) := ⟨_, rfl⟩
  have f2 : gzMo I1 I2 := fun t o k q => by rw [e2]; exact if_neg (by omega)
  refine Or.inr ⟨fun w hw x => ?_, I2, ⟨m1, gzMx_mo m2 (gzMo_trans a2 f2), gzMp_at (by rw [e2]; exact gz_ui_s)⟩, gzMo_trans a2 f2, by rw [if_pos h0, if_pos h1, if_pos h2, a4, e2]⟩
  rcases (show w = 0 ∨ w = 1 ∨ w = 2 by omega) with rfl | rfl | rfl
  · exact h0 x
  · exact h1 x
  · exact h2 x
theorem gzSt_tag {w : Nat} {L : List Bool} (h : w < 3) : gzSt (Int32.ofNat (8 + w)) L = some (true :: L) := by
  rcases (show w = 0 ∨ w = 1 ∨ w = 2 by omega) with rfl | rfl | rfl <;> rfl
/-- m times "not" put -/
def gzPnq : Nat → gzIT → gzJT → Option (Except String Unit × gzIT × gzJT)
  | 0, I, J => some (.ok (), I, J)
  | m + 1, I, J => Option.bind (f_X2_put 1 1027 I J) (fun v => gzPnq m v.2.1 v.2.2)
/-- one "not" put behind what was read -/
def gzTnq (v : Except String Unit × gzIT × gzJT) : Option (Except String Unit × gzIT × gzJT) := gzEx v.1 (fun E => some (.error E, v.2.1, v.2.2)) (fun _ => Option.bind (f_X2_put 1 1027 v.2.1 v.2.2) (fun w => some (.ok (), w.2.1, w.2.2)))
theorem gzTnq_er {E : String} {A : gzIT} {B : gzJT} : gzTnq (.error E, A, B) = some (.error E, A, B) := rfl
theorem gzPnq_s : ∀ (m : Nat) (I : gzIT) (J : gzJT), gzPnq (m + 1) I J = Option.bind (gzPnq m I J) gzTnq := by
  intro m
  induction m with
  | zero => intro I J; rfl
  | succ m ih =>
    intro I J
    show Option.bind (f_X2_put 1 1027 I J) (fun v => gzPnq (m + 1) v.2.1 v.2.2) = Option.bind (Option.bind (f_X2_put 1 1027 I J) (fun v => gzPnq m v.2.1 v.2.2)) gzTnq
    rw [Option.bind_assoc]
    exact congrArg _ (funext fun v => ih v.2.1 v.2.2)
theorem gz_exBq {α β γ : Type} {x : Except String α} {e : String → Option β} {k : α → Option β} {T : β → Option γ} : Option.bind (gzEx x e k) T = gzEx x (fun E => Option.bind (e E) T) (fun w => Option.bind (k w) T) := by
  cases x <;> rfl
theorem gz_iteBq {β γ : Type} {c : Prop} [Decidable c] {a b : Option β} {T : β → Option γ} : Option.bind (if c then a else b) T = if c then Option.bind a T else Option.bind b T := by
  split <;> rfl
theorem gzAq_n {φ : Nat} {R : Int32 → gzIT → gzJT → Option (Except String Unit × gzIT × gzJT)} : ∀ (m k y : Nat) (A : gzIT) (B : gzJT), m < k → y + m < 100 → f_X3_readAtom_222 φ 1 R k (Int32.ofNat (y + m)) (Int32.ofNat y) A B = gzPnq m A B := by
  intro m
  induction m with
  | zero =>
    intro k y A B hk hy
    obtain ⟨k, rfl⟩ : ∃ q, k = q + 1 := ⟨k - 1, by omega⟩
    rw [f_X3_readAtom_222, if_pos (by rw [gzn_le (by omega) (by omega)]; omega)]
    rfl
  | succ m ih =>
    intro k y A B hk hy
    obtain ⟨k, rfl⟩ : ∃ q, k = q + 1 := ⟨k - 1, by omega⟩
    rw [f_X3_readAtom_222, if_neg (by rw [gzn_le (by omega) (by omega)]; omega), gzn_succ, show y + (m + 1) = y + 1 + m by omega]
    exact congrArg _ (funext fun v => ih k (y + 1) v.2.1 v.2.2 (by omega) (by omega))
theorem gzAq_0 {φ : Nat} (hφ : 500 < φ) {R : Int32 → gzIT → gzJT → Option (Except String Unit × gzIT × gzJT)} {x : Nat} (hx : x ≤ 6) {A : gzIT} {B : gzJT} : f_X3_readAtom_222 φ 1 R φ (Int32.ofNat x) (Int32.ofNat x) A B = some (.ok (), A, B) := gzAq_n 0 φ x A B (by omega) (by omega)
theorem gzAq_sh {φ : Nat} (hφ : 500 < φ) {R : Int32 → gzIT → gzJT → Option (Except String Unit × gzIT × gzJT)} {x y : Nat} (hy : y < x) (hx : x ≤ 6) {A : gzIT} {B : gzJT} : f_X3_readAtom_222 φ 1 R φ (Int32.ofNat x) (Int32.ofNat y) A B = Option.bind (f_X3_readAtom_222 φ 1 R φ (Int32.ofNat x) (Int32.ofNat (y + 1)) A B) gzTnq := by
  obtain ⟨m, rfl⟩ : ∃ m, x = y + 1 + m := ⟨x - (y + 1), by omega⟩
  rw [gzAq_n m φ (y + 1) A B (by omega) (by omega), ← gzPnq_s, show y + 1 + m = y + (m + 1) by omega]
  exact gzAq_n (m + 1) φ y A B (by omega) (by omega)
theorem gzAq_66 {φ : Nat} (hφ : 500 < φ) {R : Int32 → gzIT → gzJT → Option (Except String Unit × gzIT × gzJT)} {x y : Nat} (hy : y < x) (hx : x ≤ 6) {A : gzIT} {B : gzJT} : f_X3_readAtom_66 φ 1 R (Int32.ofNat y) (Int32.ofNat x) A B = Option.bind (f_X3_readAtom_66 φ 1 R (Int32.ofNat (y + 1)) (Int32.ofNat x) A B) gzTnq := by
  unfold f_X3_readAtom_66
  simp only [gzAq_sh (R := R) hφ hy hx, Option.bind_assoc, gz_exBq, gz_iteBq, gzTnq_er, Option.bind_some]
theorem gzAq_59 {φ : Nat} (hφ : 500 < φ) {R : Int32 → gzIT → gzJT → Option (Except String Unit × gzIT × gzJT)} {x y : Nat} (hy : y < x) (hx : x ≤ 6) {A : gzIT} {B : gzJT} : f_X3_readAtom_59 φ 1 R (Int32.ofNat y) (Int32.ofNat x) A B = Option.bind (f_X3_readAtom_59 φ 1 R (Int32.ofNat (y + 1)) (Int32.ofNat x) A B) gzTnq := by
  unfold f_X3_readAtom_59
  simp only [gzAq_66 (R := R) hφ hy hx, Option.bind_assoc, gz_exBq, gzTnq_er, Option.bind_some]
theorem gzAq_27 {φ : Nat} (hφ : 500 < φ) {R : Int32 → gzIT → gzJT → Option (Except String Unit × gzIT × gzJT)} {x y : Nat} (hy : y < x) (hx : x ≤ 6) {A : gzIT} {B : gzJT} : f_X3_readAtom_27 φ 1 R (Int32.ofNat y) (Int32.ofNat x) A B = Option.bind (f_X3_readAtom_27 φ 1 R (Int32.ofNat (y + 1)) (Int32.ofNat x) A B) gzTnq := by
  unfold f_X3_readAtom_27
  simp only [gzAq_66 (R := R) hφ hy hx, gzAq_59 (R := R) hφ hy hx, Option.bind_assoc, gz_iteBq]
/-- a "not" read ahead is one put behind -/
theorem gzAq_2 {φ : Nat} (hφ : 500 < φ) {R : Int32 → gzIT → gzJT → Option (Except String Unit × gzIT × gzJT)} {y : Nat} : ∀ (k x : Nat) (A : gzIT) (B : gzJT), y < x → x ≤ 6 → f_X3_readAtom_2 φ 1 R k (Int32.ofNat y) (Int32.ofNat x) A B = Option.bind (f_X3_readAtom_2 φ 1 R k (Int32.ofNat (y + 1)) (Int32.ofNat x) A B) gzTnq := by
  intro k
  induction k with
  | zero => intro x A B hy hx; rfl
  | succ k ih =>
    intro x A B hy hx
    rw [f_X3_readAtom_2, f_X3_readAtom_2]
    by_cases q : x < 6
    · rw [if_neg (by rw [gzc_le1 (by omega) (by omega)]; omega), if_neg (by rw [gzc_le1 (by omega) (by omega)]; omega), gzn_succ, Option.bind_assoc]
      refine congrArg _ (funext fun v => ?_)
      rw [gz_iteBq]
      by_cases z : v.1 = 0
      · rw [if_pos z, if_pos z]
        exact gzAq_27 hφ hy hx
      · rw [if_neg z, if_neg z]
        exact ih (x + 1) _ _ (by omega) (by omega)
    · rw [if_pos (by rw [gzc_le1 (by omega) (by omega)]; omega), if_pos (by rw [gzc_le1 (by omega) (by omega)]; omega)]
      exact gzAq_27 hφ hy hx
/-- an ATOM that is neither ( nor not -/
theorem r_plain (hk : gzTkq N c bt bg en cd) (hφ : 500 < φ) {j n lim : Nat} {R : Int32 → gzIT → gzJT → Option (Except String Unit × gzIT × gzJT)} {R' : gzIT → gzJT → Option (Int32 × gzIT × gzJT)} {x2 : Nat} (h6 : x2 ≤ 6) (hn : n + 3 ≤ j) (hl : lim ≤ 18) (hz : gzLz N c bt bg cd Ic Im j j n d) (h2 : cd j ≠ 2040) : gzOkq N c bt bg cd Ic Im J J' j n d 0 lim (fun L => L) (fun L => true :: L) (f_X3_readAtom_66 φ 1 R (Int32.ofNat x2) (Int32.ofNat x2) Ic J) (Option.bind (f_X12_readTag φ Im J') (fun v6 => if v6.1 = 0 then (Option.bind (f_X12_readSum φ v6.2.1 v6.2.2) (fun v8 => if ¬ v8.1 = 0 then (Option.bind (f_X12_sign φ 60 v8.2.1 v8.2.2) (fun v10 => if ¬ v10.1 = 0 then (f_X12_readAtom_152 φ R' v10.1 v10.2.1 v10.2.2) else (Option.bind (f_X12_sign φ 62 v10.2.1 v10.2.2) (fun v12 => if v12.1 = 0 then (some (0, v12.2.1, v12.2.2)) else (f_X12_readAtom_152 φ R' v10.1 v12.2.1 v12.2.2))))) else (some (0, v8.2.1, v8.2.2)))) else (some (1, v6.2.1, v6.2.2)))) := by
  have hcN := hk.1
  have hN := hk.2.1
  have hjc := hz.1.1
  unfold f_X3_readAtom_66
  simp only [gzAq_0 (R := R) hφ h6]
  rw [c_takeN hz.1 h2]
  simp only [Option.bind_some]
  rw [if_pos (by decide)]
  simp only [c_is hz.1, Option.bind_some]
  rcases r_tag (φ := φ) (J' := J') hk hz.2.1 hφ with ⟨w, w1, w2, B, b1, b2, b3⟩ | ⟨w1, B, b1, b2, b3⟩
  · obtain ⟨A, a1, a2, a3, a4⟩ := c_amongY (J := J) (a := 1020) (m := 3) (v := w) hk hz.1 w2 w1 (by omega)
    have a1' : f_X7_among 1020 3 Ic J = some (.ok (Int32.ofNat w), A, J) := a1
    obtain ⟨A2, B2, e1, e2, e3, e4, e5, e6⟩ := r_emit (J := J) (J' := J') (x := Int32.ofNat (1020 + w)) (a := Int32.ofNat (8 + w)) (b := 0) (gzLz_mo (gzLz_fk hz a2 a3) b1 b2) (by omega) (Or.inr (Or.inl ⟨8 + w, by omega, rfl, by rw [show 1012 + (8 + w) = 1020 + w by omega]⟩))
    have hres : gzOkq N c bt bg cd Ic Im J J' j n d 0 lim (fun L => L) (fun L => true :: L) (some (.ok (), A2, J)) (some (1, B2, J')) := gzOk_step (gzOk_ok e3) (gzFl_trans (gzFl_fk a3) e4) (gzMl_trans (gzMl_mo b2) e5 (Nat.le_refl _)) (by omega) (by omega) (by omega) (gzSk_one (fun L hL => ⟨by omega, by rw [e6]; exact gzSt_tag w1⟩))
    have hm : Option.bind (f_X12_readTag φ Im J') (fun v6 => if v6.1 = 0 then (Option.bind (f_X12_readSum φ v6.2.1 v6.2.2) (fun v8 => if ¬ v8.1 = 0 then (Option.bind (f_X12_sign φ 60 v8.2.1 v8.2.2) (fun v10 => if ¬ v10.1 = 0 then (f_X12_readAtom_152 φ R' v10.1 v10.2.1 v10.2.2) else (Option.bind (f_X12_sign φ 62 v10.2.1 v10.2.2) (fun v12 => if v12.1 = 0 then (some (0, v12.2.1, v12.2.2)) else (f_X12_readAtom_152 φ R' v10.1 v12.2.1 v12.2.2))))) else (some (0, v8.2.1, v8.2.2)))) else (some (1, v6.2.1, v6.2.2))) = some (1, B2, J') := by
      rw [b3, e2]
      simp only [Option.bind_some]
      rw [if_neg (by decide)]
    rw [hm, a1']
    have hput : ∀ {β : Type} (f : Unit × gzIT × gzJT → Option β), Option.bind (f_X2_put 1 (1020 + Int32.ofNat w) A J) f = f ((), A2, J) := fun f => by
      rw [gzc_add', e1]
      rfl
    rcases (show w = 0 ∨ w = 1 ∨ w = 2 by omega) with rfl | rfl | rfl
    · rw [if_pos (by rw [if_pos (show cd j = 1020 from w2)]; decide)]
      show gzOkq N c bt bg cd Ic Im J J' j n d 0 lim _ _ (Option.bind (f_X2_put 1 (1020 + Int32.ofNat 0) A J) (fun v16 => some (.ok (), v16.2.1, v16.2.2))) _
      rw [hput]
      exact hres
    · rw [if_neg (by rw [show cd j = 1021 from w2]; decide), if_pos (by rw [if_pos (show cd j = 1021 from w2)]; decide)]
      show gzOkq N c bt bg cd Ic Im J J' j n d 0 lim _ _ (Option.bind (f_X2_put 1 (1020 + Int32.ofNat 1) A J) (fun v16 => some (.ok (), v16.2.1, v16.2.2))) _
      rw [hput]
      exact hres
    · rw [if_neg (by rw [show cd j = 1022 from w2]; decide), if_neg (by rw [show cd j = 1022 from w2]; decide), if_neg (by rw [show cd j = 1022 from w2]; decide)]
      show gzOkq N c bt bg cd Ic Im J J' j n d 0 lim _ _ (Option.bind (f_X2_put 1 (1020 + Int32.ofNat 2) A J) (fun v16 => some (.ok (), v16.2.1, v16.2.2))) _
      rw [hput]
      exact hres
  · have g0 : cd j ≠ 1020 := w1 0 (by omega)
    have g1 : cd j ≠ 1021 := w1 1 (by omega)
    have g2 : cd j ≠ 1022 := w1 2 (by omega)
    rw [b3, if_neg (fun y => y (if_neg g0)), if_neg (fun y => y (if_neg g1)), if_pos (if_neg g2)]
    simp only [Option.bind_some]
    rw [if_pos (by decide)]
    exact gzOk_step (r_cmp (J := J) (J' := J') hk hφ hn hl (gzLz_mo hz b1 b2)) gzFl_refl (gzMl_mo b2) (Nat.le_refl _) (Nat.le_refl _) (by omega) gzSk_nil
theorem r_atom2 (hk : gzTkq N c bt bg en cd) (hφ : 500 < φ) : ∀ (km k kf d j n : Nat) (Ic Im : gzIT), d ≤ 6 → 7 ≤ km + d → 7 ≤ k + 1 + d → 7 ≤ kf + d → n + 3 ≤ j → gzLz N c bt bg cd Ic Im j j n d → gzOkq N c bt bg cd Ic Im J J' j n d 0 (2 * d + 2) (fun L => L) (fun L => true :: L) (f_X3_readAtom_2 φ 1 (fR_X3_readAtom φ 1 k) kf (Int32.ofNat d) (Int32.ofNat d) Ic J) (fR_X12_readAtom φ km Im J') := by
  intro km
  induction km with
  | zero => intro k kf d j n Ic Im h1 h2; omega
  | succ km ih =>
    intro k kf d j n Ic Im hd hkm hkd hkf hn hz
    obtain ⟨kf, rfl⟩ : ∃ q, kf = q + 1 := ⟨kf - 1, by omega⟩
    have hcN := hk.1
    have hN := hk.2.1
    have hjc := hz.1.1
    have w42 : gzWa 42 = 1027 := gzWa_tab.2.2.2.2.2.2.2.2.2.2.2.2.2.2.2.1
    have h13 := hz.2.2.2.2.1
    rw [f_X3_readAtom_2, fR_X12_readAtom]
    have six : d < 6 → Int32.ofNat d < 6 := fun h => (gzc_lt2 (by omega) (by omega)).2 h
    have six' : ¬ d < 6 → ¬ Int32.ofNat d < 6 := fun h y => h ((gzc_lt2 (by omega) (by omega)).1 y)
    have sev : d < 6 → ¬ 6 ≤ Int32.ofNat d := fun h y => by have := (gzc_le1 (by omega) (by omega)).1 y; omega
    have sev' : ¬ d < 6 → 6 ≤ Int32.ofNat d := fun h => (gzc_le1 (by omega) (by omega)).2 (by omega)
    by_cases hp : cd j = gzSg 40
    · have hp' : cd j = 2040 := hp
      have hn27 : cd j ≠ 1027 := by rw [hp']; decide
      obtain ⟨B, B1, B2, B3, B4⟩ := m_signY (φ := φ) (J := J') (s := 40) hk hz.2.1 (by decide) (by omega) hp hφ
      have B1' : f_X12_sign φ 40 Im J' = some (1, B, J') := B1
      rw [B1']
      simp only [Option.bind_some, gzl10, gzl00, gzl62, gzl60, not_true_eq_false, not_false_eq_true, if_true, if_false]
      rw [(B3 0 47 13 (by omega)).trans h13]
      by_cases h6 : d < 6
      · rw [if_neg (sev h6), if_pos (fun y => by have := (gzc_eq2 (by omega) (by omega)).1 y; omega), gzn_succ, c_takeN hz.1 hn27]
        simp only [Option.bind_some, gzl10, gzl00, gzl62, gzl60, not_true_eq_false, not_false_eq_true, if_true, if_false]
        unfold f_X3_readAtom_27
        rw [if_pos (six h6)]
        unfold f_X3_readAtom_66
        simp only [gzAq_0 (R := fR_X3_readAtom φ 1 k) hφ hd]
        obtain ⟨A, A1, A2, A3, A4⟩ := c_takeY (J := J) hk hz.1 hp' (by decide)
        rw [A1]
        simp only [Option.bind_some, gzl10, gzl00, gzl62, gzl60, not_true_eq_false, not_false_eq_true, if_true, if_false]
        rw [gzn_succ]
        obtain ⟨k, rfl⟩ : ∃ q, k = q + 1 := ⟨k - 1, by omega⟩
        obtain ⟨z1, z2⟩ := gzLz_d (d2 := d + 1) (gzLz_mo (gzLz_fk hz A2 A3) B2 B3)
        refine gzOk_step (p := 0) (n := n) (j := j + 1) (P := fun L => L) ?_ (gzFl_fk A3) (gzMl_trans (gzMl_mo B3) z2 (Nat.le_refl _)) (Nat.le_refl _) (show j ≤ j + 1 by omega) (by omega) gzSk_nil
        refine gzOk_bind (Kc := fun I J => Option.bind (f_X7_need 2041 I J) (fun v61 => gzEx v61.1 (fun E => some (.error E, v61.2.1, v61.2.2)) (fun w63 => some (.ok (), v61.2.1, v61.2.2)))) (Km := fun I J => Option.bind (f_X12_sign φ 41 (gz_ui I 0 47 13 ((I 0 47 13) - 1)) J) (fun v20 => gzGz v20.1 (some (v20.1, v20.2.1, v20.2.2)))) (K := fun L => true :: L) (gzOk_pre (lim2 := 2 * d + 2) (fun L => L) (r_cond (d := d + 1) (J := J) (J' := J') hk hφ (by omega) (fun j n Ic Im g1 g2 => by rw [fR_X3_readAtom]; exact ih k φ (d + 1) j n Ic Im (by omega) (by omega) (by omega) (by omega) g1 g2) (by omega) z1) (fun L hL => by omega)) (p2 := 0) (fun A' B' j' n' a1 a2 a3 a4 => ?_) (by omega)
        show gzOkq N c bt bg cd A' B' J J' j' n' d 0 (2 * d + 2) (fun L => true :: L) (fun L => true :: L) (Option.bind (f_X7_need 2041 A' J) _) (Option.bind (f_X12_sign φ 41 (gz_ui B' 0 47 13 ((B' 0 47 13) - 1)) J') _)
        have h13' : B' 0 47 13 - 1 = Int32.ofNat d := by rw [a4.2.2.2.2.1, gzc_sub (by omega)]; rfl
        rw [h13']
        obtain ⟨y1, y2⟩ := gzLz_d (d2 := d) a4
        by_cases hq : cd j' = gzSg 41
        · obtain ⟨A3', c1, c2, c3, c4⟩ := c_needY (J := J) hk y1.1 (show cd j' = 2041 from hq) (by decide)
          obtain ⟨B3', d1, d2, d3, d4⟩ := m_signY (φ := φ) (J := J') (s := 41) hk y1.2.1 (by decide) (by omega) hq hφ
          have d1' : f_X12_sign φ 41 (gz_ui B' 0 47 13 (Int32.ofNat d)) J' = some (1, B3', J') := d1
          rw [c1, d1']
          exact gzOk_step (gzOk_ok (gzLz_mo (gzLz_fk y1 c2 c3) d2 d3)) (gzFl_fk c3) (gzMl_trans y2 (gzMl_mo d3) (Nat.le_refl _)) (Nat.le_refl _) (by omega) (by omega) gzSk_nil
        · obtain ⟨B3', d1, d2, d3, d4⟩ := m_signN (φ := φ) (J := J') (s := 41) hk y1.2.1 (by decide) (by omega) hq hφ
          have d1' : f_X12_sign φ 41 (gz_ui B' 0 47 13 (Int32.ofNat d)) J' = some (0, B3', J') := d1
          rw [c_needN y1.1 (show cd j' ≠ 2041 from hq), d1']
          exact gzOk_no (gzMf_ml (gzMl_trans y2 (gzMl_mo d3) (Nat.le_refl _))) d4
      · rw [if_pos (sev' h6), if_neg (fun y => y (by rw [show d = 6 by omega]; rfl))]
        unfold f_X3_readAtom_27
        rw [if_neg (six' h6), c_is hz.1, c_is hz.1, if_neg hn27, if_pos hp']
        simp only [Option.bind_some, gzl10, gzl00, gzl62, gzl60, not_true_eq_false, not_false_eq_true, if_true, if_false]
        unfold f_X3_readAtom_59
        rw [c_wrong hz.1]
        exact gzOk_no (gzMf_ml (n := 0) (gzMl_mo B3)) B4
    · have hp' : cd j ≠ 2040 := hp
      obtain ⟨B, B1, B2, B3, B4⟩ := m_signN (φ := φ) (J := J') (s := 40) hk hz.2.1 (by decide) (by omega) hp hφ
      have B1' : f_X12_sign φ 40 Im J' = some (0, B, J') := B1
      rw [B1']
      simp only [Option.bind_some, gzl10, gzl00, gzl62, gzl60, not_true_eq_false, not_false_eq_true, if_true, if_false]
      by_cases hw : cd j = 1027
      · obtain ⟨C, C1, C2, C3, C4⟩ := m_passY (φ := φ) (J := J') (a := 42) hk B2 (by omega) (by omega) (by rw [w42]; exact hw) hφ
        rw [C1]
        simp only [Option.bind_some, gzl10, gzl00, gzl62, gzl60, not_true_eq_false, not_false_eq_true, if_true, if_false]
        rw [(C3 0 47 13 (by omega)).trans ((B3 0 47 13 (by omega)).trans h13)]
        by_cases h6 : d < 6
        · rw [if_neg (sev h6), if_pos (fun y => by have := (gzc_eq2 (by omega) (by omega)).1 y; omega), gzn_succ]
          obtain ⟨A, A1, A2, A3, A4⟩ := c_takeY (J := J) hk hz.1 hw (by decide)
          rw [A1]
          simp only [Option.bind_some, gzl10, gzl00, gzl62, gzl60, not_true_eq_false, not_false_eq_true, if_true, if_false]
          rw [gzAq_2 hφ kf (d + 1) A J (by omega) (by omega)]
          obtain ⟨z1, z2⟩ := gzLz_d (d2 := d + 1) (gzLz_mo (gzLz_fk hz A2 A3) C2 (gzMo_trans B3 C3))
          refine gzOk_step (p := 1) (n := n) (j := j + 1) (P := fun L => L) ?_ (gzFl_fk A3) (gzMl_trans (gzMl_mo (gzMo_trans B3 C3)) z2 (Nat.le_refl _)) (Nat.le_refl _) (show j ≤ j + 1 by omega) (by omega) gzSk_nil
          refine gzOk_bind (Kc := fun I J => Option.bind (f_X2_put 1 1027 I J) (fun v69 => some (.ok (), v69.2.1, v69.2.2))) (Km := fun I J => Option.bind (f_X12_emits 15 0 (gz_ui I 0 47 13 ((I 0 47 13) - 1)) J) (fun v16 => some (1, v16.2.1, v16.2.2))) (K := fun L => true :: L) (gzOk_pre (lim2 := 2 * d + 2) (fun L => L) (ih k kf (d + 1) (j + 1) n A _ (by omega) (by omega) (by omega) (by omega) (by omega) z1) (fun L hL => by omega)) (p2 := 1) (fun A' B' j' n' a1 a2 a3 a4 => ?_) (by omega)
          show gzOkq N c bt bg cd A' B' J J' j' n' d 1 (2 * d + 2) (fun L => true :: L) (fun L => true :: L) (Option.bind (f_X2_put 1 1027 A' J) _) (Option.bind (f_X12_emits 15 0 (gz_ui B' 0 47 13 ((B' 0 47 13) - 1)) J') _)
          have h13' : B' 0 47 13 - 1 = Int32.ofNat d := by rw [a4.2.2.2.2.1, gzc_sub (by omega)]; rfl
          rw [h13']
          obtain ⟨y1, y2⟩ := gzLz_d (d2 := d) a4
          have hj' : j' ≤ c := a4.1.1
          refine gzOk_step (p := 1) (n := n') (j := j') (P := fun L => true :: L) ?_ gzFl_refl y2 (Nat.le_refl _) (Nat.le_refl _) (by omega) gzSk_nil
          exact gzOk_emit (Kc := fun I J => some (.ok (), I, J)) (Km := fun I J => some (1, I, J)) (K := fun L => true :: L) y1 (by omega) (Or.inr (Or.inr (Or.inr (Or.inr (Or.inr (Or.inl ⟨rfl, rfl⟩)))))) (fun L hL => ⟨by show (true :: L).length ≤ 24; rw [List.length_cons]; omega, rfl⟩) (fun A B hz2 => gzOk_ok hz2)
        · rw [if_pos (sev' h6), if_neg (fun y => y (by rw [show d = 6 by omega]; rfl))]
          unfold f_X3_readAtom_27
          rw [if_neg (six' h6), c_is hz.1, if_pos hw]
          simp only [Option.bind_some, gzl10, gzl00, gzl62, gzl60, not_true_eq_false, not_false_eq_true, if_true, if_false]
          unfold f_X3_readAtom_59
          rw [c_wrong hz.1]
          exact gzOk_no (gzMf_ml (n := 0) (gzMl_mo (gzMo_trans B3 C3))) C4
      · obtain ⟨C, C1, C2, C3, C4⟩ := m_passN (φ := φ) (J := J') (a := 42) hk B2 (by omega) (by omega) (by rw [w42]; exact hw) hφ
        rw [C1]
        simp only [Option.bind_some, gzl10, gzl00, gzl62, gzl60, not_true_eq_false, not_false_eq_true, if_true, if_false]
        have hres := r_plain (J := J) (J' := J') (lim := 2 * d + 2) (R := fR_X3_readAtom φ 1 k) (R' := fR_X12_readAtom φ km) (x2 := d) hk hφ hd hn (by omega) (gzLz_mo hz C2 (gzMo_trans B3 C3)) hp'
        have hres2 := gzOk_step hres gzFl_refl (gzMl_mo (gzMo_trans B3 C3)) (Nat.le_refl _) (Nat.le_refl _) (show n + j + 0 ≤ j + n + 0 by omega) gzSk_nil
        by_cases h6 : d < 6
        · rw [if_neg (sev h6), c_takeN hz.1 hw]
          simp only [Option.bind_some, gzl10, gzl00, gzl62, gzl60, not_true_eq_false, not_false_eq_true, if_true, if_false]
          unfold f_X3_readAtom_27
          rw [if_pos (six h6)]
          exact hres2
        · rw [if_pos (sev' h6)]
          unfold f_X3_readAtom_27
          rw [if_neg (six' h6), c_is hz.1, c_is hz.1, if_neg hw, if_neg hp']
          simp only [Option.bind_some, gzl10, gzl00, gzl62, gzl60, not_true_eq_false, not_false_eq_true, if_true, if_false]
          exact hres2
theorem r_atom (hk : gzTkq N c bt bg en cd) (hφ : 500 < φ) : ∀ (k d j n : Nat) (Ic Im : gzIT), d ≤ 6 → 7 ≤ k + d → n + 3 ≤ j → gzLz N c bt bg cd Ic Im j j n d → gzOkq N c bt bg cd Ic Im J J' j n d 0 (2 * d + 2) (fun L => L) (fun L => true :: L) (fR_X3_readAtom φ 1 k (Int32.ofNat d) Ic J) (fR_X12_readAtom φ k Im J') := by
  intro k d j n Ic Im hd hkd hn hz
  obtain ⟨q, rfl⟩ : ∃ q, k = q + 1 := ⟨k - 1, by omega⟩
  rw [fR_X3_readAtom]
  exact r_atom2 hk hφ (q + 1) q φ d j n Ic Im hd hkd hkd (by omega) hn hz
end
