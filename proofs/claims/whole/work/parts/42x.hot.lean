/-! hot: larders and store don't matter -/
def gzPt (q : Nat → Nat → Int32) (I : gzIT) : gzIT := fun t o k => if t = 1 ∧ (o = 4 ∨ o = 5 ∨ (o = 0 ∧ k = 8)) then q o k else I t o k
def gzPm {α : Type} (q : Nat → Nat → Int32) (x : Option (α × gzIT × gzJT)) : Option (α × gzIT × gzJT) := x.map (fun r => (r.1, gzPt q r.2.1, r.2.2))
section
variable {α β : Type} {q : Nat → Nat → Int32} {I I' M : gzIT} {J : gzJT} {nf ng φ : Nat}
theorem gzPt_r {t o k : Nat} (h : ¬ (t = 1 ∧ (o = 4 ∨ o = 5 ∨ (o = 0 ∧ k = 8)))) : gzPt q I t o k = I t o k := if_neg h
theorem gzPt_ui {t o k : Nat} {v : Int32} (h : ¬ (t = 1 ∧ (o = 4 ∨ o = 5 ∨ (o = 0 ∧ k = 8)))) : gz_ui (gzPt q I) t o k v = gzPt q (gz_ui I t o k v) := by
  funext t' o' k'
  show (if t' = t ∧ o' = o ∧ k' = k then v else (if t' = 1 ∧ (o' = 4 ∨ o' = 5 ∨ (o' = 0 ∧ k' = 8)) then q o' k' else I t' o' k')) = (if t' = 1 ∧ (o' = 4 ∨ o' = 5 ∨ (o' = 0 ∧ k' = 8)) then q o' k' else (if t' = t ∧ o' = o ∧ k' = k then v else I t' o' k'))
  by_cases e : t' = t ∧ o' = o ∧ k' = k
  · rw [if_pos e, if_neg (by omega), if_pos e]
  · rw [if_neg e, if_neg e]
theorem gzPm_b {x : Option (α × gzIT × gzJT)} {f g : α × gzIT × gzJT → Option (β × gzIT × gzJT)} (h : ∀ a I J, f (a, gzPt q I, J) = gzPm q (g (a, I, J))) : Option.bind (gzPm q x) f = gzPm q (Option.bind x g) := by
  rcases x with _ | ⟨a, I, J⟩
  · rfl
  · exact h a I J
theorem gzPm_0 {x : Option α} {f g : α → Option (β × gzIT × gzJT)} (h : ∀ a, f a = gzPm q (g a)) : Option.bind x f = gzPm q (Option.bind x g) := by
  rcases x with _ | a
  · rfl
  · exact h a
theorem gzPm_i {c : Prop} [Decidable c] {a b a' b' : Option (α × gzIT × gzJT)} (h1 : a = gzPm q a') (h2 : b = gzPm q b') : (if c then a else b) = gzPm q (if c then a' else b') := by
  by_cases h : c
  · rw [if_pos h, if_pos h]; exact h1
  · rw [if_neg h, if_neg h]; exact h2
theorem gzPm_g {i : Int32} {n : Nat} {a a' : Option (α × gzIT × gzJT)} (h : a = gzPm q a') : gzGd i n a = gzPm q (gzGd i n a') := by
  unfold gzGd
  exact gzPm_i rfl h
theorem pt_cell {t o n : Nat} {a : Int32} (h : ¬ (t = 1 ∧ (o = 4 ∨ o = 5 ∨ o = 0))) : f_X11_cell t o n (gzPt q I) a = f_X11_cell t o n I a := by
  unfold f_X11_cell
  rw [gzPt_r (by omega)]
theorem pt_write {t o n : Nat} {a v : Int32} (h : ¬ (t = 1 ∧ (o = 4 ∨ o = 5 ∨ o = 0))) : f_X11_write t o n a v (gzPt q I) J = gzPm q (f_X11_write t o n a v I J) := by
  unfold f_X11_write
  refine gzPm_i rfl (gzPm_i rfl (gzPm_g ?_))
  rw [gzPt_ui (by omega)]
  rfl
theorem pt_heat : f_X8_heatNow 1 (gzPt q I) = f_X8_heatNow 1 I := by
  unfold f_X8_heatNow
  rw [pt_cell (by omega), gzPt_r (by omega)]
theorem pt_frozen {x : Int32} : f_X1_frozen 1 (gzPt q I) x = f_X1_frozen 1 I x := by
  unfold f_X1_frozen
  rw [gzPt_r (by omega), gzPt_r (by omega)]
theorem pt_find {a b : Int32} : ∀ (k : Nat) (x : Int32), f_X1_find_2 φ 1 (gzPt q I) k a b x = f_X1_find_2 φ 1 I k a b x := by
  intro k
  induction k with
  | zero => intro x; rfl
  | succ k ih =>
    intro x
    rw [f_X1_find_2, f_X1_find_2, gzPt_r (by omega), gzPt_r (by omega), gzPt_r (by omega), gzPt_r (by omega), ih]
theorem pt_put {a1 a2 a3 a4 : Int32} : f_X4_put 1 a1 a2 a3 a4 (gzPt q I) J = gzPm q (f_X4_put 1 a1 a2 a3 a4 I J) := by
  unfold f_X4_put
  rw [gzPt_r (by omega), pt_write (by omega)]
  refine gzPm_b fun a I J => ?_
  rw [pt_write (by omega)]
  refine gzPm_b fun a I J => ?_
  rw [pt_write (by omega)]
  refine gzPm_b fun a I J => ?_
  rw [pt_write (by omega)]
  refine gzPm_b fun a I J => ?_
  show some ((), gz_ui (gz_ui (gzPt q I) 1 15 2 (((gzPt q I 1 15 2) + 1) - ((gzPt q I 1 15 2) + 1) / 60 * 60)) 1 15 1 (if (gzPt q I 1 15 1) + 1 < 60 then (gzPt q I 1 15 1) + 1 else 60), J) = _
  rw [gzPt_r (by omega), gzPt_r (by omega), gzPt_ui (by omega), gzPt_ui (by omega)]
  rfl
theorem pt_79 {K : Int32 → Int32 → Int32 → gzIT → gzJT → Option (Int32 × gzIT × gzJT)} (hK : ∀ a b c I J, K a b c (gzPt q I) J = gzPm q (K a b c I J)) {x2 x3 x4 x5 : Int32} : f_X2_holds_79 φ 0 K x2 x3 x4 x5 (gzPt q I) J = gzPm q (f_X2_holds_79 φ 0 K x2 x3 x4 x5 I J) := by
  unfold f_X2_holds_79
  rw [pt_cell (by omega), pt_cell (by omega)]
  refine gzPm_0 fun v17 => gzPm_0 fun v19 => gzPm_0 fun v21 => ?_
  rw [pt_write (by omega)]
  exact gzPm_b fun a I J => hK _ _ _ I J
theorem pt_holds5 : ∀ (k : Nat) (x2 x3 x4 : Int32) (I : gzIT) (J : gzJT), f_X2_holds_5 φ 0 k x2 x3 x4 (gzPt q I) J = gzPm q (f_X2_holds_5 φ 0 k x2 x3 x4 I J) := by
  intro k
  induction k with
  | zero => intro x2 x3 x4 I J; rfl
  | succ k ih =>
    intro x2 x3 x4 I J
    rw [f_X2_holds_5, f_X2_holds_5]
    refine gzPm_i (gzPm_i rfl ?_) ?_
    · rw [pt_cell (by omega)]
      exact gzPm_0 fun v => rfl
    · rw [pt_cell (by omega)]
      refine gzPm_0 fun v5 => gzPm_i (gzPm_i (pt_79 ih) (gzPm_i (pt_79 ih) (gzPm_i (gzPm_i ?_ ?_) (pt_79 ih)))) ?_
      · rw [pt_cell (by omega)]
        refine gzPm_0 fun v7 => ?_
        rw [pt_write (by omega)]
        exact gzPm_b fun a I J => ih _ _ _ I J
      · rw [pt_write (by omega)]
        exact gzPm_b fun a I J => ih _ _ _ I J
      · rw [pt_cell (by omega)]
        refine gzPm_0 fun v13 => ?_
        rw [pt_write (by omega)]
        exact gzPm_b fun a I J => ih _ _ _ I J
theorem pt_sum4 {x1 : Int32} : ∀ (k : Nat) (x2 x3 : Int32) (I : gzIT) (J : gzJT), f_X2_sum_4 φ 0 k x1 x2 x3 (gzPt q I) J = gzPm q (f_X2_sum_4 φ 0 k x1 x2 x3 I J) := by
  intro k
  induction k with
  | zero => intro x2 x3 I J; rfl
  | succ k ih =>
    intro x2 x3 I J
    rw [f_X2_sum_4, f_X2_sum_4, gzPt_r (by omega), gzPt_r (by omega), gzPt_r (by omega), gzPt_r (by omega)]
    refine gzPm_i rfl (gzPm_i rfl (gzPm_g (gzPm_i (ih _ _ I J) ?_)))
    unfold f_X2_holds
    rw [pt_holds5]
    refine gzPm_b fun a I J => gzPm_i (ih _ _ I J) ?_
    show f_X2_sum_4 φ 0 k x1 (x2 + gzPt q I 0 22 x3.toNatClampNeg) (x3 + 1) (gzPt q I) J = _
    rw [gzPt_r (by omega)]
    exact ih _ _ I J
theorem pt_amount {a2 a3 : Int32} : f_X8_amountBy φ 1 0 a2 a3 (gzPt q I) J = gzPm q (f_X8_amountBy φ 1 0 a2 a3 I J) := by
  unfold f_X8_amountBy
  rw [gzPt_r (by omega), gzPt_r (by omega), gzPt_r (by omega), pt_cell (by omega), pt_heat]
  refine gzPm_i (gzPm_i (gzPm_i rfl (gzPm_i rfl (gzPm_i (gzPm_g (gzPm_0 fun v => rfl)) rfl))) ?_) (gzPm_0 fun v8 => gzPm_i (gzPm_i rfl (gzPm_i rfl (gzPm_i (gzPm_g (gzPm_0 fun v => rfl)) rfl))) ?_)
  · unfold f_X2_sum
    rw [pt_sum4]
    exact gzPm_b fun a I J => rfl
  · unfold f_X2_sum
    rw [pt_sum4]
    exact gzPm_b fun a I J => rfl
theorem pt_tell {a2 : Int32} : f_X8_tell φ 1 0 a2 (gzPt q I) J = gzPm q (f_X8_tell φ 1 0 a2 I J) := by
  unfold f_X8_tell
  rw [gzPt_r (by omega), pt_write (by omega)]
  refine gzPm_i rfl (gzPm_i rfl (gzPm_i (gzPm_b fun a I J => gzPm_g ?_) rfl))
  show Option.bind (f_X11_write 0 26 11 1 (gzPt q I 1 11 a2.toNatClampNeg) (gzPt q I) J) _ = _
  rw [gzPt_r (by omega), pt_write (by omega)]
  refine gzPm_b fun a I J => ?_
  show Option.bind (f_X11_write 0 26 11 2 (gzPt q I 1 12 a2.toNatClampNeg) (gzPt q I) J) _ = _
  rw [gzPt_r (by omega), pt_write (by omega)]
  refine gzPm_b fun a I J => ?_
  show Option.bind (f_X11_cell 1 2 6 (gzPt q I) (gzPt q I 1 8 a2.toNatClampNeg)) _ = _
  rw [gzPt_r (by omega), pt_cell (by omega)]
  refine gzPm_0 fun v9 => ?_
  show Option.bind (f_X11_write 0 26 11 3 v9 (gzPt q I) J) _ = _
  rw [pt_write (by omega)]
  refine gzPm_b fun a I J => ?_
  show Option.bind (f_X11_cell 1 17 8 (gzPt q I) (gzPt q I 1 10 a2.toNatClampNeg)) _ = _
  rw [gzPt_r (by omega), pt_cell (by omega)]
  refine gzPm_0 fun v13 => ?_
  show Option.bind (f_X11_write 0 26 11 4 v13 (gzPt q I) J) _ = _
  rw [pt_write (by omega)]
  refine gzPm_b fun a I J => ?_
  show Option.bind (f_X11_cell 1 18 8 (gzPt q I) (gzPt q I 1 10 a2.toNatClampNeg)) _ = _
  rw [gzPt_r (by omega), pt_cell (by omega)]
  refine gzPm_0 fun v17 => ?_
  show Option.bind (f_X11_write 0 26 11 5 v17 (gzPt q I) J) _ = _
  rw [pt_write (by omega)]
  refine gzPm_b fun a I J => ?_
  show Option.bind (f_X8_heatNow 1 (gzPt q I)) _ = _
  rw [pt_heat]
  refine gzPm_0 fun v21 => ?_
  show Option.bind (f_X11_write 0 26 11 6 v21 (gzPt q I) J) _ = _
  rw [pt_write (by omega)]
  refine gzPm_b fun a I J => ?_
  show Option.bind (f_X11_write 0 26 11 7 ((gzPt q I 1 0 7) - (gzPt q I 1 0 7) / 4 * 4) (gzPt q I) J) _ = _
  rw [gzPt_r (by omega), pt_write (by omega)]
  refine gzPm_b fun a I J => ?_
  show Option.bind (f_X11_write 0 26 11 8 (if gzPt q I 1 13 a2.toNatClampNeg = 0 then (0 : Int32) else 1) (gzPt q I) J) _ = _
  rw [gzPt_r (by omega), pt_write (by omega)]
  refine gzPm_b fun a I J => ?_
  show Option.bind (f_X1_find φ 1 (gzPt q I) (gzPt q I 1 9 a2.toNatClampNeg) (gzPt q I 1 8 a2.toNatClampNeg)) _ = _
  unfold f_X1_find
  rw [gzPt_r (by omega), gzPt_r (by omega), pt_find]
  refine gzPm_0 fun v31 => ?_
  show Option.bind (f_X11_write 0 26 11 9 (if v31 = (-1) then (0 : Int32) else 1) (gzPt q I) J) _ = _
  rw [pt_write (by omega)]
  refine gzPm_b fun a I J => ?_
  show Option.bind (f_X11_write 0 26 11 10 (if gzPt q I 1 0 9 = 0 then (0 : Int32) else 1) (gzPt q I) J) _ = _
  rw [gzPt_r (by omega), pt_write (by omega)]
  exact gzPm_b fun a I J => rfl
theorem pt_turnAll4 : ∀ (k : Nat) (x2 x3 : Int32) (I : gzIT) (J : gzJT), f_X8_turnAll_4 φ 1 0 k x2 x3 (gzPt q I) J = gzPm q (f_X8_turnAll_4 φ 1 0 k x2 x3 I J) := by
  intro k
  induction k with
  | zero => intro x2 x3 I J; rfl
  | succ k ih =>
    intro x2 x3 I J
    rw [f_X8_turnAll_4, f_X8_turnAll_4, gzPt_r (by omega), pt_frozen]
    refine gzPm_i rfl (gzPm_0 fun v2 => gzPm_i ?_ (ih _ _ I J))
    rw [pt_tell]
    refine gzPm_b fun a I4 J4 => gzPm_g ?_
    show Option.bind (f_X8_amountBy φ 1 0 1023 x3 (gzPt q I4) J4) _ = _
    rw [pt_amount]
    refine gzPm_b fun v7 I7 J7 => ?_
    show Option.bind (f_X11_write 0 26 11 2 (if (gzPt q I4 1 12 x3.toNatClampNeg) + v7 < 999 then (gzPt q I4 1 12 x3.toNatClampNeg) + v7 else 999) (gz_ui (gzPt q I7) 1 12 x3.toNatClampNeg (if (gzPt q I4 1 12 x3.toNatClampNeg) + v7 < 999 then (gzPt q I4 1 12 x3.toNatClampNeg) + v7 else 999)) J7) _ = _
    rw [gzPt_r (by omega), gzPt_ui (by omega), pt_write (by omega)]
    refine gzPm_b fun a9 I9 J9 => ?_
    show Option.bind (f_X8_amountBy φ 1 0 1024 x3 (gzPt q I9) J9) _ = _
    rw [pt_amount]
    refine gzPm_b fun v11 I11 J11 => ?_
    show Option.bind (f_X8_amountBy φ 1 0 1025 x3 (gzPt q I11) J11) _ = _
    rw [pt_amount]
    refine gzPm_b fun v13 I13 J13 => ?_
    show (if ¬ (if 0 < ((gzPt q I13) 1 12 x3.toNatClampNeg) - (if 0 < v11 - v13 then v11 - v13 else 0) then ((gzPt q I13) 1 12 x3.toNatClampNeg) - (if 0 < v11 - v13 then v11 - v13 else 0) else 0) = 0 then f_X8_turnAll_4 φ 1 0 k x2 (x3 + 1) (gz_ui (gz_ui (gzPt q I13) 1 12 x3.toNatClampNeg (if 0 < ((gzPt q I13) 1 12 x3.toNatClampNeg) - (if 0 < v11 - v13 then v11 - v13 else 0) then ((gzPt q I13) 1 12 x3.toNatClampNeg) - (if 0 < v11 - v13 then v11 - v13 else 0) else 0)) 1 11 x3.toNatClampNeg (if ((gzPt q I13) 1 11 x3.toNatClampNeg) + 1 < 99 then ((gzPt q I13) 1 11 x3.toNatClampNeg) + 1 else 99)) J13 else Option.bind (f_X4_put 1 (gzPt q I13 1 0 7) x3 0 0 (gz_ui (gz_ui (gz_ui (gzPt q I13) 1 12 x3.toNatClampNeg (if 0 < ((gzPt q I13) 1 12 x3.toNatClampNeg) - (if 0 < v11 - v13 then v11 - v13 else 0) then ((gzPt q I13) 1 12 x3.toNatClampNeg) - (if 0 < v11 - v13 then v11 - v13 else 0) else 0)) 1 11 x3.toNatClampNeg (if ((gzPt q I13) 1 11 x3.toNatClampNeg) + 1 < 99 then ((gzPt q I13) 1 11 x3.toNatClampNeg) + 1 else 99)) 1 14 x3.toNatClampNeg 1) J13) (fun v15 => f_X8_turnAll_4 φ 1 0 k (x2 + 1) (x3 + 1) v15.2.1 v15.2.2)) = _
    rw [gzPt_r (show ¬ (1 = 1 ∧ (12 = 4 ∨ 12 = 5 ∨ (12 = 0 ∧ x3.toNatClampNeg = 8))) by omega), gzPt_r (show ¬ (1 = 1 ∧ (11 = 4 ∨ 11 = 5 ∨ (11 = 0 ∧ x3.toNatClampNeg = 8))) by omega), gzPt_r (show ¬ (1 = 1 ∧ (0 = 4 ∨ 0 = 5 ∨ (0 = 0 ∧ 7 = 8))) by omega), gzPt_ui (by omega), gzPt_ui (by omega), gzPt_ui (by omega)]
    refine gzPm_i (ih _ _ _ _) ?_
    rw [pt_put]
    exact gzPm_b fun a I J => ih _ _ I J
theorem pt_turnAll : f_X8_turnAll φ 1 0 (gzPt q I) J = gzPm q (f_X8_turnAll φ 1 0 I J) := pt_turnAll4 φ 0 0 I J
/-- a season without kisses, in its parts -/
theorem c_pass0 {D D1 : gzIT} {x : Int32} (h : f_X8_pass φ 1 0 0 D J = some (x, D1, J)) {y : Int32} {D' : gzIT} (ht : f_X8_turnAll φ 1 0 D J = some (y, D', J)) (h5 : D' 1 1 5 = Int32.ofNat nf) (hn : nf ≤ 6) (hφ : 10 < φ) : x = y ∧ gz_ui (gzPt q D') 1 0 7 (if (gzPt q D' 1 0 7) + 1 < 9999 then (gzPt q D' 1 0 7) + 1 else 9999) = gzPt q D1 := by
  obtain ⟨C, c1, -, c3⟩ := c_eat (J := J) (t := 1) (φ := φ) hn h5 hφ
  unfold f_X8_pass at h
  rw [ht] at h
  simp only [Option.bind_some] at h
  rw [c1] at h
  simp only [Option.bind_some] at h
  unfold f_X8_leak at h
  rcases hh : f_X8_heatNow 1 C with _ | z
  · rw [hh] at h
    cases h
  · rw [hh] at h
    simp only [Option.bind_some] at h
    rw [if_pos (by simp)] at h
    unfold f_X8_tick at h
    simp only [Option.bind_some, Option.some.injEq, Prod.mk.injEq, and_true] at h
    obtain ⟨h1, h2⟩ := h
    refine ⟨h1.symm, ?_⟩
    rw [← h2]
    funext t o k
    have e7 : gzPt q D' 1 0 7 = D' 1 0 7 := gzPt_r (by omega)
    rw [e7]
    by_cases e : t = 1 ∧ o = 0 ∧ k = 7
    · obtain ⟨rfl, rfl, rfl⟩ := e
      refine gz_ui_s.trans ?_
      rw [gzPt_r (by omega)]
      refine Eq.trans ?_ gz_ui_s.symm
      have : ∀ v : Int32, gz_ui C 1 0 8 v 1 0 7 = D' 1 0 7 := fun v => (if_neg (by omega)).trans (c3 1 0 7 (by omega))
      rw [this]
    · refine (if_neg e).trans ?_
      by_cases e2 : t = 1 ∧ (o = 4 ∨ o = 5 ∨ (o = 0 ∧ k = 8))
      · exact (if_pos e2).trans (if_pos e2).symm
      · rw [gzPt_r e2, gzPt_r e2]
        exact ((if_neg e).trans ((if_neg (by omega)).trans (c3 t o k (by omega)))).symm
theorem r_hotL (hφ : 1000 < φ) : ∀ (m n k k' : Nat) (D : gzIT), n + m = 61 → 1 ≤ n → m < k → m + 1 < k' → (∃ M, gzSm D 1 M nf ng) → ∃ (v : Int32) (C' : gzIT), f_X11_hot_13 φ k (Int32.ofNat n) (gzPt q D) J = some (v, C', J) ∧ (∀ t' o k, ¬ (t' = 1 ∧ o < 20) → ¬ (o = 26 ∨ o = 27) → C' t' o k = D t' o k) ∧ ∀ M : gzIT, gzSm D 1 M nf ng → ∃ N : gzIT, (∀ J' : gzJT, f_X12_hot_13 φ k' (-1) (Int32.ofNat n) M J' = some (v, gzBk N 48 0 51 0 364, J')) ∧ (∀ t' o k, ¬ (t' = 0 ∧ o = 48 ∧ k < 364) → ¬ (o = 55) → N t' o k = M t' o k) := by
  intro m
  induction m with
  | zero =>
    intro n k k' D hn hn1 hk hk' hM
    obtain ⟨k, rfl⟩ : ∃ q, k = q + 1 := ⟨k - 1, by omega⟩
    obtain ⟨k', rfl⟩ : ∃ q, k' = q + 1 := ⟨k' - 1, by omega⟩
    refine ⟨-1, gzPt q D, ?_, fun t' o k q1 q2 => gzPt_r (by omega), fun M _ => ⟨M, fun J' => ?_, fun _ _ _ _ _ => rfl⟩⟩
    · rw [f_X11_hot_13, if_pos (by rw [gzc_lt1 (by omega) (by omega)]; omega)]
    · rw [f_X12_hot_13, if_pos (by rw [gzc_lt1 (by omega) (by omega)]; omega), m_bringsBack (by omega)]
      rfl
  | succ m ih =>
    intro n k k' D hn hn1 hk hk' hM
    obtain ⟨k, rfl⟩ : ∃ q, k = q + 1 := ⟨k - 1, by omega⟩
    obtain ⟨k', rfl⟩ : ∃ q, k' = q + 1 := ⟨k' - 1, by omega⟩
    obtain ⟨M0, hM0⟩ := hM
    obtain ⟨⟨nl0, nx0, hT0, hx0⟩, -⟩ := id hM0
    have n3 := hT0.1.1
    have n4 := hT0.1.2.1
    obtain ⟨q1, D', N', hq1, ht, -, S1, X1, -⟩ := r_turnAll (J := J) (φ := φ) (by omega) ng 0 φ D M0 hM0 (by omega) (by omega)
    have ht' : f_X8_turnAll φ 1 0 D J = some (Int32.ofNat q1, D', J) := by
      unfold f_X8_turnAll
      refine (ht 0).trans ?_
      rw [Int32.zero_add]
    have h5 : D' 1 1 5 = Int32.ofNat nf := by
      obtain ⟨⟨nl1, nx1, hT1, -⟩, -⟩ := S1
      exact hT1.1.2.2.1
    -- the model's season, from any world that fits
    have step : ∀ M : gzIT, gzSm D 1 M nf ng → ∃ (D1 N1 : gzIT), (∀ J' : gzJT, f_X12_hot_13 φ (k' + 1) (-1) (Int32.ofNat n) M J' = f_X12_hot_13 φ k' (if Int32.ofNat q1 ≤ 0 then (-1 : Int32) else Int32.ofNat n) (Int32.ofNat (n + 1)) N1 J') ∧ gzSm D1 1 N1 nf ng ∧ gzSx 1 D D1 M N1 ∧ f_X8_pass φ 1 0 0 D J = some (Int32.ofNat q1, D1, J) ∧ gz_ui (gzPt q D') 1 0 7 (if (gzPt q D' 1 0 7) + 1 < 9999 then (gzPt q D' 1 0 7) + 1 else 9999) = gzPt q D1 := fun M hM => by
      obtain ⟨q2, D1, N1, hq2, hc, hm, S2, X2, -⟩ := r_season (J := J) (φ := φ) (dr := 0) (Or.inl rfl) hM (by omega)
      obtain ⟨e1, e2⟩ := c_pass0 (q := q) hc ht' h5 n3 (by omega)
      have hm' : ∀ J' : gzJT, f_X12_oneSeason φ 1 M J' = some (Int32.ofNat q1, N1, J') := fun J' => by rw [← e1]; exact hm J'
      refine ⟨D1, N1, fun J' => ?_, S2, X2, by rw [← e1]; exact hc, e2⟩
      rw [f_X12_hot_13, if_neg (by rw [gzc_lt1 (by omega) (by omega)]; omega), if_neg (by simp), hm' J', gzn_succ]
      rfl
    by_cases z : q1 = 0
    · obtain ⟨D1, N0, -, S2, X2, hp, e2⟩ := step M0 hM0
      obtain ⟨v, C', i1, i2, i3⟩ := ih (n + 1) k k' D1 (by omega) (by omega) (by omega) (by omega) ⟨N0, S2⟩
      refine ⟨v, C', ?_, fun t' o k q1 q2 => (i2 t' o k q1 q2).trans (X2.1 t' o k q1 q2), fun M hM => ?_⟩
      · rw [f_X11_hot_13, if_neg (by rw [gzc_lt1 (by omega) (by omega)]; omega), pt_turnAll, ht']
        show (if Int32.ofNat q1 ≤ 0 then Option.bind (f_X8_tick 1 (gzPt q D') J) (fun v6 => f_X11_hot_13 φ k (Int32.ofNat n + 1) v6.2.1 v6.2.2) else some (Int32.ofNat n, gzPt q D', J)) = _
        rw [if_pos (by rw [z]; decide), gzn_succ]
        unfold f_X8_tick
        rw [e2]
        exact i1
      · obtain ⟨D2, N1, s1, s2, s3, s4, -⟩ := step M hM
        have eD : D2 = D1 := by
          have e := s4.symm.trans hp
          simp only [Option.some.injEq, Prod.mk.injEq, and_true, true_and] at e
          exact e
        subst eD
        obtain ⟨N, j1, j2⟩ := i3 N1 s2
        refine ⟨N, fun J' => ?_, fun t' o k q1 q2 => (j2 t' o k q1 q2).trans (s3.2.1 t' o k q1 q2)⟩
        rw [s1 J', if_pos (by rw [z]; decide)]
        exact j1 J'
    · have hz : ¬ Int32.ofNat q1 ≤ 0 := by rw [gzc_le2 (by omega) (by omega)]; omega
      refine ⟨Int32.ofNat n, gzPt q D', ?_, fun t' o k q1 q2 => (gzPt_r (by omega)).trans (X1.1 t' o k q1 q2), fun M hM => ?_⟩
      · rw [f_X11_hot_13, if_neg (by rw [gzc_lt1 (by omega) (by omega)]; omega), pt_turnAll, ht']
        show (if Int32.ofNat q1 ≤ 0 then Option.bind (f_X8_tick 1 (gzPt q D') J) (fun v6 => f_X11_hot_13 φ k (Int32.ofNat n + 1) v6.2.1 v6.2.2) else some (Int32.ofNat n, gzPt q D', J)) = _
        rw [if_neg hz]
      · obtain ⟨D2, N1, s1, s2, s3, s4, -⟩ := step M hM
        obtain ⟨k2, rfl⟩ : ∃ q, k' = q + 1 := ⟨k' - 1, by omega⟩
        refine ⟨N1, fun J' => ?_, s3.2.1⟩
        rw [s1 J', if_neg hz, f_X12_hot_13]
        by_cases y : n + 1 ≤ 60
        · rw [if_neg (by rw [gzc_lt1 (by omega) (by omega)]; omega), if_pos (fun q => (gzc_m1 (by omega)).mp q), m_bringsBack (by omega)]
          rfl
        · rw [if_pos (by rw [gzc_lt1 (by omega) (by omega)]; omega), m_bringsBack (by omega)]
          rfl
theorem L_hot (h : gzR I I) : ∃ v I1 I2 J2, f_X11_hot 4096 I J = some (v, I1, J) ∧ f_X12_hot 4096 I1 J = some (v, I2, J2) ∧ gzR I2 I2 := by
  obtain ⟨φ, hφ⟩ : ∃ φ, φ = 4096 := ⟨_, rfl⟩
  rw [← hφ]
  obtain ⟨C0, nf, ng, hcp, S0, SI, n3, n4, c0, c20, -⟩ := r_copy (J := J) (φ := φ) h (by omega)
  have e0 : gzPt (fun o k => C0 1 o k) C0 = C0 := by
    funext t o k
    unfold gzPt
    by_cases e : t = 1 ∧ (o = 4 ∨ o = 5 ∨ (o = 0 ∧ k = 8))
    · rw [if_pos e, e.1]
    · rw [if_neg e]
  obtain ⟨v, C, hc, hC, hmod⟩ := r_hotL (J := J) (φ := φ) (nf := nf) (ng := ng) (q := fun o k => C0 1 o k) (by omega) 60 1 φ φ C0 (by omega) (by omega) (by omega) (by omega) ⟨I, S0⟩
  rw [e0] at hc
  have c48 : ∀ k, C 0 48 k = I 0 48 k := fun k => (hC 0 48 k (by omega) (by omega)).trans (c20 0 48 k (by omega))
  have x48 : ∀ k, k < 1213 → gzBk (gz_ui C 0 47 0 0) 51 0 48 0 364 0 48 k = I 0 48 k := fun k _ => by
    rw [gzBk_n (by omega)]
    exact (if_neg (by omega)).trans (c48 k)
  obtain ⟨N, hm, hN⟩ := hmod (gzBk (gz_ui C 0 47 0 0) 51 0 48 0 364) (gzSm_congr S0 (fun _ _ _ _ => rfl) (fun _ _ _ _ => rfl) x48)
  have hfin := gzR_ahead (C := C) h c0 c20 hC hN
  refine ⟨v, C, gzBk N 48 0 51 0 364, J, ?_, ?_, hfin.1⟩
  · unfold f_X11_hot
    rw [hcp]
    simp only [Option.bind_some]
    exact hc
  · unfold f_X12_hot
    rw [m_keepsAll (by omega)]
    simp only [Option.bind_some]
    exact hm J
end
