/-! the methods of the model as functions; by wip/whole/mk_fun.py -/
/-! X12_thrown: thrown -/
def f_X12_thrown (I : gzIT) : Option Int32 := some (I 0 47 0)
set_option maxRecDepth 20000 in
theorem c_X12_thrown {g : gzG} {d : Nat} {I : gzIT} {J : gzJT} {r : Int32} (h : f_X12_thrown I = some r) : gzC g 0 d mX12_thrown [.inr (.inr (0, 47))] (gzN, gzR0, I, J) (gzE (.ok (some (.inl r))) (gzN, gzR0, I, J)) := by
  unfold f_X12_thrown at h
  refine gzC_of (by decide +kernel) (Nat.le_of_ble_eq_true rfl) (loc := [some (.inr (.inr (0, 47)))]) rfl ?_
  have z_0_47 : gzOk 0 47 gzN := gzOk_of (by decide)
  refine gz_aload_n (pc := 0) dX12_thrown_0 rfl ?_
  refine gi_X12_3 (pc := 1) dX12_thrown_1 (v := I 0 47 0) z_0_47 rfl rfl ?_
  cases h; exact gz_iret (pc := 4) dX12_thrown_4 rfl ⟨rfl, rfl⟩
/-! X12_throwsIf: throwsIf -/
def f_X12_throwsIf (a1 : Int32) (a2 : Int32) (I : gzIT) (J : gzJT) : Option (Int32 × gzIT × gzJT) := if a1 = 0 then (gzGz a1 (some (a1, I, J))) else (gzGz a1 (some (a1, gz_ui I 0 47 0 a2, J)))
set_option maxRecDepth 20000 in
theorem c_X12_throwsIf {g : gzG} {d : Nat} {a1 : Int32} {a2 : Int32} {I : gzIT} {J : gzJT} {r : Int32 × gzIT × gzJT} (h : f_X12_throwsIf a1 a2 I J = some r) : gzC g 0 d mX12_throwsIf [.inr (.inr (0, 47)), .inl a1, .inl a2] (gzN, gzR0, I, J) (gzE (.ok (some (.inl r.1))) (gzN, gzR0, r.2.1, r.2.2)) := by
  unfold f_X12_throwsIf at h
  refine gzC_of (by decide +kernel) (Nat.le_of_ble_eq_true rfl) (loc := [some (.inr (.inr (0, 47))), some (.inl a1), some (.inl a2)]) rfl ?_
  have z_0_47 : gzOk 0 47 gzN := gzOk_of (by decide)
  refine gz_iload_n (pc := 0) dX12_throwsIf_0 rfl ?_
  refine gz_if_eq (pc := 1) (tgt := 9) dX12_throwsIf_1 (by decide) (fun c => ?_) (fun c => ?_)
  · replace h := gz_ifp c h
    refine gz_iload_n (pc := 9) dX12_throwsIf_9 rfl ?_
    obtain ⟨b1, h⟩ := gz_gz h
    cases h; exact gz_zret (pc := 10) dX12_throwsIf_10 rfl b1 ⟨rfl, rfl⟩
  · replace h := gz_ifn c h
    refine gz_aload_n (pc := 4) dX12_throwsIf_4 rfl ?_
    refine gz_iload_n (pc := 5) dX12_throwsIf_5 rfl ?_
    refine gp_X12_3 (pc := 6) dX12_throwsIf_6 z_0_47 rfl ?_
    refine gz_iload_n (pc := 9) dX12_throwsIf_9 rfl ?_
    obtain ⟨b2, h⟩ := gz_gz h
    cases h; exact gz_zret (pc := 10) dX12_throwsIf_10 rfl b2 ⟨rfl, rfl⟩
/-! X12_in: in -/
def f_X12_in (a1 : Int32) (a2 : Int32) (a3 : Int32) : Option Int32 := if a1 < a2 then (some 0) else (if a3 < a1 then (some 0) else (some 1))
set_option maxRecDepth 20000 in
theorem c_X12_in {g : gzG} {d : Nat} {a1 : Int32} {a2 : Int32} {a3 : Int32} {I : gzIT} {J : gzJT} {r : Int32} (h : f_X12_in a1 a2 a3 = some r) : gzC g 0 d mX12_in [.inl a1, .inl a2, .inl a3] (gzN, gzR0, I, J) (gzE (.ok (some (.inl r))) (gzN, gzR0, I, J)) := by
  unfold f_X12_in at h
  refine gzC_of (by decide +kernel) (Nat.le_of_ble_eq_true rfl) (loc := [some (.inl a1), some (.inl a2), some (.inl a3)]) rfl ?_
  refine gz_iload_n (pc := 0) dX12_in_0 rfl ?_
  refine gz_iload_n (pc := 1) dX12_in_1 rfl ?_
  refine gz_ic_lt (pc := 2) (tgt := 14) dX12_in_2 (by decide) (fun c => ?_) (fun c => ?_)
  · replace h := gz_ifp c h
    refine gz_iconst (pc := 14) dX12_in_14 (v := 0) (by decide) ?_
    cases h; exact gz_zret (pc := 15) dX12_in_15 rfl (by decide) ⟨rfl, rfl⟩
  · replace h := gz_ifn c h
    refine gz_iload_n (pc := 5) dX12_in_5 rfl ?_
    refine gz_iload_n (pc := 6) dX12_in_6 rfl ?_
    refine gz_ic_gt (pc := 7) (tgt := 14) dX12_in_7 (by decide) (fun c => ?_) (fun c => ?_)
    · replace h := gz_ifp c h
      refine gz_iconst (pc := 14) dX12_in_14 (v := 0) (by decide) ?_
      cases h; exact gz_zret (pc := 15) dX12_in_15 rfl (by decide) ⟨rfl, rfl⟩
    · replace h := gz_ifn c h
      refine gz_iconst (pc := 10) dX12_in_10 (v := 1) (by decide) ?_
      refine gz_goto (pc := 11) (tgt := 15) dX12_in_11 (by decide) ?_
      cases h; exact gz_zret (pc := 15) dX12_in_15 rfl (by decide) ⟨rfl, rfl⟩
/-! X12_has: has -/
def f_X12_has (a1 : Int32) (a2 : Int32) : Option Int32 := some (if ¬ (a1 >>> (a2 &&& 31)) &&& 1 = 1 then (0 : Int32) else 1)
set_option maxRecDepth 20000 in
theorem c_X12_has {g : gzG} {d : Nat} {a1 : Int32} {a2 : Int32} {I : gzIT} {J : gzJT} {r : Int32} (h : f_X12_has a1 a2 = some r) : gzC g 0 d mX12_has [.inl a1, .inl a2] (gzN, gzR0, I, J) (gzE (.ok (some (.inl r))) (gzN, gzR0, I, J)) := by
  unfold f_X12_has at h
  refine gzC_of (by decide +kernel) (Nat.le_of_ble_eq_true rfl) (loc := [some (.inl a1), some (.inl a2)]) rfl ?_
  refine gz_iload_n (pc := 0) dX12_has_0 rfl ?_
  refine gz_iload_n (pc := 1) dX12_has_1 rfl ?_
  refine gz_ishr (pc := 2) dX12_has_2  ?_
  refine gz_iconst (pc := 3) dX12_has_3 (v := 1) (by decide) ?_
  refine gz_iand (pc := 4) dX12_has_4  ?_
  refine gz_iconst (pc := 5) dX12_has_5 (v := 1) (by decide) ?_
  have kj1 : gzX g 0 d mX12_has 14 [some (.inl a1), some (.inl a2)] ([.inl (if ¬ (a1 >>> (a2 &&& 31)) &&& 1 = 1 then (0 : Int32) else 1)]) (gzN, gzR0, I, J) 0 (gzE (.ok (some (.inl r))) (gzN, gzR0, I, J)) := by
    cases h; exact gz_zret (pc := 14) dX12_has_14 rfl (by first | exact gz_ite01 | exact gz_ite10) ⟨rfl, rfl⟩
  refine gz_ic_ne (pc := 6) (tgt := 13) dX12_has_6 (by decide) (fun c => ?_) (fun c => ?_)
  · rw [if_pos c] at kj1
    refine gz_iconst (pc := 13) dX12_has_13 (v := 0) (by decide) ?_
    exact kj1
  · rw [if_neg (show ¬ (¬ (a1 >>> (a2 &&& 31)) &&& 1 = 1) from fun q => q c)] at kj1
    refine gz_iconst (pc := 9) dX12_has_9 (v := 1) (by decide) ?_
    refine gz_goto (pc := 10) (tgt := 14) dX12_has_10 (by decide) ?_
    exact kj1
/-! X12_image: image -/
def gP_X12_image_7 (g : gzG) (d : Nat) (r : Unit × gzIT × gzJT) (x1 : Int32) (I : gzIT) (J : gzJT) : Prop := gzX g 0 d mX12_image 7 [some (.inr (.inr (0, 47))), some (.inl x1)] [] (gzN, gzR0, I, J) 0 (gzE (.ok none) (gzN, gzR0, r.2.1, r.2.2))
def f_X12_image_7 (φ : Nat) : Nat → Int32 → gzIT → gzJT → Option (Unit × gzIT × gzJT)
  | 0, _, _, _ => none
  | k + 1, x1, I, J => if 1213 ≤ x1 then (some ((), gz_ui I 0 47 6 1, J)) else (gzGd (x1) 2062 (gzGd (x1) 1213 (f_X12_image_7 φ k (x1 + 1) (gz_ui I 0 49 x1.toNatClampNeg (I 0 48 x1.toNatClampNeg)) J)))
set_option maxRecDepth 20000 in
theorem p_X12_image_7 {g : gzG} {d φ : Nat} {r : Unit × gzIT × gzJT} : ∀ (k : Nat) (x1 : Int32) (I : gzIT) (J : gzJT), f_X12_image_7 φ k x1 I J = some r → gP_X12_image_7 g d r x1 I J := by
  intro k; induction k with
  | zero => intro x1 I J h; cases h
  | succ k ih =>
    intro x1 I J h
    unfold f_X12_image_7 at h
    unfold gP_X12_image_7
    have z_0_47 : gzOk 0 47 gzN := gzOk_of (by decide)
    have z_0_48 : gzOk 0 48 gzN := gzOk_of (by decide)
    have z_0_49 : gzOk 0 49 gzN := gzOk_of (by decide)
    refine gz_iload_n (pc := 7) dX12_image_7 rfl ?_
    refine gz_sipush (pc := 8) dX12_image_8 (v := 1213) (by decide) ?_
    refine gz_ic_ge (pc := 11) (tgt := 32) dX12_image_11 (by decide) (fun c => ?_) (fun c => ?_)
    · replace h := gz_ifp c h
      refine gz_aload_n (pc := 32) dX12_image_32 rfl ?_
      refine gz_iconst (pc := 33) dX12_image_33 (v := 1) (by decide) ?_
      refine gp_X12_52 (pc := 34) dX12_image_34 z_0_47 (by decide) rfl ?_
      cases h; exact gz_vret (pc := 37) dX12_image_37 rfl ⟨rfl, rfl⟩
    · replace h := gz_ifn c h
      refine gz_aload_n (pc := 14) dX12_image_14 rfl ?_
      refine gr_X12_17 (pc := 15) dX12_image_15 z_0_47 rfl ?_
      refine gz_iload_n (pc := 18) dX12_image_18 rfl ?_
      refine gz_aload_n (pc := 19) dX12_image_19 rfl ?_
      refine gr_X12_13 (pc := 20) dX12_image_20 z_0_47 rfl ?_
      refine gz_iload_n (pc := 23) dX12_image_23 rfl ?_
      obtain ⟨b1, h⟩ := gz_gd h
      refine gz_iald2 (pc := 24) dX12_image_24 (k := x1.toNatClampNeg) (v := I 0 48 x1.toNatClampNeg) z_0_48 rfl b1 rfl rfl ?_
      obtain ⟨b2, h⟩ := gz_gd h
      refine gz_iast2 (pc := 25) dX12_image_25 (k := x1.toNatClampNeg) z_0_49 rfl b2 rfl ?_
      refine gz_iinc (pc := 26) dX12_image_26 (x := x1) (v := x1 + 1) rfl (by rw [show Int32.ofInt 1 = 1 by decide]) (by decide) rfl (loc2 := [some (.inr (.inr (0, 47))), some (.inl (x1 + 1))]) rfl ?_
      refine gz_goto (pc := 29) (tgt := 7) dX12_image_29 (by decide) ?_
      exact ih (x1 + 1) (gz_ui I 0 49 x1.toNatClampNeg (I 0 48 x1.toNatClampNeg)) J h
def f_X12_image (φ : Nat) (I : gzIT) (J : gzJT) : Option (Unit × gzIT × gzJT) := f_X12_image_7 φ φ 0 (gz_ui I 0 47 0 0) J
set_option maxRecDepth 20000 in
theorem c_X12_image {g : gzG} {d φ : Nat} {I : gzIT} {J : gzJT} {r : Unit × gzIT × gzJT} (h : f_X12_image φ I J = some r) : gzC g 0 d mX12_image [.inr (.inr (0, 47))] (gzN, gzR0, I, J) (gzE (.ok none) (gzN, gzR0, r.2.1, r.2.2)) := by
  unfold f_X12_image at h
  refine gzC_of (by decide +kernel) (Nat.le_of_ble_eq_true rfl) (loc := [some (.inr (.inr (0, 47))), none]) rfl ?_
  have z_0_47 : gzOk 0 47 gzN := gzOk_of (by decide)
  refine gz_aload_n (pc := 0) dX12_image_0 rfl ?_
  refine gz_iconst (pc := 1) dX12_image_1 (v := 0) (by decide) ?_
  refine gp_X12_3 (pc := 2) dX12_image_2 z_0_47 rfl ?_
  refine gz_iconst (pc := 5) dX12_image_5 (v := 0) (by decide) ?_
  refine gz_istore_n (pc := 6) dX12_image_6 (by decide) rfl (loc2 := [some (.inr (.inr (0, 47))), some (.inl 0)]) rfl ?_
  exact p_X12_image_7 φ 0 (gz_ui I 0 47 0 0) J h
/-! X12_back: back -/
def gP_X12_back_16 (g : gzG) (d : Nat) (r : Int32 × gzIT × gzJT) (x1 : Int32) (I : gzIT) (J : gzJT) : Prop := gzX g 0 d mX12_back 16 [some (.inr (.inr (0, 47))), some (.inl x1)] [] (gzN, gzR0, I, J) 0 (gzE (.ok (some (.inl r.1))) (gzN, gzR0, r.2.1, r.2.2))
def f_X12_back_16 (φ : Nat) : Nat → Int32 → gzIT → gzJT → Option (Int32 × gzIT × gzJT)
  | 0, _, _, _ => none
  | k + 1, x1, I, J => if 1213 ≤ x1 then (some (1, gz_ui I 0 47 7 0, J)) else (gzGd (x1) 1213 (gzGd (x1) 2062 (f_X12_back_16 φ k (x1 + 1) (gz_ui I 0 48 x1.toNatClampNeg (I 0 49 x1.toNatClampNeg)) J)))
set_option maxRecDepth 20000 in
theorem p_X12_back_16 {g : gzG} {d φ : Nat} {r : Int32 × gzIT × gzJT} : ∀ (k : Nat) (x1 : Int32) (I : gzIT) (J : gzJT), f_X12_back_16 φ k x1 I J = some r → gP_X12_back_16 g d r x1 I J := by
  intro k; induction k with
  | zero => intro x1 I J h; cases h
  | succ k ih =>
    intro x1 I J h
    unfold f_X12_back_16 at h
    unfold gP_X12_back_16
    have z_0_47 : gzOk 0 47 gzN := gzOk_of (by decide)
    have z_0_49 : gzOk 0 49 gzN := gzOk_of (by decide)
    have z_0_48 : gzOk 0 48 gzN := gzOk_of (by decide)
    refine gz_iload_n (pc := 16) dX12_back_16 rfl ?_
    refine gz_sipush (pc := 17) dX12_back_17 (v := 1213) (by decide) ?_
    refine gz_ic_ge (pc := 20) (tgt := 41) dX12_back_20 (by decide) (fun c => ?_) (fun c => ?_)
    · replace h := gz_ifp c h
      refine gz_aload_n (pc := 41) dX12_back_41 rfl ?_
      refine gz_iconst (pc := 42) dX12_back_42 (v := 0) (by decide) ?_
      refine gp_X12_56 (pc := 43) dX12_back_43 z_0_47 rfl ?_
      refine gz_iconst (pc := 46) dX12_back_46 (v := 1) (by decide) ?_
      cases h; exact gz_zret (pc := 47) dX12_back_47 rfl (by decide) ⟨rfl, rfl⟩
    · replace h := gz_ifn c h
      refine gz_aload_n (pc := 23) dX12_back_23 rfl ?_
      refine gr_X12_13 (pc := 24) dX12_back_24 z_0_47 rfl ?_
      refine gz_iload_n (pc := 27) dX12_back_27 rfl ?_
      refine gz_aload_n (pc := 28) dX12_back_28 rfl ?_
      refine gr_X12_17 (pc := 29) dX12_back_29 z_0_47 rfl ?_
      refine gz_iload_n (pc := 32) dX12_back_32 rfl ?_
      obtain ⟨b1, h⟩ := gz_gd h
      refine gz_iald2 (pc := 33) dX12_back_33 (k := x1.toNatClampNeg) (v := I 0 49 x1.toNatClampNeg) z_0_49 rfl b1 rfl rfl ?_
      obtain ⟨b2, h⟩ := gz_gd h
      refine gz_iast2 (pc := 34) dX12_back_34 (k := x1.toNatClampNeg) z_0_48 rfl b2 rfl ?_
      refine gz_iinc (pc := 35) dX12_back_35 (x := x1) (v := x1 + 1) rfl (by rw [show Int32.ofInt 1 = 1 by decide]) (by decide) rfl (loc2 := [some (.inr (.inr (0, 47))), some (.inl (x1 + 1))]) rfl ?_
      refine gz_goto (pc := 38) (tgt := 16) dX12_back_38 (by decide) ?_
      exact ih (x1 + 1) (gz_ui I 0 48 x1.toNatClampNeg (I 0 49 x1.toNatClampNeg)) J h
def f_X12_back (φ : Nat) (I : gzIT) (J : gzJT) : Option (Int32 × gzIT × gzJT) := if ¬ I 0 47 6 = 0 then (f_X12_back_16 φ φ 0 (gz_ui I 0 47 0 0) J) else (some (0, gz_ui I 0 47 0 0, J))
set_option maxRecDepth 20000 in
theorem c_X12_back {g : gzG} {d φ : Nat} {I : gzIT} {J : gzJT} {r : Int32 × gzIT × gzJT} (h : f_X12_back φ I J = some r) : gzC g 0 d mX12_back [.inr (.inr (0, 47))] (gzN, gzR0, I, J) (gzE (.ok (some (.inl r.1))) (gzN, gzR0, r.2.1, r.2.2)) := by
  unfold f_X12_back at h
  refine gzC_of (by decide +kernel) (Nat.le_of_ble_eq_true rfl) (loc := [some (.inr (.inr (0, 47))), none]) rfl ?_
  have z_0_47 : gzOk 0 47 gzN := gzOk_of (by decide)
  refine gz_aload_n (pc := 0) dX12_back_0 rfl ?_
  refine gz_iconst (pc := 1) dX12_back_1 (v := 0) (by decide) ?_
  refine gp_X12_3 (pc := 2) dX12_back_2 z_0_47 rfl ?_
  refine gz_aload_n (pc := 5) dX12_back_5 rfl ?_
  refine gi_X12_52 (pc := 6) dX12_back_6 (v := I 0 47 6) z_0_47 (gz_ui_k (by decide)) rfl ?_
  refine gz_if_ne (pc := 9) (tgt := 14) dX12_back_9 (by decide) (fun c => ?_) (fun c => ?_)
  · replace h := gz_ifp c h
    refine gz_iconst (pc := 14) dX12_back_14 (v := 0) (by decide) ?_
    refine gz_istore_n (pc := 15) dX12_back_15 (by decide) rfl (loc2 := [some (.inr (.inr (0, 47))), some (.inl 0)]) rfl ?_
    exact p_X12_back_16 φ 0 (gz_ui I 0 47 0 0) J h
  · replace h := gz_ifn (fun q => q c) h
    refine gz_iconst (pc := 12) dX12_back_12 (v := 0) (by decide) ?_
    cases h; exact gz_zret (pc := 13) dX12_back_13 rfl (by decide) ⟨rfl, rfl⟩
/-! X12_remembers: remembers -/
def gP_X12_remembers_55 (g : gzG) (d : Nat) (r : Unit × gzIT × gzJT) (x1 : Int32) (I : gzIT) (J : gzJT) : Prop := gzX g 0 d mX12_remembers 55 [some (.inr (.inr (0, 47))), some (.inl x1)] [] (gzN, gzR0, I, J) 0 (gzE (.ok none) (gzN, gzR0, r.2.1, r.2.2))
def gP_X12_remembers_11 (g : gzG) (d : Nat) (r : Unit × gzIT × gzJT) (x1 : Int32) (I : gzIT) (J : gzJT) : Prop := gzX g 0 d mX12_remembers 11 [some (.inr (.inr (0, 47))), some (.inl x1)] [] (gzN, gzR0, I, J) 0 (gzE (.ok none) (gzN, gzR0, r.2.1, r.2.2))
def f_X12_remembers_55 (φ : Nat) : Nat → Int32 → gzIT → gzJT → Option (Unit × gzIT × gzJT)
  | 0, _, _, _ => none
  | k + 1, x1, I, J => if 364 ≤ x1 then (some ((), I, J)) else (gzGd (x1) 2062 (gzGd ((364 * ((I 0 47 7) - 1)) + x1) 4368 (f_X12_remembers_55 φ k (x1 + 1) (gz_ui I 0 52 (((364 * ((I 0 47 7) - 1)) + x1).toNatClampNeg) (I 0 48 x1.toNatClampNeg)) J)))
set_option maxRecDepth 20000 in
theorem p_X12_remembers_55 {g : gzG} {d φ : Nat} {r : Unit × gzIT × gzJT} : ∀ (k : Nat) (x1 : Int32) (I : gzIT) (J : gzJT), f_X12_remembers_55 φ k x1 I J = some r → gP_X12_remembers_55 g d r x1 I J := by
  intro k; induction k with
  | zero => intro x1 I J h; cases h
  | succ k ih =>
    intro x1 I J h
    unfold f_X12_remembers_55 at h
    unfold gP_X12_remembers_55
    have z_0_47 : gzOk 0 47 gzN := gzOk_of (by decide)
    have z_0_48 : gzOk 0 48 gzN := gzOk_of (by decide)
    have z_0_52 : gzOk 0 52 gzN := gzOk_of (by decide)
    refine gz_iload_n (pc := 55) dX12_remembers_55 rfl ?_
    refine gz_sipush (pc := 56) dX12_remembers_56 (v := 364) (by decide) ?_
    refine gz_ic_ge (pc := 59) (tgt := 91) dX12_remembers_59 (by decide) (fun c => ?_) (fun c => ?_)
    · replace h := gz_ifp c h
      cases h; exact gz_vret (pc := 91) dX12_remembers_91 rfl ⟨rfl, rfl⟩
    · replace h := gz_ifn c h
      refine gz_aload_n (pc := 62) dX12_remembers_62 rfl ?_
      refine gr_X12_26 (pc := 63) dX12_remembers_63 z_0_47 rfl ?_
      refine gz_sipush (pc := 66) dX12_remembers_66 (v := 364) (by decide) ?_
      refine gz_aload_n (pc := 69) dX12_remembers_69 rfl ?_
      refine gi_X12_56 (pc := 70) dX12_remembers_70 (v := I 0 47 7) z_0_47 rfl rfl ?_
      refine gz_iconst (pc := 73) dX12_remembers_73 (v := 1) (by decide) ?_
      refine gz_isub (pc := 74) dX12_remembers_74  ?_
      refine gz_imul (pc := 75) dX12_remembers_75  ?_
      refine gz_iload_n (pc := 76) dX12_remembers_76 rfl ?_
      refine gz_iadd (pc := 77) dX12_remembers_77  ?_
      refine gz_aload_n (pc := 78) dX12_remembers_78 rfl ?_
      refine gr_X12_13 (pc := 79) dX12_remembers_79 z_0_47 rfl ?_
      refine gz_iload_n (pc := 82) dX12_remembers_82 rfl ?_
      obtain ⟨b1, h⟩ := gz_gd h
      refine gz_iald2 (pc := 83) dX12_remembers_83 (k := x1.toNatClampNeg) (v := I 0 48 x1.toNatClampNeg) z_0_48 rfl b1 rfl rfl ?_
      obtain ⟨b2, h⟩ := gz_gd h
      refine gz_iast2 (pc := 84) dX12_remembers_84 (k := ((364 * ((I 0 47 7) - 1)) + x1).toNatClampNeg) z_0_52 rfl b2 rfl ?_
      refine gz_iinc (pc := 85) dX12_remembers_85 (x := x1) (v := x1 + 1) rfl (by rw [show Int32.ofInt 1 = 1 by decide]) (by decide) rfl (loc2 := [some (.inr (.inr (0, 47))), some (.inl (x1 + 1))]) rfl ?_
      refine gz_goto (pc := 88) (tgt := 55) dX12_remembers_88 (by decide) ?_
      exact ih (x1 + 1) (gz_ui I 0 52 (((364 * ((I 0 47 7) - 1)) + x1).toNatClampNeg) (I 0 48 x1.toNatClampNeg)) J h
def f_X12_remembers_11 (φ : Nat) : Nat → Int32 → gzIT → gzJT → Option (Unit × gzIT × gzJT)
  | 0, _, _, _ => none
  | k + 1, x1, I, J => if 4004 ≤ x1 then (f_X12_remembers_55 φ φ 0 I J) else (gzGd (x1 + 364) 4368 (gzGd (x1) 4368 (f_X12_remembers_11 φ k (x1 + 1) (gz_ui I 0 52 x1.toNatClampNeg (I 0 52 ((x1 + 364).toNatClampNeg))) J)))
set_option maxRecDepth 20000 in
theorem p_X12_remembers_11 {g : gzG} {d φ : Nat} {r : Unit × gzIT × gzJT} : ∀ (k : Nat) (x1 : Int32) (I : gzIT) (J : gzJT), f_X12_remembers_11 φ k x1 I J = some r → gP_X12_remembers_11 g d r x1 I J := by
  intro k; induction k with
  | zero => intro x1 I J h; cases h
  | succ k ih =>
    intro x1 I J h
    unfold f_X12_remembers_11 at h
    unfold gP_X12_remembers_11
    have z_0_47 : gzOk 0 47 gzN := gzOk_of (by decide)
    have z_0_52 : gzOk 0 52 gzN := gzOk_of (by decide)
    refine gz_iload_n (pc := 11) dX12_remembers_11 rfl ?_
    refine gz_sipush (pc := 12) dX12_remembers_12 (v := 4004) (by decide) ?_
    refine gz_ic_ge (pc := 15) (tgt := 40) dX12_remembers_15 (by decide) (fun c => ?_) (fun c => ?_)
    · replace h := gz_ifp c h
      refine gz_goto (pc := 40) (tgt := 53) dX12_remembers_40 (by decide) ?_
      refine gz_iconst (pc := 53) dX12_remembers_53 (v := 0) (by decide) ?_
      refine gz_istore_n (pc := 54) dX12_remembers_54 (by decide) rfl (loc2 := [some (.inr (.inr (0, 47))), some (.inl 0)]) rfl ?_
      exact p_X12_remembers_55 φ 0 I J h
    · replace h := gz_ifn c h
      refine gz_aload_n (pc := 18) dX12_remembers_18 rfl ?_
      refine gr_X12_26 (pc := 19) dX12_remembers_19 z_0_47 rfl ?_
      refine gz_iload_n (pc := 22) dX12_remembers_22 rfl ?_
      refine gz_aload_n (pc := 23) dX12_remembers_23 rfl ?_
      refine gr_X12_26 (pc := 24) dX12_remembers_24 z_0_47 rfl ?_
      refine gz_iload_n (pc := 27) dX12_remembers_27 rfl ?_
      refine gz_sipush (pc := 28) dX12_remembers_28 (v := 364) (by decide) ?_
      refine gz_iadd (pc := 31) dX12_remembers_31  ?_
      obtain ⟨b3, h⟩ := gz_gd h
      refine gz_iald2 (pc := 32) dX12_remembers_32 (k := (x1 + 364).toNatClampNeg) (v := I 0 52 ((x1 + 364).toNatClampNeg)) z_0_52 rfl b3 rfl rfl ?_
      obtain ⟨b4, h⟩ := gz_gd h
      refine gz_iast2 (pc := 33) dX12_remembers_33 (k := x1.toNatClampNeg) z_0_52 rfl b4 rfl ?_
      refine gz_iinc (pc := 34) dX12_remembers_34 (x := x1) (v := x1 + 1) rfl (by rw [show Int32.ofInt 1 = 1 by decide]) (by decide) rfl (loc2 := [some (.inr (.inr (0, 47))), some (.inl (x1 + 1))]) rfl ?_
      refine gz_goto (pc := 37) (tgt := 11) dX12_remembers_37 (by decide) ?_
      exact ih (x1 + 1) (gz_ui I 0 52 x1.toNatClampNeg (I 0 52 ((x1 + 364).toNatClampNeg))) J h
def f_X12_remembers (φ : Nat) (I : gzIT) (J : gzJT) : Option (Unit × gzIT × gzJT) := if ¬ I 0 47 7 = 12 then (f_X12_remembers_55 φ φ 0 (gz_ui I 0 47 7 ((I 0 47 7) + 1)) J) else (f_X12_remembers_11 φ φ 0 I J)
set_option maxRecDepth 20000 in
theorem c_X12_remembers {g : gzG} {d φ : Nat} {I : gzIT} {J : gzJT} {r : Unit × gzIT × gzJT} (h : f_X12_remembers φ I J = some r) : gzC g 0 d mX12_remembers [.inr (.inr (0, 47))] (gzN, gzR0, I, J) (gzE (.ok none) (gzN, gzR0, r.2.1, r.2.2)) := by
  unfold f_X12_remembers at h
  refine gzC_of (by decide +kernel) (Nat.le_of_ble_eq_true rfl) (loc := [some (.inr (.inr (0, 47))), none]) rfl ?_
  have z_0_47 : gzOk 0 47 gzN := gzOk_of (by decide)
  refine gz_aload_n (pc := 0) dX12_remembers_0 rfl ?_
  refine gi_X12_56 (pc := 1) dX12_remembers_1 (v := I 0 47 7) z_0_47 rfl rfl ?_
  refine gz_bipush (pc := 4) dX12_remembers_4 (v := 12) (by decide) ?_
  refine gz_ic_ne (pc := 6) (tgt := 43) dX12_remembers_6 (by decide) (fun c => ?_) (fun c => ?_)
  · replace h := gz_ifp c h
    refine gz_aload_n (pc := 43) dX12_remembers_43 rfl ?_
    refine gz_dupR (pc := 44) dX12_remembers_44  ?_
    refine gi_X12_56 (pc := 45) dX12_remembers_45 (v := I 0 47 7) z_0_47 rfl rfl ?_
    refine gz_iconst (pc := 48) dX12_remembers_48 (v := 1) (by decide) ?_
    refine gz_iadd (pc := 49) dX12_remembers_49  ?_
    refine gp_X12_56 (pc := 50) dX12_remembers_50 z_0_47 rfl ?_
    refine gz_iconst (pc := 53) dX12_remembers_53 (v := 0) (by decide) ?_
    refine gz_istore_n (pc := 54) dX12_remembers_54 (by decide) rfl (loc2 := [some (.inr (.inr (0, 47))), some (.inl 0)]) rfl ?_
    exact p_X12_remembers_55 φ 0 (gz_ui I 0 47 7 ((I 0 47 7) + 1)) J h
  · replace h := gz_ifn (fun q => q c) h
    refine gz_iconst (pc := 9) dX12_remembers_9 (v := 0) (by decide) ?_
    refine gz_istore_n (pc := 10) dX12_remembers_10 (by decide) rfl (loc2 := [some (.inr (.inr (0, 47))), some (.inl 0)]) rfl ?_
    exact p_X12_remembers_11 φ 0 I J h
/-! X12_undo: undo -/
def gP_X12_undo_26 (g : gzG) (d : Nat) (r : Int32 × gzIT × gzJT) (x1 : Int32) (I : gzIT) (J : gzJT) : Prop := gzX g 0 d mX12_undo 26 [some (.inr (.inr (0, 47))), some (.inl x1)] [] (gzN, gzR0, I, J) 0 (gzE (.ok (some (.inl r.1))) (gzN, gzR0, r.2.1, r.2.2))
def f_X12_undo_26 (φ : Nat) : Nat → Int32 → gzIT → gzJT → Option (Int32 × gzIT × gzJT)
  | 0, _, _, _ => none
  | k + 1, x1, I, J => if 364 ≤ x1 then (some (1, I, J)) else (gzGd ((364 * (I 0 47 7)) + x1) 4368 (gzGd (x1) 2062 (f_X12_undo_26 φ k (x1 + 1) (gz_ui I 0 48 x1.toNatClampNeg (I 0 52 (((364 * (I 0 47 7)) + x1).toNatClampNeg))) J)))
set_option maxRecDepth 20000 in
theorem p_X12_undo_26 {g : gzG} {d φ : Nat} {r : Int32 × gzIT × gzJT} : ∀ (k : Nat) (x1 : Int32) (I : gzIT) (J : gzJT), f_X12_undo_26 φ k x1 I J = some r → gP_X12_undo_26 g d r x1 I J := by
  intro k; induction k with
  | zero => intro x1 I J h; cases h
  | succ k ih =>
    intro x1 I J h
    unfold f_X12_undo_26 at h
    unfold gP_X12_undo_26
    have z_0_47 : gzOk 0 47 gzN := gzOk_of (by decide)
    have z_0_52 : gzOk 0 52 gzN := gzOk_of (by decide)
    have z_0_48 : gzOk 0 48 gzN := gzOk_of (by decide)
    refine gz_iload_n (pc := 26) dX12_undo_26 rfl ?_
    refine gz_sipush (pc := 27) dX12_undo_27 (v := 364) (by decide) ?_
    refine gz_ic_ge (pc := 30) (tgt := 60) dX12_undo_30 (by decide) (fun c => ?_) (fun c => ?_)
    · replace h := gz_ifp c h
      refine gz_iconst (pc := 60) dX12_undo_60 (v := 1) (by decide) ?_
      cases h; exact gz_zret (pc := 61) dX12_undo_61 rfl (by decide) ⟨rfl, rfl⟩
    · replace h := gz_ifn c h
      refine gz_aload_n (pc := 33) dX12_undo_33 rfl ?_
      refine gr_X12_13 (pc := 34) dX12_undo_34 z_0_47 rfl ?_
      refine gz_iload_n (pc := 37) dX12_undo_37 rfl ?_
      refine gz_aload_n (pc := 38) dX12_undo_38 rfl ?_
      refine gr_X12_26 (pc := 39) dX12_undo_39 z_0_47 rfl ?_
      refine gz_sipush (pc := 42) dX12_undo_42 (v := 364) (by decide) ?_
      refine gz_aload_n (pc := 45) dX12_undo_45 rfl ?_
      refine gi_X12_56 (pc := 46) dX12_undo_46 (v := I 0 47 7) z_0_47 rfl rfl ?_
      refine gz_imul (pc := 49) dX12_undo_49  ?_
      refine gz_iload_n (pc := 50) dX12_undo_50 rfl ?_
      refine gz_iadd (pc := 51) dX12_undo_51  ?_
      obtain ⟨b1, h⟩ := gz_gd h
      refine gz_iald2 (pc := 52) dX12_undo_52 (k := ((364 * (I 0 47 7)) + x1).toNatClampNeg) (v := I 0 52 (((364 * (I 0 47 7)) + x1).toNatClampNeg)) z_0_52 rfl b1 rfl rfl ?_
      obtain ⟨b2, h⟩ := gz_gd h
      refine gz_iast2 (pc := 53) dX12_undo_53 (k := x1.toNatClampNeg) z_0_48 rfl b2 rfl ?_
      refine gz_iinc (pc := 54) dX12_undo_54 (x := x1) (v := x1 + 1) rfl (by rw [show Int32.ofInt 1 = 1 by decide]) (by decide) rfl (loc2 := [some (.inr (.inr (0, 47))), some (.inl (x1 + 1))]) rfl ?_
      refine gz_goto (pc := 57) (tgt := 26) dX12_undo_57 (by decide) ?_
      exact ih (x1 + 1) (gz_ui I 0 48 x1.toNatClampNeg (I 0 52 (((364 * (I 0 47 7)) + x1).toNatClampNeg))) J h
def f_X12_undo (φ : Nat) (I : gzIT) (J : gzJT) : Option (Int32 × gzIT × gzJT) := if ¬ I 0 47 7 = 0 then (f_X12_undo_26 φ φ 0 (gz_ui (gz_ui I 0 47 0 0) 0 47 7 ((I 0 47 7) - 1)) J) else (some (0, gz_ui I 0 47 0 0, J))
set_option maxRecDepth 20000 in
theorem c_X12_undo {g : gzG} {d φ : Nat} {I : gzIT} {J : gzJT} {r : Int32 × gzIT × gzJT} (h : f_X12_undo φ I J = some r) : gzC g 0 d mX12_undo [.inr (.inr (0, 47))] (gzN, gzR0, I, J) (gzE (.ok (some (.inl r.1))) (gzN, gzR0, r.2.1, r.2.2)) := by
  unfold f_X12_undo at h
  refine gzC_of (by decide +kernel) (Nat.le_of_ble_eq_true rfl) (loc := [some (.inr (.inr (0, 47))), none]) rfl ?_
  have z_0_47 : gzOk 0 47 gzN := gzOk_of (by decide)
  refine gz_aload_n (pc := 0) dX12_undo_0 rfl ?_
  refine gz_iconst (pc := 1) dX12_undo_1 (v := 0) (by decide) ?_
  refine gp_X12_3 (pc := 2) dX12_undo_2 z_0_47 rfl ?_
  refine gz_aload_n (pc := 5) dX12_undo_5 rfl ?_
  refine gi_X12_56 (pc := 6) dX12_undo_6 (v := I 0 47 7) z_0_47 (gz_ui_k (by decide)) rfl ?_
  refine gz_if_ne (pc := 9) (tgt := 14) dX12_undo_9 (by decide) (fun c => ?_) (fun c => ?_)
  · replace h := gz_ifp c h
    refine gz_aload_n (pc := 14) dX12_undo_14 rfl ?_
    refine gz_dupR (pc := 15) dX12_undo_15  ?_
    refine gi_X12_56 (pc := 16) dX12_undo_16 (v := I 0 47 7) z_0_47 (gz_ui_k (by decide)) rfl ?_
    refine gz_iconst (pc := 19) dX12_undo_19 (v := 1) (by decide) ?_
    refine gz_isub (pc := 20) dX12_undo_20  ?_
    refine gp_X12_56 (pc := 21) dX12_undo_21 z_0_47 rfl ?_
    refine gz_iconst (pc := 24) dX12_undo_24 (v := 0) (by decide) ?_
    refine gz_istore_n (pc := 25) dX12_undo_25 (by decide) rfl (loc2 := [some (.inr (.inr (0, 47))), some (.inl 0)]) rfl ?_
    exact p_X12_undo_26 φ 0 (gz_ui (gz_ui I 0 47 0 0) 0 47 7 ((I 0 47 7) - 1)) J h
  · replace h := gz_ifn (fun q => q c) h
    refine gz_iconst (pc := 12) dX12_undo_12 (v := 0) (by decide) ?_
    cases h; exact gz_zret (pc := 13) dX12_undo_13 rfl (by decide) ⟨rfl, rfl⟩
/-! X12_families: families -/
def f_X12_families (I : gzIT) : Option Int32 := some (I 0 48 0)
set_option maxRecDepth 20000 in
theorem c_X12_families {g : gzG} {d : Nat} {I : gzIT} {J : gzJT} {r : Int32} (h : f_X12_families I = some r) : gzC g 0 d mX12_families [.inr (.inr (0, 47))] (gzN, gzR0, I, J) (gzE (.ok (some (.inl r))) (gzN, gzR0, I, J)) := by
  unfold f_X12_families at h
  refine gzC_of (by decide +kernel) (Nat.le_of_ble_eq_true rfl) (loc := [some (.inr (.inr (0, 47)))]) rfl ?_
  have z_0_47 : gzOk 0 47 gzN := gzOk_of (by decide)
  have z_0_48 : gzOk 0 48 gzN := gzOk_of (by decide)
  refine gz_aload_n (pc := 0) dX12_families_0 rfl ?_
  refine gr_X12_13 (pc := 1) dX12_families_1 z_0_47 rfl ?_
  refine gz_iconst (pc := 4) dX12_families_4 (v := 0) (by decide) ?_
  refine gz_iald2 (pc := 5) dX12_families_5 (k := 0) (v := I 0 48 0) z_0_48 rfl (gz_vpd (by decide)) (by decide) rfl ?_
  cases h; exact gz_iret (pc := 6) dX12_families_6 rfl ⟨rfl, rfl⟩
/-! X12_allFamilies: allFamilies -/
def f_X12_allFamilies (I : gzIT) : Option Int32 := Option.bind (f_X12_families I) (fun v2 => some (((1 : Int32) <<< (v2 &&& 31)) - 1))
set_option maxRecDepth 20000 in
theorem c_X12_allFamilies {g : gzG} {d : Nat} {I : gzIT} {J : gzJT} {r : Int32} (h : f_X12_allFamilies I = some r) : gzC g 0 (d + 1) mX12_allFamilies [.inr (.inr (0, 47))] (gzN, gzR0, I, J) (gzE (.ok (some (.inl r))) (gzN, gzR0, I, J)) := by
  unfold f_X12_allFamilies at h
  refine gzC_of (by decide +kernel) (Nat.le_of_ble_eq_true rfl) (loc := [some (.inr (.inr (0, 47)))]) rfl ?_
  have z_0_47 : gzOk 0 47 gzN := gzOk_of (by decide)
  refine gz_iconst (pc := 0) dX12_allFamilies_0 (v := 1) (by decide) ?_
  refine gz_aload_n (pc := 1) dX12_allFamilies_1 rfl ?_
  refine gz_V (zy := mX12_families) (zc := 0) (pc := 2) [] rfl dX12_allFamilies_2 lkX12_59 MvX12_families rfl z_0_47 rfl rfl rfl (Or.inl rfl) (fun h => h) (by exact Nat.le_of_ble_eq_true rfl) ?_
  obtain ⟨v2, e1, h⟩ := gz_bd h
  refine gz_useI (c_X12_families e1) ?_
  refine gz_ishl (pc := 5) dX12_allFamilies_5  ?_
  refine gz_iconst (pc := 6) dX12_allFamilies_6 (v := 1) (by decide) ?_
  refine gz_isub (pc := 7) dX12_allFamilies_7  ?_
  cases h; exact gz_iret (pc := 8) dX12_allFamilies_8 rfl ⟨rfl, rfl⟩
/-! X12_grudges: grudges -/
def f_X12_grudges (I : gzIT) : Option Int32 := some (I 0 48 1)
set_option maxRecDepth 20000 in
theorem c_X12_grudges {g : gzG} {d : Nat} {I : gzIT} {J : gzJT} {r : Int32} (h : f_X12_grudges I = some r) : gzC g 0 d mX12_grudges [.inr (.inr (0, 47))] (gzN, gzR0, I, J) (gzE (.ok (some (.inl r))) (gzN, gzR0, I, J)) := by
  unfold f_X12_grudges at h
  refine gzC_of (by decide +kernel) (Nat.le_of_ble_eq_true rfl) (loc := [some (.inr (.inr (0, 47)))]) rfl ?_
  have z_0_47 : gzOk 0 47 gzN := gzOk_of (by decide)
  have z_0_48 : gzOk 0 48 gzN := gzOk_of (by decide)
  refine gz_aload_n (pc := 0) dX12_grudges_0 rfl ?_
  refine gr_X12_13 (pc := 1) dX12_grudges_1 z_0_47 rfl ?_
  refine gz_iconst (pc := 4) dX12_grudges_4 (v := 1) (by decide) ?_
  refine gz_iald2 (pc := 5) dX12_grudges_5 (k := 1) (v := I 0 48 1) z_0_48 rfl (gz_vpd (by decide)) (by decide) rfl ?_
  cases h; exact gz_iret (pc := 6) dX12_grudges_6 rfl ⟨rfl, rfl⟩
/-! X12_familyAt: familyAt -/
def f_X12_familyAt (a1 : Int32) (a2 : Int32) : Option Int32 := some ((30 + (4 * a1)) + a2)
set_option maxRecDepth 20000 in
theorem c_X12_familyAt {g : gzG} {d : Nat} {a1 : Int32} {a2 : Int32} {I : gzIT} {J : gzJT} {r : Int32} (h : f_X12_familyAt a1 a2 = some r) : gzC g 0 d mX12_familyAt [.inl a1, .inl a2] (gzN, gzR0, I, J) (gzE (.ok (some (.inl r))) (gzN, gzR0, I, J)) := by
  unfold f_X12_familyAt at h
  refine gzC_of (by decide +kernel) (Nat.le_of_ble_eq_true rfl) (loc := [some (.inl a1), some (.inl a2)]) rfl ?_
  refine gz_bipush (pc := 0) dX12_familyAt_0 (v := 30) (by decide) ?_
  refine gz_iconst (pc := 2) dX12_familyAt_2 (v := 4) (by decide) ?_
  refine gz_iload_n (pc := 3) dX12_familyAt_3 rfl ?_
  refine gz_imul (pc := 4) dX12_familyAt_4  ?_
  refine gz_iadd (pc := 5) dX12_familyAt_5  ?_
  refine gz_iload_n (pc := 6) dX12_familyAt_6 rfl ?_
  refine gz_iadd (pc := 7) dX12_familyAt_7  ?_
  cases h; exact gz_iret (pc := 8) dX12_familyAt_8 rfl ⟨rfl, rfl⟩
/-! X12_ofFamily: ofFamily -/
def f_X12_ofFamily (I : gzIT) (a1 : Int32) (a2 : Int32) : Option Int32 := Option.bind (f_X12_familyAt a1 a2) (fun v2 => gzGd (v2) 2062 (some (I 0 48 v2.toNatClampNeg)))
set_option maxRecDepth 20000 in
theorem c_X12_ofFamily {g : gzG} {d : Nat} {a1 : Int32} {a2 : Int32} {I : gzIT} {J : gzJT} {r : Int32} (h : f_X12_ofFamily I a1 a2 = some r) : gzC g 0 (d + 1) mX12_ofFamily [.inr (.inr (0, 47)), .inl a1, .inl a2] (gzN, gzR0, I, J) (gzE (.ok (some (.inl r))) (gzN, gzR0, I, J)) := by
  unfold f_X12_ofFamily at h
  refine gzC_of (by decide +kernel) (Nat.le_of_ble_eq_true rfl) (loc := [some (.inr (.inr (0, 47))), some (.inl a1), some (.inl a2)]) rfl ?_
  have z_0_47 : gzOk 0 47 gzN := gzOk_of (by decide)
  have z_0_48 : gzOk 0 48 gzN := gzOk_of (by decide)
  refine gz_aload_n (pc := 0) dX12_ofFamily_0 rfl ?_
  refine gr_X12_13 (pc := 1) dX12_ofFamily_1 z_0_47 rfl ?_
  refine gz_iload_n (pc := 4) dX12_ofFamily_4 rfl ?_
  refine gz_iload_n (pc := 5) dX12_ofFamily_5 rfl ?_
  refine gz_S (zy := mX12_familyAt) (zc := 0) (pc := 6) [.inl a1, .inl a2] rfl dX12_ofFamily_6 lkX12_63 MsX12_familyAt rfl (Or.inl rfl) (fun h => h) (by exact Nat.le_of_ble_eq_true rfl) ?_
  obtain ⟨v2, e1, h⟩ := gz_bd h
  refine gz_useI (c_X12_familyAt e1) ?_
  obtain ⟨b3, h⟩ := gz_gd h
  refine gz_iald2 (pc := 9) dX12_ofFamily_9 (k := v2.toNatClampNeg) (v := I 0 48 v2.toNatClampNeg) z_0_48 rfl b3 rfl rfl ?_
  cases h; exact gz_iret (pc := 10) dX12_ofFamily_10 rfl ⟨rfl, rfl⟩
/-! X12_at: at -/
def f_X12_at (a1 : Int32) (a2 : Int32) : Option Int32 := some ((54 + (7 * a1)) + a2)
set_option maxRecDepth 20000 in
theorem c_X12_at {g : gzG} {d : Nat} {a1 : Int32} {a2 : Int32} {I : gzIT} {J : gzJT} {r : Int32} (h : f_X12_at a1 a2 = some r) : gzC g 0 d mX12_at [.inl a1, .inl a2] (gzN, gzR0, I, J) (gzE (.ok (some (.inl r))) (gzN, gzR0, I, J)) := by
  unfold f_X12_at at h
  refine gzC_of (by decide +kernel) (Nat.le_of_ble_eq_true rfl) (loc := [some (.inl a1), some (.inl a2)]) rfl ?_
  refine gz_bipush (pc := 0) dX12_at_0 (v := 54) (by decide) ?_
  refine gz_bipush (pc := 2) dX12_at_2 (v := 7) (by decide) ?_
  refine gz_iload_n (pc := 4) dX12_at_4 rfl ?_
  refine gz_imul (pc := 5) dX12_at_5  ?_
  refine gz_iadd (pc := 6) dX12_at_6  ?_
  refine gz_iload_n (pc := 7) dX12_at_7 rfl ?_
  refine gz_iadd (pc := 8) dX12_at_8  ?_
  cases h; exact gz_iret (pc := 9) dX12_at_9 rfl ⟨rfl, rfl⟩
/-! X12_of: of -/
def f_X12_of (I : gzIT) (a1 : Int32) (a2 : Int32) : Option Int32 := Option.bind (f_X12_at a1 a2) (fun v2 => gzGd (v2) 2062 (some (I 0 48 v2.toNatClampNeg)))
set_option maxRecDepth 20000 in
theorem c_X12_of {g : gzG} {d : Nat} {a1 : Int32} {a2 : Int32} {I : gzIT} {J : gzJT} {r : Int32} (h : f_X12_of I a1 a2 = some r) : gzC g 0 (d + 1) mX12_of [.inr (.inr (0, 47)), .inl a1, .inl a2] (gzN, gzR0, I, J) (gzE (.ok (some (.inl r))) (gzN, gzR0, I, J)) := by
  unfold f_X12_of at h
  refine gzC_of (by decide +kernel) (Nat.le_of_ble_eq_true rfl) (loc := [some (.inr (.inr (0, 47))), some (.inl a1), some (.inl a2)]) rfl ?_
  have z_0_47 : gzOk 0 47 gzN := gzOk_of (by decide)
  have z_0_48 : gzOk 0 48 gzN := gzOk_of (by decide)
  refine gz_aload_n (pc := 0) dX12_of_0 rfl ?_
  refine gr_X12_13 (pc := 1) dX12_of_1 z_0_47 rfl ?_
  refine gz_iload_n (pc := 4) dX12_of_4 rfl ?_
  refine gz_iload_n (pc := 5) dX12_of_5 rfl ?_
  refine gz_S (zy := mX12_at) (zc := 0) (pc := 6) [.inl a1, .inl a2] rfl dX12_of_6 lkX12_67 MsX12_at rfl (Or.inl rfl) (fun h => h) (by exact Nat.le_of_ble_eq_true rfl) ?_
  obtain ⟨v2, e1, h⟩ := gz_bd h
  refine gz_useI (c_X12_at e1) ?_
  obtain ⟨b3, h⟩ := gz_gd h
  refine gz_iald2 (pc := 9) dX12_of_9 (k := v2.toNatClampNeg) (v := I 0 48 v2.toNatClampNeg) z_0_48 rfl b3 rfl rfl ?_
  cases h; exact gz_iret (pc := 10) dX12_of_10 rfl ⟨rfl, rfl⟩
/-! X12_isThawed: isThawed -/
def f_X12_isThawed (I : gzIT) (a1 : Int32) : Option Int32 := Option.bind (f_X12_of I a1 6) (fun v2 => some (if ¬ v2 = 1 then (0 : Int32) else 1))
set_option maxRecDepth 20000 in
theorem c_X12_isThawed {g : gzG} {d : Nat} {a1 : Int32} {I : gzIT} {J : gzJT} {r : Int32} (h : f_X12_isThawed I a1 = some r) : gzC g 0 (d + 2) mX12_isThawed [.inr (.inr (0, 47)), .inl a1] (gzN, gzR0, I, J) (gzE (.ok (some (.inl r))) (gzN, gzR0, I, J)) := by
  unfold f_X12_isThawed at h
  refine gzC_of (by decide +kernel) (Nat.le_of_ble_eq_true rfl) (loc := [some (.inr (.inr (0, 47))), some (.inl a1)]) rfl ?_
  have z_0_47 : gzOk 0 47 gzN := gzOk_of (by decide)
  refine gz_aload_n (pc := 0) dX12_isThawed_0 rfl ?_
  refine gz_iload_n (pc := 1) dX12_isThawed_1 rfl ?_
  refine gz_bipush (pc := 2) dX12_isThawed_2 (v := 6) (by decide) ?_
  refine gz_V (zy := mX12_of) (zc := 0) (pc := 4) [.inl a1, .inl 6] rfl dX12_isThawed_4 lkX12_70 MvX12_of rfl z_0_47 rfl rfl rfl (Or.inl rfl) (fun h => h) (by exact Nat.le_of_ble_eq_true rfl) ?_
  obtain ⟨v2, e1, h⟩ := gz_bd h
  refine gz_useI (c_X12_of e1) ?_
  refine gz_iconst (pc := 7) dX12_isThawed_7 (v := 1) (by decide) ?_
  have kj3 : gzX g 0 (d + 2) mX12_isThawed 16 [some (.inr (.inr (0, 47))), some (.inl a1)] ([.inl (if ¬ v2 = 1 then (0 : Int32) else 1)]) (gzN, gzR0, I, J) 0 (gzE (.ok (some (.inl r))) (gzN, gzR0, I, J)) := by
    cases h; exact gz_zret (pc := 16) dX12_isThawed_16 rfl (by first | exact gz_ite01 | exact gz_ite10) ⟨rfl, rfl⟩
  refine gz_ic_ne (pc := 8) (tgt := 15) dX12_isThawed_8 (by decide) (fun c => ?_) (fun c => ?_)
  · rw [if_pos c] at kj3
    refine gz_iconst (pc := 15) dX12_isThawed_15 (v := 0) (by decide) ?_
    exact kj3
  · rw [if_neg (show ¬ (¬ v2 = 1) from fun q => q c)] at kj3
    refine gz_iconst (pc := 11) dX12_isThawed_11 (v := 1) (by decide) ?_
    refine gz_goto (pc := 12) (tgt := 16) dX12_isThawed_12 (by decide) ?_
    exact kj3
/-! X12_standing: standing -/
def gP_X12_standing_4 (g : gzG) (d : Nat) (r : Int32) (x1 : Int32) (x2 : Int32) (I : gzIT) (J : gzJT) : Prop := gzX g 0 (d + 3) mX12_standing 4 [some (.inr (.inr (0, 47))), some (.inl x1), some (.inl x2)] [] (gzN, gzR0, I, J) 0 (gzE (.ok (some (.inl r))) (gzN, gzR0, I, J))
def f_X12_standing_4 (φ : Nat) (I : gzIT) : Nat → Int32 → Int32 → Option Int32
  | 0, _, _ => none
  | k + 1, x1, x2 => Option.bind (f_X12_grudges I) (fun v2 => if v2 ≤ x2 then (some x1) else (Option.bind (f_X12_isThawed I x2) (fun v4 => if v4 = 0 then (f_X12_standing_4 φ I k (x1 ||| ((1 : Int32) <<< (x2 &&& 31))) (x2 + 1)) else (f_X12_standing_4 φ I k (x1 ||| 0) (x2 + 1)))))
set_option maxRecDepth 20000 in
theorem p_X12_standing_4 {g : gzG} {d φ : Nat} {I : gzIT} {J : gzJT} {r : Int32} : ∀ (k : Nat) (x1 : Int32) (x2 : Int32), f_X12_standing_4 φ I k x1 x2 = some r → gP_X12_standing_4 g d r x1 x2 I J := by
  intro k; induction k with
  | zero => intro x1 x2 h; cases h
  | succ k ih =>
    intro x1 x2 h
    unfold f_X12_standing_4 at h
    unfold gP_X12_standing_4
    have z_0_47 : gzOk 0 47 gzN := gzOk_of (by decide)
    refine gz_iload_n (pc := 4) dX12_standing_4 rfl ?_
    refine gz_aload_n (pc := 5) dX12_standing_5 rfl ?_
    refine gz_V (zy := mX12_grudges) (zc := 0) (pc := 6) [] rfl dX12_standing_6 lkX12_73 MvX12_grudges rfl z_0_47 rfl rfl rfl (Or.inl rfl) (fun h => h) (by exact Nat.le_of_ble_eq_true rfl) ?_
    obtain ⟨v2, e1, h⟩ := gz_bd h
    refine gz_useI (c_X12_grudges e1) ?_
    refine gz_ic_ge (pc := 9) (tgt := 36) dX12_standing_9 (by decide) (fun c => ?_) (fun c => ?_)
    · replace h := gz_ifp c h
      refine gz_iload_n (pc := 36) dX12_standing_36 rfl ?_
      cases h; exact gz_iret (pc := 37) dX12_standing_37 rfl ⟨rfl, rfl⟩
    · replace h := gz_ifn c h
      refine gz_iload_n (pc := 12) dX12_standing_12 rfl ?_
      refine gz_aload_n (pc := 13) dX12_standing_13 rfl ?_
      refine gz_iload_n (pc := 14) dX12_standing_14 rfl ?_
      refine gz_V (zy := mX12_isThawed) (zc := 0) (pc := 15) [.inl x2] rfl dX12_standing_15 lkX12_76 MvX12_isThawed rfl z_0_47 rfl rfl rfl (Or.inl rfl) (fun h => h) (by exact Nat.le_of_ble_eq_true rfl) ?_
      obtain ⟨v4, e3, h⟩ := gz_bd h
      refine gz_useI (c_X12_isThawed e3) ?_
      refine gz_if_eq (pc := 18) (tgt := 25) dX12_standing_18 (by decide) (fun c => ?_) (fun c => ?_)
      · replace h := gz_ifp c h
        refine gz_iconst (pc := 25) dX12_standing_25 (v := 1) (by decide) ?_
        refine gz_iload_n (pc := 26) dX12_standing_26 rfl ?_
        refine gz_ishl (pc := 27) dX12_standing_27  ?_
        refine gz_ior (pc := 28) dX12_standing_28  ?_
        refine gz_istore_n (pc := 29) dX12_standing_29 (by decide) rfl (loc2 := [some (.inr (.inr (0, 47))), some (.inl (x1 ||| ((1 : Int32) <<< (x2 &&& 31)))), some (.inl x2)]) rfl ?_
        refine gz_iinc (pc := 30) dX12_standing_30 (x := x2) (v := x2 + 1) rfl (by rw [show Int32.ofInt 1 = 1 by decide]) (by decide) rfl (loc2 := [some (.inr (.inr (0, 47))), some (.inl (x1 ||| ((1 : Int32) <<< (x2 &&& 31)))), some (.inl (x2 + 1))]) rfl ?_
        refine gz_goto (pc := 33) (tgt := 4) dX12_standing_33 (by decide) ?_
        exact ih (x1 ||| ((1 : Int32) <<< (x2 &&& 31))) (x2 + 1) h
      · replace h := gz_ifn c h
        refine gz_iconst (pc := 21) dX12_standing_21 (v := 0) (by decide) ?_
        refine gz_goto (pc := 22) (tgt := 28) dX12_standing_22 (by decide) ?_
        refine gz_ior (pc := 28) dX12_standing_28  ?_
        refine gz_istore_n (pc := 29) dX12_standing_29 (by decide) rfl (loc2 := [some (.inr (.inr (0, 47))), some (.inl (x1 ||| 0)), some (.inl x2)]) rfl ?_
        refine gz_iinc (pc := 30) dX12_standing_30 (x := x2) (v := x2 + 1) rfl (by rw [show Int32.ofInt 1 = 1 by decide]) (by decide) rfl (loc2 := [some (.inr (.inr (0, 47))), some (.inl (x1 ||| 0)), some (.inl (x2 + 1))]) rfl ?_
        refine gz_goto (pc := 33) (tgt := 4) dX12_standing_33 (by decide) ?_
        exact ih (x1 ||| 0) (x2 + 1) h
def f_X12_standing (φ : Nat) (I : gzIT) : Option Int32 := f_X12_standing_4 φ I φ 0 0
set_option maxRecDepth 20000 in
theorem c_X12_standing {g : gzG} {d φ : Nat} {I : gzIT} {J : gzJT} {r : Int32} (h : f_X12_standing φ I = some r) : gzC g 0 (d + 3) mX12_standing [.inr (.inr (0, 47))] (gzN, gzR0, I, J) (gzE (.ok (some (.inl r))) (gzN, gzR0, I, J)) := by
  unfold f_X12_standing at h
  refine gzC_of (by decide +kernel) (Nat.le_of_ble_eq_true rfl) (loc := [some (.inr (.inr (0, 47))), none, none]) rfl ?_
  refine gz_iconst (pc := 0) dX12_standing_0 (v := 0) (by decide) ?_
  refine gz_istore_n (pc := 1) dX12_standing_1 (by decide) rfl (loc2 := [some (.inr (.inr (0, 47))), some (.inl 0), none]) rfl ?_
  refine gz_iconst (pc := 2) dX12_standing_2 (v := 0) (by decide) ?_
  refine gz_istore_n (pc := 3) dX12_standing_3 (by decide) rfl (loc2 := [some (.inr (.inr (0, 47))), some (.inl 0), some (.inl 0)]) rfl ?_
  exact p_X12_standing_4 φ 0 0 h
/-! X12_isOf: isOf -/
def f_X12_isOf (I : gzIT) (a1 : Int32) (a2 : Int32) : Option Int32 := Option.bind (f_X12_of I a1 0) (fun v2 => if v2 = a2 then (some 1) else (Option.bind (f_X12_of I a1 1) (fun v4 => some (if ¬ v4 = a2 then (0 : Int32) else 1))))
set_option maxRecDepth 20000 in
theorem c_X12_isOf {g : gzG} {d : Nat} {a1 : Int32} {a2 : Int32} {I : gzIT} {J : gzJT} {r : Int32} (h : f_X12_isOf I a1 a2 = some r) : gzC g 0 (d + 2) mX12_isOf [.inr (.inr (0, 47)), .inl a1, .inl a2] (gzN, gzR0, I, J) (gzE (.ok (some (.inl r))) (gzN, gzR0, I, J)) := by
  unfold f_X12_isOf at h
  refine gzC_of (by decide +kernel) (Nat.le_of_ble_eq_true rfl) (loc := [some (.inr (.inr (0, 47))), some (.inl a1), some (.inl a2)]) rfl ?_
  have z_0_47 : gzOk 0 47 gzN := gzOk_of (by decide)
  refine gz_aload_n (pc := 0) dX12_isOf_0 rfl ?_
  refine gz_iload_n (pc := 1) dX12_isOf_1 rfl ?_
  refine gz_iconst (pc := 2) dX12_isOf_2 (v := 0) (by decide) ?_
  refine gz_V (zy := mX12_of) (zc := 0) (pc := 3) [.inl a1, .inl 0] rfl dX12_isOf_3 lkX12_70 MvX12_of rfl z_0_47 rfl rfl rfl (Or.inl rfl) (fun h => h) (by exact Nat.le_of_ble_eq_true rfl) ?_
  obtain ⟨v2, e1, h⟩ := gz_bd h
  refine gz_useI (c_X12_of e1) ?_
  refine gz_iload_n (pc := 6) dX12_isOf_6 rfl ?_
  refine gz_ic_eq (pc := 7) (tgt := 20) dX12_isOf_7 (by decide) (fun c => ?_) (fun c => ?_)
  · replace h := gz_ifp c h
    refine gz_iconst (pc := 20) dX12_isOf_20 (v := 1) (by decide) ?_
    refine gz_goto (pc := 21) (tgt := 25) dX12_isOf_21 (by decide) ?_
    cases h; exact gz_zret (pc := 25) dX12_isOf_25 rfl (by decide) ⟨rfl, rfl⟩
  · replace h := gz_ifn c h
    refine gz_aload_n (pc := 10) dX12_isOf_10 rfl ?_
    refine gz_iload_n (pc := 11) dX12_isOf_11 rfl ?_
    refine gz_iconst (pc := 12) dX12_isOf_12 (v := 1) (by decide) ?_
    refine gz_V (zy := mX12_of) (zc := 0) (pc := 13) [.inl a1, .inl 1] rfl dX12_isOf_13 lkX12_70 MvX12_of rfl z_0_47 rfl rfl rfl (Or.inl rfl) (fun h => h) (by exact Nat.le_of_ble_eq_true rfl) ?_
    obtain ⟨v4, e3, h⟩ := gz_bd h
    refine gz_useI (c_X12_of e3) ?_
    refine gz_iload_n (pc := 16) dX12_isOf_16 rfl ?_
    have kj5 : gzX g 0 (d + 2) mX12_isOf 25 [some (.inr (.inr (0, 47))), some (.inl a1), some (.inl a2)] ([.inl (if ¬ v4 = a2 then (0 : Int32) else 1)]) (gzN, gzR0, I, J) 0 (gzE (.ok (some (.inl r))) (gzN, gzR0, I, J)) := by
      cases h; exact gz_zret (pc := 25) dX12_isOf_25 rfl (by first | exact gz_ite01 | exact gz_ite10) ⟨rfl, rfl⟩
    refine gz_ic_ne (pc := 17) (tgt := 24) dX12_isOf_17 (by decide) (fun c => ?_) (fun c => ?_)
    · rw [if_pos c] at kj5
      refine gz_iconst (pc := 24) dX12_isOf_24 (v := 0) (by decide) ?_
      exact kj5
    · rw [if_neg (show ¬ (¬ v4 = a2) from fun q => q c)] at kj5
      refine gz_iconst (pc := 20) dX12_isOf_20 (v := 1) (by decide) ?_
      refine gz_goto (pc := 21) (tgt := 25) dX12_isOf_21 (by decide) ?_
      exact kj5
/-! X12_ofSlight: ofSlight -/
def f_X12_ofSlight (I : gzIT) (a1 : Int32) (a2 : Int32) : Option Int32 := Option.bind (f_X12_of I a1 2) (fun v2 => gzGd ((14 + (2 * v2)) + a2) 2062 (some (I 0 48 (((14 + (2 * v2)) + a2).toNatClampNeg))))
set_option maxRecDepth 20000 in
theorem c_X12_ofSlight {g : gzG} {d : Nat} {a1 : Int32} {a2 : Int32} {I : gzIT} {J : gzJT} {r : Int32} (h : f_X12_ofSlight I a1 a2 = some r) : gzC g 0 (d + 2) mX12_ofSlight [.inr (.inr (0, 47)), .inl a1, .inl a2] (gzN, gzR0, I, J) (gzE (.ok (some (.inl r))) (gzN, gzR0, I, J)) := by
  unfold f_X12_ofSlight at h
  refine gzC_of (by decide +kernel) (Nat.le_of_ble_eq_true rfl) (loc := [some (.inr (.inr (0, 47))), some (.inl a1), some (.inl a2)]) rfl ?_
  have z_0_47 : gzOk 0 47 gzN := gzOk_of (by decide)
  have z_0_48 : gzOk 0 48 gzN := gzOk_of (by decide)
  refine gz_aload_n (pc := 0) dX12_ofSlight_0 rfl ?_
  refine gr_X12_13 (pc := 1) dX12_ofSlight_1 z_0_47 rfl ?_
  refine gz_bipush (pc := 4) dX12_ofSlight_4 (v := 14) (by decide) ?_
  refine gz_iconst (pc := 6) dX12_ofSlight_6 (v := 2) (by decide) ?_
  refine gz_aload_n (pc := 7) dX12_ofSlight_7 rfl ?_
  refine gz_iload_n (pc := 8) dX12_ofSlight_8 rfl ?_
  refine gz_iconst (pc := 9) dX12_ofSlight_9 (v := 2) (by decide) ?_
  refine gz_V (zy := mX12_of) (zc := 0) (pc := 10) [.inl a1, .inl 2] rfl dX12_ofSlight_10 lkX12_70 MvX12_of rfl z_0_47 rfl rfl rfl (Or.inl rfl) (fun h => h) (by exact Nat.le_of_ble_eq_true rfl) ?_
  obtain ⟨v2, e1, h⟩ := gz_bd h
  refine gz_useI (c_X12_of e1) ?_
  refine gz_imul (pc := 13) dX12_ofSlight_13  ?_
  refine gz_iadd (pc := 14) dX12_ofSlight_14  ?_
  refine gz_iload_n (pc := 15) dX12_ofSlight_15 rfl ?_
  refine gz_iadd (pc := 16) dX12_ofSlight_16  ?_
  obtain ⟨b3, h⟩ := gz_gd h
  refine gz_iald2 (pc := 17) dX12_ofSlight_17 (k := ((14 + (2 * v2)) + a2).toNatClampNeg) (v := I 0 48 (((14 + (2 * v2)) + a2).toNatClampNeg)) z_0_48 rfl b3 rfl rfl ?_
  cases h; exact gz_iret (pc := 18) dX12_ofSlight_18 rfl ⟨rfl, rfl⟩
/-! X12_iceOf: iceOf -/
def gP_X12_iceOf_4 (g : gzG) (d : Nat) (r : Int32) (x1 : Int32) (x2 : Int32) (x3 : Int32) (I : gzIT) (J : gzJT) : Prop := gzX g 0 (d + 2) mX12_iceOf 4 [some (.inr (.inr (0, 47))), some (.inl x1), some (.inl x2), some (.inl x3)] [] (gzN, gzR0, I, J) 0 (gzE (.ok (some (.inl r))) (gzN, gzR0, I, J))
def f_X12_iceOf_4 (φ : Nat) (I : gzIT) : Nat → Int32 → Int32 → Int32 → Option Int32
  | 0, _, _, _ => none
  | k + 1, x1, x2, x3 => Option.bind (f_X12_grudges I) (fun v2 => if v2 ≤ x3 then (some x2) else (Option.bind (f_X12_has x1 x3) (fun v4 => if v4 = 0 then (f_X12_iceOf_4 φ I k x1 (x2 + 0) (x3 + 1)) else (Option.bind (f_X12_of I x3 4) (fun v6 => f_X12_iceOf_4 φ I k x1 (x2 + v6) (x3 + 1))))))
set_option maxRecDepth 20000 in
theorem p_X12_iceOf_4 {g : gzG} {d φ : Nat} {I : gzIT} {J : gzJT} {r : Int32} : ∀ (k : Nat) (x1 : Int32) (x2 : Int32) (x3 : Int32), f_X12_iceOf_4 φ I k x1 x2 x3 = some r → gP_X12_iceOf_4 g d r x1 x2 x3 I J := by
  intro k; induction k with
  | zero => intro x1 x2 x3 h; cases h
  | succ k ih =>
    intro x1 x2 x3 h
    unfold f_X12_iceOf_4 at h
    unfold gP_X12_iceOf_4
    have z_0_47 : gzOk 0 47 gzN := gzOk_of (by decide)
    refine gz_iload_n (pc := 4) dX12_iceOf_4 rfl ?_
    refine gz_aload_n (pc := 5) dX12_iceOf_5 rfl ?_
    refine gz_V (zy := mX12_grudges) (zc := 0) (pc := 6) [] rfl dX12_iceOf_6 lkX12_73 MvX12_grudges rfl z_0_47 rfl rfl rfl (Or.inl rfl) (fun h => h) (by exact Nat.le_of_ble_eq_true rfl) ?_
    obtain ⟨v2, e1, h⟩ := gz_bd h
    refine gz_useI (c_X12_grudges e1) ?_
    refine gz_ic_ge (pc := 9) (tgt := 39) dX12_iceOf_9 (by decide) (fun c => ?_) (fun c => ?_)
    · replace h := gz_ifp c h
      refine gz_iload_n (pc := 39) dX12_iceOf_39 rfl ?_
      cases h; exact gz_iret (pc := 40) dX12_iceOf_40 rfl ⟨rfl, rfl⟩
    · replace h := gz_ifn c h
      refine gz_iload_n (pc := 12) dX12_iceOf_12 rfl ?_
      refine gz_iload_n (pc := 13) dX12_iceOf_13 rfl ?_
      refine gz_iload_n (pc := 14) dX12_iceOf_14 rfl ?_
      refine gz_S (zy := mX12_has) (zc := 0) (pc := 15) [.inl x1, .inl x3] rfl dX12_iceOf_15 lkX12_80 MsX12_has rfl (Or.inl rfl) (fun h => h) (by exact Nat.le_of_ble_eq_true rfl) ?_
      obtain ⟨v4, e3, h⟩ := gz_bd h
      refine gz_useI (c_X12_has e3) ?_
      refine gz_if_eq (pc := 18) (tgt := 30) dX12_iceOf_18 (by decide) (fun c => ?_) (fun c => ?_)
      · replace h := gz_ifp c h
        refine gz_iconst (pc := 30) dX12_iceOf_30 (v := 0) (by decide) ?_
        refine gz_iadd (pc := 31) dX12_iceOf_31  ?_
        refine gz_istore_n (pc := 32) dX12_iceOf_32 (by decide) rfl (loc2 := [some (.inr (.inr (0, 47))), some (.inl x1), some (.inl (x2 + 0)), some (.inl x3)]) rfl ?_
        refine gz_iinc (pc := 33) dX12_iceOf_33 (x := x3) (v := x3 + 1) rfl (by rw [show Int32.ofInt 1 = 1 by decide]) (by decide) rfl (loc2 := [some (.inr (.inr (0, 47))), some (.inl x1), some (.inl (x2 + 0)), some (.inl (x3 + 1))]) rfl ?_
        refine gz_goto (pc := 36) (tgt := 4) dX12_iceOf_36 (by decide) ?_
        exact ih x1 (x2 + 0) (x3 + 1) h
      · replace h := gz_ifn c h
        refine gz_aload_n (pc := 21) dX12_iceOf_21 rfl ?_
        refine gz_iload_n (pc := 22) dX12_iceOf_22 rfl ?_
        refine gz_iconst (pc := 23) dX12_iceOf_23 (v := 4) (by decide) ?_
        refine gz_V (zy := mX12_of) (zc := 0) (pc := 24) [.inl x3, .inl 4] rfl dX12_iceOf_24 lkX12_70 MvX12_of rfl z_0_47 rfl rfl rfl (Or.inl rfl) (fun h => h) (by exact Nat.le_of_ble_eq_true rfl) ?_
        obtain ⟨v6, e5, h⟩ := gz_bd h
        refine gz_useI (c_X12_of e5) ?_
        refine gz_goto (pc := 27) (tgt := 31) dX12_iceOf_27 (by decide) ?_
        refine gz_iadd (pc := 31) dX12_iceOf_31  ?_
        refine gz_istore_n (pc := 32) dX12_iceOf_32 (by decide) rfl (loc2 := [some (.inr (.inr (0, 47))), some (.inl x1), some (.inl (x2 + v6)), some (.inl x3)]) rfl ?_
        refine gz_iinc (pc := 33) dX12_iceOf_33 (x := x3) (v := x3 + 1) rfl (by rw [show Int32.ofInt 1 = 1 by decide]) (by decide) rfl (loc2 := [some (.inr (.inr (0, 47))), some (.inl x1), some (.inl (x2 + v6)), some (.inl (x3 + 1))]) rfl ?_
        refine gz_goto (pc := 36) (tgt := 4) dX12_iceOf_36 (by decide) ?_
        exact ih x1 (x2 + v6) (x3 + 1) h
def f_X12_iceOf (φ : Nat) (I : gzIT) (a1 : Int32) : Option Int32 := f_X12_iceOf_4 φ I φ a1 0 0
set_option maxRecDepth 20000 in
theorem c_X12_iceOf {g : gzG} {d φ : Nat} {a1 : Int32} {I : gzIT} {J : gzJT} {r : Int32} (h : f_X12_iceOf φ I a1 = some r) : gzC g 0 (d + 2) mX12_iceOf [.inr (.inr (0, 47)), .inl a1] (gzN, gzR0, I, J) (gzE (.ok (some (.inl r))) (gzN, gzR0, I, J)) := by
  unfold f_X12_iceOf at h
  refine gzC_of (by decide +kernel) (Nat.le_of_ble_eq_true rfl) (loc := [some (.inr (.inr (0, 47))), some (.inl a1), none, none]) rfl ?_
  refine gz_iconst (pc := 0) dX12_iceOf_0 (v := 0) (by decide) ?_
  refine gz_istore_n (pc := 1) dX12_iceOf_1 (by decide) rfl (loc2 := [some (.inr (.inr (0, 47))), some (.inl a1), some (.inl 0), none]) rfl ?_
  refine gz_iconst (pc := 2) dX12_iceOf_2 (v := 0) (by decide) ?_
  refine gz_istore_n (pc := 3) dX12_iceOf_3 (by decide) rfl (loc2 := [some (.inr (.inr (0, 47))), some (.inl a1), some (.inl 0), some (.inl 0)]) rfl ?_
  exact p_X12_iceOf_4 φ a1 0 0 h
/-! X12_noFamily: noFamily -/
def f_X12_noFamily (I : gzIT) (a1 : Int32) : Option Int32 := Option.bind (f_X12_families I) (fun v2 => Option.bind (f_X12_in a1 0 (v2 - 1)) (fun v4 => some (if ¬ v4 = 0 then (0 : Int32) else 1)))
set_option maxRecDepth 20000 in
theorem c_X12_noFamily {g : gzG} {d : Nat} {a1 : Int32} {I : gzIT} {J : gzJT} {r : Int32} (h : f_X12_noFamily I a1 = some r) : gzC g 0 (d + 1) mX12_noFamily [.inr (.inr (0, 47)), .inl a1] (gzN, gzR0, I, J) (gzE (.ok (some (.inl r))) (gzN, gzR0, I, J)) := by
  unfold f_X12_noFamily at h
  refine gzC_of (by decide +kernel) (Nat.le_of_ble_eq_true rfl) (loc := [some (.inr (.inr (0, 47))), some (.inl a1)]) rfl ?_
  have z_0_47 : gzOk 0 47 gzN := gzOk_of (by decide)
  refine gz_iload_n (pc := 0) dX12_noFamily_0 rfl ?_
  refine gz_iconst (pc := 1) dX12_noFamily_1 (v := 0) (by decide) ?_
  refine gz_aload_n (pc := 2) dX12_noFamily_2 rfl ?_
  refine gz_V (zy := mX12_families) (zc := 0) (pc := 3) [] rfl dX12_noFamily_3 lkX12_59 MvX12_families rfl z_0_47 rfl rfl rfl (Or.inl rfl) (fun h => h) (by exact Nat.le_of_ble_eq_true rfl) ?_
  obtain ⟨v2, e1, h⟩ := gz_bd h
  refine gz_useI (c_X12_families e1) ?_
  refine gz_iconst (pc := 6) dX12_noFamily_6 (v := 1) (by decide) ?_
  refine gz_isub (pc := 7) dX12_noFamily_7  ?_
  refine gz_S (zy := mX12_in) (zc := 0) (pc := 8) [.inl a1, .inl 0, .inl (v2 - 1)] rfl dX12_noFamily_8 lkX12_84 MsX12_in rfl (Or.inl rfl) (fun h => h) (by exact Nat.le_of_ble_eq_true rfl) ?_
  obtain ⟨v4, e3, h⟩ := gz_bd h
  refine gz_useI (c_X12_in e3) ?_
  have kj5 : gzX g 0 (d + 1) mX12_noFamily 19 [some (.inr (.inr (0, 47))), some (.inl a1)] ([.inl (if ¬ v4 = 0 then (0 : Int32) else 1)]) (gzN, gzR0, I, J) 0 (gzE (.ok (some (.inl r))) (gzN, gzR0, I, J)) := by
    cases h; exact gz_zret (pc := 19) dX12_noFamily_19 rfl (by first | exact gz_ite01 | exact gz_ite10) ⟨rfl, rfl⟩
  refine gz_if_ne (pc := 11) (tgt := 18) dX12_noFamily_11 (by decide) (fun c => ?_) (fun c => ?_)
  · rw [if_pos c] at kj5
    refine gz_iconst (pc := 18) dX12_noFamily_18 (v := 0) (by decide) ?_
    exact kj5
  · rw [if_neg (show ¬ (¬ v4 = 0) from fun q => q c)] at kj5
    refine gz_iconst (pc := 14) dX12_noFamily_14 (v := 1) (by decide) ?_
    refine gz_goto (pc := 15) (tgt := 19) dX12_noFamily_15 (by decide) ?_
    exact kj5
/-! X12_noGrudge: noGrudge -/
def f_X12_noGrudge (I : gzIT) (a1 : Int32) : Option Int32 := Option.bind (f_X12_grudges I) (fun v2 => Option.bind (f_X12_in a1 0 (v2 - 1)) (fun v4 => some (if ¬ v4 = 0 then (0 : Int32) else 1)))
set_option maxRecDepth 20000 in
theorem c_X12_noGrudge {g : gzG} {d : Nat} {a1 : Int32} {I : gzIT} {J : gzJT} {r : Int32} (h : f_X12_noGrudge I a1 = some r) : gzC g 0 (d + 1) mX12_noGrudge [.inr (.inr (0, 47)), .inl a1] (gzN, gzR0, I, J) (gzE (.ok (some (.inl r))) (gzN, gzR0, I, J)) := by
  unfold f_X12_noGrudge at h
  refine gzC_of (by decide +kernel) (Nat.le_of_ble_eq_true rfl) (loc := [some (.inr (.inr (0, 47))), some (.inl a1)]) rfl ?_
  have z_0_47 : gzOk 0 47 gzN := gzOk_of (by decide)
  refine gz_iload_n (pc := 0) dX12_noGrudge_0 rfl ?_
  refine gz_iconst (pc := 1) dX12_noGrudge_1 (v := 0) (by decide) ?_
  refine gz_aload_n (pc := 2) dX12_noGrudge_2 rfl ?_
  refine gz_V (zy := mX12_grudges) (zc := 0) (pc := 3) [] rfl dX12_noGrudge_3 lkX12_73 MvX12_grudges rfl z_0_47 rfl rfl rfl (Or.inl rfl) (fun h => h) (by exact Nat.le_of_ble_eq_true rfl) ?_
  obtain ⟨v2, e1, h⟩ := gz_bd h
  refine gz_useI (c_X12_grudges e1) ?_
  refine gz_iconst (pc := 6) dX12_noGrudge_6 (v := 1) (by decide) ?_
  refine gz_isub (pc := 7) dX12_noGrudge_7  ?_
  refine gz_S (zy := mX12_in) (zc := 0) (pc := 8) [.inl a1, .inl 0, .inl (v2 - 1)] rfl dX12_noGrudge_8 lkX12_84 MsX12_in rfl (Or.inl rfl) (fun h => h) (by exact Nat.le_of_ble_eq_true rfl) ?_
  obtain ⟨v4, e3, h⟩ := gz_bd h
  refine gz_useI (c_X12_in e3) ?_
  have kj5 : gzX g 0 (d + 1) mX12_noGrudge 19 [some (.inr (.inr (0, 47))), some (.inl a1)] ([.inl (if ¬ v4 = 0 then (0 : Int32) else 1)]) (gzN, gzR0, I, J) 0 (gzE (.ok (some (.inl r))) (gzN, gzR0, I, J)) := by
    cases h; exact gz_zret (pc := 19) dX12_noGrudge_19 rfl (by first | exact gz_ite01 | exact gz_ite10) ⟨rfl, rfl⟩
  refine gz_if_ne (pc := 11) (tgt := 18) dX12_noGrudge_11 (by decide) (fun c => ?_) (fun c => ?_)
  · rw [if_pos c] at kj5
    refine gz_iconst (pc := 18) dX12_noGrudge_18 (v := 0) (by decide) ?_
    exact kj5
  · rw [if_neg (show ¬ (¬ v4 = 0) from fun q => q c)] at kj5
    refine gz_iconst (pc := 14) dX12_noGrudge_14 (v := 1) (by decide) ?_
    refine gz_goto (pc := 15) (tgt := 19) dX12_noGrudge_15 (by decide) ?_
    exact kj5
/-! X12_noSlight: noSlight -/
def f_X12_noSlight (a1 : Int32) : Option Int32 := Option.bind (f_X12_in a1 0 7) (fun v2 => some (if ¬ v2 = 0 then (0 : Int32) else 1))
set_option maxRecDepth 20000 in
theorem c_X12_noSlight {g : gzG} {d : Nat} {a1 : Int32} {I : gzIT} {J : gzJT} {r : Int32} (h : f_X12_noSlight a1 = some r) : gzC g 0 (d + 1) mX12_noSlight [.inl a1] (gzN, gzR0, I, J) (gzE (.ok (some (.inl r))) (gzN, gzR0, I, J)) := by
  unfold f_X12_noSlight at h
  refine gzC_of (by decide +kernel) (Nat.le_of_ble_eq_true rfl) (loc := [some (.inl a1)]) rfl ?_
  refine gz_iload_n (pc := 0) dX12_noSlight_0 rfl ?_
  refine gz_iconst (pc := 1) dX12_noSlight_1 (v := 0) (by decide) ?_
  refine gz_bipush (pc := 2) dX12_noSlight_2 (v := 7) (by decide) ?_
  refine gz_S (zy := mX12_in) (zc := 0) (pc := 4) [.inl a1, .inl 0, .inl 7] rfl dX12_noSlight_4 lkX12_84 MsX12_in rfl (Or.inl rfl) (fun h => h) (by exact Nat.le_of_ble_eq_true rfl) ?_
  obtain ⟨v2, e1, h⟩ := gz_bd h
  refine gz_useI (c_X12_in e1) ?_
  have kj3 : gzX g 0 (d + 1) mX12_noSlight 15 [some (.inl a1)] ([.inl (if ¬ v2 = 0 then (0 : Int32) else 1)]) (gzN, gzR0, I, J) 0 (gzE (.ok (some (.inl r))) (gzN, gzR0, I, J)) := by
    cases h; exact gz_zret (pc := 15) dX12_noSlight_15 rfl (by first | exact gz_ite01 | exact gz_ite10) ⟨rfl, rfl⟩
  refine gz_if_ne (pc := 7) (tgt := 14) dX12_noSlight_7 (by decide) (fun c => ?_) (fun c => ?_)
  · rw [if_pos c] at kj3
    refine gz_iconst (pc := 14) dX12_noSlight_14 (v := 0) (by decide) ?_
    exact kj3
  · rw [if_neg (show ¬ (¬ v2 = 0) from fun q => q c)] at kj3
    refine gz_iconst (pc := 10) dX12_noSlight_10 (v := 1) (by decide) ?_
    refine gz_goto (pc := 11) (tgt := 15) dX12_noSlight_11 (by decide) ?_
    exact kj3
/-! X12_heatNow: heatNow -/
def f_X12_heatNow (I : gzIT) : Option Int32 := gzGd (10 + ((I 0 48 4) - (I 0 48 4) / 4 * 4)) 2062 (some (I 0 48 ((10 + ((I 0 48 4) - (I 0 48 4) / 4 * 4)).toNatClampNeg)))
set_option maxRecDepth 20000 in
theorem c_X12_heatNow {g : gzG} {d : Nat} {I : gzIT} {J : gzJT} {r : Int32} (h : f_X12_heatNow I = some r) : gzC g 0 d mX12_heatNow [.inr (.inr (0, 47))] (gzN, gzR0, I, J) (gzE (.ok (some (.inl r))) (gzN, gzR0, I, J)) := by
  unfold f_X12_heatNow at h
  refine gzC_of (by decide +kernel) (Nat.le_of_ble_eq_true rfl) (loc := [some (.inr (.inr (0, 47)))]) rfl ?_
  have z_0_47 : gzOk 0 47 gzN := gzOk_of (by decide)
  have z_0_48 : gzOk 0 48 gzN := gzOk_of (by decide)
  refine gz_aload_n (pc := 0) dX12_heatNow_0 rfl ?_
  refine gr_X12_13 (pc := 1) dX12_heatNow_1 z_0_47 rfl ?_
  refine gz_bipush (pc := 4) dX12_heatNow_4 (v := 10) (by decide) ?_
  refine gz_aload_n (pc := 6) dX12_heatNow_6 rfl ?_
  refine gr_X12_13 (pc := 7) dX12_heatNow_7 z_0_47 rfl ?_
  refine gz_iconst (pc := 10) dX12_heatNow_10 (v := 4) (by decide) ?_
  refine gz_iald2 (pc := 11) dX12_heatNow_11 (k := 4) (v := I 0 48 4) z_0_48 rfl (gz_vpd (by decide)) (by decide) rfl ?_
  refine gz_iconst (pc := 12) dX12_heatNow_12 (v := 4) (by decide) ?_
  refine gz_irem (pc := 13) dX12_heatNow_13 (by decide) ?_
  refine gz_iadd (pc := 14) dX12_heatNow_14  ?_
  obtain ⟨b2, h⟩ := gz_gd h
  refine gz_iald2 (pc := 15) dX12_heatNow_15 (k := (10 + ((I 0 48 4) - (I 0 48 4) / 4 * 4)).toNatClampNeg) (v := I 0 48 ((10 + ((I 0 48 4) - (I 0 48 4) / 4 * 4)).toNatClampNeg)) z_0_48 rfl b2 rfl rfl ?_
  cases h; exact gz_iret (pc := 16) dX12_heatNow_16 rfl ⟨rfl, rfl⟩
/-! X12_drawn: drawn -/
def f_X12_drawn (a1 : Int32) (I : gzIT) (J : gzJT) : Option (Int32 × gzIT × gzJT) := gzGn a1 (some ((((((1103515245 * (I 0 48 9)) + 12345) >>> ((16 : Int32) &&& 31)) &&& 32767) - ((((1103515245 * (I 0 48 9)) + 12345) >>> ((16 : Int32) &&& 31)) &&& 32767) / a1 * a1), gz_ui I 0 48 9 ((1103515245 * (I 0 48 9)) + 12345), J))
set_option maxRecDepth 20000 in
theorem c_X12_drawn {g : gzG} {d : Nat} {a1 : Int32} {I : gzIT} {J : gzJT} {r : Int32 × gzIT × gzJT} (h : f_X12_drawn a1 I J = some r) : gzC g 0 d mX12_drawn [.inr (.inr (0, 47)), .inl a1] (gzN, gzR0, I, J) (gzE (.ok (some (.inl r.1))) (gzN, gzR0, r.2.1, r.2.2)) := by
  unfold f_X12_drawn at h
  refine gzC_of (by decide +kernel) (Nat.le_of_ble_eq_true rfl) (loc := [some (.inr (.inr (0, 47))), some (.inl a1)]) rfl ?_
  have z_0_47 : gzOk 0 47 gzN := gzOk_of (by decide)
  have z_0_48 : gzOk 0 48 gzN := gzOk_of (by decide)
  refine gz_aload_n (pc := 0) dX12_drawn_0 rfl ?_
  refine gr_X12_13 (pc := 1) dX12_drawn_1 z_0_47 rfl ?_
  refine gz_bipush (pc := 4) dX12_drawn_4 (v := 9) (by decide) ?_
  refine gz_ldc (pc := 6) dX12_drawn_6 kcX12_88.1 kcX12_88.2 ?_
  refine gz_aload_n (pc := 8) dX12_drawn_8 rfl ?_
  refine gr_X12_13 (pc := 9) dX12_drawn_9 z_0_47 rfl ?_
  refine gz_bipush (pc := 12) dX12_drawn_12 (v := 9) (by decide) ?_
  refine gz_iald2 (pc := 14) dX12_drawn_14 (k := 9) (v := I 0 48 9) z_0_48 rfl (gz_vpd (by decide)) (by decide) rfl ?_
  refine gz_imul (pc := 15) dX12_drawn_15  ?_
  refine gz_sipush (pc := 16) dX12_drawn_16 (v := 12345) (by decide) ?_
  refine gz_iadd (pc := 19) dX12_drawn_19  ?_
  refine gz_iast2 (pc := 20) dX12_drawn_20 (k := 9) z_0_48 rfl (gz_vpd (by decide)) (by decide) ?_
  refine gz_aload_n (pc := 21) dX12_drawn_21 rfl ?_
  refine gr_X12_13 (pc := 22) dX12_drawn_22 z_0_47 rfl ?_
  refine gz_bipush (pc := 25) dX12_drawn_25 (v := 9) (by decide) ?_
  refine gz_iald2 (pc := 27) dX12_drawn_27 (k := 9) (v := (1103515245 * (I 0 48 9)) + 12345) z_0_48 rfl (gz_vpd (by decide)) (by decide) (gz_ui_s) ?_
  refine gz_bipush (pc := 28) dX12_drawn_28 (v := 16) (by decide) ?_
  refine gz_ishr (pc := 30) dX12_drawn_30  ?_
  refine gz_sipush (pc := 31) dX12_drawn_31 (v := 32767) (by decide) ?_
  refine gz_iand (pc := 34) dX12_drawn_34  ?_
  refine gz_iload_n (pc := 35) dX12_drawn_35 rfl ?_
  obtain ⟨n1, h⟩ := gz_gn h
  refine gz_irem (pc := 36) dX12_drawn_36 n1 ?_
  cases h; exact gz_iret (pc := 37) dX12_drawn_37 rfl ⟨rfl, rfl⟩
/-! X12_feed: feed -/
def gP_X12_feed_60 (g : gzG) (d : Nat) (r : Int32 × gzIT × gzJT) (x6 : Int32) (I : gzIT) (J : gzJT) : Prop := gzX g 0 d mX12_feed 60 [some (.inr (.inr (0, 47))), none, none, none, none, none, some (.inl x6)] [] (gzN, gzR0, I, J) 0 (gzE (.ok (some (.inl r.1))) (gzN, gzR0, r.2.1, r.2.2))
def f_X12_feed_60 (φ : Nat) : Nat → Int32 → gzIT → gzJT → Option (Int32 × gzIT × gzJT)
  | 0, _, _, _ => none
  | k + 1, x6, I, J => if 20 ≤ x6 then (some (((I 0 47 9) + 20), gz_ui I 0 47 9 ((I 0 47 9) + 20), J)) else (gzGd (x6 / 4) 5 (gzGd ((I 0 47 9) + x6) 400 (f_X12_feed_60 φ k (x6 + 1) (gz_ui I 0 53 (((I 0 47 9) + x6).toNatClampNeg) ((((I 0 54 ((x6 / 4).toNatClampNeg)) >>> ((24 - (8 * (x6 - x6 / 4 * 4))) &&& 31)).toInt8.toInt32).toInt8.toInt32)) J)))
set_option maxRecDepth 20000 in
theorem p_X12_feed_60 {g : gzG} {d φ : Nat} {r : Int32 × gzIT × gzJT} : ∀ (k : Nat) (x6 : Int32) (I : gzIT) (J : gzJT), f_X12_feed_60 φ k x6 I J = some r → gP_X12_feed_60 g d r x6 I J := by
  intro k; induction k with
  | zero => intro x6 I J h; cases h
  | succ k ih =>
    intro x6 I J h
    unfold f_X12_feed_60 at h
    unfold gP_X12_feed_60
    have z_0_47 : gzOk 0 47 gzN := gzOk_of (by decide)
    have z_0_54 : gzOk 0 54 gzN := gzOk_of (by decide)
    have z_0_53 : gzOk 0 53 gzN := gzOk_of (by decide)
    refine gz_iload (pc := 60) dX12_feed_60 rfl ?_
    refine gz_bipush (pc := 62) dX12_feed_62 (v := 20) (by decide) ?_
    refine gz_ic_ge (pc := 64) (tgt := 106) dX12_feed_64 (by decide) (fun c => ?_) (fun c => ?_)
    · replace h := gz_ifp c h
      refine gz_aload_n (pc := 106) dX12_feed_106 rfl ?_
      refine gz_dupR (pc := 107) dX12_feed_107  ?_
      refine gi_X12_89 (pc := 108) dX12_feed_108 (v := I 0 47 9) z_0_47 rfl rfl ?_
      refine gz_bipush (pc := 111) dX12_feed_111 (v := 20) (by decide) ?_
      refine gz_iadd (pc := 113) dX12_feed_113  ?_
      refine gp_X12_89 (pc := 114) dX12_feed_114 z_0_47 rfl ?_
      refine gz_aload_n (pc := 117) dX12_feed_117 rfl ?_
      refine gi_X12_89 (pc := 118) dX12_feed_118 (v := (I 0 47 9) + 20) z_0_47 (gz_ui_s) rfl ?_
      cases h; exact gz_iret (pc := 121) dX12_feed_121 rfl ⟨rfl, rfl⟩
    · replace h := gz_ifn c h
      refine gz_aload_n (pc := 67) dX12_feed_67 rfl ?_
      refine gr_X12_29 (pc := 68) dX12_feed_68 z_0_47 rfl ?_
      refine gz_aload_n (pc := 71) dX12_feed_71 rfl ?_
      refine gi_X12_89 (pc := 72) dX12_feed_72 (v := I 0 47 9) z_0_47 rfl rfl ?_
      refine gz_iload (pc := 75) dX12_feed_75 rfl ?_
      refine gz_iadd (pc := 77) dX12_feed_77  ?_
      refine gz_aload_n (pc := 78) dX12_feed_78 rfl ?_
      refine gr_X12_36 (pc := 79) dX12_feed_79 z_0_47 rfl ?_
      refine gz_iload (pc := 82) dX12_feed_82 rfl ?_
      refine gz_iconst (pc := 84) dX12_feed_84 (v := 4) (by decide) ?_
      refine gz_idiv (pc := 85) dX12_feed_85 (by decide) ?_
      obtain ⟨b2, h⟩ := gz_gd h
      refine gz_iald2 (pc := 86) dX12_feed_86 (k := (x6 / 4).toNatClampNeg) (v := I 0 54 ((x6 / 4).toNatClampNeg)) z_0_54 rfl b2 rfl rfl ?_
      refine gz_bipush (pc := 87) dX12_feed_87 (v := 24) (by decide) ?_
      refine gz_bipush (pc := 89) dX12_feed_89 (v := 8) (by decide) ?_
      refine gz_iload (pc := 91) dX12_feed_91 rfl ?_
      refine gz_iconst (pc := 93) dX12_feed_93 (v := 4) (by decide) ?_
      refine gz_irem (pc := 94) dX12_feed_94 (by decide) ?_
      refine gz_imul (pc := 95) dX12_feed_95  ?_
      refine gz_isub (pc := 96) dX12_feed_96  ?_
      refine gz_ishr (pc := 97) dX12_feed_97  ?_
      refine gz_i2b (pc := 98) dX12_feed_98  ?_
      obtain ⟨b4, h⟩ := gz_gd h
      refine gz_bast2 (pc := 99) dX12_feed_99 (k := ((I 0 47 9) + x6).toNatClampNeg) z_0_53 rfl b4 rfl ?_
      refine gz_iinc (pc := 100) dX12_feed_100 (x := x6) (v := x6 + 1) rfl (by rw [show Int32.ofInt 1 = 1 by decide]) (by decide) rfl (loc2 := [some (.inr (.inr (0, 47))), none, none, none, none, none, some (.inl (x6 + 1))]) rfl ?_
      refine gz_goto (pc := 103) (tgt := 60) dX12_feed_103 (by decide) ?_
      exact ih (x6 + 1) (gz_ui I 0 53 (((I 0 47 9) + x6).toNatClampNeg) ((((I 0 54 ((x6 / 4).toNatClampNeg)) >>> ((24 - (8 * (x6 - x6 / 4 * 4))) &&& 31)).toInt8.toInt32).toInt8.toInt32)) J h
def f_X12_feed (φ : Nat) (a1 : Int32) (a2 : Int32) (a3 : Int32) (a4 : Int32) (a5 : Int32) (I : gzIT) (J : gzJT) : Option (Int32 × gzIT × gzJT) := if (I 0 47 9) + 20 ≤ 400 then (f_X12_feed_60 φ φ 0 (gz_ui (gz_ui (gz_ui (gz_ui (gz_ui (gz_ui I 0 47 0 0) 0 54 0 a1) 0 54 1 a2) 0 54 2 a3) 0 54 3 a4) 0 54 4 a5) J) else (some ((-1), gz_ui I 0 47 0 0, J))
set_option maxRecDepth 20000 in
theorem c_X12_feed {g : gzG} {d φ : Nat} {a1 : Int32} {a2 : Int32} {a3 : Int32} {a4 : Int32} {a5 : Int32} {I : gzIT} {J : gzJT} {r : Int32 × gzIT × gzJT} (h : f_X12_feed φ a1 a2 a3 a4 a5 I J = some r) : gzC g 0 d mX12_feed [.inr (.inr (0, 47)), .inl a1, .inl a2, .inl a3, .inl a4, .inl a5] (gzN, gzR0, I, J) (gzE (.ok (some (.inl r.1))) (gzN, gzR0, r.2.1, r.2.2)) := by
  unfold f_X12_feed at h
  refine gzC_of (by decide +kernel) (Nat.le_of_ble_eq_true rfl) (loc := [some (.inr (.inr (0, 47))), some (.inl a1), some (.inl a2), some (.inl a3), some (.inl a4), some (.inl a5), none]) rfl ?_
  have z_0_47 : gzOk 0 47 gzN := gzOk_of (by decide)
  have z_0_54 : gzOk 0 54 gzN := gzOk_of (by decide)
  refine gz_aload_n (pc := 0) dX12_feed_0 rfl ?_
  refine gz_iconst (pc := 1) dX12_feed_1 (v := 0) (by decide) ?_
  refine gp_X12_3 (pc := 2) dX12_feed_2 z_0_47 rfl ?_
  refine gz_aload_n (pc := 5) dX12_feed_5 rfl ?_
  refine gi_X12_89 (pc := 6) dX12_feed_6 (v := I 0 47 9) z_0_47 (gz_ui_k (by decide)) rfl ?_
  refine gz_bipush (pc := 9) dX12_feed_9 (v := 20) (by decide) ?_
  refine gz_iadd (pc := 11) dX12_feed_11  ?_
  refine gz_sipush (pc := 12) dX12_feed_12 (v := 400) (by decide) ?_
  refine gz_ic_le (pc := 15) (tgt := 20) dX12_feed_15 (by decide) (fun c => ?_) (fun c => ?_)
  · replace h := gz_ifp c h
    refine gz_aload_n (pc := 20) dX12_feed_20 rfl ?_
    refine gr_X12_36 (pc := 21) dX12_feed_21 z_0_47 rfl ?_
    refine gz_iconst (pc := 24) dX12_feed_24 (v := 0) (by decide) ?_
    refine gz_iload_n (pc := 25) dX12_feed_25 rfl ?_
    refine gz_iast2 (pc := 26) dX12_feed_26 (k := 0) z_0_54 rfl (gz_vpd (by decide)) (by decide) ?_
    refine gz_aload_n (pc := 27) dX12_feed_27 rfl ?_
    refine gr_X12_36 (pc := 28) dX12_feed_28 z_0_47 rfl ?_
    refine gz_iconst (pc := 31) dX12_feed_31 (v := 1) (by decide) ?_
    refine gz_iload_n (pc := 32) dX12_feed_32 rfl ?_
    refine gz_iast2 (pc := 33) dX12_feed_33 (k := 1) z_0_54 rfl (gz_vpd (by decide)) (by decide) ?_
    refine gz_aload_n (pc := 34) dX12_feed_34 rfl ?_
    refine gr_X12_36 (pc := 35) dX12_feed_35 z_0_47 rfl ?_
    refine gz_iconst (pc := 38) dX12_feed_38 (v := 2) (by decide) ?_
    refine gz_iload_n (pc := 39) dX12_feed_39 rfl ?_
    refine gz_iast2 (pc := 40) dX12_feed_40 (k := 2) z_0_54 rfl (gz_vpd (by decide)) (by decide) ?_
    refine gz_aload_n (pc := 41) dX12_feed_41 rfl ?_
    refine gr_X12_36 (pc := 42) dX12_feed_42 z_0_47 rfl ?_
    refine gz_iconst (pc := 45) dX12_feed_45 (v := 3) (by decide) ?_
    refine gz_iload (pc := 46) dX12_feed_46 rfl ?_
    refine gz_iast2 (pc := 48) dX12_feed_48 (k := 3) z_0_54 rfl (gz_vpd (by decide)) (by decide) ?_
    refine gz_aload_n (pc := 49) dX12_feed_49 rfl ?_
    refine gr_X12_36 (pc := 50) dX12_feed_50 z_0_47 rfl ?_
    refine gz_iconst (pc := 53) dX12_feed_53 (v := 4) (by decide) ?_
    refine gz_iload (pc := 54) dX12_feed_54 rfl ?_
    refine gz_iast2 (pc := 56) dX12_feed_56 (k := 4) z_0_54 rfl (gz_vpd (by decide)) (by decide) ?_
    refine gz_iconst (pc := 57) dX12_feed_57 (v := 0) (by decide) ?_
    refine gz_istore (pc := 58) dX12_feed_58 (by decide) rfl (loc2 := [some (.inr (.inr (0, 47))), some (.inl a1), some (.inl a2), some (.inl a3), some (.inl a4), some (.inl a5), some (.inl 0)]) rfl ?_
    exact gz_weak (loc2 := [some (.inr (.inr (0, 47))), none, none, none, none, none, some (.inl 0)]) (p_X12_feed_60 φ 0 (gz_ui (gz_ui (gz_ui (gz_ui (gz_ui (gz_ui I 0 47 0 0) 0 54 0 a1) 0 54 1 a2) 0 54 2 a3) 0 54 3 a4) 0 54 4 a5) J h) (by repeat (first | exact trivial | refine ⟨rfl, ?_⟩))
  · replace h := gz_ifn c h
    refine gz_iconst (pc := 18) dX12_feed_18 (v := (-1)) (by decide) ?_
    cases h; exact gz_iret (pc := 19) dX12_feed_19 rfl ⟨rfl, rfl⟩
/-! X12_end: end -/
def f_X12_end (a1 : Int32) (I : gzIT) (J : gzJT) : Option (Int32 × gzIT × gzJT) := if a1 < 0 then (some (0, gz_ui I 0 47 0 0, J)) else (if a1 ≤ I 0 47 9 then (some (1, gz_ui (gz_ui I 0 47 0 0) 0 47 9 a1, J)) else (some (0, gz_ui I 0 47 0 0, J)))
set_option maxRecDepth 20000 in
theorem c_X12_end {g : gzG} {d : Nat} {a1 : Int32} {I : gzIT} {J : gzJT} {r : Int32 × gzIT × gzJT} (h : f_X12_end a1 I J = some r) : gzC g 0 d mX12_end [.inr (.inr (0, 47)), .inl a1] (gzN, gzR0, I, J) (gzE (.ok (some (.inl r.1))) (gzN, gzR0, r.2.1, r.2.2)) := by
  unfold f_X12_end at h
  refine gzC_of (by decide +kernel) (Nat.le_of_ble_eq_true rfl) (loc := [some (.inr (.inr (0, 47))), some (.inl a1)]) rfl ?_
  have z_0_47 : gzOk 0 47 gzN := gzOk_of (by decide)
  refine gz_aload_n (pc := 0) dX12_end_0 rfl ?_
  refine gz_iconst (pc := 1) dX12_end_1 (v := 0) (by decide) ?_
  refine gp_X12_3 (pc := 2) dX12_end_2 z_0_47 rfl ?_
  refine gz_iload_n (pc := 5) dX12_end_5 rfl ?_
  refine gz_if_lt (pc := 6) (tgt := 17) dX12_end_6 (by decide) (fun c => ?_) (fun c => ?_)
  · replace h := gz_ifp c h
    refine gz_iconst (pc := 17) dX12_end_17 (v := 0) (by decide) ?_
    cases h; exact gz_zret (pc := 18) dX12_end_18 rfl (by decide) ⟨rfl, rfl⟩
  · replace h := gz_ifn c h
    refine gz_iload_n (pc := 9) dX12_end_9 rfl ?_
    refine gz_aload_n (pc := 10) dX12_end_10 rfl ?_
    refine gi_X12_89 (pc := 11) dX12_end_11 (v := I 0 47 9) z_0_47 (gz_ui_k (by decide)) rfl ?_
    refine gz_ic_le (pc := 14) (tgt := 19) dX12_end_14 (by decide) (fun c => ?_) (fun c => ?_)
    · replace h := gz_ifp c h
      refine gz_aload_n (pc := 19) dX12_end_19 rfl ?_
      refine gz_iload_n (pc := 20) dX12_end_20 rfl ?_
      refine gp_X12_89 (pc := 21) dX12_end_21 z_0_47 rfl ?_
      refine gz_iconst (pc := 24) dX12_end_24 (v := 1) (by decide) ?_
      cases h; exact gz_zret (pc := 25) dX12_end_25 rfl (by decide) ⟨rfl, rfl⟩
    · replace h := gz_ifn c h
      refine gz_iconst (pc := 17) dX12_end_17 (v := 0) (by decide) ?_
      cases h; exact gz_zret (pc := 18) dX12_end_18 rfl (by decide) ⟨rfl, rfl⟩
/-! X12_isAt: isAt -/
def f_X12_isAt (I : gzIT) (a1 : Int32) (a2 : Int32) : Option Int32 := if I 0 47 11 ≤ I 0 47 10 then (some 0) else (gzGd (I 0 47 10) 400 (if I 0 53 ((I 0 47 10).toNatClampNeg) < a1 then (some 0) else (if a2 < I 0 53 ((I 0 47 10).toNatClampNeg) then (some 0) else (some 1))))
set_option maxRecDepth 20000 in
theorem c_X12_isAt {g : gzG} {d : Nat} {a1 : Int32} {a2 : Int32} {I : gzIT} {J : gzJT} {r : Int32} (h : f_X12_isAt I a1 a2 = some r) : gzC g 0 d mX12_isAt [.inr (.inr (0, 47)), .inl a1, .inl a2] (gzN, gzR0, I, J) (gzE (.ok (some (.inl r))) (gzN, gzR0, I, J)) := by
  unfold f_X12_isAt at h
  refine gzC_of (by decide +kernel) (Nat.le_of_ble_eq_true rfl) (loc := [some (.inr (.inr (0, 47))), some (.inl a1), some (.inl a2)]) rfl ?_
  have z_0_47 : gzOk 0 47 gzN := gzOk_of (by decide)
  have z_0_53 : gzOk 0 53 gzN := gzOk_of (by decide)
  refine gz_aload_n (pc := 0) dX12_isAt_0 rfl ?_
  refine gi_X12_92 (pc := 1) dX12_isAt_1 (v := I 0 47 10) z_0_47 rfl rfl ?_
  refine gz_aload_n (pc := 4) dX12_isAt_4 rfl ?_
  refine gi_X12_95 (pc := 5) dX12_isAt_5 (v := I 0 47 11) z_0_47 rfl rfl ?_
  refine gz_ic_ge (pc := 8) (tgt := 41) dX12_isAt_8 (by decide) (fun c => ?_) (fun c => ?_)
  · replace h := gz_ifp c h
    refine gz_iconst (pc := 41) dX12_isAt_41 (v := 0) (by decide) ?_
    cases h; exact gz_zret (pc := 42) dX12_isAt_42 rfl (by decide) ⟨rfl, rfl⟩
  · replace h := gz_ifn c h
    refine gz_aload_n (pc := 11) dX12_isAt_11 rfl ?_
    refine gr_X12_29 (pc := 12) dX12_isAt_12 z_0_47 rfl ?_
    refine gz_aload_n (pc := 15) dX12_isAt_15 rfl ?_
    refine gi_X12_92 (pc := 16) dX12_isAt_16 (v := I 0 47 10) z_0_47 rfl rfl ?_
    obtain ⟨b1, h⟩ := gz_gd h
    refine gz_bald2 (pc := 19) dX12_isAt_19 (k := (I 0 47 10).toNatClampNeg) (v := I 0 53 ((I 0 47 10).toNatClampNeg)) z_0_53 rfl b1 rfl rfl ?_
    refine gz_iload_n (pc := 20) dX12_isAt_20 rfl ?_
    refine gz_ic_lt (pc := 21) (tgt := 41) dX12_isAt_21 (by decide) (fun c => ?_) (fun c => ?_)
    · replace h := gz_ifp c h
      refine gz_iconst (pc := 41) dX12_isAt_41 (v := 0) (by decide) ?_
      cases h; exact gz_zret (pc := 42) dX12_isAt_42 rfl (by decide) ⟨rfl, rfl⟩
    · replace h := gz_ifn c h
      refine gz_aload_n (pc := 24) dX12_isAt_24 rfl ?_
      refine gr_X12_29 (pc := 25) dX12_isAt_25 z_0_47 rfl ?_
      refine gz_aload_n (pc := 28) dX12_isAt_28 rfl ?_
      refine gi_X12_92 (pc := 29) dX12_isAt_29 (v := I 0 47 10) z_0_47 rfl rfl ?_
      refine gz_bald2 (pc := 32) dX12_isAt_32 (k := (I 0 47 10).toNatClampNeg) (v := I 0 53 ((I 0 47 10).toNatClampNeg)) z_0_53 rfl b1 rfl rfl ?_
      refine gz_iload_n (pc := 33) dX12_isAt_33 rfl ?_
      refine gz_ic_gt (pc := 34) (tgt := 41) dX12_isAt_34 (by decide) (fun c => ?_) (fun c => ?_)
      · replace h := gz_ifp c h
        refine gz_iconst (pc := 41) dX12_isAt_41 (v := 0) (by decide) ?_
        cases h; exact gz_zret (pc := 42) dX12_isAt_42 rfl (by decide) ⟨rfl, rfl⟩
      · replace h := gz_ifn c h
        refine gz_iconst (pc := 37) dX12_isAt_37 (v := 1) (by decide) ?_
        refine gz_goto (pc := 38) (tgt := 42) dX12_isAt_38 (by decide) ?_
        cases h; exact gz_zret (pc := 42) dX12_isAt_42 rfl (by decide) ⟨rfl, rfl⟩
/-! X12_blanks: blanks -/
def gP_X12_blanks_0 (g : gzG) (d : Nat) (r : Unit × gzIT × gzJT) (I : gzIT) (J : gzJT) : Prop := gzX g 0 (d + 1) mX12_blanks 0 [some (.inr (.inr (0, 47)))] [] (gzN, gzR0, I, J) 0 (gzE (.ok none) (gzN, gzR0, r.2.1, r.2.2))
def f_X12_blanks_0 (φ : Nat) : Nat → gzIT → gzJT → Option (Unit × gzIT × gzJT)
  | 0, _, _ => none
  | k + 1, I, J => Option.bind (f_X12_isAt I 32 32) (fun v4 => if v4 = 0 then (some ((), gz_ui I 0 47 12 (I 0 47 10), J)) else (f_X12_blanks_0 φ k (gz_ui I 0 47 10 ((I 0 47 10) + 1)) J))
set_option maxRecDepth 20000 in
theorem p_X12_blanks_0 {g : gzG} {d φ : Nat} {r : Unit × gzIT × gzJT} : ∀ (k : Nat) (I : gzIT) (J : gzJT), f_X12_blanks_0 φ k I J = some r → gP_X12_blanks_0 g d r I J := by
  intro k; induction k with
  | zero => intro I J h; cases h
  | succ k ih =>
    intro I J h
    unfold f_X12_blanks_0 at h
    unfold gP_X12_blanks_0
    have z_0_47 : gzOk 0 47 gzN := gzOk_of (by decide)
    refine gz_aload_n (pc := 0) dX12_blanks_0 rfl ?_
    refine gz_bipush (pc := 1) dX12_blanks_1 (v := 32) (by decide) ?_
    refine gz_bipush (pc := 3) dX12_blanks_3 (v := 32) (by decide) ?_
    refine gz_V (zy := mX12_isAt) (zc := 0) (pc := 5) [.inl 32, .inl 32] rfl dX12_blanks_5 lkX12_98 MvX12_isAt rfl z_0_47 rfl rfl rfl (Or.inl rfl) (fun h => h) (by exact Nat.le_of_ble_eq_true rfl) ?_
    obtain ⟨v4, e3, h⟩ := gz_bd h
    refine gz_useI (c_X12_isAt e3) ?_
    refine gz_if_eq (pc := 8) (tgt := 24) dX12_blanks_8 (by decide) (fun c => ?_) (fun c => ?_)
    · replace h := gz_ifp c h
      refine gz_aload_n (pc := 24) dX12_blanks_24 rfl ?_
      refine gz_aload_n (pc := 25) dX12_blanks_25 rfl ?_
      refine gi_X12_92 (pc := 26) dX12_blanks_26 (v := I 0 47 10) z_0_47 rfl rfl ?_
      refine gp_X12_101 (pc := 29) dX12_blanks_29 z_0_47 rfl ?_
      cases h; exact gz_vret (pc := 32) dX12_blanks_32 rfl ⟨rfl, rfl⟩
    · replace h := gz_ifn c h
      refine gz_aload_n (pc := 11) dX12_blanks_11 rfl ?_
      refine gz_dupR (pc := 12) dX12_blanks_12  ?_
      refine gi_X12_92 (pc := 13) dX12_blanks_13 (v := I 0 47 10) z_0_47 rfl rfl ?_
      refine gz_iconst (pc := 16) dX12_blanks_16 (v := 1) (by decide) ?_
      refine gz_iadd (pc := 17) dX12_blanks_17  ?_
      refine gp_X12_92 (pc := 18) dX12_blanks_18 z_0_47 rfl ?_
      refine gz_goto (pc := 21) (tgt := 0) dX12_blanks_21 (by decide) ?_
      exact ih (gz_ui I 0 47 10 ((I 0 47 10) + 1)) J h
def f_X12_blanks (φ : Nat) (I : gzIT) (J : gzJT) : Option (Unit × gzIT × gzJT) := Option.bind (f_X12_isAt I 32 32) (fun v2 => if v2 = 0 then (some ((), gz_ui I 0 47 12 (I 0 47 10), J)) else (f_X12_blanks_0 φ φ (gz_ui I 0 47 10 ((I 0 47 10) + 1)) J))
set_option maxRecDepth 20000 in
theorem c_X12_blanks {g : gzG} {d φ : Nat} {I : gzIT} {J : gzJT} {r : Unit × gzIT × gzJT} (h : f_X12_blanks φ I J = some r) : gzC g 0 (d + 1) mX12_blanks [.inr (.inr (0, 47))] (gzN, gzR0, I, J) (gzE (.ok none) (gzN, gzR0, r.2.1, r.2.2)) := by
  unfold f_X12_blanks at h
  refine gzC_of (by decide +kernel) (Nat.le_of_ble_eq_true rfl) (loc := [some (.inr (.inr (0, 47)))]) rfl ?_
  have z_0_47 : gzOk 0 47 gzN := gzOk_of (by decide)
  refine gz_aload_n (pc := 0) dX12_blanks_0 rfl ?_
  refine gz_bipush (pc := 1) dX12_blanks_1 (v := 32) (by decide) ?_
  refine gz_bipush (pc := 3) dX12_blanks_3 (v := 32) (by decide) ?_
  refine gz_V (zy := mX12_isAt) (zc := 0) (pc := 5) [.inl 32, .inl 32] rfl dX12_blanks_5 lkX12_98 MvX12_isAt rfl z_0_47 rfl rfl rfl (Or.inl rfl) (fun h => h) (by exact Nat.le_of_ble_eq_true rfl) ?_
  obtain ⟨v2, e1, h⟩ := gz_bd h
  refine gz_useI (c_X12_isAt e1) ?_
  refine gz_if_eq (pc := 8) (tgt := 24) dX12_blanks_8 (by decide) (fun c => ?_) (fun c => ?_)
  · replace h := gz_ifp c h
    refine gz_aload_n (pc := 24) dX12_blanks_24 rfl ?_
    refine gz_aload_n (pc := 25) dX12_blanks_25 rfl ?_
    refine gi_X12_92 (pc := 26) dX12_blanks_26 (v := I 0 47 10) z_0_47 rfl rfl ?_
    refine gp_X12_101 (pc := 29) dX12_blanks_29 z_0_47 rfl ?_
    cases h; exact gz_vret (pc := 32) dX12_blanks_32 rfl ⟨rfl, rfl⟩
  · replace h := gz_ifn c h
    refine gz_aload_n (pc := 11) dX12_blanks_11 rfl ?_
    refine gz_dupR (pc := 12) dX12_blanks_12  ?_
    refine gi_X12_92 (pc := 13) dX12_blanks_13 (v := I 0 47 10) z_0_47 rfl rfl ?_
    refine gz_iconst (pc := 16) dX12_blanks_16 (v := 1) (by decide) ?_
    refine gz_iadd (pc := 17) dX12_blanks_17  ?_
    refine gp_X12_92 (pc := 18) dX12_blanks_18 z_0_47 rfl ?_
    refine gz_goto (pc := 21) (tgt := 0) dX12_blanks_21 (by decide) ?_
    exact p_X12_blanks_0 φ (gz_ui I 0 47 10 ((I 0 47 10) + 1)) J h
/-! X12_letters: letters -/
def gP_X12_letters_4 (g : gzG) (d : Nat) (r : Unit × gzIT × gzJT) (I : gzIT) (J : gzJT) : Prop := gzX g 0 (d + 2) mX12_letters 4 [some (.inr (.inr (0, 47)))] [] (gzN, gzR0, I, J) 0 (gzE (.ok none) (gzN, gzR0, r.2.1, r.2.2))
def f_X12_letters_4 (φ : Nat) : Nat → gzIT → gzJT → Option (Unit × gzIT × gzJT)
  | 0, _, _ => none
  | k + 1, I, J => Option.bind (f_X12_isAt I 97 122) (fun v4 => if v4 = 0 then (some ((), I, J)) else (f_X12_letters_4 φ k (gz_ui I 0 47 10 ((I 0 47 10) + 1)) J))
set_option maxRecDepth 20000 in
theorem p_X12_letters_4 {g : gzG} {d φ : Nat} {r : Unit × gzIT × gzJT} : ∀ (k : Nat) (I : gzIT) (J : gzJT), f_X12_letters_4 φ k I J = some r → gP_X12_letters_4 g d r I J := by
  intro k; induction k with
  | zero => intro I J h; cases h
  | succ k ih =>
    intro I J h
    unfold f_X12_letters_4 at h
    unfold gP_X12_letters_4
    have z_0_47 : gzOk 0 47 gzN := gzOk_of (by decide)
    refine gz_aload_n (pc := 4) dX12_letters_4 rfl ?_
    refine gz_bipush (pc := 5) dX12_letters_5 (v := 97) (by decide) ?_
    refine gz_bipush (pc := 7) dX12_letters_7 (v := 122) (by decide) ?_
    refine gz_V (zy := mX12_isAt) (zc := 0) (pc := 9) [.inl 97, .inl 122] rfl dX12_letters_9 lkX12_98 MvX12_isAt rfl z_0_47 rfl rfl rfl (Or.inl rfl) (fun h => h) (by exact Nat.le_of_ble_eq_true rfl) ?_
    obtain ⟨v4, e3, h⟩ := gz_bd h
    refine gz_useI (c_X12_isAt e3) ?_
    refine gz_if_eq (pc := 12) (tgt := 28) dX12_letters_12 (by decide) (fun c => ?_) (fun c => ?_)
    · replace h := gz_ifp c h
      cases h; exact gz_vret (pc := 28) dX12_letters_28 rfl ⟨rfl, rfl⟩
    · replace h := gz_ifn c h
      refine gz_aload_n (pc := 15) dX12_letters_15 rfl ?_
      refine gz_dupR (pc := 16) dX12_letters_16  ?_
      refine gi_X12_92 (pc := 17) dX12_letters_17 (v := I 0 47 10) z_0_47 rfl rfl ?_
      refine gz_iconst (pc := 20) dX12_letters_20 (v := 1) (by decide) ?_
      refine gz_iadd (pc := 21) dX12_letters_21  ?_
      refine gp_X12_92 (pc := 22) dX12_letters_22 z_0_47 rfl ?_
      refine gz_goto (pc := 25) (tgt := 4) dX12_letters_25 (by decide) ?_
      exact ih (gz_ui I 0 47 10 ((I 0 47 10) + 1)) J h
def f_X12_letters (φ : Nat) (I : gzIT) (J : gzJT) : Option (Unit × gzIT × gzJT) := Option.bind (f_X12_blanks φ I J) (fun v2 => f_X12_letters_4 φ φ v2.2.1 v2.2.2)
set_option maxRecDepth 20000 in
theorem c_X12_letters {g : gzG} {d φ : Nat} {I : gzIT} {J : gzJT} {r : Unit × gzIT × gzJT} (h : f_X12_letters φ I J = some r) : gzC g 0 (d + 2) mX12_letters [.inr (.inr (0, 47))] (gzN, gzR0, I, J) (gzE (.ok none) (gzN, gzR0, r.2.1, r.2.2)) := by
  unfold f_X12_letters at h
  refine gzC_of (by decide +kernel) (Nat.le_of_ble_eq_true rfl) (loc := [some (.inr (.inr (0, 47)))]) rfl ?_
  have z_0_47 : gzOk 0 47 gzN := gzOk_of (by decide)
  refine gz_aload_n (pc := 0) dX12_letters_0 rfl ?_
  refine gz_V (zy := mX12_blanks) (zc := 0) (pc := 1) [] rfl dX12_letters_1 lkX12_104 MvX12_blanks rfl z_0_47 rfl rfl rfl (Or.inl rfl) (fun h => h) (by exact Nat.le_of_ble_eq_true rfl) ?_
  obtain ⟨v2, e1, h⟩ := gz_bd h
  refine gz_useV (c_X12_blanks e1) ?_
  exact p_X12_letters_4 φ v2.2.1 v2.2.2 h
/-! X12_sign: sign -/
def f_X12_sign (φ : Nat) (a1 : Int32) (I : gzIT) (J : gzJT) : Option (Int32 × gzIT × gzJT) := Option.bind (f_X12_blanks φ I J) (fun v2 => Option.bind (f_X12_isAt v2.2.1 a1 a1) (fun v4 => if ¬ v4 = 0 then (some (1, gz_ui v2.2.1 0 47 10 ((v2.2.1 0 47 10) + 1), v2.2.2)) else (some (0, v2.2.1, v2.2.2))))
set_option maxRecDepth 20000 in
theorem c_X12_sign {g : gzG} {d φ : Nat} {a1 : Int32} {I : gzIT} {J : gzJT} {r : Int32 × gzIT × gzJT} (h : f_X12_sign φ a1 I J = some r) : gzC g 0 (d + 2) mX12_sign [.inr (.inr (0, 47)), .inl a1] (gzN, gzR0, I, J) (gzE (.ok (some (.inl r.1))) (gzN, gzR0, r.2.1, r.2.2)) := by
  unfold f_X12_sign at h
  refine gzC_of (by decide +kernel) (Nat.le_of_ble_eq_true rfl) (loc := [some (.inr (.inr (0, 47))), some (.inl a1)]) rfl ?_
  have z_0_47 : gzOk 0 47 gzN := gzOk_of (by decide)
  refine gz_aload_n (pc := 0) dX12_sign_0 rfl ?_
  refine gz_V (zy := mX12_blanks) (zc := 0) (pc := 1) [] rfl dX12_sign_1 lkX12_104 MvX12_blanks rfl z_0_47 rfl rfl rfl (Or.inl rfl) (fun h => h) (by exact Nat.le_of_ble_eq_true rfl) ?_
  obtain ⟨v2, e1, h⟩ := gz_bd h
  refine gz_useV (c_X12_blanks e1) ?_
  refine gz_aload_n (pc := 4) dX12_sign_4 rfl ?_
  refine gz_iload_n (pc := 5) dX12_sign_5 rfl ?_
  refine gz_iload_n (pc := 6) dX12_sign_6 rfl ?_
  refine gz_V (zy := mX12_isAt) (zc := 0) (pc := 7) [.inl a1, .inl a1] rfl dX12_sign_7 lkX12_98 MvX12_isAt rfl z_0_47 rfl rfl rfl (Or.inl rfl) (fun h => h) (by exact Nat.le_of_ble_eq_true rfl) ?_
  obtain ⟨v4, e3, h⟩ := gz_bd h
  refine gz_useI (c_X12_isAt e3) ?_
  refine gz_if_ne (pc := 10) (tgt := 15) dX12_sign_10 (by decide) (fun c => ?_) (fun c => ?_)
  · replace h := gz_ifp c h
    refine gz_aload_n (pc := 15) dX12_sign_15 rfl ?_
    refine gz_dupR (pc := 16) dX12_sign_16  ?_
    refine gi_X12_92 (pc := 17) dX12_sign_17 (v := v2.2.1 0 47 10) z_0_47 rfl rfl ?_
    refine gz_iconst (pc := 20) dX12_sign_20 (v := 1) (by decide) ?_
    refine gz_iadd (pc := 21) dX12_sign_21  ?_
    refine gp_X12_92 (pc := 22) dX12_sign_22 z_0_47 rfl ?_
    refine gz_iconst (pc := 25) dX12_sign_25 (v := 1) (by decide) ?_
    cases h; exact gz_zret (pc := 26) dX12_sign_26 rfl (by decide) ⟨rfl, rfl⟩
  · replace h := gz_ifn (fun q => q c) h
    refine gz_iconst (pc := 13) dX12_sign_13 (v := 0) (by decide) ?_
    cases h; exact gz_zret (pc := 14) dX12_sign_14 rfl (by decide) ⟨rfl, rfl⟩
/-! X12_number: number -/
def gP_X12_number_6 (g : gzG) (d : Nat) (r : Int32 × gzIT × gzJT) (x1 : Int32) (x2 : Int32) (x3 : Int32) (I : gzIT) (J : gzJT) : Prop := gzX g 0 (d + 2) mX12_number 6 [some (.inr (.inr (0, 47))), some (.inl x1), some (.inl x2), some (.inl x3)] [] (gzN, gzR0, I, J) 0 (gzE (.ok (some (.inl r.1))) (gzN, gzR0, r.2.1, r.2.2))
def f_X12_number_6 (φ : Nat) : Nat → Int32 → Int32 → Int32 → gzIT → gzJT → Option (Int32 × gzIT × gzJT)
  | 0, _, _, _, _, _ => none
  | k + 1, x1, x2, x3, I, J => Option.bind (f_X12_isAt I 48 57) (fun v4 => if v4 = 0 then (if I 0 47 10 = I 0 47 12 then (some ((-1), I, J)) else (if 3 < (I 0 47 10) - (I 0 47 12) then (some ((-1), I, J)) else (if x3 < x1 then (some ((-1), I, J)) else (some ((if x3 ≤ x2 then (x3 : Int32) else (-1)), I, J))))) else (if 3 ≤ (I 0 47 10) - (I 0 47 12) then (f_X12_number_6 φ k x1 x2 x3 (gz_ui I 0 47 10 ((I 0 47 10) + 1)) J) else (gzGd (I 0 47 10) 400 (f_X12_number_6 φ k x1 x2 (((10 * x3) + (I 0 53 ((I 0 47 10).toNatClampNeg))) - 48) (gz_ui I 0 47 10 ((I 0 47 10) + 1)) J))))
set_option maxRecDepth 20000 in
theorem p_X12_number_6 {g : gzG} {d φ : Nat} {r : Int32 × gzIT × gzJT} : ∀ (k : Nat) (x1 : Int32) (x2 : Int32) (x3 : Int32) (I : gzIT) (J : gzJT), f_X12_number_6 φ k x1 x2 x3 I J = some r → gP_X12_number_6 g d r x1 x2 x3 I J := by
  intro k; induction k with
  | zero => intro x1 x2 x3 I J h; cases h
  | succ k ih =>
    intro x1 x2 x3 I J h
    unfold f_X12_number_6 at h
    unfold gP_X12_number_6
    have z_0_47 : gzOk 0 47 gzN := gzOk_of (by decide)
    have z_0_53 : gzOk 0 53 gzN := gzOk_of (by decide)
    refine gz_aload_n (pc := 6) dX12_number_6 rfl ?_
    refine gz_bipush (pc := 7) dX12_number_7 (v := 48) (by decide) ?_
    refine gz_bipush (pc := 9) dX12_number_9 (v := 57) (by decide) ?_
    refine gz_V (zy := mX12_isAt) (zc := 0) (pc := 11) [.inl 48, .inl 57] rfl dX12_number_11 lkX12_98 MvX12_isAt rfl z_0_47 rfl rfl rfl (Or.inl rfl) (fun h => h) (by exact Nat.le_of_ble_eq_true rfl) ?_
    obtain ⟨v4, e3, h⟩ := gz_bd h
    refine gz_useI (c_X12_isAt e3) ?_
    refine gz_if_eq (pc := 14) (tgt := 65) dX12_number_14 (by decide) (fun c => ?_) (fun c => ?_)
    · replace h := gz_ifp c h
      refine gz_aload_n (pc := 65) dX12_number_65 rfl ?_
      refine gi_X12_92 (pc := 66) dX12_number_66 (v := I 0 47 10) z_0_47 rfl rfl ?_
      refine gz_aload_n (pc := 69) dX12_number_69 rfl ?_
      refine gi_X12_101 (pc := 70) dX12_number_70 (v := I 0 47 12) z_0_47 rfl rfl ?_
      refine gz_ic_eq (pc := 73) (tgt := 99) dX12_number_73 (by decide) (fun c => ?_) (fun c => ?_)
      · replace h := gz_ifp c h
        refine gz_iconst (pc := 99) dX12_number_99 (v := (-1)) (by decide) ?_
        refine gz_goto (pc := 100) (tgt := 104) dX12_number_100 (by decide) ?_
        cases h; exact gz_iret (pc := 104) dX12_number_104 rfl ⟨rfl, rfl⟩
      · replace h := gz_ifn c h
        refine gz_aload_n (pc := 76) dX12_number_76 rfl ?_
        refine gi_X12_92 (pc := 77) dX12_number_77 (v := I 0 47 10) z_0_47 rfl rfl ?_
        refine gz_aload_n (pc := 80) dX12_number_80 rfl ?_
        refine gi_X12_101 (pc := 81) dX12_number_81 (v := I 0 47 12) z_0_47 rfl rfl ?_
        refine gz_isub (pc := 84) dX12_number_84  ?_
        refine gz_iconst (pc := 85) dX12_number_85 (v := 3) (by decide) ?_
        refine gz_ic_gt (pc := 86) (tgt := 99) dX12_number_86 (by decide) (fun c => ?_) (fun c => ?_)
        · replace h := gz_ifp c h
          refine gz_iconst (pc := 99) dX12_number_99 (v := (-1)) (by decide) ?_
          refine gz_goto (pc := 100) (tgt := 104) dX12_number_100 (by decide) ?_
          cases h; exact gz_iret (pc := 104) dX12_number_104 rfl ⟨rfl, rfl⟩
        · replace h := gz_ifn c h
          refine gz_iload_n (pc := 89) dX12_number_89 rfl ?_
          refine gz_iload_n (pc := 90) dX12_number_90 rfl ?_
          refine gz_ic_lt (pc := 91) (tgt := 99) dX12_number_91 (by decide) (fun c => ?_) (fun c => ?_)
          · replace h := gz_ifp c h
            refine gz_iconst (pc := 99) dX12_number_99 (v := (-1)) (by decide) ?_
            refine gz_goto (pc := 100) (tgt := 104) dX12_number_100 (by decide) ?_
            cases h; exact gz_iret (pc := 104) dX12_number_104 rfl ⟨rfl, rfl⟩
          · replace h := gz_ifn c h
            refine gz_iload_n (pc := 94) dX12_number_94 rfl ?_
            refine gz_iload_n (pc := 95) dX12_number_95 rfl ?_
            have kj5 : gzX g 0 (d + 2) mX12_number 104 [some (.inr (.inr (0, 47))), some (.inl x1), some (.inl x2), some (.inl x3)] ([.inl (if x3 ≤ x2 then (x3 : Int32) else (-1))]) (gzN, gzR0, I, J) 0 (gzE (.ok (some (.inl r.1))) (gzN, gzR0, r.2.1, r.2.2)) := by
              cases h; exact gz_iret (pc := 104) dX12_number_104 rfl ⟨rfl, rfl⟩
            refine gz_ic_le (pc := 96) (tgt := 103) dX12_number_96 (by decide) (fun c => ?_) (fun c => ?_)
            · rw [if_pos c] at kj5
              refine gz_iload_n (pc := 103) dX12_number_103 rfl ?_
              exact kj5
            · rw [if_neg c] at kj5
              refine gz_iconst (pc := 99) dX12_number_99 (v := (-1)) (by decide) ?_
              refine gz_goto (pc := 100) (tgt := 104) dX12_number_100 (by decide) ?_
              exact kj5
    · replace h := gz_ifn c h
      refine gz_aload_n (pc := 17) dX12_number_17 rfl ?_
      refine gi_X12_92 (pc := 18) dX12_number_18 (v := I 0 47 10) z_0_47 rfl rfl ?_
      refine gz_aload_n (pc := 21) dX12_number_21 rfl ?_
      refine gi_X12_101 (pc := 22) dX12_number_22 (v := I 0 47 12) z_0_47 rfl rfl ?_
      refine gz_isub (pc := 25) dX12_number_25  ?_
      refine gz_iconst (pc := 26) dX12_number_26 (v := 3) (by decide) ?_
      refine gz_ic_ge (pc := 27) (tgt := 50) dX12_number_27 (by decide) (fun c => ?_) (fun c => ?_)
      · replace h := gz_ifp c h
        refine gz_iload_n (pc := 50) dX12_number_50 rfl ?_
        refine gz_istore_n (pc := 51) dX12_number_51 (by decide) rfl (loc2 := [some (.inr (.inr (0, 47))), some (.inl x1), some (.inl x2), some (.inl x3)]) rfl ?_
        refine gz_aload_n (pc := 52) dX12_number_52 rfl ?_
        refine gz_dupR (pc := 53) dX12_number_53  ?_
        refine gi_X12_92 (pc := 54) dX12_number_54 (v := I 0 47 10) z_0_47 rfl rfl ?_
        refine gz_iconst (pc := 57) dX12_number_57 (v := 1) (by decide) ?_
        refine gz_iadd (pc := 58) dX12_number_58  ?_
        refine gp_X12_92 (pc := 59) dX12_number_59 z_0_47 rfl ?_
        refine gz_goto (pc := 62) (tgt := 6) dX12_number_62 (by decide) ?_
        exact ih x1 x2 x3 (gz_ui I 0 47 10 ((I 0 47 10) + 1)) J h
      · replace h := gz_ifn c h
        refine gz_bipush (pc := 30) dX12_number_30 (v := 10) (by decide) ?_
        refine gz_iload_n (pc := 32) dX12_number_32 rfl ?_
        refine gz_imul (pc := 33) dX12_number_33  ?_
        refine gz_aload_n (pc := 34) dX12_number_34 rfl ?_
        refine gr_X12_29 (pc := 35) dX12_number_35 z_0_47 rfl ?_
        refine gz_aload_n (pc := 38) dX12_number_38 rfl ?_
        refine gi_X12_92 (pc := 39) dX12_number_39 (v := I 0 47 10) z_0_47 rfl rfl ?_
        obtain ⟨b6, h⟩ := gz_gd h
        refine gz_bald2 (pc := 42) dX12_number_42 (k := (I 0 47 10).toNatClampNeg) (v := I 0 53 ((I 0 47 10).toNatClampNeg)) z_0_53 rfl b6 rfl rfl ?_
        refine gz_iadd (pc := 43) dX12_number_43  ?_
        refine gz_bipush (pc := 44) dX12_number_44 (v := 48) (by decide) ?_
        refine gz_isub (pc := 46) dX12_number_46  ?_
        refine gz_goto (pc := 47) (tgt := 51) dX12_number_47 (by decide) ?_
        refine gz_istore_n (pc := 51) dX12_number_51 (by decide) rfl (loc2 := [some (.inr (.inr (0, 47))), some (.inl x1), some (.inl x2), some (.inl (((10 * x3) + (I 0 53 ((I 0 47 10).toNatClampNeg))) - 48))]) rfl ?_
        refine gz_aload_n (pc := 52) dX12_number_52 rfl ?_
        refine gz_dupR (pc := 53) dX12_number_53  ?_
        refine gi_X12_92 (pc := 54) dX12_number_54 (v := I 0 47 10) z_0_47 rfl rfl ?_
        refine gz_iconst (pc := 57) dX12_number_57 (v := 1) (by decide) ?_
        refine gz_iadd (pc := 58) dX12_number_58  ?_
        refine gp_X12_92 (pc := 59) dX12_number_59 z_0_47 rfl ?_
        refine gz_goto (pc := 62) (tgt := 6) dX12_number_62 (by decide) ?_
        exact ih x1 x2 (((10 * x3) + (I 0 53 ((I 0 47 10).toNatClampNeg))) - 48) (gz_ui I 0 47 10 ((I 0 47 10) + 1)) J h
def f_X12_number (φ : Nat) (a1 : Int32) (a2 : Int32) (I : gzIT) (J : gzJT) : Option (Int32 × gzIT × gzJT) := Option.bind (f_X12_blanks φ I J) (fun v2 => f_X12_number_6 φ φ a1 a2 0 v2.2.1 v2.2.2)
set_option maxRecDepth 20000 in
theorem c_X12_number {g : gzG} {d φ : Nat} {a1 : Int32} {a2 : Int32} {I : gzIT} {J : gzJT} {r : Int32 × gzIT × gzJT} (h : f_X12_number φ a1 a2 I J = some r) : gzC g 0 (d + 2) mX12_number [.inr (.inr (0, 47)), .inl a1, .inl a2] (gzN, gzR0, I, J) (gzE (.ok (some (.inl r.1))) (gzN, gzR0, r.2.1, r.2.2)) := by
  unfold f_X12_number at h
  refine gzC_of (by decide +kernel) (Nat.le_of_ble_eq_true rfl) (loc := [some (.inr (.inr (0, 47))), some (.inl a1), some (.inl a2), none]) rfl ?_
  have z_0_47 : gzOk 0 47 gzN := gzOk_of (by decide)
  refine gz_aload_n (pc := 0) dX12_number_0 rfl ?_
  refine gz_V (zy := mX12_blanks) (zc := 0) (pc := 1) [] rfl dX12_number_1 lkX12_104 MvX12_blanks rfl z_0_47 rfl rfl rfl (Or.inl rfl) (fun h => h) (by exact Nat.le_of_ble_eq_true rfl) ?_
  obtain ⟨v2, e1, h⟩ := gz_bd h
  refine gz_useV (c_X12_blanks e1) ?_
  refine gz_iconst (pc := 4) dX12_number_4 (v := 0) (by decide) ?_
  refine gz_istore_n (pc := 5) dX12_number_5 (by decide) rfl (loc2 := [some (.inr (.inr (0, 47))), some (.inl a1), some (.inl a2), some (.inl 0)]) rfl ?_
  exact p_X12_number_6 φ a1 a2 0 v2.2.1 v2.2.2 h
/-! X12_fault: fault -/
def f_X12_fault (I : gzIT) (J : gzJT) : Option (Int32 × gzIT × gzJT) := some ((I 0 47 14), gz_ui I 0 47 0 0, J)
set_option maxRecDepth 20000 in
theorem c_X12_fault {g : gzG} {d : Nat} {I : gzIT} {J : gzJT} {r : Int32 × gzIT × gzJT} (h : f_X12_fault I J = some r) : gzC g 0 d mX12_fault [.inr (.inr (0, 47))] (gzN, gzR0, I, J) (gzE (.ok (some (.inl r.1))) (gzN, gzR0, r.2.1, r.2.2)) := by
  unfold f_X12_fault at h
  refine gzC_of (by decide +kernel) (Nat.le_of_ble_eq_true rfl) (loc := [some (.inr (.inr (0, 47)))]) rfl ?_
  have z_0_47 : gzOk 0 47 gzN := gzOk_of (by decide)
  refine gz_aload_n (pc := 0) dX12_fault_0 rfl ?_
  refine gz_iconst (pc := 1) dX12_fault_1 (v := 0) (by decide) ?_
  refine gp_X12_3 (pc := 2) dX12_fault_2 z_0_47 rfl ?_
  refine gz_aload_n (pc := 5) dX12_fault_5 rfl ?_
  refine gi_X12_33 (pc := 6) dX12_fault_6 (v := I 0 47 14) z_0_47 (gz_ui_k (by decide)) rfl ?_
  cases h; exact gz_iret (pc := 9) dX12_fault_9 rfl ⟨rfl, rfl⟩
/-! X12_uses: uses -/
def f_X12_uses (I : gzIT) (J : gzJT) : Option (Unit × gzIT × gzJT) := some ((), gz_ui (gz_ui (gz_ui (gz_ui I 0 47 0 0) 0 47 11 (I 0 47 9)) 0 47 9 0) 0 47 10 0, J)
set_option maxRecDepth 20000 in
theorem c_X12_uses {g : gzG} {d : Nat} {I : gzIT} {J : gzJT} {r : Unit × gzIT × gzJT} (h : f_X12_uses I J = some r) : gzC g 0 d mX12_uses [.inr (.inr (0, 47))] (gzN, gzR0, I, J) (gzE (.ok none) (gzN, gzR0, r.2.1, r.2.2)) := by
  unfold f_X12_uses at h
  refine gzC_of (by decide +kernel) (Nat.le_of_ble_eq_true rfl) (loc := [some (.inr (.inr (0, 47)))]) rfl ?_
  have z_0_47 : gzOk 0 47 gzN := gzOk_of (by decide)
  refine gz_aload_n (pc := 0) dX12_uses_0 rfl ?_
  refine gz_iconst (pc := 1) dX12_uses_1 (v := 0) (by decide) ?_
  refine gp_X12_3 (pc := 2) dX12_uses_2 z_0_47 rfl ?_
  refine gz_aload_n (pc := 5) dX12_uses_5 rfl ?_
  refine gz_aload_n (pc := 6) dX12_uses_6 rfl ?_
  refine gi_X12_89 (pc := 7) dX12_uses_7 (v := I 0 47 9) z_0_47 (gz_ui_k (by decide)) rfl ?_
  refine gp_X12_95 (pc := 10) dX12_uses_10 z_0_47 rfl ?_
  refine gz_aload_n (pc := 13) dX12_uses_13 rfl ?_
  refine gz_iconst (pc := 14) dX12_uses_14 (v := 0) (by decide) ?_
  refine gp_X12_89 (pc := 15) dX12_uses_15 z_0_47 rfl ?_
  refine gz_aload_n (pc := 18) dX12_uses_18 rfl ?_
  refine gz_iconst (pc := 19) dX12_uses_19 (v := 0) (by decide) ?_
  refine gp_X12_92 (pc := 20) dX12_uses_20 z_0_47 rfl ?_
  cases h; exact gz_vret (pc := 23) dX12_uses_23 rfl ⟨rfl, rfl⟩
/-! X12_readNumber: readNumber -/
def f_X12_readNumber (φ : Nat) (a1 : Int32) (a2 : Int32) (a3 : Int32) (I : gzIT) (J : gzJT) : Option (Int32 × gzIT × gzJT) := Option.bind (f_X12_number φ a2 a3 I J) (fun v2 => if 0 ≤ v2.1 then (gzGd (a1) 2062 (some ((if v2.1 < 0 then (0 : Int32) else 1), gz_ui v2.2.1 0 48 a1.toNatClampNeg v2.1, v2.2.2))) else (gzGd (a1) 2062 (some ((if v2.1 < 0 then (0 : Int32) else 1), gz_ui v2.2.1 0 48 a1.toNatClampNeg (v2.2.1 0 48 a1.toNatClampNeg), v2.2.2))))
set_option maxRecDepth 20000 in
theorem c_X12_readNumber {g : gzG} {d φ : Nat} {a1 : Int32} {a2 : Int32} {a3 : Int32} {I : gzIT} {J : gzJT} {r : Int32 × gzIT × gzJT} (h : f_X12_readNumber φ a1 a2 a3 I J = some r) : gzC g 0 (d + 3) mX12_readNumber [.inr (.inr (0, 47)), .inl a1, .inl a2, .inl a3] (gzN, gzR0, I, J) (gzE (.ok (some (.inl r.1))) (gzN, gzR0, r.2.1, r.2.2)) := by
  unfold f_X12_readNumber at h
  refine gzC_of (by decide +kernel) (Nat.le_of_ble_eq_true rfl) (loc := [some (.inr (.inr (0, 47))), some (.inl a1), some (.inl a2), some (.inl a3), none]) rfl ?_
  have z_0_47 : gzOk 0 47 gzN := gzOk_of (by decide)
  have z_0_48 : gzOk 0 48 gzN := gzOk_of (by decide)
  refine gz_aload_n (pc := 0) dX12_readNumber_0 rfl ?_
  refine gz_iload_n (pc := 1) dX12_readNumber_1 rfl ?_
  refine gz_iload_n (pc := 2) dX12_readNumber_2 rfl ?_
  refine gz_V (zy := mX12_number) (zc := 0) (pc := 3) [.inl a2, .inl a3] rfl dX12_readNumber_3 lkX12_123 MvX12_number rfl z_0_47 rfl rfl rfl (Or.inl rfl) (fun h => h) (by exact Nat.le_of_ble_eq_true rfl) ?_
  obtain ⟨v2, e1, h⟩ := gz_bd h
  refine gz_useI (c_X12_number e1) ?_
  refine gz_istore (pc := 6) dX12_readNumber_6 (by decide) rfl (loc2 := [some (.inr (.inr (0, 47))), some (.inl a1), some (.inl a2), some (.inl a3), some (.inl v2.1)]) rfl ?_
  refine gz_aload_n (pc := 8) dX12_readNumber_8 rfl ?_
  refine gr_X12_13 (pc := 9) dX12_readNumber_9 z_0_47 rfl ?_
  refine gz_iload_n (pc := 12) dX12_readNumber_12 rfl ?_
  refine gz_iload (pc := 13) dX12_readNumber_13 rfl ?_
  refine gz_if_ge (pc := 15) (tgt := 27) dX12_readNumber_15 (by decide) (fun c => ?_) (fun c => ?_)
  · replace h := gz_ifp c h
    refine gz_iload (pc := 27) dX12_readNumber_27 rfl ?_
    obtain ⟨b3, h⟩ := gz_gd h
    refine gz_iast2 (pc := 29) dX12_readNumber_29 (k := a1.toNatClampNeg) z_0_48 rfl b3 rfl ?_
    refine gz_iload (pc := 30) dX12_readNumber_30 rfl ?_
    have kj4 : gzX g 0 (d + 3) mX12_readNumber 40 [some (.inr (.inr (0, 47))), some (.inl a1), some (.inl a2), some (.inl a3), some (.inl v2.1)] ([.inl (if v2.1 < 0 then (0 : Int32) else 1)]) (gzN, gzR0, gz_ui v2.2.1 0 48 a1.toNatClampNeg v2.1, v2.2.2) 0 (gzE (.ok (some (.inl r.1))) (gzN, gzR0, r.2.1, r.2.2)) := by
      cases h; exact gz_zret (pc := 40) dX12_readNumber_40 rfl (by first | exact gz_ite01 | exact gz_ite10) ⟨rfl, rfl⟩
    refine gz_if_lt (pc := 32) (tgt := 39) dX12_readNumber_32 (by decide) (fun c => ?_) (fun c => ?_)
    · rw [if_pos c] at kj4
      refine gz_iconst (pc := 39) dX12_readNumber_39 (v := 0) (by decide) ?_
      exact kj4
    · rw [if_neg c] at kj4
      refine gz_iconst (pc := 35) dX12_readNumber_35 (v := 1) (by decide) ?_
      refine gz_goto (pc := 36) (tgt := 40) dX12_readNumber_36 (by decide) ?_
      exact kj4
  · replace h := gz_ifn c h
    refine gz_aload_n (pc := 18) dX12_readNumber_18 rfl ?_
    refine gr_X12_13 (pc := 19) dX12_readNumber_19 z_0_47 rfl ?_
    refine gz_iload_n (pc := 22) dX12_readNumber_22 rfl ?_
    obtain ⟨b5, h⟩ := gz_gd h
    refine gz_iald2 (pc := 23) dX12_readNumber_23 (k := a1.toNatClampNeg) (v := v2.2.1 0 48 a1.toNatClampNeg) z_0_48 rfl b5 rfl rfl ?_
    refine gz_goto (pc := 24) (tgt := 29) dX12_readNumber_24 (by decide) ?_
    refine gz_iast2 (pc := 29) dX12_readNumber_29 (k := a1.toNatClampNeg) z_0_48 rfl b5 rfl ?_
    refine gz_iload (pc := 30) dX12_readNumber_30 rfl ?_
    have kj6 : gzX g 0 (d + 3) mX12_readNumber 40 [some (.inr (.inr (0, 47))), some (.inl a1), some (.inl a2), some (.inl a3), some (.inl v2.1)] ([.inl (if v2.1 < 0 then (0 : Int32) else 1)]) (gzN, gzR0, gz_ui v2.2.1 0 48 a1.toNatClampNeg (v2.2.1 0 48 a1.toNatClampNeg), v2.2.2) 0 (gzE (.ok (some (.inl r.1))) (gzN, gzR0, r.2.1, r.2.2)) := by
      cases h; exact gz_zret (pc := 40) dX12_readNumber_40 rfl (by first | exact gz_ite01 | exact gz_ite10) ⟨rfl, rfl⟩
    refine gz_if_lt (pc := 32) (tgt := 39) dX12_readNumber_32 (by decide) (fun c => ?_) (fun c => ?_)
    · rw [if_pos c] at kj6
      refine gz_iconst (pc := 39) dX12_readNumber_39 (v := 0) (by decide) ?_
      exact kj6
    · rw [if_neg c] at kj6
      refine gz_iconst (pc := 35) dX12_readNumber_35 (v := 1) (by decide) ?_
      refine gz_goto (pc := 36) (tgt := 40) dX12_readNumber_36 (by decide) ?_
      exact kj6
/-! X12_letterTold: letterTold -/
def f_X12_letterTold (φ : Nat) (I : gzIT) (J : gzJT) : Option (Int32 × gzIT × gzJT) := Option.bind (f_X12_letters φ I J) (fun v2 => if ¬ (v2.2.1 0 47 10) - (v2.2.1 0 47 12) = 1 then (some ((-1), v2.2.1, v2.2.2)) else (gzGd (v2.2.1 0 47 12) 400 (Option.bind (f_X12_in (v2.2.1 0 53 ((v2.2.1 0 47 12).toNatClampNeg)) 97 104) (fun v5 => if v5 = 0 then (some ((-1), v2.2.1, v2.2.2)) else (some (((v2.2.1 0 53 ((v2.2.1 0 47 12).toNatClampNeg)) - 97), v2.2.1, v2.2.2))))))
set_option maxRecDepth 20000 in
theorem c_X12_letterTold {g : gzG} {d φ : Nat} {I : gzIT} {J : gzJT} {r : Int32 × gzIT × gzJT} (h : f_X12_letterTold φ I J = some r) : gzC g 0 (d + 3) mX12_letterTold [.inr (.inr (0, 47))] (gzN, gzR0, I, J) (gzE (.ok (some (.inl r.1))) (gzN, gzR0, r.2.1, r.2.2)) := by
  unfold f_X12_letterTold at h
  refine gzC_of (by decide +kernel) (Nat.le_of_ble_eq_true rfl) (loc := [some (.inr (.inr (0, 47)))]) rfl ?_
  have z_0_47 : gzOk 0 47 gzN := gzOk_of (by decide)
  have z_0_53 : gzOk 0 53 gzN := gzOk_of (by decide)
  refine gz_aload_n (pc := 0) dX12_letterTold_0 rfl ?_
  refine gz_V (zy := mX12_letters) (zc := 0) (pc := 1) [] rfl dX12_letterTold_1 lkX12_116 MvX12_letters rfl z_0_47 rfl rfl rfl (Or.inl rfl) (fun h => h) (by exact Nat.le_of_ble_eq_true rfl) ?_
  obtain ⟨v2, e1, h⟩ := gz_bd h
  refine gz_useV (c_X12_letters e1) ?_
  refine gz_aload_n (pc := 4) dX12_letterTold_4 rfl ?_
  refine gi_X12_92 (pc := 5) dX12_letterTold_5 (v := v2.2.1 0 47 10) z_0_47 rfl rfl ?_
  refine gz_aload_n (pc := 8) dX12_letterTold_8 rfl ?_
  refine gi_X12_101 (pc := 9) dX12_letterTold_9 (v := v2.2.1 0 47 12) z_0_47 rfl rfl ?_
  refine gz_isub (pc := 12) dX12_letterTold_12  ?_
  refine gz_iconst (pc := 13) dX12_letterTold_13 (v := 1) (by decide) ?_
  refine gz_ic_ne (pc := 14) (tgt := 51) dX12_letterTold_14 (by decide) (fun c => ?_) (fun c => ?_)
  · replace h := gz_ifp c h
    refine gz_iconst (pc := 51) dX12_letterTold_51 (v := (-1)) (by decide) ?_
    cases h; exact gz_iret (pc := 52) dX12_letterTold_52 rfl ⟨rfl, rfl⟩
  · replace h := gz_ifn (fun q => q c) h
    refine gz_aload_n (pc := 17) dX12_letterTold_17 rfl ?_
    refine gr_X12_29 (pc := 18) dX12_letterTold_18 z_0_47 rfl ?_
    refine gz_aload_n (pc := 21) dX12_letterTold_21 rfl ?_
    refine gi_X12_101 (pc := 22) dX12_letterTold_22 (v := v2.2.1 0 47 12) z_0_47 rfl rfl ?_
    obtain ⟨b3, h⟩ := gz_gd h
    refine gz_bald2 (pc := 25) dX12_letterTold_25 (k := (v2.2.1 0 47 12).toNatClampNeg) (v := v2.2.1 0 53 ((v2.2.1 0 47 12).toNatClampNeg)) z_0_53 rfl b3 rfl rfl ?_
    refine gz_bipush (pc := 26) dX12_letterTold_26 (v := 97) (by decide) ?_
    refine gz_bipush (pc := 28) dX12_letterTold_28 (v := 104) (by decide) ?_
    refine gz_S (zy := mX12_in) (zc := 0) (pc := 30) [.inl (v2.2.1 0 53 ((v2.2.1 0 47 12).toNatClampNeg)), .inl 97, .inl 104] rfl dX12_letterTold_30 lkX12_84 MsX12_in rfl (Or.inl rfl) (fun h => h) (by exact Nat.le_of_ble_eq_true rfl) ?_
    obtain ⟨v5, e4, h⟩ := gz_bd h
    refine gz_useI (c_X12_in e4) ?_
    refine gz_if_eq (pc := 33) (tgt := 51) dX12_letterTold_33 (by decide) (fun c => ?_) (fun c => ?_)
    · replace h := gz_ifp c h
      refine gz_iconst (pc := 51) dX12_letterTold_51 (v := (-1)) (by decide) ?_
      cases h; exact gz_iret (pc := 52) dX12_letterTold_52 rfl ⟨rfl, rfl⟩
    · replace h := gz_ifn c h
      refine gz_aload_n (pc := 36) dX12_letterTold_36 rfl ?_
      refine gr_X12_29 (pc := 37) dX12_letterTold_37 z_0_47 rfl ?_
      refine gz_aload_n (pc := 40) dX12_letterTold_40 rfl ?_
      refine gi_X12_101 (pc := 41) dX12_letterTold_41 (v := v2.2.1 0 47 12) z_0_47 rfl rfl ?_
      refine gz_bald2 (pc := 44) dX12_letterTold_44 (k := (v2.2.1 0 47 12).toNatClampNeg) (v := v2.2.1 0 53 ((v2.2.1 0 47 12).toNatClampNeg)) z_0_53 rfl b3 rfl rfl ?_
      refine gz_bipush (pc := 45) dX12_letterTold_45 (v := 97) (by decide) ?_
      refine gz_isub (pc := 47) dX12_letterTold_47  ?_
      refine gz_goto (pc := 48) (tgt := 52) dX12_letterTold_48 (by decide) ?_
      cases h; exact gz_iret (pc := 52) dX12_letterTold_52 rfl ⟨rfl, rfl⟩
/-! X12_begins: begins -/
def f_X12_begins (a1 : Int32) (a2 : Int32) (a3 : Int32) (a4 : Int32) (I : gzIT) (J : gzJT) : Option (Unit × gzIT × gzJT) := Option.bind (f_X12_grudges I) (fun v2 => Option.bind (f_X12_at v2 0) (fun v4 => gzGd (v4) 2062 (Option.bind (f_X12_at v2 1) (fun v7 => gzGd (v7) 2062 (Option.bind (f_X12_at v2 2) (fun v10 => gzGd (v10) 2062 (Option.bind (f_X12_at v2 3) (fun v13 => gzGd (v13) 2062 (Option.bind (f_X12_at v2 4) (fun v16 => gzGd (v16) 2062 (Option.bind (f_X12_at v2 5) (fun v19 => gzGd (v19) 2062 (Option.bind (f_X12_at v2 6) (fun v22 => gzGd (v22) 2062 (some ((), gz_ui (gz_ui (gz_ui (gz_ui (gz_ui (gz_ui (gz_ui (gz_ui I 0 48 v4.toNatClampNeg a1) 0 48 v7.toNatClampNeg a2) 0 48 v10.toNatClampNeg a3) 0 48 v13.toNatClampNeg 0) 0 48 v16.toNatClampNeg a4) 0 48 v19.toNatClampNeg 0) 0 48 v22.toNatClampNeg 0) 0 48 1 (((gz_ui (gz_ui (gz_ui (gz_ui (gz_ui (gz_ui (gz_ui I 0 48 v4.toNatClampNeg a1) 0 48 v7.toNatClampNeg a2) 0 48 v10.toNatClampNeg a3) 0 48 v13.toNatClampNeg 0) 0 48 v16.toNatClampNeg a4) 0 48 v19.toNatClampNeg 0) 0 48 v22.toNatClampNeg 0) 0 48 1) + 1), J))))))))))))))))
set_option maxRecDepth 20000 in
theorem c_X12_begins {g : gzG} {d : Nat} {a1 : Int32} {a2 : Int32} {a3 : Int32} {a4 : Int32} {I : gzIT} {J : gzJT} {r : Unit × gzIT × gzJT} (h : f_X12_begins a1 a2 a3 a4 I J = some r) : gzC g 0 (d + 1) mX12_begins [.inr (.inr (0, 47)), .inl a1, .inl a2, .inl a3, .inl a4] (gzN, gzR0, I, J) (gzE (.ok none) (gzN, gzR0, r.2.1, r.2.2)) := by
  unfold f_X12_begins at h
  refine gzC_of (by decide +kernel) (Nat.le_of_ble_eq_true rfl) (loc := [some (.inr (.inr (0, 47))), some (.inl a1), some (.inl a2), some (.inl a3), some (.inl a4), none]) rfl ?_
  have z_0_47 : gzOk 0 47 gzN := gzOk_of (by decide)
  have z_0_48 : gzOk 0 48 gzN := gzOk_of (by decide)
  refine gz_aload_n (pc := 0) dX12_begins_0 rfl ?_
  refine gz_V (zy := mX12_grudges) (zc := 0) (pc := 1) [] rfl dX12_begins_1 lkX12_73 MvX12_grudges rfl z_0_47 rfl rfl rfl (Or.inl rfl) (fun h => h) (by exact Nat.le_of_ble_eq_true rfl) ?_
  obtain ⟨v2, e1, h⟩ := gz_bd h
  refine gz_useI (c_X12_grudges e1) ?_
  refine gz_istore (pc := 4) dX12_begins_4 (by decide) rfl (loc2 := [some (.inr (.inr (0, 47))), some (.inl a1), some (.inl a2), some (.inl a3), some (.inl a4), some (.inl v2)]) rfl ?_
  refine gz_aload_n (pc := 6) dX12_begins_6 rfl ?_
  refine gr_X12_13 (pc := 7) dX12_begins_7 z_0_47 rfl ?_
  refine gz_iload (pc := 10) dX12_begins_10 rfl ?_
  refine gz_iconst (pc := 12) dX12_begins_12 (v := 0) (by decide) ?_
  refine gz_S (zy := mX12_at) (zc := 0) (pc := 13) [.inl v2, .inl 0] rfl dX12_begins_13 lkX12_67 MsX12_at rfl (Or.inl rfl) (fun h => h) (by exact Nat.le_of_ble_eq_true rfl) ?_
  obtain ⟨v4, e3, h⟩ := gz_bd h
  refine gz_useI (c_X12_at e3) ?_
  refine gz_iload_n (pc := 16) dX12_begins_16 rfl ?_
  obtain ⟨b5, h⟩ := gz_gd h
  refine gz_iast2 (pc := 17) dX12_begins_17 (k := v4.toNatClampNeg) z_0_48 rfl b5 rfl ?_
  refine gz_aload_n (pc := 18) dX12_begins_18 rfl ?_
  refine gr_X12_13 (pc := 19) dX12_begins_19 z_0_47 rfl ?_
  refine gz_iload (pc := 22) dX12_begins_22 rfl ?_
  refine gz_iconst (pc := 24) dX12_begins_24 (v := 1) (by decide) ?_
  refine gz_S (zy := mX12_at) (zc := 0) (pc := 25) [.inl v2, .inl 1] rfl dX12_begins_25 lkX12_67 MsX12_at rfl (Or.inl rfl) (fun h => h) (by exact Nat.le_of_ble_eq_true rfl) ?_
  obtain ⟨v7, e6, h⟩ := gz_bd h
  refine gz_useI (c_X12_at e6) ?_
  refine gz_iload_n (pc := 28) dX12_begins_28 rfl ?_
  obtain ⟨b8, h⟩ := gz_gd h
  refine gz_iast2 (pc := 29) dX12_begins_29 (k := v7.toNatClampNeg) z_0_48 rfl b8 rfl ?_
  refine gz_aload_n (pc := 30) dX12_begins_30 rfl ?_
  refine gr_X12_13 (pc := 31) dX12_begins_31 z_0_47 rfl ?_
  refine gz_iload (pc := 34) dX12_begins_34 rfl ?_
  refine gz_iconst (pc := 36) dX12_begins_36 (v := 2) (by decide) ?_
  refine gz_S (zy := mX12_at) (zc := 0) (pc := 37) [.inl v2, .inl 2] rfl dX12_begins_37 lkX12_67 MsX12_at rfl (Or.inl rfl) (fun h => h) (by exact Nat.le_of_ble_eq_true rfl) ?_
  obtain ⟨v10, e9, h⟩ := gz_bd h
  refine gz_useI (c_X12_at e9) ?_
  refine gz_iload_n (pc := 40) dX12_begins_40 rfl ?_
  obtain ⟨b11, h⟩ := gz_gd h
  refine gz_iast2 (pc := 41) dX12_begins_41 (k := v10.toNatClampNeg) z_0_48 rfl b11 rfl ?_
  refine gz_aload_n (pc := 42) dX12_begins_42 rfl ?_
  refine gr_X12_13 (pc := 43) dX12_begins_43 z_0_47 rfl ?_
  refine gz_iload (pc := 46) dX12_begins_46 rfl ?_
  refine gz_iconst (pc := 48) dX12_begins_48 (v := 3) (by decide) ?_
  refine gz_S (zy := mX12_at) (zc := 0) (pc := 49) [.inl v2, .inl 3] rfl dX12_begins_49 lkX12_67 MsX12_at rfl (Or.inl rfl) (fun h => h) (by exact Nat.le_of_ble_eq_true rfl) ?_
  obtain ⟨v13, e12, h⟩ := gz_bd h
  refine gz_useI (c_X12_at e12) ?_
  refine gz_iconst (pc := 52) dX12_begins_52 (v := 0) (by decide) ?_
  obtain ⟨b14, h⟩ := gz_gd h
  refine gz_iast2 (pc := 53) dX12_begins_53 (k := v13.toNatClampNeg) z_0_48 rfl b14 rfl ?_
  refine gz_aload_n (pc := 54) dX12_begins_54 rfl ?_
  refine gr_X12_13 (pc := 55) dX12_begins_55 z_0_47 rfl ?_
  refine gz_iload (pc := 58) dX12_begins_58 rfl ?_
  refine gz_iconst (pc := 60) dX12_begins_60 (v := 4) (by decide) ?_
  refine gz_S (zy := mX12_at) (zc := 0) (pc := 61) [.inl v2, .inl 4] rfl dX12_begins_61 lkX12_67 MsX12_at rfl (Or.inl rfl) (fun h => h) (by exact Nat.le_of_ble_eq_true rfl) ?_
  obtain ⟨v16, e15, h⟩ := gz_bd h
  refine gz_useI (c_X12_at e15) ?_
  refine gz_iload (pc := 64) dX12_begins_64 rfl ?_
  obtain ⟨b17, h⟩ := gz_gd h
  refine gz_iast2 (pc := 66) dX12_begins_66 (k := v16.toNatClampNeg) z_0_48 rfl b17 rfl ?_
  refine gz_aload_n (pc := 67) dX12_begins_67 rfl ?_
  refine gr_X12_13 (pc := 68) dX12_begins_68 z_0_47 rfl ?_
  refine gz_iload (pc := 71) dX12_begins_71 rfl ?_
  refine gz_iconst (pc := 73) dX12_begins_73 (v := 5) (by decide) ?_
  refine gz_S (zy := mX12_at) (zc := 0) (pc := 74) [.inl v2, .inl 5] rfl dX12_begins_74 lkX12_67 MsX12_at rfl (Or.inl rfl) (fun h => h) (by exact Nat.le_of_ble_eq_true rfl) ?_
  obtain ⟨v19, e18, h⟩ := gz_bd h
  refine gz_useI (c_X12_at e18) ?_
  refine gz_iconst (pc := 77) dX12_begins_77 (v := 0) (by decide) ?_
  obtain ⟨b20, h⟩ := gz_gd h
  refine gz_iast2 (pc := 78) dX12_begins_78 (k := v19.toNatClampNeg) z_0_48 rfl b20 rfl ?_
  refine gz_aload_n (pc := 79) dX12_begins_79 rfl ?_
  refine gr_X12_13 (pc := 80) dX12_begins_80 z_0_47 rfl ?_
  refine gz_iload (pc := 83) dX12_begins_83 rfl ?_
  refine gz_bipush (pc := 85) dX12_begins_85 (v := 6) (by decide) ?_
  refine gz_S (zy := mX12_at) (zc := 0) (pc := 87) [.inl v2, .inl 6] rfl dX12_begins_87 lkX12_67 MsX12_at rfl (Or.inl rfl) (fun h => h) (by exact Nat.le_of_ble_eq_true rfl) ?_
  obtain ⟨v22, e21, h⟩ := gz_bd h
  refine gz_useI (c_X12_at e21) ?_
  refine gz_iconst (pc := 90) dX12_begins_90 (v := 0) (by decide) ?_
  obtain ⟨b23, h⟩ := gz_gd h
  refine gz_iast2 (pc := 91) dX12_begins_91 (k := v22.toNatClampNeg) z_0_48 rfl b23 rfl ?_
  refine gz_aload_n (pc := 92) dX12_begins_92 rfl ?_
  refine gr_X12_13 (pc := 93) dX12_begins_93 z_0_47 rfl ?_
  refine gz_iconst (pc := 96) dX12_begins_96 (v := 1) (by decide) ?_
  refine gz_dup2IR (pc := 97) dX12_begins_97  ?_
  refine gz_iald2 (pc := 98) dX12_begins_98 (k := 1) (v := (gz_ui (gz_ui (gz_ui (gz_ui (gz_ui (gz_ui (gz_ui I 0 48 v4.toNatClampNeg a1) 0 48 v7.toNatClampNeg a2) 0 48 v10.toNatClampNeg a3) 0 48 v13.toNatClampNeg 0) 0 48 v16.toNatClampNeg a4) 0 48 v19.toNatClampNeg 0) 0 48 v22.toNatClampNeg 0) 0 48 1) z_0_48 rfl (gz_vpd (by decide)) (by decide) rfl ?_
  refine gz_iconst (pc := 99) dX12_begins_99 (v := 1) (by decide) ?_
  refine gz_iadd (pc := 100) dX12_begins_100  ?_
  refine gz_iast2 (pc := 101) dX12_begins_101 (k := 1) z_0_48 rfl (gz_vpd (by decide)) (by decide) ?_
  cases h; exact gz_vret (pc := 102) dX12_begins_102 rfl ⟨rfl, rfl⟩
/-! X12_emits: emits -/
def f_X12_emits (a1 : Int32) (a2 : Int32) (I : gzIT) (J : gzJT) : Option (Unit × gzIT × gzJT) := gzGd (1262 + (2 * (I 0 47 16))) 2062 (gzGd ((1262 + (2 * (I 0 47 16))) + 1) 2062 (some ((), gz_ui (gz_ui (gz_ui I 0 48 ((1262 + (2 * (I 0 47 16))).toNatClampNeg) a1) 0 48 (((1262 + (2 * (I 0 47 16))) + 1).toNatClampNeg) a2) 0 47 16 ((I 0 47 16) + 1), J)))
set_option maxRecDepth 20000 in
theorem c_X12_emits {g : gzG} {d : Nat} {a1 : Int32} {a2 : Int32} {I : gzIT} {J : gzJT} {r : Unit × gzIT × gzJT} (h : f_X12_emits a1 a2 I J = some r) : gzC g 0 d mX12_emits [.inr (.inr (0, 47)), .inl a1, .inl a2] (gzN, gzR0, I, J) (gzE (.ok none) (gzN, gzR0, r.2.1, r.2.2)) := by
  unfold f_X12_emits at h
  refine gzC_of (by decide +kernel) (Nat.le_of_ble_eq_true rfl) (loc := [some (.inr (.inr (0, 47))), some (.inl a1), some (.inl a2)]) rfl ?_
  have z_0_47 : gzOk 0 47 gzN := gzOk_of (by decide)
  have z_0_48 : gzOk 0 48 gzN := gzOk_of (by decide)
  refine gz_aload_n (pc := 0) dX12_emits_0 rfl ?_
  refine gr_X12_13 (pc := 1) dX12_emits_1 z_0_47 rfl ?_
  refine gz_sipush (pc := 4) dX12_emits_4 (v := 1262) (by decide) ?_
  refine gz_iconst (pc := 7) dX12_emits_7 (v := 2) (by decide) ?_
  refine gz_aload_n (pc := 8) dX12_emits_8 rfl ?_
  refine gi_X12_201 (pc := 9) dX12_emits_9 (v := I 0 47 16) z_0_47 rfl rfl ?_
  refine gz_imul (pc := 12) dX12_emits_12  ?_
  refine gz_iadd (pc := 13) dX12_emits_13  ?_
  refine gz_iload_n (pc := 14) dX12_emits_14 rfl ?_
  obtain ⟨b1, h⟩ := gz_gd h
  refine gz_iast2 (pc := 15) dX12_emits_15 (k := (1262 + (2 * (I 0 47 16))).toNatClampNeg) z_0_48 rfl b1 rfl ?_
  refine gz_aload_n (pc := 16) dX12_emits_16 rfl ?_
  refine gr_X12_13 (pc := 17) dX12_emits_17 z_0_47 rfl ?_
  refine gz_sipush (pc := 20) dX12_emits_20 (v := 1262) (by decide) ?_
  refine gz_iconst (pc := 23) dX12_emits_23 (v := 2) (by decide) ?_
  refine gz_aload_n (pc := 24) dX12_emits_24 rfl ?_
  refine gi_X12_201 (pc := 25) dX12_emits_25 (v := I 0 47 16) z_0_47 (gz_ui_o (by decide)) rfl ?_
  refine gz_imul (pc := 28) dX12_emits_28  ?_
  refine gz_iadd (pc := 29) dX12_emits_29  ?_
  refine gz_iconst (pc := 30) dX12_emits_30 (v := 1) (by decide) ?_
  refine gz_iadd (pc := 31) dX12_emits_31  ?_
  refine gz_iload_n (pc := 32) dX12_emits_32 rfl ?_
  obtain ⟨b2, h⟩ := gz_gd h
  refine gz_iast2 (pc := 33) dX12_emits_33 (k := ((1262 + (2 * (I 0 47 16))) + 1).toNatClampNeg) z_0_48 rfl b2 rfl ?_
  refine gz_aload_n (pc := 34) dX12_emits_34 rfl ?_
  refine gz_dupR (pc := 35) dX12_emits_35  ?_
  refine gi_X12_201 (pc := 36) dX12_emits_36 (v := I 0 47 16) z_0_47 ((gz_ui_o (by decide)).trans (gz_ui_o (by decide))) rfl ?_
  refine gz_iconst (pc := 39) dX12_emits_39 (v := 1) (by decide) ?_
  refine gz_iadd (pc := 40) dX12_emits_40  ?_
  refine gp_X12_201 (pc := 41) dX12_emits_41 z_0_47 rfl ?_
  cases h; exact gz_vret (pc := 44) dX12_emits_44 rfl ⟨rfl, rfl⟩
/-! X12_isMutual: isMutual -/
def gP_X12_isMutual_4 (g : gzG) (d : Nat) (r : Int32) (x1 : Int32) (x2 : Int32) (x3 : Int32) (I : gzIT) (J : gzJT) : Prop := gzX g 0 (d + 3) mX12_isMutual 4 [some (.inr (.inr (0, 47))), some (.inl x1), some (.inl x2), some (.inl x3)] [] (gzN, gzR0, I, J) 0 (gzE (.ok (some (.inl r))) (gzN, gzR0, I, J))
def f_X12_isMutual_4 (φ : Nat) (I : gzIT) : Nat → Int32 → Int32 → Int32 → Option Int32
  | 0, _, _, _ => none
  | k + 1, x1, x2, x3 => Option.bind (f_X12_grudges I) (fun v2 => if v2 ≤ x3 then (gzGz x2 (some x2)) else (if ¬ x2 = 0 then (f_X12_isMutual_4 φ I k x1 1 (x3 + 1)) else (Option.bind (f_X12_isThawed I x3) (fun v5 => if ¬ v5 = 0 then (f_X12_isMutual_4 φ I k x1 0 (x3 + 1)) else (Option.bind (f_X12_of I x3 0) (fun v7 => Option.bind (f_X12_of I x1 1) (fun v9 => if ¬ v7 = v9 then (f_X12_isMutual_4 φ I k x1 0 (x3 + 1)) else (Option.bind (f_X12_of I x3 1) (fun v11 => Option.bind (f_X12_of I x1 0) (fun v13 => if ¬ v11 = v13 then (f_X12_isMutual_4 φ I k x1 0 (x3 + 1)) else (f_X12_isMutual_4 φ I k x1 1 (x3 + 1))))))))))))
set_option maxRecDepth 20000 in
theorem p_X12_isMutual_4 {g : gzG} {d φ : Nat} {I : gzIT} {J : gzJT} {r : Int32} : ∀ (k : Nat) (x1 : Int32) (x2 : Int32) (x3 : Int32), f_X12_isMutual_4 φ I k x1 x2 x3 = some r → gP_X12_isMutual_4 g d r x1 x2 x3 I J := by
  intro k; induction k with
  | zero => intro x1 x2 x3 h; cases h
  | succ k ih =>
    intro x1 x2 x3 h
    unfold f_X12_isMutual_4 at h
    unfold gP_X12_isMutual_4
    have z_0_47 : gzOk 0 47 gzN := gzOk_of (by decide)
    refine gz_iload_n (pc := 4) dX12_isMutual_4 rfl ?_
    refine gz_aload_n (pc := 5) dX12_isMutual_5 rfl ?_
    refine gz_V (zy := mX12_grudges) (zc := 0) (pc := 6) [] rfl dX12_isMutual_6 lkX12_73 MvX12_grudges rfl z_0_47 rfl rfl rfl (Or.inl rfl) (fun h => h) (by exact Nat.le_of_ble_eq_true rfl) ?_
    obtain ⟨v2, e1, h⟩ := gz_bd h
    refine gz_useI (c_X12_grudges e1) ?_
    refine gz_ic_ge (pc := 9) (tgt := 66) dX12_isMutual_9 (by decide) (fun c => ?_) (fun c => ?_)
    · replace h := gz_ifp c h
      refine gz_iload_n (pc := 66) dX12_isMutual_66 rfl ?_
      obtain ⟨b3, h⟩ := gz_gz h
      cases h; exact gz_zret (pc := 67) dX12_isMutual_67 rfl b3 ⟨rfl, rfl⟩
    · replace h := gz_ifn c h
      refine gz_iload_n (pc := 12) dX12_isMutual_12 rfl ?_
      refine gz_if_ne (pc := 13) (tgt := 54) dX12_isMutual_13 (by decide) (fun c => ?_) (fun c => ?_)
      · replace h := gz_ifp c h
        refine gz_iconst (pc := 54) dX12_isMutual_54 (v := 1) (by decide) ?_
        refine gz_goto (pc := 55) (tgt := 59) dX12_isMutual_55 (by decide) ?_
        refine gz_istore_n (pc := 59) dX12_isMutual_59 (by decide) rfl (loc2 := [some (.inr (.inr (0, 47))), some (.inl x1), some (.inl 1), some (.inl x3)]) rfl ?_
        refine gz_iinc (pc := 60) dX12_isMutual_60 (x := x3) (v := x3 + 1) rfl (by rw [show Int32.ofInt 1 = 1 by decide]) (by decide) rfl (loc2 := [some (.inr (.inr (0, 47))), some (.inl x1), some (.inl 1), some (.inl (x3 + 1))]) rfl ?_
        refine gz_goto (pc := 63) (tgt := 4) dX12_isMutual_63 (by decide) ?_
        exact ih x1 1 (x3 + 1) h
      · replace h := gz_ifn (fun q => q c) h
        refine gz_aload_n (pc := 16) dX12_isMutual_16 rfl ?_
        refine gz_iload_n (pc := 17) dX12_isMutual_17 rfl ?_
        refine gz_V (zy := mX12_isThawed) (zc := 0) (pc := 18) [.inl x3] rfl dX12_isMutual_18 lkX12_76 MvX12_isThawed rfl z_0_47 rfl rfl rfl (Or.inl rfl) (fun h => h) (by exact Nat.le_of_ble_eq_true rfl) ?_
        obtain ⟨v5, e4, h⟩ := gz_bd h
        refine gz_useI (c_X12_isThawed e4) ?_
        refine gz_if_ne (pc := 21) (tgt := 58) dX12_isMutual_21 (by decide) (fun c => ?_) (fun c => ?_)
        · replace h := gz_ifp c h
          refine gz_iconst (pc := 58) dX12_isMutual_58 (v := 0) (by decide) ?_
          refine gz_istore_n (pc := 59) dX12_isMutual_59 (by decide) rfl (loc2 := [some (.inr (.inr (0, 47))), some (.inl x1), some (.inl 0), some (.inl x3)]) rfl ?_
          refine gz_iinc (pc := 60) dX12_isMutual_60 (x := x3) (v := x3 + 1) rfl (by rw [show Int32.ofInt 1 = 1 by decide]) (by decide) rfl (loc2 := [some (.inr (.inr (0, 47))), some (.inl x1), some (.inl 0), some (.inl (x3 + 1))]) rfl ?_
          refine gz_goto (pc := 63) (tgt := 4) dX12_isMutual_63 (by decide) ?_
          exact ih x1 0 (x3 + 1) h
        · replace h := gz_ifn (fun q => q c) h
          refine gz_aload_n (pc := 24) dX12_isMutual_24 rfl ?_
          refine gz_iload_n (pc := 25) dX12_isMutual_25 rfl ?_
          refine gz_iconst (pc := 26) dX12_isMutual_26 (v := 0) (by decide) ?_
          refine gz_V (zy := mX12_of) (zc := 0) (pc := 27) [.inl x3, .inl 0] rfl dX12_isMutual_27 lkX12_70 MvX12_of rfl z_0_47 rfl rfl rfl (Or.inl rfl) (fun h => h) (by exact Nat.le_of_ble_eq_true rfl) ?_
          obtain ⟨v7, e6, h⟩ := gz_bd h
          refine gz_useI (c_X12_of e6) ?_
          refine gz_aload_n (pc := 30) dX12_isMutual_30 rfl ?_
          refine gz_iload_n (pc := 31) dX12_isMutual_31 rfl ?_
          refine gz_iconst (pc := 32) dX12_isMutual_32 (v := 1) (by decide) ?_
          refine gz_V (zy := mX12_of) (zc := 0) (pc := 33) [.inl x1, .inl 1] rfl dX12_isMutual_33 lkX12_70 MvX12_of rfl z_0_47 rfl rfl rfl (Or.inl rfl) (fun h => h) (by exact Nat.le_of_ble_eq_true rfl) ?_
          obtain ⟨v9, e8, h⟩ := gz_bd h
          refine gz_useI (c_X12_of e8) ?_
          refine gz_ic_ne (pc := 36) (tgt := 58) dX12_isMutual_36 (by decide) (fun c => ?_) (fun c => ?_)
          · replace h := gz_ifp c h
            refine gz_iconst (pc := 58) dX12_isMutual_58 (v := 0) (by decide) ?_
            refine gz_istore_n (pc := 59) dX12_isMutual_59 (by decide) rfl (loc2 := [some (.inr (.inr (0, 47))), some (.inl x1), some (.inl 0), some (.inl x3)]) rfl ?_
            refine gz_iinc (pc := 60) dX12_isMutual_60 (x := x3) (v := x3 + 1) rfl (by rw [show Int32.ofInt 1 = 1 by decide]) (by decide) rfl (loc2 := [some (.inr (.inr (0, 47))), some (.inl x1), some (.inl 0), some (.inl (x3 + 1))]) rfl ?_
            refine gz_goto (pc := 63) (tgt := 4) dX12_isMutual_63 (by decide) ?_
            exact ih x1 0 (x3 + 1) h
          · replace h := gz_ifn (fun q => q c) h
            refine gz_aload_n (pc := 39) dX12_isMutual_39 rfl ?_
            refine gz_iload_n (pc := 40) dX12_isMutual_40 rfl ?_
            refine gz_iconst (pc := 41) dX12_isMutual_41 (v := 1) (by decide) ?_
            refine gz_V (zy := mX12_of) (zc := 0) (pc := 42) [.inl x3, .inl 1] rfl dX12_isMutual_42 lkX12_70 MvX12_of rfl z_0_47 rfl rfl rfl (Or.inl rfl) (fun h => h) (by exact Nat.le_of_ble_eq_true rfl) ?_
            obtain ⟨v11, e10, h⟩ := gz_bd h
            refine gz_useI (c_X12_of e10) ?_
            refine gz_aload_n (pc := 45) dX12_isMutual_45 rfl ?_
            refine gz_iload_n (pc := 46) dX12_isMutual_46 rfl ?_
            refine gz_iconst (pc := 47) dX12_isMutual_47 (v := 0) (by decide) ?_
            refine gz_V (zy := mX12_of) (zc := 0) (pc := 48) [.inl x1, .inl 0] rfl dX12_isMutual_48 lkX12_70 MvX12_of rfl z_0_47 rfl rfl rfl (Or.inl rfl) (fun h => h) (by exact Nat.le_of_ble_eq_true rfl) ?_
            obtain ⟨v13, e12, h⟩ := gz_bd h
            refine gz_useI (c_X12_of e12) ?_
            refine gz_ic_ne (pc := 51) (tgt := 58) dX12_isMutual_51 (by decide) (fun c => ?_) (fun c => ?_)
            · replace h := gz_ifp c h
              refine gz_iconst (pc := 58) dX12_isMutual_58 (v := 0) (by decide) ?_
              refine gz_istore_n (pc := 59) dX12_isMutual_59 (by decide) rfl (loc2 := [some (.inr (.inr (0, 47))), some (.inl x1), some (.inl 0), some (.inl x3)]) rfl ?_
              refine gz_iinc (pc := 60) dX12_isMutual_60 (x := x3) (v := x3 + 1) rfl (by rw [show Int32.ofInt 1 = 1 by decide]) (by decide) rfl (loc2 := [some (.inr (.inr (0, 47))), some (.inl x1), some (.inl 0), some (.inl (x3 + 1))]) rfl ?_
              refine gz_goto (pc := 63) (tgt := 4) dX12_isMutual_63 (by decide) ?_
              exact ih x1 0 (x3 + 1) h
            · replace h := gz_ifn (fun q => q c) h
              refine gz_iconst (pc := 54) dX12_isMutual_54 (v := 1) (by decide) ?_
              refine gz_goto (pc := 55) (tgt := 59) dX12_isMutual_55 (by decide) ?_
              refine gz_istore_n (pc := 59) dX12_isMutual_59 (by decide) rfl (loc2 := [some (.inr (.inr (0, 47))), some (.inl x1), some (.inl 1), some (.inl x3)]) rfl ?_
              refine gz_iinc (pc := 60) dX12_isMutual_60 (x := x3) (v := x3 + 1) rfl (by rw [show Int32.ofInt 1 = 1 by decide]) (by decide) rfl (loc2 := [some (.inr (.inr (0, 47))), some (.inl x1), some (.inl 1), some (.inl (x3 + 1))]) rfl ?_
              refine gz_goto (pc := 63) (tgt := 4) dX12_isMutual_63 (by decide) ?_
              exact ih x1 1 (x3 + 1) h
def f_X12_isMutual (φ : Nat) (I : gzIT) (a1 : Int32) : Option Int32 := f_X12_isMutual_4 φ I φ a1 0 0
set_option maxRecDepth 20000 in
theorem c_X12_isMutual {g : gzG} {d φ : Nat} {a1 : Int32} {I : gzIT} {J : gzJT} {r : Int32} (h : f_X12_isMutual φ I a1 = some r) : gzC g 0 (d + 3) mX12_isMutual [.inr (.inr (0, 47)), .inl a1] (gzN, gzR0, I, J) (gzE (.ok (some (.inl r))) (gzN, gzR0, I, J)) := by
  unfold f_X12_isMutual at h
  refine gzC_of (by decide +kernel) (Nat.le_of_ble_eq_true rfl) (loc := [some (.inr (.inr (0, 47))), some (.inl a1), none, none]) rfl ?_
  refine gz_iconst (pc := 0) dX12_isMutual_0 (v := 0) (by decide) ?_
  refine gz_istore_n (pc := 1) dX12_isMutual_1 (by decide) rfl (loc2 := [some (.inr (.inr (0, 47))), some (.inl a1), some (.inl 0), none]) rfl ?_
  refine gz_iconst (pc := 2) dX12_isMutual_2 (v := 0) (by decide) ?_
  refine gz_istore_n (pc := 3) dX12_isMutual_3 (by decide) rfl (loc2 := [some (.inr (.inr (0, 47))), some (.inl a1), some (.inl 0), some (.inl 0)]) rfl ?_
  exact p_X12_isMutual_4 φ a1 0 0 h
/-! X12_factOf: factOf -/
def f_X12_factOf (φ : Nat) (I : gzIT) (a1 : Int32) (a2 : Int32) (a3 : Int32) : Option Int32 := if a1 = 0 then (some a3) else (if a1 = 1 then (Option.bind (f_X12_of I a3 3) (fun v2 => some v2)) else (if a1 = 2 then (Option.bind (f_X12_of I a3 4) (fun v4 => some v4)) else (if a1 = 3 then (Option.bind (f_X12_of I a3 0) (fun v6 => Option.bind (f_X12_ofFamily I v6 0) (fun v8 => some v8))) else (if a1 = 4 then (Option.bind (f_X12_ofSlight I a3 0) (fun v10 => some v10)) else (if a1 = 5 then (Option.bind (f_X12_ofSlight I a3 1) (fun v12 => some v12)) else (if a1 = 6 then (Option.bind (f_X12_heatNow I) (fun v14 => some v14)) else (if a1 = 7 then (some ((I 0 48 4) - (I 0 48 4) / 4 * 4)) else (if a1 = 8 then (Option.bind (f_X12_of I a3 5) (fun v17 => some v17)) else (if a1 = 9 then (Option.bind (f_X12_isMutual φ I a3) (fun v19 => some (if v19 = 0 then (0 : Int32) else 1))) else (if a1 = 10 then (some (I 0 48 6)) else (some a2)))))))))))
set_option maxRecDepth 20000 in
theorem c_X12_factOf {g : gzG} {d φ : Nat} {a1 : Int32} {a2 : Int32} {a3 : Int32} {I : gzIT} {J : gzJT} {r : Int32} (h : f_X12_factOf φ I a1 a2 a3 = some r) : gzC g 0 (d + 4) mX12_factOf [.inr (.inr (0, 47)), .inl a1, .inl a2, .inl a3] (gzN, gzR0, I, J) (gzE (.ok (some (.inl r))) (gzN, gzR0, I, J)) := by
  unfold f_X12_factOf at h
  refine gzC_of (by decide +kernel) (Nat.le_of_ble_eq_true rfl) (loc := [some (.inr (.inr (0, 47))), some (.inl a1), some (.inl a2), some (.inl a3)]) rfl ?_
  have z_0_47 : gzOk 0 47 gzN := gzOk_of (by decide)
  have z_0_48 : gzOk 0 48 gzN := gzOk_of (by decide)
  refine gz_iload_n (pc := 0) dX12_factOf_0 rfl ?_
  by_cases c0 : a1 = 0
  · replace h := gz_ifp c0 h
    refine gz_swIn (pc := 1) (tgt := 60) (off := 59) dX12_factOf_1 (by rw [c0]; decide) (by rw [c0]; decide) (by rw [c0]; rfl) (by decide) ?_
    refine gz_iload_n (pc := 60) dX12_factOf_60 rfl ?_
    cases h; exact gz_iret (pc := 61) dX12_factOf_61 rfl ⟨rfl, rfl⟩
  replace h := gz_ifn c0 h
  by_cases c1 : a1 = 1
  · replace h := gz_ifp c1 h
    refine gz_swIn (pc := 1) (tgt := 62) (off := 61) dX12_factOf_1 (by rw [c1]; decide) (by rw [c1]; decide) (by rw [c1]; rfl) (by decide) ?_
    refine gz_aload_n (pc := 62) dX12_factOf_62 rfl ?_
    refine gz_iload_n (pc := 63) dX12_factOf_63 rfl ?_
    refine gz_iconst (pc := 64) dX12_factOf_64 (v := 3) (by decide) ?_
    refine gz_V (zy := mX12_of) (zc := 0) (pc := 65) [.inl a3, .inl 3] rfl dX12_factOf_65 lkX12_70 MvX12_of rfl z_0_47 rfl rfl rfl (Or.inl rfl) (fun h => h) (by exact Nat.le_of_ble_eq_true rfl) ?_
    obtain ⟨v2, e1, h⟩ := gz_bd h
    refine gz_useI (c_X12_of e1) ?_
    cases h; exact gz_iret (pc := 68) dX12_factOf_68 rfl ⟨rfl, rfl⟩
  replace h := gz_ifn c1 h
  by_cases c2 : a1 = 2
  · replace h := gz_ifp c2 h
    refine gz_swIn (pc := 1) (tgt := 69) (off := 68) dX12_factOf_1 (by rw [c2]; decide) (by rw [c2]; decide) (by rw [c2]; rfl) (by decide) ?_
    refine gz_aload_n (pc := 69) dX12_factOf_69 rfl ?_
    refine gz_iload_n (pc := 70) dX12_factOf_70 rfl ?_
    refine gz_iconst (pc := 71) dX12_factOf_71 (v := 4) (by decide) ?_
    refine gz_V (zy := mX12_of) (zc := 0) (pc := 72) [.inl a3, .inl 4] rfl dX12_factOf_72 lkX12_70 MvX12_of rfl z_0_47 rfl rfl rfl (Or.inl rfl) (fun h => h) (by exact Nat.le_of_ble_eq_true rfl) ?_
    obtain ⟨v4, e3, h⟩ := gz_bd h
    refine gz_useI (c_X12_of e3) ?_
    cases h; exact gz_iret (pc := 75) dX12_factOf_75 rfl ⟨rfl, rfl⟩
  replace h := gz_ifn c2 h
  by_cases c3 : a1 = 3
  · replace h := gz_ifp c3 h
    refine gz_swIn (pc := 1) (tgt := 76) (off := 75) dX12_factOf_1 (by rw [c3]; decide) (by rw [c3]; decide) (by rw [c3]; rfl) (by decide) ?_
    refine gz_aload_n (pc := 76) dX12_factOf_76 rfl ?_
    refine gz_aload_n (pc := 77) dX12_factOf_77 rfl ?_
    refine gz_iload_n (pc := 78) dX12_factOf_78 rfl ?_
    refine gz_iconst (pc := 79) dX12_factOf_79 (v := 0) (by decide) ?_
    refine gz_V (zy := mX12_of) (zc := 0) (pc := 80) [.inl a3, .inl 0] rfl dX12_factOf_80 lkX12_70 MvX12_of rfl z_0_47 rfl rfl rfl (Or.inl rfl) (fun h => h) (by exact Nat.le_of_ble_eq_true rfl) ?_
    obtain ⟨v6, e5, h⟩ := gz_bd h
    refine gz_useI (c_X12_of e5) ?_
    refine gz_iconst (pc := 83) dX12_factOf_83 (v := 0) (by decide) ?_
    refine gz_V (zy := mX12_ofFamily) (zc := 0) (pc := 84) [.inl v6, .inl 0] rfl dX12_factOf_84 lkX12_272 MvX12_ofFamily rfl z_0_47 rfl rfl rfl (Or.inl rfl) (fun h => h) (by exact Nat.le_of_ble_eq_true rfl) ?_
    obtain ⟨v8, e7, h⟩ := gz_bd h
    refine gz_useI (c_X12_ofFamily e7) ?_
    cases h; exact gz_iret (pc := 87) dX12_factOf_87 rfl ⟨rfl, rfl⟩
  replace h := gz_ifn c3 h
  by_cases c4 : a1 = 4
  · replace h := gz_ifp c4 h
    refine gz_swIn (pc := 1) (tgt := 88) (off := 87) dX12_factOf_1 (by rw [c4]; decide) (by rw [c4]; decide) (by rw [c4]; rfl) (by decide) ?_
    refine gz_aload_n (pc := 88) dX12_factOf_88 rfl ?_
    refine gz_iload_n (pc := 89) dX12_factOf_89 rfl ?_
    refine gz_iconst (pc := 90) dX12_factOf_90 (v := 0) (by decide) ?_
    refine gz_V (zy := mX12_ofSlight) (zc := 0) (pc := 91) [.inl a3, .inl 0] rfl dX12_factOf_91 lkX12_275 MvX12_ofSlight rfl z_0_47 rfl rfl rfl (Or.inl rfl) (fun h => h) (by exact Nat.le_of_ble_eq_true rfl) ?_
    obtain ⟨v10, e9, h⟩ := gz_bd h
    refine gz_useI (c_X12_ofSlight e9) ?_
    cases h; exact gz_iret (pc := 94) dX12_factOf_94 rfl ⟨rfl, rfl⟩
  replace h := gz_ifn c4 h
  by_cases c5 : a1 = 5
  · replace h := gz_ifp c5 h
    refine gz_swIn (pc := 1) (tgt := 95) (off := 94) dX12_factOf_1 (by rw [c5]; decide) (by rw [c5]; decide) (by rw [c5]; rfl) (by decide) ?_
    refine gz_aload_n (pc := 95) dX12_factOf_95 rfl ?_
    refine gz_iload_n (pc := 96) dX12_factOf_96 rfl ?_
    refine gz_iconst (pc := 97) dX12_factOf_97 (v := 1) (by decide) ?_
    refine gz_V (zy := mX12_ofSlight) (zc := 0) (pc := 98) [.inl a3, .inl 1] rfl dX12_factOf_98 lkX12_275 MvX12_ofSlight rfl z_0_47 rfl rfl rfl (Or.inl rfl) (fun h => h) (by exact Nat.le_of_ble_eq_true rfl) ?_
    obtain ⟨v12, e11, h⟩ := gz_bd h
    refine gz_useI (c_X12_ofSlight e11) ?_
    cases h; exact gz_iret (pc := 101) dX12_factOf_101 rfl ⟨rfl, rfl⟩
  replace h := gz_ifn c5 h
  by_cases c6 : a1 = 6
  · replace h := gz_ifp c6 h
    refine gz_swIn (pc := 1) (tgt := 102) (off := 101) dX12_factOf_1 (by rw [c6]; decide) (by rw [c6]; decide) (by rw [c6]; rfl) (by decide) ?_
    refine gz_aload_n (pc := 102) dX12_factOf_102 rfl ?_
    refine gz_V (zy := mX12_heatNow) (zc := 0) (pc := 103) [] rfl dX12_factOf_103 lkX12_278 MvX12_heatNow rfl z_0_47 rfl rfl rfl (Or.inl rfl) (fun h => h) (by exact Nat.le_of_ble_eq_true rfl) ?_
    obtain ⟨v14, e13, h⟩ := gz_bd h
    refine gz_useI (c_X12_heatNow e13) ?_
    cases h; exact gz_iret (pc := 106) dX12_factOf_106 rfl ⟨rfl, rfl⟩
  replace h := gz_ifn c6 h
  by_cases c7 : a1 = 7
  · replace h := gz_ifp c7 h
    refine gz_swIn (pc := 1) (tgt := 107) (off := 106) dX12_factOf_1 (by rw [c7]; decide) (by rw [c7]; decide) (by rw [c7]; rfl) (by decide) ?_
    refine gz_aload_n (pc := 107) dX12_factOf_107 rfl ?_
    refine gr_X12_13 (pc := 108) dX12_factOf_108 z_0_47 rfl ?_
    refine gz_iconst (pc := 111) dX12_factOf_111 (v := 4) (by decide) ?_
    refine gz_iald2 (pc := 112) dX12_factOf_112 (k := 4) (v := I 0 48 4) z_0_48 rfl (gz_vpd (by decide)) (by decide) rfl ?_
    refine gz_iconst (pc := 113) dX12_factOf_113 (v := 4) (by decide) ?_
    refine gz_irem (pc := 114) dX12_factOf_114 (by decide) ?_
    cases h; exact gz_iret (pc := 115) dX12_factOf_115 rfl ⟨rfl, rfl⟩
  replace h := gz_ifn c7 h
  by_cases c8 : a1 = 8
  · replace h := gz_ifp c8 h
    refine gz_swIn (pc := 1) (tgt := 116) (off := 115) dX12_factOf_1 (by rw [c8]; decide) (by rw [c8]; decide) (by rw [c8]; rfl) (by decide) ?_
    refine gz_aload_n (pc := 116) dX12_factOf_116 rfl ?_
    refine gz_iload_n (pc := 117) dX12_factOf_117 rfl ?_
    refine gz_iconst (pc := 118) dX12_factOf_118 (v := 5) (by decide) ?_
    refine gz_V (zy := mX12_of) (zc := 0) (pc := 119) [.inl a3, .inl 5] rfl dX12_factOf_119 lkX12_70 MvX12_of rfl z_0_47 rfl rfl rfl (Or.inl rfl) (fun h => h) (by exact Nat.le_of_ble_eq_true rfl) ?_
    obtain ⟨v17, e16, h⟩ := gz_bd h
    refine gz_useI (c_X12_of e16) ?_
    cases h; exact gz_iret (pc := 122) dX12_factOf_122 rfl ⟨rfl, rfl⟩
  replace h := gz_ifn c8 h
  by_cases c9 : a1 = 9
  · replace h := gz_ifp c9 h
    refine gz_swIn (pc := 1) (tgt := 123) (off := 122) dX12_factOf_1 (by rw [c9]; decide) (by rw [c9]; decide) (by rw [c9]; rfl) (by decide) ?_
    refine gz_aload_n (pc := 123) dX12_factOf_123 rfl ?_
    refine gz_iload_n (pc := 124) dX12_factOf_124 rfl ?_
    refine gz_V (zy := mX12_isMutual) (zc := 0) (pc := 125) [.inl a3] rfl dX12_factOf_125 lkX12_281 MvX12_isMutual rfl z_0_47 rfl rfl rfl (Or.inl rfl) (fun h => h) (by exact Nat.le_of_ble_eq_true rfl) ?_
    obtain ⟨v19, e18, h⟩ := gz_bd h
    refine gz_useI (c_X12_isMutual e18) ?_
    have kj20 : gzX g 0 (d + 4) mX12_factOf 136 [some (.inr (.inr (0, 47))), some (.inl a1), some (.inl a2), some (.inl a3)] ([.inl (if v19 = 0 then (0 : Int32) else 1)]) (gzN, gzR0, I, J) 0 (gzE (.ok (some (.inl r))) (gzN, gzR0, I, J)) := by
      cases h; exact gz_iret (pc := 136) dX12_factOf_136 rfl ⟨rfl, rfl⟩
    refine gz_if_eq (pc := 128) (tgt := 135) dX12_factOf_128 (by decide) (fun c => ?_) (fun c => ?_)
    · rw [if_pos c] at kj20
      refine gz_iconst (pc := 135) dX12_factOf_135 (v := 0) (by decide) ?_
      exact kj20
    · rw [if_neg c] at kj20
      refine gz_iconst (pc := 131) dX12_factOf_131 (v := 1) (by decide) ?_
      refine gz_goto (pc := 132) (tgt := 136) dX12_factOf_132 (by decide) ?_
      exact kj20
  replace h := gz_ifn c9 h
  by_cases c10 : a1 = 10
  · replace h := gz_ifp c10 h
    refine gz_swIn (pc := 1) (tgt := 137) (off := 136) dX12_factOf_1 (by rw [c10]; decide) (by rw [c10]; decide) (by rw [c10]; rfl) (by decide) ?_
    refine gz_aload_n (pc := 137) dX12_factOf_137 rfl ?_
    refine gr_X12_13 (pc := 138) dX12_factOf_138 z_0_47 rfl ?_
    refine gz_bipush (pc := 141) dX12_factOf_141 (v := 6) (by decide) ?_
    refine gz_iald2 (pc := 143) dX12_factOf_143 (k := 6) (v := I 0 48 6) z_0_48 rfl (gz_vpd (by decide)) (by decide) rfl ?_
    cases h; exact gz_iret (pc := 144) dX12_factOf_144 rfl ⟨rfl, rfl⟩
  replace h := gz_ifn c10 h
  refine gz_swOut (pc := 1) (tgt := 145) dX12_factOf_1 (gz_sw0_11 c0 c1 c2 c3 c4 c5 c6 c7 c8 c9 c10) (by decide) ?_
  refine gz_iload_n (pc := 145) dX12_factOf_145 rfl ?_
  cases h; exact gz_iret (pc := 146) dX12_factOf_146 rfl ⟨rfl, rfl⟩
/-! X12_holdsLine: holdsLine -/
def gP_X12_holdsLine_22 (g : gzG) (d : Nat) (r : Int32 × gzIT × gzJT) (x2 : Int32) (x3 : Int32) (x4 : Int32) (x5 : Int32) (I : gzIT) (J : gzJT) : Prop := gzX g 0 (d + 5) mX12_holdsLine 22 [some (.inr (.inr (0, 47))), none, some (.inl x2), some (.inl x3), some (.inl x4), some (.inl x5), none, none, none, none] [] (gzN, gzR0, I, J) 0 (gzE (.ok (some (.inl r.1))) (gzN, gzR0, r.2.1, r.2.2))
def f_X12_holdsLine_22 (φ : Nat) : Nat → Int32 → Int32 → Int32 → Int32 → gzIT → gzJT → Option (Int32 × gzIT × gzJT)
  | 0, _, _, _, _, _, _ => none
  | k + 1, x2, x3, x4, x5, I, J => gzGd (x4 + 3) 2062 (if I 0 48 ((x4 + 3).toNatClampNeg) ≤ x5 then (if x3 = 0 then (some (1, I, J)) else (some ((if ¬ I 0 55 0 = 1 then (0 : Int32) else 1), I, J))) else (gzGd (413 + (2 * x5)) 2062 (if 11 < I 0 48 ((413 + (2 * x5)).toNatClampNeg) then (if ¬ I 0 48 ((413 + (2 * x5)).toNatClampNeg) = 15 then (gzGd ((x3 + (-1)) - 1) 400 (gzGd (x3 + (-1)) 400 (if ¬ I 0 48 ((413 + (2 * x5)).toNatClampNeg) = 13 then (if ¬ I 0 48 ((413 + (2 * x5)).toNatClampNeg) = 14 then (if ¬ I 0 48 ((413 + (2 * x5)).toNatClampNeg) = 16 then (if (I 0 55 (((x3 + (-1)) - 1).toNatClampNeg)) + (I 0 55 ((x3 + (-1)).toNatClampNeg)) ≤ 0 then (if ¬ I 0 48 ((413 + (2 * x5)).toNatClampNeg) = 12 then (if 0 = (0 : Int32) then (f_X12_holdsLine_22 φ k x2 (x3 + (-1)) x4 (x5 + 1) (gz_ui I 0 55 (((x3 + (-1)) - 1).toNatClampNeg) 0) J) else (f_X12_holdsLine_22 φ k x2 (x3 + (-1)) x4 (x5 + 1) (gz_ui I 0 55 (((x3 + (-1)) - 1).toNatClampNeg) 1) J)) else (f_X12_holdsLine_22 φ k x2 (x3 + (-1)) x4 (x5 + 1) (gz_ui I 0 55 (((x3 + (-1)) - 1).toNatClampNeg) ((I 0 55 (((x3 + (-1)) - 1).toNatClampNeg)) + (I 0 55 ((x3 + (-1)).toNatClampNeg)))) J)) else (if ¬ I 0 48 ((413 + (2 * x5)).toNatClampNeg) = 12 then (if 1 = (0 : Int32) then (f_X12_holdsLine_22 φ k x2 (x3 + (-1)) x4 (x5 + 1) (gz_ui I 0 55 (((x3 + (-1)) - 1).toNatClampNeg) 0) J) else (f_X12_holdsLine_22 φ k x2 (x3 + (-1)) x4 (x5 + 1) (gz_ui I 0 55 (((x3 + (-1)) - 1).toNatClampNeg) 1) J)) else (f_X12_holdsLine_22 φ k x2 (x3 + (-1)) x4 (x5 + 1) (gz_ui I 0 55 (((x3 + (-1)) - 1).toNatClampNeg) ((I 0 55 (((x3 + (-1)) - 1).toNatClampNeg)) + (I 0 55 ((x3 + (-1)).toNatClampNeg)))) J))) else (if ¬ (I 0 55 (((x3 + (-1)) - 1).toNatClampNeg)) + (I 0 55 ((x3 + (-1)).toNatClampNeg)) = 2 then (if ¬ I 0 48 ((413 + (2 * x5)).toNatClampNeg) = 12 then (if 0 = (0 : Int32) then (f_X12_holdsLine_22 φ k x2 (x3 + (-1)) x4 (x5 + 1) (gz_ui I 0 55 (((x3 + (-1)) - 1).toNatClampNeg) 0) J) else (f_X12_holdsLine_22 φ k x2 (x3 + (-1)) x4 (x5 + 1) (gz_ui I 0 55 (((x3 + (-1)) - 1).toNatClampNeg) 1) J)) else (f_X12_holdsLine_22 φ k x2 (x3 + (-1)) x4 (x5 + 1) (gz_ui I 0 55 (((x3 + (-1)) - 1).toNatClampNeg) ((I 0 55 (((x3 + (-1)) - 1).toNatClampNeg)) + (I 0 55 ((x3 + (-1)).toNatClampNeg)))) J)) else (if ¬ I 0 48 ((413 + (2 * x5)).toNatClampNeg) = 12 then (if 1 = (0 : Int32) then (f_X12_holdsLine_22 φ k x2 (x3 + (-1)) x4 (x5 + 1) (gz_ui I 0 55 (((x3 + (-1)) - 1).toNatClampNeg) 0) J) else (f_X12_holdsLine_22 φ k x2 (x3 + (-1)) x4 (x5 + 1) (gz_ui I 0 55 (((x3 + (-1)) - 1).toNatClampNeg) 1) J)) else (f_X12_holdsLine_22 φ k x2 (x3 + (-1)) x4 (x5 + 1) (gz_ui I 0 55 (((x3 + (-1)) - 1).toNatClampNeg) ((I 0 55 (((x3 + (-1)) - 1).toNatClampNeg)) + (I 0 55 ((x3 + (-1)).toNatClampNeg)))) J)))) else (if I 0 55 (((x3 + (-1)) - 1).toNatClampNeg) ≤ I 0 55 ((x3 + (-1)).toNatClampNeg) then (if ¬ I 0 48 ((413 + (2 * x5)).toNatClampNeg) = 12 then (if 0 = (0 : Int32) then (f_X12_holdsLine_22 φ k x2 (x3 + (-1)) x4 (x5 + 1) (gz_ui I 0 55 (((x3 + (-1)) - 1).toNatClampNeg) 0) J) else (f_X12_holdsLine_22 φ k x2 (x3 + (-1)) x4 (x5 + 1) (gz_ui I 0 55 (((x3 + (-1)) - 1).toNatClampNeg) 1) J)) else (f_X12_holdsLine_22 φ k x2 (x3 + (-1)) x4 (x5 + 1) (gz_ui I 0 55 (((x3 + (-1)) - 1).toNatClampNeg) ((I 0 55 (((x3 + (-1)) - 1).toNatClampNeg)) + (I 0 55 ((x3 + (-1)).toNatClampNeg)))) J)) else (if ¬ I 0 48 ((413 + (2 * x5)).toNatClampNeg) = 12 then (if 1 = (0 : Int32) then (f_X12_holdsLine_22 φ k x2 (x3 + (-1)) x4 (x5 + 1) (gz_ui I 0 55 (((x3 + (-1)) - 1).toNatClampNeg) 0) J) else (f_X12_holdsLine_22 φ k x2 (x3 + (-1)) x4 (x5 + 1) (gz_ui I 0 55 (((x3 + (-1)) - 1).toNatClampNeg) 1) J)) else (f_X12_holdsLine_22 φ k x2 (x3 + (-1)) x4 (x5 + 1) (gz_ui I 0 55 (((x3 + (-1)) - 1).toNatClampNeg) ((I 0 55 (((x3 + (-1)) - 1).toNatClampNeg)) + (I 0 55 ((x3 + (-1)).toNatClampNeg)))) J)))) else (if I 0 55 ((x3 + (-1)).toNatClampNeg) ≤ I 0 55 (((x3 + (-1)) - 1).toNatClampNeg) then (if ¬ I 0 48 ((413 + (2 * x5)).toNatClampNeg) = 12 then (if 0 = (0 : Int32) then (f_X12_holdsLine_22 φ k x2 (x3 + (-1)) x4 (x5 + 1) (gz_ui I 0 55 (((x3 + (-1)) - 1).toNatClampNeg) 0) J) else (f_X12_holdsLine_22 φ k x2 (x3 + (-1)) x4 (x5 + 1) (gz_ui I 0 55 (((x3 + (-1)) - 1).toNatClampNeg) 1) J)) else (f_X12_holdsLine_22 φ k x2 (x3 + (-1)) x4 (x5 + 1) (gz_ui I 0 55 (((x3 + (-1)) - 1).toNatClampNeg) ((I 0 55 (((x3 + (-1)) - 1).toNatClampNeg)) + (I 0 55 ((x3 + (-1)).toNatClampNeg)))) J)) else (if ¬ I 0 48 ((413 + (2 * x5)).toNatClampNeg) = 12 then (if 1 = (0 : Int32) then (f_X12_holdsLine_22 φ k x2 (x3 + (-1)) x4 (x5 + 1) (gz_ui I 0 55 (((x3 + (-1)) - 1).toNatClampNeg) 0) J) else (f_X12_holdsLine_22 φ k x2 (x3 + (-1)) x4 (x5 + 1) (gz_ui I 0 55 (((x3 + (-1)) - 1).toNatClampNeg) 1) J)) else (f_X12_holdsLine_22 φ k x2 (x3 + (-1)) x4 (x5 + 1) (gz_ui I 0 55 (((x3 + (-1)) - 1).toNatClampNeg) ((I 0 55 (((x3 + (-1)) - 1).toNatClampNeg)) + (I 0 55 ((x3 + (-1)).toNatClampNeg)))) J)))))) else (gzGd (x3 - 1) 400 (f_X12_holdsLine_22 φ k x2 x3 x4 (x5 + 1) (gz_ui I 0 55 ((x3 - 1).toNatClampNeg) (1 - (I 0 55 ((x3 - 1).toNatClampNeg)))) J))) else (gzGd ((413 + (2 * x5)) + 1) 2062 (Option.bind (f_X12_factOf φ I (I 0 48 ((413 + (2 * x5)).toNatClampNeg)) (I 0 48 (((413 + (2 * x5)) + 1).toNatClampNeg)) x2) (fun v10 => gzGd (x3) 400 (f_X12_holdsLine_22 φ k x2 (x3 + 1) x4 (x5 + 1) (gz_ui I 0 55 x3.toNatClampNeg v10) J)))))))
set_option maxRecDepth 20000 in
theorem p_X12_holdsLine_22 {g : gzG} {d φ : Nat} {r : Int32 × gzIT × gzJT} : ∀ (k : Nat) (x2 : Int32) (x3 : Int32) (x4 : Int32) (x5 : Int32) (I : gzIT) (J : gzJT), f_X12_holdsLine_22 φ k x2 x3 x4 x5 I J = some r → gP_X12_holdsLine_22 g d r x2 x3 x4 x5 I J := by
  intro k; induction k with
  | zero => intro x2 x3 x4 x5 I J h; cases h
  | succ k ih =>
    intro x2 x3 x4 x5 I J h
    unfold f_X12_holdsLine_22 at h
    unfold gP_X12_holdsLine_22
    have z_0_47 : gzOk 0 47 gzN := gzOk_of (by decide)
    have z_0_48 : gzOk 0 48 gzN := gzOk_of (by decide)
    have z_0_55 : gzOk 0 55 gzN := gzOk_of (by decide)
    refine gz_iload (pc := 22) dX12_holdsLine_22 rfl ?_
    refine gz_aload_n (pc := 24) dX12_holdsLine_24 rfl ?_
    refine gr_X12_13 (pc := 25) dX12_holdsLine_25 z_0_47 rfl ?_
    refine gz_iload (pc := 28) dX12_holdsLine_28 rfl ?_
    refine gz_iconst (pc := 30) dX12_holdsLine_30 (v := 3) (by decide) ?_
    refine gz_iadd (pc := 31) dX12_holdsLine_31  ?_
    obtain ⟨b2, h⟩ := gz_gd h
    refine gz_iald2 (pc := 32) dX12_holdsLine_32 (k := (x4 + 3).toNatClampNeg) (v := I 0 48 ((x4 + 3).toNatClampNeg)) z_0_48 rfl b2 rfl rfl ?_
    refine gz_ic_ge (pc := 33) (tgt := 263) dX12_holdsLine_33 (by decide) (fun c => ?_) (fun c => ?_)
    · replace h := gz_ifp c h
      refine gz_iload_n (pc := 263) dX12_holdsLine_263 rfl ?_
      refine gz_if_eq (pc := 264) (tgt := 277) dX12_holdsLine_264 (by decide) (fun c => ?_) (fun c => ?_)
      · replace h := gz_ifp c h
        refine gz_iconst (pc := 277) dX12_holdsLine_277 (v := 1) (by decide) ?_
        refine gz_goto (pc := 278) (tgt := 282) dX12_holdsLine_278 (by decide) ?_
        cases h; exact gz_zret (pc := 282) dX12_holdsLine_282 rfl (by decide) ⟨rfl, rfl⟩
      · replace h := gz_ifn c h
        refine gz_aload_n (pc := 267) dX12_holdsLine_267 rfl ?_
        refine gr_X12_39 (pc := 268) dX12_holdsLine_268 z_0_47 rfl ?_
        refine gz_iconst (pc := 271) dX12_holdsLine_271 (v := 0) (by decide) ?_
        refine gz_iald2 (pc := 272) dX12_holdsLine_272 (k := 0) (v := I 0 55 0) z_0_55 rfl (gz_vpd (by decide)) (by decide) rfl ?_
        refine gz_iconst (pc := 273) dX12_holdsLine_273 (v := 1) (by decide) ?_
        have kj3 : gzX g 0 (d + 5) mX12_holdsLine 282 [some (.inr (.inr (0, 47))), none, some (.inl x2), some (.inl x3), some (.inl x4), some (.inl x5), none, none, none, none] ([.inl (if ¬ I 0 55 0 = 1 then (0 : Int32) else 1)]) (gzN, gzR0, I, J) 0 (gzE (.ok (some (.inl r.1))) (gzN, gzR0, r.2.1, r.2.2)) := by
          cases h; exact gz_zret (pc := 282) dX12_holdsLine_282 rfl (by first | exact gz_ite01 | exact gz_ite10) ⟨rfl, rfl⟩
        refine gz_ic_ne (pc := 274) (tgt := 281) dX12_holdsLine_274 (by decide) (fun c => ?_) (fun c => ?_)
        · rw [if_pos c] at kj3
          refine gz_iconst (pc := 281) dX12_holdsLine_281 (v := 0) (by decide) ?_
          exact kj3
        · rw [if_neg (show ¬ (¬ I 0 55 0 = 1) from fun q => q c)] at kj3
          refine gz_iconst (pc := 277) dX12_holdsLine_277 (v := 1) (by decide) ?_
          refine gz_goto (pc := 278) (tgt := 282) dX12_holdsLine_278 (by decide) ?_
          exact kj3
    · replace h := gz_ifn c h
      refine gz_aload_n (pc := 36) dX12_holdsLine_36 rfl ?_
      refine gr_X12_13 (pc := 37) dX12_holdsLine_37 z_0_47 rfl ?_
      refine gz_sipush (pc := 40) dX12_holdsLine_40 (v := 413) (by decide) ?_
      refine gz_iconst (pc := 43) dX12_holdsLine_43 (v := 2) (by decide) ?_
      refine gz_iload (pc := 44) dX12_holdsLine_44 rfl ?_
      refine gz_imul (pc := 46) dX12_holdsLine_46  ?_
      refine gz_iadd (pc := 47) dX12_holdsLine_47  ?_
      obtain ⟨b4, h⟩ := gz_gd h
      refine gz_iald2 (pc := 48) dX12_holdsLine_48 (k := (413 + (2 * x5)).toNatClampNeg) (v := I 0 48 ((413 + (2 * x5)).toNatClampNeg)) z_0_48 rfl b4 rfl rfl ?_
      refine gz_istore (pc := 49) dX12_holdsLine_49 (by decide) rfl (loc2 := [some (.inr (.inr (0, 47))), none, some (.inl x2), some (.inl x3), some (.inl x4), some (.inl x5), some (.inl (I 0 48 ((413 + (2 * x5)).toNatClampNeg))), none, none, none]) rfl ?_
      refine gz_iload (pc := 51) dX12_holdsLine_51 rfl ?_
      refine gz_bipush (pc := 53) dX12_holdsLine_53 (v := 11) (by decide) ?_
      refine gz_ic_gt (pc := 55) (tgt := 92) dX12_holdsLine_55 (by decide) (fun c => ?_) (fun c => ?_)
      · replace h := gz_ifp c h
        refine gz_iload (pc := 92) dX12_holdsLine_92 rfl ?_
        refine gz_bipush (pc := 94) dX12_holdsLine_94 (v := 15) (by decide) ?_
        refine gz_ic_ne (pc := 96) (tgt := 120) dX12_holdsLine_96 (by decide) (fun c => ?_) (fun c => ?_)
        · replace h := gz_ifp c h
          refine gz_iinc (pc := 120) dX12_holdsLine_120 (x := x3) (v := x3 + (-1)) rfl (by rw [show Int32.ofInt (-1) = (-1) by decide]) (by decide) rfl (loc2 := [some (.inr (.inr (0, 47))), none, some (.inl x2), some (.inl (x3 + (-1))), some (.inl x4), some (.inl x5), some (.inl (I 0 48 ((413 + (2 * x5)).toNatClampNeg))), none, none, none]) rfl ?_
          refine gz_aload_n (pc := 123) dX12_holdsLine_123 rfl ?_
          refine gr_X12_39 (pc := 124) dX12_holdsLine_124 z_0_47 rfl ?_
          refine gz_iload_n (pc := 127) dX12_holdsLine_127 rfl ?_
          refine gz_iconst (pc := 128) dX12_holdsLine_128 (v := 1) (by decide) ?_
          refine gz_isub (pc := 129) dX12_holdsLine_129  ?_
          obtain ⟨b5, h⟩ := gz_gd h
          refine gz_iald2 (pc := 130) dX12_holdsLine_130 (k := ((x3 + (-1)) - 1).toNatClampNeg) (v := I 0 55 (((x3 + (-1)) - 1).toNatClampNeg)) z_0_55 rfl b5 rfl rfl ?_
          refine gz_istore (pc := 131) dX12_holdsLine_131 (by decide) rfl (loc2 := [some (.inr (.inr (0, 47))), none, some (.inl x2), some (.inl (x3 + (-1))), some (.inl x4), some (.inl x5), some (.inl (I 0 48 ((413 + (2 * x5)).toNatClampNeg))), some (.inl (I 0 55 (((x3 + (-1)) - 1).toNatClampNeg))), none, none]) rfl ?_
          refine gz_aload_n (pc := 133) dX12_holdsLine_133 rfl ?_
          refine gr_X12_39 (pc := 134) dX12_holdsLine_134 z_0_47 rfl ?_
          refine gz_iload_n (pc := 137) dX12_holdsLine_137 rfl ?_
          obtain ⟨b6, h⟩ := gz_gd h
          refine gz_iald2 (pc := 138) dX12_holdsLine_138 (k := (x3 + (-1)).toNatClampNeg) (v := I 0 55 ((x3 + (-1)).toNatClampNeg)) z_0_55 rfl b6 rfl rfl ?_
          refine gz_istore (pc := 139) dX12_holdsLine_139 (by decide) rfl (loc2 := [some (.inr (.inr (0, 47))), none, some (.inl x2), some (.inl (x3 + (-1))), some (.inl x4), some (.inl x5), some (.inl (I 0 48 ((413 + (2 * x5)).toNatClampNeg))), some (.inl (I 0 55 (((x3 + (-1)) - 1).toNatClampNeg))), some (.inl (I 0 55 ((x3 + (-1)).toNatClampNeg))), none]) rfl ?_
          refine gz_iload (pc := 141) dX12_holdsLine_141 rfl ?_
          refine gz_bipush (pc := 143) dX12_holdsLine_143 (v := 13) (by decide) ?_
          refine gz_ic_ne (pc := 145) (tgt := 163) dX12_holdsLine_145 (by decide) (fun c => ?_) (fun c => ?_)
          · replace h := gz_ifp c h
            refine gz_iload (pc := 163) dX12_holdsLine_163 rfl ?_
            refine gz_bipush (pc := 165) dX12_holdsLine_165 (v := 14) (by decide) ?_
            refine gz_ic_ne (pc := 167) (tgt := 185) dX12_holdsLine_167 (by decide) (fun c => ?_) (fun c => ?_)
            · replace h := gz_ifp c h
              refine gz_iload (pc := 185) dX12_holdsLine_185 rfl ?_
              refine gz_bipush (pc := 187) dX12_holdsLine_187 (v := 16) (by decide) ?_
              refine gz_ic_ne (pc := 189) (tgt := 209) dX12_holdsLine_189 (by decide) (fun c => ?_) (fun c => ?_)
              · replace h := gz_ifp c h
                refine gz_iload (pc := 209) dX12_holdsLine_209 rfl ?_
                refine gz_iload (pc := 211) dX12_holdsLine_211 rfl ?_
                refine gz_iadd (pc := 213) dX12_holdsLine_213  ?_
                refine gz_if_le (pc := 214) (tgt := 221) dX12_holdsLine_214 (by decide) (fun c => ?_) (fun c => ?_)
                · replace h := gz_ifp c h
                  refine gz_iconst (pc := 221) dX12_holdsLine_221 (v := 0) (by decide) ?_
                  refine gz_istore (pc := 222) dX12_holdsLine_222 (by decide) rfl (loc2 := [some (.inr (.inr (0, 47))), none, some (.inl x2), some (.inl (x3 + (-1))), some (.inl x4), some (.inl x5), some (.inl (I 0 48 ((413 + (2 * x5)).toNatClampNeg))), some (.inl (I 0 55 (((x3 + (-1)) - 1).toNatClampNeg))), some (.inl (I 0 55 ((x3 + (-1)).toNatClampNeg))), some (.inl 0)]) rfl ?_
                  refine gz_aload_n (pc := 224) dX12_holdsLine_224 rfl ?_
                  refine gr_X12_39 (pc := 225) dX12_holdsLine_225 z_0_47 rfl ?_
                  refine gz_iload_n (pc := 228) dX12_holdsLine_228 rfl ?_
                  refine gz_iconst (pc := 229) dX12_holdsLine_229 (v := 1) (by decide) ?_
                  refine gz_isub (pc := 230) dX12_holdsLine_230  ?_
                  refine gz_iload (pc := 231) dX12_holdsLine_231 rfl ?_
                  refine gz_bipush (pc := 233) dX12_holdsLine_233 (v := 12) (by decide) ?_
                  refine gz_ic_ne (pc := 235) (tgt := 246) dX12_holdsLine_235 (by decide) (fun c => ?_) (fun c => ?_)
                  · replace h := gz_ifp c h
                    refine gz_iload (pc := 246) dX12_holdsLine_246 rfl ?_
                    refine gz_if_eq (pc := 248) (tgt := 255) dX12_holdsLine_248 (by decide) (fun c => ?_) (fun c => ?_)
                    · replace h := gz_ifp c h
                      refine gz_iconst (pc := 255) dX12_holdsLine_255 (v := 0) (by decide) ?_
                      refine gz_iast2 (pc := 256) dX12_holdsLine_256 (k := ((x3 + (-1)) - 1).toNatClampNeg) z_0_55 rfl b5 rfl ?_
                      refine gz_iinc (pc := 257) dX12_holdsLine_257 (x := x5) (v := x5 + 1) rfl (by rw [show Int32.ofInt 1 = 1 by decide]) (by decide) rfl (loc2 := [some (.inr (.inr (0, 47))), none, some (.inl x2), some (.inl (x3 + (-1))), some (.inl x4), some (.inl (x5 + 1)), some (.inl (I 0 48 ((413 + (2 * x5)).toNatClampNeg))), some (.inl (I 0 55 (((x3 + (-1)) - 1).toNatClampNeg))), some (.inl (I 0 55 ((x3 + (-1)).toNatClampNeg))), some (.inl 0)]) rfl ?_
                      refine gz_goto (pc := 260) (tgt := 22) dX12_holdsLine_260 (by decide) ?_
                      exact gz_weak (loc2 := [some (.inr (.inr (0, 47))), none, some (.inl x2), some (.inl (x3 + (-1))), some (.inl x4), some (.inl (x5 + 1)), none, none, none, none]) (ih x2 (x3 + (-1)) x4 (x5 + 1) (gz_ui I 0 55 (((x3 + (-1)) - 1).toNatClampNeg) 0) J h) (by repeat (first | exact trivial | refine ⟨rfl, ?_⟩))
                    · replace h := gz_ifn c h
                      refine gz_iconst (pc := 251) dX12_holdsLine_251 (v := 1) (by decide) ?_
                      refine gz_goto (pc := 252) (tgt := 256) dX12_holdsLine_252 (by decide) ?_
                      refine gz_iast2 (pc := 256) dX12_holdsLine_256 (k := ((x3 + (-1)) - 1).toNatClampNeg) z_0_55 rfl b5 rfl ?_
                      refine gz_iinc (pc := 257) dX12_holdsLine_257 (x := x5) (v := x5 + 1) rfl (by rw [show Int32.ofInt 1 = 1 by decide]) (by decide) rfl (loc2 := [some (.inr (.inr (0, 47))), none, some (.inl x2), some (.inl (x3 + (-1))), some (.inl x4), some (.inl (x5 + 1)), some (.inl (I 0 48 ((413 + (2 * x5)).toNatClampNeg))), some (.inl (I 0 55 (((x3 + (-1)) - 1).toNatClampNeg))), some (.inl (I 0 55 ((x3 + (-1)).toNatClampNeg))), some (.inl 0)]) rfl ?_
                      refine gz_goto (pc := 260) (tgt := 22) dX12_holdsLine_260 (by decide) ?_
                      exact gz_weak (loc2 := [some (.inr (.inr (0, 47))), none, some (.inl x2), some (.inl (x3 + (-1))), some (.inl x4), some (.inl (x5 + 1)), none, none, none, none]) (ih x2 (x3 + (-1)) x4 (x5 + 1) (gz_ui I 0 55 (((x3 + (-1)) - 1).toNatClampNeg) 1) J h) (by repeat (first | exact trivial | refine ⟨rfl, ?_⟩))
                  · replace h := gz_ifn (fun q => q c) h
                    refine gz_iload (pc := 238) dX12_holdsLine_238 rfl ?_
                    refine gz_iload (pc := 240) dX12_holdsLine_240 rfl ?_
                    refine gz_iadd (pc := 242) dX12_holdsLine_242  ?_
                    refine gz_goto (pc := 243) (tgt := 256) dX12_holdsLine_243 (by decide) ?_
                    refine gz_iast2 (pc := 256) dX12_holdsLine_256 (k := ((x3 + (-1)) - 1).toNatClampNeg) z_0_55 rfl b5 rfl ?_
                    refine gz_iinc (pc := 257) dX12_holdsLine_257 (x := x5) (v := x5 + 1) rfl (by rw [show Int32.ofInt 1 = 1 by decide]) (by decide) rfl (loc2 := [some (.inr (.inr (0, 47))), none, some (.inl x2), some (.inl (x3 + (-1))), some (.inl x4), some (.inl (x5 + 1)), some (.inl (I 0 48 ((413 + (2 * x5)).toNatClampNeg))), some (.inl (I 0 55 (((x3 + (-1)) - 1).toNatClampNeg))), some (.inl (I 0 55 ((x3 + (-1)).toNatClampNeg))), some (.inl 0)]) rfl ?_
                    refine gz_goto (pc := 260) (tgt := 22) dX12_holdsLine_260 (by decide) ?_
                    exact gz_weak (loc2 := [some (.inr (.inr (0, 47))), none, some (.inl x2), some (.inl (x3 + (-1))), some (.inl x4), some (.inl (x5 + 1)), none, none, none, none]) (ih x2 (x3 + (-1)) x4 (x5 + 1) (gz_ui I 0 55 (((x3 + (-1)) - 1).toNatClampNeg) ((I 0 55 (((x3 + (-1)) - 1).toNatClampNeg)) + (I 0 55 ((x3 + (-1)).toNatClampNeg)))) J h) (by repeat (first | exact trivial | refine ⟨rfl, ?_⟩))
                · replace h := gz_ifn c h
                  refine gz_iconst (pc := 217) dX12_holdsLine_217 (v := 1) (by decide) ?_
                  refine gz_goto (pc := 218) (tgt := 222) dX12_holdsLine_218 (by decide) ?_
                  refine gz_istore (pc := 222) dX12_holdsLine_222 (by decide) rfl (loc2 := [some (.inr (.inr (0, 47))), none, some (.inl x2), some (.inl (x3 + (-1))), some (.inl x4), some (.inl x5), some (.inl (I 0 48 ((413 + (2 * x5)).toNatClampNeg))), some (.inl (I 0 55 (((x3 + (-1)) - 1).toNatClampNeg))), some (.inl (I 0 55 ((x3 + (-1)).toNatClampNeg))), some (.inl 1)]) rfl ?_
                  refine gz_aload_n (pc := 224) dX12_holdsLine_224 rfl ?_
                  refine gr_X12_39 (pc := 225) dX12_holdsLine_225 z_0_47 rfl ?_
                  refine gz_iload_n (pc := 228) dX12_holdsLine_228 rfl ?_
                  refine gz_iconst (pc := 229) dX12_holdsLine_229 (v := 1) (by decide) ?_
                  refine gz_isub (pc := 230) dX12_holdsLine_230  ?_
                  refine gz_iload (pc := 231) dX12_holdsLine_231 rfl ?_
                  refine gz_bipush (pc := 233) dX12_holdsLine_233 (v := 12) (by decide) ?_
                  refine gz_ic_ne (pc := 235) (tgt := 246) dX12_holdsLine_235 (by decide) (fun c => ?_) (fun c => ?_)
                  · replace h := gz_ifp c h
                    refine gz_iload (pc := 246) dX12_holdsLine_246 rfl ?_
                    refine gz_if_eq (pc := 248) (tgt := 255) dX12_holdsLine_248 (by decide) (fun c => ?_) (fun c => ?_)
                    · replace h := gz_ifp c h
                      refine gz_iconst (pc := 255) dX12_holdsLine_255 (v := 0) (by decide) ?_
                      refine gz_iast2 (pc := 256) dX12_holdsLine_256 (k := ((x3 + (-1)) - 1).toNatClampNeg) z_0_55 rfl b5 rfl ?_
                      refine gz_iinc (pc := 257) dX12_holdsLine_257 (x := x5) (v := x5 + 1) rfl (by rw [show Int32.ofInt 1 = 1 by decide]) (by decide) rfl (loc2 := [some (.inr (.inr (0, 47))), none, some (.inl x2), some (.inl (x3 + (-1))), some (.inl x4), some (.inl (x5 + 1)), some (.inl (I 0 48 ((413 + (2 * x5)).toNatClampNeg))), some (.inl (I 0 55 (((x3 + (-1)) - 1).toNatClampNeg))), some (.inl (I 0 55 ((x3 + (-1)).toNatClampNeg))), some (.inl 1)]) rfl ?_
                      refine gz_goto (pc := 260) (tgt := 22) dX12_holdsLine_260 (by decide) ?_
                      exact gz_weak (loc2 := [some (.inr (.inr (0, 47))), none, some (.inl x2), some (.inl (x3 + (-1))), some (.inl x4), some (.inl (x5 + 1)), none, none, none, none]) (ih x2 (x3 + (-1)) x4 (x5 + 1) (gz_ui I 0 55 (((x3 + (-1)) - 1).toNatClampNeg) 0) J h) (by repeat (first | exact trivial | refine ⟨rfl, ?_⟩))
                    · replace h := gz_ifn c h
                      refine gz_iconst (pc := 251) dX12_holdsLine_251 (v := 1) (by decide) ?_
                      refine gz_goto (pc := 252) (tgt := 256) dX12_holdsLine_252 (by decide) ?_
                      refine gz_iast2 (pc := 256) dX12_holdsLine_256 (k := ((x3 + (-1)) - 1).toNatClampNeg) z_0_55 rfl b5 rfl ?_
                      refine gz_iinc (pc := 257) dX12_holdsLine_257 (x := x5) (v := x5 + 1) rfl (by rw [show Int32.ofInt 1 = 1 by decide]) (by decide) rfl (loc2 := [some (.inr (.inr (0, 47))), none, some (.inl x2), some (.inl (x3 + (-1))), some (.inl x4), some (.inl (x5 + 1)), some (.inl (I 0 48 ((413 + (2 * x5)).toNatClampNeg))), some (.inl (I 0 55 (((x3 + (-1)) - 1).toNatClampNeg))), some (.inl (I 0 55 ((x3 + (-1)).toNatClampNeg))), some (.inl 1)]) rfl ?_
                      refine gz_goto (pc := 260) (tgt := 22) dX12_holdsLine_260 (by decide) ?_
                      exact gz_weak (loc2 := [some (.inr (.inr (0, 47))), none, some (.inl x2), some (.inl (x3 + (-1))), some (.inl x4), some (.inl (x5 + 1)), none, none, none, none]) (ih x2 (x3 + (-1)) x4 (x5 + 1) (gz_ui I 0 55 (((x3 + (-1)) - 1).toNatClampNeg) 1) J h) (by repeat (first | exact trivial | refine ⟨rfl, ?_⟩))
                  · replace h := gz_ifn (fun q => q c) h
                    refine gz_iload (pc := 238) dX12_holdsLine_238 rfl ?_
                    refine gz_iload (pc := 240) dX12_holdsLine_240 rfl ?_
                    refine gz_iadd (pc := 242) dX12_holdsLine_242  ?_
                    refine gz_goto (pc := 243) (tgt := 256) dX12_holdsLine_243 (by decide) ?_
                    refine gz_iast2 (pc := 256) dX12_holdsLine_256 (k := ((x3 + (-1)) - 1).toNatClampNeg) z_0_55 rfl b5 rfl ?_
                    refine gz_iinc (pc := 257) dX12_holdsLine_257 (x := x5) (v := x5 + 1) rfl (by rw [show Int32.ofInt 1 = 1 by decide]) (by decide) rfl (loc2 := [some (.inr (.inr (0, 47))), none, some (.inl x2), some (.inl (x3 + (-1))), some (.inl x4), some (.inl (x5 + 1)), some (.inl (I 0 48 ((413 + (2 * x5)).toNatClampNeg))), some (.inl (I 0 55 (((x3 + (-1)) - 1).toNatClampNeg))), some (.inl (I 0 55 ((x3 + (-1)).toNatClampNeg))), some (.inl 1)]) rfl ?_
                    refine gz_goto (pc := 260) (tgt := 22) dX12_holdsLine_260 (by decide) ?_
                    exact gz_weak (loc2 := [some (.inr (.inr (0, 47))), none, some (.inl x2), some (.inl (x3 + (-1))), some (.inl x4), some (.inl (x5 + 1)), none, none, none, none]) (ih x2 (x3 + (-1)) x4 (x5 + 1) (gz_ui I 0 55 (((x3 + (-1)) - 1).toNatClampNeg) ((I 0 55 (((x3 + (-1)) - 1).toNatClampNeg)) + (I 0 55 ((x3 + (-1)).toNatClampNeg)))) J h) (by repeat (first | exact trivial | refine ⟨rfl, ?_⟩))
              · replace h := gz_ifn (fun q => q c) h
                refine gz_iload (pc := 192) dX12_holdsLine_192 rfl ?_
                refine gz_iload (pc := 194) dX12_holdsLine_194 rfl ?_
                refine gz_iadd (pc := 196) dX12_holdsLine_196  ?_
                refine gz_iconst (pc := 197) dX12_holdsLine_197 (v := 2) (by decide) ?_
                refine gz_ic_ne (pc := 198) (tgt := 205) dX12_holdsLine_198 (by decide) (fun c => ?_) (fun c => ?_)
                · replace h := gz_ifp c h
                  refine gz_iconst (pc := 205) dX12_holdsLine_205 (v := 0) (by decide) ?_
                  refine gz_goto (pc := 206) (tgt := 222) dX12_holdsLine_206 (by decide) ?_
                  refine gz_istore (pc := 222) dX12_holdsLine_222 (by decide) rfl (loc2 := [some (.inr (.inr (0, 47))), none, some (.inl x2), some (.inl (x3 + (-1))), some (.inl x4), some (.inl x5), some (.inl (I 0 48 ((413 + (2 * x5)).toNatClampNeg))), some (.inl (I 0 55 (((x3 + (-1)) - 1).toNatClampNeg))), some (.inl (I 0 55 ((x3 + (-1)).toNatClampNeg))), some (.inl 0)]) rfl ?_
                  refine gz_aload_n (pc := 224) dX12_holdsLine_224 rfl ?_
                  refine gr_X12_39 (pc := 225) dX12_holdsLine_225 z_0_47 rfl ?_
                  refine gz_iload_n (pc := 228) dX12_holdsLine_228 rfl ?_
                  refine gz_iconst (pc := 229) dX12_holdsLine_229 (v := 1) (by decide) ?_
                  refine gz_isub (pc := 230) dX12_holdsLine_230  ?_
                  refine gz_iload (pc := 231) dX12_holdsLine_231 rfl ?_
                  refine gz_bipush (pc := 233) dX12_holdsLine_233 (v := 12) (by decide) ?_
                  refine gz_ic_ne (pc := 235) (tgt := 246) dX12_holdsLine_235 (by decide) (fun c => ?_) (fun c => ?_)
                  · replace h := gz_ifp c h
                    refine gz_iload (pc := 246) dX12_holdsLine_246 rfl ?_
                    refine gz_if_eq (pc := 248) (tgt := 255) dX12_holdsLine_248 (by decide) (fun c => ?_) (fun c => ?_)
                    · replace h := gz_ifp c h
                      refine gz_iconst (pc := 255) dX12_holdsLine_255 (v := 0) (by decide) ?_
                      refine gz_iast2 (pc := 256) dX12_holdsLine_256 (k := ((x3 + (-1)) - 1).toNatClampNeg) z_0_55 rfl b5 rfl ?_
                      refine gz_iinc (pc := 257) dX12_holdsLine_257 (x := x5) (v := x5 + 1) rfl (by rw [show Int32.ofInt 1 = 1 by decide]) (by decide) rfl (loc2 := [some (.inr (.inr (0, 47))), none, some (.inl x2), some (.inl (x3 + (-1))), some (.inl x4), some (.inl (x5 + 1)), some (.inl (I 0 48 ((413 + (2 * x5)).toNatClampNeg))), some (.inl (I 0 55 (((x3 + (-1)) - 1).toNatClampNeg))), some (.inl (I 0 55 ((x3 + (-1)).toNatClampNeg))), some (.inl 0)]) rfl ?_
                      refine gz_goto (pc := 260) (tgt := 22) dX12_holdsLine_260 (by decide) ?_
                      exact gz_weak (loc2 := [some (.inr (.inr (0, 47))), none, some (.inl x2), some (.inl (x3 + (-1))), some (.inl x4), some (.inl (x5 + 1)), none, none, none, none]) (ih x2 (x3 + (-1)) x4 (x5 + 1) (gz_ui I 0 55 (((x3 + (-1)) - 1).toNatClampNeg) 0) J h) (by repeat (first | exact trivial | refine ⟨rfl, ?_⟩))
                    · replace h := gz_ifn c h
                      refine gz_iconst (pc := 251) dX12_holdsLine_251 (v := 1) (by decide) ?_
                      refine gz_goto (pc := 252) (tgt := 256) dX12_holdsLine_252 (by decide) ?_
                      refine gz_iast2 (pc := 256) dX12_holdsLine_256 (k := ((x3 + (-1)) - 1).toNatClampNeg) z_0_55 rfl b5 rfl ?_
                      refine gz_iinc (pc := 257) dX12_holdsLine_257 (x := x5) (v := x5 + 1) rfl (by rw [show Int32.ofInt 1 = 1 by decide]) (by decide) rfl (loc2 := [some (.inr (.inr (0, 47))), none, some (.inl x2), some (.inl (x3 + (-1))), some (.inl x4), some (.inl (x5 + 1)), some (.inl (I 0 48 ((413 + (2 * x5)).toNatClampNeg))), some (.inl (I 0 55 (((x3 + (-1)) - 1).toNatClampNeg))), some (.inl (I 0 55 ((x3 + (-1)).toNatClampNeg))), some (.inl 0)]) rfl ?_
                      refine gz_goto (pc := 260) (tgt := 22) dX12_holdsLine_260 (by decide) ?_
                      exact gz_weak (loc2 := [some (.inr (.inr (0, 47))), none, some (.inl x2), some (.inl (x3 + (-1))), some (.inl x4), some (.inl (x5 + 1)), none, none, none, none]) (ih x2 (x3 + (-1)) x4 (x5 + 1) (gz_ui I 0 55 (((x3 + (-1)) - 1).toNatClampNeg) 1) J h) (by repeat (first | exact trivial | refine ⟨rfl, ?_⟩))
                  · replace h := gz_ifn (fun q => q c) h
                    refine gz_iload (pc := 238) dX12_holdsLine_238 rfl ?_
                    refine gz_iload (pc := 240) dX12_holdsLine_240 rfl ?_
                    refine gz_iadd (pc := 242) dX12_holdsLine_242  ?_
                    refine gz_goto (pc := 243) (tgt := 256) dX12_holdsLine_243 (by decide) ?_
                    refine gz_iast2 (pc := 256) dX12_holdsLine_256 (k := ((x3 + (-1)) - 1).toNatClampNeg) z_0_55 rfl b5 rfl ?_
                    refine gz_iinc (pc := 257) dX12_holdsLine_257 (x := x5) (v := x5 + 1) rfl (by rw [show Int32.ofInt 1 = 1 by decide]) (by decide) rfl (loc2 := [some (.inr (.inr (0, 47))), none, some (.inl x2), some (.inl (x3 + (-1))), some (.inl x4), some (.inl (x5 + 1)), some (.inl (I 0 48 ((413 + (2 * x5)).toNatClampNeg))), some (.inl (I 0 55 (((x3 + (-1)) - 1).toNatClampNeg))), some (.inl (I 0 55 ((x3 + (-1)).toNatClampNeg))), some (.inl 0)]) rfl ?_
                    refine gz_goto (pc := 260) (tgt := 22) dX12_holdsLine_260 (by decide) ?_
                    exact gz_weak (loc2 := [some (.inr (.inr (0, 47))), none, some (.inl x2), some (.inl (x3 + (-1))), some (.inl x4), some (.inl (x5 + 1)), none, none, none, none]) (ih x2 (x3 + (-1)) x4 (x5 + 1) (gz_ui I 0 55 (((x3 + (-1)) - 1).toNatClampNeg) ((I 0 55 (((x3 + (-1)) - 1).toNatClampNeg)) + (I 0 55 ((x3 + (-1)).toNatClampNeg)))) J h) (by repeat (first | exact trivial | refine ⟨rfl, ?_⟩))
                · replace h := gz_ifn (fun q => q c) h
                  refine gz_iconst (pc := 201) dX12_holdsLine_201 (v := 1) (by decide) ?_
                  refine gz_goto (pc := 202) (tgt := 222) dX12_holdsLine_202 (by decide) ?_
                  refine gz_istore (pc := 222) dX12_holdsLine_222 (by decide) rfl (loc2 := [some (.inr (.inr (0, 47))), none, some (.inl x2), some (.inl (x3 + (-1))), some (.inl x4), some (.inl x5), some (.inl (I 0 48 ((413 + (2 * x5)).toNatClampNeg))), some (.inl (I 0 55 (((x3 + (-1)) - 1).toNatClampNeg))), some (.inl (I 0 55 ((x3 + (-1)).toNatClampNeg))), some (.inl 1)]) rfl ?_
                  refine gz_aload_n (pc := 224) dX12_holdsLine_224 rfl ?_
                  refine gr_X12_39 (pc := 225) dX12_holdsLine_225 z_0_47 rfl ?_
                  refine gz_iload_n (pc := 228) dX12_holdsLine_228 rfl ?_
                  refine gz_iconst (pc := 229) dX12_holdsLine_229 (v := 1) (by decide) ?_
                  refine gz_isub (pc := 230) dX12_holdsLine_230  ?_
                  refine gz_iload (pc := 231) dX12_holdsLine_231 rfl ?_
                  refine gz_bipush (pc := 233) dX12_holdsLine_233 (v := 12) (by decide) ?_
                  refine gz_ic_ne (pc := 235) (tgt := 246) dX12_holdsLine_235 (by decide) (fun c => ?_) (fun c => ?_)
                  · replace h := gz_ifp c h
                    refine gz_iload (pc := 246) dX12_holdsLine_246 rfl ?_
                    refine gz_if_eq (pc := 248) (tgt := 255) dX12_holdsLine_248 (by decide) (fun c => ?_) (fun c => ?_)
                    · replace h := gz_ifp c h
                      refine gz_iconst (pc := 255) dX12_holdsLine_255 (v := 0) (by decide) ?_
                      refine gz_iast2 (pc := 256) dX12_holdsLine_256 (k := ((x3 + (-1)) - 1).toNatClampNeg) z_0_55 rfl b5 rfl ?_
                      refine gz_iinc (pc := 257) dX12_holdsLine_257 (x := x5) (v := x5 + 1) rfl (by rw [show Int32.ofInt 1 = 1 by decide]) (by decide) rfl (loc2 := [some (.inr (.inr (0, 47))), none, some (.inl x2), some (.inl (x3 + (-1))), some (.inl x4), some (.inl (x5 + 1)), some (.inl (I 0 48 ((413 + (2 * x5)).toNatClampNeg))), some (.inl (I 0 55 (((x3 + (-1)) - 1).toNatClampNeg))), some (.inl (I 0 55 ((x3 + (-1)).toNatClampNeg))), some (.inl 1)]) rfl ?_
                      refine gz_goto (pc := 260) (tgt := 22) dX12_holdsLine_260 (by decide) ?_
                      exact gz_weak (loc2 := [some (.inr (.inr (0, 47))), none, some (.inl x2), some (.inl (x3 + (-1))), some (.inl x4), some (.inl (x5 + 1)), none, none, none, none]) (ih x2 (x3 + (-1)) x4 (x5 + 1) (gz_ui I 0 55 (((x3 + (-1)) - 1).toNatClampNeg) 0) J h) (by repeat (first | exact trivial | refine ⟨rfl, ?_⟩))
                    · replace h := gz_ifn c h
                      refine gz_iconst (pc := 251) dX12_holdsLine_251 (v := 1) (by decide) ?_
                      refine gz_goto (pc := 252) (tgt := 256) dX12_holdsLine_252 (by decide) ?_
                      refine gz_iast2 (pc := 256) dX12_holdsLine_256 (k := ((x3 + (-1)) - 1).toNatClampNeg) z_0_55 rfl b5 rfl ?_
                      refine gz_iinc (pc := 257) dX12_holdsLine_257 (x := x5) (v := x5 + 1) rfl (by rw [show Int32.ofInt 1 = 1 by decide]) (by decide) rfl (loc2 := [some (.inr (.inr (0, 47))), none, some (.inl x2), some (.inl (x3 + (-1))), some (.inl x4), some (.inl (x5 + 1)), some (.inl (I 0 48 ((413 + (2 * x5)).toNatClampNeg))), some (.inl (I 0 55 (((x3 + (-1)) - 1).toNatClampNeg))), some (.inl (I 0 55 ((x3 + (-1)).toNatClampNeg))), some (.inl 1)]) rfl ?_
                      refine gz_goto (pc := 260) (tgt := 22) dX12_holdsLine_260 (by decide) ?_
                      exact gz_weak (loc2 := [some (.inr (.inr (0, 47))), none, some (.inl x2), some (.inl (x3 + (-1))), some (.inl x4), some (.inl (x5 + 1)), none, none, none, none]) (ih x2 (x3 + (-1)) x4 (x5 + 1) (gz_ui I 0 55 (((x3 + (-1)) - 1).toNatClampNeg) 1) J h) (by repeat (first | exact trivial | refine ⟨rfl, ?_⟩))
                  · replace h := gz_ifn (fun q => q c) h
                    refine gz_iload (pc := 238) dX12_holdsLine_238 rfl ?_
                    refine gz_iload (pc := 240) dX12_holdsLine_240 rfl ?_
                    refine gz_iadd (pc := 242) dX12_holdsLine_242  ?_
                    refine gz_goto (pc := 243) (tgt := 256) dX12_holdsLine_243 (by decide) ?_
                    refine gz_iast2 (pc := 256) dX12_holdsLine_256 (k := ((x3 + (-1)) - 1).toNatClampNeg) z_0_55 rfl b5 rfl ?_
                    refine gz_iinc (pc := 257) dX12_holdsLine_257 (x := x5) (v := x5 + 1) rfl (by rw [show Int32.ofInt 1 = 1 by decide]) (by decide) rfl (loc2 := [some (.inr (.inr (0, 47))), none, some (.inl x2), some (.inl (x3 + (-1))), some (.inl x4), some (.inl (x5 + 1)), some (.inl (I 0 48 ((413 + (2 * x5)).toNatClampNeg))), some (.inl (I 0 55 (((x3 + (-1)) - 1).toNatClampNeg))), some (.inl (I 0 55 ((x3 + (-1)).toNatClampNeg))), some (.inl 1)]) rfl ?_
                    refine gz_goto (pc := 260) (tgt := 22) dX12_holdsLine_260 (by decide) ?_
                    exact gz_weak (loc2 := [some (.inr (.inr (0, 47))), none, some (.inl x2), some (.inl (x3 + (-1))), some (.inl x4), some (.inl (x5 + 1)), none, none, none, none]) (ih x2 (x3 + (-1)) x4 (x5 + 1) (gz_ui I 0 55 (((x3 + (-1)) - 1).toNatClampNeg) ((I 0 55 (((x3 + (-1)) - 1).toNatClampNeg)) + (I 0 55 ((x3 + (-1)).toNatClampNeg)))) J h) (by repeat (first | exact trivial | refine ⟨rfl, ?_⟩))
            · replace h := gz_ifn (fun q => q c) h
              refine gz_iload (pc := 170) dX12_holdsLine_170 rfl ?_
              refine gz_iload (pc := 172) dX12_holdsLine_172 rfl ?_
              refine gz_ic_le (pc := 174) (tgt := 181) dX12_holdsLine_174 (by decide) (fun c => ?_) (fun c => ?_)
              · replace h := gz_ifp c h
                refine gz_iconst (pc := 181) dX12_holdsLine_181 (v := 0) (by decide) ?_
                refine gz_goto (pc := 182) (tgt := 222) dX12_holdsLine_182 (by decide) ?_
                refine gz_istore (pc := 222) dX12_holdsLine_222 (by decide) rfl (loc2 := [some (.inr (.inr (0, 47))), none, some (.inl x2), some (.inl (x3 + (-1))), some (.inl x4), some (.inl x5), some (.inl (I 0 48 ((413 + (2 * x5)).toNatClampNeg))), some (.inl (I 0 55 (((x3 + (-1)) - 1).toNatClampNeg))), some (.inl (I 0 55 ((x3 + (-1)).toNatClampNeg))), some (.inl 0)]) rfl ?_
                refine gz_aload_n (pc := 224) dX12_holdsLine_224 rfl ?_
                refine gr_X12_39 (pc := 225) dX12_holdsLine_225 z_0_47 rfl ?_
                refine gz_iload_n (pc := 228) dX12_holdsLine_228 rfl ?_
                refine gz_iconst (pc := 229) dX12_holdsLine_229 (v := 1) (by decide) ?_
                refine gz_isub (pc := 230) dX12_holdsLine_230  ?_
                refine gz_iload (pc := 231) dX12_holdsLine_231 rfl ?_
                refine gz_bipush (pc := 233) dX12_holdsLine_233 (v := 12) (by decide) ?_
                refine gz_ic_ne (pc := 235) (tgt := 246) dX12_holdsLine_235 (by decide) (fun c => ?_) (fun c => ?_)
                · replace h := gz_ifp c h
                  refine gz_iload (pc := 246) dX12_holdsLine_246 rfl ?_
                  refine gz_if_eq (pc := 248) (tgt := 255) dX12_holdsLine_248 (by decide) (fun c => ?_) (fun c => ?_)
                  · replace h := gz_ifp c h
                    refine gz_iconst (pc := 255) dX12_holdsLine_255 (v := 0) (by decide) ?_
                    refine gz_iast2 (pc := 256) dX12_holdsLine_256 (k := ((x3 + (-1)) - 1).toNatClampNeg) z_0_55 rfl b5 rfl ?_
                    refine gz_iinc (pc := 257) dX12_holdsLine_257 (x := x5) (v := x5 + 1) rfl (by rw [show Int32.ofInt 1 = 1 by decide]) (by decide) rfl (loc2 := [some (.inr (.inr (0, 47))), none, some (.inl x2), some (.inl (x3 + (-1))), some (.inl x4), some (.inl (x5 + 1)), some (.inl (I 0 48 ((413 + (2 * x5)).toNatClampNeg))), some (.inl (I 0 55 (((x3 + (-1)) - 1).toNatClampNeg))), some (.inl (I 0 55 ((x3 + (-1)).toNatClampNeg))), some (.inl 0)]) rfl ?_
                    refine gz_goto (pc := 260) (tgt := 22) dX12_holdsLine_260 (by decide) ?_
                    exact gz_weak (loc2 := [some (.inr (.inr (0, 47))), none, some (.inl x2), some (.inl (x3 + (-1))), some (.inl x4), some (.inl (x5 + 1)), none, none, none, none]) (ih x2 (x3 + (-1)) x4 (x5 + 1) (gz_ui I 0 55 (((x3 + (-1)) - 1).toNatClampNeg) 0) J h) (by repeat (first | exact trivial | refine ⟨rfl, ?_⟩))
                  · replace h := gz_ifn c h
                    refine gz_iconst (pc := 251) dX12_holdsLine_251 (v := 1) (by decide) ?_
                    refine gz_goto (pc := 252) (tgt := 256) dX12_holdsLine_252 (by decide) ?_
                    refine gz_iast2 (pc := 256) dX12_holdsLine_256 (k := ((x3 + (-1)) - 1).toNatClampNeg) z_0_55 rfl b5 rfl ?_
                    refine gz_iinc (pc := 257) dX12_holdsLine_257 (x := x5) (v := x5 + 1) rfl (by rw [show Int32.ofInt 1 = 1 by decide]) (by decide) rfl (loc2 := [some (.inr (.inr (0, 47))), none, some (.inl x2), some (.inl (x3 + (-1))), some (.inl x4), some (.inl (x5 + 1)), some (.inl (I 0 48 ((413 + (2 * x5)).toNatClampNeg))), some (.inl (I 0 55 (((x3 + (-1)) - 1).toNatClampNeg))), some (.inl (I 0 55 ((x3 + (-1)).toNatClampNeg))), some (.inl 0)]) rfl ?_
                    refine gz_goto (pc := 260) (tgt := 22) dX12_holdsLine_260 (by decide) ?_
                    exact gz_weak (loc2 := [some (.inr (.inr (0, 47))), none, some (.inl x2), some (.inl (x3 + (-1))), some (.inl x4), some (.inl (x5 + 1)), none, none, none, none]) (ih x2 (x3 + (-1)) x4 (x5 + 1) (gz_ui I 0 55 (((x3 + (-1)) - 1).toNatClampNeg) 1) J h) (by repeat (first | exact trivial | refine ⟨rfl, ?_⟩))
                · replace h := gz_ifn (fun q => q c) h
                  refine gz_iload (pc := 238) dX12_holdsLine_238 rfl ?_
                  refine gz_iload (pc := 240) dX12_holdsLine_240 rfl ?_
                  refine gz_iadd (pc := 242) dX12_holdsLine_242  ?_
                  refine gz_goto (pc := 243) (tgt := 256) dX12_holdsLine_243 (by decide) ?_
                  refine gz_iast2 (pc := 256) dX12_holdsLine_256 (k := ((x3 + (-1)) - 1).toNatClampNeg) z_0_55 rfl b5 rfl ?_
                  refine gz_iinc (pc := 257) dX12_holdsLine_257 (x := x5) (v := x5 + 1) rfl (by rw [show Int32.ofInt 1 = 1 by decide]) (by decide) rfl (loc2 := [some (.inr (.inr (0, 47))), none, some (.inl x2), some (.inl (x3 + (-1))), some (.inl x4), some (.inl (x5 + 1)), some (.inl (I 0 48 ((413 + (2 * x5)).toNatClampNeg))), some (.inl (I 0 55 (((x3 + (-1)) - 1).toNatClampNeg))), some (.inl (I 0 55 ((x3 + (-1)).toNatClampNeg))), some (.inl 0)]) rfl ?_
                  refine gz_goto (pc := 260) (tgt := 22) dX12_holdsLine_260 (by decide) ?_
                  exact gz_weak (loc2 := [some (.inr (.inr (0, 47))), none, some (.inl x2), some (.inl (x3 + (-1))), some (.inl x4), some (.inl (x5 + 1)), none, none, none, none]) (ih x2 (x3 + (-1)) x4 (x5 + 1) (gz_ui I 0 55 (((x3 + (-1)) - 1).toNatClampNeg) ((I 0 55 (((x3 + (-1)) - 1).toNatClampNeg)) + (I 0 55 ((x3 + (-1)).toNatClampNeg)))) J h) (by repeat (first | exact trivial | refine ⟨rfl, ?_⟩))
              · replace h := gz_ifn c h
                refine gz_iconst (pc := 177) dX12_holdsLine_177 (v := 1) (by decide) ?_
                refine gz_goto (pc := 178) (tgt := 222) dX12_holdsLine_178 (by decide) ?_
                refine gz_istore (pc := 222) dX12_holdsLine_222 (by decide) rfl (loc2 := [some (.inr (.inr (0, 47))), none, some (.inl x2), some (.inl (x3 + (-1))), some (.inl x4), some (.inl x5), some (.inl (I 0 48 ((413 + (2 * x5)).toNatClampNeg))), some (.inl (I 0 55 (((x3 + (-1)) - 1).toNatClampNeg))), some (.inl (I 0 55 ((x3 + (-1)).toNatClampNeg))), some (.inl 1)]) rfl ?_
                refine gz_aload_n (pc := 224) dX12_holdsLine_224 rfl ?_
                refine gr_X12_39 (pc := 225) dX12_holdsLine_225 z_0_47 rfl ?_
                refine gz_iload_n (pc := 228) dX12_holdsLine_228 rfl ?_
                refine gz_iconst (pc := 229) dX12_holdsLine_229 (v := 1) (by decide) ?_
                refine gz_isub (pc := 230) dX12_holdsLine_230  ?_
                refine gz_iload (pc := 231) dX12_holdsLine_231 rfl ?_
                refine gz_bipush (pc := 233) dX12_holdsLine_233 (v := 12) (by decide) ?_
                refine gz_ic_ne (pc := 235) (tgt := 246) dX12_holdsLine_235 (by decide) (fun c => ?_) (fun c => ?_)
                · replace h := gz_ifp c h
                  refine gz_iload (pc := 246) dX12_holdsLine_246 rfl ?_
                  refine gz_if_eq (pc := 248) (tgt := 255) dX12_holdsLine_248 (by decide) (fun c => ?_) (fun c => ?_)
                  · replace h := gz_ifp c h
                    refine gz_iconst (pc := 255) dX12_holdsLine_255 (v := 0) (by decide) ?_
                    refine gz_iast2 (pc := 256) dX12_holdsLine_256 (k := ((x3 + (-1)) - 1).toNatClampNeg) z_0_55 rfl b5 rfl ?_
                    refine gz_iinc (pc := 257) dX12_holdsLine_257 (x := x5) (v := x5 + 1) rfl (by rw [show Int32.ofInt 1 = 1 by decide]) (by decide) rfl (loc2 := [some (.inr (.inr (0, 47))), none, some (.inl x2), some (.inl (x3 + (-1))), some (.inl x4), some (.inl (x5 + 1)), some (.inl (I 0 48 ((413 + (2 * x5)).toNatClampNeg))), some (.inl (I 0 55 (((x3 + (-1)) - 1).toNatClampNeg))), some (.inl (I 0 55 ((x3 + (-1)).toNatClampNeg))), some (.inl 1)]) rfl ?_
                    refine gz_goto (pc := 260) (tgt := 22) dX12_holdsLine_260 (by decide) ?_
                    exact gz_weak (loc2 := [some (.inr (.inr (0, 47))), none, some (.inl x2), some (.inl (x3 + (-1))), some (.inl x4), some (.inl (x5 + 1)), none, none, none, none]) (ih x2 (x3 + (-1)) x4 (x5 + 1) (gz_ui I 0 55 (((x3 + (-1)) - 1).toNatClampNeg) 0) J h) (by repeat (first | exact trivial | refine ⟨rfl, ?_⟩))
                  · replace h := gz_ifn c h
                    refine gz_iconst (pc := 251) dX12_holdsLine_251 (v := 1) (by decide) ?_
                    refine gz_goto (pc := 252) (tgt := 256) dX12_holdsLine_252 (by decide) ?_
                    refine gz_iast2 (pc := 256) dX12_holdsLine_256 (k := ((x3 + (-1)) - 1).toNatClampNeg) z_0_55 rfl b5 rfl ?_
                    refine gz_iinc (pc := 257) dX12_holdsLine_257 (x := x5) (v := x5 + 1) rfl (by rw [show Int32.ofInt 1 = 1 by decide]) (by decide) rfl (loc2 := [some (.inr (.inr (0, 47))), none, some (.inl x2), some (.inl (x3 + (-1))), some (.inl x4), some (.inl (x5 + 1)), some (.inl (I 0 48 ((413 + (2 * x5)).toNatClampNeg))), some (.inl (I 0 55 (((x3 + (-1)) - 1).toNatClampNeg))), some (.inl (I 0 55 ((x3 + (-1)).toNatClampNeg))), some (.inl 1)]) rfl ?_
                    refine gz_goto (pc := 260) (tgt := 22) dX12_holdsLine_260 (by decide) ?_
                    exact gz_weak (loc2 := [some (.inr (.inr (0, 47))), none, some (.inl x2), some (.inl (x3 + (-1))), some (.inl x4), some (.inl (x5 + 1)), none, none, none, none]) (ih x2 (x3 + (-1)) x4 (x5 + 1) (gz_ui I 0 55 (((x3 + (-1)) - 1).toNatClampNeg) 1) J h) (by repeat (first | exact trivial | refine ⟨rfl, ?_⟩))
                · replace h := gz_ifn (fun q => q c) h
                  refine gz_iload (pc := 238) dX12_holdsLine_238 rfl ?_
                  refine gz_iload (pc := 240) dX12_holdsLine_240 rfl ?_
                  refine gz_iadd (pc := 242) dX12_holdsLine_242  ?_
                  refine gz_goto (pc := 243) (tgt := 256) dX12_holdsLine_243 (by decide) ?_
                  refine gz_iast2 (pc := 256) dX12_holdsLine_256 (k := ((x3 + (-1)) - 1).toNatClampNeg) z_0_55 rfl b5 rfl ?_
                  refine gz_iinc (pc := 257) dX12_holdsLine_257 (x := x5) (v := x5 + 1) rfl (by rw [show Int32.ofInt 1 = 1 by decide]) (by decide) rfl (loc2 := [some (.inr (.inr (0, 47))), none, some (.inl x2), some (.inl (x3 + (-1))), some (.inl x4), some (.inl (x5 + 1)), some (.inl (I 0 48 ((413 + (2 * x5)).toNatClampNeg))), some (.inl (I 0 55 (((x3 + (-1)) - 1).toNatClampNeg))), some (.inl (I 0 55 ((x3 + (-1)).toNatClampNeg))), some (.inl 1)]) rfl ?_
                  refine gz_goto (pc := 260) (tgt := 22) dX12_holdsLine_260 (by decide) ?_
                  exact gz_weak (loc2 := [some (.inr (.inr (0, 47))), none, some (.inl x2), some (.inl (x3 + (-1))), some (.inl x4), some (.inl (x5 + 1)), none, none, none, none]) (ih x2 (x3 + (-1)) x4 (x5 + 1) (gz_ui I 0 55 (((x3 + (-1)) - 1).toNatClampNeg) ((I 0 55 (((x3 + (-1)) - 1).toNatClampNeg)) + (I 0 55 ((x3 + (-1)).toNatClampNeg)))) J h) (by repeat (first | exact trivial | refine ⟨rfl, ?_⟩))
          · replace h := gz_ifn (fun q => q c) h
            refine gz_iload (pc := 148) dX12_holdsLine_148 rfl ?_
            refine gz_iload (pc := 150) dX12_holdsLine_150 rfl ?_
            refine gz_ic_ge (pc := 152) (tgt := 159) dX12_holdsLine_152 (by decide) (fun c => ?_) (fun c => ?_)
            · replace h := gz_ifp c h
              refine gz_iconst (pc := 159) dX12_holdsLine_159 (v := 0) (by decide) ?_
              refine gz_goto (pc := 160) (tgt := 222) dX12_holdsLine_160 (by decide) ?_
              refine gz_istore (pc := 222) dX12_holdsLine_222 (by decide) rfl (loc2 := [some (.inr (.inr (0, 47))), none, some (.inl x2), some (.inl (x3 + (-1))), some (.inl x4), some (.inl x5), some (.inl (I 0 48 ((413 + (2 * x5)).toNatClampNeg))), some (.inl (I 0 55 (((x3 + (-1)) - 1).toNatClampNeg))), some (.inl (I 0 55 ((x3 + (-1)).toNatClampNeg))), some (.inl 0)]) rfl ?_
              refine gz_aload_n (pc := 224) dX12_holdsLine_224 rfl ?_
              refine gr_X12_39 (pc := 225) dX12_holdsLine_225 z_0_47 rfl ?_
              refine gz_iload_n (pc := 228) dX12_holdsLine_228 rfl ?_
              refine gz_iconst (pc := 229) dX12_holdsLine_229 (v := 1) (by decide) ?_
              refine gz_isub (pc := 230) dX12_holdsLine_230  ?_
              refine gz_iload (pc := 231) dX12_holdsLine_231 rfl ?_
              refine gz_bipush (pc := 233) dX12_holdsLine_233 (v := 12) (by decide) ?_
              refine gz_ic_ne (pc := 235) (tgt := 246) dX12_holdsLine_235 (by decide) (fun c => ?_) (fun c => ?_)
              · replace h := gz_ifp c h
                refine gz_iload (pc := 246) dX12_holdsLine_246 rfl ?_
                refine gz_if_eq (pc := 248) (tgt := 255) dX12_holdsLine_248 (by decide) (fun c => ?_) (fun c => ?_)
                · replace h := gz_ifp c h
                  refine gz_iconst (pc := 255) dX12_holdsLine_255 (v := 0) (by decide) ?_
                  refine gz_iast2 (pc := 256) dX12_holdsLine_256 (k := ((x3 + (-1)) - 1).toNatClampNeg) z_0_55 rfl b5 rfl ?_
                  refine gz_iinc (pc := 257) dX12_holdsLine_257 (x := x5) (v := x5 + 1) rfl (by rw [show Int32.ofInt 1 = 1 by decide]) (by decide) rfl (loc2 := [some (.inr (.inr (0, 47))), none, some (.inl x2), some (.inl (x3 + (-1))), some (.inl x4), some (.inl (x5 + 1)), some (.inl (I 0 48 ((413 + (2 * x5)).toNatClampNeg))), some (.inl (I 0 55 (((x3 + (-1)) - 1).toNatClampNeg))), some (.inl (I 0 55 ((x3 + (-1)).toNatClampNeg))), some (.inl 0)]) rfl ?_
                  refine gz_goto (pc := 260) (tgt := 22) dX12_holdsLine_260 (by decide) ?_
                  exact gz_weak (loc2 := [some (.inr (.inr (0, 47))), none, some (.inl x2), some (.inl (x3 + (-1))), some (.inl x4), some (.inl (x5 + 1)), none, none, none, none]) (ih x2 (x3 + (-1)) x4 (x5 + 1) (gz_ui I 0 55 (((x3 + (-1)) - 1).toNatClampNeg) 0) J h) (by repeat (first | exact trivial | refine ⟨rfl, ?_⟩))
                · replace h := gz_ifn c h
                  refine gz_iconst (pc := 251) dX12_holdsLine_251 (v := 1) (by decide) ?_
                  refine gz_goto (pc := 252) (tgt := 256) dX12_holdsLine_252 (by decide) ?_
                  refine gz_iast2 (pc := 256) dX12_holdsLine_256 (k := ((x3 + (-1)) - 1).toNatClampNeg) z_0_55 rfl b5 rfl ?_
                  refine gz_iinc (pc := 257) dX12_holdsLine_257 (x := x5) (v := x5 + 1) rfl (by rw [show Int32.ofInt 1 = 1 by decide]) (by decide) rfl (loc2 := [some (.inr (.inr (0, 47))), none, some (.inl x2), some (.inl (x3 + (-1))), some (.inl x4), some (.inl (x5 + 1)), some (.inl (I 0 48 ((413 + (2 * x5)).toNatClampNeg))), some (.inl (I 0 55 (((x3 + (-1)) - 1).toNatClampNeg))), some (.inl (I 0 55 ((x3 + (-1)).toNatClampNeg))), some (.inl 0)]) rfl ?_
                  refine gz_goto (pc := 260) (tgt := 22) dX12_holdsLine_260 (by decide) ?_
                  exact gz_weak (loc2 := [some (.inr (.inr (0, 47))), none, some (.inl x2), some (.inl (x3 + (-1))), some (.inl x4), some (.inl (x5 + 1)), none, none, none, none]) (ih x2 (x3 + (-1)) x4 (x5 + 1) (gz_ui I 0 55 (((x3 + (-1)) - 1).toNatClampNeg) 1) J h) (by repeat (first | exact trivial | refine ⟨rfl, ?_⟩))
              · replace h := gz_ifn (fun q => q c) h
                refine gz_iload (pc := 238) dX12_holdsLine_238 rfl ?_
                refine gz_iload (pc := 240) dX12_holdsLine_240 rfl ?_
                refine gz_iadd (pc := 242) dX12_holdsLine_242  ?_
                refine gz_goto (pc := 243) (tgt := 256) dX12_holdsLine_243 (by decide) ?_
                refine gz_iast2 (pc := 256) dX12_holdsLine_256 (k := ((x3 + (-1)) - 1).toNatClampNeg) z_0_55 rfl b5 rfl ?_
                refine gz_iinc (pc := 257) dX12_holdsLine_257 (x := x5) (v := x5 + 1) rfl (by rw [show Int32.ofInt 1 = 1 by decide]) (by decide) rfl (loc2 := [some (.inr (.inr (0, 47))), none, some (.inl x2), some (.inl (x3 + (-1))), some (.inl x4), some (.inl (x5 + 1)), some (.inl (I 0 48 ((413 + (2 * x5)).toNatClampNeg))), some (.inl (I 0 55 (((x3 + (-1)) - 1).toNatClampNeg))), some (.inl (I 0 55 ((x3 + (-1)).toNatClampNeg))), some (.inl 0)]) rfl ?_
                refine gz_goto (pc := 260) (tgt := 22) dX12_holdsLine_260 (by decide) ?_
                exact gz_weak (loc2 := [some (.inr (.inr (0, 47))), none, some (.inl x2), some (.inl (x3 + (-1))), some (.inl x4), some (.inl (x5 + 1)), none, none, none, none]) (ih x2 (x3 + (-1)) x4 (x5 + 1) (gz_ui I 0 55 (((x3 + (-1)) - 1).toNatClampNeg) ((I 0 55 (((x3 + (-1)) - 1).toNatClampNeg)) + (I 0 55 ((x3 + (-1)).toNatClampNeg)))) J h) (by repeat (first | exact trivial | refine ⟨rfl, ?_⟩))
            · replace h := gz_ifn c h
              refine gz_iconst (pc := 155) dX12_holdsLine_155 (v := 1) (by decide) ?_
              refine gz_goto (pc := 156) (tgt := 222) dX12_holdsLine_156 (by decide) ?_
              refine gz_istore (pc := 222) dX12_holdsLine_222 (by decide) rfl (loc2 := [some (.inr (.inr (0, 47))), none, some (.inl x2), some (.inl (x3 + (-1))), some (.inl x4), some (.inl x5), some (.inl (I 0 48 ((413 + (2 * x5)).toNatClampNeg))), some (.inl (I 0 55 (((x3 + (-1)) - 1).toNatClampNeg))), some (.inl (I 0 55 ((x3 + (-1)).toNatClampNeg))), some (.inl 1)]) rfl ?_
              refine gz_aload_n (pc := 224) dX12_holdsLine_224 rfl ?_
              refine gr_X12_39 (pc := 225) dX12_holdsLine_225 z_0_47 rfl ?_
              refine gz_iload_n (pc := 228) dX12_holdsLine_228 rfl ?_
              refine gz_iconst (pc := 229) dX12_holdsLine_229 (v := 1) (by decide) ?_
              refine gz_isub (pc := 230) dX12_holdsLine_230  ?_
              refine gz_iload (pc := 231) dX12_holdsLine_231 rfl ?_
              refine gz_bipush (pc := 233) dX12_holdsLine_233 (v := 12) (by decide) ?_
              refine gz_ic_ne (pc := 235) (tgt := 246) dX12_holdsLine_235 (by decide) (fun c => ?_) (fun c => ?_)
              · replace h := gz_ifp c h
                refine gz_iload (pc := 246) dX12_holdsLine_246 rfl ?_
                refine gz_if_eq (pc := 248) (tgt := 255) dX12_holdsLine_248 (by decide) (fun c => ?_) (fun c => ?_)
                · replace h := gz_ifp c h
                  refine gz_iconst (pc := 255) dX12_holdsLine_255 (v := 0) (by decide) ?_
                  refine gz_iast2 (pc := 256) dX12_holdsLine_256 (k := ((x3 + (-1)) - 1).toNatClampNeg) z_0_55 rfl b5 rfl ?_
                  refine gz_iinc (pc := 257) dX12_holdsLine_257 (x := x5) (v := x5 + 1) rfl (by rw [show Int32.ofInt 1 = 1 by decide]) (by decide) rfl (loc2 := [some (.inr (.inr (0, 47))), none, some (.inl x2), some (.inl (x3 + (-1))), some (.inl x4), some (.inl (x5 + 1)), some (.inl (I 0 48 ((413 + (2 * x5)).toNatClampNeg))), some (.inl (I 0 55 (((x3 + (-1)) - 1).toNatClampNeg))), some (.inl (I 0 55 ((x3 + (-1)).toNatClampNeg))), some (.inl 1)]) rfl ?_
                  refine gz_goto (pc := 260) (tgt := 22) dX12_holdsLine_260 (by decide) ?_
                  exact gz_weak (loc2 := [some (.inr (.inr (0, 47))), none, some (.inl x2), some (.inl (x3 + (-1))), some (.inl x4), some (.inl (x5 + 1)), none, none, none, none]) (ih x2 (x3 + (-1)) x4 (x5 + 1) (gz_ui I 0 55 (((x3 + (-1)) - 1).toNatClampNeg) 0) J h) (by repeat (first | exact trivial | refine ⟨rfl, ?_⟩))
                · replace h := gz_ifn c h
                  refine gz_iconst (pc := 251) dX12_holdsLine_251 (v := 1) (by decide) ?_
                  refine gz_goto (pc := 252) (tgt := 256) dX12_holdsLine_252 (by decide) ?_
                  refine gz_iast2 (pc := 256) dX12_holdsLine_256 (k := ((x3 + (-1)) - 1).toNatClampNeg) z_0_55 rfl b5 rfl ?_
                  refine gz_iinc (pc := 257) dX12_holdsLine_257 (x := x5) (v := x5 + 1) rfl (by rw [show Int32.ofInt 1 = 1 by decide]) (by decide) rfl (loc2 := [some (.inr (.inr (0, 47))), none, some (.inl x2), some (.inl (x3 + (-1))), some (.inl x4), some (.inl (x5 + 1)), some (.inl (I 0 48 ((413 + (2 * x5)).toNatClampNeg))), some (.inl (I 0 55 (((x3 + (-1)) - 1).toNatClampNeg))), some (.inl (I 0 55 ((x3 + (-1)).toNatClampNeg))), some (.inl 1)]) rfl ?_
                  refine gz_goto (pc := 260) (tgt := 22) dX12_holdsLine_260 (by decide) ?_
                  exact gz_weak (loc2 := [some (.inr (.inr (0, 47))), none, some (.inl x2), some (.inl (x3 + (-1))), some (.inl x4), some (.inl (x5 + 1)), none, none, none, none]) (ih x2 (x3 + (-1)) x4 (x5 + 1) (gz_ui I 0 55 (((x3 + (-1)) - 1).toNatClampNeg) 1) J h) (by repeat (first | exact trivial | refine ⟨rfl, ?_⟩))
              · replace h := gz_ifn (fun q => q c) h
                refine gz_iload (pc := 238) dX12_holdsLine_238 rfl ?_
                refine gz_iload (pc := 240) dX12_holdsLine_240 rfl ?_
                refine gz_iadd (pc := 242) dX12_holdsLine_242  ?_
                refine gz_goto (pc := 243) (tgt := 256) dX12_holdsLine_243 (by decide) ?_
                refine gz_iast2 (pc := 256) dX12_holdsLine_256 (k := ((x3 + (-1)) - 1).toNatClampNeg) z_0_55 rfl b5 rfl ?_
                refine gz_iinc (pc := 257) dX12_holdsLine_257 (x := x5) (v := x5 + 1) rfl (by rw [show Int32.ofInt 1 = 1 by decide]) (by decide) rfl (loc2 := [some (.inr (.inr (0, 47))), none, some (.inl x2), some (.inl (x3 + (-1))), some (.inl x4), some (.inl (x5 + 1)), some (.inl (I 0 48 ((413 + (2 * x5)).toNatClampNeg))), some (.inl (I 0 55 (((x3 + (-1)) - 1).toNatClampNeg))), some (.inl (I 0 55 ((x3 + (-1)).toNatClampNeg))), some (.inl 1)]) rfl ?_
                refine gz_goto (pc := 260) (tgt := 22) dX12_holdsLine_260 (by decide) ?_
                exact gz_weak (loc2 := [some (.inr (.inr (0, 47))), none, some (.inl x2), some (.inl (x3 + (-1))), some (.inl x4), some (.inl (x5 + 1)), none, none, none, none]) (ih x2 (x3 + (-1)) x4 (x5 + 1) (gz_ui I 0 55 (((x3 + (-1)) - 1).toNatClampNeg) ((I 0 55 (((x3 + (-1)) - 1).toNatClampNeg)) + (I 0 55 ((x3 + (-1)).toNatClampNeg)))) J h) (by repeat (first | exact trivial | refine ⟨rfl, ?_⟩))
        · replace h := gz_ifn (fun q => q c) h
          refine gz_aload_n (pc := 99) dX12_holdsLine_99 rfl ?_
          refine gr_X12_39 (pc := 100) dX12_holdsLine_100 z_0_47 rfl ?_
          refine gz_iload_n (pc := 103) dX12_holdsLine_103 rfl ?_
          refine gz_iconst (pc := 104) dX12_holdsLine_104 (v := 1) (by decide) ?_
          refine gz_isub (pc := 105) dX12_holdsLine_105  ?_
          refine gz_iconst (pc := 106) dX12_holdsLine_106 (v := 1) (by decide) ?_
          refine gz_aload_n (pc := 107) dX12_holdsLine_107 rfl ?_
          refine gr_X12_39 (pc := 108) dX12_holdsLine_108 z_0_47 rfl ?_
          refine gz_iload_n (pc := 111) dX12_holdsLine_111 rfl ?_
          refine gz_iconst (pc := 112) dX12_holdsLine_112 (v := 1) (by decide) ?_
          refine gz_isub (pc := 113) dX12_holdsLine_113  ?_
          obtain ⟨b7, h⟩ := gz_gd h
          refine gz_iald2 (pc := 114) dX12_holdsLine_114 (k := (x3 - 1).toNatClampNeg) (v := I 0 55 ((x3 - 1).toNatClampNeg)) z_0_55 rfl b7 rfl rfl ?_
          refine gz_isub (pc := 115) dX12_holdsLine_115  ?_
          refine gz_iast2 (pc := 116) dX12_holdsLine_116 (k := (x3 - 1).toNatClampNeg) z_0_55 rfl b7 rfl ?_
          refine gz_goto (pc := 117) (tgt := 257) dX12_holdsLine_117 (by decide) ?_
          refine gz_iinc (pc := 257) dX12_holdsLine_257 (x := x5) (v := x5 + 1) rfl (by rw [show Int32.ofInt 1 = 1 by decide]) (by decide) rfl (loc2 := [some (.inr (.inr (0, 47))), none, some (.inl x2), some (.inl x3), some (.inl x4), some (.inl (x5 + 1)), some (.inl (I 0 48 ((413 + (2 * x5)).toNatClampNeg))), none, none, none]) rfl ?_
          refine gz_goto (pc := 260) (tgt := 22) dX12_holdsLine_260 (by decide) ?_
          exact gz_weak (loc2 := [some (.inr (.inr (0, 47))), none, some (.inl x2), some (.inl x3), some (.inl x4), some (.inl (x5 + 1)), none, none, none, none]) (ih x2 x3 x4 (x5 + 1) (gz_ui I 0 55 ((x3 - 1).toNatClampNeg) (1 - (I 0 55 ((x3 - 1).toNatClampNeg)))) J h) (by repeat (first | exact trivial | refine ⟨rfl, ?_⟩))
      · replace h := gz_ifn c h
        refine gz_aload_n (pc := 58) dX12_holdsLine_58 rfl ?_
        refine gr_X12_39 (pc := 59) dX12_holdsLine_59 z_0_47 rfl ?_
        refine gz_iload_n (pc := 62) dX12_holdsLine_62 rfl ?_
        refine gz_aload_n (pc := 63) dX12_holdsLine_63 rfl ?_
        refine gz_iload (pc := 64) dX12_holdsLine_64 rfl ?_
        refine gz_aload_n (pc := 66) dX12_holdsLine_66 rfl ?_
        refine gr_X12_13 (pc := 67) dX12_holdsLine_67 z_0_47 rfl ?_
        refine gz_sipush (pc := 70) dX12_holdsLine_70 (v := 413) (by decide) ?_
        refine gz_iconst (pc := 73) dX12_holdsLine_73 (v := 2) (by decide) ?_
        refine gz_iload (pc := 74) dX12_holdsLine_74 rfl ?_
        refine gz_imul (pc := 76) dX12_holdsLine_76  ?_
        refine gz_iadd (pc := 77) dX12_holdsLine_77  ?_
        refine gz_iconst (pc := 78) dX12_holdsLine_78 (v := 1) (by decide) ?_
        refine gz_iadd (pc := 79) dX12_holdsLine_79  ?_
        obtain ⟨b8, h⟩ := gz_gd h
        refine gz_iald2 (pc := 80) dX12_holdsLine_80 (k := ((413 + (2 * x5)) + 1).toNatClampNeg) (v := I 0 48 (((413 + (2 * x5)) + 1).toNatClampNeg)) z_0_48 rfl b8 rfl rfl ?_
        refine gz_iload_n (pc := 81) dX12_holdsLine_81 rfl ?_
        refine gz_V (zy := mX12_factOf) (zc := 0) (pc := 82) [.inl (I 0 48 ((413 + (2 * x5)).toNatClampNeg)), .inl (I 0 48 (((413 + (2 * x5)) + 1).toNatClampNeg)), .inl x2] rfl dX12_holdsLine_82 lkX12_284 MvX12_factOf rfl z_0_47 rfl rfl rfl (Or.inl rfl) (fun h => h) (by exact Nat.le_of_ble_eq_true rfl) ?_
        obtain ⟨v10, e9, h⟩ := gz_bd h
        refine gz_useI (c_X12_factOf e9) ?_
        obtain ⟨b11, h⟩ := gz_gd h
        refine gz_iast2 (pc := 85) dX12_holdsLine_85 (k := x3.toNatClampNeg) z_0_55 rfl b11 rfl ?_
        refine gz_iinc (pc := 86) dX12_holdsLine_86 (x := x3) (v := x3 + 1) rfl (by rw [show Int32.ofInt 1 = 1 by decide]) (by decide) rfl (loc2 := [some (.inr (.inr (0, 47))), none, some (.inl x2), some (.inl (x3 + 1)), some (.inl x4), some (.inl x5), some (.inl (I 0 48 ((413 + (2 * x5)).toNatClampNeg))), none, none, none]) rfl ?_
        refine gz_goto (pc := 89) (tgt := 257) dX12_holdsLine_89 (by decide) ?_
        refine gz_iinc (pc := 257) dX12_holdsLine_257 (x := x5) (v := x5 + 1) rfl (by rw [show Int32.ofInt 1 = 1 by decide]) (by decide) rfl (loc2 := [some (.inr (.inr (0, 47))), none, some (.inl x2), some (.inl (x3 + 1)), some (.inl x4), some (.inl (x5 + 1)), some (.inl (I 0 48 ((413 + (2 * x5)).toNatClampNeg))), none, none, none]) rfl ?_
        refine gz_goto (pc := 260) (tgt := 22) dX12_holdsLine_260 (by decide) ?_
        exact gz_weak (loc2 := [some (.inr (.inr (0, 47))), none, some (.inl x2), some (.inl (x3 + 1)), some (.inl x4), some (.inl (x5 + 1)), none, none, none, none]) (ih x2 (x3 + 1) x4 (x5 + 1) (gz_ui I 0 55 x3.toNatClampNeg v10) J h) (by repeat (first | exact trivial | refine ⟨rfl, ?_⟩))
def f_X12_holdsLine (φ : Nat) (a1 : Int32) (a2 : Int32) (I : gzIT) (J : gzJT) : Option (Int32 × gzIT × gzJT) := gzGd ((365 + (4 * a1)) + 2) 2062 (f_X12_holdsLine_22 φ φ a2 0 (365 + (4 * a1)) (I 0 48 (((365 + (4 * a1)) + 2).toNatClampNeg)) I J)
set_option maxRecDepth 20000 in
theorem c_X12_holdsLine {g : gzG} {d φ : Nat} {a1 : Int32} {a2 : Int32} {I : gzIT} {J : gzJT} {r : Int32 × gzIT × gzJT} (h : f_X12_holdsLine φ a1 a2 I J = some r) : gzC g 0 (d + 5) mX12_holdsLine [.inr (.inr (0, 47)), .inl a1, .inl a2] (gzN, gzR0, I, J) (gzE (.ok (some (.inl r.1))) (gzN, gzR0, r.2.1, r.2.2)) := by
  unfold f_X12_holdsLine at h
  refine gzC_of (by decide +kernel) (Nat.le_of_ble_eq_true rfl) (loc := [some (.inr (.inr (0, 47))), some (.inl a1), some (.inl a2), none, none, none, none, none, none, none]) rfl ?_
  have z_0_47 : gzOk 0 47 gzN := gzOk_of (by decide)
  have z_0_48 : gzOk 0 48 gzN := gzOk_of (by decide)
  refine gz_iconst (pc := 0) dX12_holdsLine_0 (v := 0) (by decide) ?_
  refine gz_istore_n (pc := 1) dX12_holdsLine_1 (by decide) rfl (loc2 := [some (.inr (.inr (0, 47))), some (.inl a1), some (.inl a2), some (.inl 0), none, none, none, none, none, none]) rfl ?_
  refine gz_sipush (pc := 2) dX12_holdsLine_2 (v := 365) (by decide) ?_
  refine gz_iconst (pc := 5) dX12_holdsLine_5 (v := 4) (by decide) ?_
  refine gz_iload_n (pc := 6) dX12_holdsLine_6 rfl ?_
  refine gz_imul (pc := 7) dX12_holdsLine_7  ?_
  refine gz_iadd (pc := 8) dX12_holdsLine_8  ?_
  refine gz_istore (pc := 9) dX12_holdsLine_9 (by decide) rfl (loc2 := [some (.inr (.inr (0, 47))), some (.inl a1), some (.inl a2), some (.inl 0), some (.inl (365 + (4 * a1))), none, none, none, none, none]) rfl ?_
  refine gz_aload_n (pc := 11) dX12_holdsLine_11 rfl ?_
  refine gr_X12_13 (pc := 12) dX12_holdsLine_12 z_0_47 rfl ?_
  refine gz_iload (pc := 15) dX12_holdsLine_15 rfl ?_
  refine gz_iconst (pc := 17) dX12_holdsLine_17 (v := 2) (by decide) ?_
  refine gz_iadd (pc := 18) dX12_holdsLine_18  ?_
  obtain ⟨b1, h⟩ := gz_gd h
  refine gz_iald2 (pc := 19) dX12_holdsLine_19 (k := ((365 + (4 * a1)) + 2).toNatClampNeg) (v := I 0 48 (((365 + (4 * a1)) + 2).toNatClampNeg)) z_0_48 rfl b1 rfl rfl ?_
  refine gz_istore (pc := 20) dX12_holdsLine_20 (by decide) rfl (loc2 := [some (.inr (.inr (0, 47))), some (.inl a1), some (.inl a2), some (.inl 0), some (.inl (365 + (4 * a1))), some (.inl (I 0 48 (((365 + (4 * a1)) + 2).toNatClampNeg))), none, none, none, none]) rfl ?_
  exact gz_weak (loc2 := [some (.inr (.inr (0, 47))), none, some (.inl a2), some (.inl 0), some (.inl (365 + (4 * a1))), some (.inl (I 0 48 (((365 + (4 * a1)) + 2).toNatClampNeg))), none, none, none, none]) (p_X12_holdsLine_22 φ a2 0 (365 + (4 * a1)) (I 0 48 (((365 + (4 * a1)) + 2).toNatClampNeg)) I J h) (by repeat (first | exact trivial | refine ⟨rfl, ?_⟩))
/-! X12_byLaw: byLaw -/
def gP_X12_byLaw_62 (g : gzG) (d : Nat) (r : Int32 × gzIT × gzJT) (x1 : Int32) (x2 : Int32) (x3 : Int32) (x4 : Int32) (I : gzIT) (J : gzJT) : Prop := gzX g 0 (d + 6) mX12_byLaw 62 [some (.inr (.inr (0, 47))), some (.inl x1), some (.inl x2), some (.inl x3), some (.inl x4)] [] (gzN, gzR0, I, J) 0 (gzE (.ok (some (.inl r.1))) (gzN, gzR0, r.2.1, r.2.2))
def f_X12_byLaw_62 (φ : Nat) : Nat → Int32 → Int32 → Int32 → Int32 → gzIT → gzJT → Option (Int32 × gzIT × gzJT)
  | 0, _, _, _, _, _, _ => none
  | k + 1, x1, x2, x3, x4, I, J => if I 0 48 364 ≤ x4 then (some (x3, I, J)) else (gzGd (365 + (4 * x4)) 2062 (if ¬ I 0 48 ((365 + (4 * x4)).toNatClampNeg) = x1 then (f_X12_byLaw_62 φ k x1 x2 x3 (x4 + 1) I J) else (Option.bind (f_X12_holdsLine φ x4 x2 I J) (fun v11 => if v11.1 = 0 then (f_X12_byLaw_62 φ k x1 x2 x3 (x4 + 1) v11.2.1 v11.2.2) else (gzGd ((365 + (4 * x4)) + 1) 2062 (f_X12_byLaw_62 φ k x1 x2 (x3 + (v11.2.1 0 48 (((365 + (4 * x4)) + 1).toNatClampNeg))) (x4 + 1) v11.2.1 v11.2.2))))))
set_option maxRecDepth 20000 in
theorem p_X12_byLaw_62 {g : gzG} {d φ : Nat} {r : Int32 × gzIT × gzJT} : ∀ (k : Nat) (x1 : Int32) (x2 : Int32) (x3 : Int32) (x4 : Int32) (I : gzIT) (J : gzJT), f_X12_byLaw_62 φ k x1 x2 x3 x4 I J = some r → gP_X12_byLaw_62 g d r x1 x2 x3 x4 I J := by
  intro k; induction k with
  | zero => intro x1 x2 x3 x4 I J h; cases h
  | succ k ih =>
    intro x1 x2 x3 x4 I J h
    unfold f_X12_byLaw_62 at h
    unfold gP_X12_byLaw_62
    have z_0_47 : gzOk 0 47 gzN := gzOk_of (by decide)
    have z_0_48 : gzOk 0 48 gzN := gzOk_of (by decide)
    refine gz_iload (pc := 62) dX12_byLaw_62 rfl ?_
    refine gz_aload_n (pc := 64) dX12_byLaw_64 rfl ?_
    refine gr_X12_13 (pc := 65) dX12_byLaw_65 z_0_47 rfl ?_
    refine gz_sipush (pc := 68) dX12_byLaw_68 (v := 364) (by decide) ?_
    refine gz_iald2 (pc := 71) dX12_byLaw_71 (k := 364) (v := I 0 48 364) z_0_48 rfl (gz_vpd (by decide)) (by decide) rfl ?_
    refine gz_ic_ge (pc := 72) (tgt := 126) dX12_byLaw_72 (by decide) (fun c => ?_) (fun c => ?_)
    · replace h := gz_ifp c h
      refine gz_iload_n (pc := 126) dX12_byLaw_126 rfl ?_
      cases h; exact gz_iret (pc := 127) dX12_byLaw_127 rfl ⟨rfl, rfl⟩
    · replace h := gz_ifn c h
      refine gz_aload_n (pc := 75) dX12_byLaw_75 rfl ?_
      refine gr_X12_13 (pc := 76) dX12_byLaw_76 z_0_47 rfl ?_
      refine gz_sipush (pc := 79) dX12_byLaw_79 (v := 365) (by decide) ?_
      refine gz_iconst (pc := 82) dX12_byLaw_82 (v := 4) (by decide) ?_
      refine gz_iload (pc := 83) dX12_byLaw_83 rfl ?_
      refine gz_imul (pc := 85) dX12_byLaw_85  ?_
      refine gz_iadd (pc := 86) dX12_byLaw_86  ?_
      obtain ⟨b9, h⟩ := gz_gd h
      refine gz_iald2 (pc := 87) dX12_byLaw_87 (k := (365 + (4 * x4)).toNatClampNeg) (v := I 0 48 ((365 + (4 * x4)).toNatClampNeg)) z_0_48 rfl b9 rfl rfl ?_
      refine gz_iload_n (pc := 88) dX12_byLaw_88 rfl ?_
      refine gz_ic_ne (pc := 89) (tgt := 120) dX12_byLaw_89 (by decide) (fun c => ?_) (fun c => ?_)
      · replace h := gz_ifp c h
        refine gz_iinc (pc := 120) dX12_byLaw_120 (x := x4) (v := x4 + 1) rfl (by rw [show Int32.ofInt 1 = 1 by decide]) (by decide) rfl (loc2 := [some (.inr (.inr (0, 47))), some (.inl x1), some (.inl x2), some (.inl x3), some (.inl (x4 + 1))]) rfl ?_
        refine gz_goto (pc := 123) (tgt := 62) dX12_byLaw_123 (by decide) ?_
        exact ih x1 x2 x3 (x4 + 1) I J h
      · replace h := gz_ifn (fun q => q c) h
        refine gz_aload_n (pc := 92) dX12_byLaw_92 rfl ?_
        refine gz_iload (pc := 93) dX12_byLaw_93 rfl ?_
        refine gz_iload_n (pc := 95) dX12_byLaw_95 rfl ?_
        refine gz_V (zy := mX12_holdsLine) (zc := 0) (pc := 96) [.inl x4, .inl x2] rfl dX12_byLaw_96 lkX12_288 MvX12_holdsLine rfl z_0_47 rfl rfl rfl (Or.inl rfl) (fun h => h) (by exact Nat.le_of_ble_eq_true rfl) ?_
        obtain ⟨v11, e10, h⟩ := gz_bd h
        refine gz_useI (c_X12_holdsLine e10) ?_
        refine gz_if_eq (pc := 99) (tgt := 120) dX12_byLaw_99 (by decide) (fun c => ?_) (fun c => ?_)
        · replace h := gz_ifp c h
          refine gz_iinc (pc := 120) dX12_byLaw_120 (x := x4) (v := x4 + 1) rfl (by rw [show Int32.ofInt 1 = 1 by decide]) (by decide) rfl (loc2 := [some (.inr (.inr (0, 47))), some (.inl x1), some (.inl x2), some (.inl x3), some (.inl (x4 + 1))]) rfl ?_
          refine gz_goto (pc := 123) (tgt := 62) dX12_byLaw_123 (by decide) ?_
          exact ih x1 x2 x3 (x4 + 1) v11.2.1 v11.2.2 h
        · replace h := gz_ifn c h
          refine gz_iload_n (pc := 102) dX12_byLaw_102 rfl ?_
          refine gz_aload_n (pc := 103) dX12_byLaw_103 rfl ?_
          refine gr_X12_13 (pc := 104) dX12_byLaw_104 z_0_47 rfl ?_
          refine gz_sipush (pc := 107) dX12_byLaw_107 (v := 365) (by decide) ?_
          refine gz_iconst (pc := 110) dX12_byLaw_110 (v := 4) (by decide) ?_
          refine gz_iload (pc := 111) dX12_byLaw_111 rfl ?_
          refine gz_imul (pc := 113) dX12_byLaw_113  ?_
          refine gz_iadd (pc := 114) dX12_byLaw_114  ?_
          refine gz_iconst (pc := 115) dX12_byLaw_115 (v := 1) (by decide) ?_
          refine gz_iadd (pc := 116) dX12_byLaw_116  ?_
          obtain ⟨b12, h⟩ := gz_gd h
          refine gz_iald2 (pc := 117) dX12_byLaw_117 (k := ((365 + (4 * x4)) + 1).toNatClampNeg) (v := v11.2.1 0 48 (((365 + (4 * x4)) + 1).toNatClampNeg)) z_0_48 rfl b12 rfl rfl ?_
          refine gz_iadd (pc := 118) dX12_byLaw_118  ?_
          refine gz_istore_n (pc := 119) dX12_byLaw_119 (by decide) rfl (loc2 := [some (.inr (.inr (0, 47))), some (.inl x1), some (.inl x2), some (.inl (x3 + (v11.2.1 0 48 (((365 + (4 * x4)) + 1).toNatClampNeg)))), some (.inl x4)]) rfl ?_
          refine gz_iinc (pc := 120) dX12_byLaw_120 (x := x4) (v := x4 + 1) rfl (by rw [show Int32.ofInt 1 = 1 by decide]) (by decide) rfl (loc2 := [some (.inr (.inr (0, 47))), some (.inl x1), some (.inl x2), some (.inl (x3 + (v11.2.1 0 48 (((365 + (4 * x4)) + 1).toNatClampNeg)))), some (.inl (x4 + 1))]) rfl ?_
          refine gz_goto (pc := 123) (tgt := 62) dX12_byLaw_123 (by decide) ?_
          exact ih x1 x2 (x3 + (v11.2.1 0 48 (((365 + (4 * x4)) + 1).toNatClampNeg))) (x4 + 1) v11.2.1 v11.2.2 h
def f_X12_byLaw (φ : Nat) (a1 : Int32) (a2 : Int32) (I : gzIT) (J : gzJT) : Option (Int32 × gzIT × gzJT) := if ¬ I 0 48 3 = 0 then (if ¬ a1 = 1 then (f_X12_byLaw_62 φ φ a1 a2 0 0 I J) else (Option.bind (f_X12_heatNow I) (fun v2 => f_X12_byLaw_62 φ φ a1 a2 v2 0 I J))) else (if ¬ a1 = 0 then (if ¬ a1 = 1 then (some (0, I, J)) else (Option.bind (f_X12_heatNow I) (fun v4 => some (v4, I, J)))) else (Option.bind (f_X12_ofSlight I a2 0) (fun v6 => Option.bind (f_X12_of I a2 5) (fun v8 => some ((v6 + (5 * v8)), I, J)))))
set_option maxRecDepth 20000 in
theorem c_X12_byLaw {g : gzG} {d φ : Nat} {a1 : Int32} {a2 : Int32} {I : gzIT} {J : gzJT} {r : Int32 × gzIT × gzJT} (h : f_X12_byLaw φ a1 a2 I J = some r) : gzC g 0 (d + 6) mX12_byLaw [.inr (.inr (0, 47)), .inl a1, .inl a2] (gzN, gzR0, I, J) (gzE (.ok (some (.inl r.1))) (gzN, gzR0, r.2.1, r.2.2)) := by
  unfold f_X12_byLaw at h
  refine gzC_of (by decide +kernel) (Nat.le_of_ble_eq_true rfl) (loc := [some (.inr (.inr (0, 47))), some (.inl a1), some (.inl a2), none, none]) rfl ?_
  have z_0_47 : gzOk 0 47 gzN := gzOk_of (by decide)
  have z_0_48 : gzOk 0 48 gzN := gzOk_of (by decide)
  refine gz_aload_n (pc := 0) dX12_byLaw_0 rfl ?_
  refine gr_X12_13 (pc := 1) dX12_byLaw_1 z_0_47 rfl ?_
  refine gz_iconst (pc := 4) dX12_byLaw_4 (v := 3) (by decide) ?_
  refine gz_iald2 (pc := 5) dX12_byLaw_5 (k := 3) (v := I 0 48 3) z_0_48 rfl (gz_vpd (by decide)) (by decide) rfl ?_
  refine gz_if_ne (pc := 6) (tgt := 45) dX12_byLaw_6 (by decide) (fun c => ?_) (fun c => ?_)
  · replace h := gz_ifp c h
    refine gz_iload_n (pc := 45) dX12_byLaw_45 rfl ?_
    refine gz_iconst (pc := 46) dX12_byLaw_46 (v := 1) (by decide) ?_
    refine gz_ic_ne (pc := 47) (tgt := 57) dX12_byLaw_47 (by decide) (fun c => ?_) (fun c => ?_)
    · replace h := gz_ifp c h
      refine gz_iconst (pc := 57) dX12_byLaw_57 (v := 0) (by decide) ?_
      refine gz_istore_n (pc := 58) dX12_byLaw_58 (by decide) rfl (loc2 := [some (.inr (.inr (0, 47))), some (.inl a1), some (.inl a2), some (.inl 0), none]) rfl ?_
      refine gz_iconst (pc := 59) dX12_byLaw_59 (v := 0) (by decide) ?_
      refine gz_istore (pc := 60) dX12_byLaw_60 (by decide) rfl (loc2 := [some (.inr (.inr (0, 47))), some (.inl a1), some (.inl a2), some (.inl 0), some (.inl 0)]) rfl ?_
      exact p_X12_byLaw_62 φ a1 a2 0 0 I J h
    · replace h := gz_ifn (fun q => q c) h
      refine gz_aload_n (pc := 50) dX12_byLaw_50 rfl ?_
      refine gz_V (zy := mX12_heatNow) (zc := 0) (pc := 51) [] rfl dX12_byLaw_51 lkX12_278 MvX12_heatNow rfl z_0_47 rfl rfl rfl (Or.inl rfl) (fun h => h) (by exact Nat.le_of_ble_eq_true rfl) ?_
      obtain ⟨v2, e1, h⟩ := gz_bd h
      refine gz_useI (c_X12_heatNow e1) ?_
      refine gz_goto (pc := 54) (tgt := 58) dX12_byLaw_54 (by decide) ?_
      refine gz_istore_n (pc := 58) dX12_byLaw_58 (by decide) rfl (loc2 := [some (.inr (.inr (0, 47))), some (.inl a1), some (.inl a2), some (.inl v2), none]) rfl ?_
      refine gz_iconst (pc := 59) dX12_byLaw_59 (v := 0) (by decide) ?_
      refine gz_istore (pc := 60) dX12_byLaw_60 (by decide) rfl (loc2 := [some (.inr (.inr (0, 47))), some (.inl a1), some (.inl a2), some (.inl v2), some (.inl 0)]) rfl ?_
      exact p_X12_byLaw_62 φ a1 a2 v2 0 I J h
  · replace h := gz_ifn (fun q => q c) h
    refine gz_iload_n (pc := 9) dX12_byLaw_9 rfl ?_
    refine gz_if_ne (pc := 10) (tgt := 31) dX12_byLaw_10 (by decide) (fun c => ?_) (fun c => ?_)
    · replace h := gz_ifp c h
      refine gz_iload_n (pc := 31) dX12_byLaw_31 rfl ?_
      refine gz_iconst (pc := 32) dX12_byLaw_32 (v := 1) (by decide) ?_
      refine gz_ic_ne (pc := 33) (tgt := 43) dX12_byLaw_33 (by decide) (fun c => ?_) (fun c => ?_)
      · replace h := gz_ifp c h
        refine gz_iconst (pc := 43) dX12_byLaw_43 (v := 0) (by decide) ?_
        cases h; exact gz_iret (pc := 44) dX12_byLaw_44 rfl ⟨rfl, rfl⟩
      · replace h := gz_ifn (fun q => q c) h
        refine gz_aload_n (pc := 36) dX12_byLaw_36 rfl ?_
        refine gz_V (zy := mX12_heatNow) (zc := 0) (pc := 37) [] rfl dX12_byLaw_37 lkX12_278 MvX12_heatNow rfl z_0_47 rfl rfl rfl (Or.inl rfl) (fun h => h) (by exact Nat.le_of_ble_eq_true rfl) ?_
        obtain ⟨v4, e3, h⟩ := gz_bd h
        refine gz_useI (c_X12_heatNow e3) ?_
        refine gz_goto (pc := 40) (tgt := 44) dX12_byLaw_40 (by decide) ?_
        cases h; exact gz_iret (pc := 44) dX12_byLaw_44 rfl ⟨rfl, rfl⟩
    · replace h := gz_ifn (fun q => q c) h
      refine gz_aload_n (pc := 13) dX12_byLaw_13 rfl ?_
      refine gz_iload_n (pc := 14) dX12_byLaw_14 rfl ?_
      refine gz_iconst (pc := 15) dX12_byLaw_15 (v := 0) (by decide) ?_
      refine gz_V (zy := mX12_ofSlight) (zc := 0) (pc := 16) [.inl a2, .inl 0] rfl dX12_byLaw_16 lkX12_275 MvX12_ofSlight rfl z_0_47 rfl rfl rfl (Or.inl rfl) (fun h => h) (by exact Nat.le_of_ble_eq_true rfl) ?_
      obtain ⟨v6, e5, h⟩ := gz_bd h
      refine gz_useI (c_X12_ofSlight e5) ?_
      refine gz_iconst (pc := 19) dX12_byLaw_19 (v := 5) (by decide) ?_
      refine gz_aload_n (pc := 20) dX12_byLaw_20 rfl ?_
      refine gz_iload_n (pc := 21) dX12_byLaw_21 rfl ?_
      refine gz_iconst (pc := 22) dX12_byLaw_22 (v := 5) (by decide) ?_
      refine gz_V (zy := mX12_of) (zc := 0) (pc := 23) [.inl a2, .inl 5] rfl dX12_byLaw_23 lkX12_70 MvX12_of rfl z_0_47 rfl rfl rfl (Or.inl rfl) (fun h => h) (by exact Nat.le_of_ble_eq_true rfl) ?_
      obtain ⟨v8, e7, h⟩ := gz_bd h
      refine gz_useI (c_X12_of e7) ?_
      refine gz_imul (pc := 26) dX12_byLaw_26  ?_
      refine gz_iadd (pc := 27) dX12_byLaw_27  ?_
      refine gz_goto (pc := 28) (tgt := 44) dX12_byLaw_28 (by decide) ?_
      cases h; exact gz_iret (pc := 44) dX12_byLaw_44 rfl ⟨rfl, rfl⟩
/-! X12_shareOf: shareOf -/
def f_X12_shareOf (φ : Nat) (I : gzIT) (a1 : Int32) : Option Int32 := Option.bind (f_X12_standing φ I) (fun v2 => Option.bind (f_X12_iceOf φ I v2) (fun v4 => if v4 = 0 then (some 0) else (Option.bind (f_X12_isThawed I a1) (fun v6 => if v6 = 0 then (Option.bind (f_X12_of I a1 4) (fun v8 => gzGn v4 (some ((100 * v8) / v4)))) else (some 0)))))
set_option maxRecDepth 20000 in
theorem c_X12_shareOf {g : gzG} {d φ : Nat} {a1 : Int32} {I : gzIT} {J : gzJT} {r : Int32} (h : f_X12_shareOf φ I a1 = some r) : gzC g 0 (d + 4) mX12_shareOf [.inr (.inr (0, 47)), .inl a1] (gzN, gzR0, I, J) (gzE (.ok (some (.inl r))) (gzN, gzR0, I, J)) := by
  unfold f_X12_shareOf at h
  refine gzC_of (by decide +kernel) (Nat.le_of_ble_eq_true rfl) (loc := [some (.inr (.inr (0, 47))), some (.inl a1), none]) rfl ?_
  have z_0_47 : gzOk 0 47 gzN := gzOk_of (by decide)
  refine gz_aload_n (pc := 0) dX12_shareOf_0 rfl ?_
  refine gz_aload_n (pc := 1) dX12_shareOf_1 rfl ?_
  refine gz_V (zy := mX12_standing) (zc := 0) (pc := 2) [] rfl dX12_shareOf_2 lkX12_291 MvX12_standing rfl z_0_47 rfl rfl rfl (Or.inl rfl) (fun h => h) (by exact Nat.le_of_ble_eq_true rfl) ?_
  obtain ⟨v2, e1, h⟩ := gz_bd h
  refine gz_useI (c_X12_standing e1) ?_
  refine gz_V (zy := mX12_iceOf) (zc := 0) (pc := 5) [.inl v2] rfl dX12_shareOf_5 lkX12_294 MvX12_iceOf rfl z_0_47 rfl rfl rfl (Or.inl rfl) (fun h => h) (by exact Nat.le_of_ble_eq_true rfl) ?_
  obtain ⟨v4, e3, h⟩ := gz_bd h
  refine gz_useI (c_X12_iceOf e3) ?_
  refine gz_istore_n (pc := 8) dX12_shareOf_8 (by decide) rfl (loc2 := [some (.inr (.inr (0, 47))), some (.inl a1), some (.inl v4)]) rfl ?_
  refine gz_iload_n (pc := 9) dX12_shareOf_9 rfl ?_
  refine gz_if_eq (pc := 10) (tgt := 21) dX12_shareOf_10 (by decide) (fun c => ?_) (fun c => ?_)
  · replace h := gz_ifp c h
    refine gz_iconst (pc := 21) dX12_shareOf_21 (v := 0) (by decide) ?_
    refine gz_goto (pc := 22) (tgt := 36) dX12_shareOf_22 (by decide) ?_
    cases h; exact gz_iret (pc := 36) dX12_shareOf_36 rfl ⟨rfl, rfl⟩
  · replace h := gz_ifn c h
    refine gz_aload_n (pc := 13) dX12_shareOf_13 rfl ?_
    refine gz_iload_n (pc := 14) dX12_shareOf_14 rfl ?_
    refine gz_V (zy := mX12_isThawed) (zc := 0) (pc := 15) [.inl a1] rfl dX12_shareOf_15 lkX12_76 MvX12_isThawed rfl z_0_47 rfl rfl rfl (Or.inl rfl) (fun h => h) (by exact Nat.le_of_ble_eq_true rfl) ?_
    obtain ⟨v6, e5, h⟩ := gz_bd h
    refine gz_useI (c_X12_isThawed e5) ?_
    refine gz_if_eq (pc := 18) (tgt := 25) dX12_shareOf_18 (by decide) (fun c => ?_) (fun c => ?_)
    · replace h := gz_ifp c h
      refine gz_bipush (pc := 25) dX12_shareOf_25 (v := 100) (by decide) ?_
      refine gz_aload_n (pc := 27) dX12_shareOf_27 rfl ?_
      refine gz_iload_n (pc := 28) dX12_shareOf_28 rfl ?_
      refine gz_iconst (pc := 29) dX12_shareOf_29 (v := 4) (by decide) ?_
      refine gz_V (zy := mX12_of) (zc := 0) (pc := 30) [.inl a1, .inl 4] rfl dX12_shareOf_30 lkX12_70 MvX12_of rfl z_0_47 rfl rfl rfl (Or.inl rfl) (fun h => h) (by exact Nat.le_of_ble_eq_true rfl) ?_
      obtain ⟨v8, e7, h⟩ := gz_bd h
      refine gz_useI (c_X12_of e7) ?_
      refine gz_imul (pc := 33) dX12_shareOf_33  ?_
      refine gz_iload_n (pc := 34) dX12_shareOf_34 rfl ?_
      obtain ⟨n9, h⟩ := gz_gn h
      refine gz_idiv (pc := 35) dX12_shareOf_35 n9 ?_
      cases h; exact gz_iret (pc := 36) dX12_shareOf_36 rfl ⟨rfl, rfl⟩
    · replace h := gz_ifn c h
      refine gz_iconst (pc := 21) dX12_shareOf_21 (v := 0) (by decide) ?_
      refine gz_goto (pc := 22) (tgt := 36) dX12_shareOf_22 (by decide) ?_
      cases h; exact gz_iret (pc := 36) dX12_shareOf_36 rfl ⟨rfl, rfl⟩
/-! X12_givesOf: givesOf -/
def gP_X12_givesOf_4 (g : gzG) (d : Nat) (r : Int32) (x1 : Int32) (x2 : Int32) (x3 : Int32) (I : gzIT) (J : gzJT) : Prop := gzX g 0 (d + 3) mX12_givesOf 4 [some (.inr (.inr (0, 47))), some (.inl x1), some (.inl x2), some (.inl x3)] [] (gzN, gzR0, I, J) 0 (gzE (.ok (some (.inl r))) (gzN, gzR0, I, J))
def f_X12_givesOf_4 (φ : Nat) (I : gzIT) : Nat → Int32 → Int32 → Int32 → Option Int32
  | 0, _, _, _ => none
  | k + 1, x1, x2, x3 => Option.bind (f_X12_grudges I) (fun v2 => if v2 ≤ x3 then (some x2) else (Option.bind (f_X12_isThawed I x3) (fun v4 => if ¬ v4 = 0 then (f_X12_givesOf_4 φ I k x1 (x2 + 0) (x3 + 1)) else (Option.bind (f_X12_isOf I x3 x1) (fun v6 => if v6 = 0 then (f_X12_givesOf_4 φ I k x1 (x2 + 0) (x3 + 1)) else (Option.bind (f_X12_of I x3 4) (fun v8 => f_X12_givesOf_4 φ I k x1 (x2 + v8) (x3 + 1))))))))
set_option maxRecDepth 20000 in
theorem p_X12_givesOf_4 {g : gzG} {d φ : Nat} {I : gzIT} {J : gzJT} {r : Int32} : ∀ (k : Nat) (x1 : Int32) (x2 : Int32) (x3 : Int32), f_X12_givesOf_4 φ I k x1 x2 x3 = some r → gP_X12_givesOf_4 g d r x1 x2 x3 I J := by
  intro k; induction k with
  | zero => intro x1 x2 x3 h; cases h
  | succ k ih =>
    intro x1 x2 x3 h
    unfold f_X12_givesOf_4 at h
    unfold gP_X12_givesOf_4
    have z_0_47 : gzOk 0 47 gzN := gzOk_of (by decide)
    refine gz_iload_n (pc := 4) dX12_givesOf_4 rfl ?_
    refine gz_aload_n (pc := 5) dX12_givesOf_5 rfl ?_
    refine gz_V (zy := mX12_grudges) (zc := 0) (pc := 6) [] rfl dX12_givesOf_6 lkX12_73 MvX12_grudges rfl z_0_47 rfl rfl rfl (Or.inl rfl) (fun h => h) (by exact Nat.le_of_ble_eq_true rfl) ?_
    obtain ⟨v2, e1, h⟩ := gz_bd h
    refine gz_useI (c_X12_grudges e1) ?_
    refine gz_ic_ge (pc := 9) (tgt := 48) dX12_givesOf_9 (by decide) (fun c => ?_) (fun c => ?_)
    · replace h := gz_ifp c h
      refine gz_iload_n (pc := 48) dX12_givesOf_48 rfl ?_
      cases h; exact gz_iret (pc := 49) dX12_givesOf_49 rfl ⟨rfl, rfl⟩
    · replace h := gz_ifn c h
      refine gz_iload_n (pc := 12) dX12_givesOf_12 rfl ?_
      refine gz_aload_n (pc := 13) dX12_givesOf_13 rfl ?_
      refine gz_iload_n (pc := 14) dX12_givesOf_14 rfl ?_
      refine gz_V (zy := mX12_isThawed) (zc := 0) (pc := 15) [.inl x3] rfl dX12_givesOf_15 lkX12_76 MvX12_isThawed rfl z_0_47 rfl rfl rfl (Or.inl rfl) (fun h => h) (by exact Nat.le_of_ble_eq_true rfl) ?_
      obtain ⟨v4, e3, h⟩ := gz_bd h
      refine gz_useI (c_X12_isThawed e3) ?_
      refine gz_if_ne (pc := 18) (tgt := 39) dX12_givesOf_18 (by decide) (fun c => ?_) (fun c => ?_)
      · replace h := gz_ifp c h
        refine gz_iconst (pc := 39) dX12_givesOf_39 (v := 0) (by decide) ?_
        refine gz_iadd (pc := 40) dX12_givesOf_40  ?_
        refine gz_istore_n (pc := 41) dX12_givesOf_41 (by decide) rfl (loc2 := [some (.inr (.inr (0, 47))), some (.inl x1), some (.inl (x2 + 0)), some (.inl x3)]) rfl ?_
        refine gz_iinc (pc := 42) dX12_givesOf_42 (x := x3) (v := x3 + 1) rfl (by rw [show Int32.ofInt 1 = 1 by decide]) (by decide) rfl (loc2 := [some (.inr (.inr (0, 47))), some (.inl x1), some (.inl (x2 + 0)), some (.inl (x3 + 1))]) rfl ?_
        refine gz_goto (pc := 45) (tgt := 4) dX12_givesOf_45 (by decide) ?_
        exact ih x1 (x2 + 0) (x3 + 1) h
      · replace h := gz_ifn (fun q => q c) h
        refine gz_aload_n (pc := 21) dX12_givesOf_21 rfl ?_
        refine gz_iload_n (pc := 22) dX12_givesOf_22 rfl ?_
        refine gz_iload_n (pc := 23) dX12_givesOf_23 rfl ?_
        refine gz_V (zy := mX12_isOf) (zc := 0) (pc := 24) [.inl x3, .inl x1] rfl dX12_givesOf_24 lkX12_298 MvX12_isOf rfl z_0_47 rfl rfl rfl (Or.inl rfl) (fun h => h) (by exact Nat.le_of_ble_eq_true rfl) ?_
        obtain ⟨v6, e5, h⟩ := gz_bd h
        refine gz_useI (c_X12_isOf e5) ?_
        refine gz_if_eq (pc := 27) (tgt := 39) dX12_givesOf_27 (by decide) (fun c => ?_) (fun c => ?_)
        · replace h := gz_ifp c h
          refine gz_iconst (pc := 39) dX12_givesOf_39 (v := 0) (by decide) ?_
          refine gz_iadd (pc := 40) dX12_givesOf_40  ?_
          refine gz_istore_n (pc := 41) dX12_givesOf_41 (by decide) rfl (loc2 := [some (.inr (.inr (0, 47))), some (.inl x1), some (.inl (x2 + 0)), some (.inl x3)]) rfl ?_
          refine gz_iinc (pc := 42) dX12_givesOf_42 (x := x3) (v := x3 + 1) rfl (by rw [show Int32.ofInt 1 = 1 by decide]) (by decide) rfl (loc2 := [some (.inr (.inr (0, 47))), some (.inl x1), some (.inl (x2 + 0)), some (.inl (x3 + 1))]) rfl ?_
          refine gz_goto (pc := 45) (tgt := 4) dX12_givesOf_45 (by decide) ?_
          exact ih x1 (x2 + 0) (x3 + 1) h
        · replace h := gz_ifn c h
          refine gz_aload_n (pc := 30) dX12_givesOf_30 rfl ?_
          refine gz_iload_n (pc := 31) dX12_givesOf_31 rfl ?_
          refine gz_iconst (pc := 32) dX12_givesOf_32 (v := 4) (by decide) ?_
          refine gz_V (zy := mX12_of) (zc := 0) (pc := 33) [.inl x3, .inl 4] rfl dX12_givesOf_33 lkX12_70 MvX12_of rfl z_0_47 rfl rfl rfl (Or.inl rfl) (fun h => h) (by exact Nat.le_of_ble_eq_true rfl) ?_
          obtain ⟨v8, e7, h⟩ := gz_bd h
          refine gz_useI (c_X12_of e7) ?_
          refine gz_goto (pc := 36) (tgt := 40) dX12_givesOf_36 (by decide) ?_
          refine gz_iadd (pc := 40) dX12_givesOf_40  ?_
          refine gz_istore_n (pc := 41) dX12_givesOf_41 (by decide) rfl (loc2 := [some (.inr (.inr (0, 47))), some (.inl x1), some (.inl (x2 + v8)), some (.inl x3)]) rfl ?_
          refine gz_iinc (pc := 42) dX12_givesOf_42 (x := x3) (v := x3 + 1) rfl (by rw [show Int32.ofInt 1 = 1 by decide]) (by decide) rfl (loc2 := [some (.inr (.inr (0, 47))), some (.inl x1), some (.inl (x2 + v8)), some (.inl (x3 + 1))]) rfl ?_
          refine gz_goto (pc := 45) (tgt := 4) dX12_givesOf_45 (by decide) ?_
          exact ih x1 (x2 + v8) (x3 + 1) h
def f_X12_givesOf (φ : Nat) (I : gzIT) (a1 : Int32) : Option Int32 := f_X12_givesOf_4 φ I φ a1 0 0
set_option maxRecDepth 20000 in
theorem c_X12_givesOf {g : gzG} {d φ : Nat} {a1 : Int32} {I : gzIT} {J : gzJT} {r : Int32} (h : f_X12_givesOf φ I a1 = some r) : gzC g 0 (d + 3) mX12_givesOf [.inr (.inr (0, 47)), .inl a1] (gzN, gzR0, I, J) (gzE (.ok (some (.inl r))) (gzN, gzR0, I, J)) := by
  unfold f_X12_givesOf at h
  refine gzC_of (by decide +kernel) (Nat.le_of_ble_eq_true rfl) (loc := [some (.inr (.inr (0, 47))), some (.inl a1), none, none]) rfl ?_
  refine gz_iconst (pc := 0) dX12_givesOf_0 (v := 0) (by decide) ?_
  refine gz_istore_n (pc := 1) dX12_givesOf_1 (by decide) rfl (loc2 := [some (.inr (.inr (0, 47))), some (.inl a1), some (.inl 0), none]) rfl ?_
  refine gz_iconst (pc := 2) dX12_givesOf_2 (v := 0) (by decide) ?_
  refine gz_istore_n (pc := 3) dX12_givesOf_3 (by decide) rfl (loc2 := [some (.inr (.inr (0, 47))), some (.inl a1), some (.inl 0), some (.inl 0)]) rfl ?_
  exact p_X12_givesOf_4 φ a1 0 0 h
/-! X12_bringsBack: bringsBack -/
def gP_X12_bringsBack_2 (g : gzG) (d : Nat) (r : Unit × gzIT × gzJT) (x1 : Int32) (I : gzIT) (J : gzJT) : Prop := gzX g 0 d mX12_bringsBack 2 [some (.inr (.inr (0, 47))), some (.inl x1)] [] (gzN, gzR0, I, J) 0 (gzE (.ok none) (gzN, gzR0, r.2.1, r.2.2))
def f_X12_bringsBack_2 (φ : Nat) : Nat → Int32 → gzIT → gzJT → Option (Unit × gzIT × gzJT)
  | 0, _, _, _ => none
  | k + 1, x1, I, J => if 364 ≤ x1 then (some ((), I, J)) else (gzGd (x1) 364 (gzGd (x1) 2062 (f_X12_bringsBack_2 φ k (x1 + 1) (gz_ui I 0 48 x1.toNatClampNeg (I 0 51 x1.toNatClampNeg)) J)))
set_option maxRecDepth 20000 in
theorem p_X12_bringsBack_2 {g : gzG} {d φ : Nat} {r : Unit × gzIT × gzJT} : ∀ (k : Nat) (x1 : Int32) (I : gzIT) (J : gzJT), f_X12_bringsBack_2 φ k x1 I J = some r → gP_X12_bringsBack_2 g d r x1 I J := by
  intro k; induction k with
  | zero => intro x1 I J h; cases h
  | succ k ih =>
    intro x1 I J h
    unfold f_X12_bringsBack_2 at h
    unfold gP_X12_bringsBack_2
    have z_0_47 : gzOk 0 47 gzN := gzOk_of (by decide)
    have z_0_51 : gzOk 0 51 gzN := gzOk_of (by decide)
    have z_0_48 : gzOk 0 48 gzN := gzOk_of (by decide)
    refine gz_iload_n (pc := 2) dX12_bringsBack_2 rfl ?_
    refine gz_sipush (pc := 3) dX12_bringsBack_3 (v := 364) (by decide) ?_
    refine gz_ic_ge (pc := 6) (tgt := 27) dX12_bringsBack_6 (by decide) (fun c => ?_) (fun c => ?_)
    · replace h := gz_ifp c h
      cases h; exact gz_vret (pc := 27) dX12_bringsBack_27 rfl ⟨rfl, rfl⟩
    · replace h := gz_ifn c h
      refine gz_aload_n (pc := 9) dX12_bringsBack_9 rfl ?_
      refine gr_X12_13 (pc := 10) dX12_bringsBack_10 z_0_47 rfl ?_
      refine gz_iload_n (pc := 13) dX12_bringsBack_13 rfl ?_
      refine gz_aload_n (pc := 14) dX12_bringsBack_14 rfl ?_
      refine gr_X12_23 (pc := 15) dX12_bringsBack_15 z_0_47 rfl ?_
      refine gz_iload_n (pc := 18) dX12_bringsBack_18 rfl ?_
      obtain ⟨b1, h⟩ := gz_gd h
      refine gz_iald2 (pc := 19) dX12_bringsBack_19 (k := x1.toNatClampNeg) (v := I 0 51 x1.toNatClampNeg) z_0_51 rfl b1 rfl rfl ?_
      obtain ⟨b2, h⟩ := gz_gd h
      refine gz_iast2 (pc := 20) dX12_bringsBack_20 (k := x1.toNatClampNeg) z_0_48 rfl b2 rfl ?_
      refine gz_iinc (pc := 21) dX12_bringsBack_21 (x := x1) (v := x1 + 1) rfl (by rw [show Int32.ofInt 1 = 1 by decide]) (by decide) rfl (loc2 := [some (.inr (.inr (0, 47))), some (.inl (x1 + 1))]) rfl ?_
      refine gz_goto (pc := 24) (tgt := 2) dX12_bringsBack_24 (by decide) ?_
      exact ih (x1 + 1) (gz_ui I 0 48 x1.toNatClampNeg (I 0 51 x1.toNatClampNeg)) J h
def f_X12_bringsBack (φ : Nat) (I : gzIT) (J : gzJT) : Option (Unit × gzIT × gzJT) := f_X12_bringsBack_2 φ φ 0 I J
set_option maxRecDepth 20000 in
theorem c_X12_bringsBack {g : gzG} {d φ : Nat} {I : gzIT} {J : gzJT} {r : Unit × gzIT × gzJT} (h : f_X12_bringsBack φ I J = some r) : gzC g 0 d mX12_bringsBack [.inr (.inr (0, 47))] (gzN, gzR0, I, J) (gzE (.ok none) (gzN, gzR0, r.2.1, r.2.2)) := by
  unfold f_X12_bringsBack at h
  refine gzC_of (by decide +kernel) (Nat.le_of_ble_eq_true rfl) (loc := [some (.inr (.inr (0, 47))), none]) rfl ?_
  refine gz_iconst (pc := 0) dX12_bringsBack_0 (v := 0) (by decide) ?_
  refine gz_istore_n (pc := 1) dX12_bringsBack_1 (by decide) rfl (loc2 := [some (.inr (.inr (0, 47))), some (.inl 0)]) rfl ?_
  exact p_X12_bringsBack_2 φ 0 I J h
/-! X12_keepsAll: keepsAll -/
def gP_X12_keepsAll_2 (g : gzG) (d : Nat) (r : Unit × gzIT × gzJT) (x1 : Int32) (I : gzIT) (J : gzJT) : Prop := gzX g 0 d mX12_keepsAll 2 [some (.inr (.inr (0, 47))), some (.inl x1)] [] (gzN, gzR0, I, J) 0 (gzE (.ok none) (gzN, gzR0, r.2.1, r.2.2))
def f_X12_keepsAll_2 (φ : Nat) : Nat → Int32 → gzIT → gzJT → Option (Unit × gzIT × gzJT)
  | 0, _, _, _ => none
  | k + 1, x1, I, J => if 364 ≤ x1 then (some ((), I, J)) else (gzGd (x1) 2062 (gzGd (x1) 364 (f_X12_keepsAll_2 φ k (x1 + 1) (gz_ui I 0 51 x1.toNatClampNeg (I 0 48 x1.toNatClampNeg)) J)))
set_option maxRecDepth 20000 in
theorem p_X12_keepsAll_2 {g : gzG} {d φ : Nat} {r : Unit × gzIT × gzJT} : ∀ (k : Nat) (x1 : Int32) (I : gzIT) (J : gzJT), f_X12_keepsAll_2 φ k x1 I J = some r → gP_X12_keepsAll_2 g d r x1 I J := by
  intro k; induction k with
  | zero => intro x1 I J h; cases h
  | succ k ih =>
    intro x1 I J h
    unfold f_X12_keepsAll_2 at h
    unfold gP_X12_keepsAll_2
    have z_0_47 : gzOk 0 47 gzN := gzOk_of (by decide)
    have z_0_48 : gzOk 0 48 gzN := gzOk_of (by decide)
    have z_0_51 : gzOk 0 51 gzN := gzOk_of (by decide)
    refine gz_iload_n (pc := 2) dX12_keepsAll_2 rfl ?_
    refine gz_sipush (pc := 3) dX12_keepsAll_3 (v := 364) (by decide) ?_
    refine gz_ic_ge (pc := 6) (tgt := 27) dX12_keepsAll_6 (by decide) (fun c => ?_) (fun c => ?_)
    · replace h := gz_ifp c h
      cases h; exact gz_vret (pc := 27) dX12_keepsAll_27 rfl ⟨rfl, rfl⟩
    · replace h := gz_ifn c h
      refine gz_aload_n (pc := 9) dX12_keepsAll_9 rfl ?_
      refine gr_X12_23 (pc := 10) dX12_keepsAll_10 z_0_47 rfl ?_
      refine gz_iload_n (pc := 13) dX12_keepsAll_13 rfl ?_
      refine gz_aload_n (pc := 14) dX12_keepsAll_14 rfl ?_
      refine gr_X12_13 (pc := 15) dX12_keepsAll_15 z_0_47 rfl ?_
      refine gz_iload_n (pc := 18) dX12_keepsAll_18 rfl ?_
      obtain ⟨b1, h⟩ := gz_gd h
      refine gz_iald2 (pc := 19) dX12_keepsAll_19 (k := x1.toNatClampNeg) (v := I 0 48 x1.toNatClampNeg) z_0_48 rfl b1 rfl rfl ?_
      obtain ⟨b2, h⟩ := gz_gd h
      refine gz_iast2 (pc := 20) dX12_keepsAll_20 (k := x1.toNatClampNeg) z_0_51 rfl b2 rfl ?_
      refine gz_iinc (pc := 21) dX12_keepsAll_21 (x := x1) (v := x1 + 1) rfl (by rw [show Int32.ofInt 1 = 1 by decide]) (by decide) rfl (loc2 := [some (.inr (.inr (0, 47))), some (.inl (x1 + 1))]) rfl ?_
      refine gz_goto (pc := 24) (tgt := 2) dX12_keepsAll_24 (by decide) ?_
      exact ih (x1 + 1) (gz_ui I 0 51 x1.toNatClampNeg (I 0 48 x1.toNatClampNeg)) J h
def f_X12_keepsAll (φ : Nat) (I : gzIT) (J : gzJT) : Option (Unit × gzIT × gzJT) := f_X12_keepsAll_2 φ φ 0 I J
set_option maxRecDepth 20000 in
theorem c_X12_keepsAll {g : gzG} {d φ : Nat} {I : gzIT} {J : gzJT} {r : Unit × gzIT × gzJT} (h : f_X12_keepsAll φ I J = some r) : gzC g 0 d mX12_keepsAll [.inr (.inr (0, 47))] (gzN, gzR0, I, J) (gzE (.ok none) (gzN, gzR0, r.2.1, r.2.2)) := by
  unfold f_X12_keepsAll at h
  refine gzC_of (by decide +kernel) (Nat.le_of_ble_eq_true rfl) (loc := [some (.inr (.inr (0, 47))), none]) rfl ?_
  refine gz_iconst (pc := 0) dX12_keepsAll_0 (v := 0) (by decide) ?_
  refine gz_istore_n (pc := 1) dX12_keepsAll_1 (by decide) rfl (loc2 := [some (.inr (.inr (0, 47))), some (.inl 0)]) rfl ?_
  exact p_X12_keepsAll_2 φ 0 I J h
/-! X12_adds: adds -/
def f_X12_adds (a1 : Int32) (a2 : Int32) (a3 : Int32) (I : gzIT) (J : gzJT) : Option (Unit × gzIT × gzJT) := gzGd (a1) 2062 (some ((), gz_ui I 0 48 a1.toNatClampNeg (if (I 0 48 a1.toNatClampNeg) + a2 < a3 then (I 0 48 a1.toNatClampNeg) + a2 else a3), J))
set_option maxRecDepth 20000 in
theorem c_X12_adds {g : gzG} {d : Nat} {a1 : Int32} {a2 : Int32} {a3 : Int32} {I : gzIT} {J : gzJT} {r : Unit × gzIT × gzJT} (h : f_X12_adds a1 a2 a3 I J = some r) : gzC g 0 d mX12_adds [.inr (.inr (0, 47)), .inl a1, .inl a2, .inl a3] (gzN, gzR0, I, J) (gzE (.ok none) (gzN, gzR0, r.2.1, r.2.2)) := by
  unfold f_X12_adds at h
  refine gzC_of (by decide +kernel) (Nat.le_of_ble_eq_true rfl) (loc := [some (.inr (.inr (0, 47))), some (.inl a1), some (.inl a2), some (.inl a3)]) rfl ?_
  have z_0_47 : gzOk 0 47 gzN := gzOk_of (by decide)
  have z_0_48 : gzOk 0 48 gzN := gzOk_of (by decide)
  refine gz_aload_n (pc := 0) dX12_adds_0 rfl ?_
  refine gr_X12_13 (pc := 1) dX12_adds_1 z_0_47 rfl ?_
  refine gz_iload_n (pc := 4) dX12_adds_4 rfl ?_
  refine gz_iload_n (pc := 5) dX12_adds_5 rfl ?_
  refine gz_aload_n (pc := 6) dX12_adds_6 rfl ?_
  refine gr_X12_13 (pc := 7) dX12_adds_7 z_0_47 rfl ?_
  refine gz_iload_n (pc := 10) dX12_adds_10 rfl ?_
  obtain ⟨b1, h⟩ := gz_gd h
  refine gz_iald2 (pc := 11) dX12_adds_11 (k := a1.toNatClampNeg) (v := I 0 48 a1.toNatClampNeg) z_0_48 rfl b1 rfl rfl ?_
  refine gz_iload_n (pc := 12) dX12_adds_12 rfl ?_
  refine gz_iadd (pc := 13) dX12_adds_13  ?_
  refine gn_X12_330 (pc := 14) dX12_adds_14 (Nat.le_of_ble_eq_true rfl) rfl ?_
  refine gz_iast2 (pc := 17) dX12_adds_17 (k := a1.toNatClampNeg) z_0_48 rfl b1 rfl ?_
  cases h; exact gz_vret (pc := 18) dX12_adds_18 rfl ⟨rfl, rfl⟩
/-! X12_tells: tells -/
def gP_X12_tells_5 (g : gzG) (d : Nat) (r : Unit × gzIT × gzJT) (x1 : Int32) (x2 : Int32) (x3 : Int32) (x4 : Int32) (I : gzIT) (J : gzJT) : Prop := gzX g 0 d mX12_tells 5 [some (.inr (.inr (0, 47))), some (.inl x1), some (.inl x2), some (.inl x3), some (.inl x4)] [] (gzN, gzR0, I, J) 0 (gzE (.ok none) (gzN, gzR0, r.2.1, r.2.2))
def f_X12_tells_5 (φ : Nat) : Nat → Int32 → Int32 → Int32 → Int32 → gzIT → gzJT → Option (Unit × gzIT × gzJT)
  | 0, _, _, _, _, _, _ => none
  | k + 1, x1, x2, x3, x4, I, J => if x4 < 4 then (some ((), gz_ui (gz_ui (gz_ui (gz_ui (gz_ui I 0 48 124 (I 0 48 4)) 0 48 125 x1) 0 48 126 x2) 0 48 127 x3) 0 48 8 (if (I 0 48 8) + 1 < 60 then (I 0 48 8) + 1 else 60), J)) else (gzGd ((124 + x4) - 4) 2062 (gzGd (124 + x4) 2062 (f_X12_tells_5 φ k x1 x2 x3 (x4 + (-1)) (gz_ui I 0 48 ((124 + x4).toNatClampNeg) (I 0 48 (((124 + x4) - 4).toNatClampNeg))) J)))
set_option maxRecDepth 20000 in
theorem p_X12_tells_5 {g : gzG} {d φ : Nat} {r : Unit × gzIT × gzJT} : ∀ (k : Nat) (x1 : Int32) (x2 : Int32) (x3 : Int32) (x4 : Int32) (I : gzIT) (J : gzJT), f_X12_tells_5 φ k x1 x2 x3 x4 I J = some r → gP_X12_tells_5 g d r x1 x2 x3 x4 I J := by
  intro k; induction k with
  | zero => intro x1 x2 x3 x4 I J h; cases h
  | succ k ih =>
    intro x1 x2 x3 x4 I J h
    unfold f_X12_tells_5 at h
    unfold gP_X12_tells_5
    have z_0_47 : gzOk 0 47 gzN := gzOk_of (by decide)
    have z_0_48 : gzOk 0 48 gzN := gzOk_of (by decide)
    refine gz_iload (pc := 5) dX12_tells_5 rfl ?_
    refine gz_iconst (pc := 7) dX12_tells_7 (v := 4) (by decide) ?_
    refine gz_ic_lt (pc := 8) (tgt := 39) dX12_tells_8 (by decide) (fun c => ?_) (fun c => ?_)
    · replace h := gz_ifp c h
      refine gz_aload_n (pc := 39) dX12_tells_39 rfl ?_
      refine gr_X12_13 (pc := 40) dX12_tells_40 z_0_47 rfl ?_
      refine gz_bipush (pc := 43) dX12_tells_43 (v := 124) (by decide) ?_
      refine gz_aload_n (pc := 45) dX12_tells_45 rfl ?_
      refine gr_X12_13 (pc := 46) dX12_tells_46 z_0_47 rfl ?_
      refine gz_iconst (pc := 49) dX12_tells_49 (v := 4) (by decide) ?_
      refine gz_iald2 (pc := 50) dX12_tells_50 (k := 4) (v := I 0 48 4) z_0_48 rfl (gz_vpd (by decide)) (by decide) rfl ?_
      refine gz_iast2 (pc := 51) dX12_tells_51 (k := 124) z_0_48 rfl (gz_vpd (by decide)) (by decide) ?_
      refine gz_aload_n (pc := 52) dX12_tells_52 rfl ?_
      refine gr_X12_13 (pc := 53) dX12_tells_53 z_0_47 rfl ?_
      refine gz_bipush (pc := 56) dX12_tells_56 (v := 125) (by decide) ?_
      refine gz_iload_n (pc := 58) dX12_tells_58 rfl ?_
      refine gz_iast2 (pc := 59) dX12_tells_59 (k := 125) z_0_48 rfl (gz_vpd (by decide)) (by decide) ?_
      refine gz_aload_n (pc := 60) dX12_tells_60 rfl ?_
      refine gr_X12_13 (pc := 61) dX12_tells_61 z_0_47 rfl ?_
      refine gz_bipush (pc := 64) dX12_tells_64 (v := 126) (by decide) ?_
      refine gz_iload_n (pc := 66) dX12_tells_66 rfl ?_
      refine gz_iast2 (pc := 67) dX12_tells_67 (k := 126) z_0_48 rfl (gz_vpd (by decide)) (by decide) ?_
      refine gz_aload_n (pc := 68) dX12_tells_68 rfl ?_
      refine gr_X12_13 (pc := 69) dX12_tells_69 z_0_47 rfl ?_
      refine gz_bipush (pc := 72) dX12_tells_72 (v := 127) (by decide) ?_
      refine gz_iload_n (pc := 74) dX12_tells_74 rfl ?_
      refine gz_iast2 (pc := 75) dX12_tells_75 (k := 127) z_0_48 rfl (gz_vpd (by decide)) (by decide) ?_
      refine gz_aload_n (pc := 76) dX12_tells_76 rfl ?_
      refine gr_X12_13 (pc := 77) dX12_tells_77 z_0_47 rfl ?_
      refine gz_bipush (pc := 80) dX12_tells_80 (v := 8) (by decide) ?_
      refine gz_bipush (pc := 82) dX12_tells_82 (v := 60) (by decide) ?_
      refine gz_aload_n (pc := 84) dX12_tells_84 rfl ?_
      refine gr_X12_13 (pc := 85) dX12_tells_85 z_0_47 rfl ?_
      refine gz_bipush (pc := 88) dX12_tells_88 (v := 8) (by decide) ?_
      refine gz_iald2 (pc := 90) dX12_tells_90 (k := 8) (v := I 0 48 8) z_0_48 rfl (gz_vpd (by decide)) (by decide) ((gz_ui_k (by decide)).trans ((gz_ui_k (by decide)).trans ((gz_ui_k (by decide)).trans (gz_ui_k (by decide))))) ?_
      refine gz_iconst (pc := 91) dX12_tells_91 (v := 1) (by decide) ?_
      refine gz_iadd (pc := 92) dX12_tells_92  ?_
      refine gn_X12_330 (pc := 93) dX12_tells_93 (Nat.le_of_ble_eq_true rfl) rfl ?_
      refine gz_iast2 (pc := 96) dX12_tells_96 (k := 8) z_0_48 rfl (gz_vpd (by decide)) (by decide) ?_
      cases h; exact gz_vret (pc := 97) dX12_tells_97 rfl ⟨rfl, rfl⟩
    · replace h := gz_ifn c h
      refine gz_aload_n (pc := 11) dX12_tells_11 rfl ?_
      refine gr_X12_13 (pc := 12) dX12_tells_12 z_0_47 rfl ?_
      refine gz_bipush (pc := 15) dX12_tells_15 (v := 124) (by decide) ?_
      refine gz_iload (pc := 17) dX12_tells_17 rfl ?_
      refine gz_iadd (pc := 19) dX12_tells_19  ?_
      refine gz_aload_n (pc := 20) dX12_tells_20 rfl ?_
      refine gr_X12_13 (pc := 21) dX12_tells_21 z_0_47 rfl ?_
      refine gz_bipush (pc := 24) dX12_tells_24 (v := 124) (by decide) ?_
      refine gz_iload (pc := 26) dX12_tells_26 rfl ?_
      refine gz_iadd (pc := 28) dX12_tells_28  ?_
      refine gz_iconst (pc := 29) dX12_tells_29 (v := 4) (by decide) ?_
      refine gz_isub (pc := 30) dX12_tells_30  ?_
      obtain ⟨b1, h⟩ := gz_gd h
      refine gz_iald2 (pc := 31) dX12_tells_31 (k := ((124 + x4) - 4).toNatClampNeg) (v := I 0 48 (((124 + x4) - 4).toNatClampNeg)) z_0_48 rfl b1 rfl rfl ?_
      obtain ⟨b2, h⟩ := gz_gd h
      refine gz_iast2 (pc := 32) dX12_tells_32 (k := (124 + x4).toNatClampNeg) z_0_48 rfl b2 rfl ?_
      refine gz_iinc (pc := 33) dX12_tells_33 (x := x4) (v := x4 + (-1)) rfl (by rw [show Int32.ofInt (-1) = (-1) by decide]) (by decide) rfl (loc2 := [some (.inr (.inr (0, 47))), some (.inl x1), some (.inl x2), some (.inl x3), some (.inl (x4 + (-1)))]) rfl ?_
      refine gz_goto (pc := 36) (tgt := 5) dX12_tells_36 (by decide) ?_
      exact ih x1 x2 x3 (x4 + (-1)) (gz_ui I 0 48 ((124 + x4).toNatClampNeg) (I 0 48 (((124 + x4) - 4).toNatClampNeg))) J h
def f_X12_tells (φ : Nat) (a1 : Int32) (a2 : Int32) (a3 : Int32) (I : gzIT) (J : gzJT) : Option (Unit × gzIT × gzJT) := f_X12_tells_5 φ φ a1 a2 a3 239 I J
set_option maxRecDepth 20000 in
theorem c_X12_tells {g : gzG} {d φ : Nat} {a1 : Int32} {a2 : Int32} {a3 : Int32} {I : gzIT} {J : gzJT} {r : Unit × gzIT × gzJT} (h : f_X12_tells φ a1 a2 a3 I J = some r) : gzC g 0 d mX12_tells [.inr (.inr (0, 47)), .inl a1, .inl a2, .inl a3] (gzN, gzR0, I, J) (gzE (.ok none) (gzN, gzR0, r.2.1, r.2.2)) := by
  unfold f_X12_tells at h
  refine gzC_of (by decide +kernel) (Nat.le_of_ble_eq_true rfl) (loc := [some (.inr (.inr (0, 47))), some (.inl a1), some (.inl a2), some (.inl a3), none]) rfl ?_
  refine gz_sipush (pc := 0) dX12_tells_0 (v := 239) (by decide) ?_
  refine gz_istore (pc := 3) dX12_tells_3 (by decide) rfl (loc2 := [some (.inr (.inr (0, 47))), some (.inl a1), some (.inl a2), some (.inl a3), some (.inl 239)]) rfl ?_
  exact p_X12_tells_5 φ a1 a2 a3 239 I J h
/-! X12_ages: ages -/
def f_X12_ages (φ : Nat) (a1 : Int32) (I : gzIT) (J : gzJT) : Option (Int32 × gzIT × gzJT) := Option.bind (f_X12_isThawed I a1) (fun v2 => if v2 = 0 then (Option.bind (f_X12_at a1 4) (fun v4 => Option.bind (f_X12_byLaw φ 0 a1 I J) (fun v6 => Option.bind (f_X12_adds v4 v6.1 999 v6.2.1 v6.2.2) (fun v8 => Option.bind (f_X12_at a1 4) (fun v10 => Option.bind (f_X12_of v8.2.1 a1 4) (fun v12 => Option.bind (f_X12_byLaw φ 1 a1 v8.2.1 v8.2.2) (fun v14 => Option.bind (f_X12_byLaw φ 2 a1 v14.2.1 v14.2.2) (fun v16 => gzGd (v10) 2062 (Option.bind (f_X12_at a1 3) (fun v19 => Option.bind (f_X12_adds v19 1 99 (gz_ui v16.2.1 0 48 v10.toNatClampNeg (if 0 < v12 - (if 0 < v14.1 - v16.1 then v14.1 - v16.1 else 0) then v12 - (if 0 < v14.1 - v16.1 then v14.1 - v16.1 else 0) else 0)) v16.2.2) (fun v21 => Option.bind (f_X12_of v21.2.1 a1 4) (fun v23 => if v23 ≤ 0 then (Option.bind (f_X12_at a1 6) (fun v25 => gzGd (v25) 2062 (Option.bind (f_X12_tells φ a1 0 0 (gz_ui v21.2.1 0 48 v25.toNatClampNeg 1) v21.2.2) (fun v28 => some (1, v28.2.1, v28.2.2))))) else (some (0, v21.2.1, v21.2.2)))))))))))))) else (some (0, I, J)))
set_option maxRecDepth 20000 in
theorem c_X12_ages {g : gzG} {d φ : Nat} {a1 : Int32} {I : gzIT} {J : gzJT} {r : Int32 × gzIT × gzJT} (h : f_X12_ages φ a1 I J = some r) : gzC g 0 (d + 7) mX12_ages [.inr (.inr (0, 47)), .inl a1] (gzN, gzR0, I, J) (gzE (.ok (some (.inl r.1))) (gzN, gzR0, r.2.1, r.2.2)) := by
  unfold f_X12_ages at h
  refine gzC_of (by decide +kernel) (Nat.le_of_ble_eq_true rfl) (loc := [some (.inr (.inr (0, 47))), some (.inl a1)]) rfl ?_
  have z_0_47 : gzOk 0 47 gzN := gzOk_of (by decide)
  have z_0_48 : gzOk 0 48 gzN := gzOk_of (by decide)
  refine gz_aload_n (pc := 0) dX12_ages_0 rfl ?_
  refine gz_iload_n (pc := 1) dX12_ages_1 rfl ?_
  refine gz_V (zy := mX12_isThawed) (zc := 0) (pc := 2) [.inl a1] rfl dX12_ages_2 lkX12_76 MvX12_isThawed rfl z_0_47 rfl rfl rfl (Or.inl rfl) (fun h => h) (by exact Nat.le_of_ble_eq_true rfl) ?_
  obtain ⟨v2, e1, h⟩ := gz_bd h
  refine gz_useI (c_X12_isThawed e1) ?_
  refine gz_if_eq (pc := 5) (tgt := 10) dX12_ages_5 (by decide) (fun c => ?_) (fun c => ?_)
  · replace h := gz_ifp c h
    refine gz_aload_n (pc := 10) dX12_ages_10 rfl ?_
    refine gz_iload_n (pc := 11) dX12_ages_11 rfl ?_
    refine gz_iconst (pc := 12) dX12_ages_12 (v := 4) (by decide) ?_
    refine gz_S (zy := mX12_at) (zc := 0) (pc := 13) [.inl a1, .inl 4] rfl dX12_ages_13 lkX12_67 MsX12_at rfl (Or.inl rfl) (fun h => h) (by exact Nat.le_of_ble_eq_true rfl) ?_
    obtain ⟨v4, e3, h⟩ := gz_bd h
    refine gz_useI (c_X12_at e3) ?_
    refine gz_aload_n (pc := 16) dX12_ages_16 rfl ?_
    refine gz_iconst (pc := 17) dX12_ages_17 (v := 0) (by decide) ?_
    refine gz_iload_n (pc := 18) dX12_ages_18 rfl ?_
    refine gz_V (zy := mX12_byLaw) (zc := 0) (pc := 19) [.inl 0, .inl a1] rfl dX12_ages_19 lkX12_318 MvX12_byLaw rfl z_0_47 rfl rfl rfl (Or.inl rfl) (fun h => h) (by exact Nat.le_of_ble_eq_true rfl) ?_
    obtain ⟨v6, e5, h⟩ := gz_bd h
    refine gz_useI (c_X12_byLaw e5) ?_
    refine gz_sipush (pc := 22) dX12_ages_22 (v := 999) (by decide) ?_
    refine gz_V (zy := mX12_adds) (zc := 0) (pc := 25) [.inl v4, .inl v6.1, .inl 999] rfl dX12_ages_25 lkX12_333 MvX12_adds rfl z_0_47 rfl rfl rfl (Or.inl rfl) (fun h => h) (by exact Nat.le_of_ble_eq_true rfl) ?_
    obtain ⟨v8, e7, h⟩ := gz_bd h
    refine gz_useV (c_X12_adds e7) ?_
    refine gz_aload_n (pc := 28) dX12_ages_28 rfl ?_
    refine gr_X12_13 (pc := 29) dX12_ages_29 z_0_47 rfl ?_
    refine gz_iload_n (pc := 32) dX12_ages_32 rfl ?_
    refine gz_iconst (pc := 33) dX12_ages_33 (v := 4) (by decide) ?_
    refine gz_S (zy := mX12_at) (zc := 0) (pc := 34) [.inl a1, .inl 4] rfl dX12_ages_34 lkX12_67 MsX12_at rfl (Or.inl rfl) (fun h => h) (by exact Nat.le_of_ble_eq_true rfl) ?_
    obtain ⟨v10, e9, h⟩ := gz_bd h
    refine gz_useI (c_X12_at e9) ?_
    refine gz_iconst (pc := 37) dX12_ages_37 (v := 0) (by decide) ?_
    refine gz_aload_n (pc := 38) dX12_ages_38 rfl ?_
    refine gz_iload_n (pc := 39) dX12_ages_39 rfl ?_
    refine gz_iconst (pc := 40) dX12_ages_40 (v := 4) (by decide) ?_
    refine gz_V (zy := mX12_of) (zc := 0) (pc := 41) [.inl a1, .inl 4] rfl dX12_ages_41 lkX12_70 MvX12_of rfl z_0_47 rfl rfl rfl (Or.inl rfl) (fun h => h) (by exact Nat.le_of_ble_eq_true rfl) ?_
    obtain ⟨v12, e11, h⟩ := gz_bd h
    refine gz_useI (c_X12_of e11) ?_
    refine gz_iconst (pc := 44) dX12_ages_44 (v := 0) (by decide) ?_
    refine gz_aload_n (pc := 45) dX12_ages_45 rfl ?_
    refine gz_iconst (pc := 46) dX12_ages_46 (v := 1) (by decide) ?_
    refine gz_iload_n (pc := 47) dX12_ages_47 rfl ?_
    refine gz_V (zy := mX12_byLaw) (zc := 0) (pc := 48) [.inl 1, .inl a1] rfl dX12_ages_48 lkX12_318 MvX12_byLaw rfl z_0_47 rfl rfl rfl (Or.inl rfl) (fun h => h) (by exact Nat.le_of_ble_eq_true rfl) ?_
    obtain ⟨v14, e13, h⟩ := gz_bd h
    refine gz_useI (c_X12_byLaw e13) ?_
    refine gz_aload_n (pc := 51) dX12_ages_51 rfl ?_
    refine gz_iconst (pc := 52) dX12_ages_52 (v := 2) (by decide) ?_
    refine gz_iload_n (pc := 53) dX12_ages_53 rfl ?_
    refine gz_V (zy := mX12_byLaw) (zc := 0) (pc := 54) [.inl 2, .inl a1] rfl dX12_ages_54 lkX12_318 MvX12_byLaw rfl z_0_47 rfl rfl rfl (Or.inl rfl) (fun h => h) (by exact Nat.le_of_ble_eq_true rfl) ?_
    obtain ⟨v16, e15, h⟩ := gz_bd h
    refine gz_useI (c_X12_byLaw e15) ?_
    refine gz_isub (pc := 57) dX12_ages_57  ?_
    refine gx_X12_310 (pc := 58) dX12_ages_58 (Nat.le_of_ble_eq_true rfl) rfl ?_
    refine gz_isub (pc := 61) dX12_ages_61  ?_
    refine gx_X12_310 (pc := 62) dX12_ages_62 (Nat.le_of_ble_eq_true rfl) rfl ?_
    obtain ⟨b17, h⟩ := gz_gd h
    refine gz_iast2 (pc := 65) dX12_ages_65 (k := v10.toNatClampNeg) z_0_48 rfl b17 rfl ?_
    refine gz_aload_n (pc := 66) dX12_ages_66 rfl ?_
    refine gz_iload_n (pc := 67) dX12_ages_67 rfl ?_
    refine gz_iconst (pc := 68) dX12_ages_68 (v := 3) (by decide) ?_
    refine gz_S (zy := mX12_at) (zc := 0) (pc := 69) [.inl a1, .inl 3] rfl dX12_ages_69 lkX12_67 MsX12_at rfl (Or.inl rfl) (fun h => h) (by exact Nat.le_of_ble_eq_true rfl) ?_
    obtain ⟨v19, e18, h⟩ := gz_bd h
    refine gz_useI (c_X12_at e18) ?_
    refine gz_iconst (pc := 72) dX12_ages_72 (v := 1) (by decide) ?_
    refine gz_bipush (pc := 73) dX12_ages_73 (v := 99) (by decide) ?_
    refine gz_V (zy := mX12_adds) (zc := 0) (pc := 75) [.inl v19, .inl 1, .inl 99] rfl dX12_ages_75 lkX12_333 MvX12_adds rfl z_0_47 rfl rfl rfl (Or.inl rfl) (fun h => h) (by exact Nat.le_of_ble_eq_true rfl) ?_
    obtain ⟨v21, e20, h⟩ := gz_bd h
    refine gz_useV (c_X12_adds e20) ?_
    refine gz_aload_n (pc := 78) dX12_ages_78 rfl ?_
    refine gz_iload_n (pc := 79) dX12_ages_79 rfl ?_
    refine gz_iconst (pc := 80) dX12_ages_80 (v := 4) (by decide) ?_
    refine gz_V (zy := mX12_of) (zc := 0) (pc := 81) [.inl a1, .inl 4] rfl dX12_ages_81 lkX12_70 MvX12_of rfl z_0_47 rfl rfl rfl (Or.inl rfl) (fun h => h) (by exact Nat.le_of_ble_eq_true rfl) ?_
    obtain ⟨v23, e22, h⟩ := gz_bd h
    refine gz_useI (c_X12_of e22) ?_
    refine gz_if_le (pc := 84) (tgt := 89) dX12_ages_84 (by decide) (fun c => ?_) (fun c => ?_)
    · replace h := gz_ifp c h
      refine gz_aload_n (pc := 89) dX12_ages_89 rfl ?_
      refine gr_X12_13 (pc := 90) dX12_ages_90 z_0_47 rfl ?_
      refine gz_iload_n (pc := 93) dX12_ages_93 rfl ?_
      refine gz_bipush (pc := 94) dX12_ages_94 (v := 6) (by decide) ?_
      refine gz_S (zy := mX12_at) (zc := 0) (pc := 96) [.inl a1, .inl 6] rfl dX12_ages_96 lkX12_67 MsX12_at rfl (Or.inl rfl) (fun h => h) (by exact Nat.le_of_ble_eq_true rfl) ?_
      obtain ⟨v25, e24, h⟩ := gz_bd h
      refine gz_useI (c_X12_at e24) ?_
      refine gz_iconst (pc := 99) dX12_ages_99 (v := 1) (by decide) ?_
      obtain ⟨b26, h⟩ := gz_gd h
      refine gz_iast2 (pc := 100) dX12_ages_100 (k := v25.toNatClampNeg) z_0_48 rfl b26 rfl ?_
      refine gz_aload_n (pc := 101) dX12_ages_101 rfl ?_
      refine gz_iload_n (pc := 102) dX12_ages_102 rfl ?_
      refine gz_iconst (pc := 103) dX12_ages_103 (v := 0) (by decide) ?_
      refine gz_iconst (pc := 104) dX12_ages_104 (v := 0) (by decide) ?_
      refine gz_V (zy := mX12_tells) (zc := 0) (pc := 105) [.inl a1, .inl 0, .inl 0] rfl dX12_ages_105 lkX12_337 MvX12_tells rfl z_0_47 rfl rfl rfl (Or.inl rfl) (fun h => h) (by exact Nat.le_of_ble_eq_true rfl) ?_
      obtain ⟨v28, e27, h⟩ := gz_bd h
      refine gz_useV (c_X12_tells e27) ?_
      refine gz_iconst (pc := 108) dX12_ages_108 (v := 1) (by decide) ?_
      cases h; exact gz_zret (pc := 109) dX12_ages_109 rfl (by decide) ⟨rfl, rfl⟩
    · replace h := gz_ifn c h
      refine gz_iconst (pc := 87) dX12_ages_87 (v := 0) (by decide) ?_
      cases h; exact gz_zret (pc := 88) dX12_ages_88 rfl (by decide) ⟨rfl, rfl⟩
  · replace h := gz_ifn c h
    refine gz_iconst (pc := 8) dX12_ages_8 (v := 0) (by decide) ?_
    cases h; exact gz_zret (pc := 9) dX12_ages_9 rfl (by decide) ⟨rfl, rfl⟩
/-! X12_eats: eats -/
def f_X12_eats (a1 : Int32) (I : gzIT) (J : gzJT) : Option (Unit × gzIT × gzJT) := Option.bind (f_X12_ofFamily I a1 2) (fun v2 => Option.bind (f_X12_ofFamily I a1 1) (fun v4 => Option.bind (f_X12_familyAt a1 2) (fun v7 => if (if v2 < v4 then (0 : Int32) else 1) = 0 then (gzGd (v7) 2062 (if ¬ (if v2 < v4 then (0 : Int32) else 1) = 0 then (some ((), gz_ui I 0 48 v7.toNatClampNeg 0, J)) else (Option.bind (f_X12_familyAt a1 3) (fun v10 => Option.bind (f_X12_adds v10 1 99 (gz_ui I 0 48 v7.toNatClampNeg 0) J) (fun v12 => some ((), v12.2.1, v12.2.2)))))) else (Option.bind (f_X12_ofFamily I a1 2) (fun v14 => Option.bind (f_X12_ofFamily I a1 1) (fun v16 => gzGd (v7) 2062 (if ¬ (if v2 < v4 then (0 : Int32) else 1) = 0 then (some ((), gz_ui I 0 48 v7.toNatClampNeg (v14 - v16), J)) else (Option.bind (f_X12_familyAt a1 3) (fun v19 => Option.bind (f_X12_adds v19 1 99 (gz_ui I 0 48 v7.toNatClampNeg (v14 - v16)) J) (fun v21 => some ((), v21.2.1, v21.2.2)))))))))))
set_option maxRecDepth 20000 in
theorem c_X12_eats {g : gzG} {d : Nat} {a1 : Int32} {I : gzIT} {J : gzJT} {r : Unit × gzIT × gzJT} (h : f_X12_eats a1 I J = some r) : gzC g 0 (d + 2) mX12_eats [.inr (.inr (0, 47)), .inl a1] (gzN, gzR0, I, J) (gzE (.ok none) (gzN, gzR0, r.2.1, r.2.2)) := by
  unfold f_X12_eats at h
  refine gzC_of (by decide +kernel) (Nat.le_of_ble_eq_true rfl) (loc := [some (.inr (.inr (0, 47))), some (.inl a1), none]) rfl ?_
  have z_0_47 : gzOk 0 47 gzN := gzOk_of (by decide)
  have z_0_48 : gzOk 0 48 gzN := gzOk_of (by decide)
  refine gz_aload_n (pc := 0) dX12_eats_0 rfl ?_
  refine gz_iload_n (pc := 1) dX12_eats_1 rfl ?_
  refine gz_iconst (pc := 2) dX12_eats_2 (v := 2) (by decide) ?_
  refine gz_V (zy := mX12_ofFamily) (zc := 0) (pc := 3) [.inl a1, .inl 2] rfl dX12_eats_3 lkX12_272 MvX12_ofFamily rfl z_0_47 rfl rfl rfl (Or.inl rfl) (fun h => h) (by exact Nat.le_of_ble_eq_true rfl) ?_
  obtain ⟨v2, e1, h⟩ := gz_bd h
  refine gz_useI (c_X12_ofFamily e1) ?_
  refine gz_aload_n (pc := 6) dX12_eats_6 rfl ?_
  refine gz_iload_n (pc := 7) dX12_eats_7 rfl ?_
  refine gz_iconst (pc := 8) dX12_eats_8 (v := 1) (by decide) ?_
  refine gz_V (zy := mX12_ofFamily) (zc := 0) (pc := 9) [.inl a1, .inl 1] rfl dX12_eats_9 lkX12_272 MvX12_ofFamily rfl z_0_47 rfl rfl rfl (Or.inl rfl) (fun h => h) (by exact Nat.le_of_ble_eq_true rfl) ?_
  obtain ⟨v4, e3, h⟩ := gz_bd h
  refine gz_useI (c_X12_ofFamily e3) ?_
  have kj5 : gzX g 0 (d + 2) mX12_eats 20 [some (.inr (.inr (0, 47))), some (.inl a1), none] ([.inl (if v2 < v4 then (0 : Int32) else 1)]) (gzN, gzR0, I, J) 0 (gzE (.ok none) (gzN, gzR0, r.2.1, r.2.2)) := by
    refine gz_istore_n (pc := 20) dX12_eats_20 (by decide) rfl (loc2 := [some (.inr (.inr (0, 47))), some (.inl a1), some (.inl (if v2 < v4 then (0 : Int32) else 1))]) rfl ?_
    refine gz_aload_n (pc := 21) dX12_eats_21 rfl ?_
    refine gr_X12_13 (pc := 22) dX12_eats_22 z_0_47 rfl ?_
    refine gz_iload_n (pc := 25) dX12_eats_25 rfl ?_
    refine gz_iconst (pc := 26) dX12_eats_26 (v := 2) (by decide) ?_
    refine gz_S (zy := mX12_familyAt) (zc := 0) (pc := 27) [.inl a1, .inl 2] rfl dX12_eats_27 lkX12_63 MsX12_familyAt rfl (Or.inl rfl) (fun h => h) (by exact Nat.le_of_ble_eq_true rfl) ?_
    obtain ⟨v7, e6, h⟩ := gz_bd h
    refine gz_useI (c_X12_familyAt e6) ?_
    refine gz_iload_n (pc := 30) dX12_eats_30 rfl ?_
    refine gz_if_eq (pc := 31) (tgt := 50) dX12_eats_31 (by decide) (fun c => ?_) (fun c => ?_)
    · replace h := gz_ifp c h
      refine gz_iconst (pc := 50) dX12_eats_50 (v := 0) (by decide) ?_
      obtain ⟨b8, h⟩ := gz_gd h
      refine gz_iast2 (pc := 51) dX12_eats_51 (k := v7.toNatClampNeg) z_0_48 rfl b8 rfl ?_
      refine gz_iload_n (pc := 52) dX12_eats_52 rfl ?_
      refine gz_if_ne (pc := 53) (tgt := 68) dX12_eats_53 (by decide) (fun c => ?_) (fun c => ?_)
      · replace h := gz_ifp c h
        cases h; exact gz_vret (pc := 68) dX12_eats_68 rfl ⟨rfl, rfl⟩
      · replace h := gz_ifn (fun q => q c) h
        refine gz_aload_n (pc := 56) dX12_eats_56 rfl ?_
        refine gz_iload_n (pc := 57) dX12_eats_57 rfl ?_
        refine gz_iconst (pc := 58) dX12_eats_58 (v := 3) (by decide) ?_
        refine gz_S (zy := mX12_familyAt) (zc := 0) (pc := 59) [.inl a1, .inl 3] rfl dX12_eats_59 lkX12_63 MsX12_familyAt rfl (Or.inl rfl) (fun h => h) (by exact Nat.le_of_ble_eq_true rfl) ?_
        obtain ⟨v10, e9, h⟩ := gz_bd h
        refine gz_useI (c_X12_familyAt e9) ?_
        refine gz_iconst (pc := 62) dX12_eats_62 (v := 1) (by decide) ?_
        refine gz_bipush (pc := 63) dX12_eats_63 (v := 99) (by decide) ?_
        refine gz_V (zy := mX12_adds) (zc := 0) (pc := 65) [.inl v10, .inl 1, .inl 99] rfl dX12_eats_65 lkX12_333 MvX12_adds rfl z_0_47 rfl rfl rfl (Or.inl rfl) (fun h => h) (by exact Nat.le_of_ble_eq_true rfl) ?_
        obtain ⟨v12, e11, h⟩ := gz_bd h
        refine gz_useV (c_X12_adds e11) ?_
        cases h; exact gz_vret (pc := 68) dX12_eats_68 rfl ⟨rfl, rfl⟩
    · replace h := gz_ifn c h
      refine gz_aload_n (pc := 34) dX12_eats_34 rfl ?_
      refine gz_iload_n (pc := 35) dX12_eats_35 rfl ?_
      refine gz_iconst (pc := 36) dX12_eats_36 (v := 2) (by decide) ?_
      refine gz_V (zy := mX12_ofFamily) (zc := 0) (pc := 37) [.inl a1, .inl 2] rfl dX12_eats_37 lkX12_272 MvX12_ofFamily rfl z_0_47 rfl rfl rfl (Or.inl rfl) (fun h => h) (by exact Nat.le_of_ble_eq_true rfl) ?_
      obtain ⟨v14, e13, h⟩ := gz_bd h
      refine gz_useI (c_X12_ofFamily e13) ?_
      refine gz_aload_n (pc := 40) dX12_eats_40 rfl ?_
      refine gz_iload_n (pc := 41) dX12_eats_41 rfl ?_
      refine gz_iconst (pc := 42) dX12_eats_42 (v := 1) (by decide) ?_
      refine gz_V (zy := mX12_ofFamily) (zc := 0) (pc := 43) [.inl a1, .inl 1] rfl dX12_eats_43 lkX12_272 MvX12_ofFamily rfl z_0_47 rfl rfl rfl (Or.inl rfl) (fun h => h) (by exact Nat.le_of_ble_eq_true rfl) ?_
      obtain ⟨v16, e15, h⟩ := gz_bd h
      refine gz_useI (c_X12_ofFamily e15) ?_
      refine gz_isub (pc := 46) dX12_eats_46  ?_
      refine gz_goto (pc := 47) (tgt := 51) dX12_eats_47 (by decide) ?_
      obtain ⟨b17, h⟩ := gz_gd h
      refine gz_iast2 (pc := 51) dX12_eats_51 (k := v7.toNatClampNeg) z_0_48 rfl b17 rfl ?_
      refine gz_iload_n (pc := 52) dX12_eats_52 rfl ?_
      refine gz_if_ne (pc := 53) (tgt := 68) dX12_eats_53 (by decide) (fun c => ?_) (fun c => ?_)
      · replace h := gz_ifp c h
        cases h; exact gz_vret (pc := 68) dX12_eats_68 rfl ⟨rfl, rfl⟩
      · replace h := gz_ifn (fun q => q c) h
        refine gz_aload_n (pc := 56) dX12_eats_56 rfl ?_
        refine gz_iload_n (pc := 57) dX12_eats_57 rfl ?_
        refine gz_iconst (pc := 58) dX12_eats_58 (v := 3) (by decide) ?_
        refine gz_S (zy := mX12_familyAt) (zc := 0) (pc := 59) [.inl a1, .inl 3] rfl dX12_eats_59 lkX12_63 MsX12_familyAt rfl (Or.inl rfl) (fun h => h) (by exact Nat.le_of_ble_eq_true rfl) ?_
        obtain ⟨v19, e18, h⟩ := gz_bd h
        refine gz_useI (c_X12_familyAt e18) ?_
        refine gz_iconst (pc := 62) dX12_eats_62 (v := 1) (by decide) ?_
        refine gz_bipush (pc := 63) dX12_eats_63 (v := 99) (by decide) ?_
        refine gz_V (zy := mX12_adds) (zc := 0) (pc := 65) [.inl v19, .inl 1, .inl 99] rfl dX12_eats_65 lkX12_333 MvX12_adds rfl z_0_47 rfl rfl rfl (Or.inl rfl) (fun h => h) (by exact Nat.le_of_ble_eq_true rfl) ?_
        obtain ⟨v21, e20, h⟩ := gz_bd h
        refine gz_useV (c_X12_adds e20) ?_
        cases h; exact gz_vret (pc := 68) dX12_eats_68 rfl ⟨rfl, rfl⟩
  refine gz_ic_lt (pc := 12) (tgt := 19) dX12_eats_12 (by decide) (fun c => ?_) (fun c => ?_)
  · rw [if_pos c] at kj5
    refine gz_iconst (pc := 19) dX12_eats_19 (v := 0) (by decide) ?_
    exact kj5
  · rw [if_neg c] at kj5
    refine gz_iconst (pc := 15) dX12_eats_15 (v := 1) (by decide) ?_
    refine gz_goto (pc := 16) (tgt := 20) dX12_eats_16 (by decide) ?_
    exact kj5
/-! X12_maybeKissed: maybeKissed -/
def gP_X12_maybeKissed_48 (g : gzG) (d : Nat) (r : Unit × gzIT × gzJT) (x2 : Int32) (x3 : Int32) (x4 : Int32) (I : gzIT) (J : gzJT) : Prop := gzX g 0 (d + 4) mX12_maybeKissed 48 [some (.inr (.inr (0, 47))), none, some (.inl x2), some (.inl x3), some (.inl x4), none] [] (gzN, gzR0, I, J) 0 (gzE (.ok none) (gzN, gzR0, r.2.1, r.2.2))
def f_X12_maybeKissed_48 (φ : Nat) : Nat → Int32 → Int32 → Int32 → gzIT → gzJT → Option (Unit × gzIT × gzJT)
  | 0, _, _, _, _, _ => none
  | k + 1, x2, x3, x4, I, J => Option.bind (f_X12_has x2 x4) (fun v11 => if v11 = 0 then (Option.bind (f_X12_has x2 x4) (fun v13 => f_X12_maybeKissed_48 φ k x2 (x3 - (if v13 = 0 then (0 : Int32) else 1)) (x4 + 1) I J)) else (if x3 ≤ 0 then (Option.bind (f_X12_of I x4 4) (fun v16 => Option.bind (f_X12_at x4 4) (fun v19 => gzGd (v19) 2062 (Option.bind (f_X12_tells φ x4 4 ((v16 + 1) / 2) (gz_ui I 0 48 v19.toNatClampNeg ((I 0 48 v19.toNatClampNeg) - ((v16 + 1) / 2))) J) (fun v22 => some ((), v22.2.1, v22.2.2)))))) else (Option.bind (f_X12_has x2 x4) (fun v24 => f_X12_maybeKissed_48 φ k x2 (x3 - (if v24 = 0 then (0 : Int32) else 1)) (x4 + 1) I J))))
set_option maxRecDepth 20000 in
theorem p_X12_maybeKissed_48 {g : gzG} {d φ : Nat} {r : Unit × gzIT × gzJT} : ∀ (k : Nat) (x2 : Int32) (x3 : Int32) (x4 : Int32) (I : gzIT) (J : gzJT), f_X12_maybeKissed_48 φ k x2 x3 x4 I J = some r → gP_X12_maybeKissed_48 g d r x2 x3 x4 I J := by
  intro k; induction k with
  | zero => intro x2 x3 x4 I J h; cases h
  | succ k ih =>
    intro x2 x3 x4 I J h
    unfold f_X12_maybeKissed_48 at h
    unfold gP_X12_maybeKissed_48
    have z_0_47 : gzOk 0 47 gzN := gzOk_of (by decide)
    have z_0_48 : gzOk 0 48 gzN := gzOk_of (by decide)
    refine gz_iload_n (pc := 48) dX12_maybeKissed_48 rfl ?_
    refine gz_iload (pc := 49) dX12_maybeKissed_49 rfl ?_
    refine gz_S (zy := mX12_has) (zc := 0) (pc := 51) [.inl x2, .inl x4] rfl dX12_maybeKissed_51 lkX12_80 MsX12_has rfl (Or.inl rfl) (fun h => h) (by exact Nat.le_of_ble_eq_true rfl) ?_
    obtain ⟨v11, e10, h⟩ := gz_bd h
    refine gz_useI (c_X12_has e10) ?_
    refine gz_if_eq (pc := 54) (tgt := 61) dX12_maybeKissed_54 (by decide) (fun c => ?_) (fun c => ?_)
    · replace h := gz_ifp c h
      refine gz_iload_n (pc := 61) dX12_maybeKissed_61 rfl ?_
      refine gz_iload_n (pc := 62) dX12_maybeKissed_62 rfl ?_
      refine gz_iload (pc := 63) dX12_maybeKissed_63 rfl ?_
      refine gz_S (zy := mX12_has) (zc := 0) (pc := 65) [.inl x2, .inl x4] rfl dX12_maybeKissed_65 lkX12_80 MsX12_has rfl (Or.inl rfl) (fun h => h) (by exact Nat.le_of_ble_eq_true rfl) ?_
      obtain ⟨v13, e12, h⟩ := gz_bd h
      refine gz_useI (c_X12_has e12) ?_
      have kj14 : gzX g 0 (d + 4) mX12_maybeKissed 76 [some (.inr (.inr (0, 47))), none, some (.inl x2), some (.inl x3), some (.inl x4), none] ([.inl (if v13 = 0 then (0 : Int32) else 1), .inl x3]) (gzN, gzR0, I, J) 0 (gzE (.ok none) (gzN, gzR0, r.2.1, r.2.2)) := by
        refine gz_isub (pc := 76) dX12_maybeKissed_76  ?_
        refine gz_istore_n (pc := 77) dX12_maybeKissed_77 (by decide) rfl (loc2 := [some (.inr (.inr (0, 47))), none, some (.inl x2), some (.inl (x3 - (if v13 = 0 then (0 : Int32) else 1))), some (.inl x4), none]) rfl ?_
        refine gz_iinc (pc := 78) dX12_maybeKissed_78 (x := x4) (v := x4 + 1) rfl (by rw [show Int32.ofInt 1 = 1 by decide]) (by decide) rfl (loc2 := [some (.inr (.inr (0, 47))), none, some (.inl x2), some (.inl (x3 - (if v13 = 0 then (0 : Int32) else 1))), some (.inl (x4 + 1)), none]) rfl ?_
        refine gz_goto (pc := 81) (tgt := 48) dX12_maybeKissed_81 (by decide) ?_
        exact ih x2 (x3 - (if v13 = 0 then (0 : Int32) else 1)) (x4 + 1) I J h
      refine gz_if_eq (pc := 68) (tgt := 75) dX12_maybeKissed_68 (by decide) (fun c => ?_) (fun c => ?_)
      · rw [if_pos c] at kj14
        refine gz_iconst (pc := 75) dX12_maybeKissed_75 (v := 0) (by decide) ?_
        exact kj14
      · rw [if_neg c] at kj14
        refine gz_iconst (pc := 71) dX12_maybeKissed_71 (v := 1) (by decide) ?_
        refine gz_goto (pc := 72) (tgt := 76) dX12_maybeKissed_72 (by decide) ?_
        exact kj14
    · replace h := gz_ifn c h
      refine gz_iload_n (pc := 57) dX12_maybeKissed_57 rfl ?_
      refine gz_if_le (pc := 58) (tgt := 84) dX12_maybeKissed_58 (by decide) (fun c => ?_) (fun c => ?_)
      · replace h := gz_ifp c h
        refine gz_aload_n (pc := 84) dX12_maybeKissed_84 rfl ?_
        refine gz_iload (pc := 85) dX12_maybeKissed_85 rfl ?_
        refine gz_iconst (pc := 87) dX12_maybeKissed_87 (v := 4) (by decide) ?_
        refine gz_V (zy := mX12_of) (zc := 0) (pc := 88) [.inl x4, .inl 4] rfl dX12_maybeKissed_88 lkX12_70 MvX12_of rfl z_0_47 rfl rfl rfl (Or.inl rfl) (fun h => h) (by exact Nat.le_of_ble_eq_true rfl) ?_
        obtain ⟨v16, e15, h⟩ := gz_bd h
        refine gz_useI (c_X12_of e15) ?_
        refine gz_iconst (pc := 91) dX12_maybeKissed_91 (v := 1) (by decide) ?_
        refine gz_iadd (pc := 92) dX12_maybeKissed_92  ?_
        refine gz_iconst (pc := 93) dX12_maybeKissed_93 (v := 2) (by decide) ?_
        refine gz_idiv (pc := 94) dX12_maybeKissed_94 (by decide) ?_
        refine gz_istore (pc := 95) dX12_maybeKissed_95 (by decide) rfl (loc2 := [some (.inr (.inr (0, 47))), none, some (.inl x2), some (.inl x3), some (.inl x4), some (.inl ((v16 + 1) / 2))]) rfl ?_
        refine gz_aload_n (pc := 97) dX12_maybeKissed_97 rfl ?_
        refine gr_X12_13 (pc := 98) dX12_maybeKissed_98 z_0_47 rfl ?_
        refine gz_iload (pc := 101) dX12_maybeKissed_101 rfl ?_
        refine gz_iconst (pc := 103) dX12_maybeKissed_103 (v := 4) (by decide) ?_
        refine gz_S (zy := mX12_at) (zc := 0) (pc := 104) [.inl x4, .inl 4] rfl dX12_maybeKissed_104 lkX12_67 MsX12_at rfl (Or.inl rfl) (fun h => h) (by exact Nat.le_of_ble_eq_true rfl) ?_
        obtain ⟨v19, e18, h⟩ := gz_bd h
        refine gz_useI (c_X12_at e18) ?_
        refine gz_dup2IR (pc := 107) dX12_maybeKissed_107  ?_
        obtain ⟨b20, h⟩ := gz_gd h
        refine gz_iald2 (pc := 108) dX12_maybeKissed_108 (k := v19.toNatClampNeg) (v := I 0 48 v19.toNatClampNeg) z_0_48 rfl b20 rfl rfl ?_
        refine gz_iload (pc := 109) dX12_maybeKissed_109 rfl ?_
        refine gz_isub (pc := 111) dX12_maybeKissed_111  ?_
        refine gz_iast2 (pc := 112) dX12_maybeKissed_112 (k := v19.toNatClampNeg) z_0_48 rfl b20 rfl ?_
        refine gz_aload_n (pc := 113) dX12_maybeKissed_113 rfl ?_
        refine gz_iload (pc := 114) dX12_maybeKissed_114 rfl ?_
        refine gz_iconst (pc := 116) dX12_maybeKissed_116 (v := 4) (by decide) ?_
        refine gz_iload (pc := 117) dX12_maybeKissed_117 rfl ?_
        refine gz_V (zy := mX12_tells) (zc := 0) (pc := 119) [.inl x4, .inl 4, .inl ((v16 + 1) / 2)] rfl dX12_maybeKissed_119 lkX12_337 MvX12_tells rfl z_0_47 rfl rfl rfl (Or.inl rfl) (fun h => h) (by exact Nat.le_of_ble_eq_true rfl) ?_
        obtain ⟨v22, e21, h⟩ := gz_bd h
        refine gz_useV (c_X12_tells e21) ?_
        cases h; exact gz_vret (pc := 122) dX12_maybeKissed_122 rfl ⟨rfl, rfl⟩
      · replace h := gz_ifn c h
        refine gz_iload_n (pc := 61) dX12_maybeKissed_61 rfl ?_
        refine gz_iload_n (pc := 62) dX12_maybeKissed_62 rfl ?_
        refine gz_iload (pc := 63) dX12_maybeKissed_63 rfl ?_
        refine gz_S (zy := mX12_has) (zc := 0) (pc := 65) [.inl x2, .inl x4] rfl dX12_maybeKissed_65 lkX12_80 MsX12_has rfl (Or.inl rfl) (fun h => h) (by exact Nat.le_of_ble_eq_true rfl) ?_
        obtain ⟨v24, e23, h⟩ := gz_bd h
        refine gz_useI (c_X12_has e23) ?_
        have kj25 : gzX g 0 (d + 4) mX12_maybeKissed 76 [some (.inr (.inr (0, 47))), none, some (.inl x2), some (.inl x3), some (.inl x4), none] ([.inl (if v24 = 0 then (0 : Int32) else 1), .inl x3]) (gzN, gzR0, I, J) 0 (gzE (.ok none) (gzN, gzR0, r.2.1, r.2.2)) := by
          refine gz_isub (pc := 76) dX12_maybeKissed_76  ?_
          refine gz_istore_n (pc := 77) dX12_maybeKissed_77 (by decide) rfl (loc2 := [some (.inr (.inr (0, 47))), none, some (.inl x2), some (.inl (x3 - (if v24 = 0 then (0 : Int32) else 1))), some (.inl x4), none]) rfl ?_
          refine gz_iinc (pc := 78) dX12_maybeKissed_78 (x := x4) (v := x4 + 1) rfl (by rw [show Int32.ofInt 1 = 1 by decide]) (by decide) rfl (loc2 := [some (.inr (.inr (0, 47))), none, some (.inl x2), some (.inl (x3 - (if v24 = 0 then (0 : Int32) else 1))), some (.inl (x4 + 1)), none]) rfl ?_
          refine gz_goto (pc := 81) (tgt := 48) dX12_maybeKissed_81 (by decide) ?_
          exact ih x2 (x3 - (if v24 = 0 then (0 : Int32) else 1)) (x4 + 1) I J h
        refine gz_if_eq (pc := 68) (tgt := 75) dX12_maybeKissed_68 (by decide) (fun c => ?_) (fun c => ?_)
        · rw [if_pos c] at kj25
          refine gz_iconst (pc := 75) dX12_maybeKissed_75 (v := 0) (by decide) ?_
          exact kj25
        · rw [if_neg c] at kj25
          refine gz_iconst (pc := 71) dX12_maybeKissed_71 (v := 1) (by decide) ?_
          refine gz_goto (pc := 72) (tgt := 76) dX12_maybeKissed_72 (by decide) ?_
          exact kj25
def f_X12_maybeKissed (φ : Nat) (I : gzIT) (J : gzJT) : Option (Unit × gzIT × gzJT) := Option.bind (f_X12_drawn 100 I J) (fun v2 => Option.bind (f_X12_standing φ v2.2.1) (fun v5 => if (if v2.2.1 0 48 7 ≤ v2.1 then (0 : Int32) else 1) = 0 then (some ((), v2.2.1, v2.2.2)) else (if ¬ v5 = 0 then (Option.bind (f_J6_bitCount_0f7a4 v5) (fun v7 => Option.bind (f_X12_drawn v7 v2.2.1 v2.2.2) (fun v9 => f_X12_maybeKissed_48 φ φ v5 v9.1 0 v9.2.1 v9.2.2))) else (some ((), v2.2.1, v2.2.2)))))
set_option maxRecDepth 20000 in
theorem c_X12_maybeKissed {g : gzG} {d φ : Nat} {I : gzIT} {J : gzJT} {r : Unit × gzIT × gzJT} (h : f_X12_maybeKissed φ I J = some r) : gzC g 0 (d + 4) mX12_maybeKissed [.inr (.inr (0, 47))] (gzN, gzR0, I, J) (gzE (.ok none) (gzN, gzR0, r.2.1, r.2.2)) := by
  unfold f_X12_maybeKissed at h
  refine gzC_of (by decide +kernel) (Nat.le_of_ble_eq_true rfl) (loc := [some (.inr (.inr (0, 47))), none, none, none, none, none]) rfl ?_
  have z_0_47 : gzOk 0 47 gzN := gzOk_of (by decide)
  have z_0_48 : gzOk 0 48 gzN := gzOk_of (by decide)
  refine gz_aload_n (pc := 0) dX12_maybeKissed_0 rfl ?_
  refine gz_bipush (pc := 1) dX12_maybeKissed_1 (v := 100) (by decide) ?_
  refine gz_V (zy := mX12_drawn) (zc := 0) (pc := 3) [.inl 100] rfl dX12_maybeKissed_3 lkX12_340 MvX12_drawn rfl z_0_47 rfl rfl rfl (Or.inl rfl) (fun h => h) (by exact Nat.le_of_ble_eq_true rfl) ?_
  obtain ⟨v2, e1, h⟩ := gz_bd h
  refine gz_useI (c_X12_drawn e1) ?_
  refine gz_aload_n (pc := 6) dX12_maybeKissed_6 rfl ?_
  refine gr_X12_13 (pc := 7) dX12_maybeKissed_7 z_0_47 rfl ?_
  refine gz_bipush (pc := 10) dX12_maybeKissed_10 (v := 7) (by decide) ?_
  refine gz_iald2 (pc := 12) dX12_maybeKissed_12 (k := 7) (v := v2.2.1 0 48 7) z_0_48 rfl (gz_vpd (by decide)) (by decide) rfl ?_
  have kj3 : gzX g 0 (d + 4) mX12_maybeKissed 21 [some (.inr (.inr (0, 47))), none, none, none, none, none] ([.inl (if v2.2.1 0 48 7 ≤ v2.1 then (0 : Int32) else 1)]) (gzN, gzR0, v2.2.1, v2.2.2) 0 (gzE (.ok none) (gzN, gzR0, r.2.1, r.2.2)) := by
    refine gz_istore_n (pc := 21) dX12_maybeKissed_21 (by decide) rfl (loc2 := [some (.inr (.inr (0, 47))), some (.inl (if v2.2.1 0 48 7 ≤ v2.1 then (0 : Int32) else 1)), none, none, none, none]) rfl ?_
    refine gz_aload_n (pc := 22) dX12_maybeKissed_22 rfl ?_
    refine gz_V (zy := mX12_standing) (zc := 0) (pc := 23) [] rfl dX12_maybeKissed_23 lkX12_291 MvX12_standing rfl z_0_47 rfl rfl rfl (Or.inl rfl) (fun h => h) (by exact Nat.le_of_ble_eq_true rfl) ?_
    obtain ⟨v5, e4, h⟩ := gz_bd h
    refine gz_useI (c_X12_standing e4) ?_
    refine gz_istore_n (pc := 26) dX12_maybeKissed_26 (by decide) rfl (loc2 := [some (.inr (.inr (0, 47))), some (.inl (if v2.2.1 0 48 7 ≤ v2.1 then (0 : Int32) else 1)), some (.inl v5), none, none, none]) rfl ?_
    refine gz_iload_n (pc := 27) dX12_maybeKissed_27 rfl ?_
    refine gz_if_eq (pc := 28) (tgt := 35) dX12_maybeKissed_28 (by decide) (fun c => ?_) (fun c => ?_)
    · replace h := gz_ifp c h
      cases h; exact gz_vret (pc := 35) dX12_maybeKissed_35 rfl ⟨rfl, rfl⟩
    · replace h := gz_ifn c h
      refine gz_iload_n (pc := 31) dX12_maybeKissed_31 rfl ?_
      refine gz_if_ne (pc := 32) (tgt := 36) dX12_maybeKissed_32 (by decide) (fun c => ?_) (fun c => ?_)
      · replace h := gz_ifp c h
        refine gz_aload_n (pc := 36) dX12_maybeKissed_36 rfl ?_
        refine gz_iload_n (pc := 37) dX12_maybeKissed_37 rfl ?_
        refine gz_S (zy := mJ6_bitCount_0f7a4) (zc := 0) (pc := 38) [.inl v5] rfl dX12_maybeKissed_38 lkX12_343 MsJ6_bitCount_0f7a4 rfl (Or.inl rfl) (fun h => h) (by exact Nat.le_of_ble_eq_true rfl) ?_
        obtain ⟨v7, e6, h⟩ := gz_bd h
        refine gz_useI (c_J6_bitCount_0f7a4 e6) ?_
        refine gz_V (zy := mX12_drawn) (zc := 0) (pc := 41) [.inl v7] rfl dX12_maybeKissed_41 lkX12_340 MvX12_drawn rfl z_0_47 rfl rfl rfl (Or.inl rfl) (fun h => h) (by exact Nat.le_of_ble_eq_true rfl) ?_
        obtain ⟨v9, e8, h⟩ := gz_bd h
        refine gz_useI (c_X12_drawn e8) ?_
        refine gz_istore_n (pc := 44) dX12_maybeKissed_44 (by decide) rfl (loc2 := [some (.inr (.inr (0, 47))), some (.inl (if v2.2.1 0 48 7 ≤ v2.1 then (0 : Int32) else 1)), some (.inl v5), some (.inl v9.1), none, none]) rfl ?_
        refine gz_iconst (pc := 45) dX12_maybeKissed_45 (v := 0) (by decide) ?_
        refine gz_istore (pc := 46) dX12_maybeKissed_46 (by decide) rfl (loc2 := [some (.inr (.inr (0, 47))), some (.inl (if v2.2.1 0 48 7 ≤ v2.1 then (0 : Int32) else 1)), some (.inl v5), some (.inl v9.1), some (.inl 0), none]) rfl ?_
        exact gz_weak (loc2 := [some (.inr (.inr (0, 47))), none, some (.inl v5), some (.inl v9.1), some (.inl 0), none]) (p_X12_maybeKissed_48 φ v5 v9.1 0 v9.2.1 v9.2.2 h) (by repeat (first | exact trivial | refine ⟨rfl, ?_⟩))
      · replace h := gz_ifn (fun q => q c) h
        cases h; exact gz_vret (pc := 35) dX12_maybeKissed_35 rfl ⟨rfl, rfl⟩
  refine gz_ic_ge (pc := 13) (tgt := 20) dX12_maybeKissed_13 (by decide) (fun c => ?_) (fun c => ?_)
  · rw [if_pos c] at kj3
    refine gz_iconst (pc := 20) dX12_maybeKissed_20 (v := 0) (by decide) ?_
    exact kj3
  · rw [if_neg c] at kj3
    refine gz_iconst (pc := 16) dX12_maybeKissed_16 (v := 1) (by decide) ?_
    refine gz_goto (pc := 17) (tgt := 21) dX12_maybeKissed_17 (by decide) ?_
    exact kj3
/-! X12_oneSeason: oneSeason -/
def gP_X12_oneSeason_36 (g : gzG) (d : Nat) (r : Int32 × gzIT × gzJT) (x1 : Int32) (x2 : Int32) (x3 : Int32) (I : gzIT) (J : gzJT) : Prop := gzX g 0 (d + 8) mX12_oneSeason 36 [some (.inr (.inr (0, 47))), some (.inl x1), some (.inl x2), some (.inl x3)] [] (gzN, gzR0, I, J) 0 (gzE (.ok (some (.inl r.1))) (gzN, gzR0, r.2.1, r.2.2))
def gP_X12_oneSeason_4 (g : gzG) (d : Nat) (r : Int32 × gzIT × gzJT) (x1 : Int32) (x2 : Int32) (x3 : Int32) (I : gzIT) (J : gzJT) : Prop := gzX g 0 (d + 8) mX12_oneSeason 4 [some (.inr (.inr (0, 47))), some (.inl x1), some (.inl x2), some (.inl x3)] [] (gzN, gzR0, I, J) 0 (gzE (.ok (some (.inl r.1))) (gzN, gzR0, r.2.1, r.2.2))
def f_X12_oneSeason_36 (φ : Nat) : Nat → Int32 → Int32 → Int32 → gzIT → gzJT → Option (Int32 × gzIT × gzJT)
  | 0, _, _, _, _, _ => none
  | k + 1, x1, x2, x3, I, J => Option.bind (f_X12_families I) (fun v7 => if v7 ≤ x3 then (Option.bind (f_X12_heatNow I) (fun v9 => if ¬ x1 = 0 then (Option.bind (f_X12_adds 4 1 9999 (gz_ui I 0 48 5 (if 0 < (I 0 48 5) - (v9 * (if ¬ I 0 48 6 = 1 then (1 : Int32) else 5)) then (I 0 48 5) - (v9 * (if ¬ I 0 48 6 = 1 then (1 : Int32) else 5)) else 0)) J) (fun v12 => some (x2, v12.2.1, v12.2.2))) else (Option.bind (f_X12_maybeKissed φ (gz_ui I 0 48 5 (if 0 < (I 0 48 5) - (v9 * (if ¬ I 0 48 6 = 1 then (1 : Int32) else 5)) then (I 0 48 5) - (v9 * (if ¬ I 0 48 6 = 1 then (1 : Int32) else 5)) else 0)) J) (fun v14 => Option.bind (f_X12_adds 4 1 9999 v14.2.1 v14.2.2) (fun v16 => some (x2, v16.2.1, v16.2.2)))))) else (Option.bind (f_X12_eats x3 I J) (fun v18 => f_X12_oneSeason_36 φ k x1 x2 (x3 + 1) v18.2.1 v18.2.2)))
set_option maxRecDepth 20000 in
theorem p_X12_oneSeason_36 {g : gzG} {d φ : Nat} {r : Int32 × gzIT × gzJT} : ∀ (k : Nat) (x1 : Int32) (x2 : Int32) (x3 : Int32) (I : gzIT) (J : gzJT), f_X12_oneSeason_36 φ k x1 x2 x3 I J = some r → gP_X12_oneSeason_36 g d r x1 x2 x3 I J := by
  intro k; induction k with
  | zero => intro x1 x2 x3 I J h; cases h
  | succ k ih =>
    intro x1 x2 x3 I J h
    unfold f_X12_oneSeason_36 at h
    unfold gP_X12_oneSeason_36
    have z_0_47 : gzOk 0 47 gzN := gzOk_of (by decide)
    have z_0_48 : gzOk 0 48 gzN := gzOk_of (by decide)
    refine gz_iload_n (pc := 36) dX12_oneSeason_36 rfl ?_
    refine gz_aload_n (pc := 37) dX12_oneSeason_37 rfl ?_
    refine gz_V (zy := mX12_families) (zc := 0) (pc := 38) [] rfl dX12_oneSeason_38 lkX12_59 MvX12_families rfl z_0_47 rfl rfl rfl (Or.inl rfl) (fun h => h) (by exact Nat.le_of_ble_eq_true rfl) ?_
    obtain ⟨v7, e6, h⟩ := gz_bd h
    refine gz_useI (c_X12_families e6) ?_
    refine gz_ic_ge (pc := 41) (tgt := 55) dX12_oneSeason_41 (by decide) (fun c => ?_) (fun c => ?_)
    · replace h := gz_ifp c h
      refine gz_aload_n (pc := 55) dX12_oneSeason_55 rfl ?_
      refine gr_X12_13 (pc := 56) dX12_oneSeason_56 z_0_47 rfl ?_
      refine gz_iconst (pc := 59) dX12_oneSeason_59 (v := 5) (by decide) ?_
      refine gz_iconst (pc := 60) dX12_oneSeason_60 (v := 0) (by decide) ?_
      refine gz_aload_n (pc := 61) dX12_oneSeason_61 rfl ?_
      refine gr_X12_13 (pc := 62) dX12_oneSeason_62 z_0_47 rfl ?_
      refine gz_iconst (pc := 65) dX12_oneSeason_65 (v := 5) (by decide) ?_
      refine gz_iald2 (pc := 66) dX12_oneSeason_66 (k := 5) (v := I 0 48 5) z_0_48 rfl (gz_vpd (by decide)) (by decide) rfl ?_
      refine gz_aload_n (pc := 67) dX12_oneSeason_67 rfl ?_
      refine gz_V (zy := mX12_heatNow) (zc := 0) (pc := 68) [] rfl dX12_oneSeason_68 lkX12_278 MvX12_heatNow rfl z_0_47 rfl rfl rfl (Or.inl rfl) (fun h => h) (by exact Nat.le_of_ble_eq_true rfl) ?_
      obtain ⟨v9, e8, h⟩ := gz_bd h
      refine gz_useI (c_X12_heatNow e8) ?_
      refine gz_aload_n (pc := 71) dX12_oneSeason_71 rfl ?_
      refine gr_X12_13 (pc := 72) dX12_oneSeason_72 z_0_47 rfl ?_
      refine gz_bipush (pc := 75) dX12_oneSeason_75 (v := 6) (by decide) ?_
      refine gz_iald2 (pc := 77) dX12_oneSeason_77 (k := 6) (v := I 0 48 6) z_0_48 rfl (gz_vpd (by decide)) (by decide) rfl ?_
      refine gz_iconst (pc := 78) dX12_oneSeason_78 (v := 1) (by decide) ?_
      have kj10 : gzX g 0 (d + 8) mX12_oneSeason 87 [some (.inr (.inr (0, 47))), some (.inl x1), some (.inl x2), some (.inl x3)] ([.inl (if ¬ I 0 48 6 = 1 then (1 : Int32) else 5), .inl v9, .inl (I 0 48 5), .inl 0, .inl 5, .inr (.inr (0, 48))]) (gzN, gzR0, I, J) 0 (gzE (.ok (some (.inl r.1))) (gzN, gzR0, r.2.1, r.2.2)) := by
        refine gz_imul (pc := 87) dX12_oneSeason_87  ?_
        refine gz_isub (pc := 88) dX12_oneSeason_88  ?_
        refine gx_X12_310 (pc := 89) dX12_oneSeason_89 (Nat.le_of_ble_eq_true rfl) rfl ?_
        refine gz_iast2 (pc := 92) dX12_oneSeason_92 (k := 5) z_0_48 rfl (gz_vpd (by decide)) (by decide) ?_
        refine gz_iload_n (pc := 93) dX12_oneSeason_93 rfl ?_
        refine gz_if_ne (pc := 94) (tgt := 101) dX12_oneSeason_94 (by decide) (fun c => ?_) (fun c => ?_)
        · replace h := gz_ifp c h
          refine gz_aload_n (pc := 101) dX12_oneSeason_101 rfl ?_
          refine gz_iconst (pc := 102) dX12_oneSeason_102 (v := 4) (by decide) ?_
          refine gz_iconst (pc := 103) dX12_oneSeason_103 (v := 1) (by decide) ?_
          refine gz_sipush (pc := 104) dX12_oneSeason_104 (v := 9999) (by decide) ?_
          refine gz_V (zy := mX12_adds) (zc := 0) (pc := 107) [.inl 4, .inl 1, .inl 9999] rfl dX12_oneSeason_107 lkX12_333 MvX12_adds rfl z_0_47 rfl rfl rfl (Or.inl rfl) (fun h => h) (by exact Nat.le_of_ble_eq_true rfl) ?_
          obtain ⟨v12, e11, h⟩ := gz_bd h
          refine gz_useV (c_X12_adds e11) ?_
          refine gz_iload_n (pc := 110) dX12_oneSeason_110 rfl ?_
          cases h; exact gz_iret (pc := 111) dX12_oneSeason_111 rfl ⟨rfl, rfl⟩
        · replace h := gz_ifn (fun q => q c) h
          refine gz_aload_n (pc := 97) dX12_oneSeason_97 rfl ?_
          refine gz_V (zy := mX12_maybeKissed) (zc := 0) (pc := 98) [] rfl dX12_oneSeason_98 lkX12_355 MvX12_maybeKissed rfl z_0_47 rfl rfl rfl (Or.inl rfl) (fun h => h) (by exact Nat.le_of_ble_eq_true rfl) ?_
          obtain ⟨v14, e13, h⟩ := gz_bd h
          refine gz_useV (c_X12_maybeKissed e13) ?_
          refine gz_aload_n (pc := 101) dX12_oneSeason_101 rfl ?_
          refine gz_iconst (pc := 102) dX12_oneSeason_102 (v := 4) (by decide) ?_
          refine gz_iconst (pc := 103) dX12_oneSeason_103 (v := 1) (by decide) ?_
          refine gz_sipush (pc := 104) dX12_oneSeason_104 (v := 9999) (by decide) ?_
          refine gz_V (zy := mX12_adds) (zc := 0) (pc := 107) [.inl 4, .inl 1, .inl 9999] rfl dX12_oneSeason_107 lkX12_333 MvX12_adds rfl z_0_47 rfl rfl rfl (Or.inl rfl) (fun h => h) (by exact Nat.le_of_ble_eq_true rfl) ?_
          obtain ⟨v16, e15, h⟩ := gz_bd h
          refine gz_useV (c_X12_adds e15) ?_
          refine gz_iload_n (pc := 110) dX12_oneSeason_110 rfl ?_
          cases h; exact gz_iret (pc := 111) dX12_oneSeason_111 rfl ⟨rfl, rfl⟩
      refine gz_ic_ne (pc := 79) (tgt := 86) dX12_oneSeason_79 (by decide) (fun c => ?_) (fun c => ?_)
      · rw [if_pos c] at kj10
        refine gz_iconst (pc := 86) dX12_oneSeason_86 (v := 1) (by decide) ?_
        exact kj10
      · rw [if_neg (show ¬ (¬ I 0 48 6 = 1) from fun q => q c)] at kj10
        refine gz_iconst (pc := 82) dX12_oneSeason_82 (v := 5) (by decide) ?_
        refine gz_goto (pc := 83) (tgt := 87) dX12_oneSeason_83 (by decide) ?_
        exact kj10
    · replace h := gz_ifn c h
      refine gz_aload_n (pc := 44) dX12_oneSeason_44 rfl ?_
      refine gz_iload_n (pc := 45) dX12_oneSeason_45 rfl ?_
      refine gz_V (zy := mX12_eats) (zc := 0) (pc := 46) [.inl x3] rfl dX12_oneSeason_46 lkX12_351 MvX12_eats rfl z_0_47 rfl rfl rfl (Or.inl rfl) (fun h => h) (by exact Nat.le_of_ble_eq_true rfl) ?_
      obtain ⟨v18, e17, h⟩ := gz_bd h
      refine gz_useV (c_X12_eats e17) ?_
      refine gz_iinc (pc := 49) dX12_oneSeason_49 (x := x3) (v := x3 + 1) rfl (by rw [show Int32.ofInt 1 = 1 by decide]) (by decide) rfl (loc2 := [some (.inr (.inr (0, 47))), some (.inl x1), some (.inl x2), some (.inl (x3 + 1))]) rfl ?_
      refine gz_goto (pc := 52) (tgt := 36) dX12_oneSeason_52 (by decide) ?_
      exact ih x1 x2 (x3 + 1) v18.2.1 v18.2.2 h
def f_X12_oneSeason_4 (φ : Nat) : Nat → Int32 → Int32 → Int32 → gzIT → gzJT → Option (Int32 × gzIT × gzJT)
  | 0, _, _, _, _, _ => none
  | k + 1, x1, x2, x3, I, J => Option.bind (f_X12_grudges I) (fun v2 => if v2 ≤ x3 then (f_X12_oneSeason_36 φ φ x1 x2 0 I J) else (Option.bind (f_X12_ages φ x3 I J) (fun v4 => f_X12_oneSeason_4 φ k x1 (x2 + (if v4.1 = 0 then (0 : Int32) else 1)) (x3 + 1) v4.2.1 v4.2.2)))
set_option maxRecDepth 20000 in
theorem p_X12_oneSeason_4 {g : gzG} {d φ : Nat} {r : Int32 × gzIT × gzJT} : ∀ (k : Nat) (x1 : Int32) (x2 : Int32) (x3 : Int32) (I : gzIT) (J : gzJT), f_X12_oneSeason_4 φ k x1 x2 x3 I J = some r → gP_X12_oneSeason_4 g d r x1 x2 x3 I J := by
  intro k; induction k with
  | zero => intro x1 x2 x3 I J h; cases h
  | succ k ih =>
    intro x1 x2 x3 I J h
    unfold f_X12_oneSeason_4 at h
    unfold gP_X12_oneSeason_4
    have z_0_47 : gzOk 0 47 gzN := gzOk_of (by decide)
    refine gz_iload_n (pc := 4) dX12_oneSeason_4 rfl ?_
    refine gz_aload_n (pc := 5) dX12_oneSeason_5 rfl ?_
    refine gz_V (zy := mX12_grudges) (zc := 0) (pc := 6) [] rfl dX12_oneSeason_6 lkX12_73 MvX12_grudges rfl z_0_47 rfl rfl rfl (Or.inl rfl) (fun h => h) (by exact Nat.le_of_ble_eq_true rfl) ?_
    obtain ⟨v2, e1, h⟩ := gz_bd h
    refine gz_useI (c_X12_grudges e1) ?_
    refine gz_ic_ge (pc := 9) (tgt := 34) dX12_oneSeason_9 (by decide) (fun c => ?_) (fun c => ?_)
    · replace h := gz_ifp c h
      refine gz_iconst (pc := 34) dX12_oneSeason_34 (v := 0) (by decide) ?_
      refine gz_istore_n (pc := 35) dX12_oneSeason_35 (by decide) rfl (loc2 := [some (.inr (.inr (0, 47))), some (.inl x1), some (.inl x2), some (.inl 0)]) rfl ?_
      exact p_X12_oneSeason_36 φ x1 x2 0 I J h
    · replace h := gz_ifn c h
      refine gz_iload_n (pc := 12) dX12_oneSeason_12 rfl ?_
      refine gz_aload_n (pc := 13) dX12_oneSeason_13 rfl ?_
      refine gz_iload_n (pc := 14) dX12_oneSeason_14 rfl ?_
      refine gz_V (zy := mX12_ages) (zc := 0) (pc := 15) [.inl x3] rfl dX12_oneSeason_15 lkX12_348 MvX12_ages rfl z_0_47 rfl rfl rfl (Or.inl rfl) (fun h => h) (by exact Nat.le_of_ble_eq_true rfl) ?_
      obtain ⟨v4, e3, h⟩ := gz_bd h
      refine gz_useI (c_X12_ages e3) ?_
      have kj5 : gzX g 0 (d + 8) mX12_oneSeason 26 [some (.inr (.inr (0, 47))), some (.inl x1), some (.inl x2), some (.inl x3)] ([.inl (if v4.1 = 0 then (0 : Int32) else 1), .inl x2]) (gzN, gzR0, v4.2.1, v4.2.2) 0 (gzE (.ok (some (.inl r.1))) (gzN, gzR0, r.2.1, r.2.2)) := by
        refine gz_iadd (pc := 26) dX12_oneSeason_26  ?_
        refine gz_istore_n (pc := 27) dX12_oneSeason_27 (by decide) rfl (loc2 := [some (.inr (.inr (0, 47))), some (.inl x1), some (.inl (x2 + (if v4.1 = 0 then (0 : Int32) else 1))), some (.inl x3)]) rfl ?_
        refine gz_iinc (pc := 28) dX12_oneSeason_28 (x := x3) (v := x3 + 1) rfl (by rw [show Int32.ofInt 1 = 1 by decide]) (by decide) rfl (loc2 := [some (.inr (.inr (0, 47))), some (.inl x1), some (.inl (x2 + (if v4.1 = 0 then (0 : Int32) else 1))), some (.inl (x3 + 1))]) rfl ?_
        refine gz_goto (pc := 31) (tgt := 4) dX12_oneSeason_31 (by decide) ?_
        exact ih x1 (x2 + (if v4.1 = 0 then (0 : Int32) else 1)) (x3 + 1) v4.2.1 v4.2.2 h
      refine gz_if_eq (pc := 18) (tgt := 25) dX12_oneSeason_18 (by decide) (fun c => ?_) (fun c => ?_)
      · rw [if_pos c] at kj5
        refine gz_iconst (pc := 25) dX12_oneSeason_25 (v := 0) (by decide) ?_
        exact kj5
      · rw [if_neg c] at kj5
        refine gz_iconst (pc := 21) dX12_oneSeason_21 (v := 1) (by decide) ?_
        refine gz_goto (pc := 22) (tgt := 26) dX12_oneSeason_22 (by decide) ?_
        exact kj5
def f_X12_oneSeason (φ : Nat) (a1 : Int32) (I : gzIT) (J : gzJT) : Option (Int32 × gzIT × gzJT) := f_X12_oneSeason_4 φ φ a1 0 0 I J
set_option maxRecDepth 20000 in
theorem c_X12_oneSeason {g : gzG} {d φ : Nat} {a1 : Int32} {I : gzIT} {J : gzJT} {r : Int32 × gzIT × gzJT} (h : f_X12_oneSeason φ a1 I J = some r) : gzC g 0 (d + 8) mX12_oneSeason [.inr (.inr (0, 47)), .inl a1] (gzN, gzR0, I, J) (gzE (.ok (some (.inl r.1))) (gzN, gzR0, r.2.1, r.2.2)) := by
  unfold f_X12_oneSeason at h
  refine gzC_of (by decide +kernel) (Nat.le_of_ble_eq_true rfl) (loc := [some (.inr (.inr (0, 47))), some (.inl a1), none, none]) rfl ?_
  refine gz_iconst (pc := 0) dX12_oneSeason_0 (v := 0) (by decide) ?_
  refine gz_istore_n (pc := 1) dX12_oneSeason_1 (by decide) rfl (loc2 := [some (.inr (.inr (0, 47))), some (.inl a1), some (.inl 0), none]) rfl ?_
  refine gz_iconst (pc := 2) dX12_oneSeason_2 (v := 0) (by decide) ?_
  refine gz_istore_n (pc := 3) dX12_oneSeason_3 (by decide) rfl (loc2 := [some (.inr (.inr (0, 47))), some (.inl a1), some (.inl 0), some (.inl 0)]) rfl ?_
  exact p_X12_oneSeason_4 φ a1 0 0 I J h
/-! X12_lastsOf: lastsOf -/
def gP_X12_lastsOf_16 (g : gzG) (d : Nat) (r : Int32 × gzIT × gzJT) (x1 : Int32) (x2 : Int32) (x3 : Int32) (x4 : Int32) (I : gzIT) (J : gzJT) : Prop := gzX g 0 (d + 9) mX12_lastsOf 16 [some (.inr (.inr (0, 47))), some (.inl x1), some (.inl x2), some (.inl x3), some (.inl x4)] [] (gzN, gzR0, I, J) 0 (gzE (.ok (some (.inl r.1))) (gzN, gzR0, r.2.1, r.2.2))
def f_X12_lastsOf_16 (φ : Nat) : Nat → Int32 → Int32 → Int32 → Int32 → gzIT → gzJT → Option (Int32 × gzIT × gzJT)
  | 0, _, _, _, _, _, _ => none
  | k + 1, x1, x2, x3, x4, I, J => if 60 < x4 then (Option.bind (f_X12_bringsBack φ I J) (fun v6 => some (x3, v6.2.1, v6.2.2))) else (if ¬ x3 = (-1) then (Option.bind (f_X12_bringsBack φ I J) (fun v8 => some (x3, v8.2.1, v8.2.2))) else (Option.bind (f_X12_ofFamily I x1 3) (fun v10 => Option.bind (f_X12_oneSeason φ 1 I J) (fun v13 => f_X12_lastsOf_16 φ k x1 x2 (if v10 ≤ x2 then ((-1) : Int32) else x4) (x4 + 1) v13.2.1 v13.2.2))))
set_option maxRecDepth 20000 in
theorem p_X12_lastsOf_16 {g : gzG} {d φ : Nat} {r : Int32 × gzIT × gzJT} : ∀ (k : Nat) (x1 : Int32) (x2 : Int32) (x3 : Int32) (x4 : Int32) (I : gzIT) (J : gzJT), f_X12_lastsOf_16 φ k x1 x2 x3 x4 I J = some r → gP_X12_lastsOf_16 g d r x1 x2 x3 x4 I J := by
  intro k; induction k with
  | zero => intro x1 x2 x3 x4 I J h; cases h
  | succ k ih =>
    intro x1 x2 x3 x4 I J h
    unfold f_X12_lastsOf_16 at h
    unfold gP_X12_lastsOf_16
    have z_0_47 : gzOk 0 47 gzN := gzOk_of (by decide)
    refine gz_iload (pc := 16) dX12_lastsOf_16 rfl ?_
    refine gz_bipush (pc := 18) dX12_lastsOf_18 (v := 60) (by decide) ?_
    refine gz_ic_gt (pc := 20) (tgt := 57) dX12_lastsOf_20 (by decide) (fun c => ?_) (fun c => ?_)
    · replace h := gz_ifp c h
      refine gz_aload_n (pc := 57) dX12_lastsOf_57 rfl ?_
      refine gz_V (zy := mX12_bringsBack) (zc := 0) (pc := 58) [] rfl dX12_lastsOf_58 lkX12_374 MvX12_bringsBack rfl z_0_47 rfl rfl rfl (Or.inl rfl) (fun h => h) (by exact Nat.le_of_ble_eq_true rfl) ?_
      obtain ⟨v6, e5, h⟩ := gz_bd h
      refine gz_useV (c_X12_bringsBack e5) ?_
      refine gz_iload_n (pc := 61) dX12_lastsOf_61 rfl ?_
      cases h; exact gz_iret (pc := 62) dX12_lastsOf_62 rfl ⟨rfl, rfl⟩
    · replace h := gz_ifn c h
      refine gz_iload_n (pc := 23) dX12_lastsOf_23 rfl ?_
      refine gz_iconst (pc := 24) dX12_lastsOf_24 (v := (-1)) (by decide) ?_
      refine gz_ic_ne (pc := 25) (tgt := 57) dX12_lastsOf_25 (by decide) (fun c => ?_) (fun c => ?_)
      · replace h := gz_ifp c h
        refine gz_aload_n (pc := 57) dX12_lastsOf_57 rfl ?_
        refine gz_V (zy := mX12_bringsBack) (zc := 0) (pc := 58) [] rfl dX12_lastsOf_58 lkX12_374 MvX12_bringsBack rfl z_0_47 rfl rfl rfl (Or.inl rfl) (fun h => h) (by exact Nat.le_of_ble_eq_true rfl) ?_
        obtain ⟨v8, e7, h⟩ := gz_bd h
        refine gz_useV (c_X12_bringsBack e7) ?_
        refine gz_iload_n (pc := 61) dX12_lastsOf_61 rfl ?_
        cases h; exact gz_iret (pc := 62) dX12_lastsOf_62 rfl ⟨rfl, rfl⟩
      · replace h := gz_ifn (fun q => q c) h
        refine gz_aload_n (pc := 28) dX12_lastsOf_28 rfl ?_
        refine gz_iload_n (pc := 29) dX12_lastsOf_29 rfl ?_
        refine gz_iconst (pc := 30) dX12_lastsOf_30 (v := 3) (by decide) ?_
        refine gz_V (zy := mX12_ofFamily) (zc := 0) (pc := 31) [.inl x1, .inl 3] rfl dX12_lastsOf_31 lkX12_272 MvX12_ofFamily rfl z_0_47 rfl rfl rfl (Or.inl rfl) (fun h => h) (by exact Nat.le_of_ble_eq_true rfl) ?_
        obtain ⟨v10, e9, h⟩ := gz_bd h
        refine gz_useI (c_X12_ofFamily e9) ?_
        refine gz_iload_n (pc := 34) dX12_lastsOf_34 rfl ?_
        have kj11 : gzX g 0 (d + 9) mX12_lastsOf 44 [some (.inr (.inr (0, 47))), some (.inl x1), some (.inl x2), some (.inl x3), some (.inl x4)] ([.inl (if v10 ≤ x2 then ((-1) : Int32) else x4)]) (gzN, gzR0, I, J) 0 (gzE (.ok (some (.inl r.1))) (gzN, gzR0, r.2.1, r.2.2)) := by
          refine gz_istore_n (pc := 44) dX12_lastsOf_44 (by decide) rfl (loc2 := [some (.inr (.inr (0, 47))), some (.inl x1), some (.inl x2), some (.inl (if v10 ≤ x2 then ((-1) : Int32) else x4)), some (.inl x4)]) rfl ?_
          refine gz_aload_n (pc := 45) dX12_lastsOf_45 rfl ?_
          refine gz_iconst (pc := 46) dX12_lastsOf_46 (v := 1) (by decide) ?_
          refine gz_V (zy := mX12_oneSeason) (zc := 0) (pc := 47) [.inl 1] rfl dX12_lastsOf_47 lkX12_358 MvX12_oneSeason rfl z_0_47 rfl rfl rfl (Or.inl rfl) (fun h => h) (by exact Nat.le_of_ble_eq_true rfl) ?_
          obtain ⟨v13, e12, h⟩ := gz_bd h
          refine gz_useI (c_X12_oneSeason e12) ?_
          refine gz_popI (pc := 50) dX12_lastsOf_50  ?_
          refine gz_iinc (pc := 51) dX12_lastsOf_51 (x := x4) (v := x4 + 1) rfl (by rw [show Int32.ofInt 1 = 1 by decide]) (by decide) rfl (loc2 := [some (.inr (.inr (0, 47))), some (.inl x1), some (.inl x2), some (.inl (if v10 ≤ x2 then ((-1) : Int32) else x4)), some (.inl (x4 + 1))]) rfl ?_
          refine gz_goto (pc := 54) (tgt := 16) dX12_lastsOf_54 (by decide) ?_
          exact ih x1 x2 (if v10 ≤ x2 then ((-1) : Int32) else x4) (x4 + 1) v13.2.1 v13.2.2 h
        refine gz_ic_le (pc := 35) (tgt := 43) dX12_lastsOf_35 (by decide) (fun c => ?_) (fun c => ?_)
        · rw [if_pos c] at kj11
          refine gz_iconst (pc := 43) dX12_lastsOf_43 (v := (-1)) (by decide) ?_
          exact kj11
        · rw [if_neg c] at kj11
          refine gz_iload (pc := 38) dX12_lastsOf_38 rfl ?_
          refine gz_goto (pc := 40) (tgt := 44) dX12_lastsOf_40 (by decide) ?_
          exact kj11
def f_X12_lastsOf (φ : Nat) (a1 : Int32) (I : gzIT) (J : gzJT) : Option (Int32 × gzIT × gzJT) := Option.bind (f_X12_ofFamily I a1 3) (fun v2 => Option.bind (f_X12_keepsAll φ I J) (fun v4 => f_X12_lastsOf_16 φ φ a1 v2 (-1) 0 v4.2.1 v4.2.2))
set_option maxRecDepth 20000 in
theorem c_X12_lastsOf {g : gzG} {d φ : Nat} {a1 : Int32} {I : gzIT} {J : gzJT} {r : Int32 × gzIT × gzJT} (h : f_X12_lastsOf φ a1 I J = some r) : gzC g 0 (d + 9) mX12_lastsOf [.inr (.inr (0, 47)), .inl a1] (gzN, gzR0, I, J) (gzE (.ok (some (.inl r.1))) (gzN, gzR0, r.2.1, r.2.2)) := by
  unfold f_X12_lastsOf at h
  refine gzC_of (by decide +kernel) (Nat.le_of_ble_eq_true rfl) (loc := [some (.inr (.inr (0, 47))), some (.inl a1), none, none, none]) rfl ?_
  have z_0_47 : gzOk 0 47 gzN := gzOk_of (by decide)
  refine gz_aload_n (pc := 0) dX12_lastsOf_0 rfl ?_
  refine gz_iload_n (pc := 1) dX12_lastsOf_1 rfl ?_
  refine gz_iconst (pc := 2) dX12_lastsOf_2 (v := 3) (by decide) ?_
  refine gz_V (zy := mX12_ofFamily) (zc := 0) (pc := 3) [.inl a1, .inl 3] rfl dX12_lastsOf_3 lkX12_272 MvX12_ofFamily rfl z_0_47 rfl rfl rfl (Or.inl rfl) (fun h => h) (by exact Nat.le_of_ble_eq_true rfl) ?_
  obtain ⟨v2, e1, h⟩ := gz_bd h
  refine gz_useI (c_X12_ofFamily e1) ?_
  refine gz_istore_n (pc := 6) dX12_lastsOf_6 (by decide) rfl (loc2 := [some (.inr (.inr (0, 47))), some (.inl a1), some (.inl v2), none, none]) rfl ?_
  refine gz_iconst (pc := 7) dX12_lastsOf_7 (v := (-1)) (by decide) ?_
  refine gz_istore_n (pc := 8) dX12_lastsOf_8 (by decide) rfl (loc2 := [some (.inr (.inr (0, 47))), some (.inl a1), some (.inl v2), some (.inl (-1)), none]) rfl ?_
  refine gz_aload_n (pc := 9) dX12_lastsOf_9 rfl ?_
  refine gz_V (zy := mX12_keepsAll) (zc := 0) (pc := 10) [] rfl dX12_lastsOf_10 lkX12_371 MvX12_keepsAll rfl z_0_47 rfl rfl rfl (Or.inl rfl) (fun h => h) (by exact Nat.le_of_ble_eq_true rfl) ?_
  obtain ⟨v4, e3, h⟩ := gz_bd h
  refine gz_useV (c_X12_keepsAll e3) ?_
  refine gz_iconst (pc := 13) dX12_lastsOf_13 (v := 0) (by decide) ?_
  refine gz_istore (pc := 14) dX12_lastsOf_14 (by decide) rfl (loc2 := [some (.inr (.inr (0, 47))), some (.inl a1), some (.inl v2), some (.inl (-1)), some (.inl 0)]) rfl ?_
  exact p_X12_lastsOf_16 φ a1 v2 (-1) 0 v4.2.1 v4.2.2 h
/-! X12_family: family -/
def f_X12_family (φ : Nat) (a1 : Int32) (a2 : Int32) (I : gzIT) (J : gzJT) : Option (Int32 × gzIT × gzJT) := Option.bind (f_X12_noFamily (gz_ui I 0 47 0 0) a1) (fun v2 => Option.bind (f_X12_throwsIf v2 1 (gz_ui I 0 47 0 0) J) (fun v4 => if ¬ v4.1 = 0 then (some (0, v4.2.1, v4.2.2)) else (Option.bind (f_X12_in a2 0 6) (fun v6 => Option.bind (f_X12_throwsIf (if ¬ v6 = 0 then (0 : Int32) else 1) 2 v4.2.1 v4.2.2) (fun v9 => if v9.1 = 0 then (if a2 = 4 then (Option.bind (f_X12_givesOf φ v9.2.1 a1) (fun v11 => some (v11, v9.2.1, v9.2.2))) else (if a2 = 5 then (Option.bind (f_X12_lastsOf φ a1 v9.2.1 v9.2.2) (fun v13 => some (v13.1, v13.2.1, v13.2.2))) else (if a2 = 6 then (Option.bind (f_X12_givesOf φ v9.2.1 a1) (fun v15 => Option.bind (f_X12_ofFamily v9.2.1 a1 0) (fun v18 => Option.bind (f_X12_ofFamily v9.2.1 a1 3) (fun v20 => some ((if 0 < ((v15 / 10) + v18) - v20 then ((v15 / 10) + v18) - v20 else 0), v9.2.1, v9.2.2))))) else (Option.bind (f_X12_ofFamily v9.2.1 a1 a2) (fun v22 => some (v22, v9.2.1, v9.2.2)))))) else (some (0, v9.2.1, v9.2.2)))))))
set_option maxRecDepth 20000 in
theorem c_X12_family {g : gzG} {d φ : Nat} {a1 : Int32} {a2 : Int32} {I : gzIT} {J : gzJT} {r : Int32 × gzIT × gzJT} (h : f_X12_family φ a1 a2 I J = some r) : gzC g 0 (d + 10) mX12_family [.inr (.inr (0, 47)), .inl a1, .inl a2] (gzN, gzR0, I, J) (gzE (.ok (some (.inl r.1))) (gzN, gzR0, r.2.1, r.2.2)) := by
  unfold f_X12_family at h
  refine gzC_of (by decide +kernel) (Nat.le_of_ble_eq_true rfl) (loc := [some (.inr (.inr (0, 47))), some (.inl a1), some (.inl a2)]) rfl ?_
  have z_0_47 : gzOk 0 47 gzN := gzOk_of (by decide)
  refine gz_aload_n (pc := 0) dX12_family_0 rfl ?_
  refine gz_iconst (pc := 1) dX12_family_1 (v := 0) (by decide) ?_
  refine gp_X12_3 (pc := 2) dX12_family_2 z_0_47 rfl ?_
  refine gz_aload_n (pc := 5) dX12_family_5 rfl ?_
  refine gz_aload_n (pc := 6) dX12_family_6 rfl ?_
  refine gz_iload_n (pc := 7) dX12_family_7 rfl ?_
  refine gz_V (zy := mX12_noFamily) (zc := 0) (pc := 8) [.inl a1] rfl dX12_family_8 lkX12_301 MvX12_noFamily rfl z_0_47 rfl rfl rfl (Or.inl rfl) (fun h => h) (by exact Nat.le_of_ble_eq_true rfl) ?_
  obtain ⟨v2, e1, h⟩ := gz_bd h
  refine gz_useI (c_X12_noFamily e1) ?_
  refine gz_iconst (pc := 11) dX12_family_11 (v := 1) (by decide) ?_
  refine gz_V (zy := mX12_throwsIf) (zc := 0) (pc := 12) [.inl v2, .inl 1] rfl dX12_family_12 lkX12_269 MvX12_throwsIf rfl z_0_47 rfl rfl rfl (Or.inl rfl) (fun h => h) (by exact Nat.le_of_ble_eq_true rfl) ?_
  obtain ⟨v4, e3, h⟩ := gz_bd h
  refine gz_useI (c_X12_throwsIf e3) ?_
  refine gz_if_ne (pc := 15) (tgt := 41) dX12_family_15 (by decide) (fun c => ?_) (fun c => ?_)
  · replace h := gz_ifp c h
    refine gz_iconst (pc := 41) dX12_family_41 (v := 0) (by decide) ?_
    cases h; exact gz_iret (pc := 42) dX12_family_42 rfl ⟨rfl, rfl⟩
  · replace h := gz_ifn (fun q => q c) h
    refine gz_aload_n (pc := 18) dX12_family_18 rfl ?_
    refine gz_iload_n (pc := 19) dX12_family_19 rfl ?_
    refine gz_iconst (pc := 20) dX12_family_20 (v := 0) (by decide) ?_
    refine gz_bipush (pc := 21) dX12_family_21 (v := 6) (by decide) ?_
    refine gz_S (zy := mX12_in) (zc := 0) (pc := 23) [.inl a2, .inl 0, .inl 6] rfl dX12_family_23 lkX12_84 MsX12_in rfl (Or.inl rfl) (fun h => h) (by exact Nat.le_of_ble_eq_true rfl) ?_
    obtain ⟨v6, e5, h⟩ := gz_bd h
    refine gz_useI (c_X12_in e5) ?_
    have kj7 : gzX g 0 (d + 10) mX12_family 34 [some (.inr (.inr (0, 47))), some (.inl a1), some (.inl a2)] ([.inl (if ¬ v6 = 0 then (0 : Int32) else 1), .inr (.inr (0, 47))]) (gzN, gzR0, v4.2.1, v4.2.2) 0 (gzE (.ok (some (.inl r.1))) (gzN, gzR0, r.2.1, r.2.2)) := by
      refine gz_iconst (pc := 34) dX12_family_34 (v := 2) (by decide) ?_
      refine gz_V (zy := mX12_throwsIf) (zc := 0) (pc := 35) [.inl (if ¬ v6 = 0 then (0 : Int32) else 1), .inl 2] rfl dX12_family_35 lkX12_269 MvX12_throwsIf rfl z_0_47 rfl rfl rfl (Or.inl rfl) (fun h => h) (by exact Nat.le_of_ble_eq_true rfl) ?_
      obtain ⟨v9, e8, h⟩ := gz_bd h
      refine gz_useI (c_X12_throwsIf e8) ?_
      refine gz_if_eq (pc := 38) (tgt := 43) dX12_family_38 (by decide) (fun c => ?_) (fun c => ?_)
      · replace h := gz_ifp c h
        refine gz_iload_n (pc := 43) dX12_family_43 rfl ?_
        by_cases c0 : a2 = 4
        · replace h := gz_ifp c0 h
          refine gz_swIn (pc := 44) (tgt := 72) (off := 28) dX12_family_44 (by rw [c0]; decide) (by rw [c0]; decide) (by rw [c0]; rfl) (by decide) ?_
          refine gz_aload_n (pc := 72) dX12_family_72 rfl ?_
          refine gz_iload_n (pc := 73) dX12_family_73 rfl ?_
          refine gz_V (zy := mX12_givesOf) (zc := 0) (pc := 74) [.inl a1] rfl dX12_family_74 lkX12_304 MvX12_givesOf rfl z_0_47 rfl rfl rfl (Or.inl rfl) (fun h => h) (by exact Nat.le_of_ble_eq_true rfl) ?_
          obtain ⟨v11, e10, h⟩ := gz_bd h
          refine gz_useI (c_X12_givesOf e10) ?_
          cases h; exact gz_iret (pc := 77) dX12_family_77 rfl ⟨rfl, rfl⟩
        replace h := gz_ifn c0 h
        by_cases c1 : a2 = 5
        · replace h := gz_ifp c1 h
          refine gz_swIn (pc := 44) (tgt := 78) (off := 34) dX12_family_44 (by rw [c1]; decide) (by rw [c1]; decide) (by rw [c1]; rfl) (by decide) ?_
          refine gz_aload_n (pc := 78) dX12_family_78 rfl ?_
          refine gz_iload_n (pc := 79) dX12_family_79 rfl ?_
          refine gz_V (zy := mX12_lastsOf) (zc := 0) (pc := 80) [.inl a1] rfl dX12_family_80 lkX12_307 MvX12_lastsOf rfl z_0_47 rfl rfl rfl (Or.inl rfl) (fun h => h) (by exact Nat.le_of_ble_eq_true rfl) ?_
          obtain ⟨v13, e12, h⟩ := gz_bd h
          refine gz_useI (c_X12_lastsOf e12) ?_
          cases h; exact gz_iret (pc := 83) dX12_family_83 rfl ⟨rfl, rfl⟩
        replace h := gz_ifn c1 h
        by_cases c2 : a2 = 6
        · replace h := gz_ifp c2 h
          refine gz_swIn (pc := 44) (tgt := 84) (off := 40) dX12_family_44 (by rw [c2]; decide) (by rw [c2]; decide) (by rw [c2]; rfl) (by decide) ?_
          refine gz_iconst (pc := 84) dX12_family_84 (v := 0) (by decide) ?_
          refine gz_aload_n (pc := 85) dX12_family_85 rfl ?_
          refine gz_iload_n (pc := 86) dX12_family_86 rfl ?_
          refine gz_V (zy := mX12_givesOf) (zc := 0) (pc := 87) [.inl a1] rfl dX12_family_87 lkX12_304 MvX12_givesOf rfl z_0_47 rfl rfl rfl (Or.inl rfl) (fun h => h) (by exact Nat.le_of_ble_eq_true rfl) ?_
          obtain ⟨v15, e14, h⟩ := gz_bd h
          refine gz_useI (c_X12_givesOf e14) ?_
          refine gz_bipush (pc := 90) dX12_family_90 (v := 10) (by decide) ?_
          refine gz_idiv (pc := 92) dX12_family_92 (by decide) ?_
          refine gz_aload_n (pc := 93) dX12_family_93 rfl ?_
          refine gz_iload_n (pc := 94) dX12_family_94 rfl ?_
          refine gz_iconst (pc := 95) dX12_family_95 (v := 0) (by decide) ?_
          refine gz_V (zy := mX12_ofFamily) (zc := 0) (pc := 96) [.inl a1, .inl 0] rfl dX12_family_96 lkX12_272 MvX12_ofFamily rfl z_0_47 rfl rfl rfl (Or.inl rfl) (fun h => h) (by exact Nat.le_of_ble_eq_true rfl) ?_
          obtain ⟨v18, e17, h⟩ := gz_bd h
          refine gz_useI (c_X12_ofFamily e17) ?_
          refine gz_iadd (pc := 99) dX12_family_99  ?_
          refine gz_aload_n (pc := 100) dX12_family_100 rfl ?_
          refine gz_iload_n (pc := 101) dX12_family_101 rfl ?_
          refine gz_iconst (pc := 102) dX12_family_102 (v := 3) (by decide) ?_
          refine gz_V (zy := mX12_ofFamily) (zc := 0) (pc := 103) [.inl a1, .inl 3] rfl dX12_family_103 lkX12_272 MvX12_ofFamily rfl z_0_47 rfl rfl rfl (Or.inl rfl) (fun h => h) (by exact Nat.le_of_ble_eq_true rfl) ?_
          obtain ⟨v20, e19, h⟩ := gz_bd h
          refine gz_useI (c_X12_ofFamily e19) ?_
          refine gz_isub (pc := 106) dX12_family_106  ?_
          refine gx_X12_310 (pc := 107) dX12_family_107 (Nat.le_of_ble_eq_true rfl) rfl ?_
          cases h; exact gz_iret (pc := 110) dX12_family_110 rfl ⟨rfl, rfl⟩
        replace h := gz_ifn c2 h
        refine gz_swOut (pc := 44) (tgt := 111) dX12_family_44 (gz_sw4_3 c0 c1 c2) (by decide) ?_
        refine gz_aload_n (pc := 111) dX12_family_111 rfl ?_
        refine gz_iload_n (pc := 112) dX12_family_112 rfl ?_
        refine gz_iload_n (pc := 113) dX12_family_113 rfl ?_
        refine gz_V (zy := mX12_ofFamily) (zc := 0) (pc := 114) [.inl a1, .inl a2] rfl dX12_family_114 lkX12_272 MvX12_ofFamily rfl z_0_47 rfl rfl rfl (Or.inl rfl) (fun h => h) (by exact Nat.le_of_ble_eq_true rfl) ?_
        obtain ⟨v22, e21, h⟩ := gz_bd h
        refine gz_useI (c_X12_ofFamily e21) ?_
        cases h; exact gz_iret (pc := 117) dX12_family_117 rfl ⟨rfl, rfl⟩
      · replace h := gz_ifn c h
        refine gz_iconst (pc := 41) dX12_family_41 (v := 0) (by decide) ?_
        cases h; exact gz_iret (pc := 42) dX12_family_42 rfl ⟨rfl, rfl⟩
    refine gz_if_ne (pc := 26) (tgt := 33) dX12_family_26 (by decide) (fun c => ?_) (fun c => ?_)
    · rw [if_pos c] at kj7
      refine gz_iconst (pc := 33) dX12_family_33 (v := 0) (by decide) ?_
      exact kj7
    · rw [if_neg (show ¬ (¬ v6 = 0) from fun q => q c)] at kj7
      refine gz_iconst (pc := 29) dX12_family_29 (v := 1) (by decide) ?_
      refine gz_goto (pc := 30) (tgt := 34) dX12_family_30 (by decide) ?_
      exact kj7
/-! X12_grudge: grudge -/
def f_X12_grudge (φ : Nat) (a1 : Int32) (a2 : Int32) (I : gzIT) (J : gzJT) : Option (Int32 × gzIT × gzJT) := Option.bind (f_X12_noGrudge (gz_ui I 0 47 0 0) a1) (fun v2 => Option.bind (f_X12_throwsIf v2 1 (gz_ui I 0 47 0 0) J) (fun v4 => if ¬ v4.1 = 0 then (some (0, v4.2.1, v4.2.2)) else (Option.bind (f_X12_in a2 0 10) (fun v6 => Option.bind (f_X12_throwsIf (if ¬ v6 = 0 then (0 : Int32) else 1) 2 v4.2.1 v4.2.2) (fun v9 => if v9.1 = 0 then (if a2 = 7 then (Option.bind (f_X12_byLaw φ 0 a1 v9.2.1 v9.2.2) (fun v11 => some (v11.1, v11.2.1, v11.2.2))) else (if a2 = 8 then (Option.bind (f_X12_byLaw φ 1 a1 v9.2.1 v9.2.2) (fun v13 => some (v13.1, v13.2.1, v13.2.2))) else (if a2 = 9 then (Option.bind (f_X12_byLaw φ 2 a1 v9.2.1 v9.2.2) (fun v15 => some (v15.1, v15.2.1, v15.2.2))) else (if a2 = 10 then (Option.bind (f_X12_shareOf φ v9.2.1 a1) (fun v17 => some (v17, v9.2.1, v9.2.2))) else (Option.bind (f_X12_of v9.2.1 a1 a2) (fun v19 => some (v19, v9.2.1, v9.2.2))))))) else (some (0, v9.2.1, v9.2.2)))))))
set_option maxRecDepth 20000 in
theorem c_X12_grudge {g : gzG} {d φ : Nat} {a1 : Int32} {a2 : Int32} {I : gzIT} {J : gzJT} {r : Int32 × gzIT × gzJT} (h : f_X12_grudge φ a1 a2 I J = some r) : gzC g 0 (d + 7) mX12_grudge [.inr (.inr (0, 47)), .inl a1, .inl a2] (gzN, gzR0, I, J) (gzE (.ok (some (.inl r.1))) (gzN, gzR0, r.2.1, r.2.2)) := by
  unfold f_X12_grudge at h
  refine gzC_of (by decide +kernel) (Nat.le_of_ble_eq_true rfl) (loc := [some (.inr (.inr (0, 47))), some (.inl a1), some (.inl a2)]) rfl ?_
  have z_0_47 : gzOk 0 47 gzN := gzOk_of (by decide)
  refine gz_aload_n (pc := 0) dX12_grudge_0 rfl ?_
  refine gz_iconst (pc := 1) dX12_grudge_1 (v := 0) (by decide) ?_
  refine gp_X12_3 (pc := 2) dX12_grudge_2 z_0_47 rfl ?_
  refine gz_aload_n (pc := 5) dX12_grudge_5 rfl ?_
  refine gz_aload_n (pc := 6) dX12_grudge_6 rfl ?_
  refine gz_iload_n (pc := 7) dX12_grudge_7 rfl ?_
  refine gz_V (zy := mX12_noGrudge) (zc := 0) (pc := 8) [.inl a1] rfl dX12_grudge_8 lkX12_315 MvX12_noGrudge rfl z_0_47 rfl rfl rfl (Or.inl rfl) (fun h => h) (by exact Nat.le_of_ble_eq_true rfl) ?_
  obtain ⟨v2, e1, h⟩ := gz_bd h
  refine gz_useI (c_X12_noGrudge e1) ?_
  refine gz_iconst (pc := 11) dX12_grudge_11 (v := 1) (by decide) ?_
  refine gz_V (zy := mX12_throwsIf) (zc := 0) (pc := 12) [.inl v2, .inl 1] rfl dX12_grudge_12 lkX12_269 MvX12_throwsIf rfl z_0_47 rfl rfl rfl (Or.inl rfl) (fun h => h) (by exact Nat.le_of_ble_eq_true rfl) ?_
  obtain ⟨v4, e3, h⟩ := gz_bd h
  refine gz_useI (c_X12_throwsIf e3) ?_
  refine gz_if_ne (pc := 15) (tgt := 41) dX12_grudge_15 (by decide) (fun c => ?_) (fun c => ?_)
  · replace h := gz_ifp c h
    refine gz_iconst (pc := 41) dX12_grudge_41 (v := 0) (by decide) ?_
    cases h; exact gz_iret (pc := 42) dX12_grudge_42 rfl ⟨rfl, rfl⟩
  · replace h := gz_ifn (fun q => q c) h
    refine gz_aload_n (pc := 18) dX12_grudge_18 rfl ?_
    refine gz_iload_n (pc := 19) dX12_grudge_19 rfl ?_
    refine gz_iconst (pc := 20) dX12_grudge_20 (v := 0) (by decide) ?_
    refine gz_bipush (pc := 21) dX12_grudge_21 (v := 10) (by decide) ?_
    refine gz_S (zy := mX12_in) (zc := 0) (pc := 23) [.inl a2, .inl 0, .inl 10] rfl dX12_grudge_23 lkX12_84 MsX12_in rfl (Or.inl rfl) (fun h => h) (by exact Nat.le_of_ble_eq_true rfl) ?_
    obtain ⟨v6, e5, h⟩ := gz_bd h
    refine gz_useI (c_X12_in e5) ?_
    have kj7 : gzX g 0 (d + 7) mX12_grudge 34 [some (.inr (.inr (0, 47))), some (.inl a1), some (.inl a2)] ([.inl (if ¬ v6 = 0 then (0 : Int32) else 1), .inr (.inr (0, 47))]) (gzN, gzR0, v4.2.1, v4.2.2) 0 (gzE (.ok (some (.inl r.1))) (gzN, gzR0, r.2.1, r.2.2)) := by
      refine gz_iconst (pc := 34) dX12_grudge_34 (v := 2) (by decide) ?_
      refine gz_V (zy := mX12_throwsIf) (zc := 0) (pc := 35) [.inl (if ¬ v6 = 0 then (0 : Int32) else 1), .inl 2] rfl dX12_grudge_35 lkX12_269 MvX12_throwsIf rfl z_0_47 rfl rfl rfl (Or.inl rfl) (fun h => h) (by exact Nat.le_of_ble_eq_true rfl) ?_
      obtain ⟨v9, e8, h⟩ := gz_bd h
      refine gz_useI (c_X12_throwsIf e8) ?_
      refine gz_if_eq (pc := 38) (tgt := 43) dX12_grudge_38 (by decide) (fun c => ?_) (fun c => ?_)
      · replace h := gz_ifp c h
        refine gz_iload_n (pc := 43) dX12_grudge_43 rfl ?_
        by_cases c0 : a2 = 7
        · replace h := gz_ifp c0 h
          refine gz_swIn (pc := 44) (tgt := 76) (off := 32) dX12_grudge_44 (by rw [c0]; decide) (by rw [c0]; decide) (by rw [c0]; rfl) (by decide) ?_
          refine gz_aload_n (pc := 76) dX12_grudge_76 rfl ?_
          refine gz_iconst (pc := 77) dX12_grudge_77 (v := 0) (by decide) ?_
          refine gz_iload_n (pc := 78) dX12_grudge_78 rfl ?_
          refine gz_V (zy := mX12_byLaw) (zc := 0) (pc := 79) [.inl 0, .inl a1] rfl dX12_grudge_79 lkX12_318 MvX12_byLaw rfl z_0_47 rfl rfl rfl (Or.inl rfl) (fun h => h) (by exact Nat.le_of_ble_eq_true rfl) ?_
          obtain ⟨v11, e10, h⟩ := gz_bd h
          refine gz_useI (c_X12_byLaw e10) ?_
          cases h; exact gz_iret (pc := 82) dX12_grudge_82 rfl ⟨rfl, rfl⟩
        replace h := gz_ifn c0 h
        by_cases c1 : a2 = 8
        · replace h := gz_ifp c1 h
          refine gz_swIn (pc := 44) (tgt := 83) (off := 39) dX12_grudge_44 (by rw [c1]; decide) (by rw [c1]; decide) (by rw [c1]; rfl) (by decide) ?_
          refine gz_aload_n (pc := 83) dX12_grudge_83 rfl ?_
          refine gz_iconst (pc := 84) dX12_grudge_84 (v := 1) (by decide) ?_
          refine gz_iload_n (pc := 85) dX12_grudge_85 rfl ?_
          refine gz_V (zy := mX12_byLaw) (zc := 0) (pc := 86) [.inl 1, .inl a1] rfl dX12_grudge_86 lkX12_318 MvX12_byLaw rfl z_0_47 rfl rfl rfl (Or.inl rfl) (fun h => h) (by exact Nat.le_of_ble_eq_true rfl) ?_
          obtain ⟨v13, e12, h⟩ := gz_bd h
          refine gz_useI (c_X12_byLaw e12) ?_
          cases h; exact gz_iret (pc := 89) dX12_grudge_89 rfl ⟨rfl, rfl⟩
        replace h := gz_ifn c1 h
        by_cases c2 : a2 = 9
        · replace h := gz_ifp c2 h
          refine gz_swIn (pc := 44) (tgt := 90) (off := 46) dX12_grudge_44 (by rw [c2]; decide) (by rw [c2]; decide) (by rw [c2]; rfl) (by decide) ?_
          refine gz_aload_n (pc := 90) dX12_grudge_90 rfl ?_
          refine gz_iconst (pc := 91) dX12_grudge_91 (v := 2) (by decide) ?_
          refine gz_iload_n (pc := 92) dX12_grudge_92 rfl ?_
          refine gz_V (zy := mX12_byLaw) (zc := 0) (pc := 93) [.inl 2, .inl a1] rfl dX12_grudge_93 lkX12_318 MvX12_byLaw rfl z_0_47 rfl rfl rfl (Or.inl rfl) (fun h => h) (by exact Nat.le_of_ble_eq_true rfl) ?_
          obtain ⟨v15, e14, h⟩ := gz_bd h
          refine gz_useI (c_X12_byLaw e14) ?_
          cases h; exact gz_iret (pc := 96) dX12_grudge_96 rfl ⟨rfl, rfl⟩
        replace h := gz_ifn c2 h
        by_cases c3 : a2 = 10
        · replace h := gz_ifp c3 h
          refine gz_swIn (pc := 44) (tgt := 97) (off := 53) dX12_grudge_44 (by rw [c3]; decide) (by rw [c3]; decide) (by rw [c3]; rfl) (by decide) ?_
          refine gz_aload_n (pc := 97) dX12_grudge_97 rfl ?_
          refine gz_iload_n (pc := 98) dX12_grudge_98 rfl ?_
          refine gz_V (zy := mX12_shareOf) (zc := 0) (pc := 99) [.inl a1] rfl dX12_grudge_99 lkX12_321 MvX12_shareOf rfl z_0_47 rfl rfl rfl (Or.inl rfl) (fun h => h) (by exact Nat.le_of_ble_eq_true rfl) ?_
          obtain ⟨v17, e16, h⟩ := gz_bd h
          refine gz_useI (c_X12_shareOf e16) ?_
          cases h; exact gz_iret (pc := 102) dX12_grudge_102 rfl ⟨rfl, rfl⟩
        replace h := gz_ifn c3 h
        refine gz_swOut (pc := 44) (tgt := 103) dX12_grudge_44 (gz_sw7_4 c0 c1 c2 c3) (by decide) ?_
        refine gz_aload_n (pc := 103) dX12_grudge_103 rfl ?_
        refine gz_iload_n (pc := 104) dX12_grudge_104 rfl ?_
        refine gz_iload_n (pc := 105) dX12_grudge_105 rfl ?_
        refine gz_V (zy := mX12_of) (zc := 0) (pc := 106) [.inl a1, .inl a2] rfl dX12_grudge_106 lkX12_70 MvX12_of rfl z_0_47 rfl rfl rfl (Or.inl rfl) (fun h => h) (by exact Nat.le_of_ble_eq_true rfl) ?_
        obtain ⟨v19, e18, h⟩ := gz_bd h
        refine gz_useI (c_X12_of e18) ?_
        cases h; exact gz_iret (pc := 109) dX12_grudge_109 rfl ⟨rfl, rfl⟩
      · replace h := gz_ifn c h
        refine gz_iconst (pc := 41) dX12_grudge_41 (v := 0) (by decide) ?_
        cases h; exact gz_iret (pc := 42) dX12_grudge_42 rfl ⟨rfl, rfl⟩
    refine gz_if_ne (pc := 26) (tgt := 33) dX12_grudge_26 (by decide) (fun c => ?_) (fun c => ?_)
    · rw [if_pos c] at kj7
      refine gz_iconst (pc := 33) dX12_grudge_33 (v := 0) (by decide) ?_
      exact kj7
    · rw [if_neg (show ¬ (¬ v6 = 0) from fun q => q c)] at kj7
      refine gz_iconst (pc := 29) dX12_grudge_29 (v := 1) (by decide) ?_
      refine gz_goto (pc := 30) (tgt := 34) dX12_grudge_30 (by decide) ?_
      exact kj7
/-! X12_thoseOver: thoseOver -/
def gP_X12_thoseOver_4 (g : gzG) (d : Nat) (r : Int32) (x1 : Int32) (x2 : Int32) (x3 : Int32) (I : gzIT) (J : gzJT) : Prop := gzX g 0 (d + 3) mX12_thoseOver 4 [some (.inr (.inr (0, 47))), some (.inl x1), some (.inl x2), some (.inl x3)] [] (gzN, gzR0, I, J) 0 (gzE (.ok (some (.inl r))) (gzN, gzR0, I, J))
def f_X12_thoseOver_4 (φ : Nat) (I : gzIT) : Nat → Int32 → Int32 → Int32 → Option Int32
  | 0, _, _, _ => none
  | k + 1, x1, x2, x3 => Option.bind (f_X12_grudges I) (fun v2 => if v2 ≤ x3 then (some x2) else (Option.bind (f_X12_isThawed I x3) (fun v4 => if ¬ v4 = 0 then (f_X12_thoseOver_4 φ I k x1 (x2 ||| 0) (x3 + 1)) else (Option.bind (f_X12_of I x3 2) (fun v6 => if ¬ v6 = x1 then (f_X12_thoseOver_4 φ I k x1 (x2 ||| 0) (x3 + 1)) else (f_X12_thoseOver_4 φ I k x1 (x2 ||| ((1 : Int32) <<< (x3 &&& 31))) (x3 + 1)))))))
set_option maxRecDepth 20000 in
theorem p_X12_thoseOver_4 {g : gzG} {d φ : Nat} {I : gzIT} {J : gzJT} {r : Int32} : ∀ (k : Nat) (x1 : Int32) (x2 : Int32) (x3 : Int32), f_X12_thoseOver_4 φ I k x1 x2 x3 = some r → gP_X12_thoseOver_4 g d r x1 x2 x3 I J := by
  intro k; induction k with
  | zero => intro x1 x2 x3 h; cases h
  | succ k ih =>
    intro x1 x2 x3 h
    unfold f_X12_thoseOver_4 at h
    unfold gP_X12_thoseOver_4
    have z_0_47 : gzOk 0 47 gzN := gzOk_of (by decide)
    refine gz_iload_n (pc := 4) dX12_thoseOver_4 rfl ?_
    refine gz_aload_n (pc := 5) dX12_thoseOver_5 rfl ?_
    refine gz_V (zy := mX12_grudges) (zc := 0) (pc := 6) [] rfl dX12_thoseOver_6 lkX12_73 MvX12_grudges rfl z_0_47 rfl rfl rfl (Or.inl rfl) (fun h => h) (by exact Nat.le_of_ble_eq_true rfl) ?_
    obtain ⟨v2, e1, h⟩ := gz_bd h
    refine gz_useI (c_X12_grudges e1) ?_
    refine gz_ic_ge (pc := 9) (tgt := 46) dX12_thoseOver_9 (by decide) (fun c => ?_) (fun c => ?_)
    · replace h := gz_ifp c h
      refine gz_iload_n (pc := 46) dX12_thoseOver_46 rfl ?_
      cases h; exact gz_iret (pc := 47) dX12_thoseOver_47 rfl ⟨rfl, rfl⟩
    · replace h := gz_ifn c h
      refine gz_iload_n (pc := 12) dX12_thoseOver_12 rfl ?_
      refine gz_aload_n (pc := 13) dX12_thoseOver_13 rfl ?_
      refine gz_iload_n (pc := 14) dX12_thoseOver_14 rfl ?_
      refine gz_V (zy := mX12_isThawed) (zc := 0) (pc := 15) [.inl x3] rfl dX12_thoseOver_15 lkX12_76 MvX12_isThawed rfl z_0_47 rfl rfl rfl (Or.inl rfl) (fun h => h) (by exact Nat.le_of_ble_eq_true rfl) ?_
      obtain ⟨v4, e3, h⟩ := gz_bd h
      refine gz_useI (c_X12_isThawed e3) ?_
      refine gz_if_ne (pc := 18) (tgt := 37) dX12_thoseOver_18 (by decide) (fun c => ?_) (fun c => ?_)
      · replace h := gz_ifp c h
        refine gz_iconst (pc := 37) dX12_thoseOver_37 (v := 0) (by decide) ?_
        refine gz_ior (pc := 38) dX12_thoseOver_38  ?_
        refine gz_istore_n (pc := 39) dX12_thoseOver_39 (by decide) rfl (loc2 := [some (.inr (.inr (0, 47))), some (.inl x1), some (.inl (x2 ||| 0)), some (.inl x3)]) rfl ?_
        refine gz_iinc (pc := 40) dX12_thoseOver_40 (x := x3) (v := x3 + 1) rfl (by rw [show Int32.ofInt 1 = 1 by decide]) (by decide) rfl (loc2 := [some (.inr (.inr (0, 47))), some (.inl x1), some (.inl (x2 ||| 0)), some (.inl (x3 + 1))]) rfl ?_
        refine gz_goto (pc := 43) (tgt := 4) dX12_thoseOver_43 (by decide) ?_
        exact ih x1 (x2 ||| 0) (x3 + 1) h
      · replace h := gz_ifn (fun q => q c) h
        refine gz_aload_n (pc := 21) dX12_thoseOver_21 rfl ?_
        refine gz_iload_n (pc := 22) dX12_thoseOver_22 rfl ?_
        refine gz_iconst (pc := 23) dX12_thoseOver_23 (v := 2) (by decide) ?_
        refine gz_V (zy := mX12_of) (zc := 0) (pc := 24) [.inl x3, .inl 2] rfl dX12_thoseOver_24 lkX12_70 MvX12_of rfl z_0_47 rfl rfl rfl (Or.inl rfl) (fun h => h) (by exact Nat.le_of_ble_eq_true rfl) ?_
        obtain ⟨v6, e5, h⟩ := gz_bd h
        refine gz_useI (c_X12_of e5) ?_
        refine gz_iload_n (pc := 27) dX12_thoseOver_27 rfl ?_
        refine gz_ic_ne (pc := 28) (tgt := 37) dX12_thoseOver_28 (by decide) (fun c => ?_) (fun c => ?_)
        · replace h := gz_ifp c h
          refine gz_iconst (pc := 37) dX12_thoseOver_37 (v := 0) (by decide) ?_
          refine gz_ior (pc := 38) dX12_thoseOver_38  ?_
          refine gz_istore_n (pc := 39) dX12_thoseOver_39 (by decide) rfl (loc2 := [some (.inr (.inr (0, 47))), some (.inl x1), some (.inl (x2 ||| 0)), some (.inl x3)]) rfl ?_
          refine gz_iinc (pc := 40) dX12_thoseOver_40 (x := x3) (v := x3 + 1) rfl (by rw [show Int32.ofInt 1 = 1 by decide]) (by decide) rfl (loc2 := [some (.inr (.inr (0, 47))), some (.inl x1), some (.inl (x2 ||| 0)), some (.inl (x3 + 1))]) rfl ?_
          refine gz_goto (pc := 43) (tgt := 4) dX12_thoseOver_43 (by decide) ?_
          exact ih x1 (x2 ||| 0) (x3 + 1) h
        · replace h := gz_ifn (fun q => q c) h
          refine gz_iconst (pc := 31) dX12_thoseOver_31 (v := 1) (by decide) ?_
          refine gz_iload_n (pc := 32) dX12_thoseOver_32 rfl ?_
          refine gz_ishl (pc := 33) dX12_thoseOver_33  ?_
          refine gz_goto (pc := 34) (tgt := 38) dX12_thoseOver_34 (by decide) ?_
          refine gz_ior (pc := 38) dX12_thoseOver_38  ?_
          refine gz_istore_n (pc := 39) dX12_thoseOver_39 (by decide) rfl (loc2 := [some (.inr (.inr (0, 47))), some (.inl x1), some (.inl (x2 ||| ((1 : Int32) <<< (x3 &&& 31)))), some (.inl x3)]) rfl ?_
          refine gz_iinc (pc := 40) dX12_thoseOver_40 (x := x3) (v := x3 + 1) rfl (by rw [show Int32.ofInt 1 = 1 by decide]) (by decide) rfl (loc2 := [some (.inr (.inr (0, 47))), some (.inl x1), some (.inl (x2 ||| ((1 : Int32) <<< (x3 &&& 31)))), some (.inl (x3 + 1))]) rfl ?_
          refine gz_goto (pc := 43) (tgt := 4) dX12_thoseOver_43 (by decide) ?_
          exact ih x1 (x2 ||| ((1 : Int32) <<< (x3 &&& 31))) (x3 + 1) h
def f_X12_thoseOver (φ : Nat) (I : gzIT) (a1 : Int32) : Option Int32 := f_X12_thoseOver_4 φ I φ a1 0 0
set_option maxRecDepth 20000 in
theorem c_X12_thoseOver {g : gzG} {d φ : Nat} {a1 : Int32} {I : gzIT} {J : gzJT} {r : Int32} (h : f_X12_thoseOver φ I a1 = some r) : gzC g 0 (d + 3) mX12_thoseOver [.inr (.inr (0, 47)), .inl a1] (gzN, gzR0, I, J) (gzE (.ok (some (.inl r))) (gzN, gzR0, I, J)) := by
  unfold f_X12_thoseOver at h
  refine gzC_of (by decide +kernel) (Nat.le_of_ble_eq_true rfl) (loc := [some (.inr (.inr (0, 47))), some (.inl a1), none, none]) rfl ?_
  refine gz_iconst (pc := 0) dX12_thoseOver_0 (v := 0) (by decide) ?_
  refine gz_istore_n (pc := 1) dX12_thoseOver_1 (by decide) rfl (loc2 := [some (.inr (.inr (0, 47))), some (.inl a1), some (.inl 0), none]) rfl ?_
  refine gz_iconst (pc := 2) dX12_thoseOver_2 (v := 0) (by decide) ?_
  refine gz_istore_n (pc := 3) dX12_thoseOver_3 (by decide) rfl (loc2 := [some (.inr (.inr (0, 47))), some (.inl a1), some (.inl 0), some (.inl 0)]) rfl ?_
  exact p_X12_thoseOver_4 φ a1 0 0 h
/-! X12_slight: slight -/
def f_X12_slight (φ : Nat) (a1 : Int32) (a2 : Int32) (I : gzIT) (J : gzJT) : Option (Int32 × gzIT × gzJT) := Option.bind (f_X12_noSlight a1) (fun v2 => Option.bind (f_X12_throwsIf v2 1 (gz_ui I 0 47 0 0) J) (fun v4 => if ¬ v4.1 = 0 then (some (0, v4.2.1, v4.2.2)) else (Option.bind (f_X12_in a2 0 2) (fun v6 => Option.bind (f_X12_throwsIf (if ¬ v6 = 0 then (0 : Int32) else 1) 2 v4.2.1 v4.2.2) (fun v9 => if v9.1 = 0 then (if ¬ a2 = 2 then (gzGd ((14 + (2 * a1)) + a2) 2062 (some ((v9.2.1 0 48 (((14 + (2 * a1)) + a2).toNatClampNeg)), v9.2.1, v9.2.2))) else (Option.bind (f_X12_thoseOver φ v9.2.1 a1) (fun v12 => some (v12, v9.2.1, v9.2.2)))) else (some (0, v9.2.1, v9.2.2)))))))
set_option maxRecDepth 20000 in
theorem c_X12_slight {g : gzG} {d φ : Nat} {a1 : Int32} {a2 : Int32} {I : gzIT} {J : gzJT} {r : Int32 × gzIT × gzJT} (h : f_X12_slight φ a1 a2 I J = some r) : gzC g 0 (d + 4) mX12_slight [.inr (.inr (0, 47)), .inl a1, .inl a2] (gzN, gzR0, I, J) (gzE (.ok (some (.inl r.1))) (gzN, gzR0, r.2.1, r.2.2)) := by
  unfold f_X12_slight at h
  refine gzC_of (by decide +kernel) (Nat.le_of_ble_eq_true rfl) (loc := [some (.inr (.inr (0, 47))), some (.inl a1), some (.inl a2)]) rfl ?_
  have z_0_47 : gzOk 0 47 gzN := gzOk_of (by decide)
  have z_0_48 : gzOk 0 48 gzN := gzOk_of (by decide)
  refine gz_aload_n (pc := 0) dX12_slight_0 rfl ?_
  refine gz_iconst (pc := 1) dX12_slight_1 (v := 0) (by decide) ?_
  refine gp_X12_3 (pc := 2) dX12_slight_2 z_0_47 rfl ?_
  refine gz_aload_n (pc := 5) dX12_slight_5 rfl ?_
  refine gz_iload_n (pc := 6) dX12_slight_6 rfl ?_
  refine gz_S (zy := mX12_noSlight) (zc := 0) (pc := 7) [.inl a1] rfl dX12_slight_7 lkX12_324 MsX12_noSlight rfl (Or.inl rfl) (fun h => h) (by exact Nat.le_of_ble_eq_true rfl) ?_
  obtain ⟨v2, e1, h⟩ := gz_bd h
  refine gz_useI (c_X12_noSlight e1) ?_
  refine gz_iconst (pc := 10) dX12_slight_10 (v := 1) (by decide) ?_
  refine gz_V (zy := mX12_throwsIf) (zc := 0) (pc := 11) [.inl v2, .inl 1] rfl dX12_slight_11 lkX12_269 MvX12_throwsIf rfl z_0_47 rfl rfl rfl (Or.inl rfl) (fun h => h) (by exact Nat.le_of_ble_eq_true rfl) ?_
  obtain ⟨v4, e3, h⟩ := gz_bd h
  refine gz_useI (c_X12_throwsIf e3) ?_
  refine gz_if_ne (pc := 14) (tgt := 39) dX12_slight_14 (by decide) (fun c => ?_) (fun c => ?_)
  · replace h := gz_ifp c h
    refine gz_iconst (pc := 39) dX12_slight_39 (v := 0) (by decide) ?_
    cases h; exact gz_iret (pc := 40) dX12_slight_40 rfl ⟨rfl, rfl⟩
  · replace h := gz_ifn (fun q => q c) h
    refine gz_aload_n (pc := 17) dX12_slight_17 rfl ?_
    refine gz_iload_n (pc := 18) dX12_slight_18 rfl ?_
    refine gz_iconst (pc := 19) dX12_slight_19 (v := 0) (by decide) ?_
    refine gz_iconst (pc := 20) dX12_slight_20 (v := 2) (by decide) ?_
    refine gz_S (zy := mX12_in) (zc := 0) (pc := 21) [.inl a2, .inl 0, .inl 2] rfl dX12_slight_21 lkX12_84 MsX12_in rfl (Or.inl rfl) (fun h => h) (by exact Nat.le_of_ble_eq_true rfl) ?_
    obtain ⟨v6, e5, h⟩ := gz_bd h
    refine gz_useI (c_X12_in e5) ?_
    have kj7 : gzX g 0 (d + 4) mX12_slight 32 [some (.inr (.inr (0, 47))), some (.inl a1), some (.inl a2)] ([.inl (if ¬ v6 = 0 then (0 : Int32) else 1), .inr (.inr (0, 47))]) (gzN, gzR0, v4.2.1, v4.2.2) 0 (gzE (.ok (some (.inl r.1))) (gzN, gzR0, r.2.1, r.2.2)) := by
      refine gz_iconst (pc := 32) dX12_slight_32 (v := 2) (by decide) ?_
      refine gz_V (zy := mX12_throwsIf) (zc := 0) (pc := 33) [.inl (if ¬ v6 = 0 then (0 : Int32) else 1), .inl 2] rfl dX12_slight_33 lkX12_269 MvX12_throwsIf rfl z_0_47 rfl rfl rfl (Or.inl rfl) (fun h => h) (by exact Nat.le_of_ble_eq_true rfl) ?_
      obtain ⟨v9, e8, h⟩ := gz_bd h
      refine gz_useI (c_X12_throwsIf e8) ?_
      refine gz_if_eq (pc := 36) (tgt := 41) dX12_slight_36 (by decide) (fun c => ?_) (fun c => ?_)
      · replace h := gz_ifp c h
        refine gz_iload_n (pc := 41) dX12_slight_41 rfl ?_
        refine gz_iconst (pc := 42) dX12_slight_42 (v := 2) (by decide) ?_
        refine gz_ic_ne (pc := 43) (tgt := 54) dX12_slight_43 (by decide) (fun c => ?_) (fun c => ?_)
        · replace h := gz_ifp c h
          refine gz_aload_n (pc := 54) dX12_slight_54 rfl ?_
          refine gr_X12_13 (pc := 55) dX12_slight_55 z_0_47 rfl ?_
          refine gz_bipush (pc := 58) dX12_slight_58 (v := 14) (by decide) ?_
          refine gz_iconst (pc := 60) dX12_slight_60 (v := 2) (by decide) ?_
          refine gz_iload_n (pc := 61) dX12_slight_61 rfl ?_
          refine gz_imul (pc := 62) dX12_slight_62  ?_
          refine gz_iadd (pc := 63) dX12_slight_63  ?_
          refine gz_iload_n (pc := 64) dX12_slight_64 rfl ?_
          refine gz_iadd (pc := 65) dX12_slight_65  ?_
          obtain ⟨b10, h⟩ := gz_gd h
          refine gz_iald2 (pc := 66) dX12_slight_66 (k := ((14 + (2 * a1)) + a2).toNatClampNeg) (v := v9.2.1 0 48 (((14 + (2 * a1)) + a2).toNatClampNeg)) z_0_48 rfl b10 rfl rfl ?_
          cases h; exact gz_iret (pc := 67) dX12_slight_67 rfl ⟨rfl, rfl⟩
        · replace h := gz_ifn (fun q => q c) h
          refine gz_aload_n (pc := 46) dX12_slight_46 rfl ?_
          refine gz_iload_n (pc := 47) dX12_slight_47 rfl ?_
          refine gz_V (zy := mX12_thoseOver) (zc := 0) (pc := 48) [.inl a1] rfl dX12_slight_48 lkX12_327 MvX12_thoseOver rfl z_0_47 rfl rfl rfl (Or.inl rfl) (fun h => h) (by exact Nat.le_of_ble_eq_true rfl) ?_
          obtain ⟨v12, e11, h⟩ := gz_bd h
          refine gz_useI (c_X12_thoseOver e11) ?_
          refine gz_goto (pc := 51) (tgt := 67) dX12_slight_51 (by decide) ?_
          cases h; exact gz_iret (pc := 67) dX12_slight_67 rfl ⟨rfl, rfl⟩
      · replace h := gz_ifn c h
        refine gz_iconst (pc := 39) dX12_slight_39 (v := 0) (by decide) ?_
        cases h; exact gz_iret (pc := 40) dX12_slight_40 rfl ⟨rfl, rfl⟩
    refine gz_if_ne (pc := 24) (tgt := 31) dX12_slight_24 (by decide) (fun c => ?_) (fun c => ?_)
    · rw [if_pos c] at kj7
      refine gz_iconst (pc := 31) dX12_slight_31 (v := 0) (by decide) ?_
      exact kj7
    · rw [if_neg (show ¬ (¬ v6 = 0) from fun q => q c)] at kj7
      refine gz_iconst (pc := 27) dX12_slight_27 (v := 1) (by decide) ?_
      refine gz_goto (pc := 28) (tgt := 32) dX12_slight_28 (by decide) ?_
      exact kj7
/-! X12_heat: heat -/
def f_X12_heat (a1 : Int32) (I : gzIT) (J : gzJT) : Option (Int32 × gzIT × gzJT) := Option.bind (f_X12_in a1 0 3) (fun v2 => Option.bind (f_X12_throwsIf (if ¬ v2 = 0 then (0 : Int32) else 1) 1 (gz_ui I 0 47 0 0) J) (fun v5 => if v5.1 = 0 then (gzGd (10 + a1) 2062 (some ((v5.2.1 0 48 ((10 + a1).toNatClampNeg)), v5.2.1, v5.2.2))) else (some (0, v5.2.1, v5.2.2))))
set_option maxRecDepth 20000 in
theorem c_X12_heat {g : gzG} {d : Nat} {a1 : Int32} {I : gzIT} {J : gzJT} {r : Int32 × gzIT × gzJT} (h : f_X12_heat a1 I J = some r) : gzC g 0 (d + 1) mX12_heat [.inr (.inr (0, 47)), .inl a1] (gzN, gzR0, I, J) (gzE (.ok (some (.inl r.1))) (gzN, gzR0, r.2.1, r.2.2)) := by
  unfold f_X12_heat at h
  refine gzC_of (by decide +kernel) (Nat.le_of_ble_eq_true rfl) (loc := [some (.inr (.inr (0, 47))), some (.inl a1)]) rfl ?_
  have z_0_47 : gzOk 0 47 gzN := gzOk_of (by decide)
  have z_0_48 : gzOk 0 48 gzN := gzOk_of (by decide)
  refine gz_aload_n (pc := 0) dX12_heat_0 rfl ?_
  refine gz_iconst (pc := 1) dX12_heat_1 (v := 0) (by decide) ?_
  refine gp_X12_3 (pc := 2) dX12_heat_2 z_0_47 rfl ?_
  refine gz_aload_n (pc := 5) dX12_heat_5 rfl ?_
  refine gz_iload_n (pc := 6) dX12_heat_6 rfl ?_
  refine gz_iconst (pc := 7) dX12_heat_7 (v := 0) (by decide) ?_
  refine gz_iconst (pc := 8) dX12_heat_8 (v := 3) (by decide) ?_
  refine gz_S (zy := mX12_in) (zc := 0) (pc := 9) [.inl a1, .inl 0, .inl 3] rfl dX12_heat_9 lkX12_84 MsX12_in rfl (Or.inl rfl) (fun h => h) (by exact Nat.le_of_ble_eq_true rfl) ?_
  obtain ⟨v2, e1, h⟩ := gz_bd h
  refine gz_useI (c_X12_in e1) ?_
  have kj3 : gzX g 0 (d + 1) mX12_heat 20 [some (.inr (.inr (0, 47))), some (.inl a1)] ([.inl (if ¬ v2 = 0 then (0 : Int32) else 1), .inr (.inr (0, 47))]) (gzN, gzR0, gz_ui I 0 47 0 0, J) 0 (gzE (.ok (some (.inl r.1))) (gzN, gzR0, r.2.1, r.2.2)) := by
    refine gz_iconst (pc := 20) dX12_heat_20 (v := 1) (by decide) ?_
    refine gz_V (zy := mX12_throwsIf) (zc := 0) (pc := 21) [.inl (if ¬ v2 = 0 then (0 : Int32) else 1), .inl 1] rfl dX12_heat_21 lkX12_269 MvX12_throwsIf rfl z_0_47 rfl rfl rfl (Or.inl rfl) (fun h => h) (by exact Nat.le_of_ble_eq_true rfl) ?_
    obtain ⟨v5, e4, h⟩ := gz_bd h
    refine gz_useI (c_X12_throwsIf e4) ?_
    refine gz_if_eq (pc := 24) (tgt := 31) dX12_heat_24 (by decide) (fun c => ?_) (fun c => ?_)
    · replace h := gz_ifp c h
      refine gz_aload_n (pc := 31) dX12_heat_31 rfl ?_
      refine gr_X12_13 (pc := 32) dX12_heat_32 z_0_47 rfl ?_
      refine gz_bipush (pc := 35) dX12_heat_35 (v := 10) (by decide) ?_
      refine gz_iload_n (pc := 37) dX12_heat_37 rfl ?_
      refine gz_iadd (pc := 38) dX12_heat_38  ?_
      obtain ⟨b6, h⟩ := gz_gd h
      refine gz_iald2 (pc := 39) dX12_heat_39 (k := (10 + a1).toNatClampNeg) (v := v5.2.1 0 48 ((10 + a1).toNatClampNeg)) z_0_48 rfl b6 rfl rfl ?_
      cases h; exact gz_iret (pc := 40) dX12_heat_40 rfl ⟨rfl, rfl⟩
    · replace h := gz_ifn c h
      refine gz_iconst (pc := 27) dX12_heat_27 (v := 0) (by decide) ?_
      refine gz_goto (pc := 28) (tgt := 40) dX12_heat_28 (by decide) ?_
      cases h; exact gz_iret (pc := 40) dX12_heat_40 rfl ⟨rfl, rfl⟩
  refine gz_if_ne (pc := 12) (tgt := 19) dX12_heat_12 (by decide) (fun c => ?_) (fun c => ?_)
  · rw [if_pos c] at kj3
    refine gz_iconst (pc := 19) dX12_heat_19 (v := 0) (by decide) ?_
    exact kj3
  · rw [if_neg (show ¬ (¬ v2 = 0) from fun q => q c)] at kj3
    refine gz_iconst (pc := 15) dX12_heat_15 (v := 1) (by decide) ?_
    refine gz_goto (pc := 16) (tgt := 20) dX12_heat_16 (by decide) ?_
    exact kj3
/-! X12_goesOn: goesOn -/
def gP_X12_goesOn_5 (g : gzG) (d : Nat) (r : Int32 × gzIT × gzJT) (x1 : Int32) (x2 : Int32) (x3 : Int32) (x4 : Int32) (I : gzIT) (J : gzJT) : Prop := gzX g 0 (d + 9) mX12_goesOn 5 [some (.inr (.inr (0, 47))), some (.inl x1), some (.inl x2), some (.inl x3), some (.inl x4)] [] (gzN, gzR0, I, J) 0 (gzE (.ok (some (.inl r.1))) (gzN, gzR0, r.2.1, r.2.2))
def f_X12_goesOn_5 (φ : Nat) : Nat → Int32 → Int32 → Int32 → Int32 → gzIT → gzJT → Option (Int32 × gzIT × gzJT)
  | 0, _, _, _, _, _, _ => none
  | k + 1, x1, x2, x3, x4, I, J => if x1 ≤ x4 then (some (x3, I, J)) else (Option.bind (f_X12_oneSeason φ x2 I J) (fun v2 => f_X12_goesOn_5 φ k x1 x2 (x3 + v2.1) (x4 + 1) v2.2.1 v2.2.2))
set_option maxRecDepth 20000 in
theorem p_X12_goesOn_5 {g : gzG} {d φ : Nat} {r : Int32 × gzIT × gzJT} : ∀ (k : Nat) (x1 : Int32) (x2 : Int32) (x3 : Int32) (x4 : Int32) (I : gzIT) (J : gzJT), f_X12_goesOn_5 φ k x1 x2 x3 x4 I J = some r → gP_X12_goesOn_5 g d r x1 x2 x3 x4 I J := by
  intro k; induction k with
  | zero => intro x1 x2 x3 x4 I J h; cases h
  | succ k ih =>
    intro x1 x2 x3 x4 I J h
    unfold f_X12_goesOn_5 at h
    unfold gP_X12_goesOn_5
    have z_0_47 : gzOk 0 47 gzN := gzOk_of (by decide)
    refine gz_iload (pc := 5) dX12_goesOn_5 rfl ?_
    refine gz_iload_n (pc := 7) dX12_goesOn_7 rfl ?_
    refine gz_ic_ge (pc := 8) (tgt := 25) dX12_goesOn_8 (by decide) (fun c => ?_) (fun c => ?_)
    · replace h := gz_ifp c h
      refine gz_iload_n (pc := 25) dX12_goesOn_25 rfl ?_
      cases h; exact gz_iret (pc := 26) dX12_goesOn_26 rfl ⟨rfl, rfl⟩
    · replace h := gz_ifn c h
      refine gz_iload_n (pc := 11) dX12_goesOn_11 rfl ?_
      refine gz_aload_n (pc := 12) dX12_goesOn_12 rfl ?_
      refine gz_iload_n (pc := 13) dX12_goesOn_13 rfl ?_
      refine gz_V (zy := mX12_oneSeason) (zc := 0) (pc := 14) [.inl x2] rfl dX12_goesOn_14 lkX12_358 MvX12_oneSeason rfl z_0_47 rfl rfl rfl (Or.inl rfl) (fun h => h) (by exact Nat.le_of_ble_eq_true rfl) ?_
      obtain ⟨v2, e1, h⟩ := gz_bd h
      refine gz_useI (c_X12_oneSeason e1) ?_
      refine gz_iadd (pc := 17) dX12_goesOn_17  ?_
      refine gz_istore_n (pc := 18) dX12_goesOn_18 (by decide) rfl (loc2 := [some (.inr (.inr (0, 47))), some (.inl x1), some (.inl x2), some (.inl (x3 + v2.1)), some (.inl x4)]) rfl ?_
      refine gz_iinc (pc := 19) dX12_goesOn_19 (x := x4) (v := x4 + 1) rfl (by rw [show Int32.ofInt 1 = 1 by decide]) (by decide) rfl (loc2 := [some (.inr (.inr (0, 47))), some (.inl x1), some (.inl x2), some (.inl (x3 + v2.1)), some (.inl (x4 + 1))]) rfl ?_
      refine gz_goto (pc := 22) (tgt := 5) dX12_goesOn_22 (by decide) ?_
      exact ih x1 x2 (x3 + v2.1) (x4 + 1) v2.2.1 v2.2.2 h
def f_X12_goesOn (φ : Nat) (a1 : Int32) (a2 : Int32) (I : gzIT) (J : gzJT) : Option (Int32 × gzIT × gzJT) := f_X12_goesOn_5 φ φ a1 a2 0 0 I J
set_option maxRecDepth 20000 in
theorem c_X12_goesOn {g : gzG} {d φ : Nat} {a1 : Int32} {a2 : Int32} {I : gzIT} {J : gzJT} {r : Int32 × gzIT × gzJT} (h : f_X12_goesOn φ a1 a2 I J = some r) : gzC g 0 (d + 9) mX12_goesOn [.inr (.inr (0, 47)), .inl a1, .inl a2] (gzN, gzR0, I, J) (gzE (.ok (some (.inl r.1))) (gzN, gzR0, r.2.1, r.2.2)) := by
  unfold f_X12_goesOn at h
  refine gzC_of (by decide +kernel) (Nat.le_of_ble_eq_true rfl) (loc := [some (.inr (.inr (0, 47))), some (.inl a1), some (.inl a2), none, none]) rfl ?_
  refine gz_iconst (pc := 0) dX12_goesOn_0 (v := 0) (by decide) ?_
  refine gz_istore_n (pc := 1) dX12_goesOn_1 (by decide) rfl (loc2 := [some (.inr (.inr (0, 47))), some (.inl a1), some (.inl a2), some (.inl 0), none]) rfl ?_
  refine gz_iconst (pc := 2) dX12_goesOn_2 (v := 0) (by decide) ?_
  refine gz_istore (pc := 3) dX12_goesOn_3 (by decide) rfl (loc2 := [some (.inr (.inr (0, 47))), some (.inl a1), some (.inl a2), some (.inl 0), some (.inl 0)]) rfl ?_
  exact p_X12_goesOn_5 φ a1 a2 0 0 I J h
/-! X12_seasons: seasons -/
def f_X12_seasons (φ : Nat) (a1 : Int32) (I : gzIT) (J : gzJT) : Option (Int32 × gzIT × gzJT) := Option.bind (f_X12_in a1 1 60) (fun v2 => Option.bind (f_X12_throwsIf (if ¬ v2 = 0 then (0 : Int32) else 1) 1 (gz_ui I 0 47 0 0) J) (fun v5 => if v5.1 = 0 then (Option.bind (f_X12_remembers φ v5.2.1 v5.2.2) (fun v7 => Option.bind (f_X12_goesOn φ a1 0 v7.2.1 v7.2.2) (fun v9 => some (v9.1, v9.2.1, v9.2.2)))) else (some (0, v5.2.1, v5.2.2))))
set_option maxRecDepth 20000 in
theorem c_X12_seasons {g : gzG} {d φ : Nat} {a1 : Int32} {I : gzIT} {J : gzJT} {r : Int32 × gzIT × gzJT} (h : f_X12_seasons φ a1 I J = some r) : gzC g 0 (d + 10) mX12_seasons [.inr (.inr (0, 47)), .inl a1] (gzN, gzR0, I, J) (gzE (.ok (some (.inl r.1))) (gzN, gzR0, r.2.1, r.2.2)) := by
  unfold f_X12_seasons at h
  refine gzC_of (by decide +kernel) (Nat.le_of_ble_eq_true rfl) (loc := [some (.inr (.inr (0, 47))), some (.inl a1)]) rfl ?_
  have z_0_47 : gzOk 0 47 gzN := gzOk_of (by decide)
  refine gz_aload_n (pc := 0) dX12_seasons_0 rfl ?_
  refine gz_iconst (pc := 1) dX12_seasons_1 (v := 0) (by decide) ?_
  refine gp_X12_3 (pc := 2) dX12_seasons_2 z_0_47 rfl ?_
  refine gz_aload_n (pc := 5) dX12_seasons_5 rfl ?_
  refine gz_iload_n (pc := 6) dX12_seasons_6 rfl ?_
  refine gz_iconst (pc := 7) dX12_seasons_7 (v := 1) (by decide) ?_
  refine gz_bipush (pc := 8) dX12_seasons_8 (v := 60) (by decide) ?_
  refine gz_S (zy := mX12_in) (zc := 0) (pc := 10) [.inl a1, .inl 1, .inl 60] rfl dX12_seasons_10 lkX12_84 MsX12_in rfl (Or.inl rfl) (fun h => h) (by exact Nat.le_of_ble_eq_true rfl) ?_
  obtain ⟨v2, e1, h⟩ := gz_bd h
  refine gz_useI (c_X12_in e1) ?_
  have kj3 : gzX g 0 (d + 10) mX12_seasons 21 [some (.inr (.inr (0, 47))), some (.inl a1)] ([.inl (if ¬ v2 = 0 then (0 : Int32) else 1), .inr (.inr (0, 47))]) (gzN, gzR0, gz_ui I 0 47 0 0, J) 0 (gzE (.ok (some (.inl r.1))) (gzN, gzR0, r.2.1, r.2.2)) := by
    refine gz_iconst (pc := 21) dX12_seasons_21 (v := 1) (by decide) ?_
    refine gz_V (zy := mX12_throwsIf) (zc := 0) (pc := 22) [.inl (if ¬ v2 = 0 then (0 : Int32) else 1), .inl 1] rfl dX12_seasons_22 lkX12_269 MvX12_throwsIf rfl z_0_47 rfl rfl rfl (Or.inl rfl) (fun h => h) (by exact Nat.le_of_ble_eq_true rfl) ?_
    obtain ⟨v5, e4, h⟩ := gz_bd h
    refine gz_useI (c_X12_throwsIf e4) ?_
    refine gz_if_eq (pc := 25) (tgt := 30) dX12_seasons_25 (by decide) (fun c => ?_) (fun c => ?_)
    · replace h := gz_ifp c h
      refine gz_aload_n (pc := 30) dX12_seasons_30 rfl ?_
      refine gz_V (zy := mX12_remembers) (zc := 0) (pc := 31) [] rfl dX12_seasons_31 lkX12_361 MvX12_remembers rfl z_0_47 rfl rfl rfl (Or.inl rfl) (fun h => h) (by exact Nat.le_of_ble_eq_true rfl) ?_
      obtain ⟨v7, e6, h⟩ := gz_bd h
      refine gz_useV (c_X12_remembers e6) ?_
      refine gz_aload_n (pc := 34) dX12_seasons_34 rfl ?_
      refine gz_iload_n (pc := 35) dX12_seasons_35 rfl ?_
      refine gz_iconst (pc := 36) dX12_seasons_36 (v := 0) (by decide) ?_
      refine gz_V (zy := mX12_goesOn) (zc := 0) (pc := 37) [.inl a1, .inl 0] rfl dX12_seasons_37 lkX12_364 MvX12_goesOn rfl z_0_47 rfl rfl rfl (Or.inl rfl) (fun h => h) (by exact Nat.le_of_ble_eq_true rfl) ?_
      obtain ⟨v9, e8, h⟩ := gz_bd h
      refine gz_useI (c_X12_goesOn e8) ?_
      cases h; exact gz_iret (pc := 40) dX12_seasons_40 rfl ⟨rfl, rfl⟩
    · replace h := gz_ifn c h
      refine gz_iconst (pc := 28) dX12_seasons_28 (v := 0) (by decide) ?_
      cases h; exact gz_iret (pc := 29) dX12_seasons_29 rfl ⟨rfl, rfl⟩
  refine gz_if_ne (pc := 13) (tgt := 20) dX12_seasons_13 (by decide) (fun c => ?_) (fun c => ?_)
  · rw [if_pos c] at kj3
    refine gz_iconst (pc := 20) dX12_seasons_20 (v := 0) (by decide) ?_
    exact kj3
  · rw [if_neg (show ¬ (¬ v2 = 0) from fun q => q c)] at kj3
    refine gz_iconst (pc := 16) dX12_seasons_16 (v := 1) (by decide) ?_
    refine gz_goto (pc := 17) (tgt := 21) dX12_seasons_17 (by decide) ?_
    exact kj3
/-! X12_grudgeOf: grudgeOf -/
def gP_X12_grudgeOf_2 (g : gzG) (d : Nat) (r : Int32) (x1 : Int32) (x2 : Int32) (x3 : Int32) (I : gzIT) (J : gzJT) : Prop := gzX g 0 (d + 3) mX12_grudgeOf 2 [some (.inr (.inr (0, 47))), some (.inl x1), some (.inl x2), some (.inl x3)] [] (gzN, gzR0, I, J) 0 (gzE (.ok (some (.inl r))) (gzN, gzR0, I, J))
def f_X12_grudgeOf_2 (φ : Nat) (I : gzIT) : Nat → Int32 → Int32 → Int32 → Option Int32
  | 0, _, _, _ => none
  | k + 1, x1, x2, x3 => Option.bind (f_X12_grudges I) (fun v2 => if v2 ≤ x3 then (some (-1)) else (Option.bind (f_X12_isThawed I x3) (fun v4 => if ¬ v4 = 0 then (f_X12_grudgeOf_2 φ I k x1 x2 (x3 + 1)) else (Option.bind (f_X12_of I x3 0) (fun v6 => if ¬ v6 = x1 then (f_X12_grudgeOf_2 φ I k x1 x2 (x3 + 1)) else (Option.bind (f_X12_of I x3 1) (fun v8 => if ¬ v8 = x2 then (f_X12_grudgeOf_2 φ I k x1 x2 (x3 + 1)) else (some x3))))))))
set_option maxRecDepth 20000 in
theorem p_X12_grudgeOf_2 {g : gzG} {d φ : Nat} {I : gzIT} {J : gzJT} {r : Int32} : ∀ (k : Nat) (x1 : Int32) (x2 : Int32) (x3 : Int32), f_X12_grudgeOf_2 φ I k x1 x2 x3 = some r → gP_X12_grudgeOf_2 g d r x1 x2 x3 I J := by
  intro k; induction k with
  | zero => intro x1 x2 x3 h; cases h
  | succ k ih =>
    intro x1 x2 x3 h
    unfold f_X12_grudgeOf_2 at h
    unfold gP_X12_grudgeOf_2
    have z_0_47 : gzOk 0 47 gzN := gzOk_of (by decide)
    refine gz_iload_n (pc := 2) dX12_grudgeOf_2 rfl ?_
    refine gz_aload_n (pc := 3) dX12_grudgeOf_3 rfl ?_
    refine gz_V (zy := mX12_grudges) (zc := 0) (pc := 4) [] rfl dX12_grudgeOf_4 lkX12_73 MvX12_grudges rfl z_0_47 rfl rfl rfl (Or.inl rfl) (fun h => h) (by exact Nat.le_of_ble_eq_true rfl) ?_
    obtain ⟨v2, e1, h⟩ := gz_bd h
    refine gz_useI (c_X12_grudges e1) ?_
    refine gz_ic_ge (pc := 7) (tgt := 46) dX12_grudgeOf_7 (by decide) (fun c => ?_) (fun c => ?_)
    · replace h := gz_ifp c h
      refine gz_iconst (pc := 46) dX12_grudgeOf_46 (v := (-1)) (by decide) ?_
      cases h; exact gz_iret (pc := 47) dX12_grudgeOf_47 rfl ⟨rfl, rfl⟩
    · replace h := gz_ifn c h
      refine gz_aload_n (pc := 10) dX12_grudgeOf_10 rfl ?_
      refine gz_iload_n (pc := 11) dX12_grudgeOf_11 rfl ?_
      refine gz_V (zy := mX12_isThawed) (zc := 0) (pc := 12) [.inl x3] rfl dX12_grudgeOf_12 lkX12_76 MvX12_isThawed rfl z_0_47 rfl rfl rfl (Or.inl rfl) (fun h => h) (by exact Nat.le_of_ble_eq_true rfl) ?_
      obtain ⟨v4, e3, h⟩ := gz_bd h
      refine gz_useI (c_X12_isThawed e3) ?_
      refine gz_if_ne (pc := 15) (tgt := 40) dX12_grudgeOf_15 (by decide) (fun c => ?_) (fun c => ?_)
      · replace h := gz_ifp c h
        refine gz_iinc (pc := 40) dX12_grudgeOf_40 (x := x3) (v := x3 + 1) rfl (by rw [show Int32.ofInt 1 = 1 by decide]) (by decide) rfl (loc2 := [some (.inr (.inr (0, 47))), some (.inl x1), some (.inl x2), some (.inl (x3 + 1))]) rfl ?_
        refine gz_goto (pc := 43) (tgt := 2) dX12_grudgeOf_43 (by decide) ?_
        exact ih x1 x2 (x3 + 1) h
      · replace h := gz_ifn (fun q => q c) h
        refine gz_aload_n (pc := 18) dX12_grudgeOf_18 rfl ?_
        refine gz_iload_n (pc := 19) dX12_grudgeOf_19 rfl ?_
        refine gz_iconst (pc := 20) dX12_grudgeOf_20 (v := 0) (by decide) ?_
        refine gz_V (zy := mX12_of) (zc := 0) (pc := 21) [.inl x3, .inl 0] rfl dX12_grudgeOf_21 lkX12_70 MvX12_of rfl z_0_47 rfl rfl rfl (Or.inl rfl) (fun h => h) (by exact Nat.le_of_ble_eq_true rfl) ?_
        obtain ⟨v6, e5, h⟩ := gz_bd h
        refine gz_useI (c_X12_of e5) ?_
        refine gz_iload_n (pc := 24) dX12_grudgeOf_24 rfl ?_
        refine gz_ic_ne (pc := 25) (tgt := 40) dX12_grudgeOf_25 (by decide) (fun c => ?_) (fun c => ?_)
        · replace h := gz_ifp c h
          refine gz_iinc (pc := 40) dX12_grudgeOf_40 (x := x3) (v := x3 + 1) rfl (by rw [show Int32.ofInt 1 = 1 by decide]) (by decide) rfl (loc2 := [some (.inr (.inr (0, 47))), some (.inl x1), some (.inl x2), some (.inl (x3 + 1))]) rfl ?_
          refine gz_goto (pc := 43) (tgt := 2) dX12_grudgeOf_43 (by decide) ?_
          exact ih x1 x2 (x3 + 1) h
        · replace h := gz_ifn (fun q => q c) h
          refine gz_aload_n (pc := 28) dX12_grudgeOf_28 rfl ?_
          refine gz_iload_n (pc := 29) dX12_grudgeOf_29 rfl ?_
          refine gz_iconst (pc := 30) dX12_grudgeOf_30 (v := 1) (by decide) ?_
          refine gz_V (zy := mX12_of) (zc := 0) (pc := 31) [.inl x3, .inl 1] rfl dX12_grudgeOf_31 lkX12_70 MvX12_of rfl z_0_47 rfl rfl rfl (Or.inl rfl) (fun h => h) (by exact Nat.le_of_ble_eq_true rfl) ?_
          obtain ⟨v8, e7, h⟩ := gz_bd h
          refine gz_useI (c_X12_of e7) ?_
          refine gz_iload_n (pc := 34) dX12_grudgeOf_34 rfl ?_
          refine gz_ic_ne (pc := 35) (tgt := 40) dX12_grudgeOf_35 (by decide) (fun c => ?_) (fun c => ?_)
          · replace h := gz_ifp c h
            refine gz_iinc (pc := 40) dX12_grudgeOf_40 (x := x3) (v := x3 + 1) rfl (by rw [show Int32.ofInt 1 = 1 by decide]) (by decide) rfl (loc2 := [some (.inr (.inr (0, 47))), some (.inl x1), some (.inl x2), some (.inl (x3 + 1))]) rfl ?_
            refine gz_goto (pc := 43) (tgt := 2) dX12_grudgeOf_43 (by decide) ?_
            exact ih x1 x2 (x3 + 1) h
          · replace h := gz_ifn (fun q => q c) h
            refine gz_iload_n (pc := 38) dX12_grudgeOf_38 rfl ?_
            cases h; exact gz_iret (pc := 39) dX12_grudgeOf_39 rfl ⟨rfl, rfl⟩
def f_X12_grudgeOf (φ : Nat) (I : gzIT) (a1 : Int32) (a2 : Int32) : Option Int32 := f_X12_grudgeOf_2 φ I φ a1 a2 0
set_option maxRecDepth 20000 in
theorem c_X12_grudgeOf {g : gzG} {d φ : Nat} {a1 : Int32} {a2 : Int32} {I : gzIT} {J : gzJT} {r : Int32} (h : f_X12_grudgeOf φ I a1 a2 = some r) : gzC g 0 (d + 3) mX12_grudgeOf [.inr (.inr (0, 47)), .inl a1, .inl a2] (gzN, gzR0, I, J) (gzE (.ok (some (.inl r))) (gzN, gzR0, I, J)) := by
  unfold f_X12_grudgeOf at h
  refine gzC_of (by decide +kernel) (Nat.le_of_ble_eq_true rfl) (loc := [some (.inr (.inr (0, 47))), some (.inl a1), some (.inl a2), none]) rfl ?_
  refine gz_iconst (pc := 0) dX12_grudgeOf_0 (v := 0) (by decide) ?_
  refine gz_istore_n (pc := 1) dX12_grudgeOf_1 (by decide) rfl (loc2 := [some (.inr (.inr (0, 47))), some (.inl a1), some (.inl a2), some (.inl 0)]) rfl ?_
  exact p_X12_grudgeOf_2 φ a1 a2 0 h
/-! X12_insult: insult -/
def f_X12_insult (φ : Nat) (a1 : Int32) (a2 : Int32) (a3 : Int32) (I : gzIT) (J : gzJT) : Option (Int32 × gzIT × gzJT) := Option.bind (f_X12_noFamily (gz_ui I 0 47 0 0) a1) (fun v2 => if ¬ v2 = 0 then (Option.bind (f_X12_throwsIf 1 1 (gz_ui I 0 47 0 0) J) (fun v4 => if ¬ v4.1 = 0 then (some (0, v4.2.1, v4.2.2)) else (Option.bind (f_X12_throwsIf (if ¬ a1 = a2 then (0 : Int32) else 1) 2 v4.2.1 v4.2.2) (fun v7 => if v7.1 = 0 then (Option.bind (f_X12_grudgeOf φ v7.2.1 a1 a2) (fun v9 => if ¬ v9 = (-1) then (Option.bind (f_X12_throwsIf 0 3 v7.2.1 v7.2.2) (fun v11 => if v11.1 = 0 then (Option.bind (f_X12_remembers φ v11.2.1 v11.2.2) (fun v13 => gzGd ((14 + (2 * a3)) + 0) 2062 (if ¬ v9 = (-1) then (Option.bind (f_X12_at v9 4) (fun v16 => Option.bind (f_X12_adds v16 (10 + (v13.2.1 0 48 (((14 + (2 * a3)) + 0).toNatClampNeg))) 999 v13.2.1 v13.2.2) (fun v18 => Option.bind (f_X12_at v9 2) (fun v20 => gzGd (v20) 2062 (some (v9, gz_ui v18.2.1 0 48 v20.toNatClampNeg a3, v18.2.2)))))) else (Option.bind (f_X12_begins a1 a2 a3 (10 + (v13.2.1 0 48 (((14 + (2 * a3)) + 0).toNatClampNeg))) v13.2.1 v13.2.2) (fun v23 => Option.bind (f_X12_grudges v23.2.1) (fun v25 => some ((v25 - 1), v23.2.1, v23.2.2))))))) else (some (0, v11.2.1, v11.2.2)))) else (Option.bind (f_X12_grudges v7.2.1) (fun v27 => if ¬ v27 = 10 then (Option.bind (f_X12_throwsIf 0 3 v7.2.1 v7.2.2) (fun v29 => if v29.1 = 0 then (Option.bind (f_X12_remembers φ v29.2.1 v29.2.2) (fun v31 => gzGd ((14 + (2 * a3)) + 0) 2062 (if ¬ v9 = (-1) then (Option.bind (f_X12_at v9 4) (fun v34 => Option.bind (f_X12_adds v34 (10 + (v31.2.1 0 48 (((14 + (2 * a3)) + 0).toNatClampNeg))) 999 v31.2.1 v31.2.2) (fun v36 => Option.bind (f_X12_at v9 2) (fun v38 => gzGd (v38) 2062 (some (v9, gz_ui v36.2.1 0 48 v38.toNatClampNeg a3, v36.2.2)))))) else (Option.bind (f_X12_begins a1 a2 a3 (10 + (v31.2.1 0 48 (((14 + (2 * a3)) + 0).toNatClampNeg))) v31.2.1 v31.2.2) (fun v41 => Option.bind (f_X12_grudges v41.2.1) (fun v43 => some ((v43 - 1), v41.2.1, v41.2.2))))))) else (some (0, v29.2.1, v29.2.2)))) else (Option.bind (f_X12_throwsIf 1 3 v7.2.1 v7.2.2) (fun v45 => if v45.1 = 0 then (Option.bind (f_X12_remembers φ v45.2.1 v45.2.2) (fun v47 => gzGd ((14 + (2 * a3)) + 0) 2062 (if ¬ v9 = (-1) then (Option.bind (f_X12_at v9 4) (fun v50 => Option.bind (f_X12_adds v50 (10 + (v47.2.1 0 48 (((14 + (2 * a3)) + 0).toNatClampNeg))) 999 v47.2.1 v47.2.2) (fun v52 => Option.bind (f_X12_at v9 2) (fun v54 => gzGd (v54) 2062 (some (v9, gz_ui v52.2.1 0 48 v54.toNatClampNeg a3, v52.2.2)))))) else (Option.bind (f_X12_begins a1 a2 a3 (10 + (v47.2.1 0 48 (((14 + (2 * a3)) + 0).toNatClampNeg))) v47.2.1 v47.2.2) (fun v57 => Option.bind (f_X12_grudges v57.2.1) (fun v59 => some ((v59 - 1), v57.2.1, v57.2.2))))))) else (some (0, v45.2.1, v45.2.2)))))))) else (some (0, v7.2.1, v7.2.2)))))) else (Option.bind (f_X12_noFamily (gz_ui I 0 47 0 0) a2) (fun v61 => if ¬ v61 = 0 then (Option.bind (f_X12_throwsIf 1 1 (gz_ui I 0 47 0 0) J) (fun v63 => if ¬ v63.1 = 0 then (some (0, v63.2.1, v63.2.2)) else (Option.bind (f_X12_throwsIf (if ¬ a1 = a2 then (0 : Int32) else 1) 2 v63.2.1 v63.2.2) (fun v66 => if v66.1 = 0 then (Option.bind (f_X12_grudgeOf φ v66.2.1 a1 a2) (fun v68 => if ¬ v68 = (-1) then (Option.bind (f_X12_throwsIf 0 3 v66.2.1 v66.2.2) (fun v70 => if v70.1 = 0 then (Option.bind (f_X12_remembers φ v70.2.1 v70.2.2) (fun v72 => gzGd ((14 + (2 * a3)) + 0) 2062 (if ¬ v68 = (-1) then (Option.bind (f_X12_at v68 4) (fun v75 => Option.bind (f_X12_adds v75 (10 + (v72.2.1 0 48 (((14 + (2 * a3)) + 0).toNatClampNeg))) 999 v72.2.1 v72.2.2) (fun v77 => Option.bind (f_X12_at v68 2) (fun v79 => gzGd (v79) 2062 (some (v68, gz_ui v77.2.1 0 48 v79.toNatClampNeg a3, v77.2.2)))))) else (Option.bind (f_X12_begins a1 a2 a3 (10 + (v72.2.1 0 48 (((14 + (2 * a3)) + 0).toNatClampNeg))) v72.2.1 v72.2.2) (fun v82 => Option.bind (f_X12_grudges v82.2.1) (fun v84 => some ((v84 - 1), v82.2.1, v82.2.2))))))) else (some (0, v70.2.1, v70.2.2)))) else (Option.bind (f_X12_grudges v66.2.1) (fun v86 => if ¬ v86 = 10 then (Option.bind (f_X12_throwsIf 0 3 v66.2.1 v66.2.2) (fun v88 => if v88.1 = 0 then (Option.bind (f_X12_remembers φ v88.2.1 v88.2.2) (fun v90 => gzGd ((14 + (2 * a3)) + 0) 2062 (if ¬ v68 = (-1) then (Option.bind (f_X12_at v68 4) (fun v93 => Option.bind (f_X12_adds v93 (10 + (v90.2.1 0 48 (((14 + (2 * a3)) + 0).toNatClampNeg))) 999 v90.2.1 v90.2.2) (fun v95 => Option.bind (f_X12_at v68 2) (fun v97 => gzGd (v97) 2062 (some (v68, gz_ui v95.2.1 0 48 v97.toNatClampNeg a3, v95.2.2)))))) else (Option.bind (f_X12_begins a1 a2 a3 (10 + (v90.2.1 0 48 (((14 + (2 * a3)) + 0).toNatClampNeg))) v90.2.1 v90.2.2) (fun v100 => Option.bind (f_X12_grudges v100.2.1) (fun v102 => some ((v102 - 1), v100.2.1, v100.2.2))))))) else (some (0, v88.2.1, v88.2.2)))) else (Option.bind (f_X12_throwsIf 1 3 v66.2.1 v66.2.2) (fun v104 => if v104.1 = 0 then (Option.bind (f_X12_remembers φ v104.2.1 v104.2.2) (fun v106 => gzGd ((14 + (2 * a3)) + 0) 2062 (if ¬ v68 = (-1) then (Option.bind (f_X12_at v68 4) (fun v109 => Option.bind (f_X12_adds v109 (10 + (v106.2.1 0 48 (((14 + (2 * a3)) + 0).toNatClampNeg))) 999 v106.2.1 v106.2.2) (fun v111 => Option.bind (f_X12_at v68 2) (fun v113 => gzGd (v113) 2062 (some (v68, gz_ui v111.2.1 0 48 v113.toNatClampNeg a3, v111.2.2)))))) else (Option.bind (f_X12_begins a1 a2 a3 (10 + (v106.2.1 0 48 (((14 + (2 * a3)) + 0).toNatClampNeg))) v106.2.1 v106.2.2) (fun v116 => Option.bind (f_X12_grudges v116.2.1) (fun v118 => some ((v118 - 1), v116.2.1, v116.2.2))))))) else (some (0, v104.2.1, v104.2.2)))))))) else (some (0, v66.2.1, v66.2.2)))))) else (Option.bind (f_X12_noSlight a3) (fun v120 => Option.bind (f_X12_throwsIf (if v120 = 0 then (0 : Int32) else 1) 1 (gz_ui I 0 47 0 0) J) (fun v123 => if ¬ v123.1 = 0 then (some (0, v123.2.1, v123.2.2)) else (Option.bind (f_X12_throwsIf (if ¬ a1 = a2 then (0 : Int32) else 1) 2 v123.2.1 v123.2.2) (fun v126 => if v126.1 = 0 then (Option.bind (f_X12_grudgeOf φ v126.2.1 a1 a2) (fun v128 => if ¬ v128 = (-1) then (Option.bind (f_X12_throwsIf 0 3 v126.2.1 v126.2.2) (fun v130 => if v130.1 = 0 then (Option.bind (f_X12_remembers φ v130.2.1 v130.2.2) (fun v132 => gzGd ((14 + (2 * a3)) + 0) 2062 (if ¬ v128 = (-1) then (Option.bind (f_X12_at v128 4) (fun v135 => Option.bind (f_X12_adds v135 (10 + (v132.2.1 0 48 (((14 + (2 * a3)) + 0).toNatClampNeg))) 999 v132.2.1 v132.2.2) (fun v137 => Option.bind (f_X12_at v128 2) (fun v139 => gzGd (v139) 2062 (some (v128, gz_ui v137.2.1 0 48 v139.toNatClampNeg a3, v137.2.2)))))) else (Option.bind (f_X12_begins a1 a2 a3 (10 + (v132.2.1 0 48 (((14 + (2 * a3)) + 0).toNatClampNeg))) v132.2.1 v132.2.2) (fun v142 => Option.bind (f_X12_grudges v142.2.1) (fun v144 => some ((v144 - 1), v142.2.1, v142.2.2))))))) else (some (0, v130.2.1, v130.2.2)))) else (Option.bind (f_X12_grudges v126.2.1) (fun v146 => if ¬ v146 = 10 then (Option.bind (f_X12_throwsIf 0 3 v126.2.1 v126.2.2) (fun v148 => if v148.1 = 0 then (Option.bind (f_X12_remembers φ v148.2.1 v148.2.2) (fun v150 => gzGd ((14 + (2 * a3)) + 0) 2062 (if ¬ v128 = (-1) then (Option.bind (f_X12_at v128 4) (fun v153 => Option.bind (f_X12_adds v153 (10 + (v150.2.1 0 48 (((14 + (2 * a3)) + 0).toNatClampNeg))) 999 v150.2.1 v150.2.2) (fun v155 => Option.bind (f_X12_at v128 2) (fun v157 => gzGd (v157) 2062 (some (v128, gz_ui v155.2.1 0 48 v157.toNatClampNeg a3, v155.2.2)))))) else (Option.bind (f_X12_begins a1 a2 a3 (10 + (v150.2.1 0 48 (((14 + (2 * a3)) + 0).toNatClampNeg))) v150.2.1 v150.2.2) (fun v160 => Option.bind (f_X12_grudges v160.2.1) (fun v162 => some ((v162 - 1), v160.2.1, v160.2.2))))))) else (some (0, v148.2.1, v148.2.2)))) else (Option.bind (f_X12_throwsIf 1 3 v126.2.1 v126.2.2) (fun v164 => if v164.1 = 0 then (Option.bind (f_X12_remembers φ v164.2.1 v164.2.2) (fun v166 => gzGd ((14 + (2 * a3)) + 0) 2062 (if ¬ v128 = (-1) then (Option.bind (f_X12_at v128 4) (fun v169 => Option.bind (f_X12_adds v169 (10 + (v166.2.1 0 48 (((14 + (2 * a3)) + 0).toNatClampNeg))) 999 v166.2.1 v166.2.2) (fun v171 => Option.bind (f_X12_at v128 2) (fun v173 => gzGd (v173) 2062 (some (v128, gz_ui v171.2.1 0 48 v173.toNatClampNeg a3, v171.2.2)))))) else (Option.bind (f_X12_begins a1 a2 a3 (10 + (v166.2.1 0 48 (((14 + (2 * a3)) + 0).toNatClampNeg))) v166.2.1 v166.2.2) (fun v176 => Option.bind (f_X12_grudges v176.2.1) (fun v178 => some ((v178 - 1), v176.2.1, v176.2.2))))))) else (some (0, v164.2.1, v164.2.2)))))))) else (some (0, v126.2.1, v126.2.2))))))))))
set_option maxRecDepth 20000 in
theorem c_X12_insult {g : gzG} {d φ : Nat} {a1 : Int32} {a2 : Int32} {a3 : Int32} {I : gzIT} {J : gzJT} {r : Int32 × gzIT × gzJT} (h : f_X12_insult φ a1 a2 a3 I J = some r) : gzC g 0 (d + 4) mX12_insult [.inr (.inr (0, 47)), .inl a1, .inl a2, .inl a3] (gzN, gzR0, I, J) (gzE (.ok (some (.inl r.1))) (gzN, gzR0, r.2.1, r.2.2)) := by
  unfold f_X12_insult at h
  refine gzC_of (by decide +kernel) (Nat.le_of_ble_eq_true rfl) (loc := [some (.inr (.inr (0, 47))), some (.inl a1), some (.inl a2), some (.inl a3), none, none]) rfl ?_
  have z_0_47 : gzOk 0 47 gzN := gzOk_of (by decide)
  have z_0_48 : gzOk 0 48 gzN := gzOk_of (by decide)
  refine gz_aload_n (pc := 0) dX12_insult_0 rfl ?_
  refine gz_iconst (pc := 1) dX12_insult_1 (v := 0) (by decide) ?_
  refine gp_X12_3 (pc := 2) dX12_insult_2 z_0_47 rfl ?_
  refine gz_aload_n (pc := 5) dX12_insult_5 rfl ?_
  refine gz_aload_n (pc := 6) dX12_insult_6 rfl ?_
  refine gz_iload_n (pc := 7) dX12_insult_7 rfl ?_
  refine gz_V (zy := mX12_noFamily) (zc := 0) (pc := 8) [.inl a1] rfl dX12_insult_8 lkX12_301 MvX12_noFamily rfl z_0_47 rfl rfl rfl (Or.inl rfl) (fun h => h) (by exact Nat.le_of_ble_eq_true rfl) ?_
  obtain ⟨v2, e1, h⟩ := gz_bd h
  refine gz_useI (c_X12_noFamily e1) ?_
  refine gz_if_ne (pc := 11) (tgt := 29) dX12_insult_11 (by decide) (fun c => ?_) (fun c => ?_)
  · replace h := gz_ifp c h
    refine gz_iconst (pc := 29) dX12_insult_29 (v := 1) (by decide) ?_
    refine gz_goto (pc := 30) (tgt := 34) dX12_insult_30 (by decide) ?_
    refine gz_iconst (pc := 34) dX12_insult_34 (v := 1) (by decide) ?_
    refine gz_V (zy := mX12_throwsIf) (zc := 0) (pc := 35) [.inl 1, .inl 1] rfl dX12_insult_35 lkX12_269 MvX12_throwsIf rfl z_0_47 rfl rfl rfl (Or.inl rfl) (fun h => h) (by exact Nat.le_of_ble_eq_true rfl) ?_
    obtain ⟨v4, e3, h⟩ := gz_bd h
    refine gz_useI (c_X12_throwsIf e3) ?_
    refine gz_if_ne (pc := 38) (tgt := 59) dX12_insult_38 (by decide) (fun c => ?_) (fun c => ?_)
    · replace h := gz_ifp c h
      refine gz_iconst (pc := 59) dX12_insult_59 (v := 0) (by decide) ?_
      cases h; exact gz_iret (pc := 60) dX12_insult_60 rfl ⟨rfl, rfl⟩
    · replace h := gz_ifn (fun q => q c) h
      refine gz_aload_n (pc := 41) dX12_insult_41 rfl ?_
      refine gz_iload_n (pc := 42) dX12_insult_42 rfl ?_
      refine gz_iload_n (pc := 43) dX12_insult_43 rfl ?_
      have kj5 : gzX g 0 (d + 4) mX12_insult 52 [some (.inr (.inr (0, 47))), some (.inl a1), some (.inl a2), some (.inl a3), none, none] ([.inl (if ¬ a1 = a2 then (0 : Int32) else 1), .inr (.inr (0, 47))]) (gzN, gzR0, v4.2.1, v4.2.2) 0 (gzE (.ok (some (.inl r.1))) (gzN, gzR0, r.2.1, r.2.2)) := by
        refine gz_iconst (pc := 52) dX12_insult_52 (v := 2) (by decide) ?_
        refine gz_V (zy := mX12_throwsIf) (zc := 0) (pc := 53) [.inl (if ¬ a1 = a2 then (0 : Int32) else 1), .inl 2] rfl dX12_insult_53 lkX12_269 MvX12_throwsIf rfl z_0_47 rfl rfl rfl (Or.inl rfl) (fun h => h) (by exact Nat.le_of_ble_eq_true rfl) ?_
        obtain ⟨v7, e6, h⟩ := gz_bd h
        refine gz_useI (c_X12_throwsIf e6) ?_
        refine gz_if_eq (pc := 56) (tgt := 61) dX12_insult_56 (by decide) (fun c => ?_) (fun c => ?_)
        · replace h := gz_ifp c h
          refine gz_aload_n (pc := 61) dX12_insult_61 rfl ?_
          refine gz_iload_n (pc := 62) dX12_insult_62 rfl ?_
          refine gz_iload_n (pc := 63) dX12_insult_63 rfl ?_
          refine gz_V (zy := mX12_grudgeOf) (zc := 0) (pc := 64) [.inl a1, .inl a2] rfl dX12_insult_64 lkX12_368 MvX12_grudgeOf rfl z_0_47 rfl rfl rfl (Or.inl rfl) (fun h => h) (by exact Nat.le_of_ble_eq_true rfl) ?_
          obtain ⟨v9, e8, h⟩ := gz_bd h
          refine gz_useI (c_X12_grudgeOf e8) ?_
          refine gz_istore (pc := 67) dX12_insult_67 (by decide) rfl (loc2 := [some (.inr (.inr (0, 47))), some (.inl a1), some (.inl a2), some (.inl a3), some (.inl v9), none]) rfl ?_
          refine gz_aload_n (pc := 69) dX12_insult_69 rfl ?_
          refine gz_iload (pc := 70) dX12_insult_70 rfl ?_
          refine gz_iconst (pc := 72) dX12_insult_72 (v := (-1)) (by decide) ?_
          refine gz_ic_ne (pc := 73) (tgt := 89) dX12_insult_73 (by decide) (fun c => ?_) (fun c => ?_)
          · replace h := gz_ifp c h
            refine gz_iconst (pc := 89) dX12_insult_89 (v := 0) (by decide) ?_
            refine gz_iconst (pc := 90) dX12_insult_90 (v := 3) (by decide) ?_
            refine gz_V (zy := mX12_throwsIf) (zc := 0) (pc := 91) [.inl 0, .inl 3] rfl dX12_insult_91 lkX12_269 MvX12_throwsIf rfl z_0_47 rfl rfl rfl (Or.inl rfl) (fun h => h) (by exact Nat.le_of_ble_eq_true rfl) ?_
            obtain ⟨v11, e10, h⟩ := gz_bd h
            refine gz_useI (c_X12_throwsIf e10) ?_
            refine gz_if_eq (pc := 94) (tgt := 99) dX12_insult_94 (by decide) (fun c => ?_) (fun c => ?_)
            · replace h := gz_ifp c h
              refine gz_aload_n (pc := 99) dX12_insult_99 rfl ?_
              refine gz_V (zy := mX12_remembers) (zc := 0) (pc := 100) [] rfl dX12_insult_100 lkX12_361 MvX12_remembers rfl z_0_47 rfl rfl rfl (Or.inl rfl) (fun h => h) (by exact Nat.le_of_ble_eq_true rfl) ?_
              obtain ⟨v13, e12, h⟩ := gz_bd h
              refine gz_useV (c_X12_remembers e12) ?_
              refine gz_bipush (pc := 103) dX12_insult_103 (v := 10) (by decide) ?_
              refine gz_aload_n (pc := 105) dX12_insult_105 rfl ?_
              refine gr_X12_13 (pc := 106) dX12_insult_106 z_0_47 rfl ?_
              refine gz_bipush (pc := 109) dX12_insult_109 (v := 14) (by decide) ?_
              refine gz_iconst (pc := 111) dX12_insult_111 (v := 2) (by decide) ?_
              refine gz_iload_n (pc := 112) dX12_insult_112 rfl ?_
              refine gz_imul (pc := 113) dX12_insult_113  ?_
              refine gz_iadd (pc := 114) dX12_insult_114  ?_
              refine gz_iconst (pc := 115) dX12_insult_115 (v := 0) (by decide) ?_
              refine gz_iadd (pc := 116) dX12_insult_116  ?_
              obtain ⟨b14, h⟩ := gz_gd h
              refine gz_iald2 (pc := 117) dX12_insult_117 (k := ((14 + (2 * a3)) + 0).toNatClampNeg) (v := v13.2.1 0 48 (((14 + (2 * a3)) + 0).toNatClampNeg)) z_0_48 rfl b14 rfl rfl ?_
              refine gz_iadd (pc := 118) dX12_insult_118  ?_
              refine gz_istore (pc := 119) dX12_insult_119 (by decide) rfl (loc2 := [some (.inr (.inr (0, 47))), some (.inl a1), some (.inl a2), some (.inl a3), some (.inl v9), some (.inl (10 + (v13.2.1 0 48 (((14 + (2 * a3)) + 0).toNatClampNeg))))]) rfl ?_
              refine gz_iload (pc := 121) dX12_insult_121 rfl ?_
              refine gz_iconst (pc := 123) dX12_insult_123 (v := (-1)) (by decide) ?_
              refine gz_ic_ne (pc := 124) (tgt := 143) dX12_insult_124 (by decide) (fun c => ?_) (fun c => ?_)
              · replace h := gz_ifp c h
                refine gz_aload_n (pc := 143) dX12_insult_143 rfl ?_
                refine gz_iload (pc := 144) dX12_insult_144 rfl ?_
                refine gz_iconst (pc := 146) dX12_insult_146 (v := 4) (by decide) ?_
                refine gz_S (zy := mX12_at) (zc := 0) (pc := 147) [.inl v9, .inl 4] rfl dX12_insult_147 lkX12_67 MsX12_at rfl (Or.inl rfl) (fun h => h) (by exact Nat.le_of_ble_eq_true rfl) ?_
                obtain ⟨v16, e15, h⟩ := gz_bd h
                refine gz_useI (c_X12_at e15) ?_
                refine gz_iload (pc := 150) dX12_insult_150 rfl ?_
                refine gz_sipush (pc := 152) dX12_insult_152 (v := 999) (by decide) ?_
                refine gz_V (zy := mX12_adds) (zc := 0) (pc := 155) [.inl v16, .inl (10 + (v13.2.1 0 48 (((14 + (2 * a3)) + 0).toNatClampNeg))), .inl 999] rfl dX12_insult_155 lkX12_333 MvX12_adds rfl z_0_47 rfl rfl rfl (Or.inl rfl) (fun h => h) (by exact Nat.le_of_ble_eq_true rfl) ?_
                obtain ⟨v18, e17, h⟩ := gz_bd h
                refine gz_useV (c_X12_adds e17) ?_
                refine gz_aload_n (pc := 158) dX12_insult_158 rfl ?_
                refine gr_X12_13 (pc := 159) dX12_insult_159 z_0_47 rfl ?_
                refine gz_iload (pc := 162) dX12_insult_162 rfl ?_
                refine gz_iconst (pc := 164) dX12_insult_164 (v := 2) (by decide) ?_
                refine gz_S (zy := mX12_at) (zc := 0) (pc := 165) [.inl v9, .inl 2] rfl dX12_insult_165 lkX12_67 MsX12_at rfl (Or.inl rfl) (fun h => h) (by exact Nat.le_of_ble_eq_true rfl) ?_
                obtain ⟨v20, e19, h⟩ := gz_bd h
                refine gz_useI (c_X12_at e19) ?_
                refine gz_iload_n (pc := 168) dX12_insult_168 rfl ?_
                obtain ⟨b21, h⟩ := gz_gd h
                refine gz_iast2 (pc := 169) dX12_insult_169 (k := v20.toNatClampNeg) z_0_48 rfl b21 rfl ?_
                refine gz_iload (pc := 170) dX12_insult_170 rfl ?_
                cases h; exact gz_iret (pc := 172) dX12_insult_172 rfl ⟨rfl, rfl⟩
              · replace h := gz_ifn (fun q => q c) h
                refine gz_aload_n (pc := 127) dX12_insult_127 rfl ?_
                refine gz_iload_n (pc := 128) dX12_insult_128 rfl ?_
                refine gz_iload_n (pc := 129) dX12_insult_129 rfl ?_
                refine gz_iload_n (pc := 130) dX12_insult_130 rfl ?_
                refine gz_iload (pc := 131) dX12_insult_131 rfl ?_
                refine gz_V (zy := mX12_begins) (zc := 0) (pc := 133) [.inl a1, .inl a2, .inl a3, .inl (10 + (v13.2.1 0 48 (((14 + (2 * a3)) + 0).toNatClampNeg)))] rfl dX12_insult_133 lkX12_152 MvX12_begins rfl z_0_47 rfl rfl rfl (Or.inl rfl) (fun h => h) (by exact Nat.le_of_ble_eq_true rfl) ?_
                obtain ⟨v23, e22, h⟩ := gz_bd h
                refine gz_useV (c_X12_begins e22) ?_
                refine gz_aload_n (pc := 136) dX12_insult_136 rfl ?_
                refine gz_V (zy := mX12_grudges) (zc := 0) (pc := 137) [] rfl dX12_insult_137 lkX12_73 MvX12_grudges rfl z_0_47 rfl rfl rfl (Or.inl rfl) (fun h => h) (by exact Nat.le_of_ble_eq_true rfl) ?_
                obtain ⟨v25, e24, h⟩ := gz_bd h
                refine gz_useI (c_X12_grudges e24) ?_
                refine gz_iconst (pc := 140) dX12_insult_140 (v := 1) (by decide) ?_
                refine gz_isub (pc := 141) dX12_insult_141  ?_
                cases h; exact gz_iret (pc := 142) dX12_insult_142 rfl ⟨rfl, rfl⟩
            · replace h := gz_ifn c h
              refine gz_iconst (pc := 97) dX12_insult_97 (v := 0) (by decide) ?_
              cases h; exact gz_iret (pc := 98) dX12_insult_98 rfl ⟨rfl, rfl⟩
          · replace h := gz_ifn (fun q => q c) h
            refine gz_aload_n (pc := 76) dX12_insult_76 rfl ?_
            refine gz_V (zy := mX12_grudges) (zc := 0) (pc := 77) [] rfl dX12_insult_77 lkX12_73 MvX12_grudges rfl z_0_47 rfl rfl rfl (Or.inl rfl) (fun h => h) (by exact Nat.le_of_ble_eq_true rfl) ?_
            obtain ⟨v27, e26, h⟩ := gz_bd h
            refine gz_useI (c_X12_grudges e26) ?_
            refine gz_bipush (pc := 80) dX12_insult_80 (v := 10) (by decide) ?_
            refine gz_ic_ne (pc := 82) (tgt := 89) dX12_insult_82 (by decide) (fun c => ?_) (fun c => ?_)
            · replace h := gz_ifp c h
              refine gz_iconst (pc := 89) dX12_insult_89 (v := 0) (by decide) ?_
              refine gz_iconst (pc := 90) dX12_insult_90 (v := 3) (by decide) ?_
              refine gz_V (zy := mX12_throwsIf) (zc := 0) (pc := 91) [.inl 0, .inl 3] rfl dX12_insult_91 lkX12_269 MvX12_throwsIf rfl z_0_47 rfl rfl rfl (Or.inl rfl) (fun h => h) (by exact Nat.le_of_ble_eq_true rfl) ?_
              obtain ⟨v29, e28, h⟩ := gz_bd h
              refine gz_useI (c_X12_throwsIf e28) ?_
              refine gz_if_eq (pc := 94) (tgt := 99) dX12_insult_94 (by decide) (fun c => ?_) (fun c => ?_)
              · replace h := gz_ifp c h
                refine gz_aload_n (pc := 99) dX12_insult_99 rfl ?_
                refine gz_V (zy := mX12_remembers) (zc := 0) (pc := 100) [] rfl dX12_insult_100 lkX12_361 MvX12_remembers rfl z_0_47 rfl rfl rfl (Or.inl rfl) (fun h => h) (by exact Nat.le_of_ble_eq_true rfl) ?_
                obtain ⟨v31, e30, h⟩ := gz_bd h
                refine gz_useV (c_X12_remembers e30) ?_
                refine gz_bipush (pc := 103) dX12_insult_103 (v := 10) (by decide) ?_
                refine gz_aload_n (pc := 105) dX12_insult_105 rfl ?_
                refine gr_X12_13 (pc := 106) dX12_insult_106 z_0_47 rfl ?_
                refine gz_bipush (pc := 109) dX12_insult_109 (v := 14) (by decide) ?_
                refine gz_iconst (pc := 111) dX12_insult_111 (v := 2) (by decide) ?_
                refine gz_iload_n (pc := 112) dX12_insult_112 rfl ?_
                refine gz_imul (pc := 113) dX12_insult_113  ?_
                refine gz_iadd (pc := 114) dX12_insult_114  ?_
                refine gz_iconst (pc := 115) dX12_insult_115 (v := 0) (by decide) ?_
                refine gz_iadd (pc := 116) dX12_insult_116  ?_
                obtain ⟨b32, h⟩ := gz_gd h
                refine gz_iald2 (pc := 117) dX12_insult_117 (k := ((14 + (2 * a3)) + 0).toNatClampNeg) (v := v31.2.1 0 48 (((14 + (2 * a3)) + 0).toNatClampNeg)) z_0_48 rfl b32 rfl rfl ?_
                refine gz_iadd (pc := 118) dX12_insult_118  ?_
                refine gz_istore (pc := 119) dX12_insult_119 (by decide) rfl (loc2 := [some (.inr (.inr (0, 47))), some (.inl a1), some (.inl a2), some (.inl a3), some (.inl v9), some (.inl (10 + (v31.2.1 0 48 (((14 + (2 * a3)) + 0).toNatClampNeg))))]) rfl ?_
                refine gz_iload (pc := 121) dX12_insult_121 rfl ?_
                refine gz_iconst (pc := 123) dX12_insult_123 (v := (-1)) (by decide) ?_
                refine gz_ic_ne (pc := 124) (tgt := 143) dX12_insult_124 (by decide) (fun c => ?_) (fun c => ?_)
                · replace h := gz_ifp c h
                  refine gz_aload_n (pc := 143) dX12_insult_143 rfl ?_
                  refine gz_iload (pc := 144) dX12_insult_144 rfl ?_
                  refine gz_iconst (pc := 146) dX12_insult_146 (v := 4) (by decide) ?_
                  refine gz_S (zy := mX12_at) (zc := 0) (pc := 147) [.inl v9, .inl 4] rfl dX12_insult_147 lkX12_67 MsX12_at rfl (Or.inl rfl) (fun h => h) (by exact Nat.le_of_ble_eq_true rfl) ?_
                  obtain ⟨v34, e33, h⟩ := gz_bd h
                  refine gz_useI (c_X12_at e33) ?_
                  refine gz_iload (pc := 150) dX12_insult_150 rfl ?_
                  refine gz_sipush (pc := 152) dX12_insult_152 (v := 999) (by decide) ?_
                  refine gz_V (zy := mX12_adds) (zc := 0) (pc := 155) [.inl v34, .inl (10 + (v31.2.1 0 48 (((14 + (2 * a3)) + 0).toNatClampNeg))), .inl 999] rfl dX12_insult_155 lkX12_333 MvX12_adds rfl z_0_47 rfl rfl rfl (Or.inl rfl) (fun h => h) (by exact Nat.le_of_ble_eq_true rfl) ?_
                  obtain ⟨v36, e35, h⟩ := gz_bd h
                  refine gz_useV (c_X12_adds e35) ?_
                  refine gz_aload_n (pc := 158) dX12_insult_158 rfl ?_
                  refine gr_X12_13 (pc := 159) dX12_insult_159 z_0_47 rfl ?_
                  refine gz_iload (pc := 162) dX12_insult_162 rfl ?_
                  refine gz_iconst (pc := 164) dX12_insult_164 (v := 2) (by decide) ?_
                  refine gz_S (zy := mX12_at) (zc := 0) (pc := 165) [.inl v9, .inl 2] rfl dX12_insult_165 lkX12_67 MsX12_at rfl (Or.inl rfl) (fun h => h) (by exact Nat.le_of_ble_eq_true rfl) ?_
                  obtain ⟨v38, e37, h⟩ := gz_bd h
                  refine gz_useI (c_X12_at e37) ?_
                  refine gz_iload_n (pc := 168) dX12_insult_168 rfl ?_
                  obtain ⟨b39, h⟩ := gz_gd h
                  refine gz_iast2 (pc := 169) dX12_insult_169 (k := v38.toNatClampNeg) z_0_48 rfl b39 rfl ?_
                  refine gz_iload (pc := 170) dX12_insult_170 rfl ?_
                  cases h; exact gz_iret (pc := 172) dX12_insult_172 rfl ⟨rfl, rfl⟩
                · replace h := gz_ifn (fun q => q c) h
                  refine gz_aload_n (pc := 127) dX12_insult_127 rfl ?_
                  refine gz_iload_n (pc := 128) dX12_insult_128 rfl ?_
                  refine gz_iload_n (pc := 129) dX12_insult_129 rfl ?_
                  refine gz_iload_n (pc := 130) dX12_insult_130 rfl ?_
                  refine gz_iload (pc := 131) dX12_insult_131 rfl ?_
                  refine gz_V (zy := mX12_begins) (zc := 0) (pc := 133) [.inl a1, .inl a2, .inl a3, .inl (10 + (v31.2.1 0 48 (((14 + (2 * a3)) + 0).toNatClampNeg)))] rfl dX12_insult_133 lkX12_152 MvX12_begins rfl z_0_47 rfl rfl rfl (Or.inl rfl) (fun h => h) (by exact Nat.le_of_ble_eq_true rfl) ?_
                  obtain ⟨v41, e40, h⟩ := gz_bd h
                  refine gz_useV (c_X12_begins e40) ?_
                  refine gz_aload_n (pc := 136) dX12_insult_136 rfl ?_
                  refine gz_V (zy := mX12_grudges) (zc := 0) (pc := 137) [] rfl dX12_insult_137 lkX12_73 MvX12_grudges rfl z_0_47 rfl rfl rfl (Or.inl rfl) (fun h => h) (by exact Nat.le_of_ble_eq_true rfl) ?_
                  obtain ⟨v43, e42, h⟩ := gz_bd h
                  refine gz_useI (c_X12_grudges e42) ?_
                  refine gz_iconst (pc := 140) dX12_insult_140 (v := 1) (by decide) ?_
                  refine gz_isub (pc := 141) dX12_insult_141  ?_
                  cases h; exact gz_iret (pc := 142) dX12_insult_142 rfl ⟨rfl, rfl⟩
              · replace h := gz_ifn c h
                refine gz_iconst (pc := 97) dX12_insult_97 (v := 0) (by decide) ?_
                cases h; exact gz_iret (pc := 98) dX12_insult_98 rfl ⟨rfl, rfl⟩
            · replace h := gz_ifn (fun q => q c) h
              refine gz_iconst (pc := 85) dX12_insult_85 (v := 1) (by decide) ?_
              refine gz_goto (pc := 86) (tgt := 90) dX12_insult_86 (by decide) ?_
              refine gz_iconst (pc := 90) dX12_insult_90 (v := 3) (by decide) ?_
              refine gz_V (zy := mX12_throwsIf) (zc := 0) (pc := 91) [.inl 1, .inl 3] rfl dX12_insult_91 lkX12_269 MvX12_throwsIf rfl z_0_47 rfl rfl rfl (Or.inl rfl) (fun h => h) (by exact Nat.le_of_ble_eq_true rfl) ?_
              obtain ⟨v45, e44, h⟩ := gz_bd h
              refine gz_useI (c_X12_throwsIf e44) ?_
              refine gz_if_eq (pc := 94) (tgt := 99) dX12_insult_94 (by decide) (fun c => ?_) (fun c => ?_)
              · replace h := gz_ifp c h
                refine gz_aload_n (pc := 99) dX12_insult_99 rfl ?_
                refine gz_V (zy := mX12_remembers) (zc := 0) (pc := 100) [] rfl dX12_insult_100 lkX12_361 MvX12_remembers rfl z_0_47 rfl rfl rfl (Or.inl rfl) (fun h => h) (by exact Nat.le_of_ble_eq_true rfl) ?_
                obtain ⟨v47, e46, h⟩ := gz_bd h
                refine gz_useV (c_X12_remembers e46) ?_
                refine gz_bipush (pc := 103) dX12_insult_103 (v := 10) (by decide) ?_
                refine gz_aload_n (pc := 105) dX12_insult_105 rfl ?_
                refine gr_X12_13 (pc := 106) dX12_insult_106 z_0_47 rfl ?_
                refine gz_bipush (pc := 109) dX12_insult_109 (v := 14) (by decide) ?_
                refine gz_iconst (pc := 111) dX12_insult_111 (v := 2) (by decide) ?_
                refine gz_iload_n (pc := 112) dX12_insult_112 rfl ?_
                refine gz_imul (pc := 113) dX12_insult_113  ?_
                refine gz_iadd (pc := 114) dX12_insult_114  ?_
                refine gz_iconst (pc := 115) dX12_insult_115 (v := 0) (by decide) ?_
                refine gz_iadd (pc := 116) dX12_insult_116  ?_
                obtain ⟨b48, h⟩ := gz_gd h
                refine gz_iald2 (pc := 117) dX12_insult_117 (k := ((14 + (2 * a3)) + 0).toNatClampNeg) (v := v47.2.1 0 48 (((14 + (2 * a3)) + 0).toNatClampNeg)) z_0_48 rfl b48 rfl rfl ?_
                refine gz_iadd (pc := 118) dX12_insult_118  ?_
                refine gz_istore (pc := 119) dX12_insult_119 (by decide) rfl (loc2 := [some (.inr (.inr (0, 47))), some (.inl a1), some (.inl a2), some (.inl a3), some (.inl v9), some (.inl (10 + (v47.2.1 0 48 (((14 + (2 * a3)) + 0).toNatClampNeg))))]) rfl ?_
                refine gz_iload (pc := 121) dX12_insult_121 rfl ?_
                refine gz_iconst (pc := 123) dX12_insult_123 (v := (-1)) (by decide) ?_
                refine gz_ic_ne (pc := 124) (tgt := 143) dX12_insult_124 (by decide) (fun c => ?_) (fun c => ?_)
                · replace h := gz_ifp c h
                  refine gz_aload_n (pc := 143) dX12_insult_143 rfl ?_
                  refine gz_iload (pc := 144) dX12_insult_144 rfl ?_
                  refine gz_iconst (pc := 146) dX12_insult_146 (v := 4) (by decide) ?_
                  refine gz_S (zy := mX12_at) (zc := 0) (pc := 147) [.inl v9, .inl 4] rfl dX12_insult_147 lkX12_67 MsX12_at rfl (Or.inl rfl) (fun h => h) (by exact Nat.le_of_ble_eq_true rfl) ?_
                  obtain ⟨v50, e49, h⟩ := gz_bd h
                  refine gz_useI (c_X12_at e49) ?_
                  refine gz_iload (pc := 150) dX12_insult_150 rfl ?_
                  refine gz_sipush (pc := 152) dX12_insult_152 (v := 999) (by decide) ?_
                  refine gz_V (zy := mX12_adds) (zc := 0) (pc := 155) [.inl v50, .inl (10 + (v47.2.1 0 48 (((14 + (2 * a3)) + 0).toNatClampNeg))), .inl 999] rfl dX12_insult_155 lkX12_333 MvX12_adds rfl z_0_47 rfl rfl rfl (Or.inl rfl) (fun h => h) (by exact Nat.le_of_ble_eq_true rfl) ?_
                  obtain ⟨v52, e51, h⟩ := gz_bd h
                  refine gz_useV (c_X12_adds e51) ?_
                  refine gz_aload_n (pc := 158) dX12_insult_158 rfl ?_
                  refine gr_X12_13 (pc := 159) dX12_insult_159 z_0_47 rfl ?_
                  refine gz_iload (pc := 162) dX12_insult_162 rfl ?_
                  refine gz_iconst (pc := 164) dX12_insult_164 (v := 2) (by decide) ?_
                  refine gz_S (zy := mX12_at) (zc := 0) (pc := 165) [.inl v9, .inl 2] rfl dX12_insult_165 lkX12_67 MsX12_at rfl (Or.inl rfl) (fun h => h) (by exact Nat.le_of_ble_eq_true rfl) ?_
                  obtain ⟨v54, e53, h⟩ := gz_bd h
                  refine gz_useI (c_X12_at e53) ?_
                  refine gz_iload_n (pc := 168) dX12_insult_168 rfl ?_
                  obtain ⟨b55, h⟩ := gz_gd h
                  refine gz_iast2 (pc := 169) dX12_insult_169 (k := v54.toNatClampNeg) z_0_48 rfl b55 rfl ?_
                  refine gz_iload (pc := 170) dX12_insult_170 rfl ?_
                  cases h; exact gz_iret (pc := 172) dX12_insult_172 rfl ⟨rfl, rfl⟩
                · replace h := gz_ifn (fun q => q c) h
                  refine gz_aload_n (pc := 127) dX12_insult_127 rfl ?_
                  refine gz_iload_n (pc := 128) dX12_insult_128 rfl ?_
                  refine gz_iload_n (pc := 129) dX12_insult_129 rfl ?_
                  refine gz_iload_n (pc := 130) dX12_insult_130 rfl ?_
                  refine gz_iload (pc := 131) dX12_insult_131 rfl ?_
                  refine gz_V (zy := mX12_begins) (zc := 0) (pc := 133) [.inl a1, .inl a2, .inl a3, .inl (10 + (v47.2.1 0 48 (((14 + (2 * a3)) + 0).toNatClampNeg)))] rfl dX12_insult_133 lkX12_152 MvX12_begins rfl z_0_47 rfl rfl rfl (Or.inl rfl) (fun h => h) (by exact Nat.le_of_ble_eq_true rfl) ?_
                  obtain ⟨v57, e56, h⟩ := gz_bd h
                  refine gz_useV (c_X12_begins e56) ?_
                  refine gz_aload_n (pc := 136) dX12_insult_136 rfl ?_
                  refine gz_V (zy := mX12_grudges) (zc := 0) (pc := 137) [] rfl dX12_insult_137 lkX12_73 MvX12_grudges rfl z_0_47 rfl rfl rfl (Or.inl rfl) (fun h => h) (by exact Nat.le_of_ble_eq_true rfl) ?_
                  obtain ⟨v59, e58, h⟩ := gz_bd h
                  refine gz_useI (c_X12_grudges e58) ?_
                  refine gz_iconst (pc := 140) dX12_insult_140 (v := 1) (by decide) ?_
                  refine gz_isub (pc := 141) dX12_insult_141  ?_
                  cases h; exact gz_iret (pc := 142) dX12_insult_142 rfl ⟨rfl, rfl⟩
              · replace h := gz_ifn c h
                refine gz_iconst (pc := 97) dX12_insult_97 (v := 0) (by decide) ?_
                cases h; exact gz_iret (pc := 98) dX12_insult_98 rfl ⟨rfl, rfl⟩
        · replace h := gz_ifn c h
          refine gz_iconst (pc := 59) dX12_insult_59 (v := 0) (by decide) ?_
          cases h; exact gz_iret (pc := 60) dX12_insult_60 rfl ⟨rfl, rfl⟩
      refine gz_ic_ne (pc := 44) (tgt := 51) dX12_insult_44 (by decide) (fun c => ?_) (fun c => ?_)
      · rw [if_pos c] at kj5
        refine gz_iconst (pc := 51) dX12_insult_51 (v := 0) (by decide) ?_
        exact kj5
      · rw [if_neg (show ¬ (¬ a1 = a2) from fun q => q c)] at kj5
        refine gz_iconst (pc := 47) dX12_insult_47 (v := 1) (by decide) ?_
        refine gz_goto (pc := 48) (tgt := 52) dX12_insult_48 (by decide) ?_
        exact kj5
  · replace h := gz_ifn (fun q => q c) h
    refine gz_aload_n (pc := 14) dX12_insult_14 rfl ?_
    refine gz_iload_n (pc := 15) dX12_insult_15 rfl ?_
    refine gz_V (zy := mX12_noFamily) (zc := 0) (pc := 16) [.inl a2] rfl dX12_insult_16 lkX12_301 MvX12_noFamily rfl z_0_47 rfl rfl rfl (Or.inl rfl) (fun h => h) (by exact Nat.le_of_ble_eq_true rfl) ?_
    obtain ⟨v61, e60, h⟩ := gz_bd h
    refine gz_useI (c_X12_noFamily e60) ?_
    refine gz_if_ne (pc := 19) (tgt := 29) dX12_insult_19 (by decide) (fun c => ?_) (fun c => ?_)
    · replace h := gz_ifp c h
      refine gz_iconst (pc := 29) dX12_insult_29 (v := 1) (by decide) ?_
      refine gz_goto (pc := 30) (tgt := 34) dX12_insult_30 (by decide) ?_
      refine gz_iconst (pc := 34) dX12_insult_34 (v := 1) (by decide) ?_
      refine gz_V (zy := mX12_throwsIf) (zc := 0) (pc := 35) [.inl 1, .inl 1] rfl dX12_insult_35 lkX12_269 MvX12_throwsIf rfl z_0_47 rfl rfl rfl (Or.inl rfl) (fun h => h) (by exact Nat.le_of_ble_eq_true rfl) ?_
      obtain ⟨v63, e62, h⟩ := gz_bd h
      refine gz_useI (c_X12_throwsIf e62) ?_
      refine gz_if_ne (pc := 38) (tgt := 59) dX12_insult_38 (by decide) (fun c => ?_) (fun c => ?_)
      · replace h := gz_ifp c h
        refine gz_iconst (pc := 59) dX12_insult_59 (v := 0) (by decide) ?_
        cases h; exact gz_iret (pc := 60) dX12_insult_60 rfl ⟨rfl, rfl⟩
      · replace h := gz_ifn (fun q => q c) h
        refine gz_aload_n (pc := 41) dX12_insult_41 rfl ?_
        refine gz_iload_n (pc := 42) dX12_insult_42 rfl ?_
        refine gz_iload_n (pc := 43) dX12_insult_43 rfl ?_
        have kj64 : gzX g 0 (d + 4) mX12_insult 52 [some (.inr (.inr (0, 47))), some (.inl a1), some (.inl a2), some (.inl a3), none, none] ([.inl (if ¬ a1 = a2 then (0 : Int32) else 1), .inr (.inr (0, 47))]) (gzN, gzR0, v63.2.1, v63.2.2) 0 (gzE (.ok (some (.inl r.1))) (gzN, gzR0, r.2.1, r.2.2)) := by
          refine gz_iconst (pc := 52) dX12_insult_52 (v := 2) (by decide) ?_
          refine gz_V (zy := mX12_throwsIf) (zc := 0) (pc := 53) [.inl (if ¬ a1 = a2 then (0 : Int32) else 1), .inl 2] rfl dX12_insult_53 lkX12_269 MvX12_throwsIf rfl z_0_47 rfl rfl rfl (Or.inl rfl) (fun h => h) (by exact Nat.le_of_ble_eq_true rfl) ?_
          obtain ⟨v66, e65, h⟩ := gz_bd h
          refine gz_useI (c_X12_throwsIf e65) ?_
          refine gz_if_eq (pc := 56) (tgt := 61) dX12_insult_56 (by decide) (fun c => ?_) (fun c => ?_)
          · replace h := gz_ifp c h
            refine gz_aload_n (pc := 61) dX12_insult_61 rfl ?_
            refine gz_iload_n (pc := 62) dX12_insult_62 rfl ?_
            refine gz_iload_n (pc := 63) dX12_insult_63 rfl ?_
            refine gz_V (zy := mX12_grudgeOf) (zc := 0) (pc := 64) [.inl a1, .inl a2] rfl dX12_insult_64 lkX12_368 MvX12_grudgeOf rfl z_0_47 rfl rfl rfl (Or.inl rfl) (fun h => h) (by exact Nat.le_of_ble_eq_true rfl) ?_
            obtain ⟨v68, e67, h⟩ := gz_bd h
            refine gz_useI (c_X12_grudgeOf e67) ?_
            refine gz_istore (pc := 67) dX12_insult_67 (by decide) rfl (loc2 := [some (.inr (.inr (0, 47))), some (.inl a1), some (.inl a2), some (.inl a3), some (.inl v68), none]) rfl ?_
            refine gz_aload_n (pc := 69) dX12_insult_69 rfl ?_
            refine gz_iload (pc := 70) dX12_insult_70 rfl ?_
            refine gz_iconst (pc := 72) dX12_insult_72 (v := (-1)) (by decide) ?_
            refine gz_ic_ne (pc := 73) (tgt := 89) dX12_insult_73 (by decide) (fun c => ?_) (fun c => ?_)
            · replace h := gz_ifp c h
              refine gz_iconst (pc := 89) dX12_insult_89 (v := 0) (by decide) ?_
              refine gz_iconst (pc := 90) dX12_insult_90 (v := 3) (by decide) ?_
              refine gz_V (zy := mX12_throwsIf) (zc := 0) (pc := 91) [.inl 0, .inl 3] rfl dX12_insult_91 lkX12_269 MvX12_throwsIf rfl z_0_47 rfl rfl rfl (Or.inl rfl) (fun h => h) (by exact Nat.le_of_ble_eq_true rfl) ?_
              obtain ⟨v70, e69, h⟩ := gz_bd h
              refine gz_useI (c_X12_throwsIf e69) ?_
              refine gz_if_eq (pc := 94) (tgt := 99) dX12_insult_94 (by decide) (fun c => ?_) (fun c => ?_)
              · replace h := gz_ifp c h
                refine gz_aload_n (pc := 99) dX12_insult_99 rfl ?_
                refine gz_V (zy := mX12_remembers) (zc := 0) (pc := 100) [] rfl dX12_insult_100 lkX12_361 MvX12_remembers rfl z_0_47 rfl rfl rfl (Or.inl rfl) (fun h => h) (by exact Nat.le_of_ble_eq_true rfl) ?_
                obtain ⟨v72, e71, h⟩ := gz_bd h
                refine gz_useV (c_X12_remembers e71) ?_
                refine gz_bipush (pc := 103) dX12_insult_103 (v := 10) (by decide) ?_
                refine gz_aload_n (pc := 105) dX12_insult_105 rfl ?_
                refine gr_X12_13 (pc := 106) dX12_insult_106 z_0_47 rfl ?_
                refine gz_bipush (pc := 109) dX12_insult_109 (v := 14) (by decide) ?_
                refine gz_iconst (pc := 111) dX12_insult_111 (v := 2) (by decide) ?_
                refine gz_iload_n (pc := 112) dX12_insult_112 rfl ?_
                refine gz_imul (pc := 113) dX12_insult_113  ?_
                refine gz_iadd (pc := 114) dX12_insult_114  ?_
                refine gz_iconst (pc := 115) dX12_insult_115 (v := 0) (by decide) ?_
                refine gz_iadd (pc := 116) dX12_insult_116  ?_
                obtain ⟨b73, h⟩ := gz_gd h
                refine gz_iald2 (pc := 117) dX12_insult_117 (k := ((14 + (2 * a3)) + 0).toNatClampNeg) (v := v72.2.1 0 48 (((14 + (2 * a3)) + 0).toNatClampNeg)) z_0_48 rfl b73 rfl rfl ?_
                refine gz_iadd (pc := 118) dX12_insult_118  ?_
                refine gz_istore (pc := 119) dX12_insult_119 (by decide) rfl (loc2 := [some (.inr (.inr (0, 47))), some (.inl a1), some (.inl a2), some (.inl a3), some (.inl v68), some (.inl (10 + (v72.2.1 0 48 (((14 + (2 * a3)) + 0).toNatClampNeg))))]) rfl ?_
                refine gz_iload (pc := 121) dX12_insult_121 rfl ?_
                refine gz_iconst (pc := 123) dX12_insult_123 (v := (-1)) (by decide) ?_
                refine gz_ic_ne (pc := 124) (tgt := 143) dX12_insult_124 (by decide) (fun c => ?_) (fun c => ?_)
                · replace h := gz_ifp c h
                  refine gz_aload_n (pc := 143) dX12_insult_143 rfl ?_
                  refine gz_iload (pc := 144) dX12_insult_144 rfl ?_
                  refine gz_iconst (pc := 146) dX12_insult_146 (v := 4) (by decide) ?_
                  refine gz_S (zy := mX12_at) (zc := 0) (pc := 147) [.inl v68, .inl 4] rfl dX12_insult_147 lkX12_67 MsX12_at rfl (Or.inl rfl) (fun h => h) (by exact Nat.le_of_ble_eq_true rfl) ?_
                  obtain ⟨v75, e74, h⟩ := gz_bd h
                  refine gz_useI (c_X12_at e74) ?_
                  refine gz_iload (pc := 150) dX12_insult_150 rfl ?_
                  refine gz_sipush (pc := 152) dX12_insult_152 (v := 999) (by decide) ?_
                  refine gz_V (zy := mX12_adds) (zc := 0) (pc := 155) [.inl v75, .inl (10 + (v72.2.1 0 48 (((14 + (2 * a3)) + 0).toNatClampNeg))), .inl 999] rfl dX12_insult_155 lkX12_333 MvX12_adds rfl z_0_47 rfl rfl rfl (Or.inl rfl) (fun h => h) (by exact Nat.le_of_ble_eq_true rfl) ?_
                  obtain ⟨v77, e76, h⟩ := gz_bd h
                  refine gz_useV (c_X12_adds e76) ?_
                  refine gz_aload_n (pc := 158) dX12_insult_158 rfl ?_
                  refine gr_X12_13 (pc := 159) dX12_insult_159 z_0_47 rfl ?_
                  refine gz_iload (pc := 162) dX12_insult_162 rfl ?_
                  refine gz_iconst (pc := 164) dX12_insult_164 (v := 2) (by decide) ?_
                  refine gz_S (zy := mX12_at) (zc := 0) (pc := 165) [.inl v68, .inl 2] rfl dX12_insult_165 lkX12_67 MsX12_at rfl (Or.inl rfl) (fun h => h) (by exact Nat.le_of_ble_eq_true rfl) ?_
                  obtain ⟨v79, e78, h⟩ := gz_bd h
                  refine gz_useI (c_X12_at e78) ?_
                  refine gz_iload_n (pc := 168) dX12_insult_168 rfl ?_
                  obtain ⟨b80, h⟩ := gz_gd h
                  refine gz_iast2 (pc := 169) dX12_insult_169 (k := v79.toNatClampNeg) z_0_48 rfl b80 rfl ?_
                  refine gz_iload (pc := 170) dX12_insult_170 rfl ?_
                  cases h; exact gz_iret (pc := 172) dX12_insult_172 rfl ⟨rfl, rfl⟩
                · replace h := gz_ifn (fun q => q c) h
                  refine gz_aload_n (pc := 127) dX12_insult_127 rfl ?_
                  refine gz_iload_n (pc := 128) dX12_insult_128 rfl ?_
                  refine gz_iload_n (pc := 129) dX12_insult_129 rfl ?_
                  refine gz_iload_n (pc := 130) dX12_insult_130 rfl ?_
                  refine gz_iload (pc := 131) dX12_insult_131 rfl ?_
                  refine gz_V (zy := mX12_begins) (zc := 0) (pc := 133) [.inl a1, .inl a2, .inl a3, .inl (10 + (v72.2.1 0 48 (((14 + (2 * a3)) + 0).toNatClampNeg)))] rfl dX12_insult_133 lkX12_152 MvX12_begins rfl z_0_47 rfl rfl rfl (Or.inl rfl) (fun h => h) (by exact Nat.le_of_ble_eq_true rfl) ?_
                  obtain ⟨v82, e81, h⟩ := gz_bd h
                  refine gz_useV (c_X12_begins e81) ?_
                  refine gz_aload_n (pc := 136) dX12_insult_136 rfl ?_
                  refine gz_V (zy := mX12_grudges) (zc := 0) (pc := 137) [] rfl dX12_insult_137 lkX12_73 MvX12_grudges rfl z_0_47 rfl rfl rfl (Or.inl rfl) (fun h => h) (by exact Nat.le_of_ble_eq_true rfl) ?_
                  obtain ⟨v84, e83, h⟩ := gz_bd h
                  refine gz_useI (c_X12_grudges e83) ?_
                  refine gz_iconst (pc := 140) dX12_insult_140 (v := 1) (by decide) ?_
                  refine gz_isub (pc := 141) dX12_insult_141  ?_
                  cases h; exact gz_iret (pc := 142) dX12_insult_142 rfl ⟨rfl, rfl⟩
              · replace h := gz_ifn c h
                refine gz_iconst (pc := 97) dX12_insult_97 (v := 0) (by decide) ?_
                cases h; exact gz_iret (pc := 98) dX12_insult_98 rfl ⟨rfl, rfl⟩
            · replace h := gz_ifn (fun q => q c) h
              refine gz_aload_n (pc := 76) dX12_insult_76 rfl ?_
              refine gz_V (zy := mX12_grudges) (zc := 0) (pc := 77) [] rfl dX12_insult_77 lkX12_73 MvX12_grudges rfl z_0_47 rfl rfl rfl (Or.inl rfl) (fun h => h) (by exact Nat.le_of_ble_eq_true rfl) ?_
              obtain ⟨v86, e85, h⟩ := gz_bd h
              refine gz_useI (c_X12_grudges e85) ?_
              refine gz_bipush (pc := 80) dX12_insult_80 (v := 10) (by decide) ?_
              refine gz_ic_ne (pc := 82) (tgt := 89) dX12_insult_82 (by decide) (fun c => ?_) (fun c => ?_)
              · replace h := gz_ifp c h
                refine gz_iconst (pc := 89) dX12_insult_89 (v := 0) (by decide) ?_
                refine gz_iconst (pc := 90) dX12_insult_90 (v := 3) (by decide) ?_
                refine gz_V (zy := mX12_throwsIf) (zc := 0) (pc := 91) [.inl 0, .inl 3] rfl dX12_insult_91 lkX12_269 MvX12_throwsIf rfl z_0_47 rfl rfl rfl (Or.inl rfl) (fun h => h) (by exact Nat.le_of_ble_eq_true rfl) ?_
                obtain ⟨v88, e87, h⟩ := gz_bd h
                refine gz_useI (c_X12_throwsIf e87) ?_
                refine gz_if_eq (pc := 94) (tgt := 99) dX12_insult_94 (by decide) (fun c => ?_) (fun c => ?_)
                · replace h := gz_ifp c h
                  refine gz_aload_n (pc := 99) dX12_insult_99 rfl ?_
                  refine gz_V (zy := mX12_remembers) (zc := 0) (pc := 100) [] rfl dX12_insult_100 lkX12_361 MvX12_remembers rfl z_0_47 rfl rfl rfl (Or.inl rfl) (fun h => h) (by exact Nat.le_of_ble_eq_true rfl) ?_
                  obtain ⟨v90, e89, h⟩ := gz_bd h
                  refine gz_useV (c_X12_remembers e89) ?_
                  refine gz_bipush (pc := 103) dX12_insult_103 (v := 10) (by decide) ?_
                  refine gz_aload_n (pc := 105) dX12_insult_105 rfl ?_
                  refine gr_X12_13 (pc := 106) dX12_insult_106 z_0_47 rfl ?_
                  refine gz_bipush (pc := 109) dX12_insult_109 (v := 14) (by decide) ?_
                  refine gz_iconst (pc := 111) dX12_insult_111 (v := 2) (by decide) ?_
                  refine gz_iload_n (pc := 112) dX12_insult_112 rfl ?_
                  refine gz_imul (pc := 113) dX12_insult_113  ?_
                  refine gz_iadd (pc := 114) dX12_insult_114  ?_
                  refine gz_iconst (pc := 115) dX12_insult_115 (v := 0) (by decide) ?_
                  refine gz_iadd (pc := 116) dX12_insult_116  ?_
                  obtain ⟨b91, h⟩ := gz_gd h
                  refine gz_iald2 (pc := 117) dX12_insult_117 (k := ((14 + (2 * a3)) + 0).toNatClampNeg) (v := v90.2.1 0 48 (((14 + (2 * a3)) + 0).toNatClampNeg)) z_0_48 rfl b91 rfl rfl ?_
                  refine gz_iadd (pc := 118) dX12_insult_118  ?_
                  refine gz_istore (pc := 119) dX12_insult_119 (by decide) rfl (loc2 := [some (.inr (.inr (0, 47))), some (.inl a1), some (.inl a2), some (.inl a3), some (.inl v68), some (.inl (10 + (v90.2.1 0 48 (((14 + (2 * a3)) + 0).toNatClampNeg))))]) rfl ?_
                  refine gz_iload (pc := 121) dX12_insult_121 rfl ?_
                  refine gz_iconst (pc := 123) dX12_insult_123 (v := (-1)) (by decide) ?_
                  refine gz_ic_ne (pc := 124) (tgt := 143) dX12_insult_124 (by decide) (fun c => ?_) (fun c => ?_)
                  · replace h := gz_ifp c h
                    refine gz_aload_n (pc := 143) dX12_insult_143 rfl ?_
                    refine gz_iload (pc := 144) dX12_insult_144 rfl ?_
                    refine gz_iconst (pc := 146) dX12_insult_146 (v := 4) (by decide) ?_
                    refine gz_S (zy := mX12_at) (zc := 0) (pc := 147) [.inl v68, .inl 4] rfl dX12_insult_147 lkX12_67 MsX12_at rfl (Or.inl rfl) (fun h => h) (by exact Nat.le_of_ble_eq_true rfl) ?_
                    obtain ⟨v93, e92, h⟩ := gz_bd h
                    refine gz_useI (c_X12_at e92) ?_
                    refine gz_iload (pc := 150) dX12_insult_150 rfl ?_
                    refine gz_sipush (pc := 152) dX12_insult_152 (v := 999) (by decide) ?_
                    refine gz_V (zy := mX12_adds) (zc := 0) (pc := 155) [.inl v93, .inl (10 + (v90.2.1 0 48 (((14 + (2 * a3)) + 0).toNatClampNeg))), .inl 999] rfl dX12_insult_155 lkX12_333 MvX12_adds rfl z_0_47 rfl rfl rfl (Or.inl rfl) (fun h => h) (by exact Nat.le_of_ble_eq_true rfl) ?_
                    obtain ⟨v95, e94, h⟩ := gz_bd h
                    refine gz_useV (c_X12_adds e94) ?_
                    refine gz_aload_n (pc := 158) dX12_insult_158 rfl ?_
                    refine gr_X12_13 (pc := 159) dX12_insult_159 z_0_47 rfl ?_
                    refine gz_iload (pc := 162) dX12_insult_162 rfl ?_
                    refine gz_iconst (pc := 164) dX12_insult_164 (v := 2) (by decide) ?_
                    refine gz_S (zy := mX12_at) (zc := 0) (pc := 165) [.inl v68, .inl 2] rfl dX12_insult_165 lkX12_67 MsX12_at rfl (Or.inl rfl) (fun h => h) (by exact Nat.le_of_ble_eq_true rfl) ?_
                    obtain ⟨v97, e96, h⟩ := gz_bd h
                    refine gz_useI (c_X12_at e96) ?_
                    refine gz_iload_n (pc := 168) dX12_insult_168 rfl ?_
                    obtain ⟨b98, h⟩ := gz_gd h
                    refine gz_iast2 (pc := 169) dX12_insult_169 (k := v97.toNatClampNeg) z_0_48 rfl b98 rfl ?_
                    refine gz_iload (pc := 170) dX12_insult_170 rfl ?_
                    cases h; exact gz_iret (pc := 172) dX12_insult_172 rfl ⟨rfl, rfl⟩
                  · replace h := gz_ifn (fun q => q c) h
                    refine gz_aload_n (pc := 127) dX12_insult_127 rfl ?_
                    refine gz_iload_n (pc := 128) dX12_insult_128 rfl ?_
                    refine gz_iload_n (pc := 129) dX12_insult_129 rfl ?_
                    refine gz_iload_n (pc := 130) dX12_insult_130 rfl ?_
                    refine gz_iload (pc := 131) dX12_insult_131 rfl ?_
                    refine gz_V (zy := mX12_begins) (zc := 0) (pc := 133) [.inl a1, .inl a2, .inl a3, .inl (10 + (v90.2.1 0 48 (((14 + (2 * a3)) + 0).toNatClampNeg)))] rfl dX12_insult_133 lkX12_152 MvX12_begins rfl z_0_47 rfl rfl rfl (Or.inl rfl) (fun h => h) (by exact Nat.le_of_ble_eq_true rfl) ?_
                    obtain ⟨v100, e99, h⟩ := gz_bd h
                    refine gz_useV (c_X12_begins e99) ?_
                    refine gz_aload_n (pc := 136) dX12_insult_136 rfl ?_
                    refine gz_V (zy := mX12_grudges) (zc := 0) (pc := 137) [] rfl dX12_insult_137 lkX12_73 MvX12_grudges rfl z_0_47 rfl rfl rfl (Or.inl rfl) (fun h => h) (by exact Nat.le_of_ble_eq_true rfl) ?_
                    obtain ⟨v102, e101, h⟩ := gz_bd h
                    refine gz_useI (c_X12_grudges e101) ?_
                    refine gz_iconst (pc := 140) dX12_insult_140 (v := 1) (by decide) ?_
                    refine gz_isub (pc := 141) dX12_insult_141  ?_
                    cases h; exact gz_iret (pc := 142) dX12_insult_142 rfl ⟨rfl, rfl⟩
                · replace h := gz_ifn c h
                  refine gz_iconst (pc := 97) dX12_insult_97 (v := 0) (by decide) ?_
                  cases h; exact gz_iret (pc := 98) dX12_insult_98 rfl ⟨rfl, rfl⟩
              · replace h := gz_ifn (fun q => q c) h
                refine gz_iconst (pc := 85) dX12_insult_85 (v := 1) (by decide) ?_
                refine gz_goto (pc := 86) (tgt := 90) dX12_insult_86 (by decide) ?_
                refine gz_iconst (pc := 90) dX12_insult_90 (v := 3) (by decide) ?_
                refine gz_V (zy := mX12_throwsIf) (zc := 0) (pc := 91) [.inl 1, .inl 3] rfl dX12_insult_91 lkX12_269 MvX12_throwsIf rfl z_0_47 rfl rfl rfl (Or.inl rfl) (fun h => h) (by exact Nat.le_of_ble_eq_true rfl) ?_
                obtain ⟨v104, e103, h⟩ := gz_bd h
                refine gz_useI (c_X12_throwsIf e103) ?_
                refine gz_if_eq (pc := 94) (tgt := 99) dX12_insult_94 (by decide) (fun c => ?_) (fun c => ?_)
                · replace h := gz_ifp c h
                  refine gz_aload_n (pc := 99) dX12_insult_99 rfl ?_
                  refine gz_V (zy := mX12_remembers) (zc := 0) (pc := 100) [] rfl dX12_insult_100 lkX12_361 MvX12_remembers rfl z_0_47 rfl rfl rfl (Or.inl rfl) (fun h => h) (by exact Nat.le_of_ble_eq_true rfl) ?_
                  obtain ⟨v106, e105, h⟩ := gz_bd h
                  refine gz_useV (c_X12_remembers e105) ?_
                  refine gz_bipush (pc := 103) dX12_insult_103 (v := 10) (by decide) ?_
                  refine gz_aload_n (pc := 105) dX12_insult_105 rfl ?_
                  refine gr_X12_13 (pc := 106) dX12_insult_106 z_0_47 rfl ?_
                  refine gz_bipush (pc := 109) dX12_insult_109 (v := 14) (by decide) ?_
                  refine gz_iconst (pc := 111) dX12_insult_111 (v := 2) (by decide) ?_
                  refine gz_iload_n (pc := 112) dX12_insult_112 rfl ?_
                  refine gz_imul (pc := 113) dX12_insult_113  ?_
                  refine gz_iadd (pc := 114) dX12_insult_114  ?_
                  refine gz_iconst (pc := 115) dX12_insult_115 (v := 0) (by decide) ?_
                  refine gz_iadd (pc := 116) dX12_insult_116  ?_
                  obtain ⟨b107, h⟩ := gz_gd h
                  refine gz_iald2 (pc := 117) dX12_insult_117 (k := ((14 + (2 * a3)) + 0).toNatClampNeg) (v := v106.2.1 0 48 (((14 + (2 * a3)) + 0).toNatClampNeg)) z_0_48 rfl b107 rfl rfl ?_
                  refine gz_iadd (pc := 118) dX12_insult_118  ?_
                  refine gz_istore (pc := 119) dX12_insult_119 (by decide) rfl (loc2 := [some (.inr (.inr (0, 47))), some (.inl a1), some (.inl a2), some (.inl a3), some (.inl v68), some (.inl (10 + (v106.2.1 0 48 (((14 + (2 * a3)) + 0).toNatClampNeg))))]) rfl ?_
                  refine gz_iload (pc := 121) dX12_insult_121 rfl ?_
                  refine gz_iconst (pc := 123) dX12_insult_123 (v := (-1)) (by decide) ?_
                  refine gz_ic_ne (pc := 124) (tgt := 143) dX12_insult_124 (by decide) (fun c => ?_) (fun c => ?_)
                  · replace h := gz_ifp c h
                    refine gz_aload_n (pc := 143) dX12_insult_143 rfl ?_
                    refine gz_iload (pc := 144) dX12_insult_144 rfl ?_
                    refine gz_iconst (pc := 146) dX12_insult_146 (v := 4) (by decide) ?_
                    refine gz_S (zy := mX12_at) (zc := 0) (pc := 147) [.inl v68, .inl 4] rfl dX12_insult_147 lkX12_67 MsX12_at rfl (Or.inl rfl) (fun h => h) (by exact Nat.le_of_ble_eq_true rfl) ?_
                    obtain ⟨v109, e108, h⟩ := gz_bd h
                    refine gz_useI (c_X12_at e108) ?_
                    refine gz_iload (pc := 150) dX12_insult_150 rfl ?_
                    refine gz_sipush (pc := 152) dX12_insult_152 (v := 999) (by decide) ?_
                    refine gz_V (zy := mX12_adds) (zc := 0) (pc := 155) [.inl v109, .inl (10 + (v106.2.1 0 48 (((14 + (2 * a3)) + 0).toNatClampNeg))), .inl 999] rfl dX12_insult_155 lkX12_333 MvX12_adds rfl z_0_47 rfl rfl rfl (Or.inl rfl) (fun h => h) (by exact Nat.le_of_ble_eq_true rfl) ?_
                    obtain ⟨v111, e110, h⟩ := gz_bd h
                    refine gz_useV (c_X12_adds e110) ?_
                    refine gz_aload_n (pc := 158) dX12_insult_158 rfl ?_
                    refine gr_X12_13 (pc := 159) dX12_insult_159 z_0_47 rfl ?_
                    refine gz_iload (pc := 162) dX12_insult_162 rfl ?_
                    refine gz_iconst (pc := 164) dX12_insult_164 (v := 2) (by decide) ?_
                    refine gz_S (zy := mX12_at) (zc := 0) (pc := 165) [.inl v68, .inl 2] rfl dX12_insult_165 lkX12_67 MsX12_at rfl (Or.inl rfl) (fun h => h) (by exact Nat.le_of_ble_eq_true rfl) ?_
                    obtain ⟨v113, e112, h⟩ := gz_bd h
                    refine gz_useI (c_X12_at e112) ?_
                    refine gz_iload_n (pc := 168) dX12_insult_168 rfl ?_
                    obtain ⟨b114, h⟩ := gz_gd h
                    refine gz_iast2 (pc := 169) dX12_insult_169 (k := v113.toNatClampNeg) z_0_48 rfl b114 rfl ?_
                    refine gz_iload (pc := 170) dX12_insult_170 rfl ?_
                    cases h; exact gz_iret (pc := 172) dX12_insult_172 rfl ⟨rfl, rfl⟩
                  · replace h := gz_ifn (fun q => q c) h
                    refine gz_aload_n (pc := 127) dX12_insult_127 rfl ?_
                    refine gz_iload_n (pc := 128) dX12_insult_128 rfl ?_
                    refine gz_iload_n (pc := 129) dX12_insult_129 rfl ?_
                    refine gz_iload_n (pc := 130) dX12_insult_130 rfl ?_
                    refine gz_iload (pc := 131) dX12_insult_131 rfl ?_
                    refine gz_V (zy := mX12_begins) (zc := 0) (pc := 133) [.inl a1, .inl a2, .inl a3, .inl (10 + (v106.2.1 0 48 (((14 + (2 * a3)) + 0).toNatClampNeg)))] rfl dX12_insult_133 lkX12_152 MvX12_begins rfl z_0_47 rfl rfl rfl (Or.inl rfl) (fun h => h) (by exact Nat.le_of_ble_eq_true rfl) ?_
                    obtain ⟨v116, e115, h⟩ := gz_bd h
                    refine gz_useV (c_X12_begins e115) ?_
                    refine gz_aload_n (pc := 136) dX12_insult_136 rfl ?_
                    refine gz_V (zy := mX12_grudges) (zc := 0) (pc := 137) [] rfl dX12_insult_137 lkX12_73 MvX12_grudges rfl z_0_47 rfl rfl rfl (Or.inl rfl) (fun h => h) (by exact Nat.le_of_ble_eq_true rfl) ?_
                    obtain ⟨v118, e117, h⟩ := gz_bd h
                    refine gz_useI (c_X12_grudges e117) ?_
                    refine gz_iconst (pc := 140) dX12_insult_140 (v := 1) (by decide) ?_
                    refine gz_isub (pc := 141) dX12_insult_141  ?_
                    cases h; exact gz_iret (pc := 142) dX12_insult_142 rfl ⟨rfl, rfl⟩
                · replace h := gz_ifn c h
                  refine gz_iconst (pc := 97) dX12_insult_97 (v := 0) (by decide) ?_
                  cases h; exact gz_iret (pc := 98) dX12_insult_98 rfl ⟨rfl, rfl⟩
          · replace h := gz_ifn c h
            refine gz_iconst (pc := 59) dX12_insult_59 (v := 0) (by decide) ?_
            cases h; exact gz_iret (pc := 60) dX12_insult_60 rfl ⟨rfl, rfl⟩
        refine gz_ic_ne (pc := 44) (tgt := 51) dX12_insult_44 (by decide) (fun c => ?_) (fun c => ?_)
        · rw [if_pos c] at kj64
          refine gz_iconst (pc := 51) dX12_insult_51 (v := 0) (by decide) ?_
          exact kj64
        · rw [if_neg (show ¬ (¬ a1 = a2) from fun q => q c)] at kj64
          refine gz_iconst (pc := 47) dX12_insult_47 (v := 1) (by decide) ?_
          refine gz_goto (pc := 48) (tgt := 52) dX12_insult_48 (by decide) ?_
          exact kj64
    · replace h := gz_ifn (fun q => q c) h
      refine gz_iload_n (pc := 22) dX12_insult_22 rfl ?_
      refine gz_S (zy := mX12_noSlight) (zc := 0) (pc := 23) [.inl a3] rfl dX12_insult_23 lkX12_324 MsX12_noSlight rfl (Or.inl rfl) (fun h => h) (by exact Nat.le_of_ble_eq_true rfl) ?_
      obtain ⟨v120, e119, h⟩ := gz_bd h
      refine gz_useI (c_X12_noSlight e119) ?_
      have kj121 : gzX g 0 (d + 4) mX12_insult 34 [some (.inr (.inr (0, 47))), some (.inl a1), some (.inl a2), some (.inl a3), none, none] ([.inl (if v120 = 0 then (0 : Int32) else 1), .inr (.inr (0, 47))]) (gzN, gzR0, gz_ui I 0 47 0 0, J) 0 (gzE (.ok (some (.inl r.1))) (gzN, gzR0, r.2.1, r.2.2)) := by
        refine gz_iconst (pc := 34) dX12_insult_34 (v := 1) (by decide) ?_
        refine gz_V (zy := mX12_throwsIf) (zc := 0) (pc := 35) [.inl (if v120 = 0 then (0 : Int32) else 1), .inl 1] rfl dX12_insult_35 lkX12_269 MvX12_throwsIf rfl z_0_47 rfl rfl rfl (Or.inl rfl) (fun h => h) (by exact Nat.le_of_ble_eq_true rfl) ?_
        obtain ⟨v123, e122, h⟩ := gz_bd h
        refine gz_useI (c_X12_throwsIf e122) ?_
        refine gz_if_ne (pc := 38) (tgt := 59) dX12_insult_38 (by decide) (fun c => ?_) (fun c => ?_)
        · replace h := gz_ifp c h
          refine gz_iconst (pc := 59) dX12_insult_59 (v := 0) (by decide) ?_
          cases h; exact gz_iret (pc := 60) dX12_insult_60 rfl ⟨rfl, rfl⟩
        · replace h := gz_ifn (fun q => q c) h
          refine gz_aload_n (pc := 41) dX12_insult_41 rfl ?_
          refine gz_iload_n (pc := 42) dX12_insult_42 rfl ?_
          refine gz_iload_n (pc := 43) dX12_insult_43 rfl ?_
          have kj124 : gzX g 0 (d + 4) mX12_insult 52 [some (.inr (.inr (0, 47))), some (.inl a1), some (.inl a2), some (.inl a3), none, none] ([.inl (if ¬ a1 = a2 then (0 : Int32) else 1), .inr (.inr (0, 47))]) (gzN, gzR0, v123.2.1, v123.2.2) 0 (gzE (.ok (some (.inl r.1))) (gzN, gzR0, r.2.1, r.2.2)) := by
            refine gz_iconst (pc := 52) dX12_insult_52 (v := 2) (by decide) ?_
            refine gz_V (zy := mX12_throwsIf) (zc := 0) (pc := 53) [.inl (if ¬ a1 = a2 then (0 : Int32) else 1), .inl 2] rfl dX12_insult_53 lkX12_269 MvX12_throwsIf rfl z_0_47 rfl rfl rfl (Or.inl rfl) (fun h => h) (by exact Nat.le_of_ble_eq_true rfl) ?_
            obtain ⟨v126, e125, h⟩ := gz_bd h
            refine gz_useI (c_X12_throwsIf e125) ?_
            refine gz_if_eq (pc := 56) (tgt := 61) dX12_insult_56 (by decide) (fun c => ?_) (fun c => ?_)
            · replace h := gz_ifp c h
              refine gz_aload_n (pc := 61) dX12_insult_61 rfl ?_
              refine gz_iload_n (pc := 62) dX12_insult_62 rfl ?_
              refine gz_iload_n (pc := 63) dX12_insult_63 rfl ?_
              refine gz_V (zy := mX12_grudgeOf) (zc := 0) (pc := 64) [.inl a1, .inl a2] rfl dX12_insult_64 lkX12_368 MvX12_grudgeOf rfl z_0_47 rfl rfl rfl (Or.inl rfl) (fun h => h) (by exact Nat.le_of_ble_eq_true rfl) ?_
              obtain ⟨v128, e127, h⟩ := gz_bd h
              refine gz_useI (c_X12_grudgeOf e127) ?_
              refine gz_istore (pc := 67) dX12_insult_67 (by decide) rfl (loc2 := [some (.inr (.inr (0, 47))), some (.inl a1), some (.inl a2), some (.inl a3), some (.inl v128), none]) rfl ?_
              refine gz_aload_n (pc := 69) dX12_insult_69 rfl ?_
              refine gz_iload (pc := 70) dX12_insult_70 rfl ?_
              refine gz_iconst (pc := 72) dX12_insult_72 (v := (-1)) (by decide) ?_
              refine gz_ic_ne (pc := 73) (tgt := 89) dX12_insult_73 (by decide) (fun c => ?_) (fun c => ?_)
              · replace h := gz_ifp c h
                refine gz_iconst (pc := 89) dX12_insult_89 (v := 0) (by decide) ?_
                refine gz_iconst (pc := 90) dX12_insult_90 (v := 3) (by decide) ?_
                refine gz_V (zy := mX12_throwsIf) (zc := 0) (pc := 91) [.inl 0, .inl 3] rfl dX12_insult_91 lkX12_269 MvX12_throwsIf rfl z_0_47 rfl rfl rfl (Or.inl rfl) (fun h => h) (by exact Nat.le_of_ble_eq_true rfl) ?_
                obtain ⟨v130, e129, h⟩ := gz_bd h
                refine gz_useI (c_X12_throwsIf e129) ?_
                refine gz_if_eq (pc := 94) (tgt := 99) dX12_insult_94 (by decide) (fun c => ?_) (fun c => ?_)
                · replace h := gz_ifp c h
                  refine gz_aload_n (pc := 99) dX12_insult_99 rfl ?_
                  refine gz_V (zy := mX12_remembers) (zc := 0) (pc := 100) [] rfl dX12_insult_100 lkX12_361 MvX12_remembers rfl z_0_47 rfl rfl rfl (Or.inl rfl) (fun h => h) (by exact Nat.le_of_ble_eq_true rfl) ?_
                  obtain ⟨v132, e131, h⟩ := gz_bd h
                  refine gz_useV (c_X12_remembers e131) ?_
                  refine gz_bipush (pc := 103) dX12_insult_103 (v := 10) (by decide) ?_
                  refine gz_aload_n (pc := 105) dX12_insult_105 rfl ?_
                  refine gr_X12_13 (pc := 106) dX12_insult_106 z_0_47 rfl ?_
                  refine gz_bipush (pc := 109) dX12_insult_109 (v := 14) (by decide) ?_
                  refine gz_iconst (pc := 111) dX12_insult_111 (v := 2) (by decide) ?_
                  refine gz_iload_n (pc := 112) dX12_insult_112 rfl ?_
                  refine gz_imul (pc := 113) dX12_insult_113  ?_
                  refine gz_iadd (pc := 114) dX12_insult_114  ?_
                  refine gz_iconst (pc := 115) dX12_insult_115 (v := 0) (by decide) ?_
                  refine gz_iadd (pc := 116) dX12_insult_116  ?_
                  obtain ⟨b133, h⟩ := gz_gd h
                  refine gz_iald2 (pc := 117) dX12_insult_117 (k := ((14 + (2 * a3)) + 0).toNatClampNeg) (v := v132.2.1 0 48 (((14 + (2 * a3)) + 0).toNatClampNeg)) z_0_48 rfl b133 rfl rfl ?_
                  refine gz_iadd (pc := 118) dX12_insult_118  ?_
                  refine gz_istore (pc := 119) dX12_insult_119 (by decide) rfl (loc2 := [some (.inr (.inr (0, 47))), some (.inl a1), some (.inl a2), some (.inl a3), some (.inl v128), some (.inl (10 + (v132.2.1 0 48 (((14 + (2 * a3)) + 0).toNatClampNeg))))]) rfl ?_
                  refine gz_iload (pc := 121) dX12_insult_121 rfl ?_
                  refine gz_iconst (pc := 123) dX12_insult_123 (v := (-1)) (by decide) ?_
                  refine gz_ic_ne (pc := 124) (tgt := 143) dX12_insult_124 (by decide) (fun c => ?_) (fun c => ?_)
                  · replace h := gz_ifp c h
                    refine gz_aload_n (pc := 143) dX12_insult_143 rfl ?_
                    refine gz_iload (pc := 144) dX12_insult_144 rfl ?_
                    refine gz_iconst (pc := 146) dX12_insult_146 (v := 4) (by decide) ?_
                    refine gz_S (zy := mX12_at) (zc := 0) (pc := 147) [.inl v128, .inl 4] rfl dX12_insult_147 lkX12_67 MsX12_at rfl (Or.inl rfl) (fun h => h) (by exact Nat.le_of_ble_eq_true rfl) ?_
                    obtain ⟨v135, e134, h⟩ := gz_bd h
                    refine gz_useI (c_X12_at e134) ?_
                    refine gz_iload (pc := 150) dX12_insult_150 rfl ?_
                    refine gz_sipush (pc := 152) dX12_insult_152 (v := 999) (by decide) ?_
                    refine gz_V (zy := mX12_adds) (zc := 0) (pc := 155) [.inl v135, .inl (10 + (v132.2.1 0 48 (((14 + (2 * a3)) + 0).toNatClampNeg))), .inl 999] rfl dX12_insult_155 lkX12_333 MvX12_adds rfl z_0_47 rfl rfl rfl (Or.inl rfl) (fun h => h) (by exact Nat.le_of_ble_eq_true rfl) ?_
                    obtain ⟨v137, e136, h⟩ := gz_bd h
                    refine gz_useV (c_X12_adds e136) ?_
                    refine gz_aload_n (pc := 158) dX12_insult_158 rfl ?_
                    refine gr_X12_13 (pc := 159) dX12_insult_159 z_0_47 rfl ?_
                    refine gz_iload (pc := 162) dX12_insult_162 rfl ?_
                    refine gz_iconst (pc := 164) dX12_insult_164 (v := 2) (by decide) ?_
                    refine gz_S (zy := mX12_at) (zc := 0) (pc := 165) [.inl v128, .inl 2] rfl dX12_insult_165 lkX12_67 MsX12_at rfl (Or.inl rfl) (fun h => h) (by exact Nat.le_of_ble_eq_true rfl) ?_
                    obtain ⟨v139, e138, h⟩ := gz_bd h
                    refine gz_useI (c_X12_at e138) ?_
                    refine gz_iload_n (pc := 168) dX12_insult_168 rfl ?_
                    obtain ⟨b140, h⟩ := gz_gd h
                    refine gz_iast2 (pc := 169) dX12_insult_169 (k := v139.toNatClampNeg) z_0_48 rfl b140 rfl ?_
                    refine gz_iload (pc := 170) dX12_insult_170 rfl ?_
                    cases h; exact gz_iret (pc := 172) dX12_insult_172 rfl ⟨rfl, rfl⟩
                  · replace h := gz_ifn (fun q => q c) h
                    refine gz_aload_n (pc := 127) dX12_insult_127 rfl ?_
                    refine gz_iload_n (pc := 128) dX12_insult_128 rfl ?_
                    refine gz_iload_n (pc := 129) dX12_insult_129 rfl ?_
                    refine gz_iload_n (pc := 130) dX12_insult_130 rfl ?_
                    refine gz_iload (pc := 131) dX12_insult_131 rfl ?_
                    refine gz_V (zy := mX12_begins) (zc := 0) (pc := 133) [.inl a1, .inl a2, .inl a3, .inl (10 + (v132.2.1 0 48 (((14 + (2 * a3)) + 0).toNatClampNeg)))] rfl dX12_insult_133 lkX12_152 MvX12_begins rfl z_0_47 rfl rfl rfl (Or.inl rfl) (fun h => h) (by exact Nat.le_of_ble_eq_true rfl) ?_
                    obtain ⟨v142, e141, h⟩ := gz_bd h
                    refine gz_useV (c_X12_begins e141) ?_
                    refine gz_aload_n (pc := 136) dX12_insult_136 rfl ?_
                    refine gz_V (zy := mX12_grudges) (zc := 0) (pc := 137) [] rfl dX12_insult_137 lkX12_73 MvX12_grudges rfl z_0_47 rfl rfl rfl (Or.inl rfl) (fun h => h) (by exact Nat.le_of_ble_eq_true rfl) ?_
                    obtain ⟨v144, e143, h⟩ := gz_bd h
                    refine gz_useI (c_X12_grudges e143) ?_
                    refine gz_iconst (pc := 140) dX12_insult_140 (v := 1) (by decide) ?_
                    refine gz_isub (pc := 141) dX12_insult_141  ?_
                    cases h; exact gz_iret (pc := 142) dX12_insult_142 rfl ⟨rfl, rfl⟩
                · replace h := gz_ifn c h
                  refine gz_iconst (pc := 97) dX12_insult_97 (v := 0) (by decide) ?_
                  cases h; exact gz_iret (pc := 98) dX12_insult_98 rfl ⟨rfl, rfl⟩
              · replace h := gz_ifn (fun q => q c) h
                refine gz_aload_n (pc := 76) dX12_insult_76 rfl ?_
                refine gz_V (zy := mX12_grudges) (zc := 0) (pc := 77) [] rfl dX12_insult_77 lkX12_73 MvX12_grudges rfl z_0_47 rfl rfl rfl (Or.inl rfl) (fun h => h) (by exact Nat.le_of_ble_eq_true rfl) ?_
                obtain ⟨v146, e145, h⟩ := gz_bd h
                refine gz_useI (c_X12_grudges e145) ?_
                refine gz_bipush (pc := 80) dX12_insult_80 (v := 10) (by decide) ?_
                refine gz_ic_ne (pc := 82) (tgt := 89) dX12_insult_82 (by decide) (fun c => ?_) (fun c => ?_)
                · replace h := gz_ifp c h
                  refine gz_iconst (pc := 89) dX12_insult_89 (v := 0) (by decide) ?_
                  refine gz_iconst (pc := 90) dX12_insult_90 (v := 3) (by decide) ?_
                  refine gz_V (zy := mX12_throwsIf) (zc := 0) (pc := 91) [.inl 0, .inl 3] rfl dX12_insult_91 lkX12_269 MvX12_throwsIf rfl z_0_47 rfl rfl rfl (Or.inl rfl) (fun h => h) (by exact Nat.le_of_ble_eq_true rfl) ?_
                  obtain ⟨v148, e147, h⟩ := gz_bd h
                  refine gz_useI (c_X12_throwsIf e147) ?_
                  refine gz_if_eq (pc := 94) (tgt := 99) dX12_insult_94 (by decide) (fun c => ?_) (fun c => ?_)
                  · replace h := gz_ifp c h
                    refine gz_aload_n (pc := 99) dX12_insult_99 rfl ?_
                    refine gz_V (zy := mX12_remembers) (zc := 0) (pc := 100) [] rfl dX12_insult_100 lkX12_361 MvX12_remembers rfl z_0_47 rfl rfl rfl (Or.inl rfl) (fun h => h) (by exact Nat.le_of_ble_eq_true rfl) ?_
                    obtain ⟨v150, e149, h⟩ := gz_bd h
                    refine gz_useV (c_X12_remembers e149) ?_
                    refine gz_bipush (pc := 103) dX12_insult_103 (v := 10) (by decide) ?_
                    refine gz_aload_n (pc := 105) dX12_insult_105 rfl ?_
                    refine gr_X12_13 (pc := 106) dX12_insult_106 z_0_47 rfl ?_
                    refine gz_bipush (pc := 109) dX12_insult_109 (v := 14) (by decide) ?_
                    refine gz_iconst (pc := 111) dX12_insult_111 (v := 2) (by decide) ?_
                    refine gz_iload_n (pc := 112) dX12_insult_112 rfl ?_
                    refine gz_imul (pc := 113) dX12_insult_113  ?_
                    refine gz_iadd (pc := 114) dX12_insult_114  ?_
                    refine gz_iconst (pc := 115) dX12_insult_115 (v := 0) (by decide) ?_
                    refine gz_iadd (pc := 116) dX12_insult_116  ?_
                    obtain ⟨b151, h⟩ := gz_gd h
                    refine gz_iald2 (pc := 117) dX12_insult_117 (k := ((14 + (2 * a3)) + 0).toNatClampNeg) (v := v150.2.1 0 48 (((14 + (2 * a3)) + 0).toNatClampNeg)) z_0_48 rfl b151 rfl rfl ?_
                    refine gz_iadd (pc := 118) dX12_insult_118  ?_
                    refine gz_istore (pc := 119) dX12_insult_119 (by decide) rfl (loc2 := [some (.inr (.inr (0, 47))), some (.inl a1), some (.inl a2), some (.inl a3), some (.inl v128), some (.inl (10 + (v150.2.1 0 48 (((14 + (2 * a3)) + 0).toNatClampNeg))))]) rfl ?_
                    refine gz_iload (pc := 121) dX12_insult_121 rfl ?_
                    refine gz_iconst (pc := 123) dX12_insult_123 (v := (-1)) (by decide) ?_
                    refine gz_ic_ne (pc := 124) (tgt := 143) dX12_insult_124 (by decide) (fun c => ?_) (fun c => ?_)
                    · replace h := gz_ifp c h
                      refine gz_aload_n (pc := 143) dX12_insult_143 rfl ?_
                      refine gz_iload (pc := 144) dX12_insult_144 rfl ?_
                      refine gz_iconst (pc := 146) dX12_insult_146 (v := 4) (by decide) ?_
                      refine gz_S (zy := mX12_at) (zc := 0) (pc := 147) [.inl v128, .inl 4] rfl dX12_insult_147 lkX12_67 MsX12_at rfl (Or.inl rfl) (fun h => h) (by exact Nat.le_of_ble_eq_true rfl) ?_
                      obtain ⟨v153, e152, h⟩ := gz_bd h
                      refine gz_useI (c_X12_at e152) ?_
                      refine gz_iload (pc := 150) dX12_insult_150 rfl ?_
                      refine gz_sipush (pc := 152) dX12_insult_152 (v := 999) (by decide) ?_
                      refine gz_V (zy := mX12_adds) (zc := 0) (pc := 155) [.inl v153, .inl (10 + (v150.2.1 0 48 (((14 + (2 * a3)) + 0).toNatClampNeg))), .inl 999] rfl dX12_insult_155 lkX12_333 MvX12_adds rfl z_0_47 rfl rfl rfl (Or.inl rfl) (fun h => h) (by exact Nat.le_of_ble_eq_true rfl) ?_
                      obtain ⟨v155, e154, h⟩ := gz_bd h
                      refine gz_useV (c_X12_adds e154) ?_
                      refine gz_aload_n (pc := 158) dX12_insult_158 rfl ?_
                      refine gr_X12_13 (pc := 159) dX12_insult_159 z_0_47 rfl ?_
                      refine gz_iload (pc := 162) dX12_insult_162 rfl ?_
                      refine gz_iconst (pc := 164) dX12_insult_164 (v := 2) (by decide) ?_
                      refine gz_S (zy := mX12_at) (zc := 0) (pc := 165) [.inl v128, .inl 2] rfl dX12_insult_165 lkX12_67 MsX12_at rfl (Or.inl rfl) (fun h => h) (by exact Nat.le_of_ble_eq_true rfl) ?_
                      obtain ⟨v157, e156, h⟩ := gz_bd h
                      refine gz_useI (c_X12_at e156) ?_
                      refine gz_iload_n (pc := 168) dX12_insult_168 rfl ?_
                      obtain ⟨b158, h⟩ := gz_gd h
                      refine gz_iast2 (pc := 169) dX12_insult_169 (k := v157.toNatClampNeg) z_0_48 rfl b158 rfl ?_
                      refine gz_iload (pc := 170) dX12_insult_170 rfl ?_
                      cases h; exact gz_iret (pc := 172) dX12_insult_172 rfl ⟨rfl, rfl⟩
                    · replace h := gz_ifn (fun q => q c) h
                      refine gz_aload_n (pc := 127) dX12_insult_127 rfl ?_
                      refine gz_iload_n (pc := 128) dX12_insult_128 rfl ?_
                      refine gz_iload_n (pc := 129) dX12_insult_129 rfl ?_
                      refine gz_iload_n (pc := 130) dX12_insult_130 rfl ?_
                      refine gz_iload (pc := 131) dX12_insult_131 rfl ?_
                      refine gz_V (zy := mX12_begins) (zc := 0) (pc := 133) [.inl a1, .inl a2, .inl a3, .inl (10 + (v150.2.1 0 48 (((14 + (2 * a3)) + 0).toNatClampNeg)))] rfl dX12_insult_133 lkX12_152 MvX12_begins rfl z_0_47 rfl rfl rfl (Or.inl rfl) (fun h => h) (by exact Nat.le_of_ble_eq_true rfl) ?_
                      obtain ⟨v160, e159, h⟩ := gz_bd h
                      refine gz_useV (c_X12_begins e159) ?_
                      refine gz_aload_n (pc := 136) dX12_insult_136 rfl ?_
                      refine gz_V (zy := mX12_grudges) (zc := 0) (pc := 137) [] rfl dX12_insult_137 lkX12_73 MvX12_grudges rfl z_0_47 rfl rfl rfl (Or.inl rfl) (fun h => h) (by exact Nat.le_of_ble_eq_true rfl) ?_
                      obtain ⟨v162, e161, h⟩ := gz_bd h
                      refine gz_useI (c_X12_grudges e161) ?_
                      refine gz_iconst (pc := 140) dX12_insult_140 (v := 1) (by decide) ?_
                      refine gz_isub (pc := 141) dX12_insult_141  ?_
                      cases h; exact gz_iret (pc := 142) dX12_insult_142 rfl ⟨rfl, rfl⟩
                  · replace h := gz_ifn c h
                    refine gz_iconst (pc := 97) dX12_insult_97 (v := 0) (by decide) ?_
                    cases h; exact gz_iret (pc := 98) dX12_insult_98 rfl ⟨rfl, rfl⟩
                · replace h := gz_ifn (fun q => q c) h
                  refine gz_iconst (pc := 85) dX12_insult_85 (v := 1) (by decide) ?_
                  refine gz_goto (pc := 86) (tgt := 90) dX12_insult_86 (by decide) ?_
                  refine gz_iconst (pc := 90) dX12_insult_90 (v := 3) (by decide) ?_
                  refine gz_V (zy := mX12_throwsIf) (zc := 0) (pc := 91) [.inl 1, .inl 3] rfl dX12_insult_91 lkX12_269 MvX12_throwsIf rfl z_0_47 rfl rfl rfl (Or.inl rfl) (fun h => h) (by exact Nat.le_of_ble_eq_true rfl) ?_
                  obtain ⟨v164, e163, h⟩ := gz_bd h
                  refine gz_useI (c_X12_throwsIf e163) ?_
                  refine gz_if_eq (pc := 94) (tgt := 99) dX12_insult_94 (by decide) (fun c => ?_) (fun c => ?_)
                  · replace h := gz_ifp c h
                    refine gz_aload_n (pc := 99) dX12_insult_99 rfl ?_
                    refine gz_V (zy := mX12_remembers) (zc := 0) (pc := 100) [] rfl dX12_insult_100 lkX12_361 MvX12_remembers rfl z_0_47 rfl rfl rfl (Or.inl rfl) (fun h => h) (by exact Nat.le_of_ble_eq_true rfl) ?_
                    obtain ⟨v166, e165, h⟩ := gz_bd h
                    refine gz_useV (c_X12_remembers e165) ?_
                    refine gz_bipush (pc := 103) dX12_insult_103 (v := 10) (by decide) ?_
                    refine gz_aload_n (pc := 105) dX12_insult_105 rfl ?_
                    refine gr_X12_13 (pc := 106) dX12_insult_106 z_0_47 rfl ?_
                    refine gz_bipush (pc := 109) dX12_insult_109 (v := 14) (by decide) ?_
                    refine gz_iconst (pc := 111) dX12_insult_111 (v := 2) (by decide) ?_
                    refine gz_iload_n (pc := 112) dX12_insult_112 rfl ?_
                    refine gz_imul (pc := 113) dX12_insult_113  ?_
                    refine gz_iadd (pc := 114) dX12_insult_114  ?_
                    refine gz_iconst (pc := 115) dX12_insult_115 (v := 0) (by decide) ?_
                    refine gz_iadd (pc := 116) dX12_insult_116  ?_
                    obtain ⟨b167, h⟩ := gz_gd h
                    refine gz_iald2 (pc := 117) dX12_insult_117 (k := ((14 + (2 * a3)) + 0).toNatClampNeg) (v := v166.2.1 0 48 (((14 + (2 * a3)) + 0).toNatClampNeg)) z_0_48 rfl b167 rfl rfl ?_
                    refine gz_iadd (pc := 118) dX12_insult_118  ?_
                    refine gz_istore (pc := 119) dX12_insult_119 (by decide) rfl (loc2 := [some (.inr (.inr (0, 47))), some (.inl a1), some (.inl a2), some (.inl a3), some (.inl v128), some (.inl (10 + (v166.2.1 0 48 (((14 + (2 * a3)) + 0).toNatClampNeg))))]) rfl ?_
                    refine gz_iload (pc := 121) dX12_insult_121 rfl ?_
                    refine gz_iconst (pc := 123) dX12_insult_123 (v := (-1)) (by decide) ?_
                    refine gz_ic_ne (pc := 124) (tgt := 143) dX12_insult_124 (by decide) (fun c => ?_) (fun c => ?_)
                    · replace h := gz_ifp c h
                      refine gz_aload_n (pc := 143) dX12_insult_143 rfl ?_
                      refine gz_iload (pc := 144) dX12_insult_144 rfl ?_
                      refine gz_iconst (pc := 146) dX12_insult_146 (v := 4) (by decide) ?_
                      refine gz_S (zy := mX12_at) (zc := 0) (pc := 147) [.inl v128, .inl 4] rfl dX12_insult_147 lkX12_67 MsX12_at rfl (Or.inl rfl) (fun h => h) (by exact Nat.le_of_ble_eq_true rfl) ?_
                      obtain ⟨v169, e168, h⟩ := gz_bd h
                      refine gz_useI (c_X12_at e168) ?_
                      refine gz_iload (pc := 150) dX12_insult_150 rfl ?_
                      refine gz_sipush (pc := 152) dX12_insult_152 (v := 999) (by decide) ?_
                      refine gz_V (zy := mX12_adds) (zc := 0) (pc := 155) [.inl v169, .inl (10 + (v166.2.1 0 48 (((14 + (2 * a3)) + 0).toNatClampNeg))), .inl 999] rfl dX12_insult_155 lkX12_333 MvX12_adds rfl z_0_47 rfl rfl rfl (Or.inl rfl) (fun h => h) (by exact Nat.le_of_ble_eq_true rfl) ?_
                      obtain ⟨v171, e170, h⟩ := gz_bd h
                      refine gz_useV (c_X12_adds e170) ?_
                      refine gz_aload_n (pc := 158) dX12_insult_158 rfl ?_
                      refine gr_X12_13 (pc := 159) dX12_insult_159 z_0_47 rfl ?_
                      refine gz_iload (pc := 162) dX12_insult_162 rfl ?_
                      refine gz_iconst (pc := 164) dX12_insult_164 (v := 2) (by decide) ?_
                      refine gz_S (zy := mX12_at) (zc := 0) (pc := 165) [.inl v128, .inl 2] rfl dX12_insult_165 lkX12_67 MsX12_at rfl (Or.inl rfl) (fun h => h) (by exact Nat.le_of_ble_eq_true rfl) ?_
                      obtain ⟨v173, e172, h⟩ := gz_bd h
                      refine gz_useI (c_X12_at e172) ?_
                      refine gz_iload_n (pc := 168) dX12_insult_168 rfl ?_
                      obtain ⟨b174, h⟩ := gz_gd h
                      refine gz_iast2 (pc := 169) dX12_insult_169 (k := v173.toNatClampNeg) z_0_48 rfl b174 rfl ?_
                      refine gz_iload (pc := 170) dX12_insult_170 rfl ?_
                      cases h; exact gz_iret (pc := 172) dX12_insult_172 rfl ⟨rfl, rfl⟩
                    · replace h := gz_ifn (fun q => q c) h
                      refine gz_aload_n (pc := 127) dX12_insult_127 rfl ?_
                      refine gz_iload_n (pc := 128) dX12_insult_128 rfl ?_
                      refine gz_iload_n (pc := 129) dX12_insult_129 rfl ?_
                      refine gz_iload_n (pc := 130) dX12_insult_130 rfl ?_
                      refine gz_iload (pc := 131) dX12_insult_131 rfl ?_
                      refine gz_V (zy := mX12_begins) (zc := 0) (pc := 133) [.inl a1, .inl a2, .inl a3, .inl (10 + (v166.2.1 0 48 (((14 + (2 * a3)) + 0).toNatClampNeg)))] rfl dX12_insult_133 lkX12_152 MvX12_begins rfl z_0_47 rfl rfl rfl (Or.inl rfl) (fun h => h) (by exact Nat.le_of_ble_eq_true rfl) ?_
                      obtain ⟨v176, e175, h⟩ := gz_bd h
                      refine gz_useV (c_X12_begins e175) ?_
                      refine gz_aload_n (pc := 136) dX12_insult_136 rfl ?_
                      refine gz_V (zy := mX12_grudges) (zc := 0) (pc := 137) [] rfl dX12_insult_137 lkX12_73 MvX12_grudges rfl z_0_47 rfl rfl rfl (Or.inl rfl) (fun h => h) (by exact Nat.le_of_ble_eq_true rfl) ?_
                      obtain ⟨v178, e177, h⟩ := gz_bd h
                      refine gz_useI (c_X12_grudges e177) ?_
                      refine gz_iconst (pc := 140) dX12_insult_140 (v := 1) (by decide) ?_
                      refine gz_isub (pc := 141) dX12_insult_141  ?_
                      cases h; exact gz_iret (pc := 142) dX12_insult_142 rfl ⟨rfl, rfl⟩
                  · replace h := gz_ifn c h
                    refine gz_iconst (pc := 97) dX12_insult_97 (v := 0) (by decide) ?_
                    cases h; exact gz_iret (pc := 98) dX12_insult_98 rfl ⟨rfl, rfl⟩
            · replace h := gz_ifn c h
              refine gz_iconst (pc := 59) dX12_insult_59 (v := 0) (by decide) ?_
              cases h; exact gz_iret (pc := 60) dX12_insult_60 rfl ⟨rfl, rfl⟩
          refine gz_ic_ne (pc := 44) (tgt := 51) dX12_insult_44 (by decide) (fun c => ?_) (fun c => ?_)
          · rw [if_pos c] at kj124
            refine gz_iconst (pc := 51) dX12_insult_51 (v := 0) (by decide) ?_
            exact kj124
          · rw [if_neg (show ¬ (¬ a1 = a2) from fun q => q c)] at kj124
            refine gz_iconst (pc := 47) dX12_insult_47 (v := 1) (by decide) ?_
            refine gz_goto (pc := 48) (tgt := 52) dX12_insult_48 (by decide) ?_
            exact kj124
      refine gz_if_eq (pc := 26) (tgt := 33) dX12_insult_26 (by decide) (fun c => ?_) (fun c => ?_)
      · rw [if_pos c] at kj121
        refine gz_iconst (pc := 33) dX12_insult_33 (v := 0) (by decide) ?_
        exact kj121
      · rw [if_neg c] at kj121
        refine gz_iconst (pc := 29) dX12_insult_29 (v := 1) (by decide) ?_
        refine gz_goto (pc := 30) (tgt := 34) dX12_insult_30 (by decide) ?_
        exact kj121
/-! X12_forgive: forgive -/
def f_X12_forgive (φ : Nat) (a1 : Int32) (I : gzIT) (J : gzJT) : Option (Int32 × gzIT × gzJT) := Option.bind (f_X12_noGrudge (gz_ui I 0 47 0 0) a1) (fun v2 => Option.bind (f_X12_throwsIf v2 1 (gz_ui I 0 47 0 0) J) (fun v4 => if ¬ v4.1 = 0 then (some (0, v4.2.1, v4.2.2)) else (Option.bind (f_X12_isThawed v4.2.1 a1) (fun v6 => Option.bind (f_X12_throwsIf v6 2 v4.2.1 v4.2.2) (fun v8 => if v8.1 = 0 then (Option.bind (f_X12_remembers φ v8.2.1 v8.2.2) (fun v10 => Option.bind (f_X12_at a1 6) (fun v12 => gzGd (v12) 2062 (Option.bind (f_X12_tells φ a1 1 0 (gz_ui v10.2.1 0 48 v12.toNatClampNeg 1) v10.2.2) (fun v15 => Option.bind (f_X12_of v15.2.1 a1 4) (fun v17 => some (v17, v15.2.1, v15.2.2))))))) else (some (0, v8.2.1, v8.2.2)))))))
set_option maxRecDepth 20000 in
theorem c_X12_forgive {g : gzG} {d φ : Nat} {a1 : Int32} {I : gzIT} {J : gzJT} {r : Int32 × gzIT × gzJT} (h : f_X12_forgive φ a1 I J = some r) : gzC g 0 (d + 3) mX12_forgive [.inr (.inr (0, 47)), .inl a1] (gzN, gzR0, I, J) (gzE (.ok (some (.inl r.1))) (gzN, gzR0, r.2.1, r.2.2)) := by
  unfold f_X12_forgive at h
  refine gzC_of (by decide +kernel) (Nat.le_of_ble_eq_true rfl) (loc := [some (.inr (.inr (0, 47))), some (.inl a1)]) rfl ?_
  have z_0_47 : gzOk 0 47 gzN := gzOk_of (by decide)
  have z_0_48 : gzOk 0 48 gzN := gzOk_of (by decide)
  refine gz_aload_n (pc := 0) dX12_forgive_0 rfl ?_
  refine gz_iconst (pc := 1) dX12_forgive_1 (v := 0) (by decide) ?_
  refine gp_X12_3 (pc := 2) dX12_forgive_2 z_0_47 rfl ?_
  refine gz_aload_n (pc := 5) dX12_forgive_5 rfl ?_
  refine gz_aload_n (pc := 6) dX12_forgive_6 rfl ?_
  refine gz_iload_n (pc := 7) dX12_forgive_7 rfl ?_
  refine gz_V (zy := mX12_noGrudge) (zc := 0) (pc := 8) [.inl a1] rfl dX12_forgive_8 lkX12_315 MvX12_noGrudge rfl z_0_47 rfl rfl rfl (Or.inl rfl) (fun h => h) (by exact Nat.le_of_ble_eq_true rfl) ?_
  obtain ⟨v2, e1, h⟩ := gz_bd h
  refine gz_useI (c_X12_noGrudge e1) ?_
  refine gz_iconst (pc := 11) dX12_forgive_11 (v := 1) (by decide) ?_
  refine gz_V (zy := mX12_throwsIf) (zc := 0) (pc := 12) [.inl v2, .inl 1] rfl dX12_forgive_12 lkX12_269 MvX12_throwsIf rfl z_0_47 rfl rfl rfl (Or.inl rfl) (fun h => h) (by exact Nat.le_of_ble_eq_true rfl) ?_
  obtain ⟨v4, e3, h⟩ := gz_bd h
  refine gz_useI (c_X12_throwsIf e3) ?_
  refine gz_if_ne (pc := 15) (tgt := 31) dX12_forgive_15 (by decide) (fun c => ?_) (fun c => ?_)
  · replace h := gz_ifp c h
    refine gz_iconst (pc := 31) dX12_forgive_31 (v := 0) (by decide) ?_
    cases h; exact gz_iret (pc := 32) dX12_forgive_32 rfl ⟨rfl, rfl⟩
  · replace h := gz_ifn (fun q => q c) h
    refine gz_aload_n (pc := 18) dX12_forgive_18 rfl ?_
    refine gz_aload_n (pc := 19) dX12_forgive_19 rfl ?_
    refine gz_iload_n (pc := 20) dX12_forgive_20 rfl ?_
    refine gz_V (zy := mX12_isThawed) (zc := 0) (pc := 21) [.inl a1] rfl dX12_forgive_21 lkX12_76 MvX12_isThawed rfl z_0_47 rfl rfl rfl (Or.inl rfl) (fun h => h) (by exact Nat.le_of_ble_eq_true rfl) ?_
    obtain ⟨v6, e5, h⟩ := gz_bd h
    refine gz_useI (c_X12_isThawed e5) ?_
    refine gz_iconst (pc := 24) dX12_forgive_24 (v := 2) (by decide) ?_
    refine gz_V (zy := mX12_throwsIf) (zc := 0) (pc := 25) [.inl v6, .inl 2] rfl dX12_forgive_25 lkX12_269 MvX12_throwsIf rfl z_0_47 rfl rfl rfl (Or.inl rfl) (fun h => h) (by exact Nat.le_of_ble_eq_true rfl) ?_
    obtain ⟨v8, e7, h⟩ := gz_bd h
    refine gz_useI (c_X12_throwsIf e7) ?_
    refine gz_if_eq (pc := 28) (tgt := 33) dX12_forgive_28 (by decide) (fun c => ?_) (fun c => ?_)
    · replace h := gz_ifp c h
      refine gz_aload_n (pc := 33) dX12_forgive_33 rfl ?_
      refine gz_V (zy := mX12_remembers) (zc := 0) (pc := 34) [] rfl dX12_forgive_34 lkX12_361 MvX12_remembers rfl z_0_47 rfl rfl rfl (Or.inl rfl) (fun h => h) (by exact Nat.le_of_ble_eq_true rfl) ?_
      obtain ⟨v10, e9, h⟩ := gz_bd h
      refine gz_useV (c_X12_remembers e9) ?_
      refine gz_aload_n (pc := 37) dX12_forgive_37 rfl ?_
      refine gr_X12_13 (pc := 38) dX12_forgive_38 z_0_47 rfl ?_
      refine gz_iload_n (pc := 41) dX12_forgive_41 rfl ?_
      refine gz_bipush (pc := 42) dX12_forgive_42 (v := 6) (by decide) ?_
      refine gz_S (zy := mX12_at) (zc := 0) (pc := 44) [.inl a1, .inl 6] rfl dX12_forgive_44 lkX12_67 MsX12_at rfl (Or.inl rfl) (fun h => h) (by exact Nat.le_of_ble_eq_true rfl) ?_
      obtain ⟨v12, e11, h⟩ := gz_bd h
      refine gz_useI (c_X12_at e11) ?_
      refine gz_iconst (pc := 47) dX12_forgive_47 (v := 1) (by decide) ?_
      obtain ⟨b13, h⟩ := gz_gd h
      refine gz_iast2 (pc := 48) dX12_forgive_48 (k := v12.toNatClampNeg) z_0_48 rfl b13 rfl ?_
      refine gz_aload_n (pc := 49) dX12_forgive_49 rfl ?_
      refine gz_iload_n (pc := 50) dX12_forgive_50 rfl ?_
      refine gz_iconst (pc := 51) dX12_forgive_51 (v := 1) (by decide) ?_
      refine gz_iconst (pc := 52) dX12_forgive_52 (v := 0) (by decide) ?_
      refine gz_V (zy := mX12_tells) (zc := 0) (pc := 53) [.inl a1, .inl 1, .inl 0] rfl dX12_forgive_53 lkX12_337 MvX12_tells rfl z_0_47 rfl rfl rfl (Or.inl rfl) (fun h => h) (by exact Nat.le_of_ble_eq_true rfl) ?_
      obtain ⟨v15, e14, h⟩ := gz_bd h
      refine gz_useV (c_X12_tells e14) ?_
      refine gz_aload_n (pc := 56) dX12_forgive_56 rfl ?_
      refine gz_iload_n (pc := 57) dX12_forgive_57 rfl ?_
      refine gz_iconst (pc := 58) dX12_forgive_58 (v := 4) (by decide) ?_
      refine gz_V (zy := mX12_of) (zc := 0) (pc := 59) [.inl a1, .inl 4] rfl dX12_forgive_59 lkX12_70 MvX12_of rfl z_0_47 rfl rfl rfl (Or.inl rfl) (fun h => h) (by exact Nat.le_of_ble_eq_true rfl) ?_
      obtain ⟨v17, e16, h⟩ := gz_bd h
      refine gz_useI (c_X12_of e16) ?_
      cases h; exact gz_iret (pc := 62) dX12_forgive_62 rfl ⟨rfl, rfl⟩
    · replace h := gz_ifn c h
      refine gz_iconst (pc := 31) dX12_forgive_31 (v := 0) (by decide) ?_
      cases h; exact gz_iret (pc := 32) dX12_forgive_32 rfl ⟨rfl, rfl⟩
/-! X12_nurse: nurse -/
def f_X12_nurse (φ : Nat) (a1 : Int32) (a2 : Int32) (I : gzIT) (J : gzJT) : Option (Int32 × gzIT × gzJT) := Option.bind (f_X12_noGrudge (gz_ui I 0 47 0 0) a1) (fun v2 => Option.bind (f_X12_throwsIf v2 1 (gz_ui I 0 47 0 0) J) (fun v4 => if ¬ v4.1 = 0 then (some (0, v4.2.1, v4.2.2)) else (Option.bind (f_X12_isThawed v4.2.1 a1) (fun v6 => Option.bind (f_X12_throwsIf v6 2 v4.2.1 v4.2.2) (fun v8 => if v8.1 = 0 then (Option.bind (f_X12_remembers φ v8.2.1 v8.2.2) (fun v10 => Option.bind (f_X12_of v10.2.1 a1 5) (fun v12 => Option.bind (f_X12_at a1 5) (fun v15 => gzGd (v15) 2062 (some ((if (if ¬ v12 = 1 then (0 : Int32) else 1) = a2 then (0 : Int32) else 1), gz_ui v10.2.1 0 48 v15.toNatClampNeg (if a2 = 0 then (0 : Int32) else 1), v10.2.2)))))) else (some (0, v8.2.1, v8.2.2)))))))
set_option maxRecDepth 20000 in
theorem c_X12_nurse {g : gzG} {d φ : Nat} {a1 : Int32} {a2 : Int32} {I : gzIT} {J : gzJT} {r : Int32 × gzIT × gzJT} (h : f_X12_nurse φ a1 a2 I J = some r) : gzC g 0 (d + 3) mX12_nurse [.inr (.inr (0, 47)), .inl a1, .inl a2] (gzN, gzR0, I, J) (gzE (.ok (some (.inl r.1))) (gzN, gzR0, r.2.1, r.2.2)) := by
  unfold f_X12_nurse at h
  refine gzC_of (by decide +kernel) (Nat.le_of_ble_eq_true rfl) (loc := [some (.inr (.inr (0, 47))), some (.inl a1), some (.inl a2), none]) rfl ?_
  have z_0_47 : gzOk 0 47 gzN := gzOk_of (by decide)
  have z_0_48 : gzOk 0 48 gzN := gzOk_of (by decide)
  refine gz_aload_n (pc := 0) dX12_nurse_0 rfl ?_
  refine gz_iconst (pc := 1) dX12_nurse_1 (v := 0) (by decide) ?_
  refine gp_X12_3 (pc := 2) dX12_nurse_2 z_0_47 rfl ?_
  refine gz_aload_n (pc := 5) dX12_nurse_5 rfl ?_
  refine gz_aload_n (pc := 6) dX12_nurse_6 rfl ?_
  refine gz_iload_n (pc := 7) dX12_nurse_7 rfl ?_
  refine gz_V (zy := mX12_noGrudge) (zc := 0) (pc := 8) [.inl a1] rfl dX12_nurse_8 lkX12_315 MvX12_noGrudge rfl z_0_47 rfl rfl rfl (Or.inl rfl) (fun h => h) (by exact Nat.le_of_ble_eq_true rfl) ?_
  obtain ⟨v2, e1, h⟩ := gz_bd h
  refine gz_useI (c_X12_noGrudge e1) ?_
  refine gz_iconst (pc := 11) dX12_nurse_11 (v := 1) (by decide) ?_
  refine gz_V (zy := mX12_throwsIf) (zc := 0) (pc := 12) [.inl v2, .inl 1] rfl dX12_nurse_12 lkX12_269 MvX12_throwsIf rfl z_0_47 rfl rfl rfl (Or.inl rfl) (fun h => h) (by exact Nat.le_of_ble_eq_true rfl) ?_
  obtain ⟨v4, e3, h⟩ := gz_bd h
  refine gz_useI (c_X12_throwsIf e3) ?_
  refine gz_if_ne (pc := 15) (tgt := 31) dX12_nurse_15 (by decide) (fun c => ?_) (fun c => ?_)
  · replace h := gz_ifp c h
    refine gz_iconst (pc := 31) dX12_nurse_31 (v := 0) (by decide) ?_
    cases h; exact gz_zret (pc := 32) dX12_nurse_32 rfl (by decide) ⟨rfl, rfl⟩
  · replace h := gz_ifn (fun q => q c) h
    refine gz_aload_n (pc := 18) dX12_nurse_18 rfl ?_
    refine gz_aload_n (pc := 19) dX12_nurse_19 rfl ?_
    refine gz_iload_n (pc := 20) dX12_nurse_20 rfl ?_
    refine gz_V (zy := mX12_isThawed) (zc := 0) (pc := 21) [.inl a1] rfl dX12_nurse_21 lkX12_76 MvX12_isThawed rfl z_0_47 rfl rfl rfl (Or.inl rfl) (fun h => h) (by exact Nat.le_of_ble_eq_true rfl) ?_
    obtain ⟨v6, e5, h⟩ := gz_bd h
    refine gz_useI (c_X12_isThawed e5) ?_
    refine gz_iconst (pc := 24) dX12_nurse_24 (v := 2) (by decide) ?_
    refine gz_V (zy := mX12_throwsIf) (zc := 0) (pc := 25) [.inl v6, .inl 2] rfl dX12_nurse_25 lkX12_269 MvX12_throwsIf rfl z_0_47 rfl rfl rfl (Or.inl rfl) (fun h => h) (by exact Nat.le_of_ble_eq_true rfl) ?_
    obtain ⟨v8, e7, h⟩ := gz_bd h
    refine gz_useI (c_X12_throwsIf e7) ?_
    refine gz_if_eq (pc := 28) (tgt := 33) dX12_nurse_28 (by decide) (fun c => ?_) (fun c => ?_)
    · replace h := gz_ifp c h
      refine gz_aload_n (pc := 33) dX12_nurse_33 rfl ?_
      refine gz_V (zy := mX12_remembers) (zc := 0) (pc := 34) [] rfl dX12_nurse_34 lkX12_361 MvX12_remembers rfl z_0_47 rfl rfl rfl (Or.inl rfl) (fun h => h) (by exact Nat.le_of_ble_eq_true rfl) ?_
      obtain ⟨v10, e9, h⟩ := gz_bd h
      refine gz_useV (c_X12_remembers e9) ?_
      refine gz_aload_n (pc := 37) dX12_nurse_37 rfl ?_
      refine gz_iload_n (pc := 38) dX12_nurse_38 rfl ?_
      refine gz_iconst (pc := 39) dX12_nurse_39 (v := 5) (by decide) ?_
      refine gz_V (zy := mX12_of) (zc := 0) (pc := 40) [.inl a1, .inl 5] rfl dX12_nurse_40 lkX12_70 MvX12_of rfl z_0_47 rfl rfl rfl (Or.inl rfl) (fun h => h) (by exact Nat.le_of_ble_eq_true rfl) ?_
      obtain ⟨v12, e11, h⟩ := gz_bd h
      refine gz_useI (c_X12_of e11) ?_
      refine gz_iconst (pc := 43) dX12_nurse_43 (v := 1) (by decide) ?_
      have kj13 : gzX g 0 (d + 3) mX12_nurse 52 [some (.inr (.inr (0, 47))), some (.inl a1), some (.inl a2), none] ([.inl (if ¬ v12 = 1 then (0 : Int32) else 1)]) (gzN, gzR0, v10.2.1, v10.2.2) 0 (gzE (.ok (some (.inl r.1))) (gzN, gzR0, r.2.1, r.2.2)) := by
        refine gz_istore_n (pc := 52) dX12_nurse_52 (by decide) rfl (loc2 := [some (.inr (.inr (0, 47))), some (.inl a1), some (.inl a2), some (.inl (if ¬ v12 = 1 then (0 : Int32) else 1))]) rfl ?_
        refine gz_aload_n (pc := 53) dX12_nurse_53 rfl ?_
        refine gr_X12_13 (pc := 54) dX12_nurse_54 z_0_47 rfl ?_
        refine gz_iload_n (pc := 57) dX12_nurse_57 rfl ?_
        refine gz_iconst (pc := 58) dX12_nurse_58 (v := 5) (by decide) ?_
        refine gz_S (zy := mX12_at) (zc := 0) (pc := 59) [.inl a1, .inl 5] rfl dX12_nurse_59 lkX12_67 MsX12_at rfl (Or.inl rfl) (fun h => h) (by exact Nat.le_of_ble_eq_true rfl) ?_
        obtain ⟨v15, e14, h⟩ := gz_bd h
        refine gz_useI (c_X12_at e14) ?_
        refine gz_iload_n (pc := 62) dX12_nurse_62 rfl ?_
        have kj16 : gzX g 0 (d + 3) mX12_nurse 71 [some (.inr (.inr (0, 47))), some (.inl a1), some (.inl a2), some (.inl (if ¬ v12 = 1 then (0 : Int32) else 1))] ([.inl (if a2 = 0 then (0 : Int32) else 1), .inl v15, .inr (.inr (0, 48))]) (gzN, gzR0, v10.2.1, v10.2.2) 0 (gzE (.ok (some (.inl r.1))) (gzN, gzR0, r.2.1, r.2.2)) := by
          obtain ⟨b17, h⟩ := gz_gd h
          refine gz_iast2 (pc := 71) dX12_nurse_71 (k := v15.toNatClampNeg) z_0_48 rfl b17 rfl ?_
          refine gz_iload_n (pc := 72) dX12_nurse_72 rfl ?_
          refine gz_iload_n (pc := 73) dX12_nurse_73 rfl ?_
          have kj18 : gzX g 0 (d + 3) mX12_nurse 82 [some (.inr (.inr (0, 47))), some (.inl a1), some (.inl a2), some (.inl (if ¬ v12 = 1 then (0 : Int32) else 1))] ([.inl (if (if ¬ v12 = 1 then (0 : Int32) else 1) = a2 then (0 : Int32) else 1)]) (gzN, gzR0, gz_ui v10.2.1 0 48 v15.toNatClampNeg (if a2 = 0 then (0 : Int32) else 1), v10.2.2) 0 (gzE (.ok (some (.inl r.1))) (gzN, gzR0, r.2.1, r.2.2)) := by
            cases h; exact gz_zret (pc := 82) dX12_nurse_82 rfl (by first | exact gz_ite01 | exact gz_ite10) ⟨rfl, rfl⟩
          refine gz_ic_eq (pc := 74) (tgt := 81) dX12_nurse_74 (by decide) (fun c => ?_) (fun c => ?_)
          · rw [if_pos c] at kj18
            refine gz_iconst (pc := 81) dX12_nurse_81 (v := 0) (by decide) ?_
            exact kj18
          · rw [if_neg c] at kj18
            refine gz_iconst (pc := 77) dX12_nurse_77 (v := 1) (by decide) ?_
            refine gz_goto (pc := 78) (tgt := 82) dX12_nurse_78 (by decide) ?_
            exact kj18
        refine gz_if_eq (pc := 63) (tgt := 70) dX12_nurse_63 (by decide) (fun c => ?_) (fun c => ?_)
        · rw [if_pos c] at kj16
          refine gz_iconst (pc := 70) dX12_nurse_70 (v := 0) (by decide) ?_
          exact kj16
        · rw [if_neg c] at kj16
          refine gz_iconst (pc := 66) dX12_nurse_66 (v := 1) (by decide) ?_
          refine gz_goto (pc := 67) (tgt := 71) dX12_nurse_67 (by decide) ?_
          exact kj16
      refine gz_ic_ne (pc := 44) (tgt := 51) dX12_nurse_44 (by decide) (fun c => ?_) (fun c => ?_)
      · rw [if_pos c] at kj13
        refine gz_iconst (pc := 51) dX12_nurse_51 (v := 0) (by decide) ?_
        exact kj13
      · rw [if_neg (show ¬ (¬ v12 = 1) from fun q => q c)] at kj13
        refine gz_iconst (pc := 47) dX12_nurse_47 (v := 1) (by decide) ?_
        refine gz_goto (pc := 48) (tgt := 52) dX12_nurse_48 (by decide) ?_
        exact kj13
    · replace h := gz_ifn c h
      refine gz_iconst (pc := 31) dX12_nurse_31 (v := 0) (by decide) ?_
      cases h; exact gz_zret (pc := 32) dX12_nurse_32 rfl (by decide) ⟨rfl, rfl⟩
/-! X12_saw: saw -/
def f_X12_saw (φ : Nat) (a1 : Int32) (a2 : Int32) (a3 : Int32) (I : gzIT) (J : gzJT) : Option (Int32 × gzIT × gzJT) := Option.bind (f_X12_noGrudge (gz_ui I 0 47 0 0) a1) (fun v2 => if ¬ v2 = 0 then (Option.bind (f_X12_throwsIf 1 1 (gz_ui I 0 47 0 0) J) (fun v4 => if ¬ v4.1 = 0 then (some (0, v4.2.1, v4.2.2)) else (Option.bind (f_X12_in a3 1 999) (fun v6 => Option.bind (f_X12_throwsIf (if ¬ v6 = 0 then (0 : Int32) else 1) 2 v4.2.1 v4.2.2) (fun v9 => if ¬ v9.1 = 0 then (some (0, v9.2.1, v9.2.2)) else (Option.bind (f_X12_isThawed v9.2.1 a1) (fun v11 => if ¬ v11 = 0 then (Option.bind (f_X12_throwsIf 1 3 v9.2.1 v9.2.2) (fun v13 => if v13.1 = 0 then (Option.bind (f_X12_remembers φ v13.2.1 v13.2.2) (fun v15 => Option.bind (f_X12_at a1 4) (fun v17 => gzGd (v17) 2062 (Option.bind (f_X12_familyAt a2 2) (fun v20 => Option.bind (f_X12_adds v20 a3 999 (gz_ui v15.2.1 0 48 v17.toNatClampNeg ((v15.2.1 0 48 v17.toNatClampNeg) - a3)) v15.2.2) (fun v22 => Option.bind (f_X12_tells φ a1 2 a3 v22.2.1 v22.2.2) (fun v24 => Option.bind (f_X12_of v24.2.1 a1 4) (fun v26 => some (v26, v24.2.1, v24.2.2))))))))) else (some (0, v13.2.1, v13.2.2)))) else (Option.bind (f_X12_isOf v9.2.1 a1 a2) (fun v28 => if ¬ v28 = 0 then (Option.bind (f_X12_throwsIf 1 3 v9.2.1 v9.2.2) (fun v30 => if v30.1 = 0 then (Option.bind (f_X12_remembers φ v30.2.1 v30.2.2) (fun v32 => Option.bind (f_X12_at a1 4) (fun v34 => gzGd (v34) 2062 (Option.bind (f_X12_familyAt a2 2) (fun v37 => Option.bind (f_X12_adds v37 a3 999 (gz_ui v32.2.1 0 48 v34.toNatClampNeg ((v32.2.1 0 48 v34.toNatClampNeg) - a3)) v32.2.2) (fun v39 => Option.bind (f_X12_tells φ a1 2 a3 v39.2.1 v39.2.2) (fun v41 => Option.bind (f_X12_of v41.2.1 a1 4) (fun v43 => some (v43, v41.2.1, v41.2.2))))))))) else (some (0, v30.2.1, v30.2.2)))) else (Option.bind (f_X12_of v9.2.1 a1 4) (fun v45 => Option.bind (f_X12_throwsIf (if a3 ≤ v45 then (0 : Int32) else 1) 3 v9.2.1 v9.2.2) (fun v48 => if v48.1 = 0 then (Option.bind (f_X12_remembers φ v48.2.1 v48.2.2) (fun v50 => Option.bind (f_X12_at a1 4) (fun v52 => gzGd (v52) 2062 (Option.bind (f_X12_familyAt a2 2) (fun v55 => Option.bind (f_X12_adds v55 a3 999 (gz_ui v50.2.1 0 48 v52.toNatClampNeg ((v50.2.1 0 48 v52.toNatClampNeg) - a3)) v50.2.2) (fun v57 => Option.bind (f_X12_tells φ a1 2 a3 v57.2.1 v57.2.2) (fun v59 => Option.bind (f_X12_of v59.2.1 a1 4) (fun v61 => some (v61, v59.2.1, v59.2.2))))))))) else (some (0, v48.2.1, v48.2.2)))))))))))))) else (Option.bind (f_X12_noFamily (gz_ui I 0 47 0 0) a2) (fun v63 => Option.bind (f_X12_throwsIf (if v63 = 0 then (0 : Int32) else 1) 1 (gz_ui I 0 47 0 0) J) (fun v66 => if ¬ v66.1 = 0 then (some (0, v66.2.1, v66.2.2)) else (Option.bind (f_X12_in a3 1 999) (fun v68 => Option.bind (f_X12_throwsIf (if ¬ v68 = 0 then (0 : Int32) else 1) 2 v66.2.1 v66.2.2) (fun v71 => if ¬ v71.1 = 0 then (some (0, v71.2.1, v71.2.2)) else (Option.bind (f_X12_isThawed v71.2.1 a1) (fun v73 => if ¬ v73 = 0 then (Option.bind (f_X12_throwsIf 1 3 v71.2.1 v71.2.2) (fun v75 => if v75.1 = 0 then (Option.bind (f_X12_remembers φ v75.2.1 v75.2.2) (fun v77 => Option.bind (f_X12_at a1 4) (fun v79 => gzGd (v79) 2062 (Option.bind (f_X12_familyAt a2 2) (fun v82 => Option.bind (f_X12_adds v82 a3 999 (gz_ui v77.2.1 0 48 v79.toNatClampNeg ((v77.2.1 0 48 v79.toNatClampNeg) - a3)) v77.2.2) (fun v84 => Option.bind (f_X12_tells φ a1 2 a3 v84.2.1 v84.2.2) (fun v86 => Option.bind (f_X12_of v86.2.1 a1 4) (fun v88 => some (v88, v86.2.1, v86.2.2))))))))) else (some (0, v75.2.1, v75.2.2)))) else (Option.bind (f_X12_isOf v71.2.1 a1 a2) (fun v90 => if ¬ v90 = 0 then (Option.bind (f_X12_throwsIf 1 3 v71.2.1 v71.2.2) (fun v92 => if v92.1 = 0 then (Option.bind (f_X12_remembers φ v92.2.1 v92.2.2) (fun v94 => Option.bind (f_X12_at a1 4) (fun v96 => gzGd (v96) 2062 (Option.bind (f_X12_familyAt a2 2) (fun v99 => Option.bind (f_X12_adds v99 a3 999 (gz_ui v94.2.1 0 48 v96.toNatClampNeg ((v94.2.1 0 48 v96.toNatClampNeg) - a3)) v94.2.2) (fun v101 => Option.bind (f_X12_tells φ a1 2 a3 v101.2.1 v101.2.2) (fun v103 => Option.bind (f_X12_of v103.2.1 a1 4) (fun v105 => some (v105, v103.2.1, v103.2.2))))))))) else (some (0, v92.2.1, v92.2.2)))) else (Option.bind (f_X12_of v71.2.1 a1 4) (fun v107 => Option.bind (f_X12_throwsIf (if a3 ≤ v107 then (0 : Int32) else 1) 3 v71.2.1 v71.2.2) (fun v110 => if v110.1 = 0 then (Option.bind (f_X12_remembers φ v110.2.1 v110.2.2) (fun v112 => Option.bind (f_X12_at a1 4) (fun v114 => gzGd (v114) 2062 (Option.bind (f_X12_familyAt a2 2) (fun v117 => Option.bind (f_X12_adds v117 a3 999 (gz_ui v112.2.1 0 48 v114.toNatClampNeg ((v112.2.1 0 48 v114.toNatClampNeg) - a3)) v112.2.2) (fun v119 => Option.bind (f_X12_tells φ a1 2 a3 v119.2.1 v119.2.2) (fun v121 => Option.bind (f_X12_of v121.2.1 a1 4) (fun v123 => some (v123, v121.2.1, v121.2.2))))))))) else (some (0, v110.2.1, v110.2.2))))))))))))))))
set_option maxRecDepth 20000 in
theorem c_X12_saw {g : gzG} {d φ : Nat} {a1 : Int32} {a2 : Int32} {a3 : Int32} {I : gzIT} {J : gzJT} {r : Int32 × gzIT × gzJT} (h : f_X12_saw φ a1 a2 a3 I J = some r) : gzC g 0 (d + 3) mX12_saw [.inr (.inr (0, 47)), .inl a1, .inl a2, .inl a3] (gzN, gzR0, I, J) (gzE (.ok (some (.inl r.1))) (gzN, gzR0, r.2.1, r.2.2)) := by
  unfold f_X12_saw at h
  refine gzC_of (by decide +kernel) (Nat.le_of_ble_eq_true rfl) (loc := [some (.inr (.inr (0, 47))), some (.inl a1), some (.inl a2), some (.inl a3)]) rfl ?_
  have z_0_47 : gzOk 0 47 gzN := gzOk_of (by decide)
  have z_0_48 : gzOk 0 48 gzN := gzOk_of (by decide)
  refine gz_aload_n (pc := 0) dX12_saw_0 rfl ?_
  refine gz_iconst (pc := 1) dX12_saw_1 (v := 0) (by decide) ?_
  refine gp_X12_3 (pc := 2) dX12_saw_2 z_0_47 rfl ?_
  refine gz_aload_n (pc := 5) dX12_saw_5 rfl ?_
  refine gz_aload_n (pc := 6) dX12_saw_6 rfl ?_
  refine gz_iload_n (pc := 7) dX12_saw_7 rfl ?_
  refine gz_V (zy := mX12_noGrudge) (zc := 0) (pc := 8) [.inl a1] rfl dX12_saw_8 lkX12_315 MvX12_noGrudge rfl z_0_47 rfl rfl rfl (Or.inl rfl) (fun h => h) (by exact Nat.le_of_ble_eq_true rfl) ?_
  obtain ⟨v2, e1, h⟩ := gz_bd h
  refine gz_useI (c_X12_noGrudge e1) ?_
  refine gz_if_ne (pc := 11) (tgt := 22) dX12_saw_11 (by decide) (fun c => ?_) (fun c => ?_)
  · replace h := gz_ifp c h
    refine gz_iconst (pc := 22) dX12_saw_22 (v := 1) (by decide) ?_
    refine gz_goto (pc := 23) (tgt := 27) dX12_saw_23 (by decide) ?_
    refine gz_iconst (pc := 27) dX12_saw_27 (v := 1) (by decide) ?_
    refine gz_V (zy := mX12_throwsIf) (zc := 0) (pc := 28) [.inl 1, .inl 1] rfl dX12_saw_28 lkX12_269 MvX12_throwsIf rfl z_0_47 rfl rfl rfl (Or.inl rfl) (fun h => h) (by exact Nat.le_of_ble_eq_true rfl) ?_
    obtain ⟨v4, e3, h⟩ := gz_bd h
    refine gz_useI (c_X12_throwsIf e3) ?_
    refine gz_if_ne (pc := 31) (tgt := 98) dX12_saw_31 (by decide) (fun c => ?_) (fun c => ?_)
    · replace h := gz_ifp c h
      refine gz_iconst (pc := 98) dX12_saw_98 (v := 0) (by decide) ?_
      cases h; exact gz_iret (pc := 99) dX12_saw_99 rfl ⟨rfl, rfl⟩
    · replace h := gz_ifn (fun q => q c) h
      refine gz_aload_n (pc := 34) dX12_saw_34 rfl ?_
      refine gz_iload_n (pc := 35) dX12_saw_35 rfl ?_
      refine gz_iconst (pc := 36) dX12_saw_36 (v := 1) (by decide) ?_
      refine gz_sipush (pc := 37) dX12_saw_37 (v := 999) (by decide) ?_
      refine gz_S (zy := mX12_in) (zc := 0) (pc := 40) [.inl a3, .inl 1, .inl 999] rfl dX12_saw_40 lkX12_84 MsX12_in rfl (Or.inl rfl) (fun h => h) (by exact Nat.le_of_ble_eq_true rfl) ?_
      obtain ⟨v6, e5, h⟩ := gz_bd h
      refine gz_useI (c_X12_in e5) ?_
      have kj7 : gzX g 0 (d + 3) mX12_saw 51 [some (.inr (.inr (0, 47))), some (.inl a1), some (.inl a2), some (.inl a3)] ([.inl (if ¬ v6 = 0 then (0 : Int32) else 1), .inr (.inr (0, 47))]) (gzN, gzR0, v4.2.1, v4.2.2) 0 (gzE (.ok (some (.inl r.1))) (gzN, gzR0, r.2.1, r.2.2)) := by
        refine gz_iconst (pc := 51) dX12_saw_51 (v := 2) (by decide) ?_
        refine gz_V (zy := mX12_throwsIf) (zc := 0) (pc := 52) [.inl (if ¬ v6 = 0 then (0 : Int32) else 1), .inl 2] rfl dX12_saw_52 lkX12_269 MvX12_throwsIf rfl z_0_47 rfl rfl rfl (Or.inl rfl) (fun h => h) (by exact Nat.le_of_ble_eq_true rfl) ?_
        obtain ⟨v9, e8, h⟩ := gz_bd h
        refine gz_useI (c_X12_throwsIf e8) ?_
        refine gz_if_ne (pc := 55) (tgt := 98) dX12_saw_55 (by decide) (fun c => ?_) (fun c => ?_)
        · replace h := gz_ifp c h
          refine gz_iconst (pc := 98) dX12_saw_98 (v := 0) (by decide) ?_
          cases h; exact gz_iret (pc := 99) dX12_saw_99 rfl ⟨rfl, rfl⟩
        · replace h := gz_ifn (fun q => q c) h
          refine gz_aload_n (pc := 58) dX12_saw_58 rfl ?_
          refine gz_aload_n (pc := 59) dX12_saw_59 rfl ?_
          refine gz_iload_n (pc := 60) dX12_saw_60 rfl ?_
          refine gz_V (zy := mX12_isThawed) (zc := 0) (pc := 61) [.inl a1] rfl dX12_saw_61 lkX12_76 MvX12_isThawed rfl z_0_47 rfl rfl rfl (Or.inl rfl) (fun h => h) (by exact Nat.le_of_ble_eq_true rfl) ?_
          obtain ⟨v11, e10, h⟩ := gz_bd h
          refine gz_useI (c_X12_isThawed e10) ?_
          refine gz_if_ne (pc := 64) (tgt := 86) dX12_saw_64 (by decide) (fun c => ?_) (fun c => ?_)
          · replace h := gz_ifp c h
            refine gz_iconst (pc := 86) dX12_saw_86 (v := 1) (by decide) ?_
            refine gz_goto (pc := 87) (tgt := 91) dX12_saw_87 (by decide) ?_
            refine gz_iconst (pc := 91) dX12_saw_91 (v := 3) (by decide) ?_
            refine gz_V (zy := mX12_throwsIf) (zc := 0) (pc := 92) [.inl 1, .inl 3] rfl dX12_saw_92 lkX12_269 MvX12_throwsIf rfl z_0_47 rfl rfl rfl (Or.inl rfl) (fun h => h) (by exact Nat.le_of_ble_eq_true rfl) ?_
            obtain ⟨v13, e12, h⟩ := gz_bd h
            refine gz_useI (c_X12_throwsIf e12) ?_
            refine gz_if_eq (pc := 95) (tgt := 100) dX12_saw_95 (by decide) (fun c => ?_) (fun c => ?_)
            · replace h := gz_ifp c h
              refine gz_aload_n (pc := 100) dX12_saw_100 rfl ?_
              refine gz_V (zy := mX12_remembers) (zc := 0) (pc := 101) [] rfl dX12_saw_101 lkX12_361 MvX12_remembers rfl z_0_47 rfl rfl rfl (Or.inl rfl) (fun h => h) (by exact Nat.le_of_ble_eq_true rfl) ?_
              obtain ⟨v15, e14, h⟩ := gz_bd h
              refine gz_useV (c_X12_remembers e14) ?_
              refine gz_aload_n (pc := 104) dX12_saw_104 rfl ?_
              refine gr_X12_13 (pc := 105) dX12_saw_105 z_0_47 rfl ?_
              refine gz_iload_n (pc := 108) dX12_saw_108 rfl ?_
              refine gz_iconst (pc := 109) dX12_saw_109 (v := 4) (by decide) ?_
              refine gz_S (zy := mX12_at) (zc := 0) (pc := 110) [.inl a1, .inl 4] rfl dX12_saw_110 lkX12_67 MsX12_at rfl (Or.inl rfl) (fun h => h) (by exact Nat.le_of_ble_eq_true rfl) ?_
              obtain ⟨v17, e16, h⟩ := gz_bd h
              refine gz_useI (c_X12_at e16) ?_
              refine gz_dup2IR (pc := 113) dX12_saw_113  ?_
              obtain ⟨b18, h⟩ := gz_gd h
              refine gz_iald2 (pc := 114) dX12_saw_114 (k := v17.toNatClampNeg) (v := v15.2.1 0 48 v17.toNatClampNeg) z_0_48 rfl b18 rfl rfl ?_
              refine gz_iload_n (pc := 115) dX12_saw_115 rfl ?_
              refine gz_isub (pc := 116) dX12_saw_116  ?_
              refine gz_iast2 (pc := 117) dX12_saw_117 (k := v17.toNatClampNeg) z_0_48 rfl b18 rfl ?_
              refine gz_aload_n (pc := 118) dX12_saw_118 rfl ?_
              refine gz_iload_n (pc := 119) dX12_saw_119 rfl ?_
              refine gz_iconst (pc := 120) dX12_saw_120 (v := 2) (by decide) ?_
              refine gz_S (zy := mX12_familyAt) (zc := 0) (pc := 121) [.inl a2, .inl 2] rfl dX12_saw_121 lkX12_63 MsX12_familyAt rfl (Or.inl rfl) (fun h => h) (by exact Nat.le_of_ble_eq_true rfl) ?_
              obtain ⟨v20, e19, h⟩ := gz_bd h
              refine gz_useI (c_X12_familyAt e19) ?_
              refine gz_iload_n (pc := 124) dX12_saw_124 rfl ?_
              refine gz_sipush (pc := 125) dX12_saw_125 (v := 999) (by decide) ?_
              refine gz_V (zy := mX12_adds) (zc := 0) (pc := 128) [.inl v20, .inl a3, .inl 999] rfl dX12_saw_128 lkX12_333 MvX12_adds rfl z_0_47 rfl rfl rfl (Or.inl rfl) (fun h => h) (by exact Nat.le_of_ble_eq_true rfl) ?_
              obtain ⟨v22, e21, h⟩ := gz_bd h
              refine gz_useV (c_X12_adds e21) ?_
              refine gz_aload_n (pc := 131) dX12_saw_131 rfl ?_
              refine gz_iload_n (pc := 132) dX12_saw_132 rfl ?_
              refine gz_iconst (pc := 133) dX12_saw_133 (v := 2) (by decide) ?_
              refine gz_iload_n (pc := 134) dX12_saw_134 rfl ?_
              refine gz_V (zy := mX12_tells) (zc := 0) (pc := 135) [.inl a1, .inl 2, .inl a3] rfl dX12_saw_135 lkX12_337 MvX12_tells rfl z_0_47 rfl rfl rfl (Or.inl rfl) (fun h => h) (by exact Nat.le_of_ble_eq_true rfl) ?_
              obtain ⟨v24, e23, h⟩ := gz_bd h
              refine gz_useV (c_X12_tells e23) ?_
              refine gz_aload_n (pc := 138) dX12_saw_138 rfl ?_
              refine gz_iload_n (pc := 139) dX12_saw_139 rfl ?_
              refine gz_iconst (pc := 140) dX12_saw_140 (v := 4) (by decide) ?_
              refine gz_V (zy := mX12_of) (zc := 0) (pc := 141) [.inl a1, .inl 4] rfl dX12_saw_141 lkX12_70 MvX12_of rfl z_0_47 rfl rfl rfl (Or.inl rfl) (fun h => h) (by exact Nat.le_of_ble_eq_true rfl) ?_
              obtain ⟨v26, e25, h⟩ := gz_bd h
              refine gz_useI (c_X12_of e25) ?_
              cases h; exact gz_iret (pc := 144) dX12_saw_144 rfl ⟨rfl, rfl⟩
            · replace h := gz_ifn c h
              refine gz_iconst (pc := 98) dX12_saw_98 (v := 0) (by decide) ?_
              cases h; exact gz_iret (pc := 99) dX12_saw_99 rfl ⟨rfl, rfl⟩
          · replace h := gz_ifn (fun q => q c) h
            refine gz_aload_n (pc := 67) dX12_saw_67 rfl ?_
            refine gz_iload_n (pc := 68) dX12_saw_68 rfl ?_
            refine gz_iload_n (pc := 69) dX12_saw_69 rfl ?_
            refine gz_V (zy := mX12_isOf) (zc := 0) (pc := 70) [.inl a1, .inl a2] rfl dX12_saw_70 lkX12_298 MvX12_isOf rfl z_0_47 rfl rfl rfl (Or.inl rfl) (fun h => h) (by exact Nat.le_of_ble_eq_true rfl) ?_
            obtain ⟨v28, e27, h⟩ := gz_bd h
            refine gz_useI (c_X12_isOf e27) ?_
            refine gz_if_ne (pc := 73) (tgt := 86) dX12_saw_73 (by decide) (fun c => ?_) (fun c => ?_)
            · replace h := gz_ifp c h
              refine gz_iconst (pc := 86) dX12_saw_86 (v := 1) (by decide) ?_
              refine gz_goto (pc := 87) (tgt := 91) dX12_saw_87 (by decide) ?_
              refine gz_iconst (pc := 91) dX12_saw_91 (v := 3) (by decide) ?_
              refine gz_V (zy := mX12_throwsIf) (zc := 0) (pc := 92) [.inl 1, .inl 3] rfl dX12_saw_92 lkX12_269 MvX12_throwsIf rfl z_0_47 rfl rfl rfl (Or.inl rfl) (fun h => h) (by exact Nat.le_of_ble_eq_true rfl) ?_
              obtain ⟨v30, e29, h⟩ := gz_bd h
              refine gz_useI (c_X12_throwsIf e29) ?_
              refine gz_if_eq (pc := 95) (tgt := 100) dX12_saw_95 (by decide) (fun c => ?_) (fun c => ?_)
              · replace h := gz_ifp c h
                refine gz_aload_n (pc := 100) dX12_saw_100 rfl ?_
                refine gz_V (zy := mX12_remembers) (zc := 0) (pc := 101) [] rfl dX12_saw_101 lkX12_361 MvX12_remembers rfl z_0_47 rfl rfl rfl (Or.inl rfl) (fun h => h) (by exact Nat.le_of_ble_eq_true rfl) ?_
                obtain ⟨v32, e31, h⟩ := gz_bd h
                refine gz_useV (c_X12_remembers e31) ?_
                refine gz_aload_n (pc := 104) dX12_saw_104 rfl ?_
                refine gr_X12_13 (pc := 105) dX12_saw_105 z_0_47 rfl ?_
                refine gz_iload_n (pc := 108) dX12_saw_108 rfl ?_
                refine gz_iconst (pc := 109) dX12_saw_109 (v := 4) (by decide) ?_
                refine gz_S (zy := mX12_at) (zc := 0) (pc := 110) [.inl a1, .inl 4] rfl dX12_saw_110 lkX12_67 MsX12_at rfl (Or.inl rfl) (fun h => h) (by exact Nat.le_of_ble_eq_true rfl) ?_
                obtain ⟨v34, e33, h⟩ := gz_bd h
                refine gz_useI (c_X12_at e33) ?_
                refine gz_dup2IR (pc := 113) dX12_saw_113  ?_
                obtain ⟨b35, h⟩ := gz_gd h
                refine gz_iald2 (pc := 114) dX12_saw_114 (k := v34.toNatClampNeg) (v := v32.2.1 0 48 v34.toNatClampNeg) z_0_48 rfl b35 rfl rfl ?_
                refine gz_iload_n (pc := 115) dX12_saw_115 rfl ?_
                refine gz_isub (pc := 116) dX12_saw_116  ?_
                refine gz_iast2 (pc := 117) dX12_saw_117 (k := v34.toNatClampNeg) z_0_48 rfl b35 rfl ?_
                refine gz_aload_n (pc := 118) dX12_saw_118 rfl ?_
                refine gz_iload_n (pc := 119) dX12_saw_119 rfl ?_
                refine gz_iconst (pc := 120) dX12_saw_120 (v := 2) (by decide) ?_
                refine gz_S (zy := mX12_familyAt) (zc := 0) (pc := 121) [.inl a2, .inl 2] rfl dX12_saw_121 lkX12_63 MsX12_familyAt rfl (Or.inl rfl) (fun h => h) (by exact Nat.le_of_ble_eq_true rfl) ?_
                obtain ⟨v37, e36, h⟩ := gz_bd h
                refine gz_useI (c_X12_familyAt e36) ?_
                refine gz_iload_n (pc := 124) dX12_saw_124 rfl ?_
                refine gz_sipush (pc := 125) dX12_saw_125 (v := 999) (by decide) ?_
                refine gz_V (zy := mX12_adds) (zc := 0) (pc := 128) [.inl v37, .inl a3, .inl 999] rfl dX12_saw_128 lkX12_333 MvX12_adds rfl z_0_47 rfl rfl rfl (Or.inl rfl) (fun h => h) (by exact Nat.le_of_ble_eq_true rfl) ?_
                obtain ⟨v39, e38, h⟩ := gz_bd h
                refine gz_useV (c_X12_adds e38) ?_
                refine gz_aload_n (pc := 131) dX12_saw_131 rfl ?_
                refine gz_iload_n (pc := 132) dX12_saw_132 rfl ?_
                refine gz_iconst (pc := 133) dX12_saw_133 (v := 2) (by decide) ?_
                refine gz_iload_n (pc := 134) dX12_saw_134 rfl ?_
                refine gz_V (zy := mX12_tells) (zc := 0) (pc := 135) [.inl a1, .inl 2, .inl a3] rfl dX12_saw_135 lkX12_337 MvX12_tells rfl z_0_47 rfl rfl rfl (Or.inl rfl) (fun h => h) (by exact Nat.le_of_ble_eq_true rfl) ?_
                obtain ⟨v41, e40, h⟩ := gz_bd h
                refine gz_useV (c_X12_tells e40) ?_
                refine gz_aload_n (pc := 138) dX12_saw_138 rfl ?_
                refine gz_iload_n (pc := 139) dX12_saw_139 rfl ?_
                refine gz_iconst (pc := 140) dX12_saw_140 (v := 4) (by decide) ?_
                refine gz_V (zy := mX12_of) (zc := 0) (pc := 141) [.inl a1, .inl 4] rfl dX12_saw_141 lkX12_70 MvX12_of rfl z_0_47 rfl rfl rfl (Or.inl rfl) (fun h => h) (by exact Nat.le_of_ble_eq_true rfl) ?_
                obtain ⟨v43, e42, h⟩ := gz_bd h
                refine gz_useI (c_X12_of e42) ?_
                cases h; exact gz_iret (pc := 144) dX12_saw_144 rfl ⟨rfl, rfl⟩
              · replace h := gz_ifn c h
                refine gz_iconst (pc := 98) dX12_saw_98 (v := 0) (by decide) ?_
                cases h; exact gz_iret (pc := 99) dX12_saw_99 rfl ⟨rfl, rfl⟩
            · replace h := gz_ifn (fun q => q c) h
              refine gz_aload_n (pc := 76) dX12_saw_76 rfl ?_
              refine gz_iload_n (pc := 77) dX12_saw_77 rfl ?_
              refine gz_iconst (pc := 78) dX12_saw_78 (v := 4) (by decide) ?_
              refine gz_V (zy := mX12_of) (zc := 0) (pc := 79) [.inl a1, .inl 4] rfl dX12_saw_79 lkX12_70 MvX12_of rfl z_0_47 rfl rfl rfl (Or.inl rfl) (fun h => h) (by exact Nat.le_of_ble_eq_true rfl) ?_
              obtain ⟨v45, e44, h⟩ := gz_bd h
              refine gz_useI (c_X12_of e44) ?_
              refine gz_iload_n (pc := 82) dX12_saw_82 rfl ?_
              have kj46 : gzX g 0 (d + 3) mX12_saw 91 [some (.inr (.inr (0, 47))), some (.inl a1), some (.inl a2), some (.inl a3)] ([.inl (if a3 ≤ v45 then (0 : Int32) else 1), .inr (.inr (0, 47))]) (gzN, gzR0, v9.2.1, v9.2.2) 0 (gzE (.ok (some (.inl r.1))) (gzN, gzR0, r.2.1, r.2.2)) := by
                refine gz_iconst (pc := 91) dX12_saw_91 (v := 3) (by decide) ?_
                refine gz_V (zy := mX12_throwsIf) (zc := 0) (pc := 92) [.inl (if a3 ≤ v45 then (0 : Int32) else 1), .inl 3] rfl dX12_saw_92 lkX12_269 MvX12_throwsIf rfl z_0_47 rfl rfl rfl (Or.inl rfl) (fun h => h) (by exact Nat.le_of_ble_eq_true rfl) ?_
                obtain ⟨v48, e47, h⟩ := gz_bd h
                refine gz_useI (c_X12_throwsIf e47) ?_
                refine gz_if_eq (pc := 95) (tgt := 100) dX12_saw_95 (by decide) (fun c => ?_) (fun c => ?_)
                · replace h := gz_ifp c h
                  refine gz_aload_n (pc := 100) dX12_saw_100 rfl ?_
                  refine gz_V (zy := mX12_remembers) (zc := 0) (pc := 101) [] rfl dX12_saw_101 lkX12_361 MvX12_remembers rfl z_0_47 rfl rfl rfl (Or.inl rfl) (fun h => h) (by exact Nat.le_of_ble_eq_true rfl) ?_
                  obtain ⟨v50, e49, h⟩ := gz_bd h
                  refine gz_useV (c_X12_remembers e49) ?_
                  refine gz_aload_n (pc := 104) dX12_saw_104 rfl ?_
                  refine gr_X12_13 (pc := 105) dX12_saw_105 z_0_47 rfl ?_
                  refine gz_iload_n (pc := 108) dX12_saw_108 rfl ?_
                  refine gz_iconst (pc := 109) dX12_saw_109 (v := 4) (by decide) ?_
                  refine gz_S (zy := mX12_at) (zc := 0) (pc := 110) [.inl a1, .inl 4] rfl dX12_saw_110 lkX12_67 MsX12_at rfl (Or.inl rfl) (fun h => h) (by exact Nat.le_of_ble_eq_true rfl) ?_
                  obtain ⟨v52, e51, h⟩ := gz_bd h
                  refine gz_useI (c_X12_at e51) ?_
                  refine gz_dup2IR (pc := 113) dX12_saw_113  ?_
                  obtain ⟨b53, h⟩ := gz_gd h
                  refine gz_iald2 (pc := 114) dX12_saw_114 (k := v52.toNatClampNeg) (v := v50.2.1 0 48 v52.toNatClampNeg) z_0_48 rfl b53 rfl rfl ?_
                  refine gz_iload_n (pc := 115) dX12_saw_115 rfl ?_
                  refine gz_isub (pc := 116) dX12_saw_116  ?_
                  refine gz_iast2 (pc := 117) dX12_saw_117 (k := v52.toNatClampNeg) z_0_48 rfl b53 rfl ?_
                  refine gz_aload_n (pc := 118) dX12_saw_118 rfl ?_
                  refine gz_iload_n (pc := 119) dX12_saw_119 rfl ?_
                  refine gz_iconst (pc := 120) dX12_saw_120 (v := 2) (by decide) ?_
                  refine gz_S (zy := mX12_familyAt) (zc := 0) (pc := 121) [.inl a2, .inl 2] rfl dX12_saw_121 lkX12_63 MsX12_familyAt rfl (Or.inl rfl) (fun h => h) (by exact Nat.le_of_ble_eq_true rfl) ?_
                  obtain ⟨v55, e54, h⟩ := gz_bd h
                  refine gz_useI (c_X12_familyAt e54) ?_
                  refine gz_iload_n (pc := 124) dX12_saw_124 rfl ?_
                  refine gz_sipush (pc := 125) dX12_saw_125 (v := 999) (by decide) ?_
                  refine gz_V (zy := mX12_adds) (zc := 0) (pc := 128) [.inl v55, .inl a3, .inl 999] rfl dX12_saw_128 lkX12_333 MvX12_adds rfl z_0_47 rfl rfl rfl (Or.inl rfl) (fun h => h) (by exact Nat.le_of_ble_eq_true rfl) ?_
                  obtain ⟨v57, e56, h⟩ := gz_bd h
                  refine gz_useV (c_X12_adds e56) ?_
                  refine gz_aload_n (pc := 131) dX12_saw_131 rfl ?_
                  refine gz_iload_n (pc := 132) dX12_saw_132 rfl ?_
                  refine gz_iconst (pc := 133) dX12_saw_133 (v := 2) (by decide) ?_
                  refine gz_iload_n (pc := 134) dX12_saw_134 rfl ?_
                  refine gz_V (zy := mX12_tells) (zc := 0) (pc := 135) [.inl a1, .inl 2, .inl a3] rfl dX12_saw_135 lkX12_337 MvX12_tells rfl z_0_47 rfl rfl rfl (Or.inl rfl) (fun h => h) (by exact Nat.le_of_ble_eq_true rfl) ?_
                  obtain ⟨v59, e58, h⟩ := gz_bd h
                  refine gz_useV (c_X12_tells e58) ?_
                  refine gz_aload_n (pc := 138) dX12_saw_138 rfl ?_
                  refine gz_iload_n (pc := 139) dX12_saw_139 rfl ?_
                  refine gz_iconst (pc := 140) dX12_saw_140 (v := 4) (by decide) ?_
                  refine gz_V (zy := mX12_of) (zc := 0) (pc := 141) [.inl a1, .inl 4] rfl dX12_saw_141 lkX12_70 MvX12_of rfl z_0_47 rfl rfl rfl (Or.inl rfl) (fun h => h) (by exact Nat.le_of_ble_eq_true rfl) ?_
                  obtain ⟨v61, e60, h⟩ := gz_bd h
                  refine gz_useI (c_X12_of e60) ?_
                  cases h; exact gz_iret (pc := 144) dX12_saw_144 rfl ⟨rfl, rfl⟩
                · replace h := gz_ifn c h
                  refine gz_iconst (pc := 98) dX12_saw_98 (v := 0) (by decide) ?_
                  cases h; exact gz_iret (pc := 99) dX12_saw_99 rfl ⟨rfl, rfl⟩
              refine gz_ic_ge (pc := 83) (tgt := 90) dX12_saw_83 (by decide) (fun c => ?_) (fun c => ?_)
              · rw [if_pos c] at kj46
                refine gz_iconst (pc := 90) dX12_saw_90 (v := 0) (by decide) ?_
                exact kj46
              · rw [if_neg c] at kj46
                refine gz_iconst (pc := 86) dX12_saw_86 (v := 1) (by decide) ?_
                refine gz_goto (pc := 87) (tgt := 91) dX12_saw_87 (by decide) ?_
                exact kj46
      refine gz_if_ne (pc := 43) (tgt := 50) dX12_saw_43 (by decide) (fun c => ?_) (fun c => ?_)
      · rw [if_pos c] at kj7
        refine gz_iconst (pc := 50) dX12_saw_50 (v := 0) (by decide) ?_
        exact kj7
      · rw [if_neg (show ¬ (¬ v6 = 0) from fun q => q c)] at kj7
        refine gz_iconst (pc := 46) dX12_saw_46 (v := 1) (by decide) ?_
        refine gz_goto (pc := 47) (tgt := 51) dX12_saw_47 (by decide) ?_
        exact kj7
  · replace h := gz_ifn (fun q => q c) h
    refine gz_aload_n (pc := 14) dX12_saw_14 rfl ?_
    refine gz_iload_n (pc := 15) dX12_saw_15 rfl ?_
    refine gz_V (zy := mX12_noFamily) (zc := 0) (pc := 16) [.inl a2] rfl dX12_saw_16 lkX12_301 MvX12_noFamily rfl z_0_47 rfl rfl rfl (Or.inl rfl) (fun h => h) (by exact Nat.le_of_ble_eq_true rfl) ?_
    obtain ⟨v63, e62, h⟩ := gz_bd h
    refine gz_useI (c_X12_noFamily e62) ?_
    have kj64 : gzX g 0 (d + 3) mX12_saw 27 [some (.inr (.inr (0, 47))), some (.inl a1), some (.inl a2), some (.inl a3)] ([.inl (if v63 = 0 then (0 : Int32) else 1), .inr (.inr (0, 47))]) (gzN, gzR0, gz_ui I 0 47 0 0, J) 0 (gzE (.ok (some (.inl r.1))) (gzN, gzR0, r.2.1, r.2.2)) := by
      refine gz_iconst (pc := 27) dX12_saw_27 (v := 1) (by decide) ?_
      refine gz_V (zy := mX12_throwsIf) (zc := 0) (pc := 28) [.inl (if v63 = 0 then (0 : Int32) else 1), .inl 1] rfl dX12_saw_28 lkX12_269 MvX12_throwsIf rfl z_0_47 rfl rfl rfl (Or.inl rfl) (fun h => h) (by exact Nat.le_of_ble_eq_true rfl) ?_
      obtain ⟨v66, e65, h⟩ := gz_bd h
      refine gz_useI (c_X12_throwsIf e65) ?_
      refine gz_if_ne (pc := 31) (tgt := 98) dX12_saw_31 (by decide) (fun c => ?_) (fun c => ?_)
      · replace h := gz_ifp c h
        refine gz_iconst (pc := 98) dX12_saw_98 (v := 0) (by decide) ?_
        cases h; exact gz_iret (pc := 99) dX12_saw_99 rfl ⟨rfl, rfl⟩
      · replace h := gz_ifn (fun q => q c) h
        refine gz_aload_n (pc := 34) dX12_saw_34 rfl ?_
        refine gz_iload_n (pc := 35) dX12_saw_35 rfl ?_
        refine gz_iconst (pc := 36) dX12_saw_36 (v := 1) (by decide) ?_
        refine gz_sipush (pc := 37) dX12_saw_37 (v := 999) (by decide) ?_
        refine gz_S (zy := mX12_in) (zc := 0) (pc := 40) [.inl a3, .inl 1, .inl 999] rfl dX12_saw_40 lkX12_84 MsX12_in rfl (Or.inl rfl) (fun h => h) (by exact Nat.le_of_ble_eq_true rfl) ?_
        obtain ⟨v68, e67, h⟩ := gz_bd h
        refine gz_useI (c_X12_in e67) ?_
        have kj69 : gzX g 0 (d + 3) mX12_saw 51 [some (.inr (.inr (0, 47))), some (.inl a1), some (.inl a2), some (.inl a3)] ([.inl (if ¬ v68 = 0 then (0 : Int32) else 1), .inr (.inr (0, 47))]) (gzN, gzR0, v66.2.1, v66.2.2) 0 (gzE (.ok (some (.inl r.1))) (gzN, gzR0, r.2.1, r.2.2)) := by
          refine gz_iconst (pc := 51) dX12_saw_51 (v := 2) (by decide) ?_
          refine gz_V (zy := mX12_throwsIf) (zc := 0) (pc := 52) [.inl (if ¬ v68 = 0 then (0 : Int32) else 1), .inl 2] rfl dX12_saw_52 lkX12_269 MvX12_throwsIf rfl z_0_47 rfl rfl rfl (Or.inl rfl) (fun h => h) (by exact Nat.le_of_ble_eq_true rfl) ?_
          obtain ⟨v71, e70, h⟩ := gz_bd h
          refine gz_useI (c_X12_throwsIf e70) ?_
          refine gz_if_ne (pc := 55) (tgt := 98) dX12_saw_55 (by decide) (fun c => ?_) (fun c => ?_)
          · replace h := gz_ifp c h
            refine gz_iconst (pc := 98) dX12_saw_98 (v := 0) (by decide) ?_
            cases h; exact gz_iret (pc := 99) dX12_saw_99 rfl ⟨rfl, rfl⟩
          · replace h := gz_ifn (fun q => q c) h
            refine gz_aload_n (pc := 58) dX12_saw_58 rfl ?_
            refine gz_aload_n (pc := 59) dX12_saw_59 rfl ?_
            refine gz_iload_n (pc := 60) dX12_saw_60 rfl ?_
            refine gz_V (zy := mX12_isThawed) (zc := 0) (pc := 61) [.inl a1] rfl dX12_saw_61 lkX12_76 MvX12_isThawed rfl z_0_47 rfl rfl rfl (Or.inl rfl) (fun h => h) (by exact Nat.le_of_ble_eq_true rfl) ?_
            obtain ⟨v73, e72, h⟩ := gz_bd h
            refine gz_useI (c_X12_isThawed e72) ?_
            refine gz_if_ne (pc := 64) (tgt := 86) dX12_saw_64 (by decide) (fun c => ?_) (fun c => ?_)
            · replace h := gz_ifp c h
              refine gz_iconst (pc := 86) dX12_saw_86 (v := 1) (by decide) ?_
              refine gz_goto (pc := 87) (tgt := 91) dX12_saw_87 (by decide) ?_
              refine gz_iconst (pc := 91) dX12_saw_91 (v := 3) (by decide) ?_
              refine gz_V (zy := mX12_throwsIf) (zc := 0) (pc := 92) [.inl 1, .inl 3] rfl dX12_saw_92 lkX12_269 MvX12_throwsIf rfl z_0_47 rfl rfl rfl (Or.inl rfl) (fun h => h) (by exact Nat.le_of_ble_eq_true rfl) ?_
              obtain ⟨v75, e74, h⟩ := gz_bd h
              refine gz_useI (c_X12_throwsIf e74) ?_
              refine gz_if_eq (pc := 95) (tgt := 100) dX12_saw_95 (by decide) (fun c => ?_) (fun c => ?_)
              · replace h := gz_ifp c h
                refine gz_aload_n (pc := 100) dX12_saw_100 rfl ?_
                refine gz_V (zy := mX12_remembers) (zc := 0) (pc := 101) [] rfl dX12_saw_101 lkX12_361 MvX12_remembers rfl z_0_47 rfl rfl rfl (Or.inl rfl) (fun h => h) (by exact Nat.le_of_ble_eq_true rfl) ?_
                obtain ⟨v77, e76, h⟩ := gz_bd h
                refine gz_useV (c_X12_remembers e76) ?_
                refine gz_aload_n (pc := 104) dX12_saw_104 rfl ?_
                refine gr_X12_13 (pc := 105) dX12_saw_105 z_0_47 rfl ?_
                refine gz_iload_n (pc := 108) dX12_saw_108 rfl ?_
                refine gz_iconst (pc := 109) dX12_saw_109 (v := 4) (by decide) ?_
                refine gz_S (zy := mX12_at) (zc := 0) (pc := 110) [.inl a1, .inl 4] rfl dX12_saw_110 lkX12_67 MsX12_at rfl (Or.inl rfl) (fun h => h) (by exact Nat.le_of_ble_eq_true rfl) ?_
                obtain ⟨v79, e78, h⟩ := gz_bd h
                refine gz_useI (c_X12_at e78) ?_
                refine gz_dup2IR (pc := 113) dX12_saw_113  ?_
                obtain ⟨b80, h⟩ := gz_gd h
                refine gz_iald2 (pc := 114) dX12_saw_114 (k := v79.toNatClampNeg) (v := v77.2.1 0 48 v79.toNatClampNeg) z_0_48 rfl b80 rfl rfl ?_
                refine gz_iload_n (pc := 115) dX12_saw_115 rfl ?_
                refine gz_isub (pc := 116) dX12_saw_116  ?_
                refine gz_iast2 (pc := 117) dX12_saw_117 (k := v79.toNatClampNeg) z_0_48 rfl b80 rfl ?_
                refine gz_aload_n (pc := 118) dX12_saw_118 rfl ?_
                refine gz_iload_n (pc := 119) dX12_saw_119 rfl ?_
                refine gz_iconst (pc := 120) dX12_saw_120 (v := 2) (by decide) ?_
                refine gz_S (zy := mX12_familyAt) (zc := 0) (pc := 121) [.inl a2, .inl 2] rfl dX12_saw_121 lkX12_63 MsX12_familyAt rfl (Or.inl rfl) (fun h => h) (by exact Nat.le_of_ble_eq_true rfl) ?_
                obtain ⟨v82, e81, h⟩ := gz_bd h
                refine gz_useI (c_X12_familyAt e81) ?_
                refine gz_iload_n (pc := 124) dX12_saw_124 rfl ?_
                refine gz_sipush (pc := 125) dX12_saw_125 (v := 999) (by decide) ?_
                refine gz_V (zy := mX12_adds) (zc := 0) (pc := 128) [.inl v82, .inl a3, .inl 999] rfl dX12_saw_128 lkX12_333 MvX12_adds rfl z_0_47 rfl rfl rfl (Or.inl rfl) (fun h => h) (by exact Nat.le_of_ble_eq_true rfl) ?_
                obtain ⟨v84, e83, h⟩ := gz_bd h
                refine gz_useV (c_X12_adds e83) ?_
                refine gz_aload_n (pc := 131) dX12_saw_131 rfl ?_
                refine gz_iload_n (pc := 132) dX12_saw_132 rfl ?_
                refine gz_iconst (pc := 133) dX12_saw_133 (v := 2) (by decide) ?_
                refine gz_iload_n (pc := 134) dX12_saw_134 rfl ?_
                refine gz_V (zy := mX12_tells) (zc := 0) (pc := 135) [.inl a1, .inl 2, .inl a3] rfl dX12_saw_135 lkX12_337 MvX12_tells rfl z_0_47 rfl rfl rfl (Or.inl rfl) (fun h => h) (by exact Nat.le_of_ble_eq_true rfl) ?_
                obtain ⟨v86, e85, h⟩ := gz_bd h
                refine gz_useV (c_X12_tells e85) ?_
                refine gz_aload_n (pc := 138) dX12_saw_138 rfl ?_
                refine gz_iload_n (pc := 139) dX12_saw_139 rfl ?_
                refine gz_iconst (pc := 140) dX12_saw_140 (v := 4) (by decide) ?_
                refine gz_V (zy := mX12_of) (zc := 0) (pc := 141) [.inl a1, .inl 4] rfl dX12_saw_141 lkX12_70 MvX12_of rfl z_0_47 rfl rfl rfl (Or.inl rfl) (fun h => h) (by exact Nat.le_of_ble_eq_true rfl) ?_
                obtain ⟨v88, e87, h⟩ := gz_bd h
                refine gz_useI (c_X12_of e87) ?_
                cases h; exact gz_iret (pc := 144) dX12_saw_144 rfl ⟨rfl, rfl⟩
              · replace h := gz_ifn c h
                refine gz_iconst (pc := 98) dX12_saw_98 (v := 0) (by decide) ?_
                cases h; exact gz_iret (pc := 99) dX12_saw_99 rfl ⟨rfl, rfl⟩
            · replace h := gz_ifn (fun q => q c) h
              refine gz_aload_n (pc := 67) dX12_saw_67 rfl ?_
              refine gz_iload_n (pc := 68) dX12_saw_68 rfl ?_
              refine gz_iload_n (pc := 69) dX12_saw_69 rfl ?_
              refine gz_V (zy := mX12_isOf) (zc := 0) (pc := 70) [.inl a1, .inl a2] rfl dX12_saw_70 lkX12_298 MvX12_isOf rfl z_0_47 rfl rfl rfl (Or.inl rfl) (fun h => h) (by exact Nat.le_of_ble_eq_true rfl) ?_
              obtain ⟨v90, e89, h⟩ := gz_bd h
              refine gz_useI (c_X12_isOf e89) ?_
              refine gz_if_ne (pc := 73) (tgt := 86) dX12_saw_73 (by decide) (fun c => ?_) (fun c => ?_)
              · replace h := gz_ifp c h
                refine gz_iconst (pc := 86) dX12_saw_86 (v := 1) (by decide) ?_
                refine gz_goto (pc := 87) (tgt := 91) dX12_saw_87 (by decide) ?_
                refine gz_iconst (pc := 91) dX12_saw_91 (v := 3) (by decide) ?_
                refine gz_V (zy := mX12_throwsIf) (zc := 0) (pc := 92) [.inl 1, .inl 3] rfl dX12_saw_92 lkX12_269 MvX12_throwsIf rfl z_0_47 rfl rfl rfl (Or.inl rfl) (fun h => h) (by exact Nat.le_of_ble_eq_true rfl) ?_
                obtain ⟨v92, e91, h⟩ := gz_bd h
                refine gz_useI (c_X12_throwsIf e91) ?_
                refine gz_if_eq (pc := 95) (tgt := 100) dX12_saw_95 (by decide) (fun c => ?_) (fun c => ?_)
                · replace h := gz_ifp c h
                  refine gz_aload_n (pc := 100) dX12_saw_100 rfl ?_
                  refine gz_V (zy := mX12_remembers) (zc := 0) (pc := 101) [] rfl dX12_saw_101 lkX12_361 MvX12_remembers rfl z_0_47 rfl rfl rfl (Or.inl rfl) (fun h => h) (by exact Nat.le_of_ble_eq_true rfl) ?_
                  obtain ⟨v94, e93, h⟩ := gz_bd h
                  refine gz_useV (c_X12_remembers e93) ?_
                  refine gz_aload_n (pc := 104) dX12_saw_104 rfl ?_
                  refine gr_X12_13 (pc := 105) dX12_saw_105 z_0_47 rfl ?_
                  refine gz_iload_n (pc := 108) dX12_saw_108 rfl ?_
                  refine gz_iconst (pc := 109) dX12_saw_109 (v := 4) (by decide) ?_
                  refine gz_S (zy := mX12_at) (zc := 0) (pc := 110) [.inl a1, .inl 4] rfl dX12_saw_110 lkX12_67 MsX12_at rfl (Or.inl rfl) (fun h => h) (by exact Nat.le_of_ble_eq_true rfl) ?_
                  obtain ⟨v96, e95, h⟩ := gz_bd h
                  refine gz_useI (c_X12_at e95) ?_
                  refine gz_dup2IR (pc := 113) dX12_saw_113  ?_
                  obtain ⟨b97, h⟩ := gz_gd h
                  refine gz_iald2 (pc := 114) dX12_saw_114 (k := v96.toNatClampNeg) (v := v94.2.1 0 48 v96.toNatClampNeg) z_0_48 rfl b97 rfl rfl ?_
                  refine gz_iload_n (pc := 115) dX12_saw_115 rfl ?_
                  refine gz_isub (pc := 116) dX12_saw_116  ?_
                  refine gz_iast2 (pc := 117) dX12_saw_117 (k := v96.toNatClampNeg) z_0_48 rfl b97 rfl ?_
                  refine gz_aload_n (pc := 118) dX12_saw_118 rfl ?_
                  refine gz_iload_n (pc := 119) dX12_saw_119 rfl ?_
                  refine gz_iconst (pc := 120) dX12_saw_120 (v := 2) (by decide) ?_
                  refine gz_S (zy := mX12_familyAt) (zc := 0) (pc := 121) [.inl a2, .inl 2] rfl dX12_saw_121 lkX12_63 MsX12_familyAt rfl (Or.inl rfl) (fun h => h) (by exact Nat.le_of_ble_eq_true rfl) ?_
                  obtain ⟨v99, e98, h⟩ := gz_bd h
                  refine gz_useI (c_X12_familyAt e98) ?_
                  refine gz_iload_n (pc := 124) dX12_saw_124 rfl ?_
                  refine gz_sipush (pc := 125) dX12_saw_125 (v := 999) (by decide) ?_
                  refine gz_V (zy := mX12_adds) (zc := 0) (pc := 128) [.inl v99, .inl a3, .inl 999] rfl dX12_saw_128 lkX12_333 MvX12_adds rfl z_0_47 rfl rfl rfl (Or.inl rfl) (fun h => h) (by exact Nat.le_of_ble_eq_true rfl) ?_
                  obtain ⟨v101, e100, h⟩ := gz_bd h
                  refine gz_useV (c_X12_adds e100) ?_
                  refine gz_aload_n (pc := 131) dX12_saw_131 rfl ?_
                  refine gz_iload_n (pc := 132) dX12_saw_132 rfl ?_
                  refine gz_iconst (pc := 133) dX12_saw_133 (v := 2) (by decide) ?_
                  refine gz_iload_n (pc := 134) dX12_saw_134 rfl ?_
                  refine gz_V (zy := mX12_tells) (zc := 0) (pc := 135) [.inl a1, .inl 2, .inl a3] rfl dX12_saw_135 lkX12_337 MvX12_tells rfl z_0_47 rfl rfl rfl (Or.inl rfl) (fun h => h) (by exact Nat.le_of_ble_eq_true rfl) ?_
                  obtain ⟨v103, e102, h⟩ := gz_bd h
                  refine gz_useV (c_X12_tells e102) ?_
                  refine gz_aload_n (pc := 138) dX12_saw_138 rfl ?_
                  refine gz_iload_n (pc := 139) dX12_saw_139 rfl ?_
                  refine gz_iconst (pc := 140) dX12_saw_140 (v := 4) (by decide) ?_
                  refine gz_V (zy := mX12_of) (zc := 0) (pc := 141) [.inl a1, .inl 4] rfl dX12_saw_141 lkX12_70 MvX12_of rfl z_0_47 rfl rfl rfl (Or.inl rfl) (fun h => h) (by exact Nat.le_of_ble_eq_true rfl) ?_
                  obtain ⟨v105, e104, h⟩ := gz_bd h
                  refine gz_useI (c_X12_of e104) ?_
                  cases h; exact gz_iret (pc := 144) dX12_saw_144 rfl ⟨rfl, rfl⟩
                · replace h := gz_ifn c h
                  refine gz_iconst (pc := 98) dX12_saw_98 (v := 0) (by decide) ?_
                  cases h; exact gz_iret (pc := 99) dX12_saw_99 rfl ⟨rfl, rfl⟩
              · replace h := gz_ifn (fun q => q c) h
                refine gz_aload_n (pc := 76) dX12_saw_76 rfl ?_
                refine gz_iload_n (pc := 77) dX12_saw_77 rfl ?_
                refine gz_iconst (pc := 78) dX12_saw_78 (v := 4) (by decide) ?_
                refine gz_V (zy := mX12_of) (zc := 0) (pc := 79) [.inl a1, .inl 4] rfl dX12_saw_79 lkX12_70 MvX12_of rfl z_0_47 rfl rfl rfl (Or.inl rfl) (fun h => h) (by exact Nat.le_of_ble_eq_true rfl) ?_
                obtain ⟨v107, e106, h⟩ := gz_bd h
                refine gz_useI (c_X12_of e106) ?_
                refine gz_iload_n (pc := 82) dX12_saw_82 rfl ?_
                have kj108 : gzX g 0 (d + 3) mX12_saw 91 [some (.inr (.inr (0, 47))), some (.inl a1), some (.inl a2), some (.inl a3)] ([.inl (if a3 ≤ v107 then (0 : Int32) else 1), .inr (.inr (0, 47))]) (gzN, gzR0, v71.2.1, v71.2.2) 0 (gzE (.ok (some (.inl r.1))) (gzN, gzR0, r.2.1, r.2.2)) := by
                  refine gz_iconst (pc := 91) dX12_saw_91 (v := 3) (by decide) ?_
                  refine gz_V (zy := mX12_throwsIf) (zc := 0) (pc := 92) [.inl (if a3 ≤ v107 then (0 : Int32) else 1), .inl 3] rfl dX12_saw_92 lkX12_269 MvX12_throwsIf rfl z_0_47 rfl rfl rfl (Or.inl rfl) (fun h => h) (by exact Nat.le_of_ble_eq_true rfl) ?_
                  obtain ⟨v110, e109, h⟩ := gz_bd h
                  refine gz_useI (c_X12_throwsIf e109) ?_
                  refine gz_if_eq (pc := 95) (tgt := 100) dX12_saw_95 (by decide) (fun c => ?_) (fun c => ?_)
                  · replace h := gz_ifp c h
                    refine gz_aload_n (pc := 100) dX12_saw_100 rfl ?_
                    refine gz_V (zy := mX12_remembers) (zc := 0) (pc := 101) [] rfl dX12_saw_101 lkX12_361 MvX12_remembers rfl z_0_47 rfl rfl rfl (Or.inl rfl) (fun h => h) (by exact Nat.le_of_ble_eq_true rfl) ?_
                    obtain ⟨v112, e111, h⟩ := gz_bd h
                    refine gz_useV (c_X12_remembers e111) ?_
                    refine gz_aload_n (pc := 104) dX12_saw_104 rfl ?_
                    refine gr_X12_13 (pc := 105) dX12_saw_105 z_0_47 rfl ?_
                    refine gz_iload_n (pc := 108) dX12_saw_108 rfl ?_
                    refine gz_iconst (pc := 109) dX12_saw_109 (v := 4) (by decide) ?_
                    refine gz_S (zy := mX12_at) (zc := 0) (pc := 110) [.inl a1, .inl 4] rfl dX12_saw_110 lkX12_67 MsX12_at rfl (Or.inl rfl) (fun h => h) (by exact Nat.le_of_ble_eq_true rfl) ?_
                    obtain ⟨v114, e113, h⟩ := gz_bd h
                    refine gz_useI (c_X12_at e113) ?_
                    refine gz_dup2IR (pc := 113) dX12_saw_113  ?_
                    obtain ⟨b115, h⟩ := gz_gd h
                    refine gz_iald2 (pc := 114) dX12_saw_114 (k := v114.toNatClampNeg) (v := v112.2.1 0 48 v114.toNatClampNeg) z_0_48 rfl b115 rfl rfl ?_
                    refine gz_iload_n (pc := 115) dX12_saw_115 rfl ?_
                    refine gz_isub (pc := 116) dX12_saw_116  ?_
                    refine gz_iast2 (pc := 117) dX12_saw_117 (k := v114.toNatClampNeg) z_0_48 rfl b115 rfl ?_
                    refine gz_aload_n (pc := 118) dX12_saw_118 rfl ?_
                    refine gz_iload_n (pc := 119) dX12_saw_119 rfl ?_
                    refine gz_iconst (pc := 120) dX12_saw_120 (v := 2) (by decide) ?_
                    refine gz_S (zy := mX12_familyAt) (zc := 0) (pc := 121) [.inl a2, .inl 2] rfl dX12_saw_121 lkX12_63 MsX12_familyAt rfl (Or.inl rfl) (fun h => h) (by exact Nat.le_of_ble_eq_true rfl) ?_
                    obtain ⟨v117, e116, h⟩ := gz_bd h
                    refine gz_useI (c_X12_familyAt e116) ?_
                    refine gz_iload_n (pc := 124) dX12_saw_124 rfl ?_
                    refine gz_sipush (pc := 125) dX12_saw_125 (v := 999) (by decide) ?_
                    refine gz_V (zy := mX12_adds) (zc := 0) (pc := 128) [.inl v117, .inl a3, .inl 999] rfl dX12_saw_128 lkX12_333 MvX12_adds rfl z_0_47 rfl rfl rfl (Or.inl rfl) (fun h => h) (by exact Nat.le_of_ble_eq_true rfl) ?_
                    obtain ⟨v119, e118, h⟩ := gz_bd h
                    refine gz_useV (c_X12_adds e118) ?_
                    refine gz_aload_n (pc := 131) dX12_saw_131 rfl ?_
                    refine gz_iload_n (pc := 132) dX12_saw_132 rfl ?_
                    refine gz_iconst (pc := 133) dX12_saw_133 (v := 2) (by decide) ?_
                    refine gz_iload_n (pc := 134) dX12_saw_134 rfl ?_
                    refine gz_V (zy := mX12_tells) (zc := 0) (pc := 135) [.inl a1, .inl 2, .inl a3] rfl dX12_saw_135 lkX12_337 MvX12_tells rfl z_0_47 rfl rfl rfl (Or.inl rfl) (fun h => h) (by exact Nat.le_of_ble_eq_true rfl) ?_
                    obtain ⟨v121, e120, h⟩ := gz_bd h
                    refine gz_useV (c_X12_tells e120) ?_
                    refine gz_aload_n (pc := 138) dX12_saw_138 rfl ?_
                    refine gz_iload_n (pc := 139) dX12_saw_139 rfl ?_
                    refine gz_iconst (pc := 140) dX12_saw_140 (v := 4) (by decide) ?_
                    refine gz_V (zy := mX12_of) (zc := 0) (pc := 141) [.inl a1, .inl 4] rfl dX12_saw_141 lkX12_70 MvX12_of rfl z_0_47 rfl rfl rfl (Or.inl rfl) (fun h => h) (by exact Nat.le_of_ble_eq_true rfl) ?_
                    obtain ⟨v123, e122, h⟩ := gz_bd h
                    refine gz_useI (c_X12_of e122) ?_
                    cases h; exact gz_iret (pc := 144) dX12_saw_144 rfl ⟨rfl, rfl⟩
                  · replace h := gz_ifn c h
                    refine gz_iconst (pc := 98) dX12_saw_98 (v := 0) (by decide) ?_
                    cases h; exact gz_iret (pc := 99) dX12_saw_99 rfl ⟨rfl, rfl⟩
                refine gz_ic_ge (pc := 83) (tgt := 90) dX12_saw_83 (by decide) (fun c => ?_) (fun c => ?_)
                · rw [if_pos c] at kj108
                  refine gz_iconst (pc := 90) dX12_saw_90 (v := 0) (by decide) ?_
                  exact kj108
                · rw [if_neg c] at kj108
                  refine gz_iconst (pc := 86) dX12_saw_86 (v := 1) (by decide) ?_
                  refine gz_goto (pc := 87) (tgt := 91) dX12_saw_87 (by decide) ?_
                  exact kj108
        refine gz_if_ne (pc := 43) (tgt := 50) dX12_saw_43 (by decide) (fun c => ?_) (fun c => ?_)
        · rw [if_pos c] at kj69
          refine gz_iconst (pc := 50) dX12_saw_50 (v := 0) (by decide) ?_
          exact kj69
        · rw [if_neg (show ¬ (¬ v68 = 0) from fun q => q c)] at kj69
          refine gz_iconst (pc := 46) dX12_saw_46 (v := 1) (by decide) ?_
          refine gz_goto (pc := 47) (tgt := 51) dX12_saw_47 (by decide) ?_
          exact kj69
    refine gz_if_eq (pc := 19) (tgt := 26) dX12_saw_19 (by decide) (fun c => ?_) (fun c => ?_)
    · rw [if_pos c] at kj64
      refine gz_iconst (pc := 26) dX12_saw_26 (v := 0) (by decide) ?_
      exact kj64
    · rw [if_neg c] at kj64
      refine gz_iconst (pc := 22) dX12_saw_22 (v := 1) (by decide) ?_
      refine gz_goto (pc := 23) (tgt := 27) dX12_saw_23 (by decide) ?_
      exact kj64
/-! X12_store: store -/
def f_X12_store (φ : Nat) (a1 : Int32) (a2 : Int32) (I : gzIT) (J : gzJT) : Option (Int32 × gzIT × gzJT) := Option.bind (f_X12_noGrudge (gz_ui I 0 47 0 0) a1) (fun v2 => Option.bind (f_X12_throwsIf v2 1 (gz_ui I 0 47 0 0) J) (fun v4 => if ¬ v4.1 = 0 then (some (0, v4.2.1, v4.2.2)) else (Option.bind (f_X12_in a2 1 999) (fun v6 => Option.bind (f_X12_throwsIf (if ¬ v6 = 0 then (0 : Int32) else 1) 2 v4.2.1 v4.2.2) (fun v9 => if ¬ v9.1 = 0 then (some (0, v9.2.1, v9.2.2)) else (Option.bind (f_X12_isThawed v9.2.1 a1) (fun v11 => if ¬ v11 = 0 then (Option.bind (f_X12_throwsIf 1 3 v9.2.1 v9.2.2) (fun v13 => if v13.1 = 0 then (Option.bind (f_X12_remembers φ v13.2.1 v13.2.2) (fun v15 => Option.bind (f_X12_at a1 4) (fun v17 => gzGd (v17) 2062 (Option.bind (f_X12_adds 5 a2 9999 (gz_ui v15.2.1 0 48 v17.toNatClampNeg ((v15.2.1 0 48 v17.toNatClampNeg) - a2)) v15.2.2) (fun v20 => Option.bind (f_X12_tells φ a1 3 a2 v20.2.1 v20.2.2) (fun v22 => some ((v22.2.1 0 48 5), v22.2.1, v22.2.2))))))) else (some (0, v13.2.1, v13.2.2)))) else (Option.bind (f_X12_of v9.2.1 a1 4) (fun v24 => Option.bind (f_X12_throwsIf (if a2 ≤ v24 then (0 : Int32) else 1) 3 v9.2.1 v9.2.2) (fun v27 => if v27.1 = 0 then (Option.bind (f_X12_remembers φ v27.2.1 v27.2.2) (fun v29 => Option.bind (f_X12_at a1 4) (fun v31 => gzGd (v31) 2062 (Option.bind (f_X12_adds 5 a2 9999 (gz_ui v29.2.1 0 48 v31.toNatClampNeg ((v29.2.1 0 48 v31.toNatClampNeg) - a2)) v29.2.2) (fun v34 => Option.bind (f_X12_tells φ a1 3 a2 v34.2.1 v34.2.2) (fun v36 => some ((v36.2.1 0 48 5), v36.2.1, v36.2.2))))))) else (some (0, v27.2.1, v27.2.2))))))))))))
set_option maxRecDepth 20000 in
theorem c_X12_store {g : gzG} {d φ : Nat} {a1 : Int32} {a2 : Int32} {I : gzIT} {J : gzJT} {r : Int32 × gzIT × gzJT} (h : f_X12_store φ a1 a2 I J = some r) : gzC g 0 (d + 3) mX12_store [.inr (.inr (0, 47)), .inl a1, .inl a2] (gzN, gzR0, I, J) (gzE (.ok (some (.inl r.1))) (gzN, gzR0, r.2.1, r.2.2)) := by
  unfold f_X12_store at h
  refine gzC_of (by decide +kernel) (Nat.le_of_ble_eq_true rfl) (loc := [some (.inr (.inr (0, 47))), some (.inl a1), some (.inl a2)]) rfl ?_
  have z_0_47 : gzOk 0 47 gzN := gzOk_of (by decide)
  have z_0_48 : gzOk 0 48 gzN := gzOk_of (by decide)
  refine gz_aload_n (pc := 0) dX12_store_0 rfl ?_
  refine gz_iconst (pc := 1) dX12_store_1 (v := 0) (by decide) ?_
  refine gp_X12_3 (pc := 2) dX12_store_2 z_0_47 rfl ?_
  refine gz_aload_n (pc := 5) dX12_store_5 rfl ?_
  refine gz_aload_n (pc := 6) dX12_store_6 rfl ?_
  refine gz_iload_n (pc := 7) dX12_store_7 rfl ?_
  refine gz_V (zy := mX12_noGrudge) (zc := 0) (pc := 8) [.inl a1] rfl dX12_store_8 lkX12_315 MvX12_noGrudge rfl z_0_47 rfl rfl rfl (Or.inl rfl) (fun h => h) (by exact Nat.le_of_ble_eq_true rfl) ?_
  obtain ⟨v2, e1, h⟩ := gz_bd h
  refine gz_useI (c_X12_noGrudge e1) ?_
  refine gz_iconst (pc := 11) dX12_store_11 (v := 1) (by decide) ?_
  refine gz_V (zy := mX12_throwsIf) (zc := 0) (pc := 12) [.inl v2, .inl 1] rfl dX12_store_12 lkX12_269 MvX12_throwsIf rfl z_0_47 rfl rfl rfl (Or.inl rfl) (fun h => h) (by exact Nat.le_of_ble_eq_true rfl) ?_
  obtain ⟨v4, e3, h⟩ := gz_bd h
  refine gz_useI (c_X12_throwsIf e3) ?_
  refine gz_if_ne (pc := 15) (tgt := 73) dX12_store_15 (by decide) (fun c => ?_) (fun c => ?_)
  · replace h := gz_ifp c h
    refine gz_iconst (pc := 73) dX12_store_73 (v := 0) (by decide) ?_
    cases h; exact gz_iret (pc := 74) dX12_store_74 rfl ⟨rfl, rfl⟩
  · replace h := gz_ifn (fun q => q c) h
    refine gz_aload_n (pc := 18) dX12_store_18 rfl ?_
    refine gz_iload_n (pc := 19) dX12_store_19 rfl ?_
    refine gz_iconst (pc := 20) dX12_store_20 (v := 1) (by decide) ?_
    refine gz_sipush (pc := 21) dX12_store_21 (v := 999) (by decide) ?_
    refine gz_S (zy := mX12_in) (zc := 0) (pc := 24) [.inl a2, .inl 1, .inl 999] rfl dX12_store_24 lkX12_84 MsX12_in rfl (Or.inl rfl) (fun h => h) (by exact Nat.le_of_ble_eq_true rfl) ?_
    obtain ⟨v6, e5, h⟩ := gz_bd h
    refine gz_useI (c_X12_in e5) ?_
    have kj7 : gzX g 0 (d + 3) mX12_store 35 [some (.inr (.inr (0, 47))), some (.inl a1), some (.inl a2)] ([.inl (if ¬ v6 = 0 then (0 : Int32) else 1), .inr (.inr (0, 47))]) (gzN, gzR0, v4.2.1, v4.2.2) 0 (gzE (.ok (some (.inl r.1))) (gzN, gzR0, r.2.1, r.2.2)) := by
      refine gz_iconst (pc := 35) dX12_store_35 (v := 2) (by decide) ?_
      refine gz_V (zy := mX12_throwsIf) (zc := 0) (pc := 36) [.inl (if ¬ v6 = 0 then (0 : Int32) else 1), .inl 2] rfl dX12_store_36 lkX12_269 MvX12_throwsIf rfl z_0_47 rfl rfl rfl (Or.inl rfl) (fun h => h) (by exact Nat.le_of_ble_eq_true rfl) ?_
      obtain ⟨v9, e8, h⟩ := gz_bd h
      refine gz_useI (c_X12_throwsIf e8) ?_
      refine gz_if_ne (pc := 39) (tgt := 73) dX12_store_39 (by decide) (fun c => ?_) (fun c => ?_)
      · replace h := gz_ifp c h
        refine gz_iconst (pc := 73) dX12_store_73 (v := 0) (by decide) ?_
        cases h; exact gz_iret (pc := 74) dX12_store_74 rfl ⟨rfl, rfl⟩
      · replace h := gz_ifn (fun q => q c) h
        refine gz_aload_n (pc := 42) dX12_store_42 rfl ?_
        refine gz_aload_n (pc := 43) dX12_store_43 rfl ?_
        refine gz_iload_n (pc := 44) dX12_store_44 rfl ?_
        refine gz_V (zy := mX12_isThawed) (zc := 0) (pc := 45) [.inl a1] rfl dX12_store_45 lkX12_76 MvX12_isThawed rfl z_0_47 rfl rfl rfl (Or.inl rfl) (fun h => h) (by exact Nat.le_of_ble_eq_true rfl) ?_
        obtain ⟨v11, e10, h⟩ := gz_bd h
        refine gz_useI (c_X12_isThawed e10) ?_
        refine gz_if_ne (pc := 48) (tgt := 61) dX12_store_48 (by decide) (fun c => ?_) (fun c => ?_)
        · replace h := gz_ifp c h
          refine gz_iconst (pc := 61) dX12_store_61 (v := 1) (by decide) ?_
          refine gz_goto (pc := 62) (tgt := 66) dX12_store_62 (by decide) ?_
          refine gz_iconst (pc := 66) dX12_store_66 (v := 3) (by decide) ?_
          refine gz_V (zy := mX12_throwsIf) (zc := 0) (pc := 67) [.inl 1, .inl 3] rfl dX12_store_67 lkX12_269 MvX12_throwsIf rfl z_0_47 rfl rfl rfl (Or.inl rfl) (fun h => h) (by exact Nat.le_of_ble_eq_true rfl) ?_
          obtain ⟨v13, e12, h⟩ := gz_bd h
          refine gz_useI (c_X12_throwsIf e12) ?_
          refine gz_if_eq (pc := 70) (tgt := 75) dX12_store_70 (by decide) (fun c => ?_) (fun c => ?_)
          · replace h := gz_ifp c h
            refine gz_aload_n (pc := 75) dX12_store_75 rfl ?_
            refine gz_V (zy := mX12_remembers) (zc := 0) (pc := 76) [] rfl dX12_store_76 lkX12_361 MvX12_remembers rfl z_0_47 rfl rfl rfl (Or.inl rfl) (fun h => h) (by exact Nat.le_of_ble_eq_true rfl) ?_
            obtain ⟨v15, e14, h⟩ := gz_bd h
            refine gz_useV (c_X12_remembers e14) ?_
            refine gz_aload_n (pc := 79) dX12_store_79 rfl ?_
            refine gr_X12_13 (pc := 80) dX12_store_80 z_0_47 rfl ?_
            refine gz_iload_n (pc := 83) dX12_store_83 rfl ?_
            refine gz_iconst (pc := 84) dX12_store_84 (v := 4) (by decide) ?_
            refine gz_S (zy := mX12_at) (zc := 0) (pc := 85) [.inl a1, .inl 4] rfl dX12_store_85 lkX12_67 MsX12_at rfl (Or.inl rfl) (fun h => h) (by exact Nat.le_of_ble_eq_true rfl) ?_
            obtain ⟨v17, e16, h⟩ := gz_bd h
            refine gz_useI (c_X12_at e16) ?_
            refine gz_dup2IR (pc := 88) dX12_store_88  ?_
            obtain ⟨b18, h⟩ := gz_gd h
            refine gz_iald2 (pc := 89) dX12_store_89 (k := v17.toNatClampNeg) (v := v15.2.1 0 48 v17.toNatClampNeg) z_0_48 rfl b18 rfl rfl ?_
            refine gz_iload_n (pc := 90) dX12_store_90 rfl ?_
            refine gz_isub (pc := 91) dX12_store_91  ?_
            refine gz_iast2 (pc := 92) dX12_store_92 (k := v17.toNatClampNeg) z_0_48 rfl b18 rfl ?_
            refine gz_aload_n (pc := 93) dX12_store_93 rfl ?_
            refine gz_iconst (pc := 94) dX12_store_94 (v := 5) (by decide) ?_
            refine gz_iload_n (pc := 95) dX12_store_95 rfl ?_
            refine gz_sipush (pc := 96) dX12_store_96 (v := 9999) (by decide) ?_
            refine gz_V (zy := mX12_adds) (zc := 0) (pc := 99) [.inl 5, .inl a2, .inl 9999] rfl dX12_store_99 lkX12_333 MvX12_adds rfl z_0_47 rfl rfl rfl (Or.inl rfl) (fun h => h) (by exact Nat.le_of_ble_eq_true rfl) ?_
            obtain ⟨v20, e19, h⟩ := gz_bd h
            refine gz_useV (c_X12_adds e19) ?_
            refine gz_aload_n (pc := 102) dX12_store_102 rfl ?_
            refine gz_iload_n (pc := 103) dX12_store_103 rfl ?_
            refine gz_iconst (pc := 104) dX12_store_104 (v := 3) (by decide) ?_
            refine gz_iload_n (pc := 105) dX12_store_105 rfl ?_
            refine gz_V (zy := mX12_tells) (zc := 0) (pc := 106) [.inl a1, .inl 3, .inl a2] rfl dX12_store_106 lkX12_337 MvX12_tells rfl z_0_47 rfl rfl rfl (Or.inl rfl) (fun h => h) (by exact Nat.le_of_ble_eq_true rfl) ?_
            obtain ⟨v22, e21, h⟩ := gz_bd h
            refine gz_useV (c_X12_tells e21) ?_
            refine gz_aload_n (pc := 109) dX12_store_109 rfl ?_
            refine gr_X12_13 (pc := 110) dX12_store_110 z_0_47 rfl ?_
            refine gz_iconst (pc := 113) dX12_store_113 (v := 5) (by decide) ?_
            refine gz_iald2 (pc := 114) dX12_store_114 (k := 5) (v := v22.2.1 0 48 5) z_0_48 rfl (gz_vpd (by decide)) (by decide) rfl ?_
            cases h; exact gz_iret (pc := 115) dX12_store_115 rfl ⟨rfl, rfl⟩
          · replace h := gz_ifn c h
            refine gz_iconst (pc := 73) dX12_store_73 (v := 0) (by decide) ?_
            cases h; exact gz_iret (pc := 74) dX12_store_74 rfl ⟨rfl, rfl⟩
        · replace h := gz_ifn (fun q => q c) h
          refine gz_aload_n (pc := 51) dX12_store_51 rfl ?_
          refine gz_iload_n (pc := 52) dX12_store_52 rfl ?_
          refine gz_iconst (pc := 53) dX12_store_53 (v := 4) (by decide) ?_
          refine gz_V (zy := mX12_of) (zc := 0) (pc := 54) [.inl a1, .inl 4] rfl dX12_store_54 lkX12_70 MvX12_of rfl z_0_47 rfl rfl rfl (Or.inl rfl) (fun h => h) (by exact Nat.le_of_ble_eq_true rfl) ?_
          obtain ⟨v24, e23, h⟩ := gz_bd h
          refine gz_useI (c_X12_of e23) ?_
          refine gz_iload_n (pc := 57) dX12_store_57 rfl ?_
          have kj25 : gzX g 0 (d + 3) mX12_store 66 [some (.inr (.inr (0, 47))), some (.inl a1), some (.inl a2)] ([.inl (if a2 ≤ v24 then (0 : Int32) else 1), .inr (.inr (0, 47))]) (gzN, gzR0, v9.2.1, v9.2.2) 0 (gzE (.ok (some (.inl r.1))) (gzN, gzR0, r.2.1, r.2.2)) := by
            refine gz_iconst (pc := 66) dX12_store_66 (v := 3) (by decide) ?_
            refine gz_V (zy := mX12_throwsIf) (zc := 0) (pc := 67) [.inl (if a2 ≤ v24 then (0 : Int32) else 1), .inl 3] rfl dX12_store_67 lkX12_269 MvX12_throwsIf rfl z_0_47 rfl rfl rfl (Or.inl rfl) (fun h => h) (by exact Nat.le_of_ble_eq_true rfl) ?_
            obtain ⟨v27, e26, h⟩ := gz_bd h
            refine gz_useI (c_X12_throwsIf e26) ?_
            refine gz_if_eq (pc := 70) (tgt := 75) dX12_store_70 (by decide) (fun c => ?_) (fun c => ?_)
            · replace h := gz_ifp c h
              refine gz_aload_n (pc := 75) dX12_store_75 rfl ?_
              refine gz_V (zy := mX12_remembers) (zc := 0) (pc := 76) [] rfl dX12_store_76 lkX12_361 MvX12_remembers rfl z_0_47 rfl rfl rfl (Or.inl rfl) (fun h => h) (by exact Nat.le_of_ble_eq_true rfl) ?_
              obtain ⟨v29, e28, h⟩ := gz_bd h
              refine gz_useV (c_X12_remembers e28) ?_
              refine gz_aload_n (pc := 79) dX12_store_79 rfl ?_
              refine gr_X12_13 (pc := 80) dX12_store_80 z_0_47 rfl ?_
              refine gz_iload_n (pc := 83) dX12_store_83 rfl ?_
              refine gz_iconst (pc := 84) dX12_store_84 (v := 4) (by decide) ?_
              refine gz_S (zy := mX12_at) (zc := 0) (pc := 85) [.inl a1, .inl 4] rfl dX12_store_85 lkX12_67 MsX12_at rfl (Or.inl rfl) (fun h => h) (by exact Nat.le_of_ble_eq_true rfl) ?_
              obtain ⟨v31, e30, h⟩ := gz_bd h
              refine gz_useI (c_X12_at e30) ?_
              refine gz_dup2IR (pc := 88) dX12_store_88  ?_
              obtain ⟨b32, h⟩ := gz_gd h
              refine gz_iald2 (pc := 89) dX12_store_89 (k := v31.toNatClampNeg) (v := v29.2.1 0 48 v31.toNatClampNeg) z_0_48 rfl b32 rfl rfl ?_
              refine gz_iload_n (pc := 90) dX12_store_90 rfl ?_
              refine gz_isub (pc := 91) dX12_store_91  ?_
              refine gz_iast2 (pc := 92) dX12_store_92 (k := v31.toNatClampNeg) z_0_48 rfl b32 rfl ?_
              refine gz_aload_n (pc := 93) dX12_store_93 rfl ?_
              refine gz_iconst (pc := 94) dX12_store_94 (v := 5) (by decide) ?_
              refine gz_iload_n (pc := 95) dX12_store_95 rfl ?_
              refine gz_sipush (pc := 96) dX12_store_96 (v := 9999) (by decide) ?_
              refine gz_V (zy := mX12_adds) (zc := 0) (pc := 99) [.inl 5, .inl a2, .inl 9999] rfl dX12_store_99 lkX12_333 MvX12_adds rfl z_0_47 rfl rfl rfl (Or.inl rfl) (fun h => h) (by exact Nat.le_of_ble_eq_true rfl) ?_
              obtain ⟨v34, e33, h⟩ := gz_bd h
              refine gz_useV (c_X12_adds e33) ?_
              refine gz_aload_n (pc := 102) dX12_store_102 rfl ?_
              refine gz_iload_n (pc := 103) dX12_store_103 rfl ?_
              refine gz_iconst (pc := 104) dX12_store_104 (v := 3) (by decide) ?_
              refine gz_iload_n (pc := 105) dX12_store_105 rfl ?_
              refine gz_V (zy := mX12_tells) (zc := 0) (pc := 106) [.inl a1, .inl 3, .inl a2] rfl dX12_store_106 lkX12_337 MvX12_tells rfl z_0_47 rfl rfl rfl (Or.inl rfl) (fun h => h) (by exact Nat.le_of_ble_eq_true rfl) ?_
              obtain ⟨v36, e35, h⟩ := gz_bd h
              refine gz_useV (c_X12_tells e35) ?_
              refine gz_aload_n (pc := 109) dX12_store_109 rfl ?_
              refine gr_X12_13 (pc := 110) dX12_store_110 z_0_47 rfl ?_
              refine gz_iconst (pc := 113) dX12_store_113 (v := 5) (by decide) ?_
              refine gz_iald2 (pc := 114) dX12_store_114 (k := 5) (v := v36.2.1 0 48 5) z_0_48 rfl (gz_vpd (by decide)) (by decide) rfl ?_
              cases h; exact gz_iret (pc := 115) dX12_store_115 rfl ⟨rfl, rfl⟩
            · replace h := gz_ifn c h
              refine gz_iconst (pc := 73) dX12_store_73 (v := 0) (by decide) ?_
              cases h; exact gz_iret (pc := 74) dX12_store_74 rfl ⟨rfl, rfl⟩
          refine gz_ic_ge (pc := 58) (tgt := 65) dX12_store_58 (by decide) (fun c => ?_) (fun c => ?_)
          · rw [if_pos c] at kj25
            refine gz_iconst (pc := 65) dX12_store_65 (v := 0) (by decide) ?_
            exact kj25
          · rw [if_neg c] at kj25
            refine gz_iconst (pc := 61) dX12_store_61 (v := 1) (by decide) ?_
            refine gz_goto (pc := 62) (tgt := 66) dX12_store_62 (by decide) ?_
            exact kj25
    refine gz_if_ne (pc := 27) (tgt := 34) dX12_store_27 (by decide) (fun c => ?_) (fun c => ?_)
    · rw [if_pos c] at kj7
      refine gz_iconst (pc := 34) dX12_store_34 (v := 0) (by decide) ?_
      exact kj7
    · rw [if_neg (show ¬ (¬ v6 = 0) from fun q => q c)] at kj7
      refine gz_iconst (pc := 30) dX12_store_30 (v := 1) (by decide) ?_
      refine gz_goto (pc := 31) (tgt := 35) dX12_store_31 (by decide) ?_
      exact kj7
/-! X12_deliver: deliver -/
def f_X12_deliver (φ : Nat) (a1 : Int32) (a2 : Int32) (I : gzIT) (J : gzJT) : Option (Int32 × gzIT × gzJT) := Option.bind (f_X12_noFamily (gz_ui I 0 47 0 0) a1) (fun v2 => Option.bind (f_X12_throwsIf v2 1 (gz_ui I 0 47 0 0) J) (fun v4 => if ¬ v4.1 = 0 then (some (0, v4.2.1, v4.2.2)) else (Option.bind (f_X12_in a2 1 999) (fun v6 => Option.bind (f_X12_throwsIf (if ¬ v6 = 0 then (0 : Int32) else 1) 2 v4.2.1 v4.2.2) (fun v9 => if ¬ v9.1 = 0 then (some (0, v9.2.1, v9.2.2)) else (Option.bind (f_X12_throwsIf (if a2 ≤ v9.2.1 0 48 5 then (0 : Int32) else 1) 3 v9.2.1 v9.2.2) (fun v12 => if v12.1 = 0 then (Option.bind (f_X12_remembers φ v12.2.1 v12.2.2) (fun v14 => Option.bind (f_X12_familyAt a1 2) (fun v16 => Option.bind (f_X12_adds v16 a2 999 (gz_ui v14.2.1 0 48 5 ((v14.2.1 0 48 5) - a2)) v14.2.2) (fun v18 => Option.bind (f_X12_ofFamily v18.2.1 a1 2) (fun v20 => some (v20, v18.2.1, v18.2.2)))))) else (some (0, v12.2.1, v12.2.2)))))))))
set_option maxRecDepth 20000 in
theorem c_X12_deliver {g : gzG} {d φ : Nat} {a1 : Int32} {a2 : Int32} {I : gzIT} {J : gzJT} {r : Int32 × gzIT × gzJT} (h : f_X12_deliver φ a1 a2 I J = some r) : gzC g 0 (d + 2) mX12_deliver [.inr (.inr (0, 47)), .inl a1, .inl a2] (gzN, gzR0, I, J) (gzE (.ok (some (.inl r.1))) (gzN, gzR0, r.2.1, r.2.2)) := by
  unfold f_X12_deliver at h
  refine gzC_of (by decide +kernel) (Nat.le_of_ble_eq_true rfl) (loc := [some (.inr (.inr (0, 47))), some (.inl a1), some (.inl a2)]) rfl ?_
  have z_0_47 : gzOk 0 47 gzN := gzOk_of (by decide)
  have z_0_48 : gzOk 0 48 gzN := gzOk_of (by decide)
  refine gz_aload_n (pc := 0) dX12_deliver_0 rfl ?_
  refine gz_iconst (pc := 1) dX12_deliver_1 (v := 0) (by decide) ?_
  refine gp_X12_3 (pc := 2) dX12_deliver_2 z_0_47 rfl ?_
  refine gz_aload_n (pc := 5) dX12_deliver_5 rfl ?_
  refine gz_aload_n (pc := 6) dX12_deliver_6 rfl ?_
  refine gz_iload_n (pc := 7) dX12_deliver_7 rfl ?_
  refine gz_V (zy := mX12_noFamily) (zc := 0) (pc := 8) [.inl a1] rfl dX12_deliver_8 lkX12_301 MvX12_noFamily rfl z_0_47 rfl rfl rfl (Or.inl rfl) (fun h => h) (by exact Nat.le_of_ble_eq_true rfl) ?_
  obtain ⟨v2, e1, h⟩ := gz_bd h
  refine gz_useI (c_X12_noFamily e1) ?_
  refine gz_iconst (pc := 11) dX12_deliver_11 (v := 1) (by decide) ?_
  refine gz_V (zy := mX12_throwsIf) (zc := 0) (pc := 12) [.inl v2, .inl 1] rfl dX12_deliver_12 lkX12_269 MvX12_throwsIf rfl z_0_47 rfl rfl rfl (Or.inl rfl) (fun h => h) (by exact Nat.le_of_ble_eq_true rfl) ?_
  obtain ⟨v4, e3, h⟩ := gz_bd h
  refine gz_useI (c_X12_throwsIf e3) ?_
  refine gz_if_ne (pc := 15) (tgt := 65) dX12_deliver_15 (by decide) (fun c => ?_) (fun c => ?_)
  · replace h := gz_ifp c h
    refine gz_iconst (pc := 65) dX12_deliver_65 (v := 0) (by decide) ?_
    cases h; exact gz_iret (pc := 66) dX12_deliver_66 rfl ⟨rfl, rfl⟩
  · replace h := gz_ifn (fun q => q c) h
    refine gz_aload_n (pc := 18) dX12_deliver_18 rfl ?_
    refine gz_iload_n (pc := 19) dX12_deliver_19 rfl ?_
    refine gz_iconst (pc := 20) dX12_deliver_20 (v := 1) (by decide) ?_
    refine gz_sipush (pc := 21) dX12_deliver_21 (v := 999) (by decide) ?_
    refine gz_S (zy := mX12_in) (zc := 0) (pc := 24) [.inl a2, .inl 1, .inl 999] rfl dX12_deliver_24 lkX12_84 MsX12_in rfl (Or.inl rfl) (fun h => h) (by exact Nat.le_of_ble_eq_true rfl) ?_
    obtain ⟨v6, e5, h⟩ := gz_bd h
    refine gz_useI (c_X12_in e5) ?_
    have kj7 : gzX g 0 (d + 2) mX12_deliver 35 [some (.inr (.inr (0, 47))), some (.inl a1), some (.inl a2)] ([.inl (if ¬ v6 = 0 then (0 : Int32) else 1), .inr (.inr (0, 47))]) (gzN, gzR0, v4.2.1, v4.2.2) 0 (gzE (.ok (some (.inl r.1))) (gzN, gzR0, r.2.1, r.2.2)) := by
      refine gz_iconst (pc := 35) dX12_deliver_35 (v := 2) (by decide) ?_
      refine gz_V (zy := mX12_throwsIf) (zc := 0) (pc := 36) [.inl (if ¬ v6 = 0 then (0 : Int32) else 1), .inl 2] rfl dX12_deliver_36 lkX12_269 MvX12_throwsIf rfl z_0_47 rfl rfl rfl (Or.inl rfl) (fun h => h) (by exact Nat.le_of_ble_eq_true rfl) ?_
      obtain ⟨v9, e8, h⟩ := gz_bd h
      refine gz_useI (c_X12_throwsIf e8) ?_
      refine gz_if_ne (pc := 39) (tgt := 65) dX12_deliver_39 (by decide) (fun c => ?_) (fun c => ?_)
      · replace h := gz_ifp c h
        refine gz_iconst (pc := 65) dX12_deliver_65 (v := 0) (by decide) ?_
        cases h; exact gz_iret (pc := 66) dX12_deliver_66 rfl ⟨rfl, rfl⟩
      · replace h := gz_ifn (fun q => q c) h
        refine gz_aload_n (pc := 42) dX12_deliver_42 rfl ?_
        refine gz_aload_n (pc := 43) dX12_deliver_43 rfl ?_
        refine gr_X12_13 (pc := 44) dX12_deliver_44 z_0_47 rfl ?_
        refine gz_iconst (pc := 47) dX12_deliver_47 (v := 5) (by decide) ?_
        refine gz_iald2 (pc := 48) dX12_deliver_48 (k := 5) (v := v9.2.1 0 48 5) z_0_48 rfl (gz_vpd (by decide)) (by decide) rfl ?_
        refine gz_iload_n (pc := 49) dX12_deliver_49 rfl ?_
        have kj10 : gzX g 0 (d + 2) mX12_deliver 58 [some (.inr (.inr (0, 47))), some (.inl a1), some (.inl a2)] ([.inl (if a2 ≤ v9.2.1 0 48 5 then (0 : Int32) else 1), .inr (.inr (0, 47))]) (gzN, gzR0, v9.2.1, v9.2.2) 0 (gzE (.ok (some (.inl r.1))) (gzN, gzR0, r.2.1, r.2.2)) := by
          refine gz_iconst (pc := 58) dX12_deliver_58 (v := 3) (by decide) ?_
          refine gz_V (zy := mX12_throwsIf) (zc := 0) (pc := 59) [.inl (if a2 ≤ v9.2.1 0 48 5 then (0 : Int32) else 1), .inl 3] rfl dX12_deliver_59 lkX12_269 MvX12_throwsIf rfl z_0_47 rfl rfl rfl (Or.inl rfl) (fun h => h) (by exact Nat.le_of_ble_eq_true rfl) ?_
          obtain ⟨v12, e11, h⟩ := gz_bd h
          refine gz_useI (c_X12_throwsIf e11) ?_
          refine gz_if_eq (pc := 62) (tgt := 67) dX12_deliver_62 (by decide) (fun c => ?_) (fun c => ?_)
          · replace h := gz_ifp c h
            refine gz_aload_n (pc := 67) dX12_deliver_67 rfl ?_
            refine gz_V (zy := mX12_remembers) (zc := 0) (pc := 68) [] rfl dX12_deliver_68 lkX12_361 MvX12_remembers rfl z_0_47 rfl rfl rfl (Or.inl rfl) (fun h => h) (by exact Nat.le_of_ble_eq_true rfl) ?_
            obtain ⟨v14, e13, h⟩ := gz_bd h
            refine gz_useV (c_X12_remembers e13) ?_
            refine gz_aload_n (pc := 71) dX12_deliver_71 rfl ?_
            refine gr_X12_13 (pc := 72) dX12_deliver_72 z_0_47 rfl ?_
            refine gz_iconst (pc := 75) dX12_deliver_75 (v := 5) (by decide) ?_
            refine gz_dup2IR (pc := 76) dX12_deliver_76  ?_
            refine gz_iald2 (pc := 77) dX12_deliver_77 (k := 5) (v := v14.2.1 0 48 5) z_0_48 rfl (gz_vpd (by decide)) (by decide) rfl ?_
            refine gz_iload_n (pc := 78) dX12_deliver_78 rfl ?_
            refine gz_isub (pc := 79) dX12_deliver_79  ?_
            refine gz_iast2 (pc := 80) dX12_deliver_80 (k := 5) z_0_48 rfl (gz_vpd (by decide)) (by decide) ?_
            refine gz_aload_n (pc := 81) dX12_deliver_81 rfl ?_
            refine gz_iload_n (pc := 82) dX12_deliver_82 rfl ?_
            refine gz_iconst (pc := 83) dX12_deliver_83 (v := 2) (by decide) ?_
            refine gz_S (zy := mX12_familyAt) (zc := 0) (pc := 84) [.inl a1, .inl 2] rfl dX12_deliver_84 lkX12_63 MsX12_familyAt rfl (Or.inl rfl) (fun h => h) (by exact Nat.le_of_ble_eq_true rfl) ?_
            obtain ⟨v16, e15, h⟩ := gz_bd h
            refine gz_useI (c_X12_familyAt e15) ?_
            refine gz_iload_n (pc := 87) dX12_deliver_87 rfl ?_
            refine gz_sipush (pc := 88) dX12_deliver_88 (v := 999) (by decide) ?_
            refine gz_V (zy := mX12_adds) (zc := 0) (pc := 91) [.inl v16, .inl a2, .inl 999] rfl dX12_deliver_91 lkX12_333 MvX12_adds rfl z_0_47 rfl rfl rfl (Or.inl rfl) (fun h => h) (by exact Nat.le_of_ble_eq_true rfl) ?_
            obtain ⟨v18, e17, h⟩ := gz_bd h
            refine gz_useV (c_X12_adds e17) ?_
            refine gz_aload_n (pc := 94) dX12_deliver_94 rfl ?_
            refine gz_iload_n (pc := 95) dX12_deliver_95 rfl ?_
            refine gz_iconst (pc := 96) dX12_deliver_96 (v := 2) (by decide) ?_
            refine gz_V (zy := mX12_ofFamily) (zc := 0) (pc := 97) [.inl a1, .inl 2] rfl dX12_deliver_97 lkX12_272 MvX12_ofFamily rfl z_0_47 rfl rfl rfl (Or.inl rfl) (fun h => h) (by exact Nat.le_of_ble_eq_true rfl) ?_
            obtain ⟨v20, e19, h⟩ := gz_bd h
            refine gz_useI (c_X12_ofFamily e19) ?_
            cases h; exact gz_iret (pc := 100) dX12_deliver_100 rfl ⟨rfl, rfl⟩
          · replace h := gz_ifn c h
            refine gz_iconst (pc := 65) dX12_deliver_65 (v := 0) (by decide) ?_
            cases h; exact gz_iret (pc := 66) dX12_deliver_66 rfl ⟨rfl, rfl⟩
        refine gz_ic_ge (pc := 50) (tgt := 57) dX12_deliver_50 (by decide) (fun c => ?_) (fun c => ?_)
        · rw [if_pos c] at kj10
          refine gz_iconst (pc := 57) dX12_deliver_57 (v := 0) (by decide) ?_
          exact kj10
        · rw [if_neg c] at kj10
          refine gz_iconst (pc := 53) dX12_deliver_53 (v := 1) (by decide) ?_
          refine gz_goto (pc := 54) (tgt := 58) dX12_deliver_54 (by decide) ?_
          exact kj10
    refine gz_if_ne (pc := 27) (tgt := 34) dX12_deliver_27 (by decide) (fun c => ?_) (fun c => ?_)
    · rw [if_pos c] at kj7
      refine gz_iconst (pc := 34) dX12_deliver_34 (v := 0) (by decide) ?_
      exact kj7
    · rw [if_neg (show ¬ (¬ v6 = 0) from fun q => q c)] at kj7
      refine gz_iconst (pc := 30) dX12_deliver_30 (v := 1) (by decide) ?_
      refine gz_goto (pc := 31) (tgt := 35) dX12_deliver_31 (by decide) ?_
      exact kj7
/-! X12_prop: prop -/
def f_X12_prop (φ : Nat) (a1 : Int32) (I : gzIT) (J : gzJT) : Option (Int32 × gzIT × gzJT) := Option.bind (f_X12_remembers φ (gz_ui I 0 47 0 0) J) (fun v2 => some ((if (if ¬ v2.2.1 0 48 6 = 1 then (0 : Int32) else 1) = a1 then (0 : Int32) else 1), gz_ui v2.2.1 0 48 6 (if a1 = 0 then (0 : Int32) else 1), v2.2.2))
set_option maxRecDepth 20000 in
theorem c_X12_prop {g : gzG} {d φ : Nat} {a1 : Int32} {I : gzIT} {J : gzJT} {r : Int32 × gzIT × gzJT} (h : f_X12_prop φ a1 I J = some r) : gzC g 0 (d + 1) mX12_prop [.inr (.inr (0, 47)), .inl a1] (gzN, gzR0, I, J) (gzE (.ok (some (.inl r.1))) (gzN, gzR0, r.2.1, r.2.2)) := by
  unfold f_X12_prop at h
  refine gzC_of (by decide +kernel) (Nat.le_of_ble_eq_true rfl) (loc := [some (.inr (.inr (0, 47))), some (.inl a1), none]) rfl ?_
  have z_0_47 : gzOk 0 47 gzN := gzOk_of (by decide)
  have z_0_48 : gzOk 0 48 gzN := gzOk_of (by decide)
  refine gz_aload_n (pc := 0) dX12_prop_0 rfl ?_
  refine gz_iconst (pc := 1) dX12_prop_1 (v := 0) (by decide) ?_
  refine gp_X12_3 (pc := 2) dX12_prop_2 z_0_47 rfl ?_
  refine gz_aload_n (pc := 5) dX12_prop_5 rfl ?_
  refine gz_V (zy := mX12_remembers) (zc := 0) (pc := 6) [] rfl dX12_prop_6 lkX12_361 MvX12_remembers rfl z_0_47 rfl rfl rfl (Or.inl rfl) (fun h => h) (by exact Nat.le_of_ble_eq_true rfl) ?_
  obtain ⟨v2, e1, h⟩ := gz_bd h
  refine gz_useV (c_X12_remembers e1) ?_
  refine gz_aload_n (pc := 9) dX12_prop_9 rfl ?_
  refine gr_X12_13 (pc := 10) dX12_prop_10 z_0_47 rfl ?_
  refine gz_bipush (pc := 13) dX12_prop_13 (v := 6) (by decide) ?_
  refine gz_iald2 (pc := 15) dX12_prop_15 (k := 6) (v := v2.2.1 0 48 6) z_0_48 rfl (gz_vpd (by decide)) (by decide) rfl ?_
  refine gz_iconst (pc := 16) dX12_prop_16 (v := 1) (by decide) ?_
  have kj3 : gzX g 0 (d + 1) mX12_prop 25 [some (.inr (.inr (0, 47))), some (.inl a1), none] ([.inl (if ¬ v2.2.1 0 48 6 = 1 then (0 : Int32) else 1)]) (gzN, gzR0, v2.2.1, v2.2.2) 0 (gzE (.ok (some (.inl r.1))) (gzN, gzR0, r.2.1, r.2.2)) := by
    refine gz_istore_n (pc := 25) dX12_prop_25 (by decide) rfl (loc2 := [some (.inr (.inr (0, 47))), some (.inl a1), some (.inl (if ¬ v2.2.1 0 48 6 = 1 then (0 : Int32) else 1))]) rfl ?_
    refine gz_aload_n (pc := 26) dX12_prop_26 rfl ?_
    refine gr_X12_13 (pc := 27) dX12_prop_27 z_0_47 rfl ?_
    refine gz_bipush (pc := 30) dX12_prop_30 (v := 6) (by decide) ?_
    refine gz_iload_n (pc := 32) dX12_prop_32 rfl ?_
    have kj4 : gzX g 0 (d + 1) mX12_prop 41 [some (.inr (.inr (0, 47))), some (.inl a1), some (.inl (if ¬ v2.2.1 0 48 6 = 1 then (0 : Int32) else 1))] ([.inl (if a1 = 0 then (0 : Int32) else 1), .inl 6, .inr (.inr (0, 48))]) (gzN, gzR0, v2.2.1, v2.2.2) 0 (gzE (.ok (some (.inl r.1))) (gzN, gzR0, r.2.1, r.2.2)) := by
      refine gz_iast2 (pc := 41) dX12_prop_41 (k := 6) z_0_48 rfl (gz_vpd (by decide)) (by decide) ?_
      refine gz_iload_n (pc := 42) dX12_prop_42 rfl ?_
      refine gz_iload_n (pc := 43) dX12_prop_43 rfl ?_
      have kj5 : gzX g 0 (d + 1) mX12_prop 52 [some (.inr (.inr (0, 47))), some (.inl a1), some (.inl (if ¬ v2.2.1 0 48 6 = 1 then (0 : Int32) else 1))] ([.inl (if (if ¬ v2.2.1 0 48 6 = 1 then (0 : Int32) else 1) = a1 then (0 : Int32) else 1)]) (gzN, gzR0, gz_ui v2.2.1 0 48 6 (if a1 = 0 then (0 : Int32) else 1), v2.2.2) 0 (gzE (.ok (some (.inl r.1))) (gzN, gzR0, r.2.1, r.2.2)) := by
        cases h; exact gz_zret (pc := 52) dX12_prop_52 rfl (by first | exact gz_ite01 | exact gz_ite10) ⟨rfl, rfl⟩
      refine gz_ic_eq (pc := 44) (tgt := 51) dX12_prop_44 (by decide) (fun c => ?_) (fun c => ?_)
      · rw [if_pos c] at kj5
        refine gz_iconst (pc := 51) dX12_prop_51 (v := 0) (by decide) ?_
        exact kj5
      · rw [if_neg c] at kj5
        refine gz_iconst (pc := 47) dX12_prop_47 (v := 1) (by decide) ?_
        refine gz_goto (pc := 48) (tgt := 52) dX12_prop_48 (by decide) ?_
        exact kj5
    refine gz_if_eq (pc := 33) (tgt := 40) dX12_prop_33 (by decide) (fun c => ?_) (fun c => ?_)
    · rw [if_pos c] at kj4
      refine gz_iconst (pc := 40) dX12_prop_40 (v := 0) (by decide) ?_
      exact kj4
    · rw [if_neg c] at kj4
      refine gz_iconst (pc := 36) dX12_prop_36 (v := 1) (by decide) ?_
      refine gz_goto (pc := 37) (tgt := 41) dX12_prop_37 (by decide) ?_
      exact kj4
  refine gz_ic_ne (pc := 17) (tgt := 24) dX12_prop_17 (by decide) (fun c => ?_) (fun c => ?_)
  · rw [if_pos c] at kj3
    refine gz_iconst (pc := 24) dX12_prop_24 (v := 0) (by decide) ?_
    exact kj3
  · rw [if_neg (show ¬ (¬ v2.2.1 0 48 6 = 1) from fun q => q c)] at kj3
    refine gz_iconst (pc := 20) dX12_prop_20 (v := 1) (by decide) ?_
    refine gz_goto (pc := 21) (tgt := 25) dX12_prop_21 (by decide) ?_
    exact kj3
/-! X12_cold: cold -/
def f_X12_cold (φ : Nat) (I : gzIT) (J : gzJT) : Option (Int32 × gzIT × gzJT) := Option.bind (f_X12_standing φ (gz_ui I 0 47 0 0)) (fun v2 => Option.bind (f_X12_iceOf φ (gz_ui I 0 47 0 0) v2) (fun v4 => some ((v4 + (I 0 48 5)), gz_ui I 0 47 0 0, J)))
set_option maxRecDepth 20000 in
theorem c_X12_cold {g : gzG} {d φ : Nat} {I : gzIT} {J : gzJT} {r : Int32 × gzIT × gzJT} (h : f_X12_cold φ I J = some r) : gzC g 0 (d + 4) mX12_cold [.inr (.inr (0, 47))] (gzN, gzR0, I, J) (gzE (.ok (some (.inl r.1))) (gzN, gzR0, r.2.1, r.2.2)) := by
  unfold f_X12_cold at h
  refine gzC_of (by decide +kernel) (Nat.le_of_ble_eq_true rfl) (loc := [some (.inr (.inr (0, 47)))]) rfl ?_
  have z_0_47 : gzOk 0 47 gzN := gzOk_of (by decide)
  have z_0_48 : gzOk 0 48 gzN := gzOk_of (by decide)
  refine gz_aload_n (pc := 0) dX12_cold_0 rfl ?_
  refine gz_iconst (pc := 1) dX12_cold_1 (v := 0) (by decide) ?_
  refine gp_X12_3 (pc := 2) dX12_cold_2 z_0_47 rfl ?_
  refine gz_aload_n (pc := 5) dX12_cold_5 rfl ?_
  refine gz_aload_n (pc := 6) dX12_cold_6 rfl ?_
  refine gz_V (zy := mX12_standing) (zc := 0) (pc := 7) [] rfl dX12_cold_7 lkX12_291 MvX12_standing rfl z_0_47 rfl rfl rfl (Or.inl rfl) (fun h => h) (by exact Nat.le_of_ble_eq_true rfl) ?_
  obtain ⟨v2, e1, h⟩ := gz_bd h
  refine gz_useI (c_X12_standing e1) ?_
  refine gz_V (zy := mX12_iceOf) (zc := 0) (pc := 10) [.inl v2] rfl dX12_cold_10 lkX12_294 MvX12_iceOf rfl z_0_47 rfl rfl rfl (Or.inl rfl) (fun h => h) (by exact Nat.le_of_ble_eq_true rfl) ?_
  obtain ⟨v4, e3, h⟩ := gz_bd h
  refine gz_useI (c_X12_iceOf e3) ?_
  refine gz_aload_n (pc := 13) dX12_cold_13 rfl ?_
  refine gr_X12_13 (pc := 14) dX12_cold_14 z_0_47 rfl ?_
  refine gz_iconst (pc := 17) dX12_cold_17 (v := 5) (by decide) ?_
  refine gz_iald2 (pc := 18) dX12_cold_18 (k := 5) (v := I 0 48 5) z_0_48 rfl (gz_vpd (by decide)) (by decide) (gz_ui_o (by decide)) ?_
  refine gz_iadd (pc := 19) dX12_cold_19  ?_
  cases h; exact gz_iret (pc := 20) dX12_cold_20 rfl ⟨rfl, rfl⟩
/-! X12_stock: stock -/
def gP_X12_stock_13 (g : gzG) (d : Nat) (r : Int32 × gzIT × gzJT) (x1 : Int32) (x2 : Int32) (I : gzIT) (J : gzJT) : Prop := gzX g 0 (d + 9) mX12_stock 13 [some (.inr (.inr (0, 47))), some (.inl x1), some (.inl x2)] [] (gzN, gzR0, I, J) 0 (gzE (.ok (some (.inl r.1))) (gzN, gzR0, r.2.1, r.2.2))
def f_X12_stock_13 (φ : Nat) : Nat → Int32 → Int32 → gzIT → gzJT → Option (Int32 × gzIT × gzJT)
  | 0, _, _, _, _ => none
  | k + 1, x1, x2, I, J => if 60 < x2 then (Option.bind (f_X12_bringsBack φ I J) (fun v4 => some (x1, v4.2.1, v4.2.2))) else (if ¬ x1 = (-1) then (Option.bind (f_X12_bringsBack φ I J) (fun v6 => some (x1, v6.2.1, v6.2.2))) else (Option.bind (f_X12_oneSeason φ 1 I J) (fun v9 => f_X12_stock_13 φ k (if ¬ I 0 48 5 = 0 then ((-1) : Int32) else x2) (x2 + 1) v9.2.1 v9.2.2)))
set_option maxRecDepth 20000 in
theorem p_X12_stock_13 {g : gzG} {d φ : Nat} {r : Int32 × gzIT × gzJT} : ∀ (k : Nat) (x1 : Int32) (x2 : Int32) (I : gzIT) (J : gzJT), f_X12_stock_13 φ k x1 x2 I J = some r → gP_X12_stock_13 g d r x1 x2 I J := by
  intro k; induction k with
  | zero => intro x1 x2 I J h; cases h
  | succ k ih =>
    intro x1 x2 I J h
    unfold f_X12_stock_13 at h
    unfold gP_X12_stock_13
    have z_0_47 : gzOk 0 47 gzN := gzOk_of (by decide)
    have z_0_48 : gzOk 0 48 gzN := gzOk_of (by decide)
    refine gz_iload_n (pc := 13) dX12_stock_13 rfl ?_
    refine gz_bipush (pc := 14) dX12_stock_14 (v := 60) (by decide) ?_
    refine gz_ic_gt (pc := 16) (tgt := 51) dX12_stock_16 (by decide) (fun c => ?_) (fun c => ?_)
    · replace h := gz_ifp c h
      refine gz_aload_n (pc := 51) dX12_stock_51 rfl ?_
      refine gz_V (zy := mX12_bringsBack) (zc := 0) (pc := 52) [] rfl dX12_stock_52 lkX12_374 MvX12_bringsBack rfl z_0_47 rfl rfl rfl (Or.inl rfl) (fun h => h) (by exact Nat.le_of_ble_eq_true rfl) ?_
      obtain ⟨v4, e3, h⟩ := gz_bd h
      refine gz_useV (c_X12_bringsBack e3) ?_
      refine gz_iload_n (pc := 55) dX12_stock_55 rfl ?_
      cases h; exact gz_iret (pc := 56) dX12_stock_56 rfl ⟨rfl, rfl⟩
    · replace h := gz_ifn c h
      refine gz_iload_n (pc := 19) dX12_stock_19 rfl ?_
      refine gz_iconst (pc := 20) dX12_stock_20 (v := (-1)) (by decide) ?_
      refine gz_ic_ne (pc := 21) (tgt := 51) dX12_stock_21 (by decide) (fun c => ?_) (fun c => ?_)
      · replace h := gz_ifp c h
        refine gz_aload_n (pc := 51) dX12_stock_51 rfl ?_
        refine gz_V (zy := mX12_bringsBack) (zc := 0) (pc := 52) [] rfl dX12_stock_52 lkX12_374 MvX12_bringsBack rfl z_0_47 rfl rfl rfl (Or.inl rfl) (fun h => h) (by exact Nat.le_of_ble_eq_true rfl) ?_
        obtain ⟨v6, e5, h⟩ := gz_bd h
        refine gz_useV (c_X12_bringsBack e5) ?_
        refine gz_iload_n (pc := 55) dX12_stock_55 rfl ?_
        cases h; exact gz_iret (pc := 56) dX12_stock_56 rfl ⟨rfl, rfl⟩
      · replace h := gz_ifn (fun q => q c) h
        refine gz_aload_n (pc := 24) dX12_stock_24 rfl ?_
        refine gr_X12_13 (pc := 25) dX12_stock_25 z_0_47 rfl ?_
        refine gz_iconst (pc := 28) dX12_stock_28 (v := 5) (by decide) ?_
        refine gz_iald2 (pc := 29) dX12_stock_29 (k := 5) (v := I 0 48 5) z_0_48 rfl (gz_vpd (by decide)) (by decide) rfl ?_
        have kj7 : gzX g 0 (d + 9) mX12_stock 38 [some (.inr (.inr (0, 47))), some (.inl x1), some (.inl x2)] ([.inl (if ¬ I 0 48 5 = 0 then ((-1) : Int32) else x2)]) (gzN, gzR0, I, J) 0 (gzE (.ok (some (.inl r.1))) (gzN, gzR0, r.2.1, r.2.2)) := by
          refine gz_istore_n (pc := 38) dX12_stock_38 (by decide) rfl (loc2 := [some (.inr (.inr (0, 47))), some (.inl (if ¬ I 0 48 5 = 0 then ((-1) : Int32) else x2)), some (.inl x2)]) rfl ?_
          refine gz_aload_n (pc := 39) dX12_stock_39 rfl ?_
          refine gz_iconst (pc := 40) dX12_stock_40 (v := 1) (by decide) ?_
          refine gz_V (zy := mX12_oneSeason) (zc := 0) (pc := 41) [.inl 1] rfl dX12_stock_41 lkX12_358 MvX12_oneSeason rfl z_0_47 rfl rfl rfl (Or.inl rfl) (fun h => h) (by exact Nat.le_of_ble_eq_true rfl) ?_
          obtain ⟨v9, e8, h⟩ := gz_bd h
          refine gz_useI (c_X12_oneSeason e8) ?_
          refine gz_popI (pc := 44) dX12_stock_44  ?_
          refine gz_iinc (pc := 45) dX12_stock_45 (x := x2) (v := x2 + 1) rfl (by rw [show Int32.ofInt 1 = 1 by decide]) (by decide) rfl (loc2 := [some (.inr (.inr (0, 47))), some (.inl (if ¬ I 0 48 5 = 0 then ((-1) : Int32) else x2)), some (.inl (x2 + 1))]) rfl ?_
          refine gz_goto (pc := 48) (tgt := 13) dX12_stock_48 (by decide) ?_
          exact ih (if ¬ I 0 48 5 = 0 then ((-1) : Int32) else x2) (x2 + 1) v9.2.1 v9.2.2 h
        refine gz_if_ne (pc := 30) (tgt := 37) dX12_stock_30 (by decide) (fun c => ?_) (fun c => ?_)
        · rw [if_pos c] at kj7
          refine gz_iconst (pc := 37) dX12_stock_37 (v := (-1)) (by decide) ?_
          exact kj7
        · rw [if_neg (show ¬ (¬ I 0 48 5 = 0) from fun q => q c)] at kj7
          refine gz_iload_n (pc := 33) dX12_stock_33 rfl ?_
          refine gz_goto (pc := 34) (tgt := 38) dX12_stock_34 (by decide) ?_
          exact kj7
def f_X12_stock (φ : Nat) (I : gzIT) (J : gzJT) : Option (Int32 × gzIT × gzJT) := Option.bind (f_X12_keepsAll φ (gz_ui I 0 47 0 0) J) (fun v2 => f_X12_stock_13 φ φ (-1) 0 v2.2.1 v2.2.2)
set_option maxRecDepth 20000 in
theorem c_X12_stock {g : gzG} {d φ : Nat} {I : gzIT} {J : gzJT} {r : Int32 × gzIT × gzJT} (h : f_X12_stock φ I J = some r) : gzC g 0 (d + 9) mX12_stock [.inr (.inr (0, 47))] (gzN, gzR0, I, J) (gzE (.ok (some (.inl r.1))) (gzN, gzR0, r.2.1, r.2.2)) := by
  unfold f_X12_stock at h
  refine gzC_of (by decide +kernel) (Nat.le_of_ble_eq_true rfl) (loc := [some (.inr (.inr (0, 47))), none, none]) rfl ?_
  have z_0_47 : gzOk 0 47 gzN := gzOk_of (by decide)
  refine gz_aload_n (pc := 0) dX12_stock_0 rfl ?_
  refine gz_iconst (pc := 1) dX12_stock_1 (v := 0) (by decide) ?_
  refine gp_X12_3 (pc := 2) dX12_stock_2 z_0_47 rfl ?_
  refine gz_iconst (pc := 5) dX12_stock_5 (v := (-1)) (by decide) ?_
  refine gz_istore_n (pc := 6) dX12_stock_6 (by decide) rfl (loc2 := [some (.inr (.inr (0, 47))), some (.inl (-1)), none]) rfl ?_
  refine gz_aload_n (pc := 7) dX12_stock_7 rfl ?_
  refine gz_V (zy := mX12_keepsAll) (zc := 0) (pc := 8) [] rfl dX12_stock_8 lkX12_371 MvX12_keepsAll rfl z_0_47 rfl rfl rfl (Or.inl rfl) (fun h => h) (by exact Nat.le_of_ble_eq_true rfl) ?_
  obtain ⟨v2, e1, h⟩ := gz_bd h
  refine gz_useV (c_X12_keepsAll e1) ?_
  refine gz_iconst (pc := 11) dX12_stock_11 (v := 0) (by decide) ?_
  refine gz_istore_n (pc := 12) dX12_stock_12 (by decide) rfl (loc2 := [some (.inr (.inr (0, 47))), some (.inl (-1)), some (.inl 0)]) rfl ?_
  exact p_X12_stock_13 φ (-1) 0 v2.2.1 v2.2.2 h
/-! X12_scarce: scarce -/
def gP_X12_scarce_13 (g : gzG) (d : Nat) (r : Int32 × gzIT × gzJT) (x1 : Int32) (x2 : Int32) (x3 : Int32) (I : gzIT) (J : gzJT) : Prop := gzX g 0 (d + 10) mX12_scarce 13 [some (.inr (.inr (0, 47))), some (.inl x1), some (.inl x2), some (.inl x3), none] [] (gzN, gzR0, I, J) 0 (gzE (.ok (some (.inl r.1))) (gzN, gzR0, r.2.1, r.2.2))
def f_X12_scarce_13 (φ : Nat) : Nat → Int32 → Int32 → Int32 → gzIT → gzJT → Option (Int32 × gzIT × gzJT)
  | 0, _, _, _, _, _ => none
  | k + 1, x1, x2, x3, I, J => Option.bind (f_X12_families I) (fun v2 => if v2 ≤ x3 then (some (x1, I, J)) else (Option.bind (f_X12_lastsOf φ x3 I J) (fun v4 => if v4.1 = (-1) then (f_X12_scarce_13 φ k x1 x2 (x3 + 1) v4.2.1 v4.2.2) else (if v4.1 < x2 then (f_X12_scarce_13 φ k x3 v4.1 (x3 + 1) v4.2.1 v4.2.2) else (f_X12_scarce_13 φ k x1 x2 (x3 + 1) v4.2.1 v4.2.2)))))
set_option maxRecDepth 20000 in
theorem p_X12_scarce_13 {g : gzG} {d φ : Nat} {r : Int32 × gzIT × gzJT} : ∀ (k : Nat) (x1 : Int32) (x2 : Int32) (x3 : Int32) (I : gzIT) (J : gzJT), f_X12_scarce_13 φ k x1 x2 x3 I J = some r → gP_X12_scarce_13 g d r x1 x2 x3 I J := by
  intro k; induction k with
  | zero => intro x1 x2 x3 I J h; cases h
  | succ k ih =>
    intro x1 x2 x3 I J h
    unfold f_X12_scarce_13 at h
    unfold gP_X12_scarce_13
    have z_0_47 : gzOk 0 47 gzN := gzOk_of (by decide)
    refine gz_iload_n (pc := 13) dX12_scarce_13 rfl ?_
    refine gz_aload_n (pc := 14) dX12_scarce_14 rfl ?_
    refine gz_V (zy := mX12_families) (zc := 0) (pc := 15) [] rfl dX12_scarce_15 lkX12_59 MvX12_families rfl z_0_47 rfl rfl rfl (Or.inl rfl) (fun h => h) (by exact Nat.le_of_ble_eq_true rfl) ?_
    obtain ⟨v2, e1, h⟩ := gz_bd h
    refine gz_useI (c_X12_families e1) ?_
    refine gz_ic_ge (pc := 18) (tgt := 54) dX12_scarce_18 (by decide) (fun c => ?_) (fun c => ?_)
    · replace h := gz_ifp c h
      refine gz_iload_n (pc := 54) dX12_scarce_54 rfl ?_
      cases h; exact gz_iret (pc := 55) dX12_scarce_55 rfl ⟨rfl, rfl⟩
    · replace h := gz_ifn c h
      refine gz_aload_n (pc := 21) dX12_scarce_21 rfl ?_
      refine gz_iload_n (pc := 22) dX12_scarce_22 rfl ?_
      refine gz_V (zy := mX12_lastsOf) (zc := 0) (pc := 23) [.inl x3] rfl dX12_scarce_23 lkX12_307 MvX12_lastsOf rfl z_0_47 rfl rfl rfl (Or.inl rfl) (fun h => h) (by exact Nat.le_of_ble_eq_true rfl) ?_
      obtain ⟨v4, e3, h⟩ := gz_bd h
      refine gz_useI (c_X12_lastsOf e3) ?_
      refine gz_istore (pc := 26) dX12_scarce_26 (by decide) rfl (loc2 := [some (.inr (.inr (0, 47))), some (.inl x1), some (.inl x2), some (.inl x3), some (.inl v4.1)]) rfl ?_
      refine gz_iload (pc := 28) dX12_scarce_28 rfl ?_
      refine gz_iconst (pc := 30) dX12_scarce_30 (v := (-1)) (by decide) ?_
      refine gz_ic_eq (pc := 31) (tgt := 48) dX12_scarce_31 (by decide) (fun c => ?_) (fun c => ?_)
      · replace h := gz_ifp c h
        refine gz_iinc (pc := 48) dX12_scarce_48 (x := x3) (v := x3 + 1) rfl (by rw [show Int32.ofInt 1 = 1 by decide]) (by decide) rfl (loc2 := [some (.inr (.inr (0, 47))), some (.inl x1), some (.inl x2), some (.inl (x3 + 1)), some (.inl v4.1)]) rfl ?_
        refine gz_goto (pc := 51) (tgt := 13) dX12_scarce_51 (by decide) ?_
        exact gz_weak (loc2 := [some (.inr (.inr (0, 47))), some (.inl x1), some (.inl x2), some (.inl (x3 + 1)), none]) (ih x1 x2 (x3 + 1) v4.2.1 v4.2.2 h) (by repeat (first | exact trivial | refine ⟨rfl, ?_⟩))
      · replace h := gz_ifn c h
        refine gz_iload (pc := 34) dX12_scarce_34 rfl ?_
        refine gz_iload_n (pc := 36) dX12_scarce_36 rfl ?_
        refine gz_ic_lt (pc := 37) (tgt := 43) dX12_scarce_37 (by decide) (fun c => ?_) (fun c => ?_)
        · replace h := gz_ifp c h
          refine gz_iload_n (pc := 43) dX12_scarce_43 rfl ?_
          refine gz_istore_n (pc := 44) dX12_scarce_44 (by decide) rfl (loc2 := [some (.inr (.inr (0, 47))), some (.inl x3), some (.inl x2), some (.inl x3), some (.inl v4.1)]) rfl ?_
          refine gz_iload (pc := 45) dX12_scarce_45 rfl ?_
          refine gz_istore_n (pc := 47) dX12_scarce_47 (by decide) rfl (loc2 := [some (.inr (.inr (0, 47))), some (.inl x3), some (.inl v4.1), some (.inl x3), some (.inl v4.1)]) rfl ?_
          refine gz_iinc (pc := 48) dX12_scarce_48 (x := x3) (v := x3 + 1) rfl (by rw [show Int32.ofInt 1 = 1 by decide]) (by decide) rfl (loc2 := [some (.inr (.inr (0, 47))), some (.inl x3), some (.inl v4.1), some (.inl (x3 + 1)), some (.inl v4.1)]) rfl ?_
          refine gz_goto (pc := 51) (tgt := 13) dX12_scarce_51 (by decide) ?_
          exact gz_weak (loc2 := [some (.inr (.inr (0, 47))), some (.inl x3), some (.inl v4.1), some (.inl (x3 + 1)), none]) (ih x3 v4.1 (x3 + 1) v4.2.1 v4.2.2 h) (by repeat (first | exact trivial | refine ⟨rfl, ?_⟩))
        · replace h := gz_ifn c h
          refine gz_goto (pc := 40) (tgt := 48) dX12_scarce_40 (by decide) ?_
          refine gz_iinc (pc := 48) dX12_scarce_48 (x := x3) (v := x3 + 1) rfl (by rw [show Int32.ofInt 1 = 1 by decide]) (by decide) rfl (loc2 := [some (.inr (.inr (0, 47))), some (.inl x1), some (.inl x2), some (.inl (x3 + 1)), some (.inl v4.1)]) rfl ?_
          refine gz_goto (pc := 51) (tgt := 13) dX12_scarce_51 (by decide) ?_
          exact gz_weak (loc2 := [some (.inr (.inr (0, 47))), some (.inl x1), some (.inl x2), some (.inl (x3 + 1)), none]) (ih x1 x2 (x3 + 1) v4.2.1 v4.2.2 h) (by repeat (first | exact trivial | refine ⟨rfl, ?_⟩))
def f_X12_scarce (φ : Nat) (I : gzIT) (J : gzJT) : Option (Int32 × gzIT × gzJT) := f_X12_scarce_13 φ φ (-1) 1000000 0 (gz_ui I 0 47 0 0) J
set_option maxRecDepth 20000 in
theorem c_X12_scarce {g : gzG} {d φ : Nat} {I : gzIT} {J : gzJT} {r : Int32 × gzIT × gzJT} (h : f_X12_scarce φ I J = some r) : gzC g 0 (d + 10) mX12_scarce [.inr (.inr (0, 47))] (gzN, gzR0, I, J) (gzE (.ok (some (.inl r.1))) (gzN, gzR0, r.2.1, r.2.2)) := by
  unfold f_X12_scarce at h
  refine gzC_of (by decide +kernel) (Nat.le_of_ble_eq_true rfl) (loc := [some (.inr (.inr (0, 47))), none, none, none, none]) rfl ?_
  have z_0_47 : gzOk 0 47 gzN := gzOk_of (by decide)
  refine gz_aload_n (pc := 0) dX12_scarce_0 rfl ?_
  refine gz_iconst (pc := 1) dX12_scarce_1 (v := 0) (by decide) ?_
  refine gp_X12_3 (pc := 2) dX12_scarce_2 z_0_47 rfl ?_
  refine gz_iconst (pc := 5) dX12_scarce_5 (v := (-1)) (by decide) ?_
  refine gz_istore_n (pc := 6) dX12_scarce_6 (by decide) rfl (loc2 := [some (.inr (.inr (0, 47))), some (.inl (-1)), none, none, none]) rfl ?_
  refine gz_ldcw (pc := 7) dX12_scarce_7 kcX12_377.1 kcX12_377.2 ?_
  refine gz_istore_n (pc := 10) dX12_scarce_10 (by decide) rfl (loc2 := [some (.inr (.inr (0, 47))), some (.inl (-1)), some (.inl 1000000), none, none]) rfl ?_
  refine gz_iconst (pc := 11) dX12_scarce_11 (v := 0) (by decide) ?_
  refine gz_istore_n (pc := 12) dX12_scarce_12 (by decide) rfl (loc2 := [some (.inr (.inr (0, 47))), some (.inl (-1)), some (.inl 1000000), some (.inl 0), none]) rfl ?_
  exact p_X12_scarce_13 φ (-1) 1000000 0 (gz_ui I 0 47 0 0) J h
/-! X12_hot: hot -/
def gP_X12_hot_13 (g : gzG) (d : Nat) (r : Int32 × gzIT × gzJT) (x1 : Int32) (x2 : Int32) (I : gzIT) (J : gzJT) : Prop := gzX g 0 (d + 9) mX12_hot 13 [some (.inr (.inr (0, 47))), some (.inl x1), some (.inl x2)] [] (gzN, gzR0, I, J) 0 (gzE (.ok (some (.inl r.1))) (gzN, gzR0, r.2.1, r.2.2))
def f_X12_hot_13 (φ : Nat) : Nat → Int32 → Int32 → gzIT → gzJT → Option (Int32 × gzIT × gzJT)
  | 0, _, _, _, _ => none
  | k + 1, x1, x2, I, J => if 60 < x2 then (Option.bind (f_X12_bringsBack φ I J) (fun v4 => some (x1, v4.2.1, v4.2.2))) else (if ¬ x1 = (-1) then (Option.bind (f_X12_bringsBack φ I J) (fun v6 => some (x1, v6.2.1, v6.2.2))) else (Option.bind (f_X12_oneSeason φ 1 I J) (fun v8 => f_X12_hot_13 φ k (if v8.1 ≤ 0 then ((-1) : Int32) else x2) (x2 + 1) v8.2.1 v8.2.2)))
set_option maxRecDepth 20000 in
theorem p_X12_hot_13 {g : gzG} {d φ : Nat} {r : Int32 × gzIT × gzJT} : ∀ (k : Nat) (x1 : Int32) (x2 : Int32) (I : gzIT) (J : gzJT), f_X12_hot_13 φ k x1 x2 I J = some r → gP_X12_hot_13 g d r x1 x2 I J := by
  intro k; induction k with
  | zero => intro x1 x2 I J h; cases h
  | succ k ih =>
    intro x1 x2 I J h
    unfold f_X12_hot_13 at h
    unfold gP_X12_hot_13
    have z_0_47 : gzOk 0 47 gzN := gzOk_of (by decide)
    refine gz_iload_n (pc := 13) dX12_hot_13 rfl ?_
    refine gz_bipush (pc := 14) dX12_hot_14 (v := 60) (by decide) ?_
    refine gz_ic_gt (pc := 16) (tgt := 44) dX12_hot_16 (by decide) (fun c => ?_) (fun c => ?_)
    · replace h := gz_ifp c h
      refine gz_aload_n (pc := 44) dX12_hot_44 rfl ?_
      refine gz_V (zy := mX12_bringsBack) (zc := 0) (pc := 45) [] rfl dX12_hot_45 lkX12_374 MvX12_bringsBack rfl z_0_47 rfl rfl rfl (Or.inl rfl) (fun h => h) (by exact Nat.le_of_ble_eq_true rfl) ?_
      obtain ⟨v4, e3, h⟩ := gz_bd h
      refine gz_useV (c_X12_bringsBack e3) ?_
      refine gz_iload_n (pc := 48) dX12_hot_48 rfl ?_
      cases h; exact gz_iret (pc := 49) dX12_hot_49 rfl ⟨rfl, rfl⟩
    · replace h := gz_ifn c h
      refine gz_iload_n (pc := 19) dX12_hot_19 rfl ?_
      refine gz_iconst (pc := 20) dX12_hot_20 (v := (-1)) (by decide) ?_
      refine gz_ic_ne (pc := 21) (tgt := 44) dX12_hot_21 (by decide) (fun c => ?_) (fun c => ?_)
      · replace h := gz_ifp c h
        refine gz_aload_n (pc := 44) dX12_hot_44 rfl ?_
        refine gz_V (zy := mX12_bringsBack) (zc := 0) (pc := 45) [] rfl dX12_hot_45 lkX12_374 MvX12_bringsBack rfl z_0_47 rfl rfl rfl (Or.inl rfl) (fun h => h) (by exact Nat.le_of_ble_eq_true rfl) ?_
        obtain ⟨v6, e5, h⟩ := gz_bd h
        refine gz_useV (c_X12_bringsBack e5) ?_
        refine gz_iload_n (pc := 48) dX12_hot_48 rfl ?_
        cases h; exact gz_iret (pc := 49) dX12_hot_49 rfl ⟨rfl, rfl⟩
      · replace h := gz_ifn (fun q => q c) h
        refine gz_aload_n (pc := 24) dX12_hot_24 rfl ?_
        refine gz_iconst (pc := 25) dX12_hot_25 (v := 1) (by decide) ?_
        refine gz_V (zy := mX12_oneSeason) (zc := 0) (pc := 26) [.inl 1] rfl dX12_hot_26 lkX12_358 MvX12_oneSeason rfl z_0_47 rfl rfl rfl (Or.inl rfl) (fun h => h) (by exact Nat.le_of_ble_eq_true rfl) ?_
        obtain ⟨v8, e7, h⟩ := gz_bd h
        refine gz_useI (c_X12_oneSeason e7) ?_
        have kj9 : gzX g 0 (d + 9) mX12_hot 37 [some (.inr (.inr (0, 47))), some (.inl x1), some (.inl x2)] ([.inl (if v8.1 ≤ 0 then ((-1) : Int32) else x2)]) (gzN, gzR0, v8.2.1, v8.2.2) 0 (gzE (.ok (some (.inl r.1))) (gzN, gzR0, r.2.1, r.2.2)) := by
          refine gz_istore_n (pc := 37) dX12_hot_37 (by decide) rfl (loc2 := [some (.inr (.inr (0, 47))), some (.inl (if v8.1 ≤ 0 then ((-1) : Int32) else x2)), some (.inl x2)]) rfl ?_
          refine gz_iinc (pc := 38) dX12_hot_38 (x := x2) (v := x2 + 1) rfl (by rw [show Int32.ofInt 1 = 1 by decide]) (by decide) rfl (loc2 := [some (.inr (.inr (0, 47))), some (.inl (if v8.1 ≤ 0 then ((-1) : Int32) else x2)), some (.inl (x2 + 1))]) rfl ?_
          refine gz_goto (pc := 41) (tgt := 13) dX12_hot_41 (by decide) ?_
          exact ih (if v8.1 ≤ 0 then ((-1) : Int32) else x2) (x2 + 1) v8.2.1 v8.2.2 h
        refine gz_if_le (pc := 29) (tgt := 36) dX12_hot_29 (by decide) (fun c => ?_) (fun c => ?_)
        · rw [if_pos c] at kj9
          refine gz_iconst (pc := 36) dX12_hot_36 (v := (-1)) (by decide) ?_
          exact kj9
        · rw [if_neg c] at kj9
          refine gz_iload_n (pc := 32) dX12_hot_32 rfl ?_
          refine gz_goto (pc := 33) (tgt := 37) dX12_hot_33 (by decide) ?_
          exact kj9
def f_X12_hot (φ : Nat) (I : gzIT) (J : gzJT) : Option (Int32 × gzIT × gzJT) := Option.bind (f_X12_keepsAll φ (gz_ui I 0 47 0 0) J) (fun v2 => f_X12_hot_13 φ φ (-1) 1 v2.2.1 v2.2.2)
set_option maxRecDepth 20000 in
theorem c_X12_hot {g : gzG} {d φ : Nat} {I : gzIT} {J : gzJT} {r : Int32 × gzIT × gzJT} (h : f_X12_hot φ I J = some r) : gzC g 0 (d + 9) mX12_hot [.inr (.inr (0, 47))] (gzN, gzR0, I, J) (gzE (.ok (some (.inl r.1))) (gzN, gzR0, r.2.1, r.2.2)) := by
  unfold f_X12_hot at h
  refine gzC_of (by decide +kernel) (Nat.le_of_ble_eq_true rfl) (loc := [some (.inr (.inr (0, 47))), none, none]) rfl ?_
  have z_0_47 : gzOk 0 47 gzN := gzOk_of (by decide)
  refine gz_aload_n (pc := 0) dX12_hot_0 rfl ?_
  refine gz_iconst (pc := 1) dX12_hot_1 (v := 0) (by decide) ?_
  refine gp_X12_3 (pc := 2) dX12_hot_2 z_0_47 rfl ?_
  refine gz_iconst (pc := 5) dX12_hot_5 (v := (-1)) (by decide) ?_
  refine gz_istore_n (pc := 6) dX12_hot_6 (by decide) rfl (loc2 := [some (.inr (.inr (0, 47))), some (.inl (-1)), none]) rfl ?_
  refine gz_aload_n (pc := 7) dX12_hot_7 rfl ?_
  refine gz_V (zy := mX12_keepsAll) (zc := 0) (pc := 8) [] rfl dX12_hot_8 lkX12_371 MvX12_keepsAll rfl z_0_47 rfl rfl rfl (Or.inl rfl) (fun h => h) (by exact Nat.le_of_ble_eq_true rfl) ?_
  obtain ⟨v2, e1, h⟩ := gz_bd h
  refine gz_useV (c_X12_keepsAll e1) ?_
  refine gz_iconst (pc := 11) dX12_hot_11 (v := 1) (by decide) ?_
  refine gz_istore_n (pc := 12) dX12_hot_12 (by decide) rfl (loc2 := [some (.inr (.inr (0, 47))), some (.inl (-1)), some (.inl 1)]) rfl ?_
  exact p_X12_hot_13 φ (-1) 1 v2.2.1 v2.2.2 h
/-! X12_noAhead: noAhead -/
def f_X12_noAhead (a1 : Int32) : Option Int32 := Option.bind (f_X12_in a1 0 60) (fun v2 => some (if ¬ v2 = 0 then (0 : Int32) else 1))
set_option maxRecDepth 20000 in
theorem c_X12_noAhead {g : gzG} {d : Nat} {a1 : Int32} {I : gzIT} {J : gzJT} {r : Int32} (h : f_X12_noAhead a1 = some r) : gzC g 0 (d + 1) mX12_noAhead [.inl a1] (gzN, gzR0, I, J) (gzE (.ok (some (.inl r))) (gzN, gzR0, I, J)) := by
  unfold f_X12_noAhead at h
  refine gzC_of (by decide +kernel) (Nat.le_of_ble_eq_true rfl) (loc := [some (.inl a1)]) rfl ?_
  refine gz_iload_n (pc := 0) dX12_noAhead_0 rfl ?_
  refine gz_iconst (pc := 1) dX12_noAhead_1 (v := 0) (by decide) ?_
  refine gz_bipush (pc := 2) dX12_noAhead_2 (v := 60) (by decide) ?_
  refine gz_S (zy := mX12_in) (zc := 0) (pc := 4) [.inl a1, .inl 0, .inl 60] rfl dX12_noAhead_4 lkX12_84 MsX12_in rfl (Or.inl rfl) (fun h => h) (by exact Nat.le_of_ble_eq_true rfl) ?_
  obtain ⟨v2, e1, h⟩ := gz_bd h
  refine gz_useI (c_X12_in e1) ?_
  have kj3 : gzX g 0 (d + 1) mX12_noAhead 15 [some (.inl a1)] ([.inl (if ¬ v2 = 0 then (0 : Int32) else 1)]) (gzN, gzR0, I, J) 0 (gzE (.ok (some (.inl r))) (gzN, gzR0, I, J)) := by
    cases h; exact gz_zret (pc := 15) dX12_noAhead_15 rfl (by first | exact gz_ite01 | exact gz_ite10) ⟨rfl, rfl⟩
  refine gz_if_ne (pc := 7) (tgt := 14) dX12_noAhead_7 (by decide) (fun c => ?_) (fun c => ?_)
  · rw [if_pos c] at kj3
    refine gz_iconst (pc := 14) dX12_noAhead_14 (v := 0) (by decide) ?_
    exact kj3
  · rw [if_neg (show ¬ (¬ v2 = 0) from fun q => q c)] at kj3
    refine gz_iconst (pc := 10) dX12_noAhead_10 (v := 1) (by decide) ?_
    refine gz_goto (pc := 11) (tgt := 15) dX12_noAhead_11 (by decide) ?_
    exact kj3
/-! X12_ahead: ahead -/
def f_X12_ahead (φ : Nat) (a1 : Int32) (a2 : Int32) (I : gzIT) (J : gzJT) : Option (Int32 × gzIT × gzJT) := Option.bind (f_X12_noGrudge (gz_ui I 0 47 0 0) a1) (fun v2 => Option.bind (f_X12_throwsIf v2 1 (gz_ui I 0 47 0 0) J) (fun v4 => if ¬ v4.1 = 0 then (some (0, v4.2.1, v4.2.2)) else (Option.bind (f_X12_noAhead a2) (fun v6 => Option.bind (f_X12_throwsIf v6 2 v4.2.1 v4.2.2) (fun v8 => if v8.1 = 0 then (Option.bind (f_X12_keepsAll φ v8.2.1 v8.2.2) (fun v10 => Option.bind (f_X12_goesOn φ a2 1 v10.2.1 v10.2.2) (fun v12 => Option.bind (f_X12_of v12.2.1 a1 4) (fun v14 => Option.bind (f_X12_bringsBack φ v12.2.1 v12.2.2) (fun v16 => some (v14, v16.2.1, v16.2.2)))))) else (some (0, v8.2.1, v8.2.2)))))))
set_option maxRecDepth 20000 in
theorem c_X12_ahead {g : gzG} {d φ : Nat} {a1 : Int32} {a2 : Int32} {I : gzIT} {J : gzJT} {r : Int32 × gzIT × gzJT} (h : f_X12_ahead φ a1 a2 I J = some r) : gzC g 0 (d + 10) mX12_ahead [.inr (.inr (0, 47)), .inl a1, .inl a2] (gzN, gzR0, I, J) (gzE (.ok (some (.inl r.1))) (gzN, gzR0, r.2.1, r.2.2)) := by
  unfold f_X12_ahead at h
  refine gzC_of (by decide +kernel) (Nat.le_of_ble_eq_true rfl) (loc := [some (.inr (.inr (0, 47))), some (.inl a1), some (.inl a2), none]) rfl ?_
  have z_0_47 : gzOk 0 47 gzN := gzOk_of (by decide)
  refine gz_aload_n (pc := 0) dX12_ahead_0 rfl ?_
  refine gz_iconst (pc := 1) dX12_ahead_1 (v := 0) (by decide) ?_
  refine gp_X12_3 (pc := 2) dX12_ahead_2 z_0_47 rfl ?_
  refine gz_aload_n (pc := 5) dX12_ahead_5 rfl ?_
  refine gz_aload_n (pc := 6) dX12_ahead_6 rfl ?_
  refine gz_iload_n (pc := 7) dX12_ahead_7 rfl ?_
  refine gz_V (zy := mX12_noGrudge) (zc := 0) (pc := 8) [.inl a1] rfl dX12_ahead_8 lkX12_315 MvX12_noGrudge rfl z_0_47 rfl rfl rfl (Or.inl rfl) (fun h => h) (by exact Nat.le_of_ble_eq_true rfl) ?_
  obtain ⟨v2, e1, h⟩ := gz_bd h
  refine gz_useI (c_X12_noGrudge e1) ?_
  refine gz_iconst (pc := 11) dX12_ahead_11 (v := 1) (by decide) ?_
  refine gz_V (zy := mX12_throwsIf) (zc := 0) (pc := 12) [.inl v2, .inl 1] rfl dX12_ahead_12 lkX12_269 MvX12_throwsIf rfl z_0_47 rfl rfl rfl (Or.inl rfl) (fun h => h) (by exact Nat.le_of_ble_eq_true rfl) ?_
  obtain ⟨v4, e3, h⟩ := gz_bd h
  refine gz_useI (c_X12_throwsIf e3) ?_
  refine gz_if_ne (pc := 15) (tgt := 30) dX12_ahead_15 (by decide) (fun c => ?_) (fun c => ?_)
  · replace h := gz_ifp c h
    refine gz_iconst (pc := 30) dX12_ahead_30 (v := 0) (by decide) ?_
    cases h; exact gz_iret (pc := 31) dX12_ahead_31 rfl ⟨rfl, rfl⟩
  · replace h := gz_ifn (fun q => q c) h
    refine gz_aload_n (pc := 18) dX12_ahead_18 rfl ?_
    refine gz_iload_n (pc := 19) dX12_ahead_19 rfl ?_
    refine gz_S (zy := mX12_noAhead) (zc := 0) (pc := 20) [.inl a2] rfl dX12_ahead_20 lkX12_378 MsX12_noAhead rfl (Or.inl rfl) (fun h => h) (by exact Nat.le_of_ble_eq_true rfl) ?_
    obtain ⟨v6, e5, h⟩ := gz_bd h
    refine gz_useI (c_X12_noAhead e5) ?_
    refine gz_iconst (pc := 23) dX12_ahead_23 (v := 2) (by decide) ?_
    refine gz_V (zy := mX12_throwsIf) (zc := 0) (pc := 24) [.inl v6, .inl 2] rfl dX12_ahead_24 lkX12_269 MvX12_throwsIf rfl z_0_47 rfl rfl rfl (Or.inl rfl) (fun h => h) (by exact Nat.le_of_ble_eq_true rfl) ?_
    obtain ⟨v8, e7, h⟩ := gz_bd h
    refine gz_useI (c_X12_throwsIf e7) ?_
    refine gz_if_eq (pc := 27) (tgt := 32) dX12_ahead_27 (by decide) (fun c => ?_) (fun c => ?_)
    · replace h := gz_ifp c h
      refine gz_aload_n (pc := 32) dX12_ahead_32 rfl ?_
      refine gz_V (zy := mX12_keepsAll) (zc := 0) (pc := 33) [] rfl dX12_ahead_33 lkX12_371 MvX12_keepsAll rfl z_0_47 rfl rfl rfl (Or.inl rfl) (fun h => h) (by exact Nat.le_of_ble_eq_true rfl) ?_
      obtain ⟨v10, e9, h⟩ := gz_bd h
      refine gz_useV (c_X12_keepsAll e9) ?_
      refine gz_aload_n (pc := 36) dX12_ahead_36 rfl ?_
      refine gz_iload_n (pc := 37) dX12_ahead_37 rfl ?_
      refine gz_iconst (pc := 38) dX12_ahead_38 (v := 1) (by decide) ?_
      refine gz_V (zy := mX12_goesOn) (zc := 0) (pc := 39) [.inl a2, .inl 1] rfl dX12_ahead_39 lkX12_364 MvX12_goesOn rfl z_0_47 rfl rfl rfl (Or.inl rfl) (fun h => h) (by exact Nat.le_of_ble_eq_true rfl) ?_
      obtain ⟨v12, e11, h⟩ := gz_bd h
      refine gz_useI (c_X12_goesOn e11) ?_
      refine gz_popI (pc := 42) dX12_ahead_42  ?_
      refine gz_aload_n (pc := 43) dX12_ahead_43 rfl ?_
      refine gz_iload_n (pc := 44) dX12_ahead_44 rfl ?_
      refine gz_iconst (pc := 45) dX12_ahead_45 (v := 4) (by decide) ?_
      refine gz_V (zy := mX12_of) (zc := 0) (pc := 46) [.inl a1, .inl 4] rfl dX12_ahead_46 lkX12_70 MvX12_of rfl z_0_47 rfl rfl rfl (Or.inl rfl) (fun h => h) (by exact Nat.le_of_ble_eq_true rfl) ?_
      obtain ⟨v14, e13, h⟩ := gz_bd h
      refine gz_useI (c_X12_of e13) ?_
      refine gz_istore_n (pc := 49) dX12_ahead_49 (by decide) rfl (loc2 := [some (.inr (.inr (0, 47))), some (.inl a1), some (.inl a2), some (.inl v14)]) rfl ?_
      refine gz_aload_n (pc := 50) dX12_ahead_50 rfl ?_
      refine gz_V (zy := mX12_bringsBack) (zc := 0) (pc := 51) [] rfl dX12_ahead_51 lkX12_374 MvX12_bringsBack rfl z_0_47 rfl rfl rfl (Or.inl rfl) (fun h => h) (by exact Nat.le_of_ble_eq_true rfl) ?_
      obtain ⟨v16, e15, h⟩ := gz_bd h
      refine gz_useV (c_X12_bringsBack e15) ?_
      refine gz_iload_n (pc := 54) dX12_ahead_54 rfl ?_
      cases h; exact gz_iret (pc := 55) dX12_ahead_55 rfl ⟨rfl, rfl⟩
    · replace h := gz_ifn c h
      refine gz_iconst (pc := 30) dX12_ahead_30 (v := 0) (by decide) ?_
      cases h; exact gz_iret (pc := 31) dX12_ahead_31 rfl ⟨rfl, rfl⟩
/-! X12_larder: larder -/
def f_X12_larder (φ : Nat) (a1 : Int32) (a2 : Int32) (I : gzIT) (J : gzJT) : Option (Int32 × gzIT × gzJT) := Option.bind (f_X12_noFamily (gz_ui I 0 47 0 0) a1) (fun v2 => Option.bind (f_X12_throwsIf v2 1 (gz_ui I 0 47 0 0) J) (fun v4 => if ¬ v4.1 = 0 then (some (0, v4.2.1, v4.2.2)) else (Option.bind (f_X12_noAhead a2) (fun v6 => Option.bind (f_X12_throwsIf v6 2 v4.2.1 v4.2.2) (fun v8 => if v8.1 = 0 then (Option.bind (f_X12_keepsAll φ v8.2.1 v8.2.2) (fun v10 => Option.bind (f_X12_goesOn φ a2 1 v10.2.1 v10.2.2) (fun v12 => Option.bind (f_X12_ofFamily v12.2.1 a1 2) (fun v14 => Option.bind (f_X12_bringsBack φ v12.2.1 v12.2.2) (fun v16 => some (v14, v16.2.1, v16.2.2)))))) else (some (0, v8.2.1, v8.2.2)))))))
set_option maxRecDepth 20000 in
theorem c_X12_larder {g : gzG} {d φ : Nat} {a1 : Int32} {a2 : Int32} {I : gzIT} {J : gzJT} {r : Int32 × gzIT × gzJT} (h : f_X12_larder φ a1 a2 I J = some r) : gzC g 0 (d + 10) mX12_larder [.inr (.inr (0, 47)), .inl a1, .inl a2] (gzN, gzR0, I, J) (gzE (.ok (some (.inl r.1))) (gzN, gzR0, r.2.1, r.2.2)) := by
  unfold f_X12_larder at h
  refine gzC_of (by decide +kernel) (Nat.le_of_ble_eq_true rfl) (loc := [some (.inr (.inr (0, 47))), some (.inl a1), some (.inl a2), none]) rfl ?_
  have z_0_47 : gzOk 0 47 gzN := gzOk_of (by decide)
  refine gz_aload_n (pc := 0) dX12_larder_0 rfl ?_
  refine gz_iconst (pc := 1) dX12_larder_1 (v := 0) (by decide) ?_
  refine gp_X12_3 (pc := 2) dX12_larder_2 z_0_47 rfl ?_
  refine gz_aload_n (pc := 5) dX12_larder_5 rfl ?_
  refine gz_aload_n (pc := 6) dX12_larder_6 rfl ?_
  refine gz_iload_n (pc := 7) dX12_larder_7 rfl ?_
  refine gz_V (zy := mX12_noFamily) (zc := 0) (pc := 8) [.inl a1] rfl dX12_larder_8 lkX12_301 MvX12_noFamily rfl z_0_47 rfl rfl rfl (Or.inl rfl) (fun h => h) (by exact Nat.le_of_ble_eq_true rfl) ?_
  obtain ⟨v2, e1, h⟩ := gz_bd h
  refine gz_useI (c_X12_noFamily e1) ?_
  refine gz_iconst (pc := 11) dX12_larder_11 (v := 1) (by decide) ?_
  refine gz_V (zy := mX12_throwsIf) (zc := 0) (pc := 12) [.inl v2, .inl 1] rfl dX12_larder_12 lkX12_269 MvX12_throwsIf rfl z_0_47 rfl rfl rfl (Or.inl rfl) (fun h => h) (by exact Nat.le_of_ble_eq_true rfl) ?_
  obtain ⟨v4, e3, h⟩ := gz_bd h
  refine gz_useI (c_X12_throwsIf e3) ?_
  refine gz_if_ne (pc := 15) (tgt := 30) dX12_larder_15 (by decide) (fun c => ?_) (fun c => ?_)
  · replace h := gz_ifp c h
    refine gz_iconst (pc := 30) dX12_larder_30 (v := 0) (by decide) ?_
    cases h; exact gz_iret (pc := 31) dX12_larder_31 rfl ⟨rfl, rfl⟩
  · replace h := gz_ifn (fun q => q c) h
    refine gz_aload_n (pc := 18) dX12_larder_18 rfl ?_
    refine gz_iload_n (pc := 19) dX12_larder_19 rfl ?_
    refine gz_S (zy := mX12_noAhead) (zc := 0) (pc := 20) [.inl a2] rfl dX12_larder_20 lkX12_378 MsX12_noAhead rfl (Or.inl rfl) (fun h => h) (by exact Nat.le_of_ble_eq_true rfl) ?_
    obtain ⟨v6, e5, h⟩ := gz_bd h
    refine gz_useI (c_X12_noAhead e5) ?_
    refine gz_iconst (pc := 23) dX12_larder_23 (v := 2) (by decide) ?_
    refine gz_V (zy := mX12_throwsIf) (zc := 0) (pc := 24) [.inl v6, .inl 2] rfl dX12_larder_24 lkX12_269 MvX12_throwsIf rfl z_0_47 rfl rfl rfl (Or.inl rfl) (fun h => h) (by exact Nat.le_of_ble_eq_true rfl) ?_
    obtain ⟨v8, e7, h⟩ := gz_bd h
    refine gz_useI (c_X12_throwsIf e7) ?_
    refine gz_if_eq (pc := 27) (tgt := 32) dX12_larder_27 (by decide) (fun c => ?_) (fun c => ?_)
    · replace h := gz_ifp c h
      refine gz_aload_n (pc := 32) dX12_larder_32 rfl ?_
      refine gz_V (zy := mX12_keepsAll) (zc := 0) (pc := 33) [] rfl dX12_larder_33 lkX12_371 MvX12_keepsAll rfl z_0_47 rfl rfl rfl (Or.inl rfl) (fun h => h) (by exact Nat.le_of_ble_eq_true rfl) ?_
      obtain ⟨v10, e9, h⟩ := gz_bd h
      refine gz_useV (c_X12_keepsAll e9) ?_
      refine gz_aload_n (pc := 36) dX12_larder_36 rfl ?_
      refine gz_iload_n (pc := 37) dX12_larder_37 rfl ?_
      refine gz_iconst (pc := 38) dX12_larder_38 (v := 1) (by decide) ?_
      refine gz_V (zy := mX12_goesOn) (zc := 0) (pc := 39) [.inl a2, .inl 1] rfl dX12_larder_39 lkX12_364 MvX12_goesOn rfl z_0_47 rfl rfl rfl (Or.inl rfl) (fun h => h) (by exact Nat.le_of_ble_eq_true rfl) ?_
      obtain ⟨v12, e11, h⟩ := gz_bd h
      refine gz_useI (c_X12_goesOn e11) ?_
      refine gz_popI (pc := 42) dX12_larder_42  ?_
      refine gz_aload_n (pc := 43) dX12_larder_43 rfl ?_
      refine gz_iload_n (pc := 44) dX12_larder_44 rfl ?_
      refine gz_iconst (pc := 45) dX12_larder_45 (v := 2) (by decide) ?_
      refine gz_V (zy := mX12_ofFamily) (zc := 0) (pc := 46) [.inl a1, .inl 2] rfl dX12_larder_46 lkX12_272 MvX12_ofFamily rfl z_0_47 rfl rfl rfl (Or.inl rfl) (fun h => h) (by exact Nat.le_of_ble_eq_true rfl) ?_
      obtain ⟨v14, e13, h⟩ := gz_bd h
      refine gz_useI (c_X12_ofFamily e13) ?_
      refine gz_istore_n (pc := 49) dX12_larder_49 (by decide) rfl (loc2 := [some (.inr (.inr (0, 47))), some (.inl a1), some (.inl a2), some (.inl v14)]) rfl ?_
      refine gz_aload_n (pc := 50) dX12_larder_50 rfl ?_
      refine gz_V (zy := mX12_bringsBack) (zc := 0) (pc := 51) [] rfl dX12_larder_51 lkX12_374 MvX12_bringsBack rfl z_0_47 rfl rfl rfl (Or.inl rfl) (fun h => h) (by exact Nat.le_of_ble_eq_true rfl) ?_
      obtain ⟨v16, e15, h⟩ := gz_bd h
      refine gz_useV (c_X12_bringsBack e15) ?_
      refine gz_iload_n (pc := 54) dX12_larder_54 rfl ?_
      cases h; exact gz_iret (pc := 55) dX12_larder_55 rfl ⟨rfl, rfl⟩
    · replace h := gz_ifn c h
      refine gz_iconst (pc := 30) dX12_larder_30 (v := 0) (by decide) ?_
      cases h; exact gz_iret (pc := 31) dX12_larder_31 rfl ⟨rfl, rfl⟩
/-! X12_wantsOf: wantsOf -/
def gP_X12_wantsOf_4 (g : gzG) (d : Nat) (r : Int32) (x1 : Int32) (x2 : Int32) (x3 : Int32) (I : gzIT) (J : gzJT) : Prop := gzX g 0 (d + 2) mX12_wantsOf 4 [some (.inr (.inr (0, 47))), some (.inl x1), some (.inl x2), some (.inl x3)] [] (gzN, gzR0, I, J) 0 (gzE (.ok (some (.inl r))) (gzN, gzR0, I, J))
def f_X12_wantsOf_4 (φ : Nat) (I : gzIT) : Nat → Int32 → Int32 → Int32 → Option Int32
  | 0, _, _, _ => none
  | k + 1, x1, x2, x3 => Option.bind (f_X12_families I) (fun v2 => if v2 ≤ x3 then (some x2) else (Option.bind (f_X12_has x1 x3) (fun v4 => if v4 = 0 then (f_X12_wantsOf_4 φ I k x1 (x2 + 0) (x3 + 1)) else (Option.bind (f_X12_ofFamily I x3 1) (fun v6 => Option.bind (f_X12_ofFamily I x3 2) (fun v8 => f_X12_wantsOf_4 φ I k x1 (x2 + (if 0 < v6 - v8 then v6 - v8 else 0)) (x3 + 1)))))))
set_option maxRecDepth 20000 in
theorem p_X12_wantsOf_4 {g : gzG} {d φ : Nat} {I : gzIT} {J : gzJT} {r : Int32} : ∀ (k : Nat) (x1 : Int32) (x2 : Int32) (x3 : Int32), f_X12_wantsOf_4 φ I k x1 x2 x3 = some r → gP_X12_wantsOf_4 g d r x1 x2 x3 I J := by
  intro k; induction k with
  | zero => intro x1 x2 x3 h; cases h
  | succ k ih =>
    intro x1 x2 x3 h
    unfold f_X12_wantsOf_4 at h
    unfold gP_X12_wantsOf_4
    have z_0_47 : gzOk 0 47 gzN := gzOk_of (by decide)
    refine gz_iload_n (pc := 4) dX12_wantsOf_4 rfl ?_
    refine gz_aload_n (pc := 5) dX12_wantsOf_5 rfl ?_
    refine gz_V (zy := mX12_families) (zc := 0) (pc := 6) [] rfl dX12_wantsOf_6 lkX12_59 MvX12_families rfl z_0_47 rfl rfl rfl (Or.inl rfl) (fun h => h) (by exact Nat.le_of_ble_eq_true rfl) ?_
    obtain ⟨v2, e1, h⟩ := gz_bd h
    refine gz_useI (c_X12_families e1) ?_
    refine gz_ic_ge (pc := 9) (tgt := 50) dX12_wantsOf_9 (by decide) (fun c => ?_) (fun c => ?_)
    · replace h := gz_ifp c h
      refine gz_iload_n (pc := 50) dX12_wantsOf_50 rfl ?_
      cases h; exact gz_iret (pc := 51) dX12_wantsOf_51 rfl ⟨rfl, rfl⟩
    · replace h := gz_ifn c h
      refine gz_iload_n (pc := 12) dX12_wantsOf_12 rfl ?_
      refine gz_iload_n (pc := 13) dX12_wantsOf_13 rfl ?_
      refine gz_iload_n (pc := 14) dX12_wantsOf_14 rfl ?_
      refine gz_S (zy := mX12_has) (zc := 0) (pc := 15) [.inl x1, .inl x3] rfl dX12_wantsOf_15 lkX12_80 MsX12_has rfl (Or.inl rfl) (fun h => h) (by exact Nat.le_of_ble_eq_true rfl) ?_
      obtain ⟨v4, e3, h⟩ := gz_bd h
      refine gz_useI (c_X12_has e3) ?_
      refine gz_if_eq (pc := 18) (tgt := 41) dX12_wantsOf_18 (by decide) (fun c => ?_) (fun c => ?_)
      · replace h := gz_ifp c h
        refine gz_iconst (pc := 41) dX12_wantsOf_41 (v := 0) (by decide) ?_
        refine gz_iadd (pc := 42) dX12_wantsOf_42  ?_
        refine gz_istore_n (pc := 43) dX12_wantsOf_43 (by decide) rfl (loc2 := [some (.inr (.inr (0, 47))), some (.inl x1), some (.inl (x2 + 0)), some (.inl x3)]) rfl ?_
        refine gz_iinc (pc := 44) dX12_wantsOf_44 (x := x3) (v := x3 + 1) rfl (by rw [show Int32.ofInt 1 = 1 by decide]) (by decide) rfl (loc2 := [some (.inr (.inr (0, 47))), some (.inl x1), some (.inl (x2 + 0)), some (.inl (x3 + 1))]) rfl ?_
        refine gz_goto (pc := 47) (tgt := 4) dX12_wantsOf_47 (by decide) ?_
        exact ih x1 (x2 + 0) (x3 + 1) h
      · replace h := gz_ifn c h
        refine gz_iconst (pc := 21) dX12_wantsOf_21 (v := 0) (by decide) ?_
        refine gz_aload_n (pc := 22) dX12_wantsOf_22 rfl ?_
        refine gz_iload_n (pc := 23) dX12_wantsOf_23 rfl ?_
        refine gz_iconst (pc := 24) dX12_wantsOf_24 (v := 1) (by decide) ?_
        refine gz_V (zy := mX12_ofFamily) (zc := 0) (pc := 25) [.inl x3, .inl 1] rfl dX12_wantsOf_25 lkX12_272 MvX12_ofFamily rfl z_0_47 rfl rfl rfl (Or.inl rfl) (fun h => h) (by exact Nat.le_of_ble_eq_true rfl) ?_
        obtain ⟨v6, e5, h⟩ := gz_bd h
        refine gz_useI (c_X12_ofFamily e5) ?_
        refine gz_aload_n (pc := 28) dX12_wantsOf_28 rfl ?_
        refine gz_iload_n (pc := 29) dX12_wantsOf_29 rfl ?_
        refine gz_iconst (pc := 30) dX12_wantsOf_30 (v := 2) (by decide) ?_
        refine gz_V (zy := mX12_ofFamily) (zc := 0) (pc := 31) [.inl x3, .inl 2] rfl dX12_wantsOf_31 lkX12_272 MvX12_ofFamily rfl z_0_47 rfl rfl rfl (Or.inl rfl) (fun h => h) (by exact Nat.le_of_ble_eq_true rfl) ?_
        obtain ⟨v8, e7, h⟩ := gz_bd h
        refine gz_useI (c_X12_ofFamily e7) ?_
        refine gz_isub (pc := 34) dX12_wantsOf_34  ?_
        refine gx_X12_310 (pc := 35) dX12_wantsOf_35 (Nat.le_of_ble_eq_true rfl) rfl ?_
        refine gz_goto (pc := 38) (tgt := 42) dX12_wantsOf_38 (by decide) ?_
        refine gz_iadd (pc := 42) dX12_wantsOf_42  ?_
        refine gz_istore_n (pc := 43) dX12_wantsOf_43 (by decide) rfl (loc2 := [some (.inr (.inr (0, 47))), some (.inl x1), some (.inl (x2 + (if 0 < v6 - v8 then v6 - v8 else 0))), some (.inl x3)]) rfl ?_
        refine gz_iinc (pc := 44) dX12_wantsOf_44 (x := x3) (v := x3 + 1) rfl (by rw [show Int32.ofInt 1 = 1 by decide]) (by decide) rfl (loc2 := [some (.inr (.inr (0, 47))), some (.inl x1), some (.inl (x2 + (if 0 < v6 - v8 then v6 - v8 else 0))), some (.inl (x3 + 1))]) rfl ?_
        refine gz_goto (pc := 47) (tgt := 4) dX12_wantsOf_47 (by decide) ?_
        exact ih x1 (x2 + (if 0 < v6 - v8 then v6 - v8 else 0)) (x3 + 1) h
def f_X12_wantsOf (φ : Nat) (I : gzIT) (a1 : Int32) : Option Int32 := f_X12_wantsOf_4 φ I φ a1 0 0
set_option maxRecDepth 20000 in
theorem c_X12_wantsOf {g : gzG} {d φ : Nat} {a1 : Int32} {I : gzIT} {J : gzJT} {r : Int32} (h : f_X12_wantsOf φ I a1 = some r) : gzC g 0 (d + 2) mX12_wantsOf [.inr (.inr (0, 47)), .inl a1] (gzN, gzR0, I, J) (gzE (.ok (some (.inl r))) (gzN, gzR0, I, J)) := by
  unfold f_X12_wantsOf at h
  refine gzC_of (by decide +kernel) (Nat.le_of_ble_eq_true rfl) (loc := [some (.inr (.inr (0, 47))), some (.inl a1), none, none]) rfl ?_
  refine gz_iconst (pc := 0) dX12_wantsOf_0 (v := 0) (by decide) ?_
  refine gz_istore_n (pc := 1) dX12_wantsOf_1 (by decide) rfl (loc2 := [some (.inr (.inr (0, 47))), some (.inl a1), some (.inl 0), none]) rfl ?_
  refine gz_iconst (pc := 2) dX12_wantsOf_2 (v := 0) (by decide) ?_
  refine gz_istore_n (pc := 3) dX12_wantsOf_3 (by decide) rfl (loc2 := [some (.inr (.inr (0, 47))), some (.inl a1), some (.inl 0), some (.inl 0)]) rfl ?_
  exact p_X12_wantsOf_4 φ a1 0 0 h
/-! X12_mayHave: mayHave -/
def gP_X12_mayHave_18 (g : gzG) (d : Nat) (r : Int32) (x1 : Int32) (x2 : Int32) (x3 : Int32) (x4 : Int32) (x5 : Int32) (I : gzIT) (J : gzJT) : Prop := gzX g 0 (d + 3) mX12_mayHave 18 [some (.inr (.inr (0, 47))), some (.inl x1), some (.inl x2), some (.inl x3), some (.inl x4), some (.inl x5)] [] (gzN, gzR0, I, J) 0 (gzE (.ok (some (.inl r))) (gzN, gzR0, I, J))
def gP_X12_mayHave_4 (g : gzG) (d : Nat) (r : Int32) (x1 : Int32) (x2 : Int32) (x3 : Int32) (I : gzIT) (J : gzJT) : Prop := gzX g 0 (d + 3) mX12_mayHave 4 [some (.inr (.inr (0, 47))), some (.inl x1), some (.inl x2), some (.inl x3), none, none] [] (gzN, gzR0, I, J) 0 (gzE (.ok (some (.inl r))) (gzN, gzR0, I, J))
def f_X12_mayHave_18 (φ : Nat) (I : gzIT) (K4 : Int32 → Int32 → Int32 → Option Int32) : Nat → Int32 → Int32 → Int32 → Int32 → Int32 → Option Int32
  | 0, _, _, _, _, _ => none
  | k + 1, x1, x2, x3, x4, x5 => Option.bind (f_X12_families I) (fun v4 => if v4 ≤ x5 then (if x4 = 0 then (K4 x1 (x2 + 0) (x3 + 1)) else (Option.bind (f_X12_isThawed I x3) (fun v6 => if ¬ v6 = 0 then (K4 x1 (x2 + 0) (x3 + 1)) else (Option.bind (f_X12_of I x3 4) (fun v8 => K4 x1 (x2 + v8) (x3 + 1)))))) else (if ¬ x4 = 0 then (f_X12_mayHave_18 φ I K4 k x1 x2 x3 1 (x5 + 1)) else (Option.bind (f_X12_has x1 x5) (fun v10 => if v10 = 0 then (f_X12_mayHave_18 φ I K4 k x1 x2 x3 0 (x5 + 1)) else (Option.bind (f_X12_isOf I x3 x5) (fun v12 => if ¬ v12 = 0 then (f_X12_mayHave_18 φ I K4 k x1 x2 x3 0 (x5 + 1)) else (f_X12_mayHave_18 φ I K4 k x1 x2 x3 1 (x5 + 1))))))))
set_option maxRecDepth 20000 in
theorem p_X12_mayHave_18 {g : gzG} {d φ : Nat} {I : gzIT} {J : gzJT} {r : Int32} {K4 : Int32 → Int32 → Int32 → Option Int32} (hK4 : ∀ (x1 : Int32) (x2 : Int32) (x3 : Int32), K4 x1 x2 x3 = some r → gP_X12_mayHave_4 g d r x1 x2 x3 I J) : ∀ (k : Nat) (x1 : Int32) (x2 : Int32) (x3 : Int32) (x4 : Int32) (x5 : Int32), f_X12_mayHave_18 φ I K4 k x1 x2 x3 x4 x5 = some r → gP_X12_mayHave_18 g d r x1 x2 x3 x4 x5 I J := by
  intro k; induction k with
  | zero => intro x1 x2 x3 x4 x5 h; cases h
  | succ k ih =>
    intro x1 x2 x3 x4 x5 h
    unfold f_X12_mayHave_18 at h
    unfold gP_X12_mayHave_18
    have z_0_47 : gzOk 0 47 gzN := gzOk_of (by decide)
    refine gz_iload (pc := 18) dX12_mayHave_18 rfl ?_
    refine gz_aload_n (pc := 20) dX12_mayHave_20 rfl ?_
    refine gz_V (zy := mX12_families) (zc := 0) (pc := 21) [] rfl dX12_mayHave_21 lkX12_59 MvX12_families rfl z_0_47 rfl rfl rfl (Or.inl rfl) (fun h => h) (by exact Nat.le_of_ble_eq_true rfl) ?_
    obtain ⟨v4, e3, h⟩ := gz_bd h
    refine gz_useI (c_X12_families e3) ?_
    refine gz_ic_ge (pc := 24) (tgt := 64) dX12_mayHave_24 (by decide) (fun c => ?_) (fun c => ?_)
    · replace h := gz_ifp c h
      refine gz_iload_n (pc := 64) dX12_mayHave_64 rfl ?_
      refine gz_iload (pc := 65) dX12_mayHave_65 rfl ?_
      refine gz_if_eq (pc := 67) (tgt := 87) dX12_mayHave_67 (by decide) (fun c => ?_) (fun c => ?_)
      · replace h := gz_ifp c h
        refine gz_iconst (pc := 87) dX12_mayHave_87 (v := 0) (by decide) ?_
        refine gz_iadd (pc := 88) dX12_mayHave_88  ?_
        refine gz_istore_n (pc := 89) dX12_mayHave_89 (by decide) rfl (loc2 := [some (.inr (.inr (0, 47))), some (.inl x1), some (.inl (x2 + 0)), some (.inl x3), some (.inl x4), some (.inl x5)]) rfl ?_
        refine gz_iinc (pc := 90) dX12_mayHave_90 (x := x3) (v := x3 + 1) rfl (by rw [show Int32.ofInt 1 = 1 by decide]) (by decide) rfl (loc2 := [some (.inr (.inr (0, 47))), some (.inl x1), some (.inl (x2 + 0)), some (.inl (x3 + 1)), some (.inl x4), some (.inl x5)]) rfl ?_
        refine gz_goto (pc := 93) (tgt := 4) dX12_mayHave_93 (by decide) ?_
        exact gz_weak (loc2 := [some (.inr (.inr (0, 47))), some (.inl x1), some (.inl (x2 + 0)), some (.inl (x3 + 1)), none, none]) (hK4 x1 (x2 + 0) (x3 + 1) h) (by repeat (first | exact trivial | refine ⟨rfl, ?_⟩))
      · replace h := gz_ifn c h
        refine gz_aload_n (pc := 70) dX12_mayHave_70 rfl ?_
        refine gz_iload_n (pc := 71) dX12_mayHave_71 rfl ?_
        refine gz_V (zy := mX12_isThawed) (zc := 0) (pc := 72) [.inl x3] rfl dX12_mayHave_72 lkX12_76 MvX12_isThawed rfl z_0_47 rfl rfl rfl (Or.inl rfl) (fun h => h) (by exact Nat.le_of_ble_eq_true rfl) ?_
        obtain ⟨v6, e5, h⟩ := gz_bd h
        refine gz_useI (c_X12_isThawed e5) ?_
        refine gz_if_ne (pc := 75) (tgt := 87) dX12_mayHave_75 (by decide) (fun c => ?_) (fun c => ?_)
        · replace h := gz_ifp c h
          refine gz_iconst (pc := 87) dX12_mayHave_87 (v := 0) (by decide) ?_
          refine gz_iadd (pc := 88) dX12_mayHave_88  ?_
          refine gz_istore_n (pc := 89) dX12_mayHave_89 (by decide) rfl (loc2 := [some (.inr (.inr (0, 47))), some (.inl x1), some (.inl (x2 + 0)), some (.inl x3), some (.inl x4), some (.inl x5)]) rfl ?_
          refine gz_iinc (pc := 90) dX12_mayHave_90 (x := x3) (v := x3 + 1) rfl (by rw [show Int32.ofInt 1 = 1 by decide]) (by decide) rfl (loc2 := [some (.inr (.inr (0, 47))), some (.inl x1), some (.inl (x2 + 0)), some (.inl (x3 + 1)), some (.inl x4), some (.inl x5)]) rfl ?_
          refine gz_goto (pc := 93) (tgt := 4) dX12_mayHave_93 (by decide) ?_
          exact gz_weak (loc2 := [some (.inr (.inr (0, 47))), some (.inl x1), some (.inl (x2 + 0)), some (.inl (x3 + 1)), none, none]) (hK4 x1 (x2 + 0) (x3 + 1) h) (by repeat (first | exact trivial | refine ⟨rfl, ?_⟩))
        · replace h := gz_ifn (fun q => q c) h
          refine gz_aload_n (pc := 78) dX12_mayHave_78 rfl ?_
          refine gz_iload_n (pc := 79) dX12_mayHave_79 rfl ?_
          refine gz_iconst (pc := 80) dX12_mayHave_80 (v := 4) (by decide) ?_
          refine gz_V (zy := mX12_of) (zc := 0) (pc := 81) [.inl x3, .inl 4] rfl dX12_mayHave_81 lkX12_70 MvX12_of rfl z_0_47 rfl rfl rfl (Or.inl rfl) (fun h => h) (by exact Nat.le_of_ble_eq_true rfl) ?_
          obtain ⟨v8, e7, h⟩ := gz_bd h
          refine gz_useI (c_X12_of e7) ?_
          refine gz_goto (pc := 84) (tgt := 88) dX12_mayHave_84 (by decide) ?_
          refine gz_iadd (pc := 88) dX12_mayHave_88  ?_
          refine gz_istore_n (pc := 89) dX12_mayHave_89 (by decide) rfl (loc2 := [some (.inr (.inr (0, 47))), some (.inl x1), some (.inl (x2 + v8)), some (.inl x3), some (.inl x4), some (.inl x5)]) rfl ?_
          refine gz_iinc (pc := 90) dX12_mayHave_90 (x := x3) (v := x3 + 1) rfl (by rw [show Int32.ofInt 1 = 1 by decide]) (by decide) rfl (loc2 := [some (.inr (.inr (0, 47))), some (.inl x1), some (.inl (x2 + v8)), some (.inl (x3 + 1)), some (.inl x4), some (.inl x5)]) rfl ?_
          refine gz_goto (pc := 93) (tgt := 4) dX12_mayHave_93 (by decide) ?_
          exact gz_weak (loc2 := [some (.inr (.inr (0, 47))), some (.inl x1), some (.inl (x2 + v8)), some (.inl (x3 + 1)), none, none]) (hK4 x1 (x2 + v8) (x3 + 1) h) (by repeat (first | exact trivial | refine ⟨rfl, ?_⟩))
    · replace h := gz_ifn c h
      refine gz_iload (pc := 27) dX12_mayHave_27 rfl ?_
      refine gz_if_ne (pc := 29) (tgt := 51) dX12_mayHave_29 (by decide) (fun c => ?_) (fun c => ?_)
      · replace h := gz_ifp c h
        refine gz_iconst (pc := 51) dX12_mayHave_51 (v := 1) (by decide) ?_
        refine gz_goto (pc := 52) (tgt := 56) dX12_mayHave_52 (by decide) ?_
        refine gz_istore (pc := 56) dX12_mayHave_56 (by decide) rfl (loc2 := [some (.inr (.inr (0, 47))), some (.inl x1), some (.inl x2), some (.inl x3), some (.inl 1), some (.inl x5)]) rfl ?_
        refine gz_iinc (pc := 58) dX12_mayHave_58 (x := x5) (v := x5 + 1) rfl (by rw [show Int32.ofInt 1 = 1 by decide]) (by decide) rfl (loc2 := [some (.inr (.inr (0, 47))), some (.inl x1), some (.inl x2), some (.inl x3), some (.inl 1), some (.inl (x5 + 1))]) rfl ?_
        refine gz_goto (pc := 61) (tgt := 18) dX12_mayHave_61 (by decide) ?_
        exact ih x1 x2 x3 1 (x5 + 1) h
      · replace h := gz_ifn (fun q => q c) h
        refine gz_iload_n (pc := 32) dX12_mayHave_32 rfl ?_
        refine gz_iload (pc := 33) dX12_mayHave_33 rfl ?_
        refine gz_S (zy := mX12_has) (zc := 0) (pc := 35) [.inl x1, .inl x5] rfl dX12_mayHave_35 lkX12_80 MsX12_has rfl (Or.inl rfl) (fun h => h) (by exact Nat.le_of_ble_eq_true rfl) ?_
        obtain ⟨v10, e9, h⟩ := gz_bd h
        refine gz_useI (c_X12_has e9) ?_
        refine gz_if_eq (pc := 38) (tgt := 55) dX12_mayHave_38 (by decide) (fun c => ?_) (fun c => ?_)
        · replace h := gz_ifp c h
          refine gz_iconst (pc := 55) dX12_mayHave_55 (v := 0) (by decide) ?_
          refine gz_istore (pc := 56) dX12_mayHave_56 (by decide) rfl (loc2 := [some (.inr (.inr (0, 47))), some (.inl x1), some (.inl x2), some (.inl x3), some (.inl 0), some (.inl x5)]) rfl ?_
          refine gz_iinc (pc := 58) dX12_mayHave_58 (x := x5) (v := x5 + 1) rfl (by rw [show Int32.ofInt 1 = 1 by decide]) (by decide) rfl (loc2 := [some (.inr (.inr (0, 47))), some (.inl x1), some (.inl x2), some (.inl x3), some (.inl 0), some (.inl (x5 + 1))]) rfl ?_
          refine gz_goto (pc := 61) (tgt := 18) dX12_mayHave_61 (by decide) ?_
          exact ih x1 x2 x3 0 (x5 + 1) h
        · replace h := gz_ifn c h
          refine gz_aload_n (pc := 41) dX12_mayHave_41 rfl ?_
          refine gz_iload_n (pc := 42) dX12_mayHave_42 rfl ?_
          refine gz_iload (pc := 43) dX12_mayHave_43 rfl ?_
          refine gz_V (zy := mX12_isOf) (zc := 0) (pc := 45) [.inl x3, .inl x5] rfl dX12_mayHave_45 lkX12_298 MvX12_isOf rfl z_0_47 rfl rfl rfl (Or.inl rfl) (fun h => h) (by exact Nat.le_of_ble_eq_true rfl) ?_
          obtain ⟨v12, e11, h⟩ := gz_bd h
          refine gz_useI (c_X12_isOf e11) ?_
          refine gz_if_ne (pc := 48) (tgt := 55) dX12_mayHave_48 (by decide) (fun c => ?_) (fun c => ?_)
          · replace h := gz_ifp c h
            refine gz_iconst (pc := 55) dX12_mayHave_55 (v := 0) (by decide) ?_
            refine gz_istore (pc := 56) dX12_mayHave_56 (by decide) rfl (loc2 := [some (.inr (.inr (0, 47))), some (.inl x1), some (.inl x2), some (.inl x3), some (.inl 0), some (.inl x5)]) rfl ?_
            refine gz_iinc (pc := 58) dX12_mayHave_58 (x := x5) (v := x5 + 1) rfl (by rw [show Int32.ofInt 1 = 1 by decide]) (by decide) rfl (loc2 := [some (.inr (.inr (0, 47))), some (.inl x1), some (.inl x2), some (.inl x3), some (.inl 0), some (.inl (x5 + 1))]) rfl ?_
            refine gz_goto (pc := 61) (tgt := 18) dX12_mayHave_61 (by decide) ?_
            exact ih x1 x2 x3 0 (x5 + 1) h
          · replace h := gz_ifn (fun q => q c) h
            refine gz_iconst (pc := 51) dX12_mayHave_51 (v := 1) (by decide) ?_
            refine gz_goto (pc := 52) (tgt := 56) dX12_mayHave_52 (by decide) ?_
            refine gz_istore (pc := 56) dX12_mayHave_56 (by decide) rfl (loc2 := [some (.inr (.inr (0, 47))), some (.inl x1), some (.inl x2), some (.inl x3), some (.inl 1), some (.inl x5)]) rfl ?_
            refine gz_iinc (pc := 58) dX12_mayHave_58 (x := x5) (v := x5 + 1) rfl (by rw [show Int32.ofInt 1 = 1 by decide]) (by decide) rfl (loc2 := [some (.inr (.inr (0, 47))), some (.inl x1), some (.inl x2), some (.inl x3), some (.inl 1), some (.inl (x5 + 1))]) rfl ?_
            refine gz_goto (pc := 61) (tgt := 18) dX12_mayHave_61 (by decide) ?_
            exact ih x1 x2 x3 1 (x5 + 1) h
def f_X12_mayHave_4 (φ : Nat) (I : gzIT) : Nat → Int32 → Int32 → Int32 → Option Int32
  | 0, _, _, _ => none
  | k + 1, x1, x2, x3 => Option.bind (f_X12_grudges I) (fun v2 => if v2 ≤ x3 then (some x2) else (f_X12_mayHave_18 φ I (f_X12_mayHave_4 φ I k) φ x1 x2 x3 0 0))
set_option maxRecDepth 20000 in
theorem p_X12_mayHave_4 {g : gzG} {d φ : Nat} {I : gzIT} {J : gzJT} {r : Int32} : ∀ (k : Nat) (x1 : Int32) (x2 : Int32) (x3 : Int32), f_X12_mayHave_4 φ I k x1 x2 x3 = some r → gP_X12_mayHave_4 g d r x1 x2 x3 I J := by
  intro k; induction k with
  | zero => intro x1 x2 x3 h; cases h
  | succ k ih =>
    intro x1 x2 x3 h
    unfold f_X12_mayHave_4 at h
    unfold gP_X12_mayHave_4
    have z_0_47 : gzOk 0 47 gzN := gzOk_of (by decide)
    refine gz_iload_n (pc := 4) dX12_mayHave_4 rfl ?_
    refine gz_aload_n (pc := 5) dX12_mayHave_5 rfl ?_
    refine gz_V (zy := mX12_grudges) (zc := 0) (pc := 6) [] rfl dX12_mayHave_6 lkX12_73 MvX12_grudges rfl z_0_47 rfl rfl rfl (Or.inl rfl) (fun h => h) (by exact Nat.le_of_ble_eq_true rfl) ?_
    obtain ⟨v2, e1, h⟩ := gz_bd h
    refine gz_useI (c_X12_grudges e1) ?_
    refine gz_ic_ge (pc := 9) (tgt := 96) dX12_mayHave_9 (by decide) (fun c => ?_) (fun c => ?_)
    · replace h := gz_ifp c h
      refine gz_iload_n (pc := 96) dX12_mayHave_96 rfl ?_
      cases h; exact gz_iret (pc := 97) dX12_mayHave_97 rfl ⟨rfl, rfl⟩
    · replace h := gz_ifn c h
      refine gz_iconst (pc := 12) dX12_mayHave_12 (v := 0) (by decide) ?_
      refine gz_istore (pc := 13) dX12_mayHave_13 (by decide) rfl (loc2 := [some (.inr (.inr (0, 47))), some (.inl x1), some (.inl x2), some (.inl x3), some (.inl 0), none]) rfl ?_
      refine gz_iconst (pc := 15) dX12_mayHave_15 (v := 0) (by decide) ?_
      refine gz_istore (pc := 16) dX12_mayHave_16 (by decide) rfl (loc2 := [some (.inr (.inr (0, 47))), some (.inl x1), some (.inl x2), some (.inl x3), some (.inl 0), some (.inl 0)]) rfl ?_
      exact p_X12_mayHave_18 ih φ x1 x2 x3 0 0 h
def f_X12_mayHave (φ : Nat) (I : gzIT) (a1 : Int32) : Option Int32 := f_X12_mayHave_4 φ I φ a1 0 0
set_option maxRecDepth 20000 in
theorem c_X12_mayHave {g : gzG} {d φ : Nat} {a1 : Int32} {I : gzIT} {J : gzJT} {r : Int32} (h : f_X12_mayHave φ I a1 = some r) : gzC g 0 (d + 3) mX12_mayHave [.inr (.inr (0, 47)), .inl a1] (gzN, gzR0, I, J) (gzE (.ok (some (.inl r))) (gzN, gzR0, I, J)) := by
  unfold f_X12_mayHave at h
  refine gzC_of (by decide +kernel) (Nat.le_of_ble_eq_true rfl) (loc := [some (.inr (.inr (0, 47))), some (.inl a1), none, none, none, none]) rfl ?_
  refine gz_iconst (pc := 0) dX12_mayHave_0 (v := 0) (by decide) ?_
  refine gz_istore_n (pc := 1) dX12_mayHave_1 (by decide) rfl (loc2 := [some (.inr (.inr (0, 47))), some (.inl a1), some (.inl 0), none, none, none]) rfl ?_
  refine gz_iconst (pc := 2) dX12_mayHave_2 (v := 0) (by decide) ?_
  refine gz_istore_n (pc := 3) dX12_mayHave_3 (by decide) rfl (loc2 := [some (.inr (.inr (0, 47))), some (.inl a1), some (.inl 0), some (.inl 0), none, none]) rfl ?_
  exact p_X12_mayHave_4 φ a1 0 0 h
/-! X12_missesOf: missesOf -/
def f_X12_missesOf (φ : Nat) (I : gzIT) (a1 : Int32) : Option Int32 := Option.bind (f_X12_wantsOf φ I a1) (fun v2 => Option.bind (f_X12_mayHave φ I a1) (fun v4 => some (if 0 < v2 - v4 then v2 - v4 else 0)))
set_option maxRecDepth 20000 in
theorem c_X12_missesOf {g : gzG} {d φ : Nat} {a1 : Int32} {I : gzIT} {J : gzJT} {r : Int32} (h : f_X12_missesOf φ I a1 = some r) : gzC g 0 (d + 4) mX12_missesOf [.inr (.inr (0, 47)), .inl a1] (gzN, gzR0, I, J) (gzE (.ok (some (.inl r))) (gzN, gzR0, I, J)) := by
  unfold f_X12_missesOf at h
  refine gzC_of (by decide +kernel) (Nat.le_of_ble_eq_true rfl) (loc := [some (.inr (.inr (0, 47))), some (.inl a1)]) rfl ?_
  have z_0_47 : gzOk 0 47 gzN := gzOk_of (by decide)
  refine gz_iconst (pc := 0) dX12_missesOf_0 (v := 0) (by decide) ?_
  refine gz_aload_n (pc := 1) dX12_missesOf_1 rfl ?_
  refine gz_iload_n (pc := 2) dX12_missesOf_2 rfl ?_
  refine gz_V (zy := mX12_wantsOf) (zc := 0) (pc := 3) [.inl a1] rfl dX12_missesOf_3 lkX12_381 MvX12_wantsOf rfl z_0_47 rfl rfl rfl (Or.inl rfl) (fun h => h) (by exact Nat.le_of_ble_eq_true rfl) ?_
  obtain ⟨v2, e1, h⟩ := gz_bd h
  refine gz_useI (c_X12_wantsOf e1) ?_
  refine gz_aload_n (pc := 6) dX12_missesOf_6 rfl ?_
  refine gz_iload_n (pc := 7) dX12_missesOf_7 rfl ?_
  refine gz_V (zy := mX12_mayHave) (zc := 0) (pc := 8) [.inl a1] rfl dX12_missesOf_8 lkX12_384 MvX12_mayHave rfl z_0_47 rfl rfl rfl (Or.inl rfl) (fun h => h) (by exact Nat.le_of_ble_eq_true rfl) ?_
  obtain ⟨v4, e3, h⟩ := gz_bd h
  refine gz_useI (c_X12_mayHave e3) ?_
  refine gz_isub (pc := 11) dX12_missesOf_11  ?_
  refine gx_X12_310 (pc := 12) dX12_missesOf_12 (Nat.le_of_ble_eq_true rfl) rfl ?_
  cases h; exact gz_iret (pc := 15) dX12_missesOf_15 rfl ⟨rfl, rfl⟩
/-! X12_keeps: keeps -/
def gP_X12_keeps_9 (g : gzG) (d : Nat) (r : Int32 × gzIT × gzJT) (x1 : Int32) (x2 : Int32) (I : gzIT) (J : gzJT) : Prop := gzX g 0 (d + 5) mX12_keeps 9 [some (.inr (.inr (0, 47))), some (.inl x1), some (.inl x2)] [] (gzN, gzR0, I, J) 0 (gzE (.ok (some (.inl r.1))) (gzN, gzR0, r.2.1, r.2.2))
def f_X12_keeps_9 (φ : Nat) : Nat → Int32 → Int32 → gzIT → gzJT → Option (Int32 × gzIT × gzJT)
  | 0, _, _, _, _ => none
  | k + 1, x1, x2, I, J => Option.bind (f_X12_allFamilies I) (fun v2 => if v2 < x2 then (Option.bind (f_X12_allFamilies I) (fun v4 => Option.bind (f_X12_wantsOf φ I v4) (fun v6 => some ((v6 - x1), I, J)))) else (Option.bind (f_X12_missesOf φ I x2) (fun v8 => f_X12_keeps_9 φ k (if x1 < v8 then v8 else x1) (x2 + 1) I J)))
set_option maxRecDepth 20000 in
theorem p_X12_keeps_9 {g : gzG} {d φ : Nat} {r : Int32 × gzIT × gzJT} : ∀ (k : Nat) (x1 : Int32) (x2 : Int32) (I : gzIT) (J : gzJT), f_X12_keeps_9 φ k x1 x2 I J = some r → gP_X12_keeps_9 g d r x1 x2 I J := by
  intro k; induction k with
  | zero => intro x1 x2 I J h; cases h
  | succ k ih =>
    intro x1 x2 I J h
    unfold f_X12_keeps_9 at h
    unfold gP_X12_keeps_9
    have z_0_47 : gzOk 0 47 gzN := gzOk_of (by decide)
    refine gz_iload_n (pc := 9) dX12_keeps_9 rfl ?_
    refine gz_aload_n (pc := 10) dX12_keeps_10 rfl ?_
    refine gz_V (zy := mX12_allFamilies) (zc := 0) (pc := 11) [] rfl dX12_keeps_11 lkX12_387 MvX12_allFamilies rfl z_0_47 rfl rfl rfl (Or.inl rfl) (fun h => h) (by exact Nat.le_of_ble_eq_true rfl) ?_
    obtain ⟨v2, e1, h⟩ := gz_bd h
    refine gz_useI (c_X12_allFamilies e1) ?_
    refine gz_ic_gt (pc := 14) (tgt := 33) dX12_keeps_14 (by decide) (fun c => ?_) (fun c => ?_)
    · replace h := gz_ifp c h
      refine gz_aload_n (pc := 33) dX12_keeps_33 rfl ?_
      refine gz_aload_n (pc := 34) dX12_keeps_34 rfl ?_
      refine gz_V (zy := mX12_allFamilies) (zc := 0) (pc := 35) [] rfl dX12_keeps_35 lkX12_387 MvX12_allFamilies rfl z_0_47 rfl rfl rfl (Or.inl rfl) (fun h => h) (by exact Nat.le_of_ble_eq_true rfl) ?_
      obtain ⟨v4, e3, h⟩ := gz_bd h
      refine gz_useI (c_X12_allFamilies e3) ?_
      refine gz_V (zy := mX12_wantsOf) (zc := 0) (pc := 38) [.inl v4] rfl dX12_keeps_38 lkX12_381 MvX12_wantsOf rfl z_0_47 rfl rfl rfl (Or.inl rfl) (fun h => h) (by exact Nat.le_of_ble_eq_true rfl) ?_
      obtain ⟨v6, e5, h⟩ := gz_bd h
      refine gz_useI (c_X12_wantsOf e5) ?_
      refine gz_iload_n (pc := 41) dX12_keeps_41 rfl ?_
      refine gz_isub (pc := 42) dX12_keeps_42  ?_
      cases h; exact gz_iret (pc := 43) dX12_keeps_43 rfl ⟨rfl, rfl⟩
    · replace h := gz_ifn c h
      refine gz_iload_n (pc := 17) dX12_keeps_17 rfl ?_
      refine gz_aload_n (pc := 18) dX12_keeps_18 rfl ?_
      refine gz_iload_n (pc := 19) dX12_keeps_19 rfl ?_
      refine gz_V (zy := mX12_missesOf) (zc := 0) (pc := 20) [.inl x2] rfl dX12_keeps_20 lkX12_390 MvX12_missesOf rfl z_0_47 rfl rfl rfl (Or.inl rfl) (fun h => h) (by exact Nat.le_of_ble_eq_true rfl) ?_
      obtain ⟨v8, e7, h⟩ := gz_bd h
      refine gz_useI (c_X12_missesOf e7) ?_
      refine gx_X12_310 (pc := 23) dX12_keeps_23 (Nat.le_of_ble_eq_true rfl) rfl ?_
      refine gz_istore_n (pc := 26) dX12_keeps_26 (by decide) rfl (loc2 := [some (.inr (.inr (0, 47))), some (.inl (if x1 < v8 then v8 else x1)), some (.inl x2)]) rfl ?_
      refine gz_iinc (pc := 27) dX12_keeps_27 (x := x2) (v := x2 + 1) rfl (by rw [show Int32.ofInt 1 = 1 by decide]) (by decide) rfl (loc2 := [some (.inr (.inr (0, 47))), some (.inl (if x1 < v8 then v8 else x1)), some (.inl (x2 + 1))]) rfl ?_
      refine gz_goto (pc := 30) (tgt := 9) dX12_keeps_30 (by decide) ?_
      exact ih (if x1 < v8 then v8 else x1) (x2 + 1) I J h
def f_X12_keeps (φ : Nat) (I : gzIT) (J : gzJT) : Option (Int32 × gzIT × gzJT) := f_X12_keeps_9 φ φ 0 0 (gz_ui I 0 47 0 0) J
set_option maxRecDepth 20000 in
theorem c_X12_keeps {g : gzG} {d φ : Nat} {I : gzIT} {J : gzJT} {r : Int32 × gzIT × gzJT} (h : f_X12_keeps φ I J = some r) : gzC g 0 (d + 5) mX12_keeps [.inr (.inr (0, 47))] (gzN, gzR0, I, J) (gzE (.ok (some (.inl r.1))) (gzN, gzR0, r.2.1, r.2.2)) := by
  unfold f_X12_keeps at h
  refine gzC_of (by decide +kernel) (Nat.le_of_ble_eq_true rfl) (loc := [some (.inr (.inr (0, 47))), none, none]) rfl ?_
  have z_0_47 : gzOk 0 47 gzN := gzOk_of (by decide)
  refine gz_aload_n (pc := 0) dX12_keeps_0 rfl ?_
  refine gz_iconst (pc := 1) dX12_keeps_1 (v := 0) (by decide) ?_
  refine gp_X12_3 (pc := 2) dX12_keeps_2 z_0_47 rfl ?_
  refine gz_iconst (pc := 5) dX12_keeps_5 (v := 0) (by decide) ?_
  refine gz_istore_n (pc := 6) dX12_keeps_6 (by decide) rfl (loc2 := [some (.inr (.inr (0, 47))), some (.inl 0), none]) rfl ?_
  refine gz_iconst (pc := 7) dX12_keeps_7 (v := 0) (by decide) ?_
  refine gz_istore_n (pc := 8) dX12_keeps_8 (by decide) rfl (loc2 := [some (.inr (.inr (0, 47))), some (.inl 0), some (.inl 0)]) rfl ?_
  exact p_X12_keeps_9 φ 0 0 (gz_ui I 0 47 0 0) J h
/-! X12_misses: misses -/
def f_X12_misses (φ : Nat) (a1 : Int32) (I : gzIT) (J : gzJT) : Option (Int32 × gzIT × gzJT) := Option.bind (f_X12_allFamilies (gz_ui I 0 47 0 0)) (fun v2 => Option.bind (f_X12_missesOf φ (gz_ui I 0 47 0 0) (a1 &&& v2)) (fun v4 => some (v4, gz_ui I 0 47 0 0, J)))
set_option maxRecDepth 20000 in
theorem c_X12_misses {g : gzG} {d φ : Nat} {a1 : Int32} {I : gzIT} {J : gzJT} {r : Int32 × gzIT × gzJT} (h : f_X12_misses φ a1 I J = some r) : gzC g 0 (d + 5) mX12_misses [.inr (.inr (0, 47)), .inl a1] (gzN, gzR0, I, J) (gzE (.ok (some (.inl r.1))) (gzN, gzR0, r.2.1, r.2.2)) := by
  unfold f_X12_misses at h
  refine gzC_of (by decide +kernel) (Nat.le_of_ble_eq_true rfl) (loc := [some (.inr (.inr (0, 47))), some (.inl a1)]) rfl ?_
  have z_0_47 : gzOk 0 47 gzN := gzOk_of (by decide)
  refine gz_aload_n (pc := 0) dX12_misses_0 rfl ?_
  refine gz_iconst (pc := 1) dX12_misses_1 (v := 0) (by decide) ?_
  refine gp_X12_3 (pc := 2) dX12_misses_2 z_0_47 rfl ?_
  refine gz_aload_n (pc := 5) dX12_misses_5 rfl ?_
  refine gz_iload_n (pc := 6) dX12_misses_6 rfl ?_
  refine gz_aload_n (pc := 7) dX12_misses_7 rfl ?_
  refine gz_V (zy := mX12_allFamilies) (zc := 0) (pc := 8) [] rfl dX12_misses_8 lkX12_387 MvX12_allFamilies rfl z_0_47 rfl rfl rfl (Or.inl rfl) (fun h => h) (by exact Nat.le_of_ble_eq_true rfl) ?_
  obtain ⟨v2, e1, h⟩ := gz_bd h
  refine gz_useI (c_X12_allFamilies e1) ?_
  refine gz_iand (pc := 11) dX12_misses_11  ?_
  refine gz_V (zy := mX12_missesOf) (zc := 0) (pc := 12) [.inl (a1 &&& v2)] rfl dX12_misses_12 lkX12_390 MvX12_missesOf rfl z_0_47 rfl rfl rfl (Or.inl rfl) (fun h => h) (by exact Nat.le_of_ble_eq_true rfl) ?_
  obtain ⟨v4, e3, h⟩ := gz_bd h
  refine gz_useI (c_X12_missesOf e3) ?_
  cases h; exact gz_iret (pc := 15) dX12_misses_15 rfl ⟨rfl, rfl⟩
/-! X12_tight: tight -/
def gP_X12_tight_9 (g : gzG) (d : Nat) (r : Int32 × gzIT × gzJT) (x1 : Int32) (x2 : Int32) (I : gzIT) (J : gzJT) : Prop := gzX g 0 (d + 5) mX12_tight 9 [some (.inr (.inr (0, 47))), some (.inl x1), some (.inl x2)] [] (gzN, gzR0, I, J) 0 (gzE (.ok (some (.inl r.1))) (gzN, gzR0, r.2.1, r.2.2))
def f_X12_tight_9 (φ : Nat) : Nat → Int32 → Int32 → gzIT → gzJT → Option (Int32 × gzIT × gzJT)
  | 0, _, _, _, _ => none
  | k + 1, x1, x2, I, J => Option.bind (f_X12_allFamilies I) (fun v2 => if v2 < x2 then (some (x1, I, J)) else (Option.bind (f_X12_missesOf φ I x2) (fun v4 => if v4 ≤ 0 then (f_X12_tight_9 φ k x1 (x2 + 1) I J) else (Option.bind (f_J6_bitCount_0f7a4 x2) (fun v6 => Option.bind (f_J6_bitCount_0f7a4 x1) (fun v8 => if v6 ≤ v8 then (f_X12_tight_9 φ k x1 (x2 + 1) I J) else (f_X12_tight_9 φ k x2 (x2 + 1) I J)))))))
set_option maxRecDepth 20000 in
theorem p_X12_tight_9 {g : gzG} {d φ : Nat} {r : Int32 × gzIT × gzJT} : ∀ (k : Nat) (x1 : Int32) (x2 : Int32) (I : gzIT) (J : gzJT), f_X12_tight_9 φ k x1 x2 I J = some r → gP_X12_tight_9 g d r x1 x2 I J := by
  intro k; induction k with
  | zero => intro x1 x2 I J h; cases h
  | succ k ih =>
    intro x1 x2 I J h
    unfold f_X12_tight_9 at h
    unfold gP_X12_tight_9
    have z_0_47 : gzOk 0 47 gzN := gzOk_of (by decide)
    refine gz_iload_n (pc := 9) dX12_tight_9 rfl ?_
    refine gz_aload_n (pc := 10) dX12_tight_10 rfl ?_
    refine gz_V (zy := mX12_allFamilies) (zc := 0) (pc := 11) [] rfl dX12_tight_11 lkX12_387 MvX12_allFamilies rfl z_0_47 rfl rfl rfl (Or.inl rfl) (fun h => h) (by exact Nat.le_of_ble_eq_true rfl) ?_
    obtain ⟨v2, e1, h⟩ := gz_bd h
    refine gz_useI (c_X12_allFamilies e1) ?_
    refine gz_ic_gt (pc := 14) (tgt := 44) dX12_tight_14 (by decide) (fun c => ?_) (fun c => ?_)
    · replace h := gz_ifp c h
      refine gz_iload_n (pc := 44) dX12_tight_44 rfl ?_
      cases h; exact gz_iret (pc := 45) dX12_tight_45 rfl ⟨rfl, rfl⟩
    · replace h := gz_ifn c h
      refine gz_aload_n (pc := 17) dX12_tight_17 rfl ?_
      refine gz_iload_n (pc := 18) dX12_tight_18 rfl ?_
      refine gz_V (zy := mX12_missesOf) (zc := 0) (pc := 19) [.inl x2] rfl dX12_tight_19 lkX12_390 MvX12_missesOf rfl z_0_47 rfl rfl rfl (Or.inl rfl) (fun h => h) (by exact Nat.le_of_ble_eq_true rfl) ?_
      obtain ⟨v4, e3, h⟩ := gz_bd h
      refine gz_useI (c_X12_missesOf e3) ?_
      refine gz_if_le (pc := 22) (tgt := 38) dX12_tight_22 (by decide) (fun c => ?_) (fun c => ?_)
      · replace h := gz_ifp c h
        refine gz_iinc (pc := 38) dX12_tight_38 (x := x2) (v := x2 + 1) rfl (by rw [show Int32.ofInt 1 = 1 by decide]) (by decide) rfl (loc2 := [some (.inr (.inr (0, 47))), some (.inl x1), some (.inl (x2 + 1))]) rfl ?_
        refine gz_goto (pc := 41) (tgt := 9) dX12_tight_41 (by decide) ?_
        exact ih x1 (x2 + 1) I J h
      · replace h := gz_ifn c h
        refine gz_iload_n (pc := 25) dX12_tight_25 rfl ?_
        refine gz_S (zy := mJ6_bitCount_0f7a4) (zc := 0) (pc := 26) [.inl x2] rfl dX12_tight_26 lkX12_343 MsJ6_bitCount_0f7a4 rfl (Or.inl rfl) (fun h => h) (by exact Nat.le_of_ble_eq_true rfl) ?_
        obtain ⟨v6, e5, h⟩ := gz_bd h
        refine gz_useI (c_J6_bitCount_0f7a4 e5) ?_
        refine gz_iload_n (pc := 29) dX12_tight_29 rfl ?_
        refine gz_S (zy := mJ6_bitCount_0f7a4) (zc := 0) (pc := 30) [.inl x1] rfl dX12_tight_30 lkX12_343 MsJ6_bitCount_0f7a4 rfl (Or.inl rfl) (fun h => h) (by exact Nat.le_of_ble_eq_true rfl) ?_
        obtain ⟨v8, e7, h⟩ := gz_bd h
        refine gz_useI (c_J6_bitCount_0f7a4 e7) ?_
        refine gz_ic_le (pc := 33) (tgt := 38) dX12_tight_33 (by decide) (fun c => ?_) (fun c => ?_)
        · replace h := gz_ifp c h
          refine gz_iinc (pc := 38) dX12_tight_38 (x := x2) (v := x2 + 1) rfl (by rw [show Int32.ofInt 1 = 1 by decide]) (by decide) rfl (loc2 := [some (.inr (.inr (0, 47))), some (.inl x1), some (.inl (x2 + 1))]) rfl ?_
          refine gz_goto (pc := 41) (tgt := 9) dX12_tight_41 (by decide) ?_
          exact ih x1 (x2 + 1) I J h
        · replace h := gz_ifn c h
          refine gz_iload_n (pc := 36) dX12_tight_36 rfl ?_
          refine gz_istore_n (pc := 37) dX12_tight_37 (by decide) rfl (loc2 := [some (.inr (.inr (0, 47))), some (.inl x2), some (.inl x2)]) rfl ?_
          refine gz_iinc (pc := 38) dX12_tight_38 (x := x2) (v := x2 + 1) rfl (by rw [show Int32.ofInt 1 = 1 by decide]) (by decide) rfl (loc2 := [some (.inr (.inr (0, 47))), some (.inl x2), some (.inl (x2 + 1))]) rfl ?_
          refine gz_goto (pc := 41) (tgt := 9) dX12_tight_41 (by decide) ?_
          exact ih x2 (x2 + 1) I J h
def f_X12_tight (φ : Nat) (I : gzIT) (J : gzJT) : Option (Int32 × gzIT × gzJT) := f_X12_tight_9 φ φ 0 1 (gz_ui I 0 47 0 0) J
set_option maxRecDepth 20000 in
theorem c_X12_tight {g : gzG} {d φ : Nat} {I : gzIT} {J : gzJT} {r : Int32 × gzIT × gzJT} (h : f_X12_tight φ I J = some r) : gzC g 0 (d + 5) mX12_tight [.inr (.inr (0, 47))] (gzN, gzR0, I, J) (gzE (.ok (some (.inl r.1))) (gzN, gzR0, r.2.1, r.2.2)) := by
  unfold f_X12_tight at h
  refine gzC_of (by decide +kernel) (Nat.le_of_ble_eq_true rfl) (loc := [some (.inr (.inr (0, 47))), none, none]) rfl ?_
  have z_0_47 : gzOk 0 47 gzN := gzOk_of (by decide)
  refine gz_aload_n (pc := 0) dX12_tight_0 rfl ?_
  refine gz_iconst (pc := 1) dX12_tight_1 (v := 0) (by decide) ?_
  refine gp_X12_3 (pc := 2) dX12_tight_2 z_0_47 rfl ?_
  refine gz_iconst (pc := 5) dX12_tight_5 (v := 0) (by decide) ?_
  refine gz_istore_n (pc := 6) dX12_tight_6 (by decide) rfl (loc2 := [some (.inr (.inr (0, 47))), some (.inl 0), none]) rfl ?_
  refine gz_iconst (pc := 7) dX12_tight_7 (v := 1) (by decide) ?_
  refine gz_istore_n (pc := 8) dX12_tight_8 (by decide) rfl (loc2 := [some (.inr (.inr (0, 47))), some (.inl 0), some (.inl 1)]) rfl ?_
  exact p_X12_tight_9 φ 0 1 (gz_ui I 0 47 0 0) J h
/-! X12_quarrelsOf: quarrelsOf -/
def gP_X12_quarrelsOf_5 (g : gzG) (d : Nat) (r : Int32) (x1 : Int32) (x2 : Int32) (x3 : Int32) (x4 : Int32) (I : gzIT) (J : gzJT) : Prop := gzX g 0 (d + 3) mX12_quarrelsOf 5 [some (.inr (.inr (0, 47))), some (.inl x1), some (.inl x2), some (.inl x3), some (.inl x4)] [] (gzN, gzR0, I, J) 0 (gzE (.ok (some (.inl r))) (gzN, gzR0, I, J))
def f_X12_quarrelsOf_5 (φ : Nat) (I : gzIT) : Nat → Int32 → Int32 → Int32 → Int32 → Option Int32
  | 0, _, _, _, _ => none
  | k + 1, x1, x2, x3, x4 => Option.bind (f_X12_grudges I) (fun v2 => if v2 ≤ x4 then (some (x3 &&& (((1 : Int32) <<< (x1 &&& 31)) ^^^ (-1)))) else (Option.bind (f_X12_has x2 x4) (fun v4 => if v4 = 0 then (f_X12_quarrelsOf_5 φ I k x1 x2 x3 (x4 + 1)) else (Option.bind (f_X12_isOf I x4 x1) (fun v6 => if ¬ v6 = 0 then (Option.bind (f_X12_of I x4 0) (fun v8 => Option.bind (f_X12_of I x4 1) (fun v10 => f_X12_quarrelsOf_5 φ I k x1 x2 (x3 ||| (((1 : Int32) <<< (v8 &&& 31)) ||| ((1 : Int32) <<< (v10 &&& 31)))) (x4 + 1)))) else (f_X12_quarrelsOf_5 φ I k x1 x2 x3 (x4 + 1)))))))
set_option maxRecDepth 20000 in
theorem p_X12_quarrelsOf_5 {g : gzG} {d φ : Nat} {I : gzIT} {J : gzJT} {r : Int32} : ∀ (k : Nat) (x1 : Int32) (x2 : Int32) (x3 : Int32) (x4 : Int32), f_X12_quarrelsOf_5 φ I k x1 x2 x3 x4 = some r → gP_X12_quarrelsOf_5 g d r x1 x2 x3 x4 I J := by
  intro k; induction k with
  | zero => intro x1 x2 x3 x4 h; cases h
  | succ k ih =>
    intro x1 x2 x3 x4 h
    unfold f_X12_quarrelsOf_5 at h
    unfold gP_X12_quarrelsOf_5
    have z_0_47 : gzOk 0 47 gzN := gzOk_of (by decide)
    refine gz_iload (pc := 5) dX12_quarrelsOf_5 rfl ?_
    refine gz_aload_n (pc := 7) dX12_quarrelsOf_7 rfl ?_
    refine gz_V (zy := mX12_grudges) (zc := 0) (pc := 8) [] rfl dX12_quarrelsOf_8 lkX12_73 MvX12_grudges rfl z_0_47 rfl rfl rfl (Or.inl rfl) (fun h => h) (by exact Nat.le_of_ble_eq_true rfl) ?_
    obtain ⟨v2, e1, h⟩ := gz_bd h
    refine gz_useI (c_X12_grudges e1) ?_
    refine gz_ic_ge (pc := 11) (tgt := 64) dX12_quarrelsOf_11 (by decide) (fun c => ?_) (fun c => ?_)
    · replace h := gz_ifp c h
      refine gz_iload_n (pc := 64) dX12_quarrelsOf_64 rfl ?_
      refine gz_iconst (pc := 65) dX12_quarrelsOf_65 (v := 1) (by decide) ?_
      refine gz_iload_n (pc := 66) dX12_quarrelsOf_66 rfl ?_
      refine gz_ishl (pc := 67) dX12_quarrelsOf_67  ?_
      refine gz_iconst (pc := 68) dX12_quarrelsOf_68 (v := (-1)) (by decide) ?_
      refine gz_ixor (pc := 69) dX12_quarrelsOf_69  ?_
      refine gz_iand (pc := 70) dX12_quarrelsOf_70  ?_
      cases h; exact gz_iret (pc := 71) dX12_quarrelsOf_71 rfl ⟨rfl, rfl⟩
    · replace h := gz_ifn c h
      refine gz_iload_n (pc := 14) dX12_quarrelsOf_14 rfl ?_
      refine gz_iload (pc := 15) dX12_quarrelsOf_15 rfl ?_
      refine gz_S (zy := mX12_has) (zc := 0) (pc := 17) [.inl x2, .inl x4] rfl dX12_quarrelsOf_17 lkX12_80 MsX12_has rfl (Or.inl rfl) (fun h => h) (by exact Nat.le_of_ble_eq_true rfl) ?_
      obtain ⟨v4, e3, h⟩ := gz_bd h
      refine gz_useI (c_X12_has e3) ?_
      refine gz_if_eq (pc := 20) (tgt := 58) dX12_quarrelsOf_20 (by decide) (fun c => ?_) (fun c => ?_)
      · replace h := gz_ifp c h
        refine gz_iinc (pc := 58) dX12_quarrelsOf_58 (x := x4) (v := x4 + 1) rfl (by rw [show Int32.ofInt 1 = 1 by decide]) (by decide) rfl (loc2 := [some (.inr (.inr (0, 47))), some (.inl x1), some (.inl x2), some (.inl x3), some (.inl (x4 + 1))]) rfl ?_
        refine gz_goto (pc := 61) (tgt := 5) dX12_quarrelsOf_61 (by decide) ?_
        exact ih x1 x2 x3 (x4 + 1) h
      · replace h := gz_ifn c h
        refine gz_aload_n (pc := 23) dX12_quarrelsOf_23 rfl ?_
        refine gz_iload (pc := 24) dX12_quarrelsOf_24 rfl ?_
        refine gz_iload_n (pc := 26) dX12_quarrelsOf_26 rfl ?_
        refine gz_V (zy := mX12_isOf) (zc := 0) (pc := 27) [.inl x4, .inl x1] rfl dX12_quarrelsOf_27 lkX12_298 MvX12_isOf rfl z_0_47 rfl rfl rfl (Or.inl rfl) (fun h => h) (by exact Nat.le_of_ble_eq_true rfl) ?_
        obtain ⟨v6, e5, h⟩ := gz_bd h
        refine gz_useI (c_X12_isOf e5) ?_
        refine gz_if_ne (pc := 30) (tgt := 36) dX12_quarrelsOf_30 (by decide) (fun c => ?_) (fun c => ?_)
        · replace h := gz_ifp c h
          refine gz_iload_n (pc := 36) dX12_quarrelsOf_36 rfl ?_
          refine gz_iconst (pc := 37) dX12_quarrelsOf_37 (v := 1) (by decide) ?_
          refine gz_aload_n (pc := 38) dX12_quarrelsOf_38 rfl ?_
          refine gz_iload (pc := 39) dX12_quarrelsOf_39 rfl ?_
          refine gz_iconst (pc := 41) dX12_quarrelsOf_41 (v := 0) (by decide) ?_
          refine gz_V (zy := mX12_of) (zc := 0) (pc := 42) [.inl x4, .inl 0] rfl dX12_quarrelsOf_42 lkX12_70 MvX12_of rfl z_0_47 rfl rfl rfl (Or.inl rfl) (fun h => h) (by exact Nat.le_of_ble_eq_true rfl) ?_
          obtain ⟨v8, e7, h⟩ := gz_bd h
          refine gz_useI (c_X12_of e7) ?_
          refine gz_ishl (pc := 45) dX12_quarrelsOf_45  ?_
          refine gz_iconst (pc := 46) dX12_quarrelsOf_46 (v := 1) (by decide) ?_
          refine gz_aload_n (pc := 47) dX12_quarrelsOf_47 rfl ?_
          refine gz_iload (pc := 48) dX12_quarrelsOf_48 rfl ?_
          refine gz_iconst (pc := 50) dX12_quarrelsOf_50 (v := 1) (by decide) ?_
          refine gz_V (zy := mX12_of) (zc := 0) (pc := 51) [.inl x4, .inl 1] rfl dX12_quarrelsOf_51 lkX12_70 MvX12_of rfl z_0_47 rfl rfl rfl (Or.inl rfl) (fun h => h) (by exact Nat.le_of_ble_eq_true rfl) ?_
          obtain ⟨v10, e9, h⟩ := gz_bd h
          refine gz_useI (c_X12_of e9) ?_
          refine gz_ishl (pc := 54) dX12_quarrelsOf_54  ?_
          refine gz_ior (pc := 55) dX12_quarrelsOf_55  ?_
          refine gz_ior (pc := 56) dX12_quarrelsOf_56  ?_
          refine gz_istore_n (pc := 57) dX12_quarrelsOf_57 (by decide) rfl (loc2 := [some (.inr (.inr (0, 47))), some (.inl x1), some (.inl x2), some (.inl (x3 ||| (((1 : Int32) <<< (v8 &&& 31)) ||| ((1 : Int32) <<< (v10 &&& 31))))), some (.inl x4)]) rfl ?_
          refine gz_iinc (pc := 58) dX12_quarrelsOf_58 (x := x4) (v := x4 + 1) rfl (by rw [show Int32.ofInt 1 = 1 by decide]) (by decide) rfl (loc2 := [some (.inr (.inr (0, 47))), some (.inl x1), some (.inl x2), some (.inl (x3 ||| (((1 : Int32) <<< (v8 &&& 31)) ||| ((1 : Int32) <<< (v10 &&& 31))))), some (.inl (x4 + 1))]) rfl ?_
          refine gz_goto (pc := 61) (tgt := 5) dX12_quarrelsOf_61 (by decide) ?_
          exact ih x1 x2 (x3 ||| (((1 : Int32) <<< (v8 &&& 31)) ||| ((1 : Int32) <<< (v10 &&& 31)))) (x4 + 1) h
        · replace h := gz_ifn (fun q => q c) h
          refine gz_goto (pc := 33) (tgt := 58) dX12_quarrelsOf_33 (by decide) ?_
          refine gz_iinc (pc := 58) dX12_quarrelsOf_58 (x := x4) (v := x4 + 1) rfl (by rw [show Int32.ofInt 1 = 1 by decide]) (by decide) rfl (loc2 := [some (.inr (.inr (0, 47))), some (.inl x1), some (.inl x2), some (.inl x3), some (.inl (x4 + 1))]) rfl ?_
          refine gz_goto (pc := 61) (tgt := 5) dX12_quarrelsOf_61 (by decide) ?_
          exact ih x1 x2 x3 (x4 + 1) h
def f_X12_quarrelsOf (φ : Nat) (I : gzIT) (a1 : Int32) (a2 : Int32) : Option Int32 := f_X12_quarrelsOf_5 φ I φ a1 a2 0 0
set_option maxRecDepth 20000 in
theorem c_X12_quarrelsOf {g : gzG} {d φ : Nat} {a1 : Int32} {a2 : Int32} {I : gzIT} {J : gzJT} {r : Int32} (h : f_X12_quarrelsOf φ I a1 a2 = some r) : gzC g 0 (d + 3) mX12_quarrelsOf [.inr (.inr (0, 47)), .inl a1, .inl a2] (gzN, gzR0, I, J) (gzE (.ok (some (.inl r))) (gzN, gzR0, I, J)) := by
  unfold f_X12_quarrelsOf at h
  refine gzC_of (by decide +kernel) (Nat.le_of_ble_eq_true rfl) (loc := [some (.inr (.inr (0, 47))), some (.inl a1), some (.inl a2), none, none]) rfl ?_
  refine gz_iconst (pc := 0) dX12_quarrelsOf_0 (v := 0) (by decide) ?_
  refine gz_istore_n (pc := 1) dX12_quarrelsOf_1 (by decide) rfl (loc2 := [some (.inr (.inr (0, 47))), some (.inl a1), some (.inl a2), some (.inl 0), none]) rfl ?_
  refine gz_iconst (pc := 2) dX12_quarrelsOf_2 (v := 0) (by decide) ?_
  refine gz_istore (pc := 3) dX12_quarrelsOf_3 (by decide) rfl (loc2 := [some (.inr (.inr (0, 47))), some (.inl a1), some (.inl a2), some (.inl 0), some (.inl 0)]) rfl ?_
  exact p_X12_quarrelsOf_5 φ a1 a2 0 0 h
/-! X12_friendsBy: friendsBy -/
def gP_X12_friendsBy_4 (g : gzG) (d : Nat) (r : Int32) (x1 : Int32) (x2 : Int32) (x3 : Int32) (I : gzIT) (J : gzJT) : Prop := gzX g 0 (d + 4) mX12_friendsBy 4 [some (.inr (.inr (0, 47))), some (.inl x1), some (.inl x2), some (.inl x3)] [] (gzN, gzR0, I, J) 0 (gzE (.ok (some (.inl r))) (gzN, gzR0, I, J))
def f_X12_friendsBy_4 (φ : Nat) (I : gzIT) : Nat → Int32 → Int32 → Int32 → Option Int32
  | 0, _, _, _ => none
  | k + 1, x1, x2, x3 => Option.bind (f_X12_families I) (fun v2 => if v2 ≤ x3 then (some (x2 / 2)) else (Option.bind (f_X12_families I) (fun v5 => Option.bind (f_X12_quarrelsOf φ I x3 x1) (fun v7 => Option.bind (f_J6_bitCount_0f7a4 v7) (fun v9 => f_X12_friendsBy_4 φ I k x1 (x2 + ((v5 - 1) - v9)) (x3 + 1))))))
set_option maxRecDepth 20000 in
theorem p_X12_friendsBy_4 {g : gzG} {d φ : Nat} {I : gzIT} {J : gzJT} {r : Int32} : ∀ (k : Nat) (x1 : Int32) (x2 : Int32) (x3 : Int32), f_X12_friendsBy_4 φ I k x1 x2 x3 = some r → gP_X12_friendsBy_4 g d r x1 x2 x3 I J := by
  intro k; induction k with
  | zero => intro x1 x2 x3 h; cases h
  | succ k ih =>
    intro x1 x2 x3 h
    unfold f_X12_friendsBy_4 at h
    unfold gP_X12_friendsBy_4
    have z_0_47 : gzOk 0 47 gzN := gzOk_of (by decide)
    refine gz_iload_n (pc := 4) dX12_friendsBy_4 rfl ?_
    refine gz_aload_n (pc := 5) dX12_friendsBy_5 rfl ?_
    refine gz_V (zy := mX12_families) (zc := 0) (pc := 6) [] rfl dX12_friendsBy_6 lkX12_59 MvX12_families rfl z_0_47 rfl rfl rfl (Or.inl rfl) (fun h => h) (by exact Nat.le_of_ble_eq_true rfl) ?_
    obtain ⟨v2, e1, h⟩ := gz_bd h
    refine gz_useI (c_X12_families e1) ?_
    refine gz_ic_ge (pc := 9) (tgt := 37) dX12_friendsBy_9 (by decide) (fun c => ?_) (fun c => ?_)
    · replace h := gz_ifp c h
      refine gz_iload_n (pc := 37) dX12_friendsBy_37 rfl ?_
      refine gz_iconst (pc := 38) dX12_friendsBy_38 (v := 2) (by decide) ?_
      refine gz_idiv (pc := 39) dX12_friendsBy_39 (by decide) ?_
      cases h; exact gz_iret (pc := 40) dX12_friendsBy_40 rfl ⟨rfl, rfl⟩
    · replace h := gz_ifn c h
      refine gz_iload_n (pc := 12) dX12_friendsBy_12 rfl ?_
      refine gz_aload_n (pc := 13) dX12_friendsBy_13 rfl ?_
      refine gz_V (zy := mX12_families) (zc := 0) (pc := 14) [] rfl dX12_friendsBy_14 lkX12_59 MvX12_families rfl z_0_47 rfl rfl rfl (Or.inl rfl) (fun h => h) (by exact Nat.le_of_ble_eq_true rfl) ?_
      obtain ⟨v5, e4, h⟩ := gz_bd h
      refine gz_useI (c_X12_families e4) ?_
      refine gz_iconst (pc := 17) dX12_friendsBy_17 (v := 1) (by decide) ?_
      refine gz_isub (pc := 18) dX12_friendsBy_18  ?_
      refine gz_aload_n (pc := 19) dX12_friendsBy_19 rfl ?_
      refine gz_iload_n (pc := 20) dX12_friendsBy_20 rfl ?_
      refine gz_iload_n (pc := 21) dX12_friendsBy_21 rfl ?_
      refine gz_V (zy := mX12_quarrelsOf) (zc := 0) (pc := 22) [.inl x3, .inl x1] rfl dX12_friendsBy_22 lkX12_393 MvX12_quarrelsOf rfl z_0_47 rfl rfl rfl (Or.inl rfl) (fun h => h) (by exact Nat.le_of_ble_eq_true rfl) ?_
      obtain ⟨v7, e6, h⟩ := gz_bd h
      refine gz_useI (c_X12_quarrelsOf e6) ?_
      refine gz_S (zy := mJ6_bitCount_0f7a4) (zc := 0) (pc := 25) [.inl v7] rfl dX12_friendsBy_25 lkX12_343 MsJ6_bitCount_0f7a4 rfl (Or.inl rfl) (fun h => h) (by exact Nat.le_of_ble_eq_true rfl) ?_
      obtain ⟨v9, e8, h⟩ := gz_bd h
      refine gz_useI (c_J6_bitCount_0f7a4 e8) ?_
      refine gz_isub (pc := 28) dX12_friendsBy_28  ?_
      refine gz_iadd (pc := 29) dX12_friendsBy_29  ?_
      refine gz_istore_n (pc := 30) dX12_friendsBy_30 (by decide) rfl (loc2 := [some (.inr (.inr (0, 47))), some (.inl x1), some (.inl (x2 + ((v5 - 1) - v9))), some (.inl x3)]) rfl ?_
      refine gz_iinc (pc := 31) dX12_friendsBy_31 (x := x3) (v := x3 + 1) rfl (by rw [show Int32.ofInt 1 = 1 by decide]) (by decide) rfl (loc2 := [some (.inr (.inr (0, 47))), some (.inl x1), some (.inl (x2 + ((v5 - 1) - v9))), some (.inl (x3 + 1))]) rfl ?_
      refine gz_goto (pc := 34) (tgt := 4) dX12_friendsBy_34 (by decide) ?_
      exact ih x1 (x2 + ((v5 - 1) - v9)) (x3 + 1) h
def f_X12_friendsBy (φ : Nat) (I : gzIT) (a1 : Int32) : Option Int32 := f_X12_friendsBy_4 φ I φ a1 0 0
set_option maxRecDepth 20000 in
theorem c_X12_friendsBy {g : gzG} {d φ : Nat} {a1 : Int32} {I : gzIT} {J : gzJT} {r : Int32} (h : f_X12_friendsBy φ I a1 = some r) : gzC g 0 (d + 4) mX12_friendsBy [.inr (.inr (0, 47)), .inl a1] (gzN, gzR0, I, J) (gzE (.ok (some (.inl r))) (gzN, gzR0, I, J)) := by
  unfold f_X12_friendsBy at h
  refine gzC_of (by decide +kernel) (Nat.le_of_ble_eq_true rfl) (loc := [some (.inr (.inr (0, 47))), some (.inl a1), none, none]) rfl ?_
  refine gz_iconst (pc := 0) dX12_friendsBy_0 (v := 0) (by decide) ?_
  refine gz_istore_n (pc := 1) dX12_friendsBy_1 (by decide) rfl (loc2 := [some (.inr (.inr (0, 47))), some (.inl a1), some (.inl 0), none]) rfl ?_
  refine gz_iconst (pc := 2) dX12_friendsBy_2 (v := 0) (by decide) ?_
  refine gz_istore_n (pc := 3) dX12_friendsBy_3 (by decide) rfl (loc2 := [some (.inr (.inr (0, 47))), some (.inl a1), some (.inl 0), some (.inl 0)]) rfl ?_
  exact p_X12_friendsBy_4 φ a1 0 0 h
/-! X12_thaw: thaw -/
def gP_X12_thaw_44 (g : gzG) (d : Nat) (r : Int32 × gzIT × gzJT) (x1 : Int32) (x2 : Int32) (x3 : Int32) (x4 : Int32) (x5 : Int32) (I : gzIT) (J : gzJT) : Prop := gzX g 0 (d + 5) mX12_thaw 44 [some (.inr (.inr (0, 47))), some (.inl x1), some (.inl x2), some (.inl x3), some (.inl x4), some (.inl x5), none] [] (gzN, gzR0, I, J) 0 (gzE (.ok (some (.inl r.1))) (gzN, gzR0, r.2.1, r.2.2))
def f_X12_thaw_44 (φ : Nat) : Nat → Int32 → Int32 → Int32 → Int32 → Int32 → gzIT → gzJT → Option (Int32 × gzIT × gzJT)
  | 0, _, _, _, _, _, _, _ => none
  | k + 1, x1, x2, x3, x4, x5, I, J => if x2 < x5 then (some (x3, I, J)) else (if ¬ x5 &&& (x2 ^^^ (-1)) = 0 then (f_X12_thaw_44 φ k x1 x2 x3 x4 (x5 + 1) I J) else (Option.bind (f_X12_iceOf φ I (x2 &&& (x5 ^^^ (-1)))) (fun v9 => if x1 ≤ v9 then (Option.bind (f_X12_friendsBy φ I (x2 &&& (x5 ^^^ (-1)))) (fun v11 => if v11 < x4 then (f_X12_thaw_44 φ k x1 x2 x3 x4 (x5 + 1) I J) else (if ¬ v11 = x4 then (f_X12_thaw_44 φ k x1 x2 x5 v11 (x5 + 1) I J) else (Option.bind (f_J6_bitCount_0f7a4 x5) (fun v13 => Option.bind (f_J6_bitCount_0f7a4 x3) (fun v15 => if v13 < v15 then (f_X12_thaw_44 φ k x1 x2 x5 v11 (x5 + 1) I J) else (f_X12_thaw_44 φ k x1 x2 x3 x4 (x5 + 1) I J))))))) else (f_X12_thaw_44 φ k x1 x2 x3 x4 (x5 + 1) I J))))
set_option maxRecDepth 20000 in
theorem p_X12_thaw_44 {g : gzG} {d φ : Nat} {r : Int32 × gzIT × gzJT} : ∀ (k : Nat) (x1 : Int32) (x2 : Int32) (x3 : Int32) (x4 : Int32) (x5 : Int32) (I : gzIT) (J : gzJT), f_X12_thaw_44 φ k x1 x2 x3 x4 x5 I J = some r → gP_X12_thaw_44 g d r x1 x2 x3 x4 x5 I J := by
  intro k; induction k with
  | zero => intro x1 x2 x3 x4 x5 I J h; cases h
  | succ k ih =>
    intro x1 x2 x3 x4 x5 I J h
    unfold f_X12_thaw_44 at h
    unfold gP_X12_thaw_44
    have z_0_47 : gzOk 0 47 gzN := gzOk_of (by decide)
    refine gz_iload (pc := 44) dX12_thaw_44 rfl ?_
    refine gz_iload_n (pc := 46) dX12_thaw_46 rfl ?_
    refine gz_ic_gt (pc := 47) (tgt := 130) dX12_thaw_47 (by decide) (fun c => ?_) (fun c => ?_)
    · replace h := gz_ifp c h
      refine gz_iload_n (pc := 130) dX12_thaw_130 rfl ?_
      cases h; exact gz_iret (pc := 131) dX12_thaw_131 rfl ⟨rfl, rfl⟩
    · replace h := gz_ifn c h
      refine gz_iload (pc := 50) dX12_thaw_50 rfl ?_
      refine gz_iload_n (pc := 52) dX12_thaw_52 rfl ?_
      refine gz_iconst (pc := 53) dX12_thaw_53 (v := (-1)) (by decide) ?_
      refine gz_ixor (pc := 54) dX12_thaw_54  ?_
      refine gz_iand (pc := 55) dX12_thaw_55  ?_
      refine gz_if_ne (pc := 56) (tgt := 124) dX12_thaw_56 (by decide) (fun c => ?_) (fun c => ?_)
      · replace h := gz_ifp c h
        refine gz_iinc (pc := 124) dX12_thaw_124 (x := x5) (v := x5 + 1) rfl (by rw [show Int32.ofInt 1 = 1 by decide]) (by decide) rfl (loc2 := [some (.inr (.inr (0, 47))), some (.inl x1), some (.inl x2), some (.inl x3), some (.inl x4), some (.inl (x5 + 1)), none]) rfl ?_
        refine gz_goto (pc := 127) (tgt := 44) dX12_thaw_127 (by decide) ?_
        exact ih x1 x2 x3 x4 (x5 + 1) I J h
      · replace h := gz_ifn (fun q => q c) h
        refine gz_aload_n (pc := 59) dX12_thaw_59 rfl ?_
        refine gz_iload_n (pc := 60) dX12_thaw_60 rfl ?_
        refine gz_iload (pc := 61) dX12_thaw_61 rfl ?_
        refine gz_iconst (pc := 63) dX12_thaw_63 (v := (-1)) (by decide) ?_
        refine gz_ixor (pc := 64) dX12_thaw_64  ?_
        refine gz_iand (pc := 65) dX12_thaw_65  ?_
        refine gz_V (zy := mX12_iceOf) (zc := 0) (pc := 66) [.inl (x2 &&& (x5 ^^^ (-1)))] rfl dX12_thaw_66 lkX12_294 MvX12_iceOf rfl z_0_47 rfl rfl rfl (Or.inl rfl) (fun h => h) (by exact Nat.le_of_ble_eq_true rfl) ?_
        obtain ⟨v9, e8, h⟩ := gz_bd h
        refine gz_useI (c_X12_iceOf e8) ?_
        refine gz_iload_n (pc := 69) dX12_thaw_69 rfl ?_
        refine gz_ic_ge (pc := 70) (tgt := 76) dX12_thaw_70 (by decide) (fun c => ?_) (fun c => ?_)
        · replace h := gz_ifp c h
          refine gz_aload_n (pc := 76) dX12_thaw_76 rfl ?_
          refine gz_iload_n (pc := 77) dX12_thaw_77 rfl ?_
          refine gz_iload (pc := 78) dX12_thaw_78 rfl ?_
          refine gz_iconst (pc := 80) dX12_thaw_80 (v := (-1)) (by decide) ?_
          refine gz_ixor (pc := 81) dX12_thaw_81  ?_
          refine gz_iand (pc := 82) dX12_thaw_82  ?_
          refine gz_V (zy := mX12_friendsBy) (zc := 0) (pc := 83) [.inl (x2 &&& (x5 ^^^ (-1)))] rfl dX12_thaw_83 lkX12_396 MvX12_friendsBy rfl z_0_47 rfl rfl rfl (Or.inl rfl) (fun h => h) (by exact Nat.le_of_ble_eq_true rfl) ?_
          obtain ⟨v11, e10, h⟩ := gz_bd h
          refine gz_useI (c_X12_friendsBy e10) ?_
          refine gz_istore (pc := 86) dX12_thaw_86 (by decide) rfl (loc2 := [some (.inr (.inr (0, 47))), some (.inl x1), some (.inl x2), some (.inl x3), some (.inl x4), some (.inl x5), some (.inl v11)]) rfl ?_
          refine gz_iload (pc := 88) dX12_thaw_88 rfl ?_
          refine gz_iload (pc := 90) dX12_thaw_90 rfl ?_
          refine gz_ic_lt (pc := 92) (tgt := 124) dX12_thaw_92 (by decide) (fun c => ?_) (fun c => ?_)
          · replace h := gz_ifp c h
            refine gz_iinc (pc := 124) dX12_thaw_124 (x := x5) (v := x5 + 1) rfl (by rw [show Int32.ofInt 1 = 1 by decide]) (by decide) rfl (loc2 := [some (.inr (.inr (0, 47))), some (.inl x1), some (.inl x2), some (.inl x3), some (.inl x4), some (.inl (x5 + 1)), some (.inl v11)]) rfl ?_
            refine gz_goto (pc := 127) (tgt := 44) dX12_thaw_127 (by decide) ?_
            exact gz_weak (loc2 := [some (.inr (.inr (0, 47))), some (.inl x1), some (.inl x2), some (.inl x3), some (.inl x4), some (.inl (x5 + 1)), none]) (ih x1 x2 x3 x4 (x5 + 1) I J h) (by repeat (first | exact trivial | refine ⟨rfl, ?_⟩))
          · replace h := gz_ifn c h
            refine gz_iload (pc := 95) dX12_thaw_95 rfl ?_
            refine gz_iload (pc := 97) dX12_thaw_97 rfl ?_
            refine gz_ic_ne (pc := 99) (tgt := 117) dX12_thaw_99 (by decide) (fun c => ?_) (fun c => ?_)
            · replace h := gz_ifp c h
              refine gz_iload (pc := 117) dX12_thaw_117 rfl ?_
              refine gz_istore_n (pc := 119) dX12_thaw_119 (by decide) rfl (loc2 := [some (.inr (.inr (0, 47))), some (.inl x1), some (.inl x2), some (.inl x5), some (.inl x4), some (.inl x5), some (.inl v11)]) rfl ?_
              refine gz_iload (pc := 120) dX12_thaw_120 rfl ?_
              refine gz_istore (pc := 122) dX12_thaw_122 (by decide) rfl (loc2 := [some (.inr (.inr (0, 47))), some (.inl x1), some (.inl x2), some (.inl x5), some (.inl v11), some (.inl x5), some (.inl v11)]) rfl ?_
              refine gz_iinc (pc := 124) dX12_thaw_124 (x := x5) (v := x5 + 1) rfl (by rw [show Int32.ofInt 1 = 1 by decide]) (by decide) rfl (loc2 := [some (.inr (.inr (0, 47))), some (.inl x1), some (.inl x2), some (.inl x5), some (.inl v11), some (.inl (x5 + 1)), some (.inl v11)]) rfl ?_
              refine gz_goto (pc := 127) (tgt := 44) dX12_thaw_127 (by decide) ?_
              exact gz_weak (loc2 := [some (.inr (.inr (0, 47))), some (.inl x1), some (.inl x2), some (.inl x5), some (.inl v11), some (.inl (x5 + 1)), none]) (ih x1 x2 x5 v11 (x5 + 1) I J h) (by repeat (first | exact trivial | refine ⟨rfl, ?_⟩))
            · replace h := gz_ifn (fun q => q c) h
              refine gz_iload (pc := 102) dX12_thaw_102 rfl ?_
              refine gz_S (zy := mJ6_bitCount_0f7a4) (zc := 0) (pc := 104) [.inl x5] rfl dX12_thaw_104 lkX12_343 MsJ6_bitCount_0f7a4 rfl (Or.inl rfl) (fun h => h) (by exact Nat.le_of_ble_eq_true rfl) ?_
              obtain ⟨v13, e12, h⟩ := gz_bd h
              refine gz_useI (c_J6_bitCount_0f7a4 e12) ?_
              refine gz_iload_n (pc := 107) dX12_thaw_107 rfl ?_
              refine gz_S (zy := mJ6_bitCount_0f7a4) (zc := 0) (pc := 108) [.inl x3] rfl dX12_thaw_108 lkX12_343 MsJ6_bitCount_0f7a4 rfl (Or.inl rfl) (fun h => h) (by exact Nat.le_of_ble_eq_true rfl) ?_
              obtain ⟨v15, e14, h⟩ := gz_bd h
              refine gz_useI (c_J6_bitCount_0f7a4 e14) ?_
              refine gz_ic_lt (pc := 111) (tgt := 117) dX12_thaw_111 (by decide) (fun c => ?_) (fun c => ?_)
              · replace h := gz_ifp c h
                refine gz_iload (pc := 117) dX12_thaw_117 rfl ?_
                refine gz_istore_n (pc := 119) dX12_thaw_119 (by decide) rfl (loc2 := [some (.inr (.inr (0, 47))), some (.inl x1), some (.inl x2), some (.inl x5), some (.inl x4), some (.inl x5), some (.inl v11)]) rfl ?_
                refine gz_iload (pc := 120) dX12_thaw_120 rfl ?_
                refine gz_istore (pc := 122) dX12_thaw_122 (by decide) rfl (loc2 := [some (.inr (.inr (0, 47))), some (.inl x1), some (.inl x2), some (.inl x5), some (.inl v11), some (.inl x5), some (.inl v11)]) rfl ?_
                refine gz_iinc (pc := 124) dX12_thaw_124 (x := x5) (v := x5 + 1) rfl (by rw [show Int32.ofInt 1 = 1 by decide]) (by decide) rfl (loc2 := [some (.inr (.inr (0, 47))), some (.inl x1), some (.inl x2), some (.inl x5), some (.inl v11), some (.inl (x5 + 1)), some (.inl v11)]) rfl ?_
                refine gz_goto (pc := 127) (tgt := 44) dX12_thaw_127 (by decide) ?_
                exact gz_weak (loc2 := [some (.inr (.inr (0, 47))), some (.inl x1), some (.inl x2), some (.inl x5), some (.inl v11), some (.inl (x5 + 1)), none]) (ih x1 x2 x5 v11 (x5 + 1) I J h) (by repeat (first | exact trivial | refine ⟨rfl, ?_⟩))
              · replace h := gz_ifn c h
                refine gz_goto (pc := 114) (tgt := 124) dX12_thaw_114 (by decide) ?_
                refine gz_iinc (pc := 124) dX12_thaw_124 (x := x5) (v := x5 + 1) rfl (by rw [show Int32.ofInt 1 = 1 by decide]) (by decide) rfl (loc2 := [some (.inr (.inr (0, 47))), some (.inl x1), some (.inl x2), some (.inl x3), some (.inl x4), some (.inl (x5 + 1)), some (.inl v11)]) rfl ?_
                refine gz_goto (pc := 127) (tgt := 44) dX12_thaw_127 (by decide) ?_
                exact gz_weak (loc2 := [some (.inr (.inr (0, 47))), some (.inl x1), some (.inl x2), some (.inl x3), some (.inl x4), some (.inl (x5 + 1)), none]) (ih x1 x2 x3 x4 (x5 + 1) I J h) (by repeat (first | exact trivial | refine ⟨rfl, ?_⟩))
        · replace h := gz_ifn c h
          refine gz_goto (pc := 73) (tgt := 124) dX12_thaw_73 (by decide) ?_
          refine gz_iinc (pc := 124) dX12_thaw_124 (x := x5) (v := x5 + 1) rfl (by rw [show Int32.ofInt 1 = 1 by decide]) (by decide) rfl (loc2 := [some (.inr (.inr (0, 47))), some (.inl x1), some (.inl x2), some (.inl x3), some (.inl x4), some (.inl (x5 + 1)), none]) rfl ?_
          refine gz_goto (pc := 127) (tgt := 44) dX12_thaw_127 (by decide) ?_
          exact ih x1 x2 x3 x4 (x5 + 1) I J h
def f_X12_thaw (φ : Nat) (a1 : Int32) (I : gzIT) (J : gzJT) : Option (Int32 × gzIT × gzJT) := Option.bind (f_X12_in a1 0 999) (fun v2 => Option.bind (f_X12_throwsIf (if ¬ v2 = 0 then (0 : Int32) else 1) 1 (gz_ui I 0 47 0 0) J) (fun v5 => if v5.1 = 0 then (Option.bind (f_X12_standing φ v5.2.1) (fun v7 => f_X12_thaw_44 φ φ a1 v7 (-1) (-1) 0 v5.2.1 v5.2.2)) else (some (0, v5.2.1, v5.2.2))))
set_option maxRecDepth 20000 in
theorem c_X12_thaw {g : gzG} {d φ : Nat} {a1 : Int32} {I : gzIT} {J : gzJT} {r : Int32 × gzIT × gzJT} (h : f_X12_thaw φ a1 I J = some r) : gzC g 0 (d + 5) mX12_thaw [.inr (.inr (0, 47)), .inl a1] (gzN, gzR0, I, J) (gzE (.ok (some (.inl r.1))) (gzN, gzR0, r.2.1, r.2.2)) := by
  unfold f_X12_thaw at h
  refine gzC_of (by decide +kernel) (Nat.le_of_ble_eq_true rfl) (loc := [some (.inr (.inr (0, 47))), some (.inl a1), none, none, none, none, none]) rfl ?_
  have z_0_47 : gzOk 0 47 gzN := gzOk_of (by decide)
  refine gz_aload_n (pc := 0) dX12_thaw_0 rfl ?_
  refine gz_iconst (pc := 1) dX12_thaw_1 (v := 0) (by decide) ?_
  refine gp_X12_3 (pc := 2) dX12_thaw_2 z_0_47 rfl ?_
  refine gz_aload_n (pc := 5) dX12_thaw_5 rfl ?_
  refine gz_iload_n (pc := 6) dX12_thaw_6 rfl ?_
  refine gz_iconst (pc := 7) dX12_thaw_7 (v := 0) (by decide) ?_
  refine gz_sipush (pc := 8) dX12_thaw_8 (v := 999) (by decide) ?_
  refine gz_S (zy := mX12_in) (zc := 0) (pc := 11) [.inl a1, .inl 0, .inl 999] rfl dX12_thaw_11 lkX12_84 MsX12_in rfl (Or.inl rfl) (fun h => h) (by exact Nat.le_of_ble_eq_true rfl) ?_
  obtain ⟨v2, e1, h⟩ := gz_bd h
  refine gz_useI (c_X12_in e1) ?_
  have kj3 : gzX g 0 (d + 5) mX12_thaw 22 [some (.inr (.inr (0, 47))), some (.inl a1), none, none, none, none, none] ([.inl (if ¬ v2 = 0 then (0 : Int32) else 1), .inr (.inr (0, 47))]) (gzN, gzR0, gz_ui I 0 47 0 0, J) 0 (gzE (.ok (some (.inl r.1))) (gzN, gzR0, r.2.1, r.2.2)) := by
    refine gz_iconst (pc := 22) dX12_thaw_22 (v := 1) (by decide) ?_
    refine gz_V (zy := mX12_throwsIf) (zc := 0) (pc := 23) [.inl (if ¬ v2 = 0 then (0 : Int32) else 1), .inl 1] rfl dX12_thaw_23 lkX12_269 MvX12_throwsIf rfl z_0_47 rfl rfl rfl (Or.inl rfl) (fun h => h) (by exact Nat.le_of_ble_eq_true rfl) ?_
    obtain ⟨v5, e4, h⟩ := gz_bd h
    refine gz_useI (c_X12_throwsIf e4) ?_
    refine gz_if_eq (pc := 26) (tgt := 31) dX12_thaw_26 (by decide) (fun c => ?_) (fun c => ?_)
    · replace h := gz_ifp c h
      refine gz_aload_n (pc := 31) dX12_thaw_31 rfl ?_
      refine gz_V (zy := mX12_standing) (zc := 0) (pc := 32) [] rfl dX12_thaw_32 lkX12_291 MvX12_standing rfl z_0_47 rfl rfl rfl (Or.inl rfl) (fun h => h) (by exact Nat.le_of_ble_eq_true rfl) ?_
      obtain ⟨v7, e6, h⟩ := gz_bd h
      refine gz_useI (c_X12_standing e6) ?_
      refine gz_istore_n (pc := 35) dX12_thaw_35 (by decide) rfl (loc2 := [some (.inr (.inr (0, 47))), some (.inl a1), some (.inl v7), none, none, none, none]) rfl ?_
      refine gz_iconst (pc := 36) dX12_thaw_36 (v := (-1)) (by decide) ?_
      refine gz_istore_n (pc := 37) dX12_thaw_37 (by decide) rfl (loc2 := [some (.inr (.inr (0, 47))), some (.inl a1), some (.inl v7), some (.inl (-1)), none, none, none]) rfl ?_
      refine gz_iconst (pc := 38) dX12_thaw_38 (v := (-1)) (by decide) ?_
      refine gz_istore (pc := 39) dX12_thaw_39 (by decide) rfl (loc2 := [some (.inr (.inr (0, 47))), some (.inl a1), some (.inl v7), some (.inl (-1)), some (.inl (-1)), none, none]) rfl ?_
      refine gz_iconst (pc := 41) dX12_thaw_41 (v := 0) (by decide) ?_
      refine gz_istore (pc := 42) dX12_thaw_42 (by decide) rfl (loc2 := [some (.inr (.inr (0, 47))), some (.inl a1), some (.inl v7), some (.inl (-1)), some (.inl (-1)), some (.inl 0), none]) rfl ?_
      exact p_X12_thaw_44 φ a1 v7 (-1) (-1) 0 v5.2.1 v5.2.2 h
    · replace h := gz_ifn c h
      refine gz_iconst (pc := 29) dX12_thaw_29 (v := 0) (by decide) ?_
      cases h; exact gz_iret (pc := 30) dX12_thaw_30 rfl ⟨rfl, rfl⟩
  refine gz_if_ne (pc := 14) (tgt := 21) dX12_thaw_14 (by decide) (fun c => ?_) (fun c => ?_)
  · rw [if_pos c] at kj3
    refine gz_iconst (pc := 21) dX12_thaw_21 (v := 0) (by decide) ?_
    exact kj3
  · rw [if_neg (show ¬ (¬ v2 = 0) from fun q => q c)] at kj3
    refine gz_iconst (pc := 17) dX12_thaw_17 (v := 1) (by decide) ?_
    refine gz_goto (pc := 18) (tgt := 22) dX12_thaw_18 (by decide) ?_
    exact kj3
/-! X12_friends: friends -/
def f_X12_friends (φ : Nat) (I : gzIT) (J : gzJT) : Option (Int32 × gzIT × gzJT) := Option.bind (f_X12_standing φ (gz_ui I 0 47 0 0)) (fun v2 => Option.bind (f_X12_friendsBy φ (gz_ui I 0 47 0 0) v2) (fun v4 => some (v4, gz_ui I 0 47 0 0, J)))
set_option maxRecDepth 20000 in
theorem c_X12_friends {g : gzG} {d φ : Nat} {I : gzIT} {J : gzJT} {r : Int32 × gzIT × gzJT} (h : f_X12_friends φ I J = some r) : gzC g 0 (d + 5) mX12_friends [.inr (.inr (0, 47))] (gzN, gzR0, I, J) (gzE (.ok (some (.inl r.1))) (gzN, gzR0, r.2.1, r.2.2)) := by
  unfold f_X12_friends at h
  refine gzC_of (by decide +kernel) (Nat.le_of_ble_eq_true rfl) (loc := [some (.inr (.inr (0, 47)))]) rfl ?_
  have z_0_47 : gzOk 0 47 gzN := gzOk_of (by decide)
  refine gz_aload_n (pc := 0) dX12_friends_0 rfl ?_
  refine gz_iconst (pc := 1) dX12_friends_1 (v := 0) (by decide) ?_
  refine gp_X12_3 (pc := 2) dX12_friends_2 z_0_47 rfl ?_
  refine gz_aload_n (pc := 5) dX12_friends_5 rfl ?_
  refine gz_aload_n (pc := 6) dX12_friends_6 rfl ?_
  refine gz_V (zy := mX12_standing) (zc := 0) (pc := 7) [] rfl dX12_friends_7 lkX12_291 MvX12_standing rfl z_0_47 rfl rfl rfl (Or.inl rfl) (fun h => h) (by exact Nat.le_of_ble_eq_true rfl) ?_
  obtain ⟨v2, e1, h⟩ := gz_bd h
  refine gz_useI (c_X12_standing e1) ?_
  refine gz_V (zy := mX12_friendsBy) (zc := 0) (pc := 10) [.inl v2] rfl dX12_friends_10 lkX12_396 MvX12_friendsBy rfl z_0_47 rfl rfl rfl (Or.inl rfl) (fun h => h) (by exact Nat.le_of_ble_eq_true rfl) ?_
  obtain ⟨v4, e3, h⟩ := gz_bd h
  refine gz_useI (c_X12_friendsBy e3) ?_
  cases h; exact gz_iret (pc := 13) dX12_friends_13 rfl ⟨rfl, rfl⟩
/-! X12_within: within -/
def gP_X12_within_4 (g : gzG) (d : Nat) (r : Int32) (x1 : Int32) (x2 : Int32) (x3 : Int32) (I : gzIT) (J : gzJT) : Prop := gzX g 0 (d + 3) mX12_within 4 [some (.inr (.inr (0, 47))), some (.inl x1), some (.inl x2), some (.inl x3)] [] (gzN, gzR0, I, J) 0 (gzE (.ok (some (.inl r))) (gzN, gzR0, I, J))
def f_X12_within_4 (φ : Nat) (I : gzIT) : Nat → Int32 → Int32 → Int32 → Option Int32
  | 0, _, _, _ => none
  | k + 1, x1, x2, x3 => Option.bind (f_X12_grudges I) (fun v2 => if v2 ≤ x3 then (some x2) else (Option.bind (f_X12_isThawed I x3) (fun v4 => if ¬ v4 = 0 then (f_X12_within_4 φ I k x1 (x2 + 0) (x3 + 1)) else (Option.bind (f_X12_of I x3 0) (fun v6 => Option.bind (f_X12_has x1 v6) (fun v8 => Option.bind (f_X12_of I x3 1) (fun v10 => Option.bind (f_X12_has x1 v10) (fun v12 => if ¬ v8 = v12 then (f_X12_within_4 φ I k x1 (x2 + 0) (x3 + 1)) else (f_X12_within_4 φ I k x1 (x2 + 1) (x3 + 1))))))))))
set_option maxRecDepth 20000 in
theorem p_X12_within_4 {g : gzG} {d φ : Nat} {I : gzIT} {J : gzJT} {r : Int32} : ∀ (k : Nat) (x1 : Int32) (x2 : Int32) (x3 : Int32), f_X12_within_4 φ I k x1 x2 x3 = some r → gP_X12_within_4 g d r x1 x2 x3 I J := by
  intro k; induction k with
  | zero => intro x1 x2 x3 h; cases h
  | succ k ih =>
    intro x1 x2 x3 h
    unfold f_X12_within_4 at h
    unfold gP_X12_within_4
    have z_0_47 : gzOk 0 47 gzN := gzOk_of (by decide)
    refine gz_iload_n (pc := 4) dX12_within_4 rfl ?_
    refine gz_aload_n (pc := 5) dX12_within_5 rfl ?_
    refine gz_V (zy := mX12_grudges) (zc := 0) (pc := 6) [] rfl dX12_within_6 lkX12_73 MvX12_grudges rfl z_0_47 rfl rfl rfl (Or.inl rfl) (fun h => h) (by exact Nat.le_of_ble_eq_true rfl) ?_
    obtain ⟨v2, e1, h⟩ := gz_bd h
    refine gz_useI (c_X12_grudges e1) ?_
    refine gz_ic_ge (pc := 9) (tgt := 57) dX12_within_9 (by decide) (fun c => ?_) (fun c => ?_)
    · replace h := gz_ifp c h
      refine gz_iload_n (pc := 57) dX12_within_57 rfl ?_
      cases h; exact gz_iret (pc := 58) dX12_within_58 rfl ⟨rfl, rfl⟩
    · replace h := gz_ifn c h
      refine gz_iload_n (pc := 12) dX12_within_12 rfl ?_
      refine gz_aload_n (pc := 13) dX12_within_13 rfl ?_
      refine gz_iload_n (pc := 14) dX12_within_14 rfl ?_
      refine gz_V (zy := mX12_isThawed) (zc := 0) (pc := 15) [.inl x3] rfl dX12_within_15 lkX12_76 MvX12_isThawed rfl z_0_47 rfl rfl rfl (Or.inl rfl) (fun h => h) (by exact Nat.le_of_ble_eq_true rfl) ?_
      obtain ⟨v4, e3, h⟩ := gz_bd h
      refine gz_useI (c_X12_isThawed e3) ?_
      refine gz_if_ne (pc := 18) (tgt := 48) dX12_within_18 (by decide) (fun c => ?_) (fun c => ?_)
      · replace h := gz_ifp c h
        refine gz_iconst (pc := 48) dX12_within_48 (v := 0) (by decide) ?_
        refine gz_iadd (pc := 49) dX12_within_49  ?_
        refine gz_istore_n (pc := 50) dX12_within_50 (by decide) rfl (loc2 := [some (.inr (.inr (0, 47))), some (.inl x1), some (.inl (x2 + 0)), some (.inl x3)]) rfl ?_
        refine gz_iinc (pc := 51) dX12_within_51 (x := x3) (v := x3 + 1) rfl (by rw [show Int32.ofInt 1 = 1 by decide]) (by decide) rfl (loc2 := [some (.inr (.inr (0, 47))), some (.inl x1), some (.inl (x2 + 0)), some (.inl (x3 + 1))]) rfl ?_
        refine gz_goto (pc := 54) (tgt := 4) dX12_within_54 (by decide) ?_
        exact ih x1 (x2 + 0) (x3 + 1) h
      · replace h := gz_ifn (fun q => q c) h
        refine gz_iload_n (pc := 21) dX12_within_21 rfl ?_
        refine gz_aload_n (pc := 22) dX12_within_22 rfl ?_
        refine gz_iload_n (pc := 23) dX12_within_23 rfl ?_
        refine gz_iconst (pc := 24) dX12_within_24 (v := 0) (by decide) ?_
        refine gz_V (zy := mX12_of) (zc := 0) (pc := 25) [.inl x3, .inl 0] rfl dX12_within_25 lkX12_70 MvX12_of rfl z_0_47 rfl rfl rfl (Or.inl rfl) (fun h => h) (by exact Nat.le_of_ble_eq_true rfl) ?_
        obtain ⟨v6, e5, h⟩ := gz_bd h
        refine gz_useI (c_X12_of e5) ?_
        refine gz_S (zy := mX12_has) (zc := 0) (pc := 28) [.inl x1, .inl v6] rfl dX12_within_28 lkX12_80 MsX12_has rfl (Or.inl rfl) (fun h => h) (by exact Nat.le_of_ble_eq_true rfl) ?_
        obtain ⟨v8, e7, h⟩ := gz_bd h
        refine gz_useI (c_X12_has e7) ?_
        refine gz_iload_n (pc := 31) dX12_within_31 rfl ?_
        refine gz_aload_n (pc := 32) dX12_within_32 rfl ?_
        refine gz_iload_n (pc := 33) dX12_within_33 rfl ?_
        refine gz_iconst (pc := 34) dX12_within_34 (v := 1) (by decide) ?_
        refine gz_V (zy := mX12_of) (zc := 0) (pc := 35) [.inl x3, .inl 1] rfl dX12_within_35 lkX12_70 MvX12_of rfl z_0_47 rfl rfl rfl (Or.inl rfl) (fun h => h) (by exact Nat.le_of_ble_eq_true rfl) ?_
        obtain ⟨v10, e9, h⟩ := gz_bd h
        refine gz_useI (c_X12_of e9) ?_
        refine gz_S (zy := mX12_has) (zc := 0) (pc := 38) [.inl x1, .inl v10] rfl dX12_within_38 lkX12_80 MsX12_has rfl (Or.inl rfl) (fun h => h) (by exact Nat.le_of_ble_eq_true rfl) ?_
        obtain ⟨v12, e11, h⟩ := gz_bd h
        refine gz_useI (c_X12_has e11) ?_
        refine gz_ic_ne (pc := 41) (tgt := 48) dX12_within_41 (by decide) (fun c => ?_) (fun c => ?_)
        · replace h := gz_ifp c h
          refine gz_iconst (pc := 48) dX12_within_48 (v := 0) (by decide) ?_
          refine gz_iadd (pc := 49) dX12_within_49  ?_
          refine gz_istore_n (pc := 50) dX12_within_50 (by decide) rfl (loc2 := [some (.inr (.inr (0, 47))), some (.inl x1), some (.inl (x2 + 0)), some (.inl x3)]) rfl ?_
          refine gz_iinc (pc := 51) dX12_within_51 (x := x3) (v := x3 + 1) rfl (by rw [show Int32.ofInt 1 = 1 by decide]) (by decide) rfl (loc2 := [some (.inr (.inr (0, 47))), some (.inl x1), some (.inl (x2 + 0)), some (.inl (x3 + 1))]) rfl ?_
          refine gz_goto (pc := 54) (tgt := 4) dX12_within_54 (by decide) ?_
          exact ih x1 (x2 + 0) (x3 + 1) h
        · replace h := gz_ifn (fun q => q c) h
          refine gz_iconst (pc := 44) dX12_within_44 (v := 1) (by decide) ?_
          refine gz_goto (pc := 45) (tgt := 49) dX12_within_45 (by decide) ?_
          refine gz_iadd (pc := 49) dX12_within_49  ?_
          refine gz_istore_n (pc := 50) dX12_within_50 (by decide) rfl (loc2 := [some (.inr (.inr (0, 47))), some (.inl x1), some (.inl (x2 + 1)), some (.inl x3)]) rfl ?_
          refine gz_iinc (pc := 51) dX12_within_51 (x := x3) (v := x3 + 1) rfl (by rw [show Int32.ofInt 1 = 1 by decide]) (by decide) rfl (loc2 := [some (.inr (.inr (0, 47))), some (.inl x1), some (.inl (x2 + 1)), some (.inl (x3 + 1))]) rfl ?_
          refine gz_goto (pc := 54) (tgt := 4) dX12_within_54 (by decide) ?_
          exact ih x1 (x2 + 1) (x3 + 1) h
def f_X12_within (φ : Nat) (I : gzIT) (a1 : Int32) : Option Int32 := f_X12_within_4 φ I φ a1 0 0
set_option maxRecDepth 20000 in
theorem c_X12_within {g : gzG} {d φ : Nat} {a1 : Int32} {I : gzIT} {J : gzJT} {r : Int32} (h : f_X12_within φ I a1 = some r) : gzC g 0 (d + 3) mX12_within [.inr (.inr (0, 47)), .inl a1] (gzN, gzR0, I, J) (gzE (.ok (some (.inl r))) (gzN, gzR0, I, J)) := by
  unfold f_X12_within at h
  refine gzC_of (by decide +kernel) (Nat.le_of_ble_eq_true rfl) (loc := [some (.inr (.inr (0, 47))), some (.inl a1), none, none]) rfl ?_
  refine gz_iconst (pc := 0) dX12_within_0 (v := 0) (by decide) ?_
  refine gz_istore_n (pc := 1) dX12_within_1 (by decide) rfl (loc2 := [some (.inr (.inr (0, 47))), some (.inl a1), some (.inl 0), none]) rfl ?_
  refine gz_iconst (pc := 2) dX12_within_2 (v := 0) (by decide) ?_
  refine gz_istore_n (pc := 3) dX12_within_3 (by decide) rfl (loc2 := [some (.inr (.inr (0, 47))), some (.inl a1), some (.inl 0), some (.inl 0)]) rfl ?_
  exact p_X12_within_4 φ a1 0 0 h
/-! X12_camps: camps -/
def gP_X12_camps_9 (g : gzG) (d : Nat) (r : Int32 × gzIT × gzJT) (x1 : Int32) (x2 : Int32) (x3 : Int32) (I : gzIT) (J : gzJT) : Prop := gzX g 0 (d + 4) mX12_camps 9 [some (.inr (.inr (0, 47))), some (.inl x1), some (.inl x2), some (.inl x3)] [] (gzN, gzR0, I, J) 0 (gzE (.ok (some (.inl r.1))) (gzN, gzR0, r.2.1, r.2.2))
def f_X12_camps_9 (φ : Nat) : Nat → Int32 → Int32 → Int32 → gzIT → gzJT → Option (Int32 × gzIT × gzJT)
  | 0, _, _, _, _, _ => none
  | k + 1, x1, x2, x3, I, J => Option.bind (f_X12_allFamilies I) (fun v2 => if v2 < x3 then (if x1 = 0 then (some (x2, I, J)) else (Option.bind (f_X12_within φ I x2) (fun v4 => some (v4, I, J)))) else (Option.bind (f_X12_within φ I x3) (fun v6 => Option.bind (f_X12_within φ I x2) (fun v8 => f_X12_camps_9 φ k x1 (if v8 ≤ v6 then (x2 : Int32) else x3) (x3 + 2) I J))))
set_option maxRecDepth 20000 in
theorem p_X12_camps_9 {g : gzG} {d φ : Nat} {r : Int32 × gzIT × gzJT} : ∀ (k : Nat) (x1 : Int32) (x2 : Int32) (x3 : Int32) (I : gzIT) (J : gzJT), f_X12_camps_9 φ k x1 x2 x3 I J = some r → gP_X12_camps_9 g d r x1 x2 x3 I J := by
  intro k; induction k with
  | zero => intro x1 x2 x3 I J h; cases h
  | succ k ih =>
    intro x1 x2 x3 I J h
    unfold f_X12_camps_9 at h
    unfold gP_X12_camps_9
    have z_0_47 : gzOk 0 47 gzN := gzOk_of (by decide)
    refine gz_iload_n (pc := 9) dX12_camps_9 rfl ?_
    refine gz_aload_n (pc := 10) dX12_camps_10 rfl ?_
    refine gz_V (zy := mX12_allFamilies) (zc := 0) (pc := 11) [] rfl dX12_camps_11 lkX12_387 MvX12_allFamilies rfl z_0_47 rfl rfl rfl (Or.inl rfl) (fun h => h) (by exact Nat.le_of_ble_eq_true rfl) ?_
    obtain ⟨v2, e1, h⟩ := gz_bd h
    refine gz_useI (c_X12_allFamilies e1) ?_
    refine gz_ic_gt (pc := 14) (tgt := 42) dX12_camps_14 (by decide) (fun c => ?_) (fun c => ?_)
    · replace h := gz_ifp c h
      refine gz_iload_n (pc := 42) dX12_camps_42 rfl ?_
      refine gz_if_eq (pc := 43) (tgt := 54) dX12_camps_43 (by decide) (fun c => ?_) (fun c => ?_)
      · replace h := gz_ifp c h
        refine gz_iload_n (pc := 54) dX12_camps_54 rfl ?_
        cases h; exact gz_iret (pc := 55) dX12_camps_55 rfl ⟨rfl, rfl⟩
      · replace h := gz_ifn c h
        refine gz_aload_n (pc := 46) dX12_camps_46 rfl ?_
        refine gz_iload_n (pc := 47) dX12_camps_47 rfl ?_
        refine gz_V (zy := mX12_within) (zc := 0) (pc := 48) [.inl x2] rfl dX12_camps_48 lkX12_399 MvX12_within rfl z_0_47 rfl rfl rfl (Or.inl rfl) (fun h => h) (by exact Nat.le_of_ble_eq_true rfl) ?_
        obtain ⟨v4, e3, h⟩ := gz_bd h
        refine gz_useI (c_X12_within e3) ?_
        refine gz_goto (pc := 51) (tgt := 55) dX12_camps_51 (by decide) ?_
        cases h; exact gz_iret (pc := 55) dX12_camps_55 rfl ⟨rfl, rfl⟩
    · replace h := gz_ifn c h
      refine gz_aload_n (pc := 17) dX12_camps_17 rfl ?_
      refine gz_iload_n (pc := 18) dX12_camps_18 rfl ?_
      refine gz_V (zy := mX12_within) (zc := 0) (pc := 19) [.inl x3] rfl dX12_camps_19 lkX12_399 MvX12_within rfl z_0_47 rfl rfl rfl (Or.inl rfl) (fun h => h) (by exact Nat.le_of_ble_eq_true rfl) ?_
      obtain ⟨v6, e5, h⟩ := gz_bd h
      refine gz_useI (c_X12_within e5) ?_
      refine gz_aload_n (pc := 22) dX12_camps_22 rfl ?_
      refine gz_iload_n (pc := 23) dX12_camps_23 rfl ?_
      refine gz_V (zy := mX12_within) (zc := 0) (pc := 24) [.inl x2] rfl dX12_camps_24 lkX12_399 MvX12_within rfl z_0_47 rfl rfl rfl (Or.inl rfl) (fun h => h) (by exact Nat.le_of_ble_eq_true rfl) ?_
      obtain ⟨v8, e7, h⟩ := gz_bd h
      refine gz_useI (c_X12_within e7) ?_
      have kj9 : gzX g 0 (d + 4) mX12_camps 35 [some (.inr (.inr (0, 47))), some (.inl x1), some (.inl x2), some (.inl x3)] ([.inl (if v8 ≤ v6 then (x2 : Int32) else x3)]) (gzN, gzR0, I, J) 0 (gzE (.ok (some (.inl r.1))) (gzN, gzR0, r.2.1, r.2.2)) := by
        refine gz_istore_n (pc := 35) dX12_camps_35 (by decide) rfl (loc2 := [some (.inr (.inr (0, 47))), some (.inl x1), some (.inl (if v8 ≤ v6 then (x2 : Int32) else x3)), some (.inl x3)]) rfl ?_
        refine gz_iinc (pc := 36) dX12_camps_36 (x := x3) (v := x3 + 2) rfl (by rw [show Int32.ofInt 2 = 2 by decide]) (by decide) rfl (loc2 := [some (.inr (.inr (0, 47))), some (.inl x1), some (.inl (if v8 ≤ v6 then (x2 : Int32) else x3)), some (.inl (x3 + 2))]) rfl ?_
        refine gz_goto (pc := 39) (tgt := 9) dX12_camps_39 (by decide) ?_
        exact ih x1 (if v8 ≤ v6 then (x2 : Int32) else x3) (x3 + 2) I J h
      refine gz_ic_ge (pc := 27) (tgt := 34) dX12_camps_27 (by decide) (fun c => ?_) (fun c => ?_)
      · rw [if_pos c] at kj9
        refine gz_iload_n (pc := 34) dX12_camps_34 rfl ?_
        exact kj9
      · rw [if_neg c] at kj9
        refine gz_iload_n (pc := 30) dX12_camps_30 rfl ?_
        refine gz_goto (pc := 31) (tgt := 35) dX12_camps_31 (by decide) ?_
        exact kj9
def f_X12_camps (φ : Nat) (a1 : Int32) (I : gzIT) (J : gzJT) : Option (Int32 × gzIT × gzJT) := f_X12_camps_9 φ φ a1 0 2 (gz_ui I 0 47 0 0) J
set_option maxRecDepth 20000 in
theorem c_X12_camps {g : gzG} {d φ : Nat} {a1 : Int32} {I : gzIT} {J : gzJT} {r : Int32 × gzIT × gzJT} (h : f_X12_camps φ a1 I J = some r) : gzC g 0 (d + 4) mX12_camps [.inr (.inr (0, 47)), .inl a1] (gzN, gzR0, I, J) (gzE (.ok (some (.inl r.1))) (gzN, gzR0, r.2.1, r.2.2)) := by
  unfold f_X12_camps at h
  refine gzC_of (by decide +kernel) (Nat.le_of_ble_eq_true rfl) (loc := [some (.inr (.inr (0, 47))), some (.inl a1), none, none]) rfl ?_
  have z_0_47 : gzOk 0 47 gzN := gzOk_of (by decide)
  refine gz_aload_n (pc := 0) dX12_camps_0 rfl ?_
  refine gz_iconst (pc := 1) dX12_camps_1 (v := 0) (by decide) ?_
  refine gp_X12_3 (pc := 2) dX12_camps_2 z_0_47 rfl ?_
  refine gz_iconst (pc := 5) dX12_camps_5 (v := 0) (by decide) ?_
  refine gz_istore_n (pc := 6) dX12_camps_6 (by decide) rfl (loc2 := [some (.inr (.inr (0, 47))), some (.inl a1), some (.inl 0), none]) rfl ?_
  refine gz_iconst (pc := 7) dX12_camps_7 (v := 2) (by decide) ?_
  refine gz_istore_n (pc := 8) dX12_camps_8 (by decide) rfl (loc2 := [some (.inr (.inr (0, 47))), some (.inl a1), some (.inl 0), some (.inl 2)]) rfl ?_
  exact p_X12_camps_9 φ a1 0 2 (gz_ui I 0 47 0 0) J h
/-! X12_isCut: isCut -/
def gP_X12_isCut_26 (g : gzG) (d : Nat) (r : Int32) (x1 : Int32) (x2 : Int32) (I : gzIT) (J : gzJT) : Prop := gzX g 0 (d + 1) mX12_isCut 26 [some (.inr (.inr (0, 47))), some (.inl x1), some (.inl x2)] [] (gzN, gzR0, I, J) 0 (gzE (.ok (some (.inl r))) (gzN, gzR0, I, J))
def f_X12_isCut_26 (φ : Nat) (I : gzIT) : Nat → Int32 → Int32 → Option Int32
  | 0, _, _ => none
  | k + 1, x1, x2 => if I 0 47 11 ≤ x2 then (gzGz x1 (some x1)) else (if x1 = 0 then (gzGz x1 (some x1)) else (gzGd (x2) 400 (Option.bind (f_X12_in (I 0 53 x2.toNatClampNeg) 0 1) (fun v6 => if v6 = 0 then (f_X12_isCut_26 φ I k 0 (x2 + 2)) else (gzGd (x2 + 1) 400 (Option.bind (f_X12_in (I 0 53 ((x2 + 1).toNatClampNeg)) 0 9) (fun v9 => if v9 = 0 then (f_X12_isCut_26 φ I k 0 (x2 + 2)) else (f_X12_isCut_26 φ I k 1 (x2 + 2)))))))))
set_option maxRecDepth 20000 in
theorem p_X12_isCut_26 {g : gzG} {d φ : Nat} {I : gzIT} {J : gzJT} {r : Int32} : ∀ (k : Nat) (x1 : Int32) (x2 : Int32), f_X12_isCut_26 φ I k x1 x2 = some r → gP_X12_isCut_26 g d r x1 x2 I J := by
  intro k; induction k with
  | zero => intro x1 x2 h; cases h
  | succ k ih =>
    intro x1 x2 h
    unfold f_X12_isCut_26 at h
    unfold gP_X12_isCut_26
    have z_0_47 : gzOk 0 47 gzN := gzOk_of (by decide)
    have z_0_53 : gzOk 0 53 gzN := gzOk_of (by decide)
    refine gz_iload_n (pc := 26) dX12_isCut_26 rfl ?_
    refine gz_aload_n (pc := 27) dX12_isCut_27 rfl ?_
    refine gi_X12_95 (pc := 28) dX12_isCut_28 (v := I 0 47 11) z_0_47 rfl rfl ?_
    refine gz_ic_ge (pc := 31) (tgt := 81) dX12_isCut_31 (by decide) (fun c => ?_) (fun c => ?_)
    · replace h := gz_ifp c h
      refine gz_iload_n (pc := 81) dX12_isCut_81 rfl ?_
      obtain ⟨b2, h⟩ := gz_gz h
      cases h; exact gz_zret (pc := 82) dX12_isCut_82 rfl b2 ⟨rfl, rfl⟩
    · replace h := gz_ifn c h
      refine gz_iload_n (pc := 34) dX12_isCut_34 rfl ?_
      refine gz_if_eq (pc := 35) (tgt := 81) dX12_isCut_35 (by decide) (fun c => ?_) (fun c => ?_)
      · replace h := gz_ifp c h
        refine gz_iload_n (pc := 81) dX12_isCut_81 rfl ?_
        obtain ⟨b3, h⟩ := gz_gz h
        cases h; exact gz_zret (pc := 82) dX12_isCut_82 rfl b3 ⟨rfl, rfl⟩
      · replace h := gz_ifn c h
        refine gz_aload_n (pc := 38) dX12_isCut_38 rfl ?_
        refine gr_X12_29 (pc := 39) dX12_isCut_39 z_0_47 rfl ?_
        refine gz_iload_n (pc := 42) dX12_isCut_42 rfl ?_
        obtain ⟨b4, h⟩ := gz_gd h
        refine gz_bald2 (pc := 43) dX12_isCut_43 (k := x2.toNatClampNeg) (v := I 0 53 x2.toNatClampNeg) z_0_53 rfl b4 rfl rfl ?_
        refine gz_iconst (pc := 44) dX12_isCut_44 (v := 0) (by decide) ?_
        refine gz_iconst (pc := 45) dX12_isCut_45 (v := 1) (by decide) ?_
        refine gz_S (zy := mX12_in) (zc := 0) (pc := 46) [.inl (I 0 53 x2.toNatClampNeg), .inl 0, .inl 1] rfl dX12_isCut_46 lkX12_84 MsX12_in rfl (Or.inl rfl) (fun h => h) (by exact Nat.le_of_ble_eq_true rfl) ?_
        obtain ⟨v6, e5, h⟩ := gz_bd h
        refine gz_useI (c_X12_in e5) ?_
        refine gz_if_eq (pc := 49) (tgt := 73) dX12_isCut_49 (by decide) (fun c => ?_) (fun c => ?_)
        · replace h := gz_ifp c h
          refine gz_iconst (pc := 73) dX12_isCut_73 (v := 0) (by decide) ?_
          refine gz_istore_n (pc := 74) dX12_isCut_74 (by decide) rfl (loc2 := [some (.inr (.inr (0, 47))), some (.inl 0), some (.inl x2)]) rfl ?_
          refine gz_iinc (pc := 75) dX12_isCut_75 (x := x2) (v := x2 + 2) rfl (by rw [show Int32.ofInt 2 = 2 by decide]) (by decide) rfl (loc2 := [some (.inr (.inr (0, 47))), some (.inl 0), some (.inl (x2 + 2))]) rfl ?_
          refine gz_goto (pc := 78) (tgt := 26) dX12_isCut_78 (by decide) ?_
          exact ih 0 (x2 + 2) h
        · replace h := gz_ifn c h
          refine gz_aload_n (pc := 52) dX12_isCut_52 rfl ?_
          refine gr_X12_29 (pc := 53) dX12_isCut_53 z_0_47 rfl ?_
          refine gz_iload_n (pc := 56) dX12_isCut_56 rfl ?_
          refine gz_iconst (pc := 57) dX12_isCut_57 (v := 1) (by decide) ?_
          refine gz_iadd (pc := 58) dX12_isCut_58  ?_
          obtain ⟨b7, h⟩ := gz_gd h
          refine gz_bald2 (pc := 59) dX12_isCut_59 (k := (x2 + 1).toNatClampNeg) (v := I 0 53 ((x2 + 1).toNatClampNeg)) z_0_53 rfl b7 rfl rfl ?_
          refine gz_iconst (pc := 60) dX12_isCut_60 (v := 0) (by decide) ?_
          refine gz_bipush (pc := 61) dX12_isCut_61 (v := 9) (by decide) ?_
          refine gz_S (zy := mX12_in) (zc := 0) (pc := 63) [.inl (I 0 53 ((x2 + 1).toNatClampNeg)), .inl 0, .inl 9] rfl dX12_isCut_63 lkX12_84 MsX12_in rfl (Or.inl rfl) (fun h => h) (by exact Nat.le_of_ble_eq_true rfl) ?_
          obtain ⟨v9, e8, h⟩ := gz_bd h
          refine gz_useI (c_X12_in e8) ?_
          refine gz_if_eq (pc := 66) (tgt := 73) dX12_isCut_66 (by decide) (fun c => ?_) (fun c => ?_)
          · replace h := gz_ifp c h
            refine gz_iconst (pc := 73) dX12_isCut_73 (v := 0) (by decide) ?_
            refine gz_istore_n (pc := 74) dX12_isCut_74 (by decide) rfl (loc2 := [some (.inr (.inr (0, 47))), some (.inl 0), some (.inl x2)]) rfl ?_
            refine gz_iinc (pc := 75) dX12_isCut_75 (x := x2) (v := x2 + 2) rfl (by rw [show Int32.ofInt 2 = 2 by decide]) (by decide) rfl (loc2 := [some (.inr (.inr (0, 47))), some (.inl 0), some (.inl (x2 + 2))]) rfl ?_
            refine gz_goto (pc := 78) (tgt := 26) dX12_isCut_78 (by decide) ?_
            exact ih 0 (x2 + 2) h
          · replace h := gz_ifn c h
            refine gz_iconst (pc := 69) dX12_isCut_69 (v := 1) (by decide) ?_
            refine gz_goto (pc := 70) (tgt := 74) dX12_isCut_70 (by decide) ?_
            refine gz_istore_n (pc := 74) dX12_isCut_74 (by decide) rfl (loc2 := [some (.inr (.inr (0, 47))), some (.inl 1), some (.inl x2)]) rfl ?_
            refine gz_iinc (pc := 75) dX12_isCut_75 (x := x2) (v := x2 + 2) rfl (by rw [show Int32.ofInt 2 = 2 by decide]) (by decide) rfl (loc2 := [some (.inr (.inr (0, 47))), some (.inl 1), some (.inl (x2 + 2))]) rfl ?_
            refine gz_goto (pc := 78) (tgt := 26) dX12_isCut_78 (by decide) ?_
            exact ih 1 (x2 + 2) h
def f_X12_isCut (φ : Nat) (I : gzIT) : Option Int32 := if ¬ (I 0 47 11) - (I 0 47 11) / 2 * 2 = 0 then (f_X12_isCut_26 φ I φ 0 0) else (if 40 < I 0 47 11 then (f_X12_isCut_26 φ I φ 0 0) else (f_X12_isCut_26 φ I φ 1 0))
set_option maxRecDepth 20000 in
theorem c_X12_isCut {g : gzG} {d φ : Nat} {I : gzIT} {J : gzJT} {r : Int32} (h : f_X12_isCut φ I = some r) : gzC g 0 (d + 1) mX12_isCut [.inr (.inr (0, 47))] (gzN, gzR0, I, J) (gzE (.ok (some (.inl r))) (gzN, gzR0, I, J)) := by
  unfold f_X12_isCut at h
  refine gzC_of (by decide +kernel) (Nat.le_of_ble_eq_true rfl) (loc := [some (.inr (.inr (0, 47))), none, none]) rfl ?_
  have z_0_47 : gzOk 0 47 gzN := gzOk_of (by decide)
  refine gz_aload_n (pc := 0) dX12_isCut_0 rfl ?_
  refine gi_X12_95 (pc := 1) dX12_isCut_1 (v := I 0 47 11) z_0_47 rfl rfl ?_
  refine gz_iconst (pc := 4) dX12_isCut_4 (v := 2) (by decide) ?_
  refine gz_irem (pc := 5) dX12_isCut_5 (by decide) ?_
  refine gz_if_ne (pc := 6) (tgt := 22) dX12_isCut_6 (by decide) (fun c => ?_) (fun c => ?_)
  · replace h := gz_ifp c h
    refine gz_iconst (pc := 22) dX12_isCut_22 (v := 0) (by decide) ?_
    refine gz_istore_n (pc := 23) dX12_isCut_23 (by decide) rfl (loc2 := [some (.inr (.inr (0, 47))), some (.inl 0), none]) rfl ?_
    refine gz_iconst (pc := 24) dX12_isCut_24 (v := 0) (by decide) ?_
    refine gz_istore_n (pc := 25) dX12_isCut_25 (by decide) rfl (loc2 := [some (.inr (.inr (0, 47))), some (.inl 0), some (.inl 0)]) rfl ?_
    exact p_X12_isCut_26 φ 0 0 h
  · replace h := gz_ifn (fun q => q c) h
    refine gz_aload_n (pc := 9) dX12_isCut_9 rfl ?_
    refine gi_X12_95 (pc := 10) dX12_isCut_10 (v := I 0 47 11) z_0_47 rfl rfl ?_
    refine gz_bipush (pc := 13) dX12_isCut_13 (v := 40) (by decide) ?_
    refine gz_ic_gt (pc := 15) (tgt := 22) dX12_isCut_15 (by decide) (fun c => ?_) (fun c => ?_)
    · replace h := gz_ifp c h
      refine gz_iconst (pc := 22) dX12_isCut_22 (v := 0) (by decide) ?_
      refine gz_istore_n (pc := 23) dX12_isCut_23 (by decide) rfl (loc2 := [some (.inr (.inr (0, 47))), some (.inl 0), none]) rfl ?_
      refine gz_iconst (pc := 24) dX12_isCut_24 (v := 0) (by decide) ?_
      refine gz_istore_n (pc := 25) dX12_isCut_25 (by decide) rfl (loc2 := [some (.inr (.inr (0, 47))), some (.inl 0), some (.inl 0)]) rfl ?_
      exact p_X12_isCut_26 φ 0 0 h
    · replace h := gz_ifn c h
      refine gz_iconst (pc := 18) dX12_isCut_18 (v := 1) (by decide) ?_
      refine gz_goto (pc := 19) (tgt := 23) dX12_isCut_19 (by decide) ?_
      refine gz_istore_n (pc := 23) dX12_isCut_23 (by decide) rfl (loc2 := [some (.inr (.inr (0, 47))), some (.inl 1), none]) rfl ?_
      refine gz_iconst (pc := 24) dX12_isCut_24 (v := 0) (by decide) ?_
      refine gz_istore_n (pc := 25) dX12_isCut_25 (by decide) rfl (loc2 := [some (.inr (.inr (0, 47))), some (.inl 1), some (.inl 0)]) rfl ?_
      exact p_X12_isCut_26 φ 1 0 h
/-! X12_fits: fits -/
def gP_X12_fits_4 (g : gzG) (d : Nat) (r : Int32) (x1 : Int32) (x2 : Int32) (x3 : Int32) (I : gzIT) (J : gzJT) : Prop := gzX g 0 d mX12_fits 4 [some (.inr (.inr (0, 47))), some (.inl x1), some (.inl x2), some (.inl x3)] [] (gzN, gzR0, I, J) 0 (gzE (.ok (some (.inl r))) (gzN, gzR0, I, J))
def f_X12_fits_4 (φ : Nat) (I : gzIT) : Nat → Int32 → Int32 → Int32 → Option Int32
  | 0, _, _, _ => none
  | k + 1, x1, x2, x3 => if I 0 47 11 ≤ x3 then (some (if 2 ≤ x2 then (0 : Int32) else 1)) else (gzGd (x3) 400 (gzGd ((14 + (2 * x1)) + (I 0 53 x3.toNatClampNeg)) 2062 (gzGd (x3 + 1) 400 (f_X12_fits_4 φ I k x1 (x2 + (if ¬ I 0 48 (((14 + (2 * x1)) + (I 0 53 x3.toNatClampNeg)).toNatClampNeg) = I 0 53 ((x3 + 1).toNatClampNeg) then (1 : Int32) else 0)) (x3 + 2)))))
set_option maxRecDepth 20000 in
theorem p_X12_fits_4 {g : gzG} {d φ : Nat} {I : gzIT} {J : gzJT} {r : Int32} : ∀ (k : Nat) (x1 : Int32) (x2 : Int32) (x3 : Int32), f_X12_fits_4 φ I k x1 x2 x3 = some r → gP_X12_fits_4 g d r x1 x2 x3 I J := by
  intro k; induction k with
  | zero => intro x1 x2 x3 h; cases h
  | succ k ih =>
    intro x1 x2 x3 h
    unfold f_X12_fits_4 at h
    unfold gP_X12_fits_4
    have z_0_47 : gzOk 0 47 gzN := gzOk_of (by decide)
    have z_0_53 : gzOk 0 53 gzN := gzOk_of (by decide)
    have z_0_48 : gzOk 0 48 gzN := gzOk_of (by decide)
    refine gz_iload_n (pc := 4) dX12_fits_4 rfl ?_
    refine gz_aload_n (pc := 5) dX12_fits_5 rfl ?_
    refine gi_X12_95 (pc := 6) dX12_fits_6 (v := I 0 47 11) z_0_47 rfl rfl ?_
    refine gz_ic_ge (pc := 9) (tgt := 55) dX12_fits_9 (by decide) (fun c => ?_) (fun c => ?_)
    · replace h := gz_ifp c h
      refine gz_iload_n (pc := 55) dX12_fits_55 rfl ?_
      refine gz_iconst (pc := 56) dX12_fits_56 (v := 2) (by decide) ?_
      have kj1 : gzX g 0 d mX12_fits 65 [some (.inr (.inr (0, 47))), some (.inl x1), some (.inl x2), some (.inl x3)] ([.inl (if 2 ≤ x2 then (0 : Int32) else 1)]) (gzN, gzR0, I, J) 0 (gzE (.ok (some (.inl r))) (gzN, gzR0, I, J)) := by
        cases h; exact gz_zret (pc := 65) dX12_fits_65 rfl (by first | exact gz_ite01 | exact gz_ite10) ⟨rfl, rfl⟩
      refine gz_ic_ge (pc := 57) (tgt := 64) dX12_fits_57 (by decide) (fun c => ?_) (fun c => ?_)
      · rw [if_pos c] at kj1
        refine gz_iconst (pc := 64) dX12_fits_64 (v := 0) (by decide) ?_
        exact kj1
      · rw [if_neg c] at kj1
        refine gz_iconst (pc := 60) dX12_fits_60 (v := 1) (by decide) ?_
        refine gz_goto (pc := 61) (tgt := 65) dX12_fits_61 (by decide) ?_
        exact kj1
    · replace h := gz_ifn c h
      refine gz_iload_n (pc := 12) dX12_fits_12 rfl ?_
      refine gz_aload_n (pc := 13) dX12_fits_13 rfl ?_
      refine gr_X12_13 (pc := 14) dX12_fits_14 z_0_47 rfl ?_
      refine gz_bipush (pc := 17) dX12_fits_17 (v := 14) (by decide) ?_
      refine gz_iconst (pc := 19) dX12_fits_19 (v := 2) (by decide) ?_
      refine gz_iload_n (pc := 20) dX12_fits_20 rfl ?_
      refine gz_imul (pc := 21) dX12_fits_21  ?_
      refine gz_iadd (pc := 22) dX12_fits_22  ?_
      refine gz_aload_n (pc := 23) dX12_fits_23 rfl ?_
      refine gr_X12_29 (pc := 24) dX12_fits_24 z_0_47 rfl ?_
      refine gz_iload_n (pc := 27) dX12_fits_27 rfl ?_
      obtain ⟨b2, h⟩ := gz_gd h
      refine gz_bald2 (pc := 28) dX12_fits_28 (k := x3.toNatClampNeg) (v := I 0 53 x3.toNatClampNeg) z_0_53 rfl b2 rfl rfl ?_
      refine gz_iadd (pc := 29) dX12_fits_29  ?_
      obtain ⟨b3, h⟩ := gz_gd h
      refine gz_iald2 (pc := 30) dX12_fits_30 (k := ((14 + (2 * x1)) + (I 0 53 x3.toNatClampNeg)).toNatClampNeg) (v := I 0 48 (((14 + (2 * x1)) + (I 0 53 x3.toNatClampNeg)).toNatClampNeg)) z_0_48 rfl b3 rfl rfl ?_
      refine gz_aload_n (pc := 31) dX12_fits_31 rfl ?_
      refine gr_X12_29 (pc := 32) dX12_fits_32 z_0_47 rfl ?_
      refine gz_iload_n (pc := 35) dX12_fits_35 rfl ?_
      refine gz_iconst (pc := 36) dX12_fits_36 (v := 1) (by decide) ?_
      refine gz_iadd (pc := 37) dX12_fits_37  ?_
      obtain ⟨b4, h⟩ := gz_gd h
      refine gz_bald2 (pc := 38) dX12_fits_38 (k := (x3 + 1).toNatClampNeg) (v := I 0 53 ((x3 + 1).toNatClampNeg)) z_0_53 rfl b4 rfl rfl ?_
      have kj5 : gzX g 0 d mX12_fits 47 [some (.inr (.inr (0, 47))), some (.inl x1), some (.inl x2), some (.inl x3)] ([.inl (if ¬ I 0 48 (((14 + (2 * x1)) + (I 0 53 x3.toNatClampNeg)).toNatClampNeg) = I 0 53 ((x3 + 1).toNatClampNeg) then (1 : Int32) else 0), .inl x2]) (gzN, gzR0, I, J) 0 (gzE (.ok (some (.inl r))) (gzN, gzR0, I, J)) := by
        refine gz_iadd (pc := 47) dX12_fits_47  ?_
        refine gz_istore_n (pc := 48) dX12_fits_48 (by decide) rfl (loc2 := [some (.inr (.inr (0, 47))), some (.inl x1), some (.inl (x2 + (if ¬ I 0 48 (((14 + (2 * x1)) + (I 0 53 x3.toNatClampNeg)).toNatClampNeg) = I 0 53 ((x3 + 1).toNatClampNeg) then (1 : Int32) else 0))), some (.inl x3)]) rfl ?_
        refine gz_iinc (pc := 49) dX12_fits_49 (x := x3) (v := x3 + 2) rfl (by rw [show Int32.ofInt 2 = 2 by decide]) (by decide) rfl (loc2 := [some (.inr (.inr (0, 47))), some (.inl x1), some (.inl (x2 + (if ¬ I 0 48 (((14 + (2 * x1)) + (I 0 53 x3.toNatClampNeg)).toNatClampNeg) = I 0 53 ((x3 + 1).toNatClampNeg) then (1 : Int32) else 0))), some (.inl (x3 + 2))]) rfl ?_
        refine gz_goto (pc := 52) (tgt := 4) dX12_fits_52 (by decide) ?_
        exact ih x1 (x2 + (if ¬ I 0 48 (((14 + (2 * x1)) + (I 0 53 x3.toNatClampNeg)).toNatClampNeg) = I 0 53 ((x3 + 1).toNatClampNeg) then (1 : Int32) else 0)) (x3 + 2) h
      refine gz_ic_ne (pc := 39) (tgt := 46) dX12_fits_39 (by decide) (fun c => ?_) (fun c => ?_)
      · rw [if_pos c] at kj5
        refine gz_iconst (pc := 46) dX12_fits_46 (v := 1) (by decide) ?_
        exact kj5
      · rw [if_neg (show ¬ (¬ I 0 48 (((14 + (2 * x1)) + (I 0 53 x3.toNatClampNeg)).toNatClampNeg) = I 0 53 ((x3 + 1).toNatClampNeg)) from fun q => q c)] at kj5
        refine gz_iconst (pc := 42) dX12_fits_42 (v := 0) (by decide) ?_
        refine gz_goto (pc := 43) (tgt := 47) dX12_fits_43 (by decide) ?_
        exact kj5
def f_X12_fits (φ : Nat) (I : gzIT) (a1 : Int32) : Option Int32 := f_X12_fits_4 φ I φ a1 0 0
set_option maxRecDepth 20000 in
theorem c_X12_fits {g : gzG} {d φ : Nat} {a1 : Int32} {I : gzIT} {J : gzJT} {r : Int32} (h : f_X12_fits φ I a1 = some r) : gzC g 0 d mX12_fits [.inr (.inr (0, 47)), .inl a1] (gzN, gzR0, I, J) (gzE (.ok (some (.inl r))) (gzN, gzR0, I, J)) := by
  unfold f_X12_fits at h
  refine gzC_of (by decide +kernel) (Nat.le_of_ble_eq_true rfl) (loc := [some (.inr (.inr (0, 47))), some (.inl a1), none, none]) rfl ?_
  refine gz_iconst (pc := 0) dX12_fits_0 (v := 0) (by decide) ?_
  refine gz_istore_n (pc := 1) dX12_fits_1 (by decide) rfl (loc2 := [some (.inr (.inr (0, 47))), some (.inl a1), some (.inl 0), none]) rfl ?_
  refine gz_iconst (pc := 2) dX12_fits_2 (v := 0) (by decide) ?_
  refine gz_istore_n (pc := 3) dX12_fits_3 (by decide) rfl (loc2 := [some (.inr (.inr (0, 47))), some (.inl a1), some (.inl 0), some (.inl 0)]) rfl ?_
  exact p_X12_fits_4 φ a1 0 0 h
/-! X12_fitting: fitting -/
def gP_X12_fitting_4 (g : gzG) (d : Nat) (r : Int32) (x1 : Int32) (x2 : Int32) (I : gzIT) (J : gzJT) : Prop := gzX g 0 (d + 1) mX12_fitting 4 [some (.inr (.inr (0, 47))), some (.inl x1), some (.inl x2)] [] (gzN, gzR0, I, J) 0 (gzE (.ok (some (.inl r))) (gzN, gzR0, I, J))
def f_X12_fitting_4 (φ : Nat) (I : gzIT) : Nat → Int32 → Int32 → Option Int32
  | 0, _, _ => none
  | k + 1, x1, x2 => if 8 ≤ x2 then (some x1) else (Option.bind (f_X12_fits φ I x2) (fun v2 => if v2 = 0 then (f_X12_fitting_4 φ I k (x1 ||| 0) (x2 + 1)) else (f_X12_fitting_4 φ I k (x1 ||| ((1 : Int32) <<< (x2 &&& 31))) (x2 + 1))))
set_option maxRecDepth 20000 in
theorem p_X12_fitting_4 {g : gzG} {d φ : Nat} {I : gzIT} {J : gzJT} {r : Int32} : ∀ (k : Nat) (x1 : Int32) (x2 : Int32), f_X12_fitting_4 φ I k x1 x2 = some r → gP_X12_fitting_4 g d r x1 x2 I J := by
  intro k; induction k with
  | zero => intro x1 x2 h; cases h
  | succ k ih =>
    intro x1 x2 h
    unfold f_X12_fitting_4 at h
    unfold gP_X12_fitting_4
    have z_0_47 : gzOk 0 47 gzN := gzOk_of (by decide)
    refine gz_iload_n (pc := 4) dX12_fitting_4 rfl ?_
    refine gz_bipush (pc := 5) dX12_fitting_5 (v := 8) (by decide) ?_
    refine gz_ic_ge (pc := 7) (tgt := 34) dX12_fitting_7 (by decide) (fun c => ?_) (fun c => ?_)
    · replace h := gz_ifp c h
      refine gz_iload_n (pc := 34) dX12_fitting_34 rfl ?_
      cases h; exact gz_iret (pc := 35) dX12_fitting_35 rfl ⟨rfl, rfl⟩
    · replace h := gz_ifn c h
      refine gz_iload_n (pc := 10) dX12_fitting_10 rfl ?_
      refine gz_aload_n (pc := 11) dX12_fitting_11 rfl ?_
      refine gz_iload_n (pc := 12) dX12_fitting_12 rfl ?_
      refine gz_V (zy := mX12_fits) (zc := 0) (pc := 13) [.inl x2] rfl dX12_fitting_13 lkX12_402 MvX12_fits rfl z_0_47 rfl rfl rfl (Or.inl rfl) (fun h => h) (by exact Nat.le_of_ble_eq_true rfl) ?_
      obtain ⟨v2, e1, h⟩ := gz_bd h
      refine gz_useI (c_X12_fits e1) ?_
      refine gz_if_eq (pc := 16) (tgt := 25) dX12_fitting_16 (by decide) (fun c => ?_) (fun c => ?_)
      · replace h := gz_ifp c h
        refine gz_iconst (pc := 25) dX12_fitting_25 (v := 0) (by decide) ?_
        refine gz_ior (pc := 26) dX12_fitting_26  ?_
        refine gz_istore_n (pc := 27) dX12_fitting_27 (by decide) rfl (loc2 := [some (.inr (.inr (0, 47))), some (.inl (x1 ||| 0)), some (.inl x2)]) rfl ?_
        refine gz_iinc (pc := 28) dX12_fitting_28 (x := x2) (v := x2 + 1) rfl (by rw [show Int32.ofInt 1 = 1 by decide]) (by decide) rfl (loc2 := [some (.inr (.inr (0, 47))), some (.inl (x1 ||| 0)), some (.inl (x2 + 1))]) rfl ?_
        refine gz_goto (pc := 31) (tgt := 4) dX12_fitting_31 (by decide) ?_
        exact ih (x1 ||| 0) (x2 + 1) h
      · replace h := gz_ifn c h
        refine gz_iconst (pc := 19) dX12_fitting_19 (v := 1) (by decide) ?_
        refine gz_iload_n (pc := 20) dX12_fitting_20 rfl ?_
        refine gz_ishl (pc := 21) dX12_fitting_21  ?_
        refine gz_goto (pc := 22) (tgt := 26) dX12_fitting_22 (by decide) ?_
        refine gz_ior (pc := 26) dX12_fitting_26  ?_
        refine gz_istore_n (pc := 27) dX12_fitting_27 (by decide) rfl (loc2 := [some (.inr (.inr (0, 47))), some (.inl (x1 ||| ((1 : Int32) <<< (x2 &&& 31)))), some (.inl x2)]) rfl ?_
        refine gz_iinc (pc := 28) dX12_fitting_28 (x := x2) (v := x2 + 1) rfl (by rw [show Int32.ofInt 1 = 1 by decide]) (by decide) rfl (loc2 := [some (.inr (.inr (0, 47))), some (.inl (x1 ||| ((1 : Int32) <<< (x2 &&& 31)))), some (.inl (x2 + 1))]) rfl ?_
        refine gz_goto (pc := 31) (tgt := 4) dX12_fitting_31 (by decide) ?_
        exact ih (x1 ||| ((1 : Int32) <<< (x2 &&& 31))) (x2 + 1) h
def f_X12_fitting (φ : Nat) (I : gzIT) : Option Int32 := f_X12_fitting_4 φ I φ 0 0
set_option maxRecDepth 20000 in
theorem c_X12_fitting {g : gzG} {d φ : Nat} {I : gzIT} {J : gzJT} {r : Int32} (h : f_X12_fitting φ I = some r) : gzC g 0 (d + 1) mX12_fitting [.inr (.inr (0, 47))] (gzN, gzR0, I, J) (gzE (.ok (some (.inl r))) (gzN, gzR0, I, J)) := by
  unfold f_X12_fitting at h
  refine gzC_of (by decide +kernel) (Nat.le_of_ble_eq_true rfl) (loc := [some (.inr (.inr (0, 47))), none, none]) rfl ?_
  refine gz_iconst (pc := 0) dX12_fitting_0 (v := 0) (by decide) ?_
  refine gz_istore_n (pc := 1) dX12_fitting_1 (by decide) rfl (loc2 := [some (.inr (.inr (0, 47))), some (.inl 0), none]) rfl ?_
  refine gz_iconst (pc := 2) dX12_fitting_2 (v := 0) (by decide) ?_
  refine gz_istore_n (pc := 3) dX12_fitting_3 (by decide) rfl (loc2 := [some (.inr (.inr (0, 47))), some (.inl 0), some (.inl 0)]) rfl ?_
  exact p_X12_fitting_4 φ 0 0 h
/-! X12_cuts: cuts -/
def gP_X12_cuts_39 (g : gzG) (d : Nat) (r : Int32 × gzIT × gzJT) (x1 : Int32) (x2 : Int32) (x3 : Int32) (x4 : Int32) (x5 : Int32) (I : gzIT) (J : gzJT) : Prop := gzX g 0 (d + 4) mX12_cuts 39 [some (.inr (.inr (0, 47))), some (.inl x1), some (.inl x2), some (.inl x3), some (.inl x4), some (.inl x5), none] [] (gzN, gzR0, I, J) 0 (gzE (.ok (some (.inl r.1))) (gzN, gzR0, r.2.1, r.2.2))
def f_X12_cuts_39 (φ : Nat) : Nat → Int32 → Int32 → Int32 → Int32 → Int32 → gzIT → gzJT → Option (Int32 × gzIT × gzJT)
  | 0, _, _, _, _, _, _, _ => none
  | k + 1, x1, x2, x3, x4, x5, I, J => if 8 ≤ x5 then (some ((if x1 = 0 then (x2 : Int32) else x3), I, J)) else (Option.bind (f_X12_has x2 x5) (fun v12 => if v12 = 0 then (f_X12_cuts_39 φ k x1 x2 (if (-1) ≤ x4 then (x3 : Int32) else x5) (if x4 < (-1) then (-1) else x4) (x5 + 1) I J) else (Option.bind (f_X12_thoseOver φ I x5) (fun v15 => Option.bind (f_J6_bitCount_0f7a4 v15) (fun v17 => f_X12_cuts_39 φ k x1 x2 (if v17 ≤ x4 then (x3 : Int32) else x5) (if x4 < v17 then v17 else x4) (x5 + 1) I J)))))
set_option maxRecDepth 20000 in
theorem p_X12_cuts_39 {g : gzG} {d φ : Nat} {r : Int32 × gzIT × gzJT} : ∀ (k : Nat) (x1 : Int32) (x2 : Int32) (x3 : Int32) (x4 : Int32) (x5 : Int32) (I : gzIT) (J : gzJT), f_X12_cuts_39 φ k x1 x2 x3 x4 x5 I J = some r → gP_X12_cuts_39 g d r x1 x2 x3 x4 x5 I J := by
  intro k; induction k with
  | zero => intro x1 x2 x3 x4 x5 I J h; cases h
  | succ k ih =>
    intro x1 x2 x3 x4 x5 I J h
    unfold f_X12_cuts_39 at h
    unfold gP_X12_cuts_39
    have z_0_47 : gzOk 0 47 gzN := gzOk_of (by decide)
    refine gz_iload (pc := 39) dX12_cuts_39 rfl ?_
    refine gz_bipush (pc := 41) dX12_cuts_41 (v := 8) (by decide) ?_
    refine gz_ic_ge (pc := 43) (tgt := 99) dX12_cuts_43 (by decide) (fun c => ?_) (fun c => ?_)
    · replace h := gz_ifp c h
      refine gz_iload_n (pc := 99) dX12_cuts_99 rfl ?_
      have kj10 : gzX g 0 (d + 4) mX12_cuts 108 [some (.inr (.inr (0, 47))), some (.inl x1), some (.inl x2), some (.inl x3), some (.inl x4), some (.inl x5), none] ([.inl (if x1 = 0 then (x2 : Int32) else x3)]) (gzN, gzR0, I, J) 0 (gzE (.ok (some (.inl r.1))) (gzN, gzR0, r.2.1, r.2.2)) := by
        cases h; exact gz_iret (pc := 108) dX12_cuts_108 rfl ⟨rfl, rfl⟩
      refine gz_if_eq (pc := 100) (tgt := 107) dX12_cuts_100 (by decide) (fun c => ?_) (fun c => ?_)
      · rw [if_pos c] at kj10
        refine gz_iload_n (pc := 107) dX12_cuts_107 rfl ?_
        exact kj10
      · rw [if_neg c] at kj10
        refine gz_iload_n (pc := 103) dX12_cuts_103 rfl ?_
        refine gz_goto (pc := 104) (tgt := 108) dX12_cuts_104 (by decide) ?_
        exact kj10
    · replace h := gz_ifn c h
      refine gz_iload_n (pc := 46) dX12_cuts_46 rfl ?_
      refine gz_iload (pc := 47) dX12_cuts_47 rfl ?_
      refine gz_S (zy := mX12_has) (zc := 0) (pc := 49) [.inl x2, .inl x5] rfl dX12_cuts_49 lkX12_80 MsX12_has rfl (Or.inl rfl) (fun h => h) (by exact Nat.le_of_ble_eq_true rfl) ?_
      obtain ⟨v12, e11, h⟩ := gz_bd h
      refine gz_useI (c_X12_has e11) ?_
      refine gz_if_eq (pc := 52) (tgt := 67) dX12_cuts_52 (by decide) (fun c => ?_) (fun c => ?_)
      · replace h := gz_ifp c h
        refine gz_iconst (pc := 67) dX12_cuts_67 (v := (-1)) (by decide) ?_
        refine gz_istore (pc := 68) dX12_cuts_68 (by decide) rfl (loc2 := [some (.inr (.inr (0, 47))), some (.inl x1), some (.inl x2), some (.inl x3), some (.inl x4), some (.inl x5), some (.inl (-1))]) rfl ?_
        refine gz_iload (pc := 70) dX12_cuts_70 rfl ?_
        refine gz_iload (pc := 72) dX12_cuts_72 rfl ?_
        have kj13 : gzX g 0 (d + 4) mX12_cuts 83 [some (.inr (.inr (0, 47))), some (.inl x1), some (.inl x2), some (.inl x3), some (.inl x4), some (.inl x5), some (.inl (-1))] ([.inl (if (-1) ≤ x4 then (x3 : Int32) else x5)]) (gzN, gzR0, I, J) 0 (gzE (.ok (some (.inl r.1))) (gzN, gzR0, r.2.1, r.2.2)) := by
          refine gz_istore_n (pc := 83) dX12_cuts_83 (by decide) rfl (loc2 := [some (.inr (.inr (0, 47))), some (.inl x1), some (.inl x2), some (.inl (if (-1) ≤ x4 then (x3 : Int32) else x5)), some (.inl x4), some (.inl x5), some (.inl (-1))]) rfl ?_
          refine gz_iload (pc := 84) dX12_cuts_84 rfl ?_
          refine gz_iload (pc := 86) dX12_cuts_86 rfl ?_
          refine gx_X12_310 (pc := 88) dX12_cuts_88 (Nat.le_of_ble_eq_true rfl) rfl ?_
          refine gz_istore (pc := 91) dX12_cuts_91 (by decide) rfl (loc2 := [some (.inr (.inr (0, 47))), some (.inl x1), some (.inl x2), some (.inl (if (-1) ≤ x4 then (x3 : Int32) else x5)), some (.inl (if x4 < (-1) then (-1) else x4)), some (.inl x5), some (.inl (-1))]) rfl ?_
          refine gz_iinc (pc := 93) dX12_cuts_93 (x := x5) (v := x5 + 1) rfl (by rw [show Int32.ofInt 1 = 1 by decide]) (by decide) rfl (loc2 := [some (.inr (.inr (0, 47))), some (.inl x1), some (.inl x2), some (.inl (if (-1) ≤ x4 then (x3 : Int32) else x5)), some (.inl (if x4 < (-1) then (-1) else x4)), some (.inl (x5 + 1)), some (.inl (-1))]) rfl ?_
          refine gz_goto (pc := 96) (tgt := 39) dX12_cuts_96 (by decide) ?_
          exact gz_weak (loc2 := [some (.inr (.inr (0, 47))), some (.inl x1), some (.inl x2), some (.inl (if (-1) ≤ x4 then (x3 : Int32) else x5)), some (.inl (if x4 < (-1) then (-1) else x4)), some (.inl (x5 + 1)), none]) (ih x1 x2 (if (-1) ≤ x4 then (x3 : Int32) else x5) (if x4 < (-1) then (-1) else x4) (x5 + 1) I J h) (by repeat (first | exact trivial | refine ⟨rfl, ?_⟩))
        refine gz_ic_le (pc := 74) (tgt := 82) dX12_cuts_74 (by decide) (fun c => ?_) (fun c => ?_)
        · rw [if_pos c] at kj13
          refine gz_iload_n (pc := 82) dX12_cuts_82 rfl ?_
          exact kj13
        · rw [if_neg c] at kj13
          refine gz_iload (pc := 77) dX12_cuts_77 rfl ?_
          refine gz_goto (pc := 79) (tgt := 83) dX12_cuts_79 (by decide) ?_
          exact kj13
      · replace h := gz_ifn c h
        refine gz_aload_n (pc := 55) dX12_cuts_55 rfl ?_
        refine gz_iload (pc := 56) dX12_cuts_56 rfl ?_
        refine gz_V (zy := mX12_thoseOver) (zc := 0) (pc := 58) [.inl x5] rfl dX12_cuts_58 lkX12_327 MvX12_thoseOver rfl z_0_47 rfl rfl rfl (Or.inl rfl) (fun h => h) (by exact Nat.le_of_ble_eq_true rfl) ?_
        obtain ⟨v15, e14, h⟩ := gz_bd h
        refine gz_useI (c_X12_thoseOver e14) ?_
        refine gz_S (zy := mJ6_bitCount_0f7a4) (zc := 0) (pc := 61) [.inl v15] rfl dX12_cuts_61 lkX12_343 MsJ6_bitCount_0f7a4 rfl (Or.inl rfl) (fun h => h) (by exact Nat.le_of_ble_eq_true rfl) ?_
        obtain ⟨v17, e16, h⟩ := gz_bd h
        refine gz_useI (c_J6_bitCount_0f7a4 e16) ?_
        refine gz_goto (pc := 64) (tgt := 68) dX12_cuts_64 (by decide) ?_
        refine gz_istore (pc := 68) dX12_cuts_68 (by decide) rfl (loc2 := [some (.inr (.inr (0, 47))), some (.inl x1), some (.inl x2), some (.inl x3), some (.inl x4), some (.inl x5), some (.inl v17)]) rfl ?_
        refine gz_iload (pc := 70) dX12_cuts_70 rfl ?_
        refine gz_iload (pc := 72) dX12_cuts_72 rfl ?_
        have kj18 : gzX g 0 (d + 4) mX12_cuts 83 [some (.inr (.inr (0, 47))), some (.inl x1), some (.inl x2), some (.inl x3), some (.inl x4), some (.inl x5), some (.inl v17)] ([.inl (if v17 ≤ x4 then (x3 : Int32) else x5)]) (gzN, gzR0, I, J) 0 (gzE (.ok (some (.inl r.1))) (gzN, gzR0, r.2.1, r.2.2)) := by
          refine gz_istore_n (pc := 83) dX12_cuts_83 (by decide) rfl (loc2 := [some (.inr (.inr (0, 47))), some (.inl x1), some (.inl x2), some (.inl (if v17 ≤ x4 then (x3 : Int32) else x5)), some (.inl x4), some (.inl x5), some (.inl v17)]) rfl ?_
          refine gz_iload (pc := 84) dX12_cuts_84 rfl ?_
          refine gz_iload (pc := 86) dX12_cuts_86 rfl ?_
          refine gx_X12_310 (pc := 88) dX12_cuts_88 (Nat.le_of_ble_eq_true rfl) rfl ?_
          refine gz_istore (pc := 91) dX12_cuts_91 (by decide) rfl (loc2 := [some (.inr (.inr (0, 47))), some (.inl x1), some (.inl x2), some (.inl (if v17 ≤ x4 then (x3 : Int32) else x5)), some (.inl (if x4 < v17 then v17 else x4)), some (.inl x5), some (.inl v17)]) rfl ?_
          refine gz_iinc (pc := 93) dX12_cuts_93 (x := x5) (v := x5 + 1) rfl (by rw [show Int32.ofInt 1 = 1 by decide]) (by decide) rfl (loc2 := [some (.inr (.inr (0, 47))), some (.inl x1), some (.inl x2), some (.inl (if v17 ≤ x4 then (x3 : Int32) else x5)), some (.inl (if x4 < v17 then v17 else x4)), some (.inl (x5 + 1)), some (.inl v17)]) rfl ?_
          refine gz_goto (pc := 96) (tgt := 39) dX12_cuts_96 (by decide) ?_
          exact gz_weak (loc2 := [some (.inr (.inr (0, 47))), some (.inl x1), some (.inl x2), some (.inl (if v17 ≤ x4 then (x3 : Int32) else x5)), some (.inl (if x4 < v17 then v17 else x4)), some (.inl (x5 + 1)), none]) (ih x1 x2 (if v17 ≤ x4 then (x3 : Int32) else x5) (if x4 < v17 then v17 else x4) (x5 + 1) I J h) (by repeat (first | exact trivial | refine ⟨rfl, ?_⟩))
        refine gz_ic_le (pc := 74) (tgt := 82) dX12_cuts_74 (by decide) (fun c => ?_) (fun c => ?_)
        · rw [if_pos c] at kj18
          refine gz_iload_n (pc := 82) dX12_cuts_82 rfl ?_
          exact kj18
        · rw [if_neg c] at kj18
          refine gz_iload (pc := 77) dX12_cuts_77 rfl ?_
          refine gz_goto (pc := 79) (tgt := 83) dX12_cuts_79 (by decide) ?_
          exact kj18
def f_X12_cuts (φ : Nat) (a1 : Int32) (I : gzIT) (J : gzJT) : Option (Int32 × gzIT × gzJT) := Option.bind (f_X12_uses I J) (fun v2 => Option.bind (f_X12_isCut φ v2.2.1) (fun v4 => Option.bind (f_X12_throwsIf (if ¬ v4 = 0 then (0 : Int32) else 1) 1 v2.2.1 v2.2.2) (fun v7 => if v7.1 = 0 then (Option.bind (f_X12_fitting φ v7.2.1) (fun v9 => f_X12_cuts_39 φ φ a1 v9 (-1) (-1) 0 v7.2.1 v7.2.2)) else (some (0, v7.2.1, v7.2.2)))))
set_option maxRecDepth 20000 in
theorem c_X12_cuts {g : gzG} {d φ : Nat} {a1 : Int32} {I : gzIT} {J : gzJT} {r : Int32 × gzIT × gzJT} (h : f_X12_cuts φ a1 I J = some r) : gzC g 0 (d + 4) mX12_cuts [.inr (.inr (0, 47)), .inl a1] (gzN, gzR0, I, J) (gzE (.ok (some (.inl r.1))) (gzN, gzR0, r.2.1, r.2.2)) := by
  unfold f_X12_cuts at h
  refine gzC_of (by decide +kernel) (Nat.le_of_ble_eq_true rfl) (loc := [some (.inr (.inr (0, 47))), some (.inl a1), none, none, none, none, none]) rfl ?_
  have z_0_47 : gzOk 0 47 gzN := gzOk_of (by decide)
  refine gz_aload_n (pc := 0) dX12_cuts_0 rfl ?_
  refine gz_V (zy := mX12_uses) (zc := 0) (pc := 1) [] rfl dX12_cuts_1 lkX12_258 MvX12_uses rfl z_0_47 rfl rfl rfl (Or.inl rfl) (fun h => h) (by exact Nat.le_of_ble_eq_true rfl) ?_
  obtain ⟨v2, e1, h⟩ := gz_bd h
  refine gz_useV (c_X12_uses e1) ?_
  refine gz_aload_n (pc := 4) dX12_cuts_4 rfl ?_
  refine gz_aload_n (pc := 5) dX12_cuts_5 rfl ?_
  refine gz_V (zy := mX12_isCut) (zc := 0) (pc := 6) [] rfl dX12_cuts_6 lkX12_405 MvX12_isCut rfl z_0_47 rfl rfl rfl (Or.inl rfl) (fun h => h) (by exact Nat.le_of_ble_eq_true rfl) ?_
  obtain ⟨v4, e3, h⟩ := gz_bd h
  refine gz_useI (c_X12_isCut e3) ?_
  have kj5 : gzX g 0 (d + 4) mX12_cuts 17 [some (.inr (.inr (0, 47))), some (.inl a1), none, none, none, none, none] ([.inl (if ¬ v4 = 0 then (0 : Int32) else 1), .inr (.inr (0, 47))]) (gzN, gzR0, v2.2.1, v2.2.2) 0 (gzE (.ok (some (.inl r.1))) (gzN, gzR0, r.2.1, r.2.2)) := by
    refine gz_iconst (pc := 17) dX12_cuts_17 (v := 1) (by decide) ?_
    refine gz_V (zy := mX12_throwsIf) (zc := 0) (pc := 18) [.inl (if ¬ v4 = 0 then (0 : Int32) else 1), .inl 1] rfl dX12_cuts_18 lkX12_269 MvX12_throwsIf rfl z_0_47 rfl rfl rfl (Or.inl rfl) (fun h => h) (by exact Nat.le_of_ble_eq_true rfl) ?_
    obtain ⟨v7, e6, h⟩ := gz_bd h
    refine gz_useI (c_X12_throwsIf e6) ?_
    refine gz_if_eq (pc := 21) (tgt := 26) dX12_cuts_21 (by decide) (fun c => ?_) (fun c => ?_)
    · replace h := gz_ifp c h
      refine gz_aload_n (pc := 26) dX12_cuts_26 rfl ?_
      refine gz_V (zy := mX12_fitting) (zc := 0) (pc := 27) [] rfl dX12_cuts_27 lkX12_408 MvX12_fitting rfl z_0_47 rfl rfl rfl (Or.inl rfl) (fun h => h) (by exact Nat.le_of_ble_eq_true rfl) ?_
      obtain ⟨v9, e8, h⟩ := gz_bd h
      refine gz_useI (c_X12_fitting e8) ?_
      refine gz_istore_n (pc := 30) dX12_cuts_30 (by decide) rfl (loc2 := [some (.inr (.inr (0, 47))), some (.inl a1), some (.inl v9), none, none, none, none]) rfl ?_
      refine gz_iconst (pc := 31) dX12_cuts_31 (v := (-1)) (by decide) ?_
      refine gz_istore_n (pc := 32) dX12_cuts_32 (by decide) rfl (loc2 := [some (.inr (.inr (0, 47))), some (.inl a1), some (.inl v9), some (.inl (-1)), none, none, none]) rfl ?_
      refine gz_iconst (pc := 33) dX12_cuts_33 (v := (-1)) (by decide) ?_
      refine gz_istore (pc := 34) dX12_cuts_34 (by decide) rfl (loc2 := [some (.inr (.inr (0, 47))), some (.inl a1), some (.inl v9), some (.inl (-1)), some (.inl (-1)), none, none]) rfl ?_
      refine gz_iconst (pc := 36) dX12_cuts_36 (v := 0) (by decide) ?_
      refine gz_istore (pc := 37) dX12_cuts_37 (by decide) rfl (loc2 := [some (.inr (.inr (0, 47))), some (.inl a1), some (.inl v9), some (.inl (-1)), some (.inl (-1)), some (.inl 0), none]) rfl ?_
      exact p_X12_cuts_39 φ a1 v9 (-1) (-1) 0 v7.2.1 v7.2.2 h
    · replace h := gz_ifn c h
      refine gz_iconst (pc := 24) dX12_cuts_24 (v := 0) (by decide) ?_
      cases h; exact gz_iret (pc := 25) dX12_cuts_25 rfl ⟨rfl, rfl⟩
  refine gz_if_ne (pc := 9) (tgt := 16) dX12_cuts_9 (by decide) (fun c => ?_) (fun c => ?_)
  · rw [if_pos c] at kj5
    refine gz_iconst (pc := 16) dX12_cuts_16 (v := 0) (by decide) ?_
    exact kj5
  · rw [if_neg (show ¬ (¬ v4 = 0) from fun q => q c)] at kj5
    refine gz_iconst (pc := 12) dX12_cuts_12 (v := 1) (by decide) ?_
    refine gz_goto (pc := 13) (tgt := 17) dX12_cuts_13 (by decide) ?_
    exact kj5
/-! X12_ask: ask -/
def gP_X12_ask_75 (g : gzG) (d : Nat) (r : Int32 × gzIT × gzJT) (x1 : Int32) (x2 : Int32) (x3 : Int32) (x4 : Int32) (x5 : Int32) (x6 : Int32) (x7 : Int32) (x8 : Int32) (I : gzIT) (J : gzJT) : Prop := gzX g 0 (d + 2) mX12_ask 75 [some (.inr (.inr (0, 47))), some (.inl x1), some (.inl x2), some (.inl x3), some (.inl x4), some (.inl x5), some (.inl x6), some (.inl x7), some (.inl x8)] [] (gzN, gzR0, I, J) 0 (gzE (.ok (some (.inl r.1))) (gzN, gzR0, r.2.1, r.2.2))
def gP_X12_ask_62 (g : gzG) (d : Nat) (r : Int32 × gzIT × gzJT) (x1 : Int32) (x2 : Int32) (x3 : Int32) (x4 : Int32) (x5 : Int32) (x6 : Int32) (I : gzIT) (J : gzJT) : Prop := gzX g 0 (d + 2) mX12_ask 62 [some (.inr (.inr (0, 47))), some (.inl x1), some (.inl x2), some (.inl x3), some (.inl x4), some (.inl x5), some (.inl x6), none, none] [] (gzN, gzR0, I, J) 0 (gzE (.ok (some (.inl r.1))) (gzN, gzR0, r.2.1, r.2.2))
def gP_X12_ask_50 (g : gzG) (d : Nat) (r : Int32 × gzIT × gzJT) (x1 : Int32) (x2 : Int32) (x3 : Int32) (x4 : Int32) (I : gzIT) (J : gzJT) : Prop := gzX g 0 (d + 2) mX12_ask 50 [some (.inr (.inr (0, 47))), some (.inl x1), some (.inl x2), some (.inl x3), some (.inl x4), none, none, none, none] [] (gzN, gzR0, I, J) 0 (gzE (.ok (some (.inl r.1))) (gzN, gzR0, r.2.1, r.2.2))
def f_X12_ask_75 (φ : Nat) (K50 : Int32 → Int32 → Int32 → Int32 → gzIT → gzJT → Option (Int32 × gzIT × gzJT)) (K62 : Int32 → Int32 → Int32 → Int32 → Int32 → Int32 → gzIT → gzJT → Option (Int32 × gzIT × gzJT)) : Nat → Int32 → Int32 → Int32 → Int32 → Int32 → Int32 → Int32 → Int32 → gzIT → gzJT → Option (Int32 × gzIT × gzJT)
  | 0, _, _, _, _, _, _, _, _, _, _ => none
  | k + 1, x1, x2, x3, x4, x5, x6, x7, x8, I, J => if 8 ≤ x8 then (K62 x1 x2 x3 x4 (if x5 < x7 then x7 else x5) (x6 + 1) I J) else (Option.bind (f_X12_has x1 x8) (fun v14 => if v14 = 0 then (f_X12_ask_75 φ K50 K62 k x1 x2 x3 x4 x5 x6 (x7 + 0) (x8 + 1) I J) else (gzGd ((14 + (2 * x8)) + x4) 2062 (if ¬ I 0 48 (((14 + (2 * x8)) + x4).toNatClampNeg) = x6 then (f_X12_ask_75 φ K50 K62 k x1 x2 x3 x4 x5 x6 (x7 + 0) (x8 + 1) I J) else (f_X12_ask_75 φ K50 K62 k x1 x2 x3 x4 x5 x6 (x7 + 1) (x8 + 1) I J)))))
set_option maxRecDepth 20000 in
theorem p_X12_ask_75 {g : gzG} {d φ : Nat} {r : Int32 × gzIT × gzJT} {K50 : Int32 → Int32 → Int32 → Int32 → gzIT → gzJT → Option (Int32 × gzIT × gzJT)} {K62 : Int32 → Int32 → Int32 → Int32 → Int32 → Int32 → gzIT → gzJT → Option (Int32 × gzIT × gzJT)} (hK50 : ∀ (x1 : Int32) (x2 : Int32) (x3 : Int32) (x4 : Int32) (I : gzIT) (J : gzJT), K50 x1 x2 x3 x4 I J = some r → gP_X12_ask_50 g d r x1 x2 x3 x4 I J) (hK62 : ∀ (x1 : Int32) (x2 : Int32) (x3 : Int32) (x4 : Int32) (x5 : Int32) (x6 : Int32) (I : gzIT) (J : gzJT), K62 x1 x2 x3 x4 x5 x6 I J = some r → gP_X12_ask_62 g d r x1 x2 x3 x4 x5 x6 I J) : ∀ (k : Nat) (x1 : Int32) (x2 : Int32) (x3 : Int32) (x4 : Int32) (x5 : Int32) (x6 : Int32) (x7 : Int32) (x8 : Int32) (I : gzIT) (J : gzJT), f_X12_ask_75 φ K50 K62 k x1 x2 x3 x4 x5 x6 x7 x8 I J = some r → gP_X12_ask_75 g d r x1 x2 x3 x4 x5 x6 x7 x8 I J := by
  intro k; induction k with
  | zero => intro x1 x2 x3 x4 x5 x6 x7 x8 I J h; cases h
  | succ k ih =>
    intro x1 x2 x3 x4 x5 x6 x7 x8 I J h
    unfold f_X12_ask_75 at h
    unfold gP_X12_ask_75
    have z_0_47 : gzOk 0 47 gzN := gzOk_of (by decide)
    have z_0_48 : gzOk 0 48 gzN := gzOk_of (by decide)
    refine gz_iload (pc := 75) dX12_ask_75 rfl ?_
    refine gz_bipush (pc := 77) dX12_ask_77 (v := 8) (by decide) ?_
    refine gz_ic_ge (pc := 79) (tgt := 127) dX12_ask_79 (by decide) (fun c => ?_) (fun c => ?_)
    · replace h := gz_ifp c h
      refine gz_iload (pc := 127) dX12_ask_127 rfl ?_
      refine gz_iload (pc := 129) dX12_ask_129 rfl ?_
      refine gx_X12_310 (pc := 131) dX12_ask_131 (Nat.le_of_ble_eq_true rfl) rfl ?_
      refine gz_istore (pc := 134) dX12_ask_134 (by decide) rfl (loc2 := [some (.inr (.inr (0, 47))), some (.inl x1), some (.inl x2), some (.inl x3), some (.inl x4), some (.inl (if x5 < x7 then x7 else x5)), some (.inl x6), some (.inl x7), some (.inl x8)]) rfl ?_
      refine gz_iinc (pc := 136) dX12_ask_136 (x := x6) (v := x6 + 1) rfl (by rw [show Int32.ofInt 1 = 1 by decide]) (by decide) rfl (loc2 := [some (.inr (.inr (0, 47))), some (.inl x1), some (.inl x2), some (.inl x3), some (.inl x4), some (.inl (if x5 < x7 then x7 else x5)), some (.inl (x6 + 1)), some (.inl x7), some (.inl x8)]) rfl ?_
      refine gz_goto (pc := 139) (tgt := 62) dX12_ask_139 (by decide) ?_
      exact gz_weak (loc2 := [some (.inr (.inr (0, 47))), some (.inl x1), some (.inl x2), some (.inl x3), some (.inl x4), some (.inl (if x5 < x7 then x7 else x5)), some (.inl (x6 + 1)), none, none]) (hK62 x1 x2 x3 x4 (if x5 < x7 then x7 else x5) (x6 + 1) I J h) (by repeat (first | exact trivial | refine ⟨rfl, ?_⟩))
    · replace h := gz_ifn c h
      refine gz_iload (pc := 82) dX12_ask_82 rfl ?_
      refine gz_iload_n (pc := 84) dX12_ask_84 rfl ?_
      refine gz_iload (pc := 85) dX12_ask_85 rfl ?_
      refine gz_S (zy := mX12_has) (zc := 0) (pc := 87) [.inl x1, .inl x8] rfl dX12_ask_87 lkX12_80 MsX12_has rfl (Or.inl rfl) (fun h => h) (by exact Nat.le_of_ble_eq_true rfl) ?_
      obtain ⟨v14, e13, h⟩ := gz_bd h
      refine gz_useI (c_X12_has e13) ?_
      refine gz_if_eq (pc := 90) (tgt := 117) dX12_ask_90 (by decide) (fun c => ?_) (fun c => ?_)
      · replace h := gz_ifp c h
        refine gz_iconst (pc := 117) dX12_ask_117 (v := 0) (by decide) ?_
        refine gz_iadd (pc := 118) dX12_ask_118  ?_
        refine gz_istore (pc := 119) dX12_ask_119 (by decide) rfl (loc2 := [some (.inr (.inr (0, 47))), some (.inl x1), some (.inl x2), some (.inl x3), some (.inl x4), some (.inl x5), some (.inl x6), some (.inl (x7 + 0)), some (.inl x8)]) rfl ?_
        refine gz_iinc (pc := 121) dX12_ask_121 (x := x8) (v := x8 + 1) rfl (by rw [show Int32.ofInt 1 = 1 by decide]) (by decide) rfl (loc2 := [some (.inr (.inr (0, 47))), some (.inl x1), some (.inl x2), some (.inl x3), some (.inl x4), some (.inl x5), some (.inl x6), some (.inl (x7 + 0)), some (.inl (x8 + 1))]) rfl ?_
        refine gz_goto (pc := 124) (tgt := 75) dX12_ask_124 (by decide) ?_
        exact ih x1 x2 x3 x4 x5 x6 (x7 + 0) (x8 + 1) I J h
      · replace h := gz_ifn c h
        refine gz_aload_n (pc := 93) dX12_ask_93 rfl ?_
        refine gr_X12_13 (pc := 94) dX12_ask_94 z_0_47 rfl ?_
        refine gz_bipush (pc := 97) dX12_ask_97 (v := 14) (by decide) ?_
        refine gz_iconst (pc := 99) dX12_ask_99 (v := 2) (by decide) ?_
        refine gz_iload (pc := 100) dX12_ask_100 rfl ?_
        refine gz_imul (pc := 102) dX12_ask_102  ?_
        refine gz_iadd (pc := 103) dX12_ask_103  ?_
        refine gz_iload (pc := 104) dX12_ask_104 rfl ?_
        refine gz_iadd (pc := 106) dX12_ask_106  ?_
        obtain ⟨b15, h⟩ := gz_gd h
        refine gz_iald2 (pc := 107) dX12_ask_107 (k := ((14 + (2 * x8)) + x4).toNatClampNeg) (v := I 0 48 (((14 + (2 * x8)) + x4).toNatClampNeg)) z_0_48 rfl b15 rfl rfl ?_
        refine gz_iload (pc := 108) dX12_ask_108 rfl ?_
        refine gz_ic_ne (pc := 110) (tgt := 117) dX12_ask_110 (by decide) (fun c => ?_) (fun c => ?_)
        · replace h := gz_ifp c h
          refine gz_iconst (pc := 117) dX12_ask_117 (v := 0) (by decide) ?_
          refine gz_iadd (pc := 118) dX12_ask_118  ?_
          refine gz_istore (pc := 119) dX12_ask_119 (by decide) rfl (loc2 := [some (.inr (.inr (0, 47))), some (.inl x1), some (.inl x2), some (.inl x3), some (.inl x4), some (.inl x5), some (.inl x6), some (.inl (x7 + 0)), some (.inl x8)]) rfl ?_
          refine gz_iinc (pc := 121) dX12_ask_121 (x := x8) (v := x8 + 1) rfl (by rw [show Int32.ofInt 1 = 1 by decide]) (by decide) rfl (loc2 := [some (.inr (.inr (0, 47))), some (.inl x1), some (.inl x2), some (.inl x3), some (.inl x4), some (.inl x5), some (.inl x6), some (.inl (x7 + 0)), some (.inl (x8 + 1))]) rfl ?_
          refine gz_goto (pc := 124) (tgt := 75) dX12_ask_124 (by decide) ?_
          exact ih x1 x2 x3 x4 x5 x6 (x7 + 0) (x8 + 1) I J h
        · replace h := gz_ifn (fun q => q c) h
          refine gz_iconst (pc := 113) dX12_ask_113 (v := 1) (by decide) ?_
          refine gz_goto (pc := 114) (tgt := 118) dX12_ask_114 (by decide) ?_
          refine gz_iadd (pc := 118) dX12_ask_118  ?_
          refine gz_istore (pc := 119) dX12_ask_119 (by decide) rfl (loc2 := [some (.inr (.inr (0, 47))), some (.inl x1), some (.inl x2), some (.inl x3), some (.inl x4), some (.inl x5), some (.inl x6), some (.inl (x7 + 1)), some (.inl x8)]) rfl ?_
          refine gz_iinc (pc := 121) dX12_ask_121 (x := x8) (v := x8 + 1) rfl (by rw [show Int32.ofInt 1 = 1 by decide]) (by decide) rfl (loc2 := [some (.inr (.inr (0, 47))), some (.inl x1), some (.inl x2), some (.inl x3), some (.inl x4), some (.inl x5), some (.inl x6), some (.inl (x7 + 1)), some (.inl (x8 + 1))]) rfl ?_
          refine gz_goto (pc := 124) (tgt := 75) dX12_ask_124 (by decide) ?_
          exact ih x1 x2 x3 x4 x5 x6 (x7 + 1) (x8 + 1) I J h
def f_X12_ask_62 (φ : Nat) (K50 : Int32 → Int32 → Int32 → Int32 → gzIT → gzJT → Option (Int32 × gzIT × gzJT)) : Nat → Int32 → Int32 → Int32 → Int32 → Int32 → Int32 → gzIT → gzJT → Option (Int32 × gzIT × gzJT)
  | 0, _, _, _, _, _, _, _, _ => none
  | k + 1, x1, x2, x3, x4, x5, x6, I, J => if 9 < x6 then (K50 x1 (if x3 ≤ x5 then (x2 : Int32) else x4) (if x5 < x3 then x5 else x3) (x4 + 1) I J) else (f_X12_ask_75 φ K50 (f_X12_ask_62 φ K50 k) φ x1 x2 x3 x4 x5 x6 0 0 I J)
set_option maxRecDepth 20000 in
theorem p_X12_ask_62 {g : gzG} {d φ : Nat} {r : Int32 × gzIT × gzJT} {K50 : Int32 → Int32 → Int32 → Int32 → gzIT → gzJT → Option (Int32 × gzIT × gzJT)} (hK50 : ∀ (x1 : Int32) (x2 : Int32) (x3 : Int32) (x4 : Int32) (I : gzIT) (J : gzJT), K50 x1 x2 x3 x4 I J = some r → gP_X12_ask_50 g d r x1 x2 x3 x4 I J) : ∀ (k : Nat) (x1 : Int32) (x2 : Int32) (x3 : Int32) (x4 : Int32) (x5 : Int32) (x6 : Int32) (I : gzIT) (J : gzJT), f_X12_ask_62 φ K50 k x1 x2 x3 x4 x5 x6 I J = some r → gP_X12_ask_62 g d r x1 x2 x3 x4 x5 x6 I J := by
  intro k; induction k with
  | zero => intro x1 x2 x3 x4 x5 x6 I J h; cases h
  | succ k ih =>
    intro x1 x2 x3 x4 x5 x6 I J h
    unfold f_X12_ask_62 at h
    unfold gP_X12_ask_62
    refine gz_iload (pc := 62) dX12_ask_62 rfl ?_
    refine gz_bipush (pc := 64) dX12_ask_64 (v := 9) (by decide) ?_
    refine gz_ic_gt (pc := 66) (tgt := 142) dX12_ask_66 (by decide) (fun c => ?_) (fun c => ?_)
    · replace h := gz_ifp c h
      refine gz_iload (pc := 142) dX12_ask_142 rfl ?_
      refine gz_iload_n (pc := 144) dX12_ask_144 rfl ?_
      have kj12 : gzX g 0 (d + 2) mX12_ask 154 [some (.inr (.inr (0, 47))), some (.inl x1), some (.inl x2), some (.inl x3), some (.inl x4), some (.inl x5), some (.inl x6), none, none] ([.inl (if x3 ≤ x5 then (x2 : Int32) else x4)]) (gzN, gzR0, I, J) 0 (gzE (.ok (some (.inl r.1))) (gzN, gzR0, r.2.1, r.2.2)) := by
        refine gz_istore_n (pc := 154) dX12_ask_154 (by decide) rfl (loc2 := [some (.inr (.inr (0, 47))), some (.inl x1), some (.inl (if x3 ≤ x5 then (x2 : Int32) else x4)), some (.inl x3), some (.inl x4), some (.inl x5), some (.inl x6), none, none]) rfl ?_
        refine gz_iload_n (pc := 155) dX12_ask_155 rfl ?_
        refine gz_iload (pc := 156) dX12_ask_156 rfl ?_
        refine gn_X12_330 (pc := 158) dX12_ask_158 (Nat.le_of_ble_eq_true rfl) rfl ?_
        refine gz_istore_n (pc := 161) dX12_ask_161 (by decide) rfl (loc2 := [some (.inr (.inr (0, 47))), some (.inl x1), some (.inl (if x3 ≤ x5 then (x2 : Int32) else x4)), some (.inl (if x5 < x3 then x5 else x3)), some (.inl x4), some (.inl x5), some (.inl x6), none, none]) rfl ?_
        refine gz_iinc (pc := 162) dX12_ask_162 (x := x4) (v := x4 + 1) rfl (by rw [show Int32.ofInt 1 = 1 by decide]) (by decide) rfl (loc2 := [some (.inr (.inr (0, 47))), some (.inl x1), some (.inl (if x3 ≤ x5 then (x2 : Int32) else x4)), some (.inl (if x5 < x3 then x5 else x3)), some (.inl (x4 + 1)), some (.inl x5), some (.inl x6), none, none]) rfl ?_
        refine gz_goto (pc := 165) (tgt := 50) dX12_ask_165 (by decide) ?_
        exact gz_weak (loc2 := [some (.inr (.inr (0, 47))), some (.inl x1), some (.inl (if x3 ≤ x5 then (x2 : Int32) else x4)), some (.inl (if x5 < x3 then x5 else x3)), some (.inl (x4 + 1)), none, none, none, none]) (hK50 x1 (if x3 ≤ x5 then (x2 : Int32) else x4) (if x5 < x3 then x5 else x3) (x4 + 1) I J h) (by repeat (first | exact trivial | refine ⟨rfl, ?_⟩))
      refine gz_ic_ge (pc := 145) (tgt := 153) dX12_ask_145 (by decide) (fun c => ?_) (fun c => ?_)
      · rw [if_pos c] at kj12
        refine gz_iload_n (pc := 153) dX12_ask_153 rfl ?_
        exact kj12
      · rw [if_neg c] at kj12
        refine gz_iload (pc := 148) dX12_ask_148 rfl ?_
        refine gz_goto (pc := 150) (tgt := 154) dX12_ask_150 (by decide) ?_
        exact kj12
    · replace h := gz_ifn c h
      refine gz_iconst (pc := 69) dX12_ask_69 (v := 0) (by decide) ?_
      refine gz_istore (pc := 70) dX12_ask_70 (by decide) rfl (loc2 := [some (.inr (.inr (0, 47))), some (.inl x1), some (.inl x2), some (.inl x3), some (.inl x4), some (.inl x5), some (.inl x6), some (.inl 0), none]) rfl ?_
      refine gz_iconst (pc := 72) dX12_ask_72 (v := 0) (by decide) ?_
      refine gz_istore (pc := 73) dX12_ask_73 (by decide) rfl (loc2 := [some (.inr (.inr (0, 47))), some (.inl x1), some (.inl x2), some (.inl x3), some (.inl x4), some (.inl x5), some (.inl x6), some (.inl 0), some (.inl 0)]) rfl ?_
      exact p_X12_ask_75 hK50 ih φ x1 x2 x3 x4 x5 x6 0 0 I J h
def f_X12_ask_50 (φ : Nat) : Nat → Int32 → Int32 → Int32 → Int32 → gzIT → gzJT → Option (Int32 × gzIT × gzJT)
  | 0, _, _, _, _, _, _ => none
  | k + 1, x1, x2, x3, x4, I, J => if 2 ≤ x4 then (some (x2, I, J)) else (f_X12_ask_62 φ (f_X12_ask_50 φ k) φ x1 x2 x3 x4 0 0 I J)
set_option maxRecDepth 20000 in
theorem p_X12_ask_50 {g : gzG} {d φ : Nat} {r : Int32 × gzIT × gzJT} : ∀ (k : Nat) (x1 : Int32) (x2 : Int32) (x3 : Int32) (x4 : Int32) (I : gzIT) (J : gzJT), f_X12_ask_50 φ k x1 x2 x3 x4 I J = some r → gP_X12_ask_50 g d r x1 x2 x3 x4 I J := by
  intro k; induction k with
  | zero => intro x1 x2 x3 x4 I J h; cases h
  | succ k ih =>
    intro x1 x2 x3 x4 I J h
    unfold f_X12_ask_50 at h
    unfold gP_X12_ask_50
    refine gz_iload (pc := 50) dX12_ask_50 rfl ?_
    refine gz_iconst (pc := 52) dX12_ask_52 (v := 2) (by decide) ?_
    refine gz_ic_ge (pc := 53) (tgt := 168) dX12_ask_53 (by decide) (fun c => ?_) (fun c => ?_)
    · replace h := gz_ifp c h
      refine gz_iload_n (pc := 168) dX12_ask_168 rfl ?_
      cases h; exact gz_iret (pc := 169) dX12_ask_169 rfl ⟨rfl, rfl⟩
    · replace h := gz_ifn c h
      refine gz_iconst (pc := 56) dX12_ask_56 (v := 0) (by decide) ?_
      refine gz_istore (pc := 57) dX12_ask_57 (by decide) rfl (loc2 := [some (.inr (.inr (0, 47))), some (.inl x1), some (.inl x2), some (.inl x3), some (.inl x4), some (.inl 0), none, none, none]) rfl ?_
      refine gz_iconst (pc := 59) dX12_ask_59 (v := 0) (by decide) ?_
      refine gz_istore (pc := 60) dX12_ask_60 (by decide) rfl (loc2 := [some (.inr (.inr (0, 47))), some (.inl x1), some (.inl x2), some (.inl x3), some (.inl x4), some (.inl 0), some (.inl 0), none, none]) rfl ?_
      exact p_X12_ask_62 ih φ x1 x2 x3 x4 0 0 I J h
def f_X12_ask (φ : Nat) (I : gzIT) (J : gzJT) : Option (Int32 × gzIT × gzJT) := Option.bind (f_X12_uses I J) (fun v2 => Option.bind (f_X12_isCut φ v2.2.1) (fun v4 => Option.bind (f_X12_throwsIf (if ¬ v4 = 0 then (0 : Int32) else 1) 1 v2.2.1 v2.2.2) (fun v7 => if v7.1 = 0 then (Option.bind (f_X12_fitting φ v7.2.1) (fun v9 => Option.bind (f_J6_bitCount_0f7a4 v9) (fun v11 => if 2 ≤ v11 then (f_X12_ask_50 φ φ v9 (-1) 1000000 0 v7.2.1 v7.2.2) else (some ((-1), v7.2.1, v7.2.2))))) else (some (0, v7.2.1, v7.2.2)))))
set_option maxRecDepth 20000 in
theorem c_X12_ask {g : gzG} {d φ : Nat} {I : gzIT} {J : gzJT} {r : Int32 × gzIT × gzJT} (h : f_X12_ask φ I J = some r) : gzC g 0 (d + 2) mX12_ask [.inr (.inr (0, 47))] (gzN, gzR0, I, J) (gzE (.ok (some (.inl r.1))) (gzN, gzR0, r.2.1, r.2.2)) := by
  unfold f_X12_ask at h
  refine gzC_of (by decide +kernel) (Nat.le_of_ble_eq_true rfl) (loc := [some (.inr (.inr (0, 47))), none, none, none, none, none, none, none, none]) rfl ?_
  have z_0_47 : gzOk 0 47 gzN := gzOk_of (by decide)
  refine gz_aload_n (pc := 0) dX12_ask_0 rfl ?_
  refine gz_V (zy := mX12_uses) (zc := 0) (pc := 1) [] rfl dX12_ask_1 lkX12_258 MvX12_uses rfl z_0_47 rfl rfl rfl (Or.inl rfl) (fun h => h) (by exact Nat.le_of_ble_eq_true rfl) ?_
  obtain ⟨v2, e1, h⟩ := gz_bd h
  refine gz_useV (c_X12_uses e1) ?_
  refine gz_aload_n (pc := 4) dX12_ask_4 rfl ?_
  refine gz_aload_n (pc := 5) dX12_ask_5 rfl ?_
  refine gz_V (zy := mX12_isCut) (zc := 0) (pc := 6) [] rfl dX12_ask_6 lkX12_405 MvX12_isCut rfl z_0_47 rfl rfl rfl (Or.inl rfl) (fun h => h) (by exact Nat.le_of_ble_eq_true rfl) ?_
  obtain ⟨v4, e3, h⟩ := gz_bd h
  refine gz_useI (c_X12_isCut e3) ?_
  have kj5 : gzX g 0 (d + 2) mX12_ask 17 [some (.inr (.inr (0, 47))), none, none, none, none, none, none, none, none] ([.inl (if ¬ v4 = 0 then (0 : Int32) else 1), .inr (.inr (0, 47))]) (gzN, gzR0, v2.2.1, v2.2.2) 0 (gzE (.ok (some (.inl r.1))) (gzN, gzR0, r.2.1, r.2.2)) := by
    refine gz_iconst (pc := 17) dX12_ask_17 (v := 1) (by decide) ?_
    refine gz_V (zy := mX12_throwsIf) (zc := 0) (pc := 18) [.inl (if ¬ v4 = 0 then (0 : Int32) else 1), .inl 1] rfl dX12_ask_18 lkX12_269 MvX12_throwsIf rfl z_0_47 rfl rfl rfl (Or.inl rfl) (fun h => h) (by exact Nat.le_of_ble_eq_true rfl) ?_
    obtain ⟨v7, e6, h⟩ := gz_bd h
    refine gz_useI (c_X12_throwsIf e6) ?_
    refine gz_if_eq (pc := 21) (tgt := 26) dX12_ask_21 (by decide) (fun c => ?_) (fun c => ?_)
    · replace h := gz_ifp c h
      refine gz_aload_n (pc := 26) dX12_ask_26 rfl ?_
      refine gz_V (zy := mX12_fitting) (zc := 0) (pc := 27) [] rfl dX12_ask_27 lkX12_408 MvX12_fitting rfl z_0_47 rfl rfl rfl (Or.inl rfl) (fun h => h) (by exact Nat.le_of_ble_eq_true rfl) ?_
      obtain ⟨v9, e8, h⟩ := gz_bd h
      refine gz_useI (c_X12_fitting e8) ?_
      refine gz_istore_n (pc := 30) dX12_ask_30 (by decide) rfl (loc2 := [some (.inr (.inr (0, 47))), some (.inl v9), none, none, none, none, none, none, none]) rfl ?_
      refine gz_iload_n (pc := 31) dX12_ask_31 rfl ?_
      refine gz_S (zy := mJ6_bitCount_0f7a4) (zc := 0) (pc := 32) [.inl v9] rfl dX12_ask_32 lkX12_343 MsJ6_bitCount_0f7a4 rfl (Or.inl rfl) (fun h => h) (by exact Nat.le_of_ble_eq_true rfl) ?_
      obtain ⟨v11, e10, h⟩ := gz_bd h
      refine gz_useI (c_J6_bitCount_0f7a4 e10) ?_
      refine gz_iconst (pc := 35) dX12_ask_35 (v := 2) (by decide) ?_
      refine gz_ic_ge (pc := 36) (tgt := 41) dX12_ask_36 (by decide) (fun c => ?_) (fun c => ?_)
      · replace h := gz_ifp c h
        refine gz_iconst (pc := 41) dX12_ask_41 (v := (-1)) (by decide) ?_
        refine gz_istore_n (pc := 42) dX12_ask_42 (by decide) rfl (loc2 := [some (.inr (.inr (0, 47))), some (.inl v9), some (.inl (-1)), none, none, none, none, none, none]) rfl ?_
        refine gz_ldcw (pc := 43) dX12_ask_43 kcX12_377.1 kcX12_377.2 ?_
        refine gz_istore_n (pc := 46) dX12_ask_46 (by decide) rfl (loc2 := [some (.inr (.inr (0, 47))), some (.inl v9), some (.inl (-1)), some (.inl 1000000), none, none, none, none, none]) rfl ?_
        refine gz_iconst (pc := 47) dX12_ask_47 (v := 0) (by decide) ?_
        refine gz_istore (pc := 48) dX12_ask_48 (by decide) rfl (loc2 := [some (.inr (.inr (0, 47))), some (.inl v9), some (.inl (-1)), some (.inl 1000000), some (.inl 0), none, none, none, none]) rfl ?_
        exact p_X12_ask_50 φ v9 (-1) 1000000 0 v7.2.1 v7.2.2 h
      · replace h := gz_ifn c h
        refine gz_iconst (pc := 39) dX12_ask_39 (v := (-1)) (by decide) ?_
        cases h; exact gz_iret (pc := 40) dX12_ask_40 rfl ⟨rfl, rfl⟩
    · replace h := gz_ifn c h
      refine gz_iconst (pc := 24) dX12_ask_24 (v := 0) (by decide) ?_
      cases h; exact gz_iret (pc := 25) dX12_ask_25 rfl ⟨rfl, rfl⟩
  refine gz_if_ne (pc := 9) (tgt := 16) dX12_ask_9 (by decide) (fun c => ?_) (fun c => ?_)
  · rw [if_pos c] at kj5
    refine gz_iconst (pc := 16) dX12_ask_16 (v := 0) (by decide) ?_
    exact kj5
  · rw [if_neg (show ¬ (¬ v4 = 0) from fun q => q c)] at kj5
    refine gz_iconst (pc := 12) dX12_ask_12 (v := 1) (by decide) ?_
    refine gz_goto (pc := 13) (tgt := 17) dX12_ask_13 (by decide) ?_
    exact kj5
/-! X12_rota: rota -/
def gP_X12_rota_19 (g : gzG) (d : Nat) (r : Int32 × gzIT × gzJT) (x1 : Int32) (x2 : Int32) (I : gzIT) (J : gzJT) : Prop := gzX g 0 (d + 4) mX12_rota 19 [some (.inr (.inr (0, 47))), some (.inl x1), some (.inl x2)] [] (gzN, gzR0, I, J) 0 (gzE (.ok (some (.inl r.1))) (gzN, gzR0, r.2.1, r.2.2))
def f_X12_rota_19 (φ : Nat) : Nat → Int32 → Int32 → gzIT → gzJT → Option (Int32 × gzIT × gzJT)
  | 0, _, _, _, _ => none
  | k + 1, x1, x2, I, J => Option.bind (f_X12_families I) (fun v4 => if v4 ≤ x2 then (some (((x1 + 1) / 2), I, J)) else (Option.bind (f_X12_standing φ I) (fun v7 => Option.bind (f_X12_quarrelsOf φ I x2 v7) (fun v9 => f_X12_rota_19 φ k (x1 + (if ¬ v9 = 0 then (0 : Int32) else 1)) (x2 + 1) I J))))
set_option maxRecDepth 20000 in
theorem p_X12_rota_19 {g : gzG} {d φ : Nat} {r : Int32 × gzIT × gzJT} : ∀ (k : Nat) (x1 : Int32) (x2 : Int32) (I : gzIT) (J : gzJT), f_X12_rota_19 φ k x1 x2 I J = some r → gP_X12_rota_19 g d r x1 x2 I J := by
  intro k; induction k with
  | zero => intro x1 x2 I J h; cases h
  | succ k ih =>
    intro x1 x2 I J h
    unfold f_X12_rota_19 at h
    unfold gP_X12_rota_19
    have z_0_47 : gzOk 0 47 gzN := gzOk_of (by decide)
    refine gz_iload_n (pc := 19) dX12_rota_19 rfl ?_
    refine gz_aload_n (pc := 20) dX12_rota_20 rfl ?_
    refine gz_V (zy := mX12_families) (zc := 0) (pc := 21) [] rfl dX12_rota_21 lkX12_59 MvX12_families rfl z_0_47 rfl rfl rfl (Or.inl rfl) (fun h => h) (by exact Nat.le_of_ble_eq_true rfl) ?_
    obtain ⟨v4, e3, h⟩ := gz_bd h
    refine gz_useI (c_X12_families e3) ?_
    refine gz_ic_ge (pc := 24) (tgt := 53) dX12_rota_24 (by decide) (fun c => ?_) (fun c => ?_)
    · replace h := gz_ifp c h
      refine gz_iload_n (pc := 53) dX12_rota_53 rfl ?_
      refine gz_iconst (pc := 54) dX12_rota_54 (v := 1) (by decide) ?_
      refine gz_iadd (pc := 55) dX12_rota_55  ?_
      refine gz_iconst (pc := 56) dX12_rota_56 (v := 2) (by decide) ?_
      refine gz_idiv (pc := 57) dX12_rota_57 (by decide) ?_
      cases h; exact gz_iret (pc := 58) dX12_rota_58 rfl ⟨rfl, rfl⟩
    · replace h := gz_ifn c h
      refine gz_iload_n (pc := 27) dX12_rota_27 rfl ?_
      refine gz_aload_n (pc := 28) dX12_rota_28 rfl ?_
      refine gz_iload_n (pc := 29) dX12_rota_29 rfl ?_
      refine gz_aload_n (pc := 30) dX12_rota_30 rfl ?_
      refine gz_V (zy := mX12_standing) (zc := 0) (pc := 31) [] rfl dX12_rota_31 lkX12_291 MvX12_standing rfl z_0_47 rfl rfl rfl (Or.inl rfl) (fun h => h) (by exact Nat.le_of_ble_eq_true rfl) ?_
      obtain ⟨v7, e6, h⟩ := gz_bd h
      refine gz_useI (c_X12_standing e6) ?_
      refine gz_V (zy := mX12_quarrelsOf) (zc := 0) (pc := 34) [.inl x2, .inl v7] rfl dX12_rota_34 lkX12_393 MvX12_quarrelsOf rfl z_0_47 rfl rfl rfl (Or.inl rfl) (fun h => h) (by exact Nat.le_of_ble_eq_true rfl) ?_
      obtain ⟨v9, e8, h⟩ := gz_bd h
      refine gz_useI (c_X12_quarrelsOf e8) ?_
      have kj10 : gzX g 0 (d + 4) mX12_rota 45 [some (.inr (.inr (0, 47))), some (.inl x1), some (.inl x2)] ([.inl (if ¬ v9 = 0 then (0 : Int32) else 1), .inl x1]) (gzN, gzR0, I, J) 0 (gzE (.ok (some (.inl r.1))) (gzN, gzR0, r.2.1, r.2.2)) := by
        refine gz_iadd (pc := 45) dX12_rota_45  ?_
        refine gz_istore_n (pc := 46) dX12_rota_46 (by decide) rfl (loc2 := [some (.inr (.inr (0, 47))), some (.inl (x1 + (if ¬ v9 = 0 then (0 : Int32) else 1))), some (.inl x2)]) rfl ?_
        refine gz_iinc (pc := 47) dX12_rota_47 (x := x2) (v := x2 + 1) rfl (by rw [show Int32.ofInt 1 = 1 by decide]) (by decide) rfl (loc2 := [some (.inr (.inr (0, 47))), some (.inl (x1 + (if ¬ v9 = 0 then (0 : Int32) else 1))), some (.inl (x2 + 1))]) rfl ?_
        refine gz_goto (pc := 50) (tgt := 19) dX12_rota_50 (by decide) ?_
        exact ih (x1 + (if ¬ v9 = 0 then (0 : Int32) else 1)) (x2 + 1) I J h
      refine gz_if_ne (pc := 37) (tgt := 44) dX12_rota_37 (by decide) (fun c => ?_) (fun c => ?_)
      · rw [if_pos c] at kj10
        refine gz_iconst (pc := 44) dX12_rota_44 (v := 0) (by decide) ?_
        exact kj10
      · rw [if_neg (show ¬ (¬ v9 = 0) from fun q => q c)] at kj10
        refine gz_iconst (pc := 40) dX12_rota_40 (v := 1) (by decide) ?_
        refine gz_goto (pc := 41) (tgt := 45) dX12_rota_41 (by decide) ?_
        exact kj10
def f_X12_rota (φ : Nat) (I : gzIT) (J : gzJT) : Option (Int32 × gzIT × gzJT) := Option.bind (f_X12_families (gz_ui I 0 47 0 0)) (fun v2 => if ¬ v2 = 1 then (f_X12_rota_19 φ φ 0 0 (gz_ui I 0 47 0 0) J) else (some ((-1), gz_ui I 0 47 0 0, J)))
set_option maxRecDepth 20000 in
theorem c_X12_rota {g : gzG} {d φ : Nat} {I : gzIT} {J : gzJT} {r : Int32 × gzIT × gzJT} (h : f_X12_rota φ I J = some r) : gzC g 0 (d + 4) mX12_rota [.inr (.inr (0, 47))] (gzN, gzR0, I, J) (gzE (.ok (some (.inl r.1))) (gzN, gzR0, r.2.1, r.2.2)) := by
  unfold f_X12_rota at h
  refine gzC_of (by decide +kernel) (Nat.le_of_ble_eq_true rfl) (loc := [some (.inr (.inr (0, 47))), none, none]) rfl ?_
  have z_0_47 : gzOk 0 47 gzN := gzOk_of (by decide)
  refine gz_aload_n (pc := 0) dX12_rota_0 rfl ?_
  refine gz_iconst (pc := 1) dX12_rota_1 (v := 0) (by decide) ?_
  refine gp_X12_3 (pc := 2) dX12_rota_2 z_0_47 rfl ?_
  refine gz_aload_n (pc := 5) dX12_rota_5 rfl ?_
  refine gz_V (zy := mX12_families) (zc := 0) (pc := 6) [] rfl dX12_rota_6 lkX12_59 MvX12_families rfl z_0_47 rfl rfl rfl (Or.inl rfl) (fun h => h) (by exact Nat.le_of_ble_eq_true rfl) ?_
  obtain ⟨v2, e1, h⟩ := gz_bd h
  refine gz_useI (c_X12_families e1) ?_
  refine gz_iconst (pc := 9) dX12_rota_9 (v := 1) (by decide) ?_
  refine gz_ic_ne (pc := 10) (tgt := 15) dX12_rota_10 (by decide) (fun c => ?_) (fun c => ?_)
  · replace h := gz_ifp c h
    refine gz_iconst (pc := 15) dX12_rota_15 (v := 0) (by decide) ?_
    refine gz_istore_n (pc := 16) dX12_rota_16 (by decide) rfl (loc2 := [some (.inr (.inr (0, 47))), some (.inl 0), none]) rfl ?_
    refine gz_iconst (pc := 17) dX12_rota_17 (v := 0) (by decide) ?_
    refine gz_istore_n (pc := 18) dX12_rota_18 (by decide) rfl (loc2 := [some (.inr (.inr (0, 47))), some (.inl 0), some (.inl 0)]) rfl ?_
    exact p_X12_rota_19 φ 0 0 (gz_ui I 0 47 0 0) J h
  · replace h := gz_ifn (fun q => q c) h
    refine gz_iconst (pc := 13) dX12_rota_13 (v := (-1)) (by decide) ?_
    cases h; exact gz_iret (pc := 14) dX12_rota_14 rfl ⟨rfl, rfl⟩
/-! X12_oneStep: oneStep -/
def gP_X12_oneStep_5 (g : gzG) (d : Nat) (r : Int32) (x1 : Int32) (x2 : Int32) (x3 : Int32) (x4 : Int32) (I : gzIT) (J : gzJT) : Prop := gzX g 0 (d + 4) mX12_oneStep 5 [some (.inr (.inr (0, 47))), some (.inl x1), some (.inl x2), some (.inl x3), some (.inl x4)] [] (gzN, gzR0, I, J) 0 (gzE (.ok (some (.inl r))) (gzN, gzR0, I, J))
def f_X12_oneStep_5 (φ : Nat) (I : gzIT) : Nat → Int32 → Int32 → Int32 → Int32 → Option Int32
  | 0, _, _, _, _ => none
  | k + 1, x1, x2, x3, x4 => Option.bind (f_X12_families I) (fun v2 => if v2 ≤ x4 then (some x3) else (Option.bind (f_X12_has x1 x4) (fun v4 => if v4 = 0 then (f_X12_oneStep_5 φ I k x1 x2 (x3 ||| 0) (x4 + 1)) else (Option.bind (f_X12_quarrelsOf φ I x4 x2) (fun v6 => f_X12_oneStep_5 φ I k x1 x2 (x3 ||| v6) (x4 + 1))))))
set_option maxRecDepth 20000 in
theorem p_X12_oneStep_5 {g : gzG} {d φ : Nat} {I : gzIT} {J : gzJT} {r : Int32} : ∀ (k : Nat) (x1 : Int32) (x2 : Int32) (x3 : Int32) (x4 : Int32), f_X12_oneStep_5 φ I k x1 x2 x3 x4 = some r → gP_X12_oneStep_5 g d r x1 x2 x3 x4 I J := by
  intro k; induction k with
  | zero => intro x1 x2 x3 x4 h; cases h
  | succ k ih =>
    intro x1 x2 x3 x4 h
    unfold f_X12_oneStep_5 at h
    unfold gP_X12_oneStep_5
    have z_0_47 : gzOk 0 47 gzN := gzOk_of (by decide)
    refine gz_iload (pc := 5) dX12_oneStep_5 rfl ?_
    refine gz_aload_n (pc := 7) dX12_oneStep_7 rfl ?_
    refine gz_V (zy := mX12_families) (zc := 0) (pc := 8) [] rfl dX12_oneStep_8 lkX12_59 MvX12_families rfl z_0_47 rfl rfl rfl (Or.inl rfl) (fun h => h) (by exact Nat.le_of_ble_eq_true rfl) ?_
    obtain ⟨v2, e1, h⟩ := gz_bd h
    refine gz_useI (c_X12_families e1) ?_
    refine gz_ic_ge (pc := 11) (tgt := 43) dX12_oneStep_11 (by decide) (fun c => ?_) (fun c => ?_)
    · replace h := gz_ifp c h
      refine gz_iload_n (pc := 43) dX12_oneStep_43 rfl ?_
      cases h; exact gz_iret (pc := 44) dX12_oneStep_44 rfl ⟨rfl, rfl⟩
    · replace h := gz_ifn c h
      refine gz_iload_n (pc := 14) dX12_oneStep_14 rfl ?_
      refine gz_iload_n (pc := 15) dX12_oneStep_15 rfl ?_
      refine gz_iload (pc := 16) dX12_oneStep_16 rfl ?_
      refine gz_S (zy := mX12_has) (zc := 0) (pc := 18) [.inl x1, .inl x4] rfl dX12_oneStep_18 lkX12_80 MsX12_has rfl (Or.inl rfl) (fun h => h) (by exact Nat.le_of_ble_eq_true rfl) ?_
      obtain ⟨v4, e3, h⟩ := gz_bd h
      refine gz_useI (c_X12_has e3) ?_
      refine gz_if_eq (pc := 21) (tgt := 34) dX12_oneStep_21 (by decide) (fun c => ?_) (fun c => ?_)
      · replace h := gz_ifp c h
        refine gz_iconst (pc := 34) dX12_oneStep_34 (v := 0) (by decide) ?_
        refine gz_ior (pc := 35) dX12_oneStep_35  ?_
        refine gz_istore_n (pc := 36) dX12_oneStep_36 (by decide) rfl (loc2 := [some (.inr (.inr (0, 47))), some (.inl x1), some (.inl x2), some (.inl (x3 ||| 0)), some (.inl x4)]) rfl ?_
        refine gz_iinc (pc := 37) dX12_oneStep_37 (x := x4) (v := x4 + 1) rfl (by rw [show Int32.ofInt 1 = 1 by decide]) (by decide) rfl (loc2 := [some (.inr (.inr (0, 47))), some (.inl x1), some (.inl x2), some (.inl (x3 ||| 0)), some (.inl (x4 + 1))]) rfl ?_
        refine gz_goto (pc := 40) (tgt := 5) dX12_oneStep_40 (by decide) ?_
        exact ih x1 x2 (x3 ||| 0) (x4 + 1) h
      · replace h := gz_ifn c h
        refine gz_aload_n (pc := 24) dX12_oneStep_24 rfl ?_
        refine gz_iload (pc := 25) dX12_oneStep_25 rfl ?_
        refine gz_iload_n (pc := 27) dX12_oneStep_27 rfl ?_
        refine gz_V (zy := mX12_quarrelsOf) (zc := 0) (pc := 28) [.inl x4, .inl x2] rfl dX12_oneStep_28 lkX12_393 MvX12_quarrelsOf rfl z_0_47 rfl rfl rfl (Or.inl rfl) (fun h => h) (by exact Nat.le_of_ble_eq_true rfl) ?_
        obtain ⟨v6, e5, h⟩ := gz_bd h
        refine gz_useI (c_X12_quarrelsOf e5) ?_
        refine gz_goto (pc := 31) (tgt := 35) dX12_oneStep_31 (by decide) ?_
        refine gz_ior (pc := 35) dX12_oneStep_35  ?_
        refine gz_istore_n (pc := 36) dX12_oneStep_36 (by decide) rfl (loc2 := [some (.inr (.inr (0, 47))), some (.inl x1), some (.inl x2), some (.inl (x3 ||| v6)), some (.inl x4)]) rfl ?_
        refine gz_iinc (pc := 37) dX12_oneStep_37 (x := x4) (v := x4 + 1) rfl (by rw [show Int32.ofInt 1 = 1 by decide]) (by decide) rfl (loc2 := [some (.inr (.inr (0, 47))), some (.inl x1), some (.inl x2), some (.inl (x3 ||| v6)), some (.inl (x4 + 1))]) rfl ?_
        refine gz_goto (pc := 40) (tgt := 5) dX12_oneStep_40 (by decide) ?_
        exact ih x1 x2 (x3 ||| v6) (x4 + 1) h
def f_X12_oneStep (φ : Nat) (I : gzIT) (a1 : Int32) (a2 : Int32) : Option Int32 := f_X12_oneStep_5 φ I φ a1 a2 a1 0
set_option maxRecDepth 20000 in
theorem c_X12_oneStep {g : gzG} {d φ : Nat} {a1 : Int32} {a2 : Int32} {I : gzIT} {J : gzJT} {r : Int32} (h : f_X12_oneStep φ I a1 a2 = some r) : gzC g 0 (d + 4) mX12_oneStep [.inr (.inr (0, 47)), .inl a1, .inl a2] (gzN, gzR0, I, J) (gzE (.ok (some (.inl r))) (gzN, gzR0, I, J)) := by
  unfold f_X12_oneStep at h
  refine gzC_of (by decide +kernel) (Nat.le_of_ble_eq_true rfl) (loc := [some (.inr (.inr (0, 47))), some (.inl a1), some (.inl a2), none, none]) rfl ?_
  refine gz_iload_n (pc := 0) dX12_oneStep_0 rfl ?_
  refine gz_istore_n (pc := 1) dX12_oneStep_1 (by decide) rfl (loc2 := [some (.inr (.inr (0, 47))), some (.inl a1), some (.inl a2), some (.inl a1), none]) rfl ?_
  refine gz_iconst (pc := 2) dX12_oneStep_2 (v := 0) (by decide) ?_
  refine gz_istore (pc := 3) dX12_oneStep_3 (by decide) rfl (loc2 := [some (.inr (.inr (0, 47))), some (.inl a1), some (.inl a2), some (.inl a1), some (.inl 0)]) rfl ?_
  exact p_X12_oneStep_5 φ a1 a2 a1 0 h
/-! X12_feudOf: feudOf -/
def gP_X12_feudOf_7 (g : gzG) (d : Nat) (r : Int32) (x2 : Int32) (x3 : Int32) (x4 : Int32) (I : gzIT) (J : gzJT) : Prop := gzX g 0 (d + 5) mX12_feudOf 7 [some (.inr (.inr (0, 47))), none, some (.inl x2), some (.inl x3), some (.inl x4)] [] (gzN, gzR0, I, J) 0 (gzE (.ok (some (.inl r))) (gzN, gzR0, I, J))
def f_X12_feudOf_7 (φ : Nat) (I : gzIT) : Nat → Int32 → Int32 → Int32 → Option Int32
  | 0, _, _, _ => none
  | k + 1, x2, x3, x4 => if 6 ≤ x4 then (some x3) else (Option.bind (f_X12_oneStep φ I x3 x2) (fun v2 => f_X12_feudOf_7 φ I k x2 v2 (x4 + 1)))
set_option maxRecDepth 20000 in
theorem p_X12_feudOf_7 {g : gzG} {d φ : Nat} {I : gzIT} {J : gzJT} {r : Int32} : ∀ (k : Nat) (x2 : Int32) (x3 : Int32) (x4 : Int32), f_X12_feudOf_7 φ I k x2 x3 x4 = some r → gP_X12_feudOf_7 g d r x2 x3 x4 I J := by
  intro k; induction k with
  | zero => intro x2 x3 x4 h; cases h
  | succ k ih =>
    intro x2 x3 x4 h
    unfold f_X12_feudOf_7 at h
    unfold gP_X12_feudOf_7
    have z_0_47 : gzOk 0 47 gzN := gzOk_of (by decide)
    refine gz_iload (pc := 7) dX12_feudOf_7 rfl ?_
    refine gz_bipush (pc := 9) dX12_feudOf_9 (v := 6) (by decide) ?_
    refine gz_ic_ge (pc := 11) (tgt := 27) dX12_feudOf_11 (by decide) (fun c => ?_) (fun c => ?_)
    · replace h := gz_ifp c h
      refine gz_iload_n (pc := 27) dX12_feudOf_27 rfl ?_
      cases h; exact gz_iret (pc := 28) dX12_feudOf_28 rfl ⟨rfl, rfl⟩
    · replace h := gz_ifn c h
      refine gz_aload_n (pc := 14) dX12_feudOf_14 rfl ?_
      refine gz_iload_n (pc := 15) dX12_feudOf_15 rfl ?_
      refine gz_iload_n (pc := 16) dX12_feudOf_16 rfl ?_
      refine gz_V (zy := mX12_oneStep) (zc := 0) (pc := 17) [.inl x3, .inl x2] rfl dX12_feudOf_17 lkX12_411 MvX12_oneStep rfl z_0_47 rfl rfl rfl (Or.inl rfl) (fun h => h) (by exact Nat.le_of_ble_eq_true rfl) ?_
      obtain ⟨v2, e1, h⟩ := gz_bd h
      refine gz_useI (c_X12_oneStep e1) ?_
      refine gz_istore_n (pc := 20) dX12_feudOf_20 (by decide) rfl (loc2 := [some (.inr (.inr (0, 47))), none, some (.inl x2), some (.inl v2), some (.inl x4)]) rfl ?_
      refine gz_iinc (pc := 21) dX12_feudOf_21 (x := x4) (v := x4 + 1) rfl (by rw [show Int32.ofInt 1 = 1 by decide]) (by decide) rfl (loc2 := [some (.inr (.inr (0, 47))), none, some (.inl x2), some (.inl v2), some (.inl (x4 + 1))]) rfl ?_
      refine gz_goto (pc := 24) (tgt := 7) dX12_feudOf_24 (by decide) ?_
      exact ih x2 v2 (x4 + 1) h
def f_X12_feudOf (φ : Nat) (I : gzIT) (a1 : Int32) (a2 : Int32) : Option Int32 := f_X12_feudOf_7 φ I φ a2 ((1 : Int32) <<< (a1 &&& 31)) 0
set_option maxRecDepth 20000 in
theorem c_X12_feudOf {g : gzG} {d φ : Nat} {a1 : Int32} {a2 : Int32} {I : gzIT} {J : gzJT} {r : Int32} (h : f_X12_feudOf φ I a1 a2 = some r) : gzC g 0 (d + 5) mX12_feudOf [.inr (.inr (0, 47)), .inl a1, .inl a2] (gzN, gzR0, I, J) (gzE (.ok (some (.inl r))) (gzN, gzR0, I, J)) := by
  unfold f_X12_feudOf at h
  refine gzC_of (by decide +kernel) (Nat.le_of_ble_eq_true rfl) (loc := [some (.inr (.inr (0, 47))), some (.inl a1), some (.inl a2), none, none]) rfl ?_
  refine gz_iconst (pc := 0) dX12_feudOf_0 (v := 1) (by decide) ?_
  refine gz_iload_n (pc := 1) dX12_feudOf_1 rfl ?_
  refine gz_ishl (pc := 2) dX12_feudOf_2  ?_
  refine gz_istore_n (pc := 3) dX12_feudOf_3 (by decide) rfl (loc2 := [some (.inr (.inr (0, 47))), some (.inl a1), some (.inl a2), some (.inl ((1 : Int32) <<< (a1 &&& 31))), none]) rfl ?_
  refine gz_iconst (pc := 4) dX12_feudOf_4 (v := 0) (by decide) ?_
  refine gz_istore (pc := 5) dX12_feudOf_5 (by decide) rfl (loc2 := [some (.inr (.inr (0, 47))), some (.inl a1), some (.inl a2), some (.inl ((1 : Int32) <<< (a1 &&& 31))), some (.inl 0)]) rfl ?_
  exact gz_weak (loc2 := [some (.inr (.inr (0, 47))), none, some (.inl a2), some (.inl ((1 : Int32) <<< (a1 &&& 31))), some (.inl 0)]) (p_X12_feudOf_7 φ a2 ((1 : Int32) <<< (a1 &&& 31)) 0 h) (by repeat (first | exact trivial | refine ⟨rfl, ?_⟩))
/-! X12_steps: steps -/
def gP_X12_steps_43 (g : gzG) (d : Nat) (r : Int32 × gzIT × gzJT) (x2 : Int32) (x3 : Int32) (x4 : Int32) (I : gzIT) (J : gzJT) : Prop := gzX g 0 (d + 5) mX12_steps 43 [some (.inr (.inr (0, 47))), none, some (.inl x2), some (.inl x3), some (.inl x4)] [] (gzN, gzR0, I, J) 0 (gzE (.ok (some (.inl r.1))) (gzN, gzR0, r.2.1, r.2.2))
def f_X12_steps_43 (φ : Nat) : Nat → Int32 → Int32 → Int32 → gzIT → gzJT → Option (Int32 × gzIT × gzJT)
  | 0, _, _, _, _, _ => none
  | k + 1, x2, x3, x4, I, J => if 6 ≤ x4 then (some ((-1), I, J)) else (Option.bind (f_X12_has x3 x2) (fun v11 => if v11 = 0 then (Option.bind (f_X12_standing φ I) (fun v13 => Option.bind (f_X12_oneStep φ I x3 v13) (fun v15 => f_X12_steps_43 φ k x2 v15 (x4 + 1) I J))) else (some (x4, I, J))))
set_option maxRecDepth 20000 in
theorem p_X12_steps_43 {g : gzG} {d φ : Nat} {r : Int32 × gzIT × gzJT} : ∀ (k : Nat) (x2 : Int32) (x3 : Int32) (x4 : Int32) (I : gzIT) (J : gzJT), f_X12_steps_43 φ k x2 x3 x4 I J = some r → gP_X12_steps_43 g d r x2 x3 x4 I J := by
  intro k; induction k with
  | zero => intro x2 x3 x4 I J h; cases h
  | succ k ih =>
    intro x2 x3 x4 I J h
    unfold f_X12_steps_43 at h
    unfold gP_X12_steps_43
    have z_0_47 : gzOk 0 47 gzN := gzOk_of (by decide)
    refine gz_iload (pc := 43) dX12_steps_43 rfl ?_
    refine gz_bipush (pc := 45) dX12_steps_45 (v := 6) (by decide) ?_
    refine gz_ic_ge (pc := 47) (tgt := 77) dX12_steps_47 (by decide) (fun c => ?_) (fun c => ?_)
    · replace h := gz_ifp c h
      refine gz_iconst (pc := 77) dX12_steps_77 (v := (-1)) (by decide) ?_
      cases h; exact gz_iret (pc := 78) dX12_steps_78 rfl ⟨rfl, rfl⟩
    · replace h := gz_ifn c h
      refine gz_iload_n (pc := 50) dX12_steps_50 rfl ?_
      refine gz_iload_n (pc := 51) dX12_steps_51 rfl ?_
      refine gz_S (zy := mX12_has) (zc := 0) (pc := 52) [.inl x3, .inl x2] rfl dX12_steps_52 lkX12_80 MsX12_has rfl (Or.inl rfl) (fun h => h) (by exact Nat.le_of_ble_eq_true rfl) ?_
      obtain ⟨v11, e10, h⟩ := gz_bd h
      refine gz_useI (c_X12_has e10) ?_
      refine gz_if_eq (pc := 55) (tgt := 61) dX12_steps_55 (by decide) (fun c => ?_) (fun c => ?_)
      · replace h := gz_ifp c h
        refine gz_aload_n (pc := 61) dX12_steps_61 rfl ?_
        refine gz_iload_n (pc := 62) dX12_steps_62 rfl ?_
        refine gz_aload_n (pc := 63) dX12_steps_63 rfl ?_
        refine gz_V (zy := mX12_standing) (zc := 0) (pc := 64) [] rfl dX12_steps_64 lkX12_291 MvX12_standing rfl z_0_47 rfl rfl rfl (Or.inl rfl) (fun h => h) (by exact Nat.le_of_ble_eq_true rfl) ?_
        obtain ⟨v13, e12, h⟩ := gz_bd h
        refine gz_useI (c_X12_standing e12) ?_
        refine gz_V (zy := mX12_oneStep) (zc := 0) (pc := 67) [.inl x3, .inl v13] rfl dX12_steps_67 lkX12_411 MvX12_oneStep rfl z_0_47 rfl rfl rfl (Or.inl rfl) (fun h => h) (by exact Nat.le_of_ble_eq_true rfl) ?_
        obtain ⟨v15, e14, h⟩ := gz_bd h
        refine gz_useI (c_X12_oneStep e14) ?_
        refine gz_istore_n (pc := 70) dX12_steps_70 (by decide) rfl (loc2 := [some (.inr (.inr (0, 47))), none, some (.inl x2), some (.inl v15), some (.inl x4)]) rfl ?_
        refine gz_iinc (pc := 71) dX12_steps_71 (x := x4) (v := x4 + 1) rfl (by rw [show Int32.ofInt 1 = 1 by decide]) (by decide) rfl (loc2 := [some (.inr (.inr (0, 47))), none, some (.inl x2), some (.inl v15), some (.inl (x4 + 1))]) rfl ?_
        refine gz_goto (pc := 74) (tgt := 43) dX12_steps_74 (by decide) ?_
        exact ih x2 v15 (x4 + 1) I J h
      · replace h := gz_ifn c h
        refine gz_iload (pc := 58) dX12_steps_58 rfl ?_
        cases h; exact gz_iret (pc := 60) dX12_steps_60 rfl ⟨rfl, rfl⟩
def f_X12_steps (φ : Nat) (a1 : Int32) (a2 : Int32) (I : gzIT) (J : gzJT) : Option (Int32 × gzIT × gzJT) := Option.bind (f_X12_noFamily (gz_ui I 0 47 0 0) a1) (fun v2 => if ¬ v2 = 0 then (Option.bind (f_X12_throwsIf 1 1 (gz_ui I 0 47 0 0) J) (fun v4 => if v4.1 = 0 then (f_X12_steps_43 φ φ a2 ((1 : Int32) <<< (a1 &&& 31)) 0 v4.2.1 v4.2.2) else (some (0, v4.2.1, v4.2.2)))) else (Option.bind (f_X12_noFamily (gz_ui I 0 47 0 0) a2) (fun v6 => Option.bind (f_X12_throwsIf (if v6 = 0 then (0 : Int32) else 1) 1 (gz_ui I 0 47 0 0) J) (fun v9 => if v9.1 = 0 then (f_X12_steps_43 φ φ a2 ((1 : Int32) <<< (a1 &&& 31)) 0 v9.2.1 v9.2.2) else (some (0, v9.2.1, v9.2.2))))))
set_option maxRecDepth 20000 in
theorem c_X12_steps {g : gzG} {d φ : Nat} {a1 : Int32} {a2 : Int32} {I : gzIT} {J : gzJT} {r : Int32 × gzIT × gzJT} (h : f_X12_steps φ a1 a2 I J = some r) : gzC g 0 (d + 5) mX12_steps [.inr (.inr (0, 47)), .inl a1, .inl a2] (gzN, gzR0, I, J) (gzE (.ok (some (.inl r.1))) (gzN, gzR0, r.2.1, r.2.2)) := by
  unfold f_X12_steps at h
  refine gzC_of (by decide +kernel) (Nat.le_of_ble_eq_true rfl) (loc := [some (.inr (.inr (0, 47))), some (.inl a1), some (.inl a2), none, none]) rfl ?_
  have z_0_47 : gzOk 0 47 gzN := gzOk_of (by decide)
  refine gz_aload_n (pc := 0) dX12_steps_0 rfl ?_
  refine gz_iconst (pc := 1) dX12_steps_1 (v := 0) (by decide) ?_
  refine gp_X12_3 (pc := 2) dX12_steps_2 z_0_47 rfl ?_
  refine gz_aload_n (pc := 5) dX12_steps_5 rfl ?_
  refine gz_aload_n (pc := 6) dX12_steps_6 rfl ?_
  refine gz_iload_n (pc := 7) dX12_steps_7 rfl ?_
  refine gz_V (zy := mX12_noFamily) (zc := 0) (pc := 8) [.inl a1] rfl dX12_steps_8 lkX12_301 MvX12_noFamily rfl z_0_47 rfl rfl rfl (Or.inl rfl) (fun h => h) (by exact Nat.le_of_ble_eq_true rfl) ?_
  obtain ⟨v2, e1, h⟩ := gz_bd h
  refine gz_useI (c_X12_noFamily e1) ?_
  refine gz_if_ne (pc := 11) (tgt := 22) dX12_steps_11 (by decide) (fun c => ?_) (fun c => ?_)
  · replace h := gz_ifp c h
    refine gz_iconst (pc := 22) dX12_steps_22 (v := 1) (by decide) ?_
    refine gz_goto (pc := 23) (tgt := 27) dX12_steps_23 (by decide) ?_
    refine gz_iconst (pc := 27) dX12_steps_27 (v := 1) (by decide) ?_
    refine gz_V (zy := mX12_throwsIf) (zc := 0) (pc := 28) [.inl 1, .inl 1] rfl dX12_steps_28 lkX12_269 MvX12_throwsIf rfl z_0_47 rfl rfl rfl (Or.inl rfl) (fun h => h) (by exact Nat.le_of_ble_eq_true rfl) ?_
    obtain ⟨v4, e3, h⟩ := gz_bd h
    refine gz_useI (c_X12_throwsIf e3) ?_
    refine gz_if_eq (pc := 31) (tgt := 36) dX12_steps_31 (by decide) (fun c => ?_) (fun c => ?_)
    · replace h := gz_ifp c h
      refine gz_iconst (pc := 36) dX12_steps_36 (v := 1) (by decide) ?_
      refine gz_iload_n (pc := 37) dX12_steps_37 rfl ?_
      refine gz_ishl (pc := 38) dX12_steps_38  ?_
      refine gz_istore_n (pc := 39) dX12_steps_39 (by decide) rfl (loc2 := [some (.inr (.inr (0, 47))), some (.inl a1), some (.inl a2), some (.inl ((1 : Int32) <<< (a1 &&& 31))), none]) rfl ?_
      refine gz_iconst (pc := 40) dX12_steps_40 (v := 0) (by decide) ?_
      refine gz_istore (pc := 41) dX12_steps_41 (by decide) rfl (loc2 := [some (.inr (.inr (0, 47))), some (.inl a1), some (.inl a2), some (.inl ((1 : Int32) <<< (a1 &&& 31))), some (.inl 0)]) rfl ?_
      exact gz_weak (loc2 := [some (.inr (.inr (0, 47))), none, some (.inl a2), some (.inl ((1 : Int32) <<< (a1 &&& 31))), some (.inl 0)]) (p_X12_steps_43 φ a2 ((1 : Int32) <<< (a1 &&& 31)) 0 v4.2.1 v4.2.2 h) (by repeat (first | exact trivial | refine ⟨rfl, ?_⟩))
    · replace h := gz_ifn c h
      refine gz_iconst (pc := 34) dX12_steps_34 (v := 0) (by decide) ?_
      cases h; exact gz_iret (pc := 35) dX12_steps_35 rfl ⟨rfl, rfl⟩
  · replace h := gz_ifn (fun q => q c) h
    refine gz_aload_n (pc := 14) dX12_steps_14 rfl ?_
    refine gz_iload_n (pc := 15) dX12_steps_15 rfl ?_
    refine gz_V (zy := mX12_noFamily) (zc := 0) (pc := 16) [.inl a2] rfl dX12_steps_16 lkX12_301 MvX12_noFamily rfl z_0_47 rfl rfl rfl (Or.inl rfl) (fun h => h) (by exact Nat.le_of_ble_eq_true rfl) ?_
    obtain ⟨v6, e5, h⟩ := gz_bd h
    refine gz_useI (c_X12_noFamily e5) ?_
    have kj7 : gzX g 0 (d + 5) mX12_steps 27 [some (.inr (.inr (0, 47))), some (.inl a1), some (.inl a2), none, none] ([.inl (if v6 = 0 then (0 : Int32) else 1), .inr (.inr (0, 47))]) (gzN, gzR0, gz_ui I 0 47 0 0, J) 0 (gzE (.ok (some (.inl r.1))) (gzN, gzR0, r.2.1, r.2.2)) := by
      refine gz_iconst (pc := 27) dX12_steps_27 (v := 1) (by decide) ?_
      refine gz_V (zy := mX12_throwsIf) (zc := 0) (pc := 28) [.inl (if v6 = 0 then (0 : Int32) else 1), .inl 1] rfl dX12_steps_28 lkX12_269 MvX12_throwsIf rfl z_0_47 rfl rfl rfl (Or.inl rfl) (fun h => h) (by exact Nat.le_of_ble_eq_true rfl) ?_
      obtain ⟨v9, e8, h⟩ := gz_bd h
      refine gz_useI (c_X12_throwsIf e8) ?_
      refine gz_if_eq (pc := 31) (tgt := 36) dX12_steps_31 (by decide) (fun c => ?_) (fun c => ?_)
      · replace h := gz_ifp c h
        refine gz_iconst (pc := 36) dX12_steps_36 (v := 1) (by decide) ?_
        refine gz_iload_n (pc := 37) dX12_steps_37 rfl ?_
        refine gz_ishl (pc := 38) dX12_steps_38  ?_
        refine gz_istore_n (pc := 39) dX12_steps_39 (by decide) rfl (loc2 := [some (.inr (.inr (0, 47))), some (.inl a1), some (.inl a2), some (.inl ((1 : Int32) <<< (a1 &&& 31))), none]) rfl ?_
        refine gz_iconst (pc := 40) dX12_steps_40 (v := 0) (by decide) ?_
        refine gz_istore (pc := 41) dX12_steps_41 (by decide) rfl (loc2 := [some (.inr (.inr (0, 47))), some (.inl a1), some (.inl a2), some (.inl ((1 : Int32) <<< (a1 &&& 31))), some (.inl 0)]) rfl ?_
        exact gz_weak (loc2 := [some (.inr (.inr (0, 47))), none, some (.inl a2), some (.inl ((1 : Int32) <<< (a1 &&& 31))), some (.inl 0)]) (p_X12_steps_43 φ a2 ((1 : Int32) <<< (a1 &&& 31)) 0 v9.2.1 v9.2.2 h) (by repeat (first | exact trivial | refine ⟨rfl, ?_⟩))
      · replace h := gz_ifn c h
        refine gz_iconst (pc := 34) dX12_steps_34 (v := 0) (by decide) ?_
        cases h; exact gz_iret (pc := 35) dX12_steps_35 rfl ⟨rfl, rfl⟩
    refine gz_if_eq (pc := 19) (tgt := 26) dX12_steps_19 (by decide) (fun c => ?_) (fun c => ?_)
    · rw [if_pos c] at kj7
      refine gz_iconst (pc := 26) dX12_steps_26 (v := 0) (by decide) ?_
      exact kj7
    · rw [if_neg c] at kj7
      refine gz_iconst (pc := 22) dX12_steps_22 (v := 1) (by decide) ?_
      refine gz_goto (pc := 23) (tgt := 27) dX12_steps_23 (by decide) ?_
      exact kj7
/-! X12_scornedBy: scornedBy -/
def gP_X12_scornedBy_4 (g : gzG) (d : Nat) (r : Int32) (x1 : Int32) (x2 : Int32) (x3 : Int32) (I : gzIT) (J : gzJT) : Prop := gzX g 0 (d + 3) mX12_scornedBy 4 [some (.inr (.inr (0, 47))), some (.inl x1), some (.inl x2), some (.inl x3)] [] (gzN, gzR0, I, J) 0 (gzE (.ok (some (.inl r))) (gzN, gzR0, I, J))
def f_X12_scornedBy_4 (φ : Nat) (I : gzIT) : Nat → Int32 → Int32 → Int32 → Option Int32
  | 0, _, _, _ => none
  | k + 1, x1, x2, x3 => Option.bind (f_X12_grudges I) (fun v2 => if v2 ≤ x3 then (some x2) else (Option.bind (f_X12_isThawed I x3) (fun v4 => if ¬ v4 = 0 then (f_X12_scornedBy_4 φ I k x1 (x2 ||| 0) (x3 + 1)) else (Option.bind (f_X12_of I x3 0) (fun v6 => Option.bind (f_X12_has x1 v6) (fun v8 => if v8 = 0 then (f_X12_scornedBy_4 φ I k x1 (x2 ||| 0) (x3 + 1)) else (Option.bind (f_X12_of I x3 1) (fun v10 => f_X12_scornedBy_4 φ I k x1 (x2 ||| ((1 : Int32) <<< (v10 &&& 31))) (x3 + 1)))))))))
set_option maxRecDepth 20000 in
theorem p_X12_scornedBy_4 {g : gzG} {d φ : Nat} {I : gzIT} {J : gzJT} {r : Int32} : ∀ (k : Nat) (x1 : Int32) (x2 : Int32) (x3 : Int32), f_X12_scornedBy_4 φ I k x1 x2 x3 = some r → gP_X12_scornedBy_4 g d r x1 x2 x3 I J := by
  intro k; induction k with
  | zero => intro x1 x2 x3 h; cases h
  | succ k ih =>
    intro x1 x2 x3 h
    unfold f_X12_scornedBy_4 at h
    unfold gP_X12_scornedBy_4
    have z_0_47 : gzOk 0 47 gzN := gzOk_of (by decide)
    refine gz_iload_n (pc := 4) dX12_scornedBy_4 rfl ?_
    refine gz_aload_n (pc := 5) dX12_scornedBy_5 rfl ?_
    refine gz_V (zy := mX12_grudges) (zc := 0) (pc := 6) [] rfl dX12_scornedBy_6 lkX12_73 MvX12_grudges rfl z_0_47 rfl rfl rfl (Or.inl rfl) (fun h => h) (by exact Nat.le_of_ble_eq_true rfl) ?_
    obtain ⟨v2, e1, h⟩ := gz_bd h
    refine gz_useI (c_X12_grudges e1) ?_
    refine gz_ic_ge (pc := 9) (tgt := 54) dX12_scornedBy_9 (by decide) (fun c => ?_) (fun c => ?_)
    · replace h := gz_ifp c h
      refine gz_iload_n (pc := 54) dX12_scornedBy_54 rfl ?_
      cases h; exact gz_iret (pc := 55) dX12_scornedBy_55 rfl ⟨rfl, rfl⟩
    · replace h := gz_ifn c h
      refine gz_iload_n (pc := 12) dX12_scornedBy_12 rfl ?_
      refine gz_aload_n (pc := 13) dX12_scornedBy_13 rfl ?_
      refine gz_iload_n (pc := 14) dX12_scornedBy_14 rfl ?_
      refine gz_V (zy := mX12_isThawed) (zc := 0) (pc := 15) [.inl x3] rfl dX12_scornedBy_15 lkX12_76 MvX12_isThawed rfl z_0_47 rfl rfl rfl (Or.inl rfl) (fun h => h) (by exact Nat.le_of_ble_eq_true rfl) ?_
      obtain ⟨v4, e3, h⟩ := gz_bd h
      refine gz_useI (c_X12_isThawed e3) ?_
      refine gz_if_ne (pc := 18) (tgt := 45) dX12_scornedBy_18 (by decide) (fun c => ?_) (fun c => ?_)
      · replace h := gz_ifp c h
        refine gz_iconst (pc := 45) dX12_scornedBy_45 (v := 0) (by decide) ?_
        refine gz_ior (pc := 46) dX12_scornedBy_46  ?_
        refine gz_istore_n (pc := 47) dX12_scornedBy_47 (by decide) rfl (loc2 := [some (.inr (.inr (0, 47))), some (.inl x1), some (.inl (x2 ||| 0)), some (.inl x3)]) rfl ?_
        refine gz_iinc (pc := 48) dX12_scornedBy_48 (x := x3) (v := x3 + 1) rfl (by rw [show Int32.ofInt 1 = 1 by decide]) (by decide) rfl (loc2 := [some (.inr (.inr (0, 47))), some (.inl x1), some (.inl (x2 ||| 0)), some (.inl (x3 + 1))]) rfl ?_
        refine gz_goto (pc := 51) (tgt := 4) dX12_scornedBy_51 (by decide) ?_
        exact ih x1 (x2 ||| 0) (x3 + 1) h
      · replace h := gz_ifn (fun q => q c) h
        refine gz_iload_n (pc := 21) dX12_scornedBy_21 rfl ?_
        refine gz_aload_n (pc := 22) dX12_scornedBy_22 rfl ?_
        refine gz_iload_n (pc := 23) dX12_scornedBy_23 rfl ?_
        refine gz_iconst (pc := 24) dX12_scornedBy_24 (v := 0) (by decide) ?_
        refine gz_V (zy := mX12_of) (zc := 0) (pc := 25) [.inl x3, .inl 0] rfl dX12_scornedBy_25 lkX12_70 MvX12_of rfl z_0_47 rfl rfl rfl (Or.inl rfl) (fun h => h) (by exact Nat.le_of_ble_eq_true rfl) ?_
        obtain ⟨v6, e5, h⟩ := gz_bd h
        refine gz_useI (c_X12_of e5) ?_
        refine gz_S (zy := mX12_has) (zc := 0) (pc := 28) [.inl x1, .inl v6] rfl dX12_scornedBy_28 lkX12_80 MsX12_has rfl (Or.inl rfl) (fun h => h) (by exact Nat.le_of_ble_eq_true rfl) ?_
        obtain ⟨v8, e7, h⟩ := gz_bd h
        refine gz_useI (c_X12_has e7) ?_
        refine gz_if_eq (pc := 31) (tgt := 45) dX12_scornedBy_31 (by decide) (fun c => ?_) (fun c => ?_)
        · replace h := gz_ifp c h
          refine gz_iconst (pc := 45) dX12_scornedBy_45 (v := 0) (by decide) ?_
          refine gz_ior (pc := 46) dX12_scornedBy_46  ?_
          refine gz_istore_n (pc := 47) dX12_scornedBy_47 (by decide) rfl (loc2 := [some (.inr (.inr (0, 47))), some (.inl x1), some (.inl (x2 ||| 0)), some (.inl x3)]) rfl ?_
          refine gz_iinc (pc := 48) dX12_scornedBy_48 (x := x3) (v := x3 + 1) rfl (by rw [show Int32.ofInt 1 = 1 by decide]) (by decide) rfl (loc2 := [some (.inr (.inr (0, 47))), some (.inl x1), some (.inl (x2 ||| 0)), some (.inl (x3 + 1))]) rfl ?_
          refine gz_goto (pc := 51) (tgt := 4) dX12_scornedBy_51 (by decide) ?_
          exact ih x1 (x2 ||| 0) (x3 + 1) h
        · replace h := gz_ifn c h
          refine gz_iconst (pc := 34) dX12_scornedBy_34 (v := 1) (by decide) ?_
          refine gz_aload_n (pc := 35) dX12_scornedBy_35 rfl ?_
          refine gz_iload_n (pc := 36) dX12_scornedBy_36 rfl ?_
          refine gz_iconst (pc := 37) dX12_scornedBy_37 (v := 1) (by decide) ?_
          refine gz_V (zy := mX12_of) (zc := 0) (pc := 38) [.inl x3, .inl 1] rfl dX12_scornedBy_38 lkX12_70 MvX12_of rfl z_0_47 rfl rfl rfl (Or.inl rfl) (fun h => h) (by exact Nat.le_of_ble_eq_true rfl) ?_
          obtain ⟨v10, e9, h⟩ := gz_bd h
          refine gz_useI (c_X12_of e9) ?_
          refine gz_ishl (pc := 41) dX12_scornedBy_41  ?_
          refine gz_goto (pc := 42) (tgt := 46) dX12_scornedBy_42 (by decide) ?_
          refine gz_ior (pc := 46) dX12_scornedBy_46  ?_
          refine gz_istore_n (pc := 47) dX12_scornedBy_47 (by decide) rfl (loc2 := [some (.inr (.inr (0, 47))), some (.inl x1), some (.inl (x2 ||| ((1 : Int32) <<< (v10 &&& 31)))), some (.inl x3)]) rfl ?_
          refine gz_iinc (pc := 48) dX12_scornedBy_48 (x := x3) (v := x3 + 1) rfl (by rw [show Int32.ofInt 1 = 1 by decide]) (by decide) rfl (loc2 := [some (.inr (.inr (0, 47))), some (.inl x1), some (.inl (x2 ||| ((1 : Int32) <<< (v10 &&& 31)))), some (.inl (x3 + 1))]) rfl ?_
          refine gz_goto (pc := 51) (tgt := 4) dX12_scornedBy_51 (by decide) ?_
          exact ih x1 (x2 ||| ((1 : Int32) <<< (v10 &&& 31))) (x3 + 1) h
def f_X12_scornedBy (φ : Nat) (I : gzIT) (a1 : Int32) : Option Int32 := f_X12_scornedBy_4 φ I φ a1 0 0
set_option maxRecDepth 20000 in
theorem c_X12_scornedBy {g : gzG} {d φ : Nat} {a1 : Int32} {I : gzIT} {J : gzJT} {r : Int32} (h : f_X12_scornedBy φ I a1 = some r) : gzC g 0 (d + 3) mX12_scornedBy [.inr (.inr (0, 47)), .inl a1] (gzN, gzR0, I, J) (gzE (.ok (some (.inl r))) (gzN, gzR0, I, J)) := by
  unfold f_X12_scornedBy at h
  refine gzC_of (by decide +kernel) (Nat.le_of_ble_eq_true rfl) (loc := [some (.inr (.inr (0, 47))), some (.inl a1), none, none]) rfl ?_
  refine gz_iconst (pc := 0) dX12_scornedBy_0 (v := 0) (by decide) ?_
  refine gz_istore_n (pc := 1) dX12_scornedBy_1 (by decide) rfl (loc2 := [some (.inr (.inr (0, 47))), some (.inl a1), some (.inl 0), none]) rfl ?_
  refine gz_iconst (pc := 2) dX12_scornedBy_2 (v := 0) (by decide) ?_
  refine gz_istore_n (pc := 3) dX12_scornedBy_3 (by decide) rfl (loc2 := [some (.inr (.inr (0, 47))), some (.inl a1), some (.inl 0), some (.inl 0)]) rfl ?_
  exact p_X12_scornedBy_4 φ a1 0 0 h
/-! X12_ring: ring -/
def gP_X12_ring_30 (g : gzG) (d : Nat) (r : Int32 × gzIT × gzJT) (x1 : Int32) (x2 : Int32) (x3 : Int32) (I : gzIT) (J : gzJT) : Prop := gzX g 0 (d + 4) mX12_ring 30 [some (.inr (.inr (0, 47))), some (.inl x1), some (.inl x2), some (.inl x3)] [] (gzN, gzR0, I, J) 0 (gzE (.ok (some (.inl r.1))) (gzN, gzR0, r.2.1, r.2.2))
def f_X12_ring_30 (φ : Nat) : Nat → Int32 → Int32 → Int32 → gzIT → gzJT → Option (Int32 × gzIT × gzJT)
  | 0, _, _, _, _, _ => none
  | k + 1, x1, x2, x3, I, J => if 6 ≤ x3 then (Option.bind (f_X12_has x2 x1) (fun v8 => gzGz v8 (some (v8, I, J)))) else (Option.bind (f_X12_scornedBy φ I x2) (fun v11 => f_X12_ring_30 φ k x1 (x2 ||| v11) (x3 + 1) I J))
set_option maxRecDepth 20000 in
theorem p_X12_ring_30 {g : gzG} {d φ : Nat} {r : Int32 × gzIT × gzJT} : ∀ (k : Nat) (x1 : Int32) (x2 : Int32) (x3 : Int32) (I : gzIT) (J : gzJT), f_X12_ring_30 φ k x1 x2 x3 I J = some r → gP_X12_ring_30 g d r x1 x2 x3 I J := by
  intro k; induction k with
  | zero => intro x1 x2 x3 I J h; cases h
  | succ k ih =>
    intro x1 x2 x3 I J h
    unfold f_X12_ring_30 at h
    unfold gP_X12_ring_30
    have z_0_47 : gzOk 0 47 gzN := gzOk_of (by decide)
    refine gz_iload_n (pc := 30) dX12_ring_30 rfl ?_
    refine gz_bipush (pc := 31) dX12_ring_31 (v := 6) (by decide) ?_
    refine gz_ic_ge (pc := 33) (tgt := 50) dX12_ring_33 (by decide) (fun c => ?_) (fun c => ?_)
    · replace h := gz_ifp c h
      refine gz_iload_n (pc := 50) dX12_ring_50 rfl ?_
      refine gz_iload_n (pc := 51) dX12_ring_51 rfl ?_
      refine gz_S (zy := mX12_has) (zc := 0) (pc := 52) [.inl x2, .inl x1] rfl dX12_ring_52 lkX12_80 MsX12_has rfl (Or.inl rfl) (fun h => h) (by exact Nat.le_of_ble_eq_true rfl) ?_
      obtain ⟨v8, e7, h⟩ := gz_bd h
      refine gz_useI (c_X12_has e7) ?_
      obtain ⟨b9, h⟩ := gz_gz h
      cases h; exact gz_zret (pc := 55) dX12_ring_55 rfl b9 ⟨rfl, rfl⟩
    · replace h := gz_ifn c h
      refine gz_iload_n (pc := 36) dX12_ring_36 rfl ?_
      refine gz_aload_n (pc := 37) dX12_ring_37 rfl ?_
      refine gz_iload_n (pc := 38) dX12_ring_38 rfl ?_
      refine gz_V (zy := mX12_scornedBy) (zc := 0) (pc := 39) [.inl x2] rfl dX12_ring_39 lkX12_414 MvX12_scornedBy rfl z_0_47 rfl rfl rfl (Or.inl rfl) (fun h => h) (by exact Nat.le_of_ble_eq_true rfl) ?_
      obtain ⟨v11, e10, h⟩ := gz_bd h
      refine gz_useI (c_X12_scornedBy e10) ?_
      refine gz_ior (pc := 42) dX12_ring_42  ?_
      refine gz_istore_n (pc := 43) dX12_ring_43 (by decide) rfl (loc2 := [some (.inr (.inr (0, 47))), some (.inl x1), some (.inl (x2 ||| v11)), some (.inl x3)]) rfl ?_
      refine gz_iinc (pc := 44) dX12_ring_44 (x := x3) (v := x3 + 1) rfl (by rw [show Int32.ofInt 1 = 1 by decide]) (by decide) rfl (loc2 := [some (.inr (.inr (0, 47))), some (.inl x1), some (.inl (x2 ||| v11)), some (.inl (x3 + 1))]) rfl ?_
      refine gz_goto (pc := 47) (tgt := 30) dX12_ring_47 (by decide) ?_
      exact ih x1 (x2 ||| v11) (x3 + 1) I J h
def f_X12_ring (φ : Nat) (a1 : Int32) (I : gzIT) (J : gzJT) : Option (Int32 × gzIT × gzJT) := Option.bind (f_X12_noFamily (gz_ui I 0 47 0 0) a1) (fun v2 => Option.bind (f_X12_throwsIf v2 1 (gz_ui I 0 47 0 0) J) (fun v4 => if v4.1 = 0 then (Option.bind (f_X12_scornedBy φ v4.2.1 ((1 : Int32) <<< (a1 &&& 31))) (fun v6 => f_X12_ring_30 φ φ a1 v6 0 v4.2.1 v4.2.2)) else (some (0, v4.2.1, v4.2.2))))
set_option maxRecDepth 20000 in
theorem c_X12_ring {g : gzG} {d φ : Nat} {a1 : Int32} {I : gzIT} {J : gzJT} {r : Int32 × gzIT × gzJT} (h : f_X12_ring φ a1 I J = some r) : gzC g 0 (d + 4) mX12_ring [.inr (.inr (0, 47)), .inl a1] (gzN, gzR0, I, J) (gzE (.ok (some (.inl r.1))) (gzN, gzR0, r.2.1, r.2.2)) := by
  unfold f_X12_ring at h
  refine gzC_of (by decide +kernel) (Nat.le_of_ble_eq_true rfl) (loc := [some (.inr (.inr (0, 47))), some (.inl a1), none, none]) rfl ?_
  have z_0_47 : gzOk 0 47 gzN := gzOk_of (by decide)
  refine gz_aload_n (pc := 0) dX12_ring_0 rfl ?_
  refine gz_iconst (pc := 1) dX12_ring_1 (v := 0) (by decide) ?_
  refine gp_X12_3 (pc := 2) dX12_ring_2 z_0_47 rfl ?_
  refine gz_aload_n (pc := 5) dX12_ring_5 rfl ?_
  refine gz_aload_n (pc := 6) dX12_ring_6 rfl ?_
  refine gz_iload_n (pc := 7) dX12_ring_7 rfl ?_
  refine gz_V (zy := mX12_noFamily) (zc := 0) (pc := 8) [.inl a1] rfl dX12_ring_8 lkX12_301 MvX12_noFamily rfl z_0_47 rfl rfl rfl (Or.inl rfl) (fun h => h) (by exact Nat.le_of_ble_eq_true rfl) ?_
  obtain ⟨v2, e1, h⟩ := gz_bd h
  refine gz_useI (c_X12_noFamily e1) ?_
  refine gz_iconst (pc := 11) dX12_ring_11 (v := 1) (by decide) ?_
  refine gz_V (zy := mX12_throwsIf) (zc := 0) (pc := 12) [.inl v2, .inl 1] rfl dX12_ring_12 lkX12_269 MvX12_throwsIf rfl z_0_47 rfl rfl rfl (Or.inl rfl) (fun h => h) (by exact Nat.le_of_ble_eq_true rfl) ?_
  obtain ⟨v4, e3, h⟩ := gz_bd h
  refine gz_useI (c_X12_throwsIf e3) ?_
  refine gz_if_eq (pc := 15) (tgt := 20) dX12_ring_15 (by decide) (fun c => ?_) (fun c => ?_)
  · replace h := gz_ifp c h
    refine gz_aload_n (pc := 20) dX12_ring_20 rfl ?_
    refine gz_iconst (pc := 21) dX12_ring_21 (v := 1) (by decide) ?_
    refine gz_iload_n (pc := 22) dX12_ring_22 rfl ?_
    refine gz_ishl (pc := 23) dX12_ring_23  ?_
    refine gz_V (zy := mX12_scornedBy) (zc := 0) (pc := 24) [.inl ((1 : Int32) <<< (a1 &&& 31))] rfl dX12_ring_24 lkX12_414 MvX12_scornedBy rfl z_0_47 rfl rfl rfl (Or.inl rfl) (fun h => h) (by exact Nat.le_of_ble_eq_true rfl) ?_
    obtain ⟨v6, e5, h⟩ := gz_bd h
    refine gz_useI (c_X12_scornedBy e5) ?_
    refine gz_istore_n (pc := 27) dX12_ring_27 (by decide) rfl (loc2 := [some (.inr (.inr (0, 47))), some (.inl a1), some (.inl v6), none]) rfl ?_
    refine gz_iconst (pc := 28) dX12_ring_28 (v := 0) (by decide) ?_
    refine gz_istore_n (pc := 29) dX12_ring_29 (by decide) rfl (loc2 := [some (.inr (.inr (0, 47))), some (.inl a1), some (.inl v6), some (.inl 0)]) rfl ?_
    exact p_X12_ring_30 φ a1 v6 0 v4.2.1 v4.2.2 h
  · replace h := gz_ifn c h
    refine gz_iconst (pc := 18) dX12_ring_18 (v := 0) (by decide) ?_
    cases h; exact gz_zret (pc := 19) dX12_ring_19 rfl (by decide) ⟨rfl, rfl⟩
/-! X12_feud: feud -/
def gP_X12_feud_9 (g : gzG) (d : Nat) (r : Int32 × gzIT × gzJT) (x1 : Int32) (x2 : Int32) (I : gzIT) (J : gzJT) : Prop := gzX g 0 (d + 6) mX12_feud 9 [some (.inr (.inr (0, 47))), some (.inl x1), some (.inl x2)] [] (gzN, gzR0, I, J) 0 (gzE (.ok (some (.inl r.1))) (gzN, gzR0, r.2.1, r.2.2))
def f_X12_feud_9 (φ : Nat) : Nat → Int32 → Int32 → gzIT → gzJT → Option (Int32 × gzIT × gzJT)
  | 0, _, _, _, _ => none
  | k + 1, x1, x2, I, J => Option.bind (f_X12_families I) (fun v2 => if v2 ≤ x2 then (some (x1, I, J)) else (Option.bind (f_X12_standing φ I) (fun v4 => Option.bind (f_X12_feudOf φ I x2 v4) (fun v6 => Option.bind (f_J6_bitCount_0f7a4 v6) (fun v8 => f_X12_feud_9 φ k (if x1 < v8 then v8 else x1) (x2 + 1) I J)))))
set_option maxRecDepth 20000 in
theorem p_X12_feud_9 {g : gzG} {d φ : Nat} {r : Int32 × gzIT × gzJT} : ∀ (k : Nat) (x1 : Int32) (x2 : Int32) (I : gzIT) (J : gzJT), f_X12_feud_9 φ k x1 x2 I J = some r → gP_X12_feud_9 g d r x1 x2 I J := by
  intro k; induction k with
  | zero => intro x1 x2 I J h; cases h
  | succ k ih =>
    intro x1 x2 I J h
    unfold f_X12_feud_9 at h
    unfold gP_X12_feud_9
    have z_0_47 : gzOk 0 47 gzN := gzOk_of (by decide)
    refine gz_iload_n (pc := 9) dX12_feud_9 rfl ?_
    refine gz_aload_n (pc := 10) dX12_feud_10 rfl ?_
    refine gz_V (zy := mX12_families) (zc := 0) (pc := 11) [] rfl dX12_feud_11 lkX12_59 MvX12_families rfl z_0_47 rfl rfl rfl (Or.inl rfl) (fun h => h) (by exact Nat.le_of_ble_eq_true rfl) ?_
    obtain ⟨v2, e1, h⟩ := gz_bd h
    refine gz_useI (c_X12_families e1) ?_
    refine gz_ic_ge (pc := 14) (tgt := 40) dX12_feud_14 (by decide) (fun c => ?_) (fun c => ?_)
    · replace h := gz_ifp c h
      refine gz_iload_n (pc := 40) dX12_feud_40 rfl ?_
      cases h; exact gz_iret (pc := 41) dX12_feud_41 rfl ⟨rfl, rfl⟩
    · replace h := gz_ifn c h
      refine gz_iload_n (pc := 17) dX12_feud_17 rfl ?_
      refine gz_aload_n (pc := 18) dX12_feud_18 rfl ?_
      refine gz_iload_n (pc := 19) dX12_feud_19 rfl ?_
      refine gz_aload_n (pc := 20) dX12_feud_20 rfl ?_
      refine gz_V (zy := mX12_standing) (zc := 0) (pc := 21) [] rfl dX12_feud_21 lkX12_291 MvX12_standing rfl z_0_47 rfl rfl rfl (Or.inl rfl) (fun h => h) (by exact Nat.le_of_ble_eq_true rfl) ?_
      obtain ⟨v4, e3, h⟩ := gz_bd h
      refine gz_useI (c_X12_standing e3) ?_
      refine gz_V (zy := mX12_feudOf) (zc := 0) (pc := 24) [.inl x2, .inl v4] rfl dX12_feud_24 lkX12_417 MvX12_feudOf rfl z_0_47 rfl rfl rfl (Or.inl rfl) (fun h => h) (by exact Nat.le_of_ble_eq_true rfl) ?_
      obtain ⟨v6, e5, h⟩ := gz_bd h
      refine gz_useI (c_X12_feudOf e5) ?_
      refine gz_S (zy := mJ6_bitCount_0f7a4) (zc := 0) (pc := 27) [.inl v6] rfl dX12_feud_27 lkX12_343 MsJ6_bitCount_0f7a4 rfl (Or.inl rfl) (fun h => h) (by exact Nat.le_of_ble_eq_true rfl) ?_
      obtain ⟨v8, e7, h⟩ := gz_bd h
      refine gz_useI (c_J6_bitCount_0f7a4 e7) ?_
      refine gx_X12_310 (pc := 30) dX12_feud_30 (Nat.le_of_ble_eq_true rfl) rfl ?_
      refine gz_istore_n (pc := 33) dX12_feud_33 (by decide) rfl (loc2 := [some (.inr (.inr (0, 47))), some (.inl (if x1 < v8 then v8 else x1)), some (.inl x2)]) rfl ?_
      refine gz_iinc (pc := 34) dX12_feud_34 (x := x2) (v := x2 + 1) rfl (by rw [show Int32.ofInt 1 = 1 by decide]) (by decide) rfl (loc2 := [some (.inr (.inr (0, 47))), some (.inl (if x1 < v8 then v8 else x1)), some (.inl (x2 + 1))]) rfl ?_
      refine gz_goto (pc := 37) (tgt := 9) dX12_feud_37 (by decide) ?_
      exact ih (if x1 < v8 then v8 else x1) (x2 + 1) I J h
def f_X12_feud (φ : Nat) (I : gzIT) (J : gzJT) : Option (Int32 × gzIT × gzJT) := f_X12_feud_9 φ φ 0 0 (gz_ui I 0 47 0 0) J
set_option maxRecDepth 20000 in
theorem c_X12_feud {g : gzG} {d φ : Nat} {I : gzIT} {J : gzJT} {r : Int32 × gzIT × gzJT} (h : f_X12_feud φ I J = some r) : gzC g 0 (d + 6) mX12_feud [.inr (.inr (0, 47))] (gzN, gzR0, I, J) (gzE (.ok (some (.inl r.1))) (gzN, gzR0, r.2.1, r.2.2)) := by
  unfold f_X12_feud at h
  refine gzC_of (by decide +kernel) (Nat.le_of_ble_eq_true rfl) (loc := [some (.inr (.inr (0, 47))), none, none]) rfl ?_
  have z_0_47 : gzOk 0 47 gzN := gzOk_of (by decide)
  refine gz_aload_n (pc := 0) dX12_feud_0 rfl ?_
  refine gz_iconst (pc := 1) dX12_feud_1 (v := 0) (by decide) ?_
  refine gp_X12_3 (pc := 2) dX12_feud_2 z_0_47 rfl ?_
  refine gz_iconst (pc := 5) dX12_feud_5 (v := 0) (by decide) ?_
  refine gz_istore_n (pc := 6) dX12_feud_6 (by decide) rfl (loc2 := [some (.inr (.inr (0, 47))), some (.inl 0), none]) rfl ?_
  refine gz_iconst (pc := 7) dX12_feud_7 (v := 0) (by decide) ?_
  refine gz_istore_n (pc := 8) dX12_feud_8 (by decide) rfl (loc2 := [some (.inr (.inr (0, 47))), some (.inl 0), some (.inl 0)]) rfl ?_
  exact p_X12_feud_9 φ 0 0 (gz_ui I 0 47 0 0) J h
/-! X12_between: between -/
def gP_X12_between_14 (g : gzG) (d : Nat) (r : Int32 × gzIT × gzJT) (x1 : Int32) (x2 : Int32) (x3 : Int32) (I : gzIT) (J : gzJT) : Prop := gzX g 0 (d + 6) mX12_between 14 [some (.inr (.inr (0, 47))), some (.inl x1), some (.inl x2), some (.inl x3)] [] (gzN, gzR0, I, J) 0 (gzE (.ok (some (.inl r.1))) (gzN, gzR0, r.2.1, r.2.2))
def f_X12_between_14 (φ : Nat) : Nat → Int32 → Int32 → Int32 → gzIT → gzJT → Option (Int32 × gzIT × gzJT)
  | 0, _, _, _, _, _ => none
  | k + 1, x1, x2, x3, I, J => Option.bind (f_X12_grudges I) (fun v4 => if v4 ≤ x3 then (some (x2, I, J)) else (Option.bind (f_X12_has x1 x3) (fun v6 => if v6 = 0 then (f_X12_between_14 φ k x1 x2 (x3 + 1) I J) else (Option.bind (f_X12_of I x3 0) (fun v8 => Option.bind (f_X12_feudOf φ I v8 (x1 &&& (((1 : Int32) <<< (x3 &&& 31)) ^^^ (-1)))) (fun v10 => Option.bind (f_X12_of I x3 1) (fun v12 => Option.bind (f_X12_has v10 v12) (fun v14 => if ¬ v14 = 0 then (f_X12_between_14 φ k x1 x2 (x3 + 1) I J) else (f_X12_between_14 φ k x1 (x2 ||| ((1 : Int32) <<< (x3 &&& 31))) (x3 + 1) I J)))))))))
set_option maxRecDepth 20000 in
theorem p_X12_between_14 {g : gzG} {d φ : Nat} {r : Int32 × gzIT × gzJT} : ∀ (k : Nat) (x1 : Int32) (x2 : Int32) (x3 : Int32) (I : gzIT) (J : gzJT), f_X12_between_14 φ k x1 x2 x3 I J = some r → gP_X12_between_14 g d r x1 x2 x3 I J := by
  intro k; induction k with
  | zero => intro x1 x2 x3 I J h; cases h
  | succ k ih =>
    intro x1 x2 x3 I J h
    unfold f_X12_between_14 at h
    unfold gP_X12_between_14
    have z_0_47 : gzOk 0 47 gzN := gzOk_of (by decide)
    refine gz_iload_n (pc := 14) dX12_between_14 rfl ?_
    refine gz_aload_n (pc := 15) dX12_between_15 rfl ?_
    refine gz_V (zy := mX12_grudges) (zc := 0) (pc := 16) [] rfl dX12_between_16 lkX12_73 MvX12_grudges rfl z_0_47 rfl rfl rfl (Or.inl rfl) (fun h => h) (by exact Nat.le_of_ble_eq_true rfl) ?_
    obtain ⟨v4, e3, h⟩ := gz_bd h
    refine gz_useI (c_X12_grudges e3) ?_
    refine gz_ic_ge (pc := 19) (tgt := 71) dX12_between_19 (by decide) (fun c => ?_) (fun c => ?_)
    · replace h := gz_ifp c h
      refine gz_iload_n (pc := 71) dX12_between_71 rfl ?_
      cases h; exact gz_iret (pc := 72) dX12_between_72 rfl ⟨rfl, rfl⟩
    · replace h := gz_ifn c h
      refine gz_iload_n (pc := 22) dX12_between_22 rfl ?_
      refine gz_iload_n (pc := 23) dX12_between_23 rfl ?_
      refine gz_S (zy := mX12_has) (zc := 0) (pc := 24) [.inl x1, .inl x3] rfl dX12_between_24 lkX12_80 MsX12_has rfl (Or.inl rfl) (fun h => h) (by exact Nat.le_of_ble_eq_true rfl) ?_
      obtain ⟨v6, e5, h⟩ := gz_bd h
      refine gz_useI (c_X12_has e5) ?_
      refine gz_if_eq (pc := 27) (tgt := 65) dX12_between_27 (by decide) (fun c => ?_) (fun c => ?_)
      · replace h := gz_ifp c h
        refine gz_iinc (pc := 65) dX12_between_65 (x := x3) (v := x3 + 1) rfl (by rw [show Int32.ofInt 1 = 1 by decide]) (by decide) rfl (loc2 := [some (.inr (.inr (0, 47))), some (.inl x1), some (.inl x2), some (.inl (x3 + 1))]) rfl ?_
        refine gz_goto (pc := 68) (tgt := 14) dX12_between_68 (by decide) ?_
        exact ih x1 x2 (x3 + 1) I J h
      · replace h := gz_ifn c h
        refine gz_aload_n (pc := 30) dX12_between_30 rfl ?_
        refine gz_aload_n (pc := 31) dX12_between_31 rfl ?_
        refine gz_iload_n (pc := 32) dX12_between_32 rfl ?_
        refine gz_iconst (pc := 33) dX12_between_33 (v := 0) (by decide) ?_
        refine gz_V (zy := mX12_of) (zc := 0) (pc := 34) [.inl x3, .inl 0] rfl dX12_between_34 lkX12_70 MvX12_of rfl z_0_47 rfl rfl rfl (Or.inl rfl) (fun h => h) (by exact Nat.le_of_ble_eq_true rfl) ?_
        obtain ⟨v8, e7, h⟩ := gz_bd h
        refine gz_useI (c_X12_of e7) ?_
        refine gz_iload_n (pc := 37) dX12_between_37 rfl ?_
        refine gz_iconst (pc := 38) dX12_between_38 (v := 1) (by decide) ?_
        refine gz_iload_n (pc := 39) dX12_between_39 rfl ?_
        refine gz_ishl (pc := 40) dX12_between_40  ?_
        refine gz_iconst (pc := 41) dX12_between_41 (v := (-1)) (by decide) ?_
        refine gz_ixor (pc := 42) dX12_between_42  ?_
        refine gz_iand (pc := 43) dX12_between_43  ?_
        refine gz_V (zy := mX12_feudOf) (zc := 0) (pc := 44) [.inl v8, .inl (x1 &&& (((1 : Int32) <<< (x3 &&& 31)) ^^^ (-1)))] rfl dX12_between_44 lkX12_417 MvX12_feudOf rfl z_0_47 rfl rfl rfl (Or.inl rfl) (fun h => h) (by exact Nat.le_of_ble_eq_true rfl) ?_
        obtain ⟨v10, e9, h⟩ := gz_bd h
        refine gz_useI (c_X12_feudOf e9) ?_
        refine gz_aload_n (pc := 47) dX12_between_47 rfl ?_
        refine gz_iload_n (pc := 48) dX12_between_48 rfl ?_
        refine gz_iconst (pc := 49) dX12_between_49 (v := 1) (by decide) ?_
        refine gz_V (zy := mX12_of) (zc := 0) (pc := 50) [.inl x3, .inl 1] rfl dX12_between_50 lkX12_70 MvX12_of rfl z_0_47 rfl rfl rfl (Or.inl rfl) (fun h => h) (by exact Nat.le_of_ble_eq_true rfl) ?_
        obtain ⟨v12, e11, h⟩ := gz_bd h
        refine gz_useI (c_X12_of e11) ?_
        refine gz_S (zy := mX12_has) (zc := 0) (pc := 53) [.inl v10, .inl v12] rfl dX12_between_53 lkX12_80 MsX12_has rfl (Or.inl rfl) (fun h => h) (by exact Nat.le_of_ble_eq_true rfl) ?_
        obtain ⟨v14, e13, h⟩ := gz_bd h
        refine gz_useI (c_X12_has e13) ?_
        refine gz_if_ne (pc := 56) (tgt := 65) dX12_between_56 (by decide) (fun c => ?_) (fun c => ?_)
        · replace h := gz_ifp c h
          refine gz_iinc (pc := 65) dX12_between_65 (x := x3) (v := x3 + 1) rfl (by rw [show Int32.ofInt 1 = 1 by decide]) (by decide) rfl (loc2 := [some (.inr (.inr (0, 47))), some (.inl x1), some (.inl x2), some (.inl (x3 + 1))]) rfl ?_
          refine gz_goto (pc := 68) (tgt := 14) dX12_between_68 (by decide) ?_
          exact ih x1 x2 (x3 + 1) I J h
        · replace h := gz_ifn (fun q => q c) h
          refine gz_iload_n (pc := 59) dX12_between_59 rfl ?_
          refine gz_iconst (pc := 60) dX12_between_60 (v := 1) (by decide) ?_
          refine gz_iload_n (pc := 61) dX12_between_61 rfl ?_
          refine gz_ishl (pc := 62) dX12_between_62  ?_
          refine gz_ior (pc := 63) dX12_between_63  ?_
          refine gz_istore_n (pc := 64) dX12_between_64 (by decide) rfl (loc2 := [some (.inr (.inr (0, 47))), some (.inl x1), some (.inl (x2 ||| ((1 : Int32) <<< (x3 &&& 31)))), some (.inl x3)]) rfl ?_
          refine gz_iinc (pc := 65) dX12_between_65 (x := x3) (v := x3 + 1) rfl (by rw [show Int32.ofInt 1 = 1 by decide]) (by decide) rfl (loc2 := [some (.inr (.inr (0, 47))), some (.inl x1), some (.inl (x2 ||| ((1 : Int32) <<< (x3 &&& 31)))), some (.inl (x3 + 1))]) rfl ?_
          refine gz_goto (pc := 68) (tgt := 14) dX12_between_68 (by decide) ?_
          exact ih x1 (x2 ||| ((1 : Int32) <<< (x3 &&& 31))) (x3 + 1) I J h
def f_X12_between (φ : Nat) (I : gzIT) (J : gzJT) : Option (Int32 × gzIT × gzJT) := Option.bind (f_X12_standing φ (gz_ui I 0 47 0 0)) (fun v2 => f_X12_between_14 φ φ v2 0 0 (gz_ui I 0 47 0 0) J)
set_option maxRecDepth 20000 in
theorem c_X12_between {g : gzG} {d φ : Nat} {I : gzIT} {J : gzJT} {r : Int32 × gzIT × gzJT} (h : f_X12_between φ I J = some r) : gzC g 0 (d + 6) mX12_between [.inr (.inr (0, 47))] (gzN, gzR0, I, J) (gzE (.ok (some (.inl r.1))) (gzN, gzR0, r.2.1, r.2.2)) := by
  unfold f_X12_between at h
  refine gzC_of (by decide +kernel) (Nat.le_of_ble_eq_true rfl) (loc := [some (.inr (.inr (0, 47))), none, none, none]) rfl ?_
  have z_0_47 : gzOk 0 47 gzN := gzOk_of (by decide)
  refine gz_aload_n (pc := 0) dX12_between_0 rfl ?_
  refine gz_iconst (pc := 1) dX12_between_1 (v := 0) (by decide) ?_
  refine gp_X12_3 (pc := 2) dX12_between_2 z_0_47 rfl ?_
  refine gz_aload_n (pc := 5) dX12_between_5 rfl ?_
  refine gz_V (zy := mX12_standing) (zc := 0) (pc := 6) [] rfl dX12_between_6 lkX12_291 MvX12_standing rfl z_0_47 rfl rfl rfl (Or.inl rfl) (fun h => h) (by exact Nat.le_of_ble_eq_true rfl) ?_
  obtain ⟨v2, e1, h⟩ := gz_bd h
  refine gz_useI (c_X12_standing e1) ?_
  refine gz_istore_n (pc := 9) dX12_between_9 (by decide) rfl (loc2 := [some (.inr (.inr (0, 47))), some (.inl v2), none, none]) rfl ?_
  refine gz_iconst (pc := 10) dX12_between_10 (v := 0) (by decide) ?_
  refine gz_istore_n (pc := 11) dX12_between_11 (by decide) rfl (loc2 := [some (.inr (.inr (0, 47))), some (.inl v2), some (.inl 0), none]) rfl ?_
  refine gz_iconst (pc := 12) dX12_between_12 (v := 0) (by decide) ?_
  refine gz_istore_n (pc := 13) dX12_between_13 (by decide) rfl (loc2 := [some (.inr (.inr (0, 47))), some (.inl v2), some (.inl 0), some (.inl 0)]) rfl ?_
  exact p_X12_between_14 φ v2 0 0 (gz_ui I 0 47 0 0) J h
/-! X12_firstOf: firstOf -/
def f_X12_firstOf (a1 : Int32) : Option Int32 := Option.bind (f_J6_numberOfTrailingZeros_0f7a4 a1) (fun v2 => some v2)
set_option maxRecDepth 20000 in
theorem c_X12_firstOf {g : gzG} {d : Nat} {a1 : Int32} {I : gzIT} {J : gzJT} {r : Int32} (h : f_X12_firstOf a1 = some r) : gzC g 0 (d + 1) mX12_firstOf [.inl a1] (gzN, gzR0, I, J) (gzE (.ok (some (.inl r))) (gzN, gzR0, I, J)) := by
  unfold f_X12_firstOf at h
  refine gzC_of (by decide +kernel) (Nat.le_of_ble_eq_true rfl) (loc := [some (.inl a1)]) rfl ?_
  refine gz_iload_n (pc := 0) dX12_firstOf_0 rfl ?_
  refine gz_S (zy := mJ6_numberOfTrailingZeros_0f7a4) (zc := 0) (pc := 1) [.inl a1] rfl dX12_firstOf_1 lkX12_420 MsJ6_numberOfTrailingZeros_0f7a4 rfl (Or.inl rfl) (fun h => h) (by exact Nat.le_of_ble_eq_true rfl) ?_
  obtain ⟨v2, e1, h⟩ := gz_bd h
  refine gz_useI (c_J6_numberOfTrailingZeros_0f7a4 e1) ?_
  cases h; exact gz_iret (pc := 4) dX12_firstOf_4 rfl ⟨rfl, rfl⟩
/-! X12_kissingBy: kissingBy -/
def f_X12_kissingBy (φ : Nat) (I : gzIT) (a1 : Int32) (a2 : Int32) : Option Int32 := Option.bind (f_X12_firstOf a1) (fun v2 => if ¬ a2 = (-1) then (Option.bind (f_X12_has (a1 &&& (((1 : Int32) <<< (v2 &&& 31)) ^^^ (-1))) a2) (fun v4 => if v4 = 0 then (some (-1)) else (Option.bind (f_X12_standing φ I) (fun v6 => Option.bind (f_X12_quarrelsOf φ I v2 v6) (fun v8 => Option.bind (f_X12_has v8 a2) (fun v10 => if v10 = 0 then (Option.bind (f_X12_ofFamily I v2 0) (fun v12 => Option.bind (f_X12_ofFamily I a2 0) (fun v14 => gzGd ((a1 &&& (((1 : Int32) <<< (v2 &&& 31)) ^^^ (-1))) &&& (((1 : Int32) <<< (a2 &&& 31)) ^^^ (-1))) 64 (some ((v12 + v14) + (I 0 56 (((a1 &&& (((1 : Int32) <<< (v2 &&& 31)) ^^^ (-1))) &&& (((1 : Int32) <<< (a2 &&& 31)) ^^^ (-1))).toNatClampNeg))))))) else (some (-1)))))))) else (gzGd (a1 &&& (((1 : Int32) <<< (v2 &&& 31)) ^^^ (-1))) 64 (some (I 0 56 ((a1 &&& (((1 : Int32) <<< (v2 &&& 31)) ^^^ (-1))).toNatClampNeg)))))
set_option maxRecDepth 20000 in
theorem c_X12_kissingBy {g : gzG} {d φ : Nat} {a1 : Int32} {a2 : Int32} {I : gzIT} {J : gzJT} {r : Int32} (h : f_X12_kissingBy φ I a1 a2 = some r) : gzC g 0 (d + 4) mX12_kissingBy [.inr (.inr (0, 47)), .inl a1, .inl a2] (gzN, gzR0, I, J) (gzE (.ok (some (.inl r))) (gzN, gzR0, I, J)) := by
  unfold f_X12_kissingBy at h
  refine gzC_of (by decide +kernel) (Nat.le_of_ble_eq_true rfl) (loc := [some (.inr (.inr (0, 47))), some (.inl a1), some (.inl a2), none, none]) rfl ?_
  have z_0_47 : gzOk 0 47 gzN := gzOk_of (by decide)
  have z_0_56 : gzOk 0 56 gzN := gzOk_of (by decide)
  refine gz_iload_n (pc := 0) dX12_kissingBy_0 rfl ?_
  refine gz_S (zy := mX12_firstOf) (zc := 0) (pc := 1) [.inl a1] rfl dX12_kissingBy_1 lkX12_423 MsX12_firstOf rfl (Or.inl rfl) (fun h => h) (by exact Nat.le_of_ble_eq_true rfl) ?_
  obtain ⟨v2, e1, h⟩ := gz_bd h
  refine gz_useI (c_X12_firstOf e1) ?_
  refine gz_istore_n (pc := 4) dX12_kissingBy_4 (by decide) rfl (loc2 := [some (.inr (.inr (0, 47))), some (.inl a1), some (.inl a2), some (.inl v2), none]) rfl ?_
  refine gz_iload_n (pc := 5) dX12_kissingBy_5 rfl ?_
  refine gz_iconst (pc := 6) dX12_kissingBy_6 (v := 1) (by decide) ?_
  refine gz_iload_n (pc := 7) dX12_kissingBy_7 rfl ?_
  refine gz_ishl (pc := 8) dX12_kissingBy_8  ?_
  refine gz_iconst (pc := 9) dX12_kissingBy_9 (v := (-1)) (by decide) ?_
  refine gz_ixor (pc := 10) dX12_kissingBy_10  ?_
  refine gz_iand (pc := 11) dX12_kissingBy_11  ?_
  refine gz_istore (pc := 12) dX12_kissingBy_12 (by decide) rfl (loc2 := [some (.inr (.inr (0, 47))), some (.inl a1), some (.inl a2), some (.inl v2), some (.inl (a1 &&& (((1 : Int32) <<< (v2 &&& 31)) ^^^ (-1))))]) rfl ?_
  refine gz_iload_n (pc := 14) dX12_kissingBy_14 rfl ?_
  refine gz_iconst (pc := 15) dX12_kissingBy_15 (v := (-1)) (by decide) ?_
  refine gz_ic_ne (pc := 16) (tgt := 27) dX12_kissingBy_16 (by decide) (fun c => ?_) (fun c => ?_)
  · replace h := gz_ifp c h
    refine gz_iload (pc := 27) dX12_kissingBy_27 rfl ?_
    refine gz_iload_n (pc := 29) dX12_kissingBy_29 rfl ?_
    refine gz_S (zy := mX12_has) (zc := 0) (pc := 30) [.inl (a1 &&& (((1 : Int32) <<< (v2 &&& 31)) ^^^ (-1))), .inl a2] rfl dX12_kissingBy_30 lkX12_80 MsX12_has rfl (Or.inl rfl) (fun h => h) (by exact Nat.le_of_ble_eq_true rfl) ?_
    obtain ⟨v4, e3, h⟩ := gz_bd h
    refine gz_useI (c_X12_has e3) ?_
    refine gz_if_eq (pc := 33) (tgt := 52) dX12_kissingBy_33 (by decide) (fun c => ?_) (fun c => ?_)
    · replace h := gz_ifp c h
      refine gz_iconst (pc := 52) dX12_kissingBy_52 (v := (-1)) (by decide) ?_
      cases h; exact gz_iret (pc := 53) dX12_kissingBy_53 rfl ⟨rfl, rfl⟩
    · replace h := gz_ifn c h
      refine gz_aload_n (pc := 36) dX12_kissingBy_36 rfl ?_
      refine gz_iload_n (pc := 37) dX12_kissingBy_37 rfl ?_
      refine gz_aload_n (pc := 38) dX12_kissingBy_38 rfl ?_
      refine gz_V (zy := mX12_standing) (zc := 0) (pc := 39) [] rfl dX12_kissingBy_39 lkX12_291 MvX12_standing rfl z_0_47 rfl rfl rfl (Or.inl rfl) (fun h => h) (by exact Nat.le_of_ble_eq_true rfl) ?_
      obtain ⟨v6, e5, h⟩ := gz_bd h
      refine gz_useI (c_X12_standing e5) ?_
      refine gz_V (zy := mX12_quarrelsOf) (zc := 0) (pc := 42) [.inl v2, .inl v6] rfl dX12_kissingBy_42 lkX12_393 MvX12_quarrelsOf rfl z_0_47 rfl rfl rfl (Or.inl rfl) (fun h => h) (by exact Nat.le_of_ble_eq_true rfl) ?_
      obtain ⟨v8, e7, h⟩ := gz_bd h
      refine gz_useI (c_X12_quarrelsOf e7) ?_
      refine gz_iload_n (pc := 45) dX12_kissingBy_45 rfl ?_
      refine gz_S (zy := mX12_has) (zc := 0) (pc := 46) [.inl v8, .inl a2] rfl dX12_kissingBy_46 lkX12_80 MsX12_has rfl (Or.inl rfl) (fun h => h) (by exact Nat.le_of_ble_eq_true rfl) ?_
      obtain ⟨v10, e9, h⟩ := gz_bd h
      refine gz_useI (c_X12_has e9) ?_
      refine gz_if_eq (pc := 49) (tgt := 54) dX12_kissingBy_49 (by decide) (fun c => ?_) (fun c => ?_)
      · replace h := gz_ifp c h
        refine gz_aload_n (pc := 54) dX12_kissingBy_54 rfl ?_
        refine gz_iload_n (pc := 55) dX12_kissingBy_55 rfl ?_
        refine gz_iconst (pc := 56) dX12_kissingBy_56 (v := 0) (by decide) ?_
        refine gz_V (zy := mX12_ofFamily) (zc := 0) (pc := 57) [.inl v2, .inl 0] rfl dX12_kissingBy_57 lkX12_272 MvX12_ofFamily rfl z_0_47 rfl rfl rfl (Or.inl rfl) (fun h => h) (by exact Nat.le_of_ble_eq_true rfl) ?_
        obtain ⟨v12, e11, h⟩ := gz_bd h
        refine gz_useI (c_X12_ofFamily e11) ?_
        refine gz_aload_n (pc := 60) dX12_kissingBy_60 rfl ?_
        refine gz_iload_n (pc := 61) dX12_kissingBy_61 rfl ?_
        refine gz_iconst (pc := 62) dX12_kissingBy_62 (v := 0) (by decide) ?_
        refine gz_V (zy := mX12_ofFamily) (zc := 0) (pc := 63) [.inl a2, .inl 0] rfl dX12_kissingBy_63 lkX12_272 MvX12_ofFamily rfl z_0_47 rfl rfl rfl (Or.inl rfl) (fun h => h) (by exact Nat.le_of_ble_eq_true rfl) ?_
        obtain ⟨v14, e13, h⟩ := gz_bd h
        refine gz_useI (c_X12_ofFamily e13) ?_
        refine gz_iadd (pc := 66) dX12_kissingBy_66  ?_
        refine gz_aload_n (pc := 67) dX12_kissingBy_67 rfl ?_
        refine gr_X12_42 (pc := 68) dX12_kissingBy_68 z_0_47 rfl ?_
        refine gz_iload (pc := 71) dX12_kissingBy_71 rfl ?_
        refine gz_iconst (pc := 73) dX12_kissingBy_73 (v := 1) (by decide) ?_
        refine gz_iload_n (pc := 74) dX12_kissingBy_74 rfl ?_
        refine gz_ishl (pc := 75) dX12_kissingBy_75  ?_
        refine gz_iconst (pc := 76) dX12_kissingBy_76 (v := (-1)) (by decide) ?_
        refine gz_ixor (pc := 77) dX12_kissingBy_77  ?_
        refine gz_iand (pc := 78) dX12_kissingBy_78  ?_
        obtain ⟨b15, h⟩ := gz_gd h
        refine gz_iald2 (pc := 79) dX12_kissingBy_79 (k := ((a1 &&& (((1 : Int32) <<< (v2 &&& 31)) ^^^ (-1))) &&& (((1 : Int32) <<< (a2 &&& 31)) ^^^ (-1))).toNatClampNeg) (v := I 0 56 (((a1 &&& (((1 : Int32) <<< (v2 &&& 31)) ^^^ (-1))) &&& (((1 : Int32) <<< (a2 &&& 31)) ^^^ (-1))).toNatClampNeg)) z_0_56 rfl b15 rfl rfl ?_
        refine gz_iadd (pc := 80) dX12_kissingBy_80  ?_
        cases h; exact gz_iret (pc := 81) dX12_kissingBy_81 rfl ⟨rfl, rfl⟩
      · replace h := gz_ifn c h
        refine gz_iconst (pc := 52) dX12_kissingBy_52 (v := (-1)) (by decide) ?_
        cases h; exact gz_iret (pc := 53) dX12_kissingBy_53 rfl ⟨rfl, rfl⟩
  · replace h := gz_ifn (fun q => q c) h
    refine gz_aload_n (pc := 19) dX12_kissingBy_19 rfl ?_
    refine gr_X12_42 (pc := 20) dX12_kissingBy_20 z_0_47 rfl ?_
    refine gz_iload (pc := 23) dX12_kissingBy_23 rfl ?_
    obtain ⟨b16, h⟩ := gz_gd h
    refine gz_iald2 (pc := 25) dX12_kissingBy_25 (k := (a1 &&& (((1 : Int32) <<< (v2 &&& 31)) ^^^ (-1))).toNatClampNeg) (v := I 0 56 ((a1 &&& (((1 : Int32) <<< (v2 &&& 31)) ^^^ (-1))).toNatClampNeg)) z_0_56 rfl b16 rfl rfl ?_
    cases h; exact gz_iret (pc := 26) dX12_kissingBy_26 rfl ⟨rfl, rfl⟩
/-! X12_laysKissing: laysKissing -/
def gP_X12_laysKissing_21 (g : gzG) (d : Nat) (r : Unit × gzIT × gzJT) (x1 : Int32) (x2 : Int32) (x3 : Int32) (I : gzIT) (J : gzJT) : Prop := gzX g 0 (d + 5) mX12_laysKissing 21 [some (.inr (.inr (0, 47))), some (.inl x1), some (.inl x2), some (.inl x3)] [] (gzN, gzR0, I, J) 0 (gzE (.ok none) (gzN, gzR0, r.2.1, r.2.2))
def gP_X12_laysKissing_9 (g : gzG) (d : Nat) (r : Unit × gzIT × gzJT) (x1 : Int32) (I : gzIT) (J : gzJT) : Prop := gzX g 0 (d + 5) mX12_laysKissing 9 [some (.inr (.inr (0, 47))), some (.inl x1), none, none] [] (gzN, gzR0, I, J) 0 (gzE (.ok none) (gzN, gzR0, r.2.1, r.2.2))
def f_X12_laysKissing_21 (φ : Nat) (K9 : Int32 → gzIT → gzJT → Option (Unit × gzIT × gzJT)) : Nat → Int32 → Int32 → Int32 → gzIT → gzJT → Option (Unit × gzIT × gzJT)
  | 0, _, _, _, _, _ => none
  | k + 1, x1, x2, x3, I, J => Option.bind (f_X12_families I) (fun v4 => if v4 ≤ x3 then (gzGd (x1) 64 (K9 (x1 + 1) (gz_ui I 0 56 x1.toNatClampNeg x2) J)) else (Option.bind (f_X12_kissingBy φ I x1 x3) (fun v7 => f_X12_laysKissing_21 φ K9 k x1 (if x2 < v7 then v7 else x2) (x3 + 1) I J)))
set_option maxRecDepth 20000 in
theorem p_X12_laysKissing_21 {g : gzG} {d φ : Nat} {r : Unit × gzIT × gzJT} {K9 : Int32 → gzIT → gzJT → Option (Unit × gzIT × gzJT)} (hK9 : ∀ (x1 : Int32) (I : gzIT) (J : gzJT), K9 x1 I J = some r → gP_X12_laysKissing_9 g d r x1 I J) : ∀ (k : Nat) (x1 : Int32) (x2 : Int32) (x3 : Int32) (I : gzIT) (J : gzJT), f_X12_laysKissing_21 φ K9 k x1 x2 x3 I J = some r → gP_X12_laysKissing_21 g d r x1 x2 x3 I J := by
  intro k; induction k with
  | zero => intro x1 x2 x3 I J h; cases h
  | succ k ih =>
    intro x1 x2 x3 I J h
    unfold f_X12_laysKissing_21 at h
    unfold gP_X12_laysKissing_21
    have z_0_47 : gzOk 0 47 gzN := gzOk_of (by decide)
    have z_0_56 : gzOk 0 56 gzN := gzOk_of (by decide)
    refine gz_iload_n (pc := 21) dX12_laysKissing_21 rfl ?_
    refine gz_aload_n (pc := 22) dX12_laysKissing_22 rfl ?_
    refine gz_V (zy := mX12_families) (zc := 0) (pc := 23) [] rfl dX12_laysKissing_23 lkX12_59 MvX12_families rfl z_0_47 rfl rfl rfl (Or.inl rfl) (fun h => h) (by exact Nat.le_of_ble_eq_true rfl) ?_
    obtain ⟨v4, e3, h⟩ := gz_bd h
    refine gz_useI (c_X12_families e3) ?_
    refine gz_ic_ge (pc := 26) (tgt := 46) dX12_laysKissing_26 (by decide) (fun c => ?_) (fun c => ?_)
    · replace h := gz_ifp c h
      refine gz_aload_n (pc := 46) dX12_laysKissing_46 rfl ?_
      refine gr_X12_42 (pc := 47) dX12_laysKissing_47 z_0_47 rfl ?_
      refine gz_iload_n (pc := 50) dX12_laysKissing_50 rfl ?_
      refine gz_iload_n (pc := 51) dX12_laysKissing_51 rfl ?_
      obtain ⟨b5, h⟩ := gz_gd h
      refine gz_iast2 (pc := 52) dX12_laysKissing_52 (k := x1.toNatClampNeg) z_0_56 rfl b5 rfl ?_
      refine gz_iinc (pc := 53) dX12_laysKissing_53 (x := x1) (v := x1 + 1) rfl (by rw [show Int32.ofInt 1 = 1 by decide]) (by decide) rfl (loc2 := [some (.inr (.inr (0, 47))), some (.inl (x1 + 1)), some (.inl x2), some (.inl x3)]) rfl ?_
      refine gz_goto (pc := 56) (tgt := 9) dX12_laysKissing_56 (by decide) ?_
      exact gz_weak (loc2 := [some (.inr (.inr (0, 47))), some (.inl (x1 + 1)), none, none]) (hK9 (x1 + 1) (gz_ui I 0 56 x1.toNatClampNeg x2) J h) (by repeat (first | exact trivial | refine ⟨rfl, ?_⟩))
    · replace h := gz_ifn c h
      refine gz_iload_n (pc := 29) dX12_laysKissing_29 rfl ?_
      refine gz_aload_n (pc := 30) dX12_laysKissing_30 rfl ?_
      refine gz_iload_n (pc := 31) dX12_laysKissing_31 rfl ?_
      refine gz_iload_n (pc := 32) dX12_laysKissing_32 rfl ?_
      refine gz_V (zy := mX12_kissingBy) (zc := 0) (pc := 33) [.inl x1, .inl x3] rfl dX12_laysKissing_33 lkX12_426 MvX12_kissingBy rfl z_0_47 rfl rfl rfl (Or.inl rfl) (fun h => h) (by exact Nat.le_of_ble_eq_true rfl) ?_
      obtain ⟨v7, e6, h⟩ := gz_bd h
      refine gz_useI (c_X12_kissingBy e6) ?_
      refine gx_X12_310 (pc := 36) dX12_laysKissing_36 (Nat.le_of_ble_eq_true rfl) rfl ?_
      refine gz_istore_n (pc := 39) dX12_laysKissing_39 (by decide) rfl (loc2 := [some (.inr (.inr (0, 47))), some (.inl x1), some (.inl (if x2 < v7 then v7 else x2)), some (.inl x3)]) rfl ?_
      refine gz_iinc (pc := 40) dX12_laysKissing_40 (x := x3) (v := x3 + 1) rfl (by rw [show Int32.ofInt 1 = 1 by decide]) (by decide) rfl (loc2 := [some (.inr (.inr (0, 47))), some (.inl x1), some (.inl (if x2 < v7 then v7 else x2)), some (.inl (x3 + 1))]) rfl ?_
      refine gz_goto (pc := 43) (tgt := 21) dX12_laysKissing_43 (by decide) ?_
      exact ih x1 (if x2 < v7 then v7 else x2) (x3 + 1) I J h
def f_X12_laysKissing_9 (φ : Nat) : Nat → Int32 → gzIT → gzJT → Option (Unit × gzIT × gzJT)
  | 0, _, _, _ => none
  | k + 1, x1, I, J => Option.bind (f_X12_allFamilies I) (fun v2 => if v2 < x1 then (some ((), I, J)) else (f_X12_laysKissing_21 φ (f_X12_laysKissing_9 φ k) φ x1 0 (-1) I J))
set_option maxRecDepth 20000 in
theorem p_X12_laysKissing_9 {g : gzG} {d φ : Nat} {r : Unit × gzIT × gzJT} : ∀ (k : Nat) (x1 : Int32) (I : gzIT) (J : gzJT), f_X12_laysKissing_9 φ k x1 I J = some r → gP_X12_laysKissing_9 g d r x1 I J := by
  intro k; induction k with
  | zero => intro x1 I J h; cases h
  | succ k ih =>
    intro x1 I J h
    unfold f_X12_laysKissing_9 at h
    unfold gP_X12_laysKissing_9
    have z_0_47 : gzOk 0 47 gzN := gzOk_of (by decide)
    refine gz_iload_n (pc := 9) dX12_laysKissing_9 rfl ?_
    refine gz_aload_n (pc := 10) dX12_laysKissing_10 rfl ?_
    refine gz_V (zy := mX12_allFamilies) (zc := 0) (pc := 11) [] rfl dX12_laysKissing_11 lkX12_387 MvX12_allFamilies rfl z_0_47 rfl rfl rfl (Or.inl rfl) (fun h => h) (by exact Nat.le_of_ble_eq_true rfl) ?_
    obtain ⟨v2, e1, h⟩ := gz_bd h
    refine gz_useI (c_X12_allFamilies e1) ?_
    refine gz_ic_gt (pc := 14) (tgt := 59) dX12_laysKissing_14 (by decide) (fun c => ?_) (fun c => ?_)
    · replace h := gz_ifp c h
      cases h; exact gz_vret (pc := 59) dX12_laysKissing_59 rfl ⟨rfl, rfl⟩
    · replace h := gz_ifn c h
      refine gz_iconst (pc := 17) dX12_laysKissing_17 (v := 0) (by decide) ?_
      refine gz_istore_n (pc := 18) dX12_laysKissing_18 (by decide) rfl (loc2 := [some (.inr (.inr (0, 47))), some (.inl x1), some (.inl 0), none]) rfl ?_
      refine gz_iconst (pc := 19) dX12_laysKissing_19 (v := (-1)) (by decide) ?_
      refine gz_istore_n (pc := 20) dX12_laysKissing_20 (by decide) rfl (loc2 := [some (.inr (.inr (0, 47))), some (.inl x1), some (.inl 0), some (.inl (-1))]) rfl ?_
      exact p_X12_laysKissing_21 ih φ x1 0 (-1) I J h
def f_X12_laysKissing (φ : Nat) (I : gzIT) (J : gzJT) : Option (Unit × gzIT × gzJT) := f_X12_laysKissing_9 φ φ 1 (gz_ui I 0 56 0 0) J
set_option maxRecDepth 20000 in
theorem c_X12_laysKissing {g : gzG} {d φ : Nat} {I : gzIT} {J : gzJT} {r : Unit × gzIT × gzJT} (h : f_X12_laysKissing φ I J = some r) : gzC g 0 (d + 5) mX12_laysKissing [.inr (.inr (0, 47))] (gzN, gzR0, I, J) (gzE (.ok none) (gzN, gzR0, r.2.1, r.2.2)) := by
  unfold f_X12_laysKissing at h
  refine gzC_of (by decide +kernel) (Nat.le_of_ble_eq_true rfl) (loc := [some (.inr (.inr (0, 47))), none, none, none]) rfl ?_
  have z_0_47 : gzOk 0 47 gzN := gzOk_of (by decide)
  have z_0_56 : gzOk 0 56 gzN := gzOk_of (by decide)
  refine gz_aload_n (pc := 0) dX12_laysKissing_0 rfl ?_
  refine gr_X12_42 (pc := 1) dX12_laysKissing_1 z_0_47 rfl ?_
  refine gz_iconst (pc := 4) dX12_laysKissing_4 (v := 0) (by decide) ?_
  refine gz_iconst (pc := 5) dX12_laysKissing_5 (v := 0) (by decide) ?_
  refine gz_iast2 (pc := 6) dX12_laysKissing_6 (k := 0) z_0_56 rfl (gz_vpd (by decide)) (by decide) ?_
  refine gz_iconst (pc := 7) dX12_laysKissing_7 (v := 1) (by decide) ?_
  refine gz_istore_n (pc := 8) dX12_laysKissing_8 (by decide) rfl (loc2 := [some (.inr (.inr (0, 47))), some (.inl 1), none, none]) rfl ?_
  exact p_X12_laysKissing_9 φ 1 (gz_ui I 0 56 0 0) J h
/-! X12_kisses: kisses -/
def gP_X12_kisses_110 (g : gzG) (d : Nat) (r : Int32 × gzIT × gzJT) (x1 : Int32) (x2 : Int32) (x5 : Int32) (x6 : Int32) (I : gzIT) (J : gzJT) : Prop := gzX g 0 (d + 6) mX12_kisses 110 [some (.inr (.inr (0, 47))), some (.inl x1), some (.inl x2), none, none, some (.inl x5), some (.inl x6)] [] (gzN, gzR0, I, J) 0 (gzE (.ok (some (.inl r.1))) (gzN, gzR0, r.2.1, r.2.2))
def gP_X12_kisses_76 (g : gzG) (d : Nat) (r : Int32 × gzIT × gzJT) (x1 : Int32) (x2 : Int32) (x5 : Int32) (x6 : Int32) (I : gzIT) (J : gzJT) : Prop := gzX g 0 (d + 6) mX12_kisses 76 [some (.inr (.inr (0, 47))), some (.inl x1), some (.inl x2), none, none, some (.inl x5), some (.inl x6)] [] (gzN, gzR0, I, J) 0 (gzE (.ok (some (.inl r.1))) (gzN, gzR0, r.2.1, r.2.2))
def gP_X12_kisses_62 (g : gzG) (d : Nat) (r : Int32 × gzIT × gzJT) (x1 : Int32) (x2 : Int32) (x3 : Int32) (x4 : Int32) (I : gzIT) (J : gzJT) : Prop := gzX g 0 (d + 6) mX12_kisses 62 [some (.inr (.inr (0, 47))), some (.inl x1), some (.inl x2), some (.inl x3), some (.inl x4), none, none] [] (gzN, gzR0, I, J) 0 (gzE (.ok (some (.inl r.1))) (gzN, gzR0, r.2.1, r.2.2))
def f_X12_kisses_110 (φ : Nat) (K62 : Int32 → Int32 → Int32 → Int32 → gzIT → gzJT → Option (Int32 × gzIT × gzJT)) (x1 : Int32) (x2 : Int32) (x5 : Int32) (x6 : Int32) (I : gzIT) (J : gzJT) : Option (Int32 × gzIT × gzJT) := if ¬ x6 = (-1) then (K62 x1 ((x2 &&& (((1 : Int32) <<< (x5 &&& 31)) ^^^ (-1))) &&& (((1 : Int32) <<< (x6 &&& 31)) ^^^ (-1))) (if ¬ x5 = x1 then (x5 : Int32) else x6) 1 I J) else (K62 x1 (x2 &&& (((1 : Int32) <<< (x5 &&& 31)) ^^^ (-1))) (if ¬ x5 = x1 then (x5 : Int32) else x6) 1 I J)
set_option maxRecDepth 20000 in
theorem p_X12_kisses_110 {g : gzG} {d φ : Nat} {r : Int32 × gzIT × gzJT} {K62 : Int32 → Int32 → Int32 → Int32 → gzIT → gzJT → Option (Int32 × gzIT × gzJT)} (hK62 : ∀ (x1 : Int32) (x2 : Int32) (x3 : Int32) (x4 : Int32) (I : gzIT) (J : gzJT), K62 x1 x2 x3 x4 I J = some r → gP_X12_kisses_62 g d r x1 x2 x3 x4 I J) (x1 : Int32) (x2 : Int32) (x5 : Int32) (x6 : Int32) (I : gzIT) (J : gzJT) (h : f_X12_kisses_110 φ K62 x1 x2 x5 x6 I J = some r) : gP_X12_kisses_110 g d r x1 x2 x5 x6 I J := by
  unfold f_X12_kisses_110 at h
  unfold gP_X12_kisses_110
  refine gz_iconst (pc := 110) dX12_kisses_110 (v := 1) (by decide) ?_
  refine gz_goto (pc := 111) (tgt := 115) dX12_kisses_111 (by decide) ?_
  refine gz_istore (pc := 115) dX12_kisses_115 (by decide) rfl (loc2 := [some (.inr (.inr (0, 47))), some (.inl x1), some (.inl x2), none, some (.inl 1), some (.inl x5), some (.inl x6)]) rfl ?_
  refine gz_iload (pc := 117) dX12_kisses_117 rfl ?_
  refine gz_iload_n (pc := 119) dX12_kisses_119 rfl ?_
  have kj37 : gzX g 0 (d + 6) mX12_kisses 130 [some (.inr (.inr (0, 47))), some (.inl x1), some (.inl x2), none, some (.inl 1), some (.inl x5), some (.inl x6)] ([.inl (if ¬ x5 = x1 then (x5 : Int32) else x6)]) (gzN, gzR0, I, J) 0 (gzE (.ok (some (.inl r.1))) (gzN, gzR0, r.2.1, r.2.2)) := by
    refine gz_istore_n (pc := 130) dX12_kisses_130 (by decide) rfl (loc2 := [some (.inr (.inr (0, 47))), some (.inl x1), some (.inl x2), some (.inl (if ¬ x5 = x1 then (x5 : Int32) else x6)), some (.inl 1), some (.inl x5), some (.inl x6)]) rfl ?_
    refine gz_iload_n (pc := 131) dX12_kisses_131 rfl ?_
    refine gz_iconst (pc := 132) dX12_kisses_132 (v := 1) (by decide) ?_
    refine gz_iload (pc := 133) dX12_kisses_133 rfl ?_
    refine gz_ishl (pc := 135) dX12_kisses_135  ?_
    refine gz_iconst (pc := 136) dX12_kisses_136 (v := (-1)) (by decide) ?_
    refine gz_ixor (pc := 137) dX12_kisses_137  ?_
    refine gz_iand (pc := 138) dX12_kisses_138  ?_
    refine gz_istore_n (pc := 139) dX12_kisses_139 (by decide) rfl (loc2 := [some (.inr (.inr (0, 47))), some (.inl x1), some (.inl (x2 &&& (((1 : Int32) <<< (x5 &&& 31)) ^^^ (-1)))), some (.inl (if ¬ x5 = x1 then (x5 : Int32) else x6)), some (.inl 1), some (.inl x5), some (.inl x6)]) rfl ?_
    refine gz_iload (pc := 140) dX12_kisses_140 rfl ?_
    refine gz_iconst (pc := 142) dX12_kisses_142 (v := (-1)) (by decide) ?_
    refine gz_ic_ne (pc := 143) (tgt := 150) dX12_kisses_143 (by decide) (fun c => ?_) (fun c => ?_)
    · replace h := gz_ifp c h
      refine gz_iload_n (pc := 150) dX12_kisses_150 rfl ?_
      refine gz_iconst (pc := 151) dX12_kisses_151 (v := 1) (by decide) ?_
      refine gz_iload (pc := 152) dX12_kisses_152 rfl ?_
      refine gz_ishl (pc := 154) dX12_kisses_154  ?_
      refine gz_iconst (pc := 155) dX12_kisses_155 (v := (-1)) (by decide) ?_
      refine gz_ixor (pc := 156) dX12_kisses_156  ?_
      refine gz_iand (pc := 157) dX12_kisses_157  ?_
      refine gz_istore_n (pc := 158) dX12_kisses_158 (by decide) rfl (loc2 := [some (.inr (.inr (0, 47))), some (.inl x1), some (.inl ((x2 &&& (((1 : Int32) <<< (x5 &&& 31)) ^^^ (-1))) &&& (((1 : Int32) <<< (x6 &&& 31)) ^^^ (-1)))), some (.inl (if ¬ x5 = x1 then (x5 : Int32) else x6)), some (.inl 1), some (.inl x5), some (.inl x6)]) rfl ?_
      refine gz_goto (pc := 159) (tgt := 62) dX12_kisses_159 (by decide) ?_
      exact gz_weak (loc2 := [some (.inr (.inr (0, 47))), some (.inl x1), some (.inl ((x2 &&& (((1 : Int32) <<< (x5 &&& 31)) ^^^ (-1))) &&& (((1 : Int32) <<< (x6 &&& 31)) ^^^ (-1)))), some (.inl (if ¬ x5 = x1 then (x5 : Int32) else x6)), some (.inl 1), none, none]) (hK62 x1 ((x2 &&& (((1 : Int32) <<< (x5 &&& 31)) ^^^ (-1))) &&& (((1 : Int32) <<< (x6 &&& 31)) ^^^ (-1))) (if ¬ x5 = x1 then (x5 : Int32) else x6) 1 I J h) (by repeat (first | exact trivial | refine ⟨rfl, ?_⟩))
    · replace h := gz_ifn (fun q => q c) h
      refine gz_iload_n (pc := 146) dX12_kisses_146 rfl ?_
      refine gz_goto (pc := 147) (tgt := 158) dX12_kisses_147 (by decide) ?_
      refine gz_istore_n (pc := 158) dX12_kisses_158 (by decide) rfl (loc2 := [some (.inr (.inr (0, 47))), some (.inl x1), some (.inl (x2 &&& (((1 : Int32) <<< (x5 &&& 31)) ^^^ (-1)))), some (.inl (if ¬ x5 = x1 then (x5 : Int32) else x6)), some (.inl 1), some (.inl x5), some (.inl x6)]) rfl ?_
      refine gz_goto (pc := 159) (tgt := 62) dX12_kisses_159 (by decide) ?_
      exact gz_weak (loc2 := [some (.inr (.inr (0, 47))), some (.inl x1), some (.inl (x2 &&& (((1 : Int32) <<< (x5 &&& 31)) ^^^ (-1)))), some (.inl (if ¬ x5 = x1 then (x5 : Int32) else x6)), some (.inl 1), none, none]) (hK62 x1 (x2 &&& (((1 : Int32) <<< (x5 &&& 31)) ^^^ (-1))) (if ¬ x5 = x1 then (x5 : Int32) else x6) 1 I J h) (by repeat (first | exact trivial | refine ⟨rfl, ?_⟩))
  refine gz_ic_ne (pc := 120) (tgt := 128) dX12_kisses_120 (by decide) (fun c => ?_) (fun c => ?_)
  · rw [if_pos c] at kj37
    refine gz_iload (pc := 128) dX12_kisses_128 rfl ?_
    exact kj37
  · rw [if_neg (show ¬ (¬ x5 = x1) from fun q => q c)] at kj37
    refine gz_iload (pc := 123) dX12_kisses_123 rfl ?_
    refine gz_goto (pc := 125) (tgt := 130) dX12_kisses_125 (by decide) ?_
    exact kj37
def f_X12_kisses_76 (φ : Nat) (K62 : Int32 → Int32 → Int32 → Int32 → gzIT → gzJT → Option (Int32 × gzIT × gzJT)) : Nat → Int32 → Int32 → Int32 → Int32 → gzIT → gzJT → Option (Int32 × gzIT × gzJT)
  | 0, _, _, _, _, _, _ => none
  | k + 1, x1, x2, x5, x6, I, J => Option.bind (f_X12_kissingBy φ I x2 x6) (fun v33 => gzGd (x2) 64 (if v33 = I 0 56 x2.toNatClampNeg then (if x5 = x1 then (f_X12_kisses_110 φ K62 x1 x2 x5 x6 I J) else (if ¬ x6 = (-1) then (K62 x1 ((x2 &&& (((1 : Int32) <<< (x5 &&& 31)) ^^^ (-1))) &&& (((1 : Int32) <<< (x6 &&& 31)) ^^^ (-1))) (if ¬ x5 = x1 then (x5 : Int32) else x6) (if ¬ x6 = x1 then (0 : Int32) else 1) I J) else (K62 x1 (x2 &&& (((1 : Int32) <<< (x5 &&& 31)) ^^^ (-1))) (if ¬ x5 = x1 then (x5 : Int32) else x6) (if ¬ x6 = x1 then (0 : Int32) else 1) I J))) else (f_X12_kisses_76 φ K62 k x1 x2 x5 (x6 + 1) I J)))
set_option maxRecDepth 20000 in
theorem p_X12_kisses_76 {g : gzG} {d φ : Nat} {r : Int32 × gzIT × gzJT} {K62 : Int32 → Int32 → Int32 → Int32 → gzIT → gzJT → Option (Int32 × gzIT × gzJT)} (hK62 : ∀ (x1 : Int32) (x2 : Int32) (x3 : Int32) (x4 : Int32) (I : gzIT) (J : gzJT), K62 x1 x2 x3 x4 I J = some r → gP_X12_kisses_62 g d r x1 x2 x3 x4 I J) : ∀ (k : Nat) (x1 : Int32) (x2 : Int32) (x5 : Int32) (x6 : Int32) (I : gzIT) (J : gzJT), f_X12_kisses_76 φ K62 k x1 x2 x5 x6 I J = some r → gP_X12_kisses_76 g d r x1 x2 x5 x6 I J := by
  intro k; induction k with
  | zero => intro x1 x2 x5 x6 I J h; cases h
  | succ k ih =>
    intro x1 x2 x5 x6 I J h
    unfold f_X12_kisses_76 at h
    unfold gP_X12_kisses_76
    have z_0_47 : gzOk 0 47 gzN := gzOk_of (by decide)
    have z_0_56 : gzOk 0 56 gzN := gzOk_of (by decide)
    refine gz_aload_n (pc := 76) dX12_kisses_76 rfl ?_
    refine gz_iload_n (pc := 77) dX12_kisses_77 rfl ?_
    refine gz_iload (pc := 78) dX12_kisses_78 rfl ?_
    refine gz_V (zy := mX12_kissingBy) (zc := 0) (pc := 80) [.inl x2, .inl x6] rfl dX12_kisses_80 lkX12_426 MvX12_kissingBy rfl z_0_47 rfl rfl rfl (Or.inl rfl) (fun h => h) (by exact Nat.le_of_ble_eq_true rfl) ?_
    obtain ⟨v33, e32, h⟩ := gz_bd h
    refine gz_useI (c_X12_kissingBy e32) ?_
    refine gz_aload_n (pc := 83) dX12_kisses_83 rfl ?_
    refine gr_X12_42 (pc := 84) dX12_kisses_84 z_0_47 rfl ?_
    refine gz_iload_n (pc := 87) dX12_kisses_87 rfl ?_
    obtain ⟨b34, h⟩ := gz_gd h
    refine gz_iald2 (pc := 88) dX12_kisses_88 (k := x2.toNatClampNeg) (v := I 0 56 x2.toNatClampNeg) z_0_56 rfl b34 rfl rfl ?_
    refine gz_ic_eq (pc := 89) (tgt := 98) dX12_kisses_89 (by decide) (fun c => ?_) (fun c => ?_)
    · replace h := gz_ifp c h
      refine gz_iload (pc := 98) dX12_kisses_98 rfl ?_
      refine gz_iload_n (pc := 100) dX12_kisses_100 rfl ?_
      refine gz_ic_eq (pc := 101) (tgt := 110) dX12_kisses_101 (by decide) (fun c => ?_) (fun c => ?_)
      · replace h := gz_ifp c h
        exact p_X12_kisses_110 hK62 x1 x2 x5 x6 I J h
      · replace h := gz_ifn c h
        refine gz_iload (pc := 104) dX12_kisses_104 rfl ?_
        refine gz_iload_n (pc := 106) dX12_kisses_106 rfl ?_
        have kj35 : gzX g 0 (d + 6) mX12_kisses 115 [some (.inr (.inr (0, 47))), some (.inl x1), some (.inl x2), none, none, some (.inl x5), some (.inl x6)] ([.inl (if ¬ x6 = x1 then (0 : Int32) else 1)]) (gzN, gzR0, I, J) 0 (gzE (.ok (some (.inl r.1))) (gzN, gzR0, r.2.1, r.2.2)) := by
          refine gz_istore (pc := 115) dX12_kisses_115 (by decide) rfl (loc2 := [some (.inr (.inr (0, 47))), some (.inl x1), some (.inl x2), none, some (.inl (if ¬ x6 = x1 then (0 : Int32) else 1)), some (.inl x5), some (.inl x6)]) rfl ?_
          refine gz_iload (pc := 117) dX12_kisses_117 rfl ?_
          refine gz_iload_n (pc := 119) dX12_kisses_119 rfl ?_
          have kj36 : gzX g 0 (d + 6) mX12_kisses 130 [some (.inr (.inr (0, 47))), some (.inl x1), some (.inl x2), none, some (.inl (if ¬ x6 = x1 then (0 : Int32) else 1)), some (.inl x5), some (.inl x6)] ([.inl (if ¬ x5 = x1 then (x5 : Int32) else x6)]) (gzN, gzR0, I, J) 0 (gzE (.ok (some (.inl r.1))) (gzN, gzR0, r.2.1, r.2.2)) := by
            refine gz_istore_n (pc := 130) dX12_kisses_130 (by decide) rfl (loc2 := [some (.inr (.inr (0, 47))), some (.inl x1), some (.inl x2), some (.inl (if ¬ x5 = x1 then (x5 : Int32) else x6)), some (.inl (if ¬ x6 = x1 then (0 : Int32) else 1)), some (.inl x5), some (.inl x6)]) rfl ?_
            refine gz_iload_n (pc := 131) dX12_kisses_131 rfl ?_
            refine gz_iconst (pc := 132) dX12_kisses_132 (v := 1) (by decide) ?_
            refine gz_iload (pc := 133) dX12_kisses_133 rfl ?_
            refine gz_ishl (pc := 135) dX12_kisses_135  ?_
            refine gz_iconst (pc := 136) dX12_kisses_136 (v := (-1)) (by decide) ?_
            refine gz_ixor (pc := 137) dX12_kisses_137  ?_
            refine gz_iand (pc := 138) dX12_kisses_138  ?_
            refine gz_istore_n (pc := 139) dX12_kisses_139 (by decide) rfl (loc2 := [some (.inr (.inr (0, 47))), some (.inl x1), some (.inl (x2 &&& (((1 : Int32) <<< (x5 &&& 31)) ^^^ (-1)))), some (.inl (if ¬ x5 = x1 then (x5 : Int32) else x6)), some (.inl (if ¬ x6 = x1 then (0 : Int32) else 1)), some (.inl x5), some (.inl x6)]) rfl ?_
            refine gz_iload (pc := 140) dX12_kisses_140 rfl ?_
            refine gz_iconst (pc := 142) dX12_kisses_142 (v := (-1)) (by decide) ?_
            refine gz_ic_ne (pc := 143) (tgt := 150) dX12_kisses_143 (by decide) (fun c => ?_) (fun c => ?_)
            · replace h := gz_ifp c h
              refine gz_iload_n (pc := 150) dX12_kisses_150 rfl ?_
              refine gz_iconst (pc := 151) dX12_kisses_151 (v := 1) (by decide) ?_
              refine gz_iload (pc := 152) dX12_kisses_152 rfl ?_
              refine gz_ishl (pc := 154) dX12_kisses_154  ?_
              refine gz_iconst (pc := 155) dX12_kisses_155 (v := (-1)) (by decide) ?_
              refine gz_ixor (pc := 156) dX12_kisses_156  ?_
              refine gz_iand (pc := 157) dX12_kisses_157  ?_
              refine gz_istore_n (pc := 158) dX12_kisses_158 (by decide) rfl (loc2 := [some (.inr (.inr (0, 47))), some (.inl x1), some (.inl ((x2 &&& (((1 : Int32) <<< (x5 &&& 31)) ^^^ (-1))) &&& (((1 : Int32) <<< (x6 &&& 31)) ^^^ (-1)))), some (.inl (if ¬ x5 = x1 then (x5 : Int32) else x6)), some (.inl (if ¬ x6 = x1 then (0 : Int32) else 1)), some (.inl x5), some (.inl x6)]) rfl ?_
              refine gz_goto (pc := 159) (tgt := 62) dX12_kisses_159 (by decide) ?_
              exact gz_weak (loc2 := [some (.inr (.inr (0, 47))), some (.inl x1), some (.inl ((x2 &&& (((1 : Int32) <<< (x5 &&& 31)) ^^^ (-1))) &&& (((1 : Int32) <<< (x6 &&& 31)) ^^^ (-1)))), some (.inl (if ¬ x5 = x1 then (x5 : Int32) else x6)), some (.inl (if ¬ x6 = x1 then (0 : Int32) else 1)), none, none]) (hK62 x1 ((x2 &&& (((1 : Int32) <<< (x5 &&& 31)) ^^^ (-1))) &&& (((1 : Int32) <<< (x6 &&& 31)) ^^^ (-1))) (if ¬ x5 = x1 then (x5 : Int32) else x6) (if ¬ x6 = x1 then (0 : Int32) else 1) I J h) (by repeat (first | exact trivial | refine ⟨rfl, ?_⟩))
            · replace h := gz_ifn (fun q => q c) h
              refine gz_iload_n (pc := 146) dX12_kisses_146 rfl ?_
              refine gz_goto (pc := 147) (tgt := 158) dX12_kisses_147 (by decide) ?_
              refine gz_istore_n (pc := 158) dX12_kisses_158 (by decide) rfl (loc2 := [some (.inr (.inr (0, 47))), some (.inl x1), some (.inl (x2 &&& (((1 : Int32) <<< (x5 &&& 31)) ^^^ (-1)))), some (.inl (if ¬ x5 = x1 then (x5 : Int32) else x6)), some (.inl (if ¬ x6 = x1 then (0 : Int32) else 1)), some (.inl x5), some (.inl x6)]) rfl ?_
              refine gz_goto (pc := 159) (tgt := 62) dX12_kisses_159 (by decide) ?_
              exact gz_weak (loc2 := [some (.inr (.inr (0, 47))), some (.inl x1), some (.inl (x2 &&& (((1 : Int32) <<< (x5 &&& 31)) ^^^ (-1)))), some (.inl (if ¬ x5 = x1 then (x5 : Int32) else x6)), some (.inl (if ¬ x6 = x1 then (0 : Int32) else 1)), none, none]) (hK62 x1 (x2 &&& (((1 : Int32) <<< (x5 &&& 31)) ^^^ (-1))) (if ¬ x5 = x1 then (x5 : Int32) else x6) (if ¬ x6 = x1 then (0 : Int32) else 1) I J h) (by repeat (first | exact trivial | refine ⟨rfl, ?_⟩))
          refine gz_ic_ne (pc := 120) (tgt := 128) dX12_kisses_120 (by decide) (fun c => ?_) (fun c => ?_)
          · rw [if_pos c] at kj36
            refine gz_iload (pc := 128) dX12_kisses_128 rfl ?_
            exact kj36
          · rw [if_neg (show ¬ (¬ x5 = x1) from fun q => q c)] at kj36
            refine gz_iload (pc := 123) dX12_kisses_123 rfl ?_
            refine gz_goto (pc := 125) (tgt := 130) dX12_kisses_125 (by decide) ?_
            exact kj36
        refine gz_ic_ne (pc := 107) (tgt := 114) dX12_kisses_107 (by decide) (fun c => ?_) (fun c => ?_)
        · rw [if_pos c] at kj35
          refine gz_iconst (pc := 114) dX12_kisses_114 (v := 0) (by decide) ?_
          exact kj35
        · rw [if_neg (show ¬ (¬ x6 = x1) from fun q => q c)] at kj35
          refine gz_iconst (pc := 110) dX12_kisses_110 (v := 1) (by decide) ?_
          refine gz_goto (pc := 111) (tgt := 115) dX12_kisses_111 (by decide) ?_
          exact kj35
    · replace h := gz_ifn c h
      refine gz_iinc (pc := 92) dX12_kisses_92 (x := x6) (v := x6 + 1) rfl (by rw [show Int32.ofInt 1 = 1 by decide]) (by decide) rfl (loc2 := [some (.inr (.inr (0, 47))), some (.inl x1), some (.inl x2), none, none, some (.inl x5), some (.inl (x6 + 1))]) rfl ?_
      refine gz_goto (pc := 95) (tgt := 76) dX12_kisses_95 (by decide) ?_
      exact ih x1 x2 x5 (x6 + 1) I J h
def f_X12_kisses_62 (φ : Nat) : Nat → Int32 → Int32 → Int32 → Int32 → gzIT → gzJT → Option (Int32 × gzIT × gzJT)
  | 0, _, _, _, _, _, _ => none
  | k + 1, x1, x2, x3, x4, I, J => if ¬ x4 = 0 then (some (x3, I, J)) else (Option.bind (f_X12_firstOf x2) (fun v31 => f_X12_kisses_76 φ (f_X12_kisses_62 φ k) φ x1 x2 v31 (-1) I J))
set_option maxRecDepth 20000 in
theorem p_X12_kisses_62 {g : gzG} {d φ : Nat} {r : Int32 × gzIT × gzJT} : ∀ (k : Nat) (x1 : Int32) (x2 : Int32) (x3 : Int32) (x4 : Int32) (I : gzIT) (J : gzJT), f_X12_kisses_62 φ k x1 x2 x3 x4 I J = some r → gP_X12_kisses_62 g d r x1 x2 x3 x4 I J := by
  intro k; induction k with
  | zero => intro x1 x2 x3 x4 I J h; cases h
  | succ k ih =>
    intro x1 x2 x3 x4 I J h
    unfold f_X12_kisses_62 at h
    unfold gP_X12_kisses_62
    refine gz_iload (pc := 62) dX12_kisses_62 rfl ?_
    refine gz_if_ne (pc := 64) (tgt := 162) dX12_kisses_64 (by decide) (fun c => ?_) (fun c => ?_)
    · replace h := gz_ifp c h
      refine gz_iload_n (pc := 162) dX12_kisses_162 rfl ?_
      cases h; exact gz_iret (pc := 163) dX12_kisses_163 rfl ⟨rfl, rfl⟩
    · replace h := gz_ifn (fun q => q c) h
      refine gz_iload_n (pc := 67) dX12_kisses_67 rfl ?_
      refine gz_S (zy := mX12_firstOf) (zc := 0) (pc := 68) [.inl x2] rfl dX12_kisses_68 lkX12_423 MsX12_firstOf rfl (Or.inl rfl) (fun h => h) (by exact Nat.le_of_ble_eq_true rfl) ?_
      obtain ⟨v31, e30, h⟩ := gz_bd h
      refine gz_useI (c_X12_firstOf e30) ?_
      refine gz_istore (pc := 71) dX12_kisses_71 (by decide) rfl (loc2 := [some (.inr (.inr (0, 47))), some (.inl x1), some (.inl x2), some (.inl x3), some (.inl x4), some (.inl v31), none]) rfl ?_
      refine gz_iconst (pc := 73) dX12_kisses_73 (v := (-1)) (by decide) ?_
      refine gz_istore (pc := 74) dX12_kisses_74 (by decide) rfl (loc2 := [some (.inr (.inr (0, 47))), some (.inl x1), some (.inl x2), some (.inl x3), some (.inl x4), some (.inl v31), some (.inl (-1))]) rfl ?_
      exact gz_weak (loc2 := [some (.inr (.inr (0, 47))), some (.inl x1), some (.inl x2), none, none, some (.inl v31), some (.inl (-1))]) (p_X12_kisses_76 ih φ x1 x2 v31 (-1) I J h) (by repeat (first | exact trivial | refine ⟨rfl, ?_⟩))
def f_X12_kisses (φ : Nat) (a1 : Int32) (I : gzIT) (J : gzJT) : Option (Int32 × gzIT × gzJT) := if a1 = (-1) then (Option.bind (f_X12_throwsIf 0 1 (gz_ui I 0 47 0 0) J) (fun v2 => if v2.1 = 0 then (Option.bind (f_X12_laysKissing φ v2.2.1 v2.2.2) (fun v4 => if ¬ a1 = (-1) then (Option.bind (f_X12_allFamilies v4.2.1) (fun v6 => f_X12_kisses_62 φ φ a1 v6 (-1) 0 v4.2.1 v4.2.2)) else (Option.bind (f_X12_allFamilies v4.2.1) (fun v8 => gzGd (v8) 64 (some ((v4.2.1 0 56 v8.toNatClampNeg), v4.2.1, v4.2.2)))))) else (some (0, v2.2.1, v2.2.2)))) else (Option.bind (f_X12_noFamily (gz_ui I 0 47 0 0) a1) (fun v11 => if v11 = 0 then (Option.bind (f_X12_throwsIf 0 1 (gz_ui I 0 47 0 0) J) (fun v13 => if v13.1 = 0 then (Option.bind (f_X12_laysKissing φ v13.2.1 v13.2.2) (fun v15 => if ¬ a1 = (-1) then (Option.bind (f_X12_allFamilies v15.2.1) (fun v17 => f_X12_kisses_62 φ φ a1 v17 (-1) 0 v15.2.1 v15.2.2)) else (Option.bind (f_X12_allFamilies v15.2.1) (fun v19 => gzGd (v19) 64 (some ((v15.2.1 0 56 v19.toNatClampNeg), v15.2.1, v15.2.2)))))) else (some (0, v13.2.1, v13.2.2)))) else (Option.bind (f_X12_throwsIf 1 1 (gz_ui I 0 47 0 0) J) (fun v22 => if v22.1 = 0 then (Option.bind (f_X12_laysKissing φ v22.2.1 v22.2.2) (fun v24 => if ¬ a1 = (-1) then (Option.bind (f_X12_allFamilies v24.2.1) (fun v26 => f_X12_kisses_62 φ φ a1 v26 (-1) 0 v24.2.1 v24.2.2)) else (Option.bind (f_X12_allFamilies v24.2.1) (fun v28 => gzGd (v28) 64 (some ((v24.2.1 0 56 v28.toNatClampNeg), v24.2.1, v24.2.2)))))) else (some (0, v22.2.1, v22.2.2))))))
set_option maxRecDepth 20000 in
theorem c_X12_kisses {g : gzG} {d φ : Nat} {a1 : Int32} {I : gzIT} {J : gzJT} {r : Int32 × gzIT × gzJT} (h : f_X12_kisses φ a1 I J = some r) : gzC g 0 (d + 6) mX12_kisses [.inr (.inr (0, 47)), .inl a1] (gzN, gzR0, I, J) (gzE (.ok (some (.inl r.1))) (gzN, gzR0, r.2.1, r.2.2)) := by
  unfold f_X12_kisses at h
  refine gzC_of (by decide +kernel) (Nat.le_of_ble_eq_true rfl) (loc := [some (.inr (.inr (0, 47))), some (.inl a1), none, none, none, none, none]) rfl ?_
  have z_0_47 : gzOk 0 47 gzN := gzOk_of (by decide)
  have z_0_56 : gzOk 0 56 gzN := gzOk_of (by decide)
  refine gz_aload_n (pc := 0) dX12_kisses_0 rfl ?_
  refine gz_iconst (pc := 1) dX12_kisses_1 (v := 0) (by decide) ?_
  refine gp_X12_3 (pc := 2) dX12_kisses_2 z_0_47 rfl ?_
  refine gz_aload_n (pc := 5) dX12_kisses_5 rfl ?_
  refine gz_iload_n (pc := 6) dX12_kisses_6 rfl ?_
  refine gz_iconst (pc := 7) dX12_kisses_7 (v := (-1)) (by decide) ?_
  refine gz_ic_eq (pc := 8) (tgt := 23) dX12_kisses_8 (by decide) (fun c => ?_) (fun c => ?_)
  · replace h := gz_ifp c h
    refine gz_iconst (pc := 23) dX12_kisses_23 (v := 0) (by decide) ?_
    refine gz_iconst (pc := 24) dX12_kisses_24 (v := 1) (by decide) ?_
    refine gz_V (zy := mX12_throwsIf) (zc := 0) (pc := 25) [.inl 0, .inl 1] rfl dX12_kisses_25 lkX12_269 MvX12_throwsIf rfl z_0_47 rfl rfl rfl (Or.inl rfl) (fun h => h) (by exact Nat.le_of_ble_eq_true rfl) ?_
    obtain ⟨v2, e1, h⟩ := gz_bd h
    refine gz_useI (c_X12_throwsIf e1) ?_
    refine gz_if_eq (pc := 28) (tgt := 33) dX12_kisses_28 (by decide) (fun c => ?_) (fun c => ?_)
    · replace h := gz_ifp c h
      refine gz_aload_n (pc := 33) dX12_kisses_33 rfl ?_
      refine gz_V (zy := mX12_laysKissing) (zc := 0) (pc := 34) [] rfl dX12_kisses_34 lkX12_429 MvX12_laysKissing rfl z_0_47 rfl rfl rfl (Or.inl rfl) (fun h => h) (by exact Nat.le_of_ble_eq_true rfl) ?_
      obtain ⟨v4, e3, h⟩ := gz_bd h
      refine gz_useV (c_X12_laysKissing e3) ?_
      refine gz_iload_n (pc := 37) dX12_kisses_37 rfl ?_
      refine gz_iconst (pc := 38) dX12_kisses_38 (v := (-1)) (by decide) ?_
      refine gz_ic_ne (pc := 39) (tgt := 52) dX12_kisses_39 (by decide) (fun c => ?_) (fun c => ?_)
      · replace h := gz_ifp c h
        refine gz_aload_n (pc := 52) dX12_kisses_52 rfl ?_
        refine gz_V (zy := mX12_allFamilies) (zc := 0) (pc := 53) [] rfl dX12_kisses_53 lkX12_387 MvX12_allFamilies rfl z_0_47 rfl rfl rfl (Or.inl rfl) (fun h => h) (by exact Nat.le_of_ble_eq_true rfl) ?_
        obtain ⟨v6, e5, h⟩ := gz_bd h
        refine gz_useI (c_X12_allFamilies e5) ?_
        refine gz_istore_n (pc := 56) dX12_kisses_56 (by decide) rfl (loc2 := [some (.inr (.inr (0, 47))), some (.inl a1), some (.inl v6), none, none, none, none]) rfl ?_
        refine gz_iconst (pc := 57) dX12_kisses_57 (v := (-1)) (by decide) ?_
        refine gz_istore_n (pc := 58) dX12_kisses_58 (by decide) rfl (loc2 := [some (.inr (.inr (0, 47))), some (.inl a1), some (.inl v6), some (.inl (-1)), none, none, none]) rfl ?_
        refine gz_iconst (pc := 59) dX12_kisses_59 (v := 0) (by decide) ?_
        refine gz_istore (pc := 60) dX12_kisses_60 (by decide) rfl (loc2 := [some (.inr (.inr (0, 47))), some (.inl a1), some (.inl v6), some (.inl (-1)), some (.inl 0), none, none]) rfl ?_
        exact p_X12_kisses_62 φ a1 v6 (-1) 0 v4.2.1 v4.2.2 h
      · replace h := gz_ifn (fun q => q c) h
        refine gz_aload_n (pc := 42) dX12_kisses_42 rfl ?_
        refine gr_X12_42 (pc := 43) dX12_kisses_43 z_0_47 rfl ?_
        refine gz_aload_n (pc := 46) dX12_kisses_46 rfl ?_
        refine gz_V (zy := mX12_allFamilies) (zc := 0) (pc := 47) [] rfl dX12_kisses_47 lkX12_387 MvX12_allFamilies rfl z_0_47 rfl rfl rfl (Or.inl rfl) (fun h => h) (by exact Nat.le_of_ble_eq_true rfl) ?_
        obtain ⟨v8, e7, h⟩ := gz_bd h
        refine gz_useI (c_X12_allFamilies e7) ?_
        obtain ⟨b9, h⟩ := gz_gd h
        refine gz_iald2 (pc := 50) dX12_kisses_50 (k := v8.toNatClampNeg) (v := v4.2.1 0 56 v8.toNatClampNeg) z_0_56 rfl b9 rfl rfl ?_
        cases h; exact gz_iret (pc := 51) dX12_kisses_51 rfl ⟨rfl, rfl⟩
    · replace h := gz_ifn c h
      refine gz_iconst (pc := 31) dX12_kisses_31 (v := 0) (by decide) ?_
      cases h; exact gz_iret (pc := 32) dX12_kisses_32 rfl ⟨rfl, rfl⟩
  · replace h := gz_ifn c h
    refine gz_aload_n (pc := 11) dX12_kisses_11 rfl ?_
    refine gz_iload_n (pc := 12) dX12_kisses_12 rfl ?_
    refine gz_V (zy := mX12_noFamily) (zc := 0) (pc := 13) [.inl a1] rfl dX12_kisses_13 lkX12_301 MvX12_noFamily rfl z_0_47 rfl rfl rfl (Or.inl rfl) (fun h => h) (by exact Nat.le_of_ble_eq_true rfl) ?_
    obtain ⟨v11, e10, h⟩ := gz_bd h
    refine gz_useI (c_X12_noFamily e10) ?_
    refine gz_if_eq (pc := 16) (tgt := 23) dX12_kisses_16 (by decide) (fun c => ?_) (fun c => ?_)
    · replace h := gz_ifp c h
      refine gz_iconst (pc := 23) dX12_kisses_23 (v := 0) (by decide) ?_
      refine gz_iconst (pc := 24) dX12_kisses_24 (v := 1) (by decide) ?_
      refine gz_V (zy := mX12_throwsIf) (zc := 0) (pc := 25) [.inl 0, .inl 1] rfl dX12_kisses_25 lkX12_269 MvX12_throwsIf rfl z_0_47 rfl rfl rfl (Or.inl rfl) (fun h => h) (by exact Nat.le_of_ble_eq_true rfl) ?_
      obtain ⟨v13, e12, h⟩ := gz_bd h
      refine gz_useI (c_X12_throwsIf e12) ?_
      refine gz_if_eq (pc := 28) (tgt := 33) dX12_kisses_28 (by decide) (fun c => ?_) (fun c => ?_)
      · replace h := gz_ifp c h
        refine gz_aload_n (pc := 33) dX12_kisses_33 rfl ?_
        refine gz_V (zy := mX12_laysKissing) (zc := 0) (pc := 34) [] rfl dX12_kisses_34 lkX12_429 MvX12_laysKissing rfl z_0_47 rfl rfl rfl (Or.inl rfl) (fun h => h) (by exact Nat.le_of_ble_eq_true rfl) ?_
        obtain ⟨v15, e14, h⟩ := gz_bd h
        refine gz_useV (c_X12_laysKissing e14) ?_
        refine gz_iload_n (pc := 37) dX12_kisses_37 rfl ?_
        refine gz_iconst (pc := 38) dX12_kisses_38 (v := (-1)) (by decide) ?_
        refine gz_ic_ne (pc := 39) (tgt := 52) dX12_kisses_39 (by decide) (fun c => ?_) (fun c => ?_)
        · replace h := gz_ifp c h
          refine gz_aload_n (pc := 52) dX12_kisses_52 rfl ?_
          refine gz_V (zy := mX12_allFamilies) (zc := 0) (pc := 53) [] rfl dX12_kisses_53 lkX12_387 MvX12_allFamilies rfl z_0_47 rfl rfl rfl (Or.inl rfl) (fun h => h) (by exact Nat.le_of_ble_eq_true rfl) ?_
          obtain ⟨v17, e16, h⟩ := gz_bd h
          refine gz_useI (c_X12_allFamilies e16) ?_
          refine gz_istore_n (pc := 56) dX12_kisses_56 (by decide) rfl (loc2 := [some (.inr (.inr (0, 47))), some (.inl a1), some (.inl v17), none, none, none, none]) rfl ?_
          refine gz_iconst (pc := 57) dX12_kisses_57 (v := (-1)) (by decide) ?_
          refine gz_istore_n (pc := 58) dX12_kisses_58 (by decide) rfl (loc2 := [some (.inr (.inr (0, 47))), some (.inl a1), some (.inl v17), some (.inl (-1)), none, none, none]) rfl ?_
          refine gz_iconst (pc := 59) dX12_kisses_59 (v := 0) (by decide) ?_
          refine gz_istore (pc := 60) dX12_kisses_60 (by decide) rfl (loc2 := [some (.inr (.inr (0, 47))), some (.inl a1), some (.inl v17), some (.inl (-1)), some (.inl 0), none, none]) rfl ?_
          exact p_X12_kisses_62 φ a1 v17 (-1) 0 v15.2.1 v15.2.2 h
        · replace h := gz_ifn (fun q => q c) h
          refine gz_aload_n (pc := 42) dX12_kisses_42 rfl ?_
          refine gr_X12_42 (pc := 43) dX12_kisses_43 z_0_47 rfl ?_
          refine gz_aload_n (pc := 46) dX12_kisses_46 rfl ?_
          refine gz_V (zy := mX12_allFamilies) (zc := 0) (pc := 47) [] rfl dX12_kisses_47 lkX12_387 MvX12_allFamilies rfl z_0_47 rfl rfl rfl (Or.inl rfl) (fun h => h) (by exact Nat.le_of_ble_eq_true rfl) ?_
          obtain ⟨v19, e18, h⟩ := gz_bd h
          refine gz_useI (c_X12_allFamilies e18) ?_
          obtain ⟨b20, h⟩ := gz_gd h
          refine gz_iald2 (pc := 50) dX12_kisses_50 (k := v19.toNatClampNeg) (v := v15.2.1 0 56 v19.toNatClampNeg) z_0_56 rfl b20 rfl rfl ?_
          cases h; exact gz_iret (pc := 51) dX12_kisses_51 rfl ⟨rfl, rfl⟩
      · replace h := gz_ifn c h
        refine gz_iconst (pc := 31) dX12_kisses_31 (v := 0) (by decide) ?_
        cases h; exact gz_iret (pc := 32) dX12_kisses_32 rfl ⟨rfl, rfl⟩
    · replace h := gz_ifn c h
      refine gz_iconst (pc := 19) dX12_kisses_19 (v := 1) (by decide) ?_
      refine gz_goto (pc := 20) (tgt := 24) dX12_kisses_20 (by decide) ?_
      refine gz_iconst (pc := 24) dX12_kisses_24 (v := 1) (by decide) ?_
      refine gz_V (zy := mX12_throwsIf) (zc := 0) (pc := 25) [.inl 1, .inl 1] rfl dX12_kisses_25 lkX12_269 MvX12_throwsIf rfl z_0_47 rfl rfl rfl (Or.inl rfl) (fun h => h) (by exact Nat.le_of_ble_eq_true rfl) ?_
      obtain ⟨v22, e21, h⟩ := gz_bd h
      refine gz_useI (c_X12_throwsIf e21) ?_
      refine gz_if_eq (pc := 28) (tgt := 33) dX12_kisses_28 (by decide) (fun c => ?_) (fun c => ?_)
      · replace h := gz_ifp c h
        refine gz_aload_n (pc := 33) dX12_kisses_33 rfl ?_
        refine gz_V (zy := mX12_laysKissing) (zc := 0) (pc := 34) [] rfl dX12_kisses_34 lkX12_429 MvX12_laysKissing rfl z_0_47 rfl rfl rfl (Or.inl rfl) (fun h => h) (by exact Nat.le_of_ble_eq_true rfl) ?_
        obtain ⟨v24, e23, h⟩ := gz_bd h
        refine gz_useV (c_X12_laysKissing e23) ?_
        refine gz_iload_n (pc := 37) dX12_kisses_37 rfl ?_
        refine gz_iconst (pc := 38) dX12_kisses_38 (v := (-1)) (by decide) ?_
        refine gz_ic_ne (pc := 39) (tgt := 52) dX12_kisses_39 (by decide) (fun c => ?_) (fun c => ?_)
        · replace h := gz_ifp c h
          refine gz_aload_n (pc := 52) dX12_kisses_52 rfl ?_
          refine gz_V (zy := mX12_allFamilies) (zc := 0) (pc := 53) [] rfl dX12_kisses_53 lkX12_387 MvX12_allFamilies rfl z_0_47 rfl rfl rfl (Or.inl rfl) (fun h => h) (by exact Nat.le_of_ble_eq_true rfl) ?_
          obtain ⟨v26, e25, h⟩ := gz_bd h
          refine gz_useI (c_X12_allFamilies e25) ?_
          refine gz_istore_n (pc := 56) dX12_kisses_56 (by decide) rfl (loc2 := [some (.inr (.inr (0, 47))), some (.inl a1), some (.inl v26), none, none, none, none]) rfl ?_
          refine gz_iconst (pc := 57) dX12_kisses_57 (v := (-1)) (by decide) ?_
          refine gz_istore_n (pc := 58) dX12_kisses_58 (by decide) rfl (loc2 := [some (.inr (.inr (0, 47))), some (.inl a1), some (.inl v26), some (.inl (-1)), none, none, none]) rfl ?_
          refine gz_iconst (pc := 59) dX12_kisses_59 (v := 0) (by decide) ?_
          refine gz_istore (pc := 60) dX12_kisses_60 (by decide) rfl (loc2 := [some (.inr (.inr (0, 47))), some (.inl a1), some (.inl v26), some (.inl (-1)), some (.inl 0), none, none]) rfl ?_
          exact p_X12_kisses_62 φ a1 v26 (-1) 0 v24.2.1 v24.2.2 h
        · replace h := gz_ifn (fun q => q c) h
          refine gz_aload_n (pc := 42) dX12_kisses_42 rfl ?_
          refine gr_X12_42 (pc := 43) dX12_kisses_43 z_0_47 rfl ?_
          refine gz_aload_n (pc := 46) dX12_kisses_46 rfl ?_
          refine gz_V (zy := mX12_allFamilies) (zc := 0) (pc := 47) [] rfl dX12_kisses_47 lkX12_387 MvX12_allFamilies rfl z_0_47 rfl rfl rfl (Or.inl rfl) (fun h => h) (by exact Nat.le_of_ble_eq_true rfl) ?_
          obtain ⟨v28, e27, h⟩ := gz_bd h
          refine gz_useI (c_X12_allFamilies e27) ?_
          obtain ⟨b29, h⟩ := gz_gd h
          refine gz_iald2 (pc := 50) dX12_kisses_50 (k := v28.toNatClampNeg) (v := v24.2.1 0 56 v28.toNatClampNeg) z_0_56 rfl b29 rfl rfl ?_
          cases h; exact gz_iret (pc := 51) dX12_kisses_51 rfl ⟨rfl, rfl⟩
      · replace h := gz_ifn c h
        refine gz_iconst (pc := 31) dX12_kisses_31 (v := 0) (by decide) ?_
        cases h; exact gz_iret (pc := 32) dX12_kisses_32 rfl ⟨rfl, rfl⟩
/-! X12_shares: shares -/
def gP_X12_shares_78 (g : gzG) (d : Nat) (r : Int32 × gzIT × gzJT) (x1 : Int32) (x2 : Int32) (x3 : Int32) (x4 : Int32) (x5 : Int32) (I : gzIT) (J : gzJT) : Prop := gzX g 0 (d + 2) mX12_shares 78 [some (.inr (.inr (0, 47))), some (.inl x1), some (.inl x2), some (.inl x3), some (.inl x4), some (.inl x5)] [] (gzN, gzR0, I, J) 0 (gzE (.ok (some (.inl r.1))) (gzN, gzR0, r.2.1, r.2.2))
def gP_X12_shares_67 (g : gzG) (d : Nat) (r : Int32 × gzIT × gzJT) (x1 : Int32) (x2 : Int32) (x3 : Int32) (I : gzIT) (J : gzJT) : Prop := gzX g 0 (d + 2) mX12_shares 67 [some (.inr (.inr (0, 47))), some (.inl x1), some (.inl x2), some (.inl x3), none, none] [] (gzN, gzR0, I, J) 0 (gzE (.ok (some (.inl r.1))) (gzN, gzR0, r.2.1, r.2.2))
def gP_X12_shares_46 (g : gzG) (d : Nat) (r : Int32 × gzIT × gzJT) (x1 : Int32) (x2 : Int32) (x3 : Int32) (I : gzIT) (J : gzJT) : Prop := gzX g 0 (d + 2) mX12_shares 46 [some (.inr (.inr (0, 47))), some (.inl x1), some (.inl x2), some (.inl x3), none, none] [] (gzN, gzR0, I, J) 0 (gzE (.ok (some (.inl r.1))) (gzN, gzR0, r.2.1, r.2.2))
def f_X12_shares_78 (φ : Nat) (K67 : Int32 → Int32 → Int32 → gzIT → gzJT → Option (Int32 × gzIT × gzJT)) : Nat → Int32 → Int32 → Int32 → Int32 → Int32 → gzIT → gzJT → Option (Int32 × gzIT × gzJT)
  | 0, _, _, _, _, _, _, _ => none
  | k + 1, x1, x2, x3, x4, x5, I, J => Option.bind (f_X12_families I) (fun v13 => if v13 ≤ x5 then (if x4 = (-1) then (K67 x1 x2 (x3 + 1) I J) else (gzGd (x4) 6 (K67 x1 x2 (x3 + 1) (gz_ui I 0 57 x4.toNatClampNeg ((I 0 57 x4.toNatClampNeg) + 1)) J))) else (gzGd (x5) 6 (Option.bind (f_X12_ofFamily I x5 1) (fun v17 => if v17 ≤ I 0 57 x5.toNatClampNeg then (f_X12_shares_78 φ K67 k x1 x2 x3 x4 (x5 + 1) I J) else (if x4 = (-1) then (f_X12_shares_78 φ K67 k x1 x2 x3 x5 (x5 + 1) I J) else (gzGd (x4) 6 (if I 0 57 x4.toNatClampNeg ≤ I 0 57 x5.toNatClampNeg then (f_X12_shares_78 φ K67 k x1 x2 x3 x4 (x5 + 1) I J) else (f_X12_shares_78 φ K67 k x1 x2 x3 x5 (x5 + 1) I J))))))))
set_option maxRecDepth 20000 in
theorem p_X12_shares_78 {g : gzG} {d φ : Nat} {r : Int32 × gzIT × gzJT} {K67 : Int32 → Int32 → Int32 → gzIT → gzJT → Option (Int32 × gzIT × gzJT)} (hK67 : ∀ (x1 : Int32) (x2 : Int32) (x3 : Int32) (I : gzIT) (J : gzJT), K67 x1 x2 x3 I J = some r → gP_X12_shares_67 g d r x1 x2 x3 I J) : ∀ (k : Nat) (x1 : Int32) (x2 : Int32) (x3 : Int32) (x4 : Int32) (x5 : Int32) (I : gzIT) (J : gzJT), f_X12_shares_78 φ K67 k x1 x2 x3 x4 x5 I J = some r → gP_X12_shares_78 g d r x1 x2 x3 x4 x5 I J := by
  intro k; induction k with
  | zero => intro x1 x2 x3 x4 x5 I J h; cases h
  | succ k ih =>
    intro x1 x2 x3 x4 x5 I J h
    unfold f_X12_shares_78 at h
    unfold gP_X12_shares_78
    have z_0_47 : gzOk 0 47 gzN := gzOk_of (by decide)
    have z_0_57 : gzOk 0 57 gzN := gzOk_of (by decide)
    refine gz_iload (pc := 78) dX12_shares_78 rfl ?_
    refine gz_aload_n (pc := 80) dX12_shares_80 rfl ?_
    refine gz_V (zy := mX12_families) (zc := 0) (pc := 81) [] rfl dX12_shares_81 lkX12_59 MvX12_families rfl z_0_47 rfl rfl rfl (Or.inl rfl) (fun h => h) (by exact Nat.le_of_ble_eq_true rfl) ?_
    obtain ⟨v13, e12, h⟩ := gz_bd h
    refine gz_useI (c_X12_families e12) ?_
    refine gz_ic_ge (pc := 84) (tgt := 137) dX12_shares_84 (by decide) (fun c => ?_) (fun c => ?_)
    · replace h := gz_ifp c h
      refine gz_iload (pc := 137) dX12_shares_137 rfl ?_
      refine gz_iconst (pc := 139) dX12_shares_139 (v := (-1)) (by decide) ?_
      refine gz_ic_eq (pc := 140) (tgt := 154) dX12_shares_140 (by decide) (fun c => ?_) (fun c => ?_)
      · replace h := gz_ifp c h
        refine gz_iinc (pc := 154) dX12_shares_154 (x := x3) (v := x3 + 1) rfl (by rw [show Int32.ofInt 1 = 1 by decide]) (by decide) rfl (loc2 := [some (.inr (.inr (0, 47))), some (.inl x1), some (.inl x2), some (.inl (x3 + 1)), some (.inl x4), some (.inl x5)]) rfl ?_
        refine gz_goto (pc := 157) (tgt := 67) dX12_shares_157 (by decide) ?_
        exact gz_weak (loc2 := [some (.inr (.inr (0, 47))), some (.inl x1), some (.inl x2), some (.inl (x3 + 1)), none, none]) (hK67 x1 x2 (x3 + 1) I J h) (by repeat (first | exact trivial | refine ⟨rfl, ?_⟩))
      · replace h := gz_ifn c h
        refine gz_aload_n (pc := 143) dX12_shares_143 rfl ?_
        refine gr_X12_45 (pc := 144) dX12_shares_144 z_0_47 rfl ?_
        refine gz_iload (pc := 147) dX12_shares_147 rfl ?_
        refine gz_dup2IR (pc := 149) dX12_shares_149  ?_
        obtain ⟨b14, h⟩ := gz_gd h
        refine gz_iald2 (pc := 150) dX12_shares_150 (k := x4.toNatClampNeg) (v := I 0 57 x4.toNatClampNeg) z_0_57 rfl b14 rfl rfl ?_
        refine gz_iconst (pc := 151) dX12_shares_151 (v := 1) (by decide) ?_
        refine gz_iadd (pc := 152) dX12_shares_152  ?_
        refine gz_iast2 (pc := 153) dX12_shares_153 (k := x4.toNatClampNeg) z_0_57 rfl b14 rfl ?_
        refine gz_iinc (pc := 154) dX12_shares_154 (x := x3) (v := x3 + 1) rfl (by rw [show Int32.ofInt 1 = 1 by decide]) (by decide) rfl (loc2 := [some (.inr (.inr (0, 47))), some (.inl x1), some (.inl x2), some (.inl (x3 + 1)), some (.inl x4), some (.inl x5)]) rfl ?_
        refine gz_goto (pc := 157) (tgt := 67) dX12_shares_157 (by decide) ?_
        exact gz_weak (loc2 := [some (.inr (.inr (0, 47))), some (.inl x1), some (.inl x2), some (.inl (x3 + 1)), none, none]) (hK67 x1 x2 (x3 + 1) (gz_ui I 0 57 x4.toNatClampNeg ((I 0 57 x4.toNatClampNeg) + 1)) J h) (by repeat (first | exact trivial | refine ⟨rfl, ?_⟩))
    · replace h := gz_ifn c h
      refine gz_aload_n (pc := 87) dX12_shares_87 rfl ?_
      refine gr_X12_45 (pc := 88) dX12_shares_88 z_0_47 rfl ?_
      refine gz_iload (pc := 91) dX12_shares_91 rfl ?_
      obtain ⟨b15, h⟩ := gz_gd h
      refine gz_iald2 (pc := 93) dX12_shares_93 (k := x5.toNatClampNeg) (v := I 0 57 x5.toNatClampNeg) z_0_57 rfl b15 rfl rfl ?_
      refine gz_aload_n (pc := 94) dX12_shares_94 rfl ?_
      refine gz_iload (pc := 95) dX12_shares_95 rfl ?_
      refine gz_iconst (pc := 97) dX12_shares_97 (v := 1) (by decide) ?_
      refine gz_V (zy := mX12_ofFamily) (zc := 0) (pc := 98) [.inl x5, .inl 1] rfl dX12_shares_98 lkX12_272 MvX12_ofFamily rfl z_0_47 rfl rfl rfl (Or.inl rfl) (fun h => h) (by exact Nat.le_of_ble_eq_true rfl) ?_
      obtain ⟨v17, e16, h⟩ := gz_bd h
      refine gz_useI (c_X12_ofFamily e16) ?_
      refine gz_ic_ge (pc := 101) (tgt := 131) dX12_shares_101 (by decide) (fun c => ?_) (fun c => ?_)
      · replace h := gz_ifp c h
        refine gz_iinc (pc := 131) dX12_shares_131 (x := x5) (v := x5 + 1) rfl (by rw [show Int32.ofInt 1 = 1 by decide]) (by decide) rfl (loc2 := [some (.inr (.inr (0, 47))), some (.inl x1), some (.inl x2), some (.inl x3), some (.inl x4), some (.inl (x5 + 1))]) rfl ?_
        refine gz_goto (pc := 134) (tgt := 78) dX12_shares_134 (by decide) ?_
        exact ih x1 x2 x3 x4 (x5 + 1) I J h
      · replace h := gz_ifn c h
        refine gz_iload (pc := 104) dX12_shares_104 rfl ?_
        refine gz_iconst (pc := 106) dX12_shares_106 (v := (-1)) (by decide) ?_
        refine gz_ic_eq (pc := 107) (tgt := 127) dX12_shares_107 (by decide) (fun c => ?_) (fun c => ?_)
        · replace h := gz_ifp c h
          refine gz_iload (pc := 127) dX12_shares_127 rfl ?_
          refine gz_istore (pc := 129) dX12_shares_129 (by decide) rfl (loc2 := [some (.inr (.inr (0, 47))), some (.inl x1), some (.inl x2), some (.inl x3), some (.inl x5), some (.inl x5)]) rfl ?_
          refine gz_iinc (pc := 131) dX12_shares_131 (x := x5) (v := x5 + 1) rfl (by rw [show Int32.ofInt 1 = 1 by decide]) (by decide) rfl (loc2 := [some (.inr (.inr (0, 47))), some (.inl x1), some (.inl x2), some (.inl x3), some (.inl x5), some (.inl (x5 + 1))]) rfl ?_
          refine gz_goto (pc := 134) (tgt := 78) dX12_shares_134 (by decide) ?_
          exact ih x1 x2 x3 x5 (x5 + 1) I J h
        · replace h := gz_ifn c h
          refine gz_aload_n (pc := 110) dX12_shares_110 rfl ?_
          refine gr_X12_45 (pc := 111) dX12_shares_111 z_0_47 rfl ?_
          refine gz_iload (pc := 114) dX12_shares_114 rfl ?_
          refine gz_iald2 (pc := 116) dX12_shares_116 (k := x5.toNatClampNeg) (v := I 0 57 x5.toNatClampNeg) z_0_57 rfl b15 rfl rfl ?_
          refine gz_aload_n (pc := 117) dX12_shares_117 rfl ?_
          refine gr_X12_45 (pc := 118) dX12_shares_118 z_0_47 rfl ?_
          refine gz_iload (pc := 121) dX12_shares_121 rfl ?_
          obtain ⟨b18, h⟩ := gz_gd h
          refine gz_iald2 (pc := 123) dX12_shares_123 (k := x4.toNatClampNeg) (v := I 0 57 x4.toNatClampNeg) z_0_57 rfl b18 rfl rfl ?_
          refine gz_ic_ge (pc := 124) (tgt := 131) dX12_shares_124 (by decide) (fun c => ?_) (fun c => ?_)
          · replace h := gz_ifp c h
            refine gz_iinc (pc := 131) dX12_shares_131 (x := x5) (v := x5 + 1) rfl (by rw [show Int32.ofInt 1 = 1 by decide]) (by decide) rfl (loc2 := [some (.inr (.inr (0, 47))), some (.inl x1), some (.inl x2), some (.inl x3), some (.inl x4), some (.inl (x5 + 1))]) rfl ?_
            refine gz_goto (pc := 134) (tgt := 78) dX12_shares_134 (by decide) ?_
            exact ih x1 x2 x3 x4 (x5 + 1) I J h
          · replace h := gz_ifn c h
            refine gz_iload (pc := 127) dX12_shares_127 rfl ?_
            refine gz_istore (pc := 129) dX12_shares_129 (by decide) rfl (loc2 := [some (.inr (.inr (0, 47))), some (.inl x1), some (.inl x2), some (.inl x3), some (.inl x5), some (.inl x5)]) rfl ?_
            refine gz_iinc (pc := 131) dX12_shares_131 (x := x5) (v := x5 + 1) rfl (by rw [show Int32.ofInt 1 = 1 by decide]) (by decide) rfl (loc2 := [some (.inr (.inr (0, 47))), some (.inl x1), some (.inl x2), some (.inl x3), some (.inl x5), some (.inl (x5 + 1))]) rfl ?_
            refine gz_goto (pc := 134) (tgt := 78) dX12_shares_134 (by decide) ?_
            exact ih x1 x2 x3 x5 (x5 + 1) I J h
def f_X12_shares_67 (φ : Nat) : Nat → Int32 → Int32 → Int32 → gzIT → gzJT → Option (Int32 × gzIT × gzJT)
  | 0, _, _, _, _, _ => none
  | k + 1, x1, x2, x3, I, J => if x2 ≤ x3 then (gzGd (x1) 6 (some ((I 0 57 x1.toNatClampNeg), I, J))) else (f_X12_shares_78 φ (f_X12_shares_67 φ k) φ x1 x2 x3 (-1) 0 I J)
set_option maxRecDepth 20000 in
theorem p_X12_shares_67 {g : gzG} {d φ : Nat} {r : Int32 × gzIT × gzJT} : ∀ (k : Nat) (x1 : Int32) (x2 : Int32) (x3 : Int32) (I : gzIT) (J : gzJT), f_X12_shares_67 φ k x1 x2 x3 I J = some r → gP_X12_shares_67 g d r x1 x2 x3 I J := by
  intro k; induction k with
  | zero => intro x1 x2 x3 I J h; cases h
  | succ k ih =>
    intro x1 x2 x3 I J h
    unfold f_X12_shares_67 at h
    unfold gP_X12_shares_67
    have z_0_47 : gzOk 0 47 gzN := gzOk_of (by decide)
    have z_0_57 : gzOk 0 57 gzN := gzOk_of (by decide)
    refine gz_iload_n (pc := 67) dX12_shares_67 rfl ?_
    refine gz_iload_n (pc := 68) dX12_shares_68 rfl ?_
    refine gz_ic_ge (pc := 69) (tgt := 160) dX12_shares_69 (by decide) (fun c => ?_) (fun c => ?_)
    · replace h := gz_ifp c h
      refine gz_aload_n (pc := 160) dX12_shares_160 rfl ?_
      refine gr_X12_45 (pc := 161) dX12_shares_161 z_0_47 rfl ?_
      refine gz_iload_n (pc := 164) dX12_shares_164 rfl ?_
      obtain ⟨b11, h⟩ := gz_gd h
      refine gz_iald2 (pc := 165) dX12_shares_165 (k := x1.toNatClampNeg) (v := I 0 57 x1.toNatClampNeg) z_0_57 rfl b11 rfl rfl ?_
      cases h; exact gz_iret (pc := 166) dX12_shares_166 rfl ⟨rfl, rfl⟩
    · replace h := gz_ifn c h
      refine gz_iconst (pc := 72) dX12_shares_72 (v := (-1)) (by decide) ?_
      refine gz_istore (pc := 73) dX12_shares_73 (by decide) rfl (loc2 := [some (.inr (.inr (0, 47))), some (.inl x1), some (.inl x2), some (.inl x3), some (.inl (-1)), none]) rfl ?_
      refine gz_iconst (pc := 75) dX12_shares_75 (v := 0) (by decide) ?_
      refine gz_istore (pc := 76) dX12_shares_76 (by decide) rfl (loc2 := [some (.inr (.inr (0, 47))), some (.inl x1), some (.inl x2), some (.inl x3), some (.inl (-1)), some (.inl 0)]) rfl ?_
      exact p_X12_shares_78 ih φ x1 x2 x3 (-1) 0 I J h
def f_X12_shares_46 (φ : Nat) : Nat → Int32 → Int32 → Int32 → gzIT → gzJT → Option (Int32 × gzIT × gzJT)
  | 0, _, _, _, _, _ => none
  | k + 1, x1, x2, x3, I, J => if 6 ≤ x3 then (f_X12_shares_67 φ φ x1 x2 0 I J) else (gzGd (x3) 6 (f_X12_shares_46 φ k x1 x2 (x3 + 1) (gz_ui I 0 57 x3.toNatClampNeg 0) J))
set_option maxRecDepth 20000 in
theorem p_X12_shares_46 {g : gzG} {d φ : Nat} {r : Int32 × gzIT × gzJT} : ∀ (k : Nat) (x1 : Int32) (x2 : Int32) (x3 : Int32) (I : gzIT) (J : gzJT), f_X12_shares_46 φ k x1 x2 x3 I J = some r → gP_X12_shares_46 g d r x1 x2 x3 I J := by
  intro k; induction k with
  | zero => intro x1 x2 x3 I J h; cases h
  | succ k ih =>
    intro x1 x2 x3 I J h
    unfold f_X12_shares_46 at h
    unfold gP_X12_shares_46
    have z_0_47 : gzOk 0 47 gzN := gzOk_of (by decide)
    have z_0_57 : gzOk 0 57 gzN := gzOk_of (by decide)
    refine gz_iload_n (pc := 46) dX12_shares_46 rfl ?_
    refine gz_bipush (pc := 47) dX12_shares_47 (v := 6) (by decide) ?_
    refine gz_ic_ge (pc := 49) (tgt := 65) dX12_shares_49 (by decide) (fun c => ?_) (fun c => ?_)
    · replace h := gz_ifp c h
      refine gz_iconst (pc := 65) dX12_shares_65 (v := 0) (by decide) ?_
      refine gz_istore_n (pc := 66) dX12_shares_66 (by decide) rfl (loc2 := [some (.inr (.inr (0, 47))), some (.inl x1), some (.inl x2), some (.inl 0), none, none]) rfl ?_
      exact p_X12_shares_67 φ x1 x2 0 I J h
    · replace h := gz_ifn c h
      refine gz_aload_n (pc := 52) dX12_shares_52 rfl ?_
      refine gr_X12_45 (pc := 53) dX12_shares_53 z_0_47 rfl ?_
      refine gz_iload_n (pc := 56) dX12_shares_56 rfl ?_
      refine gz_iconst (pc := 57) dX12_shares_57 (v := 0) (by decide) ?_
      obtain ⟨b10, h⟩ := gz_gd h
      refine gz_iast2 (pc := 58) dX12_shares_58 (k := x3.toNatClampNeg) z_0_57 rfl b10 rfl ?_
      refine gz_iinc (pc := 59) dX12_shares_59 (x := x3) (v := x3 + 1) rfl (by rw [show Int32.ofInt 1 = 1 by decide]) (by decide) rfl (loc2 := [some (.inr (.inr (0, 47))), some (.inl x1), some (.inl x2), some (.inl (x3 + 1)), none, none]) rfl ?_
      refine gz_goto (pc := 62) (tgt := 46) dX12_shares_62 (by decide) ?_
      exact ih x1 x2 (x3 + 1) (gz_ui I 0 57 x3.toNatClampNeg 0) J h
def f_X12_shares (φ : Nat) (a1 : Int32) (a2 : Int32) (I : gzIT) (J : gzJT) : Option (Int32 × gzIT × gzJT) := Option.bind (f_X12_noFamily (gz_ui I 0 47 0 0) a1) (fun v2 => Option.bind (f_X12_throwsIf v2 1 (gz_ui I 0 47 0 0) J) (fun v4 => if ¬ v4.1 = 0 then (some (0, v4.2.1, v4.2.2)) else (Option.bind (f_X12_in a2 0 999) (fun v6 => Option.bind (f_X12_throwsIf (if ¬ v6 = 0 then (0 : Int32) else 1) 2 v4.2.1 v4.2.2) (fun v9 => if v9.1 = 0 then (f_X12_shares_46 φ φ a1 a2 0 v9.2.1 v9.2.2) else (some (0, v9.2.1, v9.2.2)))))))
set_option maxRecDepth 20000 in
theorem c_X12_shares {g : gzG} {d φ : Nat} {a1 : Int32} {a2 : Int32} {I : gzIT} {J : gzJT} {r : Int32 × gzIT × gzJT} (h : f_X12_shares φ a1 a2 I J = some r) : gzC g 0 (d + 2) mX12_shares [.inr (.inr (0, 47)), .inl a1, .inl a2] (gzN, gzR0, I, J) (gzE (.ok (some (.inl r.1))) (gzN, gzR0, r.2.1, r.2.2)) := by
  unfold f_X12_shares at h
  refine gzC_of (by decide +kernel) (Nat.le_of_ble_eq_true rfl) (loc := [some (.inr (.inr (0, 47))), some (.inl a1), some (.inl a2), none, none, none]) rfl ?_
  have z_0_47 : gzOk 0 47 gzN := gzOk_of (by decide)
  refine gz_aload_n (pc := 0) dX12_shares_0 rfl ?_
  refine gz_iconst (pc := 1) dX12_shares_1 (v := 0) (by decide) ?_
  refine gp_X12_3 (pc := 2) dX12_shares_2 z_0_47 rfl ?_
  refine gz_aload_n (pc := 5) dX12_shares_5 rfl ?_
  refine gz_aload_n (pc := 6) dX12_shares_6 rfl ?_
  refine gz_iload_n (pc := 7) dX12_shares_7 rfl ?_
  refine gz_V (zy := mX12_noFamily) (zc := 0) (pc := 8) [.inl a1] rfl dX12_shares_8 lkX12_301 MvX12_noFamily rfl z_0_47 rfl rfl rfl (Or.inl rfl) (fun h => h) (by exact Nat.le_of_ble_eq_true rfl) ?_
  obtain ⟨v2, e1, h⟩ := gz_bd h
  refine gz_useI (c_X12_noFamily e1) ?_
  refine gz_iconst (pc := 11) dX12_shares_11 (v := 1) (by decide) ?_
  refine gz_V (zy := mX12_throwsIf) (zc := 0) (pc := 12) [.inl v2, .inl 1] rfl dX12_shares_12 lkX12_269 MvX12_throwsIf rfl z_0_47 rfl rfl rfl (Or.inl rfl) (fun h => h) (by exact Nat.le_of_ble_eq_true rfl) ?_
  obtain ⟨v4, e3, h⟩ := gz_bd h
  refine gz_useI (c_X12_throwsIf e3) ?_
  refine gz_if_ne (pc := 15) (tgt := 42) dX12_shares_15 (by decide) (fun c => ?_) (fun c => ?_)
  · replace h := gz_ifp c h
    refine gz_iconst (pc := 42) dX12_shares_42 (v := 0) (by decide) ?_
    cases h; exact gz_iret (pc := 43) dX12_shares_43 rfl ⟨rfl, rfl⟩
  · replace h := gz_ifn (fun q => q c) h
    refine gz_aload_n (pc := 18) dX12_shares_18 rfl ?_
    refine gz_iload_n (pc := 19) dX12_shares_19 rfl ?_
    refine gz_iconst (pc := 20) dX12_shares_20 (v := 0) (by decide) ?_
    refine gz_sipush (pc := 21) dX12_shares_21 (v := 999) (by decide) ?_
    refine gz_S (zy := mX12_in) (zc := 0) (pc := 24) [.inl a2, .inl 0, .inl 999] rfl dX12_shares_24 lkX12_84 MsX12_in rfl (Or.inl rfl) (fun h => h) (by exact Nat.le_of_ble_eq_true rfl) ?_
    obtain ⟨v6, e5, h⟩ := gz_bd h
    refine gz_useI (c_X12_in e5) ?_
    have kj7 : gzX g 0 (d + 2) mX12_shares 35 [some (.inr (.inr (0, 47))), some (.inl a1), some (.inl a2), none, none, none] ([.inl (if ¬ v6 = 0 then (0 : Int32) else 1), .inr (.inr (0, 47))]) (gzN, gzR0, v4.2.1, v4.2.2) 0 (gzE (.ok (some (.inl r.1))) (gzN, gzR0, r.2.1, r.2.2)) := by
      refine gz_iconst (pc := 35) dX12_shares_35 (v := 2) (by decide) ?_
      refine gz_V (zy := mX12_throwsIf) (zc := 0) (pc := 36) [.inl (if ¬ v6 = 0 then (0 : Int32) else 1), .inl 2] rfl dX12_shares_36 lkX12_269 MvX12_throwsIf rfl z_0_47 rfl rfl rfl (Or.inl rfl) (fun h => h) (by exact Nat.le_of_ble_eq_true rfl) ?_
      obtain ⟨v9, e8, h⟩ := gz_bd h
      refine gz_useI (c_X12_throwsIf e8) ?_
      refine gz_if_eq (pc := 39) (tgt := 44) dX12_shares_39 (by decide) (fun c => ?_) (fun c => ?_)
      · replace h := gz_ifp c h
        refine gz_iconst (pc := 44) dX12_shares_44 (v := 0) (by decide) ?_
        refine gz_istore_n (pc := 45) dX12_shares_45 (by decide) rfl (loc2 := [some (.inr (.inr (0, 47))), some (.inl a1), some (.inl a2), some (.inl 0), none, none]) rfl ?_
        exact p_X12_shares_46 φ a1 a2 0 v9.2.1 v9.2.2 h
      · replace h := gz_ifn c h
        refine gz_iconst (pc := 42) dX12_shares_42 (v := 0) (by decide) ?_
        cases h; exact gz_iret (pc := 43) dX12_shares_43 rfl ⟨rfl, rfl⟩
    refine gz_if_ne (pc := 27) (tgt := 34) dX12_shares_27 (by decide) (fun c => ?_) (fun c => ?_)
    · rw [if_pos c] at kj7
      refine gz_iconst (pc := 34) dX12_shares_34 (v := 0) (by decide) ?_
      exact kj7
    · rw [if_neg (show ¬ (¬ v6 = 0) from fun q => q c)] at kj7
      refine gz_iconst (pc := 30) dX12_shares_30 (v := 1) (by decide) ?_
      refine gz_goto (pc := 31) (tgt := 35) dX12_shares_31 (by decide) ?_
      exact kj7
/-! X12_worthTo: worthTo -/
def f_X12_worthTo (I : gzIT) (a1 : Int32) (a2 : Int32) : Option Int32 := Option.bind (f_X12_ofFamily I a1 1) (fun v2 => some (a2 - (2 * (if 0 < a2 - (3 * v2) then a2 - (3 * v2) else 0))))
set_option maxRecDepth 20000 in
theorem c_X12_worthTo {g : gzG} {d : Nat} {a1 : Int32} {a2 : Int32} {I : gzIT} {J : gzJT} {r : Int32} (h : f_X12_worthTo I a1 a2 = some r) : gzC g 0 (d + 2) mX12_worthTo [.inr (.inr (0, 47)), .inl a1, .inl a2] (gzN, gzR0, I, J) (gzE (.ok (some (.inl r))) (gzN, gzR0, I, J)) := by
  unfold f_X12_worthTo at h
  refine gzC_of (by decide +kernel) (Nat.le_of_ble_eq_true rfl) (loc := [some (.inr (.inr (0, 47))), some (.inl a1), some (.inl a2)]) rfl ?_
  have z_0_47 : gzOk 0 47 gzN := gzOk_of (by decide)
  refine gz_iload_n (pc := 0) dX12_worthTo_0 rfl ?_
  refine gz_iconst (pc := 1) dX12_worthTo_1 (v := 2) (by decide) ?_
  refine gz_iconst (pc := 2) dX12_worthTo_2 (v := 0) (by decide) ?_
  refine gz_iload_n (pc := 3) dX12_worthTo_3 rfl ?_
  refine gz_iconst (pc := 4) dX12_worthTo_4 (v := 3) (by decide) ?_
  refine gz_aload_n (pc := 5) dX12_worthTo_5 rfl ?_
  refine gz_iload_n (pc := 6) dX12_worthTo_6 rfl ?_
  refine gz_iconst (pc := 7) dX12_worthTo_7 (v := 1) (by decide) ?_
  refine gz_V (zy := mX12_ofFamily) (zc := 0) (pc := 8) [.inl a1, .inl 1] rfl dX12_worthTo_8 lkX12_272 MvX12_ofFamily rfl z_0_47 rfl rfl rfl (Or.inl rfl) (fun h => h) (by exact Nat.le_of_ble_eq_true rfl) ?_
  obtain ⟨v2, e1, h⟩ := gz_bd h
  refine gz_useI (c_X12_ofFamily e1) ?_
  refine gz_imul (pc := 11) dX12_worthTo_11  ?_
  refine gz_isub (pc := 12) dX12_worthTo_12  ?_
  refine gx_X12_310 (pc := 13) dX12_worthTo_13 (Nat.le_of_ble_eq_true rfl) rfl ?_
  refine gz_imul (pc := 16) dX12_worthTo_16  ?_
  refine gz_isub (pc := 17) dX12_worthTo_17  ?_
  cases h; exact gz_iret (pc := 18) dX12_worthTo_18 rfl ⟨rfl, rfl⟩
/-! X12_swap: swap -/
def f_X12_swap (a1 : Int32) (a2 : Int32) (I : gzIT) (J : gzJT) : Option (Int32 × gzIT × gzJT) := Option.bind (f_X12_noFamily (gz_ui I 0 47 0 0) a1) (fun v2 => if ¬ v2 = 0 then (Option.bind (f_X12_throwsIf 1 1 (gz_ui I 0 47 0 0) J) (fun v4 => if ¬ v4.1 = 0 then (some (0, v4.2.1, v4.2.2)) else (Option.bind (f_X12_throwsIf (if ¬ a1 = a2 then (0 : Int32) else 1) 2 v4.2.1 v4.2.2) (fun v7 => if v7.1 = 0 then (Option.bind (f_X12_ofFamily v7.2.1 a1 2) (fun v9 => Option.bind (f_X12_ofFamily v7.2.1 a2 2) (fun v11 => Option.bind (f_X12_worthTo v7.2.1 a1 v11) (fun v13 => Option.bind (f_X12_worthTo v7.2.1 a1 v9) (fun v15 => if v13 ≤ v15 then (some (0, v7.2.1, v7.2.2)) else (Option.bind (f_X12_worthTo v7.2.1 a2 v9) (fun v17 => Option.bind (f_X12_worthTo v7.2.1 a2 v11) (fun v19 => if v17 ≤ v19 then (some (0, v7.2.1, v7.2.2)) else (some (1, v7.2.1, v7.2.2)))))))))) else (some (0, v7.2.1, v7.2.2)))))) else (Option.bind (f_X12_noFamily (gz_ui I 0 47 0 0) a2) (fun v21 => Option.bind (f_X12_throwsIf (if v21 = 0 then (0 : Int32) else 1) 1 (gz_ui I 0 47 0 0) J) (fun v24 => if ¬ v24.1 = 0 then (some (0, v24.2.1, v24.2.2)) else (Option.bind (f_X12_throwsIf (if ¬ a1 = a2 then (0 : Int32) else 1) 2 v24.2.1 v24.2.2) (fun v27 => if v27.1 = 0 then (Option.bind (f_X12_ofFamily v27.2.1 a1 2) (fun v29 => Option.bind (f_X12_ofFamily v27.2.1 a2 2) (fun v31 => Option.bind (f_X12_worthTo v27.2.1 a1 v31) (fun v33 => Option.bind (f_X12_worthTo v27.2.1 a1 v29) (fun v35 => if v33 ≤ v35 then (some (0, v27.2.1, v27.2.2)) else (Option.bind (f_X12_worthTo v27.2.1 a2 v29) (fun v37 => Option.bind (f_X12_worthTo v27.2.1 a2 v31) (fun v39 => if v37 ≤ v39 then (some (0, v27.2.1, v27.2.2)) else (some (1, v27.2.1, v27.2.2)))))))))) else (some (0, v27.2.1, v27.2.2))))))))
set_option maxRecDepth 20000 in
theorem c_X12_swap {g : gzG} {d : Nat} {a1 : Int32} {a2 : Int32} {I : gzIT} {J : gzJT} {r : Int32 × gzIT × gzJT} (h : f_X12_swap a1 a2 I J = some r) : gzC g 0 (d + 3) mX12_swap [.inr (.inr (0, 47)), .inl a1, .inl a2] (gzN, gzR0, I, J) (gzE (.ok (some (.inl r.1))) (gzN, gzR0, r.2.1, r.2.2)) := by
  unfold f_X12_swap at h
  refine gzC_of (by decide +kernel) (Nat.le_of_ble_eq_true rfl) (loc := [some (.inr (.inr (0, 47))), some (.inl a1), some (.inl a2), none, none]) rfl ?_
  have z_0_47 : gzOk 0 47 gzN := gzOk_of (by decide)
  refine gz_aload_n (pc := 0) dX12_swap_0 rfl ?_
  refine gz_iconst (pc := 1) dX12_swap_1 (v := 0) (by decide) ?_
  refine gp_X12_3 (pc := 2) dX12_swap_2 z_0_47 rfl ?_
  refine gz_aload_n (pc := 5) dX12_swap_5 rfl ?_
  refine gz_aload_n (pc := 6) dX12_swap_6 rfl ?_
  refine gz_iload_n (pc := 7) dX12_swap_7 rfl ?_
  refine gz_V (zy := mX12_noFamily) (zc := 0) (pc := 8) [.inl a1] rfl dX12_swap_8 lkX12_301 MvX12_noFamily rfl z_0_47 rfl rfl rfl (Or.inl rfl) (fun h => h) (by exact Nat.le_of_ble_eq_true rfl) ?_
  obtain ⟨v2, e1, h⟩ := gz_bd h
  refine gz_useI (c_X12_noFamily e1) ?_
  refine gz_if_ne (pc := 11) (tgt := 22) dX12_swap_11 (by decide) (fun c => ?_) (fun c => ?_)
  · replace h := gz_ifp c h
    refine gz_iconst (pc := 22) dX12_swap_22 (v := 1) (by decide) ?_
    refine gz_goto (pc := 23) (tgt := 27) dX12_swap_23 (by decide) ?_
    refine gz_iconst (pc := 27) dX12_swap_27 (v := 1) (by decide) ?_
    refine gz_V (zy := mX12_throwsIf) (zc := 0) (pc := 28) [.inl 1, .inl 1] rfl dX12_swap_28 lkX12_269 MvX12_throwsIf rfl z_0_47 rfl rfl rfl (Or.inl rfl) (fun h => h) (by exact Nat.le_of_ble_eq_true rfl) ?_
    obtain ⟨v4, e3, h⟩ := gz_bd h
    refine gz_useI (c_X12_throwsIf e3) ?_
    refine gz_if_ne (pc := 31) (tgt := 52) dX12_swap_31 (by decide) (fun c => ?_) (fun c => ?_)
    · replace h := gz_ifp c h
      refine gz_iconst (pc := 52) dX12_swap_52 (v := 0) (by decide) ?_
      cases h; exact gz_zret (pc := 53) dX12_swap_53 rfl (by decide) ⟨rfl, rfl⟩
    · replace h := gz_ifn (fun q => q c) h
      refine gz_aload_n (pc := 34) dX12_swap_34 rfl ?_
      refine gz_iload_n (pc := 35) dX12_swap_35 rfl ?_
      refine gz_iload_n (pc := 36) dX12_swap_36 rfl ?_
      have kj5 : gzX g 0 (d + 3) mX12_swap 45 [some (.inr (.inr (0, 47))), some (.inl a1), some (.inl a2), none, none] ([.inl (if ¬ a1 = a2 then (0 : Int32) else 1), .inr (.inr (0, 47))]) (gzN, gzR0, v4.2.1, v4.2.2) 0 (gzE (.ok (some (.inl r.1))) (gzN, gzR0, r.2.1, r.2.2)) := by
        refine gz_iconst (pc := 45) dX12_swap_45 (v := 2) (by decide) ?_
        refine gz_V (zy := mX12_throwsIf) (zc := 0) (pc := 46) [.inl (if ¬ a1 = a2 then (0 : Int32) else 1), .inl 2] rfl dX12_swap_46 lkX12_269 MvX12_throwsIf rfl z_0_47 rfl rfl rfl (Or.inl rfl) (fun h => h) (by exact Nat.le_of_ble_eq_true rfl) ?_
        obtain ⟨v7, e6, h⟩ := gz_bd h
        refine gz_useI (c_X12_throwsIf e6) ?_
        refine gz_if_eq (pc := 49) (tgt := 54) dX12_swap_49 (by decide) (fun c => ?_) (fun c => ?_)
        · replace h := gz_ifp c h
          refine gz_aload_n (pc := 54) dX12_swap_54 rfl ?_
          refine gz_iload_n (pc := 55) dX12_swap_55 rfl ?_
          refine gz_iconst (pc := 56) dX12_swap_56 (v := 2) (by decide) ?_
          refine gz_V (zy := mX12_ofFamily) (zc := 0) (pc := 57) [.inl a1, .inl 2] rfl dX12_swap_57 lkX12_272 MvX12_ofFamily rfl z_0_47 rfl rfl rfl (Or.inl rfl) (fun h => h) (by exact Nat.le_of_ble_eq_true rfl) ?_
          obtain ⟨v9, e8, h⟩ := gz_bd h
          refine gz_useI (c_X12_ofFamily e8) ?_
          refine gz_istore_n (pc := 60) dX12_swap_60 (by decide) rfl (loc2 := [some (.inr (.inr (0, 47))), some (.inl a1), some (.inl a2), some (.inl v9), none]) rfl ?_
          refine gz_aload_n (pc := 61) dX12_swap_61 rfl ?_
          refine gz_iload_n (pc := 62) dX12_swap_62 rfl ?_
          refine gz_iconst (pc := 63) dX12_swap_63 (v := 2) (by decide) ?_
          refine gz_V (zy := mX12_ofFamily) (zc := 0) (pc := 64) [.inl a2, .inl 2] rfl dX12_swap_64 lkX12_272 MvX12_ofFamily rfl z_0_47 rfl rfl rfl (Or.inl rfl) (fun h => h) (by exact Nat.le_of_ble_eq_true rfl) ?_
          obtain ⟨v11, e10, h⟩ := gz_bd h
          refine gz_useI (c_X12_ofFamily e10) ?_
          refine gz_istore (pc := 67) dX12_swap_67 (by decide) rfl (loc2 := [some (.inr (.inr (0, 47))), some (.inl a1), some (.inl a2), some (.inl v9), some (.inl v11)]) rfl ?_
          refine gz_aload_n (pc := 69) dX12_swap_69 rfl ?_
          refine gz_iload_n (pc := 70) dX12_swap_70 rfl ?_
          refine gz_iload (pc := 71) dX12_swap_71 rfl ?_
          refine gz_V (zy := mX12_worthTo) (zc := 0) (pc := 73) [.inl a1, .inl v11] rfl dX12_swap_73 lkX12_432 MvX12_worthTo rfl z_0_47 rfl rfl rfl (Or.inl rfl) (fun h => h) (by exact Nat.le_of_ble_eq_true rfl) ?_
          obtain ⟨v13, e12, h⟩ := gz_bd h
          refine gz_useI (c_X12_worthTo e12) ?_
          refine gz_aload_n (pc := 76) dX12_swap_76 rfl ?_
          refine gz_iload_n (pc := 77) dX12_swap_77 rfl ?_
          refine gz_iload_n (pc := 78) dX12_swap_78 rfl ?_
          refine gz_V (zy := mX12_worthTo) (zc := 0) (pc := 79) [.inl a1, .inl v9] rfl dX12_swap_79 lkX12_432 MvX12_worthTo rfl z_0_47 rfl rfl rfl (Or.inl rfl) (fun h => h) (by exact Nat.le_of_ble_eq_true rfl) ?_
          obtain ⟨v15, e14, h⟩ := gz_bd h
          refine gz_useI (c_X12_worthTo e14) ?_
          refine gz_ic_le (pc := 82) (tgt := 105) dX12_swap_82 (by decide) (fun c => ?_) (fun c => ?_)
          · replace h := gz_ifp c h
            refine gz_iconst (pc := 105) dX12_swap_105 (v := 0) (by decide) ?_
            cases h; exact gz_zret (pc := 106) dX12_swap_106 rfl (by decide) ⟨rfl, rfl⟩
          · replace h := gz_ifn c h
            refine gz_aload_n (pc := 85) dX12_swap_85 rfl ?_
            refine gz_iload_n (pc := 86) dX12_swap_86 rfl ?_
            refine gz_iload_n (pc := 87) dX12_swap_87 rfl ?_
            refine gz_V (zy := mX12_worthTo) (zc := 0) (pc := 88) [.inl a2, .inl v9] rfl dX12_swap_88 lkX12_432 MvX12_worthTo rfl z_0_47 rfl rfl rfl (Or.inl rfl) (fun h => h) (by exact Nat.le_of_ble_eq_true rfl) ?_
            obtain ⟨v17, e16, h⟩ := gz_bd h
            refine gz_useI (c_X12_worthTo e16) ?_
            refine gz_aload_n (pc := 91) dX12_swap_91 rfl ?_
            refine gz_iload_n (pc := 92) dX12_swap_92 rfl ?_
            refine gz_iload (pc := 93) dX12_swap_93 rfl ?_
            refine gz_V (zy := mX12_worthTo) (zc := 0) (pc := 95) [.inl a2, .inl v11] rfl dX12_swap_95 lkX12_432 MvX12_worthTo rfl z_0_47 rfl rfl rfl (Or.inl rfl) (fun h => h) (by exact Nat.le_of_ble_eq_true rfl) ?_
            obtain ⟨v19, e18, h⟩ := gz_bd h
            refine gz_useI (c_X12_worthTo e18) ?_
            refine gz_ic_le (pc := 98) (tgt := 105) dX12_swap_98 (by decide) (fun c => ?_) (fun c => ?_)
            · replace h := gz_ifp c h
              refine gz_iconst (pc := 105) dX12_swap_105 (v := 0) (by decide) ?_
              cases h; exact gz_zret (pc := 106) dX12_swap_106 rfl (by decide) ⟨rfl, rfl⟩
            · replace h := gz_ifn c h
              refine gz_iconst (pc := 101) dX12_swap_101 (v := 1) (by decide) ?_
              refine gz_goto (pc := 102) (tgt := 106) dX12_swap_102 (by decide) ?_
              cases h; exact gz_zret (pc := 106) dX12_swap_106 rfl (by decide) ⟨rfl, rfl⟩
        · replace h := gz_ifn c h
          refine gz_iconst (pc := 52) dX12_swap_52 (v := 0) (by decide) ?_
          cases h; exact gz_zret (pc := 53) dX12_swap_53 rfl (by decide) ⟨rfl, rfl⟩
      refine gz_ic_ne (pc := 37) (tgt := 44) dX12_swap_37 (by decide) (fun c => ?_) (fun c => ?_)
      · rw [if_pos c] at kj5
        refine gz_iconst (pc := 44) dX12_swap_44 (v := 0) (by decide) ?_
        exact kj5
      · rw [if_neg (show ¬ (¬ a1 = a2) from fun q => q c)] at kj5
        refine gz_iconst (pc := 40) dX12_swap_40 (v := 1) (by decide) ?_
        refine gz_goto (pc := 41) (tgt := 45) dX12_swap_41 (by decide) ?_
        exact kj5
  · replace h := gz_ifn (fun q => q c) h
    refine gz_aload_n (pc := 14) dX12_swap_14 rfl ?_
    refine gz_iload_n (pc := 15) dX12_swap_15 rfl ?_
    refine gz_V (zy := mX12_noFamily) (zc := 0) (pc := 16) [.inl a2] rfl dX12_swap_16 lkX12_301 MvX12_noFamily rfl z_0_47 rfl rfl rfl (Or.inl rfl) (fun h => h) (by exact Nat.le_of_ble_eq_true rfl) ?_
    obtain ⟨v21, e20, h⟩ := gz_bd h
    refine gz_useI (c_X12_noFamily e20) ?_
    have kj22 : gzX g 0 (d + 3) mX12_swap 27 [some (.inr (.inr (0, 47))), some (.inl a1), some (.inl a2), none, none] ([.inl (if v21 = 0 then (0 : Int32) else 1), .inr (.inr (0, 47))]) (gzN, gzR0, gz_ui I 0 47 0 0, J) 0 (gzE (.ok (some (.inl r.1))) (gzN, gzR0, r.2.1, r.2.2)) := by
      refine gz_iconst (pc := 27) dX12_swap_27 (v := 1) (by decide) ?_
      refine gz_V (zy := mX12_throwsIf) (zc := 0) (pc := 28) [.inl (if v21 = 0 then (0 : Int32) else 1), .inl 1] rfl dX12_swap_28 lkX12_269 MvX12_throwsIf rfl z_0_47 rfl rfl rfl (Or.inl rfl) (fun h => h) (by exact Nat.le_of_ble_eq_true rfl) ?_
      obtain ⟨v24, e23, h⟩ := gz_bd h
      refine gz_useI (c_X12_throwsIf e23) ?_
      refine gz_if_ne (pc := 31) (tgt := 52) dX12_swap_31 (by decide) (fun c => ?_) (fun c => ?_)
      · replace h := gz_ifp c h
        refine gz_iconst (pc := 52) dX12_swap_52 (v := 0) (by decide) ?_
        cases h; exact gz_zret (pc := 53) dX12_swap_53 rfl (by decide) ⟨rfl, rfl⟩
      · replace h := gz_ifn (fun q => q c) h
        refine gz_aload_n (pc := 34) dX12_swap_34 rfl ?_
        refine gz_iload_n (pc := 35) dX12_swap_35 rfl ?_
        refine gz_iload_n (pc := 36) dX12_swap_36 rfl ?_
        have kj25 : gzX g 0 (d + 3) mX12_swap 45 [some (.inr (.inr (0, 47))), some (.inl a1), some (.inl a2), none, none] ([.inl (if ¬ a1 = a2 then (0 : Int32) else 1), .inr (.inr (0, 47))]) (gzN, gzR0, v24.2.1, v24.2.2) 0 (gzE (.ok (some (.inl r.1))) (gzN, gzR0, r.2.1, r.2.2)) := by
          refine gz_iconst (pc := 45) dX12_swap_45 (v := 2) (by decide) ?_
          refine gz_V (zy := mX12_throwsIf) (zc := 0) (pc := 46) [.inl (if ¬ a1 = a2 then (0 : Int32) else 1), .inl 2] rfl dX12_swap_46 lkX12_269 MvX12_throwsIf rfl z_0_47 rfl rfl rfl (Or.inl rfl) (fun h => h) (by exact Nat.le_of_ble_eq_true rfl) ?_
          obtain ⟨v27, e26, h⟩ := gz_bd h
          refine gz_useI (c_X12_throwsIf e26) ?_
          refine gz_if_eq (pc := 49) (tgt := 54) dX12_swap_49 (by decide) (fun c => ?_) (fun c => ?_)
          · replace h := gz_ifp c h
            refine gz_aload_n (pc := 54) dX12_swap_54 rfl ?_
            refine gz_iload_n (pc := 55) dX12_swap_55 rfl ?_
            refine gz_iconst (pc := 56) dX12_swap_56 (v := 2) (by decide) ?_
            refine gz_V (zy := mX12_ofFamily) (zc := 0) (pc := 57) [.inl a1, .inl 2] rfl dX12_swap_57 lkX12_272 MvX12_ofFamily rfl z_0_47 rfl rfl rfl (Or.inl rfl) (fun h => h) (by exact Nat.le_of_ble_eq_true rfl) ?_
            obtain ⟨v29, e28, h⟩ := gz_bd h
            refine gz_useI (c_X12_ofFamily e28) ?_
            refine gz_istore_n (pc := 60) dX12_swap_60 (by decide) rfl (loc2 := [some (.inr (.inr (0, 47))), some (.inl a1), some (.inl a2), some (.inl v29), none]) rfl ?_
            refine gz_aload_n (pc := 61) dX12_swap_61 rfl ?_
            refine gz_iload_n (pc := 62) dX12_swap_62 rfl ?_
            refine gz_iconst (pc := 63) dX12_swap_63 (v := 2) (by decide) ?_
            refine gz_V (zy := mX12_ofFamily) (zc := 0) (pc := 64) [.inl a2, .inl 2] rfl dX12_swap_64 lkX12_272 MvX12_ofFamily rfl z_0_47 rfl rfl rfl (Or.inl rfl) (fun h => h) (by exact Nat.le_of_ble_eq_true rfl) ?_
            obtain ⟨v31, e30, h⟩ := gz_bd h
            refine gz_useI (c_X12_ofFamily e30) ?_
            refine gz_istore (pc := 67) dX12_swap_67 (by decide) rfl (loc2 := [some (.inr (.inr (0, 47))), some (.inl a1), some (.inl a2), some (.inl v29), some (.inl v31)]) rfl ?_
            refine gz_aload_n (pc := 69) dX12_swap_69 rfl ?_
            refine gz_iload_n (pc := 70) dX12_swap_70 rfl ?_
            refine gz_iload (pc := 71) dX12_swap_71 rfl ?_
            refine gz_V (zy := mX12_worthTo) (zc := 0) (pc := 73) [.inl a1, .inl v31] rfl dX12_swap_73 lkX12_432 MvX12_worthTo rfl z_0_47 rfl rfl rfl (Or.inl rfl) (fun h => h) (by exact Nat.le_of_ble_eq_true rfl) ?_
            obtain ⟨v33, e32, h⟩ := gz_bd h
            refine gz_useI (c_X12_worthTo e32) ?_
            refine gz_aload_n (pc := 76) dX12_swap_76 rfl ?_
            refine gz_iload_n (pc := 77) dX12_swap_77 rfl ?_
            refine gz_iload_n (pc := 78) dX12_swap_78 rfl ?_
            refine gz_V (zy := mX12_worthTo) (zc := 0) (pc := 79) [.inl a1, .inl v29] rfl dX12_swap_79 lkX12_432 MvX12_worthTo rfl z_0_47 rfl rfl rfl (Or.inl rfl) (fun h => h) (by exact Nat.le_of_ble_eq_true rfl) ?_
            obtain ⟨v35, e34, h⟩ := gz_bd h
            refine gz_useI (c_X12_worthTo e34) ?_
            refine gz_ic_le (pc := 82) (tgt := 105) dX12_swap_82 (by decide) (fun c => ?_) (fun c => ?_)
            · replace h := gz_ifp c h
              refine gz_iconst (pc := 105) dX12_swap_105 (v := 0) (by decide) ?_
              cases h; exact gz_zret (pc := 106) dX12_swap_106 rfl (by decide) ⟨rfl, rfl⟩
            · replace h := gz_ifn c h
              refine gz_aload_n (pc := 85) dX12_swap_85 rfl ?_
              refine gz_iload_n (pc := 86) dX12_swap_86 rfl ?_
              refine gz_iload_n (pc := 87) dX12_swap_87 rfl ?_
              refine gz_V (zy := mX12_worthTo) (zc := 0) (pc := 88) [.inl a2, .inl v29] rfl dX12_swap_88 lkX12_432 MvX12_worthTo rfl z_0_47 rfl rfl rfl (Or.inl rfl) (fun h => h) (by exact Nat.le_of_ble_eq_true rfl) ?_
              obtain ⟨v37, e36, h⟩ := gz_bd h
              refine gz_useI (c_X12_worthTo e36) ?_
              refine gz_aload_n (pc := 91) dX12_swap_91 rfl ?_
              refine gz_iload_n (pc := 92) dX12_swap_92 rfl ?_
              refine gz_iload (pc := 93) dX12_swap_93 rfl ?_
              refine gz_V (zy := mX12_worthTo) (zc := 0) (pc := 95) [.inl a2, .inl v31] rfl dX12_swap_95 lkX12_432 MvX12_worthTo rfl z_0_47 rfl rfl rfl (Or.inl rfl) (fun h => h) (by exact Nat.le_of_ble_eq_true rfl) ?_
              obtain ⟨v39, e38, h⟩ := gz_bd h
              refine gz_useI (c_X12_worthTo e38) ?_
              refine gz_ic_le (pc := 98) (tgt := 105) dX12_swap_98 (by decide) (fun c => ?_) (fun c => ?_)
              · replace h := gz_ifp c h
                refine gz_iconst (pc := 105) dX12_swap_105 (v := 0) (by decide) ?_
                cases h; exact gz_zret (pc := 106) dX12_swap_106 rfl (by decide) ⟨rfl, rfl⟩
              · replace h := gz_ifn c h
                refine gz_iconst (pc := 101) dX12_swap_101 (v := 1) (by decide) ?_
                refine gz_goto (pc := 102) (tgt := 106) dX12_swap_102 (by decide) ?_
                cases h; exact gz_zret (pc := 106) dX12_swap_106 rfl (by decide) ⟨rfl, rfl⟩
          · replace h := gz_ifn c h
            refine gz_iconst (pc := 52) dX12_swap_52 (v := 0) (by decide) ?_
            cases h; exact gz_zret (pc := 53) dX12_swap_53 rfl (by decide) ⟨rfl, rfl⟩
        refine gz_ic_ne (pc := 37) (tgt := 44) dX12_swap_37 (by decide) (fun c => ?_) (fun c => ?_)
        · rw [if_pos c] at kj25
          refine gz_iconst (pc := 44) dX12_swap_44 (v := 0) (by decide) ?_
          exact kj25
        · rw [if_neg (show ¬ (¬ a1 = a2) from fun q => q c)] at kj25
          refine gz_iconst (pc := 40) dX12_swap_40 (v := 1) (by decide) ?_
          refine gz_goto (pc := 41) (tgt := 45) dX12_swap_41 (by decide) ?_
          exact kj25
    refine gz_if_eq (pc := 19) (tgt := 26) dX12_swap_19 (by decide) (fun c => ?_) (fun c => ?_)
    · rw [if_pos c] at kj22
      refine gz_iconst (pc := 26) dX12_swap_26 (v := 0) (by decide) ?_
      exact kj22
    · rw [if_neg c] at kj22
      refine gz_iconst (pc := 22) dX12_swap_22 (v := 1) (by decide) ?_
      refine gz_goto (pc := 23) (tgt := 27) dX12_swap_23 (by decide) ?_
      exact kj22
/-! X12_fromHas: fromHas -/
def f_X12_fromHas (I : gzIT) (a1 : Int32) (a2 : Int32) (a3 : Int32) : Option Int32 := if ¬ a2 = 0 then (if ¬ a3 = 0 then (Option.bind (f_X12_ofSlight I a1 1) (fun v2 => some (v2 / 2))) else (Option.bind (f_X12_of I a1 0) (fun v5 => Option.bind (f_X12_ofFamily I v5 0) (fun v7 => some (-v7))))) else (if ¬ a3 = 0 then (some (-1)) else (Option.bind (f_X12_ofSlight I a1 0) (fun v9 => some v9)))
set_option maxRecDepth 20000 in
theorem c_X12_fromHas {g : gzG} {d : Nat} {a1 : Int32} {a2 : Int32} {a3 : Int32} {I : gzIT} {J : gzJT} {r : Int32} (h : f_X12_fromHas I a1 a2 a3 = some r) : gzC g 0 (d + 3) mX12_fromHas [.inr (.inr (0, 47)), .inl a1, .inl a2, .inl a3] (gzN, gzR0, I, J) (gzE (.ok (some (.inl r))) (gzN, gzR0, I, J)) := by
  unfold f_X12_fromHas at h
  refine gzC_of (by decide +kernel) (Nat.le_of_ble_eq_true rfl) (loc := [some (.inr (.inr (0, 47))), some (.inl a1), some (.inl a2), some (.inl a3)]) rfl ?_
  have z_0_47 : gzOk 0 47 gzN := gzOk_of (by decide)
  refine gz_iload_n (pc := 0) dX12_fromHas_0 rfl ?_
  refine gz_if_ne (pc := 1) (tgt := 19) dX12_fromHas_1 (by decide) (fun c => ?_) (fun c => ?_)
  · replace h := gz_ifp c h
    refine gz_iload_n (pc := 19) dX12_fromHas_19 rfl ?_
    refine gz_if_ne (pc := 20) (tgt := 38) dX12_fromHas_20 (by decide) (fun c => ?_) (fun c => ?_)
    · replace h := gz_ifp c h
      refine gz_aload_n (pc := 38) dX12_fromHas_38 rfl ?_
      refine gz_iload_n (pc := 39) dX12_fromHas_39 rfl ?_
      refine gz_iconst (pc := 40) dX12_fromHas_40 (v := 1) (by decide) ?_
      refine gz_V (zy := mX12_ofSlight) (zc := 0) (pc := 41) [.inl a1, .inl 1] rfl dX12_fromHas_41 lkX12_275 MvX12_ofSlight rfl z_0_47 rfl rfl rfl (Or.inl rfl) (fun h => h) (by exact Nat.le_of_ble_eq_true rfl) ?_
      obtain ⟨v2, e1, h⟩ := gz_bd h
      refine gz_useI (c_X12_ofSlight e1) ?_
      refine gz_iconst (pc := 44) dX12_fromHas_44 (v := 2) (by decide) ?_
      refine gz_idiv (pc := 45) dX12_fromHas_45 (by decide) ?_
      cases h; exact gz_iret (pc := 46) dX12_fromHas_46 rfl ⟨rfl, rfl⟩
    · replace h := gz_ifn (fun q => q c) h
      refine gz_aload_n (pc := 23) dX12_fromHas_23 rfl ?_
      refine gz_aload_n (pc := 24) dX12_fromHas_24 rfl ?_
      refine gz_iload_n (pc := 25) dX12_fromHas_25 rfl ?_
      refine gz_iconst (pc := 26) dX12_fromHas_26 (v := 0) (by decide) ?_
      refine gz_V (zy := mX12_of) (zc := 0) (pc := 27) [.inl a1, .inl 0] rfl dX12_fromHas_27 lkX12_70 MvX12_of rfl z_0_47 rfl rfl rfl (Or.inl rfl) (fun h => h) (by exact Nat.le_of_ble_eq_true rfl) ?_
      obtain ⟨v5, e4, h⟩ := gz_bd h
      refine gz_useI (c_X12_of e4) ?_
      refine gz_iconst (pc := 30) dX12_fromHas_30 (v := 0) (by decide) ?_
      refine gz_V (zy := mX12_ofFamily) (zc := 0) (pc := 31) [.inl v5, .inl 0] rfl dX12_fromHas_31 lkX12_272 MvX12_ofFamily rfl z_0_47 rfl rfl rfl (Or.inl rfl) (fun h => h) (by exact Nat.le_of_ble_eq_true rfl) ?_
      obtain ⟨v7, e6, h⟩ := gz_bd h
      refine gz_useI (c_X12_ofFamily e6) ?_
      refine gz_ineg (pc := 34) dX12_fromHas_34  ?_
      refine gz_goto (pc := 35) (tgt := 46) dX12_fromHas_35 (by decide) ?_
      cases h; exact gz_iret (pc := 46) dX12_fromHas_46 rfl ⟨rfl, rfl⟩
  · replace h := gz_ifn (fun q => q c) h
    refine gz_iload_n (pc := 4) dX12_fromHas_4 rfl ?_
    refine gz_if_ne (pc := 5) (tgt := 17) dX12_fromHas_5 (by decide) (fun c => ?_) (fun c => ?_)
    · replace h := gz_ifp c h
      refine gz_iconst (pc := 17) dX12_fromHas_17 (v := (-1)) (by decide) ?_
      cases h; exact gz_iret (pc := 18) dX12_fromHas_18 rfl ⟨rfl, rfl⟩
    · replace h := gz_ifn (fun q => q c) h
      refine gz_aload_n (pc := 8) dX12_fromHas_8 rfl ?_
      refine gz_iload_n (pc := 9) dX12_fromHas_9 rfl ?_
      refine gz_iconst (pc := 10) dX12_fromHas_10 (v := 0) (by decide) ?_
      refine gz_V (zy := mX12_ofSlight) (zc := 0) (pc := 11) [.inl a1, .inl 0] rfl dX12_fromHas_11 lkX12_275 MvX12_ofSlight rfl z_0_47 rfl rfl rfl (Or.inl rfl) (fun h => h) (by exact Nat.le_of_ble_eq_true rfl) ?_
      obtain ⟨v9, e8, h⟩ := gz_bd h
      refine gz_useI (c_X12_ofSlight e8) ?_
      refine gz_goto (pc := 14) (tgt := 18) dX12_fromHas_14 (by decide) ?_
      cases h; exact gz_iret (pc := 18) dX12_fromHas_18 rfl ⟨rfl, rfl⟩
/-! X12_toHas: toHas -/
def f_X12_toHas (I : gzIT) (a1 : Int32) (a2 : Int32) (a3 : Int32) : Option Int32 := if ¬ a2 = 0 then (if ¬ a3 = 0 then (Option.bind (f_X12_ofSlight I a1 1) (fun v2 => some (v2 / 2))) else (some 4)) else (some (if ¬ a3 = 0 then ((-3) : Int32) else 2))
set_option maxRecDepth 20000 in
theorem c_X12_toHas {g : gzG} {d : Nat} {a1 : Int32} {a2 : Int32} {a3 : Int32} {I : gzIT} {J : gzJT} {r : Int32} (h : f_X12_toHas I a1 a2 a3 = some r) : gzC g 0 (d + 3) mX12_toHas [.inr (.inr (0, 47)), .inl a1, .inl a2, .inl a3] (gzN, gzR0, I, J) (gzE (.ok (some (.inl r))) (gzN, gzR0, I, J)) := by
  unfold f_X12_toHas at h
  refine gzC_of (by decide +kernel) (Nat.le_of_ble_eq_true rfl) (loc := [some (.inr (.inr (0, 47))), some (.inl a1), some (.inl a2), some (.inl a3)]) rfl ?_
  have z_0_47 : gzOk 0 47 gzN := gzOk_of (by decide)
  refine gz_iload_n (pc := 0) dX12_toHas_0 rfl ?_
  refine gz_if_ne (pc := 1) (tgt := 15) dX12_toHas_1 (by decide) (fun c => ?_) (fun c => ?_)
  · replace h := gz_ifp c h
    refine gz_iload_n (pc := 15) dX12_toHas_15 rfl ?_
    refine gz_if_ne (pc := 16) (tgt := 23) dX12_toHas_16 (by decide) (fun c => ?_) (fun c => ?_)
    · replace h := gz_ifp c h
      refine gz_aload_n (pc := 23) dX12_toHas_23 rfl ?_
      refine gz_iload_n (pc := 24) dX12_toHas_24 rfl ?_
      refine gz_iconst (pc := 25) dX12_toHas_25 (v := 1) (by decide) ?_
      refine gz_V (zy := mX12_ofSlight) (zc := 0) (pc := 26) [.inl a1, .inl 1] rfl dX12_toHas_26 lkX12_275 MvX12_ofSlight rfl z_0_47 rfl rfl rfl (Or.inl rfl) (fun h => h) (by exact Nat.le_of_ble_eq_true rfl) ?_
      obtain ⟨v2, e1, h⟩ := gz_bd h
      refine gz_useI (c_X12_ofSlight e1) ?_
      refine gz_iconst (pc := 29) dX12_toHas_29 (v := 2) (by decide) ?_
      refine gz_idiv (pc := 30) dX12_toHas_30 (by decide) ?_
      cases h; exact gz_iret (pc := 31) dX12_toHas_31 rfl ⟨rfl, rfl⟩
    · replace h := gz_ifn (fun q => q c) h
      refine gz_iconst (pc := 19) dX12_toHas_19 (v := 4) (by decide) ?_
      refine gz_goto (pc := 20) (tgt := 31) dX12_toHas_20 (by decide) ?_
      cases h; exact gz_iret (pc := 31) dX12_toHas_31 rfl ⟨rfl, rfl⟩
  · replace h := gz_ifn (fun q => q c) h
    refine gz_iload_n (pc := 4) dX12_toHas_4 rfl ?_
    have kj4 : gzX g 0 (d + 3) mX12_toHas 14 [some (.inr (.inr (0, 47))), some (.inl a1), some (.inl a2), some (.inl a3)] ([.inl (if ¬ a3 = 0 then ((-3) : Int32) else 2)]) (gzN, gzR0, I, J) 0 (gzE (.ok (some (.inl r))) (gzN, gzR0, I, J)) := by
      cases h; exact gz_iret (pc := 14) dX12_toHas_14 rfl ⟨rfl, rfl⟩
    refine gz_if_ne (pc := 5) (tgt := 12) dX12_toHas_5 (by decide) (fun c => ?_) (fun c => ?_)
    · rw [if_pos c] at kj4
      refine gz_bipush (pc := 12) dX12_toHas_12 (v := (-3)) (by decide) ?_
      exact kj4
    · rw [if_neg (show ¬ (¬ a3 = 0) from fun q => q c)] at kj4
      refine gz_iconst (pc := 8) dX12_toHas_8 (v := 2) (by decide) ?_
      refine gz_goto (pc := 9) (tgt := 14) dX12_toHas_9 (by decide) ?_
      exact kj4
/-! X12_rests: rests -/
def gP_X12_rests_42 (g : gzG) (d : Nat) (r : Int32 × gzIT × gzJT) (x1 : Int32) (x2 : Int32) (x3 : Int32) (x4 : Int32) (I : gzIT) (J : gzJT) : Prop := gzX g 0 (d + 4) mX12_rests 42 [some (.inr (.inr (0, 47))), some (.inl x1), some (.inl x2), some (.inl x3), some (.inl x4)] [] (gzN, gzR0, I, J) 0 (gzE (.ok (some (.inl r.1))) (gzN, gzR0, r.2.1, r.2.2))
def gP_X12_rests_34 (g : gzG) (d : Nat) (r : Int32 × gzIT × gzJT) (x1 : Int32) (x2 : Int32) (x3 : Int32) (I : gzIT) (J : gzJT) : Prop := gzX g 0 (d + 4) mX12_rests 34 [some (.inr (.inr (0, 47))), some (.inl x1), some (.inl x2), some (.inl x3), none] [] (gzN, gzR0, I, J) 0 (gzE (.ok (some (.inl r.1))) (gzN, gzR0, r.2.1, r.2.2))
def f_X12_rests_42 (φ : Nat) (K34 : Int32 → Int32 → Int32 → gzIT → gzJT → Option (Int32 × gzIT × gzJT)) : Nat → Int32 → Int32 → Int32 → Int32 → gzIT → gzJT → Option (Int32 × gzIT × gzJT)
  | 0, _, _, _, _, _, _ => none
  | k + 1, x1, x2, x3, x4, I, J => if 2 ≤ x4 then (K34 x1 x2 (x3 + 1) I J) else (Option.bind (f_X12_fromHas I x1 x3 x4) (fun v8 => Option.bind (f_X12_fromHas I x1 (1 - x3) x4) (fun v10 => if v8 < v10 then (f_X12_rests_42 φ K34 k x1 (x2 ||| 0) x3 (x4 + 1) I J) else (Option.bind (f_X12_toHas I x1 x3 x4) (fun v12 => Option.bind (f_X12_toHas I x1 x3 (1 - x4)) (fun v14 => if v12 < v14 then (f_X12_rests_42 φ K34 k x1 (x2 ||| 0) x3 (x4 + 1) I J) else (f_X12_rests_42 φ K34 k x1 (x2 ||| ((1 : Int32) <<< (((2 * x3) + x4) &&& 31))) x3 (x4 + 1) I J)))))))
set_option maxRecDepth 20000 in
theorem p_X12_rests_42 {g : gzG} {d φ : Nat} {r : Int32 × gzIT × gzJT} {K34 : Int32 → Int32 → Int32 → gzIT → gzJT → Option (Int32 × gzIT × gzJT)} (hK34 : ∀ (x1 : Int32) (x2 : Int32) (x3 : Int32) (I : gzIT) (J : gzJT), K34 x1 x2 x3 I J = some r → gP_X12_rests_34 g d r x1 x2 x3 I J) : ∀ (k : Nat) (x1 : Int32) (x2 : Int32) (x3 : Int32) (x4 : Int32) (I : gzIT) (J : gzJT), f_X12_rests_42 φ K34 k x1 x2 x3 x4 I J = some r → gP_X12_rests_42 g d r x1 x2 x3 x4 I J := by
  intro k; induction k with
  | zero => intro x1 x2 x3 x4 I J h; cases h
  | succ k ih =>
    intro x1 x2 x3 x4 I J h
    unfold f_X12_rests_42 at h
    unfold gP_X12_rests_42
    have z_0_47 : gzOk 0 47 gzN := gzOk_of (by decide)
    refine gz_iload (pc := 42) dX12_rests_42 rfl ?_
    refine gz_iconst (pc := 44) dX12_rests_44 (v := 2) (by decide) ?_
    refine gz_ic_ge (pc := 45) (tgt := 111) dX12_rests_45 (by decide) (fun c => ?_) (fun c => ?_)
    · replace h := gz_ifp c h
      refine gz_iinc (pc := 111) dX12_rests_111 (x := x3) (v := x3 + 1) rfl (by rw [show Int32.ofInt 1 = 1 by decide]) (by decide) rfl (loc2 := [some (.inr (.inr (0, 47))), some (.inl x1), some (.inl x2), some (.inl (x3 + 1)), some (.inl x4)]) rfl ?_
      refine gz_goto (pc := 114) (tgt := 34) dX12_rests_114 (by decide) ?_
      exact gz_weak (loc2 := [some (.inr (.inr (0, 47))), some (.inl x1), some (.inl x2), some (.inl (x3 + 1)), none]) (hK34 x1 x2 (x3 + 1) I J h) (by repeat (first | exact trivial | refine ⟨rfl, ?_⟩))
    · replace h := gz_ifn c h
      refine gz_iload_n (pc := 48) dX12_rests_48 rfl ?_
      refine gz_aload_n (pc := 49) dX12_rests_49 rfl ?_
      refine gz_iload_n (pc := 50) dX12_rests_50 rfl ?_
      refine gz_iload_n (pc := 51) dX12_rests_51 rfl ?_
      refine gz_iload (pc := 52) dX12_rests_52 rfl ?_
      refine gz_V (zy := mX12_fromHas) (zc := 0) (pc := 54) [.inl x1, .inl x3, .inl x4] rfl dX12_rests_54 lkX12_435 MvX12_fromHas rfl z_0_47 rfl rfl rfl (Or.inl rfl) (fun h => h) (by exact Nat.le_of_ble_eq_true rfl) ?_
      obtain ⟨v8, e7, h⟩ := gz_bd h
      refine gz_useI (c_X12_fromHas e7) ?_
      refine gz_aload_n (pc := 57) dX12_rests_57 rfl ?_
      refine gz_iload_n (pc := 58) dX12_rests_58 rfl ?_
      refine gz_iconst (pc := 59) dX12_rests_59 (v := 1) (by decide) ?_
      refine gz_iload_n (pc := 60) dX12_rests_60 rfl ?_
      refine gz_isub (pc := 61) dX12_rests_61  ?_
      refine gz_iload (pc := 62) dX12_rests_62 rfl ?_
      refine gz_V (zy := mX12_fromHas) (zc := 0) (pc := 64) [.inl x1, .inl (1 - x3), .inl x4] rfl dX12_rests_64 lkX12_435 MvX12_fromHas rfl z_0_47 rfl rfl rfl (Or.inl rfl) (fun h => h) (by exact Nat.le_of_ble_eq_true rfl) ?_
      obtain ⟨v10, e9, h⟩ := gz_bd h
      refine gz_useI (c_X12_fromHas e9) ?_
      refine gz_ic_lt (pc := 67) (tgt := 102) dX12_rests_67 (by decide) (fun c => ?_) (fun c => ?_)
      · replace h := gz_ifp c h
        refine gz_iconst (pc := 102) dX12_rests_102 (v := 0) (by decide) ?_
        refine gz_ior (pc := 103) dX12_rests_103  ?_
        refine gz_istore_n (pc := 104) dX12_rests_104 (by decide) rfl (loc2 := [some (.inr (.inr (0, 47))), some (.inl x1), some (.inl (x2 ||| 0)), some (.inl x3), some (.inl x4)]) rfl ?_
        refine gz_iinc (pc := 105) dX12_rests_105 (x := x4) (v := x4 + 1) rfl (by rw [show Int32.ofInt 1 = 1 by decide]) (by decide) rfl (loc2 := [some (.inr (.inr (0, 47))), some (.inl x1), some (.inl (x2 ||| 0)), some (.inl x3), some (.inl (x4 + 1))]) rfl ?_
        refine gz_goto (pc := 108) (tgt := 42) dX12_rests_108 (by decide) ?_
        exact ih x1 (x2 ||| 0) x3 (x4 + 1) I J h
      · replace h := gz_ifn c h
        refine gz_aload_n (pc := 70) dX12_rests_70 rfl ?_
        refine gz_iload_n (pc := 71) dX12_rests_71 rfl ?_
        refine gz_iload_n (pc := 72) dX12_rests_72 rfl ?_
        refine gz_iload (pc := 73) dX12_rests_73 rfl ?_
        refine gz_V (zy := mX12_toHas) (zc := 0) (pc := 75) [.inl x1, .inl x3, .inl x4] rfl dX12_rests_75 lkX12_438 MvX12_toHas rfl z_0_47 rfl rfl rfl (Or.inl rfl) (fun h => h) (by exact Nat.le_of_ble_eq_true rfl) ?_
        obtain ⟨v12, e11, h⟩ := gz_bd h
        refine gz_useI (c_X12_toHas e11) ?_
        refine gz_aload_n (pc := 78) dX12_rests_78 rfl ?_
        refine gz_iload_n (pc := 79) dX12_rests_79 rfl ?_
        refine gz_iload_n (pc := 80) dX12_rests_80 rfl ?_
        refine gz_iconst (pc := 81) dX12_rests_81 (v := 1) (by decide) ?_
        refine gz_iload (pc := 82) dX12_rests_82 rfl ?_
        refine gz_isub (pc := 84) dX12_rests_84  ?_
        refine gz_V (zy := mX12_toHas) (zc := 0) (pc := 85) [.inl x1, .inl x3, .inl (1 - x4)] rfl dX12_rests_85 lkX12_438 MvX12_toHas rfl z_0_47 rfl rfl rfl (Or.inl rfl) (fun h => h) (by exact Nat.le_of_ble_eq_true rfl) ?_
        obtain ⟨v14, e13, h⟩ := gz_bd h
        refine gz_useI (c_X12_toHas e13) ?_
        refine gz_ic_lt (pc := 88) (tgt := 102) dX12_rests_88 (by decide) (fun c => ?_) (fun c => ?_)
        · replace h := gz_ifp c h
          refine gz_iconst (pc := 102) dX12_rests_102 (v := 0) (by decide) ?_
          refine gz_ior (pc := 103) dX12_rests_103  ?_
          refine gz_istore_n (pc := 104) dX12_rests_104 (by decide) rfl (loc2 := [some (.inr (.inr (0, 47))), some (.inl x1), some (.inl (x2 ||| 0)), some (.inl x3), some (.inl x4)]) rfl ?_
          refine gz_iinc (pc := 105) dX12_rests_105 (x := x4) (v := x4 + 1) rfl (by rw [show Int32.ofInt 1 = 1 by decide]) (by decide) rfl (loc2 := [some (.inr (.inr (0, 47))), some (.inl x1), some (.inl (x2 ||| 0)), some (.inl x3), some (.inl (x4 + 1))]) rfl ?_
          refine gz_goto (pc := 108) (tgt := 42) dX12_rests_108 (by decide) ?_
          exact ih x1 (x2 ||| 0) x3 (x4 + 1) I J h
        · replace h := gz_ifn c h
          refine gz_iconst (pc := 91) dX12_rests_91 (v := 1) (by decide) ?_
          refine gz_iconst (pc := 92) dX12_rests_92 (v := 2) (by decide) ?_
          refine gz_iload_n (pc := 93) dX12_rests_93 rfl ?_
          refine gz_imul (pc := 94) dX12_rests_94  ?_
          refine gz_iload (pc := 95) dX12_rests_95 rfl ?_
          refine gz_iadd (pc := 97) dX12_rests_97  ?_
          refine gz_ishl (pc := 98) dX12_rests_98  ?_
          refine gz_goto (pc := 99) (tgt := 103) dX12_rests_99 (by decide) ?_
          refine gz_ior (pc := 103) dX12_rests_103  ?_
          refine gz_istore_n (pc := 104) dX12_rests_104 (by decide) rfl (loc2 := [some (.inr (.inr (0, 47))), some (.inl x1), some (.inl (x2 ||| ((1 : Int32) <<< (((2 * x3) + x4) &&& 31)))), some (.inl x3), some (.inl x4)]) rfl ?_
          refine gz_iinc (pc := 105) dX12_rests_105 (x := x4) (v := x4 + 1) rfl (by rw [show Int32.ofInt 1 = 1 by decide]) (by decide) rfl (loc2 := [some (.inr (.inr (0, 47))), some (.inl x1), some (.inl (x2 ||| ((1 : Int32) <<< (((2 * x3) + x4) &&& 31)))), some (.inl x3), some (.inl (x4 + 1))]) rfl ?_
          refine gz_goto (pc := 108) (tgt := 42) dX12_rests_108 (by decide) ?_
          exact ih x1 (x2 ||| ((1 : Int32) <<< (((2 * x3) + x4) &&& 31))) x3 (x4 + 1) I J h
def f_X12_rests_34 (φ : Nat) : Nat → Int32 → Int32 → Int32 → gzIT → gzJT → Option (Int32 × gzIT × gzJT)
  | 0, _, _, _, _, _ => none
  | k + 1, x1, x2, x3, I, J => if 2 ≤ x3 then (some (x2, I, J)) else (f_X12_rests_42 φ (f_X12_rests_34 φ k) φ x1 x2 x3 0 I J)
set_option maxRecDepth 20000 in
theorem p_X12_rests_34 {g : gzG} {d φ : Nat} {r : Int32 × gzIT × gzJT} : ∀ (k : Nat) (x1 : Int32) (x2 : Int32) (x3 : Int32) (I : gzIT) (J : gzJT), f_X12_rests_34 φ k x1 x2 x3 I J = some r → gP_X12_rests_34 g d r x1 x2 x3 I J := by
  intro k; induction k with
  | zero => intro x1 x2 x3 I J h; cases h
  | succ k ih =>
    intro x1 x2 x3 I J h
    unfold f_X12_rests_34 at h
    unfold gP_X12_rests_34
    refine gz_iload_n (pc := 34) dX12_rests_34 rfl ?_
    refine gz_iconst (pc := 35) dX12_rests_35 (v := 2) (by decide) ?_
    refine gz_ic_ge (pc := 36) (tgt := 117) dX12_rests_36 (by decide) (fun c => ?_) (fun c => ?_)
    · replace h := gz_ifp c h
      refine gz_iload_n (pc := 117) dX12_rests_117 rfl ?_
      cases h; exact gz_iret (pc := 118) dX12_rests_118 rfl ⟨rfl, rfl⟩
    · replace h := gz_ifn c h
      refine gz_iconst (pc := 39) dX12_rests_39 (v := 0) (by decide) ?_
      refine gz_istore (pc := 40) dX12_rests_40 (by decide) rfl (loc2 := [some (.inr (.inr (0, 47))), some (.inl x1), some (.inl x2), some (.inl x3), some (.inl 0)]) rfl ?_
      exact p_X12_rests_42 ih φ x1 x2 x3 0 I J h
def f_X12_rests (φ : Nat) (a1 : Int32) (I : gzIT) (J : gzJT) : Option (Int32 × gzIT × gzJT) := Option.bind (f_X12_noGrudge (gz_ui I 0 47 0 0) a1) (fun v2 => Option.bind (f_X12_throwsIf v2 1 (gz_ui I 0 47 0 0) J) (fun v4 => if v4.1 = 0 then (Option.bind (f_X12_isThawed v4.2.1 a1) (fun v6 => if v6 = 0 then (f_X12_rests_34 φ φ a1 0 0 v4.2.1 v4.2.2) else (some ((-1), v4.2.1, v4.2.2)))) else (some (0, v4.2.1, v4.2.2))))
set_option maxRecDepth 20000 in
theorem c_X12_rests {g : gzG} {d φ : Nat} {a1 : Int32} {I : gzIT} {J : gzJT} {r : Int32 × gzIT × gzJT} (h : f_X12_rests φ a1 I J = some r) : gzC g 0 (d + 4) mX12_rests [.inr (.inr (0, 47)), .inl a1] (gzN, gzR0, I, J) (gzE (.ok (some (.inl r.1))) (gzN, gzR0, r.2.1, r.2.2)) := by
  unfold f_X12_rests at h
  refine gzC_of (by decide +kernel) (Nat.le_of_ble_eq_true rfl) (loc := [some (.inr (.inr (0, 47))), some (.inl a1), none, none, none]) rfl ?_
  have z_0_47 : gzOk 0 47 gzN := gzOk_of (by decide)
  refine gz_aload_n (pc := 0) dX12_rests_0 rfl ?_
  refine gz_iconst (pc := 1) dX12_rests_1 (v := 0) (by decide) ?_
  refine gp_X12_3 (pc := 2) dX12_rests_2 z_0_47 rfl ?_
  refine gz_aload_n (pc := 5) dX12_rests_5 rfl ?_
  refine gz_aload_n (pc := 6) dX12_rests_6 rfl ?_
  refine gz_iload_n (pc := 7) dX12_rests_7 rfl ?_
  refine gz_V (zy := mX12_noGrudge) (zc := 0) (pc := 8) [.inl a1] rfl dX12_rests_8 lkX12_315 MvX12_noGrudge rfl z_0_47 rfl rfl rfl (Or.inl rfl) (fun h => h) (by exact Nat.le_of_ble_eq_true rfl) ?_
  obtain ⟨v2, e1, h⟩ := gz_bd h
  refine gz_useI (c_X12_noGrudge e1) ?_
  refine gz_iconst (pc := 11) dX12_rests_11 (v := 1) (by decide) ?_
  refine gz_V (zy := mX12_throwsIf) (zc := 0) (pc := 12) [.inl v2, .inl 1] rfl dX12_rests_12 lkX12_269 MvX12_throwsIf rfl z_0_47 rfl rfl rfl (Or.inl rfl) (fun h => h) (by exact Nat.le_of_ble_eq_true rfl) ?_
  obtain ⟨v4, e3, h⟩ := gz_bd h
  refine gz_useI (c_X12_throwsIf e3) ?_
  refine gz_if_eq (pc := 15) (tgt := 20) dX12_rests_15 (by decide) (fun c => ?_) (fun c => ?_)
  · replace h := gz_ifp c h
    refine gz_aload_n (pc := 20) dX12_rests_20 rfl ?_
    refine gz_iload_n (pc := 21) dX12_rests_21 rfl ?_
    refine gz_V (zy := mX12_isThawed) (zc := 0) (pc := 22) [.inl a1] rfl dX12_rests_22 lkX12_76 MvX12_isThawed rfl z_0_47 rfl rfl rfl (Or.inl rfl) (fun h => h) (by exact Nat.le_of_ble_eq_true rfl) ?_
    obtain ⟨v6, e5, h⟩ := gz_bd h
    refine gz_useI (c_X12_isThawed e5) ?_
    refine gz_if_eq (pc := 25) (tgt := 30) dX12_rests_25 (by decide) (fun c => ?_) (fun c => ?_)
    · replace h := gz_ifp c h
      refine gz_iconst (pc := 30) dX12_rests_30 (v := 0) (by decide) ?_
      refine gz_istore_n (pc := 31) dX12_rests_31 (by decide) rfl (loc2 := [some (.inr (.inr (0, 47))), some (.inl a1), some (.inl 0), none, none]) rfl ?_
      refine gz_iconst (pc := 32) dX12_rests_32 (v := 0) (by decide) ?_
      refine gz_istore_n (pc := 33) dX12_rests_33 (by decide) rfl (loc2 := [some (.inr (.inr (0, 47))), some (.inl a1), some (.inl 0), some (.inl 0), none]) rfl ?_
      exact p_X12_rests_34 φ a1 0 0 v4.2.1 v4.2.2 h
    · replace h := gz_ifn c h
      refine gz_iconst (pc := 28) dX12_rests_28 (v := (-1)) (by decide) ?_
      cases h; exact gz_iret (pc := 29) dX12_rests_29 rfl ⟨rfl, rfl⟩
  · replace h := gz_ifn c h
    refine gz_iconst (pc := 18) dX12_rests_18 (v := 0) (by decide) ?_
    cases h; exact gz_iret (pc := 19) dX12_rests_19 rfl ⟨rfl, rfl⟩
/-! X12_odds: odds -/
def gP_X12_odds_171 (g : gzG) (d : Nat) (r : Int32 × gzIT × gzJT) (x3 : Int64) (x5 : Int64) (x7 : Int32) (I : gzIT) (J : gzJT) : Prop := gzX g 0 (d + 1) mX12_odds 171 [some (.inr (.inr (0, 47))), none, none, some (.inr (.inl x3)), none, some (.inr (.inl x5)), none, some (.inl x7)] [] (gzN, gzR0, I, J) 0 (gzE (.ok (some (.inl r.1))) (gzN, gzR0, r.2.1, r.2.2))
def gP_X12_odds_88 (g : gzG) (d : Nat) (r : Int32 × gzIT × gzJT) (x1 : Int32) (x2 : Int32) (x3 : Int64) (x5 : Int32) (x6 : Int32) (I : gzIT) (J : gzJT) : Prop := gzX g 0 (d + 1) mX12_odds 88 [some (.inr (.inr (0, 47))), some (.inl x1), some (.inl x2), some (.inr (.inl x3)), none, some (.inl x5), some (.inl x6), none] [] (gzN, gzR0, I, J) 0 (gzE (.ok (some (.inl r.1))) (gzN, gzR0, r.2.1, r.2.2))
def gP_X12_odds_78 (g : gzG) (d : Nat) (r : Int32 × gzIT × gzJT) (x1 : Int32) (x2 : Int32) (x3 : Int64) (x5 : Int32) (I : gzIT) (J : gzJT) : Prop := gzX g 0 (d + 1) mX12_odds 78 [some (.inr (.inr (0, 47))), some (.inl x1), some (.inl x2), some (.inr (.inl x3)), none, some (.inl x5), none, none] [] (gzN, gzR0, I, J) 0 (gzE (.ok (some (.inl r.1))) (gzN, gzR0, r.2.1, r.2.2))
def gP_X12_odds_45 (g : gzG) (d : Nat) (r : Int32 × gzIT × gzJT) (x1 : Int32) (x2 : Int32) (x3 : Int64) (x5 : Int32) (I : gzIT) (J : gzJT) : Prop := gzX g 0 (d + 1) mX12_odds 45 [some (.inr (.inr (0, 47))), some (.inl x1), some (.inl x2), some (.inr (.inl x3)), none, some (.inl x5), none, none] [] (gzN, gzR0, I, J) 0 (gzE (.ok (some (.inl r.1))) (gzN, gzR0, r.2.1, r.2.2))
def f_X12_odds_171 (φ : Nat) : Nat → Int64 → Int64 → Int32 → gzIT → gzJT → Option (Int32 × gzIT × gzJT)
  | 0, _, _, _, _, _ => none
  | k + 1, x3, x5, x7, I, J => if 6 < x7 then (gzGm x3 (some ((((10000 * x5) / x3).toInt32), I, J))) else (gzGd (x7) 7 (f_X12_odds_171 φ k x3 (x5 + (J 0 58 x7.toNatClampNeg)) (x7 + 1) I J))
set_option maxRecDepth 20000 in
theorem p_X12_odds_171 {g : gzG} {d φ : Nat} {r : Int32 × gzIT × gzJT} : ∀ (k : Nat) (x3 : Int64) (x5 : Int64) (x7 : Int32) (I : gzIT) (J : gzJT), f_X12_odds_171 φ k x3 x5 x7 I J = some r → gP_X12_odds_171 g d r x3 x5 x7 I J := by
  intro k; induction k with
  | zero => intro x3 x5 x7 I J h; cases h
  | succ k ih =>
    intro x3 x5 x7 I J h
    unfold f_X12_odds_171 at h
    unfold gP_X12_odds_171
    have z_0_47 : gzOk 0 47 gzN := gzOk_of (by decide)
    have z_0_58 : gzOk 0 58 gzN := gzOk_of (by decide)
    refine gz_iload (pc := 171) dX12_odds_171 rfl ?_
    refine gz_bipush (pc := 173) dX12_odds_173 (v := 6) (by decide) ?_
    refine gz_ic_gt (pc := 175) (tgt := 196) dX12_odds_175 (by decide) (fun c => ?_) (fun c => ?_)
    · replace h := gz_ifp c h
      refine gz_ldc2 (pc := 196) dX12_odds_196 klX12_443.1 klX12_443.2 ?_
      refine gz_lload (pc := 199) dX12_odds_199 rfl ?_
      refine gz_lmul (pc := 201) dX12_odds_201  ?_
      refine gz_lload_n (pc := 202) dX12_odds_202 rfl ?_
      obtain ⟨n12, h⟩ := gz_gm h
      refine gz_ldiv (pc := 203) dX12_odds_203 n12 ?_
      refine gz_l2i (pc := 204) dX12_odds_204  ?_
      cases h; exact gz_iret (pc := 205) dX12_odds_205 rfl ⟨rfl, rfl⟩
    · replace h := gz_ifn c h
      refine gz_lload (pc := 178) dX12_odds_178 rfl ?_
      refine gz_aload_n (pc := 180) dX12_odds_180 rfl ?_
      refine gr_X12_48 (pc := 181) dX12_odds_181 z_0_47 rfl ?_
      refine gz_iload (pc := 184) dX12_odds_184 rfl ?_
      obtain ⟨b13, h⟩ := gz_gd h
      refine gz_lald2 (pc := 186) dX12_odds_186 (k := x7.toNatClampNeg) (v := J 0 58 x7.toNatClampNeg) z_0_58 rfl b13 rfl rfl ?_
      refine gz_ladd (pc := 187) dX12_odds_187  ?_
      refine gz_lstore (pc := 188) dX12_odds_188 (by decide) rfl (loc2 := [some (.inr (.inr (0, 47))), none, none, some (.inr (.inl x3)), none, some (.inr (.inl (x5 + (J 0 58 x7.toNatClampNeg)))), none, some (.inl x7)]) rfl ?_
      refine gz_iinc (pc := 190) dX12_odds_190 (x := x7) (v := x7 + 1) rfl (by rw [show Int32.ofInt 1 = 1 by decide]) (by decide) rfl (loc2 := [some (.inr (.inr (0, 47))), none, none, some (.inr (.inl x3)), none, some (.inr (.inl (x5 + (J 0 58 x7.toNatClampNeg)))), none, some (.inl (x7 + 1))]) rfl ?_
      refine gz_goto (pc := 193) (tgt := 171) dX12_odds_193 (by decide) ?_
      exact ih x3 (x5 + (J 0 58 x7.toNatClampNeg)) (x7 + 1) I J h
def f_X12_odds_88 (φ : Nat) (K78 : Int32 → Int32 → Int64 → Int32 → gzIT → gzJT → Option (Int32 × gzIT × gzJT)) : Nat → Int32 → Int32 → Int64 → Int32 → Int32 → gzIT → gzJT → Option (Int32 × gzIT × gzJT)
  | 0, _, _, _, _, _, _, _ => none
  | k + 1, x1, x2, x3, x5, x6, I, J => if x6 < 0 then (K78 x1 x2 (x3 * 100) (x5 + 1) I J) else (gzGd (x6) 7 (if ¬ x6 = 0 then (gzGd (x6 - 1) 7 (f_X12_odds_88 φ K78 k x1 x2 x3 x5 (x6 + (-1)) I (gz_uj J 0 58 x6.toNatClampNeg (((J 0 58 x6.toNatClampNeg) * ((100 - (I 0 48 7)).toInt64)) + ((J 0 58 ((x6 - 1).toNatClampNeg)) * ((I 0 48 7).toInt64)))))) else (f_X12_odds_88 φ K78 k x1 x2 x3 x5 (x6 + (-1)) I (gz_uj J 0 58 x6.toNatClampNeg (((J 0 58 x6.toNatClampNeg) * ((100 - (I 0 48 7)).toInt64)) + 0)))))
set_option maxRecDepth 20000 in
theorem p_X12_odds_88 {g : gzG} {d φ : Nat} {r : Int32 × gzIT × gzJT} {K78 : Int32 → Int32 → Int64 → Int32 → gzIT → gzJT → Option (Int32 × gzIT × gzJT)} (hK78 : ∀ (x1 : Int32) (x2 : Int32) (x3 : Int64) (x5 : Int32) (I : gzIT) (J : gzJT), K78 x1 x2 x3 x5 I J = some r → gP_X12_odds_78 g d r x1 x2 x3 x5 I J) : ∀ (k : Nat) (x1 : Int32) (x2 : Int32) (x3 : Int64) (x5 : Int32) (x6 : Int32) (I : gzIT) (J : gzJT), f_X12_odds_88 φ K78 k x1 x2 x3 x5 x6 I J = some r → gP_X12_odds_88 g d r x1 x2 x3 x5 x6 I J := by
  intro k; induction k with
  | zero => intro x1 x2 x3 x5 x6 I J h; cases h
  | succ k ih =>
    intro x1 x2 x3 x5 x6 I J h
    unfold f_X12_odds_88 at h
    unfold gP_X12_odds_88
    have z_0_47 : gzOk 0 47 gzN := gzOk_of (by decide)
    have z_0_58 : gzOk 0 58 gzN := gzOk_of (by decide)
    have z_0_48 : gzOk 0 48 gzN := gzOk_of (by decide)
    refine gz_iload (pc := 88) dX12_odds_88 rfl ?_
    refine gz_if_lt (pc := 90) (tgt := 153) dX12_odds_90 (by decide) (fun c => ?_) (fun c => ?_)
    · replace h := gz_ifp c h
      refine gz_lload_n (pc := 153) dX12_odds_153 rfl ?_
      refine gz_ldc2 (pc := 154) dX12_odds_154 klX12_441.1 klX12_441.2 ?_
      refine gz_lmul (pc := 157) dX12_odds_157  ?_
      refine gz_lstore_n (pc := 158) dX12_odds_158 (by decide) rfl (loc2 := [some (.inr (.inr (0, 47))), some (.inl x1), some (.inl x2), some (.inr (.inl (x3 * 100))), none, some (.inl x5), some (.inl x6), none]) rfl ?_
      refine gz_iinc (pc := 159) dX12_odds_159 (x := x5) (v := x5 + 1) rfl (by rw [show Int32.ofInt 1 = 1 by decide]) (by decide) rfl (loc2 := [some (.inr (.inr (0, 47))), some (.inl x1), some (.inl x2), some (.inr (.inl (x3 * 100))), none, some (.inl (x5 + 1)), some (.inl x6), none]) rfl ?_
      refine gz_goto (pc := 162) (tgt := 78) dX12_odds_162 (by decide) ?_
      exact gz_weak (loc2 := [some (.inr (.inr (0, 47))), some (.inl x1), some (.inl x2), some (.inr (.inl (x3 * 100))), none, some (.inl (x5 + 1)), none, none]) (hK78 x1 x2 (x3 * 100) (x5 + 1) I J h) (by repeat (first | exact trivial | refine ⟨rfl, ?_⟩))
    · replace h := gz_ifn c h
      refine gz_aload_n (pc := 93) dX12_odds_93 rfl ?_
      refine gr_X12_48 (pc := 94) dX12_odds_94 z_0_47 rfl ?_
      refine gz_iload (pc := 97) dX12_odds_97 rfl ?_
      refine gz_aload_n (pc := 99) dX12_odds_99 rfl ?_
      refine gr_X12_48 (pc := 100) dX12_odds_100 z_0_47 rfl ?_
      refine gz_iload (pc := 103) dX12_odds_103 rfl ?_
      obtain ⟨b14, h⟩ := gz_gd h
      refine gz_lald2 (pc := 105) dX12_odds_105 (k := x6.toNatClampNeg) (v := J 0 58 x6.toNatClampNeg) z_0_58 rfl b14 rfl rfl ?_
      refine gz_bipush (pc := 106) dX12_odds_106 (v := 100) (by decide) ?_
      refine gz_aload_n (pc := 108) dX12_odds_108 rfl ?_
      refine gr_X12_13 (pc := 109) dX12_odds_109 z_0_47 rfl ?_
      refine gz_bipush (pc := 112) dX12_odds_112 (v := 7) (by decide) ?_
      refine gz_iald2 (pc := 114) dX12_odds_114 (k := 7) (v := I 0 48 7) z_0_48 rfl (gz_vpd (by decide)) (by decide) rfl ?_
      refine gz_isub (pc := 115) dX12_odds_115  ?_
      refine gz_i2l (pc := 116) dX12_odds_116  ?_
      refine gz_lmul (pc := 117) dX12_odds_117  ?_
      refine gz_iload (pc := 118) dX12_odds_118 rfl ?_
      refine gz_if_ne (pc := 120) (tgt := 127) dX12_odds_120 (by decide) (fun c => ?_) (fun c => ?_)
      · replace h := gz_ifp c h
        refine gz_aload_n (pc := 127) dX12_odds_127 rfl ?_
        refine gr_X12_48 (pc := 128) dX12_odds_128 z_0_47 rfl ?_
        refine gz_iload (pc := 131) dX12_odds_131 rfl ?_
        refine gz_iconst (pc := 133) dX12_odds_133 (v := 1) (by decide) ?_
        refine gz_isub (pc := 134) dX12_odds_134  ?_
        obtain ⟨b15, h⟩ := gz_gd h
        refine gz_lald2 (pc := 135) dX12_odds_135 (k := (x6 - 1).toNatClampNeg) (v := J 0 58 ((x6 - 1).toNatClampNeg)) z_0_58 rfl b15 rfl rfl ?_
        refine gz_aload_n (pc := 136) dX12_odds_136 rfl ?_
        refine gr_X12_13 (pc := 137) dX12_odds_137 z_0_47 rfl ?_
        refine gz_bipush (pc := 140) dX12_odds_140 (v := 7) (by decide) ?_
        refine gz_iald2 (pc := 142) dX12_odds_142 (k := 7) (v := I 0 48 7) z_0_48 rfl (gz_vpd (by decide)) (by decide) rfl ?_
        refine gz_i2l (pc := 143) dX12_odds_143  ?_
        refine gz_lmul (pc := 144) dX12_odds_144  ?_
        refine gz_ladd (pc := 145) dX12_odds_145  ?_
        refine gz_last2 (pc := 146) dX12_odds_146 (k := x6.toNatClampNeg) z_0_58 rfl b14 rfl ?_
        refine gz_iinc (pc := 147) dX12_odds_147 (x := x6) (v := x6 + (-1)) rfl (by rw [show Int32.ofInt (-1) = (-1) by decide]) (by decide) rfl (loc2 := [some (.inr (.inr (0, 47))), some (.inl x1), some (.inl x2), some (.inr (.inl x3)), none, some (.inl x5), some (.inl (x6 + (-1))), none]) rfl ?_
        refine gz_goto (pc := 150) (tgt := 88) dX12_odds_150 (by decide) ?_
        exact ih x1 x2 x3 x5 (x6 + (-1)) I (gz_uj J 0 58 x6.toNatClampNeg (((J 0 58 x6.toNatClampNeg) * ((100 - (I 0 48 7)).toInt64)) + ((J 0 58 ((x6 - 1).toNatClampNeg)) * ((I 0 48 7).toInt64)))) h
      · replace h := gz_ifn (fun q => q c) h
        refine gz_lconst (pc := 123) dX12_odds_123 (v := 0) (by decide) ?_
        refine gz_goto (pc := 124) (tgt := 145) dX12_odds_124 (by decide) ?_
        refine gz_ladd (pc := 145) dX12_odds_145  ?_
        refine gz_last2 (pc := 146) dX12_odds_146 (k := x6.toNatClampNeg) z_0_58 rfl b14 rfl ?_
        refine gz_iinc (pc := 147) dX12_odds_147 (x := x6) (v := x6 + (-1)) rfl (by rw [show Int32.ofInt (-1) = (-1) by decide]) (by decide) rfl (loc2 := [some (.inr (.inr (0, 47))), some (.inl x1), some (.inl x2), some (.inr (.inl x3)), none, some (.inl x5), some (.inl (x6 + (-1))), none]) rfl ?_
        refine gz_goto (pc := 150) (tgt := 88) dX12_odds_150 (by decide) ?_
        exact ih x1 x2 x3 x5 (x6 + (-1)) I (gz_uj J 0 58 x6.toNatClampNeg (((J 0 58 x6.toNatClampNeg) * ((100 - (I 0 48 7)).toInt64)) + 0)) h
def f_X12_odds_78 (φ : Nat) : Nat → Int32 → Int32 → Int64 → Int32 → gzIT → gzJT → Option (Int32 × gzIT × gzJT)
  | 0, _, _, _, _, _, _ => none
  | k + 1, x1, x2, x3, x5, I, J => if x1 ≤ x5 then (f_X12_odds_171 φ φ x3 0 x2 I J) else (f_X12_odds_88 φ (f_X12_odds_78 φ k) φ x1 x2 x3 x5 6 I J)
set_option maxRecDepth 20000 in
theorem p_X12_odds_78 {g : gzG} {d φ : Nat} {r : Int32 × gzIT × gzJT} : ∀ (k : Nat) (x1 : Int32) (x2 : Int32) (x3 : Int64) (x5 : Int32) (I : gzIT) (J : gzJT), f_X12_odds_78 φ k x1 x2 x3 x5 I J = some r → gP_X12_odds_78 g d r x1 x2 x3 x5 I J := by
  intro k; induction k with
  | zero => intro x1 x2 x3 x5 I J h; cases h
  | succ k ih =>
    intro x1 x2 x3 x5 I J h
    unfold f_X12_odds_78 at h
    unfold gP_X12_odds_78
    refine gz_iload (pc := 78) dX12_odds_78 rfl ?_
    refine gz_iload_n (pc := 80) dX12_odds_80 rfl ?_
    refine gz_ic_ge (pc := 81) (tgt := 165) dX12_odds_81 (by decide) (fun c => ?_) (fun c => ?_)
    · replace h := gz_ifp c h
      refine gz_lconst (pc := 165) dX12_odds_165 (v := 0) (by decide) ?_
      refine gz_lstore (pc := 166) dX12_odds_166 (by decide) rfl (loc2 := [some (.inr (.inr (0, 47))), some (.inl x1), some (.inl x2), some (.inr (.inl x3)), none, some (.inr (.inl 0)), none, none]) rfl ?_
      refine gz_iload_n (pc := 168) dX12_odds_168 rfl ?_
      refine gz_istore (pc := 169) dX12_odds_169 (by decide) rfl (loc2 := [some (.inr (.inr (0, 47))), some (.inl x1), some (.inl x2), some (.inr (.inl x3)), none, some (.inr (.inl 0)), none, some (.inl x2)]) rfl ?_
      exact gz_weak (loc2 := [some (.inr (.inr (0, 47))), none, none, some (.inr (.inl x3)), none, some (.inr (.inl 0)), none, some (.inl x2)]) (p_X12_odds_171 φ x3 0 x2 I J h) (by repeat (first | exact trivial | refine ⟨rfl, ?_⟩))
    · replace h := gz_ifn c h
      refine gz_bipush (pc := 84) dX12_odds_84 (v := 6) (by decide) ?_
      refine gz_istore (pc := 86) dX12_odds_86 (by decide) rfl (loc2 := [some (.inr (.inr (0, 47))), some (.inl x1), some (.inl x2), some (.inr (.inl x3)), none, some (.inl x5), some (.inl 6), none]) rfl ?_
      exact p_X12_odds_88 ih φ x1 x2 x3 x5 6 I J h
def f_X12_odds_45 (φ : Nat) : Nat → Int32 → Int32 → Int64 → Int32 → gzIT → gzJT → Option (Int32 × gzIT × gzJT)
  | 0, _, _, _, _, _, _ => none
  | k + 1, x1, x2, x3, x5, I, J => if 6 < x5 then (f_X12_odds_78 φ φ x1 x2 x3 0 I J) else (if ¬ x5 = 0 then (gzGd (x5) 7 (f_X12_odds_45 φ k x1 x2 x3 (x5 + 1) I (gz_uj J 0 58 x5.toNatClampNeg 0))) else (gzGd (x5) 7 (f_X12_odds_45 φ k x1 x2 x3 (x5 + 1) I (gz_uj J 0 58 x5.toNatClampNeg 1))))
set_option maxRecDepth 20000 in
theorem p_X12_odds_45 {g : gzG} {d φ : Nat} {r : Int32 × gzIT × gzJT} : ∀ (k : Nat) (x1 : Int32) (x2 : Int32) (x3 : Int64) (x5 : Int32) (I : gzIT) (J : gzJT), f_X12_odds_45 φ k x1 x2 x3 x5 I J = some r → gP_X12_odds_45 g d r x1 x2 x3 x5 I J := by
  intro k; induction k with
  | zero => intro x1 x2 x3 x5 I J h; cases h
  | succ k ih =>
    intro x1 x2 x3 x5 I J h
    unfold f_X12_odds_45 at h
    unfold gP_X12_odds_45
    have z_0_47 : gzOk 0 47 gzN := gzOk_of (by decide)
    have z_0_58 : gzOk 0 58 gzN := gzOk_of (by decide)
    refine gz_iload (pc := 45) dX12_odds_45 rfl ?_
    refine gz_bipush (pc := 47) dX12_odds_47 (v := 6) (by decide) ?_
    refine gz_ic_gt (pc := 49) (tgt := 75) dX12_odds_49 (by decide) (fun c => ?_) (fun c => ?_)
    · replace h := gz_ifp c h
      refine gz_iconst (pc := 75) dX12_odds_75 (v := 0) (by decide) ?_
      refine gz_istore (pc := 76) dX12_odds_76 (by decide) rfl (loc2 := [some (.inr (.inr (0, 47))), some (.inl x1), some (.inl x2), some (.inr (.inl x3)), none, some (.inl 0), none, none]) rfl ?_
      exact p_X12_odds_78 φ x1 x2 x3 0 I J h
    · replace h := gz_ifn c h
      refine gz_aload_n (pc := 52) dX12_odds_52 rfl ?_
      refine gr_X12_48 (pc := 53) dX12_odds_53 z_0_47 rfl ?_
      refine gz_iload (pc := 56) dX12_odds_56 rfl ?_
      refine gz_iload (pc := 58) dX12_odds_58 rfl ?_
      refine gz_if_ne (pc := 60) (tgt := 67) dX12_odds_60 (by decide) (fun c => ?_) (fun c => ?_)
      · replace h := gz_ifp c h
        refine gz_lconst (pc := 67) dX12_odds_67 (v := 0) (by decide) ?_
        obtain ⟨b10, h⟩ := gz_gd h
        refine gz_last2 (pc := 68) dX12_odds_68 (k := x5.toNatClampNeg) z_0_58 rfl b10 rfl ?_
        refine gz_iinc (pc := 69) dX12_odds_69 (x := x5) (v := x5 + 1) rfl (by rw [show Int32.ofInt 1 = 1 by decide]) (by decide) rfl (loc2 := [some (.inr (.inr (0, 47))), some (.inl x1), some (.inl x2), some (.inr (.inl x3)), none, some (.inl (x5 + 1)), none, none]) rfl ?_
        refine gz_goto (pc := 72) (tgt := 45) dX12_odds_72 (by decide) ?_
        exact ih x1 x2 x3 (x5 + 1) I (gz_uj J 0 58 x5.toNatClampNeg 0) h
      · replace h := gz_ifn (fun q => q c) h
        refine gz_lconst (pc := 63) dX12_odds_63 (v := 1) (by decide) ?_
        refine gz_goto (pc := 64) (tgt := 68) dX12_odds_64 (by decide) ?_
        obtain ⟨b11, h⟩ := gz_gd h
        refine gz_last2 (pc := 68) dX12_odds_68 (k := x5.toNatClampNeg) z_0_58 rfl b11 rfl ?_
        refine gz_iinc (pc := 69) dX12_odds_69 (x := x5) (v := x5 + 1) rfl (by rw [show Int32.ofInt 1 = 1 by decide]) (by decide) rfl (loc2 := [some (.inr (.inr (0, 47))), some (.inl x1), some (.inl x2), some (.inr (.inl x3)), none, some (.inl (x5 + 1)), none, none]) rfl ?_
        refine gz_goto (pc := 72) (tgt := 45) dX12_odds_72 (by decide) ?_
        exact ih x1 x2 x3 (x5 + 1) I (gz_uj J 0 58 x5.toNatClampNeg 1) h
def f_X12_odds (φ : Nat) (a1 : Int32) (a2 : Int32) (I : gzIT) (J : gzJT) : Option (Int32 × gzIT × gzJT) := Option.bind (f_X12_in a1 0 6) (fun v2 => if v2 = 0 then (Option.bind (f_X12_throwsIf 1 1 (gz_ui I 0 47 0 0) J) (fun v4 => if v4.1 = 0 then (f_X12_odds_45 φ φ a1 a2 1 0 v4.2.1 v4.2.2) else (some (0, v4.2.1, v4.2.2)))) else (Option.bind (f_X12_in a2 0 6) (fun v6 => Option.bind (f_X12_throwsIf (if ¬ v6 = 0 then (0 : Int32) else 1) 1 (gz_ui I 0 47 0 0) J) (fun v9 => if v9.1 = 0 then (f_X12_odds_45 φ φ a1 a2 1 0 v9.2.1 v9.2.2) else (some (0, v9.2.1, v9.2.2))))))
set_option maxRecDepth 20000 in
theorem c_X12_odds {g : gzG} {d φ : Nat} {a1 : Int32} {a2 : Int32} {I : gzIT} {J : gzJT} {r : Int32 × gzIT × gzJT} (h : f_X12_odds φ a1 a2 I J = some r) : gzC g 0 (d + 1) mX12_odds [.inr (.inr (0, 47)), .inl a1, .inl a2] (gzN, gzR0, I, J) (gzE (.ok (some (.inl r.1))) (gzN, gzR0, r.2.1, r.2.2)) := by
  unfold f_X12_odds at h
  refine gzC_of (by decide +kernel) (Nat.le_of_ble_eq_true rfl) (loc := [some (.inr (.inr (0, 47))), some (.inl a1), some (.inl a2), none, none, none, none, none]) rfl ?_
  have z_0_47 : gzOk 0 47 gzN := gzOk_of (by decide)
  refine gz_aload_n (pc := 0) dX12_odds_0 rfl ?_
  refine gz_iconst (pc := 1) dX12_odds_1 (v := 0) (by decide) ?_
  refine gp_X12_3 (pc := 2) dX12_odds_2 z_0_47 rfl ?_
  refine gz_aload_n (pc := 5) dX12_odds_5 rfl ?_
  refine gz_iload_n (pc := 6) dX12_odds_6 rfl ?_
  refine gz_iconst (pc := 7) dX12_odds_7 (v := 0) (by decide) ?_
  refine gz_bipush (pc := 8) dX12_odds_8 (v := 6) (by decide) ?_
  refine gz_S (zy := mX12_in) (zc := 0) (pc := 10) [.inl a1, .inl 0, .inl 6] rfl dX12_odds_10 lkX12_84 MsX12_in rfl (Or.inl rfl) (fun h => h) (by exact Nat.le_of_ble_eq_true rfl) ?_
  obtain ⟨v2, e1, h⟩ := gz_bd h
  refine gz_useI (c_X12_in e1) ?_
  refine gz_if_eq (pc := 13) (tgt := 26) dX12_odds_13 (by decide) (fun c => ?_) (fun c => ?_)
  · replace h := gz_ifp c h
    refine gz_iconst (pc := 26) dX12_odds_26 (v := 1) (by decide) ?_
    refine gz_goto (pc := 27) (tgt := 31) dX12_odds_27 (by decide) ?_
    refine gz_iconst (pc := 31) dX12_odds_31 (v := 1) (by decide) ?_
    refine gz_V (zy := mX12_throwsIf) (zc := 0) (pc := 32) [.inl 1, .inl 1] rfl dX12_odds_32 lkX12_269 MvX12_throwsIf rfl z_0_47 rfl rfl rfl (Or.inl rfl) (fun h => h) (by exact Nat.le_of_ble_eq_true rfl) ?_
    obtain ⟨v4, e3, h⟩ := gz_bd h
    refine gz_useI (c_X12_throwsIf e3) ?_
    refine gz_if_eq (pc := 35) (tgt := 40) dX12_odds_35 (by decide) (fun c => ?_) (fun c => ?_)
    · replace h := gz_ifp c h
      refine gz_lconst (pc := 40) dX12_odds_40 (v := 1) (by decide) ?_
      refine gz_lstore_n (pc := 41) dX12_odds_41 (by decide) rfl (loc2 := [some (.inr (.inr (0, 47))), some (.inl a1), some (.inl a2), some (.inr (.inl 1)), none, none, none, none]) rfl ?_
      refine gz_iconst (pc := 42) dX12_odds_42 (v := 0) (by decide) ?_
      refine gz_istore (pc := 43) dX12_odds_43 (by decide) rfl (loc2 := [some (.inr (.inr (0, 47))), some (.inl a1), some (.inl a2), some (.inr (.inl 1)), none, some (.inl 0), none, none]) rfl ?_
      exact p_X12_odds_45 φ a1 a2 1 0 v4.2.1 v4.2.2 h
    · replace h := gz_ifn c h
      refine gz_iconst (pc := 38) dX12_odds_38 (v := 0) (by decide) ?_
      cases h; exact gz_iret (pc := 39) dX12_odds_39 rfl ⟨rfl, rfl⟩
  · replace h := gz_ifn c h
    refine gz_iload_n (pc := 16) dX12_odds_16 rfl ?_
    refine gz_iconst (pc := 17) dX12_odds_17 (v := 0) (by decide) ?_
    refine gz_bipush (pc := 18) dX12_odds_18 (v := 6) (by decide) ?_
    refine gz_S (zy := mX12_in) (zc := 0) (pc := 20) [.inl a2, .inl 0, .inl 6] rfl dX12_odds_20 lkX12_84 MsX12_in rfl (Or.inl rfl) (fun h => h) (by exact Nat.le_of_ble_eq_true rfl) ?_
    obtain ⟨v6, e5, h⟩ := gz_bd h
    refine gz_useI (c_X12_in e5) ?_
    have kj7 : gzX g 0 (d + 1) mX12_odds 31 [some (.inr (.inr (0, 47))), some (.inl a1), some (.inl a2), none, none, none, none, none] ([.inl (if ¬ v6 = 0 then (0 : Int32) else 1), .inr (.inr (0, 47))]) (gzN, gzR0, gz_ui I 0 47 0 0, J) 0 (gzE (.ok (some (.inl r.1))) (gzN, gzR0, r.2.1, r.2.2)) := by
      refine gz_iconst (pc := 31) dX12_odds_31 (v := 1) (by decide) ?_
      refine gz_V (zy := mX12_throwsIf) (zc := 0) (pc := 32) [.inl (if ¬ v6 = 0 then (0 : Int32) else 1), .inl 1] rfl dX12_odds_32 lkX12_269 MvX12_throwsIf rfl z_0_47 rfl rfl rfl (Or.inl rfl) (fun h => h) (by exact Nat.le_of_ble_eq_true rfl) ?_
      obtain ⟨v9, e8, h⟩ := gz_bd h
      refine gz_useI (c_X12_throwsIf e8) ?_
      refine gz_if_eq (pc := 35) (tgt := 40) dX12_odds_35 (by decide) (fun c => ?_) (fun c => ?_)
      · replace h := gz_ifp c h
        refine gz_lconst (pc := 40) dX12_odds_40 (v := 1) (by decide) ?_
        refine gz_lstore_n (pc := 41) dX12_odds_41 (by decide) rfl (loc2 := [some (.inr (.inr (0, 47))), some (.inl a1), some (.inl a2), some (.inr (.inl 1)), none, none, none, none]) rfl ?_
        refine gz_iconst (pc := 42) dX12_odds_42 (v := 0) (by decide) ?_
        refine gz_istore (pc := 43) dX12_odds_43 (by decide) rfl (loc2 := [some (.inr (.inr (0, 47))), some (.inl a1), some (.inl a2), some (.inr (.inl 1)), none, some (.inl 0), none, none]) rfl ?_
        exact p_X12_odds_45 φ a1 a2 1 0 v9.2.1 v9.2.2 h
      · replace h := gz_ifn c h
        refine gz_iconst (pc := 38) dX12_odds_38 (v := 0) (by decide) ?_
        cases h; exact gz_iret (pc := 39) dX12_odds_39 rfl ⟨rfl, rfl⟩
    refine gz_if_ne (pc := 23) (tgt := 30) dX12_odds_23 (by decide) (fun c => ?_) (fun c => ?_)
    · rw [if_pos c] at kj7
      refine gz_iconst (pc := 30) dX12_odds_30 (v := 0) (by decide) ?_
      exact kj7
    · rw [if_neg (show ¬ (¬ v6 = 0) from fun q => q c)] at kj7
      refine gz_iconst (pc := 26) dX12_odds_26 (v := 1) (by decide) ?_
      refine gz_goto (pc := 27) (tgt := 31) dX12_odds_27 (by decide) ?_
      exact kj7
/-! X12_oldest: oldest -/
def gP_X12_oldest_11 (g : gzG) (d : Nat) (r : Int32 × gzIT × gzJT) (x1 : Int32) (x2 : Int32) (x3 : Int32) (I : gzIT) (J : gzJT) : Prop := gzX g 0 (d + 3) mX12_oldest 11 [some (.inr (.inr (0, 47))), some (.inl x1), some (.inl x2), some (.inl x3), none] [] (gzN, gzR0, I, J) 0 (gzE (.ok (some (.inl r.1))) (gzN, gzR0, r.2.1, r.2.2))
def f_X12_oldest_11 (φ : Nat) : Nat → Int32 → Int32 → Int32 → gzIT → gzJT → Option (Int32 × gzIT × gzJT)
  | 0, _, _, _, _, _ => none
  | k + 1, x1, x2, x3, I, J => Option.bind (f_X12_grudges I) (fun v2 => if v2 ≤ x3 then (some (x1, I, J)) else (Option.bind (f_X12_isThawed I x3) (fun v4 => if v4 = 0 then (Option.bind (f_X12_of I x3 3) (fun v6 => f_X12_oldest_11 φ k (if v6 ≤ x2 then (x1 : Int32) else x3) (if x2 < v6 then v6 else x2) (x3 + 1) I J)) else (f_X12_oldest_11 φ k (if (-1) ≤ x2 then (x1 : Int32) else x3) (if x2 < (-1) then (-1) else x2) (x3 + 1) I J))))
set_option maxRecDepth 20000 in
theorem p_X12_oldest_11 {g : gzG} {d φ : Nat} {r : Int32 × gzIT × gzJT} : ∀ (k : Nat) (x1 : Int32) (x2 : Int32) (x3 : Int32) (I : gzIT) (J : gzJT), f_X12_oldest_11 φ k x1 x2 x3 I J = some r → gP_X12_oldest_11 g d r x1 x2 x3 I J := by
  intro k; induction k with
  | zero => intro x1 x2 x3 I J h; cases h
  | succ k ih =>
    intro x1 x2 x3 I J h
    unfold f_X12_oldest_11 at h
    unfold gP_X12_oldest_11
    have z_0_47 : gzOk 0 47 gzN := gzOk_of (by decide)
    refine gz_iload_n (pc := 11) dX12_oldest_11 rfl ?_
    refine gz_aload_n (pc := 12) dX12_oldest_12 rfl ?_
    refine gz_V (zy := mX12_grudges) (zc := 0) (pc := 13) [] rfl dX12_oldest_13 lkX12_73 MvX12_grudges rfl z_0_47 rfl rfl rfl (Or.inl rfl) (fun h => h) (by exact Nat.le_of_ble_eq_true rfl) ?_
    obtain ⟨v2, e1, h⟩ := gz_bd h
    refine gz_useI (c_X12_grudges e1) ?_
    refine gz_ic_ge (pc := 16) (tgt := 64) dX12_oldest_16 (by decide) (fun c => ?_) (fun c => ?_)
    · replace h := gz_ifp c h
      refine gz_iload_n (pc := 64) dX12_oldest_64 rfl ?_
      cases h; exact gz_iret (pc := 65) dX12_oldest_65 rfl ⟨rfl, rfl⟩
    · replace h := gz_ifn c h
      refine gz_aload_n (pc := 19) dX12_oldest_19 rfl ?_
      refine gz_iload_n (pc := 20) dX12_oldest_20 rfl ?_
      refine gz_V (zy := mX12_isThawed) (zc := 0) (pc := 21) [.inl x3] rfl dX12_oldest_21 lkX12_76 MvX12_isThawed rfl z_0_47 rfl rfl rfl (Or.inl rfl) (fun h => h) (by exact Nat.le_of_ble_eq_true rfl) ?_
      obtain ⟨v4, e3, h⟩ := gz_bd h
      refine gz_useI (c_X12_isThawed e3) ?_
      refine gz_if_eq (pc := 24) (tgt := 31) dX12_oldest_24 (by decide) (fun c => ?_) (fun c => ?_)
      · replace h := gz_ifp c h
        refine gz_aload_n (pc := 31) dX12_oldest_31 rfl ?_
        refine gz_iload_n (pc := 32) dX12_oldest_32 rfl ?_
        refine gz_iconst (pc := 33) dX12_oldest_33 (v := 3) (by decide) ?_
        refine gz_V (zy := mX12_of) (zc := 0) (pc := 34) [.inl x3, .inl 3] rfl dX12_oldest_34 lkX12_70 MvX12_of rfl z_0_47 rfl rfl rfl (Or.inl rfl) (fun h => h) (by exact Nat.le_of_ble_eq_true rfl) ?_
        obtain ⟨v6, e5, h⟩ := gz_bd h
        refine gz_useI (c_X12_of e5) ?_
        refine gz_istore (pc := 37) dX12_oldest_37 (by decide) rfl (loc2 := [some (.inr (.inr (0, 47))), some (.inl x1), some (.inl x2), some (.inl x3), some (.inl v6)]) rfl ?_
        refine gz_iload (pc := 39) dX12_oldest_39 rfl ?_
        refine gz_iload_n (pc := 41) dX12_oldest_41 rfl ?_
        have kj7 : gzX g 0 (d + 3) mX12_oldest 50 [some (.inr (.inr (0, 47))), some (.inl x1), some (.inl x2), some (.inl x3), some (.inl v6)] ([.inl (if v6 ≤ x2 then (x1 : Int32) else x3)]) (gzN, gzR0, I, J) 0 (gzE (.ok (some (.inl r.1))) (gzN, gzR0, r.2.1, r.2.2)) := by
          refine gz_istore_n (pc := 50) dX12_oldest_50 (by decide) rfl (loc2 := [some (.inr (.inr (0, 47))), some (.inl (if v6 ≤ x2 then (x1 : Int32) else x3)), some (.inl x2), some (.inl x3), some (.inl v6)]) rfl ?_
          refine gz_iload_n (pc := 51) dX12_oldest_51 rfl ?_
          refine gz_iload (pc := 52) dX12_oldest_52 rfl ?_
          refine gx_X12_310 (pc := 54) dX12_oldest_54 (Nat.le_of_ble_eq_true rfl) rfl ?_
          refine gz_istore_n (pc := 57) dX12_oldest_57 (by decide) rfl (loc2 := [some (.inr (.inr (0, 47))), some (.inl (if v6 ≤ x2 then (x1 : Int32) else x3)), some (.inl (if x2 < v6 then v6 else x2)), some (.inl x3), some (.inl v6)]) rfl ?_
          refine gz_iinc (pc := 58) dX12_oldest_58 (x := x3) (v := x3 + 1) rfl (by rw [show Int32.ofInt 1 = 1 by decide]) (by decide) rfl (loc2 := [some (.inr (.inr (0, 47))), some (.inl (if v6 ≤ x2 then (x1 : Int32) else x3)), some (.inl (if x2 < v6 then v6 else x2)), some (.inl (x3 + 1)), some (.inl v6)]) rfl ?_
          refine gz_goto (pc := 61) (tgt := 11) dX12_oldest_61 (by decide) ?_
          exact gz_weak (loc2 := [some (.inr (.inr (0, 47))), some (.inl (if v6 ≤ x2 then (x1 : Int32) else x3)), some (.inl (if x2 < v6 then v6 else x2)), some (.inl (x3 + 1)), none]) (ih (if v6 ≤ x2 then (x1 : Int32) else x3) (if x2 < v6 then v6 else x2) (x3 + 1) I J h) (by repeat (first | exact trivial | refine ⟨rfl, ?_⟩))
        refine gz_ic_le (pc := 42) (tgt := 49) dX12_oldest_42 (by decide) (fun c => ?_) (fun c => ?_)
        · rw [if_pos c] at kj7
          refine gz_iload_n (pc := 49) dX12_oldest_49 rfl ?_
          exact kj7
        · rw [if_neg c] at kj7
          refine gz_iload_n (pc := 45) dX12_oldest_45 rfl ?_
          refine gz_goto (pc := 46) (tgt := 50) dX12_oldest_46 (by decide) ?_
          exact kj7
      · replace h := gz_ifn c h
        refine gz_iconst (pc := 27) dX12_oldest_27 (v := (-1)) (by decide) ?_
        refine gz_goto (pc := 28) (tgt := 37) dX12_oldest_28 (by decide) ?_
        refine gz_istore (pc := 37) dX12_oldest_37 (by decide) rfl (loc2 := [some (.inr (.inr (0, 47))), some (.inl x1), some (.inl x2), some (.inl x3), some (.inl (-1))]) rfl ?_
        refine gz_iload (pc := 39) dX12_oldest_39 rfl ?_
        refine gz_iload_n (pc := 41) dX12_oldest_41 rfl ?_
        have kj8 : gzX g 0 (d + 3) mX12_oldest 50 [some (.inr (.inr (0, 47))), some (.inl x1), some (.inl x2), some (.inl x3), some (.inl (-1))] ([.inl (if (-1) ≤ x2 then (x1 : Int32) else x3)]) (gzN, gzR0, I, J) 0 (gzE (.ok (some (.inl r.1))) (gzN, gzR0, r.2.1, r.2.2)) := by
          refine gz_istore_n (pc := 50) dX12_oldest_50 (by decide) rfl (loc2 := [some (.inr (.inr (0, 47))), some (.inl (if (-1) ≤ x2 then (x1 : Int32) else x3)), some (.inl x2), some (.inl x3), some (.inl (-1))]) rfl ?_
          refine gz_iload_n (pc := 51) dX12_oldest_51 rfl ?_
          refine gz_iload (pc := 52) dX12_oldest_52 rfl ?_
          refine gx_X12_310 (pc := 54) dX12_oldest_54 (Nat.le_of_ble_eq_true rfl) rfl ?_
          refine gz_istore_n (pc := 57) dX12_oldest_57 (by decide) rfl (loc2 := [some (.inr (.inr (0, 47))), some (.inl (if (-1) ≤ x2 then (x1 : Int32) else x3)), some (.inl (if x2 < (-1) then (-1) else x2)), some (.inl x3), some (.inl (-1))]) rfl ?_
          refine gz_iinc (pc := 58) dX12_oldest_58 (x := x3) (v := x3 + 1) rfl (by rw [show Int32.ofInt 1 = 1 by decide]) (by decide) rfl (loc2 := [some (.inr (.inr (0, 47))), some (.inl (if (-1) ≤ x2 then (x1 : Int32) else x3)), some (.inl (if x2 < (-1) then (-1) else x2)), some (.inl (x3 + 1)), some (.inl (-1))]) rfl ?_
          refine gz_goto (pc := 61) (tgt := 11) dX12_oldest_61 (by decide) ?_
          exact gz_weak (loc2 := [some (.inr (.inr (0, 47))), some (.inl (if (-1) ≤ x2 then (x1 : Int32) else x3)), some (.inl (if x2 < (-1) then (-1) else x2)), some (.inl (x3 + 1)), none]) (ih (if (-1) ≤ x2 then (x1 : Int32) else x3) (if x2 < (-1) then (-1) else x2) (x3 + 1) I J h) (by repeat (first | exact trivial | refine ⟨rfl, ?_⟩))
        refine gz_ic_le (pc := 42) (tgt := 49) dX12_oldest_42 (by decide) (fun c => ?_) (fun c => ?_)
        · rw [if_pos c] at kj8
          refine gz_iload_n (pc := 49) dX12_oldest_49 rfl ?_
          exact kj8
        · rw [if_neg c] at kj8
          refine gz_iload_n (pc := 45) dX12_oldest_45 rfl ?_
          refine gz_goto (pc := 46) (tgt := 50) dX12_oldest_46 (by decide) ?_
          exact kj8
def f_X12_oldest (φ : Nat) (I : gzIT) (J : gzJT) : Option (Int32 × gzIT × gzJT) := f_X12_oldest_11 φ φ (-1) (-1) 0 (gz_ui I 0 47 0 0) J
set_option maxRecDepth 20000 in
theorem c_X12_oldest {g : gzG} {d φ : Nat} {I : gzIT} {J : gzJT} {r : Int32 × gzIT × gzJT} (h : f_X12_oldest φ I J = some r) : gzC g 0 (d + 3) mX12_oldest [.inr (.inr (0, 47))] (gzN, gzR0, I, J) (gzE (.ok (some (.inl r.1))) (gzN, gzR0, r.2.1, r.2.2)) := by
  unfold f_X12_oldest at h
  refine gzC_of (by decide +kernel) (Nat.le_of_ble_eq_true rfl) (loc := [some (.inr (.inr (0, 47))), none, none, none, none]) rfl ?_
  have z_0_47 : gzOk 0 47 gzN := gzOk_of (by decide)
  refine gz_aload_n (pc := 0) dX12_oldest_0 rfl ?_
  refine gz_iconst (pc := 1) dX12_oldest_1 (v := 0) (by decide) ?_
  refine gp_X12_3 (pc := 2) dX12_oldest_2 z_0_47 rfl ?_
  refine gz_iconst (pc := 5) dX12_oldest_5 (v := (-1)) (by decide) ?_
  refine gz_istore_n (pc := 6) dX12_oldest_6 (by decide) rfl (loc2 := [some (.inr (.inr (0, 47))), some (.inl (-1)), none, none, none]) rfl ?_
  refine gz_iconst (pc := 7) dX12_oldest_7 (v := (-1)) (by decide) ?_
  refine gz_istore_n (pc := 8) dX12_oldest_8 (by decide) rfl (loc2 := [some (.inr (.inr (0, 47))), some (.inl (-1)), some (.inl (-1)), none, none]) rfl ?_
  refine gz_iconst (pc := 9) dX12_oldest_9 (v := 0) (by decide) ?_
  refine gz_istore_n (pc := 10) dX12_oldest_10 (by decide) rfl (loc2 := [some (.inr (.inr (0, 47))), some (.inl (-1)), some (.inl (-1)), some (.inl 0), none]) rfl ?_
  exact p_X12_oldest_11 φ (-1) (-1) 0 (gz_ui I 0 47 0 0) J h
/-! X12_blue: blue -/
def gP_X12_blue_9 (g : gzG) (d : Nat) (r : Int32 × gzIT × gzJT) (x1 : Int32) (x2 : Int32) (I : gzIT) (J : gzJT) : Prop := gzX g 0 (d + 3) mX12_blue 9 [some (.inr (.inr (0, 47))), some (.inl x1), some (.inl x2)] [] (gzN, gzR0, I, J) 0 (gzE (.ok (some (.inl r.1))) (gzN, gzR0, r.2.1, r.2.2))
def f_X12_blue_9 (φ : Nat) : Nat → Int32 → Int32 → gzIT → gzJT → Option (Int32 × gzIT × gzJT)
  | 0, _, _, _, _ => none
  | k + 1, x1, x2, I, J => Option.bind (f_X12_grudges I) (fun v2 => if v2 ≤ x2 then (some (x1, I, J)) else (Option.bind (f_X12_isThawed I x2) (fun v4 => if ¬ v4 = 0 then (f_X12_blue_9 φ k (x1 ||| 0) (x2 + 1) I J) else (Option.bind (f_X12_of I x2 4) (fun v6 => if v6 < 100 then (f_X12_blue_9 φ k (x1 ||| 0) (x2 + 1) I J) else (f_X12_blue_9 φ k (x1 ||| ((1 : Int32) <<< (x2 &&& 31))) (x2 + 1) I J))))))
set_option maxRecDepth 20000 in
theorem p_X12_blue_9 {g : gzG} {d φ : Nat} {r : Int32 × gzIT × gzJT} : ∀ (k : Nat) (x1 : Int32) (x2 : Int32) (I : gzIT) (J : gzJT), f_X12_blue_9 φ k x1 x2 I J = some r → gP_X12_blue_9 g d r x1 x2 I J := by
  intro k; induction k with
  | zero => intro x1 x2 I J h; cases h
  | succ k ih =>
    intro x1 x2 I J h
    unfold f_X12_blue_9 at h
    unfold gP_X12_blue_9
    have z_0_47 : gzOk 0 47 gzN := gzOk_of (by decide)
    refine gz_iload_n (pc := 9) dX12_blue_9 rfl ?_
    refine gz_aload_n (pc := 10) dX12_blue_10 rfl ?_
    refine gz_V (zy := mX12_grudges) (zc := 0) (pc := 11) [] rfl dX12_blue_11 lkX12_73 MvX12_grudges rfl z_0_47 rfl rfl rfl (Or.inl rfl) (fun h => h) (by exact Nat.le_of_ble_eq_true rfl) ?_
    obtain ⟨v2, e1, h⟩ := gz_bd h
    refine gz_useI (c_X12_grudges e1) ?_
    refine gz_ic_ge (pc := 14) (tgt := 52) dX12_blue_14 (by decide) (fun c => ?_) (fun c => ?_)
    · replace h := gz_ifp c h
      refine gz_iload_n (pc := 52) dX12_blue_52 rfl ?_
      cases h; exact gz_iret (pc := 53) dX12_blue_53 rfl ⟨rfl, rfl⟩
    · replace h := gz_ifn c h
      refine gz_iload_n (pc := 17) dX12_blue_17 rfl ?_
      refine gz_aload_n (pc := 18) dX12_blue_18 rfl ?_
      refine gz_iload_n (pc := 19) dX12_blue_19 rfl ?_
      refine gz_V (zy := mX12_isThawed) (zc := 0) (pc := 20) [.inl x2] rfl dX12_blue_20 lkX12_76 MvX12_isThawed rfl z_0_47 rfl rfl rfl (Or.inl rfl) (fun h => h) (by exact Nat.le_of_ble_eq_true rfl) ?_
      obtain ⟨v4, e3, h⟩ := gz_bd h
      refine gz_useI (c_X12_isThawed e3) ?_
      refine gz_if_ne (pc := 23) (tgt := 43) dX12_blue_23 (by decide) (fun c => ?_) (fun c => ?_)
      · replace h := gz_ifp c h
        refine gz_iconst (pc := 43) dX12_blue_43 (v := 0) (by decide) ?_
        refine gz_ior (pc := 44) dX12_blue_44  ?_
        refine gz_istore_n (pc := 45) dX12_blue_45 (by decide) rfl (loc2 := [some (.inr (.inr (0, 47))), some (.inl (x1 ||| 0)), some (.inl x2)]) rfl ?_
        refine gz_iinc (pc := 46) dX12_blue_46 (x := x2) (v := x2 + 1) rfl (by rw [show Int32.ofInt 1 = 1 by decide]) (by decide) rfl (loc2 := [some (.inr (.inr (0, 47))), some (.inl (x1 ||| 0)), some (.inl (x2 + 1))]) rfl ?_
        refine gz_goto (pc := 49) (tgt := 9) dX12_blue_49 (by decide) ?_
        exact ih (x1 ||| 0) (x2 + 1) I J h
      · replace h := gz_ifn (fun q => q c) h
        refine gz_aload_n (pc := 26) dX12_blue_26 rfl ?_
        refine gz_iload_n (pc := 27) dX12_blue_27 rfl ?_
        refine gz_iconst (pc := 28) dX12_blue_28 (v := 4) (by decide) ?_
        refine gz_V (zy := mX12_of) (zc := 0) (pc := 29) [.inl x2, .inl 4] rfl dX12_blue_29 lkX12_70 MvX12_of rfl z_0_47 rfl rfl rfl (Or.inl rfl) (fun h => h) (by exact Nat.le_of_ble_eq_true rfl) ?_
        obtain ⟨v6, e5, h⟩ := gz_bd h
        refine gz_useI (c_X12_of e5) ?_
        refine gz_bipush (pc := 32) dX12_blue_32 (v := 100) (by decide) ?_
        refine gz_ic_lt (pc := 34) (tgt := 43) dX12_blue_34 (by decide) (fun c => ?_) (fun c => ?_)
        · replace h := gz_ifp c h
          refine gz_iconst (pc := 43) dX12_blue_43 (v := 0) (by decide) ?_
          refine gz_ior (pc := 44) dX12_blue_44  ?_
          refine gz_istore_n (pc := 45) dX12_blue_45 (by decide) rfl (loc2 := [some (.inr (.inr (0, 47))), some (.inl (x1 ||| 0)), some (.inl x2)]) rfl ?_
          refine gz_iinc (pc := 46) dX12_blue_46 (x := x2) (v := x2 + 1) rfl (by rw [show Int32.ofInt 1 = 1 by decide]) (by decide) rfl (loc2 := [some (.inr (.inr (0, 47))), some (.inl (x1 ||| 0)), some (.inl (x2 + 1))]) rfl ?_
          refine gz_goto (pc := 49) (tgt := 9) dX12_blue_49 (by decide) ?_
          exact ih (x1 ||| 0) (x2 + 1) I J h
        · replace h := gz_ifn c h
          refine gz_iconst (pc := 37) dX12_blue_37 (v := 1) (by decide) ?_
          refine gz_iload_n (pc := 38) dX12_blue_38 rfl ?_
          refine gz_ishl (pc := 39) dX12_blue_39  ?_
          refine gz_goto (pc := 40) (tgt := 44) dX12_blue_40 (by decide) ?_
          refine gz_ior (pc := 44) dX12_blue_44  ?_
          refine gz_istore_n (pc := 45) dX12_blue_45 (by decide) rfl (loc2 := [some (.inr (.inr (0, 47))), some (.inl (x1 ||| ((1 : Int32) <<< (x2 &&& 31)))), some (.inl x2)]) rfl ?_
          refine gz_iinc (pc := 46) dX12_blue_46 (x := x2) (v := x2 + 1) rfl (by rw [show Int32.ofInt 1 = 1 by decide]) (by decide) rfl (loc2 := [some (.inr (.inr (0, 47))), some (.inl (x1 ||| ((1 : Int32) <<< (x2 &&& 31)))), some (.inl (x2 + 1))]) rfl ?_
          refine gz_goto (pc := 49) (tgt := 9) dX12_blue_49 (by decide) ?_
          exact ih (x1 ||| ((1 : Int32) <<< (x2 &&& 31))) (x2 + 1) I J h
def f_X12_blue (φ : Nat) (I : gzIT) (J : gzJT) : Option (Int32 × gzIT × gzJT) := f_X12_blue_9 φ φ 0 0 (gz_ui I 0 47 0 0) J
set_option maxRecDepth 20000 in
theorem c_X12_blue {g : gzG} {d φ : Nat} {I : gzIT} {J : gzJT} {r : Int32 × gzIT × gzJT} (h : f_X12_blue φ I J = some r) : gzC g 0 (d + 3) mX12_blue [.inr (.inr (0, 47))] (gzN, gzR0, I, J) (gzE (.ok (some (.inl r.1))) (gzN, gzR0, r.2.1, r.2.2)) := by
  unfold f_X12_blue at h
  refine gzC_of (by decide +kernel) (Nat.le_of_ble_eq_true rfl) (loc := [some (.inr (.inr (0, 47))), none, none]) rfl ?_
  have z_0_47 : gzOk 0 47 gzN := gzOk_of (by decide)
  refine gz_aload_n (pc := 0) dX12_blue_0 rfl ?_
  refine gz_iconst (pc := 1) dX12_blue_1 (v := 0) (by decide) ?_
  refine gp_X12_3 (pc := 2) dX12_blue_2 z_0_47 rfl ?_
  refine gz_iconst (pc := 5) dX12_blue_5 (v := 0) (by decide) ?_
  refine gz_istore_n (pc := 6) dX12_blue_6 (by decide) rfl (loc2 := [some (.inr (.inr (0, 47))), some (.inl 0), none]) rfl ?_
  refine gz_iconst (pc := 7) dX12_blue_7 (v := 0) (by decide) ?_
  refine gz_istore_n (pc := 8) dX12_blue_8 (by decide) rfl (loc2 := [some (.inr (.inr (0, 47))), some (.inl 0), some (.inl 0)]) rfl ?_
  exact p_X12_blue_9 φ 0 0 (gz_ui I 0 47 0 0) J h
/-! X12_nursed: nursed -/
def gP_X12_nursed_9 (g : gzG) (d : Nat) (r : Int32 × gzIT × gzJT) (x1 : Int32) (x2 : Int32) (I : gzIT) (J : gzJT) : Prop := gzX g 0 (d + 3) mX12_nursed 9 [some (.inr (.inr (0, 47))), some (.inl x1), some (.inl x2)] [] (gzN, gzR0, I, J) 0 (gzE (.ok (some (.inl r.1))) (gzN, gzR0, r.2.1, r.2.2))
def f_X12_nursed_9 (φ : Nat) : Nat → Int32 → Int32 → gzIT → gzJT → Option (Int32 × gzIT × gzJT)
  | 0, _, _, _, _ => none
  | k + 1, x1, x2, I, J => Option.bind (f_X12_grudges I) (fun v2 => if v2 ≤ x2 then (some (x1, I, J)) else (Option.bind (f_X12_isThawed I x2) (fun v4 => if ¬ v4 = 0 then (f_X12_nursed_9 φ k (x1 ||| 0) (x2 + 1) I J) else (Option.bind (f_X12_of I x2 5) (fun v6 => if ¬ v6 = 1 then (f_X12_nursed_9 φ k (x1 ||| 0) (x2 + 1) I J) else (f_X12_nursed_9 φ k (x1 ||| ((1 : Int32) <<< (x2 &&& 31))) (x2 + 1) I J))))))
set_option maxRecDepth 20000 in
theorem p_X12_nursed_9 {g : gzG} {d φ : Nat} {r : Int32 × gzIT × gzJT} : ∀ (k : Nat) (x1 : Int32) (x2 : Int32) (I : gzIT) (J : gzJT), f_X12_nursed_9 φ k x1 x2 I J = some r → gP_X12_nursed_9 g d r x1 x2 I J := by
  intro k; induction k with
  | zero => intro x1 x2 I J h; cases h
  | succ k ih =>
    intro x1 x2 I J h
    unfold f_X12_nursed_9 at h
    unfold gP_X12_nursed_9
    have z_0_47 : gzOk 0 47 gzN := gzOk_of (by decide)
    refine gz_iload_n (pc := 9) dX12_nursed_9 rfl ?_
    refine gz_aload_n (pc := 10) dX12_nursed_10 rfl ?_
    refine gz_V (zy := mX12_grudges) (zc := 0) (pc := 11) [] rfl dX12_nursed_11 lkX12_73 MvX12_grudges rfl z_0_47 rfl rfl rfl (Or.inl rfl) (fun h => h) (by exact Nat.le_of_ble_eq_true rfl) ?_
    obtain ⟨v2, e1, h⟩ := gz_bd h
    refine gz_useI (c_X12_grudges e1) ?_
    refine gz_ic_ge (pc := 14) (tgt := 51) dX12_nursed_14 (by decide) (fun c => ?_) (fun c => ?_)
    · replace h := gz_ifp c h
      refine gz_iload_n (pc := 51) dX12_nursed_51 rfl ?_
      cases h; exact gz_iret (pc := 52) dX12_nursed_52 rfl ⟨rfl, rfl⟩
    · replace h := gz_ifn c h
      refine gz_iload_n (pc := 17) dX12_nursed_17 rfl ?_
      refine gz_aload_n (pc := 18) dX12_nursed_18 rfl ?_
      refine gz_iload_n (pc := 19) dX12_nursed_19 rfl ?_
      refine gz_V (zy := mX12_isThawed) (zc := 0) (pc := 20) [.inl x2] rfl dX12_nursed_20 lkX12_76 MvX12_isThawed rfl z_0_47 rfl rfl rfl (Or.inl rfl) (fun h => h) (by exact Nat.le_of_ble_eq_true rfl) ?_
      obtain ⟨v4, e3, h⟩ := gz_bd h
      refine gz_useI (c_X12_isThawed e3) ?_
      refine gz_if_ne (pc := 23) (tgt := 42) dX12_nursed_23 (by decide) (fun c => ?_) (fun c => ?_)
      · replace h := gz_ifp c h
        refine gz_iconst (pc := 42) dX12_nursed_42 (v := 0) (by decide) ?_
        refine gz_ior (pc := 43) dX12_nursed_43  ?_
        refine gz_istore_n (pc := 44) dX12_nursed_44 (by decide) rfl (loc2 := [some (.inr (.inr (0, 47))), some (.inl (x1 ||| 0)), some (.inl x2)]) rfl ?_
        refine gz_iinc (pc := 45) dX12_nursed_45 (x := x2) (v := x2 + 1) rfl (by rw [show Int32.ofInt 1 = 1 by decide]) (by decide) rfl (loc2 := [some (.inr (.inr (0, 47))), some (.inl (x1 ||| 0)), some (.inl (x2 + 1))]) rfl ?_
        refine gz_goto (pc := 48) (tgt := 9) dX12_nursed_48 (by decide) ?_
        exact ih (x1 ||| 0) (x2 + 1) I J h
      · replace h := gz_ifn (fun q => q c) h
        refine gz_aload_n (pc := 26) dX12_nursed_26 rfl ?_
        refine gz_iload_n (pc := 27) dX12_nursed_27 rfl ?_
        refine gz_iconst (pc := 28) dX12_nursed_28 (v := 5) (by decide) ?_
        refine gz_V (zy := mX12_of) (zc := 0) (pc := 29) [.inl x2, .inl 5] rfl dX12_nursed_29 lkX12_70 MvX12_of rfl z_0_47 rfl rfl rfl (Or.inl rfl) (fun h => h) (by exact Nat.le_of_ble_eq_true rfl) ?_
        obtain ⟨v6, e5, h⟩ := gz_bd h
        refine gz_useI (c_X12_of e5) ?_
        refine gz_iconst (pc := 32) dX12_nursed_32 (v := 1) (by decide) ?_
        refine gz_ic_ne (pc := 33) (tgt := 42) dX12_nursed_33 (by decide) (fun c => ?_) (fun c => ?_)
        · replace h := gz_ifp c h
          refine gz_iconst (pc := 42) dX12_nursed_42 (v := 0) (by decide) ?_
          refine gz_ior (pc := 43) dX12_nursed_43  ?_
          refine gz_istore_n (pc := 44) dX12_nursed_44 (by decide) rfl (loc2 := [some (.inr (.inr (0, 47))), some (.inl (x1 ||| 0)), some (.inl x2)]) rfl ?_
          refine gz_iinc (pc := 45) dX12_nursed_45 (x := x2) (v := x2 + 1) rfl (by rw [show Int32.ofInt 1 = 1 by decide]) (by decide) rfl (loc2 := [some (.inr (.inr (0, 47))), some (.inl (x1 ||| 0)), some (.inl (x2 + 1))]) rfl ?_
          refine gz_goto (pc := 48) (tgt := 9) dX12_nursed_48 (by decide) ?_
          exact ih (x1 ||| 0) (x2 + 1) I J h
        · replace h := gz_ifn (fun q => q c) h
          refine gz_iconst (pc := 36) dX12_nursed_36 (v := 1) (by decide) ?_
          refine gz_iload_n (pc := 37) dX12_nursed_37 rfl ?_
          refine gz_ishl (pc := 38) dX12_nursed_38  ?_
          refine gz_goto (pc := 39) (tgt := 43) dX12_nursed_39 (by decide) ?_
          refine gz_ior (pc := 43) dX12_nursed_43  ?_
          refine gz_istore_n (pc := 44) dX12_nursed_44 (by decide) rfl (loc2 := [some (.inr (.inr (0, 47))), some (.inl (x1 ||| ((1 : Int32) <<< (x2 &&& 31)))), some (.inl x2)]) rfl ?_
          refine gz_iinc (pc := 45) dX12_nursed_45 (x := x2) (v := x2 + 1) rfl (by rw [show Int32.ofInt 1 = 1 by decide]) (by decide) rfl (loc2 := [some (.inr (.inr (0, 47))), some (.inl (x1 ||| ((1 : Int32) <<< (x2 &&& 31)))), some (.inl (x2 + 1))]) rfl ?_
          refine gz_goto (pc := 48) (tgt := 9) dX12_nursed_48 (by decide) ?_
          exact ih (x1 ||| ((1 : Int32) <<< (x2 &&& 31))) (x2 + 1) I J h
def f_X12_nursed (φ : Nat) (I : gzIT) (J : gzJT) : Option (Int32 × gzIT × gzJT) := f_X12_nursed_9 φ φ 0 0 (gz_ui I 0 47 0 0) J
set_option maxRecDepth 20000 in
theorem c_X12_nursed {g : gzG} {d φ : Nat} {I : gzIT} {J : gzJT} {r : Int32 × gzIT × gzJT} (h : f_X12_nursed φ I J = some r) : gzC g 0 (d + 3) mX12_nursed [.inr (.inr (0, 47))] (gzN, gzR0, I, J) (gzE (.ok (some (.inl r.1))) (gzN, gzR0, r.2.1, r.2.2)) := by
  unfold f_X12_nursed at h
  refine gzC_of (by decide +kernel) (Nat.le_of_ble_eq_true rfl) (loc := [some (.inr (.inr (0, 47))), none, none]) rfl ?_
  have z_0_47 : gzOk 0 47 gzN := gzOk_of (by decide)
  refine gz_aload_n (pc := 0) dX12_nursed_0 rfl ?_
  refine gz_iconst (pc := 1) dX12_nursed_1 (v := 0) (by decide) ?_
  refine gp_X12_3 (pc := 2) dX12_nursed_2 z_0_47 rfl ?_
  refine gz_iconst (pc := 5) dX12_nursed_5 (v := 0) (by decide) ?_
  refine gz_istore_n (pc := 6) dX12_nursed_6 (by decide) rfl (loc2 := [some (.inr (.inr (0, 47))), some (.inl 0), none]) rfl ?_
  refine gz_iconst (pc := 7) dX12_nursed_7 (v := 0) (by decide) ?_
  refine gz_istore_n (pc := 8) dX12_nursed_8 (by decide) rfl (loc2 := [some (.inr (.inr (0, 47))), some (.inl 0), some (.inl 0)]) rfl ?_
  exact p_X12_nursed_9 φ 0 0 (gz_ui I 0 47 0 0) J h
/-! X12_mutual: mutual -/
def gP_X12_mutual_9 (g : gzG) (d : Nat) (r : Int32 × gzIT × gzJT) (x1 : Int32) (x2 : Int32) (I : gzIT) (J : gzJT) : Prop := gzX g 0 (d + 4) mX12_mutual 9 [some (.inr (.inr (0, 47))), some (.inl x1), some (.inl x2)] [] (gzN, gzR0, I, J) 0 (gzE (.ok (some (.inl r.1))) (gzN, gzR0, r.2.1, r.2.2))
def f_X12_mutual_9 (φ : Nat) : Nat → Int32 → Int32 → gzIT → gzJT → Option (Int32 × gzIT × gzJT)
  | 0, _, _, _, _ => none
  | k + 1, x1, x2, I, J => Option.bind (f_X12_grudges I) (fun v2 => if v2 ≤ x2 then (some (x1, I, J)) else (Option.bind (f_X12_isThawed I x2) (fun v4 => if ¬ v4 = 0 then (f_X12_mutual_9 φ k (x1 ||| 0) (x2 + 1) I J) else (Option.bind (f_X12_isMutual φ I x2) (fun v6 => if v6 = 0 then (f_X12_mutual_9 φ k (x1 ||| 0) (x2 + 1) I J) else (f_X12_mutual_9 φ k (x1 ||| ((1 : Int32) <<< (x2 &&& 31))) (x2 + 1) I J))))))
set_option maxRecDepth 20000 in
theorem p_X12_mutual_9 {g : gzG} {d φ : Nat} {r : Int32 × gzIT × gzJT} : ∀ (k : Nat) (x1 : Int32) (x2 : Int32) (I : gzIT) (J : gzJT), f_X12_mutual_9 φ k x1 x2 I J = some r → gP_X12_mutual_9 g d r x1 x2 I J := by
  intro k; induction k with
  | zero => intro x1 x2 I J h; cases h
  | succ k ih =>
    intro x1 x2 I J h
    unfold f_X12_mutual_9 at h
    unfold gP_X12_mutual_9
    have z_0_47 : gzOk 0 47 gzN := gzOk_of (by decide)
    refine gz_iload_n (pc := 9) dX12_mutual_9 rfl ?_
    refine gz_aload_n (pc := 10) dX12_mutual_10 rfl ?_
    refine gz_V (zy := mX12_grudges) (zc := 0) (pc := 11) [] rfl dX12_mutual_11 lkX12_73 MvX12_grudges rfl z_0_47 rfl rfl rfl (Or.inl rfl) (fun h => h) (by exact Nat.le_of_ble_eq_true rfl) ?_
    obtain ⟨v2, e1, h⟩ := gz_bd h
    refine gz_useI (c_X12_grudges e1) ?_
    refine gz_ic_ge (pc := 14) (tgt := 49) dX12_mutual_14 (by decide) (fun c => ?_) (fun c => ?_)
    · replace h := gz_ifp c h
      refine gz_iload_n (pc := 49) dX12_mutual_49 rfl ?_
      cases h; exact gz_iret (pc := 50) dX12_mutual_50 rfl ⟨rfl, rfl⟩
    · replace h := gz_ifn c h
      refine gz_iload_n (pc := 17) dX12_mutual_17 rfl ?_
      refine gz_aload_n (pc := 18) dX12_mutual_18 rfl ?_
      refine gz_iload_n (pc := 19) dX12_mutual_19 rfl ?_
      refine gz_V (zy := mX12_isThawed) (zc := 0) (pc := 20) [.inl x2] rfl dX12_mutual_20 lkX12_76 MvX12_isThawed rfl z_0_47 rfl rfl rfl (Or.inl rfl) (fun h => h) (by exact Nat.le_of_ble_eq_true rfl) ?_
      obtain ⟨v4, e3, h⟩ := gz_bd h
      refine gz_useI (c_X12_isThawed e3) ?_
      refine gz_if_ne (pc := 23) (tgt := 40) dX12_mutual_23 (by decide) (fun c => ?_) (fun c => ?_)
      · replace h := gz_ifp c h
        refine gz_iconst (pc := 40) dX12_mutual_40 (v := 0) (by decide) ?_
        refine gz_ior (pc := 41) dX12_mutual_41  ?_
        refine gz_istore_n (pc := 42) dX12_mutual_42 (by decide) rfl (loc2 := [some (.inr (.inr (0, 47))), some (.inl (x1 ||| 0)), some (.inl x2)]) rfl ?_
        refine gz_iinc (pc := 43) dX12_mutual_43 (x := x2) (v := x2 + 1) rfl (by rw [show Int32.ofInt 1 = 1 by decide]) (by decide) rfl (loc2 := [some (.inr (.inr (0, 47))), some (.inl (x1 ||| 0)), some (.inl (x2 + 1))]) rfl ?_
        refine gz_goto (pc := 46) (tgt := 9) dX12_mutual_46 (by decide) ?_
        exact ih (x1 ||| 0) (x2 + 1) I J h
      · replace h := gz_ifn (fun q => q c) h
        refine gz_aload_n (pc := 26) dX12_mutual_26 rfl ?_
        refine gz_iload_n (pc := 27) dX12_mutual_27 rfl ?_
        refine gz_V (zy := mX12_isMutual) (zc := 0) (pc := 28) [.inl x2] rfl dX12_mutual_28 lkX12_281 MvX12_isMutual rfl z_0_47 rfl rfl rfl (Or.inl rfl) (fun h => h) (by exact Nat.le_of_ble_eq_true rfl) ?_
        obtain ⟨v6, e5, h⟩ := gz_bd h
        refine gz_useI (c_X12_isMutual e5) ?_
        refine gz_if_eq (pc := 31) (tgt := 40) dX12_mutual_31 (by decide) (fun c => ?_) (fun c => ?_)
        · replace h := gz_ifp c h
          refine gz_iconst (pc := 40) dX12_mutual_40 (v := 0) (by decide) ?_
          refine gz_ior (pc := 41) dX12_mutual_41  ?_
          refine gz_istore_n (pc := 42) dX12_mutual_42 (by decide) rfl (loc2 := [some (.inr (.inr (0, 47))), some (.inl (x1 ||| 0)), some (.inl x2)]) rfl ?_
          refine gz_iinc (pc := 43) dX12_mutual_43 (x := x2) (v := x2 + 1) rfl (by rw [show Int32.ofInt 1 = 1 by decide]) (by decide) rfl (loc2 := [some (.inr (.inr (0, 47))), some (.inl (x1 ||| 0)), some (.inl (x2 + 1))]) rfl ?_
          refine gz_goto (pc := 46) (tgt := 9) dX12_mutual_46 (by decide) ?_
          exact ih (x1 ||| 0) (x2 + 1) I J h
        · replace h := gz_ifn c h
          refine gz_iconst (pc := 34) dX12_mutual_34 (v := 1) (by decide) ?_
          refine gz_iload_n (pc := 35) dX12_mutual_35 rfl ?_
          refine gz_ishl (pc := 36) dX12_mutual_36  ?_
          refine gz_goto (pc := 37) (tgt := 41) dX12_mutual_37 (by decide) ?_
          refine gz_ior (pc := 41) dX12_mutual_41  ?_
          refine gz_istore_n (pc := 42) dX12_mutual_42 (by decide) rfl (loc2 := [some (.inr (.inr (0, 47))), some (.inl (x1 ||| ((1 : Int32) <<< (x2 &&& 31)))), some (.inl x2)]) rfl ?_
          refine gz_iinc (pc := 43) dX12_mutual_43 (x := x2) (v := x2 + 1) rfl (by rw [show Int32.ofInt 1 = 1 by decide]) (by decide) rfl (loc2 := [some (.inr (.inr (0, 47))), some (.inl (x1 ||| ((1 : Int32) <<< (x2 &&& 31)))), some (.inl (x2 + 1))]) rfl ?_
          refine gz_goto (pc := 46) (tgt := 9) dX12_mutual_46 (by decide) ?_
          exact ih (x1 ||| ((1 : Int32) <<< (x2 &&& 31))) (x2 + 1) I J h
def f_X12_mutual (φ : Nat) (I : gzIT) (J : gzJT) : Option (Int32 × gzIT × gzJT) := f_X12_mutual_9 φ φ 0 0 (gz_ui I 0 47 0 0) J
set_option maxRecDepth 20000 in
theorem c_X12_mutual {g : gzG} {d φ : Nat} {I : gzIT} {J : gzJT} {r : Int32 × gzIT × gzJT} (h : f_X12_mutual φ I J = some r) : gzC g 0 (d + 4) mX12_mutual [.inr (.inr (0, 47))] (gzN, gzR0, I, J) (gzE (.ok (some (.inl r.1))) (gzN, gzR0, r.2.1, r.2.2)) := by
  unfold f_X12_mutual at h
  refine gzC_of (by decide +kernel) (Nat.le_of_ble_eq_true rfl) (loc := [some (.inr (.inr (0, 47))), none, none]) rfl ?_
  have z_0_47 : gzOk 0 47 gzN := gzOk_of (by decide)
  refine gz_aload_n (pc := 0) dX12_mutual_0 rfl ?_
  refine gz_iconst (pc := 1) dX12_mutual_1 (v := 0) (by decide) ?_
  refine gp_X12_3 (pc := 2) dX12_mutual_2 z_0_47 rfl ?_
  refine gz_iconst (pc := 5) dX12_mutual_5 (v := 0) (by decide) ?_
  refine gz_istore_n (pc := 6) dX12_mutual_6 (by decide) rfl (loc2 := [some (.inr (.inr (0, 47))), some (.inl 0), none]) rfl ?_
  refine gz_iconst (pc := 7) dX12_mutual_7 (v := 0) (by decide) ?_
  refine gz_istore_n (pc := 8) dX12_mutual_8 (by decide) rfl (loc2 := [some (.inr (.inr (0, 47))), some (.inl 0), some (.inl 0)]) rfl ?_
  exact p_X12_mutual_9 φ 0 0 (gz_ui I 0 47 0 0) J h
/-! X12_proud: proud -/
def gP_X12_proud_9 (g : gzG) (d : Nat) (r : Int32 × gzIT × gzJT) (x1 : Int32) (x2 : Int32) (I : gzIT) (J : gzJT) : Prop := gzX g 0 (d + 2) mX12_proud 9 [some (.inr (.inr (0, 47))), some (.inl x1), some (.inl x2)] [] (gzN, gzR0, I, J) 0 (gzE (.ok (some (.inl r.1))) (gzN, gzR0, r.2.1, r.2.2))
def f_X12_proud_9 (φ : Nat) : Nat → Int32 → Int32 → gzIT → gzJT → Option (Int32 × gzIT × gzJT)
  | 0, _, _, _, _ => none
  | k + 1, x1, x2, I, J => Option.bind (f_X12_families I) (fun v2 => if v2 ≤ x2 then (some (x1, I, J)) else (if x1 = (-1) then (f_X12_proud_9 φ k x2 (x2 + 1) I J) else (Option.bind (f_X12_ofFamily I x2 0) (fun v4 => Option.bind (f_X12_ofFamily I x1 0) (fun v6 => if v4 ≤ v6 then (f_X12_proud_9 φ k x1 (x2 + 1) I J) else (f_X12_proud_9 φ k x2 (x2 + 1) I J))))))
set_option maxRecDepth 20000 in
theorem p_X12_proud_9 {g : gzG} {d φ : Nat} {r : Int32 × gzIT × gzJT} : ∀ (k : Nat) (x1 : Int32) (x2 : Int32) (I : gzIT) (J : gzJT), f_X12_proud_9 φ k x1 x2 I J = some r → gP_X12_proud_9 g d r x1 x2 I J := by
  intro k; induction k with
  | zero => intro x1 x2 I J h; cases h
  | succ k ih =>
    intro x1 x2 I J h
    unfold f_X12_proud_9 at h
    unfold gP_X12_proud_9
    have z_0_47 : gzOk 0 47 gzN := gzOk_of (by decide)
    refine gz_iload_n (pc := 9) dX12_proud_9 rfl ?_
    refine gz_aload_n (pc := 10) dX12_proud_10 rfl ?_
    refine gz_V (zy := mX12_families) (zc := 0) (pc := 11) [] rfl dX12_proud_11 lkX12_59 MvX12_families rfl z_0_47 rfl rfl rfl (Or.inl rfl) (fun h => h) (by exact Nat.le_of_ble_eq_true rfl) ?_
    obtain ⟨v2, e1, h⟩ := gz_bd h
    refine gz_useI (c_X12_families e1) ?_
    refine gz_ic_ge (pc := 14) (tgt := 45) dX12_proud_14 (by decide) (fun c => ?_) (fun c => ?_)
    · replace h := gz_ifp c h
      refine gz_iload_n (pc := 45) dX12_proud_45 rfl ?_
      cases h; exact gz_iret (pc := 46) dX12_proud_46 rfl ⟨rfl, rfl⟩
    · replace h := gz_ifn c h
      refine gz_iload_n (pc := 17) dX12_proud_17 rfl ?_
      refine gz_iconst (pc := 18) dX12_proud_18 (v := (-1)) (by decide) ?_
      refine gz_ic_eq (pc := 19) (tgt := 37) dX12_proud_19 (by decide) (fun c => ?_) (fun c => ?_)
      · replace h := gz_ifp c h
        refine gz_iload_n (pc := 37) dX12_proud_37 rfl ?_
        refine gz_istore_n (pc := 38) dX12_proud_38 (by decide) rfl (loc2 := [some (.inr (.inr (0, 47))), some (.inl x2), some (.inl x2)]) rfl ?_
        refine gz_iinc (pc := 39) dX12_proud_39 (x := x2) (v := x2 + 1) rfl (by rw [show Int32.ofInt 1 = 1 by decide]) (by decide) rfl (loc2 := [some (.inr (.inr (0, 47))), some (.inl x2), some (.inl (x2 + 1))]) rfl ?_
        refine gz_goto (pc := 42) (tgt := 9) dX12_proud_42 (by decide) ?_
        exact ih x2 (x2 + 1) I J h
      · replace h := gz_ifn c h
        refine gz_aload_n (pc := 22) dX12_proud_22 rfl ?_
        refine gz_iload_n (pc := 23) dX12_proud_23 rfl ?_
        refine gz_iconst (pc := 24) dX12_proud_24 (v := 0) (by decide) ?_
        refine gz_V (zy := mX12_ofFamily) (zc := 0) (pc := 25) [.inl x2, .inl 0] rfl dX12_proud_25 lkX12_272 MvX12_ofFamily rfl z_0_47 rfl rfl rfl (Or.inl rfl) (fun h => h) (by exact Nat.le_of_ble_eq_true rfl) ?_
        obtain ⟨v4, e3, h⟩ := gz_bd h
        refine gz_useI (c_X12_ofFamily e3) ?_
        refine gz_aload_n (pc := 28) dX12_proud_28 rfl ?_
        refine gz_iload_n (pc := 29) dX12_proud_29 rfl ?_
        refine gz_iconst (pc := 30) dX12_proud_30 (v := 0) (by decide) ?_
        refine gz_V (zy := mX12_ofFamily) (zc := 0) (pc := 31) [.inl x1, .inl 0] rfl dX12_proud_31 lkX12_272 MvX12_ofFamily rfl z_0_47 rfl rfl rfl (Or.inl rfl) (fun h => h) (by exact Nat.le_of_ble_eq_true rfl) ?_
        obtain ⟨v6, e5, h⟩ := gz_bd h
        refine gz_useI (c_X12_ofFamily e5) ?_
        refine gz_ic_le (pc := 34) (tgt := 39) dX12_proud_34 (by decide) (fun c => ?_) (fun c => ?_)
        · replace h := gz_ifp c h
          refine gz_iinc (pc := 39) dX12_proud_39 (x := x2) (v := x2 + 1) rfl (by rw [show Int32.ofInt 1 = 1 by decide]) (by decide) rfl (loc2 := [some (.inr (.inr (0, 47))), some (.inl x1), some (.inl (x2 + 1))]) rfl ?_
          refine gz_goto (pc := 42) (tgt := 9) dX12_proud_42 (by decide) ?_
          exact ih x1 (x2 + 1) I J h
        · replace h := gz_ifn c h
          refine gz_iload_n (pc := 37) dX12_proud_37 rfl ?_
          refine gz_istore_n (pc := 38) dX12_proud_38 (by decide) rfl (loc2 := [some (.inr (.inr (0, 47))), some (.inl x2), some (.inl x2)]) rfl ?_
          refine gz_iinc (pc := 39) dX12_proud_39 (x := x2) (v := x2 + 1) rfl (by rw [show Int32.ofInt 1 = 1 by decide]) (by decide) rfl (loc2 := [some (.inr (.inr (0, 47))), some (.inl x2), some (.inl (x2 + 1))]) rfl ?_
          refine gz_goto (pc := 42) (tgt := 9) dX12_proud_42 (by decide) ?_
          exact ih x2 (x2 + 1) I J h
def f_X12_proud (φ : Nat) (I : gzIT) (J : gzJT) : Option (Int32 × gzIT × gzJT) := f_X12_proud_9 φ φ (-1) 0 (gz_ui I 0 47 0 0) J
set_option maxRecDepth 20000 in
theorem c_X12_proud {g : gzG} {d φ : Nat} {I : gzIT} {J : gzJT} {r : Int32 × gzIT × gzJT} (h : f_X12_proud φ I J = some r) : gzC g 0 (d + 2) mX12_proud [.inr (.inr (0, 47))] (gzN, gzR0, I, J) (gzE (.ok (some (.inl r.1))) (gzN, gzR0, r.2.1, r.2.2)) := by
  unfold f_X12_proud at h
  refine gzC_of (by decide +kernel) (Nat.le_of_ble_eq_true rfl) (loc := [some (.inr (.inr (0, 47))), none, none]) rfl ?_
  have z_0_47 : gzOk 0 47 gzN := gzOk_of (by decide)
  refine gz_aload_n (pc := 0) dX12_proud_0 rfl ?_
  refine gz_iconst (pc := 1) dX12_proud_1 (v := 0) (by decide) ?_
  refine gp_X12_3 (pc := 2) dX12_proud_2 z_0_47 rfl ?_
  refine gz_iconst (pc := 5) dX12_proud_5 (v := (-1)) (by decide) ?_
  refine gz_istore_n (pc := 6) dX12_proud_6 (by decide) rfl (loc2 := [some (.inr (.inr (0, 47))), some (.inl (-1)), none]) rfl ?_
  refine gz_iconst (pc := 7) dX12_proud_7 (v := 0) (by decide) ?_
  refine gz_istore_n (pc := 8) dX12_proud_8 (by decide) rfl (loc2 := [some (.inr (.inr (0, 47))), some (.inl (-1)), some (.inl 0)]) rfl ?_
  exact p_X12_proud_9 φ (-1) 0 (gz_ui I 0 47 0 0) J h
/-! X12_offs: offs -/
def gP_X12_offs_9 (g : gzG) (d : Nat) (r : Int32 × gzIT × gzJT) (x1 : Int32) (x2 : Int32) (I : gzIT) (J : gzJT) : Prop := gzX g 0 (d + 2) mX12_offs 9 [some (.inr (.inr (0, 47))), some (.inl x1), some (.inl x2)] [] (gzN, gzR0, I, J) 0 (gzE (.ok (some (.inl r.1))) (gzN, gzR0, r.2.1, r.2.2))
def f_X12_offs_9 (φ : Nat) : Nat → Int32 → Int32 → gzIT → gzJT → Option (Int32 × gzIT × gzJT)
  | 0, _, _, _, _ => none
  | k + 1, x1, x2, I, J => Option.bind (f_X12_families I) (fun v2 => if v2 ≤ x2 then (some (x1, I, J)) else (Option.bind (f_X12_ofFamily I x2 3) (fun v4 => if v4 ≤ 0 then (f_X12_offs_9 φ k (x1 ||| 0) (x2 + 1) I J) else (f_X12_offs_9 φ k (x1 ||| ((1 : Int32) <<< (x2 &&& 31))) (x2 + 1) I J))))
set_option maxRecDepth 20000 in
theorem p_X12_offs_9 {g : gzG} {d φ : Nat} {r : Int32 × gzIT × gzJT} : ∀ (k : Nat) (x1 : Int32) (x2 : Int32) (I : gzIT) (J : gzJT), f_X12_offs_9 φ k x1 x2 I J = some r → gP_X12_offs_9 g d r x1 x2 I J := by
  intro k; induction k with
  | zero => intro x1 x2 I J h; cases h
  | succ k ih =>
    intro x1 x2 I J h
    unfold f_X12_offs_9 at h
    unfold gP_X12_offs_9
    have z_0_47 : gzOk 0 47 gzN := gzOk_of (by decide)
    refine gz_iload_n (pc := 9) dX12_offs_9 rfl ?_
    refine gz_aload_n (pc := 10) dX12_offs_10 rfl ?_
    refine gz_V (zy := mX12_families) (zc := 0) (pc := 11) [] rfl dX12_offs_11 lkX12_59 MvX12_families rfl z_0_47 rfl rfl rfl (Or.inl rfl) (fun h => h) (by exact Nat.le_of_ble_eq_true rfl) ?_
    obtain ⟨v2, e1, h⟩ := gz_bd h
    refine gz_useI (c_X12_families e1) ?_
    refine gz_ic_ge (pc := 14) (tgt := 42) dX12_offs_14 (by decide) (fun c => ?_) (fun c => ?_)
    · replace h := gz_ifp c h
      refine gz_iload_n (pc := 42) dX12_offs_42 rfl ?_
      cases h; exact gz_iret (pc := 43) dX12_offs_43 rfl ⟨rfl, rfl⟩
    · replace h := gz_ifn c h
      refine gz_iload_n (pc := 17) dX12_offs_17 rfl ?_
      refine gz_aload_n (pc := 18) dX12_offs_18 rfl ?_
      refine gz_iload_n (pc := 19) dX12_offs_19 rfl ?_
      refine gz_iconst (pc := 20) dX12_offs_20 (v := 3) (by decide) ?_
      refine gz_V (zy := mX12_ofFamily) (zc := 0) (pc := 21) [.inl x2, .inl 3] rfl dX12_offs_21 lkX12_272 MvX12_ofFamily rfl z_0_47 rfl rfl rfl (Or.inl rfl) (fun h => h) (by exact Nat.le_of_ble_eq_true rfl) ?_
      obtain ⟨v4, e3, h⟩ := gz_bd h
      refine gz_useI (c_X12_ofFamily e3) ?_
      refine gz_if_le (pc := 24) (tgt := 33) dX12_offs_24 (by decide) (fun c => ?_) (fun c => ?_)
      · replace h := gz_ifp c h
        refine gz_iconst (pc := 33) dX12_offs_33 (v := 0) (by decide) ?_
        refine gz_ior (pc := 34) dX12_offs_34  ?_
        refine gz_istore_n (pc := 35) dX12_offs_35 (by decide) rfl (loc2 := [some (.inr (.inr (0, 47))), some (.inl (x1 ||| 0)), some (.inl x2)]) rfl ?_
        refine gz_iinc (pc := 36) dX12_offs_36 (x := x2) (v := x2 + 1) rfl (by rw [show Int32.ofInt 1 = 1 by decide]) (by decide) rfl (loc2 := [some (.inr (.inr (0, 47))), some (.inl (x1 ||| 0)), some (.inl (x2 + 1))]) rfl ?_
        refine gz_goto (pc := 39) (tgt := 9) dX12_offs_39 (by decide) ?_
        exact ih (x1 ||| 0) (x2 + 1) I J h
      · replace h := gz_ifn c h
        refine gz_iconst (pc := 27) dX12_offs_27 (v := 1) (by decide) ?_
        refine gz_iload_n (pc := 28) dX12_offs_28 rfl ?_
        refine gz_ishl (pc := 29) dX12_offs_29  ?_
        refine gz_goto (pc := 30) (tgt := 34) dX12_offs_30 (by decide) ?_
        refine gz_ior (pc := 34) dX12_offs_34  ?_
        refine gz_istore_n (pc := 35) dX12_offs_35 (by decide) rfl (loc2 := [some (.inr (.inr (0, 47))), some (.inl (x1 ||| ((1 : Int32) <<< (x2 &&& 31)))), some (.inl x2)]) rfl ?_
        refine gz_iinc (pc := 36) dX12_offs_36 (x := x2) (v := x2 + 1) rfl (by rw [show Int32.ofInt 1 = 1 by decide]) (by decide) rfl (loc2 := [some (.inr (.inr (0, 47))), some (.inl (x1 ||| ((1 : Int32) <<< (x2 &&& 31)))), some (.inl (x2 + 1))]) rfl ?_
        refine gz_goto (pc := 39) (tgt := 9) dX12_offs_39 (by decide) ?_
        exact ih (x1 ||| ((1 : Int32) <<< (x2 &&& 31))) (x2 + 1) I J h
def f_X12_offs (φ : Nat) (I : gzIT) (J : gzJT) : Option (Int32 × gzIT × gzJT) := f_X12_offs_9 φ φ 0 0 (gz_ui I 0 47 0 0) J
set_option maxRecDepth 20000 in
theorem c_X12_offs {g : gzG} {d φ : Nat} {I : gzIT} {J : gzJT} {r : Int32 × gzIT × gzJT} (h : f_X12_offs φ I J = some r) : gzC g 0 (d + 2) mX12_offs [.inr (.inr (0, 47))] (gzN, gzR0, I, J) (gzE (.ok (some (.inl r.1))) (gzN, gzR0, r.2.1, r.2.2)) := by
  unfold f_X12_offs at h
  refine gzC_of (by decide +kernel) (Nat.le_of_ble_eq_true rfl) (loc := [some (.inr (.inr (0, 47))), none, none]) rfl ?_
  have z_0_47 : gzOk 0 47 gzN := gzOk_of (by decide)
  refine gz_aload_n (pc := 0) dX12_offs_0 rfl ?_
  refine gz_iconst (pc := 1) dX12_offs_1 (v := 0) (by decide) ?_
  refine gp_X12_3 (pc := 2) dX12_offs_2 z_0_47 rfl ?_
  refine gz_iconst (pc := 5) dX12_offs_5 (v := 0) (by decide) ?_
  refine gz_istore_n (pc := 6) dX12_offs_6 (by decide) rfl (loc2 := [some (.inr (.inr (0, 47))), some (.inl 0), none]) rfl ?_
  refine gz_iconst (pc := 7) dX12_offs_7 (v := 0) (by decide) ?_
  refine gz_istore_n (pc := 8) dX12_offs_8 (by decide) rfl (loc2 := [some (.inr (.inr (0, 47))), some (.inl 0), some (.inl 0)]) rfl ?_
  exact p_X12_offs_9 φ 0 0 (gz_ui I 0 47 0 0) J h
/-! X12_twins: twins -/
def gP_X12_twins_19 (g : gzG) (d : Nat) (r : Int32 × gzIT × gzJT) (x1 : Int32) (x2 : Int32) (x3 : Int32) (I : gzIT) (J : gzJT) : Prop := gzX g 0 (d + 3) mX12_twins 19 [some (.inr (.inr (0, 47))), some (.inl x1), some (.inl x2), some (.inl x3)] [] (gzN, gzR0, I, J) 0 (gzE (.ok (some (.inl r.1))) (gzN, gzR0, r.2.1, r.2.2))
def gP_X12_twins_9 (g : gzG) (d : Nat) (r : Int32 × gzIT × gzJT) (x1 : Int32) (x2 : Int32) (I : gzIT) (J : gzJT) : Prop := gzX g 0 (d + 3) mX12_twins 9 [some (.inr (.inr (0, 47))), some (.inl x1), some (.inl x2), none] [] (gzN, gzR0, I, J) 0 (gzE (.ok (some (.inl r.1))) (gzN, gzR0, r.2.1, r.2.2))
def f_X12_twins_19 (φ : Nat) (K9 : Int32 → Int32 → gzIT → gzJT → Option (Int32 × gzIT × gzJT)) : Nat → Int32 → Int32 → Int32 → gzIT → gzJT → Option (Int32 × gzIT × gzJT)
  | 0, _, _, _, _, _ => none
  | k + 1, x1, x2, x3, I, J => if x2 ≤ x3 then (K9 x1 (x2 + 1) I J) else (Option.bind (f_X12_isThawed I x2) (fun v4 => if ¬ v4 = 0 then (f_X12_twins_19 φ K9 k (x1 + 0) x2 (x3 + 1) I J) else (Option.bind (f_X12_isThawed I x3) (fun v6 => if ¬ v6 = 0 then (f_X12_twins_19 φ K9 k (x1 + 0) x2 (x3 + 1) I J) else (Option.bind (f_X12_of I x2 2) (fun v8 => Option.bind (f_X12_of I x3 2) (fun v10 => if ¬ v8 = v10 then (f_X12_twins_19 φ K9 k (x1 + 0) x2 (x3 + 1) I J) else (Option.bind (f_X12_of I x2 3) (fun v12 => Option.bind (f_X12_of I x3 3) (fun v14 => if ¬ v12 = v14 then (f_X12_twins_19 φ K9 k (x1 + 0) x2 (x3 + 1) I J) else (f_X12_twins_19 φ K9 k (x1 + 1) x2 (x3 + 1) I J)))))))))))
set_option maxRecDepth 20000 in
theorem p_X12_twins_19 {g : gzG} {d φ : Nat} {r : Int32 × gzIT × gzJT} {K9 : Int32 → Int32 → gzIT → gzJT → Option (Int32 × gzIT × gzJT)} (hK9 : ∀ (x1 : Int32) (x2 : Int32) (I : gzIT) (J : gzJT), K9 x1 x2 I J = some r → gP_X12_twins_9 g d r x1 x2 I J) : ∀ (k : Nat) (x1 : Int32) (x2 : Int32) (x3 : Int32) (I : gzIT) (J : gzJT), f_X12_twins_19 φ K9 k x1 x2 x3 I J = some r → gP_X12_twins_19 g d r x1 x2 x3 I J := by
  intro k; induction k with
  | zero => intro x1 x2 x3 I J h; cases h
  | succ k ih =>
    intro x1 x2 x3 I J h
    unfold f_X12_twins_19 at h
    unfold gP_X12_twins_19
    have z_0_47 : gzOk 0 47 gzN := gzOk_of (by decide)
    refine gz_iload_n (pc := 19) dX12_twins_19 rfl ?_
    refine gz_iload_n (pc := 20) dX12_twins_20 rfl ?_
    refine gz_ic_ge (pc := 21) (tgt := 84) dX12_twins_21 (by decide) (fun c => ?_) (fun c => ?_)
    · replace h := gz_ifp c h
      refine gz_iinc (pc := 84) dX12_twins_84 (x := x2) (v := x2 + 1) rfl (by rw [show Int32.ofInt 1 = 1 by decide]) (by decide) rfl (loc2 := [some (.inr (.inr (0, 47))), some (.inl x1), some (.inl (x2 + 1)), some (.inl x3)]) rfl ?_
      refine gz_goto (pc := 87) (tgt := 9) dX12_twins_87 (by decide) ?_
      exact gz_weak (loc2 := [some (.inr (.inr (0, 47))), some (.inl x1), some (.inl (x2 + 1)), none]) (hK9 x1 (x2 + 1) I J h) (by repeat (first | exact trivial | refine ⟨rfl, ?_⟩))
    · replace h := gz_ifn c h
      refine gz_iload_n (pc := 24) dX12_twins_24 rfl ?_
      refine gz_aload_n (pc := 25) dX12_twins_25 rfl ?_
      refine gz_iload_n (pc := 26) dX12_twins_26 rfl ?_
      refine gz_V (zy := mX12_isThawed) (zc := 0) (pc := 27) [.inl x2] rfl dX12_twins_27 lkX12_76 MvX12_isThawed rfl z_0_47 rfl rfl rfl (Or.inl rfl) (fun h => h) (by exact Nat.le_of_ble_eq_true rfl) ?_
      obtain ⟨v4, e3, h⟩ := gz_bd h
      refine gz_useI (c_X12_isThawed e3) ?_
      refine gz_if_ne (pc := 30) (tgt := 75) dX12_twins_30 (by decide) (fun c => ?_) (fun c => ?_)
      · replace h := gz_ifp c h
        refine gz_iconst (pc := 75) dX12_twins_75 (v := 0) (by decide) ?_
        refine gz_iadd (pc := 76) dX12_twins_76  ?_
        refine gz_istore_n (pc := 77) dX12_twins_77 (by decide) rfl (loc2 := [some (.inr (.inr (0, 47))), some (.inl (x1 + 0)), some (.inl x2), some (.inl x3)]) rfl ?_
        refine gz_iinc (pc := 78) dX12_twins_78 (x := x3) (v := x3 + 1) rfl (by rw [show Int32.ofInt 1 = 1 by decide]) (by decide) rfl (loc2 := [some (.inr (.inr (0, 47))), some (.inl (x1 + 0)), some (.inl x2), some (.inl (x3 + 1))]) rfl ?_
        refine gz_goto (pc := 81) (tgt := 19) dX12_twins_81 (by decide) ?_
        exact ih (x1 + 0) x2 (x3 + 1) I J h
      · replace h := gz_ifn (fun q => q c) h
        refine gz_aload_n (pc := 33) dX12_twins_33 rfl ?_
        refine gz_iload_n (pc := 34) dX12_twins_34 rfl ?_
        refine gz_V (zy := mX12_isThawed) (zc := 0) (pc := 35) [.inl x3] rfl dX12_twins_35 lkX12_76 MvX12_isThawed rfl z_0_47 rfl rfl rfl (Or.inl rfl) (fun h => h) (by exact Nat.le_of_ble_eq_true rfl) ?_
        obtain ⟨v6, e5, h⟩ := gz_bd h
        refine gz_useI (c_X12_isThawed e5) ?_
        refine gz_if_ne (pc := 38) (tgt := 75) dX12_twins_38 (by decide) (fun c => ?_) (fun c => ?_)
        · replace h := gz_ifp c h
          refine gz_iconst (pc := 75) dX12_twins_75 (v := 0) (by decide) ?_
          refine gz_iadd (pc := 76) dX12_twins_76  ?_
          refine gz_istore_n (pc := 77) dX12_twins_77 (by decide) rfl (loc2 := [some (.inr (.inr (0, 47))), some (.inl (x1 + 0)), some (.inl x2), some (.inl x3)]) rfl ?_
          refine gz_iinc (pc := 78) dX12_twins_78 (x := x3) (v := x3 + 1) rfl (by rw [show Int32.ofInt 1 = 1 by decide]) (by decide) rfl (loc2 := [some (.inr (.inr (0, 47))), some (.inl (x1 + 0)), some (.inl x2), some (.inl (x3 + 1))]) rfl ?_
          refine gz_goto (pc := 81) (tgt := 19) dX12_twins_81 (by decide) ?_
          exact ih (x1 + 0) x2 (x3 + 1) I J h
        · replace h := gz_ifn (fun q => q c) h
          refine gz_aload_n (pc := 41) dX12_twins_41 rfl ?_
          refine gz_iload_n (pc := 42) dX12_twins_42 rfl ?_
          refine gz_iconst (pc := 43) dX12_twins_43 (v := 2) (by decide) ?_
          refine gz_V (zy := mX12_of) (zc := 0) (pc := 44) [.inl x2, .inl 2] rfl dX12_twins_44 lkX12_70 MvX12_of rfl z_0_47 rfl rfl rfl (Or.inl rfl) (fun h => h) (by exact Nat.le_of_ble_eq_true rfl) ?_
          obtain ⟨v8, e7, h⟩ := gz_bd h
          refine gz_useI (c_X12_of e7) ?_
          refine gz_aload_n (pc := 47) dX12_twins_47 rfl ?_
          refine gz_iload_n (pc := 48) dX12_twins_48 rfl ?_
          refine gz_iconst (pc := 49) dX12_twins_49 (v := 2) (by decide) ?_
          refine gz_V (zy := mX12_of) (zc := 0) (pc := 50) [.inl x3, .inl 2] rfl dX12_twins_50 lkX12_70 MvX12_of rfl z_0_47 rfl rfl rfl (Or.inl rfl) (fun h => h) (by exact Nat.le_of_ble_eq_true rfl) ?_
          obtain ⟨v10, e9, h⟩ := gz_bd h
          refine gz_useI (c_X12_of e9) ?_
          refine gz_ic_ne (pc := 53) (tgt := 75) dX12_twins_53 (by decide) (fun c => ?_) (fun c => ?_)
          · replace h := gz_ifp c h
            refine gz_iconst (pc := 75) dX12_twins_75 (v := 0) (by decide) ?_
            refine gz_iadd (pc := 76) dX12_twins_76  ?_
            refine gz_istore_n (pc := 77) dX12_twins_77 (by decide) rfl (loc2 := [some (.inr (.inr (0, 47))), some (.inl (x1 + 0)), some (.inl x2), some (.inl x3)]) rfl ?_
            refine gz_iinc (pc := 78) dX12_twins_78 (x := x3) (v := x3 + 1) rfl (by rw [show Int32.ofInt 1 = 1 by decide]) (by decide) rfl (loc2 := [some (.inr (.inr (0, 47))), some (.inl (x1 + 0)), some (.inl x2), some (.inl (x3 + 1))]) rfl ?_
            refine gz_goto (pc := 81) (tgt := 19) dX12_twins_81 (by decide) ?_
            exact ih (x1 + 0) x2 (x3 + 1) I J h
          · replace h := gz_ifn (fun q => q c) h
            refine gz_aload_n (pc := 56) dX12_twins_56 rfl ?_
            refine gz_iload_n (pc := 57) dX12_twins_57 rfl ?_
            refine gz_iconst (pc := 58) dX12_twins_58 (v := 3) (by decide) ?_
            refine gz_V (zy := mX12_of) (zc := 0) (pc := 59) [.inl x2, .inl 3] rfl dX12_twins_59 lkX12_70 MvX12_of rfl z_0_47 rfl rfl rfl (Or.inl rfl) (fun h => h) (by exact Nat.le_of_ble_eq_true rfl) ?_
            obtain ⟨v12, e11, h⟩ := gz_bd h
            refine gz_useI (c_X12_of e11) ?_
            refine gz_aload_n (pc := 62) dX12_twins_62 rfl ?_
            refine gz_iload_n (pc := 63) dX12_twins_63 rfl ?_
            refine gz_iconst (pc := 64) dX12_twins_64 (v := 3) (by decide) ?_
            refine gz_V (zy := mX12_of) (zc := 0) (pc := 65) [.inl x3, .inl 3] rfl dX12_twins_65 lkX12_70 MvX12_of rfl z_0_47 rfl rfl rfl (Or.inl rfl) (fun h => h) (by exact Nat.le_of_ble_eq_true rfl) ?_
            obtain ⟨v14, e13, h⟩ := gz_bd h
            refine gz_useI (c_X12_of e13) ?_
            refine gz_ic_ne (pc := 68) (tgt := 75) dX12_twins_68 (by decide) (fun c => ?_) (fun c => ?_)
            · replace h := gz_ifp c h
              refine gz_iconst (pc := 75) dX12_twins_75 (v := 0) (by decide) ?_
              refine gz_iadd (pc := 76) dX12_twins_76  ?_
              refine gz_istore_n (pc := 77) dX12_twins_77 (by decide) rfl (loc2 := [some (.inr (.inr (0, 47))), some (.inl (x1 + 0)), some (.inl x2), some (.inl x3)]) rfl ?_
              refine gz_iinc (pc := 78) dX12_twins_78 (x := x3) (v := x3 + 1) rfl (by rw [show Int32.ofInt 1 = 1 by decide]) (by decide) rfl (loc2 := [some (.inr (.inr (0, 47))), some (.inl (x1 + 0)), some (.inl x2), some (.inl (x3 + 1))]) rfl ?_
              refine gz_goto (pc := 81) (tgt := 19) dX12_twins_81 (by decide) ?_
              exact ih (x1 + 0) x2 (x3 + 1) I J h
            · replace h := gz_ifn (fun q => q c) h
              refine gz_iconst (pc := 71) dX12_twins_71 (v := 1) (by decide) ?_
              refine gz_goto (pc := 72) (tgt := 76) dX12_twins_72 (by decide) ?_
              refine gz_iadd (pc := 76) dX12_twins_76  ?_
              refine gz_istore_n (pc := 77) dX12_twins_77 (by decide) rfl (loc2 := [some (.inr (.inr (0, 47))), some (.inl (x1 + 1)), some (.inl x2), some (.inl x3)]) rfl ?_
              refine gz_iinc (pc := 78) dX12_twins_78 (x := x3) (v := x3 + 1) rfl (by rw [show Int32.ofInt 1 = 1 by decide]) (by decide) rfl (loc2 := [some (.inr (.inr (0, 47))), some (.inl (x1 + 1)), some (.inl x2), some (.inl (x3 + 1))]) rfl ?_
              refine gz_goto (pc := 81) (tgt := 19) dX12_twins_81 (by decide) ?_
              exact ih (x1 + 1) x2 (x3 + 1) I J h
def f_X12_twins_9 (φ : Nat) : Nat → Int32 → Int32 → gzIT → gzJT → Option (Int32 × gzIT × gzJT)
  | 0, _, _, _, _ => none
  | k + 1, x1, x2, I, J => Option.bind (f_X12_grudges I) (fun v2 => if v2 ≤ x2 then (some (x1, I, J)) else (f_X12_twins_19 φ (f_X12_twins_9 φ k) φ x1 x2 0 I J))
set_option maxRecDepth 20000 in
theorem p_X12_twins_9 {g : gzG} {d φ : Nat} {r : Int32 × gzIT × gzJT} : ∀ (k : Nat) (x1 : Int32) (x2 : Int32) (I : gzIT) (J : gzJT), f_X12_twins_9 φ k x1 x2 I J = some r → gP_X12_twins_9 g d r x1 x2 I J := by
  intro k; induction k with
  | zero => intro x1 x2 I J h; cases h
  | succ k ih =>
    intro x1 x2 I J h
    unfold f_X12_twins_9 at h
    unfold gP_X12_twins_9
    have z_0_47 : gzOk 0 47 gzN := gzOk_of (by decide)
    refine gz_iload_n (pc := 9) dX12_twins_9 rfl ?_
    refine gz_aload_n (pc := 10) dX12_twins_10 rfl ?_
    refine gz_V (zy := mX12_grudges) (zc := 0) (pc := 11) [] rfl dX12_twins_11 lkX12_73 MvX12_grudges rfl z_0_47 rfl rfl rfl (Or.inl rfl) (fun h => h) (by exact Nat.le_of_ble_eq_true rfl) ?_
    obtain ⟨v2, e1, h⟩ := gz_bd h
    refine gz_useI (c_X12_grudges e1) ?_
    refine gz_ic_ge (pc := 14) (tgt := 90) dX12_twins_14 (by decide) (fun c => ?_) (fun c => ?_)
    · replace h := gz_ifp c h
      refine gz_iload_n (pc := 90) dX12_twins_90 rfl ?_
      cases h; exact gz_iret (pc := 91) dX12_twins_91 rfl ⟨rfl, rfl⟩
    · replace h := gz_ifn c h
      refine gz_iconst (pc := 17) dX12_twins_17 (v := 0) (by decide) ?_
      refine gz_istore_n (pc := 18) dX12_twins_18 (by decide) rfl (loc2 := [some (.inr (.inr (0, 47))), some (.inl x1), some (.inl x2), some (.inl 0)]) rfl ?_
      exact p_X12_twins_19 ih φ x1 x2 0 I J h
def f_X12_twins (φ : Nat) (I : gzIT) (J : gzJT) : Option (Int32 × gzIT × gzJT) := f_X12_twins_9 φ φ 0 0 (gz_ui I 0 47 0 0) J
set_option maxRecDepth 20000 in
theorem c_X12_twins {g : gzG} {d φ : Nat} {I : gzIT} {J : gzJT} {r : Int32 × gzIT × gzJT} (h : f_X12_twins φ I J = some r) : gzC g 0 (d + 3) mX12_twins [.inr (.inr (0, 47))] (gzN, gzR0, I, J) (gzE (.ok (some (.inl r.1))) (gzN, gzR0, r.2.1, r.2.2)) := by
  unfold f_X12_twins at h
  refine gzC_of (by decide +kernel) (Nat.le_of_ble_eq_true rfl) (loc := [some (.inr (.inr (0, 47))), none, none, none]) rfl ?_
  have z_0_47 : gzOk 0 47 gzN := gzOk_of (by decide)
  refine gz_aload_n (pc := 0) dX12_twins_0 rfl ?_
  refine gz_iconst (pc := 1) dX12_twins_1 (v := 0) (by decide) ?_
  refine gp_X12_3 (pc := 2) dX12_twins_2 z_0_47 rfl ?_
  refine gz_iconst (pc := 5) dX12_twins_5 (v := 0) (by decide) ?_
  refine gz_istore_n (pc := 6) dX12_twins_6 (by decide) rfl (loc2 := [some (.inr (.inr (0, 47))), some (.inl 0), none, none]) rfl ?_
  refine gz_iconst (pc := 7) dX12_twins_7 (v := 0) (by decide) ?_
  refine gz_istore_n (pc := 8) dX12_twins_8 (by decide) rfl (loc2 := [some (.inr (.inr (0, 47))), some (.inl 0), some (.inl 0), none]) rfl ?_
  exact p_X12_twins_9 φ 0 0 (gz_ui I 0 47 0 0) J h
/-! X12_trial: trial -/
def f_X12_trial (φ : Nat) (a1 : Int32) (a2 : Int32) (I : gzIT) (J : gzJT) : Option (Int32 × gzIT × gzJT) := Option.bind (f_X12_noAhead a1) (fun v2 => Option.bind (f_X12_throwsIf v2 1 (gz_ui I 0 47 0 0) J) (fun v4 => if v4.1 = 0 then (Option.bind (f_X12_keepsAll φ v4.2.1 v4.2.2) (fun v6 => Option.bind (f_X12_goesOn φ a1 0 v6.2.1 v6.2.2) (fun v8 => if a2 = 0 then (Option.bind (f_X12_standing φ v8.2.1) (fun v10 => Option.bind (f_X12_bringsBack φ v8.2.1 v8.2.2) (fun v12 => some (v10, v12.2.1, v12.2.2)))) else (Option.bind (f_X12_standing φ v8.2.1) (fun v14 => Option.bind (f_X12_iceOf φ v8.2.1 v14) (fun v16 => Option.bind (f_X12_bringsBack φ v8.2.1 v8.2.2) (fun v18 => some (v16, v18.2.1, v18.2.2)))))))) else (some (0, v4.2.1, v4.2.2))))
set_option maxRecDepth 20000 in
theorem c_X12_trial {g : gzG} {d φ : Nat} {a1 : Int32} {a2 : Int32} {I : gzIT} {J : gzJT} {r : Int32 × gzIT × gzJT} (h : f_X12_trial φ a1 a2 I J = some r) : gzC g 0 (d + 10) mX12_trial [.inr (.inr (0, 47)), .inl a1, .inl a2] (gzN, gzR0, I, J) (gzE (.ok (some (.inl r.1))) (gzN, gzR0, r.2.1, r.2.2)) := by
  unfold f_X12_trial at h
  refine gzC_of (by decide +kernel) (Nat.le_of_ble_eq_true rfl) (loc := [some (.inr (.inr (0, 47))), some (.inl a1), some (.inl a2), none]) rfl ?_
  have z_0_47 : gzOk 0 47 gzN := gzOk_of (by decide)
  refine gz_aload_n (pc := 0) dX12_trial_0 rfl ?_
  refine gz_iconst (pc := 1) dX12_trial_1 (v := 0) (by decide) ?_
  refine gp_X12_3 (pc := 2) dX12_trial_2 z_0_47 rfl ?_
  refine gz_aload_n (pc := 5) dX12_trial_5 rfl ?_
  refine gz_iload_n (pc := 6) dX12_trial_6 rfl ?_
  refine gz_S (zy := mX12_noAhead) (zc := 0) (pc := 7) [.inl a1] rfl dX12_trial_7 lkX12_378 MsX12_noAhead rfl (Or.inl rfl) (fun h => h) (by exact Nat.le_of_ble_eq_true rfl) ?_
  obtain ⟨v2, e1, h⟩ := gz_bd h
  refine gz_useI (c_X12_noAhead e1) ?_
  refine gz_iconst (pc := 10) dX12_trial_10 (v := 1) (by decide) ?_
  refine gz_V (zy := mX12_throwsIf) (zc := 0) (pc := 11) [.inl v2, .inl 1] rfl dX12_trial_11 lkX12_269 MvX12_throwsIf rfl z_0_47 rfl rfl rfl (Or.inl rfl) (fun h => h) (by exact Nat.le_of_ble_eq_true rfl) ?_
  obtain ⟨v4, e3, h⟩ := gz_bd h
  refine gz_useI (c_X12_throwsIf e3) ?_
  refine gz_if_eq (pc := 14) (tgt := 19) dX12_trial_14 (by decide) (fun c => ?_) (fun c => ?_)
  · replace h := gz_ifp c h
    refine gz_aload_n (pc := 19) dX12_trial_19 rfl ?_
    refine gz_V (zy := mX12_keepsAll) (zc := 0) (pc := 20) [] rfl dX12_trial_20 lkX12_371 MvX12_keepsAll rfl z_0_47 rfl rfl rfl (Or.inl rfl) (fun h => h) (by exact Nat.le_of_ble_eq_true rfl) ?_
    obtain ⟨v6, e5, h⟩ := gz_bd h
    refine gz_useV (c_X12_keepsAll e5) ?_
    refine gz_aload_n (pc := 23) dX12_trial_23 rfl ?_
    refine gz_iload_n (pc := 24) dX12_trial_24 rfl ?_
    refine gz_iconst (pc := 25) dX12_trial_25 (v := 0) (by decide) ?_
    refine gz_V (zy := mX12_goesOn) (zc := 0) (pc := 26) [.inl a1, .inl 0] rfl dX12_trial_26 lkX12_364 MvX12_goesOn rfl z_0_47 rfl rfl rfl (Or.inl rfl) (fun h => h) (by exact Nat.le_of_ble_eq_true rfl) ?_
    obtain ⟨v8, e7, h⟩ := gz_bd h
    refine gz_useI (c_X12_goesOn e7) ?_
    refine gz_popI (pc := 29) dX12_trial_29  ?_
    refine gz_iload_n (pc := 30) dX12_trial_30 rfl ?_
    refine gz_if_eq (pc := 31) (tgt := 45) dX12_trial_31 (by decide) (fun c => ?_) (fun c => ?_)
    · replace h := gz_ifp c h
      refine gz_aload_n (pc := 45) dX12_trial_45 rfl ?_
      refine gz_V (zy := mX12_standing) (zc := 0) (pc := 46) [] rfl dX12_trial_46 lkX12_291 MvX12_standing rfl z_0_47 rfl rfl rfl (Or.inl rfl) (fun h => h) (by exact Nat.le_of_ble_eq_true rfl) ?_
      obtain ⟨v10, e9, h⟩ := gz_bd h
      refine gz_useI (c_X12_standing e9) ?_
      refine gz_istore_n (pc := 49) dX12_trial_49 (by decide) rfl (loc2 := [some (.inr (.inr (0, 47))), some (.inl a1), some (.inl a2), some (.inl v10)]) rfl ?_
      refine gz_aload_n (pc := 50) dX12_trial_50 rfl ?_
      refine gz_V (zy := mX12_bringsBack) (zc := 0) (pc := 51) [] rfl dX12_trial_51 lkX12_374 MvX12_bringsBack rfl z_0_47 rfl rfl rfl (Or.inl rfl) (fun h => h) (by exact Nat.le_of_ble_eq_true rfl) ?_
      obtain ⟨v12, e11, h⟩ := gz_bd h
      refine gz_useV (c_X12_bringsBack e11) ?_
      refine gz_iload_n (pc := 54) dX12_trial_54 rfl ?_
      cases h; exact gz_iret (pc := 55) dX12_trial_55 rfl ⟨rfl, rfl⟩
    · replace h := gz_ifn c h
      refine gz_aload_n (pc := 34) dX12_trial_34 rfl ?_
      refine gz_aload_n (pc := 35) dX12_trial_35 rfl ?_
      refine gz_V (zy := mX12_standing) (zc := 0) (pc := 36) [] rfl dX12_trial_36 lkX12_291 MvX12_standing rfl z_0_47 rfl rfl rfl (Or.inl rfl) (fun h => h) (by exact Nat.le_of_ble_eq_true rfl) ?_
      obtain ⟨v14, e13, h⟩ := gz_bd h
      refine gz_useI (c_X12_standing e13) ?_
      refine gz_V (zy := mX12_iceOf) (zc := 0) (pc := 39) [.inl v14] rfl dX12_trial_39 lkX12_294 MvX12_iceOf rfl z_0_47 rfl rfl rfl (Or.inl rfl) (fun h => h) (by exact Nat.le_of_ble_eq_true rfl) ?_
      obtain ⟨v16, e15, h⟩ := gz_bd h
      refine gz_useI (c_X12_iceOf e15) ?_
      refine gz_goto (pc := 42) (tgt := 49) dX12_trial_42 (by decide) ?_
      refine gz_istore_n (pc := 49) dX12_trial_49 (by decide) rfl (loc2 := [some (.inr (.inr (0, 47))), some (.inl a1), some (.inl a2), some (.inl v16)]) rfl ?_
      refine gz_aload_n (pc := 50) dX12_trial_50 rfl ?_
      refine gz_V (zy := mX12_bringsBack) (zc := 0) (pc := 51) [] rfl dX12_trial_51 lkX12_374 MvX12_bringsBack rfl z_0_47 rfl rfl rfl (Or.inl rfl) (fun h => h) (by exact Nat.le_of_ble_eq_true rfl) ?_
      obtain ⟨v18, e17, h⟩ := gz_bd h
      refine gz_useV (c_X12_bringsBack e17) ?_
      refine gz_iload_n (pc := 54) dX12_trial_54 rfl ?_
      cases h; exact gz_iret (pc := 55) dX12_trial_55 rfl ⟨rfl, rfl⟩
  · replace h := gz_ifn c h
    refine gz_iconst (pc := 17) dX12_trial_17 (v := 0) (by decide) ?_
    cases h; exact gz_iret (pc := 18) dX12_trial_18 rfl ⟨rfl, rfl⟩
/-! X12_span: span -/
def gP_X12_span_28 (g : gzG) (d : Nat) (r : Int32 × gzIT × gzJT) (x1 : Int32) (x2 : Int32) (x3 : Int32) (x4 : Int32) (I : gzIT) (J : gzJT) : Prop := gzX g 0 (d + 10) mX12_span 28 [some (.inr (.inr (0, 47))), some (.inl x1), some (.inl x2), some (.inl x3), some (.inl x4), none] [] (gzN, gzR0, I, J) 0 (gzE (.ok (some (.inl r.1))) (gzN, gzR0, r.2.1, r.2.2))
def f_X12_span_28 (φ : Nat) : Nat → Int32 → Int32 → Int32 → Int32 → gzIT → gzJT → Option (Int32 × gzIT × gzJT)
  | 0, _, _, _, _, _, _ => none
  | k + 1, x1, x2, x3, x4, I, J => if 6 < x4 then (some (x3, I, J)) else (Option.bind (f_X12_goesOn φ x1 0 (gz_ui I 0 48 9 x4) J) (fun v8 => Option.bind (f_X12_standing φ v8.2.1) (fun v10 => Option.bind (f_X12_iceOf φ v8.2.1 v10) (fun v12 => Option.bind (f_X12_bringsBack φ v8.2.1 v8.2.2) (fun v14 => if 0 ≤ x3 then (if x2 = 0 then (f_X12_span_28 φ k x1 x2 (if v12 < x3 then v12 else x3) (x4 + 1) v14.2.1 v14.2.2) else (f_X12_span_28 φ k x1 x2 (if x3 < v12 then v12 else x3) (x4 + 1) v14.2.1 v14.2.2)) else (f_X12_span_28 φ k x1 x2 v12 (x4 + 1) v14.2.1 v14.2.2))))))
set_option maxRecDepth 20000 in
theorem p_X12_span_28 {g : gzG} {d φ : Nat} {r : Int32 × gzIT × gzJT} : ∀ (k : Nat) (x1 : Int32) (x2 : Int32) (x3 : Int32) (x4 : Int32) (I : gzIT) (J : gzJT), f_X12_span_28 φ k x1 x2 x3 x4 I J = some r → gP_X12_span_28 g d r x1 x2 x3 x4 I J := by
  intro k; induction k with
  | zero => intro x1 x2 x3 x4 I J h; cases h
  | succ k ih =>
    intro x1 x2 x3 x4 I J h
    unfold f_X12_span_28 at h
    unfold gP_X12_span_28
    have z_0_47 : gzOk 0 47 gzN := gzOk_of (by decide)
    have z_0_48 : gzOk 0 48 gzN := gzOk_of (by decide)
    refine gz_iload (pc := 28) dX12_span_28 rfl ?_
    refine gz_bipush (pc := 30) dX12_span_30 (v := 6) (by decide) ?_
    refine gz_ic_gt (pc := 32) (tgt := 100) dX12_span_32 (by decide) (fun c => ?_) (fun c => ?_)
    · replace h := gz_ifp c h
      refine gz_iload_n (pc := 100) dX12_span_100 rfl ?_
      cases h; exact gz_iret (pc := 101) dX12_span_101 rfl ⟨rfl, rfl⟩
    · replace h := gz_ifn c h
      refine gz_aload_n (pc := 35) dX12_span_35 rfl ?_
      refine gr_X12_13 (pc := 36) dX12_span_36 z_0_47 rfl ?_
      refine gz_bipush (pc := 39) dX12_span_39 (v := 9) (by decide) ?_
      refine gz_iload (pc := 41) dX12_span_41 rfl ?_
      refine gz_iast2 (pc := 43) dX12_span_43 (k := 9) z_0_48 rfl (gz_vpd (by decide)) (by decide) ?_
      refine gz_aload_n (pc := 44) dX12_span_44 rfl ?_
      refine gz_iload_n (pc := 45) dX12_span_45 rfl ?_
      refine gz_iconst (pc := 46) dX12_span_46 (v := 0) (by decide) ?_
      refine gz_V (zy := mX12_goesOn) (zc := 0) (pc := 47) [.inl x1, .inl 0] rfl dX12_span_47 lkX12_364 MvX12_goesOn rfl z_0_47 rfl rfl rfl (Or.inl rfl) (fun h => h) (by exact Nat.le_of_ble_eq_true rfl) ?_
      obtain ⟨v8, e7, h⟩ := gz_bd h
      refine gz_useI (c_X12_goesOn e7) ?_
      refine gz_popI (pc := 50) dX12_span_50  ?_
      refine gz_aload_n (pc := 51) dX12_span_51 rfl ?_
      refine gz_aload_n (pc := 52) dX12_span_52 rfl ?_
      refine gz_V (zy := mX12_standing) (zc := 0) (pc := 53) [] rfl dX12_span_53 lkX12_291 MvX12_standing rfl z_0_47 rfl rfl rfl (Or.inl rfl) (fun h => h) (by exact Nat.le_of_ble_eq_true rfl) ?_
      obtain ⟨v10, e9, h⟩ := gz_bd h
      refine gz_useI (c_X12_standing e9) ?_
      refine gz_V (zy := mX12_iceOf) (zc := 0) (pc := 56) [.inl v10] rfl dX12_span_56 lkX12_294 MvX12_iceOf rfl z_0_47 rfl rfl rfl (Or.inl rfl) (fun h => h) (by exact Nat.le_of_ble_eq_true rfl) ?_
      obtain ⟨v12, e11, h⟩ := gz_bd h
      refine gz_useI (c_X12_iceOf e11) ?_
      refine gz_istore (pc := 59) dX12_span_59 (by decide) rfl (loc2 := [some (.inr (.inr (0, 47))), some (.inl x1), some (.inl x2), some (.inl x3), some (.inl x4), some (.inl v12)]) rfl ?_
      refine gz_aload_n (pc := 61) dX12_span_61 rfl ?_
      refine gz_V (zy := mX12_bringsBack) (zc := 0) (pc := 62) [] rfl dX12_span_62 lkX12_374 MvX12_bringsBack rfl z_0_47 rfl rfl rfl (Or.inl rfl) (fun h => h) (by exact Nat.le_of_ble_eq_true rfl) ?_
      obtain ⟨v14, e13, h⟩ := gz_bd h
      refine gz_useV (c_X12_bringsBack e13) ?_
      refine gz_iload_n (pc := 65) dX12_span_65 rfl ?_
      refine gz_if_ge (pc := 66) (tgt := 74) dX12_span_66 (by decide) (fun c => ?_) (fun c => ?_)
      · replace h := gz_ifp c h
        refine gz_iload_n (pc := 74) dX12_span_74 rfl ?_
        refine gz_if_eq (pc := 75) (tgt := 87) dX12_span_75 (by decide) (fun c => ?_) (fun c => ?_)
        · replace h := gz_ifp c h
          refine gz_iload_n (pc := 87) dX12_span_87 rfl ?_
          refine gz_iload (pc := 88) dX12_span_88 rfl ?_
          refine gn_X12_330 (pc := 90) dX12_span_90 (Nat.le_of_ble_eq_true rfl) rfl ?_
          refine gz_istore_n (pc := 93) dX12_span_93 (by decide) rfl (loc2 := [some (.inr (.inr (0, 47))), some (.inl x1), some (.inl x2), some (.inl (if v12 < x3 then v12 else x3)), some (.inl x4), some (.inl v12)]) rfl ?_
          refine gz_iinc (pc := 94) dX12_span_94 (x := x4) (v := x4 + 1) rfl (by rw [show Int32.ofInt 1 = 1 by decide]) (by decide) rfl (loc2 := [some (.inr (.inr (0, 47))), some (.inl x1), some (.inl x2), some (.inl (if v12 < x3 then v12 else x3)), some (.inl (x4 + 1)), some (.inl v12)]) rfl ?_
          refine gz_goto (pc := 97) (tgt := 28) dX12_span_97 (by decide) ?_
          exact gz_weak (loc2 := [some (.inr (.inr (0, 47))), some (.inl x1), some (.inl x2), some (.inl (if v12 < x3 then v12 else x3)), some (.inl (x4 + 1)), none]) (ih x1 x2 (if v12 < x3 then v12 else x3) (x4 + 1) v14.2.1 v14.2.2 h) (by repeat (first | exact trivial | refine ⟨rfl, ?_⟩))
        · replace h := gz_ifn c h
          refine gz_iload_n (pc := 78) dX12_span_78 rfl ?_
          refine gz_iload (pc := 79) dX12_span_79 rfl ?_
          refine gx_X12_310 (pc := 81) dX12_span_81 (Nat.le_of_ble_eq_true rfl) rfl ?_
          refine gz_goto (pc := 84) (tgt := 93) dX12_span_84 (by decide) ?_
          refine gz_istore_n (pc := 93) dX12_span_93 (by decide) rfl (loc2 := [some (.inr (.inr (0, 47))), some (.inl x1), some (.inl x2), some (.inl (if x3 < v12 then v12 else x3)), some (.inl x4), some (.inl v12)]) rfl ?_
          refine gz_iinc (pc := 94) dX12_span_94 (x := x4) (v := x4 + 1) rfl (by rw [show Int32.ofInt 1 = 1 by decide]) (by decide) rfl (loc2 := [some (.inr (.inr (0, 47))), some (.inl x1), some (.inl x2), some (.inl (if x3 < v12 then v12 else x3)), some (.inl (x4 + 1)), some (.inl v12)]) rfl ?_
          refine gz_goto (pc := 97) (tgt := 28) dX12_span_97 (by decide) ?_
          exact gz_weak (loc2 := [some (.inr (.inr (0, 47))), some (.inl x1), some (.inl x2), some (.inl (if x3 < v12 then v12 else x3)), some (.inl (x4 + 1)), none]) (ih x1 x2 (if x3 < v12 then v12 else x3) (x4 + 1) v14.2.1 v14.2.2 h) (by repeat (first | exact trivial | refine ⟨rfl, ?_⟩))
      · replace h := gz_ifn c h
        refine gz_iload (pc := 69) dX12_span_69 rfl ?_
        refine gz_goto (pc := 71) (tgt := 93) dX12_span_71 (by decide) ?_
        refine gz_istore_n (pc := 93) dX12_span_93 (by decide) rfl (loc2 := [some (.inr (.inr (0, 47))), some (.inl x1), some (.inl x2), some (.inl v12), some (.inl x4), some (.inl v12)]) rfl ?_
        refine gz_iinc (pc := 94) dX12_span_94 (x := x4) (v := x4 + 1) rfl (by rw [show Int32.ofInt 1 = 1 by decide]) (by decide) rfl (loc2 := [some (.inr (.inr (0, 47))), some (.inl x1), some (.inl x2), some (.inl v12), some (.inl (x4 + 1)), some (.inl v12)]) rfl ?_
        refine gz_goto (pc := 97) (tgt := 28) dX12_span_97 (by decide) ?_
        exact gz_weak (loc2 := [some (.inr (.inr (0, 47))), some (.inl x1), some (.inl x2), some (.inl v12), some (.inl (x4 + 1)), none]) (ih x1 x2 v12 (x4 + 1) v14.2.1 v14.2.2 h) (by repeat (first | exact trivial | refine ⟨rfl, ?_⟩))
def f_X12_span (φ : Nat) (a1 : Int32) (a2 : Int32) (I : gzIT) (J : gzJT) : Option (Int32 × gzIT × gzJT) := Option.bind (f_X12_noAhead a1) (fun v2 => Option.bind (f_X12_throwsIf v2 1 (gz_ui I 0 47 0 0) J) (fun v4 => if v4.1 = 0 then (Option.bind (f_X12_keepsAll φ v4.2.1 v4.2.2) (fun v6 => f_X12_span_28 φ φ a1 a2 (-1) 1 v6.2.1 v6.2.2)) else (some (0, v4.2.1, v4.2.2))))
set_option maxRecDepth 20000 in
theorem c_X12_span {g : gzG} {d φ : Nat} {a1 : Int32} {a2 : Int32} {I : gzIT} {J : gzJT} {r : Int32 × gzIT × gzJT} (h : f_X12_span φ a1 a2 I J = some r) : gzC g 0 (d + 10) mX12_span [.inr (.inr (0, 47)), .inl a1, .inl a2] (gzN, gzR0, I, J) (gzE (.ok (some (.inl r.1))) (gzN, gzR0, r.2.1, r.2.2)) := by
  unfold f_X12_span at h
  refine gzC_of (by decide +kernel) (Nat.le_of_ble_eq_true rfl) (loc := [some (.inr (.inr (0, 47))), some (.inl a1), some (.inl a2), none, none, none]) rfl ?_
  have z_0_47 : gzOk 0 47 gzN := gzOk_of (by decide)
  refine gz_aload_n (pc := 0) dX12_span_0 rfl ?_
  refine gz_iconst (pc := 1) dX12_span_1 (v := 0) (by decide) ?_
  refine gp_X12_3 (pc := 2) dX12_span_2 z_0_47 rfl ?_
  refine gz_aload_n (pc := 5) dX12_span_5 rfl ?_
  refine gz_iload_n (pc := 6) dX12_span_6 rfl ?_
  refine gz_S (zy := mX12_noAhead) (zc := 0) (pc := 7) [.inl a1] rfl dX12_span_7 lkX12_378 MsX12_noAhead rfl (Or.inl rfl) (fun h => h) (by exact Nat.le_of_ble_eq_true rfl) ?_
  obtain ⟨v2, e1, h⟩ := gz_bd h
  refine gz_useI (c_X12_noAhead e1) ?_
  refine gz_iconst (pc := 10) dX12_span_10 (v := 1) (by decide) ?_
  refine gz_V (zy := mX12_throwsIf) (zc := 0) (pc := 11) [.inl v2, .inl 1] rfl dX12_span_11 lkX12_269 MvX12_throwsIf rfl z_0_47 rfl rfl rfl (Or.inl rfl) (fun h => h) (by exact Nat.le_of_ble_eq_true rfl) ?_
  obtain ⟨v4, e3, h⟩ := gz_bd h
  refine gz_useI (c_X12_throwsIf e3) ?_
  refine gz_if_eq (pc := 14) (tgt := 19) dX12_span_14 (by decide) (fun c => ?_) (fun c => ?_)
  · replace h := gz_ifp c h
    refine gz_aload_n (pc := 19) dX12_span_19 rfl ?_
    refine gz_V (zy := mX12_keepsAll) (zc := 0) (pc := 20) [] rfl dX12_span_20 lkX12_371 MvX12_keepsAll rfl z_0_47 rfl rfl rfl (Or.inl rfl) (fun h => h) (by exact Nat.le_of_ble_eq_true rfl) ?_
    obtain ⟨v6, e5, h⟩ := gz_bd h
    refine gz_useV (c_X12_keepsAll e5) ?_
    refine gz_iconst (pc := 23) dX12_span_23 (v := (-1)) (by decide) ?_
    refine gz_istore_n (pc := 24) dX12_span_24 (by decide) rfl (loc2 := [some (.inr (.inr (0, 47))), some (.inl a1), some (.inl a2), some (.inl (-1)), none, none]) rfl ?_
    refine gz_iconst (pc := 25) dX12_span_25 (v := 1) (by decide) ?_
    refine gz_istore (pc := 26) dX12_span_26 (by decide) rfl (loc2 := [some (.inr (.inr (0, 47))), some (.inl a1), some (.inl a2), some (.inl (-1)), some (.inl 1), none]) rfl ?_
    exact p_X12_span_28 φ a1 a2 (-1) 1 v6.2.1 v6.2.2 h
  · replace h := gz_ifn c h
    refine gz_iconst (pc := 17) dX12_span_17 (v := 0) (by decide) ?_
    cases h; exact gz_iret (pc := 18) dX12_span_18 rfl ⟨rfl, rfl⟩
/-! X12_ofLog: ofLog -/
def f_X12_ofLog (I : gzIT) (a1 : Int32) (a2 : Int32) : Option Int32 := gzGd ((124 + (4 * a1)) + a2) 2062 (some (I 0 48 (((124 + (4 * a1)) + a2).toNatClampNeg)))
set_option maxRecDepth 20000 in
theorem c_X12_ofLog {g : gzG} {d : Nat} {a1 : Int32} {a2 : Int32} {I : gzIT} {J : gzJT} {r : Int32} (h : f_X12_ofLog I a1 a2 = some r) : gzC g 0 d mX12_ofLog [.inr (.inr (0, 47)), .inl a1, .inl a2] (gzN, gzR0, I, J) (gzE (.ok (some (.inl r))) (gzN, gzR0, I, J)) := by
  unfold f_X12_ofLog at h
  refine gzC_of (by decide +kernel) (Nat.le_of_ble_eq_true rfl) (loc := [some (.inr (.inr (0, 47))), some (.inl a1), some (.inl a2)]) rfl ?_
  have z_0_47 : gzOk 0 47 gzN := gzOk_of (by decide)
  have z_0_48 : gzOk 0 48 gzN := gzOk_of (by decide)
  refine gz_aload_n (pc := 0) dX12_ofLog_0 rfl ?_
  refine gr_X12_13 (pc := 1) dX12_ofLog_1 z_0_47 rfl ?_
  refine gz_bipush (pc := 4) dX12_ofLog_4 (v := 124) (by decide) ?_
  refine gz_iconst (pc := 6) dX12_ofLog_6 (v := 4) (by decide) ?_
  refine gz_iload_n (pc := 7) dX12_ofLog_7 rfl ?_
  refine gz_imul (pc := 8) dX12_ofLog_8  ?_
  refine gz_iadd (pc := 9) dX12_ofLog_9  ?_
  refine gz_iload_n (pc := 10) dX12_ofLog_10 rfl ?_
  refine gz_iadd (pc := 11) dX12_ofLog_11  ?_
  obtain ⟨b1, h⟩ := gz_gd h
  refine gz_iald2 (pc := 12) dX12_ofLog_12 (k := ((124 + (4 * a1)) + a2).toNatClampNeg) (v := I 0 48 (((124 + (4 * a1)) + a2).toNatClampNeg)) z_0_48 rfl b1 rfl rfl ?_
  cases h; exact gz_iret (pc := 13) dX12_ofLog_13 rfl ⟨rfl, rfl⟩
/-! X12_led: led -/
def gP_X12_led_36 (g : gzG) (d : Nat) (r : Int32 × gzIT × gzJT) (x1 : Int32) (x2 : Int32) (x3 : Int32) (x4 : Int32) (x5 : Int32) (I : gzIT) (J : gzJT) : Prop := gzX g 0 (d + 2) mX12_led 36 [some (.inr (.inr (0, 47))), some (.inl x1), some (.inl x2), some (.inl x3), some (.inl x4), some (.inl x5)] [] (gzN, gzR0, I, J) 0 (gzE (.ok (some (.inl r.1))) (gzN, gzR0, r.2.1, r.2.2))
def f_X12_led_36 (φ : Nat) : Nat → Int32 → Int32 → Int32 → Int32 → Int32 → gzIT → gzJT → Option (Int32 × gzIT × gzJT)
  | 0, _, _, _, _, _, _, _ => none
  | k + 1, x1, x2, x3, x4, x5, I, J => if x5 < 0 then (some ((if x2 = 0 then (x3 : Int32) else x4), I, J)) else (Option.bind (f_X12_ofLog I x5 1) (fun v7 => if v7 = x1 then (Option.bind (f_X12_ofLog I x5 0) (fun v9 => f_X12_led_36 φ k x1 x2 (x3 + 1) v9 (x5 + (-1)) I J)) else (f_X12_led_36 φ k x1 x2 x3 x4 (x5 + (-1)) I J)))
set_option maxRecDepth 20000 in
theorem p_X12_led_36 {g : gzG} {d φ : Nat} {r : Int32 × gzIT × gzJT} : ∀ (k : Nat) (x1 : Int32) (x2 : Int32) (x3 : Int32) (x4 : Int32) (x5 : Int32) (I : gzIT) (J : gzJT), f_X12_led_36 φ k x1 x2 x3 x4 x5 I J = some r → gP_X12_led_36 g d r x1 x2 x3 x4 x5 I J := by
  intro k; induction k with
  | zero => intro x1 x2 x3 x4 x5 I J h; cases h
  | succ k ih =>
    intro x1 x2 x3 x4 x5 I J h
    unfold f_X12_led_36 at h
    unfold gP_X12_led_36
    have z_0_47 : gzOk 0 47 gzN := gzOk_of (by decide)
    refine gz_iload (pc := 36) dX12_led_36 rfl ?_
    refine gz_if_lt (pc := 38) (tgt := 73) dX12_led_38 (by decide) (fun c => ?_) (fun c => ?_)
    · replace h := gz_ifp c h
      refine gz_iload_n (pc := 73) dX12_led_73 rfl ?_
      have kj5 : gzX g 0 (d + 2) mX12_led 83 [some (.inr (.inr (0, 47))), some (.inl x1), some (.inl x2), some (.inl x3), some (.inl x4), some (.inl x5)] ([.inl (if x2 = 0 then (x3 : Int32) else x4)]) (gzN, gzR0, I, J) 0 (gzE (.ok (some (.inl r.1))) (gzN, gzR0, r.2.1, r.2.2)) := by
        cases h; exact gz_iret (pc := 83) dX12_led_83 rfl ⟨rfl, rfl⟩
      refine gz_if_eq (pc := 74) (tgt := 82) dX12_led_74 (by decide) (fun c => ?_) (fun c => ?_)
      · rw [if_pos c] at kj5
        refine gz_iload_n (pc := 82) dX12_led_82 rfl ?_
        exact kj5
      · rw [if_neg c] at kj5
        refine gz_iload (pc := 77) dX12_led_77 rfl ?_
        refine gz_goto (pc := 79) (tgt := 83) dX12_led_79 (by decide) ?_
        exact kj5
    · replace h := gz_ifn c h
      refine gz_aload_n (pc := 41) dX12_led_41 rfl ?_
      refine gz_iload (pc := 42) dX12_led_42 rfl ?_
      refine gz_iconst (pc := 44) dX12_led_44 (v := 1) (by decide) ?_
      refine gz_V (zy := mX12_ofLog) (zc := 0) (pc := 45) [.inl x5, .inl 1] rfl dX12_led_45 lkX12_445 MvX12_ofLog rfl z_0_47 rfl rfl rfl (Or.inl rfl) (fun h => h) (by exact Nat.le_of_ble_eq_true rfl) ?_
      obtain ⟨v7, e6, h⟩ := gz_bd h
      refine gz_useI (c_X12_ofLog e6) ?_
      refine gz_iload_n (pc := 48) dX12_led_48 rfl ?_
      refine gz_ic_eq (pc := 49) (tgt := 55) dX12_led_49 (by decide) (fun c => ?_) (fun c => ?_)
      · replace h := gz_ifp c h
        refine gz_iinc (pc := 55) dX12_led_55 (x := x3) (v := x3 + 1) rfl (by rw [show Int32.ofInt 1 = 1 by decide]) (by decide) rfl (loc2 := [some (.inr (.inr (0, 47))), some (.inl x1), some (.inl x2), some (.inl (x3 + 1)), some (.inl x4), some (.inl x5)]) rfl ?_
        refine gz_aload_n (pc := 58) dX12_led_58 rfl ?_
        refine gz_iload (pc := 59) dX12_led_59 rfl ?_
        refine gz_iconst (pc := 61) dX12_led_61 (v := 0) (by decide) ?_
        refine gz_V (zy := mX12_ofLog) (zc := 0) (pc := 62) [.inl x5, .inl 0] rfl dX12_led_62 lkX12_445 MvX12_ofLog rfl z_0_47 rfl rfl rfl (Or.inl rfl) (fun h => h) (by exact Nat.le_of_ble_eq_true rfl) ?_
        obtain ⟨v9, e8, h⟩ := gz_bd h
        refine gz_useI (c_X12_ofLog e8) ?_
        refine gz_istore (pc := 65) dX12_led_65 (by decide) rfl (loc2 := [some (.inr (.inr (0, 47))), some (.inl x1), some (.inl x2), some (.inl (x3 + 1)), some (.inl v9), some (.inl x5)]) rfl ?_
        refine gz_iinc (pc := 67) dX12_led_67 (x := x5) (v := x5 + (-1)) rfl (by rw [show Int32.ofInt (-1) = (-1) by decide]) (by decide) rfl (loc2 := [some (.inr (.inr (0, 47))), some (.inl x1), some (.inl x2), some (.inl (x3 + 1)), some (.inl v9), some (.inl (x5 + (-1)))]) rfl ?_
        refine gz_goto (pc := 70) (tgt := 36) dX12_led_70 (by decide) ?_
        exact ih x1 x2 (x3 + 1) v9 (x5 + (-1)) I J h
      · replace h := gz_ifn c h
        refine gz_goto (pc := 52) (tgt := 67) dX12_led_52 (by decide) ?_
        refine gz_iinc (pc := 67) dX12_led_67 (x := x5) (v := x5 + (-1)) rfl (by rw [show Int32.ofInt (-1) = (-1) by decide]) (by decide) rfl (loc2 := [some (.inr (.inr (0, 47))), some (.inl x1), some (.inl x2), some (.inl x3), some (.inl x4), some (.inl (x5 + (-1)))]) rfl ?_
        refine gz_goto (pc := 70) (tgt := 36) dX12_led_70 (by decide) ?_
        exact ih x1 x2 x3 x4 (x5 + (-1)) I J h
def f_X12_led (φ : Nat) (a1 : Int32) (a2 : Int32) (I : gzIT) (J : gzJT) : Option (Int32 × gzIT × gzJT) := Option.bind (f_X12_noGrudge (gz_ui I 0 47 0 0) a1) (fun v2 => Option.bind (f_X12_throwsIf v2 1 (gz_ui I 0 47 0 0) J) (fun v4 => if v4.1 = 0 then (f_X12_led_36 φ φ a1 a2 0 (-1) ((v4.2.1 0 48 8) - 1) v4.2.1 v4.2.2) else (some (0, v4.2.1, v4.2.2))))
set_option maxRecDepth 20000 in
theorem c_X12_led {g : gzG} {d φ : Nat} {a1 : Int32} {a2 : Int32} {I : gzIT} {J : gzJT} {r : Int32 × gzIT × gzJT} (h : f_X12_led φ a1 a2 I J = some r) : gzC g 0 (d + 2) mX12_led [.inr (.inr (0, 47)), .inl a1, .inl a2] (gzN, gzR0, I, J) (gzE (.ok (some (.inl r.1))) (gzN, gzR0, r.2.1, r.2.2)) := by
  unfold f_X12_led at h
  refine gzC_of (by decide +kernel) (Nat.le_of_ble_eq_true rfl) (loc := [some (.inr (.inr (0, 47))), some (.inl a1), some (.inl a2), none, none, none]) rfl ?_
  have z_0_47 : gzOk 0 47 gzN := gzOk_of (by decide)
  have z_0_48 : gzOk 0 48 gzN := gzOk_of (by decide)
  refine gz_aload_n (pc := 0) dX12_led_0 rfl ?_
  refine gz_iconst (pc := 1) dX12_led_1 (v := 0) (by decide) ?_
  refine gp_X12_3 (pc := 2) dX12_led_2 z_0_47 rfl ?_
  refine gz_aload_n (pc := 5) dX12_led_5 rfl ?_
  refine gz_aload_n (pc := 6) dX12_led_6 rfl ?_
  refine gz_iload_n (pc := 7) dX12_led_7 rfl ?_
  refine gz_V (zy := mX12_noGrudge) (zc := 0) (pc := 8) [.inl a1] rfl dX12_led_8 lkX12_315 MvX12_noGrudge rfl z_0_47 rfl rfl rfl (Or.inl rfl) (fun h => h) (by exact Nat.le_of_ble_eq_true rfl) ?_
  obtain ⟨v2, e1, h⟩ := gz_bd h
  refine gz_useI (c_X12_noGrudge e1) ?_
  refine gz_iconst (pc := 11) dX12_led_11 (v := 1) (by decide) ?_
  refine gz_V (zy := mX12_throwsIf) (zc := 0) (pc := 12) [.inl v2, .inl 1] rfl dX12_led_12 lkX12_269 MvX12_throwsIf rfl z_0_47 rfl rfl rfl (Or.inl rfl) (fun h => h) (by exact Nat.le_of_ble_eq_true rfl) ?_
  obtain ⟨v4, e3, h⟩ := gz_bd h
  refine gz_useI (c_X12_throwsIf e3) ?_
  refine gz_if_eq (pc := 15) (tgt := 20) dX12_led_15 (by decide) (fun c => ?_) (fun c => ?_)
  · replace h := gz_ifp c h
    refine gz_iconst (pc := 20) dX12_led_20 (v := 0) (by decide) ?_
    refine gz_istore_n (pc := 21) dX12_led_21 (by decide) rfl (loc2 := [some (.inr (.inr (0, 47))), some (.inl a1), some (.inl a2), some (.inl 0), none, none]) rfl ?_
    refine gz_iconst (pc := 22) dX12_led_22 (v := (-1)) (by decide) ?_
    refine gz_istore (pc := 23) dX12_led_23 (by decide) rfl (loc2 := [some (.inr (.inr (0, 47))), some (.inl a1), some (.inl a2), some (.inl 0), some (.inl (-1)), none]) rfl ?_
    refine gz_aload_n (pc := 25) dX12_led_25 rfl ?_
    refine gr_X12_13 (pc := 26) dX12_led_26 z_0_47 rfl ?_
    refine gz_bipush (pc := 29) dX12_led_29 (v := 8) (by decide) ?_
    refine gz_iald2 (pc := 31) dX12_led_31 (k := 8) (v := v4.2.1 0 48 8) z_0_48 rfl (gz_vpd (by decide)) (by decide) rfl ?_
    refine gz_iconst (pc := 32) dX12_led_32 (v := 1) (by decide) ?_
    refine gz_isub (pc := 33) dX12_led_33  ?_
    refine gz_istore (pc := 34) dX12_led_34 (by decide) rfl (loc2 := [some (.inr (.inr (0, 47))), some (.inl a1), some (.inl a2), some (.inl 0), some (.inl (-1)), some (.inl ((v4.2.1 0 48 8) - 1))]) rfl ?_
    exact p_X12_led_36 φ a1 a2 0 (-1) ((v4.2.1 0 48 8) - 1) v4.2.1 v4.2.2 h
  · replace h := gz_ifn c h
    refine gz_iconst (pc := 18) dX12_led_18 (v := 0) (by decide) ?_
    cases h; exact gz_iret (pc := 19) dX12_led_19 rfl ⟨rfl, rfl⟩
/-! X12_log: log -/
def f_X12_log (a1 : Int32) (a2 : Int32) (I : gzIT) (J : gzJT) : Option (Int32 × gzIT × gzJT) := Option.bind (f_X12_in a2 0 3) (fun v2 => Option.bind (f_X12_throwsIf (if ¬ v2 = 0 then (0 : Int32) else 1) 1 (gz_ui I 0 47 0 0) J) (fun v5 => if v5.1 = 0 then (Option.bind (f_X12_in a1 0 ((v5.2.1 0 48 8) - 1)) (fun v7 => if v7 = 0 then (some ((-1), v5.2.1, v5.2.2)) else (Option.bind (f_X12_ofLog v5.2.1 a1 a2) (fun v9 => some (v9, v5.2.1, v5.2.2))))) else (some (0, v5.2.1, v5.2.2))))
set_option maxRecDepth 20000 in
theorem c_X12_log {g : gzG} {d : Nat} {a1 : Int32} {a2 : Int32} {I : gzIT} {J : gzJT} {r : Int32 × gzIT × gzJT} (h : f_X12_log a1 a2 I J = some r) : gzC g 0 (d + 1) mX12_log [.inr (.inr (0, 47)), .inl a1, .inl a2] (gzN, gzR0, I, J) (gzE (.ok (some (.inl r.1))) (gzN, gzR0, r.2.1, r.2.2)) := by
  unfold f_X12_log at h
  refine gzC_of (by decide +kernel) (Nat.le_of_ble_eq_true rfl) (loc := [some (.inr (.inr (0, 47))), some (.inl a1), some (.inl a2)]) rfl ?_
  have z_0_47 : gzOk 0 47 gzN := gzOk_of (by decide)
  have z_0_48 : gzOk 0 48 gzN := gzOk_of (by decide)
  refine gz_aload_n (pc := 0) dX12_log_0 rfl ?_
  refine gz_iconst (pc := 1) dX12_log_1 (v := 0) (by decide) ?_
  refine gp_X12_3 (pc := 2) dX12_log_2 z_0_47 rfl ?_
  refine gz_aload_n (pc := 5) dX12_log_5 rfl ?_
  refine gz_iload_n (pc := 6) dX12_log_6 rfl ?_
  refine gz_iconst (pc := 7) dX12_log_7 (v := 0) (by decide) ?_
  refine gz_iconst (pc := 8) dX12_log_8 (v := 3) (by decide) ?_
  refine gz_S (zy := mX12_in) (zc := 0) (pc := 9) [.inl a2, .inl 0, .inl 3] rfl dX12_log_9 lkX12_84 MsX12_in rfl (Or.inl rfl) (fun h => h) (by exact Nat.le_of_ble_eq_true rfl) ?_
  obtain ⟨v2, e1, h⟩ := gz_bd h
  refine gz_useI (c_X12_in e1) ?_
  have kj3 : gzX g 0 (d + 1) mX12_log 20 [some (.inr (.inr (0, 47))), some (.inl a1), some (.inl a2)] ([.inl (if ¬ v2 = 0 then (0 : Int32) else 1), .inr (.inr (0, 47))]) (gzN, gzR0, gz_ui I 0 47 0 0, J) 0 (gzE (.ok (some (.inl r.1))) (gzN, gzR0, r.2.1, r.2.2)) := by
    refine gz_iconst (pc := 20) dX12_log_20 (v := 1) (by decide) ?_
    refine gz_V (zy := mX12_throwsIf) (zc := 0) (pc := 21) [.inl (if ¬ v2 = 0 then (0 : Int32) else 1), .inl 1] rfl dX12_log_21 lkX12_269 MvX12_throwsIf rfl z_0_47 rfl rfl rfl (Or.inl rfl) (fun h => h) (by exact Nat.le_of_ble_eq_true rfl) ?_
    obtain ⟨v5, e4, h⟩ := gz_bd h
    refine gz_useI (c_X12_throwsIf e4) ?_
    refine gz_if_eq (pc := 24) (tgt := 29) dX12_log_24 (by decide) (fun c => ?_) (fun c => ?_)
    · replace h := gz_ifp c h
      refine gz_iload_n (pc := 29) dX12_log_29 rfl ?_
      refine gz_iconst (pc := 30) dX12_log_30 (v := 0) (by decide) ?_
      refine gz_aload_n (pc := 31) dX12_log_31 rfl ?_
      refine gr_X12_13 (pc := 32) dX12_log_32 z_0_47 rfl ?_
      refine gz_bipush (pc := 35) dX12_log_35 (v := 8) (by decide) ?_
      refine gz_iald2 (pc := 37) dX12_log_37 (k := 8) (v := v5.2.1 0 48 8) z_0_48 rfl (gz_vpd (by decide)) (by decide) rfl ?_
      refine gz_iconst (pc := 38) dX12_log_38 (v := 1) (by decide) ?_
      refine gz_isub (pc := 39) dX12_log_39  ?_
      refine gz_S (zy := mX12_in) (zc := 0) (pc := 40) [.inl a1, .inl 0, .inl ((v5.2.1 0 48 8) - 1)] rfl dX12_log_40 lkX12_84 MsX12_in rfl (Or.inl rfl) (fun h => h) (by exact Nat.le_of_ble_eq_true rfl) ?_
      obtain ⟨v7, e6, h⟩ := gz_bd h
      refine gz_useI (c_X12_in e6) ?_
      refine gz_if_eq (pc := 43) (tgt := 55) dX12_log_43 (by decide) (fun c => ?_) (fun c => ?_)
      · replace h := gz_ifp c h
        refine gz_iconst (pc := 55) dX12_log_55 (v := (-1)) (by decide) ?_
        cases h; exact gz_iret (pc := 56) dX12_log_56 rfl ⟨rfl, rfl⟩
      · replace h := gz_ifn c h
        refine gz_aload_n (pc := 46) dX12_log_46 rfl ?_
        refine gz_iload_n (pc := 47) dX12_log_47 rfl ?_
        refine gz_iload_n (pc := 48) dX12_log_48 rfl ?_
        refine gz_V (zy := mX12_ofLog) (zc := 0) (pc := 49) [.inl a1, .inl a2] rfl dX12_log_49 lkX12_445 MvX12_ofLog rfl z_0_47 rfl rfl rfl (Or.inl rfl) (fun h => h) (by exact Nat.le_of_ble_eq_true rfl) ?_
        obtain ⟨v9, e8, h⟩ := gz_bd h
        refine gz_useI (c_X12_ofLog e8) ?_
        refine gz_goto (pc := 52) (tgt := 56) dX12_log_52 (by decide) ?_
        cases h; exact gz_iret (pc := 56) dX12_log_56 rfl ⟨rfl, rfl⟩
    · replace h := gz_ifn c h
      refine gz_iconst (pc := 27) dX12_log_27 (v := 0) (by decide) ?_
      cases h; exact gz_iret (pc := 28) dX12_log_28 rfl ⟨rfl, rfl⟩
  refine gz_if_ne (pc := 12) (tgt := 19) dX12_log_12 (by decide) (fun c => ?_) (fun c => ?_)
  · rw [if_pos c] at kj3
    refine gz_iconst (pc := 19) dX12_log_19 (v := 0) (by decide) ?_
    exact kj3
  · rw [if_neg (show ¬ (¬ v2 = 0) from fun q => q c)] at kj3
    refine gz_iconst (pc := 15) dX12_log_15 (v := 1) (by decide) ?_
    refine gz_goto (pc := 16) (tgt := 20) dX12_log_16 (by decide) ?_
    exact kj3
/-! X12_seed: seed -/
def f_X12_seed (a1 : Int32) (I : gzIT) (J : gzJT) : Option (Int32 × gzIT × gzJT) := some ((I 0 48 9), gz_ui (gz_ui I 0 47 0 0) 0 48 9 a1, J)
set_option maxRecDepth 20000 in
theorem c_X12_seed {g : gzG} {d : Nat} {a1 : Int32} {I : gzIT} {J : gzJT} {r : Int32 × gzIT × gzJT} (h : f_X12_seed a1 I J = some r) : gzC g 0 d mX12_seed [.inr (.inr (0, 47)), .inl a1] (gzN, gzR0, I, J) (gzE (.ok (some (.inl r.1))) (gzN, gzR0, r.2.1, r.2.2)) := by
  unfold f_X12_seed at h
  refine gzC_of (by decide +kernel) (Nat.le_of_ble_eq_true rfl) (loc := [some (.inr (.inr (0, 47))), some (.inl a1), none]) rfl ?_
  have z_0_47 : gzOk 0 47 gzN := gzOk_of (by decide)
  have z_0_48 : gzOk 0 48 gzN := gzOk_of (by decide)
  refine gz_aload_n (pc := 0) dX12_seed_0 rfl ?_
  refine gz_iconst (pc := 1) dX12_seed_1 (v := 0) (by decide) ?_
  refine gp_X12_3 (pc := 2) dX12_seed_2 z_0_47 rfl ?_
  refine gz_aload_n (pc := 5) dX12_seed_5 rfl ?_
  refine gr_X12_13 (pc := 6) dX12_seed_6 z_0_47 rfl ?_
  refine gz_bipush (pc := 9) dX12_seed_9 (v := 9) (by decide) ?_
  refine gz_iald2 (pc := 11) dX12_seed_11 (k := 9) (v := I 0 48 9) z_0_48 rfl (gz_vpd (by decide)) (by decide) (gz_ui_o (by decide)) ?_
  refine gz_istore_n (pc := 12) dX12_seed_12 (by decide) rfl (loc2 := [some (.inr (.inr (0, 47))), some (.inl a1), some (.inl (I 0 48 9))]) rfl ?_
  refine gz_aload_n (pc := 13) dX12_seed_13 rfl ?_
  refine gr_X12_13 (pc := 14) dX12_seed_14 z_0_47 rfl ?_
  refine gz_bipush (pc := 17) dX12_seed_17 (v := 9) (by decide) ?_
  refine gz_iload_n (pc := 19) dX12_seed_19 rfl ?_
  refine gz_iast2 (pc := 20) dX12_seed_20 (k := 9) z_0_48 rfl (gz_vpd (by decide)) (by decide) ?_
  refine gz_iload_n (pc := 21) dX12_seed_21 rfl ?_
  cases h; exact gz_iret (pc := 22) dX12_seed_22 rfl ⟨rfl, rfl⟩
/-! X12_count: count -/
def gP_X12_count_9 (g : gzG) (d : Nat) (r : Int32 × gzIT × gzJT) (x1 : Int32) (x2 : Int32) (x3 : Int32) (I : gzIT) (J : gzJT) : Prop := gzX g 0 (d + 4) mX12_count 9 [some (.inr (.inr (0, 47))), some (.inl x1), some (.inl x2), some (.inl x3)] [] (gzN, gzR0, I, J) 0 (gzE (.ok (some (.inl r.1))) (gzN, gzR0, r.2.1, r.2.2))
def f_X12_count_9 (φ : Nat) : Nat → Int32 → Int32 → Int32 → gzIT → gzJT → Option (Int32 × gzIT × gzJT)
  | 0, _, _, _, _, _ => none
  | k + 1, x1, x2, x3, I, J => Option.bind (f_X12_families I) (fun v2 => if v2 ≤ x3 then (if x1 = 0 then (Option.bind (f_X12_families I) (fun v4 => some (v4, I, J))) else (if x1 = 1 then (Option.bind (f_X12_standing φ I) (fun v6 => some (v6, I, J))) else (if x1 = 2 then (some ((I 0 48 2), I, J)) else (if x1 = 3 then (if ¬ I 0 48 3 = 1 then (some ((-1), I, J)) else (some ((I 0 48 364), I, J))) else (if x1 = 4 then (some ((I 0 48 4), I, J)) else (if x1 = 5 then (some ((I 0 48 5), I, J)) else (if x1 = 6 then (some ((I 0 48 6), I, J)) else (if x1 = 7 then (some ((I 0 48 7), I, J)) else (if x1 = 8 then (Option.bind (f_X12_standing φ I) (fun v8 => Option.bind (f_X12_iceOf φ I v8) (fun v10 => some (v10, I, J)))) else (if x1 = 9 then (some (x2, I, J)) else (if x1 = 10 then (some ((I 0 48 8), I, J)) else (if x1 = 11 then (some ((I 0 47 7), I, J)) else (some ((-1), I, J)))))))))))))) else (Option.bind (f_X12_ofFamily I x3 2) (fun v12 => f_X12_count_9 φ k x1 (x2 + v12) (x3 + 1) I J)))
set_option maxRecDepth 20000 in
theorem p_X12_count_9 {g : gzG} {d φ : Nat} {r : Int32 × gzIT × gzJT} : ∀ (k : Nat) (x1 : Int32) (x2 : Int32) (x3 : Int32) (I : gzIT) (J : gzJT), f_X12_count_9 φ k x1 x2 x3 I J = some r → gP_X12_count_9 g d r x1 x2 x3 I J := by
  intro k; induction k with
  | zero => intro x1 x2 x3 I J h; cases h
  | succ k ih =>
    intro x1 x2 x3 I J h
    unfold f_X12_count_9 at h
    unfold gP_X12_count_9
    have z_0_47 : gzOk 0 47 gzN := gzOk_of (by decide)
    have z_0_48 : gzOk 0 48 gzN := gzOk_of (by decide)
    refine gz_iload_n (pc := 9) dX12_count_9 rfl ?_
    refine gz_aload_n (pc := 10) dX12_count_10 rfl ?_
    refine gz_V (zy := mX12_families) (zc := 0) (pc := 11) [] rfl dX12_count_11 lkX12_59 MvX12_families rfl z_0_47 rfl rfl rfl (Or.inl rfl) (fun h => h) (by exact Nat.le_of_ble_eq_true rfl) ?_
    obtain ⟨v2, e1, h⟩ := gz_bd h
    refine gz_useI (c_X12_families e1) ?_
    refine gz_ic_ge (pc := 14) (tgt := 32) dX12_count_14 (by decide) (fun c => ?_) (fun c => ?_)
    · replace h := gz_ifp c h
      refine gz_iload_n (pc := 32) dX12_count_32 rfl ?_
      by_cases c0 : x1 = 0
      · replace h := gz_ifp c0 h
        refine gz_swIn (pc := 33) (tgt := 96) (off := 63) dX12_count_33 (by rw [c0]; decide) (by rw [c0]; decide) (by rw [c0]; rfl) (by decide) ?_
        refine gz_aload_n (pc := 96) dX12_count_96 rfl ?_
        refine gz_V (zy := mX12_families) (zc := 0) (pc := 97) [] rfl dX12_count_97 lkX12_59 MvX12_families rfl z_0_47 rfl rfl rfl (Or.inl rfl) (fun h => h) (by exact Nat.le_of_ble_eq_true rfl) ?_
        obtain ⟨v4, e3, h⟩ := gz_bd h
        refine gz_useI (c_X12_families e3) ?_
        cases h; exact gz_iret (pc := 100) dX12_count_100 rfl ⟨rfl, rfl⟩
      replace h := gz_ifn c0 h
      by_cases c1 : x1 = 1
      · replace h := gz_ifp c1 h
        refine gz_swIn (pc := 33) (tgt := 101) (off := 68) dX12_count_33 (by rw [c1]; decide) (by rw [c1]; decide) (by rw [c1]; rfl) (by decide) ?_
        refine gz_aload_n (pc := 101) dX12_count_101 rfl ?_
        refine gz_V (zy := mX12_standing) (zc := 0) (pc := 102) [] rfl dX12_count_102 lkX12_291 MvX12_standing rfl z_0_47 rfl rfl rfl (Or.inl rfl) (fun h => h) (by exact Nat.le_of_ble_eq_true rfl) ?_
        obtain ⟨v6, e5, h⟩ := gz_bd h
        refine gz_useI (c_X12_standing e5) ?_
        cases h; exact gz_iret (pc := 105) dX12_count_105 rfl ⟨rfl, rfl⟩
      replace h := gz_ifn c1 h
      by_cases c2 : x1 = 2
      · replace h := gz_ifp c2 h
        refine gz_swIn (pc := 33) (tgt := 106) (off := 73) dX12_count_33 (by rw [c2]; decide) (by rw [c2]; decide) (by rw [c2]; rfl) (by decide) ?_
        refine gz_aload_n (pc := 106) dX12_count_106 rfl ?_
        refine gr_X12_13 (pc := 107) dX12_count_107 z_0_47 rfl ?_
        refine gz_iconst (pc := 110) dX12_count_110 (v := 2) (by decide) ?_
        refine gz_iald2 (pc := 111) dX12_count_111 (k := 2) (v := I 0 48 2) z_0_48 rfl (gz_vpd (by decide)) (by decide) rfl ?_
        cases h; exact gz_iret (pc := 112) dX12_count_112 rfl ⟨rfl, rfl⟩
      replace h := gz_ifn c2 h
      by_cases c3 : x1 = 3
      · replace h := gz_ifp c3 h
        refine gz_swIn (pc := 33) (tgt := 113) (off := 80) dX12_count_33 (by rw [c3]; decide) (by rw [c3]; decide) (by rw [c3]; rfl) (by decide) ?_
        refine gz_aload_n (pc := 113) dX12_count_113 rfl ?_
        refine gr_X12_13 (pc := 114) dX12_count_114 z_0_47 rfl ?_
        refine gz_iconst (pc := 117) dX12_count_117 (v := 3) (by decide) ?_
        refine gz_iald2 (pc := 118) dX12_count_118 (k := 3) (v := I 0 48 3) z_0_48 rfl (gz_vpd (by decide)) (by decide) rfl ?_
        refine gz_iconst (pc := 119) dX12_count_119 (v := 1) (by decide) ?_
        refine gz_ic_ne (pc := 120) (tgt := 134) dX12_count_120 (by decide) (fun c => ?_) (fun c => ?_)
        · replace h := gz_ifp c h
          refine gz_iconst (pc := 134) dX12_count_134 (v := (-1)) (by decide) ?_
          cases h; exact gz_iret (pc := 135) dX12_count_135 rfl ⟨rfl, rfl⟩
        · replace h := gz_ifn (fun q => q c) h
          refine gz_aload_n (pc := 123) dX12_count_123 rfl ?_
          refine gr_X12_13 (pc := 124) dX12_count_124 z_0_47 rfl ?_
          refine gz_sipush (pc := 127) dX12_count_127 (v := 364) (by decide) ?_
          refine gz_iald2 (pc := 130) dX12_count_130 (k := 364) (v := I 0 48 364) z_0_48 rfl (gz_vpd (by decide)) (by decide) rfl ?_
          refine gz_goto (pc := 131) (tgt := 135) dX12_count_131 (by decide) ?_
          cases h; exact gz_iret (pc := 135) dX12_count_135 rfl ⟨rfl, rfl⟩
      replace h := gz_ifn c3 h
      by_cases c4 : x1 = 4
      · replace h := gz_ifp c4 h
        refine gz_swIn (pc := 33) (tgt := 136) (off := 103) dX12_count_33 (by rw [c4]; decide) (by rw [c4]; decide) (by rw [c4]; rfl) (by decide) ?_
        refine gz_aload_n (pc := 136) dX12_count_136 rfl ?_
        refine gr_X12_13 (pc := 137) dX12_count_137 z_0_47 rfl ?_
        refine gz_iconst (pc := 140) dX12_count_140 (v := 4) (by decide) ?_
        refine gz_iald2 (pc := 141) dX12_count_141 (k := 4) (v := I 0 48 4) z_0_48 rfl (gz_vpd (by decide)) (by decide) rfl ?_
        cases h; exact gz_iret (pc := 142) dX12_count_142 rfl ⟨rfl, rfl⟩
      replace h := gz_ifn c4 h
      by_cases c5 : x1 = 5
      · replace h := gz_ifp c5 h
        refine gz_swIn (pc := 33) (tgt := 143) (off := 110) dX12_count_33 (by rw [c5]; decide) (by rw [c5]; decide) (by rw [c5]; rfl) (by decide) ?_
        refine gz_aload_n (pc := 143) dX12_count_143 rfl ?_
        refine gr_X12_13 (pc := 144) dX12_count_144 z_0_47 rfl ?_
        refine gz_iconst (pc := 147) dX12_count_147 (v := 5) (by decide) ?_
        refine gz_iald2 (pc := 148) dX12_count_148 (k := 5) (v := I 0 48 5) z_0_48 rfl (gz_vpd (by decide)) (by decide) rfl ?_
        cases h; exact gz_iret (pc := 149) dX12_count_149 rfl ⟨rfl, rfl⟩
      replace h := gz_ifn c5 h
      by_cases c6 : x1 = 6
      · replace h := gz_ifp c6 h
        refine gz_swIn (pc := 33) (tgt := 150) (off := 117) dX12_count_33 (by rw [c6]; decide) (by rw [c6]; decide) (by rw [c6]; rfl) (by decide) ?_
        refine gz_aload_n (pc := 150) dX12_count_150 rfl ?_
        refine gr_X12_13 (pc := 151) dX12_count_151 z_0_47 rfl ?_
        refine gz_bipush (pc := 154) dX12_count_154 (v := 6) (by decide) ?_
        refine gz_iald2 (pc := 156) dX12_count_156 (k := 6) (v := I 0 48 6) z_0_48 rfl (gz_vpd (by decide)) (by decide) rfl ?_
        cases h; exact gz_iret (pc := 157) dX12_count_157 rfl ⟨rfl, rfl⟩
      replace h := gz_ifn c6 h
      by_cases c7 : x1 = 7
      · replace h := gz_ifp c7 h
        refine gz_swIn (pc := 33) (tgt := 158) (off := 125) dX12_count_33 (by rw [c7]; decide) (by rw [c7]; decide) (by rw [c7]; rfl) (by decide) ?_
        refine gz_aload_n (pc := 158) dX12_count_158 rfl ?_
        refine gr_X12_13 (pc := 159) dX12_count_159 z_0_47 rfl ?_
        refine gz_bipush (pc := 162) dX12_count_162 (v := 7) (by decide) ?_
        refine gz_iald2 (pc := 164) dX12_count_164 (k := 7) (v := I 0 48 7) z_0_48 rfl (gz_vpd (by decide)) (by decide) rfl ?_
        cases h; exact gz_iret (pc := 165) dX12_count_165 rfl ⟨rfl, rfl⟩
      replace h := gz_ifn c7 h
      by_cases c8 : x1 = 8
      · replace h := gz_ifp c8 h
        refine gz_swIn (pc := 33) (tgt := 166) (off := 133) dX12_count_33 (by rw [c8]; decide) (by rw [c8]; decide) (by rw [c8]; rfl) (by decide) ?_
        refine gz_aload_n (pc := 166) dX12_count_166 rfl ?_
        refine gz_aload_n (pc := 167) dX12_count_167 rfl ?_
        refine gz_V (zy := mX12_standing) (zc := 0) (pc := 168) [] rfl dX12_count_168 lkX12_291 MvX12_standing rfl z_0_47 rfl rfl rfl (Or.inl rfl) (fun h => h) (by exact Nat.le_of_ble_eq_true rfl) ?_
        obtain ⟨v8, e7, h⟩ := gz_bd h
        refine gz_useI (c_X12_standing e7) ?_
        refine gz_V (zy := mX12_iceOf) (zc := 0) (pc := 171) [.inl v8] rfl dX12_count_171 lkX12_294 MvX12_iceOf rfl z_0_47 rfl rfl rfl (Or.inl rfl) (fun h => h) (by exact Nat.le_of_ble_eq_true rfl) ?_
        obtain ⟨v10, e9, h⟩ := gz_bd h
        refine gz_useI (c_X12_iceOf e9) ?_
        cases h; exact gz_iret (pc := 174) dX12_count_174 rfl ⟨rfl, rfl⟩
      replace h := gz_ifn c8 h
      by_cases c9 : x1 = 9
      · replace h := gz_ifp c9 h
        refine gz_swIn (pc := 33) (tgt := 175) (off := 142) dX12_count_33 (by rw [c9]; decide) (by rw [c9]; decide) (by rw [c9]; rfl) (by decide) ?_
        refine gz_iload_n (pc := 175) dX12_count_175 rfl ?_
        cases h; exact gz_iret (pc := 176) dX12_count_176 rfl ⟨rfl, rfl⟩
      replace h := gz_ifn c9 h
      by_cases c10 : x1 = 10
      · replace h := gz_ifp c10 h
        refine gz_swIn (pc := 33) (tgt := 177) (off := 144) dX12_count_33 (by rw [c10]; decide) (by rw [c10]; decide) (by rw [c10]; rfl) (by decide) ?_
        refine gz_aload_n (pc := 177) dX12_count_177 rfl ?_
        refine gr_X12_13 (pc := 178) dX12_count_178 z_0_47 rfl ?_
        refine gz_bipush (pc := 181) dX12_count_181 (v := 8) (by decide) ?_
        refine gz_iald2 (pc := 183) dX12_count_183 (k := 8) (v := I 0 48 8) z_0_48 rfl (gz_vpd (by decide)) (by decide) rfl ?_
        cases h; exact gz_iret (pc := 184) dX12_count_184 rfl ⟨rfl, rfl⟩
      replace h := gz_ifn c10 h
      by_cases c11 : x1 = 11
      · replace h := gz_ifp c11 h
        refine gz_swIn (pc := 33) (tgt := 185) (off := 152) dX12_count_33 (by rw [c11]; decide) (by rw [c11]; decide) (by rw [c11]; rfl) (by decide) ?_
        refine gz_aload_n (pc := 185) dX12_count_185 rfl ?_
        refine gi_X12_56 (pc := 186) dX12_count_186 (v := I 0 47 7) z_0_47 rfl rfl ?_
        cases h; exact gz_iret (pc := 189) dX12_count_189 rfl ⟨rfl, rfl⟩
      replace h := gz_ifn c11 h
      refine gz_swOut (pc := 33) (tgt := 190) dX12_count_33 (gz_sw0_12 c0 c1 c2 c3 c4 c5 c6 c7 c8 c9 c10 c11) (by decide) ?_
      refine gz_iconst (pc := 190) dX12_count_190 (v := (-1)) (by decide) ?_
      cases h; exact gz_iret (pc := 191) dX12_count_191 rfl ⟨rfl, rfl⟩
    · replace h := gz_ifn c h
      refine gz_iload_n (pc := 17) dX12_count_17 rfl ?_
      refine gz_aload_n (pc := 18) dX12_count_18 rfl ?_
      refine gz_iload_n (pc := 19) dX12_count_19 rfl ?_
      refine gz_iconst (pc := 20) dX12_count_20 (v := 2) (by decide) ?_
      refine gz_V (zy := mX12_ofFamily) (zc := 0) (pc := 21) [.inl x3, .inl 2] rfl dX12_count_21 lkX12_272 MvX12_ofFamily rfl z_0_47 rfl rfl rfl (Or.inl rfl) (fun h => h) (by exact Nat.le_of_ble_eq_true rfl) ?_
      obtain ⟨v12, e11, h⟩ := gz_bd h
      refine gz_useI (c_X12_ofFamily e11) ?_
      refine gz_iadd (pc := 24) dX12_count_24  ?_
      refine gz_istore_n (pc := 25) dX12_count_25 (by decide) rfl (loc2 := [some (.inr (.inr (0, 47))), some (.inl x1), some (.inl (x2 + v12)), some (.inl x3)]) rfl ?_
      refine gz_iinc (pc := 26) dX12_count_26 (x := x3) (v := x3 + 1) rfl (by rw [show Int32.ofInt 1 = 1 by decide]) (by decide) rfl (loc2 := [some (.inr (.inr (0, 47))), some (.inl x1), some (.inl (x2 + v12)), some (.inl (x3 + 1))]) rfl ?_
      refine gz_goto (pc := 29) (tgt := 9) dX12_count_29 (by decide) ?_
      exact ih x1 (x2 + v12) (x3 + 1) I J h
def f_X12_count (φ : Nat) (a1 : Int32) (I : gzIT) (J : gzJT) : Option (Int32 × gzIT × gzJT) := f_X12_count_9 φ φ a1 0 0 (gz_ui I 0 47 0 0) J
set_option maxRecDepth 20000 in
theorem c_X12_count {g : gzG} {d φ : Nat} {a1 : Int32} {I : gzIT} {J : gzJT} {r : Int32 × gzIT × gzJT} (h : f_X12_count φ a1 I J = some r) : gzC g 0 (d + 4) mX12_count [.inr (.inr (0, 47)), .inl a1] (gzN, gzR0, I, J) (gzE (.ok (some (.inl r.1))) (gzN, gzR0, r.2.1, r.2.2)) := by
  unfold f_X12_count at h
  refine gzC_of (by decide +kernel) (Nat.le_of_ble_eq_true rfl) (loc := [some (.inr (.inr (0, 47))), some (.inl a1), none, none]) rfl ?_
  have z_0_47 : gzOk 0 47 gzN := gzOk_of (by decide)
  refine gz_aload_n (pc := 0) dX12_count_0 rfl ?_
  refine gz_iconst (pc := 1) dX12_count_1 (v := 0) (by decide) ?_
  refine gp_X12_3 (pc := 2) dX12_count_2 z_0_47 rfl ?_
  refine gz_iconst (pc := 5) dX12_count_5 (v := 0) (by decide) ?_
  refine gz_istore_n (pc := 6) dX12_count_6 (by decide) rfl (loc2 := [some (.inr (.inr (0, 47))), some (.inl a1), some (.inl 0), none]) rfl ?_
  refine gz_iconst (pc := 7) dX12_count_7 (v := 0) (by decide) ?_
  refine gz_istore_n (pc := 8) dX12_count_8 (by decide) rfl (loc2 := [some (.inr (.inr (0, 47))), some (.inl a1), some (.inl 0), some (.inl 0)]) rfl ?_
  exact p_X12_count_9 φ a1 0 0 (gz_ui I 0 47 0 0) J h
