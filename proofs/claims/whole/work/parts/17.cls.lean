/-! the methods of the class as functions: f_M is what M answers, c_M that it does; by wip/whole/mk_fun.py -/
/-! X11_copy: copy -/
def f_X11_copy (ta1 : Nat) (oa1 : Nat) (na1 : Nat) (ta2 : Nat) (oa2 : Nat) (na2 : Nat) (I : gzIT) (J : gzJT) : Option (Unit × gzIT × gzJT) := gzCp 0 0 (if Int32.ofNat na2 < Int32.ofNat na1 then Int32.ofNat na2 else Int32.ofNat na1) na1 na2 (some ((), gz_uw I ta2 oa2 (va_cpy (I ta1 oa1) (I ta2 oa2) ((0 : Int32).toNatClampNeg) ((0 : Int32).toNatClampNeg) (if Int32.ofNat na2 < Int32.ofNat na1 then Int32.ofNat na2 else Int32.ofNat na1).toNatClampNeg), J))
set_option maxRecDepth 20000 in
theorem c_X11_copy {g : gzG} {d : Nat} {ta1 : Nat} {oa1 : Nat} {na1 : Nat} {ta2 : Nat} {oa2 : Nat} {na2 : Nat} (va1 : gzOk ta1 oa1 gzN) (ka1 : gzKd oa1 = .inr (.int, na1)) (va2 : gzOk ta2 oa2 gzN) (ka2 : gzKd oa2 = .inr (.int, na2)) {I : gzIT} {J : gzJT} {r : Unit × gzIT × gzJT} (h : f_X11_copy ta1 oa1 na1 ta2 oa2 na2 I J = some r) : gzC g 0 d mX11_copy [.inr (.inr (ta1, oa1)), .inr (.inr (ta2, oa2))] (gzN, gzR0, I, J) (gzE (.ok none) (gzN, gzR0, r.2.1, r.2.2)) := by
  unfold f_X11_copy at h
  refine gzC_of (by decide +kernel) (Nat.le_of_ble_eq_true rfl) (loc := [some (.inr (.inr (ta1, oa1))), some (.inr (.inr (ta2, oa2)))]) rfl ?_
  refine gz_aload_n (pc := 0) dX11_copy_0 rfl ?_
  refine gz_iconst (pc := 1) dX11_copy_1 (v := 0) (by decide) ?_
  refine gz_aload_n (pc := 2) dX11_copy_2 rfl ?_
  refine gz_iconst (pc := 3) dX11_copy_3 (v := 0) (by decide) ?_
  refine gz_aload_n (pc := 4) dX11_copy_4 rfl ?_
  refine gz_alen (pc := 5) dX11_copy_5 va1 ka1 (by decide) rfl ?_
  refine gz_aload_n (pc := 6) dX11_copy_6 rfl ?_
  refine gz_alen (pc := 7) dX11_copy_7 va2 ka2 (by decide) rfl ?_
  refine gn_X11_290 (pc := 8) dX11_copy_8 (Nat.le_of_ble_eq_true rfl) rfl ?_
  obtain ⟨⟨b11, b12, b13, b14, b15⟩, h⟩ := gz_cp h
  refine gz_copy (pc := 11) dX11_copy_11 va1 va2 ka1 ka2 b11 b12 b13 b14 b15 gk_acp.1 gk_acp.2 gk_acn.1 gk_acn.2 gk_acs.1 gk_acs.2 gk_sys.1 gk_sys.2 (by exact Nat.le_of_ble_eq_true rfl) ?_
  cases h; exact gz_vret (pc := 14) dX11_copy_14 rfl ⟨rfl, rfl⟩
/-! X0_copyFrom: copyFrom -/
def f_X0_copyFrom (t : Nat) (t1 : Nat) (I : gzIT) (J : gzJT) : Option (Unit × gzIT × gzJT) := Option.bind (f_X11_copy t1 2 6 t 2 6 I J) (fun v2 => Option.bind (f_X11_copy t1 3 6 t 3 6 v2.2.1 v2.2.2) (fun v4 => Option.bind (f_X11_copy t1 4 6 t 4 6 v4.2.1 v4.2.2) (fun v6 => Option.bind (f_X11_copy t1 5 6 t 5 6 v6.2.1 v6.2.2) (fun v8 => some ((), gz_ui v8.2.1 t 1 5 (v8.2.1 t1 1 5), v8.2.2)))))
set_option maxRecDepth 20000 in
theorem c_X0_copyFrom {g : gzG} {d : Nat} {t : Nat} {t1 : Nat} (ht : t < 15) (ht1 : t1 < 15) {I : gzIT} {J : gzJT} {r : Unit × gzIT × gzJT} (h : f_X0_copyFrom t t1 I J = some r) : gzC g 0 (d + 1) mX0_copyFrom [.inr (.inr (t, 1)), .inr (.inr (t1, 1))] (gzN, gzR0, I, J) (gzE (.ok none) (gzN, gzR0, r.2.1, r.2.2)) := by
  unfold f_X0_copyFrom at h
  refine gzC_of (by decide +kernel) (Nat.le_of_ble_eq_true rfl) (loc := [some (.inr (.inr (t, 1))), some (.inr (.inr (t1, 1)))]) rfl ?_
  have z_t1_1 : gzOk t1 1 gzN := gzOk_of ht1
  have z_t_1 : gzOk t 1 gzN := gzOk_of ht
  have z_t1_2 : gzOk t1 2 gzN := gzOk_of ht1
  have z_t_2 : gzOk t 2 gzN := gzOk_of ht
  have z_t1_3 : gzOk t1 3 gzN := gzOk_of ht1
  have z_t_3 : gzOk t 3 gzN := gzOk_of ht
  have z_t1_4 : gzOk t1 4 gzN := gzOk_of ht1
  have z_t_4 : gzOk t 4 gzN := gzOk_of ht
  have z_t1_5 : gzOk t1 5 gzN := gzOk_of ht1
  have z_t_5 : gzOk t 5 gzN := gzOk_of ht
  refine gz_aload_n (pc := 0) dX0_copyFrom_0 rfl ?_
  refine gr_X0_9 (pc := 1) dX0_copyFrom_1 z_t1_1 rfl ?_
  refine gz_aload_n (pc := 4) dX0_copyFrom_4 rfl ?_
  refine gr_X0_9 (pc := 5) dX0_copyFrom_5 z_t_1 rfl ?_
  refine gz_SN (zy := mX11_copy) (zc := 0) (pc := 8) [.inr (.inr (t1, 2)), .inr (.inr (t, 2))] rfl dX0_copyFrom_8 lnX0_31 MsX11_copy rfl (Or.inl rfl) (fun h => h) (by exact Nat.le_of_ble_eq_true rfl) ?_
  obtain ⟨v2, e1, h⟩ := gz_bd h
  refine gz_useV (c_X11_copy z_t1_2 rfl z_t_2 rfl e1) ?_
  refine gz_aload_n (pc := 11) dX0_copyFrom_11 rfl ?_
  refine gr_X0_15 (pc := 12) dX0_copyFrom_12 z_t1_1 rfl ?_
  refine gz_aload_n (pc := 15) dX0_copyFrom_15 rfl ?_
  refine gr_X0_15 (pc := 16) dX0_copyFrom_16 z_t_1 rfl ?_
  refine gz_SN (zy := mX11_copy) (zc := 0) (pc := 19) [.inr (.inr (t1, 3)), .inr (.inr (t, 3))] rfl dX0_copyFrom_19 lnX0_31 MsX11_copy rfl (Or.inl rfl) (fun h => h) (by exact Nat.le_of_ble_eq_true rfl) ?_
  obtain ⟨v4, e3, h⟩ := gz_bd h
  refine gz_useV (c_X11_copy z_t1_3 rfl z_t_3 rfl e3) ?_
  refine gz_aload_n (pc := 22) dX0_copyFrom_22 rfl ?_
  refine gr_X0_18 (pc := 23) dX0_copyFrom_23 z_t1_1 rfl ?_
  refine gz_aload_n (pc := 26) dX0_copyFrom_26 rfl ?_
  refine gr_X0_18 (pc := 27) dX0_copyFrom_27 z_t_1 rfl ?_
  refine gz_SN (zy := mX11_copy) (zc := 0) (pc := 30) [.inr (.inr (t1, 4)), .inr (.inr (t, 4))] rfl dX0_copyFrom_30 lnX0_31 MsX11_copy rfl (Or.inl rfl) (fun h => h) (by exact Nat.le_of_ble_eq_true rfl) ?_
  obtain ⟨v6, e5, h⟩ := gz_bd h
  refine gz_useV (c_X11_copy z_t1_4 rfl z_t_4 rfl e5) ?_
  refine gz_aload_n (pc := 33) dX0_copyFrom_33 rfl ?_
  refine gr_X0_21 (pc := 34) dX0_copyFrom_34 z_t1_1 rfl ?_
  refine gz_aload_n (pc := 37) dX0_copyFrom_37 rfl ?_
  refine gr_X0_21 (pc := 38) dX0_copyFrom_38 z_t_1 rfl ?_
  refine gz_SN (zy := mX11_copy) (zc := 0) (pc := 41) [.inr (.inr (t1, 5)), .inr (.inr (t, 5))] rfl dX0_copyFrom_41 lnX0_31 MsX11_copy rfl (Or.inl rfl) (fun h => h) (by exact Nat.le_of_ble_eq_true rfl) ?_
  obtain ⟨v8, e7, h⟩ := gz_bd h
  refine gz_useV (c_X11_copy z_t1_5 rfl z_t_5 rfl e7) ?_
  refine gz_aload_n (pc := 44) dX0_copyFrom_44 rfl ?_
  refine gz_aload_n (pc := 45) dX0_copyFrom_45 rfl ?_
  refine gi_X0_27 (pc := 46) dX0_copyFrom_46 (v := v8.2.1 t1 1 5) z_t1_1 rfl rfl ?_
  refine gp_X0_27 (pc := 49) dX0_copyFrom_49 z_t_1 rfl ?_
  cases h; exact gz_vret (pc := 52) dX0_copyFrom_52 rfl ⟨rfl, rfl⟩
/-! X0_add: add -/
def f_X0_add (t : Nat) (a1 : Int32) (a2 : Int32) (a3 : Int32) (I : gzIT) (J : gzJT) : Option (Unit × gzIT × gzJT) := if 6 ≤ I t 1 5 then (some ((), I, J)) else (gzGd (I t 1 5) 6 (some ((), gz_ui (gz_ui (gz_ui (gz_ui (gz_ui I t 2 ((I t 1 5).toNatClampNeg) a1) t 3 ((I t 1 5).toNatClampNeg) a2) t 4 ((I t 1 5).toNatClampNeg) a3) t 5 ((I t 1 5).toNatClampNeg) 0) t 1 5 ((I t 1 5) + 1), J)))
set_option maxRecDepth 20000 in
theorem c_X0_add {g : gzG} {d : Nat} {t : Nat} (ht : t < 15) {a1 : Int32} {a2 : Int32} {a3 : Int32} {I : gzIT} {J : gzJT} {r : Unit × gzIT × gzJT} (h : f_X0_add t a1 a2 a3 I J = some r) : gzC g 0 d mX0_add [.inr (.inr (t, 1)), .inl a1, .inl a2, .inl a3] (gzN, gzR0, I, J) (gzE (.ok none) (gzN, gzR0, r.2.1, r.2.2)) := by
  unfold f_X0_add at h
  refine gzC_of (by decide +kernel) (Nat.le_of_ble_eq_true rfl) (loc := [some (.inr (.inr (t, 1))), some (.inl a1), some (.inl a2), some (.inl a3)]) rfl ?_
  have z_t_1 : gzOk t 1 gzN := gzOk_of ht
  have z_t_2 : gzOk t 2 gzN := gzOk_of ht
  have z_t_3 : gzOk t 3 gzN := gzOk_of ht
  have z_t_4 : gzOk t 4 gzN := gzOk_of ht
  have z_t_5 : gzOk t 5 gzN := gzOk_of ht
  refine gz_aload_n (pc := 0) dX0_add_0 rfl ?_
  refine gi_X0_27 (pc := 1) dX0_add_1 (v := I t 1 5) z_t_1 rfl rfl ?_
  refine gz_bipush (pc := 4) dX0_add_4 (v := 6) (by decide) ?_
  refine gz_ic_ge (pc := 6) (tgt := 59) dX0_add_6 (by decide) (fun c => ?_) (fun c => ?_)
  · replace h := gz_ifp c h
    cases h; exact gz_vret (pc := 59) dX0_add_59 rfl ⟨rfl, rfl⟩
  · replace h := gz_ifn c h
    refine gz_aload_n (pc := 9) dX0_add_9 rfl ?_
    refine gr_X0_9 (pc := 10) dX0_add_10 z_t_1 rfl ?_
    refine gz_aload_n (pc := 13) dX0_add_13 rfl ?_
    refine gi_X0_27 (pc := 14) dX0_add_14 (v := I t 1 5) z_t_1 rfl rfl ?_
    refine gz_iload_n (pc := 17) dX0_add_17 rfl ?_
    obtain ⟨b1, h⟩ := gz_gd h
    refine gz_iast2 (pc := 18) dX0_add_18 (k := (I t 1 5).toNatClampNeg) z_t_2 rfl b1 rfl ?_
    refine gz_aload_n (pc := 19) dX0_add_19 rfl ?_
    refine gr_X0_15 (pc := 20) dX0_add_20 z_t_1 rfl ?_
    refine gz_aload_n (pc := 23) dX0_add_23 rfl ?_
    refine gi_X0_27 (pc := 24) dX0_add_24 (v := I t 1 5) z_t_1 (gz_ui_o (by decide)) rfl ?_
    refine gz_iload_n (pc := 27) dX0_add_27 rfl ?_
    refine gz_iast2 (pc := 28) dX0_add_28 (k := (I t 1 5).toNatClampNeg) z_t_3 rfl b1 rfl ?_
    refine gz_aload_n (pc := 29) dX0_add_29 rfl ?_
    refine gr_X0_18 (pc := 30) dX0_add_30 z_t_1 rfl ?_
    refine gz_aload_n (pc := 33) dX0_add_33 rfl ?_
    refine gi_X0_27 (pc := 34) dX0_add_34 (v := I t 1 5) z_t_1 ((gz_ui_o (by decide)).trans (gz_ui_o (by decide))) rfl ?_
    refine gz_iload_n (pc := 37) dX0_add_37 rfl ?_
    refine gz_iast2 (pc := 38) dX0_add_38 (k := (I t 1 5).toNatClampNeg) z_t_4 rfl b1 rfl ?_
    refine gz_aload_n (pc := 39) dX0_add_39 rfl ?_
    refine gr_X0_21 (pc := 40) dX0_add_40 z_t_1 rfl ?_
    refine gz_aload_n (pc := 43) dX0_add_43 rfl ?_
    refine gi_X0_27 (pc := 44) dX0_add_44 (v := I t 1 5) z_t_1 ((gz_ui_o (by decide)).trans ((gz_ui_o (by decide)).trans (gz_ui_o (by decide)))) rfl ?_
    refine gz_iconst (pc := 47) dX0_add_47 (v := 0) (by decide) ?_
    refine gz_iast2 (pc := 48) dX0_add_48 (k := (I t 1 5).toNatClampNeg) z_t_5 rfl b1 rfl ?_
    refine gz_aload_n (pc := 49) dX0_add_49 rfl ?_
    refine gz_dupR (pc := 50) dX0_add_50  ?_
    refine gi_X0_27 (pc := 51) dX0_add_51 (v := I t 1 5) z_t_1 ((gz_ui_o (by decide)).trans ((gz_ui_o (by decide)).trans ((gz_ui_o (by decide)).trans (gz_ui_o (by decide))))) rfl ?_
    refine gz_iconst (pc := 54) dX0_add_54 (v := 1) (by decide) ?_
    refine gz_iadd (pc := 55) dX0_add_55  ?_
    refine gp_X0_27 (pc := 56) dX0_add_56 z_t_1 rfl ?_
    cases h; exact gz_vret (pc := 59) dX0_add_59 rfl ⟨rfl, rfl⟩
/-! X0_eat: eat -/
def gP_X0_eat_2 (g : gzG) (t : Nat) (d : Nat) (r : Unit × gzIT × gzJT) (x1 : Int32) (I : gzIT) (J : gzJT) : Prop := gzX g 0 d mX0_eat 2 [some (.inr (.inr (t, 1))), some (.inl x1)] [] (gzN, gzR0, I, J) 0 (gzE (.ok none) (gzN, gzR0, r.2.1, r.2.2))
def f_X0_eat_2 (φ : Nat) (t : Nat) : Nat → Int32 → gzIT → gzJT → Option (Unit × gzIT × gzJT)
  | 0, _, _, _ => none
  | k + 1, x1, I, J => if I t 1 5 ≤ x1 then (some ((), I, J)) else (gzGd (x1) 6 (if I t 4 x1.toNatClampNeg < I t 3 x1.toNatClampNeg then (f_X0_eat_2 φ t k (x1 + 1) (gz_ui (gz_ui I t 4 x1.toNatClampNeg 0) t 5 x1.toNatClampNeg (if (I t 5 x1.toNatClampNeg) + 1 < 99 then (I t 5 x1.toNatClampNeg) + 1 else 99)) J) else (f_X0_eat_2 φ t k (x1 + 1) (gz_ui I t 4 x1.toNatClampNeg ((I t 4 x1.toNatClampNeg) - (I t 3 x1.toNatClampNeg))) J)))
set_option maxRecDepth 20000 in
theorem p_X0_eat_2 {g : gzG} {d φ : Nat} {t : Nat} (ht : t < 15) {r : Unit × gzIT × gzJT} : ∀ (k : Nat) (x1 : Int32) (I : gzIT) (J : gzJT), f_X0_eat_2 φ t k x1 I J = some r → gP_X0_eat_2 g t d r x1 I J := by
  intro k; induction k with
  | zero => intro x1 I J h; cases h
  | succ k ih =>
    intro x1 I J h
    unfold f_X0_eat_2 at h
    unfold gP_X0_eat_2
    have z_t_1 : gzOk t 1 gzN := gzOk_of ht
    have z_t_4 : gzOk t 4 gzN := gzOk_of ht
    have z_t_3 : gzOk t 3 gzN := gzOk_of ht
    have z_t_5 : gzOk t 5 gzN := gzOk_of ht
    refine gz_iload_n (pc := 2) dX0_eat_2 rfl ?_
    refine gz_aload_n (pc := 3) dX0_eat_3 rfl ?_
    refine gi_X0_27 (pc := 4) dX0_eat_4 (v := I t 1 5) z_t_1 rfl rfl ?_
    refine gz_ic_ge (pc := 7) (tgt := 75) dX0_eat_7 (by decide) (fun c => ?_) (fun c => ?_)
    · replace h := gz_ifp c h
      cases h; exact gz_vret (pc := 75) dX0_eat_75 rfl ⟨rfl, rfl⟩
    · replace h := gz_ifn c h
      refine gz_aload_n (pc := 10) dX0_eat_10 rfl ?_
      refine gr_X0_18 (pc := 11) dX0_eat_11 z_t_1 rfl ?_
      refine gz_iload_n (pc := 14) dX0_eat_14 rfl ?_
      obtain ⟨b1, h⟩ := gz_gd h
      refine gz_iald2 (pc := 15) dX0_eat_15 (k := x1.toNatClampNeg) (v := I t 4 x1.toNatClampNeg) z_t_4 rfl b1 rfl rfl ?_
      refine gz_aload_n (pc := 16) dX0_eat_16 rfl ?_
      refine gr_X0_15 (pc := 17) dX0_eat_17 z_t_1 rfl ?_
      refine gz_iload_n (pc := 20) dX0_eat_20 rfl ?_
      refine gz_iald2 (pc := 21) dX0_eat_21 (k := x1.toNatClampNeg) (v := I t 3 x1.toNatClampNeg) z_t_3 rfl b1 rfl rfl ?_
      refine gz_ic_lt (pc := 22) (tgt := 43) dX0_eat_22 (by decide) (fun c => ?_) (fun c => ?_)
      · replace h := gz_ifp c h
        refine gz_aload_n (pc := 43) dX0_eat_43 rfl ?_
        refine gr_X0_18 (pc := 44) dX0_eat_44 z_t_1 rfl ?_
        refine gz_iload_n (pc := 47) dX0_eat_47 rfl ?_
        refine gz_iconst (pc := 48) dX0_eat_48 (v := 0) (by decide) ?_
        refine gz_iast2 (pc := 49) dX0_eat_49 (k := x1.toNatClampNeg) z_t_4 rfl b1 rfl ?_
        refine gz_aload_n (pc := 50) dX0_eat_50 rfl ?_
        refine gr_X0_21 (pc := 51) dX0_eat_51 z_t_1 rfl ?_
        refine gz_iload_n (pc := 54) dX0_eat_54 rfl ?_
        refine gz_bipush (pc := 55) dX0_eat_55 (v := 99) (by decide) ?_
        refine gz_aload_n (pc := 57) dX0_eat_57 rfl ?_
        refine gr_X0_21 (pc := 58) dX0_eat_58 z_t_1 rfl ?_
        refine gz_iload_n (pc := 61) dX0_eat_61 rfl ?_
        refine gz_iald2 (pc := 62) dX0_eat_62 (k := x1.toNatClampNeg) (v := I t 5 x1.toNatClampNeg) z_t_5 rfl b1 rfl (gz_ui_o (by decide)) ?_
        refine gz_iconst (pc := 63) dX0_eat_63 (v := 1) (by decide) ?_
        refine gz_iadd (pc := 64) dX0_eat_64  ?_
        refine gn_X0_35 (pc := 65) dX0_eat_65 (Nat.le_of_ble_eq_true rfl) rfl ?_
        refine gz_iast2 (pc := 68) dX0_eat_68 (k := x1.toNatClampNeg) z_t_5 rfl b1 rfl ?_
        refine gz_iinc (pc := 69) dX0_eat_69 (x := x1) (v := x1 + 1) rfl (by rw [show Int32.ofInt 1 = 1 by decide]) (by decide) rfl (loc2 := [some (.inr (.inr (t, 1))), some (.inl (x1 + 1))]) rfl ?_
        refine gz_goto (pc := 72) (tgt := 2) dX0_eat_72 (by decide) ?_
        exact ih (x1 + 1) (gz_ui (gz_ui I t 4 x1.toNatClampNeg 0) t 5 x1.toNatClampNeg (if (I t 5 x1.toNatClampNeg) + 1 < 99 then (I t 5 x1.toNatClampNeg) + 1 else 99)) J h
      · replace h := gz_ifn c h
        refine gz_aload_n (pc := 25) dX0_eat_25 rfl ?_
        refine gr_X0_18 (pc := 26) dX0_eat_26 z_t_1 rfl ?_
        refine gz_iload_n (pc := 29) dX0_eat_29 rfl ?_
        refine gz_dup2IR (pc := 30) dX0_eat_30  ?_
        refine gz_iald2 (pc := 31) dX0_eat_31 (k := x1.toNatClampNeg) (v := I t 4 x1.toNatClampNeg) z_t_4 rfl b1 rfl rfl ?_
        refine gz_aload_n (pc := 32) dX0_eat_32 rfl ?_
        refine gr_X0_15 (pc := 33) dX0_eat_33 z_t_1 rfl ?_
        refine gz_iload_n (pc := 36) dX0_eat_36 rfl ?_
        refine gz_iald2 (pc := 37) dX0_eat_37 (k := x1.toNatClampNeg) (v := I t 3 x1.toNatClampNeg) z_t_3 rfl b1 rfl rfl ?_
        refine gz_isub (pc := 38) dX0_eat_38  ?_
        refine gz_iast2 (pc := 39) dX0_eat_39 (k := x1.toNatClampNeg) z_t_4 rfl b1 rfl ?_
        refine gz_goto (pc := 40) (tgt := 69) dX0_eat_40 (by decide) ?_
        refine gz_iinc (pc := 69) dX0_eat_69 (x := x1) (v := x1 + 1) rfl (by rw [show Int32.ofInt 1 = 1 by decide]) (by decide) rfl (loc2 := [some (.inr (.inr (t, 1))), some (.inl (x1 + 1))]) rfl ?_
        refine gz_goto (pc := 72) (tgt := 2) dX0_eat_72 (by decide) ?_
        exact ih (x1 + 1) (gz_ui I t 4 x1.toNatClampNeg ((I t 4 x1.toNatClampNeg) - (I t 3 x1.toNatClampNeg))) J h
def f_X0_eat (φ : Nat) (t : Nat) (I : gzIT) (J : gzJT) : Option (Unit × gzIT × gzJT) := f_X0_eat_2 φ t φ 0 I J
set_option maxRecDepth 20000 in
theorem c_X0_eat {g : gzG} {d φ : Nat} {t : Nat} (ht : t < 15) {I : gzIT} {J : gzJT} {r : Unit × gzIT × gzJT} (h : f_X0_eat φ t I J = some r) : gzC g 0 d mX0_eat [.inr (.inr (t, 1))] (gzN, gzR0, I, J) (gzE (.ok none) (gzN, gzR0, r.2.1, r.2.2)) := by
  unfold f_X0_eat at h
  refine gzC_of (by decide +kernel) (Nat.le_of_ble_eq_true rfl) (loc := [some (.inr (.inr (t, 1))), none]) rfl ?_
  refine gz_iconst (pc := 0) dX0_eat_0 (v := 0) (by decide) ?_
  refine gz_istore_n (pc := 1) dX0_eat_1 (by decide) rfl (loc2 := [some (.inr (.inr (t, 1))), some (.inl 0)]) rfl ?_
  exact p_X0_eat_2 ht φ 0 I J h
/-! X11_cell: cell -/
def f_X11_cell (ta1 : Nat) (oa1 : Nat) (na1 : Nat) (I : gzIT) (a2 : Int32) : Option Int32 := if a2 < 0 then (some 0) else (if Int32.ofNat na1 ≤ a2 then (some 0) else (gzGd (a2) na1 (some (I ta1 oa1 a2.toNatClampNeg))))
set_option maxRecDepth 20000 in
theorem c_X11_cell {g : gzG} {d : Nat} {ta1 : Nat} {oa1 : Nat} {na1 : Nat} (va1 : gzOk ta1 oa1 gzN) (ka1 : gzKd oa1 = .inr (.int, na1)) {a2 : Int32} {I : gzIT} {J : gzJT} {r : Int32} (h : f_X11_cell ta1 oa1 na1 I a2 = some r) : gzC g 0 d mX11_cell [.inr (.inr (ta1, oa1)), .inl a2] (gzN, gzR0, I, J) (gzE (.ok (some (.inl r))) (gzN, gzR0, I, J)) := by
  unfold f_X11_cell at h
  refine gzC_of (by decide +kernel) (Nat.le_of_ble_eq_true rfl) (loc := [some (.inr (.inr (ta1, oa1))), some (.inl a2)]) rfl ?_
  refine gz_iload_n (pc := 0) dX11_cell_0 rfl ?_
  refine gz_if_lt (pc := 1) (tgt := 16) dX11_cell_1 (by decide) (fun c => ?_) (fun c => ?_)
  · replace h := gz_ifp c h
    refine gz_iconst (pc := 16) dX11_cell_16 (v := 0) (by decide) ?_
    cases h; exact gz_iret (pc := 17) dX11_cell_17 rfl ⟨rfl, rfl⟩
  · replace h := gz_ifn c h
    refine gz_iload_n (pc := 4) dX11_cell_4 rfl ?_
    refine gz_aload_n (pc := 5) dX11_cell_5 rfl ?_
    refine gz_alen (pc := 6) dX11_cell_6 va1 ka1 (by decide) rfl ?_
    refine gz_ic_ge (pc := 7) (tgt := 16) dX11_cell_7 (by decide) (fun c => ?_) (fun c => ?_)
    · replace h := gz_ifp c h
      refine gz_iconst (pc := 16) dX11_cell_16 (v := 0) (by decide) ?_
      cases h; exact gz_iret (pc := 17) dX11_cell_17 rfl ⟨rfl, rfl⟩
    · replace h := gz_ifn c h
      refine gz_aload_n (pc := 10) dX11_cell_10 rfl ?_
      refine gz_iload_n (pc := 11) dX11_cell_11 rfl ?_
      obtain ⟨b1, h⟩ := gz_gd h
      refine gz_iald2 (pc := 12) dX11_cell_12 (k := a2.toNatClampNeg) (v := I ta1 oa1 a2.toNatClampNeg) va1 ka1 b1 rfl rfl ?_
      refine gz_goto (pc := 13) (tgt := 17) dX11_cell_13 (by decide) ?_
      cases h; exact gz_iret (pc := 17) dX11_cell_17 rfl ⟨rfl, rfl⟩
/-! X11_write: write -/
def f_X11_write (ta1 : Nat) (oa1 : Nat) (na1 : Nat) (a2 : Int32) (a3 : Int32) (I : gzIT) (J : gzJT) : Option (Unit × gzIT × gzJT) := if a2 < 0 then (some ((), I, J)) else (if Int32.ofNat na1 ≤ a2 then (some ((), I, J)) else (gzGd (a2) na1 (some ((), gz_ui I ta1 oa1 a2.toNatClampNeg a3, J))))
set_option maxRecDepth 20000 in
theorem c_X11_write {g : gzG} {d : Nat} {ta1 : Nat} {oa1 : Nat} {na1 : Nat} (va1 : gzOk ta1 oa1 gzN) (ka1 : gzKd oa1 = .inr (.int, na1)) {a2 : Int32} {a3 : Int32} {I : gzIT} {J : gzJT} {r : Unit × gzIT × gzJT} (h : f_X11_write ta1 oa1 na1 a2 a3 I J = some r) : gzC g 0 d mX11_write [.inr (.inr (ta1, oa1)), .inl a2, .inl a3] (gzN, gzR0, I, J) (gzE (.ok none) (gzN, gzR0, r.2.1, r.2.2)) := by
  unfold f_X11_write at h
  refine gzC_of (by decide +kernel) (Nat.le_of_ble_eq_true rfl) (loc := [some (.inr (.inr (ta1, oa1))), some (.inl a2), some (.inl a3)]) rfl ?_
  refine gz_iload_n (pc := 0) dX11_write_0 rfl ?_
  refine gz_if_lt (pc := 1) (tgt := 14) dX11_write_1 (by decide) (fun c => ?_) (fun c => ?_)
  · replace h := gz_ifp c h
    cases h; exact gz_vret (pc := 14) dX11_write_14 rfl ⟨rfl, rfl⟩
  · replace h := gz_ifn c h
    refine gz_iload_n (pc := 4) dX11_write_4 rfl ?_
    refine gz_aload_n (pc := 5) dX11_write_5 rfl ?_
    refine gz_alen (pc := 6) dX11_write_6 va1 ka1 (by decide) rfl ?_
    refine gz_ic_ge (pc := 7) (tgt := 14) dX11_write_7 (by decide) (fun c => ?_) (fun c => ?_)
    · replace h := gz_ifp c h
      cases h; exact gz_vret (pc := 14) dX11_write_14 rfl ⟨rfl, rfl⟩
    · replace h := gz_ifn c h
      refine gz_aload_n (pc := 10) dX11_write_10 rfl ?_
      refine gz_iload_n (pc := 11) dX11_write_11 rfl ?_
      refine gz_iload_n (pc := 12) dX11_write_12 rfl ?_
      obtain ⟨b1, h⟩ := gz_gd h
      refine gz_iast2 (pc := 13) dX11_write_13 (k := a2.toNatClampNeg) va1 ka1 b1 rfl ?_
      cases h; exact gz_vret (pc := 14) dX11_write_14 rfl ⟨rfl, rfl⟩
/-! X0_fill: fill -/
def f_X0_fill (t : Nat) (a1 : Int32) (a2 : Int32) (I : gzIT) (J : gzJT) : Option (Unit × gzIT × gzJT) := Option.bind (f_X11_cell t 4 6 I a1) (fun v2 => Option.bind (f_X11_write t 4 6 a1 (if v2 + a2 < 999 then v2 + a2 else 999) I J) (fun v4 => some ((), v4.2.1, v4.2.2)))
set_option maxRecDepth 20000 in
theorem c_X0_fill {g : gzG} {d : Nat} {t : Nat} (ht : t < 15) {a1 : Int32} {a2 : Int32} {I : gzIT} {J : gzJT} {r : Unit × gzIT × gzJT} (h : f_X0_fill t a1 a2 I J = some r) : gzC g 0 (d + 1) mX0_fill [.inr (.inr (t, 1)), .inl a1, .inl a2] (gzN, gzR0, I, J) (gzE (.ok none) (gzN, gzR0, r.2.1, r.2.2)) := by
  unfold f_X0_fill at h
  refine gzC_of (by decide +kernel) (Nat.le_of_ble_eq_true rfl) (loc := [some (.inr (.inr (t, 1))), some (.inl a1), some (.inl a2)]) rfl ?_
  have z_t_1 : gzOk t 1 gzN := gzOk_of ht
  have z_t_4 : gzOk t 4 gzN := gzOk_of ht
  refine gz_aload_n (pc := 0) dX0_fill_0 rfl ?_
  refine gr_X0_18 (pc := 1) dX0_fill_1 z_t_1 rfl ?_
  refine gz_iload_n (pc := 4) dX0_fill_4 rfl ?_
  refine gz_sipush (pc := 5) dX0_fill_5 (v := 999) (by decide) ?_
  refine gz_aload_n (pc := 8) dX0_fill_8 rfl ?_
  refine gr_X0_18 (pc := 9) dX0_fill_9 z_t_1 rfl ?_
  refine gz_iload_n (pc := 12) dX0_fill_12 rfl ?_
  refine gz_SN (zy := mX11_cell) (zc := 0) (pc := 13) [.inr (.inr (t, 4)), .inl a1] rfl dX0_fill_13 lnX0_41 MsX11_cell rfl (Or.inl rfl) (fun h => h) (by exact Nat.le_of_ble_eq_true rfl) ?_
  obtain ⟨v2, e1, h⟩ := gz_bd h
  refine gz_useI (c_X11_cell z_t_4 rfl e1) ?_
  refine gz_iload_n (pc := 16) dX0_fill_16 rfl ?_
  refine gz_iadd (pc := 17) dX0_fill_17  ?_
  refine gn_X0_35 (pc := 18) dX0_fill_18 (Nat.le_of_ble_eq_true rfl) rfl ?_
  refine gz_SN (zy := mX11_write) (zc := 0) (pc := 21) [.inr (.inr (t, 4)), .inl a1, .inl (if v2 + a2 < 999 then v2 + a2 else 999)] rfl dX0_fill_21 lnX0_45 MsX11_write rfl (Or.inl rfl) (fun h => h) (by exact Nat.le_of_ble_eq_true rfl) ?_
  obtain ⟨v4, e3, h⟩ := gz_bd h
  refine gz_useV (c_X11_write z_t_4 rfl e3) ?_
  cases h; exact gz_vret (pc := 24) dX0_fill_24 rfl ⟨rfl, rfl⟩
/-! X0_lasts: lasts -/
def f_X0_lasts (t : Nat) (I : gzIT) (a1 : Int32) : Option Int32 := Option.bind (f_X11_cell t 3 6 I a1) (fun v2 => if v2 ≤ 0 then (some (-1)) else (Option.bind (f_X11_cell t 5 6 I a1) (fun v4 => if v4 < 99 then (Option.bind (f_X11_cell t 4 6 I a1) (fun v6 => gzGn v2 (some (if 60 < (v6 / v2) + 1 then ((-1) : Int32) else ((v6 / v2) + 1))))) else (some (-1)))))
set_option maxRecDepth 20000 in
theorem c_X0_lasts {g : gzG} {d : Nat} {t : Nat} (ht : t < 15) {a1 : Int32} {I : gzIT} {J : gzJT} {r : Int32} (h : f_X0_lasts t I a1 = some r) : gzC g 0 (d + 1) mX0_lasts [.inr (.inr (t, 1)), .inl a1] (gzN, gzR0, I, J) (gzE (.ok (some (.inl r))) (gzN, gzR0, I, J)) := by
  unfold f_X0_lasts at h
  refine gzC_of (by decide +kernel) (Nat.le_of_ble_eq_true rfl) (loc := [some (.inr (.inr (t, 1))), some (.inl a1), none, none]) rfl ?_
  have z_t_1 : gzOk t 1 gzN := gzOk_of ht
  have z_t_3 : gzOk t 3 gzN := gzOk_of ht
  have z_t_5 : gzOk t 5 gzN := gzOk_of ht
  have z_t_4 : gzOk t 4 gzN := gzOk_of ht
  refine gz_aload_n (pc := 0) dX0_lasts_0 rfl ?_
  refine gr_X0_15 (pc := 1) dX0_lasts_1 z_t_1 rfl ?_
  refine gz_iload_n (pc := 4) dX0_lasts_4 rfl ?_
  refine gz_SN (zy := mX11_cell) (zc := 0) (pc := 5) [.inr (.inr (t, 3)), .inl a1] rfl dX0_lasts_5 lnX0_41 MsX11_cell rfl (Or.inl rfl) (fun h => h) (by exact Nat.le_of_ble_eq_true rfl) ?_
  obtain ⟨v2, e1, h⟩ := gz_bd h
  refine gz_useI (c_X11_cell z_t_3 rfl e1) ?_
  refine gz_istore_n (pc := 8) dX0_lasts_8 (by decide) rfl (loc2 := [some (.inr (.inr (t, 1))), some (.inl a1), some (.inl v2), none]) rfl ?_
  refine gz_iload_n (pc := 9) dX0_lasts_9 rfl ?_
  refine gz_if_le (pc := 10) (tgt := 26) dX0_lasts_10 (by decide) (fun c => ?_) (fun c => ?_)
  · replace h := gz_ifp c h
    refine gz_iconst (pc := 26) dX0_lasts_26 (v := (-1)) (by decide) ?_
    cases h; exact gz_iret (pc := 27) dX0_lasts_27 rfl ⟨rfl, rfl⟩
  · replace h := gz_ifn c h
    refine gz_aload_n (pc := 13) dX0_lasts_13 rfl ?_
    refine gr_X0_21 (pc := 14) dX0_lasts_14 z_t_1 rfl ?_
    refine gz_iload_n (pc := 17) dX0_lasts_17 rfl ?_
    refine gz_SN (zy := mX11_cell) (zc := 0) (pc := 18) [.inr (.inr (t, 5)), .inl a1] rfl dX0_lasts_18 lnX0_41 MsX11_cell rfl (Or.inl rfl) (fun h => h) (by exact Nat.le_of_ble_eq_true rfl) ?_
    obtain ⟨v4, e3, h⟩ := gz_bd h
    refine gz_useI (c_X11_cell z_t_5 rfl e3) ?_
    refine gz_bipush (pc := 21) dX0_lasts_21 (v := 99) (by decide) ?_
    refine gz_ic_lt (pc := 23) (tgt := 28) dX0_lasts_23 (by decide) (fun c => ?_) (fun c => ?_)
    · replace h := gz_ifp c h
      refine gz_aload_n (pc := 28) dX0_lasts_28 rfl ?_
      refine gr_X0_18 (pc := 29) dX0_lasts_29 z_t_1 rfl ?_
      refine gz_iload_n (pc := 32) dX0_lasts_32 rfl ?_
      refine gz_SN (zy := mX11_cell) (zc := 0) (pc := 33) [.inr (.inr (t, 4)), .inl a1] rfl dX0_lasts_33 lnX0_41 MsX11_cell rfl (Or.inl rfl) (fun h => h) (by exact Nat.le_of_ble_eq_true rfl) ?_
      obtain ⟨v6, e5, h⟩ := gz_bd h
      refine gz_useI (c_X11_cell z_t_4 rfl e5) ?_
      refine gz_iload_n (pc := 36) dX0_lasts_36 rfl ?_
      obtain ⟨n7, h⟩ := gz_gn h
      refine gz_idiv (pc := 37) dX0_lasts_37 n7 ?_
      refine gz_iconst (pc := 38) dX0_lasts_38 (v := 1) (by decide) ?_
      refine gz_iadd (pc := 39) dX0_lasts_39  ?_
      refine gz_istore_n (pc := 40) dX0_lasts_40 (by decide) rfl (loc2 := [some (.inr (.inr (t, 1))), some (.inl a1), some (.inl v2), some (.inl ((v6 / v2) + 1))]) rfl ?_
      refine gz_iload_n (pc := 41) dX0_lasts_41 rfl ?_
      refine gz_bipush (pc := 42) dX0_lasts_42 (v := 60) (by decide) ?_
      have kj8 : gzX g 0 (d + 1) mX0_lasts 52 [some (.inr (.inr (t, 1))), some (.inl a1), some (.inl v2), some (.inl ((v6 / v2) + 1))] ([.inl (if 60 < (v6 / v2) + 1 then ((-1) : Int32) else ((v6 / v2) + 1))]) (gzN, gzR0, I, J) 0 (gzE (.ok (some (.inl r))) (gzN, gzR0, I, J)) := by
        cases h; exact gz_iret (pc := 52) dX0_lasts_52 rfl ⟨rfl, rfl⟩
      refine gz_ic_gt (pc := 44) (tgt := 51) dX0_lasts_44 (by decide) (fun c => ?_) (fun c => ?_)
      · rw [if_pos c] at kj8
        refine gz_iconst (pc := 51) dX0_lasts_51 (v := (-1)) (by decide) ?_
        exact kj8
      · rw [if_neg c] at kj8
        refine gz_iload_n (pc := 47) dX0_lasts_47 rfl ?_
        refine gz_goto (pc := 48) (tgt := 52) dX0_lasts_48 (by decide) ?_
        exact kj8
    · replace h := gz_ifn c h
      refine gz_iconst (pc := 26) dX0_lasts_26 (v := (-1)) (by decide) ?_
      cases h; exact gz_iret (pc := 27) dX0_lasts_27 rfl ⟨rfl, rfl⟩
/-! X11_has: has -/
def f_X11_has (a1 : Int32) (a2 : Int32) : Option Int32 := some (if (a1 >>> (a2 &&& 31)) &&& 1 = 0 then (0 : Int32) else 1)
set_option maxRecDepth 20000 in
theorem c_X11_has {g : gzG} {d : Nat} {a1 : Int32} {a2 : Int32} {I : gzIT} {J : gzJT} {r : Int32} (h : f_X11_has a1 a2 = some r) : gzC g 0 d mX11_has [.inl a1, .inl a2] (gzN, gzR0, I, J) (gzE (.ok (some (.inl r))) (gzN, gzR0, I, J)) := by
  unfold f_X11_has at h
  refine gzC_of (by decide +kernel) (Nat.le_of_ble_eq_true rfl) (loc := [some (.inl a1), some (.inl a2)]) rfl ?_
  refine gz_iload_n (pc := 0) dX11_has_0 rfl ?_
  refine gz_iload_n (pc := 1) dX11_has_1 rfl ?_
  refine gz_ishr (pc := 2) dX11_has_2  ?_
  refine gz_iconst (pc := 3) dX11_has_3 (v := 1) (by decide) ?_
  refine gz_iand (pc := 4) dX11_has_4  ?_
  have kj1 : gzX g 0 d mX11_has 13 [some (.inl a1), some (.inl a2)] ([.inl (if (a1 >>> (a2 &&& 31)) &&& 1 = 0 then (0 : Int32) else 1)]) (gzN, gzR0, I, J) 0 (gzE (.ok (some (.inl r))) (gzN, gzR0, I, J)) := by
    cases h; exact gz_zret (pc := 13) dX11_has_13 rfl (by first | exact gz_ite01 | exact gz_ite10) ⟨rfl, rfl⟩
  refine gz_if_eq (pc := 5) (tgt := 12) dX11_has_5 (by decide) (fun c => ?_) (fun c => ?_)
  · rw [if_pos c] at kj1
    refine gz_iconst (pc := 12) dX11_has_12 (v := 0) (by decide) ?_
    exact kj1
  · rw [if_neg c] at kj1
    refine gz_iconst (pc := 8) dX11_has_8 (v := 1) (by decide) ?_
    refine gz_goto (pc := 9) (tgt := 13) dX11_has_9 (by decide) ?_
    exact kj1
/-! X0_wantTogether: wantTogether -/
def gP_X0_wantTogether_4 (g : gzG) (t : Nat) (d : Nat) (r : Int32) (x1 : Int32) (x2 : Int32) (x3 : Int32) (I : gzIT) (J : gzJT) : Prop := gzX g 0 (d + 1) mX0_wantTogether 4 [some (.inr (.inr (t, 1))), some (.inl x1), some (.inl x2), some (.inl x3)] [] (gzN, gzR0, I, J) 0 (gzE (.ok (some (.inl r))) (gzN, gzR0, I, J))
def f_X0_wantTogether_4 (φ : Nat) (t : Nat) (I : gzIT) : Nat → Int32 → Int32 → Int32 → Option Int32
  | 0, _, _, _ => none
  | k + 1, x1, x2, x3 => if I t 1 5 ≤ x3 then (some x2) else (Option.bind (f_X11_has x1 x3) (fun v2 => if v2 = 0 then (f_X0_wantTogether_4 φ t I k x1 x2 (x3 + 1)) else (gzGd (x3) 6 (f_X0_wantTogether_4 φ t I k x1 (x2 + (if 0 < (I t 3 x3.toNatClampNeg) - (I t 4 x3.toNatClampNeg) then (I t 3 x3.toNatClampNeg) - (I t 4 x3.toNatClampNeg) else 0)) (x3 + 1)))))
set_option maxRecDepth 20000 in
theorem p_X0_wantTogether_4 {g : gzG} {d φ : Nat} {t : Nat} (ht : t < 15) {I : gzIT} {J : gzJT} {r : Int32} : ∀ (k : Nat) (x1 : Int32) (x2 : Int32) (x3 : Int32), f_X0_wantTogether_4 φ t I k x1 x2 x3 = some r → gP_X0_wantTogether_4 g t d r x1 x2 x3 I J := by
  intro k; induction k with
  | zero => intro x1 x2 x3 h; cases h
  | succ k ih =>
    intro x1 x2 x3 h
    unfold f_X0_wantTogether_4 at h
    unfold gP_X0_wantTogether_4
    have z_t_1 : gzOk t 1 gzN := gzOk_of ht
    have z_t_3 : gzOk t 3 gzN := gzOk_of ht
    have z_t_4 : gzOk t 4 gzN := gzOk_of ht
    refine gz_iload_n (pc := 4) dX0_wantTogether_4 rfl ?_
    refine gz_aload_n (pc := 5) dX0_wantTogether_5 rfl ?_
    refine gi_X0_27 (pc := 6) dX0_wantTogether_6 (v := I t 1 5) z_t_1 rfl rfl ?_
    refine gz_ic_ge (pc := 9) (tgt := 46) dX0_wantTogether_9 (by decide) (fun c => ?_) (fun c => ?_)
    · replace h := gz_ifp c h
      refine gz_iload_n (pc := 46) dX0_wantTogether_46 rfl ?_
      cases h; exact gz_iret (pc := 47) dX0_wantTogether_47 rfl ⟨rfl, rfl⟩
    · replace h := gz_ifn c h
      refine gz_iload_n (pc := 12) dX0_wantTogether_12 rfl ?_
      refine gz_iload_n (pc := 13) dX0_wantTogether_13 rfl ?_
      refine gz_SN (zy := mX11_has) (zc := 0) (pc := 14) [.inl x1, .inl x3] rfl dX0_wantTogether_14 lnX0_49 MsX11_has rfl (Or.inl rfl) (fun h => h) (by exact Nat.le_of_ble_eq_true rfl) ?_
      obtain ⟨v2, e1, h⟩ := gz_bd h
      refine gz_useI (c_X11_has e1) ?_
      refine gz_if_eq (pc := 17) (tgt := 40) dX0_wantTogether_17 (by decide) (fun c => ?_) (fun c => ?_)
      · replace h := gz_ifp c h
        refine gz_iinc (pc := 40) dX0_wantTogether_40 (x := x3) (v := x3 + 1) rfl (by rw [show Int32.ofInt 1 = 1 by decide]) (by decide) rfl (loc2 := [some (.inr (.inr (t, 1))), some (.inl x1), some (.inl x2), some (.inl (x3 + 1))]) rfl ?_
        refine gz_goto (pc := 43) (tgt := 4) dX0_wantTogether_43 (by decide) ?_
        exact ih x1 x2 (x3 + 1) h
      · replace h := gz_ifn c h
        refine gz_iload_n (pc := 20) dX0_wantTogether_20 rfl ?_
        refine gz_iconst (pc := 21) dX0_wantTogether_21 (v := 0) (by decide) ?_
        refine gz_aload_n (pc := 22) dX0_wantTogether_22 rfl ?_
        refine gr_X0_15 (pc := 23) dX0_wantTogether_23 z_t_1 rfl ?_
        refine gz_iload_n (pc := 26) dX0_wantTogether_26 rfl ?_
        obtain ⟨b3, h⟩ := gz_gd h
        refine gz_iald2 (pc := 27) dX0_wantTogether_27 (k := x3.toNatClampNeg) (v := I t 3 x3.toNatClampNeg) z_t_3 rfl b3 rfl rfl ?_
        refine gz_aload_n (pc := 28) dX0_wantTogether_28 rfl ?_
        refine gr_X0_18 (pc := 29) dX0_wantTogether_29 z_t_1 rfl ?_
        refine gz_iload_n (pc := 32) dX0_wantTogether_32 rfl ?_
        refine gz_iald2 (pc := 33) dX0_wantTogether_33 (k := x3.toNatClampNeg) (v := I t 4 x3.toNatClampNeg) z_t_4 rfl b3 rfl rfl ?_
        refine gz_isub (pc := 34) dX0_wantTogether_34  ?_
        refine gx_X0_53 (pc := 35) dX0_wantTogether_35 (Nat.le_of_ble_eq_true rfl) rfl ?_
        refine gz_iadd (pc := 38) dX0_wantTogether_38  ?_
        refine gz_istore_n (pc := 39) dX0_wantTogether_39 (by decide) rfl (loc2 := [some (.inr (.inr (t, 1))), some (.inl x1), some (.inl (x2 + (if 0 < (I t 3 x3.toNatClampNeg) - (I t 4 x3.toNatClampNeg) then (I t 3 x3.toNatClampNeg) - (I t 4 x3.toNatClampNeg) else 0))), some (.inl x3)]) rfl ?_
        refine gz_iinc (pc := 40) dX0_wantTogether_40 (x := x3) (v := x3 + 1) rfl (by rw [show Int32.ofInt 1 = 1 by decide]) (by decide) rfl (loc2 := [some (.inr (.inr (t, 1))), some (.inl x1), some (.inl (x2 + (if 0 < (I t 3 x3.toNatClampNeg) - (I t 4 x3.toNatClampNeg) then (I t 3 x3.toNatClampNeg) - (I t 4 x3.toNatClampNeg) else 0))), some (.inl (x3 + 1))]) rfl ?_
        refine gz_goto (pc := 43) (tgt := 4) dX0_wantTogether_43 (by decide) ?_
        exact ih x1 (x2 + (if 0 < (I t 3 x3.toNatClampNeg) - (I t 4 x3.toNatClampNeg) then (I t 3 x3.toNatClampNeg) - (I t 4 x3.toNatClampNeg) else 0)) (x3 + 1) h
def f_X0_wantTogether (φ : Nat) (t : Nat) (I : gzIT) (a1 : Int32) : Option Int32 := f_X0_wantTogether_4 φ t I φ a1 0 0
set_option maxRecDepth 20000 in
theorem c_X0_wantTogether {g : gzG} {d φ : Nat} {t : Nat} (ht : t < 15) {a1 : Int32} {I : gzIT} {J : gzJT} {r : Int32} (h : f_X0_wantTogether φ t I a1 = some r) : gzC g 0 (d + 1) mX0_wantTogether [.inr (.inr (t, 1)), .inl a1] (gzN, gzR0, I, J) (gzE (.ok (some (.inl r))) (gzN, gzR0, I, J)) := by
  unfold f_X0_wantTogether at h
  refine gzC_of (by decide +kernel) (Nat.le_of_ble_eq_true rfl) (loc := [some (.inr (.inr (t, 1))), some (.inl a1), none, none]) rfl ?_
  refine gz_iconst (pc := 0) dX0_wantTogether_0 (v := 0) (by decide) ?_
  refine gz_istore_n (pc := 1) dX0_wantTogether_1 (by decide) rfl (loc2 := [some (.inr (.inr (t, 1))), some (.inl a1), some (.inl 0), none]) rfl ?_
  refine gz_iconst (pc := 2) dX0_wantTogether_2 (v := 0) (by decide) ?_
  refine gz_istore_n (pc := 3) dX0_wantTogether_3 (by decide) rfl (loc2 := [some (.inr (.inr (t, 1))), some (.inl a1), some (.inl 0), some (.inl 0)]) rfl ?_
  exact p_X0_wantTogether_4 ht φ a1 0 0 h
/-! X0_shareOut: shareOut -/
def gP_X0_shareOut_36 (g : gzG) (t : Nat) (d : Nat) (r : Int32 × gzIT × gzJT) (x1 : Int32) (x2 : Int32) (x3 : Int32) (x4 : Int32) (x5 : Int32) (I : gzIT) (J : gzJT) : Prop := gzX g 0 (d + 1) mX0_shareOut 36 [some (.inr (.inr (t, 1))), some (.inl x1), some (.inl x2), some (.inl x3), some (.inl x4), some (.inl x5)] [] (gzN, gzR0, I, J) 0 (gzE (.ok (some (.inl r.1))) (gzN, gzR0, r.2.1, r.2.2))
def gP_X0_shareOut_25 (g : gzG) (t : Nat) (d : Nat) (r : Int32 × gzIT × gzJT) (x1 : Int32) (x2 : Int32) (x3 : Int32) (I : gzIT) (J : gzJT) : Prop := gzX g 0 (d + 1) mX0_shareOut 25 [some (.inr (.inr (t, 1))), some (.inl x1), some (.inl x2), some (.inl x3), none, none] [] (gzN, gzR0, I, J) 0 (gzE (.ok (some (.inl r.1))) (gzN, gzR0, r.2.1, r.2.2))
def gP_X0_shareOut_2 (g : gzG) (t : Nat) (d : Nat) (r : Int32 × gzIT × gzJT) (x1 : Int32) (x2 : Int32) (x3 : Int32) (I : gzIT) (J : gzJT) : Prop := gzX g 0 (d + 1) mX0_shareOut 2 [some (.inr (.inr (t, 1))), some (.inl x1), some (.inl x2), some (.inl x3), none, none] [] (gzN, gzR0, I, J) 0 (gzE (.ok (some (.inl r.1))) (gzN, gzR0, r.2.1, r.2.2))
def f_X0_shareOut_36 (φ : Nat) (t : Nat) (K25 : Int32 → Int32 → Int32 → gzIT → gzJT → Option (Int32 × gzIT × gzJT)) : Nat → Int32 → Int32 → Int32 → Int32 → Int32 → gzIT → gzJT → Option (Int32 × gzIT × gzJT)
  | 0, _, _, _, _, _, _, _ => none
  | k + 1, x1, x2, x3, x4, x5, I, J => if I t 1 5 ≤ x5 then (Option.bind (f_X11_cell t 6 6 I x4) (fun v5 => Option.bind (f_X11_write t 6 6 x4 (v5 + 1) I J) (fun v7 => K25 x1 x2 (x3 + 1) v7.2.1 v7.2.2))) else (gzGd (x5) 6 (if I t 3 x5.toNatClampNeg ≤ I t 6 x5.toNatClampNeg then (f_X0_shareOut_36 φ t K25 k x1 x2 x3 x4 (x5 + 1) I J) else (if x4 = (-1) then (f_X0_shareOut_36 φ t K25 k x1 x2 x3 x5 (x5 + 1) I J) else (Option.bind (f_X11_cell t 6 6 I x4) (fun v10 => if v10 ≤ I t 6 x5.toNatClampNeg then (f_X0_shareOut_36 φ t K25 k x1 x2 x3 x4 (x5 + 1) I J) else (f_X0_shareOut_36 φ t K25 k x1 x2 x3 x5 (x5 + 1) I J))))))
set_option maxRecDepth 20000 in
theorem p_X0_shareOut_36 {g : gzG} {d φ : Nat} {t : Nat} (ht : t < 15) {r : Int32 × gzIT × gzJT} {K25 : Int32 → Int32 → Int32 → gzIT → gzJT → Option (Int32 × gzIT × gzJT)} (hK25 : ∀ (x1 : Int32) (x2 : Int32) (x3 : Int32) (I : gzIT) (J : gzJT), K25 x1 x2 x3 I J = some r → gP_X0_shareOut_25 g t d r x1 x2 x3 I J) : ∀ (k : Nat) (x1 : Int32) (x2 : Int32) (x3 : Int32) (x4 : Int32) (x5 : Int32) (I : gzIT) (J : gzJT), f_X0_shareOut_36 φ t K25 k x1 x2 x3 x4 x5 I J = some r → gP_X0_shareOut_36 g t d r x1 x2 x3 x4 x5 I J := by
  intro k; induction k with
  | zero => intro x1 x2 x3 x4 x5 I J h; cases h
  | succ k ih =>
    intro x1 x2 x3 x4 x5 I J h
    unfold f_X0_shareOut_36 at h
    unfold gP_X0_shareOut_36
    have z_t_1 : gzOk t 1 gzN := gzOk_of ht
    have z_t_6 : gzOk t 6 gzN := gzOk_of ht
    have z_t_3 : gzOk t 3 gzN := gzOk_of ht
    refine gz_iload (pc := 36) dX0_shareOut_36 rfl ?_
    refine gz_aload_n (pc := 38) dX0_shareOut_38 rfl ?_
    refine gi_X0_27 (pc := 39) dX0_shareOut_39 (v := I t 1 5) z_t_1 rfl rfl ?_
    refine gz_ic_ge (pc := 42) (tgt := 97) dX0_shareOut_42 (by decide) (fun c => ?_) (fun c => ?_)
    · replace h := gz_ifp c h
      refine gz_aload_n (pc := 97) dX0_shareOut_97 rfl ?_
      refine gr_X0_24 (pc := 98) dX0_shareOut_98 z_t_1 rfl ?_
      refine gz_iload (pc := 101) dX0_shareOut_101 rfl ?_
      refine gz_aload_n (pc := 103) dX0_shareOut_103 rfl ?_
      refine gr_X0_24 (pc := 104) dX0_shareOut_104 z_t_1 rfl ?_
      refine gz_iload (pc := 107) dX0_shareOut_107 rfl ?_
      refine gz_SN (zy := mX11_cell) (zc := 0) (pc := 109) [.inr (.inr (t, 6)), .inl x4] rfl dX0_shareOut_109 lnX0_41 MsX11_cell rfl (Or.inl rfl) (fun h => h) (by exact Nat.le_of_ble_eq_true rfl) ?_
      obtain ⟨v5, e4, h⟩ := gz_bd h
      refine gz_useI (c_X11_cell z_t_6 rfl e4) ?_
      refine gz_iconst (pc := 112) dX0_shareOut_112 (v := 1) (by decide) ?_
      refine gz_iadd (pc := 113) dX0_shareOut_113  ?_
      refine gz_SN (zy := mX11_write) (zc := 0) (pc := 114) [.inr (.inr (t, 6)), .inl x4, .inl (v5 + 1)] rfl dX0_shareOut_114 lnX0_45 MsX11_write rfl (Or.inl rfl) (fun h => h) (by exact Nat.le_of_ble_eq_true rfl) ?_
      obtain ⟨v7, e6, h⟩ := gz_bd h
      refine gz_useV (c_X11_write z_t_6 rfl e6) ?_
      refine gz_iinc (pc := 117) dX0_shareOut_117 (x := x3) (v := x3 + 1) rfl (by rw [show Int32.ofInt 1 = 1 by decide]) (by decide) rfl (loc2 := [some (.inr (.inr (t, 1))), some (.inl x1), some (.inl x2), some (.inl (x3 + 1)), some (.inl x4), some (.inl x5)]) rfl ?_
      refine gz_goto (pc := 120) (tgt := 25) dX0_shareOut_120 (by decide) ?_
      exact gz_weak (loc2 := [some (.inr (.inr (t, 1))), some (.inl x1), some (.inl x2), some (.inl (x3 + 1)), none, none]) (hK25 x1 x2 (x3 + 1) v7.2.1 v7.2.2 h) (by repeat (first | exact trivial | refine ⟨rfl, ?_⟩))
    · replace h := gz_ifn c h
      refine gz_aload_n (pc := 45) dX0_shareOut_45 rfl ?_
      refine gr_X0_24 (pc := 46) dX0_shareOut_46 z_t_1 rfl ?_
      refine gz_iload (pc := 49) dX0_shareOut_49 rfl ?_
      obtain ⟨b8, h⟩ := gz_gd h
      refine gz_iald2 (pc := 51) dX0_shareOut_51 (k := x5.toNatClampNeg) (v := I t 6 x5.toNatClampNeg) z_t_6 rfl b8 rfl rfl ?_
      refine gz_aload_n (pc := 52) dX0_shareOut_52 rfl ?_
      refine gr_X0_15 (pc := 53) dX0_shareOut_53 z_t_1 rfl ?_
      refine gz_iload (pc := 56) dX0_shareOut_56 rfl ?_
      refine gz_iald2 (pc := 58) dX0_shareOut_58 (k := x5.toNatClampNeg) (v := I t 3 x5.toNatClampNeg) z_t_3 rfl b8 rfl rfl ?_
      refine gz_ic_ge (pc := 59) (tgt := 91) dX0_shareOut_59 (by decide) (fun c => ?_) (fun c => ?_)
      · replace h := gz_ifp c h
        refine gz_iinc (pc := 91) dX0_shareOut_91 (x := x5) (v := x5 + 1) rfl (by rw [show Int32.ofInt 1 = 1 by decide]) (by decide) rfl (loc2 := [some (.inr (.inr (t, 1))), some (.inl x1), some (.inl x2), some (.inl x3), some (.inl x4), some (.inl (x5 + 1))]) rfl ?_
        refine gz_goto (pc := 94) (tgt := 36) dX0_shareOut_94 (by decide) ?_
        exact ih x1 x2 x3 x4 (x5 + 1) I J h
      · replace h := gz_ifn c h
        refine gz_iload (pc := 62) dX0_shareOut_62 rfl ?_
        refine gz_iconst (pc := 64) dX0_shareOut_64 (v := (-1)) (by decide) ?_
        refine gz_ic_eq (pc := 65) (tgt := 87) dX0_shareOut_65 (by decide) (fun c => ?_) (fun c => ?_)
        · replace h := gz_ifp c h
          refine gz_iload (pc := 87) dX0_shareOut_87 rfl ?_
          refine gz_istore (pc := 89) dX0_shareOut_89 (by decide) rfl (loc2 := [some (.inr (.inr (t, 1))), some (.inl x1), some (.inl x2), some (.inl x3), some (.inl x5), some (.inl x5)]) rfl ?_
          refine gz_iinc (pc := 91) dX0_shareOut_91 (x := x5) (v := x5 + 1) rfl (by rw [show Int32.ofInt 1 = 1 by decide]) (by decide) rfl (loc2 := [some (.inr (.inr (t, 1))), some (.inl x1), some (.inl x2), some (.inl x3), some (.inl x5), some (.inl (x5 + 1))]) rfl ?_
          refine gz_goto (pc := 94) (tgt := 36) dX0_shareOut_94 (by decide) ?_
          exact ih x1 x2 x3 x5 (x5 + 1) I J h
        · replace h := gz_ifn c h
          refine gz_aload_n (pc := 68) dX0_shareOut_68 rfl ?_
          refine gr_X0_24 (pc := 69) dX0_shareOut_69 z_t_1 rfl ?_
          refine gz_iload (pc := 72) dX0_shareOut_72 rfl ?_
          refine gz_iald2 (pc := 74) dX0_shareOut_74 (k := x5.toNatClampNeg) (v := I t 6 x5.toNatClampNeg) z_t_6 rfl b8 rfl rfl ?_
          refine gz_aload_n (pc := 75) dX0_shareOut_75 rfl ?_
          refine gr_X0_24 (pc := 76) dX0_shareOut_76 z_t_1 rfl ?_
          refine gz_iload (pc := 79) dX0_shareOut_79 rfl ?_
          refine gz_SN (zy := mX11_cell) (zc := 0) (pc := 81) [.inr (.inr (t, 6)), .inl x4] rfl dX0_shareOut_81 lnX0_41 MsX11_cell rfl (Or.inl rfl) (fun h => h) (by exact Nat.le_of_ble_eq_true rfl) ?_
          obtain ⟨v10, e9, h⟩ := gz_bd h
          refine gz_useI (c_X11_cell z_t_6 rfl e9) ?_
          refine gz_ic_ge (pc := 84) (tgt := 91) dX0_shareOut_84 (by decide) (fun c => ?_) (fun c => ?_)
          · replace h := gz_ifp c h
            refine gz_iinc (pc := 91) dX0_shareOut_91 (x := x5) (v := x5 + 1) rfl (by rw [show Int32.ofInt 1 = 1 by decide]) (by decide) rfl (loc2 := [some (.inr (.inr (t, 1))), some (.inl x1), some (.inl x2), some (.inl x3), some (.inl x4), some (.inl (x5 + 1))]) rfl ?_
            refine gz_goto (pc := 94) (tgt := 36) dX0_shareOut_94 (by decide) ?_
            exact ih x1 x2 x3 x4 (x5 + 1) I J h
          · replace h := gz_ifn c h
            refine gz_iload (pc := 87) dX0_shareOut_87 rfl ?_
            refine gz_istore (pc := 89) dX0_shareOut_89 (by decide) rfl (loc2 := [some (.inr (.inr (t, 1))), some (.inl x1), some (.inl x2), some (.inl x3), some (.inl x5), some (.inl x5)]) rfl ?_
            refine gz_iinc (pc := 91) dX0_shareOut_91 (x := x5) (v := x5 + 1) rfl (by rw [show Int32.ofInt 1 = 1 by decide]) (by decide) rfl (loc2 := [some (.inr (.inr (t, 1))), some (.inl x1), some (.inl x2), some (.inl x3), some (.inl x5), some (.inl (x5 + 1))]) rfl ?_
            refine gz_goto (pc := 94) (tgt := 36) dX0_shareOut_94 (by decide) ?_
            exact ih x1 x2 x3 x5 (x5 + 1) I J h
def f_X0_shareOut_25 (φ : Nat) (t : Nat) : Nat → Int32 → Int32 → Int32 → gzIT → gzJT → Option (Int32 × gzIT × gzJT)
  | 0, _, _, _, _, _ => none
  | k + 1, x1, x2, x3, I, J => if x2 ≤ x3 then (Option.bind (f_X11_cell t 6 6 I x1) (fun v3 => some (v3, I, J))) else (f_X0_shareOut_36 φ t (f_X0_shareOut_25 φ t k) φ x1 x2 x3 (-1) 0 I J)
set_option maxRecDepth 20000 in
theorem p_X0_shareOut_25 {g : gzG} {d φ : Nat} {t : Nat} (ht : t < 15) {r : Int32 × gzIT × gzJT} : ∀ (k : Nat) (x1 : Int32) (x2 : Int32) (x3 : Int32) (I : gzIT) (J : gzJT), f_X0_shareOut_25 φ t k x1 x2 x3 I J = some r → gP_X0_shareOut_25 g t d r x1 x2 x3 I J := by
  intro k; induction k with
  | zero => intro x1 x2 x3 I J h; cases h
  | succ k ih =>
    intro x1 x2 x3 I J h
    unfold f_X0_shareOut_25 at h
    unfold gP_X0_shareOut_25
    have z_t_1 : gzOk t 1 gzN := gzOk_of ht
    have z_t_6 : gzOk t 6 gzN := gzOk_of ht
    refine gz_iload_n (pc := 25) dX0_shareOut_25 rfl ?_
    refine gz_iload_n (pc := 26) dX0_shareOut_26 rfl ?_
    refine gz_ic_ge (pc := 27) (tgt := 123) dX0_shareOut_27 (by decide) (fun c => ?_) (fun c => ?_)
    · replace h := gz_ifp c h
      refine gz_aload_n (pc := 123) dX0_shareOut_123 rfl ?_
      refine gr_X0_24 (pc := 124) dX0_shareOut_124 z_t_1 rfl ?_
      refine gz_iload_n (pc := 127) dX0_shareOut_127 rfl ?_
      refine gz_SN (zy := mX11_cell) (zc := 0) (pc := 128) [.inr (.inr (t, 6)), .inl x1] rfl dX0_shareOut_128 lnX0_41 MsX11_cell rfl (Or.inl rfl) (fun h => h) (by exact Nat.le_of_ble_eq_true rfl) ?_
      obtain ⟨v3, e2, h⟩ := gz_bd h
      refine gz_useI (c_X11_cell z_t_6 rfl e2) ?_
      cases h; exact gz_iret (pc := 131) dX0_shareOut_131 rfl ⟨rfl, rfl⟩
    · replace h := gz_ifn c h
      refine gz_iconst (pc := 30) dX0_shareOut_30 (v := (-1)) (by decide) ?_
      refine gz_istore (pc := 31) dX0_shareOut_31 (by decide) rfl (loc2 := [some (.inr (.inr (t, 1))), some (.inl x1), some (.inl x2), some (.inl x3), some (.inl (-1)), none]) rfl ?_
      refine gz_iconst (pc := 33) dX0_shareOut_33 (v := 0) (by decide) ?_
      refine gz_istore (pc := 34) dX0_shareOut_34 (by decide) rfl (loc2 := [some (.inr (.inr (t, 1))), some (.inl x1), some (.inl x2), some (.inl x3), some (.inl (-1)), some (.inl 0)]) rfl ?_
      exact p_X0_shareOut_36 ht ih φ x1 x2 x3 (-1) 0 I J h
def f_X0_shareOut_2 (φ : Nat) (t : Nat) : Nat → Int32 → Int32 → Int32 → gzIT → gzJT → Option (Int32 × gzIT × gzJT)
  | 0, _, _, _, _, _ => none
  | k + 1, x1, x2, x3, I, J => if I t 1 5 ≤ x3 then (f_X0_shareOut_25 φ t φ x1 x2 0 I J) else (gzGd (x3) 6 (f_X0_shareOut_2 φ t k x1 x2 (x3 + 1) (gz_ui I t 6 x3.toNatClampNeg 0) J))
set_option maxRecDepth 20000 in
theorem p_X0_shareOut_2 {g : gzG} {d φ : Nat} {t : Nat} (ht : t < 15) {r : Int32 × gzIT × gzJT} : ∀ (k : Nat) (x1 : Int32) (x2 : Int32) (x3 : Int32) (I : gzIT) (J : gzJT), f_X0_shareOut_2 φ t k x1 x2 x3 I J = some r → gP_X0_shareOut_2 g t d r x1 x2 x3 I J := by
  intro k; induction k with
  | zero => intro x1 x2 x3 I J h; cases h
  | succ k ih =>
    intro x1 x2 x3 I J h
    unfold f_X0_shareOut_2 at h
    unfold gP_X0_shareOut_2
    have z_t_1 : gzOk t 1 gzN := gzOk_of ht
    have z_t_6 : gzOk t 6 gzN := gzOk_of ht
    refine gz_iload_n (pc := 2) dX0_shareOut_2 rfl ?_
    refine gz_aload_n (pc := 3) dX0_shareOut_3 rfl ?_
    refine gi_X0_27 (pc := 4) dX0_shareOut_4 (v := I t 1 5) z_t_1 rfl rfl ?_
    refine gz_ic_ge (pc := 7) (tgt := 23) dX0_shareOut_7 (by decide) (fun c => ?_) (fun c => ?_)
    · replace h := gz_ifp c h
      refine gz_iconst (pc := 23) dX0_shareOut_23 (v := 0) (by decide) ?_
      refine gz_istore_n (pc := 24) dX0_shareOut_24 (by decide) rfl (loc2 := [some (.inr (.inr (t, 1))), some (.inl x1), some (.inl x2), some (.inl 0), none, none]) rfl ?_
      exact p_X0_shareOut_25 ht φ x1 x2 0 I J h
    · replace h := gz_ifn c h
      refine gz_aload_n (pc := 10) dX0_shareOut_10 rfl ?_
      refine gr_X0_24 (pc := 11) dX0_shareOut_11 z_t_1 rfl ?_
      refine gz_iload_n (pc := 14) dX0_shareOut_14 rfl ?_
      refine gz_iconst (pc := 15) dX0_shareOut_15 (v := 0) (by decide) ?_
      obtain ⟨b1, h⟩ := gz_gd h
      refine gz_iast2 (pc := 16) dX0_shareOut_16 (k := x3.toNatClampNeg) z_t_6 rfl b1 rfl ?_
      refine gz_iinc (pc := 17) dX0_shareOut_17 (x := x3) (v := x3 + 1) rfl (by rw [show Int32.ofInt 1 = 1 by decide]) (by decide) rfl (loc2 := [some (.inr (.inr (t, 1))), some (.inl x1), some (.inl x2), some (.inl (x3 + 1)), none, none]) rfl ?_
      refine gz_goto (pc := 20) (tgt := 2) dX0_shareOut_20 (by decide) ?_
      exact ih x1 x2 (x3 + 1) (gz_ui I t 6 x3.toNatClampNeg 0) J h
def f_X0_shareOut (φ : Nat) (t : Nat) (a1 : Int32) (a2 : Int32) (I : gzIT) (J : gzJT) : Option (Int32 × gzIT × gzJT) := f_X0_shareOut_2 φ t φ a1 a2 0 I J
set_option maxRecDepth 20000 in
theorem c_X0_shareOut {g : gzG} {d φ : Nat} {t : Nat} (ht : t < 15) {a1 : Int32} {a2 : Int32} {I : gzIT} {J : gzJT} {r : Int32 × gzIT × gzJT} (h : f_X0_shareOut φ t a1 a2 I J = some r) : gzC g 0 (d + 1) mX0_shareOut [.inr (.inr (t, 1)), .inl a1, .inl a2] (gzN, gzR0, I, J) (gzE (.ok (some (.inl r.1))) (gzN, gzR0, r.2.1, r.2.2)) := by
  unfold f_X0_shareOut at h
  refine gzC_of (by decide +kernel) (Nat.le_of_ble_eq_true rfl) (loc := [some (.inr (.inr (t, 1))), some (.inl a1), some (.inl a2), none, none, none]) rfl ?_
  refine gz_iconst (pc := 0) dX0_shareOut_0 (v := 0) (by decide) ?_
  refine gz_istore_n (pc := 1) dX0_shareOut_1 (by decide) rfl (loc2 := [some (.inr (.inr (t, 1))), some (.inl a1), some (.inl a2), some (.inl 0), none, none]) rfl ?_
  exact p_X0_shareOut_2 ht φ a1 a2 0 I J h
/-! X0_worth: worth -/
def f_X0_worth (t : Nat) (I : gzIT) (a1 : Int32) (a2 : Int32) : Option Int32 := Option.bind (f_X11_cell t 3 6 I a1) (fun v2 => some (a2 - (2 * (if 0 < a2 - (3 * v2) then a2 - (3 * v2) else 0))))
set_option maxRecDepth 20000 in
theorem c_X0_worth {g : gzG} {d : Nat} {t : Nat} (ht : t < 15) {a1 : Int32} {a2 : Int32} {I : gzIT} {J : gzJT} {r : Int32} (h : f_X0_worth t I a1 a2 = some r) : gzC g 0 (d + 1) mX0_worth [.inr (.inr (t, 1)), .inl a1, .inl a2] (gzN, gzR0, I, J) (gzE (.ok (some (.inl r))) (gzN, gzR0, I, J)) := by
  unfold f_X0_worth at h
  refine gzC_of (by decide +kernel) (Nat.le_of_ble_eq_true rfl) (loc := [some (.inr (.inr (t, 1))), some (.inl a1), some (.inl a2)]) rfl ?_
  have z_t_1 : gzOk t 1 gzN := gzOk_of ht
  have z_t_3 : gzOk t 3 gzN := gzOk_of ht
  refine gz_iload_n (pc := 0) dX0_worth_0 rfl ?_
  refine gz_iconst (pc := 1) dX0_worth_1 (v := 2) (by decide) ?_
  refine gz_iconst (pc := 2) dX0_worth_2 (v := 0) (by decide) ?_
  refine gz_iload_n (pc := 3) dX0_worth_3 rfl ?_
  refine gz_iconst (pc := 4) dX0_worth_4 (v := 3) (by decide) ?_
  refine gz_aload_n (pc := 5) dX0_worth_5 rfl ?_
  refine gr_X0_15 (pc := 6) dX0_worth_6 z_t_1 rfl ?_
  refine gz_iload_n (pc := 9) dX0_worth_9 rfl ?_
  refine gz_SN (zy := mX11_cell) (zc := 0) (pc := 10) [.inr (.inr (t, 3)), .inl a1] rfl dX0_worth_10 lnX0_41 MsX11_cell rfl (Or.inl rfl) (fun h => h) (by exact Nat.le_of_ble_eq_true rfl) ?_
  obtain ⟨v2, e1, h⟩ := gz_bd h
  refine gz_useI (c_X11_cell z_t_3 rfl e1) ?_
  refine gz_imul (pc := 13) dX0_worth_13  ?_
  refine gz_isub (pc := 14) dX0_worth_14  ?_
  refine gx_X0_53 (pc := 15) dX0_worth_15 (Nat.le_of_ble_eq_true rfl) rfl ?_
  refine gz_imul (pc := 18) dX0_worth_18  ?_
  refine gz_isub (pc := 19) dX0_worth_19  ?_
  cases h; exact gz_iret (pc := 20) dX0_worth_20 rfl ⟨rfl, rfl⟩
/-! X0_likes: likes -/
def f_X0_likes (t : Nat) (I : gzIT) (a1 : Int32) (a2 : Int32) : Option Int32 := Option.bind (f_X11_cell t 4 6 I a2) (fun v2 => Option.bind (f_X0_worth t I a1 v2) (fun v4 => Option.bind (f_X11_cell t 4 6 I a1) (fun v6 => Option.bind (f_X0_worth t I a1 v6) (fun v8 => some (if v4 ≤ v8 then (0 : Int32) else 1)))))
set_option maxRecDepth 20000 in
theorem c_X0_likes {g : gzG} {d : Nat} {t : Nat} (ht : t < 15) {a1 : Int32} {a2 : Int32} {I : gzIT} {J : gzJT} {r : Int32} (h : f_X0_likes t I a1 a2 = some r) : gzC g 0 (d + 2) mX0_likes [.inr (.inr (t, 1)), .inl a1, .inl a2] (gzN, gzR0, I, J) (gzE (.ok (some (.inl r))) (gzN, gzR0, I, J)) := by
  unfold f_X0_likes at h
  refine gzC_of (by decide +kernel) (Nat.le_of_ble_eq_true rfl) (loc := [some (.inr (.inr (t, 1))), some (.inl a1), some (.inl a2)]) rfl ?_
  have z_t_1 : gzOk t 1 gzN := gzOk_of ht
  have z_t_4 : gzOk t 4 gzN := gzOk_of ht
  refine gz_aload_n (pc := 0) dX0_likes_0 rfl ?_
  refine gz_iload_n (pc := 1) dX0_likes_1 rfl ?_
  refine gz_aload_n (pc := 2) dX0_likes_2 rfl ?_
  refine gr_X0_18 (pc := 3) dX0_likes_3 z_t_1 rfl ?_
  refine gz_iload_n (pc := 6) dX0_likes_6 rfl ?_
  refine gz_SN (zy := mX11_cell) (zc := 0) (pc := 7) [.inr (.inr (t, 4)), .inl a2] rfl dX0_likes_7 lnX0_41 MsX11_cell rfl (Or.inl rfl) (fun h => h) (by exact Nat.le_of_ble_eq_true rfl) ?_
  obtain ⟨v2, e1, h⟩ := gz_bd h
  refine gz_useI (c_X11_cell z_t_4 rfl e1) ?_
  refine gz_V (zy := mX0_worth) (zc := 0) (pc := 10) [.inl a1, .inl v2] rfl dX0_likes_10 lkX0_56 MvX0_worth rfl z_t_1 rfl rfl rfl (Or.inl rfl) (fun h => h) (by exact Nat.le_of_ble_eq_true rfl) ?_
  obtain ⟨v4, e3, h⟩ := gz_bd h
  refine gz_useI (c_X0_worth ht e3) ?_
  refine gz_aload_n (pc := 13) dX0_likes_13 rfl ?_
  refine gz_iload_n (pc := 14) dX0_likes_14 rfl ?_
  refine gz_aload_n (pc := 15) dX0_likes_15 rfl ?_
  refine gr_X0_18 (pc := 16) dX0_likes_16 z_t_1 rfl ?_
  refine gz_iload_n (pc := 19) dX0_likes_19 rfl ?_
  refine gz_SN (zy := mX11_cell) (zc := 0) (pc := 20) [.inr (.inr (t, 4)), .inl a1] rfl dX0_likes_20 lnX0_41 MsX11_cell rfl (Or.inl rfl) (fun h => h) (by exact Nat.le_of_ble_eq_true rfl) ?_
  obtain ⟨v6, e5, h⟩ := gz_bd h
  refine gz_useI (c_X11_cell z_t_4 rfl e5) ?_
  refine gz_V (zy := mX0_worth) (zc := 0) (pc := 23) [.inl a1, .inl v6] rfl dX0_likes_23 lkX0_56 MvX0_worth rfl z_t_1 rfl rfl rfl (Or.inl rfl) (fun h => h) (by exact Nat.le_of_ble_eq_true rfl) ?_
  obtain ⟨v8, e7, h⟩ := gz_bd h
  refine gz_useI (c_X0_worth ht e7) ?_
  have kj9 : gzX g 0 (d + 2) mX0_likes 34 [some (.inr (.inr (t, 1))), some (.inl a1), some (.inl a2)] ([.inl (if v4 ≤ v8 then (0 : Int32) else 1)]) (gzN, gzR0, I, J) 0 (gzE (.ok (some (.inl r))) (gzN, gzR0, I, J)) := by
    cases h; exact gz_zret (pc := 34) dX0_likes_34 rfl (by first | exact gz_ite01 | exact gz_ite10) ⟨rfl, rfl⟩
  refine gz_ic_le (pc := 26) (tgt := 33) dX0_likes_26 (by decide) (fun c => ?_) (fun c => ?_)
  · rw [if_pos c] at kj9
    refine gz_iconst (pc := 33) dX0_likes_33 (v := 0) (by decide) ?_
    exact kj9
  · rw [if_neg c] at kj9
    refine gz_iconst (pc := 29) dX0_likes_29 (v := 1) (by decide) ?_
    refine gz_goto (pc := 30) (tgt := 34) dX0_likes_30 (by decide) ?_
    exact kj9
/-! X0_allLarders: allLarders -/
def gP_X0_allLarders_4 (g : gzG) (t : Nat) (d : Nat) (r : Int32) (x1 : Int32) (x2 : Int32) (I : gzIT) (J : gzJT) : Prop := gzX g 0 d mX0_allLarders 4 [some (.inr (.inr (t, 1))), some (.inl x1), some (.inl x2)] [] (gzN, gzR0, I, J) 0 (gzE (.ok (some (.inl r))) (gzN, gzR0, I, J))
def f_X0_allLarders_4 (φ : Nat) (t : Nat) (I : gzIT) : Nat → Int32 → Int32 → Option Int32
  | 0, _, _ => none
  | k + 1, x1, x2 => if I t 1 5 ≤ x2 then (some x1) else (gzGd (x2) 6 (f_X0_allLarders_4 φ t I k (x1 + (I t 4 x2.toNatClampNeg)) (x2 + 1)))
set_option maxRecDepth 20000 in
theorem p_X0_allLarders_4 {g : gzG} {d φ : Nat} {t : Nat} (ht : t < 15) {I : gzIT} {J : gzJT} {r : Int32} : ∀ (k : Nat) (x1 : Int32) (x2 : Int32), f_X0_allLarders_4 φ t I k x1 x2 = some r → gP_X0_allLarders_4 g t d r x1 x2 I J := by
  intro k; induction k with
  | zero => intro x1 x2 h; cases h
  | succ k ih =>
    intro x1 x2 h
    unfold f_X0_allLarders_4 at h
    unfold gP_X0_allLarders_4
    have z_t_1 : gzOk t 1 gzN := gzOk_of ht
    have z_t_4 : gzOk t 4 gzN := gzOk_of ht
    refine gz_iload_n (pc := 4) dX0_allLarders_4 rfl ?_
    refine gz_aload_n (pc := 5) dX0_allLarders_5 rfl ?_
    refine gi_X0_27 (pc := 6) dX0_allLarders_6 (v := I t 1 5) z_t_1 rfl rfl ?_
    refine gz_ic_ge (pc := 9) (tgt := 27) dX0_allLarders_9 (by decide) (fun c => ?_) (fun c => ?_)
    · replace h := gz_ifp c h
      refine gz_iload_n (pc := 27) dX0_allLarders_27 rfl ?_
      cases h; exact gz_iret (pc := 28) dX0_allLarders_28 rfl ⟨rfl, rfl⟩
    · replace h := gz_ifn c h
      refine gz_iload_n (pc := 12) dX0_allLarders_12 rfl ?_
      refine gz_aload_n (pc := 13) dX0_allLarders_13 rfl ?_
      refine gr_X0_18 (pc := 14) dX0_allLarders_14 z_t_1 rfl ?_
      refine gz_iload_n (pc := 17) dX0_allLarders_17 rfl ?_
      obtain ⟨b1, h⟩ := gz_gd h
      refine gz_iald2 (pc := 18) dX0_allLarders_18 (k := x2.toNatClampNeg) (v := I t 4 x2.toNatClampNeg) z_t_4 rfl b1 rfl rfl ?_
      refine gz_iadd (pc := 19) dX0_allLarders_19  ?_
      refine gz_istore_n (pc := 20) dX0_allLarders_20 (by decide) rfl (loc2 := [some (.inr (.inr (t, 1))), some (.inl (x1 + (I t 4 x2.toNatClampNeg))), some (.inl x2)]) rfl ?_
      refine gz_iinc (pc := 21) dX0_allLarders_21 (x := x2) (v := x2 + 1) rfl (by rw [show Int32.ofInt 1 = 1 by decide]) (by decide) rfl (loc2 := [some (.inr (.inr (t, 1))), some (.inl (x1 + (I t 4 x2.toNatClampNeg))), some (.inl (x2 + 1))]) rfl ?_
      refine gz_goto (pc := 24) (tgt := 4) dX0_allLarders_24 (by decide) ?_
      exact ih (x1 + (I t 4 x2.toNatClampNeg)) (x2 + 1) h
def f_X0_allLarders (φ : Nat) (t : Nat) (I : gzIT) : Option Int32 := f_X0_allLarders_4 φ t I φ 0 0
set_option maxRecDepth 20000 in
theorem c_X0_allLarders {g : gzG} {d φ : Nat} {t : Nat} (ht : t < 15) {I : gzIT} {J : gzJT} {r : Int32} (h : f_X0_allLarders φ t I = some r) : gzC g 0 d mX0_allLarders [.inr (.inr (t, 1))] (gzN, gzR0, I, J) (gzE (.ok (some (.inl r))) (gzN, gzR0, I, J)) := by
  unfold f_X0_allLarders at h
  refine gzC_of (by decide +kernel) (Nat.le_of_ble_eq_true rfl) (loc := [some (.inr (.inr (t, 1))), none, none]) rfl ?_
  refine gz_iconst (pc := 0) dX0_allLarders_0 (v := 0) (by decide) ?_
  refine gz_istore_n (pc := 1) dX0_allLarders_1 (by decide) rfl (loc2 := [some (.inr (.inr (t, 1))), some (.inl 0), none]) rfl ?_
  refine gz_iconst (pc := 2) dX0_allLarders_2 (v := 0) (by decide) ?_
  refine gz_istore_n (pc := 3) dX0_allLarders_3 (by decide) rfl (loc2 := [some (.inr (.inr (t, 1))), some (.inl 0), some (.inl 0)]) rfl ?_
  exact p_X0_allLarders_4 ht φ 0 0 h
/-! X1_copyFrom: copyFrom -/
def gP_X1_copyFrom_57 (g : gzG) (t : Nat) (t1 : Nat) (d : Nat) (r : Unit × gzIT × gzJT) (x2 : Int32) (I : gzIT) (J : gzJT) : Prop := gzX g 0 (d + 1) mX1_copyFrom 57 [some (.inr (.inr (t, 7))), some (.inr (.inr (t1, 7))), some (.inl x2)] [] (gzN, gzR0, I, J) 0 (gzE (.ok none) (gzN, gzR0, r.2.1, r.2.2))
def f_X1_copyFrom_57 (φ : Nat) (t : Nat) (t1 : Nat) : Nat → Int32 → gzIT → gzJT → Option (Unit × gzIT × gzJT)
  | 0, _, _, _ => none
  | k + 1, x2, I, J => if 10 ≤ x2 then (some ((), gz_ui I t 7 7 (I t1 7 7), J)) else (gzGd (x2) 10 (gzGz (I t1 13 x2.toNatClampNeg) (gzGz (I t1 14 x2.toNatClampNeg) (f_X1_copyFrom_57 φ t t1 k (x2 + 1) (gz_ui (gz_ui I t 13 x2.toNatClampNeg (I t1 13 x2.toNatClampNeg)) t 14 x2.toNatClampNeg (I t1 14 x2.toNatClampNeg)) J))))
set_option maxRecDepth 20000 in
theorem p_X1_copyFrom_57 {g : gzG} {d φ : Nat} {t : Nat} {t1 : Nat} (ht : t < 15) (ht1 : t1 < 15) {r : Unit × gzIT × gzJT} : ∀ (k : Nat) (x2 : Int32) (I : gzIT) (J : gzJT), f_X1_copyFrom_57 φ t t1 k x2 I J = some r → gP_X1_copyFrom_57 g t t1 d r x2 I J := by
  intro k; induction k with
  | zero => intro x2 I J h; cases h
  | succ k ih =>
    intro x2 I J h
    unfold f_X1_copyFrom_57 at h
    unfold gP_X1_copyFrom_57
    have z_t1_7 : gzOk t1 7 gzN := gzOk_of ht1
    have z_t_7 : gzOk t 7 gzN := gzOk_of ht
    have z_t1_13 : gzOk t1 13 gzN := gzOk_of ht1
    have z_t_13 : gzOk t 13 gzN := gzOk_of ht
    have z_t1_14 : gzOk t1 14 gzN := gzOk_of ht1
    have z_t_14 : gzOk t 14 gzN := gzOk_of ht
    refine gz_iload_n (pc := 57) dX1_copyFrom_57 rfl ?_
    refine gz_bipush (pc := 58) dX1_copyFrom_58 (v := 10) (by decide) ?_
    refine gz_ic_ge (pc := 60) (tgt := 93) dX1_copyFrom_60 (by decide) (fun c => ?_) (fun c => ?_)
    · replace h := gz_ifp c h
      refine gz_aload_n (pc := 93) dX1_copyFrom_93 rfl ?_
      refine gz_aload_n (pc := 94) dX1_copyFrom_94 rfl ?_
      refine gi_X1_34 (pc := 95) dX1_copyFrom_95 (v := I t1 7 7) z_t1_7 rfl rfl ?_
      refine gp_X1_34 (pc := 98) dX1_copyFrom_98 z_t_7 rfl ?_
      cases h; exact gz_vret (pc := 101) dX1_copyFrom_101 rfl ⟨rfl, rfl⟩
    · replace h := gz_ifn c h
      refine gz_aload_n (pc := 63) dX1_copyFrom_63 rfl ?_
      refine gr_X1_27 (pc := 64) dX1_copyFrom_64 z_t_7 rfl ?_
      refine gz_iload_n (pc := 67) dX1_copyFrom_67 rfl ?_
      refine gz_aload_n (pc := 68) dX1_copyFrom_68 rfl ?_
      refine gr_X1_27 (pc := 69) dX1_copyFrom_69 z_t1_7 rfl ?_
      refine gz_iload_n (pc := 72) dX1_copyFrom_72 rfl ?_
      obtain ⟨b11, h⟩ := gz_gd h
      refine gz_zald2 (pc := 73) dX1_copyFrom_73 (k := x2.toNatClampNeg) (v := I t1 13 x2.toNatClampNeg) z_t1_13 rfl b11 rfl rfl ?_
      obtain ⟨b12, h⟩ := gz_gz h
      refine gz_zast2 (pc := 74) dX1_copyFrom_74 (k := x2.toNatClampNeg) z_t_13 rfl b11 b12 rfl ?_
      refine gz_aload_n (pc := 75) dX1_copyFrom_75 rfl ?_
      refine gr_X1_31 (pc := 76) dX1_copyFrom_76 z_t_7 rfl ?_
      refine gz_iload_n (pc := 79) dX1_copyFrom_79 rfl ?_
      refine gz_aload_n (pc := 80) dX1_copyFrom_80 rfl ?_
      refine gr_X1_31 (pc := 81) dX1_copyFrom_81 z_t1_7 rfl ?_
      refine gz_iload_n (pc := 84) dX1_copyFrom_84 rfl ?_
      refine gz_zald2 (pc := 85) dX1_copyFrom_85 (k := x2.toNatClampNeg) (v := I t1 14 x2.toNatClampNeg) z_t1_14 rfl b11 rfl (gz_ui_o (by decide)) ?_
      obtain ⟨b13, h⟩ := gz_gz h
      refine gz_zast2 (pc := 86) dX1_copyFrom_86 (k := x2.toNatClampNeg) z_t_14 rfl b11 b13 rfl ?_
      refine gz_iinc (pc := 87) dX1_copyFrom_87 (x := x2) (v := x2 + 1) rfl (by rw [show Int32.ofInt 1 = 1 by decide]) (by decide) rfl (loc2 := [some (.inr (.inr (t, 7))), some (.inr (.inr (t1, 7))), some (.inl (x2 + 1))]) rfl ?_
      refine gz_goto (pc := 90) (tgt := 57) dX1_copyFrom_90 (by decide) ?_
      exact ih (x2 + 1) (gz_ui (gz_ui I t 13 x2.toNatClampNeg (I t1 13 x2.toNatClampNeg)) t 14 x2.toNatClampNeg (I t1 14 x2.toNatClampNeg)) J h
def f_X1_copyFrom (φ : Nat) (t : Nat) (t1 : Nat) (I : gzIT) (J : gzJT) : Option (Unit × gzIT × gzJT) := Option.bind (f_X11_copy t1 8 10 t 8 10 I J) (fun v2 => Option.bind (f_X11_copy t1 9 10 t 9 10 v2.2.1 v2.2.2) (fun v4 => Option.bind (f_X11_copy t1 10 10 t 10 10 v4.2.1 v4.2.2) (fun v6 => Option.bind (f_X11_copy t1 11 10 t 11 10 v6.2.1 v6.2.2) (fun v8 => Option.bind (f_X11_copy t1 12 10 t 12 10 v8.2.1 v8.2.2) (fun v10 => f_X1_copyFrom_57 φ t t1 φ 0 v10.2.1 v10.2.2)))))
set_option maxRecDepth 20000 in
theorem c_X1_copyFrom {g : gzG} {d φ : Nat} {t : Nat} {t1 : Nat} (ht : t < 15) (ht1 : t1 < 15) {I : gzIT} {J : gzJT} {r : Unit × gzIT × gzJT} (h : f_X1_copyFrom φ t t1 I J = some r) : gzC g 0 (d + 1) mX1_copyFrom [.inr (.inr (t, 7)), .inr (.inr (t1, 7))] (gzN, gzR0, I, J) (gzE (.ok none) (gzN, gzR0, r.2.1, r.2.2)) := by
  unfold f_X1_copyFrom at h
  refine gzC_of (by decide +kernel) (Nat.le_of_ble_eq_true rfl) (loc := [some (.inr (.inr (t, 7))), some (.inr (.inr (t1, 7))), none]) rfl ?_
  have z_t1_7 : gzOk t1 7 gzN := gzOk_of ht1
  have z_t_7 : gzOk t 7 gzN := gzOk_of ht
  have z_t1_8 : gzOk t1 8 gzN := gzOk_of ht1
  have z_t_8 : gzOk t 8 gzN := gzOk_of ht
  have z_t1_9 : gzOk t1 9 gzN := gzOk_of ht1
  have z_t_9 : gzOk t 9 gzN := gzOk_of ht
  have z_t1_10 : gzOk t1 10 gzN := gzOk_of ht1
  have z_t_10 : gzOk t 10 gzN := gzOk_of ht
  have z_t1_11 : gzOk t1 11 gzN := gzOk_of ht1
  have z_t_11 : gzOk t 11 gzN := gzOk_of ht
  have z_t1_12 : gzOk t1 12 gzN := gzOk_of ht1
  have z_t_12 : gzOk t 12 gzN := gzOk_of ht
  refine gz_aload_n (pc := 0) dX1_copyFrom_0 rfl ?_
  refine gr_X1_9 (pc := 1) dX1_copyFrom_1 z_t1_7 rfl ?_
  refine gz_aload_n (pc := 4) dX1_copyFrom_4 rfl ?_
  refine gr_X1_9 (pc := 5) dX1_copyFrom_5 z_t_7 rfl ?_
  refine gz_SN (zy := mX11_copy) (zc := 0) (pc := 8) [.inr (.inr (t1, 8)), .inr (.inr (t, 8))] rfl dX1_copyFrom_8 lnX1_38 MsX11_copy rfl (Or.inl rfl) (fun h => h) (by exact Nat.le_of_ble_eq_true rfl) ?_
  obtain ⟨v2, e1, h⟩ := gz_bd h
  refine gz_useV (c_X11_copy z_t1_8 rfl z_t_8 rfl e1) ?_
  refine gz_aload_n (pc := 11) dX1_copyFrom_11 rfl ?_
  refine gr_X1_15 (pc := 12) dX1_copyFrom_12 z_t1_7 rfl ?_
  refine gz_aload_n (pc := 15) dX1_copyFrom_15 rfl ?_
  refine gr_X1_15 (pc := 16) dX1_copyFrom_16 z_t_7 rfl ?_
  refine gz_SN (zy := mX11_copy) (zc := 0) (pc := 19) [.inr (.inr (t1, 9)), .inr (.inr (t, 9))] rfl dX1_copyFrom_19 lnX1_38 MsX11_copy rfl (Or.inl rfl) (fun h => h) (by exact Nat.le_of_ble_eq_true rfl) ?_
  obtain ⟨v4, e3, h⟩ := gz_bd h
  refine gz_useV (c_X11_copy z_t1_9 rfl z_t_9 rfl e3) ?_
  refine gz_aload_n (pc := 22) dX1_copyFrom_22 rfl ?_
  refine gr_X1_18 (pc := 23) dX1_copyFrom_23 z_t1_7 rfl ?_
  refine gz_aload_n (pc := 26) dX1_copyFrom_26 rfl ?_
  refine gr_X1_18 (pc := 27) dX1_copyFrom_27 z_t_7 rfl ?_
  refine gz_SN (zy := mX11_copy) (zc := 0) (pc := 30) [.inr (.inr (t1, 10)), .inr (.inr (t, 10))] rfl dX1_copyFrom_30 lnX1_38 MsX11_copy rfl (Or.inl rfl) (fun h => h) (by exact Nat.le_of_ble_eq_true rfl) ?_
  obtain ⟨v6, e5, h⟩ := gz_bd h
  refine gz_useV (c_X11_copy z_t1_10 rfl z_t_10 rfl e5) ?_
  refine gz_aload_n (pc := 33) dX1_copyFrom_33 rfl ?_
  refine gr_X1_21 (pc := 34) dX1_copyFrom_34 z_t1_7 rfl ?_
  refine gz_aload_n (pc := 37) dX1_copyFrom_37 rfl ?_
  refine gr_X1_21 (pc := 38) dX1_copyFrom_38 z_t_7 rfl ?_
  refine gz_SN (zy := mX11_copy) (zc := 0) (pc := 41) [.inr (.inr (t1, 11)), .inr (.inr (t, 11))] rfl dX1_copyFrom_41 lnX1_38 MsX11_copy rfl (Or.inl rfl) (fun h => h) (by exact Nat.le_of_ble_eq_true rfl) ?_
  obtain ⟨v8, e7, h⟩ := gz_bd h
  refine gz_useV (c_X11_copy z_t1_11 rfl z_t_11 rfl e7) ?_
  refine gz_aload_n (pc := 44) dX1_copyFrom_44 rfl ?_
  refine gr_X1_24 (pc := 45) dX1_copyFrom_45 z_t1_7 rfl ?_
  refine gz_aload_n (pc := 48) dX1_copyFrom_48 rfl ?_
  refine gr_X1_24 (pc := 49) dX1_copyFrom_49 z_t_7 rfl ?_
  refine gz_SN (zy := mX11_copy) (zc := 0) (pc := 52) [.inr (.inr (t1, 12)), .inr (.inr (t, 12))] rfl dX1_copyFrom_52 lnX1_38 MsX11_copy rfl (Or.inl rfl) (fun h => h) (by exact Nat.le_of_ble_eq_true rfl) ?_
  obtain ⟨v10, e9, h⟩ := gz_bd h
  refine gz_useV (c_X11_copy z_t1_12 rfl z_t_12 rfl e9) ?_
  refine gz_iconst (pc := 55) dX1_copyFrom_55 (v := 0) (by decide) ?_
  refine gz_istore_n (pc := 56) dX1_copyFrom_56 (by decide) rfl (loc2 := [some (.inr (.inr (t, 7))), some (.inr (.inr (t1, 7))), some (.inl 0)]) rfl ?_
  exact p_X1_copyFrom_57 ht ht1 φ 0 v10.2.1 v10.2.2 h
/-! X1_add: add -/
def f_X1_add (t : Nat) (a1 : Int32) (a2 : Int32) (a3 : Int32) (a4 : Int32) (I : gzIT) (J : gzJT) : Option (Int32 × gzIT × gzJT) := if I t 7 7 < 10 then (gzGd (I t 7 7) 10 (some ((((I t 7 7) + 1) - 1), gz_ui (gz_ui (gz_ui (gz_ui (gz_ui (gz_ui (gz_ui (gz_ui I t 8 ((I t 7 7).toNatClampNeg) a1) t 9 ((I t 7 7).toNatClampNeg) a2) t 10 ((I t 7 7).toNatClampNeg) a3) t 11 ((I t 7 7).toNatClampNeg) 0) t 12 ((I t 7 7).toNatClampNeg) a4) t 13 ((I t 7 7).toNatClampNeg) 0) t 14 ((I t 7 7).toNatClampNeg) 0) t 7 7 ((I t 7 7) + 1), J))) else (some ((-1), I, J))
set_option maxRecDepth 20000 in
theorem c_X1_add {g : gzG} {d : Nat} {t : Nat} (ht : t < 15) {a1 : Int32} {a2 : Int32} {a3 : Int32} {a4 : Int32} {I : gzIT} {J : gzJT} {r : Int32 × gzIT × gzJT} (h : f_X1_add t a1 a2 a3 a4 I J = some r) : gzC g 0 d mX1_add [.inr (.inr (t, 7)), .inl a1, .inl a2, .inl a3, .inl a4] (gzN, gzR0, I, J) (gzE (.ok (some (.inl r.1))) (gzN, gzR0, r.2.1, r.2.2)) := by
  unfold f_X1_add at h
  refine gzC_of (by decide +kernel) (Nat.le_of_ble_eq_true rfl) (loc := [some (.inr (.inr (t, 7))), some (.inl a1), some (.inl a2), some (.inl a3), some (.inl a4)]) rfl ?_
  have z_t_7 : gzOk t 7 gzN := gzOk_of ht
  have z_t_8 : gzOk t 8 gzN := gzOk_of ht
  have z_t_9 : gzOk t 9 gzN := gzOk_of ht
  have z_t_10 : gzOk t 10 gzN := gzOk_of ht
  have z_t_11 : gzOk t 11 gzN := gzOk_of ht
  have z_t_12 : gzOk t 12 gzN := gzOk_of ht
  have z_t_13 : gzOk t 13 gzN := gzOk_of ht
  have z_t_14 : gzOk t 14 gzN := gzOk_of ht
  refine gz_aload_n (pc := 0) dX1_add_0 rfl ?_
  refine gi_X1_34 (pc := 1) dX1_add_1 (v := I t 7 7) z_t_7 rfl rfl ?_
  refine gz_bipush (pc := 4) dX1_add_4 (v := 10) (by decide) ?_
  refine gz_ic_lt (pc := 6) (tgt := 11) dX1_add_6 (by decide) (fun c => ?_) (fun c => ?_)
  · replace h := gz_ifp c h
    refine gz_aload_n (pc := 11) dX1_add_11 rfl ?_
    refine gr_X1_9 (pc := 12) dX1_add_12 z_t_7 rfl ?_
    refine gz_aload_n (pc := 15) dX1_add_15 rfl ?_
    refine gi_X1_34 (pc := 16) dX1_add_16 (v := I t 7 7) z_t_7 rfl rfl ?_
    refine gz_iload_n (pc := 19) dX1_add_19 rfl ?_
    obtain ⟨b1, h⟩ := gz_gd h
    refine gz_iast2 (pc := 20) dX1_add_20 (k := (I t 7 7).toNatClampNeg) z_t_8 rfl b1 rfl ?_
    refine gz_aload_n (pc := 21) dX1_add_21 rfl ?_
    refine gr_X1_15 (pc := 22) dX1_add_22 z_t_7 rfl ?_
    refine gz_aload_n (pc := 25) dX1_add_25 rfl ?_
    refine gi_X1_34 (pc := 26) dX1_add_26 (v := I t 7 7) z_t_7 (gz_ui_o (by decide)) rfl ?_
    refine gz_iload_n (pc := 29) dX1_add_29 rfl ?_
    refine gz_iast2 (pc := 30) dX1_add_30 (k := (I t 7 7).toNatClampNeg) z_t_9 rfl b1 rfl ?_
    refine gz_aload_n (pc := 31) dX1_add_31 rfl ?_
    refine gr_X1_18 (pc := 32) dX1_add_32 z_t_7 rfl ?_
    refine gz_aload_n (pc := 35) dX1_add_35 rfl ?_
    refine gi_X1_34 (pc := 36) dX1_add_36 (v := I t 7 7) z_t_7 ((gz_ui_o (by decide)).trans (gz_ui_o (by decide))) rfl ?_
    refine gz_iload_n (pc := 39) dX1_add_39 rfl ?_
    refine gz_iast2 (pc := 40) dX1_add_40 (k := (I t 7 7).toNatClampNeg) z_t_10 rfl b1 rfl ?_
    refine gz_aload_n (pc := 41) dX1_add_41 rfl ?_
    refine gr_X1_21 (pc := 42) dX1_add_42 z_t_7 rfl ?_
    refine gz_aload_n (pc := 45) dX1_add_45 rfl ?_
    refine gi_X1_34 (pc := 46) dX1_add_46 (v := I t 7 7) z_t_7 ((gz_ui_o (by decide)).trans ((gz_ui_o (by decide)).trans (gz_ui_o (by decide)))) rfl ?_
    refine gz_iconst (pc := 49) dX1_add_49 (v := 0) (by decide) ?_
    refine gz_iast2 (pc := 50) dX1_add_50 (k := (I t 7 7).toNatClampNeg) z_t_11 rfl b1 rfl ?_
    refine gz_aload_n (pc := 51) dX1_add_51 rfl ?_
    refine gr_X1_24 (pc := 52) dX1_add_52 z_t_7 rfl ?_
    refine gz_aload_n (pc := 55) dX1_add_55 rfl ?_
    refine gi_X1_34 (pc := 56) dX1_add_56 (v := I t 7 7) z_t_7 ((gz_ui_o (by decide)).trans ((gz_ui_o (by decide)).trans ((gz_ui_o (by decide)).trans (gz_ui_o (by decide))))) rfl ?_
    refine gz_iload (pc := 59) dX1_add_59 rfl ?_
    refine gz_iast2 (pc := 61) dX1_add_61 (k := (I t 7 7).toNatClampNeg) z_t_12 rfl b1 rfl ?_
    refine gz_aload_n (pc := 62) dX1_add_62 rfl ?_
    refine gr_X1_27 (pc := 63) dX1_add_63 z_t_7 rfl ?_
    refine gz_aload_n (pc := 66) dX1_add_66 rfl ?_
    refine gi_X1_34 (pc := 67) dX1_add_67 (v := I t 7 7) z_t_7 ((gz_ui_o (by decide)).trans ((gz_ui_o (by decide)).trans ((gz_ui_o (by decide)).trans ((gz_ui_o (by decide)).trans (gz_ui_o (by decide)))))) rfl ?_
    refine gz_iconst (pc := 70) dX1_add_70 (v := 0) (by decide) ?_
    refine gz_zast2 (pc := 71) dX1_add_71 (k := (I t 7 7).toNatClampNeg) z_t_13 rfl b1 (by decide) rfl ?_
    refine gz_aload_n (pc := 72) dX1_add_72 rfl ?_
    refine gr_X1_31 (pc := 73) dX1_add_73 z_t_7 rfl ?_
    refine gz_aload_n (pc := 76) dX1_add_76 rfl ?_
    refine gi_X1_34 (pc := 77) dX1_add_77 (v := I t 7 7) z_t_7 ((gz_ui_o (by decide)).trans ((gz_ui_o (by decide)).trans ((gz_ui_o (by decide)).trans ((gz_ui_o (by decide)).trans ((gz_ui_o (by decide)).trans (gz_ui_o (by decide))))))) rfl ?_
    refine gz_iconst (pc := 80) dX1_add_80 (v := 0) (by decide) ?_
    refine gz_zast2 (pc := 81) dX1_add_81 (k := (I t 7 7).toNatClampNeg) z_t_14 rfl b1 (by decide) rfl ?_
    refine gz_aload_n (pc := 82) dX1_add_82 rfl ?_
    refine gz_dupR (pc := 83) dX1_add_83  ?_
    refine gi_X1_34 (pc := 84) dX1_add_84 (v := I t 7 7) z_t_7 ((gz_ui_o (by decide)).trans ((gz_ui_o (by decide)).trans ((gz_ui_o (by decide)).trans ((gz_ui_o (by decide)).trans ((gz_ui_o (by decide)).trans ((gz_ui_o (by decide)).trans (gz_ui_o (by decide)))))))) rfl ?_
    refine gz_iconst (pc := 87) dX1_add_87 (v := 1) (by decide) ?_
    refine gz_iadd (pc := 88) dX1_add_88  ?_
    refine gp_X1_34 (pc := 89) dX1_add_89 z_t_7 rfl ?_
    refine gz_aload_n (pc := 92) dX1_add_92 rfl ?_
    refine gi_X1_34 (pc := 93) dX1_add_93 (v := (I t 7 7) + 1) z_t_7 (gz_ui_s) rfl ?_
    refine gz_iconst (pc := 96) dX1_add_96 (v := 1) (by decide) ?_
    refine gz_isub (pc := 97) dX1_add_97  ?_
    cases h; exact gz_iret (pc := 98) dX1_add_98 rfl ⟨rfl, rfl⟩
  · replace h := gz_ifn c h
    refine gz_iconst (pc := 9) dX1_add_9 (v := (-1)) (by decide) ?_
    cases h; exact gz_iret (pc := 10) dX1_add_10 rfl ⟨rfl, rfl⟩
/-! X1_offend: offend -/
def f_X1_offend (t : Nat) (a1 : Int32) (a2 : Int32) (a3 : Int32) (I : gzIT) (J : gzJT) : Option (Unit × gzIT × gzJT) := Option.bind (f_X11_write t 10 10 a1 a2 I J) (fun v2 => Option.bind (f_X11_cell t 12 10 v2.2.1 a1) (fun v4 => Option.bind (f_X11_write t 12 10 a1 (if v4 + a3 < 999 then v4 + a3 else 999) v2.2.1 v2.2.2) (fun v6 => some ((), v6.2.1, v6.2.2))))
set_option maxRecDepth 20000 in
theorem c_X1_offend {g : gzG} {d : Nat} {t : Nat} (ht : t < 15) {a1 : Int32} {a2 : Int32} {a3 : Int32} {I : gzIT} {J : gzJT} {r : Unit × gzIT × gzJT} (h : f_X1_offend t a1 a2 a3 I J = some r) : gzC g 0 (d + 1) mX1_offend [.inr (.inr (t, 7)), .inl a1, .inl a2, .inl a3] (gzN, gzR0, I, J) (gzE (.ok none) (gzN, gzR0, r.2.1, r.2.2)) := by
  unfold f_X1_offend at h
  refine gzC_of (by decide +kernel) (Nat.le_of_ble_eq_true rfl) (loc := [some (.inr (.inr (t, 7))), some (.inl a1), some (.inl a2), some (.inl a3)]) rfl ?_
  have z_t_7 : gzOk t 7 gzN := gzOk_of ht
  have z_t_10 : gzOk t 10 gzN := gzOk_of ht
  have z_t_12 : gzOk t 12 gzN := gzOk_of ht
  refine gz_aload_n (pc := 0) dX1_offend_0 rfl ?_
  refine gr_X1_18 (pc := 1) dX1_offend_1 z_t_7 rfl ?_
  refine gz_iload_n (pc := 4) dX1_offend_4 rfl ?_
  refine gz_iload_n (pc := 5) dX1_offend_5 rfl ?_
  refine gz_SN (zy := mX11_write) (zc := 0) (pc := 6) [.inr (.inr (t, 10)), .inl a1, .inl a2] rfl dX1_offend_6 lnX1_42 MsX11_write rfl (Or.inl rfl) (fun h => h) (by exact Nat.le_of_ble_eq_true rfl) ?_
  obtain ⟨v2, e1, h⟩ := gz_bd h
  refine gz_useV (c_X11_write z_t_10 rfl e1) ?_
  refine gz_aload_n (pc := 9) dX1_offend_9 rfl ?_
  refine gr_X1_24 (pc := 10) dX1_offend_10 z_t_7 rfl ?_
  refine gz_iload_n (pc := 13) dX1_offend_13 rfl ?_
  refine gz_sipush (pc := 14) dX1_offend_14 (v := 999) (by decide) ?_
  refine gz_aload_n (pc := 17) dX1_offend_17 rfl ?_
  refine gr_X1_24 (pc := 18) dX1_offend_18 z_t_7 rfl ?_
  refine gz_iload_n (pc := 21) dX1_offend_21 rfl ?_
  refine gz_SN (zy := mX11_cell) (zc := 0) (pc := 22) [.inr (.inr (t, 12)), .inl a1] rfl dX1_offend_22 lnX1_46 MsX11_cell rfl (Or.inl rfl) (fun h => h) (by exact Nat.le_of_ble_eq_true rfl) ?_
  obtain ⟨v4, e3, h⟩ := gz_bd h
  refine gz_useI (c_X11_cell z_t_12 rfl e3) ?_
  refine gz_iload_n (pc := 25) dX1_offend_25 rfl ?_
  refine gz_iadd (pc := 26) dX1_offend_26  ?_
  refine gn_X1_50 (pc := 27) dX1_offend_27 (Nat.le_of_ble_eq_true rfl) rfl ?_
  refine gz_SN (zy := mX11_write) (zc := 0) (pc := 30) [.inr (.inr (t, 12)), .inl a1, .inl (if v4 + a3 < 999 then v4 + a3 else 999)] rfl dX1_offend_30 lnX1_42 MsX11_write rfl (Or.inl rfl) (fun h => h) (by exact Nat.le_of_ble_eq_true rfl) ?_
  obtain ⟨v6, e5, h⟩ := gz_bd h
  refine gz_useV (c_X11_write z_t_12 rfl e5) ?_
  cases h; exact gz_vret (pc := 33) dX1_offend_33 rfl ⟨rfl, rfl⟩
/-! X1_makeNursed: makeNursed -/
def f_X1_makeNursed (t : Nat) (a1 : Int32) (I : gzIT) (J : gzJT) : Option (Unit × gzIT × gzJT) := if a1 < 0 then (some ((), I, J)) else (if I t 7 7 ≤ a1 then (some ((), I, J)) else (gzGd (a1) 10 (some ((), gz_ui I t 13 a1.toNatClampNeg 1, J))))
set_option maxRecDepth 20000 in
theorem c_X1_makeNursed {g : gzG} {d : Nat} {t : Nat} (ht : t < 15) {a1 : Int32} {I : gzIT} {J : gzJT} {r : Unit × gzIT × gzJT} (h : f_X1_makeNursed t a1 I J = some r) : gzC g 0 d mX1_makeNursed [.inr (.inr (t, 7)), .inl a1] (gzN, gzR0, I, J) (gzE (.ok none) (gzN, gzR0, r.2.1, r.2.2)) := by
  unfold f_X1_makeNursed at h
  refine gzC_of (by decide +kernel) (Nat.le_of_ble_eq_true rfl) (loc := [some (.inr (.inr (t, 7))), some (.inl a1)]) rfl ?_
  have z_t_7 : gzOk t 7 gzN := gzOk_of ht
  have z_t_13 : gzOk t 13 gzN := gzOk_of ht
  refine gz_iload_n (pc := 0) dX1_makeNursed_0 rfl ?_
  refine gz_if_lt (pc := 1) (tgt := 19) dX1_makeNursed_1 (by decide) (fun c => ?_) (fun c => ?_)
  · replace h := gz_ifp c h
    cases h; exact gz_vret (pc := 19) dX1_makeNursed_19 rfl ⟨rfl, rfl⟩
  · replace h := gz_ifn c h
    refine gz_iload_n (pc := 4) dX1_makeNursed_4 rfl ?_
    refine gz_aload_n (pc := 5) dX1_makeNursed_5 rfl ?_
    refine gi_X1_34 (pc := 6) dX1_makeNursed_6 (v := I t 7 7) z_t_7 rfl rfl ?_
    refine gz_ic_ge (pc := 9) (tgt := 19) dX1_makeNursed_9 (by decide) (fun c => ?_) (fun c => ?_)
    · replace h := gz_ifp c h
      cases h; exact gz_vret (pc := 19) dX1_makeNursed_19 rfl ⟨rfl, rfl⟩
    · replace h := gz_ifn c h
      refine gz_aload_n (pc := 12) dX1_makeNursed_12 rfl ?_
      refine gr_X1_27 (pc := 13) dX1_makeNursed_13 z_t_7 rfl ?_
      refine gz_iload_n (pc := 16) dX1_makeNursed_16 rfl ?_
      refine gz_iconst (pc := 17) dX1_makeNursed_17 (v := 1) (by decide) ?_
      obtain ⟨b1, h⟩ := gz_gd h
      refine gz_zast2 (pc := 18) dX1_makeNursed_18 (k := a1.toNatClampNeg) z_t_13 rfl b1 (by decide) rfl ?_
      cases h; exact gz_vret (pc := 19) dX1_makeNursed_19 rfl ⟨rfl, rfl⟩
/-! X1_frozen: frozen -/
def f_X1_frozen (t : Nat) (I : gzIT) (a1 : Int32) : Option Int32 := if a1 < 0 then (some 0) else (if I t 7 7 ≤ a1 then (some 0) else (gzGd (a1) 10 (if ¬ I t 14 a1.toNatClampNeg = 0 then (some 0) else (some 1))))
set_option maxRecDepth 20000 in
theorem c_X1_frozen {g : gzG} {d : Nat} {t : Nat} (ht : t < 15) {a1 : Int32} {I : gzIT} {J : gzJT} {r : Int32} (h : f_X1_frozen t I a1 = some r) : gzC g 0 d mX1_frozen [.inr (.inr (t, 7)), .inl a1] (gzN, gzR0, I, J) (gzE (.ok (some (.inl r))) (gzN, gzR0, I, J)) := by
  unfold f_X1_frozen at h
  refine gzC_of (by decide +kernel) (Nat.le_of_ble_eq_true rfl) (loc := [some (.inr (.inr (t, 7))), some (.inl a1)]) rfl ?_
  have z_t_7 : gzOk t 7 gzN := gzOk_of ht
  have z_t_14 : gzOk t 14 gzN := gzOk_of ht
  refine gz_iload_n (pc := 0) dX1_frozen_0 rfl ?_
  refine gz_if_lt (pc := 1) (tgt := 25) dX1_frozen_1 (by decide) (fun c => ?_) (fun c => ?_)
  · replace h := gz_ifp c h
    refine gz_iconst (pc := 25) dX1_frozen_25 (v := 0) (by decide) ?_
    cases h; exact gz_zret (pc := 26) dX1_frozen_26 rfl (by decide) ⟨rfl, rfl⟩
  · replace h := gz_ifn c h
    refine gz_iload_n (pc := 4) dX1_frozen_4 rfl ?_
    refine gz_aload_n (pc := 5) dX1_frozen_5 rfl ?_
    refine gi_X1_34 (pc := 6) dX1_frozen_6 (v := I t 7 7) z_t_7 rfl rfl ?_
    refine gz_ic_ge (pc := 9) (tgt := 25) dX1_frozen_9 (by decide) (fun c => ?_) (fun c => ?_)
    · replace h := gz_ifp c h
      refine gz_iconst (pc := 25) dX1_frozen_25 (v := 0) (by decide) ?_
      cases h; exact gz_zret (pc := 26) dX1_frozen_26 rfl (by decide) ⟨rfl, rfl⟩
    · replace h := gz_ifn c h
      refine gz_aload_n (pc := 12) dX1_frozen_12 rfl ?_
      refine gr_X1_31 (pc := 13) dX1_frozen_13 z_t_7 rfl ?_
      refine gz_iload_n (pc := 16) dX1_frozen_16 rfl ?_
      obtain ⟨b1, h⟩ := gz_gd h
      refine gz_zald2 (pc := 17) dX1_frozen_17 (k := a1.toNatClampNeg) (v := I t 14 a1.toNatClampNeg) z_t_14 rfl b1 rfl rfl ?_
      refine gz_if_ne (pc := 18) (tgt := 25) dX1_frozen_18 (by decide) (fun c => ?_) (fun c => ?_)
      · replace h := gz_ifp c h
        refine gz_iconst (pc := 25) dX1_frozen_25 (v := 0) (by decide) ?_
        cases h; exact gz_zret (pc := 26) dX1_frozen_26 rfl (by decide) ⟨rfl, rfl⟩
      · replace h := gz_ifn (fun q => q c) h
        refine gz_iconst (pc := 21) dX1_frozen_21 (v := 1) (by decide) ?_
        refine gz_goto (pc := 22) (tgt := 26) dX1_frozen_22 (by decide) ?_
        cases h; exact gz_zret (pc := 26) dX1_frozen_26 rfl (by decide) ⟨rfl, rfl⟩
/-! X1_frozenOnes: frozenOnes -/
def gP_X1_frozenOnes_4 (g : gzG) (t : Nat) (d : Nat) (r : Int32) (x1 : Int32) (x2 : Int32) (I : gzIT) (J : gzJT) : Prop := gzX g 0 d mX1_frozenOnes 4 [some (.inr (.inr (t, 7))), some (.inl x1), some (.inl x2)] [] (gzN, gzR0, I, J) 0 (gzE (.ok (some (.inl r))) (gzN, gzR0, I, J))
def f_X1_frozenOnes_4 (φ : Nat) (t : Nat) (I : gzIT) : Nat → Int32 → Int32 → Option Int32
  | 0, _, _ => none
  | k + 1, x1, x2 => if I t 7 7 ≤ x2 then (some x1) else (gzGd (x2) 10 (if ¬ I t 14 x2.toNatClampNeg = 0 then (f_X1_frozenOnes_4 φ t I k x1 (x2 + 1)) else (f_X1_frozenOnes_4 φ t I k (x1 ||| ((1 : Int32) <<< (x2 &&& 31))) (x2 + 1))))
set_option maxRecDepth 20000 in
theorem p_X1_frozenOnes_4 {g : gzG} {d φ : Nat} {t : Nat} (ht : t < 15) {I : gzIT} {J : gzJT} {r : Int32} : ∀ (k : Nat) (x1 : Int32) (x2 : Int32), f_X1_frozenOnes_4 φ t I k x1 x2 = some r → gP_X1_frozenOnes_4 g t d r x1 x2 I J := by
  intro k; induction k with
  | zero => intro x1 x2 h; cases h
  | succ k ih =>
    intro x1 x2 h
    unfold f_X1_frozenOnes_4 at h
    unfold gP_X1_frozenOnes_4
    have z_t_7 : gzOk t 7 gzN := gzOk_of ht
    have z_t_14 : gzOk t 14 gzN := gzOk_of ht
    refine gz_iload_n (pc := 4) dX1_frozenOnes_4 rfl ?_
    refine gz_aload_n (pc := 5) dX1_frozenOnes_5 rfl ?_
    refine gi_X1_34 (pc := 6) dX1_frozenOnes_6 (v := I t 7 7) z_t_7 rfl rfl ?_
    refine gz_ic_ge (pc := 9) (tgt := 33) dX1_frozenOnes_9 (by decide) (fun c => ?_) (fun c => ?_)
    · replace h := gz_ifp c h
      refine gz_iload_n (pc := 33) dX1_frozenOnes_33 rfl ?_
      cases h; exact gz_iret (pc := 34) dX1_frozenOnes_34 rfl ⟨rfl, rfl⟩
    · replace h := gz_ifn c h
      refine gz_aload_n (pc := 12) dX1_frozenOnes_12 rfl ?_
      refine gr_X1_31 (pc := 13) dX1_frozenOnes_13 z_t_7 rfl ?_
      refine gz_iload_n (pc := 16) dX1_frozenOnes_16 rfl ?_
      obtain ⟨b1, h⟩ := gz_gd h
      refine gz_zald2 (pc := 17) dX1_frozenOnes_17 (k := x2.toNatClampNeg) (v := I t 14 x2.toNatClampNeg) z_t_14 rfl b1 rfl rfl ?_
      refine gz_if_ne (pc := 18) (tgt := 27) dX1_frozenOnes_18 (by decide) (fun c => ?_) (fun c => ?_)
      · replace h := gz_ifp c h
        refine gz_iinc (pc := 27) dX1_frozenOnes_27 (x := x2) (v := x2 + 1) rfl (by rw [show Int32.ofInt 1 = 1 by decide]) (by decide) rfl (loc2 := [some (.inr (.inr (t, 7))), some (.inl x1), some (.inl (x2 + 1))]) rfl ?_
        refine gz_goto (pc := 30) (tgt := 4) dX1_frozenOnes_30 (by decide) ?_
        exact ih x1 (x2 + 1) h
      · replace h := gz_ifn (fun q => q c) h
        refine gz_iload_n (pc := 21) dX1_frozenOnes_21 rfl ?_
        refine gz_iconst (pc := 22) dX1_frozenOnes_22 (v := 1) (by decide) ?_
        refine gz_iload_n (pc := 23) dX1_frozenOnes_23 rfl ?_
        refine gz_ishl (pc := 24) dX1_frozenOnes_24  ?_
        refine gz_ior (pc := 25) dX1_frozenOnes_25  ?_
        refine gz_istore_n (pc := 26) dX1_frozenOnes_26 (by decide) rfl (loc2 := [some (.inr (.inr (t, 7))), some (.inl (x1 ||| ((1 : Int32) <<< (x2 &&& 31)))), some (.inl x2)]) rfl ?_
        refine gz_iinc (pc := 27) dX1_frozenOnes_27 (x := x2) (v := x2 + 1) rfl (by rw [show Int32.ofInt 1 = 1 by decide]) (by decide) rfl (loc2 := [some (.inr (.inr (t, 7))), some (.inl (x1 ||| ((1 : Int32) <<< (x2 &&& 31)))), some (.inl (x2 + 1))]) rfl ?_
        refine gz_goto (pc := 30) (tgt := 4) dX1_frozenOnes_30 (by decide) ?_
        exact ih (x1 ||| ((1 : Int32) <<< (x2 &&& 31))) (x2 + 1) h
def f_X1_frozenOnes (φ : Nat) (t : Nat) (I : gzIT) : Option Int32 := f_X1_frozenOnes_4 φ t I φ 0 0
set_option maxRecDepth 20000 in
theorem c_X1_frozenOnes {g : gzG} {d φ : Nat} {t : Nat} (ht : t < 15) {I : gzIT} {J : gzJT} {r : Int32} (h : f_X1_frozenOnes φ t I = some r) : gzC g 0 d mX1_frozenOnes [.inr (.inr (t, 7))] (gzN, gzR0, I, J) (gzE (.ok (some (.inl r))) (gzN, gzR0, I, J)) := by
  unfold f_X1_frozenOnes at h
  refine gzC_of (by decide +kernel) (Nat.le_of_ble_eq_true rfl) (loc := [some (.inr (.inr (t, 7))), none, none]) rfl ?_
  refine gz_iconst (pc := 0) dX1_frozenOnes_0 (v := 0) (by decide) ?_
  refine gz_istore_n (pc := 1) dX1_frozenOnes_1 (by decide) rfl (loc2 := [some (.inr (.inr (t, 7))), some (.inl 0), none]) rfl ?_
  refine gz_iconst (pc := 2) dX1_frozenOnes_2 (v := 0) (by decide) ?_
  refine gz_istore_n (pc := 3) dX1_frozenOnes_3 (by decide) rfl (loc2 := [some (.inr (.inr (t, 7))), some (.inl 0), some (.inl 0)]) rfl ?_
  exact p_X1_frozenOnes_4 ht φ 0 0 h
/-! X1_find: find -/
def gP_X1_find_2 (g : gzG) (t : Nat) (d : Nat) (r : Int32) (x1 : Int32) (x2 : Int32) (x3 : Int32) (I : gzIT) (J : gzJT) : Prop := gzX g 0 d mX1_find 2 [some (.inr (.inr (t, 7))), some (.inl x1), some (.inl x2), some (.inl x3)] [] (gzN, gzR0, I, J) 0 (gzE (.ok (some (.inl r))) (gzN, gzR0, I, J))
def f_X1_find_2 (φ : Nat) (t : Nat) (I : gzIT) : Nat → Int32 → Int32 → Int32 → Option Int32
  | 0, _, _, _ => none
  | k + 1, x1, x2, x3 => if I t 7 7 ≤ x3 then (some (-1)) else (gzGd (x3) 10 (if ¬ I t 14 x3.toNatClampNeg = 0 then (f_X1_find_2 φ t I k x1 x2 (x3 + 1)) else (if ¬ I t 8 x3.toNatClampNeg = x1 then (f_X1_find_2 φ t I k x1 x2 (x3 + 1)) else (if ¬ I t 9 x3.toNatClampNeg = x2 then (f_X1_find_2 φ t I k x1 x2 (x3 + 1)) else (some x3)))))
set_option maxRecDepth 20000 in
theorem p_X1_find_2 {g : gzG} {d φ : Nat} {t : Nat} (ht : t < 15) {I : gzIT} {J : gzJT} {r : Int32} : ∀ (k : Nat) (x1 : Int32) (x2 : Int32) (x3 : Int32), f_X1_find_2 φ t I k x1 x2 x3 = some r → gP_X1_find_2 g t d r x1 x2 x3 I J := by
  intro k; induction k with
  | zero => intro x1 x2 x3 h; cases h
  | succ k ih =>
    intro x1 x2 x3 h
    unfold f_X1_find_2 at h
    unfold gP_X1_find_2
    have z_t_7 : gzOk t 7 gzN := gzOk_of ht
    have z_t_14 : gzOk t 14 gzN := gzOk_of ht
    have z_t_8 : gzOk t 8 gzN := gzOk_of ht
    have z_t_9 : gzOk t 9 gzN := gzOk_of ht
    refine gz_iload_n (pc := 2) dX1_find_2 rfl ?_
    refine gz_aload_n (pc := 3) dX1_find_3 rfl ?_
    refine gi_X1_34 (pc := 4) dX1_find_4 (v := I t 7 7) z_t_7 rfl rfl ?_
    refine gz_ic_ge (pc := 7) (tgt := 47) dX1_find_7 (by decide) (fun c => ?_) (fun c => ?_)
    · replace h := gz_ifp c h
      refine gz_iconst (pc := 47) dX1_find_47 (v := (-1)) (by decide) ?_
      cases h; exact gz_iret (pc := 48) dX1_find_48 rfl ⟨rfl, rfl⟩
    · replace h := gz_ifn c h
      refine gz_aload_n (pc := 10) dX1_find_10 rfl ?_
      refine gr_X1_31 (pc := 11) dX1_find_11 z_t_7 rfl ?_
      refine gz_iload_n (pc := 14) dX1_find_14 rfl ?_
      obtain ⟨b1, h⟩ := gz_gd h
      refine gz_zald2 (pc := 15) dX1_find_15 (k := x3.toNatClampNeg) (v := I t 14 x3.toNatClampNeg) z_t_14 rfl b1 rfl rfl ?_
      refine gz_if_ne (pc := 16) (tgt := 41) dX1_find_16 (by decide) (fun c => ?_) (fun c => ?_)
      · replace h := gz_ifp c h
        refine gz_iinc (pc := 41) dX1_find_41 (x := x3) (v := x3 + 1) rfl (by rw [show Int32.ofInt 1 = 1 by decide]) (by decide) rfl (loc2 := [some (.inr (.inr (t, 7))), some (.inl x1), some (.inl x2), some (.inl (x3 + 1))]) rfl ?_
        refine gz_goto (pc := 44) (tgt := 2) dX1_find_44 (by decide) ?_
        exact ih x1 x2 (x3 + 1) h
      · replace h := gz_ifn (fun q => q c) h
        refine gz_aload_n (pc := 19) dX1_find_19 rfl ?_
        refine gr_X1_9 (pc := 20) dX1_find_20 z_t_7 rfl ?_
        refine gz_iload_n (pc := 23) dX1_find_23 rfl ?_
        refine gz_iald2 (pc := 24) dX1_find_24 (k := x3.toNatClampNeg) (v := I t 8 x3.toNatClampNeg) z_t_8 rfl b1 rfl rfl ?_
        refine gz_iload_n (pc := 25) dX1_find_25 rfl ?_
        refine gz_ic_ne (pc := 26) (tgt := 41) dX1_find_26 (by decide) (fun c => ?_) (fun c => ?_)
        · replace h := gz_ifp c h
          refine gz_iinc (pc := 41) dX1_find_41 (x := x3) (v := x3 + 1) rfl (by rw [show Int32.ofInt 1 = 1 by decide]) (by decide) rfl (loc2 := [some (.inr (.inr (t, 7))), some (.inl x1), some (.inl x2), some (.inl (x3 + 1))]) rfl ?_
          refine gz_goto (pc := 44) (tgt := 2) dX1_find_44 (by decide) ?_
          exact ih x1 x2 (x3 + 1) h
        · replace h := gz_ifn (fun q => q c) h
          refine gz_aload_n (pc := 29) dX1_find_29 rfl ?_
          refine gr_X1_15 (pc := 30) dX1_find_30 z_t_7 rfl ?_
          refine gz_iload_n (pc := 33) dX1_find_33 rfl ?_
          refine gz_iald2 (pc := 34) dX1_find_34 (k := x3.toNatClampNeg) (v := I t 9 x3.toNatClampNeg) z_t_9 rfl b1 rfl rfl ?_
          refine gz_iload_n (pc := 35) dX1_find_35 rfl ?_
          refine gz_ic_ne (pc := 36) (tgt := 41) dX1_find_36 (by decide) (fun c => ?_) (fun c => ?_)
          · replace h := gz_ifp c h
            refine gz_iinc (pc := 41) dX1_find_41 (x := x3) (v := x3 + 1) rfl (by rw [show Int32.ofInt 1 = 1 by decide]) (by decide) rfl (loc2 := [some (.inr (.inr (t, 7))), some (.inl x1), some (.inl x2), some (.inl (x3 + 1))]) rfl ?_
            refine gz_goto (pc := 44) (tgt := 2) dX1_find_44 (by decide) ?_
            exact ih x1 x2 (x3 + 1) h
          · replace h := gz_ifn (fun q => q c) h
            refine gz_iload_n (pc := 39) dX1_find_39 rfl ?_
            cases h; exact gz_iret (pc := 40) dX1_find_40 rfl ⟨rfl, rfl⟩
def f_X1_find (φ : Nat) (t : Nat) (I : gzIT) (a1 : Int32) (a2 : Int32) : Option Int32 := f_X1_find_2 φ t I φ a1 a2 0
set_option maxRecDepth 20000 in
theorem c_X1_find {g : gzG} {d φ : Nat} {t : Nat} (ht : t < 15) {a1 : Int32} {a2 : Int32} {I : gzIT} {J : gzJT} {r : Int32} (h : f_X1_find φ t I a1 a2 = some r) : gzC g 0 d mX1_find [.inr (.inr (t, 7)), .inl a1, .inl a2] (gzN, gzR0, I, J) (gzE (.ok (some (.inl r))) (gzN, gzR0, I, J)) := by
  unfold f_X1_find at h
  refine gzC_of (by decide +kernel) (Nat.le_of_ble_eq_true rfl) (loc := [some (.inr (.inr (t, 7))), some (.inl a1), some (.inl a2), none]) rfl ?_
  refine gz_iconst (pc := 0) dX1_find_0 (v := 0) (by decide) ?_
  refine gz_istore_n (pc := 1) dX1_find_1 (by decide) rfl (loc2 := [some (.inr (.inr (t, 7))), some (.inl a1), some (.inl a2), some (.inl 0)]) rfl ?_
  exact p_X1_find_2 ht φ a1 a2 0 h
/-! X1_isOf: isOf -/
def f_X1_isOf (t : Nat) (I : gzIT) (a1 : Int32) (a2 : Int32) : Option Int32 := Option.bind (f_X11_cell t 8 10 I a1) (fun v2 => if v2 = a2 then (some 1) else (Option.bind (f_X11_cell t 9 10 I a1) (fun v4 => some (if ¬ v4 = a2 then (0 : Int32) else 1))))
set_option maxRecDepth 20000 in
theorem c_X1_isOf {g : gzG} {d : Nat} {t : Nat} (ht : t < 15) {a1 : Int32} {a2 : Int32} {I : gzIT} {J : gzJT} {r : Int32} (h : f_X1_isOf t I a1 a2 = some r) : gzC g 0 (d + 1) mX1_isOf [.inr (.inr (t, 7)), .inl a1, .inl a2] (gzN, gzR0, I, J) (gzE (.ok (some (.inl r))) (gzN, gzR0, I, J)) := by
  unfold f_X1_isOf at h
  refine gzC_of (by decide +kernel) (Nat.le_of_ble_eq_true rfl) (loc := [some (.inr (.inr (t, 7))), some (.inl a1), some (.inl a2)]) rfl ?_
  have z_t_7 : gzOk t 7 gzN := gzOk_of ht
  have z_t_8 : gzOk t 8 gzN := gzOk_of ht
  have z_t_9 : gzOk t 9 gzN := gzOk_of ht
  refine gz_aload_n (pc := 0) dX1_isOf_0 rfl ?_
  refine gr_X1_9 (pc := 1) dX1_isOf_1 z_t_7 rfl ?_
  refine gz_iload_n (pc := 4) dX1_isOf_4 rfl ?_
  refine gz_SN (zy := mX11_cell) (zc := 0) (pc := 5) [.inr (.inr (t, 8)), .inl a1] rfl dX1_isOf_5 lnX1_46 MsX11_cell rfl (Or.inl rfl) (fun h => h) (by exact Nat.le_of_ble_eq_true rfl) ?_
  obtain ⟨v2, e1, h⟩ := gz_bd h
  refine gz_useI (c_X11_cell z_t_8 rfl e1) ?_
  refine gz_iload_n (pc := 8) dX1_isOf_8 rfl ?_
  refine gz_ic_eq (pc := 9) (tgt := 24) dX1_isOf_9 (by decide) (fun c => ?_) (fun c => ?_)
  · replace h := gz_ifp c h
    refine gz_iconst (pc := 24) dX1_isOf_24 (v := 1) (by decide) ?_
    refine gz_goto (pc := 25) (tgt := 29) dX1_isOf_25 (by decide) ?_
    cases h; exact gz_zret (pc := 29) dX1_isOf_29 rfl (by decide) ⟨rfl, rfl⟩
  · replace h := gz_ifn c h
    refine gz_aload_n (pc := 12) dX1_isOf_12 rfl ?_
    refine gr_X1_15 (pc := 13) dX1_isOf_13 z_t_7 rfl ?_
    refine gz_iload_n (pc := 16) dX1_isOf_16 rfl ?_
    refine gz_SN (zy := mX11_cell) (zc := 0) (pc := 17) [.inr (.inr (t, 9)), .inl a1] rfl dX1_isOf_17 lnX1_46 MsX11_cell rfl (Or.inl rfl) (fun h => h) (by exact Nat.le_of_ble_eq_true rfl) ?_
    obtain ⟨v4, e3, h⟩ := gz_bd h
    refine gz_useI (c_X11_cell z_t_9 rfl e3) ?_
    refine gz_iload_n (pc := 20) dX1_isOf_20 rfl ?_
    have kj5 : gzX g 0 (d + 1) mX1_isOf 29 [some (.inr (.inr (t, 7))), some (.inl a1), some (.inl a2)] ([.inl (if ¬ v4 = a2 then (0 : Int32) else 1)]) (gzN, gzR0, I, J) 0 (gzE (.ok (some (.inl r))) (gzN, gzR0, I, J)) := by
      cases h; exact gz_zret (pc := 29) dX1_isOf_29 rfl (by first | exact gz_ite01 | exact gz_ite10) ⟨rfl, rfl⟩
    refine gz_ic_ne (pc := 21) (tgt := 28) dX1_isOf_21 (by decide) (fun c => ?_) (fun c => ?_)
    · rw [if_pos c] at kj5
      refine gz_iconst (pc := 28) dX1_isOf_28 (v := 0) (by decide) ?_
      exact kj5
    · rw [if_neg (show ¬ (¬ v4 = a2) from fun q => q c)] at kj5
      refine gz_iconst (pc := 24) dX1_isOf_24 (v := 1) (by decide) ?_
      refine gz_goto (pc := 25) (tgt := 29) dX1_isOf_25 (by decide) ?_
      exact kj5
/-! X1_quarrels: quarrels -/
def gP_X1_quarrels_2 (g : gzG) (t : Nat) (d : Nat) (r : Int32) (x1 : Int32) (x2 : Int32) (I : gzIT) (J : gzJT) : Prop := gzX g 0 (d + 2) mX1_quarrels 2 [some (.inr (.inr (t, 7))), some (.inl x1), some (.inl x2)] [] (gzN, gzR0, I, J) 0 (gzE (.ok (some (.inl r))) (gzN, gzR0, I, J))
def f_X1_quarrels_2 (φ : Nat) (t : Nat) (I : gzIT) : Nat → Int32 → Int32 → Option Int32
  | 0, _, _ => none
  | k + 1, x1, x2 => if I t 7 7 ≤ x2 then (some 0) else (gzGd (x2) 10 (if ¬ I t 14 x2.toNatClampNeg = 0 then (f_X1_quarrels_2 φ t I k x1 (x2 + 1)) else (Option.bind (f_X1_isOf t I x2 x1) (fun v3 => if v3 = 0 then (f_X1_quarrels_2 φ t I k x1 (x2 + 1)) else (some 1)))))
set_option maxRecDepth 20000 in
theorem p_X1_quarrels_2 {g : gzG} {d φ : Nat} {t : Nat} (ht : t < 15) {I : gzIT} {J : gzJT} {r : Int32} : ∀ (k : Nat) (x1 : Int32) (x2 : Int32), f_X1_quarrels_2 φ t I k x1 x2 = some r → gP_X1_quarrels_2 g t d r x1 x2 I J := by
  intro k; induction k with
  | zero => intro x1 x2 h; cases h
  | succ k ih =>
    intro x1 x2 h
    unfold f_X1_quarrels_2 at h
    unfold gP_X1_quarrels_2
    have z_t_7 : gzOk t 7 gzN := gzOk_of ht
    have z_t_14 : gzOk t 14 gzN := gzOk_of ht
    refine gz_iload_n (pc := 2) dX1_quarrels_2 rfl ?_
    refine gz_aload_n (pc := 3) dX1_quarrels_3 rfl ?_
    refine gi_X1_34 (pc := 4) dX1_quarrels_4 (v := I t 7 7) z_t_7 rfl rfl ?_
    refine gz_ic_ge (pc := 7) (tgt := 36) dX1_quarrels_7 (by decide) (fun c => ?_) (fun c => ?_)
    · replace h := gz_ifp c h
      refine gz_iconst (pc := 36) dX1_quarrels_36 (v := 0) (by decide) ?_
      cases h; exact gz_zret (pc := 37) dX1_quarrels_37 rfl (by decide) ⟨rfl, rfl⟩
    · replace h := gz_ifn c h
      refine gz_aload_n (pc := 10) dX1_quarrels_10 rfl ?_
      refine gr_X1_31 (pc := 11) dX1_quarrels_11 z_t_7 rfl ?_
      refine gz_iload_n (pc := 14) dX1_quarrels_14 rfl ?_
      obtain ⟨b1, h⟩ := gz_gd h
      refine gz_zald2 (pc := 15) dX1_quarrels_15 (k := x2.toNatClampNeg) (v := I t 14 x2.toNatClampNeg) z_t_14 rfl b1 rfl rfl ?_
      refine gz_if_ne (pc := 16) (tgt := 30) dX1_quarrels_16 (by decide) (fun c => ?_) (fun c => ?_)
      · replace h := gz_ifp c h
        refine gz_iinc (pc := 30) dX1_quarrels_30 (x := x2) (v := x2 + 1) rfl (by rw [show Int32.ofInt 1 = 1 by decide]) (by decide) rfl (loc2 := [some (.inr (.inr (t, 7))), some (.inl x1), some (.inl (x2 + 1))]) rfl ?_
        refine gz_goto (pc := 33) (tgt := 2) dX1_quarrels_33 (by decide) ?_
        exact ih x1 (x2 + 1) h
      · replace h := gz_ifn (fun q => q c) h
        refine gz_aload_n (pc := 19) dX1_quarrels_19 rfl ?_
        refine gz_iload_n (pc := 20) dX1_quarrels_20 rfl ?_
        refine gz_iload_n (pc := 21) dX1_quarrels_21 rfl ?_
        refine gz_V (zy := mX1_isOf) (zc := 0) (pc := 22) [.inl x2, .inl x1] rfl dX1_quarrels_22 lkX1_56 MvX1_isOf rfl z_t_7 rfl rfl rfl (Or.inl rfl) (fun h => h) (by exact Nat.le_of_ble_eq_true rfl) ?_
        obtain ⟨v3, e2, h⟩ := gz_bd h
        refine gz_useI (c_X1_isOf ht e2) ?_
        refine gz_if_eq (pc := 25) (tgt := 30) dX1_quarrels_25 (by decide) (fun c => ?_) (fun c => ?_)
        · replace h := gz_ifp c h
          refine gz_iinc (pc := 30) dX1_quarrels_30 (x := x2) (v := x2 + 1) rfl (by rw [show Int32.ofInt 1 = 1 by decide]) (by decide) rfl (loc2 := [some (.inr (.inr (t, 7))), some (.inl x1), some (.inl (x2 + 1))]) rfl ?_
          refine gz_goto (pc := 33) (tgt := 2) dX1_quarrels_33 (by decide) ?_
          exact ih x1 (x2 + 1) h
        · replace h := gz_ifn c h
          refine gz_iconst (pc := 28) dX1_quarrels_28 (v := 1) (by decide) ?_
          cases h; exact gz_zret (pc := 29) dX1_quarrels_29 rfl (by decide) ⟨rfl, rfl⟩
def f_X1_quarrels (φ : Nat) (t : Nat) (I : gzIT) (a1 : Int32) : Option Int32 := f_X1_quarrels_2 φ t I φ a1 0
set_option maxRecDepth 20000 in
theorem c_X1_quarrels {g : gzG} {d φ : Nat} {t : Nat} (ht : t < 15) {a1 : Int32} {I : gzIT} {J : gzJT} {r : Int32} (h : f_X1_quarrels φ t I a1 = some r) : gzC g 0 (d + 2) mX1_quarrels [.inr (.inr (t, 7)), .inl a1] (gzN, gzR0, I, J) (gzE (.ok (some (.inl r))) (gzN, gzR0, I, J)) := by
  unfold f_X1_quarrels at h
  refine gzC_of (by decide +kernel) (Nat.le_of_ble_eq_true rfl) (loc := [some (.inr (.inr (t, 7))), some (.inl a1), none]) rfl ?_
  refine gz_iconst (pc := 0) dX1_quarrels_0 (v := 0) (by decide) ?_
  refine gz_istore_n (pc := 1) dX1_quarrels_1 (by decide) rfl (loc2 := [some (.inr (.inr (t, 7))), some (.inl a1), some (.inl 0)]) rfl ?_
  exact p_X1_quarrels_2 ht φ a1 0 h
/-! X1_allIce: allIce -/
def gP_X1_allIce_4 (g : gzG) (t : Nat) (d : Nat) (r : Int32) (x1 : Int32) (x2 : Int32) (I : gzIT) (J : gzJT) : Prop := gzX g 0 d mX1_allIce 4 [some (.inr (.inr (t, 7))), some (.inl x1), some (.inl x2)] [] (gzN, gzR0, I, J) 0 (gzE (.ok (some (.inl r))) (gzN, gzR0, I, J))
def f_X1_allIce_4 (φ : Nat) (t : Nat) (I : gzIT) : Nat → Int32 → Int32 → Option Int32
  | 0, _, _ => none
  | k + 1, x1, x2 => if I t 7 7 ≤ x2 then (some x1) else (gzGd (x2) 10 (if ¬ I t 14 x2.toNatClampNeg = 0 then (f_X1_allIce_4 φ t I k x1 (x2 + 1)) else (f_X1_allIce_4 φ t I k (x1 + (I t 12 x2.toNatClampNeg)) (x2 + 1))))
set_option maxRecDepth 20000 in
theorem p_X1_allIce_4 {g : gzG} {d φ : Nat} {t : Nat} (ht : t < 15) {I : gzIT} {J : gzJT} {r : Int32} : ∀ (k : Nat) (x1 : Int32) (x2 : Int32), f_X1_allIce_4 φ t I k x1 x2 = some r → gP_X1_allIce_4 g t d r x1 x2 I J := by
  intro k; induction k with
  | zero => intro x1 x2 h; cases h
  | succ k ih =>
    intro x1 x2 h
    unfold f_X1_allIce_4 at h
    unfold gP_X1_allIce_4
    have z_t_7 : gzOk t 7 gzN := gzOk_of ht
    have z_t_14 : gzOk t 14 gzN := gzOk_of ht
    have z_t_12 : gzOk t 12 gzN := gzOk_of ht
    refine gz_iload_n (pc := 4) dX1_allIce_4 rfl ?_
    refine gz_aload_n (pc := 5) dX1_allIce_5 rfl ?_
    refine gi_X1_34 (pc := 6) dX1_allIce_6 (v := I t 7 7) z_t_7 rfl rfl ?_
    refine gz_ic_ge (pc := 9) (tgt := 36) dX1_allIce_9 (by decide) (fun c => ?_) (fun c => ?_)
    · replace h := gz_ifp c h
      refine gz_iload_n (pc := 36) dX1_allIce_36 rfl ?_
      cases h; exact gz_iret (pc := 37) dX1_allIce_37 rfl ⟨rfl, rfl⟩
    · replace h := gz_ifn c h
      refine gz_aload_n (pc := 12) dX1_allIce_12 rfl ?_
      refine gr_X1_31 (pc := 13) dX1_allIce_13 z_t_7 rfl ?_
      refine gz_iload_n (pc := 16) dX1_allIce_16 rfl ?_
      obtain ⟨b1, h⟩ := gz_gd h
      refine gz_zald2 (pc := 17) dX1_allIce_17 (k := x2.toNatClampNeg) (v := I t 14 x2.toNatClampNeg) z_t_14 rfl b1 rfl rfl ?_
      refine gz_if_ne (pc := 18) (tgt := 30) dX1_allIce_18 (by decide) (fun c => ?_) (fun c => ?_)
      · replace h := gz_ifp c h
        refine gz_iinc (pc := 30) dX1_allIce_30 (x := x2) (v := x2 + 1) rfl (by rw [show Int32.ofInt 1 = 1 by decide]) (by decide) rfl (loc2 := [some (.inr (.inr (t, 7))), some (.inl x1), some (.inl (x2 + 1))]) rfl ?_
        refine gz_goto (pc := 33) (tgt := 4) dX1_allIce_33 (by decide) ?_
        exact ih x1 (x2 + 1) h
      · replace h := gz_ifn (fun q => q c) h
        refine gz_iload_n (pc := 21) dX1_allIce_21 rfl ?_
        refine gz_aload_n (pc := 22) dX1_allIce_22 rfl ?_
        refine gr_X1_24 (pc := 23) dX1_allIce_23 z_t_7 rfl ?_
        refine gz_iload_n (pc := 26) dX1_allIce_26 rfl ?_
        refine gz_iald2 (pc := 27) dX1_allIce_27 (k := x2.toNatClampNeg) (v := I t 12 x2.toNatClampNeg) z_t_12 rfl b1 rfl rfl ?_
        refine gz_iadd (pc := 28) dX1_allIce_28  ?_
        refine gz_istore_n (pc := 29) dX1_allIce_29 (by decide) rfl (loc2 := [some (.inr (.inr (t, 7))), some (.inl (x1 + (I t 12 x2.toNatClampNeg))), some (.inl x2)]) rfl ?_
        refine gz_iinc (pc := 30) dX1_allIce_30 (x := x2) (v := x2 + 1) rfl (by rw [show Int32.ofInt 1 = 1 by decide]) (by decide) rfl (loc2 := [some (.inr (.inr (t, 7))), some (.inl (x1 + (I t 12 x2.toNatClampNeg))), some (.inl (x2 + 1))]) rfl ?_
        refine gz_goto (pc := 33) (tgt := 4) dX1_allIce_33 (by decide) ?_
        exact ih (x1 + (I t 12 x2.toNatClampNeg)) (x2 + 1) h
def f_X1_allIce (φ : Nat) (t : Nat) (I : gzIT) : Option Int32 := f_X1_allIce_4 φ t I φ 0 0
set_option maxRecDepth 20000 in
theorem c_X1_allIce {g : gzG} {d φ : Nat} {t : Nat} (ht : t < 15) {I : gzIT} {J : gzJT} {r : Int32} (h : f_X1_allIce φ t I = some r) : gzC g 0 d mX1_allIce [.inr (.inr (t, 7))] (gzN, gzR0, I, J) (gzE (.ok (some (.inl r))) (gzN, gzR0, I, J)) := by
  unfold f_X1_allIce at h
  refine gzC_of (by decide +kernel) (Nat.le_of_ble_eq_true rfl) (loc := [some (.inr (.inr (t, 7))), none, none]) rfl ?_
  refine gz_iconst (pc := 0) dX1_allIce_0 (v := 0) (by decide) ?_
  refine gz_istore_n (pc := 1) dX1_allIce_1 (by decide) rfl (loc2 := [some (.inr (.inr (t, 7))), some (.inl 0), none]) rfl ?_
  refine gz_iconst (pc := 2) dX1_allIce_2 (v := 0) (by decide) ?_
  refine gz_istore_n (pc := 3) dX1_allIce_3 (by decide) rfl (loc2 := [some (.inr (.inr (t, 7))), some (.inl 0), some (.inl 0)]) rfl ?_
  exact p_X1_allIce_4 ht φ 0 0 h
/-! X1_iceOf: iceOf -/
def gP_X1_iceOf_4 (g : gzG) (t : Nat) (d : Nat) (r : Int32) (x1 : Int32) (x2 : Int32) (x3 : Int32) (I : gzIT) (J : gzJT) : Prop := gzX g 0 (d + 2) mX1_iceOf 4 [some (.inr (.inr (t, 7))), some (.inl x1), some (.inl x2), some (.inl x3)] [] (gzN, gzR0, I, J) 0 (gzE (.ok (some (.inl r))) (gzN, gzR0, I, J))
def f_X1_iceOf_4 (φ : Nat) (t : Nat) (I : gzIT) : Nat → Int32 → Int32 → Int32 → Option Int32
  | 0, _, _, _ => none
  | k + 1, x1, x2, x3 => if I t 7 7 ≤ x3 then (some x2) else (gzGd (x3) 10 (if ¬ I t 14 x3.toNatClampNeg = 0 then (f_X1_iceOf_4 φ t I k x1 x2 (x3 + 1)) else (Option.bind (f_X1_isOf t I x3 x1) (fun v3 => if v3 = 0 then (f_X1_iceOf_4 φ t I k x1 x2 (x3 + 1)) else (f_X1_iceOf_4 φ t I k x1 (x2 + (I t 12 x3.toNatClampNeg)) (x3 + 1))))))
set_option maxRecDepth 20000 in
theorem p_X1_iceOf_4 {g : gzG} {d φ : Nat} {t : Nat} (ht : t < 15) {I : gzIT} {J : gzJT} {r : Int32} : ∀ (k : Nat) (x1 : Int32) (x2 : Int32) (x3 : Int32), f_X1_iceOf_4 φ t I k x1 x2 x3 = some r → gP_X1_iceOf_4 g t d r x1 x2 x3 I J := by
  intro k; induction k with
  | zero => intro x1 x2 x3 h; cases h
  | succ k ih =>
    intro x1 x2 x3 h
    unfold f_X1_iceOf_4 at h
    unfold gP_X1_iceOf_4
    have z_t_7 : gzOk t 7 gzN := gzOk_of ht
    have z_t_14 : gzOk t 14 gzN := gzOk_of ht
    have z_t_12 : gzOk t 12 gzN := gzOk_of ht
    refine gz_iload_n (pc := 4) dX1_iceOf_4 rfl ?_
    refine gz_aload_n (pc := 5) dX1_iceOf_5 rfl ?_
    refine gi_X1_34 (pc := 6) dX1_iceOf_6 (v := I t 7 7) z_t_7 rfl rfl ?_
    refine gz_ic_ge (pc := 9) (tgt := 45) dX1_iceOf_9 (by decide) (fun c => ?_) (fun c => ?_)
    · replace h := gz_ifp c h
      refine gz_iload_n (pc := 45) dX1_iceOf_45 rfl ?_
      cases h; exact gz_iret (pc := 46) dX1_iceOf_46 rfl ⟨rfl, rfl⟩
    · replace h := gz_ifn c h
      refine gz_aload_n (pc := 12) dX1_iceOf_12 rfl ?_
      refine gr_X1_31 (pc := 13) dX1_iceOf_13 z_t_7 rfl ?_
      refine gz_iload_n (pc := 16) dX1_iceOf_16 rfl ?_
      obtain ⟨b1, h⟩ := gz_gd h
      refine gz_zald2 (pc := 17) dX1_iceOf_17 (k := x3.toNatClampNeg) (v := I t 14 x3.toNatClampNeg) z_t_14 rfl b1 rfl rfl ?_
      refine gz_if_ne (pc := 18) (tgt := 39) dX1_iceOf_18 (by decide) (fun c => ?_) (fun c => ?_)
      · replace h := gz_ifp c h
        refine gz_iinc (pc := 39) dX1_iceOf_39 (x := x3) (v := x3 + 1) rfl (by rw [show Int32.ofInt 1 = 1 by decide]) (by decide) rfl (loc2 := [some (.inr (.inr (t, 7))), some (.inl x1), some (.inl x2), some (.inl (x3 + 1))]) rfl ?_
        refine gz_goto (pc := 42) (tgt := 4) dX1_iceOf_42 (by decide) ?_
        exact ih x1 x2 (x3 + 1) h
      · replace h := gz_ifn (fun q => q c) h
        refine gz_aload_n (pc := 21) dX1_iceOf_21 rfl ?_
        refine gz_iload_n (pc := 22) dX1_iceOf_22 rfl ?_
        refine gz_iload_n (pc := 23) dX1_iceOf_23 rfl ?_
        refine gz_V (zy := mX1_isOf) (zc := 0) (pc := 24) [.inl x3, .inl x1] rfl dX1_iceOf_24 lkX1_56 MvX1_isOf rfl z_t_7 rfl rfl rfl (Or.inl rfl) (fun h => h) (by exact Nat.le_of_ble_eq_true rfl) ?_
        obtain ⟨v3, e2, h⟩ := gz_bd h
        refine gz_useI (c_X1_isOf ht e2) ?_
        refine gz_if_eq (pc := 27) (tgt := 39) dX1_iceOf_27 (by decide) (fun c => ?_) (fun c => ?_)
        · replace h := gz_ifp c h
          refine gz_iinc (pc := 39) dX1_iceOf_39 (x := x3) (v := x3 + 1) rfl (by rw [show Int32.ofInt 1 = 1 by decide]) (by decide) rfl (loc2 := [some (.inr (.inr (t, 7))), some (.inl x1), some (.inl x2), some (.inl (x3 + 1))]) rfl ?_
          refine gz_goto (pc := 42) (tgt := 4) dX1_iceOf_42 (by decide) ?_
          exact ih x1 x2 (x3 + 1) h
        · replace h := gz_ifn c h
          refine gz_iload_n (pc := 30) dX1_iceOf_30 rfl ?_
          refine gz_aload_n (pc := 31) dX1_iceOf_31 rfl ?_
          refine gr_X1_24 (pc := 32) dX1_iceOf_32 z_t_7 rfl ?_
          refine gz_iload_n (pc := 35) dX1_iceOf_35 rfl ?_
          refine gz_iald2 (pc := 36) dX1_iceOf_36 (k := x3.toNatClampNeg) (v := I t 12 x3.toNatClampNeg) z_t_12 rfl b1 rfl rfl ?_
          refine gz_iadd (pc := 37) dX1_iceOf_37  ?_
          refine gz_istore_n (pc := 38) dX1_iceOf_38 (by decide) rfl (loc2 := [some (.inr (.inr (t, 7))), some (.inl x1), some (.inl (x2 + (I t 12 x3.toNatClampNeg))), some (.inl x3)]) rfl ?_
          refine gz_iinc (pc := 39) dX1_iceOf_39 (x := x3) (v := x3 + 1) rfl (by rw [show Int32.ofInt 1 = 1 by decide]) (by decide) rfl (loc2 := [some (.inr (.inr (t, 7))), some (.inl x1), some (.inl (x2 + (I t 12 x3.toNatClampNeg))), some (.inl (x3 + 1))]) rfl ?_
          refine gz_goto (pc := 42) (tgt := 4) dX1_iceOf_42 (by decide) ?_
          exact ih x1 (x2 + (I t 12 x3.toNatClampNeg)) (x3 + 1) h
def f_X1_iceOf (φ : Nat) (t : Nat) (I : gzIT) (a1 : Int32) : Option Int32 := f_X1_iceOf_4 φ t I φ a1 0 0
set_option maxRecDepth 20000 in
theorem c_X1_iceOf {g : gzG} {d φ : Nat} {t : Nat} (ht : t < 15) {a1 : Int32} {I : gzIT} {J : gzJT} {r : Int32} (h : f_X1_iceOf φ t I a1 = some r) : gzC g 0 (d + 2) mX1_iceOf [.inr (.inr (t, 7)), .inl a1] (gzN, gzR0, I, J) (gzE (.ok (some (.inl r))) (gzN, gzR0, I, J)) := by
  unfold f_X1_iceOf at h
  refine gzC_of (by decide +kernel) (Nat.le_of_ble_eq_true rfl) (loc := [some (.inr (.inr (t, 7))), some (.inl a1), none, none]) rfl ?_
  refine gz_iconst (pc := 0) dX1_iceOf_0 (v := 0) (by decide) ?_
  refine gz_istore_n (pc := 1) dX1_iceOf_1 (by decide) rfl (loc2 := [some (.inr (.inr (t, 7))), some (.inl a1), some (.inl 0), none]) rfl ?_
  refine gz_iconst (pc := 2) dX1_iceOf_2 (v := 0) (by decide) ?_
  refine gz_istore_n (pc := 3) dX1_iceOf_3 (by decide) rfl (loc2 := [some (.inr (.inr (t, 7))), some (.inl a1), some (.inl 0), some (.inl 0)]) rfl ?_
  exact p_X1_iceOf_4 ht φ a1 0 0 h
/-! X1_iceFor: iceFor -/
def gP_X1_iceFor_4 (g : gzG) (t : Nat) (d : Nat) (r : Int32) (x1 : Int32) (x2 : Int32) (x3 : Int32) (I : gzIT) (J : gzJT) : Prop := gzX g 0 d mX1_iceFor 4 [some (.inr (.inr (t, 7))), some (.inl x1), some (.inl x2), some (.inl x3), none] [] (gzN, gzR0, I, J) 0 (gzE (.ok (some (.inl r))) (gzN, gzR0, I, J))
def f_X1_iceFor_4 (φ : Nat) (t : Nat) (I : gzIT) : Nat → Int32 → Int32 → Int32 → Option Int32
  | 0, _, _, _ => none
  | k + 1, x1, x2, x3 => if I t 7 7 ≤ x3 then (some x2) else (gzGd (x3) 10 (if ¬ I t 14 x3.toNatClampNeg = 0 then (f_X1_iceFor_4 φ t I k x1 x2 (x3 + 1)) else (if x1 &&& ((((1 : Int32) <<< ((I t 8 x3.toNatClampNeg) &&& 31)) ||| ((1 : Int32) <<< ((I t 9 x3.toNatClampNeg) &&& 31))) ^^^ (-1)) = 0 then (f_X1_iceFor_4 φ t I k x1 x2 (x3 + 1)) else (f_X1_iceFor_4 φ t I k x1 (x2 + (I t 12 x3.toNatClampNeg)) (x3 + 1)))))
set_option maxRecDepth 20000 in
theorem p_X1_iceFor_4 {g : gzG} {d φ : Nat} {t : Nat} (ht : t < 15) {I : gzIT} {J : gzJT} {r : Int32} : ∀ (k : Nat) (x1 : Int32) (x2 : Int32) (x3 : Int32), f_X1_iceFor_4 φ t I k x1 x2 x3 = some r → gP_X1_iceFor_4 g t d r x1 x2 x3 I J := by
  intro k; induction k with
  | zero => intro x1 x2 x3 h; cases h
  | succ k ih =>
    intro x1 x2 x3 h
    unfold f_X1_iceFor_4 at h
    unfold gP_X1_iceFor_4
    have z_t_7 : gzOk t 7 gzN := gzOk_of ht
    have z_t_8 : gzOk t 8 gzN := gzOk_of ht
    have z_t_9 : gzOk t 9 gzN := gzOk_of ht
    have z_t_14 : gzOk t 14 gzN := gzOk_of ht
    have z_t_12 : gzOk t 12 gzN := gzOk_of ht
    refine gz_iload_n (pc := 4) dX1_iceFor_4 rfl ?_
    refine gz_aload_n (pc := 5) dX1_iceFor_5 rfl ?_
    refine gi_X1_34 (pc := 6) dX1_iceFor_6 (v := I t 7 7) z_t_7 rfl rfl ?_
    refine gz_ic_ge (pc := 9) (tgt := 64) dX1_iceFor_9 (by decide) (fun c => ?_) (fun c => ?_)
    · replace h := gz_ifp c h
      refine gz_iload_n (pc := 64) dX1_iceFor_64 rfl ?_
      cases h; exact gz_iret (pc := 65) dX1_iceFor_65 rfl ⟨rfl, rfl⟩
    · replace h := gz_ifn c h
      refine gz_iload_n (pc := 12) dX1_iceFor_12 rfl ?_
      refine gz_iconst (pc := 13) dX1_iceFor_13 (v := 1) (by decide) ?_
      refine gz_aload_n (pc := 14) dX1_iceFor_14 rfl ?_
      refine gr_X1_9 (pc := 15) dX1_iceFor_15 z_t_7 rfl ?_
      refine gz_iload_n (pc := 18) dX1_iceFor_18 rfl ?_
      obtain ⟨b1, h⟩ := gz_gd h
      refine gz_iald2 (pc := 19) dX1_iceFor_19 (k := x3.toNatClampNeg) (v := I t 8 x3.toNatClampNeg) z_t_8 rfl b1 rfl rfl ?_
      refine gz_ishl (pc := 20) dX1_iceFor_20  ?_
      refine gz_iconst (pc := 21) dX1_iceFor_21 (v := 1) (by decide) ?_
      refine gz_aload_n (pc := 22) dX1_iceFor_22 rfl ?_
      refine gr_X1_15 (pc := 23) dX1_iceFor_23 z_t_7 rfl ?_
      refine gz_iload_n (pc := 26) dX1_iceFor_26 rfl ?_
      refine gz_iald2 (pc := 27) dX1_iceFor_27 (k := x3.toNatClampNeg) (v := I t 9 x3.toNatClampNeg) z_t_9 rfl b1 rfl rfl ?_
      refine gz_ishl (pc := 28) dX1_iceFor_28  ?_
      refine gz_ior (pc := 29) dX1_iceFor_29  ?_
      refine gz_iconst (pc := 30) dX1_iceFor_30 (v := (-1)) (by decide) ?_
      refine gz_ixor (pc := 31) dX1_iceFor_31  ?_
      refine gz_iand (pc := 32) dX1_iceFor_32  ?_
      refine gz_istore (pc := 33) dX1_iceFor_33 (by decide) rfl (loc2 := [some (.inr (.inr (t, 7))), some (.inl x1), some (.inl x2), some (.inl x3), some (.inl (x1 &&& ((((1 : Int32) <<< ((I t 8 x3.toNatClampNeg) &&& 31)) ||| ((1 : Int32) <<< ((I t 9 x3.toNatClampNeg) &&& 31))) ^^^ (-1))))]) rfl ?_
      refine gz_aload_n (pc := 35) dX1_iceFor_35 rfl ?_
      refine gr_X1_31 (pc := 36) dX1_iceFor_36 z_t_7 rfl ?_
      refine gz_iload_n (pc := 39) dX1_iceFor_39 rfl ?_
      refine gz_zald2 (pc := 40) dX1_iceFor_40 (k := x3.toNatClampNeg) (v := I t 14 x3.toNatClampNeg) z_t_14 rfl b1 rfl rfl ?_
      refine gz_if_ne (pc := 41) (tgt := 58) dX1_iceFor_41 (by decide) (fun c => ?_) (fun c => ?_)
      · replace h := gz_ifp c h
        refine gz_iinc (pc := 58) dX1_iceFor_58 (x := x3) (v := x3 + 1) rfl (by rw [show Int32.ofInt 1 = 1 by decide]) (by decide) rfl (loc2 := [some (.inr (.inr (t, 7))), some (.inl x1), some (.inl x2), some (.inl (x3 + 1)), some (.inl (x1 &&& ((((1 : Int32) <<< ((I t 8 x3.toNatClampNeg) &&& 31)) ||| ((1 : Int32) <<< ((I t 9 x3.toNatClampNeg) &&& 31))) ^^^ (-1))))]) rfl ?_
        refine gz_goto (pc := 61) (tgt := 4) dX1_iceFor_61 (by decide) ?_
        exact gz_weak (loc2 := [some (.inr (.inr (t, 7))), some (.inl x1), some (.inl x2), some (.inl (x3 + 1)), none]) (ih x1 x2 (x3 + 1) h) (by repeat (first | exact trivial | refine ⟨rfl, ?_⟩))
      · replace h := gz_ifn (fun q => q c) h
        refine gz_iload (pc := 44) dX1_iceFor_44 rfl ?_
        refine gz_if_eq (pc := 46) (tgt := 58) dX1_iceFor_46 (by decide) (fun c => ?_) (fun c => ?_)
        · replace h := gz_ifp c h
          refine gz_iinc (pc := 58) dX1_iceFor_58 (x := x3) (v := x3 + 1) rfl (by rw [show Int32.ofInt 1 = 1 by decide]) (by decide) rfl (loc2 := [some (.inr (.inr (t, 7))), some (.inl x1), some (.inl x2), some (.inl (x3 + 1)), some (.inl (x1 &&& ((((1 : Int32) <<< ((I t 8 x3.toNatClampNeg) &&& 31)) ||| ((1 : Int32) <<< ((I t 9 x3.toNatClampNeg) &&& 31))) ^^^ (-1))))]) rfl ?_
          refine gz_goto (pc := 61) (tgt := 4) dX1_iceFor_61 (by decide) ?_
          exact gz_weak (loc2 := [some (.inr (.inr (t, 7))), some (.inl x1), some (.inl x2), some (.inl (x3 + 1)), none]) (ih x1 x2 (x3 + 1) h) (by repeat (first | exact trivial | refine ⟨rfl, ?_⟩))
        · replace h := gz_ifn c h
          refine gz_iload_n (pc := 49) dX1_iceFor_49 rfl ?_
          refine gz_aload_n (pc := 50) dX1_iceFor_50 rfl ?_
          refine gr_X1_24 (pc := 51) dX1_iceFor_51 z_t_7 rfl ?_
          refine gz_iload_n (pc := 54) dX1_iceFor_54 rfl ?_
          refine gz_iald2 (pc := 55) dX1_iceFor_55 (k := x3.toNatClampNeg) (v := I t 12 x3.toNatClampNeg) z_t_12 rfl b1 rfl rfl ?_
          refine gz_iadd (pc := 56) dX1_iceFor_56  ?_
          refine gz_istore_n (pc := 57) dX1_iceFor_57 (by decide) rfl (loc2 := [some (.inr (.inr (t, 7))), some (.inl x1), some (.inl (x2 + (I t 12 x3.toNatClampNeg))), some (.inl x3), some (.inl (x1 &&& ((((1 : Int32) <<< ((I t 8 x3.toNatClampNeg) &&& 31)) ||| ((1 : Int32) <<< ((I t 9 x3.toNatClampNeg) &&& 31))) ^^^ (-1))))]) rfl ?_
          refine gz_iinc (pc := 58) dX1_iceFor_58 (x := x3) (v := x3 + 1) rfl (by rw [show Int32.ofInt 1 = 1 by decide]) (by decide) rfl (loc2 := [some (.inr (.inr (t, 7))), some (.inl x1), some (.inl (x2 + (I t 12 x3.toNatClampNeg))), some (.inl (x3 + 1)), some (.inl (x1 &&& ((((1 : Int32) <<< ((I t 8 x3.toNatClampNeg) &&& 31)) ||| ((1 : Int32) <<< ((I t 9 x3.toNatClampNeg) &&& 31))) ^^^ (-1))))]) rfl ?_
          refine gz_goto (pc := 61) (tgt := 4) dX1_iceFor_61 (by decide) ?_
          exact gz_weak (loc2 := [some (.inr (.inr (t, 7))), some (.inl x1), some (.inl (x2 + (I t 12 x3.toNatClampNeg))), some (.inl (x3 + 1)), none]) (ih x1 (x2 + (I t 12 x3.toNatClampNeg)) (x3 + 1) h) (by repeat (first | exact trivial | refine ⟨rfl, ?_⟩))
def f_X1_iceFor (φ : Nat) (t : Nat) (I : gzIT) (a1 : Int32) : Option Int32 := f_X1_iceFor_4 φ t I φ a1 0 0
set_option maxRecDepth 20000 in
theorem c_X1_iceFor {g : gzG} {d φ : Nat} {t : Nat} (ht : t < 15) {a1 : Int32} {I : gzIT} {J : gzJT} {r : Int32} (h : f_X1_iceFor φ t I a1 = some r) : gzC g 0 d mX1_iceFor [.inr (.inr (t, 7)), .inl a1] (gzN, gzR0, I, J) (gzE (.ok (some (.inl r))) (gzN, gzR0, I, J)) := by
  unfold f_X1_iceFor at h
  refine gzC_of (by decide +kernel) (Nat.le_of_ble_eq_true rfl) (loc := [some (.inr (.inr (t, 7))), some (.inl a1), none, none, none]) rfl ?_
  refine gz_iconst (pc := 0) dX1_iceFor_0 (v := 0) (by decide) ?_
  refine gz_istore_n (pc := 1) dX1_iceFor_1 (by decide) rfl (loc2 := [some (.inr (.inr (t, 7))), some (.inl a1), some (.inl 0), none, none]) rfl ?_
  refine gz_iconst (pc := 2) dX1_iceFor_2 (v := 0) (by decide) ?_
  refine gz_istore_n (pc := 3) dX1_iceFor_3 (by decide) rfl (loc2 := [some (.inr (.inr (t, 7))), some (.inl a1), some (.inl 0), some (.inl 0), none]) rfl ?_
  exact p_X1_iceFor_4 ht φ a1 0 0 h
/-! X1_hundredths: hundredths -/
def f_X1_hundredths (φ : Nat) (t : Nat) (I : gzIT) (a1 : Int32) : Option Int32 := Option.bind (f_X1_allIce φ t I) (fun v2 => if v2 ≤ 0 then (some 0) else (Option.bind (f_X1_frozen t I a1) (fun v4 => if v4 = 0 then (some 0) else (Option.bind (f_X11_cell t 12 10 I a1) (fun v6 => gzGn v2 (some ((v6 * 100) / v2)))))))
set_option maxRecDepth 20000 in
theorem c_X1_hundredths {g : gzG} {d φ : Nat} {t : Nat} (ht : t < 15) {a1 : Int32} {I : gzIT} {J : gzJT} {r : Int32} (h : f_X1_hundredths φ t I a1 = some r) : gzC g 0 (d + 1) mX1_hundredths [.inr (.inr (t, 7)), .inl a1] (gzN, gzR0, I, J) (gzE (.ok (some (.inl r))) (gzN, gzR0, I, J)) := by
  unfold f_X1_hundredths at h
  refine gzC_of (by decide +kernel) (Nat.le_of_ble_eq_true rfl) (loc := [some (.inr (.inr (t, 7))), some (.inl a1), none]) rfl ?_
  have z_t_7 : gzOk t 7 gzN := gzOk_of ht
  have z_t_12 : gzOk t 12 gzN := gzOk_of ht
  refine gz_aload_n (pc := 0) dX1_hundredths_0 rfl ?_
  refine gz_V (zy := mX1_allIce) (zc := 0) (pc := 1) [] rfl dX1_hundredths_1 lkX1_60 MvX1_allIce rfl z_t_7 rfl rfl rfl (Or.inl rfl) (fun h => h) (by exact Nat.le_of_ble_eq_true rfl) ?_
  obtain ⟨v2, e1, h⟩ := gz_bd h
  refine gz_useI (c_X1_allIce ht e1) ?_
  refine gz_istore_n (pc := 4) dX1_hundredths_4 (by decide) rfl (loc2 := [some (.inr (.inr (t, 7))), some (.inl a1), some (.inl v2)]) rfl ?_
  refine gz_iload_n (pc := 5) dX1_hundredths_5 rfl ?_
  refine gz_if_le (pc := 6) (tgt := 33) dX1_hundredths_6 (by decide) (fun c => ?_) (fun c => ?_)
  · replace h := gz_ifp c h
    refine gz_iconst (pc := 33) dX1_hundredths_33 (v := 0) (by decide) ?_
    cases h; exact gz_iret (pc := 34) dX1_hundredths_34 rfl ⟨rfl, rfl⟩
  · replace h := gz_ifn c h
    refine gz_aload_n (pc := 9) dX1_hundredths_9 rfl ?_
    refine gz_iload_n (pc := 10) dX1_hundredths_10 rfl ?_
    refine gz_V (zy := mX1_frozen) (zc := 0) (pc := 11) [.inl a1] rfl dX1_hundredths_11 lkX1_64 MvX1_frozen rfl z_t_7 rfl rfl rfl (Or.inl rfl) (fun h => h) (by exact Nat.le_of_ble_eq_true rfl) ?_
    obtain ⟨v4, e3, h⟩ := gz_bd h
    refine gz_useI (c_X1_frozen ht e3) ?_
    refine gz_if_eq (pc := 14) (tgt := 33) dX1_hundredths_14 (by decide) (fun c => ?_) (fun c => ?_)
    · replace h := gz_ifp c h
      refine gz_iconst (pc := 33) dX1_hundredths_33 (v := 0) (by decide) ?_
      cases h; exact gz_iret (pc := 34) dX1_hundredths_34 rfl ⟨rfl, rfl⟩
    · replace h := gz_ifn c h
      refine gz_aload_n (pc := 17) dX1_hundredths_17 rfl ?_
      refine gr_X1_24 (pc := 18) dX1_hundredths_18 z_t_7 rfl ?_
      refine gz_iload_n (pc := 21) dX1_hundredths_21 rfl ?_
      refine gz_SN (zy := mX11_cell) (zc := 0) (pc := 22) [.inr (.inr (t, 12)), .inl a1] rfl dX1_hundredths_22 lnX1_46 MsX11_cell rfl (Or.inl rfl) (fun h => h) (by exact Nat.le_of_ble_eq_true rfl) ?_
      obtain ⟨v6, e5, h⟩ := gz_bd h
      refine gz_useI (c_X11_cell z_t_12 rfl e5) ?_
      refine gz_bipush (pc := 25) dX1_hundredths_25 (v := 100) (by decide) ?_
      refine gz_imul (pc := 27) dX1_hundredths_27  ?_
      refine gz_iload_n (pc := 28) dX1_hundredths_28 rfl ?_
      obtain ⟨n7, h⟩ := gz_gn h
      refine gz_idiv (pc := 29) dX1_hundredths_29 n7 ?_
      refine gz_goto (pc := 30) (tgt := 34) dX1_hundredths_30 (by decide) ?_
      cases h; exact gz_iret (pc := 34) dX1_hundredths_34 rfl ⟨rfl, rfl⟩
/-! X1_over: over -/
def gP_X1_over_4 (g : gzG) (t : Nat) (d : Nat) (r : Int32) (x1 : Int32) (x2 : Int32) (x3 : Int32) (I : gzIT) (J : gzJT) : Prop := gzX g 0 d mX1_over 4 [some (.inr (.inr (t, 7))), some (.inl x1), some (.inl x2), some (.inl x3)] [] (gzN, gzR0, I, J) 0 (gzE (.ok (some (.inl r))) (gzN, gzR0, I, J))
def f_X1_over_4 (φ : Nat) (t : Nat) (I : gzIT) : Nat → Int32 → Int32 → Int32 → Option Int32
  | 0, _, _, _ => none
  | k + 1, x1, x2, x3 => if I t 7 7 ≤ x3 then (some x2) else (gzGd (x3) 10 (if ¬ I t 14 x3.toNatClampNeg = 0 then (f_X1_over_4 φ t I k x1 x2 (x3 + 1)) else (if ¬ I t 10 x3.toNatClampNeg = x1 then (f_X1_over_4 φ t I k x1 x2 (x3 + 1)) else (f_X1_over_4 φ t I k x1 (x2 ||| ((1 : Int32) <<< (x3 &&& 31))) (x3 + 1)))))
set_option maxRecDepth 20000 in
theorem p_X1_over_4 {g : gzG} {d φ : Nat} {t : Nat} (ht : t < 15) {I : gzIT} {J : gzJT} {r : Int32} : ∀ (k : Nat) (x1 : Int32) (x2 : Int32) (x3 : Int32), f_X1_over_4 φ t I k x1 x2 x3 = some r → gP_X1_over_4 g t d r x1 x2 x3 I J := by
  intro k; induction k with
  | zero => intro x1 x2 x3 h; cases h
  | succ k ih =>
    intro x1 x2 x3 h
    unfold f_X1_over_4 at h
    unfold gP_X1_over_4
    have z_t_7 : gzOk t 7 gzN := gzOk_of ht
    have z_t_14 : gzOk t 14 gzN := gzOk_of ht
    have z_t_10 : gzOk t 10 gzN := gzOk_of ht
    refine gz_iload_n (pc := 4) dX1_over_4 rfl ?_
    refine gz_aload_n (pc := 5) dX1_over_5 rfl ?_
    refine gi_X1_34 (pc := 6) dX1_over_6 (v := I t 7 7) z_t_7 rfl rfl ?_
    refine gz_ic_ge (pc := 9) (tgt := 43) dX1_over_9 (by decide) (fun c => ?_) (fun c => ?_)
    · replace h := gz_ifp c h
      refine gz_iload_n (pc := 43) dX1_over_43 rfl ?_
      cases h; exact gz_iret (pc := 44) dX1_over_44 rfl ⟨rfl, rfl⟩
    · replace h := gz_ifn c h
      refine gz_aload_n (pc := 12) dX1_over_12 rfl ?_
      refine gr_X1_31 (pc := 13) dX1_over_13 z_t_7 rfl ?_
      refine gz_iload_n (pc := 16) dX1_over_16 rfl ?_
      obtain ⟨b1, h⟩ := gz_gd h
      refine gz_zald2 (pc := 17) dX1_over_17 (k := x3.toNatClampNeg) (v := I t 14 x3.toNatClampNeg) z_t_14 rfl b1 rfl rfl ?_
      refine gz_if_ne (pc := 18) (tgt := 37) dX1_over_18 (by decide) (fun c => ?_) (fun c => ?_)
      · replace h := gz_ifp c h
        refine gz_iinc (pc := 37) dX1_over_37 (x := x3) (v := x3 + 1) rfl (by rw [show Int32.ofInt 1 = 1 by decide]) (by decide) rfl (loc2 := [some (.inr (.inr (t, 7))), some (.inl x1), some (.inl x2), some (.inl (x3 + 1))]) rfl ?_
        refine gz_goto (pc := 40) (tgt := 4) dX1_over_40 (by decide) ?_
        exact ih x1 x2 (x3 + 1) h
      · replace h := gz_ifn (fun q => q c) h
        refine gz_aload_n (pc := 21) dX1_over_21 rfl ?_
        refine gr_X1_18 (pc := 22) dX1_over_22 z_t_7 rfl ?_
        refine gz_iload_n (pc := 25) dX1_over_25 rfl ?_
        refine gz_iald2 (pc := 26) dX1_over_26 (k := x3.toNatClampNeg) (v := I t 10 x3.toNatClampNeg) z_t_10 rfl b1 rfl rfl ?_
        refine gz_iload_n (pc := 27) dX1_over_27 rfl ?_
        refine gz_ic_ne (pc := 28) (tgt := 37) dX1_over_28 (by decide) (fun c => ?_) (fun c => ?_)
        · replace h := gz_ifp c h
          refine gz_iinc (pc := 37) dX1_over_37 (x := x3) (v := x3 + 1) rfl (by rw [show Int32.ofInt 1 = 1 by decide]) (by decide) rfl (loc2 := [some (.inr (.inr (t, 7))), some (.inl x1), some (.inl x2), some (.inl (x3 + 1))]) rfl ?_
          refine gz_goto (pc := 40) (tgt := 4) dX1_over_40 (by decide) ?_
          exact ih x1 x2 (x3 + 1) h
        · replace h := gz_ifn (fun q => q c) h
          refine gz_iload_n (pc := 31) dX1_over_31 rfl ?_
          refine gz_iconst (pc := 32) dX1_over_32 (v := 1) (by decide) ?_
          refine gz_iload_n (pc := 33) dX1_over_33 rfl ?_
          refine gz_ishl (pc := 34) dX1_over_34  ?_
          refine gz_ior (pc := 35) dX1_over_35  ?_
          refine gz_istore_n (pc := 36) dX1_over_36 (by decide) rfl (loc2 := [some (.inr (.inr (t, 7))), some (.inl x1), some (.inl (x2 ||| ((1 : Int32) <<< (x3 &&& 31)))), some (.inl x3)]) rfl ?_
          refine gz_iinc (pc := 37) dX1_over_37 (x := x3) (v := x3 + 1) rfl (by rw [show Int32.ofInt 1 = 1 by decide]) (by decide) rfl (loc2 := [some (.inr (.inr (t, 7))), some (.inl x1), some (.inl (x2 ||| ((1 : Int32) <<< (x3 &&& 31)))), some (.inl (x3 + 1))]) rfl ?_
          refine gz_goto (pc := 40) (tgt := 4) dX1_over_40 (by decide) ?_
          exact ih x1 (x2 ||| ((1 : Int32) <<< (x3 &&& 31))) (x3 + 1) h
def f_X1_over (φ : Nat) (t : Nat) (I : gzIT) (a1 : Int32) : Option Int32 := f_X1_over_4 φ t I φ a1 0 0
set_option maxRecDepth 20000 in
theorem c_X1_over {g : gzG} {d φ : Nat} {t : Nat} (ht : t < 15) {a1 : Int32} {I : gzIT} {J : gzJT} {r : Int32} (h : f_X1_over φ t I a1 = some r) : gzC g 0 d mX1_over [.inr (.inr (t, 7)), .inl a1] (gzN, gzR0, I, J) (gzE (.ok (some (.inl r))) (gzN, gzR0, I, J)) := by
  unfold f_X1_over at h
  refine gzC_of (by decide +kernel) (Nat.le_of_ble_eq_true rfl) (loc := [some (.inr (.inr (t, 7))), some (.inl a1), none, none]) rfl ?_
  refine gz_iconst (pc := 0) dX1_over_0 (v := 0) (by decide) ?_
  refine gz_istore_n (pc := 1) dX1_over_1 (by decide) rfl (loc2 := [some (.inr (.inr (t, 7))), some (.inl a1), some (.inl 0), none]) rfl ?_
  refine gz_iconst (pc := 2) dX1_over_2 (v := 0) (by decide) ?_
  refine gz_istore_n (pc := 3) dX1_over_3 (by decide) rfl (loc2 := [some (.inr (.inr (t, 7))), some (.inl a1), some (.inl 0), some (.inl 0)]) rfl ?_
  exact p_X1_over_4 ht φ a1 0 0 h
/-! X1_alike: alike -/
def f_X1_alike (t : Nat) (I : gzIT) (a1 : Int32) (a2 : Int32) : Option Int32 := Option.bind (f_X1_frozen t I a1) (fun v2 => if v2 = 0 then (some 0) else (Option.bind (f_X1_frozen t I a2) (fun v4 => if v4 = 0 then (some 0) else (Option.bind (f_X11_cell t 10 10 I a1) (fun v6 => Option.bind (f_X11_cell t 10 10 I a2) (fun v8 => if ¬ v6 = v8 then (some 0) else (Option.bind (f_X11_cell t 11 10 I a1) (fun v10 => Option.bind (f_X11_cell t 11 10 I a2) (fun v12 => if ¬ v10 = v12 then (some 0) else (some 1))))))))))
set_option maxRecDepth 20000 in
theorem c_X1_alike {g : gzG} {d : Nat} {t : Nat} (ht : t < 15) {a1 : Int32} {a2 : Int32} {I : gzIT} {J : gzJT} {r : Int32} (h : f_X1_alike t I a1 a2 = some r) : gzC g 0 (d + 1) mX1_alike [.inr (.inr (t, 7)), .inl a1, .inl a2] (gzN, gzR0, I, J) (gzE (.ok (some (.inl r))) (gzN, gzR0, I, J)) := by
  unfold f_X1_alike at h
  refine gzC_of (by decide +kernel) (Nat.le_of_ble_eq_true rfl) (loc := [some (.inr (.inr (t, 7))), some (.inl a1), some (.inl a2)]) rfl ?_
  have z_t_7 : gzOk t 7 gzN := gzOk_of ht
  have z_t_10 : gzOk t 10 gzN := gzOk_of ht
  have z_t_11 : gzOk t 11 gzN := gzOk_of ht
  refine gz_aload_n (pc := 0) dX1_alike_0 rfl ?_
  refine gz_iload_n (pc := 1) dX1_alike_1 rfl ?_
  refine gz_V (zy := mX1_frozen) (zc := 0) (pc := 2) [.inl a1] rfl dX1_alike_2 lkX1_64 MvX1_frozen rfl z_t_7 rfl rfl rfl (Or.inl rfl) (fun h => h) (by exact Nat.le_of_ble_eq_true rfl) ?_
  obtain ⟨v2, e1, h⟩ := gz_bd h
  refine gz_useI (c_X1_frozen ht e1) ?_
  refine gz_if_eq (pc := 5) (tgt := 58) dX1_alike_5 (by decide) (fun c => ?_) (fun c => ?_)
  · replace h := gz_ifp c h
    refine gz_iconst (pc := 58) dX1_alike_58 (v := 0) (by decide) ?_
    cases h; exact gz_zret (pc := 59) dX1_alike_59 rfl (by decide) ⟨rfl, rfl⟩
  · replace h := gz_ifn c h
    refine gz_aload_n (pc := 8) dX1_alike_8 rfl ?_
    refine gz_iload_n (pc := 9) dX1_alike_9 rfl ?_
    refine gz_V (zy := mX1_frozen) (zc := 0) (pc := 10) [.inl a2] rfl dX1_alike_10 lkX1_64 MvX1_frozen rfl z_t_7 rfl rfl rfl (Or.inl rfl) (fun h => h) (by exact Nat.le_of_ble_eq_true rfl) ?_
    obtain ⟨v4, e3, h⟩ := gz_bd h
    refine gz_useI (c_X1_frozen ht e3) ?_
    refine gz_if_eq (pc := 13) (tgt := 58) dX1_alike_13 (by decide) (fun c => ?_) (fun c => ?_)
    · replace h := gz_ifp c h
      refine gz_iconst (pc := 58) dX1_alike_58 (v := 0) (by decide) ?_
      cases h; exact gz_zret (pc := 59) dX1_alike_59 rfl (by decide) ⟨rfl, rfl⟩
    · replace h := gz_ifn c h
      refine gz_aload_n (pc := 16) dX1_alike_16 rfl ?_
      refine gr_X1_18 (pc := 17) dX1_alike_17 z_t_7 rfl ?_
      refine gz_iload_n (pc := 20) dX1_alike_20 rfl ?_
      refine gz_SN (zy := mX11_cell) (zc := 0) (pc := 21) [.inr (.inr (t, 10)), .inl a1] rfl dX1_alike_21 lnX1_46 MsX11_cell rfl (Or.inl rfl) (fun h => h) (by exact Nat.le_of_ble_eq_true rfl) ?_
      obtain ⟨v6, e5, h⟩ := gz_bd h
      refine gz_useI (c_X11_cell z_t_10 rfl e5) ?_
      refine gz_aload_n (pc := 24) dX1_alike_24 rfl ?_
      refine gr_X1_18 (pc := 25) dX1_alike_25 z_t_7 rfl ?_
      refine gz_iload_n (pc := 28) dX1_alike_28 rfl ?_
      refine gz_SN (zy := mX11_cell) (zc := 0) (pc := 29) [.inr (.inr (t, 10)), .inl a2] rfl dX1_alike_29 lnX1_46 MsX11_cell rfl (Or.inl rfl) (fun h => h) (by exact Nat.le_of_ble_eq_true rfl) ?_
      obtain ⟨v8, e7, h⟩ := gz_bd h
      refine gz_useI (c_X11_cell z_t_10 rfl e7) ?_
      refine gz_ic_ne (pc := 32) (tgt := 58) dX1_alike_32 (by decide) (fun c => ?_) (fun c => ?_)
      · replace h := gz_ifp c h
        refine gz_iconst (pc := 58) dX1_alike_58 (v := 0) (by decide) ?_
        cases h; exact gz_zret (pc := 59) dX1_alike_59 rfl (by decide) ⟨rfl, rfl⟩
      · replace h := gz_ifn (fun q => q c) h
        refine gz_aload_n (pc := 35) dX1_alike_35 rfl ?_
        refine gr_X1_21 (pc := 36) dX1_alike_36 z_t_7 rfl ?_
        refine gz_iload_n (pc := 39) dX1_alike_39 rfl ?_
        refine gz_SN (zy := mX11_cell) (zc := 0) (pc := 40) [.inr (.inr (t, 11)), .inl a1] rfl dX1_alike_40 lnX1_46 MsX11_cell rfl (Or.inl rfl) (fun h => h) (by exact Nat.le_of_ble_eq_true rfl) ?_
        obtain ⟨v10, e9, h⟩ := gz_bd h
        refine gz_useI (c_X11_cell z_t_11 rfl e9) ?_
        refine gz_aload_n (pc := 43) dX1_alike_43 rfl ?_
        refine gr_X1_21 (pc := 44) dX1_alike_44 z_t_7 rfl ?_
        refine gz_iload_n (pc := 47) dX1_alike_47 rfl ?_
        refine gz_SN (zy := mX11_cell) (zc := 0) (pc := 48) [.inr (.inr (t, 11)), .inl a2] rfl dX1_alike_48 lnX1_46 MsX11_cell rfl (Or.inl rfl) (fun h => h) (by exact Nat.le_of_ble_eq_true rfl) ?_
        obtain ⟨v12, e11, h⟩ := gz_bd h
        refine gz_useI (c_X11_cell z_t_11 rfl e11) ?_
        refine gz_ic_ne (pc := 51) (tgt := 58) dX1_alike_51 (by decide) (fun c => ?_) (fun c => ?_)
        · replace h := gz_ifp c h
          refine gz_iconst (pc := 58) dX1_alike_58 (v := 0) (by decide) ?_
          cases h; exact gz_zret (pc := 59) dX1_alike_59 rfl (by decide) ⟨rfl, rfl⟩
        · replace h := gz_ifn (fun q => q c) h
          refine gz_iconst (pc := 54) dX1_alike_54 (v := 1) (by decide) ?_
          refine gz_goto (pc := 55) (tgt := 59) dX1_alike_55 (by decide) ?_
          cases h; exact gz_zret (pc := 59) dX1_alike_59 rfl (by decide) ⟨rfl, rfl⟩
/-! X1_within: within -/
def gP_X1_within_4 (g : gzG) (t : Nat) (d : Nat) (r : Int32) (x1 : Int32) (x2 : Int32) (x3 : Int32) (I : gzIT) (J : gzJT) : Prop := gzX g 0 (d + 1) mX1_within 4 [some (.inr (.inr (t, 7))), some (.inl x1), some (.inl x2), some (.inl x3)] [] (gzN, gzR0, I, J) 0 (gzE (.ok (some (.inl r))) (gzN, gzR0, I, J))
def f_X1_within_4 (φ : Nat) (t : Nat) (I : gzIT) : Nat → Int32 → Int32 → Int32 → Option Int32
  | 0, _, _, _ => none
  | k + 1, x1, x2, x3 => if I t 7 7 ≤ x3 then (some x2) else (gzGd (x3) 10 (if ¬ I t 14 x3.toNatClampNeg = 0 then (f_X1_within_4 φ t I k x1 x2 (x3 + 1)) else (Option.bind (f_X11_has x1 (I t 8 x3.toNatClampNeg)) (fun v3 => Option.bind (f_X11_has x1 (I t 9 x3.toNatClampNeg)) (fun v5 => if ¬ v3 = v5 then (f_X1_within_4 φ t I k x1 x2 (x3 + 1)) else (f_X1_within_4 φ t I k x1 (x2 + 1) (x3 + 1)))))))
set_option maxRecDepth 20000 in
theorem p_X1_within_4 {g : gzG} {d φ : Nat} {t : Nat} (ht : t < 15) {I : gzIT} {J : gzJT} {r : Int32} : ∀ (k : Nat) (x1 : Int32) (x2 : Int32) (x3 : Int32), f_X1_within_4 φ t I k x1 x2 x3 = some r → gP_X1_within_4 g t d r x1 x2 x3 I J := by
  intro k; induction k with
  | zero => intro x1 x2 x3 h; cases h
  | succ k ih =>
    intro x1 x2 x3 h
    unfold f_X1_within_4 at h
    unfold gP_X1_within_4
    have z_t_7 : gzOk t 7 gzN := gzOk_of ht
    have z_t_14 : gzOk t 14 gzN := gzOk_of ht
    have z_t_8 : gzOk t 8 gzN := gzOk_of ht
    have z_t_9 : gzOk t 9 gzN := gzOk_of ht
    refine gz_iload_n (pc := 4) dX1_within_4 rfl ?_
    refine gz_aload_n (pc := 5) dX1_within_5 rfl ?_
    refine gi_X1_34 (pc := 6) dX1_within_6 (v := I t 7 7) z_t_7 rfl rfl ?_
    refine gz_ic_ge (pc := 9) (tgt := 53) dX1_within_9 (by decide) (fun c => ?_) (fun c => ?_)
    · replace h := gz_ifp c h
      refine gz_iload_n (pc := 53) dX1_within_53 rfl ?_
      cases h; exact gz_iret (pc := 54) dX1_within_54 rfl ⟨rfl, rfl⟩
    · replace h := gz_ifn c h
      refine gz_aload_n (pc := 12) dX1_within_12 rfl ?_
      refine gr_X1_31 (pc := 13) dX1_within_13 z_t_7 rfl ?_
      refine gz_iload_n (pc := 16) dX1_within_16 rfl ?_
      obtain ⟨b1, h⟩ := gz_gd h
      refine gz_zald2 (pc := 17) dX1_within_17 (k := x3.toNatClampNeg) (v := I t 14 x3.toNatClampNeg) z_t_14 rfl b1 rfl rfl ?_
      refine gz_if_ne (pc := 18) (tgt := 47) dX1_within_18 (by decide) (fun c => ?_) (fun c => ?_)
      · replace h := gz_ifp c h
        refine gz_iinc (pc := 47) dX1_within_47 (x := x3) (v := x3 + 1) rfl (by rw [show Int32.ofInt 1 = 1 by decide]) (by decide) rfl (loc2 := [some (.inr (.inr (t, 7))), some (.inl x1), some (.inl x2), some (.inl (x3 + 1))]) rfl ?_
        refine gz_goto (pc := 50) (tgt := 4) dX1_within_50 (by decide) ?_
        exact ih x1 x2 (x3 + 1) h
      · replace h := gz_ifn (fun q => q c) h
        refine gz_iload_n (pc := 21) dX1_within_21 rfl ?_
        refine gz_aload_n (pc := 22) dX1_within_22 rfl ?_
        refine gr_X1_9 (pc := 23) dX1_within_23 z_t_7 rfl ?_
        refine gz_iload_n (pc := 26) dX1_within_26 rfl ?_
        refine gz_iald2 (pc := 27) dX1_within_27 (k := x3.toNatClampNeg) (v := I t 8 x3.toNatClampNeg) z_t_8 rfl b1 rfl rfl ?_
        refine gz_SN (zy := mX11_has) (zc := 0) (pc := 28) [.inl x1, .inl (I t 8 x3.toNatClampNeg)] rfl dX1_within_28 lnX1_68 MsX11_has rfl (Or.inl rfl) (fun h => h) (by exact Nat.le_of_ble_eq_true rfl) ?_
        obtain ⟨v3, e2, h⟩ := gz_bd h
        refine gz_useI (c_X11_has e2) ?_
        refine gz_iload_n (pc := 31) dX1_within_31 rfl ?_
        refine gz_aload_n (pc := 32) dX1_within_32 rfl ?_
        refine gr_X1_15 (pc := 33) dX1_within_33 z_t_7 rfl ?_
        refine gz_iload_n (pc := 36) dX1_within_36 rfl ?_
        refine gz_iald2 (pc := 37) dX1_within_37 (k := x3.toNatClampNeg) (v := I t 9 x3.toNatClampNeg) z_t_9 rfl b1 rfl rfl ?_
        refine gz_SN (zy := mX11_has) (zc := 0) (pc := 38) [.inl x1, .inl (I t 9 x3.toNatClampNeg)] rfl dX1_within_38 lnX1_68 MsX11_has rfl (Or.inl rfl) (fun h => h) (by exact Nat.le_of_ble_eq_true rfl) ?_
        obtain ⟨v5, e4, h⟩ := gz_bd h
        refine gz_useI (c_X11_has e4) ?_
        refine gz_ic_ne (pc := 41) (tgt := 47) dX1_within_41 (by decide) (fun c => ?_) (fun c => ?_)
        · replace h := gz_ifp c h
          refine gz_iinc (pc := 47) dX1_within_47 (x := x3) (v := x3 + 1) rfl (by rw [show Int32.ofInt 1 = 1 by decide]) (by decide) rfl (loc2 := [some (.inr (.inr (t, 7))), some (.inl x1), some (.inl x2), some (.inl (x3 + 1))]) rfl ?_
          refine gz_goto (pc := 50) (tgt := 4) dX1_within_50 (by decide) ?_
          exact ih x1 x2 (x3 + 1) h
        · replace h := gz_ifn (fun q => q c) h
          refine gz_iinc (pc := 44) dX1_within_44 (x := x2) (v := x2 + 1) rfl (by rw [show Int32.ofInt 1 = 1 by decide]) (by decide) rfl (loc2 := [some (.inr (.inr (t, 7))), some (.inl x1), some (.inl (x2 + 1)), some (.inl x3)]) rfl ?_
          refine gz_iinc (pc := 47) dX1_within_47 (x := x3) (v := x3 + 1) rfl (by rw [show Int32.ofInt 1 = 1 by decide]) (by decide) rfl (loc2 := [some (.inr (.inr (t, 7))), some (.inl x1), some (.inl (x2 + 1)), some (.inl (x3 + 1))]) rfl ?_
          refine gz_goto (pc := 50) (tgt := 4) dX1_within_50 (by decide) ?_
          exact ih x1 (x2 + 1) (x3 + 1) h
def f_X1_within (φ : Nat) (t : Nat) (I : gzIT) (a1 : Int32) : Option Int32 := f_X1_within_4 φ t I φ a1 0 0
set_option maxRecDepth 20000 in
theorem c_X1_within {g : gzG} {d φ : Nat} {t : Nat} (ht : t < 15) {a1 : Int32} {I : gzIT} {J : gzJT} {r : Int32} (h : f_X1_within φ t I a1 = some r) : gzC g 0 (d + 1) mX1_within [.inr (.inr (t, 7)), .inl a1] (gzN, gzR0, I, J) (gzE (.ok (some (.inl r))) (gzN, gzR0, I, J)) := by
  unfold f_X1_within at h
  refine gzC_of (by decide +kernel) (Nat.le_of_ble_eq_true rfl) (loc := [some (.inr (.inr (t, 7))), some (.inl a1), none, none]) rfl ?_
  refine gz_iconst (pc := 0) dX1_within_0 (v := 0) (by decide) ?_
  refine gz_istore_n (pc := 1) dX1_within_1 (by decide) rfl (loc2 := [some (.inr (.inr (t, 7))), some (.inl a1), some (.inl 0), none]) rfl ?_
  refine gz_iconst (pc := 2) dX1_within_2 (v := 0) (by decide) ?_
  refine gz_istore_n (pc := 3) dX1_within_3 (by decide) rfl (loc2 := [some (.inr (.inr (t, 7))), some (.inl a1), some (.inl 0), some (.inl 0)]) rfl ?_
  exact p_X1_within_4 ht φ a1 0 0 h
/-! X2_clear: clear -/
def f_X2_clear (t : Nat) (I : gzIT) (J : gzJT) : Option (Unit × gzIT × gzJT) := some ((), gz_ui (gz_ui I t 20 7 (-1)) t 20 8 0, J)
set_option maxRecDepth 20000 in
theorem c_X2_clear {g : gzG} {d : Nat} {t : Nat} (ht : t < 3) {I : gzIT} {J : gzJT} {r : Unit × gzIT × gzJT} (h : f_X2_clear t I J = some r) : gzC g 0 d mX2_clear [.inr (.inr (t, 20))] (gzN, gzR0, I, J) (gzE (.ok none) (gzN, gzR0, r.2.1, r.2.2)) := by
  unfold f_X2_clear at h
  refine gzC_of (by decide +kernel) (Nat.le_of_ble_eq_true rfl) (loc := [some (.inr (.inr (t, 20)))]) rfl ?_
  have z_t_20 : gzOk t 20 gzN := gzOk_of ht
  refine gz_aload_n (pc := 0) dX2_clear_0 rfl ?_
  refine gz_iconst (pc := 1) dX2_clear_1 (v := (-1)) (by decide) ?_
  refine gp_X2_33 (pc := 2) dX2_clear_2 z_t_20 rfl ?_
  refine gz_aload_n (pc := 5) dX2_clear_5 rfl ?_
  refine gz_iconst (pc := 6) dX2_clear_6 (v := 0) (by decide) ?_
  refine gp_X2_37 (pc := 7) dX2_clear_7 z_t_20 rfl ?_
  cases h; exact gz_vret (pc := 10) dX2_clear_10 rfl ⟨rfl, rfl⟩
/-! X2_copyFrom: copyFrom -/
def f_X2_copyFrom (t : Nat) (t1 : Nat) (I : gzIT) (J : gzJT) : Option (Unit × gzIT × gzJT) := Option.bind (f_X11_copy t1 21 12 t 21 12 I J) (fun v2 => Option.bind (f_X11_copy t1 22 12 t 22 12 v2.2.1 v2.2.2) (fun v4 => Option.bind (f_X11_copy t1 23 12 t 23 12 v4.2.1 v4.2.2) (fun v6 => Option.bind (f_X11_copy t1 24 12 t 24 12 v6.2.1 v6.2.2) (fun v8 => Option.bind (f_X11_copy t1 25 400 t 25 400 v8.2.1 v8.2.2) (fun v10 => some ((), gz_ui (gz_ui v10.2.1 t 20 7 (v10.2.1 t1 20 7)) t 20 8 ((gz_ui v10.2.1 t 20 7 (v10.2.1 t1 20 7)) t1 20 8), v10.2.2))))))
set_option maxRecDepth 20000 in
theorem c_X2_copyFrom {g : gzG} {d : Nat} {t : Nat} {t1 : Nat} (ht : t < 3) (ht1 : t1 < 3) {I : gzIT} {J : gzJT} {r : Unit × gzIT × gzJT} (h : f_X2_copyFrom t t1 I J = some r) : gzC g 0 (d + 1) mX2_copyFrom [.inr (.inr (t, 20)), .inr (.inr (t1, 20))] (gzN, gzR0, I, J) (gzE (.ok none) (gzN, gzR0, r.2.1, r.2.2)) := by
  unfold f_X2_copyFrom at h
  refine gzC_of (by decide +kernel) (Nat.le_of_ble_eq_true rfl) (loc := [some (.inr (.inr (t, 20))), some (.inr (.inr (t1, 20)))]) rfl ?_
  have z_t1_20 : gzOk t1 20 gzN := gzOk_of ht1
  have z_t_20 : gzOk t 20 gzN := gzOk_of ht
  have z_t1_21 : gzOk t1 21 gzN := gzOk_of ht1
  have z_t_21 : gzOk t 21 gzN := gzOk_of ht
  have z_t1_22 : gzOk t1 22 gzN := gzOk_of ht1
  have z_t_22 : gzOk t 22 gzN := gzOk_of ht
  have z_t1_23 : gzOk t1 23 gzN := gzOk_of ht1
  have z_t_23 : gzOk t 23 gzN := gzOk_of ht
  have z_t1_24 : gzOk t1 24 gzN := gzOk_of ht1
  have z_t_24 : gzOk t 24 gzN := gzOk_of ht
  have z_t1_25 : gzOk t1 25 gzN := gzOk_of ht1
  have z_t_25 : gzOk t 25 gzN := gzOk_of ht
  refine gz_aload_n (pc := 0) dX2_copyFrom_0 rfl ?_
  refine gr_X2_9 (pc := 1) dX2_copyFrom_1 z_t1_20 rfl ?_
  refine gz_aload_n (pc := 4) dX2_copyFrom_4 rfl ?_
  refine gr_X2_9 (pc := 5) dX2_copyFrom_5 z_t_20 rfl ?_
  refine gz_SN (zy := mX11_copy) (zc := 0) (pc := 8) [.inr (.inr (t1, 21)), .inr (.inr (t, 21))] rfl dX2_copyFrom_8 lnX2_40 MsX11_copy rfl (Or.inl rfl) (fun h => h) (by exact Nat.le_of_ble_eq_true rfl) ?_
  obtain ⟨v2, e1, h⟩ := gz_bd h
  refine gz_useV (c_X11_copy z_t1_21 rfl z_t_21 rfl e1) ?_
  refine gz_aload_n (pc := 11) dX2_copyFrom_11 rfl ?_
  refine gr_X2_15 (pc := 12) dX2_copyFrom_12 z_t1_20 rfl ?_
  refine gz_aload_n (pc := 15) dX2_copyFrom_15 rfl ?_
  refine gr_X2_15 (pc := 16) dX2_copyFrom_16 z_t_20 rfl ?_
  refine gz_SN (zy := mX11_copy) (zc := 0) (pc := 19) [.inr (.inr (t1, 22)), .inr (.inr (t, 22))] rfl dX2_copyFrom_19 lnX2_40 MsX11_copy rfl (Or.inl rfl) (fun h => h) (by exact Nat.le_of_ble_eq_true rfl) ?_
  obtain ⟨v4, e3, h⟩ := gz_bd h
  refine gz_useV (c_X11_copy z_t1_22 rfl z_t_22 rfl e3) ?_
  refine gz_aload_n (pc := 22) dX2_copyFrom_22 rfl ?_
  refine gr_X2_18 (pc := 23) dX2_copyFrom_23 z_t1_20 rfl ?_
  refine gz_aload_n (pc := 26) dX2_copyFrom_26 rfl ?_
  refine gr_X2_18 (pc := 27) dX2_copyFrom_27 z_t_20 rfl ?_
  refine gz_SN (zy := mX11_copy) (zc := 0) (pc := 30) [.inr (.inr (t1, 23)), .inr (.inr (t, 23))] rfl dX2_copyFrom_30 lnX2_40 MsX11_copy rfl (Or.inl rfl) (fun h => h) (by exact Nat.le_of_ble_eq_true rfl) ?_
  obtain ⟨v6, e5, h⟩ := gz_bd h
  refine gz_useV (c_X11_copy z_t1_23 rfl z_t_23 rfl e5) ?_
  refine gz_aload_n (pc := 33) dX2_copyFrom_33 rfl ?_
  refine gr_X2_21 (pc := 34) dX2_copyFrom_34 z_t1_20 rfl ?_
  refine gz_aload_n (pc := 37) dX2_copyFrom_37 rfl ?_
  refine gr_X2_21 (pc := 38) dX2_copyFrom_38 z_t_20 rfl ?_
  refine gz_SN (zy := mX11_copy) (zc := 0) (pc := 41) [.inr (.inr (t1, 24)), .inr (.inr (t, 24))] rfl dX2_copyFrom_41 lnX2_40 MsX11_copy rfl (Or.inl rfl) (fun h => h) (by exact Nat.le_of_ble_eq_true rfl) ?_
  obtain ⟨v8, e7, h⟩ := gz_bd h
  refine gz_useV (c_X11_copy z_t1_24 rfl z_t_24 rfl e7) ?_
  refine gz_aload_n (pc := 44) dX2_copyFrom_44 rfl ?_
  refine gr_X2_24 (pc := 45) dX2_copyFrom_45 z_t1_20 rfl ?_
  refine gz_aload_n (pc := 48) dX2_copyFrom_48 rfl ?_
  refine gr_X2_24 (pc := 49) dX2_copyFrom_49 z_t_20 rfl ?_
  refine gz_SN (zy := mX11_copy) (zc := 0) (pc := 52) [.inr (.inr (t1, 25)), .inr (.inr (t, 25))] rfl dX2_copyFrom_52 lnX2_40 MsX11_copy rfl (Or.inl rfl) (fun h => h) (by exact Nat.le_of_ble_eq_true rfl) ?_
  obtain ⟨v10, e9, h⟩ := gz_bd h
  refine gz_useV (c_X11_copy z_t1_25 rfl z_t_25 rfl e9) ?_
  refine gz_aload_n (pc := 55) dX2_copyFrom_55 rfl ?_
  refine gz_aload_n (pc := 56) dX2_copyFrom_56 rfl ?_
  refine gi_X2_33 (pc := 57) dX2_copyFrom_57 (v := v10.2.1 t1 20 7) z_t1_20 rfl rfl ?_
  refine gp_X2_33 (pc := 60) dX2_copyFrom_60 z_t_20 rfl ?_
  refine gz_aload_n (pc := 63) dX2_copyFrom_63 rfl ?_
  refine gz_aload_n (pc := 64) dX2_copyFrom_64 rfl ?_
  refine gi_X2_37 (pc := 65) dX2_copyFrom_65 (v := (gz_ui v10.2.1 t 20 7 (v10.2.1 t1 20 7)) t1 20 8) z_t1_20 rfl rfl ?_
  refine gp_X2_37 (pc := 68) dX2_copyFrom_68 z_t_20 rfl ?_
  cases h; exact gz_vret (pc := 71) dX2_copyFrom_71 rfl ⟨rfl, rfl⟩
/-! X2_put: put -/
def f_X2_put (t : Nat) (a1 : Int32) (I : gzIT) (J : gzJT) : Option (Unit × gzIT × gzJT) := if 400 ≤ I t 20 8 then (some ((), I, J)) else (gzGd (I t 20 8) 400 (some ((), gz_ui (gz_ui I t 25 ((I t 20 8).toNatClampNeg) a1) t 20 8 ((I t 20 8) + 1), J)))
set_option maxRecDepth 20000 in
theorem c_X2_put {g : gzG} {d : Nat} {t : Nat} (ht : t < 3) {a1 : Int32} {I : gzIT} {J : gzJT} {r : Unit × gzIT × gzJT} (h : f_X2_put t a1 I J = some r) : gzC g 0 d mX2_put [.inr (.inr (t, 20)), .inl a1] (gzN, gzR0, I, J) (gzE (.ok none) (gzN, gzR0, r.2.1, r.2.2)) := by
  unfold f_X2_put at h
  refine gzC_of (by decide +kernel) (Nat.le_of_ble_eq_true rfl) (loc := [some (.inr (.inr (t, 20))), some (.inl a1)]) rfl ?_
  have z_t_20 : gzOk t 20 gzN := gzOk_of ht
  have z_t_25 : gzOk t 25 gzN := gzOk_of ht
  refine gz_aload_n (pc := 0) dX2_put_0 rfl ?_
  refine gi_X2_37 (pc := 1) dX2_put_1 (v := I t 20 8) z_t_20 rfl rfl ?_
  refine gz_aload_n (pc := 4) dX2_put_4 rfl ?_
  refine gr_X2_24 (pc := 5) dX2_put_5 z_t_20 rfl ?_
  refine gz_alen (pc := 8) dX2_put_8 z_t_25 rfl (by decide) (v := 400) (by decide) ?_
  refine gz_ic_ge (pc := 9) (tgt := 32) dX2_put_9 (by decide) (fun c => ?_) (fun c => ?_)
  · replace h := gz_ifp c h
    cases h; exact gz_vret (pc := 32) dX2_put_32 rfl ⟨rfl, rfl⟩
  · replace h := gz_ifn c h
    refine gz_aload_n (pc := 12) dX2_put_12 rfl ?_
    refine gr_X2_24 (pc := 13) dX2_put_13 z_t_20 rfl ?_
    refine gz_aload_n (pc := 16) dX2_put_16 rfl ?_
    refine gi_X2_37 (pc := 17) dX2_put_17 (v := I t 20 8) z_t_20 rfl rfl ?_
    refine gz_iload_n (pc := 20) dX2_put_20 rfl ?_
    obtain ⟨b1, h⟩ := gz_gd h
    refine gz_iast2 (pc := 21) dX2_put_21 (k := (I t 20 8).toNatClampNeg) z_t_25 rfl b1 rfl ?_
    refine gz_aload_n (pc := 22) dX2_put_22 rfl ?_
    refine gz_dupR (pc := 23) dX2_put_23  ?_
    refine gi_X2_37 (pc := 24) dX2_put_24 (v := I t 20 8) z_t_20 (gz_ui_o (by decide)) rfl ?_
    refine gz_iconst (pc := 27) dX2_put_27 (v := 1) (by decide) ?_
    refine gz_iadd (pc := 28) dX2_put_28  ?_
    refine gp_X2_37 (pc := 29) dX2_put_29 z_t_20 rfl ?_
    cases h; exact gz_vret (pc := 32) dX2_put_32 rfl ⟨rfl, rfl⟩
/-! X2_addLine: addLine -/
def f_X2_addLine (t : Nat) (a1 : Int32) (a2 : Int32) (a3 : Int32) (I : gzIT) (J : gzJT) : Option (Unit × gzIT × gzJT) := if I t 20 7 < 0 then (some ((), I, J)) else (if 12 ≤ I t 20 7 then (some ((), I, J)) else (gzGd (I t 20 7) 12 (some ((), gz_ui (gz_ui (gz_ui (gz_ui (gz_ui I t 21 ((I t 20 7).toNatClampNeg) a1) t 22 ((I t 20 7).toNatClampNeg) a2) t 23 ((I t 20 7).toNatClampNeg) a3) t 24 ((I t 20 7).toNatClampNeg) (I t 20 8)) t 20 7 ((I t 20 7) + 1), J))))
set_option maxRecDepth 20000 in
theorem c_X2_addLine {g : gzG} {d : Nat} {t : Nat} (ht : t < 3) {a1 : Int32} {a2 : Int32} {a3 : Int32} {I : gzIT} {J : gzJT} {r : Unit × gzIT × gzJT} (h : f_X2_addLine t a1 a2 a3 I J = some r) : gzC g 0 d mX2_addLine [.inr (.inr (t, 20)), .inl a1, .inl a2, .inl a3] (gzN, gzR0, I, J) (gzE (.ok none) (gzN, gzR0, r.2.1, r.2.2)) := by
  unfold f_X2_addLine at h
  refine gzC_of (by decide +kernel) (Nat.le_of_ble_eq_true rfl) (loc := [some (.inr (.inr (t, 20))), some (.inl a1), some (.inl a2), some (.inl a3)]) rfl ?_
  have z_t_20 : gzOk t 20 gzN := gzOk_of ht
  have z_t_21 : gzOk t 21 gzN := gzOk_of ht
  have z_t_22 : gzOk t 22 gzN := gzOk_of ht
  have z_t_23 : gzOk t 23 gzN := gzOk_of ht
  have z_t_24 : gzOk t 24 gzN := gzOk_of ht
  refine gz_aload_n (pc := 0) dX2_addLine_0 rfl ?_
  refine gi_X2_33 (pc := 1) dX2_addLine_1 (v := I t 20 7) z_t_20 rfl rfl ?_
  refine gz_if_lt (pc := 4) (tgt := 69) dX2_addLine_4 (by decide) (fun c => ?_) (fun c => ?_)
  · replace h := gz_ifp c h
    cases h; exact gz_vret (pc := 69) dX2_addLine_69 rfl ⟨rfl, rfl⟩
  · replace h := gz_ifn c h
    refine gz_aload_n (pc := 7) dX2_addLine_7 rfl ?_
    refine gi_X2_33 (pc := 8) dX2_addLine_8 (v := I t 20 7) z_t_20 rfl rfl ?_
    refine gz_bipush (pc := 11) dX2_addLine_11 (v := 12) (by decide) ?_
    refine gz_ic_ge (pc := 13) (tgt := 69) dX2_addLine_13 (by decide) (fun c => ?_) (fun c => ?_)
    · replace h := gz_ifp c h
      cases h; exact gz_vret (pc := 69) dX2_addLine_69 rfl ⟨rfl, rfl⟩
    · replace h := gz_ifn c h
      refine gz_aload_n (pc := 16) dX2_addLine_16 rfl ?_
      refine gr_X2_9 (pc := 17) dX2_addLine_17 z_t_20 rfl ?_
      refine gz_aload_n (pc := 20) dX2_addLine_20 rfl ?_
      refine gi_X2_33 (pc := 21) dX2_addLine_21 (v := I t 20 7) z_t_20 rfl rfl ?_
      refine gz_iload_n (pc := 24) dX2_addLine_24 rfl ?_
      obtain ⟨b1, h⟩ := gz_gd h
      refine gz_iast2 (pc := 25) dX2_addLine_25 (k := (I t 20 7).toNatClampNeg) z_t_21 rfl b1 rfl ?_
      refine gz_aload_n (pc := 26) dX2_addLine_26 rfl ?_
      refine gr_X2_15 (pc := 27) dX2_addLine_27 z_t_20 rfl ?_
      refine gz_aload_n (pc := 30) dX2_addLine_30 rfl ?_
      refine gi_X2_33 (pc := 31) dX2_addLine_31 (v := I t 20 7) z_t_20 (gz_ui_o (by decide)) rfl ?_
      refine gz_iload_n (pc := 34) dX2_addLine_34 rfl ?_
      refine gz_iast2 (pc := 35) dX2_addLine_35 (k := (I t 20 7).toNatClampNeg) z_t_22 rfl b1 rfl ?_
      refine gz_aload_n (pc := 36) dX2_addLine_36 rfl ?_
      refine gr_X2_18 (pc := 37) dX2_addLine_37 z_t_20 rfl ?_
      refine gz_aload_n (pc := 40) dX2_addLine_40 rfl ?_
      refine gi_X2_33 (pc := 41) dX2_addLine_41 (v := I t 20 7) z_t_20 ((gz_ui_o (by decide)).trans (gz_ui_o (by decide))) rfl ?_
      refine gz_iload_n (pc := 44) dX2_addLine_44 rfl ?_
      refine gz_iast2 (pc := 45) dX2_addLine_45 (k := (I t 20 7).toNatClampNeg) z_t_23 rfl b1 rfl ?_
      refine gz_aload_n (pc := 46) dX2_addLine_46 rfl ?_
      refine gr_X2_21 (pc := 47) dX2_addLine_47 z_t_20 rfl ?_
      refine gz_aload_n (pc := 50) dX2_addLine_50 rfl ?_
      refine gi_X2_33 (pc := 51) dX2_addLine_51 (v := I t 20 7) z_t_20 ((gz_ui_o (by decide)).trans ((gz_ui_o (by decide)).trans (gz_ui_o (by decide)))) rfl ?_
      refine gz_aload_n (pc := 54) dX2_addLine_54 rfl ?_
      refine gi_X2_37 (pc := 55) dX2_addLine_55 (v := I t 20 8) z_t_20 ((gz_ui_o (by decide)).trans ((gz_ui_o (by decide)).trans (gz_ui_o (by decide)))) rfl ?_
      refine gz_iast2 (pc := 58) dX2_addLine_58 (k := (I t 20 7).toNatClampNeg) z_t_24 rfl b1 rfl ?_
      refine gz_aload_n (pc := 59) dX2_addLine_59 rfl ?_
      refine gz_dupR (pc := 60) dX2_addLine_60  ?_
      refine gi_X2_33 (pc := 61) dX2_addLine_61 (v := I t 20 7) z_t_20 ((gz_ui_o (by decide)).trans ((gz_ui_o (by decide)).trans ((gz_ui_o (by decide)).trans (gz_ui_o (by decide))))) rfl ?_
      refine gz_iconst (pc := 64) dX2_addLine_64 (v := 1) (by decide) ?_
      refine gz_iadd (pc := 65) dX2_addLine_65  ?_
      refine gp_X2_33 (pc := 66) dX2_addLine_66 z_t_20 rfl ?_
      cases h; exact gz_vret (pc := 69) dX2_addLine_69 rfl ⟨rfl, rfl⟩
/-! X2_joined: joined -/
def f_X2_joined (a1 : Int32) (a2 : Int32) (a3 : Int32) : Option Int32 := if a1 = 1028 then (some (a2 &&& a3)) else (if a1 = 1029 then (some (a2 ||| a3)) else (if a1 = 2060 then (some (if a3 ≤ a2 then (0 : Int32) else 1)) else (if a1 = 2062 then (some (if a2 ≤ a3 then (0 : Int32) else 1)) else (some (a2 + a3)))))
set_option maxRecDepth 20000 in
theorem c_X2_joined {g : gzG} {d : Nat} {a1 : Int32} {a2 : Int32} {a3 : Int32} {I : gzIT} {J : gzJT} {r : Int32} (h : f_X2_joined a1 a2 a3 = some r) : gzC g 0 d mX2_joined [.inl a1, .inl a2, .inl a3] (gzN, gzR0, I, J) (gzE (.ok (some (.inl r))) (gzN, gzR0, I, J)) := by
  unfold f_X2_joined at h
  refine gzC_of (by decide +kernel) (Nat.le_of_ble_eq_true rfl) (loc := [some (.inl a1), some (.inl a2), some (.inl a3)]) rfl ?_
  refine gz_iload_n (pc := 0) dX2_joined_0 rfl ?_
  by_cases c0 : a1 = 1028
  · replace h := gz_ifp c0 h
    refine gz_lsw (pc := 1) (tgt := 44) (off := 43) dX2_joined_1 (by decide) (by rw [c0]; rfl) (by decide) ?_
    refine gz_iload_n (pc := 44) dX2_joined_44 rfl ?_
    refine gz_iload_n (pc := 45) dX2_joined_45 rfl ?_
    refine gz_iand (pc := 46) dX2_joined_46  ?_
    cases h; exact gz_iret (pc := 47) dX2_joined_47 rfl ⟨rfl, rfl⟩
  replace h := gz_ifn c0 h
  by_cases c1 : a1 = 1029
  · replace h := gz_ifp c1 h
    refine gz_lsw (pc := 1) (tgt := 48) (off := 47) dX2_joined_1 (by decide) (by rw [c1]; rfl) (by decide) ?_
    refine gz_iload_n (pc := 48) dX2_joined_48 rfl ?_
    refine gz_iload_n (pc := 49) dX2_joined_49 rfl ?_
    refine gz_ior (pc := 50) dX2_joined_50  ?_
    cases h; exact gz_iret (pc := 51) dX2_joined_51 rfl ⟨rfl, rfl⟩
  replace h := gz_ifn c1 h
  by_cases c2 : a1 = 2060
  · replace h := gz_ifp c2 h
    refine gz_lsw (pc := 1) (tgt := 52) (off := 51) dX2_joined_1 (by decide) (by rw [c2]; rfl) (by decide) ?_
    refine gz_iload_n (pc := 52) dX2_joined_52 rfl ?_
    refine gz_iload_n (pc := 53) dX2_joined_53 rfl ?_
    have kj1 : gzX g 0 d mX2_joined 62 [some (.inl a1), some (.inl a2), some (.inl a3)] ([.inl (if a3 ≤ a2 then (0 : Int32) else 1)]) (gzN, gzR0, I, J) 0 (gzE (.ok (some (.inl r))) (gzN, gzR0, I, J)) := by
      cases h; exact gz_iret (pc := 62) dX2_joined_62 rfl ⟨rfl, rfl⟩
    refine gz_ic_ge (pc := 54) (tgt := 61) dX2_joined_54 (by decide) (fun c => ?_) (fun c => ?_)
    · rw [if_pos c] at kj1
      refine gz_iconst (pc := 61) dX2_joined_61 (v := 0) (by decide) ?_
      exact kj1
    · rw [if_neg c] at kj1
      refine gz_iconst (pc := 57) dX2_joined_57 (v := 1) (by decide) ?_
      refine gz_goto (pc := 58) (tgt := 62) dX2_joined_58 (by decide) ?_
      exact kj1
  replace h := gz_ifn c2 h
  by_cases c3 : a1 = 2062
  · replace h := gz_ifp c3 h
    refine gz_lsw (pc := 1) (tgt := 63) (off := 62) dX2_joined_1 (by decide) (by rw [c3]; rfl) (by decide) ?_
    refine gz_iload_n (pc := 63) dX2_joined_63 rfl ?_
    refine gz_iload_n (pc := 64) dX2_joined_64 rfl ?_
    have kj2 : gzX g 0 d mX2_joined 73 [some (.inl a1), some (.inl a2), some (.inl a3)] ([.inl (if a2 ≤ a3 then (0 : Int32) else 1)]) (gzN, gzR0, I, J) 0 (gzE (.ok (some (.inl r))) (gzN, gzR0, I, J)) := by
      cases h; exact gz_iret (pc := 73) dX2_joined_73 rfl ⟨rfl, rfl⟩
    refine gz_ic_le (pc := 65) (tgt := 72) dX2_joined_65 (by decide) (fun c => ?_) (fun c => ?_)
    · rw [if_pos c] at kj2
      refine gz_iconst (pc := 72) dX2_joined_72 (v := 0) (by decide) ?_
      exact kj2
    · rw [if_neg c] at kj2
      refine gz_iconst (pc := 68) dX2_joined_68 (v := 1) (by decide) ?_
      refine gz_goto (pc := 69) (tgt := 73) dX2_joined_69 (by decide) ?_
      exact kj2
  replace h := gz_ifn c3 h
  refine gz_lsw (pc := 1) (tgt := 74) (off := 73) dX2_joined_1 (by decide) (gz_lswo_1 c0 c1 c2 c3) (by decide) ?_
  refine gz_iload_n (pc := 74) dX2_joined_74 rfl ?_
  refine gz_iload_n (pc := 75) dX2_joined_75 rfl ?_
  refine gz_iadd (pc := 76) dX2_joined_76  ?_
  cases h; exact gz_iret (pc := 77) dX2_joined_77 rfl ⟨rfl, rfl⟩
/-! X2_holds: holds -/
def gP_X2_holds_79 (g : gzG) (t : Nat) (d : Nat) (r : Int32 × gzIT × gzJT) (x2 : Int32) (x3 : Int32) (x4 : Int32) (x5 : Int32) (I : gzIT) (J : gzJT) : Prop := gzX g 0 (d + 1) mX2_holds 79 [some (.inr (.inr (t, 20))), none, some (.inl x2), some (.inl x3), some (.inl x4), some (.inl x5)] [] (gzN, gzR0, I, J) 0 (gzE (.ok (some (.inl r.1))) (gzN, gzR0, r.2.1, r.2.2))
def gP_X2_holds_5 (g : gzG) (t : Nat) (d : Nat) (r : Int32 × gzIT × gzJT) (x2 : Int32) (x3 : Int32) (x4 : Int32) (I : gzIT) (J : gzJT) : Prop := gzX g 0 (d + 1) mX2_holds 5 [some (.inr (.inr (t, 20))), none, some (.inl x2), some (.inl x3), some (.inl x4), none] [] (gzN, gzR0, I, J) 0 (gzE (.ok (some (.inl r.1))) (gzN, gzR0, r.2.1, r.2.2))
def f_X2_holds_79 (φ : Nat) (t : Nat) (K5 : Int32 → Int32 → Int32 → gzIT → gzJT → Option (Int32 × gzIT × gzJT)) (x2 : Int32) (x3 : Int32) (x4 : Int32) (x5 : Int32) (I : gzIT) (J : gzJT) : Option (Int32 × gzIT × gzJT) := Option.bind (f_X11_cell t 27 32 I ((x3 + (-1)) - 1)) (fun v17 => Option.bind (f_X11_cell t 27 32 I (x3 + (-1))) (fun v19 => Option.bind (f_X2_joined x5 v17 v19) (fun v21 => Option.bind (f_X11_write t 27 32 ((x3 + (-1)) - 1) v21 I J) (fun v23 => K5 x2 (x3 + (-1)) (x4 + 1) v23.2.1 v23.2.2))))
set_option maxRecDepth 20000 in
theorem p_X2_holds_79 {g : gzG} {d φ : Nat} {t : Nat} (ht : t < 3) {r : Int32 × gzIT × gzJT} {K5 : Int32 → Int32 → Int32 → gzIT → gzJT → Option (Int32 × gzIT × gzJT)} (hK5 : ∀ (x2 : Int32) (x3 : Int32) (x4 : Int32) (I : gzIT) (J : gzJT), K5 x2 x3 x4 I J = some r → gP_X2_holds_5 g t d r x2 x3 x4 I J) (x2 : Int32) (x3 : Int32) (x4 : Int32) (x5 : Int32) (I : gzIT) (J : gzJT) (h : f_X2_holds_79 φ t K5 x2 x3 x4 x5 I J = some r) : gP_X2_holds_79 g t d r x2 x3 x4 x5 I J := by
  unfold f_X2_holds_79 at h
  unfold gP_X2_holds_79
  have z_t_20 : gzOk t 20 gzN := gzOk_of ht
  have z_t_27 : gzOk t 27 gzN := gzOk_of ht
  refine gz_iinc (pc := 79) dX2_holds_79 (x := x3) (v := x3 + (-1)) rfl (by rw [show Int32.ofInt (-1) = (-1) by decide]) (by decide) rfl (loc2 := [some (.inr (.inr (t, 20))), none, some (.inl x2), some (.inl (x3 + (-1))), some (.inl x4), some (.inl x5)]) rfl ?_
  refine gz_aload_n (pc := 82) dX2_holds_82 rfl ?_
  refine gr_X2_30 (pc := 83) dX2_holds_83 z_t_20 rfl ?_
  refine gz_iload_n (pc := 86) dX2_holds_86 rfl ?_
  refine gz_iconst (pc := 87) dX2_holds_87 (v := 1) (by decide) ?_
  refine gz_isub (pc := 88) dX2_holds_88  ?_
  refine gz_iload (pc := 89) dX2_holds_89 rfl ?_
  refine gz_aload_n (pc := 91) dX2_holds_91 rfl ?_
  refine gr_X2_30 (pc := 92) dX2_holds_92 z_t_20 rfl ?_
  refine gz_iload_n (pc := 95) dX2_holds_95 rfl ?_
  refine gz_iconst (pc := 96) dX2_holds_96 (v := 1) (by decide) ?_
  refine gz_isub (pc := 97) dX2_holds_97  ?_
  refine gz_SN (zy := mX11_cell) (zc := 0) (pc := 98) [.inr (.inr (t, 27)), .inl ((x3 + (-1)) - 1)] rfl dX2_holds_98 lnX2_48 MsX11_cell rfl (Or.inl rfl) (fun h => h) (by exact Nat.le_of_ble_eq_true rfl) ?_
  obtain ⟨v17, e16, h⟩ := gz_bd h
  refine gz_useI (c_X11_cell z_t_27 rfl e16) ?_
  refine gz_aload_n (pc := 101) dX2_holds_101 rfl ?_
  refine gr_X2_30 (pc := 102) dX2_holds_102 z_t_20 rfl ?_
  refine gz_iload_n (pc := 105) dX2_holds_105 rfl ?_
  refine gz_SN (zy := mX11_cell) (zc := 0) (pc := 106) [.inr (.inr (t, 27)), .inl (x3 + (-1))] rfl dX2_holds_106 lnX2_48 MsX11_cell rfl (Or.inl rfl) (fun h => h) (by exact Nat.le_of_ble_eq_true rfl) ?_
  obtain ⟨v19, e18, h⟩ := gz_bd h
  refine gz_useI (c_X11_cell z_t_27 rfl e18) ?_
  refine gz_S (zy := mX2_joined) (zc := 0) (pc := 109) [.inl x5, .inl v17, .inl v19] rfl dX2_holds_109 lkX2_56 MsX2_joined rfl (Or.inl rfl) (fun h => h) (by exact Nat.le_of_ble_eq_true rfl) ?_
  obtain ⟨v21, e20, h⟩ := gz_bd h
  refine gz_useI (c_X2_joined e20) ?_
  refine gz_SN (zy := mX11_write) (zc := 0) (pc := 112) [.inr (.inr (t, 27)), .inl ((x3 + (-1)) - 1), .inl v21] rfl dX2_holds_112 lnX2_52 MsX11_write rfl (Or.inl rfl) (fun h => h) (by exact Nat.le_of_ble_eq_true rfl) ?_
  obtain ⟨v23, e22, h⟩ := gz_bd h
  refine gz_useV (c_X11_write z_t_27 rfl e22) ?_
  refine gz_goto (pc := 115) (tgt := 155) dX2_holds_115 (by decide) ?_
  refine gz_iinc (pc := 155) dX2_holds_155 (x := x4) (v := x4 + 1) rfl (by rw [show Int32.ofInt 1 = 1 by decide]) (by decide) rfl (loc2 := [some (.inr (.inr (t, 20))), none, some (.inl x2), some (.inl (x3 + (-1))), some (.inl (x4 + 1)), some (.inl x5)]) rfl ?_
  refine gz_goto (pc := 158) (tgt := 5) dX2_holds_158 (by decide) ?_
  exact gz_weak (loc2 := [some (.inr (.inr (t, 20))), none, some (.inl x2), some (.inl (x3 + (-1))), some (.inl (x4 + 1)), none]) (hK5 x2 (x3 + (-1)) (x4 + 1) v23.2.1 v23.2.2 h) (by repeat (first | exact trivial | refine ⟨rfl, ?_⟩))
def f_X2_holds_5 (φ : Nat) (t : Nat) : Nat → Int32 → Int32 → Int32 → gzIT → gzJT → Option (Int32 × gzIT × gzJT)
  | 0, _, _, _, _, _ => none
  | k + 1, x2, x3, x4, I, J => if x2 ≤ x4 then (if x3 ≤ 0 then (some (1, I, J)) else (Option.bind (f_X11_cell t 27 32 I (x3 - 1)) (fun v2 => some ((if v2 = 0 then (0 : Int32) else 1), I, J)))) else (Option.bind (f_X11_cell t 25 400 I x4) (fun v5 => if ¬ v5 = 1027 then (if v5 = 1028 then (f_X2_holds_79 φ t (f_X2_holds_5 φ t k) x2 x3 x4 v5 I J) else (if v5 = 1029 then (f_X2_holds_79 φ t (f_X2_holds_5 φ t k) x2 x3 x4 v5 I J) else (if v5 < 2000 then (if 1000 ≤ v5 then (Option.bind (f_X11_cell t 26 11 I (v5 - 1012)) (fun v7 => Option.bind (f_X11_write t 27 32 x3 v7 I J) (fun v9 => f_X2_holds_5 φ t k x2 (x3 + 1) (x4 + 1) v9.2.1 v9.2.2))) else (Option.bind (f_X11_write t 27 32 x3 v5 I J) (fun v11 => f_X2_holds_5 φ t k x2 (x3 + 1) (x4 + 1) v11.2.1 v11.2.2))) else (f_X2_holds_79 φ t (f_X2_holds_5 φ t k) x2 x3 x4 v5 I J)))) else (Option.bind (f_X11_cell t 27 32 I (x3 - 1)) (fun v13 => Option.bind (f_X11_write t 27 32 (x3 - 1) (1 - v13) I J) (fun v15 => f_X2_holds_5 φ t k x2 x3 (x4 + 1) v15.2.1 v15.2.2)))))
set_option maxRecDepth 20000 in
theorem p_X2_holds_5 {g : gzG} {d φ : Nat} {t : Nat} (ht : t < 3) {r : Int32 × gzIT × gzJT} : ∀ (k : Nat) (x2 : Int32) (x3 : Int32) (x4 : Int32) (I : gzIT) (J : gzJT), f_X2_holds_5 φ t k x2 x3 x4 I J = some r → gP_X2_holds_5 g t d r x2 x3 x4 I J := by
  intro k; induction k with
  | zero => intro x2 x3 x4 I J h; cases h
  | succ k ih =>
    intro x2 x3 x4 I J h
    unfold f_X2_holds_5 at h
    unfold gP_X2_holds_5
    have z_t_20 : gzOk t 20 gzN := gzOk_of ht
    have z_t_27 : gzOk t 27 gzN := gzOk_of ht
    have z_t_25 : gzOk t 25 gzN := gzOk_of ht
    have z_t_26 : gzOk t 26 gzN := gzOk_of ht
    refine gz_iload (pc := 5) dX2_holds_5 rfl ?_
    refine gz_iload_n (pc := 7) dX2_holds_7 rfl ?_
    refine gz_ic_ge (pc := 8) (tgt := 161) dX2_holds_8 (by decide) (fun c => ?_) (fun c => ?_)
    · replace h := gz_ifp c h
      refine gz_iload_n (pc := 161) dX2_holds_161 rfl ?_
      refine gz_if_le (pc := 162) (tgt := 178) dX2_holds_162 (by decide) (fun c => ?_) (fun c => ?_)
      · replace h := gz_ifp c h
        refine gz_iconst (pc := 178) dX2_holds_178 (v := 1) (by decide) ?_
        refine gz_goto (pc := 179) (tgt := 183) dX2_holds_179 (by decide) ?_
        cases h; exact gz_zret (pc := 183) dX2_holds_183 rfl (by decide) ⟨rfl, rfl⟩
      · replace h := gz_ifn c h
        refine gz_aload_n (pc := 165) dX2_holds_165 rfl ?_
        refine gr_X2_30 (pc := 166) dX2_holds_166 z_t_20 rfl ?_
        refine gz_iload_n (pc := 169) dX2_holds_169 rfl ?_
        refine gz_iconst (pc := 170) dX2_holds_170 (v := 1) (by decide) ?_
        refine gz_isub (pc := 171) dX2_holds_171  ?_
        refine gz_SN (zy := mX11_cell) (zc := 0) (pc := 172) [.inr (.inr (t, 27)), .inl (x3 - 1)] rfl dX2_holds_172 lnX2_48 MsX11_cell rfl (Or.inl rfl) (fun h => h) (by exact Nat.le_of_ble_eq_true rfl) ?_
        obtain ⟨v2, e1, h⟩ := gz_bd h
        refine gz_useI (c_X11_cell z_t_27 rfl e1) ?_
        have kj3 : gzX g 0 (d + 1) mX2_holds 183 [some (.inr (.inr (t, 20))), none, some (.inl x2), some (.inl x3), some (.inl x4), none] ([.inl (if v2 = 0 then (0 : Int32) else 1)]) (gzN, gzR0, I, J) 0 (gzE (.ok (some (.inl r.1))) (gzN, gzR0, r.2.1, r.2.2)) := by
          cases h; exact gz_zret (pc := 183) dX2_holds_183 rfl (by first | exact gz_ite01 | exact gz_ite10) ⟨rfl, rfl⟩
        refine gz_if_eq (pc := 175) (tgt := 182) dX2_holds_175 (by decide) (fun c => ?_) (fun c => ?_)
        · rw [if_pos c] at kj3
          refine gz_iconst (pc := 182) dX2_holds_182 (v := 0) (by decide) ?_
          exact kj3
        · rw [if_neg c] at kj3
          refine gz_iconst (pc := 178) dX2_holds_178 (v := 1) (by decide) ?_
          refine gz_goto (pc := 179) (tgt := 183) dX2_holds_179 (by decide) ?_
          exact kj3
    · replace h := gz_ifn c h
      refine gz_aload_n (pc := 11) dX2_holds_11 rfl ?_
      refine gr_X2_24 (pc := 12) dX2_holds_12 z_t_20 rfl ?_
      refine gz_iload (pc := 15) dX2_holds_15 rfl ?_
      refine gz_SN (zy := mX11_cell) (zc := 0) (pc := 17) [.inr (.inr (t, 25)), .inl x4] rfl dX2_holds_17 lnX2_48 MsX11_cell rfl (Or.inl rfl) (fun h => h) (by exact Nat.le_of_ble_eq_true rfl) ?_
      obtain ⟨v5, e4, h⟩ := gz_bd h
      refine gz_useI (c_X11_cell z_t_25 rfl e4) ?_
      refine gz_istore (pc := 20) dX2_holds_20 (by decide) rfl (loc2 := [some (.inr (.inr (t, 20))), none, some (.inl x2), some (.inl x3), some (.inl x4), some (.inl v5)]) rfl ?_
      refine gz_iload (pc := 22) dX2_holds_22 rfl ?_
      refine gz_sipush (pc := 24) dX2_holds_24 (v := 1027) (by decide) ?_
      refine gz_ic_ne (pc := 27) (tgt := 55) dX2_holds_27 (by decide) (fun c => ?_) (fun c => ?_)
      · replace h := gz_ifp c h
        refine gz_iload (pc := 55) dX2_holds_55 rfl ?_
        refine gz_sipush (pc := 57) dX2_holds_57 (v := 1028) (by decide) ?_
        refine gz_ic_eq (pc := 60) (tgt := 79) dX2_holds_60 (by decide) (fun c => ?_) (fun c => ?_)
        · replace h := gz_ifp c h
          exact p_X2_holds_79 ht ih x2 x3 x4 v5 I J h
        · replace h := gz_ifn c h
          refine gz_iload (pc := 63) dX2_holds_63 rfl ?_
          refine gz_sipush (pc := 65) dX2_holds_65 (v := 1029) (by decide) ?_
          refine gz_ic_eq (pc := 68) (tgt := 79) dX2_holds_68 (by decide) (fun c => ?_) (fun c => ?_)
          · replace h := gz_ifp c h
            exact p_X2_holds_79 ht ih x2 x3 x4 v5 I J h
          · replace h := gz_ifn c h
            refine gz_iload (pc := 71) dX2_holds_71 rfl ?_
            refine gz_sipush (pc := 73) dX2_holds_73 (v := 2000) (by decide) ?_
            refine gz_ic_lt (pc := 76) (tgt := 118) dX2_holds_76 (by decide) (fun c => ?_) (fun c => ?_)
            · replace h := gz_ifp c h
              refine gz_aload_n (pc := 118) dX2_holds_118 rfl ?_
              refine gr_X2_30 (pc := 119) dX2_holds_119 z_t_20 rfl ?_
              refine gz_iload_n (pc := 122) dX2_holds_122 rfl ?_
              refine gz_iload (pc := 123) dX2_holds_123 rfl ?_
              refine gz_sipush (pc := 125) dX2_holds_125 (v := 1000) (by decide) ?_
              refine gz_ic_ge (pc := 128) (tgt := 136) dX2_holds_128 (by decide) (fun c => ?_) (fun c => ?_)
              · replace h := gz_ifp c h
                refine gz_aload_n (pc := 136) dX2_holds_136 rfl ?_
                refine gr_X2_27 (pc := 137) dX2_holds_137 z_t_20 rfl ?_
                refine gz_iload (pc := 140) dX2_holds_140 rfl ?_
                refine gz_sipush (pc := 142) dX2_holds_142 (v := 1012) (by decide) ?_
                refine gz_isub (pc := 145) dX2_holds_145  ?_
                refine gz_SN (zy := mX11_cell) (zc := 0) (pc := 146) [.inr (.inr (t, 26)), .inl (v5 - 1012)] rfl dX2_holds_146 lnX2_48 MsX11_cell rfl (Or.inl rfl) (fun h => h) (by exact Nat.le_of_ble_eq_true rfl) ?_
                obtain ⟨v7, e6, h⟩ := gz_bd h
                refine gz_useI (c_X11_cell z_t_26 rfl e6) ?_
                refine gz_SN (zy := mX11_write) (zc := 0) (pc := 149) [.inr (.inr (t, 27)), .inl x3, .inl v7] rfl dX2_holds_149 lnX2_52 MsX11_write rfl (Or.inl rfl) (fun h => h) (by exact Nat.le_of_ble_eq_true rfl) ?_
                obtain ⟨v9, e8, h⟩ := gz_bd h
                refine gz_useV (c_X11_write z_t_27 rfl e8) ?_
                refine gz_iinc (pc := 152) dX2_holds_152 (x := x3) (v := x3 + 1) rfl (by rw [show Int32.ofInt 1 = 1 by decide]) (by decide) rfl (loc2 := [some (.inr (.inr (t, 20))), none, some (.inl x2), some (.inl (x3 + 1)), some (.inl x4), some (.inl v5)]) rfl ?_
                refine gz_iinc (pc := 155) dX2_holds_155 (x := x4) (v := x4 + 1) rfl (by rw [show Int32.ofInt 1 = 1 by decide]) (by decide) rfl (loc2 := [some (.inr (.inr (t, 20))), none, some (.inl x2), some (.inl (x3 + 1)), some (.inl (x4 + 1)), some (.inl v5)]) rfl ?_
                refine gz_goto (pc := 158) (tgt := 5) dX2_holds_158 (by decide) ?_
                exact gz_weak (loc2 := [some (.inr (.inr (t, 20))), none, some (.inl x2), some (.inl (x3 + 1)), some (.inl (x4 + 1)), none]) (ih x2 (x3 + 1) (x4 + 1) v9.2.1 v9.2.2 h) (by repeat (first | exact trivial | refine ⟨rfl, ?_⟩))
              · replace h := gz_ifn c h
                refine gz_iload (pc := 131) dX2_holds_131 rfl ?_
                refine gz_goto (pc := 133) (tgt := 149) dX2_holds_133 (by decide) ?_
                refine gz_SN (zy := mX11_write) (zc := 0) (pc := 149) [.inr (.inr (t, 27)), .inl x3, .inl v5] rfl dX2_holds_149 lnX2_52 MsX11_write rfl (Or.inl rfl) (fun h => h) (by exact Nat.le_of_ble_eq_true rfl) ?_
                obtain ⟨v11, e10, h⟩ := gz_bd h
                refine gz_useV (c_X11_write z_t_27 rfl e10) ?_
                refine gz_iinc (pc := 152) dX2_holds_152 (x := x3) (v := x3 + 1) rfl (by rw [show Int32.ofInt 1 = 1 by decide]) (by decide) rfl (loc2 := [some (.inr (.inr (t, 20))), none, some (.inl x2), some (.inl (x3 + 1)), some (.inl x4), some (.inl v5)]) rfl ?_
                refine gz_iinc (pc := 155) dX2_holds_155 (x := x4) (v := x4 + 1) rfl (by rw [show Int32.ofInt 1 = 1 by decide]) (by decide) rfl (loc2 := [some (.inr (.inr (t, 20))), none, some (.inl x2), some (.inl (x3 + 1)), some (.inl (x4 + 1)), some (.inl v5)]) rfl ?_
                refine gz_goto (pc := 158) (tgt := 5) dX2_holds_158 (by decide) ?_
                exact gz_weak (loc2 := [some (.inr (.inr (t, 20))), none, some (.inl x2), some (.inl (x3 + 1)), some (.inl (x4 + 1)), none]) (ih x2 (x3 + 1) (x4 + 1) v11.2.1 v11.2.2 h) (by repeat (first | exact trivial | refine ⟨rfl, ?_⟩))
            · replace h := gz_ifn c h
              exact p_X2_holds_79 ht ih x2 x3 x4 v5 I J h
      · replace h := gz_ifn (fun q => q c) h
        refine gz_aload_n (pc := 30) dX2_holds_30 rfl ?_
        refine gr_X2_30 (pc := 31) dX2_holds_31 z_t_20 rfl ?_
        refine gz_iload_n (pc := 34) dX2_holds_34 rfl ?_
        refine gz_iconst (pc := 35) dX2_holds_35 (v := 1) (by decide) ?_
        refine gz_isub (pc := 36) dX2_holds_36  ?_
        refine gz_iconst (pc := 37) dX2_holds_37 (v := 1) (by decide) ?_
        refine gz_aload_n (pc := 38) dX2_holds_38 rfl ?_
        refine gr_X2_30 (pc := 39) dX2_holds_39 z_t_20 rfl ?_
        refine gz_iload_n (pc := 42) dX2_holds_42 rfl ?_
        refine gz_iconst (pc := 43) dX2_holds_43 (v := 1) (by decide) ?_
        refine gz_isub (pc := 44) dX2_holds_44  ?_
        refine gz_SN (zy := mX11_cell) (zc := 0) (pc := 45) [.inr (.inr (t, 27)), .inl (x3 - 1)] rfl dX2_holds_45 lnX2_48 MsX11_cell rfl (Or.inl rfl) (fun h => h) (by exact Nat.le_of_ble_eq_true rfl) ?_
        obtain ⟨v13, e12, h⟩ := gz_bd h
        refine gz_useI (c_X11_cell z_t_27 rfl e12) ?_
        refine gz_isub (pc := 48) dX2_holds_48  ?_
        refine gz_SN (zy := mX11_write) (zc := 0) (pc := 49) [.inr (.inr (t, 27)), .inl (x3 - 1), .inl (1 - v13)] rfl dX2_holds_49 lnX2_52 MsX11_write rfl (Or.inl rfl) (fun h => h) (by exact Nat.le_of_ble_eq_true rfl) ?_
        obtain ⟨v15, e14, h⟩ := gz_bd h
        refine gz_useV (c_X11_write z_t_27 rfl e14) ?_
        refine gz_goto (pc := 52) (tgt := 155) dX2_holds_52 (by decide) ?_
        refine gz_iinc (pc := 155) dX2_holds_155 (x := x4) (v := x4 + 1) rfl (by rw [show Int32.ofInt 1 = 1 by decide]) (by decide) rfl (loc2 := [some (.inr (.inr (t, 20))), none, some (.inl x2), some (.inl x3), some (.inl (x4 + 1)), some (.inl v5)]) rfl ?_
        refine gz_goto (pc := 158) (tgt := 5) dX2_holds_158 (by decide) ?_
        exact gz_weak (loc2 := [some (.inr (.inr (t, 20))), none, some (.inl x2), some (.inl x3), some (.inl (x4 + 1)), none]) (ih x2 x3 (x4 + 1) v15.2.1 v15.2.2 h) (by repeat (first | exact trivial | refine ⟨rfl, ?_⟩))
def f_X2_holds (φ : Nat) (t : Nat) (a1 : Int32) (a2 : Int32) (I : gzIT) (J : gzJT) : Option (Int32 × gzIT × gzJT) := f_X2_holds_5 φ t φ a2 0 a1 I J
set_option maxRecDepth 20000 in
theorem c_X2_holds {g : gzG} {d φ : Nat} {t : Nat} (ht : t < 3) {a1 : Int32} {a2 : Int32} {I : gzIT} {J : gzJT} {r : Int32 × gzIT × gzJT} (h : f_X2_holds φ t a1 a2 I J = some r) : gzC g 0 (d + 1) mX2_holds [.inr (.inr (t, 20)), .inl a1, .inl a2] (gzN, gzR0, I, J) (gzE (.ok (some (.inl r.1))) (gzN, gzR0, r.2.1, r.2.2)) := by
  unfold f_X2_holds at h
  refine gzC_of (by decide +kernel) (Nat.le_of_ble_eq_true rfl) (loc := [some (.inr (.inr (t, 20))), some (.inl a1), some (.inl a2), none, none, none]) rfl ?_
  refine gz_iconst (pc := 0) dX2_holds_0 (v := 0) (by decide) ?_
  refine gz_istore_n (pc := 1) dX2_holds_1 (by decide) rfl (loc2 := [some (.inr (.inr (t, 20))), some (.inl a1), some (.inl a2), some (.inl 0), none, none]) rfl ?_
  refine gz_iload_n (pc := 2) dX2_holds_2 rfl ?_
  refine gz_istore (pc := 3) dX2_holds_3 (by decide) rfl (loc2 := [some (.inr (.inr (t, 20))), some (.inl a1), some (.inl a2), some (.inl 0), some (.inl a1), none]) rfl ?_
  exact gz_weak (loc2 := [some (.inr (.inr (t, 20))), none, some (.inl a2), some (.inl 0), some (.inl a1), none]) (p_X2_holds_5 ht φ a2 0 a1 I J h) (by repeat (first | exact trivial | refine ⟨rfl, ?_⟩))
/-! X2_sum: sum -/
def gP_X2_sum_4 (g : gzG) (t : Nat) (d : Nat) (r : Int32 × gzIT × gzJT) (x1 : Int32) (x2 : Int32) (x3 : Int32) (I : gzIT) (J : gzJT) : Prop := gzX g 0 (d + 2) mX2_sum 4 [some (.inr (.inr (t, 20))), some (.inl x1), some (.inl x2), some (.inl x3)] [] (gzN, gzR0, I, J) 0 (gzE (.ok (some (.inl r.1))) (gzN, gzR0, r.2.1, r.2.2))
def f_X2_sum_4 (φ : Nat) (t : Nat) : Nat → Int32 → Int32 → Int32 → gzIT → gzJT → Option (Int32 × gzIT × gzJT)
  | 0, _, _, _, _, _ => none
  | k + 1, x1, x2, x3, I, J => if I t 20 7 ≤ x3 then (some (x2, I, J)) else (if 12 ≤ x3 then (some (x2, I, J)) else (gzGd (x3) 12 (if ¬ I t 21 x3.toNatClampNeg = x1 then (f_X2_sum_4 φ t k x1 x2 (x3 + 1) I J) else (Option.bind (f_X2_holds φ t (I t 23 x3.toNatClampNeg) (I t 24 x3.toNatClampNeg) I J) (fun v3 => if v3.1 = 0 then (f_X2_sum_4 φ t k x1 x2 (x3 + 1) v3.2.1 v3.2.2) else (f_X2_sum_4 φ t k x1 (x2 + (v3.2.1 t 22 x3.toNatClampNeg)) (x3 + 1) v3.2.1 v3.2.2))))))
set_option maxRecDepth 20000 in
theorem p_X2_sum_4 {g : gzG} {d φ : Nat} {t : Nat} (ht : t < 3) {r : Int32 × gzIT × gzJT} : ∀ (k : Nat) (x1 : Int32) (x2 : Int32) (x3 : Int32) (I : gzIT) (J : gzJT), f_X2_sum_4 φ t k x1 x2 x3 I J = some r → gP_X2_sum_4 g t d r x1 x2 x3 I J := by
  intro k; induction k with
  | zero => intro x1 x2 x3 I J h; cases h
  | succ k ih =>
    intro x1 x2 x3 I J h
    unfold f_X2_sum_4 at h
    unfold gP_X2_sum_4
    have z_t_20 : gzOk t 20 gzN := gzOk_of ht
    have z_t_21 : gzOk t 21 gzN := gzOk_of ht
    have z_t_23 : gzOk t 23 gzN := gzOk_of ht
    have z_t_24 : gzOk t 24 gzN := gzOk_of ht
    have z_t_22 : gzOk t 22 gzN := gzOk_of ht
    refine gz_iload_n (pc := 4) dX2_sum_4 rfl ?_
    refine gz_aload_n (pc := 5) dX2_sum_5 rfl ?_
    refine gi_X2_33 (pc := 6) dX2_sum_6 (v := I t 20 7) z_t_20 rfl rfl ?_
    refine gz_ic_ge (pc := 9) (tgt := 62) dX2_sum_9 (by decide) (fun c => ?_) (fun c => ?_)
    · replace h := gz_ifp c h
      refine gz_iload_n (pc := 62) dX2_sum_62 rfl ?_
      cases h; exact gz_iret (pc := 63) dX2_sum_63 rfl ⟨rfl, rfl⟩
    · replace h := gz_ifn c h
      refine gz_iload_n (pc := 12) dX2_sum_12 rfl ?_
      refine gz_bipush (pc := 13) dX2_sum_13 (v := 12) (by decide) ?_
      refine gz_ic_ge (pc := 15) (tgt := 62) dX2_sum_15 (by decide) (fun c => ?_) (fun c => ?_)
      · replace h := gz_ifp c h
        refine gz_iload_n (pc := 62) dX2_sum_62 rfl ?_
        cases h; exact gz_iret (pc := 63) dX2_sum_63 rfl ⟨rfl, rfl⟩
      · replace h := gz_ifn c h
        refine gz_aload_n (pc := 18) dX2_sum_18 rfl ?_
        refine gr_X2_9 (pc := 19) dX2_sum_19 z_t_20 rfl ?_
        refine gz_iload_n (pc := 22) dX2_sum_22 rfl ?_
        obtain ⟨b1, h⟩ := gz_gd h
        refine gz_iald2 (pc := 23) dX2_sum_23 (k := x3.toNatClampNeg) (v := I t 21 x3.toNatClampNeg) z_t_21 rfl b1 rfl rfl ?_
        refine gz_iload_n (pc := 24) dX2_sum_24 rfl ?_
        refine gz_ic_ne (pc := 25) (tgt := 56) dX2_sum_25 (by decide) (fun c => ?_) (fun c => ?_)
        · replace h := gz_ifp c h
          refine gz_iinc (pc := 56) dX2_sum_56 (x := x3) (v := x3 + 1) rfl (by rw [show Int32.ofInt 1 = 1 by decide]) (by decide) rfl (loc2 := [some (.inr (.inr (t, 20))), some (.inl x1), some (.inl x2), some (.inl (x3 + 1))]) rfl ?_
          refine gz_goto (pc := 59) (tgt := 4) dX2_sum_59 (by decide) ?_
          exact ih x1 x2 (x3 + 1) I J h
        · replace h := gz_ifn (fun q => q c) h
          refine gz_aload_n (pc := 28) dX2_sum_28 rfl ?_
          refine gz_aload_n (pc := 29) dX2_sum_29 rfl ?_
          refine gr_X2_18 (pc := 30) dX2_sum_30 z_t_20 rfl ?_
          refine gz_iload_n (pc := 33) dX2_sum_33 rfl ?_
          refine gz_iald2 (pc := 34) dX2_sum_34 (k := x3.toNatClampNeg) (v := I t 23 x3.toNatClampNeg) z_t_23 rfl b1 rfl rfl ?_
          refine gz_aload_n (pc := 35) dX2_sum_35 rfl ?_
          refine gr_X2_21 (pc := 36) dX2_sum_36 z_t_20 rfl ?_
          refine gz_iload_n (pc := 39) dX2_sum_39 rfl ?_
          refine gz_iald2 (pc := 40) dX2_sum_40 (k := x3.toNatClampNeg) (v := I t 24 x3.toNatClampNeg) z_t_24 rfl b1 rfl rfl ?_
          refine gz_V (zy := mX2_holds) (zc := 0) (pc := 41) [.inl (I t 23 x3.toNatClampNeg), .inl (I t 24 x3.toNatClampNeg)] rfl dX2_sum_41 lkX2_44 MvX2_holds rfl z_t_20 rfl rfl rfl (Or.inl rfl) (fun h => h) (by exact Nat.le_of_ble_eq_true rfl) ?_
          obtain ⟨v3, e2, h⟩ := gz_bd h
          refine gz_useI (c_X2_holds ht e2) ?_
          refine gz_if_eq (pc := 44) (tgt := 56) dX2_sum_44 (by decide) (fun c => ?_) (fun c => ?_)
          · replace h := gz_ifp c h
            refine gz_iinc (pc := 56) dX2_sum_56 (x := x3) (v := x3 + 1) rfl (by rw [show Int32.ofInt 1 = 1 by decide]) (by decide) rfl (loc2 := [some (.inr (.inr (t, 20))), some (.inl x1), some (.inl x2), some (.inl (x3 + 1))]) rfl ?_
            refine gz_goto (pc := 59) (tgt := 4) dX2_sum_59 (by decide) ?_
            exact ih x1 x2 (x3 + 1) v3.2.1 v3.2.2 h
          · replace h := gz_ifn c h
            refine gz_iload_n (pc := 47) dX2_sum_47 rfl ?_
            refine gz_aload_n (pc := 48) dX2_sum_48 rfl ?_
            refine gr_X2_15 (pc := 49) dX2_sum_49 z_t_20 rfl ?_
            refine gz_iload_n (pc := 52) dX2_sum_52 rfl ?_
            refine gz_iald2 (pc := 53) dX2_sum_53 (k := x3.toNatClampNeg) (v := v3.2.1 t 22 x3.toNatClampNeg) z_t_22 rfl b1 rfl rfl ?_
            refine gz_iadd (pc := 54) dX2_sum_54  ?_
            refine gz_istore_n (pc := 55) dX2_sum_55 (by decide) rfl (loc2 := [some (.inr (.inr (t, 20))), some (.inl x1), some (.inl (x2 + (v3.2.1 t 22 x3.toNatClampNeg))), some (.inl x3)]) rfl ?_
            refine gz_iinc (pc := 56) dX2_sum_56 (x := x3) (v := x3 + 1) rfl (by rw [show Int32.ofInt 1 = 1 by decide]) (by decide) rfl (loc2 := [some (.inr (.inr (t, 20))), some (.inl x1), some (.inl (x2 + (v3.2.1 t 22 x3.toNatClampNeg))), some (.inl (x3 + 1))]) rfl ?_
            refine gz_goto (pc := 59) (tgt := 4) dX2_sum_59 (by decide) ?_
            exact ih x1 (x2 + (v3.2.1 t 22 x3.toNatClampNeg)) (x3 + 1) v3.2.1 v3.2.2 h
def f_X2_sum (φ : Nat) (t : Nat) (a1 : Int32) (I : gzIT) (J : gzJT) : Option (Int32 × gzIT × gzJT) := f_X2_sum_4 φ t φ a1 0 0 I J
set_option maxRecDepth 20000 in
theorem c_X2_sum {g : gzG} {d φ : Nat} {t : Nat} (ht : t < 3) {a1 : Int32} {I : gzIT} {J : gzJT} {r : Int32 × gzIT × gzJT} (h : f_X2_sum φ t a1 I J = some r) : gzC g 0 (d + 2) mX2_sum [.inr (.inr (t, 20)), .inl a1] (gzN, gzR0, I, J) (gzE (.ok (some (.inl r.1))) (gzN, gzR0, r.2.1, r.2.2)) := by
  unfold f_X2_sum at h
  refine gzC_of (by decide +kernel) (Nat.le_of_ble_eq_true rfl) (loc := [some (.inr (.inr (t, 20))), some (.inl a1), none, none]) rfl ?_
  refine gz_iconst (pc := 0) dX2_sum_0 (v := 0) (by decide) ?_
  refine gz_istore_n (pc := 1) dX2_sum_1 (by decide) rfl (loc2 := [some (.inr (.inr (t, 20))), some (.inl a1), some (.inl 0), none]) rfl ?_
  refine gz_iconst (pc := 2) dX2_sum_2 (v := 0) (by decide) ?_
  refine gz_istore_n (pc := 3) dX2_sum_3 (by decide) rfl (loc2 := [some (.inr (.inr (t, 20))), some (.inl a1), some (.inl 0), some (.inl 0)]) rfl ?_
  exact p_X2_sum_4 ht φ a1 0 0 I J h
/-! X7_step: step -/
def gP_X7_step_21 (g : gzG) (d : Nat) (r : Unit × gzIT × gzJT) (I : gzIT) (J : gzJT) : Prop := gzX g 0 d mX7_step 21 [some (.inr (.inr (0, 33)))] [] (gzN, gzR0, I, J) 0 (gzE (.ok none) (gzN, gzR0, r.2.1, r.2.2))
def f_X7_step_21 (I : gzIT) (J : gzJT) : Option (Unit × gzIT × gzJT) := if I 0 33 4 < 0 then (some ((), I, J)) else (if 401 ≤ I 0 33 4 then (some ((), I, J)) else (gzGd (I 0 33 4) 401 (some ((), gz_ui (gz_ui I 0 33 5 (I 0 34 ((I 0 33 4).toNatClampNeg))) 0 33 6 (I 0 35 ((I 0 33 4).toNatClampNeg)), J))))
set_option maxRecDepth 20000 in
theorem p_X7_step_21 {g : gzG} {d : Nat} {r : Unit × gzIT × gzJT} (I : gzIT) (J : gzJT) (h : f_X7_step_21 I J = some r) : gP_X7_step_21 g d r I J := by
  unfold f_X7_step_21 at h
  unfold gP_X7_step_21
  have z_0_33 : gzOk 0 33 gzN := gzOk_of (by decide)
  have z_0_34 : gzOk 0 34 gzN := gzOk_of (by decide)
  have z_0_35 : gzOk 0 35 gzN := gzOk_of (by decide)
  refine gz_aload_n (pc := 21) dX7_step_21 rfl ?_
  refine gi_X7_25 (pc := 22) dX7_step_22 (v := I 0 33 4) z_0_33 rfl rfl ?_
  refine gz_if_lt (pc := 25) (tgt := 66) dX7_step_25 (by decide) (fun c => ?_) (fun c => ?_)
  · replace h := gz_ifp c h
    cases h; exact gz_vret (pc := 66) dX7_step_66 rfl ⟨rfl, rfl⟩
  · replace h := gz_ifn c h
    refine gz_aload_n (pc := 28) dX7_step_28 rfl ?_
    refine gi_X7_25 (pc := 29) dX7_step_29 (v := I 0 33 4) z_0_33 rfl rfl ?_
    refine gz_aload_n (pc := 32) dX7_step_32 rfl ?_
    refine gr_X7_9 (pc := 33) dX7_step_33 z_0_33 rfl ?_
    refine gz_alen (pc := 36) dX7_step_36 z_0_34 rfl (by decide) (v := 401) (by decide) ?_
    refine gz_ic_ge (pc := 37) (tgt := 66) dX7_step_37 (by decide) (fun c => ?_) (fun c => ?_)
    · replace h := gz_ifp c h
      cases h; exact gz_vret (pc := 66) dX7_step_66 rfl ⟨rfl, rfl⟩
    · replace h := gz_ifn c h
      refine gz_aload_n (pc := 40) dX7_step_40 rfl ?_
      refine gz_aload_n (pc := 41) dX7_step_41 rfl ?_
      refine gr_X7_9 (pc := 42) dX7_step_42 z_0_33 rfl ?_
      refine gz_aload_n (pc := 45) dX7_step_45 rfl ?_
      refine gi_X7_25 (pc := 46) dX7_step_46 (v := I 0 33 4) z_0_33 rfl rfl ?_
      obtain ⟨b1, h⟩ := gz_gd h
      refine gz_iald2 (pc := 49) dX7_step_49 (k := (I 0 33 4).toNatClampNeg) (v := I 0 34 ((I 0 33 4).toNatClampNeg)) z_0_34 rfl b1 rfl rfl ?_
      refine gp_X7_28 (pc := 50) dX7_step_50 z_0_33 rfl ?_
      refine gz_aload_n (pc := 53) dX7_step_53 rfl ?_
      refine gz_aload_n (pc := 54) dX7_step_54 rfl ?_
      refine gr_X7_15 (pc := 55) dX7_step_55 z_0_33 rfl ?_
      refine gz_aload_n (pc := 58) dX7_step_58 rfl ?_
      refine gi_X7_25 (pc := 59) dX7_step_59 (v := I 0 33 4) z_0_33 (gz_ui_k (by decide)) rfl ?_
      refine gz_iald2 (pc := 62) dX7_step_62 (k := (I 0 33 4).toNatClampNeg) (v := I 0 35 ((I 0 33 4).toNatClampNeg)) z_0_35 rfl b1 rfl (gz_ui_o (by decide)) ?_
      refine gp_X7_31 (pc := 63) dX7_step_63 z_0_33 rfl ?_
      cases h; exact gz_vret (pc := 66) dX7_step_66 rfl ⟨rfl, rfl⟩
def f_X7_step (I : gzIT) (J : gzJT) : Option (Unit × gzIT × gzJT) := if I 0 33 3 ≤ I 0 33 4 then (f_X7_step_21 I J) else (f_X7_step_21 (gz_ui I 0 33 4 ((I 0 33 4) + 1)) J)
set_option maxRecDepth 20000 in
theorem c_X7_step {g : gzG} {d : Nat} {I : gzIT} {J : gzJT} {r : Unit × gzIT × gzJT} (h : f_X7_step I J = some r) : gzC g 0 d mX7_step [.inr (.inr (0, 33))] (gzN, gzR0, I, J) (gzE (.ok none) (gzN, gzR0, r.2.1, r.2.2)) := by
  unfold f_X7_step at h
  refine gzC_of (by decide +kernel) (Nat.le_of_ble_eq_true rfl) (loc := [some (.inr (.inr (0, 33)))]) rfl ?_
  have z_0_33 : gzOk 0 33 gzN := gzOk_of (by decide)
  refine gz_aload_n (pc := 0) dX7_step_0 rfl ?_
  refine gi_X7_25 (pc := 1) dX7_step_1 (v := I 0 33 4) z_0_33 rfl rfl ?_
  refine gz_aload_n (pc := 4) dX7_step_4 rfl ?_
  refine gi_X7_21 (pc := 5) dX7_step_5 (v := I 0 33 3) z_0_33 rfl rfl ?_
  refine gz_ic_ge (pc := 8) (tgt := 21) dX7_step_8 (by decide) (fun c => ?_) (fun c => ?_)
  · replace h := gz_ifp c h
    exact p_X7_step_21 I J h
  · replace h := gz_ifn c h
    refine gz_aload_n (pc := 11) dX7_step_11 rfl ?_
    refine gz_dupR (pc := 12) dX7_step_12  ?_
    refine gi_X7_25 (pc := 13) dX7_step_13 (v := I 0 33 4) z_0_33 rfl rfl ?_
    refine gz_iconst (pc := 16) dX7_step_16 (v := 1) (by decide) ?_
    refine gz_iadd (pc := 17) dX7_step_17  ?_
    refine gp_X7_25 (pc := 18) dX7_step_18 z_0_33 rfl ?_
    exact p_X7_step_21 (gz_ui I 0 33 4 ((I 0 33 4) + 1)) J h
/-! X7_take: take -/
def f_X7_take (a1 : Int32) (I : gzIT) (J : gzJT) : Option (Int32 × gzIT × gzJT) := if I 0 33 5 = a1 then (Option.bind (f_X7_step I J) (fun v2 => some (1, v2.2.1, v2.2.2))) else (some (0, I, J))
set_option maxRecDepth 20000 in
theorem c_X7_take {g : gzG} {d : Nat} {a1 : Int32} {I : gzIT} {J : gzJT} {r : Int32 × gzIT × gzJT} (h : f_X7_take a1 I J = some r) : gzC g 0 (d + 1) mX7_take [.inr (.inr (0, 33)), .inl a1] (gzN, gzR0, I, J) (gzE (.ok (some (.inl r.1))) (gzN, gzR0, r.2.1, r.2.2)) := by
  unfold f_X7_take at h
  refine gzC_of (by decide +kernel) (Nat.le_of_ble_eq_true rfl) (loc := [some (.inr (.inr (0, 33))), some (.inl a1)]) rfl ?_
  have z_0_33 : gzOk 0 33 gzN := gzOk_of (by decide)
  refine gz_aload_n (pc := 0) dX7_take_0 rfl ?_
  refine gi_X7_28 (pc := 1) dX7_take_1 (v := I 0 33 5) z_0_33 rfl rfl ?_
  refine gz_iload_n (pc := 4) dX7_take_4 rfl ?_
  refine gz_ic_eq (pc := 5) (tgt := 10) dX7_take_5 (by decide) (fun c => ?_) (fun c => ?_)
  · replace h := gz_ifp c h
    refine gz_aload_n (pc := 10) dX7_take_10 rfl ?_
    refine gz_V (zy := mX7_step) (zc := 0) (pc := 11) [] rfl dX7_take_11 lkX7_55 MvX7_step rfl z_0_33 rfl rfl rfl (Or.inl rfl) (fun h => h) (by exact Nat.le_of_ble_eq_true rfl) ?_
    obtain ⟨v2, e1, h⟩ := gz_bd h
    refine gz_useV (c_X7_step e1) ?_
    refine gz_iconst (pc := 14) dX7_take_14 (v := 1) (by decide) ?_
    cases h; exact gz_zret (pc := 15) dX7_take_15 rfl (by decide) ⟨rfl, rfl⟩
  · replace h := gz_ifn c h
    refine gz_iconst (pc := 8) dX7_take_8 (v := 0) (by decide) ?_
    cases h; exact gz_zret (pc := 9) dX7_take_9 rfl (by decide) ⟨rfl, rfl⟩
/-! X3_readCondition: readCondition -/
def gP_X3_readCondition_11 (g : gzG) (t1 : Nat) (d : Nat) (r : (Except String Unit) × gzIT × gzJT) (x2 : Int32) (x3 : Int32) (x4 : Int32) (I : gzIT) (J : gzJT) : Prop := gzX g 0 (d + 2) mX3_readCondition 11 [some (.inr (.inr (0, 38))), some (.inr (.inr (t1, 20))), some (.inl x2), some (.inl x3), some (.inl x4)] [] (gzN, gzR0, I, J) 0 (gzE (gzRV r.1) (gzN, gzR0, r.2.1, r.2.2))
def f_X3_readCondition_11 (φ : Nat) (t1 : Nat) (R : Int32 → gzIT → gzJT → Option ((Except String Unit) × gzIT × gzJT)) : Nat → Int32 → Int32 → Int32 → gzIT → gzJT → Option ((Except String Unit) × gzIT × gzJT)
  | 0, _, _, _, _, _ => none
  | k + 1, x2, x3, x4, I, J => if 400 ≤ x4 then (if x3 = 0 then (some (.ok (), I, J)) else (Option.bind (f_X2_put t1 1029 I J) (fun v6 => some (.ok (), v6.2.1, v6.2.2)))) else (Option.bind (f_X7_take 1028 I J) (fun v8 => if v8.1 = 0 then (Option.bind (f_X7_take 1029 v8.2.1 v8.2.2) (fun v10 => if v10.1 = 0 then (if x3 = 0 then (some (.ok (), v10.2.1, v10.2.2)) else (Option.bind (f_X2_put t1 1029 v10.2.1 v10.2.2) (fun v12 => some (.ok (), v12.2.1, v12.2.2)))) else (if x3 = 0 then (Option.bind (R x2 v10.2.1 v10.2.2) (fun v14 => gzEx v14.1 (fun E => some (.error E, v14.2.1, v14.2.2)) (fun w16 => f_X3_readCondition_11 φ t1 R k x2 1 (x4 + 1) v14.2.1 v14.2.2))) else (Option.bind (f_X2_put t1 1029 v10.2.1 v10.2.2) (fun v18 => Option.bind (R x2 v18.2.1 v18.2.2) (fun v20 => gzEx v20.1 (fun E => some (.error E, v20.2.1, v20.2.2)) (fun w22 => f_X3_readCondition_11 φ t1 R k x2 1 (x4 + 1) v20.2.1 v20.2.2))))))) else (Option.bind (R x2 v8.2.1 v8.2.2) (fun v24 => gzEx v24.1 (fun E => some (.error E, v24.2.1, v24.2.2)) (fun w26 => Option.bind (f_X2_put t1 1028 v24.2.1 v24.2.2) (fun v28 => f_X3_readCondition_11 φ t1 R k x2 x3 (x4 + 1) v28.2.1 v28.2.2))))))
set_option maxRecDepth 20000 in
theorem p_X3_readCondition_11 {g : gzG} {d φ : Nat} {t1 : Nat} (ht1 : t1 < 3) {r : (Except String Unit) × gzIT × gzJT} {R : Int32 → gzIT → gzJT → Option ((Except String Unit) × gzIT × gzJT)} (hR : ∀ e, d ≤ e → ∀ (q0 : Int32) (I : gzIT) (J : gzJT) (r : (Except String Unit) × gzIT × gzJT), R q0 I J = some r → gzC g 0 e mX3_readAtom [.inr (.inr (0, 38)), .inr (.inr (t1, 20)), .inl q0] (gzN, gzR0, I, J) (gzE (gzRV r.1) (gzN, gzR0, r.2.1, r.2.2))) : ∀ (k : Nat) (x2 : Int32) (x3 : Int32) (x4 : Int32) (I : gzIT) (J : gzJT), f_X3_readCondition_11 φ t1 R k x2 x3 x4 I J = some r → gP_X3_readCondition_11 g t1 d r x2 x3 x4 I J := by
  intro k; induction k with
  | zero => intro x2 x3 x4 I J h; cases h
  | succ k ih =>
    intro x2 x3 x4 I J h
    unfold f_X3_readCondition_11 at h
    unfold gP_X3_readCondition_11
    have z_t1_20 : gzOk t1 20 gzN := gzOk_of ht1
    have z_0_38 : gzOk 0 38 gzN := gzOk_of (by decide)
    have z_0_33 : gzOk 0 33 gzN := gzOk_of (by decide)
    refine gz_iload (pc := 11) dX3_readCondition_11 rfl ?_
    refine gz_sipush (pc := 13) dX3_readCondition_13 (v := 400) (by decide) ?_
    refine gz_ic_ge (pc := 16) (tgt := 86) dX3_readCondition_16 (by decide) (fun c => ?_) (fun c => ?_)
    · replace h := gz_ifp c h
      refine gz_iload_n (pc := 86) dX3_readCondition_86 rfl ?_
      refine gz_if_eq (pc := 87) (tgt := 97) dX3_readCondition_87 (by decide) (fun c => ?_) (fun c => ?_)
      · replace h := gz_ifp c h
        cases h; exact gz_vret (pc := 97) dX3_readCondition_97 rfl ⟨rfl, rfl⟩
      · replace h := gz_ifn c h
        refine gz_aload_n (pc := 90) dX3_readCondition_90 rfl ?_
        refine gz_sipush (pc := 91) dX3_readCondition_91 (v := 1029) (by decide) ?_
        refine gz_V (zy := mX2_put) (zc := 0) (pc := 94) [.inl 1029] rfl dX3_readCondition_94 lkX3_63 MvX2_put rfl z_t1_20 rfl rfl rfl (Or.inl rfl) (fun h => h) (by exact Nat.le_of_ble_eq_true rfl) ?_
        obtain ⟨v6, e5, h⟩ := gz_bd h
        refine gz_useV (c_X2_put ht1 e5) ?_
        cases h; exact gz_vret (pc := 97) dX3_readCondition_97 rfl ⟨rfl, rfl⟩
    · replace h := gz_ifn c h
      refine gz_aload_n (pc := 19) dX3_readCondition_19 rfl ?_
      refine gr_X3_9 (pc := 20) dX3_readCondition_20 z_0_38 rfl ?_
      refine gz_sipush (pc := 23) dX3_readCondition_23 (v := 1028) (by decide) ?_
      refine gz_V (zy := mX7_take) (zc := 0) (pc := 26) [.inl 1028] rfl dX3_readCondition_26 lkX3_49 MvX7_take rfl z_0_33 rfl rfl rfl (Or.inl rfl) (fun h => h) (by exact Nat.le_of_ble_eq_true rfl) ?_
      obtain ⟨v8, e7, h⟩ := gz_bd h
      refine gz_useI (c_X7_take e7) ?_
      refine gz_if_eq (pc := 29) (tgt := 48) dX3_readCondition_29 (by decide) (fun c => ?_) (fun c => ?_)
      · replace h := gz_ifp c h
        refine gz_aload_n (pc := 48) dX3_readCondition_48 rfl ?_
        refine gr_X3_9 (pc := 49) dX3_readCondition_49 z_0_38 rfl ?_
        refine gz_sipush (pc := 52) dX3_readCondition_52 (v := 1029) (by decide) ?_
        refine gz_V (zy := mX7_take) (zc := 0) (pc := 55) [.inl 1029] rfl dX3_readCondition_55 lkX3_49 MvX7_take rfl z_0_33 rfl rfl rfl (Or.inl rfl) (fun h => h) (by exact Nat.le_of_ble_eq_true rfl) ?_
        obtain ⟨v10, e9, h⟩ := gz_bd h
        refine gz_useI (c_X7_take e9) ?_
        refine gz_if_eq (pc := 58) (tgt := 86) dX3_readCondition_58 (by decide) (fun c => ?_) (fun c => ?_)
        · replace h := gz_ifp c h
          refine gz_iload_n (pc := 86) dX3_readCondition_86 rfl ?_
          refine gz_if_eq (pc := 87) (tgt := 97) dX3_readCondition_87 (by decide) (fun c => ?_) (fun c => ?_)
          · replace h := gz_ifp c h
            cases h; exact gz_vret (pc := 97) dX3_readCondition_97 rfl ⟨rfl, rfl⟩
          · replace h := gz_ifn c h
            refine gz_aload_n (pc := 90) dX3_readCondition_90 rfl ?_
            refine gz_sipush (pc := 91) dX3_readCondition_91 (v := 1029) (by decide) ?_
            refine gz_V (zy := mX2_put) (zc := 0) (pc := 94) [.inl 1029] rfl dX3_readCondition_94 lkX3_63 MvX2_put rfl z_t1_20 rfl rfl rfl (Or.inl rfl) (fun h => h) (by exact Nat.le_of_ble_eq_true rfl) ?_
            obtain ⟨v12, e11, h⟩ := gz_bd h
            refine gz_useV (c_X2_put ht1 e11) ?_
            cases h; exact gz_vret (pc := 97) dX3_readCondition_97 rfl ⟨rfl, rfl⟩
        · replace h := gz_ifn c h
          refine gz_iload_n (pc := 61) dX3_readCondition_61 rfl ?_
          refine gz_if_eq (pc := 62) (tgt := 72) dX3_readCondition_62 (by decide) (fun c => ?_) (fun c => ?_)
          · replace h := gz_ifp c h
            refine gz_iconst (pc := 72) dX3_readCondition_72 (v := 1) (by decide) ?_
            refine gz_istore_n (pc := 73) dX3_readCondition_73 (by decide) rfl (loc2 := [some (.inr (.inr (0, 38))), some (.inr (.inr (t1, 20))), some (.inl x2), some (.inl 1), some (.inl x4)]) rfl ?_
            refine gz_aload_n (pc := 74) dX3_readCondition_74 rfl ?_
            refine gz_aload_n (pc := 75) dX3_readCondition_75 rfl ?_
            refine gz_iload_n (pc := 76) dX3_readCondition_76 rfl ?_
            refine gz_V (zy := mX3_readAtom) (zc := 0) (pc := 77) [.inr (.inr (t1, 20)), .inl x2] rfl dX3_readCondition_77 lkX3_60 MvX3_readAtom rfl z_0_38 rfl rfl rfl (Or.inl rfl) (fun h => h) (by exact Nat.le_of_ble_eq_true rfl) ?_
            obtain ⟨v14, e13, h⟩ := gz_bd h
            cases x15 : v14.1 with
            | error E => replace h := gz_exe x15 h; cases h; exact gz_useTV x15 (hR _ (by omega) _ _ _ _ e13) ⟨by simp [gzRI, gzRJ, gzRV], rfl⟩
            | ok w16 =>
              replace h := gz_exo x15 h
              refine gz_useOV x15 (hR _ (by omega) _ _ _ _ e13) ?_
              refine gz_iinc (pc := 80) dX3_readCondition_80 (x := x4) (v := x4 + 1) rfl (by rw [show Int32.ofInt 1 = 1 by decide]) (by decide) rfl (loc2 := [some (.inr (.inr (0, 38))), some (.inr (.inr (t1, 20))), some (.inl x2), some (.inl 1), some (.inl (x4 + 1))]) rfl ?_
              refine gz_goto (pc := 83) (tgt := 11) dX3_readCondition_83 (by decide) ?_
              exact ih x2 1 (x4 + 1) v14.2.1 v14.2.2 h
          · replace h := gz_ifn c h
            refine gz_aload_n (pc := 65) dX3_readCondition_65 rfl ?_
            refine gz_sipush (pc := 66) dX3_readCondition_66 (v := 1029) (by decide) ?_
            refine gz_V (zy := mX2_put) (zc := 0) (pc := 69) [.inl 1029] rfl dX3_readCondition_69 lkX3_63 MvX2_put rfl z_t1_20 rfl rfl rfl (Or.inl rfl) (fun h => h) (by exact Nat.le_of_ble_eq_true rfl) ?_
            obtain ⟨v18, e17, h⟩ := gz_bd h
            refine gz_useV (c_X2_put ht1 e17) ?_
            refine gz_iconst (pc := 72) dX3_readCondition_72 (v := 1) (by decide) ?_
            refine gz_istore_n (pc := 73) dX3_readCondition_73 (by decide) rfl (loc2 := [some (.inr (.inr (0, 38))), some (.inr (.inr (t1, 20))), some (.inl x2), some (.inl 1), some (.inl x4)]) rfl ?_
            refine gz_aload_n (pc := 74) dX3_readCondition_74 rfl ?_
            refine gz_aload_n (pc := 75) dX3_readCondition_75 rfl ?_
            refine gz_iload_n (pc := 76) dX3_readCondition_76 rfl ?_
            refine gz_V (zy := mX3_readAtom) (zc := 0) (pc := 77) [.inr (.inr (t1, 20)), .inl x2] rfl dX3_readCondition_77 lkX3_60 MvX3_readAtom rfl z_0_38 rfl rfl rfl (Or.inl rfl) (fun h => h) (by exact Nat.le_of_ble_eq_true rfl) ?_
            obtain ⟨v20, e19, h⟩ := gz_bd h
            cases x21 : v20.1 with
            | error E => replace h := gz_exe x21 h; cases h; exact gz_useTV x21 (hR _ (by omega) _ _ _ _ e19) ⟨by simp [gzRI, gzRJ, gzRV], rfl⟩
            | ok w22 =>
              replace h := gz_exo x21 h
              refine gz_useOV x21 (hR _ (by omega) _ _ _ _ e19) ?_
              refine gz_iinc (pc := 80) dX3_readCondition_80 (x := x4) (v := x4 + 1) rfl (by rw [show Int32.ofInt 1 = 1 by decide]) (by decide) rfl (loc2 := [some (.inr (.inr (0, 38))), some (.inr (.inr (t1, 20))), some (.inl x2), some (.inl 1), some (.inl (x4 + 1))]) rfl ?_
              refine gz_goto (pc := 83) (tgt := 11) dX3_readCondition_83 (by decide) ?_
              exact ih x2 1 (x4 + 1) v20.2.1 v20.2.2 h
      · replace h := gz_ifn c h
        refine gz_aload_n (pc := 32) dX3_readCondition_32 rfl ?_
        refine gz_aload_n (pc := 33) dX3_readCondition_33 rfl ?_
        refine gz_iload_n (pc := 34) dX3_readCondition_34 rfl ?_
        refine gz_V (zy := mX3_readAtom) (zc := 0) (pc := 35) [.inr (.inr (t1, 20)), .inl x2] rfl dX3_readCondition_35 lkX3_60 MvX3_readAtom rfl z_0_38 rfl rfl rfl (Or.inl rfl) (fun h => h) (by exact Nat.le_of_ble_eq_true rfl) ?_
        obtain ⟨v24, e23, h⟩ := gz_bd h
        cases x25 : v24.1 with
        | error E => replace h := gz_exe x25 h; cases h; exact gz_useTV x25 (hR _ (by omega) _ _ _ _ e23) ⟨by simp [gzRI, gzRJ, gzRV], rfl⟩
        | ok w26 =>
          replace h := gz_exo x25 h
          refine gz_useOV x25 (hR _ (by omega) _ _ _ _ e23) ?_
          refine gz_aload_n (pc := 38) dX3_readCondition_38 rfl ?_
          refine gz_sipush (pc := 39) dX3_readCondition_39 (v := 1028) (by decide) ?_
          refine gz_V (zy := mX2_put) (zc := 0) (pc := 42) [.inl 1028] rfl dX3_readCondition_42 lkX3_63 MvX2_put rfl z_t1_20 rfl rfl rfl (Or.inl rfl) (fun h => h) (by exact Nat.le_of_ble_eq_true rfl) ?_
          obtain ⟨v28, e27, h⟩ := gz_bd h
          refine gz_useV (c_X2_put ht1 e27) ?_
          refine gz_goto (pc := 45) (tgt := 80) dX3_readCondition_45 (by decide) ?_
          refine gz_iinc (pc := 80) dX3_readCondition_80 (x := x4) (v := x4 + 1) rfl (by rw [show Int32.ofInt 1 = 1 by decide]) (by decide) rfl (loc2 := [some (.inr (.inr (0, 38))), some (.inr (.inr (t1, 20))), some (.inl x2), some (.inl x3), some (.inl (x4 + 1))]) rfl ?_
          refine gz_goto (pc := 83) (tgt := 11) dX3_readCondition_83 (by decide) ?_
          exact ih x2 x3 (x4 + 1) v28.2.1 v28.2.2 h
def fR_X3_readCondition (φ : Nat) (t1 : Nat) (R : Int32 → gzIT → gzJT → Option ((Except String Unit) × gzIT × gzJT)) (a2 : Int32) (I : gzIT) (J : gzJT) : Option ((Except String Unit) × gzIT × gzJT) := Option.bind (R a2 I J) (fun v2 => gzEx v2.1 (fun E => some (.error E, v2.2.1, v2.2.2)) (fun w4 => f_X3_readCondition_11 φ t1 R φ a2 0 0 v2.2.1 v2.2.2))
set_option maxRecDepth 20000 in
theorem cR_X3_readCondition {g : gzG} {d φ : Nat} {t1 : Nat} (ht1 : t1 < 3) {R : Int32 → gzIT → gzJT → Option ((Except String Unit) × gzIT × gzJT)} (hR : ∀ e, d ≤ e → ∀ (q0 : Int32) (I : gzIT) (J : gzJT) (r : (Except String Unit) × gzIT × gzJT), R q0 I J = some r → gzC g 0 e mX3_readAtom [.inr (.inr (0, 38)), .inr (.inr (t1, 20)), .inl q0] (gzN, gzR0, I, J) (gzE (gzRV r.1) (gzN, gzR0, r.2.1, r.2.2))) {a2 : Int32} {I : gzIT} {J : gzJT} {r : (Except String Unit) × gzIT × gzJT} (h : fR_X3_readCondition φ t1 R a2 I J = some r) : gzC g 0 (d + 2) mX3_readCondition [.inr (.inr (0, 38)), .inr (.inr (t1, 20)), .inl a2] (gzN, gzR0, I, J) (gzE (gzRV r.1) (gzN, gzR0, r.2.1, r.2.2)) := by
  unfold fR_X3_readCondition at h
  refine gzC_of (by decide +kernel) (Nat.le_of_ble_eq_true rfl) (loc := [some (.inr (.inr (0, 38))), some (.inr (.inr (t1, 20))), some (.inl a2), none, none]) rfl ?_
  have z_0_38 : gzOk 0 38 gzN := gzOk_of (by decide)
  refine gz_aload_n (pc := 0) dX3_readCondition_0 rfl ?_
  refine gz_aload_n (pc := 1) dX3_readCondition_1 rfl ?_
  refine gz_iload_n (pc := 2) dX3_readCondition_2 rfl ?_
  refine gz_V (zy := mX3_readAtom) (zc := 0) (pc := 3) [.inr (.inr (t1, 20)), .inl a2] rfl dX3_readCondition_3 lkX3_60 MvX3_readAtom rfl z_0_38 rfl rfl rfl (Or.inl rfl) (fun h => h) (by exact Nat.le_of_ble_eq_true rfl) ?_
  obtain ⟨v2, e1, h⟩ := gz_bd h
  cases x3 : v2.1 with
  | error E => replace h := gz_exe x3 h; cases h; exact gz_useTV x3 (hR _ (by omega) _ _ _ _ e1) ⟨by simp [gzRI, gzRJ, gzRV], rfl⟩
  | ok w4 =>
    replace h := gz_exo x3 h
    refine gz_useOV x3 (hR _ (by omega) _ _ _ _ e1) ?_
    refine gz_iconst (pc := 6) dX3_readCondition_6 (v := 0) (by decide) ?_
    refine gz_istore_n (pc := 7) dX3_readCondition_7 (by decide) rfl (loc2 := [some (.inr (.inr (0, 38))), some (.inr (.inr (t1, 20))), some (.inl a2), some (.inl 0), none]) rfl ?_
    refine gz_iconst (pc := 8) dX3_readCondition_8 (v := 0) (by decide) ?_
    refine gz_istore (pc := 9) dX3_readCondition_9 (by decide) rfl (loc2 := [some (.inr (.inr (0, 38))), some (.inr (.inr (t1, 20))), some (.inl a2), some (.inl 0), some (.inl 0)]) rfl ?_
    exact p_X3_readCondition_11 ht1 hR φ a2 0 0 v2.2.1 v2.2.2 h
/-! X7_wrong: wrong -/
def f_X7_wrong (I : gzIT) (J : gzJT) : Option ((Except String Unit) × gzIT × gzJT) := some (.error "java/lang/IllegalArgumentException", gz_ui I 0 33 7 (I 0 33 6), J)
set_option maxRecDepth 20000 in
theorem c_X7_wrong {g : gzG} {d : Nat} {I : gzIT} {J : gzJT} {r : (Except String Unit) × gzIT × gzJT} (h : f_X7_wrong I J = some r) : gzC g 0 d mX7_wrong [.inr (.inr (0, 33))] (gzN, gzR0, I, J) (gzE (gzRV r.1) (gzN, gzR0, r.2.1, r.2.2)) := by
  unfold f_X7_wrong at h
  refine gzC_of (by decide +kernel) (Nat.le_of_ble_eq_true rfl) (loc := [some (.inr (.inr (0, 33)))]) rfl ?_
  have z_0_33 : gzOk 0 33 gzN := gzOk_of (by decide)
  refine gz_aload_n (pc := 0) dX7_wrong_0 rfl ?_
  refine gz_aload_n (pc := 1) dX7_wrong_1 rfl ?_
  refine gi_X7_31 (pc := 2) dX7_wrong_2 (v := I 0 33 6) z_0_33 rfl rfl ?_
  refine gp_X7_34 (pc := 5) dX7_wrong_5 z_0_33 rfl ?_
  exact gz_thr (pc := 8) th_X7_93_97 (i := 1) rfl dX7_wrong_8 dX7_wrong_11 dX7_wrong_12 dX7_wrong_14 dX7_wrong_17 (Nat.le_of_ble_eq_true rfl) (by cases h; exact ⟨rfl, rfl⟩)
/-! X7_among: among -/
def f_X7_among (a1 : Int32) (a2 : Int32) (I : gzIT) (J : gzJT) : Option ((Except String Int32) × gzIT × gzJT) := if (I 0 33 5) - a1 < 0 then (Option.bind (f_X7_wrong I J) (fun v2 => gzEx v2.1 (fun E => some (.error E, v2.2.1, v2.2.2)) (fun w4 => Option.bind (f_X7_step v2.2.1 v2.2.2) (fun v6 => some (.ok ((I 0 33 5) - a1), v6.2.1, v6.2.2))))) else (if (I 0 33 5) - a1 < a2 then (Option.bind (f_X7_step I J) (fun v8 => some (.ok ((I 0 33 5) - a1), v8.2.1, v8.2.2))) else (Option.bind (f_X7_wrong I J) (fun v10 => gzEx v10.1 (fun E => some (.error E, v10.2.1, v10.2.2)) (fun w12 => Option.bind (f_X7_step v10.2.1 v10.2.2) (fun v14 => some (.ok ((I 0 33 5) - a1), v14.2.1, v14.2.2))))))
set_option maxRecDepth 20000 in
theorem c_X7_among {g : gzG} {d : Nat} {a1 : Int32} {a2 : Int32} {I : gzIT} {J : gzJT} {r : (Except String Int32) × gzIT × gzJT} (h : f_X7_among a1 a2 I J = some r) : gzC g 0 (d + 1) mX7_among [.inr (.inr (0, 33)), .inl a1, .inl a2] (gzN, gzR0, I, J) (gzE (gzRI r.1) (gzN, gzR0, r.2.1, r.2.2)) := by
  unfold f_X7_among at h
  refine gzC_of (by decide +kernel) (Nat.le_of_ble_eq_true rfl) (loc := [some (.inr (.inr (0, 33))), some (.inl a1), some (.inl a2), none]) rfl ?_
  have z_0_33 : gzOk 0 33 gzN := gzOk_of (by decide)
  refine gz_aload_n (pc := 0) dX7_among_0 rfl ?_
  refine gi_X7_28 (pc := 1) dX7_among_1 (v := I 0 33 5) z_0_33 rfl rfl ?_
  refine gz_iload_n (pc := 4) dX7_among_4 rfl ?_
  refine gz_isub (pc := 5) dX7_among_5  ?_
  refine gz_istore_n (pc := 6) dX7_among_6 (by decide) rfl (loc2 := [some (.inr (.inr (0, 33))), some (.inl a1), some (.inl a2), some (.inl ((I 0 33 5) - a1))]) rfl ?_
  refine gz_iload_n (pc := 7) dX7_among_7 rfl ?_
  refine gz_if_lt (pc := 8) (tgt := 16) dX7_among_8 (by decide) (fun c => ?_) (fun c => ?_)
  · replace h := gz_ifp c h
    refine gz_aload_n (pc := 16) dX7_among_16 rfl ?_
    refine gz_V (zy := mX7_wrong) (zc := 0) (pc := 17) [] rfl dX7_among_17 lkX7_86 MvX7_wrong rfl z_0_33 rfl rfl rfl (Or.inl rfl) (fun h => h) (by exact Nat.le_of_ble_eq_true rfl) ?_
    obtain ⟨v2, e1, h⟩ := gz_bd h
    cases x3 : v2.1 with
    | error E => replace h := gz_exe x3 h; cases h; exact gz_useTV x3 (c_X7_wrong e1) ⟨by simp [gzRI, gzRJ, gzRV], rfl⟩
    | ok w4 =>
      replace h := gz_exo x3 h
      refine gz_useOV x3 (c_X7_wrong e1) ?_
      refine gz_aload_n (pc := 20) dX7_among_20 rfl ?_
      refine gz_V (zy := mX7_step) (zc := 0) (pc := 21) [] rfl dX7_among_21 lkX7_55 MvX7_step rfl z_0_33 rfl rfl rfl (Or.inl rfl) (fun h => h) (by exact Nat.le_of_ble_eq_true rfl) ?_
      obtain ⟨v6, e5, h⟩ := gz_bd h
      refine gz_useV (c_X7_step e5) ?_
      refine gz_iload_n (pc := 24) dX7_among_24 rfl ?_
      cases h; exact gz_iret (pc := 25) dX7_among_25 rfl ⟨rfl, rfl⟩
  · replace h := gz_ifn c h
    refine gz_iload_n (pc := 11) dX7_among_11 rfl ?_
    refine gz_iload_n (pc := 12) dX7_among_12 rfl ?_
    refine gz_ic_lt (pc := 13) (tgt := 20) dX7_among_13 (by decide) (fun c => ?_) (fun c => ?_)
    · replace h := gz_ifp c h
      refine gz_aload_n (pc := 20) dX7_among_20 rfl ?_
      refine gz_V (zy := mX7_step) (zc := 0) (pc := 21) [] rfl dX7_among_21 lkX7_55 MvX7_step rfl z_0_33 rfl rfl rfl (Or.inl rfl) (fun h => h) (by exact Nat.le_of_ble_eq_true rfl) ?_
      obtain ⟨v8, e7, h⟩ := gz_bd h
      refine gz_useV (c_X7_step e7) ?_
      refine gz_iload_n (pc := 24) dX7_among_24 rfl ?_
      cases h; exact gz_iret (pc := 25) dX7_among_25 rfl ⟨rfl, rfl⟩
    · replace h := gz_ifn c h
      refine gz_aload_n (pc := 16) dX7_among_16 rfl ?_
      refine gz_V (zy := mX7_wrong) (zc := 0) (pc := 17) [] rfl dX7_among_17 lkX7_86 MvX7_wrong rfl z_0_33 rfl rfl rfl (Or.inl rfl) (fun h => h) (by exact Nat.le_of_ble_eq_true rfl) ?_
      obtain ⟨v10, e9, h⟩ := gz_bd h
      cases x11 : v10.1 with
      | error E => replace h := gz_exe x11 h; cases h; exact gz_useTV x11 (c_X7_wrong e9) ⟨by simp [gzRI, gzRJ, gzRV], rfl⟩
      | ok w12 =>
        replace h := gz_exo x11 h
        refine gz_useOV x11 (c_X7_wrong e9) ?_
        refine gz_aload_n (pc := 20) dX7_among_20 rfl ?_
        refine gz_V (zy := mX7_step) (zc := 0) (pc := 21) [] rfl dX7_among_21 lkX7_55 MvX7_step rfl z_0_33 rfl rfl rfl (Or.inl rfl) (fun h => h) (by exact Nat.le_of_ble_eq_true rfl) ?_
        obtain ⟨v14, e13, h⟩ := gz_bd h
        refine gz_useV (c_X7_step e13) ?_
        refine gz_iload_n (pc := 24) dX7_among_24 rfl ?_
        cases h; exact gz_iret (pc := 25) dX7_among_25 rfl ⟨rfl, rfl⟩
/-! X7_is: is -/
def f_X7_is (I : gzIT) (a1 : Int32) : Option Int32 := some (if ¬ I 0 33 5 = a1 then (0 : Int32) else 1)
set_option maxRecDepth 20000 in
theorem c_X7_is {g : gzG} {d : Nat} {a1 : Int32} {I : gzIT} {J : gzJT} {r : Int32} (h : f_X7_is I a1 = some r) : gzC g 0 d mX7_is [.inr (.inr (0, 33)), .inl a1] (gzN, gzR0, I, J) (gzE (.ok (some (.inl r))) (gzN, gzR0, I, J)) := by
  unfold f_X7_is at h
  refine gzC_of (by decide +kernel) (Nat.le_of_ble_eq_true rfl) (loc := [some (.inr (.inr (0, 33))), some (.inl a1)]) rfl ?_
  have z_0_33 : gzOk 0 33 gzN := gzOk_of (by decide)
  refine gz_aload_n (pc := 0) dX7_is_0 rfl ?_
  refine gi_X7_28 (pc := 1) dX7_is_1 (v := I 0 33 5) z_0_33 rfl rfl ?_
  refine gz_iload_n (pc := 4) dX7_is_4 rfl ?_
  have kj1 : gzX g 0 d mX7_is 13 [some (.inr (.inr (0, 33))), some (.inl a1)] ([.inl (if ¬ I 0 33 5 = a1 then (0 : Int32) else 1)]) (gzN, gzR0, I, J) 0 (gzE (.ok (some (.inl r))) (gzN, gzR0, I, J)) := by
    cases h; exact gz_zret (pc := 13) dX7_is_13 rfl (by first | exact gz_ite01 | exact gz_ite10) ⟨rfl, rfl⟩
  refine gz_ic_ne (pc := 5) (tgt := 12) dX7_is_5 (by decide) (fun c => ?_) (fun c => ?_)
  · rw [if_pos c] at kj1
    refine gz_iconst (pc := 12) dX7_is_12 (v := 0) (by decide) ?_
    exact kj1
  · rw [if_neg (show ¬ (¬ I 0 33 5 = a1) from fun q => q c)] at kj1
    refine gz_iconst (pc := 8) dX7_is_8 (v := 1) (by decide) ?_
    refine gz_goto (pc := 9) (tgt := 13) dX7_is_9 (by decide) ?_
    exact kj1
/-! X3_readSum: readSum -/
def gP_X3_readSum_113 (g : gzG) (t1 : Nat) (d : Nat) (r : (Except String Unit) × gzIT × gzJT) (x2 : Int32) (I : gzIT) (J : gzJT) : Prop := gzX g 0 (d + 2) mX3_readSum 113 [some (.inr (.inr (0, 38))), some (.inr (.inr (t1, 20))), some (.inl x2), none] [] (gzN, gzR0, I, J) 0 (gzE (gzRV r.1) (gzN, gzR0, r.2.1, r.2.2))
def gP_X3_readSum_2 (g : gzG) (t1 : Nat) (d : Nat) (r : (Except String Unit) × gzIT × gzJT) (x2 : Int32) (I : gzIT) (J : gzJT) : Prop := gzX g 0 (d + 2) mX3_readSum 2 [some (.inr (.inr (0, 38))), some (.inr (.inr (t1, 20))), some (.inl x2), none] [] (gzN, gzR0, I, J) 0 (gzE (gzRV r.1) (gzN, gzR0, r.2.1, r.2.2))
def f_X3_readSum_113 (φ : Nat) (t1 : Nat) (K2 : Int32 → gzIT → gzJT → Option ((Except String Unit) × gzIT × gzJT)) (x2 : Int32) (I : gzIT) (J : gzJT) : Option ((Except String Unit) × gzIT × gzJT) := if 1 = (0 : Int32) then (Option.bind (f_X7_among 0 1000 I J) (fun v43 => gzEx v43.1 (fun E => some (.error E, v43.2.1, v43.2.2)) (fun w45 => Option.bind (f_X2_put t1 w45 v43.2.1 v43.2.2) (fun v47 => if x2 ≤ 0 then (Option.bind (f_X7_take 2043 v47.2.1 v47.2.2) (fun v49 => if ¬ v49.1 = 0 then (K2 (x2 + 1) v49.2.1 v49.2.2) else (some (.ok (), v49.2.1, v49.2.2)))) else (Option.bind (f_X2_put t1 2043 v47.2.1 v47.2.2) (fun v51 => Option.bind (f_X7_take 2043 v51.2.1 v51.2.2) (fun v53 => if ¬ v53.1 = 0 then (K2 (x2 + 1) v53.2.1 v53.2.2) else (some (.ok (), v53.2.1, v53.2.2))))))))) else (Option.bind (f_X7_among 1012 8 I J) (fun v55 => gzEx v55.1 (fun E => some (.error E, v55.2.1, v55.2.2)) (fun w57 => Option.bind (f_X2_put t1 (1012 + w57) v55.2.1 v55.2.2) (fun v59 => if x2 ≤ 0 then (Option.bind (f_X7_take 2043 v59.2.1 v59.2.2) (fun v61 => if ¬ v61.1 = 0 then (K2 (x2 + 1) v61.2.1 v61.2.2) else (some (.ok (), v61.2.1, v61.2.2)))) else (Option.bind (f_X2_put t1 2043 v59.2.1 v59.2.2) (fun v63 => Option.bind (f_X7_take 2043 v63.2.1 v63.2.2) (fun v65 => if ¬ v65.1 = 0 then (K2 (x2 + 1) v65.2.1 v65.2.2) else (some (.ok (), v65.2.1, v65.2.2)))))))))
set_option maxRecDepth 20000 in
theorem p_X3_readSum_113 {g : gzG} {d φ : Nat} {t1 : Nat} (ht1 : t1 < 3) {r : (Except String Unit) × gzIT × gzJT} {K2 : Int32 → gzIT → gzJT → Option ((Except String Unit) × gzIT × gzJT)} (hK2 : ∀ (x2 : Int32) (I : gzIT) (J : gzJT), K2 x2 I J = some r → gP_X3_readSum_2 g t1 d r x2 I J) (x2 : Int32) (I : gzIT) (J : gzJT) (h : f_X3_readSum_113 φ t1 K2 x2 I J = some r) : gP_X3_readSum_113 g t1 d r x2 I J := by
  unfold f_X3_readSum_113 at h
  unfold gP_X3_readSum_113
  have z_0_38 : gzOk 0 38 gzN := gzOk_of (by decide)
  have z_0_33 : gzOk 0 33 gzN := gzOk_of (by decide)
  have z_t1_20 : gzOk t1 20 gzN := gzOk_of ht1
  refine gz_iconst (pc := 113) dX3_readSum_113 (v := 1) (by decide) ?_
  refine gz_goto (pc := 114) (tgt := 118) dX3_readSum_114 (by decide) ?_
  refine gz_istore_n (pc := 118) dX3_readSum_118 (by decide) rfl (loc2 := [some (.inr (.inr (0, 38))), some (.inr (.inr (t1, 20))), some (.inl x2), some (.inl 1)]) rfl ?_
  refine gz_aload_n (pc := 119) dX3_readSum_119 rfl ?_
  refine gz_iload_n (pc := 120) dX3_readSum_120 rfl ?_
  refine gz_if_eq (pc := 121) (tgt := 143) dX3_readSum_121 (by decide) (fun c => ?_) (fun c => ?_)
  · replace h := gz_ifp c h
    refine gz_aload_n (pc := 143) dX3_readSum_143 rfl ?_
    refine gr_X3_9 (pc := 144) dX3_readSum_144 z_0_38 rfl ?_
    refine gz_iconst (pc := 147) dX3_readSum_147 (v := 0) (by decide) ?_
    refine gz_sipush (pc := 148) dX3_readSum_148 (v := 1000) (by decide) ?_
    refine gz_V (zy := mX7_among) (zc := 0) (pc := 151) [.inl 0, .inl 1000] rfl dX3_readSum_151 lkX3_38 MvX7_among rfl z_0_33 rfl rfl rfl (Or.inl rfl) (fun h => h) (by exact Nat.le_of_ble_eq_true rfl) ?_
    obtain ⟨v43, e42, h⟩ := gz_bd h
    cases x44 : v43.1 with
    | error E => replace h := gz_exe x44 h; cases h; exact gz_useTI x44 (c_X7_among e42) ⟨by simp [gzRI, gzRJ, gzRV], rfl⟩
    | ok w45 =>
      replace h := gz_exo x44 h
      refine gz_useOI x44 (c_X7_among e42) ?_
      refine gz_V (zy := mX2_put) (zc := 0) (pc := 154) [.inl w45] rfl dX3_readSum_154 lkX3_63 MvX2_put rfl z_t1_20 rfl rfl rfl (Or.inl rfl) (fun h => h) (by exact Nat.le_of_ble_eq_true rfl) ?_
      obtain ⟨v47, e46, h⟩ := gz_bd h
      refine gz_useV (c_X2_put ht1 e46) ?_
      refine gz_iload_n (pc := 157) dX3_readSum_157 rfl ?_
      refine gz_if_le (pc := 158) (tgt := 168) dX3_readSum_158 (by decide) (fun c => ?_) (fun c => ?_)
      · replace h := gz_ifp c h
        refine gz_aload_n (pc := 168) dX3_readSum_168 rfl ?_
        refine gr_X3_9 (pc := 169) dX3_readSum_169 z_0_38 rfl ?_
        refine gz_sipush (pc := 172) dX3_readSum_172 (v := 2043) (by decide) ?_
        refine gz_V (zy := mX7_take) (zc := 0) (pc := 175) [.inl 2043] rfl dX3_readSum_175 lkX3_49 MvX7_take rfl z_0_33 rfl rfl rfl (Or.inl rfl) (fun h => h) (by exact Nat.le_of_ble_eq_true rfl) ?_
        obtain ⟨v49, e48, h⟩ := gz_bd h
        refine gz_useI (c_X7_take e48) ?_
        refine gz_if_ne (pc := 178) (tgt := 182) dX3_readSum_178 (by decide) (fun c => ?_) (fun c => ?_)
        · replace h := gz_ifp c h
          refine gz_iinc (pc := 182) dX3_readSum_182 (x := x2) (v := x2 + 1) rfl (by rw [show Int32.ofInt 1 = 1 by decide]) (by decide) rfl (loc2 := [some (.inr (.inr (0, 38))), some (.inr (.inr (t1, 20))), some (.inl (x2 + 1)), some (.inl 1)]) rfl ?_
          refine gz_goto (pc := 185) (tgt := 2) dX3_readSum_185 (by decide) ?_
          exact gz_weak (loc2 := [some (.inr (.inr (0, 38))), some (.inr (.inr (t1, 20))), some (.inl (x2 + 1)), none]) (hK2 (x2 + 1) v49.2.1 v49.2.2 h) (by repeat (first | exact trivial | refine ⟨rfl, ?_⟩))
        · replace h := gz_ifn (fun q => q c) h
          cases h; exact gz_vret (pc := 181) dX3_readSum_181 rfl ⟨rfl, rfl⟩
      · replace h := gz_ifn c h
        refine gz_aload_n (pc := 161) dX3_readSum_161 rfl ?_
        refine gz_sipush (pc := 162) dX3_readSum_162 (v := 2043) (by decide) ?_
        refine gz_V (zy := mX2_put) (zc := 0) (pc := 165) [.inl 2043] rfl dX3_readSum_165 lkX3_63 MvX2_put rfl z_t1_20 rfl rfl rfl (Or.inl rfl) (fun h => h) (by exact Nat.le_of_ble_eq_true rfl) ?_
        obtain ⟨v51, e50, h⟩ := gz_bd h
        refine gz_useV (c_X2_put ht1 e50) ?_
        refine gz_aload_n (pc := 168) dX3_readSum_168 rfl ?_
        refine gr_X3_9 (pc := 169) dX3_readSum_169 z_0_38 rfl ?_
        refine gz_sipush (pc := 172) dX3_readSum_172 (v := 2043) (by decide) ?_
        refine gz_V (zy := mX7_take) (zc := 0) (pc := 175) [.inl 2043] rfl dX3_readSum_175 lkX3_49 MvX7_take rfl z_0_33 rfl rfl rfl (Or.inl rfl) (fun h => h) (by exact Nat.le_of_ble_eq_true rfl) ?_
        obtain ⟨v53, e52, h⟩ := gz_bd h
        refine gz_useI (c_X7_take e52) ?_
        refine gz_if_ne (pc := 178) (tgt := 182) dX3_readSum_178 (by decide) (fun c => ?_) (fun c => ?_)
        · replace h := gz_ifp c h
          refine gz_iinc (pc := 182) dX3_readSum_182 (x := x2) (v := x2 + 1) rfl (by rw [show Int32.ofInt 1 = 1 by decide]) (by decide) rfl (loc2 := [some (.inr (.inr (0, 38))), some (.inr (.inr (t1, 20))), some (.inl (x2 + 1)), some (.inl 1)]) rfl ?_
          refine gz_goto (pc := 185) (tgt := 2) dX3_readSum_185 (by decide) ?_
          exact gz_weak (loc2 := [some (.inr (.inr (0, 38))), some (.inr (.inr (t1, 20))), some (.inl (x2 + 1)), none]) (hK2 (x2 + 1) v53.2.1 v53.2.2 h) (by repeat (first | exact trivial | refine ⟨rfl, ?_⟩))
        · replace h := gz_ifn (fun q => q c) h
          cases h; exact gz_vret (pc := 181) dX3_readSum_181 rfl ⟨rfl, rfl⟩
  · replace h := gz_ifn c h
    refine gz_sipush (pc := 124) dX3_readSum_124 (v := 1012) (by decide) ?_
    refine gz_aload_n (pc := 127) dX3_readSum_127 rfl ?_
    refine gr_X3_9 (pc := 128) dX3_readSum_128 z_0_38 rfl ?_
    refine gz_sipush (pc := 131) dX3_readSum_131 (v := 1012) (by decide) ?_
    refine gz_bipush (pc := 134) dX3_readSum_134 (v := 8) (by decide) ?_
    refine gz_V (zy := mX7_among) (zc := 0) (pc := 136) [.inl 1012, .inl 8] rfl dX3_readSum_136 lkX3_38 MvX7_among rfl z_0_33 rfl rfl rfl (Or.inl rfl) (fun h => h) (by exact Nat.le_of_ble_eq_true rfl) ?_
    obtain ⟨v55, e54, h⟩ := gz_bd h
    cases x56 : v55.1 with
    | error E => replace h := gz_exe x56 h; cases h; exact gz_useTI x56 (c_X7_among e54) ⟨by simp [gzRI, gzRJ, gzRV], rfl⟩
    | ok w57 =>
      replace h := gz_exo x56 h
      refine gz_useOI x56 (c_X7_among e54) ?_
      refine gz_iadd (pc := 139) dX3_readSum_139  ?_
      refine gz_goto (pc := 140) (tgt := 154) dX3_readSum_140 (by decide) ?_
      refine gz_V (zy := mX2_put) (zc := 0) (pc := 154) [.inl (1012 + w57)] rfl dX3_readSum_154 lkX3_63 MvX2_put rfl z_t1_20 rfl rfl rfl (Or.inl rfl) (fun h => h) (by exact Nat.le_of_ble_eq_true rfl) ?_
      obtain ⟨v59, e58, h⟩ := gz_bd h
      refine gz_useV (c_X2_put ht1 e58) ?_
      refine gz_iload_n (pc := 157) dX3_readSum_157 rfl ?_
      refine gz_if_le (pc := 158) (tgt := 168) dX3_readSum_158 (by decide) (fun c => ?_) (fun c => ?_)
      · replace h := gz_ifp c h
        refine gz_aload_n (pc := 168) dX3_readSum_168 rfl ?_
        refine gr_X3_9 (pc := 169) dX3_readSum_169 z_0_38 rfl ?_
        refine gz_sipush (pc := 172) dX3_readSum_172 (v := 2043) (by decide) ?_
        refine gz_V (zy := mX7_take) (zc := 0) (pc := 175) [.inl 2043] rfl dX3_readSum_175 lkX3_49 MvX7_take rfl z_0_33 rfl rfl rfl (Or.inl rfl) (fun h => h) (by exact Nat.le_of_ble_eq_true rfl) ?_
        obtain ⟨v61, e60, h⟩ := gz_bd h
        refine gz_useI (c_X7_take e60) ?_
        refine gz_if_ne (pc := 178) (tgt := 182) dX3_readSum_178 (by decide) (fun c => ?_) (fun c => ?_)
        · replace h := gz_ifp c h
          refine gz_iinc (pc := 182) dX3_readSum_182 (x := x2) (v := x2 + 1) rfl (by rw [show Int32.ofInt 1 = 1 by decide]) (by decide) rfl (loc2 := [some (.inr (.inr (0, 38))), some (.inr (.inr (t1, 20))), some (.inl (x2 + 1)), some (.inl 1)]) rfl ?_
          refine gz_goto (pc := 185) (tgt := 2) dX3_readSum_185 (by decide) ?_
          exact gz_weak (loc2 := [some (.inr (.inr (0, 38))), some (.inr (.inr (t1, 20))), some (.inl (x2 + 1)), none]) (hK2 (x2 + 1) v61.2.1 v61.2.2 h) (by repeat (first | exact trivial | refine ⟨rfl, ?_⟩))
        · replace h := gz_ifn (fun q => q c) h
          cases h; exact gz_vret (pc := 181) dX3_readSum_181 rfl ⟨rfl, rfl⟩
      · replace h := gz_ifn c h
        refine gz_aload_n (pc := 161) dX3_readSum_161 rfl ?_
        refine gz_sipush (pc := 162) dX3_readSum_162 (v := 2043) (by decide) ?_
        refine gz_V (zy := mX2_put) (zc := 0) (pc := 165) [.inl 2043] rfl dX3_readSum_165 lkX3_63 MvX2_put rfl z_t1_20 rfl rfl rfl (Or.inl rfl) (fun h => h) (by exact Nat.le_of_ble_eq_true rfl) ?_
        obtain ⟨v63, e62, h⟩ := gz_bd h
        refine gz_useV (c_X2_put ht1 e62) ?_
        refine gz_aload_n (pc := 168) dX3_readSum_168 rfl ?_
        refine gr_X3_9 (pc := 169) dX3_readSum_169 z_0_38 rfl ?_
        refine gz_sipush (pc := 172) dX3_readSum_172 (v := 2043) (by decide) ?_
        refine gz_V (zy := mX7_take) (zc := 0) (pc := 175) [.inl 2043] rfl dX3_readSum_175 lkX3_49 MvX7_take rfl z_0_33 rfl rfl rfl (Or.inl rfl) (fun h => h) (by exact Nat.le_of_ble_eq_true rfl) ?_
        obtain ⟨v65, e64, h⟩ := gz_bd h
        refine gz_useI (c_X7_take e64) ?_
        refine gz_if_ne (pc := 178) (tgt := 182) dX3_readSum_178 (by decide) (fun c => ?_) (fun c => ?_)
        · replace h := gz_ifp c h
          refine gz_iinc (pc := 182) dX3_readSum_182 (x := x2) (v := x2 + 1) rfl (by rw [show Int32.ofInt 1 = 1 by decide]) (by decide) rfl (loc2 := [some (.inr (.inr (0, 38))), some (.inr (.inr (t1, 20))), some (.inl (x2 + 1)), some (.inl 1)]) rfl ?_
          refine gz_goto (pc := 185) (tgt := 2) dX3_readSum_185 (by decide) ?_
          exact gz_weak (loc2 := [some (.inr (.inr (0, 38))), some (.inr (.inr (t1, 20))), some (.inl (x2 + 1)), none]) (hK2 (x2 + 1) v65.2.1 v65.2.2 h) (by repeat (first | exact trivial | refine ⟨rfl, ?_⟩))
        · replace h := gz_ifn (fun q => q c) h
          cases h; exact gz_vret (pc := 181) dX3_readSum_181 rfl ⟨rfl, rfl⟩
def f_X3_readSum_2 (φ : Nat) (t1 : Nat) : Nat → Int32 → gzIT → gzJT → Option ((Except String Unit) × gzIT × gzJT)
  | 0, _, _, _ => none
  | k + 1, x2, I, J => if 400 ≤ x2 then (some (.ok (), I, J)) else (Option.bind (f_X7_is I 1012) (fun v2 => if ¬ v2 = 0 then (f_X3_readSum_113 φ t1 (f_X3_readSum_2 φ t1 k) x2 I J) else (Option.bind (f_X7_is I 1013) (fun v4 => if ¬ v4 = 0 then (f_X3_readSum_113 φ t1 (f_X3_readSum_2 φ t1 k) x2 I J) else (Option.bind (f_X7_is I 1014) (fun v6 => if ¬ v6 = 0 then (f_X3_readSum_113 φ t1 (f_X3_readSum_2 φ t1 k) x2 I J) else (Option.bind (f_X7_is I 1015) (fun v8 => if ¬ v8 = 0 then (f_X3_readSum_113 φ t1 (f_X3_readSum_2 φ t1 k) x2 I J) else (Option.bind (f_X7_is I 1016) (fun v10 => if ¬ v10 = 0 then (f_X3_readSum_113 φ t1 (f_X3_readSum_2 φ t1 k) x2 I J) else (Option.bind (f_X7_is I 1017) (fun v12 => if ¬ v12 = 0 then (f_X3_readSum_113 φ t1 (f_X3_readSum_2 φ t1 k) x2 I J) else (Option.bind (f_X7_is I 1018) (fun v14 => if ¬ v14 = 0 then (f_X3_readSum_113 φ t1 (f_X3_readSum_2 φ t1 k) x2 I J) else (Option.bind (f_X7_is I 1019) (fun v16 => if (if v16 = 0 then (0 : Int32) else 1) = 0 then (Option.bind (f_X7_among 0 1000 I J) (fun v19 => gzEx v19.1 (fun E => some (.error E, v19.2.1, v19.2.2)) (fun w21 => Option.bind (f_X2_put t1 w21 v19.2.1 v19.2.2) (fun v23 => if x2 ≤ 0 then (Option.bind (f_X7_take 2043 v23.2.1 v23.2.2) (fun v25 => if ¬ v25.1 = 0 then (f_X3_readSum_2 φ t1 k (x2 + 1) v25.2.1 v25.2.2) else (some (.ok (), v25.2.1, v25.2.2)))) else (Option.bind (f_X2_put t1 2043 v23.2.1 v23.2.2) (fun v27 => Option.bind (f_X7_take 2043 v27.2.1 v27.2.2) (fun v29 => if ¬ v29.1 = 0 then (f_X3_readSum_2 φ t1 k (x2 + 1) v29.2.1 v29.2.2) else (some (.ok (), v29.2.1, v29.2.2))))))))) else (Option.bind (f_X7_among 1012 8 I J) (fun v31 => gzEx v31.1 (fun E => some (.error E, v31.2.1, v31.2.2)) (fun w33 => Option.bind (f_X2_put t1 (1012 + w33) v31.2.1 v31.2.2) (fun v35 => if x2 ≤ 0 then (Option.bind (f_X7_take 2043 v35.2.1 v35.2.2) (fun v37 => if ¬ v37.1 = 0 then (f_X3_readSum_2 φ t1 k (x2 + 1) v37.2.1 v37.2.2) else (some (.ok (), v37.2.1, v37.2.2)))) else (Option.bind (f_X2_put t1 2043 v35.2.1 v35.2.2) (fun v39 => Option.bind (f_X7_take 2043 v39.2.1 v39.2.2) (fun v41 => if ¬ v41.1 = 0 then (f_X3_readSum_2 φ t1 k (x2 + 1) v41.2.1 v41.2.2) else (some (.ok (), v41.2.1, v41.2.2)))))))))))))))))))))))))
set_option maxRecDepth 20000 in
theorem p_X3_readSum_2 {g : gzG} {d φ : Nat} {t1 : Nat} (ht1 : t1 < 3) {r : (Except String Unit) × gzIT × gzJT} : ∀ (k : Nat) (x2 : Int32) (I : gzIT) (J : gzJT), f_X3_readSum_2 φ t1 k x2 I J = some r → gP_X3_readSum_2 g t1 d r x2 I J := by
  intro k; induction k with
  | zero => intro x2 I J h; cases h
  | succ k ih =>
    intro x2 I J h
    unfold f_X3_readSum_2 at h
    unfold gP_X3_readSum_2
    have z_0_38 : gzOk 0 38 gzN := gzOk_of (by decide)
    have z_0_33 : gzOk 0 33 gzN := gzOk_of (by decide)
    have z_t1_20 : gzOk t1 20 gzN := gzOk_of ht1
    refine gz_iload_n (pc := 2) dX3_readSum_2 rfl ?_
    refine gz_sipush (pc := 3) dX3_readSum_3 (v := 400) (by decide) ?_
    refine gz_ic_ge (pc := 6) (tgt := 188) dX3_readSum_6 (by decide) (fun c => ?_) (fun c => ?_)
    · replace h := gz_ifp c h
      cases h; exact gz_vret (pc := 188) dX3_readSum_188 rfl ⟨rfl, rfl⟩
    · replace h := gz_ifn c h
      refine gz_aload_n (pc := 9) dX3_readSum_9 rfl ?_
      refine gr_X3_9 (pc := 10) dX3_readSum_10 z_0_38 rfl ?_
      refine gz_sipush (pc := 13) dX3_readSum_13 (v := 1012) (by decide) ?_
      refine gz_V (zy := mX7_is) (zc := 0) (pc := 16) [.inl 1012] rfl dX3_readSum_16 lkX3_21 MvX7_is rfl z_0_33 rfl rfl rfl (Or.inl rfl) (fun h => h) (by exact Nat.le_of_ble_eq_true rfl) ?_
      obtain ⟨v2, e1, h⟩ := gz_bd h
      refine gz_useI (c_X7_is e1) ?_
      refine gz_if_ne (pc := 19) (tgt := 113) dX3_readSum_19 (by decide) (fun c => ?_) (fun c => ?_)
      · replace h := gz_ifp c h
        exact p_X3_readSum_113 ht1 ih x2 I J h
      · replace h := gz_ifn (fun q => q c) h
        refine gz_aload_n (pc := 22) dX3_readSum_22 rfl ?_
        refine gr_X3_9 (pc := 23) dX3_readSum_23 z_0_38 rfl ?_
        refine gz_sipush (pc := 26) dX3_readSum_26 (v := 1013) (by decide) ?_
        refine gz_V (zy := mX7_is) (zc := 0) (pc := 29) [.inl 1013] rfl dX3_readSum_29 lkX3_21 MvX7_is rfl z_0_33 rfl rfl rfl (Or.inl rfl) (fun h => h) (by exact Nat.le_of_ble_eq_true rfl) ?_
        obtain ⟨v4, e3, h⟩ := gz_bd h
        refine gz_useI (c_X7_is e3) ?_
        refine gz_if_ne (pc := 32) (tgt := 113) dX3_readSum_32 (by decide) (fun c => ?_) (fun c => ?_)
        · replace h := gz_ifp c h
          exact p_X3_readSum_113 ht1 ih x2 I J h
        · replace h := gz_ifn (fun q => q c) h
          refine gz_aload_n (pc := 35) dX3_readSum_35 rfl ?_
          refine gr_X3_9 (pc := 36) dX3_readSum_36 z_0_38 rfl ?_
          refine gz_sipush (pc := 39) dX3_readSum_39 (v := 1014) (by decide) ?_
          refine gz_V (zy := mX7_is) (zc := 0) (pc := 42) [.inl 1014] rfl dX3_readSum_42 lkX3_21 MvX7_is rfl z_0_33 rfl rfl rfl (Or.inl rfl) (fun h => h) (by exact Nat.le_of_ble_eq_true rfl) ?_
          obtain ⟨v6, e5, h⟩ := gz_bd h
          refine gz_useI (c_X7_is e5) ?_
          refine gz_if_ne (pc := 45) (tgt := 113) dX3_readSum_45 (by decide) (fun c => ?_) (fun c => ?_)
          · replace h := gz_ifp c h
            exact p_X3_readSum_113 ht1 ih x2 I J h
          · replace h := gz_ifn (fun q => q c) h
            refine gz_aload_n (pc := 48) dX3_readSum_48 rfl ?_
            refine gr_X3_9 (pc := 49) dX3_readSum_49 z_0_38 rfl ?_
            refine gz_sipush (pc := 52) dX3_readSum_52 (v := 1015) (by decide) ?_
            refine gz_V (zy := mX7_is) (zc := 0) (pc := 55) [.inl 1015] rfl dX3_readSum_55 lkX3_21 MvX7_is rfl z_0_33 rfl rfl rfl (Or.inl rfl) (fun h => h) (by exact Nat.le_of_ble_eq_true rfl) ?_
            obtain ⟨v8, e7, h⟩ := gz_bd h
            refine gz_useI (c_X7_is e7) ?_
            refine gz_if_ne (pc := 58) (tgt := 113) dX3_readSum_58 (by decide) (fun c => ?_) (fun c => ?_)
            · replace h := gz_ifp c h
              exact p_X3_readSum_113 ht1 ih x2 I J h
            · replace h := gz_ifn (fun q => q c) h
              refine gz_aload_n (pc := 61) dX3_readSum_61 rfl ?_
              refine gr_X3_9 (pc := 62) dX3_readSum_62 z_0_38 rfl ?_
              refine gz_sipush (pc := 65) dX3_readSum_65 (v := 1016) (by decide) ?_
              refine gz_V (zy := mX7_is) (zc := 0) (pc := 68) [.inl 1016] rfl dX3_readSum_68 lkX3_21 MvX7_is rfl z_0_33 rfl rfl rfl (Or.inl rfl) (fun h => h) (by exact Nat.le_of_ble_eq_true rfl) ?_
              obtain ⟨v10, e9, h⟩ := gz_bd h
              refine gz_useI (c_X7_is e9) ?_
              refine gz_if_ne (pc := 71) (tgt := 113) dX3_readSum_71 (by decide) (fun c => ?_) (fun c => ?_)
              · replace h := gz_ifp c h
                exact p_X3_readSum_113 ht1 ih x2 I J h
              · replace h := gz_ifn (fun q => q c) h
                refine gz_aload_n (pc := 74) dX3_readSum_74 rfl ?_
                refine gr_X3_9 (pc := 75) dX3_readSum_75 z_0_38 rfl ?_
                refine gz_sipush (pc := 78) dX3_readSum_78 (v := 1017) (by decide) ?_
                refine gz_V (zy := mX7_is) (zc := 0) (pc := 81) [.inl 1017] rfl dX3_readSum_81 lkX3_21 MvX7_is rfl z_0_33 rfl rfl rfl (Or.inl rfl) (fun h => h) (by exact Nat.le_of_ble_eq_true rfl) ?_
                obtain ⟨v12, e11, h⟩ := gz_bd h
                refine gz_useI (c_X7_is e11) ?_
                refine gz_if_ne (pc := 84) (tgt := 113) dX3_readSum_84 (by decide) (fun c => ?_) (fun c => ?_)
                · replace h := gz_ifp c h
                  exact p_X3_readSum_113 ht1 ih x2 I J h
                · replace h := gz_ifn (fun q => q c) h
                  refine gz_aload_n (pc := 87) dX3_readSum_87 rfl ?_
                  refine gr_X3_9 (pc := 88) dX3_readSum_88 z_0_38 rfl ?_
                  refine gz_sipush (pc := 91) dX3_readSum_91 (v := 1018) (by decide) ?_
                  refine gz_V (zy := mX7_is) (zc := 0) (pc := 94) [.inl 1018] rfl dX3_readSum_94 lkX3_21 MvX7_is rfl z_0_33 rfl rfl rfl (Or.inl rfl) (fun h => h) (by exact Nat.le_of_ble_eq_true rfl) ?_
                  obtain ⟨v14, e13, h⟩ := gz_bd h
                  refine gz_useI (c_X7_is e13) ?_
                  refine gz_if_ne (pc := 97) (tgt := 113) dX3_readSum_97 (by decide) (fun c => ?_) (fun c => ?_)
                  · replace h := gz_ifp c h
                    exact p_X3_readSum_113 ht1 ih x2 I J h
                  · replace h := gz_ifn (fun q => q c) h
                    refine gz_aload_n (pc := 100) dX3_readSum_100 rfl ?_
                    refine gr_X3_9 (pc := 101) dX3_readSum_101 z_0_38 rfl ?_
                    refine gz_sipush (pc := 104) dX3_readSum_104 (v := 1019) (by decide) ?_
                    refine gz_V (zy := mX7_is) (zc := 0) (pc := 107) [.inl 1019] rfl dX3_readSum_107 lkX3_21 MvX7_is rfl z_0_33 rfl rfl rfl (Or.inl rfl) (fun h => h) (by exact Nat.le_of_ble_eq_true rfl) ?_
                    obtain ⟨v16, e15, h⟩ := gz_bd h
                    refine gz_useI (c_X7_is e15) ?_
                    have kj17 : gzX g 0 (d + 2) mX3_readSum 118 [some (.inr (.inr (0, 38))), some (.inr (.inr (t1, 20))), some (.inl x2), none] ([.inl (if v16 = 0 then (0 : Int32) else 1)]) (gzN, gzR0, I, J) 0 (gzE (gzRV r.1) (gzN, gzR0, r.2.1, r.2.2)) := by
                      refine gz_istore_n (pc := 118) dX3_readSum_118 (by decide) rfl (loc2 := [some (.inr (.inr (0, 38))), some (.inr (.inr (t1, 20))), some (.inl x2), some (.inl (if v16 = 0 then (0 : Int32) else 1))]) rfl ?_
                      refine gz_aload_n (pc := 119) dX3_readSum_119 rfl ?_
                      refine gz_iload_n (pc := 120) dX3_readSum_120 rfl ?_
                      refine gz_if_eq (pc := 121) (tgt := 143) dX3_readSum_121 (by decide) (fun c => ?_) (fun c => ?_)
                      · replace h := gz_ifp c h
                        refine gz_aload_n (pc := 143) dX3_readSum_143 rfl ?_
                        refine gr_X3_9 (pc := 144) dX3_readSum_144 z_0_38 rfl ?_
                        refine gz_iconst (pc := 147) dX3_readSum_147 (v := 0) (by decide) ?_
                        refine gz_sipush (pc := 148) dX3_readSum_148 (v := 1000) (by decide) ?_
                        refine gz_V (zy := mX7_among) (zc := 0) (pc := 151) [.inl 0, .inl 1000] rfl dX3_readSum_151 lkX3_38 MvX7_among rfl z_0_33 rfl rfl rfl (Or.inl rfl) (fun h => h) (by exact Nat.le_of_ble_eq_true rfl) ?_
                        obtain ⟨v19, e18, h⟩ := gz_bd h
                        cases x20 : v19.1 with
                        | error E => replace h := gz_exe x20 h; cases h; exact gz_useTI x20 (c_X7_among e18) ⟨by simp [gzRI, gzRJ, gzRV], rfl⟩
                        | ok w21 =>
                          replace h := gz_exo x20 h
                          refine gz_useOI x20 (c_X7_among e18) ?_
                          refine gz_V (zy := mX2_put) (zc := 0) (pc := 154) [.inl w21] rfl dX3_readSum_154 lkX3_63 MvX2_put rfl z_t1_20 rfl rfl rfl (Or.inl rfl) (fun h => h) (by exact Nat.le_of_ble_eq_true rfl) ?_
                          obtain ⟨v23, e22, h⟩ := gz_bd h
                          refine gz_useV (c_X2_put ht1 e22) ?_
                          refine gz_iload_n (pc := 157) dX3_readSum_157 rfl ?_
                          refine gz_if_le (pc := 158) (tgt := 168) dX3_readSum_158 (by decide) (fun c => ?_) (fun c => ?_)
                          · replace h := gz_ifp c h
                            refine gz_aload_n (pc := 168) dX3_readSum_168 rfl ?_
                            refine gr_X3_9 (pc := 169) dX3_readSum_169 z_0_38 rfl ?_
                            refine gz_sipush (pc := 172) dX3_readSum_172 (v := 2043) (by decide) ?_
                            refine gz_V (zy := mX7_take) (zc := 0) (pc := 175) [.inl 2043] rfl dX3_readSum_175 lkX3_49 MvX7_take rfl z_0_33 rfl rfl rfl (Or.inl rfl) (fun h => h) (by exact Nat.le_of_ble_eq_true rfl) ?_
                            obtain ⟨v25, e24, h⟩ := gz_bd h
                            refine gz_useI (c_X7_take e24) ?_
                            refine gz_if_ne (pc := 178) (tgt := 182) dX3_readSum_178 (by decide) (fun c => ?_) (fun c => ?_)
                            · replace h := gz_ifp c h
                              refine gz_iinc (pc := 182) dX3_readSum_182 (x := x2) (v := x2 + 1) rfl (by rw [show Int32.ofInt 1 = 1 by decide]) (by decide) rfl (loc2 := [some (.inr (.inr (0, 38))), some (.inr (.inr (t1, 20))), some (.inl (x2 + 1)), some (.inl (if v16 = 0 then (0 : Int32) else 1))]) rfl ?_
                              refine gz_goto (pc := 185) (tgt := 2) dX3_readSum_185 (by decide) ?_
                              exact gz_weak (loc2 := [some (.inr (.inr (0, 38))), some (.inr (.inr (t1, 20))), some (.inl (x2 + 1)), none]) (ih (x2 + 1) v25.2.1 v25.2.2 h) (by repeat (first | exact trivial | refine ⟨rfl, ?_⟩))
                            · replace h := gz_ifn (fun q => q c) h
                              cases h; exact gz_vret (pc := 181) dX3_readSum_181 rfl ⟨rfl, rfl⟩
                          · replace h := gz_ifn c h
                            refine gz_aload_n (pc := 161) dX3_readSum_161 rfl ?_
                            refine gz_sipush (pc := 162) dX3_readSum_162 (v := 2043) (by decide) ?_
                            refine gz_V (zy := mX2_put) (zc := 0) (pc := 165) [.inl 2043] rfl dX3_readSum_165 lkX3_63 MvX2_put rfl z_t1_20 rfl rfl rfl (Or.inl rfl) (fun h => h) (by exact Nat.le_of_ble_eq_true rfl) ?_
                            obtain ⟨v27, e26, h⟩ := gz_bd h
                            refine gz_useV (c_X2_put ht1 e26) ?_
                            refine gz_aload_n (pc := 168) dX3_readSum_168 rfl ?_
                            refine gr_X3_9 (pc := 169) dX3_readSum_169 z_0_38 rfl ?_
                            refine gz_sipush (pc := 172) dX3_readSum_172 (v := 2043) (by decide) ?_
                            refine gz_V (zy := mX7_take) (zc := 0) (pc := 175) [.inl 2043] rfl dX3_readSum_175 lkX3_49 MvX7_take rfl z_0_33 rfl rfl rfl (Or.inl rfl) (fun h => h) (by exact Nat.le_of_ble_eq_true rfl) ?_
                            obtain ⟨v29, e28, h⟩ := gz_bd h
                            refine gz_useI (c_X7_take e28) ?_
                            refine gz_if_ne (pc := 178) (tgt := 182) dX3_readSum_178 (by decide) (fun c => ?_) (fun c => ?_)
                            · replace h := gz_ifp c h
                              refine gz_iinc (pc := 182) dX3_readSum_182 (x := x2) (v := x2 + 1) rfl (by rw [show Int32.ofInt 1 = 1 by decide]) (by decide) rfl (loc2 := [some (.inr (.inr (0, 38))), some (.inr (.inr (t1, 20))), some (.inl (x2 + 1)), some (.inl (if v16 = 0 then (0 : Int32) else 1))]) rfl ?_
                              refine gz_goto (pc := 185) (tgt := 2) dX3_readSum_185 (by decide) ?_
                              exact gz_weak (loc2 := [some (.inr (.inr (0, 38))), some (.inr (.inr (t1, 20))), some (.inl (x2 + 1)), none]) (ih (x2 + 1) v29.2.1 v29.2.2 h) (by repeat (first | exact trivial | refine ⟨rfl, ?_⟩))
                            · replace h := gz_ifn (fun q => q c) h
                              cases h; exact gz_vret (pc := 181) dX3_readSum_181 rfl ⟨rfl, rfl⟩
                      · replace h := gz_ifn c h
                        refine gz_sipush (pc := 124) dX3_readSum_124 (v := 1012) (by decide) ?_
                        refine gz_aload_n (pc := 127) dX3_readSum_127 rfl ?_
                        refine gr_X3_9 (pc := 128) dX3_readSum_128 z_0_38 rfl ?_
                        refine gz_sipush (pc := 131) dX3_readSum_131 (v := 1012) (by decide) ?_
                        refine gz_bipush (pc := 134) dX3_readSum_134 (v := 8) (by decide) ?_
                        refine gz_V (zy := mX7_among) (zc := 0) (pc := 136) [.inl 1012, .inl 8] rfl dX3_readSum_136 lkX3_38 MvX7_among rfl z_0_33 rfl rfl rfl (Or.inl rfl) (fun h => h) (by exact Nat.le_of_ble_eq_true rfl) ?_
                        obtain ⟨v31, e30, h⟩ := gz_bd h
                        cases x32 : v31.1 with
                        | error E => replace h := gz_exe x32 h; cases h; exact gz_useTI x32 (c_X7_among e30) ⟨by simp [gzRI, gzRJ, gzRV], rfl⟩
                        | ok w33 =>
                          replace h := gz_exo x32 h
                          refine gz_useOI x32 (c_X7_among e30) ?_
                          refine gz_iadd (pc := 139) dX3_readSum_139  ?_
                          refine gz_goto (pc := 140) (tgt := 154) dX3_readSum_140 (by decide) ?_
                          refine gz_V (zy := mX2_put) (zc := 0) (pc := 154) [.inl (1012 + w33)] rfl dX3_readSum_154 lkX3_63 MvX2_put rfl z_t1_20 rfl rfl rfl (Or.inl rfl) (fun h => h) (by exact Nat.le_of_ble_eq_true rfl) ?_
                          obtain ⟨v35, e34, h⟩ := gz_bd h
                          refine gz_useV (c_X2_put ht1 e34) ?_
                          refine gz_iload_n (pc := 157) dX3_readSum_157 rfl ?_
                          refine gz_if_le (pc := 158) (tgt := 168) dX3_readSum_158 (by decide) (fun c => ?_) (fun c => ?_)
                          · replace h := gz_ifp c h
                            refine gz_aload_n (pc := 168) dX3_readSum_168 rfl ?_
                            refine gr_X3_9 (pc := 169) dX3_readSum_169 z_0_38 rfl ?_
                            refine gz_sipush (pc := 172) dX3_readSum_172 (v := 2043) (by decide) ?_
                            refine gz_V (zy := mX7_take) (zc := 0) (pc := 175) [.inl 2043] rfl dX3_readSum_175 lkX3_49 MvX7_take rfl z_0_33 rfl rfl rfl (Or.inl rfl) (fun h => h) (by exact Nat.le_of_ble_eq_true rfl) ?_
                            obtain ⟨v37, e36, h⟩ := gz_bd h
                            refine gz_useI (c_X7_take e36) ?_
                            refine gz_if_ne (pc := 178) (tgt := 182) dX3_readSum_178 (by decide) (fun c => ?_) (fun c => ?_)
                            · replace h := gz_ifp c h
                              refine gz_iinc (pc := 182) dX3_readSum_182 (x := x2) (v := x2 + 1) rfl (by rw [show Int32.ofInt 1 = 1 by decide]) (by decide) rfl (loc2 := [some (.inr (.inr (0, 38))), some (.inr (.inr (t1, 20))), some (.inl (x2 + 1)), some (.inl (if v16 = 0 then (0 : Int32) else 1))]) rfl ?_
                              refine gz_goto (pc := 185) (tgt := 2) dX3_readSum_185 (by decide) ?_
                              exact gz_weak (loc2 := [some (.inr (.inr (0, 38))), some (.inr (.inr (t1, 20))), some (.inl (x2 + 1)), none]) (ih (x2 + 1) v37.2.1 v37.2.2 h) (by repeat (first | exact trivial | refine ⟨rfl, ?_⟩))
                            · replace h := gz_ifn (fun q => q c) h
                              cases h; exact gz_vret (pc := 181) dX3_readSum_181 rfl ⟨rfl, rfl⟩
                          · replace h := gz_ifn c h
                            refine gz_aload_n (pc := 161) dX3_readSum_161 rfl ?_
                            refine gz_sipush (pc := 162) dX3_readSum_162 (v := 2043) (by decide) ?_
                            refine gz_V (zy := mX2_put) (zc := 0) (pc := 165) [.inl 2043] rfl dX3_readSum_165 lkX3_63 MvX2_put rfl z_t1_20 rfl rfl rfl (Or.inl rfl) (fun h => h) (by exact Nat.le_of_ble_eq_true rfl) ?_
                            obtain ⟨v39, e38, h⟩ := gz_bd h
                            refine gz_useV (c_X2_put ht1 e38) ?_
                            refine gz_aload_n (pc := 168) dX3_readSum_168 rfl ?_
                            refine gr_X3_9 (pc := 169) dX3_readSum_169 z_0_38 rfl ?_
                            refine gz_sipush (pc := 172) dX3_readSum_172 (v := 2043) (by decide) ?_
                            refine gz_V (zy := mX7_take) (zc := 0) (pc := 175) [.inl 2043] rfl dX3_readSum_175 lkX3_49 MvX7_take rfl z_0_33 rfl rfl rfl (Or.inl rfl) (fun h => h) (by exact Nat.le_of_ble_eq_true rfl) ?_
                            obtain ⟨v41, e40, h⟩ := gz_bd h
                            refine gz_useI (c_X7_take e40) ?_
                            refine gz_if_ne (pc := 178) (tgt := 182) dX3_readSum_178 (by decide) (fun c => ?_) (fun c => ?_)
                            · replace h := gz_ifp c h
                              refine gz_iinc (pc := 182) dX3_readSum_182 (x := x2) (v := x2 + 1) rfl (by rw [show Int32.ofInt 1 = 1 by decide]) (by decide) rfl (loc2 := [some (.inr (.inr (0, 38))), some (.inr (.inr (t1, 20))), some (.inl (x2 + 1)), some (.inl (if v16 = 0 then (0 : Int32) else 1))]) rfl ?_
                              refine gz_goto (pc := 185) (tgt := 2) dX3_readSum_185 (by decide) ?_
                              exact gz_weak (loc2 := [some (.inr (.inr (0, 38))), some (.inr (.inr (t1, 20))), some (.inl (x2 + 1)), none]) (ih (x2 + 1) v41.2.1 v41.2.2 h) (by repeat (first | exact trivial | refine ⟨rfl, ?_⟩))
                            · replace h := gz_ifn (fun q => q c) h
                              cases h; exact gz_vret (pc := 181) dX3_readSum_181 rfl ⟨rfl, rfl⟩
                    refine gz_if_eq (pc := 110) (tgt := 117) dX3_readSum_110 (by decide) (fun c => ?_) (fun c => ?_)
                    · rw [if_pos c] at kj17
                      refine gz_iconst (pc := 117) dX3_readSum_117 (v := 0) (by decide) ?_
                      exact kj17
                    · rw [if_neg c] at kj17
                      refine gz_iconst (pc := 113) dX3_readSum_113 (v := 1) (by decide) ?_
                      refine gz_goto (pc := 114) (tgt := 118) dX3_readSum_114 (by decide) ?_
                      exact kj17
def f_X3_readSum (φ : Nat) (t1 : Nat) (I : gzIT) (J : gzJT) : Option ((Except String Unit) × gzIT × gzJT) := f_X3_readSum_2 φ t1 φ 0 I J
set_option maxRecDepth 20000 in
theorem c_X3_readSum {g : gzG} {d φ : Nat} {t1 : Nat} (ht1 : t1 < 3) {I : gzIT} {J : gzJT} {r : (Except String Unit) × gzIT × gzJT} (h : f_X3_readSum φ t1 I J = some r) : gzC g 0 (d + 2) mX3_readSum [.inr (.inr (0, 38)), .inr (.inr (t1, 20))] (gzN, gzR0, I, J) (gzE (gzRV r.1) (gzN, gzR0, r.2.1, r.2.2)) := by
  unfold f_X3_readSum at h
  refine gzC_of (by decide +kernel) (Nat.le_of_ble_eq_true rfl) (loc := [some (.inr (.inr (0, 38))), some (.inr (.inr (t1, 20))), none, none]) rfl ?_
  refine gz_iconst (pc := 0) dX3_readSum_0 (v := 0) (by decide) ?_
  refine gz_istore_n (pc := 1) dX3_readSum_1 (by decide) rfl (loc2 := [some (.inr (.inr (0, 38))), some (.inr (.inr (t1, 20))), some (.inl 0), none]) rfl ?_
  exact p_X3_readSum_2 ht1 φ 0 I J h
/-! X7_need: need -/
def f_X7_need (a1 : Int32) (I : gzIT) (J : gzJT) : Option ((Except String Unit) × gzIT × gzJT) := Option.bind (f_X7_take a1 I J) (fun v2 => if ¬ v2.1 = 0 then (some (.ok (), v2.2.1, v2.2.2)) else (Option.bind (f_X7_wrong v2.2.1 v2.2.2) (fun v4 => gzEx v4.1 (fun E => some (.error E, v4.2.1, v4.2.2)) (fun w6 => some (.ok (), v4.2.1, v4.2.2)))))
set_option maxRecDepth 20000 in
theorem c_X7_need {g : gzG} {d : Nat} {a1 : Int32} {I : gzIT} {J : gzJT} {r : (Except String Unit) × gzIT × gzJT} (h : f_X7_need a1 I J = some r) : gzC g 0 (d + 2) mX7_need [.inr (.inr (0, 33)), .inl a1] (gzN, gzR0, I, J) (gzE (gzRV r.1) (gzN, gzR0, r.2.1, r.2.2)) := by
  unfold f_X7_need at h
  refine gzC_of (by decide +kernel) (Nat.le_of_ble_eq_true rfl) (loc := [some (.inr (.inr (0, 33))), some (.inl a1)]) rfl ?_
  have z_0_33 : gzOk 0 33 gzN := gzOk_of (by decide)
  refine gz_aload_n (pc := 0) dX7_need_0 rfl ?_
  refine gz_iload_n (pc := 1) dX7_need_1 rfl ?_
  refine gz_V (zy := mX7_take) (zc := 0) (pc := 2) [.inl a1] rfl dX7_need_2 lkX7_82 MvX7_take rfl z_0_33 rfl rfl rfl (Or.inl rfl) (fun h => h) (by exact Nat.le_of_ble_eq_true rfl) ?_
  obtain ⟨v2, e1, h⟩ := gz_bd h
  refine gz_useI (c_X7_take e1) ?_
  refine gz_if_ne (pc := 5) (tgt := 12) dX7_need_5 (by decide) (fun c => ?_) (fun c => ?_)
  · replace h := gz_ifp c h
    cases h; exact gz_vret (pc := 12) dX7_need_12 rfl ⟨rfl, rfl⟩
  · replace h := gz_ifn (fun q => q c) h
    refine gz_aload_n (pc := 8) dX7_need_8 rfl ?_
    refine gz_V (zy := mX7_wrong) (zc := 0) (pc := 9) [] rfl dX7_need_9 lkX7_86 MvX7_wrong rfl z_0_33 rfl rfl rfl (Or.inl rfl) (fun h => h) (by exact Nat.le_of_ble_eq_true rfl) ?_
    obtain ⟨v4, e3, h⟩ := gz_bd h
    cases x5 : v4.1 with
    | error E => replace h := gz_exe x5 h; cases h; exact gz_useTV x5 (c_X7_wrong e3) ⟨by simp [gzRI, gzRJ, gzRV], rfl⟩
    | ok w6 =>
      replace h := gz_exo x5 h
      refine gz_useOV x5 (c_X7_wrong e3) ?_
      cases h; exact gz_vret (pc := 12) dX7_need_12 rfl ⟨rfl, rfl⟩
/-! X3_readAtom: readAtom -/
def gP_X3_readAtom_39 (g : gzG) (t1 : Nat) (d : Nat) (r : (Except String Unit) × gzIT × gzJT) (x2 : Int32) (I : gzIT) (J : gzJT) : Prop := gzX g 0 (d + 3) mX3_readAtom 39 [some (.inr (.inr (0, 38))), some (.inr (.inr (t1, 20))), some (.inl x2), none] [] (gzN, gzR0, I, J) 0 (gzE (gzRV r.1) (gzN, gzR0, r.2.1, r.2.2))
def gP_X3_readAtom_32 (g : gzG) (t1 : Nat) (d : Nat) (r : (Except String Unit) × gzIT × gzJT) (x2 : Int32) (I : gzIT) (J : gzJT) : Prop := gzX g 0 (d + 3) mX3_readAtom 32 [some (.inr (.inr (0, 38))), some (.inr (.inr (t1, 20))), some (.inl x2), none] [] (gzN, gzR0, I, J) 0 (gzE (gzRV r.1) (gzN, gzR0, r.2.1, r.2.2))
def f_X3_readAtom_39 (φ : Nat) (t1 : Nat) (R : Int32 → gzIT → gzJT → Option ((Except String Unit) × gzIT × gzJT)) (x2 : Int32) (I : gzIT) (J : gzJT) : Option ((Except String Unit) × gzIT × gzJT) := Option.bind (f_X7_take 1027 I J) (fun v6 => if v6.1 = 0 then (Option.bind (f_X7_take 2040 v6.2.1 v6.2.2) (fun v8 => if v8.1 = 0 then (Option.bind (f_X7_is v8.2.1 1020) (fun v10 => if ¬ v10 = 0 then (Option.bind (f_X7_among 1020 3 v8.2.1 v8.2.2) (fun v12 => gzEx v12.1 (fun E => some (.error E, v12.2.1, v12.2.2)) (fun w14 => Option.bind (f_X2_put t1 (1020 + w14) v12.2.1 v12.2.2) (fun v16 => some (.ok (), v16.2.1, v16.2.2))))) else (Option.bind (f_X7_is v8.2.1 1021) (fun v18 => if ¬ v18 = 0 then (Option.bind (f_X7_among 1020 3 v8.2.1 v8.2.2) (fun v20 => gzEx v20.1 (fun E => some (.error E, v20.2.1, v20.2.2)) (fun w22 => Option.bind (f_X2_put t1 (1020 + w22) v20.2.1 v20.2.2) (fun v24 => some (.ok (), v24.2.1, v24.2.2))))) else (Option.bind (f_X7_is v8.2.1 1022) (fun v26 => if v26 = 0 then (Option.bind (f_X3_readSum φ t1 v8.2.1 v8.2.2) (fun v28 => gzEx v28.1 (fun E => some (.error E, v28.2.1, v28.2.2)) (fun w30 => Option.bind (f_X7_take 2062 v28.2.1 v28.2.2) (fun v32 => if ¬ (if v32.1 = 0 then (2060 : Int32) else 2062) = 2060 then (Option.bind (f_X3_readSum φ t1 v32.2.1 v32.2.2) (fun v35 => gzEx v35.1 (fun E => some (.error E, v35.2.1, v35.2.2)) (fun w37 => Option.bind (f_X2_put t1 (if v32.1 = 0 then (2060 : Int32) else 2062) v35.2.1 v35.2.2) (fun v39 => some (.ok (), v39.2.1, v39.2.2))))) else (Option.bind (f_X7_need 2060 v32.2.1 v32.2.2) (fun v41 => gzEx v41.1 (fun E => some (.error E, v41.2.1, v41.2.2)) (fun w43 => Option.bind (f_X3_readSum φ t1 v41.2.1 v41.2.2) (fun v45 => gzEx v45.1 (fun E => some (.error E, v45.2.1, v45.2.2)) (fun w47 => Option.bind (f_X2_put t1 (if v32.1 = 0 then (2060 : Int32) else 2062) v45.2.1 v45.2.2) (fun v49 => some (.ok (), v49.2.1, v49.2.2))))))))))) else (Option.bind (f_X7_among 1020 3 v8.2.1 v8.2.2) (fun v51 => gzEx v51.1 (fun E => some (.error E, v51.2.1, v51.2.2)) (fun w53 => Option.bind (f_X2_put t1 (1020 + w53) v51.2.1 v51.2.2) (fun v55 => some (.ok (), v55.2.1, v55.2.2))))))))))) else (Option.bind (fR_X3_readCondition φ t1 R (x2 + 1) v8.2.1 v8.2.2) (fun v57 => gzEx v57.1 (fun E => some (.error E, v57.2.1, v57.2.2)) (fun w59 => Option.bind (f_X7_need 2041 v57.2.1 v57.2.2) (fun v61 => gzEx v61.1 (fun E => some (.error E, v61.2.1, v61.2.2)) (fun w63 => some (.ok (), v61.2.1, v61.2.2)))))))) else (Option.bind (R (x2 + 1) v6.2.1 v6.2.2) (fun v65 => gzEx v65.1 (fun E => some (.error E, v65.2.1, v65.2.2)) (fun w67 => Option.bind (f_X2_put t1 1027 v65.2.1 v65.2.2) (fun v69 => some (.ok (), v69.2.1, v69.2.2))))))
set_option maxRecDepth 20000 in
theorem p_X3_readAtom_39 {g : gzG} {d φ : Nat} {t1 : Nat} (ht1 : t1 < 3) {r : (Except String Unit) × gzIT × gzJT} {R : Int32 → gzIT → gzJT → Option ((Except String Unit) × gzIT × gzJT)} (hR : ∀ e, d ≤ e → ∀ (q0 : Int32) (I : gzIT) (J : gzJT) (r : (Except String Unit) × gzIT × gzJT), R q0 I J = some r → gzC g 0 e mX3_readAtom [.inr (.inr (0, 38)), .inr (.inr (t1, 20)), .inl q0] (gzN, gzR0, I, J) (gzE (gzRV r.1) (gzN, gzR0, r.2.1, r.2.2))) (x2 : Int32) (I : gzIT) (J : gzJT) (h : f_X3_readAtom_39 φ t1 R x2 I J = some r) : gP_X3_readAtom_39 g t1 d r x2 I J := by
  unfold f_X3_readAtom_39 at h
  unfold gP_X3_readAtom_39
  have z_0_38 : gzOk 0 38 gzN := gzOk_of (by decide)
  have z_0_33 : gzOk 0 33 gzN := gzOk_of (by decide)
  have z_t1_20 : gzOk t1 20 gzN := gzOk_of ht1
  refine gz_aload_n (pc := 39) dX3_readAtom_39 rfl ?_
  refine gr_X3_9 (pc := 40) dX3_readAtom_40 z_0_38 rfl ?_
  refine gz_sipush (pc := 43) dX3_readAtom_43 (v := 1027) (by decide) ?_
  refine gz_V (zy := mX7_take) (zc := 0) (pc := 46) [.inl 1027] rfl dX3_readAtom_46 lkX3_49 MvX7_take rfl z_0_33 rfl rfl rfl (Or.inl rfl) (fun h => h) (by exact Nat.le_of_ble_eq_true rfl) ?_
  obtain ⟨v6, e5, h⟩ := gz_bd h
  refine gz_useI (c_X7_take e5) ?_
  refine gz_if_eq (pc := 49) (tgt := 70) dX3_readAtom_49 (by decide) (fun c => ?_) (fun c => ?_)
  · replace h := gz_ifp c h
    refine gz_aload_n (pc := 70) dX3_readAtom_70 rfl ?_
    refine gr_X3_9 (pc := 71) dX3_readAtom_71 z_0_38 rfl ?_
    refine gz_sipush (pc := 74) dX3_readAtom_74 (v := 2040) (by decide) ?_
    refine gz_V (zy := mX7_take) (zc := 0) (pc := 77) [.inl 2040] rfl dX3_readAtom_77 lkX3_49 MvX7_take rfl z_0_33 rfl rfl rfl (Or.inl rfl) (fun h => h) (by exact Nat.le_of_ble_eq_true rfl) ?_
    obtain ⟨v8, e7, h⟩ := gz_bd h
    refine gz_useI (c_X7_take e7) ?_
    refine gz_if_eq (pc := 80) (tgt := 104) dX3_readAtom_80 (by decide) (fun c => ?_) (fun c => ?_)
    · replace h := gz_ifp c h
      refine gz_aload_n (pc := 104) dX3_readAtom_104 rfl ?_
      refine gr_X3_9 (pc := 105) dX3_readAtom_105 z_0_38 rfl ?_
      refine gz_sipush (pc := 108) dX3_readAtom_108 (v := 1020) (by decide) ?_
      refine gz_V (zy := mX7_is) (zc := 0) (pc := 111) [.inl 1020] rfl dX3_readAtom_111 lkX3_21 MvX7_is rfl z_0_33 rfl rfl rfl (Or.inl rfl) (fun h => h) (by exact Nat.le_of_ble_eq_true rfl) ?_
      obtain ⟨v10, e9, h⟩ := gz_bd h
      refine gz_useI (c_X7_is e9) ?_
      refine gz_if_ne (pc := 114) (tgt := 143) dX3_readAtom_114 (by decide) (fun c => ?_) (fun c => ?_)
      · replace h := gz_ifp c h
        refine gz_aload_n (pc := 143) dX3_readAtom_143 rfl ?_
        refine gz_sipush (pc := 144) dX3_readAtom_144 (v := 1020) (by decide) ?_
        refine gz_aload_n (pc := 147) dX3_readAtom_147 rfl ?_
        refine gr_X3_9 (pc := 148) dX3_readAtom_148 z_0_38 rfl ?_
        refine gz_sipush (pc := 151) dX3_readAtom_151 (v := 1020) (by decide) ?_
        refine gz_iconst (pc := 154) dX3_readAtom_154 (v := 3) (by decide) ?_
        refine gz_V (zy := mX7_among) (zc := 0) (pc := 155) [.inl 1020, .inl 3] rfl dX3_readAtom_155 lkX3_38 MvX7_among rfl z_0_33 rfl rfl rfl (Or.inl rfl) (fun h => h) (by exact Nat.le_of_ble_eq_true rfl) ?_
        obtain ⟨v12, e11, h⟩ := gz_bd h
        cases x13 : v12.1 with
        | error E => replace h := gz_exe x13 h; cases h; exact gz_useTI x13 (c_X7_among e11) ⟨by simp [gzRI, gzRJ, gzRV], rfl⟩
        | ok w14 =>
          replace h := gz_exo x13 h
          refine gz_useOI x13 (c_X7_among e11) ?_
          refine gz_iadd (pc := 158) dX3_readAtom_158  ?_
          refine gz_V (zy := mX2_put) (zc := 0) (pc := 159) [.inl (1020 + w14)] rfl dX3_readAtom_159 lkX3_63 MvX2_put rfl z_t1_20 rfl rfl rfl (Or.inl rfl) (fun h => h) (by exact Nat.le_of_ble_eq_true rfl) ?_
          obtain ⟨v16, e15, h⟩ := gz_bd h
          refine gz_useV (c_X2_put ht1 e15) ?_
          refine gz_goto (pc := 162) (tgt := 220) dX3_readAtom_162 (by decide) ?_
          cases h; exact gz_vret (pc := 220) dX3_readAtom_220 rfl ⟨rfl, rfl⟩
      · replace h := gz_ifn (fun q => q c) h
        refine gz_aload_n (pc := 117) dX3_readAtom_117 rfl ?_
        refine gr_X3_9 (pc := 118) dX3_readAtom_118 z_0_38 rfl ?_
        refine gz_sipush (pc := 121) dX3_readAtom_121 (v := 1021) (by decide) ?_
        refine gz_V (zy := mX7_is) (zc := 0) (pc := 124) [.inl 1021] rfl dX3_readAtom_124 lkX3_21 MvX7_is rfl z_0_33 rfl rfl rfl (Or.inl rfl) (fun h => h) (by exact Nat.le_of_ble_eq_true rfl) ?_
        obtain ⟨v18, e17, h⟩ := gz_bd h
        refine gz_useI (c_X7_is e17) ?_
        refine gz_if_ne (pc := 127) (tgt := 143) dX3_readAtom_127 (by decide) (fun c => ?_) (fun c => ?_)
        · replace h := gz_ifp c h
          refine gz_aload_n (pc := 143) dX3_readAtom_143 rfl ?_
          refine gz_sipush (pc := 144) dX3_readAtom_144 (v := 1020) (by decide) ?_
          refine gz_aload_n (pc := 147) dX3_readAtom_147 rfl ?_
          refine gr_X3_9 (pc := 148) dX3_readAtom_148 z_0_38 rfl ?_
          refine gz_sipush (pc := 151) dX3_readAtom_151 (v := 1020) (by decide) ?_
          refine gz_iconst (pc := 154) dX3_readAtom_154 (v := 3) (by decide) ?_
          refine gz_V (zy := mX7_among) (zc := 0) (pc := 155) [.inl 1020, .inl 3] rfl dX3_readAtom_155 lkX3_38 MvX7_among rfl z_0_33 rfl rfl rfl (Or.inl rfl) (fun h => h) (by exact Nat.le_of_ble_eq_true rfl) ?_
          obtain ⟨v20, e19, h⟩ := gz_bd h
          cases x21 : v20.1 with
          | error E => replace h := gz_exe x21 h; cases h; exact gz_useTI x21 (c_X7_among e19) ⟨by simp [gzRI, gzRJ, gzRV], rfl⟩
          | ok w22 =>
            replace h := gz_exo x21 h
            refine gz_useOI x21 (c_X7_among e19) ?_
            refine gz_iadd (pc := 158) dX3_readAtom_158  ?_
            refine gz_V (zy := mX2_put) (zc := 0) (pc := 159) [.inl (1020 + w22)] rfl dX3_readAtom_159 lkX3_63 MvX2_put rfl z_t1_20 rfl rfl rfl (Or.inl rfl) (fun h => h) (by exact Nat.le_of_ble_eq_true rfl) ?_
            obtain ⟨v24, e23, h⟩ := gz_bd h
            refine gz_useV (c_X2_put ht1 e23) ?_
            refine gz_goto (pc := 162) (tgt := 220) dX3_readAtom_162 (by decide) ?_
            cases h; exact gz_vret (pc := 220) dX3_readAtom_220 rfl ⟨rfl, rfl⟩
        · replace h := gz_ifn (fun q => q c) h
          refine gz_aload_n (pc := 130) dX3_readAtom_130 rfl ?_
          refine gr_X3_9 (pc := 131) dX3_readAtom_131 z_0_38 rfl ?_
          refine gz_sipush (pc := 134) dX3_readAtom_134 (v := 1022) (by decide) ?_
          refine gz_V (zy := mX7_is) (zc := 0) (pc := 137) [.inl 1022] rfl dX3_readAtom_137 lkX3_21 MvX7_is rfl z_0_33 rfl rfl rfl (Or.inl rfl) (fun h => h) (by exact Nat.le_of_ble_eq_true rfl) ?_
          obtain ⟨v26, e25, h⟩ := gz_bd h
          refine gz_useI (c_X7_is e25) ?_
          refine gz_if_eq (pc := 140) (tgt := 165) dX3_readAtom_140 (by decide) (fun c => ?_) (fun c => ?_)
          · replace h := gz_ifp c h
            refine gz_aload_n (pc := 165) dX3_readAtom_165 rfl ?_
            refine gz_aload_n (pc := 166) dX3_readAtom_166 rfl ?_
            refine gz_V (zy := mX3_readSum) (zc := 0) (pc := 167) [.inr (.inr (t1, 20))] rfl dX3_readAtom_167 lkX3_66 MvX3_readSum rfl z_0_38 rfl rfl rfl (Or.inl rfl) (fun h => h) (by exact Nat.le_of_ble_eq_true rfl) ?_
            obtain ⟨v28, e27, h⟩ := gz_bd h
            cases x29 : v28.1 with
            | error E => replace h := gz_exe x29 h; cases h; exact gz_useTV x29 (c_X3_readSum ht1 e27) ⟨by simp [gzRI, gzRJ, gzRV], rfl⟩
            | ok w30 =>
              replace h := gz_exo x29 h
              refine gz_useOV x29 (c_X3_readSum ht1 e27) ?_
              refine gz_aload_n (pc := 170) dX3_readAtom_170 rfl ?_
              refine gr_X3_9 (pc := 171) dX3_readAtom_171 z_0_38 rfl ?_
              refine gz_sipush (pc := 174) dX3_readAtom_174 (v := 2062) (by decide) ?_
              refine gz_V (zy := mX7_take) (zc := 0) (pc := 177) [.inl 2062] rfl dX3_readAtom_177 lkX3_49 MvX7_take rfl z_0_33 rfl rfl rfl (Or.inl rfl) (fun h => h) (by exact Nat.le_of_ble_eq_true rfl) ?_
              obtain ⟨v32, e31, h⟩ := gz_bd h
              refine gz_useI (c_X7_take e31) ?_
              have kj33 : gzX g 0 (d + 3) mX3_readAtom 192 [some (.inr (.inr (0, 38))), some (.inr (.inr (t1, 20))), some (.inl x2), none] ([.inl (if v32.1 = 0 then (2060 : Int32) else 2062)]) (gzN, gzR0, v32.2.1, v32.2.2) 0 (gzE (gzRV r.1) (gzN, gzR0, r.2.1, r.2.2)) := by
                refine gz_istore_n (pc := 192) dX3_readAtom_192 (by decide) rfl (loc2 := [some (.inr (.inr (0, 38))), some (.inr (.inr (t1, 20))), some (.inl x2), some (.inl (if v32.1 = 0 then (2060 : Int32) else 2062))]) rfl ?_
                refine gz_iload_n (pc := 193) dX3_readAtom_193 rfl ?_
                refine gz_sipush (pc := 194) dX3_readAtom_194 (v := 2060) (by decide) ?_
                refine gz_ic_ne (pc := 197) (tgt := 210) dX3_readAtom_197 (by decide) (fun c => ?_) (fun c => ?_)
                · replace h := gz_ifp c h
                  refine gz_aload_n (pc := 210) dX3_readAtom_210 rfl ?_
                  refine gz_aload_n (pc := 211) dX3_readAtom_211 rfl ?_
                  refine gz_V (zy := mX3_readSum) (zc := 0) (pc := 212) [.inr (.inr (t1, 20))] rfl dX3_readAtom_212 lkX3_66 MvX3_readSum rfl z_0_38 rfl rfl rfl (Or.inl rfl) (fun h => h) (by exact Nat.le_of_ble_eq_true rfl) ?_
                  obtain ⟨v35, e34, h⟩ := gz_bd h
                  cases x36 : v35.1 with
                  | error E => replace h := gz_exe x36 h; cases h; exact gz_useTV x36 (c_X3_readSum ht1 e34) ⟨by simp [gzRI, gzRJ, gzRV], rfl⟩
                  | ok w37 =>
                    replace h := gz_exo x36 h
                    refine gz_useOV x36 (c_X3_readSum ht1 e34) ?_
                    refine gz_aload_n (pc := 215) dX3_readAtom_215 rfl ?_
                    refine gz_iload_n (pc := 216) dX3_readAtom_216 rfl ?_
                    refine gz_V (zy := mX2_put) (zc := 0) (pc := 217) [.inl (if v32.1 = 0 then (2060 : Int32) else 2062)] rfl dX3_readAtom_217 lkX3_63 MvX2_put rfl z_t1_20 rfl rfl rfl (Or.inl rfl) (fun h => h) (by exact Nat.le_of_ble_eq_true rfl) ?_
                    obtain ⟨v39, e38, h⟩ := gz_bd h
                    refine gz_useV (c_X2_put ht1 e38) ?_
                    cases h; exact gz_vret (pc := 220) dX3_readAtom_220 rfl ⟨rfl, rfl⟩
                · replace h := gz_ifn (fun q => q c) h
                  refine gz_aload_n (pc := 200) dX3_readAtom_200 rfl ?_
                  refine gr_X3_9 (pc := 201) dX3_readAtom_201 z_0_38 rfl ?_
                  refine gz_sipush (pc := 204) dX3_readAtom_204 (v := 2060) (by decide) ?_
                  refine gz_V (zy := mX7_need) (zc := 0) (pc := 207) [.inl 2060] rfl dX3_readAtom_207 lkX3_31 MvX7_need rfl z_0_33 rfl rfl rfl (Or.inl rfl) (fun h => h) (by exact Nat.le_of_ble_eq_true rfl) ?_
                  obtain ⟨v41, e40, h⟩ := gz_bd h
                  cases x42 : v41.1 with
                  | error E => replace h := gz_exe x42 h; cases h; exact gz_useTV x42 (c_X7_need e40) ⟨by simp [gzRI, gzRJ, gzRV], rfl⟩
                  | ok w43 =>
                    replace h := gz_exo x42 h
                    refine gz_useOV x42 (c_X7_need e40) ?_
                    refine gz_aload_n (pc := 210) dX3_readAtom_210 rfl ?_
                    refine gz_aload_n (pc := 211) dX3_readAtom_211 rfl ?_
                    refine gz_V (zy := mX3_readSum) (zc := 0) (pc := 212) [.inr (.inr (t1, 20))] rfl dX3_readAtom_212 lkX3_66 MvX3_readSum rfl z_0_38 rfl rfl rfl (Or.inl rfl) (fun h => h) (by exact Nat.le_of_ble_eq_true rfl) ?_
                    obtain ⟨v45, e44, h⟩ := gz_bd h
                    cases x46 : v45.1 with
                    | error E => replace h := gz_exe x46 h; cases h; exact gz_useTV x46 (c_X3_readSum ht1 e44) ⟨by simp [gzRI, gzRJ, gzRV], rfl⟩
                    | ok w47 =>
                      replace h := gz_exo x46 h
                      refine gz_useOV x46 (c_X3_readSum ht1 e44) ?_
                      refine gz_aload_n (pc := 215) dX3_readAtom_215 rfl ?_
                      refine gz_iload_n (pc := 216) dX3_readAtom_216 rfl ?_
                      refine gz_V (zy := mX2_put) (zc := 0) (pc := 217) [.inl (if v32.1 = 0 then (2060 : Int32) else 2062)] rfl dX3_readAtom_217 lkX3_63 MvX2_put rfl z_t1_20 rfl rfl rfl (Or.inl rfl) (fun h => h) (by exact Nat.le_of_ble_eq_true rfl) ?_
                      obtain ⟨v49, e48, h⟩ := gz_bd h
                      refine gz_useV (c_X2_put ht1 e48) ?_
                      cases h; exact gz_vret (pc := 220) dX3_readAtom_220 rfl ⟨rfl, rfl⟩
              refine gz_if_eq (pc := 180) (tgt := 189) dX3_readAtom_180 (by decide) (fun c => ?_) (fun c => ?_)
              · rw [if_pos c] at kj33
                refine gz_sipush (pc := 189) dX3_readAtom_189 (v := 2060) (by decide) ?_
                exact kj33
              · rw [if_neg c] at kj33
                refine gz_sipush (pc := 183) dX3_readAtom_183 (v := 2062) (by decide) ?_
                refine gz_goto (pc := 186) (tgt := 192) dX3_readAtom_186 (by decide) ?_
                exact kj33
          · replace h := gz_ifn c h
            refine gz_aload_n (pc := 143) dX3_readAtom_143 rfl ?_
            refine gz_sipush (pc := 144) dX3_readAtom_144 (v := 1020) (by decide) ?_
            refine gz_aload_n (pc := 147) dX3_readAtom_147 rfl ?_
            refine gr_X3_9 (pc := 148) dX3_readAtom_148 z_0_38 rfl ?_
            refine gz_sipush (pc := 151) dX3_readAtom_151 (v := 1020) (by decide) ?_
            refine gz_iconst (pc := 154) dX3_readAtom_154 (v := 3) (by decide) ?_
            refine gz_V (zy := mX7_among) (zc := 0) (pc := 155) [.inl 1020, .inl 3] rfl dX3_readAtom_155 lkX3_38 MvX7_among rfl z_0_33 rfl rfl rfl (Or.inl rfl) (fun h => h) (by exact Nat.le_of_ble_eq_true rfl) ?_
            obtain ⟨v51, e50, h⟩ := gz_bd h
            cases x52 : v51.1 with
            | error E => replace h := gz_exe x52 h; cases h; exact gz_useTI x52 (c_X7_among e50) ⟨by simp [gzRI, gzRJ, gzRV], rfl⟩
            | ok w53 =>
              replace h := gz_exo x52 h
              refine gz_useOI x52 (c_X7_among e50) ?_
              refine gz_iadd (pc := 158) dX3_readAtom_158  ?_
              refine gz_V (zy := mX2_put) (zc := 0) (pc := 159) [.inl (1020 + w53)] rfl dX3_readAtom_159 lkX3_63 MvX2_put rfl z_t1_20 rfl rfl rfl (Or.inl rfl) (fun h => h) (by exact Nat.le_of_ble_eq_true rfl) ?_
              obtain ⟨v55, e54, h⟩ := gz_bd h
              refine gz_useV (c_X2_put ht1 e54) ?_
              refine gz_goto (pc := 162) (tgt := 220) dX3_readAtom_162 (by decide) ?_
              cases h; exact gz_vret (pc := 220) dX3_readAtom_220 rfl ⟨rfl, rfl⟩
    · replace h := gz_ifn c h
      refine gz_aload_n (pc := 83) dX3_readAtom_83 rfl ?_
      refine gz_aload_n (pc := 84) dX3_readAtom_84 rfl ?_
      refine gz_iload_n (pc := 85) dX3_readAtom_85 rfl ?_
      refine gz_iconst (pc := 86) dX3_readAtom_86 (v := 1) (by decide) ?_
      refine gz_iadd (pc := 87) dX3_readAtom_87  ?_
      refine gz_V (zy := mX3_readCondition) (zc := 0) (pc := 88) [.inr (.inr (t1, 20)), .inl (x2 + 1)] rfl dX3_readAtom_88 lkX3_52 MvX3_readCondition rfl z_0_38 rfl rfl rfl (Or.inl rfl) (fun h => h) (by exact Nat.le_of_ble_eq_true rfl) ?_
      obtain ⟨v57, e56, h⟩ := gz_bd h
      cases x58 : v57.1 with
      | error E => replace h := gz_exe x58 h; cases h; exact gz_useTV x58 (cR_X3_readCondition ht1 (fun e he => hR e (by omega)) e56) ⟨by simp [gzRI, gzRJ, gzRV], rfl⟩
      | ok w59 =>
        replace h := gz_exo x58 h
        refine gz_useOV x58 (cR_X3_readCondition ht1 (fun e he => hR e (by omega)) e56) ?_
        refine gz_aload_n (pc := 91) dX3_readAtom_91 rfl ?_
        refine gr_X3_9 (pc := 92) dX3_readAtom_92 z_0_38 rfl ?_
        refine gz_sipush (pc := 95) dX3_readAtom_95 (v := 2041) (by decide) ?_
        refine gz_V (zy := mX7_need) (zc := 0) (pc := 98) [.inl 2041] rfl dX3_readAtom_98 lkX3_31 MvX7_need rfl z_0_33 rfl rfl rfl (Or.inl rfl) (fun h => h) (by exact Nat.le_of_ble_eq_true rfl) ?_
        obtain ⟨v61, e60, h⟩ := gz_bd h
        cases x62 : v61.1 with
        | error E => replace h := gz_exe x62 h; cases h; exact gz_useTV x62 (c_X7_need e60) ⟨by simp [gzRI, gzRJ, gzRV], rfl⟩
        | ok w63 =>
          replace h := gz_exo x62 h
          refine gz_useOV x62 (c_X7_need e60) ?_
          refine gz_goto (pc := 101) (tgt := 220) dX3_readAtom_101 (by decide) ?_
          cases h; exact gz_vret (pc := 220) dX3_readAtom_220 rfl ⟨rfl, rfl⟩
  · replace h := gz_ifn c h
    refine gz_aload_n (pc := 52) dX3_readAtom_52 rfl ?_
    refine gz_aload_n (pc := 53) dX3_readAtom_53 rfl ?_
    refine gz_iload_n (pc := 54) dX3_readAtom_54 rfl ?_
    refine gz_iconst (pc := 55) dX3_readAtom_55 (v := 1) (by decide) ?_
    refine gz_iadd (pc := 56) dX3_readAtom_56  ?_
    refine gz_V (zy := mX3_readAtom) (zc := 0) (pc := 57) [.inr (.inr (t1, 20)), .inl (x2 + 1)] rfl dX3_readAtom_57 lkX3_60 MvX3_readAtom rfl z_0_38 rfl rfl rfl (Or.inl rfl) (fun h => h) (by exact Nat.le_of_ble_eq_true rfl) ?_
    obtain ⟨v65, e64, h⟩ := gz_bd h
    cases x66 : v65.1 with
    | error E => replace h := gz_exe x66 h; cases h; exact gz_useTV x66 (hR _ (by omega) _ _ _ _ e64) ⟨by simp [gzRI, gzRJ, gzRV], rfl⟩
    | ok w67 =>
      replace h := gz_exo x66 h
      refine gz_useOV x66 (hR _ (by omega) _ _ _ _ e64) ?_
      refine gz_aload_n (pc := 60) dX3_readAtom_60 rfl ?_
      refine gz_sipush (pc := 61) dX3_readAtom_61 (v := 1027) (by decide) ?_
      refine gz_V (zy := mX2_put) (zc := 0) (pc := 64) [.inl 1027] rfl dX3_readAtom_64 lkX3_63 MvX2_put rfl z_t1_20 rfl rfl rfl (Or.inl rfl) (fun h => h) (by exact Nat.le_of_ble_eq_true rfl) ?_
      obtain ⟨v69, e68, h⟩ := gz_bd h
      refine gz_useV (c_X2_put ht1 e68) ?_
      refine gz_goto (pc := 67) (tgt := 220) dX3_readAtom_67 (by decide) ?_
      cases h; exact gz_vret (pc := 220) dX3_readAtom_220 rfl ⟨rfl, rfl⟩
def f_X3_readAtom_32 (φ : Nat) (t1 : Nat) (R : Int32 → gzIT → gzJT → Option ((Except String Unit) × gzIT × gzJT)) (x2 : Int32) (I : gzIT) (J : gzJT) : Option ((Except String Unit) × gzIT × gzJT) := Option.bind (f_X7_wrong I J) (fun v71 => gzEx v71.1 (fun E => some (.error E, v71.2.1, v71.2.2)) (fun w73 => f_X3_readAtom_39 φ t1 R x2 v71.2.1 v71.2.2))
set_option maxRecDepth 20000 in
theorem p_X3_readAtom_32 {g : gzG} {d φ : Nat} {t1 : Nat} (ht1 : t1 < 3) {r : (Except String Unit) × gzIT × gzJT} {R : Int32 → gzIT → gzJT → Option ((Except String Unit) × gzIT × gzJT)} (hR : ∀ e, d ≤ e → ∀ (q0 : Int32) (I : gzIT) (J : gzJT) (r : (Except String Unit) × gzIT × gzJT), R q0 I J = some r → gzC g 0 e mX3_readAtom [.inr (.inr (0, 38)), .inr (.inr (t1, 20)), .inl q0] (gzN, gzR0, I, J) (gzE (gzRV r.1) (gzN, gzR0, r.2.1, r.2.2))) (x2 : Int32) (I : gzIT) (J : gzJT) (h : f_X3_readAtom_32 φ t1 R x2 I J = some r) : gP_X3_readAtom_32 g t1 d r x2 I J := by
  unfold f_X3_readAtom_32 at h
  unfold gP_X3_readAtom_32
  have z_0_38 : gzOk 0 38 gzN := gzOk_of (by decide)
  have z_0_33 : gzOk 0 33 gzN := gzOk_of (by decide)
  refine gz_aload_n (pc := 32) dX3_readAtom_32 rfl ?_
  refine gr_X3_9 (pc := 33) dX3_readAtom_33 z_0_38 rfl ?_
  refine gz_V (zy := mX7_wrong) (zc := 0) (pc := 36) [] rfl dX3_readAtom_36 lkX3_35 MvX7_wrong rfl z_0_33 rfl rfl rfl (Or.inl rfl) (fun h => h) (by exact Nat.le_of_ble_eq_true rfl) ?_
  obtain ⟨v71, e70, h⟩ := gz_bd h
  cases x72 : v71.1 with
  | error E => replace h := gz_exe x72 h; cases h; exact gz_useTV x72 (c_X7_wrong e70) ⟨by simp [gzRI, gzRJ, gzRV], rfl⟩
  | ok w73 =>
    replace h := gz_exo x72 h
    refine gz_useOV x72 (c_X7_wrong e70) ?_
    exact p_X3_readAtom_39 ht1 hR x2 v71.2.1 v71.2.2 h
def fR_X3_readAtom (φ : Nat) (t1 : Nat) : Nat → Int32 → gzIT → gzJT → Option ((Except String Unit) × gzIT × gzJT)
  | 0, _, _, _ => none
  | k + 1, a2, I, J => if a2 < 6 then (f_X3_readAtom_39 φ t1 (fR_X3_readAtom φ t1 k) a2 I J) else (Option.bind (f_X7_is I 1027) (fun v2 => if ¬ v2 = 0 then (f_X3_readAtom_32 φ t1 (fR_X3_readAtom φ t1 k) a2 I J) else (Option.bind (f_X7_is I 2040) (fun v4 => if v4 = 0 then (f_X3_readAtom_39 φ t1 (fR_X3_readAtom φ t1 k) a2 I J) else (f_X3_readAtom_32 φ t1 (fR_X3_readAtom φ t1 k) a2 I J)))))
set_option maxRecDepth 20000 in
theorem cR_X3_readAtom {g : gzG} {φ : Nat} {t1 : Nat} (ht1 : t1 < 3) : ∀ (k D : Nat), 3 * k + 3 ≤ D → ∀ (a2 : Int32) (I : gzIT) (J : gzJT) (r : (Except String Unit) × gzIT × gzJT), fR_X3_readAtom φ t1 k a2 I J = some r → gzC g 0 D mX3_readAtom [.inr (.inr (0, 38)), .inr (.inr (t1, 20)), .inl a2] (gzN, gzR0, I, J) (gzE (gzRV r.1) (gzN, gzR0, r.2.1, r.2.2)) := by
  intro k; induction k with
  | zero => intro D hD a2 I J r h; cases h
  | succ k ih =>
    intro D hD a2 I J r h
    obtain ⟨d, rfl⟩ : ∃ d, D = d + 3 := ⟨D - 3, by omega⟩
    have hR : ∀ e, d ≤ e → ∀ (a2 : Int32) (I : gzIT) (J : gzJT) (r : (Except String Unit) × gzIT × gzJT), fR_X3_readAtom φ t1 k a2 I J = some r → gzC g 0 e mX3_readAtom [.inr (.inr (0, 38)), .inr (.inr (t1, 20)), .inl a2] (gzN, gzR0, I, J) (gzE (gzRV r.1) (gzN, gzR0, r.2.1, r.2.2)) := fun e he => ih e (by omega)
    unfold fR_X3_readAtom at h
    refine gzC_of (by decide +kernel) (Nat.le_of_ble_eq_true rfl) (loc := [some (.inr (.inr (0, 38))), some (.inr (.inr (t1, 20))), some (.inl a2), none]) rfl ?_
    have z_0_38 : gzOk 0 38 gzN := gzOk_of (by decide)
    have z_0_33 : gzOk 0 33 gzN := gzOk_of (by decide)
    refine gz_iload_n (pc := 0) dX3_readAtom_0 rfl ?_
    refine gz_bipush (pc := 1) dX3_readAtom_1 (v := 6) (by decide) ?_
    refine gz_ic_lt (pc := 3) (tgt := 39) dX3_readAtom_3 (by decide) (fun c => ?_) (fun c => ?_)
    · replace h := gz_ifp c h
      exact p_X3_readAtom_39 ht1 hR a2 I J h
    · replace h := gz_ifn c h
      refine gz_aload_n (pc := 6) dX3_readAtom_6 rfl ?_
      refine gr_X3_9 (pc := 7) dX3_readAtom_7 z_0_38 rfl ?_
      refine gz_sipush (pc := 10) dX3_readAtom_10 (v := 1027) (by decide) ?_
      refine gz_V (zy := mX7_is) (zc := 0) (pc := 13) [.inl 1027] rfl dX3_readAtom_13 lkX3_21 MvX7_is rfl z_0_33 rfl rfl rfl (Or.inl rfl) (fun h => h) (by exact Nat.le_of_ble_eq_true rfl) ?_
      obtain ⟨v2, e1, h⟩ := gz_bd h
      refine gz_useI (c_X7_is e1) ?_
      refine gz_if_ne (pc := 16) (tgt := 32) dX3_readAtom_16 (by decide) (fun c => ?_) (fun c => ?_)
      · replace h := gz_ifp c h
        exact p_X3_readAtom_32 ht1 hR a2 I J h
      · replace h := gz_ifn (fun q => q c) h
        refine gz_aload_n (pc := 19) dX3_readAtom_19 rfl ?_
        refine gr_X3_9 (pc := 20) dX3_readAtom_20 z_0_38 rfl ?_
        refine gz_sipush (pc := 23) dX3_readAtom_23 (v := 2040) (by decide) ?_
        refine gz_V (zy := mX7_is) (zc := 0) (pc := 26) [.inl 2040] rfl dX3_readAtom_26 lkX3_21 MvX7_is rfl z_0_33 rfl rfl rfl (Or.inl rfl) (fun h => h) (by exact Nat.le_of_ble_eq_true rfl) ?_
        obtain ⟨v4, e3, h⟩ := gz_bd h
        refine gz_useI (c_X7_is e3) ?_
        refine gz_if_eq (pc := 29) (tgt := 39) dX3_readAtom_29 (by decide) (fun c => ?_) (fun c => ?_)
        · replace h := gz_ifp c h
          exact p_X3_readAtom_39 ht1 hR a2 I J h
        · replace h := gz_ifn c h
          exact p_X3_readAtom_32 ht1 hR a2 I J h
def f_X3_readAtom (φ : Nat) (t1 : Nat) (a2 : Int32) (I : gzIT) (J : gzJT) : Option ((Except String Unit) × gzIT × gzJT) := fR_X3_readAtom φ t1 gzRf a2 I J
theorem c_X3_readAtom {g : gzG} {d φ : Nat} {t1 : Nat} (ht1 : t1 < 3) {a2 : Int32} {I : gzIT} {J : gzJT} {r : (Except String Unit) × gzIT × gzJT} (h : f_X3_readAtom φ t1 a2 I J = some r) : gzC g 0 (d + 33) mX3_readAtom [.inr (.inr (0, 38)), .inr (.inr (t1, 20)), .inl a2] (gzN, gzR0, I, J) (gzE (gzRV r.1) (gzN, gzR0, r.2.1, r.2.2)) := cR_X3_readAtom ht1 gzRf _ (by unfold gzRf; omega) _ _ _ _ h
def f_X3_readCondition (φ : Nat) (t1 : Nat) (a2 : Int32) (I : gzIT) (J : gzJT) : Option ((Except String Unit) × gzIT × gzJT) := fR_X3_readCondition φ t1 (fR_X3_readAtom φ t1 gzRf) a2 I J
theorem c_X3_readCondition {g : gzG} {d φ : Nat} {t1 : Nat} (ht1 : t1 < 3) {a2 : Int32} {I : gzIT} {J : gzJT} {r : (Except String Unit) × gzIT × gzJT} (h : f_X3_readCondition φ t1 a2 I J = some r) : gzC g 0 (d + 35) mX3_readCondition [.inr (.inr (0, 38)), .inr (.inr (t1, 20)), .inl a2] (gzN, gzR0, I, J) (gzE (gzRV r.1) (gzN, gzR0, r.2.1, r.2.2)) := cR_X3_readCondition ht1 (d := d + 33) (fun e he => cR_X3_readAtom ht1 gzRf e (by unfold gzRf; omega)) h
/-! X7_number: number -/
def f_X7_number (a1 : Int32) (I : gzIT) (J : gzJT) : Option ((Except String Int32) × gzIT × gzJT) := Option.bind (f_X7_among 0 (a1 + 1) I J) (fun v2 => gzEx v2.1 (fun E => some (.error E, v2.2.1, v2.2.2)) (fun w4 => some (.ok w4, v2.2.1, v2.2.2)))
set_option maxRecDepth 20000 in
theorem c_X7_number {g : gzG} {d : Nat} {a1 : Int32} {I : gzIT} {J : gzJT} {r : (Except String Int32) × gzIT × gzJT} (h : f_X7_number a1 I J = some r) : gzC g 0 (d + 2) mX7_number [.inr (.inr (0, 33)), .inl a1] (gzN, gzR0, I, J) (gzE (gzRI r.1) (gzN, gzR0, r.2.1, r.2.2)) := by
  unfold f_X7_number at h
  refine gzC_of (by decide +kernel) (Nat.le_of_ble_eq_true rfl) (loc := [some (.inr (.inr (0, 33))), some (.inl a1)]) rfl ?_
  have z_0_33 : gzOk 0 33 gzN := gzOk_of (by decide)
  refine gz_aload_n (pc := 0) dX7_number_0 rfl ?_
  refine gz_iconst (pc := 1) dX7_number_1 (v := 0) (by decide) ?_
  refine gz_iload_n (pc := 2) dX7_number_2 rfl ?_
  refine gz_iconst (pc := 3) dX7_number_3 (v := 1) (by decide) ?_
  refine gz_iadd (pc := 4) dX7_number_4  ?_
  refine gz_V (zy := mX7_among) (zc := 0) (pc := 5) [.inl 0, .inl (a1 + 1)] rfl dX7_number_5 lkX7_89 MvX7_among rfl z_0_33 rfl rfl rfl (Or.inl rfl) (fun h => h) (by exact Nat.le_of_ble_eq_true rfl) ?_
  obtain ⟨v2, e1, h⟩ := gz_bd h
  cases x3 : v2.1 with
  | error E => replace h := gz_exe x3 h; cases h; exact gz_useTI x3 (c_X7_among e1) ⟨by simp [gzRI, gzRJ, gzRV], rfl⟩
  | ok w4 =>
    replace h := gz_exo x3 h
    refine gz_useOI x3 (c_X7_among e1) ?_
    cases h; exact gz_iret (pc := 8) dX7_number_8 rfl ⟨rfl, rfl⟩
/-! X3_readLine: readLine -/
def f_X3_readLine (φ : Nat) (t1 : Nat) (I : gzIT) (J : gzJT) : Option ((Except String Unit) × gzIT × gzJT) := Option.bind (f_X7_among 1023 3 I J) (fun v2 => gzEx v2.1 (fun E => some (.error E, v2.2.1, v2.2.2)) (fun w4 => Option.bind (f_X7_number 100 v2.2.1 v2.2.2) (fun v6 => gzEx v6.1 (fun E => some (.error E, v6.2.1, v6.2.2)) (fun w8 => Option.bind (f_X7_take 1026 v6.2.1 v6.2.2) (fun v10 => if v10.1 = 0 then (Option.bind (f_X2_addLine t1 (1023 + w4) w8 (v6.2.1 t1 20 8) v10.2.1 v10.2.2) (fun v12 => some (.ok (), v12.2.1, v12.2.2))) else (Option.bind (f_X3_readCondition φ t1 0 v10.2.1 v10.2.2) (fun v14 => gzEx v14.1 (fun E => some (.error E, v14.2.1, v14.2.2)) (fun w16 => Option.bind (f_X2_addLine t1 (1023 + w4) w8 (v6.2.1 t1 20 8) v14.2.1 v14.2.2) (fun v18 => some (.ok (), v18.2.1, v18.2.2))))))))))
set_option maxRecDepth 20000 in
theorem c_X3_readLine {g : gzG} {d φ : Nat} {t1 : Nat} (ht1 : t1 < 3) {I : gzIT} {J : gzJT} {r : (Except String Unit) × gzIT × gzJT} (h : f_X3_readLine φ t1 I J = some r) : gzC g 0 (d + 36) mX3_readLine [.inr (.inr (0, 38)), .inr (.inr (t1, 20))] (gzN, gzR0, I, J) (gzE (gzRV r.1) (gzN, gzR0, r.2.1, r.2.2)) := by
  unfold f_X3_readLine at h
  refine gzC_of (by decide +kernel) (Nat.le_of_ble_eq_true rfl) (loc := [some (.inr (.inr (0, 38))), some (.inr (.inr (t1, 20))), none, none, none]) rfl ?_
  have z_0_38 : gzOk 0 38 gzN := gzOk_of (by decide)
  have z_0_33 : gzOk 0 33 gzN := gzOk_of (by decide)
  have z_t1_20 : gzOk t1 20 gzN := gzOk_of ht1
  refine gz_sipush (pc := 0) dX3_readLine_0 (v := 1023) (by decide) ?_
  refine gz_aload_n (pc := 3) dX3_readLine_3 rfl ?_
  refine gr_X3_9 (pc := 4) dX3_readLine_4 z_0_38 rfl ?_
  refine gz_sipush (pc := 7) dX3_readLine_7 (v := 1023) (by decide) ?_
  refine gz_iconst (pc := 10) dX3_readLine_10 (v := 3) (by decide) ?_
  refine gz_V (zy := mX7_among) (zc := 0) (pc := 11) [.inl 1023, .inl 3] rfl dX3_readLine_11 lkX3_38 MvX7_among rfl z_0_33 rfl rfl rfl (Or.inl rfl) (fun h => h) (by exact Nat.le_of_ble_eq_true rfl) ?_
  obtain ⟨v2, e1, h⟩ := gz_bd h
  cases x3 : v2.1 with
  | error E => replace h := gz_exe x3 h; cases h; exact gz_useTI x3 (c_X7_among e1) ⟨by simp [gzRI, gzRJ, gzRV], rfl⟩
  | ok w4 =>
    replace h := gz_exo x3 h
    refine gz_useOI x3 (c_X7_among e1) ?_
    refine gz_iadd (pc := 14) dX3_readLine_14  ?_
    refine gz_istore_n (pc := 15) dX3_readLine_15 (by decide) rfl (loc2 := [some (.inr (.inr (0, 38))), some (.inr (.inr (t1, 20))), some (.inl (1023 + w4)), none, none]) rfl ?_
    refine gz_aload_n (pc := 16) dX3_readLine_16 rfl ?_
    refine gr_X3_9 (pc := 17) dX3_readLine_17 z_0_38 rfl ?_
    refine gz_bipush (pc := 20) dX3_readLine_20 (v := 100) (by decide) ?_
    refine gz_V (zy := mX7_number) (zc := 0) (pc := 22) [.inl 100] rfl dX3_readLine_22 lkX3_42 MvX7_number rfl z_0_33 rfl rfl rfl (Or.inl rfl) (fun h => h) (by exact Nat.le_of_ble_eq_true rfl) ?_
    obtain ⟨v6, e5, h⟩ := gz_bd h
    cases x7 : v6.1 with
    | error E => replace h := gz_exe x7 h; cases h; exact gz_useTI x7 (c_X7_number e5) ⟨by simp [gzRI, gzRJ, gzRV], rfl⟩
    | ok w8 =>
      replace h := gz_exo x7 h
      refine gz_useOI x7 (c_X7_number e5) ?_
      refine gz_istore_n (pc := 25) dX3_readLine_25 (by decide) rfl (loc2 := [some (.inr (.inr (0, 38))), some (.inr (.inr (t1, 20))), some (.inl (1023 + w4)), some (.inl w8), none]) rfl ?_
      refine gz_aload_n (pc := 26) dX3_readLine_26 rfl ?_
      refine gi_X3_46 (pc := 27) dX3_readLine_27 (v := v6.2.1 t1 20 8) z_t1_20 rfl rfl ?_
      refine gz_istore (pc := 30) dX3_readLine_30 (by decide) rfl (loc2 := [some (.inr (.inr (0, 38))), some (.inr (.inr (t1, 20))), some (.inl (1023 + w4)), some (.inl w8), some (.inl (v6.2.1 t1 20 8))]) rfl ?_
      refine gz_aload_n (pc := 32) dX3_readLine_32 rfl ?_
      refine gr_X3_9 (pc := 33) dX3_readLine_33 z_0_38 rfl ?_
      refine gz_sipush (pc := 36) dX3_readLine_36 (v := 1026) (by decide) ?_
      refine gz_V (zy := mX7_take) (zc := 0) (pc := 39) [.inl 1026] rfl dX3_readLine_39 lkX3_49 MvX7_take rfl z_0_33 rfl rfl rfl (Or.inl rfl) (fun h => h) (by exact Nat.le_of_ble_eq_true rfl) ?_
      obtain ⟨v10, e9, h⟩ := gz_bd h
      refine gz_useI (c_X7_take e9) ?_
      refine gz_if_eq (pc := 42) (tgt := 51) dX3_readLine_42 (by decide) (fun c => ?_) (fun c => ?_)
      · replace h := gz_ifp c h
        refine gz_aload_n (pc := 51) dX3_readLine_51 rfl ?_
        refine gz_iload_n (pc := 52) dX3_readLine_52 rfl ?_
        refine gz_iload_n (pc := 53) dX3_readLine_53 rfl ?_
        refine gz_iload (pc := 54) dX3_readLine_54 rfl ?_
        refine gz_V (zy := mX2_addLine) (zc := 0) (pc := 56) [.inl (1023 + w4), .inl w8, .inl (v6.2.1 t1 20 8)] rfl dX3_readLine_56 lkX3_56 MvX2_addLine rfl z_t1_20 rfl rfl rfl (Or.inl rfl) (fun h => h) (by exact Nat.le_of_ble_eq_true rfl) ?_
        obtain ⟨v12, e11, h⟩ := gz_bd h
        refine gz_useV (c_X2_addLine ht1 e11) ?_
        cases h; exact gz_vret (pc := 59) dX3_readLine_59 rfl ⟨rfl, rfl⟩
      · replace h := gz_ifn c h
        refine gz_aload_n (pc := 45) dX3_readLine_45 rfl ?_
        refine gz_aload_n (pc := 46) dX3_readLine_46 rfl ?_
        refine gz_iconst (pc := 47) dX3_readLine_47 (v := 0) (by decide) ?_
        refine gz_V (zy := mX3_readCondition) (zc := 0) (pc := 48) [.inr (.inr (t1, 20)), .inl 0] rfl dX3_readLine_48 lkX3_52 MvX3_readCondition rfl z_0_38 rfl rfl rfl (Or.inl rfl) (fun h => h) (by exact Nat.le_of_ble_eq_true rfl) ?_
        obtain ⟨v14, e13, h⟩ := gz_bd h
        cases x15 : v14.1 with
        | error E => replace h := gz_exe x15 h; cases h; exact gz_useTV x15 (c_X3_readCondition ht1 e13) ⟨by simp [gzRI, gzRJ, gzRV], rfl⟩
        | ok w16 =>
          replace h := gz_exo x15 h
          refine gz_useOV x15 (c_X3_readCondition ht1 e13) ?_
          refine gz_aload_n (pc := 51) dX3_readLine_51 rfl ?_
          refine gz_iload_n (pc := 52) dX3_readLine_52 rfl ?_
          refine gz_iload_n (pc := 53) dX3_readLine_53 rfl ?_
          refine gz_iload (pc := 54) dX3_readLine_54 rfl ?_
          refine gz_V (zy := mX2_addLine) (zc := 0) (pc := 56) [.inl (1023 + w4), .inl w8, .inl (v6.2.1 t1 20 8)] rfl dX3_readLine_56 lkX3_56 MvX2_addLine rfl z_t1_20 rfl rfl rfl (Or.inl rfl) (fun h => h) (by exact Nat.le_of_ble_eq_true rfl) ?_
          obtain ⟨v18, e17, h⟩ := gz_bd h
          refine gz_useV (c_X2_addLine ht1 e17) ?_
          cases h; exact gz_vret (pc := 59) dX3_readLine_59 rfl ⟨rfl, rfl⟩
/-! X3_read: read -/
def gP_X3_read_20 (g : gzG) (t1 : Nat) (d : Nat) (r : (Except String Unit) × gzIT × gzJT) (x2 : Int32) (I : gzIT) (J : gzJT) : Prop := gzX g 0 (d + 37) mX3_read 20 [some (.inr (.inr (0, 38))), some (.inr (.inr (t1, 20))), some (.inl x2)] [] (gzN, gzR0, I, J) 0 (gzE (gzRV r.1) (gzN, gzR0, r.2.1, r.2.2))
def f_X3_read_20 (φ : Nat) (t1 : Nat) : Nat → Int32 → gzIT → gzJT → Option ((Except String Unit) × gzIT × gzJT)
  | 0, _, _, _ => none
  | k + 1, x2, I, J => if 12 ≤ x2 then (Option.bind (f_X7_wrong I J) (fun v4 => gzEx v4.1 (fun E => some (.error E, v4.2.1, v4.2.2)) (fun w6 => some (.ok (), v4.2.1, v4.2.2)))) else (Option.bind (f_X3_readLine φ t1 I J) (fun v8 => gzEx v8.1 (fun E => some (.error E, v8.2.1, v8.2.2)) (fun w10 => Option.bind (f_X7_is v8.2.1 (-3)) (fun v12 => if v12 = 0 then (Option.bind (f_X7_need 2059 v8.2.1 v8.2.2) (fun v14 => gzEx v14.1 (fun E => some (.error E, v14.2.1, v14.2.2)) (fun w16 => f_X3_read_20 φ t1 k (x2 + 1) v14.2.1 v14.2.2))) else (some (.ok (), v8.2.1, v8.2.2))))))
set_option maxRecDepth 20000 in
theorem p_X3_read_20 {g : gzG} {d φ : Nat} {t1 : Nat} (ht1 : t1 < 3) {r : (Except String Unit) × gzIT × gzJT} : ∀ (k : Nat) (x2 : Int32) (I : gzIT) (J : gzJT), f_X3_read_20 φ t1 k x2 I J = some r → gP_X3_read_20 g t1 d r x2 I J := by
  intro k; induction k with
  | zero => intro x2 I J h; cases h
  | succ k ih =>
    intro x2 I J h
    unfold f_X3_read_20 at h
    unfold gP_X3_read_20
    have z_0_38 : gzOk 0 38 gzN := gzOk_of (by decide)
    have z_0_33 : gzOk 0 33 gzN := gzOk_of (by decide)
    refine gz_iload_n (pc := 20) dX3_read_20 rfl ?_
    refine gz_bipush (pc := 21) dX3_read_21 (v := 12) (by decide) ?_
    refine gz_ic_ge (pc := 23) (tgt := 60) dX3_read_23 (by decide) (fun c => ?_) (fun c => ?_)
    · replace h := gz_ifp c h
      refine gz_aload_n (pc := 60) dX3_read_60 rfl ?_
      refine gr_X3_9 (pc := 61) dX3_read_61 z_0_38 rfl ?_
      refine gz_V (zy := mX7_wrong) (zc := 0) (pc := 64) [] rfl dX3_read_64 lkX3_35 MvX7_wrong rfl z_0_33 rfl rfl rfl (Or.inl rfl) (fun h => h) (by exact Nat.le_of_ble_eq_true rfl) ?_
      obtain ⟨v4, e3, h⟩ := gz_bd h
      cases x5 : v4.1 with
      | error E => replace h := gz_exe x5 h; cases h; exact gz_useTV x5 (c_X7_wrong e3) ⟨by simp [gzRI, gzRJ, gzRV], rfl⟩
      | ok w6 =>
        replace h := gz_exo x5 h
        refine gz_useOV x5 (c_X7_wrong e3) ?_
        cases h; exact gz_vret (pc := 67) dX3_read_67 rfl ⟨rfl, rfl⟩
    · replace h := gz_ifn c h
      refine gz_aload_n (pc := 26) dX3_read_26 rfl ?_
      refine gz_aload_n (pc := 27) dX3_read_27 rfl ?_
      refine gz_V (zy := mX3_readLine) (zc := 0) (pc := 28) [.inr (.inr (t1, 20))] rfl dX3_read_28 lkX3_27 MvX3_readLine rfl z_0_38 rfl rfl rfl (Or.inl rfl) (fun h => h) (by exact Nat.le_of_ble_eq_true rfl) ?_
      obtain ⟨v8, e7, h⟩ := gz_bd h
      cases x9 : v8.1 with
      | error E => replace h := gz_exe x9 h; cases h; exact gz_useTV x9 (c_X3_readLine ht1 e7) ⟨by simp [gzRI, gzRJ, gzRV], rfl⟩
      | ok w10 =>
        replace h := gz_exo x9 h
        refine gz_useOV x9 (c_X3_readLine ht1 e7) ?_
        refine gz_aload_n (pc := 31) dX3_read_31 rfl ?_
        refine gr_X3_9 (pc := 32) dX3_read_32 z_0_38 rfl ?_
        refine gz_bipush (pc := 35) dX3_read_35 (v := (-3)) (by decide) ?_
        refine gz_V (zy := mX7_is) (zc := 0) (pc := 37) [.inl (-3)] rfl dX3_read_37 lkX3_21 MvX7_is rfl z_0_33 rfl rfl rfl (Or.inl rfl) (fun h => h) (by exact Nat.le_of_ble_eq_true rfl) ?_
        obtain ⟨v12, e11, h⟩ := gz_bd h
        refine gz_useI (c_X7_is e11) ?_
        refine gz_if_eq (pc := 40) (tgt := 44) dX3_read_40 (by decide) (fun c => ?_) (fun c => ?_)
        · replace h := gz_ifp c h
          refine gz_aload_n (pc := 44) dX3_read_44 rfl ?_
          refine gr_X3_9 (pc := 45) dX3_read_45 z_0_38 rfl ?_
          refine gz_sipush (pc := 48) dX3_read_48 (v := 2059) (by decide) ?_
          refine gz_V (zy := mX7_need) (zc := 0) (pc := 51) [.inl 2059] rfl dX3_read_51 lkX3_31 MvX7_need rfl z_0_33 rfl rfl rfl (Or.inl rfl) (fun h => h) (by exact Nat.le_of_ble_eq_true rfl) ?_
          obtain ⟨v14, e13, h⟩ := gz_bd h
          cases x15 : v14.1 with
          | error E => replace h := gz_exe x15 h; cases h; exact gz_useTV x15 (c_X7_need e13) ⟨by simp [gzRI, gzRJ, gzRV], rfl⟩
          | ok w16 =>
            replace h := gz_exo x15 h
            refine gz_useOV x15 (c_X7_need e13) ?_
            refine gz_iinc (pc := 54) dX3_read_54 (x := x2) (v := x2 + 1) rfl (by rw [show Int32.ofInt 1 = 1 by decide]) (by decide) rfl (loc2 := [some (.inr (.inr (0, 38))), some (.inr (.inr (t1, 20))), some (.inl (x2 + 1))]) rfl ?_
            refine gz_goto (pc := 57) (tgt := 20) dX3_read_57 (by decide) ?_
            exact ih (x2 + 1) v14.2.1 v14.2.2 h
        · replace h := gz_ifn c h
          cases h; exact gz_vret (pc := 43) dX3_read_43 rfl ⟨rfl, rfl⟩
def f_X3_read (φ : Nat) (t1 : Nat) (I : gzIT) (J : gzJT) : Option ((Except String Unit) × gzIT × gzJT) := Option.bind (f_X7_is (gz_ui I t1 20 7 0) (-3)) (fun v2 => if v2 = 0 then (f_X3_read_20 φ t1 φ 0 (gz_ui I t1 20 7 0) J) else (some (.ok (), gz_ui I t1 20 7 0, J)))
set_option maxRecDepth 20000 in
theorem c_X3_read {g : gzG} {d φ : Nat} {t1 : Nat} (ht1 : t1 < 3) {I : gzIT} {J : gzJT} {r : (Except String Unit) × gzIT × gzJT} (h : f_X3_read φ t1 I J = some r) : gzC g 0 (d + 37) mX3_read [.inr (.inr (0, 38)), .inr (.inr (t1, 20))] (gzN, gzR0, I, J) (gzE (gzRV r.1) (gzN, gzR0, r.2.1, r.2.2)) := by
  unfold f_X3_read at h
  refine gzC_of (by decide +kernel) (Nat.le_of_ble_eq_true rfl) (loc := [some (.inr (.inr (0, 38))), some (.inr (.inr (t1, 20))), none]) rfl ?_
  have z_t1_20 : gzOk t1 20 gzN := gzOk_of ht1
  have z_0_38 : gzOk 0 38 gzN := gzOk_of (by decide)
  have z_0_33 : gzOk 0 33 gzN := gzOk_of (by decide)
  refine gz_aload_n (pc := 0) dX3_read_0 rfl ?_
  refine gz_iconst (pc := 1) dX3_read_1 (v := 0) (by decide) ?_
  refine gp_X3_15 (pc := 2) dX3_read_2 z_t1_20 rfl ?_
  refine gz_aload_n (pc := 5) dX3_read_5 rfl ?_
  refine gr_X3_9 (pc := 6) dX3_read_6 z_0_38 rfl ?_
  refine gz_bipush (pc := 9) dX3_read_9 (v := (-3)) (by decide) ?_
  refine gz_V (zy := mX7_is) (zc := 0) (pc := 11) [.inl (-3)] rfl dX3_read_11 lkX3_21 MvX7_is rfl z_0_33 rfl rfl rfl (Or.inl rfl) (fun h => h) (by exact Nat.le_of_ble_eq_true rfl) ?_
  obtain ⟨v2, e1, h⟩ := gz_bd h
  refine gz_useI (c_X7_is e1) ?_
  refine gz_if_eq (pc := 14) (tgt := 18) dX3_read_14 (by decide) (fun c => ?_) (fun c => ?_)
  · replace h := gz_ifp c h
    refine gz_iconst (pc := 18) dX3_read_18 (v := 0) (by decide) ?_
    refine gz_istore_n (pc := 19) dX3_read_19 (by decide) rfl (loc2 := [some (.inr (.inr (0, 38))), some (.inr (.inr (t1, 20))), some (.inl 0)]) rfl ?_
    exact p_X3_read_20 ht1 φ 0 (gz_ui I t1 20 7 0) J h
  · replace h := gz_ifn c h
    cases h; exact gz_vret (pc := 17) dX3_read_17 rfl ⟨rfl, rfl⟩
/-! X4_copyFrom: copyFrom -/
def f_X4_copyFrom (t : Nat) (t1 : Nat) (I : gzIT) (J : gzJT) : Option (Unit × gzIT × gzJT) := Option.bind (f_X11_copy t1 16 240 t 16 240 I J) (fun v2 => some ((), gz_ui (gz_ui v2.2.1 t 15 1 (v2.2.1 t1 15 1)) t 15 2 ((gz_ui v2.2.1 t 15 1 (v2.2.1 t1 15 1)) t1 15 2), v2.2.2))
set_option maxRecDepth 20000 in
theorem c_X4_copyFrom {g : gzG} {d : Nat} {t : Nat} {t1 : Nat} (ht : t < 15) (ht1 : t1 < 15) {I : gzIT} {J : gzJT} {r : Unit × gzIT × gzJT} (h : f_X4_copyFrom t t1 I J = some r) : gzC g 0 (d + 1) mX4_copyFrom [.inr (.inr (t, 15)), .inr (.inr (t1, 15))] (gzN, gzR0, I, J) (gzE (.ok none) (gzN, gzR0, r.2.1, r.2.2)) := by
  unfold f_X4_copyFrom at h
  refine gzC_of (by decide +kernel) (Nat.le_of_ble_eq_true rfl) (loc := [some (.inr (.inr (t, 15))), some (.inr (.inr (t1, 15)))]) rfl ?_
  have z_t1_15 : gzOk t1 15 gzN := gzOk_of ht1
  have z_t_15 : gzOk t 15 gzN := gzOk_of ht
  have z_t1_16 : gzOk t1 16 gzN := gzOk_of ht1
  have z_t_16 : gzOk t 16 gzN := gzOk_of ht
  refine gz_aload_n (pc := 0) dX4_copyFrom_0 rfl ?_
  refine gr_X4_9 (pc := 1) dX4_copyFrom_1 z_t1_15 rfl ?_
  refine gz_aload_n (pc := 4) dX4_copyFrom_4 rfl ?_
  refine gr_X4_9 (pc := 5) dX4_copyFrom_5 z_t_15 rfl ?_
  refine gz_SN (zy := mX11_copy) (zc := 0) (pc := 8) [.inr (.inr (t1, 16)), .inr (.inr (t, 16))] rfl dX4_copyFrom_8 lnX4_22 MsX11_copy rfl (Or.inl rfl) (fun h => h) (by exact Nat.le_of_ble_eq_true rfl) ?_
  obtain ⟨v2, e1, h⟩ := gz_bd h
  refine gz_useV (c_X11_copy z_t1_16 rfl z_t_16 rfl e1) ?_
  refine gz_aload_n (pc := 11) dX4_copyFrom_11 rfl ?_
  refine gz_aload_n (pc := 12) dX4_copyFrom_12 rfl ?_
  refine gi_X4_15 (pc := 13) dX4_copyFrom_13 (v := v2.2.1 t1 15 1) z_t1_15 rfl rfl ?_
  refine gp_X4_15 (pc := 16) dX4_copyFrom_16 z_t_15 rfl ?_
  refine gz_aload_n (pc := 19) dX4_copyFrom_19 rfl ?_
  refine gz_aload_n (pc := 20) dX4_copyFrom_20 rfl ?_
  refine gi_X4_19 (pc := 21) dX4_copyFrom_21 (v := (gz_ui v2.2.1 t 15 1 (v2.2.1 t1 15 1)) t1 15 2) z_t1_15 rfl rfl ?_
  refine gp_X4_19 (pc := 24) dX4_copyFrom_24 z_t_15 rfl ?_
  cases h; exact gz_vret (pc := 27) dX4_copyFrom_27 rfl ⟨rfl, rfl⟩
/-! X4_put: put -/
def f_X4_put (t : Nat) (a1 : Int32) (a2 : Int32) (a3 : Int32) (a4 : Int32) (I : gzIT) (J : gzJT) : Option (Unit × gzIT × gzJT) := Option.bind (f_X11_write t 16 240 ((I t 15 2) * 4) a1 I J) (fun v2 => Option.bind (f_X11_write t 16 240 (((I t 15 2) * 4) + 1) a2 v2.2.1 v2.2.2) (fun v4 => Option.bind (f_X11_write t 16 240 (((I t 15 2) * 4) + 2) a3 v4.2.1 v4.2.2) (fun v6 => Option.bind (f_X11_write t 16 240 (((I t 15 2) * 4) + 3) a4 v6.2.1 v6.2.2) (fun v8 => some ((), gz_ui (gz_ui v8.2.1 t 15 2 (((v8.2.1 t 15 2) + 1) - ((v8.2.1 t 15 2) + 1) / 60 * 60)) t 15 1 (if (v8.2.1 t 15 1) + 1 < 60 then (v8.2.1 t 15 1) + 1 else 60), v8.2.2)))))
set_option maxRecDepth 20000 in
theorem c_X4_put {g : gzG} {d : Nat} {t : Nat} (ht : t < 15) {a1 : Int32} {a2 : Int32} {a3 : Int32} {a4 : Int32} {I : gzIT} {J : gzJT} {r : Unit × gzIT × gzJT} (h : f_X4_put t a1 a2 a3 a4 I J = some r) : gzC g 0 (d + 1) mX4_put [.inr (.inr (t, 15)), .inl a1, .inl a2, .inl a3, .inl a4] (gzN, gzR0, I, J) (gzE (.ok none) (gzN, gzR0, r.2.1, r.2.2)) := by
  unfold f_X4_put at h
  refine gzC_of (by decide +kernel) (Nat.le_of_ble_eq_true rfl) (loc := [some (.inr (.inr (t, 15))), some (.inl a1), some (.inl a2), some (.inl a3), some (.inl a4), none]) rfl ?_
  have z_t_15 : gzOk t 15 gzN := gzOk_of ht
  have z_t_16 : gzOk t 16 gzN := gzOk_of ht
  refine gz_aload_n (pc := 0) dX4_put_0 rfl ?_
  refine gi_X4_19 (pc := 1) dX4_put_1 (v := I t 15 2) z_t_15 rfl rfl ?_
  refine gz_iconst (pc := 4) dX4_put_4 (v := 4) (by decide) ?_
  refine gz_imul (pc := 5) dX4_put_5  ?_
  refine gz_istore (pc := 6) dX4_put_6 (by decide) rfl (loc2 := [some (.inr (.inr (t, 15))), some (.inl a1), some (.inl a2), some (.inl a3), some (.inl a4), some (.inl ((I t 15 2) * 4))]) rfl ?_
  refine gz_aload_n (pc := 8) dX4_put_8 rfl ?_
  refine gr_X4_9 (pc := 9) dX4_put_9 z_t_15 rfl ?_
  refine gz_iload (pc := 12) dX4_put_12 rfl ?_
  refine gz_iload_n (pc := 14) dX4_put_14 rfl ?_
  refine gz_SN (zy := mX11_write) (zc := 0) (pc := 15) [.inr (.inr (t, 16)), .inl ((I t 15 2) * 4), .inl a1] rfl dX4_put_15 lnX4_26 MsX11_write rfl (Or.inl rfl) (fun h => h) (by exact Nat.le_of_ble_eq_true rfl) ?_
  obtain ⟨v2, e1, h⟩ := gz_bd h
  refine gz_useV (c_X11_write z_t_16 rfl e1) ?_
  refine gz_aload_n (pc := 18) dX4_put_18 rfl ?_
  refine gr_X4_9 (pc := 19) dX4_put_19 z_t_15 rfl ?_
  refine gz_iload (pc := 22) dX4_put_22 rfl ?_
  refine gz_iconst (pc := 24) dX4_put_24 (v := 1) (by decide) ?_
  refine gz_iadd (pc := 25) dX4_put_25  ?_
  refine gz_iload_n (pc := 26) dX4_put_26 rfl ?_
  refine gz_SN (zy := mX11_write) (zc := 0) (pc := 27) [.inr (.inr (t, 16)), .inl (((I t 15 2) * 4) + 1), .inl a2] rfl dX4_put_27 lnX4_26 MsX11_write rfl (Or.inl rfl) (fun h => h) (by exact Nat.le_of_ble_eq_true rfl) ?_
  obtain ⟨v4, e3, h⟩ := gz_bd h
  refine gz_useV (c_X11_write z_t_16 rfl e3) ?_
  refine gz_aload_n (pc := 30) dX4_put_30 rfl ?_
  refine gr_X4_9 (pc := 31) dX4_put_31 z_t_15 rfl ?_
  refine gz_iload (pc := 34) dX4_put_34 rfl ?_
  refine gz_iconst (pc := 36) dX4_put_36 (v := 2) (by decide) ?_
  refine gz_iadd (pc := 37) dX4_put_37  ?_
  refine gz_iload_n (pc := 38) dX4_put_38 rfl ?_
  refine gz_SN (zy := mX11_write) (zc := 0) (pc := 39) [.inr (.inr (t, 16)), .inl (((I t 15 2) * 4) + 2), .inl a3] rfl dX4_put_39 lnX4_26 MsX11_write rfl (Or.inl rfl) (fun h => h) (by exact Nat.le_of_ble_eq_true rfl) ?_
  obtain ⟨v6, e5, h⟩ := gz_bd h
  refine gz_useV (c_X11_write z_t_16 rfl e5) ?_
  refine gz_aload_n (pc := 42) dX4_put_42 rfl ?_
  refine gr_X4_9 (pc := 43) dX4_put_43 z_t_15 rfl ?_
  refine gz_iload (pc := 46) dX4_put_46 rfl ?_
  refine gz_iconst (pc := 48) dX4_put_48 (v := 3) (by decide) ?_
  refine gz_iadd (pc := 49) dX4_put_49  ?_
  refine gz_iload (pc := 50) dX4_put_50 rfl ?_
  refine gz_SN (zy := mX11_write) (zc := 0) (pc := 52) [.inr (.inr (t, 16)), .inl (((I t 15 2) * 4) + 3), .inl a4] rfl dX4_put_52 lnX4_26 MsX11_write rfl (Or.inl rfl) (fun h => h) (by exact Nat.le_of_ble_eq_true rfl) ?_
  obtain ⟨v8, e7, h⟩ := gz_bd h
  refine gz_useV (c_X11_write z_t_16 rfl e7) ?_
  refine gz_aload_n (pc := 55) dX4_put_55 rfl ?_
  refine gz_aload_n (pc := 56) dX4_put_56 rfl ?_
  refine gi_X4_19 (pc := 57) dX4_put_57 (v := v8.2.1 t 15 2) z_t_15 rfl rfl ?_
  refine gz_iconst (pc := 60) dX4_put_60 (v := 1) (by decide) ?_
  refine gz_iadd (pc := 61) dX4_put_61  ?_
  refine gz_bipush (pc := 62) dX4_put_62 (v := 60) (by decide) ?_
  refine gz_irem (pc := 64) dX4_put_64 (by decide) ?_
  refine gp_X4_19 (pc := 65) dX4_put_65 z_t_15 rfl ?_
  refine gz_aload_n (pc := 68) dX4_put_68 rfl ?_
  refine gz_bipush (pc := 69) dX4_put_69 (v := 60) (by decide) ?_
  refine gz_aload_n (pc := 71) dX4_put_71 rfl ?_
  refine gi_X4_15 (pc := 72) dX4_put_72 (v := v8.2.1 t 15 1) z_t_15 (gz_ui_k (by decide)) rfl ?_
  refine gz_iconst (pc := 75) dX4_put_75 (v := 1) (by decide) ?_
  refine gz_iadd (pc := 76) dX4_put_76  ?_
  refine gn_X4_30 (pc := 77) dX4_put_77 (Nat.le_of_ble_eq_true rfl) rfl ?_
  refine gp_X4_15 (pc := 80) dX4_put_80 z_t_15 rfl ?_
  cases h; exact gz_vret (pc := 83) dX4_put_83 rfl ⟨rfl, rfl⟩
/-! X4_read: read -/
def f_X4_read (t : Nat) (I : gzIT) (a1 : Int32) (a2 : Int32) : Option Int32 := if a1 < 0 then (some (-1)) else (if a1 < I t 15 1 then (Option.bind (f_X11_cell t 16 240 I (((((((I t 15 2) + 60) - 1) - a1) - ((((I t 15 2) + 60) - 1) - a1) / 60 * 60) * 4) + a2)) (fun v3 => some v3)) else (some (-1)))
set_option maxRecDepth 20000 in
theorem c_X4_read {g : gzG} {d : Nat} {t : Nat} (ht : t < 15) {a1 : Int32} {a2 : Int32} {I : gzIT} {J : gzJT} {r : Int32} (h : f_X4_read t I a1 a2 = some r) : gzC g 0 (d + 1) mX4_read [.inr (.inr (t, 15)), .inl a1, .inl a2] (gzN, gzR0, I, J) (gzE (.ok (some (.inl r))) (gzN, gzR0, I, J)) := by
  unfold f_X4_read at h
  refine gzC_of (by decide +kernel) (Nat.le_of_ble_eq_true rfl) (loc := [some (.inr (.inr (t, 15))), some (.inl a1), some (.inl a2), none]) rfl ?_
  have z_t_15 : gzOk t 15 gzN := gzOk_of ht
  have z_t_16 : gzOk t 16 gzN := gzOk_of ht
  refine gz_iload_n (pc := 0) dX4_read_0 rfl ?_
  refine gz_if_lt (pc := 1) (tgt := 12) dX4_read_1 (by decide) (fun c => ?_) (fun c => ?_)
  · replace h := gz_ifp c h
    refine gz_iconst (pc := 12) dX4_read_12 (v := (-1)) (by decide) ?_
    cases h; exact gz_iret (pc := 13) dX4_read_13 rfl ⟨rfl, rfl⟩
  · replace h := gz_ifn c h
    refine gz_iload_n (pc := 4) dX4_read_4 rfl ?_
    refine gz_aload_n (pc := 5) dX4_read_5 rfl ?_
    refine gi_X4_15 (pc := 6) dX4_read_6 (v := I t 15 1) z_t_15 rfl rfl ?_
    refine gz_ic_lt (pc := 9) (tgt := 14) dX4_read_9 (by decide) (fun c => ?_) (fun c => ?_)
    · replace h := gz_ifp c h
      refine gz_aload_n (pc := 14) dX4_read_14 rfl ?_
      refine gi_X4_19 (pc := 15) dX4_read_15 (v := I t 15 2) z_t_15 rfl rfl ?_
      refine gz_bipush (pc := 18) dX4_read_18 (v := 60) (by decide) ?_
      refine gz_iadd (pc := 20) dX4_read_20  ?_
      refine gz_iconst (pc := 21) dX4_read_21 (v := 1) (by decide) ?_
      refine gz_isub (pc := 22) dX4_read_22  ?_
      refine gz_iload_n (pc := 23) dX4_read_23 rfl ?_
      refine gz_isub (pc := 24) dX4_read_24  ?_
      refine gz_bipush (pc := 25) dX4_read_25 (v := 60) (by decide) ?_
      refine gz_irem (pc := 27) dX4_read_27 (by decide) ?_
      refine gz_istore_n (pc := 28) dX4_read_28 (by decide) rfl (loc2 := [some (.inr (.inr (t, 15))), some (.inl a1), some (.inl a2), some (.inl (((((I t 15 2) + 60) - 1) - a1) - ((((I t 15 2) + 60) - 1) - a1) / 60 * 60))]) rfl ?_
      refine gz_aload_n (pc := 29) dX4_read_29 rfl ?_
      refine gr_X4_9 (pc := 30) dX4_read_30 z_t_15 rfl ?_
      refine gz_iload_n (pc := 33) dX4_read_33 rfl ?_
      refine gz_iconst (pc := 34) dX4_read_34 (v := 4) (by decide) ?_
      refine gz_imul (pc := 35) dX4_read_35  ?_
      refine gz_iload_n (pc := 36) dX4_read_36 rfl ?_
      refine gz_iadd (pc := 37) dX4_read_37  ?_
      refine gz_SN (zy := mX11_cell) (zc := 0) (pc := 38) [.inr (.inr (t, 16)), .inl (((((((I t 15 2) + 60) - 1) - a1) - ((((I t 15 2) + 60) - 1) - a1) / 60 * 60) * 4) + a2)] rfl dX4_read_38 lnX4_36 MsX11_cell rfl (Or.inl rfl) (fun h => h) (by exact Nat.le_of_ble_eq_true rfl) ?_
      obtain ⟨v3, e2, h⟩ := gz_bd h
      refine gz_useI (c_X11_cell z_t_16 rfl e2) ?_
      cases h; exact gz_iret (pc := 41) dX4_read_41 rfl ⟨rfl, rfl⟩
    · replace h := gz_ifn c h
      refine gz_iconst (pc := 12) dX4_read_12 (v := (-1)) (by decide) ?_
      cases h; exact gz_iret (pc := 13) dX4_read_13 rfl ⟨rfl, rfl⟩
/-! X4_rowsOf: rowsOf -/
def gP_X4_rowsOf_4 (g : gzG) (t : Nat) (d : Nat) (r : Int32) (x1 : Int32) (x2 : Int32) (x3 : Int32) (I : gzIT) (J : gzJT) : Prop := gzX g 0 (d + 2) mX4_rowsOf 4 [some (.inr (.inr (t, 15))), some (.inl x1), some (.inl x2), some (.inl x3)] [] (gzN, gzR0, I, J) 0 (gzE (.ok (some (.inl r))) (gzN, gzR0, I, J))
def f_X4_rowsOf_4 (φ : Nat) (t : Nat) (I : gzIT) : Nat → Int32 → Int32 → Int32 → Option Int32
  | 0, _, _, _ => none
  | k + 1, x1, x2, x3 => if I t 15 1 ≤ x3 then (some x2) else (Option.bind (f_X4_read t I x3 1) (fun v2 => if ¬ v2 = x1 then (f_X4_rowsOf_4 φ t I k x1 x2 (x3 + 1)) else (f_X4_rowsOf_4 φ t I k x1 (x2 + 1) (x3 + 1))))
set_option maxRecDepth 20000 in
theorem p_X4_rowsOf_4 {g : gzG} {d φ : Nat} {t : Nat} (ht : t < 15) {I : gzIT} {J : gzJT} {r : Int32} : ∀ (k : Nat) (x1 : Int32) (x2 : Int32) (x3 : Int32), f_X4_rowsOf_4 φ t I k x1 x2 x3 = some r → gP_X4_rowsOf_4 g t d r x1 x2 x3 I J := by
  intro k; induction k with
  | zero => intro x1 x2 x3 h; cases h
  | succ k ih =>
    intro x1 x2 x3 h
    unfold f_X4_rowsOf_4 at h
    unfold gP_X4_rowsOf_4
    have z_t_15 : gzOk t 15 gzN := gzOk_of ht
    refine gz_iload_n (pc := 4) dX4_rowsOf_4 rfl ?_
    refine gz_aload_n (pc := 5) dX4_rowsOf_5 rfl ?_
    refine gi_X4_15 (pc := 6) dX4_rowsOf_6 (v := I t 15 1) z_t_15 rfl rfl ?_
    refine gz_ic_ge (pc := 9) (tgt := 31) dX4_rowsOf_9 (by decide) (fun c => ?_) (fun c => ?_)
    · replace h := gz_ifp c h
      refine gz_iload_n (pc := 31) dX4_rowsOf_31 rfl ?_
      cases h; exact gz_iret (pc := 32) dX4_rowsOf_32 rfl ⟨rfl, rfl⟩
    · replace h := gz_ifn c h
      refine gz_aload_n (pc := 12) dX4_rowsOf_12 rfl ?_
      refine gz_iload_n (pc := 13) dX4_rowsOf_13 rfl ?_
      refine gz_iconst (pc := 14) dX4_rowsOf_14 (v := 1) (by decide) ?_
      refine gz_V (zy := mX4_read) (zc := 0) (pc := 15) [.inl x3, .inl 1] rfl dX4_rowsOf_15 lkX4_40 MvX4_read rfl z_t_15 rfl rfl rfl (Or.inl rfl) (fun h => h) (by exact Nat.le_of_ble_eq_true rfl) ?_
      obtain ⟨v2, e1, h⟩ := gz_bd h
      refine gz_useI (c_X4_read ht e1) ?_
      refine gz_iload_n (pc := 18) dX4_rowsOf_18 rfl ?_
      refine gz_ic_ne (pc := 19) (tgt := 25) dX4_rowsOf_19 (by decide) (fun c => ?_) (fun c => ?_)
      · replace h := gz_ifp c h
        refine gz_iinc (pc := 25) dX4_rowsOf_25 (x := x3) (v := x3 + 1) rfl (by rw [show Int32.ofInt 1 = 1 by decide]) (by decide) rfl (loc2 := [some (.inr (.inr (t, 15))), some (.inl x1), some (.inl x2), some (.inl (x3 + 1))]) rfl ?_
        refine gz_goto (pc := 28) (tgt := 4) dX4_rowsOf_28 (by decide) ?_
        exact ih x1 x2 (x3 + 1) h
      · replace h := gz_ifn (fun q => q c) h
        refine gz_iinc (pc := 22) dX4_rowsOf_22 (x := x2) (v := x2 + 1) rfl (by rw [show Int32.ofInt 1 = 1 by decide]) (by decide) rfl (loc2 := [some (.inr (.inr (t, 15))), some (.inl x1), some (.inl (x2 + 1)), some (.inl x3)]) rfl ?_
        refine gz_iinc (pc := 25) dX4_rowsOf_25 (x := x3) (v := x3 + 1) rfl (by rw [show Int32.ofInt 1 = 1 by decide]) (by decide) rfl (loc2 := [some (.inr (.inr (t, 15))), some (.inl x1), some (.inl (x2 + 1)), some (.inl (x3 + 1))]) rfl ?_
        refine gz_goto (pc := 28) (tgt := 4) dX4_rowsOf_28 (by decide) ?_
        exact ih x1 (x2 + 1) (x3 + 1) h
def f_X4_rowsOf (φ : Nat) (t : Nat) (I : gzIT) (a1 : Int32) : Option Int32 := f_X4_rowsOf_4 φ t I φ a1 0 0
set_option maxRecDepth 20000 in
theorem c_X4_rowsOf {g : gzG} {d φ : Nat} {t : Nat} (ht : t < 15) {a1 : Int32} {I : gzIT} {J : gzJT} {r : Int32} (h : f_X4_rowsOf φ t I a1 = some r) : gzC g 0 (d + 2) mX4_rowsOf [.inr (.inr (t, 15)), .inl a1] (gzN, gzR0, I, J) (gzE (.ok (some (.inl r))) (gzN, gzR0, I, J)) := by
  unfold f_X4_rowsOf at h
  refine gzC_of (by decide +kernel) (Nat.le_of_ble_eq_true rfl) (loc := [some (.inr (.inr (t, 15))), some (.inl a1), none, none]) rfl ?_
  refine gz_iconst (pc := 0) dX4_rowsOf_0 (v := 0) (by decide) ?_
  refine gz_istore_n (pc := 1) dX4_rowsOf_1 (by decide) rfl (loc2 := [some (.inr (.inr (t, 15))), some (.inl a1), some (.inl 0), none]) rfl ?_
  refine gz_iconst (pc := 2) dX4_rowsOf_2 (v := 0) (by decide) ?_
  refine gz_istore_n (pc := 3) dX4_rowsOf_3 (by decide) rfl (loc2 := [some (.inr (.inr (t, 15))), some (.inl a1), some (.inl 0), some (.inl 0)]) rfl ?_
  exact p_X4_rowsOf_4 ht φ a1 0 0 h
/-! X4_latestTime: latestTime -/
def gP_X4_latestTime_2 (g : gzG) (t : Nat) (d : Nat) (r : Int32) (x1 : Int32) (x2 : Int32) (I : gzIT) (J : gzJT) : Prop := gzX g 0 (d + 2) mX4_latestTime 2 [some (.inr (.inr (t, 15))), some (.inl x1), some (.inl x2)] [] (gzN, gzR0, I, J) 0 (gzE (.ok (some (.inl r))) (gzN, gzR0, I, J))
def f_X4_latestTime_2 (φ : Nat) (t : Nat) (I : gzIT) : Nat → Int32 → Int32 → Option Int32
  | 0, _, _ => none
  | k + 1, x1, x2 => if I t 15 1 ≤ x2 then (some (-1)) else (Option.bind (f_X4_read t I x2 1) (fun v2 => if ¬ v2 = x1 then (f_X4_latestTime_2 φ t I k x1 (x2 + 1)) else (Option.bind (f_X4_read t I x2 0) (fun v4 => some v4))))
set_option maxRecDepth 20000 in
theorem p_X4_latestTime_2 {g : gzG} {d φ : Nat} {t : Nat} (ht : t < 15) {I : gzIT} {J : gzJT} {r : Int32} : ∀ (k : Nat) (x1 : Int32) (x2 : Int32), f_X4_latestTime_2 φ t I k x1 x2 = some r → gP_X4_latestTime_2 g t d r x1 x2 I J := by
  intro k; induction k with
  | zero => intro x1 x2 h; cases h
  | succ k ih =>
    intro x1 x2 h
    unfold f_X4_latestTime_2 at h
    unfold gP_X4_latestTime_2
    have z_t_15 : gzOk t 15 gzN := gzOk_of ht
    refine gz_iload_n (pc := 2) dX4_latestTime_2 rfl ?_
    refine gz_aload_n (pc := 3) dX4_latestTime_3 rfl ?_
    refine gi_X4_15 (pc := 4) dX4_latestTime_4 (v := I t 15 1) z_t_15 rfl rfl ?_
    refine gz_ic_ge (pc := 7) (tgt := 33) dX4_latestTime_7 (by decide) (fun c => ?_) (fun c => ?_)
    · replace h := gz_ifp c h
      refine gz_iconst (pc := 33) dX4_latestTime_33 (v := (-1)) (by decide) ?_
      cases h; exact gz_iret (pc := 34) dX4_latestTime_34 rfl ⟨rfl, rfl⟩
    · replace h := gz_ifn c h
      refine gz_aload_n (pc := 10) dX4_latestTime_10 rfl ?_
      refine gz_iload_n (pc := 11) dX4_latestTime_11 rfl ?_
      refine gz_iconst (pc := 12) dX4_latestTime_12 (v := 1) (by decide) ?_
      refine gz_V (zy := mX4_read) (zc := 0) (pc := 13) [.inl x2, .inl 1] rfl dX4_latestTime_13 lkX4_40 MvX4_read rfl z_t_15 rfl rfl rfl (Or.inl rfl) (fun h => h) (by exact Nat.le_of_ble_eq_true rfl) ?_
      obtain ⟨v2, e1, h⟩ := gz_bd h
      refine gz_useI (c_X4_read ht e1) ?_
      refine gz_iload_n (pc := 16) dX4_latestTime_16 rfl ?_
      refine gz_ic_ne (pc := 17) (tgt := 27) dX4_latestTime_17 (by decide) (fun c => ?_) (fun c => ?_)
      · replace h := gz_ifp c h
        refine gz_iinc (pc := 27) dX4_latestTime_27 (x := x2) (v := x2 + 1) rfl (by rw [show Int32.ofInt 1 = 1 by decide]) (by decide) rfl (loc2 := [some (.inr (.inr (t, 15))), some (.inl x1), some (.inl (x2 + 1))]) rfl ?_
        refine gz_goto (pc := 30) (tgt := 2) dX4_latestTime_30 (by decide) ?_
        exact ih x1 (x2 + 1) h
      · replace h := gz_ifn (fun q => q c) h
        refine gz_aload_n (pc := 20) dX4_latestTime_20 rfl ?_
        refine gz_iload_n (pc := 21) dX4_latestTime_21 rfl ?_
        refine gz_iconst (pc := 22) dX4_latestTime_22 (v := 0) (by decide) ?_
        refine gz_V (zy := mX4_read) (zc := 0) (pc := 23) [.inl x2, .inl 0] rfl dX4_latestTime_23 lkX4_40 MvX4_read rfl z_t_15 rfl rfl rfl (Or.inl rfl) (fun h => h) (by exact Nat.le_of_ble_eq_true rfl) ?_
        obtain ⟨v4, e3, h⟩ := gz_bd h
        refine gz_useI (c_X4_read ht e3) ?_
        cases h; exact gz_iret (pc := 26) dX4_latestTime_26 rfl ⟨rfl, rfl⟩
def f_X4_latestTime (φ : Nat) (t : Nat) (I : gzIT) (a1 : Int32) : Option Int32 := f_X4_latestTime_2 φ t I φ a1 0
set_option maxRecDepth 20000 in
theorem c_X4_latestTime {g : gzG} {d φ : Nat} {t : Nat} (ht : t < 15) {a1 : Int32} {I : gzIT} {J : gzJT} {r : Int32} (h : f_X4_latestTime φ t I a1 = some r) : gzC g 0 (d + 2) mX4_latestTime [.inr (.inr (t, 15)), .inl a1] (gzN, gzR0, I, J) (gzE (.ok (some (.inl r))) (gzN, gzR0, I, J)) := by
  unfold f_X4_latestTime at h
  refine gzC_of (by decide +kernel) (Nat.le_of_ble_eq_true rfl) (loc := [some (.inr (.inr (t, 15))), some (.inl a1), none]) rfl ?_
  refine gz_iconst (pc := 0) dX4_latestTime_0 (v := 0) (by decide) ?_
  refine gz_istore_n (pc := 1) dX4_latestTime_1 (by decide) rfl (loc2 := [some (.inr (.inr (t, 15))), some (.inl a1), some (.inl 0)]) rfl ?_
  exact p_X4_latestTime_2 ht φ a1 0 h
/-! X8_copyFrom: copyFrom -/
def f_X8_copyFrom (φ : Nat) (t : Nat) (t1 : Nat) (I : gzIT) (J : gzJT) : Option (Unit × gzIT × gzJT) := Option.bind (f_X0_copyFrom t t1 I J) (fun v2 => Option.bind (f_X1_copyFrom φ t t1 v2.2.1 v2.2.2) (fun v4 => Option.bind (f_X4_copyFrom t t1 v4.2.1 v4.2.2) (fun v6 => Option.bind (f_X11_copy t1 17 8 t 17 8 v6.2.1 v6.2.2) (fun v8 => Option.bind (f_X11_copy t1 18 8 t 18 8 v8.2.1 v8.2.2) (fun v10 => Option.bind (f_X11_copy t1 19 4 t 19 4 v10.2.1 v10.2.2) (fun v12 => gzGz ((gz_ui (gz_ui (gz_ui v12.2.1 t 0 6 (v12.2.1 t1 0 6)) t 0 7 ((gz_ui v12.2.1 t 0 6 (v12.2.1 t1 0 6)) t1 0 7)) t 0 8 ((gz_ui (gz_ui v12.2.1 t 0 6 (v12.2.1 t1 0 6)) t 0 7 ((gz_ui v12.2.1 t 0 6 (v12.2.1 t1 0 6)) t1 0 7)) t1 0 8)) t1 0 9) (some ((), gz_ui (gz_ui (gz_ui (gz_ui (gz_ui (gz_ui v12.2.1 t 0 6 (v12.2.1 t1 0 6)) t 0 7 ((gz_ui v12.2.1 t 0 6 (v12.2.1 t1 0 6)) t1 0 7)) t 0 8 ((gz_ui (gz_ui v12.2.1 t 0 6 (v12.2.1 t1 0 6)) t 0 7 ((gz_ui v12.2.1 t 0 6 (v12.2.1 t1 0 6)) t1 0 7)) t1 0 8)) t 0 9 ((gz_ui (gz_ui (gz_ui v12.2.1 t 0 6 (v12.2.1 t1 0 6)) t 0 7 ((gz_ui v12.2.1 t 0 6 (v12.2.1 t1 0 6)) t1 0 7)) t 0 8 ((gz_ui (gz_ui v12.2.1 t 0 6 (v12.2.1 t1 0 6)) t 0 7 ((gz_ui v12.2.1 t 0 6 (v12.2.1 t1 0 6)) t1 0 7)) t1 0 8)) t1 0 9)) t 0 10 ((gz_ui (gz_ui (gz_ui (gz_ui v12.2.1 t 0 6 (v12.2.1 t1 0 6)) t 0 7 ((gz_ui v12.2.1 t 0 6 (v12.2.1 t1 0 6)) t1 0 7)) t 0 8 ((gz_ui (gz_ui v12.2.1 t 0 6 (v12.2.1 t1 0 6)) t 0 7 ((gz_ui v12.2.1 t 0 6 (v12.2.1 t1 0 6)) t1 0 7)) t1 0 8)) t 0 9 ((gz_ui (gz_ui (gz_ui v12.2.1 t 0 6 (v12.2.1 t1 0 6)) t 0 7 ((gz_ui v12.2.1 t 0 6 (v12.2.1 t1 0 6)) t1 0 7)) t 0 8 ((gz_ui (gz_ui v12.2.1 t 0 6 (v12.2.1 t1 0 6)) t 0 7 ((gz_ui v12.2.1 t 0 6 (v12.2.1 t1 0 6)) t1 0 7)) t1 0 8)) t1 0 9)) t1 0 10)) t 0 11 ((gz_ui (gz_ui (gz_ui (gz_ui (gz_ui v12.2.1 t 0 6 (v12.2.1 t1 0 6)) t 0 7 ((gz_ui v12.2.1 t 0 6 (v12.2.1 t1 0 6)) t1 0 7)) t 0 8 ((gz_ui (gz_ui v12.2.1 t 0 6 (v12.2.1 t1 0 6)) t 0 7 ((gz_ui v12.2.1 t 0 6 (v12.2.1 t1 0 6)) t1 0 7)) t1 0 8)) t 0 9 ((gz_ui (gz_ui (gz_ui v12.2.1 t 0 6 (v12.2.1 t1 0 6)) t 0 7 ((gz_ui v12.2.1 t 0 6 (v12.2.1 t1 0 6)) t1 0 7)) t 0 8 ((gz_ui (gz_ui v12.2.1 t 0 6 (v12.2.1 t1 0 6)) t 0 7 ((gz_ui v12.2.1 t 0 6 (v12.2.1 t1 0 6)) t1 0 7)) t1 0 8)) t1 0 9)) t 0 10 ((gz_ui (gz_ui (gz_ui (gz_ui v12.2.1 t 0 6 (v12.2.1 t1 0 6)) t 0 7 ((gz_ui v12.2.1 t 0 6 (v12.2.1 t1 0 6)) t1 0 7)) t 0 8 ((gz_ui (gz_ui v12.2.1 t 0 6 (v12.2.1 t1 0 6)) t 0 7 ((gz_ui v12.2.1 t 0 6 (v12.2.1 t1 0 6)) t1 0 7)) t1 0 8)) t 0 9 ((gz_ui (gz_ui (gz_ui v12.2.1 t 0 6 (v12.2.1 t1 0 6)) t 0 7 ((gz_ui v12.2.1 t 0 6 (v12.2.1 t1 0 6)) t1 0 7)) t 0 8 ((gz_ui (gz_ui v12.2.1 t 0 6 (v12.2.1 t1 0 6)) t 0 7 ((gz_ui v12.2.1 t 0 6 (v12.2.1 t1 0 6)) t1 0 7)) t1 0 8)) t1 0 9)) t1 0 10)) t1 0 11), v12.2.2))))))))
set_option maxRecDepth 20000 in
theorem c_X8_copyFrom {g : gzG} {d φ : Nat} {t : Nat} {t1 : Nat} (ht : t < 15) (ht1 : t1 < 15) {I : gzIT} {J : gzJT} {r : Unit × gzIT × gzJT} (h : f_X8_copyFrom φ t t1 I J = some r) : gzC g 0 (d + 2) mX8_copyFrom [.inr (.inr (t, 0)), .inr (.inr (t1, 0))] (gzN, gzR0, I, J) (gzE (.ok none) (gzN, gzR0, r.2.1, r.2.2)) := by
  unfold f_X8_copyFrom at h
  refine gzC_of (by decide +kernel) (Nat.le_of_ble_eq_true rfl) (loc := [some (.inr (.inr (t, 0))), some (.inr (.inr (t1, 0)))]) rfl ?_
  have z_t_0 : gzOk t 0 gzN := gzOk_of ht
  have z_t1_0 : gzOk t1 0 gzN := gzOk_of ht1
  have z_t_1 : gzOk t 1 gzN := gzOk_of ht
  have z_t_7 : gzOk t 7 gzN := gzOk_of ht
  have z_t_15 : gzOk t 15 gzN := gzOk_of ht
  have z_t1_17 : gzOk t1 17 gzN := gzOk_of ht1
  have z_t_17 : gzOk t 17 gzN := gzOk_of ht
  have z_t1_18 : gzOk t1 18 gzN := gzOk_of ht1
  have z_t_18 : gzOk t 18 gzN := gzOk_of ht
  have z_t1_19 : gzOk t1 19 gzN := gzOk_of ht1
  have z_t_19 : gzOk t 19 gzN := gzOk_of ht
  refine gz_aload_n (pc := 0) dX8_copyFrom_0 rfl ?_
  refine gr_X8_12 (pc := 1) dX8_copyFrom_1 z_t_0 rfl ?_
  refine gz_aload_n (pc := 4) dX8_copyFrom_4 rfl ?_
  refine gr_X8_12 (pc := 5) dX8_copyFrom_5 z_t1_0 rfl ?_
  refine gz_V (zy := mX0_copyFrom) (zc := 0) (pc := 8) [.inr (.inr (t1, 1))] rfl dX8_copyFrom_8 lkX8_62 MvX0_copyFrom rfl z_t_1 rfl rfl rfl (Or.inl rfl) (fun h => h) (by exact Nat.le_of_ble_eq_true rfl) ?_
  obtain ⟨v2, e1, h⟩ := gz_bd h
  refine gz_useV (c_X0_copyFrom ht ht1 e1) ?_
  refine gz_aload_n (pc := 11) dX8_copyFrom_11 rfl ?_
  refine gr_X8_21 (pc := 12) dX8_copyFrom_12 z_t_0 rfl ?_
  refine gz_aload_n (pc := 15) dX8_copyFrom_15 rfl ?_
  refine gr_X8_21 (pc := 16) dX8_copyFrom_16 z_t1_0 rfl ?_
  refine gz_V (zy := mX1_copyFrom) (zc := 0) (pc := 19) [.inr (.inr (t1, 7))] rfl dX8_copyFrom_19 lkX8_66 MvX1_copyFrom rfl z_t_7 rfl rfl rfl (Or.inl rfl) (fun h => h) (by exact Nat.le_of_ble_eq_true rfl) ?_
  obtain ⟨v4, e3, h⟩ := gz_bd h
  refine gz_useV (c_X1_copyFrom ht ht1 e3) ?_
  refine gz_aload_n (pc := 22) dX8_copyFrom_22 rfl ?_
  refine gr_X8_28 (pc := 23) dX8_copyFrom_23 z_t_0 rfl ?_
  refine gz_aload_n (pc := 26) dX8_copyFrom_26 rfl ?_
  refine gr_X8_28 (pc := 27) dX8_copyFrom_27 z_t1_0 rfl ?_
  refine gz_V (zy := mX4_copyFrom) (zc := 0) (pc := 30) [.inr (.inr (t1, 15))] rfl dX8_copyFrom_30 lkX8_69 MvX4_copyFrom rfl z_t_15 rfl rfl rfl (Or.inl rfl) (fun h => h) (by exact Nat.le_of_ble_eq_true rfl) ?_
  obtain ⟨v6, e5, h⟩ := gz_bd h
  refine gz_useV (c_X4_copyFrom ht ht1 e5) ?_
  refine gz_aload_n (pc := 33) dX8_copyFrom_33 rfl ?_
  refine gr_X8_32 (pc := 34) dX8_copyFrom_34 z_t1_0 rfl ?_
  refine gz_aload_n (pc := 37) dX8_copyFrom_37 rfl ?_
  refine gr_X8_32 (pc := 38) dX8_copyFrom_38 z_t_0 rfl ?_
  refine gz_SN (zy := mX11_copy) (zc := 0) (pc := 41) [.inr (.inr (t1, 17)), .inr (.inr (t, 17))] rfl dX8_copyFrom_41 lnX8_72 MsX11_copy rfl (Or.inl rfl) (fun h => h) (by exact Nat.le_of_ble_eq_true rfl) ?_
  obtain ⟨v8, e7, h⟩ := gz_bd h
  refine gz_useV (c_X11_copy z_t1_17 rfl z_t_17 rfl e7) ?_
  refine gz_aload_n (pc := 44) dX8_copyFrom_44 rfl ?_
  refine gr_X8_36 (pc := 45) dX8_copyFrom_45 z_t1_0 rfl ?_
  refine gz_aload_n (pc := 48) dX8_copyFrom_48 rfl ?_
  refine gr_X8_36 (pc := 49) dX8_copyFrom_49 z_t_0 rfl ?_
  refine gz_SN (zy := mX11_copy) (zc := 0) (pc := 52) [.inr (.inr (t1, 18)), .inr (.inr (t, 18))] rfl dX8_copyFrom_52 lnX8_72 MsX11_copy rfl (Or.inl rfl) (fun h => h) (by exact Nat.le_of_ble_eq_true rfl) ?_
  obtain ⟨v10, e9, h⟩ := gz_bd h
  refine gz_useV (c_X11_copy z_t1_18 rfl z_t_18 rfl e9) ?_
  refine gz_aload_n (pc := 55) dX8_copyFrom_55 rfl ?_
  refine gr_X8_39 (pc := 56) dX8_copyFrom_56 z_t1_0 rfl ?_
  refine gz_aload_n (pc := 59) dX8_copyFrom_59 rfl ?_
  refine gr_X8_39 (pc := 60) dX8_copyFrom_60 z_t_0 rfl ?_
  refine gz_SN (zy := mX11_copy) (zc := 0) (pc := 63) [.inr (.inr (t1, 19)), .inr (.inr (t, 19))] rfl dX8_copyFrom_63 lnX8_72 MsX11_copy rfl (Or.inl rfl) (fun h => h) (by exact Nat.le_of_ble_eq_true rfl) ?_
  obtain ⟨v12, e11, h⟩ := gz_bd h
  refine gz_useV (c_X11_copy z_t1_19 rfl z_t_19 rfl e11) ?_
  refine gz_aload_n (pc := 66) dX8_copyFrom_66 rfl ?_
  refine gz_aload_n (pc := 67) dX8_copyFrom_67 rfl ?_
  refine gi_X8_42 (pc := 68) dX8_copyFrom_68 (v := v12.2.1 t1 0 6) z_t1_0 rfl rfl ?_
  refine gp_X8_42 (pc := 71) dX8_copyFrom_71 z_t_0 rfl ?_
  refine gz_aload_n (pc := 74) dX8_copyFrom_74 rfl ?_
  refine gz_aload_n (pc := 75) dX8_copyFrom_75 rfl ?_
  refine gi_X8_46 (pc := 76) dX8_copyFrom_76 (v := (gz_ui v12.2.1 t 0 6 (v12.2.1 t1 0 6)) t1 0 7) z_t1_0 rfl rfl ?_
  refine gp_X8_46 (pc := 79) dX8_copyFrom_79 z_t_0 rfl ?_
  refine gz_aload_n (pc := 82) dX8_copyFrom_82 rfl ?_
  refine gz_aload_n (pc := 83) dX8_copyFrom_83 rfl ?_
  refine gi_X8_49 (pc := 84) dX8_copyFrom_84 (v := (gz_ui (gz_ui v12.2.1 t 0 6 (v12.2.1 t1 0 6)) t 0 7 ((gz_ui v12.2.1 t 0 6 (v12.2.1 t1 0 6)) t1 0 7)) t1 0 8) z_t1_0 rfl rfl ?_
  refine gp_X8_49 (pc := 87) dX8_copyFrom_87 z_t_0 rfl ?_
  refine gz_aload_n (pc := 90) dX8_copyFrom_90 rfl ?_
  refine gz_aload_n (pc := 91) dX8_copyFrom_91 rfl ?_
  refine gi_X8_52 (pc := 92) dX8_copyFrom_92 (v := (gz_ui (gz_ui (gz_ui v12.2.1 t 0 6 (v12.2.1 t1 0 6)) t 0 7 ((gz_ui v12.2.1 t 0 6 (v12.2.1 t1 0 6)) t1 0 7)) t 0 8 ((gz_ui (gz_ui v12.2.1 t 0 6 (v12.2.1 t1 0 6)) t 0 7 ((gz_ui v12.2.1 t 0 6 (v12.2.1 t1 0 6)) t1 0 7)) t1 0 8)) t1 0 9) z_t1_0 rfl rfl ?_
  obtain ⟨b13, h⟩ := gz_gz h
  refine gp_X8_52 (pc := 95) dX8_copyFrom_95 z_t_0 b13 rfl ?_
  refine gz_aload_n (pc := 98) dX8_copyFrom_98 rfl ?_
  refine gz_aload_n (pc := 99) dX8_copyFrom_99 rfl ?_
  refine gi_X8_56 (pc := 100) dX8_copyFrom_100 (v := (gz_ui (gz_ui (gz_ui (gz_ui v12.2.1 t 0 6 (v12.2.1 t1 0 6)) t 0 7 ((gz_ui v12.2.1 t 0 6 (v12.2.1 t1 0 6)) t1 0 7)) t 0 8 ((gz_ui (gz_ui v12.2.1 t 0 6 (v12.2.1 t1 0 6)) t 0 7 ((gz_ui v12.2.1 t 0 6 (v12.2.1 t1 0 6)) t1 0 7)) t1 0 8)) t 0 9 ((gz_ui (gz_ui (gz_ui v12.2.1 t 0 6 (v12.2.1 t1 0 6)) t 0 7 ((gz_ui v12.2.1 t 0 6 (v12.2.1 t1 0 6)) t1 0 7)) t 0 8 ((gz_ui (gz_ui v12.2.1 t 0 6 (v12.2.1 t1 0 6)) t 0 7 ((gz_ui v12.2.1 t 0 6 (v12.2.1 t1 0 6)) t1 0 7)) t1 0 8)) t1 0 9)) t1 0 10) z_t1_0 rfl rfl ?_
  refine gp_X8_56 (pc := 103) dX8_copyFrom_103 z_t_0 rfl ?_
  refine gz_aload_n (pc := 106) dX8_copyFrom_106 rfl ?_
  refine gz_aload_n (pc := 107) dX8_copyFrom_107 rfl ?_
  refine gi_X8_59 (pc := 108) dX8_copyFrom_108 (v := (gz_ui (gz_ui (gz_ui (gz_ui (gz_ui v12.2.1 t 0 6 (v12.2.1 t1 0 6)) t 0 7 ((gz_ui v12.2.1 t 0 6 (v12.2.1 t1 0 6)) t1 0 7)) t 0 8 ((gz_ui (gz_ui v12.2.1 t 0 6 (v12.2.1 t1 0 6)) t 0 7 ((gz_ui v12.2.1 t 0 6 (v12.2.1 t1 0 6)) t1 0 7)) t1 0 8)) t 0 9 ((gz_ui (gz_ui (gz_ui v12.2.1 t 0 6 (v12.2.1 t1 0 6)) t 0 7 ((gz_ui v12.2.1 t 0 6 (v12.2.1 t1 0 6)) t1 0 7)) t 0 8 ((gz_ui (gz_ui v12.2.1 t 0 6 (v12.2.1 t1 0 6)) t 0 7 ((gz_ui v12.2.1 t 0 6 (v12.2.1 t1 0 6)) t1 0 7)) t1 0 8)) t1 0 9)) t 0 10 ((gz_ui (gz_ui (gz_ui (gz_ui v12.2.1 t 0 6 (v12.2.1 t1 0 6)) t 0 7 ((gz_ui v12.2.1 t 0 6 (v12.2.1 t1 0 6)) t1 0 7)) t 0 8 ((gz_ui (gz_ui v12.2.1 t 0 6 (v12.2.1 t1 0 6)) t 0 7 ((gz_ui v12.2.1 t 0 6 (v12.2.1 t1 0 6)) t1 0 7)) t1 0 8)) t 0 9 ((gz_ui (gz_ui (gz_ui v12.2.1 t 0 6 (v12.2.1 t1 0 6)) t 0 7 ((gz_ui v12.2.1 t 0 6 (v12.2.1 t1 0 6)) t1 0 7)) t 0 8 ((gz_ui (gz_ui v12.2.1 t 0 6 (v12.2.1 t1 0 6)) t 0 7 ((gz_ui v12.2.1 t 0 6 (v12.2.1 t1 0 6)) t1 0 7)) t1 0 8)) t1 0 9)) t1 0 10)) t1 0 11) z_t1_0 rfl rfl ?_
  refine gp_X8_59 (pc := 111) dX8_copyFrom_111 z_t_0 rfl ?_
  cases h; exact gz_vret (pc := 114) dX8_copyFrom_114 rfl ⟨rfl, rfl⟩
/-! X5_keep: keep -/
def gP_X5_keep_29 (g : gzG) (t1 : Nat) (d : Nat) (r : Unit × gzIT × gzJT) (I : gzIT) (J : gzJT) : Prop := gzX g 0 (d + 3) mX5_keep 29 [some (.inr (.inr (0, 39))), none] [] (gzN, gzR0, I, J) 0 (gzE (.ok none) (gzN, gzR0, r.2.1, r.2.2))
def f_X5_keep_29 (φ : Nat) (t1 : Nat) (I : gzIT) (J : gzJT) : Option (Unit × gzIT × gzJT) := some ((), gz_ui (gz_ui I 0 39 2 (((I 0 39 2) + 1) - ((I 0 39 2) + 1) / 12 * 12)) 0 39 1 (if (I 0 39 1) + 1 < 12 then (I 0 39 1) + 1 else 12), J)
set_option maxRecDepth 20000 in
theorem p_X5_keep_29 {g : gzG} {d φ : Nat} {t1 : Nat} (ht1 : t1 < 15) {r : Unit × gzIT × gzJT} (I : gzIT) (J : gzJT) (h : f_X5_keep_29 φ t1 I J = some r) : gP_X5_keep_29 g t1 d r I J := by
  unfold f_X5_keep_29 at h
  unfold gP_X5_keep_29
  have z_0_39 : gzOk 0 39 gzN := gzOk_of (by decide)
  refine gz_aload_n (pc := 29) dX5_keep_29 rfl ?_
  refine gz_aload_n (pc := 30) dX5_keep_30 rfl ?_
  refine gi_X5_21 (pc := 31) dX5_keep_31 (v := I 0 39 2) z_0_39 rfl rfl ?_
  refine gz_iconst (pc := 34) dX5_keep_34 (v := 1) (by decide) ?_
  refine gz_iadd (pc := 35) dX5_keep_35  ?_
  refine gz_bipush (pc := 36) dX5_keep_36 (v := 12) (by decide) ?_
  refine gz_irem (pc := 38) dX5_keep_38 (by decide) ?_
  refine gp_X5_21 (pc := 39) dX5_keep_39 z_0_39 rfl ?_
  refine gz_aload_n (pc := 42) dX5_keep_42 rfl ?_
  refine gz_bipush (pc := 43) dX5_keep_43 (v := 12) (by decide) ?_
  refine gz_aload_n (pc := 45) dX5_keep_45 rfl ?_
  refine gi_X5_17 (pc := 46) dX5_keep_46 (v := I 0 39 1) z_0_39 (gz_ui_k (by decide)) rfl ?_
  refine gz_iconst (pc := 49) dX5_keep_49 (v := 1) (by decide) ?_
  refine gz_iadd (pc := 50) dX5_keep_50  ?_
  refine gn_X5_29 (pc := 51) dX5_keep_51 (Nat.le_of_ble_eq_true rfl) rfl ?_
  refine gp_X5_17 (pc := 54) dX5_keep_54 z_0_39 rfl ?_
  cases h; exact gz_vret (pc := 57) dX5_keep_57 rfl ⟨rfl, rfl⟩
def f_X5_keep (φ : Nat) (t1 : Nat) (I : gzIT) (J : gzJT) : Option (Unit × gzIT × gzJT) := if I 0 39 2 < 0 then (f_X5_keep_29 φ t1 I J) else (if 12 ≤ I 0 39 2 then (f_X5_keep_29 φ t1 I J) else (gzGd (I 0 39 2) 12 (Option.bind (f_X8_copyFrom φ (3 + (I 0 39 2).toNatClampNeg) t1 I J) (fun v3 => f_X5_keep_29 φ t1 v3.2.1 v3.2.2))))
set_option maxRecDepth 20000 in
theorem c_X5_keep {g : gzG} {d φ : Nat} {t1 : Nat} (ht1 : t1 < 15) {I : gzIT} {J : gzJT} {r : Unit × gzIT × gzJT} (h : f_X5_keep φ t1 I J = some r) : gzC g 0 (d + 3) mX5_keep [.inr (.inr (0, 39)), .inr (.inr (t1, 0))] (gzN, gzR0, I, J) (gzE (.ok none) (gzN, gzR0, r.2.1, r.2.2)) := by
  unfold f_X5_keep at h
  refine gzC_of (by decide +kernel) (Nat.le_of_ble_eq_true rfl) (loc := [some (.inr (.inr (0, 39))), some (.inr (.inr (t1, 0)))]) rfl ?_
  have z_0_39 : gzOk 0 39 gzN := gzOk_of (by decide)
  have z_0_40 : gzOk 0 40 gzN := gzOk_of (by decide)
  refine gz_aload_n (pc := 0) dX5_keep_0 rfl ?_
  refine gi_X5_21 (pc := 1) dX5_keep_1 (v := I 0 39 2) z_0_39 rfl rfl ?_
  refine gz_if_lt (pc := 4) (tgt := 29) dX5_keep_4 (by decide) (fun c => ?_) (fun c => ?_)
  · replace h := gz_ifp c h
    exact gz_weak (loc2 := [some (.inr (.inr (0, 39))), none]) (p_X5_keep_29 ht1 I J h) (by repeat (first | exact trivial | refine ⟨rfl, ?_⟩))
  · replace h := gz_ifn c h
    refine gz_aload_n (pc := 7) dX5_keep_7 rfl ?_
    refine gi_X5_21 (pc := 8) dX5_keep_8 (v := I 0 39 2) z_0_39 rfl rfl ?_
    refine gz_bipush (pc := 11) dX5_keep_11 (v := 12) (by decide) ?_
    refine gz_ic_ge (pc := 13) (tgt := 29) dX5_keep_13 (by decide) (fun c => ?_) (fun c => ?_)
    · replace h := gz_ifp c h
      exact gz_weak (loc2 := [some (.inr (.inr (0, 39))), none]) (p_X5_keep_29 ht1 I J h) (by repeat (first | exact trivial | refine ⟨rfl, ?_⟩))
    · replace h := gz_ifn c h
      refine gz_aload_n (pc := 16) dX5_keep_16 rfl ?_
      refine gr_X5_11 (pc := 17) dX5_keep_17 z_0_39 rfl ?_
      refine gz_aload_n (pc := 20) dX5_keep_20 rfl ?_
      refine gi_X5_21 (pc := 21) dX5_keep_21 (v := I 0 39 2) z_0_39 rfl rfl ?_
      obtain ⟨b1, h⟩ := gz_gd h
      refine gz_aald (pc := 24) dX5_keep_24 z_0_40 (gzR0_towns b1) rfl b1 ?_
      have z__3____I_0_39_2__toNatClampNeg__0 : gzOk (3 + (I 0 39 2).toNatClampNeg) 0 gzN := gzOk_of (gz_town3 b1)
      refine gz_aload_n (pc := 25) dX5_keep_25 rfl ?_
      refine gz_V (zy := mX8_copyFrom) (zc := 0) (pc := 26) [.inr (.inr (t1, 0))] rfl dX5_keep_26 lkX5_25 MvX8_copyFrom rfl z__3____I_0_39_2__toNatClampNeg__0 rfl rfl rfl (Or.inl rfl) (fun h => h) (by exact Nat.le_of_ble_eq_true rfl) ?_
      obtain ⟨v3, e2, h⟩ := gz_bd h
      refine gz_useV (c_X8_copyFrom (gz_town3 (by assumption)) ht1 e2) ?_
      exact gz_weak (loc2 := [some (.inr (.inr (0, 39))), none]) (p_X5_keep_29 ht1 v3.2.1 v3.2.2 h) (by repeat (first | exact trivial | refine ⟨rfl, ?_⟩))
/-! X5_takeBack: takeBack -/
def f_X5_takeBack (φ : Nat) (t1 : Nat) (I : gzIT) (J : gzJT) : Option (Int32 × gzIT × gzJT) := if 0 < I 0 39 1 then (if (((I 0 39 2) + 12) - 1) - (((I 0 39 2) + 12) - 1) / 12 * 12 < 0 then (some (1, gz_ui (gz_ui I 0 39 2 ((((I 0 39 2) + 12) - 1) - (((I 0 39 2) + 12) - 1) / 12 * 12)) 0 39 1 ((I 0 39 1) - 1), J)) else (gzGd ((((I 0 39 2) + 12) - 1) - (((I 0 39 2) + 12) - 1) / 12 * 12) 12 (Option.bind (f_X8_copyFrom φ t1 (3 + ((((I 0 39 2) + 12) - 1) - (((I 0 39 2) + 12) - 1) / 12 * 12).toNatClampNeg) (gz_ui (gz_ui I 0 39 2 ((((I 0 39 2) + 12) - 1) - (((I 0 39 2) + 12) - 1) / 12 * 12)) 0 39 1 ((I 0 39 1) - 1)) J) (fun v4 => some (1, v4.2.1, v4.2.2))))) else (some (0, I, J))
set_option maxRecDepth 20000 in
theorem c_X5_takeBack {g : gzG} {d φ : Nat} {t1 : Nat} (ht1 : t1 < 15) {I : gzIT} {J : gzJT} {r : Int32 × gzIT × gzJT} (h : f_X5_takeBack φ t1 I J = some r) : gzC g 0 (d + 3) mX5_takeBack [.inr (.inr (0, 39)), .inr (.inr (t1, 0))] (gzN, gzR0, I, J) (gzE (.ok (some (.inl r.1))) (gzN, gzR0, r.2.1, r.2.2)) := by
  unfold f_X5_takeBack at h
  refine gzC_of (by decide +kernel) (Nat.le_of_ble_eq_true rfl) (loc := [some (.inr (.inr (0, 39))), some (.inr (.inr (t1, 0)))]) rfl ?_
  have z_0_39 : gzOk 0 39 gzN := gzOk_of (by decide)
  have z_0_40 : gzOk 0 40 gzN := gzOk_of (by decide)
  have z_t1_0 : gzOk t1 0 gzN := gzOk_of ht1
  refine gz_aload_n (pc := 0) dX5_takeBack_0 rfl ?_
  refine gi_X5_17 (pc := 1) dX5_takeBack_1 (v := I 0 39 1) z_0_39 rfl rfl ?_
  refine gz_if_gt (pc := 4) (tgt := 9) dX5_takeBack_4 (by decide) (fun c => ?_) (fun c => ?_)
  · replace h := gz_ifp c h
    refine gz_aload_n (pc := 9) dX5_takeBack_9 rfl ?_
    refine gz_aload_n (pc := 10) dX5_takeBack_10 rfl ?_
    refine gi_X5_21 (pc := 11) dX5_takeBack_11 (v := I 0 39 2) z_0_39 rfl rfl ?_
    refine gz_bipush (pc := 14) dX5_takeBack_14 (v := 12) (by decide) ?_
    refine gz_iadd (pc := 16) dX5_takeBack_16  ?_
    refine gz_iconst (pc := 17) dX5_takeBack_17 (v := 1) (by decide) ?_
    refine gz_isub (pc := 18) dX5_takeBack_18  ?_
    refine gz_bipush (pc := 19) dX5_takeBack_19 (v := 12) (by decide) ?_
    refine gz_irem (pc := 21) dX5_takeBack_21 (by decide) ?_
    refine gp_X5_21 (pc := 22) dX5_takeBack_22 z_0_39 rfl ?_
    refine gz_aload_n (pc := 25) dX5_takeBack_25 rfl ?_
    refine gz_dupR (pc := 26) dX5_takeBack_26  ?_
    refine gi_X5_17 (pc := 27) dX5_takeBack_27 (v := I 0 39 1) z_0_39 (gz_ui_k (by decide)) rfl ?_
    refine gz_iconst (pc := 30) dX5_takeBack_30 (v := 1) (by decide) ?_
    refine gz_isub (pc := 31) dX5_takeBack_31  ?_
    refine gp_X5_17 (pc := 32) dX5_takeBack_32 z_0_39 rfl ?_
    refine gz_aload_n (pc := 35) dX5_takeBack_35 rfl ?_
    refine gi_X5_21 (pc := 36) dX5_takeBack_36 (v := (((I 0 39 2) + 12) - 1) - (((I 0 39 2) + 12) - 1) / 12 * 12) z_0_39 ((gz_ui_k (by decide)).trans (gz_ui_s)) rfl ?_
    refine gz_if_lt (pc := 39) (tgt := 55) dX5_takeBack_39 (by decide) (fun c => ?_) (fun c => ?_)
    · replace h := gz_ifp c h
      refine gz_iconst (pc := 55) dX5_takeBack_55 (v := 1) (by decide) ?_
      cases h; exact gz_zret (pc := 56) dX5_takeBack_56 rfl (by decide) ⟨rfl, rfl⟩
    · replace h := gz_ifn c h
      refine gz_aload_n (pc := 42) dX5_takeBack_42 rfl ?_
      refine gz_aload_n (pc := 43) dX5_takeBack_43 rfl ?_
      refine gr_X5_11 (pc := 44) dX5_takeBack_44 z_0_39 rfl ?_
      refine gz_aload_n (pc := 47) dX5_takeBack_47 rfl ?_
      refine gi_X5_21 (pc := 48) dX5_takeBack_48 (v := (((I 0 39 2) + 12) - 1) - (((I 0 39 2) + 12) - 1) / 12 * 12) z_0_39 ((gz_ui_k (by decide)).trans (gz_ui_s)) rfl ?_
      obtain ⟨b2, h⟩ := gz_gd h
      refine gz_aald (pc := 51) dX5_takeBack_51 z_0_40 (gzR0_towns b2) rfl b2 ?_
      have z__3_______I_0_39_2____12____1_______I_0_39_2____12____1____12___12__toNatClampNeg__0 : gzOk (3 + ((((I 0 39 2) + 12) - 1) - (((I 0 39 2) + 12) - 1) / 12 * 12).toNatClampNeg) 0 gzN := gzOk_of (gz_town3 b2)
      refine gz_V (zy := mX8_copyFrom) (zc := 0) (pc := 52) [.inr (.inr ((3 + ((((I 0 39 2) + 12) - 1) - (((I 0 39 2) + 12) - 1) / 12 * 12).toNatClampNeg), 0))] rfl dX5_takeBack_52 lkX5_25 MvX8_copyFrom rfl z_t1_0 rfl rfl rfl (Or.inl rfl) (fun h => h) (by exact Nat.le_of_ble_eq_true rfl) ?_
      obtain ⟨v4, e3, h⟩ := gz_bd h
      refine gz_useV (c_X8_copyFrom ht1 (gz_town3 (by assumption)) e3) ?_
      refine gz_iconst (pc := 55) dX5_takeBack_55 (v := 1) (by decide) ?_
      cases h; exact gz_zret (pc := 56) dX5_takeBack_56 rfl (by decide) ⟨rfl, rfl⟩
  · replace h := gz_ifn c h
    refine gz_iconst (pc := 7) dX5_takeBack_7 (v := 0) (by decide) ?_
    cases h; exact gz_zret (pc := 8) dX5_takeBack_8 rfl (by decide) ⟨rfl, rfl⟩
/-! X5_forget: forget -/
def f_X5_forget (I : gzIT) (J : gzJT) : Option (Unit × gzIT × gzJT) := some ((), gz_ui I 0 39 1 0, J)
set_option maxRecDepth 20000 in
theorem c_X5_forget {g : gzG} {d : Nat} {I : gzIT} {J : gzJT} {r : Unit × gzIT × gzJT} (h : f_X5_forget I J = some r) : gzC g 0 d mX5_forget [.inr (.inr (0, 39))] (gzN, gzR0, I, J) (gzE (.ok none) (gzN, gzR0, r.2.1, r.2.2)) := by
  unfold f_X5_forget at h
  refine gzC_of (by decide +kernel) (Nat.le_of_ble_eq_true rfl) (loc := [some (.inr (.inr (0, 39)))]) rfl ?_
  have z_0_39 : gzOk 0 39 gzN := gzOk_of (by decide)
  refine gz_aload_n (pc := 0) dX5_forget_0 rfl ?_
  refine gz_iconst (pc := 1) dX5_forget_1 (v := 0) (by decide) ?_
  refine gp_X5_17 (pc := 2) dX5_forget_2 z_0_39 rfl ?_
  cases h; exact gz_vret (pc := 5) dX5_forget_5 rfl ⟨rfl, rfl⟩
/-! X6_put: put -/
def gP_X6_put_3 (g : gzG) (d : Nat) (r : Unit × gzIT × gzJT) (x1 : Int32) (x2 : Int32) (I : gzIT) (J : gzJT) : Prop := gzX g 0 d mX6_put 3 [some (.inr (.inr (0, 31))), some (.inl x1), some (.inl x2)] [] (gzN, gzR0, I, J) 0 (gzE (.ok none) (gzN, gzR0, r.2.1, r.2.2))
def f_X6_put_3 (φ : Nat) : Nat → Int32 → Int32 → gzIT → gzJT → Option (Unit × gzIT × gzJT)
  | 0, _, _, _, _ => none
  | k + 1, x1, x2, I, J => if x2 < 0 then (some ((), I, J)) else (if 400 ≤ I 0 31 1 then (f_X6_put_3 φ k x1 (x2 + (-8)) I J) else (gzGd (I 0 31 1) 400 (f_X6_put_3 φ k x1 (x2 + (-8)) (gz_ui (gz_ui I 0 32 ((I 0 31 1).toNatClampNeg) (((x1.toUInt32 >>> ((x2 : Int32).toUInt32 &&& Int32.toUInt32 31)).toInt32) &&& 255)) 0 31 1 ((I 0 31 1) + 1)) J)))
set_option maxRecDepth 20000 in
theorem p_X6_put_3 {g : gzG} {d φ : Nat} {r : Unit × gzIT × gzJT} : ∀ (k : Nat) (x1 : Int32) (x2 : Int32) (I : gzIT) (J : gzJT), f_X6_put_3 φ k x1 x2 I J = some r → gP_X6_put_3 g d r x1 x2 I J := by
  intro k; induction k with
  | zero => intro x1 x2 I J h; cases h
  | succ k ih =>
    intro x1 x2 I J h
    unfold f_X6_put_3 at h
    unfold gP_X6_put_3
    have z_0_31 : gzOk 0 31 gzN := gzOk_of (by decide)
    have z_0_32 : gzOk 0 32 gzN := gzOk_of (by decide)
    refine gz_iload_n (pc := 3) dX6_put_3 rfl ?_
    refine gz_if_lt (pc := 4) (tgt := 51) dX6_put_4 (by decide) (fun c => ?_) (fun c => ?_)
    · replace h := gz_ifp c h
      cases h; exact gz_vret (pc := 51) dX6_put_51 rfl ⟨rfl, rfl⟩
    · replace h := gz_ifn c h
      refine gz_aload_n (pc := 7) dX6_put_7 rfl ?_
      refine gi_X6_15 (pc := 8) dX6_put_8 (v := I 0 31 1) z_0_31 rfl rfl ?_
      refine gz_aload_n (pc := 11) dX6_put_11 rfl ?_
      refine gr_X6_9 (pc := 12) dX6_put_12 z_0_31 rfl ?_
      refine gz_alen (pc := 15) dX6_put_15 z_0_32 rfl (by decide) (v := 400) (by decide) ?_
      refine gz_ic_ge (pc := 16) (tgt := 45) dX6_put_16 (by decide) (fun c => ?_) (fun c => ?_)
      · replace h := gz_ifp c h
        refine gz_iinc (pc := 45) dX6_put_45 (x := x2) (v := x2 + (-8)) rfl (by rw [show Int32.ofInt (-8) = (-8) by decide]) (by decide) rfl (loc2 := [some (.inr (.inr (0, 31))), some (.inl x1), some (.inl (x2 + (-8)))]) rfl ?_
        refine gz_goto (pc := 48) (tgt := 3) dX6_put_48 (by decide) ?_
        exact ih x1 (x2 + (-8)) I J h
      · replace h := gz_ifn c h
        refine gz_aload_n (pc := 19) dX6_put_19 rfl ?_
        refine gr_X6_9 (pc := 20) dX6_put_20 z_0_31 rfl ?_
        refine gz_aload_n (pc := 23) dX6_put_23 rfl ?_
        refine gi_X6_15 (pc := 24) dX6_put_24 (v := I 0 31 1) z_0_31 rfl rfl ?_
        refine gz_iload_n (pc := 27) dX6_put_27 rfl ?_
        refine gz_iload_n (pc := 28) dX6_put_28 rfl ?_
        refine gz_iushr (pc := 29) dX6_put_29 (v := (x1.toUInt32 >>> ((x2 : Int32).toUInt32 &&& Int32.toUInt32 31)).toInt32) rfl ?_
        refine gz_sipush (pc := 30) dX6_put_30 (v := 255) (by decide) ?_
        refine gz_iand (pc := 33) dX6_put_33  ?_
        obtain ⟨b1, h⟩ := gz_gd h
        refine gz_iast2 (pc := 34) dX6_put_34 (k := (I 0 31 1).toNatClampNeg) z_0_32 rfl b1 rfl ?_
        refine gz_aload_n (pc := 35) dX6_put_35 rfl ?_
        refine gz_dupR (pc := 36) dX6_put_36  ?_
        refine gi_X6_15 (pc := 37) dX6_put_37 (v := I 0 31 1) z_0_31 (gz_ui_o (by decide)) rfl ?_
        refine gz_iconst (pc := 40) dX6_put_40 (v := 1) (by decide) ?_
        refine gz_iadd (pc := 41) dX6_put_41  ?_
        refine gp_X6_15 (pc := 42) dX6_put_42 z_0_31 rfl ?_
        refine gz_iinc (pc := 45) dX6_put_45 (x := x2) (v := x2 + (-8)) rfl (by rw [show Int32.ofInt (-8) = (-8) by decide]) (by decide) rfl (loc2 := [some (.inr (.inr (0, 31))), some (.inl x1), some (.inl (x2 + (-8)))]) rfl ?_
        refine gz_goto (pc := 48) (tgt := 3) dX6_put_48 (by decide) ?_
        exact ih x1 (x2 + (-8)) (gz_ui (gz_ui I 0 32 ((I 0 31 1).toNatClampNeg) (((x1.toUInt32 >>> ((x2 : Int32).toUInt32 &&& Int32.toUInt32 31)).toInt32) &&& 255)) 0 31 1 ((I 0 31 1) + 1)) J h
def f_X6_put (φ : Nat) (a1 : Int32) (I : gzIT) (J : gzJT) : Option (Unit × gzIT × gzJT) := f_X6_put_3 φ φ a1 24 I J
set_option maxRecDepth 20000 in
theorem c_X6_put {g : gzG} {d φ : Nat} {a1 : Int32} {I : gzIT} {J : gzJT} {r : Unit × gzIT × gzJT} (h : f_X6_put φ a1 I J = some r) : gzC g 0 d mX6_put [.inr (.inr (0, 31)), .inl a1] (gzN, gzR0, I, J) (gzE (.ok none) (gzN, gzR0, r.2.1, r.2.2)) := by
  unfold f_X6_put at h
  refine gzC_of (by decide +kernel) (Nat.le_of_ble_eq_true rfl) (loc := [some (.inr (.inr (0, 31))), some (.inl a1), none]) rfl ?_
  refine gz_bipush (pc := 0) dX6_put_0 (v := 24) (by decide) ?_
  refine gz_istore_n (pc := 2) dX6_put_2 (by decide) rfl (loc2 := [some (.inr (.inr (0, 31))), some (.inl a1), some (.inl 24)]) rfl ?_
  exact p_X6_put_3 φ a1 24 I J h
/-! X6_use: use -/
def f_X6_use (I : gzIT) (J : gzJT) : Option (Int32 × gzIT × gzJT) := some ((I 0 31 1), gz_ui I 0 31 1 0, J)
set_option maxRecDepth 20000 in
theorem c_X6_use {g : gzG} {d : Nat} {I : gzIT} {J : gzJT} {r : Int32 × gzIT × gzJT} (h : f_X6_use I J = some r) : gzC g 0 d mX6_use [.inr (.inr (0, 31))] (gzN, gzR0, I, J) (gzE (.ok (some (.inl r.1))) (gzN, gzR0, r.2.1, r.2.2)) := by
  unfold f_X6_use at h
  refine gzC_of (by decide +kernel) (Nat.le_of_ble_eq_true rfl) (loc := [some (.inr (.inr (0, 31))), none]) rfl ?_
  have z_0_31 : gzOk 0 31 gzN := gzOk_of (by decide)
  refine gz_aload_n (pc := 0) dX6_use_0 rfl ?_
  refine gi_X6_15 (pc := 1) dX6_use_1 (v := I 0 31 1) z_0_31 rfl rfl ?_
  refine gz_istore_n (pc := 4) dX6_use_4 (by decide) rfl (loc2 := [some (.inr (.inr (0, 31))), some (.inl (I 0 31 1))]) rfl ?_
  refine gz_aload_n (pc := 5) dX6_use_5 rfl ?_
  refine gz_iconst (pc := 6) dX6_use_6 (v := 0) (by decide) ?_
  refine gp_X6_15 (pc := 7) dX6_use_7 z_0_31 rfl ?_
  refine gz_iload_n (pc := 10) dX6_use_10 rfl ?_
  cases h; exact gz_iret (pc := 11) dX6_use_11 rfl ⟨rfl, rfl⟩
/-! X6_byteAt: byteAt -/
def f_X6_byteAt (I : gzIT) (a1 : Int32) : Option Int32 := Option.bind (f_X11_cell 0 32 400 I a1) (fun v2 => some v2)
set_option maxRecDepth 20000 in
theorem c_X6_byteAt {g : gzG} {d : Nat} {a1 : Int32} {I : gzIT} {J : gzJT} {r : Int32} (h : f_X6_byteAt I a1 = some r) : gzC g 0 (d + 1) mX6_byteAt [.inr (.inr (0, 31)), .inl a1] (gzN, gzR0, I, J) (gzE (.ok (some (.inl r))) (gzN, gzR0, I, J)) := by
  unfold f_X6_byteAt at h
  refine gzC_of (by decide +kernel) (Nat.le_of_ble_eq_true rfl) (loc := [some (.inr (.inr (0, 31))), some (.inl a1)]) rfl ?_
  have z_0_31 : gzOk 0 31 gzN := gzOk_of (by decide)
  have z_0_32 : gzOk 0 32 gzN := gzOk_of (by decide)
  refine gz_aload_n (pc := 0) dX6_byteAt_0 rfl ?_
  refine gr_X6_9 (pc := 1) dX6_byteAt_1 z_0_31 rfl ?_
  refine gz_iload_n (pc := 4) dX6_byteAt_4 rfl ?_
  refine gz_SN (zy := mX11_cell) (zc := 0) (pc := 5) [.inr (.inr (0, 32)), .inl a1] rfl dX6_byteAt_5 lnX6_19 MsX11_cell rfl (Or.inl rfl) (fun h => h) (by exact Nat.le_of_ble_eq_true rfl) ?_
  obtain ⟨v2, e1, h⟩ := gz_bd h
  refine gz_useI (c_X11_cell (gzOk_of (by decide)) rfl e1) ?_
  cases h; exact gz_iret (pc := 8) dX6_byteAt_8 rfl ⟨rfl, rfl⟩
/-! X7_kindOf: kindOf -/
def f_X7_kindOf (a1 : Int32) : Option Int32 := if ¬ a1 = 32 then (if a1 < 97 then (if a1 < 48 then (some 3) else (if 57 < a1 then (some 3) else (some 2))) else (if 122 < a1 then (if a1 < 48 then (some 3) else (if 57 < a1 then (some 3) else (some 2))) else (some 1))) else (some 0)
set_option maxRecDepth 20000 in
theorem c_X7_kindOf {g : gzG} {d : Nat} {a1 : Int32} {I : gzIT} {J : gzJT} {r : Int32} (h : f_X7_kindOf a1 = some r) : gzC g 0 d mX7_kindOf [.inl a1] (gzN, gzR0, I, J) (gzE (.ok (some (.inl r))) (gzN, gzR0, I, J)) := by
  unfold f_X7_kindOf at h
  refine gzC_of (by decide +kernel) (Nat.le_of_ble_eq_true rfl) (loc := [some (.inl a1)]) rfl ?_
  refine gz_iload_n (pc := 0) dX7_kindOf_0 rfl ?_
  refine gz_bipush (pc := 1) dX7_kindOf_1 (v := 32) (by decide) ?_
  refine gz_ic_ne (pc := 3) (tgt := 8) dX7_kindOf_3 (by decide) (fun c => ?_) (fun c => ?_)
  · replace h := gz_ifp c h
    refine gz_iload_n (pc := 8) dX7_kindOf_8 rfl ?_
    refine gz_bipush (pc := 9) dX7_kindOf_9 (v := 97) (by decide) ?_
    refine gz_ic_lt (pc := 11) (tgt := 22) dX7_kindOf_11 (by decide) (fun c => ?_) (fun c => ?_)
    · replace h := gz_ifp c h
      refine gz_iload_n (pc := 22) dX7_kindOf_22 rfl ?_
      refine gz_bipush (pc := 23) dX7_kindOf_23 (v := 48) (by decide) ?_
      refine gz_ic_lt (pc := 25) (tgt := 38) dX7_kindOf_25 (by decide) (fun c => ?_) (fun c => ?_)
      · replace h := gz_ifp c h
        refine gz_iconst (pc := 38) dX7_kindOf_38 (v := 3) (by decide) ?_
        cases h; exact gz_iret (pc := 39) dX7_kindOf_39 rfl ⟨rfl, rfl⟩
      · replace h := gz_ifn c h
        refine gz_iload_n (pc := 28) dX7_kindOf_28 rfl ?_
        refine gz_bipush (pc := 29) dX7_kindOf_29 (v := 57) (by decide) ?_
        refine gz_ic_gt (pc := 31) (tgt := 38) dX7_kindOf_31 (by decide) (fun c => ?_) (fun c => ?_)
        · replace h := gz_ifp c h
          refine gz_iconst (pc := 38) dX7_kindOf_38 (v := 3) (by decide) ?_
          cases h; exact gz_iret (pc := 39) dX7_kindOf_39 rfl ⟨rfl, rfl⟩
        · replace h := gz_ifn c h
          refine gz_iconst (pc := 34) dX7_kindOf_34 (v := 2) (by decide) ?_
          refine gz_goto (pc := 35) (tgt := 39) dX7_kindOf_35 (by decide) ?_
          cases h; exact gz_iret (pc := 39) dX7_kindOf_39 rfl ⟨rfl, rfl⟩
    · replace h := gz_ifn c h
      refine gz_iload_n (pc := 14) dX7_kindOf_14 rfl ?_
      refine gz_bipush (pc := 15) dX7_kindOf_15 (v := 122) (by decide) ?_
      refine gz_ic_gt (pc := 17) (tgt := 22) dX7_kindOf_17 (by decide) (fun c => ?_) (fun c => ?_)
      · replace h := gz_ifp c h
        refine gz_iload_n (pc := 22) dX7_kindOf_22 rfl ?_
        refine gz_bipush (pc := 23) dX7_kindOf_23 (v := 48) (by decide) ?_
        refine gz_ic_lt (pc := 25) (tgt := 38) dX7_kindOf_25 (by decide) (fun c => ?_) (fun c => ?_)
        · replace h := gz_ifp c h
          refine gz_iconst (pc := 38) dX7_kindOf_38 (v := 3) (by decide) ?_
          cases h; exact gz_iret (pc := 39) dX7_kindOf_39 rfl ⟨rfl, rfl⟩
        · replace h := gz_ifn c h
          refine gz_iload_n (pc := 28) dX7_kindOf_28 rfl ?_
          refine gz_bipush (pc := 29) dX7_kindOf_29 (v := 57) (by decide) ?_
          refine gz_ic_gt (pc := 31) (tgt := 38) dX7_kindOf_31 (by decide) (fun c => ?_) (fun c => ?_)
          · replace h := gz_ifp c h
            refine gz_iconst (pc := 38) dX7_kindOf_38 (v := 3) (by decide) ?_
            cases h; exact gz_iret (pc := 39) dX7_kindOf_39 rfl ⟨rfl, rfl⟩
          · replace h := gz_ifn c h
            refine gz_iconst (pc := 34) dX7_kindOf_34 (v := 2) (by decide) ?_
            refine gz_goto (pc := 35) (tgt := 39) dX7_kindOf_35 (by decide) ?_
            cases h; exact gz_iret (pc := 39) dX7_kindOf_39 rfl ⟨rfl, rfl⟩
      · replace h := gz_ifn c h
        refine gz_iconst (pc := 20) dX7_kindOf_20 (v := 1) (by decide) ?_
        cases h; exact gz_iret (pc := 21) dX7_kindOf_21 rfl ⟨rfl, rfl⟩
  · replace h := gz_ifn (fun q => q c) h
    refine gz_iconst (pc := 6) dX7_kindOf_6 (v := 0) (by decide) ?_
    cases h; exact gz_iret (pc := 7) dX7_kindOf_7 rfl ⟨rfl, rfl⟩
/-! X7_numberOf: numberOf -/
def gP_X7_numberOf_15 (g : gzG) (d : Nat) (r : Int32) (x2 : Int32) (x3 : Int32) (x4 : Int32) (I : gzIT) (J : gzJT) : Prop := gzX g 0 (d + 2) mX7_numberOf 15 [some (.inr (.inr (0, 31))), none, some (.inl x2), some (.inl x3), some (.inl x4)] [] (gzN, gzR0, I, J) 0 (gzE (.ok (some (.inl r))) (gzN, gzR0, I, J))
def f_X7_numberOf_15 (φ : Nat) (I : gzIT) : Nat → Int32 → Int32 → Int32 → Option Int32
  | 0, _, _, _ => none
  | k + 1, x2, x3, x4 => if x2 ≤ x4 then (some x3) else (Option.bind (f_X6_byteAt I x4) (fun v2 => f_X7_numberOf_15 φ I k x2 (((x3 * 10) + v2) - 48) (x4 + 1)))
set_option maxRecDepth 20000 in
theorem p_X7_numberOf_15 {g : gzG} {d φ : Nat} {I : gzIT} {J : gzJT} {r : Int32} : ∀ (k : Nat) (x2 : Int32) (x3 : Int32) (x4 : Int32), f_X7_numberOf_15 φ I k x2 x3 x4 = some r → gP_X7_numberOf_15 g d r x2 x3 x4 I J := by
  intro k; induction k with
  | zero => intro x2 x3 x4 h; cases h
  | succ k ih =>
    intro x2 x3 x4 h
    unfold f_X7_numberOf_15 at h
    unfold gP_X7_numberOf_15
    have z_0_31 : gzOk 0 31 gzN := gzOk_of (by decide)
    refine gz_iload (pc := 15) dX7_numberOf_15 rfl ?_
    refine gz_iload_n (pc := 17) dX7_numberOf_17 rfl ?_
    refine gz_ic_ge (pc := 18) (tgt := 42) dX7_numberOf_18 (by decide) (fun c => ?_) (fun c => ?_)
    · replace h := gz_ifp c h
      refine gz_iload_n (pc := 42) dX7_numberOf_42 rfl ?_
      cases h; exact gz_iret (pc := 43) dX7_numberOf_43 rfl ⟨rfl, rfl⟩
    · replace h := gz_ifn c h
      refine gz_iload_n (pc := 21) dX7_numberOf_21 rfl ?_
      refine gz_bipush (pc := 22) dX7_numberOf_22 (v := 10) (by decide) ?_
      refine gz_imul (pc := 24) dX7_numberOf_24  ?_
      refine gz_aload_n (pc := 25) dX7_numberOf_25 rfl ?_
      refine gz_iload (pc := 26) dX7_numberOf_26 rfl ?_
      refine gz_V (zy := mX6_byteAt) (zc := 0) (pc := 28) [.inl x4] rfl dX7_numberOf_28 lkX7_58 MvX6_byteAt rfl z_0_31 rfl rfl rfl (Or.inl rfl) (fun h => h) (by exact Nat.le_of_ble_eq_true rfl) ?_
      obtain ⟨v2, e1, h⟩ := gz_bd h
      refine gz_useI (c_X6_byteAt e1) ?_
      refine gz_iadd (pc := 31) dX7_numberOf_31  ?_
      refine gz_bipush (pc := 32) dX7_numberOf_32 (v := 48) (by decide) ?_
      refine gz_isub (pc := 34) dX7_numberOf_34  ?_
      refine gz_istore_n (pc := 35) dX7_numberOf_35 (by decide) rfl (loc2 := [some (.inr (.inr (0, 31))), none, some (.inl x2), some (.inl (((x3 * 10) + v2) - 48)), some (.inl x4)]) rfl ?_
      refine gz_iinc (pc := 36) dX7_numberOf_36 (x := x4) (v := x4 + 1) rfl (by rw [show Int32.ofInt 1 = 1 by decide]) (by decide) rfl (loc2 := [some (.inr (.inr (0, 31))), none, some (.inl x2), some (.inl (((x3 * 10) + v2) - 48)), some (.inl (x4 + 1))]) rfl ?_
      refine gz_goto (pc := 39) (tgt := 15) dX7_numberOf_39 (by decide) ?_
      exact ih x2 (((x3 * 10) + v2) - 48) (x4 + 1) h
def f_X7_numberOf (φ : Nat) (I : gzIT) (a2 : Int32) (a3 : Int32) : Option Int32 := if a3 - a2 ≤ 3 then (f_X7_numberOf_15 φ I φ a3 0 a2) else (some (-2))
set_option maxRecDepth 20000 in
theorem c_X7_numberOf {g : gzG} {d φ : Nat} {a2 : Int32} {a3 : Int32} {I : gzIT} {J : gzJT} {r : Int32} (h : f_X7_numberOf φ I a2 a3 = some r) : gzC g 0 (d + 2) mX7_numberOf [.inr (.inr (0, 31)), .inl a2, .inl a3] (gzN, gzR0, I, J) (gzE (.ok (some (.inl r))) (gzN, gzR0, I, J)) := by
  unfold f_X7_numberOf at h
  refine gzC_of (by decide +kernel) (Nat.le_of_ble_eq_true rfl) (loc := [some (.inr (.inr (0, 31))), some (.inl a2), some (.inl a3), none, none]) rfl ?_
  refine gz_iload_n (pc := 0) dX7_numberOf_0 rfl ?_
  refine gz_iload_n (pc := 1) dX7_numberOf_1 rfl ?_
  refine gz_isub (pc := 2) dX7_numberOf_2  ?_
  refine gz_iconst (pc := 3) dX7_numberOf_3 (v := 3) (by decide) ?_
  refine gz_ic_le (pc := 4) (tgt := 10) dX7_numberOf_4 (by decide) (fun c => ?_) (fun c => ?_)
  · replace h := gz_ifp c h
    refine gz_iconst (pc := 10) dX7_numberOf_10 (v := 0) (by decide) ?_
    refine gz_istore_n (pc := 11) dX7_numberOf_11 (by decide) rfl (loc2 := [some (.inr (.inr (0, 31))), some (.inl a2), some (.inl a3), some (.inl 0), none]) rfl ?_
    refine gz_iload_n (pc := 12) dX7_numberOf_12 rfl ?_
    refine gz_istore (pc := 13) dX7_numberOf_13 (by decide) rfl (loc2 := [some (.inr (.inr (0, 31))), some (.inl a2), some (.inl a3), some (.inl 0), some (.inl a2)]) rfl ?_
    exact gz_weak (loc2 := [some (.inr (.inr (0, 31))), none, some (.inl a3), some (.inl 0), some (.inl a2)]) (p_X7_numberOf_15 φ a3 0 a2 h) (by repeat (first | exact trivial | refine ⟨rfl, ?_⟩))
  · replace h := gz_ifn c h
    refine gz_bipush (pc := 7) dX7_numberOf_7 (v := (-2)) (by decide) ?_
    cases h; exact gz_iret (pc := 9) dX7_numberOf_9 rfl ⟨rfl, rfl⟩
/-! X7_cut: cut -/
def gP_X7_cut_87 (g : gzG) (d : Nat) (r : Unit × gzIT × gzJT) (x2 : Int32) (x4 : Int32) (x5 : Int32) (I : gzIT) (J : gzJT) : Prop := gzX g 0 (d + 2) mX7_cut 87 [some (.inr (.inr (0, 33))), some (.inr (.inr (0, 31))), some (.inl x2), none, some (.inl x4), some (.inl x5), none] [] (gzN, gzR0, I, J) 0 (gzE (.ok none) (gzN, gzR0, r.2.1, r.2.2))
def gP_X7_cut_43 (g : gzG) (d : Nat) (r : Unit × gzIT × gzJT) (x2 : Int32) (x4 : Int32) (x5 : Int32) (I : gzIT) (J : gzJT) : Prop := gzX g 0 (d + 2) mX7_cut 43 [some (.inr (.inr (0, 33))), some (.inr (.inr (0, 31))), some (.inl x2), none, some (.inl x4), some (.inl x5), none] [] (gzN, gzR0, I, J) 0 (gzE (.ok none) (gzN, gzR0, r.2.1, r.2.2))
def gP_X7_cut_10 (g : gzG) (d : Nat) (r : Unit × gzIT × gzJT) (x2 : Int32) (x3 : Int32) (x4 : Int32) (I : gzIT) (J : gzJT) : Prop := gzX g 0 (d + 2) mX7_cut 10 [some (.inr (.inr (0, 33))), some (.inr (.inr (0, 31))), some (.inl x2), some (.inl x3), some (.inl x4), none, none] [] (gzN, gzR0, I, J) 0 (gzE (.ok none) (gzN, gzR0, r.2.1, r.2.2))
def f_X7_cut_87 (φ : Nat) (K10 : Int32 → Int32 → Int32 → gzIT → gzJT → Option (Unit × gzIT × gzJT)) (x2 : Int32) (x4 : Int32) (x5 : Int32) (I : gzIT) (J : gzJT) : Option (Unit × gzIT × gzJT) := if x5 = 0 then (K10 x2 x5 (x4 + 1) I J) else (Option.bind (f_X11_write 0 36 401 ((I 0 33 3) - 1) (x4 + 1) I J) (fun v8 => K10 x2 x5 (x4 + 1) v8.2.1 v8.2.2))
set_option maxRecDepth 20000 in
theorem p_X7_cut_87 {g : gzG} {d φ : Nat} {r : Unit × gzIT × gzJT} {K10 : Int32 → Int32 → Int32 → gzIT → gzJT → Option (Unit × gzIT × gzJT)} (hK10 : ∀ (x2 : Int32) (x3 : Int32) (x4 : Int32) (I : gzIT) (J : gzJT), K10 x2 x3 x4 I J = some r → gP_X7_cut_10 g d r x2 x3 x4 I J) (x2 : Int32) (x4 : Int32) (x5 : Int32) (I : gzIT) (J : gzJT) (h : f_X7_cut_87 φ K10 x2 x4 x5 I J = some r) : gP_X7_cut_87 g d r x2 x4 x5 I J := by
  unfold f_X7_cut_87 at h
  unfold gP_X7_cut_87
  have z_0_33 : gzOk 0 33 gzN := gzOk_of (by decide)
  have z_0_36 : gzOk 0 36 gzN := gzOk_of (by decide)
  refine gz_iload (pc := 87) dX7_cut_87 rfl ?_
  refine gz_if_eq (pc := 89) (tgt := 109) dX7_cut_89 (by decide) (fun c => ?_) (fun c => ?_)
  · replace h := gz_ifp c h
    refine gz_iload (pc := 109) dX7_cut_109 rfl ?_
    refine gz_istore_n (pc := 111) dX7_cut_111 (by decide) rfl (loc2 := [some (.inr (.inr (0, 33))), some (.inr (.inr (0, 31))), some (.inl x2), some (.inl x5), some (.inl x4), some (.inl x5), none]) rfl ?_
    refine gz_iinc (pc := 112) dX7_cut_112 (x := x4) (v := x4 + 1) rfl (by rw [show Int32.ofInt 1 = 1 by decide]) (by decide) rfl (loc2 := [some (.inr (.inr (0, 33))), some (.inr (.inr (0, 31))), some (.inl x2), some (.inl x5), some (.inl (x4 + 1)), some (.inl x5), none]) rfl ?_
    refine gz_goto (pc := 115) (tgt := 10) dX7_cut_115 (by decide) ?_
    exact gz_weak (loc2 := [some (.inr (.inr (0, 33))), some (.inr (.inr (0, 31))), some (.inl x2), some (.inl x5), some (.inl (x4 + 1)), none, none]) (hK10 x2 x5 (x4 + 1) I J h) (by repeat (first | exact trivial | refine ⟨rfl, ?_⟩))
  · replace h := gz_ifn c h
    refine gz_aload_n (pc := 92) dX7_cut_92 rfl ?_
    refine gr_X7_18 (pc := 93) dX7_cut_93 z_0_33 rfl ?_
    refine gz_aload_n (pc := 96) dX7_cut_96 rfl ?_
    refine gi_X7_21 (pc := 97) dX7_cut_97 (v := I 0 33 3) z_0_33 rfl rfl ?_
    refine gz_iconst (pc := 100) dX7_cut_100 (v := 1) (by decide) ?_
    refine gz_isub (pc := 101) dX7_cut_101  ?_
    refine gz_iload (pc := 102) dX7_cut_102 rfl ?_
    refine gz_iconst (pc := 104) dX7_cut_104 (v := 1) (by decide) ?_
    refine gz_iadd (pc := 105) dX7_cut_105  ?_
    refine gz_SN (zy := mX11_write) (zc := 0) (pc := 106) [.inr (.inr (0, 36)), .inl ((I 0 33 3) - 1), .inl (x4 + 1)] rfl dX7_cut_106 lnX7_51 MsX11_write rfl (Or.inl rfl) (fun h => h) (by exact Nat.le_of_ble_eq_true rfl) ?_
    obtain ⟨v8, e7, h⟩ := gz_bd h
    refine gz_useV (c_X11_write (gzOk_of (by decide)) rfl e7) ?_
    refine gz_iload (pc := 109) dX7_cut_109 rfl ?_
    refine gz_istore_n (pc := 111) dX7_cut_111 (by decide) rfl (loc2 := [some (.inr (.inr (0, 33))), some (.inr (.inr (0, 31))), some (.inl x2), some (.inl x5), some (.inl x4), some (.inl x5), none]) rfl ?_
    refine gz_iinc (pc := 112) dX7_cut_112 (x := x4) (v := x4 + 1) rfl (by rw [show Int32.ofInt 1 = 1 by decide]) (by decide) rfl (loc2 := [some (.inr (.inr (0, 33))), some (.inr (.inr (0, 31))), some (.inl x2), some (.inl x5), some (.inl (x4 + 1)), some (.inl x5), none]) rfl ?_
    refine gz_goto (pc := 115) (tgt := 10) dX7_cut_115 (by decide) ?_
    exact gz_weak (loc2 := [some (.inr (.inr (0, 33))), some (.inr (.inr (0, 31))), some (.inl x2), some (.inl x5), some (.inl (x4 + 1)), none, none]) (hK10 x2 x5 (x4 + 1) v8.2.1 v8.2.2 h) (by repeat (first | exact trivial | refine ⟨rfl, ?_⟩))
def f_X7_cut_43 (φ : Nat) (K10 : Int32 → Int32 → Int32 → gzIT → gzJT → Option (Unit × gzIT × gzJT)) (x2 : Int32) (x4 : Int32) (x5 : Int32) (I : gzIT) (J : gzJT) : Option (Unit × gzIT × gzJT) := if x5 = 0 then (f_X7_cut_87 φ K10 x2 x4 x5 I J) else (if ¬ 0 = (0 : Int32) then (f_X7_cut_87 φ K10 x2 x4 x5 I J) else (if 400 ≤ I 0 33 3 then (f_X7_cut_87 φ K10 x2 x4 x5 I J) else (gzGd (I 0 33 3) 401 (f_X7_cut_87 φ K10 x2 x4 x5 (gz_ui (gz_ui I 0 35 ((I 0 33 3).toNatClampNeg) x4) 0 33 3 ((I 0 33 3) + 1)) J))))
set_option maxRecDepth 20000 in
theorem p_X7_cut_43 {g : gzG} {d φ : Nat} {r : Unit × gzIT × gzJT} {K10 : Int32 → Int32 → Int32 → gzIT → gzJT → Option (Unit × gzIT × gzJT)} (hK10 : ∀ (x2 : Int32) (x3 : Int32) (x4 : Int32) (I : gzIT) (J : gzJT), K10 x2 x3 x4 I J = some r → gP_X7_cut_10 g d r x2 x3 x4 I J) (x2 : Int32) (x4 : Int32) (x5 : Int32) (I : gzIT) (J : gzJT) (h : f_X7_cut_43 φ K10 x2 x4 x5 I J = some r) : gP_X7_cut_43 g d r x2 x4 x5 I J := by
  unfold f_X7_cut_43 at h
  unfold gP_X7_cut_43
  have z_0_33 : gzOk 0 33 gzN := gzOk_of (by decide)
  have z_0_35 : gzOk 0 35 gzN := gzOk_of (by decide)
  refine gz_iconst (pc := 43) dX7_cut_43 (v := 0) (by decide) ?_
  refine gz_istore (pc := 44) dX7_cut_44 (by decide) rfl (loc2 := [some (.inr (.inr (0, 33))), some (.inr (.inr (0, 31))), some (.inl x2), none, some (.inl x4), some (.inl x5), some (.inl 0)]) rfl ?_
  refine gz_iload (pc := 46) dX7_cut_46 rfl ?_
  refine gz_if_eq (pc := 48) (tgt := 87) dX7_cut_48 (by decide) (fun c => ?_) (fun c => ?_)
  · replace h := gz_ifp c h
    exact gz_weak (loc2 := [some (.inr (.inr (0, 33))), some (.inr (.inr (0, 31))), some (.inl x2), none, some (.inl x4), some (.inl x5), none]) (p_X7_cut_87 hK10 x2 x4 x5 I J h) (by repeat (first | exact trivial | refine ⟨rfl, ?_⟩))
  · replace h := gz_ifn c h
    refine gz_iload (pc := 51) dX7_cut_51 rfl ?_
    refine gz_if_ne (pc := 53) (tgt := 87) dX7_cut_53 (by decide) (fun c => ?_) (fun c => ?_)
    · replace h := gz_ifp c h
      exact gz_weak (loc2 := [some (.inr (.inr (0, 33))), some (.inr (.inr (0, 31))), some (.inl x2), none, some (.inl x4), some (.inl x5), none]) (p_X7_cut_87 hK10 x2 x4 x5 I J h) (by repeat (first | exact trivial | refine ⟨rfl, ?_⟩))
    · replace h := gz_ifn (fun q => q c) h
      refine gz_aload_n (pc := 56) dX7_cut_56 rfl ?_
      refine gi_X7_21 (pc := 57) dX7_cut_57 (v := I 0 33 3) z_0_33 rfl rfl ?_
      refine gz_sipush (pc := 60) dX7_cut_60 (v := 400) (by decide) ?_
      refine gz_ic_ge (pc := 63) (tgt := 87) dX7_cut_63 (by decide) (fun c => ?_) (fun c => ?_)
      · replace h := gz_ifp c h
        exact gz_weak (loc2 := [some (.inr (.inr (0, 33))), some (.inr (.inr (0, 31))), some (.inl x2), none, some (.inl x4), some (.inl x5), none]) (p_X7_cut_87 hK10 x2 x4 x5 I J h) (by repeat (first | exact trivial | refine ⟨rfl, ?_⟩))
      · replace h := gz_ifn c h
        refine gz_aload_n (pc := 66) dX7_cut_66 rfl ?_
        refine gr_X7_15 (pc := 67) dX7_cut_67 z_0_33 rfl ?_
        refine gz_aload_n (pc := 70) dX7_cut_70 rfl ?_
        refine gi_X7_21 (pc := 71) dX7_cut_71 (v := I 0 33 3) z_0_33 rfl rfl ?_
        refine gz_iload (pc := 74) dX7_cut_74 rfl ?_
        obtain ⟨b6, h⟩ := gz_gd h
        refine gz_iast2 (pc := 76) dX7_cut_76 (k := (I 0 33 3).toNatClampNeg) z_0_35 rfl b6 rfl ?_
        refine gz_aload_n (pc := 77) dX7_cut_77 rfl ?_
        refine gz_dupR (pc := 78) dX7_cut_78  ?_
        refine gi_X7_21 (pc := 79) dX7_cut_79 (v := I 0 33 3) z_0_33 (gz_ui_o (by decide)) rfl ?_
        refine gz_iconst (pc := 82) dX7_cut_82 (v := 1) (by decide) ?_
        refine gz_iadd (pc := 83) dX7_cut_83  ?_
        refine gp_X7_21 (pc := 84) dX7_cut_84 z_0_33 rfl ?_
        exact gz_weak (loc2 := [some (.inr (.inr (0, 33))), some (.inr (.inr (0, 31))), some (.inl x2), none, some (.inl x4), some (.inl x5), none]) (p_X7_cut_87 hK10 x2 x4 x5 (gz_ui (gz_ui I 0 35 ((I 0 33 3).toNatClampNeg) x4) 0 33 3 ((I 0 33 3) + 1)) J h) (by repeat (first | exact trivial | refine ⟨rfl, ?_⟩))
def f_X7_cut_10 (φ : Nat) : Nat → Int32 → Int32 → Int32 → gzIT → gzJT → Option (Unit × gzIT × gzJT)
  | 0, _, _, _, _, _ => none
  | k + 1, x2, x3, x4, I, J => if x2 ≤ x4 then (some ((), I, J)) else (Option.bind (f_X6_byteAt I x4) (fun v2 => Option.bind (f_X7_kindOf v2) (fun v4 => if ¬ v4 = x3 then (f_X7_cut_43 φ (f_X7_cut_10 φ k) x2 x4 v4 I J) else (if v4 = 3 then (f_X7_cut_43 φ (f_X7_cut_10 φ k) x2 x4 v4 I J) else (if v4 = 0 then (f_X7_cut_87 φ (f_X7_cut_10 φ k) x2 x4 v4 I J) else (if ¬ 1 = (0 : Int32) then (f_X7_cut_87 φ (f_X7_cut_10 φ k) x2 x4 v4 I J) else (if 400 ≤ I 0 33 3 then (f_X7_cut_87 φ (f_X7_cut_10 φ k) x2 x4 v4 I J) else (gzGd (I 0 33 3) 401 (f_X7_cut_87 φ (f_X7_cut_10 φ k) x2 x4 v4 (gz_ui (gz_ui I 0 35 ((I 0 33 3).toNatClampNeg) x4) 0 33 3 ((I 0 33 3) + 1)) J)))))))))
set_option maxRecDepth 20000 in
theorem p_X7_cut_10 {g : gzG} {d φ : Nat} {r : Unit × gzIT × gzJT} : ∀ (k : Nat) (x2 : Int32) (x3 : Int32) (x4 : Int32) (I : gzIT) (J : gzJT), f_X7_cut_10 φ k x2 x3 x4 I J = some r → gP_X7_cut_10 g d r x2 x3 x4 I J := by
  intro k; induction k with
  | zero => intro x2 x3 x4 I J h; cases h
  | succ k ih =>
    intro x2 x3 x4 I J h
    unfold f_X7_cut_10 at h
    unfold gP_X7_cut_10
    have z_0_31 : gzOk 0 31 gzN := gzOk_of (by decide)
    have z_0_33 : gzOk 0 33 gzN := gzOk_of (by decide)
    have z_0_35 : gzOk 0 35 gzN := gzOk_of (by decide)
    refine gz_iload (pc := 10) dX7_cut_10 rfl ?_
    refine gz_iload_n (pc := 12) dX7_cut_12 rfl ?_
    refine gz_ic_ge (pc := 13) (tgt := 118) dX7_cut_13 (by decide) (fun c => ?_) (fun c => ?_)
    · replace h := gz_ifp c h
      cases h; exact gz_vret (pc := 118) dX7_cut_118 rfl ⟨rfl, rfl⟩
    · replace h := gz_ifn c h
      refine gz_aload_n (pc := 16) dX7_cut_16 rfl ?_
      refine gz_iload (pc := 17) dX7_cut_17 rfl ?_
      refine gz_V (zy := mX6_byteAt) (zc := 0) (pc := 19) [.inl x4] rfl dX7_cut_19 lkX7_58 MvX6_byteAt rfl z_0_31 rfl rfl rfl (Or.inl rfl) (fun h => h) (by exact Nat.le_of_ble_eq_true rfl) ?_
      obtain ⟨v2, e1, h⟩ := gz_bd h
      refine gz_useI (c_X6_byteAt e1) ?_
      refine gz_S (zy := mX7_kindOf) (zc := 0) (pc := 22) [.inl v2] rfl dX7_cut_22 lkX7_62 MsX7_kindOf rfl (Or.inl rfl) (fun h => h) (by exact Nat.le_of_ble_eq_true rfl) ?_
      obtain ⟨v4, e3, h⟩ := gz_bd h
      refine gz_useI (c_X7_kindOf e3) ?_
      refine gz_istore (pc := 25) dX7_cut_25 (by decide) rfl (loc2 := [some (.inr (.inr (0, 33))), some (.inr (.inr (0, 31))), some (.inl x2), some (.inl x3), some (.inl x4), some (.inl v4), none]) rfl ?_
      refine gz_iload (pc := 27) dX7_cut_27 rfl ?_
      refine gz_iload_n (pc := 29) dX7_cut_29 rfl ?_
      refine gz_ic_ne (pc := 30) (tgt := 43) dX7_cut_30 (by decide) (fun c => ?_) (fun c => ?_)
      · replace h := gz_ifp c h
        exact gz_weak (loc2 := [some (.inr (.inr (0, 33))), some (.inr (.inr (0, 31))), some (.inl x2), none, some (.inl x4), some (.inl v4), none]) (p_X7_cut_43 ih x2 x4 v4 I J h) (by repeat (first | exact trivial | refine ⟨rfl, ?_⟩))
      · replace h := gz_ifn (fun q => q c) h
        refine gz_iload (pc := 33) dX7_cut_33 rfl ?_
        refine gz_iconst (pc := 35) dX7_cut_35 (v := 3) (by decide) ?_
        refine gz_ic_eq (pc := 36) (tgt := 43) dX7_cut_36 (by decide) (fun c => ?_) (fun c => ?_)
        · replace h := gz_ifp c h
          exact gz_weak (loc2 := [some (.inr (.inr (0, 33))), some (.inr (.inr (0, 31))), some (.inl x2), none, some (.inl x4), some (.inl v4), none]) (p_X7_cut_43 ih x2 x4 v4 I J h) (by repeat (first | exact trivial | refine ⟨rfl, ?_⟩))
        · replace h := gz_ifn c h
          refine gz_iconst (pc := 39) dX7_cut_39 (v := 1) (by decide) ?_
          refine gz_goto (pc := 40) (tgt := 44) dX7_cut_40 (by decide) ?_
          refine gz_istore (pc := 44) dX7_cut_44 (by decide) rfl (loc2 := [some (.inr (.inr (0, 33))), some (.inr (.inr (0, 31))), some (.inl x2), some (.inl x3), some (.inl x4), some (.inl v4), some (.inl 1)]) rfl ?_
          refine gz_iload (pc := 46) dX7_cut_46 rfl ?_
          refine gz_if_eq (pc := 48) (tgt := 87) dX7_cut_48 (by decide) (fun c => ?_) (fun c => ?_)
          · replace h := gz_ifp c h
            exact gz_weak (loc2 := [some (.inr (.inr (0, 33))), some (.inr (.inr (0, 31))), some (.inl x2), none, some (.inl x4), some (.inl v4), none]) (p_X7_cut_87 ih x2 x4 v4 I J h) (by repeat (first | exact trivial | refine ⟨rfl, ?_⟩))
          · replace h := gz_ifn c h
            refine gz_iload (pc := 51) dX7_cut_51 rfl ?_
            refine gz_if_ne (pc := 53) (tgt := 87) dX7_cut_53 (by decide) (fun c => ?_) (fun c => ?_)
            · replace h := gz_ifp c h
              exact gz_weak (loc2 := [some (.inr (.inr (0, 33))), some (.inr (.inr (0, 31))), some (.inl x2), none, some (.inl x4), some (.inl v4), none]) (p_X7_cut_87 ih x2 x4 v4 I J h) (by repeat (first | exact trivial | refine ⟨rfl, ?_⟩))
            · replace h := gz_ifn (fun q => q c) h
              refine gz_aload_n (pc := 56) dX7_cut_56 rfl ?_
              refine gi_X7_21 (pc := 57) dX7_cut_57 (v := I 0 33 3) z_0_33 rfl rfl ?_
              refine gz_sipush (pc := 60) dX7_cut_60 (v := 400) (by decide) ?_
              refine gz_ic_ge (pc := 63) (tgt := 87) dX7_cut_63 (by decide) (fun c => ?_) (fun c => ?_)
              · replace h := gz_ifp c h
                exact gz_weak (loc2 := [some (.inr (.inr (0, 33))), some (.inr (.inr (0, 31))), some (.inl x2), none, some (.inl x4), some (.inl v4), none]) (p_X7_cut_87 ih x2 x4 v4 I J h) (by repeat (first | exact trivial | refine ⟨rfl, ?_⟩))
              · replace h := gz_ifn c h
                refine gz_aload_n (pc := 66) dX7_cut_66 rfl ?_
                refine gr_X7_15 (pc := 67) dX7_cut_67 z_0_33 rfl ?_
                refine gz_aload_n (pc := 70) dX7_cut_70 rfl ?_
                refine gi_X7_21 (pc := 71) dX7_cut_71 (v := I 0 33 3) z_0_33 rfl rfl ?_
                refine gz_iload (pc := 74) dX7_cut_74 rfl ?_
                obtain ⟨b5, h⟩ := gz_gd h
                refine gz_iast2 (pc := 76) dX7_cut_76 (k := (I 0 33 3).toNatClampNeg) z_0_35 rfl b5 rfl ?_
                refine gz_aload_n (pc := 77) dX7_cut_77 rfl ?_
                refine gz_dupR (pc := 78) dX7_cut_78  ?_
                refine gi_X7_21 (pc := 79) dX7_cut_79 (v := I 0 33 3) z_0_33 (gz_ui_o (by decide)) rfl ?_
                refine gz_iconst (pc := 82) dX7_cut_82 (v := 1) (by decide) ?_
                refine gz_iadd (pc := 83) dX7_cut_83  ?_
                refine gp_X7_21 (pc := 84) dX7_cut_84 z_0_33 rfl ?_
                exact gz_weak (loc2 := [some (.inr (.inr (0, 33))), some (.inr (.inr (0, 31))), some (.inl x2), none, some (.inl x4), some (.inl v4), none]) (p_X7_cut_87 ih x2 x4 v4 (gz_ui (gz_ui I 0 35 ((I 0 33 3).toNatClampNeg) x4) 0 33 3 ((I 0 33 3) + 1)) J h) (by repeat (first | exact trivial | refine ⟨rfl, ?_⟩))
def f_X7_cut (φ : Nat) (a2 : Int32) (I : gzIT) (J : gzJT) : Option (Unit × gzIT × gzJT) := f_X7_cut_10 φ φ a2 0 0 (gz_ui I 0 33 3 0) J
set_option maxRecDepth 20000 in
theorem c_X7_cut {g : gzG} {d φ : Nat} {a2 : Int32} {I : gzIT} {J : gzJT} {r : Unit × gzIT × gzJT} (h : f_X7_cut φ a2 I J = some r) : gzC g 0 (d + 2) mX7_cut [.inr (.inr (0, 33)), .inr (.inr (0, 31)), .inl a2] (gzN, gzR0, I, J) (gzE (.ok none) (gzN, gzR0, r.2.1, r.2.2)) := by
  unfold f_X7_cut at h
  refine gzC_of (by decide +kernel) (Nat.le_of_ble_eq_true rfl) (loc := [some (.inr (.inr (0, 33))), some (.inr (.inr (0, 31))), some (.inl a2), none, none, none, none]) rfl ?_
  have z_0_33 : gzOk 0 33 gzN := gzOk_of (by decide)
  refine gz_aload_n (pc := 0) dX7_cut_0 rfl ?_
  refine gz_iconst (pc := 1) dX7_cut_1 (v := 0) (by decide) ?_
  refine gp_X7_21 (pc := 2) dX7_cut_2 z_0_33 rfl ?_
  refine gz_iconst (pc := 5) dX7_cut_5 (v := 0) (by decide) ?_
  refine gz_istore_n (pc := 6) dX7_cut_6 (by decide) rfl (loc2 := [some (.inr (.inr (0, 33))), some (.inr (.inr (0, 31))), some (.inl a2), some (.inl 0), none, none, none]) rfl ?_
  refine gz_iconst (pc := 7) dX7_cut_7 (v := 0) (by decide) ?_
  refine gz_istore (pc := 8) dX7_cut_8 (by decide) rfl (loc2 := [some (.inr (.inr (0, 33))), some (.inr (.inr (0, 31))), some (.inl a2), some (.inl 0), some (.inl 0), none, none]) rfl ?_
  exact p_X7_cut_10 φ a2 0 0 (gz_ui I 0 33 3 0) J h
/-! X8_heatNow: heatNow -/
def f_X8_heatNow (t : Nat) (I : gzIT) : Option Int32 := Option.bind (f_X11_cell t 19 4 I ((I t 0 7) - (I t 0 7) / 4 * 4)) (fun v3 => some v3)
set_option maxRecDepth 20000 in
theorem c_X8_heatNow {g : gzG} {d : Nat} {t : Nat} (ht : t < 15) {I : gzIT} {J : gzJT} {r : Int32} (h : f_X8_heatNow t I = some r) : gzC g 0 (d + 1) mX8_heatNow [.inr (.inr (t, 0))] (gzN, gzR0, I, J) (gzE (.ok (some (.inl r))) (gzN, gzR0, I, J)) := by
  unfold f_X8_heatNow at h
  refine gzC_of (by decide +kernel) (Nat.le_of_ble_eq_true rfl) (loc := [some (.inr (.inr (t, 0)))]) rfl ?_
  have z_t_0 : gzOk t 0 gzN := gzOk_of ht
  have z_t_19 : gzOk t 19 gzN := gzOk_of ht
  refine gz_aload_n (pc := 0) dX8_heatNow_0 rfl ?_
  refine gr_X8_39 (pc := 1) dX8_heatNow_1 z_t_0 rfl ?_
  refine gz_aload_n (pc := 4) dX8_heatNow_4 rfl ?_
  refine gi_X8_46 (pc := 5) dX8_heatNow_5 (v := I t 0 7) z_t_0 rfl rfl ?_
  refine gz_iconst (pc := 8) dX8_heatNow_8 (v := 4) (by decide) ?_
  refine gz_irem (pc := 9) dX8_heatNow_9 (by decide) ?_
  refine gz_SN (zy := mX11_cell) (zc := 0) (pc := 10) [.inr (.inr (t, 19)), .inl ((I t 0 7) - (I t 0 7) / 4 * 4)] rfl dX8_heatNow_10 lnX8_76 MsX11_cell rfl (Or.inl rfl) (fun h => h) (by exact Nat.le_of_ble_eq_true rfl) ?_
  obtain ⟨v3, e2, h⟩ := gz_bd h
  refine gz_useI (c_X11_cell z_t_19 rfl e2) ?_
  cases h; exact gz_iret (pc := 13) dX8_heatNow_13 rfl ⟨rfl, rfl⟩
/-! J6_bitCount_0f7a4: bitCount -/
def f_J6_bitCount_0f7a4 (a1 : Int32) : Option Int32 := some ((((((((a1 - (((a1.toUInt32 >>> ((1 : Int32).toUInt32 &&& Int32.toUInt32 31)).toInt32) &&& 1431655765)) &&& 858993459) + ((((a1 - (((a1.toUInt32 >>> ((1 : Int32).toUInt32 &&& Int32.toUInt32 31)).toInt32) &&& 1431655765)).toUInt32 >>> ((2 : Int32).toUInt32 &&& Int32.toUInt32 31)).toInt32) &&& 858993459)) + (((((a1 - (((a1.toUInt32 >>> ((1 : Int32).toUInt32 &&& Int32.toUInt32 31)).toInt32) &&& 1431655765)) &&& 858993459) + ((((a1 - (((a1.toUInt32 >>> ((1 : Int32).toUInt32 &&& Int32.toUInt32 31)).toInt32) &&& 1431655765)).toUInt32 >>> ((2 : Int32).toUInt32 &&& Int32.toUInt32 31)).toInt32) &&& 858993459)).toUInt32 >>> ((4 : Int32).toUInt32 &&& Int32.toUInt32 31)).toInt32)) &&& 252645135) + (((((((a1 - (((a1.toUInt32 >>> ((1 : Int32).toUInt32 &&& Int32.toUInt32 31)).toInt32) &&& 1431655765)) &&& 858993459) + ((((a1 - (((a1.toUInt32 >>> ((1 : Int32).toUInt32 &&& Int32.toUInt32 31)).toInt32) &&& 1431655765)).toUInt32 >>> ((2 : Int32).toUInt32 &&& Int32.toUInt32 31)).toInt32) &&& 858993459)) + (((((a1 - (((a1.toUInt32 >>> ((1 : Int32).toUInt32 &&& Int32.toUInt32 31)).toInt32) &&& 1431655765)) &&& 858993459) + ((((a1 - (((a1.toUInt32 >>> ((1 : Int32).toUInt32 &&& Int32.toUInt32 31)).toInt32) &&& 1431655765)).toUInt32 >>> ((2 : Int32).toUInt32 &&& Int32.toUInt32 31)).toInt32) &&& 858993459)).toUInt32 >>> ((4 : Int32).toUInt32 &&& Int32.toUInt32 31)).toInt32)) &&& 252645135).toUInt32 >>> ((8 : Int32).toUInt32 &&& Int32.toUInt32 31)).toInt32)) + ((((((((a1 - (((a1.toUInt32 >>> ((1 : Int32).toUInt32 &&& Int32.toUInt32 31)).toInt32) &&& 1431655765)) &&& 858993459) + ((((a1 - (((a1.toUInt32 >>> ((1 : Int32).toUInt32 &&& Int32.toUInt32 31)).toInt32) &&& 1431655765)).toUInt32 >>> ((2 : Int32).toUInt32 &&& Int32.toUInt32 31)).toInt32) &&& 858993459)) + (((((a1 - (((a1.toUInt32 >>> ((1 : Int32).toUInt32 &&& Int32.toUInt32 31)).toInt32) &&& 1431655765)) &&& 858993459) + ((((a1 - (((a1.toUInt32 >>> ((1 : Int32).toUInt32 &&& Int32.toUInt32 31)).toInt32) &&& 1431655765)).toUInt32 >>> ((2 : Int32).toUInt32 &&& Int32.toUInt32 31)).toInt32) &&& 858993459)).toUInt32 >>> ((4 : Int32).toUInt32 &&& Int32.toUInt32 31)).toInt32)) &&& 252645135) + (((((((a1 - (((a1.toUInt32 >>> ((1 : Int32).toUInt32 &&& Int32.toUInt32 31)).toInt32) &&& 1431655765)) &&& 858993459) + ((((a1 - (((a1.toUInt32 >>> ((1 : Int32).toUInt32 &&& Int32.toUInt32 31)).toInt32) &&& 1431655765)).toUInt32 >>> ((2 : Int32).toUInt32 &&& Int32.toUInt32 31)).toInt32) &&& 858993459)) + (((((a1 - (((a1.toUInt32 >>> ((1 : Int32).toUInt32 &&& Int32.toUInt32 31)).toInt32) &&& 1431655765)) &&& 858993459) + ((((a1 - (((a1.toUInt32 >>> ((1 : Int32).toUInt32 &&& Int32.toUInt32 31)).toInt32) &&& 1431655765)).toUInt32 >>> ((2 : Int32).toUInt32 &&& Int32.toUInt32 31)).toInt32) &&& 858993459)).toUInt32 >>> ((4 : Int32).toUInt32 &&& Int32.toUInt32 31)).toInt32)) &&& 252645135).toUInt32 >>> ((8 : Int32).toUInt32 &&& Int32.toUInt32 31)).toInt32)).toUInt32 >>> ((16 : Int32).toUInt32 &&& Int32.toUInt32 31)).toInt32)) &&& 63)
set_option maxRecDepth 20000 in
theorem c_J6_bitCount_0f7a4 {g : gzG} {d : Nat} {a1 : Int32} {I : gzIT} {J : gzJT} {r : Int32} (h : f_J6_bitCount_0f7a4 a1 = some r) : gzC g 0 d mJ6_bitCount_0f7a4 [.inl a1] (gzN, gzR0, I, J) (gzE (.ok (some (.inl r))) (gzN, gzR0, I, J)) := by
  unfold f_J6_bitCount_0f7a4 at h
  refine gzC_of (by decide +kernel) (Nat.le_of_ble_eq_true rfl) (loc := [some (.inl a1)]) rfl ?_
  refine gz_iload_n (pc := 0) dJ6_bitCount_0f7a4_0 rfl ?_
  refine gz_iload_n (pc := 1) dJ6_bitCount_0f7a4_1 rfl ?_
  refine gz_iconst (pc := 2) dJ6_bitCount_0f7a4_2 (v := 1) (by decide) ?_
  refine gz_iushr (pc := 3) dJ6_bitCount_0f7a4_3 (v := (a1.toUInt32 >>> ((1 : Int32).toUInt32 &&& Int32.toUInt32 31)).toInt32) rfl ?_
  refine gz_ldcw (pc := 4) dJ6_bitCount_0f7a4_4 kcJ6_265.1 kcJ6_265.2 ?_
  refine gz_iand (pc := 7) dJ6_bitCount_0f7a4_7  ?_
  refine gz_isub (pc := 8) dJ6_bitCount_0f7a4_8  ?_
  refine gz_istore_n (pc := 9) dJ6_bitCount_0f7a4_9 (by decide) rfl (loc2 := [some (.inl (a1 - (((a1.toUInt32 >>> ((1 : Int32).toUInt32 &&& Int32.toUInt32 31)).toInt32) &&& 1431655765)))]) rfl ?_
  refine gz_iload_n (pc := 10) dJ6_bitCount_0f7a4_10 rfl ?_
  refine gz_ldcw (pc := 11) dJ6_bitCount_0f7a4_11 kcJ6_266.1 kcJ6_266.2 ?_
  refine gz_iand (pc := 14) dJ6_bitCount_0f7a4_14  ?_
  refine gz_iload_n (pc := 15) dJ6_bitCount_0f7a4_15 rfl ?_
  refine gz_iconst (pc := 16) dJ6_bitCount_0f7a4_16 (v := 2) (by decide) ?_
  refine gz_iushr (pc := 17) dJ6_bitCount_0f7a4_17 (v := ((a1 - (((a1.toUInt32 >>> ((1 : Int32).toUInt32 &&& Int32.toUInt32 31)).toInt32) &&& 1431655765)).toUInt32 >>> ((2 : Int32).toUInt32 &&& Int32.toUInt32 31)).toInt32) rfl ?_
  refine gz_ldcw (pc := 18) dJ6_bitCount_0f7a4_18 kcJ6_266.1 kcJ6_266.2 ?_
  refine gz_iand (pc := 21) dJ6_bitCount_0f7a4_21  ?_
  refine gz_iadd (pc := 22) dJ6_bitCount_0f7a4_22  ?_
  refine gz_istore_n (pc := 23) dJ6_bitCount_0f7a4_23 (by decide) rfl (loc2 := [some (.inl (((a1 - (((a1.toUInt32 >>> ((1 : Int32).toUInt32 &&& Int32.toUInt32 31)).toInt32) &&& 1431655765)) &&& 858993459) + ((((a1 - (((a1.toUInt32 >>> ((1 : Int32).toUInt32 &&& Int32.toUInt32 31)).toInt32) &&& 1431655765)).toUInt32 >>> ((2 : Int32).toUInt32 &&& Int32.toUInt32 31)).toInt32) &&& 858993459)))]) rfl ?_
  refine gz_iload_n (pc := 24) dJ6_bitCount_0f7a4_24 rfl ?_
  refine gz_iload_n (pc := 25) dJ6_bitCount_0f7a4_25 rfl ?_
  refine gz_iconst (pc := 26) dJ6_bitCount_0f7a4_26 (v := 4) (by decide) ?_
  refine gz_iushr (pc := 27) dJ6_bitCount_0f7a4_27 (v := ((((a1 - (((a1.toUInt32 >>> ((1 : Int32).toUInt32 &&& Int32.toUInt32 31)).toInt32) &&& 1431655765)) &&& 858993459) + ((((a1 - (((a1.toUInt32 >>> ((1 : Int32).toUInt32 &&& Int32.toUInt32 31)).toInt32) &&& 1431655765)).toUInt32 >>> ((2 : Int32).toUInt32 &&& Int32.toUInt32 31)).toInt32) &&& 858993459)).toUInt32 >>> ((4 : Int32).toUInt32 &&& Int32.toUInt32 31)).toInt32) rfl ?_
  refine gz_iadd (pc := 28) dJ6_bitCount_0f7a4_28  ?_
  refine gz_ldcw (pc := 29) dJ6_bitCount_0f7a4_29 kcJ6_267.1 kcJ6_267.2 ?_
  refine gz_iand (pc := 32) dJ6_bitCount_0f7a4_32  ?_
  refine gz_istore_n (pc := 33) dJ6_bitCount_0f7a4_33 (by decide) rfl (loc2 := [some (.inl (((((a1 - (((a1.toUInt32 >>> ((1 : Int32).toUInt32 &&& Int32.toUInt32 31)).toInt32) &&& 1431655765)) &&& 858993459) + ((((a1 - (((a1.toUInt32 >>> ((1 : Int32).toUInt32 &&& Int32.toUInt32 31)).toInt32) &&& 1431655765)).toUInt32 >>> ((2 : Int32).toUInt32 &&& Int32.toUInt32 31)).toInt32) &&& 858993459)) + (((((a1 - (((a1.toUInt32 >>> ((1 : Int32).toUInt32 &&& Int32.toUInt32 31)).toInt32) &&& 1431655765)) &&& 858993459) + ((((a1 - (((a1.toUInt32 >>> ((1 : Int32).toUInt32 &&& Int32.toUInt32 31)).toInt32) &&& 1431655765)).toUInt32 >>> ((2 : Int32).toUInt32 &&& Int32.toUInt32 31)).toInt32) &&& 858993459)).toUInt32 >>> ((4 : Int32).toUInt32 &&& Int32.toUInt32 31)).toInt32)) &&& 252645135))]) rfl ?_
  refine gz_iload_n (pc := 34) dJ6_bitCount_0f7a4_34 rfl ?_
  refine gz_iload_n (pc := 35) dJ6_bitCount_0f7a4_35 rfl ?_
  refine gz_bipush (pc := 36) dJ6_bitCount_0f7a4_36 (v := 8) (by decide) ?_
  refine gz_iushr (pc := 38) dJ6_bitCount_0f7a4_38 (v := ((((((a1 - (((a1.toUInt32 >>> ((1 : Int32).toUInt32 &&& Int32.toUInt32 31)).toInt32) &&& 1431655765)) &&& 858993459) + ((((a1 - (((a1.toUInt32 >>> ((1 : Int32).toUInt32 &&& Int32.toUInt32 31)).toInt32) &&& 1431655765)).toUInt32 >>> ((2 : Int32).toUInt32 &&& Int32.toUInt32 31)).toInt32) &&& 858993459)) + (((((a1 - (((a1.toUInt32 >>> ((1 : Int32).toUInt32 &&& Int32.toUInt32 31)).toInt32) &&& 1431655765)) &&& 858993459) + ((((a1 - (((a1.toUInt32 >>> ((1 : Int32).toUInt32 &&& Int32.toUInt32 31)).toInt32) &&& 1431655765)).toUInt32 >>> ((2 : Int32).toUInt32 &&& Int32.toUInt32 31)).toInt32) &&& 858993459)).toUInt32 >>> ((4 : Int32).toUInt32 &&& Int32.toUInt32 31)).toInt32)) &&& 252645135).toUInt32 >>> ((8 : Int32).toUInt32 &&& Int32.toUInt32 31)).toInt32) rfl ?_
  refine gz_iadd (pc := 39) dJ6_bitCount_0f7a4_39  ?_
  refine gz_istore_n (pc := 40) dJ6_bitCount_0f7a4_40 (by decide) rfl (loc2 := [some (.inl ((((((a1 - (((a1.toUInt32 >>> ((1 : Int32).toUInt32 &&& Int32.toUInt32 31)).toInt32) &&& 1431655765)) &&& 858993459) + ((((a1 - (((a1.toUInt32 >>> ((1 : Int32).toUInt32 &&& Int32.toUInt32 31)).toInt32) &&& 1431655765)).toUInt32 >>> ((2 : Int32).toUInt32 &&& Int32.toUInt32 31)).toInt32) &&& 858993459)) + (((((a1 - (((a1.toUInt32 >>> ((1 : Int32).toUInt32 &&& Int32.toUInt32 31)).toInt32) &&& 1431655765)) &&& 858993459) + ((((a1 - (((a1.toUInt32 >>> ((1 : Int32).toUInt32 &&& Int32.toUInt32 31)).toInt32) &&& 1431655765)).toUInt32 >>> ((2 : Int32).toUInt32 &&& Int32.toUInt32 31)).toInt32) &&& 858993459)).toUInt32 >>> ((4 : Int32).toUInt32 &&& Int32.toUInt32 31)).toInt32)) &&& 252645135) + (((((((a1 - (((a1.toUInt32 >>> ((1 : Int32).toUInt32 &&& Int32.toUInt32 31)).toInt32) &&& 1431655765)) &&& 858993459) + ((((a1 - (((a1.toUInt32 >>> ((1 : Int32).toUInt32 &&& Int32.toUInt32 31)).toInt32) &&& 1431655765)).toUInt32 >>> ((2 : Int32).toUInt32 &&& Int32.toUInt32 31)).toInt32) &&& 858993459)) + (((((a1 - (((a1.toUInt32 >>> ((1 : Int32).toUInt32 &&& Int32.toUInt32 31)).toInt32) &&& 1431655765)) &&& 858993459) + ((((a1 - (((a1.toUInt32 >>> ((1 : Int32).toUInt32 &&& Int32.toUInt32 31)).toInt32) &&& 1431655765)).toUInt32 >>> ((2 : Int32).toUInt32 &&& Int32.toUInt32 31)).toInt32) &&& 858993459)).toUInt32 >>> ((4 : Int32).toUInt32 &&& Int32.toUInt32 31)).toInt32)) &&& 252645135).toUInt32 >>> ((8 : Int32).toUInt32 &&& Int32.toUInt32 31)).toInt32)))]) rfl ?_
  refine gz_iload_n (pc := 41) dJ6_bitCount_0f7a4_41 rfl ?_
  refine gz_iload_n (pc := 42) dJ6_bitCount_0f7a4_42 rfl ?_
  refine gz_bipush (pc := 43) dJ6_bitCount_0f7a4_43 (v := 16) (by decide) ?_
  refine gz_iushr (pc := 45) dJ6_bitCount_0f7a4_45 (v := (((((((a1 - (((a1.toUInt32 >>> ((1 : Int32).toUInt32 &&& Int32.toUInt32 31)).toInt32) &&& 1431655765)) &&& 858993459) + ((((a1 - (((a1.toUInt32 >>> ((1 : Int32).toUInt32 &&& Int32.toUInt32 31)).toInt32) &&& 1431655765)).toUInt32 >>> ((2 : Int32).toUInt32 &&& Int32.toUInt32 31)).toInt32) &&& 858993459)) + (((((a1 - (((a1.toUInt32 >>> ((1 : Int32).toUInt32 &&& Int32.toUInt32 31)).toInt32) &&& 1431655765)) &&& 858993459) + ((((a1 - (((a1.toUInt32 >>> ((1 : Int32).toUInt32 &&& Int32.toUInt32 31)).toInt32) &&& 1431655765)).toUInt32 >>> ((2 : Int32).toUInt32 &&& Int32.toUInt32 31)).toInt32) &&& 858993459)).toUInt32 >>> ((4 : Int32).toUInt32 &&& Int32.toUInt32 31)).toInt32)) &&& 252645135) + (((((((a1 - (((a1.toUInt32 >>> ((1 : Int32).toUInt32 &&& Int32.toUInt32 31)).toInt32) &&& 1431655765)) &&& 858993459) + ((((a1 - (((a1.toUInt32 >>> ((1 : Int32).toUInt32 &&& Int32.toUInt32 31)).toInt32) &&& 1431655765)).toUInt32 >>> ((2 : Int32).toUInt32 &&& Int32.toUInt32 31)).toInt32) &&& 858993459)) + (((((a1 - (((a1.toUInt32 >>> ((1 : Int32).toUInt32 &&& Int32.toUInt32 31)).toInt32) &&& 1431655765)) &&& 858993459) + ((((a1 - (((a1.toUInt32 >>> ((1 : Int32).toUInt32 &&& Int32.toUInt32 31)).toInt32) &&& 1431655765)).toUInt32 >>> ((2 : Int32).toUInt32 &&& Int32.toUInt32 31)).toInt32) &&& 858993459)).toUInt32 >>> ((4 : Int32).toUInt32 &&& Int32.toUInt32 31)).toInt32)) &&& 252645135).toUInt32 >>> ((8 : Int32).toUInt32 &&& Int32.toUInt32 31)).toInt32)).toUInt32 >>> ((16 : Int32).toUInt32 &&& Int32.toUInt32 31)).toInt32) rfl ?_
  refine gz_iadd (pc := 46) dJ6_bitCount_0f7a4_46  ?_
  refine gz_istore_n (pc := 47) dJ6_bitCount_0f7a4_47 (by decide) rfl (loc2 := [some (.inl (((((((a1 - (((a1.toUInt32 >>> ((1 : Int32).toUInt32 &&& Int32.toUInt32 31)).toInt32) &&& 1431655765)) &&& 858993459) + ((((a1 - (((a1.toUInt32 >>> ((1 : Int32).toUInt32 &&& Int32.toUInt32 31)).toInt32) &&& 1431655765)).toUInt32 >>> ((2 : Int32).toUInt32 &&& Int32.toUInt32 31)).toInt32) &&& 858993459)) + (((((a1 - (((a1.toUInt32 >>> ((1 : Int32).toUInt32 &&& Int32.toUInt32 31)).toInt32) &&& 1431655765)) &&& 858993459) + ((((a1 - (((a1.toUInt32 >>> ((1 : Int32).toUInt32 &&& Int32.toUInt32 31)).toInt32) &&& 1431655765)).toUInt32 >>> ((2 : Int32).toUInt32 &&& Int32.toUInt32 31)).toInt32) &&& 858993459)).toUInt32 >>> ((4 : Int32).toUInt32 &&& Int32.toUInt32 31)).toInt32)) &&& 252645135) + (((((((a1 - (((a1.toUInt32 >>> ((1 : Int32).toUInt32 &&& Int32.toUInt32 31)).toInt32) &&& 1431655765)) &&& 858993459) + ((((a1 - (((a1.toUInt32 >>> ((1 : Int32).toUInt32 &&& Int32.toUInt32 31)).toInt32) &&& 1431655765)).toUInt32 >>> ((2 : Int32).toUInt32 &&& Int32.toUInt32 31)).toInt32) &&& 858993459)) + (((((a1 - (((a1.toUInt32 >>> ((1 : Int32).toUInt32 &&& Int32.toUInt32 31)).toInt32) &&& 1431655765)) &&& 858993459) + ((((a1 - (((a1.toUInt32 >>> ((1 : Int32).toUInt32 &&& Int32.toUInt32 31)).toInt32) &&& 1431655765)).toUInt32 >>> ((2 : Int32).toUInt32 &&& Int32.toUInt32 31)).toInt32) &&& 858993459)).toUInt32 >>> ((4 : Int32).toUInt32 &&& Int32.toUInt32 31)).toInt32)) &&& 252645135).toUInt32 >>> ((8 : Int32).toUInt32 &&& Int32.toUInt32 31)).toInt32)) + ((((((((a1 - (((a1.toUInt32 >>> ((1 : Int32).toUInt32 &&& Int32.toUInt32 31)).toInt32) &&& 1431655765)) &&& 858993459) + ((((a1 - (((a1.toUInt32 >>> ((1 : Int32).toUInt32 &&& Int32.toUInt32 31)).toInt32) &&& 1431655765)).toUInt32 >>> ((2 : Int32).toUInt32 &&& Int32.toUInt32 31)).toInt32) &&& 858993459)) + (((((a1 - (((a1.toUInt32 >>> ((1 : Int32).toUInt32 &&& Int32.toUInt32 31)).toInt32) &&& 1431655765)) &&& 858993459) + ((((a1 - (((a1.toUInt32 >>> ((1 : Int32).toUInt32 &&& Int32.toUInt32 31)).toInt32) &&& 1431655765)).toUInt32 >>> ((2 : Int32).toUInt32 &&& Int32.toUInt32 31)).toInt32) &&& 858993459)).toUInt32 >>> ((4 : Int32).toUInt32 &&& Int32.toUInt32 31)).toInt32)) &&& 252645135) + (((((((a1 - (((a1.toUInt32 >>> ((1 : Int32).toUInt32 &&& Int32.toUInt32 31)).toInt32) &&& 1431655765)) &&& 858993459) + ((((a1 - (((a1.toUInt32 >>> ((1 : Int32).toUInt32 &&& Int32.toUInt32 31)).toInt32) &&& 1431655765)).toUInt32 >>> ((2 : Int32).toUInt32 &&& Int32.toUInt32 31)).toInt32) &&& 858993459)) + (((((a1 - (((a1.toUInt32 >>> ((1 : Int32).toUInt32 &&& Int32.toUInt32 31)).toInt32) &&& 1431655765)) &&& 858993459) + ((((a1 - (((a1.toUInt32 >>> ((1 : Int32).toUInt32 &&& Int32.toUInt32 31)).toInt32) &&& 1431655765)).toUInt32 >>> ((2 : Int32).toUInt32 &&& Int32.toUInt32 31)).toInt32) &&& 858993459)).toUInt32 >>> ((4 : Int32).toUInt32 &&& Int32.toUInt32 31)).toInt32)) &&& 252645135).toUInt32 >>> ((8 : Int32).toUInt32 &&& Int32.toUInt32 31)).toInt32)).toUInt32 >>> ((16 : Int32).toUInt32 &&& Int32.toUInt32 31)).toInt32)))]) rfl ?_
  refine gz_iload_n (pc := 48) dJ6_bitCount_0f7a4_48 rfl ?_
  refine gz_bipush (pc := 49) dJ6_bitCount_0f7a4_49 (v := 63) (by decide) ?_
  refine gz_iand (pc := 51) dJ6_bitCount_0f7a4_51  ?_
  cases h; exact gz_iret (pc := 52) dJ6_bitCount_0f7a4_52 rfl ⟨rfl, rfl⟩
/-! X8_draw: draw -/
def f_X8_draw (t : Nat) (I : gzIT) (J : gzJT) : Option (Int32 × gzIT × gzJT) := some ((((((1103515245 * (I t 0 11)) + 12345).toUInt32 >>> ((16 : Int32).toUInt32 &&& Int32.toUInt32 31)).toInt32) &&& 32767), gz_ui I t 0 11 ((1103515245 * (I t 0 11)) + 12345), J)
set_option maxRecDepth 20000 in
theorem c_X8_draw {g : gzG} {d : Nat} {t : Nat} (ht : t < 15) {I : gzIT} {J : gzJT} {r : Int32 × gzIT × gzJT} (h : f_X8_draw t I J = some r) : gzC g 0 d mX8_draw [.inr (.inr (t, 0))] (gzN, gzR0, I, J) (gzE (.ok (some (.inl r.1))) (gzN, gzR0, r.2.1, r.2.2)) := by
  unfold f_X8_draw at h
  refine gzC_of (by decide +kernel) (Nat.le_of_ble_eq_true rfl) (loc := [some (.inr (.inr (t, 0)))]) rfl ?_
  have z_t_0 : gzOk t 0 gzN := gzOk_of ht
  refine gz_aload_n (pc := 0) dX8_draw_0 rfl ?_
  refine gz_ldc (pc := 1) dX8_draw_1 kcX8_187.1 kcX8_187.2 ?_
  refine gz_aload_n (pc := 3) dX8_draw_3 rfl ?_
  refine gi_X8_59 (pc := 4) dX8_draw_4 (v := I t 0 11) z_t_0 rfl rfl ?_
  refine gz_imul (pc := 7) dX8_draw_7  ?_
  refine gz_sipush (pc := 8) dX8_draw_8 (v := 12345) (by decide) ?_
  refine gz_iadd (pc := 11) dX8_draw_11  ?_
  refine gp_X8_59 (pc := 12) dX8_draw_12 z_t_0 rfl ?_
  refine gz_aload_n (pc := 15) dX8_draw_15 rfl ?_
  refine gi_X8_59 (pc := 16) dX8_draw_16 (v := (1103515245 * (I t 0 11)) + 12345) z_t_0 (gz_ui_s) rfl ?_
  refine gz_bipush (pc := 19) dX8_draw_19 (v := 16) (by decide) ?_
  refine gz_iushr (pc := 21) dX8_draw_21 (v := (((1103515245 * (I t 0 11)) + 12345).toUInt32 >>> ((16 : Int32).toUInt32 &&& Int32.toUInt32 31)).toInt32) rfl ?_
  refine gz_sipush (pc := 22) dX8_draw_22 (v := 32767) (by decide) ?_
  refine gz_iand (pc := 25) dX8_draw_25  ?_
  cases h; exact gz_iret (pc := 26) dX8_draw_26 rfl ⟨rfl, rfl⟩
/-! X8_lose: lose -/
def f_X8_lose (t : Nat) (a1 : Int32) (a2 : Int32) (a3 : Int32) (I : gzIT) (J : gzJT) : Option (Unit × gzIT × gzJT) := Option.bind (f_X11_cell t 12 10 I a1) (fun v2 => Option.bind (f_X11_write t 12 10 a1 (v2 - a3) I J) (fun v4 => Option.bind (f_X4_put t (v4.2.1 t 0 7) a1 a2 a3 v4.2.1 v4.2.2) (fun v6 => some ((), v6.2.1, v6.2.2))))
set_option maxRecDepth 20000 in
theorem c_X8_lose {g : gzG} {d : Nat} {t : Nat} (ht : t < 15) {a1 : Int32} {a2 : Int32} {a3 : Int32} {I : gzIT} {J : gzJT} {r : Unit × gzIT × gzJT} (h : f_X8_lose t a1 a2 a3 I J = some r) : gzC g 0 (d + 2) mX8_lose [.inr (.inr (t, 0)), .inl a1, .inl a2, .inl a3] (gzN, gzR0, I, J) (gzE (.ok none) (gzN, gzR0, r.2.1, r.2.2)) := by
  unfold f_X8_lose at h
  refine gzC_of (by decide +kernel) (Nat.le_of_ble_eq_true rfl) (loc := [some (.inr (.inr (t, 0))), some (.inl a1), some (.inl a2), some (.inl a3)]) rfl ?_
  have z_t_0 : gzOk t 0 gzN := gzOk_of ht
  have z_t_7 : gzOk t 7 gzN := gzOk_of ht
  have z_t_12 : gzOk t 12 gzN := gzOk_of ht
  have z_t_15 : gzOk t 15 gzN := gzOk_of ht
  refine gz_aload_n (pc := 0) dX8_lose_0 rfl ?_
  refine gr_X8_21 (pc := 1) dX8_lose_1 z_t_0 rfl ?_
  refine gr_X8_107 (pc := 4) dX8_lose_4 z_t_7 rfl ?_
  refine gz_iload_n (pc := 7) dX8_lose_7 rfl ?_
  refine gz_aload_n (pc := 8) dX8_lose_8 rfl ?_
  refine gr_X8_21 (pc := 9) dX8_lose_9 z_t_0 rfl ?_
  refine gr_X8_107 (pc := 12) dX8_lose_12 z_t_7 rfl ?_
  refine gz_iload_n (pc := 15) dX8_lose_15 rfl ?_
  refine gz_SN (zy := mX11_cell) (zc := 0) (pc := 16) [.inr (.inr (t, 12)), .inl a1] rfl dX8_lose_16 lnX8_76 MsX11_cell rfl (Or.inl rfl) (fun h => h) (by exact Nat.le_of_ble_eq_true rfl) ?_
  obtain ⟨v2, e1, h⟩ := gz_bd h
  refine gz_useI (c_X11_cell z_t_12 rfl e1) ?_
  refine gz_iload_n (pc := 19) dX8_lose_19 rfl ?_
  refine gz_isub (pc := 20) dX8_lose_20  ?_
  refine gz_SN (zy := mX11_write) (zc := 0) (pc := 21) [.inr (.inr (t, 12)), .inl a1, .inl (v2 - a3)] rfl dX8_lose_21 lnX8_125 MsX11_write rfl (Or.inl rfl) (fun h => h) (by exact Nat.le_of_ble_eq_true rfl) ?_
  obtain ⟨v4, e3, h⟩ := gz_bd h
  refine gz_useV (c_X11_write z_t_12 rfl e3) ?_
  refine gz_aload_n (pc := 24) dX8_lose_24 rfl ?_
  refine gr_X8_28 (pc := 25) dX8_lose_25 z_t_0 rfl ?_
  refine gz_aload_n (pc := 28) dX8_lose_28 rfl ?_
  refine gi_X8_46 (pc := 29) dX8_lose_29 (v := v4.2.1 t 0 7) z_t_0 rfl rfl ?_
  refine gz_iload_n (pc := 32) dX8_lose_32 rfl ?_
  refine gz_iload_n (pc := 33) dX8_lose_33 rfl ?_
  refine gz_iload_n (pc := 34) dX8_lose_34 rfl ?_
  refine gz_V (zy := mX4_put) (zc := 0) (pc := 35) [.inl (v4.2.1 t 0 7), .inl a1, .inl a2, .inl a3] rfl dX8_lose_35 lkX8_139 MvX4_put rfl z_t_15 rfl rfl rfl (Or.inl rfl) (fun h => h) (by exact Nat.le_of_ble_eq_true rfl) ?_
  obtain ⟨v6, e5, h⟩ := gz_bd h
  refine gz_useV (c_X4_put ht e5) ?_
  cases h; exact gz_vret (pc := 38) dX8_lose_38 rfl ⟨rfl, rfl⟩
/-! X8_kissByDraw: kissByDraw -/
def gP_X8_kissByDraw_40 (g : gzG) (t : Nat) (d : Nat) (r : Unit × gzIT × gzJT) (x2 : Int32) (x3 : Int32) (I : gzIT) (J : gzJT) : Prop := gzX g 0 (d + 3) mX8_kissByDraw 40 [some (.inr (.inr (t, 0))), none, some (.inl x2), some (.inl x3)] [] (gzN, gzR0, I, J) 0 (gzE (.ok none) (gzN, gzR0, r.2.1, r.2.2))
def f_X8_kissByDraw_40 (φ : Nat) (t : Nat) : Nat → Int32 → Int32 → gzIT → gzJT → Option (Unit × gzIT × gzJT)
  | 0, _, _, _, _ => none
  | k + 1, x2, x3, I, J => if I t 7 7 ≤ x3 then (some ((), I, J)) else (Option.bind (f_X1_frozen t I x3) (fun v12 => if v12 = 0 then (f_X8_kissByDraw_40 φ t k x2 (x3 + 1) I J) else (if ¬ x2 = 0 then (f_X8_kissByDraw_40 φ t k (x2 + (-1)) (x3 + 1) I J) else (Option.bind (f_X11_cell t 12 10 I x3) (fun v14 => Option.bind (f_X8_lose t x3 4 ((v14 + 1) / 2) I J) (fun v17 => some ((), v17.2.1, v17.2.2)))))))
set_option maxRecDepth 20000 in
theorem p_X8_kissByDraw_40 {g : gzG} {d φ : Nat} {t : Nat} (ht : t < 15) {r : Unit × gzIT × gzJT} : ∀ (k : Nat) (x2 : Int32) (x3 : Int32) (I : gzIT) (J : gzJT), f_X8_kissByDraw_40 φ t k x2 x3 I J = some r → gP_X8_kissByDraw_40 g t d r x2 x3 I J := by
  intro k; induction k with
  | zero => intro x2 x3 I J h; cases h
  | succ k ih =>
    intro x2 x3 I J h
    unfold f_X8_kissByDraw_40 at h
    unfold gP_X8_kissByDraw_40
    have z_t_0 : gzOk t 0 gzN := gzOk_of ht
    have z_t_7 : gzOk t 7 gzN := gzOk_of ht
    have z_t_12 : gzOk t 12 gzN := gzOk_of ht
    refine gz_iload_n (pc := 40) dX8_kissByDraw_40 rfl ?_
    refine gz_aload_n (pc := 41) dX8_kissByDraw_41 rfl ?_
    refine gr_X8_21 (pc := 42) dX8_kissByDraw_42 z_t_0 rfl ?_
    refine gi_X8_96 (pc := 45) dX8_kissByDraw_45 (v := I t 7 7) z_t_7 rfl rfl ?_
    refine gz_ic_ge (pc := 48) (tgt := 97) dX8_kissByDraw_48 (by decide) (fun c => ?_) (fun c => ?_)
    · replace h := gz_ifp c h
      cases h; exact gz_vret (pc := 97) dX8_kissByDraw_97 rfl ⟨rfl, rfl⟩
    · replace h := gz_ifn c h
      refine gz_aload_n (pc := 51) dX8_kissByDraw_51 rfl ?_
      refine gr_X8_21 (pc := 52) dX8_kissByDraw_52 z_t_0 rfl ?_
      refine gz_iload_n (pc := 55) dX8_kissByDraw_55 rfl ?_
      refine gz_V (zy := mX1_frozen) (zc := 0) (pc := 56) [.inl x3] rfl dX8_kissByDraw_56 lkX8_99 MvX1_frozen rfl z_t_7 rfl rfl rfl (Or.inl rfl) (fun h => h) (by exact Nat.le_of_ble_eq_true rfl) ?_
      obtain ⟨v12, e11, h⟩ := gz_bd h
      refine gz_useI (c_X1_frozen ht e11) ?_
      refine gz_if_eq (pc := 59) (tgt := 91) dX8_kissByDraw_59 (by decide) (fun c => ?_) (fun c => ?_)
      · replace h := gz_ifp c h
        refine gz_iinc (pc := 91) dX8_kissByDraw_91 (x := x3) (v := x3 + 1) rfl (by rw [show Int32.ofInt 1 = 1 by decide]) (by decide) rfl (loc2 := [some (.inr (.inr (t, 0))), none, some (.inl x2), some (.inl (x3 + 1))]) rfl ?_
        refine gz_goto (pc := 94) (tgt := 40) dX8_kissByDraw_94 (by decide) ?_
        exact ih x2 (x3 + 1) I J h
      · replace h := gz_ifn c h
        refine gz_iload_n (pc := 62) dX8_kissByDraw_62 rfl ?_
        refine gz_if_ne (pc := 63) (tgt := 88) dX8_kissByDraw_63 (by decide) (fun c => ?_) (fun c => ?_)
        · replace h := gz_ifp c h
          refine gz_iinc (pc := 88) dX8_kissByDraw_88 (x := x2) (v := x2 + (-1)) rfl (by rw [show Int32.ofInt (-1) = (-1) by decide]) (by decide) rfl (loc2 := [some (.inr (.inr (t, 0))), none, some (.inl (x2 + (-1))), some (.inl x3)]) rfl ?_
          refine gz_iinc (pc := 91) dX8_kissByDraw_91 (x := x3) (v := x3 + 1) rfl (by rw [show Int32.ofInt 1 = 1 by decide]) (by decide) rfl (loc2 := [some (.inr (.inr (t, 0))), none, some (.inl (x2 + (-1))), some (.inl (x3 + 1))]) rfl ?_
          refine gz_goto (pc := 94) (tgt := 40) dX8_kissByDraw_94 (by decide) ?_
          exact ih (x2 + (-1)) (x3 + 1) I J h
        · replace h := gz_ifn (fun q => q c) h
          refine gz_aload_n (pc := 66) dX8_kissByDraw_66 rfl ?_
          refine gz_iload_n (pc := 67) dX8_kissByDraw_67 rfl ?_
          refine gz_iconst (pc := 68) dX8_kissByDraw_68 (v := 4) (by decide) ?_
          refine gz_aload_n (pc := 69) dX8_kissByDraw_69 rfl ?_
          refine gr_X8_21 (pc := 70) dX8_kissByDraw_70 z_t_0 rfl ?_
          refine gr_X8_107 (pc := 73) dX8_kissByDraw_73 z_t_7 rfl ?_
          refine gz_iload_n (pc := 76) dX8_kissByDraw_76 rfl ?_
          refine gz_SN (zy := mX11_cell) (zc := 0) (pc := 77) [.inr (.inr (t, 12)), .inl x3] rfl dX8_kissByDraw_77 lnX8_76 MsX11_cell rfl (Or.inl rfl) (fun h => h) (by exact Nat.le_of_ble_eq_true rfl) ?_
          obtain ⟨v14, e13, h⟩ := gz_bd h
          refine gz_useI (c_X11_cell z_t_12 rfl e13) ?_
          refine gz_iconst (pc := 80) dX8_kissByDraw_80 (v := 1) (by decide) ?_
          refine gz_iadd (pc := 81) dX8_kissByDraw_81  ?_
          refine gz_iconst (pc := 82) dX8_kissByDraw_82 (v := 2) (by decide) ?_
          refine gz_idiv (pc := 83) dX8_kissByDraw_83 (by decide) ?_
          refine gz_V (zy := mX8_lose) (zc := 0) (pc := 84) [.inl x3, .inl 4, .inl ((v14 + 1) / 2)] rfl dX8_kissByDraw_84 lkX8_183 MvX8_lose rfl z_t_0 rfl rfl rfl (Or.inl rfl) (fun h => h) (by exact Nat.le_of_ble_eq_true rfl) ?_
          obtain ⟨v17, e16, h⟩ := gz_bd h
          refine gz_useV (c_X8_lose ht e16) ?_
          cases h; exact gz_vret (pc := 87) dX8_kissByDraw_87 rfl ⟨rfl, rfl⟩
def f_X8_kissByDraw (φ : Nat) (t : Nat) (I : gzIT) (J : gzJT) : Option (Unit × gzIT × gzJT) := Option.bind (f_X8_draw t I J) (fun v2 => if v2.1 - v2.1 / 100 * 100 < v2.2.1 t 0 10 then (Option.bind (f_X1_frozenOnes φ t v2.2.1) (fun v5 => Option.bind (f_J6_bitCount_0f7a4 v5) (fun v7 => if ¬ v7 = 0 then (Option.bind (f_X8_draw t v2.2.1 v2.2.2) (fun v9 => gzGn v7 (f_X8_kissByDraw_40 φ t φ (v9.1 - v9.1 / v7 * v7) 0 v9.2.1 v9.2.2))) else (some ((), v2.2.1, v2.2.2))))) else (some ((), v2.2.1, v2.2.2)))
set_option maxRecDepth 20000 in
theorem c_X8_kissByDraw {g : gzG} {d φ : Nat} {t : Nat} (ht : t < 15) {I : gzIT} {J : gzJT} {r : Unit × gzIT × gzJT} (h : f_X8_kissByDraw φ t I J = some r) : gzC g 0 (d + 3) mX8_kissByDraw [.inr (.inr (t, 0))] (gzN, gzR0, I, J) (gzE (.ok none) (gzN, gzR0, r.2.1, r.2.2)) := by
  unfold f_X8_kissByDraw at h
  refine gzC_of (by decide +kernel) (Nat.le_of_ble_eq_true rfl) (loc := [some (.inr (.inr (t, 0))), none, none, none]) rfl ?_
  have z_t_0 : gzOk t 0 gzN := gzOk_of ht
  have z_t_7 : gzOk t 7 gzN := gzOk_of ht
  refine gz_aload_n (pc := 0) dX8_kissByDraw_0 rfl ?_
  refine gz_V (zy := mX8_draw) (zc := 0) (pc := 1) [] rfl dX8_kissByDraw_1 lkX8_172 MvX8_draw rfl z_t_0 rfl rfl rfl (Or.inl rfl) (fun h => h) (by exact Nat.le_of_ble_eq_true rfl) ?_
  obtain ⟨v2, e1, h⟩ := gz_bd h
  refine gz_useI (c_X8_draw ht e1) ?_
  refine gz_bipush (pc := 4) dX8_kissByDraw_4 (v := 100) (by decide) ?_
  refine gz_irem (pc := 6) dX8_kissByDraw_6 (by decide) ?_
  refine gz_aload_n (pc := 7) dX8_kissByDraw_7 rfl ?_
  refine gi_X8_56 (pc := 8) dX8_kissByDraw_8 (v := v2.2.1 t 0 10) z_t_0 rfl rfl ?_
  refine gz_ic_lt (pc := 11) (tgt := 15) dX8_kissByDraw_11 (by decide) (fun c => ?_) (fun c => ?_)
  · replace h := gz_ifp c h
    refine gz_aload_n (pc := 15) dX8_kissByDraw_15 rfl ?_
    refine gr_X8_21 (pc := 16) dX8_kissByDraw_16 z_t_0 rfl ?_
    refine gz_V (zy := mX1_frozenOnes) (zc := 0) (pc := 19) [] rfl dX8_kissByDraw_19 lkX8_175 MvX1_frozenOnes rfl z_t_7 rfl rfl rfl (Or.inl rfl) (fun h => h) (by exact Nat.le_of_ble_eq_true rfl) ?_
    obtain ⟨v5, e4, h⟩ := gz_bd h
    refine gz_useI (c_X1_frozenOnes ht e4) ?_
    refine gz_S (zy := mJ6_bitCount_0f7a4) (zc := 0) (pc := 22) [.inl v5] rfl dX8_kissByDraw_22 lkX8_178 MsJ6_bitCount_0f7a4 rfl (Or.inl rfl) (fun h => h) (by exact Nat.le_of_ble_eq_true rfl) ?_
    obtain ⟨v7, e6, h⟩ := gz_bd h
    refine gz_useI (c_J6_bitCount_0f7a4 e6) ?_
    refine gz_istore_n (pc := 25) dX8_kissByDraw_25 (by decide) rfl (loc2 := [some (.inr (.inr (t, 0))), some (.inl v7), none, none]) rfl ?_
    refine gz_iload_n (pc := 26) dX8_kissByDraw_26 rfl ?_
    refine gz_if_ne (pc := 27) (tgt := 31) dX8_kissByDraw_27 (by decide) (fun c => ?_) (fun c => ?_)
    · replace h := gz_ifp c h
      refine gz_aload_n (pc := 31) dX8_kissByDraw_31 rfl ?_
      refine gz_V (zy := mX8_draw) (zc := 0) (pc := 32) [] rfl dX8_kissByDraw_32 lkX8_172 MvX8_draw rfl z_t_0 rfl rfl rfl (Or.inl rfl) (fun h => h) (by exact Nat.le_of_ble_eq_true rfl) ?_
      obtain ⟨v9, e8, h⟩ := gz_bd h
      refine gz_useI (c_X8_draw ht e8) ?_
      refine gz_iload_n (pc := 35) dX8_kissByDraw_35 rfl ?_
      obtain ⟨n10, h⟩ := gz_gn h
      refine gz_irem (pc := 36) dX8_kissByDraw_36 n10 ?_
      refine gz_istore_n (pc := 37) dX8_kissByDraw_37 (by decide) rfl (loc2 := [some (.inr (.inr (t, 0))), some (.inl v7), some (.inl (v9.1 - v9.1 / v7 * v7)), none]) rfl ?_
      refine gz_iconst (pc := 38) dX8_kissByDraw_38 (v := 0) (by decide) ?_
      refine gz_istore_n (pc := 39) dX8_kissByDraw_39 (by decide) rfl (loc2 := [some (.inr (.inr (t, 0))), some (.inl v7), some (.inl (v9.1 - v9.1 / v7 * v7)), some (.inl 0)]) rfl ?_
      exact gz_weak (loc2 := [some (.inr (.inr (t, 0))), none, some (.inl (v9.1 - v9.1 / v7 * v7)), some (.inl 0)]) (p_X8_kissByDraw_40 ht φ (v9.1 - v9.1 / v7 * v7) 0 v9.2.1 v9.2.2 h) (by repeat (first | exact trivial | refine ⟨rfl, ?_⟩))
    · replace h := gz_ifn (fun q => q c) h
      cases h; exact gz_vret (pc := 30) dX8_kissByDraw_30 rfl ⟨rfl, rfl⟩
  · replace h := gz_ifn c h
    cases h; exact gz_vret (pc := 14) dX8_kissByDraw_14 rfl ⟨rfl, rfl⟩
/-! X8_leak: leak -/
def f_X8_leak (t : Nat) (I : gzIT) (J : gzJT) : Option (Unit × gzIT × gzJT) := Option.bind (f_X8_heatNow t I) (fun v2 => some ((), gz_ui I t 0 8 (if 0 < (I t 0 8) - (v2 * (if I t 0 9 = 0 then (1 : Int32) else 5)) then (I t 0 8) - (v2 * (if I t 0 9 = 0 then (1 : Int32) else 5)) else 0), J))
set_option maxRecDepth 20000 in
theorem c_X8_leak {g : gzG} {d : Nat} {t : Nat} (ht : t < 15) {I : gzIT} {J : gzJT} {r : Unit × gzIT × gzJT} (h : f_X8_leak t I J = some r) : gzC g 0 (d + 2) mX8_leak [.inr (.inr (t, 0))] (gzN, gzR0, I, J) (gzE (.ok none) (gzN, gzR0, r.2.1, r.2.2)) := by
  unfold f_X8_leak at h
  refine gzC_of (by decide +kernel) (Nat.le_of_ble_eq_true rfl) (loc := [some (.inr (.inr (t, 0)))]) rfl ?_
  have z_t_0 : gzOk t 0 gzN := gzOk_of ht
  refine gz_aload_n (pc := 0) dX8_leak_0 rfl ?_
  refine gz_iconst (pc := 1) dX8_leak_1 (v := 0) (by decide) ?_
  refine gz_aload_n (pc := 2) dX8_leak_2 rfl ?_
  refine gi_X8_49 (pc := 3) dX8_leak_3 (v := I t 0 8) z_t_0 rfl rfl ?_
  refine gz_aload_n (pc := 6) dX8_leak_6 rfl ?_
  refine gz_V (zy := mX8_heatNow) (zc := 0) (pc := 7) [] rfl dX8_leak_7 lkX8_143 MvX8_heatNow rfl z_t_0 rfl rfl rfl (Or.inl rfl) (fun h => h) (by exact Nat.le_of_ble_eq_true rfl) ?_
  obtain ⟨v2, e1, h⟩ := gz_bd h
  refine gz_useI (c_X8_heatNow ht e1) ?_
  refine gz_aload_n (pc := 10) dX8_leak_10 rfl ?_
  refine gi_X8_52 (pc := 11) dX8_leak_11 (v := I t 0 9) z_t_0 rfl rfl ?_
  have kj3 : gzX g 0 (d + 2) mX8_leak 22 [some (.inr (.inr (t, 0)))] ([.inl (if I t 0 9 = 0 then (1 : Int32) else 5), .inl v2, .inl (I t 0 8), .inl 0, .inr (.inr (t, 0))]) (gzN, gzR0, I, J) 0 (gzE (.ok none) (gzN, gzR0, r.2.1, r.2.2)) := by
    refine gz_imul (pc := 22) dX8_leak_22  ?_
    refine gz_isub (pc := 23) dX8_leak_23  ?_
    refine gx_X8_129 (pc := 24) dX8_leak_24 (Nat.le_of_ble_eq_true rfl) rfl ?_
    refine gp_X8_49 (pc := 27) dX8_leak_27 z_t_0 rfl ?_
    cases h; exact gz_vret (pc := 30) dX8_leak_30 rfl ⟨rfl, rfl⟩
  refine gz_if_eq (pc := 14) (tgt := 21) dX8_leak_14 (by decide) (fun c => ?_) (fun c => ?_)
  · rw [if_pos c] at kj3
    refine gz_iconst (pc := 21) dX8_leak_21 (v := 1) (by decide) ?_
    exact kj3
  · rw [if_neg c] at kj3
    refine gz_iconst (pc := 17) dX8_leak_17 (v := 5) (by decide) ?_
    refine gz_goto (pc := 18) (tgt := 22) dX8_leak_18 (by decide) ?_
    exact kj3
/-! X8_tick: tick -/
def f_X8_tick (t : Nat) (I : gzIT) (J : gzJT) : Option (Unit × gzIT × gzJT) := some ((), gz_ui I t 0 7 (if (I t 0 7) + 1 < 9999 then (I t 0 7) + 1 else 9999), J)
set_option maxRecDepth 20000 in
theorem c_X8_tick {g : gzG} {d : Nat} {t : Nat} (ht : t < 15) {I : gzIT} {J : gzJT} {r : Unit × gzIT × gzJT} (h : f_X8_tick t I J = some r) : gzC g 0 d mX8_tick [.inr (.inr (t, 0))] (gzN, gzR0, I, J) (gzE (.ok none) (gzN, gzR0, r.2.1, r.2.2)) := by
  unfold f_X8_tick at h
  refine gzC_of (by decide +kernel) (Nat.le_of_ble_eq_true rfl) (loc := [some (.inr (.inr (t, 0)))]) rfl ?_
  have z_t_0 : gzOk t 0 gzN := gzOk_of ht
  refine gz_aload_n (pc := 0) dX8_tick_0 rfl ?_
  refine gz_sipush (pc := 1) dX8_tick_1 (v := 9999) (by decide) ?_
  refine gz_aload_n (pc := 4) dX8_tick_4 rfl ?_
  refine gi_X8_46 (pc := 5) dX8_tick_5 (v := I t 0 7) z_t_0 rfl rfl ?_
  refine gz_iconst (pc := 8) dX8_tick_8 (v := 1) (by decide) ?_
  refine gz_iadd (pc := 9) dX8_tick_9  ?_
  refine gn_X8_114 (pc := 10) dX8_tick_10 (Nat.le_of_ble_eq_true rfl) rfl ?_
  refine gp_X8_46 (pc := 13) dX8_tick_13 z_t_0 rfl ?_
  cases h; exact gz_vret (pc := 16) dX8_tick_16 rfl ⟨rfl, rfl⟩
/-! X8_amountBy: amountBy -/
def f_X8_amountBy (φ : Nat) (t : Nat) (t1 : Nat) (a2 : Int32) (a3 : Int32) (I : gzIT) (J : gzJT) : Option (Int32 × gzIT × gzJT) := if ¬ a2 = 1024 then (if I t1 20 7 = (-1) then (if ¬ a2 = 1023 then (some (0, I, J)) else (if a3 < 0 then (some (0, I, J)) else (if a3 < 10 then (gzGd (a3) 10 (Option.bind (f_X11_cell t 17 8 I (I t 10 a3.toNatClampNeg)) (fun v3 => some ((v3 + (if I t 13 a3.toNatClampNeg = 0 then (0 : Int32) else 5)), I, J)))) else (some (0, I, J))))) else (Option.bind (f_X2_sum φ t1 a2 I J) (fun v6 => some ((0 + v6.1), v6.2.1, v6.2.2)))) else (Option.bind (f_X8_heatNow t I) (fun v8 => if I t1 20 7 = (-1) then (if ¬ a2 = 1023 then (some (v8, I, J)) else (if a3 < 0 then (some (v8, I, J)) else (if a3 < 10 then (gzGd (a3) 10 (Option.bind (f_X11_cell t 17 8 I (I t 10 a3.toNatClampNeg)) (fun v11 => some ((v11 + (if I t 13 a3.toNatClampNeg = 0 then (0 : Int32) else 5)), I, J)))) else (some (v8, I, J))))) else (Option.bind (f_X2_sum φ t1 a2 I J) (fun v14 => some ((v8 + v14.1), v14.2.1, v14.2.2)))))
set_option maxRecDepth 20000 in
theorem c_X8_amountBy {g : gzG} {d φ : Nat} {t : Nat} {t1 : Nat} (ht : t < 15) (ht1 : t1 < 3) {a2 : Int32} {a3 : Int32} {I : gzIT} {J : gzJT} {r : Int32 × gzIT × gzJT} (h : f_X8_amountBy φ t t1 a2 a3 I J = some r) : gzC g 0 (d + 3) mX8_amountBy [.inr (.inr (t, 0)), .inr (.inr (t1, 20)), .inl a2, .inl a3] (gzN, gzR0, I, J) (gzE (.ok (some (.inl r.1))) (gzN, gzR0, r.2.1, r.2.2)) := by
  unfold f_X8_amountBy at h
  refine gzC_of (by decide +kernel) (Nat.le_of_ble_eq_true rfl) (loc := [some (.inr (.inr (t, 0))), some (.inr (.inr (t1, 20))), some (.inl a2), some (.inl a3), none]) rfl ?_
  have z_t1_20 : gzOk t1 20 gzN := gzOk_of ht1
  have z_t_0 : gzOk t 0 gzN := gzOk_of ht
  have z_t_7 : gzOk t 7 gzN := gzOk_of ht
  have z_t_10 : gzOk t 10 gzN := gzOk_of ht
  have z_t_17 : gzOk t 17 gzN := gzOk_of ht
  have z_t_13 : gzOk t 13 gzN := gzOk_of ht
  refine gz_iload_n (pc := 0) dX8_amountBy_0 rfl ?_
  refine gz_sipush (pc := 1) dX8_amountBy_1 (v := 1024) (by decide) ?_
  refine gz_ic_ne (pc := 4) (tgt := 14) dX8_amountBy_4 (by decide) (fun c => ?_) (fun c => ?_)
  · replace h := gz_ifp c h
    refine gz_iconst (pc := 14) dX8_amountBy_14 (v := 0) (by decide) ?_
    refine gz_istore (pc := 15) dX8_amountBy_15 (by decide) rfl (loc2 := [some (.inr (.inr (t, 0))), some (.inr (.inr (t1, 20))), some (.inl a2), some (.inl a3), some (.inl 0)]) rfl ?_
    refine gz_aload_n (pc := 17) dX8_amountBy_17 rfl ?_
    refine gi_X8_147 (pc := 18) dX8_amountBy_18 (v := I t1 20 7) z_t1_20 rfl rfl ?_
    refine gz_iconst (pc := 21) dX8_amountBy_21 (v := (-1)) (by decide) ?_
    refine gz_ic_eq (pc := 22) (tgt := 34) dX8_amountBy_22 (by decide) (fun c => ?_) (fun c => ?_)
    · replace h := gz_ifp c h
      refine gz_iload_n (pc := 34) dX8_amountBy_34 rfl ?_
      refine gz_sipush (pc := 35) dX8_amountBy_35 (v := 1023) (by decide) ?_
      refine gz_ic_ne (pc := 38) (tgt := 51) dX8_amountBy_38 (by decide) (fun c => ?_) (fun c => ?_)
      · replace h := gz_ifp c h
        refine gz_iload (pc := 51) dX8_amountBy_51 rfl ?_
        cases h; exact gz_iret (pc := 53) dX8_amountBy_53 rfl ⟨rfl, rfl⟩
      · replace h := gz_ifn (fun q => q c) h
        refine gz_iload_n (pc := 41) dX8_amountBy_41 rfl ?_
        refine gz_if_lt (pc := 42) (tgt := 51) dX8_amountBy_42 (by decide) (fun c => ?_) (fun c => ?_)
        · replace h := gz_ifp c h
          refine gz_iload (pc := 51) dX8_amountBy_51 rfl ?_
          cases h; exact gz_iret (pc := 53) dX8_amountBy_53 rfl ⟨rfl, rfl⟩
        · replace h := gz_ifn c h
          refine gz_iload_n (pc := 45) dX8_amountBy_45 rfl ?_
          refine gz_bipush (pc := 46) dX8_amountBy_46 (v := 10) (by decide) ?_
          refine gz_ic_lt (pc := 48) (tgt := 54) dX8_amountBy_48 (by decide) (fun c => ?_) (fun c => ?_)
          · replace h := gz_ifp c h
            refine gz_aload_n (pc := 54) dX8_amountBy_54 rfl ?_
            refine gr_X8_32 (pc := 55) dX8_amountBy_55 z_t_0 rfl ?_
            refine gz_aload_n (pc := 58) dX8_amountBy_58 rfl ?_
            refine gr_X8_21 (pc := 59) dX8_amountBy_59 z_t_0 rfl ?_
            refine gr_X8_154 (pc := 62) dX8_amountBy_62 z_t_7 rfl ?_
            refine gz_iload_n (pc := 65) dX8_amountBy_65 rfl ?_
            obtain ⟨b1, h⟩ := gz_gd h
            refine gz_iald2 (pc := 66) dX8_amountBy_66 (k := a3.toNatClampNeg) (v := I t 10 a3.toNatClampNeg) z_t_10 rfl b1 rfl rfl ?_
            refine gz_SN (zy := mX11_cell) (zc := 0) (pc := 67) [.inr (.inr (t, 17)), .inl (I t 10 a3.toNatClampNeg)] rfl dX8_amountBy_67 lnX8_76 MsX11_cell rfl (Or.inl rfl) (fun h => h) (by exact Nat.le_of_ble_eq_true rfl) ?_
            obtain ⟨v3, e2, h⟩ := gz_bd h
            refine gz_useI (c_X11_cell z_t_17 rfl e2) ?_
            refine gz_aload_n (pc := 70) dX8_amountBy_70 rfl ?_
            refine gr_X8_21 (pc := 71) dX8_amountBy_71 z_t_0 rfl ?_
            refine gr_X8_157 (pc := 74) dX8_amountBy_74 z_t_7 rfl ?_
            refine gz_iload_n (pc := 77) dX8_amountBy_77 rfl ?_
            refine gz_zald2 (pc := 78) dX8_amountBy_78 (k := a3.toNatClampNeg) (v := I t 13 a3.toNatClampNeg) z_t_13 rfl b1 rfl rfl ?_
            have kj4 : gzX g 0 (d + 3) mX8_amountBy 87 [some (.inr (.inr (t, 0))), some (.inr (.inr (t1, 20))), some (.inl a2), some (.inl a3), some (.inl 0)] ([.inl (if I t 13 a3.toNatClampNeg = 0 then (0 : Int32) else 5), .inl v3]) (gzN, gzR0, I, J) 0 (gzE (.ok (some (.inl r.1))) (gzN, gzR0, r.2.1, r.2.2)) := by
              refine gz_iadd (pc := 87) dX8_amountBy_87  ?_
              cases h; exact gz_iret (pc := 88) dX8_amountBy_88 rfl ⟨rfl, rfl⟩
            refine gz_if_eq (pc := 79) (tgt := 86) dX8_amountBy_79 (by decide) (fun c => ?_) (fun c => ?_)
            · rw [if_pos c] at kj4
              refine gz_iconst (pc := 86) dX8_amountBy_86 (v := 0) (by decide) ?_
              exact kj4
            · rw [if_neg c] at kj4
              refine gz_iconst (pc := 82) dX8_amountBy_82 (v := 5) (by decide) ?_
              refine gz_goto (pc := 83) (tgt := 87) dX8_amountBy_83 (by decide) ?_
              exact kj4
          · replace h := gz_ifn c h
            refine gz_iload (pc := 51) dX8_amountBy_51 rfl ?_
            cases h; exact gz_iret (pc := 53) dX8_amountBy_53 rfl ⟨rfl, rfl⟩
    · replace h := gz_ifn c h
      refine gz_iload (pc := 25) dX8_amountBy_25 rfl ?_
      refine gz_aload_n (pc := 27) dX8_amountBy_27 rfl ?_
      refine gz_iload_n (pc := 28) dX8_amountBy_28 rfl ?_
      refine gz_V (zy := mX2_sum) (zc := 0) (pc := 29) [.inl a2] rfl dX8_amountBy_29 lkX8_150 MvX2_sum rfl z_t1_20 rfl rfl rfl (Or.inl rfl) (fun h => h) (by exact Nat.le_of_ble_eq_true rfl) ?_
      obtain ⟨v6, e5, h⟩ := gz_bd h
      refine gz_useI (c_X2_sum ht1 e5) ?_
      refine gz_iadd (pc := 32) dX8_amountBy_32  ?_
      cases h; exact gz_iret (pc := 33) dX8_amountBy_33 rfl ⟨rfl, rfl⟩
  · replace h := gz_ifn (fun q => q c) h
    refine gz_aload_n (pc := 7) dX8_amountBy_7 rfl ?_
    refine gz_V (zy := mX8_heatNow) (zc := 0) (pc := 8) [] rfl dX8_amountBy_8 lkX8_143 MvX8_heatNow rfl z_t_0 rfl rfl rfl (Or.inl rfl) (fun h => h) (by exact Nat.le_of_ble_eq_true rfl) ?_
    obtain ⟨v8, e7, h⟩ := gz_bd h
    refine gz_useI (c_X8_heatNow ht e7) ?_
    refine gz_goto (pc := 11) (tgt := 15) dX8_amountBy_11 (by decide) ?_
    refine gz_istore (pc := 15) dX8_amountBy_15 (by decide) rfl (loc2 := [some (.inr (.inr (t, 0))), some (.inr (.inr (t1, 20))), some (.inl a2), some (.inl a3), some (.inl v8)]) rfl ?_
    refine gz_aload_n (pc := 17) dX8_amountBy_17 rfl ?_
    refine gi_X8_147 (pc := 18) dX8_amountBy_18 (v := I t1 20 7) z_t1_20 rfl rfl ?_
    refine gz_iconst (pc := 21) dX8_amountBy_21 (v := (-1)) (by decide) ?_
    refine gz_ic_eq (pc := 22) (tgt := 34) dX8_amountBy_22 (by decide) (fun c => ?_) (fun c => ?_)
    · replace h := gz_ifp c h
      refine gz_iload_n (pc := 34) dX8_amountBy_34 rfl ?_
      refine gz_sipush (pc := 35) dX8_amountBy_35 (v := 1023) (by decide) ?_
      refine gz_ic_ne (pc := 38) (tgt := 51) dX8_amountBy_38 (by decide) (fun c => ?_) (fun c => ?_)
      · replace h := gz_ifp c h
        refine gz_iload (pc := 51) dX8_amountBy_51 rfl ?_
        cases h; exact gz_iret (pc := 53) dX8_amountBy_53 rfl ⟨rfl, rfl⟩
      · replace h := gz_ifn (fun q => q c) h
        refine gz_iload_n (pc := 41) dX8_amountBy_41 rfl ?_
        refine gz_if_lt (pc := 42) (tgt := 51) dX8_amountBy_42 (by decide) (fun c => ?_) (fun c => ?_)
        · replace h := gz_ifp c h
          refine gz_iload (pc := 51) dX8_amountBy_51 rfl ?_
          cases h; exact gz_iret (pc := 53) dX8_amountBy_53 rfl ⟨rfl, rfl⟩
        · replace h := gz_ifn c h
          refine gz_iload_n (pc := 45) dX8_amountBy_45 rfl ?_
          refine gz_bipush (pc := 46) dX8_amountBy_46 (v := 10) (by decide) ?_
          refine gz_ic_lt (pc := 48) (tgt := 54) dX8_amountBy_48 (by decide) (fun c => ?_) (fun c => ?_)
          · replace h := gz_ifp c h
            refine gz_aload_n (pc := 54) dX8_amountBy_54 rfl ?_
            refine gr_X8_32 (pc := 55) dX8_amountBy_55 z_t_0 rfl ?_
            refine gz_aload_n (pc := 58) dX8_amountBy_58 rfl ?_
            refine gr_X8_21 (pc := 59) dX8_amountBy_59 z_t_0 rfl ?_
            refine gr_X8_154 (pc := 62) dX8_amountBy_62 z_t_7 rfl ?_
            refine gz_iload_n (pc := 65) dX8_amountBy_65 rfl ?_
            obtain ⟨b9, h⟩ := gz_gd h
            refine gz_iald2 (pc := 66) dX8_amountBy_66 (k := a3.toNatClampNeg) (v := I t 10 a3.toNatClampNeg) z_t_10 rfl b9 rfl rfl ?_
            refine gz_SN (zy := mX11_cell) (zc := 0) (pc := 67) [.inr (.inr (t, 17)), .inl (I t 10 a3.toNatClampNeg)] rfl dX8_amountBy_67 lnX8_76 MsX11_cell rfl (Or.inl rfl) (fun h => h) (by exact Nat.le_of_ble_eq_true rfl) ?_
            obtain ⟨v11, e10, h⟩ := gz_bd h
            refine gz_useI (c_X11_cell z_t_17 rfl e10) ?_
            refine gz_aload_n (pc := 70) dX8_amountBy_70 rfl ?_
            refine gr_X8_21 (pc := 71) dX8_amountBy_71 z_t_0 rfl ?_
            refine gr_X8_157 (pc := 74) dX8_amountBy_74 z_t_7 rfl ?_
            refine gz_iload_n (pc := 77) dX8_amountBy_77 rfl ?_
            refine gz_zald2 (pc := 78) dX8_amountBy_78 (k := a3.toNatClampNeg) (v := I t 13 a3.toNatClampNeg) z_t_13 rfl b9 rfl rfl ?_
            have kj12 : gzX g 0 (d + 3) mX8_amountBy 87 [some (.inr (.inr (t, 0))), some (.inr (.inr (t1, 20))), some (.inl a2), some (.inl a3), some (.inl v8)] ([.inl (if I t 13 a3.toNatClampNeg = 0 then (0 : Int32) else 5), .inl v11]) (gzN, gzR0, I, J) 0 (gzE (.ok (some (.inl r.1))) (gzN, gzR0, r.2.1, r.2.2)) := by
              refine gz_iadd (pc := 87) dX8_amountBy_87  ?_
              cases h; exact gz_iret (pc := 88) dX8_amountBy_88 rfl ⟨rfl, rfl⟩
            refine gz_if_eq (pc := 79) (tgt := 86) dX8_amountBy_79 (by decide) (fun c => ?_) (fun c => ?_)
            · rw [if_pos c] at kj12
              refine gz_iconst (pc := 86) dX8_amountBy_86 (v := 0) (by decide) ?_
              exact kj12
            · rw [if_neg c] at kj12
              refine gz_iconst (pc := 82) dX8_amountBy_82 (v := 5) (by decide) ?_
              refine gz_goto (pc := 83) (tgt := 87) dX8_amountBy_83 (by decide) ?_
              exact kj12
          · replace h := gz_ifn c h
            refine gz_iload (pc := 51) dX8_amountBy_51 rfl ?_
            cases h; exact gz_iret (pc := 53) dX8_amountBy_53 rfl ⟨rfl, rfl⟩
    · replace h := gz_ifn c h
      refine gz_iload (pc := 25) dX8_amountBy_25 rfl ?_
      refine gz_aload_n (pc := 27) dX8_amountBy_27 rfl ?_
      refine gz_iload_n (pc := 28) dX8_amountBy_28 rfl ?_
      refine gz_V (zy := mX2_sum) (zc := 0) (pc := 29) [.inl a2] rfl dX8_amountBy_29 lkX8_150 MvX2_sum rfl z_t1_20 rfl rfl rfl (Or.inl rfl) (fun h => h) (by exact Nat.le_of_ble_eq_true rfl) ?_
      obtain ⟨v14, e13, h⟩ := gz_bd h
      refine gz_useI (c_X2_sum ht1 e13) ?_
      refine gz_iadd (pc := 32) dX8_amountBy_32  ?_
      cases h; exact gz_iret (pc := 33) dX8_amountBy_33 rfl ⟨rfl, rfl⟩
/-! X8_tell: tell -/
def f_X8_tell (φ : Nat) (t : Nat) (t1 : Nat) (a2 : Int32) (I : gzIT) (J : gzJT) : Option (Unit × gzIT × gzJT) := if I t1 20 7 = (-1) then (some ((), I, J)) else (if a2 < 0 then (some ((), I, J)) else (if a2 < 10 then (Option.bind (f_X11_write t1 26 11 0 a2 I J) (fun v2 => gzGd (a2) 10 (Option.bind (f_X11_write t1 26 11 1 (v2.2.1 t 11 a2.toNatClampNeg) v2.2.1 v2.2.2) (fun v5 => Option.bind (f_X11_write t1 26 11 2 (v5.2.1 t 12 a2.toNatClampNeg) v5.2.1 v5.2.2) (fun v7 => Option.bind (f_X11_cell t 2 6 v7.2.1 (v7.2.1 t 8 a2.toNatClampNeg)) (fun v9 => Option.bind (f_X11_write t1 26 11 3 v9 v7.2.1 v7.2.2) (fun v11 => Option.bind (f_X11_cell t 17 8 v11.2.1 (v11.2.1 t 10 a2.toNatClampNeg)) (fun v13 => Option.bind (f_X11_write t1 26 11 4 v13 v11.2.1 v11.2.2) (fun v15 => Option.bind (f_X11_cell t 18 8 v15.2.1 (v15.2.1 t 10 a2.toNatClampNeg)) (fun v17 => Option.bind (f_X11_write t1 26 11 5 v17 v15.2.1 v15.2.2) (fun v19 => Option.bind (f_X8_heatNow t v19.2.1) (fun v21 => Option.bind (f_X11_write t1 26 11 6 v21 v19.2.1 v19.2.2) (fun v23 => Option.bind (f_X11_write t1 26 11 7 ((v23.2.1 t 0 7) - (v23.2.1 t 0 7) / 4 * 4) v23.2.1 v23.2.2) (fun v26 => Option.bind (f_X11_write t1 26 11 8 (if v26.2.1 t 13 a2.toNatClampNeg = 0 then (0 : Int32) else 1) v26.2.1 v26.2.2) (fun v29 => Option.bind (f_X1_find φ t v29.2.1 (v29.2.1 t 9 a2.toNatClampNeg) (v29.2.1 t 8 a2.toNatClampNeg)) (fun v31 => Option.bind (f_X11_write t1 26 11 9 (if v31 = (-1) then (0 : Int32) else 1) v29.2.1 v29.2.2) (fun v34 => Option.bind (f_X11_write t1 26 11 10 (if v34.2.1 t 0 9 = 0 then (0 : Int32) else 1) v34.2.1 v34.2.2) (fun v37 => some ((), v37.2.1, v37.2.2))))))))))))))))))) else (some ((), I, J))))
set_option maxRecDepth 20000 in
theorem c_X8_tell {g : gzG} {d φ : Nat} {t : Nat} {t1 : Nat} (ht : t < 15) (ht1 : t1 < 3) {a2 : Int32} {I : gzIT} {J : gzJT} {r : Unit × gzIT × gzJT} (h : f_X8_tell φ t t1 a2 I J = some r) : gzC g 0 (d + 2) mX8_tell [.inr (.inr (t, 0)), .inr (.inr (t1, 20)), .inl a2] (gzN, gzR0, I, J) (gzE (.ok none) (gzN, gzR0, r.2.1, r.2.2)) := by
  unfold f_X8_tell at h
  refine gzC_of (by decide +kernel) (Nat.le_of_ble_eq_true rfl) (loc := [some (.inr (.inr (t, 0))), some (.inr (.inr (t1, 20))), some (.inl a2), none]) rfl ?_
  have z_t1_20 : gzOk t1 20 gzN := gzOk_of ht1
  have z_t1_26 : gzOk t1 26 gzN := gzOk_of ht1
  have z_t_0 : gzOk t 0 gzN := gzOk_of ht
  have z_t_7 : gzOk t 7 gzN := gzOk_of ht
  have z_t_11 : gzOk t 11 gzN := gzOk_of ht
  have z_t_12 : gzOk t 12 gzN := gzOk_of ht
  have z_t_1 : gzOk t 1 gzN := gzOk_of ht
  have z_t_8 : gzOk t 8 gzN := gzOk_of ht
  have z_t_2 : gzOk t 2 gzN := gzOk_of ht
  have z_t_10 : gzOk t 10 gzN := gzOk_of ht
  have z_t_17 : gzOk t 17 gzN := gzOk_of ht
  have z_t_18 : gzOk t 18 gzN := gzOk_of ht
  have z_t_13 : gzOk t 13 gzN := gzOk_of ht
  have z_t_9 : gzOk t 9 gzN := gzOk_of ht
  refine gz_aload_n (pc := 0) dX8_tell_0 rfl ?_
  refine gi_X8_147 (pc := 1) dX8_tell_1 (v := I t1 20 7) z_t1_20 rfl rfl ?_
  refine gz_iconst (pc := 4) dX8_tell_4 (v := (-1)) (by decide) ?_
  refine gz_ic_eq (pc := 5) (tgt := 18) dX8_tell_5 (by decide) (fun c => ?_) (fun c => ?_)
  · replace h := gz_ifp c h
    cases h; exact gz_vret (pc := 18) dX8_tell_18 rfl ⟨rfl, rfl⟩
  · replace h := gz_ifn c h
    refine gz_iload_n (pc := 8) dX8_tell_8 rfl ?_
    refine gz_if_lt (pc := 9) (tgt := 18) dX8_tell_9 (by decide) (fun c => ?_) (fun c => ?_)
    · replace h := gz_ifp c h
      cases h; exact gz_vret (pc := 18) dX8_tell_18 rfl ⟨rfl, rfl⟩
    · replace h := gz_ifn c h
      refine gz_iload_n (pc := 12) dX8_tell_12 rfl ?_
      refine gz_bipush (pc := 13) dX8_tell_13 (v := 10) (by decide) ?_
      refine gz_ic_lt (pc := 15) (tgt := 19) dX8_tell_15 (by decide) (fun c => ?_) (fun c => ?_)
      · replace h := gz_ifp c h
        refine gz_aload_n (pc := 19) dX8_tell_19 rfl ?_
        refine gr_X8_120 (pc := 20) dX8_tell_20 z_t1_20 rfl ?_
        refine gz_astore_n (pc := 23) dX8_tell_23 (by decide) rfl (loc2 := [some (.inr (.inr (t, 0))), some (.inr (.inr (t1, 20))), some (.inl a2), some (.inr (.inr (t1, 26)))]) rfl ?_
        refine gz_aload_n (pc := 24) dX8_tell_24 rfl ?_
        refine gz_iconst (pc := 25) dX8_tell_25 (v := 0) (by decide) ?_
        refine gz_iload_n (pc := 26) dX8_tell_26 rfl ?_
        refine gz_SN (zy := mX11_write) (zc := 0) (pc := 27) [.inr (.inr (t1, 26)), .inl 0, .inl a2] rfl dX8_tell_27 lnX8_125 MsX11_write rfl (Or.inl rfl) (fun h => h) (by exact Nat.le_of_ble_eq_true rfl) ?_
        obtain ⟨v2, e1, h⟩ := gz_bd h
        refine gz_useV (c_X11_write z_t1_26 rfl e1) ?_
        refine gz_aload_n (pc := 30) dX8_tell_30 rfl ?_
        refine gz_iconst (pc := 31) dX8_tell_31 (v := 1) (by decide) ?_
        refine gz_aload_n (pc := 32) dX8_tell_32 rfl ?_
        refine gr_X8_21 (pc := 33) dX8_tell_33 z_t_0 rfl ?_
        refine gr_X8_132 (pc := 36) dX8_tell_36 z_t_7 rfl ?_
        refine gz_iload_n (pc := 39) dX8_tell_39 rfl ?_
        obtain ⟨b3, h⟩ := gz_gd h
        refine gz_iald2 (pc := 40) dX8_tell_40 (k := a2.toNatClampNeg) (v := v2.2.1 t 11 a2.toNatClampNeg) z_t_11 rfl b3 rfl rfl ?_
        refine gz_SN (zy := mX11_write) (zc := 0) (pc := 41) [.inr (.inr (t1, 26)), .inl 1, .inl (v2.2.1 t 11 a2.toNatClampNeg)] rfl dX8_tell_41 lnX8_125 MsX11_write rfl (Or.inl rfl) (fun h => h) (by exact Nat.le_of_ble_eq_true rfl) ?_
        obtain ⟨v5, e4, h⟩ := gz_bd h
        refine gz_useV (c_X11_write z_t1_26 rfl e4) ?_
        refine gz_aload_n (pc := 44) dX8_tell_44 rfl ?_
        refine gz_iconst (pc := 45) dX8_tell_45 (v := 2) (by decide) ?_
        refine gz_aload_n (pc := 46) dX8_tell_46 rfl ?_
        refine gr_X8_21 (pc := 47) dX8_tell_47 z_t_0 rfl ?_
        refine gr_X8_107 (pc := 50) dX8_tell_50 z_t_7 rfl ?_
        refine gz_iload_n (pc := 53) dX8_tell_53 rfl ?_
        refine gz_iald2 (pc := 54) dX8_tell_54 (k := a2.toNatClampNeg) (v := v5.2.1 t 12 a2.toNatClampNeg) z_t_12 rfl b3 rfl rfl ?_
        refine gz_SN (zy := mX11_write) (zc := 0) (pc := 55) [.inr (.inr (t1, 26)), .inl 2, .inl (v5.2.1 t 12 a2.toNatClampNeg)] rfl dX8_tell_55 lnX8_125 MsX11_write rfl (Or.inl rfl) (fun h => h) (by exact Nat.le_of_ble_eq_true rfl) ?_
        obtain ⟨v7, e6, h⟩ := gz_bd h
        refine gz_useV (c_X11_write z_t1_26 rfl e6) ?_
        refine gz_aload_n (pc := 58) dX8_tell_58 rfl ?_
        refine gz_iconst (pc := 59) dX8_tell_59 (v := 3) (by decide) ?_
        refine gz_aload_n (pc := 60) dX8_tell_60 rfl ?_
        refine gr_X8_12 (pc := 61) dX8_tell_61 z_t_0 rfl ?_
        refine gr_X8_160 (pc := 64) dX8_tell_64 z_t_1 rfl ?_
        refine gz_aload_n (pc := 67) dX8_tell_67 rfl ?_
        refine gr_X8_21 (pc := 68) dX8_tell_68 z_t_0 rfl ?_
        refine gr_X8_163 (pc := 71) dX8_tell_71 z_t_7 rfl ?_
        refine gz_iload_n (pc := 74) dX8_tell_74 rfl ?_
        refine gz_iald2 (pc := 75) dX8_tell_75 (k := a2.toNatClampNeg) (v := v7.2.1 t 8 a2.toNatClampNeg) z_t_8 rfl b3 rfl rfl ?_
        refine gz_SN (zy := mX11_cell) (zc := 0) (pc := 76) [.inr (.inr (t, 2)), .inl (v7.2.1 t 8 a2.toNatClampNeg)] rfl dX8_tell_76 lnX8_76 MsX11_cell rfl (Or.inl rfl) (fun h => h) (by exact Nat.le_of_ble_eq_true rfl) ?_
        obtain ⟨v9, e8, h⟩ := gz_bd h
        refine gz_useI (c_X11_cell z_t_2 rfl e8) ?_
        refine gz_SN (zy := mX11_write) (zc := 0) (pc := 79) [.inr (.inr (t1, 26)), .inl 3, .inl v9] rfl dX8_tell_79 lnX8_125 MsX11_write rfl (Or.inl rfl) (fun h => h) (by exact Nat.le_of_ble_eq_true rfl) ?_
        obtain ⟨v11, e10, h⟩ := gz_bd h
        refine gz_useV (c_X11_write z_t1_26 rfl e10) ?_
        refine gz_aload_n (pc := 82) dX8_tell_82 rfl ?_
        refine gz_iconst (pc := 83) dX8_tell_83 (v := 4) (by decide) ?_
        refine gz_aload_n (pc := 84) dX8_tell_84 rfl ?_
        refine gr_X8_32 (pc := 85) dX8_tell_85 z_t_0 rfl ?_
        refine gz_aload_n (pc := 88) dX8_tell_88 rfl ?_
        refine gr_X8_21 (pc := 89) dX8_tell_89 z_t_0 rfl ?_
        refine gr_X8_154 (pc := 92) dX8_tell_92 z_t_7 rfl ?_
        refine gz_iload_n (pc := 95) dX8_tell_95 rfl ?_
        refine gz_iald2 (pc := 96) dX8_tell_96 (k := a2.toNatClampNeg) (v := v11.2.1 t 10 a2.toNatClampNeg) z_t_10 rfl b3 rfl rfl ?_
        refine gz_SN (zy := mX11_cell) (zc := 0) (pc := 97) [.inr (.inr (t, 17)), .inl (v11.2.1 t 10 a2.toNatClampNeg)] rfl dX8_tell_97 lnX8_76 MsX11_cell rfl (Or.inl rfl) (fun h => h) (by exact Nat.le_of_ble_eq_true rfl) ?_
        obtain ⟨v13, e12, h⟩ := gz_bd h
        refine gz_useI (c_X11_cell z_t_17 rfl e12) ?_
        refine gz_SN (zy := mX11_write) (zc := 0) (pc := 100) [.inr (.inr (t1, 26)), .inl 4, .inl v13] rfl dX8_tell_100 lnX8_125 MsX11_write rfl (Or.inl rfl) (fun h => h) (by exact Nat.le_of_ble_eq_true rfl) ?_
        obtain ⟨v15, e14, h⟩ := gz_bd h
        refine gz_useV (c_X11_write z_t1_26 rfl e14) ?_
        refine gz_aload_n (pc := 103) dX8_tell_103 rfl ?_
        refine gz_iconst (pc := 104) dX8_tell_104 (v := 5) (by decide) ?_
        refine gz_aload_n (pc := 105) dX8_tell_105 rfl ?_
        refine gr_X8_36 (pc := 106) dX8_tell_106 z_t_0 rfl ?_
        refine gz_aload_n (pc := 109) dX8_tell_109 rfl ?_
        refine gr_X8_21 (pc := 110) dX8_tell_110 z_t_0 rfl ?_
        refine gr_X8_154 (pc := 113) dX8_tell_113 z_t_7 rfl ?_
        refine gz_iload_n (pc := 116) dX8_tell_116 rfl ?_
        refine gz_iald2 (pc := 117) dX8_tell_117 (k := a2.toNatClampNeg) (v := v15.2.1 t 10 a2.toNatClampNeg) z_t_10 rfl b3 rfl rfl ?_
        refine gz_SN (zy := mX11_cell) (zc := 0) (pc := 118) [.inr (.inr (t, 18)), .inl (v15.2.1 t 10 a2.toNatClampNeg)] rfl dX8_tell_118 lnX8_76 MsX11_cell rfl (Or.inl rfl) (fun h => h) (by exact Nat.le_of_ble_eq_true rfl) ?_
        obtain ⟨v17, e16, h⟩ := gz_bd h
        refine gz_useI (c_X11_cell z_t_18 rfl e16) ?_
        refine gz_SN (zy := mX11_write) (zc := 0) (pc := 121) [.inr (.inr (t1, 26)), .inl 5, .inl v17] rfl dX8_tell_121 lnX8_125 MsX11_write rfl (Or.inl rfl) (fun h => h) (by exact Nat.le_of_ble_eq_true rfl) ?_
        obtain ⟨v19, e18, h⟩ := gz_bd h
        refine gz_useV (c_X11_write z_t1_26 rfl e18) ?_
        refine gz_aload_n (pc := 124) dX8_tell_124 rfl ?_
        refine gz_bipush (pc := 125) dX8_tell_125 (v := 6) (by decide) ?_
        refine gz_aload_n (pc := 127) dX8_tell_127 rfl ?_
        refine gz_V (zy := mX8_heatNow) (zc := 0) (pc := 128) [] rfl dX8_tell_128 lkX8_143 MvX8_heatNow rfl z_t_0 rfl rfl rfl (Or.inl rfl) (fun h => h) (by exact Nat.le_of_ble_eq_true rfl) ?_
        obtain ⟨v21, e20, h⟩ := gz_bd h
        refine gz_useI (c_X8_heatNow ht e20) ?_
        refine gz_SN (zy := mX11_write) (zc := 0) (pc := 131) [.inr (.inr (t1, 26)), .inl 6, .inl v21] rfl dX8_tell_131 lnX8_125 MsX11_write rfl (Or.inl rfl) (fun h => h) (by exact Nat.le_of_ble_eq_true rfl) ?_
        obtain ⟨v23, e22, h⟩ := gz_bd h
        refine gz_useV (c_X11_write z_t1_26 rfl e22) ?_
        refine gz_aload_n (pc := 134) dX8_tell_134 rfl ?_
        refine gz_bipush (pc := 135) dX8_tell_135 (v := 7) (by decide) ?_
        refine gz_aload_n (pc := 137) dX8_tell_137 rfl ?_
        refine gi_X8_46 (pc := 138) dX8_tell_138 (v := v23.2.1 t 0 7) z_t_0 rfl rfl ?_
        refine gz_iconst (pc := 141) dX8_tell_141 (v := 4) (by decide) ?_
        refine gz_irem (pc := 142) dX8_tell_142 (by decide) ?_
        refine gz_SN (zy := mX11_write) (zc := 0) (pc := 143) [.inr (.inr (t1, 26)), .inl 7, .inl ((v23.2.1 t 0 7) - (v23.2.1 t 0 7) / 4 * 4)] rfl dX8_tell_143 lnX8_125 MsX11_write rfl (Or.inl rfl) (fun h => h) (by exact Nat.le_of_ble_eq_true rfl) ?_
        obtain ⟨v26, e25, h⟩ := gz_bd h
        refine gz_useV (c_X11_write z_t1_26 rfl e25) ?_
        refine gz_aload_n (pc := 146) dX8_tell_146 rfl ?_
        refine gz_bipush (pc := 147) dX8_tell_147 (v := 8) (by decide) ?_
        refine gz_aload_n (pc := 149) dX8_tell_149 rfl ?_
        refine gr_X8_21 (pc := 150) dX8_tell_150 z_t_0 rfl ?_
        refine gr_X8_157 (pc := 153) dX8_tell_153 z_t_7 rfl ?_
        refine gz_iload_n (pc := 156) dX8_tell_156 rfl ?_
        refine gz_zald2 (pc := 157) dX8_tell_157 (k := a2.toNatClampNeg) (v := v26.2.1 t 13 a2.toNatClampNeg) z_t_13 rfl b3 rfl rfl ?_
        have kj27 : gzX g 0 (d + 2) mX8_tell 166 [some (.inr (.inr (t, 0))), some (.inr (.inr (t1, 20))), some (.inl a2), some (.inr (.inr (t1, 26)))] ([.inl (if v26.2.1 t 13 a2.toNatClampNeg = 0 then (0 : Int32) else 1), .inl 8, .inr (.inr (t1, 26))]) (gzN, gzR0, v26.2.1, v26.2.2) 0 (gzE (.ok none) (gzN, gzR0, r.2.1, r.2.2)) := by
          refine gz_SN (zy := mX11_write) (zc := 0) (pc := 166) [.inr (.inr (t1, 26)), .inl 8, .inl (if v26.2.1 t 13 a2.toNatClampNeg = 0 then (0 : Int32) else 1)] rfl dX8_tell_166 lnX8_125 MsX11_write rfl (Or.inl rfl) (fun h => h) (by exact Nat.le_of_ble_eq_true rfl) ?_
          obtain ⟨v29, e28, h⟩ := gz_bd h
          refine gz_useV (c_X11_write z_t1_26 rfl e28) ?_
          refine gz_aload_n (pc := 169) dX8_tell_169 rfl ?_
          refine gz_bipush (pc := 170) dX8_tell_170 (v := 9) (by decide) ?_
          refine gz_aload_n (pc := 172) dX8_tell_172 rfl ?_
          refine gr_X8_21 (pc := 173) dX8_tell_173 z_t_0 rfl ?_
          refine gz_aload_n (pc := 176) dX8_tell_176 rfl ?_
          refine gr_X8_21 (pc := 177) dX8_tell_177 z_t_0 rfl ?_
          refine gr_X8_166 (pc := 180) dX8_tell_180 z_t_7 rfl ?_
          refine gz_iload_n (pc := 183) dX8_tell_183 rfl ?_
          refine gz_iald2 (pc := 184) dX8_tell_184 (k := a2.toNatClampNeg) (v := v29.2.1 t 9 a2.toNatClampNeg) z_t_9 rfl b3 rfl rfl ?_
          refine gz_aload_n (pc := 185) dX8_tell_185 rfl ?_
          refine gr_X8_21 (pc := 186) dX8_tell_186 z_t_0 rfl ?_
          refine gr_X8_163 (pc := 189) dX8_tell_189 z_t_7 rfl ?_
          refine gz_iload_n (pc := 192) dX8_tell_192 rfl ?_
          refine gz_iald2 (pc := 193) dX8_tell_193 (k := a2.toNatClampNeg) (v := v29.2.1 t 8 a2.toNatClampNeg) z_t_8 rfl b3 rfl rfl ?_
          refine gz_V (zy := mX1_find) (zc := 0) (pc := 194) [.inl (v29.2.1 t 9 a2.toNatClampNeg), .inl (v29.2.1 t 8 a2.toNatClampNeg)] rfl dX8_tell_194 lkX8_169 MvX1_find rfl z_t_7 rfl rfl rfl (Or.inl rfl) (fun h => h) (by exact Nat.le_of_ble_eq_true rfl) ?_
          obtain ⟨v31, e30, h⟩ := gz_bd h
          refine gz_useI (c_X1_find ht e30) ?_
          refine gz_iconst (pc := 197) dX8_tell_197 (v := (-1)) (by decide) ?_
          have kj32 : gzX g 0 (d + 2) mX8_tell 206 [some (.inr (.inr (t, 0))), some (.inr (.inr (t1, 20))), some (.inl a2), some (.inr (.inr (t1, 26)))] ([.inl (if v31 = (-1) then (0 : Int32) else 1), .inl 9, .inr (.inr (t1, 26))]) (gzN, gzR0, v29.2.1, v29.2.2) 0 (gzE (.ok none) (gzN, gzR0, r.2.1, r.2.2)) := by
            refine gz_SN (zy := mX11_write) (zc := 0) (pc := 206) [.inr (.inr (t1, 26)), .inl 9, .inl (if v31 = (-1) then (0 : Int32) else 1)] rfl dX8_tell_206 lnX8_125 MsX11_write rfl (Or.inl rfl) (fun h => h) (by exact Nat.le_of_ble_eq_true rfl) ?_
            obtain ⟨v34, e33, h⟩ := gz_bd h
            refine gz_useV (c_X11_write z_t1_26 rfl e33) ?_
            refine gz_aload_n (pc := 209) dX8_tell_209 rfl ?_
            refine gz_bipush (pc := 210) dX8_tell_210 (v := 10) (by decide) ?_
            refine gz_aload_n (pc := 212) dX8_tell_212 rfl ?_
            refine gi_X8_52 (pc := 213) dX8_tell_213 (v := v34.2.1 t 0 9) z_t_0 rfl rfl ?_
            have kj35 : gzX g 0 (d + 2) mX8_tell 224 [some (.inr (.inr (t, 0))), some (.inr (.inr (t1, 20))), some (.inl a2), some (.inr (.inr (t1, 26)))] ([.inl (if v34.2.1 t 0 9 = 0 then (0 : Int32) else 1), .inl 10, .inr (.inr (t1, 26))]) (gzN, gzR0, v34.2.1, v34.2.2) 0 (gzE (.ok none) (gzN, gzR0, r.2.1, r.2.2)) := by
              refine gz_SN (zy := mX11_write) (zc := 0) (pc := 224) [.inr (.inr (t1, 26)), .inl 10, .inl (if v34.2.1 t 0 9 = 0 then (0 : Int32) else 1)] rfl dX8_tell_224 lnX8_125 MsX11_write rfl (Or.inl rfl) (fun h => h) (by exact Nat.le_of_ble_eq_true rfl) ?_
              obtain ⟨v37, e36, h⟩ := gz_bd h
              refine gz_useV (c_X11_write z_t1_26 rfl e36) ?_
              cases h; exact gz_vret (pc := 227) dX8_tell_227 rfl ⟨rfl, rfl⟩
            refine gz_if_eq (pc := 216) (tgt := 223) dX8_tell_216 (by decide) (fun c => ?_) (fun c => ?_)
            · rw [if_pos c] at kj35
              refine gz_iconst (pc := 223) dX8_tell_223 (v := 0) (by decide) ?_
              exact kj35
            · rw [if_neg c] at kj35
              refine gz_iconst (pc := 219) dX8_tell_219 (v := 1) (by decide) ?_
              refine gz_goto (pc := 220) (tgt := 224) dX8_tell_220 (by decide) ?_
              exact kj35
          refine gz_ic_eq (pc := 198) (tgt := 205) dX8_tell_198 (by decide) (fun c => ?_) (fun c => ?_)
          · rw [if_pos c] at kj32
            refine gz_iconst (pc := 205) dX8_tell_205 (v := 0) (by decide) ?_
            exact kj32
          · rw [if_neg c] at kj32
            refine gz_iconst (pc := 201) dX8_tell_201 (v := 1) (by decide) ?_
            refine gz_goto (pc := 202) (tgt := 206) dX8_tell_202 (by decide) ?_
            exact kj32
        refine gz_if_eq (pc := 158) (tgt := 165) dX8_tell_158 (by decide) (fun c => ?_) (fun c => ?_)
        · rw [if_pos c] at kj27
          refine gz_iconst (pc := 165) dX8_tell_165 (v := 0) (by decide) ?_
          exact kj27
        · rw [if_neg c] at kj27
          refine gz_iconst (pc := 161) dX8_tell_161 (v := 1) (by decide) ?_
          refine gz_goto (pc := 162) (tgt := 166) dX8_tell_162 (by decide) ?_
          exact kj27
      · replace h := gz_ifn c h
        cases h; exact gz_vret (pc := 18) dX8_tell_18 rfl ⟨rfl, rfl⟩
/-! X8_turnAll: turnAll -/
def gP_X8_turnAll_4 (g : gzG) (t : Nat) (t1 : Nat) (d : Nat) (r : Int32 × gzIT × gzJT) (x2 : Int32) (x3 : Int32) (I : gzIT) (J : gzJT) : Prop := gzX g 0 (d + 4) mX8_turnAll 4 [some (.inr (.inr (t, 0))), some (.inr (.inr (t1, 20))), some (.inl x2), some (.inl x3), none] [] (gzN, gzR0, I, J) 0 (gzE (.ok (some (.inl r.1))) (gzN, gzR0, r.2.1, r.2.2))
def f_X8_turnAll_4 (φ : Nat) (t : Nat) (t1 : Nat) : Nat → Int32 → Int32 → gzIT → gzJT → Option (Int32 × gzIT × gzJT)
  | 0, _, _, _, _ => none
  | k + 1, x2, x3, I, J => if I t 7 7 ≤ x3 then (some (x2, I, J)) else (Option.bind (f_X1_frozen t I x3) (fun v2 => if ¬ v2 = 0 then (Option.bind (f_X8_tell φ t t1 x3 I J) (fun v4 => gzGd (x3) 10 (Option.bind (f_X8_amountBy φ t t1 1023 x3 v4.2.1 v4.2.2) (fun v7 => Option.bind (f_X11_write t1 26 11 2 (if (v4.2.1 t 12 x3.toNatClampNeg) + v7.1 < 999 then (v4.2.1 t 12 x3.toNatClampNeg) + v7.1 else 999) (gz_ui v7.2.1 t 12 x3.toNatClampNeg (if (v4.2.1 t 12 x3.toNatClampNeg) + v7.1 < 999 then (v4.2.1 t 12 x3.toNatClampNeg) + v7.1 else 999)) v7.2.2) (fun v9 => Option.bind (f_X8_amountBy φ t t1 1024 x3 v9.2.1 v9.2.2) (fun v11 => Option.bind (f_X8_amountBy φ t t1 1025 x3 v11.2.1 v11.2.2) (fun v13 => if ¬ (if 0 < (v13.2.1 t 12 x3.toNatClampNeg) - (if 0 < v11.1 - v13.1 then v11.1 - v13.1 else 0) then (v13.2.1 t 12 x3.toNatClampNeg) - (if 0 < v11.1 - v13.1 then v11.1 - v13.1 else 0) else 0) = 0 then (f_X8_turnAll_4 φ t t1 k x2 (x3 + 1) (gz_ui (gz_ui v13.2.1 t 12 x3.toNatClampNeg (if 0 < (v13.2.1 t 12 x3.toNatClampNeg) - (if 0 < v11.1 - v13.1 then v11.1 - v13.1 else 0) then (v13.2.1 t 12 x3.toNatClampNeg) - (if 0 < v11.1 - v13.1 then v11.1 - v13.1 else 0) else 0)) t 11 x3.toNatClampNeg (if (v13.2.1 t 11 x3.toNatClampNeg) + 1 < 99 then (v13.2.1 t 11 x3.toNatClampNeg) + 1 else 99)) v13.2.2) else (Option.bind (f_X4_put t (v13.2.1 t 0 7) x3 0 0 (gz_ui (gz_ui (gz_ui v13.2.1 t 12 x3.toNatClampNeg (if 0 < (v13.2.1 t 12 x3.toNatClampNeg) - (if 0 < v11.1 - v13.1 then v11.1 - v13.1 else 0) then (v13.2.1 t 12 x3.toNatClampNeg) - (if 0 < v11.1 - v13.1 then v11.1 - v13.1 else 0) else 0)) t 11 x3.toNatClampNeg (if (v13.2.1 t 11 x3.toNatClampNeg) + 1 < 99 then (v13.2.1 t 11 x3.toNatClampNeg) + 1 else 99)) t 14 x3.toNatClampNeg 1) v13.2.2) (fun v15 => f_X8_turnAll_4 φ t t1 k (x2 + 1) (x3 + 1) v15.2.1 v15.2.2))))))))) else (f_X8_turnAll_4 φ t t1 k x2 (x3 + 1) I J)))
set_option maxRecDepth 20000 in
theorem p_X8_turnAll_4 {g : gzG} {d φ : Nat} {t : Nat} {t1 : Nat} (ht : t < 15) (ht1 : t1 < 3) {r : Int32 × gzIT × gzJT} : ∀ (k : Nat) (x2 : Int32) (x3 : Int32) (I : gzIT) (J : gzJT), f_X8_turnAll_4 φ t t1 k x2 x3 I J = some r → gP_X8_turnAll_4 g t t1 d r x2 x3 I J := by
  intro k; induction k with
  | zero => intro x2 x3 I J h; cases h
  | succ k ih =>
    intro x2 x3 I J h
    unfold f_X8_turnAll_4 at h
    unfold gP_X8_turnAll_4
    have z_t_0 : gzOk t 0 gzN := gzOk_of ht
    have z_t_7 : gzOk t 7 gzN := gzOk_of ht
    have z_t_12 : gzOk t 12 gzN := gzOk_of ht
    have z_t1_20 : gzOk t1 20 gzN := gzOk_of ht1
    have z_t1_26 : gzOk t1 26 gzN := gzOk_of ht1
    have z_t_11 : gzOk t 11 gzN := gzOk_of ht
    have z_t_14 : gzOk t 14 gzN := gzOk_of ht
    have z_t_15 : gzOk t 15 gzN := gzOk_of ht
    refine gz_iload_n (pc := 4) dX8_turnAll_4 rfl ?_
    refine gz_aload_n (pc := 5) dX8_turnAll_5 rfl ?_
    refine gr_X8_21 (pc := 6) dX8_turnAll_6 z_t_0 rfl ?_
    refine gi_X8_96 (pc := 9) dX8_turnAll_9 (v := I t 7 7) z_t_7 rfl rfl ?_
    refine gz_ic_ge (pc := 12) (tgt := 206) dX8_turnAll_12 (by decide) (fun c => ?_) (fun c => ?_)
    · replace h := gz_ifp c h
      refine gz_iload_n (pc := 206) dX8_turnAll_206 rfl ?_
      cases h; exact gz_iret (pc := 207) dX8_turnAll_207 rfl ⟨rfl, rfl⟩
    · replace h := gz_ifn c h
      refine gz_aload_n (pc := 15) dX8_turnAll_15 rfl ?_
      refine gr_X8_21 (pc := 16) dX8_turnAll_16 z_t_0 rfl ?_
      refine gz_iload_n (pc := 19) dX8_turnAll_19 rfl ?_
      refine gz_V (zy := mX1_frozen) (zc := 0) (pc := 20) [.inl x3] rfl dX8_turnAll_20 lkX8_99 MvX1_frozen rfl z_t_7 rfl rfl rfl (Or.inl rfl) (fun h => h) (by exact Nat.le_of_ble_eq_true rfl) ?_
      obtain ⟨v2, e1, h⟩ := gz_bd h
      refine gz_useI (c_X1_frozen ht e1) ?_
      refine gz_if_ne (pc := 23) (tgt := 29) dX8_turnAll_23 (by decide) (fun c => ?_) (fun c => ?_)
      · replace h := gz_ifp c h
        refine gz_aload_n (pc := 29) dX8_turnAll_29 rfl ?_
        refine gz_aload_n (pc := 30) dX8_turnAll_30 rfl ?_
        refine gz_iload_n (pc := 31) dX8_turnAll_31 rfl ?_
        refine gz_V (zy := mX8_tell) (zc := 0) (pc := 32) [.inr (.inr (t1, 20)), .inl x3] rfl dX8_turnAll_32 lkX8_103 MvX8_tell rfl z_t_0 rfl rfl rfl (Or.inl rfl) (fun h => h) (by exact Nat.le_of_ble_eq_true rfl) ?_
        obtain ⟨v4, e3, h⟩ := gz_bd h
        refine gz_useV (c_X8_tell ht ht1 e3) ?_
        refine gz_aload_n (pc := 35) dX8_turnAll_35 rfl ?_
        refine gr_X8_21 (pc := 36) dX8_turnAll_36 z_t_0 rfl ?_
        refine gr_X8_107 (pc := 39) dX8_turnAll_39 z_t_7 rfl ?_
        refine gz_iload_n (pc := 42) dX8_turnAll_42 rfl ?_
        refine gz_sipush (pc := 43) dX8_turnAll_43 (v := 999) (by decide) ?_
        refine gz_aload_n (pc := 46) dX8_turnAll_46 rfl ?_
        refine gr_X8_21 (pc := 47) dX8_turnAll_47 z_t_0 rfl ?_
        refine gr_X8_107 (pc := 50) dX8_turnAll_50 z_t_7 rfl ?_
        refine gz_iload_n (pc := 53) dX8_turnAll_53 rfl ?_
        obtain ⟨b5, h⟩ := gz_gd h
        refine gz_iald2 (pc := 54) dX8_turnAll_54 (k := x3.toNatClampNeg) (v := v4.2.1 t 12 x3.toNatClampNeg) z_t_12 rfl b5 rfl rfl ?_
        refine gz_aload_n (pc := 55) dX8_turnAll_55 rfl ?_
        refine gz_aload_n (pc := 56) dX8_turnAll_56 rfl ?_
        refine gz_sipush (pc := 57) dX8_turnAll_57 (v := 1023) (by decide) ?_
        refine gz_iload_n (pc := 60) dX8_turnAll_60 rfl ?_
        refine gz_V (zy := mX8_amountBy) (zc := 0) (pc := 61) [.inr (.inr (t1, 20)), .inl 1023, .inl x3] rfl dX8_turnAll_61 lkX8_110 MvX8_amountBy rfl z_t_0 rfl rfl rfl (Or.inl rfl) (fun h => h) (by exact Nat.le_of_ble_eq_true rfl) ?_
        obtain ⟨v7, e6, h⟩ := gz_bd h
        refine gz_useI (c_X8_amountBy ht ht1 e6) ?_
        refine gz_iadd (pc := 64) dX8_turnAll_64  ?_
        refine gn_X8_114 (pc := 65) dX8_turnAll_65 (Nat.le_of_ble_eq_true rfl) rfl ?_
        refine gz_iast2 (pc := 68) dX8_turnAll_68 (k := x3.toNatClampNeg) z_t_12 rfl b5 rfl ?_
        refine gz_aload_n (pc := 69) dX8_turnAll_69 rfl ?_
        refine gr_X8_120 (pc := 70) dX8_turnAll_70 z_t1_20 rfl ?_
        refine gz_iconst (pc := 73) dX8_turnAll_73 (v := 2) (by decide) ?_
        refine gz_aload_n (pc := 74) dX8_turnAll_74 rfl ?_
        refine gr_X8_21 (pc := 75) dX8_turnAll_75 z_t_0 rfl ?_
        refine gr_X8_107 (pc := 78) dX8_turnAll_78 z_t_7 rfl ?_
        refine gz_iload_n (pc := 81) dX8_turnAll_81 rfl ?_
        refine gz_iald2 (pc := 82) dX8_turnAll_82 (k := x3.toNatClampNeg) (v := (if (v4.2.1 t 12 x3.toNatClampNeg) + v7.1 < 999 then (v4.2.1 t 12 x3.toNatClampNeg) + v7.1 else 999)) z_t_12 rfl b5 rfl (gz_ui_s) ?_
        refine gz_SN (zy := mX11_write) (zc := 0) (pc := 83) [.inr (.inr (t1, 26)), .inl 2, .inl (if (v4.2.1 t 12 x3.toNatClampNeg) + v7.1 < 999 then (v4.2.1 t 12 x3.toNatClampNeg) + v7.1 else 999)] rfl dX8_turnAll_83 lnX8_125 MsX11_write rfl (Or.inl rfl) (fun h => h) (by exact Nat.le_of_ble_eq_true rfl) ?_
        obtain ⟨v9, e8, h⟩ := gz_bd h
        refine gz_useV (c_X11_write z_t1_26 rfl e8) ?_
        refine gz_iconst (pc := 86) dX8_turnAll_86 (v := 0) (by decide) ?_
        refine gz_aload_n (pc := 87) dX8_turnAll_87 rfl ?_
        refine gz_aload_n (pc := 88) dX8_turnAll_88 rfl ?_
        refine gz_sipush (pc := 89) dX8_turnAll_89 (v := 1024) (by decide) ?_
        refine gz_iload_n (pc := 92) dX8_turnAll_92 rfl ?_
        refine gz_V (zy := mX8_amountBy) (zc := 0) (pc := 93) [.inr (.inr (t1, 20)), .inl 1024, .inl x3] rfl dX8_turnAll_93 lkX8_110 MvX8_amountBy rfl z_t_0 rfl rfl rfl (Or.inl rfl) (fun h => h) (by exact Nat.le_of_ble_eq_true rfl) ?_
        obtain ⟨v11, e10, h⟩ := gz_bd h
        refine gz_useI (c_X8_amountBy ht ht1 e10) ?_
        refine gz_aload_n (pc := 96) dX8_turnAll_96 rfl ?_
        refine gz_aload_n (pc := 97) dX8_turnAll_97 rfl ?_
        refine gz_sipush (pc := 98) dX8_turnAll_98 (v := 1025) (by decide) ?_
        refine gz_iload_n (pc := 101) dX8_turnAll_101 rfl ?_
        refine gz_V (zy := mX8_amountBy) (zc := 0) (pc := 102) [.inr (.inr (t1, 20)), .inl 1025, .inl x3] rfl dX8_turnAll_102 lkX8_110 MvX8_amountBy rfl z_t_0 rfl rfl rfl (Or.inl rfl) (fun h => h) (by exact Nat.le_of_ble_eq_true rfl) ?_
        obtain ⟨v13, e12, h⟩ := gz_bd h
        refine gz_useI (c_X8_amountBy ht ht1 e12) ?_
        refine gz_isub (pc := 105) dX8_turnAll_105  ?_
        refine gx_X8_129 (pc := 106) dX8_turnAll_106 (Nat.le_of_ble_eq_true rfl) rfl ?_
        refine gz_istore (pc := 109) dX8_turnAll_109 (by decide) rfl (loc2 := [some (.inr (.inr (t, 0))), some (.inr (.inr (t1, 20))), some (.inl x2), some (.inl x3), some (.inl (if 0 < v11.1 - v13.1 then v11.1 - v13.1 else 0))]) rfl ?_
        refine gz_aload_n (pc := 111) dX8_turnAll_111 rfl ?_
        refine gr_X8_21 (pc := 112) dX8_turnAll_112 z_t_0 rfl ?_
        refine gr_X8_107 (pc := 115) dX8_turnAll_115 z_t_7 rfl ?_
        refine gz_iload_n (pc := 118) dX8_turnAll_118 rfl ?_
        refine gz_iconst (pc := 119) dX8_turnAll_119 (v := 0) (by decide) ?_
        refine gz_aload_n (pc := 120) dX8_turnAll_120 rfl ?_
        refine gr_X8_21 (pc := 121) dX8_turnAll_121 z_t_0 rfl ?_
        refine gr_X8_107 (pc := 124) dX8_turnAll_124 z_t_7 rfl ?_
        refine gz_iload_n (pc := 127) dX8_turnAll_127 rfl ?_
        refine gz_iald2 (pc := 128) dX8_turnAll_128 (k := x3.toNatClampNeg) (v := v13.2.1 t 12 x3.toNatClampNeg) z_t_12 rfl b5 rfl rfl ?_
        refine gz_iload (pc := 129) dX8_turnAll_129 rfl ?_
        refine gz_isub (pc := 131) dX8_turnAll_131  ?_
        refine gx_X8_129 (pc := 132) dX8_turnAll_132 (Nat.le_of_ble_eq_true rfl) rfl ?_
        refine gz_iast2 (pc := 135) dX8_turnAll_135 (k := x3.toNatClampNeg) z_t_12 rfl b5 rfl ?_
        refine gz_aload_n (pc := 136) dX8_turnAll_136 rfl ?_
        refine gr_X8_21 (pc := 137) dX8_turnAll_137 z_t_0 rfl ?_
        refine gr_X8_132 (pc := 140) dX8_turnAll_140 z_t_7 rfl ?_
        refine gz_iload_n (pc := 143) dX8_turnAll_143 rfl ?_
        refine gz_bipush (pc := 144) dX8_turnAll_144 (v := 99) (by decide) ?_
        refine gz_aload_n (pc := 146) dX8_turnAll_146 rfl ?_
        refine gr_X8_21 (pc := 147) dX8_turnAll_147 z_t_0 rfl ?_
        refine gr_X8_132 (pc := 150) dX8_turnAll_150 z_t_7 rfl ?_
        refine gz_iload_n (pc := 153) dX8_turnAll_153 rfl ?_
        refine gz_iald2 (pc := 154) dX8_turnAll_154 (k := x3.toNatClampNeg) (v := v13.2.1 t 11 x3.toNatClampNeg) z_t_11 rfl b5 rfl (gz_ui_o (by decide)) ?_
        refine gz_iconst (pc := 155) dX8_turnAll_155 (v := 1) (by decide) ?_
        refine gz_iadd (pc := 156) dX8_turnAll_156  ?_
        refine gn_X8_114 (pc := 157) dX8_turnAll_157 (Nat.le_of_ble_eq_true rfl) rfl ?_
        refine gz_iast2 (pc := 160) dX8_turnAll_160 (k := x3.toNatClampNeg) z_t_11 rfl b5 rfl ?_
        refine gz_aload_n (pc := 161) dX8_turnAll_161 rfl ?_
        refine gr_X8_21 (pc := 162) dX8_turnAll_162 z_t_0 rfl ?_
        refine gr_X8_107 (pc := 165) dX8_turnAll_165 z_t_7 rfl ?_
        refine gz_iload_n (pc := 168) dX8_turnAll_168 rfl ?_
        refine gz_iald2 (pc := 169) dX8_turnAll_169 (k := x3.toNatClampNeg) (v := (if 0 < (v13.2.1 t 12 x3.toNatClampNeg) - (if 0 < v11.1 - v13.1 then v11.1 - v13.1 else 0) then (v13.2.1 t 12 x3.toNatClampNeg) - (if 0 < v11.1 - v13.1 then v11.1 - v13.1 else 0) else 0)) z_t_12 rfl b5 rfl ((gz_ui_o (by decide)).trans (gz_ui_s)) ?_
        refine gz_if_ne (pc := 170) (tgt := 200) dX8_turnAll_170 (by decide) (fun c => ?_) (fun c => ?_)
        · replace h := gz_ifp c h
          refine gz_iinc (pc := 200) dX8_turnAll_200 (x := x3) (v := x3 + 1) rfl (by rw [show Int32.ofInt 1 = 1 by decide]) (by decide) rfl (loc2 := [some (.inr (.inr (t, 0))), some (.inr (.inr (t1, 20))), some (.inl x2), some (.inl (x3 + 1)), some (.inl (if 0 < v11.1 - v13.1 then v11.1 - v13.1 else 0))]) rfl ?_
          refine gz_goto (pc := 203) (tgt := 4) dX8_turnAll_203 (by decide) ?_
          exact gz_weak (loc2 := [some (.inr (.inr (t, 0))), some (.inr (.inr (t1, 20))), some (.inl x2), some (.inl (x3 + 1)), none]) (ih x2 (x3 + 1) (gz_ui (gz_ui v13.2.1 t 12 x3.toNatClampNeg (if 0 < (v13.2.1 t 12 x3.toNatClampNeg) - (if 0 < v11.1 - v13.1 then v11.1 - v13.1 else 0) then (v13.2.1 t 12 x3.toNatClampNeg) - (if 0 < v11.1 - v13.1 then v11.1 - v13.1 else 0) else 0)) t 11 x3.toNatClampNeg (if (v13.2.1 t 11 x3.toNatClampNeg) + 1 < 99 then (v13.2.1 t 11 x3.toNatClampNeg) + 1 else 99)) v13.2.2 h) (by repeat (first | exact trivial | refine ⟨rfl, ?_⟩))
        · replace h := gz_ifn (fun q => q c) h
          refine gz_aload_n (pc := 173) dX8_turnAll_173 rfl ?_
          refine gr_X8_21 (pc := 174) dX8_turnAll_174 z_t_0 rfl ?_
          refine gr_X8_135 (pc := 177) dX8_turnAll_177 z_t_7 rfl ?_
          refine gz_iload_n (pc := 180) dX8_turnAll_180 rfl ?_
          refine gz_iconst (pc := 181) dX8_turnAll_181 (v := 1) (by decide) ?_
          refine gz_zast2 (pc := 182) dX8_turnAll_182 (k := x3.toNatClampNeg) z_t_14 rfl b5 (by decide) rfl ?_
          refine gz_aload_n (pc := 183) dX8_turnAll_183 rfl ?_
          refine gr_X8_28 (pc := 184) dX8_turnAll_184 z_t_0 rfl ?_
          refine gz_aload_n (pc := 187) dX8_turnAll_187 rfl ?_
          refine gi_X8_46 (pc := 188) dX8_turnAll_188 (v := v13.2.1 t 0 7) z_t_0 ((gz_ui_o (by decide)).trans ((gz_ui_o (by decide)).trans (gz_ui_o (by decide)))) rfl ?_
          refine gz_iload_n (pc := 191) dX8_turnAll_191 rfl ?_
          refine gz_iconst (pc := 192) dX8_turnAll_192 (v := 0) (by decide) ?_
          refine gz_iconst (pc := 193) dX8_turnAll_193 (v := 0) (by decide) ?_
          refine gz_V (zy := mX4_put) (zc := 0) (pc := 194) [.inl (v13.2.1 t 0 7), .inl x3, .inl 0, .inl 0] rfl dX8_turnAll_194 lkX8_139 MvX4_put rfl z_t_15 rfl rfl rfl (Or.inl rfl) (fun h => h) (by exact Nat.le_of_ble_eq_true rfl) ?_
          obtain ⟨v15, e14, h⟩ := gz_bd h
          refine gz_useV (c_X4_put ht e14) ?_
          refine gz_iinc (pc := 197) dX8_turnAll_197 (x := x2) (v := x2 + 1) rfl (by rw [show Int32.ofInt 1 = 1 by decide]) (by decide) rfl (loc2 := [some (.inr (.inr (t, 0))), some (.inr (.inr (t1, 20))), some (.inl (x2 + 1)), some (.inl x3), some (.inl (if 0 < v11.1 - v13.1 then v11.1 - v13.1 else 0))]) rfl ?_
          refine gz_iinc (pc := 200) dX8_turnAll_200 (x := x3) (v := x3 + 1) rfl (by rw [show Int32.ofInt 1 = 1 by decide]) (by decide) rfl (loc2 := [some (.inr (.inr (t, 0))), some (.inr (.inr (t1, 20))), some (.inl (x2 + 1)), some (.inl (x3 + 1)), some (.inl (if 0 < v11.1 - v13.1 then v11.1 - v13.1 else 0))]) rfl ?_
          refine gz_goto (pc := 203) (tgt := 4) dX8_turnAll_203 (by decide) ?_
          exact gz_weak (loc2 := [some (.inr (.inr (t, 0))), some (.inr (.inr (t1, 20))), some (.inl (x2 + 1)), some (.inl (x3 + 1)), none]) (ih (x2 + 1) (x3 + 1) v15.2.1 v15.2.2 h) (by repeat (first | exact trivial | refine ⟨rfl, ?_⟩))
      · replace h := gz_ifn (fun q => q c) h
        refine gz_goto (pc := 26) (tgt := 200) dX8_turnAll_26 (by decide) ?_
        refine gz_iinc (pc := 200) dX8_turnAll_200 (x := x3) (v := x3 + 1) rfl (by rw [show Int32.ofInt 1 = 1 by decide]) (by decide) rfl (loc2 := [some (.inr (.inr (t, 0))), some (.inr (.inr (t1, 20))), some (.inl x2), some (.inl (x3 + 1)), none]) rfl ?_
        refine gz_goto (pc := 203) (tgt := 4) dX8_turnAll_203 (by decide) ?_
        exact ih x2 (x3 + 1) I J h
def f_X8_turnAll (φ : Nat) (t : Nat) (t1 : Nat) (I : gzIT) (J : gzJT) : Option (Int32 × gzIT × gzJT) := f_X8_turnAll_4 φ t t1 φ 0 0 I J
set_option maxRecDepth 20000 in
theorem c_X8_turnAll {g : gzG} {d φ : Nat} {t : Nat} {t1 : Nat} (ht : t < 15) (ht1 : t1 < 3) {I : gzIT} {J : gzJT} {r : Int32 × gzIT × gzJT} (h : f_X8_turnAll φ t t1 I J = some r) : gzC g 0 (d + 4) mX8_turnAll [.inr (.inr (t, 0)), .inr (.inr (t1, 20))] (gzN, gzR0, I, J) (gzE (.ok (some (.inl r.1))) (gzN, gzR0, r.2.1, r.2.2)) := by
  unfold f_X8_turnAll at h
  refine gzC_of (by decide +kernel) (Nat.le_of_ble_eq_true rfl) (loc := [some (.inr (.inr (t, 0))), some (.inr (.inr (t1, 20))), none, none, none]) rfl ?_
  refine gz_iconst (pc := 0) dX8_turnAll_0 (v := 0) (by decide) ?_
  refine gz_istore_n (pc := 1) dX8_turnAll_1 (by decide) rfl (loc2 := [some (.inr (.inr (t, 0))), some (.inr (.inr (t1, 20))), some (.inl 0), none, none]) rfl ?_
  refine gz_iconst (pc := 2) dX8_turnAll_2 (v := 0) (by decide) ?_
  refine gz_istore_n (pc := 3) dX8_turnAll_3 (by decide) rfl (loc2 := [some (.inr (.inr (t, 0))), some (.inr (.inr (t1, 20))), some (.inl 0), some (.inl 0), none]) rfl ?_
  exact p_X8_turnAll_4 ht ht1 φ 0 0 I J h
/-! X8_pass: pass -/
def f_X8_pass (φ : Nat) (t : Nat) (t1 : Nat) (a2 : Int32) (I : gzIT) (J : gzJT) : Option (Int32 × gzIT × gzJT) := Option.bind (f_X8_turnAll φ t t1 I J) (fun v2 => Option.bind (f_X0_eat φ t v2.2.1 v2.2.2) (fun v4 => Option.bind (f_X8_leak t v4.2.1 v4.2.2) (fun v6 => if a2 = 0 then (Option.bind (f_X8_tick t v6.2.1 v6.2.2) (fun v8 => some (v2.1, v8.2.1, v8.2.2))) else (Option.bind (f_X8_kissByDraw φ t v6.2.1 v6.2.2) (fun v10 => Option.bind (f_X8_tick t v10.2.1 v10.2.2) (fun v12 => some (v2.1, v12.2.1, v12.2.2)))))))
set_option maxRecDepth 20000 in
theorem c_X8_pass {g : gzG} {d φ : Nat} {t : Nat} {t1 : Nat} (ht : t < 15) (ht1 : t1 < 3) {a2 : Int32} {I : gzIT} {J : gzJT} {r : Int32 × gzIT × gzJT} (h : f_X8_pass φ t t1 a2 I J = some r) : gzC g 0 (d + 5) mX8_pass [.inr (.inr (t, 0)), .inr (.inr (t1, 20)), .inl a2] (gzN, gzR0, I, J) (gzE (.ok (some (.inl r.1))) (gzN, gzR0, r.2.1, r.2.2)) := by
  unfold f_X8_pass at h
  refine gzC_of (by decide +kernel) (Nat.le_of_ble_eq_true rfl) (loc := [some (.inr (.inr (t, 0))), some (.inr (.inr (t1, 20))), some (.inl a2), none]) rfl ?_
  have z_t_0 : gzOk t 0 gzN := gzOk_of ht
  have z_t_1 : gzOk t 1 gzN := gzOk_of ht
  refine gz_aload_n (pc := 0) dX8_pass_0 rfl ?_
  refine gz_aload_n (pc := 1) dX8_pass_1 rfl ?_
  refine gz_V (zy := mX8_turnAll) (zc := 0) (pc := 2) [.inr (.inr (t1, 20))] rfl dX8_pass_2 lkX8_80 MvX8_turnAll rfl z_t_0 rfl rfl rfl (Or.inl rfl) (fun h => h) (by exact Nat.le_of_ble_eq_true rfl) ?_
  obtain ⟨v2, e1, h⟩ := gz_bd h
  refine gz_useI (c_X8_turnAll ht ht1 e1) ?_
  refine gz_istore_n (pc := 5) dX8_pass_5 (by decide) rfl (loc2 := [some (.inr (.inr (t, 0))), some (.inr (.inr (t1, 20))), some (.inl a2), some (.inl v2.1)]) rfl ?_
  refine gz_aload_n (pc := 6) dX8_pass_6 rfl ?_
  refine gr_X8_12 (pc := 7) dX8_pass_7 z_t_0 rfl ?_
  refine gz_V (zy := mX0_eat) (zc := 0) (pc := 10) [] rfl dX8_pass_10 lkX8_84 MvX0_eat rfl z_t_1 rfl rfl rfl (Or.inl rfl) (fun h => h) (by exact Nat.le_of_ble_eq_true rfl) ?_
  obtain ⟨v4, e3, h⟩ := gz_bd h
  refine gz_useV (c_X0_eat ht e3) ?_
  refine gz_aload_n (pc := 13) dX8_pass_13 rfl ?_
  refine gz_V (zy := mX8_leak) (zc := 0) (pc := 14) [] rfl dX8_pass_14 lkX8_87 MvX8_leak rfl z_t_0 rfl rfl rfl (Or.inl rfl) (fun h => h) (by exact Nat.le_of_ble_eq_true rfl) ?_
  obtain ⟨v6, e5, h⟩ := gz_bd h
  refine gz_useV (c_X8_leak ht e5) ?_
  refine gz_iload_n (pc := 17) dX8_pass_17 rfl ?_
  refine gz_if_eq (pc := 18) (tgt := 25) dX8_pass_18 (by decide) (fun c => ?_) (fun c => ?_)
  · replace h := gz_ifp c h
    refine gz_aload_n (pc := 25) dX8_pass_25 rfl ?_
    refine gz_V (zy := mX8_tick) (zc := 0) (pc := 26) [] rfl dX8_pass_26 lkX8_93 MvX8_tick rfl z_t_0 rfl rfl rfl (Or.inl rfl) (fun h => h) (by exact Nat.le_of_ble_eq_true rfl) ?_
    obtain ⟨v8, e7, h⟩ := gz_bd h
    refine gz_useV (c_X8_tick ht e7) ?_
    refine gz_iload_n (pc := 29) dX8_pass_29 rfl ?_
    cases h; exact gz_iret (pc := 30) dX8_pass_30 rfl ⟨rfl, rfl⟩
  · replace h := gz_ifn c h
    refine gz_aload_n (pc := 21) dX8_pass_21 rfl ?_
    refine gz_V (zy := mX8_kissByDraw) (zc := 0) (pc := 22) [] rfl dX8_pass_22 lkX8_90 MvX8_kissByDraw rfl z_t_0 rfl rfl rfl (Or.inl rfl) (fun h => h) (by exact Nat.le_of_ble_eq_true rfl) ?_
    obtain ⟨v10, e9, h⟩ := gz_bd h
    refine gz_useV (c_X8_kissByDraw ht e9) ?_
    refine gz_aload_n (pc := 25) dX8_pass_25 rfl ?_
    refine gz_V (zy := mX8_tick) (zc := 0) (pc := 26) [] rfl dX8_pass_26 lkX8_93 MvX8_tick rfl z_t_0 rfl rfl rfl (Or.inl rfl) (fun h => h) (by exact Nat.le_of_ble_eq_true rfl) ?_
    obtain ⟨v12, e11, h⟩ := gz_bd h
    refine gz_useV (c_X8_tick ht e11) ?_
    refine gz_iload_n (pc := 29) dX8_pass_29 rfl ?_
    cases h; exact gz_iret (pc := 30) dX8_pass_30 rfl ⟨rfl, rfl⟩
/-! X8_turnsBy: turnsBy -/
def f_X8_turnsBy (φ : Nat) (t : Nat) (t1 : Nat) (a2 : Int32) (a3 : Int32) (I : gzIT) (J : gzJT) : Option (Int32 × gzIT × gzJT) := Option.bind (f_X8_tell φ t t1 a3 I J) (fun v2 => Option.bind (f_X8_amountBy φ t t1 a2 a3 v2.2.1 v2.2.2) (fun v4 => some (v4.1, v4.2.1, v4.2.2)))
set_option maxRecDepth 20000 in
theorem c_X8_turnsBy {g : gzG} {d φ : Nat} {t : Nat} {t1 : Nat} (ht : t < 15) (ht1 : t1 < 3) {a2 : Int32} {a3 : Int32} {I : gzIT} {J : gzJT} {r : Int32 × gzIT × gzJT} (h : f_X8_turnsBy φ t t1 a2 a3 I J = some r) : gzC g 0 (d + 4) mX8_turnsBy [.inr (.inr (t, 0)), .inr (.inr (t1, 20)), .inl a2, .inl a3] (gzN, gzR0, I, J) (gzE (.ok (some (.inl r.1))) (gzN, gzR0, r.2.1, r.2.2)) := by
  unfold f_X8_turnsBy at h
  refine gzC_of (by decide +kernel) (Nat.le_of_ble_eq_true rfl) (loc := [some (.inr (.inr (t, 0))), some (.inr (.inr (t1, 20))), some (.inl a2), some (.inl a3)]) rfl ?_
  have z_t_0 : gzOk t 0 gzN := gzOk_of ht
  refine gz_aload_n (pc := 0) dX8_turnsBy_0 rfl ?_
  refine gz_aload_n (pc := 1) dX8_turnsBy_1 rfl ?_
  refine gz_iload_n (pc := 2) dX8_turnsBy_2 rfl ?_
  refine gz_V (zy := mX8_tell) (zc := 0) (pc := 3) [.inr (.inr (t1, 20)), .inl a3] rfl dX8_turnsBy_3 lkX8_103 MvX8_tell rfl z_t_0 rfl rfl rfl (Or.inl rfl) (fun h => h) (by exact Nat.le_of_ble_eq_true rfl) ?_
  obtain ⟨v2, e1, h⟩ := gz_bd h
  refine gz_useV (c_X8_tell ht ht1 e1) ?_
  refine gz_aload_n (pc := 6) dX8_turnsBy_6 rfl ?_
  refine gz_aload_n (pc := 7) dX8_turnsBy_7 rfl ?_
  refine gz_iload_n (pc := 8) dX8_turnsBy_8 rfl ?_
  refine gz_iload_n (pc := 9) dX8_turnsBy_9 rfl ?_
  refine gz_V (zy := mX8_amountBy) (zc := 0) (pc := 10) [.inr (.inr (t1, 20)), .inl a2, .inl a3] rfl dX8_turnsBy_10 lkX8_110 MvX8_amountBy rfl z_t_0 rfl rfl rfl (Or.inl rfl) (fun h => h) (by exact Nat.le_of_ble_eq_true rfl) ?_
  obtain ⟨v4, e3, h⟩ := gz_bd h
  refine gz_useI (c_X8_amountBy ht ht1 e3) ?_
  cases h; exact gz_iret (pc := 13) dX8_turnsBy_13 rfl ⟨rfl, rfl⟩
/-! X8_price: price -/
def f_X8_price (φ : Nat) (t : Nat) (I : gzIT) (a1 : Int32) : Option Int32 := Option.bind (f_X1_iceOf φ t I a1) (fun v2 => Option.bind (f_X11_cell t 2 6 I a1) (fun v5 => Option.bind (f_X11_cell t 5 6 I a1) (fun v7 => some (if 0 < ((v2 / 10) + v5) - v7 then ((v2 / 10) + v5) - v7 else 0))))
set_option maxRecDepth 20000 in
theorem c_X8_price {g : gzG} {d φ : Nat} {t : Nat} (ht : t < 15) {a1 : Int32} {I : gzIT} {J : gzJT} {r : Int32} (h : f_X8_price φ t I a1 = some r) : gzC g 0 (d + 3) mX8_price [.inr (.inr (t, 0)), .inl a1] (gzN, gzR0, I, J) (gzE (.ok (some (.inl r))) (gzN, gzR0, I, J)) := by
  unfold f_X8_price at h
  refine gzC_of (by decide +kernel) (Nat.le_of_ble_eq_true rfl) (loc := [some (.inr (.inr (t, 0))), some (.inl a1), none]) rfl ?_
  have z_t_0 : gzOk t 0 gzN := gzOk_of ht
  have z_t_7 : gzOk t 7 gzN := gzOk_of ht
  have z_t_1 : gzOk t 1 gzN := gzOk_of ht
  have z_t_2 : gzOk t 2 gzN := gzOk_of ht
  have z_t_5 : gzOk t 5 gzN := gzOk_of ht
  refine gz_aload_n (pc := 0) dX8_price_0 rfl ?_
  refine gr_X8_21 (pc := 1) dX8_price_1 z_t_0 rfl ?_
  refine gz_iload_n (pc := 4) dX8_price_4 rfl ?_
  refine gz_V (zy := mX1_iceOf) (zc := 0) (pc := 5) [.inl a1] rfl dX8_price_5 lkX8_188 MvX1_iceOf rfl z_t_7 rfl rfl rfl (Or.inl rfl) (fun h => h) (by exact Nat.le_of_ble_eq_true rfl) ?_
  obtain ⟨v2, e1, h⟩ := gz_bd h
  refine gz_useI (c_X1_iceOf ht e1) ?_
  refine gz_bipush (pc := 8) dX8_price_8 (v := 10) (by decide) ?_
  refine gz_idiv (pc := 10) dX8_price_10 (by decide) ?_
  refine gz_aload_n (pc := 11) dX8_price_11 rfl ?_
  refine gr_X8_12 (pc := 12) dX8_price_12 z_t_0 rfl ?_
  refine gr_X8_160 (pc := 15) dX8_price_15 z_t_1 rfl ?_
  refine gz_iload_n (pc := 18) dX8_price_18 rfl ?_
  refine gz_SN (zy := mX11_cell) (zc := 0) (pc := 19) [.inr (.inr (t, 2)), .inl a1] rfl dX8_price_19 lnX8_76 MsX11_cell rfl (Or.inl rfl) (fun h => h) (by exact Nat.le_of_ble_eq_true rfl) ?_
  obtain ⟨v5, e4, h⟩ := gz_bd h
  refine gz_useI (c_X11_cell z_t_2 rfl e4) ?_
  refine gz_iadd (pc := 22) dX8_price_22  ?_
  refine gz_istore_n (pc := 23) dX8_price_23 (by decide) rfl (loc2 := [some (.inr (.inr (t, 0))), some (.inl a1), some (.inl ((v2 / 10) + v5))]) rfl ?_
  refine gz_iconst (pc := 24) dX8_price_24 (v := 0) (by decide) ?_
  refine gz_iload_n (pc := 25) dX8_price_25 rfl ?_
  refine gz_aload_n (pc := 26) dX8_price_26 rfl ?_
  refine gr_X8_12 (pc := 27) dX8_price_27 z_t_0 rfl ?_
  refine gr_X8_191 (pc := 30) dX8_price_30 z_t_1 rfl ?_
  refine gz_iload_n (pc := 33) dX8_price_33 rfl ?_
  refine gz_SN (zy := mX11_cell) (zc := 0) (pc := 34) [.inr (.inr (t, 5)), .inl a1] rfl dX8_price_34 lnX8_76 MsX11_cell rfl (Or.inl rfl) (fun h => h) (by exact Nat.le_of_ble_eq_true rfl) ?_
  obtain ⟨v7, e6, h⟩ := gz_bd h
  refine gz_useI (c_X11_cell z_t_5 rfl e6) ?_
  refine gz_isub (pc := 37) dX8_price_37  ?_
  refine gx_X8_129 (pc := 38) dX8_price_38 (Nat.le_of_ble_eq_true rfl) rfl ?_
  cases h; exact gz_iret (pc := 41) dX8_price_41 rfl ⟨rfl, rfl⟩
/-! X8_missed: missed -/
def f_X8_missed (φ : Nat) (t : Nat) (I : gzIT) (a1 : Int32) : Option Int32 := Option.bind (f_X0_wantTogether φ t I (a1 &&& (((1 : Int32) <<< ((I t 1 5) &&& 31)) - 1))) (fun v2 => Option.bind (f_X1_iceFor φ t I (a1 &&& (((1 : Int32) <<< ((I t 1 5) &&& 31)) - 1))) (fun v4 => some (if 0 < v2 - v4 then v2 - v4 else 0)))
set_option maxRecDepth 20000 in
theorem c_X8_missed {g : gzG} {d φ : Nat} {t : Nat} (ht : t < 15) {a1 : Int32} {I : gzIT} {J : gzJT} {r : Int32} (h : f_X8_missed φ t I a1 = some r) : gzC g 0 (d + 2) mX8_missed [.inr (.inr (t, 0)), .inl a1] (gzN, gzR0, I, J) (gzE (.ok (some (.inl r))) (gzN, gzR0, I, J)) := by
  unfold f_X8_missed at h
  refine gzC_of (by decide +kernel) (Nat.le_of_ble_eq_true rfl) (loc := [some (.inr (.inr (t, 0))), some (.inl a1), none]) rfl ?_
  have z_t_0 : gzOk t 0 gzN := gzOk_of ht
  have z_t_1 : gzOk t 1 gzN := gzOk_of ht
  have z_t_7 : gzOk t 7 gzN := gzOk_of ht
  refine gz_iload_n (pc := 0) dX8_missed_0 rfl ?_
  refine gz_iconst (pc := 1) dX8_missed_1 (v := 1) (by decide) ?_
  refine gz_aload_n (pc := 2) dX8_missed_2 rfl ?_
  refine gr_X8_12 (pc := 3) dX8_missed_3 z_t_0 rfl ?_
  refine gi_X8_194 (pc := 6) dX8_missed_6 (v := I t 1 5) z_t_1 rfl rfl ?_
  refine gz_ishl (pc := 9) dX8_missed_9  ?_
  refine gz_iconst (pc := 10) dX8_missed_10 (v := 1) (by decide) ?_
  refine gz_isub (pc := 11) dX8_missed_11  ?_
  refine gz_iand (pc := 12) dX8_missed_12  ?_
  refine gz_istore_n (pc := 13) dX8_missed_13 (by decide) rfl (loc2 := [some (.inr (.inr (t, 0))), some (.inl a1), some (.inl (a1 &&& (((1 : Int32) <<< ((I t 1 5) &&& 31)) - 1)))]) rfl ?_
  refine gz_iconst (pc := 14) dX8_missed_14 (v := 0) (by decide) ?_
  refine gz_aload_n (pc := 15) dX8_missed_15 rfl ?_
  refine gr_X8_12 (pc := 16) dX8_missed_16 z_t_0 rfl ?_
  refine gz_iload_n (pc := 19) dX8_missed_19 rfl ?_
  refine gz_V (zy := mX0_wantTogether) (zc := 0) (pc := 20) [.inl (a1 &&& (((1 : Int32) <<< ((I t 1 5) &&& 31)) - 1))] rfl dX8_missed_20 lkX8_195 MvX0_wantTogether rfl z_t_1 rfl rfl rfl (Or.inl rfl) (fun h => h) (by exact Nat.le_of_ble_eq_true rfl) ?_
  obtain ⟨v2, e1, h⟩ := gz_bd h
  refine gz_useI (c_X0_wantTogether ht e1) ?_
  refine gz_aload_n (pc := 23) dX8_missed_23 rfl ?_
  refine gr_X8_21 (pc := 24) dX8_missed_24 z_t_0 rfl ?_
  refine gz_iload_n (pc := 27) dX8_missed_27 rfl ?_
  refine gz_V (zy := mX1_iceFor) (zc := 0) (pc := 28) [.inl (a1 &&& (((1 : Int32) <<< ((I t 1 5) &&& 31)) - 1))] rfl dX8_missed_28 lkX8_198 MvX1_iceFor rfl z_t_7 rfl rfl rfl (Or.inl rfl) (fun h => h) (by exact Nat.le_of_ble_eq_true rfl) ?_
  obtain ⟨v4, e3, h⟩ := gz_bd h
  refine gz_useI (c_X1_iceFor ht e3) ?_
  refine gz_isub (pc := 31) dX8_missed_31  ?_
  refine gx_X8_129 (pc := 32) dX8_missed_32 (Nat.le_of_ble_eq_true rfl) rfl ?_
  cases h; exact gz_iret (pc := 35) dX8_missed_35 rfl ⟨rfl, rfl⟩
/-! X8_fitting: fitting -/
def gP_X8_fitting_18 (g : gzG) (t : Nat) (d : Nat) (r : Int32) (x2 : Int32) (x3 : Int32) (x4 : Int32) (x5 : Int32) (x6 : Int32) (I : gzIT) (J : gzJT) : Prop := gzX g 0 (d + 2) mX8_fitting 18 [some (.inr (.inr (t, 0))), some (.inr (.inr (0, 31))), some (.inl x2), some (.inl x3), some (.inl x4), some (.inl x5), some (.inl x6), none] [] (gzN, gzR0, I, J) 0 (gzE (.ok (some (.inl r))) (gzN, gzR0, I, J))
def gP_X8_fitting_5 (g : gzG) (t : Nat) (d : Nat) (r : Int32) (x2 : Int32) (x3 : Int32) (x4 : Int32) (I : gzIT) (J : gzJT) : Prop := gzX g 0 (d + 2) mX8_fitting 5 [some (.inr (.inr (t, 0))), some (.inr (.inr (0, 31))), some (.inl x2), some (.inl x3), some (.inl x4), none, none, none] [] (gzN, gzR0, I, J) 0 (gzE (.ok (some (.inl r))) (gzN, gzR0, I, J))
def f_X8_fitting_18 (φ : Nat) (t : Nat) (I : gzIT) (K5 : Int32 → Int32 → Int32 → Option Int32) : Nat → Int32 → Int32 → Int32 → Int32 → Int32 → Option Int32
  | 0, _, _, _, _, _ => none
  | k + 1, x2, x3, x4, x5, x6 => if x2 ≤ x6 + 1 then (if 1 < x5 then (K5 x2 x3 (x4 + 1)) else (K5 x2 (x3 ||| ((1 : Int32) <<< (x4 &&& 31))) (x4 + 1))) else (Option.bind (f_X6_byteAt I x6) (fun v2 => if ¬ v2 = 0 then (gzGd (x4) 8 (Option.bind (f_X6_byteAt I (x6 + 1)) (fun v5 => if v5 = I t 18 x4.toNatClampNeg then (f_X8_fitting_18 φ t I K5 k x2 x3 x4 x5 (x6 + 2)) else (f_X8_fitting_18 φ t I K5 k x2 x3 x4 (x5 + 1) (x6 + 2))))) else (gzGd (x4) 8 (Option.bind (f_X6_byteAt I (x6 + 1)) (fun v8 => if v8 = I t 17 x4.toNatClampNeg then (f_X8_fitting_18 φ t I K5 k x2 x3 x4 x5 (x6 + 2)) else (f_X8_fitting_18 φ t I K5 k x2 x3 x4 (x5 + 1) (x6 + 2)))))))
set_option maxRecDepth 20000 in
theorem p_X8_fitting_18 {g : gzG} {d φ : Nat} {t : Nat} (ht : t < 15) {I : gzIT} {J : gzJT} {r : Int32} {K5 : Int32 → Int32 → Int32 → Option Int32} (hK5 : ∀ (x2 : Int32) (x3 : Int32) (x4 : Int32), K5 x2 x3 x4 = some r → gP_X8_fitting_5 g t d r x2 x3 x4 I J) : ∀ (k : Nat) (x2 : Int32) (x3 : Int32) (x4 : Int32) (x5 : Int32) (x6 : Int32), f_X8_fitting_18 φ t I K5 k x2 x3 x4 x5 x6 = some r → gP_X8_fitting_18 g t d r x2 x3 x4 x5 x6 I J := by
  intro k; induction k with
  | zero => intro x2 x3 x4 x5 x6 h; cases h
  | succ k ih =>
    intro x2 x3 x4 x5 x6 h
    unfold f_X8_fitting_18 at h
    unfold gP_X8_fitting_18
    have z_0_31 : gzOk 0 31 gzN := gzOk_of (by decide)
    have z_t_0 : gzOk t 0 gzN := gzOk_of ht
    have z_t_18 : gzOk t 18 gzN := gzOk_of ht
    have z_t_17 : gzOk t 17 gzN := gzOk_of ht
    refine gz_iload (pc := 18) dX8_fitting_18 rfl ?_
    refine gz_iconst (pc := 20) dX8_fitting_20 (v := 1) (by decide) ?_
    refine gz_iadd (pc := 21) dX8_fitting_21  ?_
    refine gz_iload_n (pc := 22) dX8_fitting_22 rfl ?_
    refine gz_ic_ge (pc := 23) (tgt := 76) dX8_fitting_23 (by decide) (fun c => ?_) (fun c => ?_)
    · replace h := gz_ifp c h
      refine gz_iload (pc := 76) dX8_fitting_76 rfl ?_
      refine gz_iconst (pc := 78) dX8_fitting_78 (v := 1) (by decide) ?_
      refine gz_ic_gt (pc := 79) (tgt := 89) dX8_fitting_79 (by decide) (fun c => ?_) (fun c => ?_)
      · replace h := gz_ifp c h
        refine gz_iinc (pc := 89) dX8_fitting_89 (x := x4) (v := x4 + 1) rfl (by rw [show Int32.ofInt 1 = 1 by decide]) (by decide) rfl (loc2 := [some (.inr (.inr (t, 0))), some (.inr (.inr (0, 31))), some (.inl x2), some (.inl x3), some (.inl (x4 + 1)), some (.inl x5), some (.inl x6), none]) rfl ?_
        refine gz_goto (pc := 92) (tgt := 5) dX8_fitting_92 (by decide) ?_
        exact gz_weak (loc2 := [some (.inr (.inr (t, 0))), some (.inr (.inr (0, 31))), some (.inl x2), some (.inl x3), some (.inl (x4 + 1)), none, none, none]) (hK5 x2 x3 (x4 + 1) h) (by repeat (first | exact trivial | refine ⟨rfl, ?_⟩))
      · replace h := gz_ifn c h
        refine gz_iload_n (pc := 82) dX8_fitting_82 rfl ?_
        refine gz_iconst (pc := 83) dX8_fitting_83 (v := 1) (by decide) ?_
        refine gz_iload (pc := 84) dX8_fitting_84 rfl ?_
        refine gz_ishl (pc := 86) dX8_fitting_86  ?_
        refine gz_ior (pc := 87) dX8_fitting_87  ?_
        refine gz_istore_n (pc := 88) dX8_fitting_88 (by decide) rfl (loc2 := [some (.inr (.inr (t, 0))), some (.inr (.inr (0, 31))), some (.inl x2), some (.inl (x3 ||| ((1 : Int32) <<< (x4 &&& 31)))), some (.inl x4), some (.inl x5), some (.inl x6), none]) rfl ?_
        refine gz_iinc (pc := 89) dX8_fitting_89 (x := x4) (v := x4 + 1) rfl (by rw [show Int32.ofInt 1 = 1 by decide]) (by decide) rfl (loc2 := [some (.inr (.inr (t, 0))), some (.inr (.inr (0, 31))), some (.inl x2), some (.inl (x3 ||| ((1 : Int32) <<< (x4 &&& 31)))), some (.inl (x4 + 1)), some (.inl x5), some (.inl x6), none]) rfl ?_
        refine gz_goto (pc := 92) (tgt := 5) dX8_fitting_92 (by decide) ?_
        exact gz_weak (loc2 := [some (.inr (.inr (t, 0))), some (.inr (.inr (0, 31))), some (.inl x2), some (.inl (x3 ||| ((1 : Int32) <<< (x4 &&& 31)))), some (.inl (x4 + 1)), none, none, none]) (hK5 x2 (x3 ||| ((1 : Int32) <<< (x4 &&& 31))) (x4 + 1) h) (by repeat (first | exact trivial | refine ⟨rfl, ?_⟩))
    · replace h := gz_ifn c h
      refine gz_aload_n (pc := 26) dX8_fitting_26 rfl ?_
      refine gz_iload (pc := 27) dX8_fitting_27 rfl ?_
      refine gz_V (zy := mX6_byteAt) (zc := 0) (pc := 29) [.inl x6] rfl dX8_fitting_29 lkX8_201 MvX6_byteAt rfl z_0_31 rfl rfl rfl (Or.inl rfl) (fun h => h) (by exact Nat.le_of_ble_eq_true rfl) ?_
      obtain ⟨v2, e1, h⟩ := gz_bd h
      refine gz_useI (c_X6_byteAt e1) ?_
      refine gz_if_ne (pc := 32) (tgt := 45) dX8_fitting_32 (by decide) (fun c => ?_) (fun c => ?_)
      · replace h := gz_ifp c h
        refine gz_aload_n (pc := 45) dX8_fitting_45 rfl ?_
        refine gr_X8_36 (pc := 46) dX8_fitting_46 z_t_0 rfl ?_
        refine gz_iload (pc := 49) dX8_fitting_49 rfl ?_
        obtain ⟨b3, h⟩ := gz_gd h
        refine gz_iald2 (pc := 51) dX8_fitting_51 (k := x4.toNatClampNeg) (v := I t 18 x4.toNatClampNeg) z_t_18 rfl b3 rfl rfl ?_
        refine gz_istore (pc := 52) dX8_fitting_52 (by decide) rfl (loc2 := [some (.inr (.inr (t, 0))), some (.inr (.inr (0, 31))), some (.inl x2), some (.inl x3), some (.inl x4), some (.inl x5), some (.inl x6), some (.inl (I t 18 x4.toNatClampNeg))]) rfl ?_
        refine gz_aload_n (pc := 54) dX8_fitting_54 rfl ?_
        refine gz_iload (pc := 55) dX8_fitting_55 rfl ?_
        refine gz_iconst (pc := 57) dX8_fitting_57 (v := 1) (by decide) ?_
        refine gz_iadd (pc := 58) dX8_fitting_58  ?_
        refine gz_V (zy := mX6_byteAt) (zc := 0) (pc := 59) [.inl (x6 + 1)] rfl dX8_fitting_59 lkX8_201 MvX6_byteAt rfl z_0_31 rfl rfl rfl (Or.inl rfl) (fun h => h) (by exact Nat.le_of_ble_eq_true rfl) ?_
        obtain ⟨v5, e4, h⟩ := gz_bd h
        refine gz_useI (c_X6_byteAt e4) ?_
        refine gz_iload (pc := 62) dX8_fitting_62 rfl ?_
        refine gz_ic_eq (pc := 64) (tgt := 70) dX8_fitting_64 (by decide) (fun c => ?_) (fun c => ?_)
        · replace h := gz_ifp c h
          refine gz_iinc (pc := 70) dX8_fitting_70 (x := x6) (v := x6 + 2) rfl (by rw [show Int32.ofInt 2 = 2 by decide]) (by decide) rfl (loc2 := [some (.inr (.inr (t, 0))), some (.inr (.inr (0, 31))), some (.inl x2), some (.inl x3), some (.inl x4), some (.inl x5), some (.inl (x6 + 2)), some (.inl (I t 18 x4.toNatClampNeg))]) rfl ?_
          refine gz_goto (pc := 73) (tgt := 18) dX8_fitting_73 (by decide) ?_
          exact gz_weak (loc2 := [some (.inr (.inr (t, 0))), some (.inr (.inr (0, 31))), some (.inl x2), some (.inl x3), some (.inl x4), some (.inl x5), some (.inl (x6 + 2)), none]) (ih x2 x3 x4 x5 (x6 + 2) h) (by repeat (first | exact trivial | refine ⟨rfl, ?_⟩))
        · replace h := gz_ifn c h
          refine gz_iinc (pc := 67) dX8_fitting_67 (x := x5) (v := x5 + 1) rfl (by rw [show Int32.ofInt 1 = 1 by decide]) (by decide) rfl (loc2 := [some (.inr (.inr (t, 0))), some (.inr (.inr (0, 31))), some (.inl x2), some (.inl x3), some (.inl x4), some (.inl (x5 + 1)), some (.inl x6), some (.inl (I t 18 x4.toNatClampNeg))]) rfl ?_
          refine gz_iinc (pc := 70) dX8_fitting_70 (x := x6) (v := x6 + 2) rfl (by rw [show Int32.ofInt 2 = 2 by decide]) (by decide) rfl (loc2 := [some (.inr (.inr (t, 0))), some (.inr (.inr (0, 31))), some (.inl x2), some (.inl x3), some (.inl x4), some (.inl (x5 + 1)), some (.inl (x6 + 2)), some (.inl (I t 18 x4.toNatClampNeg))]) rfl ?_
          refine gz_goto (pc := 73) (tgt := 18) dX8_fitting_73 (by decide) ?_
          exact gz_weak (loc2 := [some (.inr (.inr (t, 0))), some (.inr (.inr (0, 31))), some (.inl x2), some (.inl x3), some (.inl x4), some (.inl (x5 + 1)), some (.inl (x6 + 2)), none]) (ih x2 x3 x4 (x5 + 1) (x6 + 2) h) (by repeat (first | exact trivial | refine ⟨rfl, ?_⟩))
      · replace h := gz_ifn (fun q => q c) h
        refine gz_aload_n (pc := 35) dX8_fitting_35 rfl ?_
        refine gr_X8_32 (pc := 36) dX8_fitting_36 z_t_0 rfl ?_
        refine gz_iload (pc := 39) dX8_fitting_39 rfl ?_
        obtain ⟨b6, h⟩ := gz_gd h
        refine gz_iald2 (pc := 41) dX8_fitting_41 (k := x4.toNatClampNeg) (v := I t 17 x4.toNatClampNeg) z_t_17 rfl b6 rfl rfl ?_
        refine gz_goto (pc := 42) (tgt := 52) dX8_fitting_42 (by decide) ?_
        refine gz_istore (pc := 52) dX8_fitting_52 (by decide) rfl (loc2 := [some (.inr (.inr (t, 0))), some (.inr (.inr (0, 31))), some (.inl x2), some (.inl x3), some (.inl x4), some (.inl x5), some (.inl x6), some (.inl (I t 17 x4.toNatClampNeg))]) rfl ?_
        refine gz_aload_n (pc := 54) dX8_fitting_54 rfl ?_
        refine gz_iload (pc := 55) dX8_fitting_55 rfl ?_
        refine gz_iconst (pc := 57) dX8_fitting_57 (v := 1) (by decide) ?_
        refine gz_iadd (pc := 58) dX8_fitting_58  ?_
        refine gz_V (zy := mX6_byteAt) (zc := 0) (pc := 59) [.inl (x6 + 1)] rfl dX8_fitting_59 lkX8_201 MvX6_byteAt rfl z_0_31 rfl rfl rfl (Or.inl rfl) (fun h => h) (by exact Nat.le_of_ble_eq_true rfl) ?_
        obtain ⟨v8, e7, h⟩ := gz_bd h
        refine gz_useI (c_X6_byteAt e7) ?_
        refine gz_iload (pc := 62) dX8_fitting_62 rfl ?_
        refine gz_ic_eq (pc := 64) (tgt := 70) dX8_fitting_64 (by decide) (fun c => ?_) (fun c => ?_)
        · replace h := gz_ifp c h
          refine gz_iinc (pc := 70) dX8_fitting_70 (x := x6) (v := x6 + 2) rfl (by rw [show Int32.ofInt 2 = 2 by decide]) (by decide) rfl (loc2 := [some (.inr (.inr (t, 0))), some (.inr (.inr (0, 31))), some (.inl x2), some (.inl x3), some (.inl x4), some (.inl x5), some (.inl (x6 + 2)), some (.inl (I t 17 x4.toNatClampNeg))]) rfl ?_
          refine gz_goto (pc := 73) (tgt := 18) dX8_fitting_73 (by decide) ?_
          exact gz_weak (loc2 := [some (.inr (.inr (t, 0))), some (.inr (.inr (0, 31))), some (.inl x2), some (.inl x3), some (.inl x4), some (.inl x5), some (.inl (x6 + 2)), none]) (ih x2 x3 x4 x5 (x6 + 2) h) (by repeat (first | exact trivial | refine ⟨rfl, ?_⟩))
        · replace h := gz_ifn c h
          refine gz_iinc (pc := 67) dX8_fitting_67 (x := x5) (v := x5 + 1) rfl (by rw [show Int32.ofInt 1 = 1 by decide]) (by decide) rfl (loc2 := [some (.inr (.inr (t, 0))), some (.inr (.inr (0, 31))), some (.inl x2), some (.inl x3), some (.inl x4), some (.inl (x5 + 1)), some (.inl x6), some (.inl (I t 17 x4.toNatClampNeg))]) rfl ?_
          refine gz_iinc (pc := 70) dX8_fitting_70 (x := x6) (v := x6 + 2) rfl (by rw [show Int32.ofInt 2 = 2 by decide]) (by decide) rfl (loc2 := [some (.inr (.inr (t, 0))), some (.inr (.inr (0, 31))), some (.inl x2), some (.inl x3), some (.inl x4), some (.inl (x5 + 1)), some (.inl (x6 + 2)), some (.inl (I t 17 x4.toNatClampNeg))]) rfl ?_
          refine gz_goto (pc := 73) (tgt := 18) dX8_fitting_73 (by decide) ?_
          exact gz_weak (loc2 := [some (.inr (.inr (t, 0))), some (.inr (.inr (0, 31))), some (.inl x2), some (.inl x3), some (.inl x4), some (.inl (x5 + 1)), some (.inl (x6 + 2)), none]) (ih x2 x3 x4 (x5 + 1) (x6 + 2) h) (by repeat (first | exact trivial | refine ⟨rfl, ?_⟩))
def f_X8_fitting_5 (φ : Nat) (t : Nat) (I : gzIT) : Nat → Int32 → Int32 → Int32 → Option Int32
  | 0, _, _, _ => none
  | k + 1, x2, x3, x4 => if 8 ≤ x4 then (some x3) else (f_X8_fitting_18 φ t I (f_X8_fitting_5 φ t I k) φ x2 x3 x4 0 0)
set_option maxRecDepth 20000 in
theorem p_X8_fitting_5 {g : gzG} {d φ : Nat} {t : Nat} (ht : t < 15) {I : gzIT} {J : gzJT} {r : Int32} : ∀ (k : Nat) (x2 : Int32) (x3 : Int32) (x4 : Int32), f_X8_fitting_5 φ t I k x2 x3 x4 = some r → gP_X8_fitting_5 g t d r x2 x3 x4 I J := by
  intro k; induction k with
  | zero => intro x2 x3 x4 h; cases h
  | succ k ih =>
    intro x2 x3 x4 h
    unfold f_X8_fitting_5 at h
    unfold gP_X8_fitting_5
    refine gz_iload (pc := 5) dX8_fitting_5 rfl ?_
    refine gz_bipush (pc := 7) dX8_fitting_7 (v := 8) (by decide) ?_
    refine gz_ic_ge (pc := 9) (tgt := 95) dX8_fitting_9 (by decide) (fun c => ?_) (fun c => ?_)
    · replace h := gz_ifp c h
      refine gz_iload_n (pc := 95) dX8_fitting_95 rfl ?_
      cases h; exact gz_iret (pc := 96) dX8_fitting_96 rfl ⟨rfl, rfl⟩
    · replace h := gz_ifn c h
      refine gz_iconst (pc := 12) dX8_fitting_12 (v := 0) (by decide) ?_
      refine gz_istore (pc := 13) dX8_fitting_13 (by decide) rfl (loc2 := [some (.inr (.inr (t, 0))), some (.inr (.inr (0, 31))), some (.inl x2), some (.inl x3), some (.inl x4), some (.inl 0), none, none]) rfl ?_
      refine gz_iconst (pc := 15) dX8_fitting_15 (v := 0) (by decide) ?_
      refine gz_istore (pc := 16) dX8_fitting_16 (by decide) rfl (loc2 := [some (.inr (.inr (t, 0))), some (.inr (.inr (0, 31))), some (.inl x2), some (.inl x3), some (.inl x4), some (.inl 0), some (.inl 0), none]) rfl ?_
      exact p_X8_fitting_18 ht ih φ x2 x3 x4 0 0 h
def f_X8_fitting (φ : Nat) (t : Nat) (I : gzIT) (a2 : Int32) : Option Int32 := f_X8_fitting_5 φ t I φ a2 0 0
set_option maxRecDepth 20000 in
theorem c_X8_fitting {g : gzG} {d φ : Nat} {t : Nat} (ht : t < 15) {a2 : Int32} {I : gzIT} {J : gzJT} {r : Int32} (h : f_X8_fitting φ t I a2 = some r) : gzC g 0 (d + 2) mX8_fitting [.inr (.inr (t, 0)), .inr (.inr (0, 31)), .inl a2] (gzN, gzR0, I, J) (gzE (.ok (some (.inl r))) (gzN, gzR0, I, J)) := by
  unfold f_X8_fitting at h
  refine gzC_of (by decide +kernel) (Nat.le_of_ble_eq_true rfl) (loc := [some (.inr (.inr (t, 0))), some (.inr (.inr (0, 31))), some (.inl a2), none, none, none, none, none]) rfl ?_
  refine gz_iconst (pc := 0) dX8_fitting_0 (v := 0) (by decide) ?_
  refine gz_istore_n (pc := 1) dX8_fitting_1 (by decide) rfl (loc2 := [some (.inr (.inr (t, 0))), some (.inr (.inr (0, 31))), some (.inl a2), some (.inl 0), none, none, none, none]) rfl ?_
  refine gz_iconst (pc := 2) dX8_fitting_2 (v := 0) (by decide) ?_
  refine gz_istore (pc := 3) dX8_fitting_3 (by decide) rfl (loc2 := [some (.inr (.inr (t, 0))), some (.inr (.inr (0, 31))), some (.inl a2), some (.inl 0), some (.inl 0), none, none, none]) rfl ?_
  exact p_X8_fitting_5 ht φ a2 0 0 h
/-! X8_likeliest: likeliest -/
def gP_X8_likeliest_7 (g : gzG) (t : Nat) (d : Nat) (r : Int32) (x1 : Int32) (x2 : Int32) (x3 : Int32) (x4 : Int32) (I : gzIT) (J : gzJT) : Prop := gzX g 0 (d + 1) mX8_likeliest 7 [some (.inr (.inr (t, 0))), some (.inl x1), some (.inl x2), some (.inl x3), some (.inl x4), none] [] (gzN, gzR0, I, J) 0 (gzE (.ok (some (.inl r))) (gzN, gzR0, I, J))
def f_X8_likeliest_7 (φ : Nat) (t : Nat) (I : gzIT) : Nat → Int32 → Int32 → Int32 → Int32 → Option Int32
  | 0, _, _, _, _ => none
  | k + 1, x1, x2, x3, x4 => if 8 ≤ x4 then (some x2) else (Option.bind (f_X1_over φ t I x4) (fun v2 => Option.bind (f_J6_bitCount_0f7a4 v2) (fun v4 => Option.bind (f_X11_has x1 x4) (fun v6 => if v6 = 0 then (f_X8_likeliest_7 φ t I k x1 x2 x3 (x4 + 1)) else (if v4 ≤ x3 then (f_X8_likeliest_7 φ t I k x1 x2 x3 (x4 + 1)) else (f_X8_likeliest_7 φ t I k x1 x4 v4 (x4 + 1)))))))
set_option maxRecDepth 20000 in
theorem p_X8_likeliest_7 {g : gzG} {d φ : Nat} {t : Nat} (ht : t < 15) {I : gzIT} {J : gzJT} {r : Int32} : ∀ (k : Nat) (x1 : Int32) (x2 : Int32) (x3 : Int32) (x4 : Int32), f_X8_likeliest_7 φ t I k x1 x2 x3 x4 = some r → gP_X8_likeliest_7 g t d r x1 x2 x3 x4 I J := by
  intro k; induction k with
  | zero => intro x1 x2 x3 x4 h; cases h
  | succ k ih =>
    intro x1 x2 x3 x4 h
    unfold f_X8_likeliest_7 at h
    unfold gP_X8_likeliest_7
    have z_t_0 : gzOk t 0 gzN := gzOk_of ht
    have z_t_7 : gzOk t 7 gzN := gzOk_of ht
    refine gz_iload (pc := 7) dX8_likeliest_7 rfl ?_
    refine gz_bipush (pc := 9) dX8_likeliest_9 (v := 8) (by decide) ?_
    refine gz_ic_ge (pc := 11) (tgt := 55) dX8_likeliest_11 (by decide) (fun c => ?_) (fun c => ?_)
    · replace h := gz_ifp c h
      refine gz_iload_n (pc := 55) dX8_likeliest_55 rfl ?_
      cases h; exact gz_iret (pc := 56) dX8_likeliest_56 rfl ⟨rfl, rfl⟩
    · replace h := gz_ifn c h
      refine gz_aload_n (pc := 14) dX8_likeliest_14 rfl ?_
      refine gr_X8_21 (pc := 15) dX8_likeliest_15 z_t_0 rfl ?_
      refine gz_iload (pc := 18) dX8_likeliest_18 rfl ?_
      refine gz_V (zy := mX1_over) (zc := 0) (pc := 20) [.inl x4] rfl dX8_likeliest_20 lkX8_206 MvX1_over rfl z_t_7 rfl rfl rfl (Or.inl rfl) (fun h => h) (by exact Nat.le_of_ble_eq_true rfl) ?_
      obtain ⟨v2, e1, h⟩ := gz_bd h
      refine gz_useI (c_X1_over ht e1) ?_
      refine gz_S (zy := mJ6_bitCount_0f7a4) (zc := 0) (pc := 23) [.inl v2] rfl dX8_likeliest_23 lkX8_178 MsJ6_bitCount_0f7a4 rfl (Or.inl rfl) (fun h => h) (by exact Nat.le_of_ble_eq_true rfl) ?_
      obtain ⟨v4, e3, h⟩ := gz_bd h
      refine gz_useI (c_J6_bitCount_0f7a4 e3) ?_
      refine gz_istore (pc := 26) dX8_likeliest_26 (by decide) rfl (loc2 := [some (.inr (.inr (t, 0))), some (.inl x1), some (.inl x2), some (.inl x3), some (.inl x4), some (.inl v4)]) rfl ?_
      refine gz_iload_n (pc := 28) dX8_likeliest_28 rfl ?_
      refine gz_iload (pc := 29) dX8_likeliest_29 rfl ?_
      refine gz_SN (zy := mX11_has) (zc := 0) (pc := 31) [.inl x1, .inl x4] rfl dX8_likeliest_31 lnX8_209 MsX11_has rfl (Or.inl rfl) (fun h => h) (by exact Nat.le_of_ble_eq_true rfl) ?_
      obtain ⟨v6, e5, h⟩ := gz_bd h
      refine gz_useI (c_X11_has e5) ?_
      refine gz_if_eq (pc := 34) (tgt := 49) dX8_likeliest_34 (by decide) (fun c => ?_) (fun c => ?_)
      · replace h := gz_ifp c h
        refine gz_iinc (pc := 49) dX8_likeliest_49 (x := x4) (v := x4 + 1) rfl (by rw [show Int32.ofInt 1 = 1 by decide]) (by decide) rfl (loc2 := [some (.inr (.inr (t, 0))), some (.inl x1), some (.inl x2), some (.inl x3), some (.inl (x4 + 1)), some (.inl v4)]) rfl ?_
        refine gz_goto (pc := 52) (tgt := 7) dX8_likeliest_52 (by decide) ?_
        exact gz_weak (loc2 := [some (.inr (.inr (t, 0))), some (.inl x1), some (.inl x2), some (.inl x3), some (.inl (x4 + 1)), none]) (ih x1 x2 x3 (x4 + 1) h) (by repeat (first | exact trivial | refine ⟨rfl, ?_⟩))
      · replace h := gz_ifn c h
        refine gz_iload (pc := 37) dX8_likeliest_37 rfl ?_
        refine gz_iload_n (pc := 39) dX8_likeliest_39 rfl ?_
        refine gz_ic_le (pc := 40) (tgt := 49) dX8_likeliest_40 (by decide) (fun c => ?_) (fun c => ?_)
        · replace h := gz_ifp c h
          refine gz_iinc (pc := 49) dX8_likeliest_49 (x := x4) (v := x4 + 1) rfl (by rw [show Int32.ofInt 1 = 1 by decide]) (by decide) rfl (loc2 := [some (.inr (.inr (t, 0))), some (.inl x1), some (.inl x2), some (.inl x3), some (.inl (x4 + 1)), some (.inl v4)]) rfl ?_
          refine gz_goto (pc := 52) (tgt := 7) dX8_likeliest_52 (by decide) ?_
          exact gz_weak (loc2 := [some (.inr (.inr (t, 0))), some (.inl x1), some (.inl x2), some (.inl x3), some (.inl (x4 + 1)), none]) (ih x1 x2 x3 (x4 + 1) h) (by repeat (first | exact trivial | refine ⟨rfl, ?_⟩))
        · replace h := gz_ifn c h
          refine gz_iload (pc := 43) dX8_likeliest_43 rfl ?_
          refine gz_istore_n (pc := 45) dX8_likeliest_45 (by decide) rfl (loc2 := [some (.inr (.inr (t, 0))), some (.inl x1), some (.inl x2), some (.inl v4), some (.inl x4), some (.inl v4)]) rfl ?_
          refine gz_iload (pc := 46) dX8_likeliest_46 rfl ?_
          refine gz_istore_n (pc := 48) dX8_likeliest_48 (by decide) rfl (loc2 := [some (.inr (.inr (t, 0))), some (.inl x1), some (.inl x4), some (.inl v4), some (.inl x4), some (.inl v4)]) rfl ?_
          refine gz_iinc (pc := 49) dX8_likeliest_49 (x := x4) (v := x4 + 1) rfl (by rw [show Int32.ofInt 1 = 1 by decide]) (by decide) rfl (loc2 := [some (.inr (.inr (t, 0))), some (.inl x1), some (.inl x4), some (.inl v4), some (.inl (x4 + 1)), some (.inl v4)]) rfl ?_
          refine gz_goto (pc := 52) (tgt := 7) dX8_likeliest_52 (by decide) ?_
          exact gz_weak (loc2 := [some (.inr (.inr (t, 0))), some (.inl x1), some (.inl x4), some (.inl v4), some (.inl (x4 + 1)), none]) (ih x1 x4 v4 (x4 + 1) h) (by repeat (first | exact trivial | refine ⟨rfl, ?_⟩))
def f_X8_likeliest (φ : Nat) (t : Nat) (I : gzIT) (a1 : Int32) : Option Int32 := f_X8_likeliest_7 φ t I φ a1 (-1) (-1) 0
set_option maxRecDepth 20000 in
theorem c_X8_likeliest {g : gzG} {d φ : Nat} {t : Nat} (ht : t < 15) {a1 : Int32} {I : gzIT} {J : gzJT} {r : Int32} (h : f_X8_likeliest φ t I a1 = some r) : gzC g 0 (d + 1) mX8_likeliest [.inr (.inr (t, 0)), .inl a1] (gzN, gzR0, I, J) (gzE (.ok (some (.inl r))) (gzN, gzR0, I, J)) := by
  unfold f_X8_likeliest at h
  refine gzC_of (by decide +kernel) (Nat.le_of_ble_eq_true rfl) (loc := [some (.inr (.inr (t, 0))), some (.inl a1), none, none, none, none]) rfl ?_
  refine gz_iconst (pc := 0) dX8_likeliest_0 (v := (-1)) (by decide) ?_
  refine gz_istore_n (pc := 1) dX8_likeliest_1 (by decide) rfl (loc2 := [some (.inr (.inr (t, 0))), some (.inl a1), some (.inl (-1)), none, none, none]) rfl ?_
  refine gz_iconst (pc := 2) dX8_likeliest_2 (v := (-1)) (by decide) ?_
  refine gz_istore_n (pc := 3) dX8_likeliest_3 (by decide) rfl (loc2 := [some (.inr (.inr (t, 0))), some (.inl a1), some (.inl (-1)), some (.inl (-1)), none, none]) rfl ?_
  refine gz_iconst (pc := 4) dX8_likeliest_4 (v := 0) (by decide) ?_
  refine gz_istore (pc := 5) dX8_likeliest_5 (by decide) rfl (loc2 := [some (.inr (.inr (t, 0))), some (.inl a1), some (.inl (-1)), some (.inl (-1)), some (.inl 0), none]) rfl ?_
  exact p_X8_likeliest_7 ht φ a1 (-1) (-1) 0 h
/-! X8_fromHas: fromHas -/
def f_X8_fromHas (t : Nat) (I : gzIT) (a1 : Int32) (a2 : Int32) : Option Int32 := Option.bind (f_X11_cell t 10 10 I a1) (fun v2 => if a2 = 0 then (Option.bind (f_X11_cell t 17 8 I v2) (fun v4 => some v4)) else (if a2 = 1 then (some (-1)) else (if a2 = 2 then (Option.bind (f_X11_cell t 8 10 I a1) (fun v6 => Option.bind (f_X11_cell t 2 6 I v6) (fun v8 => some (-v8)))) else (Option.bind (f_X11_cell t 18 8 I v2) (fun v10 => some (v10 / 2))))))
set_option maxRecDepth 20000 in
theorem c_X8_fromHas {g : gzG} {d : Nat} {t : Nat} (ht : t < 15) {a1 : Int32} {a2 : Int32} {I : gzIT} {J : gzJT} {r : Int32} (h : f_X8_fromHas t I a1 a2 = some r) : gzC g 0 (d + 1) mX8_fromHas [.inr (.inr (t, 0)), .inl a1, .inl a2] (gzN, gzR0, I, J) (gzE (.ok (some (.inl r))) (gzN, gzR0, I, J)) := by
  unfold f_X8_fromHas at h
  refine gzC_of (by decide +kernel) (Nat.le_of_ble_eq_true rfl) (loc := [some (.inr (.inr (t, 0))), some (.inl a1), some (.inl a2), none]) rfl ?_
  have z_t_0 : gzOk t 0 gzN := gzOk_of ht
  have z_t_7 : gzOk t 7 gzN := gzOk_of ht
  have z_t_10 : gzOk t 10 gzN := gzOk_of ht
  have z_t_17 : gzOk t 17 gzN := gzOk_of ht
  have z_t_1 : gzOk t 1 gzN := gzOk_of ht
  have z_t_8 : gzOk t 8 gzN := gzOk_of ht
  have z_t_2 : gzOk t 2 gzN := gzOk_of ht
  have z_t_18 : gzOk t 18 gzN := gzOk_of ht
  refine gz_aload_n (pc := 0) dX8_fromHas_0 rfl ?_
  refine gr_X8_21 (pc := 1) dX8_fromHas_1 z_t_0 rfl ?_
  refine gr_X8_154 (pc := 4) dX8_fromHas_4 z_t_7 rfl ?_
  refine gz_iload_n (pc := 7) dX8_fromHas_7 rfl ?_
  refine gz_SN (zy := mX11_cell) (zc := 0) (pc := 8) [.inr (.inr (t, 10)), .inl a1] rfl dX8_fromHas_8 lnX8_76 MsX11_cell rfl (Or.inl rfl) (fun h => h) (by exact Nat.le_of_ble_eq_true rfl) ?_
  obtain ⟨v2, e1, h⟩ := gz_bd h
  refine gz_useI (c_X11_cell z_t_10 rfl e1) ?_
  refine gz_istore_n (pc := 11) dX8_fromHas_11 (by decide) rfl (loc2 := [some (.inr (.inr (t, 0))), some (.inl a1), some (.inl a2), some (.inl v2)]) rfl ?_
  refine gz_iload_n (pc := 12) dX8_fromHas_12 rfl ?_
  by_cases c0 : a2 = 0
  · replace h := gz_ifp c0 h
    refine gz_swIn (pc := 13) (tgt := 40) (off := 27) dX8_fromHas_13 (by rw [c0]; decide) (by rw [c0]; decide) (by rw [c0]; rfl) (by decide) ?_
    refine gz_aload_n (pc := 40) dX8_fromHas_40 rfl ?_
    refine gr_X8_32 (pc := 41) dX8_fromHas_41 z_t_0 rfl ?_
    refine gz_iload_n (pc := 44) dX8_fromHas_44 rfl ?_
    refine gz_SN (zy := mX11_cell) (zc := 0) (pc := 45) [.inr (.inr (t, 17)), .inl v2] rfl dX8_fromHas_45 lnX8_76 MsX11_cell rfl (Or.inl rfl) (fun h => h) (by exact Nat.le_of_ble_eq_true rfl) ?_
    obtain ⟨v4, e3, h⟩ := gz_bd h
    refine gz_useI (c_X11_cell z_t_17 rfl e3) ?_
    cases h; exact gz_iret (pc := 48) dX8_fromHas_48 rfl ⟨rfl, rfl⟩
  replace h := gz_ifn c0 h
  by_cases c1 : a2 = 1
  · replace h := gz_ifp c1 h
    refine gz_swIn (pc := 13) (tgt := 49) (off := 36) dX8_fromHas_13 (by rw [c1]; decide) (by rw [c1]; decide) (by rw [c1]; rfl) (by decide) ?_
    refine gz_iconst (pc := 49) dX8_fromHas_49 (v := (-1)) (by decide) ?_
    cases h; exact gz_iret (pc := 50) dX8_fromHas_50 rfl ⟨rfl, rfl⟩
  replace h := gz_ifn c1 h
  by_cases c2 : a2 = 2
  · replace h := gz_ifp c2 h
    refine gz_swIn (pc := 13) (tgt := 51) (off := 38) dX8_fromHas_13 (by rw [c2]; decide) (by rw [c2]; decide) (by rw [c2]; rfl) (by decide) ?_
    refine gz_aload_n (pc := 51) dX8_fromHas_51 rfl ?_
    refine gr_X8_12 (pc := 52) dX8_fromHas_52 z_t_0 rfl ?_
    refine gr_X8_160 (pc := 55) dX8_fromHas_55 z_t_1 rfl ?_
    refine gz_aload_n (pc := 58) dX8_fromHas_58 rfl ?_
    refine gr_X8_21 (pc := 59) dX8_fromHas_59 z_t_0 rfl ?_
    refine gr_X8_163 (pc := 62) dX8_fromHas_62 z_t_7 rfl ?_
    refine gz_iload_n (pc := 65) dX8_fromHas_65 rfl ?_
    refine gz_SN (zy := mX11_cell) (zc := 0) (pc := 66) [.inr (.inr (t, 8)), .inl a1] rfl dX8_fromHas_66 lnX8_76 MsX11_cell rfl (Or.inl rfl) (fun h => h) (by exact Nat.le_of_ble_eq_true rfl) ?_
    obtain ⟨v6, e5, h⟩ := gz_bd h
    refine gz_useI (c_X11_cell z_t_8 rfl e5) ?_
    refine gz_SN (zy := mX11_cell) (zc := 0) (pc := 69) [.inr (.inr (t, 2)), .inl v6] rfl dX8_fromHas_69 lnX8_76 MsX11_cell rfl (Or.inl rfl) (fun h => h) (by exact Nat.le_of_ble_eq_true rfl) ?_
    obtain ⟨v8, e7, h⟩ := gz_bd h
    refine gz_useI (c_X11_cell z_t_2 rfl e7) ?_
    refine gz_ineg (pc := 72) dX8_fromHas_72  ?_
    cases h; exact gz_iret (pc := 73) dX8_fromHas_73 rfl ⟨rfl, rfl⟩
  replace h := gz_ifn c2 h
  refine gz_swOut (pc := 13) (tgt := 74) dX8_fromHas_13 (gz_sw0_3 c0 c1 c2) (by decide) ?_
  refine gz_aload_n (pc := 74) dX8_fromHas_74 rfl ?_
  refine gr_X8_36 (pc := 75) dX8_fromHas_75 z_t_0 rfl ?_
  refine gz_iload_n (pc := 78) dX8_fromHas_78 rfl ?_
  refine gz_SN (zy := mX11_cell) (zc := 0) (pc := 79) [.inr (.inr (t, 18)), .inl v2] rfl dX8_fromHas_79 lnX8_76 MsX11_cell rfl (Or.inl rfl) (fun h => h) (by exact Nat.le_of_ble_eq_true rfl) ?_
  obtain ⟨v10, e9, h⟩ := gz_bd h
  refine gz_useI (c_X11_cell z_t_18 rfl e9) ?_
  refine gz_iconst (pc := 82) dX8_fromHas_82 (v := 2) (by decide) ?_
  refine gz_idiv (pc := 83) dX8_fromHas_83 (by decide) ?_
  cases h; exact gz_iret (pc := 84) dX8_fromHas_84 rfl ⟨rfl, rfl⟩
/-! X8_toHas: toHas -/
def f_X8_toHas (t : Nat) (I : gzIT) (a1 : Int32) (a2 : Int32) : Option Int32 := if a2 = 0 then (some 2) else (if a2 = 1 then (some (-3)) else (if a2 = 2 then (some 4) else (Option.bind (f_X11_cell t 10 10 I a1) (fun v2 => Option.bind (f_X11_cell t 18 8 I v2) (fun v4 => some (v4 / 2))))))
set_option maxRecDepth 20000 in
theorem c_X8_toHas {g : gzG} {d : Nat} {t : Nat} (ht : t < 15) {a1 : Int32} {a2 : Int32} {I : gzIT} {J : gzJT} {r : Int32} (h : f_X8_toHas t I a1 a2 = some r) : gzC g 0 (d + 1) mX8_toHas [.inr (.inr (t, 0)), .inl a1, .inl a2] (gzN, gzR0, I, J) (gzE (.ok (some (.inl r))) (gzN, gzR0, I, J)) := by
  unfold f_X8_toHas at h
  refine gzC_of (by decide +kernel) (Nat.le_of_ble_eq_true rfl) (loc := [some (.inr (.inr (t, 0))), some (.inl a1), some (.inl a2)]) rfl ?_
  have z_t_0 : gzOk t 0 gzN := gzOk_of ht
  have z_t_7 : gzOk t 7 gzN := gzOk_of ht
  have z_t_10 : gzOk t 10 gzN := gzOk_of ht
  have z_t_18 : gzOk t 18 gzN := gzOk_of ht
  refine gz_iload_n (pc := 0) dX8_toHas_0 rfl ?_
  by_cases c0 : a2 = 0
  · replace h := gz_ifp c0 h
    refine gz_swIn (pc := 1) (tgt := 28) (off := 27) dX8_toHas_1 (by rw [c0]; decide) (by rw [c0]; decide) (by rw [c0]; rfl) (by decide) ?_
    refine gz_iconst (pc := 28) dX8_toHas_28 (v := 2) (by decide) ?_
    cases h; exact gz_iret (pc := 29) dX8_toHas_29 rfl ⟨rfl, rfl⟩
  replace h := gz_ifn c0 h
  by_cases c1 : a2 = 1
  · replace h := gz_ifp c1 h
    refine gz_swIn (pc := 1) (tgt := 30) (off := 29) dX8_toHas_1 (by rw [c1]; decide) (by rw [c1]; decide) (by rw [c1]; rfl) (by decide) ?_
    refine gz_bipush (pc := 30) dX8_toHas_30 (v := (-3)) (by decide) ?_
    cases h; exact gz_iret (pc := 32) dX8_toHas_32 rfl ⟨rfl, rfl⟩
  replace h := gz_ifn c1 h
  by_cases c2 : a2 = 2
  · replace h := gz_ifp c2 h
    refine gz_swIn (pc := 1) (tgt := 33) (off := 32) dX8_toHas_1 (by rw [c2]; decide) (by rw [c2]; decide) (by rw [c2]; rfl) (by decide) ?_
    refine gz_iconst (pc := 33) dX8_toHas_33 (v := 4) (by decide) ?_
    cases h; exact gz_iret (pc := 34) dX8_toHas_34 rfl ⟨rfl, rfl⟩
  replace h := gz_ifn c2 h
  refine gz_swOut (pc := 1) (tgt := 35) dX8_toHas_1 (gz_sw0_3 c0 c1 c2) (by decide) ?_
  refine gz_aload_n (pc := 35) dX8_toHas_35 rfl ?_
  refine gr_X8_36 (pc := 36) dX8_toHas_36 z_t_0 rfl ?_
  refine gz_aload_n (pc := 39) dX8_toHas_39 rfl ?_
  refine gr_X8_21 (pc := 40) dX8_toHas_40 z_t_0 rfl ?_
  refine gr_X8_154 (pc := 43) dX8_toHas_43 z_t_7 rfl ?_
  refine gz_iload_n (pc := 46) dX8_toHas_46 rfl ?_
  refine gz_SN (zy := mX11_cell) (zc := 0) (pc := 47) [.inr (.inr (t, 10)), .inl a1] rfl dX8_toHas_47 lnX8_76 MsX11_cell rfl (Or.inl rfl) (fun h => h) (by exact Nat.le_of_ble_eq_true rfl) ?_
  obtain ⟨v2, e1, h⟩ := gz_bd h
  refine gz_useI (c_X11_cell z_t_10 rfl e1) ?_
  refine gz_SN (zy := mX11_cell) (zc := 0) (pc := 50) [.inr (.inr (t, 18)), .inl v2] rfl dX8_toHas_50 lnX8_76 MsX11_cell rfl (Or.inl rfl) (fun h => h) (by exact Nat.le_of_ble_eq_true rfl) ?_
  obtain ⟨v4, e3, h⟩ := gz_bd h
  refine gz_useI (c_X11_cell z_t_18 rfl e3) ?_
  refine gz_iconst (pc := 53) dX8_toHas_53 (v := 2) (by decide) ?_
  refine gz_idiv (pc := 54) dX8_toHas_54 (by decide) ?_
  cases h; exact gz_iret (pc := 55) dX8_toHas_55 rfl ⟨rfl, rfl⟩
/-! X8_restsOf: restsOf -/
def gP_X8_restsOf_4 (g : gzG) (t : Nat) (d : Nat) (r : Int32) (x1 : Int32) (x2 : Int32) (x3 : Int32) (I : gzIT) (J : gzJT) : Prop := gzX g 0 (d + 2) mX8_restsOf 4 [some (.inr (.inr (t, 0))), some (.inl x1), some (.inl x2), some (.inl x3), none, none] [] (gzN, gzR0, I, J) 0 (gzE (.ok (some (.inl r))) (gzN, gzR0, I, J))
def f_X8_restsOf_4 (φ : Nat) (t : Nat) (I : gzIT) : Nat → Int32 → Int32 → Int32 → Option Int32
  | 0, _, _, _ => none
  | k + 1, x1, x2, x3 => if 4 ≤ x3 then (some x2) else (Option.bind (f_X8_fromHas t I x1 x3) (fun v2 => Option.bind (f_X8_fromHas t I x1 (x3 ^^^ 2)) (fun v4 => Option.bind (f_X8_toHas t I x1 x3) (fun v7 => Option.bind (f_X8_toHas t I x1 (x3 ^^^ 1)) (fun v9 => if (if v2 < v4 then (0 : Int32) else 1) = 0 then (f_X8_restsOf_4 φ t I k x1 x2 (x3 + 1)) else (if (if v7 < v9 then (0 : Int32) else 1) = 0 then (f_X8_restsOf_4 φ t I k x1 x2 (x3 + 1)) else (f_X8_restsOf_4 φ t I k x1 (x2 ||| ((1 : Int32) <<< (x3 &&& 31))) (x3 + 1))))))))
set_option maxRecDepth 20000 in
theorem p_X8_restsOf_4 {g : gzG} {d φ : Nat} {t : Nat} (ht : t < 15) {I : gzIT} {J : gzJT} {r : Int32} : ∀ (k : Nat) (x1 : Int32) (x2 : Int32) (x3 : Int32), f_X8_restsOf_4 φ t I k x1 x2 x3 = some r → gP_X8_restsOf_4 g t d r x1 x2 x3 I J := by
  intro k; induction k with
  | zero => intro x1 x2 x3 h; cases h
  | succ k ih =>
    intro x1 x2 x3 h
    unfold f_X8_restsOf_4 at h
    unfold gP_X8_restsOf_4
    have z_t_0 : gzOk t 0 gzN := gzOk_of ht
    refine gz_iload_n (pc := 4) dX8_restsOf_4 rfl ?_
    refine gz_iconst (pc := 5) dX8_restsOf_5 (v := 4) (by decide) ?_
    refine gz_ic_ge (pc := 6) (tgt := 79) dX8_restsOf_6 (by decide) (fun c => ?_) (fun c => ?_)
    · replace h := gz_ifp c h
      refine gz_iload_n (pc := 79) dX8_restsOf_79 rfl ?_
      cases h; exact gz_iret (pc := 80) dX8_restsOf_80 rfl ⟨rfl, rfl⟩
    · replace h := gz_ifn c h
      refine gz_aload_n (pc := 9) dX8_restsOf_9 rfl ?_
      refine gz_iload_n (pc := 10) dX8_restsOf_10 rfl ?_
      refine gz_iload_n (pc := 11) dX8_restsOf_11 rfl ?_
      refine gz_V (zy := mX8_fromHas) (zc := 0) (pc := 12) [.inl x1, .inl x3] rfl dX8_restsOf_12 lkX8_213 MvX8_fromHas rfl z_t_0 rfl rfl rfl (Or.inl rfl) (fun h => h) (by exact Nat.le_of_ble_eq_true rfl) ?_
      obtain ⟨v2, e1, h⟩ := gz_bd h
      refine gz_useI (c_X8_fromHas ht e1) ?_
      refine gz_aload_n (pc := 15) dX8_restsOf_15 rfl ?_
      refine gz_iload_n (pc := 16) dX8_restsOf_16 rfl ?_
      refine gz_iload_n (pc := 17) dX8_restsOf_17 rfl ?_
      refine gz_iconst (pc := 18) dX8_restsOf_18 (v := 2) (by decide) ?_
      refine gz_ixor (pc := 19) dX8_restsOf_19  ?_
      refine gz_V (zy := mX8_fromHas) (zc := 0) (pc := 20) [.inl x1, .inl (x3 ^^^ 2)] rfl dX8_restsOf_20 lkX8_213 MvX8_fromHas rfl z_t_0 rfl rfl rfl (Or.inl rfl) (fun h => h) (by exact Nat.le_of_ble_eq_true rfl) ?_
      obtain ⟨v4, e3, h⟩ := gz_bd h
      refine gz_useI (c_X8_fromHas ht e3) ?_
      have kj5 : gzX g 0 (d + 2) mX8_restsOf 31 [some (.inr (.inr (t, 0))), some (.inl x1), some (.inl x2), some (.inl x3), none, none] ([.inl (if v2 < v4 then (0 : Int32) else 1)]) (gzN, gzR0, I, J) 0 (gzE (.ok (some (.inl r))) (gzN, gzR0, I, J)) := by
        refine gz_istore (pc := 31) dX8_restsOf_31 (by decide) rfl (loc2 := [some (.inr (.inr (t, 0))), some (.inl x1), some (.inl x2), some (.inl x3), some (.inl (if v2 < v4 then (0 : Int32) else 1)), none]) rfl ?_
        refine gz_aload_n (pc := 33) dX8_restsOf_33 rfl ?_
        refine gz_iload_n (pc := 34) dX8_restsOf_34 rfl ?_
        refine gz_iload_n (pc := 35) dX8_restsOf_35 rfl ?_
        refine gz_V (zy := mX8_toHas) (zc := 0) (pc := 36) [.inl x1, .inl x3] rfl dX8_restsOf_36 lkX8_216 MvX8_toHas rfl z_t_0 rfl rfl rfl (Or.inl rfl) (fun h => h) (by exact Nat.le_of_ble_eq_true rfl) ?_
        obtain ⟨v7, e6, h⟩ := gz_bd h
        refine gz_useI (c_X8_toHas ht e6) ?_
        refine gz_aload_n (pc := 39) dX8_restsOf_39 rfl ?_
        refine gz_iload_n (pc := 40) dX8_restsOf_40 rfl ?_
        refine gz_iload_n (pc := 41) dX8_restsOf_41 rfl ?_
        refine gz_iconst (pc := 42) dX8_restsOf_42 (v := 1) (by decide) ?_
        refine gz_ixor (pc := 43) dX8_restsOf_43  ?_
        refine gz_V (zy := mX8_toHas) (zc := 0) (pc := 44) [.inl x1, .inl (x3 ^^^ 1)] rfl dX8_restsOf_44 lkX8_216 MvX8_toHas rfl z_t_0 rfl rfl rfl (Or.inl rfl) (fun h => h) (by exact Nat.le_of_ble_eq_true rfl) ?_
        obtain ⟨v9, e8, h⟩ := gz_bd h
        refine gz_useI (c_X8_toHas ht e8) ?_
        have kj10 : gzX g 0 (d + 2) mX8_restsOf 55 [some (.inr (.inr (t, 0))), some (.inl x1), some (.inl x2), some (.inl x3), some (.inl (if v2 < v4 then (0 : Int32) else 1)), none] ([.inl (if v7 < v9 then (0 : Int32) else 1)]) (gzN, gzR0, I, J) 0 (gzE (.ok (some (.inl r))) (gzN, gzR0, I, J)) := by
          refine gz_istore (pc := 55) dX8_restsOf_55 (by decide) rfl (loc2 := [some (.inr (.inr (t, 0))), some (.inl x1), some (.inl x2), some (.inl x3), some (.inl (if v2 < v4 then (0 : Int32) else 1)), some (.inl (if v7 < v9 then (0 : Int32) else 1))]) rfl ?_
          refine gz_iload (pc := 57) dX8_restsOf_57 rfl ?_
          refine gz_if_eq (pc := 59) (tgt := 73) dX8_restsOf_59 (by decide) (fun c => ?_) (fun c => ?_)
          · replace h := gz_ifp c h
            refine gz_iinc (pc := 73) dX8_restsOf_73 (x := x3) (v := x3 + 1) rfl (by rw [show Int32.ofInt 1 = 1 by decide]) (by decide) rfl (loc2 := [some (.inr (.inr (t, 0))), some (.inl x1), some (.inl x2), some (.inl (x3 + 1)), some (.inl (if v2 < v4 then (0 : Int32) else 1)), some (.inl (if v7 < v9 then (0 : Int32) else 1))]) rfl ?_
            refine gz_goto (pc := 76) (tgt := 4) dX8_restsOf_76 (by decide) ?_
            exact gz_weak (loc2 := [some (.inr (.inr (t, 0))), some (.inl x1), some (.inl x2), some (.inl (x3 + 1)), none, none]) (ih x1 x2 (x3 + 1) h) (by repeat (first | exact trivial | refine ⟨rfl, ?_⟩))
          · replace h := gz_ifn c h
            refine gz_iload (pc := 62) dX8_restsOf_62 rfl ?_
            refine gz_if_eq (pc := 64) (tgt := 73) dX8_restsOf_64 (by decide) (fun c => ?_) (fun c => ?_)
            · replace h := gz_ifp c h
              refine gz_iinc (pc := 73) dX8_restsOf_73 (x := x3) (v := x3 + 1) rfl (by rw [show Int32.ofInt 1 = 1 by decide]) (by decide) rfl (loc2 := [some (.inr (.inr (t, 0))), some (.inl x1), some (.inl x2), some (.inl (x3 + 1)), some (.inl (if v2 < v4 then (0 : Int32) else 1)), some (.inl (if v7 < v9 then (0 : Int32) else 1))]) rfl ?_
              refine gz_goto (pc := 76) (tgt := 4) dX8_restsOf_76 (by decide) ?_
              exact gz_weak (loc2 := [some (.inr (.inr (t, 0))), some (.inl x1), some (.inl x2), some (.inl (x3 + 1)), none, none]) (ih x1 x2 (x3 + 1) h) (by repeat (first | exact trivial | refine ⟨rfl, ?_⟩))
            · replace h := gz_ifn c h
              refine gz_iload_n (pc := 67) dX8_restsOf_67 rfl ?_
              refine gz_iconst (pc := 68) dX8_restsOf_68 (v := 1) (by decide) ?_
              refine gz_iload_n (pc := 69) dX8_restsOf_69 rfl ?_
              refine gz_ishl (pc := 70) dX8_restsOf_70  ?_
              refine gz_ior (pc := 71) dX8_restsOf_71  ?_
              refine gz_istore_n (pc := 72) dX8_restsOf_72 (by decide) rfl (loc2 := [some (.inr (.inr (t, 0))), some (.inl x1), some (.inl (x2 ||| ((1 : Int32) <<< (x3 &&& 31)))), some (.inl x3), some (.inl (if v2 < v4 then (0 : Int32) else 1)), some (.inl (if v7 < v9 then (0 : Int32) else 1))]) rfl ?_
              refine gz_iinc (pc := 73) dX8_restsOf_73 (x := x3) (v := x3 + 1) rfl (by rw [show Int32.ofInt 1 = 1 by decide]) (by decide) rfl (loc2 := [some (.inr (.inr (t, 0))), some (.inl x1), some (.inl (x2 ||| ((1 : Int32) <<< (x3 &&& 31)))), some (.inl (x3 + 1)), some (.inl (if v2 < v4 then (0 : Int32) else 1)), some (.inl (if v7 < v9 then (0 : Int32) else 1))]) rfl ?_
              refine gz_goto (pc := 76) (tgt := 4) dX8_restsOf_76 (by decide) ?_
              exact gz_weak (loc2 := [some (.inr (.inr (t, 0))), some (.inl x1), some (.inl (x2 ||| ((1 : Int32) <<< (x3 &&& 31)))), some (.inl (x3 + 1)), none, none]) (ih x1 (x2 ||| ((1 : Int32) <<< (x3 &&& 31))) (x3 + 1) h) (by repeat (first | exact trivial | refine ⟨rfl, ?_⟩))
        refine gz_ic_lt (pc := 47) (tgt := 54) dX8_restsOf_47 (by decide) (fun c => ?_) (fun c => ?_)
        · rw [if_pos c] at kj10
          refine gz_iconst (pc := 54) dX8_restsOf_54 (v := 0) (by decide) ?_
          exact kj10
        · rw [if_neg c] at kj10
          refine gz_iconst (pc := 50) dX8_restsOf_50 (v := 1) (by decide) ?_
          refine gz_goto (pc := 51) (tgt := 55) dX8_restsOf_51 (by decide) ?_
          exact kj10
      refine gz_ic_lt (pc := 23) (tgt := 30) dX8_restsOf_23 (by decide) (fun c => ?_) (fun c => ?_)
      · rw [if_pos c] at kj5
        refine gz_iconst (pc := 30) dX8_restsOf_30 (v := 0) (by decide) ?_
        exact kj5
      · rw [if_neg c] at kj5
        refine gz_iconst (pc := 26) dX8_restsOf_26 (v := 1) (by decide) ?_
        refine gz_goto (pc := 27) (tgt := 31) dX8_restsOf_27 (by decide) ?_
        exact kj5
def f_X8_restsOf (φ : Nat) (t : Nat) (I : gzIT) (a1 : Int32) : Option Int32 := f_X8_restsOf_4 φ t I φ a1 0 0
set_option maxRecDepth 20000 in
theorem c_X8_restsOf {g : gzG} {d φ : Nat} {t : Nat} (ht : t < 15) {a1 : Int32} {I : gzIT} {J : gzJT} {r : Int32} (h : f_X8_restsOf φ t I a1 = some r) : gzC g 0 (d + 2) mX8_restsOf [.inr (.inr (t, 0)), .inl a1] (gzN, gzR0, I, J) (gzE (.ok (some (.inl r))) (gzN, gzR0, I, J)) := by
  unfold f_X8_restsOf at h
  refine gzC_of (by decide +kernel) (Nat.le_of_ble_eq_true rfl) (loc := [some (.inr (.inr (t, 0))), some (.inl a1), none, none, none, none]) rfl ?_
  refine gz_iconst (pc := 0) dX8_restsOf_0 (v := 0) (by decide) ?_
  refine gz_istore_n (pc := 1) dX8_restsOf_1 (by decide) rfl (loc2 := [some (.inr (.inr (t, 0))), some (.inl a1), some (.inl 0), none, none, none]) rfl ?_
  refine gz_iconst (pc := 2) dX8_restsOf_2 (v := 0) (by decide) ?_
  refine gz_istore_n (pc := 3) dX8_restsOf_3 (by decide) rfl (loc2 := [some (.inr (.inr (t, 0))), some (.inl a1), some (.inl 0), some (.inl 0), none, none]) rfl ?_
  exact p_X8_restsOf_4 ht φ a1 0 0 h
/-! X9_readFamily: readFamily -/
def gP_X9_readFamily_19 (g : gzG) (t1 : Nat) (d : Nat) (r : (Except String Unit) × gzIT × gzJT) (I : gzIT) (J : gzJT) : Prop := gzX g 0 (d + 3) mX9_readFamily 19 [some (.inr (.inr (0, 37))), some (.inr (.inr (t1, 0))), none, none, none] [] (gzN, gzR0, I, J) 0 (gzE (gzRV r.1) (gzN, gzR0, r.2.1, r.2.2))
def f_X9_readFamily_19 (t1 : Nat) (I : gzIT) (J : gzJT) : Option ((Except String Unit) × gzIT × gzJT) := Option.bind (f_X7_need 1030 I J) (fun v6 => gzEx v6.1 (fun E => some (.error E, v6.2.1, v6.2.2)) (fun w8 => Option.bind (f_X7_need 1015 v6.2.1 v6.2.2) (fun v10 => gzEx v10.1 (fun E => some (.error E, v10.2.1, v10.2.2)) (fun w12 => Option.bind (f_X7_number 9 v10.2.1 v10.2.2) (fun v14 => gzEx v14.1 (fun E => some (.error E, v14.2.1, v14.2.2)) (fun w16 => Option.bind (f_X7_need 1031 v14.2.1 v14.2.2) (fun v18 => gzEx v18.1 (fun E => some (.error E, v18.2.1, v18.2.2)) (fun w20 => Option.bind (f_X7_number 99 v18.2.1 v18.2.2) (fun v22 => gzEx v22.1 (fun E => some (.error E, v22.2.1, v22.2.2)) (fun w24 => Option.bind (f_X7_take 1032 v22.2.1 v22.2.2) (fun v26 => if v26.1 = 0 then (Option.bind (f_X0_add t1 w16 w24 0 v26.2.1 v26.2.2) (fun v28 => some (.ok (), v28.2.1, v28.2.2))) else (Option.bind (f_X7_number 999 v26.2.1 v26.2.2) (fun v30 => gzEx v30.1 (fun E => some (.error E, v30.2.1, v30.2.2)) (fun w32 => Option.bind (f_X0_add t1 w16 w24 w32 v30.2.1 v30.2.2) (fun v34 => some (.ok (), v34.2.1, v34.2.2))))))))))))))))
set_option maxRecDepth 20000 in
theorem p_X9_readFamily_19 {g : gzG} {d : Nat} {t1 : Nat} (ht1 : t1 < 15) {r : (Except String Unit) × gzIT × gzJT} (I : gzIT) (J : gzJT) (h : f_X9_readFamily_19 t1 I J = some r) : gP_X9_readFamily_19 g t1 d r I J := by
  unfold f_X9_readFamily_19 at h
  unfold gP_X9_readFamily_19
  have z_0_37 : gzOk 0 37 gzN := gzOk_of (by decide)
  have z_0_33 : gzOk 0 33 gzN := gzOk_of (by decide)
  have z_t1_0 : gzOk t1 0 gzN := gzOk_of ht1
  have z_t1_1 : gzOk t1 1 gzN := gzOk_of ht1
  refine gz_aload_n (pc := 19) dX9_readFamily_19 rfl ?_
  refine gr_X9_9 (pc := 20) dX9_readFamily_20 z_0_37 rfl ?_
  refine gz_sipush (pc := 23) dX9_readFamily_23 (v := 1030) (by decide) ?_
  refine gz_V (zy := mX7_need) (zc := 0) (pc := 26) [.inl 1030] rfl dX9_readFamily_26 lkX9_25 MvX7_need rfl z_0_33 rfl rfl rfl (Or.inl rfl) (fun h => h) (by exact Nat.le_of_ble_eq_true rfl) ?_
  obtain ⟨v6, e5, h⟩ := gz_bd h
  cases x7 : v6.1 with
  | error E => replace h := gz_exe x7 h; cases h; exact gz_useTV x7 (c_X7_need e5) ⟨by simp [gzRI, gzRJ, gzRV], rfl⟩
  | ok w8 =>
    replace h := gz_exo x7 h
    refine gz_useOV x7 (c_X7_need e5) ?_
    refine gz_aload_n (pc := 29) dX9_readFamily_29 rfl ?_
    refine gr_X9_9 (pc := 30) dX9_readFamily_30 z_0_37 rfl ?_
    refine gz_sipush (pc := 33) dX9_readFamily_33 (v := 1015) (by decide) ?_
    refine gz_V (zy := mX7_need) (zc := 0) (pc := 36) [.inl 1015] rfl dX9_readFamily_36 lkX9_25 MvX7_need rfl z_0_33 rfl rfl rfl (Or.inl rfl) (fun h => h) (by exact Nat.le_of_ble_eq_true rfl) ?_
    obtain ⟨v10, e9, h⟩ := gz_bd h
    cases x11 : v10.1 with
    | error E => replace h := gz_exe x11 h; cases h; exact gz_useTV x11 (c_X7_need e9) ⟨by simp [gzRI, gzRJ, gzRV], rfl⟩
    | ok w12 =>
      replace h := gz_exo x11 h
      refine gz_useOV x11 (c_X7_need e9) ?_
      refine gz_aload_n (pc := 39) dX9_readFamily_39 rfl ?_
      refine gr_X9_9 (pc := 40) dX9_readFamily_40 z_0_37 rfl ?_
      refine gz_bipush (pc := 43) dX9_readFamily_43 (v := 9) (by decide) ?_
      refine gz_V (zy := mX7_number) (zc := 0) (pc := 45) [.inl 9] rfl dX9_readFamily_45 lkX9_54 MvX7_number rfl z_0_33 rfl rfl rfl (Or.inl rfl) (fun h => h) (by exact Nat.le_of_ble_eq_true rfl) ?_
      obtain ⟨v14, e13, h⟩ := gz_bd h
      cases x15 : v14.1 with
      | error E => replace h := gz_exe x15 h; cases h; exact gz_useTI x15 (c_X7_number e13) ⟨by simp [gzRI, gzRJ, gzRV], rfl⟩
      | ok w16 =>
        replace h := gz_exo x15 h
        refine gz_useOI x15 (c_X7_number e13) ?_
        refine gz_istore_n (pc := 48) dX9_readFamily_48 (by decide) rfl (loc2 := [some (.inr (.inr (0, 37))), some (.inr (.inr (t1, 0))), some (.inl w16), none, none]) rfl ?_
        refine gz_aload_n (pc := 49) dX9_readFamily_49 rfl ?_
        refine gr_X9_9 (pc := 50) dX9_readFamily_50 z_0_37 rfl ?_
        refine gz_sipush (pc := 53) dX9_readFamily_53 (v := 1031) (by decide) ?_
        refine gz_V (zy := mX7_need) (zc := 0) (pc := 56) [.inl 1031] rfl dX9_readFamily_56 lkX9_25 MvX7_need rfl z_0_33 rfl rfl rfl (Or.inl rfl) (fun h => h) (by exact Nat.le_of_ble_eq_true rfl) ?_
        obtain ⟨v18, e17, h⟩ := gz_bd h
        cases x19 : v18.1 with
        | error E => replace h := gz_exe x19 h; cases h; exact gz_useTV x19 (c_X7_need e17) ⟨by simp [gzRI, gzRJ, gzRV], rfl⟩
        | ok w20 =>
          replace h := gz_exo x19 h
          refine gz_useOV x19 (c_X7_need e17) ?_
          refine gz_aload_n (pc := 59) dX9_readFamily_59 rfl ?_
          refine gr_X9_9 (pc := 60) dX9_readFamily_60 z_0_37 rfl ?_
          refine gz_bipush (pc := 63) dX9_readFamily_63 (v := 99) (by decide) ?_
          refine gz_V (zy := mX7_number) (zc := 0) (pc := 65) [.inl 99] rfl dX9_readFamily_65 lkX9_54 MvX7_number rfl z_0_33 rfl rfl rfl (Or.inl rfl) (fun h => h) (by exact Nat.le_of_ble_eq_true rfl) ?_
          obtain ⟨v22, e21, h⟩ := gz_bd h
          cases x23 : v22.1 with
          | error E => replace h := gz_exe x23 h; cases h; exact gz_useTI x23 (c_X7_number e21) ⟨by simp [gzRI, gzRJ, gzRV], rfl⟩
          | ok w24 =>
            replace h := gz_exo x23 h
            refine gz_useOI x23 (c_X7_number e21) ?_
            refine gz_istore_n (pc := 68) dX9_readFamily_68 (by decide) rfl (loc2 := [some (.inr (.inr (0, 37))), some (.inr (.inr (t1, 0))), some (.inl w16), some (.inl w24), none]) rfl ?_
            refine gz_aload_n (pc := 69) dX9_readFamily_69 rfl ?_
            refine gr_X9_9 (pc := 70) dX9_readFamily_70 z_0_37 rfl ?_
            refine gz_sipush (pc := 73) dX9_readFamily_73 (v := 1032) (by decide) ?_
            refine gz_V (zy := mX7_take) (zc := 0) (pc := 76) [.inl 1032] rfl dX9_readFamily_76 lkX9_35 MvX7_take rfl z_0_33 rfl rfl rfl (Or.inl rfl) (fun h => h) (by exact Nat.le_of_ble_eq_true rfl) ?_
            obtain ⟨v26, e25, h⟩ := gz_bd h
            refine gz_useI (c_X7_take e25) ?_
            refine gz_if_eq (pc := 79) (tgt := 95) dX9_readFamily_79 (by decide) (fun c => ?_) (fun c => ?_)
            · replace h := gz_ifp c h
              refine gz_iconst (pc := 95) dX9_readFamily_95 (v := 0) (by decide) ?_
              refine gz_istore (pc := 96) dX9_readFamily_96 (by decide) rfl (loc2 := [some (.inr (.inr (0, 37))), some (.inr (.inr (t1, 0))), some (.inl w16), some (.inl w24), some (.inl 0)]) rfl ?_
              refine gz_aload_n (pc := 98) dX9_readFamily_98 rfl ?_
              refine gr_X9_76 (pc := 99) dX9_readFamily_99 z_t1_0 rfl ?_
              refine gz_iload_n (pc := 102) dX9_readFamily_102 rfl ?_
              refine gz_iload_n (pc := 103) dX9_readFamily_103 rfl ?_
              refine gz_iload (pc := 104) dX9_readFamily_104 rfl ?_
              refine gz_V (zy := mX0_add) (zc := 0) (pc := 106) [.inl w16, .inl w24, .inl 0] rfl dX9_readFamily_106 lkX9_85 MvX0_add rfl z_t1_1 rfl rfl rfl (Or.inl rfl) (fun h => h) (by exact Nat.le_of_ble_eq_true rfl) ?_
              obtain ⟨v28, e27, h⟩ := gz_bd h
              refine gz_useV (c_X0_add ht1 e27) ?_
              cases h; exact gz_vret (pc := 109) dX9_readFamily_109 rfl ⟨rfl, rfl⟩
            · replace h := gz_ifn c h
              refine gz_aload_n (pc := 82) dX9_readFamily_82 rfl ?_
              refine gr_X9_9 (pc := 83) dX9_readFamily_83 z_0_37 rfl ?_
              refine gz_sipush (pc := 86) dX9_readFamily_86 (v := 999) (by decide) ?_
              refine gz_V (zy := mX7_number) (zc := 0) (pc := 89) [.inl 999] rfl dX9_readFamily_89 lkX9_54 MvX7_number rfl z_0_33 rfl rfl rfl (Or.inl rfl) (fun h => h) (by exact Nat.le_of_ble_eq_true rfl) ?_
              obtain ⟨v30, e29, h⟩ := gz_bd h
              cases x31 : v30.1 with
              | error E => replace h := gz_exe x31 h; cases h; exact gz_useTI x31 (c_X7_number e29) ⟨by simp [gzRI, gzRJ, gzRV], rfl⟩
              | ok w32 =>
                replace h := gz_exo x31 h
                refine gz_useOI x31 (c_X7_number e29) ?_
                refine gz_goto (pc := 92) (tgt := 96) dX9_readFamily_92 (by decide) ?_
                refine gz_istore (pc := 96) dX9_readFamily_96 (by decide) rfl (loc2 := [some (.inr (.inr (0, 37))), some (.inr (.inr (t1, 0))), some (.inl w16), some (.inl w24), some (.inl w32)]) rfl ?_
                refine gz_aload_n (pc := 98) dX9_readFamily_98 rfl ?_
                refine gr_X9_76 (pc := 99) dX9_readFamily_99 z_t1_0 rfl ?_
                refine gz_iload_n (pc := 102) dX9_readFamily_102 rfl ?_
                refine gz_iload_n (pc := 103) dX9_readFamily_103 rfl ?_
                refine gz_iload (pc := 104) dX9_readFamily_104 rfl ?_
                refine gz_V (zy := mX0_add) (zc := 0) (pc := 106) [.inl w16, .inl w24, .inl w32] rfl dX9_readFamily_106 lkX9_85 MvX0_add rfl z_t1_1 rfl rfl rfl (Or.inl rfl) (fun h => h) (by exact Nat.le_of_ble_eq_true rfl) ?_
                obtain ⟨v34, e33, h⟩ := gz_bd h
                refine gz_useV (c_X0_add ht1 e33) ?_
                cases h; exact gz_vret (pc := 109) dX9_readFamily_109 rfl ⟨rfl, rfl⟩
def f_X9_readFamily (t1 : Nat) (I : gzIT) (J : gzJT) : Option ((Except String Unit) × gzIT × gzJT) := if I t1 1 5 < 6 then (f_X9_readFamily_19 t1 I J) else (Option.bind (f_X7_wrong I J) (fun v2 => gzEx v2.1 (fun E => some (.error E, v2.2.1, v2.2.2)) (fun w4 => f_X9_readFamily_19 t1 v2.2.1 v2.2.2)))
set_option maxRecDepth 20000 in
theorem c_X9_readFamily {g : gzG} {d : Nat} {t1 : Nat} (ht1 : t1 < 15) {I : gzIT} {J : gzJT} {r : (Except String Unit) × gzIT × gzJT} (h : f_X9_readFamily t1 I J = some r) : gzC g 0 (d + 3) mX9_readFamily [.inr (.inr (0, 37)), .inr (.inr (t1, 0))] (gzN, gzR0, I, J) (gzE (gzRV r.1) (gzN, gzR0, r.2.1, r.2.2)) := by
  unfold f_X9_readFamily at h
  refine gzC_of (by decide +kernel) (Nat.le_of_ble_eq_true rfl) (loc := [some (.inr (.inr (0, 37))), some (.inr (.inr (t1, 0))), none, none, none]) rfl ?_
  have z_t1_0 : gzOk t1 0 gzN := gzOk_of ht1
  have z_t1_1 : gzOk t1 1 gzN := gzOk_of ht1
  have z_0_37 : gzOk 0 37 gzN := gzOk_of (by decide)
  have z_0_33 : gzOk 0 33 gzN := gzOk_of (by decide)
  refine gz_aload_n (pc := 0) dX9_readFamily_0 rfl ?_
  refine gr_X9_76 (pc := 1) dX9_readFamily_1 z_t1_0 rfl ?_
  refine gi_X9_80 (pc := 4) dX9_readFamily_4 (v := I t1 1 5) z_t1_1 rfl rfl ?_
  refine gz_bipush (pc := 7) dX9_readFamily_7 (v := 6) (by decide) ?_
  refine gz_ic_lt (pc := 9) (tgt := 19) dX9_readFamily_9 (by decide) (fun c => ?_) (fun c => ?_)
  · replace h := gz_ifp c h
    exact p_X9_readFamily_19 ht1 I J h
  · replace h := gz_ifn c h
    refine gz_aload_n (pc := 12) dX9_readFamily_12 rfl ?_
    refine gr_X9_9 (pc := 13) dX9_readFamily_13 z_0_37 rfl ?_
    refine gz_V (zy := mX7_wrong) (zc := 0) (pc := 16) [] rfl dX9_readFamily_16 lkX9_29 MvX7_wrong rfl z_0_33 rfl rfl rfl (Or.inl rfl) (fun h => h) (by exact Nat.le_of_ble_eq_true rfl) ?_
    obtain ⟨v2, e1, h⟩ := gz_bd h
    cases x3 : v2.1 with
    | error E => replace h := gz_exe x3 h; cases h; exact gz_useTV x3 (c_X7_wrong e1) ⟨by simp [gzRI, gzRJ, gzRV], rfl⟩
    | ok w4 =>
      replace h := gz_exo x3 h
      refine gz_useOV x3 (c_X7_wrong e1) ?_
      exact p_X9_readFamily_19 ht1 v2.2.1 v2.2.2 h
/-! X9_readGrudge: readGrudge -/
def gP_X9_readGrudge_64 (g : gzG) (t1 : Nat) (d : Nat) (r : (Except String Unit) × gzIT × gzJT) (x2 : Int32) (I : gzIT) (J : gzJT) : Prop := gzX g 0 (d + 3) mX9_readGrudge 64 [some (.inr (.inr (0, 37))), some (.inr (.inr (t1, 0))), some (.inl x2), none, none, none] [] (gzN, gzR0, I, J) 0 (gzE (gzRV r.1) (gzN, gzR0, r.2.1, r.2.2))
def gP_X9_readGrudge_19 (g : gzG) (t1 : Nat) (d : Nat) (r : (Except String Unit) × gzIT × gzJT) (I : gzIT) (J : gzJT) : Prop := gzX g 0 (d + 3) mX9_readGrudge 19 [some (.inr (.inr (0, 37))), some (.inr (.inr (t1, 0))), none, none, none, none] [] (gzN, gzR0, I, J) 0 (gzE (gzRV r.1) (gzN, gzR0, r.2.1, r.2.2))
def f_X9_readGrudge_64 (t1 : Nat) (x2 : Int32) (I : gzIT) (J : gzJT) : Option ((Except String Unit) × gzIT × gzJT) := Option.bind (f_X7_number ((I t1 1 5) - 1) I J) (fun v20 => gzEx v20.1 (fun E => some (.error E, v20.2.1, v20.2.2)) (fun w22 => Option.bind (f_X7_need 1034 v20.2.1 v20.2.2) (fun v24 => gzEx v24.1 (fun E => some (.error E, v24.2.1, v24.2.2)) (fun w26 => Option.bind (f_X7_among 1000 8 v24.2.1 v24.2.2) (fun v28 => gzEx v28.1 (fun E => some (.error E, v28.2.1, v28.2.2)) (fun w30 => Option.bind (f_X7_need 1014 v28.2.1 v28.2.2) (fun v32 => gzEx v32.1 (fun E => some (.error E, v32.2.1, v32.2.2)) (fun w34 => Option.bind (f_X7_number 999 v32.2.1 v32.2.2) (fun v36 => gzEx v36.1 (fun E => some (.error E, v36.2.1, v36.2.2)) (fun w38 => Option.bind (f_X1_add t1 x2 w22 w30 w38 v36.2.1 v36.2.2) (fun v40 => Option.bind (f_X7_take 1013 v40.2.1 v40.2.2) (fun v42 => if v42.1 = 0 then (Option.bind (f_X7_take 1020 v42.2.1 v42.2.2) (fun v44 => if v44.1 = 0 then (some (.ok (), v44.2.1, v44.2.2)) else (Option.bind (f_X1_makeNursed t1 v40.1 v44.2.1 v44.2.2) (fun v46 => some (.ok (), v46.2.1, v46.2.2))))) else (Option.bind (f_X7_number 99 v42.2.1 v42.2.2) (fun v48 => gzEx v48.1 (fun E => some (.error E, v48.2.1, v48.2.2)) (fun w50 => Option.bind (f_X11_write t1 11 10 v40.1 w50 v48.2.1 v48.2.2) (fun v52 => Option.bind (f_X7_take 1020 v52.2.1 v52.2.2) (fun v54 => if v54.1 = 0 then (some (.ok (), v54.2.1, v54.2.2)) else (Option.bind (f_X1_makeNursed t1 v40.1 v54.2.1 v54.2.2) (fun v56 => some (.ok (), v56.2.1, v56.2.2))))))))))))))))))))
set_option maxRecDepth 20000 in
theorem p_X9_readGrudge_64 {g : gzG} {d : Nat} {t1 : Nat} (ht1 : t1 < 15) {r : (Except String Unit) × gzIT × gzJT} (x2 : Int32) (I : gzIT) (J : gzJT) (h : f_X9_readGrudge_64 t1 x2 I J = some r) : gP_X9_readGrudge_64 g t1 d r x2 I J := by
  unfold f_X9_readGrudge_64 at h
  unfold gP_X9_readGrudge_64
  have z_0_37 : gzOk 0 37 gzN := gzOk_of (by decide)
  have z_t1_0 : gzOk t1 0 gzN := gzOk_of ht1
  have z_t1_1 : gzOk t1 1 gzN := gzOk_of ht1
  have z_0_33 : gzOk 0 33 gzN := gzOk_of (by decide)
  have z_t1_7 : gzOk t1 7 gzN := gzOk_of ht1
  have z_t1_11 : gzOk t1 11 gzN := gzOk_of ht1
  refine gz_aload_n (pc := 64) dX9_readGrudge_64 rfl ?_
  refine gr_X9_9 (pc := 65) dX9_readGrudge_65 z_0_37 rfl ?_
  refine gz_aload_n (pc := 68) dX9_readGrudge_68 rfl ?_
  refine gr_X9_76 (pc := 69) dX9_readGrudge_69 z_t1_0 rfl ?_
  refine gi_X9_80 (pc := 72) dX9_readGrudge_72 (v := I t1 1 5) z_t1_1 rfl rfl ?_
  refine gz_iconst (pc := 75) dX9_readGrudge_75 (v := 1) (by decide) ?_
  refine gz_isub (pc := 76) dX9_readGrudge_76  ?_
  refine gz_V (zy := mX7_number) (zc := 0) (pc := 77) [.inl ((I t1 1 5) - 1)] rfl dX9_readGrudge_77 lkX9_54 MvX7_number rfl z_0_33 rfl rfl rfl (Or.inl rfl) (fun h => h) (by exact Nat.le_of_ble_eq_true rfl) ?_
  obtain ⟨v20, e19, h⟩ := gz_bd h
  cases x21 : v20.1 with
  | error E => replace h := gz_exe x21 h; cases h; exact gz_useTI x21 (c_X7_number e19) ⟨by simp [gzRI, gzRJ, gzRV], rfl⟩
  | ok w22 =>
    replace h := gz_exo x21 h
    refine gz_useOI x21 (c_X7_number e19) ?_
    refine gz_istore_n (pc := 80) dX9_readGrudge_80 (by decide) rfl (loc2 := [some (.inr (.inr (0, 37))), some (.inr (.inr (t1, 0))), some (.inl x2), some (.inl w22), none, none]) rfl ?_
    refine gz_aload_n (pc := 81) dX9_readGrudge_81 rfl ?_
    refine gr_X9_9 (pc := 82) dX9_readGrudge_82 z_0_37 rfl ?_
    refine gz_sipush (pc := 85) dX9_readGrudge_85 (v := 1034) (by decide) ?_
    refine gz_V (zy := mX7_need) (zc := 0) (pc := 88) [.inl 1034] rfl dX9_readGrudge_88 lkX9_25 MvX7_need rfl z_0_33 rfl rfl rfl (Or.inl rfl) (fun h => h) (by exact Nat.le_of_ble_eq_true rfl) ?_
    obtain ⟨v24, e23, h⟩ := gz_bd h
    cases x25 : v24.1 with
    | error E => replace h := gz_exe x25 h; cases h; exact gz_useTV x25 (c_X7_need e23) ⟨by simp [gzRI, gzRJ, gzRV], rfl⟩
    | ok w26 =>
      replace h := gz_exo x25 h
      refine gz_useOV x25 (c_X7_need e23) ?_
      refine gz_aload_n (pc := 91) dX9_readGrudge_91 rfl ?_
      refine gr_X9_9 (pc := 92) dX9_readGrudge_92 z_0_37 rfl ?_
      refine gz_sipush (pc := 95) dX9_readGrudge_95 (v := 1000) (by decide) ?_
      refine gz_bipush (pc := 98) dX9_readGrudge_98 (v := 8) (by decide) ?_
      refine gz_V (zy := mX7_among) (zc := 0) (pc := 100) [.inl 1000, .inl 8] rfl dX9_readGrudge_100 lkX9_44 MvX7_among rfl z_0_33 rfl rfl rfl (Or.inl rfl) (fun h => h) (by exact Nat.le_of_ble_eq_true rfl) ?_
      obtain ⟨v28, e27, h⟩ := gz_bd h
      cases x29 : v28.1 with
      | error E => replace h := gz_exe x29 h; cases h; exact gz_useTI x29 (c_X7_among e27) ⟨by simp [gzRI, gzRJ, gzRV], rfl⟩
      | ok w30 =>
        replace h := gz_exo x29 h
        refine gz_useOI x29 (c_X7_among e27) ?_
        refine gz_istore (pc := 103) dX9_readGrudge_103 (by decide) rfl (loc2 := [some (.inr (.inr (0, 37))), some (.inr (.inr (t1, 0))), some (.inl x2), some (.inl w22), some (.inl w30), none]) rfl ?_
        refine gz_aload_n (pc := 105) dX9_readGrudge_105 rfl ?_
        refine gr_X9_9 (pc := 106) dX9_readGrudge_106 z_0_37 rfl ?_
        refine gz_sipush (pc := 109) dX9_readGrudge_109 (v := 1014) (by decide) ?_
        refine gz_V (zy := mX7_need) (zc := 0) (pc := 112) [.inl 1014] rfl dX9_readGrudge_112 lkX9_25 MvX7_need rfl z_0_33 rfl rfl rfl (Or.inl rfl) (fun h => h) (by exact Nat.le_of_ble_eq_true rfl) ?_
        obtain ⟨v32, e31, h⟩ := gz_bd h
        cases x33 : v32.1 with
        | error E => replace h := gz_exe x33 h; cases h; exact gz_useTV x33 (c_X7_need e31) ⟨by simp [gzRI, gzRJ, gzRV], rfl⟩
        | ok w34 =>
          replace h := gz_exo x33 h
          refine gz_useOV x33 (c_X7_need e31) ?_
          refine gz_aload_n (pc := 115) dX9_readGrudge_115 rfl ?_
          refine gr_X9_95 (pc := 116) dX9_readGrudge_116 z_t1_0 rfl ?_
          refine gz_iload_n (pc := 119) dX9_readGrudge_119 rfl ?_
          refine gz_iload_n (pc := 120) dX9_readGrudge_120 rfl ?_
          refine gz_iload (pc := 121) dX9_readGrudge_121 rfl ?_
          refine gz_aload_n (pc := 123) dX9_readGrudge_123 rfl ?_
          refine gr_X9_9 (pc := 124) dX9_readGrudge_124 z_0_37 rfl ?_
          refine gz_sipush (pc := 127) dX9_readGrudge_127 (v := 999) (by decide) ?_
          refine gz_V (zy := mX7_number) (zc := 0) (pc := 130) [.inl 999] rfl dX9_readGrudge_130 lkX9_54 MvX7_number rfl z_0_33 rfl rfl rfl (Or.inl rfl) (fun h => h) (by exact Nat.le_of_ble_eq_true rfl) ?_
          obtain ⟨v36, e35, h⟩ := gz_bd h
          cases x37 : v36.1 with
          | error E => replace h := gz_exe x37 h; cases h; exact gz_useTI x37 (c_X7_number e35) ⟨by simp [gzRI, gzRJ, gzRV], rfl⟩
          | ok w38 =>
            replace h := gz_exo x37 h
            refine gz_useOI x37 (c_X7_number e35) ?_
            refine gz_V (zy := mX1_add) (zc := 0) (pc := 133) [.inl x2, .inl w22, .inl w30, .inl w38] rfl dX9_readGrudge_133 lkX9_102 MvX1_add rfl z_t1_7 rfl rfl rfl (Or.inl rfl) (fun h => h) (by exact Nat.le_of_ble_eq_true rfl) ?_
            obtain ⟨v40, e39, h⟩ := gz_bd h
            refine gz_useI (c_X1_add ht1 e39) ?_
            refine gz_istore (pc := 136) dX9_readGrudge_136 (by decide) rfl (loc2 := [some (.inr (.inr (0, 37))), some (.inr (.inr (t1, 0))), some (.inl x2), some (.inl w22), some (.inl w30), some (.inl v40.1)]) rfl ?_
            refine gz_aload_n (pc := 138) dX9_readGrudge_138 rfl ?_
            refine gr_X9_9 (pc := 139) dX9_readGrudge_139 z_0_37 rfl ?_
            refine gz_sipush (pc := 142) dX9_readGrudge_142 (v := 1013) (by decide) ?_
            refine gz_V (zy := mX7_take) (zc := 0) (pc := 145) [.inl 1013] rfl dX9_readGrudge_145 lkX9_35 MvX7_take rfl z_0_33 rfl rfl rfl (Or.inl rfl) (fun h => h) (by exact Nat.le_of_ble_eq_true rfl) ?_
            obtain ⟨v42, e41, h⟩ := gz_bd h
            refine gz_useI (c_X7_take e41) ?_
            refine gz_if_eq (pc := 148) (tgt := 172) dX9_readGrudge_148 (by decide) (fun c => ?_) (fun c => ?_)
            · replace h := gz_ifp c h
              refine gz_aload_n (pc := 172) dX9_readGrudge_172 rfl ?_
              refine gr_X9_9 (pc := 173) dX9_readGrudge_173 z_0_37 rfl ?_
              refine gz_sipush (pc := 176) dX9_readGrudge_176 (v := 1020) (by decide) ?_
              refine gz_V (zy := mX7_take) (zc := 0) (pc := 179) [.inl 1020] rfl dX9_readGrudge_179 lkX9_35 MvX7_take rfl z_0_33 rfl rfl rfl (Or.inl rfl) (fun h => h) (by exact Nat.le_of_ble_eq_true rfl) ?_
              obtain ⟨v44, e43, h⟩ := gz_bd h
              refine gz_useI (c_X7_take e43) ?_
              refine gz_if_eq (pc := 182) (tgt := 194) dX9_readGrudge_182 (by decide) (fun c => ?_) (fun c => ?_)
              · replace h := gz_ifp c h
                cases h; exact gz_vret (pc := 194) dX9_readGrudge_194 rfl ⟨rfl, rfl⟩
              · replace h := gz_ifn c h
                refine gz_aload_n (pc := 185) dX9_readGrudge_185 rfl ?_
                refine gr_X9_95 (pc := 186) dX9_readGrudge_186 z_t1_0 rfl ?_
                refine gz_iload (pc := 189) dX9_readGrudge_189 rfl ?_
                refine gz_V (zy := mX1_makeNursed) (zc := 0) (pc := 191) [.inl v40.1] rfl dX9_readGrudge_191 lkX9_108 MvX1_makeNursed rfl z_t1_7 rfl rfl rfl (Or.inl rfl) (fun h => h) (by exact Nat.le_of_ble_eq_true rfl) ?_
                obtain ⟨v46, e45, h⟩ := gz_bd h
                refine gz_useV (c_X1_makeNursed ht1 e45) ?_
                cases h; exact gz_vret (pc := 194) dX9_readGrudge_194 rfl ⟨rfl, rfl⟩
            · replace h := gz_ifn c h
              refine gz_aload_n (pc := 151) dX9_readGrudge_151 rfl ?_
              refine gr_X9_95 (pc := 152) dX9_readGrudge_152 z_t1_0 rfl ?_
              refine gr_X9_105 (pc := 155) dX9_readGrudge_155 z_t1_7 rfl ?_
              refine gz_iload (pc := 158) dX9_readGrudge_158 rfl ?_
              refine gz_aload_n (pc := 160) dX9_readGrudge_160 rfl ?_
              refine gr_X9_9 (pc := 161) dX9_readGrudge_161 z_0_37 rfl ?_
              refine gz_bipush (pc := 164) dX9_readGrudge_164 (v := 99) (by decide) ?_
              refine gz_V (zy := mX7_number) (zc := 0) (pc := 166) [.inl 99] rfl dX9_readGrudge_166 lkX9_54 MvX7_number rfl z_0_33 rfl rfl rfl (Or.inl rfl) (fun h => h) (by exact Nat.le_of_ble_eq_true rfl) ?_
              obtain ⟨v48, e47, h⟩ := gz_bd h
              cases x49 : v48.1 with
              | error E => replace h := gz_exe x49 h; cases h; exact gz_useTI x49 (c_X7_number e47) ⟨by simp [gzRI, gzRJ, gzRV], rfl⟩
              | ok w50 =>
                replace h := gz_exo x49 h
                refine gz_useOI x49 (c_X7_number e47) ?_
                refine gz_SN (zy := mX11_write) (zc := 0) (pc := 169) [.inr (.inr (t1, 11)), .inl v40.1, .inl w50] rfl dX9_readGrudge_169 lnX9_58 MsX11_write rfl (Or.inl rfl) (fun h => h) (by exact Nat.le_of_ble_eq_true rfl) ?_
                obtain ⟨v52, e51, h⟩ := gz_bd h
                refine gz_useV (c_X11_write z_t1_11 rfl e51) ?_
                refine gz_aload_n (pc := 172) dX9_readGrudge_172 rfl ?_
                refine gr_X9_9 (pc := 173) dX9_readGrudge_173 z_0_37 rfl ?_
                refine gz_sipush (pc := 176) dX9_readGrudge_176 (v := 1020) (by decide) ?_
                refine gz_V (zy := mX7_take) (zc := 0) (pc := 179) [.inl 1020] rfl dX9_readGrudge_179 lkX9_35 MvX7_take rfl z_0_33 rfl rfl rfl (Or.inl rfl) (fun h => h) (by exact Nat.le_of_ble_eq_true rfl) ?_
                obtain ⟨v54, e53, h⟩ := gz_bd h
                refine gz_useI (c_X7_take e53) ?_
                refine gz_if_eq (pc := 182) (tgt := 194) dX9_readGrudge_182 (by decide) (fun c => ?_) (fun c => ?_)
                · replace h := gz_ifp c h
                  cases h; exact gz_vret (pc := 194) dX9_readGrudge_194 rfl ⟨rfl, rfl⟩
                · replace h := gz_ifn c h
                  refine gz_aload_n (pc := 185) dX9_readGrudge_185 rfl ?_
                  refine gr_X9_95 (pc := 186) dX9_readGrudge_186 z_t1_0 rfl ?_
                  refine gz_iload (pc := 189) dX9_readGrudge_189 rfl ?_
                  refine gz_V (zy := mX1_makeNursed) (zc := 0) (pc := 191) [.inl v40.1] rfl dX9_readGrudge_191 lkX9_108 MvX1_makeNursed rfl z_t1_7 rfl rfl rfl (Or.inl rfl) (fun h => h) (by exact Nat.le_of_ble_eq_true rfl) ?_
                  obtain ⟨v56, e55, h⟩ := gz_bd h
                  refine gz_useV (c_X1_makeNursed ht1 e55) ?_
                  cases h; exact gz_vret (pc := 194) dX9_readGrudge_194 rfl ⟨rfl, rfl⟩
def f_X9_readGrudge_19 (t1 : Nat) (I : gzIT) (J : gzJT) : Option ((Except String Unit) × gzIT × gzJT) := Option.bind (f_X7_need 1012 I J) (fun v6 => gzEx v6.1 (fun E => some (.error E, v6.2.1, v6.2.2)) (fun w8 => Option.bind (f_X7_number ((v6.2.1 t1 1 5) - 1) v6.2.1 v6.2.2) (fun v10 => gzEx v10.1 (fun E => some (.error E, v10.2.1, v10.2.2)) (fun w12 => Option.bind (f_X7_is v10.2.1 w12) (fun v14 => if v14 = 0 then (f_X9_readGrudge_64 t1 w12 v10.2.1 v10.2.2) else (Option.bind (f_X7_wrong v10.2.1 v10.2.2) (fun v16 => gzEx v16.1 (fun E => some (.error E, v16.2.1, v16.2.2)) (fun w18 => f_X9_readGrudge_64 t1 w12 v16.2.1 v16.2.2))))))))
set_option maxRecDepth 20000 in
theorem p_X9_readGrudge_19 {g : gzG} {d : Nat} {t1 : Nat} (ht1 : t1 < 15) {r : (Except String Unit) × gzIT × gzJT} (I : gzIT) (J : gzJT) (h : f_X9_readGrudge_19 t1 I J = some r) : gP_X9_readGrudge_19 g t1 d r I J := by
  unfold f_X9_readGrudge_19 at h
  unfold gP_X9_readGrudge_19
  have z_0_37 : gzOk 0 37 gzN := gzOk_of (by decide)
  have z_0_33 : gzOk 0 33 gzN := gzOk_of (by decide)
  have z_t1_0 : gzOk t1 0 gzN := gzOk_of ht1
  have z_t1_1 : gzOk t1 1 gzN := gzOk_of ht1
  refine gz_aload_n (pc := 19) dX9_readGrudge_19 rfl ?_
  refine gr_X9_9 (pc := 20) dX9_readGrudge_20 z_0_37 rfl ?_
  refine gz_sipush (pc := 23) dX9_readGrudge_23 (v := 1012) (by decide) ?_
  refine gz_V (zy := mX7_need) (zc := 0) (pc := 26) [.inl 1012] rfl dX9_readGrudge_26 lkX9_25 MvX7_need rfl z_0_33 rfl rfl rfl (Or.inl rfl) (fun h => h) (by exact Nat.le_of_ble_eq_true rfl) ?_
  obtain ⟨v6, e5, h⟩ := gz_bd h
  cases x7 : v6.1 with
  | error E => replace h := gz_exe x7 h; cases h; exact gz_useTV x7 (c_X7_need e5) ⟨by simp [gzRI, gzRJ, gzRV], rfl⟩
  | ok w8 =>
    replace h := gz_exo x7 h
    refine gz_useOV x7 (c_X7_need e5) ?_
    refine gz_aload_n (pc := 29) dX9_readGrudge_29 rfl ?_
    refine gr_X9_9 (pc := 30) dX9_readGrudge_30 z_0_37 rfl ?_
    refine gz_aload_n (pc := 33) dX9_readGrudge_33 rfl ?_
    refine gr_X9_76 (pc := 34) dX9_readGrudge_34 z_t1_0 rfl ?_
    refine gi_X9_80 (pc := 37) dX9_readGrudge_37 (v := v6.2.1 t1 1 5) z_t1_1 rfl rfl ?_
    refine gz_iconst (pc := 40) dX9_readGrudge_40 (v := 1) (by decide) ?_
    refine gz_isub (pc := 41) dX9_readGrudge_41  ?_
    refine gz_V (zy := mX7_number) (zc := 0) (pc := 42) [.inl ((v6.2.1 t1 1 5) - 1)] rfl dX9_readGrudge_42 lkX9_54 MvX7_number rfl z_0_33 rfl rfl rfl (Or.inl rfl) (fun h => h) (by exact Nat.le_of_ble_eq_true rfl) ?_
    obtain ⟨v10, e9, h⟩ := gz_bd h
    cases x11 : v10.1 with
    | error E => replace h := gz_exe x11 h; cases h; exact gz_useTI x11 (c_X7_number e9) ⟨by simp [gzRI, gzRJ, gzRV], rfl⟩
    | ok w12 =>
      replace h := gz_exo x11 h
      refine gz_useOI x11 (c_X7_number e9) ?_
      refine gz_istore_n (pc := 45) dX9_readGrudge_45 (by decide) rfl (loc2 := [some (.inr (.inr (0, 37))), some (.inr (.inr (t1, 0))), some (.inl w12), none, none, none]) rfl ?_
      refine gz_aload_n (pc := 46) dX9_readGrudge_46 rfl ?_
      refine gr_X9_9 (pc := 47) dX9_readGrudge_47 z_0_37 rfl ?_
      refine gz_iload_n (pc := 50) dX9_readGrudge_50 rfl ?_
      refine gz_V (zy := mX7_is) (zc := 0) (pc := 51) [.inl w12] rfl dX9_readGrudge_51 lkX9_15 MvX7_is rfl z_0_33 rfl rfl rfl (Or.inl rfl) (fun h => h) (by exact Nat.le_of_ble_eq_true rfl) ?_
      obtain ⟨v14, e13, h⟩ := gz_bd h
      refine gz_useI (c_X7_is e13) ?_
      refine gz_if_eq (pc := 54) (tgt := 64) dX9_readGrudge_54 (by decide) (fun c => ?_) (fun c => ?_)
      · replace h := gz_ifp c h
        exact p_X9_readGrudge_64 ht1 w12 v10.2.1 v10.2.2 h
      · replace h := gz_ifn c h
        refine gz_aload_n (pc := 57) dX9_readGrudge_57 rfl ?_
        refine gr_X9_9 (pc := 58) dX9_readGrudge_58 z_0_37 rfl ?_
        refine gz_V (zy := mX7_wrong) (zc := 0) (pc := 61) [] rfl dX9_readGrudge_61 lkX9_29 MvX7_wrong rfl z_0_33 rfl rfl rfl (Or.inl rfl) (fun h => h) (by exact Nat.le_of_ble_eq_true rfl) ?_
        obtain ⟨v16, e15, h⟩ := gz_bd h
        cases x17 : v16.1 with
        | error E => replace h := gz_exe x17 h; cases h; exact gz_useTV x17 (c_X7_wrong e15) ⟨by simp [gzRI, gzRJ, gzRV], rfl⟩
        | ok w18 =>
          replace h := gz_exo x17 h
          refine gz_useOV x17 (c_X7_wrong e15) ?_
          exact p_X9_readGrudge_64 ht1 w12 v16.2.1 v16.2.2 h
def f_X9_readGrudge (t1 : Nat) (I : gzIT) (J : gzJT) : Option ((Except String Unit) × gzIT × gzJT) := if I t1 7 7 < 10 then (f_X9_readGrudge_19 t1 I J) else (Option.bind (f_X7_wrong I J) (fun v2 => gzEx v2.1 (fun E => some (.error E, v2.2.1, v2.2.2)) (fun w4 => f_X9_readGrudge_19 t1 v2.2.1 v2.2.2)))
set_option maxRecDepth 20000 in
theorem c_X9_readGrudge {g : gzG} {d : Nat} {t1 : Nat} (ht1 : t1 < 15) {I : gzIT} {J : gzJT} {r : (Except String Unit) × gzIT × gzJT} (h : f_X9_readGrudge t1 I J = some r) : gzC g 0 (d + 3) mX9_readGrudge [.inr (.inr (0, 37)), .inr (.inr (t1, 0))] (gzN, gzR0, I, J) (gzE (gzRV r.1) (gzN, gzR0, r.2.1, r.2.2)) := by
  unfold f_X9_readGrudge at h
  refine gzC_of (by decide +kernel) (Nat.le_of_ble_eq_true rfl) (loc := [some (.inr (.inr (0, 37))), some (.inr (.inr (t1, 0))), none, none, none, none]) rfl ?_
  have z_t1_0 : gzOk t1 0 gzN := gzOk_of ht1
  have z_t1_7 : gzOk t1 7 gzN := gzOk_of ht1
  have z_0_37 : gzOk 0 37 gzN := gzOk_of (by decide)
  have z_0_33 : gzOk 0 33 gzN := gzOk_of (by decide)
  refine gz_aload_n (pc := 0) dX9_readGrudge_0 rfl ?_
  refine gr_X9_95 (pc := 1) dX9_readGrudge_1 z_t1_0 rfl ?_
  refine gi_X9_99 (pc := 4) dX9_readGrudge_4 (v := I t1 7 7) z_t1_7 rfl rfl ?_
  refine gz_bipush (pc := 7) dX9_readGrudge_7 (v := 10) (by decide) ?_
  refine gz_ic_lt (pc := 9) (tgt := 19) dX9_readGrudge_9 (by decide) (fun c => ?_) (fun c => ?_)
  · replace h := gz_ifp c h
    exact p_X9_readGrudge_19 ht1 I J h
  · replace h := gz_ifn c h
    refine gz_aload_n (pc := 12) dX9_readGrudge_12 rfl ?_
    refine gr_X9_9 (pc := 13) dX9_readGrudge_13 z_0_37 rfl ?_
    refine gz_V (zy := mX7_wrong) (zc := 0) (pc := 16) [] rfl dX9_readGrudge_16 lkX9_29 MvX7_wrong rfl z_0_33 rfl rfl rfl (Or.inl rfl) (fun h => h) (by exact Nat.le_of_ble_eq_true rfl) ?_
    obtain ⟨v2, e1, h⟩ := gz_bd h
    cases x3 : v2.1 with
    | error E => replace h := gz_exe x3 h; cases h; exact gz_useTV x3 (c_X7_wrong e1) ⟨by simp [gzRI, gzRJ, gzRV], rfl⟩
    | ok w4 =>
      replace h := gz_exo x3 h
      refine gz_useOV x3 (c_X7_wrong e1) ?_
      exact p_X9_readGrudge_19 ht1 v2.2.1 v2.2.2 h
/-! X9_readSlight: readSlight -/
def f_X9_readSlight (t1 : Nat) (I : gzIT) (J : gzJT) : Option ((Except String Unit) × gzIT × gzJT) := Option.bind (f_X7_among 1000 8 I J) (fun v2 => gzEx v2.1 (fun E => some (.error E, v2.2.1, v2.2.2)) (fun w4 => Option.bind (f_X7_need 1016 v2.2.1 v2.2.2) (fun v6 => gzEx v6.1 (fun E => some (.error E, v6.2.1, v6.2.2)) (fun w8 => Option.bind (f_X7_number 9 v6.2.1 v6.2.2) (fun v10 => gzEx v10.1 (fun E => some (.error E, v10.2.1, v10.2.2)) (fun w12 => Option.bind (f_X7_need 1017 v10.2.1 v10.2.2) (fun v14 => gzEx v14.1 (fun E => some (.error E, v14.2.1, v14.2.2)) (fun w16 => Option.bind (f_X7_number 9 v14.2.1 v14.2.2) (fun v18 => gzEx v18.1 (fun E => some (.error E, v18.2.1, v18.2.2)) (fun w20 => Option.bind (f_X11_write t1 17 8 w4 w12 v18.2.1 v18.2.2) (fun v22 => Option.bind (f_X11_write t1 18 8 w4 w20 v22.2.1 v22.2.2) (fun v24 => some (.ok (), v24.2.1, v24.2.2)))))))))))))
set_option maxRecDepth 20000 in
theorem c_X9_readSlight {g : gzG} {d : Nat} {t1 : Nat} (ht1 : t1 < 15) {I : gzIT} {J : gzJT} {r : (Except String Unit) × gzIT × gzJT} (h : f_X9_readSlight t1 I J = some r) : gzC g 0 (d + 3) mX9_readSlight [.inr (.inr (0, 37)), .inr (.inr (t1, 0))] (gzN, gzR0, I, J) (gzE (gzRV r.1) (gzN, gzR0, r.2.1, r.2.2)) := by
  unfold f_X9_readSlight at h
  refine gzC_of (by decide +kernel) (Nat.le_of_ble_eq_true rfl) (loc := [some (.inr (.inr (0, 37))), some (.inr (.inr (t1, 0))), none, none, none]) rfl ?_
  have z_0_37 : gzOk 0 37 gzN := gzOk_of (by decide)
  have z_0_33 : gzOk 0 33 gzN := gzOk_of (by decide)
  have z_t1_0 : gzOk t1 0 gzN := gzOk_of ht1
  have z_t1_17 : gzOk t1 17 gzN := gzOk_of ht1
  have z_t1_18 : gzOk t1 18 gzN := gzOk_of ht1
  refine gz_aload_n (pc := 0) dX9_readSlight_0 rfl ?_
  refine gr_X9_9 (pc := 1) dX9_readSlight_1 z_0_37 rfl ?_
  refine gz_sipush (pc := 4) dX9_readSlight_4 (v := 1000) (by decide) ?_
  refine gz_bipush (pc := 7) dX9_readSlight_7 (v := 8) (by decide) ?_
  refine gz_V (zy := mX7_among) (zc := 0) (pc := 9) [.inl 1000, .inl 8] rfl dX9_readSlight_9 lkX9_44 MvX7_among rfl z_0_33 rfl rfl rfl (Or.inl rfl) (fun h => h) (by exact Nat.le_of_ble_eq_true rfl) ?_
  obtain ⟨v2, e1, h⟩ := gz_bd h
  cases x3 : v2.1 with
  | error E => replace h := gz_exe x3 h; cases h; exact gz_useTI x3 (c_X7_among e1) ⟨by simp [gzRI, gzRJ, gzRV], rfl⟩
  | ok w4 =>
    replace h := gz_exo x3 h
    refine gz_useOI x3 (c_X7_among e1) ?_
    refine gz_istore_n (pc := 12) dX9_readSlight_12 (by decide) rfl (loc2 := [some (.inr (.inr (0, 37))), some (.inr (.inr (t1, 0))), some (.inl w4), none, none]) rfl ?_
    refine gz_aload_n (pc := 13) dX9_readSlight_13 rfl ?_
    refine gr_X9_9 (pc := 14) dX9_readSlight_14 z_0_37 rfl ?_
    refine gz_sipush (pc := 17) dX9_readSlight_17 (v := 1016) (by decide) ?_
    refine gz_V (zy := mX7_need) (zc := 0) (pc := 20) [.inl 1016] rfl dX9_readSlight_20 lkX9_25 MvX7_need rfl z_0_33 rfl rfl rfl (Or.inl rfl) (fun h => h) (by exact Nat.le_of_ble_eq_true rfl) ?_
    obtain ⟨v6, e5, h⟩ := gz_bd h
    cases x7 : v6.1 with
    | error E => replace h := gz_exe x7 h; cases h; exact gz_useTV x7 (c_X7_need e5) ⟨by simp [gzRI, gzRJ, gzRV], rfl⟩
    | ok w8 =>
      replace h := gz_exo x7 h
      refine gz_useOV x7 (c_X7_need e5) ?_
      refine gz_aload_n (pc := 23) dX9_readSlight_23 rfl ?_
      refine gr_X9_9 (pc := 24) dX9_readSlight_24 z_0_37 rfl ?_
      refine gz_bipush (pc := 27) dX9_readSlight_27 (v := 9) (by decide) ?_
      refine gz_V (zy := mX7_number) (zc := 0) (pc := 29) [.inl 9] rfl dX9_readSlight_29 lkX9_54 MvX7_number rfl z_0_33 rfl rfl rfl (Or.inl rfl) (fun h => h) (by exact Nat.le_of_ble_eq_true rfl) ?_
      obtain ⟨v10, e9, h⟩ := gz_bd h
      cases x11 : v10.1 with
      | error E => replace h := gz_exe x11 h; cases h; exact gz_useTI x11 (c_X7_number e9) ⟨by simp [gzRI, gzRJ, gzRV], rfl⟩
      | ok w12 =>
        replace h := gz_exo x11 h
        refine gz_useOI x11 (c_X7_number e9) ?_
        refine gz_istore_n (pc := 32) dX9_readSlight_32 (by decide) rfl (loc2 := [some (.inr (.inr (0, 37))), some (.inr (.inr (t1, 0))), some (.inl w4), some (.inl w12), none]) rfl ?_
        refine gz_aload_n (pc := 33) dX9_readSlight_33 rfl ?_
        refine gr_X9_9 (pc := 34) dX9_readSlight_34 z_0_37 rfl ?_
        refine gz_sipush (pc := 37) dX9_readSlight_37 (v := 1017) (by decide) ?_
        refine gz_V (zy := mX7_need) (zc := 0) (pc := 40) [.inl 1017] rfl dX9_readSlight_40 lkX9_25 MvX7_need rfl z_0_33 rfl rfl rfl (Or.inl rfl) (fun h => h) (by exact Nat.le_of_ble_eq_true rfl) ?_
        obtain ⟨v14, e13, h⟩ := gz_bd h
        cases x15 : v14.1 with
        | error E => replace h := gz_exe x15 h; cases h; exact gz_useTV x15 (c_X7_need e13) ⟨by simp [gzRI, gzRJ, gzRV], rfl⟩
        | ok w16 =>
          replace h := gz_exo x15 h
          refine gz_useOV x15 (c_X7_need e13) ?_
          refine gz_aload_n (pc := 43) dX9_readSlight_43 rfl ?_
          refine gr_X9_9 (pc := 44) dX9_readSlight_44 z_0_37 rfl ?_
          refine gz_bipush (pc := 47) dX9_readSlight_47 (v := 9) (by decide) ?_
          refine gz_V (zy := mX7_number) (zc := 0) (pc := 49) [.inl 9] rfl dX9_readSlight_49 lkX9_54 MvX7_number rfl z_0_33 rfl rfl rfl (Or.inl rfl) (fun h => h) (by exact Nat.le_of_ble_eq_true rfl) ?_
          obtain ⟨v18, e17, h⟩ := gz_bd h
          cases x19 : v18.1 with
          | error E => replace h := gz_exe x19 h; cases h; exact gz_useTI x19 (c_X7_number e17) ⟨by simp [gzRI, gzRJ, gzRV], rfl⟩
          | ok w20 =>
            replace h := gz_exo x19 h
            refine gz_useOI x19 (c_X7_number e17) ?_
            refine gz_istore (pc := 52) dX9_readSlight_52 (by decide) rfl (loc2 := [some (.inr (.inr (0, 37))), some (.inr (.inr (t1, 0))), some (.inl w4), some (.inl w12), some (.inl w20)]) rfl ?_
            refine gz_aload_n (pc := 54) dX9_readSlight_54 rfl ?_
            refine gr_X9_89 (pc := 55) dX9_readSlight_55 z_t1_0 rfl ?_
            refine gz_iload_n (pc := 58) dX9_readSlight_58 rfl ?_
            refine gz_iload_n (pc := 59) dX9_readSlight_59 rfl ?_
            refine gz_SN (zy := mX11_write) (zc := 0) (pc := 60) [.inr (.inr (t1, 17)), .inl w4, .inl w12] rfl dX9_readSlight_60 lnX9_58 MsX11_write rfl (Or.inl rfl) (fun h => h) (by exact Nat.le_of_ble_eq_true rfl) ?_
            obtain ⟨v22, e21, h⟩ := gz_bd h
            refine gz_useV (c_X11_write z_t1_17 rfl e21) ?_
            refine gz_aload_n (pc := 63) dX9_readSlight_63 rfl ?_
            refine gr_X9_92 (pc := 64) dX9_readSlight_64 z_t1_0 rfl ?_
            refine gz_iload_n (pc := 67) dX9_readSlight_67 rfl ?_
            refine gz_iload (pc := 68) dX9_readSlight_68 rfl ?_
            refine gz_SN (zy := mX11_write) (zc := 0) (pc := 70) [.inr (.inr (t1, 18)), .inl w4, .inl w20] rfl dX9_readSlight_70 lnX9_58 MsX11_write rfl (Or.inl rfl) (fun h => h) (by exact Nat.le_of_ble_eq_true rfl) ?_
            obtain ⟨v24, e23, h⟩ := gz_bd h
            refine gz_useV (c_X11_write z_t1_18 rfl e23) ?_
            cases h; exact gz_vret (pc := 73) dX9_readSlight_73 rfl ⟨rfl, rfl⟩
/-! X9_readLine: readLine -/
def f_X9_readLine (t1 : Nat) (I : gzIT) (J : gzJT) : Option ((Except String Unit) × gzIT × gzJT) := Option.bind (f_X7_is I 1030) (fun v2 => if v2 = 0 then (Option.bind (f_X7_take 1033 I J) (fun v4 => if v4.1 = 0 then (Option.bind (f_X7_is v4.2.1 1012) (fun v6 => if v6 = 0 then (Option.bind (f_X7_take 1018 v4.2.1 v4.2.2) (fun v8 => if v8.1 = 0 then (Option.bind (f_X7_take 1035 v8.2.1 v8.2.2) (fun v10 => if v10.1 = 0 then (Option.bind (f_X7_take 1036 v10.2.1 v10.2.2) (fun v12 => if v12.1 = 0 then (Option.bind (f_X7_take 1037 v12.2.1 v12.2.2) (fun v14 => if v14.1 = 0 then (Option.bind (f_X7_need 1022 v14.2.1 v14.2.2) (fun v16 => gzEx v16.1 (fun E => some (.error E, v16.2.1, v16.2.2)) (fun w18 => some (.ok (), gz_ui v16.2.1 t1 0 9 1, v16.2.2)))) else (Option.bind (f_X7_number 999 v14.2.1 v14.2.2) (fun v20 => gzEx v20.1 (fun E => some (.error E, v20.2.1, v20.2.2)) (fun w22 => some (.ok (), gz_ui v20.2.1 t1 0 7 w22, v20.2.2)))))) else (Option.bind (f_X7_number 100 v12.2.1 v12.2.2) (fun v24 => gzEx v24.1 (fun E => some (.error E, v24.2.1, v24.2.2)) (fun w26 => some (.ok (), gz_ui v24.2.1 t1 0 10 w26, v24.2.2)))))) else (Option.bind (f_X7_number 999 v10.2.1 v10.2.2) (fun v28 => gzEx v28.1 (fun E => some (.error E, v28.2.1, v28.2.2)) (fun w30 => some (.ok (), gz_ui v28.2.1 t1 0 8 w30, v28.2.2)))))) else (Option.bind (f_X7_among 1008 4 v8.2.1 v8.2.2) (fun v32 => gzEx v32.1 (fun E => some (.error E, v32.2.1, v32.2.2)) (fun w34 => Option.bind (f_X7_number 20 v32.2.1 v32.2.2) (fun v36 => gzEx v36.1 (fun E => some (.error E, v36.2.1, v36.2.2)) (fun w38 => Option.bind (f_X11_write t1 19 4 w34 w38 v36.2.1 v36.2.2) (fun v40 => some (.ok (), v40.2.1, v40.2.2))))))))) else (Option.bind (f_X9_readGrudge t1 v4.2.1 v4.2.2) (fun v42 => gzEx v42.1 (fun E => some (.error E, v42.2.1, v42.2.2)) (fun w44 => some (.ok (), v42.2.1, v42.2.2)))))) else (Option.bind (f_X9_readSlight t1 v4.2.1 v4.2.2) (fun v46 => gzEx v46.1 (fun E => some (.error E, v46.2.1, v46.2.2)) (fun w48 => some (.ok (), v46.2.1, v46.2.2)))))) else (Option.bind (f_X9_readFamily t1 I J) (fun v50 => gzEx v50.1 (fun E => some (.error E, v50.2.1, v50.2.2)) (fun w52 => some (.ok (), v50.2.1, v50.2.2)))))
set_option maxRecDepth 20000 in
theorem c_X9_readLine {g : gzG} {d : Nat} {t1 : Nat} (ht1 : t1 < 15) {I : gzIT} {J : gzJT} {r : (Except String Unit) × gzIT × gzJT} (h : f_X9_readLine t1 I J = some r) : gzC g 0 (d + 4) mX9_readLine [.inr (.inr (0, 37)), .inr (.inr (t1, 0))] (gzN, gzR0, I, J) (gzE (gzRV r.1) (gzN, gzR0, r.2.1, r.2.2)) := by
  unfold f_X9_readLine at h
  refine gzC_of (by decide +kernel) (Nat.le_of_ble_eq_true rfl) (loc := [some (.inr (.inr (0, 37))), some (.inr (.inr (t1, 0))), none]) rfl ?_
  have z_0_37 : gzOk 0 37 gzN := gzOk_of (by decide)
  have z_0_33 : gzOk 0 33 gzN := gzOk_of (by decide)
  have z_t1_0 : gzOk t1 0 gzN := gzOk_of ht1
  have z_t1_19 : gzOk t1 19 gzN := gzOk_of ht1
  refine gz_aload_n (pc := 0) dX9_readLine_0 rfl ?_
  refine gr_X9_9 (pc := 1) dX9_readLine_1 z_0_37 rfl ?_
  refine gz_sipush (pc := 4) dX9_readLine_4 (v := 1030) (by decide) ?_
  refine gz_V (zy := mX7_is) (zc := 0) (pc := 7) [.inl 1030] rfl dX9_readLine_7 lkX9_15 MvX7_is rfl z_0_33 rfl rfl rfl (Or.inl rfl) (fun h => h) (by exact Nat.le_of_ble_eq_true rfl) ?_
  obtain ⟨v2, e1, h⟩ := gz_bd h
  refine gz_useI (c_X7_is e1) ?_
  refine gz_if_eq (pc := 10) (tgt := 21) dX9_readLine_10 (by decide) (fun c => ?_) (fun c => ?_)
  · replace h := gz_ifp c h
    refine gz_aload_n (pc := 21) dX9_readLine_21 rfl ?_
    refine gr_X9_9 (pc := 22) dX9_readLine_22 z_0_37 rfl ?_
    refine gz_sipush (pc := 25) dX9_readLine_25 (v := 1033) (by decide) ?_
    refine gz_V (zy := mX7_take) (zc := 0) (pc := 28) [.inl 1033] rfl dX9_readLine_28 lkX9_35 MvX7_take rfl z_0_33 rfl rfl rfl (Or.inl rfl) (fun h => h) (by exact Nat.le_of_ble_eq_true rfl) ?_
    obtain ⟨v4, e3, h⟩ := gz_bd h
    refine gz_useI (c_X7_take e3) ?_
    refine gz_if_eq (pc := 31) (tgt := 42) dX9_readLine_31 (by decide) (fun c => ?_) (fun c => ?_)
    · replace h := gz_ifp c h
      refine gz_aload_n (pc := 42) dX9_readLine_42 rfl ?_
      refine gr_X9_9 (pc := 43) dX9_readLine_43 z_0_37 rfl ?_
      refine gz_sipush (pc := 46) dX9_readLine_46 (v := 1012) (by decide) ?_
      refine gz_V (zy := mX7_is) (zc := 0) (pc := 49) [.inl 1012] rfl dX9_readLine_49 lkX9_15 MvX7_is rfl z_0_33 rfl rfl rfl (Or.inl rfl) (fun h => h) (by exact Nat.le_of_ble_eq_true rfl) ?_
      obtain ⟨v6, e5, h⟩ := gz_bd h
      refine gz_useI (c_X7_is e5) ?_
      refine gz_if_eq (pc := 52) (tgt := 63) dX9_readLine_52 (by decide) (fun c => ?_) (fun c => ?_)
      · replace h := gz_ifp c h
        refine gz_aload_n (pc := 63) dX9_readLine_63 rfl ?_
        refine gr_X9_9 (pc := 64) dX9_readLine_64 z_0_37 rfl ?_
        refine gz_sipush (pc := 67) dX9_readLine_67 (v := 1018) (by decide) ?_
        refine gz_V (zy := mX7_take) (zc := 0) (pc := 70) [.inl 1018] rfl dX9_readLine_70 lkX9_35 MvX7_take rfl z_0_33 rfl rfl rfl (Or.inl rfl) (fun h => h) (by exact Nat.le_of_ble_eq_true rfl) ?_
        obtain ⟨v8, e7, h⟩ := gz_bd h
        refine gz_useI (c_X7_take e7) ?_
        refine gz_if_eq (pc := 73) (tgt := 108) dX9_readLine_73 (by decide) (fun c => ?_) (fun c => ?_)
        · replace h := gz_ifp c h
          refine gz_aload_n (pc := 108) dX9_readLine_108 rfl ?_
          refine gr_X9_9 (pc := 109) dX9_readLine_109 z_0_37 rfl ?_
          refine gz_sipush (pc := 112) dX9_readLine_112 (v := 1035) (by decide) ?_
          refine gz_V (zy := mX7_take) (zc := 0) (pc := 115) [.inl 1035] rfl dX9_readLine_115 lkX9_35 MvX7_take rfl z_0_33 rfl rfl rfl (Or.inl rfl) (fun h => h) (by exact Nat.le_of_ble_eq_true rfl) ?_
          obtain ⟨v10, e9, h⟩ := gz_bd h
          refine gz_useI (c_X7_take e9) ?_
          refine gz_if_eq (pc := 118) (tgt := 138) dX9_readLine_118 (by decide) (fun c => ?_) (fun c => ?_)
          · replace h := gz_ifp c h
            refine gz_aload_n (pc := 138) dX9_readLine_138 rfl ?_
            refine gr_X9_9 (pc := 139) dX9_readLine_139 z_0_37 rfl ?_
            refine gz_sipush (pc := 142) dX9_readLine_142 (v := 1036) (by decide) ?_
            refine gz_V (zy := mX7_take) (zc := 0) (pc := 145) [.inl 1036] rfl dX9_readLine_145 lkX9_35 MvX7_take rfl z_0_33 rfl rfl rfl (Or.inl rfl) (fun h => h) (by exact Nat.le_of_ble_eq_true rfl) ?_
            obtain ⟨v12, e11, h⟩ := gz_bd h
            refine gz_useI (c_X7_take e11) ?_
            refine gz_if_eq (pc := 148) (tgt := 167) dX9_readLine_148 (by decide) (fun c => ?_) (fun c => ?_)
            · replace h := gz_ifp c h
              refine gz_aload_n (pc := 167) dX9_readLine_167 rfl ?_
              refine gr_X9_9 (pc := 168) dX9_readLine_168 z_0_37 rfl ?_
              refine gz_sipush (pc := 171) dX9_readLine_171 (v := 1037) (by decide) ?_
              refine gz_V (zy := mX7_take) (zc := 0) (pc := 174) [.inl 1037] rfl dX9_readLine_174 lkX9_35 MvX7_take rfl z_0_33 rfl rfl rfl (Or.inl rfl) (fun h => h) (by exact Nat.le_of_ble_eq_true rfl) ?_
              obtain ⟨v14, e13, h⟩ := gz_bd h
              refine gz_useI (c_X7_take e13) ?_
              refine gz_if_eq (pc := 177) (tgt := 197) dX9_readLine_177 (by decide) (fun c => ?_) (fun c => ?_)
              · replace h := gz_ifp c h
                refine gz_aload_n (pc := 197) dX9_readLine_197 rfl ?_
                refine gr_X9_9 (pc := 198) dX9_readLine_198 z_0_37 rfl ?_
                refine gz_sipush (pc := 201) dX9_readLine_201 (v := 1022) (by decide) ?_
                refine gz_V (zy := mX7_need) (zc := 0) (pc := 204) [.inl 1022] rfl dX9_readLine_204 lkX9_25 MvX7_need rfl z_0_33 rfl rfl rfl (Or.inl rfl) (fun h => h) (by exact Nat.le_of_ble_eq_true rfl) ?_
                obtain ⟨v16, e15, h⟩ := gz_bd h
                cases x17 : v16.1 with
                | error E => replace h := gz_exe x17 h; cases h; exact gz_useTV x17 (c_X7_need e15) ⟨by simp [gzRI, gzRJ, gzRV], rfl⟩
                | ok w18 =>
                  replace h := gz_exo x17 h
                  refine gz_useOV x17 (c_X7_need e15) ?_
                  refine gz_aload_n (pc := 207) dX9_readLine_207 rfl ?_
                  refine gz_iconst (pc := 208) dX9_readLine_208 (v := 1) (by decide) ?_
                  refine gp_X9_72 (pc := 209) dX9_readLine_209 z_t1_0 (by decide) rfl ?_
                  cases h; exact gz_vret (pc := 212) dX9_readLine_212 rfl ⟨rfl, rfl⟩
              · replace h := gz_ifn c h
                refine gz_aload_n (pc := 180) dX9_readLine_180 rfl ?_
                refine gz_aload_n (pc := 181) dX9_readLine_181 rfl ?_
                refine gr_X9_9 (pc := 182) dX9_readLine_182 z_0_37 rfl ?_
                refine gz_sipush (pc := 185) dX9_readLine_185 (v := 999) (by decide) ?_
                refine gz_V (zy := mX7_number) (zc := 0) (pc := 188) [.inl 999] rfl dX9_readLine_188 lkX9_54 MvX7_number rfl z_0_33 rfl rfl rfl (Or.inl rfl) (fun h => h) (by exact Nat.le_of_ble_eq_true rfl) ?_
                obtain ⟨v20, e19, h⟩ := gz_bd h
                cases x21 : v20.1 with
                | error E => replace h := gz_exe x21 h; cases h; exact gz_useTI x21 (c_X7_number e19) ⟨by simp [gzRI, gzRJ, gzRV], rfl⟩
                | ok w22 =>
                  replace h := gz_exo x21 h
                  refine gz_useOI x21 (c_X7_number e19) ?_
                  refine gp_X9_69 (pc := 191) dX9_readLine_191 z_t1_0 rfl ?_
                  refine gz_goto (pc := 194) (tgt := 212) dX9_readLine_194 (by decide) ?_
                  cases h; exact gz_vret (pc := 212) dX9_readLine_212 rfl ⟨rfl, rfl⟩
            · replace h := gz_ifn c h
              refine gz_aload_n (pc := 151) dX9_readLine_151 rfl ?_
              refine gz_aload_n (pc := 152) dX9_readLine_152 rfl ?_
              refine gr_X9_9 (pc := 153) dX9_readLine_153 z_0_37 rfl ?_
              refine gz_bipush (pc := 156) dX9_readLine_156 (v := 100) (by decide) ?_
              refine gz_V (zy := mX7_number) (zc := 0) (pc := 158) [.inl 100] rfl dX9_readLine_158 lkX9_54 MvX7_number rfl z_0_33 rfl rfl rfl (Or.inl rfl) (fun h => h) (by exact Nat.le_of_ble_eq_true rfl) ?_
              obtain ⟨v24, e23, h⟩ := gz_bd h
              cases x25 : v24.1 with
              | error E => replace h := gz_exe x25 h; cases h; exact gz_useTI x25 (c_X7_number e23) ⟨by simp [gzRI, gzRJ, gzRV], rfl⟩
              | ok w26 =>
                replace h := gz_exo x25 h
                refine gz_useOI x25 (c_X7_number e23) ?_
                refine gp_X9_66 (pc := 161) dX9_readLine_161 z_t1_0 rfl ?_
                refine gz_goto (pc := 164) (tgt := 212) dX9_readLine_164 (by decide) ?_
                cases h; exact gz_vret (pc := 212) dX9_readLine_212 rfl ⟨rfl, rfl⟩
          · replace h := gz_ifn c h
            refine gz_aload_n (pc := 121) dX9_readLine_121 rfl ?_
            refine gz_aload_n (pc := 122) dX9_readLine_122 rfl ?_
            refine gr_X9_9 (pc := 123) dX9_readLine_123 z_0_37 rfl ?_
            refine gz_sipush (pc := 126) dX9_readLine_126 (v := 999) (by decide) ?_
            refine gz_V (zy := mX7_number) (zc := 0) (pc := 129) [.inl 999] rfl dX9_readLine_129 lkX9_54 MvX7_number rfl z_0_33 rfl rfl rfl (Or.inl rfl) (fun h => h) (by exact Nat.le_of_ble_eq_true rfl) ?_
            obtain ⟨v28, e27, h⟩ := gz_bd h
            cases x29 : v28.1 with
            | error E => replace h := gz_exe x29 h; cases h; exact gz_useTI x29 (c_X7_number e27) ⟨by simp [gzRI, gzRJ, gzRV], rfl⟩
            | ok w30 =>
              replace h := gz_exo x29 h
              refine gz_useOI x29 (c_X7_number e27) ?_
              refine gp_X9_62 (pc := 132) dX9_readLine_132 z_t1_0 rfl ?_
              refine gz_goto (pc := 135) (tgt := 212) dX9_readLine_135 (by decide) ?_
              cases h; exact gz_vret (pc := 212) dX9_readLine_212 rfl ⟨rfl, rfl⟩
        · replace h := gz_ifn c h
          refine gz_aload_n (pc := 76) dX9_readLine_76 rfl ?_
          refine gr_X9_9 (pc := 77) dX9_readLine_77 z_0_37 rfl ?_
          refine gz_sipush (pc := 80) dX9_readLine_80 (v := 1008) (by decide) ?_
          refine gz_iconst (pc := 83) dX9_readLine_83 (v := 4) (by decide) ?_
          refine gz_V (zy := mX7_among) (zc := 0) (pc := 84) [.inl 1008, .inl 4] rfl dX9_readLine_84 lkX9_44 MvX7_among rfl z_0_33 rfl rfl rfl (Or.inl rfl) (fun h => h) (by exact Nat.le_of_ble_eq_true rfl) ?_
          obtain ⟨v32, e31, h⟩ := gz_bd h
          cases x33 : v32.1 with
          | error E => replace h := gz_exe x33 h; cases h; exact gz_useTI x33 (c_X7_among e31) ⟨by simp [gzRI, gzRJ, gzRV], rfl⟩
          | ok w34 =>
            replace h := gz_exo x33 h
            refine gz_useOI x33 (c_X7_among e31) ?_
            refine gz_istore_n (pc := 87) dX9_readLine_87 (by decide) rfl (loc2 := [some (.inr (.inr (0, 37))), some (.inr (.inr (t1, 0))), some (.inl w34)]) rfl ?_
            refine gz_aload_n (pc := 88) dX9_readLine_88 rfl ?_
            refine gr_X9_48 (pc := 89) dX9_readLine_89 z_t1_0 rfl ?_
            refine gz_iload_n (pc := 92) dX9_readLine_92 rfl ?_
            refine gz_aload_n (pc := 93) dX9_readLine_93 rfl ?_
            refine gr_X9_9 (pc := 94) dX9_readLine_94 z_0_37 rfl ?_
            refine gz_bipush (pc := 97) dX9_readLine_97 (v := 20) (by decide) ?_
            refine gz_V (zy := mX7_number) (zc := 0) (pc := 99) [.inl 20] rfl dX9_readLine_99 lkX9_54 MvX7_number rfl z_0_33 rfl rfl rfl (Or.inl rfl) (fun h => h) (by exact Nat.le_of_ble_eq_true rfl) ?_
            obtain ⟨v36, e35, h⟩ := gz_bd h
            cases x37 : v36.1 with
            | error E => replace h := gz_exe x37 h; cases h; exact gz_useTI x37 (c_X7_number e35) ⟨by simp [gzRI, gzRJ, gzRV], rfl⟩
            | ok w38 =>
              replace h := gz_exo x37 h
              refine gz_useOI x37 (c_X7_number e35) ?_
              refine gz_SN (zy := mX11_write) (zc := 0) (pc := 102) [.inr (.inr (t1, 19)), .inl w34, .inl w38] rfl dX9_readLine_102 lnX9_58 MsX11_write rfl (Or.inl rfl) (fun h => h) (by exact Nat.le_of_ble_eq_true rfl) ?_
              obtain ⟨v40, e39, h⟩ := gz_bd h
              refine gz_useV (c_X11_write z_t1_19 rfl e39) ?_
              refine gz_goto (pc := 105) (tgt := 212) dX9_readLine_105 (by decide) ?_
              cases h; exact gz_vret (pc := 212) dX9_readLine_212 rfl ⟨rfl, rfl⟩
      · replace h := gz_ifn c h
        refine gz_aload_n (pc := 55) dX9_readLine_55 rfl ?_
        refine gz_aload_n (pc := 56) dX9_readLine_56 rfl ?_
        refine gz_V (zy := mX9_readGrudge) (zc := 0) (pc := 57) [.inr (.inr (t1, 0))] rfl dX9_readLine_57 lkX9_41 MvX9_readGrudge rfl z_0_37 rfl rfl rfl (Or.inl rfl) (fun h => h) (by exact Nat.le_of_ble_eq_true rfl) ?_
        obtain ⟨v42, e41, h⟩ := gz_bd h
        cases x43 : v42.1 with
        | error E => replace h := gz_exe x43 h; cases h; exact gz_useTV x43 (c_X9_readGrudge ht1 e41) ⟨by simp [gzRI, gzRJ, gzRV], rfl⟩
        | ok w44 =>
          replace h := gz_exo x43 h
          refine gz_useOV x43 (c_X9_readGrudge ht1 e41) ?_
          refine gz_goto (pc := 60) (tgt := 212) dX9_readLine_60 (by decide) ?_
          cases h; exact gz_vret (pc := 212) dX9_readLine_212 rfl ⟨rfl, rfl⟩
    · replace h := gz_ifn c h
      refine gz_aload_n (pc := 34) dX9_readLine_34 rfl ?_
      refine gz_aload_n (pc := 35) dX9_readLine_35 rfl ?_
      refine gz_V (zy := mX9_readSlight) (zc := 0) (pc := 36) [.inr (.inr (t1, 0))] rfl dX9_readLine_36 lkX9_38 MvX9_readSlight rfl z_0_37 rfl rfl rfl (Or.inl rfl) (fun h => h) (by exact Nat.le_of_ble_eq_true rfl) ?_
      obtain ⟨v46, e45, h⟩ := gz_bd h
      cases x47 : v46.1 with
      | error E => replace h := gz_exe x47 h; cases h; exact gz_useTV x47 (c_X9_readSlight ht1 e45) ⟨by simp [gzRI, gzRJ, gzRV], rfl⟩
      | ok w48 =>
        replace h := gz_exo x47 h
        refine gz_useOV x47 (c_X9_readSlight ht1 e45) ?_
        refine gz_goto (pc := 39) (tgt := 212) dX9_readLine_39 (by decide) ?_
        cases h; exact gz_vret (pc := 212) dX9_readLine_212 rfl ⟨rfl, rfl⟩
  · replace h := gz_ifn c h
    refine gz_aload_n (pc := 13) dX9_readLine_13 rfl ?_
    refine gz_aload_n (pc := 14) dX9_readLine_14 rfl ?_
    refine gz_V (zy := mX9_readFamily) (zc := 0) (pc := 15) [.inr (.inr (t1, 0))] rfl dX9_readLine_15 lkX9_32 MvX9_readFamily rfl z_0_37 rfl rfl rfl (Or.inl rfl) (fun h => h) (by exact Nat.le_of_ble_eq_true rfl) ?_
    obtain ⟨v50, e49, h⟩ := gz_bd h
    cases x51 : v50.1 with
    | error E => replace h := gz_exe x51 h; cases h; exact gz_useTV x51 (c_X9_readFamily ht1 e49) ⟨by simp [gzRI, gzRJ, gzRV], rfl⟩
    | ok w52 =>
      replace h := gz_exo x51 h
      refine gz_useOV x51 (c_X9_readFamily ht1 e49) ?_
      refine gz_goto (pc := 18) (tgt := 212) dX9_readLine_18 (by decide) ?_
      cases h; exact gz_vret (pc := 212) dX9_readLine_212 rfl ⟨rfl, rfl⟩
/-! X9_read: read -/
def gP_X9_read_15 (g : gzG) (t1 : Nat) (d : Nat) (r : (Except String Unit) × gzIT × gzJT) (x2 : Int32) (I : gzIT) (J : gzJT) : Prop := gzX g 0 (d + 5) mX9_read 15 [some (.inr (.inr (0, 37))), some (.inr (.inr (t1, 0))), some (.inl x2)] [] (gzN, gzR0, I, J) 0 (gzE (gzRV r.1) (gzN, gzR0, r.2.1, r.2.2))
def f_X9_read_15 (φ : Nat) (t1 : Nat) : Nat → Int32 → gzIT → gzJT → Option ((Except String Unit) × gzIT × gzJT)
  | 0, _, _, _ => none
  | k + 1, x2, I, J => if 14 ≤ x2 then (Option.bind (f_X7_wrong I J) (fun v4 => gzEx v4.1 (fun E => some (.error E, v4.2.1, v4.2.2)) (fun w6 => some (.ok (), v4.2.1, v4.2.2)))) else (Option.bind (f_X9_readLine t1 I J) (fun v8 => gzEx v8.1 (fun E => some (.error E, v8.2.1, v8.2.2)) (fun w10 => Option.bind (f_X7_is v8.2.1 (-3)) (fun v12 => if v12 = 0 then (Option.bind (f_X7_need 2059 v8.2.1 v8.2.2) (fun v14 => gzEx v14.1 (fun E => some (.error E, v14.2.1, v14.2.2)) (fun w16 => f_X9_read_15 φ t1 k (x2 + 1) v14.2.1 v14.2.2))) else (some (.ok (), v8.2.1, v8.2.2))))))
set_option maxRecDepth 20000 in
theorem p_X9_read_15 {g : gzG} {d φ : Nat} {t1 : Nat} (ht1 : t1 < 15) {r : (Except String Unit) × gzIT × gzJT} : ∀ (k : Nat) (x2 : Int32) (I : gzIT) (J : gzJT), f_X9_read_15 φ t1 k x2 I J = some r → gP_X9_read_15 g t1 d r x2 I J := by
  intro k; induction k with
  | zero => intro x2 I J h; cases h
  | succ k ih =>
    intro x2 I J h
    unfold f_X9_read_15 at h
    unfold gP_X9_read_15
    have z_0_37 : gzOk 0 37 gzN := gzOk_of (by decide)
    have z_0_33 : gzOk 0 33 gzN := gzOk_of (by decide)
    refine gz_iload_n (pc := 15) dX9_read_15 rfl ?_
    refine gz_bipush (pc := 16) dX9_read_16 (v := 14) (by decide) ?_
    refine gz_ic_ge (pc := 18) (tgt := 55) dX9_read_18 (by decide) (fun c => ?_) (fun c => ?_)
    · replace h := gz_ifp c h
      refine gz_aload_n (pc := 55) dX9_read_55 rfl ?_
      refine gr_X9_9 (pc := 56) dX9_read_56 z_0_37 rfl ?_
      refine gz_V (zy := mX7_wrong) (zc := 0) (pc := 59) [] rfl dX9_read_59 lkX9_29 MvX7_wrong rfl z_0_33 rfl rfl rfl (Or.inl rfl) (fun h => h) (by exact Nat.le_of_ble_eq_true rfl) ?_
      obtain ⟨v4, e3, h⟩ := gz_bd h
      cases x5 : v4.1 with
      | error E => replace h := gz_exe x5 h; cases h; exact gz_useTV x5 (c_X7_wrong e3) ⟨by simp [gzRI, gzRJ, gzRV], rfl⟩
      | ok w6 =>
        replace h := gz_exo x5 h
        refine gz_useOV x5 (c_X7_wrong e3) ?_
        cases h; exact gz_vret (pc := 62) dX9_read_62 rfl ⟨rfl, rfl⟩
    · replace h := gz_ifn c h
      refine gz_aload_n (pc := 21) dX9_read_21 rfl ?_
      refine gz_aload_n (pc := 22) dX9_read_22 rfl ?_
      refine gz_V (zy := mX9_readLine) (zc := 0) (pc := 23) [.inr (.inr (t1, 0))] rfl dX9_read_23 lkX9_21 MvX9_readLine rfl z_0_37 rfl rfl rfl (Or.inl rfl) (fun h => h) (by exact Nat.le_of_ble_eq_true rfl) ?_
      obtain ⟨v8, e7, h⟩ := gz_bd h
      cases x9 : v8.1 with
      | error E => replace h := gz_exe x9 h; cases h; exact gz_useTV x9 (c_X9_readLine ht1 e7) ⟨by simp [gzRI, gzRJ, gzRV], rfl⟩
      | ok w10 =>
        replace h := gz_exo x9 h
        refine gz_useOV x9 (c_X9_readLine ht1 e7) ?_
        refine gz_aload_n (pc := 26) dX9_read_26 rfl ?_
        refine gr_X9_9 (pc := 27) dX9_read_27 z_0_37 rfl ?_
        refine gz_bipush (pc := 30) dX9_read_30 (v := (-3)) (by decide) ?_
        refine gz_V (zy := mX7_is) (zc := 0) (pc := 32) [.inl (-3)] rfl dX9_read_32 lkX9_15 MvX7_is rfl z_0_33 rfl rfl rfl (Or.inl rfl) (fun h => h) (by exact Nat.le_of_ble_eq_true rfl) ?_
        obtain ⟨v12, e11, h⟩ := gz_bd h
        refine gz_useI (c_X7_is e11) ?_
        refine gz_if_eq (pc := 35) (tgt := 39) dX9_read_35 (by decide) (fun c => ?_) (fun c => ?_)
        · replace h := gz_ifp c h
          refine gz_aload_n (pc := 39) dX9_read_39 rfl ?_
          refine gr_X9_9 (pc := 40) dX9_read_40 z_0_37 rfl ?_
          refine gz_sipush (pc := 43) dX9_read_43 (v := 2059) (by decide) ?_
          refine gz_V (zy := mX7_need) (zc := 0) (pc := 46) [.inl 2059] rfl dX9_read_46 lkX9_25 MvX7_need rfl z_0_33 rfl rfl rfl (Or.inl rfl) (fun h => h) (by exact Nat.le_of_ble_eq_true rfl) ?_
          obtain ⟨v14, e13, h⟩ := gz_bd h
          cases x15 : v14.1 with
          | error E => replace h := gz_exe x15 h; cases h; exact gz_useTV x15 (c_X7_need e13) ⟨by simp [gzRI, gzRJ, gzRV], rfl⟩
          | ok w16 =>
            replace h := gz_exo x15 h
            refine gz_useOV x15 (c_X7_need e13) ?_
            refine gz_iinc (pc := 49) dX9_read_49 (x := x2) (v := x2 + 1) rfl (by rw [show Int32.ofInt 1 = 1 by decide]) (by decide) rfl (loc2 := [some (.inr (.inr (0, 37))), some (.inr (.inr (t1, 0))), some (.inl (x2 + 1))]) rfl ?_
            refine gz_goto (pc := 52) (tgt := 15) dX9_read_52 (by decide) ?_
            exact ih (x2 + 1) v14.2.1 v14.2.2 h
        · replace h := gz_ifn c h
          cases h; exact gz_vret (pc := 38) dX9_read_38 rfl ⟨rfl, rfl⟩
def f_X9_read (φ : Nat) (t1 : Nat) (I : gzIT) (J : gzJT) : Option ((Except String Unit) × gzIT × gzJT) := Option.bind (f_X7_is I (-3)) (fun v2 => if v2 = 0 then (f_X9_read_15 φ t1 φ 0 I J) else (some (.ok (), I, J)))
set_option maxRecDepth 20000 in
theorem c_X9_read {g : gzG} {d φ : Nat} {t1 : Nat} (ht1 : t1 < 15) {I : gzIT} {J : gzJT} {r : (Except String Unit) × gzIT × gzJT} (h : f_X9_read φ t1 I J = some r) : gzC g 0 (d + 5) mX9_read [.inr (.inr (0, 37)), .inr (.inr (t1, 0))] (gzN, gzR0, I, J) (gzE (gzRV r.1) (gzN, gzR0, r.2.1, r.2.2)) := by
  unfold f_X9_read at h
  refine gzC_of (by decide +kernel) (Nat.le_of_ble_eq_true rfl) (loc := [some (.inr (.inr (0, 37))), some (.inr (.inr (t1, 0))), none]) rfl ?_
  have z_0_37 : gzOk 0 37 gzN := gzOk_of (by decide)
  have z_0_33 : gzOk 0 33 gzN := gzOk_of (by decide)
  refine gz_aload_n (pc := 0) dX9_read_0 rfl ?_
  refine gr_X9_9 (pc := 1) dX9_read_1 z_0_37 rfl ?_
  refine gz_bipush (pc := 4) dX9_read_4 (v := (-3)) (by decide) ?_
  refine gz_V (zy := mX7_is) (zc := 0) (pc := 6) [.inl (-3)] rfl dX9_read_6 lkX9_15 MvX7_is rfl z_0_33 rfl rfl rfl (Or.inl rfl) (fun h => h) (by exact Nat.le_of_ble_eq_true rfl) ?_
  obtain ⟨v2, e1, h⟩ := gz_bd h
  refine gz_useI (c_X7_is e1) ?_
  refine gz_if_eq (pc := 9) (tgt := 13) dX9_read_9 (by decide) (fun c => ?_) (fun c => ?_)
  · replace h := gz_ifp c h
    refine gz_iconst (pc := 13) dX9_read_13 (v := 0) (by decide) ?_
    refine gz_istore_n (pc := 14) dX9_read_14 (by decide) rfl (loc2 := [some (.inr (.inr (0, 37))), some (.inr (.inr (t1, 0))), some (.inl 0)]) rfl ?_
    exact p_X9_read_15 ht1 φ 0 I J h
  · replace h := gz_ifn c h
    cases h; exact gz_vret (pc := 12) dX9_read_12 rfl ⟨rfl, rfl⟩
/-! X10_spin: spin -/
def gP_X10_spin_41 (g : gzG) (t1 : Nat) (d : Nat) (r : Unit × gzIT × gzJT) (x2 : Int32) (x3 : Int32) (I : gzIT) (J : gzJT) : Prop := gzX g 0 (d + 1) mX10_spin 41 [some (.inr (.inr (0, 41))), some (.inr (.inr (t1, 0))), some (.inl x2), some (.inl x3), none, none] [] (gzN, gzR0, I, J) 0 (gzE (.ok none) (gzN, gzR0, r.2.1, r.2.2))
def gP_X10_spin_13 (g : gzG) (t1 : Nat) (d : Nat) (r : Unit × gzIT × gzJT) (x2 : Int32) (x3 : Int32) (I : gzIT) (J : gzJT) : Prop := gzX g 0 (d + 1) mX10_spin 13 [some (.inr (.inr (0, 41))), some (.inr (.inr (t1, 0))), some (.inl x2), some (.inl x3), none, none] [] (gzN, gzR0, I, J) 0 (gzE (.ok none) (gzN, gzR0, r.2.1, r.2.2))
def f_X10_spin_41 (φ : Nat) (t1 : Nat) : Nat → Int32 → Int32 → gzIT → gzJT → Option (Unit × gzIT × gzJT)
  | 0, _, _, _, _ => none
  | k + 1, x2, x3, I, J => if I t1 7 7 ≤ x3 then (some ((), I, J)) else (Option.bind (f_X1_frozen t1 I x3) (fun v3 => if v3 = 0 then (f_X10_spin_41 φ t1 k x2 (x3 + 1) I J) else (Option.bind (f_X11_has x2 x3) (fun v5 => if ¬ v5 = 0 then (f_X10_spin_41 φ t1 k x2 (x3 + 1) I J) else (gzGd (x3) 10 (Option.bind (f_X11_cell 0 43 6 I (I t1 8 x3.toNatClampNeg)) (fun v8 => Option.bind (f_X11_write 0 43 6 (I t1 8 x3.toNatClampNeg) (v8 ||| ((1 : Int32) <<< ((I t1 9 x3.toNatClampNeg) &&& 31))) I J) (fun v10 => Option.bind (f_X11_cell 0 42 6 v10.2.1 (I t1 8 x3.toNatClampNeg)) (fun v12 => Option.bind (f_X11_write 0 42 6 (I t1 8 x3.toNatClampNeg) (v12 ||| ((1 : Int32) <<< ((I t1 9 x3.toNatClampNeg) &&& 31))) v10.2.1 v10.2.2) (fun v14 => Option.bind (f_X11_cell 0 42 6 v14.2.1 (I t1 9 x3.toNatClampNeg)) (fun v16 => Option.bind (f_X11_write 0 42 6 (I t1 9 x3.toNatClampNeg) (v16 ||| ((1 : Int32) <<< ((I t1 8 x3.toNatClampNeg) &&& 31))) v14.2.1 v14.2.2) (fun v18 => f_X10_spin_41 φ t1 k x2 (x3 + 1) v18.2.1 v18.2.2))))))))))))
set_option maxRecDepth 20000 in
theorem p_X10_spin_41 {g : gzG} {d φ : Nat} {t1 : Nat} (ht1 : t1 < 15) {r : Unit × gzIT × gzJT} : ∀ (k : Nat) (x2 : Int32) (x3 : Int32) (I : gzIT) (J : gzJT), f_X10_spin_41 φ t1 k x2 x3 I J = some r → gP_X10_spin_41 g t1 d r x2 x3 I J := by
  intro k; induction k with
  | zero => intro x2 x3 I J h; cases h
  | succ k ih =>
    intro x2 x3 I J h
    unfold f_X10_spin_41 at h
    unfold gP_X10_spin_41
    have z_t1_0 : gzOk t1 0 gzN := gzOk_of ht1
    have z_t1_7 : gzOk t1 7 gzN := gzOk_of ht1
    have z_t1_8 : gzOk t1 8 gzN := gzOk_of ht1
    have z_t1_9 : gzOk t1 9 gzN := gzOk_of ht1
    have z_0_41 : gzOk 0 41 gzN := gzOk_of (by decide)
    have z_0_43 : gzOk 0 43 gzN := gzOk_of (by decide)
    have z_0_42 : gzOk 0 42 gzN := gzOk_of (by decide)
    refine gz_iload_n (pc := 41) dX10_spin_41 rfl ?_
    refine gz_aload_n (pc := 42) dX10_spin_42 rfl ?_
    refine gr_X10_44 (pc := 43) dX10_spin_43 z_t1_0 rfl ?_
    refine gi_X10_48 (pc := 46) dX10_spin_46 (v := I t1 7 7) z_t1_7 rfl rfl ?_
    refine gz_ic_ge (pc := 49) (tgt := 168) dX10_spin_49 (by decide) (fun c => ?_) (fun c => ?_)
    · replace h := gz_ifp c h
      cases h; exact gz_vret (pc := 168) dX10_spin_168 rfl ⟨rfl, rfl⟩
    · replace h := gz_ifn c h
      refine gz_aload_n (pc := 52) dX10_spin_52 rfl ?_
      refine gr_X10_44 (pc := 53) dX10_spin_53 z_t1_0 rfl ?_
      refine gz_iload_n (pc := 56) dX10_spin_56 rfl ?_
      refine gz_V (zy := mX1_frozen) (zc := 0) (pc := 57) [.inl x3] rfl dX10_spin_57 lkX10_51 MvX1_frozen rfl z_t1_7 rfl rfl rfl (Or.inl rfl) (fun h => h) (by exact Nat.le_of_ble_eq_true rfl) ?_
      obtain ⟨v3, e2, h⟩ := gz_bd h
      refine gz_useI (c_X1_frozen ht1 e2) ?_
      refine gz_if_eq (pc := 60) (tgt := 162) dX10_spin_60 (by decide) (fun c => ?_) (fun c => ?_)
      · replace h := gz_ifp c h
        refine gz_iinc (pc := 162) dX10_spin_162 (x := x3) (v := x3 + 1) rfl (by rw [show Int32.ofInt 1 = 1 by decide]) (by decide) rfl (loc2 := [some (.inr (.inr (0, 41))), some (.inr (.inr (t1, 0))), some (.inl x2), some (.inl (x3 + 1)), none, none]) rfl ?_
        refine gz_goto (pc := 165) (tgt := 41) dX10_spin_165 (by decide) ?_
        exact ih x2 (x3 + 1) I J h
      · replace h := gz_ifn c h
        refine gz_iload_n (pc := 63) dX10_spin_63 rfl ?_
        refine gz_iload_n (pc := 64) dX10_spin_64 rfl ?_
        refine gz_SN (zy := mX11_has) (zc := 0) (pc := 65) [.inl x2, .inl x3] rfl dX10_spin_65 lnX10_55 MsX11_has rfl (Or.inl rfl) (fun h => h) (by exact Nat.le_of_ble_eq_true rfl) ?_
        obtain ⟨v5, e4, h⟩ := gz_bd h
        refine gz_useI (c_X11_has e4) ?_
        refine gz_if_ne (pc := 68) (tgt := 162) dX10_spin_68 (by decide) (fun c => ?_) (fun c => ?_)
        · replace h := gz_ifp c h
          refine gz_iinc (pc := 162) dX10_spin_162 (x := x3) (v := x3 + 1) rfl (by rw [show Int32.ofInt 1 = 1 by decide]) (by decide) rfl (loc2 := [some (.inr (.inr (0, 41))), some (.inr (.inr (t1, 0))), some (.inl x2), some (.inl (x3 + 1)), none, none]) rfl ?_
          refine gz_goto (pc := 165) (tgt := 41) dX10_spin_165 (by decide) ?_
          exact ih x2 (x3 + 1) I J h
        · replace h := gz_ifn (fun q => q c) h
          refine gz_aload_n (pc := 71) dX10_spin_71 rfl ?_
          refine gr_X10_44 (pc := 72) dX10_spin_72 z_t1_0 rfl ?_
          refine gr_X10_59 (pc := 75) dX10_spin_75 z_t1_7 rfl ?_
          refine gz_iload_n (pc := 78) dX10_spin_78 rfl ?_
          obtain ⟨b6, h⟩ := gz_gd h
          refine gz_iald2 (pc := 79) dX10_spin_79 (k := x3.toNatClampNeg) (v := I t1 8 x3.toNatClampNeg) z_t1_8 rfl b6 rfl rfl ?_
          refine gz_istore (pc := 80) dX10_spin_80 (by decide) rfl (loc2 := [some (.inr (.inr (0, 41))), some (.inr (.inr (t1, 0))), some (.inl x2), some (.inl x3), some (.inl (I t1 8 x3.toNatClampNeg)), none]) rfl ?_
          refine gz_aload_n (pc := 82) dX10_spin_82 rfl ?_
          refine gr_X10_44 (pc := 83) dX10_spin_83 z_t1_0 rfl ?_
          refine gr_X10_62 (pc := 86) dX10_spin_86 z_t1_7 rfl ?_
          refine gz_iload_n (pc := 89) dX10_spin_89 rfl ?_
          refine gz_iald2 (pc := 90) dX10_spin_90 (k := x3.toNatClampNeg) (v := I t1 9 x3.toNatClampNeg) z_t1_9 rfl b6 rfl rfl ?_
          refine gz_istore (pc := 91) dX10_spin_91 (by decide) rfl (loc2 := [some (.inr (.inr (0, 41))), some (.inr (.inr (t1, 0))), some (.inl x2), some (.inl x3), some (.inl (I t1 8 x3.toNatClampNeg)), some (.inl (I t1 9 x3.toNatClampNeg))]) rfl ?_
          refine gz_aload_n (pc := 93) dX10_spin_93 rfl ?_
          refine gr_X10_15 (pc := 94) dX10_spin_94 z_0_41 rfl ?_
          refine gz_iload (pc := 97) dX10_spin_97 rfl ?_
          refine gz_aload_n (pc := 99) dX10_spin_99 rfl ?_
          refine gr_X10_15 (pc := 100) dX10_spin_100 z_0_41 rfl ?_
          refine gz_iload (pc := 103) dX10_spin_103 rfl ?_
          refine gz_SN (zy := mX11_cell) (zc := 0) (pc := 105) [.inr (.inr (0, 43)), .inl (I t1 8 x3.toNatClampNeg)] rfl dX10_spin_105 lnX10_65 MsX11_cell rfl (Or.inl rfl) (fun h => h) (by exact Nat.le_of_ble_eq_true rfl) ?_
          obtain ⟨v8, e7, h⟩ := gz_bd h
          refine gz_useI (c_X11_cell (gzOk_of (by decide)) rfl e7) ?_
          refine gz_iconst (pc := 108) dX10_spin_108 (v := 1) (by decide) ?_
          refine gz_iload (pc := 109) dX10_spin_109 rfl ?_
          refine gz_ishl (pc := 111) dX10_spin_111  ?_
          refine gz_ior (pc := 112) dX10_spin_112  ?_
          refine gz_SN (zy := mX11_write) (zc := 0) (pc := 113) [.inr (.inr (0, 43)), .inl (I t1 8 x3.toNatClampNeg), .inl (v8 ||| ((1 : Int32) <<< ((I t1 9 x3.toNatClampNeg) &&& 31)))] rfl dX10_spin_113 lnX10_69 MsX11_write rfl (Or.inl rfl) (fun h => h) (by exact Nat.le_of_ble_eq_true rfl) ?_
          obtain ⟨v10, e9, h⟩ := gz_bd h
          refine gz_useV (c_X11_write (gzOk_of (by decide)) rfl e9) ?_
          refine gz_aload_n (pc := 116) dX10_spin_116 rfl ?_
          refine gr_X10_9 (pc := 117) dX10_spin_117 z_0_41 rfl ?_
          refine gz_iload (pc := 120) dX10_spin_120 rfl ?_
          refine gz_aload_n (pc := 122) dX10_spin_122 rfl ?_
          refine gr_X10_9 (pc := 123) dX10_spin_123 z_0_41 rfl ?_
          refine gz_iload (pc := 126) dX10_spin_126 rfl ?_
          refine gz_SN (zy := mX11_cell) (zc := 0) (pc := 128) [.inr (.inr (0, 42)), .inl (I t1 8 x3.toNatClampNeg)] rfl dX10_spin_128 lnX10_65 MsX11_cell rfl (Or.inl rfl) (fun h => h) (by exact Nat.le_of_ble_eq_true rfl) ?_
          obtain ⟨v12, e11, h⟩ := gz_bd h
          refine gz_useI (c_X11_cell (gzOk_of (by decide)) rfl e11) ?_
          refine gz_iconst (pc := 131) dX10_spin_131 (v := 1) (by decide) ?_
          refine gz_iload (pc := 132) dX10_spin_132 rfl ?_
          refine gz_ishl (pc := 134) dX10_spin_134  ?_
          refine gz_ior (pc := 135) dX10_spin_135  ?_
          refine gz_SN (zy := mX11_write) (zc := 0) (pc := 136) [.inr (.inr (0, 42)), .inl (I t1 8 x3.toNatClampNeg), .inl (v12 ||| ((1 : Int32) <<< ((I t1 9 x3.toNatClampNeg) &&& 31)))] rfl dX10_spin_136 lnX10_69 MsX11_write rfl (Or.inl rfl) (fun h => h) (by exact Nat.le_of_ble_eq_true rfl) ?_
          obtain ⟨v14, e13, h⟩ := gz_bd h
          refine gz_useV (c_X11_write (gzOk_of (by decide)) rfl e13) ?_
          refine gz_aload_n (pc := 139) dX10_spin_139 rfl ?_
          refine gr_X10_9 (pc := 140) dX10_spin_140 z_0_41 rfl ?_
          refine gz_iload (pc := 143) dX10_spin_143 rfl ?_
          refine gz_aload_n (pc := 145) dX10_spin_145 rfl ?_
          refine gr_X10_9 (pc := 146) dX10_spin_146 z_0_41 rfl ?_
          refine gz_iload (pc := 149) dX10_spin_149 rfl ?_
          refine gz_SN (zy := mX11_cell) (zc := 0) (pc := 151) [.inr (.inr (0, 42)), .inl (I t1 9 x3.toNatClampNeg)] rfl dX10_spin_151 lnX10_65 MsX11_cell rfl (Or.inl rfl) (fun h => h) (by exact Nat.le_of_ble_eq_true rfl) ?_
          obtain ⟨v16, e15, h⟩ := gz_bd h
          refine gz_useI (c_X11_cell (gzOk_of (by decide)) rfl e15) ?_
          refine gz_iconst (pc := 154) dX10_spin_154 (v := 1) (by decide) ?_
          refine gz_iload (pc := 155) dX10_spin_155 rfl ?_
          refine gz_ishl (pc := 157) dX10_spin_157  ?_
          refine gz_ior (pc := 158) dX10_spin_158  ?_
          refine gz_SN (zy := mX11_write) (zc := 0) (pc := 159) [.inr (.inr (0, 42)), .inl (I t1 9 x3.toNatClampNeg), .inl (v16 ||| ((1 : Int32) <<< ((I t1 8 x3.toNatClampNeg) &&& 31)))] rfl dX10_spin_159 lnX10_69 MsX11_write rfl (Or.inl rfl) (fun h => h) (by exact Nat.le_of_ble_eq_true rfl) ?_
          obtain ⟨v18, e17, h⟩ := gz_bd h
          refine gz_useV (c_X11_write (gzOk_of (by decide)) rfl e17) ?_
          refine gz_iinc (pc := 162) dX10_spin_162 (x := x3) (v := x3 + 1) rfl (by rw [show Int32.ofInt 1 = 1 by decide]) (by decide) rfl (loc2 := [some (.inr (.inr (0, 41))), some (.inr (.inr (t1, 0))), some (.inl x2), some (.inl (x3 + 1)), some (.inl (I t1 8 x3.toNatClampNeg)), some (.inl (I t1 9 x3.toNatClampNeg))]) rfl ?_
          refine gz_goto (pc := 165) (tgt := 41) dX10_spin_165 (by decide) ?_
          exact gz_weak (loc2 := [some (.inr (.inr (0, 41))), some (.inr (.inr (t1, 0))), some (.inl x2), some (.inl (x3 + 1)), none, none]) (ih x2 (x3 + 1) v18.2.1 v18.2.2 h) (by repeat (first | exact trivial | refine ⟨rfl, ?_⟩))
def f_X10_spin_13 (φ : Nat) (t1 : Nat) : Nat → Int32 → Int32 → gzIT → gzJT → Option (Unit × gzIT × gzJT)
  | 0, _, _, _, _ => none
  | k + 1, x2, x3, I, J => if 6 ≤ x3 then (f_X10_spin_41 φ t1 φ x2 0 I J) else (gzGd (x3) 6 (f_X10_spin_13 φ t1 k x2 (x3 + 1) (gz_ui (gz_ui I 0 42 x3.toNatClampNeg 0) 0 43 x3.toNatClampNeg 0) J))
set_option maxRecDepth 20000 in
theorem p_X10_spin_13 {g : gzG} {d φ : Nat} {t1 : Nat} (ht1 : t1 < 15) {r : Unit × gzIT × gzJT} : ∀ (k : Nat) (x2 : Int32) (x3 : Int32) (I : gzIT) (J : gzJT), f_X10_spin_13 φ t1 k x2 x3 I J = some r → gP_X10_spin_13 g t1 d r x2 x3 I J := by
  intro k; induction k with
  | zero => intro x2 x3 I J h; cases h
  | succ k ih =>
    intro x2 x3 I J h
    unfold f_X10_spin_13 at h
    unfold gP_X10_spin_13
    have z_0_41 : gzOk 0 41 gzN := gzOk_of (by decide)
    have z_0_42 : gzOk 0 42 gzN := gzOk_of (by decide)
    have z_0_43 : gzOk 0 43 gzN := gzOk_of (by decide)
    refine gz_iload_n (pc := 13) dX10_spin_13 rfl ?_
    refine gz_bipush (pc := 14) dX10_spin_14 (v := 6) (by decide) ?_
    refine gz_ic_ge (pc := 16) (tgt := 39) dX10_spin_16 (by decide) (fun c => ?_) (fun c => ?_)
    · replace h := gz_ifp c h
      refine gz_iconst (pc := 39) dX10_spin_39 (v := 0) (by decide) ?_
      refine gz_istore_n (pc := 40) dX10_spin_40 (by decide) rfl (loc2 := [some (.inr (.inr (0, 41))), some (.inr (.inr (t1, 0))), some (.inl x2), some (.inl 0), none, none]) rfl ?_
      exact p_X10_spin_41 ht1 φ x2 0 I J h
    · replace h := gz_ifn c h
      refine gz_aload_n (pc := 19) dX10_spin_19 rfl ?_
      refine gr_X10_9 (pc := 20) dX10_spin_20 z_0_41 rfl ?_
      refine gz_iload_n (pc := 23) dX10_spin_23 rfl ?_
      refine gz_iconst (pc := 24) dX10_spin_24 (v := 0) (by decide) ?_
      obtain ⟨b1, h⟩ := gz_gd h
      refine gz_iast2 (pc := 25) dX10_spin_25 (k := x3.toNatClampNeg) z_0_42 rfl b1 rfl ?_
      refine gz_aload_n (pc := 26) dX10_spin_26 rfl ?_
      refine gr_X10_15 (pc := 27) dX10_spin_27 z_0_41 rfl ?_
      refine gz_iload_n (pc := 30) dX10_spin_30 rfl ?_
      refine gz_iconst (pc := 31) dX10_spin_31 (v := 0) (by decide) ?_
      refine gz_iast2 (pc := 32) dX10_spin_32 (k := x3.toNatClampNeg) z_0_43 rfl b1 rfl ?_
      refine gz_iinc (pc := 33) dX10_spin_33 (x := x3) (v := x3 + 1) rfl (by rw [show Int32.ofInt 1 = 1 by decide]) (by decide) rfl (loc2 := [some (.inr (.inr (0, 41))), some (.inr (.inr (t1, 0))), some (.inl x2), some (.inl (x3 + 1)), none, none]) rfl ?_
      refine gz_goto (pc := 36) (tgt := 13) dX10_spin_36 (by decide) ?_
      exact ih x2 (x3 + 1) (gz_ui (gz_ui I 0 42 x3.toNatClampNeg 0) 0 43 x3.toNatClampNeg 0) J h
def f_X10_spin (φ : Nat) (t1 : Nat) (a2 : Int32) (I : gzIT) (J : gzJT) : Option (Unit × gzIT × gzJT) := f_X10_spin_13 φ t1 φ a2 0 (gz_ui I 0 41 5 (I t1 1 5)) J
set_option maxRecDepth 20000 in
theorem c_X10_spin {g : gzG} {d φ : Nat} {t1 : Nat} (ht1 : t1 < 15) {a2 : Int32} {I : gzIT} {J : gzJT} {r : Unit × gzIT × gzJT} (h : f_X10_spin φ t1 a2 I J = some r) : gzC g 0 (d + 1) mX10_spin [.inr (.inr (0, 41)), .inr (.inr (t1, 0)), .inl a2] (gzN, gzR0, I, J) (gzE (.ok none) (gzN, gzR0, r.2.1, r.2.2)) := by
  unfold f_X10_spin at h
  refine gzC_of (by decide +kernel) (Nat.le_of_ble_eq_true rfl) (loc := [some (.inr (.inr (0, 41))), some (.inr (.inr (t1, 0))), some (.inl a2), none, none, none]) rfl ?_
  have z_t1_0 : gzOk t1 0 gzN := gzOk_of ht1
  have z_t1_1 : gzOk t1 1 gzN := gzOk_of ht1
  have z_0_41 : gzOk 0 41 gzN := gzOk_of (by decide)
  refine gz_aload_n (pc := 0) dX10_spin_0 rfl ?_
  refine gz_aload_n (pc := 1) dX10_spin_1 rfl ?_
  refine gr_X10_34 (pc := 2) dX10_spin_2 z_t1_0 rfl ?_
  refine gi_X10_39 (pc := 5) dX10_spin_5 (v := I t1 1 5) z_t1_1 rfl rfl ?_
  refine gp_X10_27 (pc := 8) dX10_spin_8 z_0_41 rfl ?_
  refine gz_iconst (pc := 11) dX10_spin_11 (v := 0) (by decide) ?_
  refine gz_istore_n (pc := 12) dX10_spin_12 (by decide) rfl (loc2 := [some (.inr (.inr (0, 41))), some (.inr (.inr (t1, 0))), some (.inl a2), some (.inl 0), none, none]) rfl ?_
  exact p_X10_spin_13 ht1 φ a2 0 (gz_ui I 0 41 5 (I t1 1 5)) J h
/-! X10_wider: wider -/
def gP_X10_wider_5 (g : gzG) (ta1 : Nat) (oa1 : Nat) (na1 : Nat) (d : Nat) (r : Int32) (x2 : Int32) (x3 : Int32) (x4 : Int32) (I : gzIT) (J : gzJT) : Prop := gzX g 0 (d + 1) mX10_wider 5 [some (.inr (.inr (0, 41))), some (.inr (.inr (ta1, oa1))), some (.inl x2), some (.inl x3), some (.inl x4)] [] (gzN, gzR0, I, J) 0 (gzE (.ok (some (.inl r))) (gzN, gzR0, I, J))
def f_X10_wider_5 (φ : Nat) (ta1 : Nat) (oa1 : Nat) (na1 : Nat) (I : gzIT) : Nat → Int32 → Int32 → Int32 → Option Int32
  | 0, _, _, _ => none
  | k + 1, x2, x3, x4 => if I 0 41 5 ≤ x4 then (some x3) else (Option.bind (f_X11_has x2 x4) (fun v2 => if v2 = 0 then (f_X10_wider_5 φ ta1 oa1 na1 I k x2 x3 (x4 + 1)) else (gzGd (x4) na1 (f_X10_wider_5 φ ta1 oa1 na1 I k x2 (x3 ||| (I ta1 oa1 x4.toNatClampNeg)) (x4 + 1)))))
set_option maxRecDepth 20000 in
theorem p_X10_wider_5 {g : gzG} {d φ : Nat} {ta1 : Nat} {oa1 : Nat} {na1 : Nat} (va1 : gzOk ta1 oa1 gzN) (ka1 : gzKd oa1 = .inr (.int, na1)) {I : gzIT} {J : gzJT} {r : Int32} : ∀ (k : Nat) (x2 : Int32) (x3 : Int32) (x4 : Int32), f_X10_wider_5 φ ta1 oa1 na1 I k x2 x3 x4 = some r → gP_X10_wider_5 g ta1 oa1 na1 d r x2 x3 x4 I J := by
  intro k; induction k with
  | zero => intro x2 x3 x4 h; cases h
  | succ k ih =>
    intro x2 x3 x4 h
    unfold f_X10_wider_5 at h
    unfold gP_X10_wider_5
    have z_0_41 : gzOk 0 41 gzN := gzOk_of (by decide)
    refine gz_iload (pc := 5) dX10_wider_5 rfl ?_
    refine gz_aload_n (pc := 7) dX10_wider_7 rfl ?_
    refine gi_X10_27 (pc := 8) dX10_wider_8 (v := I 0 41 5) z_0_41 rfl rfl ?_
    refine gz_ic_ge (pc := 11) (tgt := 36) dX10_wider_11 (by decide) (fun c => ?_) (fun c => ?_)
    · replace h := gz_ifp c h
      refine gz_iload_n (pc := 36) dX10_wider_36 rfl ?_
      cases h; exact gz_iret (pc := 37) dX10_wider_37 rfl ⟨rfl, rfl⟩
    · replace h := gz_ifn c h
      refine gz_iload_n (pc := 14) dX10_wider_14 rfl ?_
      refine gz_iload (pc := 15) dX10_wider_15 rfl ?_
      refine gz_SN (zy := mX11_has) (zc := 0) (pc := 17) [.inl x2, .inl x4] rfl dX10_wider_17 lnX10_55 MsX11_has rfl (Or.inl rfl) (fun h => h) (by exact Nat.le_of_ble_eq_true rfl) ?_
      obtain ⟨v2, e1, h⟩ := gz_bd h
      refine gz_useI (c_X11_has e1) ?_
      refine gz_if_eq (pc := 20) (tgt := 30) dX10_wider_20 (by decide) (fun c => ?_) (fun c => ?_)
      · replace h := gz_ifp c h
        refine gz_iinc (pc := 30) dX10_wider_30 (x := x4) (v := x4 + 1) rfl (by rw [show Int32.ofInt 1 = 1 by decide]) (by decide) rfl (loc2 := [some (.inr (.inr (0, 41))), some (.inr (.inr (ta1, oa1))), some (.inl x2), some (.inl x3), some (.inl (x4 + 1))]) rfl ?_
        refine gz_goto (pc := 33) (tgt := 5) dX10_wider_33 (by decide) ?_
        exact ih x2 x3 (x4 + 1) h
      · replace h := gz_ifn c h
        refine gz_iload_n (pc := 23) dX10_wider_23 rfl ?_
        refine gz_aload_n (pc := 24) dX10_wider_24 rfl ?_
        refine gz_iload (pc := 25) dX10_wider_25 rfl ?_
        obtain ⟨b3, h⟩ := gz_gd h
        refine gz_iald2 (pc := 27) dX10_wider_27 (k := x4.toNatClampNeg) (v := I ta1 oa1 x4.toNatClampNeg) va1 ka1 b3 rfl rfl ?_
        refine gz_ior (pc := 28) dX10_wider_28  ?_
        refine gz_istore_n (pc := 29) dX10_wider_29 (by decide) rfl (loc2 := [some (.inr (.inr (0, 41))), some (.inr (.inr (ta1, oa1))), some (.inl x2), some (.inl (x3 ||| (I ta1 oa1 x4.toNatClampNeg))), some (.inl x4)]) rfl ?_
        refine gz_iinc (pc := 30) dX10_wider_30 (x := x4) (v := x4 + 1) rfl (by rw [show Int32.ofInt 1 = 1 by decide]) (by decide) rfl (loc2 := [some (.inr (.inr (0, 41))), some (.inr (.inr (ta1, oa1))), some (.inl x2), some (.inl (x3 ||| (I ta1 oa1 x4.toNatClampNeg))), some (.inl (x4 + 1))]) rfl ?_
        refine gz_goto (pc := 33) (tgt := 5) dX10_wider_33 (by decide) ?_
        exact ih x2 (x3 ||| (I ta1 oa1 x4.toNatClampNeg)) (x4 + 1) h
def f_X10_wider (φ : Nat) (ta1 : Nat) (oa1 : Nat) (na1 : Nat) (I : gzIT) (a2 : Int32) : Option Int32 := f_X10_wider_5 φ ta1 oa1 na1 I φ a2 a2 0
set_option maxRecDepth 20000 in
theorem c_X10_wider {g : gzG} {d φ : Nat} {ta1 : Nat} {oa1 : Nat} {na1 : Nat} (va1 : gzOk ta1 oa1 gzN) (ka1 : gzKd oa1 = .inr (.int, na1)) {a2 : Int32} {I : gzIT} {J : gzJT} {r : Int32} (h : f_X10_wider φ ta1 oa1 na1 I a2 = some r) : gzC g 0 (d + 1) mX10_wider [.inr (.inr (0, 41)), .inr (.inr (ta1, oa1)), .inl a2] (gzN, gzR0, I, J) (gzE (.ok (some (.inl r))) (gzN, gzR0, I, J)) := by
  unfold f_X10_wider at h
  refine gzC_of (by decide +kernel) (Nat.le_of_ble_eq_true rfl) (loc := [some (.inr (.inr (0, 41))), some (.inr (.inr (ta1, oa1))), some (.inl a2), none, none]) rfl ?_
  refine gz_iload_n (pc := 0) dX10_wider_0 rfl ?_
  refine gz_istore_n (pc := 1) dX10_wider_1 (by decide) rfl (loc2 := [some (.inr (.inr (0, 41))), some (.inr (.inr (ta1, oa1))), some (.inl a2), some (.inl a2), none]) rfl ?_
  refine gz_iconst (pc := 2) dX10_wider_2 (v := 0) (by decide) ?_
  refine gz_istore (pc := 3) dX10_wider_3 (by decide) rfl (loc2 := [some (.inr (.inr (0, 41))), some (.inr (.inr (ta1, oa1))), some (.inl a2), some (.inl a2), some (.inl 0)]) rfl ?_
  exact p_X10_wider_5 va1 ka1 φ a2 a2 0 h
/-! X10_whole: whole -/
def gP_X10_whole_5 (g : gzG) (ta1 : Nat) (oa1 : Nat) (na1 : Nat) (d : Nat) (r : Int32) (x3 : Int32) (x4 : Int32) (I : gzIT) (J : gzJT) : Prop := gzX g 0 (d + 2) mX10_whole 5 [some (.inr (.inr (0, 41))), some (.inr (.inr (ta1, oa1))), none, some (.inl x3), some (.inl x4)] [] (gzN, gzR0, I, J) 0 (gzE (.ok (some (.inl r))) (gzN, gzR0, I, J))
def f_X10_whole_5 (φ : Nat) (ta1 : Nat) (oa1 : Nat) (na1 : Nat) (I : gzIT) : Nat → Int32 → Int32 → Option Int32
  | 0, _, _ => none
  | k + 1, x3, x4 => if I 0 41 5 ≤ x4 then (some x3) else (Option.bind (f_X10_wider φ ta1 oa1 na1 I x3) (fun v2 => f_X10_whole_5 φ ta1 oa1 na1 I k v2 (x4 + 1)))
set_option maxRecDepth 20000 in
theorem p_X10_whole_5 {g : gzG} {d φ : Nat} {ta1 : Nat} {oa1 : Nat} {na1 : Nat} (va1 : gzOk ta1 oa1 gzN) (ka1 : gzKd oa1 = .inr (.int, na1)) {I : gzIT} {J : gzJT} {r : Int32} : ∀ (k : Nat) (x3 : Int32) (x4 : Int32), f_X10_whole_5 φ ta1 oa1 na1 I k x3 x4 = some r → gP_X10_whole_5 g ta1 oa1 na1 d r x3 x4 I J := by
  intro k; induction k with
  | zero => intro x3 x4 h; cases h
  | succ k ih =>
    intro x3 x4 h
    unfold f_X10_whole_5 at h
    unfold gP_X10_whole_5
    have z_0_41 : gzOk 0 41 gzN := gzOk_of (by decide)
    refine gz_iload (pc := 5) dX10_whole_5 rfl ?_
    refine gz_aload_n (pc := 7) dX10_whole_7 rfl ?_
    refine gi_X10_27 (pc := 8) dX10_whole_8 (v := I 0 41 5) z_0_41 rfl rfl ?_
    refine gz_ic_ge (pc := 11) (tgt := 27) dX10_whole_11 (by decide) (fun c => ?_) (fun c => ?_)
    · replace h := gz_ifp c h
      refine gz_iload_n (pc := 27) dX10_whole_27 rfl ?_
      cases h; exact gz_iret (pc := 28) dX10_whole_28 rfl ⟨rfl, rfl⟩
    · replace h := gz_ifn c h
      refine gz_aload_n (pc := 14) dX10_whole_14 rfl ?_
      refine gz_aload_n (pc := 15) dX10_whole_15 rfl ?_
      refine gz_iload_n (pc := 16) dX10_whole_16 rfl ?_
      refine gz_V (zy := mX10_wider) (zc := 0) (pc := 17) [.inr (.inr (ta1, oa1)), .inl x3] rfl dX10_whole_17 lkX10_73 MvX10_wider rfl z_0_41 rfl rfl rfl (Or.inl rfl) (fun h => h) (by exact Nat.le_of_ble_eq_true rfl) ?_
      obtain ⟨v2, e1, h⟩ := gz_bd h
      refine gz_useI (c_X10_wider va1 ka1 e1) ?_
      refine gz_istore_n (pc := 20) dX10_whole_20 (by decide) rfl (loc2 := [some (.inr (.inr (0, 41))), some (.inr (.inr (ta1, oa1))), none, some (.inl v2), some (.inl x4)]) rfl ?_
      refine gz_iinc (pc := 21) dX10_whole_21 (x := x4) (v := x4 + 1) rfl (by rw [show Int32.ofInt 1 = 1 by decide]) (by decide) rfl (loc2 := [some (.inr (.inr (0, 41))), some (.inr (.inr (ta1, oa1))), none, some (.inl v2), some (.inl (x4 + 1))]) rfl ?_
      refine gz_goto (pc := 24) (tgt := 5) dX10_whole_24 (by decide) ?_
      exact ih v2 (x4 + 1) h
def f_X10_whole (φ : Nat) (ta1 : Nat) (oa1 : Nat) (na1 : Nat) (I : gzIT) (a2 : Int32) : Option Int32 := f_X10_whole_5 φ ta1 oa1 na1 I φ a2 0
set_option maxRecDepth 20000 in
theorem c_X10_whole {g : gzG} {d φ : Nat} {ta1 : Nat} {oa1 : Nat} {na1 : Nat} (va1 : gzOk ta1 oa1 gzN) (ka1 : gzKd oa1 = .inr (.int, na1)) {a2 : Int32} {I : gzIT} {J : gzJT} {r : Int32} (h : f_X10_whole φ ta1 oa1 na1 I a2 = some r) : gzC g 0 (d + 2) mX10_whole [.inr (.inr (0, 41)), .inr (.inr (ta1, oa1)), .inl a2] (gzN, gzR0, I, J) (gzE (.ok (some (.inl r))) (gzN, gzR0, I, J)) := by
  unfold f_X10_whole at h
  refine gzC_of (by decide +kernel) (Nat.le_of_ble_eq_true rfl) (loc := [some (.inr (.inr (0, 41))), some (.inr (.inr (ta1, oa1))), some (.inl a2), none, none]) rfl ?_
  refine gz_iload_n (pc := 0) dX10_whole_0 rfl ?_
  refine gz_istore_n (pc := 1) dX10_whole_1 (by decide) rfl (loc2 := [some (.inr (.inr (0, 41))), some (.inr (.inr (ta1, oa1))), some (.inl a2), some (.inl a2), none]) rfl ?_
  refine gz_iconst (pc := 2) dX10_whole_2 (v := 0) (by decide) ?_
  refine gz_istore (pc := 3) dX10_whole_3 (by decide) rfl (loc2 := [some (.inr (.inr (0, 41))), some (.inr (.inr (ta1, oa1))), some (.inl a2), some (.inl a2), some (.inl 0)]) rfl ?_
  exact gz_weak (loc2 := [some (.inr (.inr (0, 41))), some (.inr (.inr (ta1, oa1))), none, some (.inl a2), some (.inl 0)]) (p_X10_whole_5 va1 ka1 φ a2 0 h) (by repeat (first | exact trivial | refine ⟨rfl, ?_⟩))
/-! X10_distance: distance -/
def gP_X10_distance_7 (g : gzG) (d : Nat) (r : Int32) (x2 : Int32) (x3 : Int32) (x4 : Int32) (I : gzIT) (J : gzJT) : Prop := gzX g 0 (d + 2) mX10_distance 7 [some (.inr (.inr (0, 41))), none, some (.inl x2), some (.inl x3), some (.inl x4)] [] (gzN, gzR0, I, J) 0 (gzE (.ok (some (.inl r))) (gzN, gzR0, I, J))
def f_X10_distance_7 (φ : Nat) (I : gzIT) : Nat → Int32 → Int32 → Int32 → Option Int32
  | 0, _, _, _ => none
  | k + 1, x2, x3, x4 => if I 0 41 5 ≤ x4 then (some (-1)) else (Option.bind (f_X11_has x3 x2) (fun v2 => if v2 = 0 then (Option.bind (f_X10_wider φ 0 42 6 I x3) (fun v4 => f_X10_distance_7 φ I k x2 v4 (x4 + 1))) else (some x4)))
set_option maxRecDepth 20000 in
theorem p_X10_distance_7 {g : gzG} {d φ : Nat} {I : gzIT} {J : gzJT} {r : Int32} : ∀ (k : Nat) (x2 : Int32) (x3 : Int32) (x4 : Int32), f_X10_distance_7 φ I k x2 x3 x4 = some r → gP_X10_distance_7 g d r x2 x3 x4 I J := by
  intro k; induction k with
  | zero => intro x2 x3 x4 h; cases h
  | succ k ih =>
    intro x2 x3 x4 h
    unfold f_X10_distance_7 at h
    unfold gP_X10_distance_7
    have z_0_41 : gzOk 0 41 gzN := gzOk_of (by decide)
    have z_0_42 : gzOk 0 42 gzN := gzOk_of (by decide)
    refine gz_iload (pc := 7) dX10_distance_7 rfl ?_
    refine gz_aload_n (pc := 9) dX10_distance_9 rfl ?_
    refine gi_X10_27 (pc := 10) dX10_distance_10 (v := I 0 41 5) z_0_41 rfl rfl ?_
    refine gz_ic_ge (pc := 13) (tgt := 43) dX10_distance_13 (by decide) (fun c => ?_) (fun c => ?_)
    · replace h := gz_ifp c h
      refine gz_iconst (pc := 43) dX10_distance_43 (v := (-1)) (by decide) ?_
      cases h; exact gz_iret (pc := 44) dX10_distance_44 rfl ⟨rfl, rfl⟩
    · replace h := gz_ifn c h
      refine gz_iload_n (pc := 16) dX10_distance_16 rfl ?_
      refine gz_iload_n (pc := 17) dX10_distance_17 rfl ?_
      refine gz_SN (zy := mX11_has) (zc := 0) (pc := 18) [.inl x3, .inl x2] rfl dX10_distance_18 lnX10_55 MsX11_has rfl (Or.inl rfl) (fun h => h) (by exact Nat.le_of_ble_eq_true rfl) ?_
      obtain ⟨v2, e1, h⟩ := gz_bd h
      refine gz_useI (c_X11_has e1) ?_
      refine gz_if_eq (pc := 21) (tgt := 27) dX10_distance_21 (by decide) (fun c => ?_) (fun c => ?_)
      · replace h := gz_ifp c h
        refine gz_aload_n (pc := 27) dX10_distance_27 rfl ?_
        refine gz_aload_n (pc := 28) dX10_distance_28 rfl ?_
        refine gr_X10_9 (pc := 29) dX10_distance_29 z_0_41 rfl ?_
        refine gz_iload_n (pc := 32) dX10_distance_32 rfl ?_
        refine gz_V (zy := mX10_wider) (zc := 0) (pc := 33) [.inr (.inr (0, 42)), .inl x3] rfl dX10_distance_33 lkX10_73 MvX10_wider rfl z_0_41 rfl rfl rfl (Or.inl rfl) (fun h => h) (by exact Nat.le_of_ble_eq_true rfl) ?_
        obtain ⟨v4, e3, h⟩ := gz_bd h
        refine gz_useI (c_X10_wider (gzOk_of (by decide)) rfl e3) ?_
        refine gz_istore_n (pc := 36) dX10_distance_36 (by decide) rfl (loc2 := [some (.inr (.inr (0, 41))), none, some (.inl x2), some (.inl v4), some (.inl x4)]) rfl ?_
        refine gz_iinc (pc := 37) dX10_distance_37 (x := x4) (v := x4 + 1) rfl (by rw [show Int32.ofInt 1 = 1 by decide]) (by decide) rfl (loc2 := [some (.inr (.inr (0, 41))), none, some (.inl x2), some (.inl v4), some (.inl (x4 + 1))]) rfl ?_
        refine gz_goto (pc := 40) (tgt := 7) dX10_distance_40 (by decide) ?_
        exact ih x2 v4 (x4 + 1) h
      · replace h := gz_ifn c h
        refine gz_iload (pc := 24) dX10_distance_24 rfl ?_
        cases h; exact gz_iret (pc := 26) dX10_distance_26 rfl ⟨rfl, rfl⟩
def f_X10_distance (φ : Nat) (I : gzIT) (a1 : Int32) (a2 : Int32) : Option Int32 := f_X10_distance_7 φ I φ a2 ((1 : Int32) <<< (a1 &&& 31)) 0
set_option maxRecDepth 20000 in
theorem c_X10_distance {g : gzG} {d φ : Nat} {a1 : Int32} {a2 : Int32} {I : gzIT} {J : gzJT} {r : Int32} (h : f_X10_distance φ I a1 a2 = some r) : gzC g 0 (d + 2) mX10_distance [.inr (.inr (0, 41)), .inl a1, .inl a2] (gzN, gzR0, I, J) (gzE (.ok (some (.inl r))) (gzN, gzR0, I, J)) := by
  unfold f_X10_distance at h
  refine gzC_of (by decide +kernel) (Nat.le_of_ble_eq_true rfl) (loc := [some (.inr (.inr (0, 41))), some (.inl a1), some (.inl a2), none, none]) rfl ?_
  refine gz_iconst (pc := 0) dX10_distance_0 (v := 1) (by decide) ?_
  refine gz_iload_n (pc := 1) dX10_distance_1 rfl ?_
  refine gz_ishl (pc := 2) dX10_distance_2  ?_
  refine gz_istore_n (pc := 3) dX10_distance_3 (by decide) rfl (loc2 := [some (.inr (.inr (0, 41))), some (.inl a1), some (.inl a2), some (.inl ((1 : Int32) <<< (a1 &&& 31))), none]) rfl ?_
  refine gz_iconst (pc := 4) dX10_distance_4 (v := 0) (by decide) ?_
  refine gz_istore (pc := 5) dX10_distance_5 (by decide) rfl (loc2 := [some (.inr (.inr (0, 41))), some (.inl a1), some (.inl a2), some (.inl ((1 : Int32) <<< (a1 &&& 31))), some (.inl 0)]) rfl ?_
  exact gz_weak (loc2 := [some (.inr (.inr (0, 41))), none, some (.inl a2), some (.inl ((1 : Int32) <<< (a1 &&& 31))), some (.inl 0)]) (p_X10_distance_7 φ a2 ((1 : Int32) <<< (a1 &&& 31)) 0 h) (by repeat (first | exact trivial | refine ⟨rfl, ?_⟩))
/-! X10_comesBack: comesBack -/
def f_X10_comesBack (φ : Nat) (I : gzIT) (a1 : Int32) : Option Int32 := Option.bind (f_X11_cell 0 43 6 I a1) (fun v2 => Option.bind (f_X10_whole φ 0 43 6 I v2) (fun v4 => Option.bind (f_X11_has v4 a1) (fun v6 => gzGz v6 (some v6))))
set_option maxRecDepth 20000 in
theorem c_X10_comesBack {g : gzG} {d φ : Nat} {a1 : Int32} {I : gzIT} {J : gzJT} {r : Int32} (h : f_X10_comesBack φ I a1 = some r) : gzC g 0 (d + 3) mX10_comesBack [.inr (.inr (0, 41)), .inl a1] (gzN, gzR0, I, J) (gzE (.ok (some (.inl r))) (gzN, gzR0, I, J)) := by
  unfold f_X10_comesBack at h
  refine gzC_of (by decide +kernel) (Nat.le_of_ble_eq_true rfl) (loc := [some (.inr (.inr (0, 41))), some (.inl a1)]) rfl ?_
  have z_0_41 : gzOk 0 41 gzN := gzOk_of (by decide)
  have z_0_43 : gzOk 0 43 gzN := gzOk_of (by decide)
  refine gz_aload_n (pc := 0) dX10_comesBack_0 rfl ?_
  refine gz_aload_n (pc := 1) dX10_comesBack_1 rfl ?_
  refine gr_X10_15 (pc := 2) dX10_comesBack_2 z_0_41 rfl ?_
  refine gz_aload_n (pc := 5) dX10_comesBack_5 rfl ?_
  refine gr_X10_15 (pc := 6) dX10_comesBack_6 z_0_41 rfl ?_
  refine gz_iload_n (pc := 9) dX10_comesBack_9 rfl ?_
  refine gz_SN (zy := mX11_cell) (zc := 0) (pc := 10) [.inr (.inr (0, 43)), .inl a1] rfl dX10_comesBack_10 lnX10_65 MsX11_cell rfl (Or.inl rfl) (fun h => h) (by exact Nat.le_of_ble_eq_true rfl) ?_
  obtain ⟨v2, e1, h⟩ := gz_bd h
  refine gz_useI (c_X11_cell (gzOk_of (by decide)) rfl e1) ?_
  refine gz_V (zy := mX10_whole) (zc := 0) (pc := 13) [.inr (.inr (0, 43)), .inl v2] rfl dX10_comesBack_13 lkX10_76 MvX10_whole rfl z_0_41 rfl rfl rfl (Or.inl rfl) (fun h => h) (by exact Nat.le_of_ble_eq_true rfl) ?_
  obtain ⟨v4, e3, h⟩ := gz_bd h
  refine gz_useI (c_X10_whole (gzOk_of (by decide)) rfl e3) ?_
  refine gz_iload_n (pc := 16) dX10_comesBack_16 rfl ?_
  refine gz_SN (zy := mX11_has) (zc := 0) (pc := 17) [.inl v4, .inl a1] rfl dX10_comesBack_17 lnX10_55 MsX11_has rfl (Or.inl rfl) (fun h => h) (by exact Nat.le_of_ble_eq_true rfl) ?_
  obtain ⟨v6, e5, h⟩ := gz_bd h
  refine gz_useI (c_X11_has e5) ?_
  obtain ⟨b7, h⟩ := gz_gz h
  cases h; exact gz_zret (pc := 20) dX10_comesBack_20 rfl b7 ⟨rfl, rfl⟩
/-! X10_greatestFeud: greatestFeud -/
def gP_X10_greatestFeud_4 (g : gzG) (d : Nat) (r : Int32) (x1 : Int32) (x2 : Int32) (I : gzIT) (J : gzJT) : Prop := gzX g 0 (d + 3) mX10_greatestFeud 4 [some (.inr (.inr (0, 41))), some (.inl x1), some (.inl x2)] [] (gzN, gzR0, I, J) 0 (gzE (.ok (some (.inl r))) (gzN, gzR0, I, J))
def f_X10_greatestFeud_4 (φ : Nat) (I : gzIT) : Nat → Int32 → Int32 → Option Int32
  | 0, _, _ => none
  | k + 1, x1, x2 => if I 0 41 5 ≤ x2 then (some x1) else (Option.bind (f_X10_whole φ 0 42 6 I ((1 : Int32) <<< (x2 &&& 31))) (fun v2 => Option.bind (f_J6_bitCount_0f7a4 v2) (fun v4 => f_X10_greatestFeud_4 φ I k (if x1 < v4 then v4 else x1) (x2 + 1))))
set_option maxRecDepth 20000 in
theorem p_X10_greatestFeud_4 {g : gzG} {d φ : Nat} {I : gzIT} {J : gzJT} {r : Int32} : ∀ (k : Nat) (x1 : Int32) (x2 : Int32), f_X10_greatestFeud_4 φ I k x1 x2 = some r → gP_X10_greatestFeud_4 g d r x1 x2 I J := by
  intro k; induction k with
  | zero => intro x1 x2 h; cases h
  | succ k ih =>
    intro x1 x2 h
    unfold f_X10_greatestFeud_4 at h
    unfold gP_X10_greatestFeud_4
    have z_0_41 : gzOk 0 41 gzN := gzOk_of (by decide)
    have z_0_42 : gzOk 0 42 gzN := gzOk_of (by decide)
    refine gz_iload_n (pc := 4) dX10_greatestFeud_4 rfl ?_
    refine gz_aload_n (pc := 5) dX10_greatestFeud_5 rfl ?_
    refine gi_X10_27 (pc := 6) dX10_greatestFeud_6 (v := I 0 41 5) z_0_41 rfl rfl ?_
    refine gz_ic_ge (pc := 9) (tgt := 37) dX10_greatestFeud_9 (by decide) (fun c => ?_) (fun c => ?_)
    · replace h := gz_ifp c h
      refine gz_iload_n (pc := 37) dX10_greatestFeud_37 rfl ?_
      cases h; exact gz_iret (pc := 38) dX10_greatestFeud_38 rfl ⟨rfl, rfl⟩
    · replace h := gz_ifn c h
      refine gz_iload_n (pc := 12) dX10_greatestFeud_12 rfl ?_
      refine gz_aload_n (pc := 13) dX10_greatestFeud_13 rfl ?_
      refine gz_aload_n (pc := 14) dX10_greatestFeud_14 rfl ?_
      refine gr_X10_9 (pc := 15) dX10_greatestFeud_15 z_0_41 rfl ?_
      refine gz_iconst (pc := 18) dX10_greatestFeud_18 (v := 1) (by decide) ?_
      refine gz_iload_n (pc := 19) dX10_greatestFeud_19 rfl ?_
      refine gz_ishl (pc := 20) dX10_greatestFeud_20  ?_
      refine gz_V (zy := mX10_whole) (zc := 0) (pc := 21) [.inr (.inr (0, 42)), .inl ((1 : Int32) <<< (x2 &&& 31))] rfl dX10_greatestFeud_21 lkX10_76 MvX10_whole rfl z_0_41 rfl rfl rfl (Or.inl rfl) (fun h => h) (by exact Nat.le_of_ble_eq_true rfl) ?_
      obtain ⟨v2, e1, h⟩ := gz_bd h
      refine gz_useI (c_X10_whole (gzOk_of (by decide)) rfl e1) ?_
      refine gz_S (zy := mJ6_bitCount_0f7a4) (zc := 0) (pc := 24) [.inl v2] rfl dX10_greatestFeud_24 lkX10_79 MsJ6_bitCount_0f7a4 rfl (Or.inl rfl) (fun h => h) (by exact Nat.le_of_ble_eq_true rfl) ?_
      obtain ⟨v4, e3, h⟩ := gz_bd h
      refine gz_useI (c_J6_bitCount_0f7a4 e3) ?_
      refine gx_X10_85 (pc := 27) dX10_greatestFeud_27 (Nat.le_of_ble_eq_true rfl) rfl ?_
      refine gz_istore_n (pc := 30) dX10_greatestFeud_30 (by decide) rfl (loc2 := [some (.inr (.inr (0, 41))), some (.inl (if x1 < v4 then v4 else x1)), some (.inl x2)]) rfl ?_
      refine gz_iinc (pc := 31) dX10_greatestFeud_31 (x := x2) (v := x2 + 1) rfl (by rw [show Int32.ofInt 1 = 1 by decide]) (by decide) rfl (loc2 := [some (.inr (.inr (0, 41))), some (.inl (if x1 < v4 then v4 else x1)), some (.inl (x2 + 1))]) rfl ?_
      refine gz_goto (pc := 34) (tgt := 4) dX10_greatestFeud_34 (by decide) ?_
      exact ih (if x1 < v4 then v4 else x1) (x2 + 1) h
def f_X10_greatestFeud (φ : Nat) (I : gzIT) : Option Int32 := f_X10_greatestFeud_4 φ I φ 0 0
set_option maxRecDepth 20000 in
theorem c_X10_greatestFeud {g : gzG} {d φ : Nat} {I : gzIT} {J : gzJT} {r : Int32} (h : f_X10_greatestFeud φ I = some r) : gzC g 0 (d + 3) mX10_greatestFeud [.inr (.inr (0, 41))] (gzN, gzR0, I, J) (gzE (.ok (some (.inl r))) (gzN, gzR0, I, J)) := by
  unfold f_X10_greatestFeud at h
  refine gzC_of (by decide +kernel) (Nat.le_of_ble_eq_true rfl) (loc := [some (.inr (.inr (0, 41))), none, none]) rfl ?_
  refine gz_iconst (pc := 0) dX10_greatestFeud_0 (v := 0) (by decide) ?_
  refine gz_istore_n (pc := 1) dX10_greatestFeud_1 (by decide) rfl (loc2 := [some (.inr (.inr (0, 41))), some (.inl 0), none]) rfl ?_
  refine gz_iconst (pc := 2) dX10_greatestFeud_2 (v := 0) (by decide) ?_
  refine gz_istore_n (pc := 3) dX10_greatestFeud_3 (by decide) rfl (loc2 := [some (.inr (.inr (0, 41))), some (.inl 0), some (.inl 0)]) rfl ?_
  exact p_X10_greatestFeud_4 φ 0 0 h
/-! X10_strangers: strangers -/
def gP_X10_strangers_4 (g : gzG) (d : Nat) (r : Int32) (x1 : Int32) (x2 : Int32) (I : gzIT) (J : gzJT) : Prop := gzX g 0 (d + 1) mX10_strangers 4 [some (.inr (.inr (0, 41))), some (.inl x1), some (.inl x2)] [] (gzN, gzR0, I, J) 0 (gzE (.ok (some (.inl r))) (gzN, gzR0, I, J))
def f_X10_strangers_4 (φ : Nat) (I : gzIT) : Nat → Int32 → Int32 → Option Int32
  | 0, _, _ => none
  | k + 1, x1, x2 => if I 0 41 5 ≤ x2 then (some ((((I 0 41 5) * ((I 0 41 5) - 1)) - x1) / 2)) else (gzGd (x2) 6 (Option.bind (f_J6_bitCount_0f7a4 (I 0 42 x2.toNatClampNeg)) (fun v4 => f_X10_strangers_4 φ I k (x1 + v4) (x2 + 1))))
set_option maxRecDepth 20000 in
theorem p_X10_strangers_4 {g : gzG} {d φ : Nat} {I : gzIT} {J : gzJT} {r : Int32} : ∀ (k : Nat) (x1 : Int32) (x2 : Int32), f_X10_strangers_4 φ I k x1 x2 = some r → gP_X10_strangers_4 g d r x1 x2 I J := by
  intro k; induction k with
  | zero => intro x1 x2 h; cases h
  | succ k ih =>
    intro x1 x2 h
    unfold f_X10_strangers_4 at h
    unfold gP_X10_strangers_4
    have z_0_41 : gzOk 0 41 gzN := gzOk_of (by decide)
    have z_0_42 : gzOk 0 42 gzN := gzOk_of (by decide)
    refine gz_iload_n (pc := 4) dX10_strangers_4 rfl ?_
    refine gz_aload_n (pc := 5) dX10_strangers_5 rfl ?_
    refine gi_X10_27 (pc := 6) dX10_strangers_6 (v := I 0 41 5) z_0_41 rfl rfl ?_
    refine gz_ic_ge (pc := 9) (tgt := 30) dX10_strangers_9 (by decide) (fun c => ?_) (fun c => ?_)
    · replace h := gz_ifp c h
      refine gz_aload_n (pc := 30) dX10_strangers_30 rfl ?_
      refine gi_X10_27 (pc := 31) dX10_strangers_31 (v := I 0 41 5) z_0_41 rfl rfl ?_
      refine gz_aload_n (pc := 34) dX10_strangers_34 rfl ?_
      refine gi_X10_27 (pc := 35) dX10_strangers_35 (v := I 0 41 5) z_0_41 rfl rfl ?_
      refine gz_iconst (pc := 38) dX10_strangers_38 (v := 1) (by decide) ?_
      refine gz_isub (pc := 39) dX10_strangers_39  ?_
      refine gz_imul (pc := 40) dX10_strangers_40  ?_
      refine gz_iload_n (pc := 41) dX10_strangers_41 rfl ?_
      refine gz_isub (pc := 42) dX10_strangers_42  ?_
      refine gz_iconst (pc := 43) dX10_strangers_43 (v := 2) (by decide) ?_
      refine gz_idiv (pc := 44) dX10_strangers_44 (by decide) ?_
      cases h; exact gz_iret (pc := 45) dX10_strangers_45 rfl ⟨rfl, rfl⟩
    · replace h := gz_ifn c h
      refine gz_iload_n (pc := 12) dX10_strangers_12 rfl ?_
      refine gz_aload_n (pc := 13) dX10_strangers_13 rfl ?_
      refine gr_X10_9 (pc := 14) dX10_strangers_14 z_0_41 rfl ?_
      refine gz_iload_n (pc := 17) dX10_strangers_17 rfl ?_
      obtain ⟨b2, h⟩ := gz_gd h
      refine gz_iald2 (pc := 18) dX10_strangers_18 (k := x2.toNatClampNeg) (v := I 0 42 x2.toNatClampNeg) z_0_42 rfl b2 rfl rfl ?_
      refine gz_S (zy := mJ6_bitCount_0f7a4) (zc := 0) (pc := 19) [.inl (I 0 42 x2.toNatClampNeg)] rfl dX10_strangers_19 lkX10_79 MsJ6_bitCount_0f7a4 rfl (Or.inl rfl) (fun h => h) (by exact Nat.le_of_ble_eq_true rfl) ?_
      obtain ⟨v4, e3, h⟩ := gz_bd h
      refine gz_useI (c_J6_bitCount_0f7a4 e3) ?_
      refine gz_iadd (pc := 22) dX10_strangers_22  ?_
      refine gz_istore_n (pc := 23) dX10_strangers_23 (by decide) rfl (loc2 := [some (.inr (.inr (0, 41))), some (.inl (x1 + v4)), some (.inl x2)]) rfl ?_
      refine gz_iinc (pc := 24) dX10_strangers_24 (x := x2) (v := x2 + 1) rfl (by rw [show Int32.ofInt 1 = 1 by decide]) (by decide) rfl (loc2 := [some (.inr (.inr (0, 41))), some (.inl (x1 + v4)), some (.inl (x2 + 1))]) rfl ?_
      refine gz_goto (pc := 27) (tgt := 4) dX10_strangers_27 (by decide) ?_
      exact ih (x1 + v4) (x2 + 1) h
def f_X10_strangers (φ : Nat) (I : gzIT) : Option Int32 := f_X10_strangers_4 φ I φ 0 0
set_option maxRecDepth 20000 in
theorem c_X10_strangers {g : gzG} {d φ : Nat} {I : gzIT} {J : gzJT} {r : Int32} (h : f_X10_strangers φ I = some r) : gzC g 0 (d + 1) mX10_strangers [.inr (.inr (0, 41))] (gzN, gzR0, I, J) (gzE (.ok (some (.inl r))) (gzN, gzR0, I, J)) := by
  unfold f_X10_strangers at h
  refine gzC_of (by decide +kernel) (Nat.le_of_ble_eq_true rfl) (loc := [some (.inr (.inr (0, 41))), none, none]) rfl ?_
  refine gz_iconst (pc := 0) dX10_strangers_0 (v := 0) (by decide) ?_
  refine gz_istore_n (pc := 1) dX10_strangers_1 (by decide) rfl (loc2 := [some (.inr (.inr (0, 41))), some (.inl 0), none]) rfl ?_
  refine gz_iconst (pc := 2) dX10_strangers_2 (v := 0) (by decide) ?_
  refine gz_istore_n (pc := 3) dX10_strangers_3 (by decide) rfl (loc2 := [some (.inr (.inr (0, 41))), some (.inl 0), some (.inl 0)]) rfl ?_
  exact p_X10_strangers_4 φ 0 0 h
/-! X10_linkedWithout: linkedWithout -/
def gP_X10_linkedWithout_9 (g : gzG) (t1 : Nat) (d : Nat) (r : Int32) (x2 : Int32) (x3 : Int32) (x4 : Int32) (x5 : Int32) (x6 : Int32) (I : gzIT) (J : gzJT) : Prop := gzX g 0 (d + 1) mX10_linkedWithout 9 [some (.inr (.inr (0, 41))), some (.inr (.inr (t1, 7))), some (.inl x2), some (.inl x3), some (.inl x4), some (.inl x5), some (.inl x6)] [] (gzN, gzR0, I, J) 0 (gzE (.ok (some (.inl r))) (gzN, gzR0, I, J))
def f_X10_linkedWithout_9 (φ : Nat) (t1 : Nat) (I : gzIT) : Nat → Int32 → Int32 → Int32 → Int32 → Int32 → Option Int32
  | 0, _, _, _, _, _ => none
  | k + 1, x2, x3, x4, x5, x6 => if 10 ≤ x6 then (if x4 < x3 then (some 16) else (Option.bind (f_J6_bitCount_0f7a4 x5) (fun v2 => some v2))) else (gzGd (x6) 10 (if I 0 46 x6.toNatClampNeg = 0 then (f_X10_linkedWithout_9 φ t1 I k x2 x3 x4 x5 (x6 + 1)) else (Option.bind (f_X11_has x2 x6) (fun v5 => if ¬ v5 = 0 then (f_X10_linkedWithout_9 φ t1 I k x2 x3 x4 x5 (x6 + 1)) else (f_X10_linkedWithout_9 φ t1 I k x2 x3 (x4 + (I t1 12 x6.toNatClampNeg)) (x5 ||| (I 0 46 x6.toNatClampNeg)) (x6 + 1))))))
set_option maxRecDepth 20000 in
theorem p_X10_linkedWithout_9 {g : gzG} {d φ : Nat} {t1 : Nat} (ht1 : t1 < 15) {I : gzIT} {J : gzJT} {r : Int32} : ∀ (k : Nat) (x2 : Int32) (x3 : Int32) (x4 : Int32) (x5 : Int32) (x6 : Int32), f_X10_linkedWithout_9 φ t1 I k x2 x3 x4 x5 x6 = some r → gP_X10_linkedWithout_9 g t1 d r x2 x3 x4 x5 x6 I J := by
  intro k; induction k with
  | zero => intro x2 x3 x4 x5 x6 h; cases h
  | succ k ih =>
    intro x2 x3 x4 x5 x6 h
    unfold f_X10_linkedWithout_9 at h
    unfold gP_X10_linkedWithout_9
    have z_0_41 : gzOk 0 41 gzN := gzOk_of (by decide)
    have z_0_46 : gzOk 0 46 gzN := gzOk_of (by decide)
    have z_t1_7 : gzOk t1 7 gzN := gzOk_of ht1
    have z_t1_12 : gzOk t1 12 gzN := gzOk_of ht1
    refine gz_iload (pc := 9) dX10_linkedWithout_9 rfl ?_
    refine gz_bipush (pc := 11) dX10_linkedWithout_11 (v := 10) (by decide) ?_
    refine gz_ic_ge (pc := 13) (tgt := 65) dX10_linkedWithout_13 (by decide) (fun c => ?_) (fun c => ?_)
    · replace h := gz_ifp c h
      refine gz_iload (pc := 65) dX10_linkedWithout_65 rfl ?_
      refine gz_iload_n (pc := 67) dX10_linkedWithout_67 rfl ?_
      refine gz_ic_lt (pc := 68) (tgt := 79) dX10_linkedWithout_68 (by decide) (fun c => ?_) (fun c => ?_)
      · replace h := gz_ifp c h
        refine gz_bipush (pc := 79) dX10_linkedWithout_79 (v := 16) (by decide) ?_
        cases h; exact gz_iret (pc := 81) dX10_linkedWithout_81 rfl ⟨rfl, rfl⟩
      · replace h := gz_ifn c h
        refine gz_iload (pc := 71) dX10_linkedWithout_71 rfl ?_
        refine gz_S (zy := mJ6_bitCount_0f7a4) (zc := 0) (pc := 73) [.inl x5] rfl dX10_linkedWithout_73 lkX10_79 MsJ6_bitCount_0f7a4 rfl (Or.inl rfl) (fun h => h) (by exact Nat.le_of_ble_eq_true rfl) ?_
        obtain ⟨v2, e1, h⟩ := gz_bd h
        refine gz_useI (c_J6_bitCount_0f7a4 e1) ?_
        refine gz_goto (pc := 76) (tgt := 81) dX10_linkedWithout_76 (by decide) ?_
        cases h; exact gz_iret (pc := 81) dX10_linkedWithout_81 rfl ⟨rfl, rfl⟩
    · replace h := gz_ifn c h
      refine gz_aload_n (pc := 16) dX10_linkedWithout_16 rfl ?_
      refine gr_X10_24 (pc := 17) dX10_linkedWithout_17 z_0_41 rfl ?_
      refine gz_iload (pc := 20) dX10_linkedWithout_20 rfl ?_
      obtain ⟨b3, h⟩ := gz_gd h
      refine gz_iald2 (pc := 22) dX10_linkedWithout_22 (k := x6.toNatClampNeg) (v := I 0 46 x6.toNatClampNeg) z_0_46 rfl b3 rfl rfl ?_
      refine gz_if_eq (pc := 23) (tgt := 59) dX10_linkedWithout_23 (by decide) (fun c => ?_) (fun c => ?_)
      · replace h := gz_ifp c h
        refine gz_iinc (pc := 59) dX10_linkedWithout_59 (x := x6) (v := x6 + 1) rfl (by rw [show Int32.ofInt 1 = 1 by decide]) (by decide) rfl (loc2 := [some (.inr (.inr (0, 41))), some (.inr (.inr (t1, 7))), some (.inl x2), some (.inl x3), some (.inl x4), some (.inl x5), some (.inl (x6 + 1))]) rfl ?_
        refine gz_goto (pc := 62) (tgt := 9) dX10_linkedWithout_62 (by decide) ?_
        exact ih x2 x3 x4 x5 (x6 + 1) h
      · replace h := gz_ifn c h
        refine gz_iload_n (pc := 26) dX10_linkedWithout_26 rfl ?_
        refine gz_iload (pc := 27) dX10_linkedWithout_27 rfl ?_
        refine gz_SN (zy := mX11_has) (zc := 0) (pc := 29) [.inl x2, .inl x6] rfl dX10_linkedWithout_29 lnX10_55 MsX11_has rfl (Or.inl rfl) (fun h => h) (by exact Nat.le_of_ble_eq_true rfl) ?_
        obtain ⟨v5, e4, h⟩ := gz_bd h
        refine gz_useI (c_X11_has e4) ?_
        refine gz_if_ne (pc := 32) (tgt := 59) dX10_linkedWithout_32 (by decide) (fun c => ?_) (fun c => ?_)
        · replace h := gz_ifp c h
          refine gz_iinc (pc := 59) dX10_linkedWithout_59 (x := x6) (v := x6 + 1) rfl (by rw [show Int32.ofInt 1 = 1 by decide]) (by decide) rfl (loc2 := [some (.inr (.inr (0, 41))), some (.inr (.inr (t1, 7))), some (.inl x2), some (.inl x3), some (.inl x4), some (.inl x5), some (.inl (x6 + 1))]) rfl ?_
          refine gz_goto (pc := 62) (tgt := 9) dX10_linkedWithout_62 (by decide) ?_
          exact ih x2 x3 x4 x5 (x6 + 1) h
        · replace h := gz_ifn (fun q => q c) h
          refine gz_iload (pc := 35) dX10_linkedWithout_35 rfl ?_
          refine gz_aload_n (pc := 37) dX10_linkedWithout_37 rfl ?_
          refine gr_X10_106 (pc := 38) dX10_linkedWithout_38 z_t1_7 rfl ?_
          refine gz_iload (pc := 41) dX10_linkedWithout_41 rfl ?_
          refine gz_iald2 (pc := 43) dX10_linkedWithout_43 (k := x6.toNatClampNeg) (v := I t1 12 x6.toNatClampNeg) z_t1_12 rfl b3 rfl rfl ?_
          refine gz_iadd (pc := 44) dX10_linkedWithout_44  ?_
          refine gz_istore (pc := 45) dX10_linkedWithout_45 (by decide) rfl (loc2 := [some (.inr (.inr (0, 41))), some (.inr (.inr (t1, 7))), some (.inl x2), some (.inl x3), some (.inl (x4 + (I t1 12 x6.toNatClampNeg))), some (.inl x5), some (.inl x6)]) rfl ?_
          refine gz_iload (pc := 47) dX10_linkedWithout_47 rfl ?_
          refine gz_aload_n (pc := 49) dX10_linkedWithout_49 rfl ?_
          refine gr_X10_24 (pc := 50) dX10_linkedWithout_50 z_0_41 rfl ?_
          refine gz_iload (pc := 53) dX10_linkedWithout_53 rfl ?_
          refine gz_iald2 (pc := 55) dX10_linkedWithout_55 (k := x6.toNatClampNeg) (v := I 0 46 x6.toNatClampNeg) z_0_46 rfl b3 rfl rfl ?_
          refine gz_ior (pc := 56) dX10_linkedWithout_56  ?_
          refine gz_istore (pc := 57) dX10_linkedWithout_57 (by decide) rfl (loc2 := [some (.inr (.inr (0, 41))), some (.inr (.inr (t1, 7))), some (.inl x2), some (.inl x3), some (.inl (x4 + (I t1 12 x6.toNatClampNeg))), some (.inl (x5 ||| (I 0 46 x6.toNatClampNeg))), some (.inl x6)]) rfl ?_
          refine gz_iinc (pc := 59) dX10_linkedWithout_59 (x := x6) (v := x6 + 1) rfl (by rw [show Int32.ofInt 1 = 1 by decide]) (by decide) rfl (loc2 := [some (.inr (.inr (0, 41))), some (.inr (.inr (t1, 7))), some (.inl x2), some (.inl x3), some (.inl (x4 + (I t1 12 x6.toNatClampNeg))), some (.inl (x5 ||| (I 0 46 x6.toNatClampNeg))), some (.inl (x6 + 1))]) rfl ?_
          refine gz_goto (pc := 62) (tgt := 9) dX10_linkedWithout_62 (by decide) ?_
          exact ih x2 x3 (x4 + (I t1 12 x6.toNatClampNeg)) (x5 ||| (I 0 46 x6.toNatClampNeg)) (x6 + 1) h
def f_X10_linkedWithout (φ : Nat) (t1 : Nat) (I : gzIT) (a2 : Int32) (a3 : Int32) : Option Int32 := f_X10_linkedWithout_9 φ t1 I φ a2 a3 0 0 0
set_option maxRecDepth 20000 in
theorem c_X10_linkedWithout {g : gzG} {d φ : Nat} {t1 : Nat} (ht1 : t1 < 15) {a2 : Int32} {a3 : Int32} {I : gzIT} {J : gzJT} {r : Int32} (h : f_X10_linkedWithout φ t1 I a2 a3 = some r) : gzC g 0 (d + 1) mX10_linkedWithout [.inr (.inr (0, 41)), .inr (.inr (t1, 7)), .inl a2, .inl a3] (gzN, gzR0, I, J) (gzE (.ok (some (.inl r))) (gzN, gzR0, I, J)) := by
  unfold f_X10_linkedWithout at h
  refine gzC_of (by decide +kernel) (Nat.le_of_ble_eq_true rfl) (loc := [some (.inr (.inr (0, 41))), some (.inr (.inr (t1, 7))), some (.inl a2), some (.inl a3), none, none, none]) rfl ?_
  refine gz_iconst (pc := 0) dX10_linkedWithout_0 (v := 0) (by decide) ?_
  refine gz_istore (pc := 1) dX10_linkedWithout_1 (by decide) rfl (loc2 := [some (.inr (.inr (0, 41))), some (.inr (.inr (t1, 7))), some (.inl a2), some (.inl a3), some (.inl 0), none, none]) rfl ?_
  refine gz_iconst (pc := 3) dX10_linkedWithout_3 (v := 0) (by decide) ?_
  refine gz_istore (pc := 4) dX10_linkedWithout_4 (by decide) rfl (loc2 := [some (.inr (.inr (0, 41))), some (.inr (.inr (t1, 7))), some (.inl a2), some (.inl a3), some (.inl 0), some (.inl 0), none]) rfl ?_
  refine gz_iconst (pc := 6) dX10_linkedWithout_6 (v := 0) (by decide) ?_
  refine gz_istore (pc := 7) dX10_linkedWithout_7 (by decide) rfl (loc2 := [some (.inr (.inr (0, 41))), some (.inr (.inr (t1, 7))), some (.inl a2), some (.inl a3), some (.inl 0), some (.inl 0), some (.inl 0)]) rfl ?_
  exact p_X10_linkedWithout_9 ht1 φ a2 a3 0 0 0 h
/-! X10_tellPairs: tellPairs -/
def gP_X10_tellPairs_2 (g : gzG) (t1 : Nat) (d : Nat) (r : Unit × gzIT × gzJT) (x2 : Int32) (I : gzIT) (J : gzJT) : Prop := gzX g 0 (d + 1) mX10_tellPairs 2 [some (.inr (.inr (0, 41))), some (.inr (.inr (t1, 7))), some (.inl x2), none, none] [] (gzN, gzR0, I, J) 0 (gzE (.ok none) (gzN, gzR0, r.2.1, r.2.2))
def f_X10_tellPairs_2 (φ : Nat) (t1 : Nat) : Nat → Int32 → gzIT → gzJT → Option (Unit × gzIT × gzJT)
  | 0, _, _, _ => none
  | k + 1, x2, I, J => if 10 ≤ x2 then (some ((), I, J)) else (gzGd (x2) 10 (Option.bind (f_X1_frozen t1 I x2) (fun v3 => if v3 = 0 then (f_X10_tellPairs_2 φ t1 k (x2 + 1) (gz_ui I 0 46 x2.toNatClampNeg 0) J) else (f_X10_tellPairs_2 φ t1 k (x2 + 1) (gz_ui I 0 46 x2.toNatClampNeg ((1 : Int32) <<< (((((if I t1 8 x2.toNatClampNeg < I t1 9 x2.toNatClampNeg then I t1 9 x2.toNatClampNeg else I t1 8 x2.toNatClampNeg) * ((if I t1 8 x2.toNatClampNeg < I t1 9 x2.toNatClampNeg then I t1 9 x2.toNatClampNeg else I t1 8 x2.toNatClampNeg) - 1)) / 2) + (if I t1 9 x2.toNatClampNeg < I t1 8 x2.toNatClampNeg then I t1 9 x2.toNatClampNeg else I t1 8 x2.toNatClampNeg)) &&& 31))) J))))
set_option maxRecDepth 20000 in
theorem p_X10_tellPairs_2 {g : gzG} {d φ : Nat} {t1 : Nat} (ht1 : t1 < 15) {r : Unit × gzIT × gzJT} : ∀ (k : Nat) (x2 : Int32) (I : gzIT) (J : gzJT), f_X10_tellPairs_2 φ t1 k x2 I J = some r → gP_X10_tellPairs_2 g t1 d r x2 I J := by
  intro k; induction k with
  | zero => intro x2 I J h; cases h
  | succ k ih =>
    intro x2 I J h
    unfold f_X10_tellPairs_2 at h
    unfold gP_X10_tellPairs_2
    have z_t1_7 : gzOk t1 7 gzN := gzOk_of ht1
    have z_t1_8 : gzOk t1 8 gzN := gzOk_of ht1
    have z_t1_9 : gzOk t1 9 gzN := gzOk_of ht1
    have z_0_41 : gzOk 0 41 gzN := gzOk_of (by decide)
    have z_0_46 : gzOk 0 46 gzN := gzOk_of (by decide)
    refine gz_iload_n (pc := 2) dX10_tellPairs_2 rfl ?_
    refine gz_bipush (pc := 3) dX10_tellPairs_3 (v := 10) (by decide) ?_
    refine gz_ic_ge (pc := 5) (tgt := 77) dX10_tellPairs_5 (by decide) (fun c => ?_) (fun c => ?_)
    · replace h := gz_ifp c h
      cases h; exact gz_vret (pc := 77) dX10_tellPairs_77 rfl ⟨rfl, rfl⟩
    · replace h := gz_ifn c h
      refine gz_aload_n (pc := 8) dX10_tellPairs_8 rfl ?_
      refine gr_X10_59 (pc := 9) dX10_tellPairs_9 z_t1_7 rfl ?_
      refine gz_iload_n (pc := 12) dX10_tellPairs_12 rfl ?_
      obtain ⟨b1, h⟩ := gz_gd h
      refine gz_iald2 (pc := 13) dX10_tellPairs_13 (k := x2.toNatClampNeg) (v := I t1 8 x2.toNatClampNeg) z_t1_8 rfl b1 rfl rfl ?_
      refine gz_aload_n (pc := 14) dX10_tellPairs_14 rfl ?_
      refine gr_X10_62 (pc := 15) dX10_tellPairs_15 z_t1_7 rfl ?_
      refine gz_iload_n (pc := 18) dX10_tellPairs_18 rfl ?_
      refine gz_iald2 (pc := 19) dX10_tellPairs_19 (k := x2.toNatClampNeg) (v := I t1 9 x2.toNatClampNeg) z_t1_9 rfl b1 rfl rfl ?_
      refine gx_X10_85 (pc := 20) dX10_tellPairs_20 (Nat.le_of_ble_eq_true rfl) rfl ?_
      refine gz_istore_n (pc := 23) dX10_tellPairs_23 (by decide) rfl (loc2 := [some (.inr (.inr (0, 41))), some (.inr (.inr (t1, 7))), some (.inl x2), some (.inl (if I t1 8 x2.toNatClampNeg < I t1 9 x2.toNatClampNeg then I t1 9 x2.toNatClampNeg else I t1 8 x2.toNatClampNeg)), none]) rfl ?_
      refine gz_aload_n (pc := 24) dX10_tellPairs_24 rfl ?_
      refine gr_X10_59 (pc := 25) dX10_tellPairs_25 z_t1_7 rfl ?_
      refine gz_iload_n (pc := 28) dX10_tellPairs_28 rfl ?_
      refine gz_iald2 (pc := 29) dX10_tellPairs_29 (k := x2.toNatClampNeg) (v := I t1 8 x2.toNatClampNeg) z_t1_8 rfl b1 rfl rfl ?_
      refine gz_aload_n (pc := 30) dX10_tellPairs_30 rfl ?_
      refine gr_X10_62 (pc := 31) dX10_tellPairs_31 z_t1_7 rfl ?_
      refine gz_iload_n (pc := 34) dX10_tellPairs_34 rfl ?_
      refine gz_iald2 (pc := 35) dX10_tellPairs_35 (k := x2.toNatClampNeg) (v := I t1 9 x2.toNatClampNeg) z_t1_9 rfl b1 rfl rfl ?_
      refine gn_X10_103 (pc := 36) dX10_tellPairs_36 (Nat.le_of_ble_eq_true rfl) rfl ?_
      refine gz_istore (pc := 39) dX10_tellPairs_39 (by decide) rfl (loc2 := [some (.inr (.inr (0, 41))), some (.inr (.inr (t1, 7))), some (.inl x2), some (.inl (if I t1 8 x2.toNatClampNeg < I t1 9 x2.toNatClampNeg then I t1 9 x2.toNatClampNeg else I t1 8 x2.toNatClampNeg)), some (.inl (if I t1 9 x2.toNatClampNeg < I t1 8 x2.toNatClampNeg then I t1 9 x2.toNatClampNeg else I t1 8 x2.toNatClampNeg))]) rfl ?_
      refine gz_aload_n (pc := 41) dX10_tellPairs_41 rfl ?_
      refine gr_X10_24 (pc := 42) dX10_tellPairs_42 z_0_41 rfl ?_
      refine gz_iload_n (pc := 45) dX10_tellPairs_45 rfl ?_
      refine gz_aload_n (pc := 46) dX10_tellPairs_46 rfl ?_
      refine gz_iload_n (pc := 47) dX10_tellPairs_47 rfl ?_
      refine gz_V (zy := mX1_frozen) (zc := 0) (pc := 48) [.inl x2] rfl dX10_tellPairs_48 lkX10_51 MvX1_frozen rfl z_t1_7 rfl rfl rfl (Or.inl rfl) (fun h => h) (by exact Nat.le_of_ble_eq_true rfl) ?_
      obtain ⟨v3, e2, h⟩ := gz_bd h
      refine gz_useI (c_X1_frozen ht1 e2) ?_
      refine gz_if_eq (pc := 51) (tgt := 69) dX10_tellPairs_51 (by decide) (fun c => ?_) (fun c => ?_)
      · replace h := gz_ifp c h
        refine gz_iconst (pc := 69) dX10_tellPairs_69 (v := 0) (by decide) ?_
        refine gz_iast2 (pc := 70) dX10_tellPairs_70 (k := x2.toNatClampNeg) z_0_46 rfl b1 rfl ?_
        refine gz_iinc (pc := 71) dX10_tellPairs_71 (x := x2) (v := x2 + 1) rfl (by rw [show Int32.ofInt 1 = 1 by decide]) (by decide) rfl (loc2 := [some (.inr (.inr (0, 41))), some (.inr (.inr (t1, 7))), some (.inl (x2 + 1)), some (.inl (if I t1 8 x2.toNatClampNeg < I t1 9 x2.toNatClampNeg then I t1 9 x2.toNatClampNeg else I t1 8 x2.toNatClampNeg)), some (.inl (if I t1 9 x2.toNatClampNeg < I t1 8 x2.toNatClampNeg then I t1 9 x2.toNatClampNeg else I t1 8 x2.toNatClampNeg))]) rfl ?_
        refine gz_goto (pc := 74) (tgt := 2) dX10_tellPairs_74 (by decide) ?_
        exact gz_weak (loc2 := [some (.inr (.inr (0, 41))), some (.inr (.inr (t1, 7))), some (.inl (x2 + 1)), none, none]) (ih (x2 + 1) (gz_ui I 0 46 x2.toNatClampNeg 0) J h) (by repeat (first | exact trivial | refine ⟨rfl, ?_⟩))
      · replace h := gz_ifn c h
        refine gz_iconst (pc := 54) dX10_tellPairs_54 (v := 1) (by decide) ?_
        refine gz_iload_n (pc := 55) dX10_tellPairs_55 rfl ?_
        refine gz_iload_n (pc := 56) dX10_tellPairs_56 rfl ?_
        refine gz_iconst (pc := 57) dX10_tellPairs_57 (v := 1) (by decide) ?_
        refine gz_isub (pc := 58) dX10_tellPairs_58  ?_
        refine gz_imul (pc := 59) dX10_tellPairs_59  ?_
        refine gz_iconst (pc := 60) dX10_tellPairs_60 (v := 2) (by decide) ?_
        refine gz_idiv (pc := 61) dX10_tellPairs_61 (by decide) ?_
        refine gz_iload (pc := 62) dX10_tellPairs_62 rfl ?_
        refine gz_iadd (pc := 64) dX10_tellPairs_64  ?_
        refine gz_ishl (pc := 65) dX10_tellPairs_65  ?_
        refine gz_goto (pc := 66) (tgt := 70) dX10_tellPairs_66 (by decide) ?_
        refine gz_iast2 (pc := 70) dX10_tellPairs_70 (k := x2.toNatClampNeg) z_0_46 rfl b1 rfl ?_
        refine gz_iinc (pc := 71) dX10_tellPairs_71 (x := x2) (v := x2 + 1) rfl (by rw [show Int32.ofInt 1 = 1 by decide]) (by decide) rfl (loc2 := [some (.inr (.inr (0, 41))), some (.inr (.inr (t1, 7))), some (.inl (x2 + 1)), some (.inl (if I t1 8 x2.toNatClampNeg < I t1 9 x2.toNatClampNeg then I t1 9 x2.toNatClampNeg else I t1 8 x2.toNatClampNeg)), some (.inl (if I t1 9 x2.toNatClampNeg < I t1 8 x2.toNatClampNeg then I t1 9 x2.toNatClampNeg else I t1 8 x2.toNatClampNeg))]) rfl ?_
        refine gz_goto (pc := 74) (tgt := 2) dX10_tellPairs_74 (by decide) ?_
        exact gz_weak (loc2 := [some (.inr (.inr (0, 41))), some (.inr (.inr (t1, 7))), some (.inl (x2 + 1)), none, none]) (ih (x2 + 1) (gz_ui I 0 46 x2.toNatClampNeg ((1 : Int32) <<< (((((if I t1 8 x2.toNatClampNeg < I t1 9 x2.toNatClampNeg then I t1 9 x2.toNatClampNeg else I t1 8 x2.toNatClampNeg) * ((if I t1 8 x2.toNatClampNeg < I t1 9 x2.toNatClampNeg then I t1 9 x2.toNatClampNeg else I t1 8 x2.toNatClampNeg) - 1)) / 2) + (if I t1 9 x2.toNatClampNeg < I t1 8 x2.toNatClampNeg then I t1 9 x2.toNatClampNeg else I t1 8 x2.toNatClampNeg)) &&& 31))) J h) (by repeat (first | exact trivial | refine ⟨rfl, ?_⟩))
def f_X10_tellPairs (φ : Nat) (t1 : Nat) (I : gzIT) (J : gzJT) : Option (Unit × gzIT × gzJT) := f_X10_tellPairs_2 φ t1 φ 0 I J
set_option maxRecDepth 20000 in
theorem c_X10_tellPairs {g : gzG} {d φ : Nat} {t1 : Nat} (ht1 : t1 < 15) {I : gzIT} {J : gzJT} {r : Unit × gzIT × gzJT} (h : f_X10_tellPairs φ t1 I J = some r) : gzC g 0 (d + 1) mX10_tellPairs [.inr (.inr (0, 41)), .inr (.inr (t1, 7))] (gzN, gzR0, I, J) (gzE (.ok none) (gzN, gzR0, r.2.1, r.2.2)) := by
  unfold f_X10_tellPairs at h
  refine gzC_of (by decide +kernel) (Nat.le_of_ble_eq_true rfl) (loc := [some (.inr (.inr (0, 41))), some (.inr (.inr (t1, 7))), none, none, none]) rfl ?_
  refine gz_iconst (pc := 0) dX10_tellPairs_0 (v := 0) (by decide) ?_
  refine gz_istore_n (pc := 1) dX10_tellPairs_1 (by decide) rfl (loc2 := [some (.inr (.inr (0, 41))), some (.inr (.inr (t1, 7))), some (.inl 0), none, none]) rfl ?_
  exact p_X10_tellPairs_2 ht1 φ 0 I J h
/-! X10_bestThaw: bestThaw -/
def gP_X10_bestThaw_26 (g : gzG) (t1 : Nat) (d : Nat) (r : Int32 × gzIT × gzJT) (x2 : Int32) (x3 : Int32) (x4 : Int32) (x5 : Int32) (x6 : Int32) (I : gzIT) (J : gzJT) : Prop := gzX g 0 (d + 2) mX10_bestThaw 26 [some (.inr (.inr (0, 41))), some (.inr (.inr (t1, 0))), some (.inl x2), some (.inl x3), some (.inl x4), some (.inl x5), some (.inl x6), none, none] [] (gzN, gzR0, I, J) 0 (gzE (.ok (some (.inl r.1))) (gzN, gzR0, r.2.1, r.2.2))
def f_X10_bestThaw_26 (φ : Nat) (t1 : Nat) : Nat → Int32 → Int32 → Int32 → Int32 → Int32 → gzIT → gzJT → Option (Int32 × gzIT × gzJT)
  | 0, _, _, _, _, _, _, _ => none
  | k + 1, x2, x3, x4, x5, x6, I, J => if x3 < x6 then (some (x4, I, J)) else (if ¬ x6 &&& (x3 ^^^ (-1)) = 0 then (f_X10_bestThaw_26 φ t1 k x2 x3 x4 x5 (x6 + 1) I J) else (Option.bind (f_X10_linkedWithout φ t1 I x6 x2) (fun v6 => Option.bind (f_J6_bitCount_0f7a4 x6) (fun v8 => Option.bind (f_J6_bitCount_0f7a4 x4) (fun v10 => if v6 < x5 then (f_X10_bestThaw_26 φ t1 k x2 x3 x6 v6 (x6 + 1) I J) else (if ¬ v6 = x5 then (f_X10_bestThaw_26 φ t1 k x2 x3 x4 x5 (x6 + 1) I J) else (if (if v10 ≤ v8 then (0 : Int32) else 1) = 0 then (f_X10_bestThaw_26 φ t1 k x2 x3 x4 x5 (x6 + 1) I J) else (if x4 = (-1) then (f_X10_bestThaw_26 φ t1 k x2 x3 x4 x5 (x6 + 1) I J) else (f_X10_bestThaw_26 φ t1 k x2 x3 x6 v6 (x6 + 1) I J)))))))))
set_option maxRecDepth 20000 in
theorem p_X10_bestThaw_26 {g : gzG} {d φ : Nat} {t1 : Nat} (ht1 : t1 < 15) {r : Int32 × gzIT × gzJT} : ∀ (k : Nat) (x2 : Int32) (x3 : Int32) (x4 : Int32) (x5 : Int32) (x6 : Int32) (I : gzIT) (J : gzJT), f_X10_bestThaw_26 φ t1 k x2 x3 x4 x5 x6 I J = some r → gP_X10_bestThaw_26 g t1 d r x2 x3 x4 x5 x6 I J := by
  intro k; induction k with
  | zero => intro x2 x3 x4 x5 x6 I J h; cases h
  | succ k ih =>
    intro x2 x3 x4 x5 x6 I J h
    unfold f_X10_bestThaw_26 at h
    unfold gP_X10_bestThaw_26
    have z_t1_0 : gzOk t1 0 gzN := gzOk_of ht1
    have z_0_41 : gzOk 0 41 gzN := gzOk_of (by decide)
    refine gz_iload (pc := 26) dX10_bestThaw_26 rfl ?_
    refine gz_iload_n (pc := 28) dX10_bestThaw_28 rfl ?_
    refine gz_ic_gt (pc := 29) (tgt := 113) dX10_bestThaw_29 (by decide) (fun c => ?_) (fun c => ?_)
    · replace h := gz_ifp c h
      refine gz_iload (pc := 113) dX10_bestThaw_113 rfl ?_
      cases h; exact gz_iret (pc := 115) dX10_bestThaw_115 rfl ⟨rfl, rfl⟩
    · replace h := gz_ifn c h
      refine gz_iload (pc := 32) dX10_bestThaw_32 rfl ?_
      refine gz_iload_n (pc := 34) dX10_bestThaw_34 rfl ?_
      refine gz_iconst (pc := 35) dX10_bestThaw_35 (v := (-1)) (by decide) ?_
      refine gz_ixor (pc := 36) dX10_bestThaw_36  ?_
      refine gz_iand (pc := 37) dX10_bestThaw_37  ?_
      refine gz_if_ne (pc := 38) (tgt := 107) dX10_bestThaw_38 (by decide) (fun c => ?_) (fun c => ?_)
      · replace h := gz_ifp c h
        refine gz_iinc (pc := 107) dX10_bestThaw_107 (x := x6) (v := x6 + 1) rfl (by rw [show Int32.ofInt 1 = 1 by decide]) (by decide) rfl (loc2 := [some (.inr (.inr (0, 41))), some (.inr (.inr (t1, 0))), some (.inl x2), some (.inl x3), some (.inl x4), some (.inl x5), some (.inl (x6 + 1)), none, none]) rfl ?_
        refine gz_goto (pc := 110) (tgt := 26) dX10_bestThaw_110 (by decide) ?_
        exact ih x2 x3 x4 x5 (x6 + 1) I J h
      · replace h := gz_ifn (fun q => q c) h
        refine gz_aload_n (pc := 41) dX10_bestThaw_41 rfl ?_
        refine gz_aload_n (pc := 42) dX10_bestThaw_42 rfl ?_
        refine gr_X10_44 (pc := 43) dX10_bestThaw_43 z_t1_0 rfl ?_
        refine gz_iload (pc := 46) dX10_bestThaw_46 rfl ?_
        refine gz_iload_n (pc := 48) dX10_bestThaw_48 rfl ?_
        refine gz_V (zy := mX10_linkedWithout) (zc := 0) (pc := 49) [.inr (.inr (t1, 7)), .inl x6, .inl x2] rfl dX10_bestThaw_49 lkX10_99 MvX10_linkedWithout rfl z_0_41 rfl rfl rfl (Or.inl rfl) (fun h => h) (by exact Nat.le_of_ble_eq_true rfl) ?_
        obtain ⟨v6, e5, h⟩ := gz_bd h
        refine gz_useI (c_X10_linkedWithout ht1 e5) ?_
        refine gz_istore (pc := 52) dX10_bestThaw_52 (by decide) rfl (loc2 := [some (.inr (.inr (0, 41))), some (.inr (.inr (t1, 0))), some (.inl x2), some (.inl x3), some (.inl x4), some (.inl x5), some (.inl x6), some (.inl v6), none]) rfl ?_
        refine gz_iload (pc := 54) dX10_bestThaw_54 rfl ?_
        refine gz_S (zy := mJ6_bitCount_0f7a4) (zc := 0) (pc := 56) [.inl x6] rfl dX10_bestThaw_56 lkX10_79 MsJ6_bitCount_0f7a4 rfl (Or.inl rfl) (fun h => h) (by exact Nat.le_of_ble_eq_true rfl) ?_
        obtain ⟨v8, e7, h⟩ := gz_bd h
        refine gz_useI (c_J6_bitCount_0f7a4 e7) ?_
        refine gz_iload (pc := 59) dX10_bestThaw_59 rfl ?_
        refine gz_S (zy := mJ6_bitCount_0f7a4) (zc := 0) (pc := 61) [.inl x4] rfl dX10_bestThaw_61 lkX10_79 MsJ6_bitCount_0f7a4 rfl (Or.inl rfl) (fun h => h) (by exact Nat.le_of_ble_eq_true rfl) ?_
        obtain ⟨v10, e9, h⟩ := gz_bd h
        refine gz_useI (c_J6_bitCount_0f7a4 e9) ?_
        have kj11 : gzX g 0 (d + 2) mX10_bestThaw 72 [some (.inr (.inr (0, 41))), some (.inr (.inr (t1, 0))), some (.inl x2), some (.inl x3), some (.inl x4), some (.inl x5), some (.inl x6), some (.inl v6), none] ([.inl (if v10 ≤ v8 then (0 : Int32) else 1)]) (gzN, gzR0, I, J) 0 (gzE (.ok (some (.inl r.1))) (gzN, gzR0, r.2.1, r.2.2)) := by
          refine gz_istore (pc := 72) dX10_bestThaw_72 (by decide) rfl (loc2 := [some (.inr (.inr (0, 41))), some (.inr (.inr (t1, 0))), some (.inl x2), some (.inl x3), some (.inl x4), some (.inl x5), some (.inl x6), some (.inl v6), some (.inl (if v10 ≤ v8 then (0 : Int32) else 1))]) rfl ?_
          refine gz_iload (pc := 74) dX10_bestThaw_74 rfl ?_
          refine gz_iload (pc := 76) dX10_bestThaw_76 rfl ?_
          refine gz_ic_lt (pc := 78) (tgt := 99) dX10_bestThaw_78 (by decide) (fun c => ?_) (fun c => ?_)
          · replace h := gz_ifp c h
            refine gz_iload (pc := 99) dX10_bestThaw_99 rfl ?_
            refine gz_istore (pc := 101) dX10_bestThaw_101 (by decide) rfl (loc2 := [some (.inr (.inr (0, 41))), some (.inr (.inr (t1, 0))), some (.inl x2), some (.inl x3), some (.inl x4), some (.inl v6), some (.inl x6), some (.inl v6), some (.inl (if v10 ≤ v8 then (0 : Int32) else 1))]) rfl ?_
            refine gz_iload (pc := 103) dX10_bestThaw_103 rfl ?_
            refine gz_istore (pc := 105) dX10_bestThaw_105 (by decide) rfl (loc2 := [some (.inr (.inr (0, 41))), some (.inr (.inr (t1, 0))), some (.inl x2), some (.inl x3), some (.inl x6), some (.inl v6), some (.inl x6), some (.inl v6), some (.inl (if v10 ≤ v8 then (0 : Int32) else 1))]) rfl ?_
            refine gz_iinc (pc := 107) dX10_bestThaw_107 (x := x6) (v := x6 + 1) rfl (by rw [show Int32.ofInt 1 = 1 by decide]) (by decide) rfl (loc2 := [some (.inr (.inr (0, 41))), some (.inr (.inr (t1, 0))), some (.inl x2), some (.inl x3), some (.inl x6), some (.inl v6), some (.inl (x6 + 1)), some (.inl v6), some (.inl (if v10 ≤ v8 then (0 : Int32) else 1))]) rfl ?_
            refine gz_goto (pc := 110) (tgt := 26) dX10_bestThaw_110 (by decide) ?_
            exact gz_weak (loc2 := [some (.inr (.inr (0, 41))), some (.inr (.inr (t1, 0))), some (.inl x2), some (.inl x3), some (.inl x6), some (.inl v6), some (.inl (x6 + 1)), none, none]) (ih x2 x3 x6 v6 (x6 + 1) I J h) (by repeat (first | exact trivial | refine ⟨rfl, ?_⟩))
          · replace h := gz_ifn c h
            refine gz_iload (pc := 81) dX10_bestThaw_81 rfl ?_
            refine gz_iload (pc := 83) dX10_bestThaw_83 rfl ?_
            refine gz_ic_ne (pc := 85) (tgt := 107) dX10_bestThaw_85 (by decide) (fun c => ?_) (fun c => ?_)
            · replace h := gz_ifp c h
              refine gz_iinc (pc := 107) dX10_bestThaw_107 (x := x6) (v := x6 + 1) rfl (by rw [show Int32.ofInt 1 = 1 by decide]) (by decide) rfl (loc2 := [some (.inr (.inr (0, 41))), some (.inr (.inr (t1, 0))), some (.inl x2), some (.inl x3), some (.inl x4), some (.inl x5), some (.inl (x6 + 1)), some (.inl v6), some (.inl (if v10 ≤ v8 then (0 : Int32) else 1))]) rfl ?_
              refine gz_goto (pc := 110) (tgt := 26) dX10_bestThaw_110 (by decide) ?_
              exact gz_weak (loc2 := [some (.inr (.inr (0, 41))), some (.inr (.inr (t1, 0))), some (.inl x2), some (.inl x3), some (.inl x4), some (.inl x5), some (.inl (x6 + 1)), none, none]) (ih x2 x3 x4 x5 (x6 + 1) I J h) (by repeat (first | exact trivial | refine ⟨rfl, ?_⟩))
            · replace h := gz_ifn (fun q => q c) h
              refine gz_iload (pc := 88) dX10_bestThaw_88 rfl ?_
              refine gz_if_eq (pc := 90) (tgt := 107) dX10_bestThaw_90 (by decide) (fun c => ?_) (fun c => ?_)
              · replace h := gz_ifp c h
                refine gz_iinc (pc := 107) dX10_bestThaw_107 (x := x6) (v := x6 + 1) rfl (by rw [show Int32.ofInt 1 = 1 by decide]) (by decide) rfl (loc2 := [some (.inr (.inr (0, 41))), some (.inr (.inr (t1, 0))), some (.inl x2), some (.inl x3), some (.inl x4), some (.inl x5), some (.inl (x6 + 1)), some (.inl v6), some (.inl (if v10 ≤ v8 then (0 : Int32) else 1))]) rfl ?_
                refine gz_goto (pc := 110) (tgt := 26) dX10_bestThaw_110 (by decide) ?_
                exact gz_weak (loc2 := [some (.inr (.inr (0, 41))), some (.inr (.inr (t1, 0))), some (.inl x2), some (.inl x3), some (.inl x4), some (.inl x5), some (.inl (x6 + 1)), none, none]) (ih x2 x3 x4 x5 (x6 + 1) I J h) (by repeat (first | exact trivial | refine ⟨rfl, ?_⟩))
              · replace h := gz_ifn c h
                refine gz_iload (pc := 93) dX10_bestThaw_93 rfl ?_
                refine gz_iconst (pc := 95) dX10_bestThaw_95 (v := (-1)) (by decide) ?_
                refine gz_ic_eq (pc := 96) (tgt := 107) dX10_bestThaw_96 (by decide) (fun c => ?_) (fun c => ?_)
                · replace h := gz_ifp c h
                  refine gz_iinc (pc := 107) dX10_bestThaw_107 (x := x6) (v := x6 + 1) rfl (by rw [show Int32.ofInt 1 = 1 by decide]) (by decide) rfl (loc2 := [some (.inr (.inr (0, 41))), some (.inr (.inr (t1, 0))), some (.inl x2), some (.inl x3), some (.inl x4), some (.inl x5), some (.inl (x6 + 1)), some (.inl v6), some (.inl (if v10 ≤ v8 then (0 : Int32) else 1))]) rfl ?_
                  refine gz_goto (pc := 110) (tgt := 26) dX10_bestThaw_110 (by decide) ?_
                  exact gz_weak (loc2 := [some (.inr (.inr (0, 41))), some (.inr (.inr (t1, 0))), some (.inl x2), some (.inl x3), some (.inl x4), some (.inl x5), some (.inl (x6 + 1)), none, none]) (ih x2 x3 x4 x5 (x6 + 1) I J h) (by repeat (first | exact trivial | refine ⟨rfl, ?_⟩))
                · replace h := gz_ifn c h
                  refine gz_iload (pc := 99) dX10_bestThaw_99 rfl ?_
                  refine gz_istore (pc := 101) dX10_bestThaw_101 (by decide) rfl (loc2 := [some (.inr (.inr (0, 41))), some (.inr (.inr (t1, 0))), some (.inl x2), some (.inl x3), some (.inl x4), some (.inl v6), some (.inl x6), some (.inl v6), some (.inl (if v10 ≤ v8 then (0 : Int32) else 1))]) rfl ?_
                  refine gz_iload (pc := 103) dX10_bestThaw_103 rfl ?_
                  refine gz_istore (pc := 105) dX10_bestThaw_105 (by decide) rfl (loc2 := [some (.inr (.inr (0, 41))), some (.inr (.inr (t1, 0))), some (.inl x2), some (.inl x3), some (.inl x6), some (.inl v6), some (.inl x6), some (.inl v6), some (.inl (if v10 ≤ v8 then (0 : Int32) else 1))]) rfl ?_
                  refine gz_iinc (pc := 107) dX10_bestThaw_107 (x := x6) (v := x6 + 1) rfl (by rw [show Int32.ofInt 1 = 1 by decide]) (by decide) rfl (loc2 := [some (.inr (.inr (0, 41))), some (.inr (.inr (t1, 0))), some (.inl x2), some (.inl x3), some (.inl x6), some (.inl v6), some (.inl (x6 + 1)), some (.inl v6), some (.inl (if v10 ≤ v8 then (0 : Int32) else 1))]) rfl ?_
                  refine gz_goto (pc := 110) (tgt := 26) dX10_bestThaw_110 (by decide) ?_
                  exact gz_weak (loc2 := [some (.inr (.inr (0, 41))), some (.inr (.inr (t1, 0))), some (.inl x2), some (.inl x3), some (.inl x6), some (.inl v6), some (.inl (x6 + 1)), none, none]) (ih x2 x3 x6 v6 (x6 + 1) I J h) (by repeat (first | exact trivial | refine ⟨rfl, ?_⟩))
        refine gz_ic_ge (pc := 64) (tgt := 71) dX10_bestThaw_64 (by decide) (fun c => ?_) (fun c => ?_)
        · rw [if_pos c] at kj11
          refine gz_iconst (pc := 71) dX10_bestThaw_71 (v := 0) (by decide) ?_
          exact kj11
        · rw [if_neg c] at kj11
          refine gz_iconst (pc := 67) dX10_bestThaw_67 (v := 1) (by decide) ?_
          refine gz_goto (pc := 68) (tgt := 72) dX10_bestThaw_68 (by decide) ?_
          exact kj11
def f_X10_bestThaw (φ : Nat) (t1 : Nat) (a2 : Int32) (I : gzIT) (J : gzJT) : Option (Int32 × gzIT × gzJT) := Option.bind (f_X10_tellPairs φ t1 I J) (fun v2 => Option.bind (f_X1_frozenOnes φ t1 v2.2.1) (fun v4 => f_X10_bestThaw_26 φ t1 φ a2 v4 (-1) 16 0 v2.2.1 v2.2.2))
set_option maxRecDepth 20000 in
theorem c_X10_bestThaw {g : gzG} {d φ : Nat} {t1 : Nat} (ht1 : t1 < 15) {a2 : Int32} {I : gzIT} {J : gzJT} {r : Int32 × gzIT × gzJT} (h : f_X10_bestThaw φ t1 a2 I J = some r) : gzC g 0 (d + 2) mX10_bestThaw [.inr (.inr (0, 41)), .inr (.inr (t1, 0)), .inl a2] (gzN, gzR0, I, J) (gzE (.ok (some (.inl r.1))) (gzN, gzR0, r.2.1, r.2.2)) := by
  unfold f_X10_bestThaw at h
  refine gzC_of (by decide +kernel) (Nat.le_of_ble_eq_true rfl) (loc := [some (.inr (.inr (0, 41))), some (.inr (.inr (t1, 0))), some (.inl a2), none, none, none, none, none, none]) rfl ?_
  have z_t1_0 : gzOk t1 0 gzN := gzOk_of ht1
  have z_0_41 : gzOk 0 41 gzN := gzOk_of (by decide)
  have z_t1_7 : gzOk t1 7 gzN := gzOk_of ht1
  refine gz_aload_n (pc := 0) dX10_bestThaw_0 rfl ?_
  refine gz_aload_n (pc := 1) dX10_bestThaw_1 rfl ?_
  refine gr_X10_44 (pc := 2) dX10_bestThaw_2 z_t1_0 rfl ?_
  refine gz_V (zy := mX10_tellPairs) (zc := 0) (pc := 5) [.inr (.inr (t1, 7))] rfl dX10_bestThaw_5 lkX10_91 MvX10_tellPairs rfl z_0_41 rfl rfl rfl (Or.inl rfl) (fun h => h) (by exact Nat.le_of_ble_eq_true rfl) ?_
  obtain ⟨v2, e1, h⟩ := gz_bd h
  refine gz_useV (c_X10_tellPairs ht1 e1) ?_
  refine gz_aload_n (pc := 8) dX10_bestThaw_8 rfl ?_
  refine gr_X10_44 (pc := 9) dX10_bestThaw_9 z_t1_0 rfl ?_
  refine gz_V (zy := mX1_frozenOnes) (zc := 0) (pc := 12) [] rfl dX10_bestThaw_12 lkX10_95 MvX1_frozenOnes rfl z_t1_7 rfl rfl rfl (Or.inl rfl) (fun h => h) (by exact Nat.le_of_ble_eq_true rfl) ?_
  obtain ⟨v4, e3, h⟩ := gz_bd h
  refine gz_useI (c_X1_frozenOnes ht1 e3) ?_
  refine gz_istore_n (pc := 15) dX10_bestThaw_15 (by decide) rfl (loc2 := [some (.inr (.inr (0, 41))), some (.inr (.inr (t1, 0))), some (.inl a2), some (.inl v4), none, none, none, none, none]) rfl ?_
  refine gz_iconst (pc := 16) dX10_bestThaw_16 (v := (-1)) (by decide) ?_
  refine gz_istore (pc := 17) dX10_bestThaw_17 (by decide) rfl (loc2 := [some (.inr (.inr (0, 41))), some (.inr (.inr (t1, 0))), some (.inl a2), some (.inl v4), some (.inl (-1)), none, none, none, none]) rfl ?_
  refine gz_bipush (pc := 19) dX10_bestThaw_19 (v := 16) (by decide) ?_
  refine gz_istore (pc := 21) dX10_bestThaw_21 (by decide) rfl (loc2 := [some (.inr (.inr (0, 41))), some (.inr (.inr (t1, 0))), some (.inl a2), some (.inl v4), some (.inl (-1)), some (.inl 16), none, none, none]) rfl ?_
  refine gz_iconst (pc := 23) dX10_bestThaw_23 (v := 0) (by decide) ?_
  refine gz_istore (pc := 24) dX10_bestThaw_24 (by decide) rfl (loc2 := [some (.inr (.inr (0, 41))), some (.inr (.inr (t1, 0))), some (.inl a2), some (.inl v4), some (.inl (-1)), some (.inl 16), some (.inl 0), none, none]) rfl ?_
  exact p_X10_bestThaw_26 ht1 φ a2 v4 (-1) 16 0 v2.2.1 v2.2.2 h
/-! X10_pair: pair -/
def gP_X10_pair_68 (g : gzG) (t1 : Nat) (d : Nat) (r : Unit × gzIT × gzJT) (x2 : Int32) (x3 : Int32) (x4 : Int32) (I : gzIT) (J : gzJT) : Prop := gzX g 0 (d + 1) mX10_pair 68 [some (.inr (.inr (0, 41))), some (.inr (.inr (t1, 1))), some (.inl x2), some (.inl x3), some (.inl x4)] [] (gzN, gzR0, I, J) 0 (gzE (.ok none) (gzN, gzR0, r.2.1, r.2.2))
def f_X10_pair_68 (φ : Nat) (t1 : Nat) (R : Int32 → Int32 → gzIT → gzJT → Option (Unit × gzIT × gzJT)) : Nat → Int32 → Int32 → Int32 → gzIT → gzJT → Option (Unit × gzIT × gzJT)
  | 0, _, _, _, _, _ => none
  | k + 1, x2, x3, x4, I, J => if I 0 41 5 ≤ x4 then (some ((), I, J)) else (gzGd (x4) 6 (if ¬ I 0 44 x4.toNatClampNeg = (-1) then (f_X10_pair_68 φ t1 R k x2 x3 (x4 + 1) I J) else (gzGd (x2) 6 (Option.bind (f_X11_has (I 0 42 x2.toNatClampNeg) x4) (fun v13 => if ¬ v13 = 0 then (f_X10_pair_68 φ t1 R k x2 x3 (x4 + 1) I J) else (Option.bind (R (x2 + 1) ((x3 + (I t1 2 x2.toNatClampNeg)) + (I t1 2 x4.toNatClampNeg)) (gz_ui (gz_ui I 0 44 x2.toNatClampNeg x4) 0 44 x4.toNatClampNeg x2) J) (fun v15 => f_X10_pair_68 φ t1 R k x2 x3 (x4 + 1) (gz_ui (gz_ui v15.2.1 0 44 x2.toNatClampNeg (-1)) 0 44 x4.toNatClampNeg (-1)) v15.2.2)))))))
set_option maxRecDepth 20000 in
theorem p_X10_pair_68 {g : gzG} {d φ : Nat} {t1 : Nat} (ht1 : t1 < 15) {r : Unit × gzIT × gzJT} {R : Int32 → Int32 → gzIT → gzJT → Option (Unit × gzIT × gzJT)} (hR : ∀ e, d ≤ e → ∀ (q0 : Int32) (q1 : Int32) (I : gzIT) (J : gzJT) (r : Unit × gzIT × gzJT), R q0 q1 I J = some r → gzC g 0 e mX10_pair [.inr (.inr (0, 41)), .inr (.inr (t1, 1)), .inl q0, .inl q1] (gzN, gzR0, I, J) (gzE (.ok none) (gzN, gzR0, r.2.1, r.2.2))) : ∀ (k : Nat) (x2 : Int32) (x3 : Int32) (x4 : Int32) (I : gzIT) (J : gzJT), f_X10_pair_68 φ t1 R k x2 x3 x4 I J = some r → gP_X10_pair_68 g t1 d r x2 x3 x4 I J := by
  intro k; induction k with
  | zero => intro x2 x3 x4 I J h; cases h
  | succ k ih =>
    intro x2 x3 x4 I J h
    unfold f_X10_pair_68 at h
    unfold gP_X10_pair_68
    have z_0_41 : gzOk 0 41 gzN := gzOk_of (by decide)
    have z_0_44 : gzOk 0 44 gzN := gzOk_of (by decide)
    have z_0_42 : gzOk 0 42 gzN := gzOk_of (by decide)
    have z_t1_1 : gzOk t1 1 gzN := gzOk_of ht1
    have z_t1_2 : gzOk t1 2 gzN := gzOk_of ht1
    refine gz_iload (pc := 68) dX10_pair_68 rfl ?_
    refine gz_aload_n (pc := 70) dX10_pair_70 rfl ?_
    refine gi_X10_27 (pc := 71) dX10_pair_71 (v := I 0 41 5) z_0_41 rfl rfl ?_
    refine gz_ic_ge (pc := 74) (tgt := 163) dX10_pair_74 (by decide) (fun c => ?_) (fun c => ?_)
    · replace h := gz_ifp c h
      cases h; exact gz_vret (pc := 163) dX10_pair_163 rfl ⟨rfl, rfl⟩
    · replace h := gz_ifn c h
      refine gz_aload_n (pc := 77) dX10_pair_77 rfl ?_
      refine gr_X10_18 (pc := 78) dX10_pair_78 z_0_41 rfl ?_
      refine gz_iload (pc := 81) dX10_pair_81 rfl ?_
      obtain ⟨b10, h⟩ := gz_gd h
      refine gz_iald2 (pc := 83) dX10_pair_83 (k := x4.toNatClampNeg) (v := I 0 44 x4.toNatClampNeg) z_0_44 rfl b10 rfl rfl ?_
      refine gz_iconst (pc := 84) dX10_pair_84 (v := (-1)) (by decide) ?_
      refine gz_ic_ne (pc := 85) (tgt := 157) dX10_pair_85 (by decide) (fun c => ?_) (fun c => ?_)
      · replace h := gz_ifp c h
        refine gz_iinc (pc := 157) dX10_pair_157 (x := x4) (v := x4 + 1) rfl (by rw [show Int32.ofInt 1 = 1 by decide]) (by decide) rfl (loc2 := [some (.inr (.inr (0, 41))), some (.inr (.inr (t1, 1))), some (.inl x2), some (.inl x3), some (.inl (x4 + 1))]) rfl ?_
        refine gz_goto (pc := 160) (tgt := 68) dX10_pair_160 (by decide) ?_
        exact ih x2 x3 (x4 + 1) I J h
      · replace h := gz_ifn (fun q => q c) h
        refine gz_aload_n (pc := 88) dX10_pair_88 rfl ?_
        refine gr_X10_9 (pc := 89) dX10_pair_89 z_0_41 rfl ?_
        refine gz_iload_n (pc := 92) dX10_pair_92 rfl ?_
        obtain ⟨b11, h⟩ := gz_gd h
        refine gz_iald2 (pc := 93) dX10_pair_93 (k := x2.toNatClampNeg) (v := I 0 42 x2.toNatClampNeg) z_0_42 rfl b11 rfl rfl ?_
        refine gz_iload (pc := 94) dX10_pair_94 rfl ?_
        refine gz_SN (zy := mX11_has) (zc := 0) (pc := 96) [.inl (I 0 42 x2.toNatClampNeg), .inl x4] rfl dX10_pair_96 lnX10_55 MsX11_has rfl (Or.inl rfl) (fun h => h) (by exact Nat.le_of_ble_eq_true rfl) ?_
        obtain ⟨v13, e12, h⟩ := gz_bd h
        refine gz_useI (c_X11_has e12) ?_
        refine gz_if_ne (pc := 99) (tgt := 157) dX10_pair_99 (by decide) (fun c => ?_) (fun c => ?_)
        · replace h := gz_ifp c h
          refine gz_iinc (pc := 157) dX10_pair_157 (x := x4) (v := x4 + 1) rfl (by rw [show Int32.ofInt 1 = 1 by decide]) (by decide) rfl (loc2 := [some (.inr (.inr (0, 41))), some (.inr (.inr (t1, 1))), some (.inl x2), some (.inl x3), some (.inl (x4 + 1))]) rfl ?_
          refine gz_goto (pc := 160) (tgt := 68) dX10_pair_160 (by decide) ?_
          exact ih x2 x3 (x4 + 1) I J h
        · replace h := gz_ifn (fun q => q c) h
          refine gz_aload_n (pc := 102) dX10_pair_102 rfl ?_
          refine gr_X10_18 (pc := 103) dX10_pair_103 z_0_41 rfl ?_
          refine gz_iload_n (pc := 106) dX10_pair_106 rfl ?_
          refine gz_iload (pc := 107) dX10_pair_107 rfl ?_
          refine gz_iast2 (pc := 109) dX10_pair_109 (k := x2.toNatClampNeg) z_0_44 rfl b11 rfl ?_
          refine gz_aload_n (pc := 110) dX10_pair_110 rfl ?_
          refine gr_X10_18 (pc := 111) dX10_pair_111 z_0_41 rfl ?_
          refine gz_iload (pc := 114) dX10_pair_114 rfl ?_
          refine gz_iload_n (pc := 116) dX10_pair_116 rfl ?_
          refine gz_iast2 (pc := 117) dX10_pair_117 (k := x4.toNatClampNeg) z_0_44 rfl b10 rfl ?_
          refine gz_aload_n (pc := 118) dX10_pair_118 rfl ?_
          refine gz_aload_n (pc := 119) dX10_pair_119 rfl ?_
          refine gz_iload_n (pc := 120) dX10_pair_120 rfl ?_
          refine gz_iconst (pc := 121) dX10_pair_121 (v := 1) (by decide) ?_
          refine gz_iadd (pc := 122) dX10_pair_122  ?_
          refine gz_iload_n (pc := 123) dX10_pair_123 rfl ?_
          refine gz_aload_n (pc := 124) dX10_pair_124 rfl ?_
          refine gr_X10_117 (pc := 125) dX10_pair_125 z_t1_1 rfl ?_
          refine gz_iload_n (pc := 128) dX10_pair_128 rfl ?_
          refine gz_iald2 (pc := 129) dX10_pair_129 (k := x2.toNatClampNeg) (v := I t1 2 x2.toNatClampNeg) z_t1_2 rfl b11 rfl ((gz_ui_o (by decide)).trans (gz_ui_o (by decide))) ?_
          refine gz_iadd (pc := 130) dX10_pair_130  ?_
          refine gz_aload_n (pc := 131) dX10_pair_131 rfl ?_
          refine gr_X10_117 (pc := 132) dX10_pair_132 z_t1_1 rfl ?_
          refine gz_iload (pc := 135) dX10_pair_135 rfl ?_
          refine gz_iald2 (pc := 137) dX10_pair_137 (k := x4.toNatClampNeg) (v := I t1 2 x4.toNatClampNeg) z_t1_2 rfl b10 rfl ((gz_ui_o (by decide)).trans (gz_ui_o (by decide))) ?_
          refine gz_iadd (pc := 138) dX10_pair_138  ?_
          refine gz_V (zy := mX10_pair) (zc := 0) (pc := 139) [.inr (.inr (t1, 1)), .inl (x2 + 1), .inl ((x3 + (I t1 2 x2.toNatClampNeg)) + (I t1 2 x4.toNatClampNeg))] rfl dX10_pair_139 lkX10_109 MvX10_pair rfl z_0_41 rfl rfl rfl (Or.inl rfl) (fun h => h) (by exact Nat.le_of_ble_eq_true rfl) ?_
          obtain ⟨v15, e14, h⟩ := gz_bd h
          refine gz_useV (hR _ (by omega) _ _ _ _ _ e14) ?_
          refine gz_aload_n (pc := 142) dX10_pair_142 rfl ?_
          refine gr_X10_18 (pc := 143) dX10_pair_143 z_0_41 rfl ?_
          refine gz_iload_n (pc := 146) dX10_pair_146 rfl ?_
          refine gz_iconst (pc := 147) dX10_pair_147 (v := (-1)) (by decide) ?_
          refine gz_iast2 (pc := 148) dX10_pair_148 (k := x2.toNatClampNeg) z_0_44 rfl b11 rfl ?_
          refine gz_aload_n (pc := 149) dX10_pair_149 rfl ?_
          refine gr_X10_18 (pc := 150) dX10_pair_150 z_0_41 rfl ?_
          refine gz_iload (pc := 153) dX10_pair_153 rfl ?_
          refine gz_iconst (pc := 155) dX10_pair_155 (v := (-1)) (by decide) ?_
          refine gz_iast2 (pc := 156) dX10_pair_156 (k := x4.toNatClampNeg) z_0_44 rfl b10 rfl ?_
          refine gz_iinc (pc := 157) dX10_pair_157 (x := x4) (v := x4 + 1) rfl (by rw [show Int32.ofInt 1 = 1 by decide]) (by decide) rfl (loc2 := [some (.inr (.inr (0, 41))), some (.inr (.inr (t1, 1))), some (.inl x2), some (.inl x3), some (.inl (x4 + 1))]) rfl ?_
          refine gz_goto (pc := 160) (tgt := 68) dX10_pair_160 (by decide) ?_
          exact ih x2 x3 (x4 + 1) (gz_ui (gz_ui v15.2.1 0 44 x2.toNatClampNeg (-1)) 0 44 x4.toNatClampNeg (-1)) v15.2.2 h
def fR_X10_pair (φ : Nat) (t1 : Nat) : Nat → Int32 → Int32 → gzIT → gzJT → Option (Unit × gzIT × gzJT)
  | 0, _, _, _, _ => none
  | k + 1, a2, a3, I, J => if a2 < 0 then (if a3 ≤ I 0 41 6 then (some ((), I, J)) else (Option.bind (f_X11_copy 0 44 6 0 45 6 (gz_ui I 0 41 6 a3) J) (fun v2 => some ((), v2.2.1, v2.2.2)))) else (if I 0 41 5 ≤ a2 then (if a3 ≤ I 0 41 6 then (some ((), I, J)) else (Option.bind (f_X11_copy 0 44 6 0 45 6 (gz_ui I 0 41 6 a3) J) (fun v4 => some ((), v4.2.1, v4.2.2)))) else (if a2 < 6 then (Option.bind ((fR_X10_pair φ t1 k) (a2 + 1) a3 I J) (fun v6 => gzGd (a2) 6 (if v6.2.1 0 44 a2.toNatClampNeg = (-1) then (f_X10_pair_68 φ t1 (fR_X10_pair φ t1 k) φ a2 a3 (a2 + 1) v6.2.1 v6.2.2) else (some ((), v6.2.1, v6.2.2))))) else (if a3 ≤ I 0 41 6 then (some ((), I, J)) else (Option.bind (f_X11_copy 0 44 6 0 45 6 (gz_ui I 0 41 6 a3) J) (fun v9 => some ((), v9.2.1, v9.2.2))))))
set_option maxRecDepth 20000 in
theorem cR_X10_pair {g : gzG} {φ : Nat} {t1 : Nat} (ht1 : t1 < 15) : ∀ (k D : Nat), 1 * k + 1 ≤ D → ∀ (a2 : Int32) (a3 : Int32) (I : gzIT) (J : gzJT) (r : Unit × gzIT × gzJT), fR_X10_pair φ t1 k a2 a3 I J = some r → gzC g 0 D mX10_pair [.inr (.inr (0, 41)), .inr (.inr (t1, 1)), .inl a2, .inl a3] (gzN, gzR0, I, J) (gzE (.ok none) (gzN, gzR0, r.2.1, r.2.2)) := by
  intro k; induction k with
  | zero => intro D hD a2 a3 I J r h; cases h
  | succ k ih =>
    intro D hD a2 a3 I J r h
    obtain ⟨d, rfl⟩ : ∃ d, D = d + 1 := ⟨D - 1, by omega⟩
    have hR : ∀ e, d ≤ e → ∀ (a2 : Int32) (a3 : Int32) (I : gzIT) (J : gzJT) (r : Unit × gzIT × gzJT), fR_X10_pair φ t1 k a2 a3 I J = some r → gzC g 0 e mX10_pair [.inr (.inr (0, 41)), .inr (.inr (t1, 1)), .inl a2, .inl a3] (gzN, gzR0, I, J) (gzE (.ok none) (gzN, gzR0, r.2.1, r.2.2)) := fun e he => ih e (by omega)
    unfold fR_X10_pair at h
    refine gzC_of (by decide +kernel) (Nat.le_of_ble_eq_true rfl) (loc := [some (.inr (.inr (0, 41))), some (.inr (.inr (t1, 1))), some (.inl a2), some (.inl a3), none]) rfl ?_
    have z_0_41 : gzOk 0 41 gzN := gzOk_of (by decide)
    have z_0_44 : gzOk 0 44 gzN := gzOk_of (by decide)
    have z_0_45 : gzOk 0 45 gzN := gzOk_of (by decide)
    refine gz_iload_n (pc := 0) dX10_pair_0 rfl ?_
    refine gz_if_lt (pc := 1) (tgt := 18) dX10_pair_1 (by decide) (fun c => ?_) (fun c => ?_)
    · replace h := gz_ifp c h
      refine gz_iload_n (pc := 18) dX10_pair_18 rfl ?_
      refine gz_aload_n (pc := 19) dX10_pair_19 rfl ?_
      refine gi_X10_31 (pc := 20) dX10_pair_20 (v := I 0 41 6) z_0_41 rfl rfl ?_
      refine gz_ic_le (pc := 23) (tgt := 42) dX10_pair_23 (by decide) (fun c => ?_) (fun c => ?_)
      · replace h := gz_ifp c h
        cases h; exact gz_vret (pc := 42) dX10_pair_42 rfl ⟨rfl, rfl⟩
      · replace h := gz_ifn c h
        refine gz_aload_n (pc := 26) dX10_pair_26 rfl ?_
        refine gz_iload_n (pc := 27) dX10_pair_27 rfl ?_
        refine gp_X10_31 (pc := 28) dX10_pair_28 z_0_41 rfl ?_
        refine gz_aload_n (pc := 31) dX10_pair_31 rfl ?_
        refine gr_X10_18 (pc := 32) dX10_pair_32 z_0_41 rfl ?_
        refine gz_aload_n (pc := 35) dX10_pair_35 rfl ?_
        refine gr_X10_21 (pc := 36) dX10_pair_36 z_0_41 rfl ?_
        refine gz_SN (zy := mX11_copy) (zc := 0) (pc := 39) [.inr (.inr (0, 44)), .inr (.inr (0, 45))] rfl dX10_pair_39 lnX10_113 MsX11_copy rfl (Or.inl rfl) (fun h => h) (by exact Nat.le_of_ble_eq_true rfl) ?_
        obtain ⟨v2, e1, h⟩ := gz_bd h
        refine gz_useV (c_X11_copy (gzOk_of (by decide)) rfl (gzOk_of (by decide)) rfl e1) ?_
        cases h; exact gz_vret (pc := 42) dX10_pair_42 rfl ⟨rfl, rfl⟩
    · replace h := gz_ifn c h
      refine gz_iload_n (pc := 4) dX10_pair_4 rfl ?_
      refine gz_aload_n (pc := 5) dX10_pair_5 rfl ?_
      refine gi_X10_27 (pc := 6) dX10_pair_6 (v := I 0 41 5) z_0_41 rfl rfl ?_
      refine gz_ic_ge (pc := 9) (tgt := 18) dX10_pair_9 (by decide) (fun c => ?_) (fun c => ?_)
      · replace h := gz_ifp c h
        refine gz_iload_n (pc := 18) dX10_pair_18 rfl ?_
        refine gz_aload_n (pc := 19) dX10_pair_19 rfl ?_
        refine gi_X10_31 (pc := 20) dX10_pair_20 (v := I 0 41 6) z_0_41 rfl rfl ?_
        refine gz_ic_le (pc := 23) (tgt := 42) dX10_pair_23 (by decide) (fun c => ?_) (fun c => ?_)
        · replace h := gz_ifp c h
          cases h; exact gz_vret (pc := 42) dX10_pair_42 rfl ⟨rfl, rfl⟩
        · replace h := gz_ifn c h
          refine gz_aload_n (pc := 26) dX10_pair_26 rfl ?_
          refine gz_iload_n (pc := 27) dX10_pair_27 rfl ?_
          refine gp_X10_31 (pc := 28) dX10_pair_28 z_0_41 rfl ?_
          refine gz_aload_n (pc := 31) dX10_pair_31 rfl ?_
          refine gr_X10_18 (pc := 32) dX10_pair_32 z_0_41 rfl ?_
          refine gz_aload_n (pc := 35) dX10_pair_35 rfl ?_
          refine gr_X10_21 (pc := 36) dX10_pair_36 z_0_41 rfl ?_
          refine gz_SN (zy := mX11_copy) (zc := 0) (pc := 39) [.inr (.inr (0, 44)), .inr (.inr (0, 45))] rfl dX10_pair_39 lnX10_113 MsX11_copy rfl (Or.inl rfl) (fun h => h) (by exact Nat.le_of_ble_eq_true rfl) ?_
          obtain ⟨v4, e3, h⟩ := gz_bd h
          refine gz_useV (c_X11_copy (gzOk_of (by decide)) rfl (gzOk_of (by decide)) rfl e3) ?_
          cases h; exact gz_vret (pc := 42) dX10_pair_42 rfl ⟨rfl, rfl⟩
      · replace h := gz_ifn c h
        refine gz_iload_n (pc := 12) dX10_pair_12 rfl ?_
        refine gz_bipush (pc := 13) dX10_pair_13 (v := 6) (by decide) ?_
        refine gz_ic_lt (pc := 15) (tgt := 43) dX10_pair_15 (by decide) (fun c => ?_) (fun c => ?_)
        · replace h := gz_ifp c h
          refine gz_aload_n (pc := 43) dX10_pair_43 rfl ?_
          refine gz_aload_n (pc := 44) dX10_pair_44 rfl ?_
          refine gz_iload_n (pc := 45) dX10_pair_45 rfl ?_
          refine gz_iconst (pc := 46) dX10_pair_46 (v := 1) (by decide) ?_
          refine gz_iadd (pc := 47) dX10_pair_47  ?_
          refine gz_iload_n (pc := 48) dX10_pair_48 rfl ?_
          refine gz_V (zy := mX10_pair) (zc := 0) (pc := 49) [.inr (.inr (t1, 1)), .inl (a2 + 1), .inl a3] rfl dX10_pair_49 lkX10_109 MvX10_pair rfl z_0_41 rfl rfl rfl (Or.inl rfl) (fun h => h) (by exact Nat.le_of_ble_eq_true rfl) ?_
          obtain ⟨v6, e5, h⟩ := gz_bd h
          refine gz_useV (hR _ (by omega) _ _ _ _ _ e5) ?_
          refine gz_aload_n (pc := 52) dX10_pair_52 rfl ?_
          refine gr_X10_18 (pc := 53) dX10_pair_53 z_0_41 rfl ?_
          refine gz_iload_n (pc := 56) dX10_pair_56 rfl ?_
          obtain ⟨b7, h⟩ := gz_gd h
          refine gz_iald2 (pc := 57) dX10_pair_57 (k := a2.toNatClampNeg) (v := v6.2.1 0 44 a2.toNatClampNeg) z_0_44 rfl b7 rfl rfl ?_
          refine gz_iconst (pc := 58) dX10_pair_58 (v := (-1)) (by decide) ?_
          refine gz_ic_eq (pc := 59) (tgt := 63) dX10_pair_59 (by decide) (fun c => ?_) (fun c => ?_)
          · replace h := gz_ifp c h
            refine gz_iload_n (pc := 63) dX10_pair_63 rfl ?_
            refine gz_iconst (pc := 64) dX10_pair_64 (v := 1) (by decide) ?_
            refine gz_iadd (pc := 65) dX10_pair_65  ?_
            refine gz_istore (pc := 66) dX10_pair_66 (by decide) rfl (loc2 := [some (.inr (.inr (0, 41))), some (.inr (.inr (t1, 1))), some (.inl a2), some (.inl a3), some (.inl (a2 + 1))]) rfl ?_
            exact p_X10_pair_68 ht1 hR φ a2 a3 (a2 + 1) v6.2.1 v6.2.2 h
          · replace h := gz_ifn c h
            cases h; exact gz_vret (pc := 62) dX10_pair_62 rfl ⟨rfl, rfl⟩
        · replace h := gz_ifn c h
          refine gz_iload_n (pc := 18) dX10_pair_18 rfl ?_
          refine gz_aload_n (pc := 19) dX10_pair_19 rfl ?_
          refine gi_X10_31 (pc := 20) dX10_pair_20 (v := I 0 41 6) z_0_41 rfl rfl ?_
          refine gz_ic_le (pc := 23) (tgt := 42) dX10_pair_23 (by decide) (fun c => ?_) (fun c => ?_)
          · replace h := gz_ifp c h
            cases h; exact gz_vret (pc := 42) dX10_pair_42 rfl ⟨rfl, rfl⟩
          · replace h := gz_ifn c h
            refine gz_aload_n (pc := 26) dX10_pair_26 rfl ?_
            refine gz_iload_n (pc := 27) dX10_pair_27 rfl ?_
            refine gp_X10_31 (pc := 28) dX10_pair_28 z_0_41 rfl ?_
            refine gz_aload_n (pc := 31) dX10_pair_31 rfl ?_
            refine gr_X10_18 (pc := 32) dX10_pair_32 z_0_41 rfl ?_
            refine gz_aload_n (pc := 35) dX10_pair_35 rfl ?_
            refine gr_X10_21 (pc := 36) dX10_pair_36 z_0_41 rfl ?_
            refine gz_SN (zy := mX11_copy) (zc := 0) (pc := 39) [.inr (.inr (0, 44)), .inr (.inr (0, 45))] rfl dX10_pair_39 lnX10_113 MsX11_copy rfl (Or.inl rfl) (fun h => h) (by exact Nat.le_of_ble_eq_true rfl) ?_
            obtain ⟨v9, e8, h⟩ := gz_bd h
            refine gz_useV (c_X11_copy (gzOk_of (by decide)) rfl (gzOk_of (by decide)) rfl e8) ?_
            cases h; exact gz_vret (pc := 42) dX10_pair_42 rfl ⟨rfl, rfl⟩
def f_X10_pair (φ : Nat) (t1 : Nat) (a2 : Int32) (a3 : Int32) (I : gzIT) (J : gzJT) : Option (Unit × gzIT × gzJT) := fR_X10_pair φ t1 gzRf a2 a3 I J
theorem c_X10_pair {g : gzG} {d φ : Nat} {t1 : Nat} (ht1 : t1 < 15) {a2 : Int32} {a3 : Int32} {I : gzIT} {J : gzJT} {r : Unit × gzIT × gzJT} (h : f_X10_pair φ t1 a2 a3 I J = some r) : gzC g 0 (d + 11) mX10_pair [.inr (.inr (0, 41)), .inr (.inr (t1, 1)), .inl a2, .inl a3] (gzN, gzR0, I, J) (gzE (.ok none) (gzN, gzR0, r.2.1, r.2.2)) := cR_X10_pair ht1 gzRf _ (by unfold gzRf; omega) _ _ _ _ _ h
/-! X10_findPairs: findPairs -/
def gP_X10_findPairs_7 (g : gzG) (t1 : Nat) (d : Nat) (r : Unit × gzIT × gzJT) (x2 : Int32) (I : gzIT) (J : gzJT) : Prop := gzX g 0 (d + 12) mX10_findPairs 7 [some (.inr (.inr (0, 41))), some (.inr (.inr (t1, 1))), some (.inl x2)] [] (gzN, gzR0, I, J) 0 (gzE (.ok none) (gzN, gzR0, r.2.1, r.2.2))
def f_X10_findPairs_7 (φ : Nat) (t1 : Nat) : Nat → Int32 → gzIT → gzJT → Option (Unit × gzIT × gzJT)
  | 0, _, _, _ => none
  | k + 1, x2, I, J => if 6 ≤ x2 then (Option.bind (f_X10_pair φ t1 0 0 I J) (fun v2 => some ((), v2.2.1, v2.2.2))) else (gzGd (x2) 6 (f_X10_findPairs_7 φ t1 k (x2 + 1) (gz_ui I 0 44 x2.toNatClampNeg (-1)) J))
set_option maxRecDepth 20000 in
theorem p_X10_findPairs_7 {g : gzG} {d φ : Nat} {t1 : Nat} (ht1 : t1 < 15) {r : Unit × gzIT × gzJT} : ∀ (k : Nat) (x2 : Int32) (I : gzIT) (J : gzJT), f_X10_findPairs_7 φ t1 k x2 I J = some r → gP_X10_findPairs_7 g t1 d r x2 I J := by
  intro k; induction k with
  | zero => intro x2 I J h; cases h
  | succ k ih =>
    intro x2 I J h
    unfold f_X10_findPairs_7 at h
    unfold gP_X10_findPairs_7
    have z_0_41 : gzOk 0 41 gzN := gzOk_of (by decide)
    have z_0_44 : gzOk 0 44 gzN := gzOk_of (by decide)
    refine gz_iload_n (pc := 7) dX10_findPairs_7 rfl ?_
    refine gz_bipush (pc := 8) dX10_findPairs_8 (v := 6) (by decide) ?_
    refine gz_ic_ge (pc := 10) (tgt := 26) dX10_findPairs_10 (by decide) (fun c => ?_) (fun c => ?_)
    · replace h := gz_ifp c h
      refine gz_aload_n (pc := 26) dX10_findPairs_26 rfl ?_
      refine gz_aload_n (pc := 27) dX10_findPairs_27 rfl ?_
      refine gz_iconst (pc := 28) dX10_findPairs_28 (v := 0) (by decide) ?_
      refine gz_iconst (pc := 29) dX10_findPairs_29 (v := 0) (by decide) ?_
      refine gz_V (zy := mX10_pair) (zc := 0) (pc := 30) [.inr (.inr (t1, 1)), .inl 0, .inl 0] rfl dX10_findPairs_30 lkX10_109 MvX10_pair rfl z_0_41 rfl rfl rfl (Or.inl rfl) (fun h => h) (by exact Nat.le_of_ble_eq_true rfl) ?_
      obtain ⟨v2, e1, h⟩ := gz_bd h
      refine gz_useV (c_X10_pair ht1 e1) ?_
      cases h; exact gz_vret (pc := 33) dX10_findPairs_33 rfl ⟨rfl, rfl⟩
    · replace h := gz_ifn c h
      refine gz_aload_n (pc := 13) dX10_findPairs_13 rfl ?_
      refine gr_X10_18 (pc := 14) dX10_findPairs_14 z_0_41 rfl ?_
      refine gz_iload_n (pc := 17) dX10_findPairs_17 rfl ?_
      refine gz_iconst (pc := 18) dX10_findPairs_18 (v := (-1)) (by decide) ?_
      obtain ⟨b3, h⟩ := gz_gd h
      refine gz_iast2 (pc := 19) dX10_findPairs_19 (k := x2.toNatClampNeg) z_0_44 rfl b3 rfl ?_
      refine gz_iinc (pc := 20) dX10_findPairs_20 (x := x2) (v := x2 + 1) rfl (by rw [show Int32.ofInt 1 = 1 by decide]) (by decide) rfl (loc2 := [some (.inr (.inr (0, 41))), some (.inr (.inr (t1, 1))), some (.inl (x2 + 1))]) rfl ?_
      refine gz_goto (pc := 23) (tgt := 7) dX10_findPairs_23 (by decide) ?_
      exact ih (x2 + 1) (gz_ui I 0 44 x2.toNatClampNeg (-1)) J h
def f_X10_findPairs (φ : Nat) (t1 : Nat) (I : gzIT) (J : gzJT) : Option (Unit × gzIT × gzJT) := f_X10_findPairs_7 φ t1 φ 0 (gz_ui I 0 41 6 (-1)) J
set_option maxRecDepth 20000 in
theorem c_X10_findPairs {g : gzG} {d φ : Nat} {t1 : Nat} (ht1 : t1 < 15) {I : gzIT} {J : gzJT} {r : Unit × gzIT × gzJT} (h : f_X10_findPairs φ t1 I J = some r) : gzC g 0 (d + 12) mX10_findPairs [.inr (.inr (0, 41)), .inr (.inr (t1, 1))] (gzN, gzR0, I, J) (gzE (.ok none) (gzN, gzR0, r.2.1, r.2.2)) := by
  unfold f_X10_findPairs at h
  refine gzC_of (by decide +kernel) (Nat.le_of_ble_eq_true rfl) (loc := [some (.inr (.inr (0, 41))), some (.inr (.inr (t1, 1))), none]) rfl ?_
  have z_0_41 : gzOk 0 41 gzN := gzOk_of (by decide)
  refine gz_aload_n (pc := 0) dX10_findPairs_0 rfl ?_
  refine gz_iconst (pc := 1) dX10_findPairs_1 (v := (-1)) (by decide) ?_
  refine gp_X10_31 (pc := 2) dX10_findPairs_2 z_0_41 rfl ?_
  refine gz_iconst (pc := 5) dX10_findPairs_5 (v := 0) (by decide) ?_
  refine gz_istore_n (pc := 6) dX10_findPairs_6 (by decide) rfl (loc2 := [some (.inr (.inr (0, 41))), some (.inr (.inr (t1, 1))), some (.inl 0)]) rfl ?_
  exact p_X10_findPairs_7 ht1 φ 0 (gz_ui I 0 41 6 (-1)) J h
/-! X11_feed: feed -/
def f_X11_feed (φ : Nat) (a1 : Int32) (a2 : Int32) (a3 : Int32) (a4 : Int32) (a5 : Int32) (I : gzIT) (J : gzJT) : Option (Int32 × gzIT × gzJT) := if (I 0 31 1) + 20 ≤ 400 then (Option.bind (f_X6_put φ a1 I J) (fun v2 => Option.bind (f_X6_put φ a2 v2.2.1 v2.2.2) (fun v4 => Option.bind (f_X6_put φ a3 v4.2.1 v4.2.2) (fun v6 => Option.bind (f_X6_put φ a4 v6.2.1 v6.2.2) (fun v8 => Option.bind (f_X6_put φ a5 v8.2.1 v8.2.2) (fun v10 => some ((v10.2.1 0 31 1), v10.2.1, v10.2.2))))))) else (some ((-1), I, J))
set_option maxRecDepth 20000 in
theorem c_X11_feed {g : gzG} {d φ : Nat} {a1 : Int32} {a2 : Int32} {a3 : Int32} {a4 : Int32} {a5 : Int32} {I : gzIT} {J : gzJT} {r : Int32 × gzIT × gzJT} (h : f_X11_feed φ a1 a2 a3 a4 a5 I J = some r) : gzC g 0 (d + 1) mX11_feed [.inr (.inr (0, 30)), .inl a1, .inl a2, .inl a3, .inl a4, .inl a5] (gzN, gzR0, I, J) (gzE (.ok (some (.inl r.1))) (gzN, gzR0, r.2.1, r.2.2)) := by
  unfold f_X11_feed at h
  refine gzC_of (by decide +kernel) (Nat.le_of_ble_eq_true rfl) (loc := [some (.inr (.inr (0, 30))), some (.inl a1), some (.inl a2), some (.inl a3), some (.inl a4), some (.inl a5)]) rfl ?_
  have z_0_30 : gzOk 0 30 gzN := gzOk_of (by decide)
  have z_0_31 : gzOk 0 31 gzN := gzOk_of (by decide)
  refine gz_aload_n (pc := 0) dX11_feed_0 rfl ?_
  refine gr_X11_12 (pc := 1) dX11_feed_1 z_0_30 rfl ?_
  refine gi_X11_83 (pc := 4) dX11_feed_4 (v := I 0 31 1) z_0_31 rfl rfl ?_
  refine gz_bipush (pc := 7) dX11_feed_7 (v := 20) (by decide) ?_
  refine gz_iadd (pc := 9) dX11_feed_9  ?_
  refine gz_sipush (pc := 10) dX11_feed_10 (v := 400) (by decide) ?_
  refine gz_ic_le (pc := 13) (tgt := 18) dX11_feed_13 (by decide) (fun c => ?_) (fun c => ?_)
  · replace h := gz_ifp c h
    refine gz_aload_n (pc := 18) dX11_feed_18 rfl ?_
    refine gr_X11_12 (pc := 19) dX11_feed_19 z_0_30 rfl ?_
    refine gz_iload_n (pc := 22) dX11_feed_22 rfl ?_
    refine gz_V (zy := mX6_put) (zc := 0) (pc := 23) [.inl a1] rfl dX11_feed_23 lkX11_87 MvX6_put rfl z_0_31 rfl rfl rfl (Or.inl rfl) (fun h => h) (by exact Nat.le_of_ble_eq_true rfl) ?_
    obtain ⟨v2, e1, h⟩ := gz_bd h
    refine gz_useV (c_X6_put e1) ?_
    refine gz_aload_n (pc := 26) dX11_feed_26 rfl ?_
    refine gr_X11_12 (pc := 27) dX11_feed_27 z_0_30 rfl ?_
    refine gz_iload_n (pc := 30) dX11_feed_30 rfl ?_
    refine gz_V (zy := mX6_put) (zc := 0) (pc := 31) [.inl a2] rfl dX11_feed_31 lkX11_87 MvX6_put rfl z_0_31 rfl rfl rfl (Or.inl rfl) (fun h => h) (by exact Nat.le_of_ble_eq_true rfl) ?_
    obtain ⟨v4, e3, h⟩ := gz_bd h
    refine gz_useV (c_X6_put e3) ?_
    refine gz_aload_n (pc := 34) dX11_feed_34 rfl ?_
    refine gr_X11_12 (pc := 35) dX11_feed_35 z_0_30 rfl ?_
    refine gz_iload_n (pc := 38) dX11_feed_38 rfl ?_
    refine gz_V (zy := mX6_put) (zc := 0) (pc := 39) [.inl a3] rfl dX11_feed_39 lkX11_87 MvX6_put rfl z_0_31 rfl rfl rfl (Or.inl rfl) (fun h => h) (by exact Nat.le_of_ble_eq_true rfl) ?_
    obtain ⟨v6, e5, h⟩ := gz_bd h
    refine gz_useV (c_X6_put e5) ?_
    refine gz_aload_n (pc := 42) dX11_feed_42 rfl ?_
    refine gr_X11_12 (pc := 43) dX11_feed_43 z_0_30 rfl ?_
    refine gz_iload (pc := 46) dX11_feed_46 rfl ?_
    refine gz_V (zy := mX6_put) (zc := 0) (pc := 48) [.inl a4] rfl dX11_feed_48 lkX11_87 MvX6_put rfl z_0_31 rfl rfl rfl (Or.inl rfl) (fun h => h) (by exact Nat.le_of_ble_eq_true rfl) ?_
    obtain ⟨v8, e7, h⟩ := gz_bd h
    refine gz_useV (c_X6_put e7) ?_
    refine gz_aload_n (pc := 51) dX11_feed_51 rfl ?_
    refine gr_X11_12 (pc := 52) dX11_feed_52 z_0_30 rfl ?_
    refine gz_iload (pc := 55) dX11_feed_55 rfl ?_
    refine gz_V (zy := mX6_put) (zc := 0) (pc := 57) [.inl a5] rfl dX11_feed_57 lkX11_87 MvX6_put rfl z_0_31 rfl rfl rfl (Or.inl rfl) (fun h => h) (by exact Nat.le_of_ble_eq_true rfl) ?_
    obtain ⟨v10, e9, h⟩ := gz_bd h
    refine gz_useV (c_X6_put e9) ?_
    refine gz_aload_n (pc := 60) dX11_feed_60 rfl ?_
    refine gr_X11_12 (pc := 61) dX11_feed_61 z_0_30 rfl ?_
    refine gi_X11_83 (pc := 64) dX11_feed_64 (v := v10.2.1 0 31 1) z_0_31 rfl rfl ?_
    cases h; exact gz_iret (pc := 67) dX11_feed_67 rfl ⟨rfl, rfl⟩
  · replace h := gz_ifn c h
    refine gz_iconst (pc := 16) dX11_feed_16 (v := (-1)) (by decide) ?_
    cases h; exact gz_iret (pc := 17) dX11_feed_17 rfl ⟨rfl, rfl⟩
/-! X11_end: end -/
def f_X11_end (a1 : Int32) (I : gzIT) (J : gzJT) : Option (Int32 × gzIT × gzJT) := if a1 < 0 then (some (0, I, J)) else (if a1 ≤ I 0 31 1 then (some (1, gz_ui I 0 31 1 a1, J)) else (some (0, I, J)))
set_option maxRecDepth 20000 in
theorem c_X11_end {g : gzG} {d : Nat} {a1 : Int32} {I : gzIT} {J : gzJT} {r : Int32 × gzIT × gzJT} (h : f_X11_end a1 I J = some r) : gzC g 0 d mX11_end [.inr (.inr (0, 30)), .inl a1] (gzN, gzR0, I, J) (gzE (.ok (some (.inl r.1))) (gzN, gzR0, r.2.1, r.2.2)) := by
  unfold f_X11_end at h
  refine gzC_of (by decide +kernel) (Nat.le_of_ble_eq_true rfl) (loc := [some (.inr (.inr (0, 30))), some (.inl a1)]) rfl ?_
  have z_0_30 : gzOk 0 30 gzN := gzOk_of (by decide)
  have z_0_31 : gzOk 0 31 gzN := gzOk_of (by decide)
  refine gz_iload_n (pc := 0) dX11_end_0 rfl ?_
  refine gz_if_lt (pc := 1) (tgt := 15) dX11_end_1 (by decide) (fun c => ?_) (fun c => ?_)
  · replace h := gz_ifp c h
    refine gz_iconst (pc := 15) dX11_end_15 (v := 0) (by decide) ?_
    cases h; exact gz_zret (pc := 16) dX11_end_16 rfl (by decide) ⟨rfl, rfl⟩
  · replace h := gz_ifn c h
    refine gz_iload_n (pc := 4) dX11_end_4 rfl ?_
    refine gz_aload_n (pc := 5) dX11_end_5 rfl ?_
    refine gr_X11_12 (pc := 6) dX11_end_6 z_0_30 rfl ?_
    refine gi_X11_83 (pc := 9) dX11_end_9 (v := I 0 31 1) z_0_31 rfl rfl ?_
    refine gz_ic_le (pc := 12) (tgt := 17) dX11_end_12 (by decide) (fun c => ?_) (fun c => ?_)
    · replace h := gz_ifp c h
      refine gz_aload_n (pc := 17) dX11_end_17 rfl ?_
      refine gr_X11_12 (pc := 18) dX11_end_18 z_0_30 rfl ?_
      refine gz_iload_n (pc := 21) dX11_end_21 rfl ?_
      refine gp_X11_83 (pc := 22) dX11_end_22 z_0_31 rfl ?_
      refine gz_iconst (pc := 25) dX11_end_25 (v := 1) (by decide) ?_
      cases h; exact gz_zret (pc := 26) dX11_end_26 rfl (by decide) ⟨rfl, rfl⟩
    · replace h := gz_ifn c h
      refine gz_iconst (pc := 15) dX11_end_15 (v := 0) (by decide) ?_
      cases h; exact gz_zret (pc := 16) dX11_end_16 rfl (by decide) ⟨rfl, rfl⟩
/-! X11_fault: fault -/
def f_X11_fault (I : gzIT) : Option Int32 := some (I 0 33 7)
set_option maxRecDepth 20000 in
theorem c_X11_fault {g : gzG} {d : Nat} {I : gzIT} {J : gzJT} {r : Int32} (h : f_X11_fault I = some r) : gzC g 0 d mX11_fault [.inr (.inr (0, 30))] (gzN, gzR0, I, J) (gzE (.ok (some (.inl r))) (gzN, gzR0, I, J)) := by
  unfold f_X11_fault at h
  refine gzC_of (by decide +kernel) (Nat.le_of_ble_eq_true rfl) (loc := [some (.inr (.inr (0, 30)))]) rfl ?_
  have z_0_30 : gzOk 0 30 gzN := gzOk_of (by decide)
  have z_0_33 : gzOk 0 33 gzN := gzOk_of (by decide)
  refine gz_aload_n (pc := 0) dX11_fault_0 rfl ?_
  refine gr_X11_19 (pc := 1) dX11_fault_1 z_0_30 rfl ?_
  refine gi_X11_125 (pc := 4) dX11_fault_4 (v := I 0 33 7) z_0_33 rfl rfl ?_
  cases h; exact gz_iret (pc := 7) dX11_fault_7 rfl ⟨rfl, rfl⟩
/-! X11_needFamily: needFamily -/
def f_X11_needFamily (a1 : Int32) (I : gzIT) (J : gzJT) : Option ((Except String Unit) × gzIT × gzJT) := if a1 < 0 then (some (.error "java/lang/IndexOutOfBoundsException", I, J)) else (if a1 < I 0 1 5 then (some (.ok (), I, J)) else (some (.error "java/lang/IndexOutOfBoundsException", I, J)))
set_option maxRecDepth 20000 in
theorem c_X11_needFamily {g : gzG} {d : Nat} {a1 : Int32} {I : gzIT} {J : gzJT} {r : (Except String Unit) × gzIT × gzJT} (h : f_X11_needFamily a1 I J = some r) : gzC g 0 d mX11_needFamily [.inr (.inr (0, 30)), .inl a1] (gzN, gzR0, I, J) (gzE (gzRV r.1) (gzN, gzR0, r.2.1, r.2.2)) := by
  unfold f_X11_needFamily at h
  refine gzC_of (by decide +kernel) (Nat.le_of_ble_eq_true rfl) (loc := [some (.inr (.inr (0, 30))), some (.inl a1)]) rfl ?_
  have z_0_30 : gzOk 0 30 gzN := gzOk_of (by decide)
  have z_0_0 : gzOk 0 0 gzN := gzOk_of (by decide)
  have z_0_1 : gzOk 0 1 gzN := gzOk_of (by decide)
  refine gz_iload_n (pc := 0) dX11_needFamily_0 rfl ?_
  refine gz_if_lt (pc := 1) (tgt := 18) dX11_needFamily_1 (by decide) (fun c => ?_) (fun c => ?_)
  · replace h := gz_ifp c h
    exact gz_thrW (pc := 18) th_X11_215_219 (i := 3) rfl dX11_needFamily_18 dX11_needFamily_21 dX11_needFamily_22 dX11_needFamily_25 dX11_needFamily_28 (Nat.le_of_ble_eq_true rfl) (by cases h; exact ⟨rfl, rfl⟩)
  · replace h := gz_ifn c h
    refine gz_iload_n (pc := 4) dX11_needFamily_4 rfl ?_
    refine gz_aload_n (pc := 5) dX11_needFamily_5 rfl ?_
    refine gr_X11_42 (pc := 6) dX11_needFamily_6 z_0_30 rfl ?_
    refine gr_X11_131 (pc := 9) dX11_needFamily_9 z_0_0 rfl ?_
    refine gi_X11_310 (pc := 12) dX11_needFamily_12 (v := I 0 1 5) z_0_1 rfl rfl ?_
    refine gz_ic_lt (pc := 15) (tgt := 29) dX11_needFamily_15 (by decide) (fun c => ?_) (fun c => ?_)
    · replace h := gz_ifp c h
      cases h; exact gz_vret (pc := 29) dX11_needFamily_29 rfl ⟨rfl, rfl⟩
    · replace h := gz_ifn c h
      exact gz_thrW (pc := 18) th_X11_215_219 (i := 3) rfl dX11_needFamily_18 dX11_needFamily_21 dX11_needFamily_22 dX11_needFamily_25 dX11_needFamily_28 (Nat.le_of_ble_eq_true rfl) (by cases h; exact ⟨rfl, rfl⟩)
/-! X11_family: family -/
def f_X11_family (φ : Nat) (a1 : Int32) (a2 : Int32) (I : gzIT) (J : gzJT) : Option ((Except String Int32) × gzIT × gzJT) := Option.bind (f_X11_needFamily a1 I J) (fun v2 => gzEx v2.1 (fun E => some (.error E, v2.2.1, v2.2.2)) (fun w4 => if a2 = 0 then (gzGd (a1) 6 (some (.ok (v2.2.1 0 2 a1.toNatClampNeg), v2.2.1, v2.2.2))) else (if a2 = 1 then (gzGd (a1) 6 (some (.ok (v2.2.1 0 3 a1.toNatClampNeg), v2.2.1, v2.2.2))) else (if a2 = 2 then (gzGd (a1) 6 (some (.ok (v2.2.1 0 4 a1.toNatClampNeg), v2.2.1, v2.2.2))) else (if a2 = 3 then (gzGd (a1) 6 (some (.ok (v2.2.1 0 5 a1.toNatClampNeg), v2.2.1, v2.2.2))) else (if a2 = 4 then (Option.bind (f_X1_iceOf φ 0 v2.2.1 a1) (fun v10 => some (.ok v10, v2.2.1, v2.2.2))) else (if a2 = 5 then (Option.bind (f_X0_lasts 0 v2.2.1 a1) (fun v12 => some (.ok v12, v2.2.1, v2.2.2))) else (if a2 = 6 then (Option.bind (f_X8_price φ 0 v2.2.1 a1) (fun v14 => some (.ok v14, v2.2.1, v2.2.2))) else (some (.error "java/util/NoSuchElementException", v2.2.1, v2.2.2))))))))))
set_option maxRecDepth 20000 in
theorem c_X11_family {g : gzG} {d φ : Nat} {a1 : Int32} {a2 : Int32} {I : gzIT} {J : gzJT} {r : (Except String Int32) × gzIT × gzJT} (h : f_X11_family φ a1 a2 I J = some r) : gzC g 0 (d + 4) mX11_family [.inr (.inr (0, 30)), .inl a1, .inl a2] (gzN, gzR0, I, J) (gzE (gzRI r.1) (gzN, gzR0, r.2.1, r.2.2)) := by
  unfold f_X11_family at h
  refine gzC_of (by decide +kernel) (Nat.le_of_ble_eq_true rfl) (loc := [some (.inr (.inr (0, 30))), some (.inl a1), some (.inl a2)]) rfl ?_
  have z_0_30 : gzOk 0 30 gzN := gzOk_of (by decide)
  have z_0_0 : gzOk 0 0 gzN := gzOk_of (by decide)
  have z_0_1 : gzOk 0 1 gzN := gzOk_of (by decide)
  have z_0_2 : gzOk 0 2 gzN := gzOk_of (by decide)
  have z_0_3 : gzOk 0 3 gzN := gzOk_of (by decide)
  have z_0_4 : gzOk 0 4 gzN := gzOk_of (by decide)
  have z_0_5 : gzOk 0 5 gzN := gzOk_of (by decide)
  have z_0_7 : gzOk 0 7 gzN := gzOk_of (by decide)
  refine gz_aload_n (pc := 0) dX11_family_0 rfl ?_
  refine gz_iload_n (pc := 1) dX11_family_1 rfl ?_
  refine gz_V (zy := mX11_needFamily) (zc := 0) (pc := 2) [.inl a1] rfl dX11_family_2 lkX11_128 MvX11_needFamily rfl z_0_30 rfl rfl rfl (Or.inl rfl) (fun h => h) (by exact Nat.le_of_ble_eq_true rfl) ?_
  obtain ⟨v2, e1, h⟩ := gz_bd h
  cases x3 : v2.1 with
  | error E => replace h := gz_exe x3 h; cases h; exact gz_useTV x3 (c_X11_needFamily e1) ⟨by simp [gzRI, gzRJ, gzRV], rfl⟩
  | ok w4 =>
    replace h := gz_exo x3 h
    refine gz_useOV x3 (c_X11_needFamily e1) ?_
    refine gz_iload_n (pc := 5) dX11_family_5 rfl ?_
    by_cases c0 : a2 = 0
    · replace h := gz_ifp c0 h
      refine gz_swIn (pc := 6) (tgt := 48) (off := 42) dX11_family_6 (by rw [c0]; decide) (by rw [c0]; decide) (by rw [c0]; rfl) (by decide) ?_
      refine gz_aload_n (pc := 48) dX11_family_48 rfl ?_
      refine gr_X11_42 (pc := 49) dX11_family_49 z_0_30 rfl ?_
      refine gr_X11_131 (pc := 52) dX11_family_52 z_0_0 rfl ?_
      refine gr_X11_135 (pc := 55) dX11_family_55 z_0_1 rfl ?_
      refine gz_iload_n (pc := 58) dX11_family_58 rfl ?_
      obtain ⟨b5, h⟩ := gz_gd h
      refine gz_iald2 (pc := 59) dX11_family_59 (k := a1.toNatClampNeg) (v := v2.2.1 0 2 a1.toNatClampNeg) z_0_2 rfl b5 rfl rfl ?_
      cases h; exact gz_iret (pc := 60) dX11_family_60 rfl ⟨rfl, rfl⟩
    replace h := gz_ifn c0 h
    by_cases c1 : a2 = 1
    · replace h := gz_ifp c1 h
      refine gz_swIn (pc := 6) (tgt := 61) (off := 55) dX11_family_6 (by rw [c1]; decide) (by rw [c1]; decide) (by rw [c1]; rfl) (by decide) ?_
      refine gz_aload_n (pc := 61) dX11_family_61 rfl ?_
      refine gr_X11_42 (pc := 62) dX11_family_62 z_0_30 rfl ?_
      refine gr_X11_131 (pc := 65) dX11_family_65 z_0_0 rfl ?_
      refine gr_X11_141 (pc := 68) dX11_family_68 z_0_1 rfl ?_
      refine gz_iload_n (pc := 71) dX11_family_71 rfl ?_
      obtain ⟨b6, h⟩ := gz_gd h
      refine gz_iald2 (pc := 72) dX11_family_72 (k := a1.toNatClampNeg) (v := v2.2.1 0 3 a1.toNatClampNeg) z_0_3 rfl b6 rfl rfl ?_
      cases h; exact gz_iret (pc := 73) dX11_family_73 rfl ⟨rfl, rfl⟩
    replace h := gz_ifn c1 h
    by_cases c2 : a2 = 2
    · replace h := gz_ifp c2 h
      refine gz_swIn (pc := 6) (tgt := 74) (off := 68) dX11_family_6 (by rw [c2]; decide) (by rw [c2]; decide) (by rw [c2]; rfl) (by decide) ?_
      refine gz_aload_n (pc := 74) dX11_family_74 rfl ?_
      refine gr_X11_42 (pc := 75) dX11_family_75 z_0_30 rfl ?_
      refine gr_X11_131 (pc := 78) dX11_family_78 z_0_0 rfl ?_
      refine gr_X11_144 (pc := 81) dX11_family_81 z_0_1 rfl ?_
      refine gz_iload_n (pc := 84) dX11_family_84 rfl ?_
      obtain ⟨b7, h⟩ := gz_gd h
      refine gz_iald2 (pc := 85) dX11_family_85 (k := a1.toNatClampNeg) (v := v2.2.1 0 4 a1.toNatClampNeg) z_0_4 rfl b7 rfl rfl ?_
      cases h; exact gz_iret (pc := 86) dX11_family_86 rfl ⟨rfl, rfl⟩
    replace h := gz_ifn c2 h
    by_cases c3 : a2 = 3
    · replace h := gz_ifp c3 h
      refine gz_swIn (pc := 6) (tgt := 87) (off := 81) dX11_family_6 (by rw [c3]; decide) (by rw [c3]; decide) (by rw [c3]; rfl) (by decide) ?_
      refine gz_aload_n (pc := 87) dX11_family_87 rfl ?_
      refine gr_X11_42 (pc := 88) dX11_family_88 z_0_30 rfl ?_
      refine gr_X11_131 (pc := 91) dX11_family_91 z_0_0 rfl ?_
      refine gr_X11_147 (pc := 94) dX11_family_94 z_0_1 rfl ?_
      refine gz_iload_n (pc := 97) dX11_family_97 rfl ?_
      obtain ⟨b8, h⟩ := gz_gd h
      refine gz_iald2 (pc := 98) dX11_family_98 (k := a1.toNatClampNeg) (v := v2.2.1 0 5 a1.toNatClampNeg) z_0_5 rfl b8 rfl rfl ?_
      cases h; exact gz_iret (pc := 99) dX11_family_99 rfl ⟨rfl, rfl⟩
    replace h := gz_ifn c3 h
    by_cases c4 : a2 = 4
    · replace h := gz_ifp c4 h
      refine gz_swIn (pc := 6) (tgt := 100) (off := 94) dX11_family_6 (by rw [c4]; decide) (by rw [c4]; decide) (by rw [c4]; rfl) (by decide) ?_
      refine gz_aload_n (pc := 100) dX11_family_100 rfl ?_
      refine gr_X11_42 (pc := 101) dX11_family_101 z_0_30 rfl ?_
      refine gr_X11_150 (pc := 104) dX11_family_104 z_0_0 rfl ?_
      refine gz_iload_n (pc := 107) dX11_family_107 rfl ?_
      refine gz_V (zy := mX1_iceOf) (zc := 0) (pc := 108) [.inl a1] rfl dX11_family_108 lkX11_154 MvX1_iceOf rfl z_0_7 rfl rfl rfl (Or.inl rfl) (fun h => h) (by exact Nat.le_of_ble_eq_true rfl) ?_
      obtain ⟨v10, e9, h⟩ := gz_bd h
      refine gz_useI (c_X1_iceOf (by decide) e9) ?_
      cases h; exact gz_iret (pc := 111) dX11_family_111 rfl ⟨rfl, rfl⟩
    replace h := gz_ifn c4 h
    by_cases c5 : a2 = 5
    · replace h := gz_ifp c5 h
      refine gz_swIn (pc := 6) (tgt := 112) (off := 106) dX11_family_6 (by rw [c5]; decide) (by rw [c5]; decide) (by rw [c5]; rfl) (by decide) ?_
      refine gz_aload_n (pc := 112) dX11_family_112 rfl ?_
      refine gr_X11_42 (pc := 113) dX11_family_113 z_0_30 rfl ?_
      refine gr_X11_131 (pc := 116) dX11_family_116 z_0_0 rfl ?_
      refine gz_iload_n (pc := 119) dX11_family_119 rfl ?_
      refine gz_V (zy := mX0_lasts) (zc := 0) (pc := 120) [.inl a1] rfl dX11_family_120 lkX11_160 MvX0_lasts rfl z_0_1 rfl rfl rfl (Or.inl rfl) (fun h => h) (by exact Nat.le_of_ble_eq_true rfl) ?_
      obtain ⟨v12, e11, h⟩ := gz_bd h
      refine gz_useI (c_X0_lasts (by decide) e11) ?_
      cases h; exact gz_iret (pc := 123) dX11_family_123 rfl ⟨rfl, rfl⟩
    replace h := gz_ifn c5 h
    by_cases c6 : a2 = 6
    · replace h := gz_ifp c6 h
      refine gz_swIn (pc := 6) (tgt := 124) (off := 118) dX11_family_6 (by rw [c6]; decide) (by rw [c6]; decide) (by rw [c6]; rfl) (by decide) ?_
      refine gz_aload_n (pc := 124) dX11_family_124 rfl ?_
      refine gr_X11_42 (pc := 125) dX11_family_125 z_0_30 rfl ?_
      refine gz_iload_n (pc := 128) dX11_family_128 rfl ?_
      refine gz_V (zy := mX8_price) (zc := 0) (pc := 129) [.inl a1] rfl dX11_family_129 lkX11_163 MvX8_price rfl z_0_0 rfl rfl rfl (Or.inl rfl) (fun h => h) (by exact Nat.le_of_ble_eq_true rfl) ?_
      obtain ⟨v14, e13, h⟩ := gz_bd h
      refine gz_useI (c_X8_price (by decide) e13) ?_
      cases h; exact gz_iret (pc := 132) dX11_family_132 rfl ⟨rfl, rfl⟩
    replace h := gz_ifn c6 h
    refine gz_swOut (pc := 6) (tgt := 133) dX11_family_6 (gz_sw0_7 c0 c1 c2 c3 c4 c5 c6) (by decide) ?_
    exact gz_thrN (pc := 133) rfl (i := 4) rfl dX11_family_133 dX11_family_136 dX11_family_137 dX11_family_139 dX11_family_142 (Nat.le_of_ble_eq_true rfl) (by cases h; exact ⟨rfl, rfl⟩)
/-! X11_needGrudge: needGrudge -/
def f_X11_needGrudge (a1 : Int32) (I : gzIT) (J : gzJT) : Option ((Except String Unit) × gzIT × gzJT) := if a1 < 0 then (some (.error "java/lang/IndexOutOfBoundsException", I, J)) else (if a1 < I 0 7 7 then (some (.ok (), I, J)) else (some (.error "java/lang/IndexOutOfBoundsException", I, J)))
set_option maxRecDepth 20000 in
theorem c_X11_needGrudge {g : gzG} {d : Nat} {a1 : Int32} {I : gzIT} {J : gzJT} {r : (Except String Unit) × gzIT × gzJT} (h : f_X11_needGrudge a1 I J = some r) : gzC g 0 d mX11_needGrudge [.inr (.inr (0, 30)), .inl a1] (gzN, gzR0, I, J) (gzE (gzRV r.1) (gzN, gzR0, r.2.1, r.2.2)) := by
  unfold f_X11_needGrudge at h
  refine gzC_of (by decide +kernel) (Nat.le_of_ble_eq_true rfl) (loc := [some (.inr (.inr (0, 30))), some (.inl a1)]) rfl ?_
  have z_0_30 : gzOk 0 30 gzN := gzOk_of (by decide)
  have z_0_0 : gzOk 0 0 gzN := gzOk_of (by decide)
  have z_0_7 : gzOk 0 7 gzN := gzOk_of (by decide)
  refine gz_iload_n (pc := 0) dX11_needGrudge_0 rfl ?_
  refine gz_if_lt (pc := 1) (tgt := 18) dX11_needGrudge_1 (by decide) (fun c => ?_) (fun c => ?_)
  · replace h := gz_ifp c h
    exact gz_thrW (pc := 18) th_X11_215_219 (i := 5) rfl dX11_needGrudge_18 dX11_needGrudge_21 dX11_needGrudge_22 dX11_needGrudge_25 dX11_needGrudge_28 (Nat.le_of_ble_eq_true rfl) (by cases h; exact ⟨rfl, rfl⟩)
  · replace h := gz_ifn c h
    refine gz_iload_n (pc := 4) dX11_needGrudge_4 rfl ?_
    refine gz_aload_n (pc := 5) dX11_needGrudge_5 rfl ?_
    refine gr_X11_42 (pc := 6) dX11_needGrudge_6 z_0_30 rfl ?_
    refine gr_X11_150 (pc := 9) dX11_needGrudge_9 z_0_0 rfl ?_
    refine gi_X11_242 (pc := 12) dX11_needGrudge_12 (v := I 0 7 7) z_0_7 rfl rfl ?_
    refine gz_ic_lt (pc := 15) (tgt := 29) dX11_needGrudge_15 (by decide) (fun c => ?_) (fun c => ?_)
    · replace h := gz_ifp c h
      cases h; exact gz_vret (pc := 29) dX11_needGrudge_29 rfl ⟨rfl, rfl⟩
    · replace h := gz_ifn c h
      exact gz_thrW (pc := 18) th_X11_215_219 (i := 5) rfl dX11_needGrudge_18 dX11_needGrudge_21 dX11_needGrudge_22 dX11_needGrudge_25 dX11_needGrudge_28 (Nat.le_of_ble_eq_true rfl) (by cases h; exact ⟨rfl, rfl⟩)
/-! X11_grudge: grudge -/
def f_X11_grudge (φ : Nat) (a1 : Int32) (a2 : Int32) (I : gzIT) (J : gzJT) : Option ((Except String Int32) × gzIT × gzJT) := Option.bind (f_X11_needGrudge a1 I J) (fun v2 => gzEx v2.1 (fun E => some (.error E, v2.2.1, v2.2.2)) (fun w4 => if a2 = 0 then (gzGd (a1) 10 (some (.ok (v2.2.1 0 8 a1.toNatClampNeg), v2.2.1, v2.2.2))) else (if a2 = 1 then (gzGd (a1) 10 (some (.ok (v2.2.1 0 9 a1.toNatClampNeg), v2.2.1, v2.2.2))) else (if a2 = 2 then (gzGd (a1) 10 (some (.ok (v2.2.1 0 10 a1.toNatClampNeg), v2.2.1, v2.2.2))) else (if a2 = 3 then (gzGd (a1) 10 (some (.ok (v2.2.1 0 11 a1.toNatClampNeg), v2.2.1, v2.2.2))) else (if a2 = 4 then (gzGd (a1) 10 (some (.ok (v2.2.1 0 12 a1.toNatClampNeg), v2.2.1, v2.2.2))) else (if a2 = 5 then (gzGd (a1) 10 (some (.ok (if v2.2.1 0 13 a1.toNatClampNeg = 0 then (0 : Int32) else 1), v2.2.1, v2.2.2))) else (if a2 = 6 then (gzGd (a1) 10 (some (.ok (if v2.2.1 0 14 a1.toNatClampNeg = 0 then (0 : Int32) else 1), v2.2.1, v2.2.2))) else (if a2 = 7 then (Option.bind (f_X8_turnsBy φ 0 0 1023 a1 v2.2.1 v2.2.2) (fun v15 => some (.ok v15.1, v15.2.1, v15.2.2))) else (if a2 = 8 then (Option.bind (f_X8_turnsBy φ 0 0 1024 a1 v2.2.1 v2.2.2) (fun v17 => some (.ok v17.1, v17.2.1, v17.2.2))) else (if a2 = 9 then (Option.bind (f_X8_turnsBy φ 0 0 1025 a1 v2.2.1 v2.2.2) (fun v19 => some (.ok v19.1, v19.2.1, v19.2.2))) else (if a2 = 10 then (Option.bind (f_X1_hundredths φ 0 v2.2.1 a1) (fun v21 => some (.ok v21, v2.2.1, v2.2.2))) else (some (.error "java/util/NoSuchElementException", v2.2.1, v2.2.2))))))))))))))
set_option maxRecDepth 20000 in
theorem c_X11_grudge {g : gzG} {d φ : Nat} {a1 : Int32} {a2 : Int32} {I : gzIT} {J : gzJT} {r : (Except String Int32) × gzIT × gzJT} (h : f_X11_grudge φ a1 a2 I J = some r) : gzC g 0 (d + 5) mX11_grudge [.inr (.inr (0, 30)), .inl a1, .inl a2] (gzN, gzR0, I, J) (gzE (gzRI r.1) (gzN, gzR0, r.2.1, r.2.2)) := by
  unfold f_X11_grudge at h
  refine gzC_of (by decide +kernel) (Nat.le_of_ble_eq_true rfl) (loc := [some (.inr (.inr (0, 30))), some (.inl a1), some (.inl a2)]) rfl ?_
  have z_0_30 : gzOk 0 30 gzN := gzOk_of (by decide)
  have z_0_0 : gzOk 0 0 gzN := gzOk_of (by decide)
  have z_0_7 : gzOk 0 7 gzN := gzOk_of (by decide)
  have z_0_8 : gzOk 0 8 gzN := gzOk_of (by decide)
  have z_0_9 : gzOk 0 9 gzN := gzOk_of (by decide)
  have z_0_10 : gzOk 0 10 gzN := gzOk_of (by decide)
  have z_0_11 : gzOk 0 11 gzN := gzOk_of (by decide)
  have z_0_12 : gzOk 0 12 gzN := gzOk_of (by decide)
  have z_0_13 : gzOk 0 13 gzN := gzOk_of (by decide)
  have z_0_14 : gzOk 0 14 gzN := gzOk_of (by decide)
  refine gz_aload_n (pc := 0) dX11_grudge_0 rfl ?_
  refine gz_iload_n (pc := 1) dX11_grudge_1 rfl ?_
  refine gz_V (zy := mX11_needGrudge) (zc := 0) (pc := 2) [.inl a1] rfl dX11_grudge_2 lkX11_171 MvX11_needGrudge rfl z_0_30 rfl rfl rfl (Or.inl rfl) (fun h => h) (by exact Nat.le_of_ble_eq_true rfl) ?_
  obtain ⟨v2, e1, h⟩ := gz_bd h
  cases x3 : v2.1 with
  | error E => replace h := gz_exe x3 h; cases h; exact gz_useTV x3 (c_X11_needGrudge e1) ⟨by simp [gzRI, gzRJ, gzRV], rfl⟩
  | ok w4 =>
    replace h := gz_exo x3 h
    refine gz_useOV x3 (c_X11_needGrudge e1) ?_
    refine gz_iload_n (pc := 5) dX11_grudge_5 rfl ?_
    by_cases c0 : a2 = 0
    · replace h := gz_ifp c0 h
      refine gz_swIn (pc := 6) (tgt := 64) (off := 58) dX11_grudge_6 (by rw [c0]; decide) (by rw [c0]; decide) (by rw [c0]; rfl) (by decide) ?_
      refine gz_aload_n (pc := 64) dX11_grudge_64 rfl ?_
      refine gr_X11_42 (pc := 65) dX11_grudge_65 z_0_30 rfl ?_
      refine gr_X11_150 (pc := 68) dX11_grudge_68 z_0_0 rfl ?_
      refine gr_X11_174 (pc := 71) dX11_grudge_71 z_0_7 rfl ?_
      refine gz_iload_n (pc := 74) dX11_grudge_74 rfl ?_
      obtain ⟨b5, h⟩ := gz_gd h
      refine gz_iald2 (pc := 75) dX11_grudge_75 (k := a1.toNatClampNeg) (v := v2.2.1 0 8 a1.toNatClampNeg) z_0_8 rfl b5 rfl rfl ?_
      cases h; exact gz_iret (pc := 76) dX11_grudge_76 rfl ⟨rfl, rfl⟩
    replace h := gz_ifn c0 h
    by_cases c1 : a2 = 1
    · replace h := gz_ifp c1 h
      refine gz_swIn (pc := 6) (tgt := 77) (off := 71) dX11_grudge_6 (by rw [c1]; decide) (by rw [c1]; decide) (by rw [c1]; rfl) (by decide) ?_
      refine gz_aload_n (pc := 77) dX11_grudge_77 rfl ?_
      refine gr_X11_42 (pc := 78) dX11_grudge_78 z_0_30 rfl ?_
      refine gr_X11_150 (pc := 81) dX11_grudge_81 z_0_0 rfl ?_
      refine gr_X11_177 (pc := 84) dX11_grudge_84 z_0_7 rfl ?_
      refine gz_iload_n (pc := 87) dX11_grudge_87 rfl ?_
      obtain ⟨b6, h⟩ := gz_gd h
      refine gz_iald2 (pc := 88) dX11_grudge_88 (k := a1.toNatClampNeg) (v := v2.2.1 0 9 a1.toNatClampNeg) z_0_9 rfl b6 rfl rfl ?_
      cases h; exact gz_iret (pc := 89) dX11_grudge_89 rfl ⟨rfl, rfl⟩
    replace h := gz_ifn c1 h
    by_cases c2 : a2 = 2
    · replace h := gz_ifp c2 h
      refine gz_swIn (pc := 6) (tgt := 90) (off := 84) dX11_grudge_6 (by rw [c2]; decide) (by rw [c2]; decide) (by rw [c2]; rfl) (by decide) ?_
      refine gz_aload_n (pc := 90) dX11_grudge_90 rfl ?_
      refine gr_X11_42 (pc := 91) dX11_grudge_91 z_0_30 rfl ?_
      refine gr_X11_150 (pc := 94) dX11_grudge_94 z_0_0 rfl ?_
      refine gr_X11_180 (pc := 97) dX11_grudge_97 z_0_7 rfl ?_
      refine gz_iload_n (pc := 100) dX11_grudge_100 rfl ?_
      obtain ⟨b7, h⟩ := gz_gd h
      refine gz_iald2 (pc := 101) dX11_grudge_101 (k := a1.toNatClampNeg) (v := v2.2.1 0 10 a1.toNatClampNeg) z_0_10 rfl b7 rfl rfl ?_
      cases h; exact gz_iret (pc := 102) dX11_grudge_102 rfl ⟨rfl, rfl⟩
    replace h := gz_ifn c2 h
    by_cases c3 : a2 = 3
    · replace h := gz_ifp c3 h
      refine gz_swIn (pc := 6) (tgt := 103) (off := 97) dX11_grudge_6 (by rw [c3]; decide) (by rw [c3]; decide) (by rw [c3]; rfl) (by decide) ?_
      refine gz_aload_n (pc := 103) dX11_grudge_103 rfl ?_
      refine gr_X11_42 (pc := 104) dX11_grudge_104 z_0_30 rfl ?_
      refine gr_X11_150 (pc := 107) dX11_grudge_107 z_0_0 rfl ?_
      refine gr_X11_183 (pc := 110) dX11_grudge_110 z_0_7 rfl ?_
      refine gz_iload_n (pc := 113) dX11_grudge_113 rfl ?_
      obtain ⟨b8, h⟩ := gz_gd h
      refine gz_iald2 (pc := 114) dX11_grudge_114 (k := a1.toNatClampNeg) (v := v2.2.1 0 11 a1.toNatClampNeg) z_0_11 rfl b8 rfl rfl ?_
      cases h; exact gz_iret (pc := 115) dX11_grudge_115 rfl ⟨rfl, rfl⟩
    replace h := gz_ifn c3 h
    by_cases c4 : a2 = 4
    · replace h := gz_ifp c4 h
      refine gz_swIn (pc := 6) (tgt := 116) (off := 110) dX11_grudge_6 (by rw [c4]; decide) (by rw [c4]; decide) (by rw [c4]; rfl) (by decide) ?_
      refine gz_aload_n (pc := 116) dX11_grudge_116 rfl ?_
      refine gr_X11_42 (pc := 117) dX11_grudge_117 z_0_30 rfl ?_
      refine gr_X11_150 (pc := 120) dX11_grudge_120 z_0_0 rfl ?_
      refine gr_X11_186 (pc := 123) dX11_grudge_123 z_0_7 rfl ?_
      refine gz_iload_n (pc := 126) dX11_grudge_126 rfl ?_
      obtain ⟨b9, h⟩ := gz_gd h
      refine gz_iald2 (pc := 127) dX11_grudge_127 (k := a1.toNatClampNeg) (v := v2.2.1 0 12 a1.toNatClampNeg) z_0_12 rfl b9 rfl rfl ?_
      cases h; exact gz_iret (pc := 128) dX11_grudge_128 rfl ⟨rfl, rfl⟩
    replace h := gz_ifn c4 h
    by_cases c5 : a2 = 5
    · replace h := gz_ifp c5 h
      refine gz_swIn (pc := 6) (tgt := 129) (off := 123) dX11_grudge_6 (by rw [c5]; decide) (by rw [c5]; decide) (by rw [c5]; rfl) (by decide) ?_
      refine gz_aload_n (pc := 129) dX11_grudge_129 rfl ?_
      refine gr_X11_42 (pc := 130) dX11_grudge_130 z_0_30 rfl ?_
      refine gr_X11_150 (pc := 133) dX11_grudge_133 z_0_0 rfl ?_
      refine gr_X11_189 (pc := 136) dX11_grudge_136 z_0_7 rfl ?_
      refine gz_iload_n (pc := 139) dX11_grudge_139 rfl ?_
      obtain ⟨b10, h⟩ := gz_gd h
      refine gz_zald2 (pc := 140) dX11_grudge_140 (k := a1.toNatClampNeg) (v := v2.2.1 0 13 a1.toNatClampNeg) z_0_13 rfl b10 rfl rfl ?_
      have kj11 : gzX g 0 (d + 5) mX11_grudge 149 [some (.inr (.inr (0, 30))), some (.inl a1), some (.inl a2)] ([.inl (if v2.2.1 0 13 a1.toNatClampNeg = 0 then (0 : Int32) else 1)]) (gzN, gzR0, v2.2.1, v2.2.2) 0 (gzE (gzRI r.1) (gzN, gzR0, r.2.1, r.2.2)) := by
        cases h; exact gz_iret (pc := 149) dX11_grudge_149 rfl ⟨rfl, rfl⟩
      refine gz_if_eq (pc := 141) (tgt := 148) dX11_grudge_141 (by decide) (fun c => ?_) (fun c => ?_)
      · rw [if_pos c] at kj11
        refine gz_iconst (pc := 148) dX11_grudge_148 (v := 0) (by decide) ?_
        exact kj11
      · rw [if_neg c] at kj11
        refine gz_iconst (pc := 144) dX11_grudge_144 (v := 1) (by decide) ?_
        refine gz_goto (pc := 145) (tgt := 149) dX11_grudge_145 (by decide) ?_
        exact kj11
    replace h := gz_ifn c5 h
    by_cases c6 : a2 = 6
    · replace h := gz_ifp c6 h
      refine gz_swIn (pc := 6) (tgt := 150) (off := 144) dX11_grudge_6 (by rw [c6]; decide) (by rw [c6]; decide) (by rw [c6]; rfl) (by decide) ?_
      refine gz_aload_n (pc := 150) dX11_grudge_150 rfl ?_
      refine gr_X11_42 (pc := 151) dX11_grudge_151 z_0_30 rfl ?_
      refine gr_X11_150 (pc := 154) dX11_grudge_154 z_0_0 rfl ?_
      refine gr_X11_193 (pc := 157) dX11_grudge_157 z_0_7 rfl ?_
      refine gz_iload_n (pc := 160) dX11_grudge_160 rfl ?_
      obtain ⟨b12, h⟩ := gz_gd h
      refine gz_zald2 (pc := 161) dX11_grudge_161 (k := a1.toNatClampNeg) (v := v2.2.1 0 14 a1.toNatClampNeg) z_0_14 rfl b12 rfl rfl ?_
      have kj13 : gzX g 0 (d + 5) mX11_grudge 170 [some (.inr (.inr (0, 30))), some (.inl a1), some (.inl a2)] ([.inl (if v2.2.1 0 14 a1.toNatClampNeg = 0 then (0 : Int32) else 1)]) (gzN, gzR0, v2.2.1, v2.2.2) 0 (gzE (gzRI r.1) (gzN, gzR0, r.2.1, r.2.2)) := by
        cases h; exact gz_iret (pc := 170) dX11_grudge_170 rfl ⟨rfl, rfl⟩
      refine gz_if_eq (pc := 162) (tgt := 169) dX11_grudge_162 (by decide) (fun c => ?_) (fun c => ?_)
      · rw [if_pos c] at kj13
        refine gz_iconst (pc := 169) dX11_grudge_169 (v := 0) (by decide) ?_
        exact kj13
      · rw [if_neg c] at kj13
        refine gz_iconst (pc := 165) dX11_grudge_165 (v := 1) (by decide) ?_
        refine gz_goto (pc := 166) (tgt := 170) dX11_grudge_166 (by decide) ?_
        exact kj13
    replace h := gz_ifn c6 h
    by_cases c7 : a2 = 7
    · replace h := gz_ifp c7 h
      refine gz_swIn (pc := 6) (tgt := 171) (off := 165) dX11_grudge_6 (by rw [c7]; decide) (by rw [c7]; decide) (by rw [c7]; rfl) (by decide) ?_
      refine gz_aload_n (pc := 171) dX11_grudge_171 rfl ?_
      refine gr_X11_42 (pc := 172) dX11_grudge_172 z_0_30 rfl ?_
      refine gz_aload_n (pc := 175) dX11_grudge_175 rfl ?_
      refine gr_X11_52 (pc := 176) dX11_grudge_176 z_0_30 rfl ?_
      refine gz_sipush (pc := 179) dX11_grudge_179 (v := 1023) (by decide) ?_
      refine gz_iload_n (pc := 182) dX11_grudge_182 rfl ?_
      refine gz_V (zy := mX8_turnsBy) (zc := 0) (pc := 183) [.inr (.inr (0, 20)), .inl 1023, .inl a1] rfl dX11_grudge_183 lkX11_196 MvX8_turnsBy rfl z_0_0 rfl rfl rfl (Or.inl rfl) (fun h => h) (by exact Nat.le_of_ble_eq_true rfl) ?_
      obtain ⟨v15, e14, h⟩ := gz_bd h
      refine gz_useI (c_X8_turnsBy (by decide) (by decide) e14) ?_
      cases h; exact gz_iret (pc := 186) dX11_grudge_186 rfl ⟨rfl, rfl⟩
    replace h := gz_ifn c7 h
    by_cases c8 : a2 = 8
    · replace h := gz_ifp c8 h
      refine gz_swIn (pc := 6) (tgt := 187) (off := 181) dX11_grudge_6 (by rw [c8]; decide) (by rw [c8]; decide) (by rw [c8]; rfl) (by decide) ?_
      refine gz_aload_n (pc := 187) dX11_grudge_187 rfl ?_
      refine gr_X11_42 (pc := 188) dX11_grudge_188 z_0_30 rfl ?_
      refine gz_aload_n (pc := 191) dX11_grudge_191 rfl ?_
      refine gr_X11_52 (pc := 192) dX11_grudge_192 z_0_30 rfl ?_
      refine gz_sipush (pc := 195) dX11_grudge_195 (v := 1024) (by decide) ?_
      refine gz_iload_n (pc := 198) dX11_grudge_198 rfl ?_
      refine gz_V (zy := mX8_turnsBy) (zc := 0) (pc := 199) [.inr (.inr (0, 20)), .inl 1024, .inl a1] rfl dX11_grudge_199 lkX11_196 MvX8_turnsBy rfl z_0_0 rfl rfl rfl (Or.inl rfl) (fun h => h) (by exact Nat.le_of_ble_eq_true rfl) ?_
      obtain ⟨v17, e16, h⟩ := gz_bd h
      refine gz_useI (c_X8_turnsBy (by decide) (by decide) e16) ?_
      cases h; exact gz_iret (pc := 202) dX11_grudge_202 rfl ⟨rfl, rfl⟩
    replace h := gz_ifn c8 h
    by_cases c9 : a2 = 9
    · replace h := gz_ifp c9 h
      refine gz_swIn (pc := 6) (tgt := 203) (off := 197) dX11_grudge_6 (by rw [c9]; decide) (by rw [c9]; decide) (by rw [c9]; rfl) (by decide) ?_
      refine gz_aload_n (pc := 203) dX11_grudge_203 rfl ?_
      refine gr_X11_42 (pc := 204) dX11_grudge_204 z_0_30 rfl ?_
      refine gz_aload_n (pc := 207) dX11_grudge_207 rfl ?_
      refine gr_X11_52 (pc := 208) dX11_grudge_208 z_0_30 rfl ?_
      refine gz_sipush (pc := 211) dX11_grudge_211 (v := 1025) (by decide) ?_
      refine gz_iload_n (pc := 214) dX11_grudge_214 rfl ?_
      refine gz_V (zy := mX8_turnsBy) (zc := 0) (pc := 215) [.inr (.inr (0, 20)), .inl 1025, .inl a1] rfl dX11_grudge_215 lkX11_196 MvX8_turnsBy rfl z_0_0 rfl rfl rfl (Or.inl rfl) (fun h => h) (by exact Nat.le_of_ble_eq_true rfl) ?_
      obtain ⟨v19, e18, h⟩ := gz_bd h
      refine gz_useI (c_X8_turnsBy (by decide) (by decide) e18) ?_
      cases h; exact gz_iret (pc := 218) dX11_grudge_218 rfl ⟨rfl, rfl⟩
    replace h := gz_ifn c9 h
    by_cases c10 : a2 = 10
    · replace h := gz_ifp c10 h
      refine gz_swIn (pc := 6) (tgt := 219) (off := 213) dX11_grudge_6 (by rw [c10]; decide) (by rw [c10]; decide) (by rw [c10]; rfl) (by decide) ?_
      refine gz_aload_n (pc := 219) dX11_grudge_219 rfl ?_
      refine gr_X11_42 (pc := 220) dX11_grudge_220 z_0_30 rfl ?_
      refine gr_X11_150 (pc := 223) dX11_grudge_223 z_0_0 rfl ?_
      refine gz_iload_n (pc := 226) dX11_grudge_226 rfl ?_
      refine gz_V (zy := mX1_hundredths) (zc := 0) (pc := 227) [.inl a1] rfl dX11_grudge_227 lkX11_200 MvX1_hundredths rfl z_0_7 rfl rfl rfl (Or.inl rfl) (fun h => h) (by exact Nat.le_of_ble_eq_true rfl) ?_
      obtain ⟨v21, e20, h⟩ := gz_bd h
      refine gz_useI (c_X1_hundredths (by decide) e20) ?_
      cases h; exact gz_iret (pc := 230) dX11_grudge_230 rfl ⟨rfl, rfl⟩
    replace h := gz_ifn c10 h
    refine gz_swOut (pc := 6) (tgt := 231) dX11_grudge_6 (gz_sw0_11 c0 c1 c2 c3 c4 c5 c6 c7 c8 c9 c10) (by decide) ?_
    exact gz_thrN (pc := 231) rfl (i := 4) rfl dX11_grudge_231 dX11_grudge_234 dX11_grudge_235 dX11_grudge_237 dX11_grudge_240 (Nat.le_of_ble_eq_true rfl) (by cases h; exact ⟨rfl, rfl⟩)
/-! X11_needSlight: needSlight -/
def f_X11_needSlight (a1 : Int32) (I : gzIT) (J : gzJT) : Option ((Except String Unit) × gzIT × gzJT) := if a1 < 0 then (some (.error "java/lang/IndexOutOfBoundsException", I, J)) else (if a1 < 8 then (some (.ok (), I, J)) else (some (.error "java/lang/IndexOutOfBoundsException", I, J)))
set_option maxRecDepth 20000 in
theorem c_X11_needSlight {g : gzG} {d : Nat} {a1 : Int32} {I : gzIT} {J : gzJT} {r : (Except String Unit) × gzIT × gzJT} (h : f_X11_needSlight a1 I J = some r) : gzC g 0 d mX11_needSlight [.inr (.inr (0, 30)), .inl a1] (gzN, gzR0, I, J) (gzE (gzRV r.1) (gzN, gzR0, r.2.1, r.2.2)) := by
  unfold f_X11_needSlight at h
  refine gzC_of (by decide +kernel) (Nat.le_of_ble_eq_true rfl) (loc := [some (.inr (.inr (0, 30))), some (.inl a1)]) rfl ?_
  refine gz_iload_n (pc := 0) dX11_needSlight_0 rfl ?_
  refine gz_if_lt (pc := 1) (tgt := 10) dX11_needSlight_1 (by decide) (fun c => ?_) (fun c => ?_)
  · replace h := gz_ifp c h
    exact gz_thrW (pc := 10) th_X11_215_219 (i := 6) rfl dX11_needSlight_10 dX11_needSlight_13 dX11_needSlight_14 dX11_needSlight_17 dX11_needSlight_20 (Nat.le_of_ble_eq_true rfl) (by cases h; exact ⟨rfl, rfl⟩)
  · replace h := gz_ifn c h
    refine gz_iload_n (pc := 4) dX11_needSlight_4 rfl ?_
    refine gz_bipush (pc := 5) dX11_needSlight_5 (v := 8) (by decide) ?_
    refine gz_ic_lt (pc := 7) (tgt := 21) dX11_needSlight_7 (by decide) (fun c => ?_) (fun c => ?_)
    · replace h := gz_ifp c h
      cases h; exact gz_vret (pc := 21) dX11_needSlight_21 rfl ⟨rfl, rfl⟩
    · replace h := gz_ifn c h
      exact gz_thrW (pc := 10) th_X11_215_219 (i := 6) rfl dX11_needSlight_10 dX11_needSlight_13 dX11_needSlight_14 dX11_needSlight_17 dX11_needSlight_20 (Nat.le_of_ble_eq_true rfl) (by cases h; exact ⟨rfl, rfl⟩)
/-! X11_slight: slight -/
def f_X11_slight (φ : Nat) (a1 : Int32) (a2 : Int32) (I : gzIT) (J : gzJT) : Option ((Except String Int32) × gzIT × gzJT) := Option.bind (f_X11_needSlight a1 I J) (fun v2 => gzEx v2.1 (fun E => some (.error E, v2.2.1, v2.2.2)) (fun w4 => if a2 = 0 then (gzGd (a1) 8 (some (.ok (v2.2.1 0 17 a1.toNatClampNeg), v2.2.1, v2.2.2))) else (if a2 = 1 then (gzGd (a1) 8 (some (.ok (v2.2.1 0 18 a1.toNatClampNeg), v2.2.1, v2.2.2))) else (if a2 = 2 then (Option.bind (f_X1_over φ 0 v2.2.1 a1) (fun v8 => some (.ok v8, v2.2.1, v2.2.2))) else (some (.error "java/util/NoSuchElementException", v2.2.1, v2.2.2))))))
set_option maxRecDepth 20000 in
theorem c_X11_slight {g : gzG} {d φ : Nat} {a1 : Int32} {a2 : Int32} {I : gzIT} {J : gzJT} {r : (Except String Int32) × gzIT × gzJT} (h : f_X11_slight φ a1 a2 I J = some r) : gzC g 0 (d + 1) mX11_slight [.inr (.inr (0, 30)), .inl a1, .inl a2] (gzN, gzR0, I, J) (gzE (gzRI r.1) (gzN, gzR0, r.2.1, r.2.2)) := by
  unfold f_X11_slight at h
  refine gzC_of (by decide +kernel) (Nat.le_of_ble_eq_true rfl) (loc := [some (.inr (.inr (0, 30))), some (.inl a1), some (.inl a2)]) rfl ?_
  have z_0_30 : gzOk 0 30 gzN := gzOk_of (by decide)
  have z_0_0 : gzOk 0 0 gzN := gzOk_of (by decide)
  have z_0_17 : gzOk 0 17 gzN := gzOk_of (by decide)
  have z_0_18 : gzOk 0 18 gzN := gzOk_of (by decide)
  have z_0_7 : gzOk 0 7 gzN := gzOk_of (by decide)
  refine gz_aload_n (pc := 0) dX11_slight_0 rfl ?_
  refine gz_iload_n (pc := 1) dX11_slight_1 rfl ?_
  refine gz_V (zy := mX11_needSlight) (zc := 0) (pc := 2) [.inl a1] rfl dX11_slight_2 lkX11_203 MvX11_needSlight rfl z_0_30 rfl rfl rfl (Or.inl rfl) (fun h => h) (by exact Nat.le_of_ble_eq_true rfl) ?_
  obtain ⟨v2, e1, h⟩ := gz_bd h
  cases x3 : v2.1 with
  | error E => replace h := gz_exe x3 h; cases h; exact gz_useTV x3 (c_X11_needSlight e1) ⟨by simp [gzRI, gzRJ, gzRV], rfl⟩
  | ok w4 =>
    replace h := gz_exo x3 h
    refine gz_useOV x3 (c_X11_needSlight e1) ?_
    refine gz_iload_n (pc := 5) dX11_slight_5 rfl ?_
    by_cases c0 : a2 = 0
    · replace h := gz_ifp c0 h
      refine gz_swIn (pc := 6) (tgt := 32) (off := 26) dX11_slight_6 (by rw [c0]; decide) (by rw [c0]; decide) (by rw [c0]; rfl) (by decide) ?_
      refine gz_aload_n (pc := 32) dX11_slight_32 rfl ?_
      refine gr_X11_42 (pc := 33) dX11_slight_33 z_0_30 rfl ?_
      refine gr_X11_206 (pc := 36) dX11_slight_36 z_0_0 rfl ?_
      refine gz_iload_n (pc := 39) dX11_slight_39 rfl ?_
      obtain ⟨b5, h⟩ := gz_gd h
      refine gz_iald2 (pc := 40) dX11_slight_40 (k := a1.toNatClampNeg) (v := v2.2.1 0 17 a1.toNatClampNeg) z_0_17 rfl b5 rfl rfl ?_
      cases h; exact gz_iret (pc := 41) dX11_slight_41 rfl ⟨rfl, rfl⟩
    replace h := gz_ifn c0 h
    by_cases c1 : a2 = 1
    · replace h := gz_ifp c1 h
      refine gz_swIn (pc := 6) (tgt := 42) (off := 36) dX11_slight_6 (by rw [c1]; decide) (by rw [c1]; decide) (by rw [c1]; rfl) (by decide) ?_
      refine gz_aload_n (pc := 42) dX11_slight_42 rfl ?_
      refine gr_X11_42 (pc := 43) dX11_slight_43 z_0_30 rfl ?_
      refine gr_X11_209 (pc := 46) dX11_slight_46 z_0_0 rfl ?_
      refine gz_iload_n (pc := 49) dX11_slight_49 rfl ?_
      obtain ⟨b6, h⟩ := gz_gd h
      refine gz_iald2 (pc := 50) dX11_slight_50 (k := a1.toNatClampNeg) (v := v2.2.1 0 18 a1.toNatClampNeg) z_0_18 rfl b6 rfl rfl ?_
      cases h; exact gz_iret (pc := 51) dX11_slight_51 rfl ⟨rfl, rfl⟩
    replace h := gz_ifn c1 h
    by_cases c2 : a2 = 2
    · replace h := gz_ifp c2 h
      refine gz_swIn (pc := 6) (tgt := 52) (off := 46) dX11_slight_6 (by rw [c2]; decide) (by rw [c2]; decide) (by rw [c2]; rfl) (by decide) ?_
      refine gz_aload_n (pc := 52) dX11_slight_52 rfl ?_
      refine gr_X11_42 (pc := 53) dX11_slight_53 z_0_30 rfl ?_
      refine gr_X11_150 (pc := 56) dX11_slight_56 z_0_0 rfl ?_
      refine gz_iload_n (pc := 59) dX11_slight_59 rfl ?_
      refine gz_V (zy := mX1_over) (zc := 0) (pc := 60) [.inl a1] rfl dX11_slight_60 lkX11_212 MvX1_over rfl z_0_7 rfl rfl rfl (Or.inl rfl) (fun h => h) (by exact Nat.le_of_ble_eq_true rfl) ?_
      obtain ⟨v8, e7, h⟩ := gz_bd h
      refine gz_useI (c_X1_over (by decide) e7) ?_
      cases h; exact gz_iret (pc := 63) dX11_slight_63 rfl ⟨rfl, rfl⟩
    replace h := gz_ifn c2 h
    refine gz_swOut (pc := 6) (tgt := 64) dX11_slight_6 (gz_sw0_3 c0 c1 c2) (by decide) ?_
    exact gz_thrN (pc := 64) rfl (i := 4) rfl dX11_slight_64 dX11_slight_67 dX11_slight_68 dX11_slight_70 dX11_slight_73 (Nat.le_of_ble_eq_true rfl) (by cases h; exact ⟨rfl, rfl⟩)
/-! X11_heat: heat -/
def f_X11_heat (a1 : Int32) (I : gzIT) (J : gzJT) : Option ((Except String Int32) × gzIT × gzJT) := if a1 < 0 then (some (.error "java/lang/IndexOutOfBoundsException", I, J)) else (if a1 < 4 then (gzGd (a1) 4 (some (.ok (I 0 19 a1.toNatClampNeg), I, J))) else (some (.error "java/lang/IndexOutOfBoundsException", I, J)))
set_option maxRecDepth 20000 in
theorem c_X11_heat {g : gzG} {d : Nat} {a1 : Int32} {I : gzIT} {J : gzJT} {r : (Except String Int32) × gzIT × gzJT} (h : f_X11_heat a1 I J = some r) : gzC g 0 d mX11_heat [.inr (.inr (0, 30)), .inl a1] (gzN, gzR0, I, J) (gzE (gzRI r.1) (gzN, gzR0, r.2.1, r.2.2)) := by
  unfold f_X11_heat at h
  refine gzC_of (by decide +kernel) (Nat.le_of_ble_eq_true rfl) (loc := [some (.inr (.inr (0, 30))), some (.inl a1)]) rfl ?_
  have z_0_30 : gzOk 0 30 gzN := gzOk_of (by decide)
  have z_0_0 : gzOk 0 0 gzN := gzOk_of (by decide)
  have z_0_19 : gzOk 0 19 gzN := gzOk_of (by decide)
  refine gz_iload_n (pc := 0) dX11_heat_0 rfl ?_
  refine gz_if_lt (pc := 1) (tgt := 9) dX11_heat_1 (by decide) (fun c => ?_) (fun c => ?_)
  · replace h := gz_ifp c h
    exact gz_thr (pc := 9) th_X11_215_219 (i := 7) rfl dX11_heat_9 dX11_heat_12 dX11_heat_13 dX11_heat_15 dX11_heat_18 (Nat.le_of_ble_eq_true rfl) (by cases h; exact ⟨rfl, rfl⟩)
  · replace h := gz_ifn c h
    refine gz_iload_n (pc := 4) dX11_heat_4 rfl ?_
    refine gz_iconst (pc := 5) dX11_heat_5 (v := 4) (by decide) ?_
    refine gz_ic_lt (pc := 6) (tgt := 19) dX11_heat_6 (by decide) (fun c => ?_) (fun c => ?_)
    · replace h := gz_ifp c h
      refine gz_aload_n (pc := 19) dX11_heat_19 rfl ?_
      refine gr_X11_42 (pc := 20) dX11_heat_20 z_0_30 rfl ?_
      refine gr_X11_220 (pc := 23) dX11_heat_23 z_0_0 rfl ?_
      refine gz_iload_n (pc := 26) dX11_heat_26 rfl ?_
      obtain ⟨b1, h⟩ := gz_gd h
      refine gz_iald2 (pc := 27) dX11_heat_27 (k := a1.toNatClampNeg) (v := I 0 19 a1.toNatClampNeg) z_0_19 rfl b1 rfl rfl ?_
      cases h; exact gz_iret (pc := 28) dX11_heat_28 rfl ⟨rfl, rfl⟩
    · replace h := gz_ifn c h
      exact gz_thr (pc := 9) th_X11_215_219 (i := 7) rfl dX11_heat_9 dX11_heat_12 dX11_heat_13 dX11_heat_15 dX11_heat_18 (Nat.le_of_ble_eq_true rfl) (by cases h; exact ⟨rfl, rfl⟩)
/-! X11_needNumber: needNumber -/
def f_X11_needNumber (a1 : Int32) (a2 : Int32) (a3 : Int32) (I : gzIT) (J : gzJT) : Option ((Except String Unit) × gzIT × gzJT) := if a1 < a2 then (some (.error "java/lang/IllegalArgumentException", I, J)) else (if a1 ≤ a3 then (some (.ok (), I, J)) else (some (.error "java/lang/IllegalArgumentException", I, J)))
set_option maxRecDepth 20000 in
theorem c_X11_needNumber {g : gzG} {d : Nat} {a1 : Int32} {a2 : Int32} {a3 : Int32} {I : gzIT} {J : gzJT} {r : (Except String Unit) × gzIT × gzJT} (h : f_X11_needNumber a1 a2 a3 I J = some r) : gzC g 0 d mX11_needNumber [.inr (.inr (0, 30)), .inl a1, .inl a2, .inl a3] (gzN, gzR0, I, J) (gzE (gzRV r.1) (gzN, gzR0, r.2.1, r.2.2)) := by
  unfold f_X11_needNumber at h
  refine gzC_of (by decide +kernel) (Nat.le_of_ble_eq_true rfl) (loc := [some (.inr (.inr (0, 30))), some (.inl a1), some (.inl a2), some (.inl a3)]) rfl ?_
  refine gz_iload_n (pc := 0) dX11_needNumber_0 rfl ?_
  refine gz_iload_n (pc := 1) dX11_needNumber_1 rfl ?_
  refine gz_ic_lt (pc := 2) (tgt := 10) dX11_needNumber_2 (by decide) (fun c => ?_) (fun c => ?_)
  · replace h := gz_ifp c h
    exact gz_thrW (pc := 10) th_X11_447_451 (i := 8) rfl dX11_needNumber_10 dX11_needNumber_13 dX11_needNumber_14 dX11_needNumber_17 dX11_needNumber_20 (Nat.le_of_ble_eq_true rfl) (by cases h; exact ⟨rfl, rfl⟩)
  · replace h := gz_ifn c h
    refine gz_iload_n (pc := 5) dX11_needNumber_5 rfl ?_
    refine gz_iload_n (pc := 6) dX11_needNumber_6 rfl ?_
    refine gz_ic_le (pc := 7) (tgt := 21) dX11_needNumber_7 (by decide) (fun c => ?_) (fun c => ?_)
    · replace h := gz_ifp c h
      cases h; exact gz_vret (pc := 21) dX11_needNumber_21 rfl ⟨rfl, rfl⟩
    · replace h := gz_ifn c h
      exact gz_thrW (pc := 10) th_X11_447_451 (i := 8) rfl dX11_needNumber_10 dX11_needNumber_13 dX11_needNumber_14 dX11_needNumber_17 dX11_needNumber_20 (Nat.le_of_ble_eq_true rfl) (by cases h; exact ⟨rfl, rfl⟩)
/-! X11_seasons: seasons -/
def gP_X11_seasons_23 (g : gzG) (d : Nat) (r : (Except String Int32) × gzIT × gzJT) (x1 : Int32) (x2 : Int32) (x3 : Int32) (I : gzIT) (J : gzJT) : Prop := gzX g 0 (d + 6) mX11_seasons 23 [some (.inr (.inr (0, 30))), some (.inl x1), some (.inl x2), some (.inl x3)] [] (gzN, gzR0, I, J) 0 (gzE (gzRI r.1) (gzN, gzR0, r.2.1, r.2.2))
def f_X11_seasons_23 (φ : Nat) : Nat → Int32 → Int32 → Int32 → gzIT → gzJT → Option ((Except String Int32) × gzIT × gzJT)
  | 0, _, _, _, _, _ => none
  | k + 1, x1, x2, x3, I, J => if x1 ≤ x3 then (some (.ok x2, I, J)) else (Option.bind (f_X8_pass φ 0 0 1 I J) (fun v8 => f_X11_seasons_23 φ k x1 (x2 + v8.1) (x3 + 1) v8.2.1 v8.2.2))
set_option maxRecDepth 20000 in
theorem p_X11_seasons_23 {g : gzG} {d φ : Nat} {r : (Except String Int32) × gzIT × gzJT} : ∀ (k : Nat) (x1 : Int32) (x2 : Int32) (x3 : Int32) (I : gzIT) (J : gzJT), f_X11_seasons_23 φ k x1 x2 x3 I J = some r → gP_X11_seasons_23 g d r x1 x2 x3 I J := by
  intro k; induction k with
  | zero => intro x1 x2 x3 I J h; cases h
  | succ k ih =>
    intro x1 x2 x3 I J h
    unfold f_X11_seasons_23 at h
    unfold gP_X11_seasons_23
    have z_0_30 : gzOk 0 30 gzN := gzOk_of (by decide)
    have z_0_0 : gzOk 0 0 gzN := gzOk_of (by decide)
    refine gz_iload_n (pc := 23) dX11_seasons_23 rfl ?_
    refine gz_iload_n (pc := 24) dX11_seasons_24 rfl ?_
    refine gz_ic_ge (pc := 25) (tgt := 49) dX11_seasons_25 (by decide) (fun c => ?_) (fun c => ?_)
    · replace h := gz_ifp c h
      refine gz_iload_n (pc := 49) dX11_seasons_49 rfl ?_
      cases h; exact gz_iret (pc := 50) dX11_seasons_50 rfl ⟨rfl, rfl⟩
    · replace h := gz_ifn c h
      refine gz_iload_n (pc := 28) dX11_seasons_28 rfl ?_
      refine gz_aload_n (pc := 29) dX11_seasons_29 rfl ?_
      refine gr_X11_42 (pc := 30) dX11_seasons_30 z_0_30 rfl ?_
      refine gz_aload_n (pc := 33) dX11_seasons_33 rfl ?_
      refine gr_X11_52 (pc := 34) dX11_seasons_34 z_0_30 rfl ?_
      refine gz_iconst (pc := 37) dX11_seasons_37 (v := 1) (by decide) ?_
      refine gz_V (zy := mX8_pass) (zc := 0) (pc := 38) [.inr (.inr (0, 20)), .inl 1] rfl dX11_seasons_38 lkX11_230 MvX8_pass rfl z_0_0 rfl rfl rfl (Or.inl rfl) (fun h => h) (by exact Nat.le_of_ble_eq_true rfl) ?_
      obtain ⟨v8, e7, h⟩ := gz_bd h
      refine gz_useI (c_X8_pass (by decide) (by decide) e7) ?_
      refine gz_iadd (pc := 41) dX11_seasons_41  ?_
      refine gz_istore_n (pc := 42) dX11_seasons_42 (by decide) rfl (loc2 := [some (.inr (.inr (0, 30))), some (.inl x1), some (.inl (x2 + v8.1)), some (.inl x3)]) rfl ?_
      refine gz_iinc (pc := 43) dX11_seasons_43 (x := x3) (v := x3 + 1) rfl (by rw [show Int32.ofInt 1 = 1 by decide]) (by decide) rfl (loc2 := [some (.inr (.inr (0, 30))), some (.inl x1), some (.inl (x2 + v8.1)), some (.inl (x3 + 1))]) rfl ?_
      refine gz_goto (pc := 46) (tgt := 23) dX11_seasons_46 (by decide) ?_
      exact ih x1 (x2 + v8.1) (x3 + 1) v8.2.1 v8.2.2 h
def f_X11_seasons (φ : Nat) (a1 : Int32) (I : gzIT) (J : gzJT) : Option ((Except String Int32) × gzIT × gzJT) := Option.bind (f_X11_needNumber a1 1 60 I J) (fun v2 => gzEx v2.1 (fun E => some (.error E, v2.2.1, v2.2.2)) (fun w4 => Option.bind (f_X5_keep φ 0 v2.2.1 v2.2.2) (fun v6 => f_X11_seasons_23 φ φ a1 0 0 v6.2.1 v6.2.2)))
set_option maxRecDepth 20000 in
theorem c_X11_seasons {g : gzG} {d φ : Nat} {a1 : Int32} {I : gzIT} {J : gzJT} {r : (Except String Int32) × gzIT × gzJT} (h : f_X11_seasons φ a1 I J = some r) : gzC g 0 (d + 6) mX11_seasons [.inr (.inr (0, 30)), .inl a1] (gzN, gzR0, I, J) (gzE (gzRI r.1) (gzN, gzR0, r.2.1, r.2.2)) := by
  unfold f_X11_seasons at h
  refine gzC_of (by decide +kernel) (Nat.le_of_ble_eq_true rfl) (loc := [some (.inr (.inr (0, 30))), some (.inl a1), none, none]) rfl ?_
  have z_0_30 : gzOk 0 30 gzN := gzOk_of (by decide)
  have z_0_39 : gzOk 0 39 gzN := gzOk_of (by decide)
  refine gz_aload_n (pc := 0) dX11_seasons_0 rfl ?_
  refine gz_iload_n (pc := 1) dX11_seasons_1 rfl ?_
  refine gz_iconst (pc := 2) dX11_seasons_2 (v := 1) (by decide) ?_
  refine gz_bipush (pc := 3) dX11_seasons_3 (v := 60) (by decide) ?_
  refine gz_V (zy := mX11_needNumber) (zc := 0) (pc := 5) [.inl a1, .inl 1, .inl 60] rfl dX11_seasons_5 lkX11_223 MvX11_needNumber rfl z_0_30 rfl rfl rfl (Or.inl rfl) (fun h => h) (by exact Nat.le_of_ble_eq_true rfl) ?_
  obtain ⟨v2, e1, h⟩ := gz_bd h
  cases x3 : v2.1 with
  | error E => replace h := gz_exe x3 h; cases h; exact gz_useTV x3 (c_X11_needNumber e1) ⟨by simp [gzRI, gzRJ, gzRV], rfl⟩
  | ok w4 =>
    replace h := gz_exo x3 h
    refine gz_useOV x3 (c_X11_needNumber e1) ?_
    refine gz_aload_n (pc := 8) dX11_seasons_8 rfl ?_
    refine gr_X11_62 (pc := 9) dX11_seasons_9 z_0_30 rfl ?_
    refine gz_aload_n (pc := 12) dX11_seasons_12 rfl ?_
    refine gr_X11_42 (pc := 13) dX11_seasons_13 z_0_30 rfl ?_
    refine gz_V (zy := mX5_keep) (zc := 0) (pc := 16) [.inr (.inr (0, 0))] rfl dX11_seasons_16 lkX11_227 MvX5_keep rfl z_0_39 rfl rfl rfl (Or.inl rfl) (fun h => h) (by exact Nat.le_of_ble_eq_true rfl) ?_
    obtain ⟨v6, e5, h⟩ := gz_bd h
    refine gz_useV (c_X5_keep (by decide) e5) ?_
    refine gz_iconst (pc := 19) dX11_seasons_19 (v := 0) (by decide) ?_
    refine gz_istore_n (pc := 20) dX11_seasons_20 (by decide) rfl (loc2 := [some (.inr (.inr (0, 30))), some (.inl a1), some (.inl 0), none]) rfl ?_
    refine gz_iconst (pc := 21) dX11_seasons_21 (v := 0) (by decide) ?_
    refine gz_istore_n (pc := 22) dX11_seasons_22 (by decide) rfl (loc2 := [some (.inr (.inr (0, 30))), some (.inl a1), some (.inl 0), some (.inl 0)]) rfl ?_
    exact p_X11_seasons_23 φ a1 0 0 v6.2.1 v6.2.2 h
/-! X11_needTwo: needTwo -/
def f_X11_needTwo (a1 : Int32) (a2 : Int32) (I : gzIT) (J : gzJT) : Option ((Except String Unit) × gzIT × gzJT) := if ¬ a1 = a2 then (some (.ok (), I, J)) else (some (.error "java/lang/IllegalArgumentException", I, J))
set_option maxRecDepth 20000 in
theorem c_X11_needTwo {g : gzG} {d : Nat} {a1 : Int32} {a2 : Int32} {I : gzIT} {J : gzJT} {r : (Except String Unit) × gzIT × gzJT} (h : f_X11_needTwo a1 a2 I J = some r) : gzC g 0 d mX11_needTwo [.inr (.inr (0, 30)), .inl a1, .inl a2] (gzN, gzR0, I, J) (gzE (gzRV r.1) (gzN, gzR0, r.2.1, r.2.2)) := by
  unfold f_X11_needTwo at h
  refine gzC_of (by decide +kernel) (Nat.le_of_ble_eq_true rfl) (loc := [some (.inr (.inr (0, 30))), some (.inl a1), some (.inl a2)]) rfl ?_
  refine gz_iload_n (pc := 0) dX11_needTwo_0 rfl ?_
  refine gz_iload_n (pc := 1) dX11_needTwo_1 rfl ?_
  refine gz_ic_ne (pc := 2) (tgt := 16) dX11_needTwo_2 (by decide) (fun c => ?_) (fun c => ?_)
  · replace h := gz_ifp c h
    cases h; exact gz_vret (pc := 16) dX11_needTwo_16 rfl ⟨rfl, rfl⟩
  · replace h := gz_ifn (fun q => q c) h
    exact gz_thrW (pc := 5) th_X11_447_451 (i := 9) rfl dX11_needTwo_5 dX11_needTwo_8 dX11_needTwo_9 dX11_needTwo_12 dX11_needTwo_15 (Nat.le_of_ble_eq_true rfl) (by cases h; exact ⟨rfl, rfl⟩)
/-! X11_insult: insult -/
def gP_X11_insult_66 (g : gzG) (d : Nat) (r : (Except String Int32) × gzIT × gzJT) (x1 : Int32) (x2 : Int32) (x3 : Int32) (x4 : Int32) (I : gzIT) (J : gzJT) : Prop := gzX g 0 (d + 4) mX11_insult 66 [some (.inr (.inr (0, 30))), some (.inl x1), some (.inl x2), some (.inl x3), some (.inl x4), none] [] (gzN, gzR0, I, J) 0 (gzE (gzRI r.1) (gzN, gzR0, r.2.1, r.2.2))
def f_X11_insult_66 (φ : Nat) (x1 : Int32) (x2 : Int32) (x3 : Int32) (x4 : Int32) (I : gzIT) (J : gzJT) : Option ((Except String Int32) × gzIT × gzJT) := Option.bind (f_X5_keep φ 0 I J) (fun v20 => gzGd (x3) 8 (if ¬ x4 = (-1) then (Option.bind (f_X1_offend 0 x4 x3 (10 + (v20.2.1 0 17 x3.toNatClampNeg)) v20.2.1 v20.2.2) (fun v23 => some (.ok x4, v23.2.1, v23.2.2))) else (Option.bind (f_X1_add 0 x1 x2 x3 (10 + (v20.2.1 0 17 x3.toNatClampNeg)) v20.2.1 v20.2.2) (fun v25 => some (.ok v25.1, v25.2.1, v25.2.2)))))
set_option maxRecDepth 20000 in
theorem p_X11_insult_66 {g : gzG} {d φ : Nat} {r : (Except String Int32) × gzIT × gzJT} (x1 : Int32) (x2 : Int32) (x3 : Int32) (x4 : Int32) (I : gzIT) (J : gzJT) (h : f_X11_insult_66 φ x1 x2 x3 x4 I J = some r) : gP_X11_insult_66 g d r x1 x2 x3 x4 I J := by
  unfold f_X11_insult_66 at h
  unfold gP_X11_insult_66
  have z_0_30 : gzOk 0 30 gzN := gzOk_of (by decide)
  have z_0_39 : gzOk 0 39 gzN := gzOk_of (by decide)
  have z_0_0 : gzOk 0 0 gzN := gzOk_of (by decide)
  have z_0_17 : gzOk 0 17 gzN := gzOk_of (by decide)
  have z_0_7 : gzOk 0 7 gzN := gzOk_of (by decide)
  refine gz_aload_n (pc := 66) dX11_insult_66 rfl ?_
  refine gr_X11_62 (pc := 67) dX11_insult_67 z_0_30 rfl ?_
  refine gz_aload_n (pc := 70) dX11_insult_70 rfl ?_
  refine gr_X11_42 (pc := 71) dX11_insult_71 z_0_30 rfl ?_
  refine gz_V (zy := mX5_keep) (zc := 0) (pc := 74) [.inr (.inr (0, 0))] rfl dX11_insult_74 lkX11_227 MvX5_keep rfl z_0_39 rfl rfl rfl (Or.inl rfl) (fun h => h) (by exact Nat.le_of_ble_eq_true rfl) ?_
  obtain ⟨v20, e19, h⟩ := gz_bd h
  refine gz_useV (c_X5_keep (by decide) e19) ?_
  refine gz_bipush (pc := 77) dX11_insult_77 (v := 10) (by decide) ?_
  refine gz_aload_n (pc := 79) dX11_insult_79 rfl ?_
  refine gr_X11_42 (pc := 80) dX11_insult_80 z_0_30 rfl ?_
  refine gr_X11_206 (pc := 83) dX11_insult_83 z_0_0 rfl ?_
  refine gz_iload_n (pc := 86) dX11_insult_86 rfl ?_
  obtain ⟨b21, h⟩ := gz_gd h
  refine gz_iald2 (pc := 87) dX11_insult_87 (k := x3.toNatClampNeg) (v := v20.2.1 0 17 x3.toNatClampNeg) z_0_17 rfl b21 rfl rfl ?_
  refine gz_iadd (pc := 88) dX11_insult_88  ?_
  refine gz_istore (pc := 89) dX11_insult_89 (by decide) rfl (loc2 := [some (.inr (.inr (0, 30))), some (.inl x1), some (.inl x2), some (.inl x3), some (.inl x4), some (.inl (10 + (v20.2.1 0 17 x3.toNatClampNeg)))]) rfl ?_
  refine gz_iload (pc := 91) dX11_insult_91 rfl ?_
  refine gz_iconst (pc := 93) dX11_insult_93 (v := (-1)) (by decide) ?_
  refine gz_ic_ne (pc := 94) (tgt := 113) dX11_insult_94 (by decide) (fun c => ?_) (fun c => ?_)
  · replace h := gz_ifp c h
    refine gz_aload_n (pc := 113) dX11_insult_113 rfl ?_
    refine gr_X11_42 (pc := 114) dX11_insult_114 z_0_30 rfl ?_
    refine gr_X11_150 (pc := 117) dX11_insult_117 z_0_0 rfl ?_
    refine gz_iload (pc := 120) dX11_insult_120 rfl ?_
    refine gz_iload_n (pc := 122) dX11_insult_122 rfl ?_
    refine gz_iload (pc := 123) dX11_insult_123 rfl ?_
    refine gz_V (zy := mX1_offend) (zc := 0) (pc := 125) [.inl x4, .inl x3, .inl (10 + (v20.2.1 0 17 x3.toNatClampNeg))] rfl dX11_insult_125 lkX11_254 MvX1_offend rfl z_0_7 rfl rfl rfl (Or.inl rfl) (fun h => h) (by exact Nat.le_of_ble_eq_true rfl) ?_
    obtain ⟨v23, e22, h⟩ := gz_bd h
    refine gz_useV (c_X1_offend (by decide) e22) ?_
    refine gz_iload (pc := 128) dX11_insult_128 rfl ?_
    cases h; exact gz_iret (pc := 130) dX11_insult_130 rfl ⟨rfl, rfl⟩
  · replace h := gz_ifn (fun q => q c) h
    refine gz_aload_n (pc := 97) dX11_insult_97 rfl ?_
    refine gr_X11_42 (pc := 98) dX11_insult_98 z_0_30 rfl ?_
    refine gr_X11_150 (pc := 101) dX11_insult_101 z_0_0 rfl ?_
    refine gz_iload_n (pc := 104) dX11_insult_104 rfl ?_
    refine gz_iload_n (pc := 105) dX11_insult_105 rfl ?_
    refine gz_iload_n (pc := 106) dX11_insult_106 rfl ?_
    refine gz_iload (pc := 107) dX11_insult_107 rfl ?_
    refine gz_V (zy := mX1_add) (zc := 0) (pc := 109) [.inl x1, .inl x2, .inl x3, .inl (10 + (v20.2.1 0 17 x3.toNatClampNeg))] rfl dX11_insult_109 lkX11_250 MvX1_add rfl z_0_7 rfl rfl rfl (Or.inl rfl) (fun h => h) (by exact Nat.le_of_ble_eq_true rfl) ?_
    obtain ⟨v25, e24, h⟩ := gz_bd h
    refine gz_useI (c_X1_add (by decide) e24) ?_
    cases h; exact gz_iret (pc := 112) dX11_insult_112 rfl ⟨rfl, rfl⟩
def f_X11_insult (φ : Nat) (a1 : Int32) (a2 : Int32) (a3 : Int32) (I : gzIT) (J : gzJT) : Option ((Except String Int32) × gzIT × gzJT) := Option.bind (f_X11_needFamily a1 I J) (fun v2 => gzEx v2.1 (fun E => some (.error E, v2.2.1, v2.2.2)) (fun w4 => Option.bind (f_X11_needFamily a2 v2.2.1 v2.2.2) (fun v6 => gzEx v6.1 (fun E => some (.error E, v6.2.1, v6.2.2)) (fun w8 => Option.bind (f_X11_needSlight a3 v6.2.1 v6.2.2) (fun v10 => gzEx v10.1 (fun E => some (.error E, v10.2.1, v10.2.2)) (fun w12 => Option.bind (f_X11_needTwo a1 a2 v10.2.1 v10.2.2) (fun v14 => gzEx v14.1 (fun E => some (.error E, v14.2.1, v14.2.2)) (fun w16 => Option.bind (f_X1_find φ 0 v14.2.1 a1 a2) (fun v18 => if ¬ v18 = (-1) then (f_X11_insult_66 φ a1 a2 a3 v18 v14.2.1 v14.2.2) else (if v14.2.1 0 7 7 < 10 then (f_X11_insult_66 φ a1 a2 a3 v18 v14.2.1 v14.2.2) else (some (.error "java/lang/IllegalStateException", v14.2.1, v14.2.2))))))))))))
set_option maxRecDepth 20000 in
theorem c_X11_insult {g : gzG} {d φ : Nat} {a1 : Int32} {a2 : Int32} {a3 : Int32} {I : gzIT} {J : gzJT} {r : (Except String Int32) × gzIT × gzJT} (h : f_X11_insult φ a1 a2 a3 I J = some r) : gzC g 0 (d + 4) mX11_insult [.inr (.inr (0, 30)), .inl a1, .inl a2, .inl a3] (gzN, gzR0, I, J) (gzE (gzRI r.1) (gzN, gzR0, r.2.1, r.2.2)) := by
  unfold f_X11_insult at h
  refine gzC_of (by decide +kernel) (Nat.le_of_ble_eq_true rfl) (loc := [some (.inr (.inr (0, 30))), some (.inl a1), some (.inl a2), some (.inl a3), none, none]) rfl ?_
  have z_0_30 : gzOk 0 30 gzN := gzOk_of (by decide)
  have z_0_0 : gzOk 0 0 gzN := gzOk_of (by decide)
  have z_0_7 : gzOk 0 7 gzN := gzOk_of (by decide)
  refine gz_aload_n (pc := 0) dX11_insult_0 rfl ?_
  refine gz_iload_n (pc := 1) dX11_insult_1 rfl ?_
  refine gz_V (zy := mX11_needFamily) (zc := 0) (pc := 2) [.inl a1] rfl dX11_insult_2 lkX11_128 MvX11_needFamily rfl z_0_30 rfl rfl rfl (Or.inl rfl) (fun h => h) (by exact Nat.le_of_ble_eq_true rfl) ?_
  obtain ⟨v2, e1, h⟩ := gz_bd h
  cases x3 : v2.1 with
  | error E => replace h := gz_exe x3 h; cases h; exact gz_useTV x3 (c_X11_needFamily e1) ⟨by simp [gzRI, gzRJ, gzRV], rfl⟩
  | ok w4 =>
    replace h := gz_exo x3 h
    refine gz_useOV x3 (c_X11_needFamily e1) ?_
    refine gz_aload_n (pc := 5) dX11_insult_5 rfl ?_
    refine gz_iload_n (pc := 6) dX11_insult_6 rfl ?_
    refine gz_V (zy := mX11_needFamily) (zc := 0) (pc := 7) [.inl a2] rfl dX11_insult_7 lkX11_128 MvX11_needFamily rfl z_0_30 rfl rfl rfl (Or.inl rfl) (fun h => h) (by exact Nat.le_of_ble_eq_true rfl) ?_
    obtain ⟨v6, e5, h⟩ := gz_bd h
    cases x7 : v6.1 with
    | error E => replace h := gz_exe x7 h; cases h; exact gz_useTV x7 (c_X11_needFamily e5) ⟨by simp [gzRI, gzRJ, gzRV], rfl⟩
    | ok w8 =>
      replace h := gz_exo x7 h
      refine gz_useOV x7 (c_X11_needFamily e5) ?_
      refine gz_aload_n (pc := 10) dX11_insult_10 rfl ?_
      refine gz_iload_n (pc := 11) dX11_insult_11 rfl ?_
      refine gz_V (zy := mX11_needSlight) (zc := 0) (pc := 12) [.inl a3] rfl dX11_insult_12 lkX11_203 MvX11_needSlight rfl z_0_30 rfl rfl rfl (Or.inl rfl) (fun h => h) (by exact Nat.le_of_ble_eq_true rfl) ?_
      obtain ⟨v10, e9, h⟩ := gz_bd h
      cases x11 : v10.1 with
      | error E => replace h := gz_exe x11 h; cases h; exact gz_useTV x11 (c_X11_needSlight e9) ⟨by simp [gzRI, gzRJ, gzRV], rfl⟩
      | ok w12 =>
        replace h := gz_exo x11 h
        refine gz_useOV x11 (c_X11_needSlight e9) ?_
        refine gz_aload_n (pc := 15) dX11_insult_15 rfl ?_
        refine gz_iload_n (pc := 16) dX11_insult_16 rfl ?_
        refine gz_iload_n (pc := 17) dX11_insult_17 rfl ?_
        refine gz_V (zy := mX11_needTwo) (zc := 0) (pc := 18) [.inl a1, .inl a2] rfl dX11_insult_18 lkX11_234 MvX11_needTwo rfl z_0_30 rfl rfl rfl (Or.inl rfl) (fun h => h) (by exact Nat.le_of_ble_eq_true rfl) ?_
        obtain ⟨v14, e13, h⟩ := gz_bd h
        cases x15 : v14.1 with
        | error E => replace h := gz_exe x15 h; cases h; exact gz_useTV x15 (c_X11_needTwo e13) ⟨by simp [gzRI, gzRJ, gzRV], rfl⟩
        | ok w16 =>
          replace h := gz_exo x15 h
          refine gz_useOV x15 (c_X11_needTwo e13) ?_
          refine gz_aload_n (pc := 21) dX11_insult_21 rfl ?_
          refine gr_X11_42 (pc := 22) dX11_insult_22 z_0_30 rfl ?_
          refine gr_X11_150 (pc := 25) dX11_insult_25 z_0_0 rfl ?_
          refine gz_iload_n (pc := 28) dX11_insult_28 rfl ?_
          refine gz_iload_n (pc := 29) dX11_insult_29 rfl ?_
          refine gz_V (zy := mX1_find) (zc := 0) (pc := 30) [.inl a1, .inl a2] rfl dX11_insult_30 lkX11_238 MvX1_find rfl z_0_7 rfl rfl rfl (Or.inl rfl) (fun h => h) (by exact Nat.le_of_ble_eq_true rfl) ?_
          obtain ⟨v18, e17, h⟩ := gz_bd h
          refine gz_useI (c_X1_find (by decide) e17) ?_
          refine gz_istore (pc := 33) dX11_insult_33 (by decide) rfl (loc2 := [some (.inr (.inr (0, 30))), some (.inl a1), some (.inl a2), some (.inl a3), some (.inl v18), none]) rfl ?_
          refine gz_iload (pc := 35) dX11_insult_35 rfl ?_
          refine gz_iconst (pc := 37) dX11_insult_37 (v := (-1)) (by decide) ?_
          refine gz_ic_ne (pc := 38) (tgt := 66) dX11_insult_38 (by decide) (fun c => ?_) (fun c => ?_)
          · replace h := gz_ifp c h
            exact p_X11_insult_66 a1 a2 a3 v18 v14.2.1 v14.2.2 h
          · replace h := gz_ifn (fun q => q c) h
            refine gz_aload_n (pc := 41) dX11_insult_41 rfl ?_
            refine gr_X11_42 (pc := 42) dX11_insult_42 z_0_30 rfl ?_
            refine gr_X11_150 (pc := 45) dX11_insult_45 z_0_0 rfl ?_
            refine gi_X11_242 (pc := 48) dX11_insult_48 (v := v14.2.1 0 7 7) z_0_7 rfl rfl ?_
            refine gz_bipush (pc := 51) dX11_insult_51 (v := 10) (by decide) ?_
            refine gz_ic_lt (pc := 53) (tgt := 66) dX11_insult_53 (by decide) (fun c => ?_) (fun c => ?_)
            · replace h := gz_ifp c h
              exact p_X11_insult_66 a1 a2 a3 v18 v14.2.1 v14.2.2 h
            · replace h := gz_ifn c h
              exact gz_thr (pc := 56) th_X11_245_249 (i := 10) rfl dX11_insult_56 dX11_insult_59 dX11_insult_60 dX11_insult_62 dX11_insult_65 (Nat.le_of_ble_eq_true rfl) (by cases h; exact ⟨rfl, rfl⟩)
/-! X11_needFrozen: needFrozen -/
def f_X11_needFrozen (a1 : Int32) (I : gzIT) (J : gzJT) : Option ((Except String Unit) × gzIT × gzJT) := Option.bind (f_X1_frozen 0 I a1) (fun v2 => if ¬ v2 = 0 then (some (.ok (), I, J)) else (some (.error "java/lang/IllegalStateException", I, J)))
set_option maxRecDepth 20000 in
theorem c_X11_needFrozen {g : gzG} {d : Nat} {a1 : Int32} {I : gzIT} {J : gzJT} {r : (Except String Unit) × gzIT × gzJT} (h : f_X11_needFrozen a1 I J = some r) : gzC g 0 (d + 1) mX11_needFrozen [.inr (.inr (0, 30)), .inl a1] (gzN, gzR0, I, J) (gzE (gzRV r.1) (gzN, gzR0, r.2.1, r.2.2)) := by
  unfold f_X11_needFrozen at h
  refine gzC_of (by decide +kernel) (Nat.le_of_ble_eq_true rfl) (loc := [some (.inr (.inr (0, 30))), some (.inl a1)]) rfl ?_
  have z_0_30 : gzOk 0 30 gzN := gzOk_of (by decide)
  have z_0_0 : gzOk 0 0 gzN := gzOk_of (by decide)
  have z_0_7 : gzOk 0 7 gzN := gzOk_of (by decide)
  refine gz_aload_n (pc := 0) dX11_needFrozen_0 rfl ?_
  refine gr_X11_42 (pc := 1) dX11_needFrozen_1 z_0_30 rfl ?_
  refine gr_X11_150 (pc := 4) dX11_needFrozen_4 z_0_0 rfl ?_
  refine gz_iload_n (pc := 7) dX11_needFrozen_7 rfl ?_
  refine gz_V (zy := mX1_frozen) (zc := 0) (pc := 8) [.inl a1] rfl dX11_needFrozen_8 lkX11_373 MvX1_frozen rfl z_0_7 rfl rfl rfl (Or.inl rfl) (fun h => h) (by exact Nat.le_of_ble_eq_true rfl) ?_
  obtain ⟨v2, e1, h⟩ := gz_bd h
  refine gz_useI (c_X1_frozen (by decide) e1) ?_
  refine gz_if_ne (pc := 11) (tgt := 25) dX11_needFrozen_11 (by decide) (fun c => ?_) (fun c => ?_)
  · replace h := gz_ifp c h
    cases h; exact gz_vret (pc := 25) dX11_needFrozen_25 rfl ⟨rfl, rfl⟩
  · replace h := gz_ifn (fun q => q c) h
    exact gz_thrW (pc := 14) th_X11_245_249 (i := 11) rfl dX11_needFrozen_14 dX11_needFrozen_17 dX11_needFrozen_18 dX11_needFrozen_21 dX11_needFrozen_24 (Nat.le_of_ble_eq_true rfl) (by cases h; exact ⟨rfl, rfl⟩)
/-! X11_forgive: forgive -/
def f_X11_forgive (φ : Nat) (a1 : Int32) (I : gzIT) (J : gzJT) : Option ((Except String Int32) × gzIT × gzJT) := Option.bind (f_X11_needGrudge a1 I J) (fun v2 => gzEx v2.1 (fun E => some (.error E, v2.2.1, v2.2.2)) (fun w4 => Option.bind (f_X11_needFrozen a1 v2.2.1 v2.2.2) (fun v6 => gzEx v6.1 (fun E => some (.error E, v6.2.1, v6.2.2)) (fun w8 => Option.bind (f_X5_keep φ 0 v6.2.1 v6.2.2) (fun v10 => gzGd (a1) 10 (Option.bind (f_X4_put 0 (v10.2.1 0 0 7) a1 1 0 (gz_ui v10.2.1 0 14 a1.toNatClampNeg 1) v10.2.2) (fun v13 => some (.ok (v13.2.1 0 12 a1.toNatClampNeg), v13.2.1, v13.2.2))))))))
set_option maxRecDepth 20000 in
theorem c_X11_forgive {g : gzG} {d φ : Nat} {a1 : Int32} {I : gzIT} {J : gzJT} {r : (Except String Int32) × gzIT × gzJT} (h : f_X11_forgive φ a1 I J = some r) : gzC g 0 (d + 4) mX11_forgive [.inr (.inr (0, 30)), .inl a1] (gzN, gzR0, I, J) (gzE (gzRI r.1) (gzN, gzR0, r.2.1, r.2.2)) := by
  unfold f_X11_forgive at h
  refine gzC_of (by decide +kernel) (Nat.le_of_ble_eq_true rfl) (loc := [some (.inr (.inr (0, 30))), some (.inl a1)]) rfl ?_
  have z_0_30 : gzOk 0 30 gzN := gzOk_of (by decide)
  have z_0_39 : gzOk 0 39 gzN := gzOk_of (by decide)
  have z_0_0 : gzOk 0 0 gzN := gzOk_of (by decide)
  have z_0_7 : gzOk 0 7 gzN := gzOk_of (by decide)
  have z_0_14 : gzOk 0 14 gzN := gzOk_of (by decide)
  have z_0_15 : gzOk 0 15 gzN := gzOk_of (by decide)
  have z_0_12 : gzOk 0 12 gzN := gzOk_of (by decide)
  refine gz_aload_n (pc := 0) dX11_forgive_0 rfl ?_
  refine gz_iload_n (pc := 1) dX11_forgive_1 rfl ?_
  refine gz_V (zy := mX11_needGrudge) (zc := 0) (pc := 2) [.inl a1] rfl dX11_forgive_2 lkX11_171 MvX11_needGrudge rfl z_0_30 rfl rfl rfl (Or.inl rfl) (fun h => h) (by exact Nat.le_of_ble_eq_true rfl) ?_
  obtain ⟨v2, e1, h⟩ := gz_bd h
  cases x3 : v2.1 with
  | error E => replace h := gz_exe x3 h; cases h; exact gz_useTV x3 (c_X11_needGrudge e1) ⟨by simp [gzRI, gzRJ, gzRV], rfl⟩
  | ok w4 =>
    replace h := gz_exo x3 h
    refine gz_useOV x3 (c_X11_needGrudge e1) ?_
    refine gz_aload_n (pc := 5) dX11_forgive_5 rfl ?_
    refine gz_iload_n (pc := 6) dX11_forgive_6 rfl ?_
    refine gz_V (zy := mX11_needFrozen) (zc := 0) (pc := 7) [.inl a1] rfl dX11_forgive_7 lkX11_257 MvX11_needFrozen rfl z_0_30 rfl rfl rfl (Or.inl rfl) (fun h => h) (by exact Nat.le_of_ble_eq_true rfl) ?_
    obtain ⟨v6, e5, h⟩ := gz_bd h
    cases x7 : v6.1 with
    | error E => replace h := gz_exe x7 h; cases h; exact gz_useTV x7 (c_X11_needFrozen e5) ⟨by simp [gzRI, gzRJ, gzRV], rfl⟩
    | ok w8 =>
      replace h := gz_exo x7 h
      refine gz_useOV x7 (c_X11_needFrozen e5) ?_
      refine gz_aload_n (pc := 10) dX11_forgive_10 rfl ?_
      refine gr_X11_62 (pc := 11) dX11_forgive_11 z_0_30 rfl ?_
      refine gz_aload_n (pc := 14) dX11_forgive_14 rfl ?_
      refine gr_X11_42 (pc := 15) dX11_forgive_15 z_0_30 rfl ?_
      refine gz_V (zy := mX5_keep) (zc := 0) (pc := 18) [.inr (.inr (0, 0))] rfl dX11_forgive_18 lkX11_227 MvX5_keep rfl z_0_39 rfl rfl rfl (Or.inl rfl) (fun h => h) (by exact Nat.le_of_ble_eq_true rfl) ?_
      obtain ⟨v10, e9, h⟩ := gz_bd h
      refine gz_useV (c_X5_keep (by decide) e9) ?_
      refine gz_aload_n (pc := 21) dX11_forgive_21 rfl ?_
      refine gr_X11_42 (pc := 22) dX11_forgive_22 z_0_30 rfl ?_
      refine gr_X11_150 (pc := 25) dX11_forgive_25 z_0_0 rfl ?_
      refine gr_X11_193 (pc := 28) dX11_forgive_28 z_0_7 rfl ?_
      refine gz_iload_n (pc := 31) dX11_forgive_31 rfl ?_
      refine gz_iconst (pc := 32) dX11_forgive_32 (v := 1) (by decide) ?_
      obtain ⟨b11, h⟩ := gz_gd h
      refine gz_zast2 (pc := 33) dX11_forgive_33 (k := a1.toNatClampNeg) z_0_14 rfl b11 (by decide) rfl ?_
      refine gz_aload_n (pc := 34) dX11_forgive_34 rfl ?_
      refine gr_X11_42 (pc := 35) dX11_forgive_35 z_0_30 rfl ?_
      refine gr_X11_260 (pc := 38) dX11_forgive_38 z_0_0 rfl ?_
      refine gz_aload_n (pc := 41) dX11_forgive_41 rfl ?_
      refine gr_X11_42 (pc := 42) dX11_forgive_42 z_0_30 rfl ?_
      refine gi_X11_264 (pc := 45) dX11_forgive_45 (v := v10.2.1 0 0 7) z_0_0 (gz_ui_o (by decide)) rfl ?_
      refine gz_iload_n (pc := 48) dX11_forgive_48 rfl ?_
      refine gz_iconst (pc := 49) dX11_forgive_49 (v := 1) (by decide) ?_
      refine gz_iconst (pc := 50) dX11_forgive_50 (v := 0) (by decide) ?_
      refine gz_V (zy := mX4_put) (zc := 0) (pc := 51) [.inl (v10.2.1 0 0 7), .inl a1, .inl 1, .inl 0] rfl dX11_forgive_51 lkX11_267 MvX4_put rfl z_0_15 rfl rfl rfl (Or.inl rfl) (fun h => h) (by exact Nat.le_of_ble_eq_true rfl) ?_
      obtain ⟨v13, e12, h⟩ := gz_bd h
      refine gz_useV (c_X4_put (by decide) e12) ?_
      refine gz_aload_n (pc := 54) dX11_forgive_54 rfl ?_
      refine gr_X11_42 (pc := 55) dX11_forgive_55 z_0_30 rfl ?_
      refine gr_X11_150 (pc := 58) dX11_forgive_58 z_0_0 rfl ?_
      refine gr_X11_186 (pc := 61) dX11_forgive_61 z_0_7 rfl ?_
      refine gz_iload_n (pc := 64) dX11_forgive_64 rfl ?_
      refine gz_iald2 (pc := 65) dX11_forgive_65 (k := a1.toNatClampNeg) (v := v13.2.1 0 12 a1.toNatClampNeg) z_0_12 rfl b11 rfl rfl ?_
      cases h; exact gz_iret (pc := 66) dX11_forgive_66 rfl ⟨rfl, rfl⟩
/-! X11_nurse: nurse -/
def f_X11_nurse (φ : Nat) (a1 : Int32) (a2 : Int32) (I : gzIT) (J : gzJT) : Option ((Except String Int32) × gzIT × gzJT) := Option.bind (f_X11_needGrudge a1 I J) (fun v2 => gzEx v2.1 (fun E => some (.error E, v2.2.1, v2.2.2)) (fun w4 => Option.bind (f_X11_needFrozen a1 v2.2.1 v2.2.2) (fun v6 => gzEx v6.1 (fun E => some (.error E, v6.2.1, v6.2.2)) (fun w8 => Option.bind (f_X5_keep φ 0 v6.2.1 v6.2.2) (fun v10 => gzGd (a1) 10 (gzGz a2 (some (.ok (if v10.2.1 0 13 a1.toNatClampNeg = a2 then (0 : Int32) else 1), gz_ui v10.2.1 0 13 a1.toNatClampNeg a2, v10.2.2))))))))
set_option maxRecDepth 20000 in
theorem c_X11_nurse {g : gzG} {d φ : Nat} {a1 : Int32} {a2 : Int32} {I : gzIT} {J : gzJT} {r : (Except String Int32) × gzIT × gzJT} (h : f_X11_nurse φ a1 a2 I J = some r) : gzC g 0 (d + 4) mX11_nurse [.inr (.inr (0, 30)), .inl a1, .inl a2] (gzN, gzR0, I, J) (gzE (gzRI r.1) (gzN, gzR0, r.2.1, r.2.2)) := by
  unfold f_X11_nurse at h
  refine gzC_of (by decide +kernel) (Nat.le_of_ble_eq_true rfl) (loc := [some (.inr (.inr (0, 30))), some (.inl a1), some (.inl a2), none]) rfl ?_
  have z_0_30 : gzOk 0 30 gzN := gzOk_of (by decide)
  have z_0_39 : gzOk 0 39 gzN := gzOk_of (by decide)
  have z_0_0 : gzOk 0 0 gzN := gzOk_of (by decide)
  have z_0_7 : gzOk 0 7 gzN := gzOk_of (by decide)
  have z_0_13 : gzOk 0 13 gzN := gzOk_of (by decide)
  refine gz_aload_n (pc := 0) dX11_nurse_0 rfl ?_
  refine gz_iload_n (pc := 1) dX11_nurse_1 rfl ?_
  refine gz_V (zy := mX11_needGrudge) (zc := 0) (pc := 2) [.inl a1] rfl dX11_nurse_2 lkX11_171 MvX11_needGrudge rfl z_0_30 rfl rfl rfl (Or.inl rfl) (fun h => h) (by exact Nat.le_of_ble_eq_true rfl) ?_
  obtain ⟨v2, e1, h⟩ := gz_bd h
  cases x3 : v2.1 with
  | error E => replace h := gz_exe x3 h; cases h; exact gz_useTV x3 (c_X11_needGrudge e1) ⟨by simp [gzRI, gzRJ, gzRV], rfl⟩
  | ok w4 =>
    replace h := gz_exo x3 h
    refine gz_useOV x3 (c_X11_needGrudge e1) ?_
    refine gz_aload_n (pc := 5) dX11_nurse_5 rfl ?_
    refine gz_iload_n (pc := 6) dX11_nurse_6 rfl ?_
    refine gz_V (zy := mX11_needFrozen) (zc := 0) (pc := 7) [.inl a1] rfl dX11_nurse_7 lkX11_257 MvX11_needFrozen rfl z_0_30 rfl rfl rfl (Or.inl rfl) (fun h => h) (by exact Nat.le_of_ble_eq_true rfl) ?_
    obtain ⟨v6, e5, h⟩ := gz_bd h
    cases x7 : v6.1 with
    | error E => replace h := gz_exe x7 h; cases h; exact gz_useTV x7 (c_X11_needFrozen e5) ⟨by simp [gzRI, gzRJ, gzRV], rfl⟩
    | ok w8 =>
      replace h := gz_exo x7 h
      refine gz_useOV x7 (c_X11_needFrozen e5) ?_
      refine gz_aload_n (pc := 10) dX11_nurse_10 rfl ?_
      refine gr_X11_62 (pc := 11) dX11_nurse_11 z_0_30 rfl ?_
      refine gz_aload_n (pc := 14) dX11_nurse_14 rfl ?_
      refine gr_X11_42 (pc := 15) dX11_nurse_15 z_0_30 rfl ?_
      refine gz_V (zy := mX5_keep) (zc := 0) (pc := 18) [.inr (.inr (0, 0))] rfl dX11_nurse_18 lkX11_227 MvX5_keep rfl z_0_39 rfl rfl rfl (Or.inl rfl) (fun h => h) (by exact Nat.le_of_ble_eq_true rfl) ?_
      obtain ⟨v10, e9, h⟩ := gz_bd h
      refine gz_useV (c_X5_keep (by decide) e9) ?_
      refine gz_aload_n (pc := 21) dX11_nurse_21 rfl ?_
      refine gr_X11_42 (pc := 22) dX11_nurse_22 z_0_30 rfl ?_
      refine gr_X11_150 (pc := 25) dX11_nurse_25 z_0_0 rfl ?_
      refine gr_X11_189 (pc := 28) dX11_nurse_28 z_0_7 rfl ?_
      refine gz_iload_n (pc := 31) dX11_nurse_31 rfl ?_
      obtain ⟨b11, h⟩ := gz_gd h
      refine gz_zald2 (pc := 32) dX11_nurse_32 (k := a1.toNatClampNeg) (v := v10.2.1 0 13 a1.toNatClampNeg) z_0_13 rfl b11 rfl rfl ?_
      refine gz_iload_n (pc := 33) dX11_nurse_33 rfl ?_
      have kj12 : gzX g 0 (d + 4) mX11_nurse 42 [some (.inr (.inr (0, 30))), some (.inl a1), some (.inl a2), none] ([.inl (if v10.2.1 0 13 a1.toNatClampNeg = a2 then (0 : Int32) else 1)]) (gzN, gzR0, v10.2.1, v10.2.2) 0 (gzE (gzRI r.1) (gzN, gzR0, r.2.1, r.2.2)) := by
        refine gz_istore_n (pc := 42) dX11_nurse_42 (by decide) rfl (loc2 := [some (.inr (.inr (0, 30))), some (.inl a1), some (.inl a2), some (.inl (if v10.2.1 0 13 a1.toNatClampNeg = a2 then (0 : Int32) else 1))]) rfl ?_
        refine gz_aload_n (pc := 43) dX11_nurse_43 rfl ?_
        refine gr_X11_42 (pc := 44) dX11_nurse_44 z_0_30 rfl ?_
        refine gr_X11_150 (pc := 47) dX11_nurse_47 z_0_0 rfl ?_
        refine gr_X11_189 (pc := 50) dX11_nurse_50 z_0_7 rfl ?_
        refine gz_iload_n (pc := 53) dX11_nurse_53 rfl ?_
        refine gz_iload_n (pc := 54) dX11_nurse_54 rfl ?_
        obtain ⟨b13, h⟩ := gz_gz h
        refine gz_zast2 (pc := 55) dX11_nurse_55 (k := a1.toNatClampNeg) z_0_13 rfl b11 b13 rfl ?_
        refine gz_iload_n (pc := 56) dX11_nurse_56 rfl ?_
        cases h; exact gz_zret (pc := 57) dX11_nurse_57 rfl (by first | exact gz_ite01 | exact gz_ite10) ⟨rfl, rfl⟩
      refine gz_ic_eq (pc := 34) (tgt := 41) dX11_nurse_34 (by decide) (fun c => ?_) (fun c => ?_)
      · rw [if_pos c] at kj12
        refine gz_iconst (pc := 41) dX11_nurse_41 (v := 0) (by decide) ?_
        exact kj12
      · rw [if_neg c] at kj12
        refine gz_iconst (pc := 37) dX11_nurse_37 (v := 1) (by decide) ?_
        refine gz_goto (pc := 38) (tgt := 42) dX11_nurse_38 (by decide) ?_
        exact kj12
/-! X11_needIce: needIce -/
def f_X11_needIce (a1 : Int32) (a2 : Int32) (I : gzIT) (J : gzJT) : Option ((Except String Unit) × gzIT × gzJT) := Option.bind (f_X11_cell 0 12 10 I a1) (fun v2 => if a2 ≤ v2 then (some (.ok (), I, J)) else (some (.error "java/lang/IllegalStateException", I, J)))
set_option maxRecDepth 20000 in
theorem c_X11_needIce {g : gzG} {d : Nat} {a1 : Int32} {a2 : Int32} {I : gzIT} {J : gzJT} {r : (Except String Unit) × gzIT × gzJT} (h : f_X11_needIce a1 a2 I J = some r) : gzC g 0 (d + 1) mX11_needIce [.inr (.inr (0, 30)), .inl a1, .inl a2] (gzN, gzR0, I, J) (gzE (gzRV r.1) (gzN, gzR0, r.2.1, r.2.2)) := by
  unfold f_X11_needIce at h
  refine gzC_of (by decide +kernel) (Nat.le_of_ble_eq_true rfl) (loc := [some (.inr (.inr (0, 30))), some (.inl a1), some (.inl a2)]) rfl ?_
  have z_0_30 : gzOk 0 30 gzN := gzOk_of (by decide)
  have z_0_0 : gzOk 0 0 gzN := gzOk_of (by decide)
  have z_0_7 : gzOk 0 7 gzN := gzOk_of (by decide)
  have z_0_12 : gzOk 0 12 gzN := gzOk_of (by decide)
  refine gz_aload_n (pc := 0) dX11_needIce_0 rfl ?_
  refine gr_X11_42 (pc := 1) dX11_needIce_1 z_0_30 rfl ?_
  refine gr_X11_150 (pc := 4) dX11_needIce_4 z_0_0 rfl ?_
  refine gr_X11_186 (pc := 7) dX11_needIce_7 z_0_7 rfl ?_
  refine gz_iload_n (pc := 10) dX11_needIce_10 rfl ?_
  refine gz_S (zy := mX11_cell) (zc := 0) (pc := 11) [.inr (.inr (0, 12)), .inl a1] rfl dX11_needIce_11 lkX11_406 MsX11_cell rfl (Or.inl rfl) (fun h => h) (by exact Nat.le_of_ble_eq_true rfl) ?_
  obtain ⟨v2, e1, h⟩ := gz_bd h
  refine gz_useI (c_X11_cell (gzOk_of (by decide)) rfl e1) ?_
  refine gz_iload_n (pc := 14) dX11_needIce_14 rfl ?_
  refine gz_ic_ge (pc := 15) (tgt := 29) dX11_needIce_15 (by decide) (fun c => ?_) (fun c => ?_)
  · replace h := gz_ifp c h
    cases h; exact gz_vret (pc := 29) dX11_needIce_29 rfl ⟨rfl, rfl⟩
  · replace h := gz_ifn c h
    exact gz_thrW (pc := 18) th_X11_245_249 (i := 13) rfl dX11_needIce_18 dX11_needIce_21 dX11_needIce_22 dX11_needIce_25 dX11_needIce_28 (Nat.le_of_ble_eq_true rfl) (by cases h; exact ⟨rfl, rfl⟩)
/-! X11_saw: saw -/
def f_X11_saw (φ : Nat) (a1 : Int32) (a2 : Int32) (a3 : Int32) (I : gzIT) (J : gzJT) : Option ((Except String Int32) × gzIT × gzJT) := Option.bind (f_X11_needGrudge a1 I J) (fun v2 => gzEx v2.1 (fun E => some (.error E, v2.2.1, v2.2.2)) (fun w4 => Option.bind (f_X11_needFamily a2 v2.2.1 v2.2.2) (fun v6 => gzEx v6.1 (fun E => some (.error E, v6.2.1, v6.2.2)) (fun w8 => Option.bind (f_X11_needNumber a3 1 999 v6.2.1 v6.2.2) (fun v10 => gzEx v10.1 (fun E => some (.error E, v10.2.1, v10.2.2)) (fun w12 => Option.bind (f_X11_needFrozen a1 v10.2.1 v10.2.2) (fun v14 => gzEx v14.1 (fun E => some (.error E, v14.2.1, v14.2.2)) (fun w16 => Option.bind (f_X1_isOf 0 v14.2.1 a1 a2) (fun v18 => if v18 = 0 then (Option.bind (f_X11_needIce a1 a3 v14.2.1 v14.2.2) (fun v20 => gzEx v20.1 (fun E => some (.error E, v20.2.1, v20.2.2)) (fun w22 => Option.bind (f_X5_keep φ 0 v20.2.1 v20.2.2) (fun v24 => Option.bind (f_X8_lose 0 a1 2 a3 v24.2.1 v24.2.2) (fun v26 => Option.bind (f_X0_fill 0 a2 a3 v26.2.1 v26.2.2) (fun v28 => gzGd (a1) 10 (some (.ok (v28.2.1 0 12 a1.toNatClampNeg), v28.2.1, v28.2.2)))))))) else (some (.error "java/lang/IllegalStateException", v14.2.1, v14.2.2)))))))))))
set_option maxRecDepth 20000 in
theorem c_X11_saw {g : gzG} {d φ : Nat} {a1 : Int32} {a2 : Int32} {a3 : Int32} {I : gzIT} {J : gzJT} {r : (Except String Int32) × gzIT × gzJT} (h : f_X11_saw φ a1 a2 a3 I J = some r) : gzC g 0 (d + 4) mX11_saw [.inr (.inr (0, 30)), .inl a1, .inl a2, .inl a3] (gzN, gzR0, I, J) (gzE (gzRI r.1) (gzN, gzR0, r.2.1, r.2.2)) := by
  unfold f_X11_saw at h
  refine gzC_of (by decide +kernel) (Nat.le_of_ble_eq_true rfl) (loc := [some (.inr (.inr (0, 30))), some (.inl a1), some (.inl a2), some (.inl a3)]) rfl ?_
  have z_0_30 : gzOk 0 30 gzN := gzOk_of (by decide)
  have z_0_0 : gzOk 0 0 gzN := gzOk_of (by decide)
  have z_0_7 : gzOk 0 7 gzN := gzOk_of (by decide)
  have z_0_39 : gzOk 0 39 gzN := gzOk_of (by decide)
  have z_0_1 : gzOk 0 1 gzN := gzOk_of (by decide)
  have z_0_12 : gzOk 0 12 gzN := gzOk_of (by decide)
  refine gz_aload_n (pc := 0) dX11_saw_0 rfl ?_
  refine gz_iload_n (pc := 1) dX11_saw_1 rfl ?_
  refine gz_V (zy := mX11_needGrudge) (zc := 0) (pc := 2) [.inl a1] rfl dX11_saw_2 lkX11_171 MvX11_needGrudge rfl z_0_30 rfl rfl rfl (Or.inl rfl) (fun h => h) (by exact Nat.le_of_ble_eq_true rfl) ?_
  obtain ⟨v2, e1, h⟩ := gz_bd h
  cases x3 : v2.1 with
  | error E => replace h := gz_exe x3 h; cases h; exact gz_useTV x3 (c_X11_needGrudge e1) ⟨by simp [gzRI, gzRJ, gzRV], rfl⟩
  | ok w4 =>
    replace h := gz_exo x3 h
    refine gz_useOV x3 (c_X11_needGrudge e1) ?_
    refine gz_aload_n (pc := 5) dX11_saw_5 rfl ?_
    refine gz_iload_n (pc := 6) dX11_saw_6 rfl ?_
    refine gz_V (zy := mX11_needFamily) (zc := 0) (pc := 7) [.inl a2] rfl dX11_saw_7 lkX11_128 MvX11_needFamily rfl z_0_30 rfl rfl rfl (Or.inl rfl) (fun h => h) (by exact Nat.le_of_ble_eq_true rfl) ?_
    obtain ⟨v6, e5, h⟩ := gz_bd h
    cases x7 : v6.1 with
    | error E => replace h := gz_exe x7 h; cases h; exact gz_useTV x7 (c_X11_needFamily e5) ⟨by simp [gzRI, gzRJ, gzRV], rfl⟩
    | ok w8 =>
      replace h := gz_exo x7 h
      refine gz_useOV x7 (c_X11_needFamily e5) ?_
      refine gz_aload_n (pc := 10) dX11_saw_10 rfl ?_
      refine gz_iload_n (pc := 11) dX11_saw_11 rfl ?_
      refine gz_iconst (pc := 12) dX11_saw_12 (v := 1) (by decide) ?_
      refine gz_sipush (pc := 13) dX11_saw_13 (v := 999) (by decide) ?_
      refine gz_V (zy := mX11_needNumber) (zc := 0) (pc := 16) [.inl a3, .inl 1, .inl 999] rfl dX11_saw_16 lkX11_223 MvX11_needNumber rfl z_0_30 rfl rfl rfl (Or.inl rfl) (fun h => h) (by exact Nat.le_of_ble_eq_true rfl) ?_
      obtain ⟨v10, e9, h⟩ := gz_bd h
      cases x11 : v10.1 with
      | error E => replace h := gz_exe x11 h; cases h; exact gz_useTV x11 (c_X11_needNumber e9) ⟨by simp [gzRI, gzRJ, gzRV], rfl⟩
      | ok w12 =>
        replace h := gz_exo x11 h
        refine gz_useOV x11 (c_X11_needNumber e9) ?_
        refine gz_aload_n (pc := 19) dX11_saw_19 rfl ?_
        refine gz_iload_n (pc := 20) dX11_saw_20 rfl ?_
        refine gz_V (zy := mX11_needFrozen) (zc := 0) (pc := 21) [.inl a1] rfl dX11_saw_21 lkX11_257 MvX11_needFrozen rfl z_0_30 rfl rfl rfl (Or.inl rfl) (fun h => h) (by exact Nat.le_of_ble_eq_true rfl) ?_
        obtain ⟨v14, e13, h⟩ := gz_bd h
        cases x15 : v14.1 with
        | error E => replace h := gz_exe x15 h; cases h; exact gz_useTV x15 (c_X11_needFrozen e13) ⟨by simp [gzRI, gzRJ, gzRV], rfl⟩
        | ok w16 =>
          replace h := gz_exo x15 h
          refine gz_useOV x15 (c_X11_needFrozen e13) ?_
          refine gz_aload_n (pc := 24) dX11_saw_24 rfl ?_
          refine gr_X11_42 (pc := 25) dX11_saw_25 z_0_30 rfl ?_
          refine gr_X11_150 (pc := 28) dX11_saw_28 z_0_0 rfl ?_
          refine gz_iload_n (pc := 31) dX11_saw_31 rfl ?_
          refine gz_iload_n (pc := 32) dX11_saw_32 rfl ?_
          refine gz_V (zy := mX1_isOf) (zc := 0) (pc := 33) [.inl a1, .inl a2] rfl dX11_saw_33 lkX11_272 MvX1_isOf rfl z_0_7 rfl rfl rfl (Or.inl rfl) (fun h => h) (by exact Nat.le_of_ble_eq_true rfl) ?_
          obtain ⟨v18, e17, h⟩ := gz_bd h
          refine gz_useI (c_X1_isOf (by decide) e17) ?_
          refine gz_if_eq (pc := 36) (tgt := 50) dX11_saw_36 (by decide) (fun c => ?_) (fun c => ?_)
          · replace h := gz_ifp c h
            refine gz_aload_n (pc := 50) dX11_saw_50 rfl ?_
            refine gz_iload_n (pc := 51) dX11_saw_51 rfl ?_
            refine gz_iload_n (pc := 52) dX11_saw_52 rfl ?_
            refine gz_V (zy := mX11_needIce) (zc := 0) (pc := 53) [.inl a1, .inl a3] rfl dX11_saw_53 lkX11_278 MvX11_needIce rfl z_0_30 rfl rfl rfl (Or.inl rfl) (fun h => h) (by exact Nat.le_of_ble_eq_true rfl) ?_
            obtain ⟨v20, e19, h⟩ := gz_bd h
            cases x21 : v20.1 with
            | error E => replace h := gz_exe x21 h; cases h; exact gz_useTV x21 (c_X11_needIce e19) ⟨by simp [gzRI, gzRJ, gzRV], rfl⟩
            | ok w22 =>
              replace h := gz_exo x21 h
              refine gz_useOV x21 (c_X11_needIce e19) ?_
              refine gz_aload_n (pc := 56) dX11_saw_56 rfl ?_
              refine gr_X11_62 (pc := 57) dX11_saw_57 z_0_30 rfl ?_
              refine gz_aload_n (pc := 60) dX11_saw_60 rfl ?_
              refine gr_X11_42 (pc := 61) dX11_saw_61 z_0_30 rfl ?_
              refine gz_V (zy := mX5_keep) (zc := 0) (pc := 64) [.inr (.inr (0, 0))] rfl dX11_saw_64 lkX11_227 MvX5_keep rfl z_0_39 rfl rfl rfl (Or.inl rfl) (fun h => h) (by exact Nat.le_of_ble_eq_true rfl) ?_
              obtain ⟨v24, e23, h⟩ := gz_bd h
              refine gz_useV (c_X5_keep (by decide) e23) ?_
              refine gz_aload_n (pc := 67) dX11_saw_67 rfl ?_
              refine gr_X11_42 (pc := 68) dX11_saw_68 z_0_30 rfl ?_
              refine gz_iload_n (pc := 71) dX11_saw_71 rfl ?_
              refine gz_iconst (pc := 72) dX11_saw_72 (v := 2) (by decide) ?_
              refine gz_iload_n (pc := 73) dX11_saw_73 rfl ?_
              refine gz_V (zy := mX8_lose) (zc := 0) (pc := 74) [.inl a1, .inl 2, .inl a3] rfl dX11_saw_74 lkX11_281 MvX8_lose rfl z_0_0 rfl rfl rfl (Or.inl rfl) (fun h => h) (by exact Nat.le_of_ble_eq_true rfl) ?_
              obtain ⟨v26, e25, h⟩ := gz_bd h
              refine gz_useV (c_X8_lose (by decide) e25) ?_
              refine gz_aload_n (pc := 77) dX11_saw_77 rfl ?_
              refine gr_X11_42 (pc := 78) dX11_saw_78 z_0_30 rfl ?_
              refine gr_X11_131 (pc := 81) dX11_saw_81 z_0_0 rfl ?_
              refine gz_iload_n (pc := 84) dX11_saw_84 rfl ?_
              refine gz_iload_n (pc := 85) dX11_saw_85 rfl ?_
              refine gz_V (zy := mX0_fill) (zc := 0) (pc := 86) [.inl a2, .inl a3] rfl dX11_saw_86 lkX11_284 MvX0_fill rfl z_0_1 rfl rfl rfl (Or.inl rfl) (fun h => h) (by exact Nat.le_of_ble_eq_true rfl) ?_
              obtain ⟨v28, e27, h⟩ := gz_bd h
              refine gz_useV (c_X0_fill (by decide) e27) ?_
              refine gz_aload_n (pc := 89) dX11_saw_89 rfl ?_
              refine gr_X11_42 (pc := 90) dX11_saw_90 z_0_30 rfl ?_
              refine gr_X11_150 (pc := 93) dX11_saw_93 z_0_0 rfl ?_
              refine gr_X11_186 (pc := 96) dX11_saw_96 z_0_7 rfl ?_
              refine gz_iload_n (pc := 99) dX11_saw_99 rfl ?_
              obtain ⟨b29, h⟩ := gz_gd h
              refine gz_iald2 (pc := 100) dX11_saw_100 (k := a1.toNatClampNeg) (v := v28.2.1 0 12 a1.toNatClampNeg) z_0_12 rfl b29 rfl rfl ?_
              cases h; exact gz_iret (pc := 101) dX11_saw_101 rfl ⟨rfl, rfl⟩
          · replace h := gz_ifn c h
            exact gz_thrW (pc := 39) th_X11_245_249 (i := 12) rfl dX11_saw_39 dX11_saw_42 dX11_saw_43 dX11_saw_46 dX11_saw_49 (Nat.le_of_ble_eq_true rfl) (by cases h; exact ⟨rfl, rfl⟩)
/-! X11_store: store -/
def f_X11_store (φ : Nat) (a1 : Int32) (a2 : Int32) (I : gzIT) (J : gzJT) : Option ((Except String Int32) × gzIT × gzJT) := Option.bind (f_X11_needGrudge a1 I J) (fun v2 => gzEx v2.1 (fun E => some (.error E, v2.2.1, v2.2.2)) (fun w4 => Option.bind (f_X11_needNumber a2 1 999 v2.2.1 v2.2.2) (fun v6 => gzEx v6.1 (fun E => some (.error E, v6.2.1, v6.2.2)) (fun w8 => Option.bind (f_X11_needFrozen a1 v6.2.1 v6.2.2) (fun v10 => gzEx v10.1 (fun E => some (.error E, v10.2.1, v10.2.2)) (fun w12 => Option.bind (f_X11_needIce a1 a2 v10.2.1 v10.2.2) (fun v14 => gzEx v14.1 (fun E => some (.error E, v14.2.1, v14.2.2)) (fun w16 => Option.bind (f_X5_keep φ 0 v14.2.1 v14.2.2) (fun v18 => Option.bind (f_X8_lose 0 a1 3 a2 v18.2.1 v18.2.2) (fun v20 => some (.ok (if (v20.2.1 0 0 8) + a2 < 9999 then (v20.2.1 0 0 8) + a2 else 9999), gz_ui v20.2.1 0 0 8 (if (v20.2.1 0 0 8) + a2 < 9999 then (v20.2.1 0 0 8) + a2 else 9999), v20.2.2)))))))))))
set_option maxRecDepth 20000 in
theorem c_X11_store {g : gzG} {d φ : Nat} {a1 : Int32} {a2 : Int32} {I : gzIT} {J : gzJT} {r : (Except String Int32) × gzIT × gzJT} (h : f_X11_store φ a1 a2 I J = some r) : gzC g 0 (d + 4) mX11_store [.inr (.inr (0, 30)), .inl a1, .inl a2] (gzN, gzR0, I, J) (gzE (gzRI r.1) (gzN, gzR0, r.2.1, r.2.2)) := by
  unfold f_X11_store at h
  refine gzC_of (by decide +kernel) (Nat.le_of_ble_eq_true rfl) (loc := [some (.inr (.inr (0, 30))), some (.inl a1), some (.inl a2)]) rfl ?_
  have z_0_30 : gzOk 0 30 gzN := gzOk_of (by decide)
  have z_0_39 : gzOk 0 39 gzN := gzOk_of (by decide)
  have z_0_0 : gzOk 0 0 gzN := gzOk_of (by decide)
  refine gz_aload_n (pc := 0) dX11_store_0 rfl ?_
  refine gz_iload_n (pc := 1) dX11_store_1 rfl ?_
  refine gz_V (zy := mX11_needGrudge) (zc := 0) (pc := 2) [.inl a1] rfl dX11_store_2 lkX11_171 MvX11_needGrudge rfl z_0_30 rfl rfl rfl (Or.inl rfl) (fun h => h) (by exact Nat.le_of_ble_eq_true rfl) ?_
  obtain ⟨v2, e1, h⟩ := gz_bd h
  cases x3 : v2.1 with
  | error E => replace h := gz_exe x3 h; cases h; exact gz_useTV x3 (c_X11_needGrudge e1) ⟨by simp [gzRI, gzRJ, gzRV], rfl⟩
  | ok w4 =>
    replace h := gz_exo x3 h
    refine gz_useOV x3 (c_X11_needGrudge e1) ?_
    refine gz_aload_n (pc := 5) dX11_store_5 rfl ?_
    refine gz_iload_n (pc := 6) dX11_store_6 rfl ?_
    refine gz_iconst (pc := 7) dX11_store_7 (v := 1) (by decide) ?_
    refine gz_sipush (pc := 8) dX11_store_8 (v := 999) (by decide) ?_
    refine gz_V (zy := mX11_needNumber) (zc := 0) (pc := 11) [.inl a2, .inl 1, .inl 999] rfl dX11_store_11 lkX11_223 MvX11_needNumber rfl z_0_30 rfl rfl rfl (Or.inl rfl) (fun h => h) (by exact Nat.le_of_ble_eq_true rfl) ?_
    obtain ⟨v6, e5, h⟩ := gz_bd h
    cases x7 : v6.1 with
    | error E => replace h := gz_exe x7 h; cases h; exact gz_useTV x7 (c_X11_needNumber e5) ⟨by simp [gzRI, gzRJ, gzRV], rfl⟩
    | ok w8 =>
      replace h := gz_exo x7 h
      refine gz_useOV x7 (c_X11_needNumber e5) ?_
      refine gz_aload_n (pc := 14) dX11_store_14 rfl ?_
      refine gz_iload_n (pc := 15) dX11_store_15 rfl ?_
      refine gz_V (zy := mX11_needFrozen) (zc := 0) (pc := 16) [.inl a1] rfl dX11_store_16 lkX11_257 MvX11_needFrozen rfl z_0_30 rfl rfl rfl (Or.inl rfl) (fun h => h) (by exact Nat.le_of_ble_eq_true rfl) ?_
      obtain ⟨v10, e9, h⟩ := gz_bd h
      cases x11 : v10.1 with
      | error E => replace h := gz_exe x11 h; cases h; exact gz_useTV x11 (c_X11_needFrozen e9) ⟨by simp [gzRI, gzRJ, gzRV], rfl⟩
      | ok w12 =>
        replace h := gz_exo x11 h
        refine gz_useOV x11 (c_X11_needFrozen e9) ?_
        refine gz_aload_n (pc := 19) dX11_store_19 rfl ?_
        refine gz_iload_n (pc := 20) dX11_store_20 rfl ?_
        refine gz_iload_n (pc := 21) dX11_store_21 rfl ?_
        refine gz_V (zy := mX11_needIce) (zc := 0) (pc := 22) [.inl a1, .inl a2] rfl dX11_store_22 lkX11_278 MvX11_needIce rfl z_0_30 rfl rfl rfl (Or.inl rfl) (fun h => h) (by exact Nat.le_of_ble_eq_true rfl) ?_
        obtain ⟨v14, e13, h⟩ := gz_bd h
        cases x15 : v14.1 with
        | error E => replace h := gz_exe x15 h; cases h; exact gz_useTV x15 (c_X11_needIce e13) ⟨by simp [gzRI, gzRJ, gzRV], rfl⟩
        | ok w16 =>
          replace h := gz_exo x15 h
          refine gz_useOV x15 (c_X11_needIce e13) ?_
          refine gz_aload_n (pc := 25) dX11_store_25 rfl ?_
          refine gr_X11_62 (pc := 26) dX11_store_26 z_0_30 rfl ?_
          refine gz_aload_n (pc := 29) dX11_store_29 rfl ?_
          refine gr_X11_42 (pc := 30) dX11_store_30 z_0_30 rfl ?_
          refine gz_V (zy := mX5_keep) (zc := 0) (pc := 33) [.inr (.inr (0, 0))] rfl dX11_store_33 lkX11_227 MvX5_keep rfl z_0_39 rfl rfl rfl (Or.inl rfl) (fun h => h) (by exact Nat.le_of_ble_eq_true rfl) ?_
          obtain ⟨v18, e17, h⟩ := gz_bd h
          refine gz_useV (c_X5_keep (by decide) e17) ?_
          refine gz_aload_n (pc := 36) dX11_store_36 rfl ?_
          refine gr_X11_42 (pc := 37) dX11_store_37 z_0_30 rfl ?_
          refine gz_iload_n (pc := 40) dX11_store_40 rfl ?_
          refine gz_iconst (pc := 41) dX11_store_41 (v := 3) (by decide) ?_
          refine gz_iload_n (pc := 42) dX11_store_42 rfl ?_
          refine gz_V (zy := mX8_lose) (zc := 0) (pc := 43) [.inl a1, .inl 3, .inl a2] rfl dX11_store_43 lkX11_281 MvX8_lose rfl z_0_0 rfl rfl rfl (Or.inl rfl) (fun h => h) (by exact Nat.le_of_ble_eq_true rfl) ?_
          obtain ⟨v20, e19, h⟩ := gz_bd h
          refine gz_useV (c_X8_lose (by decide) e19) ?_
          refine gz_aload_n (pc := 46) dX11_store_46 rfl ?_
          refine gr_X11_42 (pc := 47) dX11_store_47 z_0_30 rfl ?_
          refine gz_sipush (pc := 50) dX11_store_50 (v := 9999) (by decide) ?_
          refine gz_aload_n (pc := 53) dX11_store_53 rfl ?_
          refine gr_X11_42 (pc := 54) dX11_store_54 z_0_30 rfl ?_
          refine gi_X11_287 (pc := 57) dX11_store_57 (v := v20.2.1 0 0 8) z_0_0 rfl rfl ?_
          refine gz_iload_n (pc := 60) dX11_store_60 rfl ?_
          refine gz_iadd (pc := 61) dX11_store_61  ?_
          refine gn_X11_290 (pc := 62) dX11_store_62 (Nat.le_of_ble_eq_true rfl) rfl ?_
          refine gp_X11_287 (pc := 65) dX11_store_65 z_0_0 rfl ?_
          refine gz_aload_n (pc := 68) dX11_store_68 rfl ?_
          refine gr_X11_42 (pc := 69) dX11_store_69 z_0_30 rfl ?_
          refine gi_X11_287 (pc := 72) dX11_store_72 (v := (if (v20.2.1 0 0 8) + a2 < 9999 then (v20.2.1 0 0 8) + a2 else 9999)) z_0_0 (gz_ui_s) rfl ?_
          cases h; exact gz_iret (pc := 75) dX11_store_75 rfl ⟨rfl, rfl⟩
/-! X11_deliver: deliver -/
def f_X11_deliver (φ : Nat) (a1 : Int32) (a2 : Int32) (I : gzIT) (J : gzJT) : Option ((Except String Int32) × gzIT × gzJT) := Option.bind (f_X11_needFamily a1 I J) (fun v2 => gzEx v2.1 (fun E => some (.error E, v2.2.1, v2.2.2)) (fun w4 => Option.bind (f_X11_needNumber a2 1 999 v2.2.1 v2.2.2) (fun v6 => gzEx v6.1 (fun E => some (.error E, v6.2.1, v6.2.2)) (fun w8 => if a2 ≤ v6.2.1 0 0 8 then (Option.bind (f_X5_keep φ 0 v6.2.1 v6.2.2) (fun v10 => Option.bind (f_X0_fill 0 a1 a2 (gz_ui v10.2.1 0 0 8 ((v10.2.1 0 0 8) - a2)) v10.2.2) (fun v12 => gzGd (a1) 6 (some (.ok (v12.2.1 0 4 a1.toNatClampNeg), v12.2.1, v12.2.2))))) else (some (.error "java/lang/IllegalStateException", v6.2.1, v6.2.2))))))
set_option maxRecDepth 20000 in
theorem c_X11_deliver {g : gzG} {d φ : Nat} {a1 : Int32} {a2 : Int32} {I : gzIT} {J : gzJT} {r : (Except String Int32) × gzIT × gzJT} (h : f_X11_deliver φ a1 a2 I J = some r) : gzC g 0 (d + 4) mX11_deliver [.inr (.inr (0, 30)), .inl a1, .inl a2] (gzN, gzR0, I, J) (gzE (gzRI r.1) (gzN, gzR0, r.2.1, r.2.2)) := by
  unfold f_X11_deliver at h
  refine gzC_of (by decide +kernel) (Nat.le_of_ble_eq_true rfl) (loc := [some (.inr (.inr (0, 30))), some (.inl a1), some (.inl a2)]) rfl ?_
  have z_0_30 : gzOk 0 30 gzN := gzOk_of (by decide)
  have z_0_0 : gzOk 0 0 gzN := gzOk_of (by decide)
  have z_0_39 : gzOk 0 39 gzN := gzOk_of (by decide)
  have z_0_1 : gzOk 0 1 gzN := gzOk_of (by decide)
  have z_0_4 : gzOk 0 4 gzN := gzOk_of (by decide)
  refine gz_aload_n (pc := 0) dX11_deliver_0 rfl ?_
  refine gz_iload_n (pc := 1) dX11_deliver_1 rfl ?_
  refine gz_V (zy := mX11_needFamily) (zc := 0) (pc := 2) [.inl a1] rfl dX11_deliver_2 lkX11_128 MvX11_needFamily rfl z_0_30 rfl rfl rfl (Or.inl rfl) (fun h => h) (by exact Nat.le_of_ble_eq_true rfl) ?_
  obtain ⟨v2, e1, h⟩ := gz_bd h
  cases x3 : v2.1 with
  | error E => replace h := gz_exe x3 h; cases h; exact gz_useTV x3 (c_X11_needFamily e1) ⟨by simp [gzRI, gzRJ, gzRV], rfl⟩
  | ok w4 =>
    replace h := gz_exo x3 h
    refine gz_useOV x3 (c_X11_needFamily e1) ?_
    refine gz_aload_n (pc := 5) dX11_deliver_5 rfl ?_
    refine gz_iload_n (pc := 6) dX11_deliver_6 rfl ?_
    refine gz_iconst (pc := 7) dX11_deliver_7 (v := 1) (by decide) ?_
    refine gz_sipush (pc := 8) dX11_deliver_8 (v := 999) (by decide) ?_
    refine gz_V (zy := mX11_needNumber) (zc := 0) (pc := 11) [.inl a2, .inl 1, .inl 999] rfl dX11_deliver_11 lkX11_223 MvX11_needNumber rfl z_0_30 rfl rfl rfl (Or.inl rfl) (fun h => h) (by exact Nat.le_of_ble_eq_true rfl) ?_
    obtain ⟨v6, e5, h⟩ := gz_bd h
    cases x7 : v6.1 with
    | error E => replace h := gz_exe x7 h; cases h; exact gz_useTV x7 (c_X11_needNumber e5) ⟨by simp [gzRI, gzRJ, gzRV], rfl⟩
    | ok w8 =>
      replace h := gz_exo x7 h
      refine gz_useOV x7 (c_X11_needNumber e5) ?_
      refine gz_aload_n (pc := 14) dX11_deliver_14 rfl ?_
      refine gr_X11_42 (pc := 15) dX11_deliver_15 z_0_30 rfl ?_
      refine gi_X11_287 (pc := 18) dX11_deliver_18 (v := v6.2.1 0 0 8) z_0_0 rfl rfl ?_
      refine gz_iload_n (pc := 21) dX11_deliver_21 rfl ?_
      refine gz_ic_ge (pc := 22) (tgt := 36) dX11_deliver_22 (by decide) (fun c => ?_) (fun c => ?_)
      · replace h := gz_ifp c h
        refine gz_aload_n (pc := 36) dX11_deliver_36 rfl ?_
        refine gr_X11_62 (pc := 37) dX11_deliver_37 z_0_30 rfl ?_
        refine gz_aload_n (pc := 40) dX11_deliver_40 rfl ?_
        refine gr_X11_42 (pc := 41) dX11_deliver_41 z_0_30 rfl ?_
        refine gz_V (zy := mX5_keep) (zc := 0) (pc := 44) [.inr (.inr (0, 0))] rfl dX11_deliver_44 lkX11_227 MvX5_keep rfl z_0_39 rfl rfl rfl (Or.inl rfl) (fun h => h) (by exact Nat.le_of_ble_eq_true rfl) ?_
        obtain ⟨v10, e9, h⟩ := gz_bd h
        refine gz_useV (c_X5_keep (by decide) e9) ?_
        refine gz_aload_n (pc := 47) dX11_deliver_47 rfl ?_
        refine gr_X11_42 (pc := 48) dX11_deliver_48 z_0_30 rfl ?_
        refine gz_dupR (pc := 51) dX11_deliver_51  ?_
        refine gi_X11_287 (pc := 52) dX11_deliver_52 (v := v10.2.1 0 0 8) z_0_0 rfl rfl ?_
        refine gz_iload_n (pc := 55) dX11_deliver_55 rfl ?_
        refine gz_isub (pc := 56) dX11_deliver_56  ?_
        refine gp_X11_287 (pc := 57) dX11_deliver_57 z_0_0 rfl ?_
        refine gz_aload_n (pc := 60) dX11_deliver_60 rfl ?_
        refine gr_X11_42 (pc := 61) dX11_deliver_61 z_0_30 rfl ?_
        refine gr_X11_131 (pc := 64) dX11_deliver_64 z_0_0 rfl ?_
        refine gz_iload_n (pc := 67) dX11_deliver_67 rfl ?_
        refine gz_iload_n (pc := 68) dX11_deliver_68 rfl ?_
        refine gz_V (zy := mX0_fill) (zc := 0) (pc := 69) [.inl a1, .inl a2] rfl dX11_deliver_69 lkX11_284 MvX0_fill rfl z_0_1 rfl rfl rfl (Or.inl rfl) (fun h => h) (by exact Nat.le_of_ble_eq_true rfl) ?_
        obtain ⟨v12, e11, h⟩ := gz_bd h
        refine gz_useV (c_X0_fill (by decide) e11) ?_
        refine gz_aload_n (pc := 72) dX11_deliver_72 rfl ?_
        refine gr_X11_42 (pc := 73) dX11_deliver_73 z_0_30 rfl ?_
        refine gr_X11_131 (pc := 76) dX11_deliver_76 z_0_0 rfl ?_
        refine gr_X11_144 (pc := 79) dX11_deliver_79 z_0_1 rfl ?_
        refine gz_iload_n (pc := 82) dX11_deliver_82 rfl ?_
        obtain ⟨b13, h⟩ := gz_gd h
        refine gz_iald2 (pc := 83) dX11_deliver_83 (k := a1.toNatClampNeg) (v := v12.2.1 0 4 a1.toNatClampNeg) z_0_4 rfl b13 rfl rfl ?_
        cases h; exact gz_iret (pc := 84) dX11_deliver_84 rfl ⟨rfl, rfl⟩
      · replace h := gz_ifn c h
        exact gz_thrW (pc := 25) th_X11_245_249 (i := 14) rfl dX11_deliver_25 dX11_deliver_28 dX11_deliver_29 dX11_deliver_32 dX11_deliver_35 (Nat.le_of_ble_eq_true rfl) (by cases h; exact ⟨rfl, rfl⟩)
/-! X11_prop: prop -/
def f_X11_prop (φ : Nat) (a1 : Int32) (I : gzIT) (J : gzJT) : Option (Int32 × gzIT × gzJT) := Option.bind (f_X5_keep φ 0 I J) (fun v2 => gzGz a1 (some ((if v2.2.1 0 0 9 = a1 then (0 : Int32) else 1), gz_ui v2.2.1 0 0 9 a1, v2.2.2)))
set_option maxRecDepth 20000 in
theorem c_X11_prop {g : gzG} {d φ : Nat} {a1 : Int32} {I : gzIT} {J : gzJT} {r : Int32 × gzIT × gzJT} (h : f_X11_prop φ a1 I J = some r) : gzC g 0 (d + 4) mX11_prop [.inr (.inr (0, 30)), .inl a1] (gzN, gzR0, I, J) (gzE (.ok (some (.inl r.1))) (gzN, gzR0, r.2.1, r.2.2)) := by
  unfold f_X11_prop at h
  refine gzC_of (by decide +kernel) (Nat.le_of_ble_eq_true rfl) (loc := [some (.inr (.inr (0, 30))), some (.inl a1), none]) rfl ?_
  have z_0_30 : gzOk 0 30 gzN := gzOk_of (by decide)
  have z_0_39 : gzOk 0 39 gzN := gzOk_of (by decide)
  have z_0_0 : gzOk 0 0 gzN := gzOk_of (by decide)
  refine gz_aload_n (pc := 0) dX11_prop_0 rfl ?_
  refine gr_X11_62 (pc := 1) dX11_prop_1 z_0_30 rfl ?_
  refine gz_aload_n (pc := 4) dX11_prop_4 rfl ?_
  refine gr_X11_42 (pc := 5) dX11_prop_5 z_0_30 rfl ?_
  refine gz_V (zy := mX5_keep) (zc := 0) (pc := 8) [.inr (.inr (0, 0))] rfl dX11_prop_8 lkX11_227 MvX5_keep rfl z_0_39 rfl rfl rfl (Or.inl rfl) (fun h => h) (by exact Nat.le_of_ble_eq_true rfl) ?_
  obtain ⟨v2, e1, h⟩ := gz_bd h
  refine gz_useV (c_X5_keep (by decide) e1) ?_
  refine gz_aload_n (pc := 11) dX11_prop_11 rfl ?_
  refine gr_X11_42 (pc := 12) dX11_prop_12 z_0_30 rfl ?_
  refine gi_X11_297 (pc := 15) dX11_prop_15 (v := v2.2.1 0 0 9) z_0_0 rfl rfl ?_
  refine gz_iload_n (pc := 18) dX11_prop_18 rfl ?_
  have kj3 : gzX g 0 (d + 4) mX11_prop 27 [some (.inr (.inr (0, 30))), some (.inl a1), none] ([.inl (if v2.2.1 0 0 9 = a1 then (0 : Int32) else 1)]) (gzN, gzR0, v2.2.1, v2.2.2) 0 (gzE (.ok (some (.inl r.1))) (gzN, gzR0, r.2.1, r.2.2)) := by
    refine gz_istore_n (pc := 27) dX11_prop_27 (by decide) rfl (loc2 := [some (.inr (.inr (0, 30))), some (.inl a1), some (.inl (if v2.2.1 0 0 9 = a1 then (0 : Int32) else 1))]) rfl ?_
    refine gz_aload_n (pc := 28) dX11_prop_28 rfl ?_
    refine gr_X11_42 (pc := 29) dX11_prop_29 z_0_30 rfl ?_
    refine gz_iload_n (pc := 32) dX11_prop_32 rfl ?_
    obtain ⟨b4, h⟩ := gz_gz h
    refine gp_X11_297 (pc := 33) dX11_prop_33 z_0_0 b4 rfl ?_
    refine gz_iload_n (pc := 36) dX11_prop_36 rfl ?_
    cases h; exact gz_zret (pc := 37) dX11_prop_37 rfl (by first | exact gz_ite01 | exact gz_ite10) ⟨rfl, rfl⟩
  refine gz_ic_eq (pc := 19) (tgt := 26) dX11_prop_19 (by decide) (fun c => ?_) (fun c => ?_)
  · rw [if_pos c] at kj3
    refine gz_iconst (pc := 26) dX11_prop_26 (v := 0) (by decide) ?_
    exact kj3
  · rw [if_neg c] at kj3
    refine gz_iconst (pc := 22) dX11_prop_22 (v := 1) (by decide) ?_
    refine gz_goto (pc := 23) (tgt := 27) dX11_prop_23 (by decide) ?_
    exact kj3
/-! X11_cold: cold -/
def f_X11_cold (φ : Nat) (I : gzIT) : Option Int32 := Option.bind (f_X1_allIce φ 0 I) (fun v2 => some (v2 + (I 0 0 8)))
set_option maxRecDepth 20000 in
theorem c_X11_cold {g : gzG} {d φ : Nat} {I : gzIT} {J : gzJT} {r : Int32} (h : f_X11_cold φ I = some r) : gzC g 0 (d + 1) mX11_cold [.inr (.inr (0, 30))] (gzN, gzR0, I, J) (gzE (.ok (some (.inl r))) (gzN, gzR0, I, J)) := by
  unfold f_X11_cold at h
  refine gzC_of (by decide +kernel) (Nat.le_of_ble_eq_true rfl) (loc := [some (.inr (.inr (0, 30)))]) rfl ?_
  have z_0_30 : gzOk 0 30 gzN := gzOk_of (by decide)
  have z_0_0 : gzOk 0 0 gzN := gzOk_of (by decide)
  have z_0_7 : gzOk 0 7 gzN := gzOk_of (by decide)
  refine gz_aload_n (pc := 0) dX11_cold_0 rfl ?_
  refine gr_X11_42 (pc := 1) dX11_cold_1 z_0_30 rfl ?_
  refine gr_X11_150 (pc := 4) dX11_cold_4 z_0_0 rfl ?_
  refine gz_V (zy := mX1_allIce) (zc := 0) (pc := 7) [] rfl dX11_cold_7 lkX11_300 MvX1_allIce rfl z_0_7 rfl rfl rfl (Or.inl rfl) (fun h => h) (by exact Nat.le_of_ble_eq_true rfl) ?_
  obtain ⟨v2, e1, h⟩ := gz_bd h
  refine gz_useI (c_X1_allIce (by decide) e1) ?_
  refine gz_aload_n (pc := 10) dX11_cold_10 rfl ?_
  refine gr_X11_42 (pc := 11) dX11_cold_11 z_0_30 rfl ?_
  refine gi_X11_287 (pc := 14) dX11_cold_14 (v := I 0 0 8) z_0_0 rfl rfl ?_
  refine gz_iadd (pc := 17) dX11_cold_17  ?_
  cases h; exact gz_iret (pc := 18) dX11_cold_18 rfl ⟨rfl, rfl⟩
/-! X11_stock: stock -/
def gP_X11_stock_13 (g : gzG) (d : Nat) (r : Int32 × gzIT × gzJT) (x1 : Int32) (I : gzIT) (J : gzJT) : Prop := gzX g 0 (d + 3) mX11_stock 13 [some (.inr (.inr (0, 30))), some (.inl x1)] [] (gzN, gzR0, I, J) 0 (gzE (.ok (some (.inl r.1))) (gzN, gzR0, r.2.1, r.2.2))
def f_X11_stock_13 (φ : Nat) : Nat → Int32 → gzIT → gzJT → Option (Int32 × gzIT × gzJT)
  | 0, _, _, _ => none
  | k + 1, x1, I, J => if 60 < x1 then (some ((-1), I, J)) else (if ¬ I 1 0 8 = 0 then (Option.bind (f_X8_leak 1 I J) (fun v4 => Option.bind (f_X8_tick 1 v4.2.1 v4.2.2) (fun v6 => f_X11_stock_13 φ k (x1 + 1) v6.2.1 v6.2.2))) else (some (x1, I, J)))
set_option maxRecDepth 20000 in
theorem p_X11_stock_13 {g : gzG} {d φ : Nat} {r : Int32 × gzIT × gzJT} : ∀ (k : Nat) (x1 : Int32) (I : gzIT) (J : gzJT), f_X11_stock_13 φ k x1 I J = some r → gP_X11_stock_13 g d r x1 I J := by
  intro k; induction k with
  | zero => intro x1 I J h; cases h
  | succ k ih =>
    intro x1 I J h
    unfold f_X11_stock_13 at h
    unfold gP_X11_stock_13
    have z_0_30 : gzOk 0 30 gzN := gzOk_of (by decide)
    have z_1_0 : gzOk 1 0 gzN := gzOk_of (by decide)
    refine gz_iload_n (pc := 13) dX11_stock_13 rfl ?_
    refine gz_bipush (pc := 14) dX11_stock_14 (v := 60) (by decide) ?_
    refine gz_ic_gt (pc := 16) (tgt := 51) dX11_stock_16 (by decide) (fun c => ?_) (fun c => ?_)
    · replace h := gz_ifp c h
      refine gz_iconst (pc := 51) dX11_stock_51 (v := (-1)) (by decide) ?_
      cases h; exact gz_iret (pc := 52) dX11_stock_52 rfl ⟨rfl, rfl⟩
    · replace h := gz_ifn c h
      refine gz_aload_n (pc := 19) dX11_stock_19 rfl ?_
      refine gr_X11_46 (pc := 20) dX11_stock_20 z_0_30 rfl ?_
      refine gi_X11_287 (pc := 23) dX11_stock_23 (v := I 1 0 8) z_1_0 rfl rfl ?_
      refine gz_if_ne (pc := 26) (tgt := 31) dX11_stock_26 (by decide) (fun c => ?_) (fun c => ?_)
      · replace h := gz_ifp c h
        refine gz_aload_n (pc := 31) dX11_stock_31 rfl ?_
        refine gr_X11_46 (pc := 32) dX11_stock_32 z_0_30 rfl ?_
        refine gz_V (zy := mX8_leak) (zc := 0) (pc := 35) [] rfl dX11_stock_35 lkX11_304 MvX8_leak rfl z_1_0 rfl rfl rfl (Or.inl rfl) (fun h => h) (by exact Nat.le_of_ble_eq_true rfl) ?_
        obtain ⟨v4, e3, h⟩ := gz_bd h
        refine gz_useV (c_X8_leak (by decide) e3) ?_
        refine gz_aload_n (pc := 38) dX11_stock_38 rfl ?_
        refine gr_X11_46 (pc := 39) dX11_stock_39 z_0_30 rfl ?_
        refine gz_V (zy := mX8_tick) (zc := 0) (pc := 42) [] rfl dX11_stock_42 lkX11_307 MvX8_tick rfl z_1_0 rfl rfl rfl (Or.inl rfl) (fun h => h) (by exact Nat.le_of_ble_eq_true rfl) ?_
        obtain ⟨v6, e5, h⟩ := gz_bd h
        refine gz_useV (c_X8_tick (by decide) e5) ?_
        refine gz_iinc (pc := 45) dX11_stock_45 (x := x1) (v := x1 + 1) rfl (by rw [show Int32.ofInt 1 = 1 by decide]) (by decide) rfl (loc2 := [some (.inr (.inr (0, 30))), some (.inl (x1 + 1))]) rfl ?_
        refine gz_goto (pc := 48) (tgt := 13) dX11_stock_48 (by decide) ?_
        exact ih (x1 + 1) v6.2.1 v6.2.2 h
      · replace h := gz_ifn (fun q => q c) h
        refine gz_iload_n (pc := 29) dX11_stock_29 rfl ?_
        cases h; exact gz_iret (pc := 30) dX11_stock_30 rfl ⟨rfl, rfl⟩
def f_X11_stock (φ : Nat) (I : gzIT) (J : gzJT) : Option (Int32 × gzIT × gzJT) := Option.bind (f_X8_copyFrom φ 1 0 I J) (fun v2 => f_X11_stock_13 φ φ 0 v2.2.1 v2.2.2)
set_option maxRecDepth 20000 in
theorem c_X11_stock {g : gzG} {d φ : Nat} {I : gzIT} {J : gzJT} {r : Int32 × gzIT × gzJT} (h : f_X11_stock φ I J = some r) : gzC g 0 (d + 3) mX11_stock [.inr (.inr (0, 30))] (gzN, gzR0, I, J) (gzE (.ok (some (.inl r.1))) (gzN, gzR0, r.2.1, r.2.2)) := by
  unfold f_X11_stock at h
  refine gzC_of (by decide +kernel) (Nat.le_of_ble_eq_true rfl) (loc := [some (.inr (.inr (0, 30))), none]) rfl ?_
  have z_0_30 : gzOk 0 30 gzN := gzOk_of (by decide)
  have z_1_0 : gzOk 1 0 gzN := gzOk_of (by decide)
  refine gz_aload_n (pc := 0) dX11_stock_0 rfl ?_
  refine gr_X11_46 (pc := 1) dX11_stock_1 z_0_30 rfl ?_
  refine gz_aload_n (pc := 4) dX11_stock_4 rfl ?_
  refine gr_X11_42 (pc := 5) dX11_stock_5 z_0_30 rfl ?_
  refine gz_V (zy := mX8_copyFrom) (zc := 0) (pc := 8) [.inr (.inr (0, 0))] rfl dX11_stock_8 lkX11_95 MvX8_copyFrom rfl z_1_0 rfl rfl rfl (Or.inl rfl) (fun h => h) (by exact Nat.le_of_ble_eq_true rfl) ?_
  obtain ⟨v2, e1, h⟩ := gz_bd h
  refine gz_useV (c_X8_copyFrom (by decide) (by decide) e1) ?_
  refine gz_iconst (pc := 11) dX11_stock_11 (v := 0) (by decide) ?_
  refine gz_istore_n (pc := 12) dX11_stock_12 (by decide) rfl (loc2 := [some (.inr (.inr (0, 30))), some (.inl 0)]) rfl ?_
  exact p_X11_stock_13 φ 0 v2.2.1 v2.2.2 h
/-! X11_scarce: scarce -/
def gP_X11_scarce_7 (g : gzG) (d : Nat) (r : Int32) (x1 : Int32) (x2 : Int32) (x3 : Int32) (I : gzIT) (J : gzJT) : Prop := gzX g 0 (d + 2) mX11_scarce 7 [some (.inr (.inr (0, 30))), some (.inl x1), some (.inl x2), some (.inl x3), none] [] (gzN, gzR0, I, J) 0 (gzE (.ok (some (.inl r))) (gzN, gzR0, I, J))
def f_X11_scarce_7 (φ : Nat) (I : gzIT) : Nat → Int32 → Int32 → Int32 → Option Int32
  | 0, _, _, _ => none
  | k + 1, x1, x2, x3 => if I 0 1 5 ≤ x3 then (some x1) else (Option.bind (f_X0_lasts 0 I x3) (fun v2 => if v2 = (-1) then (f_X11_scarce_7 φ I k x1 x2 (x3 + 1)) else (if x2 ≤ v2 then (f_X11_scarce_7 φ I k x1 x2 (x3 + 1)) else (f_X11_scarce_7 φ I k x3 v2 (x3 + 1)))))
set_option maxRecDepth 20000 in
theorem p_X11_scarce_7 {g : gzG} {d φ : Nat} {I : gzIT} {J : gzJT} {r : Int32} : ∀ (k : Nat) (x1 : Int32) (x2 : Int32) (x3 : Int32), f_X11_scarce_7 φ I k x1 x2 x3 = some r → gP_X11_scarce_7 g d r x1 x2 x3 I J := by
  intro k; induction k with
  | zero => intro x1 x2 x3 h; cases h
  | succ k ih =>
    intro x1 x2 x3 h
    unfold f_X11_scarce_7 at h
    unfold gP_X11_scarce_7
    have z_0_30 : gzOk 0 30 gzN := gzOk_of (by decide)
    have z_0_0 : gzOk 0 0 gzN := gzOk_of (by decide)
    have z_0_1 : gzOk 0 1 gzN := gzOk_of (by decide)
    refine gz_iload_n (pc := 7) dX11_scarce_7 rfl ?_
    refine gz_aload_n (pc := 8) dX11_scarce_8 rfl ?_
    refine gr_X11_42 (pc := 9) dX11_scarce_9 z_0_30 rfl ?_
    refine gr_X11_131 (pc := 12) dX11_scarce_12 z_0_0 rfl ?_
    refine gi_X11_310 (pc := 15) dX11_scarce_15 (v := I 0 1 5) z_0_1 rfl rfl ?_
    refine gz_ic_ge (pc := 18) (tgt := 57) dX11_scarce_18 (by decide) (fun c => ?_) (fun c => ?_)
    · replace h := gz_ifp c h
      refine gz_iload_n (pc := 57) dX11_scarce_57 rfl ?_
      cases h; exact gz_iret (pc := 58) dX11_scarce_58 rfl ⟨rfl, rfl⟩
    · replace h := gz_ifn c h
      refine gz_aload_n (pc := 21) dX11_scarce_21 rfl ?_
      refine gr_X11_42 (pc := 22) dX11_scarce_22 z_0_30 rfl ?_
      refine gr_X11_131 (pc := 25) dX11_scarce_25 z_0_0 rfl ?_
      refine gz_iload_n (pc := 28) dX11_scarce_28 rfl ?_
      refine gz_V (zy := mX0_lasts) (zc := 0) (pc := 29) [.inl x3] rfl dX11_scarce_29 lkX11_160 MvX0_lasts rfl z_0_1 rfl rfl rfl (Or.inl rfl) (fun h => h) (by exact Nat.le_of_ble_eq_true rfl) ?_
      obtain ⟨v2, e1, h⟩ := gz_bd h
      refine gz_useI (c_X0_lasts (by decide) e1) ?_
      refine gz_istore (pc := 32) dX11_scarce_32 (by decide) rfl (loc2 := [some (.inr (.inr (0, 30))), some (.inl x1), some (.inl x2), some (.inl x3), some (.inl v2)]) rfl ?_
      refine gz_iload (pc := 34) dX11_scarce_34 rfl ?_
      refine gz_iconst (pc := 36) dX11_scarce_36 (v := (-1)) (by decide) ?_
      refine gz_ic_eq (pc := 37) (tgt := 51) dX11_scarce_37 (by decide) (fun c => ?_) (fun c => ?_)
      · replace h := gz_ifp c h
        refine gz_iinc (pc := 51) dX11_scarce_51 (x := x3) (v := x3 + 1) rfl (by rw [show Int32.ofInt 1 = 1 by decide]) (by decide) rfl (loc2 := [some (.inr (.inr (0, 30))), some (.inl x1), some (.inl x2), some (.inl (x3 + 1)), some (.inl v2)]) rfl ?_
        refine gz_goto (pc := 54) (tgt := 7) dX11_scarce_54 (by decide) ?_
        exact gz_weak (loc2 := [some (.inr (.inr (0, 30))), some (.inl x1), some (.inl x2), some (.inl (x3 + 1)), none]) (ih x1 x2 (x3 + 1) h) (by repeat (first | exact trivial | refine ⟨rfl, ?_⟩))
      · replace h := gz_ifn c h
        refine gz_iload (pc := 40) dX11_scarce_40 rfl ?_
        refine gz_iload_n (pc := 42) dX11_scarce_42 rfl ?_
        refine gz_ic_ge (pc := 43) (tgt := 51) dX11_scarce_43 (by decide) (fun c => ?_) (fun c => ?_)
        · replace h := gz_ifp c h
          refine gz_iinc (pc := 51) dX11_scarce_51 (x := x3) (v := x3 + 1) rfl (by rw [show Int32.ofInt 1 = 1 by decide]) (by decide) rfl (loc2 := [some (.inr (.inr (0, 30))), some (.inl x1), some (.inl x2), some (.inl (x3 + 1)), some (.inl v2)]) rfl ?_
          refine gz_goto (pc := 54) (tgt := 7) dX11_scarce_54 (by decide) ?_
          exact gz_weak (loc2 := [some (.inr (.inr (0, 30))), some (.inl x1), some (.inl x2), some (.inl (x3 + 1)), none]) (ih x1 x2 (x3 + 1) h) (by repeat (first | exact trivial | refine ⟨rfl, ?_⟩))
        · replace h := gz_ifn c h
          refine gz_iload (pc := 46) dX11_scarce_46 rfl ?_
          refine gz_istore_n (pc := 48) dX11_scarce_48 (by decide) rfl (loc2 := [some (.inr (.inr (0, 30))), some (.inl x1), some (.inl v2), some (.inl x3), some (.inl v2)]) rfl ?_
          refine gz_iload_n (pc := 49) dX11_scarce_49 rfl ?_
          refine gz_istore_n (pc := 50) dX11_scarce_50 (by decide) rfl (loc2 := [some (.inr (.inr (0, 30))), some (.inl x3), some (.inl v2), some (.inl x3), some (.inl v2)]) rfl ?_
          refine gz_iinc (pc := 51) dX11_scarce_51 (x := x3) (v := x3 + 1) rfl (by rw [show Int32.ofInt 1 = 1 by decide]) (by decide) rfl (loc2 := [some (.inr (.inr (0, 30))), some (.inl x3), some (.inl v2), some (.inl (x3 + 1)), some (.inl v2)]) rfl ?_
          refine gz_goto (pc := 54) (tgt := 7) dX11_scarce_54 (by decide) ?_
          exact gz_weak (loc2 := [some (.inr (.inr (0, 30))), some (.inl x3), some (.inl v2), some (.inl (x3 + 1)), none]) (ih x3 v2 (x3 + 1) h) (by repeat (first | exact trivial | refine ⟨rfl, ?_⟩))
def f_X11_scarce (φ : Nat) (I : gzIT) : Option Int32 := f_X11_scarce_7 φ I φ (-1) 61 0
set_option maxRecDepth 20000 in
theorem c_X11_scarce {g : gzG} {d φ : Nat} {I : gzIT} {J : gzJT} {r : Int32} (h : f_X11_scarce φ I = some r) : gzC g 0 (d + 2) mX11_scarce [.inr (.inr (0, 30))] (gzN, gzR0, I, J) (gzE (.ok (some (.inl r))) (gzN, gzR0, I, J)) := by
  unfold f_X11_scarce at h
  refine gzC_of (by decide +kernel) (Nat.le_of_ble_eq_true rfl) (loc := [some (.inr (.inr (0, 30))), none, none, none, none]) rfl ?_
  refine gz_iconst (pc := 0) dX11_scarce_0 (v := (-1)) (by decide) ?_
  refine gz_istore_n (pc := 1) dX11_scarce_1 (by decide) rfl (loc2 := [some (.inr (.inr (0, 30))), some (.inl (-1)), none, none, none]) rfl ?_
  refine gz_bipush (pc := 2) dX11_scarce_2 (v := 61) (by decide) ?_
  refine gz_istore_n (pc := 4) dX11_scarce_4 (by decide) rfl (loc2 := [some (.inr (.inr (0, 30))), some (.inl (-1)), some (.inl 61), none, none]) rfl ?_
  refine gz_iconst (pc := 5) dX11_scarce_5 (v := 0) (by decide) ?_
  refine gz_istore_n (pc := 6) dX11_scarce_6 (by decide) rfl (loc2 := [some (.inr (.inr (0, 30))), some (.inl (-1)), some (.inl 61), some (.inl 0), none]) rfl ?_
  exact p_X11_scarce_7 φ (-1) 61 0 h
/-! X11_hot: hot -/
def gP_X11_hot_13 (g : gzG) (d : Nat) (r : Int32 × gzIT × gzJT) (x1 : Int32) (I : gzIT) (J : gzJT) : Prop := gzX g 0 (d + 5) mX11_hot 13 [some (.inr (.inr (0, 30))), some (.inl x1)] [] (gzN, gzR0, I, J) 0 (gzE (.ok (some (.inl r.1))) (gzN, gzR0, r.2.1, r.2.2))
def f_X11_hot_13 (φ : Nat) : Nat → Int32 → gzIT → gzJT → Option (Int32 × gzIT × gzJT)
  | 0, _, _, _ => none
  | k + 1, x1, I, J => if 60 < x1 then (some ((-1), I, J)) else (Option.bind (f_X8_turnAll φ 1 0 I J) (fun v4 => if v4.1 ≤ 0 then (Option.bind (f_X8_tick 1 v4.2.1 v4.2.2) (fun v6 => f_X11_hot_13 φ k (x1 + 1) v6.2.1 v6.2.2)) else (some (x1, v4.2.1, v4.2.2))))
set_option maxRecDepth 20000 in
theorem p_X11_hot_13 {g : gzG} {d φ : Nat} {r : Int32 × gzIT × gzJT} : ∀ (k : Nat) (x1 : Int32) (I : gzIT) (J : gzJT), f_X11_hot_13 φ k x1 I J = some r → gP_X11_hot_13 g d r x1 I J := by
  intro k; induction k with
  | zero => intro x1 I J h; cases h
  | succ k ih =>
    intro x1 I J h
    unfold f_X11_hot_13 at h
    unfold gP_X11_hot_13
    have z_0_30 : gzOk 0 30 gzN := gzOk_of (by decide)
    have z_1_0 : gzOk 1 0 gzN := gzOk_of (by decide)
    refine gz_iload_n (pc := 13) dX11_hot_13 rfl ?_
    refine gz_bipush (pc := 14) dX11_hot_14 (v := 60) (by decide) ?_
    refine gz_ic_gt (pc := 16) (tgt := 48) dX11_hot_16 (by decide) (fun c => ?_) (fun c => ?_)
    · replace h := gz_ifp c h
      refine gz_iconst (pc := 48) dX11_hot_48 (v := (-1)) (by decide) ?_
      cases h; exact gz_iret (pc := 49) dX11_hot_49 rfl ⟨rfl, rfl⟩
    · replace h := gz_ifn c h
      refine gz_aload_n (pc := 19) dX11_hot_19 rfl ?_
      refine gr_X11_46 (pc := 20) dX11_hot_20 z_0_30 rfl ?_
      refine gz_aload_n (pc := 23) dX11_hot_23 rfl ?_
      refine gr_X11_52 (pc := 24) dX11_hot_24 z_0_30 rfl ?_
      refine gz_V (zy := mX8_turnAll) (zc := 0) (pc := 27) [.inr (.inr (0, 20))] rfl dX11_hot_27 lkX11_311 MvX8_turnAll rfl z_1_0 rfl rfl rfl (Or.inl rfl) (fun h => h) (by exact Nat.le_of_ble_eq_true rfl) ?_
      obtain ⟨v4, e3, h⟩ := gz_bd h
      refine gz_useI (c_X8_turnAll (by decide) (by decide) e3) ?_
      refine gz_if_le (pc := 30) (tgt := 35) dX11_hot_30 (by decide) (fun c => ?_) (fun c => ?_)
      · replace h := gz_ifp c h
        refine gz_aload_n (pc := 35) dX11_hot_35 rfl ?_
        refine gr_X11_46 (pc := 36) dX11_hot_36 z_0_30 rfl ?_
        refine gz_V (zy := mX8_tick) (zc := 0) (pc := 39) [] rfl dX11_hot_39 lkX11_307 MvX8_tick rfl z_1_0 rfl rfl rfl (Or.inl rfl) (fun h => h) (by exact Nat.le_of_ble_eq_true rfl) ?_
        obtain ⟨v6, e5, h⟩ := gz_bd h
        refine gz_useV (c_X8_tick (by decide) e5) ?_
        refine gz_iinc (pc := 42) dX11_hot_42 (x := x1) (v := x1 + 1) rfl (by rw [show Int32.ofInt 1 = 1 by decide]) (by decide) rfl (loc2 := [some (.inr (.inr (0, 30))), some (.inl (x1 + 1))]) rfl ?_
        refine gz_goto (pc := 45) (tgt := 13) dX11_hot_45 (by decide) ?_
        exact ih (x1 + 1) v6.2.1 v6.2.2 h
      · replace h := gz_ifn c h
        refine gz_iload_n (pc := 33) dX11_hot_33 rfl ?_
        cases h; exact gz_iret (pc := 34) dX11_hot_34 rfl ⟨rfl, rfl⟩
def f_X11_hot (φ : Nat) (I : gzIT) (J : gzJT) : Option (Int32 × gzIT × gzJT) := Option.bind (f_X8_copyFrom φ 1 0 I J) (fun v2 => f_X11_hot_13 φ φ 1 v2.2.1 v2.2.2)
set_option maxRecDepth 20000 in
theorem c_X11_hot {g : gzG} {d φ : Nat} {I : gzIT} {J : gzJT} {r : Int32 × gzIT × gzJT} (h : f_X11_hot φ I J = some r) : gzC g 0 (d + 5) mX11_hot [.inr (.inr (0, 30))] (gzN, gzR0, I, J) (gzE (.ok (some (.inl r.1))) (gzN, gzR0, r.2.1, r.2.2)) := by
  unfold f_X11_hot at h
  refine gzC_of (by decide +kernel) (Nat.le_of_ble_eq_true rfl) (loc := [some (.inr (.inr (0, 30))), none]) rfl ?_
  have z_0_30 : gzOk 0 30 gzN := gzOk_of (by decide)
  have z_1_0 : gzOk 1 0 gzN := gzOk_of (by decide)
  refine gz_aload_n (pc := 0) dX11_hot_0 rfl ?_
  refine gr_X11_46 (pc := 1) dX11_hot_1 z_0_30 rfl ?_
  refine gz_aload_n (pc := 4) dX11_hot_4 rfl ?_
  refine gr_X11_42 (pc := 5) dX11_hot_5 z_0_30 rfl ?_
  refine gz_V (zy := mX8_copyFrom) (zc := 0) (pc := 8) [.inr (.inr (0, 0))] rfl dX11_hot_8 lkX11_95 MvX8_copyFrom rfl z_1_0 rfl rfl rfl (Or.inl rfl) (fun h => h) (by exact Nat.le_of_ble_eq_true rfl) ?_
  obtain ⟨v2, e1, h⟩ := gz_bd h
  refine gz_useV (c_X8_copyFrom (by decide) (by decide) e1) ?_
  refine gz_iconst (pc := 11) dX11_hot_11 (v := 1) (by decide) ?_
  refine gz_istore_n (pc := 12) dX11_hot_12 (by decide) rfl (loc2 := [some (.inr (.inr (0, 30))), some (.inl 1)]) rfl ?_
  exact p_X11_hot_13 φ 1 v2.2.1 v2.2.2 h
/-! X11_keeps: keeps -/
def gP_X11_keeps_19 (g : gzG) (d : Nat) (r : Int32) (x1 : Int32) (x2 : Int32) (x3 : Int32) (I : gzIT) (J : gzJT) : Prop := gzX g 0 (d + 3) mX11_keeps 19 [some (.inr (.inr (0, 30))), some (.inl x1), some (.inl x2), some (.inl x3)] [] (gzN, gzR0, I, J) 0 (gzE (.ok (some (.inl r))) (gzN, gzR0, I, J))
def f_X11_keeps_19 (φ : Nat) (I : gzIT) : Nat → Int32 → Int32 → Int32 → Option Int32
  | 0, _, _, _ => none
  | k + 1, x1, x2, x3 => if x2 < x3 then (Option.bind (f_X0_wantTogether φ 0 I x2) (fun v2 => some (v2 - x1))) else (Option.bind (f_X8_missed φ 0 I x3) (fun v4 => f_X11_keeps_19 φ I k (if x1 < v4 then v4 else x1) x2 (x3 + 1)))
set_option maxRecDepth 20000 in
theorem p_X11_keeps_19 {g : gzG} {d φ : Nat} {I : gzIT} {J : gzJT} {r : Int32} : ∀ (k : Nat) (x1 : Int32) (x2 : Int32) (x3 : Int32), f_X11_keeps_19 φ I k x1 x2 x3 = some r → gP_X11_keeps_19 g d r x1 x2 x3 I J := by
  intro k; induction k with
  | zero => intro x1 x2 x3 h; cases h
  | succ k ih =>
    intro x1 x2 x3 h
    unfold f_X11_keeps_19 at h
    unfold gP_X11_keeps_19
    have z_0_30 : gzOk 0 30 gzN := gzOk_of (by decide)
    have z_0_0 : gzOk 0 0 gzN := gzOk_of (by decide)
    have z_0_1 : gzOk 0 1 gzN := gzOk_of (by decide)
    refine gz_iload_n (pc := 19) dX11_keeps_19 rfl ?_
    refine gz_iload_n (pc := 20) dX11_keeps_20 rfl ?_
    refine gz_ic_gt (pc := 21) (tgt := 43) dX11_keeps_21 (by decide) (fun c => ?_) (fun c => ?_)
    · replace h := gz_ifp c h
      refine gz_aload_n (pc := 43) dX11_keeps_43 rfl ?_
      refine gr_X11_42 (pc := 44) dX11_keeps_44 z_0_30 rfl ?_
      refine gr_X11_131 (pc := 47) dX11_keeps_47 z_0_0 rfl ?_
      refine gz_iload_n (pc := 50) dX11_keeps_50 rfl ?_
      refine gz_V (zy := mX0_wantTogether) (zc := 0) (pc := 51) [.inl x2] rfl dX11_keeps_51 lkX11_321 MvX0_wantTogether rfl z_0_1 rfl rfl rfl (Or.inl rfl) (fun h => h) (by exact Nat.le_of_ble_eq_true rfl) ?_
      obtain ⟨v2, e1, h⟩ := gz_bd h
      refine gz_useI (c_X0_wantTogether (by decide) e1) ?_
      refine gz_iload_n (pc := 54) dX11_keeps_54 rfl ?_
      refine gz_isub (pc := 55) dX11_keeps_55  ?_
      cases h; exact gz_iret (pc := 56) dX11_keeps_56 rfl ⟨rfl, rfl⟩
    · replace h := gz_ifn c h
      refine gz_iload_n (pc := 24) dX11_keeps_24 rfl ?_
      refine gz_aload_n (pc := 25) dX11_keeps_25 rfl ?_
      refine gr_X11_42 (pc := 26) dX11_keeps_26 z_0_30 rfl ?_
      refine gz_iload_n (pc := 29) dX11_keeps_29 rfl ?_
      refine gz_V (zy := mX8_missed) (zc := 0) (pc := 30) [.inl x3] rfl dX11_keeps_30 lkX11_315 MvX8_missed rfl z_0_0 rfl rfl rfl (Or.inl rfl) (fun h => h) (by exact Nat.le_of_ble_eq_true rfl) ?_
      obtain ⟨v4, e3, h⟩ := gz_bd h
      refine gz_useI (c_X8_missed (by decide) e3) ?_
      refine gx_X11_318 (pc := 33) dX11_keeps_33 (Nat.le_of_ble_eq_true rfl) rfl ?_
      refine gz_istore_n (pc := 36) dX11_keeps_36 (by decide) rfl (loc2 := [some (.inr (.inr (0, 30))), some (.inl (if x1 < v4 then v4 else x1)), some (.inl x2), some (.inl x3)]) rfl ?_
      refine gz_iinc (pc := 37) dX11_keeps_37 (x := x3) (v := x3 + 1) rfl (by rw [show Int32.ofInt 1 = 1 by decide]) (by decide) rfl (loc2 := [some (.inr (.inr (0, 30))), some (.inl (if x1 < v4 then v4 else x1)), some (.inl x2), some (.inl (x3 + 1))]) rfl ?_
      refine gz_goto (pc := 40) (tgt := 19) dX11_keeps_40 (by decide) ?_
      exact ih (if x1 < v4 then v4 else x1) x2 (x3 + 1) h
def f_X11_keeps (φ : Nat) (I : gzIT) : Option Int32 := f_X11_keeps_19 φ I φ 0 (((1 : Int32) <<< ((I 0 1 5) &&& 31)) - 1) 0
set_option maxRecDepth 20000 in
theorem c_X11_keeps {g : gzG} {d φ : Nat} {I : gzIT} {J : gzJT} {r : Int32} (h : f_X11_keeps φ I = some r) : gzC g 0 (d + 3) mX11_keeps [.inr (.inr (0, 30))] (gzN, gzR0, I, J) (gzE (.ok (some (.inl r))) (gzN, gzR0, I, J)) := by
  unfold f_X11_keeps at h
  refine gzC_of (by decide +kernel) (Nat.le_of_ble_eq_true rfl) (loc := [some (.inr (.inr (0, 30))), none, none, none]) rfl ?_
  have z_0_30 : gzOk 0 30 gzN := gzOk_of (by decide)
  have z_0_0 : gzOk 0 0 gzN := gzOk_of (by decide)
  have z_0_1 : gzOk 0 1 gzN := gzOk_of (by decide)
  refine gz_iconst (pc := 0) dX11_keeps_0 (v := 0) (by decide) ?_
  refine gz_istore_n (pc := 1) dX11_keeps_1 (by decide) rfl (loc2 := [some (.inr (.inr (0, 30))), some (.inl 0), none, none]) rfl ?_
  refine gz_iconst (pc := 2) dX11_keeps_2 (v := 1) (by decide) ?_
  refine gz_aload_n (pc := 3) dX11_keeps_3 rfl ?_
  refine gr_X11_42 (pc := 4) dX11_keeps_4 z_0_30 rfl ?_
  refine gr_X11_131 (pc := 7) dX11_keeps_7 z_0_0 rfl ?_
  refine gi_X11_310 (pc := 10) dX11_keeps_10 (v := I 0 1 5) z_0_1 rfl rfl ?_
  refine gz_ishl (pc := 13) dX11_keeps_13  ?_
  refine gz_iconst (pc := 14) dX11_keeps_14 (v := 1) (by decide) ?_
  refine gz_isub (pc := 15) dX11_keeps_15  ?_
  refine gz_istore_n (pc := 16) dX11_keeps_16 (by decide) rfl (loc2 := [some (.inr (.inr (0, 30))), some (.inl 0), some (.inl (((1 : Int32) <<< ((I 0 1 5) &&& 31)) - 1)), none]) rfl ?_
  refine gz_iconst (pc := 17) dX11_keeps_17 (v := 0) (by decide) ?_
  refine gz_istore_n (pc := 18) dX11_keeps_18 (by decide) rfl (loc2 := [some (.inr (.inr (0, 30))), some (.inl 0), some (.inl (((1 : Int32) <<< ((I 0 1 5) &&& 31)) - 1)), some (.inl 0)]) rfl ?_
  exact p_X11_keeps_19 φ 0 (((1 : Int32) <<< ((I 0 1 5) &&& 31)) - 1) 0 h
/-! X11_tight: tight -/
def gP_X11_tight_4 (g : gzG) (d : Nat) (r : Int32) (x1 : Int32) (x2 : Int32) (I : gzIT) (J : gzJT) : Prop := gzX g 0 (d + 3) mX11_tight 4 [some (.inr (.inr (0, 30))), some (.inl x1), some (.inl x2)] [] (gzN, gzR0, I, J) 0 (gzE (.ok (some (.inl r))) (gzN, gzR0, I, J))
def f_X11_tight_4 (φ : Nat) (I : gzIT) : Nat → Int32 → Int32 → Option Int32
  | 0, _, _ => none
  | k + 1, x1, x2 => if (1 : Int32) <<< ((I 0 1 5) &&& 31) ≤ x2 then (some x1) else (Option.bind (f_J6_bitCount_0f7a4 x2) (fun v2 => Option.bind (f_J6_bitCount_0f7a4 x1) (fun v4 => if v2 ≤ v4 then (f_X11_tight_4 φ I k x1 (x2 + 1)) else (Option.bind (f_X8_missed φ 0 I x2) (fun v6 => if v6 ≤ 0 then (f_X11_tight_4 φ I k x1 (x2 + 1)) else (f_X11_tight_4 φ I k x2 (x2 + 1)))))))
set_option maxRecDepth 20000 in
theorem p_X11_tight_4 {g : gzG} {d φ : Nat} {I : gzIT} {J : gzJT} {r : Int32} : ∀ (k : Nat) (x1 : Int32) (x2 : Int32), f_X11_tight_4 φ I k x1 x2 = some r → gP_X11_tight_4 g d r x1 x2 I J := by
  intro k; induction k with
  | zero => intro x1 x2 h; cases h
  | succ k ih =>
    intro x1 x2 h
    unfold f_X11_tight_4 at h
    unfold gP_X11_tight_4
    have z_0_30 : gzOk 0 30 gzN := gzOk_of (by decide)
    have z_0_0 : gzOk 0 0 gzN := gzOk_of (by decide)
    have z_0_1 : gzOk 0 1 gzN := gzOk_of (by decide)
    refine gz_iload_n (pc := 4) dX11_tight_4 rfl ?_
    refine gz_iconst (pc := 5) dX11_tight_5 (v := 1) (by decide) ?_
    refine gz_aload_n (pc := 6) dX11_tight_6 rfl ?_
    refine gr_X11_42 (pc := 7) dX11_tight_7 z_0_30 rfl ?_
    refine gr_X11_131 (pc := 10) dX11_tight_10 z_0_0 rfl ?_
    refine gi_X11_310 (pc := 13) dX11_tight_13 (v := I 0 1 5) z_0_1 rfl rfl ?_
    refine gz_ishl (pc := 16) dX11_tight_16  ?_
    refine gz_ic_ge (pc := 17) (tgt := 50) dX11_tight_17 (by decide) (fun c => ?_) (fun c => ?_)
    · replace h := gz_ifp c h
      refine gz_iload_n (pc := 50) dX11_tight_50 rfl ?_
      cases h; exact gz_iret (pc := 51) dX11_tight_51 rfl ⟨rfl, rfl⟩
    · replace h := gz_ifn c h
      refine gz_iload_n (pc := 20) dX11_tight_20 rfl ?_
      refine gz_S (zy := mJ6_bitCount_0f7a4) (zc := 0) (pc := 21) [.inl x2] rfl dX11_tight_21 lkX11_324 MsJ6_bitCount_0f7a4 rfl (Or.inl rfl) (fun h => h) (by exact Nat.le_of_ble_eq_true rfl) ?_
      obtain ⟨v2, e1, h⟩ := gz_bd h
      refine gz_useI (c_J6_bitCount_0f7a4 e1) ?_
      refine gz_iload_n (pc := 24) dX11_tight_24 rfl ?_
      refine gz_S (zy := mJ6_bitCount_0f7a4) (zc := 0) (pc := 25) [.inl x1] rfl dX11_tight_25 lkX11_324 MsJ6_bitCount_0f7a4 rfl (Or.inl rfl) (fun h => h) (by exact Nat.le_of_ble_eq_true rfl) ?_
      obtain ⟨v4, e3, h⟩ := gz_bd h
      refine gz_useI (c_J6_bitCount_0f7a4 e3) ?_
      refine gz_ic_le (pc := 28) (tgt := 44) dX11_tight_28 (by decide) (fun c => ?_) (fun c => ?_)
      · replace h := gz_ifp c h
        refine gz_iinc (pc := 44) dX11_tight_44 (x := x2) (v := x2 + 1) rfl (by rw [show Int32.ofInt 1 = 1 by decide]) (by decide) rfl (loc2 := [some (.inr (.inr (0, 30))), some (.inl x1), some (.inl (x2 + 1))]) rfl ?_
        refine gz_goto (pc := 47) (tgt := 4) dX11_tight_47 (by decide) ?_
        exact ih x1 (x2 + 1) h
      · replace h := gz_ifn c h
        refine gz_aload_n (pc := 31) dX11_tight_31 rfl ?_
        refine gr_X11_42 (pc := 32) dX11_tight_32 z_0_30 rfl ?_
        refine gz_iload_n (pc := 35) dX11_tight_35 rfl ?_
        refine gz_V (zy := mX8_missed) (zc := 0) (pc := 36) [.inl x2] rfl dX11_tight_36 lkX11_315 MvX8_missed rfl z_0_0 rfl rfl rfl (Or.inl rfl) (fun h => h) (by exact Nat.le_of_ble_eq_true rfl) ?_
        obtain ⟨v6, e5, h⟩ := gz_bd h
        refine gz_useI (c_X8_missed (by decide) e5) ?_
        refine gz_if_le (pc := 39) (tgt := 44) dX11_tight_39 (by decide) (fun c => ?_) (fun c => ?_)
        · replace h := gz_ifp c h
          refine gz_iinc (pc := 44) dX11_tight_44 (x := x2) (v := x2 + 1) rfl (by rw [show Int32.ofInt 1 = 1 by decide]) (by decide) rfl (loc2 := [some (.inr (.inr (0, 30))), some (.inl x1), some (.inl (x2 + 1))]) rfl ?_
          refine gz_goto (pc := 47) (tgt := 4) dX11_tight_47 (by decide) ?_
          exact ih x1 (x2 + 1) h
        · replace h := gz_ifn c h
          refine gz_iload_n (pc := 42) dX11_tight_42 rfl ?_
          refine gz_istore_n (pc := 43) dX11_tight_43 (by decide) rfl (loc2 := [some (.inr (.inr (0, 30))), some (.inl x2), some (.inl x2)]) rfl ?_
          refine gz_iinc (pc := 44) dX11_tight_44 (x := x2) (v := x2 + 1) rfl (by rw [show Int32.ofInt 1 = 1 by decide]) (by decide) rfl (loc2 := [some (.inr (.inr (0, 30))), some (.inl x2), some (.inl (x2 + 1))]) rfl ?_
          refine gz_goto (pc := 47) (tgt := 4) dX11_tight_47 (by decide) ?_
          exact ih x2 (x2 + 1) h
def f_X11_tight (φ : Nat) (I : gzIT) : Option Int32 := f_X11_tight_4 φ I φ 0 0
set_option maxRecDepth 20000 in
theorem c_X11_tight {g : gzG} {d φ : Nat} {I : gzIT} {J : gzJT} {r : Int32} (h : f_X11_tight φ I = some r) : gzC g 0 (d + 3) mX11_tight [.inr (.inr (0, 30))] (gzN, gzR0, I, J) (gzE (.ok (some (.inl r))) (gzN, gzR0, I, J)) := by
  unfold f_X11_tight at h
  refine gzC_of (by decide +kernel) (Nat.le_of_ble_eq_true rfl) (loc := [some (.inr (.inr (0, 30))), none, none]) rfl ?_
  refine gz_iconst (pc := 0) dX11_tight_0 (v := 0) (by decide) ?_
  refine gz_istore_n (pc := 1) dX11_tight_1 (by decide) rfl (loc2 := [some (.inr (.inr (0, 30))), some (.inl 0), none]) rfl ?_
  refine gz_iconst (pc := 2) dX11_tight_2 (v := 0) (by decide) ?_
  refine gz_istore_n (pc := 3) dX11_tight_3 (by decide) rfl (loc2 := [some (.inr (.inr (0, 30))), some (.inl 0), some (.inl 0)]) rfl ?_
  exact p_X11_tight_4 φ 0 0 h
/-! X11_misses: misses -/
def f_X11_misses (φ : Nat) (I : gzIT) (a1 : Int32) : Option Int32 := Option.bind (f_X8_missed φ 0 I a1) (fun v2 => some v2)
set_option maxRecDepth 20000 in
theorem c_X11_misses {g : gzG} {d φ : Nat} {a1 : Int32} {I : gzIT} {J : gzJT} {r : Int32} (h : f_X11_misses φ I a1 = some r) : gzC g 0 (d + 3) mX11_misses [.inr (.inr (0, 30)), .inl a1] (gzN, gzR0, I, J) (gzE (.ok (some (.inl r))) (gzN, gzR0, I, J)) := by
  unfold f_X11_misses at h
  refine gzC_of (by decide +kernel) (Nat.le_of_ble_eq_true rfl) (loc := [some (.inr (.inr (0, 30))), some (.inl a1)]) rfl ?_
  have z_0_30 : gzOk 0 30 gzN := gzOk_of (by decide)
  have z_0_0 : gzOk 0 0 gzN := gzOk_of (by decide)
  refine gz_aload_n (pc := 0) dX11_misses_0 rfl ?_
  refine gr_X11_42 (pc := 1) dX11_misses_1 z_0_30 rfl ?_
  refine gz_iload_n (pc := 4) dX11_misses_4 rfl ?_
  refine gz_V (zy := mX8_missed) (zc := 0) (pc := 5) [.inl a1] rfl dX11_misses_5 lkX11_315 MvX8_missed rfl z_0_0 rfl rfl rfl (Or.inl rfl) (fun h => h) (by exact Nat.le_of_ble_eq_true rfl) ?_
  obtain ⟨v2, e1, h⟩ := gz_bd h
  refine gz_useI (c_X8_missed (by decide) e1) ?_
  cases h; exact gz_iret (pc := 8) dX11_misses_8 rfl ⟨rfl, rfl⟩
/-! X11_thaw: thaw -/
def f_X11_thaw (φ : Nat) (a1 : Int32) (I : gzIT) (J : gzJT) : Option ((Except String Int32) × gzIT × gzJT) := Option.bind (f_X11_needNumber a1 0 999 I J) (fun v2 => gzEx v2.1 (fun E => some (.error E, v2.2.1, v2.2.2)) (fun w4 => Option.bind (f_X10_bestThaw φ 0 a1 v2.2.1 v2.2.2) (fun v6 => some (.ok v6.1, v6.2.1, v6.2.2))))
set_option maxRecDepth 20000 in
theorem c_X11_thaw {g : gzG} {d φ : Nat} {a1 : Int32} {I : gzIT} {J : gzJT} {r : (Except String Int32) × gzIT × gzJT} (h : f_X11_thaw φ a1 I J = some r) : gzC g 0 (d + 3) mX11_thaw [.inr (.inr (0, 30)), .inl a1] (gzN, gzR0, I, J) (gzE (gzRI r.1) (gzN, gzR0, r.2.1, r.2.2)) := by
  unfold f_X11_thaw at h
  refine gzC_of (by decide +kernel) (Nat.le_of_ble_eq_true rfl) (loc := [some (.inr (.inr (0, 30))), some (.inl a1)]) rfl ?_
  have z_0_30 : gzOk 0 30 gzN := gzOk_of (by decide)
  have z_0_41 : gzOk 0 41 gzN := gzOk_of (by decide)
  refine gz_aload_n (pc := 0) dX11_thaw_0 rfl ?_
  refine gz_iload_n (pc := 1) dX11_thaw_1 rfl ?_
  refine gz_iconst (pc := 2) dX11_thaw_2 (v := 0) (by decide) ?_
  refine gz_sipush (pc := 3) dX11_thaw_3 (v := 999) (by decide) ?_
  refine gz_V (zy := mX11_needNumber) (zc := 0) (pc := 6) [.inl a1, .inl 0, .inl 999] rfl dX11_thaw_6 lkX11_223 MvX11_needNumber rfl z_0_30 rfl rfl rfl (Or.inl rfl) (fun h => h) (by exact Nat.le_of_ble_eq_true rfl) ?_
  obtain ⟨v2, e1, h⟩ := gz_bd h
  cases x3 : v2.1 with
  | error E => replace h := gz_exe x3 h; cases h; exact gz_useTV x3 (c_X11_needNumber e1) ⟨by simp [gzRI, gzRJ, gzRV], rfl⟩
  | ok w4 =>
    replace h := gz_exo x3 h
    refine gz_useOV x3 (c_X11_needNumber e1) ?_
    refine gz_aload_n (pc := 9) dX11_thaw_9 rfl ?_
    refine gr_X11_69 (pc := 10) dX11_thaw_10 z_0_30 rfl ?_
    refine gz_aload_n (pc := 13) dX11_thaw_13 rfl ?_
    refine gr_X11_42 (pc := 14) dX11_thaw_14 z_0_30 rfl ?_
    refine gz_iload_n (pc := 17) dX11_thaw_17 rfl ?_
    refine gz_V (zy := mX10_bestThaw) (zc := 0) (pc := 18) [.inr (.inr (0, 0)), .inl a1] rfl dX11_thaw_18 lkX11_329 MvX10_bestThaw rfl z_0_41 rfl rfl rfl (Or.inl rfl) (fun h => h) (by exact Nat.le_of_ble_eq_true rfl) ?_
    obtain ⟨v6, e5, h⟩ := gz_bd h
    refine gz_useI (c_X10_bestThaw (by decide) e5) ?_
    cases h; exact gz_iret (pc := 21) dX11_thaw_21 rfl ⟨rfl, rfl⟩
/-! X11_friends: friends -/
def f_X11_friends (φ : Nat) (I : gzIT) (J : gzJT) : Option (Int32 × gzIT × gzJT) := Option.bind (f_X10_spin φ 0 0 I J) (fun v2 => Option.bind (f_X10_strangers φ v2.2.1) (fun v4 => some (v4, v2.2.1, v2.2.2)))
set_option maxRecDepth 20000 in
theorem c_X11_friends {g : gzG} {d φ : Nat} {I : gzIT} {J : gzJT} {r : Int32 × gzIT × gzJT} (h : f_X11_friends φ I J = some r) : gzC g 0 (d + 2) mX11_friends [.inr (.inr (0, 30))] (gzN, gzR0, I, J) (gzE (.ok (some (.inl r.1))) (gzN, gzR0, r.2.1, r.2.2)) := by
  unfold f_X11_friends at h
  refine gzC_of (by decide +kernel) (Nat.le_of_ble_eq_true rfl) (loc := [some (.inr (.inr (0, 30)))]) rfl ?_
  have z_0_30 : gzOk 0 30 gzN := gzOk_of (by decide)
  have z_0_41 : gzOk 0 41 gzN := gzOk_of (by decide)
  refine gz_aload_n (pc := 0) dX11_friends_0 rfl ?_
  refine gr_X11_69 (pc := 1) dX11_friends_1 z_0_30 rfl ?_
  refine gz_aload_n (pc := 4) dX11_friends_4 rfl ?_
  refine gr_X11_42 (pc := 5) dX11_friends_5 z_0_30 rfl ?_
  refine gz_iconst (pc := 8) dX11_friends_8 (v := 0) (by decide) ?_
  refine gz_V (zy := mX10_spin) (zc := 0) (pc := 9) [.inr (.inr (0, 0)), .inl 0] rfl dX11_friends_9 lkX11_333 MvX10_spin rfl z_0_41 rfl rfl rfl (Or.inl rfl) (fun h => h) (by exact Nat.le_of_ble_eq_true rfl) ?_
  obtain ⟨v2, e1, h⟩ := gz_bd h
  refine gz_useV (c_X10_spin (by decide) e1) ?_
  refine gz_aload_n (pc := 12) dX11_friends_12 rfl ?_
  refine gr_X11_69 (pc := 13) dX11_friends_13 z_0_30 rfl ?_
  refine gz_V (zy := mX10_strangers) (zc := 0) (pc := 16) [] rfl dX11_friends_16 lkX11_337 MvX10_strangers rfl z_0_41 rfl rfl rfl (Or.inl rfl) (fun h => h) (by exact Nat.le_of_ble_eq_true rfl) ?_
  obtain ⟨v4, e3, h⟩ := gz_bd h
  refine gz_useI (c_X10_strangers e3) ?_
  cases h; exact gz_iret (pc := 19) dX11_friends_19 rfl ⟨rfl, rfl⟩
/-! X11_camps: camps -/
def gP_X11_camps_17 (g : gzG) (d : Nat) (r : Int32) (x1 : Int32) (x2 : Int32) (x3 : Int32) (x4 : Int32) (I : gzIT) (J : gzJT) : Prop := gzX g 0 (d + 2) mX11_camps 17 [some (.inr (.inr (0, 30))), some (.inl x1), some (.inl x2), some (.inl x3), some (.inl x4), none] [] (gzN, gzR0, I, J) 0 (gzE (.ok (some (.inl r))) (gzN, gzR0, I, J))
def f_X11_camps_17 (φ : Nat) (I : gzIT) : Nat → Int32 → Int32 → Int32 → Int32 → Option Int32
  | 0, _, _, _, _ => none
  | k + 1, x1, x2, x3, x4 => if (1 : Int32) <<< ((I 0 1 5) &&& 31) ≤ x4 then (some (if x1 = 0 then (x2 : Int32) else x3)) else (Option.bind (f_X1_within φ 0 I x4) (fun v5 => if x3 ≤ v5 then (f_X11_camps_17 φ I k x1 x2 x3 (x4 + 2)) else (f_X11_camps_17 φ I k x1 x4 v5 (x4 + 2))))
set_option maxRecDepth 20000 in
theorem p_X11_camps_17 {g : gzG} {d φ : Nat} {I : gzIT} {J : gzJT} {r : Int32} : ∀ (k : Nat) (x1 : Int32) (x2 : Int32) (x3 : Int32) (x4 : Int32), f_X11_camps_17 φ I k x1 x2 x3 x4 = some r → gP_X11_camps_17 g d r x1 x2 x3 x4 I J := by
  intro k; induction k with
  | zero => intro x1 x2 x3 x4 h; cases h
  | succ k ih =>
    intro x1 x2 x3 x4 h
    unfold f_X11_camps_17 at h
    unfold gP_X11_camps_17
    have z_0_30 : gzOk 0 30 gzN := gzOk_of (by decide)
    have z_0_0 : gzOk 0 0 gzN := gzOk_of (by decide)
    have z_0_1 : gzOk 0 1 gzN := gzOk_of (by decide)
    have z_0_7 : gzOk 0 7 gzN := gzOk_of (by decide)
    refine gz_iload (pc := 17) dX11_camps_17 rfl ?_
    refine gz_iconst (pc := 19) dX11_camps_19 (v := 1) (by decide) ?_
    refine gz_aload_n (pc := 20) dX11_camps_20 rfl ?_
    refine gr_X11_42 (pc := 21) dX11_camps_21 z_0_30 rfl ?_
    refine gr_X11_131 (pc := 24) dX11_camps_24 z_0_0 rfl ?_
    refine gi_X11_310 (pc := 27) dX11_camps_27 (v := I 0 1 5) z_0_1 rfl rfl ?_
    refine gz_ishl (pc := 30) dX11_camps_30  ?_
    refine gz_ic_ge (pc := 31) (tgt := 66) dX11_camps_31 (by decide) (fun c => ?_) (fun c => ?_)
    · replace h := gz_ifp c h
      refine gz_iload_n (pc := 66) dX11_camps_66 rfl ?_
      have kj3 : gzX g 0 (d + 2) mX11_camps 75 [some (.inr (.inr (0, 30))), some (.inl x1), some (.inl x2), some (.inl x3), some (.inl x4), none] ([.inl (if x1 = 0 then (x2 : Int32) else x3)]) (gzN, gzR0, I, J) 0 (gzE (.ok (some (.inl r))) (gzN, gzR0, I, J)) := by
        cases h; exact gz_iret (pc := 75) dX11_camps_75 rfl ⟨rfl, rfl⟩
      refine gz_if_eq (pc := 67) (tgt := 74) dX11_camps_67 (by decide) (fun c => ?_) (fun c => ?_)
      · rw [if_pos c] at kj3
        refine gz_iload_n (pc := 74) dX11_camps_74 rfl ?_
        exact kj3
      · rw [if_neg c] at kj3
        refine gz_iload_n (pc := 70) dX11_camps_70 rfl ?_
        refine gz_goto (pc := 71) (tgt := 75) dX11_camps_71 (by decide) ?_
        exact kj3
    · replace h := gz_ifn c h
      refine gz_aload_n (pc := 34) dX11_camps_34 rfl ?_
      refine gr_X11_42 (pc := 35) dX11_camps_35 z_0_30 rfl ?_
      refine gr_X11_150 (pc := 38) dX11_camps_38 z_0_0 rfl ?_
      refine gz_iload (pc := 41) dX11_camps_41 rfl ?_
      refine gz_V (zy := mX1_within) (zc := 0) (pc := 43) [.inl x4] rfl dX11_camps_43 lkX11_340 MvX1_within rfl z_0_7 rfl rfl rfl (Or.inl rfl) (fun h => h) (by exact Nat.le_of_ble_eq_true rfl) ?_
      obtain ⟨v5, e4, h⟩ := gz_bd h
      refine gz_useI (c_X1_within (by decide) e4) ?_
      refine gz_istore (pc := 46) dX11_camps_46 (by decide) rfl (loc2 := [some (.inr (.inr (0, 30))), some (.inl x1), some (.inl x2), some (.inl x3), some (.inl x4), some (.inl v5)]) rfl ?_
      refine gz_iload (pc := 48) dX11_camps_48 rfl ?_
      refine gz_iload_n (pc := 50) dX11_camps_50 rfl ?_
      refine gz_ic_ge (pc := 51) (tgt := 60) dX11_camps_51 (by decide) (fun c => ?_) (fun c => ?_)
      · replace h := gz_ifp c h
        refine gz_iinc (pc := 60) dX11_camps_60 (x := x4) (v := x4 + 2) rfl (by rw [show Int32.ofInt 2 = 2 by decide]) (by decide) rfl (loc2 := [some (.inr (.inr (0, 30))), some (.inl x1), some (.inl x2), some (.inl x3), some (.inl (x4 + 2)), some (.inl v5)]) rfl ?_
        refine gz_goto (pc := 63) (tgt := 17) dX11_camps_63 (by decide) ?_
        exact gz_weak (loc2 := [some (.inr (.inr (0, 30))), some (.inl x1), some (.inl x2), some (.inl x3), some (.inl (x4 + 2)), none]) (ih x1 x2 x3 (x4 + 2) h) (by repeat (first | exact trivial | refine ⟨rfl, ?_⟩))
      · replace h := gz_ifn c h
        refine gz_iload (pc := 54) dX11_camps_54 rfl ?_
        refine gz_istore_n (pc := 56) dX11_camps_56 (by decide) rfl (loc2 := [some (.inr (.inr (0, 30))), some (.inl x1), some (.inl x2), some (.inl v5), some (.inl x4), some (.inl v5)]) rfl ?_
        refine gz_iload (pc := 57) dX11_camps_57 rfl ?_
        refine gz_istore_n (pc := 59) dX11_camps_59 (by decide) rfl (loc2 := [some (.inr (.inr (0, 30))), some (.inl x1), some (.inl x4), some (.inl v5), some (.inl x4), some (.inl v5)]) rfl ?_
        refine gz_iinc (pc := 60) dX11_camps_60 (x := x4) (v := x4 + 2) rfl (by rw [show Int32.ofInt 2 = 2 by decide]) (by decide) rfl (loc2 := [some (.inr (.inr (0, 30))), some (.inl x1), some (.inl x4), some (.inl v5), some (.inl (x4 + 2)), some (.inl v5)]) rfl ?_
        refine gz_goto (pc := 63) (tgt := 17) dX11_camps_63 (by decide) ?_
        exact gz_weak (loc2 := [some (.inr (.inr (0, 30))), some (.inl x1), some (.inl x4), some (.inl v5), some (.inl (x4 + 2)), none]) (ih x1 x4 v5 (x4 + 2) h) (by repeat (first | exact trivial | refine ⟨rfl, ?_⟩))
def f_X11_camps (φ : Nat) (I : gzIT) (a1 : Int32) : Option Int32 := Option.bind (f_X1_within φ 0 I 0) (fun v2 => f_X11_camps_17 φ I φ a1 0 v2 2)
set_option maxRecDepth 20000 in
theorem c_X11_camps {g : gzG} {d φ : Nat} {a1 : Int32} {I : gzIT} {J : gzJT} {r : Int32} (h : f_X11_camps φ I a1 = some r) : gzC g 0 (d + 2) mX11_camps [.inr (.inr (0, 30)), .inl a1] (gzN, gzR0, I, J) (gzE (.ok (some (.inl r))) (gzN, gzR0, I, J)) := by
  unfold f_X11_camps at h
  refine gzC_of (by decide +kernel) (Nat.le_of_ble_eq_true rfl) (loc := [some (.inr (.inr (0, 30))), some (.inl a1), none, none, none, none]) rfl ?_
  have z_0_30 : gzOk 0 30 gzN := gzOk_of (by decide)
  have z_0_0 : gzOk 0 0 gzN := gzOk_of (by decide)
  have z_0_7 : gzOk 0 7 gzN := gzOk_of (by decide)
  refine gz_iconst (pc := 0) dX11_camps_0 (v := 0) (by decide) ?_
  refine gz_istore_n (pc := 1) dX11_camps_1 (by decide) rfl (loc2 := [some (.inr (.inr (0, 30))), some (.inl a1), some (.inl 0), none, none, none]) rfl ?_
  refine gz_aload_n (pc := 2) dX11_camps_2 rfl ?_
  refine gr_X11_42 (pc := 3) dX11_camps_3 z_0_30 rfl ?_
  refine gr_X11_150 (pc := 6) dX11_camps_6 z_0_0 rfl ?_
  refine gz_iconst (pc := 9) dX11_camps_9 (v := 0) (by decide) ?_
  refine gz_V (zy := mX1_within) (zc := 0) (pc := 10) [.inl 0] rfl dX11_camps_10 lkX11_340 MvX1_within rfl z_0_7 rfl rfl rfl (Or.inl rfl) (fun h => h) (by exact Nat.le_of_ble_eq_true rfl) ?_
  obtain ⟨v2, e1, h⟩ := gz_bd h
  refine gz_useI (c_X1_within (by decide) e1) ?_
  refine gz_istore_n (pc := 13) dX11_camps_13 (by decide) rfl (loc2 := [some (.inr (.inr (0, 30))), some (.inl a1), some (.inl 0), some (.inl v2), none, none]) rfl ?_
  refine gz_iconst (pc := 14) dX11_camps_14 (v := 2) (by decide) ?_
  refine gz_istore (pc := 15) dX11_camps_15 (by decide) rfl (loc2 := [some (.inr (.inr (0, 30))), some (.inl a1), some (.inl 0), some (.inl v2), some (.inl 2), none]) rfl ?_
  exact p_X11_camps_17 φ a1 0 v2 2 h
/-! X11_needCuts: needCuts -/
def gP_X11_needCuts_25 (g : gzG) (d : Nat) (r : (Except String Unit) × gzIT × gzJT) (x1 : Int32) (x2 : Int32) (I : gzIT) (J : gzJT) : Prop := gzX g 0 (d + 2) mX11_needCuts 25 [some (.inr (.inr (0, 30))), some (.inl x1), some (.inl x2)] [] (gzN, gzR0, I, J) 0 (gzE (gzRV r.1) (gzN, gzR0, r.2.1, r.2.2))
def f_X11_needCuts_25 (φ : Nat) : Nat → Int32 → Int32 → gzIT → gzJT → Option ((Except String Unit) × gzIT × gzJT)
  | 0, _, _, _, _ => none
  | k + 1, x1, x2, I, J => if x1 ≤ x2 then (some (.ok (), I, J)) else (Option.bind (f_X6_byteAt I x2) (fun v3 => if v3 ≤ (if ¬ x2 - x2 / 2 * 2 = 0 then (9 : Int32) else 1) then (f_X11_needCuts_25 φ k x1 (x2 + 1) I J) else (some (.error "java/lang/IllegalArgumentException", I, J))))
set_option maxRecDepth 20000 in
theorem p_X11_needCuts_25 {g : gzG} {d φ : Nat} {r : (Except String Unit) × gzIT × gzJT} : ∀ (k : Nat) (x1 : Int32) (x2 : Int32) (I : gzIT) (J : gzJT), f_X11_needCuts_25 φ k x1 x2 I J = some r → gP_X11_needCuts_25 g d r x1 x2 I J := by
  intro k; induction k with
  | zero => intro x1 x2 I J h; cases h
  | succ k ih =>
    intro x1 x2 I J h
    unfold f_X11_needCuts_25 at h
    unfold gP_X11_needCuts_25
    have z_0_30 : gzOk 0 30 gzN := gzOk_of (by decide)
    have z_0_31 : gzOk 0 31 gzN := gzOk_of (by decide)
    refine gz_iload_n (pc := 25) dX11_needCuts_25 rfl ?_
    refine gz_iload_n (pc := 26) dX11_needCuts_26 rfl ?_
    refine gz_ic_ge (pc := 27) (tgt := 70) dX11_needCuts_27 (by decide) (fun c => ?_) (fun c => ?_)
    · replace h := gz_ifp c h
      cases h; exact gz_vret (pc := 70) dX11_needCuts_70 rfl ⟨rfl, rfl⟩
    · replace h := gz_ifn c h
      refine gz_aload_n (pc := 30) dX11_needCuts_30 rfl ?_
      refine gr_X11_12 (pc := 31) dX11_needCuts_31 z_0_30 rfl ?_
      refine gz_iload_n (pc := 34) dX11_needCuts_34 rfl ?_
      refine gz_V (zy := mX6_byteAt) (zc := 0) (pc := 35) [.inl x2] rfl dX11_needCuts_35 lkX11_460 MvX6_byteAt rfl z_0_31 rfl rfl rfl (Or.inl rfl) (fun h => h) (by exact Nat.le_of_ble_eq_true rfl) ?_
      obtain ⟨v3, e2, h⟩ := gz_bd h
      refine gz_useI (c_X6_byteAt e2) ?_
      refine gz_iload_n (pc := 38) dX11_needCuts_38 rfl ?_
      refine gz_iconst (pc := 39) dX11_needCuts_39 (v := 2) (by decide) ?_
      refine gz_irem (pc := 40) dX11_needCuts_40 (by decide) ?_
      have kj5 : gzX g 0 (d + 2) mX11_needCuts 50 [some (.inr (.inr (0, 30))), some (.inl x1), some (.inl x2)] ([.inl (if ¬ x2 - x2 / 2 * 2 = 0 then (9 : Int32) else 1), .inl v3]) (gzN, gzR0, I, J) 0 (gzE (gzRV r.1) (gzN, gzR0, r.2.1, r.2.2)) := by
        refine gz_ic_le (pc := 50) (tgt := 64) dX11_needCuts_50 (by decide) (fun c => ?_) (fun c => ?_)
        · replace h := gz_ifp c h
          refine gz_iinc (pc := 64) dX11_needCuts_64 (x := x2) (v := x2 + 1) rfl (by rw [show Int32.ofInt 1 = 1 by decide]) (by decide) rfl (loc2 := [some (.inr (.inr (0, 30))), some (.inl x1), some (.inl (x2 + 1))]) rfl ?_
          refine gz_goto (pc := 67) (tgt := 25) dX11_needCuts_67 (by decide) ?_
          exact ih x1 (x2 + 1) I J h
        · replace h := gz_ifn c h
          exact gz_thrW (pc := 53) th_X11_447_451 (i := 16) rfl dX11_needCuts_53 dX11_needCuts_56 dX11_needCuts_57 dX11_needCuts_60 dX11_needCuts_63 (Nat.le_of_ble_eq_true rfl) (by cases h; exact ⟨rfl, rfl⟩)
      refine gz_if_ne (pc := 41) (tgt := 48) dX11_needCuts_41 (by decide) (fun c => ?_) (fun c => ?_)
      · rw [if_pos c] at kj5
        refine gz_bipush (pc := 48) dX11_needCuts_48 (v := 9) (by decide) ?_
        exact kj5
      · rw [if_neg (show ¬ (¬ x2 - x2 / 2 * 2 = 0) from fun q => q c)] at kj5
        refine gz_iconst (pc := 44) dX11_needCuts_44 (v := 1) (by decide) ?_
        refine gz_goto (pc := 45) (tgt := 50) dX11_needCuts_45 (by decide) ?_
        exact kj5
def f_X11_needCuts (φ : Nat) (a1 : Int32) (I : gzIT) (J : gzJT) : Option ((Except String Unit) × gzIT × gzJT) := if 40 < a1 then (some (.error "java/lang/IllegalArgumentException", I, J)) else (if a1 - a1 / 2 * 2 = 0 then (f_X11_needCuts_25 φ φ a1 0 I J) else (some (.error "java/lang/IllegalArgumentException", I, J)))
set_option maxRecDepth 20000 in
theorem c_X11_needCuts {g : gzG} {d φ : Nat} {a1 : Int32} {I : gzIT} {J : gzJT} {r : (Except String Unit) × gzIT × gzJT} (h : f_X11_needCuts φ a1 I J = some r) : gzC g 0 (d + 2) mX11_needCuts [.inr (.inr (0, 30)), .inl a1] (gzN, gzR0, I, J) (gzE (gzRV r.1) (gzN, gzR0, r.2.1, r.2.2)) := by
  unfold f_X11_needCuts at h
  refine gzC_of (by decide +kernel) (Nat.le_of_ble_eq_true rfl) (loc := [some (.inr (.inr (0, 30))), some (.inl a1), none]) rfl ?_
  refine gz_iload_n (pc := 0) dX11_needCuts_0 rfl ?_
  refine gz_bipush (pc := 1) dX11_needCuts_1 (v := 40) (by decide) ?_
  refine gz_ic_gt (pc := 3) (tgt := 12) dX11_needCuts_3 (by decide) (fun c => ?_) (fun c => ?_)
  · replace h := gz_ifp c h
    exact gz_thrW (pc := 12) th_X11_447_451 (i := 15) rfl dX11_needCuts_12 dX11_needCuts_15 dX11_needCuts_16 dX11_needCuts_19 dX11_needCuts_22 (Nat.le_of_ble_eq_true rfl) (by cases h; exact ⟨rfl, rfl⟩)
  · replace h := gz_ifn c h
    refine gz_iload_n (pc := 6) dX11_needCuts_6 rfl ?_
    refine gz_iconst (pc := 7) dX11_needCuts_7 (v := 2) (by decide) ?_
    refine gz_irem (pc := 8) dX11_needCuts_8 (by decide) ?_
    refine gz_if_eq (pc := 9) (tgt := 23) dX11_needCuts_9 (by decide) (fun c => ?_) (fun c => ?_)
    · replace h := gz_ifp c h
      refine gz_iconst (pc := 23) dX11_needCuts_23 (v := 0) (by decide) ?_
      refine gz_istore_n (pc := 24) dX11_needCuts_24 (by decide) rfl (loc2 := [some (.inr (.inr (0, 30))), some (.inl a1), some (.inl 0)]) rfl ?_
      exact p_X11_needCuts_25 φ a1 0 I J h
    · replace h := gz_ifn c h
      exact gz_thrW (pc := 12) th_X11_447_451 (i := 15) rfl dX11_needCuts_12 dX11_needCuts_15 dX11_needCuts_16 dX11_needCuts_19 dX11_needCuts_22 (Nat.le_of_ble_eq_true rfl) (by cases h; exact ⟨rfl, rfl⟩)
/-! X11_cuts: cuts -/
def f_X11_cuts (φ : Nat) (a1 : Int32) (I : gzIT) (J : gzJT) : Option ((Except String Int32) × gzIT × gzJT) := Option.bind (f_X6_use I J) (fun v2 => Option.bind (f_X11_needCuts φ v2.1 v2.2.1 v2.2.2) (fun v4 => gzEx v4.1 (fun E => some (.error E, v4.2.1, v4.2.2)) (fun w6 => Option.bind (f_X8_fitting φ 0 v4.2.1 v2.1) (fun v8 => if a1 = 0 then (some (.ok v8, v4.2.1, v4.2.2)) else (Option.bind (f_X8_likeliest φ 0 v4.2.1 v8) (fun v10 => some (.ok v10, v4.2.1, v4.2.2)))))))
set_option maxRecDepth 20000 in
theorem c_X11_cuts {g : gzG} {d φ : Nat} {a1 : Int32} {I : gzIT} {J : gzJT} {r : (Except String Int32) × gzIT × gzJT} (h : f_X11_cuts φ a1 I J = some r) : gzC g 0 (d + 3) mX11_cuts [.inr (.inr (0, 30)), .inl a1] (gzN, gzR0, I, J) (gzE (gzRI r.1) (gzN, gzR0, r.2.1, r.2.2)) := by
  unfold f_X11_cuts at h
  refine gzC_of (by decide +kernel) (Nat.le_of_ble_eq_true rfl) (loc := [some (.inr (.inr (0, 30))), some (.inl a1), none, none]) rfl ?_
  have z_0_30 : gzOk 0 30 gzN := gzOk_of (by decide)
  have z_0_31 : gzOk 0 31 gzN := gzOk_of (by decide)
  have z_0_0 : gzOk 0 0 gzN := gzOk_of (by decide)
  refine gz_aload_n (pc := 0) dX11_cuts_0 rfl ?_
  refine gr_X11_12 (pc := 1) dX11_cuts_1 z_0_30 rfl ?_
  refine gz_V (zy := mX6_use) (zc := 0) (pc := 4) [] rfl dX11_cuts_4 lkX11_343 MvX6_use rfl z_0_31 rfl rfl rfl (Or.inl rfl) (fun h => h) (by exact Nat.le_of_ble_eq_true rfl) ?_
  obtain ⟨v2, e1, h⟩ := gz_bd h
  refine gz_useI (c_X6_use e1) ?_
  refine gz_istore_n (pc := 7) dX11_cuts_7 (by decide) rfl (loc2 := [some (.inr (.inr (0, 30))), some (.inl a1), some (.inl v2.1), none]) rfl ?_
  refine gz_aload_n (pc := 8) dX11_cuts_8 rfl ?_
  refine gz_iload_n (pc := 9) dX11_cuts_9 rfl ?_
  refine gz_V (zy := mX11_needCuts) (zc := 0) (pc := 10) [.inl v2.1] rfl dX11_cuts_10 lkX11_346 MvX11_needCuts rfl z_0_30 rfl rfl rfl (Or.inl rfl) (fun h => h) (by exact Nat.le_of_ble_eq_true rfl) ?_
  obtain ⟨v4, e3, h⟩ := gz_bd h
  cases x5 : v4.1 with
  | error E => replace h := gz_exe x5 h; cases h; exact gz_useTV x5 (c_X11_needCuts e3) ⟨by simp [gzRI, gzRJ, gzRV], rfl⟩
  | ok w6 =>
    replace h := gz_exo x5 h
    refine gz_useOV x5 (c_X11_needCuts e3) ?_
    refine gz_aload_n (pc := 13) dX11_cuts_13 rfl ?_
    refine gr_X11_42 (pc := 14) dX11_cuts_14 z_0_30 rfl ?_
    refine gz_aload_n (pc := 17) dX11_cuts_17 rfl ?_
    refine gr_X11_12 (pc := 18) dX11_cuts_18 z_0_30 rfl ?_
    refine gz_iload_n (pc := 21) dX11_cuts_21 rfl ?_
    refine gz_V (zy := mX8_fitting) (zc := 0) (pc := 22) [.inr (.inr (0, 31)), .inl v2.1] rfl dX11_cuts_22 lkX11_349 MvX8_fitting rfl z_0_0 rfl rfl rfl (Or.inl rfl) (fun h => h) (by exact Nat.le_of_ble_eq_true rfl) ?_
    obtain ⟨v8, e7, h⟩ := gz_bd h
    refine gz_useI (c_X8_fitting (by decide) e7) ?_
    refine gz_istore_n (pc := 25) dX11_cuts_25 (by decide) rfl (loc2 := [some (.inr (.inr (0, 30))), some (.inl a1), some (.inl v2.1), some (.inl v8)]) rfl ?_
    refine gz_iload_n (pc := 26) dX11_cuts_26 rfl ?_
    refine gz_if_eq (pc := 27) (tgt := 41) dX11_cuts_27 (by decide) (fun c => ?_) (fun c => ?_)
    · replace h := gz_ifp c h
      refine gz_iload_n (pc := 41) dX11_cuts_41 rfl ?_
      cases h; exact gz_iret (pc := 42) dX11_cuts_42 rfl ⟨rfl, rfl⟩
    · replace h := gz_ifn c h
      refine gz_aload_n (pc := 30) dX11_cuts_30 rfl ?_
      refine gr_X11_42 (pc := 31) dX11_cuts_31 z_0_30 rfl ?_
      refine gz_iload_n (pc := 34) dX11_cuts_34 rfl ?_
      refine gz_V (zy := mX8_likeliest) (zc := 0) (pc := 35) [.inl v8] rfl dX11_cuts_35 lkX11_353 MvX8_likeliest rfl z_0_0 rfl rfl rfl (Or.inl rfl) (fun h => h) (by exact Nat.le_of_ble_eq_true rfl) ?_
      obtain ⟨v10, e9, h⟩ := gz_bd h
      refine gz_useI (c_X8_likeliest (by decide) e9) ?_
      refine gz_goto (pc := 38) (tgt := 42) dX11_cuts_38 (by decide) ?_
      cases h; exact gz_iret (pc := 42) dX11_cuts_42 rfl ⟨rfl, rfl⟩
/-! X11_greatestPart: greatestPart -/
def gP_X11_greatestPart_16 (g : gzG) (ta1 : Nat) (oa1 : Nat) (na1 : Nat) (d : Nat) (r : Int32) (x1 : Int32) (x2 : Int32) (x3 : Int32) (x4 : Int32) (x5 : Int32) (I : gzIT) (J : gzJT) : Prop := gzX g 0 (d + 1) mX11_greatestPart 16 [some (.inr (.inr (ta1, oa1))), some (.inl x1), some (.inl x2), some (.inl x3), some (.inl x4), some (.inl x5)] [] (gzN, gzR0, I, J) 0 (gzE (.ok (some (.inl r))) (gzN, gzR0, I, J))
def gP_X11_greatestPart_4 (g : gzG) (ta1 : Nat) (oa1 : Nat) (na1 : Nat) (d : Nat) (r : Int32) (x1 : Int32) (x2 : Int32) (x3 : Int32) (I : gzIT) (J : gzJT) : Prop := gzX g 0 (d + 1) mX11_greatestPart 4 [some (.inr (.inr (ta1, oa1))), some (.inl x1), some (.inl x2), some (.inl x3), none, none] [] (gzN, gzR0, I, J) 0 (gzE (.ok (some (.inl r))) (gzN, gzR0, I, J))
def f_X11_greatestPart_16 (φ : Nat) (ta1 : Nat) (oa1 : Nat) (na1 : Nat) (I : gzIT) (K4 : Int32 → Int32 → Int32 → Option Int32) : Nat → Int32 → Int32 → Int32 → Int32 → Int32 → Option Int32
  | 0, _, _, _, _, _ => none
  | k + 1, x1, x2, x3, x4, x5 => if 8 ≤ x5 then (K4 x1 (if x2 < x4 then x4 else x2) (x3 + 1)) else (Option.bind (f_X11_has x1 x5) (fun v2 => if v2 = 0 then (f_X11_greatestPart_16 φ ta1 oa1 na1 I K4 k x1 x2 x3 x4 (x5 + 1)) else (Option.bind (f_X11_cell ta1 oa1 na1 I x5) (fun v4 => if ¬ v4 = x3 then (f_X11_greatestPart_16 φ ta1 oa1 na1 I K4 k x1 x2 x3 x4 (x5 + 1)) else (f_X11_greatestPart_16 φ ta1 oa1 na1 I K4 k x1 x2 x3 (x4 + 1) (x5 + 1))))))
set_option maxRecDepth 20000 in
theorem p_X11_greatestPart_16 {g : gzG} {d φ : Nat} {ta1 : Nat} {oa1 : Nat} {na1 : Nat} (va1 : gzOk ta1 oa1 gzN) (ka1 : gzKd oa1 = .inr (.int, na1)) {I : gzIT} {J : gzJT} {r : Int32} {K4 : Int32 → Int32 → Int32 → Option Int32} (hK4 : ∀ (x1 : Int32) (x2 : Int32) (x3 : Int32), K4 x1 x2 x3 = some r → gP_X11_greatestPart_4 g ta1 oa1 na1 d r x1 x2 x3 I J) : ∀ (k : Nat) (x1 : Int32) (x2 : Int32) (x3 : Int32) (x4 : Int32) (x5 : Int32), f_X11_greatestPart_16 φ ta1 oa1 na1 I K4 k x1 x2 x3 x4 x5 = some r → gP_X11_greatestPart_16 g ta1 oa1 na1 d r x1 x2 x3 x4 x5 I J := by
  intro k; induction k with
  | zero => intro x1 x2 x3 x4 x5 h; cases h
  | succ k ih =>
    intro x1 x2 x3 x4 x5 h
    unfold f_X11_greatestPart_16 at h
    unfold gP_X11_greatestPart_16
    refine gz_iload (pc := 16) dX11_greatestPart_16 rfl ?_
    refine gz_bipush (pc := 18) dX11_greatestPart_18 (v := 8) (by decide) ?_
    refine gz_ic_ge (pc := 20) (tgt := 51) dX11_greatestPart_20 (by decide) (fun c => ?_) (fun c => ?_)
    · replace h := gz_ifp c h
      refine gz_iload_n (pc := 51) dX11_greatestPart_51 rfl ?_
      refine gz_iload (pc := 52) dX11_greatestPart_52 rfl ?_
      refine gx_X11_318 (pc := 54) dX11_greatestPart_54 (Nat.le_of_ble_eq_true rfl) rfl ?_
      refine gz_istore_n (pc := 57) dX11_greatestPart_57 (by decide) rfl (loc2 := [some (.inr (.inr (ta1, oa1))), some (.inl x1), some (.inl (if x2 < x4 then x4 else x2)), some (.inl x3), some (.inl x4), some (.inl x5)]) rfl ?_
      refine gz_iinc (pc := 58) dX11_greatestPart_58 (x := x3) (v := x3 + 1) rfl (by rw [show Int32.ofInt 1 = 1 by decide]) (by decide) rfl (loc2 := [some (.inr (.inr (ta1, oa1))), some (.inl x1), some (.inl (if x2 < x4 then x4 else x2)), some (.inl (x3 + 1)), some (.inl x4), some (.inl x5)]) rfl ?_
      refine gz_goto (pc := 61) (tgt := 4) dX11_greatestPart_61 (by decide) ?_
      exact gz_weak (loc2 := [some (.inr (.inr (ta1, oa1))), some (.inl x1), some (.inl (if x2 < x4 then x4 else x2)), some (.inl (x3 + 1)), none, none]) (hK4 x1 (if x2 < x4 then x4 else x2) (x3 + 1) h) (by repeat (first | exact trivial | refine ⟨rfl, ?_⟩))
    · replace h := gz_ifn c h
      refine gz_iload_n (pc := 23) dX11_greatestPart_23 rfl ?_
      refine gz_iload (pc := 24) dX11_greatestPart_24 rfl ?_
      refine gz_S (zy := mX11_has) (zc := 0) (pc := 26) [.inl x1, .inl x5] rfl dX11_greatestPart_26 lkX11_465 MsX11_has rfl (Or.inl rfl) (fun h => h) (by exact Nat.le_of_ble_eq_true rfl) ?_
      obtain ⟨v2, e1, h⟩ := gz_bd h
      refine gz_useI (c_X11_has e1) ?_
      refine gz_if_eq (pc := 29) (tgt := 45) dX11_greatestPart_29 (by decide) (fun c => ?_) (fun c => ?_)
      · replace h := gz_ifp c h
        refine gz_iinc (pc := 45) dX11_greatestPart_45 (x := x5) (v := x5 + 1) rfl (by rw [show Int32.ofInt 1 = 1 by decide]) (by decide) rfl (loc2 := [some (.inr (.inr (ta1, oa1))), some (.inl x1), some (.inl x2), some (.inl x3), some (.inl x4), some (.inl (x5 + 1))]) rfl ?_
        refine gz_goto (pc := 48) (tgt := 16) dX11_greatestPart_48 (by decide) ?_
        exact ih x1 x2 x3 x4 (x5 + 1) h
      · replace h := gz_ifn c h
        refine gz_aload_n (pc := 32) dX11_greatestPart_32 rfl ?_
        refine gz_iload (pc := 33) dX11_greatestPart_33 rfl ?_
        refine gz_S (zy := mX11_cell) (zc := 0) (pc := 35) [.inr (.inr (ta1, oa1)), .inl x5] rfl dX11_greatestPart_35 lkX11_406 MsX11_cell rfl (Or.inl rfl) (fun h => h) (by exact Nat.le_of_ble_eq_true rfl) ?_
        obtain ⟨v4, e3, h⟩ := gz_bd h
        refine gz_useI (c_X11_cell va1 ka1 e3) ?_
        refine gz_iload_n (pc := 38) dX11_greatestPart_38 rfl ?_
        refine gz_ic_ne (pc := 39) (tgt := 45) dX11_greatestPart_39 (by decide) (fun c => ?_) (fun c => ?_)
        · replace h := gz_ifp c h
          refine gz_iinc (pc := 45) dX11_greatestPart_45 (x := x5) (v := x5 + 1) rfl (by rw [show Int32.ofInt 1 = 1 by decide]) (by decide) rfl (loc2 := [some (.inr (.inr (ta1, oa1))), some (.inl x1), some (.inl x2), some (.inl x3), some (.inl x4), some (.inl (x5 + 1))]) rfl ?_
          refine gz_goto (pc := 48) (tgt := 16) dX11_greatestPart_48 (by decide) ?_
          exact ih x1 x2 x3 x4 (x5 + 1) h
        · replace h := gz_ifn (fun q => q c) h
          refine gz_iinc (pc := 42) dX11_greatestPart_42 (x := x4) (v := x4 + 1) rfl (by rw [show Int32.ofInt 1 = 1 by decide]) (by decide) rfl (loc2 := [some (.inr (.inr (ta1, oa1))), some (.inl x1), some (.inl x2), some (.inl x3), some (.inl (x4 + 1)), some (.inl x5)]) rfl ?_
          refine gz_iinc (pc := 45) dX11_greatestPart_45 (x := x5) (v := x5 + 1) rfl (by rw [show Int32.ofInt 1 = 1 by decide]) (by decide) rfl (loc2 := [some (.inr (.inr (ta1, oa1))), some (.inl x1), some (.inl x2), some (.inl x3), some (.inl (x4 + 1)), some (.inl (x5 + 1))]) rfl ?_
          refine gz_goto (pc := 48) (tgt := 16) dX11_greatestPart_48 (by decide) ?_
          exact ih x1 x2 x3 (x4 + 1) (x5 + 1) h
def f_X11_greatestPart_4 (φ : Nat) (ta1 : Nat) (oa1 : Nat) (na1 : Nat) (I : gzIT) : Nat → Int32 → Int32 → Int32 → Option Int32
  | 0, _, _, _ => none
  | k + 1, x1, x2, x3 => if 9 < x3 then (some x2) else (f_X11_greatestPart_16 φ ta1 oa1 na1 I (f_X11_greatestPart_4 φ ta1 oa1 na1 I k) φ x1 x2 x3 0 0)
set_option maxRecDepth 20000 in
theorem p_X11_greatestPart_4 {g : gzG} {d φ : Nat} {ta1 : Nat} {oa1 : Nat} {na1 : Nat} (va1 : gzOk ta1 oa1 gzN) (ka1 : gzKd oa1 = .inr (.int, na1)) {I : gzIT} {J : gzJT} {r : Int32} : ∀ (k : Nat) (x1 : Int32) (x2 : Int32) (x3 : Int32), f_X11_greatestPart_4 φ ta1 oa1 na1 I k x1 x2 x3 = some r → gP_X11_greatestPart_4 g ta1 oa1 na1 d r x1 x2 x3 I J := by
  intro k; induction k with
  | zero => intro x1 x2 x3 h; cases h
  | succ k ih =>
    intro x1 x2 x3 h
    unfold f_X11_greatestPart_4 at h
    unfold gP_X11_greatestPart_4
    refine gz_iload_n (pc := 4) dX11_greatestPart_4 rfl ?_
    refine gz_bipush (pc := 5) dX11_greatestPart_5 (v := 9) (by decide) ?_
    refine gz_ic_gt (pc := 7) (tgt := 64) dX11_greatestPart_7 (by decide) (fun c => ?_) (fun c => ?_)
    · replace h := gz_ifp c h
      refine gz_iload_n (pc := 64) dX11_greatestPart_64 rfl ?_
      cases h; exact gz_iret (pc := 65) dX11_greatestPart_65 rfl ⟨rfl, rfl⟩
    · replace h := gz_ifn c h
      refine gz_iconst (pc := 10) dX11_greatestPart_10 (v := 0) (by decide) ?_
      refine gz_istore (pc := 11) dX11_greatestPart_11 (by decide) rfl (loc2 := [some (.inr (.inr (ta1, oa1))), some (.inl x1), some (.inl x2), some (.inl x3), some (.inl 0), none]) rfl ?_
      refine gz_iconst (pc := 13) dX11_greatestPart_13 (v := 0) (by decide) ?_
      refine gz_istore (pc := 14) dX11_greatestPart_14 (by decide) rfl (loc2 := [some (.inr (.inr (ta1, oa1))), some (.inl x1), some (.inl x2), some (.inl x3), some (.inl 0), some (.inl 0)]) rfl ?_
      exact p_X11_greatestPart_16 va1 ka1 ih φ x1 x2 x3 0 0 h
def f_X11_greatestPart (φ : Nat) (ta1 : Nat) (oa1 : Nat) (na1 : Nat) (I : gzIT) (a2 : Int32) : Option Int32 := f_X11_greatestPart_4 φ ta1 oa1 na1 I φ a2 0 0
set_option maxRecDepth 20000 in
theorem c_X11_greatestPart {g : gzG} {d φ : Nat} {ta1 : Nat} {oa1 : Nat} {na1 : Nat} (va1 : gzOk ta1 oa1 gzN) (ka1 : gzKd oa1 = .inr (.int, na1)) {a2 : Int32} {I : gzIT} {J : gzJT} {r : Int32} (h : f_X11_greatestPart φ ta1 oa1 na1 I a2 = some r) : gzC g 0 (d + 1) mX11_greatestPart [.inr (.inr (ta1, oa1)), .inl a2] (gzN, gzR0, I, J) (gzE (.ok (some (.inl r))) (gzN, gzR0, I, J)) := by
  unfold f_X11_greatestPart at h
  refine gzC_of (by decide +kernel) (Nat.le_of_ble_eq_true rfl) (loc := [some (.inr (.inr (ta1, oa1))), some (.inl a2), none, none, none, none]) rfl ?_
  refine gz_iconst (pc := 0) dX11_greatestPart_0 (v := 0) (by decide) ?_
  refine gz_istore_n (pc := 1) dX11_greatestPart_1 (by decide) rfl (loc2 := [some (.inr (.inr (ta1, oa1))), some (.inl a2), some (.inl 0), none, none, none]) rfl ?_
  refine gz_iconst (pc := 2) dX11_greatestPart_2 (v := 0) (by decide) ?_
  refine gz_istore_n (pc := 3) dX11_greatestPart_3 (by decide) rfl (loc2 := [some (.inr (.inr (ta1, oa1))), some (.inl a2), some (.inl 0), some (.inl 0), none, none]) rfl ?_
  exact p_X11_greatestPart_4 va1 ka1 φ a2 0 0 h
/-! X11_ask: ask -/
def f_X11_ask (φ : Nat) (I : gzIT) (J : gzJT) : Option ((Except String Int32) × gzIT × gzJT) := Option.bind (f_X6_use I J) (fun v2 => Option.bind (f_X11_needCuts φ v2.1 v2.2.1 v2.2.2) (fun v4 => gzEx v4.1 (fun E => some (.error E, v4.2.1, v4.2.2)) (fun w6 => Option.bind (f_X8_fitting φ 0 v4.2.1 v2.1) (fun v8 => Option.bind (f_J6_bitCount_0f7a4 v8) (fun v10 => if 2 ≤ v10 then (Option.bind (f_X11_greatestPart φ 0 18 8 v4.2.1 v8) (fun v12 => Option.bind (f_X11_greatestPart φ 0 17 8 v4.2.1 v8) (fun v14 => some (.ok (if v14 ≤ v12 then (0 : Int32) else 1), v4.2.1, v4.2.2)))) else (some (.ok (-1), v4.2.1, v4.2.2)))))))
set_option maxRecDepth 20000 in
theorem c_X11_ask {g : gzG} {d φ : Nat} {I : gzIT} {J : gzJT} {r : (Except String Int32) × gzIT × gzJT} (h : f_X11_ask φ I J = some r) : gzC g 0 (d + 3) mX11_ask [.inr (.inr (0, 30))] (gzN, gzR0, I, J) (gzE (gzRI r.1) (gzN, gzR0, r.2.1, r.2.2)) := by
  unfold f_X11_ask at h
  refine gzC_of (by decide +kernel) (Nat.le_of_ble_eq_true rfl) (loc := [some (.inr (.inr (0, 30))), none, none]) rfl ?_
  have z_0_30 : gzOk 0 30 gzN := gzOk_of (by decide)
  have z_0_31 : gzOk 0 31 gzN := gzOk_of (by decide)
  have z_0_0 : gzOk 0 0 gzN := gzOk_of (by decide)
  have z_0_18 : gzOk 0 18 gzN := gzOk_of (by decide)
  have z_0_17 : gzOk 0 17 gzN := gzOk_of (by decide)
  refine gz_aload_n (pc := 0) dX11_ask_0 rfl ?_
  refine gr_X11_12 (pc := 1) dX11_ask_1 z_0_30 rfl ?_
  refine gz_V (zy := mX6_use) (zc := 0) (pc := 4) [] rfl dX11_ask_4 lkX11_343 MvX6_use rfl z_0_31 rfl rfl rfl (Or.inl rfl) (fun h => h) (by exact Nat.le_of_ble_eq_true rfl) ?_
  obtain ⟨v2, e1, h⟩ := gz_bd h
  refine gz_useI (c_X6_use e1) ?_
  refine gz_istore_n (pc := 7) dX11_ask_7 (by decide) rfl (loc2 := [some (.inr (.inr (0, 30))), some (.inl v2.1), none]) rfl ?_
  refine gz_aload_n (pc := 8) dX11_ask_8 rfl ?_
  refine gz_iload_n (pc := 9) dX11_ask_9 rfl ?_
  refine gz_V (zy := mX11_needCuts) (zc := 0) (pc := 10) [.inl v2.1] rfl dX11_ask_10 lkX11_346 MvX11_needCuts rfl z_0_30 rfl rfl rfl (Or.inl rfl) (fun h => h) (by exact Nat.le_of_ble_eq_true rfl) ?_
  obtain ⟨v4, e3, h⟩ := gz_bd h
  cases x5 : v4.1 with
  | error E => replace h := gz_exe x5 h; cases h; exact gz_useTV x5 (c_X11_needCuts e3) ⟨by simp [gzRI, gzRJ, gzRV], rfl⟩
  | ok w6 =>
    replace h := gz_exo x5 h
    refine gz_useOV x5 (c_X11_needCuts e3) ?_
    refine gz_aload_n (pc := 13) dX11_ask_13 rfl ?_
    refine gr_X11_42 (pc := 14) dX11_ask_14 z_0_30 rfl ?_
    refine gz_aload_n (pc := 17) dX11_ask_17 rfl ?_
    refine gr_X11_12 (pc := 18) dX11_ask_18 z_0_30 rfl ?_
    refine gz_iload_n (pc := 21) dX11_ask_21 rfl ?_
    refine gz_V (zy := mX8_fitting) (zc := 0) (pc := 22) [.inr (.inr (0, 31)), .inl v2.1] rfl dX11_ask_22 lkX11_349 MvX8_fitting rfl z_0_0 rfl rfl rfl (Or.inl rfl) (fun h => h) (by exact Nat.le_of_ble_eq_true rfl) ?_
    obtain ⟨v8, e7, h⟩ := gz_bd h
    refine gz_useI (c_X8_fitting (by decide) e7) ?_
    refine gz_istore_n (pc := 25) dX11_ask_25 (by decide) rfl (loc2 := [some (.inr (.inr (0, 30))), some (.inl v2.1), some (.inl v8)]) rfl ?_
    refine gz_iload_n (pc := 26) dX11_ask_26 rfl ?_
    refine gz_S (zy := mJ6_bitCount_0f7a4) (zc := 0) (pc := 27) [.inl v8] rfl dX11_ask_27 lkX11_324 MsJ6_bitCount_0f7a4 rfl (Or.inl rfl) (fun h => h) (by exact Nat.le_of_ble_eq_true rfl) ?_
    obtain ⟨v10, e9, h⟩ := gz_bd h
    refine gz_useI (c_J6_bitCount_0f7a4 e9) ?_
    refine gz_iconst (pc := 30) dX11_ask_30 (v := 2) (by decide) ?_
    refine gz_ic_ge (pc := 31) (tgt := 36) dX11_ask_31 (by decide) (fun c => ?_) (fun c => ?_)
    · replace h := gz_ifp c h
      refine gz_aload_n (pc := 36) dX11_ask_36 rfl ?_
      refine gr_X11_42 (pc := 37) dX11_ask_37 z_0_30 rfl ?_
      refine gr_X11_209 (pc := 40) dX11_ask_40 z_0_0 rfl ?_
      refine gz_iload_n (pc := 43) dX11_ask_43 rfl ?_
      refine gz_S (zy := mX11_greatestPart) (zc := 0) (pc := 44) [.inr (.inr (0, 18)), .inl v8] rfl dX11_ask_44 lkX11_356 MsX11_greatestPart rfl (Or.inl rfl) (fun h => h) (by exact Nat.le_of_ble_eq_true rfl) ?_
      obtain ⟨v12, e11, h⟩ := gz_bd h
      refine gz_useI (c_X11_greatestPart (gzOk_of (by decide)) rfl e11) ?_
      refine gz_aload_n (pc := 47) dX11_ask_47 rfl ?_
      refine gr_X11_42 (pc := 48) dX11_ask_48 z_0_30 rfl ?_
      refine gr_X11_206 (pc := 51) dX11_ask_51 z_0_0 rfl ?_
      refine gz_iload_n (pc := 54) dX11_ask_54 rfl ?_
      refine gz_S (zy := mX11_greatestPart) (zc := 0) (pc := 55) [.inr (.inr (0, 17)), .inl v8] rfl dX11_ask_55 lkX11_356 MsX11_greatestPart rfl (Or.inl rfl) (fun h => h) (by exact Nat.le_of_ble_eq_true rfl) ?_
      obtain ⟨v14, e13, h⟩ := gz_bd h
      refine gz_useI (c_X11_greatestPart (gzOk_of (by decide)) rfl e13) ?_
      have kj15 : gzX g 0 (d + 3) mX11_ask 66 [some (.inr (.inr (0, 30))), some (.inl v2.1), some (.inl v8)] ([.inl (if v14 ≤ v12 then (0 : Int32) else 1)]) (gzN, gzR0, v4.2.1, v4.2.2) 0 (gzE (gzRI r.1) (gzN, gzR0, r.2.1, r.2.2)) := by
        cases h; exact gz_iret (pc := 66) dX11_ask_66 rfl ⟨rfl, rfl⟩
      refine gz_ic_ge (pc := 58) (tgt := 65) dX11_ask_58 (by decide) (fun c => ?_) (fun c => ?_)
      · rw [if_pos c] at kj15
        refine gz_iconst (pc := 65) dX11_ask_65 (v := 0) (by decide) ?_
        exact kj15
      · rw [if_neg c] at kj15
        refine gz_iconst (pc := 61) dX11_ask_61 (v := 1) (by decide) ?_
        refine gz_goto (pc := 62) (tgt := 66) dX11_ask_62 (by decide) ?_
        exact kj15
    · replace h := gz_ifn c h
      refine gz_iconst (pc := 34) dX11_ask_34 (v := (-1)) (by decide) ?_
      cases h; exact gz_iret (pc := 35) dX11_ask_35 rfl ⟨rfl, rfl⟩
/-! X11_rota: rota -/
def gP_X11_rota_20 (g : gzG) (d : Nat) (r : Int32) (x1 : Int32) (x2 : Int32) (I : gzIT) (J : gzJT) : Prop := gzX g 0 (d + 3) mX11_rota 20 [some (.inr (.inr (0, 30))), some (.inl x1), some (.inl x2)] [] (gzN, gzR0, I, J) 0 (gzE (.ok (some (.inl r))) (gzN, gzR0, I, J))
def f_X11_rota_20 (φ : Nat) (I : gzIT) : Nat → Int32 → Int32 → Option Int32
  | 0, _, _ => none
  | k + 1, x1, x2 => if I 0 1 5 ≤ x2 then (some ((x1 + 1) / 2)) else (Option.bind (f_X1_quarrels φ 0 I x2) (fun v3 => if ¬ v3 = 0 then (f_X11_rota_20 φ I k x1 (x2 + 1)) else (f_X11_rota_20 φ I k (x1 + 1) (x2 + 1))))
set_option maxRecDepth 20000 in
theorem p_X11_rota_20 {g : gzG} {d φ : Nat} {I : gzIT} {J : gzJT} {r : Int32} : ∀ (k : Nat) (x1 : Int32) (x2 : Int32), f_X11_rota_20 φ I k x1 x2 = some r → gP_X11_rota_20 g d r x1 x2 I J := by
  intro k; induction k with
  | zero => intro x1 x2 h; cases h
  | succ k ih =>
    intro x1 x2 h
    unfold f_X11_rota_20 at h
    unfold gP_X11_rota_20
    have z_0_30 : gzOk 0 30 gzN := gzOk_of (by decide)
    have z_0_0 : gzOk 0 0 gzN := gzOk_of (by decide)
    have z_0_1 : gzOk 0 1 gzN := gzOk_of (by decide)
    have z_0_7 : gzOk 0 7 gzN := gzOk_of (by decide)
    refine gz_iload_n (pc := 20) dX11_rota_20 rfl ?_
    refine gz_aload_n (pc := 21) dX11_rota_21 rfl ?_
    refine gr_X11_42 (pc := 22) dX11_rota_22 z_0_30 rfl ?_
    refine gr_X11_131 (pc := 25) dX11_rota_25 z_0_0 rfl ?_
    refine gi_X11_310 (pc := 28) dX11_rota_28 (v := I 0 1 5) z_0_1 rfl rfl ?_
    refine gz_ic_ge (pc := 31) (tgt := 57) dX11_rota_31 (by decide) (fun c => ?_) (fun c => ?_)
    · replace h := gz_ifp c h
      refine gz_iload_n (pc := 57) dX11_rota_57 rfl ?_
      refine gz_iconst (pc := 58) dX11_rota_58 (v := 1) (by decide) ?_
      refine gz_iadd (pc := 59) dX11_rota_59  ?_
      refine gz_iconst (pc := 60) dX11_rota_60 (v := 2) (by decide) ?_
      refine gz_idiv (pc := 61) dX11_rota_61 (by decide) ?_
      cases h; exact gz_iret (pc := 62) dX11_rota_62 rfl ⟨rfl, rfl⟩
    · replace h := gz_ifn c h
      refine gz_aload_n (pc := 34) dX11_rota_34 rfl ?_
      refine gr_X11_42 (pc := 35) dX11_rota_35 z_0_30 rfl ?_
      refine gr_X11_150 (pc := 38) dX11_rota_38 z_0_0 rfl ?_
      refine gz_iload_n (pc := 41) dX11_rota_41 rfl ?_
      refine gz_V (zy := mX1_quarrels) (zc := 0) (pc := 42) [.inl x2] rfl dX11_rota_42 lkX11_360 MvX1_quarrels rfl z_0_7 rfl rfl rfl (Or.inl rfl) (fun h => h) (by exact Nat.le_of_ble_eq_true rfl) ?_
      obtain ⟨v3, e2, h⟩ := gz_bd h
      refine gz_useI (c_X1_quarrels (by decide) e2) ?_
      refine gz_if_ne (pc := 45) (tgt := 51) dX11_rota_45 (by decide) (fun c => ?_) (fun c => ?_)
      · replace h := gz_ifp c h
        refine gz_iinc (pc := 51) dX11_rota_51 (x := x2) (v := x2 + 1) rfl (by rw [show Int32.ofInt 1 = 1 by decide]) (by decide) rfl (loc2 := [some (.inr (.inr (0, 30))), some (.inl x1), some (.inl (x2 + 1))]) rfl ?_
        refine gz_goto (pc := 54) (tgt := 20) dX11_rota_54 (by decide) ?_
        exact ih x1 (x2 + 1) h
      · replace h := gz_ifn (fun q => q c) h
        refine gz_iinc (pc := 48) dX11_rota_48 (x := x1) (v := x1 + 1) rfl (by rw [show Int32.ofInt 1 = 1 by decide]) (by decide) rfl (loc2 := [some (.inr (.inr (0, 30))), some (.inl (x1 + 1)), some (.inl x2)]) rfl ?_
        refine gz_iinc (pc := 51) dX11_rota_51 (x := x2) (v := x2 + 1) rfl (by rw [show Int32.ofInt 1 = 1 by decide]) (by decide) rfl (loc2 := [some (.inr (.inr (0, 30))), some (.inl (x1 + 1)), some (.inl (x2 + 1))]) rfl ?_
        refine gz_goto (pc := 54) (tgt := 20) dX11_rota_54 (by decide) ?_
        exact ih (x1 + 1) (x2 + 1) h
def f_X11_rota (φ : Nat) (I : gzIT) : Option Int32 := if ¬ I 0 1 5 = 1 then (f_X11_rota_20 φ I φ 0 0) else (some (-1))
set_option maxRecDepth 20000 in
theorem c_X11_rota {g : gzG} {d φ : Nat} {I : gzIT} {J : gzJT} {r : Int32} (h : f_X11_rota φ I = some r) : gzC g 0 (d + 3) mX11_rota [.inr (.inr (0, 30))] (gzN, gzR0, I, J) (gzE (.ok (some (.inl r))) (gzN, gzR0, I, J)) := by
  unfold f_X11_rota at h
  refine gzC_of (by decide +kernel) (Nat.le_of_ble_eq_true rfl) (loc := [some (.inr (.inr (0, 30))), none, none]) rfl ?_
  have z_0_30 : gzOk 0 30 gzN := gzOk_of (by decide)
  have z_0_0 : gzOk 0 0 gzN := gzOk_of (by decide)
  have z_0_1 : gzOk 0 1 gzN := gzOk_of (by decide)
  refine gz_aload_n (pc := 0) dX11_rota_0 rfl ?_
  refine gr_X11_42 (pc := 1) dX11_rota_1 z_0_30 rfl ?_
  refine gr_X11_131 (pc := 4) dX11_rota_4 z_0_0 rfl ?_
  refine gi_X11_310 (pc := 7) dX11_rota_7 (v := I 0 1 5) z_0_1 rfl rfl ?_
  refine gz_iconst (pc := 10) dX11_rota_10 (v := 1) (by decide) ?_
  refine gz_ic_ne (pc := 11) (tgt := 16) dX11_rota_11 (by decide) (fun c => ?_) (fun c => ?_)
  · replace h := gz_ifp c h
    refine gz_iconst (pc := 16) dX11_rota_16 (v := 0) (by decide) ?_
    refine gz_istore_n (pc := 17) dX11_rota_17 (by decide) rfl (loc2 := [some (.inr (.inr (0, 30))), some (.inl 0), none]) rfl ?_
    refine gz_iconst (pc := 18) dX11_rota_18 (v := 0) (by decide) ?_
    refine gz_istore_n (pc := 19) dX11_rota_19 (by decide) rfl (loc2 := [some (.inr (.inr (0, 30))), some (.inl 0), some (.inl 0)]) rfl ?_
    exact p_X11_rota_20 φ 0 0 h
  · replace h := gz_ifn (fun q => q c) h
    refine gz_iconst (pc := 14) dX11_rota_14 (v := (-1)) (by decide) ?_
    cases h; exact gz_iret (pc := 15) dX11_rota_15 rfl ⟨rfl, rfl⟩
/-! X11_steps: steps -/
def f_X11_steps (φ : Nat) (a1 : Int32) (a2 : Int32) (I : gzIT) (J : gzJT) : Option ((Except String Int32) × gzIT × gzJT) := Option.bind (f_X11_needFamily a1 I J) (fun v2 => gzEx v2.1 (fun E => some (.error E, v2.2.1, v2.2.2)) (fun w4 => Option.bind (f_X11_needFamily a2 v2.2.1 v2.2.2) (fun v6 => gzEx v6.1 (fun E => some (.error E, v6.2.1, v6.2.2)) (fun w8 => Option.bind (f_X10_spin φ 0 0 v6.2.1 v6.2.2) (fun v10 => Option.bind (f_X10_distance φ v10.2.1 a1 a2) (fun v12 => some (.ok v12, v10.2.1, v10.2.2)))))))
set_option maxRecDepth 20000 in
theorem c_X11_steps {g : gzG} {d φ : Nat} {a1 : Int32} {a2 : Int32} {I : gzIT} {J : gzJT} {r : (Except String Int32) × gzIT × gzJT} (h : f_X11_steps φ a1 a2 I J = some r) : gzC g 0 (d + 3) mX11_steps [.inr (.inr (0, 30)), .inl a1, .inl a2] (gzN, gzR0, I, J) (gzE (gzRI r.1) (gzN, gzR0, r.2.1, r.2.2)) := by
  unfold f_X11_steps at h
  refine gzC_of (by decide +kernel) (Nat.le_of_ble_eq_true rfl) (loc := [some (.inr (.inr (0, 30))), some (.inl a1), some (.inl a2)]) rfl ?_
  have z_0_30 : gzOk 0 30 gzN := gzOk_of (by decide)
  have z_0_41 : gzOk 0 41 gzN := gzOk_of (by decide)
  refine gz_aload_n (pc := 0) dX11_steps_0 rfl ?_
  refine gz_iload_n (pc := 1) dX11_steps_1 rfl ?_
  refine gz_V (zy := mX11_needFamily) (zc := 0) (pc := 2) [.inl a1] rfl dX11_steps_2 lkX11_128 MvX11_needFamily rfl z_0_30 rfl rfl rfl (Or.inl rfl) (fun h => h) (by exact Nat.le_of_ble_eq_true rfl) ?_
  obtain ⟨v2, e1, h⟩ := gz_bd h
  cases x3 : v2.1 with
  | error E => replace h := gz_exe x3 h; cases h; exact gz_useTV x3 (c_X11_needFamily e1) ⟨by simp [gzRI, gzRJ, gzRV], rfl⟩
  | ok w4 =>
    replace h := gz_exo x3 h
    refine gz_useOV x3 (c_X11_needFamily e1) ?_
    refine gz_aload_n (pc := 5) dX11_steps_5 rfl ?_
    refine gz_iload_n (pc := 6) dX11_steps_6 rfl ?_
    refine gz_V (zy := mX11_needFamily) (zc := 0) (pc := 7) [.inl a2] rfl dX11_steps_7 lkX11_128 MvX11_needFamily rfl z_0_30 rfl rfl rfl (Or.inl rfl) (fun h => h) (by exact Nat.le_of_ble_eq_true rfl) ?_
    obtain ⟨v6, e5, h⟩ := gz_bd h
    cases x7 : v6.1 with
    | error E => replace h := gz_exe x7 h; cases h; exact gz_useTV x7 (c_X11_needFamily e5) ⟨by simp [gzRI, gzRJ, gzRV], rfl⟩
    | ok w8 =>
      replace h := gz_exo x7 h
      refine gz_useOV x7 (c_X11_needFamily e5) ?_
      refine gz_aload_n (pc := 10) dX11_steps_10 rfl ?_
      refine gr_X11_69 (pc := 11) dX11_steps_11 z_0_30 rfl ?_
      refine gz_aload_n (pc := 14) dX11_steps_14 rfl ?_
      refine gr_X11_42 (pc := 15) dX11_steps_15 z_0_30 rfl ?_
      refine gz_iconst (pc := 18) dX11_steps_18 (v := 0) (by decide) ?_
      refine gz_V (zy := mX10_spin) (zc := 0) (pc := 19) [.inr (.inr (0, 0)), .inl 0] rfl dX11_steps_19 lkX11_333 MvX10_spin rfl z_0_41 rfl rfl rfl (Or.inl rfl) (fun h => h) (by exact Nat.le_of_ble_eq_true rfl) ?_
      obtain ⟨v10, e9, h⟩ := gz_bd h
      refine gz_useV (c_X10_spin (by decide) e9) ?_
      refine gz_aload_n (pc := 22) dX11_steps_22 rfl ?_
      refine gr_X11_69 (pc := 23) dX11_steps_23 z_0_30 rfl ?_
      refine gz_iload_n (pc := 26) dX11_steps_26 rfl ?_
      refine gz_iload_n (pc := 27) dX11_steps_27 rfl ?_
      refine gz_V (zy := mX10_distance) (zc := 0) (pc := 28) [.inl a1, .inl a2] rfl dX11_steps_28 lkX11_364 MvX10_distance rfl z_0_41 rfl rfl rfl (Or.inl rfl) (fun h => h) (by exact Nat.le_of_ble_eq_true rfl) ?_
      obtain ⟨v12, e11, h⟩ := gz_bd h
      refine gz_useI (c_X10_distance e11) ?_
      cases h; exact gz_iret (pc := 31) dX11_steps_31 rfl ⟨rfl, rfl⟩
/-! X11_ring: ring -/
def f_X11_ring (φ : Nat) (a1 : Int32) (I : gzIT) (J : gzJT) : Option ((Except String Int32) × gzIT × gzJT) := Option.bind (f_X11_needFamily a1 I J) (fun v2 => gzEx v2.1 (fun E => some (.error E, v2.2.1, v2.2.2)) (fun w4 => Option.bind (f_X10_spin φ 0 0 v2.2.1 v2.2.2) (fun v6 => Option.bind (f_X10_comesBack φ v6.2.1 a1) (fun v8 => gzGz v8 (some (.ok v8, v6.2.1, v6.2.2))))))
set_option maxRecDepth 20000 in
theorem c_X11_ring {g : gzG} {d φ : Nat} {a1 : Int32} {I : gzIT} {J : gzJT} {r : (Except String Int32) × gzIT × gzJT} (h : f_X11_ring φ a1 I J = some r) : gzC g 0 (d + 4) mX11_ring [.inr (.inr (0, 30)), .inl a1] (gzN, gzR0, I, J) (gzE (gzRI r.1) (gzN, gzR0, r.2.1, r.2.2)) := by
  unfold f_X11_ring at h
  refine gzC_of (by decide +kernel) (Nat.le_of_ble_eq_true rfl) (loc := [some (.inr (.inr (0, 30))), some (.inl a1)]) rfl ?_
  have z_0_30 : gzOk 0 30 gzN := gzOk_of (by decide)
  have z_0_41 : gzOk 0 41 gzN := gzOk_of (by decide)
  refine gz_aload_n (pc := 0) dX11_ring_0 rfl ?_
  refine gz_iload_n (pc := 1) dX11_ring_1 rfl ?_
  refine gz_V (zy := mX11_needFamily) (zc := 0) (pc := 2) [.inl a1] rfl dX11_ring_2 lkX11_128 MvX11_needFamily rfl z_0_30 rfl rfl rfl (Or.inl rfl) (fun h => h) (by exact Nat.le_of_ble_eq_true rfl) ?_
  obtain ⟨v2, e1, h⟩ := gz_bd h
  cases x3 : v2.1 with
  | error E => replace h := gz_exe x3 h; cases h; exact gz_useTV x3 (c_X11_needFamily e1) ⟨by simp [gzRI, gzRJ, gzRV], rfl⟩
  | ok w4 =>
    replace h := gz_exo x3 h
    refine gz_useOV x3 (c_X11_needFamily e1) ?_
    refine gz_aload_n (pc := 5) dX11_ring_5 rfl ?_
    refine gr_X11_69 (pc := 6) dX11_ring_6 z_0_30 rfl ?_
    refine gz_aload_n (pc := 9) dX11_ring_9 rfl ?_
    refine gr_X11_42 (pc := 10) dX11_ring_10 z_0_30 rfl ?_
    refine gz_iconst (pc := 13) dX11_ring_13 (v := 0) (by decide) ?_
    refine gz_V (zy := mX10_spin) (zc := 0) (pc := 14) [.inr (.inr (0, 0)), .inl 0] rfl dX11_ring_14 lkX11_333 MvX10_spin rfl z_0_41 rfl rfl rfl (Or.inl rfl) (fun h => h) (by exact Nat.le_of_ble_eq_true rfl) ?_
    obtain ⟨v6, e5, h⟩ := gz_bd h
    refine gz_useV (c_X10_spin (by decide) e5) ?_
    refine gz_aload_n (pc := 17) dX11_ring_17 rfl ?_
    refine gr_X11_69 (pc := 18) dX11_ring_18 z_0_30 rfl ?_
    refine gz_iload_n (pc := 21) dX11_ring_21 rfl ?_
    refine gz_V (zy := mX10_comesBack) (zc := 0) (pc := 22) [.inl a1] rfl dX11_ring_22 lkX11_367 MvX10_comesBack rfl z_0_41 rfl rfl rfl (Or.inl rfl) (fun h => h) (by exact Nat.le_of_ble_eq_true rfl) ?_
    obtain ⟨v8, e7, h⟩ := gz_bd h
    refine gz_useI (c_X10_comesBack e7) ?_
    obtain ⟨b9, h⟩ := gz_gz h
    cases h; exact gz_zret (pc := 25) dX11_ring_25 rfl b9 ⟨rfl, rfl⟩
/-! X11_feud: feud -/
def f_X11_feud (φ : Nat) (I : gzIT) (J : gzJT) : Option (Int32 × gzIT × gzJT) := Option.bind (f_X10_spin φ 0 0 I J) (fun v2 => Option.bind (f_X10_greatestFeud φ v2.2.1) (fun v4 => some (v4, v2.2.1, v2.2.2)))
set_option maxRecDepth 20000 in
theorem c_X11_feud {g : gzG} {d φ : Nat} {I : gzIT} {J : gzJT} {r : Int32 × gzIT × gzJT} (h : f_X11_feud φ I J = some r) : gzC g 0 (d + 4) mX11_feud [.inr (.inr (0, 30))] (gzN, gzR0, I, J) (gzE (.ok (some (.inl r.1))) (gzN, gzR0, r.2.1, r.2.2)) := by
  unfold f_X11_feud at h
  refine gzC_of (by decide +kernel) (Nat.le_of_ble_eq_true rfl) (loc := [some (.inr (.inr (0, 30)))]) rfl ?_
  have z_0_30 : gzOk 0 30 gzN := gzOk_of (by decide)
  have z_0_41 : gzOk 0 41 gzN := gzOk_of (by decide)
  refine gz_aload_n (pc := 0) dX11_feud_0 rfl ?_
  refine gr_X11_69 (pc := 1) dX11_feud_1 z_0_30 rfl ?_
  refine gz_aload_n (pc := 4) dX11_feud_4 rfl ?_
  refine gr_X11_42 (pc := 5) dX11_feud_5 z_0_30 rfl ?_
  refine gz_iconst (pc := 8) dX11_feud_8 (v := 0) (by decide) ?_
  refine gz_V (zy := mX10_spin) (zc := 0) (pc := 9) [.inr (.inr (0, 0)), .inl 0] rfl dX11_feud_9 lkX11_333 MvX10_spin rfl z_0_41 rfl rfl rfl (Or.inl rfl) (fun h => h) (by exact Nat.le_of_ble_eq_true rfl) ?_
  obtain ⟨v2, e1, h⟩ := gz_bd h
  refine gz_useV (c_X10_spin (by decide) e1) ?_
  refine gz_aload_n (pc := 12) dX11_feud_12 rfl ?_
  refine gr_X11_69 (pc := 13) dX11_feud_13 z_0_30 rfl ?_
  refine gz_V (zy := mX10_greatestFeud) (zc := 0) (pc := 16) [] rfl dX11_feud_16 lkX11_370 MvX10_greatestFeud rfl z_0_41 rfl rfl rfl (Or.inl rfl) (fun h => h) (by exact Nat.le_of_ble_eq_true rfl) ?_
  obtain ⟨v4, e3, h⟩ := gz_bd h
  refine gz_useI (c_X10_greatestFeud e3) ?_
  cases h; exact gz_iret (pc := 19) dX11_feud_19 rfl ⟨rfl, rfl⟩
/-! X11_between: between -/
def gP_X11_between_4 (g : gzG) (d : Nat) (r : Int32 × gzIT × gzJT) (x1 : Int32) (x2 : Int32) (I : gzIT) (J : gzJT) : Prop := gzX g 0 (d + 3) mX11_between 4 [some (.inr (.inr (0, 30))), some (.inl x1), some (.inl x2)] [] (gzN, gzR0, I, J) 0 (gzE (.ok (some (.inl r.1))) (gzN, gzR0, r.2.1, r.2.2))
def f_X11_between_4 (φ : Nat) : Nat → Int32 → Int32 → gzIT → gzJT → Option (Int32 × gzIT × gzJT)
  | 0, _, _, _, _ => none
  | k + 1, x1, x2, I, J => if I 0 7 7 ≤ x2 then (some (x1, I, J)) else (Option.bind (f_X1_frozen 0 I x2) (fun v2 => if v2 = 0 then (f_X11_between_4 φ k x1 (x2 + 1) I J) else (Option.bind (f_X10_spin φ 0 ((1 : Int32) <<< (x2 &&& 31)) I J) (fun v4 => gzGd (x2) 10 (Option.bind (f_X10_distance φ v4.2.1 (v4.2.1 0 8 x2.toNatClampNeg) (v4.2.1 0 9 x2.toNatClampNeg)) (fun v7 => if ¬ v7 = (-1) then (f_X11_between_4 φ k x1 (x2 + 1) v4.2.1 v4.2.2) else (f_X11_between_4 φ k (x1 ||| ((1 : Int32) <<< (x2 &&& 31))) (x2 + 1) v4.2.1 v4.2.2)))))))
set_option maxRecDepth 20000 in
theorem p_X11_between_4 {g : gzG} {d φ : Nat} {r : Int32 × gzIT × gzJT} : ∀ (k : Nat) (x1 : Int32) (x2 : Int32) (I : gzIT) (J : gzJT), f_X11_between_4 φ k x1 x2 I J = some r → gP_X11_between_4 g d r x1 x2 I J := by
  intro k; induction k with
  | zero => intro x1 x2 I J h; cases h
  | succ k ih =>
    intro x1 x2 I J h
    unfold f_X11_between_4 at h
    unfold gP_X11_between_4
    have z_0_30 : gzOk 0 30 gzN := gzOk_of (by decide)
    have z_0_0 : gzOk 0 0 gzN := gzOk_of (by decide)
    have z_0_7 : gzOk 0 7 gzN := gzOk_of (by decide)
    have z_0_41 : gzOk 0 41 gzN := gzOk_of (by decide)
    have z_0_8 : gzOk 0 8 gzN := gzOk_of (by decide)
    have z_0_9 : gzOk 0 9 gzN := gzOk_of (by decide)
    refine gz_iload_n (pc := 4) dX11_between_4 rfl ?_
    refine gz_aload_n (pc := 5) dX11_between_5 rfl ?_
    refine gr_X11_42 (pc := 6) dX11_between_6 z_0_30 rfl ?_
    refine gr_X11_150 (pc := 9) dX11_between_9 z_0_0 rfl ?_
    refine gi_X11_242 (pc := 12) dX11_between_12 (v := I 0 7 7) z_0_7 rfl rfl ?_
    refine gz_ic_ge (pc := 15) (tgt := 93) dX11_between_15 (by decide) (fun c => ?_) (fun c => ?_)
    · replace h := gz_ifp c h
      refine gz_iload_n (pc := 93) dX11_between_93 rfl ?_
      cases h; exact gz_iret (pc := 94) dX11_between_94 rfl ⟨rfl, rfl⟩
    · replace h := gz_ifn c h
      refine gz_aload_n (pc := 18) dX11_between_18 rfl ?_
      refine gr_X11_42 (pc := 19) dX11_between_19 z_0_30 rfl ?_
      refine gr_X11_150 (pc := 22) dX11_between_22 z_0_0 rfl ?_
      refine gz_iload_n (pc := 25) dX11_between_25 rfl ?_
      refine gz_V (zy := mX1_frozen) (zc := 0) (pc := 26) [.inl x2] rfl dX11_between_26 lkX11_373 MvX1_frozen rfl z_0_7 rfl rfl rfl (Or.inl rfl) (fun h => h) (by exact Nat.le_of_ble_eq_true rfl) ?_
      obtain ⟨v2, e1, h⟩ := gz_bd h
      refine gz_useI (c_X1_frozen (by decide) e1) ?_
      refine gz_if_eq (pc := 29) (tgt := 87) dX11_between_29 (by decide) (fun c => ?_) (fun c => ?_)
      · replace h := gz_ifp c h
        refine gz_iinc (pc := 87) dX11_between_87 (x := x2) (v := x2 + 1) rfl (by rw [show Int32.ofInt 1 = 1 by decide]) (by decide) rfl (loc2 := [some (.inr (.inr (0, 30))), some (.inl x1), some (.inl (x2 + 1))]) rfl ?_
        refine gz_goto (pc := 90) (tgt := 4) dX11_between_90 (by decide) ?_
        exact ih x1 (x2 + 1) I J h
      · replace h := gz_ifn c h
        refine gz_aload_n (pc := 32) dX11_between_32 rfl ?_
        refine gr_X11_69 (pc := 33) dX11_between_33 z_0_30 rfl ?_
        refine gz_aload_n (pc := 36) dX11_between_36 rfl ?_
        refine gr_X11_42 (pc := 37) dX11_between_37 z_0_30 rfl ?_
        refine gz_iconst (pc := 40) dX11_between_40 (v := 1) (by decide) ?_
        refine gz_iload_n (pc := 41) dX11_between_41 rfl ?_
        refine gz_ishl (pc := 42) dX11_between_42  ?_
        refine gz_V (zy := mX10_spin) (zc := 0) (pc := 43) [.inr (.inr (0, 0)), .inl ((1 : Int32) <<< (x2 &&& 31))] rfl dX11_between_43 lkX11_333 MvX10_spin rfl z_0_41 rfl rfl rfl (Or.inl rfl) (fun h => h) (by exact Nat.le_of_ble_eq_true rfl) ?_
        obtain ⟨v4, e3, h⟩ := gz_bd h
        refine gz_useV (c_X10_spin (by decide) e3) ?_
        refine gz_aload_n (pc := 46) dX11_between_46 rfl ?_
        refine gr_X11_69 (pc := 47) dX11_between_47 z_0_30 rfl ?_
        refine gz_aload_n (pc := 50) dX11_between_50 rfl ?_
        refine gr_X11_42 (pc := 51) dX11_between_51 z_0_30 rfl ?_
        refine gr_X11_150 (pc := 54) dX11_between_54 z_0_0 rfl ?_
        refine gr_X11_174 (pc := 57) dX11_between_57 z_0_7 rfl ?_
        refine gz_iload_n (pc := 60) dX11_between_60 rfl ?_
        obtain ⟨b5, h⟩ := gz_gd h
        refine gz_iald2 (pc := 61) dX11_between_61 (k := x2.toNatClampNeg) (v := v4.2.1 0 8 x2.toNatClampNeg) z_0_8 rfl b5 rfl rfl ?_
        refine gz_aload_n (pc := 62) dX11_between_62 rfl ?_
        refine gr_X11_42 (pc := 63) dX11_between_63 z_0_30 rfl ?_
        refine gr_X11_150 (pc := 66) dX11_between_66 z_0_0 rfl ?_
        refine gr_X11_177 (pc := 69) dX11_between_69 z_0_7 rfl ?_
        refine gz_iload_n (pc := 72) dX11_between_72 rfl ?_
        refine gz_iald2 (pc := 73) dX11_between_73 (k := x2.toNatClampNeg) (v := v4.2.1 0 9 x2.toNatClampNeg) z_0_9 rfl b5 rfl rfl ?_
        refine gz_V (zy := mX10_distance) (zc := 0) (pc := 74) [.inl (v4.2.1 0 8 x2.toNatClampNeg), .inl (v4.2.1 0 9 x2.toNatClampNeg)] rfl dX11_between_74 lkX11_364 MvX10_distance rfl z_0_41 rfl rfl rfl (Or.inl rfl) (fun h => h) (by exact Nat.le_of_ble_eq_true rfl) ?_
        obtain ⟨v7, e6, h⟩ := gz_bd h
        refine gz_useI (c_X10_distance e6) ?_
        refine gz_iconst (pc := 77) dX11_between_77 (v := (-1)) (by decide) ?_
        refine gz_ic_ne (pc := 78) (tgt := 87) dX11_between_78 (by decide) (fun c => ?_) (fun c => ?_)
        · replace h := gz_ifp c h
          refine gz_iinc (pc := 87) dX11_between_87 (x := x2) (v := x2 + 1) rfl (by rw [show Int32.ofInt 1 = 1 by decide]) (by decide) rfl (loc2 := [some (.inr (.inr (0, 30))), some (.inl x1), some (.inl (x2 + 1))]) rfl ?_
          refine gz_goto (pc := 90) (tgt := 4) dX11_between_90 (by decide) ?_
          exact ih x1 (x2 + 1) v4.2.1 v4.2.2 h
        · replace h := gz_ifn (fun q => q c) h
          refine gz_iload_n (pc := 81) dX11_between_81 rfl ?_
          refine gz_iconst (pc := 82) dX11_between_82 (v := 1) (by decide) ?_
          refine gz_iload_n (pc := 83) dX11_between_83 rfl ?_
          refine gz_ishl (pc := 84) dX11_between_84  ?_
          refine gz_ior (pc := 85) dX11_between_85  ?_
          refine gz_istore_n (pc := 86) dX11_between_86 (by decide) rfl (loc2 := [some (.inr (.inr (0, 30))), some (.inl (x1 ||| ((1 : Int32) <<< (x2 &&& 31)))), some (.inl x2)]) rfl ?_
          refine gz_iinc (pc := 87) dX11_between_87 (x := x2) (v := x2 + 1) rfl (by rw [show Int32.ofInt 1 = 1 by decide]) (by decide) rfl (loc2 := [some (.inr (.inr (0, 30))), some (.inl (x1 ||| ((1 : Int32) <<< (x2 &&& 31)))), some (.inl (x2 + 1))]) rfl ?_
          refine gz_goto (pc := 90) (tgt := 4) dX11_between_90 (by decide) ?_
          exact ih (x1 ||| ((1 : Int32) <<< (x2 &&& 31))) (x2 + 1) v4.2.1 v4.2.2 h
def f_X11_between (φ : Nat) (I : gzIT) (J : gzJT) : Option (Int32 × gzIT × gzJT) := f_X11_between_4 φ φ 0 0 I J
set_option maxRecDepth 20000 in
theorem c_X11_between {g : gzG} {d φ : Nat} {I : gzIT} {J : gzJT} {r : Int32 × gzIT × gzJT} (h : f_X11_between φ I J = some r) : gzC g 0 (d + 3) mX11_between [.inr (.inr (0, 30))] (gzN, gzR0, I, J) (gzE (.ok (some (.inl r.1))) (gzN, gzR0, r.2.1, r.2.2)) := by
  unfold f_X11_between at h
  refine gzC_of (by decide +kernel) (Nat.le_of_ble_eq_true rfl) (loc := [some (.inr (.inr (0, 30))), none, none]) rfl ?_
  refine gz_iconst (pc := 0) dX11_between_0 (v := 0) (by decide) ?_
  refine gz_istore_n (pc := 1) dX11_between_1 (by decide) rfl (loc2 := [some (.inr (.inr (0, 30))), some (.inl 0), none]) rfl ?_
  refine gz_iconst (pc := 2) dX11_between_2 (v := 0) (by decide) ?_
  refine gz_istore_n (pc := 3) dX11_between_3 (by decide) rfl (loc2 := [some (.inr (.inr (0, 30))), some (.inl 0), some (.inl 0)]) rfl ?_
  exact p_X11_between_4 φ 0 0 I J h
/-! X11_kisses: kisses -/
def gP_X11_kisses_10 (g : gzG) (d : Nat) (r : (Except String Int32) × gzIT × gzJT) (x1 : Int32) (I : gzIT) (J : gzJT) : Prop := gzX g 0 (d + 13) mX11_kisses 10 [some (.inr (.inr (0, 30))), some (.inl x1)] [] (gzN, gzR0, I, J) 0 (gzE (gzRI r.1) (gzN, gzR0, r.2.1, r.2.2))
def f_X11_kisses_10 (φ : Nat) (x1 : Int32) (I : gzIT) (J : gzJT) : Option ((Except String Int32) × gzIT × gzJT) := Option.bind (f_X10_spin φ 0 0 I J) (fun v6 => Option.bind (f_X10_findPairs φ 0 v6.2.1 v6.2.2) (fun v8 => if ¬ x1 = (-1) then (gzGd (x1) 6 (some (.ok (v8.2.1 0 45 x1.toNatClampNeg), v8.2.1, v8.2.2))) else (some (.ok (v8.2.1 0 41 6), v8.2.1, v8.2.2))))
set_option maxRecDepth 20000 in
theorem p_X11_kisses_10 {g : gzG} {d φ : Nat} {r : (Except String Int32) × gzIT × gzJT} (x1 : Int32) (I : gzIT) (J : gzJT) (h : f_X11_kisses_10 φ x1 I J = some r) : gP_X11_kisses_10 g d r x1 I J := by
  unfold f_X11_kisses_10 at h
  unfold gP_X11_kisses_10
  have z_0_30 : gzOk 0 30 gzN := gzOk_of (by decide)
  have z_0_41 : gzOk 0 41 gzN := gzOk_of (by decide)
  have z_0_0 : gzOk 0 0 gzN := gzOk_of (by decide)
  have z_0_45 : gzOk 0 45 gzN := gzOk_of (by decide)
  refine gz_aload_n (pc := 10) dX11_kisses_10 rfl ?_
  refine gr_X11_69 (pc := 11) dX11_kisses_11 z_0_30 rfl ?_
  refine gz_aload_n (pc := 14) dX11_kisses_14 rfl ?_
  refine gr_X11_42 (pc := 15) dX11_kisses_15 z_0_30 rfl ?_
  refine gz_iconst (pc := 18) dX11_kisses_18 (v := 0) (by decide) ?_
  refine gz_V (zy := mX10_spin) (zc := 0) (pc := 19) [.inr (.inr (0, 0)), .inl 0] rfl dX11_kisses_19 lkX11_333 MvX10_spin rfl z_0_41 rfl rfl rfl (Or.inl rfl) (fun h => h) (by exact Nat.le_of_ble_eq_true rfl) ?_
  obtain ⟨v6, e5, h⟩ := gz_bd h
  refine gz_useV (c_X10_spin (by decide) e5) ?_
  refine gz_aload_n (pc := 22) dX11_kisses_22 rfl ?_
  refine gr_X11_69 (pc := 23) dX11_kisses_23 z_0_30 rfl ?_
  refine gz_aload_n (pc := 26) dX11_kisses_26 rfl ?_
  refine gr_X11_42 (pc := 27) dX11_kisses_27 z_0_30 rfl ?_
  refine gr_X11_131 (pc := 30) dX11_kisses_30 z_0_0 rfl ?_
  refine gz_V (zy := mX10_findPairs) (zc := 0) (pc := 33) [.inr (.inr (0, 1))] rfl dX11_kisses_33 lkX11_376 MvX10_findPairs rfl z_0_41 rfl rfl rfl (Or.inl rfl) (fun h => h) (by exact Nat.le_of_ble_eq_true rfl) ?_
  obtain ⟨v8, e7, h⟩ := gz_bd h
  refine gz_useV (c_X10_findPairs (by decide) e7) ?_
  refine gz_iload_n (pc := 36) dX11_kisses_36 rfl ?_
  refine gz_iconst (pc := 37) dX11_kisses_37 (v := (-1)) (by decide) ?_
  refine gz_ic_ne (pc := 38) (tgt := 51) dX11_kisses_38 (by decide) (fun c => ?_) (fun c => ?_)
  · replace h := gz_ifp c h
    refine gz_aload_n (pc := 51) dX11_kisses_51 rfl ?_
    refine gr_X11_69 (pc := 52) dX11_kisses_52 z_0_30 rfl ?_
    refine gr_X11_383 (pc := 55) dX11_kisses_55 z_0_41 rfl ?_
    refine gz_iload_n (pc := 58) dX11_kisses_58 rfl ?_
    obtain ⟨b9, h⟩ := gz_gd h
    refine gz_iald2 (pc := 59) dX11_kisses_59 (k := x1.toNatClampNeg) (v := v8.2.1 0 45 x1.toNatClampNeg) z_0_45 rfl b9 rfl rfl ?_
    cases h; exact gz_iret (pc := 60) dX11_kisses_60 rfl ⟨rfl, rfl⟩
  · replace h := gz_ifn (fun q => q c) h
    refine gz_aload_n (pc := 41) dX11_kisses_41 rfl ?_
    refine gr_X11_69 (pc := 42) dX11_kisses_42 z_0_30 rfl ?_
    refine gi_X11_380 (pc := 45) dX11_kisses_45 (v := v8.2.1 0 41 6) z_0_41 rfl rfl ?_
    refine gz_goto (pc := 48) (tgt := 60) dX11_kisses_48 (by decide) ?_
    cases h; exact gz_iret (pc := 60) dX11_kisses_60 rfl ⟨rfl, rfl⟩
def f_X11_kisses (φ : Nat) (a1 : Int32) (I : gzIT) (J : gzJT) : Option ((Except String Int32) × gzIT × gzJT) := if a1 = (-1) then (f_X11_kisses_10 φ a1 I J) else (Option.bind (f_X11_needFamily a1 I J) (fun v2 => gzEx v2.1 (fun E => some (.error E, v2.2.1, v2.2.2)) (fun w4 => f_X11_kisses_10 φ a1 v2.2.1 v2.2.2)))
set_option maxRecDepth 20000 in
theorem c_X11_kisses {g : gzG} {d φ : Nat} {a1 : Int32} {I : gzIT} {J : gzJT} {r : (Except String Int32) × gzIT × gzJT} (h : f_X11_kisses φ a1 I J = some r) : gzC g 0 (d + 13) mX11_kisses [.inr (.inr (0, 30)), .inl a1] (gzN, gzR0, I, J) (gzE (gzRI r.1) (gzN, gzR0, r.2.1, r.2.2)) := by
  unfold f_X11_kisses at h
  refine gzC_of (by decide +kernel) (Nat.le_of_ble_eq_true rfl) (loc := [some (.inr (.inr (0, 30))), some (.inl a1)]) rfl ?_
  have z_0_30 : gzOk 0 30 gzN := gzOk_of (by decide)
  refine gz_iload_n (pc := 0) dX11_kisses_0 rfl ?_
  refine gz_iconst (pc := 1) dX11_kisses_1 (v := (-1)) (by decide) ?_
  refine gz_ic_eq (pc := 2) (tgt := 10) dX11_kisses_2 (by decide) (fun c => ?_) (fun c => ?_)
  · replace h := gz_ifp c h
    exact p_X11_kisses_10 a1 I J h
  · replace h := gz_ifn c h
    refine gz_aload_n (pc := 5) dX11_kisses_5 rfl ?_
    refine gz_iload_n (pc := 6) dX11_kisses_6 rfl ?_
    refine gz_V (zy := mX11_needFamily) (zc := 0) (pc := 7) [.inl a1] rfl dX11_kisses_7 lkX11_128 MvX11_needFamily rfl z_0_30 rfl rfl rfl (Or.inl rfl) (fun h => h) (by exact Nat.le_of_ble_eq_true rfl) ?_
    obtain ⟨v2, e1, h⟩ := gz_bd h
    cases x3 : v2.1 with
    | error E => replace h := gz_exe x3 h; cases h; exact gz_useTV x3 (c_X11_needFamily e1) ⟨by simp [gzRI, gzRJ, gzRV], rfl⟩
    | ok w4 =>
      replace h := gz_exo x3 h
      refine gz_useOV x3 (c_X11_needFamily e1) ?_
      exact p_X11_kisses_10 a1 v2.2.1 v2.2.2 h
/-! X11_shares: shares -/
def f_X11_shares (φ : Nat) (a1 : Int32) (a2 : Int32) (I : gzIT) (J : gzJT) : Option ((Except String Int32) × gzIT × gzJT) := Option.bind (f_X11_needFamily a1 I J) (fun v2 => gzEx v2.1 (fun E => some (.error E, v2.2.1, v2.2.2)) (fun w4 => Option.bind (f_X11_needNumber a2 0 999 v2.2.1 v2.2.2) (fun v6 => gzEx v6.1 (fun E => some (.error E, v6.2.1, v6.2.2)) (fun w8 => Option.bind (f_X0_shareOut φ 0 a1 a2 v6.2.1 v6.2.2) (fun v10 => some (.ok v10.1, v10.2.1, v10.2.2))))))
set_option maxRecDepth 20000 in
theorem c_X11_shares {g : gzG} {d φ : Nat} {a1 : Int32} {a2 : Int32} {I : gzIT} {J : gzJT} {r : (Except String Int32) × gzIT × gzJT} (h : f_X11_shares φ a1 a2 I J = some r) : gzC g 0 (d + 2) mX11_shares [.inr (.inr (0, 30)), .inl a1, .inl a2] (gzN, gzR0, I, J) (gzE (gzRI r.1) (gzN, gzR0, r.2.1, r.2.2)) := by
  unfold f_X11_shares at h
  refine gzC_of (by decide +kernel) (Nat.le_of_ble_eq_true rfl) (loc := [some (.inr (.inr (0, 30))), some (.inl a1), some (.inl a2)]) rfl ?_
  have z_0_30 : gzOk 0 30 gzN := gzOk_of (by decide)
  have z_0_0 : gzOk 0 0 gzN := gzOk_of (by decide)
  have z_0_1 : gzOk 0 1 gzN := gzOk_of (by decide)
  refine gz_aload_n (pc := 0) dX11_shares_0 rfl ?_
  refine gz_iload_n (pc := 1) dX11_shares_1 rfl ?_
  refine gz_V (zy := mX11_needFamily) (zc := 0) (pc := 2) [.inl a1] rfl dX11_shares_2 lkX11_128 MvX11_needFamily rfl z_0_30 rfl rfl rfl (Or.inl rfl) (fun h => h) (by exact Nat.le_of_ble_eq_true rfl) ?_
  obtain ⟨v2, e1, h⟩ := gz_bd h
  cases x3 : v2.1 with
  | error E => replace h := gz_exe x3 h; cases h; exact gz_useTV x3 (c_X11_needFamily e1) ⟨by simp [gzRI, gzRJ, gzRV], rfl⟩
  | ok w4 =>
    replace h := gz_exo x3 h
    refine gz_useOV x3 (c_X11_needFamily e1) ?_
    refine gz_aload_n (pc := 5) dX11_shares_5 rfl ?_
    refine gz_iload_n (pc := 6) dX11_shares_6 rfl ?_
    refine gz_iconst (pc := 7) dX11_shares_7 (v := 0) (by decide) ?_
    refine gz_sipush (pc := 8) dX11_shares_8 (v := 999) (by decide) ?_
    refine gz_V (zy := mX11_needNumber) (zc := 0) (pc := 11) [.inl a2, .inl 0, .inl 999] rfl dX11_shares_11 lkX11_223 MvX11_needNumber rfl z_0_30 rfl rfl rfl (Or.inl rfl) (fun h => h) (by exact Nat.le_of_ble_eq_true rfl) ?_
    obtain ⟨v6, e5, h⟩ := gz_bd h
    cases x7 : v6.1 with
    | error E => replace h := gz_exe x7 h; cases h; exact gz_useTV x7 (c_X11_needNumber e5) ⟨by simp [gzRI, gzRJ, gzRV], rfl⟩
    | ok w8 =>
      replace h := gz_exo x7 h
      refine gz_useOV x7 (c_X11_needNumber e5) ?_
      refine gz_aload_n (pc := 14) dX11_shares_14 rfl ?_
      refine gr_X11_42 (pc := 15) dX11_shares_15 z_0_30 rfl ?_
      refine gr_X11_131 (pc := 18) dX11_shares_18 z_0_0 rfl ?_
      refine gz_iload_n (pc := 21) dX11_shares_21 rfl ?_
      refine gz_iload_n (pc := 22) dX11_shares_22 rfl ?_
      refine gz_V (zy := mX0_shareOut) (zc := 0) (pc := 23) [.inl a1, .inl a2] rfl dX11_shares_23 lkX11_386 MvX0_shareOut rfl z_0_1 rfl rfl rfl (Or.inl rfl) (fun h => h) (by exact Nat.le_of_ble_eq_true rfl) ?_
      obtain ⟨v10, e9, h⟩ := gz_bd h
      refine gz_useI (c_X0_shareOut (by decide) e9) ?_
      cases h; exact gz_iret (pc := 26) dX11_shares_26 rfl ⟨rfl, rfl⟩
/-! X11_swap: swap -/
def f_X11_swap (a1 : Int32) (a2 : Int32) (I : gzIT) (J : gzJT) : Option ((Except String Int32) × gzIT × gzJT) := Option.bind (f_X11_needFamily a1 I J) (fun v2 => gzEx v2.1 (fun E => some (.error E, v2.2.1, v2.2.2)) (fun w4 => Option.bind (f_X11_needFamily a2 v2.2.1 v2.2.2) (fun v6 => gzEx v6.1 (fun E => some (.error E, v6.2.1, v6.2.2)) (fun w8 => Option.bind (f_X11_needTwo a1 a2 v6.2.1 v6.2.2) (fun v10 => gzEx v10.1 (fun E => some (.error E, v10.2.1, v10.2.2)) (fun w12 => Option.bind (f_X0_likes 0 v10.2.1 a1 a2) (fun v14 => if v14 = 0 then (some (.ok 0, v10.2.1, v10.2.2)) else (Option.bind (f_X0_likes 0 v10.2.1 a2 a1) (fun v16 => if v16 = 0 then (some (.ok 0, v10.2.1, v10.2.2)) else (some (.ok 1, v10.2.1, v10.2.2)))))))))))
set_option maxRecDepth 20000 in
theorem c_X11_swap {g : gzG} {d : Nat} {a1 : Int32} {a2 : Int32} {I : gzIT} {J : gzJT} {r : (Except String Int32) × gzIT × gzJT} (h : f_X11_swap a1 a2 I J = some r) : gzC g 0 (d + 3) mX11_swap [.inr (.inr (0, 30)), .inl a1, .inl a2] (gzN, gzR0, I, J) (gzE (gzRI r.1) (gzN, gzR0, r.2.1, r.2.2)) := by
  unfold f_X11_swap at h
  refine gzC_of (by decide +kernel) (Nat.le_of_ble_eq_true rfl) (loc := [some (.inr (.inr (0, 30))), some (.inl a1), some (.inl a2)]) rfl ?_
  have z_0_30 : gzOk 0 30 gzN := gzOk_of (by decide)
  have z_0_0 : gzOk 0 0 gzN := gzOk_of (by decide)
  have z_0_1 : gzOk 0 1 gzN := gzOk_of (by decide)
  refine gz_aload_n (pc := 0) dX11_swap_0 rfl ?_
  refine gz_iload_n (pc := 1) dX11_swap_1 rfl ?_
  refine gz_V (zy := mX11_needFamily) (zc := 0) (pc := 2) [.inl a1] rfl dX11_swap_2 lkX11_128 MvX11_needFamily rfl z_0_30 rfl rfl rfl (Or.inl rfl) (fun h => h) (by exact Nat.le_of_ble_eq_true rfl) ?_
  obtain ⟨v2, e1, h⟩ := gz_bd h
  cases x3 : v2.1 with
  | error E => replace h := gz_exe x3 h; cases h; exact gz_useTV x3 (c_X11_needFamily e1) ⟨by simp [gzRI, gzRJ, gzRV], rfl⟩
  | ok w4 =>
    replace h := gz_exo x3 h
    refine gz_useOV x3 (c_X11_needFamily e1) ?_
    refine gz_aload_n (pc := 5) dX11_swap_5 rfl ?_
    refine gz_iload_n (pc := 6) dX11_swap_6 rfl ?_
    refine gz_V (zy := mX11_needFamily) (zc := 0) (pc := 7) [.inl a2] rfl dX11_swap_7 lkX11_128 MvX11_needFamily rfl z_0_30 rfl rfl rfl (Or.inl rfl) (fun h => h) (by exact Nat.le_of_ble_eq_true rfl) ?_
    obtain ⟨v6, e5, h⟩ := gz_bd h
    cases x7 : v6.1 with
    | error E => replace h := gz_exe x7 h; cases h; exact gz_useTV x7 (c_X11_needFamily e5) ⟨by simp [gzRI, gzRJ, gzRV], rfl⟩
    | ok w8 =>
      replace h := gz_exo x7 h
      refine gz_useOV x7 (c_X11_needFamily e5) ?_
      refine gz_aload_n (pc := 10) dX11_swap_10 rfl ?_
      refine gz_iload_n (pc := 11) dX11_swap_11 rfl ?_
      refine gz_iload_n (pc := 12) dX11_swap_12 rfl ?_
      refine gz_V (zy := mX11_needTwo) (zc := 0) (pc := 13) [.inl a1, .inl a2] rfl dX11_swap_13 lkX11_234 MvX11_needTwo rfl z_0_30 rfl rfl rfl (Or.inl rfl) (fun h => h) (by exact Nat.le_of_ble_eq_true rfl) ?_
      obtain ⟨v10, e9, h⟩ := gz_bd h
      cases x11 : v10.1 with
      | error E => replace h := gz_exe x11 h; cases h; exact gz_useTV x11 (c_X11_needTwo e9) ⟨by simp [gzRI, gzRJ, gzRV], rfl⟩
      | ok w12 =>
        replace h := gz_exo x11 h
        refine gz_useOV x11 (c_X11_needTwo e9) ?_
        refine gz_aload_n (pc := 16) dX11_swap_16 rfl ?_
        refine gr_X11_42 (pc := 17) dX11_swap_17 z_0_30 rfl ?_
        refine gr_X11_131 (pc := 20) dX11_swap_20 z_0_0 rfl ?_
        refine gz_iload_n (pc := 23) dX11_swap_23 rfl ?_
        refine gz_iload_n (pc := 24) dX11_swap_24 rfl ?_
        refine gz_V (zy := mX0_likes) (zc := 0) (pc := 25) [.inl a1, .inl a2] rfl dX11_swap_25 lkX11_389 MvX0_likes rfl z_0_1 rfl rfl rfl (Or.inl rfl) (fun h => h) (by exact Nat.le_of_ble_eq_true rfl) ?_
        obtain ⟨v14, e13, h⟩ := gz_bd h
        refine gz_useI (c_X0_likes (by decide) e13) ?_
        refine gz_if_eq (pc := 28) (tgt := 50) dX11_swap_28 (by decide) (fun c => ?_) (fun c => ?_)
        · replace h := gz_ifp c h
          refine gz_iconst (pc := 50) dX11_swap_50 (v := 0) (by decide) ?_
          cases h; exact gz_zret (pc := 51) dX11_swap_51 rfl (by decide) ⟨rfl, rfl⟩
        · replace h := gz_ifn c h
          refine gz_aload_n (pc := 31) dX11_swap_31 rfl ?_
          refine gr_X11_42 (pc := 32) dX11_swap_32 z_0_30 rfl ?_
          refine gr_X11_131 (pc := 35) dX11_swap_35 z_0_0 rfl ?_
          refine gz_iload_n (pc := 38) dX11_swap_38 rfl ?_
          refine gz_iload_n (pc := 39) dX11_swap_39 rfl ?_
          refine gz_V (zy := mX0_likes) (zc := 0) (pc := 40) [.inl a2, .inl a1] rfl dX11_swap_40 lkX11_389 MvX0_likes rfl z_0_1 rfl rfl rfl (Or.inl rfl) (fun h => h) (by exact Nat.le_of_ble_eq_true rfl) ?_
          obtain ⟨v16, e15, h⟩ := gz_bd h
          refine gz_useI (c_X0_likes (by decide) e15) ?_
          refine gz_if_eq (pc := 43) (tgt := 50) dX11_swap_43 (by decide) (fun c => ?_) (fun c => ?_)
          · replace h := gz_ifp c h
            refine gz_iconst (pc := 50) dX11_swap_50 (v := 0) (by decide) ?_
            cases h; exact gz_zret (pc := 51) dX11_swap_51 rfl (by decide) ⟨rfl, rfl⟩
          · replace h := gz_ifn c h
            refine gz_iconst (pc := 46) dX11_swap_46 (v := 1) (by decide) ?_
            refine gz_goto (pc := 47) (tgt := 51) dX11_swap_47 (by decide) ?_
            cases h; exact gz_zret (pc := 51) dX11_swap_51 rfl (by decide) ⟨rfl, rfl⟩
/-! X11_rests: rests -/
def f_X11_rests (φ : Nat) (a1 : Int32) (I : gzIT) (J : gzJT) : Option ((Except String Int32) × gzIT × gzJT) := Option.bind (f_X11_needGrudge a1 I J) (fun v2 => gzEx v2.1 (fun E => some (.error E, v2.2.1, v2.2.2)) (fun w4 => Option.bind (f_X1_frozen 0 v2.2.1 a1) (fun v6 => if ¬ v6 = 0 then (Option.bind (f_X8_restsOf φ 0 v2.2.1 a1) (fun v8 => some (.ok v8, v2.2.1, v2.2.2))) else (some (.ok (-1), v2.2.1, v2.2.2)))))
set_option maxRecDepth 20000 in
theorem c_X11_rests {g : gzG} {d φ : Nat} {a1 : Int32} {I : gzIT} {J : gzJT} {r : (Except String Int32) × gzIT × gzJT} (h : f_X11_rests φ a1 I J = some r) : gzC g 0 (d + 3) mX11_rests [.inr (.inr (0, 30)), .inl a1] (gzN, gzR0, I, J) (gzE (gzRI r.1) (gzN, gzR0, r.2.1, r.2.2)) := by
  unfold f_X11_rests at h
  refine gzC_of (by decide +kernel) (Nat.le_of_ble_eq_true rfl) (loc := [some (.inr (.inr (0, 30))), some (.inl a1)]) rfl ?_
  have z_0_30 : gzOk 0 30 gzN := gzOk_of (by decide)
  have z_0_0 : gzOk 0 0 gzN := gzOk_of (by decide)
  have z_0_7 : gzOk 0 7 gzN := gzOk_of (by decide)
  refine gz_aload_n (pc := 0) dX11_rests_0 rfl ?_
  refine gz_iload_n (pc := 1) dX11_rests_1 rfl ?_
  refine gz_V (zy := mX11_needGrudge) (zc := 0) (pc := 2) [.inl a1] rfl dX11_rests_2 lkX11_171 MvX11_needGrudge rfl z_0_30 rfl rfl rfl (Or.inl rfl) (fun h => h) (by exact Nat.le_of_ble_eq_true rfl) ?_
  obtain ⟨v2, e1, h⟩ := gz_bd h
  cases x3 : v2.1 with
  | error E => replace h := gz_exe x3 h; cases h; exact gz_useTV x3 (c_X11_needGrudge e1) ⟨by simp [gzRI, gzRJ, gzRV], rfl⟩
  | ok w4 =>
    replace h := gz_exo x3 h
    refine gz_useOV x3 (c_X11_needGrudge e1) ?_
    refine gz_aload_n (pc := 5) dX11_rests_5 rfl ?_
    refine gr_X11_42 (pc := 6) dX11_rests_6 z_0_30 rfl ?_
    refine gr_X11_150 (pc := 9) dX11_rests_9 z_0_0 rfl ?_
    refine gz_iload_n (pc := 12) dX11_rests_12 rfl ?_
    refine gz_V (zy := mX1_frozen) (zc := 0) (pc := 13) [.inl a1] rfl dX11_rests_13 lkX11_373 MvX1_frozen rfl z_0_7 rfl rfl rfl (Or.inl rfl) (fun h => h) (by exact Nat.le_of_ble_eq_true rfl) ?_
    obtain ⟨v6, e5, h⟩ := gz_bd h
    refine gz_useI (c_X1_frozen (by decide) e5) ?_
    refine gz_if_ne (pc := 16) (tgt := 21) dX11_rests_16 (by decide) (fun c => ?_) (fun c => ?_)
    · replace h := gz_ifp c h
      refine gz_aload_n (pc := 21) dX11_rests_21 rfl ?_
      refine gr_X11_42 (pc := 22) dX11_rests_22 z_0_30 rfl ?_
      refine gz_iload_n (pc := 25) dX11_rests_25 rfl ?_
      refine gz_V (zy := mX8_restsOf) (zc := 0) (pc := 26) [.inl a1] rfl dX11_rests_26 lkX11_392 MvX8_restsOf rfl z_0_0 rfl rfl rfl (Or.inl rfl) (fun h => h) (by exact Nat.le_of_ble_eq_true rfl) ?_
      obtain ⟨v8, e7, h⟩ := gz_bd h
      refine gz_useI (c_X8_restsOf (by decide) e7) ?_
      cases h; exact gz_iret (pc := 29) dX11_rests_29 rfl ⟨rfl, rfl⟩
    · replace h := gz_ifn (fun q => q c) h
      refine gz_iconst (pc := 19) dX11_rests_19 (v := (-1)) (by decide) ?_
      cases h; exact gz_iret (pc := 20) dX11_rests_20 rfl ⟨rfl, rfl⟩
/-! X11_power: power -/
def gP_X11_power_5 (g : gzG) (d : Nat) (r : Int64) (x0 : Int64) (x2 : Int32) (x3 : Int64) (x5 : Int32) (I : gzIT) (J : gzJT) : Prop := gzX g 0 d mX11_power 5 [some (.inr (.inl x0)), none, some (.inl x2), some (.inr (.inl x3)), none, some (.inl x5)] [] (gzN, gzR0, I, J) 0 (gzE (.ok (some (.inr (.inl r)))) (gzN, gzR0, I, J))
def f_X11_power_5 (φ : Nat) : Nat → Int64 → Int32 → Int64 → Int32 → Option Int64
  | 0, _, _, _, _ => none
  | k + 1, x0, x2, x3, x5 => if x2 ≤ x5 then (some x3) else (f_X11_power_5 φ k x0 x2 (x3 * x0) (x5 + 1))
set_option maxRecDepth 20000 in
theorem p_X11_power_5 {g : gzG} {d φ : Nat} {I : gzIT} {J : gzJT} {r : Int64} : ∀ (k : Nat) (x0 : Int64) (x2 : Int32) (x3 : Int64) (x5 : Int32), f_X11_power_5 φ k x0 x2 x3 x5 = some r → gP_X11_power_5 g d r x0 x2 x3 x5 I J := by
  intro k; induction k with
  | zero => intro x0 x2 x3 x5 h; cases h
  | succ k ih =>
    intro x0 x2 x3 x5 h
    unfold f_X11_power_5 at h
    unfold gP_X11_power_5
    refine gz_iload (pc := 5) dX11_power_5 rfl ?_
    refine gz_iload_n (pc := 7) dX11_power_7 rfl ?_
    refine gz_ic_ge (pc := 8) (tgt := 21) dX11_power_8 (by decide) (fun c => ?_) (fun c => ?_)
    · replace h := gz_ifp c h
      refine gz_lload_n (pc := 21) dX11_power_21 rfl ?_
      cases h; exact gz_lret (pc := 22) dX11_power_22 rfl ⟨rfl, rfl⟩
    · replace h := gz_ifn c h
      refine gz_lload_n (pc := 11) dX11_power_11 rfl ?_
      refine gz_lload_n (pc := 12) dX11_power_12 rfl ?_
      refine gz_lmul (pc := 13) dX11_power_13  ?_
      refine gz_lstore_n (pc := 14) dX11_power_14 (by decide) rfl (loc2 := [some (.inr (.inl x0)), none, some (.inl x2), some (.inr (.inl (x3 * x0))), none, some (.inl x5)]) rfl ?_
      refine gz_iinc (pc := 15) dX11_power_15 (x := x5) (v := x5 + 1) rfl (by rw [show Int32.ofInt 1 = 1 by decide]) (by decide) rfl (loc2 := [some (.inr (.inl x0)), none, some (.inl x2), some (.inr (.inl (x3 * x0))), none, some (.inl (x5 + 1))]) rfl ?_
      refine gz_goto (pc := 18) (tgt := 5) dX11_power_18 (by decide) ?_
      exact ih x0 x2 (x3 * x0) (x5 + 1) h
def f_X11_power (φ : Nat) (a1 : Int64) (a2 : Int32) : Option Int64 := f_X11_power_5 φ φ a1 a2 1 0
set_option maxRecDepth 20000 in
theorem c_X11_power {g : gzG} {d φ : Nat} {a1 : Int64} {a2 : Int32} {I : gzIT} {J : gzJT} {r : Int64} (h : f_X11_power φ a1 a2 = some r) : gzC g 0 d mX11_power [.inr (.inl a1), .inl a2] (gzN, gzR0, I, J) (gzE (.ok (some (.inr (.inl r)))) (gzN, gzR0, I, J)) := by
  unfold f_X11_power at h
  refine gzC_of (by decide +kernel) (Nat.le_of_ble_eq_true rfl) (loc := [some (.inr (.inl a1)), none, some (.inl a2), none, none, none]) rfl ?_
  refine gz_lconst (pc := 0) dX11_power_0 (v := 1) (by decide) ?_
  refine gz_lstore_n (pc := 1) dX11_power_1 (by decide) rfl (loc2 := [some (.inr (.inl a1)), none, some (.inl a2), some (.inr (.inl 1)), none, none]) rfl ?_
  refine gz_iconst (pc := 2) dX11_power_2 (v := 0) (by decide) ?_
  refine gz_istore (pc := 3) dX11_power_3 (by decide) rfl (loc2 := [some (.inr (.inl a1)), none, some (.inl a2), some (.inr (.inl 1)), none, some (.inl 0)]) rfl ?_
  exact p_X11_power_5 φ a1 a2 1 0 h
/-! X11_odds: odds -/
def gP_X11_odds_41 (g : gzG) (d : Nat) (r : (Except String Int32) × gzIT × gzJT) (x1 : Int32) (x2 : Int32) (x3 : Int64) (x5 : Int64) (x7 : Int64) (x9 : Int32) (I : gzIT) (J : gzJT) : Prop := gzX g 0 (d + 1) mX11_odds 41 [some (.inr (.inr (0, 30))), some (.inl x1), some (.inl x2), some (.inr (.inl x3)), none, some (.inr (.inl x5)), none, some (.inr (.inl x7)), none, some (.inl x9)] [] (gzN, gzR0, I, J) 0 (gzE (gzRI r.1) (gzN, gzR0, r.2.1, r.2.2))
def f_X11_odds_41 (φ : Nat) : Nat → Int32 → Int32 → Int64 → Int64 → Int64 → Int32 → gzIT → gzJT → Option ((Except String Int32) × gzIT × gzJT)
  | 0, _, _, _, _, _, _, _, _ => none
  | k + 1, x1, x2, x3, x5, x7, x9, I, J => if x1 < x9 then (gzGm x3 (some (.ok (((x5 * 10000) / x3).toInt32), I, J))) else (if x9 < x2 then (gzGm ((x9 + 1).toInt64) (f_X11_odds_41 φ k x1 x2 x3 x5 ((x7 * ((x1 - x9).toInt64)) / ((x9 + 1).toInt64)) (x9 + 1) I J)) else (Option.bind (f_X11_power φ ((I 0 0 10).toInt64) x9) (fun v14 => Option.bind (f_X11_power φ ((100 - (I 0 0 10)).toInt64) (x1 - x9)) (fun v16 => gzGm ((x9 + 1).toInt64) (f_X11_odds_41 φ k x1 x2 x3 (x5 + ((x7 * v14) * v16)) ((x7 * ((x1 - x9).toInt64)) / ((x9 + 1).toInt64)) (x9 + 1) I J)))))
set_option maxRecDepth 20000 in
theorem p_X11_odds_41 {g : gzG} {d φ : Nat} {r : (Except String Int32) × gzIT × gzJT} : ∀ (k : Nat) (x1 : Int32) (x2 : Int32) (x3 : Int64) (x5 : Int64) (x7 : Int64) (x9 : Int32) (I : gzIT) (J : gzJT), f_X11_odds_41 φ k x1 x2 x3 x5 x7 x9 I J = some r → gP_X11_odds_41 g d r x1 x2 x3 x5 x7 x9 I J := by
  intro k; induction k with
  | zero => intro x1 x2 x3 x5 x7 x9 I J h; cases h
  | succ k ih =>
    intro x1 x2 x3 x5 x7 x9 I J h
    unfold f_X11_odds_41 at h
    unfold gP_X11_odds_41
    have z_0_30 : gzOk 0 30 gzN := gzOk_of (by decide)
    have z_0_0 : gzOk 0 0 gzN := gzOk_of (by decide)
    refine gz_iload (pc := 41) dX11_odds_41 rfl ?_
    refine gz_iload_n (pc := 43) dX11_odds_43 rfl ?_
    refine gz_ic_gt (pc := 44) (tgt := 115) dX11_odds_44 (by decide) (fun c => ?_) (fun c => ?_)
    · replace h := gz_ifp c h
      refine gz_lload (pc := 115) dX11_odds_115 rfl ?_
      refine gz_ldc2 (pc := 117) dX11_odds_117 klX11_404.1 klX11_404.2 ?_
      refine gz_lmul (pc := 120) dX11_odds_120  ?_
      refine gz_lload_n (pc := 121) dX11_odds_121 rfl ?_
      obtain ⟨n11, h⟩ := gz_gm h
      refine gz_ldiv (pc := 122) dX11_odds_122 n11 ?_
      refine gz_l2i (pc := 123) dX11_odds_123  ?_
      cases h; exact gz_iret (pc := 124) dX11_odds_124 rfl ⟨rfl, rfl⟩
    · replace h := gz_ifn c h
      refine gz_iload (pc := 47) dX11_odds_47 rfl ?_
      refine gz_iload_n (pc := 49) dX11_odds_49 rfl ?_
      refine gz_ic_lt (pc := 50) (tgt := 93) dX11_odds_50 (by decide) (fun c => ?_) (fun c => ?_)
      · replace h := gz_ifp c h
        refine gz_lload (pc := 93) dX11_odds_93 rfl ?_
        refine gz_iload_n (pc := 95) dX11_odds_95 rfl ?_
        refine gz_iload (pc := 96) dX11_odds_96 rfl ?_
        refine gz_isub (pc := 98) dX11_odds_98  ?_
        refine gz_i2l (pc := 99) dX11_odds_99  ?_
        refine gz_lmul (pc := 100) dX11_odds_100  ?_
        refine gz_iload (pc := 101) dX11_odds_101 rfl ?_
        refine gz_iconst (pc := 103) dX11_odds_103 (v := 1) (by decide) ?_
        refine gz_iadd (pc := 104) dX11_odds_104  ?_
        refine gz_i2l (pc := 105) dX11_odds_105  ?_
        obtain ⟨n12, h⟩ := gz_gm h
        refine gz_ldiv (pc := 106) dX11_odds_106 n12 ?_
        refine gz_lstore (pc := 107) dX11_odds_107 (by decide) rfl (loc2 := [some (.inr (.inr (0, 30))), some (.inl x1), some (.inl x2), some (.inr (.inl x3)), none, some (.inr (.inl x5)), none, some (.inr (.inl ((x7 * ((x1 - x9).toInt64)) / ((x9 + 1).toInt64)))), none, some (.inl x9)]) rfl ?_
        refine gz_iinc (pc := 109) dX11_odds_109 (x := x9) (v := x9 + 1) rfl (by rw [show Int32.ofInt 1 = 1 by decide]) (by decide) rfl (loc2 := [some (.inr (.inr (0, 30))), some (.inl x1), some (.inl x2), some (.inr (.inl x3)), none, some (.inr (.inl x5)), none, some (.inr (.inl ((x7 * ((x1 - x9).toInt64)) / ((x9 + 1).toInt64)))), none, some (.inl (x9 + 1))]) rfl ?_
        refine gz_goto (pc := 112) (tgt := 41) dX11_odds_112 (by decide) ?_
        exact ih x1 x2 x3 x5 ((x7 * ((x1 - x9).toInt64)) / ((x9 + 1).toInt64)) (x9 + 1) I J h
      · replace h := gz_ifn c h
        refine gz_lload (pc := 53) dX11_odds_53 rfl ?_
        refine gz_lload (pc := 55) dX11_odds_55 rfl ?_
        refine gz_aload_n (pc := 57) dX11_odds_57 rfl ?_
        refine gr_X11_42 (pc := 58) dX11_odds_58 z_0_30 rfl ?_
        refine gi_X11_401 (pc := 61) dX11_odds_61 (v := I 0 0 10) z_0_0 rfl rfl ?_
        refine gz_i2l (pc := 64) dX11_odds_64  ?_
        refine gz_iload (pc := 65) dX11_odds_65 rfl ?_
        refine gz_S (zy := mX11_power) (zc := 0) (pc := 67) [.inr (.inl ((I 0 0 10).toInt64)), .inl x9] rfl dX11_odds_67 lkX11_397 MsX11_power rfl (Or.inl rfl) (fun h => h) (by exact Nat.le_of_ble_eq_true rfl) ?_
        obtain ⟨v14, e13, h⟩ := gz_bd h
        refine gz_useI (c_X11_power e13) ?_
        refine gz_lmul (pc := 70) dX11_odds_70  ?_
        refine gz_bipush (pc := 71) dX11_odds_71 (v := 100) (by decide) ?_
        refine gz_aload_n (pc := 73) dX11_odds_73 rfl ?_
        refine gr_X11_42 (pc := 74) dX11_odds_74 z_0_30 rfl ?_
        refine gi_X11_401 (pc := 77) dX11_odds_77 (v := I 0 0 10) z_0_0 rfl rfl ?_
        refine gz_isub (pc := 80) dX11_odds_80  ?_
        refine gz_i2l (pc := 81) dX11_odds_81  ?_
        refine gz_iload_n (pc := 82) dX11_odds_82 rfl ?_
        refine gz_iload (pc := 83) dX11_odds_83 rfl ?_
        refine gz_isub (pc := 85) dX11_odds_85  ?_
        refine gz_S (zy := mX11_power) (zc := 0) (pc := 86) [.inr (.inl ((100 - (I 0 0 10)).toInt64)), .inl (x1 - x9)] rfl dX11_odds_86 lkX11_397 MsX11_power rfl (Or.inl rfl) (fun h => h) (by exact Nat.le_of_ble_eq_true rfl) ?_
        obtain ⟨v16, e15, h⟩ := gz_bd h
        refine gz_useI (c_X11_power e15) ?_
        refine gz_lmul (pc := 89) dX11_odds_89  ?_
        refine gz_ladd (pc := 90) dX11_odds_90  ?_
        refine gz_lstore (pc := 91) dX11_odds_91 (by decide) rfl (loc2 := [some (.inr (.inr (0, 30))), some (.inl x1), some (.inl x2), some (.inr (.inl x3)), none, some (.inr (.inl (x5 + ((x7 * v14) * v16)))), none, some (.inr (.inl x7)), none, some (.inl x9)]) rfl ?_
        refine gz_lload (pc := 93) dX11_odds_93 rfl ?_
        refine gz_iload_n (pc := 95) dX11_odds_95 rfl ?_
        refine gz_iload (pc := 96) dX11_odds_96 rfl ?_
        refine gz_isub (pc := 98) dX11_odds_98  ?_
        refine gz_i2l (pc := 99) dX11_odds_99  ?_
        refine gz_lmul (pc := 100) dX11_odds_100  ?_
        refine gz_iload (pc := 101) dX11_odds_101 rfl ?_
        refine gz_iconst (pc := 103) dX11_odds_103 (v := 1) (by decide) ?_
        refine gz_iadd (pc := 104) dX11_odds_104  ?_
        refine gz_i2l (pc := 105) dX11_odds_105  ?_
        obtain ⟨n17, h⟩ := gz_gm h
        refine gz_ldiv (pc := 106) dX11_odds_106 n17 ?_
        refine gz_lstore (pc := 107) dX11_odds_107 (by decide) rfl (loc2 := [some (.inr (.inr (0, 30))), some (.inl x1), some (.inl x2), some (.inr (.inl x3)), none, some (.inr (.inl (x5 + ((x7 * v14) * v16)))), none, some (.inr (.inl ((x7 * ((x1 - x9).toInt64)) / ((x9 + 1).toInt64)))), none, some (.inl x9)]) rfl ?_
        refine gz_iinc (pc := 109) dX11_odds_109 (x := x9) (v := x9 + 1) rfl (by rw [show Int32.ofInt 1 = 1 by decide]) (by decide) rfl (loc2 := [some (.inr (.inr (0, 30))), some (.inl x1), some (.inl x2), some (.inr (.inl x3)), none, some (.inr (.inl (x5 + ((x7 * v14) * v16)))), none, some (.inr (.inl ((x7 * ((x1 - x9).toInt64)) / ((x9 + 1).toInt64)))), none, some (.inl (x9 + 1))]) rfl ?_
        refine gz_goto (pc := 112) (tgt := 41) dX11_odds_112 (by decide) ?_
        exact ih x1 x2 x3 (x5 + ((x7 * v14) * v16)) ((x7 * ((x1 - x9).toInt64)) / ((x9 + 1).toInt64)) (x9 + 1) I J h
def f_X11_odds (φ : Nat) (a1 : Int32) (a2 : Int32) (I : gzIT) (J : gzJT) : Option ((Except String Int32) × gzIT × gzJT) := Option.bind (f_X11_needNumber a1 0 6 I J) (fun v2 => gzEx v2.1 (fun E => some (.error E, v2.2.1, v2.2.2)) (fun w4 => Option.bind (f_X11_needNumber a2 0 6 v2.2.1 v2.2.2) (fun v6 => gzEx v6.1 (fun E => some (.error E, v6.2.1, v6.2.2)) (fun w8 => Option.bind (f_X11_power φ 100 a1) (fun v10 => if 0 < lg_cmp v10 0 then (f_X11_odds_41 φ φ a1 a2 v10 0 1 0 v6.2.1 v6.2.2) else (some (.ok 0, v6.2.1, v6.2.2)))))))
set_option maxRecDepth 20000 in
theorem c_X11_odds {g : gzG} {d φ : Nat} {a1 : Int32} {a2 : Int32} {I : gzIT} {J : gzJT} {r : (Except String Int32) × gzIT × gzJT} (h : f_X11_odds φ a1 a2 I J = some r) : gzC g 0 (d + 1) mX11_odds [.inr (.inr (0, 30)), .inl a1, .inl a2] (gzN, gzR0, I, J) (gzE (gzRI r.1) (gzN, gzR0, r.2.1, r.2.2)) := by
  unfold f_X11_odds at h
  refine gzC_of (by decide +kernel) (Nat.le_of_ble_eq_true rfl) (loc := [some (.inr (.inr (0, 30))), some (.inl a1), some (.inl a2), none, none, none, none, none, none, none]) rfl ?_
  have z_0_30 : gzOk 0 30 gzN := gzOk_of (by decide)
  refine gz_aload_n (pc := 0) dX11_odds_0 rfl ?_
  refine gz_iload_n (pc := 1) dX11_odds_1 rfl ?_
  refine gz_iconst (pc := 2) dX11_odds_2 (v := 0) (by decide) ?_
  refine gz_bipush (pc := 3) dX11_odds_3 (v := 6) (by decide) ?_
  refine gz_V (zy := mX11_needNumber) (zc := 0) (pc := 5) [.inl a1, .inl 0, .inl 6] rfl dX11_odds_5 lkX11_223 MvX11_needNumber rfl z_0_30 rfl rfl rfl (Or.inl rfl) (fun h => h) (by exact Nat.le_of_ble_eq_true rfl) ?_
  obtain ⟨v2, e1, h⟩ := gz_bd h
  cases x3 : v2.1 with
  | error E => replace h := gz_exe x3 h; cases h; exact gz_useTV x3 (c_X11_needNumber e1) ⟨by simp [gzRI, gzRJ, gzRV], rfl⟩
  | ok w4 =>
    replace h := gz_exo x3 h
    refine gz_useOV x3 (c_X11_needNumber e1) ?_
    refine gz_aload_n (pc := 8) dX11_odds_8 rfl ?_
    refine gz_iload_n (pc := 9) dX11_odds_9 rfl ?_
    refine gz_iconst (pc := 10) dX11_odds_10 (v := 0) (by decide) ?_
    refine gz_bipush (pc := 11) dX11_odds_11 (v := 6) (by decide) ?_
    refine gz_V (zy := mX11_needNumber) (zc := 0) (pc := 13) [.inl a2, .inl 0, .inl 6] rfl dX11_odds_13 lkX11_223 MvX11_needNumber rfl z_0_30 rfl rfl rfl (Or.inl rfl) (fun h => h) (by exact Nat.le_of_ble_eq_true rfl) ?_
    obtain ⟨v6, e5, h⟩ := gz_bd h
    cases x7 : v6.1 with
    | error E => replace h := gz_exe x7 h; cases h; exact gz_useTV x7 (c_X11_needNumber e5) ⟨by simp [gzRI, gzRJ, gzRV], rfl⟩
    | ok w8 =>
      replace h := gz_exo x7 h
      refine gz_useOV x7 (c_X11_needNumber e5) ?_
      refine gz_ldc2 (pc := 16) dX11_odds_16 klX11_395.1 klX11_395.2 ?_
      refine gz_iload_n (pc := 19) dX11_odds_19 rfl ?_
      refine gz_S (zy := mX11_power) (zc := 0) (pc := 20) [.inr (.inl 100), .inl a1] rfl dX11_odds_20 lkX11_397 MsX11_power rfl (Or.inl rfl) (fun h => h) (by exact Nat.le_of_ble_eq_true rfl) ?_
      obtain ⟨v10, e9, h⟩ := gz_bd h
      refine gz_useI (c_X11_power e9) ?_
      refine gz_lstore_n (pc := 23) dX11_odds_23 (by decide) rfl (loc2 := [some (.inr (.inr (0, 30))), some (.inl a1), some (.inl a2), some (.inr (.inl v10)), none, none, none, none, none, none]) rfl ?_
      refine gz_lload_n (pc := 24) dX11_odds_24 rfl ?_
      refine gz_lconst (pc := 25) dX11_odds_25 (v := 0) (by decide) ?_
      refine gz_lcmp (pc := 26) dX11_odds_26  ?_
      refine gz_if_gt (pc := 27) (tgt := 32) dX11_odds_27 (by decide) (fun c => ?_) (fun c => ?_)
      · replace h := gz_ifp c h
        refine gz_lconst (pc := 32) dX11_odds_32 (v := 0) (by decide) ?_
        refine gz_lstore (pc := 33) dX11_odds_33 (by decide) rfl (loc2 := [some (.inr (.inr (0, 30))), some (.inl a1), some (.inl a2), some (.inr (.inl v10)), none, some (.inr (.inl 0)), none, none, none, none]) rfl ?_
        refine gz_lconst (pc := 35) dX11_odds_35 (v := 1) (by decide) ?_
        refine gz_lstore (pc := 36) dX11_odds_36 (by decide) rfl (loc2 := [some (.inr (.inr (0, 30))), some (.inl a1), some (.inl a2), some (.inr (.inl v10)), none, some (.inr (.inl 0)), none, some (.inr (.inl 1)), none, none]) rfl ?_
        refine gz_iconst (pc := 38) dX11_odds_38 (v := 0) (by decide) ?_
        refine gz_istore (pc := 39) dX11_odds_39 (by decide) rfl (loc2 := [some (.inr (.inr (0, 30))), some (.inl a1), some (.inl a2), some (.inr (.inl v10)), none, some (.inr (.inl 0)), none, some (.inr (.inl 1)), none, some (.inl 0)]) rfl ?_
        exact p_X11_odds_41 φ a1 a2 v10 0 1 0 v6.2.1 v6.2.2 h
      · replace h := gz_ifn c h
        refine gz_iconst (pc := 30) dX11_odds_30 (v := 0) (by decide) ?_
        cases h; exact gz_iret (pc := 31) dX11_odds_31 rfl ⟨rfl, rfl⟩
/-! X11_oldest: oldest -/
def gP_X11_oldest_4 (g : gzG) (d : Nat) (r : Int32) (x1 : Int32) (x2 : Int32) (I : gzIT) (J : gzJT) : Prop := gzX g 0 (d + 1) mX11_oldest 4 [some (.inr (.inr (0, 30))), some (.inl x1), some (.inl x2)] [] (gzN, gzR0, I, J) 0 (gzE (.ok (some (.inl r))) (gzN, gzR0, I, J))
def f_X11_oldest_4 (φ : Nat) (I : gzIT) : Nat → Int32 → Int32 → Option Int32
  | 0, _, _ => none
  | k + 1, x1, x2 => if I 0 7 7 ≤ x2 then (some x1) else (Option.bind (f_X1_frozen 0 I x2) (fun v2 => if v2 = 0 then (f_X11_oldest_4 φ I k x1 (x2 + 1)) else (if x1 = (-1) then (f_X11_oldest_4 φ I k x2 (x2 + 1)) else (gzGd (x2) 10 (Option.bind (f_X11_cell 0 11 10 I x1) (fun v5 => if I 0 11 x2.toNatClampNeg ≤ v5 then (f_X11_oldest_4 φ I k x1 (x2 + 1)) else (f_X11_oldest_4 φ I k x2 (x2 + 1))))))))
set_option maxRecDepth 20000 in
theorem p_X11_oldest_4 {g : gzG} {d φ : Nat} {I : gzIT} {J : gzJT} {r : Int32} : ∀ (k : Nat) (x1 : Int32) (x2 : Int32), f_X11_oldest_4 φ I k x1 x2 = some r → gP_X11_oldest_4 g d r x1 x2 I J := by
  intro k; induction k with
  | zero => intro x1 x2 h; cases h
  | succ k ih =>
    intro x1 x2 h
    unfold f_X11_oldest_4 at h
    unfold gP_X11_oldest_4
    have z_0_30 : gzOk 0 30 gzN := gzOk_of (by decide)
    have z_0_0 : gzOk 0 0 gzN := gzOk_of (by decide)
    have z_0_7 : gzOk 0 7 gzN := gzOk_of (by decide)
    have z_0_11 : gzOk 0 11 gzN := gzOk_of (by decide)
    refine gz_iload_n (pc := 4) dX11_oldest_4 rfl ?_
    refine gz_aload_n (pc := 5) dX11_oldest_5 rfl ?_
    refine gr_X11_42 (pc := 6) dX11_oldest_6 z_0_30 rfl ?_
    refine gr_X11_150 (pc := 9) dX11_oldest_9 z_0_0 rfl ?_
    refine gi_X11_242 (pc := 12) dX11_oldest_12 (v := I 0 7 7) z_0_7 rfl rfl ?_
    refine gz_ic_ge (pc := 15) (tgt := 74) dX11_oldest_15 (by decide) (fun c => ?_) (fun c => ?_)
    · replace h := gz_ifp c h
      refine gz_iload_n (pc := 74) dX11_oldest_74 rfl ?_
      cases h; exact gz_iret (pc := 75) dX11_oldest_75 rfl ⟨rfl, rfl⟩
    · replace h := gz_ifn c h
      refine gz_aload_n (pc := 18) dX11_oldest_18 rfl ?_
      refine gr_X11_42 (pc := 19) dX11_oldest_19 z_0_30 rfl ?_
      refine gr_X11_150 (pc := 22) dX11_oldest_22 z_0_0 rfl ?_
      refine gz_iload_n (pc := 25) dX11_oldest_25 rfl ?_
      refine gz_V (zy := mX1_frozen) (zc := 0) (pc := 26) [.inl x2] rfl dX11_oldest_26 lkX11_373 MvX1_frozen rfl z_0_7 rfl rfl rfl (Or.inl rfl) (fun h => h) (by exact Nat.le_of_ble_eq_true rfl) ?_
      obtain ⟨v2, e1, h⟩ := gz_bd h
      refine gz_useI (c_X1_frozen (by decide) e1) ?_
      refine gz_if_eq (pc := 29) (tgt := 68) dX11_oldest_29 (by decide) (fun c => ?_) (fun c => ?_)
      · replace h := gz_ifp c h
        refine gz_iinc (pc := 68) dX11_oldest_68 (x := x2) (v := x2 + 1) rfl (by rw [show Int32.ofInt 1 = 1 by decide]) (by decide) rfl (loc2 := [some (.inr (.inr (0, 30))), some (.inl x1), some (.inl (x2 + 1))]) rfl ?_
        refine gz_goto (pc := 71) (tgt := 4) dX11_oldest_71 (by decide) ?_
        exact ih x1 (x2 + 1) h
      · replace h := gz_ifn c h
        refine gz_iload_n (pc := 32) dX11_oldest_32 rfl ?_
        refine gz_iconst (pc := 33) dX11_oldest_33 (v := (-1)) (by decide) ?_
        refine gz_ic_eq (pc := 34) (tgt := 66) dX11_oldest_34 (by decide) (fun c => ?_) (fun c => ?_)
        · replace h := gz_ifp c h
          refine gz_iload_n (pc := 66) dX11_oldest_66 rfl ?_
          refine gz_istore_n (pc := 67) dX11_oldest_67 (by decide) rfl (loc2 := [some (.inr (.inr (0, 30))), some (.inl x2), some (.inl x2)]) rfl ?_
          refine gz_iinc (pc := 68) dX11_oldest_68 (x := x2) (v := x2 + 1) rfl (by rw [show Int32.ofInt 1 = 1 by decide]) (by decide) rfl (loc2 := [some (.inr (.inr (0, 30))), some (.inl x2), some (.inl (x2 + 1))]) rfl ?_
          refine gz_goto (pc := 71) (tgt := 4) dX11_oldest_71 (by decide) ?_
          exact ih x2 (x2 + 1) h
        · replace h := gz_ifn c h
          refine gz_aload_n (pc := 37) dX11_oldest_37 rfl ?_
          refine gr_X11_42 (pc := 38) dX11_oldest_38 z_0_30 rfl ?_
          refine gr_X11_150 (pc := 41) dX11_oldest_41 z_0_0 rfl ?_
          refine gr_X11_183 (pc := 44) dX11_oldest_44 z_0_7 rfl ?_
          refine gz_iload_n (pc := 47) dX11_oldest_47 rfl ?_
          obtain ⟨b3, h⟩ := gz_gd h
          refine gz_iald2 (pc := 48) dX11_oldest_48 (k := x2.toNatClampNeg) (v := I 0 11 x2.toNatClampNeg) z_0_11 rfl b3 rfl rfl ?_
          refine gz_aload_n (pc := 49) dX11_oldest_49 rfl ?_
          refine gr_X11_42 (pc := 50) dX11_oldest_50 z_0_30 rfl ?_
          refine gr_X11_150 (pc := 53) dX11_oldest_53 z_0_0 rfl ?_
          refine gr_X11_183 (pc := 56) dX11_oldest_56 z_0_7 rfl ?_
          refine gz_iload_n (pc := 59) dX11_oldest_59 rfl ?_
          refine gz_S (zy := mX11_cell) (zc := 0) (pc := 60) [.inr (.inr (0, 11)), .inl x1] rfl dX11_oldest_60 lkX11_406 MsX11_cell rfl (Or.inl rfl) (fun h => h) (by exact Nat.le_of_ble_eq_true rfl) ?_
          obtain ⟨v5, e4, h⟩ := gz_bd h
          refine gz_useI (c_X11_cell (gzOk_of (by decide)) rfl e4) ?_
          refine gz_ic_le (pc := 63) (tgt := 68) dX11_oldest_63 (by decide) (fun c => ?_) (fun c => ?_)
          · replace h := gz_ifp c h
            refine gz_iinc (pc := 68) dX11_oldest_68 (x := x2) (v := x2 + 1) rfl (by rw [show Int32.ofInt 1 = 1 by decide]) (by decide) rfl (loc2 := [some (.inr (.inr (0, 30))), some (.inl x1), some (.inl (x2 + 1))]) rfl ?_
            refine gz_goto (pc := 71) (tgt := 4) dX11_oldest_71 (by decide) ?_
            exact ih x1 (x2 + 1) h
          · replace h := gz_ifn c h
            refine gz_iload_n (pc := 66) dX11_oldest_66 rfl ?_
            refine gz_istore_n (pc := 67) dX11_oldest_67 (by decide) rfl (loc2 := [some (.inr (.inr (0, 30))), some (.inl x2), some (.inl x2)]) rfl ?_
            refine gz_iinc (pc := 68) dX11_oldest_68 (x := x2) (v := x2 + 1) rfl (by rw [show Int32.ofInt 1 = 1 by decide]) (by decide) rfl (loc2 := [some (.inr (.inr (0, 30))), some (.inl x2), some (.inl (x2 + 1))]) rfl ?_
            refine gz_goto (pc := 71) (tgt := 4) dX11_oldest_71 (by decide) ?_
            exact ih x2 (x2 + 1) h
def f_X11_oldest (φ : Nat) (I : gzIT) : Option Int32 := f_X11_oldest_4 φ I φ (-1) 0
set_option maxRecDepth 20000 in
theorem c_X11_oldest {g : gzG} {d φ : Nat} {I : gzIT} {J : gzJT} {r : Int32} (h : f_X11_oldest φ I = some r) : gzC g 0 (d + 1) mX11_oldest [.inr (.inr (0, 30))] (gzN, gzR0, I, J) (gzE (.ok (some (.inl r))) (gzN, gzR0, I, J)) := by
  unfold f_X11_oldest at h
  refine gzC_of (by decide +kernel) (Nat.le_of_ble_eq_true rfl) (loc := [some (.inr (.inr (0, 30))), none, none]) rfl ?_
  refine gz_iconst (pc := 0) dX11_oldest_0 (v := (-1)) (by decide) ?_
  refine gz_istore_n (pc := 1) dX11_oldest_1 (by decide) rfl (loc2 := [some (.inr (.inr (0, 30))), some (.inl (-1)), none]) rfl ?_
  refine gz_iconst (pc := 2) dX11_oldest_2 (v := 0) (by decide) ?_
  refine gz_istore_n (pc := 3) dX11_oldest_3 (by decide) rfl (loc2 := [some (.inr (.inr (0, 30))), some (.inl (-1)), some (.inl 0)]) rfl ?_
  exact p_X11_oldest_4 φ (-1) 0 h
/-! X11_blue: blue -/
def gP_X11_blue_4 (g : gzG) (d : Nat) (r : Int32) (x1 : Int32) (x2 : Int32) (I : gzIT) (J : gzJT) : Prop := gzX g 0 (d + 1) mX11_blue 4 [some (.inr (.inr (0, 30))), some (.inl x1), some (.inl x2)] [] (gzN, gzR0, I, J) 0 (gzE (.ok (some (.inl r))) (gzN, gzR0, I, J))
def f_X11_blue_4 (φ : Nat) (I : gzIT) : Nat → Int32 → Int32 → Option Int32
  | 0, _, _ => none
  | k + 1, x1, x2 => if I 0 7 7 ≤ x2 then (some x1) else (Option.bind (f_X1_frozen 0 I x2) (fun v2 => if v2 = 0 then (f_X11_blue_4 φ I k x1 (x2 + 1)) else (gzGd (x2) 10 (if I 0 12 x2.toNatClampNeg < 100 then (f_X11_blue_4 φ I k x1 (x2 + 1)) else (f_X11_blue_4 φ I k (x1 ||| ((1 : Int32) <<< (x2 &&& 31))) (x2 + 1))))))
set_option maxRecDepth 20000 in
theorem p_X11_blue_4 {g : gzG} {d φ : Nat} {I : gzIT} {J : gzJT} {r : Int32} : ∀ (k : Nat) (x1 : Int32) (x2 : Int32), f_X11_blue_4 φ I k x1 x2 = some r → gP_X11_blue_4 g d r x1 x2 I J := by
  intro k; induction k with
  | zero => intro x1 x2 h; cases h
  | succ k ih =>
    intro x1 x2 h
    unfold f_X11_blue_4 at h
    unfold gP_X11_blue_4
    have z_0_30 : gzOk 0 30 gzN := gzOk_of (by decide)
    have z_0_0 : gzOk 0 0 gzN := gzOk_of (by decide)
    have z_0_7 : gzOk 0 7 gzN := gzOk_of (by decide)
    have z_0_12 : gzOk 0 12 gzN := gzOk_of (by decide)
    refine gz_iload_n (pc := 4) dX11_blue_4 rfl ?_
    refine gz_aload_n (pc := 5) dX11_blue_5 rfl ?_
    refine gr_X11_42 (pc := 6) dX11_blue_6 z_0_30 rfl ?_
    refine gr_X11_150 (pc := 9) dX11_blue_9 z_0_0 rfl ?_
    refine gi_X11_242 (pc := 12) dX11_blue_12 (v := I 0 7 7) z_0_7 rfl rfl ?_
    refine gz_ic_ge (pc := 15) (tgt := 61) dX11_blue_15 (by decide) (fun c => ?_) (fun c => ?_)
    · replace h := gz_ifp c h
      refine gz_iload_n (pc := 61) dX11_blue_61 rfl ?_
      cases h; exact gz_iret (pc := 62) dX11_blue_62 rfl ⟨rfl, rfl⟩
    · replace h := gz_ifn c h
      refine gz_aload_n (pc := 18) dX11_blue_18 rfl ?_
      refine gr_X11_42 (pc := 19) dX11_blue_19 z_0_30 rfl ?_
      refine gr_X11_150 (pc := 22) dX11_blue_22 z_0_0 rfl ?_
      refine gz_iload_n (pc := 25) dX11_blue_25 rfl ?_
      refine gz_V (zy := mX1_frozen) (zc := 0) (pc := 26) [.inl x2] rfl dX11_blue_26 lkX11_373 MvX1_frozen rfl z_0_7 rfl rfl rfl (Or.inl rfl) (fun h => h) (by exact Nat.le_of_ble_eq_true rfl) ?_
      obtain ⟨v2, e1, h⟩ := gz_bd h
      refine gz_useI (c_X1_frozen (by decide) e1) ?_
      refine gz_if_eq (pc := 29) (tgt := 55) dX11_blue_29 (by decide) (fun c => ?_) (fun c => ?_)
      · replace h := gz_ifp c h
        refine gz_iinc (pc := 55) dX11_blue_55 (x := x2) (v := x2 + 1) rfl (by rw [show Int32.ofInt 1 = 1 by decide]) (by decide) rfl (loc2 := [some (.inr (.inr (0, 30))), some (.inl x1), some (.inl (x2 + 1))]) rfl ?_
        refine gz_goto (pc := 58) (tgt := 4) dX11_blue_58 (by decide) ?_
        exact ih x1 (x2 + 1) h
      · replace h := gz_ifn c h
        refine gz_aload_n (pc := 32) dX11_blue_32 rfl ?_
        refine gr_X11_42 (pc := 33) dX11_blue_33 z_0_30 rfl ?_
        refine gr_X11_150 (pc := 36) dX11_blue_36 z_0_0 rfl ?_
        refine gr_X11_186 (pc := 39) dX11_blue_39 z_0_7 rfl ?_
        refine gz_iload_n (pc := 42) dX11_blue_42 rfl ?_
        obtain ⟨b3, h⟩ := gz_gd h
        refine gz_iald2 (pc := 43) dX11_blue_43 (k := x2.toNatClampNeg) (v := I 0 12 x2.toNatClampNeg) z_0_12 rfl b3 rfl rfl ?_
        refine gz_bipush (pc := 44) dX11_blue_44 (v := 100) (by decide) ?_
        refine gz_ic_lt (pc := 46) (tgt := 55) dX11_blue_46 (by decide) (fun c => ?_) (fun c => ?_)
        · replace h := gz_ifp c h
          refine gz_iinc (pc := 55) dX11_blue_55 (x := x2) (v := x2 + 1) rfl (by rw [show Int32.ofInt 1 = 1 by decide]) (by decide) rfl (loc2 := [some (.inr (.inr (0, 30))), some (.inl x1), some (.inl (x2 + 1))]) rfl ?_
          refine gz_goto (pc := 58) (tgt := 4) dX11_blue_58 (by decide) ?_
          exact ih x1 (x2 + 1) h
        · replace h := gz_ifn c h
          refine gz_iload_n (pc := 49) dX11_blue_49 rfl ?_
          refine gz_iconst (pc := 50) dX11_blue_50 (v := 1) (by decide) ?_
          refine gz_iload_n (pc := 51) dX11_blue_51 rfl ?_
          refine gz_ishl (pc := 52) dX11_blue_52  ?_
          refine gz_ior (pc := 53) dX11_blue_53  ?_
          refine gz_istore_n (pc := 54) dX11_blue_54 (by decide) rfl (loc2 := [some (.inr (.inr (0, 30))), some (.inl (x1 ||| ((1 : Int32) <<< (x2 &&& 31)))), some (.inl x2)]) rfl ?_
          refine gz_iinc (pc := 55) dX11_blue_55 (x := x2) (v := x2 + 1) rfl (by rw [show Int32.ofInt 1 = 1 by decide]) (by decide) rfl (loc2 := [some (.inr (.inr (0, 30))), some (.inl (x1 ||| ((1 : Int32) <<< (x2 &&& 31)))), some (.inl (x2 + 1))]) rfl ?_
          refine gz_goto (pc := 58) (tgt := 4) dX11_blue_58 (by decide) ?_
          exact ih (x1 ||| ((1 : Int32) <<< (x2 &&& 31))) (x2 + 1) h
def f_X11_blue (φ : Nat) (I : gzIT) : Option Int32 := f_X11_blue_4 φ I φ 0 0
set_option maxRecDepth 20000 in
theorem c_X11_blue {g : gzG} {d φ : Nat} {I : gzIT} {J : gzJT} {r : Int32} (h : f_X11_blue φ I = some r) : gzC g 0 (d + 1) mX11_blue [.inr (.inr (0, 30))] (gzN, gzR0, I, J) (gzE (.ok (some (.inl r))) (gzN, gzR0, I, J)) := by
  unfold f_X11_blue at h
  refine gzC_of (by decide +kernel) (Nat.le_of_ble_eq_true rfl) (loc := [some (.inr (.inr (0, 30))), none, none]) rfl ?_
  refine gz_iconst (pc := 0) dX11_blue_0 (v := 0) (by decide) ?_
  refine gz_istore_n (pc := 1) dX11_blue_1 (by decide) rfl (loc2 := [some (.inr (.inr (0, 30))), some (.inl 0), none]) rfl ?_
  refine gz_iconst (pc := 2) dX11_blue_2 (v := 0) (by decide) ?_
  refine gz_istore_n (pc := 3) dX11_blue_3 (by decide) rfl (loc2 := [some (.inr (.inr (0, 30))), some (.inl 0), some (.inl 0)]) rfl ?_
  exact p_X11_blue_4 φ 0 0 h
/-! X11_nursed: nursed -/
def gP_X11_nursed_4 (g : gzG) (d : Nat) (r : Int32) (x1 : Int32) (x2 : Int32) (I : gzIT) (J : gzJT) : Prop := gzX g 0 (d + 1) mX11_nursed 4 [some (.inr (.inr (0, 30))), some (.inl x1), some (.inl x2)] [] (gzN, gzR0, I, J) 0 (gzE (.ok (some (.inl r))) (gzN, gzR0, I, J))
def f_X11_nursed_4 (φ : Nat) (I : gzIT) : Nat → Int32 → Int32 → Option Int32
  | 0, _, _ => none
  | k + 1, x1, x2 => if I 0 7 7 ≤ x2 then (some x1) else (Option.bind (f_X1_frozen 0 I x2) (fun v2 => if v2 = 0 then (f_X11_nursed_4 φ I k x1 (x2 + 1)) else (gzGd (x2) 10 (if I 0 13 x2.toNatClampNeg = 0 then (f_X11_nursed_4 φ I k x1 (x2 + 1)) else (f_X11_nursed_4 φ I k (x1 ||| ((1 : Int32) <<< (x2 &&& 31))) (x2 + 1))))))
set_option maxRecDepth 20000 in
theorem p_X11_nursed_4 {g : gzG} {d φ : Nat} {I : gzIT} {J : gzJT} {r : Int32} : ∀ (k : Nat) (x1 : Int32) (x2 : Int32), f_X11_nursed_4 φ I k x1 x2 = some r → gP_X11_nursed_4 g d r x1 x2 I J := by
  intro k; induction k with
  | zero => intro x1 x2 h; cases h
  | succ k ih =>
    intro x1 x2 h
    unfold f_X11_nursed_4 at h
    unfold gP_X11_nursed_4
    have z_0_30 : gzOk 0 30 gzN := gzOk_of (by decide)
    have z_0_0 : gzOk 0 0 gzN := gzOk_of (by decide)
    have z_0_7 : gzOk 0 7 gzN := gzOk_of (by decide)
    have z_0_13 : gzOk 0 13 gzN := gzOk_of (by decide)
    refine gz_iload_n (pc := 4) dX11_nursed_4 rfl ?_
    refine gz_aload_n (pc := 5) dX11_nursed_5 rfl ?_
    refine gr_X11_42 (pc := 6) dX11_nursed_6 z_0_30 rfl ?_
    refine gr_X11_150 (pc := 9) dX11_nursed_9 z_0_0 rfl ?_
    refine gi_X11_242 (pc := 12) dX11_nursed_12 (v := I 0 7 7) z_0_7 rfl rfl ?_
    refine gz_ic_ge (pc := 15) (tgt := 59) dX11_nursed_15 (by decide) (fun c => ?_) (fun c => ?_)
    · replace h := gz_ifp c h
      refine gz_iload_n (pc := 59) dX11_nursed_59 rfl ?_
      cases h; exact gz_iret (pc := 60) dX11_nursed_60 rfl ⟨rfl, rfl⟩
    · replace h := gz_ifn c h
      refine gz_aload_n (pc := 18) dX11_nursed_18 rfl ?_
      refine gr_X11_42 (pc := 19) dX11_nursed_19 z_0_30 rfl ?_
      refine gr_X11_150 (pc := 22) dX11_nursed_22 z_0_0 rfl ?_
      refine gz_iload_n (pc := 25) dX11_nursed_25 rfl ?_
      refine gz_V (zy := mX1_frozen) (zc := 0) (pc := 26) [.inl x2] rfl dX11_nursed_26 lkX11_373 MvX1_frozen rfl z_0_7 rfl rfl rfl (Or.inl rfl) (fun h => h) (by exact Nat.le_of_ble_eq_true rfl) ?_
      obtain ⟨v2, e1, h⟩ := gz_bd h
      refine gz_useI (c_X1_frozen (by decide) e1) ?_
      refine gz_if_eq (pc := 29) (tgt := 53) dX11_nursed_29 (by decide) (fun c => ?_) (fun c => ?_)
      · replace h := gz_ifp c h
        refine gz_iinc (pc := 53) dX11_nursed_53 (x := x2) (v := x2 + 1) rfl (by rw [show Int32.ofInt 1 = 1 by decide]) (by decide) rfl (loc2 := [some (.inr (.inr (0, 30))), some (.inl x1), some (.inl (x2 + 1))]) rfl ?_
        refine gz_goto (pc := 56) (tgt := 4) dX11_nursed_56 (by decide) ?_
        exact ih x1 (x2 + 1) h
      · replace h := gz_ifn c h
        refine gz_aload_n (pc := 32) dX11_nursed_32 rfl ?_
        refine gr_X11_42 (pc := 33) dX11_nursed_33 z_0_30 rfl ?_
        refine gr_X11_150 (pc := 36) dX11_nursed_36 z_0_0 rfl ?_
        refine gr_X11_189 (pc := 39) dX11_nursed_39 z_0_7 rfl ?_
        refine gz_iload_n (pc := 42) dX11_nursed_42 rfl ?_
        obtain ⟨b3, h⟩ := gz_gd h
        refine gz_zald2 (pc := 43) dX11_nursed_43 (k := x2.toNatClampNeg) (v := I 0 13 x2.toNatClampNeg) z_0_13 rfl b3 rfl rfl ?_
        refine gz_if_eq (pc := 44) (tgt := 53) dX11_nursed_44 (by decide) (fun c => ?_) (fun c => ?_)
        · replace h := gz_ifp c h
          refine gz_iinc (pc := 53) dX11_nursed_53 (x := x2) (v := x2 + 1) rfl (by rw [show Int32.ofInt 1 = 1 by decide]) (by decide) rfl (loc2 := [some (.inr (.inr (0, 30))), some (.inl x1), some (.inl (x2 + 1))]) rfl ?_
          refine gz_goto (pc := 56) (tgt := 4) dX11_nursed_56 (by decide) ?_
          exact ih x1 (x2 + 1) h
        · replace h := gz_ifn c h
          refine gz_iload_n (pc := 47) dX11_nursed_47 rfl ?_
          refine gz_iconst (pc := 48) dX11_nursed_48 (v := 1) (by decide) ?_
          refine gz_iload_n (pc := 49) dX11_nursed_49 rfl ?_
          refine gz_ishl (pc := 50) dX11_nursed_50  ?_
          refine gz_ior (pc := 51) dX11_nursed_51  ?_
          refine gz_istore_n (pc := 52) dX11_nursed_52 (by decide) rfl (loc2 := [some (.inr (.inr (0, 30))), some (.inl (x1 ||| ((1 : Int32) <<< (x2 &&& 31)))), some (.inl x2)]) rfl ?_
          refine gz_iinc (pc := 53) dX11_nursed_53 (x := x2) (v := x2 + 1) rfl (by rw [show Int32.ofInt 1 = 1 by decide]) (by decide) rfl (loc2 := [some (.inr (.inr (0, 30))), some (.inl (x1 ||| ((1 : Int32) <<< (x2 &&& 31)))), some (.inl (x2 + 1))]) rfl ?_
          refine gz_goto (pc := 56) (tgt := 4) dX11_nursed_56 (by decide) ?_
          exact ih (x1 ||| ((1 : Int32) <<< (x2 &&& 31))) (x2 + 1) h
def f_X11_nursed (φ : Nat) (I : gzIT) : Option Int32 := f_X11_nursed_4 φ I φ 0 0
set_option maxRecDepth 20000 in
theorem c_X11_nursed {g : gzG} {d φ : Nat} {I : gzIT} {J : gzJT} {r : Int32} (h : f_X11_nursed φ I = some r) : gzC g 0 (d + 1) mX11_nursed [.inr (.inr (0, 30))] (gzN, gzR0, I, J) (gzE (.ok (some (.inl r))) (gzN, gzR0, I, J)) := by
  unfold f_X11_nursed at h
  refine gzC_of (by decide +kernel) (Nat.le_of_ble_eq_true rfl) (loc := [some (.inr (.inr (0, 30))), none, none]) rfl ?_
  refine gz_iconst (pc := 0) dX11_nursed_0 (v := 0) (by decide) ?_
  refine gz_istore_n (pc := 1) dX11_nursed_1 (by decide) rfl (loc2 := [some (.inr (.inr (0, 30))), some (.inl 0), none]) rfl ?_
  refine gz_iconst (pc := 2) dX11_nursed_2 (v := 0) (by decide) ?_
  refine gz_istore_n (pc := 3) dX11_nursed_3 (by decide) rfl (loc2 := [some (.inr (.inr (0, 30))), some (.inl 0), some (.inl 0)]) rfl ?_
  exact p_X11_nursed_4 φ 0 0 h
/-! X11_mutual: mutual -/
def gP_X11_mutual_4 (g : gzG) (d : Nat) (r : Int32) (x1 : Int32) (x2 : Int32) (I : gzIT) (J : gzJT) : Prop := gzX g 0 (d + 1) mX11_mutual 4 [some (.inr (.inr (0, 30))), some (.inl x1), some (.inl x2)] [] (gzN, gzR0, I, J) 0 (gzE (.ok (some (.inl r))) (gzN, gzR0, I, J))
def f_X11_mutual_4 (φ : Nat) (I : gzIT) : Nat → Int32 → Int32 → Option Int32
  | 0, _, _ => none
  | k + 1, x1, x2 => if I 0 7 7 ≤ x2 then (some x1) else (Option.bind (f_X1_frozen 0 I x2) (fun v2 => if v2 = 0 then (f_X11_mutual_4 φ I k x1 (x2 + 1)) else (gzGd (x2) 10 (Option.bind (f_X1_find φ 0 I (I 0 9 x2.toNatClampNeg) (I 0 8 x2.toNatClampNeg)) (fun v5 => if v5 = (-1) then (f_X11_mutual_4 φ I k x1 (x2 + 1)) else (f_X11_mutual_4 φ I k (x1 ||| ((1 : Int32) <<< (x2 &&& 31))) (x2 + 1)))))))
set_option maxRecDepth 20000 in
theorem p_X11_mutual_4 {g : gzG} {d φ : Nat} {I : gzIT} {J : gzJT} {r : Int32} : ∀ (k : Nat) (x1 : Int32) (x2 : Int32), f_X11_mutual_4 φ I k x1 x2 = some r → gP_X11_mutual_4 g d r x1 x2 I J := by
  intro k; induction k with
  | zero => intro x1 x2 h; cases h
  | succ k ih =>
    intro x1 x2 h
    unfold f_X11_mutual_4 at h
    unfold gP_X11_mutual_4
    have z_0_30 : gzOk 0 30 gzN := gzOk_of (by decide)
    have z_0_0 : gzOk 0 0 gzN := gzOk_of (by decide)
    have z_0_7 : gzOk 0 7 gzN := gzOk_of (by decide)
    have z_0_9 : gzOk 0 9 gzN := gzOk_of (by decide)
    have z_0_8 : gzOk 0 8 gzN := gzOk_of (by decide)
    refine gz_iload_n (pc := 4) dX11_mutual_4 rfl ?_
    refine gz_aload_n (pc := 5) dX11_mutual_5 rfl ?_
    refine gr_X11_42 (pc := 6) dX11_mutual_6 z_0_30 rfl ?_
    refine gr_X11_150 (pc := 9) dX11_mutual_9 z_0_0 rfl ?_
    refine gi_X11_242 (pc := 12) dX11_mutual_12 (v := I 0 7 7) z_0_7 rfl rfl ?_
    refine gz_ic_ge (pc := 15) (tgt := 82) dX11_mutual_15 (by decide) (fun c => ?_) (fun c => ?_)
    · replace h := gz_ifp c h
      refine gz_iload_n (pc := 82) dX11_mutual_82 rfl ?_
      cases h; exact gz_iret (pc := 83) dX11_mutual_83 rfl ⟨rfl, rfl⟩
    · replace h := gz_ifn c h
      refine gz_aload_n (pc := 18) dX11_mutual_18 rfl ?_
      refine gr_X11_42 (pc := 19) dX11_mutual_19 z_0_30 rfl ?_
      refine gr_X11_150 (pc := 22) dX11_mutual_22 z_0_0 rfl ?_
      refine gz_iload_n (pc := 25) dX11_mutual_25 rfl ?_
      refine gz_V (zy := mX1_frozen) (zc := 0) (pc := 26) [.inl x2] rfl dX11_mutual_26 lkX11_373 MvX1_frozen rfl z_0_7 rfl rfl rfl (Or.inl rfl) (fun h => h) (by exact Nat.le_of_ble_eq_true rfl) ?_
      obtain ⟨v2, e1, h⟩ := gz_bd h
      refine gz_useI (c_X1_frozen (by decide) e1) ?_
      refine gz_if_eq (pc := 29) (tgt := 76) dX11_mutual_29 (by decide) (fun c => ?_) (fun c => ?_)
      · replace h := gz_ifp c h
        refine gz_iinc (pc := 76) dX11_mutual_76 (x := x2) (v := x2 + 1) rfl (by rw [show Int32.ofInt 1 = 1 by decide]) (by decide) rfl (loc2 := [some (.inr (.inr (0, 30))), some (.inl x1), some (.inl (x2 + 1))]) rfl ?_
        refine gz_goto (pc := 79) (tgt := 4) dX11_mutual_79 (by decide) ?_
        exact ih x1 (x2 + 1) h
      · replace h := gz_ifn c h
        refine gz_aload_n (pc := 32) dX11_mutual_32 rfl ?_
        refine gr_X11_42 (pc := 33) dX11_mutual_33 z_0_30 rfl ?_
        refine gr_X11_150 (pc := 36) dX11_mutual_36 z_0_0 rfl ?_
        refine gz_aload_n (pc := 39) dX11_mutual_39 rfl ?_
        refine gr_X11_42 (pc := 40) dX11_mutual_40 z_0_30 rfl ?_
        refine gr_X11_150 (pc := 43) dX11_mutual_43 z_0_0 rfl ?_
        refine gr_X11_177 (pc := 46) dX11_mutual_46 z_0_7 rfl ?_
        refine gz_iload_n (pc := 49) dX11_mutual_49 rfl ?_
        obtain ⟨b3, h⟩ := gz_gd h
        refine gz_iald2 (pc := 50) dX11_mutual_50 (k := x2.toNatClampNeg) (v := I 0 9 x2.toNatClampNeg) z_0_9 rfl b3 rfl rfl ?_
        refine gz_aload_n (pc := 51) dX11_mutual_51 rfl ?_
        refine gr_X11_42 (pc := 52) dX11_mutual_52 z_0_30 rfl ?_
        refine gr_X11_150 (pc := 55) dX11_mutual_55 z_0_0 rfl ?_
        refine gr_X11_174 (pc := 58) dX11_mutual_58 z_0_7 rfl ?_
        refine gz_iload_n (pc := 61) dX11_mutual_61 rfl ?_
        refine gz_iald2 (pc := 62) dX11_mutual_62 (k := x2.toNatClampNeg) (v := I 0 8 x2.toNatClampNeg) z_0_8 rfl b3 rfl rfl ?_
        refine gz_V (zy := mX1_find) (zc := 0) (pc := 63) [.inl (I 0 9 x2.toNatClampNeg), .inl (I 0 8 x2.toNatClampNeg)] rfl dX11_mutual_63 lkX11_238 MvX1_find rfl z_0_7 rfl rfl rfl (Or.inl rfl) (fun h => h) (by exact Nat.le_of_ble_eq_true rfl) ?_
        obtain ⟨v5, e4, h⟩ := gz_bd h
        refine gz_useI (c_X1_find (by decide) e4) ?_
        refine gz_iconst (pc := 66) dX11_mutual_66 (v := (-1)) (by decide) ?_
        refine gz_ic_eq (pc := 67) (tgt := 76) dX11_mutual_67 (by decide) (fun c => ?_) (fun c => ?_)
        · replace h := gz_ifp c h
          refine gz_iinc (pc := 76) dX11_mutual_76 (x := x2) (v := x2 + 1) rfl (by rw [show Int32.ofInt 1 = 1 by decide]) (by decide) rfl (loc2 := [some (.inr (.inr (0, 30))), some (.inl x1), some (.inl (x2 + 1))]) rfl ?_
          refine gz_goto (pc := 79) (tgt := 4) dX11_mutual_79 (by decide) ?_
          exact ih x1 (x2 + 1) h
        · replace h := gz_ifn c h
          refine gz_iload_n (pc := 70) dX11_mutual_70 rfl ?_
          refine gz_iconst (pc := 71) dX11_mutual_71 (v := 1) (by decide) ?_
          refine gz_iload_n (pc := 72) dX11_mutual_72 rfl ?_
          refine gz_ishl (pc := 73) dX11_mutual_73  ?_
          refine gz_ior (pc := 74) dX11_mutual_74  ?_
          refine gz_istore_n (pc := 75) dX11_mutual_75 (by decide) rfl (loc2 := [some (.inr (.inr (0, 30))), some (.inl (x1 ||| ((1 : Int32) <<< (x2 &&& 31)))), some (.inl x2)]) rfl ?_
          refine gz_iinc (pc := 76) dX11_mutual_76 (x := x2) (v := x2 + 1) rfl (by rw [show Int32.ofInt 1 = 1 by decide]) (by decide) rfl (loc2 := [some (.inr (.inr (0, 30))), some (.inl (x1 ||| ((1 : Int32) <<< (x2 &&& 31)))), some (.inl (x2 + 1))]) rfl ?_
          refine gz_goto (pc := 79) (tgt := 4) dX11_mutual_79 (by decide) ?_
          exact ih (x1 ||| ((1 : Int32) <<< (x2 &&& 31))) (x2 + 1) h
def f_X11_mutual (φ : Nat) (I : gzIT) : Option Int32 := f_X11_mutual_4 φ I φ 0 0
set_option maxRecDepth 20000 in
theorem c_X11_mutual {g : gzG} {d φ : Nat} {I : gzIT} {J : gzJT} {r : Int32} (h : f_X11_mutual φ I = some r) : gzC g 0 (d + 1) mX11_mutual [.inr (.inr (0, 30))] (gzN, gzR0, I, J) (gzE (.ok (some (.inl r))) (gzN, gzR0, I, J)) := by
  unfold f_X11_mutual at h
  refine gzC_of (by decide +kernel) (Nat.le_of_ble_eq_true rfl) (loc := [some (.inr (.inr (0, 30))), none, none]) rfl ?_
  refine gz_iconst (pc := 0) dX11_mutual_0 (v := 0) (by decide) ?_
  refine gz_istore_n (pc := 1) dX11_mutual_1 (by decide) rfl (loc2 := [some (.inr (.inr (0, 30))), some (.inl 0), none]) rfl ?_
  refine gz_iconst (pc := 2) dX11_mutual_2 (v := 0) (by decide) ?_
  refine gz_istore_n (pc := 3) dX11_mutual_3 (by decide) rfl (loc2 := [some (.inr (.inr (0, 30))), some (.inl 0), some (.inl 0)]) rfl ?_
  exact p_X11_mutual_4 φ 0 0 h
/-! X11_proud: proud -/
def gP_X11_proud_4 (g : gzG) (d : Nat) (r : Int32) (x1 : Int32) (x2 : Int32) (I : gzIT) (J : gzJT) : Prop := gzX g 0 (d + 1) mX11_proud 4 [some (.inr (.inr (0, 30))), some (.inl x1), some (.inl x2)] [] (gzN, gzR0, I, J) 0 (gzE (.ok (some (.inl r))) (gzN, gzR0, I, J))
def f_X11_proud_4 (φ : Nat) (I : gzIT) : Nat → Int32 → Int32 → Option Int32
  | 0, _, _ => none
  | k + 1, x1, x2 => if I 0 1 5 ≤ x2 then (some x1) else (if x1 = (-1) then (f_X11_proud_4 φ I k x2 (x2 + 1)) else (gzGd (x2) 6 (Option.bind (f_X11_cell 0 2 6 I x1) (fun v3 => if I 0 2 x2.toNatClampNeg ≤ v3 then (f_X11_proud_4 φ I k x1 (x2 + 1)) else (f_X11_proud_4 φ I k x2 (x2 + 1))))))
set_option maxRecDepth 20000 in
theorem p_X11_proud_4 {g : gzG} {d φ : Nat} {I : gzIT} {J : gzJT} {r : Int32} : ∀ (k : Nat) (x1 : Int32) (x2 : Int32), f_X11_proud_4 φ I k x1 x2 = some r → gP_X11_proud_4 g d r x1 x2 I J := by
  intro k; induction k with
  | zero => intro x1 x2 h; cases h
  | succ k ih =>
    intro x1 x2 h
    unfold f_X11_proud_4 at h
    unfold gP_X11_proud_4
    have z_0_30 : gzOk 0 30 gzN := gzOk_of (by decide)
    have z_0_0 : gzOk 0 0 gzN := gzOk_of (by decide)
    have z_0_1 : gzOk 0 1 gzN := gzOk_of (by decide)
    have z_0_2 : gzOk 0 2 gzN := gzOk_of (by decide)
    refine gz_iload_n (pc := 4) dX11_proud_4 rfl ?_
    refine gz_aload_n (pc := 5) dX11_proud_5 rfl ?_
    refine gr_X11_42 (pc := 6) dX11_proud_6 z_0_30 rfl ?_
    refine gr_X11_131 (pc := 9) dX11_proud_9 z_0_0 rfl ?_
    refine gi_X11_310 (pc := 12) dX11_proud_12 (v := I 0 1 5) z_0_1 rfl rfl ?_
    refine gz_ic_ge (pc := 15) (tgt := 60) dX11_proud_15 (by decide) (fun c => ?_) (fun c => ?_)
    · replace h := gz_ifp c h
      refine gz_iload_n (pc := 60) dX11_proud_60 rfl ?_
      cases h; exact gz_iret (pc := 61) dX11_proud_61 rfl ⟨rfl, rfl⟩
    · replace h := gz_ifn c h
      refine gz_iload_n (pc := 18) dX11_proud_18 rfl ?_
      refine gz_iconst (pc := 19) dX11_proud_19 (v := (-1)) (by decide) ?_
      refine gz_ic_eq (pc := 20) (tgt := 52) dX11_proud_20 (by decide) (fun c => ?_) (fun c => ?_)
      · replace h := gz_ifp c h
        refine gz_iload_n (pc := 52) dX11_proud_52 rfl ?_
        refine gz_istore_n (pc := 53) dX11_proud_53 (by decide) rfl (loc2 := [some (.inr (.inr (0, 30))), some (.inl x2), some (.inl x2)]) rfl ?_
        refine gz_iinc (pc := 54) dX11_proud_54 (x := x2) (v := x2 + 1) rfl (by rw [show Int32.ofInt 1 = 1 by decide]) (by decide) rfl (loc2 := [some (.inr (.inr (0, 30))), some (.inl x2), some (.inl (x2 + 1))]) rfl ?_
        refine gz_goto (pc := 57) (tgt := 4) dX11_proud_57 (by decide) ?_
        exact ih x2 (x2 + 1) h
      · replace h := gz_ifn c h
        refine gz_aload_n (pc := 23) dX11_proud_23 rfl ?_
        refine gr_X11_42 (pc := 24) dX11_proud_24 z_0_30 rfl ?_
        refine gr_X11_131 (pc := 27) dX11_proud_27 z_0_0 rfl ?_
        refine gr_X11_135 (pc := 30) dX11_proud_30 z_0_1 rfl ?_
        refine gz_iload_n (pc := 33) dX11_proud_33 rfl ?_
        obtain ⟨b1, h⟩ := gz_gd h
        refine gz_iald2 (pc := 34) dX11_proud_34 (k := x2.toNatClampNeg) (v := I 0 2 x2.toNatClampNeg) z_0_2 rfl b1 rfl rfl ?_
        refine gz_aload_n (pc := 35) dX11_proud_35 rfl ?_
        refine gr_X11_42 (pc := 36) dX11_proud_36 z_0_30 rfl ?_
        refine gr_X11_131 (pc := 39) dX11_proud_39 z_0_0 rfl ?_
        refine gr_X11_135 (pc := 42) dX11_proud_42 z_0_1 rfl ?_
        refine gz_iload_n (pc := 45) dX11_proud_45 rfl ?_
        refine gz_S (zy := mX11_cell) (zc := 0) (pc := 46) [.inr (.inr (0, 2)), .inl x1] rfl dX11_proud_46 lkX11_406 MsX11_cell rfl (Or.inl rfl) (fun h => h) (by exact Nat.le_of_ble_eq_true rfl) ?_
        obtain ⟨v3, e2, h⟩ := gz_bd h
        refine gz_useI (c_X11_cell (gzOk_of (by decide)) rfl e2) ?_
        refine gz_ic_le (pc := 49) (tgt := 54) dX11_proud_49 (by decide) (fun c => ?_) (fun c => ?_)
        · replace h := gz_ifp c h
          refine gz_iinc (pc := 54) dX11_proud_54 (x := x2) (v := x2 + 1) rfl (by rw [show Int32.ofInt 1 = 1 by decide]) (by decide) rfl (loc2 := [some (.inr (.inr (0, 30))), some (.inl x1), some (.inl (x2 + 1))]) rfl ?_
          refine gz_goto (pc := 57) (tgt := 4) dX11_proud_57 (by decide) ?_
          exact ih x1 (x2 + 1) h
        · replace h := gz_ifn c h
          refine gz_iload_n (pc := 52) dX11_proud_52 rfl ?_
          refine gz_istore_n (pc := 53) dX11_proud_53 (by decide) rfl (loc2 := [some (.inr (.inr (0, 30))), some (.inl x2), some (.inl x2)]) rfl ?_
          refine gz_iinc (pc := 54) dX11_proud_54 (x := x2) (v := x2 + 1) rfl (by rw [show Int32.ofInt 1 = 1 by decide]) (by decide) rfl (loc2 := [some (.inr (.inr (0, 30))), some (.inl x2), some (.inl (x2 + 1))]) rfl ?_
          refine gz_goto (pc := 57) (tgt := 4) dX11_proud_57 (by decide) ?_
          exact ih x2 (x2 + 1) h
def f_X11_proud (φ : Nat) (I : gzIT) : Option Int32 := f_X11_proud_4 φ I φ (-1) 0
set_option maxRecDepth 20000 in
theorem c_X11_proud {g : gzG} {d φ : Nat} {I : gzIT} {J : gzJT} {r : Int32} (h : f_X11_proud φ I = some r) : gzC g 0 (d + 1) mX11_proud [.inr (.inr (0, 30))] (gzN, gzR0, I, J) (gzE (.ok (some (.inl r))) (gzN, gzR0, I, J)) := by
  unfold f_X11_proud at h
  refine gzC_of (by decide +kernel) (Nat.le_of_ble_eq_true rfl) (loc := [some (.inr (.inr (0, 30))), none, none]) rfl ?_
  refine gz_iconst (pc := 0) dX11_proud_0 (v := (-1)) (by decide) ?_
  refine gz_istore_n (pc := 1) dX11_proud_1 (by decide) rfl (loc2 := [some (.inr (.inr (0, 30))), some (.inl (-1)), none]) rfl ?_
  refine gz_iconst (pc := 2) dX11_proud_2 (v := 0) (by decide) ?_
  refine gz_istore_n (pc := 3) dX11_proud_3 (by decide) rfl (loc2 := [some (.inr (.inr (0, 30))), some (.inl (-1)), some (.inl 0)]) rfl ?_
  exact p_X11_proud_4 φ (-1) 0 h
/-! X11_offs: offs -/
def gP_X11_offs_4 (g : gzG) (d : Nat) (r : Int32) (x1 : Int32) (x2 : Int32) (I : gzIT) (J : gzJT) : Prop := gzX g 0 d mX11_offs 4 [some (.inr (.inr (0, 30))), some (.inl x1), some (.inl x2)] [] (gzN, gzR0, I, J) 0 (gzE (.ok (some (.inl r))) (gzN, gzR0, I, J))
def f_X11_offs_4 (φ : Nat) (I : gzIT) : Nat → Int32 → Int32 → Option Int32
  | 0, _, _ => none
  | k + 1, x1, x2 => if I 0 1 5 ≤ x2 then (some x1) else (gzGd (x2) 6 (if I 0 5 x2.toNatClampNeg ≤ 0 then (f_X11_offs_4 φ I k x1 (x2 + 1)) else (f_X11_offs_4 φ I k (x1 ||| ((1 : Int32) <<< (x2 &&& 31))) (x2 + 1))))
set_option maxRecDepth 20000 in
theorem p_X11_offs_4 {g : gzG} {d φ : Nat} {I : gzIT} {J : gzJT} {r : Int32} : ∀ (k : Nat) (x1 : Int32) (x2 : Int32), f_X11_offs_4 φ I k x1 x2 = some r → gP_X11_offs_4 g d r x1 x2 I J := by
  intro k; induction k with
  | zero => intro x1 x2 h; cases h
  | succ k ih =>
    intro x1 x2 h
    unfold f_X11_offs_4 at h
    unfold gP_X11_offs_4
    have z_0_30 : gzOk 0 30 gzN := gzOk_of (by decide)
    have z_0_0 : gzOk 0 0 gzN := gzOk_of (by decide)
    have z_0_1 : gzOk 0 1 gzN := gzOk_of (by decide)
    have z_0_5 : gzOk 0 5 gzN := gzOk_of (by decide)
    refine gz_iload_n (pc := 4) dX11_offs_4 rfl ?_
    refine gz_aload_n (pc := 5) dX11_offs_5 rfl ?_
    refine gr_X11_42 (pc := 6) dX11_offs_6 z_0_30 rfl ?_
    refine gr_X11_131 (pc := 9) dX11_offs_9 z_0_0 rfl ?_
    refine gi_X11_310 (pc := 12) dX11_offs_12 (v := I 0 1 5) z_0_1 rfl rfl ?_
    refine gz_ic_ge (pc := 15) (tgt := 45) dX11_offs_15 (by decide) (fun c => ?_) (fun c => ?_)
    · replace h := gz_ifp c h
      refine gz_iload_n (pc := 45) dX11_offs_45 rfl ?_
      cases h; exact gz_iret (pc := 46) dX11_offs_46 rfl ⟨rfl, rfl⟩
    · replace h := gz_ifn c h
      refine gz_aload_n (pc := 18) dX11_offs_18 rfl ?_
      refine gr_X11_42 (pc := 19) dX11_offs_19 z_0_30 rfl ?_
      refine gr_X11_131 (pc := 22) dX11_offs_22 z_0_0 rfl ?_
      refine gr_X11_147 (pc := 25) dX11_offs_25 z_0_1 rfl ?_
      refine gz_iload_n (pc := 28) dX11_offs_28 rfl ?_
      obtain ⟨b1, h⟩ := gz_gd h
      refine gz_iald2 (pc := 29) dX11_offs_29 (k := x2.toNatClampNeg) (v := I 0 5 x2.toNatClampNeg) z_0_5 rfl b1 rfl rfl ?_
      refine gz_if_le (pc := 30) (tgt := 39) dX11_offs_30 (by decide) (fun c => ?_) (fun c => ?_)
      · replace h := gz_ifp c h
        refine gz_iinc (pc := 39) dX11_offs_39 (x := x2) (v := x2 + 1) rfl (by rw [show Int32.ofInt 1 = 1 by decide]) (by decide) rfl (loc2 := [some (.inr (.inr (0, 30))), some (.inl x1), some (.inl (x2 + 1))]) rfl ?_
        refine gz_goto (pc := 42) (tgt := 4) dX11_offs_42 (by decide) ?_
        exact ih x1 (x2 + 1) h
      · replace h := gz_ifn c h
        refine gz_iload_n (pc := 33) dX11_offs_33 rfl ?_
        refine gz_iconst (pc := 34) dX11_offs_34 (v := 1) (by decide) ?_
        refine gz_iload_n (pc := 35) dX11_offs_35 rfl ?_
        refine gz_ishl (pc := 36) dX11_offs_36  ?_
        refine gz_ior (pc := 37) dX11_offs_37  ?_
        refine gz_istore_n (pc := 38) dX11_offs_38 (by decide) rfl (loc2 := [some (.inr (.inr (0, 30))), some (.inl (x1 ||| ((1 : Int32) <<< (x2 &&& 31)))), some (.inl x2)]) rfl ?_
        refine gz_iinc (pc := 39) dX11_offs_39 (x := x2) (v := x2 + 1) rfl (by rw [show Int32.ofInt 1 = 1 by decide]) (by decide) rfl (loc2 := [some (.inr (.inr (0, 30))), some (.inl (x1 ||| ((1 : Int32) <<< (x2 &&& 31)))), some (.inl (x2 + 1))]) rfl ?_
        refine gz_goto (pc := 42) (tgt := 4) dX11_offs_42 (by decide) ?_
        exact ih (x1 ||| ((1 : Int32) <<< (x2 &&& 31))) (x2 + 1) h
def f_X11_offs (φ : Nat) (I : gzIT) : Option Int32 := f_X11_offs_4 φ I φ 0 0
set_option maxRecDepth 20000 in
theorem c_X11_offs {g : gzG} {d φ : Nat} {I : gzIT} {J : gzJT} {r : Int32} (h : f_X11_offs φ I = some r) : gzC g 0 d mX11_offs [.inr (.inr (0, 30))] (gzN, gzR0, I, J) (gzE (.ok (some (.inl r))) (gzN, gzR0, I, J)) := by
  unfold f_X11_offs at h
  refine gzC_of (by decide +kernel) (Nat.le_of_ble_eq_true rfl) (loc := [some (.inr (.inr (0, 30))), none, none]) rfl ?_
  refine gz_iconst (pc := 0) dX11_offs_0 (v := 0) (by decide) ?_
  refine gz_istore_n (pc := 1) dX11_offs_1 (by decide) rfl (loc2 := [some (.inr (.inr (0, 30))), some (.inl 0), none]) rfl ?_
  refine gz_iconst (pc := 2) dX11_offs_2 (v := 0) (by decide) ?_
  refine gz_istore_n (pc := 3) dX11_offs_3 (by decide) rfl (loc2 := [some (.inr (.inr (0, 30))), some (.inl 0), some (.inl 0)]) rfl ?_
  exact p_X11_offs_4 φ 0 0 h
/-! X11_twins: twins -/
def gP_X11_twins_20 (g : gzG) (d : Nat) (r : Int32) (x1 : Int32) (x2 : Int32) (x3 : Int32) (I : gzIT) (J : gzJT) : Prop := gzX g 0 (d + 2) mX11_twins 20 [some (.inr (.inr (0, 30))), some (.inl x1), some (.inl x2), some (.inl x3)] [] (gzN, gzR0, I, J) 0 (gzE (.ok (some (.inl r))) (gzN, gzR0, I, J))
def gP_X11_twins_4 (g : gzG) (d : Nat) (r : Int32) (x1 : Int32) (x2 : Int32) (I : gzIT) (J : gzJT) : Prop := gzX g 0 (d + 2) mX11_twins 4 [some (.inr (.inr (0, 30))), some (.inl x1), some (.inl x2), none] [] (gzN, gzR0, I, J) 0 (gzE (.ok (some (.inl r))) (gzN, gzR0, I, J))
def f_X11_twins_20 (φ : Nat) (I : gzIT) (K4 : Int32 → Int32 → Option Int32) : Nat → Int32 → Int32 → Int32 → Option Int32
  | 0, _, _, _ => none
  | k + 1, x1, x2, x3 => if x2 ≤ x3 then (K4 x1 (x2 + 1)) else (Option.bind (f_X1_alike 0 I x2 x3) (fun v2 => if v2 = 0 then (f_X11_twins_20 φ I K4 k x1 x2 (x3 + 1)) else (f_X11_twins_20 φ I K4 k (x1 + 1) x2 (x3 + 1))))
set_option maxRecDepth 20000 in
theorem p_X11_twins_20 {g : gzG} {d φ : Nat} {I : gzIT} {J : gzJT} {r : Int32} {K4 : Int32 → Int32 → Option Int32} (hK4 : ∀ (x1 : Int32) (x2 : Int32), K4 x1 x2 = some r → gP_X11_twins_4 g d r x1 x2 I J) : ∀ (k : Nat) (x1 : Int32) (x2 : Int32) (x3 : Int32), f_X11_twins_20 φ I K4 k x1 x2 x3 = some r → gP_X11_twins_20 g d r x1 x2 x3 I J := by
  intro k; induction k with
  | zero => intro x1 x2 x3 h; cases h
  | succ k ih =>
    intro x1 x2 x3 h
    unfold f_X11_twins_20 at h
    unfold gP_X11_twins_20
    have z_0_30 : gzOk 0 30 gzN := gzOk_of (by decide)
    have z_0_0 : gzOk 0 0 gzN := gzOk_of (by decide)
    have z_0_7 : gzOk 0 7 gzN := gzOk_of (by decide)
    refine gz_iload_n (pc := 20) dX11_twins_20 rfl ?_
    refine gz_iload_n (pc := 21) dX11_twins_21 rfl ?_
    refine gz_ic_ge (pc := 22) (tgt := 49) dX11_twins_22 (by decide) (fun c => ?_) (fun c => ?_)
    · replace h := gz_ifp c h
      refine gz_iinc (pc := 49) dX11_twins_49 (x := x2) (v := x2 + 1) rfl (by rw [show Int32.ofInt 1 = 1 by decide]) (by decide) rfl (loc2 := [some (.inr (.inr (0, 30))), some (.inl x1), some (.inl (x2 + 1)), some (.inl x3)]) rfl ?_
      refine gz_goto (pc := 52) (tgt := 4) dX11_twins_52 (by decide) ?_
      exact gz_weak (loc2 := [some (.inr (.inr (0, 30))), some (.inl x1), some (.inl (x2 + 1)), none]) (hK4 x1 (x2 + 1) h) (by repeat (first | exact trivial | refine ⟨rfl, ?_⟩))
    · replace h := gz_ifn c h
      refine gz_aload_n (pc := 25) dX11_twins_25 rfl ?_
      refine gr_X11_42 (pc := 26) dX11_twins_26 z_0_30 rfl ?_
      refine gr_X11_150 (pc := 29) dX11_twins_29 z_0_0 rfl ?_
      refine gz_iload_n (pc := 32) dX11_twins_32 rfl ?_
      refine gz_iload_n (pc := 33) dX11_twins_33 rfl ?_
      refine gz_V (zy := mX1_alike) (zc := 0) (pc := 34) [.inl x2, .inl x3] rfl dX11_twins_34 lkX11_409 MvX1_alike rfl z_0_7 rfl rfl rfl (Or.inl rfl) (fun h => h) (by exact Nat.le_of_ble_eq_true rfl) ?_
      obtain ⟨v2, e1, h⟩ := gz_bd h
      refine gz_useI (c_X1_alike (by decide) e1) ?_
      refine gz_if_eq (pc := 37) (tgt := 43) dX11_twins_37 (by decide) (fun c => ?_) (fun c => ?_)
      · replace h := gz_ifp c h
        refine gz_iinc (pc := 43) dX11_twins_43 (x := x3) (v := x3 + 1) rfl (by rw [show Int32.ofInt 1 = 1 by decide]) (by decide) rfl (loc2 := [some (.inr (.inr (0, 30))), some (.inl x1), some (.inl x2), some (.inl (x3 + 1))]) rfl ?_
        refine gz_goto (pc := 46) (tgt := 20) dX11_twins_46 (by decide) ?_
        exact ih x1 x2 (x3 + 1) h
      · replace h := gz_ifn c h
        refine gz_iinc (pc := 40) dX11_twins_40 (x := x1) (v := x1 + 1) rfl (by rw [show Int32.ofInt 1 = 1 by decide]) (by decide) rfl (loc2 := [some (.inr (.inr (0, 30))), some (.inl (x1 + 1)), some (.inl x2), some (.inl x3)]) rfl ?_
        refine gz_iinc (pc := 43) dX11_twins_43 (x := x3) (v := x3 + 1) rfl (by rw [show Int32.ofInt 1 = 1 by decide]) (by decide) rfl (loc2 := [some (.inr (.inr (0, 30))), some (.inl (x1 + 1)), some (.inl x2), some (.inl (x3 + 1))]) rfl ?_
        refine gz_goto (pc := 46) (tgt := 20) dX11_twins_46 (by decide) ?_
        exact ih (x1 + 1) x2 (x3 + 1) h
def f_X11_twins_4 (φ : Nat) (I : gzIT) : Nat → Int32 → Int32 → Option Int32
  | 0, _, _ => none
  | k + 1, x1, x2 => if I 0 7 7 ≤ x2 then (some x1) else (f_X11_twins_20 φ I (f_X11_twins_4 φ I k) φ x1 x2 0)
set_option maxRecDepth 20000 in
theorem p_X11_twins_4 {g : gzG} {d φ : Nat} {I : gzIT} {J : gzJT} {r : Int32} : ∀ (k : Nat) (x1 : Int32) (x2 : Int32), f_X11_twins_4 φ I k x1 x2 = some r → gP_X11_twins_4 g d r x1 x2 I J := by
  intro k; induction k with
  | zero => intro x1 x2 h; cases h
  | succ k ih =>
    intro x1 x2 h
    unfold f_X11_twins_4 at h
    unfold gP_X11_twins_4
    have z_0_30 : gzOk 0 30 gzN := gzOk_of (by decide)
    have z_0_0 : gzOk 0 0 gzN := gzOk_of (by decide)
    have z_0_7 : gzOk 0 7 gzN := gzOk_of (by decide)
    refine gz_iload_n (pc := 4) dX11_twins_4 rfl ?_
    refine gz_aload_n (pc := 5) dX11_twins_5 rfl ?_
    refine gr_X11_42 (pc := 6) dX11_twins_6 z_0_30 rfl ?_
    refine gr_X11_150 (pc := 9) dX11_twins_9 z_0_0 rfl ?_
    refine gi_X11_242 (pc := 12) dX11_twins_12 (v := I 0 7 7) z_0_7 rfl rfl ?_
    refine gz_ic_ge (pc := 15) (tgt := 55) dX11_twins_15 (by decide) (fun c => ?_) (fun c => ?_)
    · replace h := gz_ifp c h
      refine gz_iload_n (pc := 55) dX11_twins_55 rfl ?_
      cases h; exact gz_iret (pc := 56) dX11_twins_56 rfl ⟨rfl, rfl⟩
    · replace h := gz_ifn c h
      refine gz_iconst (pc := 18) dX11_twins_18 (v := 0) (by decide) ?_
      refine gz_istore_n (pc := 19) dX11_twins_19 (by decide) rfl (loc2 := [some (.inr (.inr (0, 30))), some (.inl x1), some (.inl x2), some (.inl 0)]) rfl ?_
      exact p_X11_twins_20 ih φ x1 x2 0 h
def f_X11_twins (φ : Nat) (I : gzIT) : Option Int32 := f_X11_twins_4 φ I φ 0 0
set_option maxRecDepth 20000 in
theorem c_X11_twins {g : gzG} {d φ : Nat} {I : gzIT} {J : gzJT} {r : Int32} (h : f_X11_twins φ I = some r) : gzC g 0 (d + 2) mX11_twins [.inr (.inr (0, 30))] (gzN, gzR0, I, J) (gzE (.ok (some (.inl r))) (gzN, gzR0, I, J)) := by
  unfold f_X11_twins at h
  refine gzC_of (by decide +kernel) (Nat.le_of_ble_eq_true rfl) (loc := [some (.inr (.inr (0, 30))), none, none, none]) rfl ?_
  refine gz_iconst (pc := 0) dX11_twins_0 (v := 0) (by decide) ?_
  refine gz_istore_n (pc := 1) dX11_twins_1 (by decide) rfl (loc2 := [some (.inr (.inr (0, 30))), some (.inl 0), none, none]) rfl ?_
  refine gz_iconst (pc := 2) dX11_twins_2 (v := 0) (by decide) ?_
  refine gz_istore_n (pc := 3) dX11_twins_3 (by decide) rfl (loc2 := [some (.inr (.inr (0, 30))), some (.inl 0), some (.inl 0), none]) rfl ?_
  exact p_X11_twins_4 φ 0 0 h
/-! X11_ahead: ahead -/
def gP_X11_ahead_26 (g : gzG) (d : Nat) (r : (Except String Int32) × gzIT × gzJT) (x1 : Int32) (x2 : Int32) (x3 : Int32) (I : gzIT) (J : gzJT) : Prop := gzX g 0 (d + 6) mX11_ahead 26 [some (.inr (.inr (0, 30))), some (.inl x1), some (.inl x2), some (.inl x3)] [] (gzN, gzR0, I, J) 0 (gzE (gzRI r.1) (gzN, gzR0, r.2.1, r.2.2))
def f_X11_ahead_26 (φ : Nat) : Nat → Int32 → Int32 → Int32 → gzIT → gzJT → Option ((Except String Int32) × gzIT × gzJT)
  | 0, _, _, _, _, _ => none
  | k + 1, x1, x2, x3, I, J => if x2 ≤ x3 then (gzGd (x1) 10 (some (.ok (I 1 12 x1.toNatClampNeg), I, J))) else (Option.bind (f_X8_pass φ 1 0 0 I J) (fun v13 => f_X11_ahead_26 φ k x1 x2 (x3 + 1) v13.2.1 v13.2.2))
set_option maxRecDepth 20000 in
theorem p_X11_ahead_26 {g : gzG} {d φ : Nat} {r : (Except String Int32) × gzIT × gzJT} : ∀ (k : Nat) (x1 : Int32) (x2 : Int32) (x3 : Int32) (I : gzIT) (J : gzJT), f_X11_ahead_26 φ k x1 x2 x3 I J = some r → gP_X11_ahead_26 g d r x1 x2 x3 I J := by
  intro k; induction k with
  | zero => intro x1 x2 x3 I J h; cases h
  | succ k ih =>
    intro x1 x2 x3 I J h
    unfold f_X11_ahead_26 at h
    unfold gP_X11_ahead_26
    have z_0_30 : gzOk 0 30 gzN := gzOk_of (by decide)
    have z_1_0 : gzOk 1 0 gzN := gzOk_of (by decide)
    have z_1_7 : gzOk 1 7 gzN := gzOk_of (by decide)
    have z_1_12 : gzOk 1 12 gzN := gzOk_of (by decide)
    refine gz_iload_n (pc := 26) dX11_ahead_26 rfl ?_
    refine gz_iload_n (pc := 27) dX11_ahead_27 rfl ?_
    refine gz_ic_ge (pc := 28) (tgt := 50) dX11_ahead_28 (by decide) (fun c => ?_) (fun c => ?_)
    · replace h := gz_ifp c h
      refine gz_aload_n (pc := 50) dX11_ahead_50 rfl ?_
      refine gr_X11_46 (pc := 51) dX11_ahead_51 z_0_30 rfl ?_
      refine gr_X11_150 (pc := 54) dX11_ahead_54 z_1_0 rfl ?_
      refine gr_X11_186 (pc := 57) dX11_ahead_57 z_1_7 rfl ?_
      refine gz_iload_n (pc := 60) dX11_ahead_60 rfl ?_
      obtain ⟨b11, h⟩ := gz_gd h
      refine gz_iald2 (pc := 61) dX11_ahead_61 (k := x1.toNatClampNeg) (v := I 1 12 x1.toNatClampNeg) z_1_12 rfl b11 rfl rfl ?_
      cases h; exact gz_iret (pc := 62) dX11_ahead_62 rfl ⟨rfl, rfl⟩
    · replace h := gz_ifn c h
      refine gz_aload_n (pc := 31) dX11_ahead_31 rfl ?_
      refine gr_X11_46 (pc := 32) dX11_ahead_32 z_0_30 rfl ?_
      refine gz_aload_n (pc := 35) dX11_ahead_35 rfl ?_
      refine gr_X11_52 (pc := 36) dX11_ahead_36 z_0_30 rfl ?_
      refine gz_iconst (pc := 39) dX11_ahead_39 (v := 0) (by decide) ?_
      refine gz_V (zy := mX8_pass) (zc := 0) (pc := 40) [.inr (.inr (0, 20)), .inl 0] rfl dX11_ahead_40 lkX11_230 MvX8_pass rfl z_1_0 rfl rfl rfl (Or.inl rfl) (fun h => h) (by exact Nat.le_of_ble_eq_true rfl) ?_
      obtain ⟨v13, e12, h⟩ := gz_bd h
      refine gz_useI (c_X8_pass (by decide) (by decide) e12) ?_
      refine gz_popI (pc := 43) dX11_ahead_43  ?_
      refine gz_iinc (pc := 44) dX11_ahead_44 (x := x3) (v := x3 + 1) rfl (by rw [show Int32.ofInt 1 = 1 by decide]) (by decide) rfl (loc2 := [some (.inr (.inr (0, 30))), some (.inl x1), some (.inl x2), some (.inl (x3 + 1))]) rfl ?_
      refine gz_goto (pc := 47) (tgt := 26) dX11_ahead_47 (by decide) ?_
      exact ih x1 x2 (x3 + 1) v13.2.1 v13.2.2 h
def f_X11_ahead (φ : Nat) (a1 : Int32) (a2 : Int32) (I : gzIT) (J : gzJT) : Option ((Except String Int32) × gzIT × gzJT) := Option.bind (f_X11_needGrudge a1 I J) (fun v2 => gzEx v2.1 (fun E => some (.error E, v2.2.1, v2.2.2)) (fun w4 => Option.bind (f_X11_needNumber a2 0 60 v2.2.1 v2.2.2) (fun v6 => gzEx v6.1 (fun E => some (.error E, v6.2.1, v6.2.2)) (fun w8 => Option.bind (f_X8_copyFrom φ 1 0 v6.2.1 v6.2.2) (fun v10 => f_X11_ahead_26 φ φ a1 a2 0 v10.2.1 v10.2.2)))))
set_option maxRecDepth 20000 in
theorem c_X11_ahead {g : gzG} {d φ : Nat} {a1 : Int32} {a2 : Int32} {I : gzIT} {J : gzJT} {r : (Except String Int32) × gzIT × gzJT} (h : f_X11_ahead φ a1 a2 I J = some r) : gzC g 0 (d + 6) mX11_ahead [.inr (.inr (0, 30)), .inl a1, .inl a2] (gzN, gzR0, I, J) (gzE (gzRI r.1) (gzN, gzR0, r.2.1, r.2.2)) := by
  unfold f_X11_ahead at h
  refine gzC_of (by decide +kernel) (Nat.le_of_ble_eq_true rfl) (loc := [some (.inr (.inr (0, 30))), some (.inl a1), some (.inl a2), none]) rfl ?_
  have z_0_30 : gzOk 0 30 gzN := gzOk_of (by decide)
  have z_1_0 : gzOk 1 0 gzN := gzOk_of (by decide)
  refine gz_aload_n (pc := 0) dX11_ahead_0 rfl ?_
  refine gz_iload_n (pc := 1) dX11_ahead_1 rfl ?_
  refine gz_V (zy := mX11_needGrudge) (zc := 0) (pc := 2) [.inl a1] rfl dX11_ahead_2 lkX11_171 MvX11_needGrudge rfl z_0_30 rfl rfl rfl (Or.inl rfl) (fun h => h) (by exact Nat.le_of_ble_eq_true rfl) ?_
  obtain ⟨v2, e1, h⟩ := gz_bd h
  cases x3 : v2.1 with
  | error E => replace h := gz_exe x3 h; cases h; exact gz_useTV x3 (c_X11_needGrudge e1) ⟨by simp [gzRI, gzRJ, gzRV], rfl⟩
  | ok w4 =>
    replace h := gz_exo x3 h
    refine gz_useOV x3 (c_X11_needGrudge e1) ?_
    refine gz_aload_n (pc := 5) dX11_ahead_5 rfl ?_
    refine gz_iload_n (pc := 6) dX11_ahead_6 rfl ?_
    refine gz_iconst (pc := 7) dX11_ahead_7 (v := 0) (by decide) ?_
    refine gz_bipush (pc := 8) dX11_ahead_8 (v := 60) (by decide) ?_
    refine gz_V (zy := mX11_needNumber) (zc := 0) (pc := 10) [.inl a2, .inl 0, .inl 60] rfl dX11_ahead_10 lkX11_223 MvX11_needNumber rfl z_0_30 rfl rfl rfl (Or.inl rfl) (fun h => h) (by exact Nat.le_of_ble_eq_true rfl) ?_
    obtain ⟨v6, e5, h⟩ := gz_bd h
    cases x7 : v6.1 with
    | error E => replace h := gz_exe x7 h; cases h; exact gz_useTV x7 (c_X11_needNumber e5) ⟨by simp [gzRI, gzRJ, gzRV], rfl⟩
    | ok w8 =>
      replace h := gz_exo x7 h
      refine gz_useOV x7 (c_X11_needNumber e5) ?_
      refine gz_aload_n (pc := 13) dX11_ahead_13 rfl ?_
      refine gr_X11_46 (pc := 14) dX11_ahead_14 z_0_30 rfl ?_
      refine gz_aload_n (pc := 17) dX11_ahead_17 rfl ?_
      refine gr_X11_42 (pc := 18) dX11_ahead_18 z_0_30 rfl ?_
      refine gz_V (zy := mX8_copyFrom) (zc := 0) (pc := 21) [.inr (.inr (0, 0))] rfl dX11_ahead_21 lkX11_95 MvX8_copyFrom rfl z_1_0 rfl rfl rfl (Or.inl rfl) (fun h => h) (by exact Nat.le_of_ble_eq_true rfl) ?_
      obtain ⟨v10, e9, h⟩ := gz_bd h
      refine gz_useV (c_X8_copyFrom (by decide) (by decide) e9) ?_
      refine gz_iconst (pc := 24) dX11_ahead_24 (v := 0) (by decide) ?_
      refine gz_istore_n (pc := 25) dX11_ahead_25 (by decide) rfl (loc2 := [some (.inr (.inr (0, 30))), some (.inl a1), some (.inl a2), some (.inl 0)]) rfl ?_
      exact p_X11_ahead_26 φ a1 a2 0 v10.2.1 v10.2.2 h
/-! X11_larder: larder -/
def gP_X11_larder_26 (g : gzG) (d : Nat) (r : (Except String Int32) × gzIT × gzJT) (x1 : Int32) (x2 : Int32) (x3 : Int32) (I : gzIT) (J : gzJT) : Prop := gzX g 0 (d + 3) mX11_larder 26 [some (.inr (.inr (0, 30))), some (.inl x1), some (.inl x2), some (.inl x3)] [] (gzN, gzR0, I, J) 0 (gzE (gzRI r.1) (gzN, gzR0, r.2.1, r.2.2))
def f_X11_larder_26 (φ : Nat) : Nat → Int32 → Int32 → Int32 → gzIT → gzJT → Option ((Except String Int32) × gzIT × gzJT)
  | 0, _, _, _, _, _ => none
  | k + 1, x1, x2, x3, I, J => if x2 ≤ x3 then (gzGd (x1) 6 (some (.ok (I 1 4 x1.toNatClampNeg), I, J))) else (Option.bind (f_X0_eat φ 1 I J) (fun v13 => f_X11_larder_26 φ k x1 x2 (x3 + 1) v13.2.1 v13.2.2))
set_option maxRecDepth 20000 in
theorem p_X11_larder_26 {g : gzG} {d φ : Nat} {r : (Except String Int32) × gzIT × gzJT} : ∀ (k : Nat) (x1 : Int32) (x2 : Int32) (x3 : Int32) (I : gzIT) (J : gzJT), f_X11_larder_26 φ k x1 x2 x3 I J = some r → gP_X11_larder_26 g d r x1 x2 x3 I J := by
  intro k; induction k with
  | zero => intro x1 x2 x3 I J h; cases h
  | succ k ih =>
    intro x1 x2 x3 I J h
    unfold f_X11_larder_26 at h
    unfold gP_X11_larder_26
    have z_0_30 : gzOk 0 30 gzN := gzOk_of (by decide)
    have z_1_0 : gzOk 1 0 gzN := gzOk_of (by decide)
    have z_1_1 : gzOk 1 1 gzN := gzOk_of (by decide)
    have z_1_4 : gzOk 1 4 gzN := gzOk_of (by decide)
    refine gz_iload_n (pc := 26) dX11_larder_26 rfl ?_
    refine gz_iload_n (pc := 27) dX11_larder_27 rfl ?_
    refine gz_ic_ge (pc := 28) (tgt := 47) dX11_larder_28 (by decide) (fun c => ?_) (fun c => ?_)
    · replace h := gz_ifp c h
      refine gz_aload_n (pc := 47) dX11_larder_47 rfl ?_
      refine gr_X11_46 (pc := 48) dX11_larder_48 z_0_30 rfl ?_
      refine gr_X11_131 (pc := 51) dX11_larder_51 z_1_0 rfl ?_
      refine gr_X11_144 (pc := 54) dX11_larder_54 z_1_1 rfl ?_
      refine gz_iload_n (pc := 57) dX11_larder_57 rfl ?_
      obtain ⟨b11, h⟩ := gz_gd h
      refine gz_iald2 (pc := 58) dX11_larder_58 (k := x1.toNatClampNeg) (v := I 1 4 x1.toNatClampNeg) z_1_4 rfl b11 rfl rfl ?_
      cases h; exact gz_iret (pc := 59) dX11_larder_59 rfl ⟨rfl, rfl⟩
    · replace h := gz_ifn c h
      refine gz_aload_n (pc := 31) dX11_larder_31 rfl ?_
      refine gr_X11_46 (pc := 32) dX11_larder_32 z_0_30 rfl ?_
      refine gr_X11_131 (pc := 35) dX11_larder_35 z_1_0 rfl ?_
      refine gz_V (zy := mX0_eat) (zc := 0) (pc := 38) [] rfl dX11_larder_38 lkX11_412 MvX0_eat rfl z_1_1 rfl rfl rfl (Or.inl rfl) (fun h => h) (by exact Nat.le_of_ble_eq_true rfl) ?_
      obtain ⟨v13, e12, h⟩ := gz_bd h
      refine gz_useV (c_X0_eat (by decide) e12) ?_
      refine gz_iinc (pc := 41) dX11_larder_41 (x := x3) (v := x3 + 1) rfl (by rw [show Int32.ofInt 1 = 1 by decide]) (by decide) rfl (loc2 := [some (.inr (.inr (0, 30))), some (.inl x1), some (.inl x2), some (.inl (x3 + 1))]) rfl ?_
      refine gz_goto (pc := 44) (tgt := 26) dX11_larder_44 (by decide) ?_
      exact ih x1 x2 (x3 + 1) v13.2.1 v13.2.2 h
def f_X11_larder (φ : Nat) (a1 : Int32) (a2 : Int32) (I : gzIT) (J : gzJT) : Option ((Except String Int32) × gzIT × gzJT) := Option.bind (f_X11_needFamily a1 I J) (fun v2 => gzEx v2.1 (fun E => some (.error E, v2.2.1, v2.2.2)) (fun w4 => Option.bind (f_X11_needNumber a2 0 60 v2.2.1 v2.2.2) (fun v6 => gzEx v6.1 (fun E => some (.error E, v6.2.1, v6.2.2)) (fun w8 => Option.bind (f_X8_copyFrom φ 1 0 v6.2.1 v6.2.2) (fun v10 => f_X11_larder_26 φ φ a1 a2 0 v10.2.1 v10.2.2)))))
set_option maxRecDepth 20000 in
theorem c_X11_larder {g : gzG} {d φ : Nat} {a1 : Int32} {a2 : Int32} {I : gzIT} {J : gzJT} {r : (Except String Int32) × gzIT × gzJT} (h : f_X11_larder φ a1 a2 I J = some r) : gzC g 0 (d + 3) mX11_larder [.inr (.inr (0, 30)), .inl a1, .inl a2] (gzN, gzR0, I, J) (gzE (gzRI r.1) (gzN, gzR0, r.2.1, r.2.2)) := by
  unfold f_X11_larder at h
  refine gzC_of (by decide +kernel) (Nat.le_of_ble_eq_true rfl) (loc := [some (.inr (.inr (0, 30))), some (.inl a1), some (.inl a2), none]) rfl ?_
  have z_0_30 : gzOk 0 30 gzN := gzOk_of (by decide)
  have z_1_0 : gzOk 1 0 gzN := gzOk_of (by decide)
  refine gz_aload_n (pc := 0) dX11_larder_0 rfl ?_
  refine gz_iload_n (pc := 1) dX11_larder_1 rfl ?_
  refine gz_V (zy := mX11_needFamily) (zc := 0) (pc := 2) [.inl a1] rfl dX11_larder_2 lkX11_128 MvX11_needFamily rfl z_0_30 rfl rfl rfl (Or.inl rfl) (fun h => h) (by exact Nat.le_of_ble_eq_true rfl) ?_
  obtain ⟨v2, e1, h⟩ := gz_bd h
  cases x3 : v2.1 with
  | error E => replace h := gz_exe x3 h; cases h; exact gz_useTV x3 (c_X11_needFamily e1) ⟨by simp [gzRI, gzRJ, gzRV], rfl⟩
  | ok w4 =>
    replace h := gz_exo x3 h
    refine gz_useOV x3 (c_X11_needFamily e1) ?_
    refine gz_aload_n (pc := 5) dX11_larder_5 rfl ?_
    refine gz_iload_n (pc := 6) dX11_larder_6 rfl ?_
    refine gz_iconst (pc := 7) dX11_larder_7 (v := 0) (by decide) ?_
    refine gz_bipush (pc := 8) dX11_larder_8 (v := 60) (by decide) ?_
    refine gz_V (zy := mX11_needNumber) (zc := 0) (pc := 10) [.inl a2, .inl 0, .inl 60] rfl dX11_larder_10 lkX11_223 MvX11_needNumber rfl z_0_30 rfl rfl rfl (Or.inl rfl) (fun h => h) (by exact Nat.le_of_ble_eq_true rfl) ?_
    obtain ⟨v6, e5, h⟩ := gz_bd h
    cases x7 : v6.1 with
    | error E => replace h := gz_exe x7 h; cases h; exact gz_useTV x7 (c_X11_needNumber e5) ⟨by simp [gzRI, gzRJ, gzRV], rfl⟩
    | ok w8 =>
      replace h := gz_exo x7 h
      refine gz_useOV x7 (c_X11_needNumber e5) ?_
      refine gz_aload_n (pc := 13) dX11_larder_13 rfl ?_
      refine gr_X11_46 (pc := 14) dX11_larder_14 z_0_30 rfl ?_
      refine gz_aload_n (pc := 17) dX11_larder_17 rfl ?_
      refine gr_X11_42 (pc := 18) dX11_larder_18 z_0_30 rfl ?_
      refine gz_V (zy := mX8_copyFrom) (zc := 0) (pc := 21) [.inr (.inr (0, 0))] rfl dX11_larder_21 lkX11_95 MvX8_copyFrom rfl z_1_0 rfl rfl rfl (Or.inl rfl) (fun h => h) (by exact Nat.le_of_ble_eq_true rfl) ?_
      obtain ⟨v10, e9, h⟩ := gz_bd h
      refine gz_useV (c_X8_copyFrom (by decide) (by decide) e9) ?_
      refine gz_iconst (pc := 24) dX11_larder_24 (v := 0) (by decide) ?_
      refine gz_istore_n (pc := 25) dX11_larder_25 (by decide) rfl (loc2 := [some (.inr (.inr (0, 30))), some (.inl a1), some (.inl a2), some (.inl 0)]) rfl ?_
      exact p_X11_larder_26 φ a1 a2 0 v10.2.1 v10.2.2 h
/-! X11_runTrial: runTrial -/
def gP_X11_runTrial_21 (g : gzG) (d : Nat) (r : Unit × gzIT × gzJT) (x2 : Int32) (x3 : Int32) (I : gzIT) (J : gzJT) : Prop := gzX g 0 (d + 6) mX11_runTrial 21 [some (.inr (.inr (0, 30))), none, some (.inl x2), some (.inl x3)] [] (gzN, gzR0, I, J) 0 (gzE (.ok none) (gzN, gzR0, r.2.1, r.2.2))
def f_X11_runTrial_21 (φ : Nat) : Nat → Int32 → Int32 → gzIT → gzJT → Option (Unit × gzIT × gzJT)
  | 0, _, _, _, _ => none
  | k + 1, x2, x3, I, J => if x2 ≤ x3 then (some ((), I, J)) else (Option.bind (f_X8_pass φ 1 0 1 I J) (fun v4 => f_X11_runTrial_21 φ k x2 (x3 + 1) v4.2.1 v4.2.2))
set_option maxRecDepth 20000 in
theorem p_X11_runTrial_21 {g : gzG} {d φ : Nat} {r : Unit × gzIT × gzJT} : ∀ (k : Nat) (x2 : Int32) (x3 : Int32) (I : gzIT) (J : gzJT), f_X11_runTrial_21 φ k x2 x3 I J = some r → gP_X11_runTrial_21 g d r x2 x3 I J := by
  intro k; induction k with
  | zero => intro x2 x3 I J h; cases h
  | succ k ih =>
    intro x2 x3 I J h
    unfold f_X11_runTrial_21 at h
    unfold gP_X11_runTrial_21
    have z_0_30 : gzOk 0 30 gzN := gzOk_of (by decide)
    have z_1_0 : gzOk 1 0 gzN := gzOk_of (by decide)
    refine gz_iload_n (pc := 21) dX11_runTrial_21 rfl ?_
    refine gz_iload_n (pc := 22) dX11_runTrial_22 rfl ?_
    refine gz_ic_ge (pc := 23) (tgt := 45) dX11_runTrial_23 (by decide) (fun c => ?_) (fun c => ?_)
    · replace h := gz_ifp c h
      cases h; exact gz_vret (pc := 45) dX11_runTrial_45 rfl ⟨rfl, rfl⟩
    · replace h := gz_ifn c h
      refine gz_aload_n (pc := 26) dX11_runTrial_26 rfl ?_
      refine gr_X11_46 (pc := 27) dX11_runTrial_27 z_0_30 rfl ?_
      refine gz_aload_n (pc := 30) dX11_runTrial_30 rfl ?_
      refine gr_X11_52 (pc := 31) dX11_runTrial_31 z_0_30 rfl ?_
      refine gz_iconst (pc := 34) dX11_runTrial_34 (v := 1) (by decide) ?_
      refine gz_V (zy := mX8_pass) (zc := 0) (pc := 35) [.inr (.inr (0, 20)), .inl 1] rfl dX11_runTrial_35 lkX11_230 MvX8_pass rfl z_1_0 rfl rfl rfl (Or.inl rfl) (fun h => h) (by exact Nat.le_of_ble_eq_true rfl) ?_
      obtain ⟨v4, e3, h⟩ := gz_bd h
      refine gz_useI (c_X8_pass (by decide) (by decide) e3) ?_
      refine gz_popI (pc := 38) dX11_runTrial_38  ?_
      refine gz_iinc (pc := 39) dX11_runTrial_39 (x := x3) (v := x3 + 1) rfl (by rw [show Int32.ofInt 1 = 1 by decide]) (by decide) rfl (loc2 := [some (.inr (.inr (0, 30))), none, some (.inl x2), some (.inl (x3 + 1))]) rfl ?_
      refine gz_goto (pc := 42) (tgt := 21) dX11_runTrial_42 (by decide) ?_
      exact ih x2 (x3 + 1) v4.2.1 v4.2.2 h
def f_X11_runTrial (φ : Nat) (a1 : Int32) (a2 : Int32) (I : gzIT) (J : gzJT) : Option (Unit × gzIT × gzJT) := Option.bind (f_X8_copyFrom φ 1 0 I J) (fun v2 => f_X11_runTrial_21 φ φ a2 0 (gz_ui v2.2.1 1 0 11 a1) v2.2.2)
set_option maxRecDepth 20000 in
theorem c_X11_runTrial {g : gzG} {d φ : Nat} {a1 : Int32} {a2 : Int32} {I : gzIT} {J : gzJT} {r : Unit × gzIT × gzJT} (h : f_X11_runTrial φ a1 a2 I J = some r) : gzC g 0 (d + 6) mX11_runTrial [.inr (.inr (0, 30)), .inl a1, .inl a2] (gzN, gzR0, I, J) (gzE (.ok none) (gzN, gzR0, r.2.1, r.2.2)) := by
  unfold f_X11_runTrial at h
  refine gzC_of (by decide +kernel) (Nat.le_of_ble_eq_true rfl) (loc := [some (.inr (.inr (0, 30))), some (.inl a1), some (.inl a2), none]) rfl ?_
  have z_0_30 : gzOk 0 30 gzN := gzOk_of (by decide)
  have z_1_0 : gzOk 1 0 gzN := gzOk_of (by decide)
  refine gz_aload_n (pc := 0) dX11_runTrial_0 rfl ?_
  refine gr_X11_46 (pc := 1) dX11_runTrial_1 z_0_30 rfl ?_
  refine gz_aload_n (pc := 4) dX11_runTrial_4 rfl ?_
  refine gr_X11_42 (pc := 5) dX11_runTrial_5 z_0_30 rfl ?_
  refine gz_V (zy := mX8_copyFrom) (zc := 0) (pc := 8) [.inr (.inr (0, 0))] rfl dX11_runTrial_8 lkX11_95 MvX8_copyFrom rfl z_1_0 rfl rfl rfl (Or.inl rfl) (fun h => h) (by exact Nat.le_of_ble_eq_true rfl) ?_
  obtain ⟨v2, e1, h⟩ := gz_bd h
  refine gz_useV (c_X8_copyFrom (by decide) (by decide) e1) ?_
  refine gz_aload_n (pc := 11) dX11_runTrial_11 rfl ?_
  refine gr_X11_46 (pc := 12) dX11_runTrial_12 z_0_30 rfl ?_
  refine gz_iload_n (pc := 15) dX11_runTrial_15 rfl ?_
  refine gp_X11_415 (pc := 16) dX11_runTrial_16 z_1_0 rfl ?_
  refine gz_iconst (pc := 19) dX11_runTrial_19 (v := 0) (by decide) ?_
  refine gz_istore_n (pc := 20) dX11_runTrial_20 (by decide) rfl (loc2 := [some (.inr (.inr (0, 30))), some (.inl a1), some (.inl a2), some (.inl 0)]) rfl ?_
  exact gz_weak (loc2 := [some (.inr (.inr (0, 30))), none, some (.inl a2), some (.inl 0)]) (p_X11_runTrial_21 φ a2 0 (gz_ui v2.2.1 1 0 11 a1) v2.2.2 h) (by repeat (first | exact trivial | refine ⟨rfl, ?_⟩))
/-! X11_trial: trial -/
def f_X11_trial (φ : Nat) (a1 : Int32) (a2 : Int32) (I : gzIT) (J : gzJT) : Option ((Except String Int32) × gzIT × gzJT) := Option.bind (f_X11_needNumber a1 0 60 I J) (fun v2 => gzEx v2.1 (fun E => some (.error E, v2.2.1, v2.2.2)) (fun w4 => Option.bind (f_X11_runTrial φ (v2.2.1 0 0 11) a1 v2.2.1 v2.2.2) (fun v6 => if a2 = 0 then (Option.bind (f_X1_frozenOnes φ 1 v6.2.1) (fun v8 => some (.ok v8, v6.2.1, v6.2.2))) else (Option.bind (f_X1_allIce φ 1 v6.2.1) (fun v10 => some (.ok v10, v6.2.1, v6.2.2))))))
set_option maxRecDepth 20000 in
theorem c_X11_trial {g : gzG} {d φ : Nat} {a1 : Int32} {a2 : Int32} {I : gzIT} {J : gzJT} {r : (Except String Int32) × gzIT × gzJT} (h : f_X11_trial φ a1 a2 I J = some r) : gzC g 0 (d + 7) mX11_trial [.inr (.inr (0, 30)), .inl a1, .inl a2] (gzN, gzR0, I, J) (gzE (gzRI r.1) (gzN, gzR0, r.2.1, r.2.2)) := by
  unfold f_X11_trial at h
  refine gzC_of (by decide +kernel) (Nat.le_of_ble_eq_true rfl) (loc := [some (.inr (.inr (0, 30))), some (.inl a1), some (.inl a2)]) rfl ?_
  have z_0_30 : gzOk 0 30 gzN := gzOk_of (by decide)
  have z_0_0 : gzOk 0 0 gzN := gzOk_of (by decide)
  have z_1_0 : gzOk 1 0 gzN := gzOk_of (by decide)
  have z_1_7 : gzOk 1 7 gzN := gzOk_of (by decide)
  refine gz_aload_n (pc := 0) dX11_trial_0 rfl ?_
  refine gz_iload_n (pc := 1) dX11_trial_1 rfl ?_
  refine gz_iconst (pc := 2) dX11_trial_2 (v := 0) (by decide) ?_
  refine gz_bipush (pc := 3) dX11_trial_3 (v := 60) (by decide) ?_
  refine gz_V (zy := mX11_needNumber) (zc := 0) (pc := 5) [.inl a1, .inl 0, .inl 60] rfl dX11_trial_5 lkX11_223 MvX11_needNumber rfl z_0_30 rfl rfl rfl (Or.inl rfl) (fun h => h) (by exact Nat.le_of_ble_eq_true rfl) ?_
  obtain ⟨v2, e1, h⟩ := gz_bd h
  cases x3 : v2.1 with
  | error E => replace h := gz_exe x3 h; cases h; exact gz_useTV x3 (c_X11_needNumber e1) ⟨by simp [gzRI, gzRJ, gzRV], rfl⟩
  | ok w4 =>
    replace h := gz_exo x3 h
    refine gz_useOV x3 (c_X11_needNumber e1) ?_
    refine gz_aload_n (pc := 8) dX11_trial_8 rfl ?_
    refine gz_aload_n (pc := 9) dX11_trial_9 rfl ?_
    refine gr_X11_42 (pc := 10) dX11_trial_10 z_0_30 rfl ?_
    refine gi_X11_415 (pc := 13) dX11_trial_13 (v := v2.2.1 0 0 11) z_0_0 rfl rfl ?_
    refine gz_iload_n (pc := 16) dX11_trial_16 rfl ?_
    refine gz_V (zy := mX11_runTrial) (zc := 0) (pc := 17) [.inl (v2.2.1 0 0 11), .inl a1] rfl dX11_trial_17 lkX11_418 MvX11_runTrial rfl z_0_30 rfl rfl rfl (Or.inl rfl) (fun h => h) (by exact Nat.le_of_ble_eq_true rfl) ?_
    obtain ⟨v6, e5, h⟩ := gz_bd h
    refine gz_useV (c_X11_runTrial e5) ?_
    refine gz_iload_n (pc := 20) dX11_trial_20 rfl ?_
    refine gz_if_eq (pc := 21) (tgt := 37) dX11_trial_21 (by decide) (fun c => ?_) (fun c => ?_)
    · replace h := gz_ifp c h
      refine gz_aload_n (pc := 37) dX11_trial_37 rfl ?_
      refine gr_X11_46 (pc := 38) dX11_trial_38 z_0_30 rfl ?_
      refine gr_X11_150 (pc := 41) dX11_trial_41 z_1_0 rfl ?_
      refine gz_V (zy := mX1_frozenOnes) (zc := 0) (pc := 44) [] rfl dX11_trial_44 lkX11_421 MvX1_frozenOnes rfl z_1_7 rfl rfl rfl (Or.inl rfl) (fun h => h) (by exact Nat.le_of_ble_eq_true rfl) ?_
      obtain ⟨v8, e7, h⟩ := gz_bd h
      refine gz_useI (c_X1_frozenOnes (by decide) e7) ?_
      cases h; exact gz_iret (pc := 47) dX11_trial_47 rfl ⟨rfl, rfl⟩
    · replace h := gz_ifn c h
      refine gz_aload_n (pc := 24) dX11_trial_24 rfl ?_
      refine gr_X11_46 (pc := 25) dX11_trial_25 z_0_30 rfl ?_
      refine gr_X11_150 (pc := 28) dX11_trial_28 z_1_0 rfl ?_
      refine gz_V (zy := mX1_allIce) (zc := 0) (pc := 31) [] rfl dX11_trial_31 lkX11_300 MvX1_allIce rfl z_1_7 rfl rfl rfl (Or.inl rfl) (fun h => h) (by exact Nat.le_of_ble_eq_true rfl) ?_
      obtain ⟨v10, e9, h⟩ := gz_bd h
      refine gz_useI (c_X1_allIce (by decide) e9) ?_
      refine gz_goto (pc := 34) (tgt := 47) dX11_trial_34 (by decide) ?_
      cases h; exact gz_iret (pc := 47) dX11_trial_47 rfl ⟨rfl, rfl⟩
/-! X11_span: span -/
def gP_X11_span_13 (g : gzG) (d : Nat) (r : (Except String Int32) × gzIT × gzJT) (x1 : Int32) (x2 : Int32) (x3 : Int32) (x4 : Int32) (I : gzIT) (J : gzJT) : Prop := gzX g 0 (d + 7) mX11_span 13 [some (.inr (.inr (0, 30))), some (.inl x1), some (.inl x2), some (.inl x3), some (.inl x4), none] [] (gzN, gzR0, I, J) 0 (gzE (gzRI r.1) (gzN, gzR0, r.2.1, r.2.2))
def f_X11_span_13 (φ : Nat) : Nat → Int32 → Int32 → Int32 → Int32 → gzIT → gzJT → Option ((Except String Int32) × gzIT × gzJT)
  | 0, _, _, _, _, _, _ => none
  | k + 1, x1, x2, x3, x4, I, J => if 6 < x4 then (some (.ok x3, I, J)) else (Option.bind (f_X11_runTrial φ x4 x1 I J) (fun v6 => Option.bind (f_X1_allIce φ 1 v6.2.1) (fun v8 => if x3 = (-1) then (f_X11_span_13 φ k x1 x2 v8 (x4 + 1) v6.2.1 v6.2.2) else (if x2 = 0 then (if x3 ≤ v8 then (f_X11_span_13 φ k x1 x2 x3 (x4 + 1) v6.2.1 v6.2.2) else (f_X11_span_13 φ k x1 x2 v8 (x4 + 1) v6.2.1 v6.2.2)) else (if v8 ≤ x3 then (f_X11_span_13 φ k x1 x2 x3 (x4 + 1) v6.2.1 v6.2.2) else (f_X11_span_13 φ k x1 x2 v8 (x4 + 1) v6.2.1 v6.2.2))))))
set_option maxRecDepth 20000 in
theorem p_X11_span_13 {g : gzG} {d φ : Nat} {r : (Except String Int32) × gzIT × gzJT} : ∀ (k : Nat) (x1 : Int32) (x2 : Int32) (x3 : Int32) (x4 : Int32) (I : gzIT) (J : gzJT), f_X11_span_13 φ k x1 x2 x3 x4 I J = some r → gP_X11_span_13 g d r x1 x2 x3 x4 I J := by
  intro k; induction k with
  | zero => intro x1 x2 x3 x4 I J h; cases h
  | succ k ih =>
    intro x1 x2 x3 x4 I J h
    unfold f_X11_span_13 at h
    unfold gP_X11_span_13
    have z_0_30 : gzOk 0 30 gzN := gzOk_of (by decide)
    have z_1_0 : gzOk 1 0 gzN := gzOk_of (by decide)
    have z_1_7 : gzOk 1 7 gzN := gzOk_of (by decide)
    refine gz_iload (pc := 13) dX11_span_13 rfl ?_
    refine gz_bipush (pc := 15) dX11_span_15 (v := 6) (by decide) ?_
    refine gz_ic_gt (pc := 17) (tgt := 72) dX11_span_17 (by decide) (fun c => ?_) (fun c => ?_)
    · replace h := gz_ifp c h
      refine gz_iload_n (pc := 72) dX11_span_72 rfl ?_
      cases h; exact gz_iret (pc := 73) dX11_span_73 rfl ⟨rfl, rfl⟩
    · replace h := gz_ifn c h
      refine gz_aload_n (pc := 20) dX11_span_20 rfl ?_
      refine gz_iload (pc := 21) dX11_span_21 rfl ?_
      refine gz_iload_n (pc := 23) dX11_span_23 rfl ?_
      refine gz_V (zy := mX11_runTrial) (zc := 0) (pc := 24) [.inl x4, .inl x1] rfl dX11_span_24 lkX11_418 MvX11_runTrial rfl z_0_30 rfl rfl rfl (Or.inl rfl) (fun h => h) (by exact Nat.le_of_ble_eq_true rfl) ?_
      obtain ⟨v6, e5, h⟩ := gz_bd h
      refine gz_useV (c_X11_runTrial e5) ?_
      refine gz_aload_n (pc := 27) dX11_span_27 rfl ?_
      refine gr_X11_46 (pc := 28) dX11_span_28 z_0_30 rfl ?_
      refine gr_X11_150 (pc := 31) dX11_span_31 z_1_0 rfl ?_
      refine gz_V (zy := mX1_allIce) (zc := 0) (pc := 34) [] rfl dX11_span_34 lkX11_300 MvX1_allIce rfl z_1_7 rfl rfl rfl (Or.inl rfl) (fun h => h) (by exact Nat.le_of_ble_eq_true rfl) ?_
      obtain ⟨v8, e7, h⟩ := gz_bd h
      refine gz_useI (c_X1_allIce (by decide) e7) ?_
      refine gz_istore (pc := 37) dX11_span_37 (by decide) rfl (loc2 := [some (.inr (.inr (0, 30))), some (.inl x1), some (.inl x2), some (.inl x3), some (.inl x4), some (.inl v8)]) rfl ?_
      refine gz_iload_n (pc := 39) dX11_span_39 rfl ?_
      refine gz_iconst (pc := 40) dX11_span_40 (v := (-1)) (by decide) ?_
      refine gz_ic_eq (pc := 41) (tgt := 63) dX11_span_41 (by decide) (fun c => ?_) (fun c => ?_)
      · replace h := gz_ifp c h
        refine gz_iload (pc := 63) dX11_span_63 rfl ?_
        refine gz_istore_n (pc := 65) dX11_span_65 (by decide) rfl (loc2 := [some (.inr (.inr (0, 30))), some (.inl x1), some (.inl x2), some (.inl v8), some (.inl x4), some (.inl v8)]) rfl ?_
        refine gz_iinc (pc := 66) dX11_span_66 (x := x4) (v := x4 + 1) rfl (by rw [show Int32.ofInt 1 = 1 by decide]) (by decide) rfl (loc2 := [some (.inr (.inr (0, 30))), some (.inl x1), some (.inl x2), some (.inl v8), some (.inl (x4 + 1)), some (.inl v8)]) rfl ?_
        refine gz_goto (pc := 69) (tgt := 13) dX11_span_69 (by decide) ?_
        exact gz_weak (loc2 := [some (.inr (.inr (0, 30))), some (.inl x1), some (.inl x2), some (.inl v8), some (.inl (x4 + 1)), none]) (ih x1 x2 v8 (x4 + 1) v6.2.1 v6.2.2 h) (by repeat (first | exact trivial | refine ⟨rfl, ?_⟩))
      · replace h := gz_ifn c h
        refine gz_iload_n (pc := 44) dX11_span_44 rfl ?_
        refine gz_if_eq (pc := 45) (tgt := 57) dX11_span_45 (by decide) (fun c => ?_) (fun c => ?_)
        · replace h := gz_ifp c h
          refine gz_iload (pc := 57) dX11_span_57 rfl ?_
          refine gz_iload_n (pc := 59) dX11_span_59 rfl ?_
          refine gz_ic_ge (pc := 60) (tgt := 66) dX11_span_60 (by decide) (fun c => ?_) (fun c => ?_)
          · replace h := gz_ifp c h
            refine gz_iinc (pc := 66) dX11_span_66 (x := x4) (v := x4 + 1) rfl (by rw [show Int32.ofInt 1 = 1 by decide]) (by decide) rfl (loc2 := [some (.inr (.inr (0, 30))), some (.inl x1), some (.inl x2), some (.inl x3), some (.inl (x4 + 1)), some (.inl v8)]) rfl ?_
            refine gz_goto (pc := 69) (tgt := 13) dX11_span_69 (by decide) ?_
            exact gz_weak (loc2 := [some (.inr (.inr (0, 30))), some (.inl x1), some (.inl x2), some (.inl x3), some (.inl (x4 + 1)), none]) (ih x1 x2 x3 (x4 + 1) v6.2.1 v6.2.2 h) (by repeat (first | exact trivial | refine ⟨rfl, ?_⟩))
          · replace h := gz_ifn c h
            refine gz_iload (pc := 63) dX11_span_63 rfl ?_
            refine gz_istore_n (pc := 65) dX11_span_65 (by decide) rfl (loc2 := [some (.inr (.inr (0, 30))), some (.inl x1), some (.inl x2), some (.inl v8), some (.inl x4), some (.inl v8)]) rfl ?_
            refine gz_iinc (pc := 66) dX11_span_66 (x := x4) (v := x4 + 1) rfl (by rw [show Int32.ofInt 1 = 1 by decide]) (by decide) rfl (loc2 := [some (.inr (.inr (0, 30))), some (.inl x1), some (.inl x2), some (.inl v8), some (.inl (x4 + 1)), some (.inl v8)]) rfl ?_
            refine gz_goto (pc := 69) (tgt := 13) dX11_span_69 (by decide) ?_
            exact gz_weak (loc2 := [some (.inr (.inr (0, 30))), some (.inl x1), some (.inl x2), some (.inl v8), some (.inl (x4 + 1)), none]) (ih x1 x2 v8 (x4 + 1) v6.2.1 v6.2.2 h) (by repeat (first | exact trivial | refine ⟨rfl, ?_⟩))
        · replace h := gz_ifn c h
          refine gz_iload (pc := 48) dX11_span_48 rfl ?_
          refine gz_iload_n (pc := 50) dX11_span_50 rfl ?_
          refine gz_ic_le (pc := 51) (tgt := 66) dX11_span_51 (by decide) (fun c => ?_) (fun c => ?_)
          · replace h := gz_ifp c h
            refine gz_iinc (pc := 66) dX11_span_66 (x := x4) (v := x4 + 1) rfl (by rw [show Int32.ofInt 1 = 1 by decide]) (by decide) rfl (loc2 := [some (.inr (.inr (0, 30))), some (.inl x1), some (.inl x2), some (.inl x3), some (.inl (x4 + 1)), some (.inl v8)]) rfl ?_
            refine gz_goto (pc := 69) (tgt := 13) dX11_span_69 (by decide) ?_
            exact gz_weak (loc2 := [some (.inr (.inr (0, 30))), some (.inl x1), some (.inl x2), some (.inl x3), some (.inl (x4 + 1)), none]) (ih x1 x2 x3 (x4 + 1) v6.2.1 v6.2.2 h) (by repeat (first | exact trivial | refine ⟨rfl, ?_⟩))
          · replace h := gz_ifn c h
            refine gz_goto (pc := 54) (tgt := 63) dX11_span_54 (by decide) ?_
            refine gz_iload (pc := 63) dX11_span_63 rfl ?_
            refine gz_istore_n (pc := 65) dX11_span_65 (by decide) rfl (loc2 := [some (.inr (.inr (0, 30))), some (.inl x1), some (.inl x2), some (.inl v8), some (.inl x4), some (.inl v8)]) rfl ?_
            refine gz_iinc (pc := 66) dX11_span_66 (x := x4) (v := x4 + 1) rfl (by rw [show Int32.ofInt 1 = 1 by decide]) (by decide) rfl (loc2 := [some (.inr (.inr (0, 30))), some (.inl x1), some (.inl x2), some (.inl v8), some (.inl (x4 + 1)), some (.inl v8)]) rfl ?_
            refine gz_goto (pc := 69) (tgt := 13) dX11_span_69 (by decide) ?_
            exact gz_weak (loc2 := [some (.inr (.inr (0, 30))), some (.inl x1), some (.inl x2), some (.inl v8), some (.inl (x4 + 1)), none]) (ih x1 x2 v8 (x4 + 1) v6.2.1 v6.2.2 h) (by repeat (first | exact trivial | refine ⟨rfl, ?_⟩))
def f_X11_span (φ : Nat) (a1 : Int32) (a2 : Int32) (I : gzIT) (J : gzJT) : Option ((Except String Int32) × gzIT × gzJT) := Option.bind (f_X11_needNumber a1 0 60 I J) (fun v2 => gzEx v2.1 (fun E => some (.error E, v2.2.1, v2.2.2)) (fun w4 => f_X11_span_13 φ φ a1 a2 (-1) 1 v2.2.1 v2.2.2))
set_option maxRecDepth 20000 in
theorem c_X11_span {g : gzG} {d φ : Nat} {a1 : Int32} {a2 : Int32} {I : gzIT} {J : gzJT} {r : (Except String Int32) × gzIT × gzJT} (h : f_X11_span φ a1 a2 I J = some r) : gzC g 0 (d + 7) mX11_span [.inr (.inr (0, 30)), .inl a1, .inl a2] (gzN, gzR0, I, J) (gzE (gzRI r.1) (gzN, gzR0, r.2.1, r.2.2)) := by
  unfold f_X11_span at h
  refine gzC_of (by decide +kernel) (Nat.le_of_ble_eq_true rfl) (loc := [some (.inr (.inr (0, 30))), some (.inl a1), some (.inl a2), none, none, none]) rfl ?_
  have z_0_30 : gzOk 0 30 gzN := gzOk_of (by decide)
  refine gz_aload_n (pc := 0) dX11_span_0 rfl ?_
  refine gz_iload_n (pc := 1) dX11_span_1 rfl ?_
  refine gz_iconst (pc := 2) dX11_span_2 (v := 0) (by decide) ?_
  refine gz_bipush (pc := 3) dX11_span_3 (v := 60) (by decide) ?_
  refine gz_V (zy := mX11_needNumber) (zc := 0) (pc := 5) [.inl a1, .inl 0, .inl 60] rfl dX11_span_5 lkX11_223 MvX11_needNumber rfl z_0_30 rfl rfl rfl (Or.inl rfl) (fun h => h) (by exact Nat.le_of_ble_eq_true rfl) ?_
  obtain ⟨v2, e1, h⟩ := gz_bd h
  cases x3 : v2.1 with
  | error E => replace h := gz_exe x3 h; cases h; exact gz_useTV x3 (c_X11_needNumber e1) ⟨by simp [gzRI, gzRJ, gzRV], rfl⟩
  | ok w4 =>
    replace h := gz_exo x3 h
    refine gz_useOV x3 (c_X11_needNumber e1) ?_
    refine gz_iconst (pc := 8) dX11_span_8 (v := (-1)) (by decide) ?_
    refine gz_istore_n (pc := 9) dX11_span_9 (by decide) rfl (loc2 := [some (.inr (.inr (0, 30))), some (.inl a1), some (.inl a2), some (.inl (-1)), none, none]) rfl ?_
    refine gz_iconst (pc := 10) dX11_span_10 (v := 1) (by decide) ?_
    refine gz_istore (pc := 11) dX11_span_11 (by decide) rfl (loc2 := [some (.inr (.inr (0, 30))), some (.inl a1), some (.inl a2), some (.inl (-1)), some (.inl 1), none]) rfl ?_
    exact p_X11_span_13 φ a1 a2 (-1) 1 v2.2.1 v2.2.2 h
/-! X11_led: led -/
def f_X11_led (φ : Nat) (a1 : Int32) (a2 : Int32) (I : gzIT) (J : gzJT) : Option ((Except String Int32) × gzIT × gzJT) := Option.bind (f_X11_needGrudge a1 I J) (fun v2 => gzEx v2.1 (fun E => some (.error E, v2.2.1, v2.2.2)) (fun w4 => if a2 = 0 then (Option.bind (f_X4_rowsOf φ 0 v2.2.1 a1) (fun v6 => some (.ok v6, v2.2.1, v2.2.2))) else (Option.bind (f_X4_latestTime φ 0 v2.2.1 a1) (fun v8 => some (.ok v8, v2.2.1, v2.2.2)))))
set_option maxRecDepth 20000 in
theorem c_X11_led {g : gzG} {d φ : Nat} {a1 : Int32} {a2 : Int32} {I : gzIT} {J : gzJT} {r : (Except String Int32) × gzIT × gzJT} (h : f_X11_led φ a1 a2 I J = some r) : gzC g 0 (d + 3) mX11_led [.inr (.inr (0, 30)), .inl a1, .inl a2] (gzN, gzR0, I, J) (gzE (gzRI r.1) (gzN, gzR0, r.2.1, r.2.2)) := by
  unfold f_X11_led at h
  refine gzC_of (by decide +kernel) (Nat.le_of_ble_eq_true rfl) (loc := [some (.inr (.inr (0, 30))), some (.inl a1), some (.inl a2)]) rfl ?_
  have z_0_30 : gzOk 0 30 gzN := gzOk_of (by decide)
  have z_0_0 : gzOk 0 0 gzN := gzOk_of (by decide)
  have z_0_15 : gzOk 0 15 gzN := gzOk_of (by decide)
  refine gz_aload_n (pc := 0) dX11_led_0 rfl ?_
  refine gz_iload_n (pc := 1) dX11_led_1 rfl ?_
  refine gz_V (zy := mX11_needGrudge) (zc := 0) (pc := 2) [.inl a1] rfl dX11_led_2 lkX11_171 MvX11_needGrudge rfl z_0_30 rfl rfl rfl (Or.inl rfl) (fun h => h) (by exact Nat.le_of_ble_eq_true rfl) ?_
  obtain ⟨v2, e1, h⟩ := gz_bd h
  cases x3 : v2.1 with
  | error E => replace h := gz_exe x3 h; cases h; exact gz_useTV x3 (c_X11_needGrudge e1) ⟨by simp [gzRI, gzRJ, gzRV], rfl⟩
  | ok w4 =>
    replace h := gz_exo x3 h
    refine gz_useOV x3 (c_X11_needGrudge e1) ?_
    refine gz_iload_n (pc := 5) dX11_led_5 rfl ?_
    refine gz_if_eq (pc := 6) (tgt := 23) dX11_led_6 (by decide) (fun c => ?_) (fun c => ?_)
    · replace h := gz_ifp c h
      refine gz_aload_n (pc := 23) dX11_led_23 rfl ?_
      refine gr_X11_42 (pc := 24) dX11_led_24 z_0_30 rfl ?_
      refine gr_X11_260 (pc := 27) dX11_led_27 z_0_0 rfl ?_
      refine gz_iload_n (pc := 30) dX11_led_30 rfl ?_
      refine gz_V (zy := mX4_rowsOf) (zc := 0) (pc := 31) [.inl a1] rfl dX11_led_31 lkX11_427 MvX4_rowsOf rfl z_0_15 rfl rfl rfl (Or.inl rfl) (fun h => h) (by exact Nat.le_of_ble_eq_true rfl) ?_
      obtain ⟨v6, e5, h⟩ := gz_bd h
      refine gz_useI (c_X4_rowsOf (by decide) e5) ?_
      cases h; exact gz_iret (pc := 34) dX11_led_34 rfl ⟨rfl, rfl⟩
    · replace h := gz_ifn c h
      refine gz_aload_n (pc := 9) dX11_led_9 rfl ?_
      refine gr_X11_42 (pc := 10) dX11_led_10 z_0_30 rfl ?_
      refine gr_X11_260 (pc := 13) dX11_led_13 z_0_0 rfl ?_
      refine gz_iload_n (pc := 16) dX11_led_16 rfl ?_
      refine gz_V (zy := mX4_latestTime) (zc := 0) (pc := 17) [.inl a1] rfl dX11_led_17 lkX11_424 MvX4_latestTime rfl z_0_15 rfl rfl rfl (Or.inl rfl) (fun h => h) (by exact Nat.le_of_ble_eq_true rfl) ?_
      obtain ⟨v8, e7, h⟩ := gz_bd h
      refine gz_useI (c_X4_latestTime (by decide) e7) ?_
      refine gz_goto (pc := 20) (tgt := 34) dX11_led_20 (by decide) ?_
      cases h; exact gz_iret (pc := 34) dX11_led_34 rfl ⟨rfl, rfl⟩
/-! X11_log: log -/
def f_X11_log (a1 : Int32) (a2 : Int32) (I : gzIT) (J : gzJT) : Option ((Except String Int32) × gzIT × gzJT) := if a2 < 0 then (some (.error "java/util/NoSuchElementException", I, J)) else (if a2 < 4 then (Option.bind (f_X4_read 0 I a1 a2) (fun v2 => some (.ok v2, I, J))) else (some (.error "java/util/NoSuchElementException", I, J)))
set_option maxRecDepth 20000 in
theorem c_X11_log {g : gzG} {d : Nat} {a1 : Int32} {a2 : Int32} {I : gzIT} {J : gzJT} {r : (Except String Int32) × gzIT × gzJT} (h : f_X11_log a1 a2 I J = some r) : gzC g 0 (d + 2) mX11_log [.inr (.inr (0, 30)), .inl a1, .inl a2] (gzN, gzR0, I, J) (gzE (gzRI r.1) (gzN, gzR0, r.2.1, r.2.2)) := by
  unfold f_X11_log at h
  refine gzC_of (by decide +kernel) (Nat.le_of_ble_eq_true rfl) (loc := [some (.inr (.inr (0, 30))), some (.inl a1), some (.inl a2)]) rfl ?_
  have z_0_30 : gzOk 0 30 gzN := gzOk_of (by decide)
  have z_0_0 : gzOk 0 0 gzN := gzOk_of (by decide)
  have z_0_15 : gzOk 0 15 gzN := gzOk_of (by decide)
  refine gz_iload_n (pc := 0) dX11_log_0 rfl ?_
  refine gz_if_lt (pc := 1) (tgt := 9) dX11_log_1 (by decide) (fun c => ?_) (fun c => ?_)
  · replace h := gz_ifp c h
    exact gz_thrN (pc := 9) rfl (i := 4) rfl dX11_log_9 dX11_log_12 dX11_log_13 dX11_log_15 dX11_log_18 (Nat.le_of_ble_eq_true rfl) (by cases h; exact ⟨rfl, rfl⟩)
  · replace h := gz_ifn c h
    refine gz_iload_n (pc := 4) dX11_log_4 rfl ?_
    refine gz_iconst (pc := 5) dX11_log_5 (v := 4) (by decide) ?_
    refine gz_ic_lt (pc := 6) (tgt := 19) dX11_log_6 (by decide) (fun c => ?_) (fun c => ?_)
    · replace h := gz_ifp c h
      refine gz_aload_n (pc := 19) dX11_log_19 rfl ?_
      refine gr_X11_42 (pc := 20) dX11_log_20 z_0_30 rfl ?_
      refine gr_X11_260 (pc := 23) dX11_log_23 z_0_0 rfl ?_
      refine gz_iload_n (pc := 26) dX11_log_26 rfl ?_
      refine gz_iload_n (pc := 27) dX11_log_27 rfl ?_
      refine gz_V (zy := mX4_read) (zc := 0) (pc := 28) [.inl a1, .inl a2] rfl dX11_log_28 lkX11_430 MvX4_read rfl z_0_15 rfl rfl rfl (Or.inl rfl) (fun h => h) (by exact Nat.le_of_ble_eq_true rfl) ?_
      obtain ⟨v2, e1, h⟩ := gz_bd h
      refine gz_useI (c_X4_read (by decide) e1) ?_
      cases h; exact gz_iret (pc := 31) dX11_log_31 rfl ⟨rfl, rfl⟩
    · replace h := gz_ifn c h
      exact gz_thrN (pc := 9) rfl (i := 4) rfl dX11_log_9 dX11_log_12 dX11_log_13 dX11_log_15 dX11_log_18 (Nat.le_of_ble_eq_true rfl) (by cases h; exact ⟨rfl, rfl⟩)
/-! X11_seed: seed -/
def f_X11_seed (a1 : Int32) (I : gzIT) (J : gzJT) : Option (Int32 × gzIT × gzJT) := some ((I 0 0 11), gz_ui I 0 0 11 a1, J)
set_option maxRecDepth 20000 in
theorem c_X11_seed {g : gzG} {d : Nat} {a1 : Int32} {I : gzIT} {J : gzJT} {r : Int32 × gzIT × gzJT} (h : f_X11_seed a1 I J = some r) : gzC g 0 d mX11_seed [.inr (.inr (0, 30)), .inl a1] (gzN, gzR0, I, J) (gzE (.ok (some (.inl r.1))) (gzN, gzR0, r.2.1, r.2.2)) := by
  unfold f_X11_seed at h
  refine gzC_of (by decide +kernel) (Nat.le_of_ble_eq_true rfl) (loc := [some (.inr (.inr (0, 30))), some (.inl a1), none]) rfl ?_
  have z_0_30 : gzOk 0 30 gzN := gzOk_of (by decide)
  have z_0_0 : gzOk 0 0 gzN := gzOk_of (by decide)
  refine gz_aload_n (pc := 0) dX11_seed_0 rfl ?_
  refine gr_X11_42 (pc := 1) dX11_seed_1 z_0_30 rfl ?_
  refine gi_X11_415 (pc := 4) dX11_seed_4 (v := I 0 0 11) z_0_0 rfl rfl ?_
  refine gz_istore_n (pc := 7) dX11_seed_7 (by decide) rfl (loc2 := [some (.inr (.inr (0, 30))), some (.inl a1), some (.inl (I 0 0 11))]) rfl ?_
  refine gz_aload_n (pc := 8) dX11_seed_8 rfl ?_
  refine gr_X11_42 (pc := 9) dX11_seed_9 z_0_30 rfl ?_
  refine gz_iload_n (pc := 12) dX11_seed_12 rfl ?_
  refine gp_X11_415 (pc := 13) dX11_seed_13 z_0_0 rfl ?_
  refine gz_iload_n (pc := 16) dX11_seed_16 rfl ?_
  cases h; exact gz_iret (pc := 17) dX11_seed_17 rfl ⟨rfl, rfl⟩
/-! X11_undo: undo -/
def f_X11_undo (φ : Nat) (I : gzIT) (J : gzJT) : Option (Int32 × gzIT × gzJT) := Option.bind (f_X5_takeBack φ 0 I J) (fun v2 => gzGz v2.1 (some (v2.1, v2.2.1, v2.2.2)))
set_option maxRecDepth 20000 in
theorem c_X11_undo {g : gzG} {d φ : Nat} {I : gzIT} {J : gzJT} {r : Int32 × gzIT × gzJT} (h : f_X11_undo φ I J = some r) : gzC g 0 (d + 4) mX11_undo [.inr (.inr (0, 30))] (gzN, gzR0, I, J) (gzE (.ok (some (.inl r.1))) (gzN, gzR0, r.2.1, r.2.2)) := by
  unfold f_X11_undo at h
  refine gzC_of (by decide +kernel) (Nat.le_of_ble_eq_true rfl) (loc := [some (.inr (.inr (0, 30)))]) rfl ?_
  have z_0_30 : gzOk 0 30 gzN := gzOk_of (by decide)
  have z_0_39 : gzOk 0 39 gzN := gzOk_of (by decide)
  refine gz_aload_n (pc := 0) dX11_undo_0 rfl ?_
  refine gr_X11_62 (pc := 1) dX11_undo_1 z_0_30 rfl ?_
  refine gz_aload_n (pc := 4) dX11_undo_4 rfl ?_
  refine gr_X11_42 (pc := 5) dX11_undo_5 z_0_30 rfl ?_
  refine gz_V (zy := mX5_takeBack) (zc := 0) (pc := 8) [.inr (.inr (0, 0))] rfl dX11_undo_8 lkX11_432 MvX5_takeBack rfl z_0_39 rfl rfl rfl (Or.inl rfl) (fun h => h) (by exact Nat.le_of_ble_eq_true rfl) ?_
  obtain ⟨v2, e1, h⟩ := gz_bd h
  refine gz_useI (c_X5_takeBack (by decide) e1) ?_
  obtain ⟨b3, h⟩ := gz_gz h
  cases h; exact gz_zret (pc := 11) dX11_undo_11 rfl b3 ⟨rfl, rfl⟩
/-! X11_image: image -/
def f_X11_image (φ : Nat) (I : gzIT) (J : gzJT) : Option (Unit × gzIT × gzJT) := Option.bind (f_X8_copyFrom φ 2 0 I J) (fun v2 => Option.bind (f_X2_copyFrom 2 0 v2.2.1 v2.2.2) (fun v4 => some ((), gz_ui v4.2.1 0 30 12 1, v4.2.2)))
set_option maxRecDepth 20000 in
theorem c_X11_image {g : gzG} {d φ : Nat} {I : gzIT} {J : gzJT} {r : Unit × gzIT × gzJT} (h : f_X11_image φ I J = some r) : gzC g 0 (d + 3) mX11_image [.inr (.inr (0, 30))] (gzN, gzR0, I, J) (gzE (.ok none) (gzN, gzR0, r.2.1, r.2.2)) := by
  unfold f_X11_image at h
  refine gzC_of (by decide +kernel) (Nat.le_of_ble_eq_true rfl) (loc := [some (.inr (.inr (0, 30)))]) rfl ?_
  have z_0_30 : gzOk 0 30 gzN := gzOk_of (by decide)
  have z_2_0 : gzOk 2 0 gzN := gzOk_of (by decide)
  have z_2_20 : gzOk 2 20 gzN := gzOk_of (by decide)
  refine gz_aload_n (pc := 0) dX11_image_0 rfl ?_
  refine gr_X11_73 (pc := 1) dX11_image_1 z_0_30 rfl ?_
  refine gz_aload_n (pc := 4) dX11_image_4 rfl ?_
  refine gr_X11_42 (pc := 5) dX11_image_5 z_0_30 rfl ?_
  refine gz_V (zy := mX8_copyFrom) (zc := 0) (pc := 8) [.inr (.inr (0, 0))] rfl dX11_image_8 lkX11_95 MvX8_copyFrom rfl z_2_0 rfl rfl rfl (Or.inl rfl) (fun h => h) (by exact Nat.le_of_ble_eq_true rfl) ?_
  obtain ⟨v2, e1, h⟩ := gz_bd h
  refine gz_useV (c_X8_copyFrom (by decide) (by decide) e1) ?_
  refine gz_aload_n (pc := 11) dX11_image_11 rfl ?_
  refine gr_X11_76 (pc := 12) dX11_image_12 z_0_30 rfl ?_
  refine gz_aload_n (pc := 15) dX11_image_15 rfl ?_
  refine gr_X11_52 (pc := 16) dX11_image_16 z_0_30 rfl ?_
  refine gz_V (zy := mX2_copyFrom) (zc := 0) (pc := 19) [.inr (.inr (0, 20))] rfl dX11_image_19 lkX11_120 MvX2_copyFrom rfl z_2_20 rfl rfl rfl (Or.inl rfl) (fun h => h) (by exact Nat.le_of_ble_eq_true rfl) ?_
  obtain ⟨v4, e3, h⟩ := gz_bd h
  refine gz_useV (c_X2_copyFrom (by decide) (by decide) e3) ?_
  refine gz_aload_n (pc := 22) dX11_image_22 rfl ?_
  refine gz_iconst (pc := 23) dX11_image_23 (v := 1) (by decide) ?_
  refine gp_X11_79 (pc := 24) dX11_image_24 z_0_30 (by decide) rfl ?_
  cases h; exact gz_vret (pc := 27) dX11_image_27 rfl ⟨rfl, rfl⟩
/-! X11_back: back -/
def f_X11_back (φ : Nat) (I : gzIT) (J : gzJT) : Option (Int32 × gzIT × gzJT) := if ¬ I 0 30 12 = 0 then (Option.bind (f_X8_copyFrom φ 0 2 I J) (fun v2 => Option.bind (f_X2_copyFrom 0 2 v2.2.1 v2.2.2) (fun v4 => Option.bind (f_X5_forget v4.2.1 v4.2.2) (fun v6 => some (1, v6.2.1, v6.2.2))))) else (some (0, I, J))
set_option maxRecDepth 20000 in
theorem c_X11_back {g : gzG} {d φ : Nat} {I : gzIT} {J : gzJT} {r : Int32 × gzIT × gzJT} (h : f_X11_back φ I J = some r) : gzC g 0 (d + 3) mX11_back [.inr (.inr (0, 30))] (gzN, gzR0, I, J) (gzE (.ok (some (.inl r.1))) (gzN, gzR0, r.2.1, r.2.2)) := by
  unfold f_X11_back at h
  refine gzC_of (by decide +kernel) (Nat.le_of_ble_eq_true rfl) (loc := [some (.inr (.inr (0, 30)))]) rfl ?_
  have z_0_30 : gzOk 0 30 gzN := gzOk_of (by decide)
  have z_0_0 : gzOk 0 0 gzN := gzOk_of (by decide)
  have z_0_20 : gzOk 0 20 gzN := gzOk_of (by decide)
  have z_0_39 : gzOk 0 39 gzN := gzOk_of (by decide)
  refine gz_aload_n (pc := 0) dX11_back_0 rfl ?_
  refine gi_X11_79 (pc := 1) dX11_back_1 (v := I 0 30 12) z_0_30 rfl rfl ?_
  refine gz_if_ne (pc := 4) (tgt := 9) dX11_back_4 (by decide) (fun c => ?_) (fun c => ?_)
  · replace h := gz_ifp c h
    refine gz_aload_n (pc := 9) dX11_back_9 rfl ?_
    refine gr_X11_42 (pc := 10) dX11_back_10 z_0_30 rfl ?_
    refine gz_aload_n (pc := 13) dX11_back_13 rfl ?_
    refine gr_X11_73 (pc := 14) dX11_back_14 z_0_30 rfl ?_
    refine gz_V (zy := mX8_copyFrom) (zc := 0) (pc := 17) [.inr (.inr (2, 0))] rfl dX11_back_17 lkX11_95 MvX8_copyFrom rfl z_0_0 rfl rfl rfl (Or.inl rfl) (fun h => h) (by exact Nat.le_of_ble_eq_true rfl) ?_
    obtain ⟨v2, e1, h⟩ := gz_bd h
    refine gz_useV (c_X8_copyFrom (by decide) (by decide) e1) ?_
    refine gz_aload_n (pc := 20) dX11_back_20 rfl ?_
    refine gr_X11_52 (pc := 21) dX11_back_21 z_0_30 rfl ?_
    refine gz_aload_n (pc := 24) dX11_back_24 rfl ?_
    refine gr_X11_76 (pc := 25) dX11_back_25 z_0_30 rfl ?_
    refine gz_V (zy := mX2_copyFrom) (zc := 0) (pc := 28) [.inr (.inr (2, 20))] rfl dX11_back_28 lkX11_120 MvX2_copyFrom rfl z_0_20 rfl rfl rfl (Or.inl rfl) (fun h => h) (by exact Nat.le_of_ble_eq_true rfl) ?_
    obtain ⟨v4, e3, h⟩ := gz_bd h
    refine gz_useV (c_X2_copyFrom (by decide) (by decide) e3) ?_
    refine gz_aload_n (pc := 31) dX11_back_31 rfl ?_
    refine gr_X11_62 (pc := 32) dX11_back_32 z_0_30 rfl ?_
    refine gz_V (zy := mX5_forget) (zc := 0) (pc := 35) [] rfl dX11_back_35 lkX11_111 MvX5_forget rfl z_0_39 rfl rfl rfl (Or.inl rfl) (fun h => h) (by exact Nat.le_of_ble_eq_true rfl) ?_
    obtain ⟨v6, e5, h⟩ := gz_bd h
    refine gz_useV (c_X5_forget e5) ?_
    refine gz_iconst (pc := 38) dX11_back_38 (v := 1) (by decide) ?_
    cases h; exact gz_zret (pc := 39) dX11_back_39 rfl (by decide) ⟨rfl, rfl⟩
  · replace h := gz_ifn (fun q => q c) h
    refine gz_iconst (pc := 7) dX11_back_7 (v := 0) (by decide) ?_
    cases h; exact gz_zret (pc := 8) dX11_back_8 rfl (by decide) ⟨rfl, rfl⟩
/-! X11_count: count -/
def f_X11_count (φ : Nat) (I : gzIT) (a1 : Int32) : Option Int32 := if a1 = 0 then (some (I 0 1 5)) else (if a1 = 1 then (Option.bind (f_X1_frozenOnes φ 0 I) (fun v2 => some v2)) else (if a1 = 2 then (some (I 0 0 6)) else (if a1 = 3 then (some (I 0 20 7)) else (if a1 = 4 then (some (I 0 0 7)) else (if a1 = 5 then (some (I 0 0 8)) else (if a1 = 6 then (some (if I 0 0 9 = 0 then (0 : Int32) else 1)) else (if a1 = 7 then (some (I 0 0 10)) else (if a1 = 8 then (Option.bind (f_X1_allIce φ 0 I) (fun v5 => some v5)) else (if a1 = 9 then (Option.bind (f_X0_allLarders φ 0 I) (fun v7 => some v7)) else (if a1 = 10 then (some (I 0 15 1)) else (if a1 = 11 then (some (I 0 39 1)) else (some (-1)))))))))))))
set_option maxRecDepth 20000 in
theorem c_X11_count {g : gzG} {d φ : Nat} {a1 : Int32} {I : gzIT} {J : gzJT} {r : Int32} (h : f_X11_count φ I a1 = some r) : gzC g 0 (d + 1) mX11_count [.inr (.inr (0, 30)), .inl a1] (gzN, gzR0, I, J) (gzE (.ok (some (.inl r))) (gzN, gzR0, I, J)) := by
  unfold f_X11_count at h
  refine gzC_of (by decide +kernel) (Nat.le_of_ble_eq_true rfl) (loc := [some (.inr (.inr (0, 30))), some (.inl a1)]) rfl ?_
  have z_0_30 : gzOk 0 30 gzN := gzOk_of (by decide)
  have z_0_0 : gzOk 0 0 gzN := gzOk_of (by decide)
  have z_0_1 : gzOk 0 1 gzN := gzOk_of (by decide)
  have z_0_7 : gzOk 0 7 gzN := gzOk_of (by decide)
  have z_0_20 : gzOk 0 20 gzN := gzOk_of (by decide)
  have z_0_15 : gzOk 0 15 gzN := gzOk_of (by decide)
  have z_0_39 : gzOk 0 39 gzN := gzOk_of (by decide)
  refine gz_iload_n (pc := 0) dX11_count_0 rfl ?_
  by_cases c0 : a1 = 0
  · replace h := gz_ifp c0 h
    refine gz_swIn (pc := 1) (tgt := 64) (off := 63) dX11_count_1 (by rw [c0]; decide) (by rw [c0]; decide) (by rw [c0]; rfl) (by decide) ?_
    refine gz_aload_n (pc := 64) dX11_count_64 rfl ?_
    refine gr_X11_42 (pc := 65) dX11_count_65 z_0_30 rfl ?_
    refine gr_X11_131 (pc := 68) dX11_count_68 z_0_0 rfl ?_
    refine gi_X11_310 (pc := 71) dX11_count_71 (v := I 0 1 5) z_0_1 rfl rfl ?_
    cases h; exact gz_iret (pc := 74) dX11_count_74 rfl ⟨rfl, rfl⟩
  replace h := gz_ifn c0 h
  by_cases c1 : a1 = 1
  · replace h := gz_ifp c1 h
    refine gz_swIn (pc := 1) (tgt := 75) (off := 74) dX11_count_1 (by rw [c1]; decide) (by rw [c1]; decide) (by rw [c1]; rfl) (by decide) ?_
    refine gz_aload_n (pc := 75) dX11_count_75 rfl ?_
    refine gr_X11_42 (pc := 76) dX11_count_76 z_0_30 rfl ?_
    refine gr_X11_150 (pc := 79) dX11_count_79 z_0_0 rfl ?_
    refine gz_V (zy := mX1_frozenOnes) (zc := 0) (pc := 82) [] rfl dX11_count_82 lkX11_421 MvX1_frozenOnes rfl z_0_7 rfl rfl rfl (Or.inl rfl) (fun h => h) (by exact Nat.le_of_ble_eq_true rfl) ?_
    obtain ⟨v2, e1, h⟩ := gz_bd h
    refine gz_useI (c_X1_frozenOnes (by decide) e1) ?_
    cases h; exact gz_iret (pc := 85) dX11_count_85 rfl ⟨rfl, rfl⟩
  replace h := gz_ifn c1 h
  by_cases c2 : a1 = 2
  · replace h := gz_ifp c2 h
    refine gz_swIn (pc := 1) (tgt := 86) (off := 85) dX11_count_1 (by rw [c2]; decide) (by rw [c2]; decide) (by rw [c2]; rfl) (by decide) ?_
    refine gz_aload_n (pc := 86) dX11_count_86 rfl ?_
    refine gr_X11_42 (pc := 87) dX11_count_87 z_0_30 rfl ?_
    refine gi_X11_101 (pc := 90) dX11_count_90 (v := I 0 0 6) z_0_0 rfl rfl ?_
    cases h; exact gz_iret (pc := 93) dX11_count_93 rfl ⟨rfl, rfl⟩
  replace h := gz_ifn c2 h
  by_cases c3 : a1 = 3
  · replace h := gz_ifp c3 h
    refine gz_swIn (pc := 1) (tgt := 94) (off := 93) dX11_count_1 (by rw [c3]; decide) (by rw [c3]; decide) (by rw [c3]; rfl) (by decide) ?_
    refine gz_aload_n (pc := 94) dX11_count_94 rfl ?_
    refine gr_X11_52 (pc := 95) dX11_count_95 z_0_30 rfl ?_
    refine gi_X11_122 (pc := 98) dX11_count_98 (v := I 0 20 7) z_0_20 rfl rfl ?_
    cases h; exact gz_iret (pc := 101) dX11_count_101 rfl ⟨rfl, rfl⟩
  replace h := gz_ifn c3 h
  by_cases c4 : a1 = 4
  · replace h := gz_ifp c4 h
    refine gz_swIn (pc := 1) (tgt := 102) (off := 101) dX11_count_1 (by rw [c4]; decide) (by rw [c4]; decide) (by rw [c4]; rfl) (by decide) ?_
    refine gz_aload_n (pc := 102) dX11_count_102 rfl ?_
    refine gr_X11_42 (pc := 103) dX11_count_103 z_0_30 rfl ?_
    refine gi_X11_264 (pc := 106) dX11_count_106 (v := I 0 0 7) z_0_0 rfl rfl ?_
    cases h; exact gz_iret (pc := 109) dX11_count_109 rfl ⟨rfl, rfl⟩
  replace h := gz_ifn c4 h
  by_cases c5 : a1 = 5
  · replace h := gz_ifp c5 h
    refine gz_swIn (pc := 1) (tgt := 110) (off := 109) dX11_count_1 (by rw [c5]; decide) (by rw [c5]; decide) (by rw [c5]; rfl) (by decide) ?_
    refine gz_aload_n (pc := 110) dX11_count_110 rfl ?_
    refine gr_X11_42 (pc := 111) dX11_count_111 z_0_30 rfl ?_
    refine gi_X11_287 (pc := 114) dX11_count_114 (v := I 0 0 8) z_0_0 rfl rfl ?_
    cases h; exact gz_iret (pc := 117) dX11_count_117 rfl ⟨rfl, rfl⟩
  replace h := gz_ifn c5 h
  by_cases c6 : a1 = 6
  · replace h := gz_ifp c6 h
    refine gz_swIn (pc := 1) (tgt := 118) (off := 117) dX11_count_1 (by rw [c6]; decide) (by rw [c6]; decide) (by rw [c6]; rfl) (by decide) ?_
    refine gz_aload_n (pc := 118) dX11_count_118 rfl ?_
    refine gr_X11_42 (pc := 119) dX11_count_119 z_0_30 rfl ?_
    refine gi_X11_297 (pc := 122) dX11_count_122 (v := I 0 0 9) z_0_0 rfl rfl ?_
    have kj3 : gzX g 0 (d + 1) mX11_count 133 [some (.inr (.inr (0, 30))), some (.inl a1)] ([.inl (if I 0 0 9 = 0 then (0 : Int32) else 1)]) (gzN, gzR0, I, J) 0 (gzE (.ok (some (.inl r))) (gzN, gzR0, I, J)) := by
      cases h; exact gz_iret (pc := 133) dX11_count_133 rfl ⟨rfl, rfl⟩
    refine gz_if_eq (pc := 125) (tgt := 132) dX11_count_125 (by decide) (fun c => ?_) (fun c => ?_)
    · rw [if_pos c] at kj3
      refine gz_iconst (pc := 132) dX11_count_132 (v := 0) (by decide) ?_
      exact kj3
    · rw [if_neg c] at kj3
      refine gz_iconst (pc := 128) dX11_count_128 (v := 1) (by decide) ?_
      refine gz_goto (pc := 129) (tgt := 133) dX11_count_129 (by decide) ?_
      exact kj3
  replace h := gz_ifn c6 h
  by_cases c7 : a1 = 7
  · replace h := gz_ifp c7 h
    refine gz_swIn (pc := 1) (tgt := 134) (off := 133) dX11_count_1 (by rw [c7]; decide) (by rw [c7]; decide) (by rw [c7]; rfl) (by decide) ?_
    refine gz_aload_n (pc := 134) dX11_count_134 rfl ?_
    refine gr_X11_42 (pc := 135) dX11_count_135 z_0_30 rfl ?_
    refine gi_X11_401 (pc := 138) dX11_count_138 (v := I 0 0 10) z_0_0 rfl rfl ?_
    cases h; exact gz_iret (pc := 141) dX11_count_141 rfl ⟨rfl, rfl⟩
  replace h := gz_ifn c7 h
  by_cases c8 : a1 = 8
  · replace h := gz_ifp c8 h
    refine gz_swIn (pc := 1) (tgt := 142) (off := 141) dX11_count_1 (by rw [c8]; decide) (by rw [c8]; decide) (by rw [c8]; rfl) (by decide) ?_
    refine gz_aload_n (pc := 142) dX11_count_142 rfl ?_
    refine gr_X11_42 (pc := 143) dX11_count_143 z_0_30 rfl ?_
    refine gr_X11_150 (pc := 146) dX11_count_146 z_0_0 rfl ?_
    refine gz_V (zy := mX1_allIce) (zc := 0) (pc := 149) [] rfl dX11_count_149 lkX11_300 MvX1_allIce rfl z_0_7 rfl rfl rfl (Or.inl rfl) (fun h => h) (by exact Nat.le_of_ble_eq_true rfl) ?_
    obtain ⟨v5, e4, h⟩ := gz_bd h
    refine gz_useI (c_X1_allIce (by decide) e4) ?_
    cases h; exact gz_iret (pc := 152) dX11_count_152 rfl ⟨rfl, rfl⟩
  replace h := gz_ifn c8 h
  by_cases c9 : a1 = 9
  · replace h := gz_ifp c9 h
    refine gz_swIn (pc := 1) (tgt := 153) (off := 152) dX11_count_1 (by rw [c9]; decide) (by rw [c9]; decide) (by rw [c9]; rfl) (by decide) ?_
    refine gz_aload_n (pc := 153) dX11_count_153 rfl ?_
    refine gr_X11_42 (pc := 154) dX11_count_154 z_0_30 rfl ?_
    refine gr_X11_131 (pc := 157) dX11_count_157 z_0_0 rfl ?_
    refine gz_V (zy := mX0_allLarders) (zc := 0) (pc := 160) [] rfl dX11_count_160 lkX11_436 MvX0_allLarders rfl z_0_1 rfl rfl rfl (Or.inl rfl) (fun h => h) (by exact Nat.le_of_ble_eq_true rfl) ?_
    obtain ⟨v7, e6, h⟩ := gz_bd h
    refine gz_useI (c_X0_allLarders (by decide) e6) ?_
    cases h; exact gz_iret (pc := 163) dX11_count_163 rfl ⟨rfl, rfl⟩
  replace h := gz_ifn c9 h
  by_cases c10 : a1 = 10
  · replace h := gz_ifp c10 h
    refine gz_swIn (pc := 1) (tgt := 164) (off := 163) dX11_count_1 (by rw [c10]; decide) (by rw [c10]; decide) (by rw [c10]; rfl) (by decide) ?_
    refine gz_aload_n (pc := 164) dX11_count_164 rfl ?_
    refine gr_X11_42 (pc := 165) dX11_count_165 z_0_30 rfl ?_
    refine gr_X11_260 (pc := 168) dX11_count_168 z_0_0 rfl ?_
    refine gi_X11_439 (pc := 171) dX11_count_171 (v := I 0 15 1) z_0_15 rfl rfl ?_
    cases h; exact gz_iret (pc := 174) dX11_count_174 rfl ⟨rfl, rfl⟩
  replace h := gz_ifn c10 h
  by_cases c11 : a1 = 11
  · replace h := gz_ifp c11 h
    refine gz_swIn (pc := 1) (tgt := 175) (off := 174) dX11_count_1 (by rw [c11]; decide) (by rw [c11]; decide) (by rw [c11]; rfl) (by decide) ?_
    refine gz_aload_n (pc := 175) dX11_count_175 rfl ?_
    refine gr_X11_62 (pc := 176) dX11_count_176 z_0_30 rfl ?_
    refine gi_X11_440 (pc := 179) dX11_count_179 (v := I 0 39 1) z_0_39 rfl rfl ?_
    cases h; exact gz_iret (pc := 182) dX11_count_182 rfl ⟨rfl, rfl⟩
  replace h := gz_ifn c11 h
  refine gz_swOut (pc := 1) (tgt := 183) dX11_count_1 (gz_sw0_12 c0 c1 c2 c3 c4 c5 c6 c7 c8 c9 c10 c11) (by decide) ?_
  refine gz_iconst (pc := 183) dX11_count_183 (v := (-1)) (by decide) ?_
  cases h; exact gz_iret (pc := 184) dX11_count_184 rfl ⟨rfl, rfl⟩
/-! J6_numberOfTrailingZeros_0f7a4: numberOfTrailingZeros -/
def gP_J6_numberOfTrailingZeros_0f7a4_49 (g : gzG) (d : Nat) (r : Int32) (x0 : Int32) (x1 : Int32) (I : gzIT) (J : gzJT) : Prop := gzX g 0 d mJ6_numberOfTrailingZeros_0f7a4 49 [some (.inl x0), some (.inl x1)] [] (gzN, gzR0, I, J) 0 (gzE (.ok (some (.inl r))) (gzN, gzR0, I, J))
def gP_J6_numberOfTrailingZeros_0f7a4_34 (g : gzG) (d : Nat) (r : Int32) (x0 : Int32) (x1 : Int32) (I : gzIT) (J : gzJT) : Prop := gzX g 0 d mJ6_numberOfTrailingZeros_0f7a4 34 [some (.inl x0), some (.inl x1)] [] (gzN, gzR0, I, J) 0 (gzE (.ok (some (.inl r))) (gzN, gzR0, I, J))
def f_J6_numberOfTrailingZeros_0f7a4_49 (x0 : Int32) (x1 : Int32) : Option Int32 := if x0 ≤ 16 then (if x0 ≤ 4 then (some (x1 + ((x0.toUInt32 >>> ((1 : Int32).toUInt32 &&& Int32.toUInt32 31)).toInt32))) else (some ((x1 + 2) + ((((x0.toUInt32 >>> ((2 : Int32).toUInt32 &&& Int32.toUInt32 31)).toInt32).toUInt32 >>> ((1 : Int32).toUInt32 &&& Int32.toUInt32 31)).toInt32)))) else (if (x0.toUInt32 >>> ((4 : Int32).toUInt32 &&& Int32.toUInt32 31)).toInt32 ≤ 4 then (some ((x1 + 4) + ((((x0.toUInt32 >>> ((4 : Int32).toUInt32 &&& Int32.toUInt32 31)).toInt32).toUInt32 >>> ((1 : Int32).toUInt32 &&& Int32.toUInt32 31)).toInt32))) else (some (((x1 + 4) + 2) + ((((((x0.toUInt32 >>> ((4 : Int32).toUInt32 &&& Int32.toUInt32 31)).toInt32).toUInt32 >>> ((2 : Int32).toUInt32 &&& Int32.toUInt32 31)).toInt32).toUInt32 >>> ((1 : Int32).toUInt32 &&& Int32.toUInt32 31)).toInt32))))
set_option maxRecDepth 20000 in
theorem p_J6_numberOfTrailingZeros_0f7a4_49 {g : gzG} {d : Nat} {I : gzIT} {J : gzJT} {r : Int32} (x0 : Int32) (x1 : Int32) (h : f_J6_numberOfTrailingZeros_0f7a4_49 x0 x1 = some r) : gP_J6_numberOfTrailingZeros_0f7a4_49 g d r x0 x1 I J := by
  unfold f_J6_numberOfTrailingZeros_0f7a4_49 at h
  unfold gP_J6_numberOfTrailingZeros_0f7a4_49
  refine gz_iload_n (pc := 49) dJ6_numberOfTrailingZeros_0f7a4_49 rfl ?_
  refine gz_bipush (pc := 50) dJ6_numberOfTrailingZeros_0f7a4_50 (v := 16) (by decide) ?_
  refine gz_ic_le (pc := 52) (tgt := 62) dJ6_numberOfTrailingZeros_0f7a4_52 (by decide) (fun c => ?_) (fun c => ?_)
  · replace h := gz_ifp c h
    refine gz_iload_n (pc := 62) dJ6_numberOfTrailingZeros_0f7a4_62 rfl ?_
    refine gz_iconst (pc := 63) dJ6_numberOfTrailingZeros_0f7a4_63 (v := 4) (by decide) ?_
    refine gz_ic_le (pc := 64) (tgt := 74) dJ6_numberOfTrailingZeros_0f7a4_64 (by decide) (fun c => ?_) (fun c => ?_)
    · replace h := gz_ifp c h
      refine gz_iload_n (pc := 74) dJ6_numberOfTrailingZeros_0f7a4_74 rfl ?_
      refine gz_iload_n (pc := 75) dJ6_numberOfTrailingZeros_0f7a4_75 rfl ?_
      refine gz_iconst (pc := 76) dJ6_numberOfTrailingZeros_0f7a4_76 (v := 1) (by decide) ?_
      refine gz_iushr (pc := 77) dJ6_numberOfTrailingZeros_0f7a4_77 (v := (x0.toUInt32 >>> ((1 : Int32).toUInt32 &&& Int32.toUInt32 31)).toInt32) rfl ?_
      refine gz_iadd (pc := 78) dJ6_numberOfTrailingZeros_0f7a4_78  ?_
      cases h; exact gz_iret (pc := 79) dJ6_numberOfTrailingZeros_0f7a4_79 rfl ⟨rfl, rfl⟩
    · replace h := gz_ifn c h
      refine gz_iinc (pc := 67) dJ6_numberOfTrailingZeros_0f7a4_67 (x := x1) (v := x1 + 2) rfl (by rw [show Int32.ofInt 2 = 2 by decide]) (by decide) rfl (loc2 := [some (.inl x0), some (.inl (x1 + 2))]) rfl ?_
      refine gz_iload_n (pc := 70) dJ6_numberOfTrailingZeros_0f7a4_70 rfl ?_
      refine gz_iconst (pc := 71) dJ6_numberOfTrailingZeros_0f7a4_71 (v := 2) (by decide) ?_
      refine gz_iushr (pc := 72) dJ6_numberOfTrailingZeros_0f7a4_72 (v := (x0.toUInt32 >>> ((2 : Int32).toUInt32 &&& Int32.toUInt32 31)).toInt32) rfl ?_
      refine gz_istore_n (pc := 73) dJ6_numberOfTrailingZeros_0f7a4_73 (by decide) rfl (loc2 := [some (.inl ((x0.toUInt32 >>> ((2 : Int32).toUInt32 &&& Int32.toUInt32 31)).toInt32)), some (.inl (x1 + 2))]) rfl ?_
      refine gz_iload_n (pc := 74) dJ6_numberOfTrailingZeros_0f7a4_74 rfl ?_
      refine gz_iload_n (pc := 75) dJ6_numberOfTrailingZeros_0f7a4_75 rfl ?_
      refine gz_iconst (pc := 76) dJ6_numberOfTrailingZeros_0f7a4_76 (v := 1) (by decide) ?_
      refine gz_iushr (pc := 77) dJ6_numberOfTrailingZeros_0f7a4_77 (v := (((x0.toUInt32 >>> ((2 : Int32).toUInt32 &&& Int32.toUInt32 31)).toInt32).toUInt32 >>> ((1 : Int32).toUInt32 &&& Int32.toUInt32 31)).toInt32) rfl ?_
      refine gz_iadd (pc := 78) dJ6_numberOfTrailingZeros_0f7a4_78  ?_
      cases h; exact gz_iret (pc := 79) dJ6_numberOfTrailingZeros_0f7a4_79 rfl ⟨rfl, rfl⟩
  · replace h := gz_ifn c h
    refine gz_iinc (pc := 55) dJ6_numberOfTrailingZeros_0f7a4_55 (x := x1) (v := x1 + 4) rfl (by rw [show Int32.ofInt 4 = 4 by decide]) (by decide) rfl (loc2 := [some (.inl x0), some (.inl (x1 + 4))]) rfl ?_
    refine gz_iload_n (pc := 58) dJ6_numberOfTrailingZeros_0f7a4_58 rfl ?_
    refine gz_iconst (pc := 59) dJ6_numberOfTrailingZeros_0f7a4_59 (v := 4) (by decide) ?_
    refine gz_iushr (pc := 60) dJ6_numberOfTrailingZeros_0f7a4_60 (v := (x0.toUInt32 >>> ((4 : Int32).toUInt32 &&& Int32.toUInt32 31)).toInt32) rfl ?_
    refine gz_istore_n (pc := 61) dJ6_numberOfTrailingZeros_0f7a4_61 (by decide) rfl (loc2 := [some (.inl ((x0.toUInt32 >>> ((4 : Int32).toUInt32 &&& Int32.toUInt32 31)).toInt32)), some (.inl (x1 + 4))]) rfl ?_
    refine gz_iload_n (pc := 62) dJ6_numberOfTrailingZeros_0f7a4_62 rfl ?_
    refine gz_iconst (pc := 63) dJ6_numberOfTrailingZeros_0f7a4_63 (v := 4) (by decide) ?_
    refine gz_ic_le (pc := 64) (tgt := 74) dJ6_numberOfTrailingZeros_0f7a4_64 (by decide) (fun c => ?_) (fun c => ?_)
    · replace h := gz_ifp c h
      refine gz_iload_n (pc := 74) dJ6_numberOfTrailingZeros_0f7a4_74 rfl ?_
      refine gz_iload_n (pc := 75) dJ6_numberOfTrailingZeros_0f7a4_75 rfl ?_
      refine gz_iconst (pc := 76) dJ6_numberOfTrailingZeros_0f7a4_76 (v := 1) (by decide) ?_
      refine gz_iushr (pc := 77) dJ6_numberOfTrailingZeros_0f7a4_77 (v := (((x0.toUInt32 >>> ((4 : Int32).toUInt32 &&& Int32.toUInt32 31)).toInt32).toUInt32 >>> ((1 : Int32).toUInt32 &&& Int32.toUInt32 31)).toInt32) rfl ?_
      refine gz_iadd (pc := 78) dJ6_numberOfTrailingZeros_0f7a4_78  ?_
      cases h; exact gz_iret (pc := 79) dJ6_numberOfTrailingZeros_0f7a4_79 rfl ⟨rfl, rfl⟩
    · replace h := gz_ifn c h
      refine gz_iinc (pc := 67) dJ6_numberOfTrailingZeros_0f7a4_67 (x := (x1 + 4)) (v := (x1 + 4) + 2) rfl (by rw [show Int32.ofInt 2 = 2 by decide]) (by decide) rfl (loc2 := [some (.inl ((x0.toUInt32 >>> ((4 : Int32).toUInt32 &&& Int32.toUInt32 31)).toInt32)), some (.inl ((x1 + 4) + 2))]) rfl ?_
      refine gz_iload_n (pc := 70) dJ6_numberOfTrailingZeros_0f7a4_70 rfl ?_
      refine gz_iconst (pc := 71) dJ6_numberOfTrailingZeros_0f7a4_71 (v := 2) (by decide) ?_
      refine gz_iushr (pc := 72) dJ6_numberOfTrailingZeros_0f7a4_72 (v := (((x0.toUInt32 >>> ((4 : Int32).toUInt32 &&& Int32.toUInt32 31)).toInt32).toUInt32 >>> ((2 : Int32).toUInt32 &&& Int32.toUInt32 31)).toInt32) rfl ?_
      refine gz_istore_n (pc := 73) dJ6_numberOfTrailingZeros_0f7a4_73 (by decide) rfl (loc2 := [some (.inl ((((x0.toUInt32 >>> ((4 : Int32).toUInt32 &&& Int32.toUInt32 31)).toInt32).toUInt32 >>> ((2 : Int32).toUInt32 &&& Int32.toUInt32 31)).toInt32)), some (.inl ((x1 + 4) + 2))]) rfl ?_
      refine gz_iload_n (pc := 74) dJ6_numberOfTrailingZeros_0f7a4_74 rfl ?_
      refine gz_iload_n (pc := 75) dJ6_numberOfTrailingZeros_0f7a4_75 rfl ?_
      refine gz_iconst (pc := 76) dJ6_numberOfTrailingZeros_0f7a4_76 (v := 1) (by decide) ?_
      refine gz_iushr (pc := 77) dJ6_numberOfTrailingZeros_0f7a4_77 (v := (((((x0.toUInt32 >>> ((4 : Int32).toUInt32 &&& Int32.toUInt32 31)).toInt32).toUInt32 >>> ((2 : Int32).toUInt32 &&& Int32.toUInt32 31)).toInt32).toUInt32 >>> ((1 : Int32).toUInt32 &&& Int32.toUInt32 31)).toInt32) rfl ?_
      refine gz_iadd (pc := 78) dJ6_numberOfTrailingZeros_0f7a4_78  ?_
      cases h; exact gz_iret (pc := 79) dJ6_numberOfTrailingZeros_0f7a4_79 rfl ⟨rfl, rfl⟩
def f_J6_numberOfTrailingZeros_0f7a4_34 (x0 : Int32) (x1 : Int32) : Option Int32 := if x0 ≤ 256 then (f_J6_numberOfTrailingZeros_0f7a4_49 x0 x1) else (f_J6_numberOfTrailingZeros_0f7a4_49 ((x0.toUInt32 >>> ((8 : Int32).toUInt32 &&& Int32.toUInt32 31)).toInt32) (x1 + 8))
set_option maxRecDepth 20000 in
theorem p_J6_numberOfTrailingZeros_0f7a4_34 {g : gzG} {d : Nat} {I : gzIT} {J : gzJT} {r : Int32} (x0 : Int32) (x1 : Int32) (h : f_J6_numberOfTrailingZeros_0f7a4_34 x0 x1 = some r) : gP_J6_numberOfTrailingZeros_0f7a4_34 g d r x0 x1 I J := by
  unfold f_J6_numberOfTrailingZeros_0f7a4_34 at h
  unfold gP_J6_numberOfTrailingZeros_0f7a4_34
  refine gz_iload_n (pc := 34) dJ6_numberOfTrailingZeros_0f7a4_34 rfl ?_
  refine gz_sipush (pc := 35) dJ6_numberOfTrailingZeros_0f7a4_35 (v := 256) (by decide) ?_
  refine gz_ic_le (pc := 38) (tgt := 49) dJ6_numberOfTrailingZeros_0f7a4_38 (by decide) (fun c => ?_) (fun c => ?_)
  · replace h := gz_ifp c h
    exact p_J6_numberOfTrailingZeros_0f7a4_49 x0 x1 h
  · replace h := gz_ifn c h
    refine gz_iinc (pc := 41) dJ6_numberOfTrailingZeros_0f7a4_41 (x := x1) (v := x1 + 8) rfl (by rw [show Int32.ofInt 8 = 8 by decide]) (by decide) rfl (loc2 := [some (.inl x0), some (.inl (x1 + 8))]) rfl ?_
    refine gz_iload_n (pc := 44) dJ6_numberOfTrailingZeros_0f7a4_44 rfl ?_
    refine gz_bipush (pc := 45) dJ6_numberOfTrailingZeros_0f7a4_45 (v := 8) (by decide) ?_
    refine gz_iushr (pc := 47) dJ6_numberOfTrailingZeros_0f7a4_47 (v := (x0.toUInt32 >>> ((8 : Int32).toUInt32 &&& Int32.toUInt32 31)).toInt32) rfl ?_
    refine gz_istore_n (pc := 48) dJ6_numberOfTrailingZeros_0f7a4_48 (by decide) rfl (loc2 := [some (.inl ((x0.toUInt32 >>> ((8 : Int32).toUInt32 &&& Int32.toUInt32 31)).toInt32)), some (.inl (x1 + 8))]) rfl ?_
    exact p_J6_numberOfTrailingZeros_0f7a4_49 ((x0.toUInt32 >>> ((8 : Int32).toUInt32 &&& Int32.toUInt32 31)).toInt32) (x1 + 8) h
def f_J6_numberOfTrailingZeros_0f7a4 (a1 : Int32) : Option Int32 := if 0 < (a1 ^^^ (-1)) &&& (a1 - 1) then (if (a1 ^^^ (-1)) &&& (a1 - 1) ≤ 65536 then (f_J6_numberOfTrailingZeros_0f7a4_34 ((a1 ^^^ (-1)) &&& (a1 - 1)) 1) else (f_J6_numberOfTrailingZeros_0f7a4_34 ((((a1 ^^^ (-1)) &&& (a1 - 1)).toUInt32 >>> ((16 : Int32).toUInt32 &&& Int32.toUInt32 31)).toInt32) (1 + 16))) else (some (((a1 ^^^ (-1)) &&& (a1 - 1)) &&& 32))
set_option maxRecDepth 20000 in
theorem c_J6_numberOfTrailingZeros_0f7a4 {g : gzG} {d : Nat} {a1 : Int32} {I : gzIT} {J : gzJT} {r : Int32} (h : f_J6_numberOfTrailingZeros_0f7a4 a1 = some r) : gzC g 0 d mJ6_numberOfTrailingZeros_0f7a4 [.inl a1] (gzN, gzR0, I, J) (gzE (.ok (some (.inl r))) (gzN, gzR0, I, J)) := by
  unfold f_J6_numberOfTrailingZeros_0f7a4 at h
  refine gzC_of (by decide +kernel) (Nat.le_of_ble_eq_true rfl) (loc := [some (.inl a1), none]) rfl ?_
  refine gz_iload_n (pc := 0) dJ6_numberOfTrailingZeros_0f7a4_0 rfl ?_
  refine gz_iconst (pc := 1) dJ6_numberOfTrailingZeros_0f7a4_1 (v := (-1)) (by decide) ?_
  refine gz_ixor (pc := 2) dJ6_numberOfTrailingZeros_0f7a4_2  ?_
  refine gz_iload_n (pc := 3) dJ6_numberOfTrailingZeros_0f7a4_3 rfl ?_
  refine gz_iconst (pc := 4) dJ6_numberOfTrailingZeros_0f7a4_4 (v := 1) (by decide) ?_
  refine gz_isub (pc := 5) dJ6_numberOfTrailingZeros_0f7a4_5  ?_
  refine gz_iand (pc := 6) dJ6_numberOfTrailingZeros_0f7a4_6  ?_
  refine gz_istore_n (pc := 7) dJ6_numberOfTrailingZeros_0f7a4_7 (by decide) rfl (loc2 := [some (.inl ((a1 ^^^ (-1)) &&& (a1 - 1))), none]) rfl ?_
  refine gz_iload_n (pc := 8) dJ6_numberOfTrailingZeros_0f7a4_8 rfl ?_
  refine gz_if_gt (pc := 9) (tgt := 17) dJ6_numberOfTrailingZeros_0f7a4_9 (by decide) (fun c => ?_) (fun c => ?_)
  · replace h := gz_ifp c h
    refine gz_iconst (pc := 17) dJ6_numberOfTrailingZeros_0f7a4_17 (v := 1) (by decide) ?_
    refine gz_istore_n (pc := 18) dJ6_numberOfTrailingZeros_0f7a4_18 (by decide) rfl (loc2 := [some (.inl ((a1 ^^^ (-1)) &&& (a1 - 1))), some (.inl 1)]) rfl ?_
    refine gz_iload_n (pc := 19) dJ6_numberOfTrailingZeros_0f7a4_19 rfl ?_
    refine gz_ldcw (pc := 20) dJ6_numberOfTrailingZeros_0f7a4_20 kcJ6_264.1 kcJ6_264.2 ?_
    refine gz_ic_le (pc := 23) (tgt := 34) dJ6_numberOfTrailingZeros_0f7a4_23 (by decide) (fun c => ?_) (fun c => ?_)
    · replace h := gz_ifp c h
      exact p_J6_numberOfTrailingZeros_0f7a4_34 ((a1 ^^^ (-1)) &&& (a1 - 1)) 1 h
    · replace h := gz_ifn c h
      refine gz_iinc (pc := 26) dJ6_numberOfTrailingZeros_0f7a4_26 (x := 1) (v := 1 + 16) rfl (by rw [show Int32.ofInt 16 = 16 by decide]) (by decide) rfl (loc2 := [some (.inl ((a1 ^^^ (-1)) &&& (a1 - 1))), some (.inl (1 + 16))]) rfl ?_
      refine gz_iload_n (pc := 29) dJ6_numberOfTrailingZeros_0f7a4_29 rfl ?_
      refine gz_bipush (pc := 30) dJ6_numberOfTrailingZeros_0f7a4_30 (v := 16) (by decide) ?_
      refine gz_iushr (pc := 32) dJ6_numberOfTrailingZeros_0f7a4_32 (v := (((a1 ^^^ (-1)) &&& (a1 - 1)).toUInt32 >>> ((16 : Int32).toUInt32 &&& Int32.toUInt32 31)).toInt32) rfl ?_
      refine gz_istore_n (pc := 33) dJ6_numberOfTrailingZeros_0f7a4_33 (by decide) rfl (loc2 := [some (.inl ((((a1 ^^^ (-1)) &&& (a1 - 1)).toUInt32 >>> ((16 : Int32).toUInt32 &&& Int32.toUInt32 31)).toInt32)), some (.inl (1 + 16))]) rfl ?_
      exact p_J6_numberOfTrailingZeros_0f7a4_34 ((((a1 ^^^ (-1)) &&& (a1 - 1)).toUInt32 >>> ((16 : Int32).toUInt32 &&& Int32.toUInt32 31)).toInt32) (1 + 16) h
  · replace h := gz_ifn c h
    refine gz_iload_n (pc := 12) dJ6_numberOfTrailingZeros_0f7a4_12 rfl ?_
    refine gz_bipush (pc := 13) dJ6_numberOfTrailingZeros_0f7a4_13 (v := 32) (by decide) ?_
    refine gz_iand (pc := 15) dJ6_numberOfTrailingZeros_0f7a4_15  ?_
    cases h; exact gz_iret (pc := 16) dJ6_numberOfTrailingZeros_0f7a4_16 rfl ⟨rfl, rfl⟩
