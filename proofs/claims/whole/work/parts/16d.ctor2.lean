/-! the greater constructors -/
theorem gz_uiL2 {I : gzIT} {t o k t2 o2 : Nat} {L : List Int32} {f : Nat → Int32} {v : Int32} (h : ¬ (t2 = t ∧ o2 = o)) (hk : k < L.length) : gz_ui (gz_uw (gz_uw I t o (gzLi L)) t2 o2 f) t o k v = gz_uw (gz_uw I t o (gzLi (L.set k v))) t2 o2 f := by
  rw [← gz_uiL hk]
  funext t' o' j
  unfold gz_ui gz_uw
  by_cases e : t' = t2 ∧ o' = o2
  · rw [if_pos e, if_neg (fun q => h ⟨e.1.symm.trans q.1, e.2.symm.trans q.2.1⟩)]
    exact (congrFun (if_pos e) j).symm
  · rw [if_neg e, if_neg e]
theorem gz_urL2 {R : Nat → Nat → Nat → Option (Nat × Nat)} {t o k t2 o2 : Nat} {L : List (Option (Nat × Nat))} {f : Nat → Option (Nat × Nat)} {v : Option (Nat × Nat)} (h : ¬ (t2 = t ∧ o2 = o)) (hk : k < L.length) : gz_ur (gz_uwr (gz_uwr R t o (gzLr L)) t2 o2 f) t o k v = gz_uwr (gz_uwr R t o (gzLr (L.set k v))) t2 o2 f := by
  rw [← gz_urL hk]
  funext t' o' j
  unfold gz_ur gz_uwr
  by_cases e : t' = t2 ∧ o' = o2
  · rw [if_pos e, if_neg (fun q => h ⟨e.1.symm.trans q.1, e.2.symm.trans q.2.1⟩)]
    exact (congrFun (if_pos e) j).symm
  · rw [if_neg e, if_neg e]
section
variable {g : gzG} {d : Nat} {R : Nat → Nat → Nat → Option (Nat × Nat)} {I : gzIT} {J : gzJT}
theorem k_X8 {t : Nat} (ht : t < 15) (hR : R t 1 = gzR0 t 1 ∧ R t 7 = gzR0 t 7 ∧ R t 15 = gzR0 t 15) (hI : ∀ o, 1 ≤ o → o < 20 → I t o = gzI0 t o) : gzC g 0 (d + 1) mX8_init [.inr (.inr (t, 0))] (gzPos t 0 + 1, gz_uwr R t 0 (fun _ => none), gz_uw I t 0 (fun _ => 0), J) (gzE (.ok none) (gzPos t 0 + 20, gz_uwr R t 0 (gzR0 t 0), gz_uw I t 0 (gzI0 t 0), J)) := by
  refine gzC_of (by decide +kernel) (Nat.le_of_ble_eq_true rfl) (loc := [some (.inr (.inr (t, 0))), none]) rfl ?_
  rw [← gz_n0 (m := 6), ← gz_z0 (m := 12)]
  have hg := gz_grpT t ht
  have hz : ∀ (L : List Int32) (o : Nat), 1 ≤ o → o < 19 → (gz_uw I t 0 (gzLi L)) t o = fun _ => 0 := fun L o h1 h2 => (gz_uw_ne (by omega)).trans ((hI o h1 (by omega)).trans (gz_i0z (by omega)))
  refine gz_aload_n (pc := 0) dX8_init_0 rfl ?_
  refine go_X8_3 (pc := 1) dX8_init_1 (by exact Nat.le_of_ble_eq_true rfl) rfl ?_
  refine gz_aload_n (pc := 4) dX8_init_4 rfl ?_
  refine gz_new (pc := 5) (t := t) (o := 1) (ci := 0) (r := (RX0, TX0, 6)) dX8_init_5 rfl (by have := hg.2; show gzPos t 0 + 1 < gzN; omega) ((hg.1 1 (by omega)).1) (by decide) rfl rfl rfl ckX8_9.1 ikX0.1 MiX0_init.2.2.1.1 ckX8_9.2 ikX0.2 MiX0_init.2.2.1.2 ?_
  refine gz_dupR (pc := 8) dX8_init_8 ?_
  refine gz_IN (zy := mX0_init) (zc := 0) (pc := 9) (t := t) (o := 1) [] rfl dX8_init_9 lnX8_11 MiX0_init rfl (Or.inl rfl) (fun h => h) (by exact Nat.le_of_ble_eq_true rfl) ?_
  refine gz_useV (k_X0 ht (fun o ho => hz _ o (by simp at ho; omega) (by simp at ho; omega))) ?_
  rw [gz_uwr_same (t := t) (o := 1) ((gz_uwr_ne (by omega)).trans hR.1), gz_uw_same (t := t) (o := 1) ((gz_uw_ne (by omega)).trans (hI 1 (by omega) (by omega)))]
  refine gq_X8_12 (pc := 12) dX8_init_12 (gz_okT ht (by omega) (by show gzPos t 0 + 0 < gzPos t 0 + 7; omega)) rfl rfl ?_
  rw [gz_urL (by exact Nat.le_of_ble_eq_true rfl)]
  refine gz_aload_n (pc := 15) dX8_init_15 rfl ?_
  refine gz_new (pc := 16) (t := t) (o := 7) (ci := 1) (r := (RX1, TX1, 8)) dX8_init_16 rfl (by have := hg.2; show gzPos t 0 + 7 < gzN; omega) ((hg.1 7 (by omega)).1) (by decide) rfl rfl rfl ckX8_18.1 ikX1.1 MiX1_init.2.2.1.1 ckX8_18.2 ikX1.2 MiX1_init.2.2.1.2 ?_
  refine gz_dupR (pc := 19) dX8_init_19 ?_
  refine gz_IN (zy := mX1_init) (zc := 0) (pc := 20) (t := t) (o := 7) [] rfl dX8_init_20 lnX8_20 MiX1_init rfl (Or.inl rfl) (fun h => h) (by exact Nat.le_of_ble_eq_true rfl) ?_
  refine gz_useV (k_X1 ht (fun o ho => hz _ o (by simp at ho; omega) (by simp at ho; omega))) ?_
  rw [gz_uwr_same (t := t) (o := 7) ((gz_uwr_ne (by omega)).trans hR.2.1), gz_uw_same (t := t) (o := 7) ((gz_uw_ne (by omega)).trans (hI 7 (by omega) (by omega)))]
  refine gq_X8_21 (pc := 23) dX8_init_23 (gz_okT ht (by omega) (by show gzPos t 0 + 0 < gzPos t 0 + 15; omega)) rfl rfl ?_
  rw [gz_urL (by exact Nat.le_of_ble_eq_true rfl)]
  refine gz_aload_n (pc := 26) dX8_init_26 rfl ?_
  refine gz_new (pc := 27) (t := t) (o := 15) (ci := 4) (r := (RX4, TX4, 3)) dX8_init_27 rfl (by have := hg.2; show gzPos t 0 + 15 < gzN; omega) ((hg.1 15 (by omega)).1) (by decide) rfl rfl rfl ckX8_25.1 ikX4.1 MiX4_init.2.2.1.1 ckX8_25.2 ikX4.2 MiX4_init.2.2.1.2 ?_
  refine gz_dupR (pc := 30) dX8_init_30 ?_
  refine gz_IN (zy := mX4_init) (zc := 0) (pc := 31) (t := t) (o := 15) [] rfl dX8_init_31 lnX8_27 MiX4_init rfl (Or.inl rfl) (fun h => h) (by exact Nat.le_of_ble_eq_true rfl) ?_
  refine gz_useV (k_X4 ht (fun o ho => hz _ o (by simp at ho; omega) (by simp at ho; omega))) ?_
  rw [gz_uwr_same (t := t) (o := 15) ((gz_uwr_ne (by omega)).trans hR.2.2), gz_uw_same (t := t) (o := 15) ((gz_uw_ne (by omega)).trans (hI 15 (by omega) (by omega)))]
  refine gq_X8_28 (pc := 34) dX8_init_34 (gz_okT ht (by omega) (by show gzPos t 0 + 0 < gzPos t 0 + 17; omega)) rfl rfl ?_
  rw [gz_urL (by exact Nat.le_of_ble_eq_true rfl)]
  refine gz_aload_n (pc := 37) dX8_init_37 rfl ?_
  refine gz_bipush (pc := 38) dX8_init_38 (v := 8) (by decide) ?_
  refine gz_newI (pc := 40) (t := t) (o := 17) (N := 8) (ty := .int) dX8_init_40 rfl (by have := hg.2; show gzPos t 0 + 17 < gzN; omega) ((hg.1 17 (by omega)).1) (by decide) rfl rfl rfl (Or.inl rfl) (by decide) (by decide) (by exact Nat.le_of_ble_eq_true rfl) gka_int.1 gka_int.2 ?_
  rw [gz_uw_same (t := t) (o := 17) (f := fun _ => 0) (hz _ 17 (by omega) (by omega))]
  refine gq_X8_32 (pc := 42) dX8_init_42 (gz_okT ht (by omega) (by show gzPos t 0 + 0 < gzPos t 0 + 18; omega)) rfl rfl ?_
  rw [gz_urL (by exact Nat.le_of_ble_eq_true rfl)]
  refine gz_aload_n (pc := 45) dX8_init_45 rfl ?_
  refine gz_bipush (pc := 46) dX8_init_46 (v := 8) (by decide) ?_
  refine gz_newI (pc := 48) (t := t) (o := 18) (N := 8) (ty := .int) dX8_init_48 rfl (by have := hg.2; show gzPos t 0 + 18 < gzN; omega) ((hg.1 18 (by omega)).1) (by decide) rfl rfl rfl (Or.inl rfl) (by decide) (by decide) (by exact Nat.le_of_ble_eq_true rfl) gka_int.1 gka_int.2 ?_
  rw [gz_uw_same (t := t) (o := 18) (f := fun _ => 0) (hz _ 18 (by omega) (by omega))]
  refine gq_X8_36 (pc := 50) dX8_init_50 (gz_okT ht (by omega) (by show gzPos t 0 + 0 < gzPos t 0 + 19; omega)) rfl rfl ?_
  rw [gz_urL (by exact Nat.le_of_ble_eq_true rfl)]
  refine gz_aload_n (pc := 53) dX8_init_53 rfl ?_
  refine gz_iconst (pc := 54) dX8_init_54 (v := 4) (by decide) ?_
  refine gz_newI (pc := 55) (t := t) (o := 19) (N := 4) (ty := .int) dX8_init_55 rfl (by have := hg.2; show gzPos t 0 + 19 < gzN; omega) ((hg.1 19 (by omega)).1) (by decide) rfl rfl rfl (Or.inl rfl) (by decide) (by decide) (by exact Nat.le_of_ble_eq_true rfl) gka_int.1 gka_int.2 ?_
  refine gq_X8_39 (pc := 57) dX8_init_57 (gz_okT ht (by omega) (by show gzPos t 0 + 0 < gzPos t 0 + 20; omega)) rfl rfl ?_
  rw [gz_urL (by exact Nat.le_of_ble_eq_true rfl)]
  refine gz_aload_n (pc := 60) dX8_init_60 rfl ?_
  refine gz_iconst (pc := 61) dX8_init_61 (v := 0) (by decide) ?_
  refine gp_X8_42 (pc := 62) dX8_init_62 (gz_okT ht (by omega) (by show gzPos t 0 + 0 < gzPos t 0 + 20; omega)) rfl ?_
  rw [gz_uiL2 (by omega) (by exact Nat.le_of_ble_eq_true rfl)]
  refine gz_aload_n (pc := 65) dX8_init_65 rfl ?_
  refine gz_iconst (pc := 66) dX8_init_66 (v := 0) (by decide) ?_
  refine gp_X8_46 (pc := 67) dX8_init_67 (gz_okT ht (by omega) (by show gzPos t 0 + 0 < gzPos t 0 + 20; omega)) rfl ?_
  rw [gz_uiL2 (by omega) (by exact Nat.le_of_ble_eq_true rfl)]
  refine gz_aload_n (pc := 70) dX8_init_70 rfl ?_
  refine gz_iconst (pc := 71) dX8_init_71 (v := 0) (by decide) ?_
  refine gp_X8_49 (pc := 72) dX8_init_72 (gz_okT ht (by omega) (by show gzPos t 0 + 0 < gzPos t 0 + 20; omega)) rfl ?_
  rw [gz_uiL2 (by omega) (by exact Nat.le_of_ble_eq_true rfl)]
  refine gz_aload_n (pc := 75) dX8_init_75 rfl ?_
  refine gz_iconst (pc := 76) dX8_init_76 (v := 0) (by decide) ?_
  refine gp_X8_52 (pc := 77) dX8_init_77 (gz_okT ht (by omega) (by show gzPos t 0 + 0 < gzPos t 0 + 20; omega)) (Or.inl rfl) rfl ?_
  rw [gz_uiL2 (by omega) (by exact Nat.le_of_ble_eq_true rfl)]
  refine gz_aload_n (pc := 80) dX8_init_80 rfl ?_
  refine gz_iconst (pc := 81) dX8_init_81 (v := 0) (by decide) ?_
  refine gp_X8_56 (pc := 82) dX8_init_82 (gz_okT ht (by omega) (by show gzPos t 0 + 0 < gzPos t 0 + 20; omega)) rfl ?_
  rw [gz_uiL2 (by omega) (by exact Nat.le_of_ble_eq_true rfl)]
  refine gz_aload_n (pc := 85) dX8_init_85 rfl ?_
  refine gz_iconst (pc := 86) dX8_init_86 (v := 1) (by decide) ?_
  refine gp_X8_59 (pc := 87) dX8_init_87 (gz_okT ht (by omega) (by show gzPos t 0 + 0 < gzPos t 0 + 20; omega)) rfl ?_
  rw [gz_uiL2 (by omega) (by exact Nat.le_of_ble_eq_true rfl)]
  rw [← gz_z0 (m := 4)]
  refine gz_iconst (pc := 90) dX8_init_90 (v := 0) (by decide) ?_
  refine gz_istore_n (pc := 91) dX8_init_91 (by decide) rfl (loc2 := [some (.inr (.inr (t, 0))), some (.inl 0)]) rfl ?_
  refine gz_iload_n (pc := 92) dX8_init_92 rfl ?_
  refine gz_iconst (pc := 93) dX8_init_93 (v := 4) (by decide) ?_
  refine gz_ic_ge (pc := 94) (tgt := 110) dX8_init_94 (by decide) (fun c => absurd c (by decide)) (fun _ => ?_)
  refine gz_aload_n (pc := 97) dX8_init_97 rfl ?_
  refine gz_getR (ci := 8) (r := (RX8, TX8, 12)) (k := 5) (q := (t, 19)) (pc := 98) dX8_init_98 (gz_okT ht (by omega) (by show gzPos t 0 + 0 < gzPos t 0 + 20; omega)) (by rw [gz_uwr_eq]; rfl) rfl rfl (by decide) rfl fkX8_39.1 fkX8_39.2 ?_
  refine gz_iload_n (pc := 101) dX8_init_101 rfl ?_
  refine gz_iconst (pc := 102) dX8_init_102 (v := 3) (by decide) ?_
  refine gz_iast2 (k := 0) (N := 4) (pc := 103) dX8_init_103 (gz_okT ht (by omega) (by show gzPos t 0 + 19 < gzPos t 0 + 20; omega)) rfl (gz_vpd (by decide)) (by decide) ?_
  rw [gz_uiL (by exact Nat.le_of_ble_eq_true rfl)]
  refine gz_iinc (pc := 104) dX8_init_104 rfl (v := 1) (by decide) (by decide) rfl (loc2 := [some (.inr (.inr (t, 0))), some (.inl 1)]) rfl ?_
  refine gz_goto (pc := 107) (tgt := 92) dX8_init_107 (by decide) ?_
  refine gz_iload_n (pc := 92) dX8_init_92 rfl ?_
  refine gz_iconst (pc := 93) dX8_init_93 (v := 4) (by decide) ?_
  refine gz_ic_ge (pc := 94) (tgt := 110) dX8_init_94 (by decide) (fun c => absurd c (by decide)) (fun _ => ?_)
  refine gz_aload_n (pc := 97) dX8_init_97 rfl ?_
  refine gz_getR (ci := 8) (r := (RX8, TX8, 12)) (k := 5) (q := (t, 19)) (pc := 98) dX8_init_98 (gz_okT ht (by omega) (by show gzPos t 0 + 0 < gzPos t 0 + 20; omega)) (by rw [gz_uwr_eq]; rfl) rfl rfl (by decide) rfl fkX8_39.1 fkX8_39.2 ?_
  refine gz_iload_n (pc := 101) dX8_init_101 rfl ?_
  refine gz_iconst (pc := 102) dX8_init_102 (v := 3) (by decide) ?_
  refine gz_iast2 (k := 1) (N := 4) (pc := 103) dX8_init_103 (gz_okT ht (by omega) (by show gzPos t 0 + 19 < gzPos t 0 + 20; omega)) rfl (gz_vpd (by decide)) (by decide) ?_
  rw [gz_uiL (by exact Nat.le_of_ble_eq_true rfl)]
  refine gz_iinc (pc := 104) dX8_init_104 rfl (v := 2) (by decide) (by decide) rfl (loc2 := [some (.inr (.inr (t, 0))), some (.inl 2)]) rfl ?_
  refine gz_goto (pc := 107) (tgt := 92) dX8_init_107 (by decide) ?_
  refine gz_iload_n (pc := 92) dX8_init_92 rfl ?_
  refine gz_iconst (pc := 93) dX8_init_93 (v := 4) (by decide) ?_
  refine gz_ic_ge (pc := 94) (tgt := 110) dX8_init_94 (by decide) (fun c => absurd c (by decide)) (fun _ => ?_)
  refine gz_aload_n (pc := 97) dX8_init_97 rfl ?_
  refine gz_getR (ci := 8) (r := (RX8, TX8, 12)) (k := 5) (q := (t, 19)) (pc := 98) dX8_init_98 (gz_okT ht (by omega) (by show gzPos t 0 + 0 < gzPos t 0 + 20; omega)) (by rw [gz_uwr_eq]; rfl) rfl rfl (by decide) rfl fkX8_39.1 fkX8_39.2 ?_
  refine gz_iload_n (pc := 101) dX8_init_101 rfl ?_
  refine gz_iconst (pc := 102) dX8_init_102 (v := 3) (by decide) ?_
  refine gz_iast2 (k := 2) (N := 4) (pc := 103) dX8_init_103 (gz_okT ht (by omega) (by show gzPos t 0 + 19 < gzPos t 0 + 20; omega)) rfl (gz_vpd (by decide)) (by decide) ?_
  rw [gz_uiL (by exact Nat.le_of_ble_eq_true rfl)]
  refine gz_iinc (pc := 104) dX8_init_104 rfl (v := 3) (by decide) (by decide) rfl (loc2 := [some (.inr (.inr (t, 0))), some (.inl 3)]) rfl ?_
  refine gz_goto (pc := 107) (tgt := 92) dX8_init_107 (by decide) ?_
  refine gz_iload_n (pc := 92) dX8_init_92 rfl ?_
  refine gz_iconst (pc := 93) dX8_init_93 (v := 4) (by decide) ?_
  refine gz_ic_ge (pc := 94) (tgt := 110) dX8_init_94 (by decide) (fun c => absurd c (by decide)) (fun _ => ?_)
  refine gz_aload_n (pc := 97) dX8_init_97 rfl ?_
  refine gz_getR (ci := 8) (r := (RX8, TX8, 12)) (k := 5) (q := (t, 19)) (pc := 98) dX8_init_98 (gz_okT ht (by omega) (by show gzPos t 0 + 0 < gzPos t 0 + 20; omega)) (by rw [gz_uwr_eq]; rfl) rfl rfl (by decide) rfl fkX8_39.1 fkX8_39.2 ?_
  refine gz_iload_n (pc := 101) dX8_init_101 rfl ?_
  refine gz_iconst (pc := 102) dX8_init_102 (v := 3) (by decide) ?_
  refine gz_iast2 (k := 3) (N := 4) (pc := 103) dX8_init_103 (gz_okT ht (by omega) (by show gzPos t 0 + 19 < gzPos t 0 + 20; omega)) rfl (gz_vpd (by decide)) (by decide) ?_
  rw [gz_uiL (by exact Nat.le_of_ble_eq_true rfl)]
  refine gz_iinc (pc := 104) dX8_init_104 rfl (v := 4) (by decide) (by decide) rfl (loc2 := [some (.inr (.inr (t, 0))), some (.inl 4)]) rfl ?_
  refine gz_goto (pc := 107) (tgt := 92) dX8_init_107 (by decide) ?_
  refine gz_iload_n (pc := 92) dX8_init_92 rfl ?_
  refine gz_iconst (pc := 93) dX8_init_93 (v := 4) (by decide) ?_
  refine gz_ic_ge (pc := 94) (tgt := 110) dX8_init_94 (by decide) (fun _ => ?_) (fun c => absurd (by decide) c)
  have e0 : gzLi (List.set (List.set (List.set (List.set (List.replicate 4 0) 0 3) 1 3) 2 3) 3 3) = gzI0 t 19 := by funext k; rcases k with _ | _ | _ | _ | k <;> rfl
  have e1 : gzLr (List.set (List.set (List.set (List.set (List.set (List.set (List.replicate 6 none) 0 (some (t, 1))) 1 (some (t, 7))) 2 (some (t, 15))) 3 (some (t, 17))) 4 (some (t, 18))) 5 (some (t, 19))) = gzR0 t 0 := by funext k; rcases k with _ | _ | _ | _ | _ | _ | k <;> rfl
  have e2 : gzLi (List.set (List.set (List.set (List.set (List.set (List.set (List.replicate 12 0) 6 0) 7 0) 8 0) 9 0) 10 0) 11 1) = gzI0 t 0 := by funext k; rcases k with _ | _ | _ | _ | _ | _ | _ | _ | _ | _ | _ | _ | k <;> rfl
  rw [e0, e1, e2, gz_uw_same (t := t) (o := 19) ((gz_uw_ne (by omega)).trans (hI 19 (by omega) (by omega)))]
  exact gz_vret (pc := 110) dX8_init_110 rfl ⟨rfl, rfl⟩
theorem k_X5 (hR : ∀ t, 3 ≤ t → t < 15 → R t 0 = gzR0 t 0 ∧ R t 1 = gzR0 t 1 ∧ R t 7 = gzR0 t 7 ∧ R t 15 = gzR0 t 15) (hR2 : R 0 40 = gzR0 0 40) (hI : ∀ t o, 3 ≤ t → t < 15 → o < 20 → I t o = gzI0 t o) : gzC g 0 (d + 2) mX5_init [.inr (.inr (0, 39))] (66, gz_uwr R 0 39 (fun _ => none), gz_uw I 0 39 (fun _ => 0), J) (gzE (.ok none) (307, gz_uwr R 0 39 (gzR0 0 39), gz_uw I 0 39 (gzI0 0 39), J)) := by
  refine gzC_of (by decide +kernel) (Nat.le_of_ble_eq_true rfl) (loc := [some (.inr (.inr (0, 39))), none]) rfl ?_
  rw [← gz_n0 (m := 1), ← gz_z0 (m := 3)]
  have hp : ∀ i, i < 12 → gzPos (3 + i) 0 = 67 + 20 * i := by decide +kernel
  have ok39 : ∀ n, 65 < n → gzOk 0 39 n := fun n h => gz_okS (by omega) (by omega) (by show 65 < n; exact h)
  have ok40 : ∀ n, 66 < n → gzOk 0 40 n := fun n h => gz_okS (by omega) (by omega) (by show 66 < n; exact h)
  refine gz_aload_n (pc := 0) dX5_init_0 rfl ?_
  refine go_X5_3 (pc := 1) dX5_init_1 (by exact Nat.le_of_ble_eq_true rfl) rfl ?_
  refine gz_aload_n (pc := 4) dX5_init_4 rfl ?_
  refine gz_bipush (pc := 5) dX5_init_5 (v := 12) (by decide) ?_
  refine gz_newA (pc := 7) (t := 0) (o := 40) (N := 12) dX5_init_7 rfl (by decide) (by decide +kernel) (by decide) rfl rfl (by decide) (by decide) (by decide) ckX5_9.1 ckX5_9.2 gka_town ?_
  refine gq_X5_11 (pc := 10) dX5_init_10 (ok39 _ (by omega)) rfl rfl ?_
  rw [gz_urL2 (by omega) (by exact Nat.le_of_ble_eq_true rfl)]
  refine gz_aload_n (pc := 13) dX5_init_13 rfl ?_
  refine gz_iconst (pc := 14) dX5_init_14 (v := 0) (by decide) ?_
  refine gp_X5_17 (pc := 15) dX5_init_15 (ok39 _ (by omega)) rfl ?_
  rw [gz_uiL (by exact Nat.le_of_ble_eq_true rfl)]
  refine gz_aload_n (pc := 18) dX5_init_18 rfl ?_
  refine gz_iconst (pc := 19) dX5_init_19 (v := 0) (by decide) ?_
  refine gp_X5_21 (pc := 20) dX5_init_20 (ok39 _ (by omega)) rfl ?_
  rw [gz_uiL (by exact Nat.le_of_ble_eq_true rfl), ← gz_n0 (m := 12)]
  refine gz_iconst (pc := 23) dX5_init_23 (v := 0) (by decide) ?_
  refine gz_istore_n (pc := 24) dX5_init_24 (by decide) rfl (loc2 := [some (.inr (.inr (0, 39))), some (.inl 0)]) rfl ?_
  refine gz_iload_n (pc := 25) dX5_init_25 rfl ?_
  refine gz_bipush (pc := 26) dX5_init_26 (v := 12) (by decide) ?_
  refine gz_ic_ge (pc := 28) (tgt := 50) dX5_init_28 (by decide) (fun c => absurd c (by decide)) (fun _ => ?_)
  refine gz_aload_n (pc := 31) dX5_init_31 rfl ?_
  refine gz_getR (ci := 5) (r := (RX5, TX5, 3)) (k := 0) (q := (0, 40)) (pc := 32) dX5_init_32 (ok39 _ (by omega)) (by rw [gz_uwr_ne (by omega), gz_uwr_eq]; rfl) rfl rfl (by decide) rfl fkX5_11.1 fkX5_11.2 ?_
  refine gz_iload_n (pc := 35) dX5_init_35 rfl ?_
  refine gz_new (pc := 36) (t := 3) (o := 0) (ci := 8) (r := (RX8, TX8, 12)) dX5_init_36 rfl (by decide) (by decide +kernel) (by decide) rfl rfl rfl ckX5_9.1 ikX8.1 MiX8_init.2.2.1.1 ckX5_9.2 ikX8.2 MiX8_init.2.2.1.2 ?_
  refine gz_dupR (pc := 39) dX5_init_39 ?_
  refine gz_I (zy := mX8_init) (zc := 0) (pc := 40) (t := 3) (o := 0) [] rfl dX5_init_40 lkX5_24 MiX8_init rfl (Or.inl rfl) (fun h => h) (by exact Nat.le_of_ble_eq_true rfl) ?_
  refine gz_useV (k_X8 (t := 3) (by omega) ⟨(gz_uwr_ne (by omega)).trans ((gz_uwr_ne (by omega)).trans (hR 3 (by omega) (by omega)).2.1), (gz_uwr_ne (by omega)).trans ((gz_uwr_ne (by omega)).trans (hR 3 (by omega) (by omega)).2.2.1), (gz_uwr_ne (by omega)).trans ((gz_uwr_ne (by omega)).trans (hR 3 (by omega) (by omega)).2.2.2)⟩ (fun o h1 h2 => (gz_uw_ne (by omega)).trans (hI 3 o (by omega) (by omega) h2))) ?_
  rw [gz_uwr_same (t := 3) (o := 0) ((gz_uwr_ne (by omega)).trans ((gz_uwr_ne (by omega)).trans (hR 3 (by omega) (by omega)).1)), gz_uw_same (t := 3) (o := 0) ((gz_uw_ne (by omega)).trans (hI 3 0 (by omega) (by omega) (by omega))), show gzPos 3 0 + 20 = 87 from rfl]
  refine gz_aast (N := 12) (t := 0) (o := 40) (t2 := 3) (o2 := 0) (ci := 8) (r := (RX8, TX8, 12)) (pc := 43) dX5_init_43 (ok40 _ (by omega)) (gz_okT (by omega) (by omega) (by show 67 + 0 < 87; omega)) rfl rfl rfl rfl (gz_vpd (by decide)) ?_
  rw [show (0 : Int32).toNatClampNeg = 0 from by decide, gz_urL (by exact Nat.le_of_ble_eq_true rfl)]
  refine gz_iinc (pc := 44) dX5_init_44 rfl (v := 1) (by decide) (by decide) rfl (loc2 := [some (.inr (.inr (0, 39))), some (.inl 1)]) rfl ?_
  refine gz_goto (pc := 47) (tgt := 25) dX5_init_47 (by decide) ?_
  refine gz_iload_n (pc := 25) dX5_init_25 rfl ?_
  refine gz_bipush (pc := 26) dX5_init_26 (v := 12) (by decide) ?_
  refine gz_ic_ge (pc := 28) (tgt := 50) dX5_init_28 (by decide) (fun c => absurd c (by decide)) (fun _ => ?_)
  refine gz_aload_n (pc := 31) dX5_init_31 rfl ?_
  refine gz_getR (ci := 5) (r := (RX5, TX5, 3)) (k := 0) (q := (0, 40)) (pc := 32) dX5_init_32 (ok39 _ (by omega)) (by rw [gz_uwr_ne (by omega), gz_uwr_eq]; rfl) rfl rfl (by decide) rfl fkX5_11.1 fkX5_11.2 ?_
  refine gz_iload_n (pc := 35) dX5_init_35 rfl ?_
  refine gz_new (pc := 36) (t := 4) (o := 0) (ci := 8) (r := (RX8, TX8, 12)) dX5_init_36 rfl (by decide) (by decide +kernel) (by decide) rfl rfl rfl ckX5_9.1 ikX8.1 MiX8_init.2.2.1.1 ckX5_9.2 ikX8.2 MiX8_init.2.2.1.2 ?_
  refine gz_dupR (pc := 39) dX5_init_39 ?_
  refine gz_I (zy := mX8_init) (zc := 0) (pc := 40) (t := 4) (o := 0) [] rfl dX5_init_40 lkX5_24 MiX8_init rfl (Or.inl rfl) (fun h => h) (by exact Nat.le_of_ble_eq_true rfl) ?_
  refine gz_useV (k_X8 (t := 4) (by omega) ⟨(gz_uwr_ne (by omega)).trans ((gz_uwr_ne (by omega)).trans (hR 4 (by omega) (by omega)).2.1), (gz_uwr_ne (by omega)).trans ((gz_uwr_ne (by omega)).trans (hR 4 (by omega) (by omega)).2.2.1), (gz_uwr_ne (by omega)).trans ((gz_uwr_ne (by omega)).trans (hR 4 (by omega) (by omega)).2.2.2)⟩ (fun o h1 h2 => (gz_uw_ne (by omega)).trans (hI 4 o (by omega) (by omega) h2))) ?_
  rw [gz_uwr_same (t := 4) (o := 0) ((gz_uwr_ne (by omega)).trans ((gz_uwr_ne (by omega)).trans (hR 4 (by omega) (by omega)).1)), gz_uw_same (t := 4) (o := 0) ((gz_uw_ne (by omega)).trans (hI 4 0 (by omega) (by omega) (by omega))), show gzPos 4 0 + 20 = 107 from rfl]
  refine gz_aast (N := 12) (t := 0) (o := 40) (t2 := 4) (o2 := 0) (ci := 8) (r := (RX8, TX8, 12)) (pc := 43) dX5_init_43 (ok40 _ (by omega)) (gz_okT (by omega) (by omega) (by show 87 + 0 < 107; omega)) rfl rfl rfl rfl (gz_vpd (by decide)) ?_
  rw [show (1 : Int32).toNatClampNeg = 1 from by decide, gz_urL (by exact Nat.le_of_ble_eq_true rfl)]
  refine gz_iinc (pc := 44) dX5_init_44 rfl (v := 2) (by decide) (by decide) rfl (loc2 := [some (.inr (.inr (0, 39))), some (.inl 2)]) rfl ?_
  refine gz_goto (pc := 47) (tgt := 25) dX5_init_47 (by decide) ?_
  refine gz_iload_n (pc := 25) dX5_init_25 rfl ?_
  refine gz_bipush (pc := 26) dX5_init_26 (v := 12) (by decide) ?_
  refine gz_ic_ge (pc := 28) (tgt := 50) dX5_init_28 (by decide) (fun c => absurd c (by decide)) (fun _ => ?_)
  refine gz_aload_n (pc := 31) dX5_init_31 rfl ?_
  refine gz_getR (ci := 5) (r := (RX5, TX5, 3)) (k := 0) (q := (0, 40)) (pc := 32) dX5_init_32 (ok39 _ (by omega)) (by rw [gz_uwr_ne (by omega), gz_uwr_eq]; rfl) rfl rfl (by decide) rfl fkX5_11.1 fkX5_11.2 ?_
  refine gz_iload_n (pc := 35) dX5_init_35 rfl ?_
  refine gz_new (pc := 36) (t := 5) (o := 0) (ci := 8) (r := (RX8, TX8, 12)) dX5_init_36 rfl (by decide) (by decide +kernel) (by decide) rfl rfl rfl ckX5_9.1 ikX8.1 MiX8_init.2.2.1.1 ckX5_9.2 ikX8.2 MiX8_init.2.2.1.2 ?_
  refine gz_dupR (pc := 39) dX5_init_39 ?_
  refine gz_I (zy := mX8_init) (zc := 0) (pc := 40) (t := 5) (o := 0) [] rfl dX5_init_40 lkX5_24 MiX8_init rfl (Or.inl rfl) (fun h => h) (by exact Nat.le_of_ble_eq_true rfl) ?_
  refine gz_useV (k_X8 (t := 5) (by omega) ⟨(gz_uwr_ne (by omega)).trans ((gz_uwr_ne (by omega)).trans (hR 5 (by omega) (by omega)).2.1), (gz_uwr_ne (by omega)).trans ((gz_uwr_ne (by omega)).trans (hR 5 (by omega) (by omega)).2.2.1), (gz_uwr_ne (by omega)).trans ((gz_uwr_ne (by omega)).trans (hR 5 (by omega) (by omega)).2.2.2)⟩ (fun o h1 h2 => (gz_uw_ne (by omega)).trans (hI 5 o (by omega) (by omega) h2))) ?_
  rw [gz_uwr_same (t := 5) (o := 0) ((gz_uwr_ne (by omega)).trans ((gz_uwr_ne (by omega)).trans (hR 5 (by omega) (by omega)).1)), gz_uw_same (t := 5) (o := 0) ((gz_uw_ne (by omega)).trans (hI 5 0 (by omega) (by omega) (by omega))), show gzPos 5 0 + 20 = 127 from rfl]
  refine gz_aast (N := 12) (t := 0) (o := 40) (t2 := 5) (o2 := 0) (ci := 8) (r := (RX8, TX8, 12)) (pc := 43) dX5_init_43 (ok40 _ (by omega)) (gz_okT (by omega) (by omega) (by show 107 + 0 < 127; omega)) rfl rfl rfl rfl (gz_vpd (by decide)) ?_
  rw [show (2 : Int32).toNatClampNeg = 2 from by decide, gz_urL (by exact Nat.le_of_ble_eq_true rfl)]
  refine gz_iinc (pc := 44) dX5_init_44 rfl (v := 3) (by decide) (by decide) rfl (loc2 := [some (.inr (.inr (0, 39))), some (.inl 3)]) rfl ?_
  refine gz_goto (pc := 47) (tgt := 25) dX5_init_47 (by decide) ?_
  refine gz_iload_n (pc := 25) dX5_init_25 rfl ?_
  refine gz_bipush (pc := 26) dX5_init_26 (v := 12) (by decide) ?_
  refine gz_ic_ge (pc := 28) (tgt := 50) dX5_init_28 (by decide) (fun c => absurd c (by decide)) (fun _ => ?_)
  refine gz_aload_n (pc := 31) dX5_init_31 rfl ?_
  refine gz_getR (ci := 5) (r := (RX5, TX5, 3)) (k := 0) (q := (0, 40)) (pc := 32) dX5_init_32 (ok39 _ (by omega)) (by rw [gz_uwr_ne (by omega), gz_uwr_eq]; rfl) rfl rfl (by decide) rfl fkX5_11.1 fkX5_11.2 ?_
  refine gz_iload_n (pc := 35) dX5_init_35 rfl ?_
  refine gz_new (pc := 36) (t := 6) (o := 0) (ci := 8) (r := (RX8, TX8, 12)) dX5_init_36 rfl (by decide) (by decide +kernel) (by decide) rfl rfl rfl ckX5_9.1 ikX8.1 MiX8_init.2.2.1.1 ckX5_9.2 ikX8.2 MiX8_init.2.2.1.2 ?_
  refine gz_dupR (pc := 39) dX5_init_39 ?_
  refine gz_I (zy := mX8_init) (zc := 0) (pc := 40) (t := 6) (o := 0) [] rfl dX5_init_40 lkX5_24 MiX8_init rfl (Or.inl rfl) (fun h => h) (by exact Nat.le_of_ble_eq_true rfl) ?_
  refine gz_useV (k_X8 (t := 6) (by omega) ⟨(gz_uwr_ne (by omega)).trans ((gz_uwr_ne (by omega)).trans (hR 6 (by omega) (by omega)).2.1), (gz_uwr_ne (by omega)).trans ((gz_uwr_ne (by omega)).trans (hR 6 (by omega) (by omega)).2.2.1), (gz_uwr_ne (by omega)).trans ((gz_uwr_ne (by omega)).trans (hR 6 (by omega) (by omega)).2.2.2)⟩ (fun o h1 h2 => (gz_uw_ne (by omega)).trans (hI 6 o (by omega) (by omega) h2))) ?_
  rw [gz_uwr_same (t := 6) (o := 0) ((gz_uwr_ne (by omega)).trans ((gz_uwr_ne (by omega)).trans (hR 6 (by omega) (by omega)).1)), gz_uw_same (t := 6) (o := 0) ((gz_uw_ne (by omega)).trans (hI 6 0 (by omega) (by omega) (by omega))), show gzPos 6 0 + 20 = 147 from rfl]
  refine gz_aast (N := 12) (t := 0) (o := 40) (t2 := 6) (o2 := 0) (ci := 8) (r := (RX8, TX8, 12)) (pc := 43) dX5_init_43 (ok40 _ (by omega)) (gz_okT (by omega) (by omega) (by show 127 + 0 < 147; omega)) rfl rfl rfl rfl (gz_vpd (by decide)) ?_
  rw [show (3 : Int32).toNatClampNeg = 3 from by decide, gz_urL (by exact Nat.le_of_ble_eq_true rfl)]
  refine gz_iinc (pc := 44) dX5_init_44 rfl (v := 4) (by decide) (by decide) rfl (loc2 := [some (.inr (.inr (0, 39))), some (.inl 4)]) rfl ?_
  refine gz_goto (pc := 47) (tgt := 25) dX5_init_47 (by decide) ?_
  refine gz_iload_n (pc := 25) dX5_init_25 rfl ?_
  refine gz_bipush (pc := 26) dX5_init_26 (v := 12) (by decide) ?_
  refine gz_ic_ge (pc := 28) (tgt := 50) dX5_init_28 (by decide) (fun c => absurd c (by decide)) (fun _ => ?_)
  refine gz_aload_n (pc := 31) dX5_init_31 rfl ?_
  refine gz_getR (ci := 5) (r := (RX5, TX5, 3)) (k := 0) (q := (0, 40)) (pc := 32) dX5_init_32 (ok39 _ (by omega)) (by rw [gz_uwr_ne (by omega), gz_uwr_eq]; rfl) rfl rfl (by decide) rfl fkX5_11.1 fkX5_11.2 ?_
  refine gz_iload_n (pc := 35) dX5_init_35 rfl ?_
  refine gz_new (pc := 36) (t := 7) (o := 0) (ci := 8) (r := (RX8, TX8, 12)) dX5_init_36 rfl (by decide) (by decide +kernel) (by decide) rfl rfl rfl ckX5_9.1 ikX8.1 MiX8_init.2.2.1.1 ckX5_9.2 ikX8.2 MiX8_init.2.2.1.2 ?_
  refine gz_dupR (pc := 39) dX5_init_39 ?_
  refine gz_I (zy := mX8_init) (zc := 0) (pc := 40) (t := 7) (o := 0) [] rfl dX5_init_40 lkX5_24 MiX8_init rfl (Or.inl rfl) (fun h => h) (by exact Nat.le_of_ble_eq_true rfl) ?_
  refine gz_useV (k_X8 (t := 7) (by omega) ⟨(gz_uwr_ne (by omega)).trans ((gz_uwr_ne (by omega)).trans (hR 7 (by omega) (by omega)).2.1), (gz_uwr_ne (by omega)).trans ((gz_uwr_ne (by omega)).trans (hR 7 (by omega) (by omega)).2.2.1), (gz_uwr_ne (by omega)).trans ((gz_uwr_ne (by omega)).trans (hR 7 (by omega) (by omega)).2.2.2)⟩ (fun o h1 h2 => (gz_uw_ne (by omega)).trans (hI 7 o (by omega) (by omega) h2))) ?_
  rw [gz_uwr_same (t := 7) (o := 0) ((gz_uwr_ne (by omega)).trans ((gz_uwr_ne (by omega)).trans (hR 7 (by omega) (by omega)).1)), gz_uw_same (t := 7) (o := 0) ((gz_uw_ne (by omega)).trans (hI 7 0 (by omega) (by omega) (by omega))), show gzPos 7 0 + 20 = 167 from rfl]
  refine gz_aast (N := 12) (t := 0) (o := 40) (t2 := 7) (o2 := 0) (ci := 8) (r := (RX8, TX8, 12)) (pc := 43) dX5_init_43 (ok40 _ (by omega)) (gz_okT (by omega) (by omega) (by show 147 + 0 < 167; omega)) rfl rfl rfl rfl (gz_vpd (by decide)) ?_
  rw [show (4 : Int32).toNatClampNeg = 4 from by decide, gz_urL (by exact Nat.le_of_ble_eq_true rfl)]
  refine gz_iinc (pc := 44) dX5_init_44 rfl (v := 5) (by decide) (by decide) rfl (loc2 := [some (.inr (.inr (0, 39))), some (.inl 5)]) rfl ?_
  refine gz_goto (pc := 47) (tgt := 25) dX5_init_47 (by decide) ?_
  refine gz_iload_n (pc := 25) dX5_init_25 rfl ?_
  refine gz_bipush (pc := 26) dX5_init_26 (v := 12) (by decide) ?_
  refine gz_ic_ge (pc := 28) (tgt := 50) dX5_init_28 (by decide) (fun c => absurd c (by decide)) (fun _ => ?_)
  refine gz_aload_n (pc := 31) dX5_init_31 rfl ?_
  refine gz_getR (ci := 5) (r := (RX5, TX5, 3)) (k := 0) (q := (0, 40)) (pc := 32) dX5_init_32 (ok39 _ (by omega)) (by rw [gz_uwr_ne (by omega), gz_uwr_eq]; rfl) rfl rfl (by decide) rfl fkX5_11.1 fkX5_11.2 ?_
  refine gz_iload_n (pc := 35) dX5_init_35 rfl ?_
  refine gz_new (pc := 36) (t := 8) (o := 0) (ci := 8) (r := (RX8, TX8, 12)) dX5_init_36 rfl (by decide) (by decide +kernel) (by decide) rfl rfl rfl ckX5_9.1 ikX8.1 MiX8_init.2.2.1.1 ckX5_9.2 ikX8.2 MiX8_init.2.2.1.2 ?_
  refine gz_dupR (pc := 39) dX5_init_39 ?_
  refine gz_I (zy := mX8_init) (zc := 0) (pc := 40) (t := 8) (o := 0) [] rfl dX5_init_40 lkX5_24 MiX8_init rfl (Or.inl rfl) (fun h => h) (by exact Nat.le_of_ble_eq_true rfl) ?_
  refine gz_useV (k_X8 (t := 8) (by omega) ⟨(gz_uwr_ne (by omega)).trans ((gz_uwr_ne (by omega)).trans (hR 8 (by omega) (by omega)).2.1), (gz_uwr_ne (by omega)).trans ((gz_uwr_ne (by omega)).trans (hR 8 (by omega) (by omega)).2.2.1), (gz_uwr_ne (by omega)).trans ((gz_uwr_ne (by omega)).trans (hR 8 (by omega) (by omega)).2.2.2)⟩ (fun o h1 h2 => (gz_uw_ne (by omega)).trans (hI 8 o (by omega) (by omega) h2))) ?_
  rw [gz_uwr_same (t := 8) (o := 0) ((gz_uwr_ne (by omega)).trans ((gz_uwr_ne (by omega)).trans (hR 8 (by omega) (by omega)).1)), gz_uw_same (t := 8) (o := 0) ((gz_uw_ne (by omega)).trans (hI 8 0 (by omega) (by omega) (by omega))), show gzPos 8 0 + 20 = 187 from rfl]
  refine gz_aast (N := 12) (t := 0) (o := 40) (t2 := 8) (o2 := 0) (ci := 8) (r := (RX8, TX8, 12)) (pc := 43) dX5_init_43 (ok40 _ (by omega)) (gz_okT (by omega) (by omega) (by show 167 + 0 < 187; omega)) rfl rfl rfl rfl (gz_vpd (by decide)) ?_
  rw [show (5 : Int32).toNatClampNeg = 5 from by decide, gz_urL (by exact Nat.le_of_ble_eq_true rfl)]
  refine gz_iinc (pc := 44) dX5_init_44 rfl (v := 6) (by decide) (by decide) rfl (loc2 := [some (.inr (.inr (0, 39))), some (.inl 6)]) rfl ?_
  refine gz_goto (pc := 47) (tgt := 25) dX5_init_47 (by decide) ?_
  refine gz_iload_n (pc := 25) dX5_init_25 rfl ?_
  refine gz_bipush (pc := 26) dX5_init_26 (v := 12) (by decide) ?_
  refine gz_ic_ge (pc := 28) (tgt := 50) dX5_init_28 (by decide) (fun c => absurd c (by decide)) (fun _ => ?_)
  refine gz_aload_n (pc := 31) dX5_init_31 rfl ?_
  refine gz_getR (ci := 5) (r := (RX5, TX5, 3)) (k := 0) (q := (0, 40)) (pc := 32) dX5_init_32 (ok39 _ (by omega)) (by rw [gz_uwr_ne (by omega), gz_uwr_eq]; rfl) rfl rfl (by decide) rfl fkX5_11.1 fkX5_11.2 ?_
  refine gz_iload_n (pc := 35) dX5_init_35 rfl ?_
  refine gz_new (pc := 36) (t := 9) (o := 0) (ci := 8) (r := (RX8, TX8, 12)) dX5_init_36 rfl (by decide) (by decide +kernel) (by decide) rfl rfl rfl ckX5_9.1 ikX8.1 MiX8_init.2.2.1.1 ckX5_9.2 ikX8.2 MiX8_init.2.2.1.2 ?_
  refine gz_dupR (pc := 39) dX5_init_39 ?_
  refine gz_I (zy := mX8_init) (zc := 0) (pc := 40) (t := 9) (o := 0) [] rfl dX5_init_40 lkX5_24 MiX8_init rfl (Or.inl rfl) (fun h => h) (by exact Nat.le_of_ble_eq_true rfl) ?_
  refine gz_useV (k_X8 (t := 9) (by omega) ⟨(gz_uwr_ne (by omega)).trans ((gz_uwr_ne (by omega)).trans (hR 9 (by omega) (by omega)).2.1), (gz_uwr_ne (by omega)).trans ((gz_uwr_ne (by omega)).trans (hR 9 (by omega) (by omega)).2.2.1), (gz_uwr_ne (by omega)).trans ((gz_uwr_ne (by omega)).trans (hR 9 (by omega) (by omega)).2.2.2)⟩ (fun o h1 h2 => (gz_uw_ne (by omega)).trans (hI 9 o (by omega) (by omega) h2))) ?_
  rw [gz_uwr_same (t := 9) (o := 0) ((gz_uwr_ne (by omega)).trans ((gz_uwr_ne (by omega)).trans (hR 9 (by omega) (by omega)).1)), gz_uw_same (t := 9) (o := 0) ((gz_uw_ne (by omega)).trans (hI 9 0 (by omega) (by omega) (by omega))), show gzPos 9 0 + 20 = 207 from rfl]
  refine gz_aast (N := 12) (t := 0) (o := 40) (t2 := 9) (o2 := 0) (ci := 8) (r := (RX8, TX8, 12)) (pc := 43) dX5_init_43 (ok40 _ (by omega)) (gz_okT (by omega) (by omega) (by show 187 + 0 < 207; omega)) rfl rfl rfl rfl (gz_vpd (by decide)) ?_
  rw [show (6 : Int32).toNatClampNeg = 6 from by decide, gz_urL (by exact Nat.le_of_ble_eq_true rfl)]
  refine gz_iinc (pc := 44) dX5_init_44 rfl (v := 7) (by decide) (by decide) rfl (loc2 := [some (.inr (.inr (0, 39))), some (.inl 7)]) rfl ?_
  refine gz_goto (pc := 47) (tgt := 25) dX5_init_47 (by decide) ?_
  refine gz_iload_n (pc := 25) dX5_init_25 rfl ?_
  refine gz_bipush (pc := 26) dX5_init_26 (v := 12) (by decide) ?_
  refine gz_ic_ge (pc := 28) (tgt := 50) dX5_init_28 (by decide) (fun c => absurd c (by decide)) (fun _ => ?_)
  refine gz_aload_n (pc := 31) dX5_init_31 rfl ?_
  refine gz_getR (ci := 5) (r := (RX5, TX5, 3)) (k := 0) (q := (0, 40)) (pc := 32) dX5_init_32 (ok39 _ (by omega)) (by rw [gz_uwr_ne (by omega), gz_uwr_eq]; rfl) rfl rfl (by decide) rfl fkX5_11.1 fkX5_11.2 ?_
  refine gz_iload_n (pc := 35) dX5_init_35 rfl ?_
  refine gz_new (pc := 36) (t := 10) (o := 0) (ci := 8) (r := (RX8, TX8, 12)) dX5_init_36 rfl (by decide) (by decide +kernel) (by decide) rfl rfl rfl ckX5_9.1 ikX8.1 MiX8_init.2.2.1.1 ckX5_9.2 ikX8.2 MiX8_init.2.2.1.2 ?_
  refine gz_dupR (pc := 39) dX5_init_39 ?_
  refine gz_I (zy := mX8_init) (zc := 0) (pc := 40) (t := 10) (o := 0) [] rfl dX5_init_40 lkX5_24 MiX8_init rfl (Or.inl rfl) (fun h => h) (by exact Nat.le_of_ble_eq_true rfl) ?_
  refine gz_useV (k_X8 (t := 10) (by omega) ⟨(gz_uwr_ne (by omega)).trans ((gz_uwr_ne (by omega)).trans (hR 10 (by omega) (by omega)).2.1), (gz_uwr_ne (by omega)).trans ((gz_uwr_ne (by omega)).trans (hR 10 (by omega) (by omega)).2.2.1), (gz_uwr_ne (by omega)).trans ((gz_uwr_ne (by omega)).trans (hR 10 (by omega) (by omega)).2.2.2)⟩ (fun o h1 h2 => (gz_uw_ne (by omega)).trans (hI 10 o (by omega) (by omega) h2))) ?_
  rw [gz_uwr_same (t := 10) (o := 0) ((gz_uwr_ne (by omega)).trans ((gz_uwr_ne (by omega)).trans (hR 10 (by omega) (by omega)).1)), gz_uw_same (t := 10) (o := 0) ((gz_uw_ne (by omega)).trans (hI 10 0 (by omega) (by omega) (by omega))), show gzPos 10 0 + 20 = 227 from rfl]
  refine gz_aast (N := 12) (t := 0) (o := 40) (t2 := 10) (o2 := 0) (ci := 8) (r := (RX8, TX8, 12)) (pc := 43) dX5_init_43 (ok40 _ (by omega)) (gz_okT (by omega) (by omega) (by show 207 + 0 < 227; omega)) rfl rfl rfl rfl (gz_vpd (by decide)) ?_
  rw [show (7 : Int32).toNatClampNeg = 7 from by decide, gz_urL (by exact Nat.le_of_ble_eq_true rfl)]
  refine gz_iinc (pc := 44) dX5_init_44 rfl (v := 8) (by decide) (by decide) rfl (loc2 := [some (.inr (.inr (0, 39))), some (.inl 8)]) rfl ?_
  refine gz_goto (pc := 47) (tgt := 25) dX5_init_47 (by decide) ?_
  refine gz_iload_n (pc := 25) dX5_init_25 rfl ?_
  refine gz_bipush (pc := 26) dX5_init_26 (v := 12) (by decide) ?_
  refine gz_ic_ge (pc := 28) (tgt := 50) dX5_init_28 (by decide) (fun c => absurd c (by decide)) (fun _ => ?_)
  refine gz_aload_n (pc := 31) dX5_init_31 rfl ?_
  refine gz_getR (ci := 5) (r := (RX5, TX5, 3)) (k := 0) (q := (0, 40)) (pc := 32) dX5_init_32 (ok39 _ (by omega)) (by rw [gz_uwr_ne (by omega), gz_uwr_eq]; rfl) rfl rfl (by decide) rfl fkX5_11.1 fkX5_11.2 ?_
  refine gz_iload_n (pc := 35) dX5_init_35 rfl ?_
  refine gz_new (pc := 36) (t := 11) (o := 0) (ci := 8) (r := (RX8, TX8, 12)) dX5_init_36 rfl (by decide) (by decide +kernel) (by decide) rfl rfl rfl ckX5_9.1 ikX8.1 MiX8_init.2.2.1.1 ckX5_9.2 ikX8.2 MiX8_init.2.2.1.2 ?_
  refine gz_dupR (pc := 39) dX5_init_39 ?_
  refine gz_I (zy := mX8_init) (zc := 0) (pc := 40) (t := 11) (o := 0) [] rfl dX5_init_40 lkX5_24 MiX8_init rfl (Or.inl rfl) (fun h => h) (by exact Nat.le_of_ble_eq_true rfl) ?_
  refine gz_useV (k_X8 (t := 11) (by omega) ⟨(gz_uwr_ne (by omega)).trans ((gz_uwr_ne (by omega)).trans (hR 11 (by omega) (by omega)).2.1), (gz_uwr_ne (by omega)).trans ((gz_uwr_ne (by omega)).trans (hR 11 (by omega) (by omega)).2.2.1), (gz_uwr_ne (by omega)).trans ((gz_uwr_ne (by omega)).trans (hR 11 (by omega) (by omega)).2.2.2)⟩ (fun o h1 h2 => (gz_uw_ne (by omega)).trans (hI 11 o (by omega) (by omega) h2))) ?_
  rw [gz_uwr_same (t := 11) (o := 0) ((gz_uwr_ne (by omega)).trans ((gz_uwr_ne (by omega)).trans (hR 11 (by omega) (by omega)).1)), gz_uw_same (t := 11) (o := 0) ((gz_uw_ne (by omega)).trans (hI 11 0 (by omega) (by omega) (by omega))), show gzPos 11 0 + 20 = 247 from rfl]
  refine gz_aast (N := 12) (t := 0) (o := 40) (t2 := 11) (o2 := 0) (ci := 8) (r := (RX8, TX8, 12)) (pc := 43) dX5_init_43 (ok40 _ (by omega)) (gz_okT (by omega) (by omega) (by show 227 + 0 < 247; omega)) rfl rfl rfl rfl (gz_vpd (by decide)) ?_
  rw [show (8 : Int32).toNatClampNeg = 8 from by decide, gz_urL (by exact Nat.le_of_ble_eq_true rfl)]
  refine gz_iinc (pc := 44) dX5_init_44 rfl (v := 9) (by decide) (by decide) rfl (loc2 := [some (.inr (.inr (0, 39))), some (.inl 9)]) rfl ?_
  refine gz_goto (pc := 47) (tgt := 25) dX5_init_47 (by decide) ?_
  refine gz_iload_n (pc := 25) dX5_init_25 rfl ?_
  refine gz_bipush (pc := 26) dX5_init_26 (v := 12) (by decide) ?_
  refine gz_ic_ge (pc := 28) (tgt := 50) dX5_init_28 (by decide) (fun c => absurd c (by decide)) (fun _ => ?_)
  refine gz_aload_n (pc := 31) dX5_init_31 rfl ?_
  refine gz_getR (ci := 5) (r := (RX5, TX5, 3)) (k := 0) (q := (0, 40)) (pc := 32) dX5_init_32 (ok39 _ (by omega)) (by rw [gz_uwr_ne (by omega), gz_uwr_eq]; rfl) rfl rfl (by decide) rfl fkX5_11.1 fkX5_11.2 ?_
  refine gz_iload_n (pc := 35) dX5_init_35 rfl ?_
  refine gz_new (pc := 36) (t := 12) (o := 0) (ci := 8) (r := (RX8, TX8, 12)) dX5_init_36 rfl (by decide) (by decide +kernel) (by decide) rfl rfl rfl ckX5_9.1 ikX8.1 MiX8_init.2.2.1.1 ckX5_9.2 ikX8.2 MiX8_init.2.2.1.2 ?_
  refine gz_dupR (pc := 39) dX5_init_39 ?_
  refine gz_I (zy := mX8_init) (zc := 0) (pc := 40) (t := 12) (o := 0) [] rfl dX5_init_40 lkX5_24 MiX8_init rfl (Or.inl rfl) (fun h => h) (by exact Nat.le_of_ble_eq_true rfl) ?_
  refine gz_useV (k_X8 (t := 12) (by omega) ⟨(gz_uwr_ne (by omega)).trans ((gz_uwr_ne (by omega)).trans (hR 12 (by omega) (by omega)).2.1), (gz_uwr_ne (by omega)).trans ((gz_uwr_ne (by omega)).trans (hR 12 (by omega) (by omega)).2.2.1), (gz_uwr_ne (by omega)).trans ((gz_uwr_ne (by omega)).trans (hR 12 (by omega) (by omega)).2.2.2)⟩ (fun o h1 h2 => (gz_uw_ne (by omega)).trans (hI 12 o (by omega) (by omega) h2))) ?_
  rw [gz_uwr_same (t := 12) (o := 0) ((gz_uwr_ne (by omega)).trans ((gz_uwr_ne (by omega)).trans (hR 12 (by omega) (by omega)).1)), gz_uw_same (t := 12) (o := 0) ((gz_uw_ne (by omega)).trans (hI 12 0 (by omega) (by omega) (by omega))), show gzPos 12 0 + 20 = 267 from rfl]
  refine gz_aast (N := 12) (t := 0) (o := 40) (t2 := 12) (o2 := 0) (ci := 8) (r := (RX8, TX8, 12)) (pc := 43) dX5_init_43 (ok40 _ (by omega)) (gz_okT (by omega) (by omega) (by show 247 + 0 < 267; omega)) rfl rfl rfl rfl (gz_vpd (by decide)) ?_
  rw [show (9 : Int32).toNatClampNeg = 9 from by decide, gz_urL (by exact Nat.le_of_ble_eq_true rfl)]
  refine gz_iinc (pc := 44) dX5_init_44 rfl (v := 10) (by decide) (by decide) rfl (loc2 := [some (.inr (.inr (0, 39))), some (.inl 10)]) rfl ?_
  refine gz_goto (pc := 47) (tgt := 25) dX5_init_47 (by decide) ?_
  refine gz_iload_n (pc := 25) dX5_init_25 rfl ?_
  refine gz_bipush (pc := 26) dX5_init_26 (v := 12) (by decide) ?_
  refine gz_ic_ge (pc := 28) (tgt := 50) dX5_init_28 (by decide) (fun c => absurd c (by decide)) (fun _ => ?_)
  refine gz_aload_n (pc := 31) dX5_init_31 rfl ?_
  refine gz_getR (ci := 5) (r := (RX5, TX5, 3)) (k := 0) (q := (0, 40)) (pc := 32) dX5_init_32 (ok39 _ (by omega)) (by rw [gz_uwr_ne (by omega), gz_uwr_eq]; rfl) rfl rfl (by decide) rfl fkX5_11.1 fkX5_11.2 ?_
  refine gz_iload_n (pc := 35) dX5_init_35 rfl ?_
  refine gz_new (pc := 36) (t := 13) (o := 0) (ci := 8) (r := (RX8, TX8, 12)) dX5_init_36 rfl (by decide) (by decide +kernel) (by decide) rfl rfl rfl ckX5_9.1 ikX8.1 MiX8_init.2.2.1.1 ckX5_9.2 ikX8.2 MiX8_init.2.2.1.2 ?_
  refine gz_dupR (pc := 39) dX5_init_39 ?_
  refine gz_I (zy := mX8_init) (zc := 0) (pc := 40) (t := 13) (o := 0) [] rfl dX5_init_40 lkX5_24 MiX8_init rfl (Or.inl rfl) (fun h => h) (by exact Nat.le_of_ble_eq_true rfl) ?_
  refine gz_useV (k_X8 (t := 13) (by omega) ⟨(gz_uwr_ne (by omega)).trans ((gz_uwr_ne (by omega)).trans (hR 13 (by omega) (by omega)).2.1), (gz_uwr_ne (by omega)).trans ((gz_uwr_ne (by omega)).trans (hR 13 (by omega) (by omega)).2.2.1), (gz_uwr_ne (by omega)).trans ((gz_uwr_ne (by omega)).trans (hR 13 (by omega) (by omega)).2.2.2)⟩ (fun o h1 h2 => (gz_uw_ne (by omega)).trans (hI 13 o (by omega) (by omega) h2))) ?_
  rw [gz_uwr_same (t := 13) (o := 0) ((gz_uwr_ne (by omega)).trans ((gz_uwr_ne (by omega)).trans (hR 13 (by omega) (by omega)).1)), gz_uw_same (t := 13) (o := 0) ((gz_uw_ne (by omega)).trans (hI 13 0 (by omega) (by omega) (by omega))), show gzPos 13 0 + 20 = 287 from rfl]
  refine gz_aast (N := 12) (t := 0) (o := 40) (t2 := 13) (o2 := 0) (ci := 8) (r := (RX8, TX8, 12)) (pc := 43) dX5_init_43 (ok40 _ (by omega)) (gz_okT (by omega) (by omega) (by show 267 + 0 < 287; omega)) rfl rfl rfl rfl (gz_vpd (by decide)) ?_
  rw [show (10 : Int32).toNatClampNeg = 10 from by decide, gz_urL (by exact Nat.le_of_ble_eq_true rfl)]
  refine gz_iinc (pc := 44) dX5_init_44 rfl (v := 11) (by decide) (by decide) rfl (loc2 := [some (.inr (.inr (0, 39))), some (.inl 11)]) rfl ?_
  refine gz_goto (pc := 47) (tgt := 25) dX5_init_47 (by decide) ?_
  refine gz_iload_n (pc := 25) dX5_init_25 rfl ?_
  refine gz_bipush (pc := 26) dX5_init_26 (v := 12) (by decide) ?_
  refine gz_ic_ge (pc := 28) (tgt := 50) dX5_init_28 (by decide) (fun c => absurd c (by decide)) (fun _ => ?_)
  refine gz_aload_n (pc := 31) dX5_init_31 rfl ?_
  refine gz_getR (ci := 5) (r := (RX5, TX5, 3)) (k := 0) (q := (0, 40)) (pc := 32) dX5_init_32 (ok39 _ (by omega)) (by rw [gz_uwr_ne (by omega), gz_uwr_eq]; rfl) rfl rfl (by decide) rfl fkX5_11.1 fkX5_11.2 ?_
  refine gz_iload_n (pc := 35) dX5_init_35 rfl ?_
  refine gz_new (pc := 36) (t := 14) (o := 0) (ci := 8) (r := (RX8, TX8, 12)) dX5_init_36 rfl (by decide) (by decide +kernel) (by decide) rfl rfl rfl ckX5_9.1 ikX8.1 MiX8_init.2.2.1.1 ckX5_9.2 ikX8.2 MiX8_init.2.2.1.2 ?_
  refine gz_dupR (pc := 39) dX5_init_39 ?_
  refine gz_I (zy := mX8_init) (zc := 0) (pc := 40) (t := 14) (o := 0) [] rfl dX5_init_40 lkX5_24 MiX8_init rfl (Or.inl rfl) (fun h => h) (by exact Nat.le_of_ble_eq_true rfl) ?_
  refine gz_useV (k_X8 (t := 14) (by omega) ⟨(gz_uwr_ne (by omega)).trans ((gz_uwr_ne (by omega)).trans (hR 14 (by omega) (by omega)).2.1), (gz_uwr_ne (by omega)).trans ((gz_uwr_ne (by omega)).trans (hR 14 (by omega) (by omega)).2.2.1), (gz_uwr_ne (by omega)).trans ((gz_uwr_ne (by omega)).trans (hR 14 (by omega) (by omega)).2.2.2)⟩ (fun o h1 h2 => (gz_uw_ne (by omega)).trans (hI 14 o (by omega) (by omega) h2))) ?_
  rw [gz_uwr_same (t := 14) (o := 0) ((gz_uwr_ne (by omega)).trans ((gz_uwr_ne (by omega)).trans (hR 14 (by omega) (by omega)).1)), gz_uw_same (t := 14) (o := 0) ((gz_uw_ne (by omega)).trans (hI 14 0 (by omega) (by omega) (by omega))), show gzPos 14 0 + 20 = 307 from rfl]
  refine gz_aast (N := 12) (t := 0) (o := 40) (t2 := 14) (o2 := 0) (ci := 8) (r := (RX8, TX8, 12)) (pc := 43) dX5_init_43 (ok40 _ (by omega)) (gz_okT (by omega) (by omega) (by show 287 + 0 < 307; omega)) rfl rfl rfl rfl (gz_vpd (by decide)) ?_
  rw [show (11 : Int32).toNatClampNeg = 11 from by decide, gz_urL (by exact Nat.le_of_ble_eq_true rfl)]
  refine gz_iinc (pc := 44) dX5_init_44 rfl (v := 12) (by decide) (by decide) rfl (loc2 := [some (.inr (.inr (0, 39))), some (.inl 12)]) rfl ?_
  refine gz_goto (pc := 47) (tgt := 25) dX5_init_47 (by decide) ?_
  refine gz_iload_n (pc := 25) dX5_init_25 rfl ?_
  refine gz_bipush (pc := 26) dX5_init_26 (v := 12) (by decide) ?_
  refine gz_ic_ge (pc := 28) (tgt := 50) dX5_init_28 (by decide) (fun _ => ?_) (fun c => absurd (by decide) c)
  have e0 : gzLr (List.set (List.set (List.set (List.set (List.set (List.set (List.set (List.set (List.set (List.set (List.set (List.set (List.replicate 12 none) 0 (some (3, 0))) 1 (some (4, 0))) 2 (some (5, 0))) 3 (some (6, 0))) 4 (some (7, 0))) 5 (some (8, 0))) 6 (some (9, 0))) 7 (some (10, 0))) 8 (some (11, 0))) 9 (some (12, 0))) 10 (some (13, 0))) 11 (some (14, 0))) = gzR0 0 40 := by funext k; rcases k with _ | _ | _ | _ | _ | _ | _ | _ | _ | _ | _ | _ | k <;> rfl
  have e1 : gzLr (List.set (List.replicate 1 none) 0 (some (0, 40))) = gzR0 0 39 := by funext k; rcases k with _ | k <;> rfl
  have e2 : gzLi (List.set (List.set (List.replicate 3 0) 1 0) 2 0) = gzI0 0 39 := by funext k; rcases k with _ | _ | _ | k <;> rfl
  rw [e0, e1, e2, gz_uwr_same (t := 0) (o := 40) ((gz_uwr_ne (by omega)).trans hR2)]
  exact gz_vret (pc := 50) dX5_init_50 rfl ⟨rfl, rfl⟩
theorem k_X11 : gzC g 0 (d + 3) mX11_init [.inr (.inr (0, 30))] (1, gz_uwr gzR0 0 30 (fun _ => none), gz_uw gzI0 0 30 (fun _ => 0), J) (gzE (.ok none) (341, gzR0, gzI0, J)) := by
  refine gzC_of (by decide +kernel) (Nat.le_of_ble_eq_true rfl) (loc := [some (.inr (.inr (0, 30)))]) rfl ?_
  rw [← gz_n0 (m := 12), ← gz_z0 (m := 13)]
  have ok30 : ∀ n, 0 < n → gzOk 0 30 n := fun n h => gz_okS (by omega) (by omega) (by show 0 < n; exact h)
  have hR : ∀ (L : List (Option (Nat × Nat))) (t o : Nat), ¬ (t = 0 ∧ o = 30) → (gz_uwr gzR0 0 30 (gzLr L)) t o = gzR0 t o := fun L t o h => gz_uwr_ne h
  have hI : ∀ (L : List Int32) (t o : Nat), ¬ (t = 0 ∧ o = 30) → (gz_uw gzI0 0 30 (gzLi L)) t o = gzI0 t o := fun L t o h => gz_uw_ne h
  have hz : ∀ (L : List Int32) (t o : Nat), ¬ (t = 0 ∧ o = 30) → (o ≠ 0 ∧ o ≠ 19 ∧ o ≠ 20 ∧ o ≠ 33 ∧ o ≠ 47 ∧ o ≠ 48) → (gz_uw gzI0 0 30 (gzLi L)) t o = fun _ => 0 := fun L t o h h2 => (gz_uw_ne h).trans (gz_i0z h2)
  refine gz_aload_n (pc := 0) dX11_init_0 rfl ?_
  refine go_X11_3 (pc := 1) dX11_init_1 (by exact Nat.le_of_ble_eq_true rfl) rfl ?_
  refine gz_aload_n (pc := 4) dX11_init_4 rfl ?_
  refine gz_new (pc := 5) (t := 0) (o := 31) (ci := 6) (r := (RX6, TX6, 2)) dX11_init_5 rfl (by decide) (by decide +kernel) (by decide) rfl rfl rfl ckX11_9.1 ikX6.1 MiX6_init.2.2.1.1 ckX11_9.2 ikX6.2 MiX6_init.2.2.1.2 ?_
  refine gz_dupR (pc := 8) dX11_init_8 ?_
  refine gz_IN (zy := mX6_init) (zc := 0) (pc := 9) (t := 0) (o := 31) [] rfl dX11_init_9 lnX11_11 MiX6_init rfl (Or.inl rfl) (fun h => h) (by exact Nat.le_of_ble_eq_true rfl) ?_
  refine gz_useV (d := d + 2) (k_X6 (d := d + 2) (fun o ho => hz _ 0 o (by simp at ho; omega) (by simp at ho; omega))) ?_
  rw [gz_uwr_same (t := 0) (o := 31) (hR _ 0 31 (by omega)), gz_uw_same (t := 0) (o := 31) (hI _ 0 31 (by omega))]
  refine gq_X11_12 (pc := 12) dX11_init_12 (ok30 _ (by omega)) rfl rfl ?_
  rw [gz_urL (by exact Nat.le_of_ble_eq_true rfl)]
  refine gz_aload_n (pc := 15) dX11_init_15 rfl ?_
  refine gz_new (pc := 16) (t := 0) (o := 33) (ci := 7) (r := (RX7, TX7, 8)) dX11_init_16 rfl (by decide) (by decide +kernel) (by decide) rfl rfl rfl ckX11_16.1 ikX7.1 MiX7_init.2.2.1.1 ckX11_16.2 ikX7.2 MiX7_init.2.2.1.2 ?_
  refine gz_dupR (pc := 19) dX11_init_19 ?_
  refine gz_IN (zy := mX7_init) (zc := 0) (pc := 20) (t := 0) (o := 33) [] rfl dX11_init_20 lnX11_18 MiX7_init rfl (Or.inl rfl) (fun h => h) (by exact Nat.le_of_ble_eq_true rfl) ?_
  refine gz_useV (d := d + 2) (k_X7 (d := d + 2) (fun o ho => hz _ 0 o (by simp at ho; omega) (by simp at ho; omega))) ?_
  rw [gz_uwr_same (t := 0) (o := 33) (hR _ 0 33 (by omega)), gz_uw_same (t := 0) (o := 33) (hI _ 0 33 (by omega))]
  refine gq_X11_19 (pc := 23) dX11_init_23 (ok30 _ (by omega)) rfl rfl ?_
  rw [gz_urL (by exact Nat.le_of_ble_eq_true rfl)]
  refine gz_aload_n (pc := 26) dX11_init_26 rfl ?_
  refine gz_new (pc := 27) (t := 0) (o := 37) (ci := 9) (r := (RX9, TX9, 1)) dX11_init_27 rfl (by decide) (by decide +kernel) (by decide) rfl rfl rfl ckX11_23.1 ikX9.1 MiX9_init.2.2.1.1 ckX11_23.2 ikX9.2 MiX9_init.2.2.1.2 ?_
  refine gz_dupR (pc := 30) dX11_init_30 ?_
  refine gz_aload_n (pc := 31) dX11_init_31 rfl ?_
  refine gz_getR (ci := 11) (r := (RX11, TX11, 13)) (k := 1) (q := (0, 33)) (pc := 32) dX11_init_32 (ok30 _ (by omega)) (by rw [gz_uwr_ne (by omega), gz_uwr_eq]; rfl) rfl rfl (by decide) rfl fkX11_19.1 fkX11_19.2 ?_
  refine gz_I (zy := mX9_init) (zc := 0) (pc := 35) (t := 0) (o := 37) [.inr (.inr (0, 33))] rfl dX11_init_35 lkX11_25 MiX9_init rfl (Or.inl rfl) (fun h => h) (by exact Nat.le_of_ble_eq_true rfl) ?_
  refine gz_useV (d := d + 2) (k_X9 (d := d + 2)) ?_
  rw [gz_uwr_same (t := 0) (o := 37) (hR _ 0 37 (by omega)), gz_uw_same (t := 0) (o := 37) (hI _ 0 37 (by omega))]
  refine gq_X11_28 (pc := 38) dX11_init_38 (ok30 _ (by omega)) rfl rfl ?_
  rw [gz_urL (by exact Nat.le_of_ble_eq_true rfl)]
  refine gz_aload_n (pc := 41) dX11_init_41 rfl ?_
  refine gz_new (pc := 42) (t := 0) (o := 38) (ci := 3) (r := (RX3, TX3, 1)) dX11_init_42 rfl (by decide) (by decide +kernel) (by decide) rfl rfl rfl ckX11_32.1 ikX3.1 MiX3_init.2.2.1.1 ckX11_32.2 ikX3.2 MiX3_init.2.2.1.2 ?_
  refine gz_dupR (pc := 45) dX11_init_45 ?_
  refine gz_aload_n (pc := 46) dX11_init_46 rfl ?_
  refine gz_getR (ci := 11) (r := (RX11, TX11, 13)) (k := 1) (q := (0, 33)) (pc := 47) dX11_init_47 (ok30 _ (by omega)) (by rw [gz_uwr_ne (by omega), gz_uwr_eq]; rfl) rfl rfl (by decide) rfl fkX11_19.1 fkX11_19.2 ?_
  refine gz_I (zy := mX3_init) (zc := 0) (pc := 50) (t := 0) (o := 38) [.inr (.inr (0, 33))] rfl dX11_init_50 lkX11_34 MiX3_init rfl (Or.inl rfl) (fun h => h) (by exact Nat.le_of_ble_eq_true rfl) ?_
  refine gz_useV (d := d + 2) (k_X3 (d := d + 2)) ?_
  rw [gz_uwr_same (t := 0) (o := 38) (hR _ 0 38 (by omega)), gz_uw_same (t := 0) (o := 38) (hI _ 0 38 (by omega))]
  refine gq_X11_35 (pc := 53) dX11_init_53 (ok30 _ (by omega)) rfl rfl ?_
  rw [gz_urL (by exact Nat.le_of_ble_eq_true rfl)]
  refine gz_aload_n (pc := 56) dX11_init_56 rfl ?_
  refine gz_new (pc := 57) (t := 0) (o := 0) (ci := 8) (r := (RX8, TX8, 12)) dX11_init_57 rfl (by decide) (by decide +kernel) (by decide) rfl rfl rfl ckX11_39.1 ikX8.1 MiX8_init.2.2.1.1 ckX11_39.2 ikX8.2 MiX8_init.2.2.1.2 ?_
  refine gz_dupR (pc := 60) dX11_init_60 ?_
  refine gz_I (zy := mX8_init) (zc := 0) (pc := 61) (t := 0) (o := 0) [] rfl dX11_init_61 lkX11_41 MiX8_init rfl (Or.inl rfl) (fun h => h) (by exact Nat.le_of_ble_eq_true rfl) ?_
  refine gz_useV (d := d + 2) (k_X8 (d := d + 1) (t := 0) (by omega) ⟨hR _ 0 1 (by omega), hR _ 0 7 (by omega), hR _ 0 15 (by omega)⟩ (fun o h1 h2 => hI _ 0 o (by omega))) ?_
  rw [gz_uwr_same (t := 0) (o := 0) (hR _ 0 0 (by omega)), gz_uw_same (t := 0) (o := 0) (hI _ 0 0 (by omega))]
  rw [show gzPos 0 0 + 20 = 29 from rfl]
  refine gq_X11_42 (pc := 64) dX11_init_64 (ok30 _ (by omega)) rfl rfl ?_
  rw [gz_urL (by exact Nat.le_of_ble_eq_true rfl)]
  refine gz_aload_n (pc := 67) dX11_init_67 rfl ?_
  refine gz_new (pc := 68) (t := 1) (o := 0) (ci := 8) (r := (RX8, TX8, 12)) dX11_init_68 rfl (by decide) (by decide +kernel) (by decide) rfl rfl rfl ckX11_39.1 ikX8.1 MiX8_init.2.2.1.1 ckX11_39.2 ikX8.2 MiX8_init.2.2.1.2 ?_
  refine gz_dupR (pc := 71) dX11_init_71 ?_
  refine gz_I (zy := mX8_init) (zc := 0) (pc := 72) (t := 1) (o := 0) [] rfl dX11_init_72 lkX11_41 MiX8_init rfl (Or.inl rfl) (fun h => h) (by exact Nat.le_of_ble_eq_true rfl) ?_
  refine gz_useV (d := d + 2) (k_X8 (d := d + 1) (t := 1) (by omega) ⟨hR _ 1 1 (by omega), hR _ 1 7 (by omega), hR _ 1 15 (by omega)⟩ (fun o h1 h2 => hI _ 1 o (by omega))) ?_
  rw [gz_uwr_same (t := 1) (o := 0) (hR _ 1 0 (by omega)), gz_uw_same (t := 1) (o := 0) (hI _ 1 0 (by omega))]
  rw [show gzPos 1 0 + 20 = 49 from rfl]
  refine gq_X11_46 (pc := 75) dX11_init_75 (ok30 _ (by omega)) rfl rfl ?_
  rw [gz_urL (by exact Nat.le_of_ble_eq_true rfl)]
  refine gz_aload_n (pc := 78) dX11_init_78 rfl ?_
  refine gz_new (pc := 79) (t := 0) (o := 20) (ci := 2) (r := (RX2, TX2, 9)) dX11_init_79 rfl (by decide) (by decide +kernel) (by decide) rfl rfl rfl ckX11_49.1 ikX2.1 MiX2_init.2.2.1.1 ckX11_49.2 ikX2.2 MiX2_init.2.2.1.2 ?_
  refine gz_dupR (pc := 82) dX11_init_82 ?_
  refine gz_IN (zy := mX2_init) (zc := 0) (pc := 83) (t := 0) (o := 20) [] rfl dX11_init_83 lnX11_51 MiX2_init rfl (Or.inl rfl) (fun h => h) (by exact Nat.le_of_ble_eq_true rfl) ?_
  refine gz_useV (d := d + 2) (k_X2 (d := d + 2) (t := 0) (by omega) (fun o ho => hz _ 0 o (by simp at ho; omega) (by simp at ho; omega))) ?_
  rw [gz_uwr_same (t := 0) (o := 20) (hR _ 0 20 (by omega)), gz_uw_same (t := 0) (o := 20) (hI _ 0 20 (by omega))]
  rw [show gzPos 0 20 + 8 = 57 from rfl]
  refine gq_X11_52 (pc := 86) dX11_init_86 (ok30 _ (by omega)) rfl rfl ?_
  rw [gz_urL (by exact Nat.le_of_ble_eq_true rfl)]
  refine gz_aload_n (pc := 89) dX11_init_89 rfl ?_
  refine gz_new (pc := 90) (t := 1) (o := 20) (ci := 2) (r := (RX2, TX2, 9)) dX11_init_90 rfl (by decide) (by decide +kernel) (by decide) rfl rfl rfl ckX11_49.1 ikX2.1 MiX2_init.2.2.1.1 ckX11_49.2 ikX2.2 MiX2_init.2.2.1.2 ?_
  refine gz_dupR (pc := 93) dX11_init_93 ?_
  refine gz_IN (zy := mX2_init) (zc := 0) (pc := 94) (t := 1) (o := 20) [] rfl dX11_init_94 lnX11_51 MiX2_init rfl (Or.inl rfl) (fun h => h) (by exact Nat.le_of_ble_eq_true rfl) ?_
  refine gz_useV (d := d + 2) (k_X2 (d := d + 2) (t := 1) (by omega) (fun o ho => hz _ 1 o (by simp at ho; omega) (by simp at ho; omega))) ?_
  rw [gz_uwr_same (t := 1) (o := 20) (hR _ 1 20 (by omega)), gz_uw_same (t := 1) (o := 20) (hI _ 1 20 (by omega))]
  rw [show gzPos 1 20 + 8 = 65 from rfl]
  refine gq_X11_56 (pc := 97) dX11_init_97 (ok30 _ (by omega)) rfl rfl ?_
  rw [gz_urL (by exact Nat.le_of_ble_eq_true rfl)]
  refine gz_aload_n (pc := 100) dX11_init_100 rfl ?_
  refine gz_new (pc := 101) (t := 0) (o := 39) (ci := 5) (r := (RX5, TX5, 3)) dX11_init_101 rfl (by decide) (by decide +kernel) (by decide) rfl rfl rfl ckX11_59.1 ikX5.1 MiX5_init.2.2.1.1 ckX11_59.2 ikX5.2 MiX5_init.2.2.1.2 ?_
  refine gz_dupR (pc := 104) dX11_init_104 ?_
  refine gz_I (zy := mX5_init) (zc := 0) (pc := 105) (t := 0) (o := 39) [] rfl dX11_init_105 lkX11_61 MiX5_init rfl (Or.inl rfl) (fun h => h) (by exact Nat.le_of_ble_eq_true rfl) ?_
  refine gz_useV (d := d + 2) (k_X5 (d := d) (fun t h1 h2 => ⟨hR _ t 0 (by omega), hR _ t 1 (by omega), hR _ t 7 (by omega), hR _ t 15 (by omega)⟩) (hR _ 0 40 (by omega)) (fun t o h1 h2 h3 => hI _ t o (by omega))) ?_
  rw [gz_uwr_same (t := 0) (o := 39) (hR _ 0 39 (by omega)), gz_uw_same (t := 0) (o := 39) (hI _ 0 39 (by omega))]
  refine gq_X11_62 (pc := 108) dX11_init_108 (ok30 _ (by omega)) rfl rfl ?_
  rw [gz_urL (by exact Nat.le_of_ble_eq_true rfl)]
  refine gz_aload_n (pc := 111) dX11_init_111 rfl ?_
  refine gz_new (pc := 112) (t := 0) (o := 41) (ci := 10) (r := (RX10, TX10, 7)) dX11_init_112 rfl (by decide) (by decide +kernel) (by decide) rfl rfl rfl ckX11_66.1 ikX10.1 MiX10_init.2.2.1.1 ckX11_66.2 ikX10.2 MiX10_init.2.2.1.2 ?_
  refine gz_dupR (pc := 115) dX11_init_115 ?_
  refine gz_IN (zy := mX10_init) (zc := 0) (pc := 116) (t := 0) (o := 41) [] rfl dX11_init_116 lnX11_68 MiX10_init rfl (Or.inl rfl) (fun h => h) (by exact Nat.le_of_ble_eq_true rfl) ?_
  refine gz_useV (d := d + 2) (k_X10 (d := d + 2) (fun o ho => hz _ 0 o (by simp at ho; omega) (by simp at ho; omega))) ?_
  rw [gz_uwr_same (t := 0) (o := 41) (hR _ 0 41 (by omega)), gz_uw_same (t := 0) (o := 41) (hI _ 0 41 (by omega))]
  refine gq_X11_69 (pc := 119) dX11_init_119 (ok30 _ (by omega)) rfl rfl ?_
  rw [gz_urL (by exact Nat.le_of_ble_eq_true rfl)]
  refine gz_aload_n (pc := 122) dX11_init_122 rfl ?_
  refine gz_new (pc := 123) (t := 2) (o := 0) (ci := 8) (r := (RX8, TX8, 12)) dX11_init_123 rfl (by decide) (by decide +kernel) (by decide) rfl rfl rfl ckX11_39.1 ikX8.1 MiX8_init.2.2.1.1 ckX11_39.2 ikX8.2 MiX8_init.2.2.1.2 ?_
  refine gz_dupR (pc := 126) dX11_init_126 ?_
  refine gz_I (zy := mX8_init) (zc := 0) (pc := 127) (t := 2) (o := 0) [] rfl dX11_init_127 lkX11_41 MiX8_init rfl (Or.inl rfl) (fun h => h) (by exact Nat.le_of_ble_eq_true rfl) ?_
  refine gz_useV (d := d + 2) (k_X8 (d := d + 1) (t := 2) (by omega) ⟨hR _ 2 1 (by omega), hR _ 2 7 (by omega), hR _ 2 15 (by omega)⟩ (fun o h1 h2 => hI _ 2 o (by omega))) ?_
  rw [gz_uwr_same (t := 2) (o := 0) (hR _ 2 0 (by omega)), gz_uw_same (t := 2) (o := 0) (hI _ 2 0 (by omega))]
  rw [show gzPos 2 0 + 20 = 333 from rfl]
  refine gq_X11_73 (pc := 130) dX11_init_130 (ok30 _ (by omega)) rfl rfl ?_
  rw [gz_urL (by exact Nat.le_of_ble_eq_true rfl)]
  refine gz_aload_n (pc := 133) dX11_init_133 rfl ?_
  refine gz_new (pc := 134) (t := 2) (o := 20) (ci := 2) (r := (RX2, TX2, 9)) dX11_init_134 rfl (by decide) (by decide +kernel) (by decide) rfl rfl rfl ckX11_49.1 ikX2.1 MiX2_init.2.2.1.1 ckX11_49.2 ikX2.2 MiX2_init.2.2.1.2 ?_
  refine gz_dupR (pc := 137) dX11_init_137 ?_
  refine gz_IN (zy := mX2_init) (zc := 0) (pc := 138) (t := 2) (o := 20) [] rfl dX11_init_138 lnX11_51 MiX2_init rfl (Or.inl rfl) (fun h => h) (by exact Nat.le_of_ble_eq_true rfl) ?_
  refine gz_useV (d := d + 2) (k_X2 (d := d + 2) (t := 2) (by omega) (fun o ho => hz _ 2 o (by simp at ho; omega) (by simp at ho; omega))) ?_
  rw [gz_uwr_same (t := 2) (o := 20) (hR _ 2 20 (by omega)), gz_uw_same (t := 2) (o := 20) (hI _ 2 20 (by omega))]
  rw [show gzPos 2 20 + 8 = 341 from rfl]
  refine gq_X11_76 (pc := 141) dX11_init_141 (ok30 _ (by omega)) rfl rfl ?_
  rw [gz_urL (by exact Nat.le_of_ble_eq_true rfl)]
  refine gz_aload_n (pc := 144) dX11_init_144 rfl ?_
  refine gz_iconst (pc := 145) dX11_init_145 (v := 0) (by decide) ?_
  refine gp_X11_79 (pc := 146) dX11_init_146 (ok30 _ (by omega)) (Or.inl rfl) rfl ?_
  rw [gz_uiL (by exact Nat.le_of_ble_eq_true rfl)]
  have e1 : gzLr (List.set (List.set (List.set (List.set (List.set (List.set (List.set (List.set (List.set (List.set (List.set (List.set (List.replicate 12 none) 0 (some (0, 31))) 1 (some (0, 33))) 2 (some (0, 37))) 3 (some (0, 38))) 4 (some (0, 0))) 5 (some (1, 0))) 6 (some (0, 20))) 7 (some (1, 20))) 8 (some (0, 39))) 9 (some (0, 41))) 10 (some (2, 0))) 11 (some (2, 20))) = gzR0 0 30 := by funext k; rcases k with _ | _ | _ | _ | _ | _ | _ | _ | _ | _ | _ | _ | k <;> rfl
  have e2 : gzLi (List.set (List.replicate 13 0) 12 0) = gzI0 0 30 := by funext k; rcases k with _ | _ | _ | _ | _ | _ | _ | _ | _ | _ | _ | _ | _ | k <;> rfl
  rw [e1, e2, gz_uwr_same rfl, gz_uw_same rfl]
  exact gz_vret (pc := 149) dX11_init_149 rfl ⟨rfl, rfl⟩
theorem k_X12 : gzC g 0 (d + 1) mX12_init [.inr (.inr (0, 47))] (342, gz_uwr gzR0 0 47 (fun _ => none), gz_uw gzI0 0 47 (fun _ => 0), gzJ0) (gzE (.ok none) (353, gzR0, gzI0, gzJ0)) := by
  refine gzC_of (by decide +kernel) (Nat.le_of_ble_eq_true rfl) (loc := [some (.inr (.inr (0, 47))), none]) rfl ?_
  rw [← gz_n0 (m := 21), ← gz_z0 (m := 21)]
  have ok47 : ∀ n, 341 < n → gzOk 0 47 n := fun n h => gz_okS (by omega) (by omega) (by show 341 < n; exact h)
  have hz : ∀ (L : List Int32) (o : Nat), 49 ≤ o → (gz_uw gzI0 0 47 (gzLi L)) 0 o = fun _ => 0 := fun L o h => (gz_uw_ne (by omega)).trans (gz_i0z (by omega))
  refine gz_aload_n (pc := 0) dX12_init_0 rfl ?_
  refine go_X12_7 (pc := 1) dX12_init_1 (by exact Nat.le_of_ble_eq_true rfl) rfl ?_
  refine gz_aload_n (pc := 4) dX12_init_4 rfl ?_
  refine gz_sipush (pc := 5) dX12_init_5 (v := 2062) (by decide) ?_
  refine gz_newI (pc := 8) (t := 0) (o := 48) (N := 2062) (ty := .int) dX12_init_8 rfl (by decide) (by decide +kernel) (by decide) rfl rfl rfl (Or.inl rfl) (by decide) (by decide) (by exact Nat.le_of_ble_eq_true rfl) gka_int.1 gka_int.2 ?_
  refine gq_X12_13 (pc := 10) dX12_init_10 (ok47 _ (by omega)) rfl rfl ?_
  rw [gz_urL (by exact Nat.le_of_ble_eq_true rfl)]
  refine gz_aload_n (pc := 13) dX12_init_13 rfl ?_
  refine gz_sipush (pc := 14) dX12_init_14 (v := 1213) (by decide) ?_
  refine gz_newI (pc := 17) (t := 0) (o := 49) (N := 1213) (ty := .int) dX12_init_17 rfl (by decide) (by decide +kernel) (by decide) rfl rfl rfl (Or.inl rfl) (by decide) (by decide) (by exact Nat.le_of_ble_eq_true rfl) gka_int.1 gka_int.2 ?_
  rw [gz_uw_same (t := 0) (o := 49) (f := fun _ => 0) ((gz_uw_ne (by omega)).trans (hz _ 49 (by omega)))]
  refine gq_X12_17 (pc := 19) dX12_init_19 (ok47 _ (by omega)) rfl rfl ?_
  rw [gz_urL (by exact Nat.le_of_ble_eq_true rfl)]
  refine gz_aload_n (pc := 22) dX12_init_22 rfl ?_
  refine gz_sipush (pc := 23) dX12_init_23 (v := 1213) (by decide) ?_
  refine gz_newI (pc := 26) (t := 0) (o := 50) (N := 1213) (ty := .int) dX12_init_26 rfl (by decide) (by decide +kernel) (by decide) rfl rfl rfl (Or.inl rfl) (by decide) (by decide) (by exact Nat.le_of_ble_eq_true rfl) gka_int.1 gka_int.2 ?_
  rw [gz_uw_same (t := 0) (o := 50) (f := fun _ => 0) ((gz_uw_ne (by omega)).trans (hz _ 50 (by omega)))]
  refine gq_X12_20 (pc := 28) dX12_init_28 (ok47 _ (by omega)) rfl rfl ?_
  rw [gz_urL (by exact Nat.le_of_ble_eq_true rfl)]
  refine gz_aload_n (pc := 31) dX12_init_31 rfl ?_
  refine gz_sipush (pc := 32) dX12_init_32 (v := 364) (by decide) ?_
  refine gz_newI (pc := 35) (t := 0) (o := 51) (N := 364) (ty := .int) dX12_init_35 rfl (by decide) (by decide +kernel) (by decide) rfl rfl rfl (Or.inl rfl) (by decide) (by decide) (by exact Nat.le_of_ble_eq_true rfl) gka_int.1 gka_int.2 ?_
  rw [gz_uw_same (t := 0) (o := 51) (f := fun _ => 0) ((gz_uw_ne (by omega)).trans (hz _ 51 (by omega)))]
  refine gq_X12_23 (pc := 37) dX12_init_37 (ok47 _ (by omega)) rfl rfl ?_
  rw [gz_urL (by exact Nat.le_of_ble_eq_true rfl)]
  refine gz_aload_n (pc := 40) dX12_init_40 rfl ?_
  refine gz_sipush (pc := 41) dX12_init_41 (v := 4368) (by decide) ?_
  refine gz_newI (pc := 44) (t := 0) (o := 52) (N := 4368) (ty := .int) dX12_init_44 rfl (by decide) (by decide +kernel) (by decide) rfl rfl rfl (Or.inl rfl) (by decide) (by decide) (by exact Nat.le_of_ble_eq_true rfl) gka_int.1 gka_int.2 ?_
  rw [gz_uw_same (t := 0) (o := 52) (f := fun _ => 0) ((gz_uw_ne (by omega)).trans (hz _ 52 (by omega)))]
  refine gq_X12_26 (pc := 46) dX12_init_46 (ok47 _ (by omega)) rfl rfl ?_
  rw [gz_urL (by exact Nat.le_of_ble_eq_true rfl)]
  refine gz_aload_n (pc := 49) dX12_init_49 rfl ?_
  refine gz_sipush (pc := 50) dX12_init_50 (v := 400) (by decide) ?_
  refine gz_newI (pc := 53) (t := 0) (o := 53) (N := 400) (ty := .byte) dX12_init_53 rfl (by decide) (by decide +kernel) (by decide) rfl rfl rfl (Or.inr (Or.inr rfl)) (by decide) (by decide) (by exact Nat.le_of_ble_eq_true rfl) gka_byte.1 gka_byte.2 ?_
  rw [gz_uw_same (t := 0) (o := 53) (f := fun _ => 0) ((gz_uw_ne (by omega)).trans (hz _ 53 (by omega)))]
  refine gq_X12_29 (pc := 55) dX12_init_55 (ok47 _ (by omega)) rfl rfl ?_
  rw [gz_urL (by exact Nat.le_of_ble_eq_true rfl)]
  refine gz_aload_n (pc := 58) dX12_init_58 rfl ?_
  refine gz_iconst (pc := 59) dX12_init_59 (v := -1) (by decide) ?_
  refine gp_X12_33 (pc := 60) dX12_init_60 (ok47 _ (by omega)) rfl ?_
  rw [gz_uiL2 (by omega) (by exact Nat.le_of_ble_eq_true rfl)]
  refine gz_aload_n (pc := 63) dX12_init_63 rfl ?_
  refine gz_iconst (pc := 64) dX12_init_64 (v := 5) (by decide) ?_
  refine gz_newI (pc := 65) (t := 0) (o := 54) (N := 5) (ty := .int) dX12_init_65 rfl (by decide) (by decide +kernel) (by decide) rfl rfl rfl (Or.inl rfl) (by decide) (by decide) (by exact Nat.le_of_ble_eq_true rfl) gka_int.1 gka_int.2 ?_
  rw [gz_uw_same (t := 0) (o := 54) (f := fun _ => 0) ((gz_uw_ne (by omega)).trans (hz _ 54 (by omega)))]
  refine gq_X12_36 (pc := 67) dX12_init_67 (ok47 _ (by omega)) rfl rfl ?_
  rw [gz_urL (by exact Nat.le_of_ble_eq_true rfl)]
  refine gz_aload_n (pc := 70) dX12_init_70 rfl ?_
  refine gz_sipush (pc := 71) dX12_init_71 (v := 400) (by decide) ?_
  refine gz_newI (pc := 74) (t := 0) (o := 55) (N := 400) (ty := .int) dX12_init_74 rfl (by decide) (by decide +kernel) (by decide) rfl rfl rfl (Or.inl rfl) (by decide) (by decide) (by exact Nat.le_of_ble_eq_true rfl) gka_int.1 gka_int.2 ?_
  rw [gz_uw_same (t := 0) (o := 55) (f := fun _ => 0) ((gz_uw_ne (by omega)).trans (hz _ 55 (by omega)))]
  refine gq_X12_39 (pc := 76) dX12_init_76 (ok47 _ (by omega)) rfl rfl ?_
  rw [gz_urL (by exact Nat.le_of_ble_eq_true rfl)]
  refine gz_aload_n (pc := 79) dX12_init_79 rfl ?_
  refine gz_bipush (pc := 80) dX12_init_80 (v := 64) (by decide) ?_
  refine gz_newI (pc := 82) (t := 0) (o := 56) (N := 64) (ty := .int) dX12_init_82 rfl (by decide) (by decide +kernel) (by decide) rfl rfl rfl (Or.inl rfl) (by decide) (by decide) (by exact Nat.le_of_ble_eq_true rfl) gka_int.1 gka_int.2 ?_
  rw [gz_uw_same (t := 0) (o := 56) (f := fun _ => 0) ((gz_uw_ne (by omega)).trans (hz _ 56 (by omega)))]
  refine gq_X12_42 (pc := 84) dX12_init_84 (ok47 _ (by omega)) rfl rfl ?_
  rw [gz_urL (by exact Nat.le_of_ble_eq_true rfl)]
  refine gz_aload_n (pc := 87) dX12_init_87 rfl ?_
  refine gz_bipush (pc := 88) dX12_init_88 (v := 6) (by decide) ?_
  refine gz_newI (pc := 90) (t := 0) (o := 57) (N := 6) (ty := .int) dX12_init_90 rfl (by decide) (by decide +kernel) (by decide) rfl rfl rfl (Or.inl rfl) (by decide) (by decide) (by exact Nat.le_of_ble_eq_true rfl) gka_int.1 gka_int.2 ?_
  rw [gz_uw_same (t := 0) (o := 57) (f := fun _ => 0) ((gz_uw_ne (by omega)).trans (hz _ 57 (by omega)))]
  refine gq_X12_45 (pc := 92) dX12_init_92 (ok47 _ (by omega)) rfl rfl ?_
  rw [gz_urL (by exact Nat.le_of_ble_eq_true rfl)]
  refine gz_aload_n (pc := 95) dX12_init_95 rfl ?_
  refine gz_bipush (pc := 96) dX12_init_96 (v := 7) (by decide) ?_
  refine gz_newJ (pc := 98) (t := 0) (o := 58) (N := 7) dX12_init_98 rfl (by decide) (by decide +kernel) (by decide) rfl rfl (by decide) (by decide) (by exact Nat.le_of_ble_eq_true rfl) gka_long.1 gka_long.2 ?_
  rw [gz_uwj_same (t := 0) (o := 58) (f := fun _ => 0) rfl]
  refine gq_X12_48 (pc := 100) dX12_init_100 (ok47 _ (by omega)) rfl rfl ?_
  rw [gz_urL (by exact Nat.le_of_ble_eq_true rfl)]
  rw [← gz_z0 (m := 14)]
  refine gz_aload_n (pc := 103) dX12_init_103 rfl ?_
  refine gz_getR (ci := 12) (r := (RX12, TX12, 21)) (k := 1) (q := (0, 48)) (pc := 104) dX12_init_104 (ok47 _ (by omega)) (by rw [gz_uwr_eq]; rfl) rfl rfl (by decide) rfl fkX12_13.1 fkX12_13.2 ?_
  refine gz_bipush (pc := 107) dX12_init_107 (v := 9) (by decide) ?_
  refine gz_iconst (pc := 109) dX12_init_109 (v := 1) (by decide) ?_
  refine gz_iast2 (k := 9) (N := 2062) (pc := 110) dX12_init_110 (gz_okS (by omega) (by omega) (by show 342 < _; omega)) rfl (gz_vpd (by decide)) (by decide) ?_
  rw [gz_uiL (by exact Nat.le_of_ble_eq_true rfl)]
  refine gz_iconst (pc := 111) dX12_init_111 (v := 0) (by decide) ?_
  refine gz_istore_n (pc := 112) dX12_init_112 (by decide) rfl (loc2 := [some (.inr (.inr (0, 47))), some (.inl 0)]) rfl ?_
  refine gz_iload_n (pc := 113) dX12_init_113 rfl ?_
  refine gz_iconst (pc := 114) dX12_init_114 (v := 4) (by decide) ?_
  refine gz_ic_ge (pc := 115) (tgt := 134) dX12_init_115 (by decide) (fun c => absurd c (by decide)) (fun _ => ?_)
  refine gz_aload_n (pc := 118) dX12_init_118 rfl ?_
  refine gz_getR (ci := 12) (r := (RX12, TX12, 21)) (k := 1) (q := (0, 48)) (pc := 119) dX12_init_119 (ok47 _ (by omega)) (by rw [gz_uwr_eq]; rfl) rfl rfl (by decide) rfl fkX12_13.1 fkX12_13.2 ?_
  refine gz_bipush (pc := 122) dX12_init_122 (v := 10) (by decide) ?_
  refine gz_iload_n (pc := 124) dX12_init_124 rfl ?_
  refine gz_iadd (pc := 125) dX12_init_125 ?_
  refine gz_iconst (pc := 126) dX12_init_126 (v := 3) (by decide) ?_
  refine gz_iast2 (k := 10) (N := 2062) (pc := 127) dX12_init_127 (gz_okS (by omega) (by omega) (by show 342 < _; omega)) rfl (gz_vpd (by decide)) (by decide) ?_
  rw [gz_uiL (by exact Nat.le_of_ble_eq_true rfl)]
  refine gz_iinc (pc := 128) dX12_init_128 rfl (v := 1) (by decide) (by decide) rfl (loc2 := [some (.inr (.inr (0, 47))), some (.inl 1)]) rfl ?_
  refine gz_goto (pc := 131) (tgt := 113) dX12_init_131 (by decide) ?_
  refine gz_iload_n (pc := 113) dX12_init_113 rfl ?_
  refine gz_iconst (pc := 114) dX12_init_114 (v := 4) (by decide) ?_
  refine gz_ic_ge (pc := 115) (tgt := 134) dX12_init_115 (by decide) (fun c => absurd c (by decide)) (fun _ => ?_)
  refine gz_aload_n (pc := 118) dX12_init_118 rfl ?_
  refine gz_getR (ci := 12) (r := (RX12, TX12, 21)) (k := 1) (q := (0, 48)) (pc := 119) dX12_init_119 (ok47 _ (by omega)) (by rw [gz_uwr_eq]; rfl) rfl rfl (by decide) rfl fkX12_13.1 fkX12_13.2 ?_
  refine gz_bipush (pc := 122) dX12_init_122 (v := 10) (by decide) ?_
  refine gz_iload_n (pc := 124) dX12_init_124 rfl ?_
  refine gz_iadd (pc := 125) dX12_init_125 ?_
  refine gz_iconst (pc := 126) dX12_init_126 (v := 3) (by decide) ?_
  refine gz_iast2 (k := 11) (N := 2062) (pc := 127) dX12_init_127 (gz_okS (by omega) (by omega) (by show 342 < _; omega)) rfl (gz_vpd (by decide)) (by decide) ?_
  rw [gz_uiL (by exact Nat.le_of_ble_eq_true rfl)]
  refine gz_iinc (pc := 128) dX12_init_128 rfl (v := 2) (by decide) (by decide) rfl (loc2 := [some (.inr (.inr (0, 47))), some (.inl 2)]) rfl ?_
  refine gz_goto (pc := 131) (tgt := 113) dX12_init_131 (by decide) ?_
  refine gz_iload_n (pc := 113) dX12_init_113 rfl ?_
  refine gz_iconst (pc := 114) dX12_init_114 (v := 4) (by decide) ?_
  refine gz_ic_ge (pc := 115) (tgt := 134) dX12_init_115 (by decide) (fun c => absurd c (by decide)) (fun _ => ?_)
  refine gz_aload_n (pc := 118) dX12_init_118 rfl ?_
  refine gz_getR (ci := 12) (r := (RX12, TX12, 21)) (k := 1) (q := (0, 48)) (pc := 119) dX12_init_119 (ok47 _ (by omega)) (by rw [gz_uwr_eq]; rfl) rfl rfl (by decide) rfl fkX12_13.1 fkX12_13.2 ?_
  refine gz_bipush (pc := 122) dX12_init_122 (v := 10) (by decide) ?_
  refine gz_iload_n (pc := 124) dX12_init_124 rfl ?_
  refine gz_iadd (pc := 125) dX12_init_125 ?_
  refine gz_iconst (pc := 126) dX12_init_126 (v := 3) (by decide) ?_
  refine gz_iast2 (k := 12) (N := 2062) (pc := 127) dX12_init_127 (gz_okS (by omega) (by omega) (by show 342 < _; omega)) rfl (gz_vpd (by decide)) (by decide) ?_
  rw [gz_uiL (by exact Nat.le_of_ble_eq_true rfl)]
  refine gz_iinc (pc := 128) dX12_init_128 rfl (v := 3) (by decide) (by decide) rfl (loc2 := [some (.inr (.inr (0, 47))), some (.inl 3)]) rfl ?_
  refine gz_goto (pc := 131) (tgt := 113) dX12_init_131 (by decide) ?_
  refine gz_iload_n (pc := 113) dX12_init_113 rfl ?_
  refine gz_iconst (pc := 114) dX12_init_114 (v := 4) (by decide) ?_
  refine gz_ic_ge (pc := 115) (tgt := 134) dX12_init_115 (by decide) (fun c => absurd c (by decide)) (fun _ => ?_)
  refine gz_aload_n (pc := 118) dX12_init_118 rfl ?_
  refine gz_getR (ci := 12) (r := (RX12, TX12, 21)) (k := 1) (q := (0, 48)) (pc := 119) dX12_init_119 (ok47 _ (by omega)) (by rw [gz_uwr_eq]; rfl) rfl rfl (by decide) rfl fkX12_13.1 fkX12_13.2 ?_
  refine gz_bipush (pc := 122) dX12_init_122 (v := 10) (by decide) ?_
  refine gz_iload_n (pc := 124) dX12_init_124 rfl ?_
  refine gz_iadd (pc := 125) dX12_init_125 ?_
  refine gz_iconst (pc := 126) dX12_init_126 (v := 3) (by decide) ?_
  refine gz_iast2 (k := 13) (N := 2062) (pc := 127) dX12_init_127 (gz_okS (by omega) (by omega) (by show 342 < _; omega)) rfl (gz_vpd (by decide)) (by decide) ?_
  rw [gz_uiL (by exact Nat.le_of_ble_eq_true rfl)]
  refine gz_iinc (pc := 128) dX12_init_128 rfl (v := 4) (by decide) (by decide) rfl (loc2 := [some (.inr (.inr (0, 47))), some (.inl 4)]) rfl ?_
  refine gz_goto (pc := 131) (tgt := 113) dX12_init_131 (by decide) ?_
  refine gz_iload_n (pc := 113) dX12_init_113 rfl ?_
  refine gz_iconst (pc := 114) dX12_init_114 (v := 4) (by decide) ?_
  refine gz_ic_ge (pc := 115) (tgt := 134) dX12_init_115 (by decide) (fun _ => ?_) (fun c => absurd (by decide) c)
  have e0 : gzLi (List.set (List.set (List.set (List.set (List.set (List.replicate 14 0) 9 1) 10 3) 11 3) 12 3) 13 3) = gzI0 0 48 := by
    funext k
    by_cases h : k < 14
    · have : ∀ k, k < 14 → gzLi (List.set (List.set (List.set (List.set (List.set (List.replicate 14 0) 9 1) 10 3) 11 3) 12 3) 13 3) k = gzI0 0 48 k := by decide +kernel
      exact this k h
    · have h1 : gzI0 0 48 k = 0 := by
        show (if k = 9 then (1 : Int32) else if 10 ≤ k ∧ k < 14 then 3 else 0) = 0
        rw [if_neg (by omega), if_neg (by omega)]
      rw [h1]
      unfold gzLi
      rw [List.getD_eq_getElem?_getD, List.getElem?_eq_none (by show 14 ≤ k; omega)]
      rfl
  have e1 : gzLr (List.set (List.set (List.set (List.set (List.set (List.set (List.set (List.set (List.set (List.set (List.set (List.replicate 21 none) 1 (some (0, 48))) 2 (some (0, 49))) 3 (some (0, 50))) 4 (some (0, 51))) 5 (some (0, 52))) 8 (some (0, 53))) 15 (some (0, 54))) 17 (some (0, 55))) 18 (some (0, 56))) 19 (some (0, 57))) 20 (some (0, 58))) = gzR0 0 47 := by funext k; rcases k with _ | _ | _ | _ | _ | _ | _ | _ | _ | _ | _ | _ | _ | _ | _ | _ | _ | _ | _ | _ | _ | k <;> rfl
  have e2 : gzLi (List.set (List.replicate 21 0) 14 (-1)) = gzI0 0 47 := by funext k; rcases k with _ | _ | _ | _ | _ | _ | _ | _ | _ | _ | _ | _ | _ | _ | _ | _ | _ | _ | _ | _ | _ | k <;> rfl
  rw [e0, e1, e2, gz_uwr_same rfl, gz_uw_same (t := 0) (o := 47) rfl, gz_uw_same rfl]
  exact gz_vret (pc := 134) dX12_init_134 rfl ⟨rfl, rfl⟩
end
