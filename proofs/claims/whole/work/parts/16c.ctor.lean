/-! the constructors: from the memory that is to be (rows that aren't made yet may be anything) to itself -/
def gzLr (L : List (Option (Nat × Nat))) : Nat → Option (Nat × Nat) := fun k => L.getD k none
def gzLi (L : List Int32) : Nat → Int32 := fun k => L.getD k 0
theorem gz_urL {R : Nat → Nat → Nat → Option (Nat × Nat)} {t o k : Nat} {L : List (Option (Nat × Nat))} {v : Option (Nat × Nat)} (hk : k < L.length) : gz_ur (gz_uwr R t o (gzLr L)) t o k v = gz_uwr R t o (gzLr (L.set k v)) := by
  funext t' o' j
  unfold gz_ur gz_uwr
  by_cases h : t' = t ∧ o' = o
  · obtain ⟨rfl, rfl⟩ := h
    simp only [and_self, true_and, if_true]
    unfold gzLr
    rw [List.getD_eq_getElem?_getD, List.getD_eq_getElem?_getD, List.getElem?_set]
    by_cases e : j = k
    · subst e; simp [hk]
    · rw [if_neg e, if_neg (fun q => e q.symm)]
  · rw [if_neg (fun q => h ⟨q.1, q.2.1⟩), if_neg h, if_neg h]
theorem gz_uiL {I : gzIT} {t o k : Nat} {L : List Int32} {v : Int32} (hk : k < L.length) : gz_ui (gz_uw I t o (gzLi L)) t o k v = gz_uw I t o (gzLi (L.set k v)) := by
  funext t' o' j
  unfold gz_ui gz_uw
  by_cases h : t' = t ∧ o' = o
  · obtain ⟨rfl, rfl⟩ := h
    simp only [and_self, true_and, if_true]
    unfold gzLi
    rw [List.getD_eq_getElem?_getD, List.getD_eq_getElem?_getD, List.getElem?_set]
    by_cases e : j = k
    · subst e; simp [hk]
    · rw [if_neg e, if_neg (fun q => e q.symm)]
  · rw [if_neg (fun q => h ⟨q.1, q.2.1⟩), if_neg h, if_neg h]
theorem gz_uw_same {I : gzIT} {t o : Nat} {f : Nat → Int32} (h : I t o = f) : gz_uw I t o f = I := by
  funext t' o'
  unfold gz_uw
  by_cases e : t' = t ∧ o' = o
  · rw [if_pos e, e.1, e.2, h]
  · rw [if_neg e]
theorem gz_uwr_same {R : Nat → Nat → Nat → Option (Nat × Nat)} {t o : Nat} {f : Nat → Option (Nat × Nat)} (h : R t o = f) : gz_uwr R t o f = R := by
  funext t' o'
  unfold gz_uwr
  by_cases e : t' = t ∧ o' = o
  · rw [if_pos e, e.1, e.2, h]
  · rw [if_neg e]
theorem gz_uwj_same {I : gzJT} {t o : Nat} {f : Nat → Int64} (h : I t o = f) : gz_uwj I t o f = I := by
  funext t' o'
  unfold gz_uwj
  by_cases e : t' = t ∧ o' = o
  · rw [if_pos e, e.1, e.2, h]
  · rw [if_neg e]
theorem gz_uwr_twice {R : Nat → Nat → Nat → Option (Nat × Nat)} {t o : Nat} {f h : Nat → Option (Nat × Nat)} : gz_uwr (gz_uwr R t o f) t o h = gz_uwr R t o h := by
  funext t' o'
  unfold gz_uwr
  by_cases e : t' = t ∧ o' = o
  · rw [if_pos e, if_pos e]
  · rw [if_neg e, if_neg e, if_neg e]
theorem gz_uw_twice {R : gzIT} {t o : Nat} {f h : Nat → Int32} : gz_uw (gz_uw R t o f) t o h = gz_uw R t o h := by
  funext t' o'
  unfold gz_uw
  by_cases e : t' = t ∧ o' = o
  · rw [if_pos e, if_pos e]
  · rw [if_neg e, if_neg e, if_neg e]
/-- the ints at the start -/
def gzI0 : gzIT := fun _ o k => if o = 0 then (if k = 11 then 1 else 0) else if o = 19 then (if k < 4 then 3 else 0) else if o = 20 then (if k = 7 then -1 else 0) else if o = 33 then (if k = 5 then -3 else if k = 7 then -1 else 0) else if o = 47 then (if k = 14 then -1 else 0) else if o = 48 then (if k = 9 then 1 else if 10 ≤ k ∧ k < 14 then 3 else 0) else 0
def gzJ0 : gzJT := fun _ _ _ => 0
theorem gz_i0z {t o : Nat} (h : o ≠ 0 ∧ o ≠ 19 ∧ o ≠ 20 ∧ o ≠ 33 ∧ o ≠ 47 ∧ o ≠ 48) : gzI0 t o = fun _ => 0 := by
  funext k
  unfold gzI0
  rw [if_neg h.1, if_neg h.2.1, if_neg h.2.2.1, if_neg h.2.2.2.1, if_neg h.2.2.2.2.1, if_neg h.2.2.2.2.2]
set_option maxRecDepth 100000 in
theorem gz_grpT : ∀ t, t < 15 → (∀ o, o < 20 → gzIdAt (gzPos t 0 + o) = (t, o) ∧ gzPos t o = gzPos t 0 + o) ∧ gzPos t 0 + 20 ≤ gzN := by decide +kernel
set_option maxRecDepth 100000 in
theorem gz_grpL : ∀ t, t < 3 → (∀ o, o < 8 → gzIdAt (gzPos t 20 + o) = (t, 20 + o) ∧ gzPos t (20 + o) = gzPos t 20 + o) ∧ gzPos t 20 + 8 ≤ gzN := by decide +kernel
theorem gz_okT {t o n : Nat} (ht : t < 15) (ho : o < 20) (hn : gzPos t 0 + o < n) : gzOk t o n := by
  have h := (gz_grpT t ht).1 o ho
  exact ⟨by rw [h.2]; exact hn, by rw [h.2]; exact h.1, by omega⟩
theorem gz_okL {t o n : Nat} (ht : t < 3) (ho : o < 8) (hn : gzPos t 20 + o < n) : gzOk t (20 + o) n := by
  have h := (gz_grpL t ht).1 o ho
  exact ⟨by rw [h.2]; exact hn, by rw [h.2]; exact h.1, by omega⟩
set_option maxRecDepth 100000 in
theorem gz_okS0 : ∀ o, o < 60 → 28 ≤ o → o ≠ 28 → o ≠ 29 → gzIdAt (gzPos 0 o) = (0, o) := by decide +kernel
theorem gz_okS {o n : Nat} (h1 : 30 ≤ o) (h2 : o < 60) (hn : gzPos 0 o < n) : gzOk 0 o n := ⟨hn, gz_okS0 o h2 (by omega) (by omega) (by omega), h2⟩
theorem gka_int : gz_in (.arrayClass .int) := gz_t1 51 (by decide +kernel) rfl
theorem gka_bool : gz_in (.arrayClass .boolean) := gz_t1 199 (by decide +kernel) rfl
theorem gka_byte : gz_in (.arrayClass .byte) := gz_t4 184 (by decide +kernel) rfl
theorem gka_long : gz_in (.arrayClass .long) := gz_t7 80 (by decide +kernel) rfl
theorem gka_town : Cond.arrayOver (.object "GrudgeIce$Town") ∈ lw_tbl := gz_tm2 83 (by decide +kernel)
theorem gz_n0 {m : Nat} : gzLr (List.replicate m none) = fun _ => none := by
  funext k
  unfold gzLr
  rw [List.getD_eq_getElem?_getD]
  by_cases h : k < m
  · rw [List.getElem?_replicate_of_lt h]; rfl
  · rw [List.getElem?_eq_none (by simpa using h)]; rfl
theorem gz_z0 {m : Nat} : gzLi (List.replicate m 0) = fun _ => 0 := by
  funext k
  unfold gzLi
  rw [List.getD_eq_getElem?_getD]
  by_cases h : k < m
  · rw [List.getElem?_replicate_of_lt h]; rfl
  · rw [List.getElem?_eq_none (by simpa using h)]; rfl
section
variable {g : gzG} {d : Nat} {R : Nat → Nat → Nat → Option (Nat × Nat)} {I : gzIT} {J : gzJT}
theorem k_X0 {t : Nat} (ht : t < 15) (hI : ∀ o, o ∈ [2, 3, 4, 5, 6] → I t o = fun _ => 0) : gzC g 0 d mX0_init [.inr (.inr (t, 1))] (gzPos t 0 + 2, gz_uwr R t 1 (fun _ => none), gz_uw I t 1 (fun _ => 0), J) (gzE (.ok none) (gzPos t 0 + 7, gz_uwr R t 1 (gzR0 t 1), gz_uw I t 1 (gzI0 t 1), J)) := by
  refine gzC_of (by decide +kernel) (Nat.le_of_ble_eq_true rfl) (loc := [some (.inr (.inr (t, 1)))]) rfl ?_
  rw [← gz_n0 (m := 5), ← gz_z0 (m := 6)]
  have hg := gz_grpT t ht
  refine gz_aload_n (pc := 0) dX0_init_0 rfl ?_
  refine go_X0_3 (pc := 1) dX0_init_1 (by exact Nat.le_of_ble_eq_true rfl) rfl ?_
  refine gz_aload_n (pc := 4) dX0_init_4 rfl ?_
  refine gz_bipush (pc := 5) dX0_init_5 (v := 6) (by decide) ?_
  refine gz_newI (pc := 7) (t := t) (o := 2) (N := 6) (ty := .int) dX0_init_7 rfl (by have := hg.2; show gzPos t 0 + 2 < gzN; omega) ((hg.1 2 (by omega)).1) (by decide) rfl rfl rfl (Or.inl rfl) (by decide) (by decide) (by exact Nat.le_of_ble_eq_true rfl) gka_int.1 gka_int.2 ?_
  rw [gz_uw_same (t := t) (o := 2) (f := fun _ => 0) ((gz_uw_ne (by omega)).trans (hI 2 (by simp)))]
  refine gq_X0_9 (pc := 9) dX0_init_9 (gz_okT ht (by omega) (by show gzPos t 0 + 1 < gzPos t 0 + 3; omega)) rfl rfl ?_
  rw [gz_urL (by exact Nat.le_of_ble_eq_true rfl)]
  refine gz_aload_n (pc := 12) dX0_init_12 rfl ?_
  refine gz_bipush (pc := 13) dX0_init_13 (v := 6) (by decide) ?_
  refine gz_newI (pc := 15) (t := t) (o := 3) (N := 6) (ty := .int) dX0_init_15 rfl (by have := hg.2; show gzPos t 0 + 3 < gzN; omega) ((hg.1 3 (by omega)).1) (by decide) rfl rfl rfl (Or.inl rfl) (by decide) (by decide) (by exact Nat.le_of_ble_eq_true rfl) gka_int.1 gka_int.2 ?_
  rw [gz_uw_same (t := t) (o := 3) (f := fun _ => 0) ((gz_uw_ne (by omega)).trans (hI 3 (by simp)))]
  refine gq_X0_15 (pc := 17) dX0_init_17 (gz_okT ht (by omega) (by show gzPos t 0 + 1 < gzPos t 0 + 4; omega)) rfl rfl ?_
  rw [gz_urL (by exact Nat.le_of_ble_eq_true rfl)]
  refine gz_aload_n (pc := 20) dX0_init_20 rfl ?_
  refine gz_bipush (pc := 21) dX0_init_21 (v := 6) (by decide) ?_
  refine gz_newI (pc := 23) (t := t) (o := 4) (N := 6) (ty := .int) dX0_init_23 rfl (by have := hg.2; show gzPos t 0 + 4 < gzN; omega) ((hg.1 4 (by omega)).1) (by decide) rfl rfl rfl (Or.inl rfl) (by decide) (by decide) (by exact Nat.le_of_ble_eq_true rfl) gka_int.1 gka_int.2 ?_
  rw [gz_uw_same (t := t) (o := 4) (f := fun _ => 0) ((gz_uw_ne (by omega)).trans (hI 4 (by simp)))]
  refine gq_X0_18 (pc := 25) dX0_init_25 (gz_okT ht (by omega) (by show gzPos t 0 + 1 < gzPos t 0 + 5; omega)) rfl rfl ?_
  rw [gz_urL (by exact Nat.le_of_ble_eq_true rfl)]
  refine gz_aload_n (pc := 28) dX0_init_28 rfl ?_
  refine gz_bipush (pc := 29) dX0_init_29 (v := 6) (by decide) ?_
  refine gz_newI (pc := 31) (t := t) (o := 5) (N := 6) (ty := .int) dX0_init_31 rfl (by have := hg.2; show gzPos t 0 + 5 < gzN; omega) ((hg.1 5 (by omega)).1) (by decide) rfl rfl rfl (Or.inl rfl) (by decide) (by decide) (by exact Nat.le_of_ble_eq_true rfl) gka_int.1 gka_int.2 ?_
  rw [gz_uw_same (t := t) (o := 5) (f := fun _ => 0) ((gz_uw_ne (by omega)).trans (hI 5 (by simp)))]
  refine gq_X0_21 (pc := 33) dX0_init_33 (gz_okT ht (by omega) (by show gzPos t 0 + 1 < gzPos t 0 + 6; omega)) rfl rfl ?_
  rw [gz_urL (by exact Nat.le_of_ble_eq_true rfl)]
  refine gz_aload_n (pc := 36) dX0_init_36 rfl ?_
  refine gz_bipush (pc := 37) dX0_init_37 (v := 6) (by decide) ?_
  refine gz_newI (pc := 39) (t := t) (o := 6) (N := 6) (ty := .int) dX0_init_39 rfl (by have := hg.2; show gzPos t 0 + 6 < gzN; omega) ((hg.1 6 (by omega)).1) (by decide) rfl rfl rfl (Or.inl rfl) (by decide) (by decide) (by exact Nat.le_of_ble_eq_true rfl) gka_int.1 gka_int.2 ?_
  rw [gz_uw_same (t := t) (o := 6) (f := fun _ => 0) ((gz_uw_ne (by omega)).trans (hI 6 (by simp)))]
  refine gq_X0_24 (pc := 41) dX0_init_41 (gz_okT ht (by omega) (by show gzPos t 0 + 1 < gzPos t 0 + 7; omega)) rfl rfl ?_
  rw [gz_urL (by exact Nat.le_of_ble_eq_true rfl)]
  refine gz_aload_n (pc := 44) dX0_init_44 rfl ?_
  refine gz_iconst (pc := 45) dX0_init_45 (v := 0) (by decide) ?_
  refine gp_X0_27 (pc := 46) dX0_init_46 (gz_okT ht (by omega) (by show gzPos t 0 + 1 < gzPos t 0 + 7; omega)) rfl ?_
  rw [gz_uiL (by exact Nat.le_of_ble_eq_true rfl)]
  have e1 : gzLr (List.set (List.set (List.set (List.set (List.set (List.replicate 5 none) 0 (some (t, 2))) 1 (some (t, 3))) 2 (some (t, 4))) 3 (some (t, 5))) 4 (some (t, 6))) = gzR0 t 1 := by funext k; rcases k with _ | _ | _ | _ | _ | k <;> rfl
  have e2 : gzLi (List.set (List.replicate 6 0) 5 0) = gzI0 t 1 := by funext k; rcases k with _ | _ | _ | _ | _ | _ | k <;> rfl
  rw [e1, e2]
  exact gz_vret (pc := 49) dX0_init_49 rfl ⟨rfl, rfl⟩
theorem k_X1 {t : Nat} (ht : t < 15) (hI : ∀ o, o ∈ [8, 9, 10, 11, 12, 13, 14] → I t o = fun _ => 0) : gzC g 0 d mX1_init [.inr (.inr (t, 7))] (gzPos t 0 + 8, gz_uwr R t 7 (fun _ => none), gz_uw I t 7 (fun _ => 0), J) (gzE (.ok none) (gzPos t 0 + 15, gz_uwr R t 7 (gzR0 t 7), gz_uw I t 7 (gzI0 t 7), J)) := by
  refine gzC_of (by decide +kernel) (Nat.le_of_ble_eq_true rfl) (loc := [some (.inr (.inr (t, 7)))]) rfl ?_
  rw [← gz_n0 (m := 7), ← gz_z0 (m := 8)]
  have hg := gz_grpT t ht
  refine gz_aload_n (pc := 0) dX1_init_0 rfl ?_
  refine go_X1_3 (pc := 1) dX1_init_1 (by exact Nat.le_of_ble_eq_true rfl) rfl ?_
  refine gz_aload_n (pc := 4) dX1_init_4 rfl ?_
  refine gz_bipush (pc := 5) dX1_init_5 (v := 10) (by decide) ?_
  refine gz_newI (pc := 7) (t := t) (o := 8) (N := 10) (ty := .int) dX1_init_7 rfl (by have := hg.2; show gzPos t 0 + 8 < gzN; omega) ((hg.1 8 (by omega)).1) (by decide) rfl rfl rfl (Or.inl rfl) (by decide) (by decide) (by exact Nat.le_of_ble_eq_true rfl) gka_int.1 gka_int.2 ?_
  rw [gz_uw_same (t := t) (o := 8) (f := fun _ => 0) ((gz_uw_ne (by omega)).trans (hI 8 (by simp)))]
  refine gq_X1_9 (pc := 9) dX1_init_9 (gz_okT ht (by omega) (by show gzPos t 0 + 7 < gzPos t 0 + 9; omega)) rfl rfl ?_
  rw [gz_urL (by exact Nat.le_of_ble_eq_true rfl)]
  refine gz_aload_n (pc := 12) dX1_init_12 rfl ?_
  refine gz_bipush (pc := 13) dX1_init_13 (v := 10) (by decide) ?_
  refine gz_newI (pc := 15) (t := t) (o := 9) (N := 10) (ty := .int) dX1_init_15 rfl (by have := hg.2; show gzPos t 0 + 9 < gzN; omega) ((hg.1 9 (by omega)).1) (by decide) rfl rfl rfl (Or.inl rfl) (by decide) (by decide) (by exact Nat.le_of_ble_eq_true rfl) gka_int.1 gka_int.2 ?_
  rw [gz_uw_same (t := t) (o := 9) (f := fun _ => 0) ((gz_uw_ne (by omega)).trans (hI 9 (by simp)))]
  refine gq_X1_15 (pc := 17) dX1_init_17 (gz_okT ht (by omega) (by show gzPos t 0 + 7 < gzPos t 0 + 10; omega)) rfl rfl ?_
  rw [gz_urL (by exact Nat.le_of_ble_eq_true rfl)]
  refine gz_aload_n (pc := 20) dX1_init_20 rfl ?_
  refine gz_bipush (pc := 21) dX1_init_21 (v := 10) (by decide) ?_
  refine gz_newI (pc := 23) (t := t) (o := 10) (N := 10) (ty := .int) dX1_init_23 rfl (by have := hg.2; show gzPos t 0 + 10 < gzN; omega) ((hg.1 10 (by omega)).1) (by decide) rfl rfl rfl (Or.inl rfl) (by decide) (by decide) (by exact Nat.le_of_ble_eq_true rfl) gka_int.1 gka_int.2 ?_
  rw [gz_uw_same (t := t) (o := 10) (f := fun _ => 0) ((gz_uw_ne (by omega)).trans (hI 10 (by simp)))]
  refine gq_X1_18 (pc := 25) dX1_init_25 (gz_okT ht (by omega) (by show gzPos t 0 + 7 < gzPos t 0 + 11; omega)) rfl rfl ?_
  rw [gz_urL (by exact Nat.le_of_ble_eq_true rfl)]
  refine gz_aload_n (pc := 28) dX1_init_28 rfl ?_
  refine gz_bipush (pc := 29) dX1_init_29 (v := 10) (by decide) ?_
  refine gz_newI (pc := 31) (t := t) (o := 11) (N := 10) (ty := .int) dX1_init_31 rfl (by have := hg.2; show gzPos t 0 + 11 < gzN; omega) ((hg.1 11 (by omega)).1) (by decide) rfl rfl rfl (Or.inl rfl) (by decide) (by decide) (by exact Nat.le_of_ble_eq_true rfl) gka_int.1 gka_int.2 ?_
  rw [gz_uw_same (t := t) (o := 11) (f := fun _ => 0) ((gz_uw_ne (by omega)).trans (hI 11 (by simp)))]
  refine gq_X1_21 (pc := 33) dX1_init_33 (gz_okT ht (by omega) (by show gzPos t 0 + 7 < gzPos t 0 + 12; omega)) rfl rfl ?_
  rw [gz_urL (by exact Nat.le_of_ble_eq_true rfl)]
  refine gz_aload_n (pc := 36) dX1_init_36 rfl ?_
  refine gz_bipush (pc := 37) dX1_init_37 (v := 10) (by decide) ?_
  refine gz_newI (pc := 39) (t := t) (o := 12) (N := 10) (ty := .int) dX1_init_39 rfl (by have := hg.2; show gzPos t 0 + 12 < gzN; omega) ((hg.1 12 (by omega)).1) (by decide) rfl rfl rfl (Or.inl rfl) (by decide) (by decide) (by exact Nat.le_of_ble_eq_true rfl) gka_int.1 gka_int.2 ?_
  rw [gz_uw_same (t := t) (o := 12) (f := fun _ => 0) ((gz_uw_ne (by omega)).trans (hI 12 (by simp)))]
  refine gq_X1_24 (pc := 41) dX1_init_41 (gz_okT ht (by omega) (by show gzPos t 0 + 7 < gzPos t 0 + 13; omega)) rfl rfl ?_
  rw [gz_urL (by exact Nat.le_of_ble_eq_true rfl)]
  refine gz_aload_n (pc := 44) dX1_init_44 rfl ?_
  refine gz_bipush (pc := 45) dX1_init_45 (v := 10) (by decide) ?_
  refine gz_newI (pc := 47) (t := t) (o := 13) (N := 10) (ty := .boolean) dX1_init_47 rfl (by have := hg.2; show gzPos t 0 + 13 < gzN; omega) ((hg.1 13 (by omega)).1) (by decide) rfl rfl rfl (Or.inr (Or.inl rfl)) (by decide) (by decide) (by exact Nat.le_of_ble_eq_true rfl) gka_bool.1 gka_bool.2 ?_
  rw [gz_uw_same (t := t) (o := 13) (f := fun _ => 0) ((gz_uw_ne (by omega)).trans (hI 13 (by simp)))]
  refine gq_X1_27 (pc := 49) dX1_init_49 (gz_okT ht (by omega) (by show gzPos t 0 + 7 < gzPos t 0 + 14; omega)) rfl rfl ?_
  rw [gz_urL (by exact Nat.le_of_ble_eq_true rfl)]
  refine gz_aload_n (pc := 52) dX1_init_52 rfl ?_
  refine gz_bipush (pc := 53) dX1_init_53 (v := 10) (by decide) ?_
  refine gz_newI (pc := 55) (t := t) (o := 14) (N := 10) (ty := .boolean) dX1_init_55 rfl (by have := hg.2; show gzPos t 0 + 14 < gzN; omega) ((hg.1 14 (by omega)).1) (by decide) rfl rfl rfl (Or.inr (Or.inl rfl)) (by decide) (by decide) (by exact Nat.le_of_ble_eq_true rfl) gka_bool.1 gka_bool.2 ?_
  rw [gz_uw_same (t := t) (o := 14) (f := fun _ => 0) ((gz_uw_ne (by omega)).trans (hI 14 (by simp)))]
  refine gq_X1_31 (pc := 57) dX1_init_57 (gz_okT ht (by omega) (by show gzPos t 0 + 7 < gzPos t 0 + 15; omega)) rfl rfl ?_
  rw [gz_urL (by exact Nat.le_of_ble_eq_true rfl)]
  refine gz_aload_n (pc := 60) dX1_init_60 rfl ?_
  refine gz_iconst (pc := 61) dX1_init_61 (v := 0) (by decide) ?_
  refine gp_X1_34 (pc := 62) dX1_init_62 (gz_okT ht (by omega) (by show gzPos t 0 + 7 < gzPos t 0 + 15; omega)) rfl ?_
  rw [gz_uiL (by exact Nat.le_of_ble_eq_true rfl)]
  have e1 : gzLr (List.set (List.set (List.set (List.set (List.set (List.set (List.set (List.replicate 7 none) 0 (some (t, 8))) 1 (some (t, 9))) 2 (some (t, 10))) 3 (some (t, 11))) 4 (some (t, 12))) 5 (some (t, 13))) 6 (some (t, 14))) = gzR0 t 7 := by funext k; rcases k with _ | _ | _ | _ | _ | _ | _ | k <;> rfl
  have e2 : gzLi (List.set (List.replicate 8 0) 7 0) = gzI0 t 7 := by funext k; rcases k with _ | _ | _ | _ | _ | _ | _ | _ | k <;> rfl
  rw [e1, e2]
  exact gz_vret (pc := 65) dX1_init_65 rfl ⟨rfl, rfl⟩
theorem k_X4 {t : Nat} (ht : t < 15) (hI : ∀ o, o ∈ [16] → I t o = fun _ => 0) : gzC g 0 d mX4_init [.inr (.inr (t, 15))] (gzPos t 0 + 16, gz_uwr R t 15 (fun _ => none), gz_uw I t 15 (fun _ => 0), J) (gzE (.ok none) (gzPos t 0 + 17, gz_uwr R t 15 (gzR0 t 15), gz_uw I t 15 (gzI0 t 15), J)) := by
  refine gzC_of (by decide +kernel) (Nat.le_of_ble_eq_true rfl) (loc := [some (.inr (.inr (t, 15)))]) rfl ?_
  rw [← gz_n0 (m := 1), ← gz_z0 (m := 3)]
  have hg := gz_grpT t ht
  refine gz_aload_n (pc := 0) dX4_init_0 rfl ?_
  refine go_X4_3 (pc := 1) dX4_init_1 (by exact Nat.le_of_ble_eq_true rfl) rfl ?_
  refine gz_aload_n (pc := 4) dX4_init_4 rfl ?_
  refine gz_sipush (pc := 5) dX4_init_5 (v := 240) (by decide) ?_
  refine gz_newI (pc := 8) (t := t) (o := 16) (N := 240) (ty := .int) dX4_init_8 rfl (by have := hg.2; show gzPos t 0 + 16 < gzN; omega) ((hg.1 16 (by omega)).1) (by decide) rfl rfl rfl (Or.inl rfl) (by decide) (by decide) (by exact Nat.le_of_ble_eq_true rfl) gka_int.1 gka_int.2 ?_
  rw [gz_uw_same (t := t) (o := 16) (f := fun _ => 0) ((gz_uw_ne (by omega)).trans (hI 16 (by simp)))]
  refine gq_X4_9 (pc := 10) dX4_init_10 (gz_okT ht (by omega) (by show gzPos t 0 + 15 < gzPos t 0 + 17; omega)) rfl rfl ?_
  rw [gz_urL (by exact Nat.le_of_ble_eq_true rfl)]
  refine gz_aload_n (pc := 13) dX4_init_13 rfl ?_
  refine gz_iconst (pc := 14) dX4_init_14 (v := 0) (by decide) ?_
  refine gp_X4_15 (pc := 15) dX4_init_15 (gz_okT ht (by omega) (by show gzPos t 0 + 15 < gzPos t 0 + 17; omega)) rfl ?_
  rw [gz_uiL (by exact Nat.le_of_ble_eq_true rfl)]
  refine gz_aload_n (pc := 18) dX4_init_18 rfl ?_
  refine gz_iconst (pc := 19) dX4_init_19 (v := 0) (by decide) ?_
  refine gp_X4_19 (pc := 20) dX4_init_20 (gz_okT ht (by omega) (by show gzPos t 0 + 15 < gzPos t 0 + 17; omega)) rfl ?_
  rw [gz_uiL (by exact Nat.le_of_ble_eq_true rfl)]
  have e1 : gzLr (List.set (List.replicate 1 none) 0 (some (t, 16))) = gzR0 t 15 := by funext k; rcases k with _ | k <;> rfl
  have e2 : gzLi (List.set (List.set (List.replicate 3 0) 1 0) 2 0) = gzI0 t 15 := by funext k; rcases k with _ | _ | _ | k <;> rfl
  rw [e1, e2]
  exact gz_vret (pc := 23) dX4_init_23 rfl ⟨rfl, rfl⟩
theorem k_X2 {t : Nat} (ht : t < 3) (hI : ∀ o, o ∈ [21, 22, 23, 24, 25, 26, 27] → I t o = fun _ => 0) : gzC g 0 d mX2_init [.inr (.inr (t, 20))] (gzPos t 20 + 1, gz_uwr R t 20 (fun _ => none), gz_uw I t 20 (fun _ => 0), J) (gzE (.ok none) (gzPos t 20 + 8, gz_uwr R t 20 (gzR0 t 20), gz_uw I t 20 (gzI0 t 20), J)) := by
  refine gzC_of (by decide +kernel) (Nat.le_of_ble_eq_true rfl) (loc := [some (.inr (.inr (t, 20)))]) rfl ?_
  rw [← gz_n0 (m := 7), ← gz_z0 (m := 9)]
  have hg := gz_grpL t ht
  refine gz_aload_n (pc := 0) dX2_init_0 rfl ?_
  refine go_X2_3 (pc := 1) dX2_init_1 (by exact Nat.le_of_ble_eq_true rfl) rfl ?_
  refine gz_aload_n (pc := 4) dX2_init_4 rfl ?_
  refine gz_bipush (pc := 5) dX2_init_5 (v := 12) (by decide) ?_
  refine gz_newI (pc := 7) (t := t) (o := 21) (N := 12) (ty := .int) dX2_init_7 rfl (by have := hg.2; show gzPos t 20 + 1 < gzN; omega) ((hg.1 1 (by omega)).1) (by decide) rfl rfl rfl (Or.inl rfl) (by decide) (by decide) (by exact Nat.le_of_ble_eq_true rfl) gka_int.1 gka_int.2 ?_
  rw [gz_uw_same (t := t) (o := 21) (f := fun _ => 0) ((gz_uw_ne (by omega)).trans (hI 21 (by simp)))]
  refine gq_X2_9 (pc := 9) dX2_init_9 (gz_okL (o := 0) ht (by omega) (by show gzPos t 20 + 0 < gzPos t 20 + 2; omega)) rfl rfl ?_
  rw [gz_urL (by exact Nat.le_of_ble_eq_true rfl)]
  refine gz_aload_n (pc := 12) dX2_init_12 rfl ?_
  refine gz_bipush (pc := 13) dX2_init_13 (v := 12) (by decide) ?_
  refine gz_newI (pc := 15) (t := t) (o := 22) (N := 12) (ty := .int) dX2_init_15 rfl (by have := hg.2; show gzPos t 20 + 2 < gzN; omega) ((hg.1 2 (by omega)).1) (by decide) rfl rfl rfl (Or.inl rfl) (by decide) (by decide) (by exact Nat.le_of_ble_eq_true rfl) gka_int.1 gka_int.2 ?_
  rw [gz_uw_same (t := t) (o := 22) (f := fun _ => 0) ((gz_uw_ne (by omega)).trans (hI 22 (by simp)))]
  refine gq_X2_15 (pc := 17) dX2_init_17 (gz_okL (o := 0) ht (by omega) (by show gzPos t 20 + 0 < gzPos t 20 + 3; omega)) rfl rfl ?_
  rw [gz_urL (by exact Nat.le_of_ble_eq_true rfl)]
  refine gz_aload_n (pc := 20) dX2_init_20 rfl ?_
  refine gz_bipush (pc := 21) dX2_init_21 (v := 12) (by decide) ?_
  refine gz_newI (pc := 23) (t := t) (o := 23) (N := 12) (ty := .int) dX2_init_23 rfl (by have := hg.2; show gzPos t 20 + 3 < gzN; omega) ((hg.1 3 (by omega)).1) (by decide) rfl rfl rfl (Or.inl rfl) (by decide) (by decide) (by exact Nat.le_of_ble_eq_true rfl) gka_int.1 gka_int.2 ?_
  rw [gz_uw_same (t := t) (o := 23) (f := fun _ => 0) ((gz_uw_ne (by omega)).trans (hI 23 (by simp)))]
  refine gq_X2_18 (pc := 25) dX2_init_25 (gz_okL (o := 0) ht (by omega) (by show gzPos t 20 + 0 < gzPos t 20 + 4; omega)) rfl rfl ?_
  rw [gz_urL (by exact Nat.le_of_ble_eq_true rfl)]
  refine gz_aload_n (pc := 28) dX2_init_28 rfl ?_
  refine gz_bipush (pc := 29) dX2_init_29 (v := 12) (by decide) ?_
  refine gz_newI (pc := 31) (t := t) (o := 24) (N := 12) (ty := .int) dX2_init_31 rfl (by have := hg.2; show gzPos t 20 + 4 < gzN; omega) ((hg.1 4 (by omega)).1) (by decide) rfl rfl rfl (Or.inl rfl) (by decide) (by decide) (by exact Nat.le_of_ble_eq_true rfl) gka_int.1 gka_int.2 ?_
  rw [gz_uw_same (t := t) (o := 24) (f := fun _ => 0) ((gz_uw_ne (by omega)).trans (hI 24 (by simp)))]
  refine gq_X2_21 (pc := 33) dX2_init_33 (gz_okL (o := 0) ht (by omega) (by show gzPos t 20 + 0 < gzPos t 20 + 5; omega)) rfl rfl ?_
  rw [gz_urL (by exact Nat.le_of_ble_eq_true rfl)]
  refine gz_aload_n (pc := 36) dX2_init_36 rfl ?_
  refine gz_sipush (pc := 37) dX2_init_37 (v := 400) (by decide) ?_
  refine gz_newI (pc := 40) (t := t) (o := 25) (N := 400) (ty := .int) dX2_init_40 rfl (by have := hg.2; show gzPos t 20 + 5 < gzN; omega) ((hg.1 5 (by omega)).1) (by decide) rfl rfl rfl (Or.inl rfl) (by decide) (by decide) (by exact Nat.le_of_ble_eq_true rfl) gka_int.1 gka_int.2 ?_
  rw [gz_uw_same (t := t) (o := 25) (f := fun _ => 0) ((gz_uw_ne (by omega)).trans (hI 25 (by simp)))]
  refine gq_X2_24 (pc := 42) dX2_init_42 (gz_okL (o := 0) ht (by omega) (by show gzPos t 20 + 0 < gzPos t 20 + 6; omega)) rfl rfl ?_
  rw [gz_urL (by exact Nat.le_of_ble_eq_true rfl)]
  refine gz_aload_n (pc := 45) dX2_init_45 rfl ?_
  refine gz_bipush (pc := 46) dX2_init_46 (v := 11) (by decide) ?_
  refine gz_newI (pc := 48) (t := t) (o := 26) (N := 11) (ty := .int) dX2_init_48 rfl (by have := hg.2; show gzPos t 20 + 6 < gzN; omega) ((hg.1 6 (by omega)).1) (by decide) rfl rfl rfl (Or.inl rfl) (by decide) (by decide) (by exact Nat.le_of_ble_eq_true rfl) gka_int.1 gka_int.2 ?_
  rw [gz_uw_same (t := t) (o := 26) (f := fun _ => 0) ((gz_uw_ne (by omega)).trans (hI 26 (by simp)))]
  refine gq_X2_27 (pc := 50) dX2_init_50 (gz_okL (o := 0) ht (by omega) (by show gzPos t 20 + 0 < gzPos t 20 + 7; omega)) rfl rfl ?_
  rw [gz_urL (by exact Nat.le_of_ble_eq_true rfl)]
  refine gz_aload_n (pc := 53) dX2_init_53 rfl ?_
  refine gz_bipush (pc := 54) dX2_init_54 (v := 32) (by decide) ?_
  refine gz_newI (pc := 56) (t := t) (o := 27) (N := 32) (ty := .int) dX2_init_56 rfl (by have := hg.2; show gzPos t 20 + 7 < gzN; omega) ((hg.1 7 (by omega)).1) (by decide) rfl rfl rfl (Or.inl rfl) (by decide) (by decide) (by exact Nat.le_of_ble_eq_true rfl) gka_int.1 gka_int.2 ?_
  rw [gz_uw_same (t := t) (o := 27) (f := fun _ => 0) ((gz_uw_ne (by omega)).trans (hI 27 (by simp)))]
  refine gq_X2_30 (pc := 58) dX2_init_58 (gz_okL (o := 0) ht (by omega) (by show gzPos t 20 + 0 < gzPos t 20 + 8; omega)) rfl rfl ?_
  rw [gz_urL (by exact Nat.le_of_ble_eq_true rfl)]
  refine gz_aload_n (pc := 61) dX2_init_61 rfl ?_
  refine gz_iconst (pc := 62) dX2_init_62 (v := (-1)) (by decide) ?_
  refine gp_X2_33 (pc := 63) dX2_init_63 (gz_okL (o := 0) ht (by omega) (by show gzPos t 20 + 0 < gzPos t 20 + 8; omega)) rfl ?_
  rw [gz_uiL (by exact Nat.le_of_ble_eq_true rfl)]
  refine gz_aload_n (pc := 66) dX2_init_66 rfl ?_
  refine gz_iconst (pc := 67) dX2_init_67 (v := 0) (by decide) ?_
  refine gp_X2_37 (pc := 68) dX2_init_68 (gz_okL (o := 0) ht (by omega) (by show gzPos t 20 + 0 < gzPos t 20 + 8; omega)) rfl ?_
  rw [gz_uiL (by exact Nat.le_of_ble_eq_true rfl)]
  have e1 : gzLr (List.set (List.set (List.set (List.set (List.set (List.set (List.set (List.replicate 7 none) 0 (some (t, 21))) 1 (some (t, 22))) 2 (some (t, 23))) 3 (some (t, 24))) 4 (some (t, 25))) 5 (some (t, 26))) 6 (some (t, 27))) = gzR0 t 20 := by funext k; rcases k with _ | _ | _ | _ | _ | _ | _ | k <;> rfl
  have e2 : gzLi (List.set (List.set (List.replicate 9 0) 7 (-1)) 8 0) = gzI0 t 20 := by funext k; rcases k with _ | _ | _ | _ | _ | _ | _ | _ | _ | k <;> rfl
  rw [e1, e2]
  exact gz_vret (pc := 71) dX2_init_71 rfl ⟨rfl, rfl⟩
theorem k_X6 (hI : ∀ o, o ∈ [32] → I 0 o = fun _ => 0) : gzC g 0 d mX6_init [.inr (.inr (0, 31))] (2, gz_uwr R 0 31 (fun _ => none), gz_uw I 0 31 (fun _ => 0), J) (gzE (.ok none) (3, gz_uwr R 0 31 (gzR0 0 31), gz_uw I 0 31 (gzI0 0 31), J)) := by
  refine gzC_of (by decide +kernel) (Nat.le_of_ble_eq_true rfl) (loc := [some (.inr (.inr (0, 31)))]) rfl ?_
  rw [← gz_n0 (m := 1), ← gz_z0 (m := 2)]
  refine gz_aload_n (pc := 0) dX6_init_0 rfl ?_
  refine go_X6_3 (pc := 1) dX6_init_1 (by exact Nat.le_of_ble_eq_true rfl) rfl ?_
  refine gz_aload_n (pc := 4) dX6_init_4 rfl ?_
  refine gz_sipush (pc := 5) dX6_init_5 (v := 400) (by decide) ?_
  refine gz_newI (pc := 8) (t := 0) (o := 32) (N := 400) (ty := .int) dX6_init_8 rfl (by decide +kernel) (by decide +kernel) (by decide) rfl rfl rfl (Or.inl rfl) (by decide) (by decide) (by exact Nat.le_of_ble_eq_true rfl) gka_int.1 gka_int.2 ?_
  rw [gz_uw_same (t := 0) (o := 32) (f := fun _ => 0) ((gz_uw_ne (by omega)).trans (hI 32 (by simp)))]
  refine gq_X6_9 (pc := 10) dX6_init_10 (gz_okS (by omega) (by omega) (by show gzPos 0 31 < 3; decide +kernel)) rfl rfl ?_
  rw [gz_urL (by exact Nat.le_of_ble_eq_true rfl)]
  refine gz_aload_n (pc := 13) dX6_init_13 rfl ?_
  refine gz_iconst (pc := 14) dX6_init_14 (v := 0) (by decide) ?_
  refine gp_X6_15 (pc := 15) dX6_init_15 (gz_okS (by omega) (by omega) (by show gzPos 0 31 < 3; decide +kernel)) rfl ?_
  rw [gz_uiL (by exact Nat.le_of_ble_eq_true rfl)]
  have e1 : gzLr (List.set (List.replicate 1 none) 0 (some (0, 32))) = gzR0 0 31 := by funext k; rcases k with _ | k <;> rfl
  have e2 : gzLi (List.set (List.replicate 2 0) 1 0) = gzI0 0 31 := by funext k; rcases k with _ | _ | k <;> rfl
  rw [e1, e2]
  exact gz_vret (pc := 18) dX6_init_18 rfl ⟨rfl, rfl⟩
theorem k_X7 (hI : ∀ o, o ∈ [34, 35, 36] → I 0 o = fun _ => 0) : gzC g 0 d mX7_init [.inr (.inr (0, 33))] (4, gz_uwr R 0 33 (fun _ => none), gz_uw I 0 33 (fun _ => 0), J) (gzE (.ok none) (7, gz_uwr R 0 33 (gzR0 0 33), gz_uw I 0 33 (gzI0 0 33), J)) := by
  refine gzC_of (by decide +kernel) (Nat.le_of_ble_eq_true rfl) (loc := [some (.inr (.inr (0, 33)))]) rfl ?_
  rw [← gz_n0 (m := 3), ← gz_z0 (m := 8)]
  refine gz_aload_n (pc := 0) dX7_init_0 rfl ?_
  refine go_X7_3 (pc := 1) dX7_init_1 (by exact Nat.le_of_ble_eq_true rfl) rfl ?_
  refine gz_aload_n (pc := 4) dX7_init_4 rfl ?_
  refine gz_sipush (pc := 5) dX7_init_5 (v := 401) (by decide) ?_
  refine gz_newI (pc := 8) (t := 0) (o := 34) (N := 401) (ty := .int) dX7_init_8 rfl (by decide +kernel) (by decide +kernel) (by decide) rfl rfl rfl (Or.inl rfl) (by decide) (by decide) (by exact Nat.le_of_ble_eq_true rfl) gka_int.1 gka_int.2 ?_
  rw [gz_uw_same (t := 0) (o := 34) (f := fun _ => 0) ((gz_uw_ne (by omega)).trans (hI 34 (by simp)))]
  refine gq_X7_9 (pc := 10) dX7_init_10 (gz_okS (by omega) (by omega) (by show gzPos 0 33 < 5; decide +kernel)) rfl rfl ?_
  rw [gz_urL (by exact Nat.le_of_ble_eq_true rfl)]
  refine gz_aload_n (pc := 13) dX7_init_13 rfl ?_
  refine gz_sipush (pc := 14) dX7_init_14 (v := 401) (by decide) ?_
  refine gz_newI (pc := 17) (t := 0) (o := 35) (N := 401) (ty := .int) dX7_init_17 rfl (by decide +kernel) (by decide +kernel) (by decide) rfl rfl rfl (Or.inl rfl) (by decide) (by decide) (by exact Nat.le_of_ble_eq_true rfl) gka_int.1 gka_int.2 ?_
  rw [gz_uw_same (t := 0) (o := 35) (f := fun _ => 0) ((gz_uw_ne (by omega)).trans (hI 35 (by simp)))]
  refine gq_X7_15 (pc := 19) dX7_init_19 (gz_okS (by omega) (by omega) (by show gzPos 0 33 < 6; decide +kernel)) rfl rfl ?_
  rw [gz_urL (by exact Nat.le_of_ble_eq_true rfl)]
  refine gz_aload_n (pc := 22) dX7_init_22 rfl ?_
  refine gz_sipush (pc := 23) dX7_init_23 (v := 401) (by decide) ?_
  refine gz_newI (pc := 26) (t := 0) (o := 36) (N := 401) (ty := .int) dX7_init_26 rfl (by decide +kernel) (by decide +kernel) (by decide) rfl rfl rfl (Or.inl rfl) (by decide) (by decide) (by exact Nat.le_of_ble_eq_true rfl) gka_int.1 gka_int.2 ?_
  rw [gz_uw_same (t := 0) (o := 36) (f := fun _ => 0) ((gz_uw_ne (by omega)).trans (hI 36 (by simp)))]
  refine gq_X7_18 (pc := 28) dX7_init_28 (gz_okS (by omega) (by omega) (by show gzPos 0 33 < 7; decide +kernel)) rfl rfl ?_
  rw [gz_urL (by exact Nat.le_of_ble_eq_true rfl)]
  refine gz_aload_n (pc := 31) dX7_init_31 rfl ?_
  refine gz_iconst (pc := 32) dX7_init_32 (v := 0) (by decide) ?_
  refine gp_X7_21 (pc := 33) dX7_init_33 (gz_okS (by omega) (by omega) (by show gzPos 0 33 < 7; decide +kernel)) rfl ?_
  rw [gz_uiL (by exact Nat.le_of_ble_eq_true rfl)]
  refine gz_aload_n (pc := 36) dX7_init_36 rfl ?_
  refine gz_iconst (pc := 37) dX7_init_37 (v := 0) (by decide) ?_
  refine gp_X7_25 (pc := 38) dX7_init_38 (gz_okS (by omega) (by omega) (by show gzPos 0 33 < 7; decide +kernel)) rfl ?_
  rw [gz_uiL (by exact Nat.le_of_ble_eq_true rfl)]
  refine gz_aload_n (pc := 41) dX7_init_41 rfl ?_
  refine gz_bipush (pc := 42) dX7_init_42 (v := (-3)) (by decide) ?_
  refine gp_X7_28 (pc := 44) dX7_init_44 (gz_okS (by omega) (by omega) (by show gzPos 0 33 < 7; decide +kernel)) rfl ?_
  rw [gz_uiL (by exact Nat.le_of_ble_eq_true rfl)]
  refine gz_aload_n (pc := 47) dX7_init_47 rfl ?_
  refine gz_iconst (pc := 48) dX7_init_48 (v := 0) (by decide) ?_
  refine gp_X7_31 (pc := 49) dX7_init_49 (gz_okS (by omega) (by omega) (by show gzPos 0 33 < 7; decide +kernel)) rfl ?_
  rw [gz_uiL (by exact Nat.le_of_ble_eq_true rfl)]
  refine gz_aload_n (pc := 52) dX7_init_52 rfl ?_
  refine gz_iconst (pc := 53) dX7_init_53 (v := (-1)) (by decide) ?_
  refine gp_X7_34 (pc := 54) dX7_init_54 (gz_okS (by omega) (by omega) (by show gzPos 0 33 < 7; decide +kernel)) rfl ?_
  rw [gz_uiL (by exact Nat.le_of_ble_eq_true rfl)]
  have e1 : gzLr (List.set (List.set (List.set (List.replicate 3 none) 0 (some (0, 34))) 1 (some (0, 35))) 2 (some (0, 36))) = gzR0 0 33 := by funext k; rcases k with _ | _ | _ | k <;> rfl
  have e2 : gzLi (List.set (List.set (List.set (List.set (List.set (List.replicate 8 0) 3 0) 4 0) 5 (-3)) 6 0) 7 (-1)) = gzI0 0 33 := by funext k; rcases k with _ | _ | _ | _ | _ | _ | _ | _ | k <;> rfl
  rw [e1, e2]
  exact gz_vret (pc := 57) dX7_init_57 rfl ⟨rfl, rfl⟩
theorem k_X9 : gzC g 0 d mX9_init [.inr (.inr (0, 37)), .inr (.inr (0, 33))] (8, gz_uwr R 0 37 (fun _ => none), gz_uw I 0 37 (fun _ => 0), J) (gzE (.ok none) (8, gz_uwr R 0 37 (gzR0 0 37), gz_uw I 0 37 (gzI0 0 37), J)) := by
  refine gzC_of (by decide +kernel) (Nat.le_of_ble_eq_true rfl) (loc := [some (.inr (.inr (0, 37))), some (.inr (.inr (0, 33)))]) rfl ?_
  rw [← gz_n0 (m := 1), ← gz_z0 (m := 1)]
  refine gz_aload_n (pc := 0) dX9_init_0 rfl ?_
  refine go_X9_3 (pc := 1) dX9_init_1 (by exact Nat.le_of_ble_eq_true rfl) rfl ?_
  refine gz_aload_n (pc := 4) dX9_init_4 rfl ?_
  refine gz_aload_n (pc := 5) dX9_init_5 rfl ?_
  refine gq_X9_9 (pc := 6) dX9_init_6 (gz_okS (by omega) (by omega) (by show gzPos 0 37 < 8; decide +kernel)) rfl rfl ?_
  rw [gz_urL (by exact Nat.le_of_ble_eq_true rfl)]
  have e1 : gzLr (List.set (List.replicate 1 none) 0 (some (0, 33))) = gzR0 0 37 := by funext k; rcases k with _ | k <;> rfl
  have e2 : gzLi (List.replicate 1 0) = gzI0 0 37 := by funext k; rcases k with _ | k <;> rfl
  rw [e1, e2]
  exact gz_vret (pc := 9) dX9_init_9 rfl ⟨rfl, rfl⟩
theorem k_X3 : gzC g 0 d mX3_init [.inr (.inr (0, 38)), .inr (.inr (0, 33))] (9, gz_uwr R 0 38 (fun _ => none), gz_uw I 0 38 (fun _ => 0), J) (gzE (.ok none) (9, gz_uwr R 0 38 (gzR0 0 38), gz_uw I 0 38 (gzI0 0 38), J)) := by
  refine gzC_of (by decide +kernel) (Nat.le_of_ble_eq_true rfl) (loc := [some (.inr (.inr (0, 38))), some (.inr (.inr (0, 33)))]) rfl ?_
  rw [← gz_n0 (m := 1), ← gz_z0 (m := 1)]
  refine gz_aload_n (pc := 0) dX3_init_0 rfl ?_
  refine go_X3_3 (pc := 1) dX3_init_1 (by exact Nat.le_of_ble_eq_true rfl) rfl ?_
  refine gz_aload_n (pc := 4) dX3_init_4 rfl ?_
  refine gz_aload_n (pc := 5) dX3_init_5 rfl ?_
  refine gq_X3_9 (pc := 6) dX3_init_6 (gz_okS (by omega) (by omega) (by show gzPos 0 38 < 9; decide +kernel)) rfl rfl ?_
  rw [gz_urL (by exact Nat.le_of_ble_eq_true rfl)]
  have e1 : gzLr (List.set (List.replicate 1 none) 0 (some (0, 33))) = gzR0 0 38 := by funext k; rcases k with _ | k <;> rfl
  have e2 : gzLi (List.replicate 1 0) = gzI0 0 38 := by funext k; rcases k with _ | k <;> rfl
  rw [e1, e2]
  exact gz_vret (pc := 9) dX3_init_9 rfl ⟨rfl, rfl⟩
theorem k_X10 (hI : ∀ o, o ∈ [42, 43, 44, 45, 46] → I 0 o = fun _ => 0) : gzC g 0 d mX10_init [.inr (.inr (0, 41))] (308, gz_uwr R 0 41 (fun _ => none), gz_uw I 0 41 (fun _ => 0), J) (gzE (.ok none) (313, gz_uwr R 0 41 (gzR0 0 41), gz_uw I 0 41 (gzI0 0 41), J)) := by
  refine gzC_of (by decide +kernel) (Nat.le_of_ble_eq_true rfl) (loc := [some (.inr (.inr (0, 41)))]) rfl ?_
  rw [← gz_n0 (m := 5), ← gz_z0 (m := 7)]
  refine gz_aload_n (pc := 0) dX10_init_0 rfl ?_
  refine go_X10_3 (pc := 1) dX10_init_1 (by exact Nat.le_of_ble_eq_true rfl) rfl ?_
  refine gz_aload_n (pc := 4) dX10_init_4 rfl ?_
  refine gz_bipush (pc := 5) dX10_init_5 (v := 6) (by decide) ?_
  refine gz_newI (pc := 7) (t := 0) (o := 42) (N := 6) (ty := .int) dX10_init_7 rfl (by decide +kernel) (by decide +kernel) (by decide) rfl rfl rfl (Or.inl rfl) (by decide) (by decide) (by exact Nat.le_of_ble_eq_true rfl) gka_int.1 gka_int.2 ?_
  rw [gz_uw_same (t := 0) (o := 42) (f := fun _ => 0) ((gz_uw_ne (by omega)).trans (hI 42 (by simp)))]
  refine gq_X10_9 (pc := 9) dX10_init_9 (gz_okS (by omega) (by omega) (by show gzPos 0 41 < 309; decide +kernel)) rfl rfl ?_
  rw [gz_urL (by exact Nat.le_of_ble_eq_true rfl)]
  refine gz_aload_n (pc := 12) dX10_init_12 rfl ?_
  refine gz_bipush (pc := 13) dX10_init_13 (v := 6) (by decide) ?_
  refine gz_newI (pc := 15) (t := 0) (o := 43) (N := 6) (ty := .int) dX10_init_15 rfl (by decide +kernel) (by decide +kernel) (by decide) rfl rfl rfl (Or.inl rfl) (by decide) (by decide) (by exact Nat.le_of_ble_eq_true rfl) gka_int.1 gka_int.2 ?_
  rw [gz_uw_same (t := 0) (o := 43) (f := fun _ => 0) ((gz_uw_ne (by omega)).trans (hI 43 (by simp)))]
  refine gq_X10_15 (pc := 17) dX10_init_17 (gz_okS (by omega) (by omega) (by show gzPos 0 41 < 310; decide +kernel)) rfl rfl ?_
  rw [gz_urL (by exact Nat.le_of_ble_eq_true rfl)]
  refine gz_aload_n (pc := 20) dX10_init_20 rfl ?_
  refine gz_bipush (pc := 21) dX10_init_21 (v := 6) (by decide) ?_
  refine gz_newI (pc := 23) (t := 0) (o := 44) (N := 6) (ty := .int) dX10_init_23 rfl (by decide +kernel) (by decide +kernel) (by decide) rfl rfl rfl (Or.inl rfl) (by decide) (by decide) (by exact Nat.le_of_ble_eq_true rfl) gka_int.1 gka_int.2 ?_
  rw [gz_uw_same (t := 0) (o := 44) (f := fun _ => 0) ((gz_uw_ne (by omega)).trans (hI 44 (by simp)))]
  refine gq_X10_18 (pc := 25) dX10_init_25 (gz_okS (by omega) (by omega) (by show gzPos 0 41 < 311; decide +kernel)) rfl rfl ?_
  rw [gz_urL (by exact Nat.le_of_ble_eq_true rfl)]
  refine gz_aload_n (pc := 28) dX10_init_28 rfl ?_
  refine gz_bipush (pc := 29) dX10_init_29 (v := 6) (by decide) ?_
  refine gz_newI (pc := 31) (t := 0) (o := 45) (N := 6) (ty := .int) dX10_init_31 rfl (by decide +kernel) (by decide +kernel) (by decide) rfl rfl rfl (Or.inl rfl) (by decide) (by decide) (by exact Nat.le_of_ble_eq_true rfl) gka_int.1 gka_int.2 ?_
  rw [gz_uw_same (t := 0) (o := 45) (f := fun _ => 0) ((gz_uw_ne (by omega)).trans (hI 45 (by simp)))]
  refine gq_X10_21 (pc := 33) dX10_init_33 (gz_okS (by omega) (by omega) (by show gzPos 0 41 < 312; decide +kernel)) rfl rfl ?_
  rw [gz_urL (by exact Nat.le_of_ble_eq_true rfl)]
  refine gz_aload_n (pc := 36) dX10_init_36 rfl ?_
  refine gz_bipush (pc := 37) dX10_init_37 (v := 10) (by decide) ?_
  refine gz_newI (pc := 39) (t := 0) (o := 46) (N := 10) (ty := .int) dX10_init_39 rfl (by decide +kernel) (by decide +kernel) (by decide) rfl rfl rfl (Or.inl rfl) (by decide) (by decide) (by exact Nat.le_of_ble_eq_true rfl) gka_int.1 gka_int.2 ?_
  rw [gz_uw_same (t := 0) (o := 46) (f := fun _ => 0) ((gz_uw_ne (by omega)).trans (hI 46 (by simp)))]
  refine gq_X10_24 (pc := 41) dX10_init_41 (gz_okS (by omega) (by omega) (by show gzPos 0 41 < 313; decide +kernel)) rfl rfl ?_
  rw [gz_urL (by exact Nat.le_of_ble_eq_true rfl)]
  refine gz_aload_n (pc := 44) dX10_init_44 rfl ?_
  refine gz_iconst (pc := 45) dX10_init_45 (v := 0) (by decide) ?_
  refine gp_X10_27 (pc := 46) dX10_init_46 (gz_okS (by omega) (by omega) (by show gzPos 0 41 < 313; decide +kernel)) rfl ?_
  rw [gz_uiL (by exact Nat.le_of_ble_eq_true rfl)]
  refine gz_aload_n (pc := 49) dX10_init_49 rfl ?_
  refine gz_iconst (pc := 50) dX10_init_50 (v := 0) (by decide) ?_
  refine gp_X10_31 (pc := 51) dX10_init_51 (gz_okS (by omega) (by omega) (by show gzPos 0 41 < 313; decide +kernel)) rfl ?_
  rw [gz_uiL (by exact Nat.le_of_ble_eq_true rfl)]
  have e1 : gzLr (List.set (List.set (List.set (List.set (List.set (List.replicate 5 none) 0 (some (0, 42))) 1 (some (0, 43))) 2 (some (0, 44))) 3 (some (0, 45))) 4 (some (0, 46))) = gzR0 0 41 := by funext k; rcases k with _ | _ | _ | _ | _ | k <;> rfl
  have e2 : gzLi (List.set (List.set (List.replicate 7 0) 5 0) 6 0) = gzI0 0 41 := by funext k; rcases k with _ | _ | _ | _ | _ | _ | _ | k <;> rfl
  rw [e1, e2]
  exact gz_vret (pc := 54) dX10_init_54 rfl ⟨rfl, rfl⟩
end
