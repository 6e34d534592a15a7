/-! rows of gzX that make cells, copy rows, or call the machine's own Math -/
theorem gz_ub {p : Program} {l : Launch} {e : Env} {R : Room} {s : State} {m : MethodId} {args : Array Value} {below : List Frame} {meth : Method} {c : Code} {H : Heap} {locs : List Loc} {cells slots : Nat} {Q : State → Prop} {f : JFrame} (h : H.size ≤ s.heap.size + cells → W p l e R s m args below meth c H locs cells slots Q f) : W p l e R s m args below meth c H locs cells slots Q f := fun T hT X => h (by rw [← hT]; exact X.heapSize) T hT X
theorem gz_lb {p : Program} {l : Launch} {e : Env} {R : Room} {s : State} {m : MethodId} {args : Array Value} {below : List Frame} {meth : Method} {c : Code} {H : Heap} {locs : List Loc} {cells slots : Nat} {Q : State → Prop} {f : JFrame} (h : s.heap.size ≤ H.size → W p l e R s m args below meth c H locs cells slots Q f) : W p l e R s m args below meth c H locs cells slots Q f := fun T hT X => h (by rw [← hT]; exact X.same.2.1) T hT X
theorem gz_U1 {n : Nat} (h : n < gzN) : gzU (n + 1) = gzU n + gzSz (gzIdAt n).2 := by
  unfold gzU
  have hl : gzIds.length = gzN := by decide +kernel
  rw [List.take_add_one]
  have : gzIds[n]? = some (gzIdAt n) := by
    unfold gzIdAt
    rw [List.getD_eq_getElem?_getD, List.getElem?_eq_getElem (by omega)]
    rfl
  rw [this]
  simp
theorem gz_Um {a b : Nat} (h : a ≤ b) : gzU a ≤ gzU b := by
  unfold gzU
  obtain ⟨k, rfl⟩ := Nat.le.dest h
  rw [List.take_add, List.map_append, List.sum_append]
  omega
theorem gz_Ule {n : Nat} (h : n ≤ gzN) : gzU n ≤ gzM := by rw [← gz_Uall]; exact gz_Um h
theorem gz_ws_push {g : gzG} {S S' : gzS} {t o : Nat} (hn : S.1 < gzN) (hid : gzIdAt S.1 = (t, o)) (h1 : S'.1 = S.1 + 1) (hc : ∀ t' o', ¬ (t' = t ∧ o' = o) → gz_cell g S' t' o' = gz_cell g S t' o') : gz_ws g S ++ [(gz_b g + S.1, gz_cell g S' t o)] = gz_ws g S' := by
  unfold gz_ws
  rw [h1, List.range_succ, List.map_append, List.map_singleton, hid]
  congr 1
  apply List.map_congr_left
  intro j hj
  have hj' : j < S.1 := List.mem_range.mp hj
  rw [hc]
  rintro ⟨a, b⟩
  have e1 := gz_idpos j (by omega)
  have e2 := gz_idpos S.1 hn
  rw [hid] at e2
  rw [a, b] at e1
  have e3 : gzPos t o = S.1 := e2
  omega
/-- where a new cell of a world is -/
theorem gz_newAt {g : gzG} {S : gzS} {q : Nat} {x : va_E} {H1 : Heap} (hP : va_P g.2.2.2.1 vwCl (gz_ws g S ++ [(q, x)]) H1) (hD : va_D (gzA g) (gz_ws g S ++ [(q, x)])) (hub : H1.size ≤ gz_b g + S.1 + 1) : q = gz_b g + S.1 := by
  have hlen : (gz_ws g S).length = S.1 := by simp [gz_ws]
  have hq : (gz_ws g S ++ [(q, x)])[S.1]? = some (q, x) := by rw [List.getElem?_append_right (by omega), hlen]; simp
  have h1 : q < H1.size := (hP _ _ hq).lt
  have h2 : gz_b g ≤ q := hD.2 _ _ hq
  by_cases h3 : q < gz_b g + S.1
  · exfalso
    have h4 : (gz_ws g S ++ [(q, x)])[q - gz_b g]? = some (gz_b g + (q - gz_b g), gz_cell g S (gzIdAt (q - gz_b g)).1 (gzIdAt (q - gz_b g)).2) := by
      rw [List.getElem?_append_left (by omega)]
      unfold gz_ws
      rw [List.getElem?_map, List.getElem?_range (by omega)]
      rfl
    have := hD.1 _ _ _ _ hq h4 (show q = gz_b g + (q - gz_b g) by omega)
    omega
  · omega
theorem gz_uw_ne {I : Nat → Nat → Nat → Int32} {t o t' o' : Nat} {f : Nat → Int32} (h : ¬ (t' = t ∧ o' = o)) : gz_uw I t o f t' o' = I t' o' := if_neg h
theorem gz_uw_eq {I : Nat → Nat → Nat → Int32} {t o : Nat} {f : Nat → Int32} : gz_uw I t o f t o = f := if_pos ⟨rfl, rfl⟩
theorem gz_uwr_ne {I : Nat → Nat → Nat → Option (Nat × Nat)} {t o t' o' : Nat} {f : Nat → Option (Nat × Nat)} (h : ¬ (t' = t ∧ o' = o)) : gz_uwr I t o f t' o' = I t' o' := if_neg h
theorem gz_uwr_eq {I : Nat → Nat → Nat → Option (Nat × Nat)} {t o : Nat} {f : Nat → Option (Nat × Nat)} : gz_uwr I t o f t o = f := if_pos ⟨rfl, rfl⟩
theorem gz_uwj_ne {I : Nat → Nat → Nat → Int64} {t o t' o' : Nat} {f : Nat → Int64} (h : ¬ (t' = t ∧ o' = o)) : gz_uwj I t o f t' o' = I t' o' := if_neg h
theorem gz_uwj_eq {I : Nat → Nat → Nat → Int64} {t o : Nat} {f : Nat → Int64} : gz_uwj I t o f t o = f := if_pos ⟨rfl, rfl⟩
section
variable {g : gzG} {zm d : Nat} {y : gzMe} {pc : Nat} {loc : List (Option gzV)} {st : List gzV} {z : Nat} {Q : gzO → gzS → Prop} {n : Nat} {Rf : Nat → Nat → Nat → Option (Nat × Nat)} {I : Nat → Nat → Nat → Int32} {J : Nat → Nat → Nat → Int64}
/-- the cell of a new object -/
theorem gz_fs_new {t o ci : Nat} {r : vw_C} (hc : vwCl[ci]? = some r) : ∀ j, j < r.2.2 → defaultValue (gzTyc ci j) = vp_V (gz_fs g (n + 1, gz_uwr Rf t o (fun _ => none), gz_uw I t o (fun _ => 0), J) t o (gzFk ci)) j := by
  intro j hj
  have hl : j < (gzFk ci).length := by rw [gz_flen hc]; exact hj
  have h2 : (gzFk ci)[j]? = some (gzFk ci)[j] := List.getElem?_eq_getElem hl
  have h3 : (gzFk ci).getD j false = (gzFk ci)[j] := by rw [List.getD_eq_getElem?_getD, h2]; rfl
  unfold vp_V
  rw [List.getD_eq_getElem?_getD, gz_fs_get h2]
  show _ = (if _ then va_rf (gz_rf g (gz_uwr Rf t o (fun _ => none) t o j)) else Value.int (gz_uw I t o (fun _ => 0) t o j))
  rw [gz_uwr_eq, gz_uw_eq]
  rcases gz_tyfl hc hj with ⟨⟨nm, h⟩, h4⟩ | ⟨⟨nm, h⟩, h4⟩ | ⟨h, h4⟩
  · rw [h, ← h3, h4]; rfl
  · rw [h, ← h3, h4]; rfl
  · rcases h with h | h <;> rw [h, ← h3, h4] <;> rfl
theorem gz_new {t o ci index : Nat} {r : vw_C} (hd : decode y.2.1 pc = .ok (.new index, 3)) (hz : z = 0) (hn : n < gzN) (hid : gzIdAt n = (t, o)) (ho2 : o < 60) (ho : gzKd o = .inl ci) (hsz : gzSz o = r.2.2) (hc : vwCl[ci]? = some r)
    (hw : Cond.classLink y.1.cls index r.1 ∈ lw_tbl) (hw2 : Cond.instantiable r.1 r.2.2 ∈ lw_tbl) (hw3 : Cond.initialized r.1 ∈ lw_tbl) (hg : goodWord (Cond.classLink y.1.cls index r.1) = true) (hg2 : goodWord (Cond.instantiable r.1 r.2.2) = true) (hg3 : goodWord (Cond.initialized r.1) = true)
    (kk : gzX g zm d y (pc + 3) loc (.inr (.inr (t, o)) :: st) (n + 1, gz_uwr Rf t o (fun _ => none), gz_uw I t o (fun _ => 0), J) z Q) : gzX g zm d y pc loc st (n, Rf, I, J) z Q := by
  intro S0 p e R s m args below meth c H locs ls C h1 h2 hW h4 hl
  subst hz
  have hU : gzU (n + 1) = gzU n + r.2.2 := by rw [gz_U1 hn, hid, hsz]
  have hUm : gzU S0.1 ≤ gzU n := gz_Um h1
  have hUl : gzU (n + 1) ≤ gzM := gz_Ule (by omega)
  have h1' : S0.1 ≤ n := h1
  have hRc := C.2.2.2.2.2.2.2.2.2.2.2.1
  have hRs := C.2.2.2.2.2.2.2.2.2.2.2.2.1
  refine va_new (C := r.1) (T := r.2.1) (N := r.2.2) (D := g.2.2.2.1) (ci := ci) (A := gzA g) (H0 := g.2.1.heap) (tys := gzTys g) C.1 C.2.1 (gz_cxL C hc args) (fun w h => h) (gzTyc ci) (gz_tyok ci r hc).1 C.2.2.2.2.1 (gz_cxw C hw hg args) (gz_cxw C hw2 hg2 args) (gz_cxw C hw3 hg3 args) (gz_cxK C) hW.1 (gz_D g _) (gz_wdS hW h4) (fun q h => h) hc (gz_fs_new (g := g) (n := n) (Rf := Rf) (I := I) (J := J) (t := t) (o := o) hc) ?_ ?_ hd (fun q H1 hP hD hS => ?_)
  · show n - S0.1 + 0 + 1 ≤ _; omega
  · show gzU n - gzU S0.1 + 6 * 0 + r.2.2 ≤ _; omega
  refine gz_ub (fun hub => ?_)
  have hss := C.2.2.2.2.2.2.2.2.2.2.2.2.2.2.2 (by omega)
  have hub' : H1.size ≤ gz_b g + n + 1 := by
    have : H1.size ≤ s.heap.size + (n - S0.1 + 0 + 1) := hub
    omega
  have hqe : q = gz_b g + n := gz_newAt (S := (n, Rf, I, J)) hP hD hub'
  subst hqe
  rw [← gz_cell_o (S := (n + 1, gz_uwr Rf t o (fun _ => none), gz_uw I t o (fun _ => 0), J)) ho, gz_ws_push (S := (n, Rf, I, J)) (S' := (n + 1, gz_uwr Rf t o (fun _ => none), gz_uw I t o (fun _ => 0), J)) hn hid rfl (fun t' o' h => gz_cell_congr (gz_uwr_ne h) (gz_uw_ne h) rfl)] at hP
  have had : gz_ad g t o = gz_b g + n := by
    rw [gz_ad, if_neg (by omega)]
    have := gz_idpos n hn
    rw [hid] at this
    rw [show gzPos t o = n from this]
  have k2 := kk S0 p e R s m args below meth c H1 locs ls C (by show S0.1 ≤ n + 1; omega) h2 (gz_wdOf hP hS (by show n + 1 ≤ gzN; omega)) hS.2.2 hl
  have e1 : (n + 1) - S0.1 + 0 = n - S0.1 + 0 + 1 := by omega
  have e2 : gzU (n + 1) - gzU S0.1 + 6 * 0 = gzU n - gzU S0.1 + 6 * 0 + r.2.2 := by omega
  have k3 : W p g.1 e R s m args below meth c H1 locs ((n + 1) - S0.1 + 0) (gzU (n + 1) - gzU S0.1 + 6 * 0) (gzMQ g zm S0 Q below s) (F0 m (pc + 3) ls (.ref (gz_ad g t o) :: st.map (gz_v g))) := k2
  rw [e1, e2, had] at k3
  exact k3
theorem gz_newI {t o N : Nat} {at_ : ArrayType} {ty : FieldType} {cnt : Int32} (hd : decode y.2.1 pc = .ok (.newarray at_, 2)) (hz : z = 0) (hn : n < gzN) (hid : gzIdAt n = (t, o)) (ho2 : o < 60) (ho : gzKd o = .inr (ty, N)) (hsz : gzSz o = N) (hat : newarray.typeOf at_ = ty) (hty : ty = .int ∨ ty = .boolean ∨ ty = .byte) (hcnt : ¬ cnt < 0) (hN : cnt.toNatClampNeg = N) (hby : N * componentBytes ty ≤ 536870912)
    (hw : Cond.arrayClass (newarray.typeOf at_) ∈ lw_tbl) (hg : goodWord (Cond.arrayClass (newarray.typeOf at_)) = true)
    (kk : gzX g zm d y (pc + 2) loc (.inr (.inr (t, o)) :: st) (n + 1, Rf, gz_uw I t o (fun _ => 0), J) z Q) : gzX g zm d y pc loc (.inl cnt :: st) (n, Rf, I, J) z Q := by
  intro S0 p e R s m args below meth c H locs ls C h1 h2 hW h4 hl
  subst hz
  have hU : gzU (n + 1) = gzU n + N := by rw [gz_U1 hn, hid, hsz]
  have hUm : gzU S0.1 ≤ gzU n := gz_Um h1
  have hUl : gzU (n + 1) ≤ gzM := gz_Ule (by omega)
  have h1' : S0.1 ≤ n := h1
  have hRc := C.2.2.2.2.2.2.2.2.2.2.2.1
  have hRs := C.2.2.2.2.2.2.2.2.2.2.2.2.1
  refine va_newa (D := g.2.2.2.1) (A := gzA g) (H0 := g.2.1.heap) (tys := gzTys g) (a0 := (N, .inl (fun _ => 0))) C.1 C.2.1 (gz_cxw C hw hg args) hat (gz_cxK C) hW.1 (gz_D g _) (gz_wdS hW h4) (fun q h => h) (fun cA => by rcases hty with rfl | rfl | rfl <;> rfl) hcnt hN hby ?_ ?_ hd (fun q cA H1 hK hP hD hS => ?_)
  · show n - S0.1 + 0 + 1 ≤ _; omega
  · show gzU n - gzU S0.1 + 6 * 0 + N ≤ _; omega
  refine gz_ub (fun hub => ?_)
  have hss := C.2.2.2.2.2.2.2.2.2.2.2.2.2.2.2 (by omega)
  have hub' : H1.size ≤ gz_b g + n + 1 := by
    have : H1.size ≤ s.heap.size + (n - S0.1 + 0 + 1) := hub
    omega
  have hqe : q = gz_b g + n := gz_newAt (S := (n, Rf, I, J)) hP hD hub'
  subst hqe
  have hcA : cA = g.2.2.2.2.1 ty := by
    have q1 := (hK.2 5 (cA, ty) rfl).2
    rcases hty with rfl | rfl | rfl
    · have q2 := ((gz_cxK C).2 0 _ rfl).2
      exact Option.some.inj (q1.symm.trans q2)
    · have q2 := ((gz_cxK C).2 2 _ rfl).2
      exact Option.some.inj (q1.symm.trans q2)
    · have q2 := ((gz_cxK C).2 3 _ rfl).2
      exact Option.some.inj (q1.symm.trans q2)
  subst hcA
  have hcell : gz_cell g (n + 1, Rf, gz_uw I t o (fun _ => 0), J) t o = .inl (g.2.2.2.2.1 ty, N, .inl (fun _ => 0)) := by
    rw [gz_cell_a ho]
    rcases hty with rfl | rfl | rfl
    · show (Sum.inl (_, N, Sum.inl (gz_uw I t o (fun _ => 0) t o)) : va_E) = _; rw [gz_uw_eq]
    · show (Sum.inl (_, N, Sum.inl (gz_uw I t o (fun _ => 0) t o)) : va_E) = _; rw [gz_uw_eq]
    · show (Sum.inl (_, N, Sum.inl (gz_uw I t o (fun _ => 0) t o)) : va_E) = _; rw [gz_uw_eq]
  rw [← hcell, gz_ws_push (S := (n, Rf, I, J)) (S' := (n + 1, Rf, gz_uw I t o (fun _ => 0), J)) hn hid rfl (fun t' o' h => gz_cell_congr rfl (gz_uw_ne h) rfl)] at hP
  have had : gz_ad g t o = gz_b g + n := by
    rw [gz_ad, if_neg (by omega)]
    have := gz_idpos n hn
    rw [hid] at this
    rw [show gzPos t o = n from this]
  have k2 := kk S0 p e R s m args below meth c H1 locs ls C (by show S0.1 ≤ n + 1; omega) h2 (gz_wdOf hP hS (by show n + 1 ≤ gzN; omega)) hS.2.2 hl
  have e1 : (n + 1) - S0.1 + 0 = n - S0.1 + 0 + 1 := by omega
  have e2 : gzU (n + 1) - gzU S0.1 + 6 * 0 = gzU n - gzU S0.1 + 6 * 0 + N := by omega
  have k3 : W p g.1 e R s m args below meth c H1 locs ((n + 1) - S0.1 + 0) (gzU (n + 1) - gzU S0.1 + 6 * 0) (gzMQ g zm S0 Q below s) (F0 m (pc + 2) ls (.ref (gz_ad g t o) :: st.map (gz_v g))) := k2
  rw [e1, e2, had] at k3
  exact k3
theorem gz_newJ {t o N : Nat} {cnt : Int32} (hd : decode y.2.1 pc = .ok (.newarray .long, 2)) (hz : z = 0) (hn : n < gzN) (hid : gzIdAt n = (t, o)) (ho2 : o < 60) (ho : gzKd o = .inr (.long, N)) (hsz : gzSz o = N) (hcnt : ¬ cnt < 0) (hN : cnt.toNatClampNeg = N) (hby : N * componentBytes .long ≤ 536870912)
    (hw : Cond.arrayClass .long ∈ lw_tbl) (hg : goodWord (Cond.arrayClass .long) = true)
    (kk : gzX g zm d y (pc + 2) loc (.inr (.inr (t, o)) :: st) (n + 1, Rf, I, gz_uwj J t o (fun _ => 0)) z Q) : gzX g zm d y pc loc (.inl cnt :: st) (n, Rf, I, J) z Q := by
  intro S0 p e R s m args below meth c H locs ls C h1 h2 hW h4 hl
  subst hz
  have hU : gzU (n + 1) = gzU n + N := by rw [gz_U1 hn, hid, hsz]
  have hUm : gzU S0.1 ≤ gzU n := gz_Um h1
  have hUl : gzU (n + 1) ≤ gzM := gz_Ule (by omega)
  have h1' : S0.1 ≤ n := h1
  have hRc := C.2.2.2.2.2.2.2.2.2.2.2.1
  have hRs := C.2.2.2.2.2.2.2.2.2.2.2.2.1
  refine va_newa (atype := .long) (ty := .long) (D := g.2.2.2.1) (A := gzA g) (H0 := g.2.1.heap) (tys := gzTys g) (a0 := (N, .inr (.inl (fun _ => 0)))) C.1 C.2.1 (gz_cxw C hw hg args) rfl (gz_cxK C) hW.1 (gz_D g _) (gz_wdS hW h4) (fun q h => h) (fun cA => vp_cell_l cA N (fun _ => 0)) hcnt hN hby ?_ ?_ hd (fun q cA H1 hK hP hD hS => ?_)
  · show n - S0.1 + 0 + 1 ≤ _; omega
  · show gzU n - gzU S0.1 + 6 * 0 + N ≤ _; omega
  refine gz_ub (fun hub => ?_)
  have hss := C.2.2.2.2.2.2.2.2.2.2.2.2.2.2.2 (by omega)
  have hub' : H1.size ≤ gz_b g + n + 1 := by
    have : H1.size ≤ s.heap.size + (n - S0.1 + 0 + 1) := hub
    omega
  have hqe : q = gz_b g + n := gz_newAt (S := (n, Rf, I, J)) hP hD hub'
  subst hqe
  have hcA : cA = g.2.2.2.2.1 .long := by
    have q1 := (hK.2 5 (cA, .long) rfl).2
    have q2 := ((gz_cxK C).2 1 _ rfl).2
    exact Option.some.inj (q1.symm.trans q2)
  subst hcA
  have hcell : gz_cell g (n + 1, Rf, I, gz_uwj J t o (fun _ => 0)) t o = .inl (g.2.2.2.2.1 .long, N, .inr (.inl (fun _ => 0))) := by
    rw [gz_cell_a ho]
    show (Sum.inl (_, N, Sum.inr (Sum.inl (gz_uwj J t o (fun _ => 0) t o))) : va_E) = _; rw [gz_uwj_eq]
  rw [← hcell, gz_ws_push (S := (n, Rf, I, J)) (S' := (n + 1, Rf, I, gz_uwj J t o (fun _ => 0))) hn hid rfl (fun t' o' h => gz_cell_congr rfl rfl (gz_uwj_ne h))] at hP
  have had : gz_ad g t o = gz_b g + n := by
    rw [gz_ad, if_neg (by omega)]
    have := gz_idpos n hn
    rw [hid] at this
    rw [show gzPos t o = n from this]
  have k2 := kk S0 p e R s m args below meth c H1 locs ls C (by show S0.1 ≤ n + 1; omega) h2 (gz_wdOf hP hS (by show n + 1 ≤ gzN; omega)) hS.2.2 hl
  have e1 : (n + 1) - S0.1 + 0 = n - S0.1 + 0 + 1 := by omega
  have e2 : gzU (n + 1) - gzU S0.1 + 6 * 0 = gzU n - gzU S0.1 + 6 * 0 + N := by omega
  have k3 : W p g.1 e R s m args below meth c H1 locs ((n + 1) - S0.1 + 0) (gzU (n + 1) - gzU S0.1 + 6 * 0) (gzMQ g zm S0 Q below s) (F0 m (pc + 2) ls (.ref (gz_ad g t o) :: st.map (gz_v g))) := k2
  rw [e1, e2, had] at k3
  exact k3
theorem gz_newA {t o N index : Nat} {cnt : Int32} (hd : decode y.2.1 pc = .ok (.anewarray index, 3)) (hz : z = 0) (hn : n < gzN) (hid : gzIdAt n = (t, o)) (ho2 : o < 60) (ho : gzKd o = .inr (.object "GrudgeIce$Town", N)) (hsz : gzSz o = N) (hcnt : ¬ cnt < 0) (hN : cnt.toNatClampNeg = N) (hby : N * 4 ≤ 536870912)
    (hw : Cond.classLink y.1.cls index "GrudgeIce$Town" ∈ lw_tbl) (hg : goodWord (Cond.classLink y.1.cls index "GrudgeIce$Town") = true) (hw2 : Cond.arrayOver (.object "GrudgeIce$Town") ∈ lw_tbl)
    (kk : gzX g zm d y (pc + 3) loc (.inr (.inr (t, o)) :: st) (n + 1, gz_uwr Rf t o (fun _ => none), I, J) z Q) : gzX g zm d y pc loc (.inl cnt :: st) (n, Rf, I, J) z Q := by
  intro S0 p e R s m args below meth c H locs ls C h1 h2 hW h4 hl
  subst hz
  have hU : gzU (n + 1) = gzU n + N := by rw [gz_U1 hn, hid, hsz]
  have hUm : gzU S0.1 ≤ gzU n := gz_Um h1
  have hUl : gzU (n + 1) ≤ gzM := gz_Ule (by omega)
  have h1' : S0.1 ≤ n := h1
  have hRc := C.2.2.2.2.2.2.2.2.2.2.2.1
  have hRs := C.2.2.2.2.2.2.2.2.2.2.2.2.1
  have hAO : va_AO "GrudgeIce$Town" s := va_AO.moved (gz_cxW C).alike (va_AO.of ((gz_cxF C).1 _ hw2))
  refine va_newq (D := g.2.2.2.1) (A := gzA g) (H0 := g.2.1.heap) (tys := gzTys g) C.1 C.2.1 C.2.2.2.2.1 (gz_cxw C hw hg args) hAO (gz_cxK C) hW.1 (gz_D g _) (gz_wdS hW h4) (fun q h => h) hcnt hN hby ?_ ?_ hd (fun q cA H1 hK hP hD hS => ?_)
  · show n - S0.1 + 0 + 1 ≤ _; omega
  · show gzU n - gzU S0.1 + 6 * 0 + N ≤ _; omega
  refine gz_ub (fun hub => ?_)
  have hss := C.2.2.2.2.2.2.2.2.2.2.2.2.2.2.2 (by omega)
  have hub' : H1.size ≤ gz_b g + n + 1 := by
    have : H1.size ≤ s.heap.size + (n - S0.1 + 0 + 1) := hub
    omega
  have hqe : q = gz_b g + n := gz_newAt (S := (n, Rf, I, J)) hP hD hub'
  subst hqe
  have hcA : cA = g.2.2.2.2.1 (.object "GrudgeIce$Town") := by
    obtain ⟨_, _, -, -, -, q1⟩ := (hK.2 5 (cA, .object "GrudgeIce$Town") rfl).2
    obtain ⟨_, _, -, -, -, q2⟩ := ((gz_cxK C).2 4 _ rfl).2
    exact Option.some.inj (q1.symm.trans q2)
  subst hcA
  have hcell : gz_cell g (n + 1, gz_uwr Rf t o (fun _ => none), I, J) t o = .inl (g.2.2.2.2.1 (.object "GrudgeIce$Town"), N, .inr (.inr (.inr (.inr (fun _ => none))))) := by
    rw [gz_cell_a ho]
    show (Sum.inl (_, N, Sum.inr (Sum.inr (Sum.inr (Sum.inr (fun j => gz_rf g (gz_uwr Rf t o (fun _ => none) t o j)))))) : va_E) = _; rw [gz_uwr_eq]; rfl
  rw [← hcell, gz_ws_push (S := (n, Rf, I, J)) (S' := (n + 1, gz_uwr Rf t o (fun _ => none), I, J)) hn hid rfl (fun t' o' h => gz_cell_congr (gz_uwr_ne h) rfl rfl)] at hP
  have had : gz_ad g t o = gz_b g + n := by
    rw [gz_ad, if_neg (by omega)]
    have := gz_idpos n hn
    rw [hid] at this
    rw [show gzPos t o = n from this]
  have k2 := kk S0 p e R s m args below meth c H1 locs ls C (by show S0.1 ≤ n + 1; omega) h2 (gz_wdOf hP hS (by show n + 1 ≤ gzN; omega)) hS.2.2 hl
  have e1 : (n + 1) - S0.1 + 0 = n - S0.1 + 0 + 1 := by omega
  have e2 : gzU (n + 1) - gzU S0.1 + 6 * 0 = gzU n - gzU S0.1 + 6 * 0 + N := by omega
  have k3 : W p g.1 e R s m args below meth c H1 locs ((n + 1) - S0.1 + 0) (gzU (n + 1) - gzU S0.1 + 6 * 0) (gzMQ g zm S0 Q below s) (F0 m (pc + 3) ls (.ref (gz_ad g t o) :: st.map (gz_v g))) := k2
  rw [e1, e2, had] at k3
  exact k3
theorem gz_aast {t o N t2 o2 ci : Nat} {r : vw_C} {i : Int32} (hd : decode y.2.1 pc = .ok (.aastore, 1)) (hv : gzOk t o n) (hv2 : gzOk t2 o2 n) (ho : gzKd o = .inr (.object "GrudgeIce$Town", N)) (ho2 : gzKd o2 = .inl ci) (hc : vwCl[ci]? = some r) (hr : r.1 = "GrudgeIce$Town") (hin : vp_in i N)
    (kk : gzX g zm d y (pc + 1) loc st (n, gz_ur Rf t o i.toNatClampNeg (some (t2, o2)), I, J) z Q) : gzX g zm d y pc loc (.inr (.inr (t2, o2)) :: .inl i :: .inr (.inr (t, o)) :: st) (n, Rf, I, J) z Q := by
  intro S0 p e R s m args below meth c H locs ls C h1 h2 hW h4 hl
  refine va_astq (tys := gzTys g) (A := gzA g) (H0 := g.2.1.heap) C.1 C.2.1 (gz_cxK C) hW.1 (gz_D g _) (gz_wdS hW h4) (gzPos t o) 4 (gzPos t2 o2) ci (gz_wsa hv ho) (by rw [hr]; rfl) (gz_wso hv2 ho2) hc hin hd (fun H1 locs1 hP hD hS => ?_)
  have e0 : va_up (fun j => gz_rf g ((n, Rf, I, J).2.1 t o j)) i.toNatClampNeg (some (gz_ad g t2 o2)) = fun j => gz_rf g (gz_ur Rf t o i.toNatClampNeg (some (t2, o2)) t o j) := by
    funext j
    by_cases h : j = i.toNatClampNeg
    · subst h
      simp [va_up, gz_ur, gz_rf]
    · simp [va_up, gz_ur, h]
  rw [e0] at hP
  rw [show (Sum.inl (g.2.2.2.2.1 (FieldType.object "GrudgeIce$Town"), N, Sum.inr (Sum.inr (Sum.inr (Sum.inr (fun j => gz_rf g (gz_ur Rf t o i.toNatClampNeg (some (t2, o2)) t o j)))))) : va_E) = gz_cell g (n, gz_ur Rf t o i.toNatClampNeg (some (t2, o2)), I, J) t o from (gz_cell_a (g := g) (S := (n, gz_ur Rf t o i.toNatClampNeg (some (t2, o2)), I, J)) (t := t) ho).symm,
    gz_ws_set (S' := (n, gz_ur Rf t o i.toNatClampNeg (some (t2, o2)), I, J)) hv hW.2.2.2 rfl (fun t' o' h => gz_cell_congr (gz_ur_ne h) rfl rfl)] at hP
  exact kk S0 p e R s m args below meth c H1 locs1 ls C h1 h2 (gz_wdOf hP hS hW.2.2.2) hS.2.2 hl
theorem gz_copy {t o N t2 o2 N2 index : Nat} {sp dp len : Int32} (hd : decode y.2.1 pc = .ok (.invokestatic index, 3)) (hv : gzOk t o n) (hv2 : gzOk t2 o2 n) (ho : gzKd o = .inr (.int, N)) (ho2 : gzKd o2 = .inr (.int, N2)) (h5 : ¬ sp < 0) (h6 : ¬ dp < 0) (h7 : ¬ len < 0) (h8 : sp.toNatClampNeg + len.toNatClampNeg ≤ N) (h9 : dp.toNatClampNeg + len.toNatClampNeg ≤ N2)
    (hw : Cond.methodLink y.1.cls index arraycopyName ∈ lw_tbl) (hg : goodWord (Cond.methodLink y.1.cls index arraycopyName) = true) (hw2 : Cond.native arraycopyName ∈ lw_tbl) (hg2 : goodWord (Cond.native arraycopyName) = true) (hw3 : Cond.static arraycopyName ∈ lw_tbl) (hg3 : goodWord (Cond.static arraycopyName) = true) (hw4 : Cond.initialized "java/lang/System" ∈ lw_tbl) (hg4 : goodWord (Cond.initialized "java/lang/System") = true) (hst : (st.map fun v => (gz_v g v).category).sum ≤ 8)
    (kk : gzX g zm d y (pc + 3) loc st (n, Rf, gz_uw I t2 o2 (va_cpy (I t o) (I t2 o2) sp.toNatClampNeg dp.toNatClampNeg len.toNatClampNeg), J) z Q) : gzX g zm d y pc loc (.inl len :: .inl dp :: .inr (.inr (t2, o2)) :: .inl sp :: .inr (.inr (t, o)) :: st) (n, Rf, I, J) z Q := by
  intro S0 p e R s m args below meth c H locs ls C h1 h2 hW h4 hl
  have hf := C.2.2.2.2.2.2.2.2.2.1
  have hlo := C.2.2.2.2.2.2.2.2.2.2.1
  have hnw : nativeFrameWords "java/lang/System" "arraycopy" 5 ≤ 60 := by decide +kernel
  have hst2 : ((st.map (gz_v g)).map fun v => v.category).sum ≤ 8 := by rw [List.map_map]; exact hst
  refine va_copyi (tys := gzTys g) (A := gzA g) (H0 := g.2.1.heap) C.1 C.2.1 (C.2.2.2.1.trans hl.1.symm) C.2.2.2.2.1 (gz_cxw C hw hg args) (gz_cxw C hw2 hg2 args) (gz_cxw C hw3 hg3 args) (gz_cxw C hw4 hg4 args) (gz_cxK C) hW.1 (gz_D g _) (gz_wdS hW h4) (gzPos t o) (gzPos t2 o2) 0 0 (gz_wsa hv ho) (gz_wsa hv2 ho2) rfl rfl rfl h5 h6 h7 h8 h9 (fun i _ => rfl) (by omega) (by omega) hd (fun H1 locs1 hP hD hS => ?_)
  have e0 : va_cpy ((n, Rf, I, J).2.2.1 t o) ((n, Rf, I, J).2.2.1 t2 o2) sp.toNatClampNeg dp.toNatClampNeg len.toNatClampNeg = gz_uw I t2 o2 (va_cpy (I t o) (I t2 o2) sp.toNatClampNeg dp.toNatClampNeg len.toNatClampNeg) t2 o2 := gz_uw_eq.symm
  rw [e0] at hP
  rw [show (Sum.inl (g.2.2.2.2.1 FieldType.int, N2, Sum.inl (gz_uw I t2 o2 (va_cpy (I t o) (I t2 o2) sp.toNatClampNeg dp.toNatClampNeg len.toNatClampNeg) t2 o2)) : va_E) = gz_cell g (n, Rf, gz_uw I t2 o2 (va_cpy (I t o) (I t2 o2) sp.toNatClampNeg dp.toNatClampNeg len.toNatClampNeg), J) t2 o2 from (gz_cell_a (g := g) (S := (n, Rf, gz_uw I t2 o2 (va_cpy (I t o) (I t2 o2) sp.toNatClampNeg dp.toNatClampNeg len.toNatClampNeg), J)) (t := t2) ho2).symm,
    gz_ws_set (S' := (n, Rf, gz_uw I t2 o2 (va_cpy (I t o) (I t2 o2) sp.toNatClampNeg dp.toNatClampNeg len.toNatClampNeg), J)) hv2 hW.2.2.2 rfl (fun t' o' h => gz_cell_congr rfl (gz_uw_ne h) rfl)] at hP
  exact kk S0 p e R s m args below meth c H1 locs1 ls C h1 h2 (gz_wdOf hP hS hW.2.2.2) hS.2.2 hl
end
section
variable {g : gzG} {zm d : Nat} {y : gzMe} {pc : Nat} {loc : List (Option gzV)} {st : List gzV} {z : Nat} {Q : gzO → gzS → Prop} {S : gzS}
theorem gz_room {S0 : gzS} {p : Program} {R : Room} {s : State} {m : MethodId} {meth : Method} {c : Code} (C : gzCx g zm d y S0 p R s m meth c) (h1 : S0.1 ≤ S.1) (h2 : z ≤ zm) (hN : S.1 ≤ gzN) : S.1 - S0.1 + z + 1 ≤ R.cells ∧ gzU S.1 - gzU S0.1 + 6 * z + 6 ≤ R.slots := by
  have hRc := C.2.2.2.2.2.2.2.2.2.2.2.1
  have hRs := C.2.2.2.2.2.2.2.2.2.2.2.2.1
  have hUm : gzU S0.1 ≤ gzU S.1 := gz_Um h1
  have hUl : gzU S.1 ≤ gzM := gz_Ule hN
  omega
theorem gz_mmax {a b : Int32} {index : Nat} (hd : decode y.2.1 pc = .ok (.invokestatic index, 3)) (hw : Cond.methodLink y.1.cls index Lib.Math.max.name ∈ lw_tbl) (hg : goodWord (Cond.methodLink y.1.cls index Lib.Math.max.name) = true) (hw2 : Cond.static Lib.Math.max.name ∈ lw_tbl) (hg2 : goodWord (Cond.static Lib.Math.max.name) = true) (hw3 : Cond.initialized "java/lang/Math" ∈ lw_tbl) (hg3 : goodWord (Cond.initialized "java/lang/Math") = true) (hw4 : Cond.code Lib.Math.max.name Lib.Math.max.code 2 (some .int) ∈ lw_tbl) (hg4 : goodWord (Cond.code Lib.Math.max.name Lib.Math.max.code 2 (some .int)) = true) (hst : (st.map fun v => (gz_v g v).category).sum ≤ 8)
    (kk : gzX g zm d y (pc + 3) loc (.inl (if a < b then b else a) :: st) S z Q) : gzX g zm d y pc loc (.inl b :: .inl a :: st) S z Q := by
  intro S0 p e R s m args below meth c H locs ls C h1 h2 hW h4 hl
  have hf := C.2.2.2.2.2.2.2.2.2.1
  have hlo := C.2.2.2.2.2.2.2.2.2.2.1
  have hst2 : ((st.map (gz_v g)).map fun v => v.category).sum ≤ 8 := by rw [List.map_map]; exact hst
  have hr := gz_room C h1 h2 hW.2.2.2
  exact va_mmax C.1 C.2.1 (C.2.2.2.1.trans hl.1.symm) C.2.2.2.2.1 (gz_cxw C hw hg args) (gz_cxw C hw2 hg2 args) (gz_cxw C hw3 hg3 args) (gz_cxw C hw4 hg4 args) (by omega) (by omega) (by omega) (by omega) hd (kk S0 p e R s m args below meth c H locs ls C h1 h2 hW h4 hl)
theorem gz_mmin {a b : Int32} {index : Nat} (hd : decode y.2.1 pc = .ok (.invokestatic index, 3)) (hw : Cond.methodLink y.1.cls index Lib.Math.min.name ∈ lw_tbl) (hg : goodWord (Cond.methodLink y.1.cls index Lib.Math.min.name) = true) (hw2 : Cond.static Lib.Math.min.name ∈ lw_tbl) (hg2 : goodWord (Cond.static Lib.Math.min.name) = true) (hw3 : Cond.initialized "java/lang/Math" ∈ lw_tbl) (hg3 : goodWord (Cond.initialized "java/lang/Math") = true) (hw4 : Cond.code Lib.Math.min.name Lib.Math.min.code 2 (some .int) ∈ lw_tbl) (hg4 : goodWord (Cond.code Lib.Math.min.name Lib.Math.min.code 2 (some .int)) = true) (hst : (st.map fun v => (gz_v g v).category).sum ≤ 8)
    (kk : gzX g zm d y (pc + 3) loc (.inl (if b < a then b else a) :: st) S z Q) : gzX g zm d y pc loc (.inl b :: .inl a :: st) S z Q := by
  intro S0 p e R s m args below meth c H locs ls C h1 h2 hW h4 hl
  have hf := C.2.2.2.2.2.2.2.2.2.1
  have hlo := C.2.2.2.2.2.2.2.2.2.2.1
  have hst2 : ((st.map (gz_v g)).map fun v => v.category).sum ≤ 8 := by rw [List.map_map]; exact hst
  have hr := gz_room C h1 h2 hW.2.2.2
  exact va_mmin C.1 C.2.1 (C.2.2.2.1.trans hl.1.symm) C.2.2.2.2.1 (gz_cxw C hw hg args) (gz_cxw C hw2 hg2 args) (gz_cxw C hw3 hg3 args) (gz_cxw C hw4 hg4 args) (by omega) (by omega) (by omega) (by omega) hd (kk S0 p e R s m args below meth c H locs ls C h1 h2 hW h4 hl)
theorem gz_objInit {t o idx : Nat} (hd : decode y.2.1 pc = .ok (.invokespecial idx, 3)) (hw : Cond.methodLink y.1.cls idx Lib.objectInit ∈ lw_tbl) (hg : goodWord (Cond.methodLink y.1.cls idx Lib.objectInit) = true) (hw2 : Cond.instanceMethod Lib.objectInit ∈ lw_tbl) (hg2 : goodWord (Cond.instanceMethod Lib.objectInit) = true) (hw3 : Cond.code Lib.objectInit ⟨#[0xb1]⟩ 1 none ∈ lw_tbl) (hg3 : goodWord (Cond.code Lib.objectInit ⟨#[0xb1]⟩ 1 none) = true) (hst : (st.map fun v => (gz_v g v).category).sum ≤ 8)
    (kk : gzX g zm d y (pc + 3) loc st S z Q) : gzX g zm d y pc loc (.inr (.inr (t, o)) :: st) S z Q := by
  intro S0 p e R s m args below meth c H locs ls C h1 h2 hW h4 hl
  have hf := C.2.2.2.2.2.2.2.2.2.1
  have hlo := C.2.2.2.2.2.2.2.2.2.2.1
  have hst2 : ((st.map (gz_v g)).map fun v => v.category).sum ≤ 8 := by rw [List.map_map]; exact hst
  refine W.objInit C.1 C.2.1 C.2.2.2.2.1 (gz_cxw C hw hg args) (gz_cxw C hw2 hg2 args) (gz_cxw C hw3 hg3 args) rfl (C.2.2.2.1.trans hl.1.symm).symm rfl hd (by omega) ?_ (kk S0 p e R s m args below meth c H locs ls C h1 h2 hW h4 hl)
  show 2 * 0 + _ + 12 ≤ _
  omega
end
