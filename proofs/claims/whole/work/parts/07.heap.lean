/-! rows of gzX that read or write cells -/
set_option maxRecDepth 100000 in
theorem gz_lays : ∀ r ∈ vwCl, (u_ws r.1 r.2.1 r.2.2).all (fun w => decide (w ∈ lw_tbl) && goodWord w) = true := by decide +kernel
def gzTyc : Nat → Nat → FieldType
  | 0 => tyX0 | 1 => tyX1 | 2 => tyX2 | 3 => tyX3 | 4 => tyX4 | 5 => tyX5 | 6 => tyX6 | 7 => tyX7 | 8 => tyX8 | 9 => tyX9 | 10 => tyX10 | 11 => tyX11 | _ => tyX12
theorem gz_tyok : ∀ (ci : Nat) (r : vw_C), vwCl[ci]? = some r → (∀ k, k < r.2.2 → parseFieldDescriptor (r.2.1 k).2.2.1 = some (gzTyc ci k)) ∧ (∀ a, a < r.2.2 → ∀ b, b < r.2.2 → a ≠ b → (r.2.1 a).2.1 ≠ (r.2.1 b).2.1) := by
  intro ci r h
  match ci, h with
  | 0, h => cases h; exact ⟨tyX0_ok, nmX0⟩
  | 1, h => cases h; exact ⟨tyX1_ok, nmX1⟩
  | 2, h => cases h; exact ⟨tyX2_ok, nmX2⟩
  | 3, h => cases h; exact ⟨tyX3_ok, nmX3⟩
  | 4, h => cases h; exact ⟨tyX4_ok, nmX4⟩
  | 5, h => cases h; exact ⟨tyX5_ok, nmX5⟩
  | 6, h => cases h; exact ⟨tyX6_ok, nmX6⟩
  | 7, h => cases h; exact ⟨tyX7_ok, nmX7⟩
  | 8, h => cases h; exact ⟨tyX8_ok, nmX8⟩
  | 9, h => cases h; exact ⟨tyX9_ok, nmX9⟩
  | 10, h => cases h; exact ⟨tyX10_ok, nmX10⟩
  | 11, h => cases h; exact ⟨tyX11_ok, nmX11⟩
  | 12, h => cases h; exact ⟨tyX12_ok, nmX12⟩
  | n + 13, h => simp [vwCl] at h
theorem gz_tyfl0 : ∀ ci, ci < 13 → (gzFk ci).length = (vwCl.getD ci (RL, TX0, 0)).2.2 ∧ ∀ k, k < (gzFk ci).length → (match gzTyc ci k with | .object _ => (gzFk ci).getD k false | .array _ => (gzFk ci).getD k false | .int => !(gzFk ci).getD k false | .boolean => !(gzFk ci).getD k false | _ => false) = true := by decide +kernel
theorem gz_flen {ci : Nat} {r : vw_C} (h : vwCl[ci]? = some r) : (gzFk ci).length = r.2.2 := by
  have hc : ci < 13 := by simpa [vwCl] using (List.getElem?_eq_some_iff.mp h).1
  have := (gz_tyfl0 ci hc).1
  rw [this, List.getD_eq_getElem?_getD, h]; rfl
theorem gz_tyfl {ci k : Nat} {r : vw_C} (h : vwCl[ci]? = some r) (hk : k < r.2.2) : ((∃ n, gzTyc ci k = .object n) ∧ (gzFk ci).getD k false = true) ∨ ((∃ n, gzTyc ci k = .array n) ∧ (gzFk ci).getD k false = true) ∨ ((gzTyc ci k = .int ∨ gzTyc ci k = .boolean) ∧ (gzFk ci).getD k false = false) := by
  have hc : ci < 13 := by simpa [vwCl] using (List.getElem?_eq_some_iff.mp h).1
  have h2 := (gz_tyfl0 ci hc).2 k (by rw [gz_flen h]; exact hk)
  cases ht : gzTyc ci k <;> rw [ht] at h2 <;> simp_all
section
variable {g : gzG} {zm d : Nat} {y : gzMe} {pc : Nat} {loc : List (Option gzV)} {st : List gzV} {z : Nat} {Q : gzO → gzS → Prop} {S0 : gzS} {p : Program} {R : Room} {s : State} {m : MethodId} {meth : Method} {c : Code}
theorem gz_cxF (C : gzCx g zm d y S0 p R s m meth c) : gzF g := C.2.2.2.2.2.2.2.2.2.2.2.2.2.1
theorem gz_cxW (C : gzCx g zm d y S0 p R s m meth c) : g.2.1.WarmedH s.vm := C.2.2.2.2.2.2.2.2.1
theorem gz_cxK (C : gzCx g zm d y S0 p R s m meth c) : va_K g.2.2.2.1 vwCl (gzTys g) s := va_K.moved (gz_cxW C).alike (gz_cxF C).2.1
theorem gz_cxL (C : gzCx g zm d y S0 p R s m meth c) {ci : Nat} {r : vw_C} (hc : vwCl[ci]? = some r) (args : Array Value) : ∀ w ∈ u_ws r.1 r.2.1 r.2.2, w.before args s = true := by
  intro w hw
  have h := List.all_eq_true.mp (gz_lays r (List.mem_of_getElem? hc)) w hw
  simp only [Bool.and_eq_true, decide_eq_true_eq] at h
  exact gz_cxw C h.1 h.2 args
end
theorem gz_cell_o {g : gzG} {S : gzS} {t o ci : Nat} (ho : gzKd o = .inl ci) : gz_cell g S t o = .inr (ci, gz_fs g S t o (gzFk ci)) := by unfold gz_cell; rw [ho]
theorem gz_cell_a {g : gzG} {S : gzS} {t o n : Nat} {ty : FieldType} (ho : gzKd o = .inr (ty, n)) : gz_cell g S t o = .inl (g.2.2.2.2.1 ty, n, gz_row g S t o ty) := by unfold gz_cell; rw [ho]
theorem gz_wso {g : gzG} {S : gzS} {t o ci : Nat} (h : gzOk t o S.1) (ho : gzKd o = .inl ci) : (gz_ws g S)[gzPos t o]? = some (gz_ad g t o, .inr (ci, gz_fs g S t o (gzFk ci))) := by rw [gz_ws_at h, gz_cell_o ho]
theorem gz_wsa {g : gzG} {S : gzS} {t o n : Nat} {ty : FieldType} (h : gzOk t o S.1) (ho : gzKd o = .inr (ty, n)) : (gz_ws g S)[gzPos t o]? = some (gz_ad g t o, .inl (g.2.2.2.2.1 ty, n, gz_row g S t o ty)) := by rw [gz_ws_at h, gz_cell_a ho]
theorem gz_fs_get {g : gzG} {S : gzS} {t o k : Nat} {fl : List Bool} {b : Bool} (h : fl[k]? = some b) : (gz_fs g S t o fl)[k]? = some (if b then va_rf (gz_rf g (S.2.1 t o k)) else .int (S.2.2.1 t o k)) := by
  unfold gz_fs
  rw [List.getElem?_map, List.getElem?_range (List.getElem?_eq_some_iff.mp h).1]
  show some (if fl.getD k false = true then _ else _) = _
  rw [List.getD_eq_getElem?_getD, h]
  rfl
theorem gz_fs_len {g : gzG} {S : gzS} {t o : Nat} {fl : List Bool} : (gz_fs g S t o fl).length = fl.length := by simp [gz_fs]
theorem gz_cell_congr {g : gzG} {S S' : gzS} {t o : Nat} (h1 : S.2.1 t o = S'.2.1 t o) (h2 : S.2.2.1 t o = S'.2.2.1 t o) (h3 : S.2.2.2 t o = S'.2.2.2 t o) : gz_cell g S t o = gz_cell g S' t o := by
  unfold gz_cell gz_fs gz_row
  simp only [h1, h2, h3]
def gz_ui (I : Nat → Nat → Nat → Int32) (t o k : Nat) (v : Int32) : Nat → Nat → Nat → Int32 := fun t' o' j => if t' = t ∧ o' = o ∧ j = k then v else I t' o' j
def gz_ur (Rf : Nat → Nat → Nat → Option (Nat × Nat)) (t o k : Nat) (v : Option (Nat × Nat)) : Nat → Nat → Nat → Option (Nat × Nat) := fun t' o' j => if t' = t ∧ o' = o ∧ j = k then v else Rf t' o' j
def gz_uj (J : Nat → Nat → Nat → Int64) (t o k : Nat) (v : Int64) : Nat → Nat → Nat → Int64 := fun t' o' j => if t' = t ∧ o' = o ∧ j = k then v else J t' o' j
/-- a whole row of ints set -/
def gz_uw (I : Nat → Nat → Nat → Int32) (t o : Nat) (f : Nat → Int32) : Nat → Nat → Nat → Int32 := fun t' o' => if t' = t ∧ o' = o then f else I t' o'
def gz_uwr (I : Nat → Nat → Nat → Option (Nat × Nat)) (t o : Nat) (f : Nat → Option (Nat × Nat)) : Nat → Nat → Nat → Option (Nat × Nat) := fun t' o' => if t' = t ∧ o' = o then f else I t' o'
def gz_uwj (I : Nat → Nat → Nat → Int64) (t o : Nat) (f : Nat → Int64) : Nat → Nat → Nat → Int64 := fun t' o' => if t' = t ∧ o' = o then f else I t' o'
theorem gz_ui_ne {I : Nat → Nat → Nat → Int32} {t o k t' o' : Nat} {v : Int32} (h : ¬ (t' = t ∧ o' = o)) : gz_ui I t o k v t' o' = I t' o' := by
  funext j
  exact if_neg (fun q => h ⟨q.1, q.2.1⟩)
theorem gz_ur_ne {I : Nat → Nat → Nat → Option (Nat × Nat)} {t o k t' o' : Nat} {v : Option (Nat × Nat)} (h : ¬ (t' = t ∧ o' = o)) : gz_ur I t o k v t' o' = I t' o' := by
  funext j
  exact if_neg (fun q => h ⟨q.1, q.2.1⟩)
theorem gz_uj_ne {I : Nat → Nat → Nat → Int64} {t o k t' o' : Nat} {v : Int64} (h : ¬ (t' = t ∧ o' = o)) : gz_uj I t o k v t' o' = I t' o' := by
  funext j
  exact if_neg (fun q => h ⟨q.1, q.2.1⟩)
theorem gz_ui_eq {I : Nat → Nat → Nat → Int32} {t o k : Nat} {v : Int32} : gz_ui I t o k v t o = upd (I t o) k v := by
  funext j
  simp [gz_ui, upd]
theorem gz_uj_eq {I : Nat → Nat → Nat → Int64} {t o k : Nat} {v : Int64} : gz_uj I t o k v t o = vp_updL (I t o) k v := by
  funext j
  simp [gz_uj, vp_updL]
theorem gz_fs_ui {g : gzG} {n : Nat} {Rf : Nat → Nat → Nat → Option (Nat × Nat)} {I : Nat → Nat → Nat → Int32} {J : Nat → Nat → Nat → Int64} {t o k : Nat} {v : Int32} {fl : List Bool} (h : fl[k]? = some false) :
    (gz_fs g (n, Rf, I, J) t o fl).set k (.int v) = gz_fs g (n, Rf, gz_ui I t o k v, J) t o fl := by
  apply List.ext_getElem?
  intro j
  rw [List.getElem?_set, gz_fs_len]
  have hk := (List.getElem?_eq_some_iff.mp h).1
  by_cases e : k = j
  · subst e
    rw [if_pos rfl, if_pos hk, gz_fs_get h]
    show _ = some (Value.int (gz_ui I t o k v t o k))
    rw [gz_ui_eq]
    simp [upd]
  · rw [if_neg e]
    by_cases hj : j < fl.length
    · have h2 : fl[j]? = some fl[j] := List.getElem?_eq_getElem hj
      rw [gz_fs_get h2, gz_fs_get h2]
      show some (if _ then _ else Value.int (I t o j)) = some (if _ then _ else Value.int (gz_ui I t o k v t o j))
      rw [gz_ui_eq]
      simp [upd, Ne.symm e]
    · rw [List.getElem?_eq_none (by rw [gz_fs_len]; omega), List.getElem?_eq_none (by rw [gz_fs_len]; omega)]
theorem gz_fs_ur {g : gzG} {n : Nat} {Rf : Nat → Nat → Nat → Option (Nat × Nat)} {I : Nat → Nat → Nat → Int32} {J : Nat → Nat → Nat → Int64} {t o k : Nat} {v : Nat × Nat} {fl : List Bool} (h : fl[k]? = some true) :
    (gz_fs g (n, Rf, I, J) t o fl).set k (.ref (gz_ad g v.1 v.2)) = gz_fs g (n, gz_ur Rf t o k (some v), I, J) t o fl := by
  apply List.ext_getElem?
  intro j
  rw [List.getElem?_set, gz_fs_len]
  have hk := (List.getElem?_eq_some_iff.mp h).1
  by_cases e : k = j
  · subst e
    rw [if_pos rfl, if_pos hk, gz_fs_get h]
    show _ = some (va_rf (gz_rf g (gz_ur Rf t o k (some v) t o k)))
    have : gz_ur Rf t o k (some v) t o k = some v := by simp [gz_ur]
    rw [this]
    rfl
  · rw [if_neg e]
    by_cases hj : j < fl.length
    · have h2 : fl[j]? = some fl[j] := List.getElem?_eq_getElem hj
      rw [gz_fs_get h2, gz_fs_get h2]
      have : gz_ur Rf t o k (some v) t o j = Rf t o j := by simp [gz_ur, Ne.symm e]
      show some (if _ then va_rf (gz_rf g (Rf t o j)) else _) = some (if _ then va_rf (gz_rf g (gz_ur Rf t o k (some v) t o j)) else _)
      rw [this]
    · rw [List.getElem?_eq_none (by rw [gz_fs_len]; omega), List.getElem?_eq_none (by rw [gz_fs_len]; omega)]
theorem gz_size {g : gzG} {S : gzS} {H : Heap} (hP : va_P g.2.2.2.1 vwCl (gz_ws g S) H) (hb : gz_b g ≤ H.size) : gz_b g + S.1 ≤ H.size := by
  cases hn : S.1 with
  | zero => exact hb
  | succ n =>
    have h1 : (gz_ws g S)[n]? = some (gz_b g + n, gz_cell g S (gzIdAt n).1 (gzIdAt n).2) := by
      unfold gz_ws
      rw [List.getElem?_map, List.getElem?_range (by omega)]
      rfl
    have := (hP n _ h1).lt
    have h2 : gz_b g + n < H.size := this
    omega
theorem gz_wdS {g : gzG} {S : gzS} {H : Heap} {locs : List Loc} (hW : gzWd g S H) (h4 : ∀ q ∈ locs, gz_b g ≤ q.base) : va_S (gzA g) g.2.1.heap H locs := by
  have := hW.2.1
  have e : gz_b g = g.2.1.heap.size := rfl
  exact ⟨by omega, fun q hq _ => hW.2.2.1 q hq, h4⟩
theorem gz_wdOf {g : gzG} {S' : gzS} {H1 : Heap} {locs : List Loc} (hP : va_P g.2.2.2.1 vwCl (gz_ws g S') H1) (hS : va_S (gzA g) g.2.1.heap H1 locs) (hN : S'.1 ≤ gzN) : gzWd g S' H1 :=
  ⟨hP, gz_size hP hS.1, fun q hq => hS.2.1 q hq (Nat.not_le.mpr hq), hN⟩
section
variable {g : gzG} {zm d : Nat} {y : gzMe} {pc : Nat} {loc : List (Option gzV)} {st : List gzV} {z : Nat} {Q : gzO → gzS → Prop} {n : Nat} {Rf : Nat → Nat → Nat → Option (Nat × Nat)} {I : Nat → Nat → Nat → Int32} {J : Nat → Nat → Nat → Int64}
theorem gz_getI {t o ci k index : Nat} {r : vw_C} (hd : decode y.2.1 pc = .ok (.getfield index, 3)) (hv : gzOk t o n) (ho : gzKd o = .inl ci) (hc : vwCl[ci]? = some r) (hk : k < r.2.2) (hf : (gzFk ci)[k]? = some false) (hw : Cond.fieldLink y.1.cls index (r.2.1 k).1 (r.2.1 k).2.1 (r.2.1 k).2.2.1 ∈ lw_tbl) (hg : goodWord (Cond.fieldLink y.1.cls index (r.2.1 k).1 (r.2.1 k).2.1 (r.2.1 k).2.2.1) = true)
    (kk : gzX g zm d y (pc + 3) loc (.inl (I t o k) :: st) (n, Rf, I, J) z Q) : gzX g zm d y pc loc (.inr (.inr (t, o)) :: st) (n, Rf, I, J) z Q := by
  intro S0 p e R s m args below meth c H locs ls C h1 h2 hW h4 hl
  exact va_get (C := r.1) (T := r.2.1) (N := r.2.2) (D := g.2.2.2.1) (ci := ci) (v := .int (I t o k)) C.1 C.2.1 (gz_cxL C hc args) (fun w h => h) C.2.2.2.2.1 (gz_cxK C) hW.1 (gzPos t o) (gz_wso hv ho) hc k hk (gz_cxw C hw hg args) (fun _ h => h) (gz_fs_get hf) hd (kk S0 p e R s m args below meth c H locs ls C h1 h2 hW h4 hl)
theorem gz_getR {t o ci k index : Nat} {q : Nat × Nat} {r : vw_C} (hd : decode y.2.1 pc = .ok (.getfield index, 3)) (hv : gzOk t o n) (hq : Rf t o k = some q) (ho : gzKd o = .inl ci) (hc : vwCl[ci]? = some r) (hk : k < r.2.2) (hf : (gzFk ci)[k]? = some true) (hw : Cond.fieldLink y.1.cls index (r.2.1 k).1 (r.2.1 k).2.1 (r.2.1 k).2.2.1 ∈ lw_tbl) (hg : goodWord (Cond.fieldLink y.1.cls index (r.2.1 k).1 (r.2.1 k).2.1 (r.2.1 k).2.2.1) = true)
    (kk : gzX g zm d y (pc + 3) loc (.inr (.inr q) :: st) (n, Rf, I, J) z Q) : gzX g zm d y pc loc (.inr (.inr (t, o)) :: st) (n, Rf, I, J) z Q := by
  intro S0 p e R s m args below meth c H locs ls C h1 h2 hW h4 hl
  have hf2 := gz_fs_get (g := g) (S := (n, Rf, I, J)) (t := t) (o := o) hf
  have e1 : (n, Rf, I, J).2.1 t o k = some q := hq
  rw [e1] at hf2
  exact va_get (C := r.1) (T := r.2.1) (N := r.2.2) (D := g.2.2.2.1) (ci := ci) (v := .ref (gz_ad g q.1 q.2)) C.1 C.2.1 (gz_cxL C hc args) (fun w h => h) C.2.2.2.2.1 (gz_cxK C) hW.1 (gzPos t o) (gz_wso hv ho) hc k hk (gz_cxw C hw hg args) (fun _ h => h) hf2 hd (kk S0 p e R s m args below meth c H locs ls C h1 h2 hW h4 hl)
theorem gz_putI {t o ci k index : Nat} {v : Int32} {r : vw_C} (hd : decode y.2.1 pc = .ok (.putfield index, 3)) (hv : gzOk t o n) (hb : gzTyc ci k = .int ∨ (gzTyc ci k = .boolean ∧ (v = 0 ∨ v = 1))) (ho : gzKd o = .inl ci) (hc : vwCl[ci]? = some r) (hk : k < r.2.2) (hf : (gzFk ci)[k]? = some false) (hfin : (r.2.1 k).2.2.2 = false) (hw : Cond.fieldLink y.1.cls index (r.2.1 k).1 (r.2.1 k).2.1 (r.2.1 k).2.2.1 ∈ lw_tbl) (hg : goodWord (Cond.fieldLink y.1.cls index (r.2.1 k).1 (r.2.1 k).2.1 (r.2.1 k).2.2.1) = true)
    (kk : gzX g zm d y (pc + 3) loc st (n, Rf, gz_ui I t o k v, J) z Q) : gzX g zm d y pc loc (.inl v :: .inr (.inr (t, o)) :: st) (n, Rf, I, J) z Q := by
  intro S0 p e R s m args below meth c H locs ls C h1 h2 hW h4 hl
  have hn : narrow (gzTyc ci k) (.int v) = .int v := by
    rcases hb with h | ⟨h, rfl | rfl⟩ <;> rw [h] <;> rfl
  have hfit : fits (gzTyc ci k) (.int v) = true := by
    rcases hb with h | ⟨h, rfl | rfl⟩ <;> rw [h] <;> rfl
  refine va_put (C := r.1) (T := r.2.1) (N := r.2.2) (D := g.2.2.2.1) (ci := ci) (v := .int v) (ty := gzTyc ci k) (A := gzA g) (H0 := g.2.1.heap) C.1 C.2.1 (gz_cxL C hc args) (fun w h => h) (gzTyc ci) (gz_tyok ci r hc).1 (gz_tyok ci r hc).2 C.2.2.2.2.1 (gz_cxK C) hW.1 (gz_D g _) (gz_wdS hW h4) (gzPos t o) (gz_wso hv ho) hc k hk (gz_cxw C hw hg args) (fun _ h => h) hfin ((gz_tyok ci r hc).1 k hk) hn hfit (by rw [gz_fs_len, gz_flen hc]; exact hk) hd (fun H1 locs1 hP hD hS => ?_)
  rw [gz_fs_ui hf, ← gz_cell_o (S := (n, Rf, gz_ui I t o k v, J)) ho, gz_ws_set (S' := (n, Rf, gz_ui I t o k v, J)) hv hW.2.2.2 rfl (fun t' o' h => gz_cell_congr rfl (gz_ui_ne h) rfl)] at hP
  exact kk S0 p e R s m args below meth c H1 locs1 ls C h1 h2 (gz_wdOf hP hS hW.2.2.2) hS.2.2 hl
theorem gz_putR {t o ci k index : Nat} {v : Nat × Nat} {r : vw_C} (hd : decode y.2.1 pc = .ok (.putfield index, 3)) (hv : gzOk t o n) (hname : y.1.name = "<init>") (hcls : (r.2.1 k).1 = y.1.cls) (ho : gzKd o = .inl ci) (hc : vwCl[ci]? = some r) (hk : k < r.2.2) (hf : (gzFk ci)[k]? = some true) (hfin : (r.2.1 k).2.2.2 = true) (hw : Cond.fieldLink y.1.cls index (r.2.1 k).1 (r.2.1 k).2.1 (r.2.1 k).2.2.1 ∈ lw_tbl) (hg : goodWord (Cond.fieldLink y.1.cls index (r.2.1 k).1 (r.2.1 k).2.1 (r.2.1 k).2.2.1) = true)
    (kk : gzX g zm d y (pc + 3) loc st (n, gz_ur Rf t o k (some v), I, J) z Q) : gzX g zm d y pc loc (.inr (.inr v) :: .inr (.inr (t, o)) :: st) (n, Rf, I, J) z Q := by
  intro S0 p e R s m args below meth c H locs ls C h1 h2 hW h4 hl
  have hty := gz_tyfl hc hk
  rw [List.getD_eq_getElem?_getD, hf] at hty
  have hn : narrow (gzTyc ci k) (.ref (gz_ad g v.1 v.2)) = .ref (gz_ad g v.1 v.2) ∧ fits (gzTyc ci k) (.ref (gz_ad g v.1 v.2)) = true := by
    rcases hty with ⟨⟨n, h⟩, -⟩ | ⟨⟨n, h⟩, -⟩ | ⟨-, h⟩
    · rw [h]; exact ⟨rfl, rfl⟩
    · rw [h]; exact ⟨rfl, rfl⟩
    · cases h
  refine va_putF (C := r.1) (T := r.2.1) (N := r.2.2) (D := g.2.2.2.1) (ci := ci) (v := .ref (gz_ad g v.1 v.2)) (ty := gzTyc ci k) (A := gzA g) (H0 := g.2.1.heap) C.1 C.2.1 (gz_cxL C hc args) (fun w h => h) (gzTyc ci) (gz_tyok ci r hc).1 (gz_tyok ci r hc).2 C.2.2.2.2.1 (gz_cxK C) hW.1 (gz_D g _) (gz_wdS hW h4) (gzPos t o) (gz_wso hv ho) hc k hk (gz_cxw C hw hg args) (fun _ h => h) hfin (C.2.2.2.2.2.2.2.1.trans hname) hcls ((gz_tyok ci r hc).1 k hk) hn.1 hn.2 (by rw [gz_fs_len, gz_flen hc]; exact hk) hd (fun H1 locs1 hP hD hS => ?_)
  rw [gz_fs_ur hf, ← gz_cell_o (S := (n, gz_ur Rf t o k (some v), I, J)) ho, gz_ws_set (S' := (n, gz_ur Rf t o k (some v), I, J)) hv hW.2.2.2 rfl (fun t' o' h => gz_cell_congr (gz_ur_ne h) rfl rfl)] at hP
  exact kk S0 p e R s m args below meth c H1 locs1 ls C h1 h2 (gz_wdOf hP hS hW.2.2.2) hS.2.2 hl
theorem gz_iald {t o N : Nat} {i : Int32} (hd : decode y.2.1 pc = .ok (.iaload, 1)) (hv : gzOk t o n) (ho : gzKd o = .inr (.int, N)) (hin : vp_in i N)
    (kk : gzX g zm d y (pc + 1) loc (.inl (I t o i.toNatClampNeg) :: st) (n, Rf, I, J) z Q) : gzX g zm d y pc loc (.inl i :: .inr (.inr (t, o)) :: st) (n, Rf, I, J) z Q := by
  intro S0 p e R s m args below meth c H locs ls C h1 h2 hW h4 hl
  exact va_iald (tys := gzTys g) C.1 C.2.1 (gz_cxK C) hW.1 (gzPos t o) 0 (gz_wsa hv ho) rfl hin hd (kk S0 p e R s m args below meth c H locs ls C h1 h2 hW h4 hl)
theorem gz_zald {t o N : Nat} {i : Int32} (hd : decode y.2.1 pc = .ok (.baload, 1)) (hv : gzOk t o n) (ho : gzKd o = .inr (.boolean, N)) (hin : vp_in i N)
    (kk : gzX g zm d y (pc + 1) loc (.inl (I t o i.toNatClampNeg) :: st) (n, Rf, I, J) z Q) : gzX g zm d y pc loc (.inl i :: .inr (.inr (t, o)) :: st) (n, Rf, I, J) z Q := by
  intro S0 p e R s m args below meth c H locs ls C h1 h2 hW h4 hl
  exact va_zald (tys := gzTys g) C.1 C.2.1 (gz_cxK C) hW.1 (gzPos t o) 2 (gz_wsa hv ho) rfl hin hd (kk S0 p e R s m args below meth c H locs ls C h1 h2 hW h4 hl)
theorem gz_bald {t o N : Nat} {i : Int32} (hd : decode y.2.1 pc = .ok (.baload, 1)) (hv : gzOk t o n) (ho : gzKd o = .inr (.byte, N)) (hin : vp_in i N)
    (kk : gzX g zm d y (pc + 1) loc (.inl (I t o i.toNatClampNeg) :: st) (n, Rf, I, J) z Q) : gzX g zm d y pc loc (.inl i :: .inr (.inr (t, o)) :: st) (n, Rf, I, J) z Q := by
  intro S0 p e R s m args below meth c H locs ls C h1 h2 hW h4 hl
  exact va_bald (tys := gzTys g) C.1 C.2.1 (gz_cxK C) hW.1 (gzPos t o) 3 (gz_wsa hv ho) rfl hin hd (kk S0 p e R s m args below meth c H locs ls C h1 h2 hW h4 hl)
theorem gz_lald {t o N : Nat} {i : Int32} (hd : decode y.2.1 pc = .ok (.laload, 1)) (hv : gzOk t o n) (ho : gzKd o = .inr (.long, N)) (hin : vp_in i N)
    (kk : gzX g zm d y (pc + 1) loc (.inr (.inl (J t o i.toNatClampNeg)) :: st) (n, Rf, I, J) z Q) : gzX g zm d y pc loc (.inl i :: .inr (.inr (t, o)) :: st) (n, Rf, I, J) z Q := by
  intro S0 p e R s m args below meth c H locs ls C h1 h2 hW h4 hl
  exact va_lald (tys := gzTys g) C.1 C.2.1 (gz_cxK C) hW.1 (gzPos t o) 1 (gz_wsa hv ho) rfl hin hd (kk S0 p e R s m args below meth c H locs ls C h1 h2 hW h4 hl)
theorem gz_aald {t o N : Nat} {i : Int32} {q : Nat × Nat} (hd : decode y.2.1 pc = .ok (.aaload, 1)) (hv : gzOk t o n) (hq : Rf t o i.toNatClampNeg = some q) (ho : gzKd o = .inr (.object "GrudgeIce$Town", N)) (hin : vp_in i N)
    (kk : gzX g zm d y (pc + 1) loc (.inr (.inr q) :: st) (n, Rf, I, J) z Q) : gzX g zm d y pc loc (.inl i :: .inr (.inr (t, o)) :: st) (n, Rf, I, J) z Q := by
  intro S0 p e R s m args below meth c H locs ls C h1 h2 hW h4 hl
  have k2 := kk S0 p e R s m args below meth c H locs ls C h1 h2 hW h4 hl
  refine va_aldq (tys := gzTys g) (C := "GrudgeIce$Town") C.1 C.2.1 (gz_cxK C) hW.1 (gzPos t o) 4 (gz_wsa hv ho) rfl hin hd ?_
  show W p g.1 e R s m args below meth c H locs _ _ _ (F0 m (pc + 1) ls (va_rf (gz_rf g (Rf t o i.toNatClampNeg)) :: _))
  rw [hq]
  exact k2
theorem gz_alen {t o N : Nat} {ty : FieldType} {v : Int32} (hd : decode y.2.1 pc = .ok (.arraylength, 1)) (hv : gzOk t o n) (ho : gzKd o = .inr (ty, N)) (hty : ty = .int ∨ ty = .long ∨ ty = .boolean ∨ ty = .byte) (hN : Int32.ofNat N = v)
    (kk : gzX g zm d y (pc + 1) loc (.inl v :: st) (n, Rf, I, J) z Q) : gzX g zm d y pc loc (.inr (.inr (t, o)) :: st) (n, Rf, I, J) z Q := by
  intro S0 p e R s m args below meth c H locs ls C h1 h2 hW h4 hl
  have k2 := kk S0 p e R s m args below meth c H locs ls C h1 h2 hW h4 hl
  rcases hty with rfl | rfl | rfl | rfl
  · exact va_alen (tys := gzTys g) C.1 C.2.1 (gz_cxK C) hW.1 (gzPos t o) 0 (gz_wsa hv ho) rfl hN hd k2
  · exact va_alen (tys := gzTys g) C.1 C.2.1 (gz_cxK C) hW.1 (gzPos t o) 1 (gz_wsa hv ho) rfl hN hd k2
  · exact va_alen (tys := gzTys g) C.1 C.2.1 (gz_cxK C) hW.1 (gzPos t o) 2 (gz_wsa hv ho) rfl hN hd k2
  · exact va_alen (tys := gzTys g) C.1 C.2.1 (gz_cxK C) hW.1 (gzPos t o) 3 (gz_wsa hv ho) rfl hN hd k2
theorem gz_iast {t o N : Nat} {i x : Int32} (hd : decode y.2.1 pc = .ok (.iastore, 1)) (hv : gzOk t o n) (ho : gzKd o = .inr (.int, N)) (hin : vp_in i N)
    (kk : gzX g zm d y (pc + 1) loc st (n, Rf, gz_ui I t o i.toNatClampNeg x, J) z Q) : gzX g zm d y pc loc (.inl x :: .inl i :: .inr (.inr (t, o)) :: st) (n, Rf, I, J) z Q := by
  intro S0 p e R s m args below meth c H locs ls C h1 h2 hW h4 hl
  refine va_iast (tys := gzTys g) (A := gzA g) (H0 := g.2.1.heap) C.1 C.2.1 (gz_cxK C) hW.1 (gz_D g _) (gz_wdS hW h4) (gzPos t o) 0 (gz_wsa hv ho) rfl hin hd (fun H1 locs1 hP hD hS => ?_)
  rw [show upd (I t o) i.toNatClampNeg x = gz_ui I t o i.toNatClampNeg x t o from gz_ui_eq.symm] at hP
  rw [show (Sum.inl (g.2.2.2.2.1 FieldType.int, N, Sum.inl (gz_ui I t o i.toNatClampNeg x t o)) : va_E) = gz_cell g (n, Rf, gz_ui I t o i.toNatClampNeg x, J) t o from (gz_cell_a (g := g) (S := (n, Rf, gz_ui I t o i.toNatClampNeg x, J)) (t := t) ho).symm, gz_ws_set (S' := (n, Rf, gz_ui I t o i.toNatClampNeg x, J)) hv hW.2.2.2 rfl (fun t' o' h => gz_cell_congr rfl (gz_ui_ne h) rfl)] at hP
  exact kk S0 p e R s m args below meth c H1 locs1 ls C h1 h2 (gz_wdOf hP hS hW.2.2.2) hS.2.2 hl
theorem gz_zast {t o N : Nat} {i x : Int32} (hd : decode y.2.1 pc = .ok (.bastore, 1)) (hv : gzOk t o n) (ho : gzKd o = .inr (.boolean, N)) (hin : vp_in i N) (hx : x = 0 ∨ x = 1)
    (kk : gzX g zm d y (pc + 1) loc st (n, Rf, gz_ui I t o i.toNatClampNeg x, J) z Q) : gzX g zm d y pc loc (.inl x :: .inl i :: .inr (.inr (t, o)) :: st) (n, Rf, I, J) z Q := by
  intro S0 p e R s m args below meth c H locs ls C h1 h2 hW h4 hl
  refine va_zast (tys := gzTys g) (A := gzA g) (H0 := g.2.1.heap) C.1 C.2.1 (gz_cxK C) hW.1 (gz_D g _) (gz_wdS hW h4) (gzPos t o) 2 (gz_wsa hv ho) rfl hin hd (fun H1 locs1 hP hD hS => ?_)
  rw [show vp_nar .boolean x = x by rcases hx with rfl | rfl <;> rfl, show upd (I t o) i.toNatClampNeg x = gz_ui I t o i.toNatClampNeg x t o from gz_ui_eq.symm] at hP
  rw [show (Sum.inl (g.2.2.2.2.1 FieldType.boolean, N, Sum.inl (gz_ui I t o i.toNatClampNeg x t o)) : va_E) = gz_cell g (n, Rf, gz_ui I t o i.toNatClampNeg x, J) t o from (gz_cell_a (g := g) (S := (n, Rf, gz_ui I t o i.toNatClampNeg x, J)) (t := t) ho).symm, gz_ws_set (S' := (n, Rf, gz_ui I t o i.toNatClampNeg x, J)) hv hW.2.2.2 rfl (fun t' o' h => gz_cell_congr rfl (gz_ui_ne h) rfl)] at hP
  exact kk S0 p e R s m args below meth c H1 locs1 ls C h1 h2 (gz_wdOf hP hS hW.2.2.2) hS.2.2 hl
theorem gz_bast {t o N : Nat} {i x : Int32} (hd : decode y.2.1 pc = .ok (.bastore, 1)) (hv : gzOk t o n) (ho : gzKd o = .inr (.byte, N)) (hin : vp_in i N)
    (kk : gzX g zm d y (pc + 1) loc st (n, Rf, gz_ui I t o i.toNatClampNeg x.toInt8.toInt32, J) z Q) : gzX g zm d y pc loc (.inl x :: .inl i :: .inr (.inr (t, o)) :: st) (n, Rf, I, J) z Q := by
  intro S0 p e R s m args below meth c H locs ls C h1 h2 hW h4 hl
  refine va_bast (tys := gzTys g) (A := gzA g) (H0 := g.2.1.heap) C.1 C.2.1 (gz_cxK C) hW.1 (gz_D g _) (gz_wdS hW h4) (gzPos t o) 3 (gz_wsa hv ho) rfl hin hd (fun H1 locs1 hP hD hS => ?_)
  rw [vp_nar_byte, show upd (I t o) i.toNatClampNeg x.toInt8.toInt32 = gz_ui I t o i.toNatClampNeg x.toInt8.toInt32 t o from gz_ui_eq.symm] at hP
  rw [show (Sum.inl (g.2.2.2.2.1 FieldType.byte, N, Sum.inl (gz_ui I t o i.toNatClampNeg x.toInt8.toInt32 t o)) : va_E) = gz_cell g (n, Rf, gz_ui I t o i.toNatClampNeg x.toInt8.toInt32, J) t o from (gz_cell_a (g := g) (S := (n, Rf, gz_ui I t o i.toNatClampNeg x.toInt8.toInt32, J)) (t := t) ho).symm, gz_ws_set (S' := (n, Rf, gz_ui I t o i.toNatClampNeg x.toInt8.toInt32, J)) hv hW.2.2.2 rfl (fun t' o' h => gz_cell_congr rfl (gz_ui_ne h) rfl)] at hP
  exact kk S0 p e R s m args below meth c H1 locs1 ls C h1 h2 (gz_wdOf hP hS hW.2.2.2) hS.2.2 hl
theorem gz_last {t o N : Nat} {i : Int32} {x : Int64} (hd : decode y.2.1 pc = .ok (.lastore, 1)) (hv : gzOk t o n) (ho : gzKd o = .inr (.long, N)) (hin : vp_in i N)
    (kk : gzX g zm d y (pc + 1) loc st (n, Rf, I, gz_uj J t o i.toNatClampNeg x) z Q) : gzX g zm d y pc loc (.inr (.inl x) :: .inl i :: .inr (.inr (t, o)) :: st) (n, Rf, I, J) z Q := by
  intro S0 p e R s m args below meth c H locs ls C h1 h2 hW h4 hl
  refine va_last (tys := gzTys g) (A := gzA g) (H0 := g.2.1.heap) C.1 C.2.1 (gz_cxK C) hW.1 (gz_D g _) (gz_wdS hW h4) (gzPos t o) 1 (gz_wsa hv ho) rfl hin hd (fun H1 locs1 hP hD hS => ?_)
  rw [show vp_updL (J t o) i.toNatClampNeg x = gz_uj J t o i.toNatClampNeg x t o from gz_uj_eq.symm] at hP
  rw [show (Sum.inl (g.2.2.2.2.1 FieldType.long, N, Sum.inr (Sum.inl (gz_uj J t o i.toNatClampNeg x t o))) : va_E) = gz_cell g (n, Rf, I, gz_uj J t o i.toNatClampNeg x) t o from (gz_cell_a (g := g) (S := (n, Rf, I, gz_uj J t o i.toNatClampNeg x)) (t := t) ho).symm, gz_ws_set (S' := (n, Rf, I, gz_uj J t o i.toNatClampNeg x)) hv hW.2.2.2 rfl (fun t' o' h => gz_cell_congr rfl rfl (gz_uj_ne h))] at hP
  exact kk S0 p e R s m args below meth c H1 locs1 ls C h1 h2 (gz_wdOf hP hS hW.2.2.2) hS.2.2 hl
end
