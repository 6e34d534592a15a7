/-! what the methods answer, as functions: the words they are written in -/
abbrev gzIT : Type := Nat → Nat → Nat → Int32
abbrev gzJT : Type := Nat → Nat → Nat → Int64
def gzGd {α : Type} (i : Int32) (n : Nat) (x : Option α) : Option α := if i < 0 ∨ n ≤ i.toNatClampNeg then none else x
def gzGn {α : Type} (i : Int32) (x : Option α) : Option α := if i = 0 then none else x
def gzGm {α : Type} (i : Int64) (x : Option α) : Option α := if i = 0 then none else x
def gzGz {α : Type} (i : Int32) (x : Option α) : Option α := if i = 0 ∨ i = 1 then x else none
def gzEx {α β : Type} (x : Except String α) (e : String → β) (k : α → β) : β := match x with
  | .error E => e E
  | .ok v => k v
def gzRI (x : Except String Int32) : gzO := match x with
  | .error E => .error E
  | .ok v => .ok (some (.inl v))
def gzRJ (x : Except String Int64) : gzO := match x with
  | .error E => .error E
  | .ok v => .ok (some (.inr (.inl v)))
def gzRV (x : Except String Unit) : gzO := match x with
  | .error E => .error E
  | .ok _ => .ok none
theorem gz_gd {α : Type} {i : Int32} {n : Nat} {x : Option α} {r : α} (h : gzGd i n x = some r) : vp_in i n ∧ x = some r := by
  unfold gzGd at h
  split at h
  · cases h
  · exact ⟨by assumption, h⟩
theorem gz_gn {α : Type} {i : Int32} {x : Option α} {r : α} (h : gzGn i x = some r) : (¬ i = 0) ∧ x = some r := by
  unfold gzGn at h
  split at h
  · cases h
  · exact ⟨by assumption, h⟩
theorem gz_gm {α : Type} {i : Int64} {x : Option α} {r : α} (h : gzGm i x = some r) : (¬ i = 0) ∧ x = some r := by
  unfold gzGm at h
  split at h
  · cases h
  · exact ⟨by assumption, h⟩
theorem gz_gz {α : Type} {i : Int32} {x : Option α} {r : α} (h : gzGz i x = some r) : (i = 0 ∨ i = 1) ∧ x = some r := by
  unfold gzGz at h
  split at h
  · exact ⟨by assumption, h⟩
  · cases h
theorem gz_bd {α β : Type} {x : Option α} {k : α → Option β} {r : β} (h : Option.bind x k = some r) : ∃ v, x = some v ∧ k v = some r := by
  cases x with
  | none => cases h
  | some v => exact ⟨v, rfl, h⟩
theorem gz_ifp {α : Type} {c : Prop} [Decidable c] {a b r : α} (hc : c) (h : (if c then a else b) = r) : a = r := by rw [if_pos hc] at h; exact h
theorem gz_ifn {α : Type} {c : Prop} [Decidable c] {a b r : α} (hc : ¬ c) (h : (if c then a else b) = r) : b = r := by rw [if_neg hc] at h; exact h
theorem gz_exo {α β : Type} {x : Except String α} {e : String → β} {k : α → β} {w : α} {r : β} (hx : x = .ok w) (h : gzEx x e k = r) : k w = r := by rw [hx] at h; exact h
theorem gz_exe {α β : Type} {x : Except String α} {e : String → β} {k : α → β} {E : String} {r : β} (hx : x = .error E) (h : gzEx x e k = r) : e E = r := by rw [hx] at h; exact h
theorem gz_ite01 {c : Prop} [Decidable c] : (if c then (0 : Int32) else 1) = 0 ∨ (if c then (0 : Int32) else 1) = 1 := by split <;> simp
theorem gz_ite10 {c : Prop} [Decidable c] : (if c then (1 : Int32) else 0) = 0 ∨ (if c then (1 : Int32) else 0) = 1 := by split <;> simp
theorem gz_neI {a b : Int32} (h : ¬ a = b) : a.toInt ≠ b.toInt := fun q => h (Int32.toInt_inj.mp q)
theorem gz_sw0_7 {a : Int32} (c0 : ¬ a = 0) (c1 : ¬ a = 1) (c2 : ¬ a = 2) (c3 : ¬ a = 3) (c4 : ¬ a = 4) (c5 : ¬ a = 5) (c6 : ¬ a = 6) : a.toInt < 0 ∨ 6 < a.toInt := by
  have d0 : a.toInt ≠ 0 := gz_neI c0
  have d1 : a.toInt ≠ 1 := gz_neI c1
  have d2 : a.toInt ≠ 2 := gz_neI c2
  have d3 : a.toInt ≠ 3 := gz_neI c3
  have d4 : a.toInt ≠ 4 := gz_neI c4
  have d5 : a.toInt ≠ 5 := gz_neI c5
  have d6 : a.toInt ≠ 6 := gz_neI c6
  omega
theorem gz_sw7_4 {a : Int32} (c0 : ¬ a = 7) (c1 : ¬ a = 8) (c2 : ¬ a = 9) (c3 : ¬ a = 10) : a.toInt < 7 ∨ 10 < a.toInt := by
  have d0 : a.toInt ≠ 7 := gz_neI c0
  have d1 : a.toInt ≠ 8 := gz_neI c1
  have d2 : a.toInt ≠ 9 := gz_neI c2
  have d3 : a.toInt ≠ 10 := gz_neI c3
  omega
theorem gz_sw4_3 {a : Int32} (c0 : ¬ a = 4) (c1 : ¬ a = 5) (c2 : ¬ a = 6) : a.toInt < 4 ∨ 6 < a.toInt := by
  have d0 : a.toInt ≠ 4 := gz_neI c0
  have d1 : a.toInt ≠ 5 := gz_neI c1
  have d2 : a.toInt ≠ 6 := gz_neI c2
  omega
theorem gz_sw0_3 {a : Int32} (c0 : ¬ a = 0) (c1 : ¬ a = 1) (c2 : ¬ a = 2) : a.toInt < 0 ∨ 2 < a.toInt := by
  have d0 : a.toInt ≠ 0 := gz_neI c0
  have d1 : a.toInt ≠ 1 := gz_neI c1
  have d2 : a.toInt ≠ 2 := gz_neI c2
  omega
theorem gz_sw0_12 {a : Int32} (c0 : ¬ a = 0) (c1 : ¬ a = 1) (c2 : ¬ a = 2) (c3 : ¬ a = 3) (c4 : ¬ a = 4) (c5 : ¬ a = 5) (c6 : ¬ a = 6) (c7 : ¬ a = 7) (c8 : ¬ a = 8) (c9 : ¬ a = 9) (c10 : ¬ a = 10) (c11 : ¬ a = 11) : a.toInt < 0 ∨ 11 < a.toInt := by
  have d0 : a.toInt ≠ 0 := gz_neI c0
  have d1 : a.toInt ≠ 1 := gz_neI c1
  have d2 : a.toInt ≠ 2 := gz_neI c2
  have d3 : a.toInt ≠ 3 := gz_neI c3
  have d4 : a.toInt ≠ 4 := gz_neI c4
  have d5 : a.toInt ≠ 5 := gz_neI c5
  have d6 : a.toInt ≠ 6 := gz_neI c6
  have d7 : a.toInt ≠ 7 := gz_neI c7
  have d8 : a.toInt ≠ 8 := gz_neI c8
  have d9 : a.toInt ≠ 9 := gz_neI c9
  have d10 : a.toInt ≠ 10 := gz_neI c10
  have d11 : a.toInt ≠ 11 := gz_neI c11
  omega
theorem gz_sw0_11 {a : Int32} (c0 : ¬ a = 0) (c1 : ¬ a = 1) (c2 : ¬ a = 2) (c3 : ¬ a = 3) (c4 : ¬ a = 4) (c5 : ¬ a = 5) (c6 : ¬ a = 6) (c7 : ¬ a = 7) (c8 : ¬ a = 8) (c9 : ¬ a = 9) (c10 : ¬ a = 10) : a.toInt < 0 ∨ 10 < a.toInt := by
  have d0 : a.toInt ≠ 0 := gz_neI c0
  have d1 : a.toInt ≠ 1 := gz_neI c1
  have d2 : a.toInt ≠ 2 := gz_neI c2
  have d3 : a.toInt ≠ 3 := gz_neI c3
  have d4 : a.toInt ≠ 4 := gz_neI c4
  have d5 : a.toInt ≠ 5 := gz_neI c5
  have d6 : a.toInt ≠ 6 := gz_neI c6
  have d7 : a.toInt ≠ 7 := gz_neI c7
  have d8 : a.toInt ≠ 8 := gz_neI c8
  have d9 : a.toInt ≠ 9 := gz_neI c9
  have d10 : a.toInt ≠ 10 := gz_neI c10
  omega
theorem gz_vpd {i : Int32} {n : Nat} (h : 0 ≤ i.toInt ∧ i.toNatClampNeg < n) : vp_in i n := by
  unfold vp_in
  intro q
  rcases q with q | q
  · have := Int32.lt_iff_toInt_lt.mp q
    have h0 : (0 : Int32).toInt = 0 := rfl
    omega
  · omega
section
variable {g : gzG} {zm d : Nat} {y zy : gzMe} {pc : Nat} {loc : List (Option gzV)} {st as : List gzV} {z : Nat} {Q : gzO → gzS → Prop} {S S2 : gzS} {E : String}
theorem gz_useTI {x : Except String Int32} (hx : x = .error E) (h : gzC g 0 d zy as S (gzE (gzRI x) S2)) (k : Q (.error E) S2) : gzC g 0 d zy as S (gzK g zm (d + 1) y pc loc st z Q) := by
  subst hx; exact gz_useT h k
theorem gz_useOI {x : Except String Int32} {w : Int32} (hx : x = .ok w) (h : gzC g 0 d zy as S (gzE (gzRI x) S2)) (k : gzX g zm (d + 1) y pc loc (.inl w :: st) S2 z Q) : gzC g 0 d zy as S (gzK g zm (d + 1) y pc loc st z Q) := by
  subst hx; exact gz_useI h k
theorem gz_useTJ {x : Except String Int64} (hx : x = .error E) (h : gzC g 0 d zy as S (gzE (gzRJ x) S2)) (k : Q (.error E) S2) : gzC g 0 d zy as S (gzK g zm (d + 1) y pc loc st z Q) := by
  subst hx; exact gz_useT h k
theorem gz_useOJ {x : Except String Int64} {w : Int64} (hx : x = .ok w) (h : gzC g 0 d zy as S (gzE (gzRJ x) S2)) (k : gzX g zm (d + 1) y pc loc (.inr (.inl w) :: st) S2 z Q) : gzC g 0 d zy as S (gzK g zm (d + 1) y pc loc st z Q) := by
  subst hx; exact gz_useI h k
theorem gz_useTV {x : Except String Unit} (hx : x = .error E) (h : gzC g 0 d zy as S (gzE (gzRV x) S2)) (k : Q (.error E) S2) : gzC g 0 d zy as S (gzK g zm (d + 1) y pc loc st z Q) := by
  subst hx; exact gz_useT h k
theorem gz_useOV {x : Except String Unit} {w : Unit} (hx : x = .ok w) (h : gzC g 0 d zy as S (gzE (gzRV x) S2)) (k : gzX g zm (d + 1) y pc loc st S2 z Q) : gzC g 0 d zy as S (gzK g zm (d + 1) y pc loc st z Q) := by
  subst hx; exact gz_useV h k
end
theorem gz_lswo_1 {a : Int32} (c0 : ¬ a = 1028) (c1 : ¬ a = 1029) (c2 : ¬ a = 2060) (c3 : ¬ a = 2062) : Op.lookupswitch.offset (#[((1028 : Int), (43 : Int)), (1029, 47), (2060, 51), (2062, 62)] : Array (Int × Int)).toList 73 a.toInt = 73 := by
  have d0 : (1028 : Int) ≠ a.toInt := fun q => gz_neI c0 q.symm
  have d1 : (1029 : Int) ≠ a.toInt := fun q => gz_neI c1 q.symm
  have d2 : (2060 : Int) ≠ a.toInt := fun q => gz_neI c2 q.symm
  have d3 : (2062 : Int) ≠ a.toInt := fun q => gz_neI c3 q.symm
  show Op.lookupswitch.offset [((1028 : Int), (43 : Int)), (1029, 47), (2060, 51), (2062, 62)] 73 a.toInt = 73
  simp only [Op.lookupswitch.offset, if_neg d0, if_neg d1, if_neg d2, if_neg d3]
theorem gk_acp : gz_in (.methodLink RX11 468 arraycopyName) := gz_t2 204 (by decide +kernel) rfl
theorem gk_acs : gz_in (.static arraycopyName) := gz_t2 205 (by decide +kernel) rfl
theorem gk_acn : gz_in (.native arraycopyName) := gz_t2 206 (by decide +kernel) rfl
theorem gk_sys : gz_in (.initialized "java/lang/System") := gz_t1 19 (by decide +kernel) rfl
def gzCp {α : Type} (sp dp len : Int32) (N N2 : Nat) (x : Option α) : Option α := if sp < 0 ∨ dp < 0 ∨ len < 0 ∨ N < sp.toNatClampNeg + len.toNatClampNeg ∨ N2 < dp.toNatClampNeg + len.toNatClampNeg then none else x
theorem gz_cp {α : Type} {sp dp len : Int32} {N N2 : Nat} {x : Option α} {r : α} (h : gzCp sp dp len N N2 x = some r) : ((¬ sp < 0) ∧ (¬ dp < 0) ∧ (¬ len < 0) ∧ sp.toNatClampNeg + len.toNatClampNeg ≤ N ∧ dp.toNatClampNeg + len.toNatClampNeg ≤ N2) ∧ x = some r := by
  unfold gzCp at h
  split at h
  · cases h
  · rename_i q
    exact ⟨⟨fun c => q (Or.inl c), fun c => q (Or.inr (Or.inl c)), fun c => q (Or.inr (Or.inr (Or.inl c))), by omega, by omega⟩, h⟩
def gzRf : Nat := 10
section
variable {g : gzG} {zm d : Nat} {y : gzMe} {pc : Nat} {loc : List (Option gzV)} {st : List gzV} {z : Nat} {Q : gzO → gzS → Prop} {S : gzS}
theorem gz_ldcS {i is : Nat} {text : String} (hd : decode y.2.1 pc = .ok (.ldc is, 2)) (hi : gzStrs[i]? = some (y.1.cls, is, text)) (k : gzX g zm d y (pc + 2) loc (.inr (.inr (i, 60)) :: st) S z Q) : gzX g zm d y pc loc st S z Q := fun S0 p e R s m args below meth c H locs ls C h1 h2 hW h4 hl => va_ldcS C.1 C.2.1 C.2.2.2.2.1 (gz_strAt C hi) hd (k S0 p e R s m args below meth c H locs ls C h1 h2 hW h4 hl)
theorem gz_strlen {i index : Nat} (hd : decode y.2.1 pc = .ok (.invokevirtual index, 3)) (hL : gz_in (.methodLink y.1.cls index yJ0_length_8abf5)) (hi : i < gzSn) (hst : (st.map fun v => (gz_v g v).category).sum ≤ 8) (k : gzX g zm (d + 6) y (pc + 3) loc (.inl (Int32.ofNat (gzSb i).length) :: st) S z Q) (hz0 : z = 0 ∨ S.1 = gzN := by first | exact Or.inl rfl | exact Or.inr rfl) : gzX g zm (d + 6) y pc loc (.inr (.inr (i, 60)) :: st) S z Q :=
  gz_VS (d := d + 5) (zy := mJ0_length_8abf5) (zc := 0) [] rfl hd hL MvJ0_length_8abf5 rfl hi rfl hz0 (fun h => h) hst (gz_useI (d := d + 5) (c_J0_length (d := d + 4) hi) k)
theorem gz_strcat {i index : Nat} {n : Int32} (hd : decode y.2.1 pc = .ok (.invokevirtual index, 3)) (hL : gz_in (.methodLink y.1.cls index yJ0_charAt_5068e)) (hi : i < gzSn) (hn : vp_in n (gzSb i).length) (hst : (st.map fun v => (gz_v g v).category).sum ≤ 8) (k : gzX g zm (d + 6) y (pc + 3) loc (.inl ((gzSb i).getD n.toNatClampNeg 0) :: st) S z Q) (hz0 : z = 0 ∨ S.1 = gzN := by first | exact Or.inl rfl | exact Or.inr rfl) : gzX g zm (d + 6) y pc loc (.inl n :: .inr (.inr (i, 60)) :: st) S z Q :=
  gz_VS (d := d + 5) (zy := mJ0_charAt_5068e) (zc := 0) [.inl n] rfl hd hL MvJ0_charAt_5068e rfl hi rfl hz0 (fun h => h) hst (gz_useI (d := d + 5) (c_J0_charAt (d := d + 2) hi hn) k)
end
