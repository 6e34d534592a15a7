/-! the law's helpers: what each answers, by what the class's method answers -/
/-- a helper's end: e what the method answers, hs the exceptions in the order of the handlers -/
def gzHo (hs : List String) (cv : Int32 → Int64) (e : Except String Int32) (I1 : gzIT) (J1 : gzJT) : gzO → gzS → Prop := fun o S' => match e with
  | .ok v => o = .ok (some (.inl 0)) ∧ S' = (gzN, gzR0, I1, gz_uj J1 0 59 0 (cv v))
  | .error E => ∃ k, hs[k]? = some E ∧ o = .ok (some (.inl (Int32.ofNat (k + 1)))) ∧ S' = (gzN, gzR0, I1, J1)
def gzCvI (v : Int32) : Int64 := v.toInt64
def gzCvZ (v : Int32) : Int64 := if v = 0 then 0 else 1
theorem gzL_ini : gz_in (.initialized "GrudgeIceLaw") := gz_t1 0 (by decide +kernel) rfl
theorem gzL_cIllegalArgumentException : Cond.castable "java/lang/IllegalArgumentException" "java/lang/IllegalArgumentException" ∈ lw_tbl := gz_tm4 117 (by decide +kernel)
theorem gzL_cIllegalStateException : Cond.castable "java/lang/IllegalStateException" "java/lang/IllegalStateException" ∈ lw_tbl := gz_tm5 201 (by decide +kernel)
theorem gzL_cIndexOutOfBoundsException : Cond.castable "java/lang/IndexOutOfBoundsException" "java/lang/IndexOutOfBoundsException" ∈ lw_tbl := gz_tm5 61 (by decide +kernel)
theorem gzL_cUnsupportedOperationException : Cond.castable "java/lang/UnsupportedOperationException" "java/lang/UnsupportedOperationException" ∈ lw_tbl := gz_tm4 227 (by decide +kernel)
theorem gzL_cNoSuchElementException : Cond.castable "java/util/NoSuchElementException" "java/util/NoSuchElementException" ∈ lw_tbl := gz_tm5 86 (by decide +kernel)
set_option maxRecDepth 100000 in
theorem gzL_nIllegalArgumentException_IndexOutOfBoundsException : Cond.not (.castable "java/lang/IllegalArgumentException" "java/lang/IndexOutOfBoundsException") ∈ flatC narrow_1 := List.mem_of_getElem? (i := 56) (by decide +kernel)
set_option maxRecDepth 100000 in
theorem gzL_nIllegalStateException_IllegalArgumentException : Cond.not (.castable "java/lang/IllegalStateException" "java/lang/IllegalArgumentException") ∈ flatC narrow_1 := List.mem_of_getElem? (i := 25) (by decide +kernel)
set_option maxRecDepth 100000 in
theorem gzL_nIllegalStateException_IndexOutOfBoundsException : Cond.not (.castable "java/lang/IllegalStateException" "java/lang/IndexOutOfBoundsException") ∈ flatC narrow_1 := List.mem_of_getElem? (i := 59) (by decide +kernel)
set_option maxRecDepth 100000 in
theorem gzL_nUnsupportedOperationException_IllegalArgumentException : Cond.not (.castable "java/lang/UnsupportedOperationException" "java/lang/IllegalArgumentException") ∈ flatC narrow_1 := List.mem_of_getElem? (i := 22) (by decide +kernel)
set_option maxRecDepth 100000 in
theorem gzL_nNoSuchElementException_IndexOutOfBoundsException : Cond.not (.castable "java/util/NoSuchElementException" "java/lang/IndexOutOfBoundsException") ∈ flatC narrow_1 := List.mem_of_getElem? (i := 58) (by decide +kernel)
/-! town -/
abbrev mL_town : gzMe := (yL_town, cL_town, 3, some FieldType.int)
abbrev hL_town : List (Nat × Nat × Nat × Nat) := [(0, 8, 11, 13), (0, 8, 14, 15)]
theorem MhL_town : gzMh mL_town hL_town := ⟨(gz_t4 4 (by decide +kernel) rfl), (gz_t4 5 (by decide +kernel) rfl), gzL_ini, ⟨by decide, by decide⟩, by decide⟩
theorem lhL_town : gz_in (.methodLink RL 128 yL_town) := gz_t4 3 (by decide +kernel) rfl
theorem htL_town_0 : gzHit mL_town hL_town 3 "java/lang/IllegalArgumentException" 1 := by
  refine ⟨[], ⟨0, 8, 11, 13⟩, [⟨0, 8, 14, 15⟩], "java/lang/IllegalArgumentException", 12, 2, 1, rfl, ?_, rfl, by decide, ckL_13, gzL_cIllegalArgumentException, by decide, Or.inl ⟨2, rfl, dL_town_11, rfl⟩, ⟨dL_town_12, by decide⟩, ⟨dL_town_13, rfl⟩⟩
  exact fun z hz => by cases hz
theorem htL_town_1 : gzHit mL_town hL_town 3 "java/lang/UnsupportedOperationException" 2 := by
  refine ⟨[⟨0, 8, 11, 13⟩], ⟨0, 8, 14, 15⟩, [], "java/lang/UnsupportedOperationException", 15, 2, 2, rfl, ?_, rfl, by decide, ckL_15, gzL_cUnsupportedOperationException, by decide, Or.inl ⟨2, rfl, dL_town_14, rfl⟩, ⟨dL_town_15, by decide⟩, ⟨dL_town_16, rfl⟩⟩
  exact fun z hz => by
    simp only [List.mem_cons, List.not_mem_nil, or_false] at hz
    subst hz
    exact ⟨by decide, "java/lang/IllegalArgumentException", ckL_13, gzL_nUnsupportedOperationException_IllegalArgumentException⟩
theorem h_L_town {g : gzG} {d : Nat} {φ : Nat} {I I1 : gzIT} {J J1 : gzJT} {e : Except String Int32} (h : f_X11_town φ I J = some (e, I1, J1)) (hE : ∀ E, e = .error E → ∃ k : Nat, (["java/lang/IllegalArgumentException", "java/lang/UnsupportedOperationException"] : List String)[k]? = some E) : gzCh g 1 (d + 61) mL_town hL_town [.inr (.inr (0, 30)), .inr (.inr (0, 59))] (gzN, gzR0, I, J) (gzHo ["java/lang/IllegalArgumentException", "java/lang/UnsupportedOperationException"] gzCvI e I1 J1) := by
  refine gzCh_of (by decide +kernel) (Nat.le_of_ble_eq_true rfl) (loc := [some (.inr (.inr (0, 30))), some (.inr (.inr (0, 59))), none]) rfl ?_
  refine gh_aload_n (pc := 0) dL_town_0 rfl ?_
  refine gh_iconst (pc := 1) dL_town_1 (v := 0) (by decide) ?_
  refine gh_aload_n (pc := 2) dL_town_2 rfl ?_
  refine gh_V (zy := mX11_town) (zc := 0) (d := d + 60) (pc := 3) (t := 0) (o := 30) (ci := 11) (r := (RX11, TX11, 13)) [] rfl dL_town_3 lkL_7 MvX11_town rfl (gzOk_of (by decide)) rfl rfl rfl (Or.inl rfl) (fun h => h) (by exact Nat.le_of_ble_eq_true rfl) ?_
  refine gzC.mono (c_X11_town (d := d + 51) h) ?_
  rintro _ _ ⟨rfl, rfl⟩
  cases e with
  | ok v =>
    show gzXh g 1 (d + 61) mL_town hL_town 6 [some (.inr (.inr (0, 30))), some (.inr (.inr (0, 59))), none] [.inl v, .inl 0, .inr (.inr (0, 59))] (gzN, gzR0, I1, J1) 0 (fun o S' => o = .ok (some (.inl 0)) ∧ S' = (gzN, gzR0, I1, gz_uj J1 0 59 0 (gzCvI v)))
    refine gh_i2l (pc := 6) dL_town_6 ?_
    refine gh_last (N := 1) (pc := 7) dL_town_7 (gzOk_of (by decide)) rfl (gz_vpd (by decide)) ?_
    refine gh_goto (pc := 8) (tgt := 17) dL_town_8 (by decide) ?_
    refine gh_iconst (pc := 17) dL_town_17 (v := 0) (by decide) ?_
    exact gh_iret (pc := 18) dL_town_18 rfl ⟨rfl, rfl⟩
  | error E =>
    obtain ⟨k, hk⟩ := hE E rfl
    refine ⟨by decide, ?_⟩
    match k, hk with
    | 0, hk => cases hk; exact ⟨1, htL_town_0, 0, rfl, rfl, rfl⟩
    | 1, hk => cases hk; exact ⟨2, htL_town_1, 1, rfl, rfl, rfl⟩
    | k + 2, hk => simp at hk
/-! law -/
abbrev mL_law : gzMe := (yL_law, cL_law, 3, some FieldType.int)
abbrev hL_law : List (Nat × Nat × Nat × Nat) := [(0, 8, 11, 13)]
theorem MhL_law : gzMh mL_law hL_law := ⟨(gz_t5 2 (by decide +kernel) rfl), (gz_t5 3 (by decide +kernel) rfl), gzL_ini, ⟨by decide, by decide⟩, by decide⟩
theorem lhL_law : gz_in (.methodLink RL 137 yL_law) := gz_t5 1 (by decide +kernel) rfl
theorem htL_law_0 : gzHit mL_law hL_law 3 "java/lang/IllegalArgumentException" 1 := by
  refine ⟨[], ⟨0, 8, 11, 13⟩, [], "java/lang/IllegalArgumentException", 12, 2, 1, rfl, ?_, rfl, by decide, ckL_13, gzL_cIllegalArgumentException, by decide, Or.inl ⟨2, rfl, dL_law_11, rfl⟩, ⟨dL_law_12, by decide⟩, ⟨dL_law_13, rfl⟩⟩
  exact fun z hz => by cases hz
theorem h_L_law {g : gzG} {d : Nat} {φ : Nat} {I I1 : gzIT} {J J1 : gzJT} {e : Except String Int32} (h : f_X11_law φ I J = some (e, I1, J1)) (hE : ∀ E, e = .error E → ∃ k : Nat, (["java/lang/IllegalArgumentException"] : List String)[k]? = some E) : gzCh g 1 (d + 61) mL_law hL_law [.inr (.inr (0, 30)), .inr (.inr (0, 59))] (gzN, gzR0, I, J) (gzHo ["java/lang/IllegalArgumentException"] gzCvI e I1 J1) := by
  refine gzCh_of (by decide +kernel) (Nat.le_of_ble_eq_true rfl) (loc := [some (.inr (.inr (0, 30))), some (.inr (.inr (0, 59))), none]) rfl ?_
  refine gh_aload_n (pc := 0) dL_law_0 rfl ?_
  refine gh_iconst (pc := 1) dL_law_1 (v := 0) (by decide) ?_
  refine gh_aload_n (pc := 2) dL_law_2 rfl ?_
  refine gh_V (zy := mX11_law) (zc := 0) (d := d + 60) (pc := 3) (t := 0) (o := 30) (ci := 11) (r := (RX11, TX11, 13)) [] rfl dL_law_3 lkL_17 MvX11_law rfl (gzOk_of (by decide)) rfl rfl rfl (Or.inl rfl) (fun h => h) (by exact Nat.le_of_ble_eq_true rfl) ?_
  refine gzC.mono (c_X11_law (d := d + 22) h) ?_
  rintro _ _ ⟨rfl, rfl⟩
  cases e with
  | ok v =>
    show gzXh g 1 (d + 61) mL_law hL_law 6 [some (.inr (.inr (0, 30))), some (.inr (.inr (0, 59))), none] [.inl v, .inl 0, .inr (.inr (0, 59))] (gzN, gzR0, I1, J1) 0 (fun o S' => o = .ok (some (.inl 0)) ∧ S' = (gzN, gzR0, I1, gz_uj J1 0 59 0 (gzCvI v)))
    refine gh_i2l (pc := 6) dL_law_6 ?_
    refine gh_last (N := 1) (pc := 7) dL_law_7 (gzOk_of (by decide)) rfl (gz_vpd (by decide)) ?_
    refine gh_goto (pc := 8) (tgt := 14) dL_law_8 (by decide) ?_
    refine gh_iconst (pc := 14) dL_law_14 (v := 0) (by decide) ?_
    exact gh_iret (pc := 15) dL_law_15 rfl ⟨rfl, rfl⟩
  | error E =>
    obtain ⟨k, hk⟩ := hE E rfl
    refine ⟨by decide, ?_⟩
    match k, hk with
    | 0, hk => cases hk; exact ⟨1, htL_law_0, 0, rfl, rfl, rfl⟩
    | k + 1, hk => simp at hk
/-! family -/
abbrev mL_family : gzMe := (yL_family, cL_family, 5, some FieldType.int)
abbrev hL_family : List (Nat × Nat × Nat × Nat) := [(0, 10, 13, 24), (0, 10, 17, 26)]
theorem MhL_family : gzMh mL_family hL_family := ⟨(gz_t5 47 (by decide +kernel) rfl), (gz_t5 48 (by decide +kernel) rfl), gzL_ini, ⟨by decide, by decide⟩, by decide⟩
theorem lhL_family : gz_in (.methodLink RL 144 yL_family) := gz_t5 46 (by decide +kernel) rfl
theorem htL_family_0 : gzHit mL_family hL_family 5 "java/lang/IndexOutOfBoundsException" 1 := by
  refine ⟨[], ⟨0, 10, 13, 24⟩, [⟨0, 10, 17, 26⟩], "java/lang/IndexOutOfBoundsException", 15, 4, 1, rfl, ?_, rfl, by decide, ckL_24, gzL_cIndexOutOfBoundsException, by decide, Or.inr ⟨dL_family_13, rfl⟩, ⟨dL_family_15, by decide⟩, ⟨dL_family_16, rfl⟩⟩
  exact fun z hz => by cases hz
theorem htL_family_1 : gzHit mL_family hL_family 5 "java/util/NoSuchElementException" 2 := by
  refine ⟨[⟨0, 10, 13, 24⟩], ⟨0, 10, 17, 26⟩, [], "java/util/NoSuchElementException", 19, 4, 2, rfl, ?_, rfl, by decide, ckL_26, gzL_cNoSuchElementException, by decide, Or.inr ⟨dL_family_17, rfl⟩, ⟨dL_family_19, by decide⟩, ⟨dL_family_20, rfl⟩⟩
  exact fun z hz => by
    simp only [List.mem_cons, List.not_mem_nil, or_false] at hz
    subst hz
    exact ⟨by decide, "java/lang/IndexOutOfBoundsException", ckL_24, gzL_nNoSuchElementException_IndexOutOfBoundsException⟩
theorem h_L_family {g : gzG} {d : Nat} {φ : Nat} {p0 p1 : Int32} {I I1 : gzIT} {J J1 : gzJT} {e : Except String Int32} (h : f_X11_family φ p0 p1 I J = some (e, I1, J1)) (hE : ∀ E, e = .error E → ∃ k : Nat, (["java/lang/IndexOutOfBoundsException", "java/util/NoSuchElementException"] : List String)[k]? = some E) : gzCh g 1 (d + 61) mL_family hL_family [.inr (.inr (0, 30)), .inl p0, .inl p1, .inr (.inr (0, 59))] (gzN, gzR0, I, J) (gzHo ["java/lang/IndexOutOfBoundsException", "java/util/NoSuchElementException"] gzCvI e I1 J1) := by
  refine gzCh_of (by decide +kernel) (Nat.le_of_ble_eq_true rfl) (loc := [some (.inr (.inr (0, 30))), some (.inl p0), some (.inl p1), some (.inr (.inr (0, 59))), none]) rfl ?_
  refine gh_aload_n (pc := 0) dL_family_0 rfl ?_
  refine gh_iconst (pc := 1) dL_family_1 (v := 0) (by decide) ?_
  refine gh_aload_n (pc := 2) dL_family_2 rfl ?_
  refine gh_iload_n (pc := 3) dL_family_3 rfl ?_
  refine gh_iload_n (pc := 4) dL_family_4 rfl ?_
  refine gh_V (zy := mX11_family) (zc := 0) (d := d + 60) (pc := 5) (t := 0) (o := 30) (ci := 11) (r := (RX11, TX11, 13)) [.inl p0, .inl p1] rfl dL_family_5 lkL_20 MvX11_family rfl (gzOk_of (by decide)) rfl rfl rfl (Or.inl rfl) (fun h => h) (by exact Nat.le_of_ble_eq_true rfl) ?_
  refine gzC.mono (c_X11_family (d := d + 56) h) ?_
  rintro _ _ ⟨rfl, rfl⟩
  cases e with
  | ok v =>
    show gzXh g 1 (d + 61) mL_family hL_family 8 [some (.inr (.inr (0, 30))), some (.inl p0), some (.inl p1), some (.inr (.inr (0, 59))), none] [.inl v, .inl 0, .inr (.inr (0, 59))] (gzN, gzR0, I1, J1) 0 (fun o S' => o = .ok (some (.inl 0)) ∧ S' = (gzN, gzR0, I1, gz_uj J1 0 59 0 (gzCvI v)))
    refine gh_i2l (pc := 8) dL_family_8 ?_
    refine gh_last (N := 1) (pc := 9) dL_family_9 (gzOk_of (by decide)) rfl (gz_vpd (by decide)) ?_
    refine gh_goto (pc := 10) (tgt := 21) dL_family_10 (by decide) ?_
    refine gh_iconst (pc := 21) dL_family_21 (v := 0) (by decide) ?_
    exact gh_iret (pc := 22) dL_family_22 rfl ⟨rfl, rfl⟩
  | error E =>
    obtain ⟨k, hk⟩ := hE E rfl
    refine ⟨by decide, ?_⟩
    match k, hk with
    | 0, hk => cases hk; exact ⟨1, htL_family_0, 0, rfl, rfl, rfl⟩
    | 1, hk => cases hk; exact ⟨2, htL_family_1, 1, rfl, rfl, rfl⟩
    | k + 2, hk => simp at hk
/-! grudge -/
abbrev mL_grudge : gzMe := (yL_grudge, cL_grudge, 5, some FieldType.int)
abbrev hL_grudge : List (Nat × Nat × Nat × Nat) := [(0, 10, 13, 24), (0, 10, 17, 26)]
theorem MhL_grudge : gzMh mL_grudge hL_grudge := ⟨(gz_t5 101 (by decide +kernel) rfl), (gz_t5 102 (by decide +kernel) rfl), gzL_ini, ⟨by decide, by decide⟩, by decide⟩
theorem lhL_grudge : gz_in (.methodLink RL 148 yL_grudge) := gz_t5 100 (by decide +kernel) rfl
theorem htL_grudge_0 : gzHit mL_grudge hL_grudge 5 "java/lang/IndexOutOfBoundsException" 1 := by
  refine ⟨[], ⟨0, 10, 13, 24⟩, [⟨0, 10, 17, 26⟩], "java/lang/IndexOutOfBoundsException", 15, 4, 1, rfl, ?_, rfl, by decide, ckL_24, gzL_cIndexOutOfBoundsException, by decide, Or.inr ⟨dL_grudge_13, rfl⟩, ⟨dL_grudge_15, by decide⟩, ⟨dL_grudge_16, rfl⟩⟩
  exact fun z hz => by cases hz
theorem htL_grudge_1 : gzHit mL_grudge hL_grudge 5 "java/util/NoSuchElementException" 2 := by
  refine ⟨[⟨0, 10, 13, 24⟩], ⟨0, 10, 17, 26⟩, [], "java/util/NoSuchElementException", 19, 4, 2, rfl, ?_, rfl, by decide, ckL_26, gzL_cNoSuchElementException, by decide, Or.inr ⟨dL_grudge_17, rfl⟩, ⟨dL_grudge_19, by decide⟩, ⟨dL_grudge_20, rfl⟩⟩
  exact fun z hz => by
    simp only [List.mem_cons, List.not_mem_nil, or_false] at hz
    subst hz
    exact ⟨by decide, "java/lang/IndexOutOfBoundsException", ckL_24, gzL_nNoSuchElementException_IndexOutOfBoundsException⟩
theorem h_L_grudge {g : gzG} {d : Nat} {φ : Nat} {p0 p1 : Int32} {I I1 : gzIT} {J J1 : gzJT} {e : Except String Int32} (h : f_X11_grudge φ p0 p1 I J = some (e, I1, J1)) (hE : ∀ E, e = .error E → ∃ k : Nat, (["java/lang/IndexOutOfBoundsException", "java/util/NoSuchElementException"] : List String)[k]? = some E) : gzCh g 1 (d + 61) mL_grudge hL_grudge [.inr (.inr (0, 30)), .inl p0, .inl p1, .inr (.inr (0, 59))] (gzN, gzR0, I, J) (gzHo ["java/lang/IndexOutOfBoundsException", "java/util/NoSuchElementException"] gzCvI e I1 J1) := by
  refine gzCh_of (by decide +kernel) (Nat.le_of_ble_eq_true rfl) (loc := [some (.inr (.inr (0, 30))), some (.inl p0), some (.inl p1), some (.inr (.inr (0, 59))), none]) rfl ?_
  refine gh_aload_n (pc := 0) dL_grudge_0 rfl ?_
  refine gh_iconst (pc := 1) dL_grudge_1 (v := 0) (by decide) ?_
  refine gh_aload_n (pc := 2) dL_grudge_2 rfl ?_
  refine gh_iload_n (pc := 3) dL_grudge_3 rfl ?_
  refine gh_iload_n (pc := 4) dL_grudge_4 rfl ?_
  refine gh_V (zy := mX11_grudge) (zc := 0) (d := d + 60) (pc := 5) (t := 0) (o := 30) (ci := 11) (r := (RX11, TX11, 13)) [.inl p0, .inl p1] rfl dL_grudge_5 lkL_28 MvX11_grudge rfl (gzOk_of (by decide)) rfl rfl rfl (Or.inl rfl) (fun h => h) (by exact Nat.le_of_ble_eq_true rfl) ?_
  refine gzC.mono (c_X11_grudge (d := d + 55) h) ?_
  rintro _ _ ⟨rfl, rfl⟩
  cases e with
  | ok v =>
    show gzXh g 1 (d + 61) mL_grudge hL_grudge 8 [some (.inr (.inr (0, 30))), some (.inl p0), some (.inl p1), some (.inr (.inr (0, 59))), none] [.inl v, .inl 0, .inr (.inr (0, 59))] (gzN, gzR0, I1, J1) 0 (fun o S' => o = .ok (some (.inl 0)) ∧ S' = (gzN, gzR0, I1, gz_uj J1 0 59 0 (gzCvI v)))
    refine gh_i2l (pc := 8) dL_grudge_8 ?_
    refine gh_last (N := 1) (pc := 9) dL_grudge_9 (gzOk_of (by decide)) rfl (gz_vpd (by decide)) ?_
    refine gh_goto (pc := 10) (tgt := 21) dL_grudge_10 (by decide) ?_
    refine gh_iconst (pc := 21) dL_grudge_21 (v := 0) (by decide) ?_
    exact gh_iret (pc := 22) dL_grudge_22 rfl ⟨rfl, rfl⟩
  | error E =>
    obtain ⟨k, hk⟩ := hE E rfl
    refine ⟨by decide, ?_⟩
    match k, hk with
    | 0, hk => cases hk; exact ⟨1, htL_grudge_0, 0, rfl, rfl, rfl⟩
    | 1, hk => cases hk; exact ⟨2, htL_grudge_1, 1, rfl, rfl, rfl⟩
    | k + 2, hk => simp at hk
/-! slight -/
abbrev mL_slight : gzMe := (yL_slight, cL_slight, 5, some FieldType.int)
abbrev hL_slight : List (Nat × Nat × Nat × Nat) := [(0, 10, 13, 24), (0, 10, 17, 26)]
theorem MhL_slight : gzMh mL_slight hL_slight := ⟨(gz_t5 122 (by decide +kernel) rfl), (gz_t5 123 (by decide +kernel) rfl), gzL_ini, ⟨by decide, by decide⟩, by decide⟩
theorem lhL_slight : gz_in (.methodLink RL 151 yL_slight) := gz_t5 121 (by decide +kernel) rfl
theorem htL_slight_0 : gzHit mL_slight hL_slight 5 "java/lang/IndexOutOfBoundsException" 1 := by
  refine ⟨[], ⟨0, 10, 13, 24⟩, [⟨0, 10, 17, 26⟩], "java/lang/IndexOutOfBoundsException", 15, 4, 1, rfl, ?_, rfl, by decide, ckL_24, gzL_cIndexOutOfBoundsException, by decide, Or.inr ⟨dL_slight_13, rfl⟩, ⟨dL_slight_15, by decide⟩, ⟨dL_slight_16, rfl⟩⟩
  exact fun z hz => by cases hz
theorem htL_slight_1 : gzHit mL_slight hL_slight 5 "java/util/NoSuchElementException" 2 := by
  refine ⟨[⟨0, 10, 13, 24⟩], ⟨0, 10, 17, 26⟩, [], "java/util/NoSuchElementException", 19, 4, 2, rfl, ?_, rfl, by decide, ckL_26, gzL_cNoSuchElementException, by decide, Or.inr ⟨dL_slight_17, rfl⟩, ⟨dL_slight_19, by decide⟩, ⟨dL_slight_20, rfl⟩⟩
  exact fun z hz => by
    simp only [List.mem_cons, List.not_mem_nil, or_false] at hz
    subst hz
    exact ⟨by decide, "java/lang/IndexOutOfBoundsException", ckL_24, gzL_nNoSuchElementException_IndexOutOfBoundsException⟩
theorem h_L_slight {g : gzG} {d : Nat} {φ : Nat} {p0 p1 : Int32} {I I1 : gzIT} {J J1 : gzJT} {e : Except String Int32} (h : f_X11_slight φ p0 p1 I J = some (e, I1, J1)) (hE : ∀ E, e = .error E → ∃ k : Nat, (["java/lang/IndexOutOfBoundsException", "java/util/NoSuchElementException"] : List String)[k]? = some E) : gzCh g 1 (d + 61) mL_slight hL_slight [.inr (.inr (0, 30)), .inl p0, .inl p1, .inr (.inr (0, 59))] (gzN, gzR0, I, J) (gzHo ["java/lang/IndexOutOfBoundsException", "java/util/NoSuchElementException"] gzCvI e I1 J1) := by
  refine gzCh_of (by decide +kernel) (Nat.le_of_ble_eq_true rfl) (loc := [some (.inr (.inr (0, 30))), some (.inl p0), some (.inl p1), some (.inr (.inr (0, 59))), none]) rfl ?_
  refine gh_aload_n (pc := 0) dL_slight_0 rfl ?_
  refine gh_iconst (pc := 1) dL_slight_1 (v := 0) (by decide) ?_
  refine gh_aload_n (pc := 2) dL_slight_2 rfl ?_
  refine gh_iload_n (pc := 3) dL_slight_3 rfl ?_
  refine gh_iload_n (pc := 4) dL_slight_4 rfl ?_
  refine gh_V (zy := mX11_slight) (zc := 0) (d := d + 60) (pc := 5) (t := 0) (o := 30) (ci := 11) (r := (RX11, TX11, 13)) [.inl p0, .inl p1] rfl dL_slight_5 lkL_31 MvX11_slight rfl (gzOk_of (by decide)) rfl rfl rfl (Or.inl rfl) (fun h => h) (by exact Nat.le_of_ble_eq_true rfl) ?_
  refine gzC.mono (c_X11_slight (d := d + 59) h) ?_
  rintro _ _ ⟨rfl, rfl⟩
  cases e with
  | ok v =>
    show gzXh g 1 (d + 61) mL_slight hL_slight 8 [some (.inr (.inr (0, 30))), some (.inl p0), some (.inl p1), some (.inr (.inr (0, 59))), none] [.inl v, .inl 0, .inr (.inr (0, 59))] (gzN, gzR0, I1, J1) 0 (fun o S' => o = .ok (some (.inl 0)) ∧ S' = (gzN, gzR0, I1, gz_uj J1 0 59 0 (gzCvI v)))
    refine gh_i2l (pc := 8) dL_slight_8 ?_
    refine gh_last (N := 1) (pc := 9) dL_slight_9 (gzOk_of (by decide)) rfl (gz_vpd (by decide)) ?_
    refine gh_goto (pc := 10) (tgt := 21) dL_slight_10 (by decide) ?_
    refine gh_iconst (pc := 21) dL_slight_21 (v := 0) (by decide) ?_
    exact gh_iret (pc := 22) dL_slight_22 rfl ⟨rfl, rfl⟩
  | error E =>
    obtain ⟨k, hk⟩ := hE E rfl
    refine ⟨by decide, ?_⟩
    match k, hk with
    | 0, hk => cases hk; exact ⟨1, htL_slight_0, 0, rfl, rfl, rfl⟩
    | 1, hk => cases hk; exact ⟨2, htL_slight_1, 1, rfl, rfl, rfl⟩
    | k + 2, hk => simp at hk
/-! heat -/
abbrev mL_heat : gzMe := (yL_heat, cL_heat, 4, some FieldType.int)
abbrev hL_heat : List (Nat × Nat × Nat × Nat) := [(0, 9, 12, 24)]
theorem MhL_heat : gzMh mL_heat hL_heat := ⟨(gz_t5 138 (by decide +kernel) rfl), (gz_t5 139 (by decide +kernel) rfl), gzL_ini, ⟨by decide, by decide⟩, by decide⟩
theorem lhL_heat : gz_in (.methodLink RL 154 yL_heat) := gz_t5 137 (by decide +kernel) rfl
theorem htL_heat_0 : gzHit mL_heat hL_heat 4 "java/lang/IndexOutOfBoundsException" 1 := by
  refine ⟨[], ⟨0, 9, 12, 24⟩, [], "java/lang/IndexOutOfBoundsException", 13, 3, 1, rfl, ?_, rfl, by decide, ckL_24, gzL_cIndexOutOfBoundsException, by decide, Or.inl ⟨3, rfl, dL_heat_12, rfl⟩, ⟨dL_heat_13, by decide⟩, ⟨dL_heat_14, rfl⟩⟩
  exact fun z hz => by cases hz
theorem h_L_heat {g : gzG} {d : Nat} {p0 : Int32} {I I1 : gzIT} {J J1 : gzJT} {e : Except String Int32} (h : f_X11_heat p0 I J = some (e, I1, J1)) (hE : ∀ E, e = .error E → ∃ k : Nat, (["java/lang/IndexOutOfBoundsException"] : List String)[k]? = some E) : gzCh g 1 (d + 61) mL_heat hL_heat [.inr (.inr (0, 30)), .inl p0, .inr (.inr (0, 59))] (gzN, gzR0, I, J) (gzHo ["java/lang/IndexOutOfBoundsException"] gzCvI e I1 J1) := by
  refine gzCh_of (by decide +kernel) (Nat.le_of_ble_eq_true rfl) (loc := [some (.inr (.inr (0, 30))), some (.inl p0), some (.inr (.inr (0, 59))), none]) rfl ?_
  refine gh_aload_n (pc := 0) dL_heat_0 rfl ?_
  refine gh_iconst (pc := 1) dL_heat_1 (v := 0) (by decide) ?_
  refine gh_aload_n (pc := 2) dL_heat_2 rfl ?_
  refine gh_iload_n (pc := 3) dL_heat_3 rfl ?_
  refine gh_V (zy := mX11_heat) (zc := 0) (d := d + 60) (pc := 4) (t := 0) (o := 30) (ci := 11) (r := (RX11, TX11, 13)) [.inl p0] rfl dL_heat_4 lkL_34 MvX11_heat rfl (gzOk_of (by decide)) rfl rfl rfl (Or.inl rfl) (fun h => h) (by exact Nat.le_of_ble_eq_true rfl) ?_
  refine gzC.mono (c_X11_heat (d := d + 60) h) ?_
  rintro _ _ ⟨rfl, rfl⟩
  cases e with
  | ok v =>
    show gzXh g 1 (d + 61) mL_heat hL_heat 7 [some (.inr (.inr (0, 30))), some (.inl p0), some (.inr (.inr (0, 59))), none] [.inl v, .inl 0, .inr (.inr (0, 59))] (gzN, gzR0, I1, J1) 0 (fun o S' => o = .ok (some (.inl 0)) ∧ S' = (gzN, gzR0, I1, gz_uj J1 0 59 0 (gzCvI v)))
    refine gh_i2l (pc := 7) dL_heat_7 ?_
    refine gh_last (N := 1) (pc := 8) dL_heat_8 (gzOk_of (by decide)) rfl (gz_vpd (by decide)) ?_
    refine gh_goto (pc := 9) (tgt := 15) dL_heat_9 (by decide) ?_
    refine gh_iconst (pc := 15) dL_heat_15 (v := 0) (by decide) ?_
    exact gh_iret (pc := 16) dL_heat_16 rfl ⟨rfl, rfl⟩
  | error E =>
    obtain ⟨k, hk⟩ := hE E rfl
    refine ⟨by decide, ?_⟩
    match k, hk with
    | 0, hk => cases hk; exact ⟨1, htL_heat_0, 0, rfl, rfl, rfl⟩
    | k + 1, hk => simp at hk
/-! seasons -/
abbrev mL_seasons : gzMe := (yL_seasons, cL_seasons, 4, some FieldType.int)
abbrev hL_seasons : List (Nat × Nat × Nat × Nat) := [(0, 9, 12, 13)]
theorem MhL_seasons : gzMh mL_seasons hL_seasons := ⟨(gz_t5 146 (by decide +kernel) rfl), (gz_t5 147 (by decide +kernel) rfl), gzL_ini, ⟨by decide, by decide⟩, by decide⟩
theorem lhL_seasons : gz_in (.methodLink RL 158 yL_seasons) := gz_t5 145 (by decide +kernel) rfl
theorem htL_seasons_0 : gzHit mL_seasons hL_seasons 4 "java/lang/IllegalArgumentException" 1 := by
  refine ⟨[], ⟨0, 9, 12, 13⟩, [], "java/lang/IllegalArgumentException", 13, 3, 1, rfl, ?_, rfl, by decide, ckL_13, gzL_cIllegalArgumentException, by decide, Or.inl ⟨3, rfl, dL_seasons_12, rfl⟩, ⟨dL_seasons_13, by decide⟩, ⟨dL_seasons_14, rfl⟩⟩
  exact fun z hz => by cases hz
theorem h_L_seasons {g : gzG} {d : Nat} {φ : Nat} {p0 : Int32} {I I1 : gzIT} {J J1 : gzJT} {e : Except String Int32} (h : f_X11_seasons φ p0 I J = some (e, I1, J1)) (hE : ∀ E, e = .error E → ∃ k : Nat, (["java/lang/IllegalArgumentException"] : List String)[k]? = some E) : gzCh g 1 (d + 61) mL_seasons hL_seasons [.inr (.inr (0, 30)), .inl p0, .inr (.inr (0, 59))] (gzN, gzR0, I, J) (gzHo ["java/lang/IllegalArgumentException"] gzCvI e I1 J1) := by
  refine gzCh_of (by decide +kernel) (Nat.le_of_ble_eq_true rfl) (loc := [some (.inr (.inr (0, 30))), some (.inl p0), some (.inr (.inr (0, 59))), none]) rfl ?_
  refine gh_aload_n (pc := 0) dL_seasons_0 rfl ?_
  refine gh_iconst (pc := 1) dL_seasons_1 (v := 0) (by decide) ?_
  refine gh_aload_n (pc := 2) dL_seasons_2 rfl ?_
  refine gh_iload_n (pc := 3) dL_seasons_3 rfl ?_
  refine gh_V (zy := mX11_seasons) (zc := 0) (d := d + 60) (pc := 4) (t := 0) (o := 30) (ci := 11) (r := (RX11, TX11, 13)) [.inl p0] rfl dL_seasons_4 lkL_38 MvX11_seasons rfl (gzOk_of (by decide)) rfl rfl rfl (Or.inl rfl) (fun h => h) (by exact Nat.le_of_ble_eq_true rfl) ?_
  refine gzC.mono (c_X11_seasons (d := d + 54) h) ?_
  rintro _ _ ⟨rfl, rfl⟩
  cases e with
  | ok v =>
    show gzXh g 1 (d + 61) mL_seasons hL_seasons 7 [some (.inr (.inr (0, 30))), some (.inl p0), some (.inr (.inr (0, 59))), none] [.inl v, .inl 0, .inr (.inr (0, 59))] (gzN, gzR0, I1, J1) 0 (fun o S' => o = .ok (some (.inl 0)) ∧ S' = (gzN, gzR0, I1, gz_uj J1 0 59 0 (gzCvI v)))
    refine gh_i2l (pc := 7) dL_seasons_7 ?_
    refine gh_last (N := 1) (pc := 8) dL_seasons_8 (gzOk_of (by decide)) rfl (gz_vpd (by decide)) ?_
    refine gh_goto (pc := 9) (tgt := 15) dL_seasons_9 (by decide) ?_
    refine gh_iconst (pc := 15) dL_seasons_15 (v := 0) (by decide) ?_
    exact gh_iret (pc := 16) dL_seasons_16 rfl ⟨rfl, rfl⟩
  | error E =>
    obtain ⟨k, hk⟩ := hE E rfl
    refine ⟨by decide, ?_⟩
    match k, hk with
    | 0, hk => cases hk; exact ⟨1, htL_seasons_0, 0, rfl, rfl, rfl⟩
    | k + 1, hk => simp at hk
/-! insult -/
abbrev mL_insult : gzMe := (yL_insult, cL_insult, 6, some FieldType.int)
abbrev hL_insult : List (Nat × Nat × Nat × Nat) := [(0, 12, 15, 24), (0, 12, 19, 13), (0, 12, 23, 45)]
theorem MhL_insult : gzMh mL_insult hL_insult := ⟨(gz_t5 187 (by decide +kernel) rfl), (gz_t5 188 (by decide +kernel) rfl), gzL_ini, ⟨by decide, by decide⟩, by decide⟩
theorem lhL_insult : gz_in (.methodLink RL 161 yL_insult) := gz_t5 186 (by decide +kernel) rfl
theorem htL_insult_0 : gzHit mL_insult hL_insult 7 "java/lang/IndexOutOfBoundsException" 1 := by
  refine ⟨[], ⟨0, 12, 15, 24⟩, [⟨0, 12, 19, 13⟩, ⟨0, 12, 23, 45⟩], "java/lang/IndexOutOfBoundsException", 17, 5, 1, rfl, ?_, rfl, by decide, ckL_24, gzL_cIndexOutOfBoundsException, by decide, Or.inr ⟨dL_insult_15, rfl⟩, ⟨dL_insult_17, by decide⟩, ⟨dL_insult_18, rfl⟩⟩
  exact fun z hz => by cases hz
theorem htL_insult_1 : gzHit mL_insult hL_insult 7 "java/lang/IllegalArgumentException" 2 := by
  refine ⟨[⟨0, 12, 15, 24⟩], ⟨0, 12, 19, 13⟩, [⟨0, 12, 23, 45⟩], "java/lang/IllegalArgumentException", 21, 5, 2, rfl, ?_, rfl, by decide, ckL_13, gzL_cIllegalArgumentException, by decide, Or.inr ⟨dL_insult_19, rfl⟩, ⟨dL_insult_21, by decide⟩, ⟨dL_insult_22, rfl⟩⟩
  exact fun z hz => by
    simp only [List.mem_cons, List.not_mem_nil, or_false] at hz
    subst hz
    exact ⟨by decide, "java/lang/IndexOutOfBoundsException", ckL_24, gzL_nIllegalArgumentException_IndexOutOfBoundsException⟩
theorem htL_insult_2 : gzHit mL_insult hL_insult 7 "java/lang/IllegalStateException" 3 := by
  refine ⟨[⟨0, 12, 15, 24⟩, ⟨0, 12, 19, 13⟩], ⟨0, 12, 23, 45⟩, [], "java/lang/IllegalStateException", 25, 5, 3, rfl, ?_, rfl, by decide, ckL_45, gzL_cIllegalStateException, by decide, Or.inr ⟨dL_insult_23, rfl⟩, ⟨dL_insult_25, by decide⟩, ⟨dL_insult_26, rfl⟩⟩
  exact fun z hz => by
    simp only [List.mem_cons, List.not_mem_nil, or_false] at hz
    rcases hz with rfl | rfl
    · exact ⟨by decide, "java/lang/IndexOutOfBoundsException", ckL_24, gzL_nIllegalStateException_IndexOutOfBoundsException⟩
    · exact ⟨by decide, "java/lang/IllegalArgumentException", ckL_13, gzL_nIllegalStateException_IllegalArgumentException⟩
theorem h_L_insult {g : gzG} {d : Nat} {φ : Nat} {p0 p1 p2 : Int32} {I I1 : gzIT} {J J1 : gzJT} {e : Except String Int32} (h : f_X11_insult φ p0 p1 p2 I J = some (e, I1, J1)) (hE : ∀ E, e = .error E → ∃ k : Nat, (["java/lang/IndexOutOfBoundsException", "java/lang/IllegalArgumentException", "java/lang/IllegalStateException"] : List String)[k]? = some E) : gzCh g 1 (d + 61) mL_insult hL_insult [.inr (.inr (0, 30)), .inl p0, .inl p1, .inl p2, .inr (.inr (0, 59))] (gzN, gzR0, I, J) (gzHo ["java/lang/IndexOutOfBoundsException", "java/lang/IllegalArgumentException", "java/lang/IllegalStateException"] gzCvI e I1 J1) := by
  refine gzCh_of (by decide +kernel) (Nat.le_of_ble_eq_true rfl) (loc := [some (.inr (.inr (0, 30))), some (.inl p0), some (.inl p1), some (.inl p2), some (.inr (.inr (0, 59))), none]) rfl ?_
  refine gh_aload (pc := 0) dL_insult_0 rfl ?_
  refine gh_iconst (pc := 2) dL_insult_2 (v := 0) (by decide) ?_
  refine gh_aload_n (pc := 3) dL_insult_3 rfl ?_
  refine gh_iload_n (pc := 4) dL_insult_4 rfl ?_
  refine gh_iload_n (pc := 5) dL_insult_5 rfl ?_
  refine gh_iload_n (pc := 6) dL_insult_6 rfl ?_
  refine gh_V (zy := mX11_insult) (zc := 0) (d := d + 60) (pc := 7) (t := 0) (o := 30) (ci := 11) (r := (RX11, TX11, 13)) [.inl p0, .inl p1, .inl p2] rfl dL_insult_7 lkL_41 MvX11_insult rfl (gzOk_of (by decide)) rfl rfl rfl (Or.inl rfl) (fun h => h) (by exact Nat.le_of_ble_eq_true rfl) ?_
  refine gzC.mono (c_X11_insult (d := d + 56) h) ?_
  rintro _ _ ⟨rfl, rfl⟩
  cases e with
  | ok v =>
    show gzXh g 1 (d + 61) mL_insult hL_insult 10 [some (.inr (.inr (0, 30))), some (.inl p0), some (.inl p1), some (.inl p2), some (.inr (.inr (0, 59))), none] [.inl v, .inl 0, .inr (.inr (0, 59))] (gzN, gzR0, I1, J1) 0 (fun o S' => o = .ok (some (.inl 0)) ∧ S' = (gzN, gzR0, I1, gz_uj J1 0 59 0 (gzCvI v)))
    refine gh_i2l (pc := 10) dL_insult_10 ?_
    refine gh_last (N := 1) (pc := 11) dL_insult_11 (gzOk_of (by decide)) rfl (gz_vpd (by decide)) ?_
    refine gh_goto (pc := 12) (tgt := 27) dL_insult_12 (by decide) ?_
    refine gh_iconst (pc := 27) dL_insult_27 (v := 0) (by decide) ?_
    exact gh_iret (pc := 28) dL_insult_28 rfl ⟨rfl, rfl⟩
  | error E =>
    obtain ⟨k, hk⟩ := hE E rfl
    refine ⟨by decide, ?_⟩
    match k, hk with
    | 0, hk => cases hk; exact ⟨1, htL_insult_0, 0, rfl, rfl, rfl⟩
    | 1, hk => cases hk; exact ⟨2, htL_insult_1, 1, rfl, rfl, rfl⟩
    | 2, hk => cases hk; exact ⟨3, htL_insult_2, 2, rfl, rfl, rfl⟩
    | k + 3, hk => simp at hk
/-! forgive -/
abbrev mL_forgive : gzMe := (yL_forgive, cL_forgive, 4, some FieldType.int)
abbrev hL_forgive : List (Nat × Nat × Nat × Nat) := [(0, 9, 12, 24), (0, 9, 15, 45)]
theorem MhL_forgive : gzMh mL_forgive hL_forgive := ⟨(gz_t5 223 (by decide +kernel) rfl), (gz_t5 224 (by decide +kernel) rfl), gzL_ini, ⟨by decide, by decide⟩, by decide⟩
theorem lhL_forgive : gz_in (.methodLink RL 165 yL_forgive) := gz_t5 222 (by decide +kernel) rfl
theorem htL_forgive_0 : gzHit mL_forgive hL_forgive 4 "java/lang/IndexOutOfBoundsException" 1 := by
  refine ⟨[], ⟨0, 9, 12, 24⟩, [⟨0, 9, 15, 45⟩], "java/lang/IndexOutOfBoundsException", 13, 3, 1, rfl, ?_, rfl, by decide, ckL_24, gzL_cIndexOutOfBoundsException, by decide, Or.inl ⟨3, rfl, dL_forgive_12, rfl⟩, ⟨dL_forgive_13, by decide⟩, ⟨dL_forgive_14, rfl⟩⟩
  exact fun z hz => by cases hz
theorem htL_forgive_1 : gzHit mL_forgive hL_forgive 4 "java/lang/IllegalStateException" 2 := by
  refine ⟨[⟨0, 9, 12, 24⟩], ⟨0, 9, 15, 45⟩, [], "java/lang/IllegalStateException", 16, 3, 2, rfl, ?_, rfl, by decide, ckL_45, gzL_cIllegalStateException, by decide, Or.inl ⟨3, rfl, dL_forgive_15, rfl⟩, ⟨dL_forgive_16, by decide⟩, ⟨dL_forgive_17, rfl⟩⟩
  exact fun z hz => by
    simp only [List.mem_cons, List.not_mem_nil, or_false] at hz
    subst hz
    exact ⟨by decide, "java/lang/IndexOutOfBoundsException", ckL_24, gzL_nIllegalStateException_IndexOutOfBoundsException⟩
theorem h_L_forgive {g : gzG} {d : Nat} {φ : Nat} {p0 : Int32} {I I1 : gzIT} {J J1 : gzJT} {e : Except String Int32} (h : f_X11_forgive φ p0 I J = some (e, I1, J1)) (hE : ∀ E, e = .error E → ∃ k : Nat, (["java/lang/IndexOutOfBoundsException", "java/lang/IllegalStateException"] : List String)[k]? = some E) : gzCh g 1 (d + 61) mL_forgive hL_forgive [.inr (.inr (0, 30)), .inl p0, .inr (.inr (0, 59))] (gzN, gzR0, I, J) (gzHo ["java/lang/IndexOutOfBoundsException", "java/lang/IllegalStateException"] gzCvI e I1 J1) := by
  refine gzCh_of (by decide +kernel) (Nat.le_of_ble_eq_true rfl) (loc := [some (.inr (.inr (0, 30))), some (.inl p0), some (.inr (.inr (0, 59))), none]) rfl ?_
  refine gh_aload_n (pc := 0) dL_forgive_0 rfl ?_
  refine gh_iconst (pc := 1) dL_forgive_1 (v := 0) (by decide) ?_
  refine gh_aload_n (pc := 2) dL_forgive_2 rfl ?_
  refine gh_iload_n (pc := 3) dL_forgive_3 rfl ?_
  refine gh_V (zy := mX11_forgive) (zc := 0) (d := d + 60) (pc := 4) (t := 0) (o := 30) (ci := 11) (r := (RX11, TX11, 13)) [.inl p0] rfl dL_forgive_4 lkL_47 MvX11_forgive rfl (gzOk_of (by decide)) rfl rfl rfl (Or.inl rfl) (fun h => h) (by exact Nat.le_of_ble_eq_true rfl) ?_
  refine gzC.mono (c_X11_forgive (d := d + 56) h) ?_
  rintro _ _ ⟨rfl, rfl⟩
  cases e with
  | ok v =>
    show gzXh g 1 (d + 61) mL_forgive hL_forgive 7 [some (.inr (.inr (0, 30))), some (.inl p0), some (.inr (.inr (0, 59))), none] [.inl v, .inl 0, .inr (.inr (0, 59))] (gzN, gzR0, I1, J1) 0 (fun o S' => o = .ok (some (.inl 0)) ∧ S' = (gzN, gzR0, I1, gz_uj J1 0 59 0 (gzCvI v)))
    refine gh_i2l (pc := 7) dL_forgive_7 ?_
    refine gh_last (N := 1) (pc := 8) dL_forgive_8 (gzOk_of (by decide)) rfl (gz_vpd (by decide)) ?_
    refine gh_goto (pc := 9) (tgt := 18) dL_forgive_9 (by decide) ?_
    refine gh_iconst (pc := 18) dL_forgive_18 (v := 0) (by decide) ?_
    exact gh_iret (pc := 19) dL_forgive_19 rfl ⟨rfl, rfl⟩
  | error E =>
    obtain ⟨k, hk⟩ := hE E rfl
    refine ⟨by decide, ?_⟩
    match k, hk with
    | 0, hk => cases hk; exact ⟨1, htL_forgive_0, 0, rfl, rfl, rfl⟩
    | 1, hk => cases hk; exact ⟨2, htL_forgive_1, 1, rfl, rfl, rfl⟩
    | k + 2, hk => simp at hk
/-! nurse -/
abbrev mL_nurse : gzMe := (yL_nurse, cL_nurse, 5, some FieldType.int)
abbrev hL_nurse : List (Nat × Nat × Nat × Nat) := [(0, 17, 20, 24), (0, 17, 24, 45)]
theorem MhL_nurse : gzMh mL_nurse hL_nurse := ⟨(gz_t5 236 (by decide +kernel) rfl), (gz_t5 237 (by decide +kernel) rfl), gzL_ini, ⟨by decide, by decide⟩, by decide⟩
theorem lhL_nurse : gz_in (.methodLink RL 168 yL_nurse) := gz_t5 235 (by decide +kernel) rfl
theorem htL_nurse_0 : gzHit mL_nurse hL_nurse 5 "java/lang/IndexOutOfBoundsException" 1 := by
  refine ⟨[], ⟨0, 17, 20, 24⟩, [⟨0, 17, 24, 45⟩], "java/lang/IndexOutOfBoundsException", 22, 4, 1, rfl, ?_, rfl, by decide, ckL_24, gzL_cIndexOutOfBoundsException, by decide, Or.inr ⟨dL_nurse_20, rfl⟩, ⟨dL_nurse_22, by decide⟩, ⟨dL_nurse_23, rfl⟩⟩
  exact fun z hz => by cases hz
theorem htL_nurse_1 : gzHit mL_nurse hL_nurse 5 "java/lang/IllegalStateException" 2 := by
  refine ⟨[⟨0, 17, 20, 24⟩], ⟨0, 17, 24, 45⟩, [], "java/lang/IllegalStateException", 26, 4, 2, rfl, ?_, rfl, by decide, ckL_45, gzL_cIllegalStateException, by decide, Or.inr ⟨dL_nurse_24, rfl⟩, ⟨dL_nurse_26, by decide⟩, ⟨dL_nurse_27, rfl⟩⟩
  exact fun z hz => by
    simp only [List.mem_cons, List.not_mem_nil, or_false] at hz
    subst hz
    exact ⟨by decide, "java/lang/IndexOutOfBoundsException", ckL_24, gzL_nIllegalStateException_IndexOutOfBoundsException⟩
theorem h_L_nurse {g : gzG} {d : Nat} {φ : Nat} {p0 p1 : Int32} {I I1 : gzIT} {J J1 : gzJT} {e : Except String Int32} (h : f_X11_nurse φ p0 p1 I J = some (e, I1, J1)) (hE : ∀ E, e = .error E → ∃ k : Nat, (["java/lang/IndexOutOfBoundsException", "java/lang/IllegalStateException"] : List String)[k]? = some E) : gzCh g 1 (d + 61) mL_nurse hL_nurse [.inr (.inr (0, 30)), .inl p0, .inl p1, .inr (.inr (0, 59))] (gzN, gzR0, I, J) (gzHo ["java/lang/IndexOutOfBoundsException", "java/lang/IllegalStateException"] gzCvZ e I1 J1) := by
  refine gzCh_of (by decide +kernel) (Nat.le_of_ble_eq_true rfl) (loc := [some (.inr (.inr (0, 30))), some (.inl p0), some (.inl p1), some (.inr (.inr (0, 59))), none]) rfl ?_
  refine gh_aload_n (pc := 0) dL_nurse_0 rfl ?_
  refine gh_iconst (pc := 1) dL_nurse_1 (v := 0) (by decide) ?_
  refine gh_aload_n (pc := 2) dL_nurse_2 rfl ?_
  refine gh_iload_n (pc := 3) dL_nurse_3 rfl ?_
  refine gh_iload_n (pc := 4) dL_nurse_4 rfl ?_
  refine gh_V (zy := mX11_nurse) (zc := 0) (d := d + 60) (pc := 5) (t := 0) (o := 30) (ci := 11) (r := (RX11, TX11, 13)) [.inl p0, .inl p1] rfl dL_nurse_5 lkL_50 MvX11_nurse rfl (gzOk_of (by decide)) rfl rfl rfl (Or.inl rfl) (fun h => h) (by exact Nat.le_of_ble_eq_true rfl) ?_
  refine gzC.mono (c_X11_nurse (d := d + 56) h) ?_
  rintro _ _ ⟨rfl, rfl⟩
  cases e with
  | ok v =>
    show gzXh g 1 (d + 61) mL_nurse hL_nurse 8 [some (.inr (.inr (0, 30))), some (.inl p0), some (.inl p1), some (.inr (.inr (0, 59))), none] [.inl v, .inl 0, .inr (.inr (0, 59))] (gzN, gzR0, I1, J1) 0 (fun o S' => o = .ok (some (.inl 0)) ∧ S' = (gzN, gzR0, I1, gz_uj J1 0 59 0 (gzCvZ v)))
    refine gh_if_eq (pc := 8) (tgt := 15) dL_nurse_8 (by decide) (fun hv => ?_) (fun hv => ?_)
    · rw [show gzCvZ v = 0 from if_pos hv]
      refine gh_lconst (pc := 15) dL_nurse_15 (v := 0) (by decide) ?_
      refine gh_last (N := 1) (pc := 16) dL_nurse_16 (gzOk_of (by decide)) rfl (gz_vpd (by decide)) ?_
      refine gh_goto (pc := 17) (tgt := 28) dL_nurse_17 (by decide) ?_
      refine gh_iconst (pc := 28) dL_nurse_28 (v := 0) (by decide) ?_
      exact gh_iret (pc := 29) dL_nurse_29 rfl ⟨rfl, rfl⟩
    · rw [show gzCvZ v = 1 from if_neg hv]
      refine gh_lconst (pc := 11) dL_nurse_11 (v := 1) (by decide) ?_
      refine gh_goto (pc := 12) (tgt := 16) dL_nurse_12 (by decide) ?_
      refine gh_last (N := 1) (pc := 16) dL_nurse_16 (gzOk_of (by decide)) rfl (gz_vpd (by decide)) ?_
      refine gh_goto (pc := 17) (tgt := 28) dL_nurse_17 (by decide) ?_
      refine gh_iconst (pc := 28) dL_nurse_28 (v := 0) (by decide) ?_
      exact gh_iret (pc := 29) dL_nurse_29 rfl ⟨rfl, rfl⟩
  | error E =>
    obtain ⟨k, hk⟩ := hE E rfl
    refine ⟨by decide, ?_⟩
    match k, hk with
    | 0, hk => cases hk; exact ⟨1, htL_nurse_0, 0, rfl, rfl, rfl⟩
    | 1, hk => cases hk; exact ⟨2, htL_nurse_1, 1, rfl, rfl, rfl⟩
    | k + 2, hk => simp at hk
/-! saw -/
abbrev mL_saw : gzMe := (yL_saw, cL_saw, 6, some FieldType.int)
abbrev hL_saw : List (Nat × Nat × Nat × Nat) := [(0, 12, 15, 24), (0, 12, 19, 13), (0, 12, 23, 45)]
theorem MhL_saw : gzMh mL_saw hL_saw := ⟨(gz_t6 3 (by decide +kernel) rfl), (gz_t6 4 (by decide +kernel) rfl), gzL_ini, ⟨by decide, by decide⟩, by decide⟩
theorem lhL_saw : gz_in (.methodLink RL 172 yL_saw) := gz_t6 2 (by decide +kernel) rfl
theorem htL_saw_0 : gzHit mL_saw hL_saw 7 "java/lang/IndexOutOfBoundsException" 1 := by
  refine ⟨[], ⟨0, 12, 15, 24⟩, [⟨0, 12, 19, 13⟩, ⟨0, 12, 23, 45⟩], "java/lang/IndexOutOfBoundsException", 17, 5, 1, rfl, ?_, rfl, by decide, ckL_24, gzL_cIndexOutOfBoundsException, by decide, Or.inr ⟨dL_saw_15, rfl⟩, ⟨dL_saw_17, by decide⟩, ⟨dL_saw_18, rfl⟩⟩
  exact fun z hz => by cases hz
theorem htL_saw_1 : gzHit mL_saw hL_saw 7 "java/lang/IllegalArgumentException" 2 := by
  refine ⟨[⟨0, 12, 15, 24⟩], ⟨0, 12, 19, 13⟩, [⟨0, 12, 23, 45⟩], "java/lang/IllegalArgumentException", 21, 5, 2, rfl, ?_, rfl, by decide, ckL_13, gzL_cIllegalArgumentException, by decide, Or.inr ⟨dL_saw_19, rfl⟩, ⟨dL_saw_21, by decide⟩, ⟨dL_saw_22, rfl⟩⟩
  exact fun z hz => by
    simp only [List.mem_cons, List.not_mem_nil, or_false] at hz
    subst hz
    exact ⟨by decide, "java/lang/IndexOutOfBoundsException", ckL_24, gzL_nIllegalArgumentException_IndexOutOfBoundsException⟩
theorem htL_saw_2 : gzHit mL_saw hL_saw 7 "java/lang/IllegalStateException" 3 := by
  refine ⟨[⟨0, 12, 15, 24⟩, ⟨0, 12, 19, 13⟩], ⟨0, 12, 23, 45⟩, [], "java/lang/IllegalStateException", 25, 5, 3, rfl, ?_, rfl, by decide, ckL_45, gzL_cIllegalStateException, by decide, Or.inr ⟨dL_saw_23, rfl⟩, ⟨dL_saw_25, by decide⟩, ⟨dL_saw_26, rfl⟩⟩
  exact fun z hz => by
    simp only [List.mem_cons, List.not_mem_nil, or_false] at hz
    rcases hz with rfl | rfl
    · exact ⟨by decide, "java/lang/IndexOutOfBoundsException", ckL_24, gzL_nIllegalStateException_IndexOutOfBoundsException⟩
    · exact ⟨by decide, "java/lang/IllegalArgumentException", ckL_13, gzL_nIllegalStateException_IllegalArgumentException⟩
theorem h_L_saw {g : gzG} {d : Nat} {φ : Nat} {p0 p1 p2 : Int32} {I I1 : gzIT} {J J1 : gzJT} {e : Except String Int32} (h : f_X11_saw φ p0 p1 p2 I J = some (e, I1, J1)) (hE : ∀ E, e = .error E → ∃ k : Nat, (["java/lang/IndexOutOfBoundsException", "java/lang/IllegalArgumentException", "java/lang/IllegalStateException"] : List String)[k]? = some E) : gzCh g 1 (d + 61) mL_saw hL_saw [.inr (.inr (0, 30)), .inl p0, .inl p1, .inl p2, .inr (.inr (0, 59))] (gzN, gzR0, I, J) (gzHo ["java/lang/IndexOutOfBoundsException", "java/lang/IllegalArgumentException", "java/lang/IllegalStateException"] gzCvI e I1 J1) := by
  refine gzCh_of (by decide +kernel) (Nat.le_of_ble_eq_true rfl) (loc := [some (.inr (.inr (0, 30))), some (.inl p0), some (.inl p1), some (.inl p2), some (.inr (.inr (0, 59))), none]) rfl ?_
  refine gh_aload (pc := 0) dL_saw_0 rfl ?_
  refine gh_iconst (pc := 2) dL_saw_2 (v := 0) (by decide) ?_
  refine gh_aload_n (pc := 3) dL_saw_3 rfl ?_
  refine gh_iload_n (pc := 4) dL_saw_4 rfl ?_
  refine gh_iload_n (pc := 5) dL_saw_5 rfl ?_
  refine gh_iload_n (pc := 6) dL_saw_6 rfl ?_
  refine gh_V (zy := mX11_saw) (zc := 0) (d := d + 60) (pc := 7) (t := 0) (o := 30) (ci := 11) (r := (RX11, TX11, 13)) [.inl p0, .inl p1, .inl p2] rfl dL_saw_7 lkL_54 MvX11_saw rfl (gzOk_of (by decide)) rfl rfl rfl (Or.inl rfl) (fun h => h) (by exact Nat.le_of_ble_eq_true rfl) ?_
  refine gzC.mono (c_X11_saw (d := d + 56) h) ?_
  rintro _ _ ⟨rfl, rfl⟩
  cases e with
  | ok v =>
    show gzXh g 1 (d + 61) mL_saw hL_saw 10 [some (.inr (.inr (0, 30))), some (.inl p0), some (.inl p1), some (.inl p2), some (.inr (.inr (0, 59))), none] [.inl v, .inl 0, .inr (.inr (0, 59))] (gzN, gzR0, I1, J1) 0 (fun o S' => o = .ok (some (.inl 0)) ∧ S' = (gzN, gzR0, I1, gz_uj J1 0 59 0 (gzCvI v)))
    refine gh_i2l (pc := 10) dL_saw_10 ?_
    refine gh_last (N := 1) (pc := 11) dL_saw_11 (gzOk_of (by decide)) rfl (gz_vpd (by decide)) ?_
    refine gh_goto (pc := 12) (tgt := 27) dL_saw_12 (by decide) ?_
    refine gh_iconst (pc := 27) dL_saw_27 (v := 0) (by decide) ?_
    exact gh_iret (pc := 28) dL_saw_28 rfl ⟨rfl, rfl⟩
  | error E =>
    obtain ⟨k, hk⟩ := hE E rfl
    refine ⟨by decide, ?_⟩
    match k, hk with
    | 0, hk => cases hk; exact ⟨1, htL_saw_0, 0, rfl, rfl, rfl⟩
    | 1, hk => cases hk; exact ⟨2, htL_saw_1, 1, rfl, rfl, rfl⟩
    | 2, hk => cases hk; exact ⟨3, htL_saw_2, 2, rfl, rfl, rfl⟩
    | k + 3, hk => simp at hk
/-! store -/
abbrev mL_store : gzMe := (yL_store, cL_store, 5, some FieldType.int)
abbrev hL_store : List (Nat × Nat × Nat × Nat) := [(0, 10, 13, 24), (0, 10, 17, 13), (0, 10, 21, 45)]
theorem MhL_store : gzMh mL_store hL_store := ⟨(gz_t6 23 (by decide +kernel) rfl), (gz_t6 24 (by decide +kernel) rfl), gzL_ini, ⟨by decide, by decide⟩, by decide⟩
theorem lhL_store : gz_in (.methodLink RL 175 yL_store) := gz_t6 22 (by decide +kernel) rfl
theorem htL_store_0 : gzHit mL_store hL_store 5 "java/lang/IndexOutOfBoundsException" 1 := by
  refine ⟨[], ⟨0, 10, 13, 24⟩, [⟨0, 10, 17, 13⟩, ⟨0, 10, 21, 45⟩], "java/lang/IndexOutOfBoundsException", 15, 4, 1, rfl, ?_, rfl, by decide, ckL_24, gzL_cIndexOutOfBoundsException, by decide, Or.inr ⟨dL_store_13, rfl⟩, ⟨dL_store_15, by decide⟩, ⟨dL_store_16, rfl⟩⟩
  exact fun z hz => by cases hz
theorem htL_store_1 : gzHit mL_store hL_store 5 "java/lang/IllegalArgumentException" 2 := by
  refine ⟨[⟨0, 10, 13, 24⟩], ⟨0, 10, 17, 13⟩, [⟨0, 10, 21, 45⟩], "java/lang/IllegalArgumentException", 19, 4, 2, rfl, ?_, rfl, by decide, ckL_13, gzL_cIllegalArgumentException, by decide, Or.inr ⟨dL_store_17, rfl⟩, ⟨dL_store_19, by decide⟩, ⟨dL_store_20, rfl⟩⟩
  exact fun z hz => by
    simp only [List.mem_cons, List.not_mem_nil, or_false] at hz
    subst hz
    exact ⟨by decide, "java/lang/IndexOutOfBoundsException", ckL_24, gzL_nIllegalArgumentException_IndexOutOfBoundsException⟩
theorem htL_store_2 : gzHit mL_store hL_store 5 "java/lang/IllegalStateException" 3 := by
  refine ⟨[⟨0, 10, 13, 24⟩, ⟨0, 10, 17, 13⟩], ⟨0, 10, 21, 45⟩, [], "java/lang/IllegalStateException", 23, 4, 3, rfl, ?_, rfl, by decide, ckL_45, gzL_cIllegalStateException, by decide, Or.inr ⟨dL_store_21, rfl⟩, ⟨dL_store_23, by decide⟩, ⟨dL_store_24, rfl⟩⟩
  exact fun z hz => by
    simp only [List.mem_cons, List.not_mem_nil, or_false] at hz
    rcases hz with rfl | rfl
    · exact ⟨by decide, "java/lang/IndexOutOfBoundsException", ckL_24, gzL_nIllegalStateException_IndexOutOfBoundsException⟩
    · exact ⟨by decide, "java/lang/IllegalArgumentException", ckL_13, gzL_nIllegalStateException_IllegalArgumentException⟩
theorem h_L_store {g : gzG} {d : Nat} {φ : Nat} {p0 p1 : Int32} {I I1 : gzIT} {J J1 : gzJT} {e : Except String Int32} (h : f_X11_store φ p0 p1 I J = some (e, I1, J1)) (hE : ∀ E, e = .error E → ∃ k : Nat, (["java/lang/IndexOutOfBoundsException", "java/lang/IllegalArgumentException", "java/lang/IllegalStateException"] : List String)[k]? = some E) : gzCh g 1 (d + 61) mL_store hL_store [.inr (.inr (0, 30)), .inl p0, .inl p1, .inr (.inr (0, 59))] (gzN, gzR0, I, J) (gzHo ["java/lang/IndexOutOfBoundsException", "java/lang/IllegalArgumentException", "java/lang/IllegalStateException"] gzCvI e I1 J1) := by
  refine gzCh_of (by decide +kernel) (Nat.le_of_ble_eq_true rfl) (loc := [some (.inr (.inr (0, 30))), some (.inl p0), some (.inl p1), some (.inr (.inr (0, 59))), none]) rfl ?_
  refine gh_aload_n (pc := 0) dL_store_0 rfl ?_
  refine gh_iconst (pc := 1) dL_store_1 (v := 0) (by decide) ?_
  refine gh_aload_n (pc := 2) dL_store_2 rfl ?_
  refine gh_iload_n (pc := 3) dL_store_3 rfl ?_
  refine gh_iload_n (pc := 4) dL_store_4 rfl ?_
  refine gh_V (zy := mX11_store) (zc := 0) (d := d + 60) (pc := 5) (t := 0) (o := 30) (ci := 11) (r := (RX11, TX11, 13)) [.inl p0, .inl p1] rfl dL_store_5 lkL_57 MvX11_store rfl (gzOk_of (by decide)) rfl rfl rfl (Or.inl rfl) (fun h => h) (by exact Nat.le_of_ble_eq_true rfl) ?_
  refine gzC.mono (c_X11_store (d := d + 56) h) ?_
  rintro _ _ ⟨rfl, rfl⟩
  cases e with
  | ok v =>
    show gzXh g 1 (d + 61) mL_store hL_store 8 [some (.inr (.inr (0, 30))), some (.inl p0), some (.inl p1), some (.inr (.inr (0, 59))), none] [.inl v, .inl 0, .inr (.inr (0, 59))] (gzN, gzR0, I1, J1) 0 (fun o S' => o = .ok (some (.inl 0)) ∧ S' = (gzN, gzR0, I1, gz_uj J1 0 59 0 (gzCvI v)))
    refine gh_i2l (pc := 8) dL_store_8 ?_
    refine gh_last (N := 1) (pc := 9) dL_store_9 (gzOk_of (by decide)) rfl (gz_vpd (by decide)) ?_
    refine gh_goto (pc := 10) (tgt := 25) dL_store_10 (by decide) ?_
    refine gh_iconst (pc := 25) dL_store_25 (v := 0) (by decide) ?_
    exact gh_iret (pc := 26) dL_store_26 rfl ⟨rfl, rfl⟩
  | error E =>
    obtain ⟨k, hk⟩ := hE E rfl
    refine ⟨by decide, ?_⟩
    match k, hk with
    | 0, hk => cases hk; exact ⟨1, htL_store_0, 0, rfl, rfl, rfl⟩
    | 1, hk => cases hk; exact ⟨2, htL_store_1, 1, rfl, rfl, rfl⟩
    | 2, hk => cases hk; exact ⟨3, htL_store_2, 2, rfl, rfl, rfl⟩
    | k + 3, hk => simp at hk
/-! deliver -/
abbrev mL_deliver : gzMe := (yL_deliver, cL_deliver, 5, some FieldType.int)
abbrev hL_deliver : List (Nat × Nat × Nat × Nat) := [(0, 10, 13, 24), (0, 10, 17, 13), (0, 10, 21, 45)]
theorem MhL_deliver : gzMh mL_deliver hL_deliver := ⟨(gz_t6 30 (by decide +kernel) rfl), (gz_t6 31 (by decide +kernel) rfl), gzL_ini, ⟨by decide, by decide⟩, by decide⟩
theorem lhL_deliver : gz_in (.methodLink RL 178 yL_deliver) := gz_t6 29 (by decide +kernel) rfl
theorem htL_deliver_0 : gzHit mL_deliver hL_deliver 5 "java/lang/IndexOutOfBoundsException" 1 := by
  refine ⟨[], ⟨0, 10, 13, 24⟩, [⟨0, 10, 17, 13⟩, ⟨0, 10, 21, 45⟩], "java/lang/IndexOutOfBoundsException", 15, 4, 1, rfl, ?_, rfl, by decide, ckL_24, gzL_cIndexOutOfBoundsException, by decide, Or.inr ⟨dL_deliver_13, rfl⟩, ⟨dL_deliver_15, by decide⟩, ⟨dL_deliver_16, rfl⟩⟩
  exact fun z hz => by cases hz
theorem htL_deliver_1 : gzHit mL_deliver hL_deliver 5 "java/lang/IllegalArgumentException" 2 := by
  refine ⟨[⟨0, 10, 13, 24⟩], ⟨0, 10, 17, 13⟩, [⟨0, 10, 21, 45⟩], "java/lang/IllegalArgumentException", 19, 4, 2, rfl, ?_, rfl, by decide, ckL_13, gzL_cIllegalArgumentException, by decide, Or.inr ⟨dL_deliver_17, rfl⟩, ⟨dL_deliver_19, by decide⟩, ⟨dL_deliver_20, rfl⟩⟩
  exact fun z hz => by
    simp only [List.mem_cons, List.not_mem_nil, or_false] at hz
    subst hz
    exact ⟨by decide, "java/lang/IndexOutOfBoundsException", ckL_24, gzL_nIllegalArgumentException_IndexOutOfBoundsException⟩
theorem htL_deliver_2 : gzHit mL_deliver hL_deliver 5 "java/lang/IllegalStateException" 3 := by
  refine ⟨[⟨0, 10, 13, 24⟩, ⟨0, 10, 17, 13⟩], ⟨0, 10, 21, 45⟩, [], "java/lang/IllegalStateException", 23, 4, 3, rfl, ?_, rfl, by decide, ckL_45, gzL_cIllegalStateException, by decide, Or.inr ⟨dL_deliver_21, rfl⟩, ⟨dL_deliver_23, by decide⟩, ⟨dL_deliver_24, rfl⟩⟩
  exact fun z hz => by
    simp only [List.mem_cons, List.not_mem_nil, or_false] at hz
    rcases hz with rfl | rfl
    · exact ⟨by decide, "java/lang/IndexOutOfBoundsException", ckL_24, gzL_nIllegalStateException_IndexOutOfBoundsException⟩
    · exact ⟨by decide, "java/lang/IllegalArgumentException", ckL_13, gzL_nIllegalStateException_IllegalArgumentException⟩
theorem h_L_deliver {g : gzG} {d : Nat} {φ : Nat} {p0 p1 : Int32} {I I1 : gzIT} {J J1 : gzJT} {e : Except String Int32} (h : f_X11_deliver φ p0 p1 I J = some (e, I1, J1)) (hE : ∀ E, e = .error E → ∃ k : Nat, (["java/lang/IndexOutOfBoundsException", "java/lang/IllegalArgumentException", "java/lang/IllegalStateException"] : List String)[k]? = some E) : gzCh g 1 (d + 61) mL_deliver hL_deliver [.inr (.inr (0, 30)), .inl p0, .inl p1, .inr (.inr (0, 59))] (gzN, gzR0, I, J) (gzHo ["java/lang/IndexOutOfBoundsException", "java/lang/IllegalArgumentException", "java/lang/IllegalStateException"] gzCvI e I1 J1) := by
  refine gzCh_of (by decide +kernel) (Nat.le_of_ble_eq_true rfl) (loc := [some (.inr (.inr (0, 30))), some (.inl p0), some (.inl p1), some (.inr (.inr (0, 59))), none]) rfl ?_
  refine gh_aload_n (pc := 0) dL_deliver_0 rfl ?_
  refine gh_iconst (pc := 1) dL_deliver_1 (v := 0) (by decide) ?_
  refine gh_aload_n (pc := 2) dL_deliver_2 rfl ?_
  refine gh_iload_n (pc := 3) dL_deliver_3 rfl ?_
  refine gh_iload_n (pc := 4) dL_deliver_4 rfl ?_
  refine gh_V (zy := mX11_deliver) (zc := 0) (d := d + 60) (pc := 5) (t := 0) (o := 30) (ci := 11) (r := (RX11, TX11, 13)) [.inl p0, .inl p1] rfl dL_deliver_5 lkL_60 MvX11_deliver rfl (gzOk_of (by decide)) rfl rfl rfl (Or.inl rfl) (fun h => h) (by exact Nat.le_of_ble_eq_true rfl) ?_
  refine gzC.mono (c_X11_deliver (d := d + 56) h) ?_
  rintro _ _ ⟨rfl, rfl⟩
  cases e with
  | ok v =>
    show gzXh g 1 (d + 61) mL_deliver hL_deliver 8 [some (.inr (.inr (0, 30))), some (.inl p0), some (.inl p1), some (.inr (.inr (0, 59))), none] [.inl v, .inl 0, .inr (.inr (0, 59))] (gzN, gzR0, I1, J1) 0 (fun o S' => o = .ok (some (.inl 0)) ∧ S' = (gzN, gzR0, I1, gz_uj J1 0 59 0 (gzCvI v)))
    refine gh_i2l (pc := 8) dL_deliver_8 ?_
    refine gh_last (N := 1) (pc := 9) dL_deliver_9 (gzOk_of (by decide)) rfl (gz_vpd (by decide)) ?_
    refine gh_goto (pc := 10) (tgt := 25) dL_deliver_10 (by decide) ?_
    refine gh_iconst (pc := 25) dL_deliver_25 (v := 0) (by decide) ?_
    exact gh_iret (pc := 26) dL_deliver_26 rfl ⟨rfl, rfl⟩
  | error E =>
    obtain ⟨k, hk⟩ := hE E rfl
    refine ⟨by decide, ?_⟩
    match k, hk with
    | 0, hk => cases hk; exact ⟨1, htL_deliver_0, 0, rfl, rfl, rfl⟩
    | 1, hk => cases hk; exact ⟨2, htL_deliver_1, 1, rfl, rfl, rfl⟩
    | 2, hk => cases hk; exact ⟨3, htL_deliver_2, 2, rfl, rfl, rfl⟩
    | k + 3, hk => simp at hk
/-! thaw -/
abbrev mL_thaw : gzMe := (yL_thaw, cL_thaw, 4, some FieldType.int)
abbrev hL_thaw : List (Nat × Nat × Nat × Nat) := [(0, 9, 12, 13)]
theorem MhL_thaw : gzMh mL_thaw hL_thaw := ⟨(gz_t6 38 (by decide +kernel) rfl), (gz_t6 39 (by decide +kernel) rfl), gzL_ini, ⟨by decide, by decide⟩, by decide⟩
theorem lhL_thaw : gz_in (.methodLink RL 214 yL_thaw) := gz_t6 37 (by decide +kernel) rfl
theorem htL_thaw_0 : gzHit mL_thaw hL_thaw 4 "java/lang/IllegalArgumentException" 1 := by
  refine ⟨[], ⟨0, 9, 12, 13⟩, [], "java/lang/IllegalArgumentException", 13, 3, 1, rfl, ?_, rfl, by decide, ckL_13, gzL_cIllegalArgumentException, by decide, Or.inl ⟨3, rfl, dL_thaw_12, rfl⟩, ⟨dL_thaw_13, by decide⟩, ⟨dL_thaw_14, rfl⟩⟩
  exact fun z hz => by cases hz
theorem h_L_thaw {g : gzG} {d : Nat} {φ : Nat} {p0 : Int32} {I I1 : gzIT} {J J1 : gzJT} {e : Except String Int32} (h : f_X11_thaw φ p0 I J = some (e, I1, J1)) (hE : ∀ E, e = .error E → ∃ k : Nat, (["java/lang/IllegalArgumentException"] : List String)[k]? = some E) : gzCh g 1 (d + 61) mL_thaw hL_thaw [.inr (.inr (0, 30)), .inl p0, .inr (.inr (0, 59))] (gzN, gzR0, I, J) (gzHo ["java/lang/IllegalArgumentException"] gzCvI e I1 J1) := by
  refine gzCh_of (by decide +kernel) (Nat.le_of_ble_eq_true rfl) (loc := [some (.inr (.inr (0, 30))), some (.inl p0), some (.inr (.inr (0, 59))), none]) rfl ?_
  refine gh_aload_n (pc := 0) dL_thaw_0 rfl ?_
  refine gh_iconst (pc := 1) dL_thaw_1 (v := 0) (by decide) ?_
  refine gh_aload_n (pc := 2) dL_thaw_2 rfl ?_
  refine gh_iload_n (pc := 3) dL_thaw_3 rfl ?_
  refine gh_V (zy := mX11_thaw) (zc := 0) (d := d + 60) (pc := 4) (t := 0) (o := 30) (ci := 11) (r := (RX11, TX11, 13)) [.inl p0] rfl dL_thaw_4 lkL_63 MvX11_thaw rfl (gzOk_of (by decide)) rfl rfl rfl (Or.inl rfl) (fun h => h) (by exact Nat.le_of_ble_eq_true rfl) ?_
  refine gzC.mono (c_X11_thaw (d := d + 57) h) ?_
  rintro _ _ ⟨rfl, rfl⟩
  cases e with
  | ok v =>
    show gzXh g 1 (d + 61) mL_thaw hL_thaw 7 [some (.inr (.inr (0, 30))), some (.inl p0), some (.inr (.inr (0, 59))), none] [.inl v, .inl 0, .inr (.inr (0, 59))] (gzN, gzR0, I1, J1) 0 (fun o S' => o = .ok (some (.inl 0)) ∧ S' = (gzN, gzR0, I1, gz_uj J1 0 59 0 (gzCvI v)))
    refine gh_i2l (pc := 7) dL_thaw_7 ?_
    refine gh_last (N := 1) (pc := 8) dL_thaw_8 (gzOk_of (by decide)) rfl (gz_vpd (by decide)) ?_
    refine gh_goto (pc := 9) (tgt := 15) dL_thaw_9 (by decide) ?_
    refine gh_iconst (pc := 15) dL_thaw_15 (v := 0) (by decide) ?_
    exact gh_iret (pc := 16) dL_thaw_16 rfl ⟨rfl, rfl⟩
  | error E =>
    obtain ⟨k, hk⟩ := hE E rfl
    refine ⟨by decide, ?_⟩
    match k, hk with
    | 0, hk => cases hk; exact ⟨1, htL_thaw_0, 0, rfl, rfl, rfl⟩
    | k + 1, hk => simp at hk
/-! cuts -/
abbrev mL_cuts : gzMe := (yL_cuts, cL_cuts, 4, some FieldType.int)
abbrev hL_cuts : List (Nat × Nat × Nat × Nat) := [(0, 9, 12, 13)]
theorem MhL_cuts : gzMh mL_cuts hL_cuts := ⟨(gz_t6 59 (by decide +kernel) rfl), (gz_t6 60 (by decide +kernel) rfl), gzL_ini, ⟨by decide, by decide⟩, by decide⟩
theorem lhL_cuts : gz_in (.methodLink RL 225 yL_cuts) := gz_t6 58 (by decide +kernel) rfl
theorem htL_cuts_0 : gzHit mL_cuts hL_cuts 4 "java/lang/IllegalArgumentException" 1 := by
  refine ⟨[], ⟨0, 9, 12, 13⟩, [], "java/lang/IllegalArgumentException", 13, 3, 1, rfl, ?_, rfl, by decide, ckL_13, gzL_cIllegalArgumentException, by decide, Or.inl ⟨3, rfl, dL_cuts_12, rfl⟩, ⟨dL_cuts_13, by decide⟩, ⟨dL_cuts_14, rfl⟩⟩
  exact fun z hz => by cases hz
theorem h_L_cuts {g : gzG} {d : Nat} {φ : Nat} {p0 : Int32} {I I1 : gzIT} {J J1 : gzJT} {e : Except String Int32} (h : f_X11_cuts φ p0 I J = some (e, I1, J1)) (hE : ∀ E, e = .error E → ∃ k : Nat, (["java/lang/IllegalArgumentException"] : List String)[k]? = some E) : gzCh g 1 (d + 61) mL_cuts hL_cuts [.inr (.inr (0, 30)), .inl p0, .inr (.inr (0, 59))] (gzN, gzR0, I, J) (gzHo ["java/lang/IllegalArgumentException"] gzCvI e I1 J1) := by
  refine gzCh_of (by decide +kernel) (Nat.le_of_ble_eq_true rfl) (loc := [some (.inr (.inr (0, 30))), some (.inl p0), some (.inr (.inr (0, 59))), none]) rfl ?_
  refine gh_aload_n (pc := 0) dL_cuts_0 rfl ?_
  refine gh_iconst (pc := 1) dL_cuts_1 (v := 0) (by decide) ?_
  refine gh_aload_n (pc := 2) dL_cuts_2 rfl ?_
  refine gh_iload_n (pc := 3) dL_cuts_3 rfl ?_
  refine gh_V (zy := mX11_cuts) (zc := 0) (d := d + 60) (pc := 4) (t := 0) (o := 30) (ci := 11) (r := (RX11, TX11, 13)) [.inl p0] rfl dL_cuts_4 lkL_66 MvX11_cuts rfl (gzOk_of (by decide)) rfl rfl rfl (Or.inl rfl) (fun h => h) (by exact Nat.le_of_ble_eq_true rfl) ?_
  refine gzC.mono (c_X11_cuts (d := d + 57) h) ?_
  rintro _ _ ⟨rfl, rfl⟩
  cases e with
  | ok v =>
    show gzXh g 1 (d + 61) mL_cuts hL_cuts 7 [some (.inr (.inr (0, 30))), some (.inl p0), some (.inr (.inr (0, 59))), none] [.inl v, .inl 0, .inr (.inr (0, 59))] (gzN, gzR0, I1, J1) 0 (fun o S' => o = .ok (some (.inl 0)) ∧ S' = (gzN, gzR0, I1, gz_uj J1 0 59 0 (gzCvI v)))
    refine gh_i2l (pc := 7) dL_cuts_7 ?_
    refine gh_last (N := 1) (pc := 8) dL_cuts_8 (gzOk_of (by decide)) rfl (gz_vpd (by decide)) ?_
    refine gh_goto (pc := 9) (tgt := 15) dL_cuts_9 (by decide) ?_
    refine gh_iconst (pc := 15) dL_cuts_15 (v := 0) (by decide) ?_
    exact gh_iret (pc := 16) dL_cuts_16 rfl ⟨rfl, rfl⟩
  | error E =>
    obtain ⟨k, hk⟩ := hE E rfl
    refine ⟨by decide, ?_⟩
    match k, hk with
    | 0, hk => cases hk; exact ⟨1, htL_cuts_0, 0, rfl, rfl, rfl⟩
    | k + 1, hk => simp at hk
/-! ask -/
abbrev mL_ask : gzMe := (yL_ask, cL_ask, 3, some FieldType.int)
abbrev hL_ask : List (Nat × Nat × Nat × Nat) := [(0, 8, 11, 13)]
theorem MhL_ask : gzMh mL_ask hL_ask := ⟨(gz_t6 85 (by decide +kernel) rfl), (gz_t6 86 (by decide +kernel) rfl), gzL_ini, ⟨by decide, by decide⟩, by decide⟩
theorem lhL_ask : gz_in (.methodLink RL 229 yL_ask) := gz_t6 84 (by decide +kernel) rfl
theorem htL_ask_0 : gzHit mL_ask hL_ask 3 "java/lang/IllegalArgumentException" 1 := by
  refine ⟨[], ⟨0, 8, 11, 13⟩, [], "java/lang/IllegalArgumentException", 12, 2, 1, rfl, ?_, rfl, by decide, ckL_13, gzL_cIllegalArgumentException, by decide, Or.inl ⟨2, rfl, dL_ask_11, rfl⟩, ⟨dL_ask_12, by decide⟩, ⟨dL_ask_13, rfl⟩⟩
  exact fun z hz => by cases hz
theorem h_L_ask {g : gzG} {d : Nat} {φ : Nat} {I I1 : gzIT} {J J1 : gzJT} {e : Except String Int32} (h : f_X11_ask φ I J = some (e, I1, J1)) (hE : ∀ E, e = .error E → ∃ k : Nat, (["java/lang/IllegalArgumentException"] : List String)[k]? = some E) : gzCh g 1 (d + 61) mL_ask hL_ask [.inr (.inr (0, 30)), .inr (.inr (0, 59))] (gzN, gzR0, I, J) (gzHo ["java/lang/IllegalArgumentException"] gzCvI e I1 J1) := by
  refine gzCh_of (by decide +kernel) (Nat.le_of_ble_eq_true rfl) (loc := [some (.inr (.inr (0, 30))), some (.inr (.inr (0, 59))), none]) rfl ?_
  refine gh_aload_n (pc := 0) dL_ask_0 rfl ?_
  refine gh_iconst (pc := 1) dL_ask_1 (v := 0) (by decide) ?_
  refine gh_aload_n (pc := 2) dL_ask_2 rfl ?_
  refine gh_V (zy := mX11_ask) (zc := 0) (d := d + 60) (pc := 3) (t := 0) (o := 30) (ci := 11) (r := (RX11, TX11, 13)) [] rfl dL_ask_3 lkL_70 MvX11_ask rfl (gzOk_of (by decide)) rfl rfl rfl (Or.inl rfl) (fun h => h) (by exact Nat.le_of_ble_eq_true rfl) ?_
  refine gzC.mono (c_X11_ask (d := d + 57) h) ?_
  rintro _ _ ⟨rfl, rfl⟩
  cases e with
  | ok v =>
    show gzXh g 1 (d + 61) mL_ask hL_ask 6 [some (.inr (.inr (0, 30))), some (.inr (.inr (0, 59))), none] [.inl v, .inl 0, .inr (.inr (0, 59))] (gzN, gzR0, I1, J1) 0 (fun o S' => o = .ok (some (.inl 0)) ∧ S' = (gzN, gzR0, I1, gz_uj J1 0 59 0 (gzCvI v)))
    refine gh_i2l (pc := 6) dL_ask_6 ?_
    refine gh_last (N := 1) (pc := 7) dL_ask_7 (gzOk_of (by decide)) rfl (gz_vpd (by decide)) ?_
    refine gh_goto (pc := 8) (tgt := 14) dL_ask_8 (by decide) ?_
    refine gh_iconst (pc := 14) dL_ask_14 (v := 0) (by decide) ?_
    exact gh_iret (pc := 15) dL_ask_15 rfl ⟨rfl, rfl⟩
  | error E =>
    obtain ⟨k, hk⟩ := hE E rfl
    refine ⟨by decide, ?_⟩
    match k, hk with
    | 0, hk => cases hk; exact ⟨1, htL_ask_0, 0, rfl, rfl, rfl⟩
    | k + 1, hk => simp at hk
/-! steps -/
abbrev mL_steps : gzMe := (yL_steps, cL_steps, 5, some FieldType.int)
abbrev hL_steps : List (Nat × Nat × Nat × Nat) := [(0, 10, 13, 24)]
theorem MhL_steps : gzMh mL_steps hL_steps := ⟨(gz_t6 96 (by decide +kernel) rfl), (gz_t6 97 (by decide +kernel) rfl), gzL_ini, ⟨by decide, by decide⟩, by decide⟩
theorem lhL_steps : gz_in (.methodLink RL 236 yL_steps) := gz_t6 95 (by decide +kernel) rfl
theorem htL_steps_0 : gzHit mL_steps hL_steps 5 "java/lang/IndexOutOfBoundsException" 1 := by
  refine ⟨[], ⟨0, 10, 13, 24⟩, [], "java/lang/IndexOutOfBoundsException", 15, 4, 1, rfl, ?_, rfl, by decide, ckL_24, gzL_cIndexOutOfBoundsException, by decide, Or.inr ⟨dL_steps_13, rfl⟩, ⟨dL_steps_15, by decide⟩, ⟨dL_steps_16, rfl⟩⟩
  exact fun z hz => by cases hz
theorem h_L_steps {g : gzG} {d : Nat} {φ : Nat} {p0 p1 : Int32} {I I1 : gzIT} {J J1 : gzJT} {e : Except String Int32} (h : f_X11_steps φ p0 p1 I J = some (e, I1, J1)) (hE : ∀ E, e = .error E → ∃ k : Nat, (["java/lang/IndexOutOfBoundsException"] : List String)[k]? = some E) : gzCh g 1 (d + 61) mL_steps hL_steps [.inr (.inr (0, 30)), .inl p0, .inl p1, .inr (.inr (0, 59))] (gzN, gzR0, I, J) (gzHo ["java/lang/IndexOutOfBoundsException"] gzCvI e I1 J1) := by
  refine gzCh_of (by decide +kernel) (Nat.le_of_ble_eq_true rfl) (loc := [some (.inr (.inr (0, 30))), some (.inl p0), some (.inl p1), some (.inr (.inr (0, 59))), none]) rfl ?_
  refine gh_aload_n (pc := 0) dL_steps_0 rfl ?_
  refine gh_iconst (pc := 1) dL_steps_1 (v := 0) (by decide) ?_
  refine gh_aload_n (pc := 2) dL_steps_2 rfl ?_
  refine gh_iload_n (pc := 3) dL_steps_3 rfl ?_
  refine gh_iload_n (pc := 4) dL_steps_4 rfl ?_
  refine gh_V (zy := mX11_steps) (zc := 0) (d := d + 60) (pc := 5) (t := 0) (o := 30) (ci := 11) (r := (RX11, TX11, 13)) [.inl p0, .inl p1] rfl dL_steps_5 lkL_73 MvX11_steps rfl (gzOk_of (by decide)) rfl rfl rfl (Or.inl rfl) (fun h => h) (by exact Nat.le_of_ble_eq_true rfl) ?_
  refine gzC.mono (c_X11_steps (d := d + 57) h) ?_
  rintro _ _ ⟨rfl, rfl⟩
  cases e with
  | ok v =>
    show gzXh g 1 (d + 61) mL_steps hL_steps 8 [some (.inr (.inr (0, 30))), some (.inl p0), some (.inl p1), some (.inr (.inr (0, 59))), none] [.inl v, .inl 0, .inr (.inr (0, 59))] (gzN, gzR0, I1, J1) 0 (fun o S' => o = .ok (some (.inl 0)) ∧ S' = (gzN, gzR0, I1, gz_uj J1 0 59 0 (gzCvI v)))
    refine gh_i2l (pc := 8) dL_steps_8 ?_
    refine gh_last (N := 1) (pc := 9) dL_steps_9 (gzOk_of (by decide)) rfl (gz_vpd (by decide)) ?_
    refine gh_goto (pc := 10) (tgt := 17) dL_steps_10 (by decide) ?_
    refine gh_iconst (pc := 17) dL_steps_17 (v := 0) (by decide) ?_
    exact gh_iret (pc := 18) dL_steps_18 rfl ⟨rfl, rfl⟩
  | error E =>
    obtain ⟨k, hk⟩ := hE E rfl
    refine ⟨by decide, ?_⟩
    match k, hk with
    | 0, hk => cases hk; exact ⟨1, htL_steps_0, 0, rfl, rfl, rfl⟩
    | k + 1, hk => simp at hk
/-! ring -/
abbrev mL_ring : gzMe := (yL_ring, cL_ring, 4, some FieldType.int)
abbrev hL_ring : List (Nat × Nat × Nat × Nat) := [(0, 16, 19, 24)]
theorem MhL_ring : gzMh mL_ring hL_ring := ⟨(gz_t6 103 (by decide +kernel) rfl), (gz_t6 104 (by decide +kernel) rfl), gzL_ini, ⟨by decide, by decide⟩, by decide⟩
theorem lhL_ring : gz_in (.methodLink RL 239 yL_ring) := gz_t6 102 (by decide +kernel) rfl
theorem htL_ring_0 : gzHit mL_ring hL_ring 4 "java/lang/IndexOutOfBoundsException" 1 := by
  refine ⟨[], ⟨0, 16, 19, 24⟩, [], "java/lang/IndexOutOfBoundsException", 20, 3, 1, rfl, ?_, rfl, by decide, ckL_24, gzL_cIndexOutOfBoundsException, by decide, Or.inl ⟨3, rfl, dL_ring_19, rfl⟩, ⟨dL_ring_20, by decide⟩, ⟨dL_ring_21, rfl⟩⟩
  exact fun z hz => by cases hz
theorem h_L_ring {g : gzG} {d : Nat} {φ : Nat} {p0 : Int32} {I I1 : gzIT} {J J1 : gzJT} {e : Except String Int32} (h : f_X11_ring φ p0 I J = some (e, I1, J1)) (hE : ∀ E, e = .error E → ∃ k : Nat, (["java/lang/IndexOutOfBoundsException"] : List String)[k]? = some E) : gzCh g 1 (d + 61) mL_ring hL_ring [.inr (.inr (0, 30)), .inl p0, .inr (.inr (0, 59))] (gzN, gzR0, I, J) (gzHo ["java/lang/IndexOutOfBoundsException"] gzCvZ e I1 J1) := by
  refine gzCh_of (by decide +kernel) (Nat.le_of_ble_eq_true rfl) (loc := [some (.inr (.inr (0, 30))), some (.inl p0), some (.inr (.inr (0, 59))), none]) rfl ?_
  refine gh_aload_n (pc := 0) dL_ring_0 rfl ?_
  refine gh_iconst (pc := 1) dL_ring_1 (v := 0) (by decide) ?_
  refine gh_aload_n (pc := 2) dL_ring_2 rfl ?_
  refine gh_iload_n (pc := 3) dL_ring_3 rfl ?_
  refine gh_V (zy := mX11_ring) (zc := 0) (d := d + 60) (pc := 4) (t := 0) (o := 30) (ci := 11) (r := (RX11, TX11, 13)) [.inl p0] rfl dL_ring_4 lkL_76 MvX11_ring rfl (gzOk_of (by decide)) rfl rfl rfl (Or.inl rfl) (fun h => h) (by exact Nat.le_of_ble_eq_true rfl) ?_
  refine gzC.mono (c_X11_ring (d := d + 56) h) ?_
  rintro _ _ ⟨rfl, rfl⟩
  cases e with
  | ok v =>
    show gzXh g 1 (d + 61) mL_ring hL_ring 7 [some (.inr (.inr (0, 30))), some (.inl p0), some (.inr (.inr (0, 59))), none] [.inl v, .inl 0, .inr (.inr (0, 59))] (gzN, gzR0, I1, J1) 0 (fun o S' => o = .ok (some (.inl 0)) ∧ S' = (gzN, gzR0, I1, gz_uj J1 0 59 0 (gzCvZ v)))
    refine gh_if_eq (pc := 7) (tgt := 14) dL_ring_7 (by decide) (fun hv => ?_) (fun hv => ?_)
    · rw [show gzCvZ v = 0 from if_pos hv]
      refine gh_lconst (pc := 14) dL_ring_14 (v := 0) (by decide) ?_
      refine gh_last (N := 1) (pc := 15) dL_ring_15 (gzOk_of (by decide)) rfl (gz_vpd (by decide)) ?_
      refine gh_goto (pc := 16) (tgt := 22) dL_ring_16 (by decide) ?_
      refine gh_iconst (pc := 22) dL_ring_22 (v := 0) (by decide) ?_
      exact gh_iret (pc := 23) dL_ring_23 rfl ⟨rfl, rfl⟩
    · rw [show gzCvZ v = 1 from if_neg hv]
      refine gh_lconst (pc := 10) dL_ring_10 (v := 1) (by decide) ?_
      refine gh_goto (pc := 11) (tgt := 15) dL_ring_11 (by decide) ?_
      refine gh_last (N := 1) (pc := 15) dL_ring_15 (gzOk_of (by decide)) rfl (gz_vpd (by decide)) ?_
      refine gh_goto (pc := 16) (tgt := 22) dL_ring_16 (by decide) ?_
      refine gh_iconst (pc := 22) dL_ring_22 (v := 0) (by decide) ?_
      exact gh_iret (pc := 23) dL_ring_23 rfl ⟨rfl, rfl⟩
  | error E =>
    obtain ⟨k, hk⟩ := hE E rfl
    refine ⟨by decide, ?_⟩
    match k, hk with
    | 0, hk => cases hk; exact ⟨1, htL_ring_0, 0, rfl, rfl, rfl⟩
    | k + 1, hk => simp at hk
/-! kisses -/
abbrev mL_kisses : gzMe := (yL_kisses, cL_kisses, 4, some FieldType.int)
abbrev hL_kisses : List (Nat × Nat × Nat × Nat) := [(0, 9, 12, 24)]
theorem MhL_kisses : gzMh mL_kisses hL_kisses := ⟨(gz_t6 114 (by decide +kernel) rfl), (gz_t6 115 (by decide +kernel) rfl), gzL_ini, ⟨by decide, by decide⟩, by decide⟩
theorem lhL_kisses : gz_in (.methodLink RL 250 yL_kisses) := gz_t6 113 (by decide +kernel) rfl
theorem htL_kisses_0 : gzHit mL_kisses hL_kisses 4 "java/lang/IndexOutOfBoundsException" 1 := by
  refine ⟨[], ⟨0, 9, 12, 24⟩, [], "java/lang/IndexOutOfBoundsException", 13, 3, 1, rfl, ?_, rfl, by decide, ckL_24, gzL_cIndexOutOfBoundsException, by decide, Or.inl ⟨3, rfl, dL_kisses_12, rfl⟩, ⟨dL_kisses_13, by decide⟩, ⟨dL_kisses_14, rfl⟩⟩
  exact fun z hz => by cases hz
theorem h_L_kisses {g : gzG} {d : Nat} {φ : Nat} {p0 : Int32} {I I1 : gzIT} {J J1 : gzJT} {e : Except String Int32} (h : f_X11_kisses φ p0 I J = some (e, I1, J1)) (hE : ∀ E, e = .error E → ∃ k : Nat, (["java/lang/IndexOutOfBoundsException"] : List String)[k]? = some E) : gzCh g 1 (d + 61) mL_kisses hL_kisses [.inr (.inr (0, 30)), .inl p0, .inr (.inr (0, 59))] (gzN, gzR0, I, J) (gzHo ["java/lang/IndexOutOfBoundsException"] gzCvI e I1 J1) := by
  refine gzCh_of (by decide +kernel) (Nat.le_of_ble_eq_true rfl) (loc := [some (.inr (.inr (0, 30))), some (.inl p0), some (.inr (.inr (0, 59))), none]) rfl ?_
  refine gh_aload_n (pc := 0) dL_kisses_0 rfl ?_
  refine gh_iconst (pc := 1) dL_kisses_1 (v := 0) (by decide) ?_
  refine gh_aload_n (pc := 2) dL_kisses_2 rfl ?_
  refine gh_iload_n (pc := 3) dL_kisses_3 rfl ?_
  refine gh_V (zy := mX11_kisses) (zc := 0) (d := d + 60) (pc := 4) (t := 0) (o := 30) (ci := 11) (r := (RX11, TX11, 13)) [.inl p0] rfl dL_kisses_4 lkL_80 MvX11_kisses rfl (gzOk_of (by decide)) rfl rfl rfl (Or.inl rfl) (fun h => h) (by exact Nat.le_of_ble_eq_true rfl) ?_
  refine gzC.mono (c_X11_kisses (d := d + 47) h) ?_
  rintro _ _ ⟨rfl, rfl⟩
  cases e with
  | ok v =>
    show gzXh g 1 (d + 61) mL_kisses hL_kisses 7 [some (.inr (.inr (0, 30))), some (.inl p0), some (.inr (.inr (0, 59))), none] [.inl v, .inl 0, .inr (.inr (0, 59))] (gzN, gzR0, I1, J1) 0 (fun o S' => o = .ok (some (.inl 0)) ∧ S' = (gzN, gzR0, I1, gz_uj J1 0 59 0 (gzCvI v)))
    refine gh_i2l (pc := 7) dL_kisses_7 ?_
    refine gh_last (N := 1) (pc := 8) dL_kisses_8 (gzOk_of (by decide)) rfl (gz_vpd (by decide)) ?_
    refine gh_goto (pc := 9) (tgt := 15) dL_kisses_9 (by decide) ?_
    refine gh_iconst (pc := 15) dL_kisses_15 (v := 0) (by decide) ?_
    exact gh_iret (pc := 16) dL_kisses_16 rfl ⟨rfl, rfl⟩
  | error E =>
    obtain ⟨k, hk⟩ := hE E rfl
    refine ⟨by decide, ?_⟩
    match k, hk with
    | 0, hk => cases hk; exact ⟨1, htL_kisses_0, 0, rfl, rfl, rfl⟩
    | k + 1, hk => simp at hk
/-! shares -/
abbrev mL_shares : gzMe := (yL_shares, cL_shares, 5, some FieldType.int)
abbrev hL_shares : List (Nat × Nat × Nat × Nat) := [(0, 10, 13, 24), (0, 10, 17, 13)]
theorem MhL_shares : gzMh mL_shares hL_shares := ⟨(gz_t6 129 (by decide +kernel) rfl), (gz_t6 130 (by decide +kernel) rfl), gzL_ini, ⟨by decide, by decide⟩, by decide⟩
theorem lhL_shares : gz_in (.methodLink RL 253 yL_shares) := gz_t6 128 (by decide +kernel) rfl
theorem htL_shares_0 : gzHit mL_shares hL_shares 5 "java/lang/IndexOutOfBoundsException" 1 := by
  refine ⟨[], ⟨0, 10, 13, 24⟩, [⟨0, 10, 17, 13⟩], "java/lang/IndexOutOfBoundsException", 15, 4, 1, rfl, ?_, rfl, by decide, ckL_24, gzL_cIndexOutOfBoundsException, by decide, Or.inr ⟨dL_shares_13, rfl⟩, ⟨dL_shares_15, by decide⟩, ⟨dL_shares_16, rfl⟩⟩
  exact fun z hz => by cases hz
theorem htL_shares_1 : gzHit mL_shares hL_shares 5 "java/lang/IllegalArgumentException" 2 := by
  refine ⟨[⟨0, 10, 13, 24⟩], ⟨0, 10, 17, 13⟩, [], "java/lang/IllegalArgumentException", 19, 4, 2, rfl, ?_, rfl, by decide, ckL_13, gzL_cIllegalArgumentException, by decide, Or.inr ⟨dL_shares_17, rfl⟩, ⟨dL_shares_19, by decide⟩, ⟨dL_shares_20, rfl⟩⟩
  exact fun z hz => by
    simp only [List.mem_cons, List.not_mem_nil, or_false] at hz
    subst hz
    exact ⟨by decide, "java/lang/IndexOutOfBoundsException", ckL_24, gzL_nIllegalArgumentException_IndexOutOfBoundsException⟩
theorem h_L_shares {g : gzG} {d : Nat} {φ : Nat} {p0 p1 : Int32} {I I1 : gzIT} {J J1 : gzJT} {e : Except String Int32} (h : f_X11_shares φ p0 p1 I J = some (e, I1, J1)) (hE : ∀ E, e = .error E → ∃ k : Nat, (["java/lang/IndexOutOfBoundsException", "java/lang/IllegalArgumentException"] : List String)[k]? = some E) : gzCh g 1 (d + 61) mL_shares hL_shares [.inr (.inr (0, 30)), .inl p0, .inl p1, .inr (.inr (0, 59))] (gzN, gzR0, I, J) (gzHo ["java/lang/IndexOutOfBoundsException", "java/lang/IllegalArgumentException"] gzCvI e I1 J1) := by
  refine gzCh_of (by decide +kernel) (Nat.le_of_ble_eq_true rfl) (loc := [some (.inr (.inr (0, 30))), some (.inl p0), some (.inl p1), some (.inr (.inr (0, 59))), none]) rfl ?_
  refine gh_aload_n (pc := 0) dL_shares_0 rfl ?_
  refine gh_iconst (pc := 1) dL_shares_1 (v := 0) (by decide) ?_
  refine gh_aload_n (pc := 2) dL_shares_2 rfl ?_
  refine gh_iload_n (pc := 3) dL_shares_3 rfl ?_
  refine gh_iload_n (pc := 4) dL_shares_4 rfl ?_
  refine gh_V (zy := mX11_shares) (zc := 0) (d := d + 60) (pc := 5) (t := 0) (o := 30) (ci := 11) (r := (RX11, TX11, 13)) [.inl p0, .inl p1] rfl dL_shares_5 lkL_83 MvX11_shares rfl (gzOk_of (by decide)) rfl rfl rfl (Or.inl rfl) (fun h => h) (by exact Nat.le_of_ble_eq_true rfl) ?_
  refine gzC.mono (c_X11_shares (d := d + 58) h) ?_
  rintro _ _ ⟨rfl, rfl⟩
  cases e with
  | ok v =>
    show gzXh g 1 (d + 61) mL_shares hL_shares 8 [some (.inr (.inr (0, 30))), some (.inl p0), some (.inl p1), some (.inr (.inr (0, 59))), none] [.inl v, .inl 0, .inr (.inr (0, 59))] (gzN, gzR0, I1, J1) 0 (fun o S' => o = .ok (some (.inl 0)) ∧ S' = (gzN, gzR0, I1, gz_uj J1 0 59 0 (gzCvI v)))
    refine gh_i2l (pc := 8) dL_shares_8 ?_
    refine gh_last (N := 1) (pc := 9) dL_shares_9 (gzOk_of (by decide)) rfl (gz_vpd (by decide)) ?_
    refine gh_goto (pc := 10) (tgt := 21) dL_shares_10 (by decide) ?_
    refine gh_iconst (pc := 21) dL_shares_21 (v := 0) (by decide) ?_
    exact gh_iret (pc := 22) dL_shares_22 rfl ⟨rfl, rfl⟩
  | error E =>
    obtain ⟨k, hk⟩ := hE E rfl
    refine ⟨by decide, ?_⟩
    match k, hk with
    | 0, hk => cases hk; exact ⟨1, htL_shares_0, 0, rfl, rfl, rfl⟩
    | 1, hk => cases hk; exact ⟨2, htL_shares_1, 1, rfl, rfl, rfl⟩
    | k + 2, hk => simp at hk
/-! swap -/
abbrev mL_swap : gzMe := (yL_swap, cL_swap, 5, some FieldType.int)
abbrev hL_swap : List (Nat × Nat × Nat × Nat) := [(0, 17, 20, 24), (0, 17, 24, 13)]
theorem MhL_swap : gzMh mL_swap hL_swap := ⟨(gz_t6 140 (by decide +kernel) rfl), (gz_t6 141 (by decide +kernel) rfl), gzL_ini, ⟨by decide, by decide⟩, by decide⟩
theorem lhL_swap : gz_in (.methodLink RL 256 yL_swap) := gz_t6 139 (by decide +kernel) rfl
theorem htL_swap_0 : gzHit mL_swap hL_swap 5 "java/lang/IndexOutOfBoundsException" 1 := by
  refine ⟨[], ⟨0, 17, 20, 24⟩, [⟨0, 17, 24, 13⟩], "java/lang/IndexOutOfBoundsException", 22, 4, 1, rfl, ?_, rfl, by decide, ckL_24, gzL_cIndexOutOfBoundsException, by decide, Or.inr ⟨dL_swap_20, rfl⟩, ⟨dL_swap_22, by decide⟩, ⟨dL_swap_23, rfl⟩⟩
  exact fun z hz => by cases hz
theorem htL_swap_1 : gzHit mL_swap hL_swap 5 "java/lang/IllegalArgumentException" 2 := by
  refine ⟨[⟨0, 17, 20, 24⟩], ⟨0, 17, 24, 13⟩, [], "java/lang/IllegalArgumentException", 26, 4, 2, rfl, ?_, rfl, by decide, ckL_13, gzL_cIllegalArgumentException, by decide, Or.inr ⟨dL_swap_24, rfl⟩, ⟨dL_swap_26, by decide⟩, ⟨dL_swap_27, rfl⟩⟩
  exact fun z hz => by
    simp only [List.mem_cons, List.not_mem_nil, or_false] at hz
    subst hz
    exact ⟨by decide, "java/lang/IndexOutOfBoundsException", ckL_24, gzL_nIllegalArgumentException_IndexOutOfBoundsException⟩
theorem h_L_swap {g : gzG} {d : Nat} {p0 p1 : Int32} {I I1 : gzIT} {J J1 : gzJT} {e : Except String Int32} (h : f_X11_swap p0 p1 I J = some (e, I1, J1)) (hE : ∀ E, e = .error E → ∃ k : Nat, (["java/lang/IndexOutOfBoundsException", "java/lang/IllegalArgumentException"] : List String)[k]? = some E) : gzCh g 1 (d + 61) mL_swap hL_swap [.inr (.inr (0, 30)), .inl p0, .inl p1, .inr (.inr (0, 59))] (gzN, gzR0, I, J) (gzHo ["java/lang/IndexOutOfBoundsException", "java/lang/IllegalArgumentException"] gzCvZ e I1 J1) := by
  refine gzCh_of (by decide +kernel) (Nat.le_of_ble_eq_true rfl) (loc := [some (.inr (.inr (0, 30))), some (.inl p0), some (.inl p1), some (.inr (.inr (0, 59))), none]) rfl ?_
  refine gh_aload_n (pc := 0) dL_swap_0 rfl ?_
  refine gh_iconst (pc := 1) dL_swap_1 (v := 0) (by decide) ?_
  refine gh_aload_n (pc := 2) dL_swap_2 rfl ?_
  refine gh_iload_n (pc := 3) dL_swap_3 rfl ?_
  refine gh_iload_n (pc := 4) dL_swap_4 rfl ?_
  refine gh_V (zy := mX11_swap) (zc := 0) (d := d + 60) (pc := 5) (t := 0) (o := 30) (ci := 11) (r := (RX11, TX11, 13)) [.inl p0, .inl p1] rfl dL_swap_5 lkL_86 MvX11_swap rfl (gzOk_of (by decide)) rfl rfl rfl (Or.inl rfl) (fun h => h) (by exact Nat.le_of_ble_eq_true rfl) ?_
  refine gzC.mono (c_X11_swap (d := d + 57) h) ?_
  rintro _ _ ⟨rfl, rfl⟩
  cases e with
  | ok v =>
    show gzXh g 1 (d + 61) mL_swap hL_swap 8 [some (.inr (.inr (0, 30))), some (.inl p0), some (.inl p1), some (.inr (.inr (0, 59))), none] [.inl v, .inl 0, .inr (.inr (0, 59))] (gzN, gzR0, I1, J1) 0 (fun o S' => o = .ok (some (.inl 0)) ∧ S' = (gzN, gzR0, I1, gz_uj J1 0 59 0 (gzCvZ v)))
    refine gh_if_eq (pc := 8) (tgt := 15) dL_swap_8 (by decide) (fun hv => ?_) (fun hv => ?_)
    · rw [show gzCvZ v = 0 from if_pos hv]
      refine gh_lconst (pc := 15) dL_swap_15 (v := 0) (by decide) ?_
      refine gh_last (N := 1) (pc := 16) dL_swap_16 (gzOk_of (by decide)) rfl (gz_vpd (by decide)) ?_
      refine gh_goto (pc := 17) (tgt := 28) dL_swap_17 (by decide) ?_
      refine gh_iconst (pc := 28) dL_swap_28 (v := 0) (by decide) ?_
      exact gh_iret (pc := 29) dL_swap_29 rfl ⟨rfl, rfl⟩
    · rw [show gzCvZ v = 1 from if_neg hv]
      refine gh_lconst (pc := 11) dL_swap_11 (v := 1) (by decide) ?_
      refine gh_goto (pc := 12) (tgt := 16) dL_swap_12 (by decide) ?_
      refine gh_last (N := 1) (pc := 16) dL_swap_16 (gzOk_of (by decide)) rfl (gz_vpd (by decide)) ?_
      refine gh_goto (pc := 17) (tgt := 28) dL_swap_17 (by decide) ?_
      refine gh_iconst (pc := 28) dL_swap_28 (v := 0) (by decide) ?_
      exact gh_iret (pc := 29) dL_swap_29 rfl ⟨rfl, rfl⟩
  | error E =>
    obtain ⟨k, hk⟩ := hE E rfl
    refine ⟨by decide, ?_⟩
    match k, hk with
    | 0, hk => cases hk; exact ⟨1, htL_swap_0, 0, rfl, rfl, rfl⟩
    | 1, hk => cases hk; exact ⟨2, htL_swap_1, 1, rfl, rfl, rfl⟩
    | k + 2, hk => simp at hk
/-! rests -/
abbrev mL_rests : gzMe := (yL_rests, cL_rests, 4, some FieldType.int)
abbrev hL_rests : List (Nat × Nat × Nat × Nat) := [(0, 9, 12, 24)]
theorem MhL_rests : gzMh mL_rests hL_rests := ⟨(gz_t6 155 (by decide +kernel) rfl), (gz_t6 156 (by decide +kernel) rfl), gzL_ini, ⟨by decide, by decide⟩, by decide⟩
theorem lhL_rests : gz_in (.methodLink RL 259 yL_rests) := gz_t6 154 (by decide +kernel) rfl
theorem htL_rests_0 : gzHit mL_rests hL_rests 4 "java/lang/IndexOutOfBoundsException" 1 := by
  refine ⟨[], ⟨0, 9, 12, 24⟩, [], "java/lang/IndexOutOfBoundsException", 13, 3, 1, rfl, ?_, rfl, by decide, ckL_24, gzL_cIndexOutOfBoundsException, by decide, Or.inl ⟨3, rfl, dL_rests_12, rfl⟩, ⟨dL_rests_13, by decide⟩, ⟨dL_rests_14, rfl⟩⟩
  exact fun z hz => by cases hz
theorem h_L_rests {g : gzG} {d : Nat} {φ : Nat} {p0 : Int32} {I I1 : gzIT} {J J1 : gzJT} {e : Except String Int32} (h : f_X11_rests φ p0 I J = some (e, I1, J1)) (hE : ∀ E, e = .error E → ∃ k : Nat, (["java/lang/IndexOutOfBoundsException"] : List String)[k]? = some E) : gzCh g 1 (d + 61) mL_rests hL_rests [.inr (.inr (0, 30)), .inl p0, .inr (.inr (0, 59))] (gzN, gzR0, I, J) (gzHo ["java/lang/IndexOutOfBoundsException"] gzCvI e I1 J1) := by
  refine gzCh_of (by decide +kernel) (Nat.le_of_ble_eq_true rfl) (loc := [some (.inr (.inr (0, 30))), some (.inl p0), some (.inr (.inr (0, 59))), none]) rfl ?_
  refine gh_aload_n (pc := 0) dL_rests_0 rfl ?_
  refine gh_iconst (pc := 1) dL_rests_1 (v := 0) (by decide) ?_
  refine gh_aload_n (pc := 2) dL_rests_2 rfl ?_
  refine gh_iload_n (pc := 3) dL_rests_3 rfl ?_
  refine gh_V (zy := mX11_rests) (zc := 0) (d := d + 60) (pc := 4) (t := 0) (o := 30) (ci := 11) (r := (RX11, TX11, 13)) [.inl p0] rfl dL_rests_4 lkL_90 MvX11_rests rfl (gzOk_of (by decide)) rfl rfl rfl (Or.inl rfl) (fun h => h) (by exact Nat.le_of_ble_eq_true rfl) ?_
  refine gzC.mono (c_X11_rests (d := d + 57) h) ?_
  rintro _ _ ⟨rfl, rfl⟩
  cases e with
  | ok v =>
    show gzXh g 1 (d + 61) mL_rests hL_rests 7 [some (.inr (.inr (0, 30))), some (.inl p0), some (.inr (.inr (0, 59))), none] [.inl v, .inl 0, .inr (.inr (0, 59))] (gzN, gzR0, I1, J1) 0 (fun o S' => o = .ok (some (.inl 0)) ∧ S' = (gzN, gzR0, I1, gz_uj J1 0 59 0 (gzCvI v)))
    refine gh_i2l (pc := 7) dL_rests_7 ?_
    refine gh_last (N := 1) (pc := 8) dL_rests_8 (gzOk_of (by decide)) rfl (gz_vpd (by decide)) ?_
    refine gh_goto (pc := 9) (tgt := 15) dL_rests_9 (by decide) ?_
    refine gh_iconst (pc := 15) dL_rests_15 (v := 0) (by decide) ?_
    exact gh_iret (pc := 16) dL_rests_16 rfl ⟨rfl, rfl⟩
  | error E =>
    obtain ⟨k, hk⟩ := hE E rfl
    refine ⟨by decide, ?_⟩
    match k, hk with
    | 0, hk => cases hk; exact ⟨1, htL_rests_0, 0, rfl, rfl, rfl⟩
    | k + 1, hk => simp at hk
/-! odds -/
abbrev mL_odds : gzMe := (yL_odds, cL_odds, 5, some FieldType.int)
abbrev hL_odds : List (Nat × Nat × Nat × Nat) := [(0, 10, 13, 13)]
theorem MhL_odds : gzMh mL_odds hL_odds := ⟨(gz_t6 174 (by decide +kernel) rfl), (gz_t6 175 (by decide +kernel) rfl), gzL_ini, ⟨by decide, by decide⟩, by decide⟩
theorem lhL_odds : gz_in (.methodLink RL 262 yL_odds) := gz_t6 173 (by decide +kernel) rfl
theorem htL_odds_0 : gzHit mL_odds hL_odds 5 "java/lang/IllegalArgumentException" 1 := by
  refine ⟨[], ⟨0, 10, 13, 13⟩, [], "java/lang/IllegalArgumentException", 15, 4, 1, rfl, ?_, rfl, by decide, ckL_13, gzL_cIllegalArgumentException, by decide, Or.inr ⟨dL_odds_13, rfl⟩, ⟨dL_odds_15, by decide⟩, ⟨dL_odds_16, rfl⟩⟩
  exact fun z hz => by cases hz
theorem h_L_odds {g : gzG} {d : Nat} {φ : Nat} {p0 p1 : Int32} {I I1 : gzIT} {J J1 : gzJT} {e : Except String Int32} (h : f_X11_odds φ p0 p1 I J = some (e, I1, J1)) (hE : ∀ E, e = .error E → ∃ k : Nat, (["java/lang/IllegalArgumentException"] : List String)[k]? = some E) : gzCh g 1 (d + 61) mL_odds hL_odds [.inr (.inr (0, 30)), .inl p0, .inl p1, .inr (.inr (0, 59))] (gzN, gzR0, I, J) (gzHo ["java/lang/IllegalArgumentException"] gzCvI e I1 J1) := by
  refine gzCh_of (by decide +kernel) (Nat.le_of_ble_eq_true rfl) (loc := [some (.inr (.inr (0, 30))), some (.inl p0), some (.inl p1), some (.inr (.inr (0, 59))), none]) rfl ?_
  refine gh_aload_n (pc := 0) dL_odds_0 rfl ?_
  refine gh_iconst (pc := 1) dL_odds_1 (v := 0) (by decide) ?_
  refine gh_aload_n (pc := 2) dL_odds_2 rfl ?_
  refine gh_iload_n (pc := 3) dL_odds_3 rfl ?_
  refine gh_iload_n (pc := 4) dL_odds_4 rfl ?_
  refine gh_V (zy := mX11_odds) (zc := 0) (d := d + 60) (pc := 5) (t := 0) (o := 30) (ci := 11) (r := (RX11, TX11, 13)) [.inl p0, .inl p1] rfl dL_odds_5 lkL_93 MvX11_odds rfl (gzOk_of (by decide)) rfl rfl rfl (Or.inl rfl) (fun h => h) (by exact Nat.le_of_ble_eq_true rfl) ?_
  refine gzC.mono (c_X11_odds (d := d + 59) h) ?_
  rintro _ _ ⟨rfl, rfl⟩
  cases e with
  | ok v =>
    show gzXh g 1 (d + 61) mL_odds hL_odds 8 [some (.inr (.inr (0, 30))), some (.inl p0), some (.inl p1), some (.inr (.inr (0, 59))), none] [.inl v, .inl 0, .inr (.inr (0, 59))] (gzN, gzR0, I1, J1) 0 (fun o S' => o = .ok (some (.inl 0)) ∧ S' = (gzN, gzR0, I1, gz_uj J1 0 59 0 (gzCvI v)))
    refine gh_i2l (pc := 8) dL_odds_8 ?_
    refine gh_last (N := 1) (pc := 9) dL_odds_9 (gzOk_of (by decide)) rfl (gz_vpd (by decide)) ?_
    refine gh_goto (pc := 10) (tgt := 17) dL_odds_10 (by decide) ?_
    refine gh_iconst (pc := 17) dL_odds_17 (v := 0) (by decide) ?_
    exact gh_iret (pc := 18) dL_odds_18 rfl ⟨rfl, rfl⟩
  | error E =>
    obtain ⟨k, hk⟩ := hE E rfl
    refine ⟨by decide, ?_⟩
    match k, hk with
    | 0, hk => cases hk; exact ⟨1, htL_odds_0, 0, rfl, rfl, rfl⟩
    | k + 1, hk => simp at hk
/-! ahead -/
abbrev mL_ahead : gzMe := (yL_ahead, cL_ahead, 5, some FieldType.int)
abbrev hL_ahead : List (Nat × Nat × Nat × Nat) := [(0, 10, 13, 24), (0, 10, 17, 13)]
theorem MhL_ahead : gzMh mL_ahead hL_ahead := ⟨(gz_t6 186 (by decide +kernel) rfl), (gz_t6 187 (by decide +kernel) rfl), gzL_ini, ⟨by decide, by decide⟩, by decide⟩
theorem lhL_ahead : gz_in (.methodLink RL 293 yL_ahead) := gz_t6 185 (by decide +kernel) rfl
theorem htL_ahead_0 : gzHit mL_ahead hL_ahead 5 "java/lang/IndexOutOfBoundsException" 1 := by
  refine ⟨[], ⟨0, 10, 13, 24⟩, [⟨0, 10, 17, 13⟩], "java/lang/IndexOutOfBoundsException", 15, 4, 1, rfl, ?_, rfl, by decide, ckL_24, gzL_cIndexOutOfBoundsException, by decide, Or.inr ⟨dL_ahead_13, rfl⟩, ⟨dL_ahead_15, by decide⟩, ⟨dL_ahead_16, rfl⟩⟩
  exact fun z hz => by cases hz
theorem htL_ahead_1 : gzHit mL_ahead hL_ahead 5 "java/lang/IllegalArgumentException" 2 := by
  refine ⟨[⟨0, 10, 13, 24⟩], ⟨0, 10, 17, 13⟩, [], "java/lang/IllegalArgumentException", 19, 4, 2, rfl, ?_, rfl, by decide, ckL_13, gzL_cIllegalArgumentException, by decide, Or.inr ⟨dL_ahead_17, rfl⟩, ⟨dL_ahead_19, by decide⟩, ⟨dL_ahead_20, rfl⟩⟩
  exact fun z hz => by
    simp only [List.mem_cons, List.not_mem_nil, or_false] at hz
    subst hz
    exact ⟨by decide, "java/lang/IndexOutOfBoundsException", ckL_24, gzL_nIllegalArgumentException_IndexOutOfBoundsException⟩
theorem h_L_ahead {g : gzG} {d : Nat} {φ : Nat} {p0 p1 : Int32} {I I1 : gzIT} {J J1 : gzJT} {e : Except String Int32} (h : f_X11_ahead φ p0 p1 I J = some (e, I1, J1)) (hE : ∀ E, e = .error E → ∃ k : Nat, (["java/lang/IndexOutOfBoundsException", "java/lang/IllegalArgumentException"] : List String)[k]? = some E) : gzCh g 1 (d + 61) mL_ahead hL_ahead [.inr (.inr (0, 30)), .inl p0, .inl p1, .inr (.inr (0, 59))] (gzN, gzR0, I, J) (gzHo ["java/lang/IndexOutOfBoundsException", "java/lang/IllegalArgumentException"] gzCvI e I1 J1) := by
  refine gzCh_of (by decide +kernel) (Nat.le_of_ble_eq_true rfl) (loc := [some (.inr (.inr (0, 30))), some (.inl p0), some (.inl p1), some (.inr (.inr (0, 59))), none]) rfl ?_
  refine gh_aload_n (pc := 0) dL_ahead_0 rfl ?_
  refine gh_iconst (pc := 1) dL_ahead_1 (v := 0) (by decide) ?_
  refine gh_aload_n (pc := 2) dL_ahead_2 rfl ?_
  refine gh_iload_n (pc := 3) dL_ahead_3 rfl ?_
  refine gh_iload_n (pc := 4) dL_ahead_4 rfl ?_
  refine gh_V (zy := mX11_ahead) (zc := 0) (d := d + 60) (pc := 5) (t := 0) (o := 30) (ci := 11) (r := (RX11, TX11, 13)) [.inl p0, .inl p1] rfl dL_ahead_5 lkL_96 MvX11_ahead rfl (gzOk_of (by decide)) rfl rfl rfl (Or.inl rfl) (fun h => h) (by exact Nat.le_of_ble_eq_true rfl) ?_
  refine gzC.mono (c_X11_ahead (d := d + 54) h) ?_
  rintro _ _ ⟨rfl, rfl⟩
  cases e with
  | ok v =>
    show gzXh g 1 (d + 61) mL_ahead hL_ahead 8 [some (.inr (.inr (0, 30))), some (.inl p0), some (.inl p1), some (.inr (.inr (0, 59))), none] [.inl v, .inl 0, .inr (.inr (0, 59))] (gzN, gzR0, I1, J1) 0 (fun o S' => o = .ok (some (.inl 0)) ∧ S' = (gzN, gzR0, I1, gz_uj J1 0 59 0 (gzCvI v)))
    refine gh_i2l (pc := 8) dL_ahead_8 ?_
    refine gh_last (N := 1) (pc := 9) dL_ahead_9 (gzOk_of (by decide)) rfl (gz_vpd (by decide)) ?_
    refine gh_goto (pc := 10) (tgt := 21) dL_ahead_10 (by decide) ?_
    refine gh_iconst (pc := 21) dL_ahead_21 (v := 0) (by decide) ?_
    exact gh_iret (pc := 22) dL_ahead_22 rfl ⟨rfl, rfl⟩
  | error E =>
    obtain ⟨k, hk⟩ := hE E rfl
    refine ⟨by decide, ?_⟩
    match k, hk with
    | 0, hk => cases hk; exact ⟨1, htL_ahead_0, 0, rfl, rfl, rfl⟩
    | 1, hk => cases hk; exact ⟨2, htL_ahead_1, 1, rfl, rfl, rfl⟩
    | k + 2, hk => simp at hk
/-! larder -/
abbrev mL_larder : gzMe := (yL_larder, cL_larder, 5, some FieldType.int)
abbrev hL_larder : List (Nat × Nat × Nat × Nat) := [(0, 10, 13, 24), (0, 10, 17, 13)]
theorem MhL_larder : gzMh mL_larder hL_larder := ⟨(gz_t6 193 (by decide +kernel) rfl), (gz_t6 194 (by decide +kernel) rfl), gzL_ini, ⟨by decide, by decide⟩, by decide⟩
theorem lhL_larder : gz_in (.methodLink RL 296 yL_larder) := gz_t6 192 (by decide +kernel) rfl
theorem htL_larder_0 : gzHit mL_larder hL_larder 5 "java/lang/IndexOutOfBoundsException" 1 := by
  refine ⟨[], ⟨0, 10, 13, 24⟩, [⟨0, 10, 17, 13⟩], "java/lang/IndexOutOfBoundsException", 15, 4, 1, rfl, ?_, rfl, by decide, ckL_24, gzL_cIndexOutOfBoundsException, by decide, Or.inr ⟨dL_larder_13, rfl⟩, ⟨dL_larder_15, by decide⟩, ⟨dL_larder_16, rfl⟩⟩
  exact fun z hz => by cases hz
theorem htL_larder_1 : gzHit mL_larder hL_larder 5 "java/lang/IllegalArgumentException" 2 := by
  refine ⟨[⟨0, 10, 13, 24⟩], ⟨0, 10, 17, 13⟩, [], "java/lang/IllegalArgumentException", 19, 4, 2, rfl, ?_, rfl, by decide, ckL_13, gzL_cIllegalArgumentException, by decide, Or.inr ⟨dL_larder_17, rfl⟩, ⟨dL_larder_19, by decide⟩, ⟨dL_larder_20, rfl⟩⟩
  exact fun z hz => by
    simp only [List.mem_cons, List.not_mem_nil, or_false] at hz
    subst hz
    exact ⟨by decide, "java/lang/IndexOutOfBoundsException", ckL_24, gzL_nIllegalArgumentException_IndexOutOfBoundsException⟩
theorem h_L_larder {g : gzG} {d : Nat} {φ : Nat} {p0 p1 : Int32} {I I1 : gzIT} {J J1 : gzJT} {e : Except String Int32} (h : f_X11_larder φ p0 p1 I J = some (e, I1, J1)) (hE : ∀ E, e = .error E → ∃ k : Nat, (["java/lang/IndexOutOfBoundsException", "java/lang/IllegalArgumentException"] : List String)[k]? = some E) : gzCh g 1 (d + 61) mL_larder hL_larder [.inr (.inr (0, 30)), .inl p0, .inl p1, .inr (.inr (0, 59))] (gzN, gzR0, I, J) (gzHo ["java/lang/IndexOutOfBoundsException", "java/lang/IllegalArgumentException"] gzCvI e I1 J1) := by
  refine gzCh_of (by decide +kernel) (Nat.le_of_ble_eq_true rfl) (loc := [some (.inr (.inr (0, 30))), some (.inl p0), some (.inl p1), some (.inr (.inr (0, 59))), none]) rfl ?_
  refine gh_aload_n (pc := 0) dL_larder_0 rfl ?_
  refine gh_iconst (pc := 1) dL_larder_1 (v := 0) (by decide) ?_
  refine gh_aload_n (pc := 2) dL_larder_2 rfl ?_
  refine gh_iload_n (pc := 3) dL_larder_3 rfl ?_
  refine gh_iload_n (pc := 4) dL_larder_4 rfl ?_
  refine gh_V (zy := mX11_larder) (zc := 0) (d := d + 60) (pc := 5) (t := 0) (o := 30) (ci := 11) (r := (RX11, TX11, 13)) [.inl p0, .inl p1] rfl dL_larder_5 lkL_99 MvX11_larder rfl (gzOk_of (by decide)) rfl rfl rfl (Or.inl rfl) (fun h => h) (by exact Nat.le_of_ble_eq_true rfl) ?_
  refine gzC.mono (c_X11_larder (d := d + 57) h) ?_
  rintro _ _ ⟨rfl, rfl⟩
  cases e with
  | ok v =>
    show gzXh g 1 (d + 61) mL_larder hL_larder 8 [some (.inr (.inr (0, 30))), some (.inl p0), some (.inl p1), some (.inr (.inr (0, 59))), none] [.inl v, .inl 0, .inr (.inr (0, 59))] (gzN, gzR0, I1, J1) 0 (fun o S' => o = .ok (some (.inl 0)) ∧ S' = (gzN, gzR0, I1, gz_uj J1 0 59 0 (gzCvI v)))
    refine gh_i2l (pc := 8) dL_larder_8 ?_
    refine gh_last (N := 1) (pc := 9) dL_larder_9 (gzOk_of (by decide)) rfl (gz_vpd (by decide)) ?_
    refine gh_goto (pc := 10) (tgt := 21) dL_larder_10 (by decide) ?_
    refine gh_iconst (pc := 21) dL_larder_21 (v := 0) (by decide) ?_
    exact gh_iret (pc := 22) dL_larder_22 rfl ⟨rfl, rfl⟩
  | error E =>
    obtain ⟨k, hk⟩ := hE E rfl
    refine ⟨by decide, ?_⟩
    match k, hk with
    | 0, hk => cases hk; exact ⟨1, htL_larder_0, 0, rfl, rfl, rfl⟩
    | 1, hk => cases hk; exact ⟨2, htL_larder_1, 1, rfl, rfl, rfl⟩
    | k + 2, hk => simp at hk
/-! trial -/
abbrev mL_trial : gzMe := (yL_trial, cL_trial, 5, some FieldType.int)
abbrev hL_trial : List (Nat × Nat × Nat × Nat) := [(0, 10, 13, 13)]
theorem MhL_trial : gzMh mL_trial hL_trial := ⟨(gz_t6 201 (by decide +kernel) rfl), (gz_t6 202 (by decide +kernel) rfl), gzL_ini, ⟨by decide, by decide⟩, by decide⟩
theorem lhL_trial : gz_in (.methodLink RL 299 yL_trial) := gz_t6 200 (by decide +kernel) rfl
theorem htL_trial_0 : gzHit mL_trial hL_trial 5 "java/lang/IllegalArgumentException" 1 := by
  refine ⟨[], ⟨0, 10, 13, 13⟩, [], "java/lang/IllegalArgumentException", 15, 4, 1, rfl, ?_, rfl, by decide, ckL_13, gzL_cIllegalArgumentException, by decide, Or.inr ⟨dL_trial_13, rfl⟩, ⟨dL_trial_15, by decide⟩, ⟨dL_trial_16, rfl⟩⟩
  exact fun z hz => by cases hz
theorem h_L_trial {g : gzG} {d : Nat} {φ : Nat} {p0 p1 : Int32} {I I1 : gzIT} {J J1 : gzJT} {e : Except String Int32} (h : f_X11_trial φ p0 p1 I J = some (e, I1, J1)) (hE : ∀ E, e = .error E → ∃ k : Nat, (["java/lang/IllegalArgumentException"] : List String)[k]? = some E) : gzCh g 1 (d + 61) mL_trial hL_trial [.inr (.inr (0, 30)), .inl p0, .inl p1, .inr (.inr (0, 59))] (gzN, gzR0, I, J) (gzHo ["java/lang/IllegalArgumentException"] gzCvI e I1 J1) := by
  refine gzCh_of (by decide +kernel) (Nat.le_of_ble_eq_true rfl) (loc := [some (.inr (.inr (0, 30))), some (.inl p0), some (.inl p1), some (.inr (.inr (0, 59))), none]) rfl ?_
  refine gh_aload_n (pc := 0) dL_trial_0 rfl ?_
  refine gh_iconst (pc := 1) dL_trial_1 (v := 0) (by decide) ?_
  refine gh_aload_n (pc := 2) dL_trial_2 rfl ?_
  refine gh_iload_n (pc := 3) dL_trial_3 rfl ?_
  refine gh_iload_n (pc := 4) dL_trial_4 rfl ?_
  refine gh_V (zy := mX11_trial) (zc := 0) (d := d + 60) (pc := 5) (t := 0) (o := 30) (ci := 11) (r := (RX11, TX11, 13)) [.inl p0, .inl p1] rfl dL_trial_5 lkL_102 MvX11_trial rfl (gzOk_of (by decide)) rfl rfl rfl (Or.inl rfl) (fun h => h) (by exact Nat.le_of_ble_eq_true rfl) ?_
  refine gzC.mono (c_X11_trial (d := d + 53) h) ?_
  rintro _ _ ⟨rfl, rfl⟩
  cases e with
  | ok v =>
    show gzXh g 1 (d + 61) mL_trial hL_trial 8 [some (.inr (.inr (0, 30))), some (.inl p0), some (.inl p1), some (.inr (.inr (0, 59))), none] [.inl v, .inl 0, .inr (.inr (0, 59))] (gzN, gzR0, I1, J1) 0 (fun o S' => o = .ok (some (.inl 0)) ∧ S' = (gzN, gzR0, I1, gz_uj J1 0 59 0 (gzCvI v)))
    refine gh_i2l (pc := 8) dL_trial_8 ?_
    refine gh_last (N := 1) (pc := 9) dL_trial_9 (gzOk_of (by decide)) rfl (gz_vpd (by decide)) ?_
    refine gh_goto (pc := 10) (tgt := 17) dL_trial_10 (by decide) ?_
    refine gh_iconst (pc := 17) dL_trial_17 (v := 0) (by decide) ?_
    exact gh_iret (pc := 18) dL_trial_18 rfl ⟨rfl, rfl⟩
  | error E =>
    obtain ⟨k, hk⟩ := hE E rfl
    refine ⟨by decide, ?_⟩
    match k, hk with
    | 0, hk => cases hk; exact ⟨1, htL_trial_0, 0, rfl, rfl, rfl⟩
    | k + 1, hk => simp at hk
/-! span -/
abbrev mL_span : gzMe := (yL_span, cL_span, 5, some FieldType.int)
abbrev hL_span : List (Nat × Nat × Nat × Nat) := [(0, 10, 13, 13)]
theorem MhL_span : gzMh mL_span hL_span := ⟨(gz_t6 212 (by decide +kernel) rfl), (gz_t6 213 (by decide +kernel) rfl), gzL_ini, ⟨by decide, by decide⟩, by decide⟩
theorem lhL_span : gz_in (.methodLink RL 302 yL_span) := gz_t6 211 (by decide +kernel) rfl
theorem htL_span_0 : gzHit mL_span hL_span 5 "java/lang/IllegalArgumentException" 1 := by
  refine ⟨[], ⟨0, 10, 13, 13⟩, [], "java/lang/IllegalArgumentException", 15, 4, 1, rfl, ?_, rfl, by decide, ckL_13, gzL_cIllegalArgumentException, by decide, Or.inr ⟨dL_span_13, rfl⟩, ⟨dL_span_15, by decide⟩, ⟨dL_span_16, rfl⟩⟩
  exact fun z hz => by cases hz
theorem h_L_span {g : gzG} {d : Nat} {φ : Nat} {p0 p1 : Int32} {I I1 : gzIT} {J J1 : gzJT} {e : Except String Int32} (h : f_X11_span φ p0 p1 I J = some (e, I1, J1)) (hE : ∀ E, e = .error E → ∃ k : Nat, (["java/lang/IllegalArgumentException"] : List String)[k]? = some E) : gzCh g 1 (d + 61) mL_span hL_span [.inr (.inr (0, 30)), .inl p0, .inl p1, .inr (.inr (0, 59))] (gzN, gzR0, I, J) (gzHo ["java/lang/IllegalArgumentException"] gzCvI e I1 J1) := by
  refine gzCh_of (by decide +kernel) (Nat.le_of_ble_eq_true rfl) (loc := [some (.inr (.inr (0, 30))), some (.inl p0), some (.inl p1), some (.inr (.inr (0, 59))), none]) rfl ?_
  refine gh_aload_n (pc := 0) dL_span_0 rfl ?_
  refine gh_iconst (pc := 1) dL_span_1 (v := 0) (by decide) ?_
  refine gh_aload_n (pc := 2) dL_span_2 rfl ?_
  refine gh_iload_n (pc := 3) dL_span_3 rfl ?_
  refine gh_iload_n (pc := 4) dL_span_4 rfl ?_
  refine gh_V (zy := mX11_span) (zc := 0) (d := d + 60) (pc := 5) (t := 0) (o := 30) (ci := 11) (r := (RX11, TX11, 13)) [.inl p0, .inl p1] rfl dL_span_5 lkL_106 MvX11_span rfl (gzOk_of (by decide)) rfl rfl rfl (Or.inl rfl) (fun h => h) (by exact Nat.le_of_ble_eq_true rfl) ?_
  refine gzC.mono (c_X11_span (d := d + 53) h) ?_
  rintro _ _ ⟨rfl, rfl⟩
  cases e with
  | ok v =>
    show gzXh g 1 (d + 61) mL_span hL_span 8 [some (.inr (.inr (0, 30))), some (.inl p0), some (.inl p1), some (.inr (.inr (0, 59))), none] [.inl v, .inl 0, .inr (.inr (0, 59))] (gzN, gzR0, I1, J1) 0 (fun o S' => o = .ok (some (.inl 0)) ∧ S' = (gzN, gzR0, I1, gz_uj J1 0 59 0 (gzCvI v)))
    refine gh_i2l (pc := 8) dL_span_8 ?_
    refine gh_last (N := 1) (pc := 9) dL_span_9 (gzOk_of (by decide)) rfl (gz_vpd (by decide)) ?_
    refine gh_goto (pc := 10) (tgt := 17) dL_span_10 (by decide) ?_
    refine gh_iconst (pc := 17) dL_span_17 (v := 0) (by decide) ?_
    exact gh_iret (pc := 18) dL_span_18 rfl ⟨rfl, rfl⟩
  | error E =>
    obtain ⟨k, hk⟩ := hE E rfl
    refine ⟨by decide, ?_⟩
    match k, hk with
    | 0, hk => cases hk; exact ⟨1, htL_span_0, 0, rfl, rfl, rfl⟩
    | k + 1, hk => simp at hk
/-! led -/
abbrev mL_led : gzMe := (yL_led, cL_led, 5, some FieldType.int)
abbrev hL_led : List (Nat × Nat × Nat × Nat) := [(0, 10, 13, 24)]
theorem MhL_led : gzMh mL_led hL_led := ⟨(gz_t6 219 (by decide +kernel) rfl), (gz_t6 220 (by decide +kernel) rfl), gzL_ini, ⟨by decide, by decide⟩, by decide⟩
theorem lhL_led : gz_in (.methodLink RL 305 yL_led) := gz_t6 218 (by decide +kernel) rfl
theorem htL_led_0 : gzHit mL_led hL_led 5 "java/lang/IndexOutOfBoundsException" 1 := by
  refine ⟨[], ⟨0, 10, 13, 24⟩, [], "java/lang/IndexOutOfBoundsException", 15, 4, 1, rfl, ?_, rfl, by decide, ckL_24, gzL_cIndexOutOfBoundsException, by decide, Or.inr ⟨dL_led_13, rfl⟩, ⟨dL_led_15, by decide⟩, ⟨dL_led_16, rfl⟩⟩
  exact fun z hz => by cases hz
theorem h_L_led {g : gzG} {d : Nat} {φ : Nat} {p0 p1 : Int32} {I I1 : gzIT} {J J1 : gzJT} {e : Except String Int32} (h : f_X11_led φ p0 p1 I J = some (e, I1, J1)) (hE : ∀ E, e = .error E → ∃ k : Nat, (["java/lang/IndexOutOfBoundsException"] : List String)[k]? = some E) : gzCh g 1 (d + 61) mL_led hL_led [.inr (.inr (0, 30)), .inl p0, .inl p1, .inr (.inr (0, 59))] (gzN, gzR0, I, J) (gzHo ["java/lang/IndexOutOfBoundsException"] gzCvI e I1 J1) := by
  refine gzCh_of (by decide +kernel) (Nat.le_of_ble_eq_true rfl) (loc := [some (.inr (.inr (0, 30))), some (.inl p0), some (.inl p1), some (.inr (.inr (0, 59))), none]) rfl ?_
  refine gh_aload_n (pc := 0) dL_led_0 rfl ?_
  refine gh_iconst (pc := 1) dL_led_1 (v := 0) (by decide) ?_
  refine gh_aload_n (pc := 2) dL_led_2 rfl ?_
  refine gh_iload_n (pc := 3) dL_led_3 rfl ?_
  refine gh_iload_n (pc := 4) dL_led_4 rfl ?_
  refine gh_V (zy := mX11_led) (zc := 0) (d := d + 60) (pc := 5) (t := 0) (o := 30) (ci := 11) (r := (RX11, TX11, 13)) [.inl p0, .inl p1] rfl dL_led_5 lkL_109 MvX11_led rfl (gzOk_of (by decide)) rfl rfl rfl (Or.inl rfl) (fun h => h) (by exact Nat.le_of_ble_eq_true rfl) ?_
  refine gzC.mono (c_X11_led (d := d + 57) h) ?_
  rintro _ _ ⟨rfl, rfl⟩
  cases e with
  | ok v =>
    show gzXh g 1 (d + 61) mL_led hL_led 8 [some (.inr (.inr (0, 30))), some (.inl p0), some (.inl p1), some (.inr (.inr (0, 59))), none] [.inl v, .inl 0, .inr (.inr (0, 59))] (gzN, gzR0, I1, J1) 0 (fun o S' => o = .ok (some (.inl 0)) ∧ S' = (gzN, gzR0, I1, gz_uj J1 0 59 0 (gzCvI v)))
    refine gh_i2l (pc := 8) dL_led_8 ?_
    refine gh_last (N := 1) (pc := 9) dL_led_9 (gzOk_of (by decide)) rfl (gz_vpd (by decide)) ?_
    refine gh_goto (pc := 10) (tgt := 17) dL_led_10 (by decide) ?_
    refine gh_iconst (pc := 17) dL_led_17 (v := 0) (by decide) ?_
    exact gh_iret (pc := 18) dL_led_18 rfl ⟨rfl, rfl⟩
  | error E =>
    obtain ⟨k, hk⟩ := hE E rfl
    refine ⟨by decide, ?_⟩
    match k, hk with
    | 0, hk => cases hk; exact ⟨1, htL_led_0, 0, rfl, rfl, rfl⟩
    | k + 1, hk => simp at hk
/-! log -/
abbrev mL_log : gzMe := (yL_log, cL_log, 5, some FieldType.int)
abbrev hL_log : List (Nat × Nat × Nat × Nat) := [(0, 10, 13, 26)]
theorem MhL_log : gzMh mL_log hL_log := ⟨(gz_t6 239 (by decide +kernel) rfl), (gz_t7 0 (by decide +kernel) rfl), gzL_ini, ⟨by decide, by decide⟩, by decide⟩
theorem lhL_log : gz_in (.methodLink RL 308 yL_log) := gz_t6 238 (by decide +kernel) rfl
theorem htL_log_0 : gzHit mL_log hL_log 5 "java/util/NoSuchElementException" 1 := by
  refine ⟨[], ⟨0, 10, 13, 26⟩, [], "java/util/NoSuchElementException", 15, 4, 1, rfl, ?_, rfl, by decide, ckL_26, gzL_cNoSuchElementException, by decide, Or.inr ⟨dL_log_13, rfl⟩, ⟨dL_log_15, by decide⟩, ⟨dL_log_16, rfl⟩⟩
  exact fun z hz => by cases hz
theorem h_L_log {g : gzG} {d : Nat} {p0 p1 : Int32} {I I1 : gzIT} {J J1 : gzJT} {e : Except String Int32} (h : f_X11_log p0 p1 I J = some (e, I1, J1)) (hE : ∀ E, e = .error E → ∃ k : Nat, (["java/util/NoSuchElementException"] : List String)[k]? = some E) : gzCh g 1 (d + 61) mL_log hL_log [.inr (.inr (0, 30)), .inl p0, .inl p1, .inr (.inr (0, 59))] (gzN, gzR0, I, J) (gzHo ["java/util/NoSuchElementException"] gzCvI e I1 J1) := by
  refine gzCh_of (by decide +kernel) (Nat.le_of_ble_eq_true rfl) (loc := [some (.inr (.inr (0, 30))), some (.inl p0), some (.inl p1), some (.inr (.inr (0, 59))), none]) rfl ?_
  refine gh_aload_n (pc := 0) dL_log_0 rfl ?_
  refine gh_iconst (pc := 1) dL_log_1 (v := 0) (by decide) ?_
  refine gh_aload_n (pc := 2) dL_log_2 rfl ?_
  refine gh_iload_n (pc := 3) dL_log_3 rfl ?_
  refine gh_iload_n (pc := 4) dL_log_4 rfl ?_
  refine gh_V (zy := mX11_log) (zc := 0) (d := d + 60) (pc := 5) (t := 0) (o := 30) (ci := 11) (r := (RX11, TX11, 13)) [.inl p0, .inl p1] rfl dL_log_5 lkL_112 MvX11_log rfl (gzOk_of (by decide)) rfl rfl rfl (Or.inl rfl) (fun h => h) (by exact Nat.le_of_ble_eq_true rfl) ?_
  refine gzC.mono (c_X11_log (d := d + 58) h) ?_
  rintro _ _ ⟨rfl, rfl⟩
  cases e with
  | ok v =>
    show gzXh g 1 (d + 61) mL_log hL_log 8 [some (.inr (.inr (0, 30))), some (.inl p0), some (.inl p1), some (.inr (.inr (0, 59))), none] [.inl v, .inl 0, .inr (.inr (0, 59))] (gzN, gzR0, I1, J1) 0 (fun o S' => o = .ok (some (.inl 0)) ∧ S' = (gzN, gzR0, I1, gz_uj J1 0 59 0 (gzCvI v)))
    refine gh_i2l (pc := 8) dL_log_8 ?_
    refine gh_last (N := 1) (pc := 9) dL_log_9 (gzOk_of (by decide)) rfl (gz_vpd (by decide)) ?_
    refine gh_goto (pc := 10) (tgt := 17) dL_log_10 (by decide) ?_
    refine gh_iconst (pc := 17) dL_log_17 (v := 0) (by decide) ?_
    exact gh_iret (pc := 18) dL_log_18 rfl ⟨rfl, rfl⟩
  | error E =>
    obtain ⟨k, hk⟩ := hE E rfl
    refine ⟨by decide, ?_⟩
    match k, hk with
    | 0, hk => cases hk; exact ⟨1, htL_log_0, 0, rfl, rfl, rfl⟩
    | k + 1, hk => simp at hk
