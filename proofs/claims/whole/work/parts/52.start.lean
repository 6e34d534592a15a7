/-! the start of the law: gzF out of the statement's words -/
theorem st_inst : ∀ r ∈ vwCl, decide (Cond.instantiable r.1 r.2.2 ∈ lw_tbl) = true := by decide +kernel
theorem st_str : ∀ q ∈ gzStrs, decide (Cond.stringRef q.1 q.2.1 q.2.2 ∈ lw_tbl) = true := by decide +kernel
theorem st_K {args : Array Value} {s : State} (hts : ∀ w ∈ lw_tbl, w.before args s = true) : ∃ (D : va_G) (tyc : FieldType → ClassId), va_K D vwCl [(tyc .int, .int), (tyc .long, .long), (tyc .boolean, .boolean), (tyc .byte, .byte), (tyc (.object "GrudgeIce$Town"), .object "GrudgeIce$Town")] s := by
  have h0 : ∀ ci : Nat, ∃ q : ClassId × (Nat → Nat), ∀ r, vwCl[ci]? = some r → u_Kn s r.1 r.2.1 r.2.2 q.1 q.2 := by
    intro ci
    cases h : vwCl[ci]? with
    | none => exact ⟨(0, fun _ => 0), fun r hr => by cases hr⟩
    | some r =>
      have hm : r ∈ vwCl := List.mem_of_getElem? h
      obtain ⟨c, iS, hK⟩ := u_known (C := r.1) (T := r.2.1) (N := r.2.2) (n := r.2.2) hts (fun w hw => by have h1 := List.all_eq_true.mp (gz_lays r hm) w hw; rw [Bool.and_eq_true] at h1; exact of_decide_eq_true h1.1) (hts _ (of_decide_eq_true (st_inst r hm)))
      exact ⟨(c, iS), fun r2 h2 => by cases h2; exact hK⟩
  obtain ⟨D, hD⟩ := Classical.axiomOfChoice h0
  have hA : ∀ ty : FieldType, Cond.arrayClass ty ∈ lw_tbl → ∃ c, ArrOfT s c ty ∧ s.vm.findClass ("[" ++ ty.toString) = some c := by
    intro ty hw
    obtain ⟨c, k, comp, h1, h2, h3⟩ := Cond.arrayClass_spec (args := args) (first := s) (o := none) (s := s) (idx := []) (hts _ hw)
    exact ⟨c, fun n z => ⟨fun k h => (by cases h), k, h2, comp, h3⟩, h1⟩
  obtain ⟨c1, a1, b1⟩ := hA .int gka_int.1
  obtain ⟨c2, a2, b2⟩ := hA .long gka_long.1
  obtain ⟨c3, a3, b3⟩ := hA .boolean gka_bool.1
  obtain ⟨c4, a4, b4⟩ := hA .byte gka_byte.1
  obtain ⟨comp, c5, k5, q1, -, q2, q3, q4⟩ := Cond.arrayOver_spec (args := args) (first := s) (o := none) (s := s) (idx := []) (hts _ gka_town)
  refine ⟨(fun k => (D k).1, fun k => (D k).2), fun ty => match ty with | .int => c1 | .long => c2 | .boolean => c3 | .byte => c4 | _ => c5, hD, ?_⟩
  intro k q hq
  match k, hq with
  | 0, hq => cases hq; exact ⟨a1, b1⟩
  | 1, hq => cases hq; exact ⟨a2, b2⟩
  | 2, hq => cases hq; exact ⟨a3, b3⟩
  | 3, hq => cases hq; exact ⟨a4, b4⟩
  | 4, hq => cases hq; exact ⟨fun n z => ⟨fun k h => (by cases h), k5, q2, comp, q3⟩, k5, comp, q2, q3, q1, q4⟩
  | k + 5, hq => cases hq
theorem st_scd {args : Array Value} {s : State} (hN : (Jvm.Cond.and given_1 narrow_1).before args s = true) {i : Nat} {q : String × Nat × String} (h : gzStrs[i]? = some q) {c : Cond} (hc : c ∈ gzScd q (gzSb i)) : c.before args s = true := by
  have hi : i < 47 := by
    have := (List.getElem?_eq_some_iff.mp h).1
    rw [gz_strn.1] at this; exact this
  have h2 : gzSbT[i]? = some (gzSb i) := by
    unfold gzSb
    rw [List.getD_eq_getElem?_getD, List.getElem?_eq_getElem (by rw [gz_strn.2]; exact hi)]; rfl
  have h3 : (gzStrs.zip gzSbT)[i]? = some (q, gzSb i) := List.getElem?_zip_eq_some.mpr ⟨h, h2⟩
  exact flat_of_before (.and given_1 narrow_1) hN c (List.mem_append_right _ (List.mem_of_mem_drop (i := 94) (by rw [gz_flat]; exact List.mem_flatMap.mpr ⟨_, List.mem_of_getElem? h3, hc⟩)))
theorem st_S {args : Array Value} {s : State} (hts : ∀ w ∈ lw_tbl, w.before args s = true) (hN : (Jvm.Cond.and given_1 narrow_1).before args s = true) : ∃ f : Nat → Nat × Nat, ∀ (i : Nat) (q : String × Nat × String), gzStrs[i]? = some q → vk_R q.1 q.2.1 q.2.2 (f i).1 s ∧ (Term.field (Term.string q.1 q.2.1) "java/lang/String" "value" "[B").eval args s none [] s = some (.ref (f i).2) := by
  have h0 : ∀ i : Nat, ∃ p : Nat × Nat, ∀ q, gzStrs[i]? = some q → vk_R q.1 q.2.1 q.2.2 p.1 s ∧ (Term.field (Term.string q.1 q.2.1) "java/lang/String" "value" "[B").eval args s none [] s = some (.ref p.2) := by
    intro i
    cases h : gzStrs[i]? with
    | none => exact ⟨(0, 0), fun q hq => by cases hq⟩
    | some q =>
      have hi : i < gzSn := by
        have := (List.getElem?_eq_some_iff.mp h).1
        rw [gz_strn.1] at this; exact this
      obtain ⟨a, c, cA, kA, q1, -⟩ := Cond.exactly_spec (args := args) (first := s) (o := none) (s := s) (idx := []) (t := Term.string q.1 q.2.1) (cls := "java/lang/String") (st_scd hN h (c := Cond.exactly (Term.string q.1 q.2.1) "java/lang/String") (by simp [gzScd]))
      obtain ⟨t, ht, -⟩ := va_Tof (args := args) (s := s) (tm := .field (Term.string q.1 q.2.1) "java/lang/String" "value" "[B") (ty := .byte) (N := (gzSb i).length) (f := fun j => .int ((gzSb i).getD j 0)) (A := fun q => s.heap.size ≤ q) (gz_sblen i hi) (st_scd hN h (by simp [gzScd])) (va_eqt (st_scd hN h (by simp [gzScd])))
        (fun j hj => va_eqt (st_scd hN h (by unfold gzScd; exact List.mem_append_right _ (List.mem_map.mpr ⟨j, List.mem_range.mpr hj, rfl⟩)))) (fun a h1 h2 => Nat.not_le.mpr h1 h2)
      exact ⟨(a, t), fun q2 h2 => by cases h2; exact ⟨vk_R.of (hts _ (of_decide_eq_true (st_str q (List.mem_of_getElem? h)))) q1, ht⟩⟩
  exact Classical.axiomOfChoice h0
theorem st_int (x : Int32) : Int32.ofNat x.toBitVec.toNat = x := by
  apply Int32.toBitVec_inj.mp
  show BitVec.ofNat 32 _ = _
  simp
theorem st_U {args : Array Value} {s : State} (hts : ∀ w ∈ lw_tbl, w.before args s = true) (hN : (Jvm.Cond.and given_1 narrow_1).before args s = true) : vx_Zq Bundle.tN "UNASSIGNED_STACK" Bundle.steD (fun q => s.heap.size ≤ q) s s.heap ∧ vx_Zq Bundle.tN "SUPPRESSED_SENTINEL" Bundle.listD (fun q => s.heap.size ≤ q) s s.heap := by
  refine ⟨vx_Zqof (args := args) (hts _ (by decide +kernel)) (hts _ (by decide +kernel)) ?_ (fun a h1 h2 => Nat.not_le.mpr h1 h2), vx_Zqof (args := args) (hts _ (by decide +kernel)) (hts _ (by decide +kernel)) ?_ (fun a h1 h2 => Nat.not_le.mpr h1 h2)⟩
  · first | exact hts _ (by decide +kernel) | exact flat_of_before _ hN _ (by decide +kernel)
  · first | exact hts _ (by decide +kernel) | exact flat_of_before _ hN _ (by decide +kernel)
theorem st_g {b L : Nat} {xs : Nat → Int32} {s : State} (l : Launch) (hflags : l.flags = flags0) (hL : L ≤ 3072) (hts : ∀ w ∈ lw_tbl, w.before #[Value.ref b] s = true) (hX : va_X b L xs s s.heap) (hb : b < s.heap.size) (hN : (Jvm.Cond.and given_1 narrow_1).before #[Value.ref b] s = true) : ∃ g : gzG, g.1 = l ∧ g.2.1 = s ∧ gz_ad g 0 61 = b ∧ g.2.2.2.2.2 1 61 = L ∧ gzF g := by
  obtain ⟨D, tyc, hK⟩ := st_K hts
  obtain ⟨f, hf⟩ := st_S hts hN
  obtain ⟨u1, u2⟩ := st_U hts hN
  refine ⟨(l, s, #[.ref b], D, tyc, fun t o => if o = 60 then (f t).1 else if o = 63 then (f t).2 else if o = 61 then (if t = 0 then b else L) else (xs t).toBitVec.toNat), rfl, rfl, rfl, rfl, hts, hK, ?_, u1, u2, hf, hN, hL, ?_, hb⟩
  · show l.stackTraces = false
    unfold Launch.stackTraces
    rw [hflags]; rfl
  · obtain ⟨scr, x1, x2, x3, x4, x5⟩ := hX
    refine ⟨scr, x1, x2, x3, x4, fun j hj => ?_⟩
    rw [x5 j hj]
    show _ = some (Value.int (Int32.ofNat (xs j).toBitVec.toNat))
    rw [st_int]
theorem st_end {g : gzG} {s t : State} {o : Outcome} {a : Array Value} (hs : g.2.1 = s) (h : gzPost g 512 (0, gzR0, gzI0, gzJ0) gzQ1 s o t) : o = .returned (some (.int 1)) ∧ Framed s o t [] 601024 7293034 := by
  obtain ⟨S', L, z, h1, h2, h3, h4, h5⟩ := h
  rcases h5 with ⟨v, hv, ho, hF⟩ | ⟨E, q, ce, hE, -⟩
  · have hv' : v = some (.inl 1) := by
      have : (Except.ok v : gzO) = .ok (some (.inl 1)) := hv
      cases this; rfl
    subst hv'
    refine ⟨ho, hF.1, hF.2.1, ?_⟩
    have hN := h3.2.2.2
    have hU : gzU S'.1 ≤ 19143 := gz_Ule hN
    have hN' : S'.1 ≤ 354 := hN
    obtain ⟨p1, p2, p3, p4, p5, p6⟩ := hF.2.2
    have hb : gz_b g = s.heap.size := by rw [← hs]; rfl
    refine ⟨p1, p2, ?_, p4, ?_, fun a2 c2 hc => ?_⟩
    · refine Nat.le_trans p3 (Nat.add_le_add_left ?_ _)
      show S'.1 - 0 + z ≤ 601024
      omega
    · refine Nat.le_trans p5 ?_
      have : gzU S'.1 - gzU 0 ≤ 19143 := Nat.le_trans (Nat.sub_le _ _) hU
      show gzU S'.1 - gzU 0 + 6 * z ≤ 7293034
      omega
    · obtain ⟨c', e1, e2, e3, e4⟩ := p6 a2 c2 hc
      refine ⟨c', e1, e2, e3, fun i _ => e4 i (fun hm => ?_)⟩
      have h9 := h4 _ hm
      have h8 := (Array.getElem?_eq_some_iff.mp hc).1
      rw [hb] at h9
      exact Nat.not_le.mpr h8 h9
  · have : (Except.error E : gzO) = .ok (some (.inl 1)) := hE
    cases this
