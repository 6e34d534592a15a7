/-! the foundation: a judgement over named cells (gzX), out of the kit's rows; a method's contract (gzC) -/
abbrev gzV : Type := Int32 ⊕ (Int64 ⊕ (Nat × Nat))
abbrev gzS : Type := Nat × (Nat → Nat → Nat → Option (Nat × Nat)) × (Nat → Nat → Nat → Int32) × (Nat → Nat → Nat → Int64)
abbrev gzMe : Type := MethodName × ByteArray × Nat × Option FieldType
abbrev gzO : Type := Except String (Option gzV)
abbrev gzG : Type := Launch × State × Array Value × va_G × (FieldType → ClassId) × (Nat → Nat → Nat)
def gz_b (g : gzG) : Nat := g.2.1.heap.size
def gz_ad (g : gzG) (t o : Nat) : Nat := if 60 ≤ o then g.2.2.2.2.2 t o else gz_b g + gzPos t o
def gz_v (g : gzG) : gzV → Value
  | .inl x => .int x
  | .inr (.inl x) => .long x
  | .inr (.inr q) => .ref (gz_ad g q.1 q.2)
def gz_rf (g : gzG) (q : Option (Nat × Nat)) : Option Nat := q.map (fun q => gz_ad g q.1 q.2)
def gz_fs (g : gzG) (S : gzS) (t o : Nat) (fl : List Bool) : List Value := (List.range fl.length).map (fun i => if fl.getD i false then va_rf (gz_rf g (S.2.1 t o i)) else .int (S.2.2.1 t o i))
def gz_row (g : gzG) (S : gzS) (t o : Nat) (ty : FieldType) : (Nat → Int32) ⊕ (Nat → Int64) ⊕ (Nat → UInt32) ⊕ (Nat → UInt64) ⊕ (Nat → Option Nat) := match ty with
  | .long => .inr (.inl (S.2.2.2 t o))
  | .object _ => .inr (.inr (.inr (.inr (fun j => gz_rf g (S.2.1 t o j)))))
  | _ => .inl (S.2.2.1 t o)
def gz_cell (g : gzG) (S : gzS) (t o : Nat) : va_E := match gzKd o with
  | .inl ci => .inr (ci, gz_fs g S t o (gzFk ci))
  | .inr q => .inl (g.2.2.2.2.1 q.1, q.2, gz_row g S t o q.1)
def gz_ws (g : gzG) (S : gzS) : va_W := (List.range S.1).map (fun j => (gz_b g + j, gz_cell g S (gzIdAt j).1 (gzIdAt j).2))
def gzOk (t o k : Nat) : Prop := gzPos t o < k ∧ gzIdAt (gzPos t o) = (t, o) ∧ o < 60
theorem gzOk_of {t o : Nat} (h : t < gzNt o) (ho : o < 60 := by decide) : gzOk t o gzN := ⟨(gz_posid h).1, (gz_posid h).2, ho⟩
theorem gz_ad_lo {g : gzG} {t o k : Nat} (h : gzOk t o k) : gz_ad g t o = gz_b g + gzPos t o := if_neg (Nat.not_le.mpr h.2.2)
theorem gz_ws_at {g : gzG} {S : gzS} {t o : Nat} (h : gzOk t o S.1) : (gz_ws g S)[gzPos t o]? = some (gz_ad g t o, gz_cell g S t o) := by
  rw [gz_ad_lo h]
  unfold gz_ws
  rw [List.getElem?_map, List.getElem?_range h.1]
  show some (_, gz_cell g S (gzIdAt (gzPos t o)).1 (gzIdAt (gzPos t o)).2) = _
  rw [h.2.1]
theorem gz_ws_set {g : gzG} {S S' : gzS} {t o : Nat} (h : gzOk t o S.1) (hN : S.1 ≤ gzN) (h1 : S'.1 = S.1) (hc : ∀ t' o', ¬ (t' = t ∧ o' = o) → gz_cell g S' t' o' = gz_cell g S t' o') :
    (gz_ws g S).set (gzPos t o) (gz_ad g t o, gz_cell g S' t o) = gz_ws g S' := by
  apply List.ext_getElem?
  intro j
  rw [List.getElem?_set]
  have hlen : (gz_ws g S).length = S.1 := by simp [gz_ws]
  by_cases hj : gzPos t o = j
  · subst hj
    rw [if_pos rfl, if_pos (by rw [hlen]; exact h.1), gz_ws_at (g := g) (S := S') (by rw [gzOk, h1]; exact h)]
  · rw [if_neg hj]
    unfold gz_ws
    rw [h1, List.getElem?_map, List.getElem?_map]
    by_cases hk : j < S.1
    · rw [List.getElem?_range hk]
      show some (_, gz_cell g S _ _) = some (_, gz_cell g S' _ _)
      rw [hc]
      rintro ⟨a, b⟩
      apply hj
      rw [← a, ← b]
      exact gz_idpos j (Nat.lt_of_lt_of_le hk hN)
    · rw [List.getElem?_eq_none (by simpa using hk)]
      rfl
def gzA (g : gzG) : Nat → Prop := fun q => gz_b g ≤ q
theorem gz_D (g : gzG) (S : gzS) : va_D (gzA g) (gz_ws g S) := by
  have key : ∀ (k : Nat) (q : Nat × va_E), (gz_ws g S)[k]? = some q → q.1 = gz_b g + k := by
    intro k q hq
    unfold gz_ws at hq
    rw [List.getElem?_map] at hq
    cases hr : (List.range S.1)[k]? with
    | none => rw [hr] at hq; cases hq
    | some j =>
      rw [hr] at hq
      have : j = k := by
        have h2 := (List.getElem?_eq_some_iff.mp hr)
        obtain ⟨h3, h4⟩ := h2
        simpa using h4.symm
      subst this
      cases hq
      rfl
  refine ⟨fun i j p q hp hq he => ?_, fun k q hq => ?_⟩
  · have a := key i p hp
    have b := key j q hq
    omega
  · show gz_b g ≤ q.1
    rw [key k q hq]
    omega
def gzTys (g : gzG) : List (ClassId × FieldType) := [(g.2.2.2.2.1 .int, .int), (g.2.2.2.2.1 .long, .long), (g.2.2.2.2.1 .boolean, .boolean), (g.2.2.2.2.1 .byte, .byte), (g.2.2.2.2.1 (.object "GrudgeIce$Town"), .object "GrudgeIce$Town")]
/-- the string constants of the claim's own classes: class, pool place, text -/
def gzStrOk (g : gzG) (L : List (String × Nat × String)) : Prop := ∀ (i : Nat) (q : String × Nat × String), L[i]? = some q → vk_R q.1 q.2.1 q.2.2 (g.2.2.2.2.2 i 60) g.2.1 ∧ (Term.field (Term.string q.1 q.2.1) "java/lang/String" "value" "[B").eval g.2.2.1 g.2.1 none [] g.2.1 = some (.ref (g.2.2.2.2.2 i 63))
/-- what is known of the start of the law -/
def gzF (g : gzG) : Prop := (∀ w ∈ lw_tbl, w.before g.2.2.1 g.2.1 = true) ∧ va_K g.2.2.2.1 vwCl (gzTys g) g.2.1 ∧ g.1.stackTraces = false ∧
  vx_Zq Bundle.tN "UNASSIGNED_STACK" Bundle.steD (gzA g) g.2.1 g.2.1.heap ∧ vx_Zq Bundle.tN "SUPPRESSED_SENTINEL" Bundle.listD (gzA g) g.2.1 g.2.1.heap ∧ gzStrOk g gzStrs ∧
  (Jvm.Cond.and given_1 narrow_1).before g.2.2.1 g.2.1 = true ∧ g.2.2.2.2.2 1 61 ≤ 3072 ∧ va_X (g.2.2.2.2.2 0 61) (g.2.2.2.2.2 1 61) (fun j => Int32.ofNat (g.2.2.2.2.2 j 62)) g.2.1 g.2.1.heap ∧ g.2.2.2.2.2 0 61 < g.2.1.heap.size
def gzWd (g : gzG) (S : gzS) (H : Heap) : Prop := va_P g.2.2.2.1 vwCl (gz_ws g S) H ∧ gz_b g + S.1 ≤ H.size ∧ (∀ q, q < gz_b g → H[q]? = g.2.1.heap[q]?) ∧ S.1 ≤ gzN
def gzCx (g : gzG) (zm d : Nat) (y : gzMe) (S0 : gzS) (p : Program) (R : Room) (s : State) (m : MethodId) (meth : Method) (c : Code) : Prop :=
  p.tables.exec = Jvm.exec ∧ c.code = y.2.1 ∧ meth.sig.returnType = y.2.2.2 ∧ c.maxLocals = y.2.2.1 ∧ s.vm.findClass y.1.cls = some m.cls ∧ meth.locks = false ∧ (∀ x ∈ c.exceptionTable.toList, False) ∧ meth.name = y.1.name ∧
  g.2.1.WarmedH s.vm ∧ d + 8 ≤ R.frames ∧ (d + 2) * 64 ≤ R.locals ∧ gzN - S0.1 + zm + 1 ≤ R.cells ∧ gzM - gzU S0.1 + 6 * zm + 6 ≤ R.slots ∧ gzF g ∧ gz_b g ≤ s.heap.size ∧ (S0.1 < gzN → s.heap.size = gz_b g + S0.1)
def gz_pr (g : gzG) : Nat → List (Option gzV) → List (Nat × Value)
  | _, [] => []
  | n, none :: t => gz_pr g (n + 1) t
  | n, some v :: t => (n, gz_v g v) :: gz_pr g (n + 1) t
theorem gz_pr_mem {g : gzG} {q : Nat × Value} : ∀ {n : Nat} {loc : List (Option gzV)}, q ∈ gz_pr g n loc ↔ ∃ j v, loc[j]? = some (some v) ∧ q = (n + j, gz_v g v) := by
  intro n loc
  induction loc generalizing n with
  | nil => simp [gz_pr]
  | cons a t ih =>
    cases a with
    | none =>
      rw [show gz_pr g n (none :: t) = gz_pr g (n + 1) t from rfl, ih]
      constructor
      · rintro ⟨j, v, h, rfl⟩
        exact ⟨j + 1, v, by simpa using h, by rw [Nat.add_assoc, Nat.add_comm 1 j]⟩
      · rintro ⟨j, v, h, rfl⟩
        cases j with
        | zero => simp at h
        | succ j => exact ⟨j, v, by simpa using h, by rw [Nat.add_assoc, Nat.add_comm 1 j]⟩
    | some w =>
      rw [show gz_pr g n (some w :: t) = (n, gz_v g w) :: gz_pr g (n + 1) t from rfl, List.mem_cons, ih]
      constructor
      · rintro (rfl | ⟨j, v, h, rfl⟩)
        · exact ⟨0, w, by simp, by simp⟩
        · exact ⟨j + 1, v, by simpa using h, by rw [Nat.add_assoc, Nat.add_comm 1 j]⟩
      · rintro ⟨j, v, h, rfl⟩
        cases j with
        | zero =>
          simp at h
          subst h
          exact Or.inl rfl
        | succ j => exact Or.inr ⟨j, v, by simpa using h, by rw [Nat.add_assoc, Nat.add_comm 1 j]⟩
theorem gz_at {g : gzG} {ls : Array Slot} {nL : Nat} {loc : List (Option gzV)} {i : Nat} {v : gzV} (hl : lv_has ls nL (gz_pr g 0 loc)) (h : loc[i]? = some (some v)) : ls[i]? = some (.val (gz_v g v)) :=
  hl.2.2 (i, gz_v g v) (gz_pr_mem.mpr ⟨i, v, h, by rw [Nat.zero_add]⟩)
def gzPost (g : gzG) (zm : Nat) (S0 : gzS) (Q : gzO → gzS → Prop) (s : State) (o : Outcome) (t : State) : Prop := ∃ (S' : gzS) (L : List Loc) (z : Nat), S0.1 ≤ S'.1 ∧ z ≤ zm ∧ gzWd g S' t.heap ∧ (∀ q ∈ L, gz_b g ≤ q.base) ∧
  ((∃ v : Option gzV, Q (.ok v) S' ∧ o = .returned (v.map (gz_v g)) ∧ FrameEnd s o t L (S'.1 - S0.1 + z) (gzU S'.1 - gzU S0.1 + 6 * z)) ∨
   (∃ (E : String) (q : Addr) (ce : Cell), Q (.error E) S' ∧ o = .threw q ∧ t.heap[q]? = some ce ∧ ce.vm = .none ∧ s.vm.findClass E = some ce.cls ∧ s.WarmedH t.vm ∧ s.sameButNew ({ t with vm := s.vm } : State) L (S'.1 - S0.1 + z + 1) (gzU S'.1 - gzU S0.1 + 6 * z + 6)))
def gzMQ (g : gzG) (zm : Nat) (S0 : gzS) (Q : gzO → gzS → Prop) (below : List Frame) (s : State) : State → Prop := fun t => ∃ o, t.status = .running ∧ Ended t below o ∧ gzPost g zm S0 Q s o t
/-- from this pc, with these locals and this stack, in this world, the method comes to an end that Q says -/
def gzX (g : gzG) (zm d : Nat) (y : gzMe) (pc : Nat) (loc : List (Option gzV)) (st : List gzV) (S : gzS) (z : Nat) (Q : gzO → gzS → Prop) : Prop :=
  ∀ (S0 : gzS) (p : Program) (e : Env) (R : Room) (s : State) (m : MethodId) (args : Array Value) (below : List Frame) (meth : Method) (c : Code) (H : Heap) (locs : List Loc) (ls : Array Slot),
    gzCx g zm d y S0 p R s m meth c → S0.1 ≤ S.1 → z ≤ zm → gzWd g S H → (∀ q ∈ locs, gz_b g ≤ q.base) → lv_has ls y.2.2.1 (gz_pr g 0 loc) →
    W p g.1 e R s m args below meth c H locs (S.1 - S0.1 + z) (gzU S.1 - gzU S0.1 + 6 * z) (gzMQ g zm S0 Q below s) (F0 m pc ls (st.map (gz_v g)))
def gzRoom (zm d : Nat) (S : gzS) : Room := { frames := d + 8, cells := gzN - S.1 + zm + 1, slots := gzM - gzU S.1 + 6 * zm + 6, locals := (d + 2) * 64 }
def gzPc (g : gzG) (as : List gzV) (S : gzS) : Array Value → State → Prop := fun a U => a = (as.map (gz_v g)).toArray ∧ gzF g ∧ g.2.1.WarmedH U.vm ∧ gzWd g S U.heap ∧ (S.1 < gzN → U.heap.size = gz_b g + S.1)
/-- a method's contract -/
def gzC (g : gzG) (zm d : Nat) (y : gzMe) (as : List gzV) (S : gzS) (Q : gzO → gzS → Prop) : Prop :=
  MetFree g.1 y.1 (headSpec [Cond.code y.1 y.2.1 y.2.2.1 y.2.2.2] (gzRoom zm d S)) (gzPc g as S) (fun _ _ _ _ _ => True) (fun _ st o t => gzPost g zm S Q st o t)
theorem gz_word {g : gzG} (hF : gzF g) {s : State} (hW : g.2.1.WarmedH s.vm) {w : Cond} (h : w ∈ lw_tbl) (hg : goodWord w = true) (args : Array Value) : w.before args s = true := word_at hW (good_of_word hg) (hF.1 w h)
theorem gzPost.mono {g : gzG} {zm : Nat} {S0 : gzS} {Q Q' : gzO → gzS → Prop} {s : State} {o : Outcome} {t : State} (h : gzPost g zm S0 Q s o t) (hQ : ∀ o S, Q o S → Q' o S) : gzPost g zm S0 Q' s o t := by
  obtain ⟨S', L, z, h1, h2, h3, h4, h6⟩ := h
  refine ⟨S', L, z, h1, h2, h3, h4, ?_⟩
  rcases h6 with ⟨v, a, b⟩ | ⟨E, q, ce, a, b⟩
  · exact Or.inl ⟨v, hQ _ _ a, b⟩
  · exact Or.inr ⟨E, q, ce, hQ _ _ a, b⟩
theorem gzC.mono {g : gzG} {zm d : Nat} {y : gzMe} {as : List gzV} {S : gzS} {Q Q' : gzO → gzS → Prop} (h : gzC g zm d y as S Q) (hQ : ∀ o S, Q o S → Q' o S) : gzC g zm d y as S Q' := by
  intro p e h1 h2 h3 s m args below h4 h5 h6 h7
  obtain ⟨n, o, a, b, c, r⟩ := h p e h1 h2 h3 s m args below h4 h5 h6 h7
  exact ⟨n, o, a, b, c, r.mono hQ⟩
theorem gzX.mono {g : gzG} {zm d : Nat} {y : gzMe} {pc : Nat} {loc : List (Option gzV)} {st : List gzV} {S : gzS} {z : Nat} {Q Q' : gzO → gzS → Prop} (h : gzX g zm d y pc loc st S z Q) (hQ : ∀ o S, Q o S → Q' o S) : gzX g zm d y pc loc st S z Q' := by
  intro S0 p e R s m args below meth c H locs ls C h1 h2 h3 h4 hl T hT X
  obtain ⟨t, a, o, b1, b2, b3⟩ := h S0 p e R s m args below meth c H locs ls C h1 h2 h3 h4 hl T hT X
  exact ⟨t, a, o, b1, b2, b3.mono hQ⟩
/-- the locals at the entry -/
def gz_en : List gzV → List (Option gzV)
  | [] => []
  | .inr (.inl x) :: t => some (.inr (.inl x)) :: none :: gz_en t
  | v :: t => some v :: gz_en t
theorem gz_en_pr (g : gzG) : ∀ (as : List gzV) (n k : Nat), gz_pr g n (gz_en as ++ List.replicate k none) = lv_args n (as.map (gz_v g)) := by
  intro as
  induction as with
  | nil =>
    intro n k
    show gz_pr g n (List.replicate k none) = []
    induction k generalizing n with
    | zero => rfl
    | succ k ih => exact ih (n + 1)
  | cons a t ih =>
    intro n k
    rcases a with x | x | q
    · show (n, Value.int x) :: gz_pr g (n + 1) (gz_en t ++ _) = (n, Value.int x) :: lv_args _ _
      rw [ih]; rfl
    · show (n, Value.long x) :: gz_pr g (n + 1 + 1) (gz_en t ++ _) = (n, Value.long x) :: lv_args _ _
      rw [ih]; rfl
    · show (n, Value.ref _) :: gz_pr g (n + 1) (gz_en t ++ _) = (n, Value.ref _) :: lv_args _ _
      rw [ih]; rfl
theorem gz_en_len (g : gzG) : ∀ (as : List gzV), (lg_sl (as.map (gz_v g))).length = (gz_en as).length := by
  intro as
  induction as with
  | nil => rfl
  | cons a t ih =>
    rcases a with x | x | q
    · show (lg_sl (Value.int x :: _)).length = _
      simp only [lg_sl, List.flatMap_cons, Value.category] at ih ⊢
      simp [gz_en, ih]
    · show (lg_sl (Value.long x :: _)).length = _
      simp only [lg_sl, List.flatMap_cons, Value.category] at ih ⊢
      simp [gz_en, ih]
    · show (lg_sl (Value.ref _ :: _)).length = _
      simp only [lg_sl, List.flatMap_cons, Value.category] at ih ⊢
      simp [gz_en, ih]
theorem gzC_of {g : gzG} {zm d : Nat} {y : gzMe} {as : List gzV} {S : gzS} {Q : gzO → gzS → Prop} (hy : plainName y.1.cls = true) (hlen : (gz_en as).length ≤ y.2.2.1) {loc : List (Option gzV)} (hloc : loc = gz_en as ++ List.replicate (y.2.2.1 - (gz_en as).length) none)
    (h : gzX g zm d y 0 loc [] S 0 Q) : gzC g zm d y as S Q := by
  refine MetFree.of_bodyS (code := y.2.1) (maxLocals := y.2.2.1) (ret := y.2.2.2) hy ?_ ?_
  · intro args s m h hn
    obtain ⟨meth, c, h1, h2, h3, h4, h5, h6, -, -⟩ := Cond.code_spec hn (atoms_spec (ws := [Cond.code y.1 y.2.1 y.2.2.1 y.2.2.2]) h _ List.mem_cons_self)
    exact ⟨meth, c, h1, h2, h3, h4, h5, h6⟩
  · intro p e s m args below meth c s₁ B hml hP _
    obtain ⟨rfl, hF, hW, hWd, hsz⟩ := hP
    have hh0 : s₁.heap = s.heap := by rw [B.state]; rfl
    have ht : ∀ x ∈ c.exceptionTable.toList, False := by
      obtain ⟨meth9, c9, h1, h2, -, -, -, -, h7, -⟩ := Cond.code_spec B.named (atoms_spec (ws := [Cond.code y.1 y.2.1 y.2.2.1 y.2.2.2]) B.pre _ List.mem_cons_self)
      cases Option.some.inj (h1.symm.trans B.method)
      cases Option.some.inj (h2.symm.trans (Stand.of_body B).code)
      intro x hx
      rw [Array.isEmpty_iff.mp h7] at hx
      cases hx
    have hl := lv_entry (as.map (gz_v g)) (n := y.2.2.1) (by rw [gz_en_len]; exact hlen)
    have hl2 : lv_has ((lg_sl (as.map (gz_v g)) ++ List.replicate (y.2.2.1 - (lg_sl (as.map (gz_v g))).length) Slot.unset).toArray) y.2.2.1 (gz_pr g 0 loc) := by
      rw [hloc, gz_en_pr]; exact hl
    have K := h S p e (headSpec [Cond.code y.1 y.2.1 y.2.2.1 y.2.2.2] (gzRoom zm d S)).room s m (as.map (gz_v g)).toArray below meth c s.heap [] _
      ⟨B.exec, B.bytes, B.returns, hml, findClass_of_methodNamed B.named, B.notSynchronized, ht, (name_of_methodNamed B.named B.method).1, hW, Nat.le_refl _, Nat.le_refl _, Nat.le_refl _, Nat.le_refl _, hF, Nat.le_trans (Nat.le_add_right _ _) hWd.2.1, hsz⟩
      (Nat.le_refl _) (Nat.zero_le _) hWd (fun q hq => by cases hq) hl2
    rw [Nat.sub_self, Nat.sub_self] at K
    rw [lg_entry_eq]
    obtain ⟨t, a1, o, b1, b2, b3⟩ := K s₁ hh0 (Stand.of_body B)
    exact ⟨t, o, a1, b1, b2, b3⟩
