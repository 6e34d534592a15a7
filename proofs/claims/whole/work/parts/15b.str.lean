/-! the string constants: what the start tells of them; String.length and String.charAt over them. gz_backR, gz_callR: gz_back, gz_call (09) for arguments that are told as values -/
def gzPcR (g : gzG) (a0 : Array Value) (S : gzS) : Array Value → State → Prop := fun a U => a = a0 ∧ gzF g ∧ g.2.1.WarmedH U.vm ∧ gzWd g S U.heap ∧ (S.1 < gzN → U.heap.size = gz_b g + S.1)
def gzCr (g : gzG) (zm d : Nat) (y : gzMe) (a0 : Array Value) (S : gzS) (Q : gzO → gzS → Prop) : Prop :=
  MetFree g.1 y.1 (headSpec [Cond.code y.1 y.2.1 y.2.2.1 y.2.2.2] (gzRoom zm d S)) (gzPcR g a0 S) (fun _ _ _ _ _ => True) (fun _ st o t => gzPost g zm S Q st o t)
theorem gzCr.mono {g : gzG} {zm d : Nat} {y : gzMe} {a0 : Array Value} {S : gzS} {Q Q' : gzO → gzS → Prop} (h : gzCr g zm d y a0 S Q) (hQ : ∀ o S, Q o S → Q' o S) : gzCr g zm d y a0 S Q' := by
  intro p e h1 h2 h3 s m args below h4 h5 h6 h7
  obtain ⟨n, o, a, b, c, r⟩ := h p e h1 h2 h3 s m args below h4 h5 h6 h7
  exact ⟨n, o, a, b, c, r.mono hQ⟩
section
variable {g : gzG} {zc d : Nat} {zy : gzMe} {a0 : Array Value} {S : gzS} {Q1 : gzO → gzS → Prop} {p : Program} {e : Env} {R : Room} {s : State} {m : MethodId} {args : Array Value} {below : List Frame} {meth : Method} {c : Code}
theorem gz_backR {U : State} {Ls : List Loc} {c0 s0 : Nat} {fr : JFrame} {ig : Instr} {len : Nat} {mk : MethodId} (hM : gzCr g zc d zy a0 S Q1)
    (X : Stand p g.1 e R s m args below meth c U Ls c0 s0) (hg : fr.method = m) (hsize : fr.locals.size = c.maxLocals) (hdg : decode c.code fr.pc = .ok (ig, len)) (hW9 : 2 * fr.monitorRoom + (fr.stack.map fun v => v.category).sum ≤ 8) (hn : U.methodNamed? zy.1 = some mk)
    (h2 : (Cond.code zy.1 zy.2.1 zy.2.2.1 zy.2.2.2).before a0 U = true) (h3 : (Cond.initialized zy.1.cls).before a0 U = true)
    (hframes : d + 8 + 1 ≤ R.frames) (hlocals : 8 + (zy.2.2.1 + 11) + (d + 2) * 64 ≤ R.locals) (h4 : c0 + (gzN - S.1 + zc + 1) ≤ R.cells) (h5 : s0 + (gzM - gzU S.1 + 6 * zc + 6) ≤ R.slots) (hPc0 : gzPcR g a0 S a0 U) :
    (∃ (v : Option gzV) (S' : gzS) (L : List Loc) (z : Nat) (U' : State), Stand p g.1 e R s m args below meth c U' (Ls ++ L) (c0 + (S'.1 - S.1 + z)) (s0 + (gzU S'.1 - gzU S.1 + 6 * z)) ∧ Q1 (.ok v) S' ∧ S.1 ≤ S'.1 ∧ z ≤ zc ∧ gzWd g S' U'.heap ∧ (∀ q ∈ L, gz_b g ≤ q.base) ∧
      Steps p.tables e below (doInvoke e (U.setTop fr) [] mk a0).1 (U'.setTop { fr with pc := fr.pc + len, stack := (v.map (gz_v g)).toList ++ fr.stack })) ∨
    (∃ (E : String) (q : Addr) (ce : Cell) (S' : gzS) (L : List Loc) (z : Nat) (U' : State), Stand p g.1 e R s m args below meth c U' (Ls ++ L) (c0 + (S'.1 - S.1 + z + 1)) (s0 + (gzU S'.1 - gzU S.1 + 6 * z + 6)) ∧ Q1 (.error E) S' ∧ S.1 ≤ S'.1 ∧ z ≤ zc ∧ gzWd g S' U'.heap ∧ (∀ q ∈ L, gz_b g ≤ q.base) ∧
      U'.heap[q]? = some ce ∧ ce.vm = .none ∧ U.vm.findClass E = some ce.cls ∧
      Steps p.tables e below (doInvoke e (U.setTop fr) [] mk a0).1 ((U'.setTop fr).pushFrame (.throwing q))) := by
  obtain ⟨a, ha⟩ : ∃ z, z = a0 := ⟨_, rfl⟩
  subst ha
  have h1 : (headSpec [Cond.code zy.1 zy.2.1 zy.2.2.1 zy.2.2.2] (gzRoom zc d S)).pre.before a U = true := atoms_intro fun w hw => by
    rw [List.mem_singleton.mp hw]
    exact h2
  have hPc : gzPcR g a S a (U.calling fr mk a) := hPc0
  obtain ⟨methY, cY, hmY, hcY, -, hlY, -, -, -, -⟩ := Cond.code_spec hn h2
  obtain ⟨kY, hkY, -⟩ := className_of_methodNamed hn
  have hinitY : kY.init = .initialized := Cond.initialized_spec (findClass_of_methodNamed hn) hkY h3
  have h : At U fr.method c below := by rw [hg]; exact X.here
  have hlocals9 : 8 + (zy.2.2.1 + 11) + (headSpec [Cond.code zy.1 zy.2.1 zy.2.2.1 zy.2.2.2] (gzRoom zc d S)).room.locals ≤ R.locals := hlocals
  have happ : (headSpec [Cond.code zy.1 zy.2.1 zy.2.2.1 zy.2.2.2] (gzRoom zc d S)).appliesLoose zy.1 e.platform (U.calling fr mk a) = true :=
    Spec.appliesLoose_calling (g := fr) h hdg hn hkY hinitY
      (X.room_calling (g := fr) (R' := (headSpec [Cond.code zy.1 zy.2.1 zy.2.2.1 zy.2.2.2] (gzRoom zc d S)).room) hsize hmY hcY hframes (by rw [hlY]; omega) h4 h5) h1
  obtain ⟨mid, hmid⟩ := h.above
  have hfr : (U.setTop fr).frames = (.java fr :: mid) ++ below := by rw [State.frames_setTop' fr h.top, hmid]; rfl
  obtain ⟨o, s₂, hsteps, -, hend, hq⟩ := Steps.callFree hM p X.admits X.cas X.clock (acts := []) hfr happ hPc trivial
  have hq' : gzPost g zc S Q1 (U.calling fr mk a) o s₂ := hq
  rw [State.frames_setTop' fr h.top] at hend
  obtain ⟨g₀, hg0⟩ := Option.isSome_iff_exists.mp h.top
  obtain ⟨r, hr⟩ := State.topJava?_eq_some.mp hg0
  have hr' : (({ U with heap := s₂.heap, slotsUsed := s₂.slotsUsed } : State).setVm s₂.vm).frames = .java g₀ :: r := hr
  obtain ⟨S', L, z, hS', hz, hWd, hL, hq'⟩ := hq'
  rcases hq' with ⟨v, hqv, rfl, hfe⟩ | ⟨E, q, ce, hqE, rfl, hce, hcv, hcl, hW₂, hsm⟩
  · obtain ⟨-, hW₂, e2, q2, q3, q4, q5, q6⟩ := id hfe
    have e3 : s₂ = ({ (U.calling fr mk a).setFrames s₂.frames with heap := s₂.heap, slotsUsed := s₂.slotsUsed } : State).setVm s₂.vm := by
      have : s₂ = ({ s₂ with vm := (U.calling fr mk a).vm } : State).setVm s₂.vm := rfl
      rw [e2] at this
      exact this
    obtain ⟨c₂, i₂, len₂, hc₂, hd₂, hf₂⟩ := hend
    have hW' : U.WarmedH s₂.vm := hW₂
    have hcc : c₂ = c := by
      have h1 : s₂.code? fr.method = U.code? fr.method := by
        rw [State.code?_eq, State.code?_eq, hW'.alike.method?]
      exact Option.some.inj (hc₂.symm.trans (h1.trans h.code))
    subst hcc
    have hlen : len₂ = len := by rw [hdg] at hd₂; cases hd₂; rfl
    subst hlen
    have hs₂ : s₂ = (({ U with heap := s₂.heap, slotsUsed := s₂.slotsUsed } : State).setVm s₂.vm).setTop { fr with pc := fr.pc + len₂, stack := (v.map (gz_v g)).toList ++ fr.stack } := by
      refine e3.trans ?_
      rw [hf₂, State.calling_eq h.top, State.setFrames_setFrames, State.setTop_of_frames _ hr', hr]
      rfl
    have hsame : U.sameButNew ({ U with heap := s₂.heap, slotsUsed := s₂.slotsUsed } : State) L (S'.1 - S.1 + z) (gzU S'.1 - gzU S.1 + 6 * z) := by
      refine ⟨?_, q2, q3, q4, q5, q6⟩
      obtain ⟨t, ht, -⟩ := State.frames_cons hr
      show ({ U with heap := s₂.heap, slotsUsed := s₂.slotsUsed } : State) = { U.setFrames U.frames with heap := s₂.heap, slotsUsed := s₂.slotsUsed }
      rw [State.setFrames_self ht]
    subst hg
    refine Or.inl ⟨v, S', L, z, (({ U with heap := s₂.heap, slotsUsed := s₂.slotsUsed } : State).setVm s₂.vm),
      ⟨X.admits, X.cas, X.clock, X.frames, X.room, X.hears, X.method, X.code, (X.here.setHeapUsed s₂.heap s₂.slotsUsed).setVm hW'.alike, X.tail, State.WarmedH.trans X.warmed hW', X.limits, X.bytes, X.same.trans (hsame.setVm s.vm)⟩,
      hqv, hS', hz, hWd, hL, ?_⟩
    rw [← hs₂]
    exact hsteps
  · obtain ⟨e2, q2, q3, q4, q5, q6⟩ := id hsm
    have e3 : s₂ = ({ (U.calling fr mk a).setFrames s₂.frames with heap := s₂.heap, slotsUsed := s₂.slotsUsed } : State).setVm s₂.vm := by
      have : s₂ = ({ s₂ with vm := (U.calling fr mk a).vm } : State).setVm s₂.vm := rfl
      rw [e2] at this
      exact this
    have hf₂ : s₂.frames = .throwing q :: .java fr :: U.frames.tail := hend
    have hW' : U.WarmedH s₂.vm := hW₂
    have hs₂ : s₂ = ((({ U with heap := s₂.heap, slotsUsed := s₂.slotsUsed } : State).setVm s₂.vm).setTop fr).pushFrame (.throwing q) := by
      refine e3.trans ?_
      rw [hf₂, State.calling_eq h.top, State.setFrames_setFrames, State.pushFrame, State.frames_setTop _ hr', State.setTop_of_frames _ hr', State.setFrames_setFrames, hr]
      rfl
    have hsame : U.sameButNew ({ U with heap := s₂.heap, slotsUsed := s₂.slotsUsed } : State) L (S'.1 - S.1 + z + 1) (gzU S'.1 - gzU S.1 + 6 * z + 6) := by
      refine ⟨?_, q2, q3, q4, q5, q6⟩
      obtain ⟨t, ht, -⟩ := State.frames_cons hr
      show ({ U with heap := s₂.heap, slotsUsed := s₂.slotsUsed } : State) = { U.setFrames U.frames with heap := s₂.heap, slotsUsed := s₂.slotsUsed }
      rw [State.setFrames_self ht]
    subst hg
    refine Or.inr ⟨E, q, ce, S', L, z, (({ U with heap := s₂.heap, slotsUsed := s₂.slotsUsed } : State).setVm s₂.vm),
      ⟨X.admits, X.cas, X.clock, X.frames, X.room, X.hears, X.method, X.code, (X.here.setHeapUsed s₂.heap s₂.slotsUsed).setVm hW'.alike, X.tail, State.WarmedH.trans X.warmed hW', X.limits, X.bytes, X.same.trans (hsame.setVm s.vm)⟩,
      hqE, hS', hz, hWd, hL, hce, hcv, hcl, ?_⟩
    rw [← hs₂]
    exact hsteps
end
section
variable {g : gzG} {zm zc d : Nat} {y zy : gzMe} {pc : Nat} {loc : List (Option gzV)} {st : List gzV} {z : Nat} {Q : gzO → gzS → Prop} {S : gzS} {a0 : Array Value}
theorem gz_callR (hM : gzCr g zc d zy a0 S (gzK g zm (d + 1) y (pc + 3) loc st (z + zc) Q))
    {S0 : gzS} {p : Program} {e : Env} {R : Room} {s : State} {m : MethodId} {args : Array Value} {below : List Frame} {meth : Method} {c : Code} {H : Heap} {locs : List Loc} {ls : Array Slot} {stk : List Value} {ig : Instr}
    (hz0 : z = 0 ∨ S.1 = gzN) (C : gzCx g zm (d + 1) y S0 p R s m meth c) (h1 : S0.1 ≤ S.1) (h2 : z + zc ≤ zm) (hW : gzWd g S H) (h4 : ∀ q ∈ locs, gz_b g ≤ q.base) (hl : lv_has ls y.2.2.1 (gz_pr g 0 loc)) (hzl : zy.2.2.1 ≤ 45) (hd : decode y.2.1 pc = .ok (ig, 3)) (hst : (st.map fun v => (gz_v g v).category).sum ≤ 8)
    (hw : Cond.code zy.1 zy.2.1 zy.2.2.1 zy.2.2.2 ∈ lw_tbl) (hg : goodWord (Cond.code zy.1 zy.2.1 zy.2.2.1 zy.2.2.2) = true) (hw2 : Cond.initialized zy.1.cls ∈ lw_tbl) (hg2 : goodWord (Cond.initialized zy.1.cls) = true)
    (inv : gz_Inv p g.1 e R s m args below meth c H locs (S.1 - S0.1 + z) (gzU S.1 - gzU S0.1 + 6 * z) (F0 m pc ls stk) (st.map (gz_v g)) zy.1 a0) :
    W p g.1 e R s m args below meth c H locs (S.1 - S0.1 + z) (gzU S.1 - gzU S0.1 + 6 * z) (gzMQ g zm S0 Q below s) (F0 m pc ls stk) := by
  intro T hT X
  obtain ⟨mk, vm₁, hnamed, X₁, hstep⟩ := inv T hT X
  have hf := C.2.2.2.2.2.2.2.2.2.1
  have hlo := C.2.2.2.2.2.2.2.2.2.2.1
  have hRc := C.2.2.2.2.2.2.2.2.2.2.2.1
  have hRs := C.2.2.2.2.2.2.2.2.2.2.2.2.1
  have hUm : gzU S0.1 ≤ gzU S.1 := gz_Um h1
  have hUl : gzU S.1 ≤ gzM := gz_Ule hW.2.2.2
  have hN := hW.2.2.2
  have hW0 : g.2.1.WarmedH (T.setVm vm₁).vm := State.WarmedH.trans (gz_cxW C) X₁.warmed
  have hst2 : ((st.map (gz_v g)).map fun v => v.category).sum ≤ 8 := by rw [List.map_map]; exact hst
  have hss := C.2.2.2.2.2.2.2.2.2.2.2.2.2.2.2
  have hbig : S.1 < gzN → (T.setVm vm₁).heap.size = gz_b g + S.1 := by
    intro hlt
    have hz : z = 0 := hz0.resolve_right (by omega)
    subst hz
    have q1 : (T.setVm vm₁).heap.size ≤ s.heap.size + (S.1 - S0.1 + 0) := X₁.heapSize
    have q2 := hss (by omega)
    have q3 : gz_b g + S.1 ≤ (T.setVm vm₁).heap.size := by
      show gz_b g + S.1 ≤ T.heap.size
      rw [hT]; exact hW.2.1
    omega
  have hPc0 : gzPcR g a0 S a0 (T.setVm vm₁) := ⟨rfl, gz_cxF C, hW0, by show gzWd g S T.heap; rw [hT]; exact hW, hbig⟩
  have hB := gz_backR hM X₁ (fr := { F0 m pc ls stk with stack := st.map (gz_v g) }) rfl (hl.1.trans C.2.2.2.1.symm) (by rw [C.2.1]; exact hd) (show 2 * 0 + ((st.map (gz_v g)).map fun v => v.category).sum ≤ 8 by omega) hnamed
    (word_at hW0 (good_of_word hg) ((gz_cxF C).1 _ hw)) (word_at hW0 (good_of_word hg2) ((gz_cxF C).1 _ hw2)) (by omega) (by omega) (by omega) (by omega) hPc0
  rcases hB with ⟨v, S', L, z', U', X', hq, hS', hz', hWd', hL, hsteps⟩ | ⟨E, q, ce, S', L, z', U', X', hq, hS', hz', hWd', hL, hce, hcv, hcl, hsteps⟩
  · have hUm' : gzU S.1 ≤ gzU S'.1 := gz_Um hS'
    have k0 : gzX g zm (d + 1) y (pc + 3) loc (v.toList ++ st) S' (z + zc) Q := hq
    have hst3 : ((v.map (gz_v g)).toList ++ st.map (gz_v g)) = (v.toList ++ st).map (gz_v g) := by cases v <;> rfl
    have k1 := k0 S0 p e R s m args below meth c U'.heap (locs ++ L) ls C (Nat.le_trans h1 hS') h2 hWd' (fun q hq => (List.mem_append.mp hq).elim (h4 q) (hL q)) hl
    have k2 := gz_wwide (c1 := S.1 - S0.1 + z + (S'.1 - S.1 + z')) (s1 := gzU S.1 - gzU S0.1 + 6 * z + (gzU S'.1 - gzU S.1 + 6 * z')) k1 (by omega) (by omega)
    obtain ⟨t, a1, b1⟩ := k2 U' rfl X'
    refine ⟨t, hstep t (hsteps.trans ?_), b1⟩
    rw [← hst3] at a1
    exact a1
  · have hUm' : gzU S.1 ≤ gzU S'.1 := gz_Um hS'
    have hE : Q (.error E) S' := hq
    obtain ⟨st1, hrun, hend, hWm, hsm⟩ := X'.leaveThrown q (g := F0 m pc ls (st.map (gz_v g))) rfl rfl rfl (fun x hx => (C.2.2.2.2.2.2.1 x hx).elim) C.2.2.2.2.2.1
    have hcell9 : (U'.setFrames (.throwing q :: below)).heap[q]? = some ce := hce
    have hcl9 : s.vm.findClass E = some ce.cls := by
      have h9 : (T.setVm vm₁).vm.findClass E = some ce.cls := hcl
      rw [X₁.warmed.alike.findClass] at h9
      exact h9
    refine ⟨_, hstep _ (hsteps.trans st1), .threw q, hrun, hend, S', locs ++ L, z + z', Nat.le_trans h1 hS', by omega, hWd', fun q hq => (List.mem_append.mp hq).elim (h4 q) (hL q), Or.inr ⟨E, q, ce, hE, rfl, hcell9, hcv, hcl9, hWm, hsm.mono (by omega) (by omega)⟩⟩
end
theorem gzCr_of {g : gzG} {zm d : Nat} {y : gzMe} {vs : List Value} {S : gzS} {Q : gzO → gzS → Prop} (hy : plainName y.1.cls = true) (hlen : (lg_sl vs).length ≤ y.2.2.1) {loc : List (Option gzV)} (hloc : ∀ q ∈ gz_pr g 0 loc, q ∈ lv_args 0 vs)
    (h : gzX g zm d y 0 loc [] S 0 Q) : gzCr g zm d y vs.toArray S Q := by
  refine MetFree.of_bodyS (code := y.2.1) (maxLocals := y.2.2.1) (ret := y.2.2.2) hy ?_ ?_
  · intro args s m h hn
    obtain ⟨meth, c, h1, h2, h3, h4, h5, h6, -, -⟩ := Cond.code_spec hn (atoms_spec (ws := [Cond.code y.1 y.2.1 y.2.2.1 y.2.2.2]) h _ List.mem_cons_self)
    exact ⟨meth, c, h1, h2, h3, h4, h5, h6⟩
  · intro p e s m args below meth c s₁ B hml hP _
    obtain ⟨rfl, hF, hW, hWd, hsz⟩ := hP
    have hh0 : s₁.heap = s.heap := by rw [B.state]; rfl
    have ht : ∀ x ∈ c.exceptionTable.toList, False := by
      obtain ⟨meth9, c9, h1, h2, -, -, -, -, h7, -⟩ := Cond.code_spec B.named (atoms_spec (ws := [Cond.code y.1 y.2.1 y.2.2.1 y.2.2.2]) B.pre _ List.mem_cons_self)
      cases Option.some.inj (h1.symm.trans B.method)
      cases Option.some.inj (h2.symm.trans (Stand.of_body B).code)
      intro x hx
      rw [Array.isEmpty_iff.mp h7] at hx
      cases hx
    have hl := lv_entry vs (n := y.2.2.1) hlen
    have hl2 : lv_has ((lg_sl vs ++ List.replicate (y.2.2.1 - (lg_sl vs).length) Slot.unset).toArray) y.2.2.1 (gz_pr g 0 loc) := gz_sub hl hloc
    have K := h S p e (headSpec [Cond.code y.1 y.2.1 y.2.2.1 y.2.2.2] (gzRoom zm d S)).room s m vs.toArray below meth c s.heap [] _
      ⟨B.exec, B.bytes, B.returns, hml, findClass_of_methodNamed B.named, B.notSynchronized, ht, (name_of_methodNamed B.named B.method).1, hW, Nat.le_refl _, Nat.le_refl _, Nat.le_refl _, Nat.le_refl _, hF, Nat.le_trans (Nat.le_add_right _ _) hWd.2.1, hsz⟩
      (Nat.le_refl _) (Nat.zero_le _) hWd (fun q hq => by cases hq) hl2
    rw [Nat.sub_self, Nat.sub_self] at K
    rw [lg_entry_eq]
    obtain ⟨t, a1, o, b1, b2, b3⟩ := K s₁ hh0 (Stand.of_body B)
    exact ⟨t, o, a1, b1, b2, b3⟩
/-- the old heap, as the method's start and this point have it -/
theorem gz_old {g : gzG} {zm d : Nat} {y : gzMe} {S0 S : gzS} {p : Program} {e : Env} {R : Room} {s : State} {m : MethodId} {args : Array Value} {below : List Frame} {meth : Method} {c : Code} {H : Heap} {locs : List Loc} {cells slots : Nat} {Q : State → Prop} {f : JFrame} (C : gzCx g zm d y S0 p R s m meth c) (hW : gzWd g S H) (h4 : ∀ q ∈ locs, gz_b g ≤ q.base)
    (k : (∀ a : Nat, a < g.2.1.heap.size → ¬ gzA g a → s.heap[a]? = g.2.1.heap[a]?) → va_S (gzA g) s.heap H locs → W p g.1 e R s m args below meth c H locs cells slots Q f) : W p g.1 e R s m args below meth c H locs cells slots Q f := by
  refine gz_fb fun hlb hfb => ?_
  have hbs := C.2.2.2.2.2.2.2.2.2.2.2.2.2.2.1
  have hSs : va_S (gzA g) s.heap H locs := ⟨hlb, fun q hq hA => hfb q hq (fun zz hzz e => hA (show gz_b g ≤ q from e ▸ h4 zz hzz)), h4⟩
  refine k (fun a ha hA => ?_) hSs
  have ha' : a < gz_b g := ha
  rw [← hfb a (by omega) (fun zz hzz e => absurd (show gz_b g ≤ a from e ▸ h4 zz hzz) (Nat.not_le.mpr ha'))]
  exact hW.2.2.1 a ha'
theorem gz_notA {g : gzG} : ∀ a : Nat, a < g.2.1.heap.size → ¬ gzA g a := fun a h q => Nat.not_le.mpr h q
/-- the bytes of the string constants -/
def gzSbT : List (List Int32) := [[97, 32, 98, 32, 99, 32, 100, 32, 101, 32, 102, 32, 103, 32, 104, 32, 115, 112, 114, 105, 110, 103, 32, 115, 117, 109, 109, 101, 114, 32, 97, 117, 116, 117, 109, 110, 32, 119, 105, 110, 116, 101, 114, 32, 103, 114, 117, 100, 103, 101, 32, 97, 103, 101, 32, 105, 99, 101, 32, 112, 114, 105, 100, 101, 32, 98, 105, 116, 116, 101, 114, 32, 100, 101, 101, 112, 32, 104, 101, 97, 116, 32, 115, 101, 97, 115, 111, 110, 32, 110, 117, 114, 115, 101, 100, 32, 109, 117, 116, 117, 97, 108, 32, 112, 114, 111, 112, 112, 101, 100, 32, 102, 114, 101, 101, 122, 101, 32, 109, 101, 108, 116, 32, 104, 97, 114, 100, 101, 110, 32, 105, 102, 32, 110, 111, 116, 32, 97, 110, 100, 32, 111, 114, 32, 102, 97, 109, 105, 108, 121, 32, 110, 101, 101, 100, 115, 32, 108, 97, 114, 100, 101, 114, 32, 115, 108, 105, 103, 104, 116, 32, 111, 118, 101, 114, 32, 115, 116, 111, 114, 101, 32, 107, 105, 115, 115, 32, 116, 105, 109, 101, 32], [97, 32, 119, 114, 111, 110, 103, 32, 116, 101, 120, 116], [116, 104, 101, 114, 101, 32, 97, 114, 101, 32, 49, 50, 32, 116, 101, 120, 116, 115], [110, 111, 32, 115, 117, 99, 104, 32, 102, 97, 109, 105, 108, 121], [110, 111, 32, 115, 117, 99, 104, 32, 119, 104, 97, 116], [110, 111, 32, 115, 117, 99, 104, 32, 103, 114, 117, 100, 103, 101], [110, 111, 32, 115, 117, 99, 104, 32, 115, 108, 105, 103, 104, 116], [110, 111, 32, 115, 117, 99, 104, 32, 115, 101, 97, 115, 111, 110], [97, 32, 110, 117, 109, 98, 101, 114, 32, 116, 104, 97, 116, 32, 105, 115, 32, 110, 111, 110, 101], [98, 111, 116, 104, 32, 97, 114, 101, 32, 111, 110, 101], [105, 116, 32, 119, 111, 117, 108, 100, 32, 98, 101, 32, 97, 110, 32, 49, 49, 116, 104, 32, 103, 114, 117, 100, 103, 101], [105, 116, 32, 105, 115, 32, 116, 104, 97, 119, 101, 100], [105, 116, 32, 105, 115, 32, 97, 32, 103, 114, 117, 100, 103, 101, 32, 111, 102, 32, 116, 104, 97, 116, 32, 102, 97, 109, 105, 108, 121], [105, 116, 32, 104, 97, 115, 32, 108, 101, 115, 115, 32, 105, 99, 101], [116, 104, 101, 114, 101, 32, 105, 115, 32, 108, 101, 115, 115, 32, 105, 110, 32, 116, 104, 101, 32, 115, 116, 111, 114, 101], [110, 111, 116, 32, 114, 111, 119, 115, 32, 111, 102, 32, 99, 117, 116, 115], [110, 111, 32, 115, 117, 99, 104, 32, 99, 117, 116], [102, 97, 109, 105, 108, 121], [112, 114, 105, 100, 101], [110, 101, 101, 100, 115], [108, 97, 114, 100, 101, 114], [115, 108, 105, 103, 104, 116], [98, 105, 116, 116, 101, 114], [100, 101, 101, 112], [103, 114, 117, 100, 103, 101], [111, 118, 101, 114], [105, 99, 101], [97, 103, 101], [110, 117, 114, 115, 101, 100], [104, 101, 97, 116], [115, 112, 114, 105, 110, 103], [115, 117, 109, 109, 101, 114], [97, 117, 116, 117, 109, 110], [119, 105, 110, 116, 101, 114], [115, 116, 111, 114, 101], [107, 105, 115, 115], [116, 105, 109, 101], [112, 114, 111, 112, 112, 101, 100], [102, 114, 101, 101, 122, 101], [109, 101, 108, 116], [104, 97, 114, 100, 101, 110], [105, 102], [110, 111, 116], [109, 117, 116, 117, 97, 108], [115, 101, 97, 115, 111, 110], [97, 110, 100], [111, 114]]
def gzSb (i : Nat) : List Int32 := gzSbT.getD i []
def gzSn : Nat := 47
/-- what the Statement's start says of a string constant, row by row -/
def gzScd (q : String × Nat × String) (bs : List Int32) : List Cond :=
  [Cond.exactly (Term.string q.1 q.2.1) "java/lang/String", Cond.eq (.field (Term.string q.1 q.2.1) "java/lang/String" "coder" "B") (.int 0), Cond.arrayOf (.field (Term.string q.1 q.2.1) "java/lang/String" "value" "[B") .byte, Cond.eq (.length (.field (Term.string q.1 q.2.1) "java/lang/String" "value" "[B")) (.int (Int32.ofNat bs.length))] ++
  (List.range bs.length).map (fun j => Cond.eq (.elem (.field (Term.string q.1 q.2.1) "java/lang/String" "value" "[B") (.int (Int32.ofNat j))) (.int (bs.getD j 0)))
set_option maxRecDepth 100000 in
theorem gz_flat : (flatC narrow_1).drop 94 = (gzStrs.zip gzSbT).flatMap (fun x => gzScd x.1 x.2) := by decide +kernel
theorem gz_narrow {g : gzG} (hF : gzF g) {c : Cond} (h : c ∈ flatC narrow_1) : c.before g.2.2.1 g.2.1 = true := flat_of_before (.and given_1 narrow_1) hF.2.2.2.2.2.2.1 c (List.mem_append_right _ h)
set_option maxRecDepth 100000 in
theorem gz_strn : gzStrs.length = 47 ∧ gzSbT.length = 47 := by decide +kernel
theorem gz_scd {g : gzG} (hF : gzF g) {i : Nat} {q : String × Nat × String} (h : gzStrs[i]? = some q) {c : Cond} (hc : c ∈ gzScd q (gzSb i)) : c.before g.2.2.1 g.2.1 = true := by
  have hi : i < 47 := by
    have := (List.getElem?_eq_some_iff.mp h).1
    rw [gz_strn.1] at this; exact this
  have h2 : gzSbT[i]? = some (gzSb i) := by
    unfold gzSb
    rw [List.getD_eq_getElem?_getD, List.getElem?_eq_getElem (by rw [gz_strn.2]; exact hi)]; rfl
  have h3 : (gzStrs.zip gzSbT)[i]? = some (q, gzSb i) := List.getElem?_zip_eq_some.mpr ⟨h, h2⟩
  exact gz_narrow hF (List.mem_of_mem_drop (i := 94) (by rw [gz_flat]; exact List.mem_flatMap.mpr ⟨_, List.mem_of_getElem? h3, hc⟩))
set_option maxRecDepth 100000 in
theorem gz_sblen : ∀ i, i < gzSn → (gzSb i).length < 2 ^ 31 := by decide +kernel
theorem gz_strF {g : gzG} (hF : gzF g) {i : Nat} {q : String × Nat × String} (h : gzStrs[i]? = some q) : va_O "java/lang/String" (g.2.2.2.2.2 i 60) (gzA g) g.2.1 g.2.1.heap ∧ va_OF "java/lang/String" "coder" "B" (.int 0) (g.2.2.2.2.2 i 60) (gzA g) g.2.1 g.2.1.heap ∧
    va_OF "java/lang/String" "value" "[B" (.ref (g.2.2.2.2.2 i 63)) (g.2.2.2.2.2 i 60) (gzA g) g.2.1 g.2.1.heap ∧ va_T .byte (g.2.2.2.2.2 i 63) (gzSb i).length (fun j => .int ((gzSb i).getD j 0)) (gzA g) g.2.1 g.2.1.heap := by
  obtain ⟨hR, hV⟩ := hF.2.2.2.2.2.1 i q h
  have ev : (Term.string q.1 q.2.1).eval g.2.2.1 g.2.1 none [] g.2.1 = some (.ref (g.2.2.2.2.2 i 60)) := hR.2
  have hi : i < gzSn := by
    have := (List.getElem?_eq_some_iff.mp h).1
    rw [gz_strn.1] at this; exact this
  have hl := gz_sblen i hi
  obtain ⟨a, c, cA, kA, q1, q2, q3, q4, q5, q6, -⟩ := Cond.exactly_spec (args := g.2.2.1) (first := g.2.1) (o := none) (s := g.2.1) (idx := []) (t := Term.string q.1 q.2.1) (cls := "java/lang/String") (gz_scd hF h (c := Cond.exactly (Term.string q.1 q.2.1) "java/lang/String") (by simp [gzScd]))
  have ea : a = g.2.2.2.2.2 i 60 := by
    have := q1.symm.trans ev
    simpa using this
  subst ea
  obtain ⟨t, ht, hT⟩ := va_Tof (args := g.2.2.1) (s := g.2.1) (tm := .field (Term.string q.1 q.2.1) "java/lang/String" "value" "[B") (ty := .byte) (N := (gzSb i).length) (f := fun j => .int ((gzSb i).getD j 0)) (A := gzA g) hl (gz_scd hF h (by simp [gzScd])) (va_eqt (gz_scd hF h (by simp [gzScd])))
    (fun j hj => va_eqt (gz_scd hF h (by unfold gzScd; exact List.mem_append_right _ (List.mem_map.mpr ⟨j, List.mem_range.mpr hj, rfl⟩)))) gz_notA
  have et : t = g.2.2.2.2.2 i 63 := by
    have := ht.symm.trans hV
    simpa using this
  subst et
  exact ⟨⟨cA, q3, q5, by rw [q6]; exact q2, gz_notA _ (Array.getElem?_eq_some_iff.mp q3).1⟩, vk_OFof ev (va_eqt (gz_scd hF h (by simp [gzScd]))) gz_notA, vk_OFof ev hV gz_notA, hT⟩
theorem dJ0_length_8abf5_0 : decode cJ0_length_8abf5 0 = .ok (.aload_n 0, 1) := by decide +kernel
theorem dJ0_length_8abf5_1 : decode cJ0_length_8abf5 1 = .ok (.getfield 9, 3) := by decide +kernel
theorem dJ0_length_8abf5_4 : decode cJ0_length_8abf5 4 = .ok (.arraylength, 1) := by decide +kernel
theorem dJ0_length_8abf5_5 : decode cJ0_length_8abf5 5 = .ok (.aload_n 0, 1) := by decide +kernel
theorem dJ0_length_8abf5_6 : decode cJ0_length_8abf5 6 = .ok (.invokevirtual 335, 3) := by decide +kernel
theorem dJ0_length_8abf5_9 : decode cJ0_length_8abf5 9 = .ok (.ishr, 1) := by decide +kernel
theorem dJ0_length_8abf5_10 : decode cJ0_length_8abf5 10 = .ok (.ireturn, 1) := by decide +kernel
theorem dJ0_charAt_5068e_0 : decode cJ0_charAt_5068e 0 = .ok (.aload_n 0, 1) := by decide +kernel
theorem dJ0_charAt_5068e_1 : decode cJ0_charAt_5068e 1 = .ok (.invokevirtual 492, 3) := by decide +kernel
theorem dJ0_charAt_5068e_4 : decode cJ0_charAt_5068e 4 = .ok (.ifCond .eq 12, 3) := by decide +kernel
theorem dJ0_charAt_5068e_7 : decode cJ0_charAt_5068e 7 = .ok (.aload_n 0, 1) := by decide +kernel
theorem dJ0_charAt_5068e_8 : decode cJ0_charAt_5068e 8 = .ok (.getfield 9, 3) := by decide +kernel
theorem dJ0_charAt_5068e_11 : decode cJ0_charAt_5068e 11 = .ok (.iload_n 1, 1) := by decide +kernel
theorem dJ0_charAt_5068e_12 : decode cJ0_charAt_5068e 12 = .ok (.invokestatic 495, 3) := by decide +kernel
theorem dJ0_charAt_5068e_15 : decode cJ0_charAt_5068e 15 = .ok (.ireturn, 1) := by decide +kernel
theorem dJ0_charAt_5068e_16 : decode cJ0_charAt_5068e 16 = .ok (.aload_n 0, 1) := by decide +kernel
theorem dJ0_charAt_5068e_17 : decode cJ0_charAt_5068e 17 = .ok (.getfield 9, 3) := by decide +kernel
theorem dJ0_charAt_5068e_20 : decode cJ0_charAt_5068e 20 = .ok (.iload_n 1, 1) := by decide +kernel
theorem dJ0_charAt_5068e_21 : decode cJ0_charAt_5068e 21 = .ok (.invokestatic 498, 3) := by decide +kernel
theorem dJ0_charAt_5068e_24 : decode cJ0_charAt_5068e 24 = .ok (.ireturn, 1) := by decide +kernel
theorem dJ0_coder_7d493_0 : decode cJ0_coder_7d493 0 = .ok (.getstatic 38, 3) := by decide +kernel
theorem dJ0_coder_7d493_3 : decode cJ0_coder_7d493 3 = .ok (.ifCond .eq 10, 3) := by decide +kernel
theorem dJ0_coder_7d493_6 : decode cJ0_coder_7d493 6 = .ok (.aload_n 0, 1) := by decide +kernel
theorem dJ0_coder_7d493_7 : decode cJ0_coder_7d493 7 = .ok (.getfield 15, 3) := by decide +kernel
theorem dJ0_coder_7d493_10 : decode cJ0_coder_7d493 10 = .ok (.goto 4, 3) := by decide +kernel
theorem dJ0_coder_7d493_13 : decode cJ0_coder_7d493 13 = .ok (.iconst 1, 1) := by decide +kernel
theorem dJ0_coder_7d493_14 : decode cJ0_coder_7d493 14 = .ok (.ireturn, 1) := by decide +kernel
theorem dJ0_isLatin1_aae02_0 : decode cJ0_isLatin1_aae02 0 = .ok (.getstatic 38, 3) := by decide +kernel
theorem dJ0_isLatin1_aae02_3 : decode cJ0_isLatin1_aae02 3 = .ok (.ifCond .eq 14, 3) := by decide +kernel
theorem dJ0_isLatin1_aae02_6 : decode cJ0_isLatin1_aae02 6 = .ok (.aload_n 0, 1) := by decide +kernel
theorem dJ0_isLatin1_aae02_7 : decode cJ0_isLatin1_aae02 7 = .ok (.getfield 15, 3) := by decide +kernel
theorem dJ0_isLatin1_aae02_10 : decode cJ0_isLatin1_aae02 10 = .ok (.ifCond .ne 7, 3) := by decide +kernel
theorem dJ0_isLatin1_aae02_13 : decode cJ0_isLatin1_aae02 13 = .ok (.iconst 1, 1) := by decide +kernel
theorem dJ0_isLatin1_aae02_14 : decode cJ0_isLatin1_aae02 14 = .ok (.goto 4, 3) := by decide +kernel
theorem dJ0_isLatin1_aae02_17 : decode cJ0_isLatin1_aae02 17 = .ok (.iconst 0, 1) := by decide +kernel
theorem dJ0_isLatin1_aae02_18 : decode cJ0_isLatin1_aae02 18 = .ok (.ireturn, 1) := by decide +kernel
theorem dJ0_checkIndex_df160_0 : decode cJ0_checkIndex_df160 0 = .ok (.iload_n 0, 1) := by decide +kernel
theorem dJ0_checkIndex_df160_1 : decode cJ0_checkIndex_df160 1 = .ok (.iload_n 1, 1) := by decide +kernel
theorem dJ0_checkIndex_df160_2 : decode cJ0_checkIndex_df160 2 = .ok (.getstatic 1053, 3) := by decide +kernel
theorem dJ0_checkIndex_df160_5 : decode cJ0_checkIndex_df160 5 = .ok (.invokestatic 1059, 3) := by decide +kernel
theorem dJ0_checkIndex_df160_8 : decode cJ0_checkIndex_df160 8 = .ok (.pop, 1) := by decide +kernel
theorem dJ0_checkIndex_df160_9 : decode cJ0_checkIndex_df160 9 = .ok (.return_, 1) := by decide +kernel
theorem dJ1_charAt_3b067_0 : decode cJ1_charAt_3b067 0 = .ok (.iload_n 1, 1) := by decide +kernel
theorem dJ1_charAt_3b067_1 : decode cJ1_charAt_3b067 1 = .ok (.aload_n 0, 1) := by decide +kernel
theorem dJ1_charAt_3b067_2 : decode cJ1_charAt_3b067 2 = .ok (.arraylength, 1) := by decide +kernel
theorem dJ1_charAt_3b067_3 : decode cJ1_charAt_3b067 3 = .ok (.invokestatic 9, 3) := by decide +kernel
theorem dJ1_charAt_3b067_6 : decode cJ1_charAt_3b067 6 = .ok (.aload_n 0, 1) := by decide +kernel
theorem dJ1_charAt_3b067_7 : decode cJ1_charAt_3b067 7 = .ok (.iload_n 1, 1) := by decide +kernel
theorem dJ1_charAt_3b067_8 : decode cJ1_charAt_3b067 8 = .ok (.baload, 1) := by decide +kernel
theorem dJ1_charAt_3b067_9 : decode cJ1_charAt_3b067 9 = .ok (.sipush 255, 3) := by decide +kernel
theorem dJ1_charAt_3b067_12 : decode cJ1_charAt_3b067 12 = .ok (.iand, 1) := by decide +kernel
theorem dJ1_charAt_3b067_13 : decode cJ1_charAt_3b067 13 = .ok (.i2c, 1) := by decide +kernel
theorem dJ1_charAt_3b067_14 : decode cJ1_charAt_3b067 14 = .ok (.ireturn, 1) := by decide +kernel
theorem dJ3_checkIndex_8e157_0 : decode cJ3_checkIndex_8e157 0 = .ok (.iload_n 0, 1) := by decide +kernel
theorem dJ3_checkIndex_8e157_1 : decode cJ3_checkIndex_8e157 1 = .ok (.ifCond .lt 8, 3) := by decide +kernel
theorem dJ3_checkIndex_8e157_4 : decode cJ3_checkIndex_8e157 4 = .ok (.iload_n 0, 1) := by decide +kernel
theorem dJ3_checkIndex_8e157_5 : decode cJ3_checkIndex_8e157 5 = .ok (.iload_n 1, 1) := by decide +kernel
theorem dJ3_checkIndex_8e157_6 : decode cJ3_checkIndex_8e157 6 = .ok (.if_icmp .lt 10, 3) := by decide +kernel
theorem dJ3_checkIndex_8e157_9 : decode cJ3_checkIndex_8e157 9 = .ok (.aload_n 2, 1) := by decide +kernel
theorem dJ3_checkIndex_8e157_10 : decode cJ3_checkIndex_8e157 10 = .ok (.iload_n 0, 1) := by decide +kernel
theorem dJ3_checkIndex_8e157_11 : decode cJ3_checkIndex_8e157 11 = .ok (.iload_n 1, 1) := by decide +kernel
theorem dJ3_checkIndex_8e157_12 : decode cJ3_checkIndex_8e157 12 = .ok (.invokestatic 95, 3) := by decide +kernel
theorem dJ3_checkIndex_8e157_15 : decode cJ3_checkIndex_8e157 15 = .ok (.athrow, 1) := by decide +kernel
theorem dJ3_checkIndex_8e157_16 : decode cJ3_checkIndex_8e157 16 = .ok (.iload_n 0, 1) := by decide +kernel
theorem dJ3_checkIndex_8e157_17 : decode cJ3_checkIndex_8e157 17 = .ok (.ireturn, 1) := by decide +kernel
theorem gj_coder : gz_in (.methodLink "java/lang/String" 335 yJ0_coder_7d493) := gz_t4 47 (by decide +kernel) rfl
theorem gj_cs : gz_in (.fieldLink "java/lang/String" 38 "java/lang/String" "COMPACT_STRINGS" "Z") := gz_t4 51 (by decide +kernel) rfl
theorem gj_isL : gz_in (.methodLink "java/lang/String" 492 yJ0_isLatin1_aae02) := gz_t4 57 (by decide +kernel) rfl
theorem gj_chL : gz_in (.methodLink "java/lang/String" 495 yJ1_charAt_3b067) := gz_t4 61 (by decide +kernel) rfl
theorem gj_ckS : gz_in (.methodLink "java/lang/StringLatin1" 9 yJ0_checkIndex_df160) := gz_t4 64 (by decide +kernel) rfl
theorem gj_sio : gz_in (.fieldLink "java/lang/String" 1053 "jdk/internal/util/Preconditions" "SIOOBE_FORMATTER" "Ljava/util/function/BiFunction;") := gz_t4 67 (by decide +kernel) rfl
theorem gj_ckP : gz_in (.methodLink "java/lang/String" 1059 yJ3_checkIndex_8e157) := gz_t4 69 (by decide +kernel) rfl
theorem gj_val : gz_in (.fieldLink "java/lang/String" 9 "java/lang/String" "value" "[B") := gz_t9 238 (by decide +kernel) rfl
theorem gj_cod : gz_in (.fieldLink "java/lang/String" 15 "java/lang/String" "coder" "B") := gz_t9 239 (by decide +kernel) rfl
theorem gj_lay1 : Cond.laysStatic "java/lang/String" "COMPACT_STRINGS" "Z" ∈ lw_tbl := gz_tm4 52 (by decide +kernel)
theorem gj_lay2 : Cond.laysStatic "jdk/internal/util/Preconditions" "SIOOBE_FORMATTER" "Ljava/util/function/BiFunction;" ∈ lw_tbl := gz_tm4 68 (by decide +kernel)
theorem gj_ini1 : gz_in (.initialized "java/lang/String") := gz_t1 14 (by decide +kernel) rfl
theorem gj_ini2 : gz_in (.initialized "jdk/internal/util/Preconditions") := gz_t1 16 (by decide +kernel) rfl
set_option maxRecDepth 100000 in
theorem gj_n2 : Cond.eq (.static "java/lang/String" "COMPACT_STRINGS" "Z") (.int 1) ∈ flatC narrow_1 := List.mem_of_getElem? (i := 2) (by decide +kernel)
set_option maxRecDepth 100000 in
theorem gj_n3 : Cond.isRef (.static "jdk/internal/util/Preconditions" "SIOOBE_FORMATTER" "Ljava/util/function/BiFunction;") ∈ flatC narrow_1 := List.mem_of_getElem? (i := 3) (by decide +kernel)
theorem gz_csZ {g : gzG} (hF : gzF g) : va_Z "java/lang/String" "COMPACT_STRINGS" "Z" (.int 1) (gzA g) g.2.1 g.2.1.heap := va_Zof (hF.1 _ gj_lay1) (hF.1 _ gj_ini1.1) (va_eqi (gz_narrow hF gj_n2)) gz_notA
theorem gz_sioZ {g : gzG} (hF : gzF g) : vx_Zq "jdk/internal/util/Preconditions" "SIOOBE_FORMATTER" "Ljava/util/function/BiFunction;" (gzA g) g.2.1 g.2.1.heap := vx_Zqof (hF.1 _ gj_lay2) (hF.1 _ gj_ini2.1) (gz_narrow hF gj_n3) gz_notA
theorem gz_str? {i : Nat} (hi : i < gzSn) : ∃ q, gzStrs[i]? = some q := ⟨_, List.getElem?_eq_getElem (by rw [gz_strn.1]; exact hi)⟩
section
variable {g : gzG} {zm d : Nat} {y : gzMe} {pc : Nat} {loc : List (Option gzV)} {st : List gzV} {z : Nat} {Q : gzO → gzS → Prop} {S : gzS}
theorem gz_getV {i index : Nat} (hd : decode y.2.1 pc = .ok (.getfield index, 3)) (hL : gz_in (.fieldLink y.1.cls index "java/lang/String" "value" "[B")) (hi : i < gzSn) (k : gzX g zm d y (pc + 3) loc (.inr (.inr (i, 63)) :: st) S z Q) : gzX g zm d y pc loc (.inr (.inr (i, 60)) :: st) S z Q := by
  intro S0 p e R s m args below meth c H locs ls C h1 h2 hW h4 hl
  refine gz_old C hW h4 (fun hk hS => ?_)
  obtain ⟨q, hq⟩ := gz_str? hi
  have f := (gz_strF (gz_cxF C) hq).2.2.1
  exact vk_getf (A := gzA g) C.1 C.2.1 (va_OF.moved (gz_cxW C).alike (f.kept hk)) hS C.2.2.2.2.1 (gz_cxw C hL.1 hL.2 args) (fun x h => h) hd (k S0 p e R s m args below meth c H locs ls C h1 h2 hW h4 hl)
theorem gz_getCo {i index : Nat} (hd : decode y.2.1 pc = .ok (.getfield index, 3)) (hL : gz_in (.fieldLink y.1.cls index "java/lang/String" "coder" "B")) (hi : i < gzSn) (k : gzX g zm d y (pc + 3) loc (.inl 0 :: st) S z Q) : gzX g zm d y pc loc (.inr (.inr (i, 60)) :: st) S z Q := by
  intro S0 p e R s m args below meth c H locs ls C h1 h2 hW h4 hl
  refine gz_old C hW h4 (fun hk hS => ?_)
  obtain ⟨q, hq⟩ := gz_str? hi
  have f := (gz_strF (gz_cxF C) hq).2.1
  exact vk_getf (A := gzA g) C.1 C.2.1 (va_OF.moved (gz_cxW C).alike (f.kept hk)) hS C.2.2.2.2.1 (gz_cxw C hL.1 hL.2 args) (fun x h => h) hd (k S0 p e R s m args below meth c H locs ls C h1 h2 hW h4 hl)
theorem gz_alenS {i : Nat} {v : Int32} (hd : decode y.2.1 pc = .ok (.arraylength, 1)) (hi : i < gzSn) (hv : Int32.ofNat (gzSb i).length = v) (k : gzX g zm d y (pc + 1) loc (.inl v :: st) S z Q) : gzX g zm d y pc loc (.inr (.inr (i, 63)) :: st) S z Q := by
  intro S0 p e R s m args below meth c H locs ls C h1 h2 hW h4 hl
  refine gz_old C hW h4 (fun hk hS => ?_)
  obtain ⟨q, hq⟩ := gz_str? hi
  have f := (gz_strF (gz_cxF C) hq).2.2.2
  exact va_tlen (A := gzA g) C.1 C.2.1 (va_T.moved (gz_cxW C).alike (f.kept hk)) hS hv hd (k S0 p e R s m args below meth c H locs ls C h1 h2 hW h4 hl)
theorem gz_baldS {i : Nat} {n : Int32} (hd : decode y.2.1 pc = .ok (.baload, 1)) (hi : i < gzSn) (hn : vp_in n (gzSb i).length) (k : gzX g zm d y (pc + 1) loc (.inl ((gzSb i).getD n.toNatClampNeg 0) :: st) S z Q) : gzX g zm d y pc loc (.inl n :: .inr (.inr (i, 63)) :: st) S z Q := by
  intro S0 p e R s m args below meth c H locs ls C h1 h2 hW h4 hl
  refine gz_old C hW h4 (fun hk hS => ?_)
  obtain ⟨q, hq⟩ := gz_str? hi
  have f := (gz_strF (gz_cxF C) hq).2.2.2
  exact va_tb (A := gzA g) C.1 C.2.1 (va_T.moved (gz_cxW C).alike (f.kept hk)) hS hn rfl hd (k S0 p e R s m args below meth c H locs ls C h1 h2 hW h4 hl)
theorem gz_getCs {index : Nat} (hd : decode y.2.1 pc = .ok (.getstatic index, 3)) (hL : gz_in (.fieldLink y.1.cls index "java/lang/String" "COMPACT_STRINGS" "Z")) (k : gzX g zm d y (pc + 3) loc (.inl 1 :: st) S z Q) : gzX g zm d y pc loc st S z Q := by
  intro S0 p e R s m args below meth c H locs ls C h1 h2 hW h4 hl
  refine gz_old C hW h4 (fun hk hS => ?_)
  exact va_gets (A := gzA g) C.1 C.2.1 (va_Z.moved (gz_cxW C).alike ((gz_csZ (gz_cxF C)).kept hk)) hS C.2.2.2.2.1 (gz_cxw C hL.1 hL.2 args) (fun x h => h) hd (k S0 p e R s m args below meth c H locs ls C h1 h2 hW h4 hl)
theorem gz_nret {a : Int32} {ty : FieldType} (hd : decode y.2.1 pc = .ok (.ireturn, 1)) (hr : y.2.2.2 = some ty) (hn : narrow ty (.int a) = .int a) (hQ : Q (.ok (some (.inl a))) S) : gzX g zm d y pc loc [.inl a] S z Q := fun S0 p e R s m args below meth c H locs ls C h1 h2 hW h4 hl =>
  gz_wmono (W.zret (v := a) (Qc := fun _ _ o t => o = .returned (some (.int a)) ∧ t.heap = H) (free := fun q => gz_b g ≤ q) C.1 C.2.1 (C.2.2.1.trans hr) hn (fun t ht _ => ⟨rfl, ht⟩) h4 hd C.2.2.2.2.2.1) (gz_endOk (v := some (.inl a)) h1 h2 hW hQ)
theorem gz_i2c {a : Int32} (hd : decode y.2.1 pc = .ok (.i2c, 1)) (k : gzX g zm d y (pc + 1) loc (.inl (a.toUInt32 % 65536).toInt32 :: st) S z Q) : gzX g zm d y pc loc (.inl a :: st) S z Q := fun S0 p e R s m args below meth c H locs ls C h1 h2 hW h4 hl => lv_i2c C.1 C.2.1 hd rfl (k S0 p e R s m args below meth c H locs ls C h1 h2 hW h4 hl)
/-- a virtual call on a string constant -/
theorem gz_VS {zc : Nat} {zy : gzMe} {stk : List gzV} {i index : Nat} (av : List gzV) (hs : stk = av.reverse ++ .inr (.inr (i, 60)) :: st) (hd : decode y.2.1 pc = .ok (.invokevirtual index, 3)) (hL : gz_in (.methodLink y.1.cls index zy.1)) (hM : gzMv zy) (hA : gzAr zy av.length) (hi : i < gzSn) (hr : zy.1.cls = "java/lang/String") (hz0 : z = 0 ∨ S.1 = gzN) (hzc : z ≤ zm → z + zc ≤ zm) (hst : (st.map fun v => (gz_v g v).category).sum ≤ 8)
    (k : gzC g zc d zy (.inr (.inr (i, 60)) :: av) S (gzK g zm (d + 1) y (pc + 3) loc st (z + zc) Q)) : gzX g zm (d + 1) y pc loc stk S z Q := by
  intro S0 p e R s m args below meth c H locs ls C h1 h2 hW h4 hl
  refine gz_old C hW h4 (fun hk hS => ?_)
  obtain ⟨q, hq⟩ := gz_str? hi
  obtain ⟨cell, q1, q2, q3, -⟩ := (va_O.moved (gz_cxW C).alike ((gz_strF (gz_cxF C) hq).1.kept hk)).kept hS.2.1
  exact gz_call k hz0 C h1 (hzc h2) hW h4 hl hM.2.2.2.2.2 hd hst hM.2.2.1.1 hM.2.2.1.2 hM.2.2.2.1.1 hM.2.2.2.1.2
    (gz_invV (argsL := av.map (gz_v g)) C.1 C.2.2.2.2.1 (gz_cxw C hL.1 hL.2 args) (gz_cxw C hM.1.1 hM.1.2 args) (gz_cxw C hM.2.1.1 hM.2.1.2 args) (gz_cxw C hM.2.2.1.1 hM.2.2.1.2 args) hM.2.2.2.2.1 q1 q2 (by rw [hr]; exact q3) rfl (fun sig h => by rw [List.length_map]; exact hA.use sig h) (gz_map1 hs) (by rw [C.2.1]; exact hd))
/-- Preconditions.checkIndex, whatever its third argument is -/
theorem c_J3_ck {a b : Int32} {v : Value} (hv : v = .null ∨ ∃ t, v = .ref t) (h0 : ¬ a < 0) (h1 : a < b) : gzCr g 0 d mJ3_checkIndex_8e157 #[.int a, .int b, v] S (gzE (.ok (some (.inl a))) S) := by
  have key : (lg_sl [.int a, .int b, v]).length ≤ 3 := by
    rcases hv with rfl | ⟨t, rfl⟩
    · exact Nat.le_of_ble_eq_true rfl
    · exact Nat.le_of_ble_eq_true rfl
  refine gzCr_of (vs := [.int a, .int b, v]) (by decide +kernel) key (loc := [some (.inl a), some (.inl b), none]) (fun q hq => ?_) ?_
  · have hq' : q ∈ [(0, Value.int a), (1, Value.int b)] := hq
    have e : lv_args 0 [.int a, .int b, v] = [(0, Value.int a), (1, Value.int b), (2, v)] := by
      rcases hv with rfl | ⟨t, rfl⟩ <;> rfl
    rw [e]
    simp only [List.mem_cons, List.not_mem_nil, or_false] at hq' ⊢
    rcases hq' with h | h
    · exact Or.inl h
    · exact Or.inr (Or.inl h)
  refine gz_iload_n (pc := 0) dJ3_checkIndex_8e157_0 rfl ?_
  refine gz_if_lt (pc := 1) (tgt := 9) dJ3_checkIndex_8e157_1 (by decide) (fun c => absurd c h0) (fun _ => ?_)
  refine gz_iload_n (pc := 4) dJ3_checkIndex_8e157_4 rfl ?_
  refine gz_iload_n (pc := 5) dJ3_checkIndex_8e157_5 rfl ?_
  refine gz_ic_lt (pc := 6) (tgt := 16) dJ3_checkIndex_8e157_6 (by decide) (fun _ => ?_) (fun c => absurd h1 c)
  refine gz_iload_n (pc := 16) dJ3_checkIndex_8e157_16 rfl ?_
  exact gz_iret (pc := 17) dJ3_checkIndex_8e157_17 rfl ⟨rfl, rfl⟩
theorem c_J0_ck {a b : Int32} (h0 : ¬ a < 0) (hb : a < b) : gzC g 0 (d + 1) mJ0_checkIndex_df160 [.inl a, .inl b] S (gzE (.ok none) S) := by
  refine gzC_of (by decide +kernel) (Nat.le_of_ble_eq_true rfl) (loc := [some (.inl a), some (.inl b)]) rfl ?_
  refine gz_iload_n (pc := 0) dJ0_checkIndex_df160_0 rfl ?_
  refine gz_iload_n (pc := 1) dJ0_checkIndex_df160_1 rfl ?_
  intro S0 p e R s m args below meth c H locs ls C h1 h2 hW h4 hl
  refine gz_old C hW h4 (fun hk hS => ?_)
  have Z : va_Zq "jdk/internal/util/Preconditions" "SIOOBE_FORMATTER" "Ljava/util/function/BiFunction;" (gzA g) s s.heap := (vx_Zq.moved (gz_cxW C).alike ((gz_sioZ (gz_cxF C)).kept hk)).1
  have main : ∀ v : Value, (v = .null ∨ ∃ t, v = .ref t) → va_Z "jdk/internal/util/Preconditions" "SIOOBE_FORMATTER" "Ljava/util/function/BiFunction;" v (gzA g) s s.heap →
      W p g.1 e R s m args below meth c H locs (S.1 - S0.1 + 0) (gzU S.1 - gzU S0.1 + 6 * 0) (gzMQ g 0 S0 (gzE (.ok none) S) below s) (F0 m 2 ls [.int b, .int a]) := by
    intro v hv hZ
    refine va_gets (A := gzA g) (pc := 2) C.1 C.2.1 hZ hS C.2.2.2.2.1 (gz_cxw C gj_sio.1 gj_sio.2 args) (fun x h => h) dJ0_checkIndex_df160_2 ?_
    refine gz_callR (a0 := #[.int a, .int b, v]) (zy := mJ3_checkIndex_8e157) (zc := 0) (pc := 5) (st := []) (loc := [some (.inl a), some (.inl b)]) (gzCr.mono (c_J3_ck hv h0 hb) ?_) (Or.inl rfl) C h1 h2 hW h4 hl MsJ3_checkIndex_8e157.2.2.2.2 dJ0_checkIndex_df160_5 (by exact Nat.le_of_ble_eq_true rfl) MsJ3_checkIndex_8e157.2.1.1 MsJ3_checkIndex_8e157.2.1.2 MsJ3_checkIndex_8e157.2.2.1.1 MsJ3_checkIndex_8e157.2.2.1.2
      (gz_invS (argsL := [.int a, .int b, v]) C.1 C.2.2.2.2.1 (gz_cxw C gj_ckP.1 gj_ckP.2 args) (gz_cxw C MsJ3_checkIndex_8e157.1.1 MsJ3_checkIndex_8e157.1.2 args) (gz_cxw C MsJ3_checkIndex_8e157.2.2.1.1 MsJ3_checkIndex_8e157.2.2.1.2 args) (gz_cxw C MsJ3_checkIndex_8e157.2.1.1 MsJ3_checkIndex_8e157.2.1.2 args) MsJ3_checkIndex_8e157.2.2.2.1 rfl (fun sig h => (show gzAr mJ3_checkIndex_8e157 3 from rfl).use sig h) rfl (by rw [C.2.1]; exact dJ0_checkIndex_df160_5))
    intro o9 S9 h9
    rw [h9.1, h9.2]
    show gzX g 0 (d + 1) mJ0_checkIndex_df160 8 [some (.inl a), some (.inl b)] [.inl a] S 0 (gzE (.ok none) S)
    refine gz_popI (pc := 8) dJ0_checkIndex_df160_8 ?_
    exact gz_vret (pc := 9) dJ0_checkIndex_df160_9 rfl ⟨rfl, rfl⟩
  rcases Z with hZ | ⟨t, hZ⟩
  · exact main _ (Or.inl rfl) hZ
  · exact main _ (Or.inr ⟨t, rfl⟩) hZ
theorem gz_vin {n : Int32} {N : Nat} (hN : N < 2 ^ 31) (h : vp_in n N) : ¬ n < 0 ∧ n < Int32.ofNat N := by
  have h0 : ¬ n < 0 := fun q => h (Or.inl q)
  have h1 : n.toNatClampNeg < N := Nat.not_le.mp fun q => h (Or.inr q)
  refine ⟨h0, ?_⟩
  rw [Int32.lt_iff_toInt_lt, Int32.toInt_ofNat_of_lt hN]
  have h2 : (0 : Int32) ≤ n := Int32.not_lt.mp h0
  have h3 := Int32.le_iff_toInt_le.mp h2
  have h4 : (0 : Int32).toInt = 0 := rfl
  have h5 : n.toNatClampNeg = n.toInt.toNat := rfl
  omega
set_option maxRecDepth 100000 in
theorem gz_sbnar : ∀ i, i < gzSn → ∀ k, k < (gzSb i).length → (((gzSb i).getD k 0 &&& 255).toUInt32 % 65536).toInt32 = (gzSb i).getD k 0 ∧ ((gzSb i).getD k 0).toUInt32.toUInt16.toUInt32.toInt32 = (gzSb i).getD k 0 := by decide +kernel
theorem gz_narC {x : Int32} (h : x.toUInt32.toUInt16.toUInt32.toInt32 = x) : narrow .char (.int x) = .int x := by
  show Value.int _ = _
  rw [h]
theorem c_J1_charAt {i : Nat} {n : Int32} (hi : i < gzSn) (hn : vp_in n (gzSb i).length) : gzC g 0 (d + 2) mJ1_charAt_3b067 [.inr (.inr (i, 63)), .inl n] S (gzE (.ok (some (.inl ((gzSb i).getD n.toNatClampNeg 0)))) S) := by
  have hv := gz_vin (gz_sblen i hi) hn
  have hk : n.toNatClampNeg < (gzSb i).length := Nat.not_le.mp fun q => hn (Or.inr q)
  refine gzC_of (by decide +kernel) (Nat.le_of_ble_eq_true rfl) (loc := [some (.inr (.inr (i, 63))), some (.inl n)]) rfl ?_
  refine gz_iload_n (pc := 0) dJ1_charAt_3b067_0 rfl ?_
  refine gz_aload_n (pc := 1) dJ1_charAt_3b067_1 rfl ?_
  refine gz_alenS (pc := 2) dJ1_charAt_3b067_2 hi rfl ?_
  refine gz_S (zy := mJ0_checkIndex_df160) (zc := 0) (pc := 3) [.inl n, .inl (Int32.ofNat (gzSb i).length)] rfl dJ1_charAt_3b067_3 gj_ckS MsJ0_checkIndex_df160 rfl (Or.inl rfl) (fun h => h) (by exact Nat.le_of_ble_eq_true rfl) ?_
  refine gz_useV (c_J0_ck hv.1 hv.2) ?_
  refine gz_aload_n (pc := 6) dJ1_charAt_3b067_6 rfl ?_
  refine gz_iload_n (pc := 7) dJ1_charAt_3b067_7 rfl ?_
  refine gz_baldS (pc := 8) dJ1_charAt_3b067_8 hi hn ?_
  refine gz_sipush (pc := 9) dJ1_charAt_3b067_9 (v := 255) (by decide) ?_
  refine gz_iand (pc := 12) dJ1_charAt_3b067_12 ?_
  refine gz_i2c (pc := 13) dJ1_charAt_3b067_13 ?_
  rw [(gz_sbnar i hi _ hk).1]
  exact gz_nret (pc := 14) dJ1_charAt_3b067_14 rfl (gz_narC (gz_sbnar i hi _ hk).2) ⟨rfl, rfl⟩
theorem c_J0_coder {i : Nat} (hi : i < gzSn) : gzC g 0 d mJ0_coder_7d493 [.inr (.inr (i, 60))] S (gzE (.ok (some (.inl 0))) S) := by
  refine gzC_of (by decide +kernel) (Nat.le_of_ble_eq_true rfl) (loc := [some (.inr (.inr (i, 60)))]) rfl ?_
  refine gz_getCs (pc := 0) dJ0_coder_7d493_0 gj_cs ?_
  refine gz_if_eq (pc := 3) (tgt := 13) dJ0_coder_7d493_3 (by decide) (fun c => absurd c (by decide)) (fun _ => ?_)
  refine gz_aload_n (pc := 6) dJ0_coder_7d493_6 rfl ?_
  refine gz_getCo (pc := 7) dJ0_coder_7d493_7 gj_cod hi ?_
  refine gz_goto (pc := 10) (tgt := 14) dJ0_coder_7d493_10 (by decide) ?_
  exact gz_nret (pc := 14) dJ0_coder_7d493_14 rfl rfl ⟨rfl, rfl⟩
theorem c_J0_isLatin1 {i : Nat} (hi : i < gzSn) : gzC g 0 d mJ0_isLatin1_aae02 [.inr (.inr (i, 60))] S (gzE (.ok (some (.inl 1))) S) := by
  refine gzC_of (by decide +kernel) (Nat.le_of_ble_eq_true rfl) (loc := [some (.inr (.inr (i, 60)))]) rfl ?_
  refine gz_getCs (pc := 0) dJ0_isLatin1_aae02_0 gj_cs ?_
  refine gz_if_eq (pc := 3) (tgt := 17) dJ0_isLatin1_aae02_3 (by decide) (fun c => absurd c (by decide)) (fun _ => ?_)
  refine gz_aload_n (pc := 6) dJ0_isLatin1_aae02_6 rfl ?_
  refine gz_getCo (pc := 7) dJ0_isLatin1_aae02_7 gj_cod hi ?_
  refine gz_if_ne (pc := 10) (tgt := 17) dJ0_isLatin1_aae02_10 (by decide) (fun c => absurd rfl c) (fun _ => ?_)
  refine gz_iconst (pc := 13) dJ0_isLatin1_aae02_13 (v := 1) (by decide) ?_
  refine gz_goto (pc := 14) (tgt := 18) dJ0_isLatin1_aae02_14 (by decide) ?_
  exact gz_zret (pc := 18) dJ0_isLatin1_aae02_18 rfl (Or.inr rfl) ⟨rfl, rfl⟩
theorem c_J0_charAt {i : Nat} {n : Int32} (hi : i < gzSn) (hn : vp_in n (gzSb i).length) : gzC g 0 (d + 3) mJ0_charAt_5068e [.inr (.inr (i, 60)), .inl n] S (gzE (.ok (some (.inl ((gzSb i).getD n.toNatClampNeg 0)))) S) := by
  have hk : n.toNatClampNeg < (gzSb i).length := Nat.not_le.mp fun q => hn (Or.inr q)
  refine gzC_of (by decide +kernel) (Nat.le_of_ble_eq_true rfl) (loc := [some (.inr (.inr (i, 60))), some (.inl n)]) rfl ?_
  refine gz_aload_n (pc := 0) dJ0_charAt_5068e_0 rfl ?_
  refine gz_VS (zy := mJ0_isLatin1_aae02) (zc := 0) (pc := 1) [] rfl dJ0_charAt_5068e_1 gj_isL MvJ0_isLatin1_aae02 rfl hi rfl (Or.inl rfl) (fun h => h) (by exact Nat.le_of_ble_eq_true rfl) ?_
  refine gz_useI (c_J0_isLatin1 hi) ?_
  refine gz_if_eq (pc := 4) (tgt := 16) dJ0_charAt_5068e_4 (by decide) (fun c => absurd c (by decide)) (fun _ => ?_)
  refine gz_aload_n (pc := 7) dJ0_charAt_5068e_7 rfl ?_
  refine gz_getV (pc := 8) dJ0_charAt_5068e_8 gj_val hi ?_
  refine gz_iload_n (pc := 11) dJ0_charAt_5068e_11 rfl ?_
  refine gz_S (zy := mJ1_charAt_3b067) (zc := 0) (pc := 12) [.inr (.inr (i, 63)), .inl n] rfl dJ0_charAt_5068e_12 gj_chL MsJ1_charAt_3b067 rfl (Or.inl rfl) (fun h => h) (by exact Nat.le_of_ble_eq_true rfl) ?_
  refine gz_useI (c_J1_charAt hi hn) ?_
  exact gz_nret (pc := 15) dJ0_charAt_5068e_15 rfl (gz_narC (gz_sbnar i hi _ hk).2) ⟨rfl, rfl⟩
theorem c_J0_length {i : Nat} (hi : i < gzSn) : gzC g 0 (d + 1) mJ0_length_8abf5 [.inr (.inr (i, 60))] S (gzE (.ok (some (.inl (Int32.ofNat (gzSb i).length)))) S) := by
  refine gzC_of (by decide +kernel) (Nat.le_of_ble_eq_true rfl) (loc := [some (.inr (.inr (i, 60)))]) rfl ?_
  refine gz_aload_n (pc := 0) dJ0_length_8abf5_0 rfl ?_
  refine gz_getV (pc := 1) dJ0_length_8abf5_1 gj_val hi ?_
  refine gz_alenS (pc := 4) dJ0_length_8abf5_4 hi rfl ?_
  refine gz_aload_n (pc := 5) dJ0_length_8abf5_5 rfl ?_
  refine gz_VS (zy := mJ0_coder_7d493) (zc := 0) (pc := 6) [] rfl dJ0_length_8abf5_6 gj_coder MvJ0_coder_7d493 rfl hi rfl (Or.inl rfl) (fun h => h) (by exact Nat.le_of_ble_eq_true rfl) ?_
  refine gz_useI (c_J0_coder hi) ?_
  refine gz_ishr (pc := 9) dJ0_length_8abf5_9 ?_
  have e : ∀ x : Int32, x >>> ((0 : Int32) &&& 31) = x := fun x => by
    rw [show ((0 : Int32) &&& 31) = 0 from rfl]; simp
  rw [e]
  exact gz_iret (pc := 10) dJ0_length_8abf5_10 rfl ⟨rfl, rfl⟩
end
