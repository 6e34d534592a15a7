/-! calls: gz_back follows vx_back (kit/laws/EXCEPTIONS), with what a call makes told by its end -/
section
variable {g : gzG} {zc d : Nat} {zy : gzMe} {as : List gzV} {S : gzS} {Q1 : gzO → gzS → Prop} {p : Program} {e : Env} {R : Room} {s : State} {m : MethodId} {args : Array Value} {below : List Frame} {meth : Method} {c : Code}
theorem gz_back {U : State} {Ls : List Loc} {c0 s0 : Nat} {fr : JFrame} {ig : Instr} {len : Nat} {mk : MethodId} (hM : gzC g zc d zy as S Q1)
    (X : Stand p g.1 e R s m args below meth c U Ls c0 s0) (hg : fr.method = m) (hsize : fr.locals.size = c.maxLocals) (hdg : decode c.code fr.pc = .ok (ig, len)) (hW9 : 2 * fr.monitorRoom + (fr.stack.map fun v => v.category).sum ≤ 8) (hn : U.methodNamed? zy.1 = some mk)
    (h2 : (Cond.code zy.1 zy.2.1 zy.2.2.1 zy.2.2.2).before (as.map (gz_v g)).toArray U = true) (h3 : (Cond.initialized zy.1.cls).before (as.map (gz_v g)).toArray U = true)
    (hframes : d + 8 + 1 ≤ R.frames) (hlocals : 8 + (zy.2.2.1 + 11) + (d + 2) * 64 ≤ R.locals) (h4 : c0 + (gzN - S.1 + zc + 1) ≤ R.cells) (h5 : s0 + (gzM - gzU S.1 + 6 * zc + 6) ≤ R.slots) (hPc0 : gzPc g as S (as.map (gz_v g)).toArray U) :
    (∃ (v : Option gzV) (S' : gzS) (L : List Loc) (z : Nat) (U' : State), Stand p g.1 e R s m args below meth c U' (Ls ++ L) (c0 + (S'.1 - S.1 + z)) (s0 + (gzU S'.1 - gzU S.1 + 6 * z)) ∧ Q1 (.ok v) S' ∧ S.1 ≤ S'.1 ∧ z ≤ zc ∧ gzWd g S' U'.heap ∧ (∀ q ∈ L, gz_b g ≤ q.base) ∧
      Steps p.tables e below (doInvoke e (U.setTop fr) [] mk (as.map (gz_v g)).toArray).1 (U'.setTop { fr with pc := fr.pc + len, stack := (v.map (gz_v g)).toList ++ fr.stack })) ∨
    (∃ (E : String) (q : Addr) (ce : Cell) (S' : gzS) (L : List Loc) (z : Nat) (U' : State), Stand p g.1 e R s m args below meth c U' (Ls ++ L) (c0 + (S'.1 - S.1 + z + 1)) (s0 + (gzU S'.1 - gzU S.1 + 6 * z + 6)) ∧ Q1 (.error E) S' ∧ S.1 ≤ S'.1 ∧ z ≤ zc ∧ gzWd g S' U'.heap ∧ (∀ q ∈ L, gz_b g ≤ q.base) ∧
      U'.heap[q]? = some ce ∧ ce.vm = .none ∧ U.vm.findClass E = some ce.cls ∧
      Steps p.tables e below (doInvoke e (U.setTop fr) [] mk (as.map (gz_v g)).toArray).1 ((U'.setTop fr).pushFrame (.throwing q))) := by
  obtain ⟨a, ha⟩ : ∃ z, z = (as.map (gz_v g)).toArray := ⟨_, rfl⟩
  rw [← ha] at h2 h3 hPc0 ⊢
  have h1 : (headSpec [Cond.code zy.1 zy.2.1 zy.2.2.1 zy.2.2.2] (gzRoom zc d S)).pre.before a U = true := atoms_intro fun w hw => by
    rw [List.mem_singleton.mp hw]
    exact h2
  have hPc : gzPc g as S a (U.calling fr mk a) := hPc0
  obtain ⟨methY, cY, hmY, hcY, -, hlY, -, -, -, -⟩ := Cond.code_spec hn h2
  obtain ⟨kY, hkY, -⟩ := className_of_methodNamed hn
  have hinitY : kY.init = .initialized := Cond.initialized_spec (findClass_of_methodNamed hn) hkY h3
  have h : At U fr.method c below := by rw [hg]; exact X.here
  have hlocals9 : 8 + (zy.2.2.1 + 11) + (headSpec [Cond.code zy.1 zy.2.1 zy.2.2.1 zy.2.2.2] (gzRoom zc d S)).room.locals ≤ R.locals := hlocals
  have happ : (headSpec [Cond.code zy.1 zy.2.1 zy.2.2.1 zy.2.2.2] (gzRoom zc d S)).appliesLoose zy.1 e.platform (U.calling fr mk a) = true :=
    Spec.appliesLoose_calling (g := fr) h hdg hn hkY hinitY
      (X.room_calling (g := fr) (R' := (headSpec [Cond.code zy.1 zy.2.1 zy.2.2.1 zy.2.2.2] (gzRoom zc d S)).room) hsize hmY hcY hframes (by rw [hlY]; omega) h4 h5) h1
  obtain ⟨mid, hmid⟩ := h.above
  have hfr : (U.setTop fr).frames = (.java fr :: mid) ++ below := by rw [State.frames_setTop' fr h.top, hmid]; rfl
  obtain ⟨o, s₂, hsteps, -, hend, hq⟩ := Steps.callFree hM p X.admits X.cas X.clock (acts := []) hfr happ hPc trivial
  have hq' : gzPost g zc S Q1 (U.calling fr mk a) o s₂ := hq
  rw [State.frames_setTop' fr h.top] at hend
  obtain ⟨g₀, hg0⟩ := Option.isSome_iff_exists.mp h.top
  obtain ⟨r, hr⟩ := State.topJava?_eq_some.mp hg0
  have hr' : (({ U with heap := s₂.heap, slotsUsed := s₂.slotsUsed } : State).setVm s₂.vm).frames = .java g₀ :: r := hr
  obtain ⟨S', L, z, hS', hz, hWd, hL, hq'⟩ := hq'
  rcases hq' with ⟨v, hqv, rfl, hfe⟩ | ⟨E, q, ce, hqE, rfl, hce, hcv, hcl, hW₂, hsm⟩
  · obtain ⟨-, hW₂, e2, q2, q3, q4, q5, q6⟩ := id hfe
    have e3 : s₂ = ({ (U.calling fr mk a).setFrames s₂.frames with heap := s₂.heap, slotsUsed := s₂.slotsUsed } : State).setVm s₂.vm := by
      have : s₂ = ({ s₂ with vm := (U.calling fr mk a).vm } : State).setVm s₂.vm := rfl
      rw [e2] at this
      exact this
    obtain ⟨c₂, i₂, len₂, hc₂, hd₂, hf₂⟩ := hend
    have hW' : U.WarmedH s₂.vm := hW₂
    have hcc : c₂ = c := by
      have h1 : s₂.code? fr.method = U.code? fr.method := by
        rw [State.code?_eq, State.code?_eq, hW'.alike.method?]
      exact Option.some.inj (hc₂.symm.trans (h1.trans h.code))
    subst hcc
    have hlen : len₂ = len := by rw [hdg] at hd₂; cases hd₂; rfl
    subst hlen
    have hs₂ : s₂ = (({ U with heap := s₂.heap, slotsUsed := s₂.slotsUsed } : State).setVm s₂.vm).setTop { fr with pc := fr.pc + len₂, stack := (v.map (gz_v g)).toList ++ fr.stack } := by
      refine e3.trans ?_
      rw [hf₂, State.calling_eq h.top, State.setFrames_setFrames, State.setTop_of_frames _ hr', hr]
      rfl
    have hsame : U.sameButNew ({ U with heap := s₂.heap, slotsUsed := s₂.slotsUsed } : State) L (S'.1 - S.1 + z) (gzU S'.1 - gzU S.1 + 6 * z) := by
      refine ⟨?_, q2, q3, q4, q5, q6⟩
      obtain ⟨t, ht, -⟩ := State.frames_cons hr
      show ({ U with heap := s₂.heap, slotsUsed := s₂.slotsUsed } : State) = { U.setFrames U.frames with heap := s₂.heap, slotsUsed := s₂.slotsUsed }
      rw [State.setFrames_self ht]
    subst hg
    refine Or.inl ⟨v, S', L, z, (({ U with heap := s₂.heap, slotsUsed := s₂.slotsUsed } : State).setVm s₂.vm),
      ⟨X.admits, X.cas, X.clock, X.frames, X.room, X.hears, X.method, X.code, (X.here.setHeapUsed s₂.heap s₂.slotsUsed).setVm hW'.alike, X.tail, State.WarmedH.trans X.warmed hW', X.limits, X.bytes, X.same.trans (hsame.setVm s.vm)⟩,
      hqv, hS', hz, hWd, hL, ?_⟩
    rw [← hs₂]
    exact hsteps
  · obtain ⟨e2, q2, q3, q4, q5, q6⟩ := id hsm
    have e3 : s₂ = ({ (U.calling fr mk a).setFrames s₂.frames with heap := s₂.heap, slotsUsed := s₂.slotsUsed } : State).setVm s₂.vm := by
      have : s₂ = ({ s₂ with vm := (U.calling fr mk a).vm } : State).setVm s₂.vm := rfl
      rw [e2] at this
      exact this
    have hf₂ : s₂.frames = .throwing q :: .java fr :: U.frames.tail := hend
    have hW' : U.WarmedH s₂.vm := hW₂
    have hs₂ : s₂ = ((({ U with heap := s₂.heap, slotsUsed := s₂.slotsUsed } : State).setVm s₂.vm).setTop fr).pushFrame (.throwing q) := by
      refine e3.trans ?_
      rw [hf₂, State.calling_eq h.top, State.setFrames_setFrames, State.pushFrame, State.frames_setTop _ hr', State.setTop_of_frames _ hr', State.setFrames_setFrames, hr]
      rfl
    have hsame : U.sameButNew ({ U with heap := s₂.heap, slotsUsed := s₂.slotsUsed } : State) L (S'.1 - S.1 + z + 1) (gzU S'.1 - gzU S.1 + 6 * z + 6) := by
      refine ⟨?_, q2, q3, q4, q5, q6⟩
      obtain ⟨t, ht, -⟩ := State.frames_cons hr
      show ({ U with heap := s₂.heap, slotsUsed := s₂.slotsUsed } : State) = { U.setFrames U.frames with heap := s₂.heap, slotsUsed := s₂.slotsUsed }
      rw [State.setFrames_self ht]
    subst hg
    refine Or.inr ⟨E, q, ce, S', L, z, (({ U with heap := s₂.heap, slotsUsed := s₂.slotsUsed } : State).setVm s₂.vm),
      ⟨X.admits, X.cas, X.clock, X.frames, X.room, X.hears, X.method, X.code, (X.here.setHeapUsed s₂.heap s₂.slotsUsed).setVm hW'.alike, X.tail, State.WarmedH.trans X.warmed hW', X.limits, X.bytes, X.same.trans (hsame.setVm s.vm)⟩,
      hqE, hS', hz, hWd, hL, hce, hcv, hcl, ?_⟩
    rw [← hs₂]
    exact hsteps
end
/-- an invoke instruction has come to the call of mk -/
def gz_Inv (p : Program) (l : Launch) (e : Env) (R : Room) (s : State) (m : MethodId) (args : Array Value) (below : List Frame) (meth : Method) (c : Code) (H : Heap) (locs : List Loc) (cells slots : Nat) (fr : JFrame) (rest : List Value) (y : MethodName) (a : Array Value) : Prop :=
  ∀ T : State, T.heap = H → Stand p l e R s m args below meth c T locs cells slots → ∃ (mk : MethodId) (vm₁ : Vm), (T.setVm vm₁).methodNamed? y = some mk ∧ Stand p l e R s m args below meth c (T.setVm vm₁) locs cells slots ∧
    ∀ target, Steps p.tables e below (doInvoke e ((T.setVm vm₁).setTop { fr with stack := rest }) [] mk a).1 target → Steps p.tables e below (T.setTop fr) target
section
variable {p : Program} {l : Launch} {e : Env} {R : Room} {s : State} {m : MethodId} {args : Array Value} {below : List Frame} {meth : Method} {c : Code} {H : Heap} {locs : List Loc} {cells slots : Nat} {fr : JFrame} {rest argsL : List Value} {y : MethodName} {bytes : ByteArray} {maxL : Nat} {ret : Option FieldType} {own : String} {index : Nat} {b : Addr}
theorem gz_invV (hexec : p.tables.exec = Jvm.exec) (hown : s.vm.findClass own = some m.cls) (hlink : (Cond.methodLink own index y).before args s = true) (hinst : (Cond.instanceMethod y).before args s = true) (hsel : (Cond.selects y.cls y y).before args s = true)
    (hcode : (Cond.code y bytes maxL ret).before args s = true) (hy : y.cls ≠ "java/lang/invoke/MethodHandle" ∧ y.cls ≠ "java/lang/invoke/VarHandle") {cellB : Cell} (hcell : H[b]? = some cellB) (hobj : cellB.vm.isStatics = false) (hcls : s.vm.findClass y.cls = some cellB.cls)
    (hg : fr.method = m) (hlen : ∀ sig, parseMethodDescriptor y.desc = some sig → argsL.length = sig.parameters.length) (hstack : fr.stack = argsL.reverse ++ .ref b :: rest) (hdg : decode c.code fr.pc = .ok (.invokevirtual index, 3)) :
    gz_Inv p l e R s m args below meth c H locs cells slots fr rest y (Value.ref b :: argsL).toArray := by
  intro T hT X
  obtain ⟨mk, methM, hnamed, hmethM, hstM, habM⟩ := Cond.instanceMethod_spec hinst
  obtain ⟨methM', cM, hmethM', -, -, -, -, -, -, hsigM⟩ := Cond.code_spec hnamed hcode
  cases hmethM.symm.trans hmethM'
  obtain ⟨c2, r2, m2, q1, q2, q3, q4, kP, hkP, hkPi⟩ := Cond.selects_spec hsel
  cases hcls.symm.trans q1
  cases (State.methodFound?_of_named hnamed hy).symm.trans q2
  cases hnamed.symm.trans q3
  have hselP : selectMethod e.platform s.vm cellB.cls mk = .method mk := by rw [Launch.admits_selectMethod X.admits]; exact q4
  obtain ⟨vm₁, X₁, hstep₁⟩ := X.invokevirtual hexec hown hlink hnamed hmethM hstM hkP hkPi hy (a := b) (cell := cellB) (by rw [hT]; exact hcell)
    (fun z h => by rw [h] at hobj; cases hobj) hselP hmethM habM hkP hkPi (g := fr) hg (argsL := argsL) (rest := rest) (hlen _ hsigM) hstack hdg
  exact ⟨mk, vm₁, X₁.named hnamed, X₁, fun target h => hstep₁ _ fun acts => by rw [doInvoke_state]; exact h⟩
theorem gz_invVN {host : String} (hexec : p.tables.exec = Jvm.exec) (hown : s.vm.findClass own = some m.cls) (hlink : (Cond.methodLinkNest own index y host).before args s = true) (hinst : (Cond.instanceMethod y).before args s = true) (hsel : (Cond.selects y.cls y y).before args s = true)
    (hcode : (Cond.code y bytes maxL ret).before args s = true) (hy : y.cls ≠ "java/lang/invoke/MethodHandle" ∧ y.cls ≠ "java/lang/invoke/VarHandle") {cellB : Cell} (hcell : H[b]? = some cellB) (hobj : cellB.vm.isStatics = false) (hcls : s.vm.findClass y.cls = some cellB.cls)
    (hg : fr.method = m) (hlen : ∀ sig, parseMethodDescriptor y.desc = some sig → argsL.length = sig.parameters.length) (hstack : fr.stack = argsL.reverse ++ .ref b :: rest) (hdg : decode c.code fr.pc = .ok (.invokevirtual index, 3)) :
    gz_Inv p l e R s m args below meth c H locs cells slots fr rest y (Value.ref b :: argsL).toArray := by
  intro T hT X
  obtain ⟨mk, methM, hnamed, hmethM, hstM, habM⟩ := Cond.instanceMethod_spec hinst
  obtain ⟨methM', cM, hmethM', -, -, -, -, -, -, hsigM⟩ := Cond.code_spec hnamed hcode
  cases hmethM.symm.trans hmethM'
  obtain ⟨c2, r2, m2, q1, q2, q3, q4, kP, hkP, hkPi⟩ := Cond.selects_spec hsel
  cases hcls.symm.trans q1
  cases (State.methodFound?_of_named hnamed hy).symm.trans q2
  cases hnamed.symm.trans q3
  have hselP : selectMethod e.platform s.vm cellB.cls mk = .method mk := by rw [Launch.admits_selectMethod X.admits]; exact q4
  obtain ⟨vm₁, X₁, hstep₁⟩ := X.invokevirtualNest hexec hown hlink hnamed hmethM hstM hkP hkPi hy (a := b) (cell := cellB) (by rw [hT]; exact hcell)
    (fun z h => by rw [h] at hobj; cases hobj) hselP hmethM habM hkP hkPi (g := fr) hg (argsL := argsL) (rest := rest) (hlen _ hsigM) hstack hdg
  exact ⟨mk, vm₁, X₁.named hnamed, X₁, fun target h => hstep₁ _ fun acts => by rw [doInvoke_state]; exact h⟩
theorem gz_invS (hexec : p.tables.exec = Jvm.exec) (hown : s.vm.findClass own = some m.cls) (hlink : (Cond.methodLink own index y).before args s = true) (hstat : (Cond.static y).before args s = true) (hinit : (Cond.initialized y.cls).before args s = true)
    (hcode : (Cond.code y bytes maxL ret).before args s = true) (hy : y.cls ≠ "java/lang/invoke/MethodHandle" ∧ y.cls ≠ "java/lang/invoke/VarHandle")
    (hg : fr.method = m) (hlen : ∀ sig, parseMethodDescriptor y.desc = some sig → argsL.length = sig.parameters.length) (hstack : fr.stack = argsL.reverse ++ rest) (hdg : decode c.code fr.pc = .ok (.invokestatic index, 3)) :
    gz_Inv p l e R s m args below meth c H locs cells slots fr rest y argsL.toArray := by
  intro T hT X
  obtain ⟨mk, hnamed⟩ := Cond.code_named hcode
  obtain ⟨methM, cM, hmethM, -, -, -, -, -, -, hsigM⟩ := Cond.code_spec hnamed hcode
  have hstatic : methM.isStatic = true := Cond.static_spec hnamed hmethM hstat
  obtain ⟨kP, hkP, -⟩ := className_of_methodNamed hnamed
  have hinitP : kP.init = .initialized := Cond.initialized_spec (findClass_of_methodNamed hnamed) hkP hinit
  obtain ⟨vm₁, X₁, hstep₁⟩ := X.invokestatic hexec hown hlink hnamed hmethM hstatic hkP hinitP hy (g := fr) hg (argsL := argsL) (rest := rest) (hlen _ hsigM) hstack hdg
  exact ⟨mk, vm₁, X₁.named hnamed, X₁, fun target h => hstep₁ _ fun acts => by rw [doInvoke_state]; exact h⟩
theorem gz_invSN {host : String} (hexec : p.tables.exec = Jvm.exec) (hown : s.vm.findClass own = some m.cls) (hlink : (Cond.methodLinkNest own index y host).before args s = true) (hstat : (Cond.static y).before args s = true) (hinit : (Cond.initialized y.cls).before args s = true)
    (hcode : (Cond.code y bytes maxL ret).before args s = true) (hy : y.cls ≠ "java/lang/invoke/MethodHandle" ∧ y.cls ≠ "java/lang/invoke/VarHandle")
    (hg : fr.method = m) (hlen : ∀ sig, parseMethodDescriptor y.desc = some sig → argsL.length = sig.parameters.length) (hstack : fr.stack = argsL.reverse ++ rest) (hdg : decode c.code fr.pc = .ok (.invokestatic index, 3)) :
    gz_Inv p l e R s m args below meth c H locs cells slots fr rest y argsL.toArray := by
  intro T hT X
  obtain ⟨mk, hnamed⟩ := Cond.code_named hcode
  obtain ⟨methM, cM, hmethM, -, -, -, -, -, -, hsigM⟩ := Cond.code_spec hnamed hcode
  have hstatic : methM.isStatic = true := Cond.static_spec hnamed hmethM hstat
  obtain ⟨kP, hkP, -⟩ := className_of_methodNamed hnamed
  have hinitP : kP.init = .initialized := Cond.initialized_spec (findClass_of_methodNamed hnamed) hkP hinit
  obtain ⟨vm₁, X₁, hstep₁⟩ := X.invokestaticNest hexec hown hlink hnamed hmethM hstatic hkP hinitP hy (g := fr) hg (argsL := argsL) (rest := rest) (hlen _ hsigM) hstack hdg
  exact ⟨mk, vm₁, X₁.named hnamed, X₁, fun target h => hstep₁ _ fun acts => by rw [doInvoke_state]; exact h⟩
theorem gz_invI (hexec : p.tables.exec = Jvm.exec) (hown : s.vm.findClass own = some m.cls) (hy1 : y.name = "<init>") (hlink : (Cond.methodLink own index y).before args s = true) (hinst : (Cond.instanceMethod y).before args s = true)
    (hcode : (Cond.code y bytes maxL none).before args s = true) (hy : y.cls ≠ "java/lang/invoke/MethodHandle" ∧ y.cls ≠ "java/lang/invoke/VarHandle")
    (hg : fr.method = m) (hlen : ∀ sig, parseMethodDescriptor y.desc = some sig → argsL.length = sig.parameters.length) (hstack : fr.stack = argsL.reverse ++ .ref b :: rest) (hdg : decode c.code fr.pc = .ok (.invokespecial index, 3)) :
    gz_Inv p l e R s m args below meth c H locs cells slots fr rest y (Value.ref b :: argsL).toArray := by
  intro T hT X
  subst hg
  have hpl : e.platform.magicAccessors = ({} : Platform).magicAccessors := by rw [X.admits.platform]
  obtain ⟨mk, methM, cM, kP, vm₁, hnamed, hmethM, hcodeM, -, hlocalsM, -, hkP, -, hW₁, hstep₁⟩ := Steps.initColdArgs (e := e) X.here hexec X.warmed hpl hown hy1 hy hlink hinst hcode (f := fr) rfl hlen hstack hdg
  have X₁ := X.noted hW₁
  exact ⟨mk, vm₁, X₁.named hnamed, X₁, fun target h => hstep₁ _ fun acts => by rw [doInvoke_state]; exact h⟩
theorem gz_invIN {host : String} (hexec : p.tables.exec = Jvm.exec) (hown : s.vm.findClass own = some m.cls) (hy1 : y.name = "<init>") (hlink : (Cond.methodLinkNest own index y host).before args s = true) (hinst : (Cond.instanceMethod y).before args s = true)
    (hcode : (Cond.code y bytes maxL none).before args s = true) (hy : y.cls ≠ "java/lang/invoke/MethodHandle" ∧ y.cls ≠ "java/lang/invoke/VarHandle")
    (hg : fr.method = m) (hlen : ∀ sig, parseMethodDescriptor y.desc = some sig → argsL.length = sig.parameters.length) (hstack : fr.stack = argsL.reverse ++ .ref b :: rest) (hdg : decode c.code fr.pc = .ok (.invokespecial index, 3)) :
    gz_Inv p l e R s m args below meth c H locs cells slots fr rest y (Value.ref b :: argsL).toArray := by
  intro T hT X
  subst hg
  have hpl : e.platform.magicAccessors = ({} : Platform).magicAccessors := by rw [X.admits.platform]
  obtain ⟨mk, methM, cM, kP, vm₁, hnamed, hmethM, hcodeM, -, hlocalsM, -, hkP, -, hW₁, hstep₁⟩ := Steps.initColdArgsNest (e := e) X.here hexec X.warmed hpl hown hy1 hy hlink hinst hcode (f := fr) rfl hlen hstack hdg
  have X₁ := X.noted hW₁
  exact ⟨mk, vm₁, X₁.named hnamed, X₁, fun target h => hstep₁ _ fun acts => by rw [doInvoke_state]; exact h⟩
end
/-- what goes on behind a call, in this method -/
def gzK (g : gzG) (zm d : Nat) (y : gzMe) (pc : Nat) (loc : List (Option gzV)) (st : List gzV) (z : Nat) (Q : gzO → gzS → Prop) : gzO → gzS → Prop := fun o S' => match o with
  | .ok v => gzX g zm d y pc loc (v.toList ++ st) S' z Q
  | .error E => Q (.error E) S'
section
variable {g : gzG} {zm zc d : Nat} {y zy : gzMe} {pc : Nat} {loc : List (Option gzV)} {st : List gzV} {z : Nat} {Q : gzO → gzS → Prop} {S : gzS}
theorem gz_wwide {p : Program} {l : Launch} {e : Env} {R : Room} {s : State} {m : MethodId} {args : Array Value} {below : List Frame} {meth : Method} {c : Code} {H : Heap} {locs : List Loc} {c1 s1 c2 s2 : Nat} {Q2 : State → Prop} {f : JFrame} (h : W p l e R s m args below meth c H locs c2 s2 Q2 f) (h1 : c1 ≤ c2) (h2 : s1 ≤ s2) : W p l e R s m args below meth c H locs c1 s1 Q2 f := W.widen h1 h2 h
/-- the call, once the instruction has come to it -/
theorem gz_call {as : List gzV} (hM : gzC g zc d zy as S (gzK g zm (d + 1) y (pc + 3) loc st (z + zc) Q))
    {S0 : gzS} {p : Program} {e : Env} {R : Room} {s : State} {m : MethodId} {args : Array Value} {below : List Frame} {meth : Method} {c : Code} {H : Heap} {locs : List Loc} {ls : Array Slot} {stk : List Value} {ig : Instr}
    (hz0 : z = 0 ∨ S.1 = gzN) (C : gzCx g zm (d + 1) y S0 p R s m meth c) (h1 : S0.1 ≤ S.1) (h2 : z + zc ≤ zm) (hW : gzWd g S H) (h4 : ∀ q ∈ locs, gz_b g ≤ q.base) (hl : lv_has ls y.2.2.1 (gz_pr g 0 loc)) (hzl : zy.2.2.1 ≤ 45) (hd : decode y.2.1 pc = .ok (ig, 3)) (hst : (st.map fun v => (gz_v g v).category).sum ≤ 8)
    (hw : Cond.code zy.1 zy.2.1 zy.2.2.1 zy.2.2.2 ∈ lw_tbl) (hg : goodWord (Cond.code zy.1 zy.2.1 zy.2.2.1 zy.2.2.2) = true) (hw2 : Cond.initialized zy.1.cls ∈ lw_tbl) (hg2 : goodWord (Cond.initialized zy.1.cls) = true)
    (inv : gz_Inv p g.1 e R s m args below meth c H locs (S.1 - S0.1 + z) (gzU S.1 - gzU S0.1 + 6 * z) (F0 m pc ls stk) (st.map (gz_v g)) zy.1 (as.map (gz_v g)).toArray) :
    W p g.1 e R s m args below meth c H locs (S.1 - S0.1 + z) (gzU S.1 - gzU S0.1 + 6 * z) (gzMQ g zm S0 Q below s) (F0 m pc ls stk) := by
  intro T hT X
  obtain ⟨mk, vm₁, hnamed, X₁, hstep⟩ := inv T hT X
  have hf := C.2.2.2.2.2.2.2.2.2.1
  have hlo := C.2.2.2.2.2.2.2.2.2.2.1
  have hRc := C.2.2.2.2.2.2.2.2.2.2.2.1
  have hRs := C.2.2.2.2.2.2.2.2.2.2.2.2.1
  have hUm : gzU S0.1 ≤ gzU S.1 := gz_Um h1
  have hUl : gzU S.1 ≤ gzM := gz_Ule hW.2.2.2
  have hN := hW.2.2.2
  have hW0 : g.2.1.WarmedH (T.setVm vm₁).vm := State.WarmedH.trans (gz_cxW C) X₁.warmed
  have hst2 : ((st.map (gz_v g)).map fun v => v.category).sum ≤ 8 := by rw [List.map_map]; exact hst
  have hss := C.2.2.2.2.2.2.2.2.2.2.2.2.2.2.2
  have hbig : S.1 < gzN → (T.setVm vm₁).heap.size = gz_b g + S.1 := by
    intro hlt
    have hz : z = 0 := hz0.resolve_right (by omega)
    subst hz
    have q1 : (T.setVm vm₁).heap.size ≤ s.heap.size + (S.1 - S0.1 + 0) := X₁.heapSize
    have q2 := hss (by omega)
    have q3 : gz_b g + S.1 ≤ (T.setVm vm₁).heap.size := by
      show gz_b g + S.1 ≤ T.heap.size
      rw [hT]; exact hW.2.1
    omega
  have hPc0 : gzPc g as S (as.map (gz_v g)).toArray (T.setVm vm₁) := ⟨rfl, gz_cxF C, hW0, by show gzWd g S T.heap; rw [hT]; exact hW, hbig⟩
  have hB := gz_back hM X₁ (fr := { F0 m pc ls stk with stack := st.map (gz_v g) }) rfl (hl.1.trans C.2.2.2.1.symm) (by rw [C.2.1]; exact hd) (show 2 * 0 + ((st.map (gz_v g)).map fun v => v.category).sum ≤ 8 by omega) hnamed
    (word_at hW0 (good_of_word hg) ((gz_cxF C).1 _ hw)) (word_at hW0 (good_of_word hg2) ((gz_cxF C).1 _ hw2)) (by omega) (by omega) (by omega) (by omega) hPc0
  rcases hB with ⟨v, S', L, z', U', X', hq, hS', hz', hWd', hL, hsteps⟩ | ⟨E, q, ce, S', L, z', U', X', hq, hS', hz', hWd', hL, hce, hcv, hcl, hsteps⟩
  · have hUm' : gzU S.1 ≤ gzU S'.1 := gz_Um hS'
    have k0 : gzX g zm (d + 1) y (pc + 3) loc (v.toList ++ st) S' (z + zc) Q := hq
    have hst3 : ((v.map (gz_v g)).toList ++ st.map (gz_v g)) = (v.toList ++ st).map (gz_v g) := by cases v <;> rfl
    have k1 := k0 S0 p e R s m args below meth c U'.heap (locs ++ L) ls C (Nat.le_trans h1 hS') h2 hWd' (fun q hq => (List.mem_append.mp hq).elim (h4 q) (hL q)) hl
    have k2 := gz_wwide (c1 := S.1 - S0.1 + z + (S'.1 - S.1 + z')) (s1 := gzU S.1 - gzU S0.1 + 6 * z + (gzU S'.1 - gzU S.1 + 6 * z')) k1 (by omega) (by omega)
    obtain ⟨t, a1, b1⟩ := k2 U' rfl X'
    refine ⟨t, hstep t (hsteps.trans ?_), b1⟩
    rw [← hst3] at a1
    exact a1
  · have hUm' : gzU S.1 ≤ gzU S'.1 := gz_Um hS'
    have hE : Q (.error E) S' := hq
    obtain ⟨st1, hrun, hend, hWm, hsm⟩ := X'.leaveThrown q (g := F0 m pc ls (st.map (gz_v g))) rfl rfl rfl (fun x hx => (C.2.2.2.2.2.2.1 x hx).elim) C.2.2.2.2.2.1
    have hcell9 : (U'.setFrames (.throwing q :: below)).heap[q]? = some ce := hce
    have hcl9 : s.vm.findClass E = some ce.cls := by
      have h9 : (T.setVm vm₁).vm.findClass E = some ce.cls := hcl
      rw [X₁.warmed.alike.findClass] at h9
      exact h9
    refine ⟨_, hstep _ (hsteps.trans st1), .threw q, hrun, hend, S', locs ++ L, z + z', Nat.le_trans h1 hS', by omega, hWd', fun q hq => (List.mem_append.mp hq).elim (h4 q) (hL q), Or.inr ⟨E, q, ce, hE, rfl, hcell9, hcv, hcl9, hWm, hsm.mono (by omega) (by omega)⟩⟩
end
