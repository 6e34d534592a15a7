/-! methods with an exception table (the law's helpers): gzXh, gzCh are gzX, gzC (05) with the table told; their rules are those of 06 to 09 -/
def gzCxh (g : gzG) (zm d : Nat) (y : gzMe) (hh : List (Nat × Nat × Nat × Nat)) (S0 : gzS) (p : Program) (R : Room) (s : State) (m : MethodId) (meth : Method) (c : Code) : Prop :=
  p.tables.exec = Jvm.exec ∧ c.code = y.2.1 ∧ meth.sig.returnType = y.2.2.2 ∧ c.maxLocals = y.2.2.1 ∧ s.vm.findClass y.1.cls = some m.cls ∧ meth.locks = false ∧ c.exceptionTable.toList = tableOf hh ∧ meth.name = y.1.name ∧
  g.2.1.WarmedH s.vm ∧ d + 8 ≤ R.frames ∧ (d + 2) * 64 ≤ R.locals ∧ gzN - S0.1 + zm + 1 ≤ R.cells ∧ gzM - gzU S0.1 + 6 * zm + 6 ≤ R.slots ∧ gzF g ∧ gz_b g ≤ s.heap.size ∧ (S0.1 < gzN → s.heap.size = gz_b g + S0.1)
/-- gzX for a method with the table hh -/
def gzXh (g : gzG) (zm d : Nat) (y : gzMe) (hh : List (Nat × Nat × Nat × Nat)) (pc : Nat) (loc : List (Option gzV)) (st : List gzV) (S : gzS) (z : Nat) (Q : gzO → gzS → Prop) : Prop :=
  ∀ (S0 : gzS) (p : Program) (e : Env) (R : Room) (s : State) (m : MethodId) (args : Array Value) (below : List Frame) (meth : Method) (c : Code) (H : Heap) (locs : List Loc) (ls : Array Slot),
    gzCxh g zm d y hh S0 p R s m meth c → S0.1 ≤ S.1 → z ≤ zm → gzWd g S H → (∀ q ∈ locs, gz_b g ≤ q.base) → lv_has ls y.2.2.1 (gz_pr g 0 loc) →
    W p g.1 e R s m args below meth c H locs (S.1 - S0.1 + z) (gzU S.1 - gzU S0.1 + 6 * z) (gzMQ g zm S0 Q below s) (F0 m pc ls (st.map (gz_v g)))
def gzCh (g : gzG) (zm d : Nat) (y : gzMe) (hh : List (Nat × Nat × Nat × Nat)) (as : List gzV) (S : gzS) (Q : gzO → gzS → Prop) : Prop :=
  MetFree g.1 y.1 (headSpec [Cond.codeWith y.1 y.2.1 y.2.2.1 y.2.2.2 hh] (gzRoom zm d S)) (gzPc g as S) (fun _ _ _ _ _ => True) (fun _ st o t => gzPost g zm S Q st o t)
theorem gzCh.mono {g : gzG} {zm d : Nat} {y : gzMe} {hh : List (Nat × Nat × Nat × Nat)} {as : List gzV} {S : gzS} {Q Q' : gzO → gzS → Prop} (h : gzCh g zm d y hh as S Q) (hQ : ∀ o S, Q o S → Q' o S) : gzCh g zm d y hh as S Q' := by
  intro p e h1 h2 h3 s m args below h4 h5 h6 h7
  obtain ⟨n, o, a, b, c, r⟩ := h p e h1 h2 h3 s m args below h4 h5 h6 h7
  exact ⟨n, o, a, b, c, r.mono hQ⟩
theorem gzCh_of {g : gzG} {zm d : Nat} {y : gzMe} {hh : List (Nat × Nat × Nat × Nat)} {as : List gzV} {S : gzS} {Q : gzO → gzS → Prop} (hy : plainName y.1.cls = true) (hlen : (gz_en as).length ≤ y.2.2.1) {loc : List (Option gzV)} (hloc : loc = gz_en as ++ List.replicate (y.2.2.1 - (gz_en as).length) none)
    (h : gzXh g zm d y hh 0 loc [] S 0 Q) : gzCh g zm d y hh as S Q := by
  refine MetFree.of_bodyS (code := y.2.1) (maxLocals := y.2.2.1) (ret := y.2.2.2) hy ?_ ?_
  · intro args s m h hn
    obtain ⟨m9, meth, c, hn9, h1, h2, h3, h4, -, h5, h6, -⟩ := Cond.codeWith_spec (atoms_spec (ws := [Cond.codeWith y.1 y.2.1 y.2.2.1 y.2.2.2 hh]) h _ List.mem_cons_self)
    cases hn.symm.trans hn9
    exact ⟨meth, c, h1, h2, h3, h4, h5, h6⟩
  · intro p e s m args below meth c s₁ B hml hP _
    obtain ⟨rfl, hF, hW, hWd, hsz⟩ := hP
    have hh0 : s₁.heap = s.heap := by rw [B.state]; rfl
    have ht : c.exceptionTable.toList = tableOf hh := vx_table (x := y.1) B (atoms_spec (ws := [Cond.codeWith y.1 y.2.1 y.2.2.1 y.2.2.2 hh]) B.pre _ List.mem_cons_self)
    have hl := lv_entry (as.map (gz_v g)) (n := y.2.2.1) (by rw [gz_en_len]; exact hlen)
    have hl2 : lv_has ((lg_sl (as.map (gz_v g)) ++ List.replicate (y.2.2.1 - (lg_sl (as.map (gz_v g))).length) Slot.unset).toArray) y.2.2.1 (gz_pr g 0 loc) := by
      rw [hloc, gz_en_pr]; exact hl
    have K := h S p e (headSpec [Cond.codeWith y.1 y.2.1 y.2.2.1 y.2.2.2 hh] (gzRoom zm d S)).room s m (as.map (gz_v g)).toArray below meth c s.heap [] _
      ⟨B.exec, B.bytes, B.returns, hml, findClass_of_methodNamed B.named, B.notSynchronized, ht, (name_of_methodNamed B.named B.method).1, hW, Nat.le_refl _, Nat.le_refl _, Nat.le_refl _, Nat.le_refl _, hF, Nat.le_trans (Nat.le_add_right _ _) hWd.2.1, hsz⟩
      (Nat.le_refl _) (Nat.zero_le _) hWd (fun q hq => by cases hq) hl2
    rw [Nat.sub_self, Nat.sub_self] at K
    rw [lg_entry_eq]
    obtain ⟨t, a1, o, b1, b2, b3⟩ := K s₁ hh0 (Stand.of_body B)
    exact ⟨t, o, a1, b1, b2, b3⟩
section
variable {g : gzG} {zm d : Nat} {y : gzMe} {hh : List (Nat × Nat × Nat × Nat)} {S0 : gzS} {p : Program} {R : Room} {s : State} {m : MethodId} {meth : Method} {c : Code}
theorem gh_cxF (C : gzCxh g zm d y hh S0 p R s m meth c) : gzF g := C.2.2.2.2.2.2.2.2.2.2.2.2.2.1
theorem gh_cxW (C : gzCxh g zm d y hh S0 p R s m meth c) : g.2.1.WarmedH s.vm := C.2.2.2.2.2.2.2.2.1
theorem gh_cxK (C : gzCxh g zm d y hh S0 p R s m meth c) : va_K g.2.2.2.1 vwCl (gzTys g) s := va_K.moved (gh_cxW C).alike (gh_cxF C).2.1
theorem gh_cxw (C : gzCxh g zm d y hh S0 p R s m meth c) {w : Cond} (h : w ∈ lw_tbl) (hg : goodWord w = true) (args : Array Value) : w.before args s = true := gz_word (gh_cxF C) (gh_cxW C) h hg args
theorem gh_recv (C : gzCxh g zm d y hh S0 p R s m meth c) {S : gzS} {H : Heap} (hW : gzWd g S H) {t o ci : Nat} {r : vw_C} (hv : gzOk t o S.1) (ho : gzKd o = .inl ci) (hc : vwCl[ci]? = some r) : ∃ cell : Cell, H[gz_ad g t o]? = some cell ∧ cell.vm.isStatics = false ∧ s.vm.findClass r.1 = some cell.cls := va_recv (gh_cxK C) hW.1 hc (gz_wso hv ho)
end
section
variable {g : gzG} {zm d : Nat} {y : gzMe} {hh : List (Nat × Nat × Nat × Nat)} {pc : Nat} {loc loc2 : List (Option gzV)} {st : List gzV} {S : gzS} {z : Nat} {Q : gzO → gzS → Prop}
theorem gh_iconst {n : Int} {v : Int32} (hd : decode y.2.1 pc = .ok (.iconst n, 1)) (hv : Int32.ofInt n = v) (k : gzXh g zm d y hh (pc + 1) loc (.inl v :: st) S z Q) : gzXh g zm d y hh pc loc (st) S z Q := fun S0 p e R s m args below meth c H locs ls C h1 h2 hW h4 hl => lv_iconst C.1 C.2.1 hd hv (k S0 p e R s m args below meth c H locs ls C h1 h2 hW h4 hl)
theorem gh_lconst {n : Fin 2} {v : Int64} (hd : decode y.2.1 pc = .ok (.lconst n, 1)) (hv : Int64.ofNat (n : Nat) = v) (k : gzXh g zm d y hh (pc + 1) loc (.inr (.inl v) :: st) S z Q) : gzXh g zm d y hh pc loc (st) S z Q := fun S0 p e R s m args below meth c H locs ls C h1 h2 hW h4 hl => lv_lconst C.1 C.2.1 hd hv (k S0 p e R s m args below meth c H locs ls C h1 h2 hW h4 hl)
theorem gh_iload_n {n : Fin 4} {x : Int32} (hd : decode y.2.1 pc = .ok (.iload_n n, 1)) (hi : loc[(n : Nat)]? = some (some (.inl x))) (k : gzXh g zm d y hh (pc + 1) loc (.inl x :: st) S z Q) : gzXh g zm d y hh pc loc (st) S z Q := fun S0 p e R s m args below meth c H locs ls C h1 h2 hW h4 hl => lv_iload_n C.1 C.2.1 hd rfl (gz_at hl hi) (k S0 p e R s m args below meth c H locs ls C h1 h2 hW h4 hl)
theorem gh_iload {n : Nat} {x : Int32} (hd : decode y.2.1 pc = .ok (.iload n, 2)) (hi : loc[n]? = some (some (.inl x))) (k : gzXh g zm d y hh (pc + 2) loc (.inl x :: st) S z Q) : gzXh g zm d y hh pc loc (st) S z Q := fun S0 p e R s m args below meth c H locs ls C h1 h2 hW h4 hl => lv_iload C.1 C.2.1 hd (gz_at hl hi) (k S0 p e R s m args below meth c H locs ls C h1 h2 hW h4 hl)
theorem gh_aload_n {n : Fin 4} {t o : Nat} (hd : decode y.2.1 pc = .ok (.aload_n n, 1)) (hi : loc[(n : Nat)]? = some (some (.inr (.inr (t, o))))) (k : gzXh g zm d y hh (pc + 1) loc (.inr (.inr (t, o)) :: st) S z Q) : gzXh g zm d y hh pc loc (st) S z Q := fun S0 p e R s m args below meth c H locs ls C h1 h2 hW h4 hl => lv_aload_n C.1 C.2.1 hd rfl (gz_at hl hi) (k S0 p e R s m args below meth c H locs ls C h1 h2 hW h4 hl)
theorem gh_aload {n : Nat} {t o : Nat} (hd : decode y.2.1 pc = .ok (.aload n, 2)) (hi : loc[n]? = some (some (.inr (.inr (t, o))))) (k : gzXh g zm d y hh (pc + 2) loc (.inr (.inr (t, o)) :: st) S z Q) : gzXh g zm d y hh pc loc (st) S z Q := fun S0 p e R s m args below meth c H locs ls C h1 h2 hW h4 hl => lv_aload C.1 C.2.1 hd (gz_at hl hi) (k S0 p e R s m args below meth c H locs ls C h1 h2 hW h4 hl)
theorem gh_goto {off : Int} {tgt : Nat} (hd : decode y.2.1 pc = .ok (.goto off, 3)) (ht : (pc : Int) + off = (tgt : Int)) (k : gzXh g zm d y hh tgt loc st S z Q) : gzXh g zm d y hh pc loc st S z Q := fun S0 p e R s m args below meth c H locs ls C h1 h2 hW h4 hl => lv_goto C.1 C.2.1 hd ht (k S0 p e R s m args below meth c H locs ls C h1 h2 hW h4 hl)
theorem gh_if_eq {a : Int32} {off : Int} {tgt : Nat} (hd : decode y.2.1 pc = .ok (.ifCond .eq off, 3)) (ht : (pc : Int) + off = (tgt : Int)) (kt : a = 0 → gzXh g zm d y hh tgt loc st S z Q) (kf : ¬ a = 0 → gzXh g zm d y hh (pc + 3) loc st S z Q) : gzXh g zm d y hh pc loc (.inl a :: st) S z Q := fun S0 p e R s m args below meth c H locs ls C h1 h2 hW h4 hl => lv_if_eq C.1 C.2.1 hd ht (fun q => kt q S0 p e R s m args below meth c H locs ls C h1 h2 hW h4 hl) (fun q => kf q S0 p e R s m args below meth c H locs ls C h1 h2 hW h4 hl)
theorem gh_i2l {a : Int32} (hd : decode y.2.1 pc = .ok (.i2l, 1))  (k : gzXh g zm d y hh (pc + 1) loc (.inr (.inl a.toInt64) :: st) S z Q) : gzXh g zm d y hh pc loc (.inl a :: st) S z Q := fun S0 p e R s m args below meth c H locs ls C h1 h2 hW h4 hl => lv_i2l C.1 C.2.1 hd rfl (k S0 p e R s m args below meth c H locs ls C h1 h2 hW h4 hl)
theorem gh_iret {a : Int32} (hd : decode y.2.1 pc = .ok (.ireturn, 1)) (hr : y.2.2.2 = some .int) (hQ : Q (.ok (some (.inl a))) S) : gzXh g zm d y hh pc loc [.inl a] S z Q := fun S0 p e R s m args below meth c H locs ls C h1 h2 hW h4 hl =>
  gz_wmono (W.iret (v := a) (Qc := fun _ _ o t => o = .returned (some (.int a)) ∧ t.heap = H) (free := fun q => gz_b g ≤ q) C.1 C.2.1 (C.2.2.1.trans hr) (fun t ht _ => ⟨rfl, ht⟩) h4 hd C.2.2.2.2.2.1) (gz_endOk (v := some (.inl a)) h1 h2 hW hQ)
end
section
variable {g : gzG} {zm d : Nat} {y : gzMe} {hh : List (Nat × Nat × Nat × Nat)} {pc : Nat} {loc : List (Option gzV)} {st : List gzV} {z : Nat} {Q : gzO → gzS → Prop} {n : Nat} {Rf : Nat → Nat → Nat → Option (Nat × Nat)} {I : Nat → Nat → Nat → Int32} {J : Nat → Nat → Nat → Int64}
theorem gh_last {t o N : Nat} {i : Int32} {x : Int64} (hd : decode y.2.1 pc = .ok (.lastore, 1)) (hv : gzOk t o n) (ho : gzKd o = .inr (.long, N)) (hin : vp_in i N)
    (kk : gzXh g zm d y hh (pc + 1) loc st (n, Rf, I, gz_uj J t o i.toNatClampNeg x) z Q) : gzXh g zm d y hh pc loc (.inr (.inl x) :: .inl i :: .inr (.inr (t, o)) :: st) (n, Rf, I, J) z Q := by
  intro S0 p e R s m args below meth c H locs ls C h1 h2 hW h4 hl
  refine va_last (tys := gzTys g) (A := gzA g) (H0 := g.2.1.heap) C.1 C.2.1 (gh_cxK C) hW.1 (gz_D g _) (gz_wdS hW h4) (gzPos t o) 1 (gz_wsa hv ho) rfl hin hd (fun H1 locs1 hP hD hS => ?_)
  rw [show vp_updL (J t o) i.toNatClampNeg x = gz_uj J t o i.toNatClampNeg x t o from gz_uj_eq.symm] at hP
  rw [show (Sum.inl (g.2.2.2.2.1 FieldType.long, N, Sum.inr (Sum.inl (gz_uj J t o i.toNatClampNeg x t o))) : va_E) = gz_cell g (n, Rf, I, gz_uj J t o i.toNatClampNeg x) t o from (gz_cell_a (g := g) (S := (n, Rf, I, gz_uj J t o i.toNatClampNeg x)) (t := t) ho).symm, gz_ws_set (S' := (n, Rf, I, gz_uj J t o i.toNatClampNeg x)) hv hW.2.2.2 rfl (fun t' o' h => gz_cell_congr rfl rfl (gz_uj_ne h))] at hP
  exact kk S0 p e R s m args below meth c H1 locs1 ls C h1 h2 (gz_wdOf hP hS hW.2.2.2) hS.2.2 hl
end
/-- an E thrown at pc comes to the handler that answers k -/
def gzHit (y : gzMe) (hh : List (Nat × Nat × Nat × Nat)) (pc : Nat) (E : String) (k : Int32) : Prop := ∃ (pre : List ExceptionTableEntry) (x : ExceptionTableEntry) (suf : List ExceptionTableEntry) (name : String) (pc2 n : Nat) (k0 : Int),
  tableOf hh = pre ++ x :: suf ∧ (∀ z ∈ pre, z.catchType ≠ 0 ∧ ∃ nm, gz_in (.classLink y.1.cls z.catchType nm) ∧ Cond.not (.castable E nm) ∈ flatC narrow_1) ∧ covers x pc = true ∧ x.catchType ≠ 0 ∧ gz_in (.classLink y.1.cls x.catchType name) ∧ Cond.castable E name ∈ lw_tbl ∧ n < y.2.2.1 ∧
  ((∃ nf : Fin 4, (nf : Nat) = n ∧ decode y.2.1 x.handlerPc = .ok (.astore_n nf, 1) ∧ pc2 = x.handlerPc + 1) ∨ (decode y.2.1 x.handlerPc = .ok (.astore n, 2) ∧ pc2 = x.handlerPc + 2)) ∧
  (decode y.2.1 pc2 = .ok (.iconst k0, 1) ∧ Int32.ofInt k0 = k) ∧ (decode y.2.1 (pc2 + 1) = .ok (.ireturn, 1) ∧ y.2.2.2 = some .int)
/-- what goes on behind a call within a try -/
def gzKh (g : gzG) (zm d : Nat) (y : gzMe) (hh : List (Nat × Nat × Nat × Nat)) (pc0 pc : Nat) (loc : List (Option gzV)) (st : List gzV) (z : Nat) (Q : gzO → gzS → Prop) : gzO → gzS → Prop := fun o S' => match o with
  | .ok v => gzXh g zm d y hh pc loc (v.toList ++ st) S' z Q
  | .error E => z + 1 ≤ zm ∧ ∃ k, gzHit y hh pc0 E k ∧ Q (.ok (some (.inl k))) S'
section
variable {g : gzG} {zm zc d : Nat} {y zy : gzMe} {hh : List (Nat × Nat × Nat × Nat)} {pc : Nat} {loc : List (Option gzV)} {st : List gzV} {z : Nat} {Q : gzO → gzS → Prop} {S : gzS}
theorem gh_call {as : List gzV} (hM : gzC g zc d zy as S (gzKh g zm (d + 1) y hh pc (pc + 3) loc st (z + zc) Q))
    {S0 : gzS} {p : Program} {e : Env} {R : Room} {s : State} {m : MethodId} {args : Array Value} {below : List Frame} {meth : Method} {c : Code} {H : Heap} {locs : List Loc} {ls : Array Slot} {stk : List Value} {ig : Instr}
    (hz0 : z = 0 ∨ S.1 = gzN) (C : gzCxh g zm (d + 1) y hh S0 p R s m meth c) (h1 : S0.1 ≤ S.1) (h2 : z + zc ≤ zm) (hW : gzWd g S H) (h4 : ∀ q ∈ locs, gz_b g ≤ q.base) (hl : lv_has ls y.2.2.1 (gz_pr g 0 loc)) (hzl : zy.2.2.1 ≤ 45) (hd : decode y.2.1 pc = .ok (ig, 3)) (hst : (st.map fun v => (gz_v g v).category).sum ≤ 8)
    (hw : Cond.code zy.1 zy.2.1 zy.2.2.1 zy.2.2.2 ∈ lw_tbl) (hg : goodWord (Cond.code zy.1 zy.2.1 zy.2.2.1 zy.2.2.2) = true) (hw2 : Cond.initialized zy.1.cls ∈ lw_tbl) (hg2 : goodWord (Cond.initialized zy.1.cls) = true)
    (inv : gz_Inv p g.1 e R s m args below meth c H locs (S.1 - S0.1 + z) (gzU S.1 - gzU S0.1 + 6 * z) (F0 m pc ls stk) (st.map (gz_v g)) zy.1 (as.map (gz_v g)).toArray) :
    W p g.1 e R s m args below meth c H locs (S.1 - S0.1 + z) (gzU S.1 - gzU S0.1 + 6 * z) (gzMQ g zm S0 Q below s) (F0 m pc ls stk) := by
  intro T hT X
  obtain ⟨mk, vm₁, hnamed, X₁, hstep⟩ := inv T hT X
  have hf := C.2.2.2.2.2.2.2.2.2.1
  have hlo := C.2.2.2.2.2.2.2.2.2.2.1
  have hRc := C.2.2.2.2.2.2.2.2.2.2.2.1
  have hRs := C.2.2.2.2.2.2.2.2.2.2.2.2.1
  have hUm : gzU S0.1 ≤ gzU S.1 := gz_Um h1
  have hUl : gzU S.1 ≤ gzM := gz_Ule hW.2.2.2
  have hN := hW.2.2.2
  have hW0 : g.2.1.WarmedH (T.setVm vm₁).vm := State.WarmedH.trans (gh_cxW C) X₁.warmed
  have hst2 : ((st.map (gz_v g)).map fun v => v.category).sum ≤ 8 := by rw [List.map_map]; exact hst
  have hss := C.2.2.2.2.2.2.2.2.2.2.2.2.2.2.2
  have hbig : S.1 < gzN → (T.setVm vm₁).heap.size = gz_b g + S.1 := by
    intro hlt
    have hz : z = 0 := hz0.resolve_right (by omega)
    subst hz
    have q1 : (T.setVm vm₁).heap.size ≤ s.heap.size + (S.1 - S0.1 + 0) := X₁.heapSize
    have q2 := hss (by omega)
    have q3 : gz_b g + S.1 ≤ (T.setVm vm₁).heap.size := by
      show gz_b g + S.1 ≤ T.heap.size
      rw [hT]; exact hW.2.1
    omega
  have hPc0 : gzPc g as S (as.map (gz_v g)).toArray (T.setVm vm₁) := ⟨rfl, gh_cxF C, hW0, by show gzWd g S T.heap; rw [hT]; exact hW, hbig⟩
  have hB := gz_back hM X₁ (fr := { F0 m pc ls stk with stack := st.map (gz_v g) }) rfl (hl.1.trans C.2.2.2.1.symm) (by rw [C.2.1]; exact hd) (show 2 * 0 + ((st.map (gz_v g)).map fun v => v.category).sum ≤ 8 by omega) hnamed
    (word_at hW0 (good_of_word hg) ((gh_cxF C).1 _ hw)) (word_at hW0 (good_of_word hg2) ((gh_cxF C).1 _ hw2)) (by omega) (by omega) (by omega) (by omega) hPc0
  rcases hB with ⟨v, S', L, z', U', X', hq, hS', hz', hWd', hL, hsteps⟩ | ⟨E, q, ce, S', L, z', U', X', hq, hS', hz', hWd', hL, hce, hcv, hcl, hsteps⟩
  · have hUm' : gzU S.1 ≤ gzU S'.1 := gz_Um hS'
    have k0 : gzXh g zm (d + 1) y hh (pc + 3) loc (v.toList ++ st) S' (z + zc) Q := hq
    have hst3 : ((v.map (gz_v g)).toList ++ st.map (gz_v g)) = (v.toList ++ st).map (gz_v g) := by cases v <;> rfl
    have k1 := k0 S0 p e R s m args below meth c U'.heap (locs ++ L) ls C (Nat.le_trans h1 hS') h2 hWd' (fun q hq => (List.mem_append.mp hq).elim (h4 q) (hL q)) hl
    have k2 := gz_wwide (c1 := S.1 - S0.1 + z + (S'.1 - S.1 + z')) (s1 := gzU S.1 - gzU S0.1 + 6 * z + (gzU S'.1 - gzU S.1 + 6 * z')) k1 (by omega) (by omega)
    obtain ⟨t, a1, b1⟩ := k2 U' rfl X'
    refine ⟨t, hstep t (hsteps.trans ?_), b1⟩
    rw [← hst3] at a1
    exact a1
  · have hUm' : gzU S.1 ≤ gzU S'.1 := gz_Um hS'
    obtain ⟨hzz, kk, ⟨pre, x, suf, name, pc2, nl, k0, w1, w2, w3, w4, w5, w6, w7, w8, w9, w10⟩, hqk⟩ := hq
    have hcl9 : s.vm.findClass E = some ce.cls := by
      have h9 : (T.setVm vm₁).vm.findClass E = some ce.cls := hcl
      rw [X₁.warmed.alike.findClass] at h9
      exact h9
    have hL9 : ∀ q ∈ locs ++ L, gz_b g ≤ q.base := fun q hq => (List.mem_append.mp hq).elim (h4 q) (hL q)
    have hz9 : z + z' + 1 ≤ zm := by omega
    have hend : ∀ ls2 : Array Slot, lv_has ls2 y.2.2.1 [(nl, Value.ref q)] → W p g.1 e R s m args below meth c U'.heap (locs ++ L) (S'.1 - S0.1 + (z + z' + 1)) (gzU S'.1 - gzU S0.1 + 6 * (z + z' + 1)) (gzMQ g zm S0 Q below s) (F0 m pc2 ls2 []) := by
      intro ls2 hl2
      refine lv_iconst C.1 C.2.1 w9.1 w9.2 ?_
      exact gz_wmono (W.iret (v := kk) (Qc := fun _ _ o t => o = .returned (some (.int kk)) ∧ t.heap = U'.heap) (free := fun q => gz_b g ≤ q) C.1 C.2.1 (C.2.2.1.trans w10.2) (fun t ht _ => ⟨rfl, ht⟩) hL9 w10.1 C.2.2.2.2.2.1) (gz_endOk (v := some (.inl kk)) (Nat.le_trans h1 hS') hz9 hWd' hqk)
    have hk : W p g.1 e R s m args below meth c U'.heap (locs ++ L) (S'.1 - S0.1 + (z + z' + 1)) (gzU S'.1 - gzU S0.1 + 6 * (z + z' + 1)) (gzMQ g zm S0 Q below s) (F0 m x.handlerPc ls [.ref q]) := by
      have hl0 : lv_has ls y.2.2.1 ([] : List (Nat × Value)) := gz_sub hl (fun q hq => by cases hq)
      rcases w8 with ⟨nf, rfl, w8, rfl⟩ | ⟨w8, rfl⟩
      · exact lv_astore_n C.1 C.2.1 w8 rfl hl0 w7 rfl (fun ls2 hl2 => hend ls2 hl2)
      · exact lv_astore C.1 C.2.1 w8 hl0 w7 rfl (fun ls2 hl2 => hend ls2 hl2)
    have hv := vx_catch (p := p) (l := g.1) (e := e) (R := R) (s := s) (m := m) (args := args) (below := below) (meth := meth) (c := c) (H := U'.heap) (locs := locs ++ L) (Q := gzMQ g zm S0 Q below s) (pc := pc) (ls := ls) (rest := st.map (gz_v g)) (own := y.1.cls) (name := name) (E := E) (ce := ce) (q := q) C.2.2.2.2.1 pre x suf (C.2.2.2.2.2.2.1.trans w1)
      (fun zz hz => Or.inr ⟨(w2 zz hz).1, (w2 zz hz).2.choose, gh_cxw C (w2 zz hz).2.choose_spec.1.1 (w2 zz hz).2.choose_spec.1.2 args, va_Nc.moved (gh_cxW C).alike (va_Nc.of (gz_narrow (gh_cxF C) (w2 zz hz).2.choose_spec.2))⟩)
      w3 w4 (gh_cxw C w5.1 w5.2 args) (va_Nw.use rfl (va_Nw.warmC (gh_cxW C) (va_Nw.of rfl ((gh_cxF C).1 _ w6)))) hce hcv hcl9 hk
    have e1 : S.1 - S0.1 + z + (S'.1 - S.1 + z' + 1) = S'.1 - S0.1 + (z + z' + 1) := by omega
    have e2 : gzU S.1 - gzU S0.1 + 6 * z + (gzU S'.1 - gzU S.1 + 6 * z' + 6) = gzU S'.1 - gzU S0.1 + 6 * (z + z' + 1) := by omega
    have X9 : Stand p g.1 e R s m args below meth c U' (locs ++ L) (S'.1 - S0.1 + (z + z' + 1)) (gzU S'.1 - gzU S0.1 + 6 * (z + z' + 1)) := by
      rw [← e1, ← e2]; exact X'
    obtain ⟨t, a1, b1⟩ := hv U' rfl X9
    exact ⟨t, hstep t (hsteps.trans a1), b1⟩
theorem gh_V {stk : List gzV} {t o ci index : Nat} {r : vw_C} (av : List gzV) (hs : stk = av.reverse ++ .inr (.inr (t, o)) :: st) (hd : decode y.2.1 pc = .ok (.invokevirtual index, 3)) (hL : gz_in (.methodLink y.1.cls index zy.1)) (hM : gzMv zy) (hA : gzAr zy av.length) (hv : gzOk t o S.1) (ho : gzKd o = .inl ci) (hc : vwCl[ci]? = some r) (hr : r.1 = zy.1.cls) (hz0 : z = 0 ∨ S.1 = gzN) (hzc : z ≤ zm → z + zc ≤ zm) (hst : (st.map fun v => (gz_v g v).category).sum ≤ 8)
    (k : gzC g zc d zy (.inr (.inr (t, o)) :: av) S (gzKh g zm (d + 1) y hh pc (pc + 3) loc st (z + zc) Q)) : gzXh g zm (d + 1) y hh pc loc stk S z Q := by
  intro S0 p e R s m args below meth c H locs ls C h1 h2 hW h4 hl
  obtain ⟨cell, q1, q2, q3⟩ := gh_recv C hW hv ho hc
  rw [hr] at q3
  exact gh_call k hz0 C h1 (hzc h2) hW h4 hl hM.2.2.2.2.2 hd hst hM.2.2.1.1 hM.2.2.1.2 hM.2.2.2.1.1 hM.2.2.2.1.2
    (gz_invV (argsL := av.map (gz_v g)) C.1 C.2.2.2.2.1 (gh_cxw C hL.1 hL.2 args) (gh_cxw C hM.1.1 hM.1.2 args) (gh_cxw C hM.2.1.1 hM.2.1.2 args) (gh_cxw C hM.2.2.1.1 hM.2.2.1.2 args) hM.2.2.2.2.1 q1 q2 q3 rfl (fun sig h => by rw [List.length_map]; exact hA.use sig h) (gz_map1 hs) (by rw [C.2.1]; exact hd))
end
section
variable {g : gzG} {zc d : Nat} {zy : gzMe} {hh : List (Nat × Nat × Nat × Nat)} {as : List gzV} {S : gzS} {Q1 : gzO → gzS → Prop} {p : Program} {e : Env} {R : Room} {s : State} {m : MethodId} {args : Array Value} {below : List Frame} {meth : Method} {c : Code}
theorem gz_backH {U : State} {Ls : List Loc} {c0 s0 : Nat} {fr : JFrame} {ig : Instr} {len : Nat} {mk : MethodId} (hM : gzCh g zc d zy hh as S Q1)
    (X : Stand p g.1 e R s m args below meth c U Ls c0 s0) (hg : fr.method = m) (hsize : fr.locals.size = c.maxLocals) (hdg : decode c.code fr.pc = .ok (ig, len)) (hW9 : 2 * fr.monitorRoom + (fr.stack.map fun v => v.category).sum ≤ 8) (hn : U.methodNamed? zy.1 = some mk)
    (h2 : (Cond.codeWith zy.1 zy.2.1 zy.2.2.1 zy.2.2.2 hh).before (as.map (gz_v g)).toArray U = true) (h3 : (Cond.initialized zy.1.cls).before (as.map (gz_v g)).toArray U = true)
    (hframes : d + 8 + 1 ≤ R.frames) (hlocals : 8 + (zy.2.2.1 + 11) + (d + 2) * 64 ≤ R.locals) (h4 : c0 + (gzN - S.1 + zc + 1) ≤ R.cells) (h5 : s0 + (gzM - gzU S.1 + 6 * zc + 6) ≤ R.slots) (hPc0 : gzPc g as S (as.map (gz_v g)).toArray U) :
    (∃ (v : Option gzV) (S' : gzS) (L : List Loc) (z : Nat) (U' : State), Stand p g.1 e R s m args below meth c U' (Ls ++ L) (c0 + (S'.1 - S.1 + z)) (s0 + (gzU S'.1 - gzU S.1 + 6 * z)) ∧ Q1 (.ok v) S' ∧ S.1 ≤ S'.1 ∧ z ≤ zc ∧ gzWd g S' U'.heap ∧ (∀ q ∈ L, gz_b g ≤ q.base) ∧
      Steps p.tables e below (doInvoke e (U.setTop fr) [] mk (as.map (gz_v g)).toArray).1 (U'.setTop { fr with pc := fr.pc + len, stack := (v.map (gz_v g)).toList ++ fr.stack })) ∨
    (∃ (E : String) (q : Addr) (ce : Cell) (S' : gzS) (L : List Loc) (z : Nat) (U' : State), Stand p g.1 e R s m args below meth c U' (Ls ++ L) (c0 + (S'.1 - S.1 + z + 1)) (s0 + (gzU S'.1 - gzU S.1 + 6 * z + 6)) ∧ Q1 (.error E) S' ∧ S.1 ≤ S'.1 ∧ z ≤ zc ∧ gzWd g S' U'.heap ∧ (∀ q ∈ L, gz_b g ≤ q.base) ∧
      U'.heap[q]? = some ce ∧ ce.vm = .none ∧ U.vm.findClass E = some ce.cls ∧
      Steps p.tables e below (doInvoke e (U.setTop fr) [] mk (as.map (gz_v g)).toArray).1 ((U'.setTop fr).pushFrame (.throwing q))) := by
  obtain ⟨a, ha⟩ : ∃ z, z = (as.map (gz_v g)).toArray := ⟨_, rfl⟩
  rw [← ha] at h2 h3 hPc0 ⊢
  have h1 : (headSpec [Cond.codeWith zy.1 zy.2.1 zy.2.2.1 zy.2.2.2 hh] (gzRoom zc d S)).pre.before a U = true := atoms_intro fun w hw => by
    rw [List.mem_singleton.mp hw]
    exact h2
  have hPc : gzPc g as S a (U.calling fr mk a) := hPc0
  obtain ⟨m9, methY, cY, hn9, hmY, hcY, -, hlY, -, -, -, -⟩ := Cond.codeWith_spec h2
  cases hn.symm.trans hn9
  obtain ⟨kY, hkY, -⟩ := className_of_methodNamed hn
  have hinitY : kY.init = .initialized := Cond.initialized_spec (findClass_of_methodNamed hn) hkY h3
  have h : At U fr.method c below := by rw [hg]; exact X.here
  have hlocals9 : 8 + (zy.2.2.1 + 11) + (headSpec [Cond.codeWith zy.1 zy.2.1 zy.2.2.1 zy.2.2.2 hh] (gzRoom zc d S)).room.locals ≤ R.locals := hlocals
  have happ : (headSpec [Cond.codeWith zy.1 zy.2.1 zy.2.2.1 zy.2.2.2 hh] (gzRoom zc d S)).appliesLoose zy.1 e.platform (U.calling fr mk a) = true :=
    Spec.appliesLoose_calling (g := fr) h hdg hn hkY hinitY
      (X.room_calling (g := fr) (R' := (headSpec [Cond.codeWith zy.1 zy.2.1 zy.2.2.1 zy.2.2.2 hh] (gzRoom zc d S)).room) hsize hmY hcY hframes (by rw [hlY]; omega) h4 h5) h1
  obtain ⟨mid, hmid⟩ := h.above
  have hfr : (U.setTop fr).frames = (.java fr :: mid) ++ below := by rw [State.frames_setTop' fr h.top, hmid]; rfl
  obtain ⟨o, s₂, hsteps, -, hend, hq⟩ := Steps.callFree hM p X.admits X.cas X.clock (acts := []) hfr happ hPc trivial
  have hq' : gzPost g zc S Q1 (U.calling fr mk a) o s₂ := hq
  rw [State.frames_setTop' fr h.top] at hend
  obtain ⟨g₀, hg0⟩ := Option.isSome_iff_exists.mp h.top
  obtain ⟨r, hr⟩ := State.topJava?_eq_some.mp hg0
  have hr' : (({ U with heap := s₂.heap, slotsUsed := s₂.slotsUsed } : State).setVm s₂.vm).frames = .java g₀ :: r := hr
  obtain ⟨S', L, z, hS', hz, hWd, hL, hq'⟩ := hq'
  rcases hq' with ⟨v, hqv, rfl, hfe⟩ | ⟨E, q, ce, hqE, rfl, hce, hcv, hcl, hW₂, hsm⟩
  · obtain ⟨-, hW₂, e2, q2, q3, q4, q5, q6⟩ := id hfe
    have e3 : s₂ = ({ (U.calling fr mk a).setFrames s₂.frames with heap := s₂.heap, slotsUsed := s₂.slotsUsed } : State).setVm s₂.vm := by
      have : s₂ = ({ s₂ with vm := (U.calling fr mk a).vm } : State).setVm s₂.vm := rfl
      rw [e2] at this
      exact this
    obtain ⟨c₂, i₂, len₂, hc₂, hd₂, hf₂⟩ := hend
    have hW' : U.WarmedH s₂.vm := hW₂
    have hcc : c₂ = c := by
      have h1 : s₂.code? fr.method = U.code? fr.method := by
        rw [State.code?_eq, State.code?_eq, hW'.alike.method?]
      exact Option.some.inj (hc₂.symm.trans (h1.trans h.code))
    subst hcc
    have hlen : len₂ = len := by rw [hdg] at hd₂; cases hd₂; rfl
    subst hlen
    have hs₂ : s₂ = (({ U with heap := s₂.heap, slotsUsed := s₂.slotsUsed } : State).setVm s₂.vm).setTop { fr with pc := fr.pc + len₂, stack := (v.map (gz_v g)).toList ++ fr.stack } := by
      refine e3.trans ?_
      rw [hf₂, State.calling_eq h.top, State.setFrames_setFrames, State.setTop_of_frames _ hr', hr]
      rfl
    have hsame : U.sameButNew ({ U with heap := s₂.heap, slotsUsed := s₂.slotsUsed } : State) L (S'.1 - S.1 + z) (gzU S'.1 - gzU S.1 + 6 * z) := by
      refine ⟨?_, q2, q3, q4, q5, q6⟩
      obtain ⟨t, ht, -⟩ := State.frames_cons hr
      show ({ U with heap := s₂.heap, slotsUsed := s₂.slotsUsed } : State) = { U.setFrames U.frames with heap := s₂.heap, slotsUsed := s₂.slotsUsed }
      rw [State.setFrames_self ht]
    subst hg
    refine Or.inl ⟨v, S', L, z, (({ U with heap := s₂.heap, slotsUsed := s₂.slotsUsed } : State).setVm s₂.vm),
      ⟨X.admits, X.cas, X.clock, X.frames, X.room, X.hears, X.method, X.code, (X.here.setHeapUsed s₂.heap s₂.slotsUsed).setVm hW'.alike, X.tail, State.WarmedH.trans X.warmed hW', X.limits, X.bytes, X.same.trans (hsame.setVm s.vm)⟩,
      hqv, hS', hz, hWd, hL, ?_⟩
    rw [← hs₂]
    exact hsteps
  · obtain ⟨e2, q2, q3, q4, q5, q6⟩ := id hsm
    have e3 : s₂ = ({ (U.calling fr mk a).setFrames s₂.frames with heap := s₂.heap, slotsUsed := s₂.slotsUsed } : State).setVm s₂.vm := by
      have : s₂ = ({ s₂ with vm := (U.calling fr mk a).vm } : State).setVm s₂.vm := rfl
      rw [e2] at this
      exact this
    have hf₂ : s₂.frames = .throwing q :: .java fr :: U.frames.tail := hend
    have hW' : U.WarmedH s₂.vm := hW₂
    have hs₂ : s₂ = ((({ U with heap := s₂.heap, slotsUsed := s₂.slotsUsed } : State).setVm s₂.vm).setTop fr).pushFrame (.throwing q) := by
      refine e3.trans ?_
      rw [hf₂, State.calling_eq h.top, State.setFrames_setFrames, State.pushFrame, State.frames_setTop _ hr', State.setTop_of_frames _ hr', State.setFrames_setFrames, hr]
      rfl
    have hsame : U.sameButNew ({ U with heap := s₂.heap, slotsUsed := s₂.slotsUsed } : State) L (S'.1 - S.1 + z + 1) (gzU S'.1 - gzU S.1 + 6 * z + 6) := by
      refine ⟨?_, q2, q3, q4, q5, q6⟩
      obtain ⟨t, ht, -⟩ := State.frames_cons hr
      show ({ U with heap := s₂.heap, slotsUsed := s₂.slotsUsed } : State) = { U.setFrames U.frames with heap := s₂.heap, slotsUsed := s₂.slotsUsed }
      rw [State.setFrames_self ht]
    subst hg
    refine Or.inr ⟨E, q, ce, S', L, z, (({ U with heap := s₂.heap, slotsUsed := s₂.slotsUsed } : State).setVm s₂.vm),
      ⟨X.admits, X.cas, X.clock, X.frames, X.room, X.hears, X.method, X.code, (X.here.setHeapUsed s₂.heap s₂.slotsUsed).setVm hW'.alike, X.tail, State.WarmedH.trans X.warmed hW', X.limits, X.bytes, X.same.trans (hsame.setVm s.vm)⟩,
      hqE, hS', hz, hWd, hL, hce, hcv, hcl, ?_⟩
    rw [← hs₂]
    exact hsteps
end
section
variable {g : gzG} {zm zc d : Nat} {y zy : gzMe} {hh : List (Nat × Nat × Nat × Nat)} {pc : Nat} {loc : List (Option gzV)} {st stk : List gzV} {z : Nat} {Q : gzO → gzS → Prop} {S : gzS}
theorem gz_callH {as : List gzV} (hM : gzCh g zc d zy hh as S (gzK g zm (d + 1) y (pc + 3) loc st (z + zc) Q))
    {S0 : gzS} {p : Program} {e : Env} {R : Room} {s : State} {m : MethodId} {args : Array Value} {below : List Frame} {meth : Method} {c : Code} {H : Heap} {locs : List Loc} {ls : Array Slot} {stk : List Value} {ig : Instr}
    (hz0 : z = 0 ∨ S.1 = gzN) (C : gzCx g zm (d + 1) y S0 p R s m meth c) (h1 : S0.1 ≤ S.1) (h2 : z + zc ≤ zm) (hW : gzWd g S H) (h4 : ∀ q ∈ locs, gz_b g ≤ q.base) (hl : lv_has ls y.2.2.1 (gz_pr g 0 loc)) (hzl : zy.2.2.1 ≤ 45) (hd : decode y.2.1 pc = .ok (ig, 3)) (hst : (st.map fun v => (gz_v g v).category).sum ≤ 8)
    (hw : Cond.codeWith zy.1 zy.2.1 zy.2.2.1 zy.2.2.2 hh ∈ lw_tbl) (hg : goodWord (Cond.codeWith zy.1 zy.2.1 zy.2.2.1 zy.2.2.2 hh) = true) (hw2 : Cond.initialized zy.1.cls ∈ lw_tbl) (hg2 : goodWord (Cond.initialized zy.1.cls) = true)
    (inv : gz_Inv p g.1 e R s m args below meth c H locs (S.1 - S0.1 + z) (gzU S.1 - gzU S0.1 + 6 * z) (F0 m pc ls stk) (st.map (gz_v g)) zy.1 (as.map (gz_v g)).toArray) :
    W p g.1 e R s m args below meth c H locs (S.1 - S0.1 + z) (gzU S.1 - gzU S0.1 + 6 * z) (gzMQ g zm S0 Q below s) (F0 m pc ls stk) := by
  intro T hT X
  obtain ⟨mk, vm₁, hnamed, X₁, hstep⟩ := inv T hT X
  have hf := C.2.2.2.2.2.2.2.2.2.1
  have hlo := C.2.2.2.2.2.2.2.2.2.2.1
  have hRc := C.2.2.2.2.2.2.2.2.2.2.2.1
  have hRs := C.2.2.2.2.2.2.2.2.2.2.2.2.1
  have hUm : gzU S0.1 ≤ gzU S.1 := gz_Um h1
  have hUl : gzU S.1 ≤ gzM := gz_Ule hW.2.2.2
  have hN := hW.2.2.2
  have hW0 : g.2.1.WarmedH (T.setVm vm₁).vm := State.WarmedH.trans (gz_cxW C) X₁.warmed
  have hst2 : ((st.map (gz_v g)).map fun v => v.category).sum ≤ 8 := by rw [List.map_map]; exact hst
  have hss := C.2.2.2.2.2.2.2.2.2.2.2.2.2.2.2
  have hbig : S.1 < gzN → (T.setVm vm₁).heap.size = gz_b g + S.1 := by
    intro hlt
    have hz : z = 0 := hz0.resolve_right (by omega)
    subst hz
    have q1 : (T.setVm vm₁).heap.size ≤ s.heap.size + (S.1 - S0.1 + 0) := X₁.heapSize
    have q2 := hss (by omega)
    have q3 : gz_b g + S.1 ≤ (T.setVm vm₁).heap.size := by
      show gz_b g + S.1 ≤ T.heap.size
      rw [hT]; exact hW.2.1
    omega
  have hPc0 : gzPc g as S (as.map (gz_v g)).toArray (T.setVm vm₁) := ⟨rfl, gz_cxF C, hW0, by show gzWd g S T.heap; rw [hT]; exact hW, hbig⟩
  have hB := gz_backH hM X₁ (fr := { F0 m pc ls stk with stack := st.map (gz_v g) }) rfl (hl.1.trans C.2.2.2.1.symm) (by rw [C.2.1]; exact hd) (show 2 * 0 + ((st.map (gz_v g)).map fun v => v.category).sum ≤ 8 by omega) hnamed
    (word_at hW0 (good_of_word hg) ((gz_cxF C).1 _ hw)) (word_at hW0 (good_of_word hg2) ((gz_cxF C).1 _ hw2)) (by omega) (by omega) (by omega) (by omega) hPc0
  rcases hB with ⟨v, S', L, z', U', X', hq, hS', hz', hWd', hL, hsteps⟩ | ⟨E, q, ce, S', L, z', U', X', hq, hS', hz', hWd', hL, hce, hcv, hcl, hsteps⟩
  · have hUm' : gzU S.1 ≤ gzU S'.1 := gz_Um hS'
    have k0 : gzX g zm (d + 1) y (pc + 3) loc (v.toList ++ st) S' (z + zc) Q := hq
    have hst3 : ((v.map (gz_v g)).toList ++ st.map (gz_v g)) = (v.toList ++ st).map (gz_v g) := by cases v <;> rfl
    have k1 := k0 S0 p e R s m args below meth c U'.heap (locs ++ L) ls C (Nat.le_trans h1 hS') h2 hWd' (fun q hq => (List.mem_append.mp hq).elim (h4 q) (hL q)) hl
    have k2 := gz_wwide (c1 := S.1 - S0.1 + z + (S'.1 - S.1 + z')) (s1 := gzU S.1 - gzU S0.1 + 6 * z + (gzU S'.1 - gzU S.1 + 6 * z')) k1 (by omega) (by omega)
    obtain ⟨t, a1, b1⟩ := k2 U' rfl X'
    refine ⟨t, hstep t (hsteps.trans ?_), b1⟩
    rw [← hst3] at a1
    exact a1
  · have hUm' : gzU S.1 ≤ gzU S'.1 := gz_Um hS'
    have hE : Q (.error E) S' := hq
    obtain ⟨st1, hrun, hend, hWm, hsm⟩ := X'.leaveThrown q (g := F0 m pc ls (st.map (gz_v g))) rfl rfl rfl (fun x hx => (C.2.2.2.2.2.2.1 x hx).elim) C.2.2.2.2.2.1
    have hcell9 : (U'.setFrames (.throwing q :: below)).heap[q]? = some ce := hce
    have hcl9 : s.vm.findClass E = some ce.cls := by
      have h9 : (T.setVm vm₁).vm.findClass E = some ce.cls := hcl
      rw [X₁.warmed.alike.findClass] at h9
      exact h9
    refine ⟨_, hstep _ (hsteps.trans st1), .threw q, hrun, hend, S', locs ++ L, z + z', Nat.le_trans h1 hS', by omega, hWd', fun q hq => (List.mem_append.mp hq).elim (h4 q) (hL q), Or.inr ⟨E, q, ce, hE, rfl, hcell9, hcv, hcl9, hWm, hsm.mono (by omega) (by omega)⟩⟩
def gzMh (zy : gzMe) (hh : List (Nat × Nat × Nat × Nat)) : Prop := gz_in (.static zy.1) ∧ gz_in (.codeWith zy.1 zy.2.1 zy.2.2.1 zy.2.2.2 hh) ∧ gz_in (.initialized zy.1.cls) ∧ (zy.1.cls ≠ "java/lang/invoke/MethodHandle" ∧ zy.1.cls ≠ "java/lang/invoke/VarHandle") ∧ zy.2.2.1 ≤ 45
theorem gz_invSH {p : Program} {l : Launch} {e : Env} {R : Room} {s : State} {m : MethodId} {args : Array Value} {below : List Frame} {meth : Method} {c : Code} {H : Heap} {locs : List Loc} {cells slots : Nat} {fr : JFrame} {rest argsL : List Value} {y : MethodName} {bytes : ByteArray} {maxL : Nat} {ret : Option FieldType} {own : String} {index : Nat}
    (hexec : p.tables.exec = Jvm.exec) (hown : s.vm.findClass own = some m.cls) (hlink : (Cond.methodLink own index y).before args s = true) (hstat : (Cond.static y).before args s = true) (hinit : (Cond.initialized y.cls).before args s = true)
    (hcode : (Cond.codeWith y bytes maxL ret hh).before args s = true) (hy : y.cls ≠ "java/lang/invoke/MethodHandle" ∧ y.cls ≠ "java/lang/invoke/VarHandle")
    (hg : fr.method = m) (hlen : ∀ sig, parseMethodDescriptor y.desc = some sig → argsL.length = sig.parameters.length) (hstack : fr.stack = argsL.reverse ++ rest) (hdg : decode c.code fr.pc = .ok (.invokestatic index, 3)) :
    gz_Inv p l e R s m args below meth c H locs cells slots fr rest y argsL.toArray := by
  intro T hT X
  obtain ⟨mk, methM, cM, hnamed, hmethM, -, -, -, -, -, -, hsigM⟩ := Cond.codeWith_spec hcode
  have hstatic : methM.isStatic = true := Cond.static_spec hnamed hmethM hstat
  obtain ⟨kP, hkP, -⟩ := className_of_methodNamed hnamed
  have hinitP : kP.init = .initialized := Cond.initialized_spec (findClass_of_methodNamed hnamed) hkP hinit
  obtain ⟨vm₁, X₁, hstep₁⟩ := X.invokestatic hexec hown hlink hnamed hmethM hstatic hkP hinitP hy (g := fr) hg (argsL := argsL) (rest := rest) (hlen _ hsigM) hstack hdg
  exact ⟨mk, vm₁, X₁.named hnamed, X₁, fun target h => hstep₁ _ fun acts => by rw [doInvoke_state]; exact h⟩
theorem gz_SH {index : Nat} (av : List gzV) (hs : stk = av.reverse ++ st) (hd : decode y.2.1 pc = .ok (.invokestatic index, 3)) (hL : gz_in (.methodLink y.1.cls index zy.1)) (hM : gzMh zy hh) (hA : gzAr zy av.length) (hz0 : z = 0 ∨ S.1 = gzN) (hzc : z ≤ zm → z + zc ≤ zm) (hst : (st.map fun v => (gz_v g v).category).sum ≤ 8)
    (k : gzCh g zc d zy hh av S (gzK g zm (d + 1) y (pc + 3) loc st (z + zc) Q)) : gzX g zm (d + 1) y pc loc stk S z Q := by
  intro S0 p e R s m args below meth c H locs ls C h1 h2 hW h4 hl
  exact gz_callH k hz0 C h1 (hzc h2) hW h4 hl hM.2.2.2.2 hd hst hM.2.1.1 hM.2.1.2 hM.2.2.1.1 hM.2.2.1.2
    (gz_invSH (argsL := av.map (gz_v g)) C.1 C.2.2.2.2.1 (gz_cxw C hL.1 hL.2 args) (gz_cxw C hM.1.1 hM.1.2 args) (gz_cxw C hM.2.2.1.1 hM.2.2.1.2 args) (gz_cxw C hM.2.1.1 hM.2.1.2 args) hM.2.2.2.1 rfl (fun sig h => by rw [List.length_map]; exact hA.use sig h) (gz_map0 hs) (by rw [C.2.1]; exact hd))
end
