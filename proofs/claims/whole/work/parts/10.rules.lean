/-! the invoke instructions, and 'throw new E("text")' -/
theorem gz_fb {p : Program} {l : Launch} {e : Env} {R : Room} {s : State} {m : MethodId} {args : Array Value} {below : List Frame} {meth : Method} {c : Code} {H : Heap} {locs : List Loc} {cells slots : Nat} {Q : State → Prop} {f : JFrame} (h : s.heap.size ≤ H.size → (∀ q : Nat, q < s.heap.size → (∀ zz ∈ locs, zz.base ≠ q) → H[q]? = s.heap[q]?) → W p l e R s m args below meth c H locs cells slots Q f) : W p l e R s m args below meth c H locs cells slots Q f := fun T hT X => by
  obtain ⟨f1, f2⟩ := vx_frame (U := T.setVm s.vm) (s := s) X.same
  rw [show (T.setVm s.vm).heap = H from hT] at f1 f2
  exact h f1 f2 T hT X
def gz_in (w : Cond) : Prop := w ∈ lw_tbl ∧ goodWord w = true
/-- what a virtual call of zy wants of the tables, but its link -/
def gzMv (zy : gzMe) : Prop := gz_in (.instanceMethod zy.1) ∧ gz_in (.selects zy.1.cls zy.1 zy.1) ∧ gz_in (.code zy.1 zy.2.1 zy.2.2.1 zy.2.2.2) ∧ gz_in (.initialized zy.1.cls) ∧ (zy.1.cls ≠ "java/lang/invoke/MethodHandle" ∧ zy.1.cls ≠ "java/lang/invoke/VarHandle") ∧ zy.2.2.1 ≤ 45
def gzMs (zy : gzMe) : Prop := gz_in (.static zy.1) ∧ gz_in (.code zy.1 zy.2.1 zy.2.2.1 zy.2.2.2) ∧ gz_in (.initialized zy.1.cls) ∧ (zy.1.cls ≠ "java/lang/invoke/MethodHandle" ∧ zy.1.cls ≠ "java/lang/invoke/VarHandle") ∧ zy.2.2.1 ≤ 45
def gzMi (zy : gzMe) : Prop := gz_in (.instanceMethod zy.1) ∧ gz_in (.code zy.1 zy.2.1 zy.2.2.1 zy.2.2.2) ∧ gz_in (.initialized zy.1.cls) ∧ (zy.1.cls ≠ "java/lang/invoke/MethodHandle" ∧ zy.1.cls ≠ "java/lang/invoke/VarHandle") ∧ zy.2.2.1 ≤ 45 ∧ zy.1.name = "<init>" ∧ zy.2.2.2 = none
def gzAr (zy : gzMe) (n : Nat) : Prop := (parseMethodDescriptor zy.1.desc).map (fun d => d.parameters.length) = some n
theorem gzAr.use {zy : gzMe} {n : Nat} (h : gzAr zy n) : ∀ sig, parseMethodDescriptor zy.1.desc = some sig → n = sig.parameters.length := by
  intro sig hs
  unfold gzAr at h
  rw [hs] at h
  exact (Option.some.inj h).symm
theorem gz_recv {g : gzG} {zm d : Nat} {y : gzMe} {S0 S : gzS} {p : Program} {R : Room} {s : State} {m : MethodId} {meth : Method} {c : Code} (C : gzCx g zm d y S0 p R s m meth c) {H : Heap} (hW : gzWd g S H) {t o ci : Nat} {r : vw_C} (hv : gzOk t o S.1) (ho : gzKd o = .inl ci) (hc : vwCl[ci]? = some r) : ∃ cell : Cell, H[gz_ad g t o]? = some cell ∧ cell.vm.isStatics = false ∧ s.vm.findClass r.1 = some cell.cls := va_recv (gz_cxK C) hW.1 hc (gz_wso hv ho)
section
variable {g : gzG} {zm zc d : Nat} {y zy : gzMe} {pc : Nat} {loc : List (Option gzV)} {st stk : List gzV} {z : Nat} {Q : gzO → gzS → Prop} {S : gzS}
theorem gz_map1 {av : List gzV} {t o : Nat} (hs : stk = av.reverse ++ .inr (.inr (t, o)) :: st) : stk.map (gz_v g) = (av.map (gz_v g)).reverse ++ .ref (gz_ad g t o) :: st.map (gz_v g) := by
  rw [hs, List.map_append, List.map_reverse]; rfl
theorem gz_map0 {av : List gzV} (hs : stk = av.reverse ++ st) : stk.map (gz_v g) = (av.map (gz_v g)).reverse ++ st.map (gz_v g) := by
  rw [hs, List.map_append, List.map_reverse]
theorem gz_V {t o ci index : Nat} {r : vw_C} (av : List gzV) (hs : stk = av.reverse ++ .inr (.inr (t, o)) :: st) (hd : decode y.2.1 pc = .ok (.invokevirtual index, 3)) (hL : gz_in (.methodLink y.1.cls index zy.1)) (hM : gzMv zy) (hA : gzAr zy av.length) (hv : gzOk t o S.1) (ho : gzKd o = .inl ci) (hc : vwCl[ci]? = some r) (hr : r.1 = zy.1.cls) (hz0 : z = 0 ∨ S.1 = gzN) (hzc : z ≤ zm → z + zc ≤ zm) (hst : (st.map fun v => (gz_v g v).category).sum ≤ 8)
    (k : gzC g zc d zy (.inr (.inr (t, o)) :: av) S (gzK g zm (d + 1) y (pc + 3) loc st (z + zc) Q)) : gzX g zm (d + 1) y pc loc stk S z Q := by
  intro S0 p e R s m args below meth c H locs ls C h1 h2 hW h4 hl
  obtain ⟨cell, q1, q2, q3⟩ := gz_recv C hW hv ho hc
  rw [hr] at q3
  exact gz_call k hz0 C h1 (hzc h2) hW h4 hl hM.2.2.2.2.2 hd hst hM.2.2.1.1 hM.2.2.1.2 hM.2.2.2.1.1 hM.2.2.2.1.2
    (gz_invV (argsL := av.map (gz_v g)) C.1 C.2.2.2.2.1 (gz_cxw C hL.1 hL.2 args) (gz_cxw C hM.1.1 hM.1.2 args) (gz_cxw C hM.2.1.1 hM.2.1.2 args) (gz_cxw C hM.2.2.1.1 hM.2.2.1.2 args) hM.2.2.2.2.1 q1 q2 q3 rfl (fun sig h => by rw [List.length_map]; exact hA.use sig h) (gz_map1 hs) (by rw [C.2.1]; exact hd))
theorem gz_VN {t o ci index : Nat} {host : String} {r : vw_C} (av : List gzV) (hs : stk = av.reverse ++ .inr (.inr (t, o)) :: st) (hd : decode y.2.1 pc = .ok (.invokevirtual index, 3)) (hL : Cond.methodLinkNest y.1.cls index zy.1 host ∈ lw_tbl) (hM : gzMv zy) (hA : gzAr zy av.length) (hv : gzOk t o S.1) (ho : gzKd o = .inl ci) (hc : vwCl[ci]? = some r) (hr : r.1 = zy.1.cls) (hz0 : z = 0 ∨ S.1 = gzN) (hzc : z ≤ zm → z + zc ≤ zm) (hst : (st.map fun v => (gz_v g v).category).sum ≤ 8)
    (k : gzC g zc d zy (.inr (.inr (t, o)) :: av) S (gzK g zm (d + 1) y (pc + 3) loc st (z + zc) Q)) : gzX g zm (d + 1) y pc loc stk S z Q := by
  intro S0 p e R s m args below meth c H locs ls C h1 h2 hW h4 hl
  obtain ⟨cell, q1, q2, q3⟩ := gz_recv C hW hv ho hc
  rw [hr] at q3
  exact gz_call k hz0 C h1 (hzc h2) hW h4 hl hM.2.2.2.2.2 hd hst hM.2.2.1.1 hM.2.2.1.2 hM.2.2.2.1.1 hM.2.2.2.1.2
    (gz_invVN (argsL := av.map (gz_v g)) C.1 C.2.2.2.2.1 (va_Nw.use rfl (va_Nw.warmM (gz_cxW C) (va_Nw.of rfl ((gz_cxF C).1 _ hL)))) (gz_cxw C hM.1.1 hM.1.2 args) (gz_cxw C hM.2.1.1 hM.2.1.2 args) (gz_cxw C hM.2.2.1.1 hM.2.2.1.2 args) hM.2.2.2.2.1 q1 q2 q3 rfl (fun sig h => by rw [List.length_map]; exact hA.use sig h) (gz_map1 hs) (by rw [C.2.1]; exact hd))
theorem gz_S {index : Nat} (av : List gzV) (hs : stk = av.reverse ++ st) (hd : decode y.2.1 pc = .ok (.invokestatic index, 3)) (hL : gz_in (.methodLink y.1.cls index zy.1)) (hM : gzMs zy) (hA : gzAr zy av.length) (hz0 : z = 0 ∨ S.1 = gzN) (hzc : z ≤ zm → z + zc ≤ zm) (hst : (st.map fun v => (gz_v g v).category).sum ≤ 8)
    (k : gzC g zc d zy av S (gzK g zm (d + 1) y (pc + 3) loc st (z + zc) Q)) : gzX g zm (d + 1) y pc loc stk S z Q := by
  intro S0 p e R s m args below meth c H locs ls C h1 h2 hW h4 hl
  exact gz_call k hz0 C h1 (hzc h2) hW h4 hl hM.2.2.2.2 hd hst hM.2.1.1 hM.2.1.2 hM.2.2.1.1 hM.2.2.1.2
    (gz_invS (argsL := av.map (gz_v g)) C.1 C.2.2.2.2.1 (gz_cxw C hL.1 hL.2 args) (gz_cxw C hM.1.1 hM.1.2 args) (gz_cxw C hM.2.2.1.1 hM.2.2.1.2 args) (gz_cxw C hM.2.1.1 hM.2.1.2 args) hM.2.2.2.1 rfl (fun sig h => by rw [List.length_map]; exact hA.use sig h) (gz_map0 hs) (by rw [C.2.1]; exact hd))
theorem gz_SN {index : Nat} {host : String} (av : List gzV) (hs : stk = av.reverse ++ st) (hd : decode y.2.1 pc = .ok (.invokestatic index, 3)) (hL : Cond.methodLinkNest y.1.cls index zy.1 host ∈ lw_tbl) (hM : gzMs zy) (hA : gzAr zy av.length) (hz0 : z = 0 ∨ S.1 = gzN) (hzc : z ≤ zm → z + zc ≤ zm) (hst : (st.map fun v => (gz_v g v).category).sum ≤ 8)
    (k : gzC g zc d zy av S (gzK g zm (d + 1) y (pc + 3) loc st (z + zc) Q)) : gzX g zm (d + 1) y pc loc stk S z Q := by
  intro S0 p e R s m args below meth c H locs ls C h1 h2 hW h4 hl
  exact gz_call k hz0 C h1 (hzc h2) hW h4 hl hM.2.2.2.2 hd hst hM.2.1.1 hM.2.1.2 hM.2.2.1.1 hM.2.2.1.2
    (gz_invSN (argsL := av.map (gz_v g)) C.1 C.2.2.2.2.1 (va_Nw.use rfl (va_Nw.warmM (gz_cxW C) (va_Nw.of rfl ((gz_cxF C).1 _ hL)))) (gz_cxw C hM.1.1 hM.1.2 args) (gz_cxw C hM.2.2.1.1 hM.2.2.1.2 args) (gz_cxw C hM.2.1.1 hM.2.1.2 args) hM.2.2.2.1 rfl (fun sig h => by rw [List.length_map]; exact hA.use sig h) (gz_map0 hs) (by rw [C.2.1]; exact hd))
theorem gz_I {t o index : Nat} (av : List gzV) (hs : stk = av.reverse ++ .inr (.inr (t, o)) :: st) (hd : decode y.2.1 pc = .ok (.invokespecial index, 3)) (hL : gz_in (.methodLink y.1.cls index zy.1)) (hM : gzMi zy) (hA : gzAr zy av.length) (hz0 : z = 0 ∨ S.1 = gzN) (hzc : z ≤ zm → z + zc ≤ zm) (hst : (st.map fun v => (gz_v g v).category).sum ≤ 8)
    (k : gzC g zc d zy (.inr (.inr (t, o)) :: av) S (gzK g zm (d + 1) y (pc + 3) loc st (z + zc) Q)) : gzX g zm (d + 1) y pc loc stk S z Q := by
  intro S0 p e R s m args below meth c H locs ls C h1 h2 hW h4 hl
  have hcd := gz_cxw C hM.2.1.1 hM.2.1.2 args
  rw [hM.2.2.2.2.2.2] at hcd
  exact gz_call k hz0 C h1 (hzc h2) hW h4 hl hM.2.2.2.2.1 hd hst hM.2.1.1 hM.2.1.2 hM.2.2.1.1 hM.2.2.1.2
    (gz_invI (argsL := av.map (gz_v g)) C.1 C.2.2.2.2.1 hM.2.2.2.2.2.1 (gz_cxw C hL.1 hL.2 args) (gz_cxw C hM.1.1 hM.1.2 args) hcd hM.2.2.2.1 rfl (fun sig h => by rw [List.length_map]; exact hA.use sig h) (gz_map1 hs) (by rw [C.2.1]; exact hd))
theorem gz_IN {t o index : Nat} {host : String} (av : List gzV) (hs : stk = av.reverse ++ .inr (.inr (t, o)) :: st) (hd : decode y.2.1 pc = .ok (.invokespecial index, 3)) (hL : Cond.methodLinkNest y.1.cls index zy.1 host ∈ lw_tbl) (hM : gzMi zy) (hA : gzAr zy av.length) (hz0 : z = 0 ∨ S.1 = gzN) (hzc : z ≤ zm → z + zc ≤ zm) (hst : (st.map fun v => (gz_v g v).category).sum ≤ 8)
    (k : gzC g zc d zy (.inr (.inr (t, o)) :: av) S (gzK g zm (d + 1) y (pc + 3) loc st (z + zc) Q)) : gzX g zm (d + 1) y pc loc stk S z Q := by
  intro S0 p e R s m args below meth c H locs ls C h1 h2 hW h4 hl
  have hcd := gz_cxw C hM.2.1.1 hM.2.1.2 args
  rw [hM.2.2.2.2.2.2] at hcd
  exact gz_call k hz0 C h1 (hzc h2) hW h4 hl hM.2.2.2.2.1 hd hst hM.2.1.1 hM.2.1.2 hM.2.2.1.1 hM.2.2.1.2
    (gz_invIN (argsL := av.map (gz_v g)) C.1 C.2.2.2.2.1 hM.2.2.2.2.2.1 (va_Nw.use rfl (va_Nw.warmM (gz_cxW C) (va_Nw.of rfl ((gz_cxF C).1 _ hL)))) (gz_cxw C hM.1.1 hM.1.2 args) hcd hM.2.2.2.1 rfl (fun sig h => by rw [List.length_map]; exact hA.use sig h) (gz_map1 hs) (by rw [C.2.1]; exact hd))
/-- the end of a throw -/
theorem gz_thrown {S0 : gzS} {p : Program} {e : Env} {R : Room} {s : State} {m : MethodId} {args : Array Value} {below : List Frame} {meth : Method} {c : Code} {H : Heap} {locs : List Loc} {cls : String} {f : JFrame} (h1 : S0.1 ≤ S.1) (h2 : z ≤ zm) (hW : gzWd g S H) (hQ : Q (.error cls) S)
    (h : W p g.1 e R s m args below meth c H locs (S.1 - S0.1 + z) (gzU S.1 - gzU S0.1 + 6 * z) (vx_MQ below (fun _ _ _ _ => False) (fun E _ t => E = cls ∧ H.size ≤ t.heap.size ∧ ∀ q : Nat, q < H.size → t.heap[q]? = H[q]?) args s (S.1 - S0.1 + z + 1) (gzU S.1 - gzU S0.1 + 6 * z + 6) (fun q => gz_b g ≤ q)) f) :
    W p g.1 e R s m args below meth c H locs (S.1 - S0.1 + z) (gzU S.1 - gzU S0.1 + 6 * z) (gzMQ g zm S0 Q below s) f := by
  refine gz_wmono h ?_
  rintro t ⟨o, b1, b2, b3⟩
  rcases b3 with ⟨hf, -⟩ | ⟨q, rfl, E, ce, L, ⟨rfl, k1, k2⟩, k3, k4, k5, k6, k7, k8⟩
  · exact hf.elim
  · refine ⟨.threw q, b1, b2, S, L, z, h1, h2, ⟨hW.1.kept (fun k x hx => k2 _ (hW.1 k x hx).lt), Nat.le_trans hW.2.1 k1, fun a ha => ?_, hW.2.2.2⟩, k8, Or.inr ⟨E, q, ce, hQ, rfl, k3, k4, k5, k6, k7⟩⟩
    rw [k2 a (by have := hW.2.1; omega)]
    exact hW.2.2.1 a ha
theorem gz_atS {S0 : gzS} {p : Program} {R : Room} {s : State} {m : MethodId} {meth : Method} {c : Code} (C : gzCx g zm d y S0 p R s m meth c) {L : List Cond} {cls : String} (args : Array Value) (h1 : L.all (fun w => (decide (w ∈ lw_tbl) && goodWord w) || decide (w = .castable cls cls)) = true) (h2 : Cond.castable cls cls ∈ lw_tbl) : ∀ w ∈ L, w.before args s = true := by
  intro w hw
  have h := List.all_eq_true.mp h1 w hw
  simp only [Bool.or_eq_true, Bool.and_eq_true, decide_eq_true_eq] at h
  rcases h with h | rfl
  · exact gz_cxw C h.1 h.2 args
  · exact va_Nw.use rfl (va_Nw.warmC (gz_cxW C) (va_Nw.of rfl ((gz_cxF C).1 _ h2)))
theorem gz_strAt {S0 : gzS} {p : Program} {R : Room} {s : State} {m : MethodId} {meth : Method} {c : Code} (C : gzCx g zm d y S0 p R s m meth c) {i : Nat} {q : String × Nat × String} (h : gzStrs[i]? = some q) : vk_R q.1 q.2.1 q.2.2 (g.2.2.2.2.2 i 60) s := vk_R.warm (gz_cxW C) ((gz_cxF C).2.2.2.2.2.1 i q h).1
/-- what a throw of cls wants of the tables -/
def gzTh (own : String) (ik ic : Nat) (cls : String) : Prop := gz_in (.classLink own ik cls) ∧ gz_in (.initialized cls) ∧ Bundle.fit cls = true ∧ (∀ n ∈ ["java/lang/RuntimeException", "java/lang/Exception"], Bundle.fit n = true) ∧ Cond.castable cls cls ∈ lw_tbl ∧
  (vx_atS own ic cls ["java/lang/RuntimeException", "java/lang/Exception"]).all (fun w => (decide (w ∈ lw_tbl) && goodWord w) || decide (w = .castable cls cls)) = true ∧
  (∀ w ∈ Cond.classLink own ik cls :: Cond.initialized cls :: vx_atS own ic cls ["java/lang/RuntimeException", "java/lang/Exception"], vx_ot w = true)
theorem gz_throw {i ik is ic : Nat} {cls text : String} (hT : gzTh y.1.cls ik ic cls) (hi : gzStrs[i]? = some (y.1.cls, is, text)) (d0 : decode y.2.1 pc = .ok (.new ik, 3)) (d3 : decode y.2.1 (pc + 3) = .ok (.dup, 1)) (d4 : decode y.2.1 (pc + 4) = .ok (.ldc is, 2)) (d6 : decode y.2.1 (pc + 6) = .ok (.invokespecial ic, 3)) (d9 : decode y.2.1 (pc + 9) = .ok (.athrow, 1)) (hst : (st.map fun v => (gz_v g v).category).sum ≤ 8) (hQ : Q (.error cls) S) : gzX g zm d y pc loc st S z Q := by
  intro S0 p e R s m args below meth c H locs ls C h1 h2 hW h4 hl
  have hf := C.2.2.2.2.2.2.2.2.2.1
  have hlo := C.2.2.2.2.2.2.2.2.2.2.1
  have hst2 : ((st.map (gz_v g)).map fun v => v.category).sum ≤ 8 := by rw [List.map_map]; exact hst
  have hr := gz_room C h1 h2 hW.2.2.2
  have hF := gz_cxF C
  refine gz_thrown h1 h2 hW hQ (gz_fb fun hlb hfb => ?_)
  have hbs := C.2.2.2.2.2.2.2.2.2.2.2.2.2.2.1
  have hSs : va_S (gzA g) s.heap H locs := ⟨hlb, fun q hq hA => hfb q hq (fun zz hzz e => hA (show gz_b g ≤ q from e ▸ h4 zz hzz)), h4⟩
  have hkept : ∀ a : Nat, a < g.2.1.heap.size → ¬ gzA g a → s.heap[a]? = g.2.1.heap[a]? := fun a ha hA => by
    have ha' : a < gz_b g := ha
    rw [← hfb a (by omega) (fun zz hzz e => absurd (show gz_b g ≤ a from e ▸ h4 zz hzz) (Nat.not_le.mpr ha'))]
    exact hW.2.2.1 a ha'
  have hU : vx_Zq Bundle.tN "UNASSIGNED_STACK" Bundle.steD (gzA g) s s.heap := vx_Zq.moved (gz_cxW C).alike (hF.2.2.2.1.kept hkept)
  have hN : vx_Zq Bundle.tN "SUPPRESSED_SENTINEL" Bundle.listD (gzA g) s s.heap := vx_Zq.moved (gz_cxW C).alike (hF.2.2.2.2.1.kept hkept)
  obtain ⟨t1, t2, t3, t4, t5, t6, t7⟩ := hT
  exact vx_throwS (A := gzA g) (names := ["java/lang/RuntimeException", "java/lang/Exception"]) (is := is) (ic := ic) (ik := ik) (text := text) C.1 C.2.1 hF.2.2.1 C.2.2.2.2.1 t3 t4 (gz_cxw C t1.1 t1.2 args) (gz_cxw C t2.1 t2.2 args) (gz_strAt C hi) (gz_atS C args t6 t5) t7 hU hN hSs (hl.1.trans C.2.2.2.1.symm) d0 d3 d4 d6 d9 (fun x hx => (C.2.2.2.2.2.2.1 x hx).elim)
    (by show 2 + 3 < R.frames; omega) (by show _ + (13 * (2 + 1) + 43) ≤ R.locals; omega) hr.1 hr.2 C.2.2.2.2.2.1 (fun t ht1 ht2 ht3 => ⟨rfl, ht2, ht3⟩) h4 (Nat.le_refl _) (Nat.le_refl _)
theorem gz_throwW {i ik is ic : Nat} {cls text : String} (hT : gzTh y.1.cls ik ic cls) (hi : gzStrs[i]? = some (y.1.cls, is, text)) (d0 : decode y.2.1 pc = .ok (.new ik, 3)) (d3 : decode y.2.1 (pc + 3) = .ok (.dup, 1)) (d4 : decode y.2.1 (pc + 4) = .ok (.ldc_w is, 3)) (d7 : decode y.2.1 (pc + 7) = .ok (.invokespecial ic, 3)) (d10 : decode y.2.1 (pc + 10) = .ok (.athrow, 1)) (hst : (st.map fun v => (gz_v g v).category).sum ≤ 8) (hQ : Q (.error cls) S) : gzX g zm d y pc loc st S z Q := by
  intro S0 p e R s m args below meth c H locs ls C h1 h2 hW h4 hl
  have hf := C.2.2.2.2.2.2.2.2.2.1
  have hlo := C.2.2.2.2.2.2.2.2.2.2.1
  have hst2 : ((st.map (gz_v g)).map fun v => v.category).sum ≤ 8 := by rw [List.map_map]; exact hst
  have hr := gz_room C h1 h2 hW.2.2.2
  have hF := gz_cxF C
  refine gz_thrown h1 h2 hW hQ (gz_fb fun hlb hfb => ?_)
  have hbs := C.2.2.2.2.2.2.2.2.2.2.2.2.2.2.1
  have hSs : va_S (gzA g) s.heap H locs := ⟨hlb, fun q hq hA => hfb q hq (fun zz hzz e => hA (show gz_b g ≤ q from e ▸ h4 zz hzz)), h4⟩
  have hkept : ∀ a : Nat, a < g.2.1.heap.size → ¬ gzA g a → s.heap[a]? = g.2.1.heap[a]? := fun a ha hA => by
    have ha' : a < gz_b g := ha
    rw [← hfb a (by omega) (fun zz hzz e => absurd (show gz_b g ≤ a from e ▸ h4 zz hzz) (Nat.not_le.mpr ha'))]
    exact hW.2.2.1 a ha'
  have hU : vx_Zq Bundle.tN "UNASSIGNED_STACK" Bundle.steD (gzA g) s s.heap := vx_Zq.moved (gz_cxW C).alike (hF.2.2.2.1.kept hkept)
  have hN : vx_Zq Bundle.tN "SUPPRESSED_SENTINEL" Bundle.listD (gzA g) s s.heap := vx_Zq.moved (gz_cxW C).alike (hF.2.2.2.2.1.kept hkept)
  obtain ⟨t1, t2, t3, t4, t5, t6, t7⟩ := hT
  exact vx_throwSW (A := gzA g) (names := ["java/lang/RuntimeException", "java/lang/Exception"]) (is := is) (ic := ic) (ik := ik) (text := text) C.1 C.2.1 hF.2.2.1 C.2.2.2.2.1 t3 t4 (gz_cxw C t1.1 t1.2 args) (gz_cxw C t2.1 t2.2 args) (gz_strAt C hi) (gz_atS C args t6 t5) t7 hU hN hSs (hl.1.trans C.2.2.2.1.symm) d0 d3 d4 d7 d10 (fun x hx => (C.2.2.2.2.2.2.1 x hx).elim)
    (by show 2 + 3 < R.frames; omega) (by show _ + (13 * (2 + 1) + 43) ≤ R.locals; omega) hr.1 hr.2 C.2.2.2.2.2.1 (fun t ht1 ht2 ht3 => ⟨rfl, ht2, ht3⟩) h4 (Nat.le_refl _) (Nat.le_refl _)
end
