/-! shares -/
section
variable {I I' X : gzIT} {J : gzJT} {w : Nat → Int32} {nf ng nl nx t t1 φ : Nat}
theorem p_num {a : Int32} {N : Nat} (hN : N < 2 ^ 30) : ((∃ k, k ≤ N ∧ a = Int32.ofNat k) ∧ f_X11_needNumber a 0 (Int32.ofNat N) I J = some (.ok (), I, J) ∧ f_X12_in a 0 (Int32.ofNat N) = some 1) ∨ (f_X11_needNumber a 0 (Int32.ofNat N) I J = some (.error "java/lang/IllegalArgumentException", I, J) ∧ f_X12_in a 0 (Int32.ofNat N) = some 0) := by
  unfold f_X11_needNumber
  rcases gz_byn a (N + 1) (by omega) with ⟨k, hk, rfl⟩ | h | ⟨h0, h1⟩
  · refine Or.inl ⟨⟨k, by omega, rfl⟩, ?_, ?_⟩
    · rw [if_neg (by rw [gzc_lt0 (by omega)]; exact id), if_pos (by rw [gzn_le (by omega) (by omega)]; omega)]
    · exact s_X12_in0 (n := N + 1) hk (by omega)
  · exact Or.inr ⟨if_pos h, s_X12_in1 h⟩
  · refine Or.inr ⟨?_, s_X12_in2 (n := N + 1) (by omega) (by omega) h0 h1⟩
    rw [if_neg h0, if_neg (fun q => by have a1 := Int32.le_iff_toInt_le.mp q; have a2 := Int32.le_iff_toInt_le.mp h1; rw [gzn_int (by omega)] at a1 a2; omega)]
def gzSix (I : gzIT) (o : Nat) (s : Nat → Int32) : gzIT := fun t x k => if t = 0 ∧ x = o ∧ k < 6 then s k else I t x k
theorem gzSix_at {o k : Nat} {s : Nat → Int32} (hk : k < 6) : gzSix I o s 0 o k = s k := if_pos ⟨rfl, rfl, hk⟩
theorem gzSix_o {o t x k : Nat} {s : Nat → Int32} (h : x ≠ o) : gzSix I o s t x k = I t x k := if_neg (fun q => h q.2.1)
theorem gzSix_u {o a : Nat} {s : Nat → Int32} {v : Int32} (ha : a < 6) : gz_ui (gzSix I o s) 0 o a v = gzSix I o (gzUp s a v) := by
  funext t x k
  unfold gz_ui gzSix gzUp
  by_cases e : t = 0 ∧ x = o ∧ k = a
  · rw [if_pos e, if_pos (by omega), if_pos e.2.2]
  · rw [if_neg e]
    by_cases e2 : t = 0 ∧ x = o ∧ k < 6
    · rw [if_pos e2, if_pos e2, if_neg (by omega)]
    · rw [if_neg e2, if_neg e2]
theorem gzSix_self {o : Nat} : gzSix I o (I 0 o) = I := by
  funext t x k
  unfold gzSix
  by_cases e : t = 0 ∧ x = o ∧ k < 6
  · rw [if_pos e, e.1, e.2.1]
  · rw [if_neg e]
theorem gzSix_vc {s : Nat → Int32} (h : gzVc I 0 w nf ng) : gzVc (gzSix I 6 s) 0 w nf ng := by
  have e : ∀ o k, o ≠ 6 → gzSix I 6 s 0 o k = I 0 o k := fun o k ho => gzSix_o ho
  unfold gzVc at h ⊢
  simp (disch := omega) only [e]
  exact h
theorem gzSix_vi {s : Nat → Int32} (h : gzVi I w nf ng) : gzVi (gzSix I 57 s) w nf ng := ⟨fun k hk => (gzSix_o (by omega)).trans (h.1 k hk), h.2⟩
/-- who comes next -/
def gzPk (w : Nat → Int32) (s : Nat → Int32) (x : Option Nat) (i : Nat) : Option Nat := if w (31 + 4 * i) ≤ s i then x else match x with | none => some i | some j => if s j ≤ s i then some j else some i
theorem gzPk_b {s : Nat → Int32} {x : Option Nat} {i : Nat} (h : gzPb i x) : gzPb (i + 1) (gzPk w s x i) := by
  intro b hb
  unfold gzPk at hb
  split at hb
  · have := h b hb; omega
  · cases x with
    | none => cases hb; omega
    | some j =>
      have hj := h j rfl
      simp only at hb
      split at hb
      · cases hb; omega
      · cases hb; omega
def gzShs (w : Nat → Int32) (nf : Nat) (s : Nat → Int32) : Nat → Int32 := match gzFo (gzPk w s) 0 nf none with | none => s | some j => gzUp s j (s j + 1)
theorem gzPk_all {s : Nat → Int32} : gzPb nf (gzFo (gzPk w s) 0 nf none) := by
  have := gzFo_keep (f := gzPk w s) (p := fun i x => gzPb i x) nf 0 none (fun b hb => by cases hb) (fun x j _ _ hp => gzPk_b hp)
  rwa [Nat.zero_add] at this
theorem gzShs_congr {s s' : Nat → Int32} (h : ∀ f, f < nf → s f = s' f) : ∀ f, f < nf → gzShs w nf s f = gzShs w nf s' f := by
  have e : gzFo (gzPk w s) 0 nf none = gzFo (gzPk w s') 0 nf none := by
    refine gzFo_congrp (p := gzPb) nf 0 none (fun b hb => by cases hb) fun x j _ hj hp => ⟨?_, gzPk_b hp⟩
    unfold gzPk
    rw [h j (by omega)]
    cases x with
    | none => rfl
    | some i =>
      have hi := hp i rfl
      simp only
      rw [h i (by omega)]
  intro f hf
  unfold gzShs
  rw [e]
  have hb := gzPk_all (w := w) (nf := nf) (s := s')
  cases hh : gzFo (gzPk w s') 0 nf none with
  | none => exact h f hf
  | some j =>
    have hj := hb j hh
    show gzUp s j (s j + 1) f = gzUp s' j (s' j + 1) f
    unfold gzUp
    rw [h j hj, h f hf]
theorem gzFo_rel {σ τ : Type} {f : σ → Nat → σ} {g : τ → Nat → τ} {R : σ → τ → Prop} (hR : ∀ s t i, R s t → R (f s i) (g t i)) : ∀ (m i : Nat) (s : σ) (t : τ), R s t → R (gzFo f i m s) (gzFo g i m t) := by
  intro m
  induction m with
  | zero => intro i s t h; exact h
  | succ m ih => intro i s t h; exact ih (i + 1) _ _ (hR s t i h)
theorem c_share {a q : Nat} (h : gzVc I 0 w nf ng) (ha : a < nf) (hq : q ≤ 999) (hφ : 1000 < φ) : ∃ s, f_X0_shareOut φ 0 (Int32.ofNat a) (Int32.ofNat q) I J = some (s a, gzSix I 6 s, J) ∧ s = gzFo (fun s _ => gzShs w nf s) 0 q (gzFo (fun s i => gzUp s i 0) 0 nf (I 0 6)) := by
  have hn := h.1.2.2.1
  refine ⟨_, ?_, rfl⟩
  unfold f_X0_shareOut
  have first := gz_loop (F := fun k s i => f_X0_shareOut_2 φ 0 k (Int32.ofNat a) (Int32.ofNat q) i (gzSix I 6 s) J) (n := nf) (step := fun s i => gzUp s i 0) (out := fun s => f_X0_shareOut_25 φ 0 φ (Int32.ofNat a) (Int32.ofNat q) 0 (gzSix I 6 s) J) ?_ ?_ nf 0 φ (I 0 6) (by omega) (by omega)
  · have e : gzSix I 6 (I 0 6) = I := gzSix_self
    have first' : f_X0_shareOut_2 φ 0 φ (Int32.ofNat a) (Int32.ofNat q) 0 (gzSix I 6 (I 0 6)) J = f_X0_shareOut_25 φ 0 φ (Int32.ofNat a) (Int32.ofNat q) 0 (gzSix I 6 (gzFo (fun s i => gzUp s i 0) 0 nf (I 0 6))) J := first
    rw [e] at first'
    rw [first']
    generalize gzFo (fun s i => gzUp s i 0) 0 nf (I 0 6) = s0
    refine gz_loop (F := fun k s i => f_X0_shareOut_25 φ 0 k (Int32.ofNat a) (Int32.ofNat q) i (gzSix I 6 s) J) (n := q) (step := fun s _ => gzShs w nf s) (out := fun s => some (s a, gzSix I 6 s, J)) ?_ ?_ q 0 φ s0 (by omega) (by omega)
    · intro k s i hi
      have v : gzVc (gzSix I 6 s) 0 w nf ng := gzSix_vc h
      show f_X0_shareOut_25 φ 0 (k + 1) (Int32.ofNat a) (Int32.ofNat q) (Int32.ofNat i) (gzSix I 6 s) J = f_X0_shareOut_25 φ 0 k (Int32.ofNat a) (Int32.ofNat q) (Int32.ofNat (i + 1)) (gzSix I 6 (gzShs w nf s)) J
      rw [f_X0_shareOut_25, if_neg (by rw [gzn_le (by omega) (by omega)]; omega)]
      refine gz_loopp (F := fun k2 x j => f_X0_shareOut_36 φ 0 (f_X0_shareOut_25 φ 0 k) k2 (Int32.ofNat a) (Int32.ofNat q) (Int32.ofNat i) x j (gzSix I 6 s) J) (n := nf) (c := gzOi) (step := gzPk w s) (out := fun x => f_X0_shareOut_25 φ 0 k (Int32.ofNat a) (Int32.ofNat q) (Int32.ofNat (i + 1)) (gzSix I 6 (match x with | none => s | some j => gzUp s j (s j + 1))) J) (p := gzPb) ?_ ?_ nf 0 φ none (fun b hb => by cases hb) (by omega) (by omega)
      · intro k2 x j hj hp
        refine ⟨?_, gzPk_b hp⟩
        show f_X0_shareOut_36 φ 0 (f_X0_shareOut_25 φ 0 k) (k2 + 1) (Int32.ofNat a) (Int32.ofNat q) (Int32.ofNat i) (gzOi x) (Int32.ofNat j) (gzSix I 6 s) J = f_X0_shareOut_36 φ 0 (f_X0_shareOut_25 φ 0 k) k2 (Int32.ofNat a) (Int32.ofNat q) (Int32.ofNat i) (gzOi (gzPk w s x j)) (Int32.ofNat (j + 1)) (gzSix I 6 s) J
        rw [f_X0_shareOut_36, v.1.1, if_neg (by rw [gzn_le (by omega) (by omega)]; omega), gzGd_in (by omega) (by omega), gzn_clamp (by omega), v.2.2.2.2.2.2.2.2.2.1 j hj, gzSix_at (by omega), gzn_succ]
        unfold gzPk
        by_cases q1 : w (31 + 4 * j) ≤ s j
        · rw [if_pos q1, if_pos q1]
        · rw [if_neg q1, if_neg q1]
          cases x with
          | none => rw [if_pos gzOi_none]; rfl
          | some b =>
            have hb := hp b rfl
            rw [if_neg (gzOi_ne (by omega)), show gzOi (some b) = Int32.ofNat b from rfl, gzc_cell (by omega) (by omega), gzSix_at (by omega)]
            simp only [Option.bind_some]
            by_cases q2 : s b ≤ s j
            · rw [if_pos q2, if_pos q2]; rfl
            · rw [if_neg q2, if_neg q2]; rfl
      · intro k2 x hp
        show f_X0_shareOut_36 φ 0 (f_X0_shareOut_25 φ 0 k) (k2 + 1) (Int32.ofNat a) (Int32.ofNat q) (Int32.ofNat i) (gzOi x) (Int32.ofNat nf) (gzSix I 6 s) J = _
        rw [f_X0_shareOut_36, v.1.1, if_pos (by rw [gzn_le (by omega) (by omega)]; omega), gzn_succ]
        cases x with
        | none =>
          rw [gzOi_none, gzc_cell0 (by decide)]
          simp only [Option.bind_some]
          rw [gzc_write0 (by decide)]
          rfl
        | some b =>
          have hb := hp b rfl
          rw [show gzOi (some b) = Int32.ofNat b from rfl, gzc_cell (by omega) (by omega), gzSix_at (by omega)]
          simp only [Option.bind_some]
          rw [gzc_write (by omega) (by omega), gzSix_u (by omega)]
          rfl
    · intro k s
      show f_X0_shareOut_25 φ 0 (k + 1) (Int32.ofNat a) (Int32.ofNat q) (Int32.ofNat q) (gzSix I 6 s) J = _
      rw [f_X0_shareOut_25, if_pos (by rw [gzn_le (by omega) (by omega)]; omega), gzc_cell (by omega) (by omega), gzSix_at (by omega)]
      rfl
  · intro k s i hi
    have v : gzVc (gzSix I 6 s) 0 w nf ng := gzSix_vc h
    show f_X0_shareOut_2 φ 0 (k + 1) (Int32.ofNat a) (Int32.ofNat q) (Int32.ofNat i) (gzSix I 6 s) J = f_X0_shareOut_2 φ 0 k (Int32.ofNat a) (Int32.ofNat q) (Int32.ofNat (i + 1)) (gzSix I 6 (gzUp s i 0)) J
    rw [f_X0_shareOut_2, v.1.1, if_neg (by rw [gzn_le (by omega) (by omega)]; omega), gzGd_in (by omega) (by omega), gzn_clamp (by omega), gzSix_u (by omega), gzn_succ]
  · intro k s
    have v : gzVc (gzSix I 6 s) 0 w nf ng := gzSix_vc h
    show f_X0_shareOut_2 φ 0 (k + 1) (Int32.ofNat a) (Int32.ofNat q) (Int32.ofNat nf) (gzSix I 6 s) J = _
    rw [f_X0_shareOut_2, v.1.1, if_pos (by rw [gzn_le (by omega) (by omega)]; omega)]
theorem m_share {a q : Nat} (h : gzVi I w nf ng) (ha : a < nf) (hq : q ≤ 999) (hφ : 1000 < φ) : ∃ s, f_X12_shares_46 φ φ (Int32.ofNat a) (Int32.ofNat q) 0 I J = some (s a, gzSix I 57 s, J) ∧ s = gzFo (fun s _ => gzShs w nf s) 0 q (gzFo (fun s i => gzUp s i 0) 0 6 (I 0 57)) := by
  have hn := h.2.1.1.2.2.1
  refine ⟨_, ?_, rfl⟩
  have first := gz_loop (F := fun k s i => f_X12_shares_46 φ k (Int32.ofNat a) (Int32.ofNat q) i (gzSix I 57 s) J) (n := 6) (step := fun s i => gzUp s i 0) (out := fun s => f_X12_shares_67 φ φ (Int32.ofNat a) (Int32.ofNat q) 0 (gzSix I 57 s) J) ?_ ?_ 6 0 φ (I 0 57) (by omega) (by omega)
  · have e : gzSix I 57 (I 0 57) = I := gzSix_self
    have first' : f_X12_shares_46 φ φ (Int32.ofNat a) (Int32.ofNat q) 0 (gzSix I 57 (I 0 57)) J = f_X12_shares_67 φ φ (Int32.ofNat a) (Int32.ofNat q) 0 (gzSix I 57 (gzFo (fun s i => gzUp s i 0) 0 6 (I 0 57))) J := first
    rw [e] at first'
    rw [first']
    generalize gzFo (fun s i => gzUp s i 0) 0 6 (I 0 57) = s0
    refine gz_loop (F := fun k s i => f_X12_shares_67 φ k (Int32.ofNat a) (Int32.ofNat q) i (gzSix I 57 s) J) (n := q) (step := fun s _ => gzShs w nf s) (out := fun s => some (s a, gzSix I 57 s, J)) ?_ ?_ q 0 φ s0 (by omega) (by omega)
    · intro k s i hi
      have v : gzVi (gzSix I 57 s) w nf ng := gzSix_vi h
      show f_X12_shares_67 φ (k + 1) (Int32.ofNat a) (Int32.ofNat q) (Int32.ofNat i) (gzSix I 57 s) J = f_X12_shares_67 φ k (Int32.ofNat a) (Int32.ofNat q) (Int32.ofNat (i + 1)) (gzSix I 57 (gzShs w nf s)) J
      rw [f_X12_shares_67, if_neg (by rw [gzn_le (by omega) (by omega)]; omega)]
      refine gz_loopp (F := fun k2 x j => f_X12_shares_78 φ (f_X12_shares_67 φ k) k2 (Int32.ofNat a) (Int32.ofNat q) (Int32.ofNat i) x j (gzSix I 57 s) J) (n := nf) (c := gzOi) (step := gzPk w s) (out := fun x => f_X12_shares_67 φ k (Int32.ofNat a) (Int32.ofNat q) (Int32.ofNat (i + 1)) (gzSix I 57 (match x with | none => s | some j => gzUp s j (s j + 1))) J) (p := gzPb) ?_ ?_ nf 0 φ none (fun b hb => by cases hb) (by omega) (by omega)
      · intro k2 x j hj hp
        refine ⟨?_, gzPk_b hp⟩
        show f_X12_shares_78 φ (f_X12_shares_67 φ k) (k2 + 1) (Int32.ofNat a) (Int32.ofNat q) (Int32.ofNat i) (gzOi x) (Int32.ofNat j) (gzSix I 57 s) J = f_X12_shares_78 φ (f_X12_shares_67 φ k) k2 (Int32.ofNat a) (Int32.ofNat q) (Int32.ofNat i) (gzOi (gzPk w s x j)) (Int32.ofNat (j + 1)) (gzSix I 57 s) J
        rw [f_X12_shares_78, m_families v]
        simp only [Option.bind_some]
        rw [if_neg (by rw [gzn_le (by omega) (by omega)]; omega), gzGd_in (by omega) (by omega), gzn_clamp (by omega), m_ofFamily1 v hj, gzSix_at (by omega), gzn_succ]
        simp only [Option.bind_some]
        unfold gzPk
        by_cases q1 : w (31 + 4 * j) ≤ s j
        · rw [if_pos q1, if_pos q1]
        · rw [if_neg q1, if_neg q1]
          cases x with
          | none => rw [if_pos gzOi_none]; rfl
          | some b =>
            have hb := hp b rfl
            rw [if_neg (gzOi_ne (by omega)), show gzOi (some b) = Int32.ofNat b from rfl, gzGd_in (by omega) (by omega), gzn_clamp (by omega), gzSix_at (by omega)]
            dsimp only
            by_cases q2 : s b ≤ s j
            · rw [if_pos q2, if_pos q2]; rfl
            · rw [if_neg q2, if_neg q2]; rfl
      · intro k2 x hp
        show f_X12_shares_78 φ (f_X12_shares_67 φ k) (k2 + 1) (Int32.ofNat a) (Int32.ofNat q) (Int32.ofNat i) (gzOi x) (Int32.ofNat nf) (gzSix I 57 s) J = _
        rw [f_X12_shares_78, m_families v]
        simp only [Option.bind_some]
        rw [if_pos (by rw [gzn_le (by omega) (by omega)]; omega), gzn_succ]
        cases x with
        | none => rw [if_pos gzOi_none]
        | some b =>
          have hb := hp b rfl
          rw [if_neg (gzOi_ne (by omega)), show gzOi (some b) = Int32.ofNat b from rfl, gzGd_in (by omega) (by omega), gzn_clamp (by omega), gzSix_at (by omega), gzSix_u (by omega)]
    · intro k s
      show f_X12_shares_67 φ (k + 1) (Int32.ofNat a) (Int32.ofNat q) (Int32.ofNat q) (gzSix I 57 s) J = _
      rw [f_X12_shares_67, if_pos (by rw [gzn_le (by omega) (by omega)]; omega), gzGd_in (by omega) (by omega), gzn_clamp (by omega), gzSix_at (by omega)]
  · intro k s i hi
    show f_X12_shares_46 φ (k + 1) (Int32.ofNat a) (Int32.ofNat q) (Int32.ofNat i) (gzSix I 57 s) J = f_X12_shares_46 φ k (Int32.ofNat a) (Int32.ofNat q) (Int32.ofNat (i + 1)) (gzSix I 57 (gzUp s i 0)) J
    rw [f_X12_shares_46, if_neg (by rw [gzc_le1 (by omega) (by omega)]; omega), gzGd_in (by omega) (by omega), gzn_clamp (by omega), gzSix_u (by omega), gzn_succ]
  · intro k s
    show f_X12_shares_46 φ (k + 1) (Int32.ofNat a) (Int32.ofNat q) 6 (gzSix I 57 s) J = _
    rw [f_X12_shares_46, if_pos (by decide)]
theorem gzUp_z {s : Nat → Int32} : ∀ m f, gzFo (fun s i => gzUp s i 0) 0 m s f = if f < m then 0 else s f := by
  intro m
  induction m with
  | zero => intro f; rfl
  | succ m ih =>
    intro f
    rw [gzFo_last, Nat.zero_add]
    show (if f = m then 0 else gzFo (fun s i => gzUp s i 0) 0 m s f) = _
    rw [ih]
    by_cases e : f = m
    · rw [if_pos e, if_pos (by omega)]
    · rw [if_neg e]
      by_cases e2 : f < m
      · rw [if_pos e2, if_pos (by omega)]
      · rw [if_neg e2, if_neg (by omega)]
theorem L_shares (p0 p1 : Int32) (h : gzR I I) : ∃ e I1, f_X11_shares 4096 p0 p1 I J = some (e, I1, J) ∧ (∀ E, e = .error E → ∃ k : Nat, (["java/lang/IndexOutOfBoundsException", "java/lang/IllegalArgumentException"] : List String)[k]? = some E) ∧ ∀ J' : gzJT, ∃ v I2 J2, f_X12_shares 4096 p0 p1 I1 J' = some (v, I2, J2) ∧ gzSame e ["java/lang/IndexOutOfBoundsException", "java/lang/IllegalArgumentException"] v (I2 0 47 0) ∧ J2 0 59 0 = J' 0 59 0 ∧ gzR I2 I2 := by
  obtain ⟨nf, ng, nl, nx, -, -, c, b, m⟩ := gzR_go h
  have hn := c.1.2.2.1
  obtain ⟨φ, hφ⟩ : ∃ φ, φ = 4096 := ⟨_, rfl⟩
  rw [← hφ]
  rcases p_fam (a := p0) (J := J) c (m 0) with ⟨⟨k, hk, rfl⟩, e1, e2⟩ | ⟨e1, e2⟩
  · rcases p_num (I := I) (J := J) (a := p1) (N := 999) (by omega) with ⟨⟨q, hq, rfl⟩, e3, e4⟩ | ⟨e3, e4⟩
    · obtain ⟨s, c1, c2⟩ := c_share (J := J) (φ := φ) c hk hq (by omega)
      have hR : gzR (gzSix I 6 s) (gzSix I 6 s) := gzR_scr h fun t o j hj => by
        by_cases e : o = 6
        · exact absurd (by unfold gzCs gzMw; omega) hj
        · exact gzSix_o e
      have mv : gzVi (gz_ui (gzSix I 6 s) 0 47 0 0) (I 0 48) nf ng := ⟨fun j hj => by
        have := (m 0).1 j hj
        rw [gz_ui_o (by decide)] at this ⊢
        rw [gzSix_o (by omega)], (m 0).2⟩
      have g1 : f_X12_noFamily (gz_ui (gzSix I 6 s) 0 47 0 0) (Int32.ofNat k) = some 0 := by
        rcases p_fam (a := Int32.ofNat k) (J := J) c mv with ⟨-, -, q⟩ | ⟨q, -⟩
        · exact q
        · rw [e1] at q; cases q
      refine ⟨.ok (s k), gzSix I 6 s, ?_, fun E hE => (by cases hE), fun J' => ?_⟩
      · unfold f_X11_shares
        rw [e1]
        simp only [Option.bind_some, gzEx]
        rw [show (999 : Int32) = Int32.ofNat 999 from rfl, e3]
        simp only [Option.bind_some, gzEx]
        rw [c1]
        rfl
      · obtain ⟨s2, d1, d2⟩ := m_share (J := J') (φ := φ) mv hk hq (by omega)
        have es : s2 k = s k := by
          rw [c2, d2]
          refine (gzFo_rel (R := fun (a b : Nat → Int32) => ∀ f, f < nf → a f = b f) (fun a b i hab => gzShs_congr hab) q 0 _ _ (fun f hf => ?_) k hk)
          rw [gzUp_z, gzUp_z, if_pos (by omega), if_pos (by omega)]
        have hR2 := gzR_thr (v := 0) hR
        refine ⟨s k, gzSix (gz_ui (gzSix I 6 s) 0 47 0 0) 57 s2, J', ?_, ⟨rfl, (gzSix_o (by omega)).trans gz_ui_s⟩, rfl, gzR_scr hR2 fun t o j hj => ?_⟩
        · unfold f_X12_shares
          rw [g1]
          simp only [Option.bind_some, s_throws0, not_true_eq_false, if_false]
          rw [show (999 : Int32) = Int32.ofNat 999 from rfl, e4]
          simp only [Option.bind_some, gz_not01, s_throws0, if_true]
          rw [d1, es]
        · by_cases e : o = 57
          · exact absurd (by unfold gzCs gzMw; omega) hj
          · exact gzSix_o e
    · refine ⟨.error "java/lang/IllegalArgumentException", I, ?_, fun E hE => ⟨1, by cases hE; rfl⟩, fun J' => ⟨0, gz_ui (gz_ui I 0 47 0 0) 0 47 0 2, J', ?_, ⟨1, rfl, gz_ui_s⟩, rfl, gzR_thr2 h⟩⟩
      · unfold f_X11_shares
        rw [e1]
        simp only [Option.bind_some, gzEx]
        rw [show (999 : Int32) = Int32.ofNat 999 from rfl, e3]
        rfl
      · unfold f_X12_shares
        rw [e2]
        simp only [Option.bind_some, s_throws0, not_true_eq_false, if_false]
        rw [show (999 : Int32) = Int32.ofNat 999 from rfl, e4]
        simp only [Option.bind_some, gz_not00, s_throws1]
        rfl
  · refine ⟨.error "java/lang/IndexOutOfBoundsException", I, ?_, fun E hE => ⟨0, by cases hE; rfl⟩, fun J' => ⟨0, gz_ui (gz_ui I 0 47 0 0) 0 47 0 1, J', ?_, ⟨0, rfl, gz_ui_s⟩, rfl, gzR_thr2 h⟩⟩
    · unfold f_X11_shares
      rw [e1]; rfl
    · unfold f_X12_shares
      rw [e2]
      simp only [Option.bind_some, s_throws1]
      rfl
end
