/-! the law's conditions, both sides -/
def gzPq : Nat → List Bool → List Bool
  | 0, L => true :: L
  | _ + 1, L => true :: true :: L
def gzMd (φ : Nat) (R : gzIT → gzJT → Option (Int32 × gzIT × gzJT)) : Nat → Nat → gzIT → gzJT → Option (Int32 × gzIT × gzJT)
  | 0, k, I, J => f_X12_readCond_9 φ R k I J
  | _ + 1, k, I, J => Option.bind (f_X12_emits 17 0 I J) (fun v8 => f_X12_readCond_9 φ R k v8.2.1 v8.2.2)
/-- the model behind an ATOM, behind an or (1) or not (0) -/
def gzMc (φ : Nat) (R : gzIT → gzJT → Option (Int32 × gzIT × gzJT)) (p k1 k2 : Nat) (I : gzIT) (J : gzJT) : Option (Int32 × gzIT × gzJT) := Option.bind (f_X12_readAllOf_9 φ R k1 I J) (fun v => if ¬ v.1 = 0 then gzMd φ R p k2 v.2.1 v.2.2 else some (0, v.2.1, v.2.2))
section
variable {I I' I2 X M M0 Ic Im Ic' Im' Ic2 Im2 : gzIT} {J J' : gzJT} {φ n c N d : Nat} {kd bt B E bg en : Nat → Nat} {cd : Nat → Int32}
theorem gz_bb {X : Option (Int32 × gzIT × gzJT)} {A C : gzIT → gzJT → Option (Int32 × gzIT × gzJT)} : Option.bind (Option.bind X (fun v => if ¬ v.1 = 0 then A v.2.1 v.2.2 else some (0, v.2.1, v.2.2))) (fun v => if ¬ v.1 = 0 then C v.2.1 v.2.2 else some (0, v.2.1, v.2.2)) = Option.bind X (fun v => if ¬ v.1 = 0 then Option.bind (A v.2.1 v.2.2) (fun v => if ¬ v.1 = 0 then C v.2.1 v.2.2 else some (0, v.2.1, v.2.2)) else some (0, v.2.1, v.2.2)) := by
  cases X with
  | none => rfl
  | some v =>
    show Option.bind (if ¬ v.1 = 0 then A v.2.1 v.2.2 else some (0, v.2.1, v.2.2)) _ = if ¬ v.1 = 0 then _ else _
    by_cases z : v.1 = 0
    · rw [if_neg (fun y => y z), if_neg (fun y => y z)]
      rfl
    · rw [if_pos z, if_pos z]
theorem gzOk_bind {j n d2 p p2 p0 lim : Nat} {P K K2 : List Bool → List Bool} {rc : Option (Except String Unit × gzIT × gzJT)} {rm : Option (Int32 × gzIT × gzJT)} {Kc : gzIT → gzJT → Option (Except String Unit × gzIT × gzJT)} {Km : gzIT → gzJT → Option (Int32 × gzIT × gzJT)} (h : gzOkq N c bt bg cd Ic Im J J' j n d p lim P K rc rm) (hk : ∀ Ic' Im' j' n', n ≤ n' → j ≤ j' → n' + j ≤ j' + n + p → gzLz N c bt bg cd Ic' Im' j' j' n' d → gzOkq N c bt bg cd Ic' Im' J J' j' n' d2 p2 lim K K2 (Kc Ic' J) (Km Im' J')) (hp : p + p2 ≤ p0) : gzOkq N c bt bg cd Ic Im J J' j n d2 p0 lim P K2 (Option.bind rc (fun v => gzEx v.1 (fun E => some (.error E, v.2.1, v.2.2)) (fun _ => Kc v.2.1 v.2.2))) (Option.bind rm (fun v => if ¬ v.1 = 0 then Km v.2.1 v.2.2 else some (0, v.2.1, v.2.2))) := by
  rcases h with ⟨A, B, a1, a2, a3, a4, a5⟩ | ⟨A, B, j', n', a1, a2, a3, a4, a5, a6, a7, a8, a9⟩
  · rw [a1, a2]
    exact Or.inl ⟨A, B, rfl, rfl, a3, a4, a5⟩
  · rw [a1, a2]
    have e2 : Option.bind (some ((1 : Int32), B, J')) (fun v => if ¬ v.1 = 0 then Km v.2.1 v.2.2 else some (0, v.2.1, v.2.2)) = Km B J' := by
      rfl
    rw [e2]
    exact gzOk_step (hk A B j' n' a6 a7 a8 a3) a4 a5 a6 a7 (by omega) a9
theorem gzOk_pre {j n p lim lim2 : Nat} {P K : List Bool → List Bool} {rc : Option (Except String Unit × gzIT × gzJT)} {rm : Option (Int32 × gzIT × gzJT)} (Q : List Bool → List Bool) (h : gzOkq N c bt bg cd Ic Im J J' j n d p lim P K rc rm) (hq : ∀ L, L.length ≤ lim2 → (Q L).length ≤ lim) : gzOkq N c bt bg cd Ic Im J J' j n d p lim2 (fun L => P (Q L)) (fun L => K (Q L)) rc rm := by
  rcases h with h | ⟨A, B, j', n', a1, a2, a3, a4, a5, a6, a7, a8, a9⟩
  · exact Or.inl h
  · exact Or.inr ⟨A, B, j', n', a1, a2, a3, a4, a5, a6, a7, a8, gzSk_pre a9 hq⟩
/-- a code more, then the rest -/
theorem gzOk_emit {j n p lim : Nat} {x a b : Int32} {P K K2 : List Bool → List Bool} {Kc : gzIT → gzJT → Option (Except String Unit × gzIT × gzJT)} {Km : gzIT → gzJT → Option (Int32 × gzIT × gzJT)} (h : gzLz N c bt bg cd Ic Im j j n d) (hn : n < 400) (hx : gzCd x a b) (hs : ∀ L : List Bool, L.length ≤ lim → (P L).length ≤ 24 ∧ gzSt a (P L) = some (K L)) (hk : ∀ Ic' Im', gzLz N c bt bg cd Ic' Im' j j (n + 1) d → gzOkq N c bt bg cd Ic' Im' J J' j (n + 1) d p lim K K2 (Kc Ic' J) (Km Im' J')) : gzOkq N c bt bg cd Ic Im J J' j n d (p + 1) lim P K2 (Option.bind (f_X2_put 1 x Ic J) (fun v => Kc v.2.1 v.2.2)) (Option.bind (f_X12_emits a b Im J') (fun v => Km v.2.1 v.2.2)) := by
  obtain ⟨A, B, e1, e2, e3, e4, e5, e6⟩ := r_emit (J := J) (J' := J') h hn hx
  rw [e1, e2]
  exact gzOk_step (hk A B e3) e4 e5 (by omega) (Nat.le_refl _) (by omega) (gzSk_one (fun L hL => ⟨(hs L hL).1, by rw [e6]; exact (hs L hL).2⟩))
theorem gzOk_ok {j n lim : Nat} {P : List Bool → List Bool} (h : gzLz N c bt bg cd Ic Im j j n d) : gzOkq N c bt bg cd Ic Im J J' j n d 0 lim P P (some (.ok (), Ic, J)) (some (1, Im, J')) := Or.inr ⟨Ic, Im, j, n, rfl, rfl, h, gzFl_refl, gzMl_refl, Nat.le_refl _, Nat.le_refl _, by omega, gzSk_nil⟩
theorem gzOk_no {j n p lim : Nat} {P K : List Bool → List Bool} (f : gzMf Im Im') (h12 : Im' 0 47 12 = Int32.ofNat (bg j)) {j0 : Nat} : gzOkq N c bt bg cd Ic Im J J' j0 n d p lim P K (some (.error "java/lang/IllegalArgumentException", gzWg bg j Ic, J)) (some (0, Im', J')) := Or.inl ⟨_, _, rfl, rfl, gzFf_wg, f, by rw [gzWg_7, h12]⟩
theorem gzPq_len {p : Nat} {L : List Bool} : (gzPq p L).length ≤ L.length + 2 := by
  cases p with
  | zero => show (true :: L).length ≤ _; rw [List.length_cons]; omega
  | succ p => show (true :: true :: L).length ≤ _; rw [List.length_cons, List.length_cons]; omega
theorem gzSt_16 {p : Nat} {L : List Bool} : gzSt 16 (true :: gzPq p L) = some (gzPq p L) := by
  cases p with
  | zero => rfl
  | succ p => rfl
theorem r_condL {R : Int32 → gzIT → gzJT → Option (Except String Unit × gzIT × gzJT)} {R' : gzIT → gzJT → Option (Int32 × gzIT × gzJT)} (hk : gzTkq N c bt bg en cd) (hφ : 500 < φ) (hd : d ≤ 6) (HR : ∀ (j n : Nat) (Ic Im : gzIT), n + 3 ≤ j → gzLz N c bt bg cd Ic Im j j n d → gzOkq N c bt bg cd Ic Im J J' j n d 0 (2 * d + 2) (fun L => L) (fun L => true :: L) (R (Int32.ofNat d) Ic J) (R' Im J')) : ∀ (m p x4 kc k1 k2 j n : Nat) (Ic Im : gzIT), c - j ≤ m → m < kc → m < k1 → m < k2 → p ≤ 1 → x4 + 3 ≤ j → n + p + 3 ≤ j → gzLz N c bt bg cd Ic Im j j n d → gzOkq N c bt bg cd Ic Im J J' j n d p (2 * d) (gzPq p) (fun L => true :: L) (f_X3_readCondition_11 φ 1 R kc (Int32.ofNat d) (Int32.ofNat p) (Int32.ofNat x4) Ic J) (gzMc φ R' p k1 k2 Im J') := by
  intro m
  induction m using Nat.strongRecOn with
  | ind m ih =>
    intro p x4 kc k1 k2 j n Ic Im hm hkc hk1 hk2 hp1 hx4 hn hz
    have hcN := hk.1
    have hN := hk.2.1
    have hjc : j ≤ c := hz.1.1
    obtain ⟨kc, rfl⟩ : ∃ q, kc = q + 1 := ⟨kc - 1, by omega⟩
    obtain ⟨k1, rfl⟩ : ∃ q, k1 = q + 1 := ⟨k1 - 1, by omega⟩
    obtain ⟨k2, rfl⟩ : ∃ q, k2 = q + 1 := ⟨k2 - 1, by omega⟩
    have w45 : gzWa 45 = 1028 := gzWa_tab.2.2.2.2.2.2.2.2.2.2.2.2.2.2.2.2.1
    have w46 : gzWa 46 = 1029 := gzWa_tab.2.2.2.2.2.2.2.2.2.2.2.2.2.2.2.2.2
    have hC : f_X3_readCondition_11 φ 1 R (kc + 1) (Int32.ofNat d) (Int32.ofNat p) (Int32.ofNat x4) Ic J = Option.bind (f_X7_take 1028 Ic J) (fun v8 => if v8.1 = 0 then (Option.bind (f_X7_take 1029 v8.2.1 v8.2.2) (fun v10 => if v10.1 = 0 then (if Int32.ofNat p = 0 then (some (.ok (), v10.2.1, v10.2.2)) else (Option.bind (f_X2_put 1 1029 v10.2.1 v10.2.2) (fun v12 => some (.ok (), v12.2.1, v12.2.2)))) else (if Int32.ofNat p = 0 then (Option.bind (R (Int32.ofNat d) v10.2.1 v10.2.2) (fun v14 => gzEx v14.1 (fun E => some (.error E, v14.2.1, v14.2.2)) (fun w16 => f_X3_readCondition_11 φ 1 R kc (Int32.ofNat d) 1 (Int32.ofNat x4 + 1) v14.2.1 v14.2.2))) else (Option.bind (f_X2_put 1 1029 v10.2.1 v10.2.2) (fun v18 => Option.bind (R (Int32.ofNat d) v18.2.1 v18.2.2) (fun v20 => gzEx v20.1 (fun E => some (.error E, v20.2.1, v20.2.2)) (fun w22 => f_X3_readCondition_11 φ 1 R kc (Int32.ofNat d) 1 (Int32.ofNat x4 + 1) v20.2.1 v20.2.2))))))) else (Option.bind (R (Int32.ofNat d) v8.2.1 v8.2.2) (fun v24 => gzEx v24.1 (fun E => some (.error E, v24.2.1, v24.2.2)) (fun w26 => Option.bind (f_X2_put 1 1028 v24.2.1 v24.2.2) (fun v28 => f_X3_readCondition_11 φ 1 R kc (Int32.ofNat d) (Int32.ofNat p) (Int32.ofNat x4 + 1) v28.2.1 v28.2.2))))) := by
      rw [f_X3_readCondition_11, if_neg (by rw [gzc_le1 (by omega) (by omega)]; omega)]
    rw [hC, gzn_succ]
    by_cases ha : cd j = 1028
    · -- and
      obtain ⟨A, A1, A2, A3, A4⟩ := c_takeY (J := J) hk hz.1 ha (by decide)
      obtain ⟨B, B1, B2, B3, B4⟩ := m_passY (φ := φ) (J := J') hk hz.2.1 (a := 45) (by omega) (by omega) (by rw [w45]; exact ha) hφ
      have hz1 := gzLz_mo (gzLz_fk hz A2 A3) B2 B3
      have hM : gzMc φ R' p (k1 + 1) (k2 + 1) Im J' = Option.bind (R' B J') (fun v => if ¬ v.1 = 0 then Option.bind (f_X12_emits 16 0 v.2.1 v.2.2) (fun v8 => gzMc φ R' p k1 (k2 + 1) v8.2.1 v8.2.2) else some (0, v.2.1, v.2.2)) := by
        unfold gzMc
        rw [f_X12_readAllOf_9, B1]
        simp only [Option.bind_some]
        rw [if_neg (by decide)]
        refine (gz_bb (A := fun I J => Option.bind (f_X12_emits 16 0 I J) (fun v8 => f_X12_readAllOf_9 φ R' k1 v8.2.1 v8.2.2))).trans ?_
        simp only [Option.bind_assoc]
      rw [hM, A1]
      simp only [Option.bind_some]
      rw [if_neg (by decide)]
      refine gzOk_step (p := p + 1) (n := n) (j := j + 1) ?_ (gzFl_fk A3) (gzMl_mo B3) (Nat.le_refl _) (by omega) (by omega) gzSk_nil
      refine gzOk_bind (Kc := fun I J => Option.bind (f_X2_put 1 1028 I J) (fun v28 => f_X3_readCondition_11 φ 1 R kc (Int32.ofNat d) (Int32.ofNat p) (Int32.ofNat (x4 + 1)) v28.2.1 v28.2.2)) (Km := fun I J => Option.bind (f_X12_emits 16 0 I J) (fun v8 => gzMc φ R' p k1 (k2 + 1) v8.2.1 v8.2.2)) (gzOk_pre (gzPq p) (HR (j + 1) n A B (by omega) hz1) (fun L hL => Nat.le_trans gzPq_len (by omega))) (p2 := p + 1) (fun Ic' Im' j' n' a1 a2 a3 a4 => ?_) (by omega)
      have hj' : j' ≤ c := a4.1.1
      refine gzOk_emit (Kc := fun I J => f_X3_readCondition_11 φ 1 R kc (Int32.ofNat d) (Int32.ofNat p) (Int32.ofNat (x4 + 1)) I J) (Km := fun I J => gzMc φ R' p k1 (k2 + 1) I J) (K := gzPq p) a4 (by omega) (Or.inr (Or.inr (Or.inr (Or.inr (Or.inr (Or.inr (Or.inl ⟨rfl, rfl⟩))))))) (fun L hL => ⟨?_, gzSt_16⟩) (fun Ic2 Im2 hz2 => ?_)
      · have := gzPq_len (p := p) (L := L)
        show (true :: gzPq p L).length ≤ 24
        rw [List.length_cons]; omega
      · exact ih (m - 1) (by omega) p (x4 + 1) kc k1 (k2 + 1) j' (n' + 1) Ic2 Im2 (by omega) (by omega) (by omega) (by omega) hp1 (by omega) (by omega) hz2
    · obtain ⟨B, B1, B2, B3, B4⟩ := m_passN (φ := φ) (J := J') hk hz.2.1 (a := 45) (by omega) (by omega) (by rw [w45]; exact ha) hφ
      have hz1 := gzLz_mo hz B2 B3
      have hM : gzMc φ R' p (k1 + 1) (k2 + 1) Im J' = gzMd φ R' p (k2 + 1) B J' := by
        unfold gzMc
        rw [f_X12_readAllOf_9, B1]
        simp only [Option.bind_some]
        rw [if_pos (by decide)]
        simp only [Option.bind_some]
        rw [if_pos (by decide)]
      rw [hM, c_takeN hz.1 ha]
      simp only [Option.bind_some]
      rw [if_pos (by decide)]
      refine gzOk_step (p := p) (n := n) (j := j) ?_ gzFl_refl (gzMl_mo B3) (Nat.le_refl _) (Nat.le_refl _) (by omega) gzSk_nil
      by_cases ho : cd j = 1029
      · -- or
        obtain ⟨A, A1, A2, A3, A4⟩ := c_takeY (J := J) hk hz.1 ho (by decide)
        rw [A1]
        simp only [Option.bind_some]
        rw [if_neg (by decide)]
        -- the model behind the or
        have hor : ∀ (n : Nat) (Ic Im : gzIT), n + 3 ≤ j → n + 4 ≤ j + 1 → gzLz N c bt bg cd Ic Im (j + 1) j n d → gzOkq N c bt bg cd Ic Im J J' (j + 1) n d 1 (2 * d) (fun L => true :: L) (fun L => true :: L) (Option.bind (R (Int32.ofNat d) Ic J) (fun v14 => gzEx v14.1 (fun E => some (.error E, v14.2.1, v14.2.2)) (fun w16 => f_X3_readCondition_11 φ 1 R kc (Int32.ofNat d) 1 (Int32.ofNat (x4 + 1)) v14.2.1 v14.2.2))) (f_X12_readCond_9 φ R' (k2 + 1) Im J') := by
          intro n Ic Im hn hn4 hz
          obtain ⟨B, B1, B2, B3, B4⟩ := m_passY (φ := φ) (J := J') hk hz.2.1 (a := 46) (by omega) (by omega) (by rw [w46]; exact ho) hφ
          have hM2 : f_X12_readCond_9 φ R' (k2 + 1) Im J' = Option.bind (R' B J') (fun v => if ¬ v.1 = 0 then gzMc φ R' 1 φ k2 v.2.1 v.2.2 else some (0, v.2.1, v.2.2)) := by
            rw [f_X12_readCond_9, B1]
            simp only [Option.bind_some]
            rw [if_neg (by decide)]
            unfold fR_X12_readAllOf
            exact gz_bb (A := fun I J => f_X12_readAllOf_9 φ R' φ I J) (C := fun I J => Option.bind (f_X12_emits 17 0 I J) (fun v8 => f_X12_readCond_9 φ R' k2 v8.2.1 v8.2.2))
          rw [hM2]
          refine gzOk_step (p := 1) (n := n) (j := j + 1) (P := fun L => true :: L) ?_ gzFl_refl (gzMl_mo B3) (Nat.le_refl _) (Nat.le_refl _) (by omega) gzSk_nil
          refine gzOk_bind (Kc := fun I J => f_X3_readCondition_11 φ 1 R kc (Int32.ofNat d) 1 (Int32.ofNat (x4 + 1)) I J) (Km := fun I J => gzMc φ R' 1 φ k2 I J) (gzOk_pre (fun L => true :: L) (HR (j + 1) n Ic B (by omega) (gzLz_mo hz B2 B3)) (fun L hL => by show (true :: L).length ≤ _; rw [List.length_cons]; omega)) (p2 := 1) (fun Ic' Im' j' n' a1 a2 a3 a4 => ?_) (by omega)
          have hj' : j' ≤ c := a4.1.1
          exact ih (c - j') (by omega) 1 (x4 + 1) kc φ k2 j' n' Ic' Im' (by omega) (by omega) (by omega) (by omega) (Nat.le_refl _) (by omega) (by omega) a4
        rcases (show p = 0 ∨ p = 1 by omega) with rfl | rfl
        · rw [if_pos (by decide)]
          show gzOkq N c bt bg cd Ic B J J' j n d 0 (2 * d) (fun L => true :: L) (fun L => true :: L) _ (f_X12_readCond_9 φ R' (k2 + 1) B J')
          exact gzOk_step (hor n A B (by omega) (by omega) (gzLz_fk hz1 A2 A3)) (gzFl_fk A3) gzMl_refl (Nat.le_refl _) (by omega) (by omega) gzSk_nil
        · rw [if_neg (by decide)]
          obtain ⟨A', B', e1, e2, e3, e4, e5, e6⟩ := r_emit (J := J) (J' := J') (x := 1029) (a := 17) (b := 0) (gzLz_fk hz1 A2 A3) (by omega) (Or.inr (Or.inr (Or.inr (Or.inr (Or.inr (Or.inr (Or.inr ⟨rfl, rfl⟩)))))))
          have hM3 : gzMd φ R' 1 (k2 + 1) B J' = f_X12_readCond_9 φ R' (k2 + 1) B' J' := by
            show Option.bind (f_X12_emits 17 0 B J') _ = _
            rw [e2]
            rfl
          rw [e1, hM3]
          simp only [Option.bind_some]
          exact gzOk_step (hor (n + 1) A' B' (by omega) (by omega) e3) (gzFl_trans (gzFl_fk A3) e4) e5 (by omega) (by omega) (by omega) (gzSk_one (fun L hL => ⟨by show (true :: true :: L).length ≤ 24; rw [List.length_cons, List.length_cons]; omega, by rw [e6]; rfl⟩))
      · -- the end
        rw [c_takeN hz.1 ho]
        simp only [Option.bind_some]
        rw [if_pos (by decide)]
        have hend : ∀ (n : Nat) (Ic Im : gzIT), gzLz N c bt bg cd Ic Im j j n d → gzOkq N c bt bg cd Ic Im J J' j n d 0 (2 * d) (fun L => true :: L) (fun L => true :: L) (some (.ok (), Ic, J)) (f_X12_readCond_9 φ R' (k2 + 1) Im J') := by
          intro n Ic Im hz
          obtain ⟨B, B1, B2, B3, B4⟩ := m_passN (φ := φ) (J := J') hk hz.2.1 (a := 46) (by omega) (by omega) (by rw [w46]; exact ho) hφ
          rw [f_X12_readCond_9, B1]
          simp only [Option.bind_some]
          rw [if_pos (by decide)]
          exact gzOk_step (gzOk_ok (gzLz_mo hz B2 B3)) gzFl_refl (gzMl_mo B3) (Nat.le_refl _) (Nat.le_refl _) (by omega) gzSk_nil
        rcases (show p = 0 ∨ p = 1 by omega) with rfl | rfl
        · rw [if_pos (by decide)]
          exact hend n Ic B hz1
        · rw [if_neg (by decide)]
          refine gzOk_emit (Kc := fun I J => some (.ok (), I, J)) (Km := fun I J => f_X12_readCond_9 φ R' (k2 + 1) I J) (K := fun L => true :: L) hz1 (by omega) (Or.inr (Or.inr (Or.inr (Or.inr (Or.inr (Or.inr (Or.inr ⟨rfl, rfl⟩))))))) (fun L hL => ⟨by show (true :: true :: L).length ≤ 24; rw [List.length_cons, List.length_cons]; omega, rfl⟩) (fun A B hz2 => hend (n + 1) A B hz2)
theorem r_cond {R : Int32 → gzIT → gzJT → Option (Except String Unit × gzIT × gzJT)} {R' : gzIT → gzJT → Option (Int32 × gzIT × gzJT)} (hk : gzTkq N c bt bg en cd) (hφ : 500 < φ) (hd : d ≤ 6) (HR : ∀ (j n : Nat) (Ic Im : gzIT), n + 3 ≤ j → gzLz N c bt bg cd Ic Im j j n d → gzOkq N c bt bg cd Ic Im J J' j n d 0 (2 * d + 2) (fun L => L) (fun L => true :: L) (R (Int32.ofNat d) Ic J) (R' Im J')) {j n : Nat} (hn : n + 3 ≤ j) (hz : gzLz N c bt bg cd Ic Im j j n d) : gzOkq N c bt bg cd Ic Im J J' j n d 0 (2 * d) (fun L => L) (fun L => true :: L) (fR_X3_readCondition φ 1 R (Int32.ofNat d) Ic J) (fR_X12_readCond φ R' Im J') := by
  have hcN := hk.1
  have hN := hk.2.1
  have hM : fR_X12_readCond φ R' Im J' = Option.bind (R' Im J') (fun v => if ¬ v.1 = 0 then gzMc φ R' 0 φ φ v.2.1 v.2.2 else some (0, v.2.1, v.2.2)) := by
    unfold fR_X12_readCond fR_X12_readAllOf
    exact gz_bb (A := fun I J => f_X12_readAllOf_9 φ R' φ I J) (C := fun I J => f_X12_readCond_9 φ R' φ I J)
  rw [hM]
  unfold fR_X3_readCondition
  refine gzOk_bind (Kc := fun I J => f_X3_readCondition_11 φ 1 R φ (Int32.ofNat d) 0 0 I J) (Km := fun I J => gzMc φ R' 0 φ φ I J) (gzOk_pre (lim2 := 2 * d) (fun L => L) (HR j n Ic Im hn hz) (fun L hL => by omega)) (p2 := 0) (fun Ic' Im' j' n' a1 a2 a3 a4 => ?_) (by omega)
  have hj' : j' ≤ c := a4.1.1
  exact r_condL (J := J) (J' := J') hk hφ hd HR c 0 0 φ φ φ j' n' Ic' Im' (by omega) (by omega) (by omega) (by omega) (by omega) (by omega) (by omega) a4
end
