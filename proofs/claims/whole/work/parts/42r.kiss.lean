/-! draws and kisses -/
/-- how many of i .. i + m - 1 -/
def gzQn (P : Nat → Bool) : Nat → Nat → Nat
  | _, 0 => 0
  | i, m + 1 => (if P i = true then 1 else 0) + gzQn P (i + 1) m
theorem gzQn_l {P : Nat → Bool} : ∀ m i, gzQn P i (m + 1) = gzQn P i m + (if P (i + m) = true then 1 else 0) := by
  intro m
  induction m with
  | zero => intro i; exact Nat.add_comm _ _
  | succ m ih =>
    intro i
    show (if P i = true then 1 else 0) + gzQn P (i + 1) (m + 1) = ((if P i = true then 1 else 0) + gzQn P (i + 1) m) + _
    rw [ih, show i + 1 + m = i + (m + 1) by omega, Nat.add_assoc]
theorem gz_bcs : ∀ n, n < 10 → ∀ x, x < 2 ^ n → Int32.ofNat x ||| gzbt n = Int32.ofNat (x + 2 ^ n) ∧ gzBc (Int32.ofNat (x + 2 ^ n)) = gzBc (Int32.ofNat x) + 1 := by decide +kernel
theorem gzSe_qn {P : Nat → Bool} : ∀ n, n ≤ 10 → ∃ x, x < 2 ^ n ∧ gzSe P n = Int32.ofNat x ∧ gzBc (Int32.ofNat x) = Int32.ofNat (gzQn P 0 n) ∧ (x = 0 ↔ gzQn P 0 n = 0) ∧ gzQn P 0 n ≤ n := by
  intro n
  induction n with
  | zero => intro _; exact ⟨0, by decide, rfl, (by decide +kernel : gzBc (Int32.ofNat 0) = Int32.ofNat 0), ⟨fun _ => rfl, fun _ => rfl⟩, Nat.le_refl 0⟩
  | succ n ih =>
    intro hn
    obtain ⟨x, h1, h2, h3, h4, h5⟩ := ih (by omega)
    have e : gzSe P (n + 1) = gzSe P n ||| (if P n = true then gzbt n else 0) := by
      unfold gzSe
      rw [gzFo_last, Nat.zero_add]
    rw [gzQn_l, Nat.zero_add, e, h2]
    have h2n : 2 ^ (n + 1) = 2 ^ n + 2 ^ n := by rw [Nat.pow_succ]; omega
    by_cases q : P n = true
    · obtain ⟨b1, b2⟩ := gz_bcs n (by omega) x h1
      rw [if_pos q, if_pos q]
      refine ⟨x + 2 ^ n, by omega, b1, ?_, ?_, by omega⟩
      · rw [b2, h3, gzn_succ]
      · constructor
        · intro z; omega
        · intro z; omega
    · rw [if_neg q, if_neg q, gz_or0]
      exact ⟨x, by omega, rfl, h3, h4, by omega⟩
theorem gz_dbits (x : Int32) : (x.toUInt32 >>> ((16 : Int32).toUInt32 &&& Int32.toUInt32 31)).toInt32 &&& 32767 = (x >>> ((16 : Int32) &&& 31)) &&& 32767 := by
  apply Int32.toBitVec_inj.mp
  apply BitVec.eq_of_getLsbD_eq
  intro i hi
  rw [Int32.toBitVec_and, Int32.toBitVec_and, BitVec.getLsbD_and, BitVec.getLsbD_and]
  have e1 : ((x.toUInt32 >>> ((16 : Int32).toUInt32 &&& Int32.toUInt32 31)).toInt32).toBitVec = x.toBitVec >>> (16 : Nat) := by
    show (x.toUInt32 >>> ((16 : Int32).toUInt32 &&& Int32.toUInt32 31)).toBitVec = _
    rw [UInt32.toBitVec_shiftRight]
    rfl
  have e2 : (x >>> ((16 : Int32) &&& 31)).toBitVec = x.toBitVec.sshiftRight 16 := by
    rw [Int32.toBitVec_shiftRight]
    rfl
  rw [e1, e2, BitVec.getLsbD_ushiftRight, BitVec.getLsbD_sshiftRight]
  by_cases h : i < 15
  · rw [decide_eq_false (show ¬ 32 ≤ i by omega), if_pos (show 16 + i < 32 by omega)]
    simp
  · have z : ∀ i, i < 32 → 15 ≤ i → (32767 : Int32).toBitVec.getLsbD i = false := by decide
    rw [z i hi (by omega), Bool.and_false, Bool.and_false]
theorem gz_draw (x : Int32) : ∃ X : Nat, X < 32768 ∧ ((x >>> ((16 : Int32) &&& 31)) &&& 32767) = Int32.ofNat X := by
  refine ⟨(((x >>> ((16 : Int32) &&& 31)) &&& 32767)).toBitVec.toNat, ?_, ?_⟩
  · rw [Int32.toBitVec_and, BitVec.toNat_and]
    have : (32767 : Int32).toBitVec.toNat = 32767 := rfl
    rw [this]
    exact Nat.lt_of_le_of_lt Nat.and_le_right (by decide)
  · apply Int32.toBitVec_inj.mp
    apply BitVec.eq_of_toNat_eq
    show _ = (BitVec.ofNat 32 _).toNat
    rw [BitVec.toNat_ofNat, Nat.mod_eq_of_lt]
    exact BitVec.isLt _
section
variable {I I' I2 X T Ic Im Ic' Im' Ic2 Im2 M : gzIT} {J : gzJT} {w w2 v : Nat → Int32} {nf ng nl nx nl2 nx2 t t1 φ : Nat}
/-- what stays of a world but for kisses and draws -/
def gzKs (Im Im' : gzIT) (nf : Nat) : Prop := ∀ k, (k < 8 ∨ (10 ≤ k ∧ k < 30 + 4 * nf)) → Im' 0 48 k = Im 0 48 k
/-- a draw -/
theorem r_draw (hS : gzSm Ic t Im nf ng) : ∃ (x : Nat) (Ic' Im' : gzIT), x < 32768 ∧ f_X8_draw t Ic J = some (Int32.ofNat x, Ic', J) ∧ (∀ (a : Nat) (J' : gzJT), 0 < a → a < 1000 → f_X12_drawn (Int32.ofNat a) Im J' = some (Int32.ofNat (x % a), Im', J')) ∧ gzSm Ic' t Im' nf ng ∧ gzSx t Ic Ic' Im Im' ∧ gzKs Im Im' nf ∧ (∀ j, j ≠ 9 → Im' 0 48 j = Im 0 48 j) := by
  obtain ⟨⟨nl, nx, hT, hx⟩, hlaw⟩ := id hS
  have n3 := hT.1.1
  have n4 := hT.1.2.1
  have h9 : Ic t 0 11 = Im 0 48 9 := hT.2.1.2.2.2.2.2
  obtain ⟨s, es⟩ : ∃ s, s = (1103515245 * (Im 0 48 9)) + 12345 := ⟨_, rfl⟩
  obtain ⟨x, hx1, hx2⟩ := gz_draw s
  obtain ⟨C, eC⟩ : ∃ C, C = gz_ui Ic t 0 11 s := ⟨_, rfl⟩
  have Cn : ∀ t' o k, ¬ (t' = t ∧ o = 0 ∧ k = 11) → C t' o k = Ic t' o k := fun t' o k q => by rw [eC]; exact if_neg q
  have Cs : C t 0 11 = s := by rw [eC]; exact gz_ui_s
  obtain ⟨N, eN⟩ : ∃ N, N = gz_ui Im 0 48 9 s := ⟨_, rfl⟩
  have Nn : ∀ t' o k, ¬ (t' = 0 ∧ o = 48 ∧ k = 9) → N t' o k = Im t' o k := fun t' o k q => by rw [eN]; exact if_neg q
  have Ns : N 0 48 9 = s := by rw [eN]; exact gz_ui_s
  refine ⟨x, C, N, hx1, ?_, fun a J' ha ha2 => ?_, ?_, ?_, fun k hk => Nn 0 48 k (by omega), fun j hj => Nn 0 48 j (by omega)⟩
  · unfold f_X8_draw
    rw [h9, ← es, gz_dbits, hx2, ← eC]
  · unfold f_X12_drawn gzGn
    rw [if_neg (by rw [gzc_eq2 (by omega) (by omega)]; omega), ← es, hx2, ← eN, gzc_divs (by omega) (by omega), gzc_muls, gzc_subs (Nat.div_mul_le_self x a), show x - x / a * a = x % a by
      have := Nat.div_add_mod x a
      rw [Nat.mul_comm] at this
      omega]
  · have up := gzSm_upd (Ic' := C) (Im' := N) (D := fun o j => o = 0 ∧ j = 11) (E := fun i => i = 9) hT hx hlaw (fun o j ho q _ => Cn t o j (by omega)) (fun j _ _ q => Nn 0 48 j (by omega)) (fun o j i q => by
      unfold gzQp at q
      by_cases e : o = 0 ∧ j = 11
      · left
        obtain ⟨rfl, rfl⟩ := e
        rw [Cs, show i = 9 by omega, Ns]
      · right
        exact ⟨e, by omega⟩) ⟨by omega, by omega, by omega, by omega, by omega, fun g hg => ⟨by omega, by omega, by omega⟩⟩ (fun i _ e => by
      have e' : i = 9 := e
      rw [e']
      exact gz_bd0 (by omega)) (gzLg_same hT.2.2.2.2.2.2 (fun o j q => Cn t o j (by omega)) (fun j q => Nn 0 48 j (by omega))) (fun o k q1 q2 => Cn 0 o k (by omega)) (fun k q => Nn 0 48 k (by omega))
    exact ⟨⟨_, _, up.1⟩, up.2⟩
  · exact ⟨fun t' o k q1 q2 => Cn t' o k (by omega), fun t' o k q1 q2 => Nn t' o k (by omega), Nn 0 48 3 (by omega), fun k => Cn t 13 k (by omega), fun k => Or.inl (Cn t 14 k (by omega)), Cn t 0 9 (by omega)⟩
/-- the one whose place was drawn -/
theorem r_place (hT : gzTn Ic t (Im 0 48) nf ng nl nx) (hx : gzWx (Im 0 48) nf ng nl) : ∀ (m g p k k' : Nat), g + m = ng → p < gzQn (fun g => !tH (Im 0 48) g) g m → m < k → m < k' → ∃ j, j < ng ∧ f_X8_kissByDraw_40 φ t k (Int32.ofNat p) (Int32.ofNat g) Ic J = Option.bind (f_X8_lose t (Int32.ofNat j) 4 ((Im 0 48 (58 + 7 * j) + 1) / 2) Ic J) (fun v17 => some ((), v17.2.1, v17.2.2)) ∧ ∀ J' : gzJT, f_X12_maybeKissed_48 φ k' (gzSe (fun g => !tH (Im 0 48) g) ng) (Int32.ofNat p) (Int32.ofNat g) Im J' = Option.bind (f_X12_tells φ (Int32.ofNat j) 4 ((Im 0 48 (58 + 7 * j) + 1) / 2) (gz_ui Im 0 48 (58 + 7 * j) (Im 0 48 (58 + 7 * j) - (Im 0 48 (58 + 7 * j) + 1) / 2)) J') (fun v22 => some ((), v22.2.1, v22.2.2)) := by
  have n4 := hT.1.2.1
  obtain ⟨vm, vb⟩ := gzV_m hT hx.1
  have vc := gzV_c hT hx.1
  have hm : gzVi Im (Im 0 48) nf ng := ⟨fun _ _ => rfl, vm, vb⟩
  intro m
  induction m with
  | zero =>
    intro g p k k' hg hp
    exact absurd hp (Nat.not_lt_zero _)
  | succ m ih =>
    intro g p k k' hg hp hk hk'
    obtain ⟨k, rfl⟩ : ∃ q, k = q + 1 := ⟨k - 1, by omega⟩
    obtain ⟨k', rfl⟩ : ∃ q, k' = q + 1 := ⟨k' - 1, by omega⟩
    have hp2 : p < (if (!tH (Im 0 48) g) = true then 1 else 0) + gzQn (fun g => !tH (Im 0 48) g) (g + 1) m := hp
    have hple : gzQn (fun g => !tH (Im 0 48) g) (g + 1) m ≤ m := by
      clear ih hp hp2 hk hk' hg
      induction m generalizing g with
      | zero => exact Nat.le_refl _
      | succ m ih =>
        show (if _ then 1 else 0) + gzQn _ (g + 1 + 1) m ≤ m + 1
        have := ih (g + 1)
        split <;> omega
    have hb : gzB (gzSe (fun g => !tH (Im 0 48) g) ng) g = !tH (Im 0 48) g := by
      rw [gzSe_b (by omega) (by omega), decide_eq_true (show g < ng by omega), Bool.true_and]
    by_cases x : tH (Im 0 48) g = true
    · have hp3 : p < gzQn (fun g => !tH (Im 0 48) g) (g + 1) m := by
        rw [x] at hp2
        simpa using hp2
      obtain ⟨j, hj, i1, i2⟩ := ih (g + 1) p k k' (by omega) hp3 (by omega) (by omega)
      refine ⟨j, hj, ?_, fun J' => ?_⟩
      · rw [f_X8_kissByDraw_40, vc.1.2.1, if_neg (by rw [gzn_le (by omega) (by omega)]; omega), c_frozen vc (by omega), if_pos x]
        simp only [Option.bind_some]
        rw [if_pos (by simp), gzn_succ]
        exact i1
      · rw [f_X12_maybeKissed_48, m_has (by omega), hb, x]
        simp only [Option.bind_some]
        rw [if_pos (by decide), gzn_succ, if_pos (by decide), Int32.sub_zero]
        exact i2 J'
    · have hx2 : tH (Im 0 48) g = false := by simpa using x
      cases p with
      | zero =>
        refine ⟨g, by omega, ?_, fun J' => ?_⟩
        · rw [f_X8_kissByDraw_40, vc.1.2.1, if_neg (by rw [gzn_le (by omega) (by omega)]; omega), c_frozen vc (by omega), if_neg x]
          simp only [Option.bind_some]
          rw [if_neg (by decide), if_neg (by decide), gzc_cell (by omega) (by omega), vc.2.2.2.2.2.1 g (by omega)]
          simp only [Option.bind_some]
        · rw [f_X12_maybeKissed_48, m_has (by omega), hb, hx2]
          simp only [Option.bind_some]
          rw [if_neg (by decide), if_pos (by decide), m_of4 hm (by omega)]
          unfold f_X12_at
          simp only [Option.bind_some]
          rw [gzc_mul, gzc_add', gzc_add, gzGd_in (by omega) (by omega), gzn_clamp (by omega), show 54 + 7 * g + 4 = 58 + 7 * g by omega]
      | succ p =>
        have hp3 : p < gzQn (fun g => !tH (Im 0 48) g) (g + 1) m := by
          rw [hx2, if_pos (by rfl)] at hp2
          omega
        obtain ⟨j, hj, i1, i2⟩ := ih (g + 1) p k k' (by omega) hp3 (by omega) (by omega)
        refine ⟨j, hj, ?_, fun J' => ?_⟩
        · rw [f_X8_kissByDraw_40, vc.1.2.1, if_neg (by rw [gzn_le (by omega) (by omega)]; omega), c_frozen vc (by omega), if_neg x]
          simp only [Option.bind_some]
          rw [if_neg (by decide), if_pos (by rw [gzc_eq2 (by omega) (by omega)]; omega), gz_subm, gzc_sub (k := 1) (show 1 ≤ p + 1 by omega), show p + 1 - 1 = p by omega, gzn_succ]
          exact i1
        · rw [f_X12_maybeKissed_48, m_has (by omega), hb, hx2]
          simp only [Option.bind_some]
          rw [if_neg (by decide), if_neg (by rw [gzc_le2 (by omega) (by omega)]; omega), gzn_succ, if_neg (by decide), gzc_sub (k := 1) (show 1 ≤ p + 1 by omega), show p + 1 - 1 = p by omega]
          exact i2 J'
theorem r_kiss (hS : gzSm Ic t Im nf ng) (hφ : 500 < φ) : ∃ (Ic' Im' : gzIT), f_X8_kissByDraw φ t Ic J = some ((), Ic', J) ∧ (∀ J' : gzJT, f_X12_maybeKissed φ Im J' = some ((), Im', J')) ∧ gzSm Ic' t Im' nf ng ∧ gzSx t Ic Ic' Im Im' ∧ gzKs Im Im' nf := by
  obtain ⟨x, C1, N1, hx1, cd1, md1, S1, X1, Z1, W1⟩ := r_draw (J := J) hS
  obtain ⟨⟨nl, nx, hT, hx⟩, hlaw⟩ := id S1
  have n3 := hT.1.1
  have n4 := hT.1.2.1
  obtain ⟨vm, vb⟩ := gzV_m hT hx.1
  have vc := gzV_c hT hx.1
  have hm : gzVi N1 (N1 0 48) nf ng := ⟨fun _ _ => rfl, vm, vb⟩
  have h10 : C1 t 0 10 = N1 0 48 7 := hT.2.1.2.2.2.2.1
  have m100 : ∀ J' : gzJT, f_X12_drawn 100 Im J' = some (Int32.ofNat (x % 100), N1, J') := fun J' => md1 100 J' (by omega) (by omega)
  have c100 : Int32.ofNat x - Int32.ofNat x / 100 * 100 = Int32.ofNat (x % 100) := by
    rw [gzc_div (by omega) (by omega), gzc_mul', gzc_subs (by omega), show x - x / 100 * 100 = x % 100 by omega]
  obtain ⟨b, hb1, hb2, hb3, hb4, hb5⟩ := gzSe_qn (P := fun g => !tH (N1 0 48) g) ng n4
  have hst := m_standing (φ := φ) hm (by omega)
  have hcs := c_standing (φ := φ) vc (by omega)
  by_cases q : Int32.ofNat (x % 100) < N1 0 48 7
  · have qn : ¬ N1 0 48 7 ≤ Int32.ofNat (x % 100) := fun z => by
      have a1 := Int32.lt_iff_toInt_lt.mp q
      have a2 := Int32.le_iff_toInt_le.mp z
      omega
    by_cases z : gzQn (fun g => !tH (N1 0 48) g) 0 ng = 0
    · refine ⟨C1, N1, ?_, fun J' => ?_, S1, X1, Z1⟩
      · unfold f_X8_kissByDraw
        rw [cd1]
        simp only [Option.bind_some]
        rw [c100, h10, if_pos q, hcs]
        simp only [Option.bind_some]
        rw [hb2, gzBc_eq, hb3, z]
        simp only [Option.bind_some]
        rw [if_neg (by decide)]
      · unfold f_X12_maybeKissed
        rw [m100]
        simp only [Option.bind_some]
        rw [hst]
        simp only [Option.bind_some]
        rw [if_neg (show ¬ (if N1 0 48 7 ≤ Int32.ofNat (x % 100) then (0 : Int32) else 1) = 0 by rw [if_neg qn]; decide), hb2, hb4.mpr z, if_neg (by decide)]
    · obtain ⟨x2, C2, N2, hx2, cd2, md2, S2, X2, Z2, W2⟩ := r_draw (J := J) S1
      obtain ⟨⟨nl2, nx2, hT2, hx22⟩, hlaw2⟩ := id S2
      obtain ⟨ct, ect⟩ : ∃ ct, ct = gzQn (fun g => !tH (N1 0 48) g) 0 ng := ⟨_, rfl⟩
      rw [← ect] at z hb3 hb4 hb5
      have heH : ∀ g, g < ng → tH (N2 0 48) g = tH (N1 0 48) g := fun g hg => by unfold tH; rw [W2 _ (by omega)]
      have hct2 : ∀ m g, g + m ≤ ng → gzQn (fun g => !tH (N2 0 48) g) g m = gzQn (fun g => !tH (N1 0 48) g) g m := by
        intro m
        induction m with
        | zero => intro g _; rfl
        | succ m ih =>
          intro g hg
          show (if (!tH (N2 0 48) g) = true then 1 else 0) + _ = (if (!tH (N1 0 48) g) = true then 1 else 0) + _
          rw [heH g (by omega), ih (g + 1) (by omega)]
      have hse2 : gzSe (fun g => !tH (N2 0 48) g) ng = gzSe (fun g => !tH (N1 0 48) g) ng := by
        unfold gzSe
        refine gzFo_congr _ _ _ fun s j _ hj => ?_
        show (s ||| if (!tH (N2 0 48) j) = true then gzbt j else 0) = (s ||| if (!tH (N1 0 48) j) = true then gzbt j else 0)
        rw [heH j (by omega)]
      have hlt : x2 % ct < gzQn (fun g => !tH (N2 0 48) g) 0 ng := by
        rw [hct2 ng 0 (by omega), ← ect]
        exact Nat.mod_lt _ (by omega)
      have hmod : Int32.ofNat x2 - Int32.ofNat x2 / Int32.ofNat ct * Int32.ofNat ct = Int32.ofNat (x2 % ct) := by
        rw [gzc_divs (by omega) (by omega), gzc_muls, gzc_subs (Nat.div_mul_le_self x2 ct), show x2 - x2 / ct * ct = x2 % ct by
          have := Nat.div_add_mod x2 ct
          rw [Nat.mul_comm] at this
          omega]
      obtain ⟨j, hj, i1, i2⟩ := r_place (J := J) (φ := φ) hT2 hx22 ng 0 (x2 % ct) φ φ (by omega) hlt (by omega) (by omega)
      have hl := hT2.2.2.2.2.2.2
      obtain ⟨C, hlose, Cn, Cs, Cc1, Cc2, Cc3, Cc4⟩ := c_lose (J := J) (I := C2) (t := t) (k := j) (a2 := 4) (a3 := (N2 0 48 (58 + 7 * j) + 1) / 2) (nl := nl2) (nx := nx2) (by omega) hl.2.2.1 hl.2.2.2.2.1 hl.1 hl.2.1
      have vc2 := gzV_c hT2 hx22.1
      have bI := (hx22.1.2.2.2.2.2 j hj).2.1
      obtain ⟨y, ey⟩ : ∃ y, y = N2 0 48 (58 + 7 * j) - (N2 0 48 (58 + 7 * j) + 1) / 2 := ⟨_, rfl⟩
      have by1 : 0 ≤ y.toInt ∧ y.toInt ≤ 999 := by
        obtain ⟨a, ha, ea⟩ := gzn_of bI.1
        rw [ea, gzn_int ha] at bI
        rw [ey, ea, gzc_add, gzc_div (by omega) (by omega), gzc_subs (by omega), gzn_int (by omega)]
        omega
      have Csy : C t 12 j = y := by rw [Cs, vc2.2.2.2.2.2.1 j hj, ← ey]
      obtain ⟨N3, eN3⟩ : ∃ N3, N3 = gz_ui N2 0 48 (58 + 7 * j) y := ⟨_, rfl⟩
      have N3n : ∀ t' o k, ¬ (t' = 0 ∧ o = 48 ∧ k = 58 + 7 * j) → N3 t' o k = N2 t' o k := fun t' o k q => by rw [eN3]; exact if_neg q
      have N3s : N3 0 48 (58 + 7 * j) = y := by rw [eN3]; exact gz_ui_s
      obtain ⟨T, htell, Tn, T8, T4, Tsh⟩ := m_tells (I := N3) (φ := φ) (nl := nl2) (a1 := Int32.ofNat j) (a2 := 4) (a3 := (N2 0 48 (58 + 7 * j) + 1) / 2) ((N3n 0 48 8 (by omega)).trans hl.2.2.2.1) hl.1 (by omega)
      have Tw : ∀ k, k ≠ 58 + 7 * j → ¬ (k = 8 ∨ (124 ≤ k ∧ k < 364)) → T 0 48 k = N2 0 48 k := fun k q1 q2 => (Tn 0 48 k (by omega)).trans (N3n 0 48 k (by omega))
      have Ty : T 0 48 (58 + 7 * j) = y := (Tn 0 48 _ (by omega)).trans N3s
      have S3 : gzSm C t T nf ng := by
        have up := gzSm_upd (Ic' := C) (Im' := T) (D := fun o i => o = 12 ∧ i = j) (E := fun i => i = 58 + 7 * j) hT2 hx22 hlaw2 (fun o i ho q q2 => Cn t o i (by omega)) (fun i hi h8 q => Tw i q (by omega)) (fun o i' i q => by
          unfold gzQp at q
          by_cases e : o = 12 ∧ i' = j
          · left
            obtain ⟨rfl, rfl⟩ := e
            rw [Csy, show i = 58 + 7 * i' by omega, Ty]
          · right
            exact ⟨e, by omega⟩) ⟨by omega, by omega, by omega, by omega, by omega, fun g hg => ⟨by omega, by omega, by omega⟩⟩ (fun i _ e => by
          have e' : i = 58 + 7 * j := e
          rw [e', Ty]
          exact gz_bdI n3 hj by1) (gzLg_push (w2 := T 0 48) hl Cc1 Cc2 ⟨by rw [Cc3.1, T4.1, N3n 0 48 4 (by omega)]; exact hT2.2.1.2.1, by rw [Cc3.2.1, T4.2.1], by rw [Cc3.2.2.1, T4.2.2.1], by rw [Cc3.2.2.2, T4.2.2.2]⟩ (fun i q => Cc4 i q) T8 (fun i q => by rw [Tsh i q, N3n 0 48 _ (by omega)])) (fun o k q1 q2 => Cn 0 o k (by omega)) (fun k q => Tw k (by omega) (by omega))
        exact ⟨⟨_, _, up.1⟩, up.2⟩
      have X3 : gzSx t C2 C N2 T := ⟨fun t' o k q1 q2 => Cn t' o k (by omega), fun t' o k q1 q2 => (Tn t' o k (by omega)).trans (N3n t' o k (by omega)), Tw 3 (by omega) (by omega), fun k => Cn t 13 k (by omega), fun k => Or.inl (Cn t 14 k (by omega)), Cn t 0 9 (by omega)⟩
      refine ⟨C, T, ?_, fun J' => ?_, S3, gzSx_t X1 (gzSx_t X2 X3), fun k hk => (Tw k (by omega) (by omega)).trans ((Z2 k hk).trans (Z1 k hk))⟩
      · unfold f_X8_kissByDraw
        rw [cd1]
        simp only [Option.bind_some]
        rw [c100, h10, if_pos q, hcs]
        simp only [Option.bind_some]
        rw [hb2, gzBc_eq, hb3]
        simp only [Option.bind_some]
        rw [if_pos (by rw [gzc_eq2 (by omega) (by omega)]; exact z), cd2]
        simp only [Option.bind_some]
        unfold gzGn
        rw [if_neg (by rw [gzc_eq2 (by omega) (by omega)]; exact z), hmod, show f_X8_kissByDraw_40 φ t φ (Int32.ofNat (x2 % ct)) 0 C2 J = _ from i1, hlose]
        rfl
      · unfold f_X12_maybeKissed
        rw [m100]
        simp only [Option.bind_some]
        rw [hst]
        simp only [Option.bind_some]
        have hset : ¬ gzSe (fun g => !tH (N1 0 48) g) ng = 0 := by
          rw [hb2, gzc_eq2 (by omega) (Nat.lt_of_lt_of_le hb1 (Nat.le_trans (Nat.pow_le_pow_right (n := 2) (by decide) n4) (by decide)))]
          intro e
          exact z (hb4.mp e)
        have i2' := i2 J'
        rw [hse2] at i2'
        rw [if_neg (show ¬ (if N1 0 48 7 ≤ Int32.ofNat (x % 100) then (0 : Int32) else 1) = 0 by rw [if_neg qn]; decide), if_pos hset, gzBc_eq, hb2, hb3]
        simp only [Option.bind_some]
        rw [md2 ct J' (by omega) (by omega)]
        simp only [Option.bind_some]
        rw [← hb2, show f_X12_maybeKissed_48 φ φ (gzSe (fun g => !tH (N1 0 48) g) ng) (Int32.ofNat (x2 % ct)) 0 N2 J' = _ from i2', ← ey, ← eN3, htell]
        rfl
  · have qn : N1 0 48 7 ≤ Int32.ofNat (x % 100) := by
      apply Int32.le_iff_toInt_le.mpr
      have : ¬ (Int32.ofNat (x % 100)).toInt < (N1 0 48 7).toInt := fun z => q (Int32.lt_iff_toInt_lt.mpr z)
      omega
    refine ⟨C1, N1, ?_, fun J' => ?_, S1, X1, Z1⟩
    · unfold f_X8_kissByDraw
      rw [cd1]
      simp only [Option.bind_some]
      rw [c100, h10, if_neg q]
    · unfold f_X12_maybeKissed
      rw [m100]
      simp only [Option.bind_some]
      rw [hst]
      simp only [Option.bind_some]
      rw [if_pos (show (if N1 0 48 7 ≤ Int32.ofNat (x % 100) then (0 : Int32) else 1) = 0 from if_pos qn)]
end
