/-! the law's reader, both sides: codes, parts, sums -/
/-- both are in the law's text, the class at thing jc, the model at jm, with n codes so far, d deep -/
def gzLz (N c : Nat) (bt bg : Nat → Nat) (cd : Nat → Int32) (Ic Im : gzIT) (jc jm n d : Nat) : Prop := gzCa c bg cd jc Ic ∧ gzMa N c bt bg jm Im ∧ Ic 1 20 8 = Int32.ofNat n ∧ Im 0 47 16 = Int32.ofNat n ∧ Im 0 47 13 = Int32.ofNat d ∧ ∀ i, i < n → gzCd (Ic 1 25 i) (Im 0 48 (1262 + 2 * i)) (Im 0 48 (1263 + 2 * i))
def gzFl (I I' : gzIT) : Prop := ∀ t o k, ¬ (t = 0 ∧ o = 33 ∧ (k = 4 ∨ k = 5 ∨ k = 6)) → ¬ (t = 1 ∧ (o = 25 ∨ (o = 20 ∧ k = 8))) → I' t o k = I t o k
def gzMl (n : Nat) (I I' : gzIT) : Prop := ∀ t o k, ¬ (t = 0 ∧ o = 47 ∧ (k = 10 ∨ k = 12 ∨ k = 13 ∨ k = 16)) → ¬ (t = 0 ∧ o = 48 ∧ 1262 + 2 * n ≤ k) → I' t o k = I t o k
def gzFf (I I' : gzIT) : Prop := ∀ t o k, ¬ (t = 0 ∧ o = 33 ∧ k ≠ 3) → ¬ (t = 1 ∧ 20 ≤ o ∧ o < 26) → I' t o k = I t o k
def gzMf (I I' : gzIT) : Prop := ∀ t o k, ¬ (t = 0 ∧ o = 47 ∧ (k = 10 ∨ k = 12 ∨ k = 13 ∨ k = 16)) → ¬ (t = 0 ∧ o = 48 ∧ 1213 ≤ k) → I' t o k = I t o k
/-- the stack's kinds by the codes from n to n' -/
def gzSk (I : gzIT) (n n' lim : Nat) (P K : List Bool → List Bool) : Prop := ∀ L : List Bool, L.length ≤ lim → gzSh (fun i => I 0 48 (1213 + i)) n (n' - n) (P L) = some (K L)
theorem gzSh_app {v : Nat → Int32} : ∀ (m k i : Nat) (L : List Bool), gzSh v i (m + k) L = (gzSh v i m L).bind (fun L' => gzSh v (i + m) k L') := by
  intro m
  induction m with
  | zero => intro k i L; rw [Nat.zero_add]; rfl
  | succ m ih =>
    intro k i L
    rw [show m + 1 + k = (m + k) + 1 by omega]
    show (if 24 < L.length then none else (gzSt (v (49 + 2 * i)) L).bind (fun L' => gzSh v (i + 1) (m + k) L')) = (if 24 < L.length then none else (gzSt (v (49 + 2 * i)) L).bind (fun L' => gzSh v (i + 1) m L')).bind _
    by_cases z : 24 < L.length
    · rw [if_pos z, if_pos z]; rfl
    · rw [if_neg z, if_neg z]
      cases gzSt (v (49 + 2 * i)) L with
      | none => rfl
      | some L' =>
        show gzSh v (i + 1) (m + k) L' = (gzSh v (i + 1) m L').bind _
        rw [ih k (i + 1) L', show i + 1 + m = i + (m + 1) by omega]
theorem gzSh_cg {v v' : Nat → Int32} : ∀ (m i : Nat) (L : List Bool), (∀ q, i ≤ q → q < i + m → v' (49 + 2 * q) = v (49 + 2 * q)) → gzSh v' i m L = gzSh v i m L := by
  intro m
  induction m with
  | zero => intro i L _; rfl
  | succ m ih =>
    intro i L h
    show (if 24 < L.length then none else (gzSt (v' (49 + 2 * i)) L).bind (fun L' => gzSh v' (i + 1) m L')) = (if 24 < L.length then none else (gzSt (v (49 + 2 * i)) L).bind (fun L' => gzSh v (i + 1) m L'))
    rw [h i (by omega) (by omega)]
    by_cases z : 24 < L.length
    · rw [if_pos z, if_pos z]
    · rw [if_neg z, if_neg z]
      exact congrArg (Option.bind _) (funext fun L' => ih (i + 1) L' (fun q q1 q2 => h q (by omega) (by omega)))
section
variable {I I' I2 X M M0 Ic Im Ic' Im' Ic2 Im2 : gzIT} {J J' : gzJT} {φ n c N d : Nat} {kd bt B E bg en : Nat → Nat} {cd : Nat → Int32}
theorem gzFl_refl : gzFl I I := fun _ _ _ _ _ => rfl
theorem gzMl_refl : gzMl n I I := fun _ _ _ _ _ => rfl
theorem gzFl_trans (a : gzFl I I') (b : gzFl I' I2) : gzFl I I2 := fun t o k q r => (b t o k q r).trans (a t o k q r)
theorem gzMl_trans {m : Nat} (a : gzMl n I I') (b : gzMl m I' I2) (h : n ≤ m) : gzMl n I I2 := fun t o k q r => (b t o k q (by omega)).trans (a t o k q r)
theorem gzFl_fk (a : gzFkq I I') : gzFl I I' := fun t o k q _ => a t o k q
theorem gzMl_mo (a : gzMo I I') : gzMl n I I' := fun t o k q _ => a t o k (by omega)
theorem gzFf_fl (a : gzFl I I') : gzFf I I' := fun t o k q r => a t o k (by omega) (by omega)
theorem gzMf_ml (a : gzMl n I I') : gzMf I I' := fun t o k q r => a t o k q (by omega)
theorem gzFf_trans (a : gzFf I I') (b : gzFf I' I2) : gzFf I I2 := fun t o k q r => (b t o k q r).trans (a t o k q r)
theorem gzMf_trans (a : gzMf I I') (b : gzMf I' I2) : gzMf I I2 := fun t o k q r => (b t o k q r).trans (a t o k q r)
theorem gzFf_wg {j : Nat} : gzFf I (gzWg bg j I) := fun t o k q _ => if_neg (by omega)
theorem gzWg_7 {j : Nat} : gzWg bg j I 0 33 7 = Int32.ofNat (bg j) := gz_ui_s
theorem gzSk_ml {n n' m lim : Nat} {P K : List Bool → List Bool} (h : gzSk I n n' lim P K) (f : gzMl m I I') (hm : n' ≤ m) (hnn : n ≤ n') : gzSk I' n n' lim P K := fun L hL => by
  rw [gzSh_cg (v := fun i => I 0 48 (1213 + i)) (n' - n) n (P L) (fun q q1 q2 => f 0 48 (1213 + (49 + 2 * q)) (by omega) (by omega))]
  exact h L hL
theorem gzSk_app {n n1 n2 lim : Nat} {P K K2 : List Bool → List Bool} (h1 : n ≤ n1) (h2 : n1 ≤ n2) (a : gzSk I n n1 lim P K) (b : gzSk I n1 n2 lim K K2) : gzSk I n n2 lim P K2 := fun L hL => by
  have := gzSh_app (v := fun i => I 0 48 (1213 + i)) (n1 - n) (n2 - n1) n (P L)
  rw [show n1 - n + (n2 - n1) = n2 - n by omega, a L hL] at this
  rw [this]
  show gzSh _ (n + (n1 - n)) (n2 - n1) (K L) = _
  rw [show n + (n1 - n) = n1 by omega]
  exact b L hL
theorem gzSk_one {n lim : Nat} {P K : List Bool → List Bool} (h : ∀ L, L.length ≤ lim → (P L).length ≤ 24 ∧ gzSt (I 0 48 (1262 + 2 * n)) (P L) = some (K L)) : gzSk I n (n + 1) lim P K := fun L hL => by
  obtain ⟨a, b⟩ := h L hL
  rw [show n + 1 - n = 1 by omega]
  show (if 24 < (P L).length then none else (gzSt (I 0 48 (1213 + (49 + 2 * n))) (P L)).bind (fun L' => some L')) = some (K L)
  rw [if_neg (by omega), show 1213 + (49 + 2 * n) = 1262 + 2 * n by omega, b]
  rfl
theorem gzSk_pre {n n' lim lim2 : Nat} {P K Q : List Bool → List Bool} (h : gzSk I n n' lim P K) (hq : ∀ L, L.length ≤ lim2 → (Q L).length ≤ lim) : gzSk I n n' lim2 (fun L => P (Q L)) (fun L => K (Q L)) := fun L hL => h (Q L) (hq L hL)
theorem c_putq {x : Int32} (hn : n < 400) (h : I 1 20 8 = Int32.ofNat n) : f_X2_put 1 x I J = some ((), gz_ui (gz_ui I 1 25 n x) 1 20 8 (Int32.ofNat (n + 1)), J) := by
  have h2 : gz_ui I 1 25 n x 1 20 8 = Int32.ofNat n := (if_neg (by omega)).trans h
  unfold f_X2_put
  rw [h, if_neg (by rw [gzc_le1 (by omega) (by omega)]; omega), gzGd_in (by omega) (by omega), gzn_clamp (by omega), gzn_succ]
theorem m_emit {a b : Int32} (hn : n < 400) (h : I 0 47 16 = Int32.ofNat n) : f_X12_emits a b I J = some ((), gz_ui (gz_ui (gz_ui I 0 48 (1262 + 2 * n) a) 0 48 (1263 + 2 * n) b) 0 47 16 (Int32.ofNat (n + 1)), J) := by
  unfold f_X12_emits
  rw [h, gzc_mul, gzc_add', gzGd_in (by omega) (by omega), gzn_succ, gzGd_in (by omega) (by omega), gzn_clamp (by omega), gzn_clamp (by omega), gzn_succ, show 1262 + 2 * n + 1 = 1263 + 2 * n by omega]
/-- a code more, on both sides -/
theorem r_emit {jc jm : Nat} {x a b : Int32} (h : gzLz N c bt bg cd Ic Im jc jm n d) (hn : n < 400) (hx : gzCd x a b) : ∃ Ic' Im', f_X2_put 1 x Ic J = some ((), Ic', J) ∧ f_X12_emits a b Im J' = some ((), Im', J') ∧ gzLz N c bt bg cd Ic' Im' jc jm (n + 1) d ∧ gzFl Ic Ic' ∧ gzMl n Im Im' ∧ Im' 0 48 (1262 + 2 * n) = a := by
  obtain ⟨⟨c1, c2, c3⟩, ⟨m1, m2, m3⟩, h3, h4, h5, h6⟩ := h
  obtain ⟨Ic', ec⟩ : ∃ X, X = gz_ui (gz_ui Ic 1 25 n x) 1 20 8 (Int32.ofNat (n + 1)) := ⟨_, rfl⟩
  obtain ⟨Im', em⟩ : ∃ X, X = gz_ui (gz_ui (gz_ui Im 0 48 (1262 + 2 * n) a) 0 48 (1263 + 2 * n) b) 0 47 16 (Int32.ofNat (n + 1)) := ⟨_, rfl⟩
  have fc : ∀ t o k, ¬ (t = 1 ∧ (o = 25 ∧ k = n ∨ o = 20 ∧ k = 8)) → Ic' t o k = Ic t o k := fun t o k q => by rw [ec]; exact (if_neg (by omega)).trans (if_neg (by omega))
  have fm : ∀ t o k, ¬ (t = 0 ∧ (o = 47 ∧ k = 16 ∨ o = 48 ∧ (k = 1262 + 2 * n ∨ k = 1263 + 2 * n))) → Im' t o k = Im t o k := fun t o k q => by rw [em]; exact (if_neg (by omega)).trans ((if_neg (by omega)).trans (if_neg (by omega)))
  have ha : Im' 0 48 (1262 + 2 * n) = a := by rw [em]; exact (if_neg (by omega)).trans ((if_neg (by omega)).trans gz_ui_s)
  have hb : Im' 0 48 (1263 + 2 * n) = b := by rw [em]; exact (if_neg (by omega)).trans gz_ui_s
  refine ⟨Ic', Im', by rw [c_putq hn h3, ec], by rw [m_emit hn h4, em], ⟨⟨c1, ⟨(fc 0 33 3 (by omega)).trans c2.1, fun q hq => ⟨(fc 0 34 q (by omega)).trans (c2.2 q hq).1, (fc 0 35 q (by omega)).trans (c2.2 q hq).2⟩⟩, (fc 0 33 4 (by omega)).trans c3.1, (fc 0 33 5 (by omega)).trans c3.2.1, (fc 0 33 6 (by omega)).trans c3.2.2⟩, ⟨m1, ⟨(fm 0 47 11 (by omega)).trans m2.1, fun q hq => by rw [fm 0 53 q (by omega)]; exact m2.2 q hq⟩, ?_⟩, by rw [ec]; exact gz_ui_s, by rw [em]; exact gz_ui_s, (fm 0 47 13 (by omega)).trans h5, fun i hi => ?_⟩, fun t o k q r => fc t o k (by omega), fun t o k q r => fm t o k (by omega), ha⟩
  · obtain ⟨p, p1, p2⟩ := m3
    exact ⟨p, (fm 0 47 10 (by omega)).trans p1, p2⟩
  · by_cases z : i = n
    · rw [z, ha, hb, show Ic' 1 25 n = x by rw [ec]; exact (if_neg (by omega)).trans gz_ui_s]
      exact hx
    · rw [fc 1 25 i (by omega), fm 0 48 (1262 + 2 * i) (by omega), fm 0 48 (1263 + 2 * i) (by omega)]
      exact h6 i (by omega)
theorem gzLz_fk {j j2 jm : Nat} (h : gzLz N c bt bg cd Ic Im j jm n d) (a : gzCa c bg cd j2 Ic') (f : gzFkq Ic Ic') : gzLz N c bt bg cd Ic' Im j2 jm n d := by
  obtain ⟨h1, h2, h3, h4, h5, h6⟩ := h
  exact ⟨a, h2, (f 1 20 8 (by omega)).trans h3, h4, h5, fun i hi => by rw [f 1 25 i (by omega)]; exact h6 i hi⟩
theorem gzLz_mo {j j2 jm : Nat} (h : gzLz N c bt bg cd Ic Im j jm n d) (a : gzMa N c bt bg j2 Im') (f : gzMo Im Im') : gzLz N c bt bg cd Ic Im' j j2 n d := by
  obtain ⟨h1, h2, h3, h4, h5, h6⟩ := h
  exact ⟨h1, a, h3, (f 0 47 16 (by omega)).trans h4, (f 0 47 13 (by omega)).trans h5, fun i hi => by rw [f 0 48 (1262 + 2 * i) (by omega), f 0 48 (1263 + 2 * i) (by omega)]; exact h6 i hi⟩
theorem gzLz_d {j jm d2 : Nat} (h : gzLz N c bt bg cd Ic Im j jm n d) : gzLz N c bt bg cd Ic (gz_ui Im 0 47 13 (Int32.ofNat d2)) j jm n d2 ∧ gzMl n Im (gz_ui Im 0 47 13 (Int32.ofNat d2)) := by
  obtain ⟨h1, ⟨m1, m2, m3⟩, h3, h4, h5, h6⟩ := h
  refine ⟨⟨h1, ⟨m1, ⟨(if_neg (by omega)).trans m2.1, fun q hq => ?_⟩, ?_⟩, h3, (if_neg (by omega)).trans h4, gz_ui_s, fun i hi => ?_⟩, fun t o k q r => if_neg (by omega)⟩
  · have : gz_ui Im 0 47 13 (Int32.ofNat d2) 0 53 q = Im 0 53 q := if_neg (by omega)
    rw [this]; exact m2.2 q hq
  · obtain ⟨p, p1, p2⟩ := m3
    exact ⟨p, (if_neg (by omega)).trans p1, p2⟩
  · have e1 : gz_ui Im 0 47 13 (Int32.ofNat d2) 0 48 (1262 + 2 * i) = Im 0 48 (1262 + 2 * i) := if_neg (by omega)
    have e2 : gz_ui Im 0 47 13 (Int32.ofNat d2) 0 48 (1263 + 2 * i) = Im 0 48 (1263 + 2 * i) := if_neg (by omega)
    rw [e1, e2]; exact h6 i hi
/-- both fail, at the same place, or both go on -/
def gzOkq (N c : Nat) (bt bg : Nat → Nat) (cd : Nat → Int32) (Ic Im : gzIT) (J J' : gzJT) (j n d p lim : Nat) (P K : List Bool → List Bool) (rc : Option (Except String Unit × gzIT × gzJT)) (rm : Option (Int32 × gzIT × gzJT)) : Prop :=
  (∃ Ic' Im', rc = some (.error "java/lang/IllegalArgumentException", Ic', J) ∧ rm = some (0, Im', J') ∧ gzFf Ic Ic' ∧ gzMf Im Im' ∧ Ic' 0 33 7 = Im' 0 47 12) ∨
  (∃ Ic' Im' j' n', rc = some (.ok (), Ic', J) ∧ rm = some (1, Im', J') ∧ gzLz N c bt bg cd Ic' Im' j' j' n' d ∧ gzFl Ic Ic' ∧ gzMl n Im Im' ∧ n ≤ n' ∧ j ≤ j' ∧ n' + j ≤ j' + n + p ∧ gzSk Im' n n' lim P K)
/-- the steps ahead of it are put to it -/
theorem gzOk_step {j n j0 n0 d' p p0 lim : Nat} {P P0 K : List Bool → List Bool} {rc : Option (Except String Unit × gzIT × gzJT)} {rm : Option (Int32 × gzIT × gzJT)} (h : gzOkq N c bt bg cd Ic' Im' J J' j n d' p lim P K rc rm) (fc : gzFl Ic Ic') (fm : gzMl n0 Im Im') (hn : n0 ≤ n) (hj : j0 ≤ j) (hp : n + j0 + p ≤ j + n0 + p0) (hs : gzSk Im' n0 n lim P0 P) : gzOkq N c bt bg cd Ic Im J J' j0 n0 d' p0 lim P0 K rc rm := by
  rcases h with ⟨A, B, a1, a2, a3, a4, a5⟩ | ⟨A, B, j', n', a1, a2, a3, a4, a5, a6, a7, a8, a9⟩
  · exact Or.inl ⟨A, B, a1, a2, gzFf_trans (gzFf_fl fc) a3, gzMf_trans (gzMf_ml fm) a4, a5⟩
  · exact Or.inr ⟨A, B, j', n', a1, a2, a3, gzFl_trans fc a4, gzMl_trans fm a5 hn, by omega, by omega, by omega, gzSk_app hn a6 (gzSk_ml hs a5 (Nat.le_refl _) hn) a9⟩
theorem gzSk_nil {n lim : Nat} {P : List Bool → List Bool} : gzSk I n n lim P P := fun L _ => by rw [Nat.sub_self]; rfl
theorem gzWa_tab : gzWa 24 = 1012 ∧ gzWa 27 = 1013 ∧ gzWa 26 = 1014 ∧ gzWa 18 = 1015 ∧ gzWa 22 = 1016 ∧ gzWa 23 = 1017 ∧ gzWa 29 = 1018 ∧ gzWa 44 = 1019 ∧ gzWa 28 = 1020 ∧ gzWa 43 = 1021 ∧ gzWa 37 = 1022 ∧ gzWa 38 = 1023 ∧ gzWa 39 = 1024 ∧ gzWa 40 = 1025 ∧ gzWa 41 = 1026 ∧ gzWa 42 = 1027 ∧ gzWa 45 = 1028 ∧ gzWa 46 = 1029 := by decide +kernel
theorem m_wordOfPart {j : Nat} (hk : gzTkq N c bt bg en cd) (hx : gzMxq I N bt) (h10 : I 0 47 10 = Int32.ofNat (gzLe c bt bg en j)) (h12 : I 0 47 12 = Int32.ofNat (bg j)) (hj : j ≤ c) (hφ : 500 < φ) : (∃ v, v < 8 ∧ cd j = Int32.ofNat (1012 + v) ∧ f_X12_wordOfPart φ I = some (Int32.ofNat v)) ∨ ((∀ v, v < 8 → cd j ≠ Int32.ofNat (1012 + v)) ∧ f_X12_wordOfPart φ I = some (-1)) := by
  obtain ⟨w0, w1, w2, w3, w4, w5, w6, w7, -⟩ := gzWa_tab
  have g : ∀ a, 17 ≤ a → a < 47 → f_X12_isWord φ a I = some (if cd j = gzWa a then 1 else 0) := fun a h1 h2 => m_word hk hx h10 h12 hj h1 h2 hφ
  unfold f_X12_wordOfPart
  rw [g 24 (by omega) (by omega), g 27 (by omega) (by omega), g 26 (by omega) (by omega), g 18 (by omega) (by omega), g 22 (by omega) (by omega), g 23 (by omega) (by omega), g 29 (by omega) (by omega), g 44 (by omega) (by omega), w0, w1, w2, w3, w4, w5, w6, w7]
  simp only [Option.bind_some]
  by_cases h0 : cd j = 1012
  · exact Or.inl ⟨0, by omega, h0, by simp only [if_pos h0]; rfl⟩
  by_cases h1 : cd j = 1013
  · exact Or.inl ⟨1, by omega, h1, by simp only [if_neg h0, if_pos h1]; rfl⟩
  by_cases h2 : cd j = 1014
  · exact Or.inl ⟨2, by omega, h2, by simp only [if_neg h0, if_neg h1, if_pos h2]; rfl⟩
  by_cases h3 : cd j = 1015
  · exact Or.inl ⟨3, by omega, h3, by simp only [if_neg h0, if_neg h1, if_neg h2, if_pos h3]; rfl⟩
  by_cases h4 : cd j = 1016
  · exact Or.inl ⟨4, by omega, h4, by simp only [if_neg h0, if_neg h1, if_neg h2, if_neg h3, if_pos h4]; rfl⟩
  by_cases h5 : cd j = 1017
  · exact Or.inl ⟨5, by omega, h5, by simp only [if_neg h0, if_neg h1, if_neg h2, if_neg h3, if_neg h4, if_pos h5]; rfl⟩
  by_cases h6 : cd j = 1018
  · exact Or.inl ⟨6, by omega, h6, by simp only [if_neg h0, if_neg h1, if_neg h2, if_neg h3, if_neg h4, if_neg h5, if_pos h6]; rfl⟩
  by_cases h7 : cd j = 1019
  · exact Or.inl ⟨7, by omega, h7, by simp only [if_neg h0, if_neg h1, if_neg h2, if_neg h3, if_neg h4, if_neg h5, if_neg h6, if_pos h7]; rfl⟩
  · refine Or.inr ⟨fun v hv x => ?_, by simp only [if_neg h0, if_neg h1, if_neg h2, if_neg h3, if_neg h4, if_neg h5, if_neg h6, if_neg h7]; rfl⟩
    rcases (show v = 0 ∨ v = 1 ∨ v = 2 ∨ v = 3 ∨ v = 4 ∨ v = 5 ∨ v = 6 ∨ v = 7 by omega) with rfl | rfl | rfl | rfl | rfl | rfl | rfl | rfl
    · exact h0 x
    · exact h1 x
    · exact h2 x
    · exact h3 x
    · exact h4 x
    · exact h5 x
    · exact h6 x
    · exact h7 x
end
