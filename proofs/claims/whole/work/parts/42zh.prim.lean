/-! the model's reading: blanks, letters, words, numbers, signs -/
/-- the model's text -/
def gzMxq (I : gzIT) (N : Nat) (bt : Nat → Nat) : Prop := I 0 47 11 = Int32.ofNat N ∧ ∀ q, q < N → (bt q < 128 → I 0 53 q = Int32.ofNat (bt q)) ∧ (128 ≤ bt q → (I 0 53 q).toInt < 0)
/-- the model is at thing j, or in the blanks ahead of it -/
def gzMp (I : gzIT) (bt bg : Nat → Nat) (j : Nat) : Prop := ∃ p, I 0 47 10 = Int32.ofNat p ∧ p ≤ bg j ∧ ∀ q, p ≤ q → q < bg j → bt q = 32
/-- only the model's place in the text is another -/
def gzMo (I I' : gzIT) : Prop := ∀ t o k, ¬ (t = 0 ∧ o = 47 ∧ (k = 10 ∨ k = 12)) → I' t o k = I t o k
theorem gz_kk0 {b : Nat} : gzKk b = 0 ↔ b = 32 := by unfold gzKk; repeat' split
                                                     all_goals omega
theorem gz_kk1 {b : Nat} : gzKk b = 1 ↔ 97 ≤ b ∧ b ≤ 122 := by unfold gzKk; repeat' split
                                                               all_goals omega
theorem gz_kk2 {b : Nat} : gzKk b = 2 ↔ 48 ≤ b ∧ b ≤ 57 := by unfold gzKk; repeat' split
                                                              all_goals omega
theorem gzMo_refl {I : gzIT} : gzMo I I := fun _ _ _ _ => rfl
theorem gzMo_trans {I I' I2 : gzIT} (a : gzMo I I') (b : gzMo I' I2) : gzMo I I2 := fun t o k q => (b t o k q).trans (a t o k q)
theorem gzMx_mo {I I' : gzIT} {N : Nat} {bt : Nat → Nat} (h : gzMxq I N bt) (f : gzMo I I') : gzMxq I' N bt := ⟨(f 0 47 11 (by omega)).trans h.1, fun q hq => by rw [f 0 53 q (by omega)]; exact h.2 q hq⟩
section
variable {I I' I2 X M M0 : gzIT} {J : gzJT} {φ n c N : Nat} {kd bt B E bg en : Nat → Nat} {cd : Nat → Int32}
theorem m_isAt {p lo hi : Nat} (hN : N ≤ 400) (hx : gzMxq I N bt) (hb : ∀ q, q < N → bt q < 256) (hp : I 0 47 10 = Int32.ofNat p) (hpN : p ≤ N) (hlo : lo < 128) (hhi : hi < 128) : f_X12_isAt I (Int32.ofNat lo) (Int32.ofNat hi) = some (if p < N ∧ lo ≤ bt p ∧ bt p ≤ hi then 1 else 0) := by
  unfold f_X12_isAt
  rw [hx.1, hp]
  by_cases z : p < N
  · obtain ⟨b1, b2⟩ := hx.2 p z
    rw [if_neg (by rw [gzn_le (by omega) (by omega)]; omega), gzGd_in (by omega) (by omega), gzn_clamp (by omega)]
    by_cases y : bt p < 128
    · rw [b1 y]
      by_cases x1 : lo ≤ bt p
      · rw [if_neg (by rw [gzn_lt (by omega) (by omega)]; omega)]
        by_cases x2 : bt p ≤ hi
        · rw [if_neg (by rw [gzn_lt (by omega) (by omega)]; omega), if_pos ⟨z, x1, x2⟩]
        · rw [if_pos (by rw [gzn_lt (by omega) (by omega)]; omega), if_neg (fun q => x2 q.2.2)]
      · rw [if_pos (by rw [gzn_lt (by omega) (by omega)]; omega), if_neg (fun q => x1 q.2.1)]
    · have := b2 (by omega)
      rw [if_pos (by rw [Int32.lt_iff_toInt_lt, gzn_int (by omega)]; omega), if_neg (fun q => by omega)]
  · rw [if_pos (by rw [gzn_le (by omega) (by omega)]; omega), if_neg (fun q => z q.1)]
theorem m_blankL {b : Nat} (hN : N ≤ 400) (hb : ∀ q, q < N → bt q < 256) (hbN : b ≤ N) (he : b = N ∨ bt b ≠ 32) : ∀ (m p k : Nat) (M : gzIT), p + m = b → m < k → gzMxq M N bt → M 0 47 10 = Int32.ofNat p → (∀ q, p ≤ q → q < b → bt q = 32) → ∃ M', f_X12_blanks_0 φ k M J = some ((), M', J) ∧ gzMo M M' ∧ M' 0 47 10 = Int32.ofNat b ∧ M' 0 47 12 = Int32.ofNat b := by
  intro m
  induction m with
  | zero =>
    intro p k M hp hk hx h10 hq
    obtain ⟨k, rfl⟩ : ∃ q, k = q + 1 := ⟨k - 1, by omega⟩
    have h := m_isAt (lo := 32) (hi := 32) hN hx hb h10 (by omega) (by omega) (by omega)
    rw [if_neg (by rcases he with e | e <;> intro x <;> first | omega | (have := x.2.1; have := x.2.2; rw [show p = b by omega] at *; omega))] at h
    have h' : f_X12_isAt M 32 32 = some 0 := h
    refine ⟨gz_ui M 0 47 12 (Int32.ofNat p), ?_, fun t o k q => if_neg (by omega), ?_, ?_⟩
    · rw [f_X12_blanks_0, h']
      simp only [Option.bind_some]
      rw [if_pos (by decide), h10]
    · rw [show b = p by omega]; exact (if_neg (by omega)).trans h10
    · rw [show b = p by omega]; exact gz_ui_s
  | succ m ih =>
    intro p k M hp hk hx h10 hq
    obtain ⟨k, rfl⟩ : ∃ q, k = q + 1 := ⟨k - 1, by omega⟩
    have h := m_isAt (lo := 32) (hi := 32) hN hx hb h10 (by omega) (by omega) (by omega)
    have h32 := hq p (by omega) (by omega)
    rw [if_pos ⟨by omega, by omega, by omega⟩] at h
    have h' : f_X12_isAt M 32 32 = some 1 := h
    obtain ⟨M1, e1⟩ : ∃ M1, M1 = gz_ui M 0 47 10 (Int32.ofNat (p + 1)) := ⟨_, rfl⟩
    have f1 : gzMo M M1 := fun t o k q => by rw [e1]; exact if_neg (by omega)
    obtain ⟨M', i1, i2, i3⟩ := ih (p + 1) k M1 (by omega) (by omega) (gzMx_mo hx f1) (by rw [e1]; exact gz_ui_s) (fun q q1 q2 => hq q (by omega) q2)
    refine ⟨M', ?_, gzMo_trans f1 i2, i3⟩
    rw [f_X12_blanks_0, h']
    simp only [Option.bind_some]
    rw [if_neg (by decide), h10, gzn_succ, ← e1]
    exact i1
theorem gzTk_bg {j : Nat} (hk : gzTkq N c bt bg en cd) (hj : j ≤ c) : bg j ≤ N ∧ (bg j = N ∨ bt (bg j) ≠ 32) := by
  obtain ⟨h1, h2, h3, h4, h5, h6, h7⟩ := hk
  by_cases z : j = c
  · rw [z]; exact ⟨by omega, Or.inl h3⟩
  · obtain ⟨a1, a2, a3, a4, -⟩ := h7 j (by omega)
    exact ⟨by omega, Or.inr (fun x => a4 (gz_kk0.2 x))⟩
theorem m_blanks {j : Nat} (hk : gzTkq N c bt bg en cd) (hx : gzMxq I N bt) (hp : gzMp I bt bg j) (hj : j ≤ c) (hφ : 500 < φ) : ∃ I', f_X12_blanks φ I J = some ((), I', J) ∧ gzMo I I' ∧ I' 0 47 10 = Int32.ofNat (bg j) ∧ I' 0 47 12 = Int32.ofNat (bg j) := by
  obtain ⟨p, p1, p2, p3⟩ := hp
  obtain ⟨b1, b2⟩ := gzTk_bg hk hj
  obtain ⟨I', i1, i2⟩ := m_blankL (φ := φ) (J := J) hk.2.1 hk.2.2.2.2.1 b1 b2 (bg j - p) p (φ + 1) I (by omega) (by have := hk.2.1; omega) hx p1 p3
  refine ⟨I', ?_, i2⟩
  rw [f_X12_blanks_0] at i1
  exact i1
theorem m_letterL {e : Nat} (hN : N ≤ 400) (hb : ∀ q, q < N → bt q < 256) (heN : e ≤ N) (he : e = N ∨ gzKk (bt e) ≠ 1) : ∀ (m p k : Nat) (M : gzIT), p + m = e → m < k → gzMxq M N bt → M 0 47 10 = Int32.ofNat p → (∀ q, p ≤ q → q < e → gzKk (bt q) = 1) → ∃ M', f_X12_letters_4 φ k M J = some ((), M', J) ∧ gzMo M M' ∧ M' 0 47 10 = Int32.ofNat e ∧ M' 0 47 12 = M 0 47 12 := by
  intro m
  induction m with
  | zero =>
    intro p k M hp hk hx h10 hq
    obtain ⟨k, rfl⟩ : ∃ q, k = q + 1 := ⟨k - 1, by omega⟩
    have h := m_isAt (lo := 97) (hi := 122) hN hx hb h10 (by omega) (by omega) (by omega)
    rw [if_neg (fun x => by
      rcases he with y | y
      · omega
      · exact y (gz_kk1.2 (by rw [show e = p by omega]; exact x.2)))] at h
    have h' : f_X12_isAt M 97 122 = some 0 := h
    refine ⟨M, ?_, gzMo_refl, by rw [show e = p by omega]; exact h10, rfl⟩
    rw [f_X12_letters_4, h']
    simp only [Option.bind_some]
    rw [if_pos (by decide)]
  | succ m ih =>
    intro p k M hp hk hx h10 hq
    obtain ⟨k, rfl⟩ : ∃ q, k = q + 1 := ⟨k - 1, by omega⟩
    have h := m_isAt (lo := 97) (hi := 122) hN hx hb h10 (by omega) (by omega) (by omega)
    rw [if_pos ⟨by omega, gz_kk1.1 (hq p (by omega) (by omega))⟩] at h
    have h' : f_X12_isAt M 97 122 = some 1 := h
    obtain ⟨M1, e1⟩ : ∃ M1, M1 = gz_ui M 0 47 10 (Int32.ofNat (p + 1)) := ⟨_, rfl⟩
    have f1 : gzMo M M1 := fun t o k q => by rw [e1]; exact if_neg (by omega)
    obtain ⟨M', i1, i2, i3, i4⟩ := ih (p + 1) k M1 (by omega) (by omega) (gzMx_mo hx f1) (by rw [e1]; exact gz_ui_s) (fun q q1 q2 => hq q (by omega) q2)
    refine ⟨M', ?_, gzMo_trans f1 i2, i3, i4.trans (by rw [e1]; exact if_neg (by omega))⟩
    rw [f_X12_letters_4, h']
    simp only [Option.bind_some]
    rw [if_neg (by decide), h10, gzn_succ, ← e1]
    exact i1
/-- where the letters of thing j end -/
def gzLe (c : Nat) (bt bg en : Nat → Nat) (j : Nat) : Nat := if j < c ∧ gzKk (bt (bg j)) = 1 then en j else bg j
theorem m_letters {j : Nat} (hk : gzTkq N c bt bg en cd) (hx : gzMxq I N bt) (hp : gzMp I bt bg j) (hj : j ≤ c) (hφ : 500 < φ) : ∃ I', f_X12_letters φ I J = some ((), I', J) ∧ gzMo I I' ∧ I' 0 47 10 = Int32.ofNat (gzLe c bt bg en j) ∧ I' 0 47 12 = Int32.ofNat (bg j) := by
  obtain ⟨I1, a1, a2, a3, a4⟩ := m_blanks (J := J) hk hx hp hj hφ
  have hN := hk.2.1
  have key : ∃ I', f_X12_letters_4 φ φ I1 J = some ((), I', J) ∧ gzMo I1 I' ∧ I' 0 47 10 = Int32.ofNat (gzLe c bt bg en j) ∧ I' 0 47 12 = I1 0 47 12 := by
    by_cases z : j < c ∧ gzKk (bt (bg j)) = 1
    · obtain ⟨b1, b2, b3, b4, b5, b6, b7, b8, b9⟩ := hk.2.2.2.2.2.2 j z.1
      have e : gzLe c bt bg en j = en j := if_pos z
      rw [e]
      refine m_letterL hN hk.2.2.2.2.1 (by omega) ?_ (en j - bg j) (bg j) φ I1 (by omega) (by omega) (gzMx_mo hx a2) a3 (fun q q1 q2 => (b6 q q1 q2).trans z.2)
      rcases b7 with y | y | y
      · rw [z.2] at y; omega
      · exact Or.inl y
      · exact Or.inr (by rw [z.2] at y; exact y)
    · have e : gzLe c bt bg en j = bg j := if_neg z
      rw [e]
      obtain ⟨b1, b2⟩ := gzTk_bg hk hj
      refine m_letterL hN hk.2.2.2.2.1 b1 ?_ 0 (bg j) φ I1 (by omega) (by omega) (gzMx_mo hx a2) a3 (fun q q1 q2 => by omega)
      by_cases y : j < c
      · exact Or.inr (fun x => z ⟨y, x⟩)
      · rw [show j = c by omega]
        exact Or.inl hk.2.2.1
  obtain ⟨I', c1, c2, c3, c4⟩ := key
  refine ⟨I', ?_, gzMo_trans a2 c2, c3, c4.trans a4⟩
  unfold f_X12_letters
  rw [a1]
  exact c1
theorem m_isWordL {a b : Nat} (hN : N ≤ 400) (hx : gzMxq I N bt) (h12 : I 0 47 12 = Int32.ofNat b) (hl : b + (gzSb a).length ≤ N) (h1 : ∀ q, b ≤ q → q < b + (gzSb a).length → gzKk (bt q) = 1) : ∀ (m q k : Nat), q + m = (gzSb a).length → m + 1 < k → f_X12_isWord_24 φ a I k 1 (Int32.ofNat q) = some (if gzTx bt (b + q) m = (gzSb a).drop q then 1 else 0) := by
  intro m
  induction m with
  | zero =>
    intro q k hq hk
    obtain ⟨k, rfl⟩ : ∃ q, k = q + 1 := ⟨k - 1, by omega⟩
    rw [f_X12_isWord_24, if_neg (by decide), if_pos (by rw [gzn_le (by omega) (by omega)]; omega), if_pos (by rw [List.drop_eq_nil_of_le (by omega)]; rfl)]
    rfl
  | succ m ih =>
    intro q k hq hk
    obtain ⟨k, rfl⟩ : ∃ q, k = q + 1 := ⟨k - 1, by omega⟩
    obtain ⟨k2, rfl⟩ : ∃ q, k = q + 1 := ⟨k - 1, by omega⟩
    have hk1 := gz_kk1.1 (h1 (b + q) (by omega) (by omega))
    have hbt := (hx.2 (b + q) (by omega)).1 (by omega)
    rw [f_X12_isWord_24, if_neg (by decide), if_neg (by rw [gzn_le (by omega) (by omega)]; omega), h12, gzc_adds, gzGd_in (by omega) (by omega), gzGd_in (by omega) (by omega), gzn_clamp (by omega), gzn_clamp (by omega), hbt, gzn_succ]
    have hd : (gzSb a).drop q = (gzSb a).getD q 0 :: (gzSb a).drop (q + 1) := by
      rw [List.drop_eq_getElem_cons (by omega)]
      rw [List.getD_eq_getElem?_getD, List.getElem?_eq_getElem (by omega)]
      rfl
    rw [hd]
    show _ = some (if Int32.ofNat (bt (b + q)) :: gzTx bt (b + q + 1) m = (gzSb a).getD q 0 :: (gzSb a).drop (q + 1) then 1 else 0)
    by_cases z : Int32.ofNat (bt (b + q)) = (gzSb a).getD q 0
    · rw [if_neg (fun y => y z), ih (q + 1) (k2 + 1) (by omega) (by omega), show b + (q + 1) = b + q + 1 by omega]
      by_cases y : gzTx bt (b + q + 1) m = (gzSb a).drop (q + 1)
      · rw [if_pos y, if_pos (by rw [y, z])]
      · rw [if_neg y, if_neg (fun x => y (List.cons.inj x).2)]
    · rw [if_pos z, if_neg (fun x => z (List.cons.inj x).1), f_X12_isWord_24, if_pos rfl]
      rfl
theorem gzTx_len : ∀ (m a : Nat), (gzTx bt a m).length = m := by
  intro m
  induction m with
  | zero => intro a; rfl
  | succ m ih => intro a; show (Int32.ofNat (bt a) :: gzTx bt (a + 1) m).length = m + 1; rw [List.length_cons, ih]
theorem m_isWord {a b e : Nat} (hN : N ≤ 400) (hx : gzMxq I N bt) (h10 : I 0 47 10 = Int32.ofNat e) (h12 : I 0 47 12 = Int32.ofNat b) (hbe : b ≤ e) (he : e ≤ N) (h1 : ∀ q, b ≤ q → q < e → gzKk (bt q) = 1) (ha : (gzSb a).length < 400) (hφ : 500 < φ) : f_X12_isWord φ a I = some (if gzTx bt b (e - b) = gzSb a then 1 else 0) := by
  unfold f_X12_isWord
  rw [h10, h12, gzc_subs hbe]
  by_cases z : e - b = (gzSb a).length
  · rw [if_neg (fun y => y (by rw [z]))]
    have := m_isWordL (φ := φ) (a := a) hN hx h12 (by omega) (fun q q1 q2 => h1 q q1 (by omega)) (gzSb a).length 0 φ (by omega) (by omega)
    rw [z]
    exact this
  · obtain ⟨k, rfl⟩ : ∃ q, φ = q + 1 := ⟨φ - 1, by omega⟩
    rw [if_pos (by rw [gzn_inj (by omega) (by omega)]; exact z), f_X12_isWord_24, if_pos rfl, if_neg (fun x => z (by rw [← x, gzTx_len]))]
    rfl
/-- the place of the model's word a among the class's words -/
def gzIxq (a : Nat) : Nat := gzVoc.findIdx (fun w => w == gzSb a)
theorem gzIx_at : ∀ a, a < 30 → gzVoc[gzIxq (a + 17)]? = some (gzSb (a + 17)) ∧ gzSb (a + 17) ≠ [] ∧ (gzSb (a + 17)).length < 400 ∧ gzIxq (a + 17) < 38 := by decide +kernel
theorem gzWf_ge {u : List Int32} : ∀ (L : List (List Int32)) (i : Nat), gzWf u L (Int32.ofNat i) = -2 ∨ ∃ k, k < L.length ∧ gzWf u L (Int32.ofNat i) = Int32.ofNat (i + k) := by
  intro L
  induction L with
  | nil => intro i; exact Or.inl rfl
  | cons w L ih =>
    intro i
    show (if w = u then Int32.ofNat i else gzWf u L (Int32.ofNat i + 1)) = -2 ∨ ∃ k, k < L.length + 1 ∧ (if w = u then Int32.ofNat i else gzWf u L (Int32.ofNat i + 1)) = Int32.ofNat (i + k)
    by_cases z : w = u
    · rw [if_pos z]; exact Or.inr ⟨0, by omega, rfl⟩
    · rw [if_neg z, gzn_succ]
      rcases ih (i + 1) with y | ⟨k, k1, k2⟩
      · exact Or.inl y
      · exact Or.inr ⟨k + 1, by omega, by rw [k2, show i + 1 + k = i + (k + 1) by omega]⟩
theorem gzWf_ix {u : List Int32} : ∀ (L : List (List Int32)) (i k : Nat), L.Nodup → i + L.length < 10000 → k < 10000 → (gzWf u L (Int32.ofNat i) = Int32.ofNat (i + k) ↔ L[k]? = some u) := by
  intro L
  have n2 : ∀ q : Nat, q < 30000 → ¬ (-2 : Int32) = Int32.ofNat q := fun q hq x => by
    have := congrArg Int32.toInt x
    rw [gzn_int (by omega)] at this
    have h1 : (-2 : Int32).toInt = -2 := rfl
    omega
  induction L with
  | nil =>
    intro i k _ _ hk
    refine ⟨fun x => absurd x (n2 _ (by have : i < 10000 := by simp at *; omega
                                        omega)), fun x => by simp at x⟩
  | cons w L ih =>
    intro i k hnd hl hk
    rw [List.length_cons] at hl
    have hnd' := List.nodup_cons.1 hnd
    show (if w = u then Int32.ofNat i else gzWf u L (Int32.ofNat i + 1)) = Int32.ofNat (i + k) ↔ _
    by_cases z : w = u
    · rw [if_pos z, gzn_inj (by omega) (by omega)]
      constructor
      · intro x
        rw [show k = 0 by omega, z]; rfl
      · intro x
        by_cases y : k = 0
        · omega
        · exfalso
          obtain ⟨k, rfl⟩ : ∃ q, k = q + 1 := ⟨k - 1, by omega⟩
          rw [List.getElem?_cons_succ] at x
          exact hnd'.1 (by rw [z]; exact List.mem_of_getElem? x)
    · rw [if_neg z, gzn_succ]
      by_cases y : k = 0
      · subst y
        constructor
        · intro x
          rcases gzWf_ge (u := u) L (i + 1) with q | ⟨k2, q1, q2⟩
          · rw [q] at x; exact absurd x (n2 _ (by omega))
          · rw [q2, gzn_inj (by omega) (by omega)] at x; omega
        · intro x
          rw [List.getElem?_cons_zero] at x
          exact absurd (Option.some.inj x) z
      · obtain ⟨k, rfl⟩ : ∃ q, k = q + 1 := ⟨k - 1, by omega⟩
        rw [List.getElem?_cons_succ, ← ih (i + 1) k hnd'.2 (by omega) (by omega), show i + 1 + k = i + (k + 1) by omega]
/-- the code of the model's word a -/
def gzWa (a : Nat) : Int32 := Int32.ofNat (1000 + gzIxq a)
theorem gz_n2 {q : Nat} (hq : q < 30000) : ¬ (-2 : Int32) = Int32.ofNat q := fun x => by
  have := congrArg Int32.toInt x
  rw [gzn_int (by omega)] at this
  have h1 : (-2 : Int32).toInt = -2 := rfl
  omega
theorem gz_n3 {q : Nat} (hq : q < 30000) : ¬ (-3 : Int32) = Int32.ofNat q := fun x => by
  have := congrArg Int32.toInt x
  rw [gzn_int (by omega)] at this
  have h1 : (-3 : Int32).toInt = -3 := rfl
  omega
/-- what a code tells of the thing -/
theorem gzTk_cd {j : Nat} (hk : gzTkq N c bt bg en cd) (hj : j < c) : (gzKk (bt (bg j)) = 1 ∧ cd j = gzWf (gzTx bt (bg j) (en j - bg j)) gzVoc 1000) ∨ (gzKk (bt (bg j)) = 2 ∧ ((en j - bg j ≤ 3 ∧ cd j = Int32.ofNat (gzNm bt (bg j) (en j - bg j) 0) ∧ gzNm bt (bg j) (en j - bg j) 0 < 1000) ∨ (3 < en j - bg j ∧ cd j = -2))) ∨ (gzKk (bt (bg j)) = 3 ∧ cd j = Int32.ofNat (2000 + bt (bg j))) := by
  obtain ⟨b1, b2, b3, b4, b5, b6, b7, b8, b9⟩ := hk.2.2.2.2.2.2 j hj
  have h4 : gzKk (bt (bg j)) < 4 := (gz_kind _ (hk.2.2.2.2.1 _ (by omega))).2
  rw [b9]
  unfold gzCq
  rcases (show gzKk (bt (bg j)) = 1 ∨ gzKk (bt (bg j)) = 2 ∨ gzKk (bt (bg j)) = 3 by omega) with z | z | z
  · exact Or.inl ⟨z, by rw [if_neg (by omega), if_neg (by omega)]⟩
  · refine Or.inr (Or.inl ⟨z, ?_⟩)
    rw [if_neg (by omega), if_pos z]
    by_cases y : en j - bg j ≤ 3
    · refine Or.inl ⟨y, if_pos y, ?_⟩
      have := gzNm_le (bt := bt) (en j - bg j) (bg j) 0 0 (fun q q1 q2 => gz_kk2.1 ((b6 q q1 (by omega)).trans z)) (by decide)
      have h10 : 10 ^ (0 + (en j - bg j)) ≤ 10 ^ 3 := Nat.pow_le_pow_right (by omega) (by omega)
      omega
    · exact Or.inr ⟨by omega, if_neg y⟩
  · exact Or.inr (Or.inr ⟨z, if_pos z⟩)
theorem m_word {j a : Nat} (hk : gzTkq N c bt bg en cd) (hx : gzMxq I N bt) (h10 : I 0 47 10 = Int32.ofNat (gzLe c bt bg en j)) (h12 : I 0 47 12 = Int32.ofNat (bg j)) (hj : j ≤ c) (ha : 17 ≤ a) (ha2 : a < 47) (hφ : 500 < φ) : f_X12_isWord φ a I = some (if cd j = gzWa a then 1 else 0) := by
  obtain ⟨x1, x2, x3, x4⟩ := gzIx_at (a - 17) (by omega)
  rw [show a - 17 + 17 = a by omega] at x1 x2 x3 x4
  have hN := hk.2.1
  obtain ⟨g1, g2⟩ := gzTk_bg hk hj
  by_cases z : j < c ∧ gzKk (bt (bg j)) = 1
  · obtain ⟨b1, b2, b3, b4, b5, b6, b7, b8, b9⟩ := hk.2.2.2.2.2.2 j z.1
    have e : gzLe c bt bg en j = en j := if_pos z
    rw [e] at h10
    rw [m_isWord (φ := φ) hN hx h10 h12 (by omega) (by omega) (fun q q1 q2 => (b6 q q1 q2).trans z.2) x3 hφ]
    rcases gzTk_cd hk z.1 with y | y | y
    · have := gzWf_ix (u := gzTx bt (bg j) (en j - bg j)) gzVoc 1000 (gzIxq a) gzVoc_nd (by rw [gzVoc_len.1]; omega) (by omega)
      rw [x1] at this
      have h2 : cd j = gzWa a ↔ some (gzSb a) = some (gzTx bt (bg j) (en j - bg j)) := by rw [y.2]; exact this
      by_cases q : gzTx bt (bg j) (en j - bg j) = gzSb a
      · rw [if_pos q, if_pos (h2.2 (by rw [q]))]
      · rw [if_neg q, if_neg (fun p => q (Option.some.inj (h2.1 p)).symm)]
    · omega
    · omega
  · have e : gzLe c bt bg en j = bg j := if_neg z
    rw [e] at h10
    rw [m_isWord (φ := φ) hN hx h10 h12 (Nat.le_refl _) g1 (fun q q1 q2 => by omega) x3 hφ, Nat.sub_self, if_neg (fun y => x2 y.symm)]
    rw [if_neg]
    unfold gzWa
    by_cases y : j < c
    · rcases gzTk_cd hk y with q | ⟨-, ⟨-, q, q2⟩ | ⟨-, q⟩⟩ | ⟨-, q⟩
      · exact absurd ⟨y, q.1⟩ z
      · rw [q, gzn_inj (by omega) (by omega)]; omega
      · rw [q]; exact gz_n2 (by omega)
      · have := hk.2.2.2.2.1 (bg j) (by have := hk.2.2.2.2.2.2 j y; omega)
        rw [q, gzn_inj (by omega) (by omega)]; omega
    · rw [show j = c by omega, hk.2.2.2.1]
      exact gz_n3 (by omega)
theorem gzMp_next {j : Nat} (hk : gzTkq N c bt bg en cd) (hj : j < c) (h : I 0 47 10 = Int32.ofNat (en j)) : gzMp I bt bg (j + 1) := by
  obtain ⟨b1, b2, b3, b4, b5, b6, b7, b8, b9⟩ := hk.2.2.2.2.2.2 j hj
  exact ⟨en j, h, b2, fun q q1 q2 => gz_kk0.1 (b8 q q1 q2)⟩
theorem gzMp_at {j : Nat} (h : I 0 47 10 = Int32.ofNat (bg j)) : gzMp I bt bg j := ⟨bg j, h, Nat.le_refl _, fun q q1 q2 => by omega⟩
/-- the model is at thing j -/
def gzMa (N c : Nat) (bt bg : Nat → Nat) (j : Nat) (I : gzIT) : Prop := j ≤ c ∧ gzMxq I N bt ∧ gzMp I bt bg j
theorem gzWa_lt {a j : Nat} (hk : gzTkq N c bt bg en cd) (hj : j ≤ c) (ha : 17 ≤ a) (ha2 : a < 47) (h : cd j = gzWa a) : j < c ∧ gzKk (bt (bg j)) = 1 := by
  obtain ⟨x1, x2, x3, x4⟩ := gzIx_at (a - 17) (by omega)
  rw [show a - 17 + 17 = a by omega] at x4
  unfold gzWa at h
  by_cases y : j < c
  · refine ⟨y, ?_⟩
    rcases gzTk_cd hk y with q | ⟨-, ⟨-, q, q2⟩ | ⟨-, q⟩⟩ | ⟨-, q⟩
    · exact q.1
    · rw [q, gzn_inj (by omega) (by omega)] at h; omega
    · rw [q] at h; exact absurd h (gz_n2 (by omega))
    · have := hk.2.2.2.2.1 (bg j) (by have := hk.2.2.2.2.2.2 j y; omega)
      rw [q, gzn_inj (by omega) (by omega)] at h; omega
  · rw [show j = c by omega, hk.2.2.2.1] at h
    exact absurd h (gz_n3 (by omega))
theorem m_passY {j a : Nat} (hk : gzTkq N c bt bg en cd) (h : gzMa N c bt bg j I) (ha : 17 ≤ a) (ha2 : a < 47) (hc : cd j = gzWa a) (hφ : 500 < φ) : ∃ I', f_X12_passes φ a I J = some (1, I', J) ∧ gzMa N c bt bg (j + 1) I' ∧ gzMo I I' ∧ I' 0 47 12 = Int32.ofNat (bg j) := by
  obtain ⟨h1, h2, h3⟩ := h
  obtain ⟨I1, a1, a2, a3, a4⟩ := m_letters (J := J) hk h2 h3 h1 hφ
  obtain ⟨l1, l2⟩ := gzWa_lt hk h1 ha ha2 hc
  refine ⟨I1, ?_, ⟨l1, gzMx_mo h2 a2, gzMp_next hk l1 ?_⟩, a2, a4⟩
  · unfold f_X12_passes
    rw [a1]
    simp only [Option.bind_some]
    rw [m_word hk (gzMx_mo h2 a2) a3 a4 h1 ha ha2 hφ, if_pos hc]
    rfl
  · rw [a3]; exact congrArg Int32.ofNat (if_pos ⟨l1, l2⟩)
theorem m_passN {j a : Nat} (hk : gzTkq N c bt bg en cd) (h : gzMa N c bt bg j I) (ha : 17 ≤ a) (ha2 : a < 47) (hc : cd j ≠ gzWa a) (hφ : 500 < φ) : ∃ I', f_X12_passes φ a I J = some (0, I', J) ∧ gzMa N c bt bg j I' ∧ gzMo I I' ∧ I' 0 47 12 = Int32.ofNat (bg j) := by
  obtain ⟨h1, h2, h3⟩ := h
  obtain ⟨I1, a1, a2, a3, a4⟩ := m_letters (J := J) hk h2 h3 h1 hφ
  obtain ⟨I2, e2⟩ : ∃ I2, I2 = gz_ui I1 0 47 10 (Int32.ofNat (bg j)) := ⟨_, rfl⟩
  have f2 : gzMo I1 I2 := fun t o k q => by rw [e2]; exact if_neg (by omega)
  refine ⟨I2, ?_, ⟨h1, gzMx_mo h2 (gzMo_trans a2 f2), gzMp_at (by rw [e2]; exact gz_ui_s)⟩, gzMo_trans a2 f2, by rw [e2]; exact (if_neg (by omega)).trans a4⟩
  unfold f_X12_passes
  rw [a1]
  simp only [Option.bind_some]
  rw [m_word hk (gzMx_mo h2 a2) a3 a4 h1 ha ha2 hφ, if_neg hc]
  simp only [Option.bind_some]
  rw [if_pos (by decide), a4, e2]
/-- the code of the sign s -/
def gzSg (s : Nat) : Int32 := Int32.ofNat (2000 + s)
theorem gzSg_iff {j s : Nat} (hk : gzTkq N c bt bg en cd) (hj : j ≤ c) (hs : gzKk s = 3) (hs2 : s < 128) : cd j = gzSg s ↔ bg j < N ∧ bt (bg j) = s := by
  unfold gzSg
  by_cases y : j < c
  · obtain ⟨b1, b2, b3, b4, -⟩ := hk.2.2.2.2.2.2 j y
    have := hk.2.2.2.2.1 (bg j) (by omega)
    rcases gzTk_cd hk y with ⟨q1, q⟩ | ⟨q1, ⟨-, q, q2⟩ | ⟨-, q⟩⟩ | ⟨-, q⟩
    · constructor
      · intro x
        rw [q] at x
        rcases gzWf_ge (u := gzTx bt (bg j) (en j - bg j)) gzVoc 1000 with p | ⟨k2, p1, p2⟩
        · exact absurd (p.symm.trans x) (gz_n2 (by omega))
        · have := p2.symm.trans x
          rw [gzVoc_len.1] at p1
          rw [gzn_inj (by omega) (by omega)] at this
          omega
      · intro x; rw [x.2] at q1; omega
    · constructor
      · intro x; rw [q, gzn_inj (by omega) (by omega)] at x; omega
      · intro x; rw [x.2] at q1; omega
    · constructor
      · intro x; rw [q] at x; exact absurd x (gz_n2 (by omega))
      · intro x; rw [x.2] at q1; omega
    · rw [q, gzn_inj (by omega) (by omega)]
      constructor
      · intro x; exact ⟨by omega, by omega⟩
      · intro x; omega
  · rw [show j = c by omega, hk.2.2.2.1, hk.2.2.1]
    constructor
    · intro x; exact absurd x (gz_n3 (by omega))
    · intro x; omega
theorem m_sign0 {j s : Nat} (hk : gzTkq N c bt bg en cd) (h : gzMa N c bt bg j I) (hs : gzKk s = 3) (hs2 : s < 128) (hφ : 500 < φ) : ∃ I1, f_X12_blanks φ I J = some ((), I1, J) ∧ gzMo I I1 ∧ I1 0 47 10 = Int32.ofNat (bg j) ∧ I1 0 47 12 = Int32.ofNat (bg j) ∧ f_X12_isAt I1 (Int32.ofNat s) (Int32.ofNat s) = some (if cd j = gzSg s then 1 else 0) := by
  obtain ⟨h1, h2, h3⟩ := h
  obtain ⟨I1, a1, a2, a3, a4⟩ := m_blanks (J := J) hk h2 h3 h1 hφ
  refine ⟨I1, a1, a2, a3, a4, ?_⟩
  rw [m_isAt (lo := s) (hi := s) hk.2.1 (gzMx_mo h2 a2) hk.2.2.2.2.1 a3 (gzTk_bg hk h1).1 hs2 hs2]
  have := gzSg_iff hk h1 hs hs2
  by_cases z : cd j = gzSg s
  · obtain ⟨x, y⟩ := this.1 z
    rw [if_pos z, if_pos ⟨x, by omega, by omega⟩]
  · rw [if_neg z, if_neg (fun x => z (this.2 ⟨x.1, by omega⟩))]
theorem m_signY {j s : Nat} (hk : gzTkq N c bt bg en cd) (h : gzMa N c bt bg j I) (hs : gzKk s = 3) (hs2 : s < 128) (hc : cd j = gzSg s) (hφ : 500 < φ) : ∃ I', f_X12_sign φ (Int32.ofNat s) I J = some (1, I', J) ∧ gzMa N c bt bg (j + 1) I' ∧ gzMo I I' ∧ I' 0 47 12 = Int32.ofNat (bg j) := by
  obtain ⟨I1, a1, a2, a3, a4, a5⟩ := m_sign0 (J := J) hk h hs hs2 hφ
  obtain ⟨g1, g2⟩ := (gzSg_iff hk h.1 hs hs2).1 hc
  have hj : j < c := by
    by_cases z : j < c
    · exact z
    · have := h.1
      rw [show j = c by omega, hk.2.2.1] at g1; omega
  have hen : en j = bg j + 1 := (hk.2.2.2.2.2.2 j hj).2.2.2.2.1 (by rw [g2]; exact hs)
  obtain ⟨I2, e2⟩ : ∃ I2, I2 = gz_ui I1 0 47 10 (Int32.ofNat (bg j + 1)) := ⟨_, rfl⟩
  have f2 : gzMo I1 I2 := fun t o k q => by rw [e2]; exact if_neg (by omega)
  refine ⟨I2, ?_, ⟨hj, gzMx_mo h.2.1 (gzMo_trans a2 f2), gzMp_next hk hj (by rw [e2, hen]; exact gz_ui_s)⟩, gzMo_trans a2 f2, by rw [e2]; exact (if_neg (by omega)).trans a4⟩
  unfold f_X12_sign
  rw [a1]
  simp only [Option.bind_some]
  rw [a5, if_pos hc]
  simp only [Option.bind_some]
  rw [if_pos (by decide), a3, gzn_succ, e2]
theorem m_signN {j s : Nat} (hk : gzTkq N c bt bg en cd) (h : gzMa N c bt bg j I) (hs : gzKk s = 3) (hs2 : s < 128) (hc : cd j ≠ gzSg s) (hφ : 500 < φ) : ∃ I', f_X12_sign φ (Int32.ofNat s) I J = some (0, I', J) ∧ gzMa N c bt bg j I' ∧ gzMo I I' ∧ I' 0 47 12 = Int32.ofNat (bg j) := by
  obtain ⟨I1, a1, a2, a3, a4, a5⟩ := m_sign0 (J := J) hk h hs hs2 hφ
  refine ⟨I1, ?_, ⟨h.1, gzMx_mo h.2.1 a2, gzMp_at a3⟩, a2, a4⟩
  unfold f_X12_sign
  rw [a1]
  simp only [Option.bind_some]
  rw [a5, if_neg hc]
  rfl
end
