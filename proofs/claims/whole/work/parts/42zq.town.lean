/-! the town's reader, both sides: what is read so far; numbers, letters, SEASONS -/
theorem gzEx_erq {α β : Type} {x : String} {f : String → β} {g : α → β} : gzEx (.error x) f g = f x := rfl
/-- what the class and the model write while a town is read -/
def gzTf (I I' : gzIT) : Prop := ∀ t o k, ¬ (t = 0 ∧ o = 33 ∧ k ≠ 3) → ¬ (t = 1 ∧ o < 20) → I' t o k = I t o k
def gzTg (I I' : gzIT) : Prop := ∀ t o k, ¬ (t = 0 ∧ o = 33 ∧ (k = 4 ∨ k = 5 ∨ k = 6)) → ¬ (t = 1 ∧ o < 20) → I' t o k = I t o k
def gzTm (I I' : gzIT) : Prop := ∀ t o k, ¬ (t = 0 ∧ o = 47 ∧ (k = 10 ∨ k = 12)) → ¬ (t = 0 ∧ o = 48 ∧ k < 124 ∧ k ≠ 2 ∧ k ≠ 3 ∧ k ≠ 8) → I' t o k = I t o k
/-- the class's town 1 is like the model's, so far -/
def gzTwq (Ic Im : gzIT) (nf ng : Nat) : Prop := (∃ nl nx, gzTn Ic 1 (Im 0 48) nf ng nl nx ∧ gzWx (Im 0 48) nf ng nl) ∧ (∀ k, k < 10 → (Ic 1 13 k = 0 ∨ Ic 1 13 k = 1) ∧ (Ic 1 14 k = 0 ∨ Ic 1 14 k = 1)) ∧ (Ic 1 0 9 = 0 ∨ Ic 1 0 9 = 1)
def gzTyq (N c : Nat) (bt bg : Nat → Nat) (cd : Nat → Int32) (Ic Im : gzIT) (j nf ng : Nat) : Prop := gzCa c bg cd j Ic ∧ gzMa N c bt bg j Im ∧ gzTwq Ic Im nf ng
/-- both have failed at the same place -/
def gzFq (Ic Im A B : gzIT) : Prop := gzTf Ic A ∧ gzTm Im B ∧ A 0 33 7 = B 0 47 12
/-- both fail, at the same place, or both go on -/
def gzToq (N c : Nat) (bt bg : Nat → Nat) (cd : Nat → Int32) (Ic Im : gzIT) (J J' : gzJT) (j : Nat) (rc : Option (Except String Unit × gzIT × gzJT)) (rm : Option (Int32 × gzIT × gzJT)) : Prop :=
  (∃ A B, rc = some (.error "java/lang/IllegalArgumentException", A, J) ∧ rm = some (0, B, J') ∧ gzFq Ic Im A B) ∨
  (∃ A B j' nf ng, rc = some (.ok (), A, J) ∧ rm = some (1, B, J') ∧ gzTyq N c bt bg cd A B j' nf ng ∧ gzTg Ic A ∧ gzTm Im B ∧ j < j')
section
variable {I I' I2 X M A B Ic Im Ic' Im' Ic2 Im2 : gzIT} {J J' : gzJT} {φ nf ng n c N : Nat} {bt bg en : Nat → Nat} {cd : Nat → Int32}
theorem gzTg_refl : gzTg I I := fun _ _ _ _ _ => rfl
theorem gzTm_refl : gzTm I I := fun _ _ _ _ _ => rfl
theorem gzTg_fk (f : gzFkq I I') : gzTg I I' := fun t o k q _ => f t o k q
theorem gzTm_mo (f : gzMo I I') : gzTm I I' := fun t o k q _ => f t o k q
theorem gzTg_trans (a : gzTg I I') (b : gzTg I' I2) : gzTg I I2 := fun t o k q r => (b t o k q r).trans (a t o k q r)
theorem gzTm_trans (a : gzTm I I') (b : gzTm I' I2) : gzTm I I2 := fun t o k q r => (b t o k q r).trans (a t o k q r)
theorem gzTf_tg (a : gzTg I I') : gzTf I I' := fun t o k q r => a t o k (by omega) r
theorem gzTf_trans (a : gzTf I I') (b : gzTf I' I2) : gzTf I I2 := fun t o k q r => (b t o k q r).trans (a t o k q r)
theorem gzFq_step (a : gzTg Ic Ic') (b : gzTm Im Im') (h : gzFq Ic' Im' A B) : gzFq Ic Im A B := ⟨gzTf_trans (gzTf_tg a) h.1, gzTm_trans b h.2.1, h.2.2⟩
theorem gzFq_wg {j : Nat} (a : gzMo Im B) (b : B 0 47 12 = Int32.ofNat (bg j)) : gzFq Ic Im (gzWg bg j Ic) B := ⟨fun t o k q _ => if_neg (by omega), gzTm_mo a, by rw [b]; exact gz_ui_s⟩
theorem gzCa_tw {j : Nat} (h : gzCa c bg cd j I) (f : ∀ o k, (o = 33 ∨ o = 34 ∨ o = 35) → I' 0 o k = I 0 o k) : gzCa c bg cd j I' := ⟨h.1, ⟨(f 33 3 (by omega)).trans h.2.1.1, fun q hq => ⟨(f 34 q (by omega)).trans (h.2.1.2 q hq).1, (f 35 q (by omega)).trans (h.2.1.2 q hq).2⟩⟩, (f 33 4 (by omega)).trans h.2.2.1, (f 33 5 (by omega)).trans h.2.2.2.1, (f 33 6 (by omega)).trans h.2.2.2.2⟩
theorem gzMa_tw {j : Nat} (h : gzMa N c bt bg j I) (f : ∀ o k, (o = 47 ∨ o = 53) → I' 0 o k = I 0 o k) : gzMa N c bt bg j I' := by
  obtain ⟨h1, h2, p, p1, p2⟩ := h
  exact ⟨h1, ⟨(f 47 11 (by omega)).trans h2.1, fun q hq => by rw [f 53 q (by omega)]; exact h2.2 q hq⟩, p, (f 47 10 (by omega)).trans p1, p2⟩
theorem gzTw_go (h : gzTwq Ic Im nf ng) (fc : ∀ o k, o < 20 → Ic' 1 o k = Ic 1 o k) (fm : ∀ k, Im' 0 48 k = Im 0 48 k) : gzTwq Ic' Im' nf ng := by
  obtain ⟨⟨nl, nx, h1, h2⟩, h3, h4⟩ := h
  have e : Im' 0 48 = Im 0 48 := funext fm
  refine ⟨⟨nl, nx, ?_, ?_⟩, fun k hk => ?_, ?_⟩
  · rw [e]; exact gzTn_congr (fun o k a _ => fc o k a) h1
  · rw [e]; exact h2
  · rw [fc 13 k (by omega), fc 14 k (by omega)]; exact h3 k hk
  · rw [fc 0 9 (by omega)]; exact h4
theorem gzTw_st (h : gzTwq Ic Im nf ng) (a : gzFkq Ic Ic') (b : gzMo Im Im') : gzTwq Ic' Im' nf ng := gzTw_go h (fun o k _ => a 1 o k (by omega)) (fun k => b 0 48 k (by omega))
theorem gzBd_ext {nf' ng' i : Nat} {x : Int32} (h : gzBd nf ng i x) (h1 : ¬ (30 + 4 * nf ≤ i ∧ i < 30 + 4 * nf')) (h2 : ¬ (54 + 7 * ng ≤ i ∧ i < 54 + 7 * ng')) : gzBd nf' ng' i x := by
  obtain ⟨a1, a2, a3, a4, a5, a6, a7⟩ := h
  refine ⟨a1, a2, a3, a4, a5, fun f hf => ?_, fun g hg => ?_⟩
  · by_cases z : f < nf
    · exact a6 f z
    · exact ⟨fun e => absurd e (by omega), fun e => absurd e (by omega), fun e => absurd e (by omega)⟩
  · by_cases z : g < ng
    · exact a7 g z
    · exact ⟨fun e => absurd e (by omega), fun e => absurd e (by omega), fun e => absurd e (by omega)⟩
/-- the town read so far changes alike in both -/
theorem gzTw_ch {nf' ng' : Nat} (h : gzTwq Ic Im nf ng) (hn : nf' ≤ 6 ∧ ng' ≤ 10) (hc : A 1 1 5 = Int32.ofNat nf' ∧ B 0 48 0 = Int32.ofNat nf' ∧ A 1 7 7 = Int32.ofNat ng' ∧ B 0 48 1 = Int32.ofNat ng') (pr : ∀ o k i, gzQp nf' ng' o k i → A 1 o k = B 0 48 i ∨ (A 1 o k = Ic 1 o k ∧ B 0 48 i = Im 0 48 i ∧ gzQp nf ng o k i)) (ab : gzAbo (B 0 48) nf' ng') (bd : ∀ i, i < 124 → gzBd nf' ng' i (B 0 48 i) ∨ (B 0 48 i = Im 0 48 i ∧ ¬ (30 + 4 * nf ≤ i ∧ i < 30 + 4 * nf') ∧ ¬ (54 + 7 * ng ≤ i ∧ i < 54 + 7 * ng'))) (l1 : ∀ o j, (o = 15 ∨ o = 16) → A 1 o j = Ic 1 o j) (l2 : ∀ j, (j = 8 ∨ (124 ≤ j ∧ j < 364)) → B 0 48 j = Im 0 48 j) (bo : (∀ k, k < 10 → (A 1 13 k = 0 ∨ A 1 13 k = 1) ∧ (A 1 14 k = 0 ∨ A 1 14 k = 1)) ∧ (A 1 0 9 = 0 ∨ A 1 0 9 = 1)) : gzTwq A B nf' ng' := by
  obtain ⟨⟨nl, nx, hT, hx⟩, -, -⟩ := h
  refine ⟨⟨nl, nx, gzTn_mk ⟨hn.1, hn.2, hc.1, hc.2.1, hc.2.2.1, hc.2.2.2⟩ (fun o k i q => ?_) (gzLg_same hT.2.2.2.2.2.2 l1 l2), gzWx_mk hn.1 hn.2 ab (fun i hi => ?_)⟩, bo⟩
  · rcases pr o k i q with e | ⟨e1, e2, e3⟩
    · exact e
    · rw [e1, e2]; exact gzTn_pr hT o k i e3
  · by_cases z : i < 124
    · rcases bd i z with e | ⟨e1, e2, e3⟩
      · exact e
      · rw [e1]; exact gzBd_ext ((gzWx_bd hT.1.1 hx).2 i) e2 e3
    · exact gz_bd0 (by omega)
/-- one number of the town more -/
theorem gzTw_one {o k i : Nat} {x : Int32} (h : gzTwq Ic Im nf ng) (hq : (o = 0 ∧ k = 6 ∧ i = 2) ∨ (o = 0 ∧ 7 ≤ k ∧ k ≤ 10 ∧ i = k - 3) ∨ (o = 19 ∧ k < 4 ∧ i = 10 + k) ∨ (o = 17 ∧ k < 8 ∧ i = 14 + 2 * k) ∨ (o = 18 ∧ k < 8 ∧ i = 15 + 2 * k)) (hb : gzBd nf ng i x) (hx : o = 0 → k = 9 → x = 0 ∨ x = 1) : gzTwq (gz_ui Ic 1 o k x) (gz_ui Im 0 48 i x) nf ng := by
  obtain ⟨nl, nx, hT, hx2⟩ := id h.1
  obtain ⟨n1, n2, n3, n4, n5, n6⟩ := hT.1
  have fA : ∀ o' k', ¬ (o' = o ∧ k' = k) → gz_ui Ic 1 o k x 1 o' k' = Ic 1 o' k' := fun o' k' q => if_neg (by omega)
  have fB : ∀ i', i' ≠ i → gz_ui Im 0 48 i x 0 48 i' = Im 0 48 i' := fun i' q => if_neg (by omega)
  have hi : 2 ≤ i ∧ i < 30 ∧ i ≠ 3 ∧ i ≠ 8 := by omega
  have ho : o = 0 ∨ o = 17 ∨ o = 18 ∨ o = 19 := by omega
  refine gzTw_ch h ⟨n1, n2⟩ ⟨(fA 1 5 (by omega)).trans n3, (fB 0 (by omega)).trans n4, (fA 7 7 (by omega)).trans n5, (fB 1 (by omega)).trans n6⟩ (fun o' k' i' q => ?_) (gzAbo_congr (gzWx_bd n1 hx2).1 (fun g hg => ⟨fB _ (by omega), fB _ (by omega), fB _ (by omega)⟩)) (fun i' hi' => ?_) (fun o' j q => fA o' j (by omega)) (fun j q => fB j (by omega)) ⟨fun k' hk' => ?_, ?_⟩
  · by_cases z : o' = o ∧ k' = k
    · left
      have e : i' = i := by
        obtain ⟨z1, z2⟩ := z
        unfold gzQp at q
        rcases q with q | q | q | q | q | q | q | q <;> omega
      rw [z.1, z.2, e, gz_ui_s, gz_ui_s]
    · right
      have e : i' ≠ i := by
        unfold gzQp at q
        rcases q with q | q | q | q | q | q | q | q <;> rcases hq with p | p | p | p | p <;> omega
      exact ⟨fA o' k' z, fB i' e, q⟩
  · by_cases z : i' = i
    · left; rw [z, gz_ui_s]; exact hb
    · right; exact ⟨fB i' z, by omega, by omega⟩
  · rw [fA 13 k' (by omega), fA 14 k' (by omega)]; exact h.2.1 k' hk'
  · by_cases z : o = 0 ∧ k = 9
    · obtain ⟨z1, z2⟩ := z
      subst z1; subst z2
      rw [gz_ui_s]; exact hx rfl rfl
    · rw [fA 0 9 (by omega)]; exact h.2.2
theorem gzWa_tab2 : gzWa 17 = 1030 ∧ gzWa 18 = 1015 ∧ gzWa 19 = 1031 ∧ gzWa 20 = 1032 ∧ gzWa 21 = 1033 ∧ gzWa 22 = 1016 ∧ gzWa 23 = 1017 ∧ gzWa 24 = 1012 ∧ gzWa 25 = 1034 ∧ gzWa 26 = 1014 ∧ gzWa 27 = 1013 ∧ gzWa 28 = 1020 ∧ gzWa 29 = 1018 ∧ gzWa 30 = 1008 ∧ gzWa 31 = 1009 ∧ gzWa 32 = 1010 ∧ gzWa 33 = 1011 ∧ gzWa 34 = 1035 ∧ gzWa 35 = 1036 ∧ gzWa 36 = 1037 ∧ gzWa 37 = 1022 := by decide +kernel
theorem gzVoc_let : ∀ s, s < 8 → gzVoc[s]? = some [Int32.ofNat (97 + s)] := by decide +kernel
/-- behind the word that is there -/
theorem m_at {j a : Nat} (hk : gzTkq N c bt bg en cd) (hj : j ≤ c) (hx : gzMxq I N bt) (h10 : I 0 47 10 = Int32.ofNat (gzLe c bt bg en j)) (ha : 17 ≤ a) (ha2 : a < 47) (hc : cd j = gzWa a) : gzMa N c bt bg (j + 1) I := by
  obtain ⟨l1, l2⟩ := gzWa_lt hk hj ha ha2 hc
  exact ⟨l1, hx, gzMp_next hk l1 (by rw [h10]; exact congrArg Int32.ofNat (if_pos ⟨l1, l2⟩))⟩
/-- a number -/
theorem r_num {j n : Nat} {y hi : Int32} (hk : gzTkq N c bt bg en cd) (hφ : 500 < φ) (h1 : gzCa c bg cd j Ic) (h2 : gzMa N c bt bg j Im) (hn : n ≤ 1000) (hy : y + 1 = Int32.ofNat n) (hh : ∀ v, v < 1000 → (Int32.ofNat v ≤ hi ↔ v < n)) :
    (∃ A B, f_X7_number y Ic J = some (.error "java/lang/IllegalArgumentException", A, J) ∧ f_X12_number φ 0 hi Im J' = some (-1, B, J') ∧ gzFq Ic Im A B) ∨
    (∃ A B v, v < n ∧ cd j = Int32.ofNat v ∧ f_X7_number y Ic J = some (.ok (Int32.ofNat v), A, J) ∧ f_X12_number φ 0 hi Im J' = some (Int32.ofNat v, B, J') ∧ gzCa c bg cd (j + 1) A ∧ gzMa N c bt bg (j + 1) B ∧ gzFkq Ic A ∧ gzMo Im B) := by
  by_cases z : ∃ v, v < n ∧ cd j = Int32.ofNat v
  · obtain ⟨v, v1, v2⟩ := z
    obtain ⟨A, a1, a2, a3, -⟩ := c_numY (J := J) (x := y) hk h1 v2 v1 (by omega) hy
    obtain ⟨B, b1, b2, b3, -⟩ := m_numY (φ := φ) (J := J') (hi := hi) hk h2 (by omega) v2 ((hh v (by omega)).2 v1) hφ
    exact Or.inr ⟨A, B, v, v1, v2, a1, b1, a2, b2, a3, b3⟩
  · obtain ⟨B, b1, b2, b3⟩ := m_numN (φ := φ) (J := J') (hi := hi) hk h2 (fun v hv hv2 x => z ⟨v, (hh v hv).1 hv2, x⟩) hφ
    exact Or.inl ⟨_, B, c_numN (J := J) (x := y) (n := n) h1 (fun v hv x => z ⟨v, hv, x⟩) (by omega) hy, b1, gzFq_wg b2 b3⟩
/-- a word that must be there -/
theorem r_word {j a : Nat} {x : Int32} (hk : gzTkq N c bt bg en cd) (hφ : 500 < φ) (h1 : gzCa c bg cd j Ic) (h2 : gzMa N c bt bg j Im) (ha : 17 ≤ a) (ha2 : a < 47) (hx : gzWa a = x) (h3 : x ≠ -3) :
    ∃ B, f_X12_letters φ Im J' = some ((), B, J') ∧ gzMo Im B ∧ B 0 47 12 = Int32.ofNat (bg j) ∧
    ((f_X7_need x Ic J = some (.error "java/lang/IllegalArgumentException", gzWg bg j Ic, J) ∧ f_X12_isWord φ a B = some 0 ∧ gzFq Ic Im (gzWg bg j Ic) B) ∨
    (∃ A, f_X7_need x Ic J = some (.ok (), A, J) ∧ f_X12_isWord φ a B = some 1 ∧ gzCa c bg cd (j + 1) A ∧ gzMa N c bt bg (j + 1) B ∧ gzFkq Ic A)) := by
  obtain ⟨B, a1, a2, a3, a4⟩ := m_letters (J := J') hk h2.2.1 h2.2.2 h2.1 hφ
  have hw := m_word (φ := φ) hk (gzMx_mo h2.2.1 a2) a3 a4 h2.1 ha ha2 hφ
  refine ⟨B, a1, a2, a4, ?_⟩
  by_cases z : cd j = x
  · obtain ⟨A, b1, b2, b3, -⟩ := c_needY (J := J) hk h1 z h3
    rw [if_pos (z.trans hx.symm)] at hw
    exact Or.inr ⟨A, b1, hw, b2, m_at hk h2.1 (gzMx_mo h2.2.1 a2) a3 ha ha2 (z.trans hx.symm), b3⟩
  · rw [if_neg (fun q => z (q.trans hx))] at hw
    exact Or.inl ⟨c_needN h1 z, hw, gzFq_wg a2 a4⟩
/-- a word that must be there, and a number behind it -/
theorem r_after {j a n : Nat} {x y hi : Int32} (hk : gzTkq N c bt bg en cd) (hφ : 500 < φ) (h1 : gzCa c bg cd j Ic) (h2 : gzMa N c bt bg j Im) (ha : 17 ≤ a) (ha2 : a < 47) (hx : gzWa a = x) (h3 : x ≠ -3) (hn : n ≤ 1000) (hy : y + 1 = Int32.ofNat n) (hh : ∀ v, v < 1000 → (Int32.ofNat v ≤ hi ↔ v < n)) :
    (∃ A B, f_X7_need x Ic J = some (.error "java/lang/IllegalArgumentException", A, J) ∧ f_X12_after φ a 0 hi Im J' = some (-1, B, J') ∧ gzFq Ic Im A B) ∨
    (∃ A0 A B, f_X7_need x Ic J = some (.ok (), A0, J) ∧ f_X7_number y A0 J = some (.error "java/lang/IllegalArgumentException", A, J) ∧ f_X12_after φ a 0 hi Im J' = some (-1, B, J') ∧ gzFq Ic Im A B) ∨
    (∃ A0 A B v, v < n ∧ f_X7_need x Ic J = some (.ok (), A0, J) ∧ f_X7_number y A0 J = some (.ok (Int32.ofNat v), A, J) ∧ f_X12_after φ a 0 hi Im J' = some (Int32.ofNat v, B, J') ∧ gzCa c bg cd (j + 2) A ∧ gzMa N c bt bg (j + 2) B ∧ gzFkq Ic A ∧ gzMo Im B) := by
  obtain ⟨B, w1, w2, w3, w⟩ := r_word (J := J) (J' := J') hk hφ h1 h2 ha ha2 hx h3
  have hA : ∀ k : Int32, f_X12_isWord φ a B = some k → f_X12_after φ a 0 hi Im J' = if k = 0 then some (-1, B, J') else Option.bind (f_X12_number φ 0 hi B J') (fun v6 => some (v6.1, v6.2.1, v6.2.2)) := fun k e => by
    unfold f_X12_after
    rw [w1]
    simp only [Option.bind_some]
    rw [e]
    rfl
  rcases w with ⟨a1, a2, a3⟩ | ⟨A0, a1, a2, a3, a4, a5⟩
  · exact Or.inl ⟨_, B, a1, by rw [hA 0 a2, if_pos rfl], a3⟩
  · right
    rcases r_num (φ := φ) (J := J) (J' := J') (y := y) (hi := hi) hk hφ a3 a4 hn hy hh with ⟨A, B2, b1, b2, b3⟩ | ⟨A, B2, v, b1, -, b2, b3, b4, b5, b6, b7⟩
    · refine Or.inl ⟨A0, A, B2, a1, b1, ?_, gzFq_step (gzTg_fk a5) (gzTm_mo w2) b3⟩
      rw [hA 1 a2, if_neg (by decide), b2]
      rfl
    · refine Or.inr ⟨A0, A, B2, v, b1, a1, b2, ?_, b4, b5, gzFk_trans a5 b6, gzMo_trans w2 b7⟩
      rw [hA 1 a2, if_neg (by decide), b3]
      rfl
theorem gzLt_iff {j s : Nat} (hk : gzTkq N c bt bg en cd) (hj : j ≤ c) (hs : s < 8) : cd j = Int32.ofNat (1000 + s) ↔ j < c ∧ gzKk (bt (bg j)) = 1 ∧ en j = bg j + 1 ∧ bt (bg j) = 97 + s := by
  by_cases y : j < c
  · obtain ⟨b1, b2, b3, b4, -⟩ := hk.2.2.2.2.2.2 j y
    have hb := hk.2.2.2.2.1 (bg j) (by omega)
    rcases gzTk_cd hk y with ⟨q1, q⟩ | ⟨q1, ⟨-, q, q2⟩ | ⟨-, q⟩⟩ | ⟨q1, q⟩
    · have := gzWf_ix (u := gzTx bt (bg j) (en j - bg j)) gzVoc 1000 s gzVoc_nd (by rw [gzVoc_len.1]; omega) (by omega)
      rw [gzVoc_let s hs] at this
      have h2 : cd j = Int32.ofNat (1000 + s) ↔ some [Int32.ofNat (97 + s)] = some (gzTx bt (bg j) (en j - bg j)) := by rw [q]; exact this
      rw [h2]
      constructor
      · intro x
        have x := Option.some.inj x
        have hl := congrArg List.length x
        rw [gzTx_len] at hl
        have hl1 : en j - bg j = 1 := hl.symm
        rw [hl1] at x
        have x2 : Int32.ofNat (97 + s) = Int32.ofNat (bt (bg j)) := (List.cons.inj x).1
        rw [gzn_inj (by omega) (by omega)] at x2
        exact ⟨y, q1, by omega, x2.symm⟩
      · rintro ⟨-, -, x1, x2⟩
        rw [x1, show bg j + 1 - bg j = 1 by omega, ← x2]
        rfl
    · rw [q, gzn_inj (by omega) (by omega)]
      constructor
      · intro x; omega
      · intro x; omega
    · rw [q]
      constructor
      · intro x; exact absurd x (gz_n2 (by omega))
      · intro x; omega
    · rw [q, gzn_inj (by omega) (by omega)]
      constructor
      · intro x; omega
      · intro x; omega
  · rw [show j = c by omega, hk.2.2.2.1]
    constructor
    · intro x; exact absurd x (gz_n3 (by omega))
    · intro x; omega
/-- a letter a to h -/
theorem r_letter {j : Nat} (hk : gzTkq N c bt bg en cd) (hφ : 500 < φ) (h1 : gzCa c bg cd j Ic) (h2 : gzMa N c bt bg j Im) :
    (∃ A B, f_X7_among 1000 8 Ic J = some (.error "java/lang/IllegalArgumentException", A, J) ∧ f_X12_letterTold φ Im J' = some (-1, B, J') ∧ gzFq Ic Im A B) ∨
    (∃ A B s, s < 8 ∧ f_X7_among 1000 8 Ic J = some (.ok (Int32.ofNat s), A, J) ∧ f_X12_letterTold φ Im J' = some (Int32.ofNat s, B, J') ∧ gzCa c bg cd (j + 1) A ∧ gzMa N c bt bg (j + 1) B ∧ gzFkq Ic A ∧ gzMo Im B) := by
  obtain ⟨B, a1, a2, a3, a4⟩ := m_letters (J := J') hk h2.2.1 h2.2.2 h2.1 hφ
  have hN := hk.2.1
  have hx := gzMx_mo h2.2.1 a2
  obtain ⟨g1, g2⟩ := gzTk_bg hk h2.1
  have hle : bg j ≤ gzLe c bt bg en j ∧ gzLe c bt bg en j ≤ 400 := by
    unfold gzLe
    split
    · next z =>
      have := hk.2.2.2.2.2.2 j z.1
      omega
    · omega
  by_cases z : ∃ s, s < 8 ∧ cd j = Int32.ofNat (1000 + s)
  · obtain ⟨s, s1, s2⟩ := z
    obtain ⟨l1, l2, l3, l4⟩ := (gzLt_iff hk h2.1 s1).1 s2
    obtain ⟨A, A1, A2, A3, -⟩ := c_amongY (J := J) (a := 1000) (m := 8) hk h1 s2 s1 (by omega)
    have e : gzLe c bt bg en j = bg j + 1 := (if_pos ⟨l1, l2⟩).trans l3
    have hb := hk.2.2.2.2.2.2 j l1
    refine Or.inr ⟨A, B, s, s1, A1, ?_, A2, ⟨l1, hx, gzMp_next hk l1 (by rw [a3, e, l3])⟩, A3, a2⟩
    unfold f_X12_letterTold
    rw [a1]
    simp only [Option.bind_some]
    rw [a3, a4, e, gzc_subs (by omega), show bg j + 1 - bg j = 1 by omega, if_neg (fun q => q rfl), gzGd_in (by omega) (by omega), gzn_clamp (by omega), (hx.2 (bg j) (by omega)).1 (by omega), l4]
    unfold f_X12_in
    rw [if_neg (by rw [gzc_lt2 (by omega) (by omega)]; omega), if_neg (by rw [gzc_lt1 (by omega) (by omega)]; omega)]
    simp only [Option.bind_some]
    rw [if_neg (by decide), gzc_sub (by omega)]
    show some (Int32.ofNat (97 + s - 97), B, J') = _
    rw [show 97 + s - 97 = s by omega]
  · refine Or.inl ⟨_, B, c_amongN (J := J) (a := 1000) (m := 8) h1 (by omega) (fun v hv x => z ⟨v, hv, x⟩), ?_, gzFq_wg a2 a4⟩
    unfold f_X12_letterTold
    rw [a1]
    simp only [Option.bind_some]
    rw [a3, a4, gzc_subs hle.1]
    by_cases y : gzLe c bt bg en j - bg j = 1
    · have hz : j < c ∧ gzKk (bt (bg j)) = 1 := by
        by_cases q : j < c ∧ gzKk (bt (bg j)) = 1
        · exact q
        · have : gzLe c bt bg en j = bg j := if_neg q
          omega
      have e : gzLe c bt bg en j = en j := if_pos hz
      have hb := hk.2.2.2.2.2.2 j hz.1
      have hkk := gz_kk1.1 hz.2
      rw [if_neg (fun q => q (by rw [y]; rfl)), gzGd_in (by omega) (by omega), gzn_clamp (by omega), (hx.2 (bg j) (by omega)).1 (by omega)]
      unfold f_X12_in
      rw [if_neg (by rw [gzc_lt2 (by omega) (by omega)]; omega), if_pos (by
        rw [gzc_lt1 (by omega) (by omega)]
        by_cases q : 104 < bt (bg j)
        · exact q
        · exact absurd ((gzLt_iff (s := bt (bg j) - 97) hk h2.1 (by omega)).2 ⟨hz.1, hz.2, by omega, by omega⟩) (fun x => z ⟨bt (bg j) - 97, by omega, x⟩))]
      simp only [Option.bind_some]
      rw [if_pos (by decide)]
    · rw [if_pos (fun q => y ((gzc_eq2 (by omega) (by omega)).1 q))]
/-- a SEASON -/
theorem r_seasonT {j : Nat} (hk : gzTkq N c bt bg en cd) (hφ : 500 < φ) (h1 : gzCa c bg cd j Ic) (h2 : gzMa N c bt bg j Im) :
    (∃ A B, f_X7_among 1008 4 Ic J = some (.error "java/lang/IllegalArgumentException", A, J) ∧ f_X12_seasonTold φ Im J' = some (-1, B, J') ∧ gzFq Ic Im A B) ∨
    (∃ A B s, s < 4 ∧ f_X7_among 1008 4 Ic J = some (.ok (Int32.ofNat s), A, J) ∧ f_X12_seasonTold φ Im J' = some (Int32.ofNat s, B, J') ∧ gzCa c bg cd (j + 1) A ∧ gzMa N c bt bg (j + 1) B ∧ gzFkq Ic A ∧ gzMo Im B) := by
  obtain ⟨B, a1, a2, a3, a4⟩ := m_letters (J := J') hk h2.2.1 h2.2.2 h2.1 hφ
  have hx := gzMx_mo h2.2.1 a2
  have g : ∀ a, 17 ≤ a → a < 47 → f_X12_isWord φ a B = some (if cd j = gzWa a then 1 else 0) := fun a h1 h2' => m_word hk hx a3 a4 h2.1 h1 h2' hφ
  obtain ⟨-, -, -, -, -, -, -, -, -, -, -, -, -, w0, w1, w2, w3, -⟩ := gzWa_tab2
  have hM : f_X12_seasonTold φ Im J' = if cd j = 1008 then some (0, B, J') else if cd j = 1009 then some (1, B, J') else if cd j = 1010 then some (2, B, J') else if cd j = 1011 then some (3, B, J') else some (-1, B, J') := by
    unfold f_X12_seasonTold
    rw [a1]
    simp only [Option.bind_some]
    rw [g 30 (by omega) (by omega), g 31 (by omega) (by omega), g 32 (by omega) (by omega), g 33 (by omega) (by omega), w0, w1, w2, w3]
    simp only [Option.bind_some, gzc_p0, ite_not]
  have key : ∀ s a, s < 4 → 17 ≤ a → a < 47 → cd j = Int32.ofNat (1008 + s) → cd j = gzWa a → f_X12_seasonTold φ Im J' = some (Int32.ofNat s, B, J') → ∃ A B s, s < 4 ∧ f_X7_among 1008 4 Ic J = some (.ok (Int32.ofNat s), A, J) ∧ f_X12_seasonTold φ Im J' = some (Int32.ofNat s, B, J') ∧ gzCa c bg cd (j + 1) A ∧ gzMa N c bt bg (j + 1) B ∧ gzFkq Ic A ∧ gzMo Im B := fun s a s1 s2 s3 s4 s5 s6 => by
    obtain ⟨A, A1, A2, A3, -⟩ := c_amongY (J := J) (a := 1008) (m := 4) hk h1 s4 s1 (by omega)
    exact ⟨A, B, s, s1, A1, s6, A2, m_at hk h2.1 hx a3 s2 s3 s5, A3, a2⟩
  by_cases z0 : cd j = 1008
  · exact Or.inr (key 0 30 (by omega) (by omega) (by omega) z0 (z0.trans w0.symm) (by rw [hM, if_pos z0]; rfl))
  by_cases z1 : cd j = 1009
  · exact Or.inr (key 1 31 (by omega) (by omega) (by omega) z1 (z1.trans w1.symm) (by rw [hM, if_neg z0, if_pos z1]; rfl))
  by_cases z2 : cd j = 1010
  · exact Or.inr (key 2 32 (by omega) (by omega) (by omega) z2 (z2.trans w2.symm) (by rw [hM, if_neg z0, if_neg z1, if_pos z2]; rfl))
  by_cases z3 : cd j = 1011
  · exact Or.inr (key 3 33 (by omega) (by omega) (by omega) z3 (z3.trans w3.symm) (by rw [hM, if_neg z0, if_neg z1, if_neg z2, if_pos z3]; rfl))
  · refine Or.inl ⟨_, B, c_amongN (J := J) (a := 1008) (m := 4) h1 (by omega) (fun v hv x => ?_), by rw [hM, if_neg z0, if_neg z1, if_neg z2, if_neg z3], gzFq_wg a2 a4⟩
    rcases (show v = 0 ∨ v = 1 ∨ v = 2 ∨ v = 3 by omega) with rfl | rfl | rfl | rfl
    · exact z0 x
    · exact z1 x
    · exact z2 x
    · exact z3 x
end
