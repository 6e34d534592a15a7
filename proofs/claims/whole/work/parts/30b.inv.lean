/-! the relation between the class's memory and the model's: gzR Ic Im reads the class's cells of Ic and the model's of Im -/
/-- more bounds of a row -/
def gzWx (w : Nat → Int32) (nf ng nl : Nat) : Prop := gzWr w nf ng nl ∧
  (∀ f, f < nf → (0 ≤ (w (30 + 4 * f)).toInt ∧ (w (30 + 4 * f)).toInt ≤ 9) ∧ (0 ≤ (w (31 + 4 * f)).toInt ∧ (w (31 + 4 * f)).toInt ≤ 99) ∧ (0 ≤ (w (32 + 4 * f)).toInt ∧ (w (32 + 4 * f)).toInt ≤ 999) ∧ (0 ≤ (w (33 + 4 * f)).toInt ∧ (w (33 + 4 * f)).toInt ≤ 99)) ∧
  (∀ s, s < 16 → 0 ≤ (w (14 + s)).toInt ∧ (w (14 + s)).toInt ≤ 9) ∧ (∀ i, i = 7 ∨ (10 ≤ i ∧ i < 14) → 0 ≤ (w i).toInt ∧ (w i).toInt ≤ 100) ∧ (w 3 = 0 ∨ w 3 = 1)
/-- the class's town t is like the row w -/
def gzRt (Ic : gzIT) (t : Nat) (w : Nat → Int32) : Prop := ∃ nf ng nl nx, gzTn Ic t w nf ng nl nx ∧ gzWx w nf ng nl
/-- a code of the class's law against the model's -/
def gzCd (a c n : Int32) : Prop :=
  (c = 11 ∧ a = n ∧ 0 ≤ n.toInt ∧ n.toInt ≤ 999) ∨ (∃ k : Nat, k < 11 ∧ c = Int32.ofNat k ∧ a = Int32.ofNat (1012 + k)) ∨
  (c = 12 ∧ a = 2043) ∨ (c = 13 ∧ a = 2060) ∨ (c = 14 ∧ a = 2062) ∨ (c = 15 ∧ a = 1027) ∨ (c = 16 ∧ a = 1028) ∨ (c = 17 ∧ a = 1029)
/-- the kinds of what lies on the stack (true: a truth) behind a code of the model's -/
def gzSt (c : Int32) (L : List Bool) : Option (List Bool) :=
  if c.toInt ≤ 7 ∨ c = 11 then some (false :: L)
  else if c.toInt ≤ 10 then some (true :: L)
  else if c = 12 then (match L with | false :: false :: r => some (false :: r) | _ => none)
  else if c = 13 ∨ c = 14 then (match L with | false :: false :: r => some (true :: r) | _ => none)
  else if c = 15 then (match L with | true :: r => some (true :: r) | _ => none)
  else (match L with | true :: true :: r => some (true :: r) | _ => none)
/-- m codes from i on -/
def gzSh (v : Nat → Int32) : Nat → Nat → List Bool → Option (List Bool)
  | _, 0, L => some L
  | i, m + 1, L => if 24 < L.length then none else (gzSt (v (49 + 2 * i)) L).bind (fun L' => gzSh v (i + 1) m L')
/-- the class's law t against the model's text v; has: whether there is one -/
def gzLw (Ic : gzIT) (t : Nat) (v : Nat → Int32) (has : Int32) : Prop :=
  (has = 0 ∧ Ic t 20 7 = -1) ∨
  (has = 1 ∧ ∃ nl nc : Nat, nl ≤ 12 ∧ nc ≤ 400 ∧ Ic t 20 7 = Int32.ofNat nl ∧ v 0 = Int32.ofNat nl ∧
    ∀ l, l < nl → ∃ kd b e : Nat, kd < 3 ∧ b ≤ e ∧ e ≤ nc ∧ Ic t 21 l = Int32.ofNat (1023 + kd) ∧ v (1 + 4 * l) = Int32.ofNat kd ∧ Ic t 22 l = v (2 + 4 * l) ∧ (0 ≤ (v (2 + 4 * l)).toInt ∧ (v (2 + 4 * l)).toInt ≤ 100) ∧
      Ic t 23 l = Int32.ofNat b ∧ v (3 + 4 * l) = Int32.ofNat b ∧ Ic t 24 l = Int32.ofNat e ∧ v (4 + 4 * l) = Int32.ofNat e ∧ (∀ i, b ≤ i → i < e → gzCd (Ic t 25 i) (v (49 + 2 * i)) (v (50 + 2 * i))) ∧ (b = e ∨ gzSh v b (e - b) [] = some [true]))
def gzRp (Ic Im : gzIT) (has : Int32) : Prop := ∃ k m : Nat, k ≤ 12 ∧ m < 12 ∧ Ic 0 39 1 = Int32.ofNat k ∧ Im 0 47 7 = Int32.ofNat k ∧ Ic 0 39 2 = Int32.ofNat m ∧
  ∀ j, j < k → ∃ w : Nat → Int32, (∀ i, i < 364 → Im 0 52 (364 * (k - 1 - j) + i) = w i) ∧ gzRt Ic (3 + (m + 11 - j) % 12) w ∧ w 3 = has
def gzRi (Ic Im : gzIT) : Prop := Ic 0 30 12 = Im 0 47 6 ∧ (Im 0 47 6 = 0 ∨ (Im 0 47 6 = 1 ∧ ∃ w v : Nat → Int32, (∀ i, i < 364 → Im 0 49 i = w i) ∧ (∀ i, i < 849 → Im 0 49 (364 + i) = v i) ∧ gzRt Ic 2 w ∧ gzLw Ic 2 v (w 3)))
def gzRe (Ic Im : gzIT) : Prop := ∃ n : Nat, n ≤ 400 ∧ Ic 0 31 1 = Int32.ofNat n ∧ Im 0 47 9 = Int32.ofNat n ∧ ∀ i, i < n → Ic 0 32 i = Im 0 53 i &&& 255 ∧ (Im 0 53 i).toInt8.toInt32 = Im 0 53 i
def gzRb (Ic : gzIT) : Prop := ∀ t, t < 15 → t ≠ 1 → (∀ k, k < 10 → (Ic t 13 k = 0 ∨ Ic t 13 k = 1) ∧ (Ic t 14 k = 0 ∨ Ic t 14 k = 1)) ∧ (Ic t 0 9 = 0 ∨ Ic t 0 9 = 1)
def gzR (Ic Im : gzIT) : Prop := ∃ w v : Nat → Int32, (∀ i, i < 364 → Im 0 48 i = w i) ∧ (∀ i, i < 849 → Im 0 48 (364 + i) = v i) ∧ gzRt Ic 0 w ∧ gzLw Ic 0 v (w 3) ∧ gzRp Ic Im (w 3) ∧ gzRi Ic Im ∧ gzRe Ic Im ∧ Ic 0 33 7 = Im 0 47 14 ∧ gzRb Ic
/-- where the class writes what it doesn't remember -/
def gzCs (t o k : Nat) : Prop := (t = 1 ∧ o < 28) ∨ o = 6 ∨ o = 26 ∨ o = 27 ∨ (33 ≤ o ∧ o ≤ 36 ∧ ¬ (o = 33 ∧ k = 7)) ∨ (41 ≤ o ∧ o ≤ 46) ∨ 47 ≤ o
/-- and the model -/
def gzMw (t o k : Nat) : Prop := o < 47 ∨ (o = 47 ∧ k ≠ 6 ∧ k ≠ 7 ∧ k ≠ 9 ∧ k ≠ 14) ∨ (o = 48 ∧ 1213 ≤ k) ∨ o = 50 ∨ o = 51 ∨ 54 ≤ o
def gzCeq (I I' : gzIT) : Prop := ∀ t o k, ¬ gzCs t o k → I' t o k = I t o k
def gzMeq (I I' : gzIT) : Prop := ∀ t o k, ¬ gzMw t o k → I' t o k = I t o k
theorem gzTn_congr {I I' : gzIT} {t : Nat} {w : Nat → Int32} {nf ng nl nx : Nat} (h : ∀ o k, o < 20 → o ≠ 6 → I' t o k = I t o k) (hT : gzTn I t w nf ng nl nx) : gzTn I' t w nf ng nl nx := by
  have e : ∀ o, o < 20 → o ≠ 6 → I' t o = I t o := fun o h1 h2 => funext fun k => h o k h1 h2
  unfold gzTn gzLg at hT ⊢
  rw [e 0 (by omega) (by omega), e 1 (by omega) (by omega), e 2 (by omega) (by omega), e 3 (by omega) (by omega), e 4 (by omega) (by omega), e 5 (by omega) (by omega), e 7 (by omega) (by omega), e 8 (by omega) (by omega), e 9 (by omega) (by omega), e 10 (by omega) (by omega), e 11 (by omega) (by omega), e 12 (by omega) (by omega), e 13 (by omega) (by omega), e 14 (by omega) (by omega), e 15 (by omega) (by omega), e 16 (by omega) (by omega), e 17 (by omega) (by omega), e 18 (by omega) (by omega), e 19 (by omega) (by omega)]
  exact hT
theorem gzRt_congr {I I' : gzIT} {t : Nat} {w : Nat → Int32} (h : ∀ o k, o < 20 → o ≠ 6 → I' t o k = I t o k) (hT : gzRt I t w) : gzRt I' t w := by
  obtain ⟨nf, ng, nl, nx, h1, h2⟩ := hT
  exact ⟨nf, ng, nl, nx, gzTn_congr h h1, h2⟩
theorem gzLw_congr {I I' : gzIT} {t : Nat} {v : Nat → Int32} {has : Int32} (h : ∀ o k, 20 ≤ o → o < 26 → I' t o k = I t o k) (hT : gzLw I t v has) : gzLw I' t v has := by
  have e : ∀ o, 20 ≤ o → o < 26 → I' t o = I t o := fun o h1 h2 => funext fun k => h o k h1 h2
  unfold gzLw at hT ⊢
  rw [e 20 (by omega) (by omega), e 21 (by omega) (by omega), e 22 (by omega) (by omega), e 23 (by omega) (by omega), e 24 (by omega) (by omega), e 25 (by omega) (by omega)]
  exact hT
theorem gzR_congr {Ic Im Ic' Im' : gzIT} (hc : gzCeq Ic Ic') (hm : gzMeq Im Im') (h : gzR Ic Im) : gzR Ic' Im' := by
  obtain ⟨w, v, h1, h2, h3, h4, ⟨k, m, p1, p2, p3, p4, p5, p6⟩, ⟨i1, i2⟩, ⟨n, e1, e2, e3, e4⟩, h8, h9⟩ := h
  have c0 : ∀ t o k, t ≠ 1 → o < 20 → o ≠ 6 → Ic' t o k = Ic t o k := fun t o k a b c => hc t o k (by unfold gzCs; omega)
  have cl : ∀ t o k, t ≠ 1 → 20 ≤ o → o < 26 → Ic' t o k = Ic t o k := fun t o k a b c => hc t o k (by unfold gzCs; omega)
  refine ⟨w, v, fun i hi => ?_, fun i hi => ?_, gzRt_congr (fun o k => c0 0 o k (by omega)) h3, gzLw_congr (fun o k => cl 0 o k (by omega)) h4, ⟨k, m, p1, p2, ?_, ?_, ?_, fun j hj => ?_⟩, ⟨?_, ?_⟩, ⟨n, e1, ?_, ?_, fun i hi => ?_⟩, ?_, fun t ht h1 => ?_⟩
  · rw [hm 0 48 i (by unfold gzMw; omega)]; exact h1 i hi
  · rw [hm 0 48 _ (by unfold gzMw; omega)]; exact h2 i hi
  · rw [hc 0 39 1 (by unfold gzCs; omega)]; exact p3
  · rw [hm 0 47 7 (by unfold gzMw; omega)]; exact p4
  · rw [hc 0 39 2 (by unfold gzCs; omega)]; exact p5
  · obtain ⟨w2, q1, q2, q3⟩ := p6 j hj
    refine ⟨w2, fun i hi => ?_, gzRt_congr (fun o k => c0 _ o k (by omega)) q2, q3⟩
    rw [hm 0 52 _ (by unfold gzMw; omega)]; exact q1 i hi
  · rw [hc 0 30 12 (by unfold gzCs; omega), hm 0 47 6 (by unfold gzMw; omega)]; exact i1
  · rw [hm 0 47 6 (by unfold gzMw; omega)]
    rcases i2 with i2 | ⟨i2, w2, v2, q1, q2, q3, q4⟩
    · exact Or.inl i2
    · refine Or.inr ⟨i2, w2, v2, fun i hi => ?_, fun i hi => ?_, gzRt_congr (fun o k => c0 2 o k (by omega)) q3, gzLw_congr (fun o k => cl 2 o k (by omega)) q4⟩
      · rw [hm 0 49 _ (by unfold gzMw; omega)]; exact q1 i hi
      · rw [hm 0 49 _ (by unfold gzMw; omega)]; exact q2 i hi
  · rw [hc 0 31 1 (by unfold gzCs; omega)]; exact e2
  · rw [hm 0 47 9 (by unfold gzMw; omega)]; exact e3
  · rw [hc 0 32 i (by unfold gzCs; omega), hm 0 53 i (by unfold gzMw; omega)]; exact e4 i hi
  · rw [hc 0 33 7 (by unfold gzCs; omega), hm 0 47 14 (by unfold gzMw; omega)]; exact h8
  · obtain ⟨b1, b2⟩ := h9 t ht h1
    refine ⟨fun k hk => ?_, ?_⟩
    · rw [c0 t 13 k h1 (by omega) (by omega), c0 t 14 k h1 (by omega) (by omega)]; exact b1 k hk
    · rw [c0 t 0 9 h1 (by omega) (by omega)]; exact b2
/-- at the start all is alike -/
theorem gzR_start : gzR gzI0 gzI0 := by
  have tn : gzRt gzI0 0 (gzI0 0 48) := by
    refine ⟨0, 0, 0, 0, ⟨⟨by omega, by omega, rfl, rfl, rfl, rfl⟩, ⟨rfl, rfl, rfl, rfl, rfl, rfl⟩, by decide +kernel, by decide +kernel, fun f hf => absurd hf (by omega), fun f hf => absurd hf (by omega), ⟨by omega, by omega, rfl, rfl, rfl, fun a ha => absurd ha (by omega)⟩⟩, ⟨⟨by decide +kernel, by decide +kernel, by decide +kernel, Or.inl rfl, fun f hf => absurd hf (by omega), fun f hf => absurd hf (by omega)⟩, fun f hf => absurd hf (by omega), by decide +kernel, fun i hi => by rcases (show i = 7 ∨ i = 10 ∨ i = 11 ∨ i = 12 ∨ i = 13 by omega) with rfl | rfl | rfl | rfl | rfl <;> decide +kernel, Or.inl rfl⟩⟩
  refine ⟨gzI0 0 48, fun i => gzI0 0 48 (364 + i), fun i hi => rfl, fun i hi => rfl, tn, Or.inl ⟨rfl, rfl⟩, ⟨0, 0, by omega, by omega, rfl, rfl, rfl, fun j hj => absurd hj (by omega)⟩, ⟨rfl, Or.inl rfl⟩, ⟨0, by omega, rfl, rfl, fun i hi => absurd hi (by omega)⟩, rfl, fun t ht h1 => ⟨fun k hk => ⟨Or.inl rfl, Or.inl rfl⟩, Or.inl rfl⟩⟩
