/-! counted loops of the functions -/
theorem gzn_int {n : Nat} (h : n < 2 ^ 31) : (Int32.ofNat n).toInt = n := Int32.toInt_ofNat_of_lt h
theorem gzn_clamp {n : Nat} (h : n < 2 ^ 31) : (Int32.ofNat n).toNatClampNeg = n := by
  have := gzn_int h
  show (Int32.ofNat n).toInt.toNat = n
  omega
theorem gzn_succ (n : Nat) : Int32.ofNat n + 1 = Int32.ofNat (n + 1) := by
  rw [Int32.ofNat_add]; rfl
theorem gzn_le {a b : Nat} (ha : a < 2 ^ 31) (hb : b < 2 ^ 31) : Int32.ofNat a ≤ Int32.ofNat b ↔ a ≤ b := by
  rw [Int32.le_iff_toInt_le, gzn_int ha, gzn_int hb]; omega
theorem gzn_lt {a b : Nat} (ha : a < 2 ^ 31) (hb : b < 2 ^ 31) : Int32.ofNat a < Int32.ofNat b ↔ a < b := by
  rw [Int32.lt_iff_toInt_lt, gzn_int ha, gzn_int hb]; omega
theorem gzn_inj {a b : Nat} (ha : a < 2 ^ 31) (hb : b < 2 ^ 31) : Int32.ofNat a = Int32.ofNat b ↔ a = b := by
  constructor
  · intro h
    have := congrArg Int32.toInt h
    rw [gzn_int ha, gzn_int hb] at this; omega
  · intro h; rw [h]
/-- an int that lies in 0..n is a Nat -/
theorem gzn_of {x : Int32} (h : 0 ≤ x.toInt) : ∃ n : Nat, n < 2 ^ 31 ∧ x = Int32.ofNat n := by
  refine ⟨x.toInt.toNat, ?_, ?_⟩
  · have := x.toInt_lt; omega
  · apply Int32.toInt_inj.mp
    have h1 := x.toInt_lt
    rw [gzn_int (by omega)]; omega
/-- m steps from i on -/
def gzFo {σ : Type} (step : σ → Nat → σ) : Nat → Nat → σ → σ
  | _, 0, s => s
  | i, m + 1, s => gzFo step (i + 1) m (step s i)
/-- at most m steps from i on; .inl: the loop is left with that -/
def gzFx {σ ρ : Type} (step : σ → Nat → ρ ⊕ σ) : Nat → Nat → σ → ρ ⊕ σ
  | _, 0, s => .inr s
  | i, m + 1, s => match step s i with
    | .inl r => .inl r
    | .inr s' => gzFx step (i + 1) m s'
theorem gz_loop {σ ρ : Type} {F : Nat → σ → Int32 → Option ρ} {n : Nat} {step : σ → Nat → σ} {out : σ → Option ρ} (h1 : ∀ k s i, i < n → F (k + 1) s (Int32.ofNat i) = F k (step s i) (Int32.ofNat (i + 1))) (h2 : ∀ k s, F (k + 1) s (Int32.ofNat n) = out s) : ∀ m i k s, i + m = n → m < k → F k s (Int32.ofNat i) = out (gzFo step i m s) := by
  intro m
  induction m with
  | zero =>
    intro i k s hi hk
    obtain ⟨k, rfl⟩ : ∃ q, k = q + 1 := ⟨k - 1, by omega⟩
    rw [show i = n by omega]; exact h2 k s
  | succ m ih =>
    intro i k s hi hk
    obtain ⟨k, rfl⟩ : ∃ q, k = q + 1 := ⟨k - 1, by omega⟩
    rw [h1 k s i (by omega)]
    exact ih (i + 1) k (step s i) (by omega) (by omega)
theorem gz_loopx {σ ρ : Type} {F : Nat → σ → Int32 → Option ρ} {n : Nat} {step : σ → Nat → Option ρ ⊕ σ} {out : σ → Option ρ} (h1 : ∀ k s i, i < n → F (k + 1) s (Int32.ofNat i) = match step s i with | .inl r => r | .inr s' => F k s' (Int32.ofNat (i + 1))) (h2 : ∀ k s, F (k + 1) s (Int32.ofNat n) = out s) : ∀ m i k s, i + m = n → m < k → F k s (Int32.ofNat i) = match gzFx step i m s with | .inl r => r | .inr s' => out s' := by
  intro m
  induction m with
  | zero =>
    intro i k s hi hk
    obtain ⟨k, rfl⟩ : ∃ q, k = q + 1 := ⟨k - 1, by omega⟩
    rw [show i = n by omega]; exact h2 k s
  | succ m ih =>
    intro i k s hi hk
    obtain ⟨k, rfl⟩ : ∃ q, k = q + 1 := ⟨k - 1, by omega⟩
    rw [h1 k s i (by omega)]
    unfold gzFx
    cases step s i with
    | inl r => rfl
    | inr s' => exact ih (i + 1) k s' (by omega) (by omega)
/-- steps that are alike answer alike -/
theorem gzFo_congr {σ : Type} {f g : σ → Nat → σ} : ∀ (m i : Nat) (s : σ), (∀ s j, i ≤ j → j < i + m → f s j = g s j) → gzFo f i m s = gzFo g i m s := by
  intro m
  induction m with
  | zero => intro i s h; rfl
  | succ m ih =>
    intro i s h
    unfold gzFo
    rw [h s i (by omega) (by omega)]
    exact ih (i + 1) _ (fun s j h1 h2 => h s j (by omega) (by omega))
theorem gzGd_in {α : Type} {i n : Nat} {x : Option α} (hi : i < n) (hn : n < 2 ^ 31) : gzGd (Int32.ofNat i) n x = x := by
  unfold gzGd
  rw [if_neg]
  rintro (h | h)
  · have := Int32.lt_iff_toInt_lt.mp h
    rw [gzn_int (by omega)] at this
    have h0 : (0 : Int32).toInt = 0 := rfl
    omega
  · rw [gzn_clamp (by omega)] at h; omega
