/-! words for the pairs: small ints, rows of a town as numbers -/
theorem gzc_le1 {k n : Nat} (hk : (OfNat.ofNat k : Nat) < 2 ^ 31) (hn : n < 2 ^ 31) : ((no_index (OfNat.ofNat k) : Int32) ≤ Int32.ofNat n) ↔ (OfNat.ofNat k : Nat) ≤ n := gzn_le hk hn
theorem gzc_le2 {k n : Nat} (hk : (OfNat.ofNat k : Nat) < 2 ^ 31) (hn : n < 2 ^ 31) : (Int32.ofNat n ≤ (no_index (OfNat.ofNat k) : Int32)) ↔ n ≤ (OfNat.ofNat k : Nat) := gzn_le hn hk
theorem gzc_lt1 {k n : Nat} (hk : (OfNat.ofNat k : Nat) < 2 ^ 31) (hn : n < 2 ^ 31) : ((no_index (OfNat.ofNat k) : Int32) < Int32.ofNat n) ↔ (OfNat.ofNat k : Nat) < n := gzn_lt hk hn
theorem gzc_lt2 {k n : Nat} (hk : (OfNat.ofNat k : Nat) < 2 ^ 31) (hn : n < 2 ^ 31) : (Int32.ofNat n < (no_index (OfNat.ofNat k) : Int32)) ↔ n < (OfNat.ofNat k : Nat) := gzn_lt hn hk
theorem gzc_eq1 {k n : Nat} (hk : (OfNat.ofNat k : Nat) < 2 ^ 31) (hn : n < 2 ^ 31) : ((no_index (OfNat.ofNat k) : Int32) = Int32.ofNat n) ↔ (OfNat.ofNat k : Nat) = n := gzn_inj hk hn
theorem gzc_eq2 {k n : Nat} (hk : (OfNat.ofNat k : Nat) < 2 ^ 31) (hn : n < 2 ^ 31) : (Int32.ofNat n = (no_index (OfNat.ofNat k) : Int32)) ↔ n = (OfNat.ofNat k : Nat) := gzn_inj hn hk
theorem gzc_add {k n : Nat} : Int32.ofNat n + (no_index (OfNat.ofNat k) : Int32) = Int32.ofNat (n + OfNat.ofNat k) := (Int32.ofNat_add n k).symm
theorem gzc_add' {k n : Nat} : (no_index (OfNat.ofNat k) : Int32) + Int32.ofNat n = Int32.ofNat (OfNat.ofNat k + n) := (Int32.ofNat_add k n).symm
theorem gzc_adds {a b : Nat} : Int32.ofNat a + Int32.ofNat b = Int32.ofNat (a + b) := (Int32.ofNat_add a b).symm
theorem gzc_mul {k n : Nat} : (no_index (OfNat.ofNat k) : Int32) * Int32.ofNat n = Int32.ofNat (OfNat.ofNat k * n) := (Int32.ofNat_mul k n).symm
theorem gzc_mul' {k n : Nat} : Int32.ofNat n * (no_index (OfNat.ofNat k) : Int32) = Int32.ofNat (n * OfNat.ofNat k) := (Int32.ofNat_mul n k).symm
theorem gzc_muls {a b : Nat} : Int32.ofNat a * Int32.ofNat b = Int32.ofNat (a * b) := (Int32.ofNat_mul a b).symm
theorem gzc_sub {k n : Nat} (h : (OfNat.ofNat k : Nat) ≤ n) : Int32.ofNat n - (no_index (OfNat.ofNat k) : Int32) = Int32.ofNat (n - OfNat.ofNat k) := (Int32.ofNat_sub n k h).symm
theorem gzc_subs {a b : Nat} (h : b ≤ a) : Int32.ofNat a - Int32.ofNat b = Int32.ofNat (a - b) := (Int32.ofNat_sub a b h).symm
theorem gzc_div {k n : Nat} (hk : (OfNat.ofNat k : Nat) < 2 ^ 31) (hn : n < 2 ^ 31) : Int32.ofNat n / (no_index (OfNat.ofNat k) : Int32) = Int32.ofNat (n / OfNat.ofNat k) := (Int32.ofNat_div hn hk).symm
theorem gzc_divs {a b : Nat} (ha : a < 2 ^ 31) (hb : b < 2 ^ 31) : Int32.ofNat a / Int32.ofNat b = Int32.ofNat (a / b) := (Int32.ofNat_div ha hb).symm
theorem gzc_m1 {n : Nat} (hn : n < 2 ^ 31) : (Int32.ofNat n = -1) ↔ False := by
  constructor
  · intro h
    have := congrArg Int32.toInt h
    rw [gzn_int hn] at this
    have h1 : (-1 : Int32).toInt = -1 := rfl
    omega
  · intro h; exact h.elim
theorem gzc_m1' {n : Nat} (hn : n < 2 ^ 31) : ((-1 : Int32) = Int32.ofNat n) ↔ False := by
  rw [eq_comm]; exact gzc_m1 hn
theorem gzc_lt0 {n : Nat} (hn : n < 2 ^ 31) : (Int32.ofNat n < 0) ↔ False := by
  rw [show (0 : Int32) = Int32.ofNat 0 from rfl, gzn_lt hn (by omega)]
  exact ⟨fun h => by omega, fun h => h.elim⟩
theorem gzc_lem1 {n : Nat} (hn : n < 2 ^ 31) : ((-1 : Int32) < Int32.ofNat n) ↔ True := by
  rw [Int32.lt_iff_toInt_lt, gzn_int hn]
  have h1 : (-1 : Int32).toInt = -1 := rfl
  rw [h1]
  exact ⟨fun _ => trivial, fun _ => by omega⟩
theorem gzc_gem1 {n : Nat} (hn : n < 2 ^ 31) : (Int32.ofNat n ≤ (-1 : Int32)) ↔ False := by
  rw [Int32.le_iff_toInt_le, gzn_int hn]
  have h1 : (-1 : Int32).toInt = -1 := rfl
  rw [h1]
  exact ⟨fun _ => by omega, fun h => h.elim⟩
theorem gzc_b0 {b : Bool} : ((if b = true then (1 : Int32) else 0) = 0) ↔ ¬ b = true := by cases b <;> simp
theorem gzc_b1 {b : Bool} : ((if b = true then (1 : Int32) else 0) = 1) ↔ b = true := by cases b <;> simp
theorem gzc_p0 {p : Prop} [Decidable p] : ((if p then (1 : Int32) else 0) = 0) ↔ ¬ p := by by_cases p <;> simp [*]
theorem gzc_p1 {p : Prop} [Decidable p] : ((if p then (1 : Int32) else 0) = 1) ↔ p := by by_cases p <;> simp [*]
theorem gzc_q0 {p : Prop} [Decidable p] : ((if p then (0 : Int32) else 1) = 0) ↔ p := by by_cases p <;> simp [*]
theorem gzc_q1 {p : Prop} [Decidable p] : ((if p then (0 : Int32) else 1) = 1) ↔ ¬ p := by by_cases p <;> simp [*]
theorem gzc_gz {α : Type} {b : Bool} {x : Option α} : gzGz (if b = true then (1 : Int32) else 0) x = x := by cases b <;> rfl
theorem gzc_cell {t o n k : Nat} {I : gzIT} (hk : k < n) (hn : n < 2 ^ 31) : f_X11_cell t o n I (Int32.ofNat k) = some (I t o k) := by
  unfold f_X11_cell
  rw [if_neg (by rw [gzc_lt0 (by omega)]; exact id), if_neg (by rw [gzn_le (by omega) (by omega)]; omega), gzGd_in hk hn, gzn_clamp (by omega)]
theorem gzc_cell0 {t o n : Nat} {I : gzIT} {a : Int32} (h : a < 0) : f_X11_cell t o n I a = some 0 := by
  unfold f_X11_cell
  rw [if_pos h]
theorem gzc_cellN {t o n : Nat} {I : gzIT} {a : Int32} (h : ¬ a < 0) (h2 : Int32.ofNat n ≤ a) : f_X11_cell t o n I a = some 0 := by
  unfold f_X11_cell
  rw [if_neg h, if_pos h2]
theorem gzc_write {t o n k : Nat} {v : Int32} {I : gzIT} {J : gzJT} (hk : k < n) (hn : n < 2 ^ 31) : f_X11_write t o n (Int32.ofNat k) v I J = some ((), gz_ui I t o k v, J) := by
  unfold f_X11_write
  rw [if_neg (by rw [gzc_lt0 (by omega)]; exact id), if_neg (by rw [gzn_le (by omega) (by omega)]; omega), gzGd_in hk hn, gzn_clamp (by omega)]
theorem gzc_write0 {t o n : Nat} {v a : Int32} {I : gzIT} {J : gzJT} (h : a < 0) : f_X11_write t o n a v I J = some ((), I, J) := by
  unfold f_X11_write
  rw [if_pos h]
theorem gzc_has {c : Int32} {k : Nat} (hk : k < 32) : f_X11_has c (Int32.ofNat k) = some (if gzB c k = true then 1 else 0) := by
  unfold f_X11_has
  rw [gzb_has hk]
  cases gzB c k <;> rfl
/-! a row of the model, as numbers -/
def tF (w : Nat → Int32) (g : Nat) : Nat := (w (54 + 7 * g)).toNatClampNeg
def tT (w : Nat → Int32) (g : Nat) : Nat := (w (55 + 7 * g)).toNatClampNeg
def tS (w : Nat → Int32) (g : Nat) : Nat := (w (56 + 7 * g)).toNatClampNeg
def tU (w : Nat → Int32) (g : Nat) : Bool := w (59 + 7 * g) == 1
def tH (w : Nat → Int32) (g : Nat) : Bool := w (60 + 7 * g) == 1
/-- what is known of a class's town t that is like the row w -/
def gzVc (I : gzIT) (t : Nat) (w : Nat → Int32) (nf ng : Nat) : Prop :=
  (I t 1 5 = Int32.ofNat nf ∧ I t 7 7 = Int32.ofNat ng ∧ nf ≤ 6 ∧ ng ≤ 10) ∧
  (∀ g, g < ng → I t 8 g = Int32.ofNat (tF w g)) ∧ (∀ g, g < ng → I t 9 g = Int32.ofNat (tT w g)) ∧ (∀ g, g < ng → I t 10 g = Int32.ofNat (tS w g)) ∧
  (∀ g, g < ng → I t 11 g = w (57 + 7 * g)) ∧ (∀ g, g < ng → I t 12 g = w (58 + 7 * g)) ∧ (∀ g, g < ng → I t 13 g = if tU w g = true then 1 else 0) ∧ (∀ g, g < ng → I t 14 g = if tH w g = true then 1 else 0) ∧
  (∀ f, f < nf → I t 2 f = w (30 + 4 * f)) ∧ (∀ f, f < nf → I t 3 f = w (31 + 4 * f)) ∧ (∀ f, f < nf → I t 4 f = w (32 + 4 * f)) ∧ (∀ f, f < nf → I t 5 f = w (33 + 4 * f)) ∧
  (∀ s, s < 8 → I t 17 s = w (14 + 2 * s)) ∧ (∀ s, s < 8 → I t 18 s = w (15 + 2 * s))
/-- what is known of the model's row w itself -/
def gzVm (w : Nat → Int32) (nf ng : Nat) : Prop :=
  (w 0 = Int32.ofNat nf ∧ w 1 = Int32.ofNat ng ∧ nf ≤ 6 ∧ ng ≤ 10) ∧
  (∀ g, g < ng → w (54 + 7 * g) = Int32.ofNat (tF w g)) ∧ (∀ g, g < ng → w (55 + 7 * g) = Int32.ofNat (tT w g)) ∧ (∀ g, g < ng → w (56 + 7 * g) = Int32.ofNat (tS w g)) ∧
  (∀ g, g < ng → w (59 + 7 * g) = if tU w g = true then 1 else 0) ∧ (∀ g, g < ng → w (60 + 7 * g) = if tH w g = true then 1 else 0)
/-- the bounds of the numbers -/
def gzVb (w : Nat → Int32) (nf ng : Nat) : Prop := (∀ g, g < ng → tF w g < nf) ∧ (∀ g, g < ng → tT w g < nf) ∧ (∀ g, g < ng → tF w g ≠ tT w g) ∧ (∀ g, g < ng → tS w g < 8)
theorem gzV_b01 {x : Int32} (h : x = 0 ∨ x = 1) : x = if (x == 1) = true then 1 else 0 := by rcases h with rfl | rfl <;> rfl
theorem gzV_m {w : Nat → Int32} {I : gzIT} {t nf ng nl nx : Nat} (h : gzTn I t w nf ng nl nx) (hw : gzWr w nf ng nl) : gzVm w nf ng ∧ gzVb w nf ng := by
  obtain ⟨⟨h1, h2, h3, h4, h5, h6⟩, -, -, -, -, -, -⟩ := h
  obtain ⟨-, -, -, -, b1, b2⟩ := hw
  have key : ∀ g, g < ng → (w (54 + 7 * g) = Int32.ofNat (tF w g) ∧ w (55 + 7 * g) = Int32.ofNat (tT w g) ∧ w (56 + 7 * g) = Int32.ofNat (tS w g)) ∧ tF w g < nf ∧ tT w g < nf ∧ tF w g ≠ tT w g ∧ tS w g < 8 := by
    intro g hg
    obtain ⟨a, b, o, ha, hb, hab, ho, e1, e2, e3⟩ := b1 g hg
    have f1 : tF w g = a := by unfold tF; rw [e1, gzn_clamp (by omega)]
    have f2 : tT w g = b := by unfold tT; rw [e2, gzn_clamp (by omega)]
    have f3 : tS w g = o := by unfold tS; rw [e3, gzn_clamp (by omega)]
    rw [f1, f2, f3]
    exact ⟨⟨e1, e2, e3⟩, ha, hb, hab, ho⟩
  exact ⟨⟨⟨h4, h6, h1, h2⟩, fun g hg => (key g hg).1.1, fun g hg => (key g hg).1.2.1, fun g hg => (key g hg).1.2.2, fun g hg => gzV_b01 (b2 g hg).2.2.1, fun g hg => gzV_b01 (b2 g hg).2.2.2⟩,
    fun g hg => (key g hg).2.1, fun g hg => (key g hg).2.2.1, fun g hg => (key g hg).2.2.2.1, fun g hg => (key g hg).2.2.2.2⟩
theorem gzV_c {w : Nat → Int32} {I : gzIT} {t nf ng nl nx : Nat} (h : gzTn I t w nf ng nl nx) (hw : gzWr w nf ng nl) : gzVc I t w nf ng := by
  obtain ⟨-, m1, m2, m3, m4, m5⟩ := (gzV_m h hw).1
  obtain ⟨⟨h1, h2, h3, h4, h5, h6⟩, -, -, a4, a5, a6, -⟩ := h
  exact ⟨⟨h3, h5, h1, h2⟩, fun g hg => (a6 g hg).1.trans (m1 g hg), fun g hg => (a6 g hg).2.1.trans (m2 g hg), fun g hg => (a6 g hg).2.2.1.trans (m3 g hg), fun g hg => (a6 g hg).2.2.2.1, fun g hg => (a6 g hg).2.2.2.2.1,
    fun g hg => (a6 g hg).2.2.2.2.2.1.trans (m4 g hg), fun g hg => (a6 g hg).2.2.2.2.2.2.trans (m5 g hg), fun f hf => (a5 f hf).1, fun f hf => (a5 f hf).2.1, fun f hf => (a5 f hf).2.2.1, fun f hf => (a5 f hf).2.2.2, fun s hs => (a4 s hs).1, fun s hs => (a4 s hs).2⟩
