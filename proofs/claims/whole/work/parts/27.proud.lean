/-! proud: the first of the proudest -/
def gzPr (P : Nat → Int32) : Option Nat → Nat → Option Nat
  | none, i => some i
  | some b, i => if P i ≤ P b then some b else some i
def gzOi (x : Option Nat) : Int32 := x.elim (-1) Int32.ofNat
theorem gzOi_none : gzOi none = -1 := rfl
theorem gzOi_ne {b : Nat} (hb : b < 2 ^ 31) : ¬ gzOi (some b) = -1 := by
  intro h
  have h1 := congrArg Int32.toInt h
  have h2 : (gzOi (some b)).toInt = b := gzn_int hb
  have h3 : (-1 : Int32).toInt = -1 := rfl
  omega
/-- what a fold keeps of a bound -/
theorem gzFo_keep {σ : Type} {f : σ → Nat → σ} {p : Nat → σ → Prop} : ∀ (m i : Nat) (s : σ), p i s → (∀ s j, i ≤ j → j < i + m → p j s → p (j + 1) (f s j)) → p (i + m) (gzFo f i m s) := by
  intro m
  induction m with
  | zero => intro i s h _; exact h
  | succ m ih =>
    intro i s h hs
    unfold gzFo
    have := ih (i + 1) (f s i) (hs s i (by omega) (by omega) h) (fun s j h1 h2 h3 => hs s j (by omega) (by omega) h3)
    rw [show i + (m + 1) = i + 1 + m by omega]
    exact this
/-- a counted loop whose state keeps to p -/
theorem gz_loopp {σ τ ρ : Type} {F : Nat → τ → Int32 → Option ρ} {n : Nat} {step : σ → Nat → σ} {out : σ → Option ρ} {c : σ → τ} {p : Nat → σ → Prop} (h1 : ∀ k s i, i < n → p i s → F (k + 1) (c s) (Int32.ofNat i) = F k (c (step s i)) (Int32.ofNat (i + 1)) ∧ p (i + 1) (step s i)) (h2 : ∀ k s, p n s → F (k + 1) (c s) (Int32.ofNat n) = out s) : ∀ m i k s, p i s → i + m = n → m < k → F k (c s) (Int32.ofNat i) = out (gzFo step i m s) := by
  intro m
  induction m with
  | zero =>
    intro i k s hp hi hk
    obtain ⟨k, rfl⟩ : ∃ q, k = q + 1 := ⟨k - 1, by omega⟩
    have : i = n := by omega
    subst this
    exact h2 k s hp
  | succ m ih =>
    intro i k s hp hi hk
    obtain ⟨k, rfl⟩ : ∃ q, k = q + 1 := ⟨k - 1, by omega⟩
    obtain ⟨e, q⟩ := h1 k s i (by omega) hp
    rw [e]
    exact ih (i + 1) k (step s i) q (by omega) (by omega)
def gzPb (i : Nat) (s : Option Nat) : Prop := ∀ b, s = some b → b < i
theorem gzPb_step {P : Nat → Int32} {i : Nat} {s : Option Nat} (h : gzPb i s) : gzPb (i + 1) (gzPr P s i) := by
  intro b hb
  unfold gzPr at hb
  cases s with
  | none => cases hb; omega
  | some a =>
    have := h a rfl
    simp only at hb
    split at hb
    · cases hb; omega
    · cases hb; omega
theorem s_X11_cell {t o n j : Nat} {I : gzIT} (hj : j < n) (hn : n < 2 ^ 31) : f_X11_cell t o n I (Int32.ofNat j) = some (I t o j) := by
  unfold f_X11_cell
  rw [if_neg (show ¬ Int32.ofNat j < 0 by rw [show (0 : Int32) = Int32.ofNat 0 from rfl, gzn_lt (by omega) (by omega)]; omega), if_neg (by rw [gzn_le (by omega) (by omega)]; omega), gzGd_in hj hn, gzn_clamp (by omega)]
theorem s_X11_proud {φ n : Nat} {I : gzIT} (hn : I 0 1 5 = Int32.ofNat n) (hm : n ≤ 6) (hφ : n < φ) : f_X11_proud φ I = some (gzOi (gzFo (gzPr (I 0 2)) 0 n none)) := by
  unfold f_X11_proud
  refine gz_loopp (F := fun k s i => f_X11_proud_4 φ I k s i) (n := n) (out := fun s => some (gzOi s)) (c := gzOi) (p := gzPb) ?_ ?_ n 0 φ none (fun b hb => nomatch hb) (by omega) hφ
  · intro k s i hi hp
    refine ⟨?_, gzPb_step hp⟩
    show f_X11_proud_4 φ I (k + 1) (gzOi s) (Int32.ofNat i) = _
    rw [f_X11_proud_4, hn, if_neg (by rw [gzn_le (by omega) (by omega)]; omega), gzn_succ]
    cases s with
    | none => rw [gzOi_none, if_pos rfl]; rfl
    | some b =>
      have hb := hp b rfl
      rw [if_neg (gzOi_ne (by omega)), gzGd_in (by omega) (by omega), gzn_clamp (by omega), show gzOi (some b) = Int32.ofNat b from rfl, s_X11_cell (by omega) (by omega)]
      simp only [Option.bind_some, gzPr]
      by_cases h : I 0 2 i ≤ I 0 2 b
      · rw [if_pos h, if_pos h]; rfl
      · rw [if_neg h, if_neg h]; rfl
  · intro k s _
    show f_X11_proud_4 φ I (k + 1) (gzOi s) (Int32.ofNat n) = _
    rw [f_X11_proud_4, hn, if_pos (by rw [gzn_le (by omega) (by omega)]; omega)]
theorem s_X12_proud {φ n : Nat} {I : gzIT} {J : gzJT} (hn : I 0 48 0 = Int32.ofNat n) (hm : n ≤ 6) (hφ : n < φ) : f_X12_proud_9 φ φ (-1) 0 I J = some (gzOi (gzFo (gzPr (fun f => I 0 48 (30 + 4 * f))) 0 n none), I, J) := by
  refine gz_loopp (F := fun k s i => f_X12_proud_9 φ k s i I J) (n := n) (out := fun s => some (gzOi s, I, J)) (c := gzOi) (p := gzPb) ?_ ?_ n 0 φ none (fun b hb => nomatch hb) (by omega) hφ
  · intro k s i hi hp
    refine ⟨?_, gzPb_step hp⟩
    show f_X12_proud_9 φ (k + 1) (gzOi s) (Int32.ofNat i) I J = _
    rw [f_X12_proud_9, f_X12_families, hn]
    simp only [Option.bind_some]
    rw [if_neg (by rw [gzn_le (by omega) (by omega)]; omega), gzn_succ]
    cases s with
    | none => rw [gzOi_none, if_pos rfl]; rfl
    | some b =>
      have hb := hp b rfl
      rw [if_neg (gzOi_ne (by omega)), show (0 : Int32) = Int32.ofNat 0 from rfl, s_X12_ofFamily (by omega) (by omega), show gzOi (some b) = Int32.ofNat b from rfl, s_X12_ofFamily (by omega) (by omega)]
      simp only [Option.bind_some, gzPr, Nat.add_zero]
      by_cases h : I 0 48 (30 + 4 * i) ≤ I 0 48 (30 + 4 * b)
      · rw [if_pos h, if_pos h]; rfl
      · rw [if_neg h, if_neg h]; rfl
  · intro k s _
    show f_X12_proud_9 φ (k + 1) (gzOi s) (Int32.ofNat n) I J = _
    rw [f_X12_proud_9, f_X12_families, hn]
    simp only [Option.bind_some]
    rw [if_pos (by rw [gzn_le (by omega) (by omega)]; omega)]
/-- steps that are alike on what p keeps answer alike -/
theorem gzFo_congrp {σ : Type} {f g : σ → Nat → σ} {p : Nat → σ → Prop} : ∀ (m i : Nat) (s : σ), p i s → (∀ s j, i ≤ j → j < i + m → p j s → f s j = g s j ∧ p (j + 1) (f s j)) → gzFo f i m s = gzFo g i m s := by
  intro m
  induction m with
  | zero => intro i s _ h; rfl
  | succ m ih =>
    intro i s hp h
    obtain ⟨e, q⟩ := h s i (by omega) (by omega) hp
    unfold gzFo
    rw [← e]
    exact ih (i + 1) _ q (fun s j h1 h2 h3 => h s j (by omega) (by omega) h3)
theorem r_proud {φ nf ng nl nx : Nat} {I : gzIT} {J : gzJT} (h : gzTn I 0 (I 0 48) nf ng nl nx) (hφ : 10 < φ) : ∃ x, f_X11_proud φ I = some x ∧ f_X12_proud φ I J = some (x, gz_ui I 0 47 0 0, J) := by
  obtain ⟨⟨h1, h2, h3, h4, h5, h6⟩, -, -, -, h8, -, -⟩ := h
  have u : ∀ k, (gz_ui I 0 47 0 0) 0 48 k = I 0 48 k := fun k => gz_ui_o (by decide)
  refine ⟨_, s_X11_proud h3 h1 (by omega), ?_⟩
  unfold f_X12_proud
  rw [s_X12_proud (by rw [u]; exact h4) h1 (by omega)]
  refine congrArg (fun x => some (gzOi x, _, J)) (gzFo_congrp (p := gzPb) _ _ _ (fun b hb => nomatch hb) fun s j _ hj hp => ⟨?_, gzPb_step hp⟩)
  cases s with
  | none => rfl
  | some b =>
    have hb := hp b rfl
    show (if (gz_ui I 0 47 0 0) 0 48 (30 + 4 * j) ≤ (gz_ui I 0 47 0 0) 0 48 (30 + 4 * b) then some b else some j) = (if I 0 2 j ≤ I 0 2 b then some b else some j)
    rw [u, u, (h8 j (by omega)).1, (h8 b (by omega)).1]
