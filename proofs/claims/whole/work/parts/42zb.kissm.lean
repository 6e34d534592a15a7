/-! families put two by two: the model -/
def gzLo (s : Nat) : Nat := if s.testBit 0 then 0 else if s.testBit 1 then 1 else if s.testBit 2 then 2 else if s.testBit 3 then 3 else if s.testBit 4 then 4 else 5
theorem gz_low : ∀ s, s < 64 → 0 < s → f_X12_firstOf (Int32.ofNat s) = some (Int32.ofNat (gzLo s)) ∧ gzLo s < 6 ∧ s.testBit (gzLo s) = true ∧ ∀ j, j < 6 → j < gzLo s → s.testBit j = false := by decide +kernel
theorem gz_mb : ∀ s, s < 64 → ∀ f, f < 6 → s.testBit f = true → (Int32.ofNat s &&& (((1 : Int32) <<< (Int32.ofNat f &&& 31)) ^^^ (-1))) = Int32.ofNat (s - 2 ^ f) ∧ 2 ^ f ≤ s ∧ ∀ j, j < 6 → (s - 2 ^ f).testBit j = (s.testBit j && !(j == f)) := by decide +kernel
theorem gz_tb : ∀ s, s < 64 → ∀ o, o < 6 → gzB (Int32.ofNat s) o = s.testBit o := by decide +kernel
theorem gz_allb : ∀ n, n < 7 → ∀ j, j < n → (2 ^ n - 1).testBit j = true := by decide
def gzWm (s : Nat) : Nat → Int32 := fun j => if s.testBit j = true then -1 else 0
theorem gzWm_i {s j : Nat} : gzWm s j = -1 ↔ s.testBit j = true := by
  unfold gzWm
  by_cases h : s.testBit j = true
  · rw [if_pos h]; exact ⟨fun _ => h, fun _ => rfl⟩
  · rw [if_neg h]; exact ⟨fun q => absurd q (by decide), fun q => absurd q h⟩
theorem gzFo_rel2 {σ τ : Type} {f : σ → Nat → σ} {g : τ → Nat → τ} {R : σ → τ → Prop} : ∀ (m i : Nat) (s : σ) (t : τ), (∀ s t j, i ≤ j → j < i + m → R s t → R (f s j) (g t j)) → R s t → R (gzFo f i m s) (gzFo g i m t) := by
  intro m
  induction m with
  | zero => intro i s t _ h; exact h
  | succ m ih => intro i s t hR h; exact ih (i + 1) _ _ (fun s t j a b => hR s t j (by omega) (by omega)) (hR s t i (by omega) (by omega) h)
theorem gzFo_arg {α : Type} {c : Nat → Prop} [DecidablePred c] {v : Nat → Nat} {L : Nat → α} {i : Nat} {s : Nat × α} : ∀ m, (s.1 ≤ (gzFo (fun (s : Nat × α) o => if c o then (if s.1 < v o then (v o, L o) else s) else s) i m s).1) ∧ (∀ o, i ≤ o → o < i + m → c o → v o ≤ (gzFo (fun (s : Nat × α) o => if c o then (if s.1 < v o then (v o, L o) else s) else s) i m s).1) ∧ (gzFo (fun (s : Nat × α) o => if c o then (if s.1 < v o then (v o, L o) else s) else s) i m s = s ∨ ∃ o, i ≤ o ∧ o < i + m ∧ c o ∧ gzFo (fun (s : Nat × α) o => if c o then (if s.1 < v o then (v o, L o) else s) else s) i m s = (v o, L o) ∧ s.1 < v o ∧ ∀ o', i ≤ o' → o' < o → c o' → v o' < v o) := by
  intro m
  induction m with
  | zero => exact ⟨Nat.le_refl _, fun o h1 h2 => by omega, Or.inl rfl⟩
  | succ m ih =>
    rw [gzFo_last]
    obtain ⟨r, er⟩ : ∃ r, r = gzFo (fun (s : Nat × α) o => if c o then (if s.1 < v o then (v o, L o) else s) else s) i m s := ⟨_, rfl⟩
    rw [← er] at ih ⊢
    obtain ⟨i1, i2, i3⟩ := ih
    by_cases hc : c (i + m)
    · rw [if_pos hc]
      by_cases hv : r.1 < v (i + m)
      · rw [if_pos hv]
        refine ⟨by show s.1 ≤ v (i + m); omega, fun o h1 h2 h3 => ?_, Or.inr ⟨i + m, by omega, by omega, hc, rfl, by omega, fun o' h1 h2 h3 => ?_⟩⟩
        · show v o ≤ v (i + m)
          by_cases e : o = i + m
          · exact Nat.le_of_eq (by rw [e])
          · have := i2 o h1 (by omega) h3
            omega
        · have := i2 o' h1 (by omega) h3
          omega
      · rw [if_neg hv]
        refine ⟨i1, fun o h1 h2 h3 => ?_, ?_⟩
        · by_cases e : o = i + m
          · rw [e]; omega
          · exact i2 o h1 (by omega) h3
        · rcases i3 with q | ⟨o, a1, a2, a3, a4, a5, a6⟩
          · exact Or.inl q
          · exact Or.inr ⟨o, a1, by omega, a3, a4, a5, a6⟩
    · rw [if_neg hc]
      refine ⟨i1, fun o h1 h2 h3 => ?_, ?_⟩
      · by_cases e : o = i + m
        · rw [e] at h3; exact absurd h3 hc
        · exact i2 o h1 (by omega) h3
      · rcases i3 with q | ⟨o, a1, a2, a3, a4, a5, a6⟩
        · exact Or.inl q
        · exact Or.inr ⟨o, a1, by omega, a3, a4, a5, a6⟩
section
variable {I I' I2 X : gzIT} {J : gzJT} {w : Nat → Int32} {nf ng nl nx t t1 φ N : Nat} {K : Nat → Nat → Bool} {p : Nat → Nat} {B0 : Nat → Int32}
/-- the fold over the others -/
def gzGf (N : Nat) (K : Nat → Nat → Bool) (p : Nat → Nat) (B0 : Nat → Int32) (m f : Nat) (W : Nat → Int32) : Nat × (Nat → Int32) := gzFo (fun (s : Nat × (Nat → Int32)) o => if W o = -1 ∧ K f o = true then (if s.1 < p f + p o + (gzGp N K p B0 m (gzUp (gzUp W f (Int32.ofNat o)) o (Int32.ofNat f))).1 then (p f + p o + (gzGp N K p B0 m (gzUp (gzUp W f (Int32.ofNat o)) o (Int32.ofNat f))).1, (gzGp N K p B0 m (gzUp (gzUp W f (Int32.ofNat o)) o (Int32.ofNat f))).2) else s) else s) (f + 1) m (gzGp N K p B0 m W)
theorem gzGp_s {m f : Nat} {W : Nat → Int32} (hm : f + (m + 1) = N) (hf : W f = -1) : gzGp N K p B0 (m + 1) W = gzGf N K p B0 m f W := by
  have e : N - (m + 1) = f := by omega
  rw [gzGp, e, if_pos hf, show N - m = f + 1 by omega]
  rfl
theorem gzGp_n {m f : Nat} {W : Nat → Int32} (hm : f + (m + 1) = N) (hf : ¬ W f = -1) : gzGp N K p B0 (m + 1) W = gzGp N K p B0 m W := by
  have e : N - (m + 1) = f := by omega
  rw [gzGp, e, if_neg hf]
theorem gzGp_skip {W : Nat → Int32} : ∀ d, d ≤ N → (∀ j, j < d → ¬ W j = -1) → gzGp N K p B0 N W = gzGp N K p B0 (N - d) W := by
  intro d
  induction d with
  | zero => intro _ _; rfl
  | succ d ih =>
    intro hd h
    rw [ih (by omega) (fun j hj => h j (by omega)), show N - d = (N - (d + 1)) + 1 by omega, gzGp_n (f := d) (by omega) (h d (by omega))]
theorem gzGp_keep (hN : N ≤ 6) : ∀ (m : Nat) (W : Nat → Int32) (j : Nat), m ≤ N → j < 6 → (j < N - m ∨ ¬ W j = -1) → (gzGp N K p B0 m W).2 j = W j := by
  intro m
  induction m with
  | zero => intro W j _ hj _; exact if_pos hj
  | succ m ih =>
    intro W j hm hj hor
    by_cases q : W (N - (m + 1)) = -1
    · rw [gzGp_s (f := N - (m + 1)) (by omega) q]
      unfold gzGf
      obtain ⟨-, -, h3⟩ := gzFo_arg (α := Nat → Int32) (c := fun o => W o = -1 ∧ K (N - (m + 1)) o = true) (v := fun o => p (N - (m + 1)) + p o + (gzGp N K p B0 m (gzUp (gzUp W (N - (m + 1)) (Int32.ofNat o)) o (Int32.ofNat (N - (m + 1))))).1) (L := fun o => (gzGp N K p B0 m (gzUp (gzUp W (N - (m + 1)) (Int32.ofNat o)) o (Int32.ofNat (N - (m + 1))))).2) (i := N - (m + 1) + 1) (s := gzGp N K p B0 m W) m
      rcases h3 with h3 | ⟨o, a1, a2, a3, a4, -, -⟩
      · rw [h3]
        exact ih W j (by omega) hj (by
          rcases hor with z | z
          · exact Or.inl (by omega)
          · exact Or.inr z)
      · rw [a4]
        have h1 : j ≠ N - (m + 1) := fun e => by
          rcases hor with z | z
          · omega
          · exact z (e ▸ q)
        have h2 : j ≠ o := fun e => by
          rcases hor with z | z
          · omega
          · exact z (e ▸ a3.1)
        have e : gzUp (gzUp W (N - (m + 1)) (Int32.ofNat o)) o (Int32.ofNat (N - (m + 1))) j = W j := by rw [gzUp_ne h2, gzUp_ne h1]
        rw [← e]
        refine ih _ j (by omega) hj ?_
        rw [e]
        rcases hor with z | z
        · exact Or.inl (by omega)
        · exact Or.inr z
    · rw [gzGp_n (f := N - (m + 1)) (by omega) q]
      refine ih W j (by omega) hj ?_
      rcases hor with z | z
      · exact Or.inl (by omega)
      · exact Or.inr z
theorem gzGp_cong (hN : N ≤ 6) : ∀ (m : Nat) (W W' : Nat → Int32), m ≤ N → (∀ j, N - m ≤ j → j < N → (W j = -1 ↔ W' j = -1)) → (gzGp N K p B0 m W).1 = (gzGp N K p B0 m W').1 ∧ ∀ j, N - m ≤ j → j < N → W j = -1 → (gzGp N K p B0 m W).2 j = (gzGp N K p B0 m W').2 j := by
  intro m
  induction m with
  | zero => intro W W' _ _; exact ⟨rfl, fun j h1 h2 => by omega⟩
  | succ m ih =>
    intro W W' hm h
    obtain ⟨f, ef⟩ : ∃ f, f = N - (m + 1) := ⟨_, rfl⟩
    have base := ih W W' (by omega) (fun j h1 h2 => h j (by omega) h2)
    by_cases q : W f = -1
    · have q' : W' f = -1 := (h f (by omega) (by omega)).mp q
      rw [gzGp_s (f := f) (by omega) q, gzGp_s (f := f) (by omega) q']
      unfold gzGf
      have key := gzFo_rel2 (R := fun (s t : Nat × (Nat → Int32)) => s.1 = t.1 ∧ ∀ j, N - (m + 1) ≤ j → j < N → W j = -1 → s.2 j = t.2 j) (f := fun (s : Nat × (Nat → Int32)) o => if W o = -1 ∧ K f o = true then (if s.1 < p f + p o + (gzGp N K p B0 m (gzUp (gzUp W f (Int32.ofNat o)) o (Int32.ofNat f))).1 then (p f + p o + (gzGp N K p B0 m (gzUp (gzUp W f (Int32.ofNat o)) o (Int32.ofNat f))).1, (gzGp N K p B0 m (gzUp (gzUp W f (Int32.ofNat o)) o (Int32.ofNat f))).2) else s) else s) (g := fun (s : Nat × (Nat → Int32)) o => if W' o = -1 ∧ K f o = true then (if s.1 < p f + p o + (gzGp N K p B0 m (gzUp (gzUp W' f (Int32.ofNat o)) o (Int32.ofNat f))).1 then (p f + p o + (gzGp N K p B0 m (gzUp (gzUp W' f (Int32.ofNat o)) o (Int32.ofNat f))).1, (gzGp N K p B0 m (gzUp (gzUp W' f (Int32.ofNat o)) o (Int32.ofNat f))).2) else s) else s) m (f + 1) (gzGp N K p B0 m W) (gzGp N K p B0 m W') ?_ ?_
      · exact key
      · intro s t o ho1 ho2 hst
        have ho := h o (by omega) (by omega)
        show (if _ then _ else s).1 = (if _ then _ else t).1 ∧ _
        by_cases c : W o = -1 ∧ K f o = true
        · have c' : W' o = -1 ∧ K f o = true := ⟨ho.mp c.1, c.2⟩
          rw [if_pos c, if_pos c']
          have hne : ∀ x : Nat, x < 6 → ¬ Int32.ofNat x = -1 := fun x hx z => (gzc_m1 (by omega)).mp z
          have av : ∀ j, N - m ≤ j → j < N → (gzUp (gzUp W f (Int32.ofNat o)) o (Int32.ofNat f) j = -1 ↔ gzUp (gzUp W' f (Int32.ofNat o)) o (Int32.ofNat f) j = -1) := fun j h1 h2 => by
            by_cases e : j = o
            · rw [e, gzUp_at, gzUp_at]
            · rw [gzUp_ne e, gzUp_ne e, gzUp_ne (show j ≠ f by omega), gzUp_ne (show j ≠ f by omega)]
              exact h j (by omega) h2
          obtain ⟨k1, k2⟩ := ih (gzUp (gzUp W f (Int32.ofNat o)) o (Int32.ofNat f)) (gzUp (gzUp W' f (Int32.ofNat o)) o (Int32.ofNat f)) (by omega) av
          rw [k1, hst.1]
          by_cases d : t.1 < p f + p o + (gzGp N K p B0 m (gzUp (gzUp W' f (Int32.ofNat o)) o (Int32.ofNat f))).1
          · rw [if_pos d, if_pos d]
            refine ⟨rfl, fun j h1 h2 h3 => ?_⟩
            show (gzGp N K p B0 m (gzUp (gzUp W f (Int32.ofNat o)) o (Int32.ofNat f))).2 j = (gzGp N K p B0 m (gzUp (gzUp W' f (Int32.ofNat o)) o (Int32.ofNat f))).2 j
            by_cases e1 : j = o
            · have z1 : gzUp (gzUp W f (Int32.ofNat o)) o (Int32.ofNat f) j = Int32.ofNat f := by rw [e1, gzUp_at]
              have z2 : gzUp (gzUp W' f (Int32.ofNat o)) o (Int32.ofNat f) j = Int32.ofNat f := by rw [e1, gzUp_at]
              rw [gzGp_keep hN m _ j (by omega) (by omega) (Or.inr (by rw [z1]; exact hne f (by omega))), gzGp_keep hN m _ j (by omega) (by omega) (Or.inr (by rw [z2]; exact hne f (by omega))), z1, z2]
            · by_cases e2 : j = f
              · have z1 : gzUp (gzUp W f (Int32.ofNat o)) o (Int32.ofNat f) j = Int32.ofNat o := by rw [gzUp_ne e1, e2, gzUp_at]
                have z2 : gzUp (gzUp W' f (Int32.ofNat o)) o (Int32.ofNat f) j = Int32.ofNat o := by rw [gzUp_ne e1, e2, gzUp_at]
                rw [gzGp_keep hN m _ j (by omega) (by omega) (Or.inl (by omega)), gzGp_keep hN m _ j (by omega) (by omega) (Or.inl (by omega)), z1, z2]
              · exact k2 j (by omega) h2 (by rw [gzUp_ne e1, gzUp_ne e2]; exact h3)
          · rw [if_neg d, if_neg d]
            exact ⟨hst.1, hst.2⟩
        · have c' : ¬ (W' o = -1 ∧ K f o = true) := fun z => c ⟨ho.mpr z.1, z.2⟩
          rw [if_neg c, if_neg c']
          exact hst
      · refine ⟨base.1, fun j h1 h2 h3 => ?_⟩
        by_cases e : j = f
        · rw [gzGp_keep hN m W j (by omega) (by omega) (Or.inl (by omega)), gzGp_keep hN m W' j (by omega) (by omega) (Or.inl (by omega)), h3, e, q']
        · exact base.2 j (by omega) h2 h3
    · have q' : ¬ W' f = -1 := fun z => q ((h f (by omega) (by omega)).mpr z)
      rw [gzGp_n (f := f) (by omega) q, gzGp_n (f := f) (by omega) q']
      refine ⟨base.1, fun j h1 h2 h3 => ?_⟩
      have hjf : j ≠ f := fun e => q (e ▸ h3)
      exact base.2 j (by omega) h2 h3
/-- the table's value of a set -/
def gzTb (N : Nat) (K : Nat → Nat → Bool) (p : Nat → Nat) (B0 : Nat → Int32) (s : Nat) : Nat := (gzGp N K p B0 N (gzWm s)).1
/-- a set by its least one -/
theorem gzTb_s (hN : N ≤ 6) {s : Nat} (hs : 0 < s) (hs2 : s < 2 ^ N) : gzLo s < N ∧ gzGp N K p B0 N (gzWm s) = gzGf N K p B0 (N - gzLo s - 1) (gzLo s) (gzWm s) ∧ s - 2 ^ gzLo s < 2 ^ N ∧ 2 ^ gzLo s ≤ s ∧
    (∀ j, j < 6 → (s - 2 ^ gzLo s).testBit j = (s.testBit j && !(j == gzLo s))) ∧
    gzTb N K p B0 (s - 2 ^ gzLo s) = (gzGp N K p B0 (N - gzLo s - 1) (gzWm s)).1 ∧
    (∀ j, j < N → j ≠ gzLo s → s.testBit j = true → (gzGp N K p B0 N (gzWm (s - 2 ^ gzLo s))).2 j = (gzGp N K p B0 (N - gzLo s - 1) (gzWm s)).2 j) ∧
    (∀ o, gzLo s < o → o < N → s.testBit o = true → (s - 2 ^ gzLo s).testBit o = true ∧ 2 ^ o ≤ s - 2 ^ gzLo s ∧ gzTb N K p B0 (s - 2 ^ gzLo s - 2 ^ o) = (gzGp N K p B0 (N - gzLo s - 1) (gzUp (gzUp (gzWm s) (gzLo s) (Int32.ofNat o)) o (Int32.ofNat (gzLo s)))).1 ∧ (∀ j, j < 6 → (s - 2 ^ gzLo s - 2 ^ o).testBit j = (s.testBit j && !(j == gzLo s) && !(j == o))) ∧ ∀ j, j < N → j ≠ gzLo s → j ≠ o → s.testBit j = true → (gzGp N K p B0 N (gzWm (s - 2 ^ gzLo s - 2 ^ o))).2 j = (gzGp N K p B0 (N - gzLo s - 1) (gzUp (gzUp (gzWm s) (gzLo s) (Int32.ofNat o)) o (Int32.ofNat (gzLo s)))).2 j) := by
  have h64 : 2 ^ N ≤ 64 := (Nat.pow_le_pow_right (n := 2) (by decide) hN : 2 ^ N ≤ 2 ^ 6)
  obtain ⟨-, l2, l3, l4⟩ := gz_low s (by omega) hs
  obtain ⟨f, ef⟩ : ∃ f, f = gzLo s := ⟨_, rfl⟩
  rw [← ef] at l2 l3 l4 ⊢
  have hfN : f < N := by
    apply Nat.lt_of_not_le
    intro z
    rw [Nat.testBit_lt_two_pow (Nat.lt_of_lt_of_le hs2 (Nat.pow_le_pow_right (by decide) z))] at l3
    cases l3
  obtain ⟨-, m2, m3⟩ := gz_mb s (by omega) f l2 l3
  have hd1 : s - 2 ^ f ≤ s := Nat.sub_le _ _
  have sk : ∀ j, j < f → ¬ gzWm s j = -1 := fun j hj z => by
    rw [gzWm_i, l4 j (by omega) hj] at z; cases z
  have e1 : gzGp N K p B0 N (gzWm s) = gzGf N K p B0 (N - f - 1) f (gzWm s) := by
    rw [gzGp_skip f (by omega) sk, show N - f = (N - f - 1) + 1 by omega, gzGp_s (f := f) (by omega) (gzWm_i.mpr l3)]
    rfl
  have sk2 : ∀ u, (∀ j, j < 6 → j ≤ f → u.testBit j = false) → gzGp N K p B0 N (gzWm u) = gzGp N K p B0 (N - f - 1) (gzWm u) := fun u hu => by
    rw [gzGp_skip (f + 1) (by omega) (fun j hj z => by rw [gzWm_i, hu j (by omega) (by omega)] at z; cases z), show N - (f + 1) = N - f - 1 by omega]
  have hm6 : N - f - 1 ≤ N := by omega
  have c1 := gzGp_cong (K := K) (p := p) (B0 := B0) hN (N - f - 1) (gzWm (s - 2 ^ f)) (gzWm s) hm6 (fun j h1 h2 => by
    rw [gzWm_i, gzWm_i, m3 j (by omega)]
    have : (j == f) = false := by rw [beq_eq_false_iff_ne]; omega
    rw [this]
    simp)
  have z1 := sk2 (s - 2 ^ f) (fun j h1 h2 => by
    rw [m3 j h1]
    by_cases e : j = f
    · rw [e]; simp
    · rw [l4 j h1 (by omega)]; rfl)
  refine ⟨hfN, e1, by omega, m2, m3, ?_, fun j h1 h2 h3 => ?_, fun o h1 h2 h3 => ?_⟩
  · unfold gzTb
    rw [z1]
    exact c1.1
  · have hjf : ¬ j < f := fun z => by rw [l4 j (by omega) z] at h3; cases h3
    rw [z1]
    refine c1.2 j (by omega) h1 ?_
    rw [gzWm_i, m3 j (by omega), h3]
    have : (j == f) = false := by rw [beq_eq_false_iff_ne]; exact h2
    rw [this]
    rfl
  · have hof : (o == f) = false := by rw [beq_eq_false_iff_ne]; omega
    have t1 : (s - 2 ^ f).testBit o = true := by rw [m3 o (by omega), h3, hof]; rfl
    obtain ⟨-, n2, n3⟩ := gz_mb (s - 2 ^ f) (by omega) o (by omega) t1
    have n4 : ∀ j, j < 6 → (s - 2 ^ f - 2 ^ o).testBit j = (s.testBit j && !(j == f) && !(j == o)) := fun j hj => by rw [n3 j hj, m3 j hj]
    have hne : ∀ x : Nat, x < 6 → ¬ Int32.ofNat x = -1 := fun x hx z => (gzc_m1 (by omega)).mp z
    have c2 := gzGp_cong (K := K) (p := p) (B0 := B0) hN (N - f - 1) (gzWm (s - 2 ^ f - 2 ^ o)) (gzUp (gzUp (gzWm s) f (Int32.ofNat o)) o (Int32.ofNat f)) hm6 (fun j a1 a2 => by
      rw [gzWm_i, n4 j (by omega)]
      have hjf : (j == f) = false := by rw [beq_eq_false_iff_ne]; omega
      rw [hjf]
      by_cases e : j = o
      · rw [e, gzUp_at]
        constructor
        · intro z; simp at z
        · intro z; exact absurd z (hne f (by omega))
      · rw [gzUp_ne e, gzUp_ne (show j ≠ f by omega), gzWm_i]
        have : (j == o) = false := by rw [beq_eq_false_iff_ne]; exact e
        rw [this]
        simp)
    have z2 := sk2 (s - 2 ^ f - 2 ^ o) (fun j a1 a2 => by
      rw [n4 j a1]
      by_cases e : j = f
      · rw [e]; simp
      · rw [l4 j a1 (by omega)]; rfl)
    refine ⟨t1, n2, ?_, n4, fun j a1 a2 a3 a4 => ?_⟩
    · unfold gzTb
      rw [z2]
      exact c2.1
    · have hjf : ¬ j < f := fun z => by rw [l4 j (by omega) z] at a4; cases a4
      rw [z2]
      refine c2.2 j (by omega) a1 ?_
      rw [gzWm_i, n4 j (by omega), a4]
      have b1 : (j == f) = false := by rw [beq_eq_false_iff_ne]; exact a2
      have b2 : (j == o) = false := by rw [beq_eq_false_iff_ne]; exact a3
      rw [b1, b2]
      rfl
theorem gzTb_0 : gzTb N K p B0 0 = 0 := by
  unfold gzTb
  rw [gzGp_skip N (Nat.le_refl _) (fun j _ z => by rw [gzWm_i, Nat.zero_testBit] at z; cases z), Nat.sub_self]
  rfl
end
