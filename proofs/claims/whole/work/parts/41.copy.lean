/-! copies of a town; the past; prop -/
def gzCpy (I : gzIT) (t t1 : Nat) (P : Nat → Nat → Bool) : gzIT := fun t' o k => if t' = t ∧ P o k = true then I t1 o k else I t' o k
theorem gzCpy_ne {I : gzIT} {t t1 t' o k : Nat} {P : Nat → Nat → Bool} (h : t' ≠ t) : gzCpy I t t1 P t' o k = I t' o k := if_neg (fun q => h q.1)
theorem gzCpy_at {I : gzIT} {t t1 o k : Nat} {P : Nat → Nat → Bool} (h : P o k = true) : gzCpy I t t1 P t o k = I t1 o k := if_pos ⟨rfl, h⟩
theorem gzCpy_no {I : gzIT} {t t1 o k : Nat} {P : Nat → Nat → Bool} (h : P o k = false) : gzCpy I t t1 P t o k = I t o k := if_neg (fun q => by rw [h] at q; cases q.2)
theorem gzCpy_0 {I : gzIT} {t t1 : Nat} : gzCpy I t t1 (fun _ _ => false) = I := by
  funext t' o k
  exact if_neg (fun q => by cases q.2)
theorem gzCpy_s {I : gzIT} {t t1 o k : Nat} {P : Nat → Nat → Bool} (h : t1 ≠ t) : gz_ui (gzCpy I t t1 P) t o k ((gzCpy I t t1 P) t1 o k) = gzCpy I t t1 (fun x j => P x j || (x == o && j == k)) := by
  funext t' x j
  rw [gzCpy_ne h]
  unfold gz_ui gzCpy
  by_cases e : t' = t ∧ x = o ∧ j = k
  · obtain ⟨rfl, rfl, rfl⟩ := e
    rw [if_pos ⟨rfl, rfl, rfl⟩, if_pos ⟨rfl, by simp⟩]
  · rw [if_neg e]
    by_cases e2 : t' = t ∧ P x j = true
    · rw [if_pos e2, if_pos ⟨e2.1, by simp [e2.2]⟩]
    · rw [if_neg e2, if_neg]
      rintro ⟨q1, q2⟩
      simp only [Bool.or_eq_true, Bool.and_eq_true, beq_iff_eq] at q2
      rcases q2 with q2 | ⟨q2, q3⟩
      · exact e2 ⟨q1, q2⟩
      · exact e ⟨q1, q2, q3⟩
theorem gzCpy_a {I : gzIT} {J : gzJT} {t t1 o n : Nat} {P : Nat → Nat → Bool} (h : t1 ≠ t) (hn : n < 2 ^ 31) : f_X11_copy t1 o n t o n (gzCpy I t t1 P) J = some ((), gzCpy I t t1 (fun x j => P x j || (x == o && decide (j < n))), J) := by
  unfold f_X11_copy gzCp
  have e0 : (if Int32.ofNat n < Int32.ofNat n then Int32.ofNat n else Int32.ofNat n) = Int32.ofNat n := by
    by_cases q : Int32.ofNat n < Int32.ofNat n
    · rw [if_pos q]
    · rw [if_neg q]
  have z0 : (0 : Int32).toNatClampNeg = 0 := rfl
  rw [e0, gzn_clamp hn, z0, if_neg (by
    rintro (q | q | q | q | q)
    · exact absurd q (by decide)
    · exact absurd q (by decide)
    · rw [gzc_lt0 hn] at q; exact q
    · omega
    · omega)]
  congr 3
  funext t' x
  unfold gz_uw va_cpy gzCpy
  by_cases e : t' = t ∧ x = o
  · obtain ⟨rfl, rfl⟩ := e
    rw [if_pos ⟨rfl, rfl⟩]
    funext j
    by_cases q : j < n
    · rw [if_pos ⟨Nat.zero_le _, by omega⟩, if_neg (fun q2 => h q2.1), if_pos ⟨rfl, by simp [q]⟩, Nat.zero_add, Nat.sub_zero]
    · rw [if_neg (by omega)]
      simp [q]
  · rw [if_neg e]
    funext j
    by_cases e2 : t' = t ∧ P x j = true
    · rw [if_pos e2, if_pos ⟨e2.1, by simp [e2.2]⟩]
    · rw [if_neg e2, if_neg]
      rintro ⟨q1, q2⟩
      simp only [Bool.or_eq_true, Bool.and_eq_true, beq_iff_eq] at q2
      rcases q2 with q2 | ⟨q2, q3⟩
      · exact e2 ⟨q1, q2⟩
      · exact e ⟨q1, q2⟩
/-- the cells of a town that a copy copies -/
def gzTcb (o k : Nat) : Bool := decide ((2 ≤ o ∧ o ≤ 5 ∧ k < 6) ∨ (o = 1 ∧ k = 5) ∨ (8 ≤ o ∧ o ≤ 14 ∧ k < 10) ∨ (o = 7 ∧ k = 7) ∨ (o = 16 ∧ k < 240) ∨ (o = 15 ∧ (k = 1 ∨ k = 2)) ∨ ((o = 17 ∨ o = 18) ∧ k < 8) ∨ (o = 19 ∧ k < 4) ∨ (o = 0 ∧ 6 ≤ k ∧ k ≤ 11))
theorem gzPfo {P : Nat → Nat → Bool} {o k : Nat} : ∀ m, gzFo (fun (P : Nat → Nat → Bool) i => fun x j => (P x j || (x == 13 && j == i)) || (x == 14 && j == i)) 0 m P o k = (P o k || ((o == 13 || o == 14) && decide (k < m))) := by
  intro m
  induction m with
  | zero =>
    show P o k = _
    simp
  | succ m ih =>
    rw [gzFo_last]
    show ((gzFo _ 0 m P o k || (o == 13 && k == 0 + m)) || (o == 14 && k == 0 + m)) = _
    rw [ih, Nat.zero_add]
    apply Bool.eq_iff_iff.mpr
    simp only [Bool.or_eq_true, Bool.and_eq_true, beq_iff_eq, decide_eq_true_eq]
    constructor
    · rintro (((h | ⟨h, h2⟩) | ⟨h, h2⟩) | ⟨h, h2⟩)
      · exact Or.inl h
      · exact Or.inr ⟨h, by omega⟩
      · exact Or.inr ⟨Or.inl h, by omega⟩
      · exact Or.inr ⟨Or.inr h, by omega⟩
    · rintro (h | ⟨h, h2⟩)
      · exact Or.inl (Or.inl (Or.inl h))
      · by_cases e : k = m
        · rcases h with h | h
          · exact Or.inl (Or.inr ⟨h, e⟩)
          · exact Or.inr ⟨h, e⟩
        · exact Or.inl (Or.inl (Or.inr ⟨h, by omega⟩))
section
variable {I I' X : gzIT} {J : gzJT} {w : Nat → Int32} {nf ng nl nx t t1 φ : Nat}
theorem gzGz_in {α : Type} {a : Int32} {x : Option α} (h : a = 0 ∨ a = 1) : gzGz a x = x := if_pos h
theorem gzTn_cpy (hT : gzTn I t1 w nf ng nl nx) : gzTn (gzCpy I t t1 gzTcb) t w nf ng nl nx := by
  have e : ∀ o k, gzTcb o k = true → gzCpy I t t1 gzTcb t o k = I t1 o k := fun o k => gzCpy_at
  obtain ⟨⟨a1, a2, a3, a4, a5, a6⟩, ⟨b1, b2, b3, b4, b5, b6⟩, c1, d1, f1, g1, ⟨l1, l2, l3, l4, l5, l6⟩⟩ := hT
  have E : ∀ o k, ((2 ≤ o ∧ o ≤ 5 ∧ k < 6) ∨ (o = 1 ∧ k = 5) ∨ (8 ≤ o ∧ o ≤ 14 ∧ k < 10) ∨ (o = 7 ∧ k = 7) ∨ (o = 16 ∧ k < 240) ∨ (o = 15 ∧ (k = 1 ∨ k = 2)) ∨ ((o = 17 ∨ o = 18) ∧ k < 8) ∨ (o = 19 ∧ k < 4) ∨ (o = 0 ∧ 6 ≤ k ∧ k ≤ 11)) → gzCpy I t t1 gzTcb t o k = I t1 o k := fun o k q => e o k (decide_eq_true q)
  refine ⟨⟨a1, a2, ?_, a4, ?_, a6⟩, ⟨?_, ?_, ?_, ?_, ?_, ?_⟩, fun k hk => ?_, fun s hs => ?_, fun f hf => ?_, fun g hg => ?_, ⟨l1, l2, ?_, l4, ?_, fun a ha k hk => ?_⟩⟩
  · rw [E 1 5 (by omega)]; exact a3
  · rw [E 7 7 (by omega)]; exact a5
  · rw [E 0 6 (by omega)]; exact b1
  · rw [E 0 7 (by omega)]; exact b2
  · rw [E 0 8 (by omega)]; exact b3
  · rw [E 0 9 (by omega)]; exact b4
  · rw [E 0 10 (by omega)]; exact b5
  · rw [E 0 11 (by omega)]; exact b6
  · rw [E 19 k (by omega)]; exact c1 k hk
  · rw [E 17 s (by omega), E 18 s (by omega)]; exact d1 s hs
  · rw [E 2 f (by omega), E 3 f (by omega), E 4 f (by omega), E 5 f (by omega)]; exact f1 f hf
  · rw [E 8 g (by omega), E 9 g (by omega), E 10 g (by omega), E 11 g (by omega), E 12 g (by omega), E 13 g (by omega), E 14 g (by omega)]; exact g1 g hg
  · rw [E 15 1 (by omega)]; exact l3
  · rw [E 15 2 (by omega)]; exact l5
  · rw [E 16 ((nx + 59 - a) % 60 * 4 + k) (by omega)]; exact l6 a ha k hk
/-- a block copied, cell by cell -/
def gzBk (I : gzIT) (o a o' b m : Nat) : gzIT := fun t x k => if t = 0 ∧ x = o ∧ a ≤ k ∧ k < a + m then I 0 o' (b + (k - a)) else I t x k
theorem gzBk_0 {o a o' b : Nat} : gzBk I o a o' b 0 = I := by
  funext t x k
  exact if_neg (by omega)
theorem gzBk_rd {o a o' b m i : Nat} (h : o ≠ o' ∨ a ≤ b) (hi : m ≤ i) : gzBk I o a o' b m 0 o' (b + i) = I 0 o' (b + i) := if_neg (by omega)
theorem gzBk_s {o a o' b m : Nat} (h : o ≠ o' ∨ a ≤ b) : gz_ui (gzBk I o a o' b m) 0 o (a + m) (I 0 o' (b + m)) = gzBk I o a o' b (m + 1) := by
  funext t x k
  unfold gz_ui gzBk
  by_cases e : t = 0 ∧ x = o ∧ k = a + m
  · rw [if_pos e, if_pos (by omega), show b + (k - a) = b + m by omega]
  · rw [if_neg e]
    by_cases e2 : t = 0 ∧ x = o ∧ a ≤ k ∧ k < a + m
    · rw [if_pos e2, if_pos (by omega)]
    · rw [if_neg e2, if_neg (by omega)]
theorem gz_blk {ρ : Type} {F : Nat → Int32 → gzIT → Option ρ} {n o a o' b : Nat} {out : Option ρ} (hab : o ≠ o' ∨ a ≤ b) (h1 : ∀ k i, i < n → F (k + 1) (Int32.ofNat i) (gzBk I o a o' b i) = F k (Int32.ofNat (i + 1)) (gz_ui (gzBk I o a o' b i) 0 o (a + i) (gzBk I o a o' b i 0 o' (b + i)))) (h2 : ∀ k, F (k + 1) (Int32.ofNat n) (gzBk I o a o' b n) = out) :
    ∀ m i k, i + m = n → m < k → F k (Int32.ofNat i) (gzBk I o a o' b i) = out := by
  intro m
  induction m with
  | zero =>
    intro i k hi hk
    obtain ⟨k, rfl⟩ : ∃ q, k = q + 1 := ⟨k - 1, by omega⟩
    rw [show i = n by omega]; exact h2 k
  | succ m ih =>
    intro i k hi hk
    obtain ⟨k, rfl⟩ : ∃ q, k = q + 1 := ⟨k - 1, by omega⟩
    rw [h1 k i (by omega), gzBk_rd hab (Nat.le_refl _), gzBk_s hab]
    exact ih (i + 1) k (by omega) (by omega)
/-- the model remembers -/
def gzRm (X : gzIT) (k : Nat) : gzIT := if k = 12 then gzBk (gzBk X 52 0 52 364 4004) 52 4004 48 0 364 else gzBk (gz_ui X 0 47 7 (Int32.ofNat (k + 1))) 52 (364 * k) 48 0 364
theorem m_rem55 {K : Nat} (hK : X 0 47 7 = Int32.ofNat (K + 1)) (hk : K < 12) (hφ : 4000 < φ) : f_X12_remembers_55 φ φ 0 X J = some ((), gzBk X 52 (364 * K) 48 0 364, J) := by
  have key := gz_blk (I := X) (F := fun k i s => f_X12_remembers_55 φ k i s J) (n := 364) (o := 52) (a := 364 * K) (o' := 48) (b := 0) (out := some ((), gzBk X 52 (364 * K) 48 0 364, J)) (Or.inl (by omega)) ?_ ?_ 364 0 φ (by omega) (by omega)
  · rw [gzBk_0] at key; exact key
  · intro k i hi
    have e7 : gzBk X 52 (364 * K) 48 0 i 0 47 7 = Int32.ofNat (K + 1) := (if_neg (by omega)).trans hK
    show f_X12_remembers_55 φ (k + 1) (Int32.ofNat i) (gzBk X 52 (364 * K) 48 0 i) J = f_X12_remembers_55 φ k (Int32.ofNat (i + 1)) (gz_ui (gzBk X 52 (364 * K) 48 0 i) 0 52 (364 * K + i) (gzBk X 52 (364 * K) 48 0 i 0 48 (0 + i))) J
    rw [f_X12_remembers_55, if_neg (by rw [gzc_le1 (by omega) (by omega)]; omega), e7, gzc_sub (k := 1) (show 1 ≤ K + 1 by omega), show K + 1 - 1 = K by omega, gzc_mul, gzc_adds, gzGd_in (by omega) (by omega), gzGd_in (show 364 * K + i < 4368 by omega) (by omega), gzn_clamp (show 364 * K + i < 2 ^ 31 by omega), gzn_clamp (show i < 2 ^ 31 by omega), gzn_succ, Nat.zero_add]
  · intro k
    show f_X12_remembers_55 φ (k + 1) 364 (gzBk X 52 (364 * K) 48 0 364) J = _
    rw [f_X12_remembers_55, if_pos (by decide)]
theorem m_remembers {k : Nat} (hk7 : X 0 47 7 = Int32.ofNat k) (hk : k ≤ 12) (hφ : 4050 < φ) : f_X12_remembers φ X J = some ((), gzRm X k, J) := by
  unfold f_X12_remembers gzRm
  rw [hk7]
  by_cases e : k = 12
  · subst e
    rw [if_pos rfl, if_neg (fun q => q rfl)]
    have key := gz_blk (I := X) (F := fun k i s => f_X12_remembers_11 φ k i s J) (n := 4004) (o := 52) (a := 0) (o' := 52) (b := 364) (out := some ((), gzBk (gzBk X 52 0 52 364 4004) 52 4004 48 0 364, J)) (Or.inr (by omega)) ?_ ?_ 4004 0 φ (by omega) (by omega)
    · rw [gzBk_0] at key; exact key
    · intro k i hi
      show f_X12_remembers_11 φ (k + 1) (Int32.ofNat i) (gzBk X 52 0 52 364 i) J = f_X12_remembers_11 φ k (Int32.ofNat (i + 1)) (gz_ui (gzBk X 52 0 52 364 i) 0 52 (0 + i) (gzBk X 52 0 52 364 i 0 52 (364 + i))) J
      rw [f_X12_remembers_11, if_neg (by rw [gzc_le1 (by omega) (by omega)]; omega), gzc_add, gzGd_in (show i + 364 < 4368 by omega) (by omega), gzGd_in (by omega) (by omega), gzn_clamp (by omega), gzn_clamp (by omega), gzn_succ, Nat.zero_add, Nat.add_comm i 364]
    · intro k
      show f_X12_remembers_11 φ (k + 1) 4004 (gzBk X 52 0 52 364 4004) J = _
      rw [f_X12_remembers_11, if_pos (by decide)]
      exact m_rem55 (K := 11) ((if_neg (by omega)).trans hk7) (by omega) (by omega)
  · rw [if_neg e, if_pos (by rw [gzc_eq2 (by omega) (by omega)]; exact e), gzn_succ]
    exact m_rem55 gz_ui_s (by omega) (by omega)
end
