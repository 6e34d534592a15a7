/-! the codes of a text's things: words, numbers, signs -/
def gzSpl : List Int32 → List Int32 → List (List Int32)
  | [], _ => []
  | x :: r, a => if x = 32 then a.reverse :: gzSpl r [] else gzSpl r (x :: a)
def gzVoc : List (List Int32) := gzSpl (gzSb 0) []
theorem gzVoc_flat : gzSb 0 = gzVoc.flatMap (fun w => w ++ [32]) := by decide +kernel
theorem gzVoc_32 : ∀ w, w ∈ gzVoc → ∀ x, x ∈ w → x ≠ 32 := by decide +kernel
theorem gzVoc_nd : gzVoc.Nodup := by decide +kernel
theorem gzVoc_len : gzVoc.length = 38 ∧ (gzSb 0).length < 400 := by decide +kernel
/-- the code of a word -/
def gzWf (u : List Int32) : List (List Int32) → Int32 → Int32
  | [], _ => -2
  | w :: r, i => if w = u then i else gzWf u r (i + 1)
/-- the bytes from a on -/
def gzTx (bt : Nat → Nat) : Nat → Nat → List Int32
  | _, 0 => []
  | a, m + 1 => Int32.ofNat (bt a) :: gzTx bt (a + 1) m
def gzNm (bt : Nat → Nat) : Nat → Nat → Nat → Nat
  | _, 0, v => v
  | a, m + 1, v => gzNm bt (a + 1) m (10 * v + (bt a - 48))
/-- the code of the thing from b to e -/
def gzCq (bt : Nat → Nat) (b e : Nat) : Int32 := if gzKk (bt b) = 3 then Int32.ofNat (2000 + bt b) else if gzKk (bt b) = 2 then (if e - b ≤ 3 then Int32.ofNat (gzNm bt b (e - b) 0) else -2) else gzWf (gzTx bt b (e - b)) gzVoc 1000
section
variable {I I' I2 X M : gzIT} {J : gzJT} {w : Nat → Int32} {nf ng nl nx t t1 φ n c N : Nat} {kd bt B E : Nat → Nat}
theorem gz_drop {S : List Int32} {q : Nat} {x : Int32} {r : List Int32} (h : S.drop q = x :: r) : q < S.length ∧ S.getD q 0 = x ∧ S.drop (q + 1) = r := by
  have h1 : q < S.length := by
    by_cases z : q < S.length
    · exact z
    · rw [List.drop_eq_nil_of_le (by omega)] at h; simp at h
  refine ⟨h1, ?_, ?_⟩
  · have := congrArg (fun l => l[0]?) h
    simp only [List.getElem?_drop, List.getElem?_cons_zero, Nat.add_zero] at this
    rw [List.getD_eq_getElem?_getD, this]; rfl
  · rw [← List.drop_drop, h]; rfl
theorem c_wordF {x1 x2 : Int32} : ∀ (w rest : List Int32) (m q : Nat) (x3 x4 : Int32), (∀ x, x ∈ w → x ≠ 32) → (gzSb 0).drop q = w ++ 32 :: rest → f_X7_wordOf_13 φ I (m + w.length + 1) x1 x2 x3 x4 0 (Int32.ofNat q) = f_X7_wordOf_13 φ I m x1 x2 (x3 + 1) x1 1 (Int32.ofNat (q + w.length + 1)) := by
  intro w
  have hl := gzVoc_len.2
  induction w with
  | nil =>
    intro rest m q x3 x4 _ hd
    obtain ⟨h1, h2, h3⟩ := gz_drop hd
    rw [show m + ([] : List Int32).length + 1 = m + 1 from rfl, f_X7_wordOf_13, if_neg (by rw [gzn_le (by omega) (by omega)]; omega), gzGd_in h1 (by omega), gzn_clamp (by omega), h2, if_pos rfl, if_pos rfl, gzn_succ]
    rfl
  | cons y w ih =>
    intro rest m q x3 x4 hne hd
    obtain ⟨h1, h2, h3⟩ := gz_drop hd
    rw [show m + (y :: w).length + 1 = (m + w.length + 1) + 1 from by rw [List.length_cons]; omega, f_X7_wordOf_13, if_neg (by rw [gzn_le (by omega) (by omega)]; omega), gzGd_in h1 (by omega), gzn_clamp (by omega), h2, if_neg (hne y List.mem_cons_self), if_pos rfl, gzn_succ, ih rest m (q + 1) x3 (x4 + 1) (fun x hx => hne x (List.mem_cons_of_mem _ hx)) h3, List.length_cons, show q + 1 + w.length + 1 = q + (w.length + 1) + 1 by omega]
theorem c_wordI {b e : Nat} (he : e ≤ N) (hN : N ≤ 400) (hb : ∀ q, q < N → I 0 32 q = Int32.ofNat (bt q)) : ∀ (w rest : List Int32) (m q a : Nat) (x3 : Int32), a ≤ e → (∀ x, x ∈ w → x ≠ 32) → (gzSb 0).drop q = w ++ 32 :: rest → f_X7_wordOf_13 φ I (m + w.length + 1) (Int32.ofNat b) (Int32.ofNat e) x3 (Int32.ofNat a) 1 (Int32.ofNat q) = if w = gzTx bt a (e - a) then some x3 else f_X7_wordOf_13 φ I m (Int32.ofNat b) (Int32.ofNat e) (x3 + 1) (Int32.ofNat b) 1 (Int32.ofNat (q + w.length + 1)) := by
  intro w
  have hl := gzVoc_len.2
  induction w with
  | nil =>
    intro rest m q a x3 ha _ hd
    obtain ⟨h1, h2, h3⟩ := gz_drop hd
    rw [show m + ([] : List Int32).length + 1 = m + 1 from rfl, f_X7_wordOf_13, if_neg (by rw [gzn_le (by omega) (by omega)]; omega), gzGd_in h1 (by omega), gzn_clamp (by omega), h2, if_pos rfl, if_neg (by decide)]
    by_cases z : a = e
    · rw [if_neg (by rw [z]; exact fun y => y rfl), if_pos (by rw [z, Nat.sub_self]; rfl)]
    · rw [if_pos (by rw [gzn_inj (by omega) (by omega)]; exact z), if_neg (fun y => by rw [show e - a = (e - a - 1) + 1 by omega] at y; exact List.cons_ne_nil _ _ y.symm), gzn_succ]
      rfl
  | cons y w ih =>
    intro rest m q a x3 ha hne hd
    obtain ⟨h1, h2, h3⟩ := gz_drop hd
    have e1 : q + 1 + w.length + 1 = q + (w.length + 1) + 1 := by omega
    rw [show m + (y :: w).length + 1 = (m + w.length + 1) + 1 from by rw [List.length_cons]; omega, f_X7_wordOf_13, if_neg (by rw [gzn_le (by omega) (by omega)]; omega), gzGd_in h1 (by omega), gzn_clamp (by omega), h2, if_neg (hne y List.mem_cons_self), if_neg (by decide)]
    by_cases z : a = e
    · rw [if_pos (by rw [z, gzn_le (by omega) (by omega)]; omega), gzn_succ, gzn_succ, c_wordF w rest m (q + 1) _ _ (fun x hx => hne x (List.mem_cons_of_mem _ hx)) h3, if_neg (fun x => by rw [z, Nat.sub_self] at x; exact List.cons_ne_nil _ _ x), List.length_cons, e1]
    · rw [if_neg (by rw [gzn_le (by omega) (by omega)]; omega), c_byteAt (bt := bt) (hb a (by omega)) (by omega)]
      simp only [Option.bind_some]
      rw [show e - a = (e - (a + 1)) + 1 by omega]
      show _ = if y :: w = Int32.ofNat (bt a) :: gzTx bt (a + 1) (e - (a + 1)) then _ else _
      by_cases z2 : Int32.ofNat (bt a) = y
      · rw [if_neg (fun x => x z2), gzn_succ, gzn_succ, ih rest m (q + 1) (a + 1) x3 (by omega) (fun x hx => hne x (List.mem_cons_of_mem _ hx)) h3, List.length_cons, e1]
        by_cases z3 : w = gzTx bt (a + 1) (e - (a + 1))
        · rw [if_pos z3, if_pos (by rw [z2, ← z3])]
        · rw [if_neg z3, if_neg (fun x => z3 (List.cons.inj x).2)]
      · rw [if_pos z2, gzn_succ, gzn_succ, c_wordF w rest m (q + 1) _ _ (fun x hx => hne x (List.mem_cons_of_mem _ hx)) h3, if_neg (fun x => z2 (List.cons.inj x).1.symm), List.length_cons, e1]
theorem c_wordL {b e : Nat} (hbe : b ≤ e) (he : e ≤ N) (hN : N ≤ 400) (hb : ∀ q, q < N → I 0 32 q = Int32.ofNat (bt q)) : ∀ (L : List (List Int32)) (m q : Nat) (x3 : Int32), (∀ w, w ∈ L → ∀ x, x ∈ w → x ≠ 32) → (gzSb 0).drop q = L.flatMap (fun w => w ++ [32]) → q ≤ (gzSb 0).length → f_X7_wordOf_13 φ I (m + (L.flatMap (fun w => w ++ [32])).length + 1) (Int32.ofNat b) (Int32.ofNat e) x3 (Int32.ofNat b) 1 (Int32.ofNat q) = some (gzWf (gzTx bt b (e - b)) L x3) := by
  intro L
  have hl := gzVoc_len.2
  induction L with
  | nil =>
    intro m q x3 _ hd hq
    have hq2 : (gzSb 0).length ≤ q := by
      by_cases z : (gzSb 0).length ≤ q
      · exact z
      · have := congrArg List.length hd
        rw [List.length_drop] at this
        simp at this
        omega
    show f_X7_wordOf_13 φ I (m + 0 + 1) _ _ _ _ _ _ = _
    rw [f_X7_wordOf_13, if_pos (by rw [gzn_le (by omega) (by omega)]; exact hq2)]
    rfl
  | cons w L ih =>
    intro m q x3 hne hd hq
    have e1 : (w :: L).flatMap (fun w => w ++ [32]) = w ++ 32 :: L.flatMap (fun w => w ++ [32]) := by
      rw [List.flatMap_cons, List.append_assoc]; rfl
    rw [e1] at hd ⊢
    have e2 : m + (w ++ 32 :: L.flatMap (fun w => w ++ [32])).length + 1 = (m + (L.flatMap (fun w => w ++ [32])).length + 1) + w.length + 1 := by
      rw [List.length_append, List.length_cons]; omega
    have hlen : q + w.length + 1 ≤ (gzSb 0).length := by
      have := congrArg List.length hd
      rw [List.length_drop, List.length_append, List.length_cons] at this
      omega
    rw [e2, c_wordI he hN hb w _ _ q b x3 hbe (hne w List.mem_cons_self) hd]
    show _ = some (if w = gzTx bt b (e - b) then x3 else gzWf (gzTx bt b (e - b)) L (x3 + 1))
    by_cases z : w = gzTx bt b (e - b)
    · rw [if_pos z, if_pos z]
    · rw [if_neg z, if_neg z, ih m (q + w.length + 1) (x3 + 1) (fun v hv => hne v (List.mem_cons_of_mem _ hv)) ?_ hlen]
      rw [show q + w.length + 1 = q + (w.length + 1) by omega, ← List.drop_drop, hd, List.drop_append]
      simp
theorem c_wordOf {b e : Nat} (hbe : b ≤ e) (he : e ≤ N) (hN : N ≤ 400) (hb : ∀ q, q < N → I 0 32 q = Int32.ofNat (bt q)) (hφ : 500 < φ) : f_X7_wordOf φ I (Int32.ofNat b) (Int32.ofNat e) = some (gzWf (gzTx bt b (e - b)) gzVoc 1000) := by
  have h := gzVoc_flat
  have hl := gzVoc_len.2
  have := c_wordL (φ := φ) hbe he hN hb gzVoc (φ - (gzSb 0).length - 1) 0 1000 gzVoc_32 (by rw [List.drop_zero]; exact h) (by omega)
  rw [← h, show φ - (gzSb 0).length - 1 + (gzSb 0).length + 1 = φ by omega] at this
  exact this
theorem gzNm_le : ∀ (m a v s : Nat), (∀ q, a ≤ q → q < a + m → 48 ≤ bt q ∧ bt q ≤ 57) → v < 10 ^ s → gzNm bt a m v < 10 ^ (s + m) := by
  intro m
  induction m with
  | zero => intro a v s _ h; exact h
  | succ m ih =>
    intro a v s hd h
    have h1 := hd a (by omega) (by omega)
    show gzNm bt (a + 1) m (10 * v + (bt a - 48)) < _
    rw [show s + (m + 1) = s + 1 + m by omega]
    refine ih (a + 1) _ (s + 1) (fun q q1 q2 => hd q (by omega) (by omega)) ?_
    rw [Nat.pow_succ]
    omega
theorem c_numL {e : Nat} (he : e ≤ N) (hN : N ≤ 400) (hb : ∀ q, q < N → I 0 32 q = Int32.ofNat (bt q)) : ∀ (m a k v : Nat), a + m = e → m < k → (∀ q, a ≤ q → q < e → 48 ≤ bt q ∧ bt q ≤ 57) → f_X7_numberOf_15 φ I k (Int32.ofNat e) (Int32.ofNat v) (Int32.ofNat a) = some (Int32.ofNat (gzNm bt a m v)) := by
  intro m
  induction m with
  | zero =>
    intro a k v ha hk _
    obtain ⟨k, rfl⟩ : ∃ q, k = q + 1 := ⟨k - 1, by omega⟩
    rw [f_X7_numberOf_15, if_pos (by rw [gzn_le (by omega) (by omega)]; omega)]
    rfl
  | succ m ih =>
    intro a k v ha hk hd
    obtain ⟨k, rfl⟩ : ∃ q, k = q + 1 := ⟨k - 1, by omega⟩
    have h1 := hd a (by omega) (by omega)
    rw [f_X7_numberOf_15, if_neg (by rw [gzn_le (by omega) (by omega)]; omega), c_byteAt (bt := bt) (hb a (by omega)) (by omega)]
    simp only [Option.bind_some]
    rw [gzc_mul', gzc_adds, gzc_sub (by omega), gzn_succ, show v * 10 + bt a - 48 = 10 * v + (bt a - 48) by omega]
    exact ih (a + 1) k _ (by omega) (by omega) (fun q q1 q2 => hd q (by omega) q2)
theorem c_codeOf {b e : Nat} (hbe : b < e) (he : e ≤ N) (hN : N ≤ 400) (hb : ∀ q, q < N → I 0 32 q = Int32.ofNat (bt q) ∧ bt q < 256) (hk : ∀ q, b ≤ q → q < e → gzKk (bt q) = gzKk (bt b)) (hφ : 500 < φ) : f_X7_codeOf φ I (Int32.ofNat b) (Int32.ofNat e) = some (gzCq bt b e) := by
  have hb1 : ∀ q, q < N → I 0 32 q = Int32.ofNat (bt q) := fun q hq => (hb q hq).1
  obtain ⟨q1, q2⟩ := gz_kind (bt b) (hb b (by omega)).2
  unfold f_X7_codeOf
  rw [c_byteAt (bt := bt) (hb1 b (by omega)) (by omega)]
  simp only [Option.bind_some]
  rw [q1]
  simp only [Option.bind_some]
  unfold gzCq
  by_cases z3 : gzKk (bt b) = 3
  · rw [if_neg (fun y => y (by rw [z3]; rfl)), if_pos z3, gzc_add']
  · rw [if_pos (fun y => z3 ((gzc_eq2 (by omega) (by omega)).1 y)), if_neg z3]
    by_cases z2 : gzKk (bt b) = 2
    · rw [if_neg (fun y => y (by rw [z2]; rfl)), if_pos z2]
      unfold f_X7_numberOf
      rw [gzc_subs (by omega)]
      by_cases z : e - b ≤ 3
      · rw [if_pos ((gzc_le2 (by omega) (by omega)).2 z), if_pos z]
        have := c_numL (φ := φ) he hN hb1 (e - b) b φ 0 (by omega) (by omega) (fun q a1 a2 => by
          have := hk q a1 a2
          rw [z2] at this
          unfold gzKk at this
          split at this
          · omega
          · split at this
            · omega
            · split at this
              · assumption
              · omega)
        exact (congrArg (fun x => Option.bind x (fun v8 => some v8)) this).trans rfl
      · rw [if_neg (fun y => z ((gzc_le2 (by omega) (by omega)).1 y)), if_neg z]
        rfl
    · rw [if_pos (fun y => z2 ((gzc_eq2 (by omega) (by omega)).1 y)), if_neg z2, c_wordOf (by omega) he hN hb1 hφ]
      rfl
end
