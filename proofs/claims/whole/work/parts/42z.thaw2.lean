/-! which to let thaw -/
section
variable {I I' I2 X : gzIT} {J : gzJT} {w : Nat → Int32} {nf ng nl nx t t1 φ : Nat}
def gzPv (w : Nat → Int32) (ng g : Nat) : Int32 := if g < ng ∧ tH w g = false then gzbt (gzPi (tF w g) (tT w g)) else 0
theorem gzVc_uw {o : Nat} {s : Nat → Int32} (ho : 20 ≤ o) (h : gzVc I 0 w nf ng) : gzVc (gz_uw I 0 o s) 0 w nf ng := by
  have e : ∀ o', o' < 20 → gz_uw I 0 o s 0 o' = I 0 o' := fun o' h => gz_uw_ne (by omega)
  unfold gzVc at h ⊢
  rw [e 1 (by omega), e 2 (by omega), e 3 (by omega), e 4 (by omega), e 5 (by omega), e 7 (by omega), e 8 (by omega), e 9 (by omega), e 10 (by omega), e 11 (by omega), e 12 (by omega), e 13 (by omega), e 14 (by omega), e 17 (by omega), e 18 (by omega)]
  exact h
theorem c_frozenN {g : Nat} (h : gzVc I t w nf ng) (hg : ng ≤ g) (hg2 : g < 100) : f_X1_frozen t I (Int32.ofNat g) = some 0 := by
  have h4 := h.1.2.2.2
  unfold f_X1_frozen
  rw [if_neg (by rw [gzc_lt0 (by omega)]; exact id), h.1.2.1, if_pos (by rw [gzn_le (by omega) (by omega)]; exact hg)]
theorem gz_pival {a b : Nat} (ha : a < 6) (hb : b < 6) (hab : a ≠ b) : (1 : Int32) <<< (((((if Int32.ofNat a < Int32.ofNat b then Int32.ofNat b else Int32.ofNat a) * ((if Int32.ofNat a < Int32.ofNat b then Int32.ofNat b else Int32.ofNat a) - 1)) / 2) + (if Int32.ofNat b < Int32.ofNat a then Int32.ofNat b else Int32.ofNat a)) &&& 31) = gzbt (gzPi a b) := by
  unfold gzPi gzbt
  by_cases q : b < a
  · have hm : a * (a - 1) < 100 := Nat.lt_of_le_of_lt (Nat.mul_le_mul (show a ≤ 6 by omega) (show a - 1 ≤ 6 by omega)) (by decide)
    rw [if_neg (by rw [gzn_lt (by omega) (by omega)]; omega), if_pos (by rw [gzn_lt (by omega) (by omega)]; exact q), if_pos q, show Int32.ofNat a - 1 = Int32.ofNat (a - 1) from gzc_sub (k := 1) (show 1 ≤ a by omega), gzc_muls, gzc_div (by omega) (by omega), gzc_adds]
  · have hm : b * (b - 1) < 100 := Nat.lt_of_le_of_lt (Nat.mul_le_mul (show b ≤ 6 by omega) (show b - 1 ≤ 6 by omega)) (by decide)
    rw [if_pos (by rw [gzn_lt (by omega) (by omega)]; omega), if_neg (by rw [gzn_lt (by omega) (by omega)]; exact q), if_neg q, show Int32.ofNat b - 1 = Int32.ofNat (b - 1) from gzc_sub (k := 1) (show 1 ≤ b by omega), gzc_muls, gzc_div (by omega) (by omega), gzc_adds]
theorem c_tellPairs (h : gzVc I 0 w nf ng) (hb : gzVb w nf ng) (hφ : 20 < φ) : ∃ f : Nat → Int32, f_X10_tellPairs φ 0 I J = some ((), gz_uw I 0 46 f, J) ∧ ∀ g, g < 10 → f g = gzPv w ng g := by
  have h3 := h.1.2.2.1
  have h4 := h.1.2.2.2
  have key : ∀ (m i k : Nat) (s : Nat → Int32), i + m = 10 → m < k → (∀ j, j < i → s j = gzPv w ng j) → ∃ f : Nat → Int32, f_X10_tellPairs_2 φ 0 k (Int32.ofNat i) (gz_uw I 0 46 s) J = some ((), gz_uw I 0 46 f, J) ∧ ∀ g, g < 10 → f g = gzPv w ng g := by
    intro m
    induction m with
    | zero =>
      intro i k s hi hk hs
      obtain ⟨k, rfl⟩ : ∃ q, k = q + 1 := ⟨k - 1, by omega⟩
      refine ⟨s, ?_, fun g hg => hs g (by omega)⟩
      rw [f_X10_tellPairs_2, if_pos (by rw [gzc_le1 (by omega) (by omega)]; omega)]
    | succ m ih =>
      intro i k s hi hk hs
      obtain ⟨k, rfl⟩ : ∃ q, k = q + 1 := ⟨k - 1, by omega⟩
      obtain ⟨f, i1, i2⟩ := ih (i + 1) k (gzUp s i (gzPv w ng i)) (by omega) (by omega) (fun j hj => by
        by_cases e : j = i
        · rw [e, gzUp_at]
        · rw [gzUp_ne e]; exact hs j (by omega))
      refine ⟨f, ?_, i2⟩
      rw [← i1, f_X10_tellPairs_2, if_neg (by rw [gzc_le1 (by omega) (by omega)]; omega), gzGd_in (by omega) (by omega), gzn_clamp (by omega), gzn_succ, gz_uwi, gz_uwi]
      have vc := gzVc_uw (o := 46) (s := s) (by omega) h
      by_cases q : i < ng
      · rw [c_frozen vc q]
        simp only [Option.bind_some]
        by_cases x : tH w i = true
        · have e : gzPv w ng i = 0 := if_neg (fun z => by rw [x] at z; cases z.2)
          rw [if_pos (if_pos x), e]
        · have x' : tH w i = false := by simpa using x
          have e : gzPv w ng i = gzbt (gzPi (tF w i) (tT w i)) := if_pos ⟨q, x'⟩
          rw [if_neg (by rw [if_neg x]; decide), e, vc.2.1 i q, vc.2.2.1 i q, gz_pival (by have := hb.1 i q; omega) (by have := hb.2.1 i q; omega) (hb.2.2.1 i q)]
      · rw [c_frozenN vc (by omega) (by omega)]
        simp only [Option.bind_some]
        have e : gzPv w ng i = 0 := if_neg (fun z => q z.1)
        rw [if_pos trivial, e]
  obtain ⟨f, h1, h2⟩ := key 10 0 φ (I 0 46) (by omega) (by omega) (fun j hj => by omega)
  rw [gz_uw_same rfl] at h1
  exact ⟨f, h1, h2⟩
theorem gzFo_pair {α β : Type} {f : α → Nat → α} {g : β → Nat → β} : ∀ (m i : Nat) (a : α) (b : β), gzFo (fun (s : α × β) i => (f s.1 i, g s.2 i)) i m (a, b) = (gzFo f i m a, gzFo g i m b) := by
  intro m
  induction m with
  | zero => intro i a b; rfl
  | succ m ih => intro i a b; exact ih (i + 1) (f a i) (g b i)
def gzIa (w : Nat → Int32) (ng : Nat) (act : Nat → Bool) : Int32 := gzFo (fun s g => if act g = true then s + w (58 + 7 * g) else s) 0 ng 0
theorem gzFo_cut {σ : Type} {f : σ → Nat → σ} {n N : Nat} {s : σ} (hn : n ≤ N) (h : ∀ s j, n ≤ j → f s j = s) : gzFo f 0 N s = gzFo f 0 n s := by
  rw [show N = n + (N - n) by omega, gzFo_add]
  exact gzFo_id _ _ _ fun s j a b => h s j (by omega)
theorem c_linked {f : Nat → Int32} {set least : Int32} (h : gzVc I 0 w nf ng) (hb : gzVb w nf ng) (hf : ∀ g, g < 10 → f g = gzPv w ng g) (hφ : 20 < φ) : f_X10_linkedWithout φ 0 (gz_uw I 0 46 f) set least = some (if gzIa w ng (fun g => !tH w g && !gzB set g) < least then 16 else gzBc (gzLkd w ng (fun g => !tH w g && !gzB set g))) := by
  have h3 := h.1.2.2.1
  have h4 := h.1.2.2.2
  have vc := gzVc_uw (o := 46) (s := f) (by omega) h
  unfold f_X10_linkedWithout
  have key := gz_loop (F := fun k (s : Int32 × Int32) i => f_X10_linkedWithout_9 φ 0 (gz_uw I 0 46 f) k set least s.1 s.2 i) (n := 10) (step := fun s g => ((if (decide (g < ng) && (!tH w g && !gzB set g)) = true then s.1 + w (58 + 7 * g) else s.1), (if (decide (g < ng) && (!tH w g && !gzB set g)) = true then s.2 ||| gzbt (gzPi (tF w g) (tT w g)) else s.2))) (out := fun s => some (if s.1 < least then 16 else gzBc s.2)) ?_ ?_ 10 0 φ (0, 0) (by omega) (by omega)
  · refine (show f_X10_linkedWithout_9 φ 0 (gz_uw I 0 46 f) φ set least 0 0 0 = _ from key).trans ?_
    rw [gzFo_pair (f := fun s g => if (decide (g < ng) && (!tH w g && !gzB set g)) = true then s + w (58 + 7 * g) else s) (g := fun s g => if (decide (g < ng) && (!tH w g && !gzB set g)) = true then s ||| gzbt (gzPi (tF w g) (tT w g)) else s)]
    have e1 : gzFo (fun s g => if (decide (g < ng) && (!tH w g && !gzB set g)) = true then s + w (58 + 7 * g) else s) 0 10 0 = gzIa w ng (fun g => !tH w g && !gzB set g) := by
      rw [gzFo_cut h4 (fun s j hj => by rw [decide_eq_false (by omega), Bool.false_and]; rfl)]
      unfold gzIa
      refine gzFo_congr _ _ _ fun s j _ hj => ?_
      rw [decide_eq_true (by omega), Bool.true_and]
    have e2 : gzFo (fun s g => if (decide (g < ng) && (!tH w g && !gzB set g)) = true then s ||| gzbt (gzPi (tF w g) (tT w g)) else s) 0 10 0 = gzLkd w ng (fun g => !tH w g && !gzB set g) := by
      rw [gzFo_cut h4 (fun s j hj => by rw [decide_eq_false (by omega), Bool.false_and]; rfl)]
      unfold gzLkd
      refine gzFo_congr _ _ _ fun s j _ hj => ?_
      rw [decide_eq_true (by omega), Bool.true_and]
    rw [e1, e2]
  · intro k s g hg
    show f_X10_linkedWithout_9 φ 0 (gz_uw I 0 46 f) (k + 1) set least s.1 s.2 (Int32.ofNat g) = f_X10_linkedWithout_9 φ 0 (gz_uw I 0 46 f) k set least (if (decide (g < ng) && (!tH w g && !gzB set g)) = true then s.1 + w (58 + 7 * g) else s.1) (if (decide (g < ng) && (!tH w g && !gzB set g)) = true then s.2 ||| gzbt (gzPi (tF w g) (tT w g)) else s.2) (Int32.ofNat (g + 1))
    rw [f_X10_linkedWithout_9, if_neg (by rw [gzc_le1 (by omega) (by omega)]; omega), gzGd_in hg (by omega), gzn_clamp (by omega), gz_uw_eq, hf g hg, gzc_has (by omega), gzn_succ]
    simp only [Option.bind_some]
    by_cases q : g < ng ∧ tH w g = false
    · have e : gzPv w ng g = gzbt (gzPi (tF w g) (tT w g)) := if_pos q
      have hz : ¬ gzbt (gzPi (tF w g) (tT w g)) = 0 := gz_bt15 _ (gz_pi6 _ (by have := hb.1 g q.1; omega) _ (by have := hb.2.1 g q.1; omega) (hb.2.2.1 g q.1)).1
      rw [e, if_neg hz, q.2, decide_eq_true q.1, vc.2.2.2.2.2.1 g q.1]
      cases gzB set g
      · rw [if_neg (by decide)]
        rfl
      · rw [if_pos (by decide)]
        rfl
    · have e : gzPv w ng g = 0 := if_neg q
      rw [e, if_pos rfl]
      have hc : (decide (g < ng) && (!tH w g && !gzB set g)) = false := by
        by_cases q1 : g < ng
        · have : tH w g = true := by
            cases hh : tH w g
            · exact absurd ⟨q1, hh⟩ q
            · rfl
          rw [this]
          simp
        · rw [decide_eq_false q1, Bool.false_and]
      rw [hc]
      rfl
  · intro k s
    show f_X10_linkedWithout_9 φ 0 (gz_uw I 0 46 f) (k + 1) set least s.1 s.2 10 = some (if s.1 < least then 16 else gzBc s.2)
    rw [f_X10_linkedWithout_9, if_pos (by decide), gzBc_eq]
    simp only [Option.bind_some]
    by_cases z : s.1 < least
    · rw [if_pos z, if_pos z]
    · rw [if_neg z, if_neg z]
theorem m_friends2 {S set : Int32} {c : Nat} (h : gzVi I w nf ng) (hS : ∀ g, g < ng → gzB S g = (!tH w g && !gzB set g)) (hc : c ≤ nf * (nf - 1) / 2) (hsum : gzFo (fun s i => s + gzBc (S_near w ng (fun g => !tH w g && !gzB set g) i)) 0 nf 0 = Int32.ofNat (2 * c)) (hφ : 10 < φ) : f_X12_friendsBy φ I S = some (Int32.ofNat (nf * (nf - 1) / 2 - c)) := by
  have h3 := h.2.1.1.2.2.1
  have e0 : ∀ i, S_near w ng (gzB S) i = S_near w ng (fun g => !tH w g && !gzB set g) i := fun i => S_near_congr fun g hg => hS g hg
  have e1 : gzFo (fun s i => s + ((Int32.ofNat nf - 1) - gzBc (S_near w ng (gzB S) i))) 0 nf 0 = gzFo (fun s i => s + ((Int32.ofNat nf - 1) - gzBc (S_near w ng (fun g => !tH w g && !gzB set g) i))) 0 nf 0 := gzFo_congr _ _ _ fun s j _ _ => by rw [e0]
  rw [m_friendsBy h hφ, e1]
  have e2 := gz_sum1 (p := fun i => gzBc (S_near w ng (fun g => !tH w g && !gzB set g) i)) (a := Int32.ofNat nf - 1) nf 0 0 0
  rw [show (0 : Int32) - 0 = 0 from rfl, hsum] at e2
  rw [e2]
  have e3 : (0 : Int32) + Int32.ofNat nf * (Int32.ofNat nf - 1) = Int32.ofNat (nf * (nf - 1)) := by
    cases nf with
    | zero => rfl
    | succ n => rw [gzc_sub (k := 1) (show 1 ≤ n + 1 by omega), show n + 1 - OfNat.ofNat 1 = n from rfl, gzc_muls, Int32.zero_add]
  have he : 2 * (nf * (nf - 1) / 2) = nf * (nf - 1) := by
    rcases (show nf = 0 ∨ nf = 1 ∨ nf = 2 ∨ nf = 3 ∨ nf = 4 ∨ nf = 5 ∨ nf = 6 by omega) with rfl | rfl | rfl | rfl | rfl | rfl | rfl <;> rfl
  have hlt : nf * (nf - 1) < 100 := Nat.lt_of_le_of_lt (Nat.mul_le_mul h3 (show nf - 1 ≤ 6 by omega)) (by decide)
  rw [e3, gzc_subs (by omega), gzc_div (by omega) (by omega), show (nf * (nf - 1) - 2 * c) / 2 = nf * (nf - 1) / 2 - c by omega]
theorem gz_minv {F set : Int32} {g : Nat} (hg : g < 32) : gzB (F &&& (set ^^^ (-1))) g = (gzB F g && !gzB set g) := by
  rw [gzb_and, gzb_inv hg]
theorem r_thawL {f : Nat → Int32} {least F : Int32} {Fn : Nat} (h : gzVc I 0 w nf ng) (hb : gzVb w nf ng) (hf : ∀ g, g < 10 → f g = gzPv w ng g) (hX : gzVi X w nf ng) (hF : F = gzSe (fun g => !tH w g) ng) (hFn : F = Int32.ofNat Fn) (hFl : Fn < 1024) (hφ : 20 < φ) :
    ∀ (m i k k' : Nat) (bs fw x4 : Int32), i + m = Fn + 1 → m < k → m < k' → ((bs = -1 ∧ fw = 16 ∧ x4 = -1) ∨ ∃ n c : Nat, n < 1024 ∧ c ≤ nf * (nf - 1) / 2 ∧ bs = Int32.ofNat n ∧ fw = Int32.ofNat c ∧ x4 = Int32.ofNat (nf * (nf - 1) / 2 - c)) → ∃ v : Int32, f_X10_bestThaw_26 φ 0 k least F bs fw (Int32.ofNat i) (gz_uw I 0 46 f) J = some (v, gz_uw I 0 46 f, J) ∧ ∀ J' : gzJT, f_X12_thaw_44 φ k' least F bs x4 (Int32.ofNat i) X J' = some (v, X, J') := by
  have h3 := h.1.2.2.1
  have h4 := h.1.2.2.2
  have hT15 : nf * (nf - 1) / 2 ≤ 15 := by
    rcases (show nf = 0 ∨ nf = 1 ∨ nf = 2 ∨ nf = 3 ∨ nf = 4 ∨ nf = 5 ∨ nf = 6 by omega) with rfl | rfl | rfl | rfl | rfl | rfl | rfl <;> decide
  obtain ⟨T, eT⟩ : ∃ T, T = nf * (nf - 1) / 2 := ⟨_, rfl⟩
  rw [← eT] at hT15 ⊢
  intro m
  induction m with
  | zero =>
    intro i k k' bs fw x4 hi hk hk' hst
    obtain ⟨k, rfl⟩ : ∃ q, k = q + 1 := ⟨k - 1, by omega⟩
    obtain ⟨k', rfl⟩ : ∃ q, k' = q + 1 := ⟨k' - 1, by omega⟩
    refine ⟨bs, ?_, fun J' => ?_⟩
    · rw [f_X10_bestThaw_26, hFn, if_pos (by rw [gzn_lt (by omega) (by omega)]; omega)]
    · rw [f_X12_thaw_44, hFn, if_pos (by rw [gzn_lt (by omega) (by omega)]; omega)]
  | succ m ih =>
    intro i k k' bs fw x4 hi hk hk' hst
    obtain ⟨k, rfl⟩ : ∃ q, k = q + 1 := ⟨k - 1, by omega⟩
    obtain ⟨k', rfl⟩ : ∃ q, k' = q + 1 := ⟨k' - 1, by omega⟩
    have hlt : ¬ F < Int32.ofNat i := by rw [hFn, gzn_lt (by omega) (by omega)]; omega
    by_cases q0 : Int32.ofNat i &&& (F ^^^ (-1)) = 0
    · obtain ⟨c, hc1, hc2, hc3⟩ := gz_link (act := fun g => !tH w g && !gzB (Int32.ofNat i) g) hb h3
      rw [← eT] at hc1
      have hS : ∀ g, g < ng → gzB (F &&& (Int32.ofNat i ^^^ (-1))) g = (!tH w g && !gzB (Int32.ofNat i) g) := fun g hg => by
        rw [gz_minv (by omega), hF, gzSe_b (by omega) (by omega), decide_eq_true hg, Bool.true_and]
      have hice : f_X12_iceOf φ X (F &&& (Int32.ofNat i ^^^ (-1))) = some (gzIa w ng (fun g => !tH w g && !gzB (Int32.ofNat i) g)) := by
        rw [s_X12_iceOf (by rw [hX.1 1 (by omega)]; exact hX.2.1.1.2.1) h4 (by omega)]
        refine congrArg some (gzFo_congr _ _ _ fun s g _ hg => ?_)
        rw [hS g (by omega), hX.1 _ (by omega)]
      have hfr : f_X12_friendsBy φ X (F &&& (Int32.ofNat i ^^^ (-1))) = some (Int32.ofNat (T - c)) := by
        rw [eT]
        exact m_friends2 hX hS (by omega) hc3 (by omega)
      have hln := c_linked (φ := φ) (set := Int32.ofNat i) (least := least) h hb hf hφ
      rw [hc2] at hln
      obtain ⟨ice, eice⟩ : ∃ x, x = gzIa w ng (fun g => !tH w g && !gzB (Int32.ofNat i) g) := ⟨_, rfl⟩
      rw [← eice] at hln hice
      have cls : f_X10_bestThaw_26 φ 0 (k + 1) least F bs fw (Int32.ofNat i) (gz_uw I 0 46 f) J = if (if ice < least then (16 : Int32) else Int32.ofNat c) < fw then f_X10_bestThaw_26 φ 0 k least F (Int32.ofNat i) (if ice < least then (16 : Int32) else Int32.ofNat c) (Int32.ofNat (i + 1)) (gz_uw I 0 46 f) J else if ¬ (if ice < least then (16 : Int32) else Int32.ofNat c) = fw then f_X10_bestThaw_26 φ 0 k least F bs fw (Int32.ofNat (i + 1)) (gz_uw I 0 46 f) J else if (if gzBc bs ≤ gzBc (Int32.ofNat i) then (0 : Int32) else 1) = 0 then f_X10_bestThaw_26 φ 0 k least F bs fw (Int32.ofNat (i + 1)) (gz_uw I 0 46 f) J else if bs = -1 then f_X10_bestThaw_26 φ 0 k least F bs fw (Int32.ofNat (i + 1)) (gz_uw I 0 46 f) J else f_X10_bestThaw_26 φ 0 k least F (Int32.ofNat i) (if ice < least then (16 : Int32) else Int32.ofNat c) (Int32.ofNat (i + 1)) (gz_uw I 0 46 f) J := by
        rw [f_X10_bestThaw_26, if_neg hlt, if_neg (fun z => z q0), hln, gzBc_eq, gzBc_eq, gzn_succ]
        rfl
      have mdl : ∀ J' : gzJT, f_X12_thaw_44 φ (k' + 1) least F bs x4 (Int32.ofNat i) X J' = if least ≤ ice then (if Int32.ofNat (T - c) < x4 then f_X12_thaw_44 φ k' least F bs x4 (Int32.ofNat (i + 1)) X J' else if ¬ Int32.ofNat (T - c) = x4 then f_X12_thaw_44 φ k' least F (Int32.ofNat i) (Int32.ofNat (T - c)) (Int32.ofNat (i + 1)) X J' else if gzBc (Int32.ofNat i) < gzBc bs then f_X12_thaw_44 φ k' least F (Int32.ofNat i) (Int32.ofNat (T - c)) (Int32.ofNat (i + 1)) X J' else f_X12_thaw_44 φ k' least F bs x4 (Int32.ofNat (i + 1)) X J') else f_X12_thaw_44 φ k' least F bs x4 (Int32.ofNat (i + 1)) X J' := fun J' => by
        rw [f_X12_thaw_44, if_neg hlt, if_neg (fun z => z q0), hice, hfr, gzBc_eq, gzBc_eq, gzn_succ]
        rfl
      have skip := ih (i + 1) k k' bs fw x4 (by omega) (by omega) (by omega) hst
      by_cases hl : ice < least
      · have hl2 : ¬ least ≤ ice := fun e => by
          have a1 := Int32.le_iff_toInt_le.mp e
          have a2 := Int32.lt_iff_toInt_lt.mp hl
          omega
        obtain ⟨v, i1, i2⟩ := skip
        refine ⟨v, ?_, fun J' => ?_⟩
        · rw [cls, if_pos hl, ← i1]
          rcases hst with ⟨s1, s2, s3⟩ | ⟨n, c0, s0, s1, s2, s3, s4⟩
          · rw [if_neg (by rw [s2]; decide), if_neg (fun z => z s2.symm), if_pos s1]
            by_cases z : (if gzBc bs ≤ gzBc (Int32.ofNat i) then (0 : Int32) else 1) = 0
            · rw [if_pos z]
            · rw [if_neg z]
          · rw [if_neg (by rw [s3, gzc_lt1 (by omega) (by omega)]; omega), if_pos (by rw [s3, gzc_eq1 (by omega) (by omega)]; omega)]
        · rw [mdl, if_neg hl2]
          exact i2 J'
      · have hl2 : least ≤ ice := by
          apply Int32.le_iff_toInt_le.mpr
          have : ¬ ice.toInt < least.toInt := fun z => hl (Int32.lt_iff_toInt_lt.mpr z)
          omega
        rw [if_neg hl] at cls
        obtain ⟨v2, j1, j2⟩ := ih (i + 1) k k' (Int32.ofNat i) (Int32.ofNat c) (Int32.ofNat (T - c)) (by omega) (by omega) (by omega) (Or.inr ⟨i, c, by omega, hc1, rfl, rfl, rfl⟩)
        rcases hst with ⟨s1, s2, s3⟩ | ⟨n, c0, s0, s1, s2, s3, s4⟩
        · refine ⟨v2, ?_, fun J' => ?_⟩
          · rw [cls, s2, if_pos (by rw [gzc_lt2 (by omega) (by omega)]; omega)]
            exact j1
          · rw [mdl, if_pos hl2, s3, if_neg (fun z => by
              have a1 := Int32.lt_iff_toInt_lt.mp z
              rw [gzn_int (by omega)] at a1
              have e : (-1 : Int32).toInt = -1 := rfl
              omega), if_pos (fun z => (gzc_m1 (by omega)).mp z)]
            exact j2 J'
        · obtain ⟨v, i1, i2⟩ := skip
          have hbs : ¬ bs = -1 := by rw [s2]; exact fun z => (gzc_m1 (by omega)).mp z
          by_cases a1 : c < c0
          · refine ⟨v2, ?_, fun J' => ?_⟩
            · rw [cls, s3, if_pos (by rw [gzn_lt (by omega) (by omega)]; exact a1)]
              exact j1
            · rw [mdl, if_pos hl2, s4, if_neg (by rw [gzn_lt (by omega) (by omega)]; omega), if_pos (by rw [gzn_inj (by omega) (by omega)]; omega)]
              exact j2 J'
          · by_cases a2 : c = c0
            · have e1 : (Int32.ofNat c < fw) = False := by
                rw [s3, a2]
                exact propext ⟨fun z => by rw [gzn_lt (by omega) (by omega)] at z; omega, False.elim⟩
              by_cases a3 : gzBc bs ≤ gzBc (Int32.ofNat i)
              · have a4 : ¬ gzBc (Int32.ofNat i) < gzBc bs := fun z => by
                  have b1 := Int32.le_iff_toInt_le.mp a3
                  have b2 := Int32.lt_iff_toInt_lt.mp z
                  omega
                refine ⟨v, ?_, fun J' => ?_⟩
                · rw [cls, if_neg (by rw [e1]; exact id), if_neg (fun z => z (by rw [s3, a2])), if_pos (if_pos a3)]
                  exact i1
                · rw [mdl, if_pos hl2, if_neg (by rw [s4, gzn_lt (by omega) (by omega)]; omega), if_neg (fun z => z (by rw [s4, a2])), if_neg a4]
                  exact i2 J'
              · have a4 : gzBc (Int32.ofNat i) < gzBc bs := by
                  apply Int32.lt_iff_toInt_lt.mpr
                  have : ¬ (gzBc bs).toInt ≤ (gzBc (Int32.ofNat i)).toInt := fun z => a3 (Int32.le_iff_toInt_le.mpr z)
                  omega
                refine ⟨v2, ?_, fun J' => ?_⟩
                · rw [cls, if_neg (by rw [e1]; exact id), if_neg (fun z => z (by rw [s3, a2])), if_neg (by rw [if_neg a3]; decide), if_neg hbs]
                  exact j1
                · rw [mdl, if_pos hl2, if_neg (by rw [s4, gzn_lt (by omega) (by omega)]; omega), if_neg (fun z => z (by rw [s4, a2])), if_pos a4]
                  exact j2 J'
            · refine ⟨v, ?_, fun J' => ?_⟩
              · rw [cls, s3, if_neg (by rw [gzn_lt (by omega) (by omega)]; exact a1), if_pos (by rw [gzn_inj (by omega) (by omega)]; exact a2), ← s3]
                exact i1
              · rw [mdl, if_pos hl2, s4, if_pos (by rw [gzn_lt (by omega) (by omega)]; omega), ← s4]
                exact i2 J'
    · obtain ⟨v, i1, i2⟩ := ih (i + 1) k k' bs fw x4 (by omega) (by omega) (by omega) hst
      refine ⟨v, ?_, fun J' => ?_⟩
      · rw [f_X10_bestThaw_26, if_neg hlt, if_pos q0, gzn_succ]
        exact i1
      · rw [f_X12_thaw_44, if_neg hlt, if_pos q0, gzn_succ]
        exact i2 J'
theorem L_thaw (p0 : Int32) (h : gzR I I) : ∃ e I1, f_X11_thaw 4096 p0 I J = some (e, I1, J) ∧ (∀ E, e = .error E → ∃ k : Nat, (["java/lang/IllegalArgumentException"] : List String)[k]? = some E) ∧ ∀ J' : gzJT, ∃ v I2 J2, f_X12_thaw 4096 p0 I1 J' = some (v, I2, J2) ∧ gzSame e ["java/lang/IllegalArgumentException"] v (I2 0 47 0) ∧ J2 0 59 0 = J' 0 59 0 ∧ gzR I2 I2 := by
  obtain ⟨nf, ng, nl, nx, hT, hx, c, b, m⟩ := gzR_go h
  obtain ⟨φ, hφ⟩ : ∃ φ, φ = 4096 := ⟨_, rfl⟩
  rw [← hφ]
  have n4 := c.1.2.2.2
  rcases p_num (I := I) (J := J) (a := p0) (N := 999) (by omega) with ⟨-, e3, e4⟩ | ⟨e3, e4⟩
  · obtain ⟨f, hf1, hf2⟩ := c_tellPairs (J := J) (φ := φ) c b (by omega)
    obtain ⟨Fn, q1, q2, -, -, -⟩ := gzSe_qn (P := fun g => !tH (I 0 48) g) ng n4
    have hFl : Fn < 1024 := Nat.lt_of_lt_of_le q1 (Nat.le_trans (Nat.pow_le_pow_right (n := 2) (by decide) n4) (by decide))
    have vc := gzVc_uw (o := 46) (s := f) (by omega) c
    have hX : gzVi (gz_ui (gz_uw I 0 46 f) 0 47 0 0) (I 0 48) nf ng := gzVi_eq (m 0) (fun k hk => by
      refine (if_neg (by omega)).trans ?_
      rw [gz_uw_ne (by omega)]
      exact (if_neg (by omega)).symm)
    obtain ⟨v, i1, i2⟩ := r_thawL (J := J) (φ := φ) (least := p0) c b hf2 hX rfl q2 hFl (by omega) (Fn + 1) 0 φ φ (-1) 16 (-1) (by omega) (by omega) (by omega) (Or.inl ⟨rfl, rfl, rfl⟩)
    refine ⟨.ok v, gz_uw I 0 46 f, ?_, fun E hE => (by cases hE), fun J' => ⟨v, gz_ui (gz_uw I 0 46 f) 0 47 0 0, J', ?_, ⟨rfl, gz_ui_s⟩, rfl, ?_⟩⟩
    · unfold f_X11_thaw f_X10_bestThaw
      rw [show (999 : Int32) = Int32.ofNat 999 from rfl, e3]
      simp only [Option.bind_some, gzEx]
      rw [hf1]
      simp only [Option.bind_some]
      rw [c_standing vc (by omega)]
      simp only [Option.bind_some]
      rw [show f_X10_bestThaw_26 φ 0 φ p0 (gzSe (fun g => !tH (I 0 48) g) ng) (-1) 16 0 (gz_uw I 0 46 f) J = _ from i1]
      rfl
    · unfold f_X12_thaw
      rw [show (999 : Int32) = Int32.ofNat 999 from rfl, e4]
      simp only [Option.bind_some, gz_not01, s_throws0, if_true]
      rw [m_standing hX (by omega)]
      simp only [Option.bind_some]
      exact i2 J'
    · refine gzR_thr (gzR_scr h fun t o k q => ?_)
      rw [gz_uw_ne (fun e => q (by unfold gzCs gzMw; omega))]
  · refine ⟨.error "java/lang/IllegalArgumentException", I, ?_, fun E hE => ⟨0, by cases hE; rfl⟩, fun J' => ⟨0, gz_ui (gz_ui I 0 47 0 0) 0 47 0 1, J', ?_, ⟨0, rfl, gz_ui_s⟩, rfl, gzR_thr2 h⟩⟩
    · unfold f_X11_thaw
      rw [show (999 : Int32) = Int32.ofNat 999 from rfl, e3]
      rfl
    · unfold f_X12_thaw
      rw [show (999 : Int32) = Int32.ofNat 999 from rfl, e4]
      simp only [Option.bind_some, gz_not00, s_throws1]
      rfl
end
