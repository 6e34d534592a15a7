/-! a text cut into things -/
def gzKk (b : Nat) : Nat := if b = 32 then 0 else if 97 ≤ b ∧ b ≤ 122 then 1 else if 48 ≤ b ∧ b ≤ 57 then 2 else 3
theorem gz_kind : ∀ b, b < 256 → f_X7_kindOf (Int32.ofNat b) = some (Int32.ofNat (gzKk b)) ∧ gzKk b < 4 := by decide +kernel
/-- the first c things of the bytes before at -/
def gzTks (kd : Nat → Nat) (n c : Nat) (B E : Nat → Nat) : Prop := c ≤ n ∧
  (∀ j, j < c → B j < E j ∧ E j ≤ n ∧ kd (B j) ≠ 0 ∧ (kd (B j) = 3 → E j = B j + 1) ∧ ∀ q, B j ≤ q → q < E j → kd q = kd (B j)) ∧
  (∀ j, j + 1 < c → E j ≤ B (j + 1) ∧ (E j = B (j + 1) → kd (B j) = 3 ∨ kd (B (j + 1)) ≠ kd (B j)) ∧ ∀ q, E j ≤ q → q < B (j + 1) → kd q = 0) ∧
  (c = 0 → ∀ q, q < n → kd q = 0) ∧ (0 < c → (∀ q, q < B 0 → kd q = 0) ∧ ∀ q, E (c - 1) ≤ q → q < n → kd q = 0)
def gzNu (f : Nat → Nat) (a v : Nat) : Nat → Nat := fun k => if k = a then v else f k
theorem gzNu_at {f : Nat → Nat} {a v : Nat} : gzNu f a v a = v := if_pos rfl
theorem gzNu_ne {f : Nat → Nat} {a v k : Nat} (h : k ≠ a) : gzNu f a v k = f k := if_neg h
section
variable {I I' I2 X M : gzIT} {J : gzJT} {w : Nat → Int32} {nf ng nl nx t t1 φ n c : Nat} {kd bt B E : Nat → Nat}
theorem gzTks_blank (h : gzTks kd n c B E) (hk : kd n = 0) : gzTks kd (n + 1) c B E := by
  obtain ⟨h1, h2, h3, h4, h5⟩ := h
  refine ⟨by omega, fun j hj => ?_, h3, fun e q hq => ?_, fun e => ⟨(h5 e).1, fun q a b => ?_⟩⟩
  · obtain ⟨a, b, c', d, e⟩ := h2 j hj
    exact ⟨a, by omega, c', d, e⟩
  · by_cases z : q = n
    · rw [z]; exact hk
    · exact h4 e q (by omega)
  · by_cases z : q = n
    · rw [z]; exact hk
    · exact (h5 e).2 q a (by omega)
theorem gzTks_ext (h : gzTks kd n c B E) (hc : 0 < c) (he : E (c - 1) = n) (hk : kd n = kd (B (c - 1))) (h3' : kd n ≠ 3) : gzTks kd (n + 1) c B (gzNu E (c - 1) (n + 1)) := by
  obtain ⟨h1, h2, h3, h4, h5⟩ := h
  refine ⟨by omega, fun j hj => ?_, fun j hj => ?_, fun e => by omega, fun e => ⟨(h5 e).1, fun q a b => ?_⟩⟩
  · obtain ⟨a, b, c', d, e⟩ := h2 j hj
    by_cases z : j = c - 1
    · subst z
      rw [gzNu_at]
      refine ⟨by omega, by omega, c', fun x => absurd (hk.trans x) h3', fun q q1 q2 => ?_⟩
      by_cases y : q = n
      · rw [y]; exact hk
      · exact e q q1 (by omega)
    · rw [gzNu_ne z]
      exact ⟨a, by omega, c', d, e⟩
  · rw [gzNu_ne (by omega)]
    exact h3 j hj
  · rw [gzNu_at] at a
    omega
theorem gzTks_new (h : gzTks kd n c B E) (hk : kd n ≠ 0) (hm : 0 < c → E (c - 1) = n → kd (B (c - 1)) = 3 ∨ kd n ≠ kd (B (c - 1))) : gzTks kd (n + 1) (c + 1) (gzNu B c n) (gzNu E c (n + 1)) := by
  obtain ⟨h1, h2, h3, h4, h5⟩ := h
  refine ⟨by omega, fun j hj => ?_, fun j hj => ?_, fun e => by omega, fun _ => ⟨fun q hq => ?_, fun q a b => ?_⟩⟩
  · by_cases z : j = c
    · subst z
      rw [gzNu_at, gzNu_at]
      exact ⟨by omega, by omega, hk, fun _ => rfl, fun q q1 q2 => by rw [show q = n by omega]⟩
    · obtain ⟨a, b, c', d, e⟩ := h2 j (by omega)
      rw [gzNu_ne z, gzNu_ne z]
      exact ⟨a, by omega, c', d, e⟩
  · by_cases z : j + 1 = c
    · rw [gzNu_ne (show j ≠ c by omega), gzNu_ne (show j ≠ c by omega), z, gzNu_at]
      obtain ⟨a, b, -, -, -⟩ := h2 j (by omega)
      have ej : j = c - 1 := by omega
      refine ⟨by omega, fun x => ?_, fun q q1 q2 => ?_⟩
      · rw [ej] at x ⊢
        exact hm (by omega) x
      · rw [ej] at q1
        exact (h5 (by omega)).2 q q1 q2
    · rw [gzNu_ne (show j ≠ c by omega), gzNu_ne (show j ≠ c by omega), gzNu_ne (show j + 1 ≠ c by omega)]
      exact h3 j (by omega)
  · by_cases z : c = 0
    · rw [z, gzNu_at] at hq
      exact h4 z q hq
    · rw [gzNu_ne (show 0 ≠ c by omega)] at hq
      exact (h5 (by omega)).1 q hq
  · rw [show c + 1 - 1 = c by omega, gzNu_at] at a
    omega
theorem c_byteAt {q : Nat} (hb : I 0 32 q = Int32.ofNat (bt q)) (hq : q < 400) : f_X6_byteAt I (Int32.ofNat q) = some (Int32.ofNat (bt q)) := by
  unfold f_X6_byteAt
  rw [gzc_cell hq (by omega), hb]
  rfl
theorem c_cutL {N : Nat} (hN : N ≤ 400) (hb : ∀ q, q < N → I 0 32 q = Int32.ofNat (bt q) ∧ bt q < 256) : ∀ (m a k c bf : Nat) (M : gzIT) (B E : Nat → Nat), a + m = N → m < k → gzTks (fun q => gzKk (bt q)) a c B E → (a = 0 → bf = 0) → (0 < a → bf = gzKk (bt (a - 1))) → (bf ≠ 0 → 0 < c ∧ E (c - 1) = a ∧ gzKk (bt (B (c - 1))) = bf) → (∀ t o k, ¬ (t = 0 ∧ (o = 35 ∨ o = 36 ∨ (o = 33 ∧ k = 3))) → M t o k = I t o k) → M 0 33 3 = Int32.ofNat c → (∀ j, j < c → M 0 35 j = Int32.ofNat (B j) ∧ M 0 36 j = Int32.ofNat (E j)) → ∃ (c' : Nat) (M' : gzIT) (B' E' : Nat → Nat), f_X7_cut_10 φ k (Int32.ofNat N) (Int32.ofNat bf) (Int32.ofNat a) M J = some ((), M', J) ∧ gzTks (fun q => gzKk (bt q)) N c' B' E' ∧ (∀ t o k, ¬ (t = 0 ∧ (o = 35 ∨ o = 36 ∨ (o = 33 ∧ k = 3))) → M' t o k = I t o k) ∧ M' 0 33 3 = Int32.ofNat c' ∧ (∀ j, j < c' → M' 0 35 j = Int32.ofNat (B' j) ∧ M' 0 36 j = Int32.ofNat (E' j)) := by
  intro m
  induction m with
  | zero =>
    intro a k c bf M B E ha hk hT _ _ _ hM h3 hj
    obtain ⟨k, rfl⟩ : ∃ q, k = q + 1 := ⟨k - 1, by omega⟩
    refine ⟨c, M, B, E, ?_, by rw [show N = a by omega]; exact hT, hM, h3, hj⟩
    rw [f_X7_cut_10, if_pos (by rw [gzn_le (by omega) (by omega)]; omega)]
  | succ m ih =>
    intro a k c bf M B E ha hk hT hb0 hb1 hbf hM h3 hj
    obtain ⟨k, rfl⟩ : ∃ q, k = q + 1 := ⟨k - 1, by omega⟩
    obtain ⟨hba, hb256⟩ := hb a (by omega)
    obtain ⟨hk1, hk4⟩ := gz_kind (bt a) hb256
    obtain ⟨K, eK⟩ : ∃ K, K = gzKk (bt a) := ⟨_, rfl⟩
    rw [← eK] at hk1 hk4
    have hbf4 : bf < 4 := by
      by_cases z : a = 0
      · rw [hb0 z]; omega
      · rw [hb1 (by omega)]; exact (gz_kind (bt (a - 1)) (hb (a - 1) (by omega)).2).2
    have hca : c ≤ a := hT.1
    -- the loop goes on from a memory
    have go87 : ∀ (c2 : Nat) (M2 : gzIT) (B2 E2 : Nat → Nat), K ≠ 0 → 0 < c2 → c2 ≤ a + 1 → gzTks (fun q => gzKk (bt q)) (a + 1) c2 B2 (gzNu E2 (c2 - 1) (a + 1)) → gzKk (bt (B2 (c2 - 1))) = K → (∀ t o k, ¬ (t = 0 ∧ (o = 35 ∨ o = 36 ∨ (o = 33 ∧ k = 3))) → M2 t o k = I t o k) → M2 0 33 3 = Int32.ofNat c2 → (∀ j, j < c2 → M2 0 35 j = Int32.ofNat (B2 j)) → (∀ j, j + 1 < c2 → M2 0 36 j = Int32.ofNat (E2 j)) → ∃ (c' : Nat) (M' : gzIT) (B' E' : Nat → Nat), f_X7_cut_87 φ (f_X7_cut_10 φ k) (Int32.ofNat N) (Int32.ofNat a) (Int32.ofNat K) M2 J = some ((), M', J) ∧ gzTks (fun q => gzKk (bt q)) N c' B' E' ∧ (∀ t o k, ¬ (t = 0 ∧ (o = 35 ∨ o = 36 ∨ (o = 33 ∧ k = 3))) → M' t o k = I t o k) ∧ M' 0 33 3 = Int32.ofNat c' ∧ (∀ j, j < c' → M' 0 35 j = Int32.ofNat (B' j) ∧ M' 0 36 j = Int32.ofNat (E' j)) := by
      intro c2 M2 B2 E2 hK0 hc2 hc2a hT2 hkB hM2 h32 h35 h36
      obtain ⟨M3, eM3⟩ : ∃ M3, M3 = gz_ui M2 0 36 (c2 - 1) (Int32.ofNat (a + 1)) := ⟨_, rfl⟩
      have M3n : ∀ t o k, ¬ (t = 0 ∧ o = 36 ∧ k = c2 - 1) → M3 t o k = M2 t o k := fun t o k q => by rw [eM3]; exact if_neg q
      have M3s : M3 0 36 (c2 - 1) = Int32.ofNat (a + 1) := by rw [eM3]; exact gz_ui_s
      obtain ⟨c', M', B', E', i1, i2, i3, i4, i5⟩ := ih (a + 1) k c2 K M3 B2 (gzNu E2 (c2 - 1) (a + 1)) (by omega) (by omega) hT2 (by omega) (fun _ => by rw [show a + 1 - 1 = a by omega]; exact eK) (fun _ => ⟨hc2, by rw [gzNu_at], hkB⟩) (fun t o k q => (M3n t o k (by omega)).trans (hM2 t o k q)) ((M3n 0 33 3 (by omega)).trans h32) (fun j hj => by
        refine ⟨(M3n 0 35 j (by omega)).trans (h35 j hj), ?_⟩
        by_cases z : j = c2 - 1
        · rw [z, M3s, gzNu_at]
        · rw [M3n 0 36 j (by omega), gzNu_ne z]
          exact h36 j (by omega))
      refine ⟨c', M', B', E', ?_, i2, i3, i4, i5⟩
      unfold f_X7_cut_87
      rw [if_neg (by rw [gzc_eq2 (by omega) (by omega)]; exact hK0), h32, show Int32.ofNat c2 - 1 = Int32.ofNat (c2 - 1) from gzc_sub (k := 1) (show 1 ≤ c2 by omega), gzn_succ, gzc_write (by omega) (by omega), ← eM3]
      simp only [Option.bind_some]
      exact i1
    have fresh : K ≠ 0 → (K ≠ bf ∨ K = 3) → ∃ (c' : Nat) (M' : gzIT) (B' E' : Nat → Nat), f_X7_cut_43 φ (f_X7_cut_10 φ k) (Int32.ofNat N) (Int32.ofNat a) (Int32.ofNat K) M J = some ((), M', J) ∧ gzTks (fun q => gzKk (bt q)) N c' B' E' ∧ (∀ t o k, ¬ (t = 0 ∧ (o = 35 ∨ o = 36 ∨ (o = 33 ∧ k = 3))) → M' t o k = I t o k) ∧ M' 0 33 3 = Int32.ofNat c' ∧ (∀ j, j < c' → M' 0 35 j = Int32.ofNat (B' j) ∧ M' 0 36 j = Int32.ofNat (E' j)) := by
      intro hK0 hnew
      obtain ⟨M2, eM2⟩ : ∃ M2, M2 = gz_ui (gz_ui M 0 35 c (Int32.ofNat a)) 0 33 3 (Int32.ofNat (c + 1)) := ⟨_, rfl⟩
      have M2n : ∀ t o k, ¬ (t = 0 ∧ o = 35 ∧ k = c) → ¬ (t = 0 ∧ o = 33 ∧ k = 3) → M2 t o k = M t o k := fun t o k q1 q2 => by rw [eM2]; exact (if_neg q2).trans (if_neg q1)
      have M2s : M2 0 35 c = Int32.ofNat a := by rw [eM2]; exact (if_neg (by omega)).trans gz_ui_s
      have M23 : M2 0 33 3 = Int32.ofNat (c + 1) := by rw [eM2]; exact gz_ui_s
      have hTn := gzTks_new hT (show gzKk (bt a) ≠ 0 by rw [← eK]; exact hK0) (fun hc0 hE => by
        show gzKk (bt (B (c - 1))) = 3 ∨ gzKk (bt a) ≠ gzKk (bt (B (c - 1)))
        rw [← eK]
        by_cases z : bf = 0
        · exfalso
          obtain ⟨g1, g2, -, -, g5⟩ := hT.2.1 (c - 1) (by omega)
          have hap : 0 < a := by omega
          have hbz := hb1 hap
          have hin := g5 (a - 1) (by omega) (by omega)
          have hne := hT.2.1 (c - 1) (by omega)
          have : gzKk (bt (a - 1)) = gzKk (bt (B (c - 1))) := hin
          have h0 := hne.2.2.1
          apply h0
          show gzKk (bt (B (c - 1))) = 0
          rw [← this, ← hbz, z]
        · obtain ⟨-, -, g3⟩ := hbf z
          rw [g3]
          rcases hnew with y | y
          · exact Or.inr y
          · by_cases y2 : bf = 3
            · exact Or.inl y2
            · exact Or.inr (by omega))
      obtain ⟨c', M', B', E', i1, i2⟩ := go87 (c + 1) M2 (gzNu B c a) E hK0 (by omega) (by omega) (by rw [show c + 1 - 1 = c by omega]; exact hTn) (by rw [show c + 1 - 1 = c by omega, gzNu_at]; exact eK.symm) (fun t o k q => (M2n t o k (by omega) (by omega)).trans (hM t o k q)) M23 (fun j hj2 => by
        by_cases z : j = c
        · rw [z, M2s, gzNu_at]
        · rw [M2n 0 35 j (by omega) (by omega), gzNu_ne z]
          exact (hj j (by omega)).1) (fun j hj2 => (M2n 0 36 j (by omega) (by omega)).trans (hj j (by omega)).2)
      refine ⟨c', M', B', E', ?_, i2⟩
      unfold f_X7_cut_43
      rw [if_neg (by rw [gzc_eq2 (by omega) (by omega)]; exact hK0), if_neg (by simp), h3, if_neg (by rw [gzc_le1 (by omega) (by omega)]; omega), gzGd_in (by omega) (by omega), gzn_clamp (by omega), gzn_succ, ← eM2]
      exact i1
    have blank : K = 0 → ∃ (c' : Nat) (M' : gzIT) (B' E' : Nat → Nat), f_X7_cut_87 φ (f_X7_cut_10 φ k) (Int32.ofNat N) (Int32.ofNat a) (Int32.ofNat K) M J = some ((), M', J) ∧ gzTks (fun q => gzKk (bt q)) N c' B' E' ∧ (∀ t o k, ¬ (t = 0 ∧ (o = 35 ∨ o = 36 ∨ (o = 33 ∧ k = 3))) → M' t o k = I t o k) ∧ M' 0 33 3 = Int32.ofNat c' ∧ (∀ j, j < c' → M' 0 35 j = Int32.ofNat (B' j) ∧ M' 0 36 j = Int32.ofNat (E' j)) := by
      intro hK0
      obtain ⟨c', M', B', E', i1, i2⟩ := ih (a + 1) k c K M B E (by omega) (by omega) (gzTks_blank hT (show gzKk (bt a) = 0 by rw [← eK]; exact hK0)) (by omega) (fun _ => by rw [show a + 1 - 1 = a by omega]; exact eK) (fun z => absurd hK0 z) hM h3 hj
      refine ⟨c', M', B', E', ?_, i2⟩
      unfold f_X7_cut_87
      rw [if_pos (by rw [hK0]; rfl), gzn_succ]
      exact i1
    have hstep : f_X7_cut_10 φ (k + 1) (Int32.ofNat N) (Int32.ofNat bf) (Int32.ofNat a) M J = if ¬ K = bf then f_X7_cut_43 φ (f_X7_cut_10 φ k) (Int32.ofNat N) (Int32.ofNat a) (Int32.ofNat K) M J else if K = 3 then f_X7_cut_43 φ (f_X7_cut_10 φ k) (Int32.ofNat N) (Int32.ofNat a) (Int32.ofNat K) M J else f_X7_cut_87 φ (f_X7_cut_10 φ k) (Int32.ofNat N) (Int32.ofNat a) (Int32.ofNat K) M J := by
      rw [f_X7_cut_10, if_neg (by rw [gzn_le (by omega) (by omega)]; omega), c_byteAt (bt := bt) ((hM 0 32 a (by omega)).trans hba) (by omega)]
      simp only [Option.bind_some]
      rw [hk1]
      simp only [Option.bind_some]
      have i3 : (Int32.ofNat K = 3) = (K = 3) := propext ⟨fun q => (gzc_eq2 (by omega) (by omega)).1 q, fun q => by rw [q]; rfl⟩
      have i0 : (Int32.ofNat K = 0) = (K = 0) := propext ⟨fun q => (gzc_eq2 (by omega) (by omega)).1 q, fun q => by rw [q]; rfl⟩
      have ib : (Int32.ofNat K = Int32.ofNat bf) = (K = bf) := propext (gzn_inj (by omega) (by omega))
      simp only [i3, i0, ib]
      by_cases z : K = bf
      · rw [if_neg (show ¬ ¬ K = bf from fun y => y z), if_neg (show ¬ ¬ K = bf from fun y => y z)]
        by_cases z3 : K = 3
        · rw [if_pos z3, if_pos z3]
        · rw [if_neg z3, if_neg z3]
          by_cases z0 : K = 0
          · rw [if_pos z0]
          · rw [if_neg z0, if_pos (by decide)]
      · simp only [z, not_false_eq_true, if_true]
    have h43b : K = 0 → f_X7_cut_43 φ (f_X7_cut_10 φ k) (Int32.ofNat N) (Int32.ofNat a) (Int32.ofNat K) M J = f_X7_cut_87 φ (f_X7_cut_10 φ k) (Int32.ofNat N) (Int32.ofNat a) (Int32.ofNat K) M J := fun z => by
      unfold f_X7_cut_43
      rw [if_pos (by rw [z]; rfl)]
    rw [hstep]
    by_cases z : K = bf
    · rw [if_neg (fun y => y z)]
      by_cases z3 : K = 3
      · rw [if_pos z3]
        exact fresh (by omega) (Or.inr z3)
      · rw [if_neg z3]
        by_cases z0 : K = 0
        · exact blank z0
        · obtain ⟨g1, g2, g3⟩ := hbf (by omega)
          have hTe := gzTks_ext hT g1 g2 (show gzKk (bt a) = gzKk (bt (B (c - 1))) by rw [← eK, g3]; exact z) (show gzKk (bt a) ≠ 3 by rw [← eK]; exact z3)
          exact go87 c M B E z0 g1 (by omega) hTe (by rw [g3]; exact z.symm) hM h3 (fun j hj2 => (hj j hj2).1) (fun j hj2 => (hj j (by omega)).2)
    · rw [if_pos z]
      by_cases z0 : K = 0
      · rw [h43b z0]; exact blank z0
      · exact fresh z0 (Or.inl z)
end
