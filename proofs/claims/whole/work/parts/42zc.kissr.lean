/-! kisses -/
section
variable {I I' I2 X M : gzIT} {J : gzJT} {w : Nat → Int32} {nf ng nl nx t t1 φ N : Nat} {K : Nat → Nat → Bool} {p : Nat → Nat} {B0 : Nat → Int32}
/-- what two of a set would make of it -/
theorem m_kissBy {s : Nat} (hX : gzVi M w nf ng) (hK : ∀ f, f < nf → ∀ o, o < nf → gzB (gzNr w ng f) o = !K f o) (hpr : ∀ f, f < nf → w (30 + 4 * f) = Int32.ofNat (p f)) (hs : 0 < s) (hs2 : s < 2 ^ nf) (hT : ∀ u, u < s → M 0 56 u = Int32.ofNat (gzTb nf K p B0 u)) (hφ : 10 < φ) : f_X12_kissingBy φ M (Int32.ofNat s) (-1) = some (Int32.ofNat (gzGp nf K p B0 (nf - gzLo s - 1) (gzWm s)).1) ∧ ∀ o, o < nf → f_X12_kissingBy φ M (Int32.ofNat s) (Int32.ofNat o) = some (if gzLo s < o ∧ gzWm s o = -1 ∧ K (gzLo s) o = true then Int32.ofNat (p (gzLo s) + p o + (gzGp nf K p B0 (nf - gzLo s - 1) (gzUp (gzUp (gzWm s) (gzLo s) (Int32.ofNat o)) o (Int32.ofNat (gzLo s)))).1) else -1) := by
  have h3 := hX.2.1.1.2.2.1
  have h4 := hX.2.1.1.2.2.2
  have h64 : 2 ^ nf ≤ 64 := (Nat.pow_le_pow_right (n := 2) (by decide) h3 : 2 ^ nf ≤ 2 ^ 6)
  obtain ⟨l1, l2, l3, l4⟩ := gz_low s (by omega) hs
  obtain ⟨t1, t2, t3, t4, t5, t6, t7, t8⟩ := gzTb_s (N := nf) (K := K) (p := p) (B0 := B0) h3 hs hs2
  obtain ⟨f, ef⟩ : ∃ f, f = gzLo s := ⟨_, rfl⟩
  rw [← ef] at l1 l2 l3 l4 t1 t2 t3 t4 t5 t6 t7 t8 ⊢
  obtain ⟨m1, -, -⟩ := gz_mb s (by omega) f l2 l3
  have hpos : 0 < 2 ^ f := Nat.two_pow_pos f
  have hd1 : s - 2 ^ f < s := Nat.sub_lt hs hpos
  refine ⟨?_, fun o ho => ?_⟩
  · unfold f_X12_kissingBy
    rw [l1]
    simp only [Option.bind_some]
    rw [if_neg (by simp), m1, gzGd_in (by omega) (by omega), gzn_clamp (by omega), hT _ (by omega), t6]
  · have hne : ¬ Int32.ofNat o = -1 := fun z => (gzc_m1 (by omega)).mp z
    have hb : gzB (Int32.ofNat (s - 2 ^ f)) o = (s.testBit o && !(o == f)) := by rw [gz_tb _ (by omega) o (by omega), t5 o (by omega)]
    unfold f_X12_kissingBy
    rw [l1]
    simp only [Option.bind_some]
    rw [if_pos hne, m1, m_has (by omega), hb]
    simp only [Option.bind_some]
    by_cases c1 : s.testBit o = true ∧ o ≠ f
    · have hbt : (s.testBit o && !(o == f)) = true := by
        rw [c1.1, Bool.true_and]
        have : (o == f) = false := by rw [beq_eq_false_iff_ne]; exact c1.2
        rw [this]; rfl
      have hfo : f < o := by
        apply Nat.lt_of_not_le
        intro z
        have := l4 o (by omega) (by omega)
        rw [this] at c1
        cases c1.1
      rw [hbt, if_neg (by decide), m_standing hX hφ]
      simp only [Option.bind_some]
      rw [m_quarrelsOf hX (by omega) hφ, gzNr_m h4]
      simp only [Option.bind_some]
      rw [m_has (by omega), hK f t1 o ho]
      simp only [Option.bind_some]
      by_cases c2 : K f o = true
      · obtain ⟨u1, u2, u3, u4, -⟩ := t8 o hfo ho c1.1
        obtain ⟨m2, -, -⟩ := gz_mb (s - 2 ^ f) (by omega) o (by omega) u1
        have hpo : 0 < 2 ^ o := Nat.two_pow_pos o
        have hd2 : s - 2 ^ f - 2 ^ o ≤ s - 2 ^ f := Nat.sub_le _ _
        rw [c2, if_pos (by decide), if_pos ⟨hfo, gzWm_i.mpr c1.1, rfl⟩, m_ofFamily0 hX t1, m_ofFamily0 hX ho]
        simp only [Option.bind_some]
        rw [m2, gzGd_in (by omega) (by omega), gzn_clamp (by omega), hT _ (by omega), u3, hpr f t1, hpr o ho, gzc_adds, gzc_adds]
      · have c2' : K f o = false := by simpa using c2
        rw [c2', if_neg (by decide), if_neg (fun z => by cases z.2.2)]
    · have hbf : (s.testBit o && !(o == f)) = false := by
        by_cases d1 : s.testBit o = true
        · have : o = f := Classical.byContradiction fun z => c1 ⟨d1, z⟩
          rw [this]; simp
        · have d1' : s.testBit o = false := by simpa using d1
          rw [d1']; rfl
      rw [hbf, if_pos (by decide), if_neg]
      rintro ⟨z1, z2, -⟩
      rw [gzWm_i] at z2
      exact c1 ⟨z2, by omega⟩
/-- the value of a set by the candidates -/
theorem gzTb_max {s : Nat} (hN : N ≤ 6) (hs : 0 < s) (hs2 : s < 2 ^ N) : gzFo (fun x o => if gzLo s < o ∧ gzWm s o = -1 ∧ K (gzLo s) o = true then (if x < p (gzLo s) + p o + (gzGp N K p B0 (N - gzLo s - 1) (gzUp (gzUp (gzWm s) (gzLo s) (Int32.ofNat o)) o (Int32.ofNat (gzLo s)))).1 then p (gzLo s) + p o + (gzGp N K p B0 (N - gzLo s - 1) (gzUp (gzUp (gzWm s) (gzLo s) (Int32.ofNat o)) o (Int32.ofNat (gzLo s)))).1 else x) else x) 0 N (gzGp N K p B0 (N - gzLo s - 1) (gzWm s)).1 = gzTb N K p B0 s := by
  obtain ⟨t1, t2, -⟩ := gzTb_s (N := N) (K := K) (p := p) (B0 := B0) hN hs hs2
  obtain ⟨f, ef⟩ : ∃ f, f = gzLo s := ⟨_, rfl⟩
  rw [← ef] at t1 t2 ⊢
  obtain ⟨m, em⟩ : ∃ m, m = N - f - 1 := ⟨_, rfl⟩
  rw [← em] at t2 ⊢
  have e0 := gzFo_add (f := fun (x : Nat) o => if f < o ∧ gzWm s o = -1 ∧ K f o = true then (if x < p f + p o + (gzGp N K p B0 m (gzUp (gzUp (gzWm s) f (Int32.ofNat o)) o (Int32.ofNat f))).1 then p f + p o + (gzGp N K p B0 m (gzUp (gzUp (gzWm s) f (Int32.ofNat o)) o (Int32.ofNat f))).1 else x) else x) (f + 1) 0 m (gzGp N K p B0 m (gzWm s)).1
  rw [show f + 1 + m = N by omega, gzFo_id (f + 1) 0 _ (fun x j h1 h2 => if_neg (fun z => by omega)), Nat.zero_add] at e0
  rw [e0]
  unfold gzTb
  rw [t2]
  unfold gzGf
  have key := gzFo_rel2 (R := fun (x : Nat) (s : Nat × (Nat → Int32)) => x = s.1) (f := fun (x : Nat) o => if f < o ∧ gzWm s o = -1 ∧ K f o = true then (if x < p f + p o + (gzGp N K p B0 m (gzUp (gzUp (gzWm s) f (Int32.ofNat o)) o (Int32.ofNat f))).1 then p f + p o + (gzGp N K p B0 m (gzUp (gzUp (gzWm s) f (Int32.ofNat o)) o (Int32.ofNat f))).1 else x) else x) (g := fun (s' : Nat × (Nat → Int32)) o => if gzWm s o = -1 ∧ K f o = true then (if s'.1 < p f + p o + (gzGp N K p B0 m (gzUp (gzUp (gzWm s) f (Int32.ofNat o)) o (Int32.ofNat f))).1 then (p f + p o + (gzGp N K p B0 m (gzUp (gzUp (gzWm s) f (Int32.ofNat o)) o (Int32.ofNat f))).1, (gzGp N K p B0 m (gzUp (gzUp (gzWm s) f (Int32.ofNat o)) o (Int32.ofNat f))).2) else s') else s') m (f + 1) (gzGp N K p B0 m (gzWm s)).1 (gzGp N K p B0 m (gzWm s)) (fun x s' o h1 h2 hx => by
    show (if f < o ∧ gzWm s o = -1 ∧ K f o = true then _ else x) = (if gzWm s o = -1 ∧ K f o = true then _ else s').1
    by_cases c : gzWm s o = -1 ∧ K f o = true
    · rw [if_pos ⟨by omega, c⟩, if_pos c, hx]
      by_cases d : s'.1 < p f + p o + (gzGp N K p B0 m (gzUp (gzUp (gzWm s) f (Int32.ofNat o)) o (Int32.ofNat f))).1
      · rw [if_pos d, if_pos d]
      · rw [if_neg d, if_neg d]
    · rw [if_neg (fun z => c z.2), if_neg c]
      exact hx) rfl
  exact key
theorem gzTb_b (hp : ∀ f, p f ≤ 9) (hN : N ≤ 6) (s : Nat) : gzTb N K p B0 s ≤ 108 := by
  have := (gzGp_b (N := N) (K := K) (B0 := B0) hp N (gzWm s)).1
  unfold gzTb
  omega
/-- the table -/
theorem m_lays (hX : gzVi X w nf ng) (hK : ∀ f, f < nf → ∀ o, o < nf → gzB (gzNr w ng f) o = !K f o) (hpr : ∀ f, f < nf → w (30 + 4 * f) = Int32.ofNat (p f)) (hp : ∀ f, p f ≤ 9) (hφ : 100 < φ) : ∃ T : Nat → Int32, (∀ u, u < 2 ^ nf → T u = Int32.ofNat (gzTb nf K p B0 u)) ∧ ∀ J : gzJT, f_X12_laysKissing φ X J = some ((), gz_uw X 0 56 T, J) := by
  have h3 := hX.2.1.1.2.2.1
  have h64 : 2 ^ nf ≤ 64 := (Nat.pow_le_pow_right (n := 2) (by decide) h3 : 2 ^ nf ≤ 2 ^ 6)
  have hpos : 0 < 2 ^ nf := Nat.two_pow_pos nf
  have vi : ∀ T : Nat → Int32, gzVi (gz_uw X 0 56 T) w nf ng := fun T => gzVi_eq hX (fun k _ => by rw [gz_uw_ne (by omega)])
  have key : ∀ (m s k : Nat) (T : Nat → Int32), s + m = 2 ^ nf → 0 < s → m < k → (∀ u, u < s → T u = Int32.ofNat (gzTb nf K p B0 u)) → ∃ T' : Nat → Int32, (∀ u, u < 2 ^ nf → T' u = Int32.ofNat (gzTb nf K p B0 u)) ∧ ∀ J : gzJT, f_X12_laysKissing_9 φ k (Int32.ofNat s) (gz_uw X 0 56 T) J = some ((), gz_uw X 0 56 T', J) := by
    intro m
    induction m with
    | zero =>
      intro s k T hs hs0 hk hT
      obtain ⟨k, rfl⟩ : ∃ q, k = q + 1 := ⟨k - 1, by omega⟩
      refine ⟨T, fun u hu => hT u (by omega), fun J => ?_⟩
      rw [f_X12_laysKissing_9, m_all (vi T)]
      simp only [Option.bind_some]
      rw [if_pos (by rw [gzn_lt (by omega) (by omega)]; omega)]
    | succ m ih =>
      intro s k T hs hs0 hk hT
      obtain ⟨k, rfl⟩ : ∃ q, k = q + 1 := ⟨k - 1, by omega⟩
      obtain ⟨T', i1, i2⟩ := ih (s + 1) k (gzUp T s (Int32.ofNat (gzTb nf K p B0 s))) (by omega) (by omega) (by omega) (fun u hu => by
        by_cases e : u = s
        · rw [e, gzUp_at]
        · rw [gzUp_ne e]; exact hT u (by omega))
      refine ⟨T', i1, fun J => ?_⟩
      obtain ⟨kb1, kb2⟩ := m_kissBy (φ := φ) (B0 := B0) (vi T) hK hpr hs0 (by omega) (fun u hu => by rw [gz_uw_eq]; exact hT u hu) (by omega)
      rw [f_X12_laysKissing_9, m_all (vi T)]
      simp only [Option.bind_some]
      rw [if_neg (by rw [gzn_lt (by omega) (by omega)]; omega)]
      obtain ⟨φ', hφ'⟩ : ∃ φ', φ = φ' + 1 := ⟨φ - 1, by omega⟩
      have bnd : ∀ W m, (gzGp nf K p B0 m W).1 ≤ 18 * m := fun W m => (gzGp_b hp m W).1
      obtain ⟨v0, ev0⟩ : ∃ v0, v0 = (gzGp nf K p B0 (nf - gzLo s - 1) (gzWm s)).1 := ⟨_, rfl⟩
      have hv0 : v0 ≤ 200 := by rw [ev0]; have := bnd (gzWm s) (nf - gzLo s - 1); omega
      have first : f_X12_laysKissing_21 φ (f_X12_laysKissing_9 φ k) φ (Int32.ofNat s) 0 (-1) (gz_uw X 0 56 T) J = f_X12_laysKissing_21 φ (f_X12_laysKissing_9 φ k) φ' (Int32.ofNat s) (Int32.ofNat v0) (Int32.ofNat 0) (gz_uw X 0 56 T) J := by
        conv => lhs; rw [hφ']
        rw [f_X12_laysKissing_21]
        rw [← hφ', m_families (vi T)]
        simp only [Option.bind_some]
        rw [if_neg (by rw [gzc_gem1 (by omega)]; exact id), kb1, ← ev0]
        simp only [Option.bind_some]
        have e : (if (0 : Int32) < Int32.ofNat v0 then Int32.ofNat v0 else 0) = Int32.ofNat v0 := by
          by_cases z : v0 = 0
          · rw [z]; rfl
          · rw [if_pos (by rw [gzc_lt1 (by omega) (by omega)]; omega)]
        rw [e]
        rfl
      rw [first]
      have hval : ∀ o, p (gzLo s) + p o + (gzGp nf K p B0 (nf - gzLo s - 1) (gzUp (gzUp (gzWm s) (gzLo s) (Int32.ofNat o)) o (Int32.ofNat (gzLo s)))).1 ≤ 200 := fun o => by
        have h1 := hp (gzLo s)
        have h2 := hp o
        have h5 := bnd (gzUp (gzUp (gzWm s) (gzLo s) (Int32.ofNat o)) o (Int32.ofNat (gzLo s))) (nf - gzLo s - 1)
        omega
      have lp := gz_loopp (F := fun k2 (x : Int32) i => f_X12_laysKissing_21 φ (f_X12_laysKissing_9 φ k) k2 (Int32.ofNat s) x i (gz_uw X 0 56 T) J) (n := nf) (c := fun x : Nat => Int32.ofNat x) (step := fun x o => if gzLo s < o ∧ gzWm s o = -1 ∧ K (gzLo s) o = true then (if x < p (gzLo s) + p o + (gzGp nf K p B0 (nf - gzLo s - 1) (gzUp (gzUp (gzWm s) (gzLo s) (Int32.ofNat o)) o (Int32.ofNat (gzLo s)))).1 then p (gzLo s) + p o + (gzGp nf K p B0 (nf - gzLo s - 1) (gzUp (gzUp (gzWm s) (gzLo s) (Int32.ofNat o)) o (Int32.ofNat (gzLo s)))).1 else x) else x) (out := fun x => f_X12_laysKissing_9 φ k (Int32.ofNat s + 1) (gz_uw X 0 56 (gzUp T s (Int32.ofNat x))) J) (p := fun _ x => x ≤ 200) ?_ ?_ nf 0 φ' v0 hv0 (by omega) (by omega)
      · rw [ev0, gzTb_max h3 hs0 (by omega)] at lp
        rw [ev0]
        refine lp.trans ?_
        rw [gzn_succ]
        exact i2 J
      · intro k2 x o ho hx
        have hx' : x ≤ 200 := hx
        have hv := hval o
        obtain ⟨V, eV⟩ : ∃ V, V = p (gzLo s) + p o + (gzGp nf K p B0 (nf - gzLo s - 1) (gzUp (gzUp (gzWm s) (gzLo s) (Int32.ofNat o)) o (Int32.ofNat (gzLo s)))).1 := ⟨_, rfl⟩
        have hk2 := kb2 o ho
        rw [← eV] at hv hk2 ⊢
        have hle : ∀ y : Nat, y ≤ 200 → (if gzLo s < o ∧ gzWm s o = -1 ∧ K (gzLo s) o = true then (if y < V then V else y) else y) ≤ 200 := fun y hy => by
          split
          · split <;> omega
          · exact hy
        refine ⟨?_, hle x hx'⟩
        show f_X12_laysKissing_21 φ (f_X12_laysKissing_9 φ k) (k2 + 1) (Int32.ofNat s) (Int32.ofNat x) (Int32.ofNat o) (gz_uw X 0 56 T) J = f_X12_laysKissing_21 φ (f_X12_laysKissing_9 φ k) k2 (Int32.ofNat s) (Int32.ofNat (if gzLo s < o ∧ gzWm s o = -1 ∧ K (gzLo s) o = true then (if x < V then V else x) else x)) (Int32.ofNat (o + 1)) (gz_uw X 0 56 T) J
        rw [f_X12_laysKissing_21, m_families (vi T)]
        simp only [Option.bind_some]
        rw [if_neg (by rw [gzn_le (by omega) (by omega)]; omega), hk2, gzn_succ]
        simp only [Option.bind_some]
        by_cases c : gzLo s < o ∧ gzWm s o = -1 ∧ K (gzLo s) o = true
        · rw [if_pos c, if_pos c]
          by_cases d : x < V
          · rw [if_pos d, if_pos (by rw [gzn_lt (by omega) (by omega)]; exact d)]
          · rw [if_neg d, if_neg (by rw [gzn_lt (by omega) (by omega)]; exact d)]
        · rw [if_neg c, if_neg c, if_neg]
          intro z
          have z' := Int32.lt_iff_toInt_lt.mp z
          rw [gzn_int (by omega)] at z'
          have : (-1 : Int32).toInt = -1 := rfl
          omega
      · intro k2 x hx
        show f_X12_laysKissing_21 φ (f_X12_laysKissing_9 φ k) (k2 + 1) (Int32.ofNat s) (Int32.ofNat x) (Int32.ofNat nf) (gz_uw X 0 56 T) J = _
        rw [f_X12_laysKissing_21, m_families (vi T)]
        simp only [Option.bind_some]
        rw [if_pos (by rw [gzn_le (by omega) (by omega)]; omega), gzGd_in (by omega) (by omega), gzn_clamp (by omega), gz_uwi]
  have start : gz_ui X 0 56 0 0 = gz_uw X 0 56 (gzUp (X 0 56) 0 0) := by
    have := gz_uwi (I := X) (t := 0) (o := 56) (k := 0) (f := X 0 56) (v := 0)
    rw [gz_uw_same rfl] at this
    exact this
  obtain ⟨T, h1, h2⟩ := key (2 ^ nf - 1) 1 φ (gzUp (X 0 56) 0 0) (by omega) (by omega) (by omega) (fun u hu => by
    rw [show u = 0 by omega, gzUp_at, gzTb_0]; rfl)
  refine ⟨T, h1, fun J => ?_⟩
  unfold f_X12_laysKissing
  rw [start]
  exact h2 J
end
