/-! kisses: who with whom -/
section
variable {I I' I2 X M : gzIT} {J : gzJT} {w : Nat → Int32} {nf ng nl nx t t1 φ N : Nat} {K : Nat → Nat → Bool} {p : Nat → Nat} {B0 : Nat → Int32}
theorem m_who {a : Nat} (hX : gzVi M w nf ng) (hK : ∀ f, f < nf → ∀ o, o < nf → gzB (gzNr w ng f) o = !K f o) (hpr : ∀ f, f < nf → w (30 + 4 * f) = Int32.ofNat (p f)) (hp : ∀ f, p f ≤ 9) (hT : ∀ u, u < 2 ^ nf → M 0 56 u = Int32.ofNat (gzTb nf K p B0 u)) (ha : a < nf) (hφ : 100 < φ) : ∀ (s k : Nat) (x3 : Int32), s < k → s < 2 ^ nf → s.testBit a = true → f_X12_kisses_62 φ k (Int32.ofNat a) (Int32.ofNat s) x3 0 M J = some ((gzGp nf K p B0 nf (gzWm s)).2 a, M, J) := by
  have h3 := hX.2.1.1.2.2.1
  have h64 : 2 ^ nf ≤ 64 := (Nat.pow_le_pow_right (n := 2) (by decide) h3 : 2 ^ nf ≤ 2 ^ 6)
  intro s
  induction s using Nat.strongRecOn with
  | ind s ih =>
    intro k x3 hk hs2 hsa
    obtain ⟨k, rfl⟩ : ∃ q, k = q + 1 := ⟨k - 1, by omega⟩
    have hs : 0 < s := by
      rcases Nat.eq_zero_or_pos s with e | e
      · rw [e, Nat.zero_testBit] at hsa; cases hsa
      · exact e
    have hk0 : 0 < k := by omega
    obtain ⟨l1, l2, l3, l4⟩ := gz_low s (by omega) hs
    obtain ⟨t1, t2, t3, t4, t5, t6, t7, t8⟩ := gzTb_s (N := nf) (K := K) (p := p) (B0 := B0) h3 hs hs2
    obtain ⟨kb1, kb2⟩ := m_kissBy (φ := φ) (B0 := B0) hX hK hpr hs hs2 (fun u hu => hT u (by omega)) (by omega)
    obtain ⟨f, ef⟩ : ∃ f, f = gzLo s := ⟨_, rfl⟩
    rw [← ef] at l1 l2 l3 l4 t1 t2 t3 t4 t5 t6 t7 t8 kb1 kb2
    obtain ⟨m, em⟩ : ∃ m, m = nf - f - 1 := ⟨_, rfl⟩
    rw [← em] at t2 t6 t7 t8 kb1 kb2
    obtain ⟨m1, -, -⟩ := gz_mb s (by omega) f l2 l3
    have hpos : 0 < 2 ^ f := Nat.two_pow_pos f
    have hd1 : s - 2 ^ f < s := Nat.sub_lt hs hpos
    have htab : M 0 56 s = Int32.ofNat (gzGp nf K p B0 nf (gzWm s)).1 := hT s hs2
    have hfa : f ≤ a := by
      apply Nat.le_of_not_lt
      intro z
      have := l4 a (by omega) z
      rw [this] at hsa; cases hsa
    have bnd : ∀ W, (gzGp nf K p B0 m W).1 ≤ 200 := fun W => by
      have := (gzGp_b (N := nf) (K := K) (B0 := B0) hp m W).1
      omega
    have stop : ∀ (x2 y : Int32), f_X12_kisses_62 φ k (Int32.ofNat a) x2 y 1 M J = some (y, M, J) := fun x2 y => by
      obtain ⟨k', rfl⟩ : ∃ q, k = q + 1 := ⟨k - 1, by omega⟩
      rw [f_X12_kisses_62, if_pos (by decide)]
    have hWf : gzWm s f = -1 := gzWm_i.mpr l3
    have ena : ∀ x : Nat, x < 6 → ¬ Int32.ofNat x = -1 := fun x hx z => (gzc_m1 (by omega)).mp z
    rw [f_X12_kisses_62, if_neg (by simp), l1]
    simp only [Option.bind_some]
    obtain ⟨r, er⟩ : ∃ r, r = gzGp nf K p B0 nf (gzWm s) := ⟨_, rfl⟩
    have harg := gzFo_arg (α := Nat → Int32) (c := fun o => gzWm s o = -1 ∧ K f o = true) (v := fun o => p f + p o + (gzGp nf K p B0 m (gzUp (gzUp (gzWm s) f (Int32.ofNat o)) o (Int32.ofNat f))).1) (L := fun o => (gzGp nf K p B0 m (gzUp (gzUp (gzWm s) f (Int32.ofNat o)) o (Int32.ofNat f))).2) (i := f + 1) (s := gzGp nf K p B0 m (gzWm s)) m
    obtain ⟨-, -, h3'⟩ := harg
    have t2' : gzFo (fun (s' : Nat × (Nat → Int32)) o => if gzWm s o = -1 ∧ K f o = true then (if s'.1 < p f + p o + (gzGp nf K p B0 m (gzUp (gzUp (gzWm s) f (Int32.ofNat o)) o (Int32.ofNat f))).1 then (p f + p o + (gzGp nf K p B0 m (gzUp (gzUp (gzWm s) f (Int32.ofNat o)) o (Int32.ofNat f))).1, (gzGp nf K p B0 m (gzUp (gzUp (gzWm s) f (Int32.ofNat o)) o (Int32.ofNat f))).2) else s') else s') (f + 1) m (gzGp nf K p B0 m (gzWm s)) = gzGp nf K p B0 nf (gzWm s) := t2.symm
    rw [t2'] at h3'
    obtain ⟨φ', hφ'⟩ : ∃ φ', φ = φ' + 1 := ⟨φ - 1, by omega⟩
    rcases h3' with h0 | ⟨o, a1, a2, a3, a4, a5, a6⟩
    · -- unpaired
      have e76 : f_X12_kisses_76 φ (f_X12_kisses_62 φ k) φ (Int32.ofNat a) (Int32.ofNat s) (Int32.ofNat f) (-1) M J = if Int32.ofNat f = Int32.ofNat a then f_X12_kisses_110 φ (f_X12_kisses_62 φ k) (Int32.ofNat a) (Int32.ofNat s) (Int32.ofNat f) (-1) M J else f_X12_kisses_62 φ k (Int32.ofNat a) (Int32.ofNat s &&& (((1 : Int32) <<< (Int32.ofNat f &&& 31)) ^^^ (-1))) (if ¬ Int32.ofNat f = Int32.ofNat a then Int32.ofNat f else -1) (if ¬ (-1 : Int32) = Int32.ofNat a then (0 : Int32) else 1) M J := by
        conv => lhs; rw [hφ']
        rw [f_X12_kisses_76, ← hφ', kb1]
        simp only [Option.bind_some]
        rw [gzGd_in (by omega) (by omega), gzn_clamp (by omega), htab, h0, if_pos rfl]
        by_cases z : Int32.ofNat f = Int32.ofNat a
        · rw [if_pos z, if_pos z]
        · rw [if_neg z, if_neg z, if_neg (by simp)]
      rw [e76, h0]
      by_cases z : f = a
      · rw [if_pos (by rw [z])]
        unfold f_X12_kisses_110
        rw [if_neg (by simp), if_neg (by rw [z]; simp), stop, gzGp_keep h3 m (gzWm s) a (by omega) (by omega) (Or.inl (by omega)), ← z, hWf]
      · have hz : ¬ Int32.ofNat f = Int32.ofNat a := by rw [gzn_inj (by omega) (by omega)]; exact z
        have hma : ¬ (-1 : Int32) = Int32.ofNat a := fun q => ena a (by omega) q.symm
        rw [if_neg hz, if_pos hz, if_pos hma, m1, ih (s - 2 ^ f) hd1 k _ (by omega) t3 (by
          rw [t5 a (by omega), hsa]
          have : (a == f) = false := by rw [beq_eq_false_iff_ne]; omega
          rw [this]; rfl), t7 a ha (by omega) hsa]
    · -- with o
      have ho6 : o < 6 := by omega
      have hob : s.testBit o = true := gzWm_i.mp a3.1
      obtain ⟨u1, u2, u3, u4, u5⟩ := t8 o (by omega) (by omega) hob
      obtain ⟨m2, -, -⟩ := gz_mb (s - 2 ^ f) (by omega) o ho6 u1
      have hd2 : s - 2 ^ f - 2 ^ o ≤ s - 2 ^ f := Nat.sub_le _ _
      obtain ⟨V, eV⟩ : ∃ V, V = p f + p o + (gzGp nf K p B0 m (gzUp (gzUp (gzWm s) f (Int32.ofNat o)) o (Int32.ofNat f))).1 := ⟨_, rfl⟩
      have hV : V ≤ 300 := by
        have b1 := hp f
        have b2 := hp o
        have b3 := bnd (gzUp (gzUp (gzWm s) f (Int32.ofNat o)) o (Int32.ofNat f))
        omega
      have a4' : gzGp nf K p B0 nf (gzWm s) = (V, (gzGp nf K p B0 m (gzUp (gzUp (gzWm s) f (Int32.ofNat o)) o (Int32.ofNat f))).2) := by rw [a4, eV]
      have htab2 : M 0 56 s = Int32.ofNat V := by rw [htab, a4']
      have step : ∀ (kk : Nat) (x6 : Int32) (v : Int32), f_X12_kissingBy φ M (Int32.ofNat s) x6 = some v → ¬ v = Int32.ofNat V → f_X12_kisses_76 φ (f_X12_kisses_62 φ k) (kk + 1) (Int32.ofNat a) (Int32.ofNat s) (Int32.ofNat f) x6 M J = f_X12_kisses_76 φ (f_X12_kisses_62 φ k) kk (Int32.ofNat a) (Int32.ofNat s) (Int32.ofNat f) (x6 + 1) M J := fun kk x6 v h1 h2 => by
        rw [f_X12_kisses_76, h1]
        simp only [Option.bind_some]
        rw [gzGd_in (by omega) (by omega), gzn_clamp (by omega), htab2, if_neg h2]
      have scan : ∀ (d i kk : Nat), i + d = o → d < kk → ∃ k2, f_X12_kisses_76 φ (f_X12_kisses_62 φ k) kk (Int32.ofNat a) (Int32.ofNat s) (Int32.ofNat f) (Int32.ofNat i) M J = f_X12_kisses_76 φ (f_X12_kisses_62 φ k) (k2 + 1) (Int32.ofNat a) (Int32.ofNat s) (Int32.ofNat f) (Int32.ofNat o) M J := by
        intro d
        induction d with
        | zero =>
          intro i kk hi hkk
          exact ⟨kk - 1, by rw [show kk - 1 + 1 = kk by omega, show i = o by omega]⟩
        | succ d ihd =>
          intro i kk hi hkk
          obtain ⟨kk, rfl⟩ : ∃ q, kk = q + 1 := ⟨kk - 1, by omega⟩
          obtain ⟨k2, hk2⟩ := ihd (i + 1) kk (by omega) (by omega)
          refine ⟨k2, ?_⟩
          rw [step kk (Int32.ofNat i) _ (kb2 i (by omega)) ?_, gzn_succ]
          · exact hk2
          · by_cases c : f < i ∧ gzWm s i = -1 ∧ K f i = true
            · rw [if_pos c, gzn_inj (by
                have b1 := hp f
                have b2 := hp i
                have b3 := bnd (gzUp (gzUp (gzWm s) f (Int32.ofNat i)) i (Int32.ofNat f))
                omega) (by omega)]
              have := a6 i (by omega) (by omega) c.2
              omega
            · rw [if_neg c]
              exact fun q => (gzc_m1' (by omega)).mp q
      have e0 : f_X12_kisses_76 φ (f_X12_kisses_62 φ k) φ (Int32.ofNat a) (Int32.ofNat s) (Int32.ofNat f) (-1) M J = f_X12_kisses_76 φ (f_X12_kisses_62 φ k) φ' (Int32.ofNat a) (Int32.ofNat s) (Int32.ofNat f) (Int32.ofNat 0) M J := by
        have e := step φ' (-1) _ kb1 (by
          rw [gzn_inj (by have := bnd (gzWm s); omega) (by omega)]
          omega)
        rw [← hφ', show (-1 : Int32) + 1 = Int32.ofNat 0 from rfl] at e
        exact e
      obtain ⟨k2, hk2⟩ := scan o 0 φ' (by omega) (by omega)
      have hkb := kb2 o (by omega)
      rw [if_pos ⟨by omega, a3.1, a3.2⟩, ← eV] at hkb
      have hone : ¬ Int32.ofNat o = -1 := ena o ho6
      rw [e0, hk2, f_X12_kisses_76, hkb]
      simp only [Option.bind_some]
      rw [gzGd_in (by omega) (by omega), gzn_clamp (by omega), htab2, if_pos rfl, a4']
      have ho_f : ¬ o = f := by omega
      by_cases z : f = a
      · rw [if_pos (by rw [z])]
        unfold f_X12_kisses_110
        rw [if_pos hone, if_neg (by rw [z]; simp), stop]
        show _ = some ((gzGp nf K p B0 m (gzUp (gzUp (gzWm s) f (Int32.ofNat o)) o (Int32.ofNat f))).2 a, M, J)
        rw [gzGp_keep h3 m _ a (by omega) (by omega) (Or.inl (by omega)), ← z, gzUp_ne (by omega), gzUp_at]
      · have hz : ¬ Int32.ofNat f = Int32.ofNat a := by rw [gzn_inj (by omega) (by omega)]; exact z
        rw [if_neg hz, if_pos hone, if_pos hz]
        by_cases y : o = a
        · rw [if_neg (by rw [y]; simp), stop]
          show _ = some ((gzGp nf K p B0 m (gzUp (gzUp (gzWm s) f (Int32.ofNat o)) o (Int32.ofNat f))).2 a, M, J)
          have hW2 : gzUp (gzUp (gzWm s) f (Int32.ofNat o)) o (Int32.ofNat f) a = Int32.ofNat f := by rw [← y, gzUp_at]
          rw [gzGp_keep h3 m _ a (by omega) (by omega) (Or.inr (by rw [hW2]; exact ena f (by omega))), hW2]
        · have hy : ¬ Int32.ofNat o = Int32.ofNat a := by rw [gzn_inj (by omega) (by omega)]; exact y
          rw [if_pos hy, m1, m2, ih (s - 2 ^ f - 2 ^ o) (by omega) k _ (by omega) (by omega) (by
            rw [u4 a (by omega), hsa]
            have b1 : (a == f) = false := by rw [beq_eq_false_iff_ne]; omega
            have b2 : (a == o) = false := by rw [beq_eq_false_iff_ne]; omega
            rw [b1, b2]; rfl), u5 a ha (by omega) (by omega) hsa]
theorem L_kisses (p0 : Int32) (h : gzR I I) : ∃ e I1, f_X11_kisses 4096 p0 I J = some (e, I1, J) ∧ (∀ E, e = .error E → ∃ k : Nat, (["java/lang/IndexOutOfBoundsException"] : List String)[k]? = some E) ∧ ∀ J' : gzJT, ∃ v I2 J2, f_X12_kisses 4096 p0 I1 J' = some (v, I2, J2) ∧ gzSame e ["java/lang/IndexOutOfBoundsException"] v (I2 0 47 0) ∧ J2 0 59 0 = J' 0 59 0 ∧ gzR I2 I2 := by
  obtain ⟨nf, ng, nl, nx, hT0, hx, c, b, m⟩ := gzR_go h
  obtain ⟨φ, hφ⟩ : ∃ φ, φ = 4096 := ⟨_, rfl⟩
  rw [← hφ]
  have n3 := c.1.2.2.1
  have n4 := c.1.2.2.2
  have h64 : 2 ^ nf ≤ 64 := (Nat.pow_le_pow_right (n := 2) (by decide) n3 : 2 ^ nf ≤ 2 ^ 6)
  have hpos : 0 < 2 ^ nf := Nat.two_pow_pos nf
  obtain ⟨M1, eM1⟩ : ∃ M1, M1 = gzSp I nf (S_near (I 0 48) ng (fun g => !tH (I 0 48) g && !gzB 0 g)) (S_onw (I 0 48) ng (fun g => !tH (I 0 48) g && !gzB 0 g)) := ⟨_, rfl⟩
  have hspin : f_X10_spin φ 0 0 I J = some ((), M1, J) := by
    rw [eM1]
    exact c_spin2 c b (by omega)
  have M1n : ∀ t o k, ¬ (41 ≤ o ∧ o ≤ 43) → M1 t o k = I t o k := fun t o k q => by rw [eM1]; exact gzSp_o q
  obtain ⟨K, eK⟩ : ∃ K : Nat → Nat → Bool, K = fun f o => !gzB (gzNr (I 0 48) ng f) o := ⟨_, rfl⟩
  obtain ⟨p, ep⟩ : ∃ p : Nat → Nat, p = fun f => if f < nf then (I 0 48 (30 + 4 * f)).toNatClampNeg else 0 := ⟨_, rfl⟩
  have hpr : ∀ f, f < nf → I 0 48 (30 + 4 * f) = Int32.ofNat (p f) ∧ p f ≤ 9 := fun f hf => by
    have b9 := (hx.2.1 f hf).1
    obtain ⟨x, hx2, ex⟩ := gzn_of b9.1
    rw [ex, gzn_int hx2] at b9
    have e : p f = x := by rw [ep]; show (if f < nf then (I 0 48 (30 + 4 * f)).toNatClampNeg else 0) = x; rw [if_pos hf, ex, gzn_clamp hx2]
    rw [e]
    exact ⟨ex, by omega⟩
  have hp9 : ∀ f, p f ≤ 9 := fun f => by
    by_cases q : f < nf
    · exact (hpr f q).2
    · rw [ep]; show (if f < nf then _ else 0) ≤ 9; rw [if_neg q]; omega
  have hKc : ∀ f, f < nf → ∀ o, o < nf → gzB (M1 0 42 f) o = !K f o := fun f hf o ho => by
    rw [eM1, gzSp_nr (by omega), show S_near (I 0 48) ng (fun g => !tH (I 0 48) g && !gzB 0 g) f = gzNr (I 0 48) ng f from gzNr_c, eK]
    simp
  have hKm : ∀ f, f < nf → ∀ o, o < nf → gzB (gzNr (I 0 48) ng f) o = !K f o := fun f hf o ho => by
    rw [eK]; simp
  obtain ⟨W, hW, hfp⟩ := c_findPairs (J := J) (φ := φ) (I := M1) (N := nf) (K := K) (p := p) (by rw [eM1]; exact gzSp_n) n3 hKc (fun f hf => by rw [M1n 0 2 f (by omega), c.2.2.2.2.2.2.2.2.1 f hf]; exact (hpr f hf).1) hp9 (by omega)
  obtain ⟨C, eC⟩ : ∃ C, C = gzCM M1 W ((gzGp nf K p (M1 0 45) nf W).1 + 1, (gzGp nf K p (M1 0 45) nf W).2) := ⟨_, rfl⟩
  rw [← eC] at hfp
  have Cn : ∀ t o k, ¬ (41 ≤ o ∧ o ≤ 45) → C t o k = I t o k := fun t o k q => by
    rw [eC, gzCM_o (by omega)]
    exact M1n t o k (by omega)
  have C6 : C 0 41 6 = Int32.ofNat (gzGp nf K p (M1 0 45) nf W).1 := by
    rw [eC, gzCM_6]
    exact gzc_sub (k := 1) (show 1 ≤ (gzGp nf K p (M1 0 45) nf W).1 + 1 by omega)
  have C45 : ∀ k, C 0 45 k = (gzGp nf K p (M1 0 45) nf W).2 k := fun k => by
    rw [eC]
    unfold gzCM
    rw [if_neg (by omega), if_pos ⟨rfl, rfl⟩]
  have hX : gzVi (gz_ui C 0 47 0 0) (I 0 48) nf ng := gzVi_eq (m 0) (fun k hk => (if_neg (by omega)).trans ((Cn 0 48 k (by omega)).trans (if_neg (by omega)).symm))
  obtain ⟨T, hT1, hT2⟩ := m_lays (φ := φ) (B0 := M1 0 45) hX hKm (fun f hf => (hpr f hf).1) hp9 (by omega)
  obtain ⟨M, eM⟩ : ∃ M, M = gz_uw (gz_ui C 0 47 0 0) 0 56 T := ⟨_, rfl⟩
  have hXM : gzVi M (I 0 48) nf ng := gzVi_eq hX (fun k _ => by rw [eM, gz_uw_ne (by omega)])
  have hTM : ∀ u, u < 2 ^ nf → M 0 56 u = Int32.ofNat (gzTb nf K p (M1 0 45) u) := fun u hu => by rw [eM, gz_uw_eq]; exact hT1 u hu
  have hcong := gzGp_cong (K := K) (p := p) (B0 := M1 0 45) n3 nf W (gzWm (2 ^ nf - 1)) (Nat.le_refl _) (fun j h1 h2 => by
    rw [gzWm_i, gz_allb nf (by omega) j h2]
    exact ⟨fun _ => rfl, fun _ => hW j (by omega)⟩)
  have hR : gzR M M := by
    refine gzR_scr h fun t o k q => ?_
    have h1 : ¬ (41 ≤ o ∧ o ≤ 45) := fun e => q (by unfold gzCs gzMw; omega)
    have h2 : ¬ (o = 56) := fun e => q (by unfold gzCs gzMw; omega)
    have h3 : ¬ (t = 0 ∧ o = 47 ∧ k = 0) := fun e => q (by unfold gzCs gzMw; omega)
    rw [eM, gz_uw_ne (by omega)]
    exact (if_neg h3).trans (Cn t o k h1)
  have h47 : M 0 47 0 = 0 := by
    rw [eM, gz_uw_ne (by omega)]
    exact gz_ui_s
  have cls10 : f_X11_kisses_10 φ p0 I J = if ¬ p0 = -1 then gzGd p0 6 (some (.ok (C 0 45 p0.toNatClampNeg), C, J)) else some (.ok (C 0 41 6), C, J) := by
    unfold f_X11_kisses_10
    rw [hspin]
    simp only [Option.bind_some]
    rw [hfp]
    rfl
  by_cases q : p0 = -1
  · refine ⟨.ok (Int32.ofNat (gzGp nf K p (M1 0 45) nf W).1), C, ?_, fun E hE => (by cases hE), fun J' => ⟨Int32.ofNat (gzGp nf K p (M1 0 45) nf W).1, M, J', ?_, ⟨rfl, h47⟩, rfl, hR⟩⟩
    · unfold f_X11_kisses
      rw [if_pos q, cls10, if_neg (fun z => z q), C6]
    · unfold f_X12_kisses
      rw [if_pos q, s_throws0]
      simp only [Option.bind_some, if_true]
      rw [hT2 J', ← eM]
      simp only [Option.bind_some]
      rw [if_neg (fun z => z q), m_all hXM]
      simp only [Option.bind_some]
      rw [gzGd_in (by omega) (by omega), gzn_clamp (by omega), hTM _ (by omega), hcong.1]
      rfl
  · rcases p_fam (a := p0) (J := J) c (m 0) with ⟨⟨k, hk, rfl⟩, e1, e2⟩ | ⟨e1, e2⟩
    · refine ⟨.ok ((gzGp nf K p (M1 0 45) nf W).2 k), C, ?_, fun E hE => (by cases hE), fun J' => ⟨(gzGp nf K p (M1 0 45) nf W).2 k, M, J', ?_, ⟨rfl, h47⟩, rfl, hR⟩⟩
      · unfold f_X11_kisses
        rw [if_neg q, e1]
        simp only [Option.bind_some, gzEx]
        rw [cls10, if_pos q, gzGd_in (by omega) (by omega), gzn_clamp (by omega), C45]
      · have hwho := m_who (J := J') (φ := φ) (B0 := M1 0 45) hXM hKm (fun f hf => (hpr f hf).1) hp9 hTM hk (by omega) (2 ^ nf - 1) φ (-1) (by omega) (by omega) (gz_allb nf (by omega) k hk)
        unfold f_X12_kisses
        rw [if_neg q, m_noFa hX hk]
        simp only [Option.bind_some]
        rw [if_pos (by simp), s_throws0]
        simp only [Option.bind_some, if_true]
        rw [hT2 J', ← eM]
        simp only [Option.bind_some]
        rw [if_pos q, m_all hXM]
        simp only [Option.bind_some]
        rw [hwho, hcong.2 k (by omega) hk (hW k (by omega))]
    · refine ⟨.error "java/lang/IndexOutOfBoundsException", I, ?_, fun E hE => ⟨0, by cases hE; rfl⟩, fun J' => ⟨0, gz_ui (gz_ui I 0 47 0 0) 0 47 0 1, J', ?_, ⟨0, rfl, gz_ui_s⟩, rfl, gzR_thr2 h⟩⟩
      · unfold f_X11_kisses
        rw [if_neg q, e1]
        rfl
      · unfold f_X12_kisses
        rw [if_neg q, e2]
        simp only [Option.bind_some]
        rw [if_neg (by decide), s_throws1]
        rfl
end
