/-! the amounts of the law; what the class tells it -/
section
variable {I I' I2 X T Ic Im M : gzIT} {J : gzJT} {w w2 v : Nat → Int32} {nf ng nl nx nl2 nx2 t t1 φ : Nat}
theorem r_holds {g l b e : Nat} (f h : Nat → Int32) (hm : gzVi Im w nf ng) (hg : g < ng) (h4 : 0 ≤ (w 4).toInt) (h6 : w 6 = 0 ∨ w 6 = 1) (hv : ∀ i, i < 849 → Im 0 48 (364 + i) = v i) (hval : ∀ c, c < 11 → Ic 0 26 c = gzFc w ng g c) (hl : l < 12) (he : e ≤ 400) (hbe : b ≤ e) (hvb : v (3 + 4 * l) = Int32.ofNat b) (hve : v (4 + 4 * l) = Int32.ofNat e) (hcd : ∀ i, b ≤ i → i < e → gzCd (Ic 0 25 i) (v (49 + 2 * i)) (v (50 + 2 * i))) (hsh : b = e ∨ gzSh v b (e - b) [] = some [true]) (hφ : 500 < φ) : ∃ r f' h', f_X2_holds φ 0 (Int32.ofNat b) (Int32.ofNat e) (gz_uw Ic 0 27 f) J = some (r, gz_uw Ic 0 27 f', J) ∧ ∀ J' : gzJT, f_X12_holdsLine φ (Int32.ofNat l) (Int32.ofNat g) (gz_uw Im 0 55 h) J' = some (r, gz_uw Im 0 55 h', J') := by
  have rm : ∀ (h : Nat → Int32), gz_uw Im 0 55 h 0 48 = Im 0 48 := fun h => gz_uw_ne (by omega)
  have hst : gz_uw Im 0 55 h 0 48 (365 + 4 * l + 2) = Int32.ofNat b := by
    rw [rm, show 365 + 4 * l + 2 = 364 + (3 + 4 * l) by omega, hv _ (by omega), hvb]
  have hen : gz_uw Im 0 55 h 0 48 (365 + 4 * l + 3) = Int32.ofNat e := by
    rw [rm, show 365 + 4 * l + 3 = 364 + (4 + 4 * l) by omega, hv _ (by omega), hve]
  have hml : ∀ J' : gzJT, f_X12_holdsLine φ (Int32.ofNat l) (Int32.ofNat g) (gz_uw Im 0 55 h) J' = f_X12_holdsLine_22 φ φ (Int32.ofNat g) 0 (Int32.ofNat (365 + 4 * l)) (Int32.ofNat b) (gz_uw Im 0 55 h) J' := fun J' => by
    unfold f_X12_holdsLine
    rw [gzc_mul, gzc_add', gzc_add, gzGd_in (by omega) (by omega), gzn_clamp (by omega), hst]
  rcases hsh with hsh | hsh
  · obtain ⟨q, hq⟩ : ∃ q, φ = q + 1 := ⟨φ - 1, by omega⟩
    refine ⟨1, f, h, ?_, fun J' => ?_⟩
    · unfold f_X2_holds
      rw [hq, f_X2_holds_5, if_pos (by rw [gzn_le (by omega) (by omega)]; omega), if_pos (by decide)]
    · rw [hml, hq, f_X12_holdsLine_22, gzc_add, gzGd_in (by omega) (by omega), gzn_clamp (by omega), hen, if_pos (by rw [gzn_le (by omega) (by omega)]; omega), if_pos rfl]
  · obtain ⟨r, f', h', p1, p2⟩ := r_eval (J := J) (φ := φ) hm hg h4 h6 hv hval hl he hve hcd (by omega) (e - b) b φ φ [] f h (Nat.le_refl _) (by omega) hsh (fun j hj => absurd hj (Nat.not_lt_zero _)) trivial (by omega) (by omega)
    exact ⟨r, f', h', p1, fun J' => (hml J').trans (p2 J')⟩
theorem r_sum {g kd nL nC : Nat} {x : Int32} (hm : gzVi Im w nf ng) (hg : g < ng) (h4 : 0 ≤ (w 4).toInt) (h6 : w 6 = 0 ∨ w 6 = 1) (hv : ∀ i, i < 849 → Im 0 48 (364 + i) = v i) (hval : ∀ c, c < 11 → Ic 0 26 c = gzFc w ng g c) (hnl : nL ≤ 12) (hnc : nC ≤ 400) (e1 : Ic 0 20 7 = Int32.ofNat nL) (e2 : v 0 = Int32.ofNat nL) (hall : ∀ l, l < nL → ∃ kd b e : Nat, kd < 3 ∧ b ≤ e ∧ e ≤ nC ∧ Ic 0 21 l = Int32.ofNat (1023 + kd) ∧ v (1 + 4 * l) = Int32.ofNat kd ∧ Ic 0 22 l = v (2 + 4 * l) ∧ (0 ≤ (v (2 + 4 * l)).toInt ∧ (v (2 + 4 * l)).toInt ≤ 100) ∧ Ic 0 23 l = Int32.ofNat b ∧ v (3 + 4 * l) = Int32.ofNat b ∧ Ic 0 24 l = Int32.ofNat e ∧ v (4 + 4 * l) = Int32.ofNat e ∧ (∀ i, b ≤ i → i < e → gzCd (Ic 0 25 i) (v (49 + 2 * i)) (v (50 + 2 * i))) ∧ (b = e ∨ gzSh v b (e - b) [] = some [true])) (hkd : kd < 3) (hφ : 500 < φ) :
    ∀ (m l k k' s : Nat) (f h : Nat → Int32), l + m = nL → s ≤ 100 * l → m < k → m < k' → ∃ r f' h', r ≤ 100 * nL ∧ f_X2_sum_4 φ 0 k (Int32.ofNat (1023 + kd)) (Int32.ofNat s) (Int32.ofNat l) (gz_uw Ic 0 27 f) J = some (Int32.ofNat r, gz_uw Ic 0 27 f', J) ∧ ∀ (y : Int32) (J' : gzJT), y = x + Int32.ofNat s → f_X12_byLaw_62 φ k' (Int32.ofNat kd) (Int32.ofNat g) y (Int32.ofNat l) (gz_uw Im 0 55 h) J' = some (x + Int32.ofNat r, gz_uw Im 0 55 h', J') := by
  have rm : ∀ (h : Nat → Int32), gz_uw Im 0 55 h 0 48 = Im 0 48 := fun h => gz_uw_ne (by omega)
  have rc : ∀ (f : Nat → Int32) (o : Nat), o ≠ 27 → gz_uw Ic 0 27 f 0 o = Ic 0 o := fun f o ho => gz_uw_ne (by omega)
  have r364 : ∀ (h : Nat → Int32), gz_uw Im 0 55 h 0 48 364 = Int32.ofNat nL := fun h => by
    rw [rm]
    exact (hv 0 (by omega)).trans e2
  intro m
  induction m with
  | zero =>
    intro l k k' s f h hl hs hk hk'
    obtain ⟨k, rfl⟩ : ∃ q, k = q + 1 := ⟨k - 1, by omega⟩
    obtain ⟨k', rfl⟩ : ∃ q, k' = q + 1 := ⟨k' - 1, by omega⟩
    refine ⟨s, f, h, by omega, ?_, fun y J' hy => ?_⟩
    · rw [f_X2_sum_4, rc f 20 (by omega), e1, if_pos (by rw [gzn_le (by omega) (by omega)]; omega)]
    · rw [f_X12_byLaw_62, r364, if_pos (by rw [gzn_le (by omega) (by omega)]; omega), hy]
  | succ m ih =>
    intro l k k' s f h hl hs hk hk'
    obtain ⟨k, rfl⟩ : ∃ q, k = q + 1 := ⟨k - 1, by omega⟩
    obtain ⟨k', rfl⟩ : ∃ q, k' = q + 1 := ⟨k' - 1, by omega⟩
    obtain ⟨kd2, b, e, a1, a2, a3, a4, a5, a6, a7, a8, a9, a10, a11, a12, a13⟩ := hall l (by omega)
    obtain ⟨am, ham, eam⟩ := gzn_of a7.1
    rw [eam, gzn_int ham] at a7
    have rk : ∀ (h : Nat → Int32), gz_uw Im 0 55 h 0 48 (365 + 4 * l) = Int32.ofNat kd2 := fun h => by
      rw [rm, show 365 + 4 * l = 364 + (1 + 4 * l) by omega, hv _ (by omega), a5]
    have ra : ∀ (h : Nat → Int32), gz_uw Im 0 55 h 0 48 (365 + 4 * l + 1) = Int32.ofNat am := fun h => by
      rw [rm, show 365 + 4 * l + 1 = 364 + (2 + 4 * l) by omega, hv _ (by omega), eam]
    have nle : ¬ Int32.ofNat nL ≤ Int32.ofNat l := by rw [gzn_le (by omega) (by omega)]; omega
    by_cases q : kd2 = kd
    · obtain ⟨r, f1, h1, p1, p2⟩ := r_holds (J := J) (φ := φ) f h hm hg h4 h6 hv hval (by omega) (by omega) a2 a9 a11 a12 a13 hφ
      by_cases qr : r = 0
      · obtain ⟨r2, f2, h2, g1, g2, g3⟩ := ih (l + 1) k k' s f1 h1 (by omega) (by omega) (by omega) (by omega)
        refine ⟨r2, f2, h2, g1, ?_, fun y J' hy => ?_⟩
        · rw [f_X2_sum_4, rc f 20 (by omega), e1, if_neg nle, if_neg (by rw [gzc_le1 (by omega) (by omega)]; omega), gzGd_in (by omega) (by omega), gzn_clamp (by omega), rc f 21 (by omega), a4, if_neg (fun x => x (by rw [q])), rc f 23 (by omega), rc f 24 (by omega), a8, a10, p1]
          simp only [Option.bind_some]
          rw [if_pos qr, gzn_succ]
          exact g2
        · rw [f_X12_byLaw_62, r364, if_neg nle, gzc_mul, gzc_add', gzGd_in (by omega) (by omega), gzn_clamp (by omega), rk, if_neg (fun x => x (by rw [q])), p2 J']
          simp only [Option.bind_some]
          rw [if_pos qr, gzn_succ]
          exact g3 y J' hy
      · obtain ⟨r2, f2, h2, g1, g2, g3⟩ := ih (l + 1) k k' (s + am) f1 h1 (by omega) (by omega) (by omega) (by omega)
        refine ⟨r2, f2, h2, g1, ?_, fun y J' hy => ?_⟩
        · rw [f_X2_sum_4, rc f 20 (by omega), e1, if_neg nle, if_neg (by rw [gzc_le1 (by omega) (by omega)]; omega), gzGd_in (by omega) (by omega), gzn_clamp (by omega), rc f 21 (by omega), a4, if_neg (fun x => x (by rw [q])), rc f 23 (by omega), rc f 24 (by omega), a8, a10, p1]
          simp only [Option.bind_some]
          rw [if_neg qr, rc f1 22 (by omega), a6, eam, gzc_adds, gzn_succ]
          exact g2
        · rw [f_X12_byLaw_62, r364, if_neg nle, gzc_mul, gzc_add', gzGd_in (by omega) (by omega), gzn_clamp (by omega), rk, if_neg (fun x => x (by rw [q])), p2 J']
          simp only [Option.bind_some]
          rw [if_neg qr, gzc_add, gzGd_in (by omega) (by omega), gzn_clamp (by omega), ra, gzn_succ]
          exact g3 _ J' (by rw [hy, Int32.add_assoc, gzc_adds])
    · obtain ⟨r2, f2, h2, g1, g2, g3⟩ := ih (l + 1) k k' s f h (by omega) (by omega) (by omega) (by omega)
      refine ⟨r2, f2, h2, g1, ?_, fun y J' hy => ?_⟩
      · rw [f_X2_sum_4, rc f 20 (by omega), e1, if_neg nle, if_neg (by rw [gzc_le1 (by omega) (by omega)]; omega), gzGd_in (by omega) (by omega), gzn_clamp (by omega), rc f 21 (by omega), a4, if_pos (by rw [gzn_inj (by omega) (by omega)]; omega), gzn_succ]
        exact g2
      · rw [f_X12_byLaw_62, r364, if_neg nle, gzc_mul, gzc_add', gzGd_in (by omega) (by omega), gzn_clamp (by omega), rk, if_pos (by rw [gzn_inj (by omega) (by omega)]; omega), gzn_succ]
        exact g3 y J' hy
theorem r_amount {g kd : Nat} (f h : Nat → Int32) (hT : gzTn Ic t w nf ng nl nx) (hx : gzWx w nf ng nl) (hm : gzVi Im w nf ng) (hg : g < ng) (hv : ∀ i, i < 849 → Im 0 48 (364 + i) = v i) (hlaw : gzLw Ic 0 v (w 3)) (hval : Ic 0 20 7 ≠ -1 → ∀ c, c < 11 → Ic 0 26 c = gzFc w ng g c) (hkd : kd < 3) (hφ : 500 < φ) : ∃ r f' h', (kd = 0 → 0 ≤ r.toInt ∧ r.toInt ≤ 9999) ∧ f_X8_amountBy φ t 0 (Int32.ofNat (1023 + kd)) (Int32.ofNat g) (gz_uw Ic 0 27 f) J = some (r, gz_uw Ic 0 27 f', J) ∧ ∀ J' : gzJT, f_X12_byLaw φ (Int32.ofNat kd) (Int32.ofNat g) (gz_uw Im 0 55 h) J' = some (r, gz_uw Im 0 55 h', J') := by
  have n3 := hT.1.1
  have n4 := hT.1.2.1
  have h4 := hx.1.2.1.1
  have h6 := hx.1.2.2.2.1
  have rm : ∀ (h : Nat → Int32), gz_uw Im 0 55 h 0 48 = Im 0 48 := fun h => gz_uw_ne (by omega)
  have rc : ∀ (f : Nat → Int32) (t' o : Nat), o ≠ 27 → gz_uw Ic 0 27 f t' o = Ic t' o := fun f t' o ho => gz_uw_ne (by omega)
  have vm : ∀ (h : Nat → Int32), gzVi (gz_uw Im 0 55 h) w nf ng := fun h => gzVi_eq hm (fun k _ => by rw [rm])
  have hw3 : gz_uw Im 0 55 h 0 48 3 = w 3 := by rw [rm]; exact hm.1 3 (by omega)
  have hheat : f_X8_heatNow t (gz_uw Ic 0 27 f) = some (gzHt w) := c_heat (by rw [rc f t 0 (by omega)]; exact hT.2.1.2.1) (fun k hk => by rw [rc f t 19 (by omega)]; exact hT.2.2.1 k hk) h4
  have hmheat : f_X12_heatNow (gz_uw Im 0 55 h) = some (gzHt w) := m_heat (vm h) h4
  have vc := gzV_c hT hx.1
  have hS := hm.2.2.2.2.2 g hg
  rcases hlaw with ⟨l1, l2⟩ | ⟨l1, nL, nC, l2, l3, l4, l5, l6⟩
  · have hm1 : gz_uw Ic 0 27 f 0 20 7 = -1 := by rw [rc f 0 20 (by omega)]; exact l2
    rcases (show kd = 0 ∨ kd = 1 ∨ kd = 2 by omega) with rfl | rfl | rfl
    · have b9 := hx.2.2.1 (2 * tS w g) (by omega)
      refine ⟨w (14 + 2 * tS w g) + (if tU w g = true then 5 else 0), f, h, fun _ => ?_, ?_, fun J' => ?_⟩
      · obtain ⟨x, hx2, ex⟩ := gzn_of b9.1
        rw [ex, gzn_int hx2] at b9
        rw [ex]
        cases tU w g
        · rw [if_neg (by decide), Int32.add_zero, gzn_int hx2]; omega
        · rw [if_pos rfl, gzc_add, gzn_int (by omega)]; omega
      · unfold f_X8_amountBy
        rw [if_pos (by decide), hm1, if_pos rfl, if_neg (by decide), if_neg (by rw [gzc_lt0 (by omega)]; exact id), if_pos (by rw [gzc_lt2 (by omega) (by omega)]; omega), gzGd_in (by omega) (by omega), gzn_clamp (by omega), rc f t 10 (by omega), vc.2.2.2.1 g hg, gzc_cell hS (by omega), rc f t 17 (by omega), rc f t 13 (by omega), vc.2.2.2.2.2.2.1 g hg, vc.2.2.2.2.2.2.2.2.2.2.2.2.1 _ hS]
        simp only [Option.bind_some]
        cases tU w g <;> rfl
      · unfold f_X12_byLaw
        rw [hw3, l1, if_neg (fun x => x rfl), if_neg (by decide), m_ofSlight0 (vm h) hg, m_of5 (vm h) hg]
        simp only [Option.bind_some]
        cases tU w g <;> rfl
    · refine ⟨gzHt w, f, h, fun q => by omega, ?_, fun J' => ?_⟩
      · unfold f_X8_amountBy
        rw [if_neg (by decide), hheat]
        simp only [Option.bind_some]
        rw [hm1, if_pos rfl, if_pos (by decide)]
      · unfold f_X12_byLaw
        rw [hw3, l1, if_neg (fun x => x rfl), if_pos (by decide), if_neg (by decide), hmheat]
        rfl
    · refine ⟨0, f, h, fun q => by omega, ?_, fun J' => ?_⟩
      · unfold f_X8_amountBy
        rw [if_pos (by decide), hm1, if_pos rfl, if_pos (by decide)]
      · unfold f_X12_byLaw
        rw [hw3, l1, if_neg (fun x => x rfl), if_pos (by decide), if_pos (by decide)]
  · have hne : Ic 0 20 7 ≠ -1 := by rw [l4]; exact fun q => (gzc_m1 (by omega)).mp q
    have hm1 : ¬ gz_uw Ic 0 27 f 0 20 7 = -1 := by rw [rc f 0 20 (by omega)]; exact hne
    have hw3' : ¬ w 3 = 0 := by rw [l1]; decide
    by_cases k1 : kd = 1
    · subst k1
      obtain ⟨r, f', h', q1, q2, q3⟩ := r_sum (x := gzHt w) (J := J) (φ := φ) hm hg h4 h6 hv (hval hne) l2 l3 l4 l5 l6 (kd := 1) (by omega) hφ nL 0 φ φ 0 f h (by omega) (by omega) (by omega) (by omega)
      refine ⟨gzHt w + Int32.ofNat r, f', h', fun q => by omega, ?_, fun J' => ?_⟩
      · unfold f_X8_amountBy
        rw [if_neg (by decide), hheat]
        simp only [Option.bind_some]
        rw [if_neg hm1]
        unfold f_X2_sum
        rw [show (0 : Int32) = Int32.ofNat 0 from rfl, q2]
        rfl
      · unfold f_X12_byLaw
        rw [hw3, if_pos hw3', if_neg (by decide), hmheat]
        simp only [Option.bind_some]
        exact q3 _ J' (Int32.add_zero _).symm
    · obtain ⟨r, f', h', q1, q2, q3⟩ := r_sum (x := 0) (J := J) (φ := φ) hm hg h4 h6 hv (hval hne) l2 l3 l4 l5 l6 hkd hφ nL 0 φ φ 0 f h (by omega) (by omega) (by omega) (by omega)
      refine ⟨0 + Int32.ofNat r, f', h', fun q => ?_, ?_, fun J' => ?_⟩
      · rw [Int32.zero_add, gzn_int (by omega)]; omega
      · unfold f_X8_amountBy
        rw [if_pos (by rw [gzc_eq2 (by omega) (by omega)]; omega), if_neg hm1]
        unfold f_X2_sum
        rw [show f_X2_sum_4 φ 0 φ (Int32.ofNat (1023 + kd)) 0 0 (gz_uw Ic 0 27 f) J = some (Int32.ofNat r, gz_uw Ic 0 27 f', J) from q2]
        rfl
      · unfold f_X12_byLaw
        rw [hw3, if_pos hw3', if_pos (by rw [gzc_eq2 (by omega) (by omega)]; exact k1)]
        exact q3 _ J' rfl
theorem c_tell {g : Nat} (hT : gzTn M t w nf ng nl nx) (hx : gzWx w nf ng nl) (hg : g < ng) (hφ : 10 < φ) : ∃ F : Nat → Int32, f_X8_tell φ t 0 (Int32.ofNat g) M J = some ((), gz_uw M 0 26 F, J) ∧ (M 0 20 7 ≠ -1 → ∀ c, c < 11 → F c = gzFc w ng g c) := by
  have n3 := hT.1.1
  have n4 := hT.1.2.1
  have h4 := hx.1.2.1.1
  have h6 := hx.1.2.2.2.1
  obtain ⟨-, vb⟩ := gzV_m hT hx.1
  have vc := gzV_c hT hx.1
  have bF := vb.1 g hg
  have bT := vb.2.1 g hg
  have bS := vb.2.2.2 g hg
  unfold f_X8_tell
  by_cases q : M 0 20 7 = -1
  · rw [if_pos q]
    exact ⟨M 0 26, by rw [gz_uw_same rfl], fun x => absurd q x⟩
  · rw [if_neg q, if_neg (by rw [gzc_lt0 (by omega)]; exact id), if_pos (by rw [gzc_lt2 (by omega) (by omega)]; omega), gzn_clamp (by omega)]
    have rd : ∀ (F : Nat → Int32) (t' o : Nat), o ≠ 26 → gz_uw M 0 26 F t' o = M t' o := fun F t' o ho => gz_uw_ne (by omega)
    have wr : ∀ (F : Nat → Int32) (k : Nat) (x : Int32), k < 11 → f_X11_write 0 26 11 (Int32.ofNat k) x (gz_uw M 0 26 F) J = some ((), gz_uw M 0 26 (gzUp F k x), J) := fun F k x hk => by
      rw [gzc_write hk (by omega), gz_uwi]
    have w0 : ∀ (x : Int32), f_X11_write 0 26 11 0 x M J = some ((), gz_uw M 0 26 (gzUp (M 0 26) 0 x), J) := fun x => by
      have := wr (M 0 26) 0 x (by omega)
      rw [gz_uw_same rfl] at this
      exact this
    have w1 : ∀ (F : Nat → Int32) (x : Int32), f_X11_write 0 26 11 1 x (gz_uw M 0 26 F) J = some ((), gz_uw M 0 26 (gzUp F 1 x), J) := fun F x => wr F 1 x (by omega)
    have w2 : ∀ (F : Nat → Int32) (x : Int32), f_X11_write 0 26 11 2 x (gz_uw M 0 26 F) J = some ((), gz_uw M 0 26 (gzUp F 2 x), J) := fun F x => wr F 2 x (by omega)
    have w3 : ∀ (F : Nat → Int32) (x : Int32), f_X11_write 0 26 11 3 x (gz_uw M 0 26 F) J = some ((), gz_uw M 0 26 (gzUp F 3 x), J) := fun F x => wr F 3 x (by omega)
    have w4 : ∀ (F : Nat → Int32) (x : Int32), f_X11_write 0 26 11 4 x (gz_uw M 0 26 F) J = some ((), gz_uw M 0 26 (gzUp F 4 x), J) := fun F x => wr F 4 x (by omega)
    have w5 : ∀ (F : Nat → Int32) (x : Int32), f_X11_write 0 26 11 5 x (gz_uw M 0 26 F) J = some ((), gz_uw M 0 26 (gzUp F 5 x), J) := fun F x => wr F 5 x (by omega)
    have w6 : ∀ (F : Nat → Int32) (x : Int32), f_X11_write 0 26 11 6 x (gz_uw M 0 26 F) J = some ((), gz_uw M 0 26 (gzUp F 6 x), J) := fun F x => wr F 6 x (by omega)
    have w7 : ∀ (F : Nat → Int32) (x : Int32), f_X11_write 0 26 11 7 x (gz_uw M 0 26 F) J = some ((), gz_uw M 0 26 (gzUp F 7 x), J) := fun F x => wr F 7 x (by omega)
    have w8 : ∀ (F : Nat → Int32) (x : Int32), f_X11_write 0 26 11 8 x (gz_uw M 0 26 F) J = some ((), gz_uw M 0 26 (gzUp F 8 x), J) := fun F x => wr F 8 x (by omega)
    have w9 : ∀ (F : Nat → Int32) (x : Int32), f_X11_write 0 26 11 9 x (gz_uw M 0 26 F) J = some ((), gz_uw M 0 26 (gzUp F 9 x), J) := fun F x => wr F 9 x (by omega)
    have w10 : ∀ (F : Nat → Int32) (x : Int32), f_X11_write 0 26 11 10 x (gz_uw M 0 26 F) J = some ((), gz_uw M 0 26 (gzUp F 10 x), J) := fun F x => wr F 10 x (by omega)
    rw [w0]
    simp only [Option.bind_some]
    rw [gzGd_in (by omega) (by omega), rd _ t 11 (by omega), w1]
    simp only [Option.bind_some]
    rw [rd _ t 12 (by omega), w2]
    simp only [Option.bind_some]
    rw [rd _ t 8 (by omega), vc.2.1 g hg, gzc_cell (by omega) (by omega), rd _ t 2 (by omega)]
    simp only [Option.bind_some]
    rw [w3]
    simp only [Option.bind_some]
    rw [rd _ t 10 (by omega), vc.2.2.2.1 g hg, gzc_cell (by omega) (by omega), rd _ t 17 (by omega)]
    simp only [Option.bind_some]
    rw [w4]
    simp only [Option.bind_some]
    rw [rd _ t 10 (by omega), vc.2.2.2.1 g hg, gzc_cell (by omega) (by omega), rd _ t 18 (by omega)]
    simp only [Option.bind_some]
    rw [w5]
    simp only [Option.bind_some]
    have hh : ∀ F : Nat → Int32, f_X8_heatNow t (gz_uw M 0 26 F) = some (gzHt w) := fun F => c_heat (by rw [rd F t 0 (by omega)]; exact hT.2.1.2.1) (fun k hk => by rw [rd F t 19 (by omega)]; exact hT.2.2.1 k hk) h4
    rw [hh]
    simp only [Option.bind_some]
    rw [w6]
    simp only [Option.bind_some]
    rw [rd _ t 0 (by omega), w7]
    simp only [Option.bind_some]
    have h13 : ∀ F : Nat → Int32, (if gz_uw M 0 26 F t 13 g = 0 then (0 : Int32) else 1) = (if M t 13 g = 0 then (0 : Int32) else 1) := fun F => by rw [rd F t 13 (by omega)]
    have h09 : ∀ F : Nat → Int32, (if gz_uw M 0 26 F t 0 9 = 0 then (0 : Int32) else 1) = (if M t 0 9 = 0 then (0 : Int32) else 1) := fun F => by rw [rd F t 0 (by omega)]
    rw [h13, w8]
    simp only [Option.bind_some]
    rw [rd _ t 9 (by omega), rd _ t 8 (by omega), vc.2.1 g hg, vc.2.2.1 g hg]
    have hf : ∀ F : Nat → Int32, ∃ x, f_X1_find φ t (gz_uw M 0 26 F) (Int32.ofNat (tT w g)) (Int32.ofNat (tF w g)) = some x ∧ (if x = -1 then (0 : Int32) else 1) = if gzRv w ng g = true then 1 else 0 := fun F => by
      have hT' : gzTn (gz_uw M 0 26 F) t w nf ng nl nx := gzTn_congr (fun o k h1 h2 => by rw [rd F t o (by omega)]) hT
      rcases c_find (φ := φ) (gzV_c hT' hx.1) vb (a := tT w g) (b := tF w g) (by omega) (by omega) hφ with ⟨e1, e2⟩ | ⟨e1, j, -, hj, -, -, e2⟩
      · refine ⟨_, e2, ?_⟩
        rw [show gzRv w ng g = false from e1]
        rfl
      · refine ⟨_, e2, ?_⟩
        rw [show gzRv w ng g = true from e1, if_neg (fun q => (gzc_m1 (by omega)).mp q), if_pos rfl]
    obtain ⟨x, hx1, hx2⟩ := hf (gzUp (gzUp (gzUp (gzUp (gzUp (gzUp (gzUp (gzUp (gzUp (M 0 26) 0 (Int32.ofNat g)) 1 (M t 11 g)) 2 (M t 12 g)) 3 (M t 2 (tF w g))) 4 (M t 17 (tS w g))) 5 (M t 18 (tS w g))) 6 (gzHt w)) 7 (M t 0 7 - M t 0 7 / 4 * 4)) 8 (if M t 13 g = 0 then (0 : Int32) else 1))
    rw [hx1]
    simp only [Option.bind_some]
    rw [w9]
    simp only [Option.bind_some]
    rw [h09, w10]
    simp only [Option.bind_some]
    refine ⟨_, rfl, fun _ c hc => ?_⟩
    unfold gzUp
    rcases (show c = 0 ∨ c = 1 ∨ c = 2 ∨ c = 3 ∨ c = 4 ∨ c = 5 ∨ c = 6 ∨ c = 7 ∨ c = 8 ∨ c = 9 ∨ c = 10 by omega) with rfl | rfl | rfl | rfl | rfl | rfl | rfl | rfl | rfl | rfl | rfl
    all_goals repeat (first | rw [if_neg (by omega)] | rw [if_pos (by omega)])
    · rfl
    · exact vc.2.2.2.2.1 g hg
    · exact vc.2.2.2.2.2.1 g hg
    · exact vc.2.2.2.2.2.2.2.2.1 _ bF
    · exact vc.2.2.2.2.2.2.2.2.2.2.2.2.1 _ bS
    · exact vc.2.2.2.2.2.2.2.2.2.2.2.2.2 _ bS
    · rfl
    · rw [hT.2.1.2.1, gz_tq4 h4]; rfl
    · rw [vc.2.2.2.2.2.2.1 g hg]
      show _ = (if tU w g = true then (1 : Int32) else 0)
      cases tU w g <;> rfl
    · exact hx2
    · rw [hT.2.1.2.2.2.1]
      show _ = w 6
      rcases h6 with q | q <;> rw [q] <;> rfl
end
