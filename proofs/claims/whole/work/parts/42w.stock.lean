/-! stock, span -/
section
variable {I I' I2 X T Ic Im Ic' Im' Ic2 Im2 M K R : gzIT} {J : gzJT} {w w2 v : Nat → Int32} {nf ng nl nx nl2 nx2 t t1 φ : Nat}
/-- the store's numbers are alike -/
def gzTs (C M : gzIT) : Prop := C 1 0 7 = M 0 48 4 ∧ C 1 0 8 = M 0 48 5 ∧ C 1 0 9 = M 0 48 6 ∧ ∀ k, k < 4 → C 1 19 k = M 0 48 (10 + k)
theorem r_stockL (hφ : 1000 < φ) : ∀ (m n k k' : Nat) (C : gzIT), n + m = 61 → m < k → m + 1 < k' → (∃ M, gzTs C M ∧ ∃ D, gzSm D 0 M nf ng) → ∃ (v : Int32) (C' : gzIT), f_X11_stock_13 φ k (Int32.ofNat n) C J = some (v, C', J) ∧ (∀ t' o k, ¬ (t' = 1 ∧ o < 20) → C' t' o k = C t' o k) ∧ ∀ M : gzIT, gzTs C M → (∃ D, gzSm D 0 M nf ng) → ∃ N : gzIT, (∀ J' : gzJT, f_X12_stock_13 φ k' (-1) (Int32.ofNat n) M J' = some (v, gzBk N 48 0 51 0 364, J')) ∧ (∀ t' o k, ¬ (t' = 0 ∧ o = 48 ∧ k < 364) → ¬ (o = 55) → N t' o k = M t' o k) := by
  intro m
  induction m with
  | zero =>
    intro n k k' C hn hk hk' hM
    obtain ⟨k, rfl⟩ : ∃ q, k = q + 1 := ⟨k - 1, by omega⟩
    obtain ⟨k', rfl⟩ : ∃ q, k' = q + 1 := ⟨k' - 1, by omega⟩
    refine ⟨-1, C, ?_, fun _ _ _ _ => rfl, fun M _ _ => ⟨M, fun J' => ?_, fun _ _ _ _ _ => rfl⟩⟩
    · rw [f_X11_stock_13, if_pos (by rw [gzc_lt1 (by omega) (by omega)]; omega)]
    · rw [f_X12_stock_13, if_pos (by rw [gzc_lt1 (by omega) (by omega)]; omega), m_bringsBack (by omega)]
      rfl
  | succ m ih =>
    intro n k k' C hn hk hk' hM
    obtain ⟨k, rfl⟩ : ∃ q, k = q + 1 := ⟨k - 1, by omega⟩
    obtain ⟨k', rfl⟩ : ∃ q, k' = q + 1 := ⟨k' - 1, by omega⟩
    have step : ∀ M : gzIT, (∃ D, gzSm D 0 M nf ng) → ∃ N1 : gzIT, (∀ J' : gzJT, f_X12_stock_13 φ (k' + 1) (-1) (Int32.ofNat n) M J' = f_X12_stock_13 φ k' (if ¬ M 0 48 5 = 0 then (-1 : Int32) else Int32.ofNat n) (Int32.ofNat (n + 1)) N1 J') ∧ (∃ D, gzSm D 0 N1 nf ng) ∧ (∀ t' o k, ¬ (t' = 0 ∧ o = 48 ∧ k < 364) → ¬ (o = 55) → N1 t' o k = M t' o k) ∧ gzSw (M 0 48) (N1 0 48) nf := by
      rintro M ⟨D, hD⟩
      obtain ⟨q, D', N1, hq, -, hm, S1, X1, W1⟩ := r_season (J := fun _ _ _ => 0) (φ := φ) (dr := 0) (Or.inl rfl) hD (by omega)
      have hm' : ∀ J' : gzJT, f_X12_oneSeason φ 1 M J' = some (Int32.ofNat q, N1, J') := hm
      refine ⟨N1, fun J' => ?_, ⟨D', S1⟩, X1.2.1, W1⟩
      rw [f_X12_stock_13, if_neg (by rw [gzc_lt1 (by omega) (by omega)]; omega), if_neg (by simp), hm' J', gzn_succ]
      rfl
    by_cases z : C 1 0 8 = 0
    · refine ⟨Int32.ofNat n, C, ?_, fun _ _ _ _ => rfl, fun M hT hD => ?_⟩
      · rw [f_X11_stock_13, if_neg (by rw [gzc_lt1 (by omega) (by omega)]; omega), if_neg (fun q => q z)]
      · obtain ⟨N1, s1, -, s3, -⟩ := step M hD
        obtain ⟨k2, rfl⟩ : ∃ q, k' = q + 1 := ⟨k' - 1, by omega⟩
        refine ⟨N1, fun J' => ?_, s3⟩
        rw [s1 J', if_neg (fun q => q (hT.2.1 ▸ z)), f_X12_stock_13]
        by_cases y : n + 1 ≤ 60
        · rw [if_neg (by rw [gzc_lt1 (by omega) (by omega)]; omega), if_pos (fun q => (gzc_m1 (by omega)).mp q), m_bringsBack (by omega)]
          rfl
        · rw [if_pos (by rw [gzc_lt1 (by omega) (by omega)]; omega), m_bringsBack (by omega)]
          rfl
    · obtain ⟨M0, hT0, hD0⟩ := hM
      have h4 : 0 ≤ (M0 0 48 4).toInt := by
        obtain ⟨D, ⟨nl, nx, hT, hx⟩, -⟩ := hD0
        exact hx.1.2.1.1
      obtain ⟨C1, eC1⟩ : ∃ C1, C1 = gz_ui (gz_ui C 1 0 8 (gzLkv (M0 0 48))) 1 0 7 (gzTk (M0 0 48 4)) := ⟨_, rfl⟩
      have C1n : ∀ t' o k, ¬ (t' = 1 ∧ o = 0 ∧ (k = 7 ∨ k = 8)) → C1 t' o k = C t' o k := fun t' o k q => by
        rw [eC1]; exact (if_neg (by omega)).trans (if_neg (by omega))
      have C17 : C1 1 0 7 = gzTk (M0 0 48 4) := by rw [eC1]; exact gz_ui_s
      have C18 : C1 1 0 8 = gzLkv (M0 0 48) := by rw [eC1]; exact (if_neg (by omega)).trans gz_ui_s
      have same : ∀ M, gzTs C M → gzLkv (M 0 48) = gzLkv (M0 0 48) ∧ gzTk (M 0 48 4) = gzTk (M0 0 48 4) := fun M hT => by
        have a4 : M 0 48 4 = M0 0 48 4 := hT.1.symm.trans hT0.1
        have a5 : M 0 48 5 = M0 0 48 5 := hT.2.1.symm.trans hT0.2.1
        have a6 : M 0 48 6 = M0 0 48 6 := hT.2.2.1.symm.trans hT0.2.2.1
        have ah : gzHt (M 0 48) = gzHt (M0 0 48) := by
          unfold gzHt
          rw [a4]
          exact (hT.2.2.2 _ (by omega)).symm.trans (hT0.2.2.2 _ (by omega))
        unfold gzLkv
        rw [a4, a5, a6, ah]
        exact ⟨rfl, rfl⟩
      have next : ∀ M N1, gzTs C M → gzSw (M 0 48) (N1 0 48) nf → gzTs C1 N1 := fun M N1 hT hW => by
        obtain ⟨w4, w5, -, wo⟩ := hW
        obtain ⟨sm1, sm2⟩ := same M hT
        refine ⟨?_, ?_, ?_, fun k hk => ?_⟩
        · rw [C17, w4, sm2]
        · rw [C18, w5, sm1]
        · rw [C1n 1 0 9 (by omega), wo 6 (by omega)]; exact hT.2.2.1
        · rw [C1n 1 19 k (by omega), wo (10 + k) (by omega)]; exact hT.2.2.2 k hk
      obtain ⟨N0, -, d0, -, w0⟩ := step M0 hD0
      obtain ⟨v, C', i1, i2, i3⟩ := ih (n + 1) k k' C1 (by omega) (by omega) (by omega) ⟨N0, next M0 N0 hT0 w0, d0⟩
      refine ⟨v, C', ?_, fun t' o k q => (i2 t' o k q).trans (C1n t' o k (by omega)), fun M hT hD => ?_⟩
      · rw [f_X11_stock_13, if_neg (by rw [gzc_lt1 (by omega) (by omega)]; omega), if_pos z]
        unfold f_X8_leak f_X8_tick
        rw [c_heat (w := M0 0 48) hT0.1 hT0.2.2.2 h4]
        simp only [Option.bind_some]
        have e1 : gz_ui C 1 0 8 (if 0 < C 1 0 8 - gzHt (M0 0 48) * (if C 1 0 9 = 0 then (1 : Int32) else 5) then C 1 0 8 - gzHt (M0 0 48) * (if C 1 0 9 = 0 then (1 : Int32) else 5) else 0) = gz_ui C 1 0 8 (gzLkv (M0 0 48)) := by
          rw [hT0.2.1, hT0.2.2.1]; rfl
        rw [e1]
        have e7 : gz_ui C 1 0 8 (gzLkv (M0 0 48)) 1 0 7 = M0 0 48 4 := (if_neg (by omega)).trans hT0.1
        rw [e7, gzn_succ, show (if M0 0 48 4 + 1 < 9999 then M0 0 48 4 + 1 else 9999) = gzTk (M0 0 48 4) from rfl, ← eC1]
        exact i1
      · obtain ⟨N1, s1, s2, s3, s4⟩ := step M hD
        obtain ⟨N, j1, j2⟩ := i3 N1 (next M N1 hT s4) s2
        refine ⟨N, fun J' => ?_, fun t' o k q1 q2 => (j2 t' o k q1 q2).trans (s3 t' o k q1 q2)⟩
        rw [s1 J', if_pos (fun q => z (hT.2.1.trans q))]
        exact j1 J'
theorem L_stock (h : gzR I I) : ∃ v I1 I2 J2, f_X11_stock 4096 I J = some (v, I1, J) ∧ f_X12_stock 4096 I1 J = some (v, I2, J2) ∧ gzR I2 I2 := by
  obtain ⟨φ, hφ⟩ : ∃ φ, φ = 4096 := ⟨_, rfl⟩
  rw [← hφ]
  obtain ⟨C0, nf, ng, hcp, S0, SI, n3, n4, c0, c20, -⟩ := r_copy (J := J) (φ := φ) h (by omega)
  obtain ⟨⟨nl0, nx0, hT0, hx0⟩, -⟩ := id S0
  have ts : ∀ M : gzIT, (∀ k, k < 364 → M 0 48 k = I 0 48 k) → gzTs C0 M := fun M hM => by
    refine ⟨?_, ?_, ?_, fun k hk => ?_⟩
    · rw [hM 4 (by omega)]; exact hT0.2.1.2.1
    · rw [hM 5 (by omega)]; exact hT0.2.1.2.2.1
    · rw [hM 6 (by omega)]; exact hT0.2.1.2.2.2.1
    · rw [hM _ (by omega)]; exact hT0.2.2.1 k hk
  obtain ⟨v, C, hc, hC, hmod⟩ := r_stockL (J := J) (φ := φ) (nf := nf) (ng := ng) (by omega) 61 0 φ φ C0 (by omega) (by omega) (by omega) ⟨I, ts I (fun _ _ => rfl), I, SI⟩
  have c48 : ∀ k, C 0 48 k = I 0 48 k := fun k => (hC 0 48 k (by omega)).trans (c20 0 48 k (by omega))
  have x48 : ∀ k, k < 1213 → gzBk (gz_ui C 0 47 0 0) 51 0 48 0 364 0 48 k = I 0 48 k := fun k _ => by
    rw [gzBk_n (by omega)]
    exact (if_neg (by omega)).trans (c48 k)
  obtain ⟨N, hm, hN⟩ := hmod (gzBk (gz_ui C 0 47 0 0) 51 0 48 0 364) (ts _ (fun k hk => x48 k (by omega))) ⟨I, gzSm_congr SI (fun _ _ _ _ => rfl) (fun _ _ _ _ => rfl) x48⟩
  have hfin := gzR_ahead (C := C) h c0 c20 (fun t' o k q1 q2 => hC t' o k q1) hN
  refine ⟨v, C, gzBk N 48 0 51 0 364, J, ?_, ?_, hfin.1⟩
  · unfold f_X11_stock
    rw [hcp]
    simp only [Option.bind_some]
    exact hc
  · unfold f_X12_stock
    rw [m_keepsAll (by omega)]
    simp only [Option.bind_some]
    exact hm J
theorem r_setseed {x : Int32} (hS : gzSm Ic t Im nf ng) : gzSm (gz_ui Ic t 0 11 x) t (gz_ui Im 0 48 9 x) nf ng := by
  obtain ⟨⟨nl, nx, hT, hx⟩, hlaw⟩ := id hS
  obtain ⟨C, eC⟩ : ∃ C, C = gz_ui Ic t 0 11 x := ⟨_, rfl⟩
  have Cn : ∀ t' o k, ¬ (t' = t ∧ o = 0 ∧ k = 11) → C t' o k = Ic t' o k := fun t' o k q => by rw [eC]; exact if_neg q
  have Cs : C t 0 11 = x := by rw [eC]; exact gz_ui_s
  obtain ⟨N, eN⟩ : ∃ N, N = gz_ui Im 0 48 9 x := ⟨_, rfl⟩
  have Nn : ∀ t' o k, ¬ (t' = 0 ∧ o = 48 ∧ k = 9) → N t' o k = Im t' o k := fun t' o k q => by rw [eN]; exact if_neg q
  have Ns : N 0 48 9 = x := by rw [eN]; exact gz_ui_s
  rw [← eC, ← eN]
  have up := gzSm_upd (Ic' := C) (Im' := N) (D := fun o j => o = 0 ∧ j = 11) (E := fun i => i = 9) hT hx hlaw (fun o j ho q _ => Cn t o j (by omega)) (fun j _ _ q => Nn 0 48 j (by omega)) (fun o j i q => by
    unfold gzQp at q
    by_cases e : o = 0 ∧ j = 11
    · left
      obtain ⟨rfl, rfl⟩ := e
      rw [Cs, show i = 9 by omega, Ns]
    · right
      exact ⟨e, by omega⟩) ⟨by omega, by omega, by omega, by omega, by omega, fun g hg => ⟨by omega, by omega, by omega⟩⟩ (fun i _ e => by
    have e' : i = 9 := e
    rw [e']
    exact gz_bd0 (by omega)) (gzLg_same hT.2.2.2.2.2.2 (fun o j q => Cn t o j (by omega)) (fun j q => Nn 0 48 j (by omega))) (fun o k q1 q2 => Cn 0 o k (by omega)) (fun k q => Nn 0 48 k (by omega))
  exact ⟨⟨_, _, up.1⟩, up.2⟩
/-- the edge so far -/
def gzEdg (fl x y : Int32) : Int32 := if x = -1 then y else if fl = 0 then (if x ≤ y then x else y) else (if y ≤ x then x else y)
theorem gz_edg {fl x y : Int32} (hx : x = -1 ∨ 0 ≤ x.toInt) (hy : 0 ≤ y.toInt) : gzEdg fl x y = (if 0 ≤ x then (if fl = 0 then (if y < x then y else x) else (if x < y then y else x)) else y) ∧ 0 ≤ (gzEdg fl x y).toInt := by
  have z0 : (0 : Int32).toInt = 0 := rfl
  unfold gzEdg
  rcases hx with rfl | hx
  · rw [if_pos rfl, if_neg (by decide)]
    exact ⟨rfl, hy⟩
  · have h1 : ¬ x = -1 := fun q => by
      rw [q] at hx
      exact absurd hx (by decide)
    have h0 : (0 : Int32) ≤ x := Int32.le_iff_toInt_le.mpr (by omega)
    rw [if_neg h1, if_pos h0]
    by_cases q : fl = 0
    · rw [if_pos q, if_pos q]
      by_cases z : y < x
      · have z' := Int32.lt_iff_toInt_lt.mp z
        have z2 : ¬ x ≤ y := fun e => by have := Int32.le_iff_toInt_le.mp e; omega
        rw [if_pos z, if_neg z2]
        exact ⟨rfl, hy⟩
      · have z2 : x ≤ y := Int32.le_iff_toInt_le.mpr (by have : ¬ y.toInt < x.toInt := fun e => z (Int32.lt_iff_toInt_lt.mpr e); omega)
        rw [if_neg z, if_pos z2]
        exact ⟨rfl, hx⟩
    · rw [if_neg q, if_neg q]
      by_cases z : x < y
      · have z' := Int32.lt_iff_toInt_lt.mp z
        have z2 : ¬ y ≤ x := fun e => by have := Int32.le_iff_toInt_le.mp e; omega
        rw [if_pos z, if_neg z2]
        exact ⟨rfl, hy⟩
      · have z2 : y ≤ x := Int32.le_iff_toInt_le.mpr (by have : ¬ x.toInt < y.toInt := fun e => z (Int32.lt_iff_toInt_lt.mpr e); omega)
        rw [if_neg z, if_pos z2]
        exact ⟨rfl, hx⟩
theorem L_span (p0 p1 : Int32) (h : gzR I I) : ∃ e I1, f_X11_span 4096 p0 p1 I J = some (e, I1, J) ∧ (∀ E, e = .error E → ∃ k : Nat, (["java/lang/IllegalArgumentException"] : List String)[k]? = some E) ∧ ∀ J' : gzJT, ∃ v I2 J2, f_X12_span 4096 p0 p1 I1 J' = some (v, I2, J2) ∧ gzSame e ["java/lang/IllegalArgumentException"] v (I2 0 47 0) ∧ J2 0 59 0 = J' 0 59 0 ∧ gzR I2 I2 := by
  obtain ⟨φ, hφ⟩ : ∃ φ, φ = 4096 := ⟨_, rfl⟩
  rw [← hφ]
  rcases p_num0 (I := I) (J := J) (a := p0) with ⟨⟨n, hn, rfl⟩, e3, e4⟩ | ⟨e3, e4⟩
  · obtain ⟨nf, ng, SI, n3, n4⟩ := gzR_sm h
    obtain ⟨w0, v0, -, -, -, -, -, -, -, -, hbo⟩ := id h
    have hb0 := hbo 0 (by omega) (by omega)
    obtain ⟨⟨nl0, nx0, hT0, hx0⟩, hlaw0⟩ := id SI
    have key : ∀ (m s k k' : Nat) (x : Int32) (C : gzIT), s + m = 7 → m < k → m < k' → (x = -1 ∨ 0 ≤ x.toInt) → (∀ t' o k, ¬ (t' = 1 ∧ o < 20) → ¬ (o = 26 ∨ o = 27) → C t' o k = I t' o k) → ∃ (v : Int32) (C' : gzIT), f_X11_span_13 φ k (Int32.ofNat n) p1 x (Int32.ofNat s) C J = some (.ok v, C', J) ∧ (∀ t' o k, ¬ (t' = 1 ∧ o < 20) → ¬ (o = 26 ∨ o = 27) → C' t' o k = I t' o k) ∧ ∀ M : gzIT, (∀ k, k < 1213 → M 0 48 k = I 0 48 k) → (∀ k, k < 364 → M 0 51 k = I 0 48 k) → ∃ M' : gzIT, (∀ J' : gzJT, f_X12_span_28 φ k' (Int32.ofNat n) p1 x (Int32.ofNat s) M J' = some (v, M', J')) ∧ (∀ t' o k, ¬ (o = 55) → M' t' o k = M t' o k) := by
      intro m
      induction m with
      | zero =>
        intro s k k' x C hs hk hk' hx hC
        obtain ⟨k, rfl⟩ : ∃ q, k = q + 1 := ⟨k - 1, by omega⟩
        obtain ⟨k', rfl⟩ : ∃ q, k' = q + 1 := ⟨k' - 1, by omega⟩
        refine ⟨x, C, ?_, hC, fun M _ _ => ⟨M, fun J' => ?_, fun _ _ _ _ => rfl⟩⟩
        · rw [f_X11_span_13, if_pos (by rw [gzc_lt1 (by omega) (by omega)]; omega)]
        · rw [f_X12_span_28, if_pos (by rw [gzc_lt1 (by omega) (by omega)]; omega)]
      | succ m ih =>
        intro s k k' x C hs hk hk' hx hC
        obtain ⟨k, rfl⟩ : ∃ q, k = q + 1 := ⟨k - 1, by omega⟩
        obtain ⟨k', rfl⟩ : ∃ q, k' = q + 1 := ⟨k' - 1, by omega⟩
        -- the copy with the seed
        have hbC : (∀ k, k < 10 → (C 0 13 k = 0 ∨ C 0 13 k = 1) ∧ (C 0 14 k = 0 ∨ C 0 14 k = 1)) ∧ (C 0 0 9 = 0 ∨ C 0 0 9 = 1) := by
          refine ⟨fun k hk => ?_, ?_⟩
          · rw [hC 0 13 k (by omega) (by omega), hC 0 14 k (by omega) (by omega)]; exact hb0.1 k hk
          · rw [hC 0 0 9 (by omega) (by omega)]; exact hb0.2
        have hcp : f_X8_copyFrom φ 1 0 C J = some ((), gzCpy C 1 0 gzTcb, J) := c_copyFrom (by omega) hbC (by omega)
        have hTC : gzTn C 0 (I 0 48) nf ng nl0 nx0 := gzTn_congr (fun o k h1 h2 => hC 0 o k (by omega) (by omega)) hT0
        have ecp : ∀ t' o k, t' ≠ 1 → gzCpy C 1 0 gzTcb t' o k = C t' o k := fun t' o k q => gzCpy_ne q
        have ecp20 : ∀ t' o k, ¬ (o < 20) → gzCpy C 1 0 gzTcb t' o k = C t' o k := fun t' o k q => by
          unfold gzCpy
          rw [if_neg]
          rintro ⟨-, z⟩
          have := of_decide_eq_true z
          omega
        have SC : ∀ M : gzIT, (∀ k, k < 1213 → M 0 48 k = I 0 48 k) → gzSm (gz_ui (gzCpy C 1 0 gzTcb) 1 0 11 (Int32.ofNat s)) 1 (gz_ui M 0 48 9 (Int32.ofNat s)) nf ng := fun M hM => by
          have a : gzSm (gzCpy C 1 0 gzTcb) 1 I nf ng := ⟨⟨nl0, nx0, gzTn_cpy hTC, hx0⟩, gzLw_congr (fun o k h1 h2 => (ecp 0 o k (by omega)).trans (hC 0 o k (by omega) (by omega))) hlaw0⟩
          exact r_setseed (gzSm_congr a (fun _ _ _ _ => rfl) (fun _ _ _ _ => rfl) hM)
        obtain ⟨q, C1, hc, hmod⟩ := r_sim (J := J) (φ := φ) (dr := 1) (Or.inr rfl) (by omega) n hn (SC I (fun _ _ => rfl))
        obtain ⟨z, hz, hcls⟩ := hc (fun k x j C J => f_X11_runTrial_21 φ k (Int32.ofNat n) j C J) (fun k x j C hj => by
          show f_X11_runTrial_21 φ (k + 1) (Int32.ofNat n) (Int32.ofNat j) C J = _
          rw [f_X11_runTrial_21, if_neg (by rw [gzn_le (by omega) (by omega)]; omega), gzn_succ]) φ 0 (by omega)
        obtain ⟨z, rfl⟩ : ∃ y, z = y + 1 := ⟨z - 1, by omega⟩
        have hrun : f_X11_runTrial φ (Int32.ofNat s) (Int32.ofNat n) C J = some ((), C1, J) := by
          unfold f_X11_runTrial
          rw [hcp]
          simp only [Option.bind_some]
          refine hcls.trans ?_
          show f_X11_runTrial_21 φ (z + 1) (Int32.ofNat n) (Int32.ofNat n) C1 J = _
          rw [f_X11_runTrial_21, if_pos (by rw [gzn_le (by omega) (by omega)]; omega)]
        obtain ⟨N0, -, SN0, XN0, -⟩ := hmod _ (SC I (fun _ _ => rfl))
        have hC1 : ∀ t' o k, ¬ (t' = 1 ∧ o < 20) → ¬ (o = 26 ∨ o = 27) → C1 t' o k = I t' o k := fun t' o k q1 q2 => by
          rw [XN0.1 t' o k q1 q2]
          refine (if_neg (by omega)).trans ?_
          by_cases e : o < 20
          · rw [ecp t' o k (by omega)]; exact hC t' o k q1 q2
          · rw [ecp20 t' o k e]; exact hC t' o k q1 q2
        obtain ⟨y, hy, hice⟩ : ∃ y : Int32, 0 ≤ y.toInt ∧ f_X1_allIce φ 1 C1 = some y := by
          obtain ⟨⟨nl1, nx1, hT1, hx1⟩, -⟩ := SN0
          obtain ⟨b, hb, eb⟩ := gz_ice_b (w := N0 0 48) (ng := ng) (fun g hg => (hx1.1.2.2.2.2.2 g hg).2.1) n4
          refine ⟨S_ice (N0 0 48) ng, ?_, c_allIce (gzV_c hT1 hx1.1) (by omega)⟩
          rw [eb, gzn_int (by omega)]
          omega
        obtain ⟨ed1, ed2⟩ := gz_edg (fl := p1) hx hy
        obtain ⟨v, C', i1, i2, i3⟩ := ih (s + 1) k k' (gzEdg p1 x y) C1 (by omega) (by omega) (by omega) (Or.inr ed2) hC1
        refine ⟨v, C', ?_, i2, fun M hM hM51 => ?_⟩
        · rw [f_X11_span_13, if_neg (by rw [gzc_lt1 (by omega) (by omega)]; omega), hrun]
          simp only [Option.bind_some]
          rw [hice, gzn_succ]
          simp only [Option.bind_some]
          rw [← i1]
          unfold gzEdg
          by_cases a1 : x = -1
          · rw [if_pos a1, if_pos a1]
          · rw [if_neg a1, if_neg a1]
            by_cases a2 : p1 = 0
            · rw [if_pos a2, if_pos a2]
              by_cases a3 : x ≤ y
              · rw [if_pos a3, if_pos a3]
              · rw [if_neg a3, if_neg a3]
            · rw [if_neg a2, if_neg a2]
              by_cases a3 : y ≤ x
              · rw [if_pos a3, if_pos a3]
              · rw [if_neg a3, if_neg a3]
        · obtain ⟨N, hgo, SN, XN, -⟩ := hmod _ (SC M hM)
          obtain ⟨⟨nl1, nx1, hT1, hx1⟩, -⟩ := SN
          obtain ⟨vm, vb⟩ := gzV_m hT1 hx1.1
          have hmN : gzVi N (N 0 48) nf ng := ⟨fun _ _ => rfl, vm, vb⟩
          have hyN : S_ice (N 0 48) ng = y := Option.some.inj ((c_allIce (gzV_c hT1 hx1.1) (by omega)).symm.trans hice)
          have hback : ∀ t' o k, ¬ (o = 55) → gzBk N 48 0 51 0 364 t' o k = M t' o k := fun t' o k q => by
            by_cases e : t' = 0 ∧ o = 48 ∧ k < 364
            · obtain ⟨rfl, rfl, hk⟩ := e
              rw [gzBk_at hk, XN.2.1 0 51 k (by omega) (by omega)]
              exact (if_neg (by omega)).trans ((hM51 k hk).trans (hM k (by omega)).symm)
            · rw [gzBk_n (by omega), XN.2.1 t' o k e q]
              exact if_neg (by omega)
          obtain ⟨M', j1, j2⟩ := i3 (gzBk N 48 0 51 0 364) (fun k hk => (hback 0 48 k (by omega)).trans (hM k hk)) (fun k hk => (hback 0 51 k (by omega)).trans (hM51 k hk))
          refine ⟨M', fun J' => ?_, fun t' o k q => (j2 t' o k q).trans (hback t' o k q)⟩
          rw [f_X12_span_28, if_neg (by rw [gzc_lt1 (by omega) (by omega)]; omega), show f_X12_goesOn φ (Int32.ofNat n) 0 (gz_ui M 0 48 9 (Int32.ofNat s)) J' = some (Int32.ofNat q, N, J') from hgo J']
          simp only [Option.bind_some]
          rw [m_standing hmN (by omega)]
          simp only [Option.bind_some]
          rw [m_allIce hmN (by omega), hyN, m_bringsBack (by omega), gzn_succ]
          simp only [Option.bind_some]
          rw [← j1 J', ed1]
          by_cases a1 : 0 ≤ x
          · rw [if_pos a1, if_pos a1]
            by_cases a2 : p1 = 0
            · rw [if_pos a2, if_pos a2]
            · rw [if_neg a2, if_neg a2]
          · rw [if_neg a1, if_neg a1]
    obtain ⟨v, C, hc, hC, hmod⟩ := key 6 1 φ φ (-1) I (by omega) (by omega) (by omega) (Or.inl rfl) (fun _ _ _ _ _ => rfl)
    have c48 : ∀ k, C 0 48 k = I 0 48 k := fun k => hC 0 48 k (by omega) (by omega)
    obtain ⟨N, hm, hN⟩ := hmod (gzBk (gz_ui C 0 47 0 0) 51 0 48 0 364) (fun k _ => by
      rw [gzBk_n (by omega)]
      exact (if_neg (by omega)).trans (c48 k)) (fun k hk => by
      rw [gzBk_at hk]
      exact (if_neg (by omega)).trans (c48 k))
    refine ⟨.ok v, C, ?_, fun E hE => (by cases hE), fun J' => ⟨v, N, J', ?_, ⟨rfl, ?_⟩, rfl, ?_⟩⟩
    · unfold f_X11_span
      rw [e3]
      simp only [Option.bind_some, gzEx]
      exact hc
    · unfold f_X12_span
      rw [e4]
      simp only [Option.bind_some, s_throws0, if_true]
      rw [m_keepsAll (by omega)]
      simp only [Option.bind_some]
      exact hm J'
    · rw [hN 0 47 0 (by omega), gzBk_n (by omega)]
      exact gz_ui_s
    · refine gzR_scr h fun t o k q => ?_
      have h1 : ¬ (o = 26 ∨ o = 27 ∨ o = 55 ∨ o = 51) := fun e => q (by unfold gzCs gzMw; omega)
      have h3 : ¬ (t = 0 ∧ o = 47 ∧ k = 0) := fun e => q (by unfold gzCs gzMw; omega)
      have h4 : ¬ (t = 1 ∧ o < 20) := fun e => q (by unfold gzCs gzMw; omega)
      rw [hN t o k (by omega), gzBk_n (by omega)]
      exact (if_neg h3).trans (hC t o k h4 (by omega))
  · refine ⟨.error "java/lang/IllegalArgumentException", I, ?_, fun E hE => ⟨0, by cases hE; rfl⟩, fun J' => ⟨0, gz_ui (gz_ui I 0 47 0 0) 0 47 0 1, J', ?_, ⟨0, rfl, gz_ui_s⟩, rfl, gzR_thr2 h⟩⟩
    · unfold f_X11_span
      rw [e3]; rfl
    · unfold f_X12_span
      rw [e4]
      simp only [Option.bind_some, s_throws1]
      rfl
end
