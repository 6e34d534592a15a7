/-! cuts: the call -/
section
variable {I I' U V X : gzIT} {J : gzJT} {w b : Nat → Int32} {nf ng nl nx n t φ : Nat}
def gzLk (bc : Int32 → Int32) (ov : Nat → Int32) (x : Int32) (s : Int32 × Int32) (i : Nat) : Int32 × Int32 := if gzB x i = true then (if bc (ov i) ≤ s.2 then s else (Int32.ofNat i, bc (ov i))) else s
theorem c_likeliest {x : Int32} {bc : Int32 → Int32} {ov : Nat → Int32} (hbc : ∀ x, f_J6_bitCount_0f7a4 x = some (bc x)) (ho : ∀ i, i < 8 → f_X1_over φ 0 U (Int32.ofNat i) = some (ov i)) (hφ : 10 < φ) : f_X8_likeliest φ 0 U x = some (gzFo (gzLk bc ov x) 0 8 (-1, -1)).1 := by
  unfold f_X8_likeliest
  refine gz_loop (F := fun k (s : Int32 × Int32) i => f_X8_likeliest_7 φ 0 U k x s.1 s.2 i) (n := 8) (step := gzLk bc ov x) (out := fun s => some s.1) ?_ ?_ 8 0 φ (-1, -1) (by omega) (by omega)
  · intro k s i hi
    show f_X8_likeliest_7 φ 0 U (k + 1) x s.1 s.2 (Int32.ofNat i) = f_X8_likeliest_7 φ 0 U k x (gzLk bc ov x s i).1 (gzLk bc ov x s i).2 (Int32.ofNat (i + 1))
    rw [f_X8_likeliest_7, if_neg (by rw [gzc_le1 (by omega) (by omega)]; omega), ho i hi, Option.bind_some, hbc, Option.bind_some, gzc_has (by omega), Option.bind_some, gzn_succ]
    unfold gzLk
    by_cases q : gzB x i = true
    · rw [if_pos q, if_pos q, if_neg (by decide)]
      by_cases q2 : bc (ov i) ≤ s.2
      · rw [if_pos q2, if_pos q2]
      · rw [if_neg q2, if_neg q2]
    · rw [if_neg q, if_neg q, if_pos rfl]
  · intro k s
    show f_X8_likeliest_7 φ 0 U (k + 1) x s.1 s.2 8 = _
    rw [f_X8_likeliest_7, if_pos (by decide)]
theorem m_likeliest {x a : Int32} {bc : Int32 → Int32} {ov : Nat → Int32} (hbc : ∀ x, f_J6_bitCount_0f7a4 x = some (bc x)) (ho : ∀ i, i < 8 → f_X12_thoseOver φ V (Int32.ofNat i) = some (ov i)) (hφ : 10 < φ) : f_X12_cuts_39 φ φ a x (-1) (-1) 0 V J = some (if a = 0 then x else (gzFo (gzLk bc ov x) 0 8 (-1, -1)).1, V, J) := by
  refine gz_loopp (F := fun k (s : Int32 × Int32) i => f_X12_cuts_39 φ k a x s.1 s.2 i V J) (n := 8) (c := id) (step := gzLk bc ov x) (out := fun s => some (if a = 0 then x else s.1, V, J)) (p := fun _ s => -1 ≤ s.2.toInt) ?_ ?_ 8 0 φ (-1, -1) (by decide) (by omega) (by omega)
  · intro k s i hi hp
    have e1 : (-1 : Int32).toInt = -1 := rfl
    have hle : (-1 : Int32) ≤ s.2 := Int32.le_iff_toInt_le.mpr (by omega)
    have hnl : ¬ s.2 < (-1 : Int32) := fun q => by have := Int32.lt_iff_toInt_lt.mp q; omega
    constructor
    · show f_X12_cuts_39 φ (k + 1) a x s.1 s.2 (Int32.ofNat i) V J = f_X12_cuts_39 φ k a x (gzLk bc ov x s i).1 (gzLk bc ov x s i).2 (Int32.ofNat (i + 1)) V J
      rw [f_X12_cuts_39, if_neg (by rw [gzc_le1 (by omega) (by omega)]; omega), m_has (by omega), Option.bind_some, ho i hi, Option.bind_some, hbc, Option.bind_some, gzn_succ]
      unfold gzLk
      by_cases q : gzB x i = true
      · rw [if_pos q, if_pos q, if_neg (by decide)]
        by_cases q2 : bc (ov i) ≤ s.2
        · rw [if_pos q2, if_pos q2, if_neg (fun q3 => by have := Int32.lt_iff_toInt_lt.mp q3; have := Int32.le_iff_toInt_le.mp q2; omega)]
        · rw [if_neg q2, if_neg q2, if_pos (Int32.lt_iff_toInt_lt.mpr (by have : ¬ (bc (ov i)).toInt ≤ s.2.toInt := fun q3 => q2 (Int32.le_iff_toInt_le.mpr q3); omega))]
      · rw [if_neg q, if_neg q, if_pos rfl, if_pos hle, if_neg hnl]
    · show -1 ≤ (gzLk bc ov x s i).2.toInt
      unfold gzLk
      split
      · split
        · exact hp
        · next q2 =>
          have : ¬ (bc (ov i)).toInt ≤ s.2.toInt := fun q3 => q2 (Int32.le_iff_toInt_le.mpr q3)
          show -1 ≤ (bc (ov i)).toInt
          omega
      · exact hp
  · intro k s hp
    show f_X12_cuts_39 φ (k + 1) a x s.1 s.2 8 V J = _
    rw [f_X12_cuts_39, if_pos (by decide)]
theorem L_cuts (p0 : Int32) (h : gzR I I) : ∃ e I1, f_X11_cuts 4096 p0 I J = some (e, I1, J) ∧ (∀ E, e = .error E → ∃ k : Nat, (["java/lang/IllegalArgumentException"] : List String)[k]? = some E) ∧ ∀ J' : gzJT, ∃ v I2 J2, f_X12_cuts 4096 p0 I1 J' = some (v, I2, J2) ∧ gzSame e ["java/lang/IllegalArgumentException"] v (I2 0 47 0) ∧ J2 0 59 0 = J' 0 59 0 ∧ gzR I2 I2 := by
  obtain ⟨nf, ng, nl, nx, hT, hx, c, b, m⟩ := gzR_go h
  obtain ⟨w0, v0, -, -, -, -, -, -, ⟨n, hn, hc, hm, hby⟩, -⟩ := id h
  obtain ⟨φ, hφ⟩ : ∃ φ, φ = 4096 := ⟨_, rfl⟩
  rw [← hφ]
  obtain ⟨U, eU⟩ : ∃ U, U = gz_ui I 0 31 1 0 := ⟨_, rfl⟩
  have Uo : ∀ t o j, ¬ (t = 0 ∧ o = 31 ∧ j = 1) → U t o j = I t o j := fun t o j a => by rw [eU]; exact if_neg a
  obtain ⟨V, eV⟩ : ∃ V, V = gz_ui (gz_ui (gz_ui (gz_ui U 0 47 0 0) 0 47 11 (U 0 47 9)) 0 47 9 0) 0 47 10 0 := ⟨_, rfl⟩
  have Vo : ∀ t o j, ¬ (t = 0 ∧ o = 31 ∧ j = 1) → ¬ (t = 0 ∧ o = 47 ∧ (j = 0 ∨ 9 ≤ j)) → V t o j = I t o j := fun t o j a d => by
    rw [eV]
    exact (if_neg (by omega)).trans ((if_neg (by omega)).trans ((if_neg (by omega)).trans ((if_neg (by omega)).trans (Uo t o j a))))
  have V11 : V 0 47 11 = Int32.ofNat n := by
    rw [eV]
    exact (if_neg (by omega)).trans ((if_neg (by omega)).trans (gz_ui_s.trans ((Uo 0 47 9 (by omega)).trans hm)))
  have V9 : V 0 47 9 = 0 := by
    rw [eV]
    exact (if_neg (by omega)).trans gz_ui_s
  have V0 : V 0 47 0 = 0 := by
    rw [eV]
    exact (if_neg (by omega)).trans ((if_neg (by omega)).trans ((if_neg (by omega)).trans gz_ui_s))
  have V31 : V 0 31 1 = 0 := by
    rw [eV]
    exact (if_neg (by omega)).trans ((if_neg (by omega)).trans ((if_neg (by omega)).trans ((if_neg (by omega)).trans (by rw [eU]; exact gz_ui_s))))
  have V14 : V 0 47 14 = I 0 47 14 := by
    rw [eV]
    exact (if_neg (by omega)).trans ((if_neg (by omega)).trans ((if_neg (by omega)).trans ((if_neg (by omega)).trans (Uo 0 47 14 (by omega)))))
  have hRV : gzR V V := gzR_tape h (fun t o j a d e => by
    by_cases q14 : t = 0 ∧ o = 47 ∧ j = 14
    · obtain ⟨rfl, rfl, rfl⟩ := q14; exact V14
    · exact Vo t o j (by omega) (fun q => a (by unfold gzCs gzMw; omega))) ⟨0, by omega, V31, V9, fun i hi => absurd hi (by omega)⟩
  have hcU : gzVc U 0 (I 0 48) nf ng := by
    have e : ∀ o k, o < 20 → U 0 o k = I 0 o k := fun o k ho => Uo 0 o k (by omega)
    have c2 := c
    unfold gzVc at c2 ⊢
    simp (disch := omega) only [e]
    exact c2
  have hmV : gzVi V (I 0 48) nf ng := ⟨fun j hj => Vo 0 48 j (by omega) (by omega), (m 0).2⟩
  have V48 : V 0 48 = I 0 48 := funext fun j => Vo 0 48 j (by omega) (by omega)
  have c1 := c_needCuts (U := U) (J := J) (b := I 0 53) (n := n) (φ := φ) hn (fun i hi => (Uo 0 32 i (by omega)).trans (hby i hi).1) (by omega)
  have m1 := m_isCut (V := V) (b := I 0 53) (n := n) (φ := φ) hn (fun i hi => ⟨Vo 0 53 i (by omega) (by omega), (hby i hi).2⟩) V11 (by omega)
  have hus : f_X12_uses U = fun J' => some ((), V, J') := funext fun J' => by unfold f_X12_uses; rw [eV]
  cases hcut : gzNoCut (I 0 53) n with
  | true =>
    rw [hcut] at c1 m1
    refine ⟨.error "java/lang/IllegalArgumentException", U, ?_, fun E hE => ⟨0, by cases hE; rfl⟩, fun J' => ⟨0, gz_ui V 0 47 0 1, J', ?_, ⟨0, rfl, gz_ui_s⟩, rfl, gzR_thr hRV⟩⟩
    · unfold f_X11_cuts f_X6_use
      simp only [Option.bind_some]
      rw [← eU, hc, c1]
      rfl
    · unfold f_X12_cuts
      rw [hus]
      simp only [Option.bind_some]
      rw [m1]
      simp only [Option.bind_some, if_true, gz_not00, s_throws1]
      rfl
  | false =>
    rw [hcut] at c1 m1
    obtain ⟨en, hok⟩ := gzCut_of hcut (fun i hi => (hby i hi).2)
    have tU : gzTn U 0 (I 0 48) nf ng nl nx := gzTn_congr (fun o j ho _ => Uo 0 o j (by omega)) hT
    have ho : ∀ i, i < 8 → ∃ y, f_X1_over φ 0 U (Int32.ofNat i) = some y ∧ f_X12_thoseOver φ V (Int32.ofNat i) = some y := fun i hi => by
      have q := r_over (φ := φ) (I := U) (I' := V) (a := Int32.ofNat i) (by rw [V48]; exact tU) (by rw [V48]; exact hx.1) (by omega)
      have q2 := s_X1_over (φ := φ) (I := U) (a := Int32.ofNat i) hcU.1.2.1 hcU.1.2.2.2 (by have := hcU.1.2.2.2; omega)
      exact ⟨_, q2, by rw [← q]; exact q2⟩
    obtain ⟨ov, hov⟩ : ∃ ov : Nat → Int32, ∀ i, i < 8 → f_X1_over φ 0 U (Int32.ofNat i) = some (ov i) ∧ f_X12_thoseOver φ V (Int32.ofNat i) = some (ov i) :=
      Classical.axiomOfChoice (r := fun i y => i < 8 → f_X1_over φ 0 U (Int32.ofNat i) = some y ∧ f_X12_thoseOver φ V (Int32.ofNat i) = some y) (fun i => by
        by_cases q : i < 8
        · obtain ⟨y, hy⟩ := ho i q
          exact ⟨y, fun _ => hy⟩
        · exact ⟨0, fun q2 => absurd q2 q⟩)
    have cf := c_fitting (U := U) (b := I 0 53) (h := n / 2) (φ := φ) hcU hok (fun i hi => (Uo 0 32 i (by omega)).trans (hby i (by omega)).1) (by omega)
    have mf := m_fitting (V := V) (b := I 0 53) (h := n / 2) (φ := φ) hmV hok (fun i hi => Vo 0 53 i (by omega) (by omega)) (by rw [← en]; exact V11) (by omega)
    rw [← en] at cf
    obtain ⟨fs, hfs⟩ : ∃ fs, fs = S_fit (I 0 48) (I 0 53) (n / 2) := ⟨_, rfl⟩
    rw [← hfs] at cf mf
    refine ⟨.ok (if p0 = 0 then fs else (gzFo (gzLk gzBc ov fs) 0 8 (-1, -1)).1), U, ?_, fun E hE => (by cases hE), fun J' => ⟨if p0 = 0 then fs else (gzFo (gzLk gzBc ov fs) 0 8 (-1, -1)).1, V, J', ?_, ⟨rfl, V0⟩, rfl, hRV⟩⟩
    · unfold f_X11_cuts f_X6_use
      simp only [Option.bind_some]
      rw [← eU, hc, c1]
      simp only [Option.bind_some, gzEx]
      show Option.bind (f_X8_fitting φ 0 U (Int32.ofNat n)) _ = _
      rw [cf]
      simp only [Option.bind_some]
      by_cases q : p0 = 0
      · rw [if_pos q, if_pos q]
      · rw [if_neg q, if_neg q, c_likeliest gzBc_eq (fun i hi => (hov i hi).1) (by omega)]
        rfl
    · unfold f_X12_cuts
      rw [hus]
      simp only [Option.bind_some]
      rw [m1]
      simp only [Option.bind_some]
      rw [if_neg (show ¬ (false = true) by decide), gz_not01, s_throws0]
      simp only [Option.bind_some, if_true]
      rw [mf]
      simp only [Option.bind_some]
      exact m_likeliest gzBc_eq (fun i hi => (hov i hi).2) (by omega)
end
