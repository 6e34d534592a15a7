/-! grudge -/
section
variable {I I' I2 X T Ic Im M : gzIT} {J : gzJT} {w w2 v : Nat → Int32} {nf ng nl nx nl2 nx2 t t1 φ : Nat}
theorem gz_ice_b (hw : ∀ g, g < ng → 0 ≤ (w (58 + 7 * g)).toInt ∧ (w (58 + 7 * g)).toInt ≤ 999) (hn : ng ≤ 10) : ∃ n : Nat, n ≤ 9990 ∧ S_ice w ng = Int32.ofNat n := by
  have key : ∀ m, m ≤ ng → ∃ n : Nat, n ≤ 999 * m ∧ S_ice w m = Int32.ofNat n := by
    intro m
    induction m with
    | zero => intro _; exact ⟨0, by omega, rfl⟩
    | succ m ih =>
      intro hm
      obtain ⟨n, h1, h2⟩ := ih (by omega)
      obtain ⟨b1, b2⟩ := hw m (by omega)
      obtain ⟨x, hx, ex⟩ := gzn_of b1
      rw [ex, gzn_int hx] at b2
      unfold S_ice at h2 ⊢
      rw [gzFo_last, h2, Nat.zero_add]
      by_cases q : tH w m = true
      · exact ⟨n, by omega, by simp [q]⟩
      · refine ⟨n + x, by omega, ?_⟩
        simp only [q]
        first | (rw [if_neg (by simp), ex, gzc_adds]) | (rw [ex, gzc_adds]) | (simp [ex, gzc_adds])
  obtain ⟨n, h1, h2⟩ := key ng (Nat.le_refl _)
  exact ⟨n, by omega, h2⟩
theorem gzR_law (h : gzR I I) : gzLw I 0 (fun i => I 0 48 (364 + i)) (I 0 48 3) := by
  obtain ⟨w0, v0, h1, h2, -, h4, -⟩ := h
  rw [show I 0 48 3 = w0 3 from h1 3 (by omega)]
  rcases h4 with h4 | ⟨a1, nl, nc, a2, a3, a4, a5, a6⟩
  · exact Or.inl h4
  · refine Or.inr ⟨a1, nl, nc, a2, a3, a4, (h2 0 (by omega)).trans a5, fun l hl => ?_⟩
    obtain ⟨kd, b, e, b1, b2, b3, b4, b5, b6, b7, b8, b9, b10, b11, b12, b13⟩ := a6 l hl
    refine ⟨kd, b, e, b1, b2, b3, b4, (h2 _ (by omega)).trans b5, b6.trans (h2 _ (by omega)).symm, ?_, b8, (h2 _ (by omega)).trans b9, b10, (h2 _ (by omega)).trans b11, fun i hi hi2 => ?_, ?_⟩
    · show 0 ≤ (I 0 48 (364 + (2 + 4 * l))).toInt ∧ (I 0 48 (364 + (2 + 4 * l))).toInt ≤ 100
      rw [h2 _ (by omega)]; exact b7
    · show gzCd _ (I 0 48 (364 + (49 + 2 * i))) (I 0 48 (364 + (50 + 2 * i)))
      rw [h2 _ (by omega), h2 _ (by omega)]; exact b12 i hi hi2
    · rcases b13 with q | q
      · exact Or.inl q
      · right
        have key : ∀ m i L, i + m ≤ 400 → gzSh (fun i => I 0 48 (364 + i)) i m L = gzSh v0 i m L := by
          intro m
          induction m with
          | zero => intro i L _; rfl
          | succ m ih =>
            intro i L hi
            show (if 24 < L.length then none else (gzSt (I 0 48 (364 + (49 + 2 * i))) L).bind (fun L' => gzSh (fun i => I 0 48 (364 + i)) (i + 1) m L')) = (if 24 < L.length then none else (gzSt (v0 (49 + 2 * i)) L).bind (fun L' => gzSh v0 (i + 1) m L'))
            rw [h2 _ (by omega)]
            by_cases q : 24 < L.length
            · rw [if_pos q, if_pos q]
            · rw [if_neg q, if_neg q]
              exact congrArg (Option.bind _) (funext fun L' => ih (i + 1) L' (by omega))
        rw [key (e - b) b [] (by omega)]
        exact q
theorem c_turns {g kd : Nat} (hT : gzTn Ic t w nf ng nl nx) (hx : gzWx w nf ng nl) (hm : gzVi Im w nf ng) (hg : g < ng) (hv : ∀ i, i < 849 → Im 0 48 (364 + i) = v i) (hlaw : gzLw Ic 0 v (w 3)) (hkd : kd < 3) (hφ : 500 < φ) : ∃ r F f', f_X8_turnsBy φ t 0 (Int32.ofNat (1023 + kd)) (Int32.ofNat g) Ic J = some (r, gz_uw (gz_uw Ic 0 26 F) 0 27 f', J) ∧ ∀ (N : gzIT) (J' : gzJT), (∀ k, k < 1213 → N 0 48 k = Im 0 48 k) → ∃ h', f_X12_byLaw φ (Int32.ofNat kd) (Int32.ofNat g) N J' = some (r, gz_uw N 0 55 h', J') := by
  obtain ⟨F, h1, h2⟩ := c_tell (J := J) (φ := φ) hT hx hg (by omega)
  have rd : ∀ (t' o : Nat), o ≠ 26 → gz_uw Ic 0 26 F t' o = Ic t' o := fun t' o ho => gz_uw_ne (by omega)
  have hT' : gzTn (gz_uw Ic 0 26 F) t w nf ng nl nx := gzTn_congr (fun o k h1 h2 => by rw [rd t o (by omega)]) hT
  have hlaw' : gzLw (gz_uw Ic 0 26 F) 0 v (w 3) := gzLw_congr (fun o k h1 h2 => by rw [rd 0 o (by omega)]) hlaw
  have hval : gz_uw Ic 0 26 F 0 20 7 ≠ -1 → ∀ c, c < 11 → gz_uw Ic 0 26 F 0 26 c = gzFc w ng g c := fun q c hc => by
    rw [gz_uw_eq]
    rw [rd 0 20 (by omega)] at q
    exact h2 q c hc
  have am : ∀ N : gzIT, (∀ k, k < 1213 → N 0 48 k = Im 0 48 k) → _ := fun N hN => r_amount (J := J) (φ := φ) (kd := kd) (gz_uw Ic 0 26 F 0 27) (N 0 55) hT' hx (gzVi_eq hm (fun k hk => hN k (by omega))) hg (fun i hi => (hN _ (by omega)).trans (hv i hi)) hlaw' hval hkd hφ
  obtain ⟨r, f', h', -, p1, p2⟩ := am Im (fun _ _ => rfl)
  rw [gz_uw_same rfl] at p1
  refine ⟨r, F, f', ?_, fun N J' hN => ?_⟩
  · unfold f_X8_turnsBy
    rw [h1]
    simp only [Option.bind_some]
    rw [p1]
    rfl
  · obtain ⟨r2, f2, h2, -, q1, q2⟩ := am N hN
    rw [gz_uw_same rfl] at q1
    have e : r2 = r := by
      have := q1.symm.trans p1
      simp only [Option.some.injEq, Prod.mk.injEq] at this
      exact this.1
    subst e
    have q3 := q2 J'
    rw [gz_uw_same rfl] at q3
    exact ⟨h2, q3⟩
theorem gzR_uw (h : gzR I I) {F f g : Nat → Int32} : gzR (gz_uw (gz_ui (gz_uw (gz_uw I 0 26 F) 0 27 f) 0 47 0 0) 0 55 g) (gz_uw (gz_ui (gz_uw (gz_uw I 0 26 F) 0 27 f) 0 47 0 0) 0 55 g) := by
  refine gzR_scr h fun t o k q => ?_
  have h1 : ¬ (o = 26 ∨ o = 27) := fun e => q (by unfold gzCs gzMw; omega)
  have h2 : ¬ (o = 55) := fun e => q (by unfold gzCs gzMw; omega)
  have h3 : ¬ (t = 0 ∧ o = 47 ∧ k = 0) := fun e => q (by unfold gzCs gzMw; omega)
  rw [gz_uw_ne (by omega)]
  refine (if_neg h3).trans ?_
  rw [gz_uw_ne (by omega), gz_uw_ne (by omega)]
theorem L_grudge (p0 p1 : Int32) (h : gzR I I) : ∃ e I1, f_X11_grudge 4096 p0 p1 I J = some (e, I1, J) ∧ (∀ E, e = .error E → ∃ k : Nat, (["java/lang/IndexOutOfBoundsException", "java/util/NoSuchElementException"] : List String)[k]? = some E) ∧ ∀ J' : gzJT, ∃ v I2 J2, f_X12_grudge 4096 p0 p1 I1 J' = some (v, I2, J2) ∧ gzSame e ["java/lang/IndexOutOfBoundsException", "java/util/NoSuchElementException"] v (I2 0 47 0) ∧ J2 0 59 0 = J' 0 59 0 ∧ gzR I2 I2 := by
  obtain ⟨nf, ng, nl, nx, hT, hx, c, b, m⟩ := gzR_go h
  obtain ⟨φ, hφ⟩ : ∃ φ, φ = 4096 := ⟨_, rfl⟩
  rw [← hφ]
  have n3 := c.1.2.2.1
  have n4 := c.1.2.2.2
  have hlaw := gzR_law h
  rcases p_gr (a := p0) (J := J) c (m 0) with ⟨⟨g, hg, rfl⟩, e1, e2⟩ | ⟨e1, e2⟩
  · -- the ten whats
    have simple : ∀ (k : Nat) (x : Int32), k < 7 → f_X11_grudge φ (Int32.ofNat g) (Int32.ofNat k) I J = some (.ok x, I, J) → I 0 48 (54 + 7 * g + k) = x → ∃ e I1, f_X11_grudge φ (Int32.ofNat g) (Int32.ofNat k) I J = some (e, I1, J) ∧ (∀ E, e = .error E → ∃ k : Nat, (["java/lang/IndexOutOfBoundsException", "java/util/NoSuchElementException"] : List String)[k]? = some E) ∧ ∀ J' : gzJT, ∃ v I2 J2, f_X12_grudge φ (Int32.ofNat g) (Int32.ofNat k) I1 J' = some (v, I2, J2) ∧ gzSame e ["java/lang/IndexOutOfBoundsException", "java/util/NoSuchElementException"] v (I2 0 47 0) ∧ J2 0 59 0 = J' 0 59 0 ∧ gzR I2 I2 := by
      intro k x hk hc hm
      refine ⟨.ok x, I, hc, fun E hE => (by cases hE), fun J' => ⟨x, gz_ui I 0 47 0 0, J', ?_, ⟨rfl, gz_ui_s⟩, rfl, gzR_thr h⟩⟩
      unfold f_X12_grudge
      rw [e2]
      simp only [Option.bind_some, s_throws0]
      rw [if_neg (by simp), show (10 : Int32) = Int32.ofNat (11 - 1) from rfl, s_X12_in0 (by omega) (by omega)]
      simp only [Option.bind_some, gz_not01, s_throws0, if_true]
      rw [if_neg (by rw [gzc_eq2 (by omega) (by omega)]; omega), if_neg (by rw [gzc_eq2 (by omega) (by omega)]; omega), if_neg (by rw [gzc_eq2 (by omega) (by omega)]; omega), if_neg (by rw [gzn_inj (by omega) (by omega)]; omega), s_X12_of (by omega) (by omega), gz_ui_o (by decide), hm]
      rfl
    have turns : ∀ (k kd : Nat), kd < 3 → k = 7 + kd → (∀ r M, f_X8_turnsBy φ 0 0 (Int32.ofNat (1023 + kd)) (Int32.ofNat g) I J = some (r, M, J) → f_X11_grudge φ (Int32.ofNat g) (Int32.ofNat k) I J = some (.ok r, M, J)) → (∀ (N : gzIT) (J' : gzJT) r N2, f_X12_noGrudge (gz_ui N 0 47 0 0) (Int32.ofNat g) = some 0 → f_X12_byLaw φ (Int32.ofNat kd) (Int32.ofNat g) (gz_ui N 0 47 0 0) J' = some (r, N2, J') → f_X12_grudge φ (Int32.ofNat g) (Int32.ofNat k) N J' = some (r, N2, J')) → ∃ e I1, f_X11_grudge φ (Int32.ofNat g) (Int32.ofNat k) I J = some (e, I1, J) ∧ (∀ E, e = .error E → ∃ k : Nat, (["java/lang/IndexOutOfBoundsException", "java/util/NoSuchElementException"] : List String)[k]? = some E) ∧ ∀ J' : gzJT, ∃ v I2 J2, f_X12_grudge φ (Int32.ofNat g) (Int32.ofNat k) I1 J' = some (v, I2, J2) ∧ gzSame e ["java/lang/IndexOutOfBoundsException", "java/util/NoSuchElementException"] v (I2 0 47 0) ∧ J2 0 59 0 = J' 0 59 0 ∧ gzR I2 I2 := by
      intro k kd hkd hk hc hmod
      have hmI : gzVi I (I 0 48) nf ng := gzVi_eq (m 0) (fun k hk => (if_neg (by omega)).symm)
      obtain ⟨r, F, f', q1, q2⟩ := c_turns (J := J) (φ := φ) (kd := kd) hT hx hmI hg (fun i hi => rfl) hlaw hkd (by omega)
      refine ⟨.ok r, _, hc r _ q1, fun E hE => (by cases hE), fun J' => ?_⟩
      have r48 : ∀ j, gz_ui (gz_uw (gz_uw I 0 26 F) 0 27 f') 0 47 0 0 0 48 j = I 0 48 j := fun j => by
        refine (if_neg (by omega)).trans ?_
        rw [gz_uw_ne (by omega), gz_uw_ne (by omega)]
      obtain ⟨g', q3⟩ := q2 (gz_ui (gz_uw (gz_uw I 0 26 F) 0 27 f') 0 47 0 0) J' (fun j _ => r48 j)
      refine ⟨r, _, J', hmod _ J' r _ (m_noGr (gzVi_eq hmI (fun j _ => r48 j)) hg) q3, ⟨rfl, ?_⟩, rfl, gzR_uw h⟩
      rw [gz_uw_ne (by omega)]
      exact gz_ui_s
    have vi := m 0
    rcases gz_byn p1 11 (by omega) with ⟨k, hk, rfl⟩ | a1 | ⟨a1, a2⟩
    · rcases (show k = 0 ∨ k = 1 ∨ k = 2 ∨ k = 3 ∨ k = 4 ∨ k = 5 ∨ k = 6 ∨ k = 7 ∨ k = 8 ∨ k = 9 ∨ k = 10 by omega) with rfl | rfl | rfl | rfl | rfl | rfl | rfl | rfl | rfl | rfl | rfl
      · refine simple 0 (I 0 8 g) (by omega) ?_ (by rw [show 54 + 7 * g + 0 = 54 + 7 * g by omega]; exact (gzTn_pr hT 8 g (54 + 7 * g) (by unfold gzQp; omega)).symm)
        unfold f_X11_grudge
        rw [e1]
        simp only [Option.bind_some, gzEx]
        rw [if_pos (by decide), gzGd_in (by omega) (by omega), gzn_clamp (by omega)]
      · refine simple 1 (I 0 9 g) (by omega) ?_ (by rw [show 54 + 7 * g + 1 = 55 + 7 * g by omega]; exact (gzTn_pr hT 9 g (55 + 7 * g) (by unfold gzQp; omega)).symm)
        unfold f_X11_grudge
        rw [e1]
        simp only [Option.bind_some, gzEx]
        rw [if_neg (by decide), if_pos (by decide), gzGd_in (by omega) (by omega), gzn_clamp (by omega)]
      · refine simple 2 (I 0 10 g) (by omega) ?_ (by rw [show 54 + 7 * g + 2 = 56 + 7 * g by omega]; exact (gzTn_pr hT 10 g (56 + 7 * g) (by unfold gzQp; omega)).symm)
        unfold f_X11_grudge
        rw [e1]
        simp only [Option.bind_some, gzEx]
        rw [if_neg (by decide), if_neg (by decide), if_pos (by decide), gzGd_in (by omega) (by omega), gzn_clamp (by omega)]
      · refine simple 3 (I 0 11 g) (by omega) ?_ (by rw [show 54 + 7 * g + 3 = 57 + 7 * g by omega]; exact (gzTn_pr hT 11 g (57 + 7 * g) (by unfold gzQp; omega)).symm)
        unfold f_X11_grudge
        rw [e1]
        simp only [Option.bind_some, gzEx]
        rw [if_neg (by decide), if_neg (by decide), if_neg (by decide), if_pos (by decide), gzGd_in (by omega) (by omega), gzn_clamp (by omega)]
      · refine simple 4 (I 0 12 g) (by omega) ?_ (by rw [show 54 + 7 * g + 4 = 58 + 7 * g by omega]; exact (gzTn_pr hT 12 g (58 + 7 * g) (by unfold gzQp; omega)).symm)
        unfold f_X11_grudge
        rw [e1]
        simp only [Option.bind_some, gzEx]
        rw [if_neg (by decide), if_neg (by decide), if_neg (by decide), if_neg (by decide), if_pos (by decide), gzGd_in (by omega) (by omega), gzn_clamp (by omega)]
      · refine simple 5 (if I 0 13 g = 0 then 0 else 1) (by omega) ?_ ?_
        · unfold f_X11_grudge
          rw [e1]
          simp only [Option.bind_some, gzEx]
          rw [if_neg (by decide), if_neg (by decide), if_neg (by decide), if_neg (by decide), if_neg (by decide), if_pos (by decide), gzGd_in (by omega) (by omega), gzn_clamp (by omega)]
        · rw [show 54 + 7 * g + 5 = 59 + 7 * g by omega, gzTn_pr hT 13 g (59 + 7 * g) (by unfold gzQp; omega)]
          rcases (hx.1.2.2.2.2.2 g hg).2.2.1 with q | q <;> rw [q] <;> rfl
      · refine simple 6 (if I 0 14 g = 0 then 0 else 1) (by omega) ?_ ?_
        · unfold f_X11_grudge
          rw [e1]
          simp only [Option.bind_some, gzEx]
          rw [if_neg (by decide), if_neg (by decide), if_neg (by decide), if_neg (by decide), if_neg (by decide), if_neg (by decide), if_pos (by decide), gzGd_in (by omega) (by omega), gzn_clamp (by omega)]
        · rw [show 54 + 7 * g + 6 = 60 + 7 * g by omega, gzTn_pr hT 14 g (60 + 7 * g) (by unfold gzQp; omega)]
          rcases (hx.1.2.2.2.2.2 g hg).2.2.2 with q | q <;> rw [q] <;> rfl
      · refine turns 7 0 (by omega) rfl (fun r M q => ?_) (fun N J' r N2 q1 q2 => ?_)
        · unfold f_X11_grudge
          rw [e1]
          simp only [Option.bind_some, gzEx]
          rw [if_neg (by decide), if_neg (by decide), if_neg (by decide), if_neg (by decide), if_neg (by decide), if_neg (by decide), if_neg (by decide), if_pos (by decide), show f_X8_turnsBy φ 0 0 1023 (Int32.ofNat g) I J = some (r, M, J) from q]
          rfl
        · unfold f_X12_grudge
          rw [q1]
          simp only [Option.bind_some, s_throws0]
          rw [if_neg (by simp), show f_X12_in (Int32.ofNat 7) 0 10 = some 1 from s_X12_in0 (k := 7) (n := 11) (by omega) (by omega)]
          simp only [Option.bind_some, gz_not01, s_throws0, if_true]
          rw [if_pos (by decide), show f_X12_byLaw φ 0 (Int32.ofNat g) (gz_ui N 0 47 0 0) J' = some (r, N2, J') from q2]
          rfl
      · refine turns 8 1 (by omega) rfl (fun r M q => ?_) (fun N J' r N2 q1 q2 => ?_)
        · unfold f_X11_grudge
          rw [e1]
          simp only [Option.bind_some, gzEx]
          rw [if_neg (by decide), if_neg (by decide), if_neg (by decide), if_neg (by decide), if_neg (by decide), if_neg (by decide), if_neg (by decide), if_neg (by decide), if_pos (by decide), show f_X8_turnsBy φ 0 0 1024 (Int32.ofNat g) I J = some (r, M, J) from q]
          rfl
        · unfold f_X12_grudge
          rw [q1]
          simp only [Option.bind_some, s_throws0]
          rw [if_neg (by simp), show f_X12_in (Int32.ofNat 8) 0 10 = some 1 from s_X12_in0 (k := 8) (n := 11) (by omega) (by omega)]
          simp only [Option.bind_some, gz_not01, s_throws0, if_true]
          rw [if_neg (by decide), if_pos (by decide), show f_X12_byLaw φ 1 (Int32.ofNat g) (gz_ui N 0 47 0 0) J' = some (r, N2, J') from q2]
          rfl
      · refine turns 9 2 (by omega) rfl (fun r M q => ?_) (fun N J' r N2 q1 q2 => ?_)
        · unfold f_X11_grudge
          rw [e1]
          simp only [Option.bind_some, gzEx]
          rw [if_neg (by decide), if_neg (by decide), if_neg (by decide), if_neg (by decide), if_neg (by decide), if_neg (by decide), if_neg (by decide), if_neg (by decide), if_neg (by decide), if_pos (by decide), show f_X8_turnsBy φ 0 0 1025 (Int32.ofNat g) I J = some (r, M, J) from q]
          rfl
        · unfold f_X12_grudge
          rw [q1]
          simp only [Option.bind_some, s_throws0]
          rw [if_neg (by simp), show f_X12_in (Int32.ofNat 9) 0 10 = some 1 from s_X12_in0 (k := 9) (n := 11) (by omega) (by omega)]
          simp only [Option.bind_some, gz_not01, s_throws0, if_true]
          rw [if_neg (by decide), if_neg (by decide), if_pos (by decide), show f_X12_byLaw φ 2 (Int32.ofNat g) (gz_ui N 0 47 0 0) J' = some (r, N2, J') from q2]
          rfl
      · obtain ⟨n, hn, en⟩ := gz_ice_b (w := I 0 48) (ng := ng) (fun g hg => (hx.1.2.2.2.2.2 g hg).2.1) n4
        refine ⟨.ok (if n = 0 then 0 else if tH (I 0 48) g = true then 0 else (I 0 48 (58 + 7 * g) * 100) / Int32.ofNat n), I, ?_, fun E hE => (by cases hE), fun J' => ⟨if n = 0 then 0 else if tH (I 0 48) g = true then 0 else (I 0 48 (58 + 7 * g) * 100) / Int32.ofNat n, gz_ui I 0 47 0 0, J', ?_, ⟨rfl, gz_ui_s⟩, rfl, gzR_thr h⟩⟩
        · unfold f_X11_grudge f_X1_hundredths
          rw [e1]
          simp only [Option.bind_some, gzEx]
          rw [if_neg (by decide), if_neg (by decide), if_neg (by decide), if_neg (by decide), if_neg (by decide), if_neg (by decide), if_neg (by decide), if_neg (by decide), if_neg (by decide), if_neg (by decide), if_pos (by decide), c_allIce c (by omega), en, c_frozen c hg, gzc_cell (by omega) (by omega), c.2.2.2.2.2.1 g hg]
          simp only [Option.bind_some]
          by_cases q : n = 0
          · rw [if_pos q, if_pos (by rw [gzc_le2 (by omega) (by omega)]; omega)]
            rfl
          · rw [if_neg q, if_neg (by rw [gzc_le2 (by omega) (by omega)]; omega)]
            by_cases x : tH (I 0 48) g = true
            · rw [if_pos x, if_pos x, if_pos rfl]; rfl
            · rw [if_neg x, if_neg x, if_neg (by decide)]
              unfold gzGn
              rw [if_neg (by rw [gzc_eq2 (by omega) (by omega)]; exact q)]
              rfl
        · unfold f_X12_grudge f_X12_shareOf
          rw [e2]
          simp only [Option.bind_some, s_throws0]
          rw [if_neg (by simp), show f_X12_in (Int32.ofNat 10) 0 10 = some 1 from s_X12_in0 (k := 10) (n := 11) (by omega) (by omega)]
          simp only [Option.bind_some, gz_not01, s_throws0, if_true]
          rw [if_neg (by decide), if_neg (by decide), if_neg (by decide), if_pos (by decide), m_standing vi (by omega)]
          simp only [Option.bind_some]
          rw [m_allIce vi (by omega), en]
          simp only [Option.bind_some]
          by_cases q : n = 0
          · rw [if_pos q, if_pos (by rw [gzc_eq2 (by omega) (by omega)]; exact q)]
            rfl
          · rw [if_neg q, if_neg (by rw [gzc_eq2 (by omega) (by omega)]; exact q), m_isThawed vi hg]
            simp only [Option.bind_some]
            by_cases x : tH (I 0 48) g = true
            · rw [if_pos x, if_pos x, if_neg (by decide)]; rfl
            · rw [if_neg x, if_neg x, if_pos rfl, m_of4 vi hg]
              simp only [Option.bind_some]
              unfold gzGn
              rw [if_neg (by rw [gzc_eq2 (by omega) (by omega)]; exact q), Int32.mul_comm 100]
              rfl
    · have hne : ∀ k, k < 11 → ¬ p1 = Int32.ofNat k := fun k hk q => by
        rw [q, gzc_lt0 (by omega)] at a1; exact a1
      refine ⟨.error "java/util/NoSuchElementException", I, ?_, fun E hE => ⟨1, by cases hE; rfl⟩, fun J' => ⟨0, gz_ui (gz_ui I 0 47 0 0) 0 47 0 2, J', ?_, ⟨1, rfl, gz_ui_s⟩, rfl, gzR_thr2 h⟩⟩
      · unfold f_X11_grudge
        rw [e1]
        simp only [Option.bind_some, gzEx]
        rw [if_neg (show ¬ p1 = 0 from hne 0 (by omega)), if_neg (show ¬ p1 = 1 from hne 1 (by omega)), if_neg (show ¬ p1 = 2 from hne 2 (by omega)), if_neg (show ¬ p1 = 3 from hne 3 (by omega)), if_neg (show ¬ p1 = 4 from hne 4 (by omega)), if_neg (show ¬ p1 = 5 from hne 5 (by omega)), if_neg (show ¬ p1 = 6 from hne 6 (by omega)), if_neg (show ¬ p1 = 7 from hne 7 (by omega)), if_neg (show ¬ p1 = 8 from hne 8 (by omega)), if_neg (show ¬ p1 = 9 from hne 9 (by omega)), if_neg (show ¬ p1 = 10 from hne 10 (by omega))]
      · unfold f_X12_grudge
        rw [e2]
        simp only [Option.bind_some, s_throws0]
        rw [if_neg (by simp), show f_X12_in p1 0 10 = some 0 from s_X12_in1 a1]
        simp only [Option.bind_some, gz_not00, s_throws1]
        rfl
    · have hne : ∀ k, k < 11 → ¬ p1 = Int32.ofNat k := fun k hk q => by
        rw [q, gzn_le (by omega) (by omega)] at a2; omega
      refine ⟨.error "java/util/NoSuchElementException", I, ?_, fun E hE => ⟨1, by cases hE; rfl⟩, fun J' => ⟨0, gz_ui (gz_ui I 0 47 0 0) 0 47 0 2, J', ?_, ⟨1, rfl, gz_ui_s⟩, rfl, gzR_thr2 h⟩⟩
      · unfold f_X11_grudge
        rw [e1]
        simp only [Option.bind_some, gzEx]
        rw [if_neg (show ¬ p1 = 0 from hne 0 (by omega)), if_neg (show ¬ p1 = 1 from hne 1 (by omega)), if_neg (show ¬ p1 = 2 from hne 2 (by omega)), if_neg (show ¬ p1 = 3 from hne 3 (by omega)), if_neg (show ¬ p1 = 4 from hne 4 (by omega)), if_neg (show ¬ p1 = 5 from hne 5 (by omega)), if_neg (show ¬ p1 = 6 from hne 6 (by omega)), if_neg (show ¬ p1 = 7 from hne 7 (by omega)), if_neg (show ¬ p1 = 8 from hne 8 (by omega)), if_neg (show ¬ p1 = 9 from hne 9 (by omega)), if_neg (show ¬ p1 = 10 from hne 10 (by omega))]
      · unfold f_X12_grudge
        rw [e2]
        simp only [Option.bind_some, s_throws0]
        rw [if_neg (by simp), show f_X12_in p1 0 10 = some 0 from s_X12_in2 (n := 11) (by omega) (by omega) a1 a2]
        simp only [Option.bind_some, gz_not00, s_throws1]
        rfl
  · refine ⟨.error "java/lang/IndexOutOfBoundsException", I, ?_, fun E hE => ⟨0, by cases hE; rfl⟩, fun J' => ⟨0, gz_ui (gz_ui I 0 47 0 0) 0 47 0 1, J', ?_, ⟨0, rfl, gz_ui_s⟩, rfl, gzR_thr2 h⟩⟩
    · unfold f_X11_grudge
      rw [e1]; rfl
    · unfold f_X12_grudge
      rw [e2]
      simp only [Option.bind_some, s_throws1]
      rfl
end
