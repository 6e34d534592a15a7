/-! the town's lines, both sides: families, SLIGHTS, single numbers, GRUDGES -/
/-- the model's family more -/
def gzFw (n a1 a2 a3 : Int32) (I : gzIT) (J : gzJT) : Option (Int32 × gzIT × gzJT) := Option.bind (f_X12_familyAt n 0) (fun v10 => gzGd (v10) 2062 (Option.bind (f_X12_familyAt n 1) (fun v13 => gzGd (v13) 2062 (Option.bind (f_X12_familyAt n 2) (fun v16 => gzGd (v16) 2062 (Option.bind (f_X12_familyAt n 3) (fun v19 => gzGd (v19) 2062 (some (1, gz_ui (gz_ui (gz_ui (gz_ui (gz_ui I 0 48 v10.toNatClampNeg a1) 0 48 v13.toNatClampNeg a2) 0 48 v16.toNatClampNeg a3) 0 48 v19.toNatClampNeg 0) 0 48 0 (((gz_ui (gz_ui (gz_ui (gz_ui I 0 48 v10.toNatClampNeg a1) 0 48 v13.toNatClampNeg a2) 0 48 v16.toNatClampNeg a3) 0 48 v19.toNatClampNeg 0) 0 48 0) + 1), J)))))))))
/-- the model's GRUDGE more -/
def gzGw (φ : Nat) (n a1 a2 a3 a4 x : Int32) (I : gzIT) (J : gzJT) : Option (Int32 × gzIT × gzJT) := Option.bind (f_X12_begins a1 a2 a3 a4 I J) (fun v76 => Option.bind (f_X12_at n 3) (fun v78 => gzGd (v78) 2062 (Option.bind (f_X12_at n 5) (fun v81 => Option.bind (f_X12_passes φ 28 (gz_ui v76.2.1 0 48 v78.toNatClampNeg x) v76.2.2) (fun v83 => gzGd (v81) 2062 (some (1, gz_ui v83.2.1 0 48 v81.toNatClampNeg (if v83.1 = 0 then (0 : Int32) else 1), v83.2.2)))))))
/-- the class's end of a GRUDGE's line -/
def gzGc (g : Int32) (I : gzIT) (J : gzJT) : Option (Except String Unit × gzIT × gzJT) := Option.bind (f_X7_take 1020 I J) (fun v44 => if v44.1 = 0 then (some (.ok (), v44.2.1, v44.2.2)) else (Option.bind (f_X1_makeNursed 1 g v44.2.1 v44.2.2) (fun v46 => some (.ok (), v46.2.1, v46.2.2))))
section
variable {I I' I2 X M A B Ic Im Ic' Im' Ic2 Im2 I1 A0 : gzIT} {J J' : gzJT} {φ nf ng n c N t : Nat} {bt bg en : Nat → Nat} {cd : Nat → Int32} {rc : Option (Except String Unit × gzIT × gzJT)} {rm : Option (Int32 × gzIT × gzJT)}
theorem gz_ge0 {p : Nat} (hp : p < 2 ^ 31) : (0 : Int32) ≤ Int32.ofNat p := (gzn_le (a := 0) (by omega) hp).2 (Nat.zero_le _)
theorem gz_nm1 {n v : Nat} (hn : n ≤ 1000) (hv : v < 1000) : Int32.ofNat v ≤ Int32.ofNat n - 1 ↔ v < n := by
  by_cases z : n = 0
  · subst z
    rw [show Int32.ofNat 0 - 1 = (-1 : Int32) from rfl, gzc_gem1 (by omega)]
    exact ⟨fun x => x.elim, fun x => by omega⟩
  · rw [show Int32.ofNat n - 1 = Int32.ofNat (n - 1) from gzc_sub (k := 1) (show 1 ≤ n by omega), gzn_le (by omega) (by omega)]
    omega
theorem gz_w0 : Option.bind (some ((0 : Int32), I, J)) (fun v => gzGz v.1 (some (v.1, v.2.1, v.2.2))) = some (0, I, J) := by
  show gzGz (0 : Int32) (some ((0 : Int32), I, J)) = _
  exact gzGz_in (Or.inl rfl)
theorem gz_w1 : Option.bind (some ((1 : Int32), I, J)) (fun v => gzGz v.1 (some (v.1, v.2.1, v.2.2))) = some (1, I, J) := by
  show gzGz (1 : Int32) (some ((1 : Int32), I, J)) = _
  exact gzGz_in (Or.inr rfl)
theorem gzTo_wrap {j : Nat} (h : gzToq N c bt bg cd Ic Im J J' j rc rm) : gzToq N c bt bg cd Ic Im J J' j (Option.bind rc (fun v => gzEx v.1 (fun E => some (.error E, v.2.1, v.2.2)) (fun _ => some (.ok (), v.2.1, v.2.2)))) (Option.bind rm (fun v => gzGz v.1 (some (v.1, v.2.1, v.2.2)))) := by
  rcases h with ⟨A, B, e1, e2, e3⟩ | ⟨A, B, j', nf, ng, e1, e2, e3⟩
  · rw [e1, e2]
    exact Or.inl ⟨A, B, rfl, gz_w0, e3⟩
  · rw [e1, e2]
    exact Or.inr ⟨A, B, j', nf, ng, rfl, gz_w1, e3⟩
theorem gzTo_step {j j0 : Nat} (h : gzToq N c bt bg cd Ic' Im' J J' j rc rm) (a : gzTg Ic Ic') (b : gzTm Im Im') (hj : j0 ≤ j) : gzToq N c bt bg cd Ic Im J J' j0 rc rm := by
  rcases h with ⟨A, B, e1, e2, e3⟩ | ⟨A, B, j', nf, ng, e1, e2, e3, e4, e5, e6⟩
  · exact Or.inl ⟨A, B, e1, e2, gzFq_step a b e3⟩
  · exact Or.inr ⟨A, B, j', nf, ng, e1, e2, e3, gzTg_trans a e4, gzTm_trans b e5, by omega⟩
theorem c_fadd {n : Nat} {a1 a2 a3 : Int32} (h5 : I t 1 5 = Int32.ofNat n) (hn : n < 6) : ∃ C : gzIT, f_X0_add t a1 a2 a3 I J = some ((), C, J) ∧ (∀ t' o j, ¬ (t' = t ∧ ((2 ≤ o ∧ o ≤ 5 ∧ j = n) ∨ (o = 1 ∧ j = 5))) → C t' o j = I t' o j) ∧ C t 1 5 = Int32.ofNat (n + 1) ∧ C t 2 n = a1 ∧ C t 3 n = a2 ∧ C t 4 n = a3 ∧ C t 5 n = 0 := by
  refine ⟨gz_ui (gz_ui (gz_ui (gz_ui (gz_ui I t 2 n a1) t 3 n a2) t 4 n a3) t 5 n 0) t 1 5 (Int32.ofNat (n + 1)), ?_, fun t' o j q => ?_, gz_ui_s, ?_, ?_, ?_, ?_⟩
  · unfold f_X0_add
    rw [h5, if_neg (by rw [gzc_le1 (by omega) (by omega)]; omega), gzGd_in hn (by omega), gzn_clamp (by omega), gzn_succ]
  all_goals unfold gz_ui
  all_goals repeat (first | rw [if_neg (by omega)] | rw [if_pos (by omega)])
theorem m_fadd {n : Nat} {a1 a2 a3 : Int32} (h0 : I 0 48 0 = Int32.ofNat n) (hn : n < 6) : ∃ T : gzIT, gzFw (Int32.ofNat n) a1 a2 a3 I J = some (1, T, J) ∧ (∀ t o j, ¬ (t = 0 ∧ o = 48 ∧ (j = 0 ∨ (30 + 4 * n ≤ j ∧ j < 34 + 4 * n))) → T t o j = I t o j) ∧ T 0 48 0 = Int32.ofNat (n + 1) ∧ T 0 48 (30 + 4 * n) = a1 ∧ T 0 48 (31 + 4 * n) = a2 ∧ T 0 48 (32 + 4 * n) = a3 ∧ T 0 48 (33 + 4 * n) = 0 := by
  refine ⟨gz_ui (gz_ui (gz_ui (gz_ui (gz_ui I 0 48 (30 + 4 * n) a1) 0 48 (31 + 4 * n) a2) 0 48 (32 + 4 * n) a3) 0 48 (33 + 4 * n) 0) 0 48 0 (Int32.ofNat (n + 1)), ?_, fun t o j q => ?_, gz_ui_s, ?_, ?_, ?_, ?_⟩
  · obtain ⟨M, eM⟩ : ∃ M, M = gz_ui (gz_ui (gz_ui (gz_ui I 0 48 (30 + 4 * n) a1) 0 48 (31 + 4 * n) a2) 0 48 (32 + 4 * n) a3) 0 48 (33 + 4 * n) 0 := ⟨_, rfl⟩
    have e1 : M 0 48 0 = Int32.ofNat n := by
      rw [eM]
      unfold gz_ui
      rw [if_neg (by omega), if_neg (by omega), if_neg (by omega), if_neg (by omega)]
      exact h0
    unfold gzFw f_X12_familyAt
    simp (disch := omega) only [Option.bind_some, gzc_mul, gzc_add', gzc_add, gzGd_in, gzn_clamp]
    rw [show 30 + 4 * n + 0 = 30 + 4 * n by omega, show 30 + 4 * n + 1 = 31 + 4 * n by omega, show 30 + 4 * n + 2 = 32 + 4 * n by omega, show 30 + 4 * n + 3 = 33 + 4 * n by omega, ← eM, e1, gzn_succ]
  all_goals unfold gz_ui
  all_goals repeat (first | rw [if_neg (by omega)] | rw [if_pos (by omega)])
theorem gz_bdF {k : Nat} {x : Int32} (hf : nf ≤ 6) (hk : k < nf) (h : 0 ≤ x.toInt ∧ x.toInt ≤ 9) : gzBd nf ng (30 + 4 * k) x :=
  ⟨fun q => by omega, fun q => by omega, fun q => by omega, fun q => by omega, fun q => by omega, fun f hf => ⟨fun q => h, fun q => by omega, fun q => by omega⟩, fun g hg => ⟨fun q => by omega, fun q => by omega, fun q => by omega⟩⟩
theorem gz_bdN {k : Nat} {x : Int32} (hf : nf ≤ 6) (hk : k < nf) (h : 0 ≤ x.toInt ∧ x.toInt ≤ 99) : gzBd nf ng (31 + 4 * k) x :=
  ⟨fun q => by omega, fun q => by omega, fun q => by omega, fun q => by omega, fun q => by omega, fun f hf => ⟨fun q => by omega, fun q => h, fun q => by omega⟩, fun g hg => ⟨fun q => by omega, fun q => by omega, fun q => by omega⟩⟩
theorem gz_bdG {k : Nat} {x : Int32} (hf : nf ≤ 6) (hk : k < ng) (h : 0 ≤ x.toInt ∧ x.toInt ≤ 99) : gzBd nf ng (57 + 7 * k) x :=
  ⟨fun q => by omega, fun q => by omega, fun q => by omega, fun q => by omega, fun q => by omega, fun f hf => ⟨fun q => by omega, fun q => by omega, fun q => by omega⟩, fun g hg => ⟨fun q => h, fun q => by omega, fun q => by omega⟩⟩
theorem gz_bdP {k i : Nat} {x : Int32} (hf : nf ≤ 6) (hi : i = 54 + 7 * k ∨ i = 55 + 7 * k ∨ i = 56 + 7 * k) : gzBd nf ng i x :=
  ⟨fun q => by omega, fun q => by omega, fun q => by omega, fun q => by omega, fun q => by omega, fun f hf => ⟨fun q => by omega, fun q => by omega, fun q => by omega⟩, fun g hg => ⟨fun q => by omega, fun q => by omega, fun q => by omega⟩⟩
theorem gz_bdS2 {i : Nat} {x : Int32} (hi : 14 ≤ i ∧ i < 30) (h : 0 ≤ x.toInt ∧ x.toInt ≤ 9) : gzBd nf ng i x :=
  ⟨fun q => by omega, fun q => by omega, fun q => by omega, fun q => by omega, fun q => h, fun f hf => ⟨fun q => by omega, fun q => by omega, fun q => by omega⟩, fun g hg => ⟨fun q => by omega, fun q => by omega, fun q => by omega⟩⟩
theorem gz_bdH {i : Nat} {x : Int32} (hi : i = 7 ∨ (10 ≤ i ∧ i < 14)) (h : 0 ≤ x.toInt ∧ x.toInt ≤ 100) : gzBd nf ng i x :=
  ⟨fun q => by omega, fun q => by omega, fun q => by omega, fun q => h, fun q => by omega, fun f hf => ⟨fun q => by omega, fun q => by omega, fun q => by omega⟩, fun g hg => ⟨fun q => by omega, fun q => by omega, fun q => by omega⟩⟩
theorem gz_bd6 {x : Int32} (h : x = 0 ∨ x = 1) : gzBd nf ng 6 x :=
  ⟨fun q => by omega, fun q => by omega, fun q => h, fun q => by omega, fun q => by omega, fun f hf => ⟨fun q => by omega, fun q => by omega, fun q => by omega⟩, fun g hg => ⟨fun q => by omega, fun q => by omega, fun q => by omega⟩⟩
theorem gz_nb {p : Nat} {b : Int} (hp : (p : Int) ≤ b) (hb : b ≤ 9999) : 0 ≤ (Int32.ofNat p).toInt ∧ (Int32.ofNat p).toInt ≤ b := by
  rw [gzn_int (by omega)]
  omega
/-- a family more, in both -/
theorem gzTw_fam {a1 a2 a3 : Nat} (h : gzTwq Ic Im nf ng) (hf : nf < 6) (fA : ∀ o j, ¬ ((2 ≤ o ∧ o ≤ 5 ∧ j = nf) ∨ (o = 1 ∧ j = 5)) → A 1 o j = Ic 1 o j) (fB : ∀ j, ¬ (j = 0 ∨ (30 + 4 * nf ≤ j ∧ j < 34 + 4 * nf)) → B 0 48 j = Im 0 48 j) (c0 : A 1 1 5 = Int32.ofNat (nf + 1)) (m0 : B 0 48 0 = Int32.ofNat (nf + 1)) (c1 : A 1 2 nf = Int32.ofNat a1) (m1 : B 0 48 (30 + 4 * nf) = Int32.ofNat a1) (c2 : A 1 3 nf = Int32.ofNat a2) (m2 : B 0 48 (31 + 4 * nf) = Int32.ofNat a2) (c3 : A 1 4 nf = Int32.ofNat a3) (m3 : B 0 48 (32 + 4 * nf) = Int32.ofNat a3) (c4 : A 1 5 nf = 0) (m4 : B 0 48 (33 + 4 * nf) = 0) (b1 : a1 ≤ 9) (b2 : a2 ≤ 99) (b3 : a3 ≤ 999) : gzTwq A B (nf + 1) ng := by
  obtain ⟨nl, nx, hT, hx⟩ := id h.1
  obtain ⟨n1, n2, n3, n4, n5, n6⟩ := hT.1
  refine gzTw_ch h ⟨by omega, n2⟩ ⟨c0, m0, (fA 7 7 (by omega)).trans n5, (fB 1 (by omega)).trans n6⟩ (fun o k i q => ?_) (fun g hg => ?_) (fun i hi => ?_) (fun o j q => fA o j (by omega)) (fun j q => fB j (by omega)) ⟨fun k hk => ?_, ?_⟩
  · by_cases z : 2 ≤ o ∧ o ≤ 5 ∧ k = nf
    · left
      obtain ⟨z1, z2, rfl⟩ := z
      have e : i = 28 + o + 4 * k := by
        unfold gzQp at q
        rcases q with q | q | q | q | q | q | q | q <;> omega
      subst e
      rcases (show o = 2 ∨ o = 3 ∨ o = 4 ∨ o = 5 by omega) with rfl | rfl | rfl | rfl
      · exact c1.trans m1.symm
      · exact c2.trans m2.symm
      · exact c3.trans m3.symm
      · exact c4.trans m4.symm
    · right
      have e1 : ¬ (o = 1 ∧ k = 5) ∧ ¬ (i = 0 ∨ (30 + 4 * nf ≤ i ∧ i < 34 + 4 * nf)) := by
        unfold gzQp at q
        rcases q with q | q | q | q | q | q | q | q <;> omega
      refine ⟨fA o k (by omega), fB i e1.2, ?_⟩
      unfold gzQp at q ⊢
      rcases q with q | q | q | q | q | q | q | q
      · exact Or.inl q
      · exact Or.inr (Or.inl q)
      · exact Or.inr (Or.inr (Or.inl q))
      · exact Or.inr (Or.inr (Or.inr (Or.inl q)))
      · exact Or.inr (Or.inr (Or.inr (Or.inr (Or.inl q))))
      · exact Or.inr (Or.inr (Or.inr (Or.inr (Or.inr (Or.inl q)))))
      · exact Or.inr (Or.inr (Or.inr (Or.inr (Or.inr (Or.inr (Or.inl ⟨q.1, q.2.1, by omega, q.2.2.2⟩))))))
      · exact Or.inr (Or.inr (Or.inr (Or.inr (Or.inr (Or.inr (Or.inr q))))))
  · obtain ⟨a, b, s, x1, x2, x3, x4, x5, x6, x7⟩ := (gzWx_bd n1 hx).1 g hg
    exact ⟨a, b, s, by omega, by omega, x3, x4, (fB _ (by omega)).trans x5, (fB _ (by omega)).trans x6, (fB _ (by omega)).trans x7⟩
  · by_cases z : 30 + 4 * nf ≤ i ∧ i < 34 + 4 * nf
    · left
      rcases (show i = 30 + 4 * nf ∨ i = 31 + 4 * nf ∨ i = 32 + 4 * nf ∨ i = 33 + 4 * nf by omega) with rfl | rfl | rfl | rfl
      · rw [m1]; exact gz_bdF (by omega) (by omega) (gz_nb (by omega) (by omega))
      · rw [m2]; exact gz_bdN (by omega) (by omega) (gz_nb (by omega) (by omega))
      · rw [m3]; exact gz_bdL (by omega) (by omega) (gz_nb (by omega) (by omega))
      · rw [m4]; exact gz_bdO (by omega) (by omega) ⟨by decide, by decide⟩
    · by_cases y : i = 0
      · left
        exact gz_bd0 (by omega)
      · right
        exact ⟨fB i (by omega), by omega, by omega⟩
  · rw [fA 13 k (by omega), fA 14 k (by omega)]; exact h.2.1 k hk
  · rw [fA 0 9 (by omega)]; exact h.2.2
/-- a GRUDGE more, in both -/
theorem gzTw_gr {a b s : Nat} (h : gzTwq Ic Im nf ng) (hg : ng < 10) (fA : ∀ o k, o < 20 → ¬ ((8 ≤ o ∧ o ≤ 14 ∧ k = ng) ∨ (o = 7 ∧ k = 7)) → A 1 o k = Ic 1 o k) (fB : ∀ i, ¬ (i = 1 ∨ (54 + 7 * ng ≤ i ∧ i ≤ 60 + 7 * ng)) → B 0 48 i = Im 0 48 i) (c0 : A 1 7 7 = Int32.ofNat (ng + 1)) (m0 : B 0 48 1 = Int32.ofNat (ng + 1)) (hp : ∀ o, 8 ≤ o → o ≤ 14 → A 1 o ng = B 0 48 (46 + o + 7 * ng)) (ha : a < nf) (hb : b < nf) (hab : a ≠ b) (hs : s < 8) (v8 : B 0 48 (54 + 7 * ng) = Int32.ofNat a) (v9 : B 0 48 (55 + 7 * ng) = Int32.ofNat b) (v10 : B 0 48 (56 + 7 * ng) = Int32.ofNat s) (v11 : 0 ≤ (B 0 48 (57 + 7 * ng)).toInt ∧ (B 0 48 (57 + 7 * ng)).toInt ≤ 99) (v12 : 0 ≤ (B 0 48 (58 + 7 * ng)).toInt ∧ (B 0 48 (58 + 7 * ng)).toInt ≤ 999) (v13 : B 0 48 (59 + 7 * ng) = 0 ∨ B 0 48 (59 + 7 * ng) = 1) (v14 : B 0 48 (60 + 7 * ng) = 0 ∨ B 0 48 (60 + 7 * ng) = 1) : gzTwq A B nf (ng + 1) := by
  obtain ⟨nl, nx, hT, hx⟩ := id h.1
  obtain ⟨n1, n2, n3, n4, n5, n6⟩ := hT.1
  refine gzTw_ch h ⟨n1, by omega⟩ ⟨(fA 1 5 (by omega) (by omega)).trans n3, (fB 0 (by omega)).trans n4, c0, m0⟩ (fun o k i q => ?_) (fun g hg2 => ?_) (fun i hi => ?_) (fun o j q => fA o j (by omega) (by omega)) (fun j q => fB j (by omega)) ⟨fun k hk => ?_, ?_⟩
  · by_cases z : 8 ≤ o ∧ o ≤ 14 ∧ k = ng
    · left
      obtain ⟨z1, z2, rfl⟩ := z
      have e : i = 46 + o + 7 * k := by
        unfold gzQp at q
        rcases q with q | q | q | q | q | q | q | q <;> omega
      subst e
      exact hp o z1 z2
    · right
      have q2 := gzQp_less q z
      have q3 := gzQp_lim n1 q2
      exact ⟨fA o k q3.1 (by omega), fB i (by omega), q2⟩
  · by_cases z : g = ng
    · subst z
      exact ⟨a, b, s, ha, hb, hab, hs, v8, v9, v10⟩
    · obtain ⟨a, b, s, x1, x2, x3, x4, x5, x6, x7⟩ := (gzWx_bd n1 hx).1 g (by omega)
      exact ⟨a, b, s, x1, x2, x3, x4, (fB _ (by omega)).trans x5, (fB _ (by omega)).trans x6, (fB _ (by omega)).trans x7⟩
  · by_cases z : 54 + 7 * ng ≤ i ∧ i ≤ 60 + 7 * ng
    · left
      rcases (show (i = 54 + 7 * ng ∨ i = 55 + 7 * ng ∨ i = 56 + 7 * ng) ∨ i = 57 + 7 * ng ∨ i = 58 + 7 * ng ∨ i = 59 + 7 * ng ∨ i = 60 + 7 * ng by omega) with q | rfl | rfl | rfl | rfl
      · exact gz_bdP n1 q
      · exact gz_bdG n1 (by omega) v11
      · exact gz_bdI n1 (by omega) v12
      · exact gz_bdU n1 (Or.inl rfl) v13
      · exact gz_bdU n1 (Or.inr rfl) v14
    · by_cases y : i = 1
      · left
        exact gz_bd0 (by omega)
      · right
        exact ⟨fB i (by omega), by omega, by omega⟩
  · by_cases z : k = ng
    · subst z
      rw [hp 13 (by omega) (by omega), hp 14 (by omega) (by omega)]
      exact ⟨v13, v14⟩
    · rw [fA 13 k (by omega) (by omega), fA 14 k (by omega) (by omega)]; exact h.2.1 k hk
  · rw [fA 0 9 (by omega) (by omega)]; exact h.2.2
/-- the end of a family's line -/
theorem r_famE {j j0 p q l : Nat} {x : Int32} (hf : nf < 6) (h1 : gzCa c bg cd j A) (h2 : gzMa N c bt bg j B) (h3 : gzTwq A B nf ng) (fc : gzTg Ic A) (fm : gzTm Im B) (hj : j0 < j) (hp : p < 10) (hq : q < 100) (hl : l < 1000) (hx : x = Int32.ofNat l) : gzToq N c bt bg cd Ic Im J J' j0 (Option.bind (f_X0_add 1 (Int32.ofNat p) (Int32.ofNat q) x A J) (fun v => some (.ok (), v.2.1, v.2.2))) (gzFw (Int32.ofNat nf) (Int32.ofNat p) (Int32.ofNat q) x B J') := by
  subst hx
  obtain ⟨nl, nx, hT, hx⟩ := id h3.1
  obtain ⟨n1, n2, n3, n4, n5, n6⟩ := hT.1
  obtain ⟨C, c1, c2, c3, c4, c5, c6, c7⟩ := c_fadd (J := J) (a1 := Int32.ofNat p) (a2 := Int32.ofNat q) (a3 := Int32.ofNat l) n3 hf
  obtain ⟨T, t1, t2, t3, t4, t5, t6, t7⟩ := m_fadd (J := J') (a1 := Int32.ofNat p) (a2 := Int32.ofNat q) (a3 := Int32.ofNat l) n4 hf
  rw [c1, t1]
  exact Or.inr ⟨C, T, j, nf + 1, ng, rfl, rfl, ⟨gzCa_tw h1 (fun o k ho => c2 0 o k (by omega)), gzMa_tw h2 (fun o k ho => t2 0 o k (by omega)), gzTw_fam h3 hf (fun o j q => c2 1 o j (by omega)) (fun j q => t2 0 48 j (by omega)) c3 t3 c4 t4 c5 t5 c6 t6 c7 t7 (by omega) (by omega) (by omega)⟩, fun t o k q r => (c2 t o k (by omega)).trans (fc t o k q r), fun t o k q r => (t2 t o k (by omega)).trans (fm t o k q r), hj⟩
/-- a family's line -/
theorem r_fam {j : Nat} (hk : gzTkq N c bt bg en cd) (hφ : 500 < φ) (hy : gzTyq N c bt bg cd Ic Im j nf ng) (hc : cd j = 1030) (hI1 : gzMo Im I1) (h12 : I1 0 47 12 = Int32.ofNat (bg j)) (hB1 : gzMa N c bt bg (j + 1) I1) : gzToq N c bt bg cd Ic Im J J' j (f_X9_readFamily 1 Ic J) (f_X12_readFamily φ I1 J') := by
  obtain ⟨w17, w18, w19, w20, -⟩ := gzWa_tab2
  obtain ⟨y1, y2, y3⟩ := hy
  obtain ⟨nl, nx, hT, hx⟩ := id y3.1
  obtain ⟨n1, n2, n3, n4, n5, n6⟩ := hT.1
  have m0 : I1 0 48 0 = Int32.ofNat nf := (hI1 0 48 0 (by omega)).trans n4
  unfold f_X9_readFamily f_X12_readFamily f_X12_families
  rw [n3, m0]
  simp only [Option.bind_some]
  by_cases z : nf = 6
  · rw [if_neg (by rw [gzc_lt2 (by omega) (by omega)]; omega), if_neg (fun y => y (by rw [z]; rfl)), c_wrong y1]
    exact Or.inl ⟨_, I1, rfl, rfl, gzFq_wg hI1 h12⟩
  · rw [if_pos (by rw [gzc_lt2 (by omega) (by omega)]; omega), if_pos (show ¬ Int32.ofNat nf = 6 by rw [gzc_eq2 (by omega) (by omega)]; exact z)]
    unfold f_X9_readFamily_19
    obtain ⟨A1, a1, a2, a3, -⟩ := c_needY (J := J) hk y1 hc (by decide)
    rw [a1]
    simp only [Option.bind_some, gzEx_okq]
    rcases r_after (φ := φ) (J := J) (J' := J') (a := 18) (x := 1015) (y := 9) (hi := 9) (n := 10) hk hφ a2 hB1 (by omega) (by omega) w18 (by decide) (by omega) rfl (fun v hv => by rw [gzc_le2 (by omega) (by omega)]; omega) with ⟨A, B, c1, c2, c3⟩ | ⟨A0, A, B, c1, c2, c3, c4⟩ | ⟨A0, A2, B2, p, p1, c1, c2, c3, c4, c5, c6, c7⟩
    · rw [c1, c2]
      refine Or.inl ⟨A, B, rfl, ?_, gzFq_step (gzTg_fk a3) (gzTm_mo hI1) c3⟩
      simp only [Option.bind_some]
      rw [if_neg (by decide), if_neg (by decide)]
    · rw [c1]
      simp only [Option.bind_some, gzEx_okq]
      rw [c2, c3]
      refine Or.inl ⟨A, B, rfl, ?_, gzFq_step (gzTg_fk a3) (gzTm_mo hI1) c4⟩
      simp only [Option.bind_some]
      rw [if_neg (by decide), if_neg (by decide)]
    · rw [c1]
      simp only [Option.bind_some, gzEx_okq]
      rw [c2, c3]
      simp only [Option.bind_some, gzEx_okq]
      rw [if_pos (gz_ge0 (by omega))]
      have d3 := gzFk_trans a3 c6
      have e3 := gzMo_trans hI1 c7
      rcases r_after (φ := φ) (J := J) (J' := J') (a := 19) (x := 1031) (y := 99) (hi := 99) (n := 100) hk hφ c4 c5 (by omega) (by omega) w19 (by decide) (by omega) rfl (fun v hv => by rw [gzc_le2 (by omega) (by omega)]; omega) with ⟨A, B, b1, b2, b3⟩ | ⟨A0, A, B, b1, b2, b3, b4⟩ | ⟨A0, A3, B3, q, q1, b1, b2, b3, b4, b5, b6, b7⟩
      · rw [b1, b2]
        refine Or.inl ⟨A, B, rfl, ?_, gzFq_step (gzTg_fk d3) (gzTm_mo e3) b3⟩
        simp only [Option.bind_some]
        rw [if_neg (by decide)]
      · rw [b1]
        simp only [Option.bind_some, gzEx_okq]
        rw [b2, b3]
        refine Or.inl ⟨A, B, rfl, ?_, gzFq_step (gzTg_fk d3) (gzTm_mo e3) b4⟩
        simp only [Option.bind_some]
        rw [if_neg (by decide)]
      · rw [b1]
        simp only [Option.bind_some, gzEx_okq]
        rw [b2, b3]
        simp only [Option.bind_some, gzEx_okq]
        rw [if_pos (gz_ge0 (by omega))]
        have d4 := gzFk_trans d3 b6
        have e4 := gzMo_trans e3 b7
        by_cases zl : cd (j + 1 + 2 + 2) = 1032
        · obtain ⟨A4, f1, f2, f3, -⟩ := c_takeY (J := J) hk b4 zl (by decide)
          obtain ⟨B4, g1, g2, g3, -⟩ := m_passY (φ := φ) (J := J') (a := 20) hk b5 (by omega) (by omega) (zl.trans w20.symm) hφ
          rw [f1, g1]
          simp only [Option.bind_some]
          rw [if_neg (by decide), if_neg (by decide)]
          have d5 := gzFk_trans d4 f3
          have e5 := gzMo_trans e4 g3
          rcases r_num (φ := φ) (J := J) (J' := J') (y := 999) (hi := 999) (n := 1000) hk hφ f2 g2 (by omega) rfl (fun v hv => by rw [gzc_le2 (by omega) (by omega)]; omega) with ⟨A, B, h1, h2, h3⟩ | ⟨A5, B5, l, l1, -, h1, h2, h3, h4, h5, h6⟩
          · rw [h1, h2]
            refine Or.inl ⟨A, B, rfl, ?_, gzFq_step (gzTg_fk d5) (gzTm_mo e5) h3⟩
            simp only [Option.bind_some]
            rw [if_neg (by decide)]
          · rw [h1, h2]
            simp only [Option.bind_some, gzEx_okq]
            rw [if_pos (gz_ge0 (by omega))]
            exact r_famE (A := A5) (B := B5) (p := p) (q := q) (l := l) (j := j + 1 + 2 + 2 + 1 + 1) (by omega) h3 h4 (gzTw_st y3 (gzFk_trans d5 h5) (gzMo_trans e5 h6)) (gzTg_fk (gzFk_trans d5 h5)) (gzTm_mo (gzMo_trans e5 h6)) (by omega) p1 q1 l1 rfl
        · obtain ⟨B4, g1, g2, g3, -⟩ := m_passN (φ := φ) (J := J') (a := 20) hk b5 (by omega) (by omega) (by rw [w20]; exact zl) hφ
          rw [c_takeN b4 zl, g1]
          simp only [Option.bind_some]
          rw [if_pos (by decide), if_pos (by decide), if_pos (show (0 : Int32) ≤ 0 by decide)]
          exact r_famE (A := A3) (B := B4) (p := p) (q := q) (l := 0) (j := j + 1 + 2 + 2) (by omega) b4 g2 (gzTw_st y3 d4 (gzMo_trans e4 g3)) (gzTg_fk d4) (gzTm_mo (gzMo_trans e4 g3)) (by omega) p1 q1 (by omega) rfl
/-- a SLIGHT's line, behind its word -/
theorem r_sli {j : Nat} (hk : gzTkq N c bt bg en cd) (hφ : 500 < φ) (hy : gzTyq N c bt bg cd Ic Im j nf ng) : gzToq N c bt bg cd Ic Im J J' j (f_X9_readSlight 1 Ic J) (f_X12_readSlight φ Im J') := by
  obtain ⟨-, -, -, -, -, w22, w23, -⟩ := gzWa_tab2
  obtain ⟨y1, y2, y3⟩ := hy
  unfold f_X9_readSlight f_X12_readSlight
  rcases r_letter (φ := φ) (J := J) (J' := J') hk hφ y1 y2 with ⟨A, B, a1, a2, a3⟩ | ⟨A1, B1, s, s1, a1, a2, a3, a4, a5, a6⟩
  · rw [a1, a2]
    refine Or.inl ⟨A, B, rfl, ?_, a3⟩
    simp only [Option.bind_some]
    rw [if_neg (by decide), if_neg (by decide), if_neg (by decide)]
  · rw [a1, a2]
    simp only [Option.bind_some, gzEx_okq]
    rw [if_pos (gz_ge0 (by omega))]
    rcases r_after (φ := φ) (J := J) (J' := J') (a := 22) (x := 1016) (y := 9) (hi := 9) (n := 10) hk hφ a3 a4 (by omega) (by omega) w22 (by decide) (by omega) rfl (fun v hv => by rw [gzc_le2 (by omega) (by omega)]; omega) with ⟨A, B, c1, c2, c3⟩ | ⟨A0, A, B, c1, c2, c3, c4⟩ | ⟨A0, A2, B2, p, p1, c1, c2, c3, c4, c5, c6, c7⟩
    · rw [c1, c2]
      refine Or.inl ⟨A, B, rfl, ?_, gzFq_step (gzTg_fk a5) (gzTm_mo a6) c3⟩
      simp only [Option.bind_some]
      rw [if_neg (by decide), if_neg (by decide)]
    · rw [c1]
      simp only [Option.bind_some, gzEx_okq]
      rw [c2, c3]
      refine Or.inl ⟨A, B, rfl, ?_, gzFq_step (gzTg_fk a5) (gzTm_mo a6) c4⟩
      simp only [Option.bind_some]
      rw [if_neg (by decide), if_neg (by decide)]
    · rw [c1]
      simp only [Option.bind_some, gzEx_okq]
      rw [c2, c3]
      simp only [Option.bind_some, gzEx_okq]
      rw [if_pos (gz_ge0 (by omega))]
      have d3 := gzFk_trans a5 c6
      have e3 := gzMo_trans a6 c7
      rcases r_after (φ := φ) (J := J) (J' := J') (a := 23) (x := 1017) (y := 9) (hi := 9) (n := 10) hk hφ c4 c5 (by omega) (by omega) w23 (by decide) (by omega) rfl (fun v hv => by rw [gzc_le2 (by omega) (by omega)]; omega) with ⟨A, B, b1, b2, b3⟩ | ⟨A0, A, B, b1, b2, b3, b4⟩ | ⟨A0, A3, B3, q, q1, b1, b2, b3, b4, b5, b6, b7⟩
      · rw [b1, b2]
        refine Or.inl ⟨A, B, rfl, ?_, gzFq_step (gzTg_fk d3) (gzTm_mo e3) b3⟩
        simp only [Option.bind_some]
        rw [if_neg (by decide)]
      · rw [b1]
        simp only [Option.bind_some, gzEx_okq]
        rw [b2, b3]
        refine Or.inl ⟨A, B, rfl, ?_, gzFq_step (gzTg_fk d3) (gzTm_mo e3) b4⟩
        simp only [Option.bind_some]
        rw [if_neg (by decide)]
      · rw [b1]
        simp only [Option.bind_some, gzEx_okq]
        rw [b2, b3]
        simp only [Option.bind_some, gzEx_okq]
        rw [if_pos (gz_ge0 (by omega)), gzc_write (by omega) (by omega)]
        simp only [Option.bind_some]
        rw [gzc_write (by omega) (by omega), gzc_mul, gzc_add', gzc_add, gzc_add, gzGd_in (show 14 + 2 * s + 0 < 2062 by omega) (by omega), gzGd_in (show 14 + 2 * s + 1 < 2062 by omega) (by omega), gzn_clamp (show 14 + 2 * s + 0 < 2 ^ 31 by omega), gzn_clamp (show 14 + 2 * s + 1 < 2 ^ 31 by omega), show 14 + 2 * s + 0 = 14 + 2 * s by omega, show 14 + 2 * s + 1 = 15 + 2 * s by omega]
        simp only [Option.bind_some]
        have d4 := gzFk_trans d3 b6
        have e4 := gzMo_trans e3 b7
        have t1 := gzTw_one (o := 17) (k := s) (i := 14 + 2 * s) (x := Int32.ofNat p) (gzTw_st y3 d4 e4) (by omega) (gz_bdS2 (by omega) (gz_nb (by omega) (by omega))) (fun x => by omega)
        have t2 := gzTw_one (o := 18) (k := s) (i := 15 + 2 * s) (x := Int32.ofNat q) t1 (by omega) (gz_bdS2 (by omega) (gz_nb (by omega) (by omega))) (fun x => by omega)
        refine Or.inr ⟨_, _, j + 1 + 2 + 2, nf, ng, rfl, rfl, ⟨gzCa_tw b4 (fun o k ho => (if_neg (by omega)).trans (if_neg (by omega))), gzMa_tw b5 (fun o k ho => (if_neg (by omega)).trans (if_neg (by omega))), t2⟩, fun t o k q r => ?_, fun t o k q r => ?_, by omega⟩
        · exact (if_neg (by omega)).trans ((if_neg (by omega)).trans (d4 t o k q))
        · exact (if_neg (by omega)).trans ((if_neg (by omega)).trans (e4 t o k q))
/-- a single number of the town, behind its word -/
theorem r_oneN {j n k i : Nat} {y hi a1 : Int32} (hk : gzTkq N c bt bg en cd) (hφ : 500 < φ) (hy : gzTyq N c bt bg cd Ic Im j nf ng) (hn : n ≤ 1000) (hy1 : y + 1 = Int32.ofNat n) (hh : ∀ v, v < 1000 → (Int32.ofNat v ≤ hi ↔ v < n)) (ha : a1 = Int32.ofNat i) (hki : (k = 8 ∧ i = 5) ∨ (k = 10 ∧ i = 7 ∧ n = 101) ∨ (k = 7 ∧ i = 4)) : gzToq N c bt bg cd Ic Im J J' j (Option.bind (f_X7_number y Ic J) (fun v => gzEx v.1 (fun E => some (.error E, v.2.1, v.2.2)) (fun w => some (.ok (), gz_ui v.2.1 1 0 k w, v.2.2)))) (Option.bind (f_X12_readNumber φ a1 0 hi Im J') (fun v => gzGz v.1 (some (v.1, v.2.1, v.2.2)))) := by
  subst ha
  obtain ⟨y1, y2, y3⟩ := hy
  unfold f_X12_readNumber
  rcases r_num (φ := φ) (J := J) (J' := J') hk hφ y1 y2 hn hy1 hh with ⟨A, B, a1, a2, a3⟩ | ⟨A, B, v, v1, -, a1, a2, a3, a4, a5, a6⟩
  · rw [a1, a2]
    simp only [Option.bind_some]
    rw [if_neg (by decide), gzGd_in (by omega) (by omega), gzn_clamp (by omega), if_pos (show (-1 : Int32) < 0 by decide)]
    refine Or.inl ⟨A, gz_ui B 0 48 i (B 0 48 i), rfl, gz_w0, a3.1, fun t o k q r => ?_, a3.2.2.trans (if_neg (by omega)).symm⟩
    refine Eq.trans ?_ (a3.2.1 t o k q r)
    unfold gz_ui
    split
    · next e => obtain ⟨e1, e2, e3⟩ := e; rw [e1, e2, e3]
    · rfl
  · rw [a1, a2]
    simp only [Option.bind_some, gzEx_okq]
    rw [if_pos (gz_ge0 (by omega)), gzGd_in (by omega) (by omega), gzn_clamp (by omega), if_neg (by rw [gzc_lt0 (by omega)]; exact id)]
    have t1 := gzTw_one (o := 0) (k := k) (i := i) (x := Int32.ofNat v) (gzTw_st y3 a5 a6) (by omega) (by
      rcases hki with ⟨-, rfl⟩ | ⟨-, rfl, rfl⟩ | ⟨-, rfl⟩
      · exact gz_bdS (Or.inr rfl) (gz_nb (by omega) (by omega))
      · exact gz_bdH (Or.inl rfl) (gz_nb (by omega) (by omega))
      · exact gz_bdS (Or.inl rfl) (gz_nb (by omega) (by omega))) (fun _ x => by omega)
    refine Or.inr ⟨gz_ui A 1 0 k (Int32.ofNat v), gz_ui B 0 48 i (Int32.ofNat v), j + 1, nf, ng, rfl, gz_w1, ⟨gzCa_tw a3 (fun o k ho => if_neg (by omega)), gzMa_tw a4 (fun o k ho => if_neg (by omega)), t1⟩, fun t o k q r => ?_, fun t o k q r => ?_, by omega⟩
    · exact (if_neg (by omega)).trans (a5 t o k q)
    · exact (if_neg (by omega)).trans (a6 t o k q)
/-- HEAT's line, behind its word -/
theorem r_hea {j : Nat} (hk : gzTkq N c bt bg en cd) (hφ : 500 < φ) (hy : gzTyq N c bt bg cd Ic Im j nf ng) : gzToq N c bt bg cd Ic Im J J' j (Option.bind (f_X7_among 1008 4 Ic J) (fun v32 => gzEx v32.1 (fun E => some (.error E, v32.2.1, v32.2.2)) (fun w34 => Option.bind (f_X7_number 20 v32.2.1 v32.2.2) (fun v36 => gzEx v36.1 (fun E => some (.error E, v36.2.1, v36.2.2)) (fun w38 => Option.bind (f_X11_write 1 19 4 w34 w38 v36.2.1 v36.2.2) (fun v40 => some (.ok (), v40.2.1, v40.2.2))))))) (Option.bind (f_X12_readHeat φ Im J') (fun v => gzGz v.1 (some (v.1, v.2.1, v.2.2)))) := by
  obtain ⟨y1, y2, y3⟩ := hy
  unfold f_X12_readHeat
  rcases r_seasonT (φ := φ) (J := J) (J' := J') hk hφ y1 y2 with ⟨A, B, a1, a2, a3⟩ | ⟨A1, B1, s, s1, a1, a2, a3, a4, a5, a6⟩
  · rw [a1, a2]
    simp only [Option.bind_some]
    rw [if_pos (by decide)]
    exact Or.inl ⟨A, B, rfl, gz_w0, a3⟩
  · rw [a1, a2]
    simp only [Option.bind_some, gzEx_okq]
    rw [if_neg (by rw [gzc_lt0 (by omega)]; exact id)]
    unfold f_X12_readNumber
    rcases r_num (φ := φ) (J := J) (J' := J') (y := 20) (hi := 20) (n := 21) hk hφ a3 a4 (by omega) rfl (fun v hv => by rw [gzc_le2 (by omega) (by omega)]; omega) with ⟨A, B, b1, b2, b3⟩ | ⟨A, B, v, v1, -, b1, b2, b3, b4, b5, b6⟩
    · rw [b1, b2]
      simp only [Option.bind_some]
      rw [if_neg (by decide), gzc_add', gzGd_in (by omega) (by omega), gzn_clamp (by omega)]
      simp only [Option.bind_some]
      rw [if_pos (show (-1 : Int32) < 0 by decide), if_pos (by decide)]
      refine Or.inl ⟨A, gz_ui B 0 48 (10 + s) (B 0 48 (10 + s)), rfl, gz_w0, gzFq_step (gzTg_fk a5) (gzTm_mo a6) ⟨b3.1, fun t o k q r => ?_, b3.2.2.trans (if_neg (by omega)).symm⟩⟩
      refine Eq.trans ?_ (b3.2.1 t o k q r)
      unfold gz_ui
      split
      · next e => obtain ⟨e1, e2, e3⟩ := e; rw [e1, e2, e3]
      · rfl
    · rw [b1, b2]
      simp only [Option.bind_some, gzEx_okq]
      rw [if_pos (gz_ge0 (by omega)), gzc_add', gzGd_in (by omega) (by omega), gzn_clamp (by omega), if_neg (by rw [gzc_lt0 (by omega)]; exact id), gzc_write (by omega) (by omega)]
      simp only [Option.bind_some]
      rw [if_neg (by decide)]
      have d4 := gzFk_trans a5 b5
      have e4 := gzMo_trans a6 b6
      have t1 := gzTw_one (o := 19) (k := s) (i := 10 + s) (x := Int32.ofNat v) (gzTw_st y3 d4 e4) (by omega) (gz_bdH (by omega) (gz_nb (by omega) (by omega))) (fun x => by omega)
      refine Or.inr ⟨gz_ui A 1 19 s (Int32.ofNat v), gz_ui B 0 48 (10 + s) (Int32.ofNat v), j + 1 + 1, nf, ng, rfl, gz_w1, ⟨gzCa_tw b3 (fun o k ho => if_neg (by omega)), gzMa_tw b4 (fun o k ho => if_neg (by omega)), t1⟩, fun t o k q r => ?_, fun t o k q r => ?_, by omega⟩
      · exact (if_neg (by omega)).trans (d4 t o k q)
      · exact (if_neg (by omega)).trans (e4 t o k q)
end
