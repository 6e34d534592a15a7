/-! a season -/
def gzE1 (n l : Int32) : Int32 := if l < n then 0 else l - n
def gzE2 (n l o : Int32) : Int32 := if l < n then (if o + 1 < 99 then o + 1 else 99) else o
def gzLkv (w : Nat → Int32) : Int32 := if 0 < w 5 - gzHt w * (if w 6 = 0 then (1 : Int32) else 5) then w 5 - gzHt w * (if w 6 = 0 then (1 : Int32) else 5) else 0
def gzTk (x : Int32) : Int32 := if x + 1 < 9999 then x + 1 else 9999
/-- what a season makes of the numbers -/
def gzSw (w w' : Nat → Int32) (nf : Nat) : Prop := w' 4 = gzTk (w 4) ∧ w' 5 = gzLkv w ∧ (∀ f, f < nf → w' (32 + 4 * f) = gzE1 (w (31 + 4 * f)) (w (32 + 4 * f)) ∧ w' (33 + 4 * f) = gzE2 (w (31 + 4 * f)) (w (32 + 4 * f)) (w (33 + 4 * f)) ∧ w' (30 + 4 * f) = w (30 + 4 * f) ∧ w' (31 + 4 * f) = w (31 + 4 * f)) ∧ (∀ k, (k < 4 ∨ k = 6 ∨ k = 7 ∨ (10 ≤ k ∧ k < 30)) → w' k = w k)
section
variable {I I' I2 X T Ic Im Ic' Im' Ic2 Im2 M : gzIT} {J : gzJT} {w w2 v : Nat → Int32} {nf ng nl nx nl2 nx2 t t1 φ : Nat}
theorem c_eatL (hn : nf ≤ 6) : ∀ (m f k : Nat) (I : gzIT), I t 1 5 = Int32.ofNat nf → f + m = nf → m < k → ∃ C : gzIT, f_X0_eat_2 φ t k (Int32.ofNat f) I J = some ((), C, J) ∧ (∀ g, f ≤ g → g < nf → C t 4 g = gzE1 (I t 3 g) (I t 4 g) ∧ C t 5 g = gzE2 (I t 3 g) (I t 4 g) (I t 5 g)) ∧ (∀ t' o k, ¬ (t' = t ∧ (o = 4 ∨ o = 5) ∧ f ≤ k ∧ k < nf) → C t' o k = I t' o k) := by
  intro m
  induction m with
  | zero =>
    intro f k I h5 hf hk
    obtain ⟨k, rfl⟩ : ∃ q, k = q + 1 := ⟨k - 1, by omega⟩
    refine ⟨I, ?_, fun g h1 h2 => by omega, fun _ _ _ _ => rfl⟩
    rw [f_X0_eat_2, h5, if_pos (by rw [gzn_le (by omega) (by omega)]; omega)]
  | succ m ih =>
    intro f k I h5 hf hk
    obtain ⟨k, rfl⟩ : ∃ q, k = q + 1 := ⟨k - 1, by omega⟩
    obtain ⟨C1, hC1, hc4, hc5, hcn⟩ : ∃ C1 : gzIT, f_X0_eat_2 φ t (k + 1) (Int32.ofNat f) I J = f_X0_eat_2 φ t k (Int32.ofNat (f + 1)) C1 J ∧ C1 t 4 f = gzE1 (I t 3 f) (I t 4 f) ∧ C1 t 5 f = gzE2 (I t 3 f) (I t 4 f) (I t 5 f) ∧ (∀ t' o k, ¬ (t' = t ∧ (o = 4 ∨ o = 5) ∧ k = f) → C1 t' o k = I t' o k) := by
      unfold gzE1 gzE2
      by_cases q : I t 4 f < I t 3 f
      · refine ⟨gz_ui (gz_ui I t 4 f 0) t 5 f (if I t 5 f + 1 < 99 then I t 5 f + 1 else 99), ?_, ?_, ?_, fun t' o k q => (if_neg (by omega)).trans (if_neg (by omega))⟩
        · rw [f_X0_eat_2, h5, if_neg (by rw [gzn_le (by omega) (by omega)]; omega), gzGd_in (by omega) (by omega), gzn_clamp (by omega), if_pos q, gzn_succ]
        · rw [if_pos q]; exact (if_neg (by omega)).trans gz_ui_s
        · rw [if_pos q]; exact gz_ui_s
      · refine ⟨gz_ui I t 4 f (I t 4 f - I t 3 f), ?_, ?_, ?_, fun t' o k q => if_neg (by omega)⟩
        · rw [f_X0_eat_2, h5, if_neg (by rw [gzn_le (by omega) (by omega)]; omega), gzGd_in (by omega) (by omega), gzn_clamp (by omega), if_neg q, gzn_succ]
        · rw [if_neg q]; exact gz_ui_s
        · rw [if_neg q]; exact if_neg (by omega)
    obtain ⟨C, i1, i2, i3⟩ := ih (f + 1) k C1 ((hcn t 1 5 (by omega)).trans h5) (by omega) (by omega)
    refine ⟨C, hC1.trans i1, fun g h1 h2 => ?_, fun t' o k q => (i3 t' o k (by omega)).trans (hcn t' o k (by omega))⟩
    by_cases e : g = f
    · subst e
      rw [i3 t 4 g (by omega), i3 t 5 g (by omega)]
      exact ⟨hc4, hc5⟩
    · obtain ⟨a1, a2⟩ := i2 g (by omega) h2
      rw [hcn t 3 g (by omega), hcn t 4 g (by omega)] at a1
      rw [hcn t 3 g (by omega), hcn t 4 g (by omega), hcn t 5 g (by omega)] at a2
      exact ⟨a1, a2⟩
theorem c_eat (hn : nf ≤ 6) (h5 : I t 1 5 = Int32.ofNat nf) (hφ : 10 < φ) : ∃ C : gzIT, f_X0_eat φ t I J = some ((), C, J) ∧ (∀ g, g < nf → C t 4 g = gzE1 (I t 3 g) (I t 4 g) ∧ C t 5 g = gzE2 (I t 3 g) (I t 4 g) (I t 5 g)) ∧ (∀ t' o k, ¬ (t' = t ∧ (o = 4 ∨ o = 5) ∧ k < nf) → C t' o k = I t' o k) := by
  obtain ⟨C, h1, h2, h3⟩ := c_eatL (J := J) (t := t) (φ := φ) hn nf 0 φ I h5 (by omega) (by omega)
  exact ⟨C, h1, fun g hg => h2 g (Nat.zero_le _) hg, fun t' o k q => h3 t' o k (by omega)⟩
theorem m_eats1 {f : Nat} (hf : f < 6) : ∃ N : gzIT, (∀ J' : gzJT, f_X12_eats (Int32.ofNat f) I J' = some ((), N, J')) ∧ N 0 48 (32 + 4 * f) = gzE1 (I 0 48 (31 + 4 * f)) (I 0 48 (32 + 4 * f)) ∧ N 0 48 (33 + 4 * f) = gzE2 (I 0 48 (31 + 4 * f)) (I 0 48 (32 + 4 * f)) (I 0 48 (33 + 4 * f)) ∧ (∀ t' o k, ¬ (t' = 0 ∧ o = 48 ∧ (k = 32 + 4 * f ∨ k = 33 + 4 * f)) → N t' o k = I t' o k) := by
  have r2 : f_X12_ofFamily I (Int32.ofNat f) 2 = some (I 0 48 (32 + 4 * f)) := by
    rw [show (2 : Int32) = Int32.ofNat 2 from rfl, s_X12_ofFamily hf (by omega), show 30 + 4 * f + 2 = 32 + 4 * f by omega]
  have r1 : f_X12_ofFamily I (Int32.ofNat f) 1 = some (I 0 48 (31 + 4 * f)) := by
    rw [show (1 : Int32) = Int32.ofNat 1 from rfl, s_X12_ofFamily hf (by omega), show 30 + 4 * f + 1 = 31 + 4 * f by omega]
  have a2 : f_X12_familyAt (Int32.ofNat f) 2 = some (Int32.ofNat (32 + 4 * f)) := by
    unfold f_X12_familyAt
    rw [gzc_mul, gzc_add', gzc_add, show 30 + 4 * f + 2 = 32 + 4 * f by omega]
  have a3 : f_X12_familyAt (Int32.ofNat f) 3 = some (Int32.ofNat (33 + 4 * f)) := by
    unfold f_X12_familyAt
    rw [gzc_mul, gzc_add', gzc_add, show 30 + 4 * f + 3 = 33 + 4 * f by omega]
  unfold gzE1 gzE2
  by_cases q : I 0 48 (32 + 4 * f) < I 0 48 (31 + 4 * f)
  · obtain ⟨N1, e1⟩ : ∃ N1, N1 = gz_ui I 0 48 (32 + 4 * f) 0 := ⟨_, rfl⟩
    have e33 : N1 0 48 (33 + 4 * f) = I 0 48 (33 + 4 * f) := by rw [e1]; exact if_neg (by omega)
    refine ⟨gz_ui N1 0 48 (33 + 4 * f) (if I 0 48 (33 + 4 * f) + 1 < 99 then I 0 48 (33 + 4 * f) + 1 else 99), fun J' => ?_, ?_, ?_, fun t' o k q => (if_neg (by omega)).trans (by rw [e1]; exact if_neg (by omega))⟩
    · unfold f_X12_eats
      rw [r2, r1, a2]
      simp only [Option.bind_some]
      rw [if_pos (if_pos q), gzGd_in (by omega) (by omega), if_neg (fun z => z (if_pos q)), a3, gzn_clamp (by omega), ← e1]
      simp only [Option.bind_some]
      unfold f_X12_adds
      rw [gzGd_in (by omega) (by omega), gzn_clamp (by omega), e33]
      rfl
    · rw [if_pos q]; exact (if_neg (by omega)).trans (by rw [e1]; exact gz_ui_s)
    · rw [if_pos q]; exact gz_ui_s
  · have hc : ¬ (if I 0 48 (32 + 4 * f) < I 0 48 (31 + 4 * f) then (0 : Int32) else 1) = 0 := by rw [if_neg q]; decide
    refine ⟨gz_ui I 0 48 (32 + 4 * f) (I 0 48 (32 + 4 * f) - I 0 48 (31 + 4 * f)), fun J' => ?_, ?_, ?_, fun t' o k q => if_neg (by omega)⟩
    · unfold f_X12_eats
      rw [r2, r1, a2]
      simp only [Option.bind_some]
      rw [if_neg hc, gzGd_in (by omega) (by omega), if_pos hc, gzn_clamp (by omega)]
    · rw [if_neg q]; exact gz_ui_s
    · rw [if_neg q]; exact if_neg (by omega)
theorem m_eatL (hn : nf ≤ 6) : ∀ (m f : Nat) (I : gzIT), I 0 48 0 = Int32.ofNat nf → f + m = nf → ∃ N : gzIT, (∀ (k : Nat) (x1 x2 : Int32) (J' : gzJT), f_X12_oneSeason_36 φ (k + m) x1 x2 (Int32.ofNat f) I J' = f_X12_oneSeason_36 φ k x1 x2 (Int32.ofNat nf) N J') ∧ (∀ g, f ≤ g → g < nf → N 0 48 (32 + 4 * g) = gzE1 (I 0 48 (31 + 4 * g)) (I 0 48 (32 + 4 * g)) ∧ N 0 48 (33 + 4 * g) = gzE2 (I 0 48 (31 + 4 * g)) (I 0 48 (32 + 4 * g)) (I 0 48 (33 + 4 * g))) ∧ (∀ t' o k, ¬ (t' = 0 ∧ o = 48 ∧ 30 + 4 * f ≤ k ∧ k < 30 + 4 * nf ∧ (k % 4 = 0 ∨ k % 4 = 1)) → N t' o k = I t' o k) := by
  intro m
  induction m with
  | zero =>
    intro f I h0 hf
    refine ⟨I, fun k x1 x2 J' => ?_, fun g h1 h2 => by omega, fun _ _ _ _ => rfl⟩
    rw [show f = nf by omega, Nat.add_zero]
  | succ m ih =>
    intro f I h0 hf
    obtain ⟨N1, n1, n2, n3, n4⟩ := m_eats1 (I := I) (f := f) (by omega)
    obtain ⟨N, i1, i2, i3⟩ := ih (f + 1) N1 ((n4 0 48 0 (by omega)).trans h0) (by omega)
    refine ⟨N, fun k x1 x2 J' => ?_, fun g h1 h2 => ?_, fun t' o k q => ?_⟩
    · rw [show k + (m + 1) = (k + m) + 1 by omega, f_X12_oneSeason_36]
      unfold f_X12_families
      rw [h0]
      simp only [Option.bind_some]
      rw [if_neg (by rw [gzn_le (by omega) (by omega)]; omega), n1 J', gzn_succ]
      exact i1 k x1 x2 J'
    · by_cases e : g = f
      · subst e
        exact ⟨(i3 0 48 _ (by omega)).trans n2, (i3 0 48 _ (by omega)).trans n3⟩
      · obtain ⟨a1, a2⟩ := i2 g (by omega) h2
        rw [n4 0 48 (31 + 4 * g) (by omega), n4 0 48 (32 + 4 * g) (by omega)] at a1
        rw [n4 0 48 (31 + 4 * g) (by omega), n4 0 48 (32 + 4 * g) (by omega), n4 0 48 (33 + 4 * g) (by omega)] at a2
        exact ⟨a1, a2⟩
    · rw [i3 t' o k (by omega), n4 t' o k (by omega)]
theorem gz_e1b {n l : Int32} (hn : 0 ≤ n.toInt ∧ n.toInt ≤ 99) (hl : 0 ≤ l.toInt ∧ l.toInt ≤ 999) : 0 ≤ (gzE1 n l).toInt ∧ (gzE1 n l).toInt ≤ 999 := by
  unfold gzE1
  by_cases q : l < n
  · rw [if_pos q]; decide
  · rw [if_neg q]
    have q' : n.toInt ≤ l.toInt := by
      have : ¬ l.toInt < n.toInt := fun z => q (Int32.lt_iff_toInt_lt.mpr z)
      omega
    rw [gz_subb hn.1 q']
    omega
theorem gz_e2b {n l o : Int32} (ho : 0 ≤ o.toInt ∧ o.toInt ≤ 99) : 0 ≤ (gzE2 n l o).toInt ∧ (gzE2 n l o).toInt ≤ 99 := by
  unfold gzE2
  by_cases q : l < n
  · rw [if_pos q]; exact gz_cap (c := 99) (by omega) (by decide) (by omega)
  · rw [if_neg q]; exact ho
theorem gz_tkb {x : Int32} (h : 0 ≤ x.toInt ∧ x.toInt ≤ 9999) : 0 ≤ (gzTk x).toInt ∧ (gzTk x).toInt ≤ 9999 := gz_cap (c := 9999) h (by decide) (by omega)
theorem gz_htb (hx : gzWx w nf ng nl) : 0 ≤ (gzHt w).toInt ∧ (gzHt w).toInt ≤ 100 := hx.2.2.2.1 _ (by omega)
theorem gz_lkb (hx : gzWx w nf ng nl) : 0 ≤ (gzLkv w).toInt ∧ (gzLkv w).toInt ≤ 9999 := by
  have hh := gz_htb hx
  unfold gzLkv
  refine gz_less (c := 9999) hx.1.2.2.1 ?_ (by omega)
  obtain ⟨a, ha, ea⟩ := gzn_of hh.1
  rw [ea, gzn_int ha] at hh
  rw [ea]
  by_cases q : w 6 = 0
  · rw [if_pos q, Int32.mul_one, gzn_int ha]; omega
  · rw [if_neg q, gzc_mul', gzn_int (by omega)]; omega
/-- one number set in both -/
theorem r_setn {kc i : Nat} {x : Int32} (hi : (kc = 7 ∧ i = 4) ∨ (kc = 8 ∧ i = 5)) (bx : 0 ≤ x.toInt ∧ x.toInt ≤ 9999) (hS : gzSm Ic t Im nf ng) : gzSm (gz_ui Ic t 0 kc x) t (gz_ui Im 0 48 i x) nf ng ∧ gzSx t Ic (gz_ui Ic t 0 kc x) Im (gz_ui Im 0 48 i x) := by
  obtain ⟨⟨nl, nx, hT, hx⟩, hlaw⟩ := id hS
  obtain ⟨C, eC⟩ : ∃ C, C = gz_ui Ic t 0 kc x := ⟨_, rfl⟩
  have Cn : ∀ t' o k, ¬ (t' = t ∧ o = 0 ∧ k = kc) → C t' o k = Ic t' o k := fun t' o k q => by rw [eC]; exact if_neg q
  have Cs : C t 0 kc = x := by rw [eC]; exact gz_ui_s
  obtain ⟨N, eN⟩ : ∃ N, N = gz_ui Im 0 48 i x := ⟨_, rfl⟩
  have Nn : ∀ t' o k, ¬ (t' = 0 ∧ o = 48 ∧ k = i) → N t' o k = Im t' o k := fun t' o k q => by rw [eN]; exact if_neg q
  have Ns : N 0 48 i = x := by rw [eN]; exact gz_ui_s
  rw [← eC, ← eN]
  refine ⟨?_, fun t' o k q1 q2 => Cn t' o k (by omega), fun t' o k q1 q2 => Nn t' o k (by omega), Nn 0 48 3 (by omega), fun k => Cn t 13 k (by omega), fun k => Or.inl (Cn t 14 k (by omega)), Cn t 0 9 (by omega)⟩
  have up := gzSm_upd (Ic' := C) (Im' := N) (D := fun o j => o = 0 ∧ j = kc) (E := fun j => j = i) hT hx hlaw (fun o j ho q _ => Cn t o j (by omega)) (fun j _ _ q => Nn 0 48 j (by omega)) (fun o j i' q => by
    unfold gzQp at q
    by_cases e : o = 0 ∧ j = kc
    · left
      obtain ⟨rfl, rfl⟩ := e
      rw [Cs, show i' = i by omega, Ns]
    · right
      exact ⟨e, by omega⟩) ⟨by omega, by omega, by omega, by omega, by omega, fun g hg => ⟨by omega, by omega, by omega⟩⟩ (fun j _ e => by
    have e' : j = i := e
    rw [e', Ns]
    exact gz_bdS (by omega) bx) (gzLg_same hT.2.2.2.2.2.2 (fun o j q => Cn t o j (by omega)) (fun j q => Nn 0 48 j (by omega))) (fun o k q1 q2 => Cn 0 o k (by omega)) (fun k q => Nn 0 48 k (by omega))
  exact ⟨⟨_, _, up.1⟩, up.2⟩
theorem r_turnAll (hφ : 500 < φ) : ∀ (m g k : Nat) (Ic Im : gzIT), gzSm Ic t Im nf ng → g + m = ng → m < k → ∃ (q : Nat) (Ic' Im' : gzIT), q ≤ m ∧ (∀ x2, f_X8_turnAll_4 φ t 0 k x2 (Int32.ofNat g) Ic J = some (x2 + Int32.ofNat q, Ic', J)) ∧ (∀ (kk : Nat) (x1 x2 : Int32) (J' : gzJT), f_X12_oneSeason_4 φ (kk + m) x1 x2 (Int32.ofNat g) Im J' = f_X12_oneSeason_4 φ kk x1 (x2 + Int32.ofNat q) (Int32.ofNat ng) Im' J') ∧ gzSm Ic' t Im' nf ng ∧ gzSx t Ic Ic' Im Im' ∧ (∀ k, k < 54 → k ≠ 8 → Im' 0 48 k = Im 0 48 k) := by
  intro m
  induction m with
  | zero =>
    intro g k Ic Im hS hg hk
    obtain ⟨k, rfl⟩ : ∃ q, k = q + 1 := ⟨k - 1, by omega⟩
    obtain ⟨⟨nl, nx, hT, hx⟩, hlaw⟩ := id hS
    have n4 := hT.1.2.1
    refine ⟨0, Ic, Im, by omega, fun x2 => ?_, fun kk x1 x2 J' => ?_, hS, gzSx_0, fun _ _ _ => rfl⟩
    · rw [f_X8_turnAll_4, hT.1.2.2.2.2.1, if_pos (by rw [gzn_le (by omega) (by omega)]; omega), show Int32.ofNat 0 = 0 from rfl, Int32.add_zero]
    · rw [show g = ng by omega, Nat.add_zero, show Int32.ofNat 0 = 0 from rfl, Int32.add_zero]
  | succ m ih =>
    intro g k Ic Im hS hg hk
    obtain ⟨k, rfl⟩ : ∃ q, k = q + 1 := ⟨k - 1, by omega⟩
    obtain ⟨⟨nl, nx, hT, hx⟩, hlaw⟩ := id hS
    have n4 := hT.1.2.1
    obtain ⟨d, C1, N1, hd, hc, hmd, S1, X1, K1⟩ := r_turn (J := J) (φ := φ) hS (show g < ng by omega) hφ
    obtain ⟨q, C2, N2, hq, hc2, hm2, S2, X2, K2⟩ := ih (g + 1) k C1 N1 S1 (by omega) (by omega)
    refine ⟨d + q, C2, N2, by omega, fun x2 => ?_, fun kk x1 x2 J' => ?_, S2, gzSx_t X1 X2, fun k h1 h2 => (K2 k h1 h2).trans (K1 k h1 h2)⟩
    · rw [hc k x2, hc2, Int32.add_assoc, gzc_adds]
    · rw [show kk + (m + 1) = (kk + m) + 1 by omega, f_X12_oneSeason_4]
      unfold f_X12_grudges
      rw [hT.1.2.2.2.2.2]
      simp only [Option.bind_some]
      rw [if_neg (by rw [gzn_le (by omega) (by omega)]; omega), hmd J', gzn_succ]
      simp only [Option.bind_some]
      have e : (if Int32.ofNat d = 0 then (0 : Int32) else 1) = Int32.ofNat d := by
        rcases (show d = 0 ∨ d = 1 by omega) with rfl | rfl <;> rfl
      rw [e, hm2, Int32.add_assoc, gzc_adds]
theorem r_season {dr : Int32} (hdr : dr = 0 ∨ dr = 1) (hS : gzSm Ic t Im nf ng) (hφ : 600 < φ) : ∃ (q : Nat) (Ic' Im' : gzIT), q ≤ 10 ∧ f_X8_pass φ t 0 dr Ic J = some (Int32.ofNat q, Ic', J) ∧ (∀ J' : gzJT, f_X12_oneSeason φ (1 - dr) Im J' = some (Int32.ofNat q, Im', J')) ∧ gzSm Ic' t Im' nf ng ∧ gzSx t Ic Ic' Im Im' ∧ gzSw (Im 0 48) (Im' 0 48) nf := by
  obtain ⟨⟨nl0, nx0, hT0, hx0⟩, hlaw0⟩ := id hS
  have n3 := hT0.1.1
  have n4 := hT0.1.2.1
  obtain ⟨q, C1, N1, hq, hc1, hm1, S1, X1, K1⟩ := r_turnAll (J := J) (φ := φ) (by omega) ng 0 φ Ic Im hS (by omega) (by omega)
  obtain ⟨⟨nl1, nx1, hT1, hx1⟩, hlaw1⟩ := id S1
  obtain ⟨C2, hc2, c2a, c2n⟩ := c_eat (J := J) (φ := φ) n3 hT1.1.2.2.1 (by omega)
  obtain ⟨N2, hm2, m2a, m2n⟩ := m_eatL (φ := φ) n3 nf 0 N1 hT1.1.2.2.2.1 (by omega)
  obtain ⟨hab1, hbd1⟩ := gzWx_bd n3 hx1
  have vc1 := gzV_c hT1 hx1.1
  have S2 : gzSm C2 t N2 nf ng := by
    have up := gzSm_upd (Ic' := C2) (Im' := N2) (D := fun o j => (o = 4 ∨ o = 5) ∧ j < nf) (E := fun i => 30 ≤ i ∧ i < 30 + 4 * nf ∧ (i % 4 = 0 ∨ i % 4 = 1)) hT1 hx1 hlaw1 (fun o j ho q _ => c2n t o j (by omega)) (fun j _ _ q => m2n 0 48 j (by omega)) (fun o j i q => by
      unfold gzQp at q
      by_cases e : o = 4 ∧ j < nf
      · left
        obtain ⟨rfl, e2⟩ := e
        rw [show i = 32 + 4 * j by omega, (c2a j e2).1, (m2a j (Nat.zero_le _) e2).1, vc1.2.2.2.2.2.2.2.2.2.1 j e2, vc1.2.2.2.2.2.2.2.2.2.2.1 j e2]
      · by_cases e' : o = 5 ∧ j < nf
        · left
          obtain ⟨rfl, e2⟩ := e'
          rw [show i = 33 + 4 * j by omega, (c2a j e2).2, (m2a j (Nat.zero_le _) e2).2, vc1.2.2.2.2.2.2.2.2.2.1 j e2, vc1.2.2.2.2.2.2.2.2.2.2.1 j e2, vc1.2.2.2.2.2.2.2.2.2.2.2.1 j e2]
        · right
          exact ⟨by omega, by omega⟩) ⟨by omega, by omega, by omega, by omega, by omega, fun g hg => ⟨by omega, by omega, by omega⟩⟩ (fun i _ e => by
      obtain ⟨e1, e2, e3⟩ := e
      rcases e3 with e3 | e3
      · obtain ⟨f, hf, rfl⟩ : ∃ f, f < nf ∧ i = 32 + 4 * f := ⟨(i - 32) / 4, by omega, by omega⟩
        rw [(m2a f (Nat.zero_le _) hf).1]
        exact gz_bdL n3 hf (gz_e1b (((hbd1 (31 + 4 * f)).2.2.2.2.2.1 f hf).2.1 (Or.inl rfl)) (((hbd1 (32 + 4 * f)).2.2.2.2.2.1 f hf).2.2 rfl))
      · obtain ⟨f, hf, rfl⟩ : ∃ f, f < nf ∧ i = 33 + 4 * f := ⟨(i - 33) / 4, by omega, by omega⟩
        rw [(m2a f (Nat.zero_le _) hf).2]
        exact gz_bdO n3 hf (gz_e2b (((hbd1 (33 + 4 * f)).2.2.2.2.2.1 f hf).2.1 (Or.inr rfl)))) (gzLg_same hT1.2.2.2.2.2.2 (fun o j q => c2n t o j (by omega)) (fun j q => m2n 0 48 j (by omega))) (fun o k q1 q2 => c2n 0 o k (by omega)) (fun k q => m2n 0 48 k (by omega))
    exact ⟨⟨_, _, up.1⟩, up.2⟩
  have X2 : gzSx t C1 C2 N1 N2 := ⟨fun t' o k q1 q2 => c2n t' o k (by omega), fun t' o k q1 q2 => m2n t' o k (by omega), m2n 0 48 3 (by omega), fun k => c2n t 13 k (by omega), fun k => Or.inl (c2n t 14 k (by omega)), c2n t 0 9 (by omega)⟩
  obtain ⟨⟨nl2, nx2, hT2, hx2⟩, hlaw2⟩ := id S2
  have lk2 := gz_lkb hx2
  obtain ⟨S3, X3⟩ := r_setn (kc := 8) (i := 5) (x := gzLkv (N2 0 48)) (Or.inr ⟨rfl, rfl⟩) lk2 S2
  obtain ⟨C3, eC3⟩ : ∃ C3, C3 = gz_ui C2 t 0 8 (gzLkv (N2 0 48)) := ⟨_, rfl⟩
  obtain ⟨N3, eN3⟩ : ∃ N3, N3 = gz_ui N2 0 48 5 (gzLkv (N2 0 48)) := ⟨_, rfl⟩
  rw [← eC3, ← eN3] at S3 X3
  have N3n : ∀ j, j ≠ 5 → N3 0 48 j = N2 0 48 j := fun j hj => by rw [eN3]; exact if_neg (by omega)
  have h4 := hx2.1.2.1.1
  have hleak : f_X8_leak t C2 J = some ((), C3, J) := by
    unfold f_X8_leak
    rw [c_heat hT2.2.1.2.1 hT2.2.2.1 h4]
    simp only [Option.bind_some]
    rw [hT2.2.1.2.2.1, hT2.2.1.2.2.2.1, eC3]
    rfl
  have hmheat : f_X12_heatNow N2 = some (gzHt (N2 0 48)) := by
    obtain ⟨vm2, vb2⟩ := gzV_m hT2 hx2.1
    exact m_heat (w := N2 0 48) ⟨fun _ _ => rfl, vm2, vb2⟩ h4
  have hml : gz_ui N2 0 48 5 (if 0 < N2 0 48 5 - gzHt (N2 0 48) * (if ¬ N2 0 48 6 = 1 then (1 : Int32) else 5) then N2 0 48 5 - gzHt (N2 0 48) * (if ¬ N2 0 48 6 = 1 then (1 : Int32) else 5) else 0) = N3 := by
    have e : (if ¬ N2 0 48 6 = 1 then (1 : Int32) else 5) = if N2 0 48 6 = 0 then (1 : Int32) else 5 := by
      rcases hx2.1.2.2.2.1 with z | z <;> rw [z] <;> rfl
    rw [e, eN3]
    rfl
  -- the tick
  have tick : ∀ (C N : gzIT), gzSm C t N nf ng → (∀ k, (k < 8 ∨ (10 ≤ k ∧ k < 30 + 4 * nf)) → N 0 48 k = N3 0 48 k) → ∃ C' N', f_X8_tick t C J = some ((), C', J) ∧ (∀ J' : gzJT, f_X12_adds 4 1 9999 N J' = some ((), N', J')) ∧ gzSm C' t N' nf ng ∧ gzSx t C C' N N' ∧ gzSw (Im 0 48) (N' 0 48) nf := by
    intro C N hS4 hK
    obtain ⟨⟨nl4, nx4, hT4, hx4⟩, hlaw4⟩ := id hS4
    obtain ⟨S5, X5⟩ := r_setn (kc := 7) (i := 4) (x := gzTk (N 0 48 4)) (Or.inl ⟨rfl, rfl⟩) (gz_tkb hx4.1.2.1) hS4
    refine ⟨_, _, ?_, fun J' => ?_, S5, X5, ?_⟩
    · unfold f_X8_tick
      rw [hT4.2.1.2.1]
      rfl
    · unfold f_X12_adds
      rw [show (4 : Int32) = Int32.ofNat 4 from rfl, gzGd_in (by omega) (by omega), gzn_clamp (by omega)]
      rfl
    · have e4 : gz_ui N 0 48 4 (gzTk (N 0 48 4)) 0 48 4 = gzTk (N 0 48 4) := gz_ui_s
      have en : ∀ j, j ≠ 4 → gz_ui N 0 48 4 (gzTk (N 0 48 4)) 0 48 j = N 0 48 j := fun j hj => if_neg (by omega)
      have e2 : ∀ k, k < 54 → k ≠ 8 → k ≠ 5 → ¬ (30 ≤ k ∧ k < 30 + 4 * nf ∧ (k % 4 = 0 ∨ k % 4 = 1)) → N3 0 48 k = Im 0 48 k := fun k a b c d => (N3n k c).trans ((m2n 0 48 k (by omega)).trans (K1 k a b))
      have e5 : N2 0 48 5 = Im 0 48 5 := (m2n 0 48 5 (by omega)).trans (K1 5 (by omega) (by omega))
      have eh : gzHt (N2 0 48) = gzHt (Im 0 48) := by
        have a4 : N2 0 48 4 = Im 0 48 4 := (m2n 0 48 4 (by omega)).trans (K1 4 (by omega) (by omega))
        unfold gzHt
        rw [a4, m2n 0 48 _ (by omega), K1 _ (by omega) (by omega)]
      have e6 : N2 0 48 6 = Im 0 48 6 := (m2n 0 48 6 (by omega)).trans (K1 6 (by omega) (by omega))
      refine ⟨?_, ?_, fun f hf => ⟨?_, ?_, ?_, ?_⟩, fun k hk => ?_⟩
      · rw [e4, hK 4 (by omega), e2 4 (by omega) (by omega) (by omega) (by omega)]
      · rw [en 5 (by omega), hK 5 (by omega), eN3]
        refine gz_ui_s.trans ?_
        unfold gzLkv
        rw [e5, eh, e6]
      · rw [en _ (by omega), hK _ (by omega), N3n _ (by omega), (m2a f (Nat.zero_le _) hf).1, K1 (31 + 4 * f) (by omega) (by omega), K1 (32 + 4 * f) (by omega) (by omega)]
      · rw [en _ (by omega), hK _ (by omega), N3n _ (by omega), (m2a f (Nat.zero_le _) hf).2, K1 (31 + 4 * f) (by omega) (by omega), K1 (32 + 4 * f) (by omega) (by omega), K1 (33 + 4 * f) (by omega) (by omega)]
      · rw [en _ (by omega), hK _ (by omega), e2 _ (by omega) (by omega) (by omega) (by omega)]
      · rw [en _ (by omega), hK _ (by omega), e2 _ (by omega) (by omega) (by omega) (by omega)]
      · rw [en _ (by omega), hK _ (by omega), e2 _ (by omega) (by omega) (by omega) (by omega)]
  have cls1 : f_X8_turnAll φ t 0 Ic J = some (Int32.ofNat q, C1, J) := by
    unfold f_X8_turnAll
    refine (hc1 0).trans ?_
    rw [Int32.zero_add]
  have mod1 : ∀ (x1 : Int32) (J' : gzJT), f_X12_oneSeason φ x1 Im J' = f_X12_oneSeason_36 φ (φ - nf) x1 (Int32.ofNat q) (Int32.ofNat nf) N2 J' := fun x1 J' => by
    unfold f_X12_oneSeason
    have e := hm1 (φ - ng) x1 0 J'
    rw [show φ - ng + ng = φ by omega] at e
    refine (show f_X12_oneSeason_4 φ φ x1 0 0 Im J' = _ from e).trans ?_
    obtain ⟨z, hz⟩ : ∃ z, φ - ng = z + 1 := ⟨φ - ng - 1, by omega⟩
    rw [hz, f_X12_oneSeason_4]
    unfold f_X12_grudges
    rw [hT1.1.2.2.2.2.2]
    simp only [Option.bind_some]
    rw [if_pos (by rw [gzn_le (by omega) (by omega)]; omega), Int32.zero_add]
    have e2 := hm2 (φ - nf) x1 (Int32.ofNat q) J'
    rw [show φ - nf + nf = φ by omega] at e2
    exact e2
  obtain ⟨z36, hz36⟩ : ∃ z, φ - nf = z + 1 := ⟨φ - nf - 1, by omega⟩
  have fam2 : f_X12_families N2 = some (Int32.ofNat nf) := by
    unfold f_X12_families
    rw [hT2.1.2.2.2.1]
  rcases hdr with rfl | rfl
  · obtain ⟨C5, N5, ct, mt, S5, X5, W5⟩ := tick C3 N3 S3 (fun _ _ => rfl)
    refine ⟨q, C5, N5, by omega, ?_, fun J' => ?_, S5, gzSx_t X1 (gzSx_t X2 (gzSx_t X3 X5)), W5⟩
    · unfold f_X8_pass
      rw [cls1]
      simp only [Option.bind_some]
      rw [hc2]
      simp only [Option.bind_some]
      rw [hleak]
      simp only [Option.bind_some]
      rw [if_pos (by simp), ct]
      rfl
    · rw [mod1, hz36, f_X12_oneSeason_36, fam2]
      simp only [Option.bind_some]
      rw [if_pos (by rw [gzn_le (by omega) (by omega)]; omega), hmheat]
      simp only [Option.bind_some]
      rw [if_pos (by decide), hml, mt J']
      rfl
  · obtain ⟨C4, N4, ck, mk, S4, X4, K4⟩ := r_kiss (J := J) (φ := φ) S3 (by omega)
    obtain ⟨C5, N5, ct, mt, S5, X5, W5⟩ := tick C4 N4 S4 K4
    refine ⟨q, C5, N5, by omega, ?_, fun J' => ?_, S5, gzSx_t X1 (gzSx_t X2 (gzSx_t X3 (gzSx_t X4 X5))), W5⟩
    · unfold f_X8_pass
      rw [cls1]
      simp only [Option.bind_some]
      rw [hc2]
      simp only [Option.bind_some]
      rw [hleak]
      simp only [Option.bind_some]
      rw [if_neg (by decide), ck]
      simp only [Option.bind_some]
      rw [ct]
      rfl
    · rw [mod1, hz36, f_X12_oneSeason_36, fam2]
      simp only [Option.bind_some]
      rw [if_pos (by rw [gzn_le (by omega) (by omega)]; omega), hmheat]
      simp only [Option.bind_some]
      rw [if_neg (by decide), hml, mk J']
      simp only [Option.bind_some]
      rw [mt J']
      rfl
end
