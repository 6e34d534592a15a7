/-! the web spun; sets that grow come to rest -/
def gzSp (I : gzIT) (nf : Nat) (nr on : Nat → Int32) : gzIT := fun t o k => if t = 0 ∧ o = 41 ∧ k = 5 then Int32.ofNat nf else if t = 0 ∧ o = 42 ∧ k < 6 then nr k else if t = 0 ∧ o = 43 ∧ k < 6 then on k else I t o k
def gzUp (f : Nat → Int32) (a : Nat) (v : Int32) : Nat → Int32 := fun k => if k = a then v else f k
theorem gzSp_o {I : gzIT} {nf : Nat} {nr on : Nat → Int32} {t o k : Nat} (h : ¬ (41 ≤ o ∧ o ≤ 43)) : gzSp I nf nr on t o k = I t o k := by
  unfold gzSp
  rw [if_neg (by omega), if_neg (by omega), if_neg (by omega)]
theorem gzSp_n {I : gzIT} {nf : Nat} {nr on : Nat → Int32} : gzSp I nf nr on 0 41 5 = Int32.ofNat nf := if_pos ⟨rfl, rfl, rfl⟩
theorem gzSp_nr {I : gzIT} {nf k : Nat} {nr on : Nat → Int32} (hk : k < 6) : gzSp I nf nr on 0 42 k = nr k := by
  unfold gzSp
  rw [if_neg (by omega), if_pos ⟨rfl, rfl, hk⟩]
theorem gzSp_on {I : gzIT} {nf k : Nat} {nr on : Nat → Int32} (hk : k < 6) : gzSp I nf nr on 0 43 k = on k := by
  unfold gzSp
  rw [if_neg (by omega), if_neg (by omega), if_pos ⟨rfl, rfl, hk⟩]
theorem gzSp_unr {I : gzIT} {nf a : Nat} {nr on : Nat → Int32} {v : Int32} (ha : a < 6) : gz_ui (gzSp I nf nr on) 0 42 a v = gzSp I nf (gzUp nr a v) on := by
  funext t o k
  unfold gz_ui gzSp gzUp
  by_cases e : t = 0 ∧ o = 42 ∧ k = a
  · rw [if_pos e, if_neg (by omega), if_pos (by omega), if_pos e.2.2]
  · rw [if_neg e]
    by_cases e1 : t = 0 ∧ o = 42 ∧ k < 6
    · rw [if_neg (by omega), if_pos e1, if_neg (by omega), if_pos e1, if_neg (by omega)]
    · by_cases e2 : t = 0 ∧ o = 41 ∧ k = 5
      · rw [if_pos e2, if_pos e2]
      · rw [if_neg e2, if_neg e1, if_neg e2, if_neg e1]
theorem gzSp_uon {I : gzIT} {nf a : Nat} {nr on : Nat → Int32} {v : Int32} (ha : a < 6) : gz_ui (gzSp I nf nr on) 0 43 a v = gzSp I nf nr (gzUp on a v) := by
  funext t o k
  unfold gz_ui gzSp gzUp
  by_cases e : t = 0 ∧ o = 43 ∧ k = a
  · rw [if_pos e, if_neg (by omega), if_neg (by omega), if_pos (by omega), if_pos e.2.2]
  · rw [if_neg e]
    by_cases e1 : t = 0 ∧ o = 43 ∧ k < 6
    · rw [if_neg (by omega), if_neg (by omega), if_pos e1, if_neg (by omega), if_neg (by omega), if_pos e1, if_neg (by omega)]
    · by_cases e2 : t = 0 ∧ o = 41 ∧ k = 5
      · rw [if_pos e2, if_pos e2]
      · by_cases e3 : t = 0 ∧ o = 42 ∧ k < 6
        · rw [if_neg e2, if_pos e3, if_neg e2, if_pos e3]
        · rw [if_neg e2, if_neg e3, if_neg e1, if_neg e2, if_neg e3, if_neg e1]
/-- bits only below n -/
def gzBl (n : Nat) (x : Int32) : Prop := ∀ j, n ≤ j → j < 32 → gzB x j = false
/-- a set, and those that its own lead to -/
def S_wide (q : Nat → Int32) (nf : Nat) (x : Int32) : Int32 := gzFo (fun s f => s ||| (if gzB x f = true then q f else 0)) 0 nf x
def gzIx (q : Nat → Int32) (nf : Nat) (x : Int32) : Nat → Int32
  | 0 => x
  | i + 1 => S_wide q nf (gzIx q nf x i)
theorem S_wide_b {q : Nat → Int32} {nf : Nat} {x : Int32} {j : Nat} : gzB (S_wide q nf x) j = (gzB x j || gzAn (fun f => gzB x f && gzB (q f) j) 0 nf) := by
  unfold S_wide
  rw [gzb_fo]
  congr 1
  refine gzAn_congr fun f _ _ => ?_
  by_cases h : gzB x f = true
  · rw [if_pos h, h]; rfl
  · rw [if_neg h, gzb_zero]; simp [h]
theorem S_wide_bl {q : Nat → Int32} {nf : Nat} {x : Int32} (hq : ∀ f, f < nf → gzBl nf (q f)) (hx : gzBl nf x) : gzBl nf (S_wide q nf x) := by
  intro j h1 h2
  rw [S_wide_b, hx j h1 h2, Bool.false_or]
  cases hh : gzAn (fun f => gzB x f && gzB (q f) j) 0 nf with
  | false => rfl
  | true =>
    obtain ⟨f, a, b, c⟩ := gzAn_iff.mp hh
    rw [Bool.and_eq_true, hq f (by omega) j h1 h2] at c
    cases c.2
theorem gzIx_bl {q : Nat → Int32} {nf : Nat} {x : Int32} (hq : ∀ f, f < nf → gzBl nf (q f)) (hx : gzBl nf x) : ∀ i, gzBl nf (gzIx q nf x i) := by
  intro i
  induction i with
  | zero => exact hx
  | succ i ih => exact S_wide_bl hq ih
/-- how many below n -/
def gzCn (p : Nat → Bool) : Nat → Nat
  | 0 => 0
  | n + 1 => gzCn p n + (if p n = true then 1 else 0)
theorem gzCn_le {p : Nat → Bool} : ∀ n, gzCn p n ≤ n := by
  intro n
  induction n with
  | zero => exact Nat.le_refl _
  | succ n ih =>
    show gzCn p n + (if p n = true then 1 else 0) ≤ n + 1
    split <;> omega
theorem gzCn_mono {p q : Nat → Bool} : ∀ n, (∀ j, j < n → p j = true → q j = true) → gzCn p n ≤ gzCn q n := by
  intro n
  induction n with
  | zero => intro _; exact Nat.le_refl _
  | succ n ih =>
    intro h
    have h1 := ih (fun j hj => h j (by omega))
    have h2 := h n (by omega)
    show gzCn p n + (if p n = true then 1 else 0) ≤ gzCn q n + (if q n = true then 1 else 0)
    by_cases e : p n = true
    · rw [if_pos e, if_pos (h2 e)]; omega
    · rw [if_neg e]; omega
theorem gzCn_lt {p q : Nat → Bool} : ∀ n, (∀ j, j < n → p j = true → q j = true) → (∃ j, j < n ∧ p j = false ∧ q j = true) → gzCn p n + 1 ≤ gzCn q n := by
  intro n
  induction n with
  | zero => rintro _ ⟨j, hj, _⟩; omega
  | succ n ih =>
    rintro h ⟨j, hj, hp, hq⟩
    show gzCn p n + (if p n = true then 1 else 0) + 1 ≤ gzCn q n + (if q n = true then 1 else 0)
    by_cases e : j = n
    · subst e
      have h1 := gzCn_mono j (fun j' hj' => h j' (by omega))
      rw [if_neg (by rw [hp]; decide), if_pos hq]; omega
    · have h1 := ih (fun j' hj' => h j' (by omega)) ⟨j, by omega, hp, hq⟩
      have h2 := h n (by omega)
      by_cases e : p n = true
      · rw [if_pos e, if_pos (h2 e)]; omega
      · rw [if_neg e]; omega
theorem gzIx_stay {q : Nat → Int32} {nf : Nat} {x : Int32} {i : Nat} (h : gzIx q nf x (i + 1) = gzIx q nf x i) : ∀ m, gzIx q nf x (i + m) = gzIx q nf x i := by
  intro m
  induction m with
  | zero => rfl
  | succ m ih =>
    show S_wide q nf (gzIx q nf x (i + m)) = _
    rw [ih]; exact h
theorem gzIx_fix {q : Nat → Int32} {nf : Nat} {x : Int32} (hn : nf ≤ 6) (hq : ∀ f, f < nf → gzBl nf (q f)) (hx : gzBl nf x) {c0 : Nat} (hc : c0 ≤ gzCn (gzB x) nf) : ∀ i, nf ≤ i + c0 → gzIx q nf x (i + 1) = gzIx q nf x i := by
  intro i0 hi0
  apply Classical.byContradiction
  intro hne
  have hall : ∀ i, i ≤ i0 → gzIx q nf x (i + 1) ≠ gzIx q nf x i := by
    intro i hi he
    apply hne
    have h1 := gzIx_stay he (i0 + 1 - i)
    have h2 := gzIx_stay he (i0 - i)
    rw [show i + (i0 + 1 - i) = i0 + 1 by omega] at h1
    rw [show i + (i0 - i) = i0 by omega] at h2
    rw [h1, h2]
  have hgrow : ∀ i, i ≤ i0 + 1 → c0 + i ≤ gzCn (gzB (gzIx q nf x i)) nf := by
    intro i
    induction i with
    | zero => intro _; exact hc
    | succ i ih =>
      intro hi
      have h1 := ih (by omega)
      have hsub : ∀ j, gzB (gzIx q nf x i) j = true → gzB (gzIx q nf x (i + 1)) j = true := by
        intro j hj
        show gzB (S_wide q nf (gzIx q nf x i)) j = true
        rw [S_wide_b, hj]; rfl
      have hex : ∃ j, j < nf ∧ gzB (gzIx q nf x i) j = false ∧ gzB (gzIx q nf x (i + 1)) j = true := by
        apply Classical.byContradiction
        intro hno
        apply hall i (by omega)
        refine gzb_ext fun j hj => ?_
        by_cases hjn : j < nf
        · cases e1 : gzB (gzIx q nf x i) j with
          | true => exact hsub j e1
          | false =>
            cases e2 : gzB (gzIx q nf x (i + 1)) j with
            | false => rfl
            | true => exact absurd ⟨j, hjn, e1, e2⟩ hno
        · rw [gzIx_bl hq hx (i + 1) j (by omega) hj, gzIx_bl hq hx i j (by omega) hj]
      have h2 := gzCn_lt nf (fun j _ => hsub j) hex
      omega
  have h3 := hgrow (i0 + 1) (Nat.le_refl _)
  have h4 := gzCn_le (p := gzB (gzIx q nf x (i0 + 1))) nf
  omega
theorem gzIx_rest {q : Nat → Int32} {nf : Nat} {x : Int32} (hn : nf ≤ 6) (hq : ∀ f, f < nf → gzBl nf (q f)) (hx : gzBl nf x) {c0 : Nat} (hc : c0 ≤ gzCn (gzB x) nf) {i j : Nat} (hi : nf ≤ i + c0) (hj : nf ≤ j + c0) : gzIx q nf x i = gzIx q nf x j := by
  have h1 := gzIx_stay (gzIx_fix hn hq hx hc (nf - c0) (by omega)) (i - (nf - c0))
  have h2 := gzIx_stay (gzIx_fix hn hq hx hc (nf - c0) (by omega)) (j - (nf - c0))
  rw [show nf - c0 + (i - (nf - c0)) = i by omega] at h1
  rw [show nf - c0 + (j - (nf - c0)) = j by omega] at h2
  rw [h1, h2]
section
variable {I I' : gzIT} {J : gzJT} {w : Nat → Int32} {nf ng t φ : Nat}
def gzSps (w : Nat → Int32) (act : Nat → Bool) (s : (Nat → Int32) × (Nat → Int32)) (g : Nat) : (Nat → Int32) × (Nat → Int32) :=
  if act g = true then (gzUp (gzUp s.1 (tF w g) (s.1 (tF w g) ||| gzbt (tT w g))) (tT w g) (s.1 (tT w g) ||| gzbt (tF w g)), gzUp s.2 (tF w g) (s.2 (tF w g) ||| gzbt (tT w g))) else s
theorem gzSps_at {act : Nat → Bool} (hN : ∀ g, g < ng → tF w g ≠ tT w g) : ∀ (m i : Nat) (s : (Nat → Int32) × (Nat → Int32)) (f : Nat), i + m ≤ ng → (gzFo (gzSps w act) i m s).1 f = gzFo (fun x g => x ||| gzNq w act f g) i m (s.1 f) ∧ (gzFo (gzSps w act) i m s).2 f = gzFo (fun x g => x ||| gzOq w act f g) i m (s.2 f) := by
  intro m
  induction m with
  | zero => intro i s f _; exact ⟨rfl, rfl⟩
  | succ m ih =>
    intro i s f hi
    have hn := hN i (by omega)
    have e1 : (gzSps w act s i).1 f = s.1 f ||| gzNq w act f i := by
      unfold gzSps gzNq gzUp
      by_cases x : act i = true <;> by_cases a : tF w i = f <;> by_cases b : tT w i = f <;> simp [x, a, b, gz_or0]
      · omega
      · rw [if_neg (by omega), if_neg (by omega)]
    have e2 : (gzSps w act s i).2 f = s.2 f ||| gzOq w act f i := by
      unfold gzSps gzOq gzUp
      by_cases x : act i = true <;> by_cases a : tF w i = f <;> simp [x, a, gz_or0]
      intro h; omega
    have h := ih (i + 1) (gzSps w act s i) f (by omega)
    rw [e1, e2] at h
    exact h
theorem gzSp_vc {nr on : Nat → Int32} (h : gzVc I t w nf ng) : gzVc (gzSp I nf nr on) t w nf ng := by
  have e : ∀ o k, o < 20 → gzSp I nf nr on t o k = I t o k := fun o k ho => gzSp_o (by omega)
  unfold gzVc at h ⊢
  simp (disch := omega) only [e]
  exact h
theorem c_spin {a : Int32} (h : gzVc I 0 w nf ng) (hb : gzVb w nf ng) (hφ : 10 < φ) : ∃ nr on, f_X10_spin φ 0 a I J = some ((), gzSp I nf nr on, J) ∧ (∀ f, nr f = S_near w ng (fun g => !tH w g && !gzB a g) f) ∧ (∀ f, on f = S_onw w ng (fun g => !tH w g && !gzB a g) f) := by
  obtain ⟨⟨h1, h2, h3, h4⟩, -⟩ := id h
  refine ⟨(gzFo (gzSps w (fun g => !tH w g && !gzB a g)) 0 ng (fun _ => 0, fun _ => 0)).1, (gzFo (gzSps w (fun g => !tH w g && !gzB a g)) 0 ng (fun _ => 0, fun _ => 0)).2, ?_, fun f => (gzSps_at hb.2.2.1 ng 0 _ f (by omega)).1, fun f => (gzSps_at hb.2.2.1 ng 0 _ f (by omega)).2⟩
  unfold f_X10_spin
  rw [h1]
  have e0 : ∃ m42 m43 : Nat → Int32, gz_ui I 0 41 5 (Int32.ofNat nf) = gzSp I nf m42 m43 := by
    refine ⟨I 0 42, I 0 43, ?_⟩
    funext t o k
    unfold gz_ui gzSp
    by_cases e1 : t = 0 ∧ o = 41 ∧ k = 5
    · rw [if_pos e1, if_pos e1]
    · rw [if_neg e1, if_neg e1]
      by_cases e2 : t = 0 ∧ o = 42 ∧ k < 6
      · rw [if_pos e2, e2.1, e2.2.1]
      · rw [if_neg e2]
        by_cases e3 : t = 0 ∧ o = 43 ∧ k < 6
        · rw [if_pos e3, e3.1, e3.2.1]
        · rw [if_neg e3]
  obtain ⟨m42, m43, e0⟩ := e0
  rw [e0]
  have second : f_X10_spin_41 φ 0 φ a 0 (gzSp I nf (fun _ => 0) (fun _ => 0)) J = some ((), gzSp I nf (gzFo (gzSps w (fun g => !tH w g && !gzB a g)) 0 ng (fun _ => 0, fun _ => 0)).1 (gzFo (gzSps w (fun g => !tH w g && !gzB a g)) 0 ng (fun _ => 0, fun _ => 0)).2, J) := by
    refine gz_loop (F := fun k (s : (Nat → Int32) × (Nat → Int32)) i => f_X10_spin_41 φ 0 k a i (gzSp I nf s.1 s.2) J) (n := ng) (step := gzSps w (fun g => !tH w g && !gzB a g)) (out := fun s => some ((), gzSp I nf s.1 s.2, J)) ?_ ?_ ng 0 φ (fun _ => 0, fun _ => 0) (by omega) (by omega)
    · intro k s i hi
      have v := gzSp_vc (nr := s.1) (on := s.2) h
      have q1 := hb.1 i hi
      have q2 := hb.2.1 i hi
      have q3 := hb.2.2.1 i hi
      have e8 : ∀ x y, gzSp I nf x y 0 8 i = Int32.ofNat (tF w i) := fun x y => (gzSp_vc (nr := x) (on := y) h).2.1 i hi
      have e9 : ∀ x y, gzSp I nf x y 0 9 i = Int32.ofNat (tT w i) := fun x y => (gzSp_vc (nr := x) (on := y) h).2.2.1 i hi
      show f_X10_spin_41 φ 0 (k + 1) a (Int32.ofNat i) (gzSp I nf s.1 s.2) J = f_X10_spin_41 φ 0 k a (Int32.ofNat (i + 1)) (gzSp I nf (gzSps w (fun g => !tH w g && !gzB a g) s i).1 (gzSps w (fun g => !tH w g && !gzB a g) s i).2) J
      simp (disch := omega) only [f_X10_spin_41, v.1.2.1, gzn_le, c_frozen v, gzc_has, gzGd_in, gzn_clamp, e8, e9, gzc_cell, gzc_write, gzSp_nr, gzSp_on, gzSp_unr, gzSp_uon, gzn_succ, Option.bind_some, if_neg]
      unfold gzSps
      by_cases x : tH w i = true <;> by_cases y : gzB a i = true <;> simp [x, y, gzUp, gzbt]
      rw [if_neg (by omega)]
    · intro k s
      have v := gzSp_vc (nr := s.1) (on := s.2) h
      show f_X10_spin_41 φ 0 (k + 1) a (Int32.ofNat ng) (gzSp I nf s.1 s.2) J = _
      simp (disch := omega) only [f_X10_spin_41, v.1.2.1, gzn_le, if_pos]
  have first : f_X10_spin_13 φ 0 φ a 0 (gzSp I nf m42 m43) J = f_X10_spin_41 φ 0 φ a 0 (gzSp I nf (gzFo (fun (s : (Nat → Int32) × (Nat → Int32)) i => (gzUp s.1 i 0, gzUp s.2 i 0)) 0 6 (m42, m43)).1 (gzFo (fun (s : (Nat → Int32) × (Nat → Int32)) i => (gzUp s.1 i 0, gzUp s.2 i 0)) 0 6 (m42, m43)).2) J := by
    refine gz_loop (F := fun k (s : (Nat → Int32) × (Nat → Int32)) i => f_X10_spin_13 φ 0 k a i (gzSp I nf s.1 s.2) J) (n := 6) (step := fun s i => (gzUp s.1 i 0, gzUp s.2 i 0)) (out := fun s => f_X10_spin_41 φ 0 φ a 0 (gzSp I nf s.1 s.2) J) ?_ ?_ 6 0 φ (m42, m43) (by omega) (by omega)
    · intro k s i hi
      show f_X10_spin_13 φ 0 (k + 1) a (Int32.ofNat i) (gzSp I nf s.1 s.2) J = f_X10_spin_13 φ 0 k a (Int32.ofNat (i + 1)) (gzSp I nf (gzUp s.1 i 0) (gzUp s.2 i 0)) J
      simp (disch := omega) only [f_X10_spin_13, gzc_le1, gzGd_in, gzn_clamp, gzSp_unr, gzSp_uon, gzn_succ, if_neg]
    · intro k s
      show f_X10_spin_13 φ 0 (k + 1) a 6 (gzSp I nf s.1 s.2) J = _
      rw [f_X10_spin_13, if_pos (by decide)]
  rw [first, ← second]
  congr 1
  funext t o k
  unfold gzSp
  by_cases e2 : t = 0 ∧ o = 42 ∧ k < 6
  · rw [if_neg (by omega), if_pos e2, if_neg (by omega), if_pos e2]
    rcases (show k = 0 ∨ k = 1 ∨ k = 2 ∨ k = 3 ∨ k = 4 ∨ k = 5 by omega) with rfl | rfl | rfl | rfl | rfl | rfl <;> rfl
  · by_cases e1 : t = 0 ∧ o = 41 ∧ k = 5
    · rw [if_pos e1, if_pos e1]
    · by_cases e3 : t = 0 ∧ o = 43 ∧ k < 6
      · rw [if_neg e1, if_neg e2, if_pos e3, if_neg e1, if_neg e2, if_pos e3]
        rcases (show k = 0 ∨ k = 1 ∨ k = 2 ∨ k = 3 ∨ k = 4 ∨ k = 5 by omega) with rfl | rfl | rfl | rfl | rfl | rfl <;> rfl
      · rw [if_neg e1, if_neg e2, if_neg e3, if_neg e1, if_neg e2, if_neg e3]
end
