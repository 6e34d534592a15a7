/-! families put two by two: the class -/
def gzUd (c s : Nat × (Nat → Int32)) : Nat × (Nat → Int32) := if c.1 ≤ s.1 then s else c
theorem gzUd2 {c1 c2 s : Nat × (Nat → Int32)} : gzUd c2 (gzUd c1 s) = gzUd (if c1.1 < c2.1 then c2 else c1) s := by
  unfold gzUd
  by_cases h1 : c1.1 ≤ s.1
  · rw [if_pos h1]
    by_cases h2 : c1.1 < c2.1
    · rw [if_pos h2]
    · rw [if_neg h2, if_pos h1, if_pos (by omega)]
  · rw [if_neg h1]
    by_cases h2 : c1.1 < c2.1
    · rw [if_neg (by omega), if_pos h2, if_neg (by omega)]
    · rw [if_pos (by omega), if_neg h2, if_neg h1]
/-- the best that the last m families have, and who with whom -/
def gzGp (N : Nat) (K : Nat → Nat → Bool) (p : Nat → Nat) (B0 : Nat → Int32) : Nat → (Nat → Int32) → Nat × (Nat → Int32)
  | 0, W => (0, fun k => if k < 6 then W k else B0 k)
  | m + 1, W => if W (N - (m + 1)) = -1 then gzFo (fun s o => if W o = -1 ∧ K (N - (m + 1)) o = true then (if s.1 < p (N - (m + 1)) + p o + (gzGp N K p B0 m (gzUp (gzUp W (N - (m + 1)) (Int32.ofNat o)) o (Int32.ofNat (N - (m + 1))))).1 then (p (N - (m + 1)) + p o + (gzGp N K p B0 m (gzUp (gzUp W (N - (m + 1)) (Int32.ofNat o)) o (Int32.ofNat (N - (m + 1))))).1, (gzGp N K p B0 m (gzUp (gzUp W (N - (m + 1)) (Int32.ofNat o)) o (Int32.ofNat (N - (m + 1))))).2) else s) else s) (N - m) m (gzGp N K p B0 m W) else gzGp N K p B0 m W
section
variable {I I' I2 X : gzIT} {J : gzJT} {w : Nat → Int32} {nf ng nl nx t t1 φ N : Nat} {K : Nat → Nat → Bool} {p : Nat → Nat} {B0 : Nat → Int32}
theorem gzGp_b (hp : ∀ f, p f ≤ 9) : ∀ (m : Nat) (W : Nat → Int32), (gzGp N K p B0 m W).1 ≤ 18 * m ∧ ∀ j, 6 ≤ j → (gzGp N K p B0 m W).2 j = B0 j := by
  intro m
  induction m with
  | zero => intro W; exact ⟨Nat.zero_le _, fun j hj => if_neg (by omega)⟩
  | succ m ih =>
    intro W
    unfold gzGp
    by_cases q : W (N - (m + 1)) = -1
    · rw [if_pos q]
      have key := gzFo_keep (f := fun (s : Nat × (Nat → Int32)) o => if W o = -1 ∧ K (N - (m + 1)) o = true then (if s.1 < p (N - (m + 1)) + p o + (gzGp N K p B0 m (gzUp (gzUp W (N - (m + 1)) (Int32.ofNat o)) o (Int32.ofNat (N - (m + 1))))).1 then (p (N - (m + 1)) + p o + (gzGp N K p B0 m (gzUp (gzUp W (N - (m + 1)) (Int32.ofNat o)) o (Int32.ofNat (N - (m + 1))))).1, (gzGp N K p B0 m (gzUp (gzUp W (N - (m + 1)) (Int32.ofNat o)) o (Int32.ofNat (N - (m + 1))))).2) else s) else s) (p := fun _ (s : Nat × (Nat → Int32)) => s.1 ≤ 18 * (m + 1) ∧ ∀ j, 6 ≤ j → s.2 j = B0 j) m (N - m) (gzGp N K p B0 m W) ⟨Nat.le_trans (ih W).1 (by omega), (ih W).2⟩ (fun s o _ _ hs => by
        show (if _ then _ else s).1 ≤ _ ∧ _
        by_cases c : W o = -1 ∧ K (N - (m + 1)) o = true
        · rw [if_pos c]
          by_cases d : s.1 < p (N - (m + 1)) + p o + (gzGp N K p B0 m (gzUp (gzUp W (N - (m + 1)) (Int32.ofNat o)) o (Int32.ofNat (N - (m + 1))))).1
          · rw [if_pos d]
            have h1 := hp (N - (m + 1))
            have h2 := hp o
            have h3 := ih (gzUp (gzUp W (N - (m + 1)) (Int32.ofNat o)) o (Int32.ofNat (N - (m + 1))))
            exact ⟨by show p (N - (m + 1)) + p o + _ ≤ _; omega, h3.2⟩
          · rw [if_neg d]; exact hs
        · rw [if_neg c]; exact hs)
      exact key
    · rw [if_neg q]
      exact ⟨Nat.le_trans (ih W).1 (by omega), (ih W).2⟩
/-- the web's memory: with, best, most -/
def gzCM (I : gzIT) (W : Nat → Int32) (S : Nat × (Nat → Int32)) : gzIT := fun t o k => if t = 0 ∧ o = 44 then W k else if t = 0 ∧ o = 45 then S.2 k else if t = 0 ∧ o = 41 ∧ k = 6 then Int32.ofNat S.1 - 1 else I t o k
theorem gzCM_w {W : Nat → Int32} {S : Nat × (Nat → Int32)} {a : Nat} {v : Int32} : gz_ui (gzCM I W S) 0 44 a v = gzCM I (gzUp W a v) S := by
  funext t o k
  unfold gz_ui gzCM gzUp
  by_cases e : t = 0 ∧ o = 44 ∧ k = a
  · rw [if_pos e, if_pos ⟨e.1, e.2.1⟩, if_pos e.2.2]
  · rw [if_neg e]
    by_cases e2 : t = 0 ∧ o = 44
    · rw [if_pos e2, if_pos e2, if_neg (fun z => e ⟨e2.1, e2.2, z⟩)]
    · rw [if_neg e2, if_neg e2]
theorem gzCM_44 {W : Nat → Int32} {S : Nat × (Nat → Int32)} {k : Nat} : gzCM I W S 0 44 k = W k := if_pos ⟨rfl, rfl⟩
theorem gzCM_o {W : Nat → Int32} {S : Nat × (Nat → Int32)} {t o k : Nat} (h : ¬ (t = 0 ∧ (o = 44 ∨ o = 45 ∨ (o = 41 ∧ k = 6)))) : gzCM I W S t o k = I t o k := by
  unfold gzCM
  rw [if_neg (by omega), if_neg (by omega), if_neg (by omega)]
theorem gzCM_6 {W : Nat → Int32} {S : Nat × (Nat → Int32)} : gzCM I W S 0 41 6 = Int32.ofNat S.1 - 1 := by
  unfold gzCM
  rw [if_neg (by omega), if_neg (by omega), if_pos ⟨rfl, rfl, rfl⟩]
theorem gzCM_cp {W : Nat → Int32} {S : Nat × (Nat → Int32)} {a : Nat} : f_X11_copy 0 44 6 0 45 6 (gz_ui (gzCM I W S) 0 41 6 (Int32.ofNat a)) J = some ((), gzCM I W (a + 1, fun k => if k < 6 then W k else S.2 k), J) := by
  unfold f_X11_copy gzCp
  have z0 : (0 : Int32).toNatClampNeg = 0 := rfl
  have e0 : (if Int32.ofNat 6 < Int32.ofNat 6 then Int32.ofNat 6 else Int32.ofNat 6) = Int32.ofNat 6 := rfl
  have e6 : (Int32.ofNat 6).toNatClampNeg = 6 := rfl
  rw [e0, e6, z0, if_neg (by decide)]
  refine congrArg (fun M => some ((), M, J)) (funext fun t => funext fun o => ?_)
  unfold gz_uw
  by_cases e : t = 0 ∧ o = 45
  · rw [if_pos e]
    funext k
    have h1 : gz_ui (gzCM I W S) 0 41 6 (Int32.ofNat a) 0 44 k = W k := (if_neg (by omega)).trans gzCM_44
    have h2 : gz_ui (gzCM I W S) 0 41 6 (Int32.ofNat a) 0 45 k = S.2 k := (if_neg (by omega)).trans (by unfold gzCM; rw [if_neg (by omega), if_pos ⟨rfl, rfl⟩])
    have h3 : gzCM I W (a + 1, fun k => if k < 6 then W k else S.2 k) t o k = if k < 6 then W k else S.2 k := by
      unfold gzCM
      rw [if_neg (by omega), if_pos e]
    rw [h3]
    unfold va_cpy
    by_cases q : k < 6
    · rw [if_pos ⟨Nat.zero_le _, by omega⟩, if_pos q, Nat.zero_add, Nat.sub_zero, h1]
    · rw [if_neg (by omega), if_neg q, h2]
  · rw [if_neg e]
    funext k
    unfold gz_ui gzCM
    by_cases e1 : t = 0 ∧ o = 41 ∧ k = 6
    · rw [if_pos e1, if_neg (by omega), if_neg e, if_pos e1]
      exact (gzc_sub (k := 1) (show 1 ≤ a + 1 by omega)).symm
    · rw [if_neg e1, if_neg e1, if_neg e, if_neg e, if_neg e1]
theorem gzUp_back {W : Nat → Int32} {f o : Nat} {a b : Int32} (hf : W f = -1) (ho : W o = -1) : gzUp (gzUp (gzUp (gzUp W f a) o b) f (-1)) o (-1) = W := by
  funext k
  unfold gzUp
  by_cases e1 : k = o
  · rw [if_pos e1, e1, ho]
  · rw [if_neg e1]
    by_cases e2 : k = f
    · rw [if_pos e2, e2, hf]
    · rw [if_neg e2, if_neg e1, if_neg e2]
theorem c_pair (h5 : I 0 41 5 = Int32.ofNat N) (hN : N ≤ 6) (hK : ∀ f, f < N → ∀ o, o < N → gzB (I 0 42 f) o = !K f o) (hpr : ∀ f, f < N → I 0 2 f = Int32.ofNat (p f)) (hp : ∀ f, p f ≤ 9) (hφ : 20 < φ) : ∀ (m k pr : Nat) (W : Nat → Int32) (S : Nat × (Nat → Int32)), m ≤ N → m < k → pr + 18 * m ≤ 200 → S.1 ≤ 300 → (∀ j, 6 ≤ j → S.2 j = B0 j) → fR_X10_pair φ 0 k (Int32.ofNat (N - m)) (Int32.ofNat pr) (gzCM I W S) J = some ((), gzCM I W (gzUd (pr + (gzGp N K p B0 m W).1 + 1, (gzGp N K p B0 m W).2) S), J) := by
  intro m
  induction m with
  | zero =>
    intro k pr W S hm hk hpb hs hB
    obtain ⟨k, rfl⟩ : ∃ q, k = q + 1 := ⟨k - 1, by omega⟩
    have e6 : gzCM I W S 0 41 6 = Int32.ofNat S.1 - 1 := gzCM_6
    have leaf : (if Int32.ofNat pr ≤ gzCM I W S 0 41 6 then (some ((), gzCM I W S, J)) else (Option.bind (f_X11_copy 0 44 6 0 45 6 (gz_ui (gzCM I W S) 0 41 6 (Int32.ofNat pr)) J) (fun v4 => some ((), v4.2.1, v4.2.2)))) = some ((), gzCM I W (gzUd (pr + (gzGp N K p B0 0 W).1 + 1, (gzGp N K p B0 0 W).2) S), J) := by
      have eU : gzUd (pr + (gzGp N K p B0 0 W).1 + 1, (gzGp N K p B0 0 W).2) S = if pr + 1 ≤ S.1 then S else (pr + 1, fun k => if k < 6 then W k else S.2 k) := by
        have eL : (gzGp N K p B0 0 W).2 = fun k => if k < 6 then W k else S.2 k := by
          funext j
          show (if j < 6 then W j else B0 j) = if j < 6 then W j else S.2 j
          by_cases q : j < 6
          · rw [if_pos q, if_pos q]
          · rw [if_neg q, if_neg q, hB j (by omega)]
        rw [eL]
        rfl
      rw [e6, eU]
      by_cases q : pr + 1 ≤ S.1
      · have ec : Int32.ofNat S.1 - 1 = Int32.ofNat (S.1 - 1) := gzc_sub (k := 1) (show 1 ≤ S.1 by omega)
        rw [if_pos (by rw [ec, gzn_le (by omega) (by omega)]; omega), if_pos q]
      · have hn : ¬ Int32.ofNat pr ≤ Int32.ofNat S.1 - 1 := by
          intro z
          have z' := Int32.le_iff_toInt_le.mp z
          rw [gzn_int (by omega)] at z'
          by_cases s0 : S.1 = 0
          · rw [s0] at z'
            have : (Int32.ofNat 0 - 1).toInt = -1 := by decide
            omega
          · have ec : Int32.ofNat S.1 - 1 = Int32.ofNat (S.1 - 1) := gzc_sub (k := 1) (show 1 ≤ S.1 by omega)
            rw [ec, gzn_int (by omega)] at z'
            omega
        rw [if_neg hn, if_neg q, gzCM_cp]
        rfl
    rw [fR_X10_pair, if_neg (by rw [gzc_lt0 (by omega)]; exact id), gzCM_o (t := 0) (o := 41) (k := 5) (by omega), h5, if_pos (by rw [gzn_le (by omega) (by omega)]; omega)]
    exact leaf
  | succ m ih =>
    intro k pr W S hm hk hpb hs hB
    obtain ⟨k, rfl⟩ : ∃ q, k = q + 1 := ⟨k - 1, by omega⟩
    obtain ⟨f, hf⟩ : ∃ f, f = N - (m + 1) := ⟨_, rfl⟩
    have bnd : ∀ (W : Nat → Int32), (gzGp N K p B0 m W).1 ≤ 18 * m ∧ ∀ j, 6 ≤ j → (gzGp N K p B0 m W).2 j = B0 j := gzGp_b hp m
    have hrec : ∀ (pr' : Nat) (W : Nat → Int32) (S : Nat × (Nat → Int32)), pr' + 18 * m ≤ 200 → S.1 ≤ 300 → (∀ j, 6 ≤ j → S.2 j = B0 j) → fR_X10_pair φ 0 k (Int32.ofNat f + 1) (Int32.ofNat pr') (gzCM I W S) J = some ((), gzCM I W (gzUd (pr' + (gzGp N K p B0 m W).1 + 1, (gzGp N K p B0 m W).2) S), J) := fun pr' W S h1 h2 h3 => by
      rw [gzn_succ, show f + 1 = N - m by omega]
      exact ih k pr' W S (by omega) (by omega) h1 h2 h3
    have udb : ∀ (c S : Nat × (Nat → Int32)), c.1 ≤ 300 → S.1 ≤ 300 → (∀ j, 6 ≤ j → c.2 j = B0 j) → (∀ j, 6 ≤ j → S.2 j = B0 j) → (gzUd c S).1 ≤ 300 ∧ ∀ j, 6 ≤ j → (gzUd c S).2 j = B0 j := fun c S h1 h2 h3 h4 => by
      unfold gzUd
      by_cases q : c.1 ≤ S.1
      · rw [if_pos q]; exact ⟨h2, h4⟩
      · rw [if_neg q]; exact ⟨h1, h3⟩
    rw [← hf, fR_X10_pair, if_neg (by rw [gzc_lt0 (by omega)]; exact id), gzCM_o (t := 0) (o := 41) (k := 5) (by omega), h5, if_neg (by rw [gzn_le (by omega) (by omega)]; omega), if_pos (by rw [gzc_lt2 (by omega) (by omega)]; omega), hrec pr W S (by omega) hs hB]
    simp only [Option.bind_some]
    rw [gzGd_in (by omega) (by omega), gzn_clamp (by omega), gzCM_44]
    by_cases q : W f = -1
    · rw [if_pos q]
      have eG : gzGp N K p B0 (m + 1) W = gzFo (fun s o => if W o = -1 ∧ K f o = true then (if s.1 < p f + p o + (gzGp N K p B0 m (gzUp (gzUp W f (Int32.ofNat o)) o (Int32.ofNat f))).1 then (p f + p o + (gzGp N K p B0 m (gzUp (gzUp W f (Int32.ofNat o)) o (Int32.ofNat f))).1, (gzGp N K p B0 m (gzUp (gzUp W f (Int32.ofNat o)) o (Int32.ofNat f))).2) else s) else s) (f + 1) m (gzGp N K p B0 m W) := by
        rw [gzGp, ← hf, if_pos q, show N - m = f + 1 by omega]
      have loop : ∀ (mm o k2 : Nat) (c S0 : Nat × (Nat → Int32)), o + mm = N → f < o → mm < k2 → c.1 ≤ 18 * (m + 1) → S0.1 ≤ 300 → (∀ j, 6 ≤ j → c.2 j = B0 j) → (∀ j, 6 ≤ j → S0.2 j = B0 j) → f_X10_pair_68 φ 0 (fR_X10_pair φ 0 k) k2 (Int32.ofNat f) (Int32.ofNat pr) (Int32.ofNat o) (gzCM I W (gzUd (pr + c.1 + 1, c.2) S0)) J = some ((), gzCM I W (gzUd (pr + (gzFo (fun s o => if W o = -1 ∧ K f o = true then (if s.1 < p f + p o + (gzGp N K p B0 m (gzUp (gzUp W f (Int32.ofNat o)) o (Int32.ofNat f))).1 then (p f + p o + (gzGp N K p B0 m (gzUp (gzUp W f (Int32.ofNat o)) o (Int32.ofNat f))).1, (gzGp N K p B0 m (gzUp (gzUp W f (Int32.ofNat o)) o (Int32.ofNat f))).2) else s) else s) o mm c).1 + 1, (gzFo (fun s o => if W o = -1 ∧ K f o = true then (if s.1 < p f + p o + (gzGp N K p B0 m (gzUp (gzUp W f (Int32.ofNat o)) o (Int32.ofNat f))).1 then (p f + p o + (gzGp N K p B0 m (gzUp (gzUp W f (Int32.ofNat o)) o (Int32.ofNat f))).1, (gzGp N K p B0 m (gzUp (gzUp W f (Int32.ofNat o)) o (Int32.ofNat f))).2) else s) else s) o mm c).2) S0), J) := by
        intro mm
        induction mm with
        | zero =>
          intro o k2 c S0 ho hfo hk2 hc hs0 hcB hB0
          obtain ⟨k2, rfl⟩ : ∃ q, k2 = q + 1 := ⟨k2 - 1, by omega⟩
          rw [f_X10_pair_68, gzCM_o (t := 0) (o := 41) (k := 5) (by omega), h5, if_pos (by rw [gzn_le (by omega) (by omega)]; omega)]
          rfl
        | succ mm ihm =>
          intro o k2 c S0 ho hfo hk2 hc hs0 hcB hB0
          obtain ⟨k2, rfl⟩ : ∃ q, k2 = q + 1 := ⟨k2 - 1, by omega⟩
          have hub := udb (pr + c.1 + 1, c.2) S0 (by show pr + c.1 + 1 ≤ 300; omega) hs0 hcB hB0
          rw [f_X10_pair_68, gzCM_o (t := 0) (o := 41) (k := 5) (by omega), h5, if_neg (by rw [gzn_le (by omega) (by omega)]; omega), if_neg (by rw [gzc_le1 (by omega) (by omega)]; omega), gzGd_in (by omega) (by omega), gzn_clamp (by omega), gzn_clamp (by omega), gzCM_44, gzn_succ]
          have skip : ¬ (W o = -1 ∧ K f o = true) → f_X10_pair_68 φ 0 (fR_X10_pair φ 0 k) k2 (Int32.ofNat f) (Int32.ofNat pr) (Int32.ofNat (o + 1)) (gzCM I W (gzUd (pr + c.1 + 1, c.2) S0)) J = some ((), gzCM I W (gzUd (pr + (gzFo (fun s o => if W o = -1 ∧ K f o = true then (if s.1 < p f + p o + (gzGp N K p B0 m (gzUp (gzUp W f (Int32.ofNat o)) o (Int32.ofNat f))).1 then (p f + p o + (gzGp N K p B0 m (gzUp (gzUp W f (Int32.ofNat o)) o (Int32.ofNat f))).1, (gzGp N K p B0 m (gzUp (gzUp W f (Int32.ofNat o)) o (Int32.ofNat f))).2) else s) else s) o (mm + 1) c).1 + 1, (gzFo (fun s o => if W o = -1 ∧ K f o = true then (if s.1 < p f + p o + (gzGp N K p B0 m (gzUp (gzUp W f (Int32.ofNat o)) o (Int32.ofNat f))).1 then (p f + p o + (gzGp N K p B0 m (gzUp (gzUp W f (Int32.ofNat o)) o (Int32.ofNat f))).1, (gzGp N K p B0 m (gzUp (gzUp W f (Int32.ofNat o)) o (Int32.ofNat f))).2) else s) else s) o (mm + 1) c).2) S0), J) := fun hsk => by
            have := ihm (o + 1) k2 c S0 (by omega) (by omega) (by omega) hc hs0 hcB hB0
            rw [this]
            show _ = some ((), gzCM I W (gzUd (pr + (gzFo _ (o + 1) mm (if W o = -1 ∧ K f o = true then _ else c)).1 + 1, (gzFo _ (o + 1) mm (if W o = -1 ∧ K f o = true then _ else c)).2) S0), J)
            rw [if_neg hsk]
          by_cases c1 : W o = -1
          · rw [if_neg (fun z => z c1), gzGd_in (by omega) (by omega), gzCM_o (t := 0) (o := 42) (by omega), gzc_has (by omega), hK f (by omega) o (by omega)]
            simp only [Option.bind_some]
            by_cases c2 : K f o = true
            · rw [c2, if_neg (by decide), gzCM_o (t := 0) (o := 2) (by omega), gzCM_o (t := 0) (o := 2) (by omega), hpr f (by omega), hpr o (by omega), gzc_adds, gzc_adds, gzCM_w, gzCM_w]
              have h9 := hp f
              have h9o := hp o
              rw [hrec (pr + p f + p o) _ _ (by omega) hub.1 hub.2]
              simp only [Option.bind_some]
              rw [gzCM_w, gzCM_w, gzUp_back q c1, gzUd2]
              have hb2 := bnd (gzUp (gzUp W f (Int32.ofNat o)) o (Int32.ofNat f))
              obtain ⟨V, eV⟩ : ∃ V, V = gzGp N K p B0 m (gzUp (gzUp W f (Int32.ofNat o)) o (Int32.ofNat f)) := ⟨_, rfl⟩
              rw [← eV] at hb2 ⊢
              have ec : (if (pr + c.1 + 1, c.2).1 < (pr + p f + p o + V.1 + 1, V.2).1 then (pr + p f + p o + V.1 + 1, V.2) else (pr + c.1 + 1, c.2)) = (pr + (if c.1 < p f + p o + V.1 then (p f + p o + V.1, V.2) else c).1 + 1, (if c.1 < p f + p o + V.1 then (p f + p o + V.1, V.2) else c).2) := by
                by_cases d : c.1 < p f + p o + V.1
                · have d2 : (pr + c.1 + 1, c.2).1 < (pr + p f + p o + V.1 + 1, V.2).1 := by show pr + c.1 + 1 < pr + p f + p o + V.1 + 1; omega
                  rw [if_pos d2, if_pos d]
                  exact Prod.ext (by show pr + p f + p o + V.1 + 1 = pr + (p f + p o + V.1) + 1; omega) rfl
                · have d2 : ¬ (pr + c.1 + 1, c.2).1 < (pr + p f + p o + V.1 + 1, V.2).1 := by show ¬ pr + c.1 + 1 < pr + p f + p o + V.1 + 1; omega
                  rw [if_neg d2, if_neg d]
              rw [ec, ihm (o + 1) k2 _ S0 (by omega) (by omega) (by omega) (by
                by_cases d : c.1 < p f + p o + V.1
                · rw [if_pos d]; show p f + p o + V.1 ≤ _; omega
                · rw [if_neg d]; exact hc) hs0 (by
                by_cases d : c.1 < p f + p o + V.1
                · rw [if_pos d]; exact hb2.2
                · rw [if_neg d]; exact hcB) hB0]
              have estep : (if W o = -1 ∧ K f o = true then (if c.1 < p f + p o + (gzGp N K p B0 m (gzUp (gzUp W f (Int32.ofNat o)) o (Int32.ofNat f))).1 then (p f + p o + (gzGp N K p B0 m (gzUp (gzUp W f (Int32.ofNat o)) o (Int32.ofNat f))).1, (gzGp N K p B0 m (gzUp (gzUp W f (Int32.ofNat o)) o (Int32.ofNat f))).2) else c) else c) = if c.1 < p f + p o + V.1 then (p f + p o + V.1, V.2) else c := by
                rw [if_pos ⟨c1, c2⟩, ← eV]
              show _ = some ((), gzCM I W (gzUd (pr + (gzFo _ (o + 1) mm (if W o = -1 ∧ K f o = true then (if c.1 < p f + p o + (gzGp N K p B0 m (gzUp (gzUp W f (Int32.ofNat o)) o (Int32.ofNat f))).1 then (p f + p o + (gzGp N K p B0 m (gzUp (gzUp W f (Int32.ofNat o)) o (Int32.ofNat f))).1, (gzGp N K p B0 m (gzUp (gzUp W f (Int32.ofNat o)) o (Int32.ofNat f))).2) else c) else c)).1 + 1, (gzFo _ (o + 1) mm (if W o = -1 ∧ K f o = true then (if c.1 < p f + p o + (gzGp N K p B0 m (gzUp (gzUp W f (Int32.ofNat o)) o (Int32.ofNat f))).1 then (p f + p o + (gzGp N K p B0 m (gzUp (gzUp W f (Int32.ofNat o)) o (Int32.ofNat f))).1, (gzGp N K p B0 m (gzUp (gzUp W f (Int32.ofNat o)) o (Int32.ofNat f))).2) else c) else c)).2) S0), J)
              rw [estep]
            · have c2' : K f o = false := by simpa using c2
              rw [c2', if_pos (by decide)]
              exact skip (fun z => c2 z.2)
          · rw [if_pos c1]
            exact skip (fun z => c1 z.1)
      have hb0 := bnd W
      have := loop m (f + 1) φ (gzGp N K p B0 m W) S (by omega) (by omega) (by omega) (by omega) hs hb0.2 hB
      rw [gzn_succ, this, eG]
    · rw [if_neg q]
      have eG : gzGp N K p B0 (m + 1) W = gzGp N K p B0 m W := by rw [gzGp, ← hf, if_neg q]
      rw [eG]
theorem gzUp_fo {v : Int32} : ∀ (m : Nat) (W : Nat → Int32) (j : Nat), gzFo (fun s i => gzUp s i v) 0 m W j = if j < m then v else W j := by
  intro m
  induction m with
  | zero => intro W j; rw [if_neg (by omega)]; rfl
  | succ m ih =>
    intro W j
    rw [gzFo_last, Nat.zero_add]
    unfold gzUp at ih ⊢
    by_cases e : j = m
    · rw [if_pos e, if_pos (by omega)]
    · rw [if_neg e, ih W j]
      by_cases q : j < m
      · rw [if_pos q, if_pos (by omega)]
      · rw [if_neg q, if_neg (by omega)]
/-- findPairs -/
theorem c_findPairs (h5 : I 0 41 5 = Int32.ofNat N) (hN : N ≤ 6) (hK : ∀ f, f < N → ∀ o, o < N → gzB (I 0 42 f) o = !K f o) (hpr : ∀ f, f < N → I 0 2 f = Int32.ofNat (p f)) (hp : ∀ f, p f ≤ 9) (hφ : 20 < φ) : ∃ (W : Nat → Int32), (∀ j, j < 6 → W j = -1) ∧ f_X10_findPairs φ 0 I J = some ((), gzCM I W ((gzGp N K p (I 0 45) N W).1 + 1, (gzGp N K p (I 0 45) N W).2), J) := by
  obtain ⟨W, eW⟩ : ∃ W, W = gzFo (fun s i => gzUp s i (-1)) 0 6 (I 0 44) := ⟨_, rfl⟩
  have hW : ∀ j, j < 6 → W j = -1 := fun j hj => by rw [eW, gzUp_fo, if_pos hj]
  refine ⟨W, hW, ?_⟩
  have start : gz_ui I 0 41 6 (-1) = gzCM I (I 0 44) (0, I 0 45) := by
    funext t o k
    unfold gz_ui gzCM
    by_cases e1 : t = 0 ∧ o = 41 ∧ k = 6
    · rw [if_pos e1, if_neg (by omega), if_neg (by omega), if_pos e1]
      rfl
    · rw [if_neg e1, if_neg e1]
      by_cases e2 : t = 0 ∧ o = 44
      · rw [if_pos e2, e2.1, e2.2]
      · rw [if_neg e2]
        by_cases e3 : t = 0 ∧ o = 45
        · rw [if_pos e3, e3.1, e3.2]
        · rw [if_neg e3]
  unfold f_X10_findPairs
  rw [start]
  refine (gz_loop (F := fun k (s : Nat → Int32) i => f_X10_findPairs_7 φ 0 k i (gzCM I s (0, I 0 45)) J) (n := 6) (step := fun s i => gzUp s i (-1)) (out := fun s => Option.bind (f_X10_pair φ 0 0 0 (gzCM I s (0, I 0 45)) J) (fun v2 => some ((), v2.2.1, v2.2.2))) ?_ ?_ 6 0 φ (I 0 44) (by omega) (by omega)).trans ?_
  · intro k s i hi
    show f_X10_findPairs_7 φ 0 (k + 1) (Int32.ofNat i) (gzCM I s (0, I 0 45)) J = f_X10_findPairs_7 φ 0 k (Int32.ofNat (i + 1)) (gzCM I (gzUp s i (-1)) (0, I 0 45)) J
    rw [f_X10_findPairs_7, if_neg (by rw [gzc_le1 (by omega) (by omega)]; omega), gzGd_in hi (by omega), gzn_clamp (by omega), gzCM_w, gzn_succ]
  · intro k s
    show f_X10_findPairs_7 φ 0 (k + 1) 6 (gzCM I s (0, I 0 45)) J = _
    rw [f_X10_findPairs_7, if_pos (by decide)]
  · rw [← eW]
    have e := c_pair (J := J) (B0 := I 0 45) (φ := φ) h5 hN hK hpr hp hφ N gzRf 0 W (0, I 0 45) (Nat.le_refl _) (by unfold gzRf; omega) (by omega) (by omega) (fun _ _ => rfl)
    rw [Nat.sub_self] at e
    unfold f_X10_pair
    rw [show fR_X10_pair φ 0 gzRf 0 0 (gzCM I W (0, I 0 45)) J = _ from e]
    simp only [Option.bind_some]
    unfold gzUd
    rw [if_neg (by show ¬ (0 + (gzGp N K p (I 0 45) N W).1 + 1 ≤ 0); omega), Nat.zero_add]
end
