/-! the law: by what a GRUDGE freezes, melts or hardens -/
def gzHt (w : Nat → Int32) : Int32 := w (10 + (w 4).toNatClampNeg % 4)
/-- the facts of a GRUDGE by their codes -/
def gzFc (w : Nat → Int32) (ng g : Nat) : Nat → Int32
  | 0 => Int32.ofNat g
  | 1 => w (57 + 7 * g)
  | 2 => w (58 + 7 * g)
  | 3 => w (30 + 4 * tF w g)
  | 4 => w (14 + 2 * tS w g)
  | 5 => w (15 + 2 * tS w g)
  | 6 => gzHt w
  | 7 => Int32.ofNat ((w 4).toNatClampNeg % 4)
  | 8 => if tU w g = true then 1 else 0
  | 9 => if gzRv w ng g = true then 1 else 0
  | _ => w 6
def gzTy (f : Nat → Int32) : List Bool → Prop
  | [] => True
  | b :: r => (b = true → f r.length = 0 ∨ f r.length = 1) ∧ gzTy f r
theorem gzTy_congr {f f' : Nat → Int32} : ∀ {L : List Bool}, (∀ j, j < L.length → f' j = f j) → gzTy f L → gzTy f' L := by
  intro L
  induction L with
  | nil => intro _ _; exact trivial
  | cons b r ih =>
    intro h ht
    have hl : (b :: r).length = r.length + 1 := rfl
    exact ⟨fun q => by rw [h r.length (by omega)]; exact ht.1 q, ih (fun j hj => h j (by omega)) ht.2⟩
theorem gz_uwi {I : gzIT} {t o k : Nat} {f : Nat → Int32} {v : Int32} : gz_ui (gz_uw I t o f) t o k v = gz_uw I t o (gzUp f k v) := by
  funext t' x j
  show (if t' = t ∧ x = o ∧ j = k then v else (if t' = t ∧ x = o then f else I t' x) j) = (if t' = t ∧ x = o then (fun k' => if k' = k then v else f k') else I t' x) j
  by_cases e : t' = t ∧ x = o
  · rw [if_pos e, if_pos e]
    by_cases e2 : j = k
    · rw [if_pos ⟨e.1, e.2, e2⟩]; exact (if_pos e2).symm
    · rw [if_neg (fun q => e2 q.2.2)]; exact (if_neg e2).symm
  · rw [if_neg e, if_neg e, if_neg (fun q => e ⟨q.1, q.2.1⟩)]
theorem gzUp_at {f : Nat → Int32} {a : Nat} {v : Int32} : gzUp f a v a = v := if_pos rfl
theorem gzUp_ne {f : Nat → Int32} {a k : Nat} {v : Int32} (h : k ≠ a) : gzUp f a v k = f k := if_neg h
section
variable {I I' I2 X T Ic Im : gzIT} {J : gzJT} {w w2 v : Nat → Int32} {nf ng nl nx nl2 nx2 t t1 φ : Nat}
theorem gz_tq4 (h : 0 ≤ (w 4).toInt) : w 4 - w 4 / 4 * 4 = Int32.ofNat ((w 4).toNatClampNeg % 4) := by
  obtain ⟨x, hx, e⟩ := gzn_of h
  rw [e, gzn_clamp hx, gzc_div (by omega) hx, gzc_mul', gzc_subs (by omega), show x - x / 4 * 4 = x % 4 by omega]
theorem m_heat (h : gzVi I w nf ng) (h4 : 0 ≤ (w 4).toInt) : f_X12_heatNow I = some (gzHt w) := by
  unfold f_X12_heatNow
  rw [h.1 4 (by omega), gz_tq4 h4, gzc_add', gzGd_in (by omega) (by omega), gzn_clamp (by omega), h.1 _ (by omega)]
  rfl
theorem c_heat (e4 : I t 0 7 = w 4) (eh : ∀ k, k < 4 → I t 19 k = w (10 + k)) (h4 : 0 ≤ (w 4).toInt) : f_X8_heatNow t I = some (gzHt w) := by
  unfold f_X8_heatNow
  rw [e4, gz_tq4 h4, gzc_cell (by omega) (by omega), eh _ (by omega)]
  rfl
theorem m_fact {c g : Nat} {a : Int32} (h : gzVi I w nf ng) (hg : g < ng) (h4 : 0 ≤ (w 4).toInt) (hc : c < 11) (hφ : 10 < φ) : f_X12_factOf φ I (Int32.ofNat c) a (Int32.ofNat g) = some (gzFc w ng g c) := by
  have q1 := h.2.2.1 g hg
  have q2 := h.2.1.1.2.2.1
  unfold f_X12_factOf
  rcases (show c = 0 ∨ c = 1 ∨ c = 2 ∨ c = 3 ∨ c = 4 ∨ c = 5 ∨ c = 6 ∨ c = 7 ∨ c = 8 ∨ c = 9 ∨ c = 10 by omega) with rfl | rfl | rfl | rfl | rfl | rfl | rfl | rfl | rfl | rfl | rfl
  · rw [if_pos (by decide)]; rfl
  · rw [if_neg (by decide), if_pos (by decide), m_of3 h hg]; rfl
  · rw [if_neg (by decide), if_neg (by decide), if_pos (by decide), m_of4 h hg]; rfl
  · rw [if_neg (by decide), if_neg (by decide), if_neg (by decide), if_pos (by decide), m_of0 h hg]
    simp only [Option.bind_some]
    rw [m_ofFamily0 h q1]; rfl
  · rw [if_neg (by decide), if_neg (by decide), if_neg (by decide), if_neg (by decide), if_pos (by decide), m_ofSlight0 h hg]; rfl
  · rw [if_neg (by decide), if_neg (by decide), if_neg (by decide), if_neg (by decide), if_neg (by decide), if_pos (by decide), m_ofSlight1 h hg]; rfl
  · rw [if_neg (by decide), if_neg (by decide), if_neg (by decide), if_neg (by decide), if_neg (by decide), if_neg (by decide), if_pos (by decide), m_heat h h4]; rfl
  · rw [if_neg (by decide), if_neg (by decide), if_neg (by decide), if_neg (by decide), if_neg (by decide), if_neg (by decide), if_neg (by decide), if_pos (by decide), h.1 4 (by omega), gz_tq4 h4]; rfl
  · rw [if_neg (by decide), if_neg (by decide), if_neg (by decide), if_neg (by decide), if_neg (by decide), if_neg (by decide), if_neg (by decide), if_neg (by decide), if_pos (by decide), m_of5 h hg]; rfl
  · rw [if_neg (by decide), if_neg (by decide), if_neg (by decide), if_neg (by decide), if_neg (by decide), if_neg (by decide), if_neg (by decide), if_neg (by decide), if_neg (by decide), if_pos (by decide), m_isMutual h hg hφ]
    simp only [Option.bind_some]
    show some _ = some (if gzRv w ng g = true then (1 : Int32) else 0)
    cases gzRv w ng g <;> rfl
  · rw [if_neg (by decide), if_neg (by decide), if_neg (by decide), if_neg (by decide), if_neg (by decide), if_neg (by decide), if_neg (by decide), if_neg (by decide), if_neg (by decide), if_neg (by decide), if_pos (by decide), h.1 6 (by omega)]; rfl
theorem gz_fc01 {g c : Nat} (h6 : w 6 = 0 ∨ w 6 = 1) (hc : 8 ≤ c) (hc2 : c < 11) : gzFc w ng g c = 0 ∨ gzFc w ng g c = 1 := by
  rcases (show c = 8 ∨ c = 9 ∨ c = 10 by omega) with rfl | rfl | rfl
  · show (if tU w g = true then (1 : Int32) else 0) = 0 ∨ (if tU w g = true then (1 : Int32) else 0) = 1
    cases tU w g
    · exact Or.inl rfl
    · exact Or.inr rfl
  · show (if gzRv w ng g = true then (1 : Int32) else 0) = 0 ∨ (if gzRv w ng g = true then (1 : Int32) else 0) = 1
    cases gzRv w ng g
    · exact Or.inl rfl
    · exact Or.inr rfl
  · exact h6
theorem gz_num {a : Int32} (h0 : 0 ≤ a.toInt) (h9 : a.toInt ≤ 999) : ¬ a = 1027 ∧ ¬ a = 1028 ∧ ¬ a = 1029 ∧ a < 2000 ∧ ¬ 1000 ≤ a := by
  obtain ⟨n, hn, rfl⟩ := gzn_of h0
  rw [gzn_int hn] at h9
  refine ⟨?_, ?_, ?_, ?_, ?_⟩
  · rw [gzc_eq2 (by omega) (by omega)]; omega
  · rw [gzc_eq2 (by omega) (by omega)]; omega
  · rw [gzc_eq2 (by omega) (by omega)]; omega
  · rw [gzc_lt2 (by omega) (by omega)]; omega
  · rw [gzc_le1 (by omega) (by omega)]; omega
theorem gz_and01 {a b : Int32} (ha : a = 0 ∨ a = 1) (hb : b = 0 ∨ b = 1) : a &&& b = (if ¬ a + b = 2 then (0 : Int32) else 1) ∧ a ||| b = (if a + b ≤ 0 then (0 : Int32) else 1) ∧ (1 - a = 0 ∨ 1 - a = 1) := by
  rcases ha with rfl | rfl <;> rcases hb with rfl | rfl <;> decide
theorem gz_if01 {p : Prop} [Decidable p] : (if p then (0 : Int32) else 1) = 0 ∨ (if p then (0 : Int32) else 1) = 1 := by
  by_cases h : p
  · exact Or.inl (if_pos h)
  · exact Or.inr (if_neg h)
theorem gzSt_12 {L L' : List Bool} (h : gzSt 12 L = some L') : ∃ r, L = false :: false :: r ∧ L' = false :: r := by
  unfold gzSt at h
  rw [if_neg (by decide), if_neg (by decide), if_pos rfl] at h
  rcases L with _ | ⟨b1, _ | ⟨b2, r⟩⟩
  · cases h
  · cases b1 <;> cases h
  · cases b1 <;> cases b2 <;> first | exact ⟨r, rfl, (Option.some.inj h).symm⟩ | cases h
theorem gzSt_lt {c : Int32} {L L' : List Bool} (hc : c = 13 ∨ c = 14) (h : gzSt c L = some L') : ∃ r, L = false :: false :: r ∧ L' = true :: r := by
  unfold gzSt at h
  rw [if_neg (by rcases hc with q | q <;> rw [q] <;> decide), if_neg (by rcases hc with q | q <;> rw [q] <;> decide), if_neg (by rcases hc with q | q <;> rw [q] <;> decide), if_pos hc] at h
  rcases L with _ | ⟨b1, _ | ⟨b2, r⟩⟩
  · cases h
  · cases b1 <;> cases h
  · cases b1 <;> cases b2 <;> first | exact ⟨r, rfl, (Option.some.inj h).symm⟩ | cases h
theorem gzSt_15 {L L' : List Bool} (h : gzSt 15 L = some L') : ∃ r, L = true :: r ∧ L' = true :: r := by
  unfold gzSt at h
  rw [if_neg (by decide), if_neg (by decide), if_neg (by decide), if_neg (by decide), if_pos rfl] at h
  rcases L with _ | ⟨b1, r⟩
  · cases h
  · cases b1 <;> first | exact ⟨r, rfl, (Option.some.inj h).symm⟩ | cases h
theorem gzSt_lo {c : Int32} {L L' : List Bool} (hc : c = 16 ∨ c = 17) (h : gzSt c L = some L') : ∃ r, L = true :: true :: r ∧ L' = true :: r := by
  unfold gzSt at h
  rw [if_neg (by rcases hc with q | q <;> rw [q] <;> decide), if_neg (by rcases hc with q | q <;> rw [q] <;> decide), if_neg (by rcases hc with q | q <;> rw [q] <;> decide), if_neg (by rcases hc with q | q <;> rw [q] <;> decide), if_neg (by rcases hc with q | q <;> rw [q] <;> decide)] at h
  rcases L with _ | ⟨b1, _ | ⟨b2, r⟩⟩
  · cases h
  · cases b1 <;> cases h
  · cases b1 <;> cases b2 <;> first | exact ⟨r, rfl, (Option.some.inj h).symm⟩ | cases h
theorem r_eval {g l e i0 : Nat} (hm : gzVi Im w nf ng) (hg : g < ng) (h4 : 0 ≤ (w 4).toInt) (h6 : w 6 = 0 ∨ w 6 = 1) (hv : ∀ i, i < 849 → Im 0 48 (364 + i) = v i) (hval : ∀ c, c < 11 → Ic 0 26 c = gzFc w ng g c) (hl : l < 12) (he : e ≤ 400) (hve : v (4 + 4 * l) = Int32.ofNat e) (hcd : ∀ i, i0 ≤ i → i < e → gzCd (Ic 0 25 i) (v (49 + 2 * i)) (v (50 + 2 * i))) (hφ : 10 < φ) :
    ∀ (m i k k' : Nat) (L : List Bool) (f h : Nat → Int32), i0 ≤ i → i + m = e → gzSh v i m L = some [true] → (∀ j, j < L.length → h j = f j) → gzTy f L → m < k → m < k' → ∃ r f' h', f_X2_holds_5 φ 0 k (Int32.ofNat e) (Int32.ofNat L.length) (Int32.ofNat i) (gz_uw Ic 0 27 f) J = some (r, gz_uw Ic 0 27 f', J) ∧ ∀ J' : gzJT, f_X12_holdsLine_22 φ k' (Int32.ofNat g) (Int32.ofNat L.length) (Int32.ofNat (365 + 4 * l)) (Int32.ofNat i) (gz_uw Im 0 55 h) J' = some (r, gz_uw Im 0 55 h', J') := by
  have rc : ∀ (f : Nat → Int32) (o : Nat), o ≠ 27 → gz_uw Ic 0 27 f 0 o = Ic 0 o := fun f o ho => gz_uw_ne (by omega)
  have rm : ∀ (h : Nat → Int32), gz_uw Im 0 55 h 0 48 = Im 0 48 := fun h => gz_uw_ne (by omega)
  have vm : ∀ (h : Nat → Int32), gzVi (gz_uw Im 0 55 h) w nf ng := fun h => gzVi_eq hm (fun k _ => by rw [rm])
  have rend : ∀ (h : Nat → Int32), gz_uw Im 0 55 h 0 48 (365 + 4 * l + 3) = Int32.ofNat e := fun h => by
    rw [rm, show 365 + 4 * l + 3 = 364 + (4 + 4 * l) by omega, hv _ (by omega), hve]
  intro m
  induction m with
  | zero =>
    intro i k k' L f h hi him hsh heq hty hk hk'
    obtain ⟨k, rfl⟩ : ∃ q, k = q + 1 := ⟨k - 1, by omega⟩
    obtain ⟨k', rfl⟩ : ∃ q, k' = q + 1 := ⟨k' - 1, by omega⟩
    have hL : L = [true] := Option.some.inj hsh
    subst hL
    have h01 : f 0 = 0 ∨ f 0 = 1 := hty.1 rfl
    have hf0 : h 0 = f 0 := heq 0 (by decide)
    refine ⟨if f 0 = 0 then 0 else 1, f, h, ?_, fun J' => ?_⟩
    · rw [f_X2_holds_5, if_pos (by rw [gzn_le (by omega) (by omega)]; omega), if_neg (by decide), show Int32.ofNat [true].length - 1 = Int32.ofNat 0 from rfl, gzc_cell (by omega) (by omega), gz_uw_eq]
      rfl
    · rw [f_X12_holdsLine_22, gzc_add, gzGd_in (by omega) (by omega), gzn_clamp (by omega), rend, if_pos (by rw [gzn_le (by omega) (by omega)]; omega), if_neg (by decide), gz_uw_eq, hf0]
      rcases h01 with q | q <;> rw [q] <;> rfl
  | succ m ih =>
    intro i k k' L f h hi him hsh heq hty hk hk'
    obtain ⟨k, rfl⟩ : ∃ q, k = q + 1 := ⟨k - 1, by omega⟩
    obtain ⟨k', rfl⟩ : ∃ q, k' = q + 1 := ⟨k' - 1, by omega⟩
    have hsh2 : (if 24 < L.length then none else (gzSt (v (49 + 2 * i)) L).bind (fun L' => gzSh v (i + 1) m L')) = some [true] := hsh
    by_cases hlen : 24 < L.length
    · rw [if_pos hlen] at hsh2; cases hsh2
    rw [if_neg hlen] at hsh2
    obtain ⟨L', hst, hsh3⟩ := Option.bind_eq_some_iff.mp hsh2
    have hie : i < e := by omega
    have rcode : ∀ (h : Nat → Int32), gz_uw Im 0 55 h 0 48 (413 + 2 * i) = v (49 + 2 * i) := fun h => by
      rw [rm, show 413 + 2 * i = 364 + (49 + 2 * i) by omega, hv _ (by omega)]
    have rnum : ∀ (h : Nat → Int32), gz_uw Im 0 55 h 0 48 (413 + 2 * i + 1) = v (50 + 2 * i) := fun h => by
      rw [rm, show 413 + 2 * i + 1 = 364 + (50 + 2 * i) by omega, hv _ (by omega)]
    have cd := hcd i hi hie
    have nle : ¬ Int32.ofNat e ≤ Int32.ofNat i := by rw [gzn_le (by omega) (by omega)]; omega
    -- a value more
    have push : ∀ (x : Int32) (b : Bool), L' = b :: L → (b = true → x = 0 ∨ x = 1) → ∃ r f' h', f_X2_holds_5 φ 0 k (Int32.ofNat e) (Int32.ofNat (L.length + 1)) (Int32.ofNat (i + 1)) (gz_uw Ic 0 27 (gzUp f L.length x)) J = some (r, gz_uw Ic 0 27 f', J) ∧ ∀ J' : gzJT, f_X12_holdsLine_22 φ k' (Int32.ofNat g) (Int32.ofNat (L.length + 1)) (Int32.ofNat (365 + 4 * l)) (Int32.ofNat (i + 1)) (gz_uw Im 0 55 (gzUp h L.length x)) J' = some (r, gz_uw Im 0 55 h', J') := by
      intro x b hL hb
      rw [hL] at hsh3
      refine ih (i + 1) k k' (b :: L) (gzUp f L.length x) (gzUp h L.length x) (by omega) (by omega) hsh3 (fun j hj => ?_) ⟨fun q => ?_, ?_⟩ (by omega) (by omega)
      · have hj' : j < L.length + 1 := hj
        by_cases e1 : j = L.length
        · rw [e1, gzUp_at, gzUp_at]
        · rw [gzUp_ne e1, gzUp_ne e1, heq j (by omega)]
      · rw [gzUp_at]; exact hb q
      · exact gzTy_congr (fun j hj => gzUp_ne (by omega)) hty
    -- two values joined
    have pop : ∀ (x : Int32) (b b1 b2 : Bool) (r : List Bool), L = b1 :: b2 :: r → L' = b :: r → (b = true → x = 0 ∨ x = 1) → ∃ r1 f' h', f_X2_holds_5 φ 0 k (Int32.ofNat e) (Int32.ofNat (r.length + 1)) (Int32.ofNat (i + 1)) (gz_uw Ic 0 27 (gzUp f r.length x)) J = some (r1, gz_uw Ic 0 27 f', J) ∧ ∀ J' : gzJT, f_X12_holdsLine_22 φ k' (Int32.ofNat g) (Int32.ofNat (r.length + 1)) (Int32.ofNat (365 + 4 * l)) (Int32.ofNat (i + 1)) (gz_uw Im 0 55 (gzUp h r.length x)) J' = some (r1, gz_uw Im 0 55 h', J') := by
      intro x b b1 b2 r hL hL' hb
      rw [hL'] at hsh3
      refine ih (i + 1) k k' (b :: r) (gzUp f r.length x) (gzUp h r.length x) (by omega) (by omega) hsh3 (fun j hj => ?_) ⟨fun q => ?_, ?_⟩ (by omega) (by omega)
      · have hj' : j < r.length + 1 := hj
        by_cases e1 : j = r.length
        · rw [e1, gzUp_at, gzUp_at]
        · rw [gzUp_ne e1, gzUp_ne e1]
          refine heq j ?_
          rw [hL]
          show j < r.length + 1 + 1
          omega
      · rw [gzUp_at]; exact hb q
      · rw [hL] at hty
        exact gzTy_congr (fun j hj => gzUp_ne (by omega)) hty.2.2
    have two : ∀ (A : Int32) (x : Int32) (b b1 b2 : Bool) (r : List Bool), Ic 0 25 i = A → L = b1 :: b2 :: r → L' = b :: r → (A = 1028 ∨ A = 1029 ∨ ¬ A < 2000) → ¬ A = 1027 → f_X2_joined A (f r.length) (f (r.length + 1)) = some x → (b = true → x = 0 ∨ x = 1) → (∀ J' : gzJT, f_X12_holdsLine_22 φ (k' + 1) (Int32.ofNat g) (Int32.ofNat L.length) (Int32.ofNat (365 + 4 * l)) (Int32.ofNat i) (gz_uw Im 0 55 h) J' = f_X12_holdsLine_22 φ k' (Int32.ofNat g) (Int32.ofNat (r.length + 1)) (Int32.ofNat (365 + 4 * l)) (Int32.ofNat (i + 1)) (gz_uw Im 0 55 (gzUp h r.length x)) J') → ∃ r1 f' h', f_X2_holds_5 φ 0 (k + 1) (Int32.ofNat e) (Int32.ofNat L.length) (Int32.ofNat i) (gz_uw Ic 0 27 f) J = some (r1, gz_uw Ic 0 27 f', J) ∧ ∀ J' : gzJT, f_X12_holdsLine_22 φ (k' + 1) (Int32.ofNat g) (Int32.ofNat L.length) (Int32.ofNat (365 + 4 * l)) (Int32.ofNat i) (gz_uw Im 0 55 h) J' = some (r1, gz_uw Im 0 55 h', J') := by
      intro A x b b1 b2 r hA hL hL' hk1 hk2 hj hb hmod
      obtain ⟨r1, f', h', p1, p2⟩ := pop x b b1 b2 r hL hL' hb
      refine ⟨r1, f', h', ?_, fun J' => (hmod J').trans (p2 J')⟩
      have hlr : L.length = r.length + 2 := by rw [hL]; rfl
      have h79 : f_X2_holds_79 φ 0 (f_X2_holds_5 φ 0 k) (Int32.ofNat e) (Int32.ofNat L.length) (Int32.ofNat i) A (gz_uw Ic 0 27 f) J = some (r1, gz_uw Ic 0 27 f', J) := by
        unfold f_X2_holds_79
        rw [hlr, gz_subm, gzc_sub (k := 1) (show 1 ≤ r.length + 2 by omega), show r.length + 2 - 1 = r.length + 1 by omega, gzc_sub (k := 1) (show 1 ≤ r.length + 1 by omega), show r.length + 1 - 1 = r.length by omega, gzc_cell (by omega) (by omega), gzc_cell (by omega) (by omega), gz_uw_eq]
        simp only [Option.bind_some]
        rw [hj]
        simp only [Option.bind_some]
        rw [gzc_write (by omega) (by omega), gz_uwi, gzn_succ]
        simp only [Option.bind_some]
        exact p1
      rw [f_X2_holds_5, if_neg nle, gzc_cell (show i < 400 by omega) (by omega), rc f 25 (by omega), hA]
      simp only [Option.bind_some]
      rw [if_pos hk2]
      by_cases q1 : A = 1028
      · rw [if_pos q1]; exact h79
      · rw [if_neg q1]
        by_cases q2 : A = 1029
        · rw [if_pos q2]; exact h79
        · rw [if_neg q2]
          rcases hk1 with q | q | q
          · exact absurd q q1
          · exact absurd q q2
          · rw [if_neg q]; exact h79
    have mread : ∀ (c : Int32), v (49 + 2 * i) = c → ∀ h : Nat → Int32, gz_uw Im 0 55 h 0 48 (413 + 2 * i) = c := fun c hc h => (rcode h).trans hc
    rcases cd with ⟨c1, c2, c3, c4⟩ | ⟨q, hq, c1, c2⟩ | ⟨c1, c2⟩ | ⟨c1, c2⟩ | ⟨c1, c2⟩ | ⟨c1, c2⟩ | ⟨c1, c2⟩ | ⟨c1, c2⟩
    · -- a number
      obtain ⟨a1, a2, a3, a4, a5⟩ := gz_num (a := v (50 + 2 * i)) c3 c4
      have hL' : L' = false :: L := by
        unfold gzSt at hst
        rw [if_pos (Or.inr c1)] at hst
        exact (Option.some.inj hst).symm
      obtain ⟨r, f', h', p1, p2⟩ := push (v (50 + 2 * i)) false hL' (fun q => by cases q)
      refine ⟨r, f', h', ?_, fun J' => ?_⟩
      · rw [f_X2_holds_5, if_neg nle, gzc_cell (show i < 400 by omega) (by omega), rc f 25 (by omega), c2]
        simp only [Option.bind_some]
        rw [if_pos a1, if_neg a2, if_neg a3, if_pos a4, if_neg a5, gzc_write (by omega) (by omega), gz_uwi, gzn_succ L.length, gzn_succ i]
        simp only [Option.bind_some]
        exact p1
      · rw [f_X12_holdsLine_22]
        simp only [gzc_mul, gzc_add', gzc_add]
        rw [gzGd_in (show 365 + 4 * l + 3 < 2062 by omega) (by omega), gzn_clamp (show 365 + 4 * l + 3 < 2 ^ 31 by omega), rend, if_neg nle, gzGd_in (show 413 + 2 * i < 2062 by omega) (by omega), gzn_clamp (show 413 + 2 * i < 2 ^ 31 by omega), mread 11 c1, if_neg (by decide), gzGd_in (show 413 + 2 * i + 1 < 2062 by omega) (by omega), gzn_clamp (show 413 + 2 * i + 1 < 2 ^ 31 by omega), rnum]
        have hf : f_X12_factOf φ (gz_uw Im 0 55 h) 11 (v (50 + 2 * i)) (Int32.ofNat g) = some (v (50 + 2 * i)) := by
          unfold f_X12_factOf
          repeat rw [if_neg (by decide)]
        rw [hf]
        simp only [Option.bind_some]
        rw [gzGd_in (by omega) (by omega), gzn_clamp (by omega), gz_uwi]
        exact p2 J'
    · -- a fact
      have hL' : L' = (decide (8 ≤ q)) :: L := by
        unfold gzSt at hst
        rw [c1] at hst
        by_cases q7 : 8 ≤ q
        · rw [if_neg, if_pos (by rw [gzn_int (by omega)]; omega)] at hst
          · rw [decide_eq_true q7]
            exact (Option.some.inj hst).symm
          · rw [gzn_int (by omega), gzc_eq2 (by omega) (by omega)]; omega
        · rw [if_pos (Or.inl (by rw [gzn_int (by omega)]; omega))] at hst
          rw [decide_eq_false q7]
          exact (Option.some.inj hst).symm
      obtain ⟨r, f', h', p1, p2⟩ := push (gzFc w ng g q) (decide (8 ≤ q)) hL' (fun x => gz_fc01 h6 (of_decide_eq_true x) hq)
      refine ⟨r, f', h', ?_, fun J' => ?_⟩
      · rw [f_X2_holds_5, if_neg nle, gzc_cell (show i < 400 by omega) (by omega), rc f 25 (by omega), c2]
        simp only [Option.bind_some]
        rw [if_pos (by rw [gzc_eq2 (by omega) (by omega)]; omega), if_neg (by rw [gzc_eq2 (by omega) (by omega)]; omega), if_neg (by rw [gzc_eq2 (by omega) (by omega)]; omega), if_pos (by rw [gzc_lt2 (by omega) (by omega)]; omega), if_pos (by rw [gzc_le1 (by omega) (by omega)]; omega), gzc_sub (k := 1012) (show 1012 ≤ 1012 + q by omega), show 1012 + q - 1012 = q by omega, gzc_cell (by omega) (by omega), rc f 26 (by omega), hval q hq]
        simp only [Option.bind_some]
        rw [gzc_write (by omega) (by omega), gz_uwi, gzn_succ L.length, gzn_succ i]
        simp only [Option.bind_some]
        exact p1
      · rw [f_X12_holdsLine_22]
        simp only [gzc_mul, gzc_add', gzc_add]
        rw [gzGd_in (show 365 + 4 * l + 3 < 2062 by omega) (by omega), gzn_clamp (show 365 + 4 * l + 3 < 2 ^ 31 by omega), rend, if_neg nle, gzGd_in (show 413 + 2 * i < 2062 by omega) (by omega), gzn_clamp (show 413 + 2 * i < 2 ^ 31 by omega), mread _ c1, if_neg (by rw [gzc_lt1 (by omega) (by omega)]; omega), gzGd_in (show 413 + 2 * i + 1 < 2062 by omega) (by omega), m_fact (vm h) hg h4 hq hφ]
        simp only [Option.bind_some]
        rw [gzGd_in (by omega) (by omega), gzn_clamp (by omega), gz_uwi]
        exact p2 J'
    · -- plus
      rw [c1] at hst
      obtain ⟨r, rfl, hL'⟩ := gzSt_12 hst
      have hl2 : (false :: false :: r).length = r.length + 2 := rfl
      have hh1 := heq r.length (by omega)
      have hh2 := heq (r.length + 1) (by omega)
      refine two 2043 (f r.length + f (r.length + 1)) false false false r c2 rfl hL' (Or.inr (Or.inr (by decide))) (by decide) ?_ (fun q => by cases q) (fun J' => ?_)
      · unfold f_X2_joined
        rw [if_neg (by decide), if_neg (by decide), if_neg (by decide), if_neg (by decide)]
      · have E1 : Int32.ofNat (r.length + 2) + (-1) = Int32.ofNat (r.length + 1) := by rw [gz_subm]; exact gzc_sub (k := 1) (show 1 ≤ r.length + 2 by omega)
        have E2 : Int32.ofNat (r.length + 1) - 1 = Int32.ofNat r.length := gzc_sub (k := 1) (show 1 ≤ r.length + 1 by omega)
        have E3 : Int32.ofNat (365 + 4 * l) + 3 = Int32.ofNat (365 + 4 * l + 3) := gzc_add
        have E4 : 413 + 2 * Int32.ofNat i = Int32.ofNat (413 + 2 * i) := by rw [gzc_mul, gzc_add']
        rw [hl2, f_X12_holdsLine_22]
        rw [E1, E2, E3, E4, gzn_succ i]
        rw [gzGd_in (show 365 + 4 * l + 3 < 2062 by omega) (by omega), gzn_clamp (show 365 + 4 * l + 3 < 2 ^ 31 by omega), rend, if_neg nle, gzGd_in (show 413 + 2 * i < 2062 by omega) (by omega), gzn_clamp (show 413 + 2 * i < 2 ^ 31 by omega), mread _ c1, if_pos (by decide), if_pos (by decide), gzGd_in (show r.length < 400 by omega) (by omega), gzGd_in (show r.length + 1 < 400 by omega) (by omega), gzn_clamp (show r.length < 2 ^ 31 by omega), gzn_clamp (show r.length + 1 < 2 ^ 31 by omega), gz_uw_eq, hh1, hh2]
        rw [if_pos (by decide), if_pos (by decide), if_pos (by decide)]
        by_cases z : f r.length + f (r.length + 1) ≤ 0
        · rw [if_pos z, if_neg (by decide), gz_uwi]
        · rw [if_neg z, if_neg (by decide), gz_uwi]
    · -- less
      rw [c1] at hst
      obtain ⟨r, rfl, hL'⟩ := gzSt_lt (Or.inl rfl) hst
      have hl2 : (false :: false :: r).length = r.length + 2 := rfl
      have hh1 := heq r.length (by omega)
      have hh2 := heq (r.length + 1) (by omega)
      refine two 2060 (if f (r.length + 1) ≤ f r.length then 0 else 1) true false false r c2 rfl hL' (Or.inr (Or.inr (by decide))) (by decide) ?_ (fun q => gz_if01) (fun J' => ?_)
      · unfold f_X2_joined
        rw [if_neg (by decide), if_neg (by decide), if_pos rfl]
      · have E1 : Int32.ofNat (r.length + 2) + (-1) = Int32.ofNat (r.length + 1) := by rw [gz_subm]; exact gzc_sub (k := 1) (show 1 ≤ r.length + 2 by omega)
        have E2 : Int32.ofNat (r.length + 1) - 1 = Int32.ofNat r.length := gzc_sub (k := 1) (show 1 ≤ r.length + 1 by omega)
        have E3 : Int32.ofNat (365 + 4 * l) + 3 = Int32.ofNat (365 + 4 * l + 3) := gzc_add
        have E4 : 413 + 2 * Int32.ofNat i = Int32.ofNat (413 + 2 * i) := by rw [gzc_mul, gzc_add']
        rw [hl2, f_X12_holdsLine_22]
        rw [E1, E2, E3, E4, gzn_succ i]
        rw [gzGd_in (show 365 + 4 * l + 3 < 2062 by omega) (by omega), gzn_clamp (show 365 + 4 * l + 3 < 2 ^ 31 by omega), rend, if_neg nle, gzGd_in (show 413 + 2 * i < 2062 by omega) (by omega), gzn_clamp (show 413 + 2 * i < 2 ^ 31 by omega), mread _ c1, if_pos (by decide), if_pos (by decide), gzGd_in (show r.length < 400 by omega) (by omega), gzGd_in (show r.length + 1 < 400 by omega) (by omega), gzn_clamp (show r.length < 2 ^ 31 by omega), gzn_clamp (show r.length + 1 < 2 ^ 31 by omega), gz_uw_eq, hh1, hh2]
        rw [if_neg (by decide)]
        by_cases z : f (r.length + 1) ≤ f r.length
        · rw [if_pos z, if_pos z, if_pos (by decide), if_pos rfl, gz_uwi]
        · rw [if_neg z, if_neg z, if_pos (by decide), if_neg (by decide), gz_uwi]
    · -- more
      rw [c1] at hst
      obtain ⟨r, rfl, hL'⟩ := gzSt_lt (Or.inr rfl) hst
      have hl2 : (false :: false :: r).length = r.length + 2 := rfl
      have hh1 := heq r.length (by omega)
      have hh2 := heq (r.length + 1) (by omega)
      refine two 2062 (if f r.length ≤ f (r.length + 1) then 0 else 1) true false false r c2 rfl hL' (Or.inr (Or.inr (by decide))) (by decide) ?_ (fun q => gz_if01) (fun J' => ?_)
      · unfold f_X2_joined
        rw [if_neg (by decide), if_neg (by decide), if_neg (by decide), if_pos rfl]
      · have E1 : Int32.ofNat (r.length + 2) + (-1) = Int32.ofNat (r.length + 1) := by rw [gz_subm]; exact gzc_sub (k := 1) (show 1 ≤ r.length + 2 by omega)
        have E2 : Int32.ofNat (r.length + 1) - 1 = Int32.ofNat r.length := gzc_sub (k := 1) (show 1 ≤ r.length + 1 by omega)
        have E3 : Int32.ofNat (365 + 4 * l) + 3 = Int32.ofNat (365 + 4 * l + 3) := gzc_add
        have E4 : 413 + 2 * Int32.ofNat i = Int32.ofNat (413 + 2 * i) := by rw [gzc_mul, gzc_add']
        rw [hl2, f_X12_holdsLine_22]
        rw [E1, E2, E3, E4, gzn_succ i]
        rw [gzGd_in (show 365 + 4 * l + 3 < 2062 by omega) (by omega), gzn_clamp (show 365 + 4 * l + 3 < 2 ^ 31 by omega), rend, if_neg nle, gzGd_in (show 413 + 2 * i < 2062 by omega) (by omega), gzn_clamp (show 413 + 2 * i < 2 ^ 31 by omega), mread _ c1, if_pos (by decide), if_pos (by decide), gzGd_in (show r.length < 400 by omega) (by omega), gzGd_in (show r.length + 1 < 400 by omega) (by omega), gzn_clamp (show r.length < 2 ^ 31 by omega), gzn_clamp (show r.length + 1 < 2 ^ 31 by omega), gz_uw_eq, hh1, hh2]
        rw [if_pos (by decide), if_neg (by decide)]
        by_cases z : f r.length ≤ f (r.length + 1)
        · rw [if_pos z, if_pos z, if_pos (by decide), if_pos rfl, gz_uwi]
        · rw [if_neg z, if_neg z, if_pos (by decide), if_neg (by decide), gz_uwi]
    · -- not
      rw [c1] at hst
      obtain ⟨r, rfl, hL'⟩ := gzSt_15 hst
      have hl2 : (true :: r).length = r.length + 1 := rfl
      have hh1 := heq r.length (by omega)
      have ht1 : f r.length = 0 ∨ f r.length = 1 := hty.1 rfl
      rw [hL'] at hsh3
      obtain ⟨r1, f', h', p1, p2⟩ := ih (i + 1) k k' (true :: r) (gzUp f r.length (1 - f r.length)) (gzUp h r.length (1 - f r.length)) (by omega) (by omega) hsh3 (fun j hj => by
        by_cases e1 : j = r.length
        · rw [e1, gzUp_at, gzUp_at]
        · rw [gzUp_ne e1, gzUp_ne e1, heq j hj]) ⟨fun _ => by rw [gzUp_at]; exact (gz_and01 ht1 ht1).2.2, gzTy_congr (fun j hj => gzUp_ne (by omega)) hty.2⟩ (by omega) (by omega)
      have E2 : Int32.ofNat (r.length + 1) - 1 = Int32.ofNat r.length := gzc_sub (k := 1) (show 1 ≤ r.length + 1 by omega)
      have E3 : Int32.ofNat (365 + 4 * l) + 3 = Int32.ofNat (365 + 4 * l + 3) := gzc_add
      have E4 : 413 + 2 * Int32.ofNat i = Int32.ofNat (413 + 2 * i) := by rw [gzc_mul, gzc_add']
      refine ⟨r1, f', h', ?_, fun J' => ?_⟩
      · rw [f_X2_holds_5, if_neg nle, gzc_cell (show i < 400 by omega) (by omega), rc f 25 (by omega), c2]
        simp only [Option.bind_some]
        rw [if_neg (by simp), hl2, E2, gzc_cell (by omega) (by omega), gz_uw_eq]
        simp only [Option.bind_some]
        rw [gzc_write (by omega) (by omega), gz_uwi, gzn_succ i]
        simp only [Option.bind_some]
        exact p1
      · rw [hl2, f_X12_holdsLine_22]
        rw [E2, E3, E4, gzn_succ i]
        rw [gzGd_in (show 365 + 4 * l + 3 < 2062 by omega) (by omega), gzn_clamp (show 365 + 4 * l + 3 < 2 ^ 31 by omega), rend, if_neg nle, gzGd_in (show 413 + 2 * i < 2062 by omega) (by omega), gzn_clamp (show 413 + 2 * i < 2 ^ 31 by omega), mread _ c1, if_pos (by decide), if_neg (by simp), gzGd_in (show r.length < 400 by omega) (by omega), gzn_clamp (show r.length < 2 ^ 31 by omega), gz_uw_eq, hh1, gz_uwi]
        exact p2 J'
    · -- and
      rw [c1] at hst
      obtain ⟨r, rfl, hL'⟩ := gzSt_lo (Or.inl rfl) hst
      have hl2 : (true :: true :: r).length = r.length + 2 := rfl
      have hh1 := heq r.length (by omega)
      have hh2 := heq (r.length + 1) (by omega)
      have t1 : f (r.length + 1) = 0 ∨ f (r.length + 1) = 1 := hty.1 rfl
      have t2 : f r.length = 0 ∨ f r.length = 1 := hty.2.1 rfl
      have ab := (gz_and01 t2 t1).1
      refine two 1028 (f r.length &&& f (r.length + 1)) true true true r c2 rfl hL' (Or.inl rfl) (by decide) ?_ (fun q => by rw [ab]; exact gz_if01) (fun J' => ?_)
      · unfold f_X2_joined
        rw [if_pos rfl]
      · have E1 : Int32.ofNat (r.length + 2) + (-1) = Int32.ofNat (r.length + 1) := by rw [gz_subm]; exact gzc_sub (k := 1) (show 1 ≤ r.length + 2 by omega)
        have E2 : Int32.ofNat (r.length + 1) - 1 = Int32.ofNat r.length := gzc_sub (k := 1) (show 1 ≤ r.length + 1 by omega)
        have E3 : Int32.ofNat (365 + 4 * l) + 3 = Int32.ofNat (365 + 4 * l + 3) := gzc_add
        have E4 : 413 + 2 * Int32.ofNat i = Int32.ofNat (413 + 2 * i) := by rw [gzc_mul, gzc_add']
        rw [hl2, f_X12_holdsLine_22, ab]
        rw [E1, E2, E3, E4, gzn_succ i]
        rw [gzGd_in (show 365 + 4 * l + 3 < 2062 by omega) (by omega), gzn_clamp (show 365 + 4 * l + 3 < 2 ^ 31 by omega), rend, if_neg nle, gzGd_in (show 413 + 2 * i < 2062 by omega) (by omega), gzn_clamp (show 413 + 2 * i < 2 ^ 31 by omega), mread _ c1, if_pos (by decide), if_pos (by decide), gzGd_in (show r.length < 400 by omega) (by omega), gzGd_in (show r.length + 1 < 400 by omega) (by omega), gzn_clamp (show r.length < 2 ^ 31 by omega), gzn_clamp (show r.length + 1 < 2 ^ 31 by omega), gz_uw_eq, hh1, hh2]
        rw [if_pos (by decide), if_pos (by decide), if_neg (by decide)]
        by_cases z : f r.length + f (r.length + 1) = 2
        · rw [if_neg (show ¬ ¬ f r.length + f (r.length + 1) = 2 from fun q => q z), if_neg (show ¬ ¬ f r.length + f (r.length + 1) = 2 from fun q => q z), if_pos (by decide), if_neg (by decide), gz_uwi]
        · rw [if_pos z, if_pos z, if_pos (by decide), if_pos rfl, gz_uwi]
    · -- or
      rw [c1] at hst
      obtain ⟨r, rfl, hL'⟩ := gzSt_lo (Or.inr rfl) hst
      have hl2 : (true :: true :: r).length = r.length + 2 := rfl
      have hh1 := heq r.length (by omega)
      have hh2 := heq (r.length + 1) (by omega)
      have t1 : f (r.length + 1) = 0 ∨ f (r.length + 1) = 1 := hty.1 rfl
      have t2 : f r.length = 0 ∨ f r.length = 1 := hty.2.1 rfl
      have ab := (gz_and01 t2 t1).2.1
      refine two 1029 (f r.length ||| f (r.length + 1)) true true true r c2 rfl hL' (Or.inr (Or.inl rfl)) (by decide) ?_ (fun q => by rw [ab]; exact gz_if01) (fun J' => ?_)
      · unfold f_X2_joined
        rw [if_neg (by decide), if_pos rfl]
      · have E1 : Int32.ofNat (r.length + 2) + (-1) = Int32.ofNat (r.length + 1) := by rw [gz_subm]; exact gzc_sub (k := 1) (show 1 ≤ r.length + 2 by omega)
        have E2 : Int32.ofNat (r.length + 1) - 1 = Int32.ofNat r.length := gzc_sub (k := 1) (show 1 ≤ r.length + 1 by omega)
        have E3 : Int32.ofNat (365 + 4 * l) + 3 = Int32.ofNat (365 + 4 * l + 3) := gzc_add
        have E4 : 413 + 2 * Int32.ofNat i = Int32.ofNat (413 + 2 * i) := by rw [gzc_mul, gzc_add']
        rw [hl2, f_X12_holdsLine_22, ab]
        rw [E1, E2, E3, E4, gzn_succ i]
        rw [gzGd_in (show 365 + 4 * l + 3 < 2062 by omega) (by omega), gzn_clamp (show 365 + 4 * l + 3 < 2 ^ 31 by omega), rend, if_neg nle, gzGd_in (show 413 + 2 * i < 2062 by omega) (by omega), gzn_clamp (show 413 + 2 * i < 2 ^ 31 by omega), mread _ c1, if_pos (by decide), if_pos (by decide), gzGd_in (show r.length < 400 by omega) (by omega), gzGd_in (show r.length + 1 < 400 by omega) (by omega), gzn_clamp (show r.length < 2 ^ 31 by omega), gzn_clamp (show r.length + 1 < 2 ^ 31 by omega), gz_uw_eq, hh1, hh2]
        rw [if_pos (by decide), if_pos (by decide), if_pos (by decide)]
        by_cases z : f r.length + f (r.length + 1) ≤ 0
        · rw [if_pos z, if_pos z, if_pos (by decide), if_pos rfl, gz_uwi]
        · rw [if_neg z, if_neg z, if_pos (by decide), if_neg (by decide), gz_uwi]
end
