/-! ask -/
section
variable {I I' U V X : gzIT} {J : gzJT} {w b : Nat → Int32} {nf ng nl nx n t φ : Nat}
def gzCt (col : Nat → Int32) (x : Int32) (v c i : Nat) : Nat := if gzB x i = true ∧ col i = Int32.ofNat v then c + 1 else c
theorem gzCt_le {col : Nat → Int32} {x : Int32} {v : Nat} : ∀ m i c, gzFo (gzCt col x v) i m c ≤ c + m := by
  intro m
  induction m with
  | zero => intro i c; exact Nat.le_refl _
  | succ m ih =>
    intro i c
    show gzFo (gzCt col x v) (i + 1) m (gzCt col x v c i) ≤ c + (m + 1)
    refine Nat.le_trans (ih _ _) ?_
    unfold gzCt
    split <;> omega
def gzMx (col : Nat → Int32) (x : Int32) (mx v : Nat) : Nat := if mx < gzFo (gzCt col x v) 0 8 0 then gzFo (gzCt col x v) 0 8 0 else mx
theorem gzMx_le {col : Nat → Int32} {x : Int32} {mx v : Nat} (h : mx ≤ 8) : gzMx col x mx v ≤ 8 := by
  have := gzCt_le (col := col) (x := x) (v := v) 8 0 0
  unfold gzMx
  split <;> omega
def S_gp (col : Nat → Int32) (x : Int32) : Nat := gzFo (gzMx col x) 0 10 0
theorem S_gp_le {col : Nat → Int32} {x : Int32} : S_gp col x ≤ 8 := gzFo_keep (f := gzMx col x) (p := fun _ s => s ≤ 8) 10 0 0 (by omega) (fun s j _ _ h => gzMx_le h)
theorem c_gp {o : Nat} {x : Int32} {col : Nat → Int32} (hc : ∀ i, i < 8 → U 0 o i = col i) (hφ : 20 < φ) : f_X11_greatestPart φ 0 o 8 U x = some (Int32.ofNat (S_gp col x)) := by
  unfold f_X11_greatestPart
  refine gz_loopp (F := fun k (s : Nat) i => f_X11_greatestPart_4 φ 0 o 8 U k x (Int32.ofNat s) i) (n := 10) (c := id) (step := gzMx col x) (out := fun s => some (Int32.ofNat s)) (p := fun _ s => s ≤ 8) ?_ ?_ 10 0 φ 0 (by omega) (by omega) (by omega)
  · intro k s v hv hs
    refine ⟨?_, gzMx_le hs⟩
    have hb := gzCt_le (col := col) (x := x) (v := v) 8 0 0
    show f_X11_greatestPart_4 φ 0 o 8 U (k + 1) x (Int32.ofNat s) (Int32.ofNat v) = f_X11_greatestPart_4 φ 0 o 8 U k x (Int32.ofNat (gzMx col x s v)) (Int32.ofNat (v + 1))
    rw [f_X11_greatestPart_4, if_neg (by rw [gzc_lt1 (by omega) (by omega)]; omega)]
    have key := gz_loop (F := fun k2 (c : Nat) i => f_X11_greatestPart_16 φ 0 o 8 U (f_X11_greatestPart_4 φ 0 o 8 U k) k2 x (Int32.ofNat s) (Int32.ofNat v) (Int32.ofNat c) i) (n := 8) (step := gzCt col x v) (out := fun c => f_X11_greatestPart_4 φ 0 o 8 U k x (if Int32.ofNat s < Int32.ofNat c then Int32.ofNat c else Int32.ofNat s) (Int32.ofNat (v + 1))) ?_ ?_ 8 0 φ 0 (by omega) (by omega)
    · refine Eq.trans key ?_
      unfold gzMx
      by_cases q : s < gzFo (gzCt col x v) 0 8 0
      · rw [if_pos q, if_pos ((gzn_lt (by omega) (by omega)).mpr q)]
      · rw [if_neg q, if_neg (fun q2 => q ((gzn_lt (by omega) (by omega)).mp q2))]
    · intro k2 c i hi
      show f_X11_greatestPart_16 φ 0 o 8 U (f_X11_greatestPart_4 φ 0 o 8 U k) (k2 + 1) x (Int32.ofNat s) (Int32.ofNat v) (Int32.ofNat c) (Int32.ofNat i) = f_X11_greatestPart_16 φ 0 o 8 U (f_X11_greatestPart_4 φ 0 o 8 U k) k2 x (Int32.ofNat s) (Int32.ofNat v) (Int32.ofNat (gzCt col x v c i)) (Int32.ofNat (i + 1))
      rw [f_X11_greatestPart_16, if_neg (by rw [gzc_le1 (by omega) (by omega)]; omega), gzc_has (by omega), Option.bind_some, gzc_cell (by omega) (by omega), Option.bind_some, hc i hi, gzn_succ, gzn_succ]
      unfold gzCt
      by_cases q1 : gzB x i = true
      · rw [if_pos q1, if_neg (by decide)]
        by_cases q2 : col i = Int32.ofNat v
        · rw [if_neg (fun q => q q2), if_pos ⟨q1, q2⟩]
        · rw [if_pos q2, if_neg (fun q => q2 q.2)]
      · rw [if_neg q1, if_pos rfl, if_neg (fun q => q1 q.1)]
    · intro k2 c
      show f_X11_greatestPart_16 φ 0 o 8 U (f_X11_greatestPart_4 φ 0 o 8 U k) (k2 + 1) x (Int32.ofNat s) (Int32.ofNat v) (Int32.ofNat c) 8 = _
      rw [f_X11_greatestPart_16, if_pos (by decide), gzn_succ]
  · intro k s hs
    show f_X11_greatestPart_4 φ 0 o 8 U (k + 1) x (Int32.ofNat s) 10 = _
    rw [f_X11_greatestPart_4, if_pos (by decide)]
theorem m_ask {x : Int32} (hV : ∀ k, k < 364 → V 0 48 k = w k) (hφ : 20 < φ) : f_X12_ask_50 φ φ x (-1) 1000000 0 V J = some (if Int32.ofNat (S_gp (fun i => w (14 + 2 * i)) x) ≤ Int32.ofNat (S_gp (fun i => w (15 + 2 * i)) x) then 0 else 1, V, J) := by
  have inner : ∀ (k : Nat) (x2 x3 : Int32) (h : Nat), h < 2 → f_X12_ask_62 φ (f_X12_ask_50 φ k) φ x x2 x3 (Int32.ofNat h) 0 0 V J = f_X12_ask_50 φ k x (if x3 ≤ Int32.ofNat (S_gp (fun i => w (14 + 2 * i + h)) x) then x2 else Int32.ofNat h) (if Int32.ofNat (S_gp (fun i => w (14 + 2 * i + h)) x) < x3 then Int32.ofNat (S_gp (fun i => w (14 + 2 * i + h)) x) else x3) (Int32.ofNat (h + 1)) V J := by
    intro k x2 x3 h hh
    refine gz_loopp (F := fun k2 (s : Nat) i => f_X12_ask_62 φ (f_X12_ask_50 φ k) k2 x x2 x3 (Int32.ofNat h) (Int32.ofNat s) i V J) (n := 10) (c := id) (step := gzMx (fun i => w (14 + 2 * i + h)) x) (out := fun s => f_X12_ask_50 φ k x (if x3 ≤ Int32.ofNat s then x2 else Int32.ofNat h) (if Int32.ofNat s < x3 then Int32.ofNat s else x3) (Int32.ofNat (h + 1)) V J) (p := fun _ s => s ≤ 8) ?_ ?_ 10 0 φ 0 (by omega) (by omega) (by omega)
    · intro k2 s v hv hs
      refine ⟨?_, gzMx_le hs⟩
      have hb := gzCt_le (col := fun i => w (14 + 2 * i + h)) (x := x) (v := v) 8 0 0
      show f_X12_ask_62 φ (f_X12_ask_50 φ k) (k2 + 1) x x2 x3 (Int32.ofNat h) (Int32.ofNat s) (Int32.ofNat v) V J = f_X12_ask_62 φ (f_X12_ask_50 φ k) k2 x x2 x3 (Int32.ofNat h) (Int32.ofNat (gzMx (fun i => w (14 + 2 * i + h)) x s v)) (Int32.ofNat (v + 1)) V J
      rw [f_X12_ask_62, if_neg (by rw [gzc_lt1 (by omega) (by omega)]; omega)]
      have key := gz_loop (F := fun k3 (c : Nat) i => f_X12_ask_75 φ (f_X12_ask_50 φ k) (f_X12_ask_62 φ (f_X12_ask_50 φ k) k2) k3 x x2 x3 (Int32.ofNat h) (Int32.ofNat s) (Int32.ofNat v) (Int32.ofNat c) i V J) (n := 8) (step := gzCt (fun i => w (14 + 2 * i + h)) x v) (out := fun c => f_X12_ask_62 φ (f_X12_ask_50 φ k) k2 x x2 x3 (Int32.ofNat h) (if Int32.ofNat s < Int32.ofNat c then Int32.ofNat c else Int32.ofNat s) (Int32.ofNat (v + 1)) V J) ?_ ?_ 8 0 φ 0 (by omega) (by omega)
      · refine Eq.trans key ?_
        unfold gzMx
        by_cases q : s < gzFo (gzCt (fun i => w (14 + 2 * i + h)) x v) 0 8 0
        · rw [if_pos q, if_pos ((gzn_lt (by omega) (by omega)).mpr q)]
        · rw [if_neg q, if_neg (fun q2 => q ((gzn_lt (by omega) (by omega)).mp q2))]
      · intro k3 c i hi
        show f_X12_ask_75 φ (f_X12_ask_50 φ k) (f_X12_ask_62 φ (f_X12_ask_50 φ k) k2) (k3 + 1) x x2 x3 (Int32.ofNat h) (Int32.ofNat s) (Int32.ofNat v) (Int32.ofNat c) (Int32.ofNat i) V J = f_X12_ask_75 φ (f_X12_ask_50 φ k) (f_X12_ask_62 φ (f_X12_ask_50 φ k) k2) k3 x x2 x3 (Int32.ofNat h) (Int32.ofNat s) (Int32.ofNat v) (Int32.ofNat (gzCt (fun i => w (14 + 2 * i + h)) x v c i)) (Int32.ofNat (i + 1)) V J
        rw [f_X12_ask_75, if_neg (by rw [gzc_le1 (by omega) (by omega)]; omega), m_has (by omega), Option.bind_some, gzc_mul, gzc_add', gzc_adds, gzGd_in (show 14 + 2 * i + h < 2062 by omega) (by omega), gzn_clamp (show 14 + 2 * i + h < 2 ^ 31 by omega), hV _ (by omega), Int32.add_zero, gzn_succ, gzn_succ]
        unfold gzCt
        by_cases q1 : gzB x i = true
        · rw [if_pos q1, if_neg (by decide)]
          by_cases q2 : w (14 + 2 * i + h) = Int32.ofNat v
          · rw [if_neg (fun q => q q2), if_pos ⟨q1, q2⟩]
          · rw [if_pos q2, if_neg (fun q => q2 q.2)]
        · rw [if_neg q1, if_pos rfl, if_neg (fun q => q1 q.1)]
      · intro k3 c
        show f_X12_ask_75 φ (f_X12_ask_50 φ k) (f_X12_ask_62 φ (f_X12_ask_50 φ k) k2) (k3 + 1) x x2 x3 (Int32.ofNat h) (Int32.ofNat s) (Int32.ofNat v) (Int32.ofNat c) 8 V J = _
        rw [f_X12_ask_75, if_pos (by decide), gzn_succ]
    · intro k2 s hs
      show f_X12_ask_62 φ (f_X12_ask_50 φ k) (k2 + 1) x x2 x3 (Int32.ofNat h) (Int32.ofNat s) 10 V J = _
      rw [f_X12_ask_62, if_pos (by decide), gzn_succ]
  obtain ⟨k, rfl⟩ : ∃ k, φ = k + 3 := ⟨φ - 3, by omega⟩
  have l0 := S_gp_le (col := fun i => w (14 + 2 * i)) (x := x)
  have i0 := inner (k + 2) (-1) 1000000 0 (by omega)
  have i1 := fun x2 x3 => inner (k + 1) x2 x3 1 (by omega)
  rw [show (f_X12_ask_50 (k + 3) (k + 3) x (-1) 1000000 0 V J) = f_X12_ask_50 (k + 3) (k + 2 + 1) x (-1) 1000000 (Int32.ofNat 0) V J from rfl, f_X12_ask_50, if_neg (by decide), i0]
  rw [show (fun i => w (14 + 2 * i + 0)) = (fun i => w (14 + 2 * i)) from rfl, if_neg (by rw [gzc_le1 (by omega) (by omega)]; omega), if_pos (by rw [gzc_lt2 (by omega) (by omega)]; omega)]
  rw [show k + 2 = k + 1 + 1 from rfl, f_X12_ask_50, if_neg (by decide), i1, f_X12_ask_50, if_pos (by decide)]
  rw [show (fun i => w (14 + 2 * i + 1)) = (fun i => w (15 + 2 * i)) from funext fun i => by rw [show 14 + 2 * i + 1 = 15 + 2 * i by omega]]
  rfl
theorem L_ask (h : gzR I I) : ∃ e I1, f_X11_ask 4096 I J = some (e, I1, J) ∧ (∀ E, e = .error E → ∃ k : Nat, (["java/lang/IllegalArgumentException"] : List String)[k]? = some E) ∧ ∀ J' : gzJT, ∃ v I2 J2, f_X12_ask 4096 I1 J' = some (v, I2, J2) ∧ gzSame e ["java/lang/IllegalArgumentException"] v (I2 0 47 0) ∧ J2 0 59 0 = J' 0 59 0 ∧ gzR I2 I2 := by
  obtain ⟨nf, ng, nl, nx, hT, hx, c, b, m⟩ := gzR_go h
  obtain ⟨w0, v0, -, -, -, -, -, -, ⟨n, hn, hc, hm, hby⟩, -⟩ := id h
  obtain ⟨φ, hφ⟩ : ∃ φ, φ = 4096 := ⟨_, rfl⟩
  rw [← hφ]
  obtain ⟨U, eU⟩ : ∃ U, U = gz_ui I 0 31 1 0 := ⟨_, rfl⟩
  have Uo : ∀ t o j, ¬ (t = 0 ∧ o = 31 ∧ j = 1) → U t o j = I t o j := fun t o j a => by rw [eU]; exact if_neg a
  obtain ⟨V, eV⟩ : ∃ V, V = gz_ui (gz_ui (gz_ui (gz_ui U 0 47 0 0) 0 47 11 (U 0 47 9)) 0 47 9 0) 0 47 10 0 := ⟨_, rfl⟩
  have Vo : ∀ t o j, ¬ (t = 0 ∧ o = 31 ∧ j = 1) → ¬ (t = 0 ∧ o = 47 ∧ (j = 0 ∨ 9 ≤ j)) → V t o j = I t o j := fun t o j a d => by
    rw [eV]
    exact (if_neg (by omega)).trans ((if_neg (by omega)).trans ((if_neg (by omega)).trans ((if_neg (by omega)).trans (Uo t o j a))))
  have V11 : V 0 47 11 = Int32.ofNat n := by
    rw [eV]
    exact (if_neg (by omega)).trans ((if_neg (by omega)).trans (gz_ui_s.trans ((Uo 0 47 9 (by omega)).trans hm)))
  have V9 : V 0 47 9 = 0 := by
    rw [eV]
    exact (if_neg (by omega)).trans gz_ui_s
  have V0 : V 0 47 0 = 0 := by
    rw [eV]
    exact (if_neg (by omega)).trans ((if_neg (by omega)).trans ((if_neg (by omega)).trans gz_ui_s))
  have V31 : V 0 31 1 = 0 := by
    rw [eV]
    exact (if_neg (by omega)).trans ((if_neg (by omega)).trans ((if_neg (by omega)).trans ((if_neg (by omega)).trans (by rw [eU]; exact gz_ui_s))))
  have V14 : V 0 47 14 = I 0 47 14 := by
    rw [eV]
    exact (if_neg (by omega)).trans ((if_neg (by omega)).trans ((if_neg (by omega)).trans ((if_neg (by omega)).trans (Uo 0 47 14 (by omega)))))
  have hRV : gzR V V := gzR_tape h (fun t o j a d e => by
    by_cases q14 : t = 0 ∧ o = 47 ∧ j = 14
    · obtain ⟨rfl, rfl, rfl⟩ := q14; exact V14
    · exact Vo t o j (by omega) (fun q => a (by unfold gzCs gzMw; omega))) ⟨0, by omega, V31, V9, fun i hi => absurd hi (by omega)⟩
  have hcU : gzVc U 0 (I 0 48) nf ng := by
    have e : ∀ o k, o < 20 → U 0 o k = I 0 o k := fun o k ho => Uo 0 o k (by omega)
    have c2 := c
    unfold gzVc at c2 ⊢
    simp (disch := omega) only [e]
    exact c2
  have hmV : gzVi V (I 0 48) nf ng := ⟨fun j hj => Vo 0 48 j (by omega) (by omega), (m 0).2⟩
  have V48 : V 0 48 = I 0 48 := funext fun j => Vo 0 48 j (by omega) (by omega)
  have c1 := c_needCuts (U := U) (J := J) (b := I 0 53) (n := n) (φ := φ) hn (fun i hi => (Uo 0 32 i (by omega)).trans (hby i hi).1) (by omega)
  have m1 := m_isCut (V := V) (b := I 0 53) (n := n) (φ := φ) hn (fun i hi => ⟨Vo 0 53 i (by omega) (by omega), (hby i hi).2⟩) V11 (by omega)
  have hus : f_X12_uses U = fun J' => some ((), V, J') := funext fun J' => by unfold f_X12_uses; rw [eV]
  cases hcut : gzNoCut (I 0 53) n with
  | true =>
    rw [hcut] at c1 m1
    refine ⟨.error "java/lang/IllegalArgumentException", U, ?_, fun E hE => ⟨0, by cases hE; rfl⟩, fun J' => ⟨0, gz_ui V 0 47 0 1, J', ?_, ⟨0, rfl, gz_ui_s⟩, rfl, gzR_thr hRV⟩⟩
    · unfold f_X11_ask f_X6_use
      simp only [Option.bind_some]
      rw [← eU, hc, c1]
      rfl
    · unfold f_X12_ask
      rw [hus]
      simp only [Option.bind_some]
      rw [m1]
      simp only [Option.bind_some, if_true, gz_not00, s_throws1]
      rfl
  | false =>
    rw [hcut] at c1 m1
    obtain ⟨en, hok⟩ := gzCut_of hcut (fun i hi => (hby i hi).2)
    have tU : gzTn U 0 (I 0 48) nf ng nl nx := gzTn_congr (fun o j ho _ => Uo 0 o j (by omega)) hT
    have cf := c_fitting (U := U) (b := I 0 53) (h := n / 2) (φ := φ) hcU hok (fun i hi => (Uo 0 32 i (by omega)).trans (hby i (by omega)).1) (by omega)
    have mf := m_fitting (V := V) (b := I 0 53) (h := n / 2) (φ := φ) hmV hok (fun i hi => Vo 0 53 i (by omega) (by omega)) (by rw [← en]; exact V11) (by omega)
    rw [← en] at cf
    obtain ⟨fs, hfs⟩ : ∃ fs, fs = S_fit (I 0 48) (I 0 53) (n / 2) := ⟨_, rfl⟩
    rw [← hfs] at cf mf
    refine ⟨.ok (if 2 ≤ gzBc fs then (if Int32.ofNat (S_gp (fun i => I 0 48 (14 + 2 * i)) fs) ≤ Int32.ofNat (S_gp (fun i => I 0 48 (15 + 2 * i)) fs) then 0 else 1) else -1), U, ?_, fun E hE => (by cases hE), fun J' => ⟨if 2 ≤ gzBc fs then (if Int32.ofNat (S_gp (fun i => I 0 48 (14 + 2 * i)) fs) ≤ Int32.ofNat (S_gp (fun i => I 0 48 (15 + 2 * i)) fs) then 0 else 1) else -1, V, J', ?_, ⟨rfl, V0⟩, rfl, hRV⟩⟩
    · unfold f_X11_ask f_X6_use
      simp only [Option.bind_some]
      rw [← eU, hc, c1]
      simp only [Option.bind_some, gzEx]
      show Option.bind (f_X8_fitting φ 0 U (Int32.ofNat n)) _ = _
      rw [cf, Option.bind_some, gzBc_eq, Option.bind_some]
      generalize gzBc fs = cnt
      by_cases q : 2 ≤ cnt
      · rw [if_pos q, if_pos q, c_gp (col := fun i => I 0 48 (15 + 2 * i)) (fun i hi => hcU.2.2.2.2.2.2.2.2.2.2.2.2.2 i hi) (by omega), Option.bind_some, c_gp (col := fun i => I 0 48 (14 + 2 * i)) (fun i hi => hcU.2.2.2.2.2.2.2.2.2.2.2.2.1 i hi) (by omega), Option.bind_some]
      · rw [if_neg q, if_neg q]
    · unfold f_X12_ask
      rw [hus]
      simp only [Option.bind_some]
      rw [m1]
      simp only [Option.bind_some]
      rw [if_neg (show ¬ (false = true) by decide), gz_not01, s_throws0]
      simp only [Option.bind_some, if_true]
      rw [mf, Option.bind_some, gzBc_eq, Option.bind_some]
      generalize gzBc fs = cnt
      by_cases q : 2 ≤ cnt
      · rw [if_pos q, if_pos q]
        exact m_ask hmV.1 (by omega)
      · rw [if_neg q, if_neg q]
end
