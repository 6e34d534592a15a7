/-- the class's answer e and the model's v with what it calls thrown: hs are the exceptions in the order of the law's handlers -/
def gzSame (e : Except String Int32) (hs : List String) (v th : Int32) : Prop := match e with
  | .ok x => x = v ∧ th = 0
  | .error E => ∃ k, hs[k]? = some E ∧ th = Int32.ofNat (k + 1)
/-- I2 is I but for the model's word of what was thrown -/
def gzBut (I I2 : gzIT) : Prop := ∀ t o k, ¬ (t = 0 ∧ o = 47 ∧ k = 0) → I2 t o k = I t o k
theorem gzBut_1 {I : gzIT} {v : Int32} : gzBut I (gz_ui I 0 47 0 v) := fun t o k h => if_neg (fun q => h ⟨q.1, q.2.1, q.2.2⟩)
theorem gzBut_2 {I : gzIT} {v w : Int32} : gzBut I (gz_ui (gz_ui I 0 47 0 v) 0 47 0 w) := fun t o k h => by
  have h' : ¬ (t = 0 ∧ o = 47 ∧ k = 0) := h
  exact (if_neg (fun q => h' ⟨q.1, q.2.1, q.2.2⟩)).trans (if_neg (fun q => h' ⟨q.1, q.2.1, q.2.2⟩))
theorem s_needSlight {a : Int32} {I : gzIT} {J : gzJT} : ((∃ k, k < 8 ∧ a = Int32.ofNat k) ∧ f_X11_needSlight a I J = some (.ok (), I, J) ∧ f_X12_noSlight a = some 0) ∨ (f_X11_needSlight a I J = some (.error "java/lang/IndexOutOfBoundsException", I, J) ∧ f_X12_noSlight a = some 1) := by
  rcases gz_byn a 8 (by omega) with ⟨k, hk, rfl⟩ | h1 | ⟨h1, h2⟩
  · refine Or.inl ⟨⟨k, hk, rfl⟩, ?_, ?_⟩
    · unfold f_X11_needSlight
      rw [if_neg (show ¬ Int32.ofNat k < 0 by rw [show (0 : Int32) = Int32.ofNat 0 from rfl, gzn_lt (by omega) (by omega)]; omega), if_pos (by rw [show (8 : Int32) = Int32.ofNat 8 from rfl, gzn_lt (by omega) (by omega)]; omega)]
    · unfold f_X12_noSlight
      rw [show (7 : Int32) = Int32.ofNat (8 - 1) from rfl, s_X12_in0 hk (by omega)]
      rfl
  · refine Or.inr ⟨?_, ?_⟩
    · unfold f_X11_needSlight
      rw [if_pos h1]
    · unfold f_X12_noSlight
      rw [s_X12_in1 h1]
      rfl
  · refine Or.inr ⟨?_, ?_⟩
    · unfold f_X11_needSlight
      rw [if_neg h1, if_neg]
      intro q
      have q1 := Int32.le_iff_toInt_le.mp h2
      have q2 := Int32.lt_iff_toInt_lt.mp q
      have e4 : (8 : Int32).toInt = 8 := rfl
      rw [gzn_int (by omega)] at q1
      omega
    · unfold f_X12_noSlight
      rw [show (7 : Int32) = Int32.ofNat (8 - 1) from rfl, s_X12_in2 (by omega) (by omega) h1 h2]
      rfl
