/-! thaw -/
def gzPi (a b : Nat) : Nat := if b < a then a * (a - 1) / 2 + b else b * (b - 1) / 2 + a
def gzNb (nf : Nat) (l : Nat → Bool) (i j : Nat) : Bool := decide (i < nf ∧ j < nf ∧ i ≠ j) && l (gzPi i j)
def gzBn (l : Nat → Bool) (p : Nat) : Nat := if l p = true then 1 else 0
theorem gzBn_f {l : Nat → Bool} {p : Nat} (h : l p = false) : gzBn l p = 0 := by unfold gzBn; rw [h]; rfl
theorem gzBn_1 {l : Nat → Bool} {p : Nat} : gzBn l p ≤ 1 := by unfold gzBn; split <;> omega
theorem gzQn_15 {l : Nat → Bool} : gzQn l 0 15 = gzBn l 0 + gzBn l 1 + gzBn l 2 + gzBn l 3 + gzBn l 4 + gzBn l 5 + gzBn l 6 + gzBn l 7 + gzBn l 8 + gzBn l 9 + gzBn l 10 + gzBn l 11 + gzBn l 12 + gzBn l 13 + gzBn l 14 := by
  have e : gzQn l 0 15 = gzBn l 0 + (gzBn l 1 + (gzBn l 2 + (gzBn l 3 + (gzBn l 4 + (gzBn l 5 + (gzBn l 6 + (gzBn l 7 + (gzBn l 8 + (gzBn l 9 + (gzBn l 10 + (gzBn l 11 + (gzBn l 12 + (gzBn l 13 + (gzBn l 14 + (0))))))))))))))) := rfl
  omega
theorem gz_nb10 {l : Nat → Bool} : gzQn (gzNb 1 l 0) 0 15 = 0 := by
  rw [gzQn_15]
  have e : gzBn (gzNb 1 l 0) 0 = 0 ∧ gzBn (gzNb 1 l 0) 1 = 0 ∧ gzBn (gzNb 1 l 0) 2 = 0 ∧ gzBn (gzNb 1 l 0) 3 = 0 ∧ gzBn (gzNb 1 l 0) 4 = 0 ∧ gzBn (gzNb 1 l 0) 5 = 0 ∧ gzBn (gzNb 1 l 0) 6 = 0 ∧ gzBn (gzNb 1 l 0) 7 = 0 ∧ gzBn (gzNb 1 l 0) 8 = 0 ∧ gzBn (gzNb 1 l 0) 9 = 0 ∧ gzBn (gzNb 1 l 0) 10 = 0 ∧ gzBn (gzNb 1 l 0) 11 = 0 ∧ gzBn (gzNb 1 l 0) 12 = 0 ∧ gzBn (gzNb 1 l 0) 13 = 0 ∧ gzBn (gzNb 1 l 0) 14 = 0 := ⟨rfl, rfl, rfl, rfl, rfl, rfl, rfl, rfl, rfl, rfl, rfl, rfl, rfl, rfl, rfl⟩
  omega
theorem gz_nb20 {l : Nat → Bool} : gzQn (gzNb 2 l 0) 0 15 = gzBn l 0 := by
  rw [gzQn_15]
  have e : gzBn (gzNb 2 l 0) 0 = 0 ∧ gzBn (gzNb 2 l 0) 1 = gzBn l 0 ∧ gzBn (gzNb 2 l 0) 2 = 0 ∧ gzBn (gzNb 2 l 0) 3 = 0 ∧ gzBn (gzNb 2 l 0) 4 = 0 ∧ gzBn (gzNb 2 l 0) 5 = 0 ∧ gzBn (gzNb 2 l 0) 6 = 0 ∧ gzBn (gzNb 2 l 0) 7 = 0 ∧ gzBn (gzNb 2 l 0) 8 = 0 ∧ gzBn (gzNb 2 l 0) 9 = 0 ∧ gzBn (gzNb 2 l 0) 10 = 0 ∧ gzBn (gzNb 2 l 0) 11 = 0 ∧ gzBn (gzNb 2 l 0) 12 = 0 ∧ gzBn (gzNb 2 l 0) 13 = 0 ∧ gzBn (gzNb 2 l 0) 14 = 0 := ⟨rfl, rfl, rfl, rfl, rfl, rfl, rfl, rfl, rfl, rfl, rfl, rfl, rfl, rfl, rfl⟩
  omega
theorem gz_nb21 {l : Nat → Bool} : gzQn (gzNb 2 l 1) 0 15 = gzBn l 0 := by
  rw [gzQn_15]
  have e : gzBn (gzNb 2 l 1) 0 = gzBn l 0 ∧ gzBn (gzNb 2 l 1) 1 = 0 ∧ gzBn (gzNb 2 l 1) 2 = 0 ∧ gzBn (gzNb 2 l 1) 3 = 0 ∧ gzBn (gzNb 2 l 1) 4 = 0 ∧ gzBn (gzNb 2 l 1) 5 = 0 ∧ gzBn (gzNb 2 l 1) 6 = 0 ∧ gzBn (gzNb 2 l 1) 7 = 0 ∧ gzBn (gzNb 2 l 1) 8 = 0 ∧ gzBn (gzNb 2 l 1) 9 = 0 ∧ gzBn (gzNb 2 l 1) 10 = 0 ∧ gzBn (gzNb 2 l 1) 11 = 0 ∧ gzBn (gzNb 2 l 1) 12 = 0 ∧ gzBn (gzNb 2 l 1) 13 = 0 ∧ gzBn (gzNb 2 l 1) 14 = 0 := ⟨rfl, rfl, rfl, rfl, rfl, rfl, rfl, rfl, rfl, rfl, rfl, rfl, rfl, rfl, rfl⟩
  omega
theorem gz_nb30 {l : Nat → Bool} : gzQn (gzNb 3 l 0) 0 15 = gzBn l 0 + gzBn l 1 := by
  rw [gzQn_15]
  have e : gzBn (gzNb 3 l 0) 0 = 0 ∧ gzBn (gzNb 3 l 0) 1 = gzBn l 0 ∧ gzBn (gzNb 3 l 0) 2 = gzBn l 1 ∧ gzBn (gzNb 3 l 0) 3 = 0 ∧ gzBn (gzNb 3 l 0) 4 = 0 ∧ gzBn (gzNb 3 l 0) 5 = 0 ∧ gzBn (gzNb 3 l 0) 6 = 0 ∧ gzBn (gzNb 3 l 0) 7 = 0 ∧ gzBn (gzNb 3 l 0) 8 = 0 ∧ gzBn (gzNb 3 l 0) 9 = 0 ∧ gzBn (gzNb 3 l 0) 10 = 0 ∧ gzBn (gzNb 3 l 0) 11 = 0 ∧ gzBn (gzNb 3 l 0) 12 = 0 ∧ gzBn (gzNb 3 l 0) 13 = 0 ∧ gzBn (gzNb 3 l 0) 14 = 0 := ⟨rfl, rfl, rfl, rfl, rfl, rfl, rfl, rfl, rfl, rfl, rfl, rfl, rfl, rfl, rfl⟩
  omega
theorem gz_nb31 {l : Nat → Bool} : gzQn (gzNb 3 l 1) 0 15 = gzBn l 0 + gzBn l 2 := by
  rw [gzQn_15]
  have e : gzBn (gzNb 3 l 1) 0 = gzBn l 0 ∧ gzBn (gzNb 3 l 1) 1 = 0 ∧ gzBn (gzNb 3 l 1) 2 = gzBn l 2 ∧ gzBn (gzNb 3 l 1) 3 = 0 ∧ gzBn (gzNb 3 l 1) 4 = 0 ∧ gzBn (gzNb 3 l 1) 5 = 0 ∧ gzBn (gzNb 3 l 1) 6 = 0 ∧ gzBn (gzNb 3 l 1) 7 = 0 ∧ gzBn (gzNb 3 l 1) 8 = 0 ∧ gzBn (gzNb 3 l 1) 9 = 0 ∧ gzBn (gzNb 3 l 1) 10 = 0 ∧ gzBn (gzNb 3 l 1) 11 = 0 ∧ gzBn (gzNb 3 l 1) 12 = 0 ∧ gzBn (gzNb 3 l 1) 13 = 0 ∧ gzBn (gzNb 3 l 1) 14 = 0 := ⟨rfl, rfl, rfl, rfl, rfl, rfl, rfl, rfl, rfl, rfl, rfl, rfl, rfl, rfl, rfl⟩
  omega
theorem gz_nb32 {l : Nat → Bool} : gzQn (gzNb 3 l 2) 0 15 = gzBn l 1 + gzBn l 2 := by
  rw [gzQn_15]
  have e : gzBn (gzNb 3 l 2) 0 = gzBn l 1 ∧ gzBn (gzNb 3 l 2) 1 = gzBn l 2 ∧ gzBn (gzNb 3 l 2) 2 = 0 ∧ gzBn (gzNb 3 l 2) 3 = 0 ∧ gzBn (gzNb 3 l 2) 4 = 0 ∧ gzBn (gzNb 3 l 2) 5 = 0 ∧ gzBn (gzNb 3 l 2) 6 = 0 ∧ gzBn (gzNb 3 l 2) 7 = 0 ∧ gzBn (gzNb 3 l 2) 8 = 0 ∧ gzBn (gzNb 3 l 2) 9 = 0 ∧ gzBn (gzNb 3 l 2) 10 = 0 ∧ gzBn (gzNb 3 l 2) 11 = 0 ∧ gzBn (gzNb 3 l 2) 12 = 0 ∧ gzBn (gzNb 3 l 2) 13 = 0 ∧ gzBn (gzNb 3 l 2) 14 = 0 := ⟨rfl, rfl, rfl, rfl, rfl, rfl, rfl, rfl, rfl, rfl, rfl, rfl, rfl, rfl, rfl⟩
  omega
theorem gz_nb40 {l : Nat → Bool} : gzQn (gzNb 4 l 0) 0 15 = gzBn l 0 + gzBn l 1 + gzBn l 3 := by
  rw [gzQn_15]
  have e : gzBn (gzNb 4 l 0) 0 = 0 ∧ gzBn (gzNb 4 l 0) 1 = gzBn l 0 ∧ gzBn (gzNb 4 l 0) 2 = gzBn l 1 ∧ gzBn (gzNb 4 l 0) 3 = gzBn l 3 ∧ gzBn (gzNb 4 l 0) 4 = 0 ∧ gzBn (gzNb 4 l 0) 5 = 0 ∧ gzBn (gzNb 4 l 0) 6 = 0 ∧ gzBn (gzNb 4 l 0) 7 = 0 ∧ gzBn (gzNb 4 l 0) 8 = 0 ∧ gzBn (gzNb 4 l 0) 9 = 0 ∧ gzBn (gzNb 4 l 0) 10 = 0 ∧ gzBn (gzNb 4 l 0) 11 = 0 ∧ gzBn (gzNb 4 l 0) 12 = 0 ∧ gzBn (gzNb 4 l 0) 13 = 0 ∧ gzBn (gzNb 4 l 0) 14 = 0 := ⟨rfl, rfl, rfl, rfl, rfl, rfl, rfl, rfl, rfl, rfl, rfl, rfl, rfl, rfl, rfl⟩
  omega
theorem gz_nb41 {l : Nat → Bool} : gzQn (gzNb 4 l 1) 0 15 = gzBn l 0 + gzBn l 2 + gzBn l 4 := by
  rw [gzQn_15]
  have e : gzBn (gzNb 4 l 1) 0 = gzBn l 0 ∧ gzBn (gzNb 4 l 1) 1 = 0 ∧ gzBn (gzNb 4 l 1) 2 = gzBn l 2 ∧ gzBn (gzNb 4 l 1) 3 = gzBn l 4 ∧ gzBn (gzNb 4 l 1) 4 = 0 ∧ gzBn (gzNb 4 l 1) 5 = 0 ∧ gzBn (gzNb 4 l 1) 6 = 0 ∧ gzBn (gzNb 4 l 1) 7 = 0 ∧ gzBn (gzNb 4 l 1) 8 = 0 ∧ gzBn (gzNb 4 l 1) 9 = 0 ∧ gzBn (gzNb 4 l 1) 10 = 0 ∧ gzBn (gzNb 4 l 1) 11 = 0 ∧ gzBn (gzNb 4 l 1) 12 = 0 ∧ gzBn (gzNb 4 l 1) 13 = 0 ∧ gzBn (gzNb 4 l 1) 14 = 0 := ⟨rfl, rfl, rfl, rfl, rfl, rfl, rfl, rfl, rfl, rfl, rfl, rfl, rfl, rfl, rfl⟩
  omega
theorem gz_nb42 {l : Nat → Bool} : gzQn (gzNb 4 l 2) 0 15 = gzBn l 1 + gzBn l 2 + gzBn l 5 := by
  rw [gzQn_15]
  have e : gzBn (gzNb 4 l 2) 0 = gzBn l 1 ∧ gzBn (gzNb 4 l 2) 1 = gzBn l 2 ∧ gzBn (gzNb 4 l 2) 2 = 0 ∧ gzBn (gzNb 4 l 2) 3 = gzBn l 5 ∧ gzBn (gzNb 4 l 2) 4 = 0 ∧ gzBn (gzNb 4 l 2) 5 = 0 ∧ gzBn (gzNb 4 l 2) 6 = 0 ∧ gzBn (gzNb 4 l 2) 7 = 0 ∧ gzBn (gzNb 4 l 2) 8 = 0 ∧ gzBn (gzNb 4 l 2) 9 = 0 ∧ gzBn (gzNb 4 l 2) 10 = 0 ∧ gzBn (gzNb 4 l 2) 11 = 0 ∧ gzBn (gzNb 4 l 2) 12 = 0 ∧ gzBn (gzNb 4 l 2) 13 = 0 ∧ gzBn (gzNb 4 l 2) 14 = 0 := ⟨rfl, rfl, rfl, rfl, rfl, rfl, rfl, rfl, rfl, rfl, rfl, rfl, rfl, rfl, rfl⟩
  omega
theorem gz_nb43 {l : Nat → Bool} : gzQn (gzNb 4 l 3) 0 15 = gzBn l 3 + gzBn l 4 + gzBn l 5 := by
  rw [gzQn_15]
  have e : gzBn (gzNb 4 l 3) 0 = gzBn l 3 ∧ gzBn (gzNb 4 l 3) 1 = gzBn l 4 ∧ gzBn (gzNb 4 l 3) 2 = gzBn l 5 ∧ gzBn (gzNb 4 l 3) 3 = 0 ∧ gzBn (gzNb 4 l 3) 4 = 0 ∧ gzBn (gzNb 4 l 3) 5 = 0 ∧ gzBn (gzNb 4 l 3) 6 = 0 ∧ gzBn (gzNb 4 l 3) 7 = 0 ∧ gzBn (gzNb 4 l 3) 8 = 0 ∧ gzBn (gzNb 4 l 3) 9 = 0 ∧ gzBn (gzNb 4 l 3) 10 = 0 ∧ gzBn (gzNb 4 l 3) 11 = 0 ∧ gzBn (gzNb 4 l 3) 12 = 0 ∧ gzBn (gzNb 4 l 3) 13 = 0 ∧ gzBn (gzNb 4 l 3) 14 = 0 := ⟨rfl, rfl, rfl, rfl, rfl, rfl, rfl, rfl, rfl, rfl, rfl, rfl, rfl, rfl, rfl⟩
  omega
theorem gz_nb50 {l : Nat → Bool} : gzQn (gzNb 5 l 0) 0 15 = gzBn l 0 + gzBn l 1 + gzBn l 3 + gzBn l 6 := by
  rw [gzQn_15]
  have e : gzBn (gzNb 5 l 0) 0 = 0 ∧ gzBn (gzNb 5 l 0) 1 = gzBn l 0 ∧ gzBn (gzNb 5 l 0) 2 = gzBn l 1 ∧ gzBn (gzNb 5 l 0) 3 = gzBn l 3 ∧ gzBn (gzNb 5 l 0) 4 = gzBn l 6 ∧ gzBn (gzNb 5 l 0) 5 = 0 ∧ gzBn (gzNb 5 l 0) 6 = 0 ∧ gzBn (gzNb 5 l 0) 7 = 0 ∧ gzBn (gzNb 5 l 0) 8 = 0 ∧ gzBn (gzNb 5 l 0) 9 = 0 ∧ gzBn (gzNb 5 l 0) 10 = 0 ∧ gzBn (gzNb 5 l 0) 11 = 0 ∧ gzBn (gzNb 5 l 0) 12 = 0 ∧ gzBn (gzNb 5 l 0) 13 = 0 ∧ gzBn (gzNb 5 l 0) 14 = 0 := ⟨rfl, rfl, rfl, rfl, rfl, rfl, rfl, rfl, rfl, rfl, rfl, rfl, rfl, rfl, rfl⟩
  omega
theorem gz_nb51 {l : Nat → Bool} : gzQn (gzNb 5 l 1) 0 15 = gzBn l 0 + gzBn l 2 + gzBn l 4 + gzBn l 7 := by
  rw [gzQn_15]
  have e : gzBn (gzNb 5 l 1) 0 = gzBn l 0 ∧ gzBn (gzNb 5 l 1) 1 = 0 ∧ gzBn (gzNb 5 l 1) 2 = gzBn l 2 ∧ gzBn (gzNb 5 l 1) 3 = gzBn l 4 ∧ gzBn (gzNb 5 l 1) 4 = gzBn l 7 ∧ gzBn (gzNb 5 l 1) 5 = 0 ∧ gzBn (gzNb 5 l 1) 6 = 0 ∧ gzBn (gzNb 5 l 1) 7 = 0 ∧ gzBn (gzNb 5 l 1) 8 = 0 ∧ gzBn (gzNb 5 l 1) 9 = 0 ∧ gzBn (gzNb 5 l 1) 10 = 0 ∧ gzBn (gzNb 5 l 1) 11 = 0 ∧ gzBn (gzNb 5 l 1) 12 = 0 ∧ gzBn (gzNb 5 l 1) 13 = 0 ∧ gzBn (gzNb 5 l 1) 14 = 0 := ⟨rfl, rfl, rfl, rfl, rfl, rfl, rfl, rfl, rfl, rfl, rfl, rfl, rfl, rfl, rfl⟩
  omega
theorem gz_nb52 {l : Nat → Bool} : gzQn (gzNb 5 l 2) 0 15 = gzBn l 1 + gzBn l 2 + gzBn l 5 + gzBn l 8 := by
  rw [gzQn_15]
  have e : gzBn (gzNb 5 l 2) 0 = gzBn l 1 ∧ gzBn (gzNb 5 l 2) 1 = gzBn l 2 ∧ gzBn (gzNb 5 l 2) 2 = 0 ∧ gzBn (gzNb 5 l 2) 3 = gzBn l 5 ∧ gzBn (gzNb 5 l 2) 4 = gzBn l 8 ∧ gzBn (gzNb 5 l 2) 5 = 0 ∧ gzBn (gzNb 5 l 2) 6 = 0 ∧ gzBn (gzNb 5 l 2) 7 = 0 ∧ gzBn (gzNb 5 l 2) 8 = 0 ∧ gzBn (gzNb 5 l 2) 9 = 0 ∧ gzBn (gzNb 5 l 2) 10 = 0 ∧ gzBn (gzNb 5 l 2) 11 = 0 ∧ gzBn (gzNb 5 l 2) 12 = 0 ∧ gzBn (gzNb 5 l 2) 13 = 0 ∧ gzBn (gzNb 5 l 2) 14 = 0 := ⟨rfl, rfl, rfl, rfl, rfl, rfl, rfl, rfl, rfl, rfl, rfl, rfl, rfl, rfl, rfl⟩
  omega
theorem gz_nb53 {l : Nat → Bool} : gzQn (gzNb 5 l 3) 0 15 = gzBn l 3 + gzBn l 4 + gzBn l 5 + gzBn l 9 := by
  rw [gzQn_15]
  have e : gzBn (gzNb 5 l 3) 0 = gzBn l 3 ∧ gzBn (gzNb 5 l 3) 1 = gzBn l 4 ∧ gzBn (gzNb 5 l 3) 2 = gzBn l 5 ∧ gzBn (gzNb 5 l 3) 3 = 0 ∧ gzBn (gzNb 5 l 3) 4 = gzBn l 9 ∧ gzBn (gzNb 5 l 3) 5 = 0 ∧ gzBn (gzNb 5 l 3) 6 = 0 ∧ gzBn (gzNb 5 l 3) 7 = 0 ∧ gzBn (gzNb 5 l 3) 8 = 0 ∧ gzBn (gzNb 5 l 3) 9 = 0 ∧ gzBn (gzNb 5 l 3) 10 = 0 ∧ gzBn (gzNb 5 l 3) 11 = 0 ∧ gzBn (gzNb 5 l 3) 12 = 0 ∧ gzBn (gzNb 5 l 3) 13 = 0 ∧ gzBn (gzNb 5 l 3) 14 = 0 := ⟨rfl, rfl, rfl, rfl, rfl, rfl, rfl, rfl, rfl, rfl, rfl, rfl, rfl, rfl, rfl⟩
  omega
theorem gz_nb54 {l : Nat → Bool} : gzQn (gzNb 5 l 4) 0 15 = gzBn l 6 + gzBn l 7 + gzBn l 8 + gzBn l 9 := by
  rw [gzQn_15]
  have e : gzBn (gzNb 5 l 4) 0 = gzBn l 6 ∧ gzBn (gzNb 5 l 4) 1 = gzBn l 7 ∧ gzBn (gzNb 5 l 4) 2 = gzBn l 8 ∧ gzBn (gzNb 5 l 4) 3 = gzBn l 9 ∧ gzBn (gzNb 5 l 4) 4 = 0 ∧ gzBn (gzNb 5 l 4) 5 = 0 ∧ gzBn (gzNb 5 l 4) 6 = 0 ∧ gzBn (gzNb 5 l 4) 7 = 0 ∧ gzBn (gzNb 5 l 4) 8 = 0 ∧ gzBn (gzNb 5 l 4) 9 = 0 ∧ gzBn (gzNb 5 l 4) 10 = 0 ∧ gzBn (gzNb 5 l 4) 11 = 0 ∧ gzBn (gzNb 5 l 4) 12 = 0 ∧ gzBn (gzNb 5 l 4) 13 = 0 ∧ gzBn (gzNb 5 l 4) 14 = 0 := ⟨rfl, rfl, rfl, rfl, rfl, rfl, rfl, rfl, rfl, rfl, rfl, rfl, rfl, rfl, rfl⟩
  omega
theorem gz_nb60 {l : Nat → Bool} : gzQn (gzNb 6 l 0) 0 15 = gzBn l 0 + gzBn l 1 + gzBn l 3 + gzBn l 6 + gzBn l 10 := by
  rw [gzQn_15]
  have e : gzBn (gzNb 6 l 0) 0 = 0 ∧ gzBn (gzNb 6 l 0) 1 = gzBn l 0 ∧ gzBn (gzNb 6 l 0) 2 = gzBn l 1 ∧ gzBn (gzNb 6 l 0) 3 = gzBn l 3 ∧ gzBn (gzNb 6 l 0) 4 = gzBn l 6 ∧ gzBn (gzNb 6 l 0) 5 = gzBn l 10 ∧ gzBn (gzNb 6 l 0) 6 = 0 ∧ gzBn (gzNb 6 l 0) 7 = 0 ∧ gzBn (gzNb 6 l 0) 8 = 0 ∧ gzBn (gzNb 6 l 0) 9 = 0 ∧ gzBn (gzNb 6 l 0) 10 = 0 ∧ gzBn (gzNb 6 l 0) 11 = 0 ∧ gzBn (gzNb 6 l 0) 12 = 0 ∧ gzBn (gzNb 6 l 0) 13 = 0 ∧ gzBn (gzNb 6 l 0) 14 = 0 := ⟨rfl, rfl, rfl, rfl, rfl, rfl, rfl, rfl, rfl, rfl, rfl, rfl, rfl, rfl, rfl⟩
  omega
theorem gz_nb61 {l : Nat → Bool} : gzQn (gzNb 6 l 1) 0 15 = gzBn l 0 + gzBn l 2 + gzBn l 4 + gzBn l 7 + gzBn l 11 := by
  rw [gzQn_15]
  have e : gzBn (gzNb 6 l 1) 0 = gzBn l 0 ∧ gzBn (gzNb 6 l 1) 1 = 0 ∧ gzBn (gzNb 6 l 1) 2 = gzBn l 2 ∧ gzBn (gzNb 6 l 1) 3 = gzBn l 4 ∧ gzBn (gzNb 6 l 1) 4 = gzBn l 7 ∧ gzBn (gzNb 6 l 1) 5 = gzBn l 11 ∧ gzBn (gzNb 6 l 1) 6 = 0 ∧ gzBn (gzNb 6 l 1) 7 = 0 ∧ gzBn (gzNb 6 l 1) 8 = 0 ∧ gzBn (gzNb 6 l 1) 9 = 0 ∧ gzBn (gzNb 6 l 1) 10 = 0 ∧ gzBn (gzNb 6 l 1) 11 = 0 ∧ gzBn (gzNb 6 l 1) 12 = 0 ∧ gzBn (gzNb 6 l 1) 13 = 0 ∧ gzBn (gzNb 6 l 1) 14 = 0 := ⟨rfl, rfl, rfl, rfl, rfl, rfl, rfl, rfl, rfl, rfl, rfl, rfl, rfl, rfl, rfl⟩
  omega
theorem gz_nb62 {l : Nat → Bool} : gzQn (gzNb 6 l 2) 0 15 = gzBn l 1 + gzBn l 2 + gzBn l 5 + gzBn l 8 + gzBn l 12 := by
  rw [gzQn_15]
  have e : gzBn (gzNb 6 l 2) 0 = gzBn l 1 ∧ gzBn (gzNb 6 l 2) 1 = gzBn l 2 ∧ gzBn (gzNb 6 l 2) 2 = 0 ∧ gzBn (gzNb 6 l 2) 3 = gzBn l 5 ∧ gzBn (gzNb 6 l 2) 4 = gzBn l 8 ∧ gzBn (gzNb 6 l 2) 5 = gzBn l 12 ∧ gzBn (gzNb 6 l 2) 6 = 0 ∧ gzBn (gzNb 6 l 2) 7 = 0 ∧ gzBn (gzNb 6 l 2) 8 = 0 ∧ gzBn (gzNb 6 l 2) 9 = 0 ∧ gzBn (gzNb 6 l 2) 10 = 0 ∧ gzBn (gzNb 6 l 2) 11 = 0 ∧ gzBn (gzNb 6 l 2) 12 = 0 ∧ gzBn (gzNb 6 l 2) 13 = 0 ∧ gzBn (gzNb 6 l 2) 14 = 0 := ⟨rfl, rfl, rfl, rfl, rfl, rfl, rfl, rfl, rfl, rfl, rfl, rfl, rfl, rfl, rfl⟩
  omega
theorem gz_nb63 {l : Nat → Bool} : gzQn (gzNb 6 l 3) 0 15 = gzBn l 3 + gzBn l 4 + gzBn l 5 + gzBn l 9 + gzBn l 13 := by
  rw [gzQn_15]
  have e : gzBn (gzNb 6 l 3) 0 = gzBn l 3 ∧ gzBn (gzNb 6 l 3) 1 = gzBn l 4 ∧ gzBn (gzNb 6 l 3) 2 = gzBn l 5 ∧ gzBn (gzNb 6 l 3) 3 = 0 ∧ gzBn (gzNb 6 l 3) 4 = gzBn l 9 ∧ gzBn (gzNb 6 l 3) 5 = gzBn l 13 ∧ gzBn (gzNb 6 l 3) 6 = 0 ∧ gzBn (gzNb 6 l 3) 7 = 0 ∧ gzBn (gzNb 6 l 3) 8 = 0 ∧ gzBn (gzNb 6 l 3) 9 = 0 ∧ gzBn (gzNb 6 l 3) 10 = 0 ∧ gzBn (gzNb 6 l 3) 11 = 0 ∧ gzBn (gzNb 6 l 3) 12 = 0 ∧ gzBn (gzNb 6 l 3) 13 = 0 ∧ gzBn (gzNb 6 l 3) 14 = 0 := ⟨rfl, rfl, rfl, rfl, rfl, rfl, rfl, rfl, rfl, rfl, rfl, rfl, rfl, rfl, rfl⟩
  omega
theorem gz_nb64 {l : Nat → Bool} : gzQn (gzNb 6 l 4) 0 15 = gzBn l 6 + gzBn l 7 + gzBn l 8 + gzBn l 9 + gzBn l 14 := by
  rw [gzQn_15]
  have e : gzBn (gzNb 6 l 4) 0 = gzBn l 6 ∧ gzBn (gzNb 6 l 4) 1 = gzBn l 7 ∧ gzBn (gzNb 6 l 4) 2 = gzBn l 8 ∧ gzBn (gzNb 6 l 4) 3 = gzBn l 9 ∧ gzBn (gzNb 6 l 4) 4 = 0 ∧ gzBn (gzNb 6 l 4) 5 = gzBn l 14 ∧ gzBn (gzNb 6 l 4) 6 = 0 ∧ gzBn (gzNb 6 l 4) 7 = 0 ∧ gzBn (gzNb 6 l 4) 8 = 0 ∧ gzBn (gzNb 6 l 4) 9 = 0 ∧ gzBn (gzNb 6 l 4) 10 = 0 ∧ gzBn (gzNb 6 l 4) 11 = 0 ∧ gzBn (gzNb 6 l 4) 12 = 0 ∧ gzBn (gzNb 6 l 4) 13 = 0 ∧ gzBn (gzNb 6 l 4) 14 = 0 := ⟨rfl, rfl, rfl, rfl, rfl, rfl, rfl, rfl, rfl, rfl, rfl, rfl, rfl, rfl, rfl⟩
  omega
theorem gz_nb65 {l : Nat → Bool} : gzQn (gzNb 6 l 5) 0 15 = gzBn l 10 + gzBn l 11 + gzBn l 12 + gzBn l 13 + gzBn l 14 := by
  rw [gzQn_15]
  have e : gzBn (gzNb 6 l 5) 0 = gzBn l 10 ∧ gzBn (gzNb 6 l 5) 1 = gzBn l 11 ∧ gzBn (gzNb 6 l 5) 2 = gzBn l 12 ∧ gzBn (gzNb 6 l 5) 3 = gzBn l 13 ∧ gzBn (gzNb 6 l 5) 4 = gzBn l 14 ∧ gzBn (gzNb 6 l 5) 5 = 0 ∧ gzBn (gzNb 6 l 5) 6 = 0 ∧ gzBn (gzNb 6 l 5) 7 = 0 ∧ gzBn (gzNb 6 l 5) 8 = 0 ∧ gzBn (gzNb 6 l 5) 9 = 0 ∧ gzBn (gzNb 6 l 5) 10 = 0 ∧ gzBn (gzNb 6 l 5) 11 = 0 ∧ gzBn (gzNb 6 l 5) 12 = 0 ∧ gzBn (gzNb 6 l 5) 13 = 0 ∧ gzBn (gzNb 6 l 5) 14 = 0 := ⟨rfl, rfl, rfl, rfl, rfl, rfl, rfl, rfl, rfl, rfl, rfl, rfl, rfl, rfl, rfl⟩
  omega
theorem gz_pi6a : ∀ a, a < 6 → ∀ b, b < 6 → a ≠ b → gzPi a b < 15 ∧ gzPi a b = gzPi b a := by decide +kernel
theorem gz_pi6b : ∀ c, c < 36 → ∀ d, d < 36 → (c / 6 == c % 6 || d / 6 == d % 6 || !(gzPi (c / 6) (c % 6) == gzPi (d / 6) (d % 6)) || (c / 6 == d / 6 && c % 6 == d % 6) || (c / 6 == d % 6 && c % 6 == d / 6)) = true := by decide +kernel
theorem gz_pi6 (a : Nat) (ha : a < 6) (b : Nat) (hb : b < 6) (hab : a ≠ b) : gzPi a b < 15 ∧ gzPi a b = gzPi b a ∧ ∀ i, i < 6 → ∀ j, j < 6 → i ≠ j → gzPi a b = gzPi i j → (a = i ∧ b = j) ∨ (a = j ∧ b = i) := by
  refine ⟨(gz_pi6a a ha b hb hab).1, (gz_pi6a a ha b hb hab).2, fun i hi j hj hij e => ?_⟩
  have h6 := gz_pi6b (6 * a + b) (by omega) (6 * i + j) (by omega)
  rw [show (6 * i + j) / 6 = i by omega, show (6 * i + j) % 6 = j by omega, show (6 * a + b) / 6 = a by omega, show (6 * a + b) % 6 = b by omega] at h6
  simp only [Bool.or_eq_true, Bool.and_eq_true, beq_iff_eq, Bool.not_eq_true', beq_eq_false_iff_ne] at h6
  rcases h6 with (((q | q) | q) | q) | q
  · exact absurd q hab
  · exact absurd q hij
  · exact absurd e q
  · exact Or.inl q
  · exact Or.inr q
theorem gz_pit : ∀ n, n < 7 → ∀ a, a < n → ∀ b, b < n → a ≠ b → gzPi a b < n * (n - 1) / 2 := by decide +kernel
theorem gz_bt15 : ∀ p, p < 15 → ¬ gzbt p = 0 := by decide
theorem gzQn_congr {p q : Nat → Bool} : ∀ m i, (∀ j, i ≤ j → j < i + m → p j = q j) → gzQn p i m = gzQn q i m := by
  intro m
  induction m with
  | zero => intro i _; rfl
  | succ m ih =>
    intro i h
    show (if p i = true then 1 else 0) + gzQn p (i + 1) m = (if q i = true then 1 else 0) + gzQn q (i + 1) m
    rw [h i (by omega) (by omega), ih (i + 1) fun j a b => h j (by omega) (by omega)]
/-- how many bits a number of few bits has -/
theorem gz_bcn {y : Int32} (h : ∀ j, 15 ≤ j → j < 32 → gzB y j = false) : gzBc y = Int32.ofNat (gzQn (gzB y) 0 15) := by
  obtain ⟨x, hx⟩ : ∃ x, x = y.toBitVec.toNat := ⟨_, rfl⟩
  have hlt : x < 2 ^ 15 := by
    refine Nat.lt_pow_two_of_testBit x fun i hi => ?_
    by_cases h32 : i < 32
    · have := h i hi h32
      rw [hx]
      exact this
    · rw [hx]
      exact Nat.testBit_lt_two_pow (Nat.lt_of_lt_of_le y.toBitVec.isLt (Nat.pow_le_pow_right (by decide) (by omega)))
  have hy : y = Int32.ofNat x := by
    apply Int32.toBitVec_inj.mp
    apply BitVec.eq_of_toNat_eq
    show _ = (BitVec.ofNat 32 x).toNat
    rw [BitVec.toNat_ofNat, Nat.mod_eq_of_lt (by omega), hx]
  have hb : ∀ j, gzB y j = x.testBit j := fun j => by rw [hx]; rfl
  have e := gz_pop x (by omega)
  rw [← hy] at e
  rw [e]
  exact congrArg Int32.ofNat (gzQn_congr 15 0 fun j _ _ => (hb j).symm)
theorem gzb_inv {x : Int32} {j : Nat} (hj : j < 32) : gzB (x ^^^ (-1)) j = !gzB x j := by
  unfold gzB
  rw [Int32.toBitVec_xor, BitVec.getLsbD_xor]
  have : ∀ j, j < 32 → (-1 : Int32).toBitVec.getLsbD j = true := by decide
  rw [this j hj, Bool.xor_true]
section
variable {I I' I2 X : gzIT} {J : gzJT} {w : Nat → Int32} {nf ng nl nx t t1 φ : Nat}
/-- the pairs that have a grudge -/
def gzLkd (w : Nat → Int32) (ng : Nat) (act : Nat → Bool) : Int32 := gzFo (fun s g => if act g = true then s ||| gzbt (gzPi (tF w g) (tT w g)) else s) 0 ng 0
theorem gzLkd_b {act : Nat → Bool} (hb : gzVb w nf ng) (hf : nf ≤ 6) {p : Nat} (hp : p < 32) : gzB (gzLkd w ng act) p = gzAn (fun g => act g && (gzPi (tF w g) (tT w g) == p)) 0 ng := by
  have e : gzLkd w ng act = gzFo (fun s g => s ||| (if act g = true then gzbt (gzPi (tF w g) (tT w g)) else 0)) 0 ng 0 := by
    unfold gzLkd
    refine gzFo_congr _ _ _ fun s j _ _ => ?_
    by_cases q : act j = true
    · rw [if_pos q, if_pos q]
    · rw [if_neg q, if_neg q, gz_or0]
  rw [e, gzb_fo, gzb_zero, Bool.false_or]
  refine gzAn_congr fun g _ hg => ?_
  have q1 := hb.1 g (by omega)
  have q2 := hb.2.1 g (by omega)
  have q3 := hb.2.2.1 g (by omega)
  have q4 := (gz_pi6 (tF w g) (by omega) (tT w g) (by omega) q3).1
  by_cases q : act g = true
  · rw [if_pos q, gzb_bt (by omega) hp, q, Bool.true_and]
    apply Bool.eq_iff_iff.mpr
    simp only [decide_eq_true_eq, beq_iff_eq]
    omega
  · have q' : act g = false := by simpa using q
    rw [if_neg q, gzb_zero, q', Bool.false_and]
theorem S_near_b {act : Nat → Bool} (hb : gzVb w nf ng) (hf : nf ≤ 6) {i j : Nat} (hi : i < nf) (hj : j < 32) : gzB (S_near w ng act i) j = gzNb nf (gzB (gzLkd w ng act)) i j := by
  unfold S_near gzNb
  rw [gzb_fo, gzb_zero, Bool.false_or]
  apply Bool.eq_iff_iff.mpr
  rw [gzAn_iff, Bool.and_eq_true, decide_eq_true_eq]
  constructor
  · rintro ⟨g, h1, h2, h3⟩
    have q1 := hb.1 g (by omega)
    have q2 := hb.2.1 g (by omega)
    have q3 := hb.2.2.1 g (by omega)
    obtain ⟨q4, q5, -⟩ := gz_pi6 (tF w g) (by omega) (tT w g) (by omega) q3
    have hor : act g = true ∧ ((tF w g = i ∧ tT w g = j) ∨ (tT w g = i ∧ tF w g = j)) := by
      unfold gzNq at h3
      by_cases e1 : (act g && tF w g == i) = true
      · rw [if_pos e1, gzb_bt (by omega) hj] at h3
        have := of_decide_eq_true h3
        rw [Bool.and_eq_true, beq_iff_eq] at e1
        exact ⟨e1.1, Or.inl ⟨e1.2, this.symm⟩⟩
      · rw [if_neg e1] at h3
        by_cases e2 : (act g && tT w g == i) = true
        · rw [if_pos e2, gzb_bt (by omega) hj] at h3
          have := of_decide_eq_true h3
          rw [Bool.and_eq_true, beq_iff_eq] at e2
          exact ⟨e2.1, Or.inr ⟨e2.2, this.symm⟩⟩
        · rw [if_neg e2, gzb_zero] at h3
          cases h3
    obtain ⟨ha, hor⟩ := hor
    refine ⟨⟨hi, by omega, by omega⟩, ?_⟩
    have hp : gzPi (tF w g) (tT w g) = gzPi i j := by
      rcases hor with ⟨a, b⟩ | ⟨a, b⟩
      · rw [a, b]
      · rw [q5, a, b]
    rw [gzLkd_b hb hf (by rw [← hp]; omega)]
    exact gzAn_iff.mpr ⟨g, by omega, by omega, by rw [ha, hp]; simp⟩
  · rintro ⟨⟨-, hj2, hij⟩, h3⟩
    obtain ⟨q4, -, q6⟩ := gz_pi6 i (by omega) j (by omega) hij
    rw [gzLkd_b hb hf (by omega)] at h3
    obtain ⟨g, h1, h2, h3⟩ := gzAn_iff.mp h3
    rw [Bool.and_eq_true, beq_iff_eq] at h3
    have q1 := hb.1 g (by omega)
    have q2 := hb.2.1 g (by omega)
    have q3 := hb.2.2.1 g (by omega)
    refine ⟨g, h1, h2, ?_⟩
    unfold gzNq
    rcases q6 (tF w g) (by omega) (tT w g) (by omega) q3 h3.2.symm with ⟨a, b⟩ | ⟨a, b⟩
    · rw [if_pos (by rw [h3.1, ← a]; simp), gzb_bt (by omega) hj, ← b]
      simp
    · have e1 : ¬ (act g && tF w g == i) = true := by
        rw [h3.1, Bool.true_and, beq_iff_eq]
        omega
      rw [if_neg e1, if_pos (by rw [h3.1, ← a]; simp), gzb_bt (by omega) hj, ← b]
      simp
/-- friends and pairs that have a grudge -/
theorem gz_link {act : Nat → Bool} (hb : gzVb w nf ng) (hf : nf ≤ 6) : ∃ c, c ≤ nf * (nf - 1) / 2 ∧ gzBc (gzLkd w ng act) = Int32.ofNat c ∧ gzFo (fun s i => s + gzBc (S_near w ng act i)) 0 nf 0 = Int32.ofNat (2 * c) := by
  obtain ⟨l, hl⟩ : ∃ l, l = gzB (gzLkd w ng act) := ⟨_, rfl⟩
  have hlT : ∀ p, nf * (nf - 1) / 2 ≤ p → p < 32 → l p = false := fun p h1 h2 => by
    rw [hl, gzLkd_b hb hf h2]
    cases hh : gzAn (fun g => act g && (gzPi (tF w g) (tT w g) == p)) 0 ng
    · rfl
    · obtain ⟨g, a1, a2, a3⟩ := gzAn_iff.mp hh
      rw [Bool.and_eq_true, beq_iff_eq] at a3
      have := gz_pit nf (by omega) (tF w g) (hb.1 g (by omega)) (tT w g) (hb.2.1 g (by omega)) (hb.2.2.1 g (by omega))
      omega
  have hL : gzBc (gzLkd w ng act) = Int32.ofNat (gzQn l 0 15) := by
    rw [hl]
    refine gz_bcn fun j h1 h2 => ?_
    rw [← hl]
    refine hlT j ?_ h2
    rcases (show nf = 0 ∨ nf = 1 ∨ nf = 2 ∨ nf = 3 ∨ nf = 4 ∨ nf = 5 ∨ nf = 6 by omega) with rfl | rfl | rfl | rfl | rfl | rfl | rfl <;> omega
  have hN : ∀ i, i < nf → gzBc (S_near w ng act i) = Int32.ofNat (gzQn (gzNb nf l i) 0 15) := fun i hi => by
    rw [gz_bcn fun j h1 h2 => ?_]
    · refine congrArg Int32.ofNat (gzQn_congr 15 0 fun j _ h2 => ?_)
      rw [S_near_b hb hf hi (by omega), hl]
    · rw [S_near_b hb hf hi h2]
      unfold gzNb
      rw [decide_eq_false (by omega), Bool.false_and]
  refine ⟨gzQn l 0 15, ?_, hL, ?_⟩
  all_goals rcases (show nf = 0 ∨ nf = 1 ∨ nf = 2 ∨ nf = 3 ∨ nf = 4 ∨ nf = 5 ∨ nf = 6 by omega) with rfl | rfl | rfl | rfl | rfl | rfl | rfl
  · rw [gzQn_15]
    have z0 := gzBn_f (hlT 0 (by decide) (by decide))
    have z1 := gzBn_f (hlT 1 (by decide) (by decide))
    have z2 := gzBn_f (hlT 2 (by decide) (by decide))
    have z3 := gzBn_f (hlT 3 (by decide) (by decide))
    have z4 := gzBn_f (hlT 4 (by decide) (by decide))
    have z5 := gzBn_f (hlT 5 (by decide) (by decide))
    have z6 := gzBn_f (hlT 6 (by decide) (by decide))
    have z7 := gzBn_f (hlT 7 (by decide) (by decide))
    have z8 := gzBn_f (hlT 8 (by decide) (by decide))
    have z9 := gzBn_f (hlT 9 (by decide) (by decide))
    have z10 := gzBn_f (hlT 10 (by decide) (by decide))
    have z11 := gzBn_f (hlT 11 (by decide) (by decide))
    have z12 := gzBn_f (hlT 12 (by decide) (by decide))
    have z13 := gzBn_f (hlT 13 (by decide) (by decide))
    have z14 := gzBn_f (hlT 14 (by decide) (by decide))
    show _ ≤ 0
    omega
  · rw [gzQn_15]
    have z0 := gzBn_f (hlT 0 (by decide) (by decide))
    have z1 := gzBn_f (hlT 1 (by decide) (by decide))
    have z2 := gzBn_f (hlT 2 (by decide) (by decide))
    have z3 := gzBn_f (hlT 3 (by decide) (by decide))
    have z4 := gzBn_f (hlT 4 (by decide) (by decide))
    have z5 := gzBn_f (hlT 5 (by decide) (by decide))
    have z6 := gzBn_f (hlT 6 (by decide) (by decide))
    have z7 := gzBn_f (hlT 7 (by decide) (by decide))
    have z8 := gzBn_f (hlT 8 (by decide) (by decide))
    have z9 := gzBn_f (hlT 9 (by decide) (by decide))
    have z10 := gzBn_f (hlT 10 (by decide) (by decide))
    have z11 := gzBn_f (hlT 11 (by decide) (by decide))
    have z12 := gzBn_f (hlT 12 (by decide) (by decide))
    have z13 := gzBn_f (hlT 13 (by decide) (by decide))
    have z14 := gzBn_f (hlT 14 (by decide) (by decide))
    show _ ≤ 0
    omega
  · rw [gzQn_15]
    have z0 := gzBn_1 (l := l) (p := 0)
    have z1 := gzBn_f (hlT 1 (by decide) (by decide))
    have z2 := gzBn_f (hlT 2 (by decide) (by decide))
    have z3 := gzBn_f (hlT 3 (by decide) (by decide))
    have z4 := gzBn_f (hlT 4 (by decide) (by decide))
    have z5 := gzBn_f (hlT 5 (by decide) (by decide))
    have z6 := gzBn_f (hlT 6 (by decide) (by decide))
    have z7 := gzBn_f (hlT 7 (by decide) (by decide))
    have z8 := gzBn_f (hlT 8 (by decide) (by decide))
    have z9 := gzBn_f (hlT 9 (by decide) (by decide))
    have z10 := gzBn_f (hlT 10 (by decide) (by decide))
    have z11 := gzBn_f (hlT 11 (by decide) (by decide))
    have z12 := gzBn_f (hlT 12 (by decide) (by decide))
    have z13 := gzBn_f (hlT 13 (by decide) (by decide))
    have z14 := gzBn_f (hlT 14 (by decide) (by decide))
    show _ ≤ 1
    omega
  · rw [gzQn_15]
    have z0 := gzBn_1 (l := l) (p := 0)
    have z1 := gzBn_1 (l := l) (p := 1)
    have z2 := gzBn_1 (l := l) (p := 2)
    have z3 := gzBn_f (hlT 3 (by decide) (by decide))
    have z4 := gzBn_f (hlT 4 (by decide) (by decide))
    have z5 := gzBn_f (hlT 5 (by decide) (by decide))
    have z6 := gzBn_f (hlT 6 (by decide) (by decide))
    have z7 := gzBn_f (hlT 7 (by decide) (by decide))
    have z8 := gzBn_f (hlT 8 (by decide) (by decide))
    have z9 := gzBn_f (hlT 9 (by decide) (by decide))
    have z10 := gzBn_f (hlT 10 (by decide) (by decide))
    have z11 := gzBn_f (hlT 11 (by decide) (by decide))
    have z12 := gzBn_f (hlT 12 (by decide) (by decide))
    have z13 := gzBn_f (hlT 13 (by decide) (by decide))
    have z14 := gzBn_f (hlT 14 (by decide) (by decide))
    show _ ≤ 3
    omega
  · rw [gzQn_15]
    have z0 := gzBn_1 (l := l) (p := 0)
    have z1 := gzBn_1 (l := l) (p := 1)
    have z2 := gzBn_1 (l := l) (p := 2)
    have z3 := gzBn_1 (l := l) (p := 3)
    have z4 := gzBn_1 (l := l) (p := 4)
    have z5 := gzBn_1 (l := l) (p := 5)
    have z6 := gzBn_f (hlT 6 (by decide) (by decide))
    have z7 := gzBn_f (hlT 7 (by decide) (by decide))
    have z8 := gzBn_f (hlT 8 (by decide) (by decide))
    have z9 := gzBn_f (hlT 9 (by decide) (by decide))
    have z10 := gzBn_f (hlT 10 (by decide) (by decide))
    have z11 := gzBn_f (hlT 11 (by decide) (by decide))
    have z12 := gzBn_f (hlT 12 (by decide) (by decide))
    have z13 := gzBn_f (hlT 13 (by decide) (by decide))
    have z14 := gzBn_f (hlT 14 (by decide) (by decide))
    show _ ≤ 6
    omega
  · rw [gzQn_15]
    have z0 := gzBn_1 (l := l) (p := 0)
    have z1 := gzBn_1 (l := l) (p := 1)
    have z2 := gzBn_1 (l := l) (p := 2)
    have z3 := gzBn_1 (l := l) (p := 3)
    have z4 := gzBn_1 (l := l) (p := 4)
    have z5 := gzBn_1 (l := l) (p := 5)
    have z6 := gzBn_1 (l := l) (p := 6)
    have z7 := gzBn_1 (l := l) (p := 7)
    have z8 := gzBn_1 (l := l) (p := 8)
    have z9 := gzBn_1 (l := l) (p := 9)
    have z10 := gzBn_f (hlT 10 (by decide) (by decide))
    have z11 := gzBn_f (hlT 11 (by decide) (by decide))
    have z12 := gzBn_f (hlT 12 (by decide) (by decide))
    have z13 := gzBn_f (hlT 13 (by decide) (by decide))
    have z14 := gzBn_f (hlT 14 (by decide) (by decide))
    show _ ≤ 10
    omega
  · rw [gzQn_15]
    have z0 := gzBn_1 (l := l) (p := 0)
    have z1 := gzBn_1 (l := l) (p := 1)
    have z2 := gzBn_1 (l := l) (p := 2)
    have z3 := gzBn_1 (l := l) (p := 3)
    have z4 := gzBn_1 (l := l) (p := 4)
    have z5 := gzBn_1 (l := l) (p := 5)
    have z6 := gzBn_1 (l := l) (p := 6)
    have z7 := gzBn_1 (l := l) (p := 7)
    have z8 := gzBn_1 (l := l) (p := 8)
    have z9 := gzBn_1 (l := l) (p := 9)
    have z10 := gzBn_1 (l := l) (p := 10)
    have z11 := gzBn_1 (l := l) (p := 11)
    have z12 := gzBn_1 (l := l) (p := 12)
    have z13 := gzBn_1 (l := l) (p := 13)
    have z14 := gzBn_1 (l := l) (p := 14)
    show _ ≤ 15
    omega
  · rw [gzQn_15]
    have z0 := gzBn_f (hlT 0 (by decide) (by decide))
    have z1 := gzBn_f (hlT 1 (by decide) (by decide))
    have z2 := gzBn_f (hlT 2 (by decide) (by decide))
    have z3 := gzBn_f (hlT 3 (by decide) (by decide))
    have z4 := gzBn_f (hlT 4 (by decide) (by decide))
    have z5 := gzBn_f (hlT 5 (by decide) (by decide))
    have z6 := gzBn_f (hlT 6 (by decide) (by decide))
    have z7 := gzBn_f (hlT 7 (by decide) (by decide))
    have z8 := gzBn_f (hlT 8 (by decide) (by decide))
    have z9 := gzBn_f (hlT 9 (by decide) (by decide))
    have z10 := gzBn_f (hlT 10 (by decide) (by decide))
    have z11 := gzBn_f (hlT 11 (by decide) (by decide))
    have z12 := gzBn_f (hlT 12 (by decide) (by decide))
    have z13 := gzBn_f (hlT 13 (by decide) (by decide))
    have z14 := gzBn_f (hlT 14 (by decide) (by decide))
    show (0 : Int32) = _
    rw [z0, z1, z2, z3, z4, z5, z6, z7, z8, z9, z10, z11, z12, z13, z14]
    rfl
  · show (0 + gzBc (S_near w ng act 0)) = _
    rw [hN 0 (by decide), Int32.zero_add]
    refine congrArg Int32.ofNat ?_
    rw [gz_nb10, gzQn_15]
    have z0 := gzBn_f (hlT 0 (by decide) (by decide))
    have z1 := gzBn_f (hlT 1 (by decide) (by decide))
    have z2 := gzBn_f (hlT 2 (by decide) (by decide))
    have z3 := gzBn_f (hlT 3 (by decide) (by decide))
    have z4 := gzBn_f (hlT 4 (by decide) (by decide))
    have z5 := gzBn_f (hlT 5 (by decide) (by decide))
    have z6 := gzBn_f (hlT 6 (by decide) (by decide))
    have z7 := gzBn_f (hlT 7 (by decide) (by decide))
    have z8 := gzBn_f (hlT 8 (by decide) (by decide))
    have z9 := gzBn_f (hlT 9 (by decide) (by decide))
    have z10 := gzBn_f (hlT 10 (by decide) (by decide))
    have z11 := gzBn_f (hlT 11 (by decide) (by decide))
    have z12 := gzBn_f (hlT 12 (by decide) (by decide))
    have z13 := gzBn_f (hlT 13 (by decide) (by decide))
    have z14 := gzBn_f (hlT 14 (by decide) (by decide))
    omega
  · show ((0 + gzBc (S_near w ng act 0)) + gzBc (S_near w ng act 1)) = _
    rw [hN 0 (by decide), hN 1 (by decide), Int32.zero_add, gzc_adds]
    refine congrArg Int32.ofNat ?_
    rw [gz_nb20, gz_nb21, gzQn_15]
    have z1 := gzBn_f (hlT 1 (by decide) (by decide))
    have z2 := gzBn_f (hlT 2 (by decide) (by decide))
    have z3 := gzBn_f (hlT 3 (by decide) (by decide))
    have z4 := gzBn_f (hlT 4 (by decide) (by decide))
    have z5 := gzBn_f (hlT 5 (by decide) (by decide))
    have z6 := gzBn_f (hlT 6 (by decide) (by decide))
    have z7 := gzBn_f (hlT 7 (by decide) (by decide))
    have z8 := gzBn_f (hlT 8 (by decide) (by decide))
    have z9 := gzBn_f (hlT 9 (by decide) (by decide))
    have z10 := gzBn_f (hlT 10 (by decide) (by decide))
    have z11 := gzBn_f (hlT 11 (by decide) (by decide))
    have z12 := gzBn_f (hlT 12 (by decide) (by decide))
    have z13 := gzBn_f (hlT 13 (by decide) (by decide))
    have z14 := gzBn_f (hlT 14 (by decide) (by decide))
    omega
  · show (((0 + gzBc (S_near w ng act 0)) + gzBc (S_near w ng act 1)) + gzBc (S_near w ng act 2)) = _
    rw [hN 0 (by decide), hN 1 (by decide), hN 2 (by decide), Int32.zero_add, gzc_adds, gzc_adds]
    refine congrArg Int32.ofNat ?_
    rw [gz_nb30, gz_nb31, gz_nb32, gzQn_15]
    have z3 := gzBn_f (hlT 3 (by decide) (by decide))
    have z4 := gzBn_f (hlT 4 (by decide) (by decide))
    have z5 := gzBn_f (hlT 5 (by decide) (by decide))
    have z6 := gzBn_f (hlT 6 (by decide) (by decide))
    have z7 := gzBn_f (hlT 7 (by decide) (by decide))
    have z8 := gzBn_f (hlT 8 (by decide) (by decide))
    have z9 := gzBn_f (hlT 9 (by decide) (by decide))
    have z10 := gzBn_f (hlT 10 (by decide) (by decide))
    have z11 := gzBn_f (hlT 11 (by decide) (by decide))
    have z12 := gzBn_f (hlT 12 (by decide) (by decide))
    have z13 := gzBn_f (hlT 13 (by decide) (by decide))
    have z14 := gzBn_f (hlT 14 (by decide) (by decide))
    omega
  · show ((((0 + gzBc (S_near w ng act 0)) + gzBc (S_near w ng act 1)) + gzBc (S_near w ng act 2)) + gzBc (S_near w ng act 3)) = _
    rw [hN 0 (by decide), hN 1 (by decide), hN 2 (by decide), hN 3 (by decide), Int32.zero_add, gzc_adds, gzc_adds, gzc_adds]
    refine congrArg Int32.ofNat ?_
    rw [gz_nb40, gz_nb41, gz_nb42, gz_nb43, gzQn_15]
    have z6 := gzBn_f (hlT 6 (by decide) (by decide))
    have z7 := gzBn_f (hlT 7 (by decide) (by decide))
    have z8 := gzBn_f (hlT 8 (by decide) (by decide))
    have z9 := gzBn_f (hlT 9 (by decide) (by decide))
    have z10 := gzBn_f (hlT 10 (by decide) (by decide))
    have z11 := gzBn_f (hlT 11 (by decide) (by decide))
    have z12 := gzBn_f (hlT 12 (by decide) (by decide))
    have z13 := gzBn_f (hlT 13 (by decide) (by decide))
    have z14 := gzBn_f (hlT 14 (by decide) (by decide))
    omega
  · show (((((0 + gzBc (S_near w ng act 0)) + gzBc (S_near w ng act 1)) + gzBc (S_near w ng act 2)) + gzBc (S_near w ng act 3)) + gzBc (S_near w ng act 4)) = _
    rw [hN 0 (by decide), hN 1 (by decide), hN 2 (by decide), hN 3 (by decide), hN 4 (by decide), Int32.zero_add, gzc_adds, gzc_adds, gzc_adds, gzc_adds]
    refine congrArg Int32.ofNat ?_
    rw [gz_nb50, gz_nb51, gz_nb52, gz_nb53, gz_nb54, gzQn_15]
    have z10 := gzBn_f (hlT 10 (by decide) (by decide))
    have z11 := gzBn_f (hlT 11 (by decide) (by decide))
    have z12 := gzBn_f (hlT 12 (by decide) (by decide))
    have z13 := gzBn_f (hlT 13 (by decide) (by decide))
    have z14 := gzBn_f (hlT 14 (by decide) (by decide))
    omega
  · show ((((((0 + gzBc (S_near w ng act 0)) + gzBc (S_near w ng act 1)) + gzBc (S_near w ng act 2)) + gzBc (S_near w ng act 3)) + gzBc (S_near w ng act 4)) + gzBc (S_near w ng act 5)) = _
    rw [hN 0 (by decide), hN 1 (by decide), hN 2 (by decide), hN 3 (by decide), hN 4 (by decide), hN 5 (by decide), Int32.zero_add, gzc_adds, gzc_adds, gzc_adds, gzc_adds, gzc_adds]
    refine congrArg Int32.ofNat ?_
    rw [gz_nb60, gz_nb61, gz_nb62, gz_nb63, gz_nb64, gz_nb65, gzQn_15]
    omega
end
