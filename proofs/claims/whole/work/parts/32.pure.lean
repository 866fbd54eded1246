theorem hasPl_eq {i0 : Nat} {i z : Int32} {M : xM} (h1 : 0 ≤ M 24 i0 2) (h2 : M 24 i0 2 ≤ 60) : f_X6_hasPlaces i0 i z M = decide (0 ≤ i ∧ 0 ≤ z ∧ i ≤ 60 ∧ z ≤ 60 ∧ i + z ≤ M 24 i0 2) := by
  rcases hh : f_X6_hasPlaces i0 i z M with _ | _
  · symm
    rw [decide_eq_false_iff_not]
    intro q
    unfold f_X6_hasPlaces at hh
    generalize M 24 i0 2 = m at *
    have c3 : m - i < z := by grind
    have a1 := Int32.le_iff_toInt_le.mp h1; have a2 := Int32.le_iff_toInt_le.mp h2; have a3 := Int32.le_iff_toInt_le.mp q.1; have a4 := Int32.le_iff_toInt_le.mp q.2.1
    have a5 := Int32.le_iff_toInt_le.mp q.2.2.1; have a6 := Int32.le_iff_toInt_le.mp q.2.2.2.1; have a7 := Int32.le_iff_toInt_le.mp q.2.2.2.2
    have a8 := Int32.lt_iff_toInt_lt.mp c3
    simp at a1 a2 a3 a4 a5 a6
    rw [Int32.toInt_sub, Int.bmod_eq_of_le (by omega) (by omega)] at a8
    rw [Int32.toInt_add, Int.bmod_eq_of_le (by omega) (by omega)] at a7
    omega
  · symm
    rw [decide_eq_true_iff]
    have k := hasPl h1 h2 hh
    exact ⟨k.1, k.2.1, by grind, by grind, k.2.2.2.2⟩
theorem tncs {i z : Int32} (h1 : 0 ≤ i) (h2 : 0 ≤ z) (h3 : i ≤ 60) (h4 : z ≤ 60) (h5 : i + z ≤ 60) : i.toNatClampNeg + z.toNatClampNeg ≤ 60 := by
  rw [tnc_add h1 h2 (by grind) (by grind)]
  exact tnc_le (N := 60) (by omega) h5
theorem tncr {town : Int32} (h1 : 0 ≤ town) (h2 : town ≤ 5) : (town * 8).toNatClampNeg + (8 : Int32).toNatClampNeg ≤ 48 := by
  obtain ⟨a, rfl, ha⟩ := i32_nat_lt (x := town) (N := 6) (B := 6) h1 (by grind) (by decide)
  have : ∀ k : Fin 6, (nI k * 8).toNatClampNeg + (8 : Int32).toNatClampNeg ≤ 48 := by decide
  exact this ⟨a, ha⟩
/-- each of the z places from i on of a sheet holds a note's number -/
def difs (M : xM) (sq : Nat) (i z : Int32) : Prop := ∀ j : Int32, 0 ≤ j → j < z → f_X10_noteOf (M 25 sq (i + j).toNatClampNeg) M ≠ none
