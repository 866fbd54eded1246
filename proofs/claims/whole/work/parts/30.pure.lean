theorem sheetOf_s {q : Int32} {M : xM} {i : Nat} (h : f_X10_sheetOf q M = some i) : i < 8 ∧ 0 ≤ q ∧ q ≤ 7 ∧ i = q.toNatClampNeg := by
  unfold f_X10_sheetOf at h
  simp only [xlet, isUpTo_eq, xb_0, decide_eq_false_iff_not] at h
  split at h
  · cases h
  · rename_i c
    have c : 0 ≤ q ∧ q ≤ 7 := Decidable.byContradiction c
    cases h
    exact ⟨tnc8 c.1 c.2, c.1, c.2, rfl⟩
theorem traderOf_s {q : Int32} {M : xM} {i : Nat} (h : f_X10_traderOf q M = some i) : i < 8 ∧ 0 ≤ q ∧ q ≤ 7 ∧ i = q.toNatClampNeg := by
  unfold f_X10_traderOf at h
  simp only [xlet, isUpTo_eq, xb_0, decide_eq_false_iff_not] at h
  split at h
  · cases h
  · rename_i c
    have c : 0 ≤ q ∧ q ≤ 7 := Decidable.byContradiction c
    cases h
    exact ⟨tnc8 c.1 c.2, c.1, c.2, rfl⟩
theorem bankOf_s {q : Int32} {M : xM} {i nb : Nat} (hB : xHB nb M) (h : f_X10_bankOf q M = some i) : i < nb ∧ 0 ≤ q ∧ q < 8 ∧ q < M 0 0 12 ∧ i = q.toNatClampNeg := by
  unfold f_X10_bankOf at h
  simp only [xlet, isUpTo_eq, xb_0, decide_eq_false_iff_not] at h
  split at h
  · cases h
  · rename_i c
    have c : 0 ≤ q ∧ q ≤ M 0 0 12 - 1 := Decidable.byContradiction c
    split at h
    · cases h
    · cases h
      have e := nI_b (k := nb) (by have := hB.1; omega)
      have e2 := hB.2.1
      exact ⟨(xHB_in hB c.1 c.2).1, c.1, by grind, by grind, rfl⟩
theorem noteOf_s {q : Int32} {M : xM} {i nn : Nat} (hB : xHN nn M) (h : f_X10_noteOf q M = some i) : i < nn ∧ 0 ≤ q ∧ q < 24 ∧ q < M 0 0 13 ∧ i = q.toNatClampNeg := by
  unfold f_X10_noteOf at h
  simp only [xlet, isUpTo_eq, xb_0, decide_eq_false_iff_not] at h
  split at h
  · cases h
  · rename_i c
    have c : 0 ≤ q ∧ q ≤ M 0 0 13 - 1 := Decidable.byContradiction c
    split at h
    · cases h
    · cases h
      have e := nI_b (k := nn) (by have := hB.1; omega)
      have e2 := hB.2.1
      exact ⟨(xHN_in hB c.1 c.2).1, c.1, by grind, by grind, rfl⟩
theorem hasPl {i0 : Nat} {i z : Int32} {M : xM} (h1 : 0 ≤ M 24 i0 2) (h2 : M 24 i0 2 ≤ 60) (h : f_X6_hasPlaces i0 i z M = true) : 0 ≤ i ∧ 0 ≤ z ∧ i ≤ M 24 i0 2 ∧ z ≤ M 24 i0 2 ∧ i + z ≤ M 24 i0 2 := by
  unfold f_X6_hasPlaces at h
  generalize M 24 i0 2 = m at *
  have c1 : 0 ≤ i := by grind
  have c2 : 0 ≤ z := by grind
  have c3 : ¬ m - i < z := by grind
  have a1 := Int32.le_iff_toInt_le.mp h1; have a2 := Int32.le_iff_toInt_le.mp h2; have a3 := Int32.le_iff_toInt_le.mp c1; have a4 := Int32.le_iff_toInt_le.mp c2
  have b1 := i.toInt_lt; have b2 := z.toInt_lt
  simp at a1 a2 a3 a4
  have e1 : (m - i).toInt = m.toInt - i.toInt := by
    rw [Int32.toInt_sub, Int.bmod_eq_of_le (by omega) (by omega)]
  have c4 : z.toInt ≤ (m - i).toInt := by
    apply Decidable.byContradiction
    intro q
    exact c3 (Int32.lt_iff_toInt_lt.mpr (by omega))
  have e2 : (i + z).toInt = i.toInt + z.toInt := by
    rw [Int32.toInt_add, Int.bmod_eq_of_le (by omega) (by omega)]
  exact ⟨c1, c2, Int32.le_iff_toInt_le.mpr (by omega), Int32.le_iff_toInt_le.mpr (by omega), Int32.le_iff_toInt_le.mpr (by omega)⟩
theorem tnc_add {i z : Int32} (h1 : 0 ≤ i) (h2 : 0 ≤ z) (h3 : i ≤ 1000) (h4 : z ≤ 1000) : i.toNatClampNeg + z.toNatClampNeg = (i + z).toNatClampNeg := by
  obtain ⟨a, rfl, ha⟩ := i32_nat_lt (x := i) (N := 1001) (B := 1001) h1 (by grind) (by decide)
  obtain ⟨b, rfl, hb⟩ := i32_nat_lt (x := z) (N := 1001) (B := 1001) h2 (by grind) (by decide)
  rw [nI_add, nI_clamp (by omega), nI_clamp (by omega), nI_clamp (by omega)]
theorem tnc_le {i : Int32} {N : Nat} (hN : N ≤ 100000) (h1 : i ≤ nI N) : i.toNatClampNeg ≤ N := by
  have := Int32.le_iff_toInt_le.mp h1
  rw [nI_toInt (by omega)] at this
  show i.toInt.toNat ≤ N
  omega
