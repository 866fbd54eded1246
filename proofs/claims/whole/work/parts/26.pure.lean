/-! the class: rows that a program's bounds need -/
theorem eor_eq (fr first last : Int32) (M : xM) : f_X7_endOfRun fr first last M = scn (fun p => f_X7_isAmong p first last M) (M 5 0 2) (xmu fr (M 5 0 2) + 1) fr := by
  have key : ∀ (n : Nat) (p : Int32) (kx : Int32 → Int32), xmu p (M 5 0 2) < n → f_X7_endOfRun_L3 fr first last M n p kx = kx (scn (fun p => f_X7_isAmong p first last M) (M 5 0 2) n p) := by
    intro n
    induction n with
    | zero => intro p kx h; exact absurd h (Nat.not_lt_zero _)
    | succ n ih =>
      intro p kx h
      rw [f_X7_endOfRun_L3, scn]
      simp only [xlet, xb_0]
      by_cases c : M 5 0 2 ≤ p
      · rw [if_pos c, if_neg (fun q => by have := q.1; grind)]
      · rw [if_neg c]
        have c1 : p < M 5 0 2 := by grind
        cases e : f_X7_isAmong p first last M with
        | false => rw [if_pos rfl, if_neg (fun q => by cases q.2)]
        | true =>
          rw [if_neg (by decide), if_pos ⟨c1, rfl⟩]
          exact ih _ kx (by have := xmu_up c1; omega)
  unfold f_X7_endOfRun
  rw [key _ _ _ (Nat.lt_succ_self _)]
theorem eor_le {fr first last : Int32} {M : xM} (h : fr ≤ M 5 0 2) : f_X7_endOfRun fr first last M ≤ M 5 0 2 := by
  rw [eor_eq]; exact scn_le _ _ _ _ h
def xHB (nb : Nat) (M : xM) : Prop := nb ≤ 8 ∧ M 0 0 12 = nI nb ∧ ∀ j : Nat, j < nb → M 3 0 j ≠ 0
def xHN (nn : Nat) (M : xM) : Prop := nn ≤ 24 ∧ M 0 0 13 = nI nn ∧ ∀ j : Nat, j < nn → M 7 0 j ≠ 0
def xHS (M : xM) : Prop := ∀ j : Nat, j < 8 → M 1 0 j ≠ 0
def xHT (M : xM) : Prop := ∀ j : Nat, j < 8 → M 8 0 j ≠ 0
theorem tnc8 {x : Int32} (h1 : 0 ≤ x) (h2 : x ≤ 7) : x.toNatClampNeg < 8 := tnc_lt (z := 8) h1 (by grind)
theorem tnc_n {x : Int32} {k : Nat} (hk : k ≤ 1000) (h1 : 0 ≤ x) (h2 : x < nI k) : x.toNatClampNeg < k := by
  have := tnc_lt h1 h2
  rwa [nI_clamp (by omega)] at this
theorem nI_b {k : Nat} (hk : k ≤ 1000) : 0 ≤ nI k ∧ nI k ≤ 1000 := ⟨nI_pos' (by omega), nI_le (b := 1000) hk (by decide)⟩
theorem xHB_in {nb : Nat} {M : xM} {x : Int32} (h : xHB nb M) (h1 : 0 ≤ x) (h2 : x ≤ M 0 0 12 - 1) : x.toNatClampNeg < nb ∧ M 3 0 x.toNatClampNeg ≠ 0 := by
  obtain ⟨a, b, d⟩ := h
  have e := nI_b (k := nb) (by omega)
  have : x.toNatClampNeg < nb := tnc_n (by omega) h1 (by rw [b] at h2; grind)
  exact ⟨this, d _ this⟩
theorem xHN_in {nn : Nat} {M : xM} {x : Int32} (h : xHN nn M) (h1 : 0 ≤ x) (h2 : x ≤ M 0 0 13 - 1) : x.toNatClampNeg < nn ∧ M 7 0 x.toNatClampNeg ≠ 0 := by
  obtain ⟨a, b, d⟩ := h
  have e := nI_b (k := nn) (by omega)
  have : x.toNatClampNeg < nn := tnc_n (by omega) h1 (by rw [b] at h2; grind)
  exact ⟨this, d _ this⟩
theorem xHB_o {nb κ i j : Nat} {M : xM} {v : Int32} (h1 : κ ≠ 0) (h2 : κ ≠ 3) (h : xHB nb M) : xHB nb (xup M κ i j v) := by
  unfold xHB at *; simp only [xup_k (Ne.symm h1), xup_k (Ne.symm h2)]; exact h
theorem xHN_o {nn κ i j : Nat} {M : xM} {v : Int32} (h1 : κ ≠ 0) (h2 : κ ≠ 7) (h : xHN nn M) : xHN nn (xup M κ i j v) := by
  unfold xHN at *; simp only [xup_k (Ne.symm h1), xup_k (Ne.symm h2)]; exact h
