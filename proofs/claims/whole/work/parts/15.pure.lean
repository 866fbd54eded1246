/-! what only the miles' row is touched by -/
theorem said_L15_2 (town w b what till : Int32) (N : xM) : ∀ (n : Nat) (best k : Int32) (kx : Int32 → Int32 → Int32 × xM), (∀ x y, (kx x y).2 = N) → (f_X11_saidOf_L15 town w b what till N n best k kx).2 = N := by
  intro n
  induction n with
  | zero => intro best k kx _; rfl
  | succ n ih =>
    intro best k kx h
    rw [f_X11_saidOf_L15]
    simp only [xlet]
    repeat' split
    all_goals first | exact h _ _ | exact ih _ _ _ h
theorem said2 {town w b what : Int32} {M : xM} {x y z : Nat} (h : ¬ x = 56) : (f_X11_saidOf town w b what M).2 x y z = M x y z := by
  unfold f_X11_saidOf
  simp only [xlet2]
  rw [said_L15_2 _ _ _ _ _ _ _ _ _ _ (fun a b => by split <;> rfl)]
  exact bw2 h
theorem fals_L14_2 (town w b note till : Int32) (N : xM) : ∀ (n : Nat) (z k : Int32) (kx : Int32 → Int32 → Int32 × xM), (∀ x y, (kx x y).2 = N) → (f_X11_falsePlates_L14 town w b note till N n z k kx).2 = N := by
  intro n
  induction n with
  | zero => intro z k kx _; rfl
  | succ n ih =>
    intro z k kx h
    rw [f_X11_falsePlates_L14]
    simp only [xlet]
    repeat' split
    all_goals first | exact h _ _ | exact ih _ _ _ h
theorem fals2 {town w b note : Int32} {M : xM} {x y z : Nat} (h : ¬ x = 56) : (f_X11_falsePlates town w b note M).2 x y z = M x y z := by
  unfold f_X11_falsePlates
  simp only [xlet2]
  rw [fals_L14_2 _ _ _ _ _ _ _ _ _ _ (fun a b => by rfl)]
  exact bw2 h
theorem look_ok {sh i z : Int32} {M : xM} (hz : 0 ≤ z) (hM : ∀ j : Nat, 0 ≤ M 53 0 j ∧ M 53 0 j ≤ 60) (h : ¬ (f_X11_lookItems sh i z M).1 < 0) : 0 ≤ i ∧ i ≤ 60 ∧ z ≤ 60 ∧ i + z ≤ M 53 0 sh.toNatClampNeg ∧ 0 ≤ M 52 0 sh.toNatClampNeg ∧ (f_X11_lookItems sh i z M) = (0, M) := by
  have h1 := hM sh.toNatClampNeg
  revert h
  unfold f_X11_lookItems
  have hf : ∀ k : Int32, 0 ≤ k → k ≤ 5 → (xlet2 (f_X11_finding k M) fun r M' => (r, M')).1 < 0 := by
    intro k h1 h2
    simp only [xlet2, f_X11_finding, xlet]
    grind
  split
  · split
    · intro h; exact absurd (hf 2 (by decide) (by decide)) h
    · split
      · rename_i c1 c2 c3
        intro _
        have h2 := @ladd_gt i z (M 53 0 sh.toNatClampNeg) (by grind) hz h1.1 h1.2 (by grind)
        exact ⟨by grind, h2.1, h2.2.1, h2.2.2, by assumption, rfl⟩
      · intro h; exact absurd (hf 2 (by decide) (by decide)) h
  · intro h; exact absurd (hf 1 (by decide) (by decide)) h
theorem and256 {x y : Int32} (h1 : 0 ≤ x) (h2 : x < 256) : 0 ≤ x &&& y ∧ (x &&& y) < 256 := by
  obtain ⟨a, rfl, ha⟩ := i32_nat_lt (N := 256) h1 h2 (by decide)
  have e : nI a &&& y = nI (a &&& y.toBitVec.toNat) := by
    have : y = nI y.toBitVec.toNat := by
      apply Int32.toBitVec_inj.1
      show y.toBitVec = BitVec.ofNat 32 y.toBitVec.toNat
      simp
    rw [this, fa_and]
    congr 2
    show _ = (BitVec.ofNat 32 y.toBitVec.toNat).toNat
    simp
  rw [e]
  have h5 : a &&& y.toBitVec.toNat ≤ a := Nat.and_le_left
  exact ⟨nI_pos' (by omega), nI_lt (b := 256) (by omega) (by decide)⟩
/-- the reference stands in order -/
def mI (M : xM) : Prop := 0 ≤ M 40 0 7 ∧ M 40 0 7 ≤ 8 ∧ 0 ≤ M 40 0 30 ∧ M 40 0 30 ≤ 24 ∧ 0 ≤ M 40 0 14 ∧ M 40 0 14 ≤ 40 ∧ (∀ j : Nat, 0 ≤ M 81 0 j ∧ M 81 0 j ≤ 7) ∧ (∀ j : Nat, 0 ≤ M 91 0 j ∧ M 91 0 j ≤ 12) ∧ (∀ j : Nat, 0 ≤ M 58 0 j ∧ M 58 0 j ≤ 5) ∧ (∀ j : Nat, 0 ≤ M 94 0 j ∧ M 94 0 j ≤ 5) ∧ (∀ j : Nat, M 82 0 j ≤ 100) ∧ (∀ j : Int32, 0 ≤ j → j < M 40 0 30 → 1 ≤ M 82 0 j.toNatClampNeg)
theorem mI_56 {M N : xM} (h : ∀ x y z, ¬ x = 56 → N x y z = M x y z) (hM : mI M) : mI N := by
  unfold mI at *
  have e : ∀ x y z, ¬ x = 56 → N x y z = M x y z := h
  simp only [e 40 0 7 (by decide), e 40 0 30 (by decide), e 40 0 14 (by decide), fun j => e 81 0 j (by decide), fun j => e 91 0 j (by decide), fun j => e 58 0 j (by decide), fun j => e 94 0 j (by decide), fun j => e 82 0 j (by decide)]
  exact hM
theorem mI_thr {M : xM} {v : Int32} (hM : mI M) : mI (xup M 40 0 0 v) := by
  unfold mI at *
  simp only [xup_at]
  simpa using hM
theorem mI_st {M : xM} {v : Int32} (hM : mI M) : mI (xup M 40 0 1 v) := by
  unfold mI at *
  simp only [xup_at]
  simpa using hM
theorem tnc_s {k : Int32} (h1 : 0 ≤ k) (h2 : k < 1000000) : (k + 1).toNatClampNeg = k.toNatClampNeg + 1 := by
  obtain ⟨a, rfl, ha⟩ := i32_nat_lt (N := 1000000) h1 h2 (by decide)
  rw [nI_1, nI_clamp (by omega), nI_clamp (by omega)]
theorem tnc_lt {k z : Int32} (h1 : 0 ≤ k) (h2 : k < z) : k.toNatClampNeg < z.toNatClampNeg := by
  have h3 := Int32.lt_iff_toInt_lt.mp h2
  have h4 := Int32.le_iff_toInt_le.mp h1
  simp at h4
  show k.toInt.toNat < z.toInt.toNat
  omega
/-- the list's first k places hold numbers of notes -/
def lsOK (M : xM) (k : Int32) : Prop := ∀ j : Nat, j < k.toNatClampNeg → 0 ≤ M 98 0 j ∧ M 98 0 j < 24
theorem lsOK_0 (M : xM) : lsOK M 0 := fun j h => absurd h (Nat.not_lt_zero _)
theorem lsOK_s {M N : xM} {k v : Int32} (h : lsOK M k) (h1 : 0 ≤ k) (h2 : k < 8) (e : N = xup M 98 0 k.toNatClampNeg v) (h3 : 0 ≤ N 98 0 k.toNatClampNeg) (h4 : N 98 0 k.toNatClampNeg < 24) : lsOK N (k + 1) := by
  intro j hj
  rw [tnc_s h1 (by grind)] at hj
  by_cases c : j = k.toNatClampNeg
  · rw [c]; exact ⟨h3, h4⟩
  · rw [e, xup_j c]; exact h j (by omega)
theorem lsOK_o {M : xM} {κ i j : Nat} {v z : Int32} (h : κ ≠ 98) (hl : lsOK M z) : lsOK (xup M κ i j v) z := by
  intro q hq
  rw [xup_k (Ne.symm h)]
  exact hl q hq
theorem lsOK_at {M : xM} {k z : Int32} (hl : lsOK M z) (h1 : 0 ≤ k) (h2 : k < z) : 0 ≤ M 98 0 k.toNatClampNeg ∧ M 98 0 k.toNatClampNeg < 24 := hl _ (tnc_lt h1 h2)
def wI (M : xM) (z : Int32) : Prop := lsOK M z ∧ ∀ j : Nat, 0 ≤ M 81 0 j ∧ M 81 0 j ≤ 7
theorem wI_o {M : xM} {κ i j : Nat} {v z : Int32} (h : κ ≠ 98) (h2 : κ ≠ 81) (hl : wI M z) : wI (xup M κ i j v) z := by
  refine ⟨lsOK_o h hl.1, fun q => ?_⟩
  rw [xup_k (Ne.symm h2)]
  exact hl.2 q
theorem shl9 {z : Int32} (h1 : 1 ≤ z) (h2 : z ≤ 8) : 2 ≤ (1 : Int32) <<< (z &&& 31) ∧ (1 : Int32) <<< (z &&& 31) ≤ 256 := by
  obtain ⟨k, rfl, hk⟩ := i32_nat_lt (x := z) (N := 9) (B := 9) (by grind) (by grind) (by decide)
  have : ∀ k : Fin 9, 1 ≤ nI k → 2 ≤ (1 : Int32) <<< (nI k &&& 31) ∧ (1 : Int32) <<< (nI k &&& 31) ≤ 256 := by decide
  exact this ⟨k, hk⟩ h1
