theorem fa_and (a b : Nat) : nI a &&& nI b = nI (a &&& b) := by
  apply Int32.toBitVec_inj.1
  show BitVec.ofNat 32 a &&& BitVec.ofNat 32 b = BitVec.ofNat 32 (a &&& b)
  apply BitVec.eq_of_getLsbD_eq
  intro i hi
  simp [hi]
theorem fa_or (a b : Nat) : nI a ||| nI b = nI (a ||| b) := by
  apply Int32.toBitVec_inj.1
  show BitVec.ofNat 32 a ||| BitVec.ofNat 32 b = BitVec.ofNat 32 (a ||| b)
  apply BitVec.eq_of_getLsbD_eq
  intro i hi
  simp [hi]
theorem fb_xorI (a b : Nat) : nI a ^^^ nI b = nI (a ^^^ b) := by
  apply Int32.toBitVec_inj.1
  show BitVec.ofNat 32 a ^^^ BitVec.ofNat 32 b = BitVec.ofNat 32 (a ^^^ b)
  apply BitVec.eq_of_getLsbD_eq
  intro i hi
  simp [hi]
/-! the reference's tests, in plain words -/
theorem lgc_lt (x y : Int64) : lg_cmp x y < 0 ↔ x < y := by
  unfold lg_cmp
  grind
theorem lgc_gt (x y : Int64) : 0 < lg_cmp x y ↔ y < x := by
  unfold lg_cmp
  grind
theorem t64_le (a b : Int32) : a.toInt64 ≤ b.toInt64 ↔ a ≤ b := by
  rw [Int64.le_iff_toInt_le, Int32.le_iff_toInt_le, Int32.toInt_toInt64, Int32.toInt_toInt64]
theorem t64_lt (a b : Int32) : a.toInt64 < b.toInt64 ↔ a < b := by
  rw [Int64.lt_iff_toInt_lt, Int32.lt_iff_toInt_lt, Int32.toInt_toInt64, Int32.toInt_toInt64]
theorem in_64 (v a b : Int64) (M : xM) : f_X11_in v a b M = decide (a ≤ v ∧ v ≤ b) := by
  unfold f_X11_in
  simp only [lgc_lt, lgc_gt]
  by_cases h1 : v < a
  · have : ¬ a ≤ v := by grind
    simp [h1, this]
  · by_cases h2 : b < v
    · have : ¬ v ≤ b := by grind
      simp [h1, h2, this]
    · have h3 : a ≤ v := by grind
      have h4 : v ≤ b := by grind
      simp [h1, h2, h3, h4]
theorem in_tt (v a b : Int32) (M : xM) : f_X11_in v.toInt64 a.toInt64 b.toInt64 M = decide (a ≤ v ∧ v ≤ b) := by
  rw [in_64]; simp only [t64_le]
theorem in_0t (v b : Int32) (M : xM) : f_X11_in v.toInt64 0 b.toInt64 M = decide (0 ≤ v ∧ v ≤ b) := in_tt v 0 b M
theorem in_0s {v b : Int32} {M : xM} (hb : 0 ≤ b) : f_X11_in v.toInt64 0 (b - 1).toInt64 M = decide (0 ≤ v ∧ v < b) := by
  rw [in_0t]
  have h : v ≤ b - 1 ↔ v < b := by grind
  simp only [h]
theorem isBank_eq {b : Int32} {M : xM} (hb : 0 ≤ M 40 0 7) : f_X11_isBank b M = decide (0 ≤ b ∧ b < M 40 0 7) := in_0s (M := M) hb
theorem isNote_eq {b : Int32} {M : xM} (hb : 0 ≤ M 40 0 30) : f_X11_isNote b M = decide (0 ≤ b ∧ b < M 40 0 30) := in_0s (M := M) hb
theorem in_ll (v a b : Int32) (A B : Int64) (hA : a.toInt64 = A) (hB : b.toInt64 = B) (M : xM) : f_X11_in v.toInt64 A B M = decide (a ≤ v ∧ v ≤ b) := by
  subst hA; subst hB; exact in_tt v a b M
theorem in_tl (v a b : Int32) (B : Int64) (hB : b.toInt64 = B) (M : xM) : f_X11_in v.toInt64 a.toInt64 B M = decide (a ≤ v ∧ v ≤ b) := by
  subst hB; exact in_tt v a b M
theorem in_0_1 (v : Int32) (M : xM) : f_X11_in v.toInt64 0 1 M = decide (0 ≤ v ∧ v ≤ 1) := in_ll v 0 1 _ _ rfl rfl M
theorem in_0_2 (v : Int32) (M : xM) : f_X11_in v.toInt64 0 2 M = decide (0 ≤ v ∧ v ≤ 2) := in_ll v 0 2 _ _ rfl rfl M
theorem in_0_4 (v : Int32) (M : xM) : f_X11_in v.toInt64 0 4 M = decide (0 ≤ v ∧ v ≤ 4) := in_ll v 0 4 _ _ rfl rfl M
theorem in_0_5 (v : Int32) (M : xM) : f_X11_in v.toInt64 0 5 M = decide (0 ≤ v ∧ v ≤ 5) := in_ll v 0 5 _ _ rfl rfl M
theorem in_0_6 (v : Int32) (M : xM) : f_X11_in v.toInt64 0 6 M = decide (0 ≤ v ∧ v ≤ 6) := in_ll v 0 6 _ _ rfl rfl M
theorem in_0_7 (v : Int32) (M : xM) : f_X11_in v.toInt64 0 7 M = decide (0 ≤ v ∧ v ≤ 7) := in_ll v 0 7 _ _ rfl rfl M
theorem in_0_100 (v : Int32) (M : xM) : f_X11_in v.toInt64 0 100 M = decide (0 ≤ v ∧ v ≤ 100) := in_ll v 0 100 _ _ rfl rfl M
theorem in_0_255 (v : Int32) (M : xM) : f_X11_in v.toInt64 0 255 M = decide (0 ≤ v ∧ v ≤ 255) := in_ll v 0 255 _ _ rfl rfl M
theorem in_0_299 (v : Int32) (M : xM) : f_X11_in v.toInt64 0 299 M = decide (0 ≤ v ∧ v ≤ 299) := in_ll v 0 299 _ _ rfl rfl M
theorem in_0_500 (v : Int32) (M : xM) : f_X11_in v.toInt64 0 500 M = decide (0 ≤ v ∧ v ≤ 500) := in_ll v 0 500 _ _ rfl rfl M
theorem in_0_9999 (v : Int32) (M : xM) : f_X11_in v.toInt64 0 9999 M = decide (0 ≤ v ∧ v ≤ 9999) := in_ll v 0 9999 _ _ rfl rfl M
theorem in_0_99999 (v : Int32) (M : xM) : f_X11_in v.toInt64 0 99999 M = decide (0 ≤ v ∧ v ≤ 99999) := in_ll v 0 99999 _ _ rfl rfl M
theorem in_1_6 (v : Int32) (M : xM) : f_X11_in v.toInt64 1 6 M = decide (1 ≤ v ∧ v ≤ 6) := in_ll v 1 6 _ _ rfl rfl M
theorem in_1_8 (v : Int32) (M : xM) : f_X11_in v.toInt64 1 8 M = decide (1 ≤ v ∧ v ≤ 8) := in_ll v 1 8 _ _ rfl rfl M
theorem in_1_100 (v : Int32) (M : xM) : f_X11_in v.toInt64 1 100 M = decide (1 ≤ v ∧ v ≤ 100) := in_ll v 1 100 _ _ rfl rfl M
theorem in_1_999 (v : Int32) (M : xM) : f_X11_in v.toInt64 1 999 M = decide (1 ≤ v ∧ v ≤ 999) := in_ll v 1 999 _ _ rfl rfl M
theorem in_t_299 (v a : Int32) (M : xM) : f_X11_in v.toInt64 a.toInt64 299 M = decide (a ≤ v ∧ v ≤ 299) := in_tl v a 299 _ rfl M
theorem isSheet_eq (s : Int32) (M : xM) : f_X11_isSheet s M = decide (0 ≤ s ∧ s ≤ 7) := in_0_7 s M
theorem isTown_eq (s : Int32) (M : xM) : f_X11_isTown s M = decide (0 ≤ s ∧ s ≤ 5) := in_0_5 s M
theorem isWeek_eq (s : Int32) (M : xM) : f_X11_isWeek s M = decide (0 ≤ s ∧ s ≤ 299) := in_0_299 s M
theorem isTrader_eq (s : Int32) (M : xM) : f_X11_isTrader s M = decide (0 ≤ s ∧ s ≤ 7) := in_0_7 s M
theorem isUpTo_eq (v most : Int32) (M : xM) : f_X10_isUpTo v most M = decide (0 ≤ v ∧ v ≤ most) := by
  unfold f_X10_isUpTo
  grind
theorem isTown10_eq (s : Int32) (M : xM) : f_X10_isTown s M = decide (0 ≤ s ∧ s ≤ 5) := isUpTo_eq s 5 M
/-- a sum of two that aren't negative, held against a small number -/
theorem ladd_gt {i n m : Int32} (hi : 0 ≤ i) (hn : 0 ≤ n) (hm : 0 ≤ m) (hm2 : m ≤ 60) : ¬ 0 < lg_cmp (i.toInt64 + n.toInt64) m.toInt64 → i ≤ 60 ∧ n ≤ 60 ∧ i + n ≤ m := by
  rw [lgc_gt]
  intro h
  have h2 : ¬ m.toInt64.toInt < (i.toInt64 + n.toInt64).toInt := fun q => h (Int64.lt_iff_toInt_lt.mpr q)
  rw [Int32.toInt_toInt64, Int64.toInt_add, Int32.toInt_toInt64, Int32.toInt_toInt64] at h2
  have a1 := Int32.le_iff_toInt_le.mp hi; have a2 := Int32.le_iff_toInt_le.mp hn; have a3 := Int32.le_iff_toInt_le.mp hm; have a4 := Int32.le_iff_toInt_le.mp hm2
  have b1 := i.toInt_lt; have b2 := n.toInt_lt
  simp at a1 a2 a3 a4
  rw [Int.bmod_eq_of_le (by omega) (by omega)] at h2
  refine ⟨Int32.le_iff_toInt_le.mpr (by simp; omega), Int32.le_iff_toInt_le.mpr (by simp; omega), Int32.le_iff_toInt_le.mpr ?_⟩
  rw [Int32.toInt_add, Int.bmod_eq_of_le (by omega) (by omega)]
  omega
theorem ladd_gt' {i n m : Int32} (hi : 0 ≤ i) (hn : 0 ≤ n) (hm : 0 ≤ m) (hm2 : m ≤ 60) (h : i ≤ 60 ∧ n ≤ 60 ∧ i + n ≤ m) : ¬ 0 < lg_cmp (i.toInt64 + n.toInt64) m.toInt64 := by
  rw [lgc_gt]
  intro q
  have h2 := Int64.lt_iff_toInt_lt.mp q
  rw [Int32.toInt_toInt64, Int64.toInt_add, Int32.toInt_toInt64, Int32.toInt_toInt64] at h2
  have a1 := Int32.le_iff_toInt_le.mp hi; have a2 := Int32.le_iff_toInt_le.mp hn; have a3 := Int32.le_iff_toInt_le.mp hm; have a4 := Int32.le_iff_toInt_le.mp hm2
  have c1 := Int32.le_iff_toInt_le.mp h.1; have c2 := Int32.le_iff_toInt_le.mp h.2.1; have c3 := Int32.le_iff_toInt_le.mp h.2.2
  have b1 := i.toInt_lt; have b2 := n.toInt_lt
  simp at a1 a2 a3 a4 c1 c2
  rw [Int.bmod_eq_of_le (by omega) (by omega)] at h2
  rw [Int32.toInt_add, Int.bmod_eq_of_le (by omega) (by omega)] at c3
  omega
theorem div6 {t : Int32} (h1 : 0 ≤ t) (h2 : t < 36) : 0 ≤ t / 6 ∧ t / 6 < 6 ∧ 0 ≤ t - t / 6 * 6 ∧ t - t / 6 * 6 < 6 := by
  have a1 := Int32.le_iff_toInt_le.mp h1
  have a2 := Int32.lt_iff_toInt_lt.mp h2
  simp at a1 a2
  obtain ⟨k, hk⟩ : ∃ k : Nat, t = nI k ∧ k < 36 := ⟨t.toInt.toNat, by
    refine ⟨?_, by omega⟩
    apply Int32.toInt_inj.mp
    rw [nI_toInt (by omega)]
    omega⟩
  obtain ⟨rfl, hk⟩ := hk
  have : ∀ k : Fin 36, 0 ≤ nI k / 6 ∧ nI k / 6 < 6 ∧ 0 ≤ nI k - nI k / 6 * 6 ∧ nI k - nI k / 6 * 6 < 6 := by decide
  exact this ⟨k, hk⟩
theorem i32_nat {x : Int32} (h : 0 ≤ x) : ∃ k : Nat, x = nI k ∧ k < 2 ^ 31 := by
  have a1 := Int32.le_iff_toInt_le.mp h
  have a2 := x.toInt_lt
  simp at a1
  refine ⟨x.toInt.toNat, ?_, by omega⟩
  apply Int32.toInt_inj.mp
  rw [nI_toInt (by omega)]
  omega
theorem i32_nat_lt {x : Int32} {N : Nat} {B : Int32} (h : 0 ≤ x) (h2 : x < B) (hB : B.toInt = N) : ∃ k : Nat, x = nI k ∧ k < N := by
  obtain ⟨k, rfl, hk⟩ := i32_nat h
  refine ⟨k, rfl, ?_⟩
  have := Int32.lt_iff_toInt_lt.mp h2
  rw [nI_toInt hk, hB] at this
  omega
theorem or256 {x y : Int32} (h1 : 0 ≤ x) (h2 : x < 256) (h3 : 0 ≤ y) (h4 : y < 256) : x ≤ x ||| y ∧ (x ||| y) < 256 := by
  obtain ⟨a, rfl, ha⟩ := i32_nat_lt (N := 256) h1 h2 (by decide)
  obtain ⟨b, rfl, hb⟩ := i32_nat_lt (N := 256) h3 h4 (by decide)
  rw [fa_or]
  have h5 : a ≤ a ||| b := Nat.left_le_or
  have h6 : a ||| b < 2 ^ 8 := Nat.or_lt_two_pow ha hb
  exact ⟨nI_le h5 (by omega), nI_lt (b := 256) h6 (by decide)⟩
theorem shl8 {a : Int32} (h1 : 0 ≤ a) (h2 : a < 8) : 0 ≤ (1 : Int32) <<< (a &&& 31) ∧ (1 : Int32) <<< (a &&& 31) < 256 := by
  obtain ⟨k, rfl, hk⟩ := i32_nat_lt (N := 8) h1 h2 (by decide)
  have : ∀ k : Fin 8, 0 ≤ (1 : Int32) <<< (nI k &&& 31) ∧ (1 : Int32) <<< (nI k &&& 31) < 256 := by decide
  exact this ⟨k, hk⟩
theorem xmu_mono {a b d : Int32} (h1 : a < b) (h2 : b < d) : xmu b d < xmu a d := by
  have h3 := Int32.lt_iff_toInt_lt.mp h1
  have h4 := Int32.lt_iff_toInt_lt.mp h2
  unfold xmu
  omega
