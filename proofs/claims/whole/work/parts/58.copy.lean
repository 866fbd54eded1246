/-! copy, rates -/
section COPIES
variable {nb nn : Nat} {M : xM}
theorem tnc_mono {a b : Int32} (h : a ≤ b) : a.toNatClampNeg ≤ b.toNatClampNeg := by
  have := Int32.le_iff_toInt_le.mp h
  rw [Int32.toNatClampNeg, Int32.toNatClampNeg]
  omega
abbrev plc (i z L : Int32) : Prop := 0 ≤ i ∧ 0 ≤ z ∧ i ≤ 60 ∧ z ≤ 60 ∧ i + z ≤ L
theorem hasP {i0 : Nat} {i z : Int32} {M : xM} (h : ∀ i : Nat, 0 ≤ M 24 i 2 ∧ M 24 i 2 ≤ 60) : f_X6_hasPlaces i0 i z M = true ↔ plc i z (M 24 i0 2) := by
  rw [hasPl_eq (h i0).1 (h i0).2]
  simp [plc]
theorem lcm {i z m : Int32} (hm : 0 ≤ m ∧ m ≤ 60) (hi : ¬ i < 0) (hz : ¬ z < 0) : 0 < lg_cmp (i.toInt64 + z.toInt64) m.toInt64 ↔ ¬ plc i z m := by
  have hi' : 0 ≤ i := Int32.not_lt.mp hi
  have hz' : 0 ≤ z := Int32.not_lt.mp hz
  constructor
  · intro h q
    exact ladd_gt' hi' hz' hm.1 hm.2 ⟨q.2.2.1, q.2.2.2.1, q.2.2.2.2⟩ h
  · intro h
    by_cases c : 0 < lg_cmp (i.toInt64 + z.toInt64) m.toInt64
    · exact c
    · have := ladd_gt hi' hz' hm.1 hm.2 c
      exact absurd ⟨hi', hz', this.1, this.2.1, this.2.2⟩ h
theorem copy10 (hb : ∀ i : Nat, 0 ≤ M 24 i 2 ∧ M 24 i 2 ≤ 60) {x y : Nat} (hx : x < 8) (hy : y < 8) (i j z : Int32) : (M 24 x 1 = (-1) ∨ M 24 y 1 = (-1) → f_X10_copy (nI x) i (nI y) j z M = ((-1000011), xup M 0 0 16 1)) ∧ (¬ (M 24 x 1 = (-1) ∨ M 24 y 1 = (-1)) → M 24 x 1 ≠ M 24 y 1 → f_X10_copy (nI x) i (nI y) j z M = ((-1000015), xup M 0 0 16 5)) ∧ (¬ (M 24 x 1 = (-1) ∨ M 24 y 1 = (-1)) → M 24 x 1 = M 24 y 1 → ¬ (plc i z (M 24 x 2) ∧ plc j z (M 24 y 2)) → f_X10_copy (nI x) i (nI y) j z M = ((-1000012), xup M 0 0 16 2)) ∧ (¬ (M 24 x 1 = (-1) ∨ M 24 y 1 = (-1)) → M 24 x 1 = M 24 y 1 → plc i z (M 24 x 2) ∧ plc j z (M 24 y 2) → f_X10_copy (nI x) i (nI y) j z M = (z, xup (xrow M 25 y (va_cpy (M 25 x) (M 25 y) i.toNatClampNeg j.toNatClampNeg z.toNatClampNeg)) 0 0 16 0)) := by
  have cx : 0 ≤ nI x ∧ nI x ≤ 7 := ⟨nI_pos' (by omega), nI_le (b := 7) (by omega) (by decide)⟩
  have cy : 0 ≤ nI y ∧ nI y ≤ 7 := ⟨nI_pos' (by omega), nI_le (b := 7) (by omega) (by decide)⟩
  unfold f_X10_copy f_X6_isMissing f_X10_found f_X10_foundNothing
  simp only [xlet_p, xlet2_p, sheetOf_eq, xb_0, if_pos cx, if_pos cy, xopt_ps, nI_clamp (show x < 2 ^ 31 by omega), nI_clamp (show y < 2 ^ 31 by omega)]
  have p1 := hasP (i0 := x) (i := i) (z := z) hb
  have p2 := hasP (i0 := y) (i := j) (z := z) hb
  refine ⟨fun h1 => ?_, fun h1 h2 => ?_, fun h1 h2 h3 => ?_, fun h1 h2 h3 => ?_⟩
  · rcases h1 with h1 | h1
    · simp [h1]
    · by_cases h2 : M 24 x 1 = -1
      · simp [h2]
      · simp [h1, h2]
  · have a1 : ¬ M 24 x 1 = -1 := fun q => h1 (Or.inl q)
    have a2 : ¬ M 24 y 1 = -1 := fun q => h1 (Or.inr q)
    simp [a1, a2, h2]
  · have a1 : ¬ M 24 x 1 = -1 := fun q => h1 (Or.inl q)
    have a2 : ¬ M 24 y 1 = -1 := fun q => h1 (Or.inr q)
    simp only [a1, a2, h2, if_false, if_true]
    cases e1 : f_X6_hasPlaces x i z M with
    | false => simp
    | true =>
      cases e2 : f_X6_hasPlaces y j z M with
      | false => simp
      | true => exact absurd ⟨p1.mp e1, p2.mp e2⟩ h3
  · have a1 : ¬ M 24 x 1 = -1 := fun q => h1 (Or.inl q)
    have a2 : ¬ M 24 y 1 = -1 := fun q => h1 (Or.inr q)
    simp only [a1, a2, h2, if_false, if_true, p1.mpr h3.1, p2.mpr h3.2]
    simp
theorem copy10b (a i b j z : Int32) (M : xM) (h : ¬ ((0 ≤ a ∧ a ≤ 7) ∧ (0 ≤ b ∧ b ≤ 7))) : f_X10_copy a i b j z M = ((-1000001), M) := by
  unfold f_X10_copy
  simp only [sheetOf_eq]
  by_cases c1 : 0 ≤ a ∧ a ≤ 7
  · have c2 : ¬ (0 ≤ b ∧ b ≤ 7) := fun q => h ⟨c1, q⟩
    simp only [if_pos c1, if_neg c2, xopt_ps, xopt_pn]
  · simp only [if_neg c1, xopt_pn]
    by_cases c2 : 0 ≤ b ∧ b ≤ 7
    · simp only [if_pos c2, xopt_ps]
    · simp only [if_neg c2, xopt_pn]
/-- the rows of items, copied -/
def cpr (src dst z : Nat) (r : Nat → Int32) : Nat → Int32 := fun c => if dst ≤ c ∧ c < dst + z then r (src + (c - dst)) else r c
theorem cpU {a b i j z : Nat} (ha : a < 8) (hb : b < 8) (hi : i + z ≤ 60) (hj : j + z ≤ 60) (hd : a = b → j ≤ i) : ∀ (m k n : Nat) (N : xM) (kx : Int32 → xM → Int32 × xM), k + m = z → m < n → f_X11_copy_L143 (nI a) (nI i) (nI b) (nI j) (nI z) 1 n (nI k) N kx = kx (nI z) (xrow N 54 0 (fun c => if 60 * b + j + k ≤ c ∧ c < 60 * b + j + z then N 54 0 (60 * a + i + (c - (60 * b + j))) else N 54 0 c)) := by
  intro m
  induction m with
  | zero =>
    intro k n N kx h1 h2
    obtain ⟨n, rfl⟩ : ∃ k, n = k + 1 := ⟨n - 1, by omega⟩
    obtain rfl : k = z := by omega
    have e : (fun c => if 60 * b + j + k ≤ c ∧ c < 60 * b + j + k then N 54 0 (60 * a + i + (c - (60 * b + j))) else N 54 0 c) = N 54 0 := by
      funext c
      rw [if_neg (by omega)]
    rw [f_X11_copy_L143, if_pos (nI_le (Nat.le_refl _) (by omega)), e, xrow_self]
  | succ m ih =>
    intro k n N kx h1 h2
    obtain ⟨n, rfl⟩ : ∃ k, n = k + 1 := ⟨n - 1, by omega⟩
    rw [f_X11_copy_L143, if_neg (nI_ge (by omega) (by omega)), if_neg (by decide)]
    simp only [xlet_p, nI_1, nI_m 60 a 60 rfl, nI_m 60 b 60 rfl, nI_add, nI_clamp (show 60 * a + i + k < 2 ^ 31 by omega), nI_clamp (show 60 * b + j + k < 2 ^ 31 by omega)]
    rw [ih (k + 1) n _ kx (by omega) (by omega), xup_row_of, xrow_xrow, xrow_same]
    congr 2
    funext c
    by_cases d : c = 60 * b + j + k
    · subst d
      rw [if_neg (by omega), if_pos (by omega), pk_us]
      congr 1
      omega
    · rw [pk_un d]
      by_cases d2 : 60 * b + j + k ≤ c ∧ c < 60 * b + j + z
      · rw [if_pos d2, if_pos (by omega), pk_un (by
          by_cases q : a = b
          · have := hd q; omega
          · omega)]
      · rw [if_neg d2, if_neg (by omega)]
theorem cpD {a b i j z : Nat} (ha : a < 8) (hb : b < 8) (hi : i + z ≤ 60) (hj : j + z ≤ 60) (hd : a = b → i ≤ j) : ∀ (m k n : Nat) (N : xM) (kx : Int32 → xM → Int32 × xM), k + m = z → m < n → f_X11_copy_L143 (nI a) (nI i) (nI b) (nI j) (nI z) 0 n (nI k) N kx = kx (nI z) (xrow N 54 0 (fun c => if 60 * b + j ≤ c ∧ c < 60 * b + j + (z - k) then N 54 0 (60 * a + i + (c - (60 * b + j))) else N 54 0 c)) := by
  intro m
  induction m with
  | zero =>
    intro k n N kx h1 h2
    obtain ⟨n, rfl⟩ : ∃ k, n = k + 1 := ⟨n - 1, by omega⟩
    obtain rfl : k = z := by omega
    have e : (fun c => if 60 * b + j ≤ c ∧ c < 60 * b + j + (k - k) then N 54 0 (60 * a + i + (c - (60 * b + j))) else N 54 0 c) = N 54 0 := by
      funext c
      rw [if_neg (by omega)]
    rw [f_X11_copy_L143, if_pos (nI_le (Nat.le_refl _) (by omega)), e, xrow_self]
  | succ m ih =>
    intro k n N kx h1 h2
    obtain ⟨n, rfl⟩ : ∃ k, n = k + 1 := ⟨n - 1, by omega⟩
    rw [f_X11_copy_L143, if_neg (nI_ge (by omega) (by omega)), if_pos rfl]
    have e1 : nI z - 1 - nI k = nI m := by
      rw [show z = (m + k) + 1 by omega, nI_pred, pk_sub (by omega)]
      congr 1
      omega
    simp only [xlet_p, nI_1, e1, nI_m 60 a 60 rfl, nI_m 60 b 60 rfl, nI_add, nI_clamp (show 60 * a + i + m < 2 ^ 31 by omega), nI_clamp (show 60 * b + j + m < 2 ^ 31 by omega)]
    rw [ih (k + 1) n _ kx (by omega) (by omega), xup_row_of, xrow_xrow, xrow_same]
    congr 2
    funext c
    by_cases d : c = 60 * b + j + m
    · subst d
      rw [if_neg (by omega), if_pos (by omega), pk_us]
      congr 1
      omega
    · rw [pk_un d]
      by_cases d2 : 60 * b + j ≤ c ∧ c < 60 * b + j + (z - k)
      · rw [if_pos d2, if_pos (by omega), pk_un (by
          by_cases q : a = b
          · have := hd q; omega
          · omega)]
      · rw [if_neg d2, if_neg (by omega)]
theorem copy11 (hb : ∀ i : Nat, 0 ≤ M 53 0 i ∧ M 53 0 i ≤ 60) {x y : Nat} (hx : x < 8) (hy : y < 8) (i j z : Int32) : (M 52 0 x < 0 ∨ M 52 0 y < 0 → f_X11_copy (nI x) i (nI y) j z M = ((-1000011), xup (xup (xup M 40 0 0 0) 40 0 1 0) 40 0 1 1)) ∧ (¬ (M 52 0 x < 0 ∨ M 52 0 y < 0) → M 52 0 x ≠ M 52 0 y → f_X11_copy (nI x) i (nI y) j z M = ((-1000015), xup (xup (xup M 40 0 0 0) 40 0 1 0) 40 0 1 5)) ∧ (¬ (M 52 0 x < 0 ∨ M 52 0 y < 0) → M 52 0 x = M 52 0 y → ¬ (plc i z (M 53 0 x) ∧ plc j z (M 53 0 y)) → f_X11_copy (nI x) i (nI y) j z M = ((-1000012), xup (xup (xup M 40 0 0 0) 40 0 1 0) 40 0 1 2)) ∧ (¬ (M 52 0 x < 0 ∨ M 52 0 y < 0) → M 52 0 x = M 52 0 y → plc i z (M 53 0 x) ∧ plc j z (M 53 0 y) → f_X11_copy (nI x) i (nI y) j z M = (z, xrow (xup (xup M 40 0 0 0) 40 0 1 0) 54 0 (cpr (60 * x + i.toNatClampNeg) (60 * y + j.toNatClampNeg) z.toNatClampNeg (M 54 0)))) := by
  have cx : 0 ≤ nI x ∧ nI x ≤ 7 := ⟨nI_pos' (by omega), nI_le (b := 7) (by omega) (by decide)⟩
  have cy : 0 ≤ nI y ∧ nI y ≤ 7 := ⟨nI_pos' (by omega), nI_le (b := 7) (by omega) (by decide)⟩
  have e52 : ∀ k : Nat, xup (xup M 40 0 0 0) 40 0 1 0 52 0 k = M 52 0 k := fun k => by rw [xup_k (by decide), xup_k (by decide)]
  have e53 : ∀ k : Nat, xup (xup M 40 0 0 0) 40 0 1 0 53 0 k = M 53 0 k := fun k => by rw [xup_k (by decide), xup_k (by decide)]
  have e54 : xup (xup M 40 0 0 0) 40 0 1 0 54 0 = M 54 0 := by rw [xup_row (by decide), xup_row (by decide)]
  unfold f_X11_copy f_X11_finding
  simp only [xlet_p, xlet2_p, isSheet_eq, xb_0, cx, cy, nI_clamp (show x < 2 ^ 31 by omega), nI_clamp (show y < 2 ^ 31 by omega), e52, e53]
  simp only [and_self, decide_true, Bool.true_eq_false, if_false]
  generalize hN : xup (xup M 40 0 0 0) 40 0 1 0 = N at e54
  refine ⟨fun h1 => ?_, fun h1 h2 => ?_, fun h1 h2 h3 => ?_, fun h1 h2 h3 => ?_⟩
  · rcases h1 with h1 | h1
    · rw [if_pos h1]; rfl
    · by_cases h2 : M 52 0 x < 0
      · rw [if_pos h2]; rfl
      · rw [if_neg h2, if_neg (Int32.not_le.mpr h1)]; rfl
  · have a1 : ¬ M 52 0 x < 0 := fun q => h1 (Or.inl q)
    have a2 : 0 ≤ M 52 0 y := Int32.not_lt.mp (fun q => h1 (Or.inr q))
    rw [if_neg a1, if_pos a2, if_neg h2]; rfl
  · have a1 : ¬ M 52 0 x < 0 := fun q => h1 (Or.inl q)
    have a2 : 0 ≤ M 52 0 y := Int32.not_lt.mp (fun q => h1 (Or.inr q))
    rw [if_neg a1, if_pos a2, if_pos h2]
    by_cases d1 : i < 0
    · rw [if_pos d1]; rfl
    · rw [if_neg d1]
      by_cases d2 : j < 0
      · rw [if_pos d2]; rfl
      · rw [if_neg d2]
        by_cases d3 : z < 0
        · rw [if_pos d3]; rfl
        · rw [if_neg d3]
          by_cases d4 : plc i z (M 53 0 x)
          · rw [if_neg (fun q => (lcm (hb x) d1 d3).mp q d4), if_neg (fun q => by
              have : ¬ plc j z (M 53 0 y) := fun z5 => h3 ⟨d4, z5⟩
              have := (lcm (hb y) d2 d3).mpr this
              exact absurd q (Int32.not_le.mpr this))]
            rfl
          · rw [if_pos ((lcm (hb x) d1 d3).mpr d4)]; rfl
  · have a1 : ¬ M 52 0 x < 0 := fun q => h1 (Or.inl q)
    have a2 : 0 ≤ M 52 0 y := Int32.not_lt.mp (fun q => h1 (Or.inr q))
    obtain ⟨⟨i1, i2, i3, i4, i5⟩, j1, j2, j3, j4, j5⟩ := id h3
    have d1 : ¬ i < 0 := Int32.not_lt.mpr i1
    have d2 : ¬ j < 0 := Int32.not_lt.mpr j1
    have d3 : ¬ z < 0 := Int32.not_lt.mpr i2
    rw [if_neg a1, if_pos a2, if_pos h2, if_neg d1, if_neg d2, if_neg d3, if_neg (fun q => (lcm (hb x) d1 d3).mp q h3.1), if_pos (Int32.not_lt.mp (fun q => (lcm (hb y) d2 d3).mp q h3.2))]
    have t1 := tncs i1 i2 i3 i4 (Int32.le_trans i5 (hb x).2)
    have t2 := tncs j1 j2 j3 j4 (Int32.le_trans j5 (hb y).2)
    obtain ⟨ii, rfl, hii⟩ := i32b (n := 60) (by decide) i1 i3
    obtain ⟨jj, rfl, hjj⟩ := i32b (n := 60) (by decide) j1 j3
    obtain ⟨zz, rfl, hzz⟩ := i32b (n := 60) (by decide) i2 i4
    rw [nI_clamp (by omega), nI_clamp (by omega)] at t1 t2
    rw [nI_clamp (by omega), nI_clamp (by omega), nI_clamp (by omega)]
    have hm : zz < xmu (0 : Int32) (nI zz) + 1 := by unfold xmu; rw [nI_toInt (by omega)]; simp
    by_cases d : nI ii < nI jj
    · have d' := (nI_ltI (by omega) (by omega)).mp d
      have L := cpD hx hy t1 t2 (fun _ => by omega) zz 0 (xmu (0 : Int32) (nI zz) + 1) N (fun k_35 M_36 => (nI zz, M_36)) (by omega) hm
      rw [show nI 0 = (0 : Int32) from rfl] at L
      rw [if_pos d, L, e54, Nat.sub_zero]
      rfl
    · have d' : jj ≤ ii := by
        rcases Nat.lt_or_ge ii jj with q | q
        · exact absurd (nI_lt q (by omega)) d
        · exact q
      have L := cpU hx hy t1 t2 (fun _ => d') zz 0 (xmu (0 : Int32) (nI zz) + 1) N (fun k_37 M_38 => (nI zz, M_38)) (by omega) hm
      rw [show nI 0 = (0 : Int32) from rfl] at L
      rw [if_neg d, L, e54, Nat.add_zero]
      rfl
theorem copy11b (a i b j z : Int32) (M : xM) (h : ¬ ((0 ≤ a ∧ a ≤ 7) ∧ (0 ≤ b ∧ b ≤ 7))) : f_X11_copy a i b j z M = ((-1000001), xup M 40 0 0 0) := by
  unfold f_X11_copy
  simp only [xlet_p, isSheet_eq, xb_0]
  by_cases c1 : 0 ≤ a ∧ a ≤ 7
  · have c2 : ¬ (0 ≤ b ∧ b ≤ 7) := fun q => h ⟨c1, q⟩
    rw [if_neg (by simp [c1]), if_pos (by simp only [c2, decide_false])]
  · rw [if_pos (by simp only [c1, decide_false])]
theorem s_copy (h : INV nb nn M) (a i b j z : Int32) : R40 M (f_X10_copy a i b j z M).2 ∧ (f_X10_copy a i b j z M).1 = (f_X11_copy a i b j z (f_X10_copy a i b j z M).2).1 ∧ INV nb nn (f_X11_copy a i b j z (f_X10_copy a i b j z M).2).2 := by
  by_cases c : (0 ≤ a ∧ a ≤ 7) ∧ (0 ≤ b ∧ b ≤ 7)
  · obtain ⟨x, rfl, hx, hxc⟩ := ix_8 c.1
    obtain ⟨y, rfl, hy, hyc⟩ := ix_8 c.2
    have hb := h.sh.1
    have hb2 := h.sh.2.1
    have qx := h.sh.2.2 x hx
    have qy := h.sh.2.2 y hy
    have K := copy10 hb hx hy i j z
    have e52 : ∀ v : Int32, ∀ k : Nat, xup M 0 0 16 v 52 0 k = M 52 0 k := fun v k => xup_k (by decide)
    have e53 : ∀ v : Int32, ∀ k : Nat, xup M 0 0 16 v 53 0 k = M 53 0 k := fun v k => xup_k (by decide)
    by_cases c1 : M 24 x 1 = (-1) ∨ M 24 y 1 = (-1)
    · have L := copy11 (M := xup M 0 0 16 1) (fun k => by rw [e53]; exact hb2 k) hx hy i j z
      rw [K.1 c1, L.1 (by rw [e52, e52, qx.1, qy.1]; rcases c1 with q | q <;> rw [q] <;> simp)]
      exact ⟨R40_up (R40_rf M) (by decide), rfl, INV_st2 h 1 0⟩
    · have px : 0 ≤ M 24 x 1 := by have : ¬ M 24 x 1 = -1 := fun q => c1 (Or.inl q)
                                   have := qx.2.1; grind
      have py : 0 ≤ M 24 y 1 := by have : ¬ M 24 y 1 = -1 := fun q => c1 (Or.inr q)
                                   have := qy.2.1; grind
      have c1' : ¬ (M 24 x 1 < 0 ∨ M 24 y 1 < 0) := by rintro (q | q) <;> grind
      obtain ⟨dx, ix⟩ := qx.2.2.2 px
      obtain ⟨dy, iy⟩ := qy.2.2.2 py
      by_cases c2 : M 24 x 1 = M 24 y 1
      · by_cases c3 : plc i z (M 24 x 2) ∧ plc j z (M 24 y 2)
        · rw [K.2.2.2 c1 c2 c3]
          generalize hP : va_cpy (M 25 x) (M 25 y) i.toNatClampNeg j.toNatClampNeg z.toNatClampNeg = P
          have g52 : ∀ k : Nat, xup (xrow M 25 y P) 0 0 16 0 52 0 k = M 52 0 k := fun k => by rw [xup_k (by decide), xrow_k (by decide)]
          have g53 : ∀ k : Nat, xup (xrow M 25 y P) 0 0 16 0 53 0 k = M 53 0 k := fun k => by rw [xup_k (by decide), xrow_k (by decide)]
          have g54 : xup (xrow M 25 y P) 0 0 16 0 54 0 = M 54 0 := by rw [xup_row (by decide), xrow_k (by decide)]
          have L := copy11 (M := xup (xrow M 25 y P) 0 0 16 0) (fun k => by rw [g53]; exact hb2 k) hx hy i j z
          dsimp only
          rw [L.2.2.2 (by rw [g52, g52, qx.1, qy.1]; exact c1') (by rw [g52, g52, qx.1, qy.1]; exact c2) (by rw [g53, g53, dx, dy]; exact c3), g54]
          refine ⟨R40_up (R40_row (R40_rf M) (by decide)) (by decide), rfl, ?_⟩
          obtain ⟨⟨i1, i2, i3, i4, i5⟩, j1, j2, j3, j4, j5⟩ := id c3
          have a1 := tnc_add i1 i2 (Int32.le_trans i3 (by decide)) (Int32.le_trans i4 (by decide))
          have a2 := tnc_add j1 j2 (Int32.le_trans j3 (by decide)) (Int32.le_trans j4 (by decide))
          have b1 : (i + z).toNatClampNeg ≤ (M 24 x 2).toNatClampNeg := tnc_mono i5
          have b2 : (j + z).toNatClampNeg ≤ (M 24 y 2).toNatClampNeg := tnc_mono j5
          have lx : (M 24 x 2).toNatClampNeg ≤ 60 := tnc_le (N := 60) (by decide) (hb x).2
          have ly : (M 24 y 2).toNatClampNeg ≤ 60 := tnc_le (N := 60) (by decide) (hb y).2
          generalize i.toNatClampNeg = ii at *
          generalize j.toNatClampNeg = jj at *
          generalize z.toNatClampNeg = zz at *
          obtain ⟨g1, g2, g3, g4, g5, g6, g7, g8, g9, g10, g11⟩ := h
          unfold INV
          refine ⟨?_, ?_, ?_, ?_, ?_, ?_, ?_, ?_, ?_, ?_, ?_⟩
          · simpa [xup_row, xup_at, xrow_row, xrow_at] using g1
          · simp only [gSt] at g2 ⊢
            simp [xup_at, xrow_at]
            exact g2.2
          · obtain ⟨s1, s2, s3⟩ := g3
            refine ⟨by simpa [xup_row, xrow_row] using s1, by simpa [xup_row, xrow_row] using s2, fun s hs => ?_⟩
            have q := s3 s hs
            simp [xup_at, xrow_at]
            refine ⟨q.1, q.2.1, q.2.2.1, fun q4 => ⟨(q.2.2.2 q4).1, fun m hm => ?_⟩⟩
            have hl : (M 24 s 2).toNatClampNeg ≤ 60 := tnc_le (N := 60) (by decide) (s1 s).2
            unfold cpr
            by_cases e : s = y
            · subst e
              rw [if_pos rfl, ← hP]
              by_cases e2 : jj ≤ m ∧ m < jj + zz
              · rw [if_pos (by omega), pk_cpy_in e2.1 e2.2, show 60 * x + ii + (60 * s + m - (60 * s + jj)) = 60 * x + (ii + (m - jj)) by omega]
                exact ix _ (by omega)
              · rw [if_neg (by omega), pk_cpy_out (by omega)]
                exact iy m hm
            · rw [if_neg e, if_neg (by omega)]
              exact (q.2.2.2 q4).2 m hm
          · simpa [xup_row, xup_at, xrow_row, xrow_at] using g4
          · simpa [xup_row, xup_at, xrow_row, xrow_at] using g5
          · simpa [xup_row, xup_at, xrow_row, xrow_at] using g6
          · simpa [xup_row, xup_at, xrow_row, xrow_at] using g7
          · simpa [xup_row, xup_at, xrow_row, xrow_at] using g8
          · simpa [xup_row, xup_at, xrow_row, xrow_at] using g9
          · simpa [xup_row, xup_at, xrow_row, xrow_at] using g10
          · simpa [xup_row, xup_at, xrow_row, xrow_at] using g11
        · have L := copy11 (M := xup M 0 0 16 2) (fun k => by rw [e53]; exact hb2 k) hx hy i j z
          rw [K.2.2.1 c1 c2 c3, L.2.2.1 (by rw [e52, e52, qx.1, qy.1]; exact c1') (by rw [e52, e52, qx.1, qy.1]; exact c2) (by rw [e53, e53, dx, dy]; exact c3)]
          exact ⟨R40_up (R40_rf M) (by decide), rfl, INV_st2 h 2 0⟩
      · have L := copy11 (M := xup M 0 0 16 5) (fun k => by rw [e53]; exact hb2 k) hx hy i j z
        rw [K.2.1 c1 c2, L.2.1 (by rw [e52, e52, qx.1, qy.1]; exact c1') (by rw [e52, e52, qx.1, qy.1]; exact c2)]
        exact ⟨R40_up (R40_rf M) (by decide), rfl, INV_st2 h 5 0⟩
  · rw [copy10b a i b j z M c]
    dsimp only
    rw [copy11b a i b j z M c]
    exact ⟨R40_rf M, rfl, INV_thr h⟩
end COPIES
