/-! set, sheet, copy -/
section SHEETS
variable {nb nn : Nat} {M : xM}
theorem hp1 {i0 : Nat} {i : Int32} {M : xM} (h1 : 0 ≤ M 24 i0 2) (h2 : M 24 i0 2 ≤ 60) : f_X6_hasPlaces i0 i 1 M = decide (0 ≤ i ∧ i < M 24 i0 2) := by
  unfold f_X6_hasPlaces; grind
theorem i60 {s k : Nat} (hs : s < 8) (hk : k < 60) : (60 * nI s + nI k).toNatClampNeg = 60 * s + k := by
  rw [nI_m 60 s 60 rfl, nI_add, nI_clamp (by omega)]
def nvl (ln v : Int32) : Int32 := if ln = 0 then v.toInt8.toInt32 else if ln = 1 then v.toInt16.toInt32 else v
theorem set10 (hb : ∀ i : Nat, 0 ≤ M 24 i 2 ∧ M 24 i 2 ≤ 60) (sh i v : Int32) : f_X10_set sh i v M = if 0 ≤ sh ∧ sh ≤ 7 then (if M 24 sh.toNatClampNeg 1 = (-1) then ((-1000011), xup M 0 0 16 1) else if 0 ≤ i ∧ i < M 24 sh.toNatClampNeg 2 then (nvl (M 24 sh.toNatClampNeg 1) v, xup (xup M 25 sh.toNatClampNeg i.toNatClampNeg (nvl (M 24 sh.toNatClampNeg 1) v)) 0 0 16 0) else ((-1000012), xup M 0 0 16 2)) else ((-1000001), M) := by
  unfold f_X10_set f_X6_isMissing f_X10_found f_X10_foundNothing f_X6_put
  simp only [xlet_p, xlet2_p, sheetOf_eq, xb_0]
  by_cases c1 : 0 ≤ sh ∧ sh ≤ 7
  · have b := hb sh.toNatClampNeg
    simp only [if_pos c1, xopt_ps, hp1 b.1 b.2]
    by_cases c2 : M 24 sh.toNatClampNeg 1 = (-1)
    · simp [c2]
    · by_cases c3 : 0 ≤ i ∧ i < M 24 sh.toNatClampNeg 2
      · unfold nvl
        by_cases c4 : M 24 sh.toNatClampNeg 1 = 0
        · simp [c3, c4]
        · by_cases c5 : M 24 sh.toNatClampNeg 1 = 1
          · simp [c3, c5]
          · simp [c2, c3, c4, c5]
      · simp [c2, c3]
  · simp [xopt_pn, c1]
theorem set11 (hb : ∀ i : Nat, 0 ≤ M 53 0 i ∧ M 53 0 i ≤ 60) (sh i v : Int32) : f_X11_set sh i v M = if 0 ≤ sh ∧ sh ≤ 7 then (if 0 ≤ M 52 0 sh.toNatClampNeg then (if 0 ≤ i ∧ i < M 53 0 sh.toNatClampNeg then (nvl (M 52 0 sh.toNatClampNeg) v, xup (xup (xup M 40 0 0 0) 40 0 1 0) 54 0 ((60 * sh) + i).toNatClampNeg (nvl (M 52 0 sh.toNatClampNeg) v)) else ((-1000012), xup (xup (xup M 40 0 0 0) 40 0 1 0) 40 0 1 2)) else ((-1000011), xup (xup (xup M 40 0 0 0) 40 0 1 0) 40 0 1 1)) else ((-1000001), xup M 40 0 0 0) := by
  unfold f_X11_set f_X11_finding
  have e52 : ∀ k : Nat, xup (xup M 40 0 0 0) 40 0 1 0 52 0 k = M 52 0 k := fun k => by rw [xup_k (by decide), xup_k (by decide)]
  have e53 : ∀ k : Nat, xup (xup M 40 0 0 0) 40 0 1 0 53 0 k = M 53 0 k := fun k => by rw [xup_k (by decide), xup_k (by decide)]
  have b := hb sh.toNatClampNeg
  simp only [xlet_p, xlet2_p, isSheet_eq, xb_0, e52, e53, in_0s b.1, xup_same]
  by_cases c1 : 0 ≤ sh ∧ sh ≤ 7
  · by_cases c2 : 0 ≤ M 52 0 sh.toNatClampNeg
    · by_cases c3 : 0 ≤ i ∧ i < M 53 0 sh.toNatClampNeg
      · unfold nvl
        by_cases c4 : M 52 0 sh.toNatClampNeg = 0
        · simp [c1, c2, c3, c4]
        · by_cases c5 : M 52 0 sh.toNatClampNeg = 1
          · simp [c1, c2, c3, c5]
          · simp [c1, c2, c3, c4, c5]
      · simp [c1, c2, c3]
    · simp [c1, c2]
  · simp [c1]
theorem s_set (h : INV nb nn M) (sh i v : Int32) : R40 M (f_X10_set sh i v M).2 ∧ (f_X10_set sh i v M).1 = (f_X11_set sh i v (f_X10_set sh i v M).2).1 ∧ INV nb nn (f_X11_set sh i v (f_X10_set sh i v M).2).2 := by
  have hb := h.sh.1
  have hb2 := h.sh.2.1
  rw [set10 hb]
  by_cases c : 0 ≤ sh ∧ sh ≤ 7
  · rw [if_pos c]
    obtain ⟨k, rfl, hk, hkc⟩ := ix_8 c
    rw [hkc]
    have q := h.sh.2.2 k hk
    by_cases c2 : M 24 k 1 = (-1)
    · rw [if_pos c2, set11 (fun j => by dsimp only; rw [xup_k (by decide)]; exact hb2 j), if_pos c, hkc, if_neg (by dsimp only; rw [xup_k (by decide), q.1, c2]; decide)]
      exact ⟨R40_up (R40_rf M) (by decide), rfl, INV_st2 h 1 0⟩
    · have c3 : 0 ≤ M 24 k 1 := by grind
      obtain ⟨q1, q2⟩ := q.2.2.2 c3
      rw [if_neg c2]
      by_cases c4 : 0 ≤ i ∧ i < M 24 k 2
      · rw [if_pos c4, set11 (fun j => by dsimp only; rw [xup_k (by decide), xup_k (by decide)]; exact hb2 j), if_pos c, hkc, if_pos (by dsimp only; rw [xup_k (by decide), xup_k (by decide), q.1]; exact c3), if_pos (by dsimp only; rw [xup_k (by decide), xup_k (by decide), q1]; exact c4)]
        dsimp only
        have e52 : ∀ w w2 : Int32, xup (xup M 25 k i.toNatClampNeg w) 0 0 16 w2 52 0 k = M 24 k 1 := fun w w2 => by rw [xup_k (by decide), xup_k (by decide)]; exact q.1
        rw [e52]
        generalize nvl (M 24 k 1) v = nv
        obtain ⟨j, rfl, hj⟩ := i32_nat_lt (N := 60) (B := 60) c4.1 (by have := hb k; grind) (by decide)
        rw [i60 hk hj, nI_clamp (by omega)]
        refine ⟨R40_up (R40_up (R40_rf M) (by decide)) (by decide), rfl, ?_⟩
        obtain ⟨g1, g2, g3, g4, g5, g6, g7, g8, g9, g10, g11⟩ := h
        unfold INV
        refine ⟨?_, ?_, ?_, ?_, ?_, ?_, ?_, ?_, ?_, ?_, ?_⟩
        · simpa [xup_row, xup_at] using g1
        · simp only [gSt] at g2 ⊢
          simp [xup_at]
          exact g2.2
        · obtain ⟨s1, s2, s3⟩ := g3
          refine ⟨by simpa [xup_row] using s1, by simpa [xup_row] using s2, fun s hs => ?_⟩
          have z := s3 s hs
          simp only [xup_at]
          refine ⟨by simpa using z.1, by simpa using z.2.1, by simpa using z.2.2.1, fun z4 => ?_⟩
          have z5 := z.2.2.2 (by simpa using z4)
          refine ⟨by simpa using z5.1, fun m hm => ?_⟩
          have hm : m < (M 24 s 2).toNatClampNeg := by simpa [xup_at] using hm
          have hl : (M 24 s 2).toNatClampNeg ≤ 60 := tnc_le (N := 60) (by decide) (s1 s).2
          by_cases e : s = k ∧ m = j
          · obtain ⟨rfl, rfl⟩ := e; simp
          · have : ¬ 60 * s + m = 60 * k + j := by omega
            simp [this, e]; exact z5.2 m hm
        · simpa [xup_row, xup_at] using g4
        · simpa [xup_row, xup_at] using g5
        · simpa [xup_row, xup_at] using g6
        · simpa [xup_row, xup_at] using g7
        · simpa [xup_row, xup_at] using g8
        · simpa [xup_row, xup_at] using g9
        · simpa [xup_row, xup_at] using g10
        · simpa [xup_row, xup_at] using g11
      · rw [if_neg c4, set11 (fun j => by dsimp only; rw [xup_k (by decide)]; exact hb2 j), if_pos c, hkc, if_pos (by dsimp only; rw [xup_k (by decide), q.1]; exact c3), if_neg (by dsimp only; rw [xup_k (by decide), q1]; exact c4)]
        exact ⟨R40_up (R40_rf M) (by decide), rfl, INV_st2 h 2 0⟩
  · rw [if_neg c, set11 hb2, if_neg c]
    exact ⟨R40_rf M, rfl, INV_thr h⟩
theorem begL {i0 : Nat} (ln z : Int32) {zz : Nat} (hz : zz ≤ 60) : ∀ (m i n : Nat) (N : xM) (kx : Int32 → xM → xM), N 24 i0 2 = nI zz → i + m = zz → m < n → f_X6_begin_L17 i0 ln z n (nI i) N kx = kx (nI zz) (xrow N 25 i0 (fun c => if i ≤ c ∧ c < zz then 0 else N 25 i0 c)) := by
  intro m
  induction m with
  | zero =>
    intro i n N kx hN h1 h2
    obtain ⟨n, rfl⟩ : ∃ k, n = k + 1 := ⟨n - 1, by omega⟩
    obtain rfl : i = zz := by omega
    have e : (fun c => if i ≤ c ∧ c < i then 0 else N 25 i0 c) = N 25 i0 := by
      funext c
      rw [if_neg (by omega)]
    rw [f_X6_begin_L17, hN, if_pos (nI_le (Nat.le_refl _) (by omega)), e, xrow_self]
  | succ m ih =>
    intro i n N kx hN h1 h2
    obtain ⟨n, rfl⟩ : ∃ k, n = k + 1 := ⟨n - 1, by omega⟩
    rw [f_X6_begin_L17, hN, if_neg (nI_ge (by omega) (by omega))]
    simp only [xlet_p, nI_1, nI_clamp (show i < 2 ^ 31 by omega)]
    rw [ih (i + 1) n _ kx (by rw [xup_k (by decide)]; exact hN) (by omega) (by omega), xup_row_of, xrow_xrow, xrow_same]
    congr 2
    funext c
    by_cases d : c = i
    · subst d
      rw [if_neg (by omega), if_pos (by omega), pk_us]
    · rw [pk_un d]
      by_cases d2 : i ≤ c ∧ c < zz
      · rw [if_pos d2, if_pos (by omega)]
      · rw [if_neg d2, if_neg (by omega)]
theorem begin_eq {i0 : Nat} (ln : Int32) {zz : Nat} (hz : zz ≤ 60) (M : xM) : f_X6_begin i0 ln (nI zz) M = xrow (xup (xup M 24 i0 1 ln) 24 i0 2 (nI zz)) 25 i0 (fun c => if 0 ≤ c ∧ c < zz then 0 else M 25 i0 c) := by
  unfold f_X6_begin
  have e : (if 60 < nI zz then (60 : Int32) else nI zz) = nI zz := if_neg (show ¬ nI 60 < nI zz from nI_nlt hz (by decide))
  simp only [xlet_p, e, xup_same]
  rw [show (0 : Int32) = nI 0 from rfl, begL ln (nI zz) hz zz 0 _ _ _ xup_same (by omega) (by unfold xmu; rw [nI_toInt (by omega), nI_toInt (by omega)]; omega)]
  rw [show xup (xup M 24 i0 1 ln) 24 i0 2 (nI zz) 25 i0 = M 25 i0 by rw [xup_row (by decide), xup_row (by decide)]]
  rfl
theorem shL65 {s : Nat} (hs : s < 8) (ln z : Int32) : ∀ (m k n : Nat) (N : xM) (kx : Int32 → xM → Int32 × xM), k + m = 60 → m < n → f_X11_sheet_L65 (nI s) ln z n (nI k) N kx = kx 60 (xrow N 54 0 (fun c => if 60 * s + k ≤ c ∧ c < 60 * s + 60 then 0 else N 54 0 c)) := by
  intro m
  induction m with
  | zero =>
    intro i n N kx h1 h2
    obtain ⟨n, rfl⟩ : ∃ k, n = k + 1 := ⟨n - 1, by omega⟩
    obtain rfl : i = 60 := by omega
    have e : (fun c => if 60 * s + 60 ≤ c ∧ c < 60 * s + 60 then 0 else N 54 0 c) = N 54 0 := by
      funext c
      rw [if_neg (by omega)]
    rw [f_X11_sheet_L65, if_pos (by decide), e, xrow_self]
    rfl
  | succ m ih =>
    intro i n N kx h1 h2
    obtain ⟨n, rfl⟩ : ∃ k, n = k + 1 := ⟨n - 1, by omega⟩
    rw [f_X11_sheet_L65, if_neg (show ¬ (60 : Int32) ≤ nI i from nI_ge (b := 60) (by omega) (by decide))]
    simp only [xlet_p, nI_1, i60 hs (show i < 60 by omega)]
    rw [ih (i + 1) n _ kx (by omega) (by omega), xup_row_of, xrow_xrow, xrow_same]
    congr 2
    funext c
    by_cases d : c = 60 * s + i
    · subst d
      rw [if_neg (by omega), if_pos (by omega), pk_us]
    · rw [pk_un d]
      by_cases d2 : 60 * s + i ≤ c ∧ c < 60 * s + 60
      · rw [if_pos d2, if_pos (by omega)]
      · rw [if_neg d2, if_neg (by omega)]
theorem sheet10 (sh ln z : Int32) (M : xM) : f_X10_sheet sh ln z M = if (0 ≤ sh ∧ sh ≤ 7) ∧ (0 ≤ ln ∧ ln ≤ 2) ∧ z ≤ 60 then (if 0 ≤ z then (z, xup (f_X6_begin sh.toNatClampNeg ln z M) 0 0 16 0) else ((-1000014), xup M 0 0 16 4)) else ((-1000001), M) := by
  unfold f_X10_sheet f_X10_found f_X10_foundNothing
  simp only [xlet_p, xlet2_p, sheetOf_eq, isUpTo_eq, xb_0]
  by_cases c1 : 0 ≤ sh ∧ sh ≤ 7
  · simp only [if_pos c1, xopt_ps]
    generalize f_X6_begin sh.toNatClampNeg ln z M = N2
    by_cases c2 : 0 ≤ ln ∧ ln ≤ 2
    · by_cases c3 : z ≤ 60
      · by_cases c4 : 0 ≤ z
        · simp [c1, c2, c3, c4]
        · simp [c1, c2, c3, c4]
      · simp [c1, c2, c3]
    · simp [c1, c2]
  · simp [xopt_pn, c1]
theorem sheet11 (sh ln z : Int32) (M : xM) : f_X11_sheet sh ln z M = if (0 ≤ sh ∧ sh ≤ 7) ∧ (0 ≤ ln ∧ ln ≤ 2) ∧ z ≤ 60 then (if 0 ≤ z then (z, xrow (xup (xup (xup (xup M 40 0 0 0) 40 0 1 0) 52 0 sh.toNatClampNeg ln) 53 0 sh.toNatClampNeg z) 54 0 (fun c => if 60 * sh.toNatClampNeg ≤ c ∧ c < 60 * sh.toNatClampNeg + 60 then 0 else M 54 0 c)) else ((-1000014), xup (xup (xup M 40 0 0 0) 40 0 1 0) 40 0 1 4)) else ((-1000001), xup M 40 0 0 0) := by
  unfold f_X11_sheet f_X11_finding
  simp only [xlet_p, xlet2_p, isSheet_eq, in_0_2, xb_0]
  by_cases c1 : 0 ≤ sh ∧ sh ≤ 7
  · obtain ⟨s, rfl, hs, hsc⟩ := ix_8 c1
    rw [show (0 : Int32) = nI 0 from rfl, shL65 hs ln z 60 0 _ _ _ (by omega) (by decide), show nI 0 = (0 : Int32) from rfl]
    have e54 : ∀ a b c d : Int32, ∀ k : Nat, xup (xup (xup (xup M 40 0 0 a) 40 0 1 b) 52 0 k c) 53 0 k d 54 0 = M 54 0 := fun a b c d k => by rw [xup_row (by decide), xup_row (by decide), xup_row (by decide), xup_row (by decide)]
    rw [hsc, e54]
    by_cases c2 : 0 ≤ ln ∧ ln ≤ 2
    · by_cases c3 : z ≤ 60
      · by_cases c4 : 0 ≤ z
        · simp [c1, c2, c3, c4]
        · simp [c1, c2, c3, c4]
      · simp [c1, c2, c3]
    · simp [c1, c2]
  · simp [c1]
theorem s_sheet (h : INV nb nn M) (sh ln z : Int32) : R40 M (f_X10_sheet sh ln z M).2 ∧ (f_X10_sheet sh ln z M).1 = (f_X11_sheet sh ln z (f_X10_sheet sh ln z M).2).1 ∧ INV nb nn (f_X11_sheet sh ln z (f_X10_sheet sh ln z M).2).2 := by
  rw [sheet10]
  by_cases c : (0 ≤ sh ∧ sh ≤ 7) ∧ (0 ≤ ln ∧ ln ≤ 2) ∧ z ≤ 60
  · rw [if_pos c]
    by_cases c4 : 0 ≤ z
    · rw [if_pos c4, sheet11, if_pos c, if_pos c4]
      obtain ⟨c1, c2, c3⟩ := c
      obtain ⟨k, rfl, hk, hkc⟩ := ix_8 c1
      obtain ⟨zz, rfl, hzz⟩ := i32b (n := 60) (by decide) c4 c3
      rw [hkc, begin_eq ln hzz]
      dsimp only
      refine ⟨R40_up (R40_row (R40_up (R40_up (R40_rf M) (by decide)) (by decide)) (by decide)) (by decide), rfl, ?_⟩
      have e54 : ∀ r v, xup (xrow (xup (xup M 24 k 1 ln) 24 k 2 (nI zz)) 25 k r) 0 0 16 v 54 0 = M 54 0 := fun r v => by rw [xup_row (by decide), xrow_k (by decide), xup_row (by decide), xup_row (by decide)]
      rw [e54]
      obtain ⟨g1, g2, g3, g4, g5, g6, g7, g8, g9, g10, g11⟩ := h
      unfold INV
      refine ⟨?_, ?_, ?_, ?_, ?_, ?_, ?_, ?_, ?_, ?_, ?_⟩
      · simpa [xup_row, xup_at, xrow_row, xrow_at] using g1
      · simp only [gSt] at g2 ⊢
        simp [xup_at, xrow_at]
        exact g2.2
      · obtain ⟨s1, s2, s3⟩ := g3
        refine ⟨fun i => ?_, fun j => ?_, fun s hs => ?_⟩
        · have := s1 i
          simp only [xup_at, xrow_at]
          by_cases e : i = k
          · subst e; simp; exact ⟨c4, c3⟩
          · simp [e]; exact this
        · have := s2 j
          simp only [xup_at, xrow_at]
          by_cases e : j = k
          · subst e; simp; exact ⟨c4, c3⟩
          · simp [e]; exact this
        · have z := s3 s hs
          by_cases e : s = k
          · subst e
            simp [xup_at, xrow_at]
            refine ⟨by grind, c2.2, fun _ m hm => ?_⟩
            rw [nI_clamp (by omega)] at hm
            rw [if_pos (by omega), if_pos (by omega)]
          · simp [xup_at, xrow_at, e]
            refine ⟨z.1, z.2.1, z.2.2.1, fun z4 => ⟨(z.2.2.2 z4).1, fun m hm => ?_⟩⟩
            have hl : (M 24 s 2).toNatClampNeg ≤ 60 := tnc_le (N := 60) (by decide) (s1 s).2
            rw [if_neg (by omega)]
            exact (z.2.2.2 z4).2 m hm
      · simpa [xup_row, xup_at, xrow_row, xrow_at] using g4
      · simpa [xup_row, xup_at, xrow_row, xrow_at] using g5
      · simpa [xup_row, xup_at, xrow_row, xrow_at] using g6
      · simpa [xup_row, xup_at, xrow_row, xrow_at] using g7
      · simpa [xup_row, xup_at, xrow_row, xrow_at] using g8
      · simpa [xup_row, xup_at, xrow_row, xrow_at] using g9
      · simpa [xup_row, xup_at, xrow_row, xrow_at] using g10
      · simpa [xup_row, xup_at, xrow_row, xrow_at] using g11
    · rw [if_neg c4, sheet11, if_pos c, if_neg c4]
      exact ⟨R40_up (R40_rf M) (by decide), rfl, INV_st2 h 4 0⟩
  · rw [if_neg c, sheet11, if_neg c]
    exact ⟨R40_rf M, rfl, INV_thr h⟩
end SHEETS
