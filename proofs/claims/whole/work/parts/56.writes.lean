/-! the calls that write a little -/
def R40 (M N : xM) : Prop := ∀ a b c : Nat, 40 ≤ a → N a b c = M a b c
theorem R40_rf (M : xM) : R40 M M := fun _ _ _ _ => rfl
theorem R40_up {M N : xM} {κ i j : Nat} {v : Int32} (h : R40 M N) (hk : κ < 40) : R40 M (xup N κ i j v) := fun a b c q => by
  rw [xup_k (by omega)]; exact h a b c q
theorem R40_row {M N : xM} {κ i : Nat} {r : Nat → Int32} (h : R40 M N) (hk : κ < 40) : R40 M (xrow N κ i r) := fun a b c q => by
  rw [xrow_at, if_neg (by omega)]; exact h a b c q
theorem R40.at {M N : xM} (h : R40 M N) (a b c : Nat) (q : 40 ≤ a) : N a b c = M a b c := h a b c q
section WRITES
variable {nb nn : Nat} {M : xM}
theorem trader10 (t town v : Int32) (M : xM) : f_X10_trader t town v M = if (0 ≤ t ∧ t ≤ 7) ∧ (0 ≤ town ∧ town ≤ 5) ∧ (0 ≤ v ∧ v ≤ 100) then (1, xup (xup M 26 t.toNatClampNeg 0 town) 26 t.toNatClampNeg 1 v) else ((-1000001), M) := by
  unfold f_X10_trader
  simp only [xlet_p, traderOf_eq, isTown10_eq, isUpTo_eq, xb_0]
  by_cases c1 : 0 ≤ t ∧ t ≤ 7
  · by_cases c2 : 0 ≤ town ∧ town ≤ 5
    · by_cases c3 : 0 ≤ v ∧ v ≤ 100
      · simp [xopt_ps, xopt_pn, c1, c2, c3]
      · simp [xopt_ps, xopt_pn, c1, c2, c3]
    · simp [xopt_ps, xopt_pn, c1, c2]
  · simp [xopt_ps, xopt_pn, c1]
theorem trader11 (t town v : Int32) (M : xM) : f_X11_trader t town v M = if (0 ≤ t ∧ t ≤ 7) ∧ (0 ≤ town ∧ town ≤ 5) ∧ (0 ≤ v ∧ v ≤ 100) then (1, xup (xup (xup M 40 0 0 0) 94 0 t.toNatClampNeg town) 95 0 t.toNatClampNeg v) else ((-1000001), xup M 40 0 0 0) := by
  unfold f_X11_trader
  simp only [xlet_p, isTrader_eq, isTown_eq, in_0_100, xb_0]
  by_cases c1 : 0 ≤ t ∧ t ≤ 7
  · by_cases c2 : 0 ≤ town ∧ town ≤ 5
    · by_cases c3 : 0 ≤ v ∧ v ≤ 100
      · simp [c1, c2, c3]
      · simp [c1, c2, c3]
    · simp [c1, c2]
  · simp [c1]
theorem s_trader (h : INV nb nn M) (t town v : Int32) : R40 M (f_X10_trader t town v M).2 ∧ (f_X10_trader t town v M).1 = (f_X11_trader t town v (f_X10_trader t town v M).2).1 ∧ INV nb nn (f_X11_trader t town v (f_X10_trader t town v M).2).2 := by
  rw [trader10]
  by_cases c : (0 ≤ t ∧ t ≤ 7) ∧ (0 ≤ town ∧ town ≤ 5) ∧ (0 ≤ v ∧ v ≤ 100)
  · rw [if_pos c, trader11, if_pos c]
    dsimp only
    obtain ⟨c1, c2, c3⟩ := c
    obtain ⟨k, rfl, hk, hkc⟩ := ix_8 c1
    rw [hkc]
    refine ⟨R40_up (R40_up (R40_rf M) (by decide)) (by decide), rfl, ?_⟩
    obtain ⟨g1, g2, g3, g4, g5, g6, g7, g8, g9, g10, g11⟩ := h
    unfold INV
    refine ⟨?_, ?_, ?_, ?_, ?_, ?_, ?_, ?_, ?_, ?_, ?_⟩
    · simpa [xup_row, xup_at] using g1
    · simpa [xup_row, xup_at] using g2
    · simpa [xup_row, xup_at] using g3
    · simpa [xup_row, xup_at] using g4
    · simpa [xup_row, xup_at] using g5
    · simpa [xup_row, xup_at] using g6
    · simpa [xup_row, xup_at] using g7
    · simpa [xup_row, xup_at] using g8
    · refine ⟨fun i => ?_, fun j => ?_, fun i hi => ?_⟩
      · have := g9.1 i
        simp only [xup_at]
        grind
      · have := g9.2.1 j
        simp only [xup_at]
        grind
      · have := g9.2.2 i hi
        simp only [xup_at]
        grind
    · simpa [xup_row, xup_at] using g10
    · simpa [xup_row, xup_at] using g11
  · rw [if_neg c, trader11, if_neg c]
    exact ⟨R40_rf M, rfl, INV_thr h⟩
theorem hold10 (h : xHB nb M) (a b v : Int32) : f_X10_hold a b v M = if (0 ≤ a ∧ a < nI nb) ∧ (0 ≤ b ∧ b < nI nb) ∧ (0 ≤ v ∧ v ≤ (if a = b then 99999 else 9999)) then (if a = b then (M 27 a.toNatClampNeg 3, xup M 27 a.toNatClampNeg 3 v) else (M 28 a.toNatClampNeg b.toNatClampNeg, xup M 28 a.toNatClampNeg b.toNatClampNeg v)) else ((-1000001), M) := by
  unfold f_X10_hold f_X0_changeNeed f_X0_changeHeld
  simp only [xlet_p, xlet2_p, bankOf_eq h, isUpTo_eq, xb_0]
  by_cases c1 : 0 ≤ a ∧ a < nI nb
  · by_cases c2 : 0 ≤ b ∧ b < nI nb
    · by_cases c3 : a = b
      · by_cases c4 : 0 ≤ v ∧ v ≤ 99999
        · simp [xopt_ps, c1, c2, c3, c4]
        · simp [xopt_ps, c1, c2, c3, c4]
      · by_cases c4 : 0 ≤ v ∧ v ≤ 9999
        · simp [xopt_ps, c1, c2, c3, c4]
        · simp [xopt_ps, c1, c2, c3, c4]
    · simp [xopt_ps, xopt_pn, c1, c2]
  · simp [xopt_pn, c1]
theorem hold11 (h7 : M 40 0 7 = nI nb) (h8 : nb ≤ 8) (a b v : Int32) : f_X11_hold a b v M = if (0 ≤ a ∧ a < nI nb) ∧ (0 ≤ b ∧ b < nI nb) ∧ (0 ≤ v ∧ v ≤ (if a = b then 99999 else 9999)) then (M 62 0 ((8 * a) + b).toNatClampNeg, xup (xup M 40 0 0 0) 62 0 ((8 * a) + b).toNatClampNeg v) else ((-1000001), xup M 40 0 0 0) := by
  unfold f_X11_hold
  have e7 : xup M 40 0 0 0 40 0 7 = nI nb := by rw [xup_j (by decide)]; exact h7
  have e62 : ∀ k : Nat, xup M 40 0 0 0 62 0 k = M 62 0 k := fun k => xup_k (by decide)
  simp only [xlet_p, isBank_n e7 h8, in_0_99999, in_0_9999, xb_0, e62]
  by_cases c1 : 0 ≤ a ∧ a < nI nb
  · by_cases c2 : 0 ≤ b ∧ b < nI nb
    · by_cases c3 : a = b
      · by_cases c4 : 0 ≤ v ∧ v ≤ 99999
        · simp [c1, c2, c3, c4]
        · simp [c1, c2, c3, c4]
      · by_cases c4 : 0 ≤ v ∧ v ≤ 9999
        · simp [c1, c2, c3, c4]
        · simp [c1, c2, c3, c4]
    · simp [c1, c2]
  · simp [c1]
theorem i8 {a b : Nat} (ha : a < 8) (hb : b < 8) : (8 * nI a + nI b).toNatClampNeg = 8 * a + b := by
  rw [nI_m 8 a 8 rfl, nI_add, nI_clamp (by omega)]
theorem s_hold (h : INV nb nn M) (a b v : Int32) : R40 M (f_X10_hold a b v M).2 ∧ (f_X10_hold a b v M).1 = (f_X11_hold a b v (f_X10_hold a b v M).2).1 ∧ INV nb nn (f_X11_hold a b v (f_X10_hold a b v M).2).2 := by
  rw [hold10 h.hb]
  by_cases c : (0 ≤ a ∧ a < nI nb) ∧ (0 ≤ b ∧ b < nI nb) ∧ (0 ≤ v ∧ v ≤ (if a = b then 99999 else 9999))
  · rw [if_pos c]
    have h8 := h.nb8
    obtain ⟨c1, c2, c3⟩ := id c
    obtain ⟨x, ex, hx, hxc⟩ := ix_n (by omega) c1
    obtain ⟨y, ey, hy, hyc⟩ := ix_n (by omega) c2
    have hbx := h.ba.2.2.2.1 x hx
    by_cases d : a = b
    · rw [if_pos d, hold11 (nb := nb) (by dsimp only; rw [xup_k (by decide)]; exact h.c7) h8, if_pos c]
      subst d
      rw [ex] at ey ⊢
      have exy : x = y := (nI_eq (by omega) (by omega)).mp ey
      rw [hxc, i8 (by omega) (by omega)]
      dsimp only
      refine ⟨R40_up (R40_rf M) (by decide), ?_, ?_⟩
      · rw [xup_k (by decide), ← hbx.2.2.2.1]
        congr 1
        omega
      obtain ⟨g1, g2, g3, g4, g5, g6, g7, g8, g9, g10, g11⟩ := h
      unfold INV
      refine ⟨?_, ?_, ?_, ?_, ?_, ?_, ?_, ?_, ?_, ?_, ?_⟩
      · simpa [xup_row, xup_at] using g1
      · simpa [xup_row, xup_at] using g2
      · simpa [xup_row, xup_at] using g3
      · simpa [xup_row, xup_at] using g4
      · obtain ⟨b1, b2, b3, b4, b5⟩ := g5
        refine ⟨by simpa [xup_at] using b1, fun i => ?_, ?_, fun i hi => ?_, fun i hi hi8 => ?_⟩
        · have := b2 i
          simp only [xup_at]
          grind
        · simpa [xup_row] using b3
        · have q := b4 i hi
          simp only [xup_at]
          refine ⟨by simpa using q.1, by simpa using q.2.1, by simpa using q.2.2.1, ?_, by simpa using q.2.2.2.2.1, by simpa using q.2.2.2.2.2.1, by simpa using q.2.2.2.2.2.2.1, fun j hj hji => ?_, by simpa using q.2.2.2.2.2.2.2.2⟩
          · by_cases z : i = x
            · subst z; simp; intro z2; omega
            · have : ¬ 9 * i = 8 * x + x := by omega
              simp [z, this]; exact q.2.2.2.1
          · have : ¬ 8 * i + j = 8 * x + x := by omega
            simp [this]; exact q.2.2.2.2.2.2.2.1 j hj hji
        · have q := b5 i hi hi8
          simp only [xup_at]
          refine ⟨by simpa using q.1, fun j hj => ?_⟩
          have : ¬ 8 * i + j = 8 * x + x := by omega
          simp [this]; exact q.2 j hj
      · simpa [xup_row, xup_at] using g6
      · simpa [xup_row, xup_at] using g7
      · simpa [xup_row, xup_at] using g8
      · simpa [xup_row, xup_at] using g9
      · simpa [xup_row, xup_at] using g10
      · simpa [xup_row, xup_at] using g11
    · rw [if_neg d, hold11 (nb := nb) (by dsimp only; rw [xup_k (by decide)]; exact h.c7) h8, if_pos c]
      rw [ex, ey] at d ⊢
      have exy : x ≠ y := fun z => d (by rw [z])
      rw [hxc, hyc, i8 (by omega) (by omega)]
      dsimp only
      refine ⟨R40_up (R40_rf M) (by decide), ?_, ?_⟩
      · rw [xup_k (by decide)]
        exact (hbx.2.2.2.2.2.2.2.1 y (by omega) (Ne.symm exy)).symm
      obtain ⟨g1, g2, g3, g4, g5, g6, g7, g8, g9, g10, g11⟩ := h
      unfold INV
      refine ⟨?_, ?_, ?_, ?_, ?_, ?_, ?_, ?_, ?_, ?_, ?_⟩
      · simpa [xup_row, xup_at] using g1
      · simpa [xup_row, xup_at] using g2
      · simpa [xup_row, xup_at] using g3
      · simpa [xup_row, xup_at] using g4
      · obtain ⟨b1, b2, b3, b4, b5⟩ := g5
        refine ⟨by simpa [xup_at] using b1, fun i => ?_, ?_, fun i hi => ?_, fun i hi hi8 => ?_⟩
        · have := b2 i
          simp only [xup_at]
          grind
        · simpa [xup_row] using b3
        · have q := b4 i hi
          simp only [xup_at]
          refine ⟨by simpa using q.1, by simpa using q.2.1, by simpa using q.2.2.1, ?_, by simpa using q.2.2.2.2.1, by simpa using q.2.2.2.2.2.1, ?_, fun j hj hji => ?_, fun j hj hj8 => ?_⟩
          · have : ¬ 9 * i = 8 * x + y := by omega
            simp [this]; exact q.2.2.2.1
          · have : ¬ (i = x ∧ i = y) := by omega
            simp [this]; exact q.2.2.2.2.2.2.1
          · by_cases z : i = x ∧ j = y
            · obtain ⟨rfl, rfl⟩ := z; simp
            · have : ¬ 8 * i + j = 8 * x + y := by omega
              simp [this, z]; exact q.2.2.2.2.2.2.2.1 j hj hji
          · have : ¬ (i = x ∧ j = y) := by omega
            simp [this]; exact q.2.2.2.2.2.2.2.2 j hj hj8
        · have q := b5 i hi hi8
          simp only [xup_at]
          refine ⟨by simpa using q.1, fun j hj => ?_⟩
          have : ¬ 8 * i + j = 8 * x + y := by omega
          simp [this]; exact q.2 j hj
      · simpa [xup_row, xup_at] using g6
      · simpa [xup_row, xup_at] using g7
      · simpa [xup_row, xup_at] using g8
      · simpa [xup_row, xup_at] using g9
      · simpa [xup_row, xup_at] using g10
      · simpa [xup_row, xup_at] using g11
  · rw [if_neg c, hold11 (nb := nb) h.c7 h.nb8, if_neg c]
    exact ⟨R40_rf M, rfl, INV_thr h⟩
theorem drop10 (sh : Int32) (M : xM) : f_X10_drop sh M = if 0 ≤ sh ∧ sh ≤ 7 then (if M 24 sh.toNatClampNeg 1 = (-1) then ((-1000011), xup M 0 0 16 1) else (M 24 sh.toNatClampNeg 2, xup (xup (xup M 24 sh.toNatClampNeg 1 (-1)) 24 sh.toNatClampNeg 2 0) 0 0 16 0)) else ((-1000001), M) := by
  unfold f_X10_drop f_X6_isMissing f_X10_found f_X10_foundNothing f_X6_discard
  simp only [xlet_p, xlet2_p, sheetOf_eq, xb_0]
  by_cases c1 : 0 ≤ sh ∧ sh ≤ 7
  · by_cases c2 : M 24 sh.toNatClampNeg 1 = (-1)
    · simp [xopt_ps, c1, c2]
    · simp [xopt_ps, c1, c2]
  · simp [xopt_pn, c1]
theorem drop11 (sh : Int32) (M : xM) : f_X11_drop sh M = if 0 ≤ sh ∧ sh ≤ 7 then (if 0 ≤ M 52 0 sh.toNatClampNeg then (M 53 0 sh.toNatClampNeg, xup (xup (xup M 40 0 0 0) 40 0 1 0) 52 0 sh.toNatClampNeg (-1)) else ((-1000011), xup (xup (xup M 40 0 0 0) 40 0 1 0) 40 0 1 1)) else ((-1000001), xup M 40 0 0 0) := by
  unfold f_X11_drop f_X11_finding
  have e52 : ∀ k : Nat, xup (xup M 40 0 0 0) 40 0 1 0 52 0 k = M 52 0 k := fun k => by rw [xup_k (by decide), xup_k (by decide)]
  have e53 : ∀ (k j : Nat) (v : Int32), xup (xup (xup M 40 0 0 0) 40 0 1 0) 52 0 j v 53 0 k = M 53 0 k := fun k j v => by rw [xup_k (by decide), xup_k (by decide), xup_k (by decide)]
  simp only [xlet_p, xlet2_p, isSheet_eq, xb_0, e52, e53]
  by_cases c1 : 0 ≤ sh ∧ sh ≤ 7
  · by_cases c2 : 0 ≤ M 52 0 sh.toNatClampNeg
    · simp [c1, c2]
    · simp [c1, c2]
  · simp [c1]
theorem INV_st (h : INV nb nn M) (v : Int32) : INV nb nn (xup (xup (xup M 0 0 16 v) 40 0 0 0) 40 0 1 v) := by
  obtain ⟨g1, g2, g3, g4, g5, g6, g7, g8, g9, g10, g11⟩ := h
  unfold INV
  refine ⟨?_, ?_, ?_, ?_, ?_, ?_, ?_, ?_, ?_, ?_, ?_⟩
  · simpa [xup_row, xup_at] using g1
  · simp only [gSt] at g2 ⊢
    simp [xup_at]
    exact g2.2
  · simpa [xup_row, xup_at] using g3
  · simpa [xup_row, xup_at] using g4
  · simpa [xup_row, xup_at] using g5
  · simpa [xup_row, xup_at] using g6
  · simpa [xup_row, xup_at] using g7
  · simpa [xup_row, xup_at] using g8
  · simpa [xup_row, xup_at] using g9
  · simpa [xup_row, xup_at] using g10
  · simpa [xup_row, xup_at] using g11
theorem INV_st2 (h : INV nb nn M) (v w : Int32) : INV nb nn (xup (xup (xup (xup M 0 0 16 v) 40 0 0 0) 40 0 1 w) 40 0 1 v) := by
  rw [xup_xup]; exact INV_st h v
theorem s_drop (h : INV nb nn M) (sh : Int32) : R40 M (f_X10_drop sh M).2 ∧ (f_X10_drop sh M).1 = (f_X11_drop sh (f_X10_drop sh M).2).1 ∧ INV nb nn (f_X11_drop sh (f_X10_drop sh M).2).2 := by
  rw [drop10]
  by_cases c : 0 ≤ sh ∧ sh ≤ 7
  · rw [if_pos c]
    obtain ⟨k, ek, hk, hkc⟩ := ix_8 c
    have q := h.sh.2.2 k hk
    by_cases c2 : M 24 sh.toNatClampNeg 1 = (-1)
    · rw [if_pos c2, drop11, if_pos c, if_neg (by rw [ek, hkc] at c2 ⊢; dsimp only; rw [xup_k (by decide), q.1, c2]; decide)]
      exact ⟨R40_up (R40_rf M) (by decide), rfl, INV_st2 h 1 0⟩
    · have c3 : 0 ≤ M 24 k 1 := by rw [ek, hkc] at c2; grind
      rw [if_neg c2, drop11, if_pos c, if_pos (by rw [ek, hkc]; dsimp only; rw [xup_k (by decide), xup_k (by decide), xup_k (by decide), q.1]; exact c3)]
      rw [ek, hkc]
      dsimp only
      refine ⟨R40_up (R40_up (R40_up (R40_rf M) (by decide)) (by decide)) (by decide), ?_, ?_⟩
      · rw [xup_k (by decide), xup_k (by decide), xup_k (by decide)]
        exact (q.2.2.2 c3).1.symm
      obtain ⟨g1, g2, g3, g4, g5, g6, g7, g8, g9, g10, g11⟩ := h
      unfold INV
      refine ⟨?_, ?_, ?_, ?_, ?_, ?_, ?_, ?_, ?_, ?_, ?_⟩
      · simpa [xup_row, xup_at] using g1
      · simp only [gSt] at g2 ⊢
        simp [xup_at]
        exact g2.2
      · obtain ⟨s1, s2, s3⟩ := g3
        refine ⟨fun i => ?_, by simpa [xup_row] using s2, fun s hs => ?_⟩
        · have := s1 i
          simp only [xup_at]
          by_cases z : i = k
          · subst z; simp
          · simp [z]; exact this
        · have q := s3 s hs
          by_cases z : s = k
          · subst z; simp [xup_at]
          · simp [xup_at, z, xup_row]; exact q
      · simpa [xup_row, xup_at] using g4
      · simpa [xup_row, xup_at] using g5
      · simpa [xup_row, xup_at] using g6
      · simpa [xup_row, xup_at] using g7
      · simpa [xup_row, xup_at] using g8
      · simpa [xup_row, xup_at] using g9
      · simpa [xup_row, xup_at] using g10
      · simpa [xup_row, xup_at] using g11
  · rw [if_neg c, drop11, if_neg c]
    exact ⟨R40_rf M, rfl, INV_thr h⟩
end WRITES
