/-! way: the call -/
section WAY9
variable {nb nn : Nat} {M : xM}
theorem way10b (town sh i z days what : Int32) (M : xM) (h : ¬ ((0 ≤ town ∧ town ≤ 5) ∧ (0 ≤ sh ∧ sh ≤ 7) ∧ (1 ≤ z ∧ z ≤ 8) ∧ (1 ≤ days ∧ days ≤ 6) ∧ (0 ≤ what ∧ what ≤ 1))) : f_X10_way town sh i z days what M = ((-1000001), M) := by
  unfold f_X10_way
  simp only [xlet_p, sheetOf_eq, isTown10_eq, isUpTo_eq, xb_0, decide_eq_false_iff_not]
  by_cases c2 : 0 ≤ sh ∧ sh ≤ 7
  · rw [if_pos c2, xopt_ps]
    by_cases c1 : 0 ≤ town ∧ town ≤ 5
    · rw [if_neg (fun q => q c1)]
      by_cases c5 : 0 ≤ what ∧ what ≤ 1
      · rw [if_neg (fun q => q c5)]
        by_cases a1 : z < 1
        · rw [if_pos a1]
        · rw [if_neg a1]
          by_cases a2 : 8 < z
          · rw [if_pos a2]
          · rw [if_neg a2]
            by_cases a3 : days < 1
            · rw [if_pos a3]
            · rw [if_neg a3]
              by_cases a4 : days ≤ 6
              · exact absurd ⟨c1, c2, ⟨Int32.not_lt.mp a1, Int32.not_lt.mp a2⟩, ⟨Int32.not_lt.mp a3, a4⟩, c5⟩ h
              · rw [if_neg a4]
      · rw [if_pos c5]
    · rw [if_pos c1]
  · rw [if_neg c2, xopt_pn]
    split <;> rfl
theorem way11b (town sh i z days what : Int32) (N : xM) (h : ¬ ((0 ≤ town ∧ town ≤ 5) ∧ (0 ≤ sh ∧ sh ≤ 7) ∧ (1 ≤ z ∧ z ≤ 8) ∧ (1 ≤ days ∧ days ≤ 6) ∧ (0 ≤ what ∧ what ≤ 1))) : f_X11_way town sh i z days what N = ((-1000001), xup N 40 0 0 0) := by
  unfold f_X11_way
  simp only [xlet_p, isTown_eq, isSheet_eq, in_1_8, in_1_6, in_0_1, xb_0, decide_eq_false_iff_not]
  by_cases c1 : 0 ≤ town ∧ town ≤ 5
  · rw [if_neg (fun q => q c1)]
    by_cases c2 : 0 ≤ sh ∧ sh ≤ 7
    · rw [if_neg (fun q => q c2)]
      by_cases c3 : 1 ≤ z ∧ z ≤ 8
      · rw [if_neg (fun q => q c3)]
        by_cases c4 : 1 ≤ days ∧ days ≤ 6
        · rw [if_neg (fun q => q c4)]
          by_cases c5 : 0 ≤ what ∧ what ≤ 1
          · exact absurd ⟨c1, c2, c3, c4, c5⟩ h
          · rw [if_pos c5]
        · rw [if_pos c4]
      · rw [if_pos c3]
    · rw [if_pos c2]
  · rw [if_pos c1]
theorem s_way (h : INV nb nn M) (town sh i z days what : Int32) : R40 M (f_X10_way town sh i z days what M).2 ∧ (f_X10_way town sh i z days what M).1 = (f_X11_way town sh i z days what (f_X10_way town sh i z days what M).2).1 ∧ INV nb nn (f_X11_way town sh i z days what (f_X10_way town sh i z days what M).2).2 := by
  by_cases c : (0 ≤ town ∧ town ≤ 5) ∧ (0 ≤ sh ∧ sh ≤ 7) ∧ (1 ≤ z ∧ z ≤ 8) ∧ (1 ≤ days ∧ days ≤ 6) ∧ (0 ≤ what ∧ what ≤ 1)
  · obtain ⟨c1, c2, c3, c4, c5⟩ := c
    obtain ⟨t, rfl, ht, htc⟩ := ix_6 c1
    obtain ⟨s, rfl, hs, hsc⟩ := ix_8 c2
    obtain ⟨z, rfl, hz⟩ := i32b (n := 8) (by decide) (Int32.le_trans (by decide) c3.1) c3.2
    obtain ⟨D, rfl, hD⟩ := i32b (n := 6) (by decide) (Int32.le_trans (by decide) c4.1) c4.2
    have hz1 : 1 ≤ z := (nI_leI (a := 1) (by omega) (by omega)).mp c3.1
    have hD1 : 1 ≤ D := (nI_leI (a := 1) (by omega) (by omega)).mp c4.1
    obtain ⟨r, rfl⟩ : ∃ r, D = r + 1 := ⟨D - 1, by omega⟩
    have hb := h.sh.1
    have hb2 := h.sh.2.1
    have q := h.sh.2.2 s hs
    have p1 := hasP (i0 := s) (i := i) (z := nI z) hb
    have K : f_X10_way (nI t) (nI s) i (nI z) (nI (r + 1)) what M = if M 24 s 1 = (-1) then ((-1000011), xup M 0 0 16 1) else if f_X6_hasPlaces s i (nI z) M = true then (if f_X10_areDifferentNotes s i (nI z) M = true then f_X10_way_L109 (nI t) (nI s) i (nI z) (nI (r + 1)) what s (xmu (0 : Int32) (nI z) + 1) (0 : Int32) M (wk10 (nI t) (nI z) (nI (r + 1)) what) else ((-1000001), M)) else ((-1000012), xup M 0 0 16 2) := by
      unfold f_X10_way f_X6_isMissing f_X10_found f_X10_foundNothing wk10
      simp only [xlet_p, xlet2_p, sheetOf_eq, isTown10_eq, isUpTo_eq, xb_0, if_pos c2, xopt_ps, hsc, decide_eq_false_iff_not]
      rw [if_neg (fun q => q c1), if_neg (fun q => q c5), if_neg (Int32.not_lt.mpr c3.1), if_neg (Int32.not_lt.mpr c3.2), if_neg (Int32.not_lt.mpr c4.1), if_pos c4.2]
      by_cases d1 : M 24 s 1 = (-1)
      · simp only [if_pos d1]; rfl
      · simp only [if_neg d1]
        rw [if_pos trivial]
        by_cases e : f_X6_hasPlaces s i (nI z) M = true
        · rw [if_neg (by rw [e]; decide), if_pos e]
          by_cases e2 : f_X10_areDifferentNotes s i (nI z) M = true
          · rw [if_neg (by rw [e2]; decide), if_pos e2]
          · rw [if_pos (by simpa using e2), if_neg e2]
        · rw [if_pos (by simpa using e), if_neg e]; rfl
    have KM : ∀ N : xM, (∀ j : Nat, 0 ≤ N 53 0 j ∧ N 53 0 j ≤ 60) → f_X11_way (nI t) (nI s) i (nI z) (nI (r + 1)) what N = if N 52 0 s < 0 then ((-1000011), xup (xup N 40 0 0 0) 40 0 1 1) else if plc i (nI z) (N 53 0 s) then f_X11_way_L80 (nI t) (nI s) i (nI z) (nI (r + 1)) what 0 (xmu (0 : Int32) (nI z) + 1) (0 : Int32) (xup N 40 0 0 0) (wk11 (nI t) (nI s) i (nI z) (nI (r + 1)) what) else ((-1000012), xup (xup N 40 0 0 0) 40 0 1 2) := by
      intro N hN
      have n52 : xup N 40 0 0 0 52 0 s = N 52 0 s := xup_k (by decide)
      have n53 : ∀ j : Nat, xup N 40 0 0 0 53 0 j = N 53 0 j := fun j => xup_k (by decide)
      unfold f_X11_way wk11
      simp only [xlet_p, xlet2_p, isTown_eq, isSheet_eq, in_1_8, in_1_6, in_0_1, xb_0, decide_eq_false_iff_not]
      rw [if_neg (fun q => q c1), if_neg (fun q => q c2), if_neg (fun q => q c3), if_neg (fun q => q c4), if_neg (fun q => q c5), look_eq (fun j => by rw [n53]; exact hN j) hs i (nI z) (Int32.le_trans (by decide) c3.1), n52, n53]
      by_cases c1 : N 52 0 s < 0
      · rw [if_pos c1, if_pos c1]; dsimp only; rw [if_neg (by decide)]
      · rw [if_neg c1, if_neg c1]
        by_cases c2 : plc i (nI z) (N 53 0 s)
        · rw [if_pos c2, if_pos c2]; dsimp only; rw [if_pos (by decide)]
        · rw [if_neg c2, if_neg c2]; dsimp only; rw [if_neg (by decide)]
    have e53 : ∀ (v : Int32) (k : Nat), xup M 0 0 16 v 53 0 k = M 53 0 k := fun v k => xup_k (by decide)
    have e52 : ∀ (v : Int32) (k : Nat), xup M 0 0 16 v 52 0 k = M 52 0 k := fun v k => xup_k (by decide)
    rw [K]
    by_cases c1 : M 24 s 1 = (-1)
    · rw [if_pos c1, KM _ (fun k => by dsimp only; rw [e53]; exact hb2 k), if_pos (by dsimp only; rw [e52, q.1, c1]; decide)]
      exact ⟨R40_up (R40_rf M) (by decide), rfl, INV_st h 1⟩
    · have px : 0 ≤ M 24 s 1 := by have := q.2.1; grind
      have pn : ¬ M 52 0 s < 0 := by rw [q.1]; exact Int32.not_lt.mpr px
      obtain ⟨dx, ix⟩ := q.2.2.2 px
      rw [if_neg c1]
      by_cases c2 : plc i (nI z) (M 24 s 2)
      · rw [if_pos (p1.mpr c2)]
        obtain ⟨i1, i2, i3, i4, i5⟩ := id c2
        have a1 := tnc_add i1 i2 (Int32.le_trans i3 (by decide)) (Int32.le_trans i4 (by decide))
        have b1 : (i + nI z).toNatClampNeg ≤ (M 24 s 2).toNatClampNeg := tnc_mono i5
        have lx : (M 24 s 2).toNatClampNeg ≤ 60 := tnc_le (N := 60) (by decide) (hb s).2
        rw [nI_clamp (show z < 2 ^ 31 by omega)] at a1
        obtain ⟨ii, rfl, hii⟩ := i32b (n := 60) (by decide) i1 i3
        rw [nI_clamp (by omega)] at a1
        have hl : ∀ k, k < z → M 54 0 (60 * s + ii + k) = M 25 s (ii + k) := fun k hk => by
          rw [Nat.add_assoc]; exact ix (ii + k) (by omega)
        have dE : ∀ k, k < z → (dOK nn (fun p => M 54 0 (60 * s + ii + p)) k ↔ dOK nn (fun p => M 25 s (ii + p)) k) := by
          intro k hk
          unfold dOK
          dsimp only
          rw [hl k hk]
          exact ⟨fun w => ⟨w.1, fun p hp => by rw [← hl p (by omega)]; exact w.2 p hp⟩, fun w => ⟨w.1, fun p hp => by rw [hl p (by omega)]; exact w.2 p hp⟩⟩
        have fz : z < xmu (0 : Int32) (nI z) + 1 := by unfold xmu; rw [nI_toInt (by omega)]; simp
        have adE := ad_eq (sq := s) h.hn h.nn24 hz hii (z := z)
        by_cases c3 : ∀ k, k < z → dOK nn (fun p => M 25 s (ii + p)) k
        · rw [if_pos (adE.mpr c3)]
          obtain ⟨x10, C, hC⟩ : ∃ x10 C, f_X10_way_L109 (nI t) (nI s) (nI ii) (nI z) (nI (r + 1)) what s (xmu (0 : Int32) (nI z) + 1) (0 : Int32) M (wk10 (nI t) (nI z) (nI (r + 1)) what) = (x10, C) := ⟨_, _, rfl⟩
          obtain ⟨r1, r2, r3, r4⟩ := way_same h ht hs hii hz1 hz (show r ≤ 5 by omega) what hl c3 C x10 hC
          rw [hC]
          dsimp only
          have C53 : ∀ k : Nat, C 53 0 k = M 53 0 k := fun k => r1 53 0 k (by decide)
          rw [KM C (fun k => by rw [C53]; exact hb2 k), r1 52 0 s (by decide), if_neg pn, C53, dx, if_pos c2]
          have B54 : ∀ k : Nat, xup C 40 0 0 0 54 0 k = M 54 0 k := fun k => by rw [xup_k (by decide)]; exact r1 54 0 k (by decide)
          obtain ⟨D, d1, d2, -⟩ := w80 (nn := nn) (s := s) (i := ii) (z := z) (B := xup C 40 0 0 0) (by rw [xup_j (by decide), r1 40 0 30 (by decide)]; exact h.c30) h.nn24 hs hz hii (nI t) (nI (r + 1)) what 0 z 0 (xmu (0 : Int32) (nI z) + 1) (xup C 40 0 0 0) (wk11 (nI t) (nI s) (nI ii) (nI z) (nI (r + 1)) what) (by omega) fz (xfr_rf _ _) (fun p q => by omega)
          have okB : ∀ k', 0 ≤ k' → k' < z → dOK nn (fun p => xup C 40 0 0 0 54 0 (60 * s + ii + p)) k' := fun k' _ hk => by
            have e : (fun p => xup C 40 0 0 0 54 0 (60 * s + ii + p)) = fun p => M 54 0 (60 * s + ii + p) := by funext p; exact B54 _
            rw [e]; exact (dE k' hk).mpr (c3 k' hk)
          obtain ⟨⟨x, d3⟩, d4⟩ := d2 okB
          obtain ⟨D', g1, g2⟩ := r4 D (fun a b c q1 q2 q3 => by rw [d1 a b c q2, xup_at, if_neg q3]; exact r1 a b c q1) (fun k hk => by rw [d4 k hk, B54]; exact hl k hk) x
          have e0 : f_X11_way_L80 (nI t) (nI s) (nI ii) (nI z) (nI (r + 1)) what 0 (xmu (0 : Int32) (nI z) + 1) (0 : Int32) (xup C 40 0 0 0) (wk11 (nI t) (nI s) (nI ii) (nI z) (nI (r + 1)) what) = (x10, D') := d3.trans g1
          rw [e0]
          refine ⟨r1, rfl, INV_jk (INV_st h 0) (fun a b c w => ?_)⟩
          have w' := w
          unfold jk at w'
          dsimp only
          rw [g2 a b c (by omega), xup_at, xup_at (xup (xup M 0 0 16 0) 40 0 0 0)]
          by_cases e1 : a = 40 ∧ b = 0 ∧ c = 1
          · rw [if_pos e1, if_pos e1]
          · rw [if_neg e1, if_neg e1, d1 a b c (by omega), xup_at, xup_at (xup M 0 0 16 0)]
            by_cases e2 : a = 40 ∧ b = 0 ∧ c = 0
            · rw [if_pos e2, if_pos e2]
            · rw [if_neg e2, if_neg e2, xup_at]
              by_cases e3 : a = 0 ∧ b = 0 ∧ c = 16
              · obtain ⟨rfl, rfl, rfl⟩ := e3
                rw [if_pos ⟨rfl, rfl, rfl⟩]; exact r3
              · rw [if_neg e3]; exact r2 a b c w e3
        · rw [if_neg (fun q => c3 (adE.mp q))]
          dsimp only
          rw [KM M hb2, if_neg pn, dx, if_pos c2]
          obtain ⟨D, d1, -, d2⟩ := w80 (nn := nn) (s := s) (i := ii) (z := z) (B := xup M 40 0 0 0) (by rw [xup_j (by decide)]; exact h.c30) h.nn24 hs hz hii (nI t) (nI (r + 1)) what 0 z 0 (xmu (0 : Int32) (nI z) + 1) (xup M 40 0 0 0) (wk11 (nI t) (nI s) (nI ii) (nI z) (nI (r + 1)) what) (by omega) fz (xfr_rf _ _) (fun p q => by omega)
          have nB : ¬ ∀ k', 0 ≤ k' → k' < z → dOK nn (fun p => xup M 40 0 0 0 54 0 (60 * s + ii + p)) k' := fun w => c3 (fun k hk => by
            have e : (fun p => xup M 40 0 0 0 54 0 (60 * s + ii + p)) = fun p => M 54 0 (60 * s + ii + p) := by funext p; exact xup_k (by decide)
            have w2 := w k (Nat.zero_le _) hk
            rw [e] at w2
            exact (dE k hk).mp w2)
          have e0 : f_X11_way_L80 (nI t) (nI s) (nI ii) (nI z) (nI (r + 1)) what 0 (xmu (0 : Int32) (nI z) + 1) (0 : Int32) (xup M 40 0 0 0) (wk11 (nI t) (nI s) (nI ii) (nI z) (nI (r + 1)) what) = ((-1000001), D) := d2 nB
          rw [e0]
          refine ⟨R40_rf M, rfl, INV_jk h (fun a b c w => ?_)⟩
          unfold jk at w
          dsimp only
          rw [d1 a b c (by omega), xup_at, if_neg (by omega)]
      · rw [if_neg (fun z => c2 (p1.mp z)), KM _ (fun k => by dsimp only; rw [e53]; exact hb2 k), if_neg (by dsimp only; rw [e52]; exact pn), if_neg (by dsimp only; rw [e53, dx]; exact c2)]
        exact ⟨R40_up (R40_rf M) (by decide), rfl, INV_st h 2⟩
  · rw [way10b _ _ _ _ _ _ _ c]
    dsimp only
    rw [way11b _ _ _ _ _ _ _ c]
    exact ⟨R40_rf M, rfl, INV_thr h⟩
end WAY9
