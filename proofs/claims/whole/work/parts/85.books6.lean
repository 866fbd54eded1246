/-! books: the call -/
section BOOKS6
variable {nb nn : Nat} {M : xM}
theorem INV_bk {D : xM} (h : INV nb nn M) (hq : ∀ a b c : Nat, ¬ (a = 4 ∨ a = 5 ∨ a = 6 ∨ (15 ≤ a ∧ a ≤ 18) ∨ (65 ≤ a ∧ a ≤ 68)) → ¬ (a = 0 ∧ b = 0 ∧ c = 15) → ¬ (a = 40 ∧ b = 0 ∧ (c = 0 ∨ c = 14 ∨ c = 19 ∨ c = 21 ∨ c = 22 ∨ 23 ≤ c ∧ c ≤ 29)) → D a b c = M a b c) (hst : D 0 0 15 = D 40 0 22) (hen : gEn (D 15 0) (D 16 0) (D 17 0) (D 18 0) (D 65 0) (D 66 0) (D 67 0) (D 68 0) (D 4 0 4) (D 40 0 14)) (hta : gTa (D 19 0) (D 70 0) (D 5 0 2) (D 40 0 21)) : INV nb nn D := by
  have r : ∀ a : Nat, ¬ (a = 0 ∨ a = 4 ∨ a = 5 ∨ a = 6 ∨ (15 ≤ a ∧ a ≤ 18) ∨ (65 ≤ a ∧ a ≤ 68) ∨ a = 40) → D a = M a := by
    intro a ha
    funext b c
    exact hq a b c (by omega) (by omega) (by omega)
  have c0 : ∀ c : Nat, c ≠ 15 → D 0 0 c = M 0 0 c := fun c hc => hq 0 0 c (by omega) (by omega) (by omega)
  have c40 : ∀ c : Nat, ¬ (c = 0 ∨ c = 14 ∨ c = 19 ∨ c = 21 ∨ c = 22 ∨ 23 ≤ c ∧ c ≤ 29) → D 40 0 c = M 40 0 c := fun c hc => hq 40 0 c (by omega) (by omega) (by omega)
  obtain ⟨g1, g2, g3, g4, g5, g6, g7, g8, g9, g10, g11⟩ := h
  refine ⟨?_, ?_, ?_, ?_, ?_, hen, hta, ?_, ?_, ?_, ?_⟩
  · rw [c0 12 (by decide), c0 13 (by decide), r 1 (by decide), r 3 (by decide), r 7 (by decide), r 8 (by decide)]; exact g1
  · rw [c0 16 (by decide), c0 14 (by decide), c40 1 (by omega), c40 13 (by omega)]; exact ⟨g2.1, g2.2.1, g2.2.2.1, g2.2.2.2.1, hst⟩
  · rw [r 24 (by decide), r 25 (by decide), r 52 (by decide), r 53 (by decide), r 54 (by decide)]; exact g3
  · rw [r 13 (by decide), r 14 (by decide), r 55 (by decide)]; exact g4
  · rw [r 27 (by decide), r 28 (by decide), r 58 (by decide), r 59 (by decide), r 60 (by decide), r 61 (by decide), r 62 (by decide), c40 7 (by omega)]; exact g5
  · rw [r 29 (by decide), r 30 (by decide), r 31 (by decide), r 81 (by decide), r 82 (by decide), r 83 (by decide), r 84 (by decide), r 85 (by decide), r 86 (by decide), r 87 (by decide), r 88 (by decide), r 89 (by decide), r 90 (by decide), r 91 (by decide), r 92 (by decide), r 93 (by decide), c40 30 (by omega)]; exact g8
  · rw [r 26 (by decide), r 94 (by decide), r 95 (by decide)]; exact g9
  · rw [r 10 (by decide), r 96 (by decide)]; exact g10
  · rw [r 23 (by decide), r 99 (by decide), r 12 (by decide), c40 50 (by omega)]; exact g11
/-- the reference as it begins to read -/
def bkZ (C : xM) : xM := xup (xup (xup (xup (xup (xup C 40 0 0 0) 40 0 23 (C 40 0 21)) 40 0 21 0) 40 0 24 0) 40 0 28 0) 40 0 19 (C 40 0 14)
theorem bkZ_at (C : xM) (a b c : Nat) : bkZ C a b c = if a = 40 ∧ b = 0 ∧ c = 19 then C 40 0 14 else if a = 40 ∧ b = 0 ∧ (c = 28 ∨ c = 24 ∨ c = 21 ∨ c = 0) then 0 else if a = 40 ∧ b = 0 ∧ c = 23 then C 40 0 21 else C a b c := by
  unfold bkZ
  simp only [xup_at]
  by_cases a40 : a = 40 ∧ b = 0
  · obtain ⟨rfl, rfl⟩ := a40
    simp
    by_cases e19 : c = 19
    · simp [e19]
    · by_cases e28 : c = 28
      · simp [e28]
      · by_cases e24 : c = 24
        · simp [e24]
        · by_cases e21 : c = 21
          · simp [e21]
          · by_cases e23 : c = 23
            · simp [e23]
            · simp [e19, e28, e24, e21, e23]
  · have y : ∀ P, ¬ (a = 40 ∧ b = 0 ∧ P) := fun P w => a40 ⟨w.1, w.2.1⟩
    simp only [y, if_false]
def kxB : xM → Int32 × xM := fun M_63 => if (M_63 40 0 28) ≤ 0 then (M_63 40 0 19, xup M_63 40 0 14 (M_63 40 0 19)) else (((-1000100) - (M_63 40 0 29)), xup M_63 40 0 22 (M_63 40 0 28))
theorem books11 (C : xM) : f_X11_books C = f_X11_books_L40 ((if f_X11_step (bkZ C) 40 0 25 = 1 then 0 else pM (f_X11_step (bkZ C))) + 1) (f_X11_step (bkZ C)) kxB := by
  unfold f_X11_books
  have e1 : xup C 40 0 0 0 40 0 21 = C 40 0 21 := xup_j (by decide)
  have e2 : xup (xup (xup (xup (xup C 40 0 0 0) 40 0 23 (C 40 0 21)) 40 0 21 0) 40 0 24 0) 40 0 28 0 40 0 14 = C 40 0 14 := by simp [xup_at]
  simp only [xlet_p, e1, e2]
  have k : (fun M_63 : xM => if (M_63 40 0 28) ≤ 0 then ((xup M_63 40 0 14 (M_63 40 0 19)) 40 0 14, xup M_63 40 0 14 (M_63 40 0 19)) else (((-1000100) - ((xup M_63 40 0 22 (M_63 40 0 28)) 40 0 29)), xup M_63 40 0 22 (M_63 40 0 28))) = kxB := by
    funext X
    unfold kxB
    rw [xup_same, xup_j (by decide)]
  rw [k]
  rfl
theorem bkRun (h : INV nb nn M) (C : xM) (hC : R40 M C) : ∃ Rf, f_X11_books C = kxB Rf ∧ OO M (bkZ C) (M 4 0 4).toNatClampNeg (M 5 0 2) (f_X1_readTape (nI nb) M) Rf := by
  obtain ⟨t1, t2, t3, t4, t5⟩ := h.ta
  obtain ⟨e1, e2, e3, e4⟩ := h.en
  obtain ⟨z1, z2⟩ := nsz e2 e3
  generalize hsz : (M 4 0 4).toNatClampNeg = sz at z1 z2 e4
  have c40 : ∀ c : Nat, C 40 0 c = M 40 0 c := fun c => hC 40 0 c (by decide)
  have zat := bkZ_at C
  have S : BS (M 19 0) (M 70 0) (M 5 0 2) M (bkZ C) sz nb := by
    refine ⟨t5, t4, t3, z1, z2, ?_, h.nb8⟩
    rw [zat, if_neg (by omega), if_neg (by omega), if_neg (by omega), c40]; exact h.c7
  have r70 : bkZ C 70 0 = M 70 0 := by
    funext j
    rw [zat, if_neg (by omega), if_neg (by omega), if_neg (by omega)]; exact hC 70 0 j (by decide)
  have r23 : bkZ C 40 0 23 = M 5 0 2 := by rw [zat, if_neg (by omega), if_neg (by omega), if_pos ⟨rfl, rfl, rfl⟩, c40]; exact t1
  have r24 : bkZ C 40 0 24 = 0 := by rw [zat, if_neg (by omega), if_pos ⟨rfl, rfl, by omega⟩]
  have r28 : bkZ C 40 0 28 = 0 := by rw [zat, if_neg (by omega), if_pos ⟨rfl, rfl, by omega⟩]
  have r19 : bkZ C 40 0 19 = nI sz := by rw [zat, if_pos ⟨rfl, rfl, rfl⟩, c40, e1]; exact z1
  have n5 : ∀ c : Nat, c ≠ 1 → xup (xup (xup M 5 0 1 0) 6 0 2 0) 6 0 6 0 5 0 c = M 5 0 c := fun c hc => by rw [xup_k (by decide), xup_k (by decide), xup_j hc]
  have n51 : xup (xup (xup M 5 0 1 0) 6 0 2 0) 6 0 6 0 5 0 1 = 0 := by rw [xup_k (by decide), xup_k (by decide), xup_same]
  have n19 : xup (xup (xup M 5 0 1 0) 6 0 2 0) 6 0 6 0 19 0 = M 19 0 := by rw [xup_row (by decide), xup_row (by decide), xup_row (by decide)]
  have no : ∀ a b c : Nat, ¬ a = 5 → ¬ a = 6 → xup (xup (xup M 5 0 1 0) 6 0 2 0) 6 0 6 0 a b c = M a b c := fun a b c q1 q2 => by rw [xup_k q2, xup_k q2, xup_k q1]
  have n66 : xup (xup (xup M 5 0 1 0) 6 0 2 0) 6 0 6 0 6 0 6 = 0 := xup_same
  have n62 : xup (xup (xup M 5 0 1 0) 6 0 2 0) 6 0 6 0 6 0 2 = 0 := by rw [xup_j (by decide), xup_same]
  have hB : ∀ j : Nat, 0 ≤ bkZ C 70 0 j := by rw [r70]; exact t4
  have TR0 := TR_go (N := xup (xup (xup M 5 0 1 0) 6 0 2 0) 6 0 6 0) (R := bkZ C) S.1 t4 (p := 0) (by decide) t2 n19 (n5 2 (by decide)) n51 r70 r23 r24
  have hl : xup (xup (xup M 5 0 1 0) 6 0 2 0) 6 0 6 0 5 0 1 ≤ xup (xup (xup M 5 0 1 0) 6 0 2 0) 6 0 6 0 5 0 2 := by rw [n51, n5 2 (by decide)]; exact t2
  have ro : ∀ a b c : Nat, ¬ a = 5 → f_X7_readToken (xup (xup (xup M 5 0 1 0) 6 0 2 0) 6 0 6 0) a b c = xup (xup (xup M 5 0 1 0) 6 0 2 0) 6 0 6 0 a b c := fun a b c z => rt_o hl z
  have so : ∀ a b c : Nat, ¬ (a = 40 ∧ b = 0 ∧ 24 ≤ c ∧ c ≤ 29) → f_X11_step (bkZ C) a b c = bkZ C a b c := fun a b c z => pfr_step _ hB a b c z
  have hJ : pJ (f_X11_step (bkZ C)) := step_J0 (by rw [r24]; decide) (by rw [r24, r23]; exact t2) (by rw [r23]; exact t3) hB r28
  have D0 : DD M (bkZ C) sz 0 (f_X7_readToken (xup (xup (xup M 5 0 1 0) 6 0 2 0) 6 0 6 0)) (f_X11_step (bkZ C)) := by
    refine ⟨fun a b c q1 q2 q3 => ?_, fun a b c q1 q2 => ?_, ?_, ?_, by omega, fun k hk => ?_, ?_, hJ⟩
    · rw [ro a b c q1, no a b c q1 q2]
    · rw [so a b c (fun z => q1 ⟨z.1, z.2.1, by omega⟩)]
    · rw [ro 6 0 6 (by decide), n66]; rfl
    · rw [so 40 0 19 (by omega), r19]; rfl
    · have q := e4 k (by omega)
      rw [ro 15 0 k (by decide), ro 16 0 k (by decide), ro 17 0 k (by decide), ro 18 0 k (by decide), no 15 0 k (by decide) (by decide), no 16 0 k (by decide) (by decide), no 17 0 k (by decide) (by decide), no 18 0 k (by decide) (by decide), so 65 0 k (by omega), so 66 0 k (by omega), so 67 0 k (by omega), so 68 0 k (by omega)]
      have zz : ∀ a : Nat, 65 ≤ a → a ≤ 68 → bkZ C a 0 k = M a 0 k := fun a q1 q2 => by rw [zat, if_neg (by omega), if_neg (by omega), if_neg (by omega)]; exact hC a 0 k (by omega)
      rw [zz 65 (by omega) (by omega), zz 66 (by omega) (by omega), zz 67 (by omega) (by omega), zz 68 (by omega) (by omega)]
      exact q
    · rw [step_28 _ hB]; exact r28
  obtain ⟨Rf, f1, f2⟩ := (simB S 401).1 0 _ _ _ 0 ((if f_X11_step (bkZ C) 40 0 25 = 1 then 0 else pM (f_X11_step (bkZ C))) + 1) D0 TR0 (by rw [ro 6 0 2 (by decide), n62]) (tkS_ge _ _ _) (by omega) (by omega) (by omega) (fun z => by rw [if_neg z]; omega)
  refine ⟨Rf, ?_, ?_⟩
  · rw [books11, f1]
  · have e : f_X1_readTape (nI nb) M = cT nb 401 0 (f_X7_readToken (xup (xup (xup M 5 0 1 0) 6 0 2 0) 6 0 6 0)) := by
      rw [← cT_eq (by omega)]
      unfold f_X1_readTape f_X7_rewind
      simp only [xlet_p]
      rfl
    rw [e]
    exact f2
theorem keep_eq {N : xM} {m : Nat} (h : N 4 0 4 + N 6 0 6 = nI m) (hm : m ≤ 40) : f_X2_keep (N 6 0 6) N = xup N 4 0 4 (nI m) := by
  unfold f_X2_keep
  simp only [xlet_p, h]
  rw [if_neg (show ¬ (40 : Int32) < nI m from nI_nlt (a := 40) hm (by decide))]
theorem s_books (h : INV nb nn M) : R40 M (f_X10_books M).2 ∧ (f_X10_books M).1 = (f_X11_books (f_X10_books M).2).1 ∧ INV nb nn (f_X11_books (f_X10_books M).2).2 := by
  obtain ⟨t1, t2, t3, t4, t5⟩ := h.ta
  obtain ⟨e1, e2, e3, e4⟩ := h.en
  obtain ⟨z1, z2⟩ := nsz e2 e3
  have K : f_X10_books M = if (f_X1_readTape (nI nb) M).1 = 0 then ((f_X1_readTape (nI nb) M).2 4 0 4, xup (f_X1_readTape (nI nb) M).2 5 0 2 0) else (((-1000100) - (f_X1_readTape (nI nb) M).2 5 0 4), xup (xup (f_X1_readTape (nI nb) M).2 5 0 2 0) 0 0 15 (f_X1_readTape (nI nb) M).1) := by
    unfold f_X10_books f_X7_empty
    rw [h.c12]
    simp only [xlet_p, xlet2_p]
    generalize f_X1_readTape (nI nb) M = q
    rw [xup_k (show (4 : Nat) ≠ 5 by decide)]
  obtain ⟨R0, -, o0⟩ := bkRun h M (R40_rf M)
  have run := fun C hC => bkRun h C hC
  generalize hq : f_X1_readTape (nI nb) M = q at *
  generalize hsz : (M 4 0 4).toNatClampNeg = sz at *
  rw [K]
  have fr : ∀ a b c : Nat, ¬ a = 4 → ¬ a = 5 → ¬ a = 6 → ¬ (15 ≤ a ∧ a ≤ 18) → q.2 a b c = M a b c := by
    intro a b c h1 h2 h3 h4
    rcases o0 with ⟨N, wr, o1, o2, -⟩ | ⟨-, -, -, o4, -⟩
    · rw [o1, keep_eq (m := sz + wr) (by rw [o2.1 4 0 4 (by decide) (by decide) (by decide), z1, o2.2.2.1, nI_add]) o2.2.2.2.2.1]
      show xup N 4 0 4 _ a b c = _
      rw [xup_k h1]
      exact o2.1 a b c h2 h3 h4
    · exact o4 a b c h2 h3 h4
  by_cases c : q.1 = 0
  · rw [if_pos c]
    dsimp only
    have rC : R40 M (xup q.2 5 0 2 0) := fun a b c hq => by rw [xup_k (by omega)]; exact fr a b c (by omega) (by omega) (by omega) (by omega)
    obtain ⟨Rf, f1, f2⟩ := run _ rC
    rw [f1]
    rcases f2 with ⟨N, wr, o1, o2, o3⟩ | ⟨o1, -⟩
    · obtain ⟨d1, d2, d3, d4, d5, d6, d7, d8⟩ := o2
      have hk := keep_eq (N := N) (m := sz + wr) (by rw [d1 4 0 4 (by decide) (by decide) (by decide), z1, d3, nI_add]) d5
      have q2 : q.2 = xup N 4 0 4 (nI (sz + wr)) := by rw [o1, ← hk]
      have zat := bkZ_at (xup q.2 5 0 2 0)
      have kx : kxB Rf = (nI (sz + wr), xup Rf 40 0 14 (nI (sz + wr))) := by
        unfold kxB
        rw [d7, if_pos (by decide), d4]
      rw [kx]
      dsimp only
      refine ⟨rC, by rw [q2, xup_same], ?_⟩
      have Rz : ∀ a b c : Nat, ¬ (a = 40) → ¬ (65 ≤ a ∧ a ≤ 68) → Rf a b c = xup q.2 5 0 2 0 a b c := fun a b c w1 w2 => by rw [d2 a b c (by omega) w2, zat, if_neg (by omega), if_neg (by omega), if_neg (by omega)]
      refine INV_bk h (fun a b c w1 w2 w3 => ?_) ?_ ?_ ?_
      · by_cases a40 : a = 40
        · subst a40
          rw [xup_at, if_neg (by omega), d2 40 b c (by omega) (by omega), zat, if_neg (by omega), if_neg (by omega), if_neg (by omega), xup_k (by decide)]
          exact fr 40 b c (by omega) (by omega) (by omega) (by omega)
        · rw [xup_k a40, Rz a b c a40 (by omega), xup_k (by omega)]
          exact fr a b c (by omega) (by omega) (by omega) (by omega)
      · rw [xup_k (by decide), xup_j (by decide), Rz 0 0 15 (by decide) (by decide), xup_k (by decide), fr 0 0 15 (by decide) (by decide) (by decide) (by decide), d2 40 0 22 (by omega) (by omega), zat, if_neg (by omega), if_neg (by omega), if_neg (by omega), xup_k (by decide), fr 40 0 22 (by decide) (by decide) (by decide) (by decide)]
        exact h.st.2.2.2.2
      · have rr : ∀ a : Nat, 15 ≤ a → a ≤ 18 → xup Rf 40 0 14 (nI (sz + wr)) a 0 = N a 0 := fun a w1 w2 => by
          funext k
          rw [xup_k (by omega), Rz a 0 k (by omega) (by omega), xup_k (by omega), q2, xup_k (by omega)]
        have rs : ∀ a : Nat, 65 ≤ a → a ≤ 68 → xup Rf 40 0 14 (nI (sz + wr)) a 0 = Rf a 0 := fun a w1 w2 => by
          funext k
          rw [xup_k (by omega)]
        rw [rr 15 (by omega) (by omega), rr 16 (by omega) (by omega), rr 17 (by omega) (by omega), rr 18 (by omega) (by omega), rs 65 (by omega) (by omega), rs 66 (by omega) (by omega), rs 67 (by omega) (by omega), rs 68 (by omega) (by omega), xup_same, xup_k (by decide), Rz 4 0 4 (by decide) (by decide), xup_k (by decide), q2, xup_same]
        refine ⟨rfl, nI_pos' (by omega), nI_le (b := 40) d5 (by decide), fun k hk => ?_⟩
        rw [nI_clamp (by omega)] at hk
        exact d6 k hk
      · have r19 : xup Rf 40 0 14 (nI (sz + wr)) 70 0 = M 70 0 := by
          funext k
          rw [xup_k (by decide), Rz 70 0 k (by decide) (by decide), xup_k (by decide), fr 70 0 k (by decide) (by decide) (by decide) (by decide)]
        rw [r19, xup_k (by decide), Rz 5 0 2 (by decide) (by decide), xup_same, xup_j (by decide), d2 40 0 21 (by omega) (by omega), zat, if_neg (by omega), if_pos ⟨rfl, rfl, by omega⟩]
        exact ⟨rfl, by decide, by decide, t4, fun k hk => absurd hk (Nat.not_lt_zero _)⟩
    · rw [c] at o1; exact absurd o1 (by decide)
  · rw [if_neg c]
    dsimp only
    have rC : R40 M (xup (xup q.2 5 0 2 0) 0 0 15 q.1) := fun a b c hq => by rw [xup_k (by omega), xup_k (by omega)]; exact fr a b c (by omega) (by omega) (by omega) (by omega)
    obtain ⟨Rf, f1, f2⟩ := run _ rC
    rw [f1]
    rcases f2 with ⟨N, wr, o1, -⟩ | ⟨o1, o2, o3, o4, d2, o6, o7⟩
    · exact absurd (by rw [o1]) c
    · have zat := bkZ_at (xup (xup q.2 5 0 2 0) 0 0 15 q.1)
      have kx : kxB Rf = ((-1000100) - q.2 5 0 4, xup Rf 40 0 22 q.1) := by
        unfold kxB
        rw [o2, if_neg (Int32.not_le.mpr o1), o3]
      rw [kx]
      dsimp only
      refine ⟨rC, rfl, ?_⟩
      have Rz : ∀ a b c : Nat, ¬ (a = 40) → ¬ (65 ≤ a ∧ a ≤ 68) → Rf a b c = xup (xup q.2 5 0 2 0) 0 0 15 q.1 a b c := fun a b c w1 w2 => by rw [d2 a b c (by omega) w2, zat, if_neg (by omega), if_neg (by omega), if_neg (by omega)]
      refine INV_bk h (fun a b c w1 w2 w3 => ?_) ?_ ?_ ?_
      · by_cases a40 : a = 40
        · subst a40
          rw [xup_at, if_neg (by omega), d2 40 b c (by omega) (by omega), zat, if_neg (by omega), if_neg (by omega), if_neg (by omega), xup_k (by decide), xup_k (by decide)]
          exact fr 40 b c (by omega) (by omega) (by omega) (by omega)
        · rw [xup_k a40, Rz a b c a40 (by omega), xup_at, if_neg w2, xup_k (by omega)]
          exact fr a b c (by omega) (by omega) (by omega) (by omega)
      · rw [xup_k (by decide), xup_same, Rz 0 0 15 (by decide) (by decide), xup_same]
      · have rr : ∀ a : Nat, 15 ≤ a → a ≤ 18 → xup Rf 40 0 22 q.1 a 0 = q.2 a 0 := fun a w1 w2 => by
          funext k
          rw [xup_k (by omega), Rz a 0 k (by omega) (by omega), xup_k (by omega), xup_k (by omega)]
        have rs : ∀ a : Nat, 65 ≤ a → a ≤ 68 → xup Rf 40 0 22 q.1 a 0 = Rf a 0 := fun a w1 w2 => by
          funext k
          rw [xup_k (by omega)]
        have q44 : q.2 4 0 4 = nI sz := by rw [o4 4 0 4 (by decide) (by decide) (by decide)]; exact z1
        rw [rr 15 (by omega) (by omega), rr 16 (by omega) (by omega), rr 17 (by omega) (by omega), rr 18 (by omega) (by omega), rs 65 (by omega) (by omega), rs 66 (by omega) (by omega), rs 67 (by omega) (by omega), rs 68 (by omega) (by omega), xup_j (by decide), xup_j (by decide), d2 40 0 14 (by omega) (by omega), zat, if_neg (by omega), if_neg (by omega), if_neg (by omega), rC 40 0 14 (by decide), e1, z1, Rz 4 0 4 (by decide) (by decide), xup_k (by decide), xup_k (by decide), q44]
        refine ⟨rfl, nI_pos' (by omega), nI_le (b := 40) z2 (by decide), fun k hk => ?_⟩
        rw [nI_clamp (by omega)] at hk
        exact o6 k hk
      · have r19 : xup Rf 40 0 22 q.1 70 0 = M 70 0 := by
          funext k
          rw [xup_k (by decide), Rz 70 0 k (by decide) (by decide), xup_k (by decide), xup_k (by decide), fr 70 0 k (by decide) (by decide) (by decide) (by decide)]
        rw [r19, xup_k (by decide), Rz 5 0 2 (by decide) (by decide), xup_k (by decide), xup_same, xup_j (by decide), d2 40 0 21 (by omega) (by omega), zat, if_neg (by omega), if_pos ⟨rfl, rfl, by omega⟩]
        exact ⟨rfl, by decide, by decide, t4, fun k hk => absurd hk (Nat.not_lt_zero _)⟩
end BOOKS6
