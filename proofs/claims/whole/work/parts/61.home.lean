/-! home, cut, half, as -/
section HANDS
variable {nb nn : Nat} {M : xM}
theorem cnt_n1 (h : INV nb nn M) (k : Nat) : ∃ n : Nat, M 29 k 6 = nI n ∧ n ≤ 12 := i32b (n := 12) (by decide) (h.no.2.1 k).1 (h.no.2.1 k).2
theorem home10 (h : INV nb nn M) {k : Nat} (hk : k < nn) : f_X10_home (nI k) M = if M 29 k 5 = 0 ∧ M 29 k 1 < nI nb then (if M 29 k 3 = M 27 (M 29 k 1).toNatClampNeg 1 then (if M 27 (M 29 k 1).toNatClampNeg 4 = 0 then (if M 29 k 2 ≤ M 27 (M 29 k 1).toNatClampNeg 2 then (M 29 k 2, xup (xup M 29 k 5 1) 27 (M 29 k 1).toNatClampNeg 2 (M 27 (M 29 k 1).toNatClampNeg 2 - M 29 k 2)) else (0, xup (xup M 29 k 5 1) 27 (M 29 k 1).toNatClampNeg 4 1)) else (0, xup M 29 k 5 1)) else (0, xup M 29 k 5 2)) else ((-1000002), M) := by
  have u := nI_u hk (by have := h.nn24; omega)
  have hkc : (nI k).toNatClampNeg = k := nI_clamp (by have := h.nn24; omega)
  unfold f_X10_home f_X0_payOut
  have e1 : ∀ j c : Nat, xup M 29 k 5 1 27 j c = M 27 j c := fun j c => xup_k (by decide)
  have e2 : xup M 29 k 5 1 29 k 2 = M 29 k 2 := xup_j (by decide)
  simp only [xlet_p, xlet2_p, noteOf_eq h.hn, if_pos u, xopt_ps, hkc, bank_of h k, e1, e2]
  by_cases c1 : M 29 k 1 < nI nb
  · simp only [if_pos c1, xopt_ps]
    by_cases c2 : M 29 k 5 = 0
    · simp only [c1, c2, and_self, if_true]
    · simp only [c2, false_and, if_false]
  · simp only [if_neg c1, xopt_pn, c1, and_false, if_false]
    split <;> rfl
theorem home11 (h : INV nb nn M) {N : xM} (e : R40 M N) {k : Nat} (hk : k < nn) : f_X11_home (nI k) N = if M 29 k 5 = 0 ∧ M 29 k 1 < nI nb then (if M 29 k 3 = M 27 (M 29 k 1).toNatClampNeg 1 then (if M 27 (M 29 k 1).toNatClampNeg 4 = 0 then (if M 29 k 2 ≤ M 27 (M 29 k 1).toNatClampNeg 2 then (M 29 k 2, xup (xup (xup (xup N 40 0 0 0) 85 0 k (-1000000)) 86 0 k 1) 59 0 (M 29 k 1).toNatClampNeg (M 27 (M 29 k 1).toNatClampNeg 2 - M 29 k 2)) else (0, xup (xup (xup (xup N 40 0 0 0) 85 0 k (-1000000)) 86 0 k 1) 61 0 (M 29 k 1).toNatClampNeg 1)) else (0, xup (xup (xup (xup N 40 0 0 0) 85 0 k (-1000000)) 86 0 k 1) 61 0 (M 29 k 1).toNatClampNeg 1)) else (0, xup (xup (xup N 40 0 0 0) 85 0 k (-1000000)) 87 0 k 1)) else ((-1000002), xup N 40 0 0 0) := by
  have u := nI_u hk (by have := h.nn24; omega)
  have hkc : (nI k).toNatClampNeg = k := nI_clamp (by have := h.nn24; omega)
  have hn := h.n1 hk
  have h1 := h.no.2.2.1 k
  have ev : ∀ a b c : Nat, 40 < a → xup N 40 0 0 0 a b c = M a b c := fun a b c q => by rw [xup_k (by omega)]; exact e a b c (by omega)
  have e30 : xup N 40 0 0 0 40 0 30 = nI nn := by rw [xup_j (by decide), e 40 0 30 (by decide)]; exact h.c30
  have e7 : xup N 40 0 0 0 40 0 7 = nI nb := by rw [xup_j (by decide), e 40 0 7 (by decide)]; exact h.c7
  unfold f_X11_home f_X11_isGhost
  simp only [xlet_p, isNote_n e30 h.nn24, xb_0, hkc, nar1, e7]
  rw [if_neg (by simp [u])]
  rw [ev 85 0 k (by decide), ev 81 0 k (by decide), hn.t85, hn.b81]
  by_cases c2 : M 29 k 5 = 0
  · have h8 := hn.h8 c2
    have n8 : ¬ M 29 k 8 = -1000000 := by grind
    rw [if_pos c2, if_neg n8]
    by_cases c1 : M 29 k 1 < nI nb
    · obtain ⟨j, hj, hjk, hjc⟩ := ix_n (by have := h.nb8; omega) ⟨h1.1, c1⟩
      have hb := h.ba.2.2.2.1 j hjk
      have f1 : ∀ b c : Nat, ∀ v, xup (xup N 40 0 0 0) 85 0 k v 83 b c = M 83 b c := fun b c v => by rw [xup_k (by decide)]; exact ev 83 b c (by decide)
      have f2 : ∀ b c : Nat, ∀ v, xup (xup N 40 0 0 0) 85 0 k v 60 b c = M 60 b c := fun b c v => by rw [xup_k (by decide)]; exact ev 60 b c (by decide)
      have f3 : ∀ b c : Nat, ∀ v w, xup (xup (xup N 40 0 0 0) 85 0 k v) 86 0 k w 61 b c = M 61 b c := fun b c v w => by rw [xup_k (by decide), xup_k (by decide)]; exact ev 61 b c (by decide)
      have f4 : ∀ b c : Nat, ∀ v w, xup (xup (xup N 40 0 0 0) 85 0 k v) 86 0 k w 82 b c = M 82 b c := fun b c v w => by rw [xup_k (by decide), xup_k (by decide)]; exact ev 82 b c (by decide)
      have f5 : ∀ b c : Nat, ∀ v w, xup (xup (xup N 40 0 0 0) 85 0 k v) 86 0 k w 59 b c = M 59 b c := fun b c v w => by rw [xup_k (by decide), xup_k (by decide)]; exact ev 59 b c (by decide)
      have f6 : ∀ (b c d : Nat), ∀ v w x, xup (xup (xup (xup N 40 0 0 0) 85 0 k v) 86 0 k w) 59 0 d x 82 b c = M 82 b c := fun b c d v w x => by rw [xup_k (by decide)]; exact f4 b c v w
      simp only [c1, c2, and_self, if_true, if_false, f1, f2, f3, f4, f5, f6]
      rw [hj, hjc]
      rw [hn.b83, hn.b82, hb.2.1, hb.2.2.1, hb.2.2.2.2.1]
    · rw [if_neg (by simp [c1]), if_neg (by simp [c1])]
  · rw [if_neg c2, if_pos rfl, if_neg (by simp [c2])]
theorem homeb (h : INV nb nn M) (q : Int32) (hq : ¬ (0 ≤ q ∧ q < nI nn)) : f_X10_home q M = ((-1000001), M) ∧ f_X11_home q M = ((-1000001), xup M 40 0 0 0) := by
  have e30 : xup M 40 0 0 0 40 0 30 = nI nn := by rw [xup_j (by decide)]; exact h.c30
  constructor
  · unfold f_X10_home
    simp only [noteOf_eq h.hn, if_neg hq, xopt_pn]
  · unfold f_X11_home
    simp only [xlet_p, isNote_n e30 h.nn24, xb_0]
    rw [if_pos (by simp only [hq, decide_false])]

theorem s_home (h : INV nb nn M) (q : Int32) : R40 M (f_X10_home q M).2 ∧ (f_X10_home q M).1 = (f_X11_home q (f_X10_home q M).2).1 ∧ INV nb nn (f_X11_home q (f_X10_home q M).2).2 := by
  by_cases c : 0 ≤ q ∧ q < nI nn
  · obtain ⟨k, rfl, hk, hkc⟩ := ix_n (by have := h.nn24; omega) c
    have h1 := h.no.2.2.1 k
    have hn := h.n1 hk
    have h24 := h.nn24
    by_cases d : M 29 k 5 = 0 ∧ M 29 k 1 < nI nb
    · obtain ⟨c2, c1⟩ := id d
      obtain ⟨j, hj, hjk, hjc⟩ := ix_n (by have := h.nb8; omega) ⟨h1.1, c1⟩
      have hb := h.ba.2.2.2.1 j hjk
      have jj : (M 29 k 1).toNatClampNeg = j := by rw [hj]; exact hjc
      rw [home10 h hk, if_pos d, jj]
      by_cases c3 : M 29 k 3 = M 27 j 1
      · rw [if_pos c3]
        by_cases c4 : M 27 j 4 = 0
        · rw [if_pos c4]
          by_cases c5 : M 29 k 2 ≤ M 27 j 2
          · rw [if_pos c5]
            dsimp only
            have r : R40 M (xup (xup M 29 k 5 1) 27 j 2 (M 27 j 2 - M 29 k 2)) := R40_up (R40_up (R40_rf M) (by decide)) (by decide)
            rw [home11 h r hk, if_pos d, jj, if_pos c3, if_pos c4, if_pos c5]
            refine ⟨r, rfl, ?_⟩
            obtain ⟨g1, g2, g3, g4, g5, g6, g7, g8, g9, g10, g11⟩ := h
            unfold INV
            refine ⟨?_, ?_, ?_, ?_, ?_, ?_, ?_, ?_, ?_, ?_, ?_⟩
            · simpa [xup_row, xup_at] using g1
            · simpa [xup_row, xup_at] using g2
            · simpa [xup_row, xup_at] using g3
            · simpa [xup_row, xup_at] using g4
            · obtain ⟨b1, b2, b3, b4, b5⟩ := g5
              refine ⟨by simpa [xup_at] using b1, fun i => by simpa [xup_at] using b2 i, by simpa [xup_row] using b3, fun i hi => ?_, fun i hi hi8 => ?_⟩
              · have q := b4 i hi
                by_cases z : i = j
                · subst z
                  simp [xup_row, xup_at]
                  exact ⟨q.1, q.2.1, q.2.2.2⟩
                · simp [xup_row, xup_row2, xup_at, z]; exact q
              · have q := b5 i hi hi8
                have z : i ≠ j := by omega
                simp [xup_row, xup_at, z]; exact q
            · simpa [xup_row, xup_at] using g6
            · simpa [xup_row, xup_at] using g7
            · refine gNo_1 (M := M) (k := k) hk h24 g8 (by simp [xup_at]) (by simp [xup_row]) (by simp [xup_row]) (by simp [xup_row]) (by simp [xup_row]) (fun i hi => by simp [xup_row, xup_row2, xup_at, hi]) (by simpa [xup_at] using g8.2.1 k) (by simp [xup_at]) (by simp [xup_at]) ?_
              refine gN1_w (A := M 29 k) (w := 1) (r85 := M 85 0 k) (r86 := M 86 0 k) (r87 := M 87 0 k) (r89 := M 89 0 k) ?_ (fun c hc => by simp [xup_at, hc]) (by simp [xup_at]) (by decide) (by simp [xup_at]) ?_ ?_ ?_
              · simpa [xup_row, xup_at, xup_row2] using hn
              · simp [xup_at]; skip
              · simp [xup_at]; rw [hn.t87, if_neg (by rw [c2]; decide)]
              · simp [xup_at]; rw [hn.t89, if_neg (by rw [c2]; decide)]
            · simpa [xup_row, xup_at] using g9
            · simpa [xup_row, xup_at] using g10
            · simpa [xup_row, xup_at] using g11
          · rw [if_neg c5]
            dsimp only
            have r : R40 M (xup (xup M 29 k 5 1) 27 j 4 1) := R40_up (R40_up (R40_rf M) (by decide)) (by decide)
            rw [home11 h r hk, if_pos d, jj, if_pos c3, if_pos c4, if_neg c5]
            refine ⟨r, rfl, ?_⟩
            obtain ⟨g1, g2, g3, g4, g5, g6, g7, g8, g9, g10, g11⟩ := h
            unfold INV
            refine ⟨?_, ?_, ?_, ?_, ?_, ?_, ?_, ?_, ?_, ?_, ?_⟩
            · simpa [xup_row, xup_at] using g1
            · simpa [xup_row, xup_at] using g2
            · simpa [xup_row, xup_at] using g3
            · simpa [xup_row, xup_at] using g4
            · obtain ⟨b1, b2, b3, b4, b5⟩ := g5
              refine ⟨by simpa [xup_at] using b1, fun i => by simpa [xup_at] using b2 i, by simpa [xup_row] using b3, fun i hi => ?_, fun i hi hi8 => ?_⟩
              · have q := b4 i hi
                by_cases z : i = j
                · subst z
                  simp [xup_row, xup_at]
                  exact ⟨q.1, q.2.1, q.2.2.1, q.2.2.2.1, q.2.2.2.2.2.2⟩
                · simp [xup_row, xup_row2, xup_at, z]; exact q
              · have q := b5 i hi hi8
                have z : i ≠ j := by omega
                simp [xup_row, xup_at, z]; exact q
            · simpa [xup_row, xup_at] using g6
            · simpa [xup_row, xup_at] using g7
            · refine gNo_1 (M := M) (k := k) hk h24 g8 (by simp [xup_at]) (by simp [xup_row]) (by simp [xup_row]) (by simp [xup_row]) (by simp [xup_row]) (fun i hi => by simp [xup_row, xup_row2, xup_at, hi]) (by simpa [xup_at] using g8.2.1 k) (by simp [xup_at]) (by simp [xup_at]) ?_
              refine gN1_w (A := M 29 k) (w := 1) (r85 := M 85 0 k) (r86 := M 86 0 k) (r87 := M 87 0 k) (r89 := M 89 0 k) ?_ (fun c hc => by simp [xup_at, hc]) (by simp [xup_at]) (by decide) (by simp [xup_at]) ?_ ?_ ?_
              · simpa [xup_row, xup_at, xup_row2] using hn
              · simp [xup_at]; skip
              · simp [xup_at]; rw [hn.t87, if_neg (by rw [c2]; decide)]
              · simp [xup_at]; rw [hn.t89, if_neg (by rw [c2]; decide)]
            · simpa [xup_row, xup_at] using g9
            · simpa [xup_row, xup_at] using g10
            · simpa [xup_row, xup_at] using g11
        · rw [if_neg c4]
          dsimp only
          have r : R40 M (xup M 29 k 5 1) := R40_up (R40_rf M) (by decide)
          rw [home11 h r hk, if_pos d, jj, if_pos c3, if_neg c4]
          refine ⟨r, rfl, ?_⟩
          obtain ⟨g1, g2, g3, g4, g5, g6, g7, g8, g9, g10, g11⟩ := h
          unfold INV
          refine ⟨?_, ?_, ?_, ?_, ?_, ?_, ?_, ?_, ?_, ?_, ?_⟩
          · simpa [xup_row, xup_at] using g1
          · simpa [xup_row, xup_at] using g2
          · simpa [xup_row, xup_at] using g3
          · simpa [xup_row, xup_at] using g4
          · obtain ⟨b1, b2, b3, b4, b5⟩ := g5
            refine ⟨by simpa [xup_at] using b1, fun i => by simpa [xup_at] using b2 i, by simpa [xup_row] using b3, fun i hi => ?_, fun i hi hi8 => ?_⟩
            · have q := b4 i hi
              by_cases z : i = j
              · subst z
                simp [xup_row, xup_at]
                have e4 : M 27 i 4 = 1 := q.2.2.2.2.2.1.resolve_left c4
                refine ⟨q.1, q.2.1, q.2.2.1, q.2.2.2.1, e4.symm, q.2.2.2.2.2⟩
              · simp [xup_row, xup_row2, xup_at, z]; exact q
            · have q := b5 i hi hi8
              have z : i ≠ j := by omega
              simp [xup_row, xup_at, z]; exact q
          · simpa [xup_row, xup_at] using g6
          · simpa [xup_row, xup_at] using g7
          · refine gNo_1 (M := M) (k := k) hk h24 g8 (by simp [xup_at]) (by simp [xup_row]) (by simp [xup_row]) (by simp [xup_row]) (by simp [xup_row]) (fun i hi => by simp [xup_row, xup_row2, xup_at, hi]) (by simpa [xup_at] using g8.2.1 k) (by simp [xup_at]) (by simp [xup_at]) ?_
            refine gN1_w (A := M 29 k) (w := 1) (r85 := M 85 0 k) (r86 := M 86 0 k) (r87 := M 87 0 k) (r89 := M 89 0 k) ?_ (fun c hc => by simp [xup_at, hc]) (by simp [xup_at]) (by decide) (by simp [xup_at]) ?_ ?_ ?_
            · simpa [xup_row, xup_at, xup_row2] using hn
            · simp [xup_at]; skip
            · simp [xup_at]; rw [hn.t87, if_neg (by rw [c2]; decide)]
            · simp [xup_at]; rw [hn.t89, if_neg (by rw [c2]; decide)]
          · simpa [xup_row, xup_at] using g9
          · simpa [xup_row, xup_at] using g10
          · simpa [xup_row, xup_at] using g11
      · rw [if_neg c3]
        dsimp only
        have r : R40 M (xup M 29 k 5 2) := R40_up (R40_rf M) (by decide)
        rw [home11 h r hk, if_pos d, jj, if_neg c3]
        refine ⟨r, rfl, ?_⟩
        obtain ⟨g1, g2, g3, g4, g5, g6, g7, g8, g9, g10, g11⟩ := h
        unfold INV
        refine ⟨?_, ?_, ?_, ?_, ?_, ?_, ?_, ?_, ?_, ?_, ?_⟩
        · simpa [xup_row, xup_at] using g1
        · simpa [xup_row, xup_at] using g2
        · simpa [xup_row, xup_at] using g3
        · simpa [xup_row, xup_at] using g4
        · simpa [xup_row, xup_at] using g5
        · simpa [xup_row, xup_at] using g6
        · simpa [xup_row, xup_at] using g7
        · refine gNo_1 (M := M) (k := k) hk h24 g8 (by simp [xup_at]) (by simp [xup_row]) (by simp [xup_row]) (by simp [xup_row]) (by simp [xup_row]) (fun i hi => by simp [xup_row, xup_row2, xup_at, hi]) (by simpa [xup_at] using g8.2.1 k) (by simp [xup_at]) (by simp [xup_at]) ?_
          refine gN1_w (A := M 29 k) (w := 2) (r85 := M 85 0 k) (r86 := M 86 0 k) (r87 := M 87 0 k) (r89 := M 89 0 k) ?_ (fun c hc => by simp [xup_at, hc]) (by simp [xup_at]) (by decide) (by simp [xup_at]) ?_ ?_ ?_
          · simpa [xup_row, xup_at, xup_row2] using hn
          · simp [xup_at]; rw [hn.t86, if_neg (by rw [c2]; decide)]
          · simp [xup_at]; skip
          · simp [xup_at]; rw [hn.t89, if_neg (by rw [c2]; decide)]
        · simpa [xup_row, xup_at] using g9
        · simpa [xup_row, xup_at] using g10
        · simpa [xup_row, xup_at] using g11
    · rw [home10 h hk, if_neg d]
      dsimp only
      rw [home11 h (R40_rf M) hk, if_neg d]
      exact ⟨R40_rf M, rfl, INV_thr h⟩
  · obtain ⟨e1, e2⟩ := homeb h q c
    rw [e1]
    dsimp only
    rw [e2]
    exact ⟨R40_rf M, rfl, INV_thr h⟩
theorem s_as (h : INV nb nn M) (q kd : Int32) : R40 M (f_X10_as q kd M).2 ∧ (f_X10_as q kd M).1 = (f_X11_as q kd (f_X10_as q kd M).2).1 ∧ INV nb nn (f_X11_as q kd (f_X10_as q kd M).2).2 := by
  have ofk : ∀ (x y : Int32) (N N2 : xM), f_X10_isOfKind x y N = f_X11_isOf x y N2 := by
    intro x y N N2
    unfold f_X10_isOfKind f_X11_isOf
    by_cases e : y = x
    · subst e; simp
    · have e' : ¬ x = y := fun z => e z.symm
      simp [e, e']
  by_cases c : (0 ≤ q ∧ q < nI nn) ∧ (0 ≤ kd ∧ kd ≤ 5)
  · obtain ⟨k, rfl, hk, hkc⟩ := ix_n (by have := h.nn24; omega) c.1
    have hn := h.n1 hk
    have h24 := h.nn24
    have K1 : f_X10_as (nI k) kd M = if f_X11_isOf (f_X10_kindOf k M) kd M = true then (M 29 k 2, xup M 0 0 16 0) else ((-1000013), xup M 0 0 16 3) := by
      unfold f_X10_as f_X10_found f_X10_foundNothing
      simp only [xlet_p, xlet2_p, noteOf_eq h.hn, if_pos c.1, xopt_ps, hkc, isUpTo_eq, xb_0, ofk _ _ M M]
      rw [if_neg (by simp [c.2])]
      cases f_X11_isOf (f_X10_kindOf k M) kd M <;> simp
    have K2 : ∀ v : Int32, f_X11_as (nI k) kd (xup M 0 0 16 v) = if f_X11_isOf (f_X10_kindOf k M) kd M = true then (M 29 k 2, xup (xup (xup M 0 0 16 v) 40 0 0 0) 40 0 1 0) else ((-1000013), xup (xup (xup (xup M 0 0 16 v) 40 0 0 0) 40 0 1 0) 40 0 1 3) := by
      intro v
      have hI : INV nb nn (xup (xup (xup M 0 0 16 v) 40 0 0 0) 40 0 1 v) := INV_st h v
      have e30 : xup (xup M 0 0 16 v) 40 0 0 0 40 0 30 = nI nn := by rw [xup_j (by decide), xup_k (by decide)]; exact h.c30
      have ek : f_X11_kindOf (nI k) (xup (xup (xup M 0 0 16 v) 40 0 0 0) 40 0 1 0) = f_X10_kindOf k M := by
        rw [← kind_ok h (jkE_rf M) hk]
        unfold f_X11_kindOf f_X11_isGhost f_X11_isFalse f_X11_isGhost
        simp only [xlet_p, hkc, xup_k (show (87 : Nat) ≠ 40 by decide), xup_k (show (89 : Nat) ≠ 40 by decide), xup_k (show (84 : Nat) ≠ 40 by decide), xup_k (show (83 : Nat) ≠ 40 by decide), xup_k (show (81 : Nat) ≠ 40 by decide), xup_k (show (60 : Nat) ≠ 40 by decide), xup_k (show (87 : Nat) ≠ 0 by decide), xup_k (show (89 : Nat) ≠ 0 by decide), xup_k (show (84 : Nat) ≠ 0 by decide), xup_k (show (83 : Nat) ≠ 0 by decide), xup_k (show (81 : Nat) ≠ 0 by decide), xup_k (show (60 : Nat) ≠ 0 by decide), xup_j (show (7 : Nat) ≠ 0 by decide), xup_j (show (7 : Nat) ≠ 1 by decide), xup_k (show (40 : Nat) ≠ 0 by decide)]
      have e82 : xup (xup (xup M 0 0 16 v) 40 0 0 0) 40 0 1 0 82 0 k = M 29 k 2 := by rw [xup_k (by decide), xup_k (by decide), xup_k (by decide)]; exact hn.b82
      have eo : ∀ x N2, f_X11_isOf x kd N2 = f_X11_isOf x kd M := fun x N2 => rfl
      unfold f_X11_as f_X11_finding
      simp only [xlet_p, xlet2_p, isNote_n e30 h24, in_0_5, xb_0, hkc, ek, e82]
      rw [if_neg (by simp [c.1]), if_neg (by simp [c.2]), eo]
      cases f_X11_isOf (f_X10_kindOf k M) kd M <;> simp
    rw [K1]
    by_cases d : f_X11_isOf (f_X10_kindOf k M) kd M = true
    · rw [if_pos d]
      dsimp only
      rw [K2 0, if_pos d]
      exact ⟨R40_up (R40_rf M) (by decide), rfl, INV_st h 0⟩
    · rw [if_neg d]
      dsimp only
      rw [K2 3, if_neg d]
      exact ⟨R40_up (R40_rf M) (by decide), rfl, INV_st2 h 3 0⟩
  · have e30 : xup M 40 0 0 0 40 0 30 = nI nn := by rw [xup_j (by decide)]; exact h.c30
    have K1 : f_X10_as q kd M = ((-1000001), M) := by
      unfold f_X10_as
      simp only [xlet_p, noteOf_eq h.hn, isUpTo_eq, xb_0]
      by_cases c1 : 0 ≤ q ∧ q < nI nn
      · have c2 : ¬ (0 ≤ kd ∧ kd ≤ 5) := fun z => c ⟨c1, z⟩
        simp only [if_pos c1, xopt_ps]
        rw [if_pos (by simp only [c2, decide_false])]
      · simp only [if_neg c1, xopt_pn]
    have K2 : f_X11_as q kd M = ((-1000001), xup M 40 0 0 0) := by
      unfold f_X11_as
      simp only [xlet_p, isNote_n e30 h.nn24, in_0_5, xb_0]
      by_cases c1 : 0 ≤ q ∧ q < nI nn
      · have c2 : ¬ (0 ≤ kd ∧ kd ≤ 5) := fun z => c ⟨c1, z⟩
        rw [if_neg (by simp [c1]), if_pos (by simp only [c2, decide_false])]
      · rw [if_pos (by simp only [c1, decide_false])]
    rw [K1]
    dsimp only
    rw [K2]
    exact ⟨R40_rf M, rfl, INV_thr h⟩
end HANDS
