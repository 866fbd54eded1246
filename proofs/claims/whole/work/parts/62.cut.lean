/-! cut, half -/
def nk (a : Nat) : Prop := a = 29 ∨ a = 30 ∨ a = 31 ∨ (85 ≤ a ∧ a ≤ 93)
theorem INV_no {nb nn : Nat} {M N : xM} (h : INV nb nn M) (hq : ∀ a b c : Nat, ¬ jk a b c → ¬ nk a → N a b c = M a b c) (hno : gNo nn (N 29) (N 30) (N 31) (N 81 0) (N 82 0) (N 83 0) (N 84 0) (N 85 0) (N 86 0) (N 87 0) (N 88 0) (N 89 0) (N 90 0) (N 91 0) (N 92 0) (N 93 0) (N 40 0 30)) : INV nb nn N := by
  have r : ∀ a : Nat, ¬ (a = 6 ∨ a = 9 ∨ a = 11 ∨ a = 20 ∨ a = 21 ∨ a = 22 ∨ a = 56 ∨ a = 97 ∨ a = 98 ∨ a = 5 ∨ a = 40 ∨ a = 29 ∨ a = 30 ∨ a = 31 ∨ (85 ≤ a ∧ a ≤ 93)) → N a = M a := by
    intro a ha
    funext b c
    refine hq a b c (fun q => ha ?_) (fun q => ha ?_)
    · unfold jk at q; omega
    · unfold nk at q; omega
  have c0 : ∀ b c : Nat, N 0 b c = M 0 b c := fun b c => hq 0 b c (by unfold jk; omega) (by unfold nk; omega)
  have c40 : ∀ c : Nat, ¬ (c = 0 ∨ c = 19 ∨ 23 ≤ c ∧ c ≤ 29) → N 40 0 c = M 40 0 c := fun c hc => hq 40 0 c (by unfold jk; omega) (by unfold nk; omega)
  have c5 : N 5 0 2 = M 5 0 2 := hq 5 0 2 (by unfold jk; omega) (by unfold nk; omega)
  obtain ⟨g1, g2, g3, g4, g5, g6, g7, g8, g9, g10, g11⟩ := h
  refine ⟨?_, ?_, ?_, ?_, ?_, ?_, ?_, hno, ?_, ?_, ?_⟩
  · rw [c0, c0, r 1 (by decide), r 3 (by decide), r 7 (by decide), r 8 (by decide)]; exact g1
  · rw [c0, c0, c0, c40 1 (by omega), c40 13 (by omega), c40 22 (by omega)]; exact g2
  · rw [r 24 (by decide), r 25 (by decide), r 52 (by decide), r 53 (by decide), r 54 (by decide)]; exact g3
  · rw [r 13 (by decide), r 14 (by decide), r 55 (by decide)]; exact g4
  · rw [r 27 (by decide), r 28 (by decide), r 58 (by decide), r 59 (by decide), r 60 (by decide), r 61 (by decide), r 62 (by decide), c40 7 (by omega)]; exact g5
  · rw [r 15 (by decide), r 16 (by decide), r 17 (by decide), r 18 (by decide), r 65 (by decide), r 66 (by decide), r 67 (by decide), r 68 (by decide), r 4 (by decide), c40 14 (by omega)]; exact g6
  · rw [r 19 (by decide), r 70 (by decide), c5, c40 21 (by omega)]; exact g7
  · rw [r 26 (by decide), r 94 (by decide), r 95 (by decide)]; exact g9
  · rw [r 10 (by decide), r 96 (by decide)]; exact g10
  · rw [r 23 (by decide), r 99 (by decide), r 12 (by decide), c40 50 (by omega)]; exact g11
theorem nk_up {M N : xM} {κ i j : Nat} {v : Int32} (h : ∀ a b c : Nat, ¬ jk a b c → ¬ nk a → N a b c = M a b c) (hk : nk κ) : ∀ a b c : Nat, ¬ jk a b c → ¬ nk a → xup N κ i j v a b c = M a b c := fun a b c q1 q2 => by
  rw [xup_k (fun (e : a = κ) => q2 (by rw [e]; exact hk))]; exact h a b c q1 q2
theorem nk_thr {M N : xM} {v : Int32} (h : ∀ a b c : Nat, ¬ jk a b c → ¬ nk a → N a b c = M a b c) : ∀ a b c : Nat, ¬ jk a b c → ¬ nk a → xup N 40 0 0 v a b c = M a b c := fun a b c q1 q2 => by
  rw [xup_at, if_neg (fun e => q1 (by unfold jk; omega))]; exact h a b c q1 q2
section HALVES
variable {nb nn : Nat} {M : xM}
theorem cut10 (h : INV nb nn M) {k : Nat} (hk : k < nn) {to : Int32} (ht : 0 ≤ to ∧ to ≤ 7) : f_X10_cut (nI k) to M = if M 29 k 5 = 0 ∧ M 29 k 8 = to then ((-1000001), M) else if M 29 k 5 = 0 ∧ M 29 k 7 = 0 then (1, xup (xup (xup (xup M 29 k 9 (M 29 k 8)) 29 k 10 to) 29 k 7 1) 29 k 5 3) else ((-1000002), M) := by
  have u := nI_u hk (by have := h.nn24; omega)
  have hkc : (nI k).toNatClampNeg = k := nI_clamp (by have := h.nn24; omega)
  unfold f_X10_cut f_X4_holder f_X4_halve
  simp only [xlet_p, noteOf_eq h.hn, if_pos u, xopt_ps, hkc, traderOf_eq, if_pos ht]
  by_cases c1 : M 29 k 5 = 0
  · by_cases c2 : M 29 k 8 = to
    · simp [c1, c2]
    · by_cases c3 : M 29 k 7 = 0
      · simp [c1, c2, c3]
      · simp [c1, c2, c3]
  · have : ¬ -1000000 = to := by intro e; subst e; exact absurd ht.1 (by decide)
    simp [c1, this]
theorem cut11 (h : INV nb nn M) {N : xM} (e : R40 M N) {k : Nat} (hk : k < nn) {to : Int32} (ht : 0 ≤ to ∧ to ≤ 7) : f_X11_cut (nI k) to N = if M 29 k 5 = 0 ∧ M 29 k 8 = to then ((-1000001), xup N 40 0 0 0) else if M 29 k 5 = 0 ∧ M 29 k 7 = 0 then (1, xup (xup (xup (xup (xup (xup N 40 0 0 0) 88 0 k 1) 89 0 k 1) 90 0 (2 * k) (M 29 k 8)) 90 0 (2 * k + 1) to) 85 0 k (-1000000)) else ((-1000002), xup N 40 0 0 0) := by
  have u := nI_u hk (by have := h.nn24; omega)
  have hkc : (nI k).toNatClampNeg = k := nI_clamp (by have := h.nn24; omega)
  have hn := h.n1 hk
  have h24 := h.nn24
  have e30 : xup N 40 0 0 0 40 0 30 = nI nn := by rw [xup_j (by decide), e 40 0 30 (by decide)]; exact h.c30
  have e85 : xup N 40 0 0 0 85 0 k = if M 29 k 5 = 0 then M 29 k 8 else (-1000000) := by rw [xup_k (by decide), e 85 0 k (by decide)]; exact hn.t85
  have e88 : xup N 40 0 0 0 88 0 k = M 29 k 7 := by rw [xup_k (by decide), e 88 0 k (by decide)]; exact hn.t88
  have f85 : xup (xup (xup N 40 0 0 0) 88 0 k 1) 89 0 k 1 85 0 k = if M 29 k 5 = 0 then M 29 k 8 else (-1000000) := by rw [xup_k (by decide), xup_k (by decide)]; exact e85
  unfold f_X11_cut
  simp only [xlet_p, isNote_n e30 h24, isTrader_eq, xb_0, hkc, nar1, e85, e88, f85, nI_m 2 k 2 rfl, nI_1, nI_clamp (show 2 * k < 2 ^ 31 by omega), nI_clamp (show 2 * k + 1 < 2 ^ 31 by omega)]
  rw [if_neg (by simp [u]), if_neg (by simp [ht])]
  by_cases c1 : M 29 k 5 = 0
  · have h8 := hn.h8 c1
    have n8 : ¬ M 29 k 8 = -1000000 := by grind
    by_cases c2 : M 29 k 8 = to
    · simp [c1, c2]
    · by_cases c3 : M 29 k 7 = 0
      · simp [c1, c2, c3, n8]
      · simp [c1, c2, c3, n8]
  · have : ¬ -1000000 = to := by intro e; subst e; exact absurd ht.1 (by decide)
    simp [c1, this]
theorem cutb (h : INV nb nn M) (q to : Int32) (hq : ¬ ((0 ≤ q ∧ q < nI nn) ∧ (0 ≤ to ∧ to ≤ 7))) : f_X10_cut q to M = ((-1000001), M) ∧ f_X11_cut q to M = ((-1000001), xup M 40 0 0 0) := by
  have e30 : xup M 40 0 0 0 40 0 30 = nI nn := by rw [xup_j (by decide)]; exact h.c30
  by_cases c1 : 0 ≤ q ∧ q < nI nn
  · have c2 : ¬ (0 ≤ to ∧ to ≤ 7) := fun z => hq ⟨c1, z⟩
    constructor
    · unfold f_X10_cut
      simp only [noteOf_eq h.hn, if_pos c1, xopt_ps, traderOf_eq, if_neg c2, xopt_pn]
    · unfold f_X11_cut
      simp only [xlet_p, isNote_n e30 h.nn24, isTrader_eq, xb_0]
      rw [if_neg (by simp [c1]), if_pos (by simp only [c2, decide_false])]
  · constructor
    · unfold f_X10_cut
      simp only [noteOf_eq h.hn, if_neg c1, xopt_pn]
    · unfold f_X11_cut
      simp only [xlet_p, isNote_n e30 h.nn24, xb_0]
      rw [if_pos (by simp only [c1, decide_false])]
theorem s_cut (h : INV nb nn M) (q to : Int32) : R40 M (f_X10_cut q to M).2 ∧ (f_X10_cut q to M).1 = (f_X11_cut q to (f_X10_cut q to M).2).1 ∧ INV nb nn (f_X11_cut q to (f_X10_cut q to M).2).2 := by
  by_cases c : (0 ≤ q ∧ q < nI nn) ∧ (0 ≤ to ∧ to ≤ 7)
  · obtain ⟨k, rfl, hk, hkc⟩ := ix_n (by have := h.nn24; omega) c.1
    have hn := h.n1 hk
    have h24 := h.nn24
    rw [cut10 h hk c.2]
    by_cases c1 : M 29 k 5 = 0 ∧ M 29 k 8 = to
    · rw [if_pos c1]
      dsimp only
      rw [cut11 h (R40_rf M) hk c.2, if_pos c1]
      exact ⟨R40_rf M, rfl, INV_thr h⟩
    · rw [if_neg c1]
      by_cases c2 : M 29 k 5 = 0 ∧ M 29 k 7 = 0
      · rw [if_pos c2]
        dsimp only
        have r : R40 M (xup (xup (xup (xup M 29 k 9 (M 29 k 8)) 29 k 10 to) 29 k 7 1) 29 k 5 3) := R40_up (R40_up (R40_up (R40_up (R40_rf M) (by decide)) (by decide)) (by decide)) (by decide)
        rw [cut11 h r hk c.2, if_neg c1, if_pos c2]
        refine ⟨r, rfl, INV_no h (nk_up (nk_up (nk_up (nk_up (nk_up (nk_thr (nk_up (nk_up (nk_up (nk_up (fun _ _ _ _ _ => rfl) (by unfold nk; omega)) (by unfold nk; omega)) (by unfold nk; omega)) (by unfold nk; omega))) (by unfold nk; omega)) (by unfold nk; omega)) (by unfold nk; omega)) (by unfold nk; omega)) (by unfold nk; omega)) ?_⟩
        have g8 := h.no
        refine gNo_1 (M := M) (k := k) hk h24 g8 (by simp [xup_at]) (by simp [xup_row]) (by simp [xup_row]) (by simp [xup_row]) (by simp [xup_row]) (fun i hi => ?_) (by simpa [xup_at] using g8.2.1 k) (by simp [xup_at]) (by simp [xup_at]) ?_
        · have z1 : ¬ 2 * i = 2 * k + 1 := by omega
          have z2 : ¬ 2 * i = 2 * k := by omega
          have z3 : ¬ 2 * i + 1 = 2 * k := by omega
          simp [xup_row, xup_row2, xup_at, hi, z1, z3]
          exact ⟨fun q => absurd q z2, fun q => absurd q z2⟩
        · refine gN1_c (A := M 29 k) (r85 := M 85 0 k) (r86 := M 86 0 k) (r87 := M 87 0 k) (r88 := M 88 0 k) (r89 := M 89 0 k) (R90 := M 90 0) ?_ (fun c h1 h2 h3 h4 => by simp [xup_at, h1, h2, h3, h4]) (by simp [xup_at]) (by simp [xup_at]) (by simp [xup_at]) (by simp [xup_at]) ?_ ?_ (by simp [xup_at])
          · simpa [xup_row, xup_at, xup_row2] using hn
          · simp [xup_at]; rw [hn.t86, if_neg (by rw [c2.1]; decide)]
          · simp [xup_at]; rw [hn.t87, if_neg (by rw [c2.1]; decide)]
      · rw [if_neg c2]
        dsimp only
        rw [cut11 h (R40_rf M) hk c.2, if_neg c1, if_neg c2]
        exact ⟨R40_rf M, rfl, INV_thr h⟩
  · obtain ⟨e1, e2⟩ := cutb h q to c
    rw [e1]
    dsimp only
    rw [e2]
    exact ⟨R40_rf M, rfl, INV_thr h⟩
end HALVES
