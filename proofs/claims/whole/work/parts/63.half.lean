/-! half -/
section HALF
variable {nb nn : Nat} {M : xM}
/-- the slot of a half, of the other -/
def hs (f : Nat) : Nat := 9 + f
def ho (f : Nat) : Nat := 10 - f
theorem half_f {hf : Int32} (c : 0 ≤ hf ∧ hf ≤ 1) : ∃ f : Nat, hf = nI f ∧ f < 2 := by
  obtain ⟨f, e, hf⟩ := i32b (n := 1) (by decide) c.1 c.2
  exact ⟨f, e, by omega⟩
theorem move_eq {k f : Nat} (hf : f < 2) (to w : Int32) (M : xM) : f_X4_moveHalf k (nI f) to w M = if M 29 k (ho f) = to then (if to = (-1000000) then xup (xup M 29 k (hs f) to) 29 k 5 2 else if f_X4_handTrader k (M 29 k 6 - 1) M = to then xup (xup (xup M 29 k (hs f) to) 29 k 5 0) 29 k 8 to else f_X4_handOn k to w (xup M 29 k (hs f) to)) else xup M 29 k (hs f) to := by
  have ht : ∀ s : Nat, s = 9 ∨ s = 10 → f_X4_handTrader k ((xup M 29 k s to 29 k 6) - 1) (xup M 29 k s to) = f_X4_handTrader k (M 29 k 6 - 1) M := by
    intro s hs
    have e6 : xup M 29 k s to 29 k 6 = M 29 k 6 := xup_j (by omega)
    have e30 : ∀ j, xup M 29 k s to 30 k j = M 30 k j := fun j => xup_k (by decide)
    unfold f_X4_handTrader
    rw [e6, e30]
  unfold f_X4_moveHalf
  simp only [xlet_p]
  rcases (show f = 0 ∨ f = 1 by omega) with e | e
  · subst e
    rw [if_pos (by decide), ht 9 (by omega)]
    have s1 : xup M 29 k 9 to 29 k 9 = to := xup_same
    have s2 : xup M 29 k 9 to 29 k 10 = M 29 k 10 := xup_j (by decide)
    rw [s1, s2]
    show _ = if M 29 k 10 = to then _ else _
    by_cases c : M 29 k 10 = to
    · rw [if_pos c.symm, if_pos c]; rfl
    · rw [if_neg (fun q => c q.symm), if_neg c]; rfl
  · subst e
    rw [if_neg (by decide), ht 10 (by omega)]
    have s1 : xup M 29 k 10 to 29 k 10 = to := xup_same
    have s2 : xup M 29 k 10 to 29 k 9 = M 29 k 9 := xup_j (by decide)
    rw [s1, s2]
    show _ = if M 29 k 9 = to then _ else _
    by_cases c : M 29 k 9 = to
    · rw [if_pos c, if_pos c]; rfl
    · rw [if_neg c, if_neg c]; rfl
theorem half10 (h : INV nb nn M) {k f : Nat} (hk : k < nn) (hf : f < 2) {to : Int32} (ht : to = (-1000000) ∨ (0 ≤ to ∧ to ≤ 7)) : f_X10_half (nI k) (nI f) to M = if M 29 k 5 = 3 ∧ M 29 k (hs f) ≠ (-1000000) then (f_X4_wouldBePaid k (f_X4_moveHalf k (nI f) to (M 0 0 14) M), f_X4_moveHalf k (nI f) to (M 0 0 14) M) else ((-1000002), M) := by
  have u := nI_u hk (by have := h.nn24; omega)
  have hkc : (nI k).toNatClampNeg = k := nI_clamp (by have := h.nn24; omega)
  have uf : 0 ≤ nI f ∧ nI f ≤ 1 := ⟨nI_pos' (by omega), nI_le (b := 1) (by omega) (by decide)⟩
  have hh : f_X4_halfHolder k (nI f) M = M 29 k (hs f) := by
    unfold f_X4_halfHolder
    rcases (show f = 0 ∨ f = 1 by omega) with e | e
    · subst e; rw [if_pos (by decide)]; rfl
    · subst e; rw [if_neg (by decide)]; rfl
  unfold f_X10_half
  simp only [xlet_p, noteOf_eq h.hn, if_pos u, xopt_ps, hkc, isUpTo_eq, xb_0, hh, traderOf_eq]
  generalize f_X4_moveHalf k (nI f) to (M 0 0 14) M = N
  rw [if_neg (by simp [uf])]
  by_cases c1 : M 29 k 5 = 3
  · by_cases c2 : M 29 k (hs f) = -1000000
    · by_cases c3 : to = -1000000
      · simp [c1, c2, c3]
      · have c4 := ht.resolve_left c3
        simp [c1, c2, c3, c4, xopt_ps]
    · by_cases c3 : to = -1000000
      · simp [c1, c2, c3]
      · have c4 := ht.resolve_left c3
        simp [c1, c2, c3, c4, xopt_ps]
  · by_cases c3 : to = -1000000
    · simp [c1, c3]
    · have c4 := ht.resolve_left c3
      simp [c1, c3, c4, xopt_ps]
theorem halfb (h : INV nb nn M) (q hf to : Int32) (hq : ¬ ((0 ≤ q ∧ q < nI nn) ∧ (0 ≤ hf ∧ hf ≤ 1) ∧ (to = (-1000000) ∨ (0 ≤ to ∧ to ≤ 7)))) : f_X10_half q hf to M = ((-1000001), M) ∧ f_X11_half q hf to M = ((-1000001), xup M 40 0 0 0) := by
  have e30 : xup M 40 0 0 0 40 0 30 = nI nn := by rw [xup_j (by decide)]; exact h.c30
  by_cases c1 : 0 ≤ q ∧ q < nI nn
  · by_cases c2 : 0 ≤ hf ∧ hf ≤ 1
    · have c3 : ¬ to = -1000000 := fun z => hq ⟨c1, c2, Or.inl z⟩
      have c4 : ¬ (0 ≤ to ∧ to ≤ 7) := fun z => hq ⟨c1, c2, Or.inr z⟩
      constructor
      · unfold f_X10_half
        simp only [xlet_p, noteOf_eq h.hn, if_pos c1, xopt_ps, isUpTo_eq, xb_0, traderOf_eq, if_neg c4, xopt_pn]
        rw [if_neg (by simp [c2]), if_neg c3]
      · unfold f_X11_half
        simp only [xlet_p, isNote_n e30 h.nn24, in_0_1, isTrader_eq, xb_0]
        rw [if_neg (by simp [c1]), if_neg (by simp [c2]), if_neg c3, if_pos (by simp only [c4, decide_false])]
    · constructor
      · unfold f_X10_half
        simp only [xlet_p, noteOf_eq h.hn, if_pos c1, xopt_ps, isUpTo_eq, xb_0]
        rw [if_pos (by simp only [c2, decide_false])]
      · unfold f_X11_half
        simp only [xlet_p, isNote_n e30 h.nn24, in_0_1, xb_0]
        rw [if_neg (by simp [c1]), if_pos (by simp only [c2, decide_false])]
  · constructor
    · unfold f_X10_half
      simp only [noteOf_eq h.hn, if_neg c1, xopt_pn]
    · unfold f_X11_half
      simp only [xlet_p, isNote_n e30 h.nn24, xb_0]
      rw [if_pos (by simp only [c1, decide_false])]
theorem half11 (h : INV nb nn M) {N : xM} (e : R40 M N) {k f : Nat} (hk : k < nn) (hf : f < 2) {to : Int32} (ht : to = (-1000000) ∨ (0 ≤ to ∧ to ≤ 7)) : f_X11_half (nI k) (nI f) to N = if M 29 k 5 = 3 ∧ M 29 k (hs f) ≠ (-1000000) then (if M 29 k (ho f) = to then (if to = (-1000000) then (0, xup (xup (xup (xup N 40 0 0 0) 90 0 (2 * k + f) to) 89 0 k 0) 87 0 k 1) else (M 29 k 2, f_X11_comeTo (nI k) to (xup (xup (xup N 40 0 0 0) 90 0 (2 * k + f) to) 89 0 k 0))) else (if to = (-1000000) ∨ M 29 k (ho f) = (-1000000) then (M 29 k 2 / 2, xup (xup N 40 0 0 0) 90 0 (2 * k + f) to) else (0, xup (xup N 40 0 0 0) 90 0 (2 * k + f) to))) else ((-1000002), xup N 40 0 0 0) := by
  have u := nI_u hk (by have := h.nn24; omega)
  have hkc : (nI k).toNatClampNeg = k := nI_clamp (by have := h.nn24; omega)
  have uf : 0 ≤ nI f ∧ nI f ≤ 1 := ⟨nI_pos' (by omega), nI_le (b := 1) (by omega) (by decide)⟩
  have hn := h.n1 hk
  have h24 := h.nn24
  have e30 : xup N 40 0 0 0 40 0 30 = nI nn := by rw [xup_j (by decide), e 40 0 30 (by decide)]; exact h.c30
  have e89 : xup N 40 0 0 0 89 0 k = if M 29 k 5 = 3 then 1 else 0 := by rw [xup_k (by decide), e 89 0 k (by decide)]; exact hn.t89
  have i1 : (2 * nI k + nI f).toNatClampNeg = 2 * k + f := by rw [nI_m 2 k 2 rfl, nI_add, nI_clamp (by omega)]
  have i2 : (2 * nI k + 1 - nI f).toNatClampNeg = 2 * k + (1 - f) := by
    rw [nI_m 2 k 2 rfl, nI_1, pk_sub (by omega), nI_clamp (by omega)]; omega
  have e90 : ∀ j : Nat, xup N 40 0 0 0 90 0 j = M 90 0 j := fun j => by rw [xup_k (by decide), e 90 0 j (by decide)]
  have f90 : xup (xup N 40 0 0 0) 90 0 (2 * k + f) to 90 0 (2 * k + (1 - f)) = M 90 0 (2 * k + (1 - f)) := by rw [xup_j (by omega)]; exact e90 _
  have f82 : xup (xup N 40 0 0 0) 90 0 (2 * k + f) to 82 0 k = M 29 k 2 := by rw [xup_k (by decide), xup_k (by decide), e 82 0 k (by decide)]; exact hn.b82
  have g82 : f_X11_comeTo (nI k) to (xup (xup (xup N 40 0 0 0) 90 0 (2 * k + f) to) 89 0 k 0) 82 0 k = M 29 k 2 := by rw [come_o (by decide) (by decide) (by decide) (by decide), xup_k (by decide)]; exact f82
  unfold f_X11_half
  simp only [xlet_p, isNote_n e30 h24, in_0_1, isTrader_eq, xb_0, hkc, nar1, nar0, e89, i1, i2, e90, f90, f82, g82]
  rw [if_neg (by simp [u]), if_neg (by simp [uf])]
  generalize f_X11_comeTo (nI k) to (xup (xup (xup N 40 0 0 0) 90 0 (2 * k + f) to) 89 0 k 0) = Z
  by_cases c1 : M 29 k 5 = 3
  · obtain ⟨v1, v2⟩ := hn.hv c1
    have w1 : M 90 0 (2 * k + f) = M 29 k (hs f) := by
      rcases (show f = 0 ∨ f = 1 by omega) with z | z
      · subst z; exact v1
      · subst z; exact v2
    have w2 : M 90 0 (2 * k + (1 - f)) = M 29 k (ho f) := by
      rcases (show f = 0 ∨ f = 1 by omega) with z | z
      · subst z; exact v2
      · subst z; exact v1
    rw [w1, w2]
    by_cases c2 : M 29 k (hs f) = -1000000
    · by_cases c3 : to = -1000000
      · simp [c1, c2, c3]
      · have c4 := ht.resolve_left c3
        simp [c1, c2, c3, c4]
    · by_cases c3 : to = -1000000
      · by_cases c5 : M 29 k (ho f) = to
        · simp [c1, c2, c3]
        · simp [c1, c2, c3]
      · have c4 := ht.resolve_left c3
        by_cases c5 : M 29 k (ho f) = to
        · simp [c1, c2, c3, c4, c5]
        · by_cases c6 : M 29 k (ho f) = -1000000
          · rw [c6] at c5
            simp [c1, c2, c3, c4, c5, c6]
          · simp [c1, c2, c3, c4, c5, c6]
  · by_cases c3 : to = -1000000
    · simp [c1, c3]
    · have c4 := ht.resolve_left c3
      simp [c1, c3, c4]
theorem s_half (h : INV nb nn M) (q hf to : Int32) : R40 M (f_X10_half q hf to M).2 ∧ (f_X10_half q hf to M).1 = (f_X11_half q hf to (f_X10_half q hf to M).2).1 ∧ INV nb nn (f_X11_half q hf to (f_X10_half q hf to M).2).2 := by
  by_cases c : (0 ≤ q ∧ q < nI nn) ∧ (0 ≤ hf ∧ hf ≤ 1) ∧ (to = (-1000000) ∨ (0 ≤ to ∧ to ≤ 7))
  · obtain ⟨ca, cb, ht⟩ := c
    obtain ⟨k, rfl, hk, hkc⟩ := ix_n (by have := h.nn24; omega) ca
    obtain ⟨f, rfl, hf2⟩ := half_f cb
    have hn := h.n1 hk
    have h24 := h.nn24
    have g8 := h.no
    rw [half10 h hk hf2 ht]
    by_cases c1 : M 29 k 5 = 3 ∧ M 29 k (hs f) ≠ (-1000000)
    · rw [if_pos c1]
      obtain ⟨c5, c9⟩ := c1
      have s910 : hs f = 9 ∨ hs f = 10 := by unfold hs; omega
      have o910 : (hs f = 9 ∧ ho f = 10) ∨ (hs f = 10 ∧ ho f = 9) := by unfold hs ho; omega
      have s5 : hs f ≠ 5 := by omega
      have u5 : xup M 29 k (hs f) to 29 k 5 = 3 := by rw [xup_j (Ne.symm s5)]; exact c5
      rw [move_eq hf2]
      by_cases c2 : M 29 k (ho f) = to
      · rw [if_pos c2]
        by_cases c3 : to = -1000000
        · rw [if_pos c3]
          dsimp only
          have r : R40 M (xup (xup M 29 k (hs f) to) 29 k 5 2) := R40_up (R40_up (R40_rf M) (by decide)) (by decide)
          rw [half11 h r hk hf2 ht, if_pos ⟨c5, c9⟩, if_pos c2, if_pos c3]
          refine ⟨r, ?_, INV_no h (nk_up (nk_up (nk_up (nk_thr (nk_up (nk_up (fun _ _ _ _ _ => rfl) (by unfold nk; omega)) (by unfold nk; omega))) (by unfold nk; omega)) (by unfold nk; omega)) (by unfold nk; omega)) ?_⟩
          · unfold f_X4_wouldBePaid
            rw [xup_same, if_pos rfl]
          · refine gNo_1 (M := M) (k := k) hk h24 g8 (by simp [xup_at]) (by simp [xup_row]) (by simp [xup_row]) (by simp [xup_row]) (by simp [xup_row]) (fun i hi => ?_) ?_ ?_ ?_ ?_
            · have z1 : ¬ 2 * i = 2 * k + f := by omega
              have z3 : ¬ 2 * i + 1 = 2 * k + f := by omega
              simp [xup_row, xup_row2, xup_at, hi, z1, z3]
            · have z : ¬ 6 = hs f := by omega
              simpa [xup_at, z] using g8.2.1 k
            · have z : ¬ 1 = hs f := by omega
              simp [xup_at, z]
            · have z : ¬ 0 = hs f := by omega
              simp [xup_at, z]
            · have hn2 : gN1 k (xup M 29 k (hs f) to 29 k) (M 30 k) (M 31 k) (M 81 0 k) (M 82 0 k) (M 83 0 k) (M 84 0 k) (M 85 0 k) (M 86 0 k) (M 87 0 k) (M 88 0 k) (M 89 0 k) (xup M 90 0 (2 * k + f) to 90 0) (M 91 0 k) (M 92 0) (M 93 0) := by
                refine gN1_c hn (fun c h1 h2 h3 h4 => ?_) u5 ?_ ?_ ?_ ?_ ?_ ?_
                · have z : ¬ c = hs f := by omega
                  simp [xup_at, z]
                · have z : ¬ 7 = hs f := by omega
                  simp [xup_at, z]; exact ⟨hn.t88, hn.cut⟩
                · obtain ⟨v1, v2⟩ := hn.hv c5
                  rcases (show f = 0 ∨ f = 1 by omega) with z | z
                  · subst z; simp [xup_at, hs, v2]
                  · subst z; simp [xup_at, hs, v1]
                · rw [hn.t85, if_neg (by rw [c5]; decide)]
                · rw [hn.t86, if_neg (by rw [c5]; decide)]
                · rw [hn.t87, if_neg (by rw [c5]; decide)]
                · rw [hn.t89, if_pos c5]
              refine gN1_w (w := 2) (A := xup M 29 k (hs f) to 29 k) (r85 := M 85 0 k) (r86 := M 86 0 k) (r87 := M 87 0 k) (r89 := M 89 0 k) ?_ (fun c hc => by simp [xup_at, hc]) (by simp [xup_at]) (by decide) ?_ ?_ (by simp [xup_at]) (by simp [xup_at])
              · have e90 : xup (xup (xup (xup M 29 k (hs f) to) 29 k 5 2) 40 0 0 0) 90 0 (2 * k + f) to 90 0 = xup M 90 0 (2 * k + f) to 90 0 := by funext c; simp [xup_at]
                simp [xup_row, xup_at, xup_row2]
                rw [e90]
                exact hn2
              · simp [xup_at]; rw [hn.t85, if_neg (by rw [c5]; decide)]
              · simp [xup_at]; rw [hn.t86, if_neg (by rw [c5]; decide)]
        · have ht7 := ht.resolve_left c3
          rw [if_neg c3]
          obtain ⟨n, hn6, hn12⟩ := cnt_n1 h k
          have h1n : 1 ≤ n := by
            have := hn.m1
            rw [hn6] at this
            exact (nI_leI (a := 1) (by omega) (by omega)).mp this
          have hlast : f_X4_handTrader k (M 29 k 6 - 1) M = M 30 k (n - 1) := by
            obtain ⟨m, rfl⟩ : ∃ m, n = m + 1 := ⟨n - 1, by omega⟩
            unfold f_X4_handTrader
            rw [hn6, nI_pred, if_neg (nI_pos (by omega)), if_neg (nI_ge (by omega) (by omega)), nI_clamp (by omega)]
            rfl
          have h92 : M 92 0 (12 * k + n - 1) = M 30 k (n - 1) := by
            rw [show 12 * k + n - 1 = 12 * k + (n - 1) by omega]
            exact (hn.hi (n - 1) (by rw [hn6, nI_clamp (by omega)]; omega)).1
          rw [hlast]
          have core : ∀ N : xM, R40 M N → (∀ a b c : Nat, a < 40 → ¬ nk a → N a b c = M a b c) → (∀ i : Nat, i ≠ k → N 29 i = M 29 i ∧ N 30 i = M 30 i ∧ N 31 i = M 31 i) → (∀ c : Nat, c ≠ 5 → c ≠ 6 → c ≠ 8 → c ≠ 9 → c ≠ 10 → N 29 k c = M 29 k c) → N 29 k 5 = 0 → N 29 k 8 = to → (N 29 k 6 = if (decide (n < 12 ∧ M 30 k (n - 1) ≠ to)) = true then nI (n + 1) else nI n) → (∀ c : Nat, N 30 k c = if (decide (n < 12 ∧ M 30 k (n - 1) ≠ to)) = true ∧ c = n then to else M 30 k c) → (∀ c : Nat, N 31 k c = if (decide (n < 12 ∧ M 30 k (n - 1) ≠ to)) = true ∧ c = n then M 0 0 14 else M 31 k c) → INV nb nn (f_X11_comeTo (nI k) to (xup (xup (xup N 40 0 0 0) 90 0 (2 * k + f) to) 89 0 k 0)) := by
            intro N r e0 eo ek e5 e8 e6 eH eK
            have m91 : xup (xup (xup N 40 0 0 0) 90 0 (2 * k + f) to) 89 0 k 0 91 0 k = nI n := by rw [xup_k (by decide), xup_k (by decide), xup_k (by decide), r 91 0 k (by decide), hn.m91]; exact hn6
            have m92 : ∀ j, xup (xup (xup N 40 0 0 0) 90 0 (2 * k + f) to) 89 0 k 0 92 0 j = M 92 0 j := fun j => by rw [xup_k (by decide), xup_k (by decide), xup_k (by decide), r 92 0 j (by decide)]
            have m13 : xup (xup (xup N 40 0 0 0) 90 0 (2 * k + f) to) 89 0 k 0 40 0 13 = M 0 0 14 := by rw [xup_k (by decide), xup_k (by decide), xup_j (by decide), r 40 0 13 (by decide)]; exact h.st.2.1.symm
            have at0 := fun a b c => come_at (t := to) (show k < 24 by omega) m91 hn12 a b c
            rw [m92, h92, m13] at at0
            have dn0 : (n = 0 ∨ M 30 k (n - 1) ≠ to) ↔ M 30 k (n - 1) ≠ to := ⟨fun q => q.resolve_left (by omega), Or.inr⟩
            simp only [dn0] at at0
            obtain ⟨b, hb⟩ : ∃ b, decide (n < 12 ∧ M 30 k (n - 1) ≠ to) = b := ⟨_, rfl⟩
            simp only [hb] at e6 eH eK
            have ad : (n < 12 ∧ M 30 k (n - 1) ≠ to) ↔ b = true := by rw [← hb]; simp
            have hb12 : b = true → n < 12 := fun q => (of_decide_eq_true (hb.trans q)).1
            generalize hZ : f_X11_comeTo (nI k) to (xup (xup (xup N 40 0 0 0) 90 0 (2 * k + f) to) 89 0 k 0) = Z at at0
            simp only [ad] at at0
            have zo : ∀ a b' c : Nat, ¬ a = 85 → ¬ a = 92 → ¬ a = 93 → ¬ a = 91 → Z a b' c = xup (xup (xup N 40 0 0 0) 90 0 (2 * k + f) to) 89 0 k 0 a b' c := fun a b' c q1 q2 q3 q4 => by
              rw [at0, if_neg (fun z => q1 z.1), if_neg (fun z => q2 z.2.1), if_neg (fun z => q3 z.2.1), if_neg (fun z => q4 z.2.1)]
            have zr : ∀ a : Nat, ¬ a = 85 → ¬ a = 92 → ¬ a = 93 → ¬ a = 91 → ¬ a = 89 → ¬ a = 90 → ¬ a = 40 → Z a = N a := fun a q1 q2 q3 q4 q5 q6 q7 => by
              funext b' c
              rw [zo a b' c q1 q2 q3 q4, xup_k q5, xup_k q6, xup_k q7]
            have r40 : ∀ a : Nat, 40 ≤ a → N a = M a := fun a ha => by funext b' c; exact r a b' c ha
            refine INV_no h (fun a b' c q1 q2 => ?_) ?_
            · have w : ¬ a = 85 ∧ ¬ a = 92 ∧ ¬ a = 93 ∧ ¬ a = 91 ∧ ¬ a = 89 ∧ ¬ a = 90 := by unfold nk at q2; omega
              rw [zo a b' c w.1 w.2.1 w.2.2.1 w.2.2.2.1, xup_k w.2.2.2.2.1, xup_k w.2.2.2.2.2, xup_at, if_neg (fun z => q1 (by unfold jk; omega))]
              rcases Nat.lt_or_ge a 40 with z | z
              · exact e0 a b' c z q2
              · exact r a b' c z
            · refine gNo_1 (M := M) (k := k) hk h24 g8 ?_ ?_ ?_ ?_ ?_ (fun i hi => ?_) ?_ ?_ ?_ ?_
              · rw [zo 40 0 30 (by decide) (by decide) (by decide) (by decide), xup_k (by decide), xup_k (by decide), xup_j (by decide)]; exact r 40 0 30 (by decide)
              · rw [zr 81 (by decide) (by decide) (by decide) (by decide) (by decide) (by decide) (by decide), r40 81 (by decide)]
              · rw [zr 82 (by decide) (by decide) (by decide) (by decide) (by decide) (by decide) (by decide), r40 82 (by decide)]
              · rw [zr 83 (by decide) (by decide) (by decide) (by decide) (by decide) (by decide) (by decide), r40 83 (by decide)]
              · rw [zr 84 (by decide) (by decide) (by decide) (by decide) (by decide) (by decide) (by decide), r40 84 (by decide)]
              · obtain ⟨o1, o2, o3⟩ := eo i hi
                rw [zr 29 (by decide) (by decide) (by decide) (by decide) (by decide) (by decide) (by decide), zr 30 (by decide) (by decide) (by decide) (by decide) (by decide) (by decide) (by decide), zr 31 (by decide) (by decide) (by decide) (by decide) (by decide) (by decide) (by decide), zr 86 (by decide) (by decide) (by decide) (by decide) (by decide) (by decide) (by decide), zr 87 (by decide) (by decide) (by decide) (by decide) (by decide) (by decide) (by decide), zr 88 (by decide) (by decide) (by decide) (by decide) (by decide) (by decide) (by decide), r40 86 (by decide), r40 87 (by decide), r40 88 (by decide)]
                refine ⟨o1, o2, o3, ?_, rfl, rfl, rfl, ?_, ?_, ?_, ?_, fun j hj => ⟨?_, ?_⟩⟩
                · rw [at0, if_neg (by omega), if_neg (by omega), if_neg (by omega), if_neg (by omega), xup_k (by decide), xup_k (by decide), xup_k (by decide), r40 85 (by decide)]
                · rw [zo 89 0 i (by decide) (by decide) (by decide) (by decide), xup_j hi, xup_k (by decide), xup_k (by decide), r40 89 (by decide)]
                · rw [at0, if_neg (by omega), if_neg (by omega), if_neg (by omega), if_neg (by omega), xup_k (by decide), xup_k (by decide), xup_k (by decide), r40 91 (by decide)]
                · rw [zo 90 0 _ (by decide) (by decide) (by decide) (by decide), xup_k (by decide), xup_j (by omega), xup_k (by decide), r40 90 (by decide)]
                · rw [zo 90 0 _ (by decide) (by decide) (by decide) (by decide), xup_k (by decide), xup_j (by omega), xup_k (by decide), r40 90 (by decide)]
                · rw [at0, if_neg (by omega), if_neg (fun y => by have := hb12 y.1; omega), if_neg (by omega), if_neg (by omega), xup_k (by decide), xup_k (by decide), xup_k (by decide), r40 92 (by decide)]
                · rw [at0, if_neg (by omega), if_neg (by omega), if_neg (fun y => by have := hb12 y.1; omega), if_neg (by omega), xup_k (by decide), xup_k (by decide), xup_k (by decide), r40 93 (by decide)]
              · rw [zr 29 (by decide) (by decide) (by decide) (by decide) (by decide) (by decide) (by decide), e6]
                cases b with
                | true =>
                  have : n < 12 := (of_decide_eq_true hb).1
                  simp only [if_true]
                  exact ⟨nI_pos' (by omega), nI_le (b := 12) (by omega) (by decide)⟩
                | false =>
                  simp only [Bool.false_eq_true, if_false]
                  exact ⟨nI_pos' (by omega), nI_le (b := 12) (by omega) (by decide)⟩
              · rw [zr 29 (by decide) (by decide) (by decide) (by decide) (by decide) (by decide) (by decide)]; exact ek 1 (by decide) (by decide) (by decide) (by decide) (by decide)
              · rw [zr 29 (by decide) (by decide) (by decide) (by decide) (by decide) (by decide) (by decide)]; exact ek 0 (by decide) (by decide) (by decide) (by decide) (by decide)
              · rw [zr 29 (by decide) (by decide) (by decide) (by decide) (by decide) (by decide) (by decide), zr 30 (by decide) (by decide) (by decide) (by decide) (by decide) (by decide) (by decide), zr 31 (by decide) (by decide) (by decide) (by decide) (by decide) (by decide) (by decide), zr 81 (by decide) (by decide) (by decide) (by decide) (by decide) (by decide) (by decide), zr 82 (by decide) (by decide) (by decide) (by decide) (by decide) (by decide) (by decide), zr 83 (by decide) (by decide) (by decide) (by decide) (by decide) (by decide) (by decide), zr 84 (by decide) (by decide) (by decide) (by decide) (by decide) (by decide) (by decide), zr 86 (by decide) (by decide) (by decide) (by decide) (by decide) (by decide) (by decide), zr 87 (by decide) (by decide) (by decide) (by decide) (by decide) (by decide) (by decide), zr 88 (by decide) (by decide) (by decide) (by decide) (by decide) (by decide) (by decide), r40 81 (by decide), r40 82 (by decide), r40 83 (by decide), r40 84 (by decide), r40 86 (by decide), r40 87 (by decide), r40 88 (by decide)]
                refine gN1_h hn hn6 hn12 b ek e5 e8 ht7 e6 (fun q => ?_) (fun q => ?_) eH eK (fun c hc => ?_) (fun c hc => ?_) ?_ ?_ ?_ ?_ ?_
                · exact (of_decide_eq_true (hb.trans q)).1
                · have := of_decide_eq_false (hb.trans q)
                  by_cases z : n = 12
                  · exact Or.inl z
                  · right
                    by_cases z2 : M 30 k (n - 1) = to
                    · exact z2
                    · exact absurd ⟨by omega, z2⟩ this
                · rw [at0, if_neg (by omega)]
                  by_cases z : b = true ∧ c = n
                  · rw [if_pos ⟨z.1, rfl, rfl, by omega⟩, if_pos z]
                  · rw [if_neg (fun y => z ⟨y.1, by omega⟩), if_neg (by omega), if_neg (by omega), if_neg z, xup_k (by decide), xup_k (by decide), xup_k (by decide), r40 92 (by decide)]
                · rw [at0, if_neg (by omega), if_neg (by omega)]
                  by_cases z : b = true ∧ c = n
                  · rw [if_pos ⟨z.1, rfl, rfl, by omega⟩, if_pos z]
                  · rw [if_neg (fun y => z ⟨y.1, by omega⟩), if_neg (by omega), if_neg z, xup_k (by decide), xup_k (by decide), xup_k (by decide), r40 93 (by decide)]
                · rw [at0, if_neg (by omega), if_neg (by omega), if_neg (by omega), e6]
                  by_cases z : b = true
                  · rw [if_pos ⟨z, rfl, rfl, rfl⟩, if_pos z]
                  · rw [if_neg (fun y => z y.1), if_neg z]; exact m91
                · rw [at0, if_pos ⟨rfl, rfl, rfl⟩]
                · rw [hn.t86, if_neg (by rw [c5]; decide)]
                · rw [hn.t87, if_neg (by rw [c5]; decide)]
                · rw [zo 89 0 k (by decide) (by decide) (by decide) (by decide), xup_same]
          by_cases c4 : M 30 k (n - 1) = to
          · rw [if_pos c4]
            dsimp only
            have r : R40 M (xup (xup (xup M 29 k (hs f) to) 29 k 5 0) 29 k 8 to) := R40_up (R40_up (R40_up (R40_rf M) (by decide)) (by decide)) (by decide)
            rw [half11 h r hk hf2 ht, if_pos ⟨c5, c9⟩, if_pos c2, if_neg c3]
            have db : decide (n < 12 ∧ M 30 k (n - 1) ≠ to) = false := decide_eq_false (fun q => q.2 c4)
            refine ⟨r, ?_, core _ r (fun a b c q1 q2 => ?_) (fun i hi => ?_) (fun c q1 q2 q3 q4 q5 => ?_) ?_ ?_ ?_ (fun c => ?_) (fun c => ?_)⟩
            · unfold f_X4_wouldBePaid
              have z : ¬ 2 = hs f := by omega
              simp [xup_at, z]
            · have : a ≠ 29 := fun z => q2 (by unfold nk; omega)
              simp [xup_at, this]
            · simp [xup_row, xup_row2, hi]
            · have : ¬ c = hs f := by omega
              simp [xup_at, this, q1, q3]
            · simp [xup_at]
            · simp [xup_at]
            · have : ¬ 6 = hs f := by omega
              rw [db]; simp [xup_at, this]; exact hn6
            · rw [db]; simp [xup_at]
            · rw [db]; simp [xup_at]
          · rw [if_neg c4]
            dsimp only
            have u6 : xup M 29 k (hs f) to 29 k 6 = nI n := by rw [xup_j (by omega)]; exact hn6
            have at1 := fun a b c => handOn_at (k := k) (to := to) (w := M 0 0 14) u6 hn12 a b c
            have r : R40 M (f_X4_handOn k to (M 0 0 14) (xup M 29 k (hs f) to)) := fun a b c q => by
              rw [at1, if_neg (by omega), if_neg (by omega), if_neg (by omega), if_neg (by omega), if_neg (by omega), xup_k (by omega)]
            rw [half11 h r hk hf2 ht, if_pos ⟨c5, c9⟩, if_pos c2, if_neg c3]
            have db : decide (n < 12 ∧ M 30 k (n - 1) ≠ to) = decide (n < 12) := by simp [c4]
            refine ⟨r, ?_, core _ r (fun a b c q1 q2 => ?_) (fun i hi => ⟨?_, ?_, ?_⟩) (fun c q1 q2 q3 q4 q5 => ?_) ?_ ?_ ?_ (fun c => ?_) (fun c => ?_)⟩
            · unfold f_X4_wouldBePaid
              have z : ¬ 2 = hs f := by omega
              have z5 : f_X4_handOn k to (M 0 0 14) (xup M 29 k (hs f) to) 29 k 5 = 0 := by rw [at1, if_pos ⟨rfl, rfl, rfl⟩]
              have z2 : f_X4_handOn k to (M 0 0 14) (xup M 29 k (hs f) to) 29 k 2 = M 29 k 2 := by rw [at1, if_neg (by omega), if_neg (by omega), if_neg (by omega), if_neg (by omega), if_neg (by omega), xup_j z]
              rw [z5, z2, if_neg (by decide), if_neg (by decide)]
            · have w : ¬ a = 29 ∧ ¬ a = 30 ∧ ¬ a = 31 := by unfold nk at q2; omega
              rw [at1, if_neg (by omega), if_neg (by omega), if_neg (by omega), if_neg (by omega), if_neg (by omega), xup_k w.1]
            · funext c; rw [at1, if_neg (by omega), if_neg (by omega), if_neg (by omega), if_neg (by omega), if_neg (by omega), xup_i hi]
            · funext c; rw [at1, if_neg (by omega), if_neg (by omega), if_neg (by omega), if_neg (by omega), if_neg (by omega), xup_i hi]
            · funext c; rw [at1, if_neg (by omega), if_neg (by omega), if_neg (by omega), if_neg (by omega), if_neg (by omega), xup_i hi]
            · rw [at1, if_neg (by omega), if_neg (by omega), if_neg (by omega), if_neg (by omega), if_neg (by omega), xup_j (by omega)]
            · rw [at1, if_pos ⟨rfl, rfl, rfl⟩]
            · rw [at1, if_neg (by omega), if_pos ⟨rfl, rfl, rfl⟩]
            · rw [at1, if_neg (by omega), if_neg (by omega), if_neg (by omega), if_neg (by omega), db]
              by_cases z : n < 12
              · rw [if_pos ⟨z, rfl, rfl, rfl⟩, if_pos (decide_eq_true z)]
              · rw [if_neg (fun y => z y.1), if_neg (by simp [z])]; exact u6
            · rw [at1, if_neg (by omega), if_neg (by omega), db]
              by_cases z : n < 12 ∧ c = n
              · rw [if_pos ⟨z.1, rfl, rfl, z.2⟩, if_pos ⟨decide_eq_true z.1, z.2⟩]
              · rw [if_neg (fun y => z ⟨y.1, y.2.2.2⟩), if_neg (by omega), if_neg (by omega), if_neg (fun y => z ⟨of_decide_eq_true y.1, y.2⟩), xup_k (by decide)]
            · rw [at1, if_neg (by omega), if_neg (by omega), if_neg (by omega), db]
              by_cases z : n < 12 ∧ c = n
              · rw [if_pos ⟨z.1, rfl, rfl, z.2⟩, if_pos ⟨decide_eq_true z.1, z.2⟩]
              · rw [if_neg (fun y => z ⟨y.1, y.2.2.2⟩), if_neg (by omega), if_neg (fun y => z ⟨of_decide_eq_true y.1, y.2⟩), xup_k (by decide)]
      · rw [if_neg c2]
        dsimp only
        have r : R40 M (xup M 29 k (hs f) to) := R40_up (R40_rf M) (by decide)
        rw [half11 h r hk hf2 ht, if_pos ⟨c5, c9⟩, if_neg c2]
        have hI : INV nb nn (xup (xup (xup M 29 k (hs f) to) 40 0 0 0) 90 0 (2 * k + f) to) := by
          refine INV_no h (nk_up (nk_thr (nk_up (fun _ _ _ _ _ => rfl) (by unfold nk; omega))) (by unfold nk; omega)) ?_
          refine gNo_1 (M := M) (k := k) hk h24 g8 (by simp [xup_at]) (by simp [xup_row]) (by simp [xup_row]) (by simp [xup_row]) (by simp [xup_row]) (fun i hi => ?_) ?_ ?_ ?_ ?_
          · have z1 : ¬ 2 * i = 2 * k + f := by omega
            have z3 : ¬ 2 * i + 1 = 2 * k + f := by omega
            simp [xup_row, xup_row2, xup_at, hi, z1, z3]
          · have z : ¬ 6 = hs f := by omega
            simpa [xup_at, z] using g8.2.1 k
          · have z : ¬ 1 = hs f := by omega
            simp [xup_at, z]
          · have z : ¬ 0 = hs f := by omega
            simp [xup_at, z]
          · refine gN1_c (A := M 29 k) (r85 := M 85 0 k) (r86 := M 86 0 k) (r87 := M 87 0 k) (r88 := M 88 0 k) (r89 := M 89 0 k) (R90 := M 90 0) ?_ (fun c h1 h2 h3 h4 => ?_) ?_ ?_ ?_ ?_ ?_ ?_ ?_
            · simpa [xup_row, xup_at, xup_row2] using hn
            · have z : ¬ c = hs f := by omega
              simp [xup_at, z]
            · have z : ¬ 5 = hs f := by omega
              simp [xup_at, z]; exact c5
            · have z : ¬ 7 = hs f := by omega
              simp [xup_at, z]; exact ⟨hn.t88, hn.cut⟩
            · obtain ⟨v1, v2⟩ := hn.hv c5
              rcases (show f = 0 ∨ f = 1 by omega) with z | z
              · subst z; simp [xup_at, hs, v2]
              · subst z; simp [xup_at, hs, v1]
            · simp [xup_at]; rw [hn.t85, if_neg (by rw [c5]; decide)]
            · simp [xup_at]; rw [hn.t86, if_neg (by rw [c5]; decide)]
            · simp [xup_at]; rw [hn.t87, if_neg (by rw [c5]; decide)]
            · simp [xup_at]; rw [hn.t89, if_pos c5]
        have pay : f_X4_wouldBePaid k (xup M 29 k (hs f) to) = if to = (-1000000) ∨ M 29 k (ho f) = (-1000000) then M 29 k 2 / 2 else 0 := by
          unfold f_X4_wouldBePaid
          have z2 : xup M 29 k (hs f) to 29 k 2 = M 29 k 2 := xup_j (by omega)
          rw [u5, z2, if_neg (by decide), if_pos rfl]
          rcases o910 with ⟨z, y⟩ | ⟨z, y⟩
          · rw [z, y, xup_same, xup_j (by decide)]
            by_cases q1 : to = -1000000
            · simp [q1]
            · by_cases q2 : M 29 k 10 = -1000000 <;> simp [q1, q2]
          · rw [z, y, xup_same, xup_j (by decide)]
            by_cases q1 : to = -1000000
            · simp [q1]
            · by_cases q2 : M 29 k 9 = -1000000 <;> simp [q1, q2]
        rw [pay]
        by_cases q1 : to = (-1000000) ∨ M 29 k (ho f) = (-1000000)
        · rw [if_pos q1, if_pos q1]
          exact ⟨r, rfl, hI⟩
        · rw [if_neg q1, if_neg q1]
          exact ⟨r, rfl, hI⟩
    · rw [if_neg c1]
      dsimp only
      rw [half11 h (R40_rf M) hk hf2 ht, if_neg c1]
      exact ⟨R40_rf M, rfl, INV_thr h⟩
  · obtain ⟨e1, e2⟩ := halfb h q hf to c
    rw [e1]
    dsimp only
    rw [e2]
    exact ⟨R40_rf M, rfl, INV_thr h⟩
end HALF
