/-! THE LOOKS: what a number names, on both sides -/
theorem noteOf_eq {nn : Nat} {M : xM} (h : xHN nn M) (q : Int32) : f_X10_noteOf q M = if 0 ≤ q ∧ q < nI nn then some q.toNatClampNeg else none := by
  have h24 : nI nn ≤ 24 := nI_le (b := 24) h.1 (by decide)
  have h0 : 0 ≤ nI nn := nI_pos' (by have := h.1; omega)
  unfold f_X10_noteOf
  simp only [xlet, isUpTo_eq, h.2.1]
  have e : (q ≤ nI nn - 1) ↔ q < nI nn := by grind
  by_cases c : 0 ≤ q ∧ q < nI nn
  · have : ¬ 24 ≤ q := by grind
    simp [xb, c, e, this]
  · simp [xb, c, e]
theorem bankOf_eq {nb : Nat} {M : xM} (h : xHB nb M) (q : Int32) : f_X10_bankOf q M = if 0 ≤ q ∧ q < nI nb then some q.toNatClampNeg else none := by
  have h24 : nI nb ≤ 8 := nI_le (b := 8) h.1 (by decide)
  have h0 : 0 ≤ nI nb := nI_pos' (by have := h.1; omega)
  unfold f_X10_bankOf
  simp only [xlet, isUpTo_eq, h.2.1]
  have e : (q ≤ nI nb - 1) ↔ q < nI nb := by grind
  by_cases c : 0 ≤ q ∧ q < nI nb
  · have : ¬ 8 ≤ q := by grind
    simp [xb, c, e, this]
  · simp [xb, c, e]
theorem sheetOf_eq (M : xM) (q : Int32) : f_X10_sheetOf q M = if 0 ≤ q ∧ q ≤ 7 then some q.toNatClampNeg else none := by
  unfold f_X10_sheetOf
  simp only [xlet, isUpTo_eq]
  by_cases c : 0 ≤ q ∧ q ≤ 7 <;> simp [xb, c]
theorem traderOf_eq (M : xM) (q : Int32) : f_X10_traderOf q M = if 0 ≤ q ∧ q ≤ 7 then some q.toNatClampNeg else none := by
  unfold f_X10_traderOf
  simp only [xlet, isUpTo_eq]
  by_cases c : 0 ≤ q ∧ q ≤ 7 <;> simp [xb, c]
theorem isNote_n {nn : Nat} {N : xM} (h : N 40 0 30 = nI nn) (hn : nn ≤ 24) (q : Int32) : f_X11_isNote q N = decide (0 ≤ q ∧ q < nI nn) := by
  rw [isNote_eq (by rw [h]; exact nI_pos' (by omega)), h]
theorem isBank_n {nb : Nat} {N : xM} (h : N 40 0 7 = nI nb) (hn : nb ≤ 8) (q : Int32) : f_X11_isBank q N = decide (0 ≤ q ∧ q < nI nb) := by
  rw [isBank_eq (by rw [h]; exact nI_pos' (by omega)), h]
theorem ix_n {q : Int32} {n : Nat} (hn : n ≤ 1000) (c : 0 ≤ q ∧ q < nI n) : ∃ k : Nat, q = nI k ∧ k < n ∧ (nI k).toNatClampNeg = k := by
  obtain ⟨k, e, hk⟩ := i32_nat_lt (N := n) c.1 c.2 (nI_toInt (by omega))
  exact ⟨k, e, hk, nI_clamp (by omega)⟩
theorem ix_8 {q : Int32} (c : 0 ≤ q ∧ q ≤ 7) : ∃ k : Nat, q = nI k ∧ k < 8 ∧ (nI k).toNatClampNeg = k := by
  obtain ⟨k, e, hk⟩ := i32_nat_lt (N := 8) (B := 8) c.1 (by grind) (by decide)
  exact ⟨k, e, hk, nI_clamp (by omega)⟩
theorem ix_6 {q : Int32} (c : 0 ≤ q ∧ q ≤ 5) : ∃ k : Nat, q = nI k ∧ k < 6 ∧ (nI k).toNatClampNeg = k := by
  obtain ⟨k, e, hk⟩ := i32_nat_lt (N := 6) (B := 6) c.1 (by grind) (by decide)
  exact ⟨k, e, hk, nI_clamp (by omega)⟩
theorem nI_u {k n : Nat} (hk : k < n) (hn : n ≤ 1000) : 0 ≤ nI k ∧ nI k < nI n := ⟨nI_pos' (by omega), nI_lt hk (by omega)⟩
theorem nI_m (a k : Nat) (A : Int32) (hA : A = nI a) : A * nI k = nI (a * k) := by subst hA; exact pk_mul a k
theorem nI_mr (a k : Nat) (A : Int32) (hA : A = nI a) : nI k * A = nI (k * a) := by subst hA; exact pk_mul k a
theorem cl_add {a b : Nat} (h : a + b < 2 ^ 31) : (nI a + nI b).toNatClampNeg = a + b := by rw [nI_add, nI_clamp h]
section SIMPLE
variable {nb nn : Nat} {M : xM}
theorem s_status (h : INV nb nn M) : f_X10_status M = (f_X11_status M).1 ∧ INV nb nn (f_X11_status M).2 := by
  unfold f_X10_status f_X11_status
  simp only [xlet]
  refine ⟨?_, INV_thr h⟩
  rw [xup_j (by decide)]
  exact h.st.1
theorem s_fault (h : INV nb nn M) : f_X10_fault M = (f_X11_fault M).1 ∧ INV nb nn (f_X11_fault M).2 := by
  unfold f_X10_fault f_X11_fault
  simp only [xlet]
  refine ⟨?_, INV_thr h⟩
  rw [xup_j (by decide)]
  exact h.st.2.2.2.2
theorem s_trace (h : INV nb nn M) (i : Int32) : f_X10_trace i M = (f_X11_trace i M).1 ∧ INV nb nn (f_X11_trace i M).2 := by
  obtain ⟨t1, t2, t3, t4⟩ := h.tc
  have e : f_X11_trace i M = ((if 0 ≤ i ∧ i < M 12 0 1 then M 99 0 i.toNatClampNeg else (-1000000)), xup M 40 0 0 0) := by
    unfold f_X11_trace
    simp only [xlet]
    rw [in_0s (by rw [xup_j (by decide), t1]; exact t2), xup_j (by decide), t1]
    by_cases c : 0 ≤ i ∧ i < M 12 0 1 <;> simp [xb, c, xup_at]
  rw [e]
  refine ⟨?_, INV_thr h⟩
  unfold f_X10_trace f_X8_number
  simp only [xlet]
  by_cases c : 0 ≤ i ∧ i < M 12 0 1
  · rw [if_pos c, if_neg (by grind), if_neg (by grind), t4 _ (tnc_lt c.1 c.2)]
  · rw [if_neg c]
    grind
theorem s_week (h : INV nb nn M) (w : Int32) : (∀ a b c : Nat, ¬ a = 0 → (f_X10_week w M).2 a b c = M a b c) ∧ (f_X10_week w M).1 = (f_X11_week w (f_X10_week w M).2).1 ∧ INV nb nn (f_X11_week w (f_X10_week w M).2).2 := by
  obtain ⟨t1, t2, t3, t4, t5⟩ := h.st
  have e : ∀ N : xM, f_X11_week w N = if N 40 0 13 ≤ w ∧ w ≤ 299 then (N 40 0 13, xup (xup N 40 0 0 0) 40 0 13 w) else ((-1000001), xup N 40 0 0 0) := by
    intro N
    unfold f_X11_week
    simp only [xlet]
    rw [in_t_299, xup_j (by decide)]
    by_cases c : N 40 0 13 ≤ w ∧ w ≤ 299 <;> simp [xb, c]
  have e0 : f_X10_week w M = if M 0 0 14 ≤ w ∧ w ≤ 299 then (M 0 0 14, xup M 0 0 14 w) else ((-1000001), M) := by
    unfold f_X10_week
    simp only [xlet]
    grind
  rw [e0]
  by_cases c : M 0 0 14 ≤ w ∧ w ≤ 299
  · rw [if_pos c, e]
    dsimp only
    rw [if_pos (show xup M 0 0 14 w 40 0 13 ≤ w ∧ w ≤ 299 by rw [xup_k (show (40 : Nat) ≠ 0 by decide), ← t2]; exact c)]
    dsimp only
    refine ⟨fun a b c q => xup_k q, by rw [xup_k (show (40 : Nat) ≠ 0 by decide)]; exact t2, ?_⟩
    have h2 := INV_thr (v := 0) h
    unfold INV at h2 ⊢
    simp [xup_row, xup_at] at h2 ⊢
    have := h2.2.1
    unfold gSt at this ⊢
    simp only [gSt] at this ⊢
    grind
  · rw [if_neg c, e]
    dsimp only
    rw [if_neg (show ¬ (M 40 0 13 ≤ w ∧ w ≤ 299) by rw [← t2]; exact c)]
    exact ⟨fun _ _ _ _ => rfl, rfl, INV_thr h⟩
theorem s_told (h : INV nb nn M) (q w : Int32) : f_X10_told q w M = (f_X11_told q w M).1 ∧ INV nb nn (f_X11_told q w M).2 := by
  unfold f_X10_told f_X11_told
  simp only [xlet, noteOf_eq h.hn, in_0_6]
  rw [isNote_n (N := xup M 40 0 0 0) (nn := nn) (by rw [xup_j (by decide)]; exact h.c30) h.nn24]
  by_cases c : 0 ≤ q ∧ q < nI nn
  · obtain ⟨k, rfl, hk, hc⟩ := ix_n (by have := h.nn24; omega) c
    have hn := h.n1 hk
    have hI := INV_thr (v := 0) h
    simp only [c, xopt, xb, hc, f_X4_holder, xlet, xup_at]
    simp
    rw [hn.b81, hn.b82, hn.b83, hn.b84, hn.t85, hn.t86, hn.t87]
    clear hn h
    refine ⟨?_, ?_⟩
    · grind (splits := 30)
    · (repeat' split) <;> exact hI
  · simp [c, xb, xopt]
    exact INV_thr h
theorem s_hands (h : INV nb nn M) (q i w : Int32) : f_X10_hands q i w M = (f_X11_hands q i w M).1 ∧ INV nb nn (f_X11_hands q i w M).2 := by
  unfold f_X10_hands f_X11_hands
  simp only [xlet, noteOf_eq h.hn, in_0_1, isUpTo_eq]
  rw [isNote_n (N := xup M 40 0 0 0) (nn := nn) (by rw [xup_j (by decide)]; exact h.c30) h.nn24]
  have hI := INV_thr (v := 0) h
  by_cases c : 0 ≤ q ∧ q < nI nn
  · obtain ⟨k, rfl, hk, hc⟩ := ix_n (by have := h.nn24; omega) c
    have hn := h.n1 hk
    have h24 := h.nn24
    have h6 := h.no.2.1 k
    simp only [c, xopt, xb, hc, f_X4_handTrader, f_X4_handWeek, xlet, xup_at, nI_m 12 k 12 rfl]
    simp
    rw [hn.m91]
    by_cases c2 : 0 ≤ i ∧ i < M 29 k 6
    · obtain ⟨j, rfl, hj⟩ := i32_nat_lt (N := 12) (B := 12) c2.1 (by grind) (by decide)
      have h7 := (h.n1 hk).hi j (by have := tnc_lt c2.1 c2.2; rwa [nI_clamp (by omega)] at this)
      rw [cl_add (by omega), nI_clamp (by omega)]
      rw [h7.1, h7.2.1]
      clear hn h
      refine ⟨?_, ?_⟩
      · grind (splits := 30)
      · (repeat' split) <;> exact hI
    · clear hn h
      refine ⟨?_, ?_⟩
      · grind (splits := 30)
      · (repeat' split) <;> exact hI
  · simp [c, xb, xopt]
    exact INV_thr h
theorem s_house (h : INV nb nn M) (q w : Int32) : f_X10_house q w M = (f_X11_house q w M).1 ∧ INV nb nn (f_X11_house q w M).2 := by
  unfold f_X10_house f_X11_house
  simp only [xlet, bankOf_eq h.hb, in_0_4]
  rw [isBank_n (N := xup M 40 0 0 0) (nb := nb) (by rw [xup_j (by decide)]; exact h.c7) h.nb8]
  have hI := INV_thr (v := 0) h
  by_cases c : 0 ≤ q ∧ q < nI nb
  · obtain ⟨k, rfl, hk, hc⟩ := ix_n (by have := h.nb8; omega) c
    have hn := h.ba.2.2.2.1 k hk
    have h8 := h.nb8
    simp only [c, xopt, xb, hc, xlet, xup_at, nI_m 9 k 9 rfl, nI_clamp (n := 9 * k) (by omega)]
    simp
    rw [hn.1, hn.2.1, hn.2.2.1, hn.2.2.2.1, hn.2.2.2.2.1]
    clear hn h
    refine ⟨?_, ?_⟩
    · grind (splits := 30)
    · (repeat' split) <;> exact hI
  · simp [c, xb, xopt]
    exact INV_thr h
end SIMPLE
