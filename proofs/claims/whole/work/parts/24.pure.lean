theorem pJ_must {so : Int32} {M : xM} (h : pJ M) : pJ (f_X11_must so M) := (must_all h).1
theorem pG_must {so : Int32} {M : xM} (h : pJ M) : pG M (f_X11_must so M) := (must_all h).2.1
theorem pS_must {so : Int32} {M : xM} (h : pJ M) (h1 : ¬ M 40 0 25 = 1) (h2 : M 40 0 28 = 0) : pS M (f_X11_must so M) := (must_all h).2.2 h1 h2
theorem pJ_num {most : Int32} {M : xM} (h : pJ M) : pJ (f_X11_numberTo most M).2 := (numberTo_J h).1
theorem pG_num {most : Int32} {M : xM} (h : pJ M) : pG M (f_X11_numberTo most M).2 := (numberTo_J h).2
theorem pJ_re {w : Int32} {M : xM} (h : pJ M) : pJ (f_X11_readEntry w M) := (readEntry_J h).1
theorem pG_re {w : Int32} {M : xM} (h : pJ M) : pG M (f_X11_readEntry w M) := (readEntry_J h).2.1
theorem pS_re {w : Int32} {M : xM} (h : pJ M) (h2 : M 40 0 28 = 0) : pS M (f_X11_readEntry w M) := (readEntry_J h).2.2 h2
theorem pJ_I {M : xM} (h : pJ M) : pI M := h.1
theorem pJ_F {M : xM} (h : pJ M) : pF M := h.2.1
theorem step_J0 {M : xM} (h1 : 0 ≤ M 40 0 24) (h2 : M 40 0 24 ≤ M 40 0 23) (h3 : M 40 0 23 ≤ 400) (hB : ∀ j : Nat, 0 ≤ M 70 0 j) (hF : M 40 0 28 = 0) : pJ (f_X11_step M) := by
  have e := step_eq M hB
  have a1 := tkS_ge (M 70 0) (M 40 0 23) (M 40 0 24)
  have a2 := tkS_le (M 70 0) (M 40 0 23) (M 40 0 24) h2
  have a3 := tkE_ge (M 70 0) (M 40 0 23) (tkS (M 70 0) (M 40 0 23) (M 40 0 24))
  have a4 := tkE_le (M 70 0) (M 40 0 23) (tkS (M 70 0) (M 40 0 23) (M 40 0 24)) a2
  have a5 := tkK_end (M 70 0) (M 40 0 23) (tkS (M 70 0) (M 40 0 23) (M 40 0 24))
  have a6 := tkE_gt (M 70 0) (M 40 0 23) (tkS (M 70 0) (M 40 0 23) (M 40 0 24))
  refine ⟨?_, ?_, ?_, ?_⟩
  · rw [e]
    refine ⟨?_, ?_, ?_, ?_, ?_, fun j => ?_⟩ <;> simp only [tset_at] <;> simp <;> first | grind | exact hB j
  · unfold pF; rw [e]; simp only [tset_at]; simp; rw [hF]; decide
  · intro q
    rw [e] at q ⊢
    simp [tset_at] at q ⊢
    exact a6 (Decidable.byContradiction fun z => q (a5.mpr z))
  · rw [e]; simp [tset_at]; exact a3
theorem n_step {M : xM} {c : Nat} (hB : ∀ j : Nat, 0 ≤ M 70 0 j) (h : c < 24 ∨ 29 < c) : f_X11_step M 40 0 c = M 40 0 c := pfr_step M hB _ _ _ (by omega)
theorem pM_pos {M : xM} (h : M 40 0 28 = 0) : 0 < pM M := by unfold pM; rw [if_pos h]; omega
