theorem inh2 {q t : Int32} {M : xM} {x y z : Nat} (h : ¬ x = 56) : (f_X11_inHundred q t M).2 x y z = M x y z := by
  unfold f_X11_inHundred
  simp only [xlet2]
  exact wor2 h
theorem mI_inh {q t : Int32} {M : xM} (h : mI M) : mI (f_X11_inHundred q t M).2 := mI_56 (fun _ _ _ => inh2) h
/-- the reader's token stands before its cursor; and how far it has come -/
def pT (M : xM) : Prop := M 40 0 25 ≠ 1 → M 40 0 26 < M 40 0 24
def pG (M N : xM) : Prop := N 40 0 23 = M 40 0 23 ∧ (N 40 0 28 = 0 → M 40 0 28 = 0 ∧ M 40 0 26 ≤ N 40 0 26)
def pS (M N : xM) : Prop := N 40 0 23 = M 40 0 23 ∧ (N 40 0 28 = 0 → M 40 0 28 = 0 ∧ M 40 0 26 < N 40 0 26)
/-- all that the reader keeps -/
def pJ (M : xM) : Prop := pI M ∧ pF M ∧ pT M ∧ M 40 0 26 ≤ M 40 0 24
theorem pG_rf (M : xM) : pG M M := ⟨rfl, fun h => ⟨h, by grind⟩⟩
theorem pG_tr {M N K : xM} (h1 : pG M N) (h2 : pG N K) : pG M K := ⟨h2.1.trans h1.1, fun h => by have a := h2.2 h; have b := h1.2 a.1; exact ⟨b.1, by grind⟩⟩
theorem pS_G {M N K : xM} (h1 : pS M N) (h2 : pG N K) : pS M K := ⟨h2.1.trans h1.1, fun h => by have a := h2.2 h; have b := h1.2 a.1; exact ⟨b.1, by grind⟩⟩
theorem pG_S {M N K : xM} (h1 : pG M N) (h2 : pS N K) : pS M K := ⟨h2.1.trans h1.1, fun h => by have a := h2.2 h; have b := h1.2 a.1; exact ⟨b.1, by grind⟩⟩
theorem pS_w {M N : xM} (h : pS M N) : pG M N := ⟨h.1, fun q => ⟨(h.2 q).1, by have := (h.2 q).2; grind⟩⟩
theorem pJ_bad {k : Int32} {M : xM} (hk : 0 ≤ k) (h : pJ M) : pJ (f_X11_bad k M) := by
  obtain ⟨h1, h2, h3, h4⟩ := h
  refine ⟨pI_bad h1, pF_bad hk h2, ?_, ?_⟩
  · unfold pT at *; simp only [bad_at]; simpa using h3
  · simp only [bad_at]; simpa using h4
theorem pG_bad {k : Int32} {M : xM} (hk : 0 < k) : pG M (f_X11_bad k M) := by
  refine ⟨by simp [bad_at], fun h => ?_⟩
  rw [bad_at] at h
  exfalso
  revert h
  simp
  split
  · grind
  · assumption
theorem step_all {M : xM} (h : pJ M) : pJ (f_X11_step M) ∧ pG M (f_X11_step M) ∧ (M 40 0 25 ≠ 1 → pS M (f_X11_step M)) := by
  obtain ⟨h1, h2, h3, h4⟩ := h
  have hI := pI_step h1
  have hF := pF_step h1 h2
  have e := step_eq M h1.2.2.2.2.2
  have e28 := step_28 M h1.2.2.2.2.2
  have a1 := tkS_ge (M 70 0) (M 40 0 23) (M 40 0 24)
  have a2 := tkS_le (M 70 0) (M 40 0 23) (M 40 0 24) h1.2.1
  have a3 := tkE_ge (M 70 0) (M 40 0 23) (tkS (M 70 0) (M 40 0 23) (M 40 0 24))
  have a5 := tkK_end (M 70 0) (M 40 0 23) (tkS (M 70 0) (M 40 0 23) (M 40 0 24))
  have a6 := tkE_gt (M 70 0) (M 40 0 23) (tkS (M 70 0) (M 40 0 23) (M 40 0 24))
  have b1 : f_X11_step M 40 0 23 = M 40 0 23 := by rw [e]; simp [tset_at]
  have b2 : f_X11_step M 40 0 24 = tkE (M 70 0) (M 40 0 23) (tkS (M 70 0) (M 40 0 23) (M 40 0 24)) := by rw [e]; simp [tset_at]
  have b3 : f_X11_step M 40 0 25 = tkK (M 70 0) (M 40 0 23) (tkS (M 70 0) (M 40 0 23) (M 40 0 24)) := by rw [e]; simp [tset_at]
  have b4 : f_X11_step M 40 0 26 = tkS (M 70 0) (M 40 0 23) (M 40 0 24) := by rw [e]; simp [tset_at]
  refine ⟨⟨hI, hF, ?_, ?_⟩, ⟨b1, fun q => ⟨by rw [← e28]; exact q, ?_⟩⟩, fun t => ⟨b1, fun q => ⟨by rw [← e28]; exact q, ?_⟩⟩⟩
  · intro q
    rw [b3] at q
    rw [b4, b2]
    exact a6 (Decidable.byContradiction fun z => q (a5.mpr z))
  · rw [b4, b2]; exact a3
  · rw [b4]; grind
  · rw [b4]; have := h3 t; grind
theorem must_all {so : Int32} {M : xM} (h : pJ M) : pJ (f_X11_must so M) ∧ pG M (f_X11_must so M) ∧ (M 40 0 25 ≠ 1 → M 40 0 28 = 0 → pS M (f_X11_must so M)) := by
  have hs := step_all h
  rw [must_eq]
  split
  · rename_i c
    split
    · refine ⟨pJ_bad (by decide) h, pG_bad (by decide), fun _ _ => ?_⟩
      have := (pG_bad (k := 1) (M := M) (by decide))
      refine ⟨this.1, fun q => ?_⟩
      exfalso
      rw [bad_at, if_pos ⟨c, rfl, rfl, rfl⟩] at q
      exact absurd q (by decide)
    · exact ⟨hs.1, hs.2.1, fun q _ => hs.2.2 q⟩
  · rename_i c
    exact ⟨h, pG_rf M, fun _ q => absurd q c⟩
theorem numberTo_J {most : Int32} {M : xM} (h : pJ M) : pJ (f_X11_numberTo most M).2 ∧ pG M (f_X11_numberTo most M).2 := by
  by_cases c : M 40 0 28 = 0
  · rw [numberTo_eq most M c]
    have hs := step_all h
    dsimp only
    split
    · split
      · exact ⟨hs.1, hs.2.1⟩
      · exact ⟨pJ_bad (by decide) h, pG_bad (by decide)⟩
    · exact ⟨pJ_bad (by decide) h, pG_bad (by decide)⟩
  · have h2 : 0 < M 40 0 28 := by have := h.2.1; unfold pF at this; grind
    rw [numberTo_f most M h2]
    exact ⟨h, pG_rf M⟩
theorem word_L7 (M : xM) (h : ¬ M 40 0 25 = 2) (n : Nat) (v : Int64) (k : Int32) (kx : Int64 → Int32 → Int64) : f_X11_word_L7 M (n + 1) v k kx = kx v k := by
  rw [f_X11_word_L7]
  by_cases c : M 40 0 27 ≤ k
  · rw [if_pos c]
  · rw [if_neg c, if_neg h]
theorem entry_name {M : xM} (h : ¬ f_X11_entryOfWord M = (-1000000)) : M 40 0 25 = 2 := by
  apply Decidable.byContradiction
  intro c
  apply h
  have e : f_X11_word M = 0 := by
    unfold f_X11_word
    simp only [xlet]
    rw [word_L7 M c]
  unfold f_X11_entryOfWord
  rw [e]
  rfl
/-- writing an entry touches none of the reader's own numbers -/
theorem pJ_o {M N : xM} (h : ∀ c, 23 ≤ c → c ≤ 28 → N 40 0 c = M 40 0 c) (h2 : N 70 0 = M 70 0) (hM : pJ M) : pJ N ∧ pG M N := by
  have e := fun c a b => h c a b
  refine ⟨?_, ⟨h 23 (by omega) (by omega), fun q => ⟨by rw [← h 28 (by omega) (by omega)]; exact q, by rw [h 26 (by omega) (by omega)]; grind⟩⟩⟩
  unfold pJ pI pF pT at *
  simp only [h 23 (by omega) (by omega), h 24 (by omega) (by omega), h 25 (by omega) (by omega), h 26 (by omega) (by omega), h 27 (by omega) (by omega), h 28 (by omega) (by omega), h2]
  exact hM
def wrE (w x2 x3 x4 : Int32) (N : xM) : xM := if N 40 0 28 = 0 then (xup (xup (xup (xup (xup N 65 0 (N 40 0 19).toNatClampNeg w) 66 0 (N 40 0 19).toNatClampNeg x2) 67 0 (N 40 0 19).toNatClampNeg x3) 68 0 (N 40 0 19).toNatClampNeg x4) 40 0 19 (N 40 0 19 + 1)) else N
def reT (w x2 : Int32) (N : xM) : xM := wrE w x2 (f_X11_numberTo (N 40 0 7 - 1) N).1 (f_X11_numberTo (if x2 = 1 then 255 else 100) (f_X11_numberTo (N 40 0 7 - 1) N).2).1 (f_X11_numberTo (if x2 = 1 then 255 else 100) (f_X11_numberTo (N 40 0 7 - 1) N).2).2
theorem readEntry_eq (w : Int32) (M : xM) : f_X11_readEntry w M = reT w (f_X11_entryOfWord M) (if f_X11_entryOfWord M = (-1000000) then f_X11_must 0 M else if M 40 0 19 = 40 then f_X11_must 1 (f_X11_bad 3 M) else f_X11_must 1 M) := by
  have k1 : ∀ (N : xM) (j : Nat) (v : Int32), xup N 65 0 j v 40 0 19 = N 40 0 19 := fun N j v => xup_k (by decide)
  have k2 : ∀ (N : xM) (j : Nat) (v : Int32), xup N 66 0 j v 40 0 19 = N 40 0 19 := fun N j v => xup_k (by decide)
  have k3 : ∀ (N : xM) (j : Nat) (v : Int32), xup N 67 0 j v 40 0 19 = N 40 0 19 := fun N j v => xup_k (by decide)
  have k4 : ∀ (N : xM) (j : Nat) (v : Int32), xup N 68 0 j v 40 0 19 = N 40 0 19 := fun N j v => xup_k (by decide)
  unfold f_X11_readEntry
  simp only [xlet, xlet2, k1, k2, k3, k4]
  generalize f_X11_entryOfWord M = x2
  unfold reT wrE
  by_cases c1 : x2 = (-1000000)
  · simp only [if_pos c1]
    by_cases c2 : x2 = 1
    · simp only [if_pos c2]
    · simp only [if_neg c2]
  · simp only [if_neg c1]
    by_cases c3 : M 40 0 19 = 40
    · simp only [if_pos c3]
      by_cases c2 : x2 = 1
      · simp only [if_pos c2]
      · simp only [if_neg c2]
    · simp only [if_neg c3]
      by_cases c2 : x2 = 1
      · simp only [if_pos c2]
      · simp only [if_neg c2]
theorem wrE_J {w x2 x3 x4 : Int32} {N : xM} (hN : pJ N) : pJ (wrE w x2 x3 x4 N) ∧ pG N (wrE w x2 x3 x4 N) := by
  unfold wrE
  split
  · apply pJ_o _ _ hN
    · intro c h1 h2; simp [xup_at]; omega
    · funext j; simp [xup_at]
  · exact ⟨hN, pG_rf N⟩
theorem reT_J {w x2 : Int32} {N : xM} (hN : pJ N) : pJ (reT w x2 N) ∧ pG N (reT w x2 N) := by
  unfold reT
  have b := numberTo_J (most := N 40 0 7 - 1) hN
  have d := numberTo_J (most := if x2 = 1 then 255 else 100) b.1
  have q := wrE_J (w := w) (x2 := x2) (x3 := (f_X11_numberTo (N 40 0 7 - 1) N).1) (x4 := (f_X11_numberTo (if x2 = 1 then 255 else 100) (f_X11_numberTo (N 40 0 7 - 1) N).2).1) d.1
  exact ⟨q.1, pG_tr (pG_tr b.2 d.2) q.2⟩
theorem readEntry_J {w : Int32} {M : xM} (h : pJ M) : pJ (f_X11_readEntry w M) ∧ pG M (f_X11_readEntry w M) ∧ (M 40 0 28 = 0 → pS M (f_X11_readEntry w M)) := by
  rw [readEntry_eq]
  split
  · have a := must_all (so := 0) h
    have r := reT_J (w := w) (x2 := f_X11_entryOfWord M) a.1
    refine ⟨r.1, pG_tr a.2.1 r.2, fun c => pS_G ⟨a.2.1.1, fun q => ?_⟩ r.2⟩
    exact absurd q (must0_28 h.2.1)
  · rename_i cw
    have t2 := entry_name cw
    split
    · have hb := pJ_bad (k := 3) (by decide) h
      have gb := pG_bad (k := 3) (M := M) (by decide)
      have a := must_all (so := 1) hb
      have r := reT_J (w := w) (x2 := f_X11_entryOfWord M) a.1
      refine ⟨r.1, pG_tr (pG_tr gb a.2.1) r.2, fun c => pS_G ⟨gb.1, fun q => ?_⟩ (pG_tr a.2.1 r.2)⟩
      exact absurd q (bad3_28 h.2.1)
    · have a := must_all (so := 1) h
      have r := reT_J (w := w) (x2 := f_X11_entryOfWord M) a.1
      exact ⟨r.1, pG_tr a.2.1 r.2, fun c => pS_G (a.2.2 (by rw [t2]; decide) c) r.2⟩
/-- the number of new entries stays within its row -/
def pN (M : xM) : Prop := 0 ≤ M 40 0 19 ∧ M 40 0 19 ≤ 40
theorem pN_must {so : Int32} {M : xM} (hI : pI M) (h : pN M) : pN (f_X11_must so M) := by unfold pN at *; rw [n19_must hI]; exact h
theorem pN_numberTo {most : Int32} {M : xM} (hJ : pJ M) (h : pN M) : pN (f_X11_numberTo most M).2 := by unfold pN at *; rw [n19_numberTo hJ.1 hJ.2.1]; exact h
theorem pN_step {M : xM} (hI : pI M) (h : pN M) : pN (f_X11_step M) := by
  unfold pN at *; rw [pfr_step M hI.2.2.2.2.2 40 0 19 (by omega)]; exact h
theorem pN_readEntry {w : Int32} {M : xM} (hJ : pJ M) (h : pN M) : pN (f_X11_readEntry w M) := by
  rw [readEntry_eq]
  have key : ∀ (N : xM) (x2 : Int32), pJ N → pN N → (N 40 0 28 = 0 → N 40 0 19 < 40) → pN (reT w x2 N) := by
    intro N x2 hN h1 h2
    have b := numberTo_J (most := N 40 0 7 - 1) hN
    have d := numberTo_J (most := if x2 = 1 then 255 else 100) b.1
    have e1 := pN_numberTo (most := N 40 0 7 - 1) hN h1
    have e2 := pN_numberTo (most := if x2 = 1 then 255 else 100) b.1 e1
    have f1 := n19_numberTo (most := N 40 0 7 - 1) hN.1 hN.2.1
    have f2 := n19_numberTo (most := if x2 = 1 then 255 else 100) b.1.1 b.1.2.1
    unfold reT
    generalize (if x2 = 1 then (255 : Int32) else 100) = m2 at d e2 f2 ⊢
    unfold wrE
    split
    · rename_i c
      have c1 := (d.2.2 c).1
      have c2 := (b.2.2 c1).1
      have c3 := h2 c2
      unfold pN at *
      simp only [xup_at]
      simp
      rw [f2, f1]
      grind
    · exact e2
  have km := fun so (N : xM) (hN : pJ N) (hn : pN N) => key (f_X11_must so N) (f_X11_entryOfWord M) (must_all hN).1 (pN_must hN.1 hn)
  split
  · exact km 0 M hJ h (fun q => absurd q (must0_28 hJ.2.1))
  · split
    · refine km 1 _ (pJ_bad (by decide) hJ) (by unfold pN at *; rw [n19_bad]; exact h) (fun q => ?_)
      rw [must_f (bad3_28 hJ.2.1)] at q
      exact absurd q (bad3_28 hJ.2.1)
    · rename_i c
      refine km 1 M hJ h (fun _ => ?_)
      rw [n19_must hJ.1]
      unfold pN at h; grind
theorem step_J {M : xM} (hI : pI M) (hF : pF M) : pJ (f_X11_step M) := by
  have hI' := pI_step hI
  have hF' := pF_step hI hF
  have e := step_eq M hI.2.2.2.2.2
  have a3 := tkE_ge (M 70 0) (M 40 0 23) (tkS (M 70 0) (M 40 0 23) (M 40 0 24))
  have a5 := tkK_end (M 70 0) (M 40 0 23) (tkS (M 70 0) (M 40 0 23) (M 40 0 24))
  have a6 := tkE_gt (M 70 0) (M 40 0 23) (tkS (M 70 0) (M 40 0 23) (M 40 0 24))
  refine ⟨hI', hF', ?_, ?_⟩
  · intro q
    rw [e] at q ⊢
    simp [tset_at] at q ⊢
    exact a6 (Decidable.byContradiction fun z => q (a5.mpr z))
  · rw [e]; simp [tset_at]; exact a3
/-- the measure of the reader -/
def pM (M : xM) : Nat := if M 40 0 28 = 0 then 1 + xmu (M 40 0 26) (M 40 0 23) else 0
theorem pM_S {M N : xM} (h : pS M N) (hJ : pJ N) (h0 : M 40 0 28 = 0) : pM N < pM M := by
  unfold pM
  rw [if_pos h0]
  split
  · rename_i c
    have a := h.2 c
    rw [h.1]
    have b1 : N 40 0 26 ≤ M 40 0 23 := by have := hJ.1.2.1; have := hJ.2.2.2; rw [h.1] at *; grind
    have := Int32.lt_iff_toInt_lt.mp a.2
    have := Int32.le_iff_toInt_le.mp b1
    unfold xmu
    omega
  · omega
