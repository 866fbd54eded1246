/-! the class's tokens, in the reference's words -/
theorem amg_L (p : Int32) (M : xM) : f_X7_isAmong p 97 122 M = isL (M 19 0 p.toNatClampNeg) := by
  unfold f_X7_isAmong isL; grind
theorem amg_D (p : Int32) (M : xM) : f_X7_isAmong p 48 57 M = isD (M 19 0 p.toNatClampNeg) := by
  unfold f_X7_isAmong isD; grind
theorem numAt_eq (fr en : Int32) (M : xM) : f_X7_numberAt fr en M = nums (M 19 0) en (xmu fr en + 1) 0 fr := by
  have key : ∀ (n : Nat) (v p : Int32) (kx : Int32 → Int32 → Int32), xmu p en < n → ∃ p', f_X7_numberAt_L5 fr en M n v p kx = kx (nums (M 19 0) en n v p) p' := by
    intro n
    induction n with
    | zero => intro v p kx h; exact absurd h (Nat.not_lt_zero _)
    | succ n ih =>
      intro v p kx h
      rw [f_X7_numberAt_L5, nums]
      simp only [xlet]
      by_cases c : en ≤ p
      · rw [if_pos c, if_pos c]; exact ⟨p, rfl⟩
      · rw [if_neg c, if_neg c, Int32.mul_comm 10 v]
        exact ih _ _ kx (by have := xmu_up (a := p) (b := en) (by grind); omega)
  unfold f_X7_numberAt
  obtain ⟨p', e⟩ := key (xmu fr en + 1) 0 fr (fun number_4 at__5 => number_4) (Nat.lt_succ_self _)
  exact e
theorem rtL5 (N : xM) : ∀ (n : Nat) (p : Int32) (kx : Int32 → xM), xmu p (N 5 0 2) < n → f_X7_readToken_L5 N n p kx = kx (scn (byt (N 19 0) isW) (N 5 0 2) n p) := by
  intro n
  induction n with
  | zero => intro p kx h; exact absurd h (Nat.not_lt_zero _)
  | succ n ih =>
    intro p kx h
    rw [f_X7_readToken_L5, scn]
    simp only [xlet]
    by_cases c : N 5 0 2 ≤ p
    · rw [if_pos c, if_neg (fun q => by have := q.1; grind)]
    · rw [if_neg c]
      have c1 : p < N 5 0 2 := by grind
      have hr := ih (p + 1) kx (by have := xmu_up c1; omega)
      by_cases d1 : N 19 0 p.toNatClampNeg = 32
      · rw [if_pos d1, if_pos ⟨c1, by simp only [byt, isW, d1]; decide⟩]; exact hr
      · rw [if_neg d1]
        by_cases d2 : N 19 0 p.toNatClampNeg = 10
        · rw [if_pos d2, if_pos ⟨c1, by simp only [byt, isW, d2]; decide⟩]; exact hr
        · rw [if_neg d2, if_neg (fun q => by have := q.2; simp only [byt, isW, decide_eq_true_eq] at this; grind)]
def tokC (k : Int32) : Int32 := if k = 1 then 0 else if k = 2 then 1 else if k = 3 then 2 else if k = 4 then 3 else 4
/-- the number at a token that begins with a figure -/
def tkN (B : Nat → Int32) (len s old : Int32) : Int32 := if s < len ∧ isL (B s.toNatClampNeg) = false ∧ isD (B s.toNatClampNeg) = true then (if tkK B len s = 3 then nums B (tkE B len s) (xmu s (tkE B len s) + 1) 0 s else 0) else old
theorem rt_at (M : xM) (hl : M 5 0 1 ≤ M 5 0 2) (a b c : Nat) : f_X7_readToken M a b c = if a = 5 ∧ b = 0 ∧ c = 1 then tkE (M 19 0) (M 5 0 2) (tkS (M 19 0) (M 5 0 2) (M 5 0 1)) else if a = 5 ∧ b = 0 ∧ c = 3 then tokC (tkK (M 19 0) (M 5 0 2) (tkS (M 19 0) (M 5 0 2) (M 5 0 1))) else if a = 5 ∧ b = 0 ∧ c = 4 then tkS (M 19 0) (M 5 0 2) (M 5 0 1) else if a = 5 ∧ b = 0 ∧ c = 5 then tkN (M 19 0) (M 5 0 2) (tkS (M 19 0) (M 5 0 2) (M 5 0 1)) (M 5 0 5) else M a b c := by
  have hz := tkS_le (M 19 0) (M 5 0 2) (M 5 0 1) hl
  unfold f_X7_readToken
  simp only [xlet]
  rw [rtL5 M _ _ _ (Nat.lt_succ_self _)]
  rw [show scn (byt (M 19 0) isW) (M 5 0 2) (xmu (M 5 0 1) (M 5 0 2) + 1) (M 5 0 1) = tkS (M 19 0) (M 5 0 2) (M 5 0 1) from rfl]
  generalize tkS (M 19 0) (M 5 0 2) (M 5 0 1) = z at hz ⊢
  have e2 : ∀ (N : xM) (j : Nat) (v : Int32), ¬ j = 2 → xup N 5 0 j v 5 0 2 = N 5 0 2 := fun N j v h => xup_j (Ne.symm h)
  have e1 : ∀ (N : xM) (j : Nat) (v : Int32), ¬ j = 1 → xup N 5 0 j v 5 0 1 = N 5 0 1 := fun N j v h => xup_j (Ne.symm h)
  have e19 : ∀ (N : xM) (j : Nat) (v : Int32), xup N 5 0 j v 19 0 = N 19 0 := fun N j v => by funext q; exact xup_k (by decide)
  simp only [e2 _ 4 _ (by decide), e2 _ 3 _ (by decide), e19, amg_L, amg_D, xb_0, numAt_eq, xup_same, e1 _ 3 _ (by decide)]
  by_cases c0 : z < M 5 0 2
  · rw [if_pos c0]
    have eor : ∀ (N : xM) (f l : Int32) (q : Int32 → Bool), N 19 0 = M 19 0 → N 5 0 2 = M 5 0 2 → (∀ p, f_X7_isAmong p f l N = q (M 19 0 p.toNatClampNeg)) → f_X7_endOfRun z f l N = scn (byt (M 19 0) q) (M 5 0 2) (xmu z (M 5 0 2) + 1) z := by
      intro N f l q h1 h2 h3
      rw [eor_eq, h2]
      congr 1
      funext p
      exact h3 p
    cases eL : isL (M 19 0 z.toNatClampNeg) with
    | true =>
      rw [if_neg (by decide)]
      rw [eor _ 97 122 isL (by rw [e19, e19]) (by rw [e2 _ 3 _ (by decide), e2 _ 4 _ (by decide)]) (fun p => by rw [amg_L, e19, e19])]
      simp only [xup_at, tkE, tkK, tkN, if_pos c0, eL, if_true, tokC]
      grind
    | false =>
      rw [if_pos rfl]
      cases eD : isD (M 19 0 z.toNatClampNeg) with
      | true =>
        rw [if_neg (by decide)]
        rw [eor _ 48 57 isD (by rw [e19]) (by rw [e2 _ 4 _ (by decide)]) (fun p => by rw [amg_D, e19])]
        simp only [tkE, tkK, tkN, if_pos c0, eL, eD, if_true, Bool.false_eq_true, if_false]
        generalize scn (byt (M 19 0) isD) (M 5 0 2) (xmu z (M 5 0 2) + 1) z = E
        clear eor e1 e2 e19
        by_cases hE : E - z ≤ 4
        · simp only [if_pos hE, if_true, tokC, xup_at]
          simp [c0]
          generalize nums (M 19 0) E (xmu z E + 1) 0 z = V
          clear hE hz hl eL eD
          by_cases h5 : a = 5 ∧ b = 0
          · obtain ⟨rfl, rfl⟩ := h5
            simp
            by_cases k1 : c = 1
            · simp [k1]
            · by_cases k3 : c = 3
              · simp [k3]
              · by_cases k4 : c = 4
                · simp [k4]
                · by_cases k5 : c = 5
                  · simp [k5]
                  · simp [k1, k3, k4, k5]
          · grind
        · simp only [if_neg hE, tokC, xup_at]
          simp [c0]
          clear hE hz hl eL eD
          by_cases h5 : a = 5 ∧ b = 0
          · obtain ⟨rfl, rfl⟩ := h5
            simp
            by_cases k1 : c = 1
            · simp [k1, xup_at]
            · by_cases k3 : c = 3
              · simp [k3, xup_at]
              · by_cases k4 : c = 4
                · simp [k4, xup_at]
                · by_cases k5 : c = 5
                  · simp [k5, xup_at]
                  · simp [k1, k3, k4, k5, xup_at]
          · simp only [xup_at]; grind
      | false =>
        rw [if_pos rfl]
        simp only [tkE, tkK, tkN, if_pos c0, eL, eD, Bool.false_eq_true, if_false, tokC]
        split <;> (simp only [xup_at]; simp; grind)
  · rw [if_neg c0]
    have ez : M 5 0 2 = z := by grind
    simp only [xup_at, tkE, tkK, tkN, if_neg c0, tokC]
    simp
    grind
theorem rt5 {M : xM} (hl : M 5 0 1 ≤ M 5 0 2) (h0 : 0 ≤ M 5 0 1) (h4 : M 5 0 2 ≤ 400) : 0 ≤ f_X7_readToken M 5 0 1 ∧ f_X7_readToken M 5 0 1 ≤ M 5 0 2 ∧ f_X7_readToken M 5 0 2 = M 5 0 2 ∧ 0 ≤ f_X7_readToken M 5 0 4 ∧ f_X7_readToken M 5 0 4 ≤ 400 := by
  have a1 := tkS_ge (M 19 0) (M 5 0 2) (M 5 0 1)
  have a2 := tkS_le (M 19 0) (M 5 0 2) (M 5 0 1) hl
  have a3 := tkE_ge (M 19 0) (M 5 0 2) (tkS (M 19 0) (M 5 0 2) (M 5 0 1))
  have a4 := tkE_le (M 19 0) (M 5 0 2) (tkS (M 19 0) (M 5 0 2) (M 5 0 1)) a2
  simp only [rt_at M hl]
  simp
  grind
theorem rt_o {M : xM} (hl : M 5 0 1 ≤ M 5 0 2) {a b c : Nat} (h : ¬ a = 5) : f_X7_readToken M a b c = M a b c := by
  rw [rt_at M hl]
  simp [h]
theorem go_o {ex : Int32} {M : xM} {a b c : Nat} (h : ¬ a = 6) : (f_X1_go ex M).2 a b c = M a b c := xup_k h
theorem rn_o {most t : Int32} {M : xM} {a b c : Nat} (h : ¬ a = 6) : (f_X1_readNumber most t M).2 a b c = M a b c := by
  unfold f_X1_readNumber
  simp only [xlet2]
  repeat' split
  all_goals first | rfl | exact go_o h
theorem write_o {x1 x2 x3 x4 x5 : Int32} {M : xM} {a b c : Nat} (h : ¬ (15 ≤ a ∧ a ≤ 18)) : f_X2_write x1 x2 x3 x4 x5 M a b c = M a b c := by
  unfold f_X2_write
  simp only [xlet]
  repeat' split
  all_goals first | rfl | (simp only [xup_at]; grind)
theorem be_o {M : xM} {a b c : Nat} (h : ¬ a = 6) : (f_X1_beginEntry M).2 a b c = M a b c := by
  unfold f_X1_beginEntry
  simp only [xlet, xlet2]
  repeat' split
  all_goals first | exact xup_k h | (rw [go_o h]; exact xup_k h)
theorem st_o {banks : Int32} {M : xM} {a b c : Nat} (h : ¬ a = 6) (h2 : ¬ (15 ≤ a ∧ a ≤ 18)) : (f_X1_step banks M).2 a b c = M a b c := by
  unfold f_X1_step
  simp only [xlet, xlet2]
  split
  · unfold f_X1_beginBook
    simp only [xlet, xlet2]
    split
    · rfl
    · exact go_o h
  · split
    · unfold f_X1_readWeek
      simp only [xlet, xlet2]
      rw [rn_o h]; exact xup_k h
    · split
      · exact be_o h
      · split
        · unfold f_X1_readBank
          simp only [xlet, xlet2]
          rw [rn_o h]; exact xup_k h
        · split
          · unfold f_X1_readValue
            simp only [xlet, xlet2]
            repeat' split
            all_goals first | exact rn_o h | (dsimp only; rw [xup_k h, write_o h2]; exact rn_o h)
          · split
            · exact go_o h
            · exact be_o h
