/-! books: the steps of both readers -/
section BOOKS2
variable {B T : Nat → Int32} {len : Int32} {N R : xM}
theorem st0 (bk : Int32) (h : N 6 0 2 = 0) : f_X1_step bk N = if f_X7_isName 0 N = true then (0, xup N 6 0 2 1) else (1, N) := by
  unfold f_X1_step f_X1_beginBook f_X1_go
  simp only [xlet_p, xlet2_p, h, if_true, xb_0]
  cases f_X7_isName 0 N <;> rfl
theorem st1 (bk : Int32) (h : N 6 0 2 = 1) : f_X1_step bk N = if N 5 0 3 = 2 then (if 299 < N 5 0 5 then (2, xup N 6 0 3 (N 5 0 5)) else (0, xup (xup N 6 0 3 (N 5 0 5)) 6 0 2 2)) else (1, xup N 6 0 3 (N 5 0 5)) := by
  unfold f_X1_step f_X1_readWeek f_X1_readNumber f_X1_go
  have e53 : ∀ j v, xup N 6 0 j v 5 0 3 = N 5 0 3 := fun j v => xup_k (by decide)
  have e55 : ∀ j v, xup N 6 0 j v 5 0 5 = N 5 0 5 := fun j v => xup_k (by decide)
  simp only [xlet_p, xlet2_p, h, e53, e55]
  rw [if_neg (by decide), if_pos trivial]
def bgE (N : xM) : Int32 × xM := if f_X1_wordOfEntry N = (-1) then (1, xup N 6 0 4 (f_X1_wordOfEntry N)) else if 40 ≤ N 4 0 4 + N 6 0 6 then (3, xup N 6 0 4 (f_X1_wordOfEntry N)) else (0, xup (xup N 6 0 4 (f_X1_wordOfEntry N)) 6 0 2 3)
theorem bgE_eq : f_X1_beginEntry N = bgE N := by
  unfold f_X1_beginEntry f_X1_go f_X2_hasRoomBehind bgE
  simp only [xlet_p, xlet2_p, xup_same, xb_0]
  rw [xup_k (show (4 : Nat) ≠ 6 by decide), xup_j (show (6 : Nat) ≠ 4 by decide)]
  split
  · rfl
  · split
    · rw [if_pos rfl]
    · rw [if_neg (by decide)]
theorem st2 (bk : Int32) (h : N 6 0 2 = 2) : f_X1_step bk N = bgE N := by
  rw [← bgE_eq]
  unfold f_X1_step
  simp only [xlet_p, xlet2_p, h]
  rw [if_neg (by decide), if_neg (by decide), if_pos trivial]
theorem st5 (bk : Int32) (h : N 6 0 2 = 5) : f_X1_step bk N = if N 5 0 3 = 3 then (0, xup N 6 0 2 0) else bgE N := by
  rw [← bgE_eq]
  unfold f_X1_step f_X1_go
  simp only [xlet_p, xlet2_p, h]
  rw [if_neg (by decide), if_neg (by decide), if_neg (by decide), if_neg (by decide), if_neg (by decide)]
theorem st3 (bk : Int32) (h : N 6 0 2 = 3) : f_X1_step bk N = if N 5 0 3 = 2 then (if bk - 1 < N 5 0 5 then (2, xup N 6 0 5 (N 5 0 5)) else (0, xup (xup N 6 0 5 (N 5 0 5)) 6 0 2 4)) else (1, xup N 6 0 5 (N 5 0 5)) := by
  unfold f_X1_step f_X1_readBank f_X1_readNumber f_X1_go
  have e53 : ∀ j v, xup N 6 0 j v 5 0 3 = N 5 0 3 := fun j v => xup_k (by decide)
  have e55 : ∀ j v, xup N 6 0 j v 5 0 5 = N 5 0 5 := fun j v => xup_k (by decide)
  simp only [xlet_p, xlet2_p, h, e53, e55]
  rw [if_neg (by decide), if_neg (by decide), if_neg (by decide), if_pos trivial]
def wr4 (N : xM) : xM := f_X2_write (N 6 0 6) (N 6 0 4) (N 6 0 3) (N 6 0 5) (N 5 0 5) (xup N 6 0 2 5)
theorem st4 (bk : Int32) (h : N 6 0 2 = 4) : f_X1_step bk N = if N 5 0 3 = 2 then (if (if N 6 0 4 = 1 then (255 : Int32) else 100) < N 5 0 5 then (2, N) else (0, xup (wr4 N) 6 0 6 (wr4 N 6 0 6 + 1))) else (1, N) := by
  have e : ∀ c : Nat, c ≠ 2 → xup N 6 0 2 5 6 0 c = N 6 0 c := fun c q => xup_j q
  have e5 : xup N 6 0 2 5 5 0 5 = N 5 0 5 := xup_k (by decide)
  unfold f_X1_step f_X1_readValue f_X1_readNumber f_X1_go wr4
  simp only [xlet_p, xlet2_p, h, e 6 (by decide), e 4 (by decide), e 3 (by decide), e 5 (by decide), e5]
  rw [if_neg (by decide), if_neg (by decide), if_neg (by decide), if_neg (by decide), if_pos trivial]
  by_cases c1 : N 6 0 4 = 1
  · rw [if_pos c1, if_pos c1]
    by_cases c2 : N 5 0 3 = 2
    · simp only [if_pos c2]
      by_cases c3 : 255 < N 5 0 5
      · simp only [if_pos c3]; rfl
      · simp only [if_neg c3]; simp [e 6 (by decide), e 4 (by decide), e 3 (by decide), e 5 (by decide), e5]
    · simp only [if_neg c2]; rfl
  · rw [if_neg c1, if_neg c1]
    by_cases c2 : N 5 0 3 = 2
    · simp only [if_pos c2]
      by_cases c3 : 100 < N 5 0 5
      · simp only [if_pos c3]; rfl
      · simp only [if_neg c3]; simp [e 6 (by decide), e 4 (by decide), e 3 (by decide), e 5 (by decide), e5]
    · simp only [if_neg c2]; rfl
theorem ew_eq (R : xM) : f_X11_entryOfWord R = if f_X11_word R = lN 7300710 then 0 else if f_X11_word R = lN 439721161573 then 1 else if f_X11_word R = lN 32497644298331492 then 2 else (-1000000) := by
  unfold f_X11_entryOfWord
  simp only [xlet_p, lgc_eq]
  rfl
theorem ew_r (R : xM) : f_X11_entryOfWord R = (-1000000) ∨ f_X11_entryOfWord R = 0 ∨ f_X11_entryOfWord R = 1 ∨ f_X11_entryOfWord R = 2 := by
  rw [ew_eq]
  split
  · right; left; rfl
  · split
    · right; right; left; rfl
    · split
      · right; right; right; rfl
      · left; rfl
theorem we_eq (h : trw B T len) (hl : len ≤ 400) {s : Int32} (q : TR B T len N R s) : f_X1_wordOfEntry N = if f_X11_entryOfWord R = (-1000000) then (-1) else f_X11_entryOfWord R := by
  unfold f_X1_wordOfEntry
  simp only [xlet_p, xb_0]
  rw [name_eq h hl q (wk := 1) (by decide), name_eq h hl q (wk := 2) (by decide), name_eq h hl q (wk := 3) (by decide), ew_eq]
  rw [show cwN.getD 1 0 = 7300710 from rfl, show cwN.getD 2 0 = 439721161573 from rfl, show cwN.getD 3 0 = 32497644298331492 from rfl]
  by_cases c1 : f_X11_word R = lN 7300710
  · simp [c1]
  · by_cases c2 : f_X11_word R = lN 439721161573
    · rw [decide_eq_false c1, decide_eq_true c2, if_neg c1, if_pos c2]
      simp
    · by_cases c3 : f_X11_word R = lN 32497644298331492
      · rw [decide_eq_false c1, decide_eq_false c2, decide_eq_true c3, if_neg c1, if_neg c2, if_pos c3]
        simp
      · rw [decide_eq_false c1, decide_eq_false c2, decide_eq_false c3, if_neg c1, if_neg c2, if_neg c3]
        simp
theorem bad_28 {r : Int32} {X : xM} (h : X 40 0 28 = 0) : f_X11_bad r X 40 0 28 = r := by rw [bad_at, if_pos ⟨h, rfl, rfl, rfl⟩]
theorem num_bad {m r : Int32} {X : xM} (h : X 40 0 28 = 0) (hr : 0 < r) : f_X11_numberTo m (f_X11_bad r X) = (0, f_X11_bad r X) := numberTo_f m _ (by rw [bad_28 h]; exact hr)
theorem reT_bad {w e r : Int32} {X : xM} (h : X 40 0 28 = 0) (hr : 0 < r) : reT w e (f_X11_bad r X) = f_X11_bad r X := by
  unfold reT wrE
  rw [num_bad h hr]
  dsimp only
  rw [num_bad h hr]
  dsimp only
  rw [if_neg (by rw [bad_28 h]; intro z; rw [z] at hr; exact absurd hr (by decide))]
theorem re_1 {w : Int32} (h : R 40 0 28 = 0) (he : f_X11_entryOfWord R = (-1000000)) : f_X11_readEntry w R = f_X11_bad 1 R := by
  rw [readEntry_eq, if_pos he, must_eq, if_pos h, if_pos rfl, reT_bad h (by decide)]
theorem re_3 {w : Int32} (h : R 40 0 28 = 0) (he : ¬ f_X11_entryOfWord R = (-1000000)) (h40 : R 40 0 19 = 40) : f_X11_readEntry w R = f_X11_bad 3 R := by
  rw [readEntry_eq, if_neg he, if_pos h40, must_eq, if_neg (by rw [bad_28 h]; decide), reT_bad h (by decide)]
theorem re_s {w : Int32} (h : R 40 0 28 = 0) (he : ¬ f_X11_entryOfWord R = (-1000000)) (h40 : ¬ R 40 0 19 = 40) : f_X11_readEntry w R = reT w (f_X11_entryOfWord R) (f_X11_step R) := by
  rw [readEntry_eq, if_neg he, if_neg h40, must_eq, if_pos h, if_neg (by decide)]
/-- behind the word: bank and value -/
theorem reT_s {w e : Int32} {X : xM} (hI : pJ X) (h : X 40 0 28 = 0) : reT w e X = if X 40 0 25 = 3 then (if numV X ≤ X 40 0 7 - 1 then (if f_X11_step X 40 0 25 = 3 then (if numV (f_X11_step X) ≤ (if e = 1 then 255 else 100) then wrE w e (numV X) (numV (f_X11_step X)) (f_X11_step (f_X11_step X)) else f_X11_bad 2 (f_X11_step X)) else f_X11_bad 1 (f_X11_step X)) else f_X11_bad 2 X) else f_X11_bad 1 X := by
  have s28 : f_X11_step X 40 0 28 = 0 := by rw [step_28 X hI.1.2.2.2.2.2]; exact h
  have bad_w : ∀ (r x3 x4 : Int32) (Y : xM), Y 40 0 28 = 0 → 0 < r → wrE w e x3 x4 (f_X11_bad r Y) = f_X11_bad r Y := fun r x3 x4 Y hY hr => by
    unfold wrE
    rw [if_neg (by rw [bad_28 hY]; intro z; rw [z] at hr; exact absurd hr (by decide))]
  unfold reT
  rw [numberTo_eq _ X h]
  dsimp only
  by_cases c1 : X 40 0 25 = 3
  · rw [if_pos c1, if_pos c1]
    by_cases c2 : numV X ≤ X 40 0 7 - 1
    · rw [if_pos c2, if_pos c2, numberTo_eq _ _ s28]
      dsimp only
      by_cases c3 : f_X11_step X 40 0 25 = 3
      · rw [if_pos c3, if_pos c3]
        by_cases c4 : numV (f_X11_step X) ≤ (if e = 1 then 255 else 100)
        · rw [if_pos c4, if_pos c4]
        · rw [if_neg c4, if_neg c4, bad_w _ _ _ _ s28 (by decide)]
      · rw [if_neg c3, if_neg c3, bad_w _ _ _ _ s28 (by decide)]
    · rw [if_neg c2, if_neg c2, num_bad h (by decide)]
      dsimp only
      rw [bad_w _ _ _ _ h (by decide)]
  · rw [if_neg c1, if_neg c1, num_bad h (by decide)]
    dsimp only
    rw [bad_w _ _ _ _ h (by decide)]
end BOOKS2
