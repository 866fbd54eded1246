/-! books: the two readers go side by side -/
section BOOKS3
variable {B T : Nat → Int32} {len : Int32} {M Z : xM} {sz nb : Nat}
def KX (n : Nat) (kx : xM → Int32 × xM) : Int32 → xM → Int32 × xM := fun _ X => if X 40 0 28 = 0 then if X 40 0 25 = 4 then f_X11_books_L40 n (f_X11_must 1 X) kx else f_X11_books_L40 n (f_X11_must 0 X) kx else f_X11_books_L40 n X kx
theorem L40_bad {n : Nat} {X : xM} (h : ¬ X 40 0 28 = 0) (kx : xM → Int32 × xM) : f_X11_books_L40 (n + 1) X kx = kx X := by
  rw [f_X11_books_L40, if_neg h]
theorem L96_0 {w : Int32} {n : Nat} {X : xM} (kx : Int32 → xM → Int32 × xM) : f_X11_books_L96 w (n + 1) 0 X kx = kx 0 X := by
  rw [f_X11_books_L96, if_pos rfl]
theorem L96_1 {w : Int32} {n : Nat} {X : xM} (kx : Int32 → xM → Int32 × xM) : f_X11_books_L96 w (n + 1) 1 X kx = if f_X11_readEntry w X 40 0 28 = 0 then (if f_X11_entryOfWord (f_X11_readEntry w X) = (-1000000) then f_X11_books_L96 w n 0 (f_X11_readEntry w X) kx else f_X11_books_L96 w n 1 (f_X11_readEntry w X) kx) else f_X11_books_L96 w n 0 (f_X11_readEntry w X) kx := by
  rw [f_X11_books_L96, if_neg (by decide)]
  simp only [xlet_p]
theorem L40_s {n : Nat} {X : xM} (h : X 40 0 28 = 0) (h25 : ¬ X 40 0 25 = 1) (kx : xM → Int32 × xM) : f_X11_books_L40 (n + 1) X kx = if f_X11_word X = lN 2003133803 then (if (f_X11_numberTo 299 (f_X11_must 1 X)).2 40 0 28 = 0 then f_X11_books_L96 (f_X11_numberTo 299 (f_X11_must 1 X)).1 (pM (f_X11_numberTo 299 (f_X11_must 1 X)).2 + 1) 1 (f_X11_numberTo 299 (f_X11_must 1 X)).2 (KX n kx) else f_X11_books_L96 (f_X11_numberTo 299 (f_X11_must 1 X)).1 1 0 (f_X11_numberTo 299 (f_X11_must 1 X)).2 (KX n kx)) else (if (f_X11_numberTo 299 (f_X11_must 0 X)).2 40 0 28 = 0 then f_X11_books_L96 (f_X11_numberTo 299 (f_X11_must 0 X)).1 (pM (f_X11_numberTo 299 (f_X11_must 0 X)).2 + 1) 1 (f_X11_numberTo 299 (f_X11_must 0 X)).2 (KX n kx) else f_X11_books_L96 (f_X11_numberTo 299 (f_X11_must 0 X)).1 1 0 (f_X11_numberTo 299 (f_X11_must 0 X)).2 (KX n kx)) := by
  rw [f_X11_books_L40, if_pos h, if_neg h25]
  simp only [xlet_p, xlet2_p, lgc_eq, show (2003133803 : Int64) = lN 2003133803 from rfl, show ¬ (1 : Int32) = 0 by decide, if_false, if_true, Nat.zero_add]
  rfl
/-- what the start gives -/
def BS (B T : Nat → Int32) (len : Int32) (M Z : xM) (sz nb : Nat) : Prop := trw B T len ∧ (∀ j : Nat, 0 ≤ T j) ∧ len ≤ 400 ∧ M 4 0 4 = nI sz ∧ sz ≤ 40 ∧ Z 40 0 7 = nI nb ∧ nb ≤ 8
def P0 (B T : Nat → Int32) (len : Int32) (M Z : xM) (sz nb n : Nat) : Prop := ∀ (t : Nat) (N R : xM) (s : Int32) (wr n40 : Nat), DD M Z sz wr N R → TR B T len N R s → N 6 0 2 = 0 → nI t ≤ s → t ≤ 400 → 401 ≤ n + t → 1 ≤ n40 → (¬ R 40 0 25 = 1 → pM R < n40) → ∃ Rf, (∀ kxr, f_X11_books_L40 n40 R kxr = kxr Rf) ∧ OO M Z sz len (cT nb n t N) Rf
def P2 (B T : Nat → Int32) (len : Int32) (M Z : xM) (sz nb n : Nat) : Prop := ∀ (t : Nat) (N R : xM) (s : Int32) (wr n40 n96 : Nat), DD M Z sz wr N R → TR B T len N R s → N 6 0 2 = 2 → 0 ≤ N 6 0 3 → nI t ≤ s → t ≤ 400 → 401 ≤ n + t → pM R < n96 → pM R ≤ n40 → ∃ Rf, (∀ kxr, f_X11_books_L96 (N 6 0 3) n96 1 R (KX n40 kxr) = kxr Rf) ∧ OO M Z sz len (cT nb n t N) Rf
def P5 (B T : Nat → Int32) (len : Int32) (M Z : xM) (sz nb n : Nat) : Prop := ∀ (t : Nat) (N R : xM) (s : Int32) (wr n40 n96 : Nat), DD M Z sz wr N R → TR B T len N R s → N 6 0 2 = 5 → 0 ≤ N 6 0 3 → nI t ≤ s → t ≤ 400 → 401 ≤ n + t → pM R < n96 → pM R ≤ n40 → ∃ Rf, (∀ kxr, (if f_X11_entryOfWord R = (-1000000) then f_X11_books_L96 (N 6 0 3) n96 0 R (KX n40 kxr) else f_X11_books_L96 (N 6 0 3) n96 1 R (KX n40 kxr)) = kxr Rf) ∧ OO M Z sz len (cT nb n t N) Rf
/-- the class goes a token further, with its turns -/
theorem cT_go {B T : Nat → Int32} (S : BS B T len M Z sz nb) {n t wr : Nat} {N R N' : xM} {s : Int32} (d : DD M Z sz wr N R) (q : TR B T len N R s) (hs : s < len) (hts : nI t ≤ s) (ht : t ≤ 400) (hn : 401 ≤ n + t) (hN : ∀ a b c : Nat, ¬ a = 6 → N' a b c = N a b c) (h6 : N' 6 0 6 = N 6 0 6) (hst : f_X1_step (nI nb) N = (0, N')) (hne : ¬ (N 5 0 3 = 0 ∧ N 6 0 2 = 0)) : ∃ n', n = n' + 1 ∧ t + 1 ≤ 400 ∧ cT nb n t N = cT nb n' (t + 1) (f_X7_readToken N') ∧ TR B T len (f_X7_readToken N') (f_X11_step R) (tkS B len (tkE B len s)) ∧ DD M Z sz wr (f_X7_readToken N') (f_X11_step R) ∧ (∀ c : Nat, f_X7_readToken N' 6 0 c = N' 6 0 c) ∧ nI (t + 1) ≤ tkS B len (tkE B len s) ∧ 401 ≤ n' + (t + 1) := by
  obtain ⟨S1, S2, S3, -⟩ := S
  obtain ⟨g1, g2, g3⟩ := DD_go S1 S2 d q hN h6
  have s0 := q.2.2.2.2.2.2.1
  obtain ⟨a, rfl, ha⟩ := i32b (n := 400) (by decide) s0 (Int32.le_trans q.2.2.2.2.2.2.2.1 S3)
  have ta : t ≤ a := (nI_leI (by omega) (by omega)).mp hts
  have a4 : a < 400 := by
    have := Int32.lt_of_lt_of_le hs S3
    exact (nI_ltI (b := 400) (by omega) (by decide)).mp this
  have eg := tkE_gt B len (nI a) hs
  have et : nI (t + 1) ≤ tkE B len (nI a) := by
    have : nI (a + 1) ≤ tkE B len (nI a) := by rw [← nI_1]; grind
    exact Int32.le_trans (nI_le (by omega) (by omega)) this
  obtain ⟨n', rfl⟩ : ∃ k, n = k + 1 := ⟨n - 1, by omega⟩
  refine ⟨n', rfl, by omega, ?_, g1, g2, g3, Int32.le_trans et (tkS_ge B len _), by omega⟩
  unfold cT
  rw [if_neg hne, hst, if_pos rfl]
  dsimp only
  rw [cT_eq (by omega)]
  rfl
theorem cT_bad {n t : Nat} {N N' : xM} {r : Int32} (hst : f_X1_step (nI nb) N = (r, N')) (hr : ¬ r = 0) (hne : ¬ (N 5 0 3 = 0 ∧ N 6 0 2 = 0)) : cT nb n t N = (r, N') := by
  unfold cT
  rw [if_neg hne, hst, if_neg hr]
theorem tk_in {s : Int32} (h : ¬ tkK B len s = 1) : s < len := by
  apply Decidable.byContradiction
  intro c
  exact h ((tkK_end B len s).mpr c)
/-- what a fault leaves to the reference's loops -/
theorem KX_bad {n40 : Nat} (h1 : 1 ≤ n40) {X : xM} (h : ¬ X 40 0 28 = 0) (m : Int32) (kxr : xM → Int32 × xM) : KX n40 kxr m X = kxr X := by
  obtain ⟨n, rfl⟩ : ∃ k, n40 = k + 1 := ⟨n40 - 1, by omega⟩
  unfold KX
  rw [if_neg h, L40_bad h]
end BOOKS3
