/-! ask: the bodies that begin -/
def clv : List Int32 → Nat → xM → xM
  | [], _, M => M
  | b :: t, n, M => clv t (n + 1) (xup (xup M 23 0 n b) 12 0 1 (nI (n + 1)))
def rlv : List Int32 → Nat → xM → xM
  | [], _, M => M
  | b :: t, n, M => rlv t (n + 1) (xup (xup M 99 0 n b) 40 0 50 (nI (n + 1)))
theorem clv_o : ∀ (l : List Int32) (n : Nat) (M : xM) (a b c : Nat), ¬ a = 23 → ¬ (a = 12 ∧ b = 0 ∧ c = 1) → clv l n M a b c = M a b c := by
  intro l
  induction l with
  | nil => intro n M a b c _ _; rfl
  | cons x t ih =>
    intro n M a b c h1 h2
    rw [clv, ih _ _ _ _ _ h1 h2, xup_at, if_neg h2, xup_k h1]
theorem rlv_o : ∀ (l : List Int32) (n : Nat) (M : xM) (a b c : Nat), ¬ a = 99 → ¬ (a = 40 ∧ b = 0 ∧ c = 50) → rlv l n M a b c = M a b c := by
  intro l
  induction l with
  | nil => intro n M a b c _ _; rfl
  | cons x t ih =>
    intro n M a b c h1 h2
    rw [rlv, ih _ _ _ _ _ h1 h2, xup_at, if_neg h2, xup_k h1]
theorem clv_n : ∀ (l : List Int32) (n : Nat) (M : xM), M 12 0 1 = nI n → clv l n M 12 0 1 = nI (n + l.length) ∧ ∀ c : Nat, clv l n M 23 0 c = if n ≤ c ∧ c < n + l.length then l.getD (c - n) 0 else M 23 0 c := by
  intro l
  induction l with
  | nil => intro n M h; exact ⟨h, fun c => by rw [clv, if_neg (by simp)]⟩
  | cons x t ih =>
    intro n M h
    obtain ⟨i1, i2⟩ := ih (n + 1) (xup (xup M 23 0 n x) 12 0 1 (nI (n + 1))) xup_same
    rw [clv]
    refine ⟨?_, fun c => ?_⟩
    · rw [i1, List.length_cons]; congr 1; omega
    · rw [i2, List.length_cons]
      by_cases e : c = n
      · subst e
        rw [if_neg (by omega), if_pos (by omega), xup_k (by decide), xup_same, Nat.sub_self]
        rfl
      · by_cases e2 : n ≤ c ∧ c < n + (t.length + 1)
        · rw [if_pos (by omega), if_pos e2]
          obtain ⟨d, hd⟩ : ∃ d, c - n = d + 1 := ⟨c - n - 1, by omega⟩
          rw [hd, show c - (n + 1) = d by omega]
          simp
        · rw [if_neg (by omega), if_neg e2, xup_k (by decide), xup_j e]
theorem rlv_n : ∀ (l : List Int32) (n : Nat) (M : xM), M 40 0 50 = nI n → rlv l n M 40 0 50 = nI (n + l.length) ∧ ∀ c : Nat, rlv l n M 99 0 c = if n ≤ c ∧ c < n + l.length then l.getD (c - n) 0 else M 99 0 c := by
  intro l
  induction l with
  | nil => intro n M h; exact ⟨h, fun c => by rw [rlv, if_neg (by simp)]⟩
  | cons x t ih =>
    intro n M h
    obtain ⟨i1, i2⟩ := ih (n + 1) (xup (xup M 99 0 n x) 40 0 50 (nI (n + 1))) xup_same
    rw [rlv]
    refine ⟨?_, fun c => ?_⟩
    · rw [i1, List.length_cons]; congr 1; omega
    · rw [i2, List.length_cons]
      by_cases e : c = n
      · subst e
        rw [if_neg (by omega), if_pos (by omega), xup_k (by decide), xup_same, Nat.sub_self]
        rfl
      · by_cases e2 : n ≤ c ∧ c < n + (t.length + 1)
        · rw [if_pos (by omega), if_pos e2]
          obtain ⟨d, hd⟩ : ∃ d, c - n = d + 1 := ⟨c - n - 1, by omega⟩
          rw [hd, show c - (n + 1) = d by omega]
          simp
        · rw [if_neg (by omega), if_neg e2, xup_k (by decide), xup_j e]
theorem leave_1 (b : Int32) (l : List Int32) (M : xM) (h : M 12 0 1 = 0) (hl : l.length < 16) : f_X8_leave b (clv l 0 M) = clv (l ++ [b]) 0 M := by
  have e := (clv_n l 0 M h).1
  rw [Nat.zero_add] at e
  have app : ∀ (l : List Int32) (n : Nat) (M : xM), clv (l ++ [b]) n M = xup (xup (clv l n M) 23 0 (n + l.length) b) 12 0 1 (nI (n + l.length + 1)) := by
    intro l
    induction l with
    | nil => intro n M; rfl
    | cons x t ih =>
      intro n M
      rw [List.cons_append, clv, ih, clv, List.length_cons, show n + 1 + t.length = n + (t.length + 1) by omega]
  rw [app, Nat.zero_add]
  unfold f_X8_leave
  simp only [xlet_p, e]
  rw [if_neg (nI_pos (by omega)), if_neg (show ¬ (16 : Int32) ≤ nI l.length from nI_ge (b := 16) hl (by decide)), nI_clamp (by omega), nI_1]
theorem began_1 (b : Int32) (l : List Int32) (M : xM) (h : M 40 0 50 = 0) (hl : l.length < 16) : f_X11_began b (rlv l 0 M) = rlv (l ++ [b]) 0 M := by
  have e := (rlv_n l 0 M h).1
  rw [Nat.zero_add] at e
  have app : ∀ (l : List Int32) (n : Nat) (M : xM), rlv (l ++ [b]) n M = xup (xup (rlv l n M) 99 0 (n + l.length) b) 40 0 50 (nI (n + l.length + 1)) := by
    intro l
    induction l with
    | nil => intro n M; rfl
    | cons x t ih =>
      intro n M
      rw [List.cons_append, rlv, ih, rlv, List.length_cons, show n + 1 + t.length = n + (t.length + 1) by omega]
  rw [app, Nat.zero_add]
  have e2 : xup (rlv l 0 M) 99 0 l.length b 40 0 50 = nI l.length := by rw [xup_k (by decide)]; exact e
  unfold f_X11_began
  simp only [xlet_p, e]
  rw [if_neg (show ¬ (16 : Int32) ≤ nI l.length from nI_ge (b := 16) hl (by decide)), nI_clamp (by omega), e2, nI_1]
section ASK
variable {nb nn : Nat} {M : xM}
/-- what a body gives, and what it leaves behind -/
def gv (what kd : Int32) (nt : Nat) (M : xM) : Int32 × List Int32 :=
  if what = 0 then
    (if kd = 0 then (M 29 nt 2, [10]) else if kd = 1 then (M 29 nt 2 - nI (pop (M 29 nt 4).toNatClampNeg), [11, 10]) else if kd = 2 then (0 - (M 29 nt 0 + 100), [12, 21, 20]) else if kd = 3 then (2 * (0 - (M 29 nt 0 + 100 + M 29 nt 1)), [13, 12, 22, 21, 20]) else if kd = 4 then (M 29 nt 2 / 2, [14, 10]) else (M 29 nt 2, [10]))
  else
    (if kd = 0 then (M 29 nt 0, [20]) else if kd = 1 then (M 29 nt 0, [20]) else if kd = 2 then (M 29 nt 0 + 100, [21, 20]) else if kd = 3 then (M 29 nt 0 + 100 + M 29 nt 1, [22, 21, 20]) else if kd = 4 then (M 29 nt 0, [20]) else (M 29 nt 0 + M 29 nt 2, [23, 20, 10]))
theorem gb_s (n : Nat) (body : Int32) (nt : Nat) (kd depth : Int32) (hd : depth < 16) (l : List Int32) (hl : l.length < 16) (h0 : M 12 0 1 = 0) : f_X10_giveBody (n + 1) body nt kd depth (clv l 0 M) = if body = 10 then (M 29 nt 2, clv (l ++ [body]) 0 M) else if body = 11 then ((f_X10_giveBody n 10 nt kd (depth + 1) (clv (l ++ [body]) 0 M)).1 - f_J6_bitCount_0f7a4 ((f_X10_giveBody n 10 nt kd (depth + 1) (clv (l ++ [body]) 0 M)).2 29 nt 4) (f_X10_giveBody n 10 nt kd (depth + 1) (clv (l ++ [body]) 0 M)).2, (f_X10_giveBody n 10 nt kd (depth + 1) (clv (l ++ [body]) 0 M)).2) else if body = 12 then (0 - (f_X10_giveBody n (([20, 20, 21, 22, 20, 23] : List Int32).getD kd.toNatClampNeg 0) nt kd (depth + 1) (clv (l ++ [body]) 0 M)).1, (f_X10_giveBody n (([20, 20, 21, 22, 20, 23] : List Int32).getD kd.toNatClampNeg 0) nt kd (depth + 1) (clv (l ++ [body]) 0 M)).2) else if body = 13 then (2 * (f_X10_giveBody n 12 nt kd (depth + 1) (clv (l ++ [body]) 0 M)).1, (f_X10_giveBody n 12 nt kd (depth + 1) (clv (l ++ [body]) 0 M)).2) else if body = 14 then ((f_X10_giveBody n 10 nt kd (depth + 1) (clv (l ++ [body]) 0 M)).1 / 2, (f_X10_giveBody n 10 nt kd (depth + 1) (clv (l ++ [body]) 0 M)).2) else if body = 20 then (M 29 nt 0, clv (l ++ [body]) 0 M) else if body = 21 then ((f_X10_giveBody n 20 nt kd (depth + 1) (clv (l ++ [body]) 0 M)).1 + 100, (f_X10_giveBody n 20 nt kd (depth + 1) (clv (l ++ [body]) 0 M)).2) else if body = 22 then ((f_X10_giveBody n 21 nt kd (depth + 1) (clv (l ++ [body]) 0 M)).1 + (f_X10_giveBody n 21 nt kd (depth + 1) (clv (l ++ [body]) 0 M)).2 29 nt 1, (f_X10_giveBody n 21 nt kd (depth + 1) (clv (l ++ [body]) 0 M)).2) else if body = 23 then ((f_X10_giveBody n 20 nt kd (depth + 1) (clv (l ++ [body]) 0 M)).1 + (f_X10_giveBody n (([10, 11, 12, 13, 14, 10] : List Int32).getD kd.toNatClampNeg 0) nt kd (depth + 1) (f_X10_giveBody n 20 nt kd (depth + 1) (clv (l ++ [body]) 0 M)).2).1, (f_X10_giveBody n (([10, 11, 12, 13, 14, 10] : List Int32).getD kd.toNatClampNeg 0) nt kd (depth + 1) (f_X10_giveBody n 20 nt kd (depth + 1) (clv (l ++ [body]) 0 M)).2).2) else (0, clv (l ++ [body]) 0 M) := by
  have e : ∀ j : Nat, clv (l ++ [body]) 0 M 29 nt j = M 29 nt j := fun j => clv_o _ _ _ _ _ _ (by decide) (by omega)
  rw [f_X10_giveBody]
  simp only [xlet_p, xlet2_p, if_pos hd, leave_1 body l M h0 hl, e]
  by_cases b10 : body = 10
  · simp only [if_pos b10]
  · simp only [if_neg b10]
    by_cases b11 : body = 11
    · simp only [if_pos b11]
    · simp only [if_neg b11]
      by_cases b12 : body = 12
      · simp only [if_pos b12]
      · simp only [if_neg b12]
        by_cases b13 : body = 13
        · simp only [if_pos b13]
        · simp only [if_neg b13]
          by_cases b14 : body = 14
          · simp only [if_pos b14]
          · simp only [if_neg b14]
            by_cases b15 : body = 15 ∨ body = 16 ∨ body = 17 ∨ body = 18 ∨ body = 19
            · rcases b15 with q | q | q | q | q <;> subst q <;> rfl
            · have q15 : ¬ body = 15 := fun q => b15 (Or.inl q)
              have q16 : ¬ body = 16 := fun q => b15 (Or.inr (Or.inl q))
              have q17 : ¬ body = 17 := fun q => b15 (Or.inr (Or.inr (Or.inl q)))
              have q18 : ¬ body = 18 := fun q => b15 (Or.inr (Or.inr (Or.inr (Or.inl q))))
              have q19 : ¬ body = 19 := fun q => b15 (Or.inr (Or.inr (Or.inr (Or.inr q))))
              simp only [if_neg q15, if_neg q16, if_neg q17, if_neg q18, if_neg q19]
theorem gb_0_0 (nt : Nat) (h0 : M 12 0 1 = 0) (hw : 0 ≤ M 29 nt 4 ∧ M 29 nt 4 ≤ 255) : f_X10_giveBody 17 10 nt 0 0 M = ((gv 0 0 nt M).1, clv (gv 0 0 nt M).2 0 M) := by
  show f_X10_giveBody 17 10 nt 0 0 (clv [] 0 M) = _
  rw [gb_s 16 10 nt 0 0 (by decide) [] (by decide) h0, if_pos rfl]
  try dsimp only
  rfl
theorem gb_0_1 (nt : Nat) (h0 : M 12 0 1 = 0) (hw : 0 ≤ M 29 nt 4 ∧ M 29 nt 4 ≤ 255) : f_X10_giveBody 17 11 nt 1 0 M = ((gv 0 1 nt M).1, clv (gv 0 1 nt M).2 0 M) := by
  show f_X10_giveBody 17 11 nt 1 0 (clv [] 0 M) = _
  rw [gb_s 16 11 nt 1 0 (by decide) [] (by decide) h0, if_neg (by decide), if_pos rfl]
  try dsimp only
  rw [gb_s 15 10 nt 1 (0 + 1) (by decide) ([] ++ [11]) (by decide) h0, if_pos rfl]
  try dsimp only
  obtain ⟨w, ew, hw2⟩ := i32b (n := 255) (by decide) hw.1 hw.2
  rw [clv_o _ _ _ _ _ _ (by decide) (by omega), ew, bc_pop _ (by omega)]
  unfold gv
  rw [ew, nI_clamp (by omega)]
  rfl
theorem gb_0_2 (nt : Nat) (h0 : M 12 0 1 = 0) (hw : 0 ≤ M 29 nt 4 ∧ M 29 nt 4 ≤ 255) : f_X10_giveBody 17 12 nt 2 0 M = ((gv 0 2 nt M).1, clv (gv 0 2 nt M).2 0 M) := by
  show f_X10_giveBody 17 12 nt 2 0 (clv [] 0 M) = _
  rw [gb_s 16 12 nt 2 0 (by decide) [] (by decide) h0, if_neg (by decide), if_neg (by decide), if_pos rfl]
  try rw [show ([20, 20, 21, 22, 20, 23] : List Int32).getD (2 : Int32).toNatClampNeg 0 = 21 from rfl]
  try rw [show ([10, 11, 12, 13, 14, 10] : List Int32).getD (2 : Int32).toNatClampNeg 0 = 12 from rfl]
  try dsimp only
  rw [gb_s 15 21 nt 2 (0 + 1) (by decide) ([] ++ [12]) (by decide) h0, if_neg (by decide), if_neg (by decide), if_neg (by decide), if_neg (by decide), if_neg (by decide), if_neg (by decide), if_pos rfl]
  try dsimp only
  rw [gb_s 14 20 nt 2 (0 + 1 + 1) (by decide) (([] ++ [12]) ++ [21]) (by decide) h0, if_neg (by decide), if_neg (by decide), if_neg (by decide), if_neg (by decide), if_neg (by decide), if_pos rfl]
  try dsimp only
  rfl
theorem gb_0_3 (nt : Nat) (h0 : M 12 0 1 = 0) (hw : 0 ≤ M 29 nt 4 ∧ M 29 nt 4 ≤ 255) : f_X10_giveBody 17 13 nt 3 0 M = ((gv 0 3 nt M).1, clv (gv 0 3 nt M).2 0 M) := by
  show f_X10_giveBody 17 13 nt 3 0 (clv [] 0 M) = _
  rw [gb_s 16 13 nt 3 0 (by decide) [] (by decide) h0, if_neg (by decide), if_neg (by decide), if_neg (by decide), if_pos rfl]
  try dsimp only
  rw [gb_s 15 12 nt 3 (0 + 1) (by decide) ([] ++ [13]) (by decide) h0, if_neg (by decide), if_neg (by decide), if_pos rfl]
  try rw [show ([20, 20, 21, 22, 20, 23] : List Int32).getD (3 : Int32).toNatClampNeg 0 = 22 from rfl]
  try rw [show ([10, 11, 12, 13, 14, 10] : List Int32).getD (3 : Int32).toNatClampNeg 0 = 13 from rfl]
  try dsimp only
  rw [gb_s 14 22 nt 3 (0 + 1 + 1) (by decide) (([] ++ [13]) ++ [12]) (by decide) h0, if_neg (by decide), if_neg (by decide), if_neg (by decide), if_neg (by decide), if_neg (by decide), if_neg (by decide), if_neg (by decide), if_pos rfl]
  try dsimp only
  rw [gb_s 13 21 nt 3 (0 + 1 + 1 + 1) (by decide) ((([] ++ [13]) ++ [12]) ++ [22]) (by decide) h0, if_neg (by decide), if_neg (by decide), if_neg (by decide), if_neg (by decide), if_neg (by decide), if_neg (by decide), if_pos rfl]
  try dsimp only
  rw [gb_s 12 20 nt 3 (0 + 1 + 1 + 1 + 1) (by decide) (((([] ++ [13]) ++ [12]) ++ [22]) ++ [21]) (by decide) h0, if_neg (by decide), if_neg (by decide), if_neg (by decide), if_neg (by decide), if_neg (by decide), if_pos rfl]
  try dsimp only
  rw [clv_o _ _ _ _ _ _ (by decide) (by omega)]
  rfl
theorem gb_0_4 (nt : Nat) (h0 : M 12 0 1 = 0) (hw : 0 ≤ M 29 nt 4 ∧ M 29 nt 4 ≤ 255) : f_X10_giveBody 17 14 nt 4 0 M = ((gv 0 4 nt M).1, clv (gv 0 4 nt M).2 0 M) := by
  show f_X10_giveBody 17 14 nt 4 0 (clv [] 0 M) = _
  rw [gb_s 16 14 nt 4 0 (by decide) [] (by decide) h0, if_neg (by decide), if_neg (by decide), if_neg (by decide), if_neg (by decide), if_pos rfl]
  try dsimp only
  rw [gb_s 15 10 nt 4 (0 + 1) (by decide) ([] ++ [14]) (by decide) h0, if_pos rfl]
  try dsimp only
  rfl
theorem gb_0_5 (nt : Nat) (h0 : M 12 0 1 = 0) (hw : 0 ≤ M 29 nt 4 ∧ M 29 nt 4 ≤ 255) : f_X10_giveBody 17 10 nt 5 0 M = ((gv 0 5 nt M).1, clv (gv 0 5 nt M).2 0 M) := by
  show f_X10_giveBody 17 10 nt 5 0 (clv [] 0 M) = _
  rw [gb_s 16 10 nt 5 0 (by decide) [] (by decide) h0, if_pos rfl]
  try dsimp only
  rfl
theorem gb_1_0 (nt : Nat) (h0 : M 12 0 1 = 0) (hw : 0 ≤ M 29 nt 4 ∧ M 29 nt 4 ≤ 255) : f_X10_giveBody 17 20 nt 0 0 M = ((gv 1 0 nt M).1, clv (gv 1 0 nt M).2 0 M) := by
  show f_X10_giveBody 17 20 nt 0 0 (clv [] 0 M) = _
  rw [gb_s 16 20 nt 0 0 (by decide) [] (by decide) h0, if_neg (by decide), if_neg (by decide), if_neg (by decide), if_neg (by decide), if_neg (by decide), if_pos rfl]
  try dsimp only
  rfl
theorem gb_1_1 (nt : Nat) (h0 : M 12 0 1 = 0) (hw : 0 ≤ M 29 nt 4 ∧ M 29 nt 4 ≤ 255) : f_X10_giveBody 17 20 nt 1 0 M = ((gv 1 1 nt M).1, clv (gv 1 1 nt M).2 0 M) := by
  show f_X10_giveBody 17 20 nt 1 0 (clv [] 0 M) = _
  rw [gb_s 16 20 nt 1 0 (by decide) [] (by decide) h0, if_neg (by decide), if_neg (by decide), if_neg (by decide), if_neg (by decide), if_neg (by decide), if_pos rfl]
  try dsimp only
  rfl
theorem gb_1_2 (nt : Nat) (h0 : M 12 0 1 = 0) (hw : 0 ≤ M 29 nt 4 ∧ M 29 nt 4 ≤ 255) : f_X10_giveBody 17 21 nt 2 0 M = ((gv 1 2 nt M).1, clv (gv 1 2 nt M).2 0 M) := by
  show f_X10_giveBody 17 21 nt 2 0 (clv [] 0 M) = _
  rw [gb_s 16 21 nt 2 0 (by decide) [] (by decide) h0, if_neg (by decide), if_neg (by decide), if_neg (by decide), if_neg (by decide), if_neg (by decide), if_neg (by decide), if_pos rfl]
  try dsimp only
  rw [gb_s 15 20 nt 2 (0 + 1) (by decide) ([] ++ [21]) (by decide) h0, if_neg (by decide), if_neg (by decide), if_neg (by decide), if_neg (by decide), if_neg (by decide), if_pos rfl]
  try dsimp only
  rfl
theorem gb_1_3 (nt : Nat) (h0 : M 12 0 1 = 0) (hw : 0 ≤ M 29 nt 4 ∧ M 29 nt 4 ≤ 255) : f_X10_giveBody 17 22 nt 3 0 M = ((gv 1 3 nt M).1, clv (gv 1 3 nt M).2 0 M) := by
  show f_X10_giveBody 17 22 nt 3 0 (clv [] 0 M) = _
  rw [gb_s 16 22 nt 3 0 (by decide) [] (by decide) h0, if_neg (by decide), if_neg (by decide), if_neg (by decide), if_neg (by decide), if_neg (by decide), if_neg (by decide), if_neg (by decide), if_pos rfl]
  try dsimp only
  rw [gb_s 15 21 nt 3 (0 + 1) (by decide) ([] ++ [22]) (by decide) h0, if_neg (by decide), if_neg (by decide), if_neg (by decide), if_neg (by decide), if_neg (by decide), if_neg (by decide), if_pos rfl]
  try dsimp only
  rw [gb_s 14 20 nt 3 (0 + 1 + 1) (by decide) (([] ++ [22]) ++ [21]) (by decide) h0, if_neg (by decide), if_neg (by decide), if_neg (by decide), if_neg (by decide), if_neg (by decide), if_pos rfl]
  try dsimp only
  rw [clv_o _ _ _ _ _ _ (by decide) (by omega)]
  rfl
theorem gb_1_4 (nt : Nat) (h0 : M 12 0 1 = 0) (hw : 0 ≤ M 29 nt 4 ∧ M 29 nt 4 ≤ 255) : f_X10_giveBody 17 20 nt 4 0 M = ((gv 1 4 nt M).1, clv (gv 1 4 nt M).2 0 M) := by
  show f_X10_giveBody 17 20 nt 4 0 (clv [] 0 M) = _
  rw [gb_s 16 20 nt 4 0 (by decide) [] (by decide) h0, if_neg (by decide), if_neg (by decide), if_neg (by decide), if_neg (by decide), if_neg (by decide), if_pos rfl]
  try dsimp only
  rfl
theorem gb_1_5 (nt : Nat) (h0 : M 12 0 1 = 0) (hw : 0 ≤ M 29 nt 4 ∧ M 29 nt 4 ≤ 255) : f_X10_giveBody 17 23 nt 5 0 M = ((gv 1 5 nt M).1, clv (gv 1 5 nt M).2 0 M) := by
  show f_X10_giveBody 17 23 nt 5 0 (clv [] 0 M) = _
  rw [gb_s 16 23 nt 5 0 (by decide) [] (by decide) h0, if_neg (by decide), if_neg (by decide), if_neg (by decide), if_neg (by decide), if_neg (by decide), if_neg (by decide), if_neg (by decide), if_neg (by decide), if_pos rfl]
  try rw [show ([20, 20, 21, 22, 20, 23] : List Int32).getD (5 : Int32).toNatClampNeg 0 = 23 from rfl]
  try rw [show ([10, 11, 12, 13, 14, 10] : List Int32).getD (5 : Int32).toNatClampNeg 0 = 10 from rfl]
  try dsimp only
  rw [gb_s 15 20 nt 5 (0 + 1) (by decide) ([] ++ [23]) (by decide) h0, if_neg (by decide), if_neg (by decide), if_neg (by decide), if_neg (by decide), if_neg (by decide), if_pos rfl]
  try dsimp only
  rw [gb_s 15 10 nt 5 (0 + 1) (by decide) (([] ++ [23]) ++ [20]) (by decide) h0, if_pos rfl]
  try dsimp only
  rfl
end ASK
