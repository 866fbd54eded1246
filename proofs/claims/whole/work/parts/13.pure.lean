/-! the reference's reader, step by step -/
theorem must_eq (so : Int32) (M : xM) : f_X11_must so M = if M 40 0 28 = 0 then (if so = 0 then f_X11_bad 1 M else f_X11_step M) else M := by
  unfold f_X11_must
  simp only [xlet]
  by_cases h : M 40 0 28 = 0
  · rw [if_pos h, if_pos h]
    by_cases h2 : so = 0
    · rw [if_pos h2, if_pos h2, if_neg (by rw [bad_at, if_pos ⟨h, rfl, rfl, rfl⟩]; decide)]
    · rw [if_neg h2, if_neg h2]
  · rw [if_neg h, if_neg h]
    by_cases h2 : so = 0
    · rw [if_pos h2]
      have e : f_X11_bad 1 M = M := by
        funext a b c
        rw [bad_at, if_neg (fun q => h q.1), if_neg (fun q => h q.1)]
      rw [e, if_neg h]
    · rw [if_neg h2]
def nums (B : Nat → Int32) (z : Int32) : Nat → Int32 → Int32 → Int32
  | 0, v, _ => v
  | n + 1, v, k => if z ≤ k then v else nums B z n (10 * v + B k.toNatClampNeg - 48) (k + 1)
theorem numL16 (most : Int32) (N : xM) (h3 : N 40 0 25 = 3) : ∀ (n : Nat) (v k : Int32) (kx : Int32 → Int32 → Int32 × xM), xmu k (N 40 0 27) < n → ∃ k', f_X11_numberTo_L16 most N n v k kx = kx (nums (N 70 0) (N 40 0 27) n v k) k' := by
  intro n
  induction n with
  | zero => intro v k kx h; exact absurd h (Nat.not_lt_zero _)
  | succ n ih =>
    intro v k kx h
    rw [f_X11_numberTo_L16, nums]
    by_cases c : N 40 0 27 ≤ k
    · rw [if_pos c, if_pos c]; exact ⟨k, rfl⟩
    · rw [if_neg c, if_neg c, if_pos h3]
      have hm := xmu_up (a := k) (b := N 40 0 27) (by grind)
      exact ih _ _ kx (by omega)
theorem numL16' (most : Int32) (N : xM) (h3 : ¬ N 40 0 25 = 3) (n : Nat) (v k : Int32) (kx : Int32 → Int32 → Int32 × xM) : f_X11_numberTo_L16 most N (n + 1) v k kx = kx v k := by
  rw [f_X11_numberTo_L16]
  by_cases c : N 40 0 27 ≤ k
  · rw [if_pos c]
  · rw [if_neg c, if_neg h3]
/-- the number that stands at the reader -/
def numV (M : xM) : Int32 := if M 40 0 25 = 3 then nums (M 70 0) (M 40 0 27) (xmu (M 40 0 26) (M 40 0 27) + 1) 0 (M 40 0 26) else 0
theorem bad_id {k : Int32} {M : xM} (h : ¬ M 40 0 28 = 0) : f_X11_bad k M = M := by
  funext a b c
  rw [bad_at, if_neg (fun q => h q.1), if_neg (fun q => h q.1)]
theorem numberTo_eq (most : Int32) (M : xM) (h : M 40 0 28 = 0) : f_X11_numberTo most M = (numV M, if M 40 0 25 = 3 then (if numV M ≤ most then f_X11_step M else f_X11_bad 2 M) else f_X11_bad 1 M) := by
  unfold f_X11_numberTo
  simp only [xlet]
  rw [if_pos (by rw [h]; decide)]
  by_cases h3 : M 40 0 25 = 3
  · obtain ⟨k', e⟩ := numL16 most M h3 (xmu (M 40 0 26) (M 40 0 27) + 1) 0 (M 40 0 26) (fun v_7 k_8 => if (M 40 0 25) = 3 then if v_7 ≤ most then (v_7, f_X11_must 1 M) else if (f_X11_bad 2 M) 40 0 25 = 3 then (v_7, f_X11_must 1 (f_X11_bad 2 M)) else (v_7, f_X11_must 0 (f_X11_bad 2 M)) else (v_7, f_X11_must 0 M)) (Nat.lt_succ_self _)
    rw [e]
    have ev : nums (M 70 0) (M 40 0 27) (xmu (M 40 0 26) (M 40 0 27) + 1) 0 (M 40 0 26) = numV M := by unfold numV; rw [if_pos h3]
    rw [ev, if_pos h3, if_pos h3]
    by_cases h4 : numV M ≤ most
    · rw [if_pos h4, if_pos h4, must_eq, if_pos h, if_neg (by decide)]
    · rw [if_neg h4, if_neg h4, if_pos (by rw [bad_at]; simp; exact h3), must_eq, if_neg (by rw [bad_at, if_pos ⟨h, rfl, rfl, rfl⟩]; decide)]
  · rw [numL16' most M h3, if_neg h3, if_neg h3, must_eq, if_pos h, if_pos rfl]
    unfold numV
    rw [if_neg h3]
theorem numberTo_f (most : Int32) (M : xM) (h : 0 < M 40 0 28) : f_X11_numberTo most M = (0, M) := by
  unfold f_X11_numberTo
  rw [if_neg (by grind)]
/-- outside the reader's own numbers nothing moves -/
def pfr (M N : xM) : Prop := ∀ a b c : Nat, ¬ (a = 40 ∧ b = 0 ∧ 24 ≤ c ∧ c ≤ 29) → N a b c = M a b c
theorem pfr_rf (M : xM) : pfr M M := fun _ _ _ _ => rfl
theorem pfr_bad (k : Int32) (M : xM) : pfr M (f_X11_bad k M) := by
  intro a b c h
  rw [bad_at, if_neg (fun q => h ⟨q.2.1, q.2.2.1, by omega, by omega⟩), if_neg (fun q => h ⟨q.2.1, q.2.2.1, by omega, by omega⟩)]
theorem pfr_step (M : xM) (hB : ∀ j : Nat, 0 ≤ M 70 0 j) : pfr M (f_X11_step M) := by
  intro a b c h
  rw [step_eq M hB, tset_at]
  rw [if_neg (fun q => h ⟨q.1, q.2.1, by omega, by omega⟩), if_neg (fun q => h ⟨q.1, q.2.1, by omega, by omega⟩), if_neg (fun q => h ⟨q.1, q.2.1, by omega, by omega⟩)]
theorem pfr_must (so : Int32) (M : xM) (hB : ∀ j : Nat, 0 ≤ M 70 0 j) : pfr M (f_X11_must so M) := by
  rw [must_eq]
  split
  · split
    · exact pfr_bad 1 M
    · exact pfr_step M hB
  · exact pfr_rf M
theorem step_28 (M : xM) (hB : ∀ j : Nat, 0 ≤ M 70 0 j) : f_X11_step M 40 0 28 = M 40 0 28 := by rw [step_eq M hB]; simp [tset_at]
theorem pI_must {so : Int32} {M : xM} (h : pI M) : pI (f_X11_must so M) := by
  rw [must_eq]
  split
  · split
    · exact pI_bad h
    · exact pI_step h
  · exact h
/-- the fault's number is none of those below 0 -/
def pF (M : xM) : Prop := 0 ≤ M 40 0 28
theorem pF_bad {k : Int32} {M : xM} (hk : 0 ≤ k) (h : pF M) : pF (f_X11_bad k M) := by
  unfold pF at *; rw [bad_at]; simp; split <;> assumption
theorem pF_step {M : xM} (hI : pI M) (h : pF M) : pF (f_X11_step M) := by
  unfold pF at *; rw [step_28 M hI.2.2.2.2.2]; exact h
theorem pF_must {so : Int32} {M : xM} (hI : pI M) (h : pF M) : pF (f_X11_must so M) := by
  rw [must_eq]
  split
  · split
    · exact pF_bad (by decide) h
    · exact pF_step hI h
  · exact h
theorem numberTo_all {most : Int32} {M : xM} (hI : pI M) (hF : pF M) : pI (f_X11_numberTo most M).2 ∧ pF (f_X11_numberTo most M).2 ∧ pfr M (f_X11_numberTo most M).2 := by
  by_cases h : M 40 0 28 = 0
  · rw [numberTo_eq most M h]
    dsimp only
    split
    · split
      · exact ⟨pI_step hI, pF_step hI hF, pfr_step M hI.2.2.2.2.2⟩
      · exact ⟨pI_bad hI, pF_bad (by decide) hF, pfr_bad 2 M⟩
    · exact ⟨pI_bad hI, pF_bad (by decide) hF, pfr_bad 1 M⟩
  · have h2 : 0 < M 40 0 28 := by unfold pF at hF; grind
    rw [numberTo_f most M h2]
    exact ⟨hI, hF, pfr_rf M⟩
theorem pI_numberTo {most : Int32} {M : xM} (hI : pI M) (hF : pF M) : pI (f_X11_numberTo most M).2 := (numberTo_all hI hF).1
theorem pF_numberTo {most : Int32} {M : xM} (hI : pI M) (hF : pF M) : pF (f_X11_numberTo most M).2 := (numberTo_all hI hF).2.1
theorem n19_numberTo {most : Int32} {M : xM} (hI : pI M) (hF : pF M) : (f_X11_numberTo most M).2 40 0 19 = M 40 0 19 := (numberTo_all hI hF).2.2 _ _ _ (by omega)
theorem n19_must {so : Int32} {M : xM} (hI : pI M) : f_X11_must so M 40 0 19 = M 40 0 19 := pfr_must so M hI.2.2.2.2.2 _ _ _ (by omega)
theorem n7_must {so : Int32} {M : xM} (hI : pI M) : f_X11_must so M 40 0 7 = M 40 0 7 := pfr_must so M hI.2.2.2.2.2 _ _ _ (by omega)
theorem n19_bad {k : Int32} {M : xM} : f_X11_bad k M 40 0 19 = M 40 0 19 := pfr_bad k M _ _ _ (by omega)
theorem must_f {so : Int32} {M : xM} (h : ¬ M 40 0 28 = 0) : f_X11_must so M = M := by rw [must_eq, if_neg h]
theorem numberTo_f2 {most : Int32} {M : xM} (hF : pF M) (h : ¬ M 40 0 28 = 0) : (f_X11_numberTo most M).2 = M := by
  rw [numberTo_f most M (by unfold pF at hF; grind)]
theorem bad3_28 {M : xM} (hF : pF M) : ¬ f_X11_bad 3 M 40 0 28 = 0 := by
  rw [bad_at]; simp; split <;> first | decide | assumption
theorem bookWeek_eq (town w : Int32) (M : xM) : f_X11_bookWeek town w M = ((if bfrow (M 55 0) 0 (M 56 0) town.toNatClampNeg = (-1000000) then (-1) else w - bfrow (M 55 0) 0 (M 56 0) town.toNatClampNeg / 100), xrow M 56 0 (bfrow (M 55 0) 0 (M 56 0))) := by
  unfold f_X11_bookWeek
  simp only [xlet2, farFrom_eq]
  split <;> rfl
theorem bw2 {town w : Int32} {M : xM} {a b c : Nat} (h : ¬ a = 56) : (f_X11_bookWeek town w M).2 a b c = M a b c := by
  rw [bookWeek_eq]
  exact congrFun (xrow_k h) c
theorem ff2 {x y : Int32} {M : xM} {a b c : Nat} (h : ¬ a = 56) : (f_X11_farFrom x y M).2 a b c = M a b c := by
  rw [farFrom_eq]
  exact congrFun (xrow_k h) c
theorem must0_28 {M : xM} (hF : pF M) : ¬ f_X11_must 0 M 40 0 28 = 0 := by
  rw [must_eq]
  split
  · rename_i h; rw [if_pos rfl, bad_at, if_pos ⟨h, rfl, rfl, rfl⟩]; decide
  · assumption
theorem chain2 {m1 m2 : Int32} {N : xM} (hF : pF N) (h : ¬ N 40 0 28 = 0) : ¬ (f_X11_numberTo m2 (f_X11_numberTo m1 N).2).2 40 0 28 = 0 := by
  rw [numberTo_f2 (M := N) hF h, numberTo_f2 hF h]; exact h
theorem re_dead0 {m1 m2 : Int32} {M : xM} (hI : pI M) (hF : pF M) : ¬ (f_X11_numberTo m2 (f_X11_numberTo m1 (f_X11_must 0 M)).2).2 40 0 28 = 0 := chain2 (pF_must hI hF) (must0_28 hF)
theorem re_dead3 {so m1 m2 : Int32} {M : xM} (hF : pF M) : ¬ (f_X11_numberTo m2 (f_X11_numberTo m1 (f_X11_must so (f_X11_bad 3 M))).2).2 40 0 28 = 0 := by
  rw [must_f (bad3_28 hF)]
  exact chain2 (pF_bad (by decide) hF) (bad3_28 hF)
