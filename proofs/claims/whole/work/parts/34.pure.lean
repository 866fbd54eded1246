theorem handOn_o {i0 : Nat} {to w : Int32} {M : xM} {a b c : Nat} (h : ¬ (a = 29 ∧ b = i0 ∧ (c = 5 ∨ c = 6 ∨ c = 8))) (h2 : ¬ a = 30) (h3 : ¬ a = 31) : f_X4_handOn i0 to w M a b c = M a b c := by
  unfold f_X4_handOn
  simp only [xlet]
  repeat' split
  all_goals (simp only [xup_at]; grind)
theorem offer_L3 (fr pt : Int32) (tk : Nat) (M : xM) : ∀ (n : Nat) (i : Int32) (N : xM) (kx : Int32 → xM → xM), xfr 9 M N → (∀ x N', xfr 9 M N' → xfr 9 M (kx x N')) → xfr 9 M (f_X10_offerNotes_L3 fr pt tk n i N kx) := by
  intro n
  induction n with
  | zero => intro i N kx h _; exact h
  | succ n ih =>
    intro i N kx h hk
    have key : ∀ j v, xfr 9 M (xup N 9 0 j v) := fun j v => xfr_up h
    have key2 : ∀ j v j2 v2, xfr 9 M (xup (xup N 9 0 j v) 9 0 j2 v2) := fun j v j2 v2 => xfr_up (key j v)
    rw [f_X10_offerNotes_L3]
    simp only [xlet]
    split
    · exact hk _ _ h
    · split
      · exact hk _ _ h
      · cases f_X10_noteOf i N with
        | none => exact ih _ _ _ (key _ _) hk
        | some q =>
          dsimp only [xopt]
          repeat' split
          all_goals first | exact ih _ _ _ (key _ _) hk | exact ih _ _ _ (key2 _ _ _ _) hk
theorem offer_fr (fr pt : Int32) (tk : Nat) (M : xM) : xfr 9 M (f_X10_offerNotes fr pt tk M) := by
  unfold f_X10_offerNotes
  exact offer_L3 fr pt tk M _ _ _ _ (xfr_rf 9 M) (fun x N' h' => h')
theorem td_L2 (place : Int32) (nt : Nat) (M : xM) : ∀ (n : Nat) (t : Int32) (N : xM) (kx : Int32 → xM → xM), xfr 20 M N → (∀ x N', xfr 20 M N' → xfr 20 M (kx x N')) → xfr 20 M (f_X10_tellDrover_L2 place nt n t N kx) := by
  intro n
  induction n with
  | zero => intro t N kx h _; exact h
  | succ n ih =>
    intro t N kx h hk
    rw [f_X10_tellDrover_L2]
    simp only [xlet, f_X3_tellGain]
    split
    · exact hk _ _ h
    · exact ih _ _ _ (xfr_up h) hk
theorem td_fr (place : Int32) (nt : Nat) (M : xM) : xfr 20 M (f_X10_tellDrover place nt M) := by
  unfold f_X10_tellDrover
  exact td_L2 place nt M _ _ _ _ (xfr_rf 20 M) (fun x N' h' => h')
theorem noteOf_c {q : Int32} {M N : xM} (h : N 0 0 13 = M 0 0 13) : f_X10_noteOf q N = f_X10_noteOf q M := by
  unfold f_X10_noteOf f_X10_isUpTo
  rw [h]
theorem difs_o {M N : xM} {sq : Nat} {i z : Int32} (h : xfr 20 M N) (hd : difs M sq i z) : difs N sq i z := by
  intro j h1 h2
  rw [h 25 sq _ (by decide), noteOf_c (h 0 0 13 (by decide))]
  exact hd j h1 h2
theorem adn_L6 (sq : Nat) (i z : Int32) (M : xM) : ∀ (n : Nat) (seen k : Int32) (kx : Int32 → Int32 → Bool), 0 ≤ k → xmu k z < n → f_X10_areDifferentNotes_L6 sq i z M n seen k kx = true → ∀ j : Int32, k ≤ j → j < z → f_X10_noteOf (M 25 sq (i + j).toNatClampNeg) M ≠ none := by
  intro n
  induction n with
  | zero => intro seen k kx _ h; exact absurd h (Nat.not_lt_zero _)
  | succ n ih =>
    intro seen k kx hk0 hm h j h1 h2
    rw [f_X10_areDifferentNotes_L6] at h
    have c : ¬ z ≤ k := by grind
    rw [if_neg c] at h
    simp only [xlet] at h
    cases e : f_X10_noteOf (M 25 sq (i + k).toNatClampNeg) M with
    | none => rw [e] at h; cases h
    | some q =>
      rw [e] at h
      dsimp only [xopt] at h
      by_cases cj : j = k
      · rw [cj, e]; exact fun q => by cases q
      · split at h
        · exact ih _ _ kx (by grind) (by have := xmu_up (a := k) (b := z) (by grind); omega) h j (by grind) h2
        · cases h
theorem adn_difs {sq : Nat} {i z : Int32} {M : xM} (h : f_X10_areDifferentNotes sq i z M = true) : difs M sq i z := by
  unfold f_X10_areDifferentNotes at h
  exact adn_L6 sq i z M _ _ _ _ (by decide) (Nat.lt_succ_self _) h
theorem xHN_fr {nn K : Nat} {M N : xM} (h1 : ¬ K = 0) (h2 : ¬ K = 7) (h : xfr K M N) (hN : xHN nn M) : xHN nn N := by
  unfold xHN at *
  rw [h 0 0 13 (Ne.symm h1)]
  refine ⟨hN.1, hN.2.1, fun j hj => ?_⟩
  rw [h 7 0 j (Ne.symm h2)]
  exact hN.2.2 j hj
theorem xHN_hand {nn i0 : Nat} {to w : Int32} {M : xM} (hN : xHN nn M) : xHN nn (f_X4_handOn i0 to w M) := by
  unfold xHN at *
  rw [handOn_o (by omega) (by decide) (by decide)]
  refine ⟨hN.1, hN.2.1, fun j hj => ?_⟩
  rw [handOn_o (by omega) (by decide) (by decide)]
  exact hN.2.2 j hj
