def f_X11_books_L96  (w : Int32) : Nat → Int32 → xM → (Int32 → xM → Int32 × xM) → Int32 × xM
  | 0, _, N_, _ => (0, N_)
  | n + 1, more, N_, kx => if more = 0 then kx more N_ else xlet (f_X11_readEntry w N_) fun M_3 => if (M_3 40 0 28) = 0 then xlet (f_X11_entryOfWord M_3) fun r_5 => if r_5 = (-1000000) then f_X11_books_L96 w n (0 : Int32) M_3 kx else f_X11_books_L96 w n (1 : Int32) M_3 kx else f_X11_books_L96 w n (0 : Int32) M_3 kx
def f_X11_books_L40  : Nat → xM → (xM → Int32 × xM) → Int32 × xM
  | 0, N_, _ => (0, N_)
  | n + 1, N_, kx => if (N_ 40 0 28) = 0 then if (N_ 40 0 25) = 1 then kx  N_ else xlet (f_X11_word N_) fun r_9 => if (lg_cmp r_9 2003133803) = 0 then xlet (f_X11_must 1 N_) fun M_33 => xlet2 (f_X11_numberTo 299 M_33) fun r_34 M_35 => if (M_35 40 0 28) = 0 then f_X11_books_L96 r_34 ((if (1 : Int32) = 0 then 0 else pM M_35) + 1) (1 : Int32) M_35 (fun more_45 M_46 => if (M_46 40 0 28) = 0 then if (M_46 40 0 25) = 4 then xlet (f_X11_must 1 M_46) fun M_52 => f_X11_books_L40  n  M_52 kx else xlet (f_X11_must 0 M_46) fun M_50 => f_X11_books_L40  n  M_50 kx else f_X11_books_L40  n  M_46 kx) else f_X11_books_L96 r_34 ((if (0 : Int32) = 0 then 0 else pM M_35) + 1) (0 : Int32) M_35 (fun more_37 M_38 => if (M_38 40 0 28) = 0 then if (M_38 40 0 25) = 4 then xlet (f_X11_must 1 M_38) fun M_44 => f_X11_books_L40  n  M_44 kx else xlet (f_X11_must 0 M_38) fun M_42 => f_X11_books_L40  n  M_42 kx else f_X11_books_L40  n  M_38 kx) else xlet (f_X11_must 0 N_) fun M_12 => xlet2 (f_X11_numberTo 299 M_12) fun r_13 M_14 => if (M_14 40 0 28) = 0 then f_X11_books_L96 r_13 ((if (1 : Int32) = 0 then 0 else pM M_14) + 1) (1 : Int32) M_14 (fun more_24 M_25 => if (M_25 40 0 28) = 0 then if (M_25 40 0 25) = 4 then xlet (f_X11_must 1 M_25) fun M_31 => f_X11_books_L40  n  M_31 kx else xlet (f_X11_must 0 M_25) fun M_29 => f_X11_books_L40  n  M_29 kx else f_X11_books_L40  n  M_25 kx) else f_X11_books_L96 r_13 ((if (0 : Int32) = 0 then 0 else pM M_14) + 1) (0 : Int32) M_14 (fun more_16 M_17 => if (M_17 40 0 28) = 0 then if (M_17 40 0 25) = 4 then xlet (f_X11_must 1 M_17) fun M_23 => f_X11_books_L40  n  M_23 kx else xlet (f_X11_must 0 M_17) fun M_21 => f_X11_books_L40  n  M_21 kx else f_X11_books_L40  n  M_17 kx) else kx  N_
def f_X11_books  (M : xM) : Int32 × xM :=
  xlet (xup M 40 0 0 0) fun M_53 => xlet (M_53 40 0 21) fun v_54 => xlet (xup M_53 40 0 23 v_54) fun M_55 => xlet (xup M_55 40 0 21 0) fun M_56 => xlet (xup M_56 40 0 24 0) fun M_57 => xlet (xup M_57 40 0 28 0) fun M_58 => xlet (M_58 40 0 14) fun v_59 => xlet (xup M_58 40 0 19 v_59) fun M_60 => xlet (f_X11_step M_60) fun M_62 => f_X11_books_L40  ((if M_62 40 0 25 = 1 then 0 else pM M_62) + 1)  M_62 (fun M_63 => if (M_63 40 0 28) ≤ 0 then xlet (M_63 40 0 19) fun v_65 => xlet (xup M_63 40 0 14 v_65) fun M_66 => ((M_66 40 0 14), M_66) else xlet (M_63 40 0 28) fun v_67 => xlet (xup M_63 40 0 22 v_67) fun M_68 => (((-1000100) - (M_68 40 0 29)), M_68))
theorem ob_X11_books_130_x96 (nb nn : Nat) (M : xM) (hp0 : 0 ≤ M 40 0 21) (hp1 : M 40 0 21 ≤ 400) (hp2 : ∀ j : Nat, 0 ≤ M 70 0 j) (hp3 : 0 ≤ M 40 0 14) (hp4 : M 40 0 14 ≤ 40) (G : xM) (w : Int32) (n : Nat) (more : Int32) (N_ : xM) (hmu : (if more = 0 then 0 else pM N_) < n + 1) (hinv : pJ N_ ∧ pN N_ ∧ (more = 0 ∨ N_ 40 0 28 = 0) ∧ pS G N_) (c_1 : more = 0) : pJ N_ ∧ pN N_ ∧ (more = 0 ∨ N_ 40 0 28 = 0) ∧ pS G N_ := by
  skip
  grind [pJ_must, pG_must, pS_must, pJ_num, pG_num, pJ_re, pG_re, pS_re, pJ_I, pJ_F, pN_must, pN_numberTo, pN_readEntry, pS_G, pN]
theorem ob_X11_books_102_p0 (nb nn : Nat) (M : xM) (hp0 : 0 ≤ M 40 0 21) (hp1 : M 40 0 21 ≤ 400) (hp2 : ∀ j : Nat, 0 ≤ M 70 0 j) (hp3 : 0 ≤ M 40 0 14) (hp4 : M 40 0 14 ≤ 40) (G : xM) (w : Int32) (n : Nat) (more : Int32) (N_ : xM) (hmu : (if more = 0 then 0 else pM N_) < n + 1) (hinv : pJ N_ ∧ pN N_ ∧ (more = 0 ∨ N_ 40 0 28 = 0) ∧ pS G N_) (c_1 : ¬ more = 0) : pI N_ := by
  skip
  grind [pJ_must, pG_must, pS_must, pJ_num, pG_num, pJ_re, pG_re, pS_re, pJ_I, pJ_F, pN_must, pN_numberTo, pN_readEntry, pS_G, pN]
theorem ob_X11_books_102_p1 (nb nn : Nat) (M : xM) (hp0 : 0 ≤ M 40 0 21) (hp1 : M 40 0 21 ≤ 400) (hp2 : ∀ j : Nat, 0 ≤ M 70 0 j) (hp3 : 0 ≤ M 40 0 14) (hp4 : M 40 0 14 ≤ 40) (G : xM) (w : Int32) (n : Nat) (more : Int32) (N_ : xM) (hmu : (if more = 0 then 0 else pM N_) < n + 1) (hinv : pJ N_ ∧ pN N_ ∧ (more = 0 ∨ N_ 40 0 28 = 0) ∧ pS G N_) (c_1 : ¬ more = 0) : pF N_ := by
  skip
  grind [pJ_must, pG_must, pS_must, pJ_num, pG_num, pJ_re, pG_re, pS_re, pJ_I, pJ_F, pN_must, pN_numberTo, pN_readEntry, pS_G, pN]
theorem ob_X11_books_102_p2 (nb nn : Nat) (M : xM) (hp0 : 0 ≤ M 40 0 21) (hp1 : M 40 0 21 ≤ 400) (hp2 : ∀ j : Nat, 0 ≤ M 70 0 j) (hp3 : 0 ≤ M 40 0 14) (hp4 : M 40 0 14 ≤ 40) (G : xM) (w : Int32) (n : Nat) (more : Int32) (N_ : xM) (hmu : (if more = 0 then 0 else pM N_) < n + 1) (hinv : pJ N_ ∧ pN N_ ∧ (more = 0 ∨ N_ 40 0 28 = 0) ∧ pS G N_) (c_1 : ¬ more = 0) : 0 ≤ N_ 40 0 19 := by
  skip
  grind [pJ_must, pG_must, pS_must, pJ_num, pG_num, pJ_re, pG_re, pS_re, pJ_I, pJ_F, pN_must, pN_numberTo, pN_readEntry, pS_G, pN]
theorem ob_X11_books_102_p3 (nb nn : Nat) (M : xM) (hp0 : 0 ≤ M 40 0 21) (hp1 : M 40 0 21 ≤ 400) (hp2 : ∀ j : Nat, 0 ≤ M 70 0 j) (hp3 : 0 ≤ M 40 0 14) (hp4 : M 40 0 14 ≤ 40) (G : xM) (w : Int32) (n : Nat) (more : Int32) (N_ : xM) (hmu : (if more = 0 then 0 else pM N_) < n + 1) (hinv : pJ N_ ∧ pN N_ ∧ (more = 0 ∨ N_ 40 0 28 = 0) ∧ pS G N_) (c_1 : ¬ more = 0) : N_ 40 0 19 ≤ 40 := by
  skip
  grind [pJ_must, pG_must, pS_must, pJ_num, pG_num, pJ_re, pG_re, pS_re, pJ_I, pJ_F, pN_must, pN_numberTo, pN_readEntry, pS_G, pN]
theorem ob_X11_books_96_mu_4 (nb nn : Nat) (M : xM) (hp0 : 0 ≤ M 40 0 21) (hp1 : M 40 0 21 ≤ 400) (hp2 : ∀ j : Nat, 0 ≤ M 70 0 j) (hp3 : 0 ≤ M 40 0 14) (hp4 : M 40 0 14 ≤ 40) (G : xM) (w : Int32) (n : Nat) (more : Int32) (N_ : xM) (hmu : (if more = 0 then 0 else pM N_) < n + 1) (hinv : pJ N_ ∧ pN N_ ∧ (more = 0 ∨ N_ 40 0 28 = 0) ∧ pS G N_) (c_1 : ¬ more = 0) (M_3 : xM) (eM_3 : M_3 = f_X11_readEntry w N_) (c_4 : ¬ (M_3 40 0 28) = 0) : (if (0 : Int32) = 0 then 0 else pM M_3) < n := by
  obtain ⟨h1, h2, h3, h4⟩ := hinv
  have h7 : ¬ more = 0 := c_1
  have h8 : N_ 40 0 28 = 0 := h3.resolve_left h7
  rw [if_neg h7] at hmu
  have h9 := pM_S (pS_re (w := w) h1 h8) (pJ_re (w := w) h1) h8
  have h10 := pM_pos h8
  subst eM_3
  first
  | (rw [if_pos rfl]; omega)
  | (rw [if_neg (by decide)]; omega)
theorem ob_X11_books_96_inv_4 (nb nn : Nat) (M : xM) (hp0 : 0 ≤ M 40 0 21) (hp1 : M 40 0 21 ≤ 400) (hp2 : ∀ j : Nat, 0 ≤ M 70 0 j) (hp3 : 0 ≤ M 40 0 14) (hp4 : M 40 0 14 ≤ 40) (G : xM) (w : Int32) (n : Nat) (more : Int32) (N_ : xM) (hmu : (if more = 0 then 0 else pM N_) < n + 1) (hinv : pJ N_ ∧ pN N_ ∧ (more = 0 ∨ N_ 40 0 28 = 0) ∧ pS G N_) (c_1 : ¬ more = 0) (M_3 : xM) (eM_3 : M_3 = f_X11_readEntry w N_) (c_4 : ¬ (M_3 40 0 28) = 0) : pJ M_3 ∧ pN M_3 ∧ ((0 : Int32) = 0 ∨ M_3 40 0 28 = 0) ∧ pS G M_3 := by
  obtain ⟨h1, h2, h3, h4⟩ := hinv
  have h7 : ¬ more = 0 := c_1
  have h8 : N_ 40 0 28 = 0 := h3.resolve_left h7
  subst eM_3
  refine ⟨pJ_re h1, pN_readEntry h1 h2, ?_, pS_G h4 (pG_re h1)⟩
  first
  | exact Or.inl rfl
  | exact Or.inr c_4
theorem ob_X11_books_113_p0 (nb nn : Nat) (M : xM) (hp0 : 0 ≤ M 40 0 21) (hp1 : M 40 0 21 ≤ 400) (hp2 : ∀ j : Nat, 0 ≤ M 70 0 j) (hp3 : 0 ≤ M 40 0 14) (hp4 : M 40 0 14 ≤ 40) (G : xM) (w : Int32) (n : Nat) (more : Int32) (N_ : xM) (hmu : (if more = 0 then 0 else pM N_) < n + 1) (hinv : pJ N_ ∧ pN N_ ∧ (more = 0 ∨ N_ 40 0 28 = 0) ∧ pS G N_) (c_1 : ¬ more = 0) (M_3 : xM) (eM_3 : M_3 = f_X11_readEntry w N_) (c_4 : (M_3 40 0 28) = 0) : pI M_3 := by
  subst eM_3
  grind [pJ_must, pG_must, pS_must, pJ_num, pG_num, pJ_re, pG_re, pS_re, pJ_I, pJ_F, pN_must, pN_numberTo, pN_readEntry, pS_G, pN]
theorem ob_X11_books_96_mu_6 (nb nn : Nat) (M : xM) (hp0 : 0 ≤ M 40 0 21) (hp1 : M 40 0 21 ≤ 400) (hp2 : ∀ j : Nat, 0 ≤ M 70 0 j) (hp3 : 0 ≤ M 40 0 14) (hp4 : M 40 0 14 ≤ 40) (G : xM) (w : Int32) (n : Nat) (more : Int32) (N_ : xM) (hmu : (if more = 0 then 0 else pM N_) < n + 1) (hinv : pJ N_ ∧ pN N_ ∧ (more = 0 ∨ N_ 40 0 28 = 0) ∧ pS G N_) (c_1 : ¬ more = 0) (M_3 : xM) (eM_3 : M_3 = f_X11_readEntry w N_) (c_4 : (M_3 40 0 28) = 0) (r_5 : Int32) (er_5 : r_5 = f_X11_entryOfWord M_3) (c_6 : r_5 = (-1000000)) : (if (0 : Int32) = 0 then 0 else pM M_3) < n := by
  obtain ⟨h1, h2, h3, h4⟩ := hinv
  have h7 : ¬ more = 0 := c_1
  have h8 : N_ 40 0 28 = 0 := h3.resolve_left h7
  rw [if_neg h7] at hmu
  have h9 := pM_S (pS_re (w := w) h1 h8) (pJ_re (w := w) h1) h8
  have h10 := pM_pos h8
  subst eM_3
  first
  | (rw [if_pos rfl]; omega)
  | (rw [if_neg (by decide)]; omega)
theorem ob_X11_books_96_inv_6 (nb nn : Nat) (M : xM) (hp0 : 0 ≤ M 40 0 21) (hp1 : M 40 0 21 ≤ 400) (hp2 : ∀ j : Nat, 0 ≤ M 70 0 j) (hp3 : 0 ≤ M 40 0 14) (hp4 : M 40 0 14 ≤ 40) (G : xM) (w : Int32) (n : Nat) (more : Int32) (N_ : xM) (hmu : (if more = 0 then 0 else pM N_) < n + 1) (hinv : pJ N_ ∧ pN N_ ∧ (more = 0 ∨ N_ 40 0 28 = 0) ∧ pS G N_) (c_1 : ¬ more = 0) (M_3 : xM) (eM_3 : M_3 = f_X11_readEntry w N_) (c_4 : (M_3 40 0 28) = 0) (r_5 : Int32) (er_5 : r_5 = f_X11_entryOfWord M_3) (c_6 : r_5 = (-1000000)) : pJ M_3 ∧ pN M_3 ∧ ((0 : Int32) = 0 ∨ M_3 40 0 28 = 0) ∧ pS G M_3 := by
  obtain ⟨h1, h2, h3, h4⟩ := hinv
  have h7 : ¬ more = 0 := c_1
  have h8 : N_ 40 0 28 = 0 := h3.resolve_left h7
  subst eM_3
  refine ⟨pJ_re h1, pN_readEntry h1 h2, ?_, pS_G h4 (pG_re h1)⟩
  first
  | exact Or.inl rfl
  | exact Or.inr c_4
theorem ob_X11_books_96_mu_6_2 (nb nn : Nat) (M : xM) (hp0 : 0 ≤ M 40 0 21) (hp1 : M 40 0 21 ≤ 400) (hp2 : ∀ j : Nat, 0 ≤ M 70 0 j) (hp3 : 0 ≤ M 40 0 14) (hp4 : M 40 0 14 ≤ 40) (G : xM) (w : Int32) (n : Nat) (more : Int32) (N_ : xM) (hmu : (if more = 0 then 0 else pM N_) < n + 1) (hinv : pJ N_ ∧ pN N_ ∧ (more = 0 ∨ N_ 40 0 28 = 0) ∧ pS G N_) (c_1 : ¬ more = 0) (M_3 : xM) (eM_3 : M_3 = f_X11_readEntry w N_) (c_4 : (M_3 40 0 28) = 0) (r_5 : Int32) (er_5 : r_5 = f_X11_entryOfWord M_3) (c_6 : ¬ r_5 = (-1000000)) : (if (1 : Int32) = 0 then 0 else pM M_3) < n := by
  obtain ⟨h1, h2, h3, h4⟩ := hinv
  have h7 : ¬ more = 0 := c_1
  have h8 : N_ 40 0 28 = 0 := h3.resolve_left h7
  rw [if_neg h7] at hmu
  have h9 := pM_S (pS_re (w := w) h1 h8) (pJ_re (w := w) h1) h8
  have h10 := pM_pos h8
  subst eM_3
  first
  | (rw [if_pos rfl]; omega)
  | (rw [if_neg (by decide)]; omega)
theorem ob_X11_books_96_inv_6_2 (nb nn : Nat) (M : xM) (hp0 : 0 ≤ M 40 0 21) (hp1 : M 40 0 21 ≤ 400) (hp2 : ∀ j : Nat, 0 ≤ M 70 0 j) (hp3 : 0 ≤ M 40 0 14) (hp4 : M 40 0 14 ≤ 40) (G : xM) (w : Int32) (n : Nat) (more : Int32) (N_ : xM) (hmu : (if more = 0 then 0 else pM N_) < n + 1) (hinv : pJ N_ ∧ pN N_ ∧ (more = 0 ∨ N_ 40 0 28 = 0) ∧ pS G N_) (c_1 : ¬ more = 0) (M_3 : xM) (eM_3 : M_3 = f_X11_readEntry w N_) (c_4 : (M_3 40 0 28) = 0) (r_5 : Int32) (er_5 : r_5 = f_X11_entryOfWord M_3) (c_6 : ¬ r_5 = (-1000000)) : pJ M_3 ∧ pN M_3 ∧ ((1 : Int32) = 0 ∨ M_3 40 0 28 = 0) ∧ pS G M_3 := by
  obtain ⟨h1, h2, h3, h4⟩ := hinv
  have h7 : ¬ more = 0 := c_1
  have h8 : N_ 40 0 28 = 0 := h3.resolve_left h7
  subst eM_3
  refine ⟨pJ_re h1, pN_readEntry h1 h2, ?_, pS_G h4 (pG_re h1)⟩
  first
  | exact Or.inl rfl
  | exact Or.inr c_4
theorem ob_X11_books_157_x40 (nb nn : Nat) (M : xM) (hp0 : 0 ≤ M 40 0 21) (hp1 : M 40 0 21 ≤ 400) (hp2 : ∀ j : Nat, 0 ≤ M 70 0 j) (hp3 : 0 ≤ M 40 0 14) (hp4 : M 40 0 14 ≤ 40) (n : Nat) (N_ : xM) (hmu : (if N_ 40 0 25 = 1 then 0 else pM N_) < n + 1) (hinv : pJ N_ ∧ pN N_) (c_7 : ¬ (N_ 40 0 28) = 0) : pJ N_ ∧ pN N_ := by
  skip
  grind [pJ_must, pG_must, pS_must, pJ_num, pG_num, pJ_re, pG_re, pS_re, pJ_I, pJ_F, pN_must, pN_numberTo, pN_readEntry, pS_G, pN]
theorem ob_X11_books_157_x40_2 (nb nn : Nat) (M : xM) (hp0 : 0 ≤ M 40 0 21) (hp1 : M 40 0 21 ≤ 400) (hp2 : ∀ j : Nat, 0 ≤ M 70 0 j) (hp3 : 0 ≤ M 40 0 14) (hp4 : M 40 0 14 ≤ 40) (n : Nat) (N_ : xM) (hmu : (if N_ 40 0 25 = 1 then 0 else pM N_) < n + 1) (hinv : pJ N_ ∧ pN N_) (c_7 : (N_ 40 0 28) = 0) (c_8 : (N_ 40 0 25) = 1) : pJ N_ ∧ pN N_ := by
  skip
  grind [pJ_must, pG_must, pS_must, pJ_num, pG_num, pJ_re, pG_re, pS_re, pJ_I, pJ_F, pN_must, pN_numberTo, pN_readEntry, pS_G, pN]
theorem ob_X11_books_57_p0 (nb nn : Nat) (M : xM) (hp0 : 0 ≤ M 40 0 21) (hp1 : M 40 0 21 ≤ 400) (hp2 : ∀ j : Nat, 0 ≤ M 70 0 j) (hp3 : 0 ≤ M 40 0 14) (hp4 : M 40 0 14 ≤ 40) (n : Nat) (N_ : xM) (hmu : (if N_ 40 0 25 = 1 then 0 else pM N_) < n + 1) (hinv : pJ N_ ∧ pN N_) (c_7 : (N_ 40 0 28) = 0) (c_8 : ¬ (N_ 40 0 25) = 1) : pI N_ := by
  skip
  grind [pJ_must, pG_must, pS_must, pJ_num, pG_num, pJ_re, pG_re, pS_re, pJ_I, pJ_F, pN_must, pN_numberTo, pN_readEntry, pS_G, pN]
theorem ob_X11_books_72_p0 (nb nn : Nat) (M : xM) (hp0 : 0 ≤ M 40 0 21) (hp1 : M 40 0 21 ≤ 400) (hp2 : ∀ j : Nat, 0 ≤ M 70 0 j) (hp3 : 0 ≤ M 40 0 14) (hp4 : M 40 0 14 ≤ 40) (n : Nat) (N_ : xM) (hmu : (if N_ 40 0 25 = 1 then 0 else pM N_) < n + 1) (hinv : pJ N_ ∧ pN N_) (c_7 : (N_ 40 0 28) = 0) (c_8 : ¬ (N_ 40 0 25) = 1) (r_9 : Int64) (er_9 : r_9 = f_X11_word N_) (c_10 : ¬ (lg_cmp r_9 2003133803) = 0) : pI N_ := by
  subst er_9
  grind [pJ_must, pG_must, pS_must, pJ_num, pG_num, pJ_re, pG_re, pS_re, pJ_I, pJ_F, pN_must, pN_numberTo, pN_readEntry, pS_G, pN]
theorem ob_X11_books_79_p0 (nb nn : Nat) (M : xM) (hp0 : 0 ≤ M 40 0 21) (hp1 : M 40 0 21 ≤ 400) (hp2 : ∀ j : Nat, 0 ≤ M 70 0 j) (hp3 : 0 ≤ M 40 0 14) (hp4 : M 40 0 14 ≤ 40) (n : Nat) (N_ : xM) (hmu : (if N_ 40 0 25 = 1 then 0 else pM N_) < n + 1) (hinv : pJ N_ ∧ pN N_) (c_7 : (N_ 40 0 28) = 0) (c_8 : ¬ (N_ 40 0 25) = 1) (r_9 : Int64) (er_9 : r_9 = f_X11_word N_) (c_10 : ¬ (lg_cmp r_9 2003133803) = 0) (M_12 : xM) (eM_12 : M_12 = f_X11_must 0 N_) : pI M_12 := by
  subst er_9
  subst eM_12
  grind [pJ_must, pG_must, pS_must, pJ_num, pG_num, pJ_re, pG_re, pS_re, pJ_I, pJ_F, pN_must, pN_numberTo, pN_readEntry, pS_G, pN]
theorem ob_X11_books_96_ini_15 (nb nn : Nat) (M : xM) (hp0 : 0 ≤ M 40 0 21) (hp1 : M 40 0 21 ≤ 400) (hp2 : ∀ j : Nat, 0 ≤ M 70 0 j) (hp3 : 0 ≤ M 40 0 14) (hp4 : M 40 0 14 ≤ 40) (n : Nat) (N_ : xM) (hmu : (if N_ 40 0 25 = 1 then 0 else pM N_) < n + 1) (hinv : pJ N_ ∧ pN N_) (c_7 : (N_ 40 0 28) = 0) (c_8 : ¬ (N_ 40 0 25) = 1) (r_9 : Int64) (er_9 : r_9 = f_X11_word N_) (c_10 : ¬ (lg_cmp r_9 2003133803) = 0) (M_12 : xM) (eM_12 : M_12 = f_X11_must 0 N_) (r_13 : Int32) (M_14 : xM) (er_13 : r_13 = (f_X11_numberTo 299 M_12).1) (eM_14 : M_14 = (f_X11_numberTo 299 M_12).2) (c_15 : ¬ (M_14 40 0 28) = 0) : pJ M_14 ∧ pN M_14 ∧ ((0 : Int32) = 0 ∨ M_14 40 0 28 = 0) ∧ pS N_ M_14 := by
  subst er_9
  subst eM_12
  subst er_13
  subst eM_14
  grind [pJ_must, pG_must, pS_must, pJ_num, pG_num, pJ_re, pG_re, pS_re, pJ_I, pJ_F, pN_must, pN_numberTo, pN_readEntry, pS_G, pN]
theorem ob_X11_books_40_mu_18 (nb nn : Nat) (M : xM) (hp0 : 0 ≤ M 40 0 21) (hp1 : M 40 0 21 ≤ 400) (hp2 : ∀ j : Nat, 0 ≤ M 70 0 j) (hp3 : 0 ≤ M 40 0 14) (hp4 : M 40 0 14 ≤ 40) (n : Nat) (N_ : xM) (hmu : (if N_ 40 0 25 = 1 then 0 else pM N_) < n + 1) (hinv : pJ N_ ∧ pN N_) (c_7 : (N_ 40 0 28) = 0) (c_8 : ¬ (N_ 40 0 25) = 1) (r_9 : Int64) (er_9 : r_9 = f_X11_word N_) (c_10 : ¬ (lg_cmp r_9 2003133803) = 0) (M_12 : xM) (eM_12 : M_12 = f_X11_must 0 N_) (r_13 : Int32) (M_14 : xM) (er_13 : r_13 = (f_X11_numberTo 299 M_12).1) (eM_14 : M_14 = (f_X11_numberTo 299 M_12).2) (c_15 : ¬ (M_14 40 0 28) = 0) (more_16 : Int32) (M_17 : xM) (hiv_17 : pJ M_17 ∧ pN M_17 ∧ (more_16 = 0 ∨ M_17 40 0 28 = 0) ∧ pS N_ M_17) (c_18 : ¬ (M_17 40 0 28) = 0) : (if M_17 40 0 25 = 1 then 0 else pM M_17) < n := by
  have h7 : ¬ N_ 40 0 25 = 1 := by assumption
  have h8 : N_ 40 0 28 = 0 := by assumption
  rw [if_neg h7] at hmu
  have h10 := pM_pos h8
  have h11 : ∀ K : xM, pJ K → pS N_ K → (if K 40 0 25 = 1 then 0 else pM K) < pM N_ := fun K a b => by
    have := pM_S b a h8
    split <;> omega
  have h12 : ∀ K : xM, pJ K → pS N_ K → (if K 40 0 25 = 1 then 0 else pM K) < n := fun K a b => by have := h11 K a b; omega
  subst er_9
  subst eM_12
  subst er_13
  subst eM_14
  apply h12 <;> grind [pJ_must, pG_must, pS_must, pJ_num, pG_num, pJ_re, pG_re, pS_re, pJ_I, pJ_F, pN_must, pN_numberTo, pN_readEntry, pS_G, pN]
theorem ob_X11_books_40_inv_18 (nb nn : Nat) (M : xM) (hp0 : 0 ≤ M 40 0 21) (hp1 : M 40 0 21 ≤ 400) (hp2 : ∀ j : Nat, 0 ≤ M 70 0 j) (hp3 : 0 ≤ M 40 0 14) (hp4 : M 40 0 14 ≤ 40) (n : Nat) (N_ : xM) (hmu : (if N_ 40 0 25 = 1 then 0 else pM N_) < n + 1) (hinv : pJ N_ ∧ pN N_) (c_7 : (N_ 40 0 28) = 0) (c_8 : ¬ (N_ 40 0 25) = 1) (r_9 : Int64) (er_9 : r_9 = f_X11_word N_) (c_10 : ¬ (lg_cmp r_9 2003133803) = 0) (M_12 : xM) (eM_12 : M_12 = f_X11_must 0 N_) (r_13 : Int32) (M_14 : xM) (er_13 : r_13 = (f_X11_numberTo 299 M_12).1) (eM_14 : M_14 = (f_X11_numberTo 299 M_12).2) (c_15 : ¬ (M_14 40 0 28) = 0) (more_16 : Int32) (M_17 : xM) (hiv_17 : pJ M_17 ∧ pN M_17 ∧ (more_16 = 0 ∨ M_17 40 0 28 = 0) ∧ pS N_ M_17) (c_18 : ¬ (M_17 40 0 28) = 0) : pJ M_17 ∧ pN M_17 := by
  subst er_9
  subst eM_12
  subst er_13
  subst eM_14
  grind [pJ_must, pG_must, pS_must, pJ_num, pG_num, pJ_re, pG_re, pS_re, pJ_I, pJ_F, pN_must, pN_numberTo, pN_readEntry, pS_G, pN]
theorem ob_X11_books_151_p0 (nb nn : Nat) (M : xM) (hp0 : 0 ≤ M 40 0 21) (hp1 : M 40 0 21 ≤ 400) (hp2 : ∀ j : Nat, 0 ≤ M 70 0 j) (hp3 : 0 ≤ M 40 0 14) (hp4 : M 40 0 14 ≤ 40) (n : Nat) (N_ : xM) (hmu : (if N_ 40 0 25 = 1 then 0 else pM N_) < n + 1) (hinv : pJ N_ ∧ pN N_) (c_7 : (N_ 40 0 28) = 0) (c_8 : ¬ (N_ 40 0 25) = 1) (r_9 : Int64) (er_9 : r_9 = f_X11_word N_) (c_10 : ¬ (lg_cmp r_9 2003133803) = 0) (M_12 : xM) (eM_12 : M_12 = f_X11_must 0 N_) (r_13 : Int32) (M_14 : xM) (er_13 : r_13 = (f_X11_numberTo 299 M_12).1) (eM_14 : M_14 = (f_X11_numberTo 299 M_12).2) (c_15 : ¬ (M_14 40 0 28) = 0) (more_16 : Int32) (M_17 : xM) (hiv_17 : pJ M_17 ∧ pN M_17 ∧ (more_16 = 0 ∨ M_17 40 0 28 = 0) ∧ pS N_ M_17) (c_18 : (M_17 40 0 28) = 0) (c_19 : ¬ (M_17 40 0 25) = 4) : pI M_17 := by
  subst er_9
  subst eM_12
  subst er_13
  subst eM_14
  grind [pJ_must, pG_must, pS_must, pJ_num, pG_num, pJ_re, pG_re, pS_re, pJ_I, pJ_F, pN_must, pN_numberTo, pN_readEntry, pS_G, pN]
theorem ob_X11_books_40_mu_21 (nb nn : Nat) (M : xM) (hp0 : 0 ≤ M 40 0 21) (hp1 : M 40 0 21 ≤ 400) (hp2 : ∀ j : Nat, 0 ≤ M 70 0 j) (hp3 : 0 ≤ M 40 0 14) (hp4 : M 40 0 14 ≤ 40) (n : Nat) (N_ : xM) (hmu : (if N_ 40 0 25 = 1 then 0 else pM N_) < n + 1) (hinv : pJ N_ ∧ pN N_) (c_7 : (N_ 40 0 28) = 0) (c_8 : ¬ (N_ 40 0 25) = 1) (r_9 : Int64) (er_9 : r_9 = f_X11_word N_) (c_10 : ¬ (lg_cmp r_9 2003133803) = 0) (M_12 : xM) (eM_12 : M_12 = f_X11_must 0 N_) (r_13 : Int32) (M_14 : xM) (er_13 : r_13 = (f_X11_numberTo 299 M_12).1) (eM_14 : M_14 = (f_X11_numberTo 299 M_12).2) (c_15 : ¬ (M_14 40 0 28) = 0) (more_16 : Int32) (M_17 : xM) (hiv_17 : pJ M_17 ∧ pN M_17 ∧ (more_16 = 0 ∨ M_17 40 0 28 = 0) ∧ pS N_ M_17) (c_18 : (M_17 40 0 28) = 0) (c_19 : ¬ (M_17 40 0 25) = 4) (M_21 : xM) (eM_21 : M_21 = f_X11_must 0 M_17) : (if M_21 40 0 25 = 1 then 0 else pM M_21) < n := by
  have h7 : ¬ N_ 40 0 25 = 1 := by assumption
  have h8 : N_ 40 0 28 = 0 := by assumption
  rw [if_neg h7] at hmu
  have h10 := pM_pos h8
  have h11 : ∀ K : xM, pJ K → pS N_ K → (if K 40 0 25 = 1 then 0 else pM K) < pM N_ := fun K a b => by
    have := pM_S b a h8
    split <;> omega
  have h12 : ∀ K : xM, pJ K → pS N_ K → (if K 40 0 25 = 1 then 0 else pM K) < n := fun K a b => by have := h11 K a b; omega
  subst er_9
  subst eM_12
  subst er_13
  subst eM_14
  subst eM_21
  apply h12 <;> grind [pJ_must, pG_must, pS_must, pJ_num, pG_num, pJ_re, pG_re, pS_re, pJ_I, pJ_F, pN_must, pN_numberTo, pN_readEntry, pS_G, pN]
theorem ob_X11_books_40_inv_21 (nb nn : Nat) (M : xM) (hp0 : 0 ≤ M 40 0 21) (hp1 : M 40 0 21 ≤ 400) (hp2 : ∀ j : Nat, 0 ≤ M 70 0 j) (hp3 : 0 ≤ M 40 0 14) (hp4 : M 40 0 14 ≤ 40) (n : Nat) (N_ : xM) (hmu : (if N_ 40 0 25 = 1 then 0 else pM N_) < n + 1) (hinv : pJ N_ ∧ pN N_) (c_7 : (N_ 40 0 28) = 0) (c_8 : ¬ (N_ 40 0 25) = 1) (r_9 : Int64) (er_9 : r_9 = f_X11_word N_) (c_10 : ¬ (lg_cmp r_9 2003133803) = 0) (M_12 : xM) (eM_12 : M_12 = f_X11_must 0 N_) (r_13 : Int32) (M_14 : xM) (er_13 : r_13 = (f_X11_numberTo 299 M_12).1) (eM_14 : M_14 = (f_X11_numberTo 299 M_12).2) (c_15 : ¬ (M_14 40 0 28) = 0) (more_16 : Int32) (M_17 : xM) (hiv_17 : pJ M_17 ∧ pN M_17 ∧ (more_16 = 0 ∨ M_17 40 0 28 = 0) ∧ pS N_ M_17) (c_18 : (M_17 40 0 28) = 0) (c_19 : ¬ (M_17 40 0 25) = 4) (M_21 : xM) (eM_21 : M_21 = f_X11_must 0 M_17) : pJ M_21 ∧ pN M_21 := by
  subst er_9
  subst eM_12
  subst er_13
  subst eM_14
  subst eM_21
  grind [pJ_must, pG_must, pS_must, pJ_num, pG_num, pJ_re, pG_re, pS_re, pJ_I, pJ_F, pN_must, pN_numberTo, pN_readEntry, pS_G, pN]
theorem ob_X11_books_151_p0_2 (nb nn : Nat) (M : xM) (hp0 : 0 ≤ M 40 0 21) (hp1 : M 40 0 21 ≤ 400) (hp2 : ∀ j : Nat, 0 ≤ M 70 0 j) (hp3 : 0 ≤ M 40 0 14) (hp4 : M 40 0 14 ≤ 40) (n : Nat) (N_ : xM) (hmu : (if N_ 40 0 25 = 1 then 0 else pM N_) < n + 1) (hinv : pJ N_ ∧ pN N_) (c_7 : (N_ 40 0 28) = 0) (c_8 : ¬ (N_ 40 0 25) = 1) (r_9 : Int64) (er_9 : r_9 = f_X11_word N_) (c_10 : ¬ (lg_cmp r_9 2003133803) = 0) (M_12 : xM) (eM_12 : M_12 = f_X11_must 0 N_) (r_13 : Int32) (M_14 : xM) (er_13 : r_13 = (f_X11_numberTo 299 M_12).1) (eM_14 : M_14 = (f_X11_numberTo 299 M_12).2) (c_15 : ¬ (M_14 40 0 28) = 0) (more_16 : Int32) (M_17 : xM) (hiv_17 : pJ M_17 ∧ pN M_17 ∧ (more_16 = 0 ∨ M_17 40 0 28 = 0) ∧ pS N_ M_17) (c_18 : (M_17 40 0 28) = 0) (c_19 : (M_17 40 0 25) = 4) : pI M_17 := by
  subst er_9
  subst eM_12
  subst er_13
  subst eM_14
  grind [pJ_must, pG_must, pS_must, pJ_num, pG_num, pJ_re, pG_re, pS_re, pJ_I, pJ_F, pN_must, pN_numberTo, pN_readEntry, pS_G, pN]
theorem ob_X11_books_40_mu_23 (nb nn : Nat) (M : xM) (hp0 : 0 ≤ M 40 0 21) (hp1 : M 40 0 21 ≤ 400) (hp2 : ∀ j : Nat, 0 ≤ M 70 0 j) (hp3 : 0 ≤ M 40 0 14) (hp4 : M 40 0 14 ≤ 40) (n : Nat) (N_ : xM) (hmu : (if N_ 40 0 25 = 1 then 0 else pM N_) < n + 1) (hinv : pJ N_ ∧ pN N_) (c_7 : (N_ 40 0 28) = 0) (c_8 : ¬ (N_ 40 0 25) = 1) (r_9 : Int64) (er_9 : r_9 = f_X11_word N_) (c_10 : ¬ (lg_cmp r_9 2003133803) = 0) (M_12 : xM) (eM_12 : M_12 = f_X11_must 0 N_) (r_13 : Int32) (M_14 : xM) (er_13 : r_13 = (f_X11_numberTo 299 M_12).1) (eM_14 : M_14 = (f_X11_numberTo 299 M_12).2) (c_15 : ¬ (M_14 40 0 28) = 0) (more_16 : Int32) (M_17 : xM) (hiv_17 : pJ M_17 ∧ pN M_17 ∧ (more_16 = 0 ∨ M_17 40 0 28 = 0) ∧ pS N_ M_17) (c_18 : (M_17 40 0 28) = 0) (c_19 : (M_17 40 0 25) = 4) (M_23 : xM) (eM_23 : M_23 = f_X11_must 1 M_17) : (if M_23 40 0 25 = 1 then 0 else pM M_23) < n := by
  have h7 : ¬ N_ 40 0 25 = 1 := by assumption
  have h8 : N_ 40 0 28 = 0 := by assumption
  rw [if_neg h7] at hmu
  have h10 := pM_pos h8
  have h11 : ∀ K : xM, pJ K → pS N_ K → (if K 40 0 25 = 1 then 0 else pM K) < pM N_ := fun K a b => by
    have := pM_S b a h8
    split <;> omega
  have h12 : ∀ K : xM, pJ K → pS N_ K → (if K 40 0 25 = 1 then 0 else pM K) < n := fun K a b => by have := h11 K a b; omega
  subst er_9
  subst eM_12
  subst er_13
  subst eM_14
  subst eM_23
  apply h12 <;> grind [pJ_must, pG_must, pS_must, pJ_num, pG_num, pJ_re, pG_re, pS_re, pJ_I, pJ_F, pN_must, pN_numberTo, pN_readEntry, pS_G, pN]
theorem ob_X11_books_40_inv_23 (nb nn : Nat) (M : xM) (hp0 : 0 ≤ M 40 0 21) (hp1 : M 40 0 21 ≤ 400) (hp2 : ∀ j : Nat, 0 ≤ M 70 0 j) (hp3 : 0 ≤ M 40 0 14) (hp4 : M 40 0 14 ≤ 40) (n : Nat) (N_ : xM) (hmu : (if N_ 40 0 25 = 1 then 0 else pM N_) < n + 1) (hinv : pJ N_ ∧ pN N_) (c_7 : (N_ 40 0 28) = 0) (c_8 : ¬ (N_ 40 0 25) = 1) (r_9 : Int64) (er_9 : r_9 = f_X11_word N_) (c_10 : ¬ (lg_cmp r_9 2003133803) = 0) (M_12 : xM) (eM_12 : M_12 = f_X11_must 0 N_) (r_13 : Int32) (M_14 : xM) (er_13 : r_13 = (f_X11_numberTo 299 M_12).1) (eM_14 : M_14 = (f_X11_numberTo 299 M_12).2) (c_15 : ¬ (M_14 40 0 28) = 0) (more_16 : Int32) (M_17 : xM) (hiv_17 : pJ M_17 ∧ pN M_17 ∧ (more_16 = 0 ∨ M_17 40 0 28 = 0) ∧ pS N_ M_17) (c_18 : (M_17 40 0 28) = 0) (c_19 : (M_17 40 0 25) = 4) (M_23 : xM) (eM_23 : M_23 = f_X11_must 1 M_17) : pJ M_23 ∧ pN M_23 := by
  subst er_9
  subst eM_12
  subst er_13
  subst eM_14
  subst eM_23
  grind [pJ_must, pG_must, pS_must, pJ_num, pG_num, pJ_re, pG_re, pS_re, pJ_I, pJ_F, pN_must, pN_numberTo, pN_readEntry, pS_G, pN]
theorem ob_X11_books_96_ini_23 (nb nn : Nat) (M : xM) (hp0 : 0 ≤ M 40 0 21) (hp1 : M 40 0 21 ≤ 400) (hp2 : ∀ j : Nat, 0 ≤ M 70 0 j) (hp3 : 0 ≤ M 40 0 14) (hp4 : M 40 0 14 ≤ 40) (n : Nat) (N_ : xM) (hmu : (if N_ 40 0 25 = 1 then 0 else pM N_) < n + 1) (hinv : pJ N_ ∧ pN N_) (c_7 : (N_ 40 0 28) = 0) (c_8 : ¬ (N_ 40 0 25) = 1) (r_9 : Int64) (er_9 : r_9 = f_X11_word N_) (c_10 : ¬ (lg_cmp r_9 2003133803) = 0) (M_12 : xM) (eM_12 : M_12 = f_X11_must 0 N_) (r_13 : Int32) (M_14 : xM) (er_13 : r_13 = (f_X11_numberTo 299 M_12).1) (eM_14 : M_14 = (f_X11_numberTo 299 M_12).2) (c_15 : (M_14 40 0 28) = 0) : pJ M_14 ∧ pN M_14 ∧ ((1 : Int32) = 0 ∨ M_14 40 0 28 = 0) ∧ pS N_ M_14 := by
  subst er_9
  subst eM_12
  subst er_13
  subst eM_14
  grind [pJ_must, pG_must, pS_must, pJ_num, pG_num, pJ_re, pG_re, pS_re, pJ_I, pJ_F, pN_must, pN_numberTo, pN_readEntry, pS_G, pN]
theorem ob_X11_books_40_mu_26 (nb nn : Nat) (M : xM) (hp0 : 0 ≤ M 40 0 21) (hp1 : M 40 0 21 ≤ 400) (hp2 : ∀ j : Nat, 0 ≤ M 70 0 j) (hp3 : 0 ≤ M 40 0 14) (hp4 : M 40 0 14 ≤ 40) (n : Nat) (N_ : xM) (hmu : (if N_ 40 0 25 = 1 then 0 else pM N_) < n + 1) (hinv : pJ N_ ∧ pN N_) (c_7 : (N_ 40 0 28) = 0) (c_8 : ¬ (N_ 40 0 25) = 1) (r_9 : Int64) (er_9 : r_9 = f_X11_word N_) (c_10 : ¬ (lg_cmp r_9 2003133803) = 0) (M_12 : xM) (eM_12 : M_12 = f_X11_must 0 N_) (r_13 : Int32) (M_14 : xM) (er_13 : r_13 = (f_X11_numberTo 299 M_12).1) (eM_14 : M_14 = (f_X11_numberTo 299 M_12).2) (c_15 : (M_14 40 0 28) = 0) (more_24 : Int32) (M_25 : xM) (hiv_25 : pJ M_25 ∧ pN M_25 ∧ (more_24 = 0 ∨ M_25 40 0 28 = 0) ∧ pS N_ M_25) (c_26 : ¬ (M_25 40 0 28) = 0) : (if M_25 40 0 25 = 1 then 0 else pM M_25) < n := by
  have h7 : ¬ N_ 40 0 25 = 1 := by assumption
  have h8 : N_ 40 0 28 = 0 := by assumption
  rw [if_neg h7] at hmu
  have h10 := pM_pos h8
  have h11 : ∀ K : xM, pJ K → pS N_ K → (if K 40 0 25 = 1 then 0 else pM K) < pM N_ := fun K a b => by
    have := pM_S b a h8
    split <;> omega
  have h12 : ∀ K : xM, pJ K → pS N_ K → (if K 40 0 25 = 1 then 0 else pM K) < n := fun K a b => by have := h11 K a b; omega
  subst er_9
  subst eM_12
  subst er_13
  subst eM_14
  apply h12 <;> grind [pJ_must, pG_must, pS_must, pJ_num, pG_num, pJ_re, pG_re, pS_re, pJ_I, pJ_F, pN_must, pN_numberTo, pN_readEntry, pS_G, pN]
theorem ob_X11_books_40_inv_26 (nb nn : Nat) (M : xM) (hp0 : 0 ≤ M 40 0 21) (hp1 : M 40 0 21 ≤ 400) (hp2 : ∀ j : Nat, 0 ≤ M 70 0 j) (hp3 : 0 ≤ M 40 0 14) (hp4 : M 40 0 14 ≤ 40) (n : Nat) (N_ : xM) (hmu : (if N_ 40 0 25 = 1 then 0 else pM N_) < n + 1) (hinv : pJ N_ ∧ pN N_) (c_7 : (N_ 40 0 28) = 0) (c_8 : ¬ (N_ 40 0 25) = 1) (r_9 : Int64) (er_9 : r_9 = f_X11_word N_) (c_10 : ¬ (lg_cmp r_9 2003133803) = 0) (M_12 : xM) (eM_12 : M_12 = f_X11_must 0 N_) (r_13 : Int32) (M_14 : xM) (er_13 : r_13 = (f_X11_numberTo 299 M_12).1) (eM_14 : M_14 = (f_X11_numberTo 299 M_12).2) (c_15 : (M_14 40 0 28) = 0) (more_24 : Int32) (M_25 : xM) (hiv_25 : pJ M_25 ∧ pN M_25 ∧ (more_24 = 0 ∨ M_25 40 0 28 = 0) ∧ pS N_ M_25) (c_26 : ¬ (M_25 40 0 28) = 0) : pJ M_25 ∧ pN M_25 := by
  subst er_9
  subst eM_12
  subst er_13
  subst eM_14
  grind [pJ_must, pG_must, pS_must, pJ_num, pG_num, pJ_re, pG_re, pS_re, pJ_I, pJ_F, pN_must, pN_numberTo, pN_readEntry, pS_G, pN]
theorem ob_X11_books_151_p0_3 (nb nn : Nat) (M : xM) (hp0 : 0 ≤ M 40 0 21) (hp1 : M 40 0 21 ≤ 400) (hp2 : ∀ j : Nat, 0 ≤ M 70 0 j) (hp3 : 0 ≤ M 40 0 14) (hp4 : M 40 0 14 ≤ 40) (n : Nat) (N_ : xM) (hmu : (if N_ 40 0 25 = 1 then 0 else pM N_) < n + 1) (hinv : pJ N_ ∧ pN N_) (c_7 : (N_ 40 0 28) = 0) (c_8 : ¬ (N_ 40 0 25) = 1) (r_9 : Int64) (er_9 : r_9 = f_X11_word N_) (c_10 : ¬ (lg_cmp r_9 2003133803) = 0) (M_12 : xM) (eM_12 : M_12 = f_X11_must 0 N_) (r_13 : Int32) (M_14 : xM) (er_13 : r_13 = (f_X11_numberTo 299 M_12).1) (eM_14 : M_14 = (f_X11_numberTo 299 M_12).2) (c_15 : (M_14 40 0 28) = 0) (more_24 : Int32) (M_25 : xM) (hiv_25 : pJ M_25 ∧ pN M_25 ∧ (more_24 = 0 ∨ M_25 40 0 28 = 0) ∧ pS N_ M_25) (c_26 : (M_25 40 0 28) = 0) (c_27 : ¬ (M_25 40 0 25) = 4) : pI M_25 := by
  subst er_9
  subst eM_12
  subst er_13
  subst eM_14
  grind [pJ_must, pG_must, pS_must, pJ_num, pG_num, pJ_re, pG_re, pS_re, pJ_I, pJ_F, pN_must, pN_numberTo, pN_readEntry, pS_G, pN]
theorem ob_X11_books_40_mu_29 (nb nn : Nat) (M : xM) (hp0 : 0 ≤ M 40 0 21) (hp1 : M 40 0 21 ≤ 400) (hp2 : ∀ j : Nat, 0 ≤ M 70 0 j) (hp3 : 0 ≤ M 40 0 14) (hp4 : M 40 0 14 ≤ 40) (n : Nat) (N_ : xM) (hmu : (if N_ 40 0 25 = 1 then 0 else pM N_) < n + 1) (hinv : pJ N_ ∧ pN N_) (c_7 : (N_ 40 0 28) = 0) (c_8 : ¬ (N_ 40 0 25) = 1) (r_9 : Int64) (er_9 : r_9 = f_X11_word N_) (c_10 : ¬ (lg_cmp r_9 2003133803) = 0) (M_12 : xM) (eM_12 : M_12 = f_X11_must 0 N_) (r_13 : Int32) (M_14 : xM) (er_13 : r_13 = (f_X11_numberTo 299 M_12).1) (eM_14 : M_14 = (f_X11_numberTo 299 M_12).2) (c_15 : (M_14 40 0 28) = 0) (more_24 : Int32) (M_25 : xM) (hiv_25 : pJ M_25 ∧ pN M_25 ∧ (more_24 = 0 ∨ M_25 40 0 28 = 0) ∧ pS N_ M_25) (c_26 : (M_25 40 0 28) = 0) (c_27 : ¬ (M_25 40 0 25) = 4) (M_29 : xM) (eM_29 : M_29 = f_X11_must 0 M_25) : (if M_29 40 0 25 = 1 then 0 else pM M_29) < n := by
  have h7 : ¬ N_ 40 0 25 = 1 := by assumption
  have h8 : N_ 40 0 28 = 0 := by assumption
  rw [if_neg h7] at hmu
  have h10 := pM_pos h8
  have h11 : ∀ K : xM, pJ K → pS N_ K → (if K 40 0 25 = 1 then 0 else pM K) < pM N_ := fun K a b => by
    have := pM_S b a h8
    split <;> omega
  have h12 : ∀ K : xM, pJ K → pS N_ K → (if K 40 0 25 = 1 then 0 else pM K) < n := fun K a b => by have := h11 K a b; omega
  subst er_9
  subst eM_12
  subst er_13
  subst eM_14
  subst eM_29
  apply h12 <;> grind [pJ_must, pG_must, pS_must, pJ_num, pG_num, pJ_re, pG_re, pS_re, pJ_I, pJ_F, pN_must, pN_numberTo, pN_readEntry, pS_G, pN]
theorem ob_X11_books_40_inv_29 (nb nn : Nat) (M : xM) (hp0 : 0 ≤ M 40 0 21) (hp1 : M 40 0 21 ≤ 400) (hp2 : ∀ j : Nat, 0 ≤ M 70 0 j) (hp3 : 0 ≤ M 40 0 14) (hp4 : M 40 0 14 ≤ 40) (n : Nat) (N_ : xM) (hmu : (if N_ 40 0 25 = 1 then 0 else pM N_) < n + 1) (hinv : pJ N_ ∧ pN N_) (c_7 : (N_ 40 0 28) = 0) (c_8 : ¬ (N_ 40 0 25) = 1) (r_9 : Int64) (er_9 : r_9 = f_X11_word N_) (c_10 : ¬ (lg_cmp r_9 2003133803) = 0) (M_12 : xM) (eM_12 : M_12 = f_X11_must 0 N_) (r_13 : Int32) (M_14 : xM) (er_13 : r_13 = (f_X11_numberTo 299 M_12).1) (eM_14 : M_14 = (f_X11_numberTo 299 M_12).2) (c_15 : (M_14 40 0 28) = 0) (more_24 : Int32) (M_25 : xM) (hiv_25 : pJ M_25 ∧ pN M_25 ∧ (more_24 = 0 ∨ M_25 40 0 28 = 0) ∧ pS N_ M_25) (c_26 : (M_25 40 0 28) = 0) (c_27 : ¬ (M_25 40 0 25) = 4) (M_29 : xM) (eM_29 : M_29 = f_X11_must 0 M_25) : pJ M_29 ∧ pN M_29 := by
  subst er_9
  subst eM_12
  subst er_13
  subst eM_14
  subst eM_29
  grind [pJ_must, pG_must, pS_must, pJ_num, pG_num, pJ_re, pG_re, pS_re, pJ_I, pJ_F, pN_must, pN_numberTo, pN_readEntry, pS_G, pN]
theorem ob_X11_books_151_p0_4 (nb nn : Nat) (M : xM) (hp0 : 0 ≤ M 40 0 21) (hp1 : M 40 0 21 ≤ 400) (hp2 : ∀ j : Nat, 0 ≤ M 70 0 j) (hp3 : 0 ≤ M 40 0 14) (hp4 : M 40 0 14 ≤ 40) (n : Nat) (N_ : xM) (hmu : (if N_ 40 0 25 = 1 then 0 else pM N_) < n + 1) (hinv : pJ N_ ∧ pN N_) (c_7 : (N_ 40 0 28) = 0) (c_8 : ¬ (N_ 40 0 25) = 1) (r_9 : Int64) (er_9 : r_9 = f_X11_word N_) (c_10 : ¬ (lg_cmp r_9 2003133803) = 0) (M_12 : xM) (eM_12 : M_12 = f_X11_must 0 N_) (r_13 : Int32) (M_14 : xM) (er_13 : r_13 = (f_X11_numberTo 299 M_12).1) (eM_14 : M_14 = (f_X11_numberTo 299 M_12).2) (c_15 : (M_14 40 0 28) = 0) (more_24 : Int32) (M_25 : xM) (hiv_25 : pJ M_25 ∧ pN M_25 ∧ (more_24 = 0 ∨ M_25 40 0 28 = 0) ∧ pS N_ M_25) (c_26 : (M_25 40 0 28) = 0) (c_27 : (M_25 40 0 25) = 4) : pI M_25 := by
  subst er_9
  subst eM_12
  subst er_13
  subst eM_14
  grind [pJ_must, pG_must, pS_must, pJ_num, pG_num, pJ_re, pG_re, pS_re, pJ_I, pJ_F, pN_must, pN_numberTo, pN_readEntry, pS_G, pN]
theorem ob_X11_books_40_mu_31 (nb nn : Nat) (M : xM) (hp0 : 0 ≤ M 40 0 21) (hp1 : M 40 0 21 ≤ 400) (hp2 : ∀ j : Nat, 0 ≤ M 70 0 j) (hp3 : 0 ≤ M 40 0 14) (hp4 : M 40 0 14 ≤ 40) (n : Nat) (N_ : xM) (hmu : (if N_ 40 0 25 = 1 then 0 else pM N_) < n + 1) (hinv : pJ N_ ∧ pN N_) (c_7 : (N_ 40 0 28) = 0) (c_8 : ¬ (N_ 40 0 25) = 1) (r_9 : Int64) (er_9 : r_9 = f_X11_word N_) (c_10 : ¬ (lg_cmp r_9 2003133803) = 0) (M_12 : xM) (eM_12 : M_12 = f_X11_must 0 N_) (r_13 : Int32) (M_14 : xM) (er_13 : r_13 = (f_X11_numberTo 299 M_12).1) (eM_14 : M_14 = (f_X11_numberTo 299 M_12).2) (c_15 : (M_14 40 0 28) = 0) (more_24 : Int32) (M_25 : xM) (hiv_25 : pJ M_25 ∧ pN M_25 ∧ (more_24 = 0 ∨ M_25 40 0 28 = 0) ∧ pS N_ M_25) (c_26 : (M_25 40 0 28) = 0) (c_27 : (M_25 40 0 25) = 4) (M_31 : xM) (eM_31 : M_31 = f_X11_must 1 M_25) : (if M_31 40 0 25 = 1 then 0 else pM M_31) < n := by
  have h7 : ¬ N_ 40 0 25 = 1 := by assumption
  have h8 : N_ 40 0 28 = 0 := by assumption
  rw [if_neg h7] at hmu
  have h10 := pM_pos h8
  have h11 : ∀ K : xM, pJ K → pS N_ K → (if K 40 0 25 = 1 then 0 else pM K) < pM N_ := fun K a b => by
    have := pM_S b a h8
    split <;> omega
  have h12 : ∀ K : xM, pJ K → pS N_ K → (if K 40 0 25 = 1 then 0 else pM K) < n := fun K a b => by have := h11 K a b; omega
  subst er_9
  subst eM_12
  subst er_13
  subst eM_14
  subst eM_31
  apply h12 <;> grind [pJ_must, pG_must, pS_must, pJ_num, pG_num, pJ_re, pG_re, pS_re, pJ_I, pJ_F, pN_must, pN_numberTo, pN_readEntry, pS_G, pN]
theorem ob_X11_books_40_inv_31 (nb nn : Nat) (M : xM) (hp0 : 0 ≤ M 40 0 21) (hp1 : M 40 0 21 ≤ 400) (hp2 : ∀ j : Nat, 0 ≤ M 70 0 j) (hp3 : 0 ≤ M 40 0 14) (hp4 : M 40 0 14 ≤ 40) (n : Nat) (N_ : xM) (hmu : (if N_ 40 0 25 = 1 then 0 else pM N_) < n + 1) (hinv : pJ N_ ∧ pN N_) (c_7 : (N_ 40 0 28) = 0) (c_8 : ¬ (N_ 40 0 25) = 1) (r_9 : Int64) (er_9 : r_9 = f_X11_word N_) (c_10 : ¬ (lg_cmp r_9 2003133803) = 0) (M_12 : xM) (eM_12 : M_12 = f_X11_must 0 N_) (r_13 : Int32) (M_14 : xM) (er_13 : r_13 = (f_X11_numberTo 299 M_12).1) (eM_14 : M_14 = (f_X11_numberTo 299 M_12).2) (c_15 : (M_14 40 0 28) = 0) (more_24 : Int32) (M_25 : xM) (hiv_25 : pJ M_25 ∧ pN M_25 ∧ (more_24 = 0 ∨ M_25 40 0 28 = 0) ∧ pS N_ M_25) (c_26 : (M_25 40 0 28) = 0) (c_27 : (M_25 40 0 25) = 4) (M_31 : xM) (eM_31 : M_31 = f_X11_must 1 M_25) : pJ M_31 ∧ pN M_31 := by
  subst er_9
  subst eM_12
  subst er_13
  subst eM_14
  subst eM_31
  grind [pJ_must, pG_must, pS_must, pJ_num, pG_num, pJ_re, pG_re, pS_re, pJ_I, pJ_F, pN_must, pN_numberTo, pN_readEntry, pS_G, pN]
theorem ob_X11_books_72_p0_2 (nb nn : Nat) (M : xM) (hp0 : 0 ≤ M 40 0 21) (hp1 : M 40 0 21 ≤ 400) (hp2 : ∀ j : Nat, 0 ≤ M 70 0 j) (hp3 : 0 ≤ M 40 0 14) (hp4 : M 40 0 14 ≤ 40) (n : Nat) (N_ : xM) (hmu : (if N_ 40 0 25 = 1 then 0 else pM N_) < n + 1) (hinv : pJ N_ ∧ pN N_) (c_7 : (N_ 40 0 28) = 0) (c_8 : ¬ (N_ 40 0 25) = 1) (r_9 : Int64) (er_9 : r_9 = f_X11_word N_) (c_10 : (lg_cmp r_9 2003133803) = 0) : pI N_ := by
  subst er_9
  grind [pJ_must, pG_must, pS_must, pJ_num, pG_num, pJ_re, pG_re, pS_re, pJ_I, pJ_F, pN_must, pN_numberTo, pN_readEntry, pS_G, pN]
theorem ob_X11_books_79_p0_2 (nb nn : Nat) (M : xM) (hp0 : 0 ≤ M 40 0 21) (hp1 : M 40 0 21 ≤ 400) (hp2 : ∀ j : Nat, 0 ≤ M 70 0 j) (hp3 : 0 ≤ M 40 0 14) (hp4 : M 40 0 14 ≤ 40) (n : Nat) (N_ : xM) (hmu : (if N_ 40 0 25 = 1 then 0 else pM N_) < n + 1) (hinv : pJ N_ ∧ pN N_) (c_7 : (N_ 40 0 28) = 0) (c_8 : ¬ (N_ 40 0 25) = 1) (r_9 : Int64) (er_9 : r_9 = f_X11_word N_) (c_10 : (lg_cmp r_9 2003133803) = 0) (M_33 : xM) (eM_33 : M_33 = f_X11_must 1 N_) : pI M_33 := by
  subst er_9
  subst eM_33
  grind [pJ_must, pG_must, pS_must, pJ_num, pG_num, pJ_re, pG_re, pS_re, pJ_I, pJ_F, pN_must, pN_numberTo, pN_readEntry, pS_G, pN]
theorem ob_X11_books_96_ini_36 (nb nn : Nat) (M : xM) (hp0 : 0 ≤ M 40 0 21) (hp1 : M 40 0 21 ≤ 400) (hp2 : ∀ j : Nat, 0 ≤ M 70 0 j) (hp3 : 0 ≤ M 40 0 14) (hp4 : M 40 0 14 ≤ 40) (n : Nat) (N_ : xM) (hmu : (if N_ 40 0 25 = 1 then 0 else pM N_) < n + 1) (hinv : pJ N_ ∧ pN N_) (c_7 : (N_ 40 0 28) = 0) (c_8 : ¬ (N_ 40 0 25) = 1) (r_9 : Int64) (er_9 : r_9 = f_X11_word N_) (c_10 : (lg_cmp r_9 2003133803) = 0) (M_33 : xM) (eM_33 : M_33 = f_X11_must 1 N_) (r_34 : Int32) (M_35 : xM) (er_34 : r_34 = (f_X11_numberTo 299 M_33).1) (eM_35 : M_35 = (f_X11_numberTo 299 M_33).2) (c_36 : ¬ (M_35 40 0 28) = 0) : pJ M_35 ∧ pN M_35 ∧ ((0 : Int32) = 0 ∨ M_35 40 0 28 = 0) ∧ pS N_ M_35 := by
  subst er_9
  subst eM_33
  subst er_34
  subst eM_35
  grind [pJ_must, pG_must, pS_must, pJ_num, pG_num, pJ_re, pG_re, pS_re, pJ_I, pJ_F, pN_must, pN_numberTo, pN_readEntry, pS_G, pN]
theorem ob_X11_books_40_mu_39 (nb nn : Nat) (M : xM) (hp0 : 0 ≤ M 40 0 21) (hp1 : M 40 0 21 ≤ 400) (hp2 : ∀ j : Nat, 0 ≤ M 70 0 j) (hp3 : 0 ≤ M 40 0 14) (hp4 : M 40 0 14 ≤ 40) (n : Nat) (N_ : xM) (hmu : (if N_ 40 0 25 = 1 then 0 else pM N_) < n + 1) (hinv : pJ N_ ∧ pN N_) (c_7 : (N_ 40 0 28) = 0) (c_8 : ¬ (N_ 40 0 25) = 1) (r_9 : Int64) (er_9 : r_9 = f_X11_word N_) (c_10 : (lg_cmp r_9 2003133803) = 0) (M_33 : xM) (eM_33 : M_33 = f_X11_must 1 N_) (r_34 : Int32) (M_35 : xM) (er_34 : r_34 = (f_X11_numberTo 299 M_33).1) (eM_35 : M_35 = (f_X11_numberTo 299 M_33).2) (c_36 : ¬ (M_35 40 0 28) = 0) (more_37 : Int32) (M_38 : xM) (hiv_38 : pJ M_38 ∧ pN M_38 ∧ (more_37 = 0 ∨ M_38 40 0 28 = 0) ∧ pS N_ M_38) (c_39 : ¬ (M_38 40 0 28) = 0) : (if M_38 40 0 25 = 1 then 0 else pM M_38) < n := by
  have h7 : ¬ N_ 40 0 25 = 1 := by assumption
  have h8 : N_ 40 0 28 = 0 := by assumption
  rw [if_neg h7] at hmu
  have h10 := pM_pos h8
  have h11 : ∀ K : xM, pJ K → pS N_ K → (if K 40 0 25 = 1 then 0 else pM K) < pM N_ := fun K a b => by
    have := pM_S b a h8
    split <;> omega
  have h12 : ∀ K : xM, pJ K → pS N_ K → (if K 40 0 25 = 1 then 0 else pM K) < n := fun K a b => by have := h11 K a b; omega
  subst er_9
  subst eM_33
  subst er_34
  subst eM_35
  apply h12 <;> grind [pJ_must, pG_must, pS_must, pJ_num, pG_num, pJ_re, pG_re, pS_re, pJ_I, pJ_F, pN_must, pN_numberTo, pN_readEntry, pS_G, pN]
theorem ob_X11_books_40_inv_39 (nb nn : Nat) (M : xM) (hp0 : 0 ≤ M 40 0 21) (hp1 : M 40 0 21 ≤ 400) (hp2 : ∀ j : Nat, 0 ≤ M 70 0 j) (hp3 : 0 ≤ M 40 0 14) (hp4 : M 40 0 14 ≤ 40) (n : Nat) (N_ : xM) (hmu : (if N_ 40 0 25 = 1 then 0 else pM N_) < n + 1) (hinv : pJ N_ ∧ pN N_) (c_7 : (N_ 40 0 28) = 0) (c_8 : ¬ (N_ 40 0 25) = 1) (r_9 : Int64) (er_9 : r_9 = f_X11_word N_) (c_10 : (lg_cmp r_9 2003133803) = 0) (M_33 : xM) (eM_33 : M_33 = f_X11_must 1 N_) (r_34 : Int32) (M_35 : xM) (er_34 : r_34 = (f_X11_numberTo 299 M_33).1) (eM_35 : M_35 = (f_X11_numberTo 299 M_33).2) (c_36 : ¬ (M_35 40 0 28) = 0) (more_37 : Int32) (M_38 : xM) (hiv_38 : pJ M_38 ∧ pN M_38 ∧ (more_37 = 0 ∨ M_38 40 0 28 = 0) ∧ pS N_ M_38) (c_39 : ¬ (M_38 40 0 28) = 0) : pJ M_38 ∧ pN M_38 := by
  subst er_9
  subst eM_33
  subst er_34
  subst eM_35
  grind [pJ_must, pG_must, pS_must, pJ_num, pG_num, pJ_re, pG_re, pS_re, pJ_I, pJ_F, pN_must, pN_numberTo, pN_readEntry, pS_G, pN]
theorem ob_X11_books_151_p0_5 (nb nn : Nat) (M : xM) (hp0 : 0 ≤ M 40 0 21) (hp1 : M 40 0 21 ≤ 400) (hp2 : ∀ j : Nat, 0 ≤ M 70 0 j) (hp3 : 0 ≤ M 40 0 14) (hp4 : M 40 0 14 ≤ 40) (n : Nat) (N_ : xM) (hmu : (if N_ 40 0 25 = 1 then 0 else pM N_) < n + 1) (hinv : pJ N_ ∧ pN N_) (c_7 : (N_ 40 0 28) = 0) (c_8 : ¬ (N_ 40 0 25) = 1) (r_9 : Int64) (er_9 : r_9 = f_X11_word N_) (c_10 : (lg_cmp r_9 2003133803) = 0) (M_33 : xM) (eM_33 : M_33 = f_X11_must 1 N_) (r_34 : Int32) (M_35 : xM) (er_34 : r_34 = (f_X11_numberTo 299 M_33).1) (eM_35 : M_35 = (f_X11_numberTo 299 M_33).2) (c_36 : ¬ (M_35 40 0 28) = 0) (more_37 : Int32) (M_38 : xM) (hiv_38 : pJ M_38 ∧ pN M_38 ∧ (more_37 = 0 ∨ M_38 40 0 28 = 0) ∧ pS N_ M_38) (c_39 : (M_38 40 0 28) = 0) (c_40 : ¬ (M_38 40 0 25) = 4) : pI M_38 := by
  subst er_9
  subst eM_33
  subst er_34
  subst eM_35
  grind [pJ_must, pG_must, pS_must, pJ_num, pG_num, pJ_re, pG_re, pS_re, pJ_I, pJ_F, pN_must, pN_numberTo, pN_readEntry, pS_G, pN]
theorem ob_X11_books_40_mu_42 (nb nn : Nat) (M : xM) (hp0 : 0 ≤ M 40 0 21) (hp1 : M 40 0 21 ≤ 400) (hp2 : ∀ j : Nat, 0 ≤ M 70 0 j) (hp3 : 0 ≤ M 40 0 14) (hp4 : M 40 0 14 ≤ 40) (n : Nat) (N_ : xM) (hmu : (if N_ 40 0 25 = 1 then 0 else pM N_) < n + 1) (hinv : pJ N_ ∧ pN N_) (c_7 : (N_ 40 0 28) = 0) (c_8 : ¬ (N_ 40 0 25) = 1) (r_9 : Int64) (er_9 : r_9 = f_X11_word N_) (c_10 : (lg_cmp r_9 2003133803) = 0) (M_33 : xM) (eM_33 : M_33 = f_X11_must 1 N_) (r_34 : Int32) (M_35 : xM) (er_34 : r_34 = (f_X11_numberTo 299 M_33).1) (eM_35 : M_35 = (f_X11_numberTo 299 M_33).2) (c_36 : ¬ (M_35 40 0 28) = 0) (more_37 : Int32) (M_38 : xM) (hiv_38 : pJ M_38 ∧ pN M_38 ∧ (more_37 = 0 ∨ M_38 40 0 28 = 0) ∧ pS N_ M_38) (c_39 : (M_38 40 0 28) = 0) (c_40 : ¬ (M_38 40 0 25) = 4) (M_42 : xM) (eM_42 : M_42 = f_X11_must 0 M_38) : (if M_42 40 0 25 = 1 then 0 else pM M_42) < n := by
  have h7 : ¬ N_ 40 0 25 = 1 := by assumption
  have h8 : N_ 40 0 28 = 0 := by assumption
  rw [if_neg h7] at hmu
  have h10 := pM_pos h8
  have h11 : ∀ K : xM, pJ K → pS N_ K → (if K 40 0 25 = 1 then 0 else pM K) < pM N_ := fun K a b => by
    have := pM_S b a h8
    split <;> omega
  have h12 : ∀ K : xM, pJ K → pS N_ K → (if K 40 0 25 = 1 then 0 else pM K) < n := fun K a b => by have := h11 K a b; omega
  subst er_9
  subst eM_33
  subst er_34
  subst eM_35
  subst eM_42
  apply h12 <;> grind [pJ_must, pG_must, pS_must, pJ_num, pG_num, pJ_re, pG_re, pS_re, pJ_I, pJ_F, pN_must, pN_numberTo, pN_readEntry, pS_G, pN]
theorem ob_X11_books_40_inv_42 (nb nn : Nat) (M : xM) (hp0 : 0 ≤ M 40 0 21) (hp1 : M 40 0 21 ≤ 400) (hp2 : ∀ j : Nat, 0 ≤ M 70 0 j) (hp3 : 0 ≤ M 40 0 14) (hp4 : M 40 0 14 ≤ 40) (n : Nat) (N_ : xM) (hmu : (if N_ 40 0 25 = 1 then 0 else pM N_) < n + 1) (hinv : pJ N_ ∧ pN N_) (c_7 : (N_ 40 0 28) = 0) (c_8 : ¬ (N_ 40 0 25) = 1) (r_9 : Int64) (er_9 : r_9 = f_X11_word N_) (c_10 : (lg_cmp r_9 2003133803) = 0) (M_33 : xM) (eM_33 : M_33 = f_X11_must 1 N_) (r_34 : Int32) (M_35 : xM) (er_34 : r_34 = (f_X11_numberTo 299 M_33).1) (eM_35 : M_35 = (f_X11_numberTo 299 M_33).2) (c_36 : ¬ (M_35 40 0 28) = 0) (more_37 : Int32) (M_38 : xM) (hiv_38 : pJ M_38 ∧ pN M_38 ∧ (more_37 = 0 ∨ M_38 40 0 28 = 0) ∧ pS N_ M_38) (c_39 : (M_38 40 0 28) = 0) (c_40 : ¬ (M_38 40 0 25) = 4) (M_42 : xM) (eM_42 : M_42 = f_X11_must 0 M_38) : pJ M_42 ∧ pN M_42 := by
  subst er_9
  subst eM_33
  subst er_34
  subst eM_35
  subst eM_42
  grind [pJ_must, pG_must, pS_must, pJ_num, pG_num, pJ_re, pG_re, pS_re, pJ_I, pJ_F, pN_must, pN_numberTo, pN_readEntry, pS_G, pN]
theorem ob_X11_books_151_p0_6 (nb nn : Nat) (M : xM) (hp0 : 0 ≤ M 40 0 21) (hp1 : M 40 0 21 ≤ 400) (hp2 : ∀ j : Nat, 0 ≤ M 70 0 j) (hp3 : 0 ≤ M 40 0 14) (hp4 : M 40 0 14 ≤ 40) (n : Nat) (N_ : xM) (hmu : (if N_ 40 0 25 = 1 then 0 else pM N_) < n + 1) (hinv : pJ N_ ∧ pN N_) (c_7 : (N_ 40 0 28) = 0) (c_8 : ¬ (N_ 40 0 25) = 1) (r_9 : Int64) (er_9 : r_9 = f_X11_word N_) (c_10 : (lg_cmp r_9 2003133803) = 0) (M_33 : xM) (eM_33 : M_33 = f_X11_must 1 N_) (r_34 : Int32) (M_35 : xM) (er_34 : r_34 = (f_X11_numberTo 299 M_33).1) (eM_35 : M_35 = (f_X11_numberTo 299 M_33).2) (c_36 : ¬ (M_35 40 0 28) = 0) (more_37 : Int32) (M_38 : xM) (hiv_38 : pJ M_38 ∧ pN M_38 ∧ (more_37 = 0 ∨ M_38 40 0 28 = 0) ∧ pS N_ M_38) (c_39 : (M_38 40 0 28) = 0) (c_40 : (M_38 40 0 25) = 4) : pI M_38 := by
  subst er_9
  subst eM_33
  subst er_34
  subst eM_35
  grind [pJ_must, pG_must, pS_must, pJ_num, pG_num, pJ_re, pG_re, pS_re, pJ_I, pJ_F, pN_must, pN_numberTo, pN_readEntry, pS_G, pN]
theorem ob_X11_books_40_mu_44 (nb nn : Nat) (M : xM) (hp0 : 0 ≤ M 40 0 21) (hp1 : M 40 0 21 ≤ 400) (hp2 : ∀ j : Nat, 0 ≤ M 70 0 j) (hp3 : 0 ≤ M 40 0 14) (hp4 : M 40 0 14 ≤ 40) (n : Nat) (N_ : xM) (hmu : (if N_ 40 0 25 = 1 then 0 else pM N_) < n + 1) (hinv : pJ N_ ∧ pN N_) (c_7 : (N_ 40 0 28) = 0) (c_8 : ¬ (N_ 40 0 25) = 1) (r_9 : Int64) (er_9 : r_9 = f_X11_word N_) (c_10 : (lg_cmp r_9 2003133803) = 0) (M_33 : xM) (eM_33 : M_33 = f_X11_must 1 N_) (r_34 : Int32) (M_35 : xM) (er_34 : r_34 = (f_X11_numberTo 299 M_33).1) (eM_35 : M_35 = (f_X11_numberTo 299 M_33).2) (c_36 : ¬ (M_35 40 0 28) = 0) (more_37 : Int32) (M_38 : xM) (hiv_38 : pJ M_38 ∧ pN M_38 ∧ (more_37 = 0 ∨ M_38 40 0 28 = 0) ∧ pS N_ M_38) (c_39 : (M_38 40 0 28) = 0) (c_40 : (M_38 40 0 25) = 4) (M_44 : xM) (eM_44 : M_44 = f_X11_must 1 M_38) : (if M_44 40 0 25 = 1 then 0 else pM M_44) < n := by
  have h7 : ¬ N_ 40 0 25 = 1 := by assumption
  have h8 : N_ 40 0 28 = 0 := by assumption
  rw [if_neg h7] at hmu
  have h10 := pM_pos h8
  have h11 : ∀ K : xM, pJ K → pS N_ K → (if K 40 0 25 = 1 then 0 else pM K) < pM N_ := fun K a b => by
    have := pM_S b a h8
    split <;> omega
  have h12 : ∀ K : xM, pJ K → pS N_ K → (if K 40 0 25 = 1 then 0 else pM K) < n := fun K a b => by have := h11 K a b; omega
  subst er_9
  subst eM_33
  subst er_34
  subst eM_35
  subst eM_44
  apply h12 <;> grind [pJ_must, pG_must, pS_must, pJ_num, pG_num, pJ_re, pG_re, pS_re, pJ_I, pJ_F, pN_must, pN_numberTo, pN_readEntry, pS_G, pN]
theorem ob_X11_books_40_inv_44 (nb nn : Nat) (M : xM) (hp0 : 0 ≤ M 40 0 21) (hp1 : M 40 0 21 ≤ 400) (hp2 : ∀ j : Nat, 0 ≤ M 70 0 j) (hp3 : 0 ≤ M 40 0 14) (hp4 : M 40 0 14 ≤ 40) (n : Nat) (N_ : xM) (hmu : (if N_ 40 0 25 = 1 then 0 else pM N_) < n + 1) (hinv : pJ N_ ∧ pN N_) (c_7 : (N_ 40 0 28) = 0) (c_8 : ¬ (N_ 40 0 25) = 1) (r_9 : Int64) (er_9 : r_9 = f_X11_word N_) (c_10 : (lg_cmp r_9 2003133803) = 0) (M_33 : xM) (eM_33 : M_33 = f_X11_must 1 N_) (r_34 : Int32) (M_35 : xM) (er_34 : r_34 = (f_X11_numberTo 299 M_33).1) (eM_35 : M_35 = (f_X11_numberTo 299 M_33).2) (c_36 : ¬ (M_35 40 0 28) = 0) (more_37 : Int32) (M_38 : xM) (hiv_38 : pJ M_38 ∧ pN M_38 ∧ (more_37 = 0 ∨ M_38 40 0 28 = 0) ∧ pS N_ M_38) (c_39 : (M_38 40 0 28) = 0) (c_40 : (M_38 40 0 25) = 4) (M_44 : xM) (eM_44 : M_44 = f_X11_must 1 M_38) : pJ M_44 ∧ pN M_44 := by
  subst er_9
  subst eM_33
  subst er_34
  subst eM_35
  subst eM_44
  grind [pJ_must, pG_must, pS_must, pJ_num, pG_num, pJ_re, pG_re, pS_re, pJ_I, pJ_F, pN_must, pN_numberTo, pN_readEntry, pS_G, pN]
theorem ob_X11_books_96_ini_44 (nb nn : Nat) (M : xM) (hp0 : 0 ≤ M 40 0 21) (hp1 : M 40 0 21 ≤ 400) (hp2 : ∀ j : Nat, 0 ≤ M 70 0 j) (hp3 : 0 ≤ M 40 0 14) (hp4 : M 40 0 14 ≤ 40) (n : Nat) (N_ : xM) (hmu : (if N_ 40 0 25 = 1 then 0 else pM N_) < n + 1) (hinv : pJ N_ ∧ pN N_) (c_7 : (N_ 40 0 28) = 0) (c_8 : ¬ (N_ 40 0 25) = 1) (r_9 : Int64) (er_9 : r_9 = f_X11_word N_) (c_10 : (lg_cmp r_9 2003133803) = 0) (M_33 : xM) (eM_33 : M_33 = f_X11_must 1 N_) (r_34 : Int32) (M_35 : xM) (er_34 : r_34 = (f_X11_numberTo 299 M_33).1) (eM_35 : M_35 = (f_X11_numberTo 299 M_33).2) (c_36 : (M_35 40 0 28) = 0) : pJ M_35 ∧ pN M_35 ∧ ((1 : Int32) = 0 ∨ M_35 40 0 28 = 0) ∧ pS N_ M_35 := by
  subst er_9
  subst eM_33
  subst er_34
  subst eM_35
  grind [pJ_must, pG_must, pS_must, pJ_num, pG_num, pJ_re, pG_re, pS_re, pJ_I, pJ_F, pN_must, pN_numberTo, pN_readEntry, pS_G, pN]
theorem ob_X11_books_40_mu_47 (nb nn : Nat) (M : xM) (hp0 : 0 ≤ M 40 0 21) (hp1 : M 40 0 21 ≤ 400) (hp2 : ∀ j : Nat, 0 ≤ M 70 0 j) (hp3 : 0 ≤ M 40 0 14) (hp4 : M 40 0 14 ≤ 40) (n : Nat) (N_ : xM) (hmu : (if N_ 40 0 25 = 1 then 0 else pM N_) < n + 1) (hinv : pJ N_ ∧ pN N_) (c_7 : (N_ 40 0 28) = 0) (c_8 : ¬ (N_ 40 0 25) = 1) (r_9 : Int64) (er_9 : r_9 = f_X11_word N_) (c_10 : (lg_cmp r_9 2003133803) = 0) (M_33 : xM) (eM_33 : M_33 = f_X11_must 1 N_) (r_34 : Int32) (M_35 : xM) (er_34 : r_34 = (f_X11_numberTo 299 M_33).1) (eM_35 : M_35 = (f_X11_numberTo 299 M_33).2) (c_36 : (M_35 40 0 28) = 0) (more_45 : Int32) (M_46 : xM) (hiv_46 : pJ M_46 ∧ pN M_46 ∧ (more_45 = 0 ∨ M_46 40 0 28 = 0) ∧ pS N_ M_46) (c_47 : ¬ (M_46 40 0 28) = 0) : (if M_46 40 0 25 = 1 then 0 else pM M_46) < n := by
  have h7 : ¬ N_ 40 0 25 = 1 := by assumption
  have h8 : N_ 40 0 28 = 0 := by assumption
  rw [if_neg h7] at hmu
  have h10 := pM_pos h8
  have h11 : ∀ K : xM, pJ K → pS N_ K → (if K 40 0 25 = 1 then 0 else pM K) < pM N_ := fun K a b => by
    have := pM_S b a h8
    split <;> omega
  have h12 : ∀ K : xM, pJ K → pS N_ K → (if K 40 0 25 = 1 then 0 else pM K) < n := fun K a b => by have := h11 K a b; omega
  subst er_9
  subst eM_33
  subst er_34
  subst eM_35
  apply h12 <;> grind [pJ_must, pG_must, pS_must, pJ_num, pG_num, pJ_re, pG_re, pS_re, pJ_I, pJ_F, pN_must, pN_numberTo, pN_readEntry, pS_G, pN]
theorem ob_X11_books_40_inv_47 (nb nn : Nat) (M : xM) (hp0 : 0 ≤ M 40 0 21) (hp1 : M 40 0 21 ≤ 400) (hp2 : ∀ j : Nat, 0 ≤ M 70 0 j) (hp3 : 0 ≤ M 40 0 14) (hp4 : M 40 0 14 ≤ 40) (n : Nat) (N_ : xM) (hmu : (if N_ 40 0 25 = 1 then 0 else pM N_) < n + 1) (hinv : pJ N_ ∧ pN N_) (c_7 : (N_ 40 0 28) = 0) (c_8 : ¬ (N_ 40 0 25) = 1) (r_9 : Int64) (er_9 : r_9 = f_X11_word N_) (c_10 : (lg_cmp r_9 2003133803) = 0) (M_33 : xM) (eM_33 : M_33 = f_X11_must 1 N_) (r_34 : Int32) (M_35 : xM) (er_34 : r_34 = (f_X11_numberTo 299 M_33).1) (eM_35 : M_35 = (f_X11_numberTo 299 M_33).2) (c_36 : (M_35 40 0 28) = 0) (more_45 : Int32) (M_46 : xM) (hiv_46 : pJ M_46 ∧ pN M_46 ∧ (more_45 = 0 ∨ M_46 40 0 28 = 0) ∧ pS N_ M_46) (c_47 : ¬ (M_46 40 0 28) = 0) : pJ M_46 ∧ pN M_46 := by
  subst er_9
  subst eM_33
  subst er_34
  subst eM_35
  grind [pJ_must, pG_must, pS_must, pJ_num, pG_num, pJ_re, pG_re, pS_re, pJ_I, pJ_F, pN_must, pN_numberTo, pN_readEntry, pS_G, pN]
theorem ob_X11_books_151_p0_7 (nb nn : Nat) (M : xM) (hp0 : 0 ≤ M 40 0 21) (hp1 : M 40 0 21 ≤ 400) (hp2 : ∀ j : Nat, 0 ≤ M 70 0 j) (hp3 : 0 ≤ M 40 0 14) (hp4 : M 40 0 14 ≤ 40) (n : Nat) (N_ : xM) (hmu : (if N_ 40 0 25 = 1 then 0 else pM N_) < n + 1) (hinv : pJ N_ ∧ pN N_) (c_7 : (N_ 40 0 28) = 0) (c_8 : ¬ (N_ 40 0 25) = 1) (r_9 : Int64) (er_9 : r_9 = f_X11_word N_) (c_10 : (lg_cmp r_9 2003133803) = 0) (M_33 : xM) (eM_33 : M_33 = f_X11_must 1 N_) (r_34 : Int32) (M_35 : xM) (er_34 : r_34 = (f_X11_numberTo 299 M_33).1) (eM_35 : M_35 = (f_X11_numberTo 299 M_33).2) (c_36 : (M_35 40 0 28) = 0) (more_45 : Int32) (M_46 : xM) (hiv_46 : pJ M_46 ∧ pN M_46 ∧ (more_45 = 0 ∨ M_46 40 0 28 = 0) ∧ pS N_ M_46) (c_47 : (M_46 40 0 28) = 0) (c_48 : ¬ (M_46 40 0 25) = 4) : pI M_46 := by
  subst er_9
  subst eM_33
  subst er_34
  subst eM_35
  grind [pJ_must, pG_must, pS_must, pJ_num, pG_num, pJ_re, pG_re, pS_re, pJ_I, pJ_F, pN_must, pN_numberTo, pN_readEntry, pS_G, pN]
theorem ob_X11_books_40_mu_50 (nb nn : Nat) (M : xM) (hp0 : 0 ≤ M 40 0 21) (hp1 : M 40 0 21 ≤ 400) (hp2 : ∀ j : Nat, 0 ≤ M 70 0 j) (hp3 : 0 ≤ M 40 0 14) (hp4 : M 40 0 14 ≤ 40) (n : Nat) (N_ : xM) (hmu : (if N_ 40 0 25 = 1 then 0 else pM N_) < n + 1) (hinv : pJ N_ ∧ pN N_) (c_7 : (N_ 40 0 28) = 0) (c_8 : ¬ (N_ 40 0 25) = 1) (r_9 : Int64) (er_9 : r_9 = f_X11_word N_) (c_10 : (lg_cmp r_9 2003133803) = 0) (M_33 : xM) (eM_33 : M_33 = f_X11_must 1 N_) (r_34 : Int32) (M_35 : xM) (er_34 : r_34 = (f_X11_numberTo 299 M_33).1) (eM_35 : M_35 = (f_X11_numberTo 299 M_33).2) (c_36 : (M_35 40 0 28) = 0) (more_45 : Int32) (M_46 : xM) (hiv_46 : pJ M_46 ∧ pN M_46 ∧ (more_45 = 0 ∨ M_46 40 0 28 = 0) ∧ pS N_ M_46) (c_47 : (M_46 40 0 28) = 0) (c_48 : ¬ (M_46 40 0 25) = 4) (M_50 : xM) (eM_50 : M_50 = f_X11_must 0 M_46) : (if M_50 40 0 25 = 1 then 0 else pM M_50) < n := by
  have h7 : ¬ N_ 40 0 25 = 1 := by assumption
  have h8 : N_ 40 0 28 = 0 := by assumption
  rw [if_neg h7] at hmu
  have h10 := pM_pos h8
  have h11 : ∀ K : xM, pJ K → pS N_ K → (if K 40 0 25 = 1 then 0 else pM K) < pM N_ := fun K a b => by
    have := pM_S b a h8
    split <;> omega
  have h12 : ∀ K : xM, pJ K → pS N_ K → (if K 40 0 25 = 1 then 0 else pM K) < n := fun K a b => by have := h11 K a b; omega
  subst er_9
  subst eM_33
  subst er_34
  subst eM_35
  subst eM_50
  apply h12 <;> grind [pJ_must, pG_must, pS_must, pJ_num, pG_num, pJ_re, pG_re, pS_re, pJ_I, pJ_F, pN_must, pN_numberTo, pN_readEntry, pS_G, pN]
theorem ob_X11_books_40_inv_50 (nb nn : Nat) (M : xM) (hp0 : 0 ≤ M 40 0 21) (hp1 : M 40 0 21 ≤ 400) (hp2 : ∀ j : Nat, 0 ≤ M 70 0 j) (hp3 : 0 ≤ M 40 0 14) (hp4 : M 40 0 14 ≤ 40) (n : Nat) (N_ : xM) (hmu : (if N_ 40 0 25 = 1 then 0 else pM N_) < n + 1) (hinv : pJ N_ ∧ pN N_) (c_7 : (N_ 40 0 28) = 0) (c_8 : ¬ (N_ 40 0 25) = 1) (r_9 : Int64) (er_9 : r_9 = f_X11_word N_) (c_10 : (lg_cmp r_9 2003133803) = 0) (M_33 : xM) (eM_33 : M_33 = f_X11_must 1 N_) (r_34 : Int32) (M_35 : xM) (er_34 : r_34 = (f_X11_numberTo 299 M_33).1) (eM_35 : M_35 = (f_X11_numberTo 299 M_33).2) (c_36 : (M_35 40 0 28) = 0) (more_45 : Int32) (M_46 : xM) (hiv_46 : pJ M_46 ∧ pN M_46 ∧ (more_45 = 0 ∨ M_46 40 0 28 = 0) ∧ pS N_ M_46) (c_47 : (M_46 40 0 28) = 0) (c_48 : ¬ (M_46 40 0 25) = 4) (M_50 : xM) (eM_50 : M_50 = f_X11_must 0 M_46) : pJ M_50 ∧ pN M_50 := by
  subst er_9
  subst eM_33
  subst er_34
  subst eM_35
  subst eM_50
  grind [pJ_must, pG_must, pS_must, pJ_num, pG_num, pJ_re, pG_re, pS_re, pJ_I, pJ_F, pN_must, pN_numberTo, pN_readEntry, pS_G, pN]
theorem ob_X11_books_151_p0_8 (nb nn : Nat) (M : xM) (hp0 : 0 ≤ M 40 0 21) (hp1 : M 40 0 21 ≤ 400) (hp2 : ∀ j : Nat, 0 ≤ M 70 0 j) (hp3 : 0 ≤ M 40 0 14) (hp4 : M 40 0 14 ≤ 40) (n : Nat) (N_ : xM) (hmu : (if N_ 40 0 25 = 1 then 0 else pM N_) < n + 1) (hinv : pJ N_ ∧ pN N_) (c_7 : (N_ 40 0 28) = 0) (c_8 : ¬ (N_ 40 0 25) = 1) (r_9 : Int64) (er_9 : r_9 = f_X11_word N_) (c_10 : (lg_cmp r_9 2003133803) = 0) (M_33 : xM) (eM_33 : M_33 = f_X11_must 1 N_) (r_34 : Int32) (M_35 : xM) (er_34 : r_34 = (f_X11_numberTo 299 M_33).1) (eM_35 : M_35 = (f_X11_numberTo 299 M_33).2) (c_36 : (M_35 40 0 28) = 0) (more_45 : Int32) (M_46 : xM) (hiv_46 : pJ M_46 ∧ pN M_46 ∧ (more_45 = 0 ∨ M_46 40 0 28 = 0) ∧ pS N_ M_46) (c_47 : (M_46 40 0 28) = 0) (c_48 : (M_46 40 0 25) = 4) : pI M_46 := by
  subst er_9
  subst eM_33
  subst er_34
  subst eM_35
  grind [pJ_must, pG_must, pS_must, pJ_num, pG_num, pJ_re, pG_re, pS_re, pJ_I, pJ_F, pN_must, pN_numberTo, pN_readEntry, pS_G, pN]
theorem ob_X11_books_40_mu_52 (nb nn : Nat) (M : xM) (hp0 : 0 ≤ M 40 0 21) (hp1 : M 40 0 21 ≤ 400) (hp2 : ∀ j : Nat, 0 ≤ M 70 0 j) (hp3 : 0 ≤ M 40 0 14) (hp4 : M 40 0 14 ≤ 40) (n : Nat) (N_ : xM) (hmu : (if N_ 40 0 25 = 1 then 0 else pM N_) < n + 1) (hinv : pJ N_ ∧ pN N_) (c_7 : (N_ 40 0 28) = 0) (c_8 : ¬ (N_ 40 0 25) = 1) (r_9 : Int64) (er_9 : r_9 = f_X11_word N_) (c_10 : (lg_cmp r_9 2003133803) = 0) (M_33 : xM) (eM_33 : M_33 = f_X11_must 1 N_) (r_34 : Int32) (M_35 : xM) (er_34 : r_34 = (f_X11_numberTo 299 M_33).1) (eM_35 : M_35 = (f_X11_numberTo 299 M_33).2) (c_36 : (M_35 40 0 28) = 0) (more_45 : Int32) (M_46 : xM) (hiv_46 : pJ M_46 ∧ pN M_46 ∧ (more_45 = 0 ∨ M_46 40 0 28 = 0) ∧ pS N_ M_46) (c_47 : (M_46 40 0 28) = 0) (c_48 : (M_46 40 0 25) = 4) (M_52 : xM) (eM_52 : M_52 = f_X11_must 1 M_46) : (if M_52 40 0 25 = 1 then 0 else pM M_52) < n := by
  have h7 : ¬ N_ 40 0 25 = 1 := by assumption
  have h8 : N_ 40 0 28 = 0 := by assumption
  rw [if_neg h7] at hmu
  have h10 := pM_pos h8
  have h11 : ∀ K : xM, pJ K → pS N_ K → (if K 40 0 25 = 1 then 0 else pM K) < pM N_ := fun K a b => by
    have := pM_S b a h8
    split <;> omega
  have h12 : ∀ K : xM, pJ K → pS N_ K → (if K 40 0 25 = 1 then 0 else pM K) < n := fun K a b => by have := h11 K a b; omega
  subst er_9
  subst eM_33
  subst er_34
  subst eM_35
  subst eM_52
  apply h12 <;> grind [pJ_must, pG_must, pS_must, pJ_num, pG_num, pJ_re, pG_re, pS_re, pJ_I, pJ_F, pN_must, pN_numberTo, pN_readEntry, pS_G, pN]
theorem ob_X11_books_40_inv_52 (nb nn : Nat) (M : xM) (hp0 : 0 ≤ M 40 0 21) (hp1 : M 40 0 21 ≤ 400) (hp2 : ∀ j : Nat, 0 ≤ M 70 0 j) (hp3 : 0 ≤ M 40 0 14) (hp4 : M 40 0 14 ≤ 40) (n : Nat) (N_ : xM) (hmu : (if N_ 40 0 25 = 1 then 0 else pM N_) < n + 1) (hinv : pJ N_ ∧ pN N_) (c_7 : (N_ 40 0 28) = 0) (c_8 : ¬ (N_ 40 0 25) = 1) (r_9 : Int64) (er_9 : r_9 = f_X11_word N_) (c_10 : (lg_cmp r_9 2003133803) = 0) (M_33 : xM) (eM_33 : M_33 = f_X11_must 1 N_) (r_34 : Int32) (M_35 : xM) (er_34 : r_34 = (f_X11_numberTo 299 M_33).1) (eM_35 : M_35 = (f_X11_numberTo 299 M_33).2) (c_36 : (M_35 40 0 28) = 0) (more_45 : Int32) (M_46 : xM) (hiv_46 : pJ M_46 ∧ pN M_46 ∧ (more_45 = 0 ∨ M_46 40 0 28 = 0) ∧ pS N_ M_46) (c_47 : (M_46 40 0 28) = 0) (c_48 : (M_46 40 0 25) = 4) (M_52 : xM) (eM_52 : M_52 = f_X11_must 1 M_46) : pJ M_52 ∧ pN M_52 := by
  subst er_9
  subst eM_33
  subst er_34
  subst eM_35
  subst eM_52
  grind [pJ_must, pG_must, pS_must, pJ_num, pG_num, pJ_re, pG_re, pS_re, pJ_I, pJ_F, pN_must, pN_numberTo, pN_readEntry, pS_G, pN]
theorem ob_X11_books_37_p0 (nb nn : Nat) (M : xM) (hp0 : 0 ≤ M 40 0 21) (hp1 : M 40 0 21 ≤ 400) (hp2 : ∀ j : Nat, 0 ≤ M 70 0 j) (hp3 : 0 ≤ M 40 0 14) (hp4 : M 40 0 14 ≤ 40) (M_53 : xM) (eM_53 : M_53 = xup M 40 0 0 0) (v_54 : Int32) (ev_54 : v_54 = (M_53 40 0 21)) (M_55 : xM) (eM_55 : M_55 = xup M_53 40 0 23 v_54) (M_56 : xM) (eM_56 : M_56 = xup M_55 40 0 21 0) (M_57 : xM) (eM_57 : M_57 = xup M_56 40 0 24 0) (M_58 : xM) (eM_58 : M_58 = xup M_57 40 0 28 0) (v_59 : Int32) (ev_59 : v_59 = (M_58 40 0 14)) (M_60 : xM) (eM_60 : M_60 = xup M_58 40 0 19 v_59) : 0 ≤ M_60 40 0 24 ∧ M_60 40 0 24 ≤ M_60 40 0 23 ∧ M_60 40 0 23 ≤ 400 := by
  subst eM_53
  subst ev_54
  subst eM_55
  subst eM_56
  subst eM_57
  subst eM_58
  subst ev_59
  subst eM_60
  simp [xup_at]
  grind
theorem ob_X11_books_40_ini_62 (nb nn : Nat) (M : xM) (hp0 : 0 ≤ M 40 0 21) (hp1 : M 40 0 21 ≤ 400) (hp2 : ∀ j : Nat, 0 ≤ M 70 0 j) (hp3 : 0 ≤ M 40 0 14) (hp4 : M 40 0 14 ≤ 40) (M_53 : xM) (eM_53 : M_53 = xup M 40 0 0 0) (v_54 : Int32) (ev_54 : v_54 = (M_53 40 0 21)) (M_55 : xM) (eM_55 : M_55 = xup M_53 40 0 23 v_54) (M_56 : xM) (eM_56 : M_56 = xup M_55 40 0 21 0) (M_57 : xM) (eM_57 : M_57 = xup M_56 40 0 24 0) (M_58 : xM) (eM_58 : M_58 = xup M_57 40 0 28 0) (v_59 : Int32) (ev_59 : v_59 = (M_58 40 0 14)) (M_60 : xM) (eM_60 : M_60 = xup M_58 40 0 19 v_59) (M_62 : xM) (eM_62 : M_62 = f_X11_step M_60) : pJ M_62 ∧ pN M_62 := by
  subst eM_53
  subst ev_54
  subst eM_55
  subst eM_56
  subst eM_57
  subst eM_58
  subst ev_59
  subst eM_60
  subst eM_62
  refine ⟨step_J0 (by simp [xup_at]) (by simp [xup_at]; exact hp0) (by simp [xup_at]; exact hp1) (by intro j; simp [xup_at]; exact hp2 j) (by simp [xup_at]), ?_⟩
  unfold pN
  rw [n_step (by intro j; simp [xup_at]; exact hp2 j) (by omega)]
  simp [xup_at]
  exact ⟨hp3, hp4⟩
set_option maxHeartbeats 4000000 in
set_option maxRecDepth 100000 in
theorem c_X11_books (l : Launch) (nb nn : Nat) (g : xG) (L : List (Nat × Nat)) (M : xM) (hD : xD g L) (hL : xEL nb nn L)  (hp0 : 0 ≤ M 40 0 21) (hp1 : M 40 0 21 ≤ 400) (hp2 : ∀ j : Nat, 0 ≤ M 70 0 j) (hp3 : 0 ≤ M 40 0 14) (hp4 : M 40 0 14 ≤ 40) : xCi l yX11_books cX11_books 3 (some .int) 5 g L M [.ref (xad g 40 0)] (fun r u => (r, u) = f_X11_books  M) := by
  intro sz
  refine x_beg (by decide +kernel) rfl ?_
  intro p e s m args below meth c ls hsz hB
  subst hsz
  obtain ⟨hx, hb, hml, hown, hts, hr, hlk, hK, hAm, hP, hl⟩ := hB
  have S : CallFix p m c cX11_books 3 s args (xws yX11_books cX11_books 3 (some .int)) RX11 := ⟨hx, hb, hml, hown, hts⟩
  have hown : s.vm.findClass RX11 = some m.cls := hown
  have hl : lv_has ls 3 [(0, .ref (xad g 40 0))] := hl
  have hS : va_S (xA g L s.heap.size) s.heap s.heap [] := va_S.rf
  obtain ⟨F, hF⟩ : ∃ F, F = f_X11_books  M := ⟨_, rfl⟩
  have k_96 : ∀ (G : xM) (w : Int32) (n : Nat) (more : Int32) (N_ : xM) (H : Heap) (locs : List Loc) (ls : Array Slot) (kx : (Int32 → xM → Int32 × xM)), (if more = 0 then 0 else pM N_) < n → pJ N_ ∧ pN N_ ∧ (more = 0 ∨ N_ 40 0 28 = 0) ∧ pS G N_ → F = f_X11_books_L96  w n more N_ kx → xP g L N_ H → va_S (xA g L s.heap.size) s.heap H locs → lv_has ls 3 [(0, .ref (xad g 40 0)), (1, .int w), (2, .int more)] → (∀ (more : Int32) (N_ : xM) (H : Heap) (locs : List Loc) (ls : Array Slot), pJ N_ ∧ pN N_ ∧ (more = 0 ∨ N_ 40 0 28 = 0) ∧ pS G N_ → F = kx more N_ → xP g L N_ H → va_S (xA g L s.heap.size) s.heap H locs → lv_has ls 3 [(0, .ref (xad g 40 0)), (1, .int w), (2, .int more)] → W p l e (xr 5) s m args below meth c H locs 0 0 (MQ below (va_Qi (fun r u => (r, u) = f_X11_books  M) (xPost g L) (xA g L s.heap.size)) args s 0 0 (xA g L s.heap.size)) (F0 m 130 ls [])) → W p l e (xr 5) s m args below meth c H locs 0 0 (MQ below (va_Qi (fun r u => (r, u) = f_X11_books  M) (xPost g L) (xA g L s.heap.size)) args s 0 0 (xA g L s.heap.size)) (F0 m 96 ls []) := by
    intro G w n
    induction n with
    | zero => intro more N_ H locs ls kx hmu; exact absurd hmu (Nat.not_lt_zero _)
    | succ n ih =>
      intro more N_ H locs ls kx hmu hinv hres hP hS hl hex
      replace hres : F = _ := hres.trans (by rw [f_X11_books_L96])
      refine lv_iload_n hx hb dX11_books_96 rfl (lv_at hl 2 rfl) ?_
      refine lv_if_eq (tgt := 130) hx hb dX11_books_97 (by decide) (fun c_1 => ?_) (fun c_1 => ?_)
      · replace hres := hres.trans (if_pos c_1)
        exact hex more N_ _ _ _ (ob_X11_books_130_x96 nb nn M hp0 hp1 hp2 hp3 hp4 G w n more N_ hmu hinv c_1) hres hP hS (lv_sub hl [0, 1, 2] rfl)
      · replace hres := hres.trans (if_neg c_1)
        refine lv_aload_n hx hb dX11_books_100 rfl (lv_at hl 0 rfl) ?_
        refine lv_iload_n hx hb dX11_books_101 rfl (lv_at hl 1 rfl) ?_
        refine x_callVv (As := [.int w]) S hK hAm hD hP hS mt_X11_readEntry wd_602 ⟨by decide, by decide⟩ (hL 40 0 (xe_40 nb nn)) (xc40 g 0) rfl (c_X11_readEntry l nb nn g L N_ hD hL w (ob_X11_books_102_p0 nb nn M hp0 hp1 hp2 hp3 hp4 G w n more N_ hmu hinv c_1) (ob_X11_books_102_p1 nb nn M hp0 hp1 hp2 hp3 hp4 G w n more N_ hmu hinv c_1) (ob_X11_books_102_p2 nb nn M hp0 hp1 hp2 hp3 hp4 G w n more N_ hmu hinv c_1) (ob_X11_books_102_p3 nb nn M hp0 hp1 hp2 hp3 hp4 G w n more N_ hmu hinv c_1)) rfl hl.1 (Nat.le_of_ble_eq_true rfl) ⟨Nat.zero_le _, Nat.zero_le _⟩ dX11_books_102 rfl (fun M_3 H locs eM_3 hP hS => ?_)
        replace hres := xlet_n hres eM_3
        refine lv_aload_n hx hb dX11_books_105 rfl (lv_at hl 0 rfl) ?_
        refine gf_RX11_199 hx hb hts hown hK hP (hL 40 0 (xe_40 nb nn)) dX11_books_106 ?_
        refine lv_if_ne (tgt := 125) hx hb dX11_books_109 (by decide) (fun c_4 => ?_) (fun c_4 => ?_)
        · replace hres := hres.trans (if_neg c_4)
          refine lv_iconst (v := 0) hx hb dX11_books_125 (by decide) ?_
          refine lv_istore_n (lv' := [(2, .int 0), (0, .ref (xad g 40 0)), (1, .int w)]) hx hb dX11_books_126 rfl hl (by decide) rfl (fun ls hl => ?_)
          refine lv_goto (tgt := 96) hx hb dX11_books_127 (by decide) ?_
          exact ih (0 : Int32) M_3 _ _ _ kx (ob_X11_books_96_mu_4 nb nn M hp0 hp1 hp2 hp3 hp4 G w n more N_ hmu hinv c_1 M_3 eM_3 c_4) (ob_X11_books_96_inv_4 nb nn M hp0 hp1 hp2 hp3 hp4 G w n more N_ hmu hinv c_1 M_3 eM_3 c_4) hres hP hS (lv_sub hl [1, 2, 0] rfl) hex
        · replace hres := hres.trans (if_pos c_4)
          refine lv_aload_n hx hb dX11_books_112 rfl (lv_at hl 0 rfl) ?_
          refine x_callVi (As := []) S hK hAm hD hP hS mt_X11_entryOfWord wd_606 ⟨by decide, by decide⟩ (hL 40 0 (xe_40 nb nn)) (xc40 g 0) rfl (c_X11_entryOfWord l nb nn g L M_3 hD hL  (ob_X11_books_113_p0 nb nn M hp0 hp1 hp2 hp3 hp4 G w n more N_ hmu hinv c_1 M_3 eM_3 c_4)) rfl hl.1 (Nat.le_of_ble_eq_true rfl) ⟨Nat.zero_le _, Nat.zero_le _⟩ dX11_books_113 rfl (fun r_5 u H locs hp_ hP hS => ?_)
          obtain ⟨er_5, eu_⟩ := hp_
          rw [eu_] at hP
          clear eu_
          replace hres := xlet_n hres er_5
          refine lv_ldc (own := RX11) (v := (-1000000)) hx hb hown (hts _ (List.mem_cons_of_mem _ wd_302)) dX11_books_116 ?_
          refine lv_icmp_eq (tgt := 125) hx hb dX11_books_118 (by decide) (fun c_6 => ?_) (fun c_6 => ?_)
          · replace hres := hres.trans (if_pos c_6)
            refine lv_iconst (v := 0) hx hb dX11_books_125 (by decide) ?_
            refine lv_istore_n (lv' := [(2, .int 0), (0, .ref (xad g 40 0)), (1, .int w)]) hx hb dX11_books_126 rfl hl (by decide) rfl (fun ls hl => ?_)
            refine lv_goto (tgt := 96) hx hb dX11_books_127 (by decide) ?_
            exact ih (0 : Int32) M_3 _ _ _ kx (ob_X11_books_96_mu_6 nb nn M hp0 hp1 hp2 hp3 hp4 G w n more N_ hmu hinv c_1 M_3 eM_3 c_4 r_5 er_5 c_6) (ob_X11_books_96_inv_6 nb nn M hp0 hp1 hp2 hp3 hp4 G w n more N_ hmu hinv c_1 M_3 eM_3 c_4 r_5 er_5 c_6) hres hP hS (lv_sub hl [1, 2, 0] rfl) hex
          · replace hres := hres.trans (if_neg c_6)
            refine lv_iconst (v := 1) hx hb dX11_books_121 (by decide) ?_
            refine lv_goto (tgt := 126) hx hb dX11_books_122 (by decide) ?_
            refine lv_istore_n (lv' := [(2, .int 1), (0, .ref (xad g 40 0)), (1, .int w)]) hx hb dX11_books_126 rfl hl (by decide) rfl (fun ls hl => ?_)
            refine lv_goto (tgt := 96) hx hb dX11_books_127 (by decide) ?_
            exact ih (1 : Int32) M_3 _ _ _ kx (ob_X11_books_96_mu_6_2 nb nn M hp0 hp1 hp2 hp3 hp4 G w n more N_ hmu hinv c_1 M_3 eM_3 c_4 r_5 er_5 c_6) (ob_X11_books_96_inv_6_2 nb nn M hp0 hp1 hp2 hp3 hp4 G w n more N_ hmu hinv c_1 M_3 eM_3 c_4 r_5 er_5 c_6) hres hP hS (lv_sub hl [1, 2, 0] rfl) hex
  have k_40 : ∀ (n : Nat)  (N_ : xM) (H : Heap) (locs : List Loc) (ls : Array Slot) (kx : (xM → Int32 × xM)), (if N_ 40 0 25 = 1 then 0 else pM N_) < n → pJ N_ ∧ pN N_ → F = f_X11_books_L40  n N_ kx → xP g L N_ H → va_S (xA g L s.heap.size) s.heap H locs → lv_has ls 3 [(0, .ref (xad g 40 0))] → (∀  (N_ : xM) (H : Heap) (locs : List Loc) (ls : Array Slot), pJ N_ ∧ pN N_ → F = kx N_ → xP g L N_ H → va_S (xA g L s.heap.size) s.heap H locs → lv_has ls 3 [(0, .ref (xad g 40 0))] → W p l e (xr 5) s m args below meth c H locs 0 0 (MQ below (va_Qi (fun r u => (r, u) = f_X11_books  M) (xPost g L) (xA g L s.heap.size)) args s 0 0 (xA g L s.heap.size)) (F0 m 157 ls [])) → W p l e (xr 5) s m args below meth c H locs 0 0 (MQ below (va_Qi (fun r u => (r, u) = f_X11_books  M) (xPost g L) (xA g L s.heap.size)) args s 0 0 (xA g L s.heap.size)) (F0 m 40 ls []) := by
    intro n
    induction n with
    | zero => intro N_ H locs ls kx hmu; exact absurd hmu (Nat.not_lt_zero _)
    | succ n ih =>
      intro N_ H locs ls kx hmu hinv hres hP hS hl hex
      replace hres : F = _ := hres.trans (by rw [f_X11_books_L40])
      refine lv_aload_n hx hb dX11_books_40 rfl (lv_at hl 0 rfl) ?_
      refine gf_RX11_199 hx hb hts hown hK hP (hL 40 0 (xe_40 nb nn)) dX11_books_41 ?_
      refine lv_if_ne (tgt := 157) hx hb dX11_books_44 (by decide) (fun c_7 => ?_) (fun c_7 => ?_)
      · replace hres := hres.trans (if_neg c_7)
        exact hex  N_ _ _ _ (ob_X11_books_157_x40 nb nn M hp0 hp1 hp2 hp3 hp4 n N_ hmu hinv c_7) hres hP hS (lv_sub hl [0] rfl)
      · replace hres := hres.trans (if_pos c_7)
        refine lv_aload_n hx hb dX11_books_47 rfl (lv_at hl 0 rfl) ?_
        refine gf_RX11_187 hx hb hts hown hK hP (hL 40 0 (xe_40 nb nn)) dX11_books_48 ?_
        refine lv_iconst (v := 1) hx hb dX11_books_51 (by decide) ?_
        refine lv_icmp_eq (tgt := 157) hx hb dX11_books_52 (by decide) (fun c_8 => ?_) (fun c_8 => ?_)
        · replace hres := hres.trans (if_pos c_8)
          exact hex  N_ _ _ _ (ob_X11_books_157_x40_2 nb nn M hp0 hp1 hp2 hp3 hp4 n N_ hmu hinv c_7 c_8) hres hP hS (lv_sub hl [0] rfl)
        · replace hres := hres.trans (if_neg c_8)
          refine lv_aload_n hx hb dX11_books_55 rfl (lv_at hl 0 rfl) ?_
          refine lv_aload_n hx hb dX11_books_56 rfl (lv_at hl 0 rfl) ?_
          refine x_callVl (As := []) S hK hAm hD hP hS mt_X11_word wd_586 ⟨by decide, by decide⟩ (hL 40 0 (xe_40 nb nn)) (xc40 g 0) rfl (c_X11_word l nb nn g L N_ hD hL  (ob_X11_books_57_p0 nb nn M hp0 hp1 hp2 hp3 hp4 n N_ hmu hinv c_7 c_8)) rfl hl.1 (Nat.le_of_ble_eq_true rfl) ⟨Nat.zero_le _, Nat.zero_le _⟩ dX11_books_57 rfl (fun r_9 u H locs hp_ hP hS => ?_)
          obtain ⟨er_9, eu_⟩ := hp_
          rw [eu_] at hP
          clear eu_
          replace hres := xlet_n hres er_9
          refine lv_ldc2 (own := RX11) (v := 2003133803) hx hb hown (hts _ (List.mem_cons_of_mem _ wd_566)) dX11_books_60 ?_
          refine W.lcmp hx hb dX11_books_63 ?_
          refine lv_if_ne (tgt := 71) hx hb dX11_books_64 (by decide) (fun c_10 => ?_) (fun c_10 => ?_)
          · replace hres := hres.trans (if_neg c_10)
            refine lv_iconst (v := 0) hx hb dX11_books_71 (by decide) ?_
            refine x_callVv (As := [.int 0]) S hK hAm hD hP hS mt_X11_must wd_590 ⟨by decide, by decide⟩ (hL 40 0 (xe_40 nb nn)) (xc40 g 0) rfl (c_X11_must l nb nn g L N_ hD hL 0 (ob_X11_books_72_p0 nb nn M hp0 hp1 hp2 hp3 hp4 n N_ hmu hinv c_7 c_8 r_9 er_9 c_10)) rfl hl.1 (Nat.le_of_ble_eq_true rfl) ⟨Nat.zero_le _, Nat.zero_le _⟩ dX11_books_72 rfl (fun M_12 H locs eM_12 hP hS => ?_)
            replace hres := xlet_n hres eM_12
            refine lv_aload_n hx hb dX11_books_75 rfl (lv_at hl 0 rfl) ?_
            refine lv_sipush (v := 299) hx hb dX11_books_76 (by decide) ?_
            refine x_callVi (As := [.int 299]) S hK hAm hD hP hS mt_X11_numberTo wd_598 ⟨by decide, by decide⟩ (hL 40 0 (xe_40 nb nn)) (xc40 g 0) rfl (c_X11_numberTo l nb nn g L M_12 hD hL 299 (ob_X11_books_79_p0 nb nn M hp0 hp1 hp2 hp3 hp4 n N_ hmu hinv c_7 c_8 r_9 er_9 c_10 M_12 eM_12)) rfl hl.1 (Nat.le_of_ble_eq_true rfl) ⟨Nat.zero_le _, Nat.zero_le _⟩ dX11_books_79 rfl (fun r_13 M_14 H locs ep_ hP hS => ?_)
            replace hres := xlet2_n hres ep_
            have er_13 : r_13 = (f_X11_numberTo 299 M_12).1 := congrArg Prod.fst ep_
            have eM_14 : M_14 = (f_X11_numberTo 299 M_12).2 := congrArg Prod.snd ep_
            clear ep_
            refine lv_istore_n (lv' := [(1, .int r_13), (0, .ref (xad g 40 0))]) hx hb dX11_books_82 rfl hl (by decide) rfl (fun ls hl => ?_)
            refine lv_aload_n hx hb dX11_books_83 rfl (lv_at hl 1 rfl) ?_
            refine gf_RX11_199 hx hb hts hown hK hP (hL 40 0 (xe_40 nb nn)) dX11_books_84 ?_
            refine lv_if_ne (tgt := 94) hx hb dX11_books_87 (by decide) (fun c_15 => ?_) (fun c_15 => ?_)
            · replace hres := hres.trans (if_neg c_15)
              refine lv_iconst (v := 0) hx hb dX11_books_94 (by decide) ?_
              refine lv_istore_n (lv' := [(2, .int 0), (1, .int r_13), (0, .ref (xad g 40 0))]) hx hb dX11_books_95 rfl hl (by decide) rfl (fun ls hl => ?_)
              refine k_96 N_ r_13 ((if (0 : Int32) = 0 then 0 else pM M_14) + 1) (0 : Int32) M_14 _ _ _ _ (Nat.lt_succ_self _) (ob_X11_books_96_ini_15 nb nn M hp0 hp1 hp2 hp3 hp4 n N_ hmu hinv c_7 c_8 r_9 er_9 c_10 M_12 eM_12 r_13 M_14 er_13 eM_14 c_15) hres hP hS (lv_sub hl [2, 1, 0] rfl) ?_
              clear hres hP hS hl
              intro more_16 M_17 H locs ls hiv_17 hres hP hS hl
              refine lv_aload_n hx hb dX11_books_130 rfl (lv_at hl 0 rfl) ?_
              refine gf_RX11_199 hx hb hts hown hK hP (hL 40 0 (xe_40 nb nn)) dX11_books_131 ?_
              refine lv_if_ne (tgt := 154) hx hb dX11_books_134 (by decide) (fun c_18 => ?_) (fun c_18 => ?_)
              · replace hres := hres.trans (if_neg c_18)
                refine lv_goto (tgt := 40) hx hb dX11_books_154 (by decide) ?_
                exact ih  M_17 _ _ _ kx (ob_X11_books_40_mu_18 nb nn M hp0 hp1 hp2 hp3 hp4 n N_ hmu hinv c_7 c_8 r_9 er_9 c_10 M_12 eM_12 r_13 M_14 er_13 eM_14 c_15 more_16 M_17 hiv_17 c_18) (ob_X11_books_40_inv_18 nb nn M hp0 hp1 hp2 hp3 hp4 n N_ hmu hinv c_7 c_8 r_9 er_9 c_10 M_12 eM_12 r_13 M_14 er_13 eM_14 c_15 more_16 M_17 hiv_17 c_18) hres hP hS (lv_sub hl [0] rfl) hex
              · replace hres := hres.trans (if_pos c_18)
                refine lv_aload_n hx hb dX11_books_137 rfl (lv_at hl 0 rfl) ?_
                refine lv_aload_n hx hb dX11_books_138 rfl (lv_at hl 0 rfl) ?_
                refine gf_RX11_187 hx hb hts hown hK hP (hL 40 0 (xe_40 nb nn)) dX11_books_139 ?_
                refine lv_iconst (v := 4) hx hb dX11_books_142 (by decide) ?_
                refine lv_icmp_ne (tgt := 150) hx hb dX11_books_143 (by decide) (fun c_19 => ?_) (fun c_19 => ?_)
                · replace hres := hres.trans (if_neg c_19)
                  refine lv_iconst (v := 0) hx hb dX11_books_150 (by decide) ?_
                  refine x_callVv (As := [.int 0]) S hK hAm hD hP hS mt_X11_must wd_590 ⟨by decide, by decide⟩ (hL 40 0 (xe_40 nb nn)) (xc40 g 0) rfl (c_X11_must l nb nn g L M_17 hD hL 0 (ob_X11_books_151_p0 nb nn M hp0 hp1 hp2 hp3 hp4 n N_ hmu hinv c_7 c_8 r_9 er_9 c_10 M_12 eM_12 r_13 M_14 er_13 eM_14 c_15 more_16 M_17 hiv_17 c_18 c_19)) rfl hl.1 (Nat.le_of_ble_eq_true rfl) ⟨Nat.zero_le _, Nat.zero_le _⟩ dX11_books_151 rfl (fun M_21 H locs eM_21 hP hS => ?_)
                  replace hres := xlet_n hres eM_21
                  refine lv_goto (tgt := 40) hx hb dX11_books_154 (by decide) ?_
                  exact ih  M_21 _ _ _ kx (ob_X11_books_40_mu_21 nb nn M hp0 hp1 hp2 hp3 hp4 n N_ hmu hinv c_7 c_8 r_9 er_9 c_10 M_12 eM_12 r_13 M_14 er_13 eM_14 c_15 more_16 M_17 hiv_17 c_18 c_19 M_21 eM_21) (ob_X11_books_40_inv_21 nb nn M hp0 hp1 hp2 hp3 hp4 n N_ hmu hinv c_7 c_8 r_9 er_9 c_10 M_12 eM_12 r_13 M_14 er_13 eM_14 c_15 more_16 M_17 hiv_17 c_18 c_19 M_21 eM_21) hres hP hS (lv_sub hl [0] rfl) hex
                · replace hres := hres.trans (if_pos c_19)
                  refine lv_iconst (v := 1) hx hb dX11_books_146 (by decide) ?_
                  refine lv_goto (tgt := 151) hx hb dX11_books_147 (by decide) ?_
                  refine x_callVv (As := [.int 1]) S hK hAm hD hP hS mt_X11_must wd_590 ⟨by decide, by decide⟩ (hL 40 0 (xe_40 nb nn)) (xc40 g 0) rfl (c_X11_must l nb nn g L M_17 hD hL 1 (ob_X11_books_151_p0_2 nb nn M hp0 hp1 hp2 hp3 hp4 n N_ hmu hinv c_7 c_8 r_9 er_9 c_10 M_12 eM_12 r_13 M_14 er_13 eM_14 c_15 more_16 M_17 hiv_17 c_18 c_19)) rfl hl.1 (Nat.le_of_ble_eq_true rfl) ⟨Nat.zero_le _, Nat.zero_le _⟩ dX11_books_151 rfl (fun M_23 H locs eM_23 hP hS => ?_)
                  replace hres := xlet_n hres eM_23
                  refine lv_goto (tgt := 40) hx hb dX11_books_154 (by decide) ?_
                  exact ih  M_23 _ _ _ kx (ob_X11_books_40_mu_23 nb nn M hp0 hp1 hp2 hp3 hp4 n N_ hmu hinv c_7 c_8 r_9 er_9 c_10 M_12 eM_12 r_13 M_14 er_13 eM_14 c_15 more_16 M_17 hiv_17 c_18 c_19 M_23 eM_23) (ob_X11_books_40_inv_23 nb nn M hp0 hp1 hp2 hp3 hp4 n N_ hmu hinv c_7 c_8 r_9 er_9 c_10 M_12 eM_12 r_13 M_14 er_13 eM_14 c_15 more_16 M_17 hiv_17 c_18 c_19 M_23 eM_23) hres hP hS (lv_sub hl [0] rfl) hex
            · replace hres := hres.trans (if_pos c_15)
              refine lv_iconst (v := 1) hx hb dX11_books_90 (by decide) ?_
              refine lv_goto (tgt := 95) hx hb dX11_books_91 (by decide) ?_
              refine lv_istore_n (lv' := [(2, .int 1), (1, .int r_13), (0, .ref (xad g 40 0))]) hx hb dX11_books_95 rfl hl (by decide) rfl (fun ls hl => ?_)
              refine k_96 N_ r_13 ((if (1 : Int32) = 0 then 0 else pM M_14) + 1) (1 : Int32) M_14 _ _ _ _ (Nat.lt_succ_self _) (ob_X11_books_96_ini_23 nb nn M hp0 hp1 hp2 hp3 hp4 n N_ hmu hinv c_7 c_8 r_9 er_9 c_10 M_12 eM_12 r_13 M_14 er_13 eM_14 c_15) hres hP hS (lv_sub hl [2, 1, 0] rfl) ?_
              clear hres hP hS hl
              intro more_24 M_25 H locs ls hiv_25 hres hP hS hl
              refine lv_aload_n hx hb dX11_books_130 rfl (lv_at hl 0 rfl) ?_
              refine gf_RX11_199 hx hb hts hown hK hP (hL 40 0 (xe_40 nb nn)) dX11_books_131 ?_
              refine lv_if_ne (tgt := 154) hx hb dX11_books_134 (by decide) (fun c_26 => ?_) (fun c_26 => ?_)
              · replace hres := hres.trans (if_neg c_26)
                refine lv_goto (tgt := 40) hx hb dX11_books_154 (by decide) ?_
                exact ih  M_25 _ _ _ kx (ob_X11_books_40_mu_26 nb nn M hp0 hp1 hp2 hp3 hp4 n N_ hmu hinv c_7 c_8 r_9 er_9 c_10 M_12 eM_12 r_13 M_14 er_13 eM_14 c_15 more_24 M_25 hiv_25 c_26) (ob_X11_books_40_inv_26 nb nn M hp0 hp1 hp2 hp3 hp4 n N_ hmu hinv c_7 c_8 r_9 er_9 c_10 M_12 eM_12 r_13 M_14 er_13 eM_14 c_15 more_24 M_25 hiv_25 c_26) hres hP hS (lv_sub hl [0] rfl) hex
              · replace hres := hres.trans (if_pos c_26)
                refine lv_aload_n hx hb dX11_books_137 rfl (lv_at hl 0 rfl) ?_
                refine lv_aload_n hx hb dX11_books_138 rfl (lv_at hl 0 rfl) ?_
                refine gf_RX11_187 hx hb hts hown hK hP (hL 40 0 (xe_40 nb nn)) dX11_books_139 ?_
                refine lv_iconst (v := 4) hx hb dX11_books_142 (by decide) ?_
                refine lv_icmp_ne (tgt := 150) hx hb dX11_books_143 (by decide) (fun c_27 => ?_) (fun c_27 => ?_)
                · replace hres := hres.trans (if_neg c_27)
                  refine lv_iconst (v := 0) hx hb dX11_books_150 (by decide) ?_
                  refine x_callVv (As := [.int 0]) S hK hAm hD hP hS mt_X11_must wd_590 ⟨by decide, by decide⟩ (hL 40 0 (xe_40 nb nn)) (xc40 g 0) rfl (c_X11_must l nb nn g L M_25 hD hL 0 (ob_X11_books_151_p0_3 nb nn M hp0 hp1 hp2 hp3 hp4 n N_ hmu hinv c_7 c_8 r_9 er_9 c_10 M_12 eM_12 r_13 M_14 er_13 eM_14 c_15 more_24 M_25 hiv_25 c_26 c_27)) rfl hl.1 (Nat.le_of_ble_eq_true rfl) ⟨Nat.zero_le _, Nat.zero_le _⟩ dX11_books_151 rfl (fun M_29 H locs eM_29 hP hS => ?_)
                  replace hres := xlet_n hres eM_29
                  refine lv_goto (tgt := 40) hx hb dX11_books_154 (by decide) ?_
                  exact ih  M_29 _ _ _ kx (ob_X11_books_40_mu_29 nb nn M hp0 hp1 hp2 hp3 hp4 n N_ hmu hinv c_7 c_8 r_9 er_9 c_10 M_12 eM_12 r_13 M_14 er_13 eM_14 c_15 more_24 M_25 hiv_25 c_26 c_27 M_29 eM_29) (ob_X11_books_40_inv_29 nb nn M hp0 hp1 hp2 hp3 hp4 n N_ hmu hinv c_7 c_8 r_9 er_9 c_10 M_12 eM_12 r_13 M_14 er_13 eM_14 c_15 more_24 M_25 hiv_25 c_26 c_27 M_29 eM_29) hres hP hS (lv_sub hl [0] rfl) hex
                · replace hres := hres.trans (if_pos c_27)
                  refine lv_iconst (v := 1) hx hb dX11_books_146 (by decide) ?_
                  refine lv_goto (tgt := 151) hx hb dX11_books_147 (by decide) ?_
                  refine x_callVv (As := [.int 1]) S hK hAm hD hP hS mt_X11_must wd_590 ⟨by decide, by decide⟩ (hL 40 0 (xe_40 nb nn)) (xc40 g 0) rfl (c_X11_must l nb nn g L M_25 hD hL 1 (ob_X11_books_151_p0_4 nb nn M hp0 hp1 hp2 hp3 hp4 n N_ hmu hinv c_7 c_8 r_9 er_9 c_10 M_12 eM_12 r_13 M_14 er_13 eM_14 c_15 more_24 M_25 hiv_25 c_26 c_27)) rfl hl.1 (Nat.le_of_ble_eq_true rfl) ⟨Nat.zero_le _, Nat.zero_le _⟩ dX11_books_151 rfl (fun M_31 H locs eM_31 hP hS => ?_)
                  replace hres := xlet_n hres eM_31
                  refine lv_goto (tgt := 40) hx hb dX11_books_154 (by decide) ?_
                  exact ih  M_31 _ _ _ kx (ob_X11_books_40_mu_31 nb nn M hp0 hp1 hp2 hp3 hp4 n N_ hmu hinv c_7 c_8 r_9 er_9 c_10 M_12 eM_12 r_13 M_14 er_13 eM_14 c_15 more_24 M_25 hiv_25 c_26 c_27 M_31 eM_31) (ob_X11_books_40_inv_31 nb nn M hp0 hp1 hp2 hp3 hp4 n N_ hmu hinv c_7 c_8 r_9 er_9 c_10 M_12 eM_12 r_13 M_14 er_13 eM_14 c_15 more_24 M_25 hiv_25 c_26 c_27 M_31 eM_31) hres hP hS (lv_sub hl [0] rfl) hex
          · replace hres := hres.trans (if_pos c_10)
            refine lv_iconst (v := 1) hx hb dX11_books_67 (by decide) ?_
            refine lv_goto (tgt := 72) hx hb dX11_books_68 (by decide) ?_
            refine x_callVv (As := [.int 1]) S hK hAm hD hP hS mt_X11_must wd_590 ⟨by decide, by decide⟩ (hL 40 0 (xe_40 nb nn)) (xc40 g 0) rfl (c_X11_must l nb nn g L N_ hD hL 1 (ob_X11_books_72_p0_2 nb nn M hp0 hp1 hp2 hp3 hp4 n N_ hmu hinv c_7 c_8 r_9 er_9 c_10)) rfl hl.1 (Nat.le_of_ble_eq_true rfl) ⟨Nat.zero_le _, Nat.zero_le _⟩ dX11_books_72 rfl (fun M_33 H locs eM_33 hP hS => ?_)
            replace hres := xlet_n hres eM_33
            refine lv_aload_n hx hb dX11_books_75 rfl (lv_at hl 0 rfl) ?_
            refine lv_sipush (v := 299) hx hb dX11_books_76 (by decide) ?_
            refine x_callVi (As := [.int 299]) S hK hAm hD hP hS mt_X11_numberTo wd_598 ⟨by decide, by decide⟩ (hL 40 0 (xe_40 nb nn)) (xc40 g 0) rfl (c_X11_numberTo l nb nn g L M_33 hD hL 299 (ob_X11_books_79_p0_2 nb nn M hp0 hp1 hp2 hp3 hp4 n N_ hmu hinv c_7 c_8 r_9 er_9 c_10 M_33 eM_33)) rfl hl.1 (Nat.le_of_ble_eq_true rfl) ⟨Nat.zero_le _, Nat.zero_le _⟩ dX11_books_79 rfl (fun r_34 M_35 H locs ep_ hP hS => ?_)
            replace hres := xlet2_n hres ep_
            have er_34 : r_34 = (f_X11_numberTo 299 M_33).1 := congrArg Prod.fst ep_
            have eM_35 : M_35 = (f_X11_numberTo 299 M_33).2 := congrArg Prod.snd ep_
            clear ep_
            refine lv_istore_n (lv' := [(1, .int r_34), (0, .ref (xad g 40 0))]) hx hb dX11_books_82 rfl hl (by decide) rfl (fun ls hl => ?_)
            refine lv_aload_n hx hb dX11_books_83 rfl (lv_at hl 1 rfl) ?_
            refine gf_RX11_199 hx hb hts hown hK hP (hL 40 0 (xe_40 nb nn)) dX11_books_84 ?_
            refine lv_if_ne (tgt := 94) hx hb dX11_books_87 (by decide) (fun c_36 => ?_) (fun c_36 => ?_)
            · replace hres := hres.trans (if_neg c_36)
              refine lv_iconst (v := 0) hx hb dX11_books_94 (by decide) ?_
              refine lv_istore_n (lv' := [(2, .int 0), (1, .int r_34), (0, .ref (xad g 40 0))]) hx hb dX11_books_95 rfl hl (by decide) rfl (fun ls hl => ?_)
              refine k_96 N_ r_34 ((if (0 : Int32) = 0 then 0 else pM M_35) + 1) (0 : Int32) M_35 _ _ _ _ (Nat.lt_succ_self _) (ob_X11_books_96_ini_36 nb nn M hp0 hp1 hp2 hp3 hp4 n N_ hmu hinv c_7 c_8 r_9 er_9 c_10 M_33 eM_33 r_34 M_35 er_34 eM_35 c_36) hres hP hS (lv_sub hl [2, 1, 0] rfl) ?_
              clear hres hP hS hl
              intro more_37 M_38 H locs ls hiv_38 hres hP hS hl
              refine lv_aload_n hx hb dX11_books_130 rfl (lv_at hl 0 rfl) ?_
              refine gf_RX11_199 hx hb hts hown hK hP (hL 40 0 (xe_40 nb nn)) dX11_books_131 ?_
              refine lv_if_ne (tgt := 154) hx hb dX11_books_134 (by decide) (fun c_39 => ?_) (fun c_39 => ?_)
              · replace hres := hres.trans (if_neg c_39)
                refine lv_goto (tgt := 40) hx hb dX11_books_154 (by decide) ?_
                exact ih  M_38 _ _ _ kx (ob_X11_books_40_mu_39 nb nn M hp0 hp1 hp2 hp3 hp4 n N_ hmu hinv c_7 c_8 r_9 er_9 c_10 M_33 eM_33 r_34 M_35 er_34 eM_35 c_36 more_37 M_38 hiv_38 c_39) (ob_X11_books_40_inv_39 nb nn M hp0 hp1 hp2 hp3 hp4 n N_ hmu hinv c_7 c_8 r_9 er_9 c_10 M_33 eM_33 r_34 M_35 er_34 eM_35 c_36 more_37 M_38 hiv_38 c_39) hres hP hS (lv_sub hl [0] rfl) hex
              · replace hres := hres.trans (if_pos c_39)
                refine lv_aload_n hx hb dX11_books_137 rfl (lv_at hl 0 rfl) ?_
                refine lv_aload_n hx hb dX11_books_138 rfl (lv_at hl 0 rfl) ?_
                refine gf_RX11_187 hx hb hts hown hK hP (hL 40 0 (xe_40 nb nn)) dX11_books_139 ?_
                refine lv_iconst (v := 4) hx hb dX11_books_142 (by decide) ?_
                refine lv_icmp_ne (tgt := 150) hx hb dX11_books_143 (by decide) (fun c_40 => ?_) (fun c_40 => ?_)
                · replace hres := hres.trans (if_neg c_40)
                  refine lv_iconst (v := 0) hx hb dX11_books_150 (by decide) ?_
                  refine x_callVv (As := [.int 0]) S hK hAm hD hP hS mt_X11_must wd_590 ⟨by decide, by decide⟩ (hL 40 0 (xe_40 nb nn)) (xc40 g 0) rfl (c_X11_must l nb nn g L M_38 hD hL 0 (ob_X11_books_151_p0_5 nb nn M hp0 hp1 hp2 hp3 hp4 n N_ hmu hinv c_7 c_8 r_9 er_9 c_10 M_33 eM_33 r_34 M_35 er_34 eM_35 c_36 more_37 M_38 hiv_38 c_39 c_40)) rfl hl.1 (Nat.le_of_ble_eq_true rfl) ⟨Nat.zero_le _, Nat.zero_le _⟩ dX11_books_151 rfl (fun M_42 H locs eM_42 hP hS => ?_)
                  replace hres := xlet_n hres eM_42
                  refine lv_goto (tgt := 40) hx hb dX11_books_154 (by decide) ?_
                  exact ih  M_42 _ _ _ kx (ob_X11_books_40_mu_42 nb nn M hp0 hp1 hp2 hp3 hp4 n N_ hmu hinv c_7 c_8 r_9 er_9 c_10 M_33 eM_33 r_34 M_35 er_34 eM_35 c_36 more_37 M_38 hiv_38 c_39 c_40 M_42 eM_42) (ob_X11_books_40_inv_42 nb nn M hp0 hp1 hp2 hp3 hp4 n N_ hmu hinv c_7 c_8 r_9 er_9 c_10 M_33 eM_33 r_34 M_35 er_34 eM_35 c_36 more_37 M_38 hiv_38 c_39 c_40 M_42 eM_42) hres hP hS (lv_sub hl [0] rfl) hex
                · replace hres := hres.trans (if_pos c_40)
                  refine lv_iconst (v := 1) hx hb dX11_books_146 (by decide) ?_
                  refine lv_goto (tgt := 151) hx hb dX11_books_147 (by decide) ?_
                  refine x_callVv (As := [.int 1]) S hK hAm hD hP hS mt_X11_must wd_590 ⟨by decide, by decide⟩ (hL 40 0 (xe_40 nb nn)) (xc40 g 0) rfl (c_X11_must l nb nn g L M_38 hD hL 1 (ob_X11_books_151_p0_6 nb nn M hp0 hp1 hp2 hp3 hp4 n N_ hmu hinv c_7 c_8 r_9 er_9 c_10 M_33 eM_33 r_34 M_35 er_34 eM_35 c_36 more_37 M_38 hiv_38 c_39 c_40)) rfl hl.1 (Nat.le_of_ble_eq_true rfl) ⟨Nat.zero_le _, Nat.zero_le _⟩ dX11_books_151 rfl (fun M_44 H locs eM_44 hP hS => ?_)
                  replace hres := xlet_n hres eM_44
                  refine lv_goto (tgt := 40) hx hb dX11_books_154 (by decide) ?_
                  exact ih  M_44 _ _ _ kx (ob_X11_books_40_mu_44 nb nn M hp0 hp1 hp2 hp3 hp4 n N_ hmu hinv c_7 c_8 r_9 er_9 c_10 M_33 eM_33 r_34 M_35 er_34 eM_35 c_36 more_37 M_38 hiv_38 c_39 c_40 M_44 eM_44) (ob_X11_books_40_inv_44 nb nn M hp0 hp1 hp2 hp3 hp4 n N_ hmu hinv c_7 c_8 r_9 er_9 c_10 M_33 eM_33 r_34 M_35 er_34 eM_35 c_36 more_37 M_38 hiv_38 c_39 c_40 M_44 eM_44) hres hP hS (lv_sub hl [0] rfl) hex
            · replace hres := hres.trans (if_pos c_36)
              refine lv_iconst (v := 1) hx hb dX11_books_90 (by decide) ?_
              refine lv_goto (tgt := 95) hx hb dX11_books_91 (by decide) ?_
              refine lv_istore_n (lv' := [(2, .int 1), (1, .int r_34), (0, .ref (xad g 40 0))]) hx hb dX11_books_95 rfl hl (by decide) rfl (fun ls hl => ?_)
              refine k_96 N_ r_34 ((if (1 : Int32) = 0 then 0 else pM M_35) + 1) (1 : Int32) M_35 _ _ _ _ (Nat.lt_succ_self _) (ob_X11_books_96_ini_44 nb nn M hp0 hp1 hp2 hp3 hp4 n N_ hmu hinv c_7 c_8 r_9 er_9 c_10 M_33 eM_33 r_34 M_35 er_34 eM_35 c_36) hres hP hS (lv_sub hl [2, 1, 0] rfl) ?_
              clear hres hP hS hl
              intro more_45 M_46 H locs ls hiv_46 hres hP hS hl
              refine lv_aload_n hx hb dX11_books_130 rfl (lv_at hl 0 rfl) ?_
              refine gf_RX11_199 hx hb hts hown hK hP (hL 40 0 (xe_40 nb nn)) dX11_books_131 ?_
              refine lv_if_ne (tgt := 154) hx hb dX11_books_134 (by decide) (fun c_47 => ?_) (fun c_47 => ?_)
              · replace hres := hres.trans (if_neg c_47)
                refine lv_goto (tgt := 40) hx hb dX11_books_154 (by decide) ?_
                exact ih  M_46 _ _ _ kx (ob_X11_books_40_mu_47 nb nn M hp0 hp1 hp2 hp3 hp4 n N_ hmu hinv c_7 c_8 r_9 er_9 c_10 M_33 eM_33 r_34 M_35 er_34 eM_35 c_36 more_45 M_46 hiv_46 c_47) (ob_X11_books_40_inv_47 nb nn M hp0 hp1 hp2 hp3 hp4 n N_ hmu hinv c_7 c_8 r_9 er_9 c_10 M_33 eM_33 r_34 M_35 er_34 eM_35 c_36 more_45 M_46 hiv_46 c_47) hres hP hS (lv_sub hl [0] rfl) hex
              · replace hres := hres.trans (if_pos c_47)
                refine lv_aload_n hx hb dX11_books_137 rfl (lv_at hl 0 rfl) ?_
                refine lv_aload_n hx hb dX11_books_138 rfl (lv_at hl 0 rfl) ?_
                refine gf_RX11_187 hx hb hts hown hK hP (hL 40 0 (xe_40 nb nn)) dX11_books_139 ?_
                refine lv_iconst (v := 4) hx hb dX11_books_142 (by decide) ?_
                refine lv_icmp_ne (tgt := 150) hx hb dX11_books_143 (by decide) (fun c_48 => ?_) (fun c_48 => ?_)
                · replace hres := hres.trans (if_neg c_48)
                  refine lv_iconst (v := 0) hx hb dX11_books_150 (by decide) ?_
                  refine x_callVv (As := [.int 0]) S hK hAm hD hP hS mt_X11_must wd_590 ⟨by decide, by decide⟩ (hL 40 0 (xe_40 nb nn)) (xc40 g 0) rfl (c_X11_must l nb nn g L M_46 hD hL 0 (ob_X11_books_151_p0_7 nb nn M hp0 hp1 hp2 hp3 hp4 n N_ hmu hinv c_7 c_8 r_9 er_9 c_10 M_33 eM_33 r_34 M_35 er_34 eM_35 c_36 more_45 M_46 hiv_46 c_47 c_48)) rfl hl.1 (Nat.le_of_ble_eq_true rfl) ⟨Nat.zero_le _, Nat.zero_le _⟩ dX11_books_151 rfl (fun M_50 H locs eM_50 hP hS => ?_)
                  replace hres := xlet_n hres eM_50
                  refine lv_goto (tgt := 40) hx hb dX11_books_154 (by decide) ?_
                  exact ih  M_50 _ _ _ kx (ob_X11_books_40_mu_50 nb nn M hp0 hp1 hp2 hp3 hp4 n N_ hmu hinv c_7 c_8 r_9 er_9 c_10 M_33 eM_33 r_34 M_35 er_34 eM_35 c_36 more_45 M_46 hiv_46 c_47 c_48 M_50 eM_50) (ob_X11_books_40_inv_50 nb nn M hp0 hp1 hp2 hp3 hp4 n N_ hmu hinv c_7 c_8 r_9 er_9 c_10 M_33 eM_33 r_34 M_35 er_34 eM_35 c_36 more_45 M_46 hiv_46 c_47 c_48 M_50 eM_50) hres hP hS (lv_sub hl [0] rfl) hex
                · replace hres := hres.trans (if_pos c_48)
                  refine lv_iconst (v := 1) hx hb dX11_books_146 (by decide) ?_
                  refine lv_goto (tgt := 151) hx hb dX11_books_147 (by decide) ?_
                  refine x_callVv (As := [.int 1]) S hK hAm hD hP hS mt_X11_must wd_590 ⟨by decide, by decide⟩ (hL 40 0 (xe_40 nb nn)) (xc40 g 0) rfl (c_X11_must l nb nn g L M_46 hD hL 1 (ob_X11_books_151_p0_8 nb nn M hp0 hp1 hp2 hp3 hp4 n N_ hmu hinv c_7 c_8 r_9 er_9 c_10 M_33 eM_33 r_34 M_35 er_34 eM_35 c_36 more_45 M_46 hiv_46 c_47 c_48)) rfl hl.1 (Nat.le_of_ble_eq_true rfl) ⟨Nat.zero_le _, Nat.zero_le _⟩ dX11_books_151 rfl (fun M_52 H locs eM_52 hP hS => ?_)
                  replace hres := xlet_n hres eM_52
                  refine lv_goto (tgt := 40) hx hb dX11_books_154 (by decide) ?_
                  exact ih  M_52 _ _ _ kx (ob_X11_books_40_mu_52 nb nn M hp0 hp1 hp2 hp3 hp4 n N_ hmu hinv c_7 c_8 r_9 er_9 c_10 M_33 eM_33 r_34 M_35 er_34 eM_35 c_36 more_45 M_46 hiv_46 c_47 c_48 M_52 eM_52) (ob_X11_books_40_inv_52 nb nn M hp0 hp1 hp2 hp3 hp4 n N_ hmu hinv c_7 c_8 r_9 er_9 c_10 M_33 eM_33 r_34 M_35 er_34 eM_35 c_36 more_45 M_46 hiv_46 c_47 c_48 M_52 eM_52) hres hP hS (lv_sub hl [0] rfl) hex
  have hres := hF
  rw [f_X11_books] at hres
  refine lv_aload_n hx hb dX11_books_0 rfl (lv_at hl 0 rfl) ?_
  refine lv_iconst (v := 0) hx hb dX11_books_1 (by decide) ?_
  refine pf_RX11_113 hx hb hts hown hK hP hD hS (hL 40 0 (xe_40 nb nn)) dX11_books_2 (fun H locs hP hS => ?_)
  obtain ⟨M_53, eM_53⟩ : ∃ z_ : xM, z_ = xup M 40 0 0 0 := ⟨_, rfl⟩
  rw [← eM_53] at hP
  replace hres := xlet_n hres eM_53
  refine lv_aload_n hx hb dX11_books_5 rfl (lv_at hl 0 rfl) ?_
  refine lv_aload_n hx hb dX11_books_6 rfl (lv_at hl 0 rfl) ?_
  refine gf_RX11_172 hx hb hts hown hK hP (hL 40 0 (xe_40 nb nn)) dX11_books_7 ?_
  refine lv_topi (fun v_54 ev_54 => ?_)
  replace hres := xlet_n hres ev_54
  refine pf_RX11_175 hx hb hts hown hK hP hD hS (hL 40 0 (xe_40 nb nn)) dX11_books_10 (fun H locs hP hS => ?_)
  obtain ⟨M_55, eM_55⟩ : ∃ z_ : xM, z_ = xup M_53 40 0 23 v_54 := ⟨_, rfl⟩
  rw [← eM_55] at hP
  replace hres := xlet_n hres eM_55
  refine lv_aload_n hx hb dX11_books_13 rfl (lv_at hl 0 rfl) ?_
  refine lv_iconst (v := 0) hx hb dX11_books_14 (by decide) ?_
  refine pf_RX11_172 hx hb hts hown hK hP hD hS (hL 40 0 (xe_40 nb nn)) dX11_books_15 (fun H locs hP hS => ?_)
  obtain ⟨M_56, eM_56⟩ : ∃ z_ : xM, z_ = xup M_55 40 0 21 0 := ⟨_, rfl⟩
  rw [← eM_56] at hP
  replace hres := xlet_n hres eM_56
  refine lv_aload_n hx hb dX11_books_18 rfl (lv_at hl 0 rfl) ?_
  refine lv_iconst (v := 0) hx hb dX11_books_19 (by decide) ?_
  refine pf_RX11_178 hx hb hts hown hK hP hD hS (hL 40 0 (xe_40 nb nn)) dX11_books_20 (fun H locs hP hS => ?_)
  obtain ⟨M_57, eM_57⟩ : ∃ z_ : xM, z_ = xup M_56 40 0 24 0 := ⟨_, rfl⟩
  rw [← eM_57] at hP
  replace hres := xlet_n hres eM_57
  refine lv_aload_n hx hb dX11_books_23 rfl (lv_at hl 0 rfl) ?_
  refine lv_iconst (v := 0) hx hb dX11_books_24 (by decide) ?_
  refine pf_RX11_199 hx hb hts hown hK hP hD hS (hL 40 0 (xe_40 nb nn)) dX11_books_25 (fun H locs hP hS => ?_)
  obtain ⟨M_58, eM_58⟩ : ∃ z_ : xM, z_ = xup M_57 40 0 28 0 := ⟨_, rfl⟩
  rw [← eM_58] at hP
  replace hres := xlet_n hres eM_58
  refine lv_aload_n hx hb dX11_books_28 rfl (lv_at hl 0 rfl) ?_
  refine lv_aload_n hx hb dX11_books_29 rfl (lv_at hl 0 rfl) ?_
  refine gf_RX11_236 hx hb hts hown hK hP (hL 40 0 (xe_40 nb nn)) dX11_books_30 ?_
  refine lv_topi (fun v_59 ev_59 => ?_)
  replace hres := xlet_n hres ev_59
  refine pf_RX11_230 hx hb hts hown hK hP hD hS (hL 40 0 (xe_40 nb nn)) dX11_books_33 (fun H locs hP hS => ?_)
  obtain ⟨M_60, eM_60⟩ : ∃ z_ : xM, z_ = xup M_58 40 0 19 v_59 := ⟨_, rfl⟩
  rw [← eM_60] at hP
  replace hres := xlet_n hres eM_60
  refine lv_aload_n hx hb dX11_books_36 rfl (lv_at hl 0 rfl) ?_
  refine x_callVv (As := []) S hK hAm hD hP hS mt_X11_step wd_570 ⟨by decide, by decide⟩ (hL 40 0 (xe_40 nb nn)) (xc40 g 0) rfl (c_X11_step l nb nn g L M_60 hD hL  (ob_X11_books_37_p0 nb nn M hp0 hp1 hp2 hp3 hp4 M_53 eM_53 v_54 ev_54 M_55 eM_55 M_56 eM_56 M_57 eM_57 M_58 eM_58 v_59 ev_59 M_60 eM_60)) rfl hl.1 (Nat.le_of_ble_eq_true rfl) ⟨Nat.zero_le _, Nat.zero_le _⟩ dX11_books_37 rfl (fun M_62 H locs eM_62 hP hS => ?_)
  replace hres := xlet_n hres eM_62
  refine k_40 ((if M_62 40 0 25 = 1 then 0 else pM M_62) + 1)  M_62 _ _ _ _ (Nat.lt_succ_self _) (ob_X11_books_40_ini_62 nb nn M hp0 hp1 hp2 hp3 hp4 M_53 eM_53 v_54 ev_54 M_55 eM_55 M_56 eM_56 M_57 eM_57 M_58 eM_58 v_59 ev_59 M_60 eM_60 M_62 eM_62) hres hP hS (lv_sub hl [0] rfl) ?_
  clear hres hP hS hl
  intro  M_63 H locs ls hiv_63 hres hP hS hl
  refine lv_aload_n hx hb dX11_books_157 rfl (lv_at hl 0 rfl) ?_
  refine gf_RX11_199 hx hb hts hown hK hP (hL 40 0 (xe_40 nb nn)) dX11_books_158 ?_
  refine lv_if_le (tgt := 180) hx hb dX11_books_161 (by decide) (fun c_64 => ?_) (fun c_64 => ?_)
  · replace hres := hres.trans (if_pos c_64)
    refine lv_aload_n hx hb dX11_books_180 rfl (lv_at hl 0 rfl) ?_
    refine lv_aload_n hx hb dX11_books_181 rfl (lv_at hl 0 rfl) ?_
    refine gf_RX11_230 hx hb hts hown hK hP (hL 40 0 (xe_40 nb nn)) dX11_books_182 ?_
    refine lv_topi (fun v_65 ev_65 => ?_)
    replace hres := xlet_n hres ev_65
    refine pf_RX11_236 hx hb hts hown hK hP hD hS (hL 40 0 (xe_40 nb nn)) dX11_books_185 (fun H locs hP hS => ?_)
    obtain ⟨M_66, eM_66⟩ : ∃ z_ : xM, z_ = xup M_63 40 0 14 v_65 := ⟨_, rfl⟩
    rw [← eM_66] at hP
    replace hres := xlet_n hres eM_66
    refine lv_aload_n hx hb dX11_books_188 rfl (lv_at hl 0 rfl) ?_
    refine gf_RX11_236 hx hb hts hown hK hP (hL 40 0 (xe_40 nb nn)) dX11_books_189 ?_
    exact x_reti hx hb hr hlk hP hS (hres.symm.trans hF) dX11_books_192
  · replace hres := hres.trans (if_neg c_64)
    refine lv_aload_n hx hb dX11_books_164 rfl (lv_at hl 0 rfl) ?_
    refine lv_aload_n hx hb dX11_books_165 rfl (lv_at hl 0 rfl) ?_
    refine gf_RX11_199 hx hb hts hown hK hP (hL 40 0 (xe_40 nb nn)) dX11_books_166 ?_
    refine lv_topi (fun v_67 ev_67 => ?_)
    replace hres := xlet_n hres ev_67
    refine pf_RX11_244 hx hb hts hown hK hP hD hS (hL 40 0 (xe_40 nb nn)) dX11_books_169 (fun H locs hP hS => ?_)
    obtain ⟨M_68, eM_68⟩ : ∃ z_ : xM, z_ = xup M_63 40 0 22 v_67 := ⟨_, rfl⟩
    rw [← eM_68] at hP
    replace hres := xlet_n hres eM_68
    refine lv_ldc (own := RX11) (v := (-1000100)) hx hb hown (hts _ (List.mem_cons_of_mem _ wd_568)) dX11_books_172 ?_
    refine lv_aload_n hx hb dX11_books_174 rfl (lv_at hl 0 rfl) ?_
    refine gf_RX11_202 hx hb hts hown hK hP (hL 40 0 (xe_40 nb nn)) dX11_books_175 ?_
    refine lv_isub hx hb dX11_books_178 ?_
    exact x_reti hx hb hr hlk hP hS (hres.symm.trans hF) dX11_books_179
