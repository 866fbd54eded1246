def f_X11_pay_L57 (a : Int32) (b : Int32) (v : Int32) (handed : Int32) (more : Int32) : Nat → Int32 → Int32 → xM → (Int32 → Int32 → xM → Int32 × xM) → Int32 × xM
  | 0, _, _, N_, _ => (0, N_)
  | n + 1, worst, k, N_, kx => if (N_ 40 0 30) ≤ k then kx worst k N_ else if (N_ 85 0 k.toNatClampNeg) = a then if 12 ≤ (N_ 91 0 k.toNatClampNeg) then xlet (k + 1) fun x7_7 => f_X11_pay_L57 a b v handed more n worst x7_7 N_ kx else xlet2 (f_X11_inHundred k b N_) fun r_8 M_9 => if r_8 < (M_9 95 0 b.toNatClampNeg) then xlet (k + 1) fun x7_12 => f_X11_pay_L57 a b v handed more n worst x7_12 M_9 kx else if worst = (-1000000) then xlet (k + 1) fun x7_15 => f_X11_pay_L57 a b v handed more n k x7_15 M_9 kx else xlet2 (f_X11_inHundred k a M_9) fun r_16 M_17 => xlet2 (f_X11_inHundred worst a M_17) fun r_18 M_19 => if r_18 ≤ r_16 then xlet (k + 1) fun x7_21 => f_X11_pay_L57 a b v handed more n worst x7_21 M_19 kx else xlet (k + 1) fun x7_22 => f_X11_pay_L57 a b v handed more n k x7_22 M_19 kx else xlet (k + 1) fun x7_4 => f_X11_pay_L57 a b v handed more n worst x7_4 N_ kx
def f_X11_pay_L45 (a : Int32) (b : Int32) (v : Int32) : Nat → Int32 → Int32 → xM → (Int32 → Int32 → xM → Int32 × xM) → Int32 × xM
  | 0, _, _, N_, _ => (0, N_)
  | n + 1, handed, more, N_, kx => if more = 0 then kx handed more N_ else f_X11_pay_L57 a b v handed more (xmu (0 : Int32) (N_ 40 0 30) + 1) (-1000000 : Int32) (0 : Int32) N_ (fun worst_24 k_25 M_26 => if worst_24 = (-1000000) then f_X11_pay_L45 a b v n handed (0 : Int32) M_26 kx else xlet (f_X11_comeTo worst_24 b M_26) fun M_31 => xlet (handed + (M_31 82 0 worst_24.toNatClampNeg)) fun x4_32 => if v ≤ x4_32 then f_X11_pay_L45 a b v n x4_32 (0 : Int32) M_31 kx else f_X11_pay_L45 a b v n x4_32 (1 : Int32) M_31 kx)
def f_X11_pay (a : Int32) (b : Int32) (v : Int32) (M : xM) : Int32 × xM :=
  xlet (xup M 40 0 0 0) fun M_34 => xlet (xb (f_X11_isTrader a M_34)) fun r_35 => if r_35 = 0 then ((-1000001), M_34) else xlet (xb (f_X11_isTrader b M_34)) fun r_37 => if r_37 = 0 then ((-1000001), M_34) else if a = b then ((-1000001), M_34) else xlet (xb (f_X11_in (v.toInt64) 1 999 M_34)) fun r_40 => if r_40 = 0 then ((-1000001), M_34) else f_X11_pay_L45 a b v ((if (1 : Int32) = 0 then 0 else 1 + xmu (0 : Int32) v) + 1) (0 : Int32) (1 : Int32) M_34 (fun handed_42 more_43 M_44 => (handed_42, M_44))
theorem ob_X11_pay_156_x57 (nb nn : Nat) (a : Int32) (b : Int32) (v : Int32) (M : xM) (hp0 : mI M) (handed : Int32) (more : Int32) (n : Nat) (worst : Int32) (k : Int32) (N_ : xM) (hmu : xmu k (N_ 40 0 30) < n + 1) (hinv : mI N_ ∧ 0 ≤ k ∧ 0 ≤ a ∧ a ≤ 7 ∧ 0 ≤ b ∧ b ≤ 7 ∧ (worst = (-1000000) ∨ (0 ≤ worst ∧ worst < N_ 40 0 30))) (c_1 : (N_ 40 0 30) ≤ k) : mI N_ ∧ 0 ≤ k ∧ 0 ≤ a ∧ a ≤ 7 ∧ 0 ≤ b ∧ b ≤ 7 ∧ (worst = (-1000000) ∨ (0 ≤ worst ∧ worst < N_ 40 0 30)) := by
  subst_vars
  grind [isTrader_eq, in_1_999, xup_at, xb, mI, mI_56, mI_come, come_o, mI_inh, inh2]
theorem ob_X11_pay_72_in (nb nn : Nat) (a : Int32) (b : Int32) (v : Int32) (M : xM) (hp0 : mI M) (handed : Int32) (more : Int32) (n : Nat) (worst : Int32) (k : Int32) (N_ : xM) (hmu : xmu k (N_ 40 0 30) < n + 1) (hinv : mI N_ ∧ 0 ≤ k ∧ 0 ≤ a ∧ a ≤ 7 ∧ 0 ≤ b ∧ b ≤ 7 ∧ (worst = (-1000000) ∨ (0 ≤ worst ∧ worst < N_ 40 0 30))) (c_1 : ¬ (N_ 40 0 30) ≤ k) : vp_in k 24 := by
  subst_vars
  exact xin (N := 24) (by grind [isTrader_eq, in_1_999, xup_at, xb, mI, mI_56, mI_come, come_o, mI_inh, inh2]) (by grind [isTrader_eq, in_1_999, xup_at, xb, mI, mI_56, mI_come, come_o, mI_inh, inh2]) (by decide)
theorem ob_X11_pay_57_mu_4 (nb nn : Nat) (a : Int32) (b : Int32) (v : Int32) (M : xM) (hp0 : mI M) (handed : Int32) (more : Int32) (n : Nat) (worst : Int32) (k : Int32) (N_ : xM) (hmu : xmu k (N_ 40 0 30) < n + 1) (hinv : mI N_ ∧ 0 ≤ k ∧ 0 ≤ a ∧ a ≤ 7 ∧ 0 ≤ b ∧ b ≤ 7 ∧ (worst = (-1000000) ∨ (0 ≤ worst ∧ worst < N_ 40 0 30))) (c_1 : ¬ (N_ 40 0 30) ≤ k) (c_2 : ¬ (N_ 85 0 k.toNatClampNeg) = a) (x7_4 : Int32) (ex7_4 : x7_4 = k + 1) : xmu x7_4 (N_ 40 0 30) < n := by
  subst_vars
  have h9 := xmu_up (a := k) (b := N_ 40 0 30) (by grind)
  (try simp only [inh2 (show ¬ (40 : Nat) = 56 by decide)])
  omega
theorem ob_X11_pay_57_inv_4 (nb nn : Nat) (a : Int32) (b : Int32) (v : Int32) (M : xM) (hp0 : mI M) (handed : Int32) (more : Int32) (n : Nat) (worst : Int32) (k : Int32) (N_ : xM) (hmu : xmu k (N_ 40 0 30) < n + 1) (hinv : mI N_ ∧ 0 ≤ k ∧ 0 ≤ a ∧ a ≤ 7 ∧ 0 ≤ b ∧ b ≤ 7 ∧ (worst = (-1000000) ∨ (0 ≤ worst ∧ worst < N_ 40 0 30))) (c_1 : ¬ (N_ 40 0 30) ≤ k) (c_2 : ¬ (N_ 85 0 k.toNatClampNeg) = a) (x7_4 : Int32) (ex7_4 : x7_4 = k + 1) : mI N_ ∧ 0 ≤ x7_4 ∧ 0 ≤ a ∧ a ≤ 7 ∧ 0 ≤ b ∧ b ≤ 7 ∧ (worst = (-1000000) ∨ (0 ≤ worst ∧ worst < N_ 40 0 30)) := by
  subst_vars
  grind [isTrader_eq, in_1_999, xup_at, xb, mI, mI_56, mI_come, come_o, mI_inh, inh2]
theorem ob_X11_pay_83_in (nb nn : Nat) (a : Int32) (b : Int32) (v : Int32) (M : xM) (hp0 : mI M) (handed : Int32) (more : Int32) (n : Nat) (worst : Int32) (k : Int32) (N_ : xM) (hmu : xmu k (N_ 40 0 30) < n + 1) (hinv : mI N_ ∧ 0 ≤ k ∧ 0 ≤ a ∧ a ≤ 7 ∧ 0 ≤ b ∧ b ≤ 7 ∧ (worst = (-1000000) ∨ (0 ≤ worst ∧ worst < N_ 40 0 30))) (c_1 : ¬ (N_ 40 0 30) ≤ k) (c_2 : (N_ 85 0 k.toNatClampNeg) = a) : vp_in k 24 := by
  subst_vars
  exact xin (N := 24) (by grind [isTrader_eq, in_1_999, xup_at, xb, mI, mI_56, mI_come, come_o, mI_inh, inh2]) (by grind [isTrader_eq, in_1_999, xup_at, xb, mI, mI_56, mI_come, come_o, mI_inh, inh2]) (by decide)
theorem ob_X11_pay_57_mu_7 (nb nn : Nat) (a : Int32) (b : Int32) (v : Int32) (M : xM) (hp0 : mI M) (handed : Int32) (more : Int32) (n : Nat) (worst : Int32) (k : Int32) (N_ : xM) (hmu : xmu k (N_ 40 0 30) < n + 1) (hinv : mI N_ ∧ 0 ≤ k ∧ 0 ≤ a ∧ a ≤ 7 ∧ 0 ≤ b ∧ b ≤ 7 ∧ (worst = (-1000000) ∨ (0 ≤ worst ∧ worst < N_ 40 0 30))) (c_1 : ¬ (N_ 40 0 30) ≤ k) (c_2 : (N_ 85 0 k.toNatClampNeg) = a) (c_5 : 12 ≤ (N_ 91 0 k.toNatClampNeg)) (x7_7 : Int32) (ex7_7 : x7_7 = k + 1) : xmu x7_7 (N_ 40 0 30) < n := by
  subst_vars
  have h9 := xmu_up (a := k) (b := N_ 40 0 30) (by grind)
  (try simp only [inh2 (show ¬ (40 : Nat) = 56 by decide)])
  omega
theorem ob_X11_pay_57_inv_7 (nb nn : Nat) (a : Int32) (b : Int32) (v : Int32) (M : xM) (hp0 : mI M) (handed : Int32) (more : Int32) (n : Nat) (worst : Int32) (k : Int32) (N_ : xM) (hmu : xmu k (N_ 40 0 30) < n + 1) (hinv : mI N_ ∧ 0 ≤ k ∧ 0 ≤ a ∧ a ≤ 7 ∧ 0 ≤ b ∧ b ≤ 7 ∧ (worst = (-1000000) ∨ (0 ≤ worst ∧ worst < N_ 40 0 30))) (c_1 : ¬ (N_ 40 0 30) ≤ k) (c_2 : (N_ 85 0 k.toNatClampNeg) = a) (c_5 : 12 ≤ (N_ 91 0 k.toNatClampNeg)) (x7_7 : Int32) (ex7_7 : x7_7 = k + 1) : mI N_ ∧ 0 ≤ x7_7 ∧ 0 ≤ a ∧ a ≤ 7 ∧ 0 ≤ b ∧ b ≤ 7 ∧ (worst = (-1000000) ∨ (0 ≤ worst ∧ worst < N_ 40 0 30)) := by
  subst_vars
  grind [isTrader_eq, in_1_999, xup_at, xb, mI, mI_56, mI_come, come_o, mI_inh, inh2]
theorem ob_X11_pay_93_p0 (nb nn : Nat) (a : Int32) (b : Int32) (v : Int32) (M : xM) (hp0 : mI M) (handed : Int32) (more : Int32) (n : Nat) (worst : Int32) (k : Int32) (N_ : xM) (hmu : xmu k (N_ 40 0 30) < n + 1) (hinv : mI N_ ∧ 0 ≤ k ∧ 0 ≤ a ∧ a ≤ 7 ∧ 0 ≤ b ∧ b ≤ 7 ∧ (worst = (-1000000) ∨ (0 ≤ worst ∧ worst < N_ 40 0 30))) (c_1 : ¬ (N_ 40 0 30) ≤ k) (c_2 : (N_ 85 0 k.toNatClampNeg) = a) (c_5 : ¬ 12 ≤ (N_ 91 0 k.toNatClampNeg)) : 0 ≤ k := by
  subst_vars
  grind [isTrader_eq, in_1_999, xup_at, xb, mI, mI_56, mI_come, come_o, mI_inh, inh2]
theorem ob_X11_pay_93_p1 (nb nn : Nat) (a : Int32) (b : Int32) (v : Int32) (M : xM) (hp0 : mI M) (handed : Int32) (more : Int32) (n : Nat) (worst : Int32) (k : Int32) (N_ : xM) (hmu : xmu k (N_ 40 0 30) < n + 1) (hinv : mI N_ ∧ 0 ≤ k ∧ 0 ≤ a ∧ a ≤ 7 ∧ 0 ≤ b ∧ b ≤ 7 ∧ (worst = (-1000000) ∨ (0 ≤ worst ∧ worst < N_ 40 0 30))) (c_1 : ¬ (N_ 40 0 30) ≤ k) (c_2 : (N_ 85 0 k.toNatClampNeg) = a) (c_5 : ¬ 12 ≤ (N_ 91 0 k.toNatClampNeg)) : k < 24 := by
  subst_vars
  grind [isTrader_eq, in_1_999, xup_at, xb, mI, mI_56, mI_come, come_o, mI_inh, inh2]
theorem ob_X11_pay_93_p2 (nb nn : Nat) (a : Int32) (b : Int32) (v : Int32) (M : xM) (hp0 : mI M) (handed : Int32) (more : Int32) (n : Nat) (worst : Int32) (k : Int32) (N_ : xM) (hmu : xmu k (N_ 40 0 30) < n + 1) (hinv : mI N_ ∧ 0 ≤ k ∧ 0 ≤ a ∧ a ≤ 7 ∧ 0 ≤ b ∧ b ≤ 7 ∧ (worst = (-1000000) ∨ (0 ≤ worst ∧ worst < N_ 40 0 30))) (c_1 : ¬ (N_ 40 0 30) ≤ k) (c_2 : (N_ 85 0 k.toNatClampNeg) = a) (c_5 : ¬ 12 ≤ (N_ 91 0 k.toNatClampNeg)) : 0 ≤ b := by
  subst_vars
  grind [isTrader_eq, in_1_999, xup_at, xb, mI, mI_56, mI_come, come_o, mI_inh, inh2]
theorem ob_X11_pay_93_p3 (nb nn : Nat) (a : Int32) (b : Int32) (v : Int32) (M : xM) (hp0 : mI M) (handed : Int32) (more : Int32) (n : Nat) (worst : Int32) (k : Int32) (N_ : xM) (hmu : xmu k (N_ 40 0 30) < n + 1) (hinv : mI N_ ∧ 0 ≤ k ∧ 0 ≤ a ∧ a ≤ 7 ∧ 0 ≤ b ∧ b ≤ 7 ∧ (worst = (-1000000) ∨ (0 ≤ worst ∧ worst < N_ 40 0 30))) (c_1 : ¬ (N_ 40 0 30) ≤ k) (c_2 : (N_ 85 0 k.toNatClampNeg) = a) (c_5 : ¬ 12 ≤ (N_ 91 0 k.toNatClampNeg)) : b ≤ 7 := by
  subst_vars
  grind [isTrader_eq, in_1_999, xup_at, xb, mI, mI_56, mI_come, come_o, mI_inh, inh2]
theorem ob_X11_pay_93_p4 (nb nn : Nat) (a : Int32) (b : Int32) (v : Int32) (M : xM) (hp0 : mI M) (handed : Int32) (more : Int32) (n : Nat) (worst : Int32) (k : Int32) (N_ : xM) (hmu : xmu k (N_ 40 0 30) < n + 1) (hinv : mI N_ ∧ 0 ≤ k ∧ 0 ≤ a ∧ a ≤ 7 ∧ 0 ≤ b ∧ b ≤ 7 ∧ (worst = (-1000000) ∨ (0 ≤ worst ∧ worst < N_ 40 0 30))) (c_1 : ¬ (N_ 40 0 30) ≤ k) (c_2 : (N_ 85 0 k.toNatClampNeg) = a) (c_5 : ¬ 12 ≤ (N_ 91 0 k.toNatClampNeg)) : mI N_ := by
  subst_vars
  grind [isTrader_eq, in_1_999, xup_at, xb, mI, mI_56, mI_come, come_o, mI_inh, inh2]
theorem ob_X11_pay_93_p5 (nb nn : Nat) (a : Int32) (b : Int32) (v : Int32) (M : xM) (hp0 : mI M) (handed : Int32) (more : Int32) (n : Nat) (worst : Int32) (k : Int32) (N_ : xM) (hmu : xmu k (N_ 40 0 30) < n + 1) (hinv : mI N_ ∧ 0 ≤ k ∧ 0 ≤ a ∧ a ≤ 7 ∧ 0 ≤ b ∧ b ≤ 7 ∧ (worst = (-1000000) ∨ (0 ≤ worst ∧ worst < N_ 40 0 30))) (c_1 : ¬ (N_ 40 0 30) ≤ k) (c_2 : (N_ 85 0 k.toNatClampNeg) = a) (c_5 : ¬ 12 ≤ (N_ 91 0 k.toNatClampNeg)) : k < N_ 40 0 30 := by
  subst_vars
  grind [isTrader_eq, in_1_999, xup_at, xb, mI, mI_56, mI_come, come_o, mI_inh, inh2]
theorem ob_X11_pay_101_in (nb nn : Nat) (a : Int32) (b : Int32) (v : Int32) (M : xM) (hp0 : mI M) (handed : Int32) (more : Int32) (n : Nat) (worst : Int32) (k : Int32) (N_ : xM) (hmu : xmu k (N_ 40 0 30) < n + 1) (hinv : mI N_ ∧ 0 ≤ k ∧ 0 ≤ a ∧ a ≤ 7 ∧ 0 ≤ b ∧ b ≤ 7 ∧ (worst = (-1000000) ∨ (0 ≤ worst ∧ worst < N_ 40 0 30))) (c_1 : ¬ (N_ 40 0 30) ≤ k) (c_2 : (N_ 85 0 k.toNatClampNeg) = a) (c_5 : ¬ 12 ≤ (N_ 91 0 k.toNatClampNeg)) (r_8 : Int32) (M_9 : xM) (er_8 : r_8 = (f_X11_inHundred k b N_).1) (eM_9 : M_9 = (f_X11_inHundred k b N_).2) : vp_in b 8 := by
  subst_vars
  exact xin (N := 8) (by grind [isTrader_eq, in_1_999, xup_at, xb, mI, mI_56, mI_come, come_o, mI_inh, inh2]) (by grind [isTrader_eq, in_1_999, xup_at, xb, mI, mI_56, mI_come, come_o, mI_inh, inh2]) (by decide)
theorem ob_X11_pay_57_mu_12 (nb nn : Nat) (a : Int32) (b : Int32) (v : Int32) (M : xM) (hp0 : mI M) (handed : Int32) (more : Int32) (n : Nat) (worst : Int32) (k : Int32) (N_ : xM) (hmu : xmu k (N_ 40 0 30) < n + 1) (hinv : mI N_ ∧ 0 ≤ k ∧ 0 ≤ a ∧ a ≤ 7 ∧ 0 ≤ b ∧ b ≤ 7 ∧ (worst = (-1000000) ∨ (0 ≤ worst ∧ worst < N_ 40 0 30))) (c_1 : ¬ (N_ 40 0 30) ≤ k) (c_2 : (N_ 85 0 k.toNatClampNeg) = a) (c_5 : ¬ 12 ≤ (N_ 91 0 k.toNatClampNeg)) (r_8 : Int32) (M_9 : xM) (er_8 : r_8 = (f_X11_inHundred k b N_).1) (eM_9 : M_9 = (f_X11_inHundred k b N_).2) (c_10 : r_8 < (M_9 95 0 b.toNatClampNeg)) (x7_12 : Int32) (ex7_12 : x7_12 = k + 1) : xmu x7_12 (M_9 40 0 30) < n := by
  subst_vars
  have h9 := xmu_up (a := k) (b := N_ 40 0 30) (by grind)
  (try simp only [inh2 (show ¬ (40 : Nat) = 56 by decide)])
  omega
theorem ob_X11_pay_57_inv_12 (nb nn : Nat) (a : Int32) (b : Int32) (v : Int32) (M : xM) (hp0 : mI M) (handed : Int32) (more : Int32) (n : Nat) (worst : Int32) (k : Int32) (N_ : xM) (hmu : xmu k (N_ 40 0 30) < n + 1) (hinv : mI N_ ∧ 0 ≤ k ∧ 0 ≤ a ∧ a ≤ 7 ∧ 0 ≤ b ∧ b ≤ 7 ∧ (worst = (-1000000) ∨ (0 ≤ worst ∧ worst < N_ 40 0 30))) (c_1 : ¬ (N_ 40 0 30) ≤ k) (c_2 : (N_ 85 0 k.toNatClampNeg) = a) (c_5 : ¬ 12 ≤ (N_ 91 0 k.toNatClampNeg)) (r_8 : Int32) (M_9 : xM) (er_8 : r_8 = (f_X11_inHundred k b N_).1) (eM_9 : M_9 = (f_X11_inHundred k b N_).2) (c_10 : r_8 < (M_9 95 0 b.toNatClampNeg)) (x7_12 : Int32) (ex7_12 : x7_12 = k + 1) : mI M_9 ∧ 0 ≤ x7_12 ∧ 0 ≤ a ∧ a ≤ 7 ∧ 0 ≤ b ∧ b ≤ 7 ∧ (worst = (-1000000) ∨ (0 ≤ worst ∧ worst < M_9 40 0 30)) := by
  subst_vars
  grind [isTrader_eq, in_1_999, xup_at, xb, mI, mI_56, mI_come, come_o, mI_inh, inh2]
theorem ob_X11_pay_57_mu_15 (nb nn : Nat) (a : Int32) (b : Int32) (v : Int32) (M : xM) (hp0 : mI M) (handed : Int32) (more : Int32) (n : Nat) (worst : Int32) (k : Int32) (N_ : xM) (hmu : xmu k (N_ 40 0 30) < n + 1) (hinv : mI N_ ∧ 0 ≤ k ∧ 0 ≤ a ∧ a ≤ 7 ∧ 0 ≤ b ∧ b ≤ 7 ∧ (worst = (-1000000) ∨ (0 ≤ worst ∧ worst < N_ 40 0 30))) (c_1 : ¬ (N_ 40 0 30) ≤ k) (c_2 : (N_ 85 0 k.toNatClampNeg) = a) (c_5 : ¬ 12 ≤ (N_ 91 0 k.toNatClampNeg)) (r_8 : Int32) (M_9 : xM) (er_8 : r_8 = (f_X11_inHundred k b N_).1) (eM_9 : M_9 = (f_X11_inHundred k b N_).2) (c_10 : ¬ r_8 < (M_9 95 0 b.toNatClampNeg)) (c_14 : worst = (-1000000)) (x7_15 : Int32) (ex7_15 : x7_15 = k + 1) : xmu x7_15 (M_9 40 0 30) < n := by
  subst_vars
  have h9 := xmu_up (a := k) (b := N_ 40 0 30) (by grind)
  (try simp only [inh2 (show ¬ (40 : Nat) = 56 by decide)])
  omega
theorem ob_X11_pay_57_inv_15 (nb nn : Nat) (a : Int32) (b : Int32) (v : Int32) (M : xM) (hp0 : mI M) (handed : Int32) (more : Int32) (n : Nat) (worst : Int32) (k : Int32) (N_ : xM) (hmu : xmu k (N_ 40 0 30) < n + 1) (hinv : mI N_ ∧ 0 ≤ k ∧ 0 ≤ a ∧ a ≤ 7 ∧ 0 ≤ b ∧ b ≤ 7 ∧ (worst = (-1000000) ∨ (0 ≤ worst ∧ worst < N_ 40 0 30))) (c_1 : ¬ (N_ 40 0 30) ≤ k) (c_2 : (N_ 85 0 k.toNatClampNeg) = a) (c_5 : ¬ 12 ≤ (N_ 91 0 k.toNatClampNeg)) (r_8 : Int32) (M_9 : xM) (er_8 : r_8 = (f_X11_inHundred k b N_).1) (eM_9 : M_9 = (f_X11_inHundred k b N_).2) (c_10 : ¬ r_8 < (M_9 95 0 b.toNatClampNeg)) (c_14 : worst = (-1000000)) (x7_15 : Int32) (ex7_15 : x7_15 = k + 1) : mI M_9 ∧ 0 ≤ x7_15 ∧ 0 ≤ a ∧ a ≤ 7 ∧ 0 ≤ b ∧ b ≤ 7 ∧ (k = (-1000000) ∨ (0 ≤ k ∧ k < M_9 40 0 30)) := by
  subst_vars
  grind [isTrader_eq, in_1_999, xup_at, xb, mI, mI_56, mI_come, come_o, mI_inh, inh2]
theorem ob_X11_pay_128_p0 (nb nn : Nat) (a : Int32) (b : Int32) (v : Int32) (M : xM) (hp0 : mI M) (handed : Int32) (more : Int32) (n : Nat) (worst : Int32) (k : Int32) (N_ : xM) (hmu : xmu k (N_ 40 0 30) < n + 1) (hinv : mI N_ ∧ 0 ≤ k ∧ 0 ≤ a ∧ a ≤ 7 ∧ 0 ≤ b ∧ b ≤ 7 ∧ (worst = (-1000000) ∨ (0 ≤ worst ∧ worst < N_ 40 0 30))) (c_1 : ¬ (N_ 40 0 30) ≤ k) (c_2 : (N_ 85 0 k.toNatClampNeg) = a) (c_5 : ¬ 12 ≤ (N_ 91 0 k.toNatClampNeg)) (r_8 : Int32) (M_9 : xM) (er_8 : r_8 = (f_X11_inHundred k b N_).1) (eM_9 : M_9 = (f_X11_inHundred k b N_).2) (c_10 : ¬ r_8 < (M_9 95 0 b.toNatClampNeg)) (c_14 : ¬ worst = (-1000000)) : 0 ≤ k := by
  subst_vars
  grind [isTrader_eq, in_1_999, xup_at, xb, mI, mI_56, mI_come, come_o, mI_inh, inh2]
theorem ob_X11_pay_128_p1 (nb nn : Nat) (a : Int32) (b : Int32) (v : Int32) (M : xM) (hp0 : mI M) (handed : Int32) (more : Int32) (n : Nat) (worst : Int32) (k : Int32) (N_ : xM) (hmu : xmu k (N_ 40 0 30) < n + 1) (hinv : mI N_ ∧ 0 ≤ k ∧ 0 ≤ a ∧ a ≤ 7 ∧ 0 ≤ b ∧ b ≤ 7 ∧ (worst = (-1000000) ∨ (0 ≤ worst ∧ worst < N_ 40 0 30))) (c_1 : ¬ (N_ 40 0 30) ≤ k) (c_2 : (N_ 85 0 k.toNatClampNeg) = a) (c_5 : ¬ 12 ≤ (N_ 91 0 k.toNatClampNeg)) (r_8 : Int32) (M_9 : xM) (er_8 : r_8 = (f_X11_inHundred k b N_).1) (eM_9 : M_9 = (f_X11_inHundred k b N_).2) (c_10 : ¬ r_8 < (M_9 95 0 b.toNatClampNeg)) (c_14 : ¬ worst = (-1000000)) : k < 24 := by
  subst_vars
  grind [isTrader_eq, in_1_999, xup_at, xb, mI, mI_56, mI_come, come_o, mI_inh, inh2]
theorem ob_X11_pay_128_p2 (nb nn : Nat) (a : Int32) (b : Int32) (v : Int32) (M : xM) (hp0 : mI M) (handed : Int32) (more : Int32) (n : Nat) (worst : Int32) (k : Int32) (N_ : xM) (hmu : xmu k (N_ 40 0 30) < n + 1) (hinv : mI N_ ∧ 0 ≤ k ∧ 0 ≤ a ∧ a ≤ 7 ∧ 0 ≤ b ∧ b ≤ 7 ∧ (worst = (-1000000) ∨ (0 ≤ worst ∧ worst < N_ 40 0 30))) (c_1 : ¬ (N_ 40 0 30) ≤ k) (c_2 : (N_ 85 0 k.toNatClampNeg) = a) (c_5 : ¬ 12 ≤ (N_ 91 0 k.toNatClampNeg)) (r_8 : Int32) (M_9 : xM) (er_8 : r_8 = (f_X11_inHundred k b N_).1) (eM_9 : M_9 = (f_X11_inHundred k b N_).2) (c_10 : ¬ r_8 < (M_9 95 0 b.toNatClampNeg)) (c_14 : ¬ worst = (-1000000)) : 0 ≤ a := by
  subst_vars
  grind [isTrader_eq, in_1_999, xup_at, xb, mI, mI_56, mI_come, come_o, mI_inh, inh2]
theorem ob_X11_pay_128_p3 (nb nn : Nat) (a : Int32) (b : Int32) (v : Int32) (M : xM) (hp0 : mI M) (handed : Int32) (more : Int32) (n : Nat) (worst : Int32) (k : Int32) (N_ : xM) (hmu : xmu k (N_ 40 0 30) < n + 1) (hinv : mI N_ ∧ 0 ≤ k ∧ 0 ≤ a ∧ a ≤ 7 ∧ 0 ≤ b ∧ b ≤ 7 ∧ (worst = (-1000000) ∨ (0 ≤ worst ∧ worst < N_ 40 0 30))) (c_1 : ¬ (N_ 40 0 30) ≤ k) (c_2 : (N_ 85 0 k.toNatClampNeg) = a) (c_5 : ¬ 12 ≤ (N_ 91 0 k.toNatClampNeg)) (r_8 : Int32) (M_9 : xM) (er_8 : r_8 = (f_X11_inHundred k b N_).1) (eM_9 : M_9 = (f_X11_inHundred k b N_).2) (c_10 : ¬ r_8 < (M_9 95 0 b.toNatClampNeg)) (c_14 : ¬ worst = (-1000000)) : a ≤ 7 := by
  subst_vars
  grind [isTrader_eq, in_1_999, xup_at, xb, mI, mI_56, mI_come, come_o, mI_inh, inh2]
theorem ob_X11_pay_128_p4 (nb nn : Nat) (a : Int32) (b : Int32) (v : Int32) (M : xM) (hp0 : mI M) (handed : Int32) (more : Int32) (n : Nat) (worst : Int32) (k : Int32) (N_ : xM) (hmu : xmu k (N_ 40 0 30) < n + 1) (hinv : mI N_ ∧ 0 ≤ k ∧ 0 ≤ a ∧ a ≤ 7 ∧ 0 ≤ b ∧ b ≤ 7 ∧ (worst = (-1000000) ∨ (0 ≤ worst ∧ worst < N_ 40 0 30))) (c_1 : ¬ (N_ 40 0 30) ≤ k) (c_2 : (N_ 85 0 k.toNatClampNeg) = a) (c_5 : ¬ 12 ≤ (N_ 91 0 k.toNatClampNeg)) (r_8 : Int32) (M_9 : xM) (er_8 : r_8 = (f_X11_inHundred k b N_).1) (eM_9 : M_9 = (f_X11_inHundred k b N_).2) (c_10 : ¬ r_8 < (M_9 95 0 b.toNatClampNeg)) (c_14 : ¬ worst = (-1000000)) : mI M_9 := by
  subst_vars
  grind [isTrader_eq, in_1_999, xup_at, xb, mI, mI_56, mI_come, come_o, mI_inh, inh2]
theorem ob_X11_pay_128_p5 (nb nn : Nat) (a : Int32) (b : Int32) (v : Int32) (M : xM) (hp0 : mI M) (handed : Int32) (more : Int32) (n : Nat) (worst : Int32) (k : Int32) (N_ : xM) (hmu : xmu k (N_ 40 0 30) < n + 1) (hinv : mI N_ ∧ 0 ≤ k ∧ 0 ≤ a ∧ a ≤ 7 ∧ 0 ≤ b ∧ b ≤ 7 ∧ (worst = (-1000000) ∨ (0 ≤ worst ∧ worst < N_ 40 0 30))) (c_1 : ¬ (N_ 40 0 30) ≤ k) (c_2 : (N_ 85 0 k.toNatClampNeg) = a) (c_5 : ¬ 12 ≤ (N_ 91 0 k.toNatClampNeg)) (r_8 : Int32) (M_9 : xM) (er_8 : r_8 = (f_X11_inHundred k b N_).1) (eM_9 : M_9 = (f_X11_inHundred k b N_).2) (c_10 : ¬ r_8 < (M_9 95 0 b.toNatClampNeg)) (c_14 : ¬ worst = (-1000000)) : k < M_9 40 0 30 := by
  subst_vars
  grind [isTrader_eq, in_1_999, xup_at, xb, mI, mI_56, mI_come, come_o, mI_inh, inh2]
theorem ob_X11_pay_135_p0 (nb nn : Nat) (a : Int32) (b : Int32) (v : Int32) (M : xM) (hp0 : mI M) (handed : Int32) (more : Int32) (n : Nat) (worst : Int32) (k : Int32) (N_ : xM) (hmu : xmu k (N_ 40 0 30) < n + 1) (hinv : mI N_ ∧ 0 ≤ k ∧ 0 ≤ a ∧ a ≤ 7 ∧ 0 ≤ b ∧ b ≤ 7 ∧ (worst = (-1000000) ∨ (0 ≤ worst ∧ worst < N_ 40 0 30))) (c_1 : ¬ (N_ 40 0 30) ≤ k) (c_2 : (N_ 85 0 k.toNatClampNeg) = a) (c_5 : ¬ 12 ≤ (N_ 91 0 k.toNatClampNeg)) (r_8 : Int32) (M_9 : xM) (er_8 : r_8 = (f_X11_inHundred k b N_).1) (eM_9 : M_9 = (f_X11_inHundred k b N_).2) (c_10 : ¬ r_8 < (M_9 95 0 b.toNatClampNeg)) (c_14 : ¬ worst = (-1000000)) (r_16 : Int32) (M_17 : xM) (er_16 : r_16 = (f_X11_inHundred k a M_9).1) (eM_17 : M_17 = (f_X11_inHundred k a M_9).2) : 0 ≤ worst := by
  subst_vars
  grind [isTrader_eq, in_1_999, xup_at, xb, mI, mI_56, mI_come, come_o, mI_inh, inh2]
theorem ob_X11_pay_135_p1 (nb nn : Nat) (a : Int32) (b : Int32) (v : Int32) (M : xM) (hp0 : mI M) (handed : Int32) (more : Int32) (n : Nat) (worst : Int32) (k : Int32) (N_ : xM) (hmu : xmu k (N_ 40 0 30) < n + 1) (hinv : mI N_ ∧ 0 ≤ k ∧ 0 ≤ a ∧ a ≤ 7 ∧ 0 ≤ b ∧ b ≤ 7 ∧ (worst = (-1000000) ∨ (0 ≤ worst ∧ worst < N_ 40 0 30))) (c_1 : ¬ (N_ 40 0 30) ≤ k) (c_2 : (N_ 85 0 k.toNatClampNeg) = a) (c_5 : ¬ 12 ≤ (N_ 91 0 k.toNatClampNeg)) (r_8 : Int32) (M_9 : xM) (er_8 : r_8 = (f_X11_inHundred k b N_).1) (eM_9 : M_9 = (f_X11_inHundred k b N_).2) (c_10 : ¬ r_8 < (M_9 95 0 b.toNatClampNeg)) (c_14 : ¬ worst = (-1000000)) (r_16 : Int32) (M_17 : xM) (er_16 : r_16 = (f_X11_inHundred k a M_9).1) (eM_17 : M_17 = (f_X11_inHundred k a M_9).2) : worst < 24 := by
  subst_vars
  grind [isTrader_eq, in_1_999, xup_at, xb, mI, mI_56, mI_come, come_o, mI_inh, inh2]
theorem ob_X11_pay_135_p2 (nb nn : Nat) (a : Int32) (b : Int32) (v : Int32) (M : xM) (hp0 : mI M) (handed : Int32) (more : Int32) (n : Nat) (worst : Int32) (k : Int32) (N_ : xM) (hmu : xmu k (N_ 40 0 30) < n + 1) (hinv : mI N_ ∧ 0 ≤ k ∧ 0 ≤ a ∧ a ≤ 7 ∧ 0 ≤ b ∧ b ≤ 7 ∧ (worst = (-1000000) ∨ (0 ≤ worst ∧ worst < N_ 40 0 30))) (c_1 : ¬ (N_ 40 0 30) ≤ k) (c_2 : (N_ 85 0 k.toNatClampNeg) = a) (c_5 : ¬ 12 ≤ (N_ 91 0 k.toNatClampNeg)) (r_8 : Int32) (M_9 : xM) (er_8 : r_8 = (f_X11_inHundred k b N_).1) (eM_9 : M_9 = (f_X11_inHundred k b N_).2) (c_10 : ¬ r_8 < (M_9 95 0 b.toNatClampNeg)) (c_14 : ¬ worst = (-1000000)) (r_16 : Int32) (M_17 : xM) (er_16 : r_16 = (f_X11_inHundred k a M_9).1) (eM_17 : M_17 = (f_X11_inHundred k a M_9).2) : 0 ≤ a := by
  subst_vars
  grind [isTrader_eq, in_1_999, xup_at, xb, mI, mI_56, mI_come, come_o, mI_inh, inh2]
theorem ob_X11_pay_135_p3 (nb nn : Nat) (a : Int32) (b : Int32) (v : Int32) (M : xM) (hp0 : mI M) (handed : Int32) (more : Int32) (n : Nat) (worst : Int32) (k : Int32) (N_ : xM) (hmu : xmu k (N_ 40 0 30) < n + 1) (hinv : mI N_ ∧ 0 ≤ k ∧ 0 ≤ a ∧ a ≤ 7 ∧ 0 ≤ b ∧ b ≤ 7 ∧ (worst = (-1000000) ∨ (0 ≤ worst ∧ worst < N_ 40 0 30))) (c_1 : ¬ (N_ 40 0 30) ≤ k) (c_2 : (N_ 85 0 k.toNatClampNeg) = a) (c_5 : ¬ 12 ≤ (N_ 91 0 k.toNatClampNeg)) (r_8 : Int32) (M_9 : xM) (er_8 : r_8 = (f_X11_inHundred k b N_).1) (eM_9 : M_9 = (f_X11_inHundred k b N_).2) (c_10 : ¬ r_8 < (M_9 95 0 b.toNatClampNeg)) (c_14 : ¬ worst = (-1000000)) (r_16 : Int32) (M_17 : xM) (er_16 : r_16 = (f_X11_inHundred k a M_9).1) (eM_17 : M_17 = (f_X11_inHundred k a M_9).2) : a ≤ 7 := by
  subst_vars
  grind [isTrader_eq, in_1_999, xup_at, xb, mI, mI_56, mI_come, come_o, mI_inh, inh2]
theorem ob_X11_pay_135_p4 (nb nn : Nat) (a : Int32) (b : Int32) (v : Int32) (M : xM) (hp0 : mI M) (handed : Int32) (more : Int32) (n : Nat) (worst : Int32) (k : Int32) (N_ : xM) (hmu : xmu k (N_ 40 0 30) < n + 1) (hinv : mI N_ ∧ 0 ≤ k ∧ 0 ≤ a ∧ a ≤ 7 ∧ 0 ≤ b ∧ b ≤ 7 ∧ (worst = (-1000000) ∨ (0 ≤ worst ∧ worst < N_ 40 0 30))) (c_1 : ¬ (N_ 40 0 30) ≤ k) (c_2 : (N_ 85 0 k.toNatClampNeg) = a) (c_5 : ¬ 12 ≤ (N_ 91 0 k.toNatClampNeg)) (r_8 : Int32) (M_9 : xM) (er_8 : r_8 = (f_X11_inHundred k b N_).1) (eM_9 : M_9 = (f_X11_inHundred k b N_).2) (c_10 : ¬ r_8 < (M_9 95 0 b.toNatClampNeg)) (c_14 : ¬ worst = (-1000000)) (r_16 : Int32) (M_17 : xM) (er_16 : r_16 = (f_X11_inHundred k a M_9).1) (eM_17 : M_17 = (f_X11_inHundred k a M_9).2) : mI M_17 := by
  subst_vars
  grind [isTrader_eq, in_1_999, xup_at, xb, mI, mI_56, mI_come, come_o, mI_inh, inh2]
theorem ob_X11_pay_135_p5 (nb nn : Nat) (a : Int32) (b : Int32) (v : Int32) (M : xM) (hp0 : mI M) (handed : Int32) (more : Int32) (n : Nat) (worst : Int32) (k : Int32) (N_ : xM) (hmu : xmu k (N_ 40 0 30) < n + 1) (hinv : mI N_ ∧ 0 ≤ k ∧ 0 ≤ a ∧ a ≤ 7 ∧ 0 ≤ b ∧ b ≤ 7 ∧ (worst = (-1000000) ∨ (0 ≤ worst ∧ worst < N_ 40 0 30))) (c_1 : ¬ (N_ 40 0 30) ≤ k) (c_2 : (N_ 85 0 k.toNatClampNeg) = a) (c_5 : ¬ 12 ≤ (N_ 91 0 k.toNatClampNeg)) (r_8 : Int32) (M_9 : xM) (er_8 : r_8 = (f_X11_inHundred k b N_).1) (eM_9 : M_9 = (f_X11_inHundred k b N_).2) (c_10 : ¬ r_8 < (M_9 95 0 b.toNatClampNeg)) (c_14 : ¬ worst = (-1000000)) (r_16 : Int32) (M_17 : xM) (er_16 : r_16 = (f_X11_inHundred k a M_9).1) (eM_17 : M_17 = (f_X11_inHundred k a M_9).2) : worst < M_17 40 0 30 := by
  subst_vars
  grind [isTrader_eq, in_1_999, xup_at, xb, mI, mI_56, mI_come, come_o, mI_inh, inh2]
theorem ob_X11_pay_57_mu_21 (nb nn : Nat) (a : Int32) (b : Int32) (v : Int32) (M : xM) (hp0 : mI M) (handed : Int32) (more : Int32) (n : Nat) (worst : Int32) (k : Int32) (N_ : xM) (hmu : xmu k (N_ 40 0 30) < n + 1) (hinv : mI N_ ∧ 0 ≤ k ∧ 0 ≤ a ∧ a ≤ 7 ∧ 0 ≤ b ∧ b ≤ 7 ∧ (worst = (-1000000) ∨ (0 ≤ worst ∧ worst < N_ 40 0 30))) (c_1 : ¬ (N_ 40 0 30) ≤ k) (c_2 : (N_ 85 0 k.toNatClampNeg) = a) (c_5 : ¬ 12 ≤ (N_ 91 0 k.toNatClampNeg)) (r_8 : Int32) (M_9 : xM) (er_8 : r_8 = (f_X11_inHundred k b N_).1) (eM_9 : M_9 = (f_X11_inHundred k b N_).2) (c_10 : ¬ r_8 < (M_9 95 0 b.toNatClampNeg)) (c_14 : ¬ worst = (-1000000)) (r_16 : Int32) (M_17 : xM) (er_16 : r_16 = (f_X11_inHundred k a M_9).1) (eM_17 : M_17 = (f_X11_inHundred k a M_9).2) (r_18 : Int32) (M_19 : xM) (er_18 : r_18 = (f_X11_inHundred worst a M_17).1) (eM_19 : M_19 = (f_X11_inHundred worst a M_17).2) (c_20 : r_18 ≤ r_16) (x7_21 : Int32) (ex7_21 : x7_21 = k + 1) : xmu x7_21 (M_19 40 0 30) < n := by
  subst_vars
  have h9 := xmu_up (a := k) (b := N_ 40 0 30) (by grind)
  (try simp only [inh2 (show ¬ (40 : Nat) = 56 by decide)])
  omega
theorem ob_X11_pay_57_inv_21 (nb nn : Nat) (a : Int32) (b : Int32) (v : Int32) (M : xM) (hp0 : mI M) (handed : Int32) (more : Int32) (n : Nat) (worst : Int32) (k : Int32) (N_ : xM) (hmu : xmu k (N_ 40 0 30) < n + 1) (hinv : mI N_ ∧ 0 ≤ k ∧ 0 ≤ a ∧ a ≤ 7 ∧ 0 ≤ b ∧ b ≤ 7 ∧ (worst = (-1000000) ∨ (0 ≤ worst ∧ worst < N_ 40 0 30))) (c_1 : ¬ (N_ 40 0 30) ≤ k) (c_2 : (N_ 85 0 k.toNatClampNeg) = a) (c_5 : ¬ 12 ≤ (N_ 91 0 k.toNatClampNeg)) (r_8 : Int32) (M_9 : xM) (er_8 : r_8 = (f_X11_inHundred k b N_).1) (eM_9 : M_9 = (f_X11_inHundred k b N_).2) (c_10 : ¬ r_8 < (M_9 95 0 b.toNatClampNeg)) (c_14 : ¬ worst = (-1000000)) (r_16 : Int32) (M_17 : xM) (er_16 : r_16 = (f_X11_inHundred k a M_9).1) (eM_17 : M_17 = (f_X11_inHundred k a M_9).2) (r_18 : Int32) (M_19 : xM) (er_18 : r_18 = (f_X11_inHundred worst a M_17).1) (eM_19 : M_19 = (f_X11_inHundred worst a M_17).2) (c_20 : r_18 ≤ r_16) (x7_21 : Int32) (ex7_21 : x7_21 = k + 1) : mI M_19 ∧ 0 ≤ x7_21 ∧ 0 ≤ a ∧ a ≤ 7 ∧ 0 ≤ b ∧ b ≤ 7 ∧ (worst = (-1000000) ∨ (0 ≤ worst ∧ worst < M_19 40 0 30)) := by
  subst_vars
  grind [isTrader_eq, in_1_999, xup_at, xb, mI, mI_56, mI_come, come_o, mI_inh, inh2]
theorem ob_X11_pay_57_mu_22 (nb nn : Nat) (a : Int32) (b : Int32) (v : Int32) (M : xM) (hp0 : mI M) (handed : Int32) (more : Int32) (n : Nat) (worst : Int32) (k : Int32) (N_ : xM) (hmu : xmu k (N_ 40 0 30) < n + 1) (hinv : mI N_ ∧ 0 ≤ k ∧ 0 ≤ a ∧ a ≤ 7 ∧ 0 ≤ b ∧ b ≤ 7 ∧ (worst = (-1000000) ∨ (0 ≤ worst ∧ worst < N_ 40 0 30))) (c_1 : ¬ (N_ 40 0 30) ≤ k) (c_2 : (N_ 85 0 k.toNatClampNeg) = a) (c_5 : ¬ 12 ≤ (N_ 91 0 k.toNatClampNeg)) (r_8 : Int32) (M_9 : xM) (er_8 : r_8 = (f_X11_inHundred k b N_).1) (eM_9 : M_9 = (f_X11_inHundred k b N_).2) (c_10 : ¬ r_8 < (M_9 95 0 b.toNatClampNeg)) (c_14 : ¬ worst = (-1000000)) (r_16 : Int32) (M_17 : xM) (er_16 : r_16 = (f_X11_inHundred k a M_9).1) (eM_17 : M_17 = (f_X11_inHundred k a M_9).2) (r_18 : Int32) (M_19 : xM) (er_18 : r_18 = (f_X11_inHundred worst a M_17).1) (eM_19 : M_19 = (f_X11_inHundred worst a M_17).2) (c_20 : ¬ r_18 ≤ r_16) (x7_22 : Int32) (ex7_22 : x7_22 = k + 1) : xmu x7_22 (M_19 40 0 30) < n := by
  subst_vars
  have h9 := xmu_up (a := k) (b := N_ 40 0 30) (by grind)
  (try simp only [inh2 (show ¬ (40 : Nat) = 56 by decide)])
  omega
theorem ob_X11_pay_57_inv_22 (nb nn : Nat) (a : Int32) (b : Int32) (v : Int32) (M : xM) (hp0 : mI M) (handed : Int32) (more : Int32) (n : Nat) (worst : Int32) (k : Int32) (N_ : xM) (hmu : xmu k (N_ 40 0 30) < n + 1) (hinv : mI N_ ∧ 0 ≤ k ∧ 0 ≤ a ∧ a ≤ 7 ∧ 0 ≤ b ∧ b ≤ 7 ∧ (worst = (-1000000) ∨ (0 ≤ worst ∧ worst < N_ 40 0 30))) (c_1 : ¬ (N_ 40 0 30) ≤ k) (c_2 : (N_ 85 0 k.toNatClampNeg) = a) (c_5 : ¬ 12 ≤ (N_ 91 0 k.toNatClampNeg)) (r_8 : Int32) (M_9 : xM) (er_8 : r_8 = (f_X11_inHundred k b N_).1) (eM_9 : M_9 = (f_X11_inHundred k b N_).2) (c_10 : ¬ r_8 < (M_9 95 0 b.toNatClampNeg)) (c_14 : ¬ worst = (-1000000)) (r_16 : Int32) (M_17 : xM) (er_16 : r_16 = (f_X11_inHundred k a M_9).1) (eM_17 : M_17 = (f_X11_inHundred k a M_9).2) (r_18 : Int32) (M_19 : xM) (er_18 : r_18 = (f_X11_inHundred worst a M_17).1) (eM_19 : M_19 = (f_X11_inHundred worst a M_17).2) (c_20 : ¬ r_18 ≤ r_16) (x7_22 : Int32) (ex7_22 : x7_22 = k + 1) : mI M_19 ∧ 0 ≤ x7_22 ∧ 0 ≤ a ∧ a ≤ 7 ∧ 0 ≤ b ∧ b ≤ 7 ∧ (k = (-1000000) ∨ (0 ≤ k ∧ k < M_19 40 0 30)) := by
  subst_vars
  grind [isTrader_eq, in_1_999, xup_at, xb, mI, mI_56, mI_come, come_o, mI_inh, inh2]
theorem ob_X11_pay_210_x45 (nb nn : Nat) (a : Int32) (b : Int32) (v : Int32) (M : xM) (hp0 : mI M) (n : Nat) (handed : Int32) (more : Int32) (N_ : xM) (hmu : (if more = 0 then 0 else 1 + xmu handed v) < n + 1) (hinv : mI N_ ∧ 0 ≤ a ∧ a ≤ 7 ∧ 0 ≤ b ∧ b ≤ 7 ∧ v ≤ 999 ∧ 0 ≤ handed ∧ (more = 0 ∨ handed < v)) (c_23 : more = 0) : mI N_ ∧ 0 ≤ a ∧ a ≤ 7 ∧ 0 ≤ b ∧ b ≤ 7 ∧ v ≤ 999 ∧ 0 ≤ handed ∧ (more = 0 ∨ handed < v) := by
  subst_vars
  grind [isTrader_eq, in_1_999, xup_at, xb, mI, mI_56, mI_come, come_o, mI_inh, inh2]
theorem ob_X11_pay_57_ini_23 (nb nn : Nat) (a : Int32) (b : Int32) (v : Int32) (M : xM) (hp0 : mI M) (n : Nat) (handed : Int32) (more : Int32) (N_ : xM) (hmu : (if more = 0 then 0 else 1 + xmu handed v) < n + 1) (hinv : mI N_ ∧ 0 ≤ a ∧ a ≤ 7 ∧ 0 ≤ b ∧ b ≤ 7 ∧ v ≤ 999 ∧ 0 ≤ handed ∧ (more = 0 ∨ handed < v)) (c_23 : ¬ more = 0) : mI N_ ∧ 0 ≤ (0 : Int32) ∧ 0 ≤ a ∧ a ≤ 7 ∧ 0 ≤ b ∧ b ≤ 7 ∧ ((-1000000 : Int32) = (-1000000) ∨ (0 ≤ (-1000000 : Int32) ∧ (-1000000 : Int32) < N_ 40 0 30)) := by
  subst_vars
  grind [isTrader_eq, in_1_999, xup_at, xb, mI, mI_56, mI_come, come_o, mI_inh, inh2]
theorem ob_X11_pay_45_mu_28 (nb nn : Nat) (a : Int32) (b : Int32) (v : Int32) (M : xM) (hp0 : mI M) (n : Nat) (handed : Int32) (more : Int32) (N_ : xM) (hmu : (if more = 0 then 0 else 1 + xmu handed v) < n + 1) (hinv : mI N_ ∧ 0 ≤ a ∧ a ≤ 7 ∧ 0 ≤ b ∧ b ≤ 7 ∧ v ≤ 999 ∧ 0 ≤ handed ∧ (more = 0 ∨ handed < v)) (c_23 : ¬ more = 0) (worst_24 : Int32) (k_25 : Int32) (M_26 : xM) (hiv_26 : mI M_26 ∧ 0 ≤ k_25 ∧ 0 ≤ a ∧ a ≤ 7 ∧ 0 ≤ b ∧ b ≤ 7 ∧ (worst_24 = (-1000000) ∨ (0 ≤ worst_24 ∧ worst_24 < M_26 40 0 30))) (c_27 : worst_24 = (-1000000)) : (if (0 : Int32) = 0 then 0 else 1 + xmu handed v) < n := by
  subst_vars
  have h7 : ¬ more = 0 := by assumption
  rw [if_neg h7] at hmu
  first
  | (rw [if_pos rfl]; omega)
  | (rw [if_neg (by decide)]; have h9 := fun x => @xmu_mono handed x v; grind [mI, mI_come, come_o])
theorem ob_X11_pay_45_inv_28 (nb nn : Nat) (a : Int32) (b : Int32) (v : Int32) (M : xM) (hp0 : mI M) (n : Nat) (handed : Int32) (more : Int32) (N_ : xM) (hmu : (if more = 0 then 0 else 1 + xmu handed v) < n + 1) (hinv : mI N_ ∧ 0 ≤ a ∧ a ≤ 7 ∧ 0 ≤ b ∧ b ≤ 7 ∧ v ≤ 999 ∧ 0 ≤ handed ∧ (more = 0 ∨ handed < v)) (c_23 : ¬ more = 0) (worst_24 : Int32) (k_25 : Int32) (M_26 : xM) (hiv_26 : mI M_26 ∧ 0 ≤ k_25 ∧ 0 ≤ a ∧ a ≤ 7 ∧ 0 ≤ b ∧ b ≤ 7 ∧ (worst_24 = (-1000000) ∨ (0 ≤ worst_24 ∧ worst_24 < M_26 40 0 30))) (c_27 : worst_24 = (-1000000)) : mI M_26 ∧ 0 ≤ a ∧ a ≤ 7 ∧ 0 ≤ b ∧ b ≤ 7 ∧ v ≤ 999 ∧ 0 ≤ handed ∧ ((0 : Int32) = 0 ∨ handed < v) := by
  subst_vars
  grind [isTrader_eq, in_1_999, xup_at, xb, mI, mI_56, mI_come, come_o, mI_inh, inh2]
theorem ob_X11_pay_179_p0 (nb nn : Nat) (a : Int32) (b : Int32) (v : Int32) (M : xM) (hp0 : mI M) (n : Nat) (handed : Int32) (more : Int32) (N_ : xM) (hmu : (if more = 0 then 0 else 1 + xmu handed v) < n + 1) (hinv : mI N_ ∧ 0 ≤ a ∧ a ≤ 7 ∧ 0 ≤ b ∧ b ≤ 7 ∧ v ≤ 999 ∧ 0 ≤ handed ∧ (more = 0 ∨ handed < v)) (c_23 : ¬ more = 0) (worst_24 : Int32) (k_25 : Int32) (M_26 : xM) (hiv_26 : mI M_26 ∧ 0 ≤ k_25 ∧ 0 ≤ a ∧ a ≤ 7 ∧ 0 ≤ b ∧ b ≤ 7 ∧ (worst_24 = (-1000000) ∨ (0 ≤ worst_24 ∧ worst_24 < M_26 40 0 30))) (c_27 : ¬ worst_24 = (-1000000)) : 0 ≤ worst_24 := by
  subst_vars
  grind [isTrader_eq, in_1_999, xup_at, xb, mI, mI_56, mI_come, come_o, mI_inh, inh2]
theorem ob_X11_pay_179_p1 (nb nn : Nat) (a : Int32) (b : Int32) (v : Int32) (M : xM) (hp0 : mI M) (n : Nat) (handed : Int32) (more : Int32) (N_ : xM) (hmu : (if more = 0 then 0 else 1 + xmu handed v) < n + 1) (hinv : mI N_ ∧ 0 ≤ a ∧ a ≤ 7 ∧ 0 ≤ b ∧ b ≤ 7 ∧ v ≤ 999 ∧ 0 ≤ handed ∧ (more = 0 ∨ handed < v)) (c_23 : ¬ more = 0) (worst_24 : Int32) (k_25 : Int32) (M_26 : xM) (hiv_26 : mI M_26 ∧ 0 ≤ k_25 ∧ 0 ≤ a ∧ a ≤ 7 ∧ 0 ≤ b ∧ b ≤ 7 ∧ (worst_24 = (-1000000) ∨ (0 ≤ worst_24 ∧ worst_24 < M_26 40 0 30))) (c_27 : ¬ worst_24 = (-1000000)) : worst_24 < 24 := by
  subst_vars
  grind [isTrader_eq, in_1_999, xup_at, xb, mI, mI_56, mI_come, come_o, mI_inh, inh2]
theorem ob_X11_pay_179_p2 (nb nn : Nat) (a : Int32) (b : Int32) (v : Int32) (M : xM) (hp0 : mI M) (n : Nat) (handed : Int32) (more : Int32) (N_ : xM) (hmu : (if more = 0 then 0 else 1 + xmu handed v) < n + 1) (hinv : mI N_ ∧ 0 ≤ a ∧ a ≤ 7 ∧ 0 ≤ b ∧ b ≤ 7 ∧ v ≤ 999 ∧ 0 ≤ handed ∧ (more = 0 ∨ handed < v)) (c_23 : ¬ more = 0) (worst_24 : Int32) (k_25 : Int32) (M_26 : xM) (hiv_26 : mI M_26 ∧ 0 ≤ k_25 ∧ 0 ≤ a ∧ a ≤ 7 ∧ 0 ≤ b ∧ b ≤ 7 ∧ (worst_24 = (-1000000) ∨ (0 ≤ worst_24 ∧ worst_24 < M_26 40 0 30))) (c_27 : ¬ worst_24 = (-1000000)) : ∀ j : Nat, 0 ≤ M_26 91 0 j ∧ M_26 91 0 j ≤ 12 := by
  subst_vars
  grind [isTrader_eq, in_1_999, xup_at, xb, mI, mI_56, mI_come, come_o, mI_inh, inh2]
theorem ob_X11_pay_190_in (nb nn : Nat) (a : Int32) (b : Int32) (v : Int32) (M : xM) (hp0 : mI M) (n : Nat) (handed : Int32) (more : Int32) (N_ : xM) (hmu : (if more = 0 then 0 else 1 + xmu handed v) < n + 1) (hinv : mI N_ ∧ 0 ≤ a ∧ a ≤ 7 ∧ 0 ≤ b ∧ b ≤ 7 ∧ v ≤ 999 ∧ 0 ≤ handed ∧ (more = 0 ∨ handed < v)) (c_23 : ¬ more = 0) (worst_24 : Int32) (k_25 : Int32) (M_26 : xM) (hiv_26 : mI M_26 ∧ 0 ≤ k_25 ∧ 0 ≤ a ∧ a ≤ 7 ∧ 0 ≤ b ∧ b ≤ 7 ∧ (worst_24 = (-1000000) ∨ (0 ≤ worst_24 ∧ worst_24 < M_26 40 0 30))) (c_27 : ¬ worst_24 = (-1000000)) (M_31 : xM) (eM_31 : M_31 = f_X11_comeTo worst_24 b M_26) : vp_in worst_24 24 := by
  subst_vars
  exact xin (N := 24) (by grind [isTrader_eq, in_1_999, xup_at, xb, mI, mI_56, mI_come, come_o, mI_inh, inh2]) (by grind [isTrader_eq, in_1_999, xup_at, xb, mI, mI_56, mI_come, come_o, mI_inh, inh2]) (by decide)
theorem ob_X11_pay_45_mu_33 (nb nn : Nat) (a : Int32) (b : Int32) (v : Int32) (M : xM) (hp0 : mI M) (n : Nat) (handed : Int32) (more : Int32) (N_ : xM) (hmu : (if more = 0 then 0 else 1 + xmu handed v) < n + 1) (hinv : mI N_ ∧ 0 ≤ a ∧ a ≤ 7 ∧ 0 ≤ b ∧ b ≤ 7 ∧ v ≤ 999 ∧ 0 ≤ handed ∧ (more = 0 ∨ handed < v)) (c_23 : ¬ more = 0) (worst_24 : Int32) (k_25 : Int32) (M_26 : xM) (hiv_26 : mI M_26 ∧ 0 ≤ k_25 ∧ 0 ≤ a ∧ a ≤ 7 ∧ 0 ≤ b ∧ b ≤ 7 ∧ (worst_24 = (-1000000) ∨ (0 ≤ worst_24 ∧ worst_24 < M_26 40 0 30))) (c_27 : ¬ worst_24 = (-1000000)) (M_31 : xM) (eM_31 : M_31 = f_X11_comeTo worst_24 b M_26) (x4_32 : Int32) (ex4_32 : x4_32 = (handed + (M_31 82 0 worst_24.toNatClampNeg))) (c_33 : v ≤ x4_32) : (if (0 : Int32) = 0 then 0 else 1 + xmu x4_32 v) < n := by
  subst_vars
  have h7 : ¬ more = 0 := by assumption
  rw [if_neg h7] at hmu
  first
  | (rw [if_pos rfl]; omega)
  | (rw [if_neg (by decide)]; have h9 := fun x => @xmu_mono handed x v; grind [mI, mI_come, come_o])
theorem ob_X11_pay_45_inv_33 (nb nn : Nat) (a : Int32) (b : Int32) (v : Int32) (M : xM) (hp0 : mI M) (n : Nat) (handed : Int32) (more : Int32) (N_ : xM) (hmu : (if more = 0 then 0 else 1 + xmu handed v) < n + 1) (hinv : mI N_ ∧ 0 ≤ a ∧ a ≤ 7 ∧ 0 ≤ b ∧ b ≤ 7 ∧ v ≤ 999 ∧ 0 ≤ handed ∧ (more = 0 ∨ handed < v)) (c_23 : ¬ more = 0) (worst_24 : Int32) (k_25 : Int32) (M_26 : xM) (hiv_26 : mI M_26 ∧ 0 ≤ k_25 ∧ 0 ≤ a ∧ a ≤ 7 ∧ 0 ≤ b ∧ b ≤ 7 ∧ (worst_24 = (-1000000) ∨ (0 ≤ worst_24 ∧ worst_24 < M_26 40 0 30))) (c_27 : ¬ worst_24 = (-1000000)) (M_31 : xM) (eM_31 : M_31 = f_X11_comeTo worst_24 b M_26) (x4_32 : Int32) (ex4_32 : x4_32 = (handed + (M_31 82 0 worst_24.toNatClampNeg))) (c_33 : v ≤ x4_32) : mI M_31 ∧ 0 ≤ a ∧ a ≤ 7 ∧ 0 ≤ b ∧ b ≤ 7 ∧ v ≤ 999 ∧ 0 ≤ x4_32 ∧ ((0 : Int32) = 0 ∨ x4_32 < v) := by
  subst_vars
  grind [isTrader_eq, in_1_999, xup_at, xb, mI, mI_56, mI_come, come_o, mI_inh, inh2]
theorem ob_X11_pay_45_mu_33_2 (nb nn : Nat) (a : Int32) (b : Int32) (v : Int32) (M : xM) (hp0 : mI M) (n : Nat) (handed : Int32) (more : Int32) (N_ : xM) (hmu : (if more = 0 then 0 else 1 + xmu handed v) < n + 1) (hinv : mI N_ ∧ 0 ≤ a ∧ a ≤ 7 ∧ 0 ≤ b ∧ b ≤ 7 ∧ v ≤ 999 ∧ 0 ≤ handed ∧ (more = 0 ∨ handed < v)) (c_23 : ¬ more = 0) (worst_24 : Int32) (k_25 : Int32) (M_26 : xM) (hiv_26 : mI M_26 ∧ 0 ≤ k_25 ∧ 0 ≤ a ∧ a ≤ 7 ∧ 0 ≤ b ∧ b ≤ 7 ∧ (worst_24 = (-1000000) ∨ (0 ≤ worst_24 ∧ worst_24 < M_26 40 0 30))) (c_27 : ¬ worst_24 = (-1000000)) (M_31 : xM) (eM_31 : M_31 = f_X11_comeTo worst_24 b M_26) (x4_32 : Int32) (ex4_32 : x4_32 = (handed + (M_31 82 0 worst_24.toNatClampNeg))) (c_33 : ¬ v ≤ x4_32) : (if (1 : Int32) = 0 then 0 else 1 + xmu x4_32 v) < n := by
  subst_vars
  have h7 : ¬ more = 0 := by assumption
  rw [if_neg h7] at hmu
  first
  | (rw [if_pos rfl]; omega)
  | (rw [if_neg (by decide)]; have h9 := fun x => @xmu_mono handed x v; grind [mI, mI_come, come_o])
theorem ob_X11_pay_45_inv_33_2 (nb nn : Nat) (a : Int32) (b : Int32) (v : Int32) (M : xM) (hp0 : mI M) (n : Nat) (handed : Int32) (more : Int32) (N_ : xM) (hmu : (if more = 0 then 0 else 1 + xmu handed v) < n + 1) (hinv : mI N_ ∧ 0 ≤ a ∧ a ≤ 7 ∧ 0 ≤ b ∧ b ≤ 7 ∧ v ≤ 999 ∧ 0 ≤ handed ∧ (more = 0 ∨ handed < v)) (c_23 : ¬ more = 0) (worst_24 : Int32) (k_25 : Int32) (M_26 : xM) (hiv_26 : mI M_26 ∧ 0 ≤ k_25 ∧ 0 ≤ a ∧ a ≤ 7 ∧ 0 ≤ b ∧ b ≤ 7 ∧ (worst_24 = (-1000000) ∨ (0 ≤ worst_24 ∧ worst_24 < M_26 40 0 30))) (c_27 : ¬ worst_24 = (-1000000)) (M_31 : xM) (eM_31 : M_31 = f_X11_comeTo worst_24 b M_26) (x4_32 : Int32) (ex4_32 : x4_32 = (handed + (M_31 82 0 worst_24.toNatClampNeg))) (c_33 : ¬ v ≤ x4_32) : mI M_31 ∧ 0 ≤ a ∧ a ≤ 7 ∧ 0 ≤ b ∧ b ≤ 7 ∧ v ≤ 999 ∧ 0 ≤ x4_32 ∧ ((1 : Int32) = 0 ∨ x4_32 < v) := by
  subst_vars
  grind [isTrader_eq, in_1_999, xup_at, xb, mI, mI_56, mI_come, come_o, mI_inh, inh2]
theorem ob_X11_pay_45_ini_41 (nb nn : Nat) (a : Int32) (b : Int32) (v : Int32) (M : xM) (hp0 : mI M) (M_34 : xM) (eM_34 : M_34 = xup M 40 0 0 0) (r_35 : Int32) (er_35 : r_35 = xb (f_X11_isTrader a M_34)) (c_36 : ¬ r_35 = 0) (r_37 : Int32) (er_37 : r_37 = xb (f_X11_isTrader b M_34)) (c_38 : ¬ r_37 = 0) (c_39 : ¬ a = b) (r_40 : Int32) (er_40 : r_40 = xb (f_X11_in (v.toInt64) 1 999 M_34)) (c_41 : ¬ r_40 = 0) : mI M_34 ∧ 0 ≤ a ∧ a ≤ 7 ∧ 0 ≤ b ∧ b ≤ 7 ∧ v ≤ 999 ∧ 0 ≤ (0 : Int32) ∧ ((1 : Int32) = 0 ∨ (0 : Int32) < v) := by
  subst_vars
  grind [isTrader_eq, in_1_999, xup_at, xb, mI, mI_56, mI_come, come_o, mI_inh, inh2]
set_option maxHeartbeats 4000000 in
set_option maxRecDepth 100000 in
theorem c_X11_pay (l : Launch) (nb nn : Nat) (g : xG) (L : List (Nat × Nat)) (M : xM) (hD : xD g L) (hL : xEL nb nn L) (a : Int32) (b : Int32) (v : Int32) (hp0 : mI M) : xCi l yX11_pay cX11_pay 9 (some .int) 6 g L M [.ref (xad g 40 0), .int a, .int b, .int v] (fun r u => (r, u) = f_X11_pay a b v M) := by
  intro sz
  refine x_beg (by decide +kernel) rfl ?_
  intro p e s m args below meth c ls hsz hB
  subst hsz
  obtain ⟨hx, hb, hml, hown, hts, hr, hlk, hK, hAm, hP, hl⟩ := hB
  have S : CallFix p m c cX11_pay 9 s args (xws yX11_pay cX11_pay 9 (some .int)) RX11 := ⟨hx, hb, hml, hown, hts⟩
  have hown : s.vm.findClass RX11 = some m.cls := hown
  have hl : lv_has ls 9 [(0, .ref (xad g 40 0)), (1, .int a), (2, .int b), (3, .int v)] := hl
  have hS : va_S (xA g L s.heap.size) s.heap s.heap [] := va_S.rf
  obtain ⟨F, hF⟩ : ∃ F, F = f_X11_pay a b v M := ⟨_, rfl⟩
  have k_57 : ∀ (handed : Int32) (more : Int32) (n : Nat) (worst : Int32) (k : Int32) (N_ : xM) (H : Heap) (locs : List Loc) (ls : Array Slot) (kx : (Int32 → Int32 → xM → Int32 × xM)), xmu k (N_ 40 0 30) < n → mI N_ ∧ 0 ≤ k ∧ 0 ≤ a ∧ a ≤ 7 ∧ 0 ≤ b ∧ b ≤ 7 ∧ (worst = (-1000000) ∨ (0 ≤ worst ∧ worst < N_ 40 0 30)) → F = f_X11_pay_L57 a b v handed more n worst k N_ kx → xP g L N_ H → va_S (xA g L s.heap.size) s.heap H locs → lv_has ls 9 [(0, .ref (xad g 40 0)), (1, .int a), (2, .int b), (3, .int v), (4, .int handed), (5, .int more), (6, .int worst), (7, .int k)] → (∀ (worst : Int32) (k : Int32) (N_ : xM) (H : Heap) (locs : List Loc) (ls : Array Slot), mI N_ ∧ 0 ≤ k ∧ 0 ≤ a ∧ a ≤ 7 ∧ 0 ≤ b ∧ b ≤ 7 ∧ (worst = (-1000000) ∨ (0 ≤ worst ∧ worst < N_ 40 0 30)) → F = kx worst k N_ → xP g L N_ H → va_S (xA g L s.heap.size) s.heap H locs → lv_has ls 9 [(0, .ref (xad g 40 0)), (1, .int a), (2, .int b), (3, .int v), (4, .int handed), (5, .int more), (6, .int worst), (7, .int k)] → W p l e (xr 6) s m args below meth c H locs 0 0 (MQ below (va_Qi (fun r u => (r, u) = f_X11_pay a b v M) (xPost g L) (xA g L s.heap.size)) args s 0 0 (xA g L s.heap.size)) (F0 m 156 ls [])) → W p l e (xr 6) s m args below meth c H locs 0 0 (MQ below (va_Qi (fun r u => (r, u) = f_X11_pay a b v M) (xPost g L) (xA g L s.heap.size)) args s 0 0 (xA g L s.heap.size)) (F0 m 57 ls []) := by
    intro handed more n
    induction n with
    | zero => intro worst k N_ H locs ls kx hmu; exact absurd hmu (Nat.not_lt_zero _)
    | succ n ih =>
      intro worst k N_ H locs ls kx hmu hinv hres hP hS hl hex
      replace hres : F = _ := hres.trans (by rw [f_X11_pay_L57])
      refine lv_iload hx hb dX11_pay_57 (lv_at hl 7 rfl) ?_
      refine lv_aload_n hx hb dX11_pay_59 rfl (lv_at hl 0 rfl) ?_
      refine gf_RX11_265 hx hb hts hown hK hP (hL 40 0 (xe_40 nb nn)) dX11_pay_60 ?_
      refine lv_icmp_ge (tgt := 156) hx hb dX11_pay_63 (by decide) (fun c_1 => ?_) (fun c_1 => ?_)
      · replace hres := hres.trans (if_pos c_1)
        exact hex worst k N_ _ _ _ (ob_X11_pay_156_x57 nb nn a b v M hp0 handed more n worst k N_ hmu hinv c_1) hres hP hS (lv_sub hl [0, 1, 2, 3, 4, 5, 6, 7] rfl)
      · replace hres := hres.trans (if_neg c_1)
        refine lv_aload_n hx hb dX11_pay_66 rfl (lv_at hl 0 rfl) ?_
        refine gf_RX11_68 hx hb hts hown hK hP (hL 40 0 (xe_40 nb nn)) dX11_pay_67 ?_
        refine lv_iload hx hb dX11_pay_70 (lv_at hl 7 rfl) ?_
        refine x_iald hx hb hK hP (hL 85 0 (xe_85 nb nn)) (xc85 g 0) (ob_X11_pay_72_in nb nn a b v M hp0 handed more n worst k N_ hmu hinv c_1) dX11_pay_72 ?_
        refine lv_iload_n hx hb dX11_pay_73 rfl (lv_at hl 1 rfl) ?_
        refine lv_icmp_ne (tgt := 109) hx hb dX11_pay_74 (by decide) (fun c_2 => ?_) (fun c_2 => ?_)
        · replace hres := hres.trans (if_neg c_2)
          refine lv_iconst (v := 0) hx hb dX11_pay_109 (by decide) ?_
          refine lv_istore (lv' := [(8, .int 0), (0, .ref (xad g 40 0)), (1, .int a), (2, .int b), (3, .int v), (4, .int handed), (5, .int more), (6, .int worst), (7, .int k)]) hx hb dX11_pay_110 hl (by decide) rfl (fun ls hl => ?_)
          refine lv_iload hx hb dX11_pay_112 (lv_at hl 0 rfl) ?_
          refine lv_if_eq (tgt := 146) hx hb dX11_pay_114 (by decide) (fun c_3 => ?_) (fun c_3 => ?_)
          · clear c_3
            refine lv_iload hx hb dX11_pay_146 (lv_at hl 7 rfl) ?_
            refine lv_istore (lv' := [(6, .int worst), (8, .int 0), (0, .ref (xad g 40 0)), (1, .int a), (2, .int b), (3, .int v), (4, .int handed), (5, .int more), (7, .int k)]) hx hb dX11_pay_148 hl (by decide) rfl (fun ls hl => ?_)
            obtain ⟨x7_4, ex7_4⟩ : ∃ z_ : Int32, z_ = k + 1 := ⟨_, rfl⟩
            replace hres := xlet_n hres ex7_4
            refine lv_iinc (v := x7_4) (lv' := [(7, .int x7_4), (6, .int worst), (8, .int 0), (0, .ref (xad g 40 0)), (1, .int a), (2, .int b), (3, .int v), (4, .int handed), (5, .int more)]) hx hb dX11_pay_150 hl (k := 8) rfl (by rw [ex7_4]; rfl) (by decide) rfl (fun ls hl => ?_)
            refine lv_goto (tgt := 57) hx hb dX11_pay_153 (by decide) ?_
            exact ih worst x7_4 N_ _ _ _ kx (ob_X11_pay_57_mu_4 nb nn a b v M hp0 handed more n worst k N_ hmu hinv c_1 c_2 x7_4 ex7_4) (ob_X11_pay_57_inv_4 nb nn a b v M hp0 handed more n worst k N_ hmu hinv c_1 c_2 x7_4 ex7_4) hres hP hS (lv_sub hl [3, 4, 5, 6, 7, 8, 1, 0] rfl) hex
          · exact absurd c_3 (by decide)
        · replace hres := hres.trans (if_pos c_2)
          refine lv_aload_n hx hb dX11_pay_77 rfl (lv_at hl 0 rfl) ?_
          refine gf_RX11_86 hx hb hts hown hK hP (hL 40 0 (xe_40 nb nn)) dX11_pay_78 ?_
          refine lv_iload hx hb dX11_pay_81 (lv_at hl 7 rfl) ?_
          refine x_iald hx hb hK hP (hL 91 0 (xe_91 nb nn)) (xc91 g 0) (ob_X11_pay_83_in nb nn a b v M hp0 handed more n worst k N_ hmu hinv c_1 c_2) dX11_pay_83 ?_
          refine lv_bipush (v := 12) hx hb dX11_pay_84 (by decide) ?_
          refine lv_icmp_ge (tgt := 109) hx hb dX11_pay_86 (by decide) (fun c_5 => ?_) (fun c_5 => ?_)
          · replace hres := hres.trans (if_pos c_5)
            refine lv_iconst (v := 0) hx hb dX11_pay_109 (by decide) ?_
            refine lv_istore (lv' := [(8, .int 0), (0, .ref (xad g 40 0)), (1, .int a), (2, .int b), (3, .int v), (4, .int handed), (5, .int more), (6, .int worst), (7, .int k)]) hx hb dX11_pay_110 hl (by decide) rfl (fun ls hl => ?_)
            refine lv_iload hx hb dX11_pay_112 (lv_at hl 0 rfl) ?_
            refine lv_if_eq (tgt := 146) hx hb dX11_pay_114 (by decide) (fun c_6 => ?_) (fun c_6 => ?_)
            · clear c_6
              refine lv_iload hx hb dX11_pay_146 (lv_at hl 7 rfl) ?_
              refine lv_istore (lv' := [(6, .int worst), (8, .int 0), (0, .ref (xad g 40 0)), (1, .int a), (2, .int b), (3, .int v), (4, .int handed), (5, .int more), (7, .int k)]) hx hb dX11_pay_148 hl (by decide) rfl (fun ls hl => ?_)
              obtain ⟨x7_7, ex7_7⟩ : ∃ z_ : Int32, z_ = k + 1 := ⟨_, rfl⟩
              replace hres := xlet_n hres ex7_7
              refine lv_iinc (v := x7_7) (lv' := [(7, .int x7_7), (6, .int worst), (8, .int 0), (0, .ref (xad g 40 0)), (1, .int a), (2, .int b), (3, .int v), (4, .int handed), (5, .int more)]) hx hb dX11_pay_150 hl (k := 8) rfl (by rw [ex7_7]; rfl) (by decide) rfl (fun ls hl => ?_)
              refine lv_goto (tgt := 57) hx hb dX11_pay_153 (by decide) ?_
              exact ih worst x7_7 N_ _ _ _ kx (ob_X11_pay_57_mu_7 nb nn a b v M hp0 handed more n worst k N_ hmu hinv c_1 c_2 c_5 x7_7 ex7_7) (ob_X11_pay_57_inv_7 nb nn a b v M hp0 handed more n worst k N_ hmu hinv c_1 c_2 c_5 x7_7 ex7_7) hres hP hS (lv_sub hl [3, 4, 5, 6, 7, 8, 1, 0] rfl) hex
            · exact absurd c_6 (by decide)
          · replace hres := hres.trans (if_neg c_5)
            refine lv_aload_n hx hb dX11_pay_89 rfl (lv_at hl 0 rfl) ?_
            refine lv_iload hx hb dX11_pay_90 (lv_at hl 7 rfl) ?_
            refine lv_iload_n hx hb dX11_pay_92 rfl (lv_at hl 2 rfl) ?_
            refine x_callVi (As := [.int k, .int b]) S hK hAm hD hP hS mt_X11_inHundred wd_840 ⟨by decide, by decide⟩ (hL 40 0 (xe_40 nb nn)) (xc40 g 0) rfl (c_X11_inHundred l nb nn g L N_ hD hL k b (ob_X11_pay_93_p0 nb nn a b v M hp0 handed more n worst k N_ hmu hinv c_1 c_2 c_5) (ob_X11_pay_93_p1 nb nn a b v M hp0 handed more n worst k N_ hmu hinv c_1 c_2 c_5) (ob_X11_pay_93_p2 nb nn a b v M hp0 handed more n worst k N_ hmu hinv c_1 c_2 c_5) (ob_X11_pay_93_p3 nb nn a b v M hp0 handed more n worst k N_ hmu hinv c_1 c_2 c_5) (ob_X11_pay_93_p4 nb nn a b v M hp0 handed more n worst k N_ hmu hinv c_1 c_2 c_5) (ob_X11_pay_93_p5 nb nn a b v M hp0 handed more n worst k N_ hmu hinv c_1 c_2 c_5)) rfl hl.1 (Nat.le_of_ble_eq_true rfl) ⟨Nat.zero_le _, Nat.zero_le _⟩ dX11_pay_93 rfl (fun r_8 M_9 H locs ep_ hP hS => ?_)
            replace hres := xlet2_n hres ep_
            have er_8 : r_8 = (f_X11_inHundred k b N_).1 := congrArg Prod.fst ep_
            have eM_9 : M_9 = (f_X11_inHundred k b N_).2 := congrArg Prod.snd ep_
            clear ep_
            refine lv_aload_n hx hb dX11_pay_96 rfl (lv_at hl 0 rfl) ?_
            refine gf_RX11_98 hx hb hts hown hK hP (hL 40 0 (xe_40 nb nn)) dX11_pay_97 ?_
            refine lv_iload_n hx hb dX11_pay_100 rfl (lv_at hl 2 rfl) ?_
            refine x_iald hx hb hK hP (hL 95 0 (xe_95 nb nn)) (xc95 g 0) (ob_X11_pay_101_in nb nn a b v M hp0 handed more n worst k N_ hmu hinv c_1 c_2 c_5 r_8 M_9 er_8 eM_9) dX11_pay_101 ?_
            refine lv_icmp_lt (tgt := 109) hx hb dX11_pay_102 (by decide) (fun c_10 => ?_) (fun c_10 => ?_)
            · replace hres := hres.trans (if_pos c_10)
              refine lv_iconst (v := 0) hx hb dX11_pay_109 (by decide) ?_
              refine lv_istore (lv' := [(8, .int 0), (0, .ref (xad g 40 0)), (1, .int a), (2, .int b), (3, .int v), (4, .int handed), (5, .int more), (6, .int worst), (7, .int k)]) hx hb dX11_pay_110 hl (by decide) rfl (fun ls hl => ?_)
              refine lv_iload hx hb dX11_pay_112 (lv_at hl 0 rfl) ?_
              refine lv_if_eq (tgt := 146) hx hb dX11_pay_114 (by decide) (fun c_11 => ?_) (fun c_11 => ?_)
              · clear c_11
                refine lv_iload hx hb dX11_pay_146 (lv_at hl 7 rfl) ?_
                refine lv_istore (lv' := [(6, .int worst), (8, .int 0), (0, .ref (xad g 40 0)), (1, .int a), (2, .int b), (3, .int v), (4, .int handed), (5, .int more), (7, .int k)]) hx hb dX11_pay_148 hl (by decide) rfl (fun ls hl => ?_)
                obtain ⟨x7_12, ex7_12⟩ : ∃ z_ : Int32, z_ = k + 1 := ⟨_, rfl⟩
                replace hres := xlet_n hres ex7_12
                refine lv_iinc (v := x7_12) (lv' := [(7, .int x7_12), (6, .int worst), (8, .int 0), (0, .ref (xad g 40 0)), (1, .int a), (2, .int b), (3, .int v), (4, .int handed), (5, .int more)]) hx hb dX11_pay_150 hl (k := 8) rfl (by rw [ex7_12]; rfl) (by decide) rfl (fun ls hl => ?_)
                refine lv_goto (tgt := 57) hx hb dX11_pay_153 (by decide) ?_
                exact ih worst x7_12 M_9 _ _ _ kx (ob_X11_pay_57_mu_12 nb nn a b v M hp0 handed more n worst k N_ hmu hinv c_1 c_2 c_5 r_8 M_9 er_8 eM_9 c_10 x7_12 ex7_12) (ob_X11_pay_57_inv_12 nb nn a b v M hp0 handed more n worst k N_ hmu hinv c_1 c_2 c_5 r_8 M_9 er_8 eM_9 c_10 x7_12 ex7_12) hres hP hS (lv_sub hl [3, 4, 5, 6, 7, 8, 1, 0] rfl) hex
              · exact absurd c_11 (by decide)
            · replace hres := hres.trans (if_neg c_10)
              refine lv_iconst (v := 1) hx hb dX11_pay_105 (by decide) ?_
              refine lv_goto (tgt := 110) hx hb dX11_pay_106 (by decide) ?_
              refine lv_istore (lv' := [(8, .int 1), (0, .ref (xad g 40 0)), (1, .int a), (2, .int b), (3, .int v), (4, .int handed), (5, .int more), (6, .int worst), (7, .int k)]) hx hb dX11_pay_110 hl (by decide) rfl (fun ls hl => ?_)
              refine lv_iload hx hb dX11_pay_112 (lv_at hl 0 rfl) ?_
              refine lv_if_eq (tgt := 146) hx hb dX11_pay_114 (by decide) (fun c_13 => ?_) (fun c_13 => ?_)
              · exact absurd c_13 (by decide)
              · clear c_13
                refine lv_iload hx hb dX11_pay_117 (lv_at hl 7 rfl) ?_
                refine lv_ldc (own := RX11) (v := (-1000000)) hx hb hown (hts _ (List.mem_cons_of_mem _ wd_302)) dX11_pay_119 ?_
                refine lv_icmp_eq (tgt := 141) hx hb dX11_pay_121 (by decide) (fun c_14 => ?_) (fun c_14 => ?_)
                · replace hres := hres.trans (if_pos c_14)
                  refine lv_iload hx hb dX11_pay_141 (lv_at hl 8 rfl) ?_
                  refine lv_goto (tgt := 148) hx hb dX11_pay_143 (by decide) ?_
                  refine lv_istore (lv' := [(6, .int k), (8, .int 1), (0, .ref (xad g 40 0)), (1, .int a), (2, .int b), (3, .int v), (4, .int handed), (5, .int more), (7, .int k)]) hx hb dX11_pay_148 hl (by decide) rfl (fun ls hl => ?_)
                  obtain ⟨x7_15, ex7_15⟩ : ∃ z_ : Int32, z_ = k + 1 := ⟨_, rfl⟩
                  replace hres := xlet_n hres ex7_15
                  refine lv_iinc (v := x7_15) (lv' := [(7, .int x7_15), (6, .int k), (8, .int 1), (0, .ref (xad g 40 0)), (1, .int a), (2, .int b), (3, .int v), (4, .int handed), (5, .int more)]) hx hb dX11_pay_150 hl (k := 8) rfl (by rw [ex7_15]; rfl) (by decide) rfl (fun ls hl => ?_)
                  refine lv_goto (tgt := 57) hx hb dX11_pay_153 (by decide) ?_
                  exact ih k x7_15 M_9 _ _ _ kx (ob_X11_pay_57_mu_15 nb nn a b v M hp0 handed more n worst k N_ hmu hinv c_1 c_2 c_5 r_8 M_9 er_8 eM_9 c_10 c_14 x7_15 ex7_15) (ob_X11_pay_57_inv_15 nb nn a b v M hp0 handed more n worst k N_ hmu hinv c_1 c_2 c_5 r_8 M_9 er_8 eM_9 c_10 c_14 x7_15 ex7_15) hres hP hS (lv_sub hl [3, 4, 5, 6, 7, 8, 1, 0] rfl) hex
                · replace hres := hres.trans (if_neg c_14)
                  refine lv_aload_n hx hb dX11_pay_124 rfl (lv_at hl 1 rfl) ?_
                  refine lv_iload hx hb dX11_pay_125 (lv_at hl 8 rfl) ?_
                  refine lv_iload_n hx hb dX11_pay_127 rfl (lv_at hl 2 rfl) ?_
                  refine x_callVi (As := [.int k, .int a]) S hK hAm hD hP hS mt_X11_inHundred wd_840 ⟨by decide, by decide⟩ (hL 40 0 (xe_40 nb nn)) (xc40 g 0) rfl (c_X11_inHundred l nb nn g L M_9 hD hL k a (ob_X11_pay_128_p0 nb nn a b v M hp0 handed more n worst k N_ hmu hinv c_1 c_2 c_5 r_8 M_9 er_8 eM_9 c_10 c_14) (ob_X11_pay_128_p1 nb nn a b v M hp0 handed more n worst k N_ hmu hinv c_1 c_2 c_5 r_8 M_9 er_8 eM_9 c_10 c_14) (ob_X11_pay_128_p2 nb nn a b v M hp0 handed more n worst k N_ hmu hinv c_1 c_2 c_5 r_8 M_9 er_8 eM_9 c_10 c_14) (ob_X11_pay_128_p3 nb nn a b v M hp0 handed more n worst k N_ hmu hinv c_1 c_2 c_5 r_8 M_9 er_8 eM_9 c_10 c_14) (ob_X11_pay_128_p4 nb nn a b v M hp0 handed more n worst k N_ hmu hinv c_1 c_2 c_5 r_8 M_9 er_8 eM_9 c_10 c_14) (ob_X11_pay_128_p5 nb nn a b v M hp0 handed more n worst k N_ hmu hinv c_1 c_2 c_5 r_8 M_9 er_8 eM_9 c_10 c_14)) rfl hl.1 (Nat.le_of_ble_eq_true rfl) ⟨Nat.zero_le _, Nat.zero_le _⟩ dX11_pay_128 rfl (fun r_16 M_17 H locs ep_ hP hS => ?_)
                  replace hres := xlet2_n hres ep_
                  have er_16 : r_16 = (f_X11_inHundred k a M_9).1 := congrArg Prod.fst ep_
                  have eM_17 : M_17 = (f_X11_inHundred k a M_9).2 := congrArg Prod.snd ep_
                  clear ep_
                  refine lv_aload_n hx hb dX11_pay_131 rfl (lv_at hl 1 rfl) ?_
                  refine lv_iload hx hb dX11_pay_132 (lv_at hl 7 rfl) ?_
                  refine lv_iload_n hx hb dX11_pay_134 rfl (lv_at hl 2 rfl) ?_
                  refine x_callVi (As := [.int worst, .int a]) S hK hAm hD hP hS mt_X11_inHundred wd_840 ⟨by decide, by decide⟩ (hL 40 0 (xe_40 nb nn)) (xc40 g 0) rfl (c_X11_inHundred l nb nn g L M_17 hD hL worst a (ob_X11_pay_135_p0 nb nn a b v M hp0 handed more n worst k N_ hmu hinv c_1 c_2 c_5 r_8 M_9 er_8 eM_9 c_10 c_14 r_16 M_17 er_16 eM_17) (ob_X11_pay_135_p1 nb nn a b v M hp0 handed more n worst k N_ hmu hinv c_1 c_2 c_5 r_8 M_9 er_8 eM_9 c_10 c_14 r_16 M_17 er_16 eM_17) (ob_X11_pay_135_p2 nb nn a b v M hp0 handed more n worst k N_ hmu hinv c_1 c_2 c_5 r_8 M_9 er_8 eM_9 c_10 c_14 r_16 M_17 er_16 eM_17) (ob_X11_pay_135_p3 nb nn a b v M hp0 handed more n worst k N_ hmu hinv c_1 c_2 c_5 r_8 M_9 er_8 eM_9 c_10 c_14 r_16 M_17 er_16 eM_17) (ob_X11_pay_135_p4 nb nn a b v M hp0 handed more n worst k N_ hmu hinv c_1 c_2 c_5 r_8 M_9 er_8 eM_9 c_10 c_14 r_16 M_17 er_16 eM_17) (ob_X11_pay_135_p5 nb nn a b v M hp0 handed more n worst k N_ hmu hinv c_1 c_2 c_5 r_8 M_9 er_8 eM_9 c_10 c_14 r_16 M_17 er_16 eM_17)) rfl hl.1 (Nat.le_of_ble_eq_true rfl) ⟨Nat.zero_le _, Nat.zero_le _⟩ dX11_pay_135 rfl (fun r_18 M_19 H locs ep_ hP hS => ?_)
                  replace hres := xlet2_n hres ep_
                  have er_18 : r_18 = (f_X11_inHundred worst a M_17).1 := congrArg Prod.fst ep_
                  have eM_19 : M_19 = (f_X11_inHundred worst a M_17).2 := congrArg Prod.snd ep_
                  clear ep_
                  refine lv_icmp_ge (tgt := 146) hx hb dX11_pay_138 (by decide) (fun c_20 => ?_) (fun c_20 => ?_)
                  · replace hres := hres.trans (if_pos c_20)
                    refine lv_iload hx hb dX11_pay_146 (lv_at hl 7 rfl) ?_
                    refine lv_istore (lv' := [(6, .int worst), (8, .int 1), (0, .ref (xad g 40 0)), (1, .int a), (2, .int b), (3, .int v), (4, .int handed), (5, .int more), (7, .int k)]) hx hb dX11_pay_148 hl (by decide) rfl (fun ls hl => ?_)
                    obtain ⟨x7_21, ex7_21⟩ : ∃ z_ : Int32, z_ = k + 1 := ⟨_, rfl⟩
                    replace hres := xlet_n hres ex7_21
                    refine lv_iinc (v := x7_21) (lv' := [(7, .int x7_21), (6, .int worst), (8, .int 1), (0, .ref (xad g 40 0)), (1, .int a), (2, .int b), (3, .int v), (4, .int handed), (5, .int more)]) hx hb dX11_pay_150 hl (k := 8) rfl (by rw [ex7_21]; rfl) (by decide) rfl (fun ls hl => ?_)
                    refine lv_goto (tgt := 57) hx hb dX11_pay_153 (by decide) ?_
                    exact ih worst x7_21 M_19 _ _ _ kx (ob_X11_pay_57_mu_21 nb nn a b v M hp0 handed more n worst k N_ hmu hinv c_1 c_2 c_5 r_8 M_9 er_8 eM_9 c_10 c_14 r_16 M_17 er_16 eM_17 r_18 M_19 er_18 eM_19 c_20 x7_21 ex7_21) (ob_X11_pay_57_inv_21 nb nn a b v M hp0 handed more n worst k N_ hmu hinv c_1 c_2 c_5 r_8 M_9 er_8 eM_9 c_10 c_14 r_16 M_17 er_16 eM_17 r_18 M_19 er_18 eM_19 c_20 x7_21 ex7_21) hres hP hS (lv_sub hl [3, 4, 5, 6, 7, 8, 1, 0] rfl) hex
                  · replace hres := hres.trans (if_neg c_20)
                    refine lv_iload hx hb dX11_pay_141 (lv_at hl 8 rfl) ?_
                    refine lv_goto (tgt := 148) hx hb dX11_pay_143 (by decide) ?_
                    refine lv_istore (lv' := [(6, .int k), (8, .int 1), (0, .ref (xad g 40 0)), (1, .int a), (2, .int b), (3, .int v), (4, .int handed), (5, .int more), (7, .int k)]) hx hb dX11_pay_148 hl (by decide) rfl (fun ls hl => ?_)
                    obtain ⟨x7_22, ex7_22⟩ : ∃ z_ : Int32, z_ = k + 1 := ⟨_, rfl⟩
                    replace hres := xlet_n hres ex7_22
                    refine lv_iinc (v := x7_22) (lv' := [(7, .int x7_22), (6, .int k), (8, .int 1), (0, .ref (xad g 40 0)), (1, .int a), (2, .int b), (3, .int v), (4, .int handed), (5, .int more)]) hx hb dX11_pay_150 hl (k := 8) rfl (by rw [ex7_22]; rfl) (by decide) rfl (fun ls hl => ?_)
                    refine lv_goto (tgt := 57) hx hb dX11_pay_153 (by decide) ?_
                    exact ih k x7_22 M_19 _ _ _ kx (ob_X11_pay_57_mu_22 nb nn a b v M hp0 handed more n worst k N_ hmu hinv c_1 c_2 c_5 r_8 M_9 er_8 eM_9 c_10 c_14 r_16 M_17 er_16 eM_17 r_18 M_19 er_18 eM_19 c_20 x7_22 ex7_22) (ob_X11_pay_57_inv_22 nb nn a b v M hp0 handed more n worst k N_ hmu hinv c_1 c_2 c_5 r_8 M_9 er_8 eM_9 c_10 c_14 r_16 M_17 er_16 eM_17 r_18 M_19 er_18 eM_19 c_20 x7_22 ex7_22) hres hP hS (lv_sub hl [3, 4, 5, 6, 7, 8, 1, 0] rfl) hex
  have k_45 : ∀ (n : Nat) (handed : Int32) (more : Int32) (N_ : xM) (H : Heap) (locs : List Loc) (ls : Array Slot) (kx : (Int32 → Int32 → xM → Int32 × xM)), (if more = 0 then 0 else 1 + xmu handed v) < n → mI N_ ∧ 0 ≤ a ∧ a ≤ 7 ∧ 0 ≤ b ∧ b ≤ 7 ∧ v ≤ 999 ∧ 0 ≤ handed ∧ (more = 0 ∨ handed < v) → F = f_X11_pay_L45 a b v n handed more N_ kx → xP g L N_ H → va_S (xA g L s.heap.size) s.heap H locs → lv_has ls 9 [(0, .ref (xad g 40 0)), (1, .int a), (2, .int b), (3, .int v), (4, .int handed), (5, .int more)] → (∀ (handed : Int32) (more : Int32) (N_ : xM) (H : Heap) (locs : List Loc) (ls : Array Slot), mI N_ ∧ 0 ≤ a ∧ a ≤ 7 ∧ 0 ≤ b ∧ b ≤ 7 ∧ v ≤ 999 ∧ 0 ≤ handed ∧ (more = 0 ∨ handed < v) → F = kx handed more N_ → xP g L N_ H → va_S (xA g L s.heap.size) s.heap H locs → lv_has ls 9 [(0, .ref (xad g 40 0)), (1, .int a), (2, .int b), (3, .int v), (4, .int handed), (5, .int more)] → W p l e (xr 6) s m args below meth c H locs 0 0 (MQ below (va_Qi (fun r u => (r, u) = f_X11_pay a b v M) (xPost g L) (xA g L s.heap.size)) args s 0 0 (xA g L s.heap.size)) (F0 m 210 ls [])) → W p l e (xr 6) s m args below meth c H locs 0 0 (MQ below (va_Qi (fun r u => (r, u) = f_X11_pay a b v M) (xPost g L) (xA g L s.heap.size)) args s 0 0 (xA g L s.heap.size)) (F0 m 45 ls []) := by
    intro n
    induction n with
    | zero => intro handed more N_ H locs ls kx hmu; exact absurd hmu (Nat.not_lt_zero _)
    | succ n ih =>
      intro handed more N_ H locs ls kx hmu hinv hres hP hS hl hex
      replace hres : F = _ := hres.trans (by rw [f_X11_pay_L45])
      refine lv_iload hx hb dX11_pay_45 (lv_at hl 5 rfl) ?_
      refine lv_if_eq (tgt := 210) hx hb dX11_pay_47 (by decide) (fun c_23 => ?_) (fun c_23 => ?_)
      · replace hres := hres.trans (if_pos c_23)
        exact hex handed more N_ _ _ _ (ob_X11_pay_210_x45 nb nn a b v M hp0 n handed more N_ hmu hinv c_23) hres hP hS (lv_sub hl [0, 1, 2, 3, 4, 5] rfl)
      · replace hres := hres.trans (if_neg c_23)
        refine lv_ldc (own := RX11) (v := (-1000000)) hx hb hown (hts _ (List.mem_cons_of_mem _ wd_302)) dX11_pay_50 ?_
        refine lv_istore (lv' := [(6, .int (-1000000)), (0, .ref (xad g 40 0)), (1, .int a), (2, .int b), (3, .int v), (4, .int handed), (5, .int more)]) hx hb dX11_pay_52 hl (by decide) rfl (fun ls hl => ?_)
        refine lv_iconst (v := 0) hx hb dX11_pay_54 (by decide) ?_
        refine lv_istore (lv' := [(7, .int 0), (6, .int (-1000000)), (0, .ref (xad g 40 0)), (1, .int a), (2, .int b), (3, .int v), (4, .int handed), (5, .int more)]) hx hb dX11_pay_55 hl (by decide) rfl (fun ls hl => ?_)
        refine k_57 handed more (xmu (0 : Int32) (N_ 40 0 30) + 1) (-1000000 : Int32) (0 : Int32) N_ _ _ _ _ (Nat.lt_succ_self _) (ob_X11_pay_57_ini_23 nb nn a b v M hp0 n handed more N_ hmu hinv c_23) hres hP hS (lv_sub hl [2, 3, 4, 5, 6, 7, 1, 0] rfl) ?_
        clear hres hP hS hl
        intro worst_24 k_25 M_26 H locs ls hiv_26 hres hP hS hl
        refine lv_iload hx hb dX11_pay_156 (lv_at hl 6 rfl) ?_
        refine lv_ldc (own := RX11) (v := (-1000000)) hx hb hown (hts _ (List.mem_cons_of_mem _ wd_302)) dX11_pay_158 ?_
        refine lv_icmp_eq (tgt := 167) hx hb dX11_pay_160 (by decide) (fun c_27 => ?_) (fun c_27 => ?_)
        · replace hres := hres.trans (if_pos c_27)
          refine lv_iconst (v := 0) hx hb dX11_pay_167 (by decide) ?_
          refine lv_istore (lv' := [(5, .int 0), (0, .ref (xad g 40 0)), (1, .int a), (2, .int b), (3, .int v), (4, .int handed), (6, .int worst_24), (7, .int k_25)]) hx hb dX11_pay_168 hl (by decide) rfl (fun ls hl => ?_)
          refine lv_iload hx hb dX11_pay_170 (lv_at hl 0 rfl) ?_
          refine lv_if_eq (tgt := 207) hx hb dX11_pay_172 (by decide) (fun c_28 => ?_) (fun c_28 => ?_)
          · clear c_28
            refine lv_goto (tgt := 45) hx hb dX11_pay_207 (by decide) ?_
            exact ih handed (0 : Int32) M_26 _ _ _ kx (ob_X11_pay_45_mu_28 nb nn a b v M hp0 n handed more N_ hmu hinv c_23 worst_24 k_25 M_26 hiv_26 c_27) (ob_X11_pay_45_inv_28 nb nn a b v M hp0 n handed more N_ hmu hinv c_23 worst_24 k_25 M_26 hiv_26 c_27) hres hP hS (lv_sub hl [1, 2, 3, 4, 5, 0] rfl) hex
          · exact absurd c_28 (by decide)
        · replace hres := hres.trans (if_neg c_27)
          refine lv_iconst (v := 1) hx hb dX11_pay_163 (by decide) ?_
          refine lv_goto (tgt := 168) hx hb dX11_pay_164 (by decide) ?_
          refine lv_istore (lv' := [(5, .int 1), (0, .ref (xad g 40 0)), (1, .int a), (2, .int b), (3, .int v), (4, .int handed), (6, .int worst_24), (7, .int k_25)]) hx hb dX11_pay_168 hl (by decide) rfl (fun ls hl => ?_)
          refine lv_iload hx hb dX11_pay_170 (lv_at hl 0 rfl) ?_
          refine lv_if_eq (tgt := 207) hx hb dX11_pay_172 (by decide) (fun c_29 => ?_) (fun c_29 => ?_)
          · exact absurd c_29 (by decide)
          · clear c_29
            refine lv_aload_n hx hb dX11_pay_175 rfl (lv_at hl 1 rfl) ?_
            refine lv_iload hx hb dX11_pay_176 (lv_at hl 6 rfl) ?_
            refine lv_iload_n hx hb dX11_pay_178 rfl (lv_at hl 3 rfl) ?_
            refine x_callVv (As := [.int worst_24, .int b]) S hK hAm hD hP hS mt_X11_comeTo wd_712 ⟨by decide, by decide⟩ (hL 40 0 (xe_40 nb nn)) (xc40 g 0) rfl (c_X11_comeTo l nb nn g L M_26 hD hL worst_24 b (ob_X11_pay_179_p0 nb nn a b v M hp0 n handed more N_ hmu hinv c_23 worst_24 k_25 M_26 hiv_26 c_27) (ob_X11_pay_179_p1 nb nn a b v M hp0 n handed more N_ hmu hinv c_23 worst_24 k_25 M_26 hiv_26 c_27) (ob_X11_pay_179_p2 nb nn a b v M hp0 n handed more N_ hmu hinv c_23 worst_24 k_25 M_26 hiv_26 c_27)) rfl hl.1 (Nat.le_of_ble_eq_true rfl) ⟨Nat.zero_le _, Nat.zero_le _⟩ dX11_pay_179 rfl (fun M_31 H locs eM_31 hP hS => ?_)
            replace hres := xlet_n hres eM_31
            refine lv_iload hx hb dX11_pay_182 (lv_at hl 5 rfl) ?_
            refine lv_aload_n hx hb dX11_pay_184 rfl (lv_at hl 1 rfl) ?_
            refine gf_RX11_59 hx hb hts hown hK hP (hL 40 0 (xe_40 nb nn)) dX11_pay_185 ?_
            refine lv_iload hx hb dX11_pay_188 (lv_at hl 6 rfl) ?_
            refine x_iald hx hb hK hP (hL 82 0 (xe_82 nb nn)) (xc82 g 0) (ob_X11_pay_190_in nb nn a b v M hp0 n handed more N_ hmu hinv c_23 worst_24 k_25 M_26 hiv_26 c_27 M_31 eM_31) dX11_pay_190 ?_
            refine lv_iadd hx hb dX11_pay_191 ?_
            refine lv_topi (fun x4_32 ex4_32 => ?_)
            replace hres := xlet_n hres ex4_32
            refine lv_istore (lv' := [(4, .int x4_32), (5, .int 1), (0, .ref (xad g 40 0)), (1, .int a), (2, .int b), (3, .int v), (6, .int worst_24), (7, .int k_25)]) hx hb dX11_pay_192 hl (by decide) rfl (fun ls hl => ?_)
            refine lv_iload hx hb dX11_pay_194 (lv_at hl 0 rfl) ?_
            refine lv_iload_n hx hb dX11_pay_196 rfl (lv_at hl 5 rfl) ?_
            refine lv_icmp_ge (tgt := 204) hx hb dX11_pay_197 (by decide) (fun c_33 => ?_) (fun c_33 => ?_)
            · replace hres := hres.trans (if_pos c_33)
              refine lv_iconst (v := 0) hx hb dX11_pay_204 (by decide) ?_
              refine lv_istore (lv' := [(5, .int 0), (4, .int x4_32), (0, .ref (xad g 40 0)), (1, .int a), (2, .int b), (3, .int v), (6, .int worst_24), (7, .int k_25)]) hx hb dX11_pay_205 hl (by decide) rfl (fun ls hl => ?_)
              refine lv_goto (tgt := 45) hx hb dX11_pay_207 (by decide) ?_
              exact ih x4_32 (0 : Int32) M_31 _ _ _ kx (ob_X11_pay_45_mu_33 nb nn a b v M hp0 n handed more N_ hmu hinv c_23 worst_24 k_25 M_26 hiv_26 c_27 M_31 eM_31 x4_32 ex4_32 c_33) (ob_X11_pay_45_inv_33 nb nn a b v M hp0 n handed more N_ hmu hinv c_23 worst_24 k_25 M_26 hiv_26 c_27 M_31 eM_31 x4_32 ex4_32 c_33) hres hP hS (lv_sub hl [2, 3, 4, 5, 1, 0] rfl) hex
            · replace hres := hres.trans (if_neg c_33)
              refine lv_iconst (v := 1) hx hb dX11_pay_200 (by decide) ?_
              refine lv_goto (tgt := 205) hx hb dX11_pay_201 (by decide) ?_
              refine lv_istore (lv' := [(5, .int 1), (4, .int x4_32), (0, .ref (xad g 40 0)), (1, .int a), (2, .int b), (3, .int v), (6, .int worst_24), (7, .int k_25)]) hx hb dX11_pay_205 hl (by decide) rfl (fun ls hl => ?_)
              refine lv_goto (tgt := 45) hx hb dX11_pay_207 (by decide) ?_
              exact ih x4_32 (1 : Int32) M_31 _ _ _ kx (ob_X11_pay_45_mu_33_2 nb nn a b v M hp0 n handed more N_ hmu hinv c_23 worst_24 k_25 M_26 hiv_26 c_27 M_31 eM_31 x4_32 ex4_32 c_33) (ob_X11_pay_45_inv_33_2 nb nn a b v M hp0 n handed more N_ hmu hinv c_23 worst_24 k_25 M_26 hiv_26 c_27 M_31 eM_31 x4_32 ex4_32 c_33) hres hP hS (lv_sub hl [2, 3, 4, 5, 1, 0] rfl) hex
  have hres := hF
  rw [f_X11_pay] at hres
  refine lv_aload_n hx hb dX11_pay_0 rfl (lv_at hl 0 rfl) ?_
  refine lv_iconst (v := 0) hx hb dX11_pay_1 (by decide) ?_
  refine pf_RX11_113 hx hb hts hown hK hP hD hS (hL 40 0 (xe_40 nb nn)) dX11_pay_2 (fun H locs hP hS => ?_)
  obtain ⟨M_34, eM_34⟩ : ∃ z_ : xM, z_ = xup M 40 0 0 0 := ⟨_, rfl⟩
  rw [← eM_34] at hP
  replace hres := xlet_n hres eM_34
  refine lv_iload_n hx hb dX11_pay_5 rfl (lv_at hl 1 rfl) ?_
  refine x_callSi (As := [.int a]) S hK hAm hD hP hS mt_X11_isTrader wd_709 ⟨by decide, by decide⟩ (c_X11_isTrader l nb nn g L M_34 hD hL a) rfl hl.1 (Nat.le_of_ble_eq_true rfl) ⟨Nat.zero_le _, Nat.zero_le _⟩ dX11_pay_6 rfl (fun r_35 u H locs hp_ hP hS => ?_)
  obtain ⟨er_35, eu_⟩ := hp_
  rw [eu_] at hP
  clear eu_
  replace hres := xlet_n hres er_35
  refine lv_if_eq (tgt := 36) hx hb dX11_pay_9 (by decide) (fun c_36 => ?_) (fun c_36 => ?_)
  · replace hres := hres.trans (if_pos c_36)
    refine lv_ldc (own := RX11) (v := (-1000001)) hx hb hown (hts _ (List.mem_cons_of_mem _ wd_202)) dX11_pay_36 ?_
    exact x_reti hx hb hr hlk hP hS (hres.symm.trans hF) dX11_pay_38
  · replace hres := hres.trans (if_neg c_36)
    refine lv_iload_n hx hb dX11_pay_12 rfl (lv_at hl 2 rfl) ?_
    refine x_callSi (As := [.int b]) S hK hAm hD hP hS mt_X11_isTrader wd_709 ⟨by decide, by decide⟩ (c_X11_isTrader l nb nn g L M_34 hD hL b) rfl hl.1 (Nat.le_of_ble_eq_true rfl) ⟨Nat.zero_le _, Nat.zero_le _⟩ dX11_pay_13 rfl (fun r_37 u H locs hp_ hP hS => ?_)
    obtain ⟨er_37, eu_⟩ := hp_
    rw [eu_] at hP
    clear eu_
    replace hres := xlet_n hres er_37
    refine lv_if_eq (tgt := 36) hx hb dX11_pay_16 (by decide) (fun c_38 => ?_) (fun c_38 => ?_)
    · replace hres := hres.trans (if_pos c_38)
      refine lv_ldc (own := RX11) (v := (-1000001)) hx hb hown (hts _ (List.mem_cons_of_mem _ wd_202)) dX11_pay_36 ?_
      exact x_reti hx hb hr hlk hP hS (hres.symm.trans hF) dX11_pay_38
    · replace hres := hres.trans (if_neg c_38)
      refine lv_iload_n hx hb dX11_pay_19 rfl (lv_at hl 1 rfl) ?_
      refine lv_iload_n hx hb dX11_pay_20 rfl (lv_at hl 2 rfl) ?_
      refine lv_icmp_eq (tgt := 36) hx hb dX11_pay_21 (by decide) (fun c_39 => ?_) (fun c_39 => ?_)
      · replace hres := hres.trans (if_pos c_39)
        refine lv_ldc (own := RX11) (v := (-1000001)) hx hb hown (hts _ (List.mem_cons_of_mem _ wd_202)) dX11_pay_36 ?_
        exact x_reti hx hb hr hlk hP hS (hres.symm.trans hF) dX11_pay_38
      · replace hres := hres.trans (if_neg c_39)
        refine lv_iload_n hx hb dX11_pay_24 rfl (lv_at hl 3 rfl) ?_
        refine lv_i2l (v := v.toInt64) hx hb dX11_pay_25 rfl ?_
        refine lv_lconst (v := 1) hx hb dX11_pay_26 (by decide) ?_
        refine lv_ldc2 (own := RX11) (v := 999) hx hb hown (hts _ (List.mem_cons_of_mem _ wd_839)) dX11_pay_27 ?_
        refine x_callSi (As := [.long (v.toInt64), .long 1, .long 999]) S hK hAm hD hP hS mt_X11_in wd_208 ⟨by decide, by decide⟩ (c_X11_in l nb nn g L M_34 hD hL (v.toInt64) 1 999) rfl hl.1 (Nat.le_of_ble_eq_true rfl) ⟨Nat.zero_le _, Nat.zero_le _⟩ dX11_pay_30 rfl (fun r_40 u H locs hp_ hP hS => ?_)
        obtain ⟨er_40, eu_⟩ := hp_
        rw [eu_] at hP
        clear eu_
        replace hres := xlet_n hres er_40
        refine lv_if_ne (tgt := 39) hx hb dX11_pay_33 (by decide) (fun c_41 => ?_) (fun c_41 => ?_)
        · replace hres := hres.trans (if_neg c_41)
          refine lv_iconst (v := 0) hx hb dX11_pay_39 (by decide) ?_
          refine lv_istore (lv' := [(4, .int 0), (0, .ref (xad g 40 0)), (1, .int a), (2, .int b), (3, .int v)]) hx hb dX11_pay_40 hl (by decide) rfl (fun ls hl => ?_)
          refine lv_iconst (v := 1) hx hb dX11_pay_42 (by decide) ?_
          refine lv_istore (lv' := [(5, .int 1), (4, .int 0), (0, .ref (xad g 40 0)), (1, .int a), (2, .int b), (3, .int v)]) hx hb dX11_pay_43 hl (by decide) rfl (fun ls hl => ?_)
          refine k_45 ((if (1 : Int32) = 0 then 0 else 1 + xmu (0 : Int32) v) + 1) (0 : Int32) (1 : Int32) M_34 _ _ _ _ (Nat.lt_succ_self _) (ob_X11_pay_45_ini_41 nb nn a b v M hp0 M_34 eM_34 r_35 er_35 c_36 r_37 er_37 c_38 c_39 r_40 er_40 c_41) hres hP hS (lv_sub hl [2, 3, 4, 5, 1, 0] rfl) ?_
          clear hres hP hS hl
          intro handed_42 more_43 M_44 H locs ls hiv_44 hres hP hS hl
          refine lv_iload hx hb dX11_pay_210 (lv_at hl 4 rfl) ?_
          exact x_reti hx hb hr hlk hP hS (hres.symm.trans hF) dX11_pay_212
        · replace hres := hres.trans (if_pos c_41)
          refine lv_ldc (own := RX11) (v := (-1000001)) hx hb hown (hts _ (List.mem_cons_of_mem _ wd_202)) dX11_pay_36 ?_
          exact x_reti hx hb hr hlk hP hS (hres.symm.trans hF) dX11_pay_38
