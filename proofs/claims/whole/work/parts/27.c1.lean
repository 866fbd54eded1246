def f_X7_readToken_L5  (N_ : xM) : Nat → Int32 → (Int32 → xM) → xM
  | 0, _, _ => N_
  | n + 1, at_, kx => if (N_ 5 0 2) ≤ at_ then kx at_ else if (N_ 19 0 at_.toNatClampNeg) = 32 then xlet (at_ + 1) fun x1_3 => f_X7_readToken_L5 N_ n x1_3 kx else if (N_ 19 0 at_.toNatClampNeg) = 10 then xlet (at_ + 1) fun x1_5 => f_X7_readToken_L5 N_ n x1_5 kx else kx at_
def f_X7_readToken  (M : xM) : xM :=
  xlet (M 5 0 1) fun x1_6 => f_X7_readToken_L5 M (xmu x1_6 (M 5 0 2) + 1) x1_6 (fun at__7 => xlet (xup M 5 0 4 at__7) fun M_8 => if at__7 < (M_8 5 0 2) then xlet (xb (f_X7_isAmong at__7 97 122 M_8)) fun r_10 => if r_10 = 0 then xlet (xb (f_X7_isAmong at__7 48 57 M_8)) fun r_12 => if r_12 = 0 then if (M_8 19 0 at__7.toNatClampNeg) = 59 then xlet (xup M_8 5 0 3 3) fun M_18 => xlet (at__7 + 1) fun v_19 => xlet (xup M_18 5 0 1 v_19) fun M_20 => M_20 else xlet (xup M_8 5 0 3 4) fun M_15 => xlet (at__7 + 1) fun v_16 => xlet (xup M_15 5 0 1 v_16) fun M_17 => M_17 else xlet (f_X7_endOfRun at__7 48 57 M_8) fun r_21 => xlet (xup M_8 5 0 1 r_21) fun M_22 => if ((M_22 5 0 1) - at__7) ≤ 4 then xlet (xup M_22 5 0 3 2) fun M_24 => if (M_24 5 0 3) = 2 then xlet (f_X7_numberAt at__7 (M_24 5 0 1) M_24) fun r_27 => xlet (xup M_24 5 0 5 r_27) fun M_28 => M_28 else xlet (xup M_24 5 0 5 0) fun M_26 => M_26 else xlet (xup M_22 5 0 3 4) fun M_29 => if (M_29 5 0 3) = 2 then xlet (f_X7_numberAt at__7 (M_29 5 0 1) M_29) fun r_32 => xlet (xup M_29 5 0 5 r_32) fun M_33 => M_33 else xlet (xup M_29 5 0 5 0) fun M_31 => M_31 else xlet (xup M_8 5 0 3 1) fun M_34 => xlet (f_X7_endOfRun at__7 97 122 M_34) fun r_35 => xlet (xup M_34 5 0 1 r_35) fun M_36 => M_36 else xlet (xup M_8 5 0 3 0) fun M_37 => xlet (M_37 5 0 2) fun v_38 => xlet (xup M_37 5 0 1 v_38) fun M_39 => M_39)
def f_X3_tellGain (town : Int32) (place : Int32) (gold : Int32) (M : xM) : xM :=
  xlet (xup M 20 0 ((town * 8) + place).toNatClampNeg gold) fun M_1 => M_1
def f_X3_endTheWay_L10  (town : Int32) : Nat → Int32 → xM → (Int32 → xM → xM) → xM
  | 0, _, N_, _ => N_
  | n + 1, sold, N_, kx => if (N_ 11 0 4) ≤ sold then kx sold N_ else xlet (xup N_ 22 0 ((town * 256) + sold).toNatClampNeg 0) fun M_2 => xlet (sold + 1) fun x2_3 => f_X3_endTheWay_L10 town n x2_3 M_2 kx
def f_X3_endTheWay_L2  : Nat → Int32 → xM → (Int32 → xM → xM) → xM
  | 0, _, N_, _ => N_
  | n + 1, town, N_, kx => if 6 ≤ town then kx town N_ else f_X3_endTheWay_L10 town (xmu (0 : Int32) (N_ 11 0 4) + 1) (0 : Int32) N_ (fun sold_5 M_6 => xlet (town + 1) fun x1_7 => f_X3_endTheWay_L2  n x1_7 M_6 kx)
def f_X3_endTheWay  (M : xM) : xM :=
  f_X3_endTheWay_L2  (xmu (0 : Int32) 6 + 1) (0 : Int32) M (fun town_8 M_9 => M_9)
def f_X3_bestSale_L16 (town : Int32) (sold : Int32) (M : xM) : Nat → Int32 → Int32 → (Int32 → Int32 → Int32) → Int32
  | 0, _, _, _ => 0
  | n + 1, best, place, kx => if (M 11 0 3) ≤ place then kx best place else xlet (sold ||| ((1 : Int32) <<< (place &&& 31))) fun x5_2 => if x5_2 = sold then xlet (place + 1) fun x4_4 => f_X3_bestSale_L16 town sold M n best x4_4 kx else xlet ((M 20 0 ((town * 8) + place).toNatClampNeg) + (M 22 0 ((town * 256) + x5_2).toNatClampNeg)) fun x6_5 => xlet (if best < x6_5 then x6_5 else best) fun x3_6 => xlet (place + 1) fun x4_7 => f_X3_bestSale_L16 town sold M n x3_6 x4_7 kx
def f_X3_bestSale (town : Int32) (sold : Int32) (M : xM) : Int32 :=
  xlet (M 22 0 ((town * 256) + sold).toNatClampNeg) fun x3_8 => f_X3_bestSale_L16 town sold M (xmu (0 : Int32) (M 11 0 3) + 1) x3_8 (0 : Int32) (fun best_9 place_10 => best_9)
def f_X3_planMornings_L20 (day : Int32) (sold : Int32) : Nat → Int32 → xM → (Int32 → xM → xM) → xM
  | 0, _, N_, _ => N_
  | n + 1, town, N_, kx => if 6 ≤ town then kx town N_ else xlet (f_X3_bestSale town sold N_) fun r_2 => xlet (xup N_ 21 0 ((town * 256) + sold).toNatClampNeg r_2) fun M_3 => xlet (town + 1) fun x3_4 => f_X3_planMornings_L20 day sold n x3_4 M_3 kx
def f_X3_planMornings_L2 (day : Int32) : Nat → Int32 → xM → (Int32 → xM → xM) → xM
  | 0, _, N_, _ => N_
  | n + 1, sold, N_, kx => if (N_ 11 0 4) ≤ sold then kx sold N_ else xlet (f_J6_bitCount_0f7a4 sold N_) fun r_6 => if day < r_6 then xlet (sold + 1) fun x2_8 => f_X3_planMornings_L2 day n x2_8 N_ kx else f_X3_planMornings_L20 day sold (xmu (0 : Int32) 6 + 1) (0 : Int32) N_ (fun town_9 M_10 => xlet (sold + 1) fun x2_11 => f_X3_planMornings_L2 day n x2_11 M_10 kx)
def f_X3_planMornings (day : Int32) (M : xM) : xM :=
  f_X3_planMornings_L2 day (xmu (0 : Int32) (M 11 0 4) + 1) (0 : Int32) M (fun sold_12 M_13 => M_13)
def f_X3_bestMove_L6 (town : Int32) (sold : Int32) (M : xM) : Nat → Int32 → Int32 → (Int32 → Int32 → Int32) → Int32
  | 0, _, _, _ => 0
  | n + 1, best, to, kx => if 6 ≤ to then kx best to else if to = town then xlet (if best < (M 21 0 ((to * 256) + sold).toNatClampNeg) then (M 21 0 ((to * 256) + sold).toNatClampNeg) else best) fun x4_3 => xlet (to + 1) fun x5_4 => f_X3_bestMove_L6 town sold M n x4_3 x5_4 kx else xlet (f_X5_milesBetween town to M) fun r_5 => if r_5 ≤ 0 then xlet (to + 1) fun x5_7 => f_X3_bestMove_L6 town sold M n best x5_7 kx else xlet (if best < (M 21 0 ((to * 256) + sold).toNatClampNeg) then (M 21 0 ((to * 256) + sold).toNatClampNeg) else best) fun x4_8 => xlet (to + 1) fun x5_9 => f_X3_bestMove_L6 town sold M n x4_8 x5_9 kx
def f_X3_bestMove (town : Int32) (sold : Int32) (M : xM) : Int32 :=
  f_X3_bestMove_L6 town sold M (xmu (0 : Int32) 6 + 1) (0 : Int32) (0 : Int32) (fun best_10 to_11 => best_10)
def f_X3_planEvenings_L23 (day : Int32) (sold : Int32) : Nat → Int32 → xM → (Int32 → xM → xM) → xM
  | 0, _, N_, _ => N_
  | n + 1, town, N_, kx => if 6 ≤ town then kx town N_ else xlet (f_X3_bestMove town sold N_) fun r_2 => xlet (xup N_ 22 0 ((town * 256) + sold).toNatClampNeg r_2) fun M_3 => xlet (town + 1) fun x4_4 => f_X3_planEvenings_L23 day sold n x4_4 M_3 kx
def f_X3_planEvenings_L2 (day : Int32) : Nat → Int32 → xM → (Int32 → xM → xM) → xM
  | 0, _, N_, _ => N_
  | n + 1, sold, N_, kx => if (N_ 11 0 4) ≤ sold then kx sold N_ else xlet (f_J6_bitCount_0f7a4 sold N_) fun r_6 => if (day + 1) < r_6 then xlet (sold + 1) fun x3_8 => f_X3_planEvenings_L2 day n x3_8 N_ kx else f_X3_planEvenings_L23 day sold (xmu (0 : Int32) 6 + 1) (0 : Int32) N_ (fun town_9 M_10 => xlet (sold + 1) fun x3_11 => f_X3_planEvenings_L2 day n x3_11 M_10 kx)
def f_X3_planEvenings (day : Int32) (M : xM) : xM :=
  f_X3_planEvenings_L2 day (xmu (0 : Int32) (M 11 0 4) + 1) (0 : Int32) M (fun sold_12 M_13 => M_13)
def f_X3_keepIfMore (to : Int32) (place : Int32) (gold : Int32) (M : xM) : xM :=
  if gold ≤ (M 11 0 5) then M else xlet (xup M 11 0 5 gold) fun M_2 => xlet ((16 * to) + place) fun v_3 => xlet (xup M_2 11 0 6 v_3) fun M_4 => M_4
theorem ob_X7_readToken_41_x5 (nb nn : Nat) (M : xM) (hp0 : 0 ≤ M 5 0 2) (hp1 : M 5 0 2 ≤ 400) (hp2 : 0 ≤ M 5 0 1) (n : Nat) (at_ : Int32) (N_ : xM) (hmu : xmu at_ (N_ 5 0 2) < n + 1) (hinv : 0 ≤ at_ ∧ N_ 5 0 2 ≤ 400) (c_1 : (N_ 5 0 2) ≤ at_) : 0 ≤ at_ ∧ N_ 5 0 2 ≤ 400 := by
  subst_vars
  grind [eor_le, xup_at, xb]
theorem ob_X7_readToken_18_in (nb nn : Nat) (M : xM) (hp0 : 0 ≤ M 5 0 2) (hp1 : M 5 0 2 ≤ 400) (hp2 : 0 ≤ M 5 0 1) (n : Nat) (at_ : Int32) (N_ : xM) (hmu : xmu at_ (N_ 5 0 2) < n + 1) (hinv : 0 ≤ at_ ∧ N_ 5 0 2 ≤ 400) (c_1 : ¬ (N_ 5 0 2) ≤ at_) : vp_in at_ 400 := by
  subst_vars
  exact xin (N := 400) (by grind [eor_le, xup_at, xb]) (by grind [eor_le, xup_at, xb]) (by decide)
theorem ob_X7_readToken_5_mu_3 (nb nn : Nat) (M : xM) (hp0 : 0 ≤ M 5 0 2) (hp1 : M 5 0 2 ≤ 400) (hp2 : 0 ≤ M 5 0 1) (n : Nat) (at_ : Int32) (N_ : xM) (hmu : xmu at_ (N_ 5 0 2) < n + 1) (hinv : 0 ≤ at_ ∧ N_ 5 0 2 ≤ 400) (c_1 : ¬ (N_ 5 0 2) ≤ at_) (c_2 : (N_ 19 0 at_.toNatClampNeg) = 32) (x1_3 : Int32) (ex1_3 : x1_3 = at_ + 1) : xmu x1_3 (N_ 5 0 2) < n := by
  subst_vars
  have h9 := xmu_up (a := at_) (b := (N_ 5 0 2)) (by grind)
  (try simp [xup_at])
  omega
theorem ob_X7_readToken_5_inv_3 (nb nn : Nat) (M : xM) (hp0 : 0 ≤ M 5 0 2) (hp1 : M 5 0 2 ≤ 400) (hp2 : 0 ≤ M 5 0 1) (n : Nat) (at_ : Int32) (N_ : xM) (hmu : xmu at_ (N_ 5 0 2) < n + 1) (hinv : 0 ≤ at_ ∧ N_ 5 0 2 ≤ 400) (c_1 : ¬ (N_ 5 0 2) ≤ at_) (c_2 : (N_ 19 0 at_.toNatClampNeg) = 32) (x1_3 : Int32) (ex1_3 : x1_3 = at_ + 1) : 0 ≤ x1_3 ∧ N_ 5 0 2 ≤ 400 := by
  subst_vars
  grind [eor_le, xup_at, xb]
theorem ob_X7_readToken_29_in (nb nn : Nat) (M : xM) (hp0 : 0 ≤ M 5 0 2) (hp1 : M 5 0 2 ≤ 400) (hp2 : 0 ≤ M 5 0 1) (n : Nat) (at_ : Int32) (N_ : xM) (hmu : xmu at_ (N_ 5 0 2) < n + 1) (hinv : 0 ≤ at_ ∧ N_ 5 0 2 ≤ 400) (c_1 : ¬ (N_ 5 0 2) ≤ at_) (c_2 : ¬ (N_ 19 0 at_.toNatClampNeg) = 32) : vp_in at_ 400 := by
  subst_vars
  exact xin (N := 400) (by grind [eor_le, xup_at, xb]) (by grind [eor_le, xup_at, xb]) (by decide)
theorem ob_X7_readToken_41_x5_2 (nb nn : Nat) (M : xM) (hp0 : 0 ≤ M 5 0 2) (hp1 : M 5 0 2 ≤ 400) (hp2 : 0 ≤ M 5 0 1) (n : Nat) (at_ : Int32) (N_ : xM) (hmu : xmu at_ (N_ 5 0 2) < n + 1) (hinv : 0 ≤ at_ ∧ N_ 5 0 2 ≤ 400) (c_1 : ¬ (N_ 5 0 2) ≤ at_) (c_2 : ¬ (N_ 19 0 at_.toNatClampNeg) = 32) (c_4 : ¬ (N_ 19 0 at_.toNatClampNeg) = 10) : 0 ≤ at_ ∧ N_ 5 0 2 ≤ 400 := by
  subst_vars
  grind [eor_le, xup_at, xb]
theorem ob_X7_readToken_5_mu_5 (nb nn : Nat) (M : xM) (hp0 : 0 ≤ M 5 0 2) (hp1 : M 5 0 2 ≤ 400) (hp2 : 0 ≤ M 5 0 1) (n : Nat) (at_ : Int32) (N_ : xM) (hmu : xmu at_ (N_ 5 0 2) < n + 1) (hinv : 0 ≤ at_ ∧ N_ 5 0 2 ≤ 400) (c_1 : ¬ (N_ 5 0 2) ≤ at_) (c_2 : ¬ (N_ 19 0 at_.toNatClampNeg) = 32) (c_4 : (N_ 19 0 at_.toNatClampNeg) = 10) (x1_5 : Int32) (ex1_5 : x1_5 = at_ + 1) : xmu x1_5 (N_ 5 0 2) < n := by
  subst_vars
  have h9 := xmu_up (a := at_) (b := (N_ 5 0 2)) (by grind)
  (try simp [xup_at])
  omega
theorem ob_X7_readToken_5_inv_5 (nb nn : Nat) (M : xM) (hp0 : 0 ≤ M 5 0 2) (hp1 : M 5 0 2 ≤ 400) (hp2 : 0 ≤ M 5 0 1) (n : Nat) (at_ : Int32) (N_ : xM) (hmu : xmu at_ (N_ 5 0 2) < n + 1) (hinv : 0 ≤ at_ ∧ N_ 5 0 2 ≤ 400) (c_1 : ¬ (N_ 5 0 2) ≤ at_) (c_2 : ¬ (N_ 19 0 at_.toNatClampNeg) = 32) (c_4 : (N_ 19 0 at_.toNatClampNeg) = 10) (x1_5 : Int32) (ex1_5 : x1_5 = at_ + 1) : 0 ≤ x1_5 ∧ N_ 5 0 2 ≤ 400 := by
  subst_vars
  grind [eor_le, xup_at, xb]
theorem ob_X7_readToken_5_ini_6 (nb nn : Nat) (M : xM) (hp0 : 0 ≤ M 5 0 2) (hp1 : M 5 0 2 ≤ 400) (hp2 : 0 ≤ M 5 0 1) (x1_6 : Int32) (ex1_6 : x1_6 = (M 5 0 1)) : 0 ≤ x1_6 ∧ M 5 0 2 ≤ 400 := by
  subst_vars
  grind [eor_le, xup_at, xb]
theorem ob_X7_readToken_76_p0 (nb nn : Nat) (M : xM) (hp0 : 0 ≤ M 5 0 2) (hp1 : M 5 0 2 ≤ 400) (hp2 : 0 ≤ M 5 0 1) (x1_6 : Int32) (ex1_6 : x1_6 = (M 5 0 1)) (at__7 : Int32) (hiv_7 : 0 ≤ at__7 ∧ M 5 0 2 ≤ 400) (M_8 : xM) (eM_8 : M_8 = xup M 5 0 4 at__7) (c_9 : at__7 < (M_8 5 0 2)) : 0 ≤ at__7 := by
  subst_vars
  grind [eor_le, xup_at, xb]
theorem ob_X7_readToken_76_p1 (nb nn : Nat) (M : xM) (hp0 : 0 ≤ M 5 0 2) (hp1 : M 5 0 2 ≤ 400) (hp2 : 0 ≤ M 5 0 1) (x1_6 : Int32) (ex1_6 : x1_6 = (M 5 0 1)) (at__7 : Int32) (hiv_7 : 0 ≤ at__7 ∧ M 5 0 2 ≤ 400) (M_8 : xM) (eM_8 : M_8 = xup M 5 0 4 at__7) (c_9 : at__7 < (M_8 5 0 2)) : at__7 < 400 := by
  subst_vars
  grind [eor_le, xup_at, xb]
theorem ob_X7_readToken_109_p0 (nb nn : Nat) (M : xM) (hp0 : 0 ≤ M 5 0 2) (hp1 : M 5 0 2 ≤ 400) (hp2 : 0 ≤ M 5 0 1) (x1_6 : Int32) (ex1_6 : x1_6 = (M 5 0 1)) (at__7 : Int32) (hiv_7 : 0 ≤ at__7 ∧ M 5 0 2 ≤ 400) (M_8 : xM) (eM_8 : M_8 = xup M 5 0 4 at__7) (c_9 : at__7 < (M_8 5 0 2)) (r_10 : Int32) (er_10 : r_10 = xb (f_X7_isAmong at__7 97 122 M_8)) (c_11 : r_10 = 0) : 0 ≤ at__7 := by
  subst_vars
  grind [eor_le, xup_at, xb]
theorem ob_X7_readToken_109_p1 (nb nn : Nat) (M : xM) (hp0 : 0 ≤ M 5 0 2) (hp1 : M 5 0 2 ≤ 400) (hp2 : 0 ≤ M 5 0 1) (x1_6 : Int32) (ex1_6 : x1_6 = (M 5 0 1)) (at__7 : Int32) (hiv_7 : 0 ≤ at__7 ∧ M 5 0 2 ≤ 400) (M_8 : xM) (eM_8 : M_8 = xup M 5 0 4 at__7) (c_9 : at__7 < (M_8 5 0 2)) (r_10 : Int32) (er_10 : r_10 = xb (f_X7_isAmong at__7 97 122 M_8)) (c_11 : r_10 = 0) : at__7 < 400 := by
  subst_vars
  grind [eor_le, xup_at, xb]
theorem ob_X7_readToken_181_in (nb nn : Nat) (M : xM) (hp0 : 0 ≤ M 5 0 2) (hp1 : M 5 0 2 ≤ 400) (hp2 : 0 ≤ M 5 0 1) (x1_6 : Int32) (ex1_6 : x1_6 = (M 5 0 1)) (at__7 : Int32) (hiv_7 : 0 ≤ at__7 ∧ M 5 0 2 ≤ 400) (M_8 : xM) (eM_8 : M_8 = xup M 5 0 4 at__7) (c_9 : at__7 < (M_8 5 0 2)) (r_10 : Int32) (er_10 : r_10 = xb (f_X7_isAmong at__7 97 122 M_8)) (c_11 : r_10 = 0) (r_12 : Int32) (er_12 : r_12 = xb (f_X7_isAmong at__7 48 57 M_8)) (c_13 : r_12 = 0) : vp_in at__7 400 := by
  subst_vars
  exact xin (N := 400) (by grind [eor_le, xup_at, xb]) (by grind [eor_le, xup_at, xb]) (by decide)
theorem ob_X7_readToken_122_p0 (nb nn : Nat) (M : xM) (hp0 : 0 ≤ M 5 0 2) (hp1 : M 5 0 2 ≤ 400) (hp2 : 0 ≤ M 5 0 1) (x1_6 : Int32) (ex1_6 : x1_6 = (M 5 0 1)) (at__7 : Int32) (hiv_7 : 0 ≤ at__7 ∧ M 5 0 2 ≤ 400) (M_8 : xM) (eM_8 : M_8 = xup M 5 0 4 at__7) (c_9 : at__7 < (M_8 5 0 2)) (r_10 : Int32) (er_10 : r_10 = xb (f_X7_isAmong at__7 97 122 M_8)) (c_11 : r_10 = 0) (r_12 : Int32) (er_12 : r_12 = xb (f_X7_isAmong at__7 48 57 M_8)) (c_13 : ¬ r_12 = 0) : 0 ≤ at__7 := by
  subst_vars
  grind [eor_le, xup_at, xb]
theorem ob_X7_readToken_122_p1 (nb nn : Nat) (M : xM) (hp0 : 0 ≤ M 5 0 2) (hp1 : M 5 0 2 ≤ 400) (hp2 : 0 ≤ M 5 0 1) (x1_6 : Int32) (ex1_6 : x1_6 = (M 5 0 1)) (at__7 : Int32) (hiv_7 : 0 ≤ at__7 ∧ M 5 0 2 ≤ 400) (M_8 : xM) (eM_8 : M_8 = xup M 5 0 4 at__7) (c_9 : at__7 < (M_8 5 0 2)) (r_10 : Int32) (er_10 : r_10 = xb (f_X7_isAmong at__7 97 122 M_8)) (c_11 : r_10 = 0) (r_12 : Int32) (er_12 : r_12 = xb (f_X7_isAmong at__7 48 57 M_8)) (c_13 : ¬ r_12 = 0) : M_8 5 0 2 ≤ 400 := by
  subst_vars
  grind [eor_le, xup_at, xb]
theorem ob_X7_readToken_162_p0 (nb nn : Nat) (M : xM) (hp0 : 0 ≤ M 5 0 2) (hp1 : M 5 0 2 ≤ 400) (hp2 : 0 ≤ M 5 0 1) (x1_6 : Int32) (ex1_6 : x1_6 = (M 5 0 1)) (at__7 : Int32) (hiv_7 : 0 ≤ at__7 ∧ M 5 0 2 ≤ 400) (M_8 : xM) (eM_8 : M_8 = xup M 5 0 4 at__7) (c_9 : at__7 < (M_8 5 0 2)) (r_10 : Int32) (er_10 : r_10 = xb (f_X7_isAmong at__7 97 122 M_8)) (c_11 : r_10 = 0) (r_12 : Int32) (er_12 : r_12 = xb (f_X7_isAmong at__7 48 57 M_8)) (c_13 : ¬ r_12 = 0) (r_21 : Int32) (er_21 : r_21 = f_X7_endOfRun at__7 48 57 M_8) (M_22 : xM) (eM_22 : M_22 = xup M_8 5 0 1 r_21) (c_23 : ((M_22 5 0 1) - at__7) ≤ 4) (M_24 : xM) (eM_24 : M_24 = xup M_22 5 0 3 2) (c_25 : (M_24 5 0 3) = 2) : 0 ≤ at__7 := by
  subst_vars
  grind [eor_le, xup_at, xb]
theorem ob_X7_readToken_162_p1 (nb nn : Nat) (M : xM) (hp0 : 0 ≤ M 5 0 2) (hp1 : M 5 0 2 ≤ 400) (hp2 : 0 ≤ M 5 0 1) (x1_6 : Int32) (ex1_6 : x1_6 = (M 5 0 1)) (at__7 : Int32) (hiv_7 : 0 ≤ at__7 ∧ M 5 0 2 ≤ 400) (M_8 : xM) (eM_8 : M_8 = xup M 5 0 4 at__7) (c_9 : at__7 < (M_8 5 0 2)) (r_10 : Int32) (er_10 : r_10 = xb (f_X7_isAmong at__7 97 122 M_8)) (c_11 : r_10 = 0) (r_12 : Int32) (er_12 : r_12 = xb (f_X7_isAmong at__7 48 57 M_8)) (c_13 : ¬ r_12 = 0) (r_21 : Int32) (er_21 : r_21 = f_X7_endOfRun at__7 48 57 M_8) (M_22 : xM) (eM_22 : M_22 = xup M_8 5 0 1 r_21) (c_23 : ((M_22 5 0 1) - at__7) ≤ 4) (M_24 : xM) (eM_24 : M_24 = xup M_22 5 0 3 2) (c_25 : (M_24 5 0 3) = 2) : (M_24 5 0 1) ≤ 400 := by
  subst_vars
  grind [eor_le, xup_at, xb]
theorem ob_X7_readToken_162_p0_2 (nb nn : Nat) (M : xM) (hp0 : 0 ≤ M 5 0 2) (hp1 : M 5 0 2 ≤ 400) (hp2 : 0 ≤ M 5 0 1) (x1_6 : Int32) (ex1_6 : x1_6 = (M 5 0 1)) (at__7 : Int32) (hiv_7 : 0 ≤ at__7 ∧ M 5 0 2 ≤ 400) (M_8 : xM) (eM_8 : M_8 = xup M 5 0 4 at__7) (c_9 : at__7 < (M_8 5 0 2)) (r_10 : Int32) (er_10 : r_10 = xb (f_X7_isAmong at__7 97 122 M_8)) (c_11 : r_10 = 0) (r_12 : Int32) (er_12 : r_12 = xb (f_X7_isAmong at__7 48 57 M_8)) (c_13 : ¬ r_12 = 0) (r_21 : Int32) (er_21 : r_21 = f_X7_endOfRun at__7 48 57 M_8) (M_22 : xM) (eM_22 : M_22 = xup M_8 5 0 1 r_21) (c_23 : ¬ ((M_22 5 0 1) - at__7) ≤ 4) (M_29 : xM) (eM_29 : M_29 = xup M_22 5 0 3 4) (c_30 : (M_29 5 0 3) = 2) : 0 ≤ at__7 := by
  subst_vars
  grind [eor_le, xup_at, xb]
theorem ob_X7_readToken_162_p1_2 (nb nn : Nat) (M : xM) (hp0 : 0 ≤ M 5 0 2) (hp1 : M 5 0 2 ≤ 400) (hp2 : 0 ≤ M 5 0 1) (x1_6 : Int32) (ex1_6 : x1_6 = (M 5 0 1)) (at__7 : Int32) (hiv_7 : 0 ≤ at__7 ∧ M 5 0 2 ≤ 400) (M_8 : xM) (eM_8 : M_8 = xup M 5 0 4 at__7) (c_9 : at__7 < (M_8 5 0 2)) (r_10 : Int32) (er_10 : r_10 = xb (f_X7_isAmong at__7 97 122 M_8)) (c_11 : r_10 = 0) (r_12 : Int32) (er_12 : r_12 = xb (f_X7_isAmong at__7 48 57 M_8)) (c_13 : ¬ r_12 = 0) (r_21 : Int32) (er_21 : r_21 = f_X7_endOfRun at__7 48 57 M_8) (M_22 : xM) (eM_22 : M_22 = xup M_8 5 0 1 r_21) (c_23 : ¬ ((M_22 5 0 1) - at__7) ≤ 4) (M_29 : xM) (eM_29 : M_29 = xup M_22 5 0 3 4) (c_30 : (M_29 5 0 3) = 2) : (M_29 5 0 1) ≤ 400 := by
  subst_vars
  grind [eor_le, xup_at, xb]
theorem ob_X7_readToken_94_p0 (nb nn : Nat) (M : xM) (hp0 : 0 ≤ M 5 0 2) (hp1 : M 5 0 2 ≤ 400) (hp2 : 0 ≤ M 5 0 1) (x1_6 : Int32) (ex1_6 : x1_6 = (M 5 0 1)) (at__7 : Int32) (hiv_7 : 0 ≤ at__7 ∧ M 5 0 2 ≤ 400) (M_8 : xM) (eM_8 : M_8 = xup M 5 0 4 at__7) (c_9 : at__7 < (M_8 5 0 2)) (r_10 : Int32) (er_10 : r_10 = xb (f_X7_isAmong at__7 97 122 M_8)) (c_11 : ¬ r_10 = 0) (M_34 : xM) (eM_34 : M_34 = xup M_8 5 0 3 1) : 0 ≤ at__7 := by
  subst_vars
  grind [eor_le, xup_at, xb]
theorem ob_X7_readToken_94_p1 (nb nn : Nat) (M : xM) (hp0 : 0 ≤ M 5 0 2) (hp1 : M 5 0 2 ≤ 400) (hp2 : 0 ≤ M 5 0 1) (x1_6 : Int32) (ex1_6 : x1_6 = (M 5 0 1)) (at__7 : Int32) (hiv_7 : 0 ≤ at__7 ∧ M 5 0 2 ≤ 400) (M_8 : xM) (eM_8 : M_8 = xup M 5 0 4 at__7) (c_9 : at__7 < (M_8 5 0 2)) (r_10 : Int32) (er_10 : r_10 = xb (f_X7_isAmong at__7 97 122 M_8)) (c_11 : ¬ r_10 = 0) (M_34 : xM) (eM_34 : M_34 = xup M_8 5 0 3 1) : M_34 5 0 2 ≤ 400 := by
  subst_vars
  grind [eor_le, xup_at, xb]
theorem ob_X3_tellGain_11_in (nb nn : Nat) (town : Int32) (place : Int32) (gold : Int32) (M : xM) (hp0 : 0 ≤ town) (hp1 : town < 6) (hp2 : 0 ≤ place) (hp3 : place < 8) : vp_in ((town * 8) + place) 48 := by
  exact xin (N := 48) (by grind) (by grind) (by decide)
theorem ob_X3_endTheWay_37_x10 (nb nn : Nat) (M : xM) (hp0 : M 11 0 4 ≤ 256) (town : Int32) (n : Nat) (sold : Int32) (N_ : xM) (hmu : xmu sold (N_ 11 0 4) < n + 1) (hinv : 0 ≤ town ∧ town < 6 ∧ 0 ≤ sold ∧ N_ 11 0 4 ≤ 256) (c_1 : (N_ 11 0 4) ≤ sold) : 0 ≤ town ∧ town < 6 ∧ 0 ≤ sold ∧ N_ 11 0 4 ≤ 256 := by
  subst_vars
  grind [xup_at]
theorem ob_X3_endTheWay_30_in (nb nn : Nat) (M : xM) (hp0 : M 11 0 4 ≤ 256) (town : Int32) (n : Nat) (sold : Int32) (N_ : xM) (hmu : xmu sold (N_ 11 0 4) < n + 1) (hinv : 0 ≤ town ∧ town < 6 ∧ 0 ≤ sold ∧ N_ 11 0 4 ≤ 256) (c_1 : ¬ (N_ 11 0 4) ≤ sold) : vp_in ((town * 256) + sold) 1536 := by
  subst_vars
  exact xin (N := 1536) (by grind [xup_at]) (by grind [xup_at]) (by decide)
theorem ob_X3_endTheWay_10_mu_3 (nb nn : Nat) (M : xM) (hp0 : M 11 0 4 ≤ 256) (town : Int32) (n : Nat) (sold : Int32) (N_ : xM) (hmu : xmu sold (N_ 11 0 4) < n + 1) (hinv : 0 ≤ town ∧ town < 6 ∧ 0 ≤ sold ∧ N_ 11 0 4 ≤ 256) (c_1 : ¬ (N_ 11 0 4) ≤ sold) (M_2 : xM) (eM_2 : M_2 = xup N_ 22 0 ((town * 256) + sold).toNatClampNeg 0) (x2_3 : Int32) (ex2_3 : x2_3 = sold + 1) : xmu x2_3 (M_2 11 0 4) < n := by
  subst_vars
  have h9 := xmu_up (a := sold) (b := N_ 11 0 4) (by grind)
  simp [xup_at]
  omega
theorem ob_X3_endTheWay_10_inv_3 (nb nn : Nat) (M : xM) (hp0 : M 11 0 4 ≤ 256) (town : Int32) (n : Nat) (sold : Int32) (N_ : xM) (hmu : xmu sold (N_ 11 0 4) < n + 1) (hinv : 0 ≤ town ∧ town < 6 ∧ 0 ≤ sold ∧ N_ 11 0 4 ≤ 256) (c_1 : ¬ (N_ 11 0 4) ≤ sold) (M_2 : xM) (eM_2 : M_2 = xup N_ 22 0 ((town * 256) + sold).toNatClampNeg 0) (x2_3 : Int32) (ex2_3 : x2_3 = sold + 1) : 0 ≤ town ∧ town < 6 ∧ 0 ≤ x2_3 ∧ M_2 11 0 4 ≤ 256 := by
  subst_vars
  grind [xup_at]
theorem ob_X3_endTheWay_43_x2 (nb nn : Nat) (M : xM) (hp0 : M 11 0 4 ≤ 256) (n : Nat) (town : Int32) (N_ : xM) (hmu : xmu town 6 < n + 1) (hinv : 0 ≤ town ∧ N_ 11 0 4 ≤ 256) (c_4 : 6 ≤ town) : 0 ≤ town ∧ N_ 11 0 4 ≤ 256 := by
  subst_vars
  grind [xup_at]
theorem ob_X3_endTheWay_10_ini_4 (nb nn : Nat) (M : xM) (hp0 : M 11 0 4 ≤ 256) (n : Nat) (town : Int32) (N_ : xM) (hmu : xmu town 6 < n + 1) (hinv : 0 ≤ town ∧ N_ 11 0 4 ≤ 256) (c_4 : ¬ 6 ≤ town) : 0 ≤ town ∧ town < 6 ∧ 0 ≤ (0 : Int32) ∧ N_ 11 0 4 ≤ 256 := by
  subst_vars
  grind [xup_at]
theorem ob_X3_endTheWay_2_mu_7 (nb nn : Nat) (M : xM) (hp0 : M 11 0 4 ≤ 256) (n : Nat) (town : Int32) (N_ : xM) (hmu : xmu town 6 < n + 1) (hinv : 0 ≤ town ∧ N_ 11 0 4 ≤ 256) (c_4 : ¬ 6 ≤ town) (sold_5 : Int32) (M_6 : xM) (hiv_6 : 0 ≤ town ∧ town < 6 ∧ 0 ≤ sold_5 ∧ M_6 11 0 4 ≤ 256) (x1_7 : Int32) (ex1_7 : x1_7 = town + 1) : xmu x1_7 6 < n := by
  subst_vars
  have h9 := xmu_up (a := town) (b := 6) (by grind)
  (try simp [xup_at])
  omega
theorem ob_X3_endTheWay_2_inv_7 (nb nn : Nat) (M : xM) (hp0 : M 11 0 4 ≤ 256) (n : Nat) (town : Int32) (N_ : xM) (hmu : xmu town 6 < n + 1) (hinv : 0 ≤ town ∧ N_ 11 0 4 ≤ 256) (c_4 : ¬ 6 ≤ town) (sold_5 : Int32) (M_6 : xM) (hiv_6 : 0 ≤ town ∧ town < 6 ∧ 0 ≤ sold_5 ∧ M_6 11 0 4 ≤ 256) (x1_7 : Int32) (ex1_7 : x1_7 = town + 1) : 0 ≤ x1_7 ∧ M_6 11 0 4 ≤ 256 := by
  subst_vars
  grind [xup_at]
theorem ob_X3_endTheWay_2_ini_7 (nb nn : Nat) (M : xM) (hp0 : M 11 0 4 ≤ 256) : 0 ≤ (0 : Int32) ∧ M 11 0 4 ≤ 256 := by
  subst_vars
  grind [xup_at]
theorem ob_X3_bestSale_80_x16 (nb nn : Nat) (town : Int32) (sold : Int32) (M : xM) (hp0 : 0 ≤ town) (hp1 : town < 6) (hp2 : 0 ≤ sold) (hp3 : sold < 256) (hp4 : M 11 0 3 ≤ 8) (n : Nat) (best : Int32) (place : Int32) (hmu : xmu place (M 11 0 3) < n + 1) (hinv : 0 ≤ place) (c_1 : (M 11 0 3) ≤ place) : 0 ≤ place := by
  subst_vars
  grind [or256, shl8]
theorem ob_X3_bestSale_16_mu_4 (nb nn : Nat) (town : Int32) (sold : Int32) (M : xM) (hp0 : 0 ≤ town) (hp1 : town < 6) (hp2 : 0 ≤ sold) (hp3 : sold < 256) (hp4 : M 11 0 3 ≤ 8) (n : Nat) (best : Int32) (place : Int32) (hmu : xmu place (M 11 0 3) < n + 1) (hinv : 0 ≤ place) (c_1 : ¬ (M 11 0 3) ≤ place) (x5_2 : Int32) (ex5_2 : x5_2 = (sold ||| ((1 : Int32) <<< (place &&& 31)))) (c_3 : x5_2 = sold) (x4_4 : Int32) (ex4_4 : x4_4 = place + 1) : xmu x4_4 (M 11 0 3) < n := by
  subst_vars
  have h9 := xmu_up (a := place) (b := (M 11 0 3)) (by grind)
  (try simp [xup_at])
  omega
theorem ob_X3_bestSale_16_inv_4 (nb nn : Nat) (town : Int32) (sold : Int32) (M : xM) (hp0 : 0 ≤ town) (hp1 : town < 6) (hp2 : 0 ≤ sold) (hp3 : sold < 256) (hp4 : M 11 0 3 ≤ 8) (n : Nat) (best : Int32) (place : Int32) (hmu : xmu place (M 11 0 3) < n + 1) (hinv : 0 ≤ place) (c_1 : ¬ (M 11 0 3) ≤ place) (x5_2 : Int32) (ex5_2 : x5_2 = (sold ||| ((1 : Int32) <<< (place &&& 31)))) (c_3 : x5_2 = sold) (x4_4 : Int32) (ex4_4 : x4_4 = place + 1) : 0 ≤ x4_4 := by
  subst_vars
  grind [or256, shl8]
theorem ob_X3_bestSale_50_in (nb nn : Nat) (town : Int32) (sold : Int32) (M : xM) (hp0 : 0 ≤ town) (hp1 : town < 6) (hp2 : 0 ≤ sold) (hp3 : sold < 256) (hp4 : M 11 0 3 ≤ 8) (n : Nat) (best : Int32) (place : Int32) (hmu : xmu place (M 11 0 3) < n + 1) (hinv : 0 ≤ place) (c_1 : ¬ (M 11 0 3) ≤ place) (x5_2 : Int32) (ex5_2 : x5_2 = (sold ||| ((1 : Int32) <<< (place &&& 31)))) (c_3 : ¬ x5_2 = sold) : vp_in ((town * 8) + place) 48 := by
  subst_vars
  exact xin (N := 48) (by grind [or256, shl8]) (by grind [or256, shl8]) (by decide)
theorem ob_X3_bestSale_63_in (nb nn : Nat) (town : Int32) (sold : Int32) (M : xM) (hp0 : 0 ≤ town) (hp1 : town < 6) (hp2 : 0 ≤ sold) (hp3 : sold < 256) (hp4 : M 11 0 3 ≤ 8) (n : Nat) (best : Int32) (place : Int32) (hmu : xmu place (M 11 0 3) < n + 1) (hinv : 0 ≤ place) (c_1 : ¬ (M 11 0 3) ≤ place) (x5_2 : Int32) (ex5_2 : x5_2 = (sold ||| ((1 : Int32) <<< (place &&& 31)))) (c_3 : ¬ x5_2 = sold) : vp_in ((town * 256) + x5_2) 1536 := by
  subst_vars
  exact xin (N := 1536) (by grind [or256, shl8]) (by grind [or256, shl8]) (by decide)
theorem ob_X3_bestSale_16_mu_7 (nb nn : Nat) (town : Int32) (sold : Int32) (M : xM) (hp0 : 0 ≤ town) (hp1 : town < 6) (hp2 : 0 ≤ sold) (hp3 : sold < 256) (hp4 : M 11 0 3 ≤ 8) (n : Nat) (best : Int32) (place : Int32) (hmu : xmu place (M 11 0 3) < n + 1) (hinv : 0 ≤ place) (c_1 : ¬ (M 11 0 3) ≤ place) (x5_2 : Int32) (ex5_2 : x5_2 = (sold ||| ((1 : Int32) <<< (place &&& 31)))) (c_3 : ¬ x5_2 = sold) (x6_5 : Int32) (ex6_5 : x6_5 = ((M 20 0 ((town * 8) + place).toNatClampNeg) + (M 22 0 ((town * 256) + x5_2).toNatClampNeg))) (x3_6 : Int32) (ex3_6 : x3_6 = (if best < x6_5 then x6_5 else best)) (x4_7 : Int32) (ex4_7 : x4_7 = place + 1) : xmu x4_7 (M 11 0 3) < n := by
  subst_vars
  have h9 := xmu_up (a := place) (b := (M 11 0 3)) (by grind)
  (try simp [xup_at])
  omega
theorem ob_X3_bestSale_16_inv_7 (nb nn : Nat) (town : Int32) (sold : Int32) (M : xM) (hp0 : 0 ≤ town) (hp1 : town < 6) (hp2 : 0 ≤ sold) (hp3 : sold < 256) (hp4 : M 11 0 3 ≤ 8) (n : Nat) (best : Int32) (place : Int32) (hmu : xmu place (M 11 0 3) < n + 1) (hinv : 0 ≤ place) (c_1 : ¬ (M 11 0 3) ≤ place) (x5_2 : Int32) (ex5_2 : x5_2 = (sold ||| ((1 : Int32) <<< (place &&& 31)))) (c_3 : ¬ x5_2 = sold) (x6_5 : Int32) (ex6_5 : x6_5 = ((M 20 0 ((town * 8) + place).toNatClampNeg) + (M 22 0 ((town * 256) + x5_2).toNatClampNeg))) (x3_6 : Int32) (ex3_6 : x3_6 = (if best < x6_5 then x6_5 else best)) (x4_7 : Int32) (ex4_7 : x4_7 = place + 1) : 0 ≤ x4_7 := by
  subst_vars
  grind [or256, shl8]
theorem ob_X3_bestSale_11_in (nb nn : Nat) (town : Int32) (sold : Int32) (M : xM) (hp0 : 0 ≤ town) (hp1 : town < 6) (hp2 : 0 ≤ sold) (hp3 : sold < 256) (hp4 : M 11 0 3 ≤ 8) : vp_in ((town * 256) + sold) 1536 := by
  subst_vars
  exact xin (N := 1536) (by grind [or256, shl8]) (by grind [or256, shl8]) (by decide)
theorem ob_X3_bestSale_16_ini_8 (nb nn : Nat) (town : Int32) (sold : Int32) (M : xM) (hp0 : 0 ≤ town) (hp1 : town < 6) (hp2 : 0 ≤ sold) (hp3 : sold < 256) (hp4 : M 11 0 3 ≤ 8) (x3_8 : Int32) (ex3_8 : x3_8 = (M 22 0 ((town * 256) + sold).toNatClampNeg)) : 0 ≤ (0 : Int32) := by
  subst_vars
  grind [or256, shl8]
theorem ob_X3_planMornings_50_x20 (nb nn : Nat) (day : Int32) (M : xM) (hp0 : M 11 0 4 ≤ 256) (hp1 : M 11 0 3 ≤ 8) (G : xM) (sold : Int32) (n : Nat) (town : Int32) (N_ : xM) (hmu : xmu town 6 < n + 1) (hinv : 0 ≤ sold ∧ sold < 256 ∧ 0 ≤ town ∧ N_ 11 0 4 ≤ 256 ∧ N_ 11 0 3 ≤ 8 ∧ N_ 11 0 4 = G 11 0 4 ∧ N_ 11 0 3 = G 11 0 3) (c_1 : 6 ≤ town) : N_ 11 0 4 = G 11 0 4 ∧ N_ 11 0 3 = G 11 0 3 := by
  subst_vars
  grind [xup_at, xb]
theorem ob_X3_planMornings_40_p0 (nb nn : Nat) (day : Int32) (M : xM) (hp0 : M 11 0 4 ≤ 256) (hp1 : M 11 0 3 ≤ 8) (G : xM) (sold : Int32) (n : Nat) (town : Int32) (N_ : xM) (hmu : xmu town 6 < n + 1) (hinv : 0 ≤ sold ∧ sold < 256 ∧ 0 ≤ town ∧ N_ 11 0 4 ≤ 256 ∧ N_ 11 0 3 ≤ 8 ∧ N_ 11 0 4 = G 11 0 4 ∧ N_ 11 0 3 = G 11 0 3) (c_1 : ¬ 6 ≤ town) : 0 ≤ town := by
  subst_vars
  grind [xup_at, xb]
theorem ob_X3_planMornings_40_p1 (nb nn : Nat) (day : Int32) (M : xM) (hp0 : M 11 0 4 ≤ 256) (hp1 : M 11 0 3 ≤ 8) (G : xM) (sold : Int32) (n : Nat) (town : Int32) (N_ : xM) (hmu : xmu town 6 < n + 1) (hinv : 0 ≤ sold ∧ sold < 256 ∧ 0 ≤ town ∧ N_ 11 0 4 ≤ 256 ∧ N_ 11 0 3 ≤ 8 ∧ N_ 11 0 4 = G 11 0 4 ∧ N_ 11 0 3 = G 11 0 3) (c_1 : ¬ 6 ≤ town) : town < 6 := by
  subst_vars
  grind [xup_at, xb]
theorem ob_X3_planMornings_40_p2 (nb nn : Nat) (day : Int32) (M : xM) (hp0 : M 11 0 4 ≤ 256) (hp1 : M 11 0 3 ≤ 8) (G : xM) (sold : Int32) (n : Nat) (town : Int32) (N_ : xM) (hmu : xmu town 6 < n + 1) (hinv : 0 ≤ sold ∧ sold < 256 ∧ 0 ≤ town ∧ N_ 11 0 4 ≤ 256 ∧ N_ 11 0 3 ≤ 8 ∧ N_ 11 0 4 = G 11 0 4 ∧ N_ 11 0 3 = G 11 0 3) (c_1 : ¬ 6 ≤ town) : 0 ≤ sold := by
  subst_vars
  grind [xup_at, xb]
theorem ob_X3_planMornings_40_p3 (nb nn : Nat) (day : Int32) (M : xM) (hp0 : M 11 0 4 ≤ 256) (hp1 : M 11 0 3 ≤ 8) (G : xM) (sold : Int32) (n : Nat) (town : Int32) (N_ : xM) (hmu : xmu town 6 < n + 1) (hinv : 0 ≤ sold ∧ sold < 256 ∧ 0 ≤ town ∧ N_ 11 0 4 ≤ 256 ∧ N_ 11 0 3 ≤ 8 ∧ N_ 11 0 4 = G 11 0 4 ∧ N_ 11 0 3 = G 11 0 3) (c_1 : ¬ 6 ≤ town) : sold < 256 := by
  subst_vars
  grind [xup_at, xb]
theorem ob_X3_planMornings_40_p4 (nb nn : Nat) (day : Int32) (M : xM) (hp0 : M 11 0 4 ≤ 256) (hp1 : M 11 0 3 ≤ 8) (G : xM) (sold : Int32) (n : Nat) (town : Int32) (N_ : xM) (hmu : xmu town 6 < n + 1) (hinv : 0 ≤ sold ∧ sold < 256 ∧ 0 ≤ town ∧ N_ 11 0 4 ≤ 256 ∧ N_ 11 0 3 ≤ 8 ∧ N_ 11 0 4 = G 11 0 4 ∧ N_ 11 0 3 = G 11 0 3) (c_1 : ¬ 6 ≤ town) : N_ 11 0 3 ≤ 8 := by
  subst_vars
  grind [xup_at, xb]
theorem ob_X3_planMornings_43_in (nb nn : Nat) (day : Int32) (M : xM) (hp0 : M 11 0 4 ≤ 256) (hp1 : M 11 0 3 ≤ 8) (G : xM) (sold : Int32) (n : Nat) (town : Int32) (N_ : xM) (hmu : xmu town 6 < n + 1) (hinv : 0 ≤ sold ∧ sold < 256 ∧ 0 ≤ town ∧ N_ 11 0 4 ≤ 256 ∧ N_ 11 0 3 ≤ 8 ∧ N_ 11 0 4 = G 11 0 4 ∧ N_ 11 0 3 = G 11 0 3) (c_1 : ¬ 6 ≤ town) (r_2 : Int32) (er_2 : r_2 = f_X3_bestSale town sold N_) : vp_in ((town * 256) + sold) 1536 := by
  subst_vars
  exact xin (N := 1536) (by grind [xup_at, xb]) (by grind [xup_at, xb]) (by decide)
theorem ob_X3_planMornings_20_mu_4 (nb nn : Nat) (day : Int32) (M : xM) (hp0 : M 11 0 4 ≤ 256) (hp1 : M 11 0 3 ≤ 8) (G : xM) (sold : Int32) (n : Nat) (town : Int32) (N_ : xM) (hmu : xmu town 6 < n + 1) (hinv : 0 ≤ sold ∧ sold < 256 ∧ 0 ≤ town ∧ N_ 11 0 4 ≤ 256 ∧ N_ 11 0 3 ≤ 8 ∧ N_ 11 0 4 = G 11 0 4 ∧ N_ 11 0 3 = G 11 0 3) (c_1 : ¬ 6 ≤ town) (r_2 : Int32) (er_2 : r_2 = f_X3_bestSale town sold N_) (M_3 : xM) (eM_3 : M_3 = xup N_ 21 0 ((town * 256) + sold).toNatClampNeg r_2) (x3_4 : Int32) (ex3_4 : x3_4 = town + 1) : xmu x3_4 6 < n := by
  subst_vars
  have h9 := xmu_up (a := town) (b := 6) (by grind)
  (try simp [xup_at])
  omega
theorem ob_X3_planMornings_20_inv_4 (nb nn : Nat) (day : Int32) (M : xM) (hp0 : M 11 0 4 ≤ 256) (hp1 : M 11 0 3 ≤ 8) (G : xM) (sold : Int32) (n : Nat) (town : Int32) (N_ : xM) (hmu : xmu town 6 < n + 1) (hinv : 0 ≤ sold ∧ sold < 256 ∧ 0 ≤ town ∧ N_ 11 0 4 ≤ 256 ∧ N_ 11 0 3 ≤ 8 ∧ N_ 11 0 4 = G 11 0 4 ∧ N_ 11 0 3 = G 11 0 3) (c_1 : ¬ 6 ≤ town) (r_2 : Int32) (er_2 : r_2 = f_X3_bestSale town sold N_) (M_3 : xM) (eM_3 : M_3 = xup N_ 21 0 ((town * 256) + sold).toNatClampNeg r_2) (x3_4 : Int32) (ex3_4 : x3_4 = town + 1) : 0 ≤ sold ∧ sold < 256 ∧ 0 ≤ x3_4 ∧ M_3 11 0 4 ≤ 256 ∧ M_3 11 0 3 ≤ 8 ∧ M_3 11 0 4 = G 11 0 4 ∧ M_3 11 0 3 = G 11 0 3 := by
  subst_vars
  grind [xup_at, xb]
theorem ob_X3_planMornings_56_x2 (nb nn : Nat) (day : Int32) (M : xM) (hp0 : M 11 0 4 ≤ 256) (hp1 : M 11 0 3 ≤ 8) (n : Nat) (sold : Int32) (N_ : xM) (hmu : xmu sold (N_ 11 0 4) < n + 1) (hinv : 0 ≤ sold ∧ N_ 11 0 4 ≤ 256 ∧ N_ 11 0 3 ≤ 8) (c_5 : (N_ 11 0 4) ≤ sold) : 0 ≤ sold ∧ N_ 11 0 4 ≤ 256 ∧ N_ 11 0 3 ≤ 8 := by
  subst_vars
  grind [xup_at, xb]
theorem ob_X3_planMornings_2_mu_8 (nb nn : Nat) (day : Int32) (M : xM) (hp0 : M 11 0 4 ≤ 256) (hp1 : M 11 0 3 ≤ 8) (n : Nat) (sold : Int32) (N_ : xM) (hmu : xmu sold (N_ 11 0 4) < n + 1) (hinv : 0 ≤ sold ∧ N_ 11 0 4 ≤ 256 ∧ N_ 11 0 3 ≤ 8) (c_5 : ¬ (N_ 11 0 4) ≤ sold) (r_6 : Int32) (er_6 : r_6 = f_J6_bitCount_0f7a4 sold N_) (c_7 : day < r_6) (x2_8 : Int32) (ex2_8 : x2_8 = sold + 1) : xmu x2_8 (N_ 11 0 4) < n := by
  subst_vars
  have h9 := xmu_up (a := sold) (b := N_ 11 0 4) (by grind)
  grind [xup_at]
theorem ob_X3_planMornings_2_inv_8 (nb nn : Nat) (day : Int32) (M : xM) (hp0 : M 11 0 4 ≤ 256) (hp1 : M 11 0 3 ≤ 8) (n : Nat) (sold : Int32) (N_ : xM) (hmu : xmu sold (N_ 11 0 4) < n + 1) (hinv : 0 ≤ sold ∧ N_ 11 0 4 ≤ 256 ∧ N_ 11 0 3 ≤ 8) (c_5 : ¬ (N_ 11 0 4) ≤ sold) (r_6 : Int32) (er_6 : r_6 = f_J6_bitCount_0f7a4 sold N_) (c_7 : day < r_6) (x2_8 : Int32) (ex2_8 : x2_8 = sold + 1) : 0 ≤ x2_8 ∧ N_ 11 0 4 ≤ 256 ∧ N_ 11 0 3 ≤ 8 := by
  subst_vars
  grind [xup_at, xb]
theorem ob_X3_planMornings_20_ini_8 (nb nn : Nat) (day : Int32) (M : xM) (hp0 : M 11 0 4 ≤ 256) (hp1 : M 11 0 3 ≤ 8) (n : Nat) (sold : Int32) (N_ : xM) (hmu : xmu sold (N_ 11 0 4) < n + 1) (hinv : 0 ≤ sold ∧ N_ 11 0 4 ≤ 256 ∧ N_ 11 0 3 ≤ 8) (c_5 : ¬ (N_ 11 0 4) ≤ sold) (r_6 : Int32) (er_6 : r_6 = f_J6_bitCount_0f7a4 sold N_) (c_7 : ¬ day < r_6) : 0 ≤ sold ∧ sold < 256 ∧ 0 ≤ (0 : Int32) ∧ N_ 11 0 4 ≤ 256 ∧ N_ 11 0 3 ≤ 8 ∧ N_ 11 0 4 = N_ 11 0 4 ∧ N_ 11 0 3 = N_ 11 0 3 := by
  subst_vars
  grind [xup_at, xb]
theorem ob_X3_planMornings_2_mu_11 (nb nn : Nat) (day : Int32) (M : xM) (hp0 : M 11 0 4 ≤ 256) (hp1 : M 11 0 3 ≤ 8) (n : Nat) (sold : Int32) (N_ : xM) (hmu : xmu sold (N_ 11 0 4) < n + 1) (hinv : 0 ≤ sold ∧ N_ 11 0 4 ≤ 256 ∧ N_ 11 0 3 ≤ 8) (c_5 : ¬ (N_ 11 0 4) ≤ sold) (r_6 : Int32) (er_6 : r_6 = f_J6_bitCount_0f7a4 sold N_) (c_7 : ¬ day < r_6) (town_9 : Int32) (M_10 : xM) (hiv_10 : M_10 11 0 4 = N_ 11 0 4 ∧ M_10 11 0 3 = N_ 11 0 3) (x2_11 : Int32) (ex2_11 : x2_11 = sold + 1) : xmu x2_11 (M_10 11 0 4) < n := by
  subst_vars
  have h9 := xmu_up (a := sold) (b := N_ 11 0 4) (by grind)
  grind [xup_at]
theorem ob_X3_planMornings_2_inv_11 (nb nn : Nat) (day : Int32) (M : xM) (hp0 : M 11 0 4 ≤ 256) (hp1 : M 11 0 3 ≤ 8) (n : Nat) (sold : Int32) (N_ : xM) (hmu : xmu sold (N_ 11 0 4) < n + 1) (hinv : 0 ≤ sold ∧ N_ 11 0 4 ≤ 256 ∧ N_ 11 0 3 ≤ 8) (c_5 : ¬ (N_ 11 0 4) ≤ sold) (r_6 : Int32) (er_6 : r_6 = f_J6_bitCount_0f7a4 sold N_) (c_7 : ¬ day < r_6) (town_9 : Int32) (M_10 : xM) (hiv_10 : M_10 11 0 4 = N_ 11 0 4 ∧ M_10 11 0 3 = N_ 11 0 3) (x2_11 : Int32) (ex2_11 : x2_11 = sold + 1) : 0 ≤ x2_11 ∧ M_10 11 0 4 ≤ 256 ∧ M_10 11 0 3 ≤ 8 := by
  subst_vars
  grind [xup_at, xb]
theorem ob_X3_planMornings_2_ini_11 (nb nn : Nat) (day : Int32) (M : xM) (hp0 : M 11 0 4 ≤ 256) (hp1 : M 11 0 3 ≤ 8) : 0 ≤ (0 : Int32) ∧ M 11 0 4 ≤ 256 ∧ M 11 0 3 ≤ 8 := by
  subst_vars
  grind [xup_at, xb]
theorem ob_X3_bestMove_55_x6 (nb nn : Nat) (town : Int32) (sold : Int32) (M : xM) (hp0 : 0 ≤ town) (hp1 : town < 6) (hp2 : 0 ≤ sold) (hp3 : sold < 256) (n : Nat) (best : Int32) (to : Int32) (hmu : xmu to 6 < n + 1) (hinv : 0 ≤ to) (c_1 : 6 ≤ to) : 0 ≤ to := by
  subst_vars
  grind [xb]
theorem ob_X3_bestMove_43_in (nb nn : Nat) (town : Int32) (sold : Int32) (M : xM) (hp0 : 0 ≤ town) (hp1 : town < 6) (hp2 : 0 ≤ sold) (hp3 : sold < 256) (n : Nat) (best : Int32) (to : Int32) (hmu : xmu to 6 < n + 1) (hinv : 0 ≤ to) (c_1 : ¬ 6 ≤ to) (c_2 : to = town) : vp_in ((to * 256) + sold) 1536 := by
  subst_vars
  exact xin (N := 1536) (by grind [xb]) (by grind [xb]) (by decide)
theorem ob_X3_bestMove_6_mu_4 (nb nn : Nat) (town : Int32) (sold : Int32) (M : xM) (hp0 : 0 ≤ town) (hp1 : town < 6) (hp2 : 0 ≤ sold) (hp3 : sold < 256) (n : Nat) (best : Int32) (to : Int32) (hmu : xmu to 6 < n + 1) (hinv : 0 ≤ to) (c_1 : ¬ 6 ≤ to) (c_2 : to = town) (x4_3 : Int32) (ex4_3 : x4_3 = (if best < (M 21 0 ((to * 256) + sold).toNatClampNeg) then (M 21 0 ((to * 256) + sold).toNatClampNeg) else best)) (x5_4 : Int32) (ex5_4 : x5_4 = to + 1) : xmu x5_4 6 < n := by
  subst_vars
  have h9 := xmu_up (a := to) (b := 6) (by grind)
  (try simp [xup_at])
  omega
theorem ob_X3_bestMove_6_inv_4 (nb nn : Nat) (town : Int32) (sold : Int32) (M : xM) (hp0 : 0 ≤ town) (hp1 : town < 6) (hp2 : 0 ≤ sold) (hp3 : sold < 256) (n : Nat) (best : Int32) (to : Int32) (hmu : xmu to 6 < n + 1) (hinv : 0 ≤ to) (c_1 : ¬ 6 ≤ to) (c_2 : to = town) (x4_3 : Int32) (ex4_3 : x4_3 = (if best < (M 21 0 ((to * 256) + sold).toNatClampNeg) then (M 21 0 ((to * 256) + sold).toNatClampNeg) else best)) (x5_4 : Int32) (ex5_4 : x5_4 = to + 1) : 0 ≤ x5_4 := by
  subst_vars
  grind [xb]
theorem ob_X3_bestMove_23_p0 (nb nn : Nat) (town : Int32) (sold : Int32) (M : xM) (hp0 : 0 ≤ town) (hp1 : town < 6) (hp2 : 0 ≤ sold) (hp3 : sold < 256) (n : Nat) (best : Int32) (to : Int32) (hmu : xmu to 6 < n + 1) (hinv : 0 ≤ to) (c_1 : ¬ 6 ≤ to) (c_2 : ¬ to = town) : 0 ≤ town := by
  subst_vars
  grind [xb]
theorem ob_X3_bestMove_23_p1 (nb nn : Nat) (town : Int32) (sold : Int32) (M : xM) (hp0 : 0 ≤ town) (hp1 : town < 6) (hp2 : 0 ≤ sold) (hp3 : sold < 256) (n : Nat) (best : Int32) (to : Int32) (hmu : xmu to 6 < n + 1) (hinv : 0 ≤ to) (c_1 : ¬ 6 ≤ to) (c_2 : ¬ to = town) : town < 6 := by
  subst_vars
  grind [xb]
theorem ob_X3_bestMove_23_p2 (nb nn : Nat) (town : Int32) (sold : Int32) (M : xM) (hp0 : 0 ≤ town) (hp1 : town < 6) (hp2 : 0 ≤ sold) (hp3 : sold < 256) (n : Nat) (best : Int32) (to : Int32) (hmu : xmu to 6 < n + 1) (hinv : 0 ≤ to) (c_1 : ¬ 6 ≤ to) (c_2 : ¬ to = town) : 0 ≤ to := by
  subst_vars
  grind [xb]
theorem ob_X3_bestMove_23_p3 (nb nn : Nat) (town : Int32) (sold : Int32) (M : xM) (hp0 : 0 ≤ town) (hp1 : town < 6) (hp2 : 0 ≤ sold) (hp3 : sold < 256) (n : Nat) (best : Int32) (to : Int32) (hmu : xmu to 6 < n + 1) (hinv : 0 ≤ to) (c_1 : ¬ 6 ≤ to) (c_2 : ¬ to = town) : to < 6 := by
  subst_vars
  grind [xb]
theorem ob_X3_bestMove_6_mu_7 (nb nn : Nat) (town : Int32) (sold : Int32) (M : xM) (hp0 : 0 ≤ town) (hp1 : town < 6) (hp2 : 0 ≤ sold) (hp3 : sold < 256) (n : Nat) (best : Int32) (to : Int32) (hmu : xmu to 6 < n + 1) (hinv : 0 ≤ to) (c_1 : ¬ 6 ≤ to) (c_2 : ¬ to = town) (r_5 : Int32) (er_5 : r_5 = f_X5_milesBetween town to M) (c_6 : r_5 ≤ 0) (x5_7 : Int32) (ex5_7 : x5_7 = to + 1) : xmu x5_7 6 < n := by
  subst_vars
  have h9 := xmu_up (a := to) (b := 6) (by grind)
  (try simp [xup_at])
  omega
theorem ob_X3_bestMove_6_inv_7 (nb nn : Nat) (town : Int32) (sold : Int32) (M : xM) (hp0 : 0 ≤ town) (hp1 : town < 6) (hp2 : 0 ≤ sold) (hp3 : sold < 256) (n : Nat) (best : Int32) (to : Int32) (hmu : xmu to 6 < n + 1) (hinv : 0 ≤ to) (c_1 : ¬ 6 ≤ to) (c_2 : ¬ to = town) (r_5 : Int32) (er_5 : r_5 = f_X5_milesBetween town to M) (c_6 : r_5 ≤ 0) (x5_7 : Int32) (ex5_7 : x5_7 = to + 1) : 0 ≤ x5_7 := by
  subst_vars
  grind [xb]
theorem ob_X3_bestMove_43_in_2 (nb nn : Nat) (town : Int32) (sold : Int32) (M : xM) (hp0 : 0 ≤ town) (hp1 : town < 6) (hp2 : 0 ≤ sold) (hp3 : sold < 256) (n : Nat) (best : Int32) (to : Int32) (hmu : xmu to 6 < n + 1) (hinv : 0 ≤ to) (c_1 : ¬ 6 ≤ to) (c_2 : ¬ to = town) (r_5 : Int32) (er_5 : r_5 = f_X5_milesBetween town to M) (c_6 : ¬ r_5 ≤ 0) : vp_in ((to * 256) + sold) 1536 := by
  subst_vars
  exact xin (N := 1536) (by grind [xb]) (by grind [xb]) (by decide)
theorem ob_X3_bestMove_6_mu_9 (nb nn : Nat) (town : Int32) (sold : Int32) (M : xM) (hp0 : 0 ≤ town) (hp1 : town < 6) (hp2 : 0 ≤ sold) (hp3 : sold < 256) (n : Nat) (best : Int32) (to : Int32) (hmu : xmu to 6 < n + 1) (hinv : 0 ≤ to) (c_1 : ¬ 6 ≤ to) (c_2 : ¬ to = town) (r_5 : Int32) (er_5 : r_5 = f_X5_milesBetween town to M) (c_6 : ¬ r_5 ≤ 0) (x4_8 : Int32) (ex4_8 : x4_8 = (if best < (M 21 0 ((to * 256) + sold).toNatClampNeg) then (M 21 0 ((to * 256) + sold).toNatClampNeg) else best)) (x5_9 : Int32) (ex5_9 : x5_9 = to + 1) : xmu x5_9 6 < n := by
  subst_vars
  have h9 := xmu_up (a := to) (b := 6) (by grind)
  (try simp [xup_at])
  omega
theorem ob_X3_bestMove_6_inv_9 (nb nn : Nat) (town : Int32) (sold : Int32) (M : xM) (hp0 : 0 ≤ town) (hp1 : town < 6) (hp2 : 0 ≤ sold) (hp3 : sold < 256) (n : Nat) (best : Int32) (to : Int32) (hmu : xmu to 6 < n + 1) (hinv : 0 ≤ to) (c_1 : ¬ 6 ≤ to) (c_2 : ¬ to = town) (r_5 : Int32) (er_5 : r_5 = f_X5_milesBetween town to M) (c_6 : ¬ r_5 ≤ 0) (x4_8 : Int32) (ex4_8 : x4_8 = (if best < (M 21 0 ((to * 256) + sold).toNatClampNeg) then (M 21 0 ((to * 256) + sold).toNatClampNeg) else best)) (x5_9 : Int32) (ex5_9 : x5_9 = to + 1) : 0 ≤ x5_9 := by
  subst_vars
  grind [xb]
theorem ob_X3_bestMove_6_ini_9 (nb nn : Nat) (town : Int32) (sold : Int32) (M : xM) (hp0 : 0 ≤ town) (hp1 : town < 6) (hp2 : 0 ≤ sold) (hp3 : sold < 256) : 0 ≤ (0 : Int32) := by
  subst_vars
  grind [xb]
theorem ob_X3_planEvenings_57_x23 (nb nn : Nat) (day : Int32) (M : xM) (hp0 : M 11 0 4 ≤ 256) (G : xM) (sold : Int32) (n : Nat) (town : Int32) (N_ : xM) (hmu : xmu town 6 < n + 1) (hinv : 0 ≤ sold ∧ sold < 256 ∧ 0 ≤ town ∧ N_ 11 0 4 ≤ 256 ∧ N_ 11 0 4 = G 11 0 4) (c_1 : 6 ≤ town) : N_ 11 0 4 = G 11 0 4 := by
  subst_vars
  grind [xup_at, xb]
theorem ob_X3_planEvenings_47_p0 (nb nn : Nat) (day : Int32) (M : xM) (hp0 : M 11 0 4 ≤ 256) (G : xM) (sold : Int32) (n : Nat) (town : Int32) (N_ : xM) (hmu : xmu town 6 < n + 1) (hinv : 0 ≤ sold ∧ sold < 256 ∧ 0 ≤ town ∧ N_ 11 0 4 ≤ 256 ∧ N_ 11 0 4 = G 11 0 4) (c_1 : ¬ 6 ≤ town) : 0 ≤ town := by
  subst_vars
  grind [xup_at, xb]
theorem ob_X3_planEvenings_47_p1 (nb nn : Nat) (day : Int32) (M : xM) (hp0 : M 11 0 4 ≤ 256) (G : xM) (sold : Int32) (n : Nat) (town : Int32) (N_ : xM) (hmu : xmu town 6 < n + 1) (hinv : 0 ≤ sold ∧ sold < 256 ∧ 0 ≤ town ∧ N_ 11 0 4 ≤ 256 ∧ N_ 11 0 4 = G 11 0 4) (c_1 : ¬ 6 ≤ town) : town < 6 := by
  subst_vars
  grind [xup_at, xb]
theorem ob_X3_planEvenings_47_p2 (nb nn : Nat) (day : Int32) (M : xM) (hp0 : M 11 0 4 ≤ 256) (G : xM) (sold : Int32) (n : Nat) (town : Int32) (N_ : xM) (hmu : xmu town 6 < n + 1) (hinv : 0 ≤ sold ∧ sold < 256 ∧ 0 ≤ town ∧ N_ 11 0 4 ≤ 256 ∧ N_ 11 0 4 = G 11 0 4) (c_1 : ¬ 6 ≤ town) : 0 ≤ sold := by
  subst_vars
  grind [xup_at, xb]
theorem ob_X3_planEvenings_47_p3 (nb nn : Nat) (day : Int32) (M : xM) (hp0 : M 11 0 4 ≤ 256) (G : xM) (sold : Int32) (n : Nat) (town : Int32) (N_ : xM) (hmu : xmu town 6 < n + 1) (hinv : 0 ≤ sold ∧ sold < 256 ∧ 0 ≤ town ∧ N_ 11 0 4 ≤ 256 ∧ N_ 11 0 4 = G 11 0 4) (c_1 : ¬ 6 ≤ town) : sold < 256 := by
  subst_vars
  grind [xup_at, xb]
theorem ob_X3_planEvenings_50_in (nb nn : Nat) (day : Int32) (M : xM) (hp0 : M 11 0 4 ≤ 256) (G : xM) (sold : Int32) (n : Nat) (town : Int32) (N_ : xM) (hmu : xmu town 6 < n + 1) (hinv : 0 ≤ sold ∧ sold < 256 ∧ 0 ≤ town ∧ N_ 11 0 4 ≤ 256 ∧ N_ 11 0 4 = G 11 0 4) (c_1 : ¬ 6 ≤ town) (r_2 : Int32) (er_2 : r_2 = f_X3_bestMove town sold N_) : vp_in ((town * 256) + sold) 1536 := by
  subst_vars
  exact xin (N := 1536) (by grind [xup_at, xb]) (by grind [xup_at, xb]) (by decide)
theorem ob_X3_planEvenings_23_mu_4 (nb nn : Nat) (day : Int32) (M : xM) (hp0 : M 11 0 4 ≤ 256) (G : xM) (sold : Int32) (n : Nat) (town : Int32) (N_ : xM) (hmu : xmu town 6 < n + 1) (hinv : 0 ≤ sold ∧ sold < 256 ∧ 0 ≤ town ∧ N_ 11 0 4 ≤ 256 ∧ N_ 11 0 4 = G 11 0 4) (c_1 : ¬ 6 ≤ town) (r_2 : Int32) (er_2 : r_2 = f_X3_bestMove town sold N_) (M_3 : xM) (eM_3 : M_3 = xup N_ 22 0 ((town * 256) + sold).toNatClampNeg r_2) (x4_4 : Int32) (ex4_4 : x4_4 = town + 1) : xmu x4_4 6 < n := by
  subst_vars
  have h9 := xmu_up (a := town) (b := 6) (by grind)
  (try simp [xup_at])
  omega
theorem ob_X3_planEvenings_23_inv_4 (nb nn : Nat) (day : Int32) (M : xM) (hp0 : M 11 0 4 ≤ 256) (G : xM) (sold : Int32) (n : Nat) (town : Int32) (N_ : xM) (hmu : xmu town 6 < n + 1) (hinv : 0 ≤ sold ∧ sold < 256 ∧ 0 ≤ town ∧ N_ 11 0 4 ≤ 256 ∧ N_ 11 0 4 = G 11 0 4) (c_1 : ¬ 6 ≤ town) (r_2 : Int32) (er_2 : r_2 = f_X3_bestMove town sold N_) (M_3 : xM) (eM_3 : M_3 = xup N_ 22 0 ((town * 256) + sold).toNatClampNeg r_2) (x4_4 : Int32) (ex4_4 : x4_4 = town + 1) : 0 ≤ sold ∧ sold < 256 ∧ 0 ≤ x4_4 ∧ M_3 11 0 4 ≤ 256 ∧ M_3 11 0 4 = G 11 0 4 := by
  subst_vars
  grind [xup_at, xb]
theorem ob_X3_planEvenings_63_x2 (nb nn : Nat) (day : Int32) (M : xM) (hp0 : M 11 0 4 ≤ 256) (n : Nat) (sold : Int32) (N_ : xM) (hmu : xmu sold (N_ 11 0 4) < n + 1) (hinv : 0 ≤ sold ∧ N_ 11 0 4 ≤ 256) (c_5 : (N_ 11 0 4) ≤ sold) : 0 ≤ sold ∧ N_ 11 0 4 ≤ 256 := by
  subst_vars
  grind [xup_at, xb]
theorem ob_X3_planEvenings_2_mu_8 (nb nn : Nat) (day : Int32) (M : xM) (hp0 : M 11 0 4 ≤ 256) (n : Nat) (sold : Int32) (N_ : xM) (hmu : xmu sold (N_ 11 0 4) < n + 1) (hinv : 0 ≤ sold ∧ N_ 11 0 4 ≤ 256) (c_5 : ¬ (N_ 11 0 4) ≤ sold) (r_6 : Int32) (er_6 : r_6 = f_J6_bitCount_0f7a4 sold N_) (c_7 : (day + 1) < r_6) (x3_8 : Int32) (ex3_8 : x3_8 = sold + 1) : xmu x3_8 (N_ 11 0 4) < n := by
  subst_vars
  have h9 := xmu_up (a := sold) (b := N_ 11 0 4) (by grind)
  grind [xup_at]
theorem ob_X3_planEvenings_2_inv_8 (nb nn : Nat) (day : Int32) (M : xM) (hp0 : M 11 0 4 ≤ 256) (n : Nat) (sold : Int32) (N_ : xM) (hmu : xmu sold (N_ 11 0 4) < n + 1) (hinv : 0 ≤ sold ∧ N_ 11 0 4 ≤ 256) (c_5 : ¬ (N_ 11 0 4) ≤ sold) (r_6 : Int32) (er_6 : r_6 = f_J6_bitCount_0f7a4 sold N_) (c_7 : (day + 1) < r_6) (x3_8 : Int32) (ex3_8 : x3_8 = sold + 1) : 0 ≤ x3_8 ∧ N_ 11 0 4 ≤ 256 := by
  subst_vars
  grind [xup_at, xb]
theorem ob_X3_planEvenings_23_ini_8 (nb nn : Nat) (day : Int32) (M : xM) (hp0 : M 11 0 4 ≤ 256) (n : Nat) (sold : Int32) (N_ : xM) (hmu : xmu sold (N_ 11 0 4) < n + 1) (hinv : 0 ≤ sold ∧ N_ 11 0 4 ≤ 256) (c_5 : ¬ (N_ 11 0 4) ≤ sold) (r_6 : Int32) (er_6 : r_6 = f_J6_bitCount_0f7a4 sold N_) (c_7 : ¬ (day + 1) < r_6) : 0 ≤ sold ∧ sold < 256 ∧ 0 ≤ (0 : Int32) ∧ N_ 11 0 4 ≤ 256 ∧ N_ 11 0 4 = N_ 11 0 4 := by
  subst_vars
  grind [xup_at, xb]
theorem ob_X3_planEvenings_2_mu_11 (nb nn : Nat) (day : Int32) (M : xM) (hp0 : M 11 0 4 ≤ 256) (n : Nat) (sold : Int32) (N_ : xM) (hmu : xmu sold (N_ 11 0 4) < n + 1) (hinv : 0 ≤ sold ∧ N_ 11 0 4 ≤ 256) (c_5 : ¬ (N_ 11 0 4) ≤ sold) (r_6 : Int32) (er_6 : r_6 = f_J6_bitCount_0f7a4 sold N_) (c_7 : ¬ (day + 1) < r_6) (town_9 : Int32) (M_10 : xM) (hiv_10 : M_10 11 0 4 = N_ 11 0 4) (x3_11 : Int32) (ex3_11 : x3_11 = sold + 1) : xmu x3_11 (M_10 11 0 4) < n := by
  subst_vars
  have h9 := xmu_up (a := sold) (b := N_ 11 0 4) (by grind)
  grind [xup_at]
theorem ob_X3_planEvenings_2_inv_11 (nb nn : Nat) (day : Int32) (M : xM) (hp0 : M 11 0 4 ≤ 256) (n : Nat) (sold : Int32) (N_ : xM) (hmu : xmu sold (N_ 11 0 4) < n + 1) (hinv : 0 ≤ sold ∧ N_ 11 0 4 ≤ 256) (c_5 : ¬ (N_ 11 0 4) ≤ sold) (r_6 : Int32) (er_6 : r_6 = f_J6_bitCount_0f7a4 sold N_) (c_7 : ¬ (day + 1) < r_6) (town_9 : Int32) (M_10 : xM) (hiv_10 : M_10 11 0 4 = N_ 11 0 4) (x3_11 : Int32) (ex3_11 : x3_11 = sold + 1) : 0 ≤ x3_11 ∧ M_10 11 0 4 ≤ 256 := by
  subst_vars
  grind [xup_at, xb]
theorem ob_X3_planEvenings_2_ini_11 (nb nn : Nat) (day : Int32) (M : xM) (hp0 : M 11 0 4 ≤ 256) : 0 ≤ (0 : Int32) ∧ M 11 0 4 ≤ 256 := by
  subst_vars
  grind [xup_at, xb]
set_option maxHeartbeats 4000000 in
set_option maxRecDepth 100000 in
theorem c_X7_readToken (l : Launch) (nb nn : Nat) (g : xG) (L : List (Nat × Nat)) (M : xM) (hD : xD g L) (hL : xEL nb nn L)  (hp0 : 0 ≤ M 5 0 2) (hp1 : M 5 0 2 ≤ 400) (hp2 : 0 ≤ M 5 0 1) : xCv l yX7_readToken cX7_readToken 2 2 g L M [.ref (xad g 5 0)] (fun u => u = f_X7_readToken  M) := by
  intro sz
  refine x_beg (by decide +kernel) rfl ?_
  intro p e s m args below meth c ls hsz hB
  subst hsz
  obtain ⟨hx, hb, hml, hown, hts, hr, hlk, hK, hAm, hP, hl⟩ := hB
  have S : CallFix p m c cX7_readToken 2 s args (xws yX7_readToken cX7_readToken 2 none) RX7 := ⟨hx, hb, hml, hown, hts⟩
  have hown : s.vm.findClass RX7 = some m.cls := hown
  have hl : lv_has ls 2 [(0, .ref (xad g 5 0))] := hl
  have hS : va_S (xA g L s.heap.size) s.heap s.heap [] := va_S.rf
  obtain ⟨F, hF⟩ : ∃ F, F = f_X7_readToken  M := ⟨_, rfl⟩
  have k_5 : ∀ (N_ : xM) (n : Nat) (at_ : Int32) (H : Heap) (locs : List Loc) (ls : Array Slot) (kx : (Int32 → xM)), xmu at_ (N_ 5 0 2) < n → 0 ≤ at_ ∧ N_ 5 0 2 ≤ 400 → F = f_X7_readToken_L5  N_ n at_ kx → xP g L N_ H → va_S (xA g L s.heap.size) s.heap H locs → lv_has ls 2 [(0, .ref (xad g 5 0)), (1, .int at_)] → (∀ (at_ : Int32) (H : Heap) (locs : List Loc) (ls : Array Slot), 0 ≤ at_ ∧ N_ 5 0 2 ≤ 400 → F = kx at_ → xP g L N_ H → va_S (xA g L s.heap.size) s.heap H locs → lv_has ls 2 [(0, .ref (xad g 5 0)), (1, .int at_)] → W p l e (xr 2) s m args below meth c H locs 0 0 (MQ below (va_Qv (fun u => u = f_X7_readToken  M) (xPost g L) (xA g L s.heap.size)) args s 0 0 (xA g L s.heap.size)) (F0 m 41 ls [])) → W p l e (xr 2) s m args below meth c H locs 0 0 (MQ below (va_Qv (fun u => u = f_X7_readToken  M) (xPost g L) (xA g L s.heap.size)) args s 0 0 (xA g L s.heap.size)) (F0 m 5 ls []) := by
    intro N_ n
    induction n with
    | zero => intro at_ H locs ls kx hmu; exact absurd hmu (Nat.not_lt_zero _)
    | succ n ih =>
      intro at_ H locs ls kx hmu hinv hres hP hS hl hex
      replace hres : F = _ := hres.trans (by rw [f_X7_readToken_L5])
      refine lv_iload_n hx hb dX7_readToken_5 rfl (lv_at hl 1 rfl) ?_
      refine lv_aload_n hx hb dX7_readToken_6 rfl (lv_at hl 0 rfl) ?_
      refine gf_RX7_17 hx hb hts hown hK hP (hL 5 0 (xe_5 nb nn)) dX7_readToken_7 ?_
      refine lv_icmp_ge (tgt := 41) hx hb dX7_readToken_10 (by decide) (fun c_1 => ?_) (fun c_1 => ?_)
      · replace hres := hres.trans (if_pos c_1)
        exact hex at_ _ _ _ (ob_X7_readToken_41_x5 nb nn M hp0 hp1 hp2 n at_ N_ hmu hinv c_1) hres hP hS (lv_sub hl [0, 1] rfl)
      · replace hres := hres.trans (if_neg c_1)
        refine lv_aload_n hx hb dX7_readToken_13 rfl (lv_at hl 0 rfl) ?_
        refine gf_RX7_9 hx hb hts hown hK hP (hL 5 0 (xe_5 nb nn)) dX7_readToken_14 ?_
        refine lv_iload_n hx hb dX7_readToken_17 rfl (lv_at hl 1 rfl) ?_
        refine x_bald hx hb hK hP (hL 19 0 (xe_19 nb nn)) (xc19 g 0) (ob_X7_readToken_18_in nb nn M hp0 hp1 hp2 n at_ N_ hmu hinv c_1) dX7_readToken_18 ?_
        refine lv_bipush (v := 32) hx hb dX7_readToken_19 (by decide) ?_
        refine lv_icmp_eq (tgt := 35) hx hb dX7_readToken_21 (by decide) (fun c_2 => ?_) (fun c_2 => ?_)
        · replace hres := hres.trans (if_pos c_2)
          obtain ⟨x1_3, ex1_3⟩ : ∃ z_ : Int32, z_ = at_ + 1 := ⟨_, rfl⟩
          replace hres := xlet_n hres ex1_3
          refine lv_iinc (v := x1_3) (lv' := [(1, .int x1_3), (0, .ref (xad g 5 0))]) hx hb dX7_readToken_35 hl (k := 1) rfl (by rw [ex1_3]; rfl) (by decide) rfl (fun ls hl => ?_)
          refine lv_goto (tgt := 5) hx hb dX7_readToken_38 (by decide) ?_
          exact ih x1_3 _ _ _ kx (ob_X7_readToken_5_mu_3 nb nn M hp0 hp1 hp2 n at_ N_ hmu hinv c_1 c_2 x1_3 ex1_3) (ob_X7_readToken_5_inv_3 nb nn M hp0 hp1 hp2 n at_ N_ hmu hinv c_1 c_2 x1_3 ex1_3) hres hP hS (lv_sub hl [1, 0] rfl) hex
        · replace hres := hres.trans (if_neg c_2)
          refine lv_aload_n hx hb dX7_readToken_24 rfl (lv_at hl 0 rfl) ?_
          refine gf_RX7_9 hx hb hts hown hK hP (hL 5 0 (xe_5 nb nn)) dX7_readToken_25 ?_
          refine lv_iload_n hx hb dX7_readToken_28 rfl (lv_at hl 1 rfl) ?_
          refine x_bald hx hb hK hP (hL 19 0 (xe_19 nb nn)) (xc19 g 0) (ob_X7_readToken_29_in nb nn M hp0 hp1 hp2 n at_ N_ hmu hinv c_1 c_2) dX7_readToken_29 ?_
          refine lv_bipush (v := 10) hx hb dX7_readToken_30 (by decide) ?_
          refine lv_icmp_ne (tgt := 41) hx hb dX7_readToken_32 (by decide) (fun c_4 => ?_) (fun c_4 => ?_)
          · replace hres := hres.trans (if_neg c_4)
            exact hex at_ _ _ _ (ob_X7_readToken_41_x5_2 nb nn M hp0 hp1 hp2 n at_ N_ hmu hinv c_1 c_2 c_4) hres hP hS (lv_sub hl [0, 1] rfl)
          · replace hres := hres.trans (if_pos c_4)
            obtain ⟨x1_5, ex1_5⟩ : ∃ z_ : Int32, z_ = at_ + 1 := ⟨_, rfl⟩
            replace hres := xlet_n hres ex1_5
            refine lv_iinc (v := x1_5) (lv' := [(1, .int x1_5), (0, .ref (xad g 5 0))]) hx hb dX7_readToken_35 hl (k := 1) rfl (by rw [ex1_5]; rfl) (by decide) rfl (fun ls hl => ?_)
            refine lv_goto (tgt := 5) hx hb dX7_readToken_38 (by decide) ?_
            exact ih x1_5 _ _ _ kx (ob_X7_readToken_5_mu_5 nb nn M hp0 hp1 hp2 n at_ N_ hmu hinv c_1 c_2 c_4 x1_5 ex1_5) (ob_X7_readToken_5_inv_5 nb nn M hp0 hp1 hp2 n at_ N_ hmu hinv c_1 c_2 c_4 x1_5 ex1_5) hres hP hS (lv_sub hl [1, 0] rfl) hex
  have hres := hF
  rw [f_X7_readToken] at hres
  refine lv_aload_n hx hb dX7_readToken_0 rfl (lv_at hl 0 rfl) ?_
  refine gf_RX7_13 hx hb hts hown hK hP (hL 5 0 (xe_5 nb nn)) dX7_readToken_1 ?_
  refine lv_topi (fun x1_6 ex1_6 => ?_)
  replace hres := xlet_n hres ex1_6
  refine lv_istore_n (lv' := [(1, .int x1_6), (0, .ref (xad g 5 0))]) hx hb dX7_readToken_4 rfl hl (by decide) rfl (fun ls hl => ?_)
  refine k_5 M (xmu x1_6 (M 5 0 2) + 1) x1_6 _ _ _ _ (Nat.lt_succ_self _) (ob_X7_readToken_5_ini_6 nb nn M hp0 hp1 hp2 x1_6 ex1_6) hres hP hS (lv_sub hl [1, 0] rfl) ?_
  clear hres hP hS hl
  intro at__7 H locs ls hiv_7 hres hP hS hl
  refine lv_aload_n hx hb dX7_readToken_41 rfl (lv_at hl 0 rfl) ?_
  refine lv_iload_n hx hb dX7_readToken_42 rfl (lv_at hl 1 rfl) ?_
  refine pf_RX7_23 hx hb hts hown hK hP hD hS (hL 5 0 (xe_5 nb nn)) dX7_readToken_43 (fun H locs hP hS => ?_)
  obtain ⟨M_8, eM_8⟩ : ∃ z_ : xM, z_ = xup M 5 0 4 at__7 := ⟨_, rfl⟩
  rw [← eM_8] at hP
  replace hres := xlet_n hres eM_8
  refine lv_iload_n hx hb dX7_readToken_46 rfl (lv_at hl 1 rfl) ?_
  refine lv_aload_n hx hb dX7_readToken_47 rfl (lv_at hl 0 rfl) ?_
  refine gf_RX7_17 hx hb hts hown hK hP (hL 5 0 (xe_5 nb nn)) dX7_readToken_48 ?_
  refine lv_icmp_lt (tgt := 70) hx hb dX7_readToken_51 (by decide) (fun c_9 => ?_) (fun c_9 => ?_)
  · replace hres := hres.trans (if_pos c_9)
    refine lv_aload_n hx hb dX7_readToken_70 rfl (lv_at hl 0 rfl) ?_
    refine lv_iload_n hx hb dX7_readToken_71 rfl (lv_at hl 1 rfl) ?_
    refine lv_bipush (v := 97) hx hb dX7_readToken_72 (by decide) ?_
    refine lv_bipush (v := 122) hx hb dX7_readToken_74 (by decide) ?_
    refine x_callVi (As := [.int at__7, .int 97, .int 122]) S hK hAm hD hP hS mt_X7_isAmong wd_437 ⟨by decide, by decide⟩ (hL 5 0 (xe_5 nb nn)) (xc5 g 0) rfl (c_X7_isAmong l nb nn g L M_8 hD hL at__7 97 122 (ob_X7_readToken_76_p0 nb nn M hp0 hp1 hp2 x1_6 ex1_6 at__7 hiv_7 M_8 eM_8 c_9) (ob_X7_readToken_76_p1 nb nn M hp0 hp1 hp2 x1_6 ex1_6 at__7 hiv_7 M_8 eM_8 c_9)) rfl hl.1 (Nat.le_of_ble_eq_true rfl) ⟨Nat.zero_le _, Nat.zero_le _⟩ dX7_readToken_76 rfl (fun r_10 u H locs hp_ hP hS => ?_)
    obtain ⟨er_10, eu_⟩ := hp_
    rw [eu_] at hP
    clear eu_
    replace hres := xlet_n hres er_10
    refine lv_if_eq (tgt := 103) hx hb dX7_readToken_79 (by decide) (fun c_11 => ?_) (fun c_11 => ?_)
    · replace hres := hres.trans (if_pos c_11)
      refine lv_aload_n hx hb dX7_readToken_103 rfl (lv_at hl 0 rfl) ?_
      refine lv_iload_n hx hb dX7_readToken_104 rfl (lv_at hl 1 rfl) ?_
      refine lv_bipush (v := 48) hx hb dX7_readToken_105 (by decide) ?_
      refine lv_bipush (v := 57) hx hb dX7_readToken_107 (by decide) ?_
      refine x_callVi (As := [.int at__7, .int 48, .int 57]) S hK hAm hD hP hS mt_X7_isAmong wd_437 ⟨by decide, by decide⟩ (hL 5 0 (xe_5 nb nn)) (xc5 g 0) rfl (c_X7_isAmong l nb nn g L M_8 hD hL at__7 48 57 (ob_X7_readToken_109_p0 nb nn M hp0 hp1 hp2 x1_6 ex1_6 at__7 hiv_7 M_8 eM_8 c_9 r_10 er_10 c_11) (ob_X7_readToken_109_p1 nb nn M hp0 hp1 hp2 x1_6 ex1_6 at__7 hiv_7 M_8 eM_8 c_9 r_10 er_10 c_11)) rfl hl.1 (Nat.le_of_ble_eq_true rfl) ⟨Nat.zero_le _, Nat.zero_le _⟩ dX7_readToken_109 rfl (fun r_12 u H locs hp_ hP hS => ?_)
      obtain ⟨er_12, eu_⟩ := hp_
      rw [eu_] at hP
      clear eu_
      replace hres := xlet_n hres er_12
      refine lv_if_eq (tgt := 175) hx hb dX7_readToken_112 (by decide) (fun c_13 => ?_) (fun c_13 => ?_)
      · replace hres := hres.trans (if_pos c_13)
        refine lv_aload_n hx hb dX7_readToken_175 rfl (lv_at hl 0 rfl) ?_
        refine lv_aload_n hx hb dX7_readToken_176 rfl (lv_at hl 0 rfl) ?_
        refine gf_RX7_9 hx hb hts hown hK hP (hL 5 0 (xe_5 nb nn)) dX7_readToken_177 ?_
        refine lv_iload_n hx hb dX7_readToken_180 rfl (lv_at hl 1 rfl) ?_
        refine x_bald hx hb hK hP (hL 19 0 (xe_19 nb nn)) (xc19 g 0) (ob_X7_readToken_181_in nb nn M hp0 hp1 hp2 x1_6 ex1_6 at__7 hiv_7 M_8 eM_8 c_9 r_10 er_10 c_11 r_12 er_12 c_13) dX7_readToken_181 ?_
        refine lv_bipush (v := 59) hx hb dX7_readToken_182 (by decide) ?_
        refine lv_icmp_ne (tgt := 191) hx hb dX7_readToken_184 (by decide) (fun c_14 => ?_) (fun c_14 => ?_)
        · replace hres := hres.trans (if_neg c_14)
          refine lv_iconst (v := 4) hx hb dX7_readToken_191 (by decide) ?_
          refine pf_RX7_20 hx hb hts hown hK hP hD hS (hL 5 0 (xe_5 nb nn)) dX7_readToken_192 (fun H locs hP hS => ?_)
          obtain ⟨M_15, eM_15⟩ : ∃ z_ : xM, z_ = xup M_8 5 0 3 4 := ⟨_, rfl⟩
          rw [← eM_15] at hP
          replace hres := xlet_n hres eM_15
          refine lv_aload_n hx hb dX7_readToken_195 rfl (lv_at hl 0 rfl) ?_
          refine lv_iload_n hx hb dX7_readToken_196 rfl (lv_at hl 1 rfl) ?_
          refine lv_iconst (v := 1) hx hb dX7_readToken_197 (by decide) ?_
          refine lv_iadd hx hb dX7_readToken_198 ?_
          refine lv_topi (fun v_16 ev_16 => ?_)
          replace hres := xlet_n hres ev_16
          refine pf_RX7_13 hx hb hts hown hK hP hD hS (hL 5 0 (xe_5 nb nn)) dX7_readToken_199 (fun H locs hP hS => ?_)
          obtain ⟨M_17, eM_17⟩ : ∃ z_ : xM, z_ = xup M_15 5 0 1 v_16 := ⟨_, rfl⟩
          rw [← eM_17] at hP
          replace hres := xlet_n hres eM_17
          exact x_retv hx hb hr hlk hP hS (hres.symm.trans hF) dX7_readToken_202
        · replace hres := hres.trans (if_pos c_14)
          refine lv_iconst (v := 3) hx hb dX7_readToken_187 (by decide) ?_
          refine lv_goto (tgt := 192) hx hb dX7_readToken_188 (by decide) ?_
          refine pf_RX7_20 hx hb hts hown hK hP hD hS (hL 5 0 (xe_5 nb nn)) dX7_readToken_192 (fun H locs hP hS => ?_)
          obtain ⟨M_18, eM_18⟩ : ∃ z_ : xM, z_ = xup M_8 5 0 3 3 := ⟨_, rfl⟩
          rw [← eM_18] at hP
          replace hres := xlet_n hres eM_18
          refine lv_aload_n hx hb dX7_readToken_195 rfl (lv_at hl 0 rfl) ?_
          refine lv_iload_n hx hb dX7_readToken_196 rfl (lv_at hl 1 rfl) ?_
          refine lv_iconst (v := 1) hx hb dX7_readToken_197 (by decide) ?_
          refine lv_iadd hx hb dX7_readToken_198 ?_
          refine lv_topi (fun v_19 ev_19 => ?_)
          replace hres := xlet_n hres ev_19
          refine pf_RX7_13 hx hb hts hown hK hP hD hS (hL 5 0 (xe_5 nb nn)) dX7_readToken_199 (fun H locs hP hS => ?_)
          obtain ⟨M_20, eM_20⟩ : ∃ z_ : xM, z_ = xup M_18 5 0 1 v_19 := ⟨_, rfl⟩
          rw [← eM_20] at hP
          replace hres := xlet_n hres eM_20
          exact x_retv hx hb hr hlk hP hS (hres.symm.trans hF) dX7_readToken_202
      · replace hres := hres.trans (if_neg c_13)
        refine lv_aload_n hx hb dX7_readToken_115 rfl (lv_at hl 0 rfl) ?_
        refine lv_aload_n hx hb dX7_readToken_116 rfl (lv_at hl 0 rfl) ?_
        refine lv_iload_n hx hb dX7_readToken_117 rfl (lv_at hl 1 rfl) ?_
        refine lv_bipush (v := 48) hx hb dX7_readToken_118 (by decide) ?_
        refine lv_bipush (v := 57) hx hb dX7_readToken_120 (by decide) ?_
        refine x_callVi (As := [.int at__7, .int 48, .int 57]) S hK hAm hD hP hS mt_X7_endOfRun wd_441 ⟨by decide, by decide⟩ (hL 5 0 (xe_5 nb nn)) (xc5 g 0) rfl (c_X7_endOfRun l nb nn g L M_8 hD hL at__7 48 57 (ob_X7_readToken_122_p0 nb nn M hp0 hp1 hp2 x1_6 ex1_6 at__7 hiv_7 M_8 eM_8 c_9 r_10 er_10 c_11 r_12 er_12 c_13) (ob_X7_readToken_122_p1 nb nn M hp0 hp1 hp2 x1_6 ex1_6 at__7 hiv_7 M_8 eM_8 c_9 r_10 er_10 c_11 r_12 er_12 c_13)) rfl hl.1 (Nat.le_of_ble_eq_true rfl) ⟨Nat.zero_le _, Nat.zero_le _⟩ dX7_readToken_122 rfl (fun r_21 u H locs hp_ hP hS => ?_)
        obtain ⟨er_21, eu_⟩ := hp_
        rw [eu_] at hP
        clear eu_
        replace hres := xlet_n hres er_21
        refine pf_RX7_13 hx hb hts hown hK hP hD hS (hL 5 0 (xe_5 nb nn)) dX7_readToken_125 (fun H locs hP hS => ?_)
        obtain ⟨M_22, eM_22⟩ : ∃ z_ : xM, z_ = xup M_8 5 0 1 r_21 := ⟨_, rfl⟩
        rw [← eM_22] at hP
        replace hres := xlet_n hres eM_22
        refine lv_aload_n hx hb dX7_readToken_128 rfl (lv_at hl 0 rfl) ?_
        refine lv_aload_n hx hb dX7_readToken_129 rfl (lv_at hl 0 rfl) ?_
        refine gf_RX7_13 hx hb hts hown hK hP (hL 5 0 (xe_5 nb nn)) dX7_readToken_130 ?_
        refine lv_iload_n hx hb dX7_readToken_133 rfl (lv_at hl 1 rfl) ?_
        refine lv_isub hx hb dX7_readToken_134 ?_
        refine lv_iconst (v := 4) hx hb dX7_readToken_135 (by decide) ?_
        refine lv_icmp_le (tgt := 143) hx hb dX7_readToken_136 (by decide) (fun c_23 => ?_) (fun c_23 => ?_)
        · replace hres := hres.trans (if_pos c_23)
          refine lv_iconst (v := 2) hx hb dX7_readToken_143 (by decide) ?_
          refine pf_RX7_20 hx hb hts hown hK hP hD hS (hL 5 0 (xe_5 nb nn)) dX7_readToken_144 (fun H locs hP hS => ?_)
          obtain ⟨M_24, eM_24⟩ : ∃ z_ : xM, z_ = xup M_22 5 0 3 2 := ⟨_, rfl⟩
          rw [← eM_24] at hP
          replace hres := xlet_n hres eM_24
          refine lv_aload_n hx hb dX7_readToken_147 rfl (lv_at hl 0 rfl) ?_
          refine lv_aload_n hx hb dX7_readToken_148 rfl (lv_at hl 0 rfl) ?_
          refine gf_RX7_20 hx hb hts hown hK hP (hL 5 0 (xe_5 nb nn)) dX7_readToken_149 ?_
          refine lv_iconst (v := 2) hx hb dX7_readToken_152 (by decide) ?_
          refine lv_icmp_ne (tgt := 168) hx hb dX7_readToken_153 (by decide) (fun c_25 => ?_) (fun c_25 => ?_)
          · replace hres := hres.trans (if_neg c_25)
            refine lv_iconst (v := 0) hx hb dX7_readToken_168 (by decide) ?_
            refine pf_RX7_26 hx hb hts hown hK hP hD hS (hL 5 0 (xe_5 nb nn)) dX7_readToken_169 (fun H locs hP hS => ?_)
            obtain ⟨M_26, eM_26⟩ : ∃ z_ : xM, z_ = xup M_24 5 0 5 0 := ⟨_, rfl⟩
            rw [← eM_26] at hP
            replace hres := xlet_n hres eM_26
            refine lv_goto (tgt := 202) hx hb dX7_readToken_172 (by decide) ?_
            exact x_retv hx hb hr hlk hP hS (hres.symm.trans hF) dX7_readToken_202
          · replace hres := hres.trans (if_pos c_25)
            refine lv_aload_n hx hb dX7_readToken_156 rfl (lv_at hl 0 rfl) ?_
            refine lv_iload_n hx hb dX7_readToken_157 rfl (lv_at hl 1 rfl) ?_
            refine lv_aload_n hx hb dX7_readToken_158 rfl (lv_at hl 0 rfl) ?_
            refine gf_RX7_13 hx hb hts hown hK hP (hL 5 0 (xe_5 nb nn)) dX7_readToken_159 ?_
            refine x_callVi (As := [.int at__7, .int (M_24 5 0 1)]) S hK hAm hD hP hS mt_X7_numberAt wd_445 ⟨by decide, by decide⟩ (hL 5 0 (xe_5 nb nn)) (xc5 g 0) rfl (c_X7_numberAt l nb nn g L M_24 hD hL at__7 (M_24 5 0 1) (ob_X7_readToken_162_p0 nb nn M hp0 hp1 hp2 x1_6 ex1_6 at__7 hiv_7 M_8 eM_8 c_9 r_10 er_10 c_11 r_12 er_12 c_13 r_21 er_21 M_22 eM_22 c_23 M_24 eM_24 c_25) (ob_X7_readToken_162_p1 nb nn M hp0 hp1 hp2 x1_6 ex1_6 at__7 hiv_7 M_8 eM_8 c_9 r_10 er_10 c_11 r_12 er_12 c_13 r_21 er_21 M_22 eM_22 c_23 M_24 eM_24 c_25)) rfl hl.1 (Nat.le_of_ble_eq_true rfl) ⟨Nat.zero_le _, Nat.zero_le _⟩ dX7_readToken_162 rfl (fun r_27 u H locs hp_ hP hS => ?_)
            obtain ⟨er_27, eu_⟩ := hp_
            rw [eu_] at hP
            clear eu_
            replace hres := xlet_n hres er_27
            refine lv_goto (tgt := 169) hx hb dX7_readToken_165 (by decide) ?_
            refine pf_RX7_26 hx hb hts hown hK hP hD hS (hL 5 0 (xe_5 nb nn)) dX7_readToken_169 (fun H locs hP hS => ?_)
            obtain ⟨M_28, eM_28⟩ : ∃ z_ : xM, z_ = xup M_24 5 0 5 r_27 := ⟨_, rfl⟩
            rw [← eM_28] at hP
            replace hres := xlet_n hres eM_28
            refine lv_goto (tgt := 202) hx hb dX7_readToken_172 (by decide) ?_
            exact x_retv hx hb hr hlk hP hS (hres.symm.trans hF) dX7_readToken_202
        · replace hres := hres.trans (if_neg c_23)
          refine lv_iconst (v := 4) hx hb dX7_readToken_139 (by decide) ?_
          refine lv_goto (tgt := 144) hx hb dX7_readToken_140 (by decide) ?_
          refine pf_RX7_20 hx hb hts hown hK hP hD hS (hL 5 0 (xe_5 nb nn)) dX7_readToken_144 (fun H locs hP hS => ?_)
          obtain ⟨M_29, eM_29⟩ : ∃ z_ : xM, z_ = xup M_22 5 0 3 4 := ⟨_, rfl⟩
          rw [← eM_29] at hP
          replace hres := xlet_n hres eM_29
          refine lv_aload_n hx hb dX7_readToken_147 rfl (lv_at hl 0 rfl) ?_
          refine lv_aload_n hx hb dX7_readToken_148 rfl (lv_at hl 0 rfl) ?_
          refine gf_RX7_20 hx hb hts hown hK hP (hL 5 0 (xe_5 nb nn)) dX7_readToken_149 ?_
          refine lv_iconst (v := 2) hx hb dX7_readToken_152 (by decide) ?_
          refine lv_icmp_ne (tgt := 168) hx hb dX7_readToken_153 (by decide) (fun c_30 => ?_) (fun c_30 => ?_)
          · replace hres := hres.trans (if_neg c_30)
            refine lv_iconst (v := 0) hx hb dX7_readToken_168 (by decide) ?_
            refine pf_RX7_26 hx hb hts hown hK hP hD hS (hL 5 0 (xe_5 nb nn)) dX7_readToken_169 (fun H locs hP hS => ?_)
            obtain ⟨M_31, eM_31⟩ : ∃ z_ : xM, z_ = xup M_29 5 0 5 0 := ⟨_, rfl⟩
            rw [← eM_31] at hP
            replace hres := xlet_n hres eM_31
            refine lv_goto (tgt := 202) hx hb dX7_readToken_172 (by decide) ?_
            exact x_retv hx hb hr hlk hP hS (hres.symm.trans hF) dX7_readToken_202
          · replace hres := hres.trans (if_pos c_30)
            refine lv_aload_n hx hb dX7_readToken_156 rfl (lv_at hl 0 rfl) ?_
            refine lv_iload_n hx hb dX7_readToken_157 rfl (lv_at hl 1 rfl) ?_
            refine lv_aload_n hx hb dX7_readToken_158 rfl (lv_at hl 0 rfl) ?_
            refine gf_RX7_13 hx hb hts hown hK hP (hL 5 0 (xe_5 nb nn)) dX7_readToken_159 ?_
            refine x_callVi (As := [.int at__7, .int (M_29 5 0 1)]) S hK hAm hD hP hS mt_X7_numberAt wd_445 ⟨by decide, by decide⟩ (hL 5 0 (xe_5 nb nn)) (xc5 g 0) rfl (c_X7_numberAt l nb nn g L M_29 hD hL at__7 (M_29 5 0 1) (ob_X7_readToken_162_p0_2 nb nn M hp0 hp1 hp2 x1_6 ex1_6 at__7 hiv_7 M_8 eM_8 c_9 r_10 er_10 c_11 r_12 er_12 c_13 r_21 er_21 M_22 eM_22 c_23 M_29 eM_29 c_30) (ob_X7_readToken_162_p1_2 nb nn M hp0 hp1 hp2 x1_6 ex1_6 at__7 hiv_7 M_8 eM_8 c_9 r_10 er_10 c_11 r_12 er_12 c_13 r_21 er_21 M_22 eM_22 c_23 M_29 eM_29 c_30)) rfl hl.1 (Nat.le_of_ble_eq_true rfl) ⟨Nat.zero_le _, Nat.zero_le _⟩ dX7_readToken_162 rfl (fun r_32 u H locs hp_ hP hS => ?_)
            obtain ⟨er_32, eu_⟩ := hp_
            rw [eu_] at hP
            clear eu_
            replace hres := xlet_n hres er_32
            refine lv_goto (tgt := 169) hx hb dX7_readToken_165 (by decide) ?_
            refine pf_RX7_26 hx hb hts hown hK hP hD hS (hL 5 0 (xe_5 nb nn)) dX7_readToken_169 (fun H locs hP hS => ?_)
            obtain ⟨M_33, eM_33⟩ : ∃ z_ : xM, z_ = xup M_29 5 0 5 r_32 := ⟨_, rfl⟩
            rw [← eM_33] at hP
            replace hres := xlet_n hres eM_33
            refine lv_goto (tgt := 202) hx hb dX7_readToken_172 (by decide) ?_
            exact x_retv hx hb hr hlk hP hS (hres.symm.trans hF) dX7_readToken_202
    · replace hres := hres.trans (if_neg c_11)
      refine lv_aload_n hx hb dX7_readToken_82 rfl (lv_at hl 0 rfl) ?_
      refine lv_iconst (v := 1) hx hb dX7_readToken_83 (by decide) ?_
      refine pf_RX7_20 hx hb hts hown hK hP hD hS (hL 5 0 (xe_5 nb nn)) dX7_readToken_84 (fun H locs hP hS => ?_)
      obtain ⟨M_34, eM_34⟩ : ∃ z_ : xM, z_ = xup M_8 5 0 3 1 := ⟨_, rfl⟩
      rw [← eM_34] at hP
      replace hres := xlet_n hres eM_34
      refine lv_aload_n hx hb dX7_readToken_87 rfl (lv_at hl 0 rfl) ?_
      refine lv_aload_n hx hb dX7_readToken_88 rfl (lv_at hl 0 rfl) ?_
      refine lv_iload_n hx hb dX7_readToken_89 rfl (lv_at hl 1 rfl) ?_
      refine lv_bipush (v := 97) hx hb dX7_readToken_90 (by decide) ?_
      refine lv_bipush (v := 122) hx hb dX7_readToken_92 (by decide) ?_
      refine x_callVi (As := [.int at__7, .int 97, .int 122]) S hK hAm hD hP hS mt_X7_endOfRun wd_441 ⟨by decide, by decide⟩ (hL 5 0 (xe_5 nb nn)) (xc5 g 0) rfl (c_X7_endOfRun l nb nn g L M_34 hD hL at__7 97 122 (ob_X7_readToken_94_p0 nb nn M hp0 hp1 hp2 x1_6 ex1_6 at__7 hiv_7 M_8 eM_8 c_9 r_10 er_10 c_11 M_34 eM_34) (ob_X7_readToken_94_p1 nb nn M hp0 hp1 hp2 x1_6 ex1_6 at__7 hiv_7 M_8 eM_8 c_9 r_10 er_10 c_11 M_34 eM_34)) rfl hl.1 (Nat.le_of_ble_eq_true rfl) ⟨Nat.zero_le _, Nat.zero_le _⟩ dX7_readToken_94 rfl (fun r_35 u H locs hp_ hP hS => ?_)
      obtain ⟨er_35, eu_⟩ := hp_
      rw [eu_] at hP
      clear eu_
      replace hres := xlet_n hres er_35
      refine pf_RX7_13 hx hb hts hown hK hP hD hS (hL 5 0 (xe_5 nb nn)) dX7_readToken_97 (fun H locs hP hS => ?_)
      obtain ⟨M_36, eM_36⟩ : ∃ z_ : xM, z_ = xup M_34 5 0 1 r_35 := ⟨_, rfl⟩
      rw [← eM_36] at hP
      replace hres := xlet_n hres eM_36
      refine lv_goto (tgt := 202) hx hb dX7_readToken_100 (by decide) ?_
      exact x_retv hx hb hr hlk hP hS (hres.symm.trans hF) dX7_readToken_202
  · replace hres := hres.trans (if_neg c_9)
    refine lv_aload_n hx hb dX7_readToken_54 rfl (lv_at hl 0 rfl) ?_
    refine lv_iconst (v := 0) hx hb dX7_readToken_55 (by decide) ?_
    refine pf_RX7_20 hx hb hts hown hK hP hD hS (hL 5 0 (xe_5 nb nn)) dX7_readToken_56 (fun H locs hP hS => ?_)
    obtain ⟨M_37, eM_37⟩ : ∃ z_ : xM, z_ = xup M_8 5 0 3 0 := ⟨_, rfl⟩
    rw [← eM_37] at hP
    replace hres := xlet_n hres eM_37
    refine lv_aload_n hx hb dX7_readToken_59 rfl (lv_at hl 0 rfl) ?_
    refine lv_aload_n hx hb dX7_readToken_60 rfl (lv_at hl 0 rfl) ?_
    refine gf_RX7_17 hx hb hts hown hK hP (hL 5 0 (xe_5 nb nn)) dX7_readToken_61 ?_
    refine lv_topi (fun v_38 ev_38 => ?_)
    replace hres := xlet_n hres ev_38
    refine pf_RX7_13 hx hb hts hown hK hP hD hS (hL 5 0 (xe_5 nb nn)) dX7_readToken_64 (fun H locs hP hS => ?_)
    obtain ⟨M_39, eM_39⟩ : ∃ z_ : xM, z_ = xup M_37 5 0 1 v_38 := ⟨_, rfl⟩
    rw [← eM_39] at hP
    replace hres := xlet_n hres eM_39
    refine lv_goto (tgt := 202) hx hb dX7_readToken_67 (by decide) ?_
    exact x_retv hx hb hr hlk hP hS (hres.symm.trans hF) dX7_readToken_202
set_option maxHeartbeats 4000000 in
set_option maxRecDepth 100000 in
theorem c_X3_tellGain (l : Launch) (nb nn : Nat) (g : xG) (L : List (Nat × Nat)) (M : xM) (hD : xD g L) (hL : xEL nb nn L) (town : Int32) (place : Int32) (gold : Int32) (hp0 : 0 ≤ town) (hp1 : town < 6) (hp2 : 0 ≤ place) (hp3 : place < 8) : xCv l yX3_tellGain cX3_tellGain 4 0 g L M [.ref (xad g 11 0), .int town, .int place, .int gold] (fun u => u = f_X3_tellGain town place gold M) := by
  intro sz
  refine x_beg (by decide +kernel) rfl ?_
  intro p e s m args below meth c ls hsz hB
  subst hsz
  obtain ⟨hx, hb, hml, hown, hts, hr, hlk, hK, hAm, hP, hl⟩ := hB
  have S : CallFix p m c cX3_tellGain 4 s args (xws yX3_tellGain cX3_tellGain 4 none) RX3 := ⟨hx, hb, hml, hown, hts⟩
  have hown : s.vm.findClass RX3 = some m.cls := hown
  have hl : lv_has ls 4 [(0, .ref (xad g 11 0)), (1, .int town), (2, .int place), (3, .int gold)] := hl
  have hS : va_S (xA g L s.heap.size) s.heap s.heap [] := va_S.rf
  obtain ⟨F, hF⟩ : ∃ F, F = f_X3_tellGain town place gold M := ⟨_, rfl⟩
  have hres := hF
  rw [f_X3_tellGain] at hres
  refine lv_aload_n hx hb dX3_tellGain_0 rfl (lv_at hl 0 rfl) ?_
  refine gf_RX3_9 hx hb hts hown hK hP (hL 11 0 (xe_11 nb nn)) dX3_tellGain_1 ?_
  refine lv_iload_n hx hb dX3_tellGain_4 rfl (lv_at hl 1 rfl) ?_
  refine lv_bipush (v := 8) hx hb dX3_tellGain_5 (by decide) ?_
  refine lv_imul hx hb dX3_tellGain_7 ?_
  refine lv_iload_n hx hb dX3_tellGain_8 rfl (lv_at hl 2 rfl) ?_
  refine lv_iadd hx hb dX3_tellGain_9 ?_
  refine lv_iload_n hx hb dX3_tellGain_10 rfl (lv_at hl 3 rfl) ?_
  refine x_iast hx hb hK hP hD hS (hL 20 0 (xe_20 nb nn)) (xc20 g 0) (ob_X3_tellGain_11_in nb nn town place gold M hp0 hp1 hp2 hp3) dX3_tellGain_11 (fun H locs hP hS => ?_)
  obtain ⟨M_1, eM_1⟩ : ∃ z_ : xM, z_ = xup M 20 0 ((town * 8) + place).toNatClampNeg gold := ⟨_, rfl⟩
  rw [← eM_1] at hP
  replace hres := xlet_n hres eM_1
  exact x_retv hx hb hr hlk hP hS (hres.symm.trans hF) dX3_tellGain_12
set_option maxHeartbeats 4000000 in
set_option maxRecDepth 100000 in
theorem c_X3_endTheWay (l : Launch) (nb nn : Nat) (g : xG) (L : List (Nat × Nat)) (M : xM) (hD : xD g L) (hL : xEL nb nn L)  (hp0 : M 11 0 4 ≤ 256) : xCv l yX3_endTheWay cX3_endTheWay 3 0 g L M [.ref (xad g 11 0)] (fun u => u = f_X3_endTheWay  M) := by
  intro sz
  refine x_beg (by decide +kernel) rfl ?_
  intro p e s m args below meth c ls hsz hB
  subst hsz
  obtain ⟨hx, hb, hml, hown, hts, hr, hlk, hK, hAm, hP, hl⟩ := hB
  have S : CallFix p m c cX3_endTheWay 3 s args (xws yX3_endTheWay cX3_endTheWay 3 none) RX3 := ⟨hx, hb, hml, hown, hts⟩
  have hown : s.vm.findClass RX3 = some m.cls := hown
  have hl : lv_has ls 3 [(0, .ref (xad g 11 0))] := hl
  have hS : va_S (xA g L s.heap.size) s.heap s.heap [] := va_S.rf
  obtain ⟨F, hF⟩ : ∃ F, F = f_X3_endTheWay  M := ⟨_, rfl⟩
  have k_10 : ∀ (town : Int32) (n : Nat) (sold : Int32) (N_ : xM) (H : Heap) (locs : List Loc) (ls : Array Slot) (kx : (Int32 → xM → xM)), xmu sold (N_ 11 0 4) < n → 0 ≤ town ∧ town < 6 ∧ 0 ≤ sold ∧ N_ 11 0 4 ≤ 256 → F = f_X3_endTheWay_L10  town n sold N_ kx → xP g L N_ H → va_S (xA g L s.heap.size) s.heap H locs → lv_has ls 3 [(0, .ref (xad g 11 0)), (1, .int town), (2, .int sold)] → (∀ (sold : Int32) (N_ : xM) (H : Heap) (locs : List Loc) (ls : Array Slot), 0 ≤ town ∧ town < 6 ∧ 0 ≤ sold ∧ N_ 11 0 4 ≤ 256 → F = kx sold N_ → xP g L N_ H → va_S (xA g L s.heap.size) s.heap H locs → lv_has ls 3 [(0, .ref (xad g 11 0)), (1, .int town), (2, .int sold)] → W p l e (xr 0) s m args below meth c H locs 0 0 (MQ below (va_Qv (fun u => u = f_X3_endTheWay  M) (xPost g L) (xA g L s.heap.size)) args s 0 0 (xA g L s.heap.size)) (F0 m 37 ls [])) → W p l e (xr 0) s m args below meth c H locs 0 0 (MQ below (va_Qv (fun u => u = f_X3_endTheWay  M) (xPost g L) (xA g L s.heap.size)) args s 0 0 (xA g L s.heap.size)) (F0 m 10 ls []) := by
    intro town n
    induction n with
    | zero => intro sold N_ H locs ls kx hmu; exact absurd hmu (Nat.not_lt_zero _)
    | succ n ih =>
      intro sold N_ H locs ls kx hmu hinv hres hP hS hl hex
      replace hres : F = _ := hres.trans (by rw [f_X3_endTheWay_L10])
      refine lv_iload_n hx hb dX3_endTheWay_10 rfl (lv_at hl 2 rfl) ?_
      refine lv_aload_n hx hb dX3_endTheWay_11 rfl (lv_at hl 0 rfl) ?_
      refine gf_RX3_25 hx hb hts hown hK hP (hL 11 0 (xe_11 nb nn)) dX3_endTheWay_12 ?_
      refine lv_icmp_ge (tgt := 37) hx hb dX3_endTheWay_15 (by decide) (fun c_1 => ?_) (fun c_1 => ?_)
      · replace hres := hres.trans (if_pos c_1)
        exact hex sold N_ _ _ _ (ob_X3_endTheWay_37_x10 nb nn M hp0 town n sold N_ hmu hinv c_1) hres hP hS (lv_sub hl [0, 1, 2] rfl)
      · replace hres := hres.trans (if_neg c_1)
        refine lv_aload_n hx hb dX3_endTheWay_18 rfl (lv_at hl 0 rfl) ?_
        refine gf_RX3_18 hx hb hts hown hK hP (hL 11 0 (xe_11 nb nn)) dX3_endTheWay_19 ?_
        refine lv_iload_n hx hb dX3_endTheWay_22 rfl (lv_at hl 1 rfl) ?_
        refine lv_sipush (v := 256) hx hb dX3_endTheWay_23 (by decide) ?_
        refine lv_imul hx hb dX3_endTheWay_26 ?_
        refine lv_iload_n hx hb dX3_endTheWay_27 rfl (lv_at hl 2 rfl) ?_
        refine lv_iadd hx hb dX3_endTheWay_28 ?_
        refine lv_iconst (v := 0) hx hb dX3_endTheWay_29 (by decide) ?_
        refine x_iast hx hb hK hP hD hS (hL 22 0 (xe_22 nb nn)) (xc22 g 0) (ob_X3_endTheWay_30_in nb nn M hp0 town n sold N_ hmu hinv c_1) dX3_endTheWay_30 (fun H locs hP hS => ?_)
        obtain ⟨M_2, eM_2⟩ : ∃ z_ : xM, z_ = xup N_ 22 0 ((town * 256) + sold).toNatClampNeg 0 := ⟨_, rfl⟩
        rw [← eM_2] at hP
        replace hres := xlet_n hres eM_2
        obtain ⟨x2_3, ex2_3⟩ : ∃ z_ : Int32, z_ = sold + 1 := ⟨_, rfl⟩
        replace hres := xlet_n hres ex2_3
        refine lv_iinc (v := x2_3) (lv' := [(2, .int x2_3), (0, .ref (xad g 11 0)), (1, .int town)]) hx hb dX3_endTheWay_31 hl (k := 2) rfl (by rw [ex2_3]; rfl) (by decide) rfl (fun ls hl => ?_)
        refine lv_goto (tgt := 10) hx hb dX3_endTheWay_34 (by decide) ?_
        exact ih x2_3 M_2 _ _ _ kx (ob_X3_endTheWay_10_mu_3 nb nn M hp0 town n sold N_ hmu hinv c_1 M_2 eM_2 x2_3 ex2_3) (ob_X3_endTheWay_10_inv_3 nb nn M hp0 town n sold N_ hmu hinv c_1 M_2 eM_2 x2_3 ex2_3) hres hP hS (lv_sub hl [1, 2, 0] rfl) hex
  have k_2 : ∀ (n : Nat) (town : Int32) (N_ : xM) (H : Heap) (locs : List Loc) (ls : Array Slot) (kx : (Int32 → xM → xM)), xmu town 6 < n → 0 ≤ town ∧ N_ 11 0 4 ≤ 256 → F = f_X3_endTheWay_L2  n town N_ kx → xP g L N_ H → va_S (xA g L s.heap.size) s.heap H locs → lv_has ls 3 [(0, .ref (xad g 11 0)), (1, .int town)] → (∀ (town : Int32) (N_ : xM) (H : Heap) (locs : List Loc) (ls : Array Slot), 0 ≤ town ∧ N_ 11 0 4 ≤ 256 → F = kx town N_ → xP g L N_ H → va_S (xA g L s.heap.size) s.heap H locs → lv_has ls 3 [(0, .ref (xad g 11 0)), (1, .int town)] → W p l e (xr 0) s m args below meth c H locs 0 0 (MQ below (va_Qv (fun u => u = f_X3_endTheWay  M) (xPost g L) (xA g L s.heap.size)) args s 0 0 (xA g L s.heap.size)) (F0 m 43 ls [])) → W p l e (xr 0) s m args below meth c H locs 0 0 (MQ below (va_Qv (fun u => u = f_X3_endTheWay  M) (xPost g L) (xA g L s.heap.size)) args s 0 0 (xA g L s.heap.size)) (F0 m 2 ls []) := by
    intro n
    induction n with
    | zero => intro town N_ H locs ls kx hmu; exact absurd hmu (Nat.not_lt_zero _)
    | succ n ih =>
      intro town N_ H locs ls kx hmu hinv hres hP hS hl hex
      replace hres : F = _ := hres.trans (by rw [f_X3_endTheWay_L2])
      refine lv_iload_n hx hb dX3_endTheWay_2 rfl (lv_at hl 1 rfl) ?_
      refine lv_bipush (v := 6) hx hb dX3_endTheWay_3 (by decide) ?_
      refine lv_icmp_ge (tgt := 43) hx hb dX3_endTheWay_5 (by decide) (fun c_4 => ?_) (fun c_4 => ?_)
      · replace hres := hres.trans (if_pos c_4)
        exact hex town N_ _ _ _ (ob_X3_endTheWay_43_x2 nb nn M hp0 n town N_ hmu hinv c_4) hres hP hS (lv_sub hl [0, 1] rfl)
      · replace hres := hres.trans (if_neg c_4)
        refine lv_iconst (v := 0) hx hb dX3_endTheWay_8 (by decide) ?_
        refine lv_istore_n (lv' := [(2, .int 0), (0, .ref (xad g 11 0)), (1, .int town)]) hx hb dX3_endTheWay_9 rfl hl (by decide) rfl (fun ls hl => ?_)
        refine k_10 town (xmu (0 : Int32) (N_ 11 0 4) + 1) (0 : Int32) N_ _ _ _ _ (Nat.lt_succ_self _) (ob_X3_endTheWay_10_ini_4 nb nn M hp0 n town N_ hmu hinv c_4) hres hP hS (lv_sub hl [1, 2, 0] rfl) ?_
        clear hres hP hS hl
        intro sold_5 M_6 H locs ls hiv_6 hres hP hS hl
        obtain ⟨x1_7, ex1_7⟩ : ∃ z_ : Int32, z_ = town + 1 := ⟨_, rfl⟩
        replace hres := xlet_n hres ex1_7
        refine lv_iinc (v := x1_7) (lv' := [(1, .int x1_7), (0, .ref (xad g 11 0)), (2, .int sold_5)]) hx hb dX3_endTheWay_37 hl (k := 1) rfl (by rw [ex1_7]; rfl) (by decide) rfl (fun ls hl => ?_)
        refine lv_goto (tgt := 2) hx hb dX3_endTheWay_40 (by decide) ?_
        exact ih x1_7 M_6 _ _ _ kx (ob_X3_endTheWay_2_mu_7 nb nn M hp0 n town N_ hmu hinv c_4 sold_5 M_6 hiv_6 x1_7 ex1_7) (ob_X3_endTheWay_2_inv_7 nb nn M hp0 n town N_ hmu hinv c_4 sold_5 M_6 hiv_6 x1_7 ex1_7) hres hP hS (lv_sub hl [1, 0] rfl) hex
  have hres := hF
  rw [f_X3_endTheWay] at hres
  refine lv_iconst (v := 0) hx hb dX3_endTheWay_0 (by decide) ?_
  refine lv_istore_n (lv' := [(1, .int 0), (0, .ref (xad g 11 0))]) hx hb dX3_endTheWay_1 rfl hl (by decide) rfl (fun ls hl => ?_)
  refine k_2 (xmu (0 : Int32) 6 + 1) (0 : Int32) M _ _ _ _ (Nat.lt_succ_self _) (ob_X3_endTheWay_2_ini_7 nb nn M hp0) hres hP hS (lv_sub hl [1, 0] rfl) ?_
  clear hres hP hS hl
  intro town_8 M_9 H locs ls hiv_9 hres hP hS hl
  exact x_retv hx hb hr hlk hP hS (hres.symm.trans hF) dX3_endTheWay_43
set_option maxHeartbeats 4000000 in
set_option maxRecDepth 100000 in
theorem c_X3_bestSale (l : Launch) (nb nn : Nat) (g : xG) (L : List (Nat × Nat)) (M : xM) (hD : xD g L) (hL : xEL nb nn L) (town : Int32) (sold : Int32) (hp0 : 0 ≤ town) (hp1 : town < 6) (hp2 : 0 ≤ sold) (hp3 : sold < 256) (hp4 : M 11 0 3 ≤ 8) : xCi l yX3_bestSale cX3_bestSale 7 (some .int) 1 g L M [.ref (xad g 11 0), .int town, .int sold] (fun r u => r = f_X3_bestSale town sold M ∧ u = M) := by
  intro sz
  refine x_beg (by decide +kernel) rfl ?_
  intro p e s m args below meth c ls hsz hB
  subst hsz
  obtain ⟨hx, hb, hml, hown, hts, hr, hlk, hK, hAm, hP, hl⟩ := hB
  have S : CallFix p m c cX3_bestSale 7 s args (xws yX3_bestSale cX3_bestSale 7 (some .int)) RX3 := ⟨hx, hb, hml, hown, hts⟩
  have hown : s.vm.findClass RX3 = some m.cls := hown
  have hl : lv_has ls 7 [(0, .ref (xad g 11 0)), (1, .int town), (2, .int sold)] := hl
  have hS : va_S (xA g L s.heap.size) s.heap s.heap [] := va_S.rf
  obtain ⟨F, hF⟩ : ∃ F, F = f_X3_bestSale town sold M := ⟨_, rfl⟩
  have k_16 : ∀ (n : Nat) (best : Int32) (place : Int32) (H : Heap) (locs : List Loc) (ls : Array Slot) (kx : (Int32 → Int32 → Int32)), xmu place (M 11 0 3) < n → 0 ≤ place → F = f_X3_bestSale_L16 town sold M n best place kx → xP g L M H → va_S (xA g L s.heap.size) s.heap H locs → lv_has ls 7 [(0, .ref (xad g 11 0)), (1, .int town), (2, .int sold), (3, .int best), (4, .int place)] → (∀ (best : Int32) (place : Int32) (H : Heap) (locs : List Loc) (ls : Array Slot), 0 ≤ place → F = kx best place → xP g L M H → va_S (xA g L s.heap.size) s.heap H locs → lv_has ls 7 [(0, .ref (xad g 11 0)), (1, .int town), (2, .int sold), (3, .int best), (4, .int place)] → W p l e (xr 1) s m args below meth c H locs 0 0 (MQ below (va_Qi (fun r u => r = f_X3_bestSale town sold M ∧ u = M) (xPost g L) (xA g L s.heap.size)) args s 0 0 (xA g L s.heap.size)) (F0 m 80 ls [])) → W p l e (xr 1) s m args below meth c H locs 0 0 (MQ below (va_Qi (fun r u => r = f_X3_bestSale town sold M ∧ u = M) (xPost g L) (xA g L s.heap.size)) args s 0 0 (xA g L s.heap.size)) (F0 m 16 ls []) := by
    intro n
    induction n with
    | zero => intro best place H locs ls kx hmu; exact absurd hmu (Nat.not_lt_zero _)
    | succ n ih =>
      intro best place H locs ls kx hmu hinv hres hP hS hl hex
      replace hres : F = _ := hres.trans (by rw [f_X3_bestSale_L16])
      refine lv_iload hx hb dX3_bestSale_16 (lv_at hl 4 rfl) ?_
      refine lv_aload_n hx hb dX3_bestSale_18 rfl (lv_at hl 0 rfl) ?_
      refine gf_RX3_21 hx hb hts hown hK hP (hL 11 0 (xe_11 nb nn)) dX3_bestSale_19 ?_
      refine lv_icmp_ge (tgt := 80) hx hb dX3_bestSale_22 (by decide) (fun c_1 => ?_) (fun c_1 => ?_)
      · replace hres := hres.trans (if_pos c_1)
        exact hex best place _ _ _ (ob_X3_bestSale_80_x16 nb nn town sold M hp0 hp1 hp2 hp3 hp4 n best place hmu hinv c_1) hres hP hS (lv_sub hl [0, 1, 2, 3, 4] rfl)
      · replace hres := hres.trans (if_neg c_1)
        refine lv_iload_n hx hb dX3_bestSale_25 rfl (lv_at hl 2 rfl) ?_
        refine lv_iconst (v := 1) hx hb dX3_bestSale_26 (by decide) ?_
        refine lv_iload hx hb dX3_bestSale_27 (lv_at hl 4 rfl) ?_
        refine lv_ishl hx hb dX3_bestSale_29 ?_
        refine lv_ior hx hb dX3_bestSale_30 ?_
        refine lv_topi (fun x5_2 ex5_2 => ?_)
        replace hres := xlet_n hres ex5_2
        refine lv_istore (lv' := [(5, .int x5_2), (0, .ref (xad g 11 0)), (1, .int town), (2, .int sold), (3, .int best), (4, .int place)]) hx hb dX3_bestSale_31 hl (by decide) rfl (fun ls hl => ?_)
        refine lv_iload hx hb dX3_bestSale_33 (lv_at hl 0 rfl) ?_
        refine lv_iload_n hx hb dX3_bestSale_35 rfl (lv_at hl 3 rfl) ?_
        refine lv_icmp_eq (tgt := 74) hx hb dX3_bestSale_36 (by decide) (fun c_3 => ?_) (fun c_3 => ?_)
        · replace hres := hres.trans (if_pos c_3)
          obtain ⟨x4_4, ex4_4⟩ : ∃ z_ : Int32, z_ = place + 1 := ⟨_, rfl⟩
          replace hres := xlet_n hres ex4_4
          refine lv_iinc (v := x4_4) (lv' := [(4, .int x4_4), (5, .int x5_2), (0, .ref (xad g 11 0)), (1, .int town), (2, .int sold), (3, .int best)]) hx hb dX3_bestSale_74 hl (k := 5) rfl (by rw [ex4_4]; rfl) (by decide) rfl (fun ls hl => ?_)
          refine lv_goto (tgt := 16) hx hb dX3_bestSale_77 (by decide) ?_
          exact ih best x4_4 _ _ _ kx (ob_X3_bestSale_16_mu_4 nb nn town sold M hp0 hp1 hp2 hp3 hp4 n best place hmu hinv c_1 x5_2 ex5_2 c_3 x4_4 ex4_4) (ob_X3_bestSale_16_inv_4 nb nn town sold M hp0 hp1 hp2 hp3 hp4 n best place hmu hinv c_1 x5_2 ex5_2 c_3 x4_4 ex4_4) hres hP hS (lv_sub hl [2, 3, 4, 5, 0] rfl) hex
        · replace hres := hres.trans (if_neg c_3)
          refine lv_aload_n hx hb dX3_bestSale_39 rfl (lv_at hl 1 rfl) ?_
          refine gf_RX3_9 hx hb hts hown hK hP (hL 11 0 (xe_11 nb nn)) dX3_bestSale_40 ?_
          refine lv_iload_n hx hb dX3_bestSale_43 rfl (lv_at hl 2 rfl) ?_
          refine lv_bipush (v := 8) hx hb dX3_bestSale_44 (by decide) ?_
          refine lv_imul hx hb dX3_bestSale_46 ?_
          refine lv_iload hx hb dX3_bestSale_47 (lv_at hl 5 rfl) ?_
          refine lv_iadd hx hb dX3_bestSale_49 ?_
          refine x_iald hx hb hK hP (hL 20 0 (xe_20 nb nn)) (xc20 g 0) (ob_X3_bestSale_50_in nb nn town sold M hp0 hp1 hp2 hp3 hp4 n best place hmu hinv c_1 x5_2 ex5_2 c_3) dX3_bestSale_50 ?_
          refine lv_aload_n hx hb dX3_bestSale_51 rfl (lv_at hl 1 rfl) ?_
          refine gf_RX3_18 hx hb hts hown hK hP (hL 11 0 (xe_11 nb nn)) dX3_bestSale_52 ?_
          refine lv_iload_n hx hb dX3_bestSale_55 rfl (lv_at hl 2 rfl) ?_
          refine lv_sipush (v := 256) hx hb dX3_bestSale_56 (by decide) ?_
          refine lv_imul hx hb dX3_bestSale_59 ?_
          refine lv_iload hx hb dX3_bestSale_60 (lv_at hl 0 rfl) ?_
          refine lv_iadd hx hb dX3_bestSale_62 ?_
          refine x_iald hx hb hK hP (hL 22 0 (xe_22 nb nn)) (xc22 g 0) (ob_X3_bestSale_63_in nb nn town sold M hp0 hp1 hp2 hp3 hp4 n best place hmu hinv c_1 x5_2 ex5_2 c_3) dX3_bestSale_63 ?_
          refine lv_iadd hx hb dX3_bestSale_64 ?_
          refine lv_topi (fun x6_5 ex6_5 => ?_)
          replace hres := xlet_n hres ex6_5
          refine lv_istore (lv' := [(6, .int x6_5), (5, .int x5_2), (0, .ref (xad g 11 0)), (1, .int town), (2, .int sold), (3, .int best), (4, .int place)]) hx hb dX3_bestSale_65 hl (by decide) rfl (fun ls hl => ?_)
          refine lv_iload_n hx hb dX3_bestSale_67 rfl (lv_at hl 5 rfl) ?_
          refine lv_iload hx hb dX3_bestSale_68 (lv_at hl 0 rfl) ?_
          refine x_matx hx hb hml hl.1 hts hown wd_960 wd_781 wd_70 wd_782 (by decide) (Nat.le_of_ble_eq_true rfl) ⟨Nat.zero_le _, Nat.zero_le _⟩ dX3_bestSale_70 ?_
          refine lv_topi (fun x3_6 ex3_6 => ?_)
          replace hres := xlet_n hres ex3_6
          refine lv_istore_n (lv' := [(3, .int x3_6), (6, .int x6_5), (5, .int x5_2), (0, .ref (xad g 11 0)), (1, .int town), (2, .int sold), (4, .int place)]) hx hb dX3_bestSale_73 rfl hl (by decide) rfl (fun ls hl => ?_)
          obtain ⟨x4_7, ex4_7⟩ : ∃ z_ : Int32, z_ = place + 1 := ⟨_, rfl⟩
          replace hres := xlet_n hres ex4_7
          refine lv_iinc (v := x4_7) (lv' := [(4, .int x4_7), (3, .int x3_6), (6, .int x6_5), (5, .int x5_2), (0, .ref (xad g 11 0)), (1, .int town), (2, .int sold)]) hx hb dX3_bestSale_74 hl (k := 6) rfl (by rw [ex4_7]; rfl) (by decide) rfl (fun ls hl => ?_)
          refine lv_goto (tgt := 16) hx hb dX3_bestSale_77 (by decide) ?_
          exact ih x3_6 x4_7 _ _ _ kx (ob_X3_bestSale_16_mu_7 nb nn town sold M hp0 hp1 hp2 hp3 hp4 n best place hmu hinv c_1 x5_2 ex5_2 c_3 x6_5 ex6_5 x3_6 ex3_6 x4_7 ex4_7) (ob_X3_bestSale_16_inv_7 nb nn town sold M hp0 hp1 hp2 hp3 hp4 n best place hmu hinv c_1 x5_2 ex5_2 c_3 x6_5 ex6_5 x3_6 ex3_6 x4_7 ex4_7) hres hP hS (lv_sub hl [4, 5, 6, 1, 0] rfl) hex
  have hres := hF
  rw [f_X3_bestSale] at hres
  refine lv_aload_n hx hb dX3_bestSale_0 rfl (lv_at hl 0 rfl) ?_
  refine gf_RX3_18 hx hb hts hown hK hP (hL 11 0 (xe_11 nb nn)) dX3_bestSale_1 ?_
  refine lv_iload_n hx hb dX3_bestSale_4 rfl (lv_at hl 1 rfl) ?_
  refine lv_sipush (v := 256) hx hb dX3_bestSale_5 (by decide) ?_
  refine lv_imul hx hb dX3_bestSale_8 ?_
  refine lv_iload_n hx hb dX3_bestSale_9 rfl (lv_at hl 2 rfl) ?_
  refine lv_iadd hx hb dX3_bestSale_10 ?_
  refine x_iald hx hb hK hP (hL 22 0 (xe_22 nb nn)) (xc22 g 0) (ob_X3_bestSale_11_in nb nn town sold M hp0 hp1 hp2 hp3 hp4) dX3_bestSale_11 ?_
  refine lv_topi (fun x3_8 ex3_8 => ?_)
  replace hres := xlet_n hres ex3_8
  refine lv_istore_n (lv' := [(3, .int x3_8), (0, .ref (xad g 11 0)), (1, .int town), (2, .int sold)]) hx hb dX3_bestSale_12 rfl hl (by decide) rfl (fun ls hl => ?_)
  refine lv_iconst (v := 0) hx hb dX3_bestSale_13 (by decide) ?_
  refine lv_istore (lv' := [(4, .int 0), (3, .int x3_8), (0, .ref (xad g 11 0)), (1, .int town), (2, .int sold)]) hx hb dX3_bestSale_14 hl (by decide) rfl (fun ls hl => ?_)
  refine k_16 (xmu (0 : Int32) (M 11 0 3) + 1) x3_8 (0 : Int32) _ _ _ _ (Nat.lt_succ_self _) (ob_X3_bestSale_16_ini_8 nb nn town sold M hp0 hp1 hp2 hp3 hp4 x3_8 ex3_8) hres hP hS (lv_sub hl [2, 3, 4, 1, 0] rfl) ?_
  clear hres hP hS hl
  intro best_9 place_10 H locs ls hiv_10 hres hP hS hl
  refine lv_iload_n hx hb dX3_bestSale_80 rfl (lv_at hl 3 rfl) ?_
  exact x_reti hx hb hr hlk hP hS ⟨hres.symm.trans hF, rfl⟩ dX3_bestSale_81
set_option maxHeartbeats 4000000 in
set_option maxRecDepth 100000 in
theorem c_X3_planMornings (l : Launch) (nb nn : Nat) (g : xG) (L : List (Nat × Nat)) (M : xM) (hD : xD g L) (hL : xEL nb nn L) (day : Int32) (hp0 : M 11 0 4 ≤ 256) (hp1 : M 11 0 3 ≤ 8) : xCv l yX3_planMornings cX3_planMornings 4 2 g L M [.ref (xad g 11 0), .int day] (fun u => u = f_X3_planMornings day M) := by
  intro sz
  refine x_beg (by decide +kernel) rfl ?_
  intro p e s m args below meth c ls hsz hB
  subst hsz
  obtain ⟨hx, hb, hml, hown, hts, hr, hlk, hK, hAm, hP, hl⟩ := hB
  have S : CallFix p m c cX3_planMornings 4 s args (xws yX3_planMornings cX3_planMornings 4 none) RX3 := ⟨hx, hb, hml, hown, hts⟩
  have hown : s.vm.findClass RX3 = some m.cls := hown
  have hl : lv_has ls 4 [(0, .ref (xad g 11 0)), (1, .int day)] := hl
  have hS : va_S (xA g L s.heap.size) s.heap s.heap [] := va_S.rf
  obtain ⟨F, hF⟩ : ∃ F, F = f_X3_planMornings day M := ⟨_, rfl⟩
  have k_20 : ∀ (G : xM) (sold : Int32) (n : Nat) (town : Int32) (N_ : xM) (H : Heap) (locs : List Loc) (ls : Array Slot) (kx : (Int32 → xM → xM)), xmu town 6 < n → 0 ≤ sold ∧ sold < 256 ∧ 0 ≤ town ∧ N_ 11 0 4 ≤ 256 ∧ N_ 11 0 3 ≤ 8 ∧ N_ 11 0 4 = G 11 0 4 ∧ N_ 11 0 3 = G 11 0 3 → F = f_X3_planMornings_L20 day sold n town N_ kx → xP g L N_ H → va_S (xA g L s.heap.size) s.heap H locs → lv_has ls 4 [(0, .ref (xad g 11 0)), (1, .int day), (2, .int sold), (3, .int town)] → (∀ (town : Int32) (N_ : xM) (H : Heap) (locs : List Loc) (ls : Array Slot), N_ 11 0 4 = G 11 0 4 ∧ N_ 11 0 3 = G 11 0 3 → F = kx town N_ → xP g L N_ H → va_S (xA g L s.heap.size) s.heap H locs → lv_has ls 4 [(0, .ref (xad g 11 0)), (1, .int day), (2, .int sold), (3, .int town)] → W p l e (xr 2) s m args below meth c H locs 0 0 (MQ below (va_Qv (fun u => u = f_X3_planMornings day M) (xPost g L) (xA g L s.heap.size)) args s 0 0 (xA g L s.heap.size)) (F0 m 50 ls [])) → W p l e (xr 2) s m args below meth c H locs 0 0 (MQ below (va_Qv (fun u => u = f_X3_planMornings day M) (xPost g L) (xA g L s.heap.size)) args s 0 0 (xA g L s.heap.size)) (F0 m 20 ls []) := by
    intro G sold n
    induction n with
    | zero => intro town N_ H locs ls kx hmu; exact absurd hmu (Nat.not_lt_zero _)
    | succ n ih =>
      intro town N_ H locs ls kx hmu hinv hres hP hS hl hex
      replace hres : F = _ := hres.trans (by rw [f_X3_planMornings_L20])
      refine lv_iload_n hx hb dX3_planMornings_20 rfl (lv_at hl 3 rfl) ?_
      refine lv_bipush (v := 6) hx hb dX3_planMornings_21 (by decide) ?_
      refine lv_icmp_ge (tgt := 50) hx hb dX3_planMornings_23 (by decide) (fun c_1 => ?_) (fun c_1 => ?_)
      · replace hres := hres.trans (if_pos c_1)
        exact hex town N_ _ _ _ (ob_X3_planMornings_50_x20 nb nn day M hp0 hp1 G sold n town N_ hmu hinv c_1) hres hP hS (lv_sub hl [0, 1, 2, 3] rfl)
      · replace hres := hres.trans (if_neg c_1)
        refine lv_aload_n hx hb dX3_planMornings_26 rfl (lv_at hl 0 rfl) ?_
        refine gf_RX3_15 hx hb hts hown hK hP (hL 11 0 (xe_11 nb nn)) dX3_planMornings_27 ?_
        refine lv_iload_n hx hb dX3_planMornings_30 rfl (lv_at hl 3 rfl) ?_
        refine lv_sipush (v := 256) hx hb dX3_planMornings_31 (by decide) ?_
        refine lv_imul hx hb dX3_planMornings_34 ?_
        refine lv_iload_n hx hb dX3_planMornings_35 rfl (lv_at hl 2 rfl) ?_
        refine lv_iadd hx hb dX3_planMornings_36 ?_
        refine lv_aload_n hx hb dX3_planMornings_37 rfl (lv_at hl 0 rfl) ?_
        refine lv_iload_n hx hb dX3_planMornings_38 rfl (lv_at hl 3 rfl) ?_
        refine lv_iload_n hx hb dX3_planMornings_39 rfl (lv_at hl 2 rfl) ?_
        refine x_callVi (As := [.int town, .int sold]) S hK hAm hD hP hS mt_X3_bestSale wd_956 ⟨by decide, by decide⟩ (hL 11 0 (xe_11 nb nn)) (xc11 g 0) rfl (c_X3_bestSale l nb nn g L N_ hD hL town sold (ob_X3_planMornings_40_p0 nb nn day M hp0 hp1 G sold n town N_ hmu hinv c_1) (ob_X3_planMornings_40_p1 nb nn day M hp0 hp1 G sold n town N_ hmu hinv c_1) (ob_X3_planMornings_40_p2 nb nn day M hp0 hp1 G sold n town N_ hmu hinv c_1) (ob_X3_planMornings_40_p3 nb nn day M hp0 hp1 G sold n town N_ hmu hinv c_1) (ob_X3_planMornings_40_p4 nb nn day M hp0 hp1 G sold n town N_ hmu hinv c_1)) rfl hl.1 (Nat.le_of_ble_eq_true rfl) ⟨Nat.zero_le _, Nat.zero_le _⟩ dX3_planMornings_40 rfl (fun r_2 u H locs hp_ hP hS => ?_)
        obtain ⟨er_2, eu_⟩ := hp_
        rw [eu_] at hP
        clear eu_
        replace hres := xlet_n hres er_2
        refine x_iast hx hb hK hP hD hS (hL 21 0 (xe_21 nb nn)) (xc21 g 0) (ob_X3_planMornings_43_in nb nn day M hp0 hp1 G sold n town N_ hmu hinv c_1 r_2 er_2) dX3_planMornings_43 (fun H locs hP hS => ?_)
        obtain ⟨M_3, eM_3⟩ : ∃ z_ : xM, z_ = xup N_ 21 0 ((town * 256) + sold).toNatClampNeg r_2 := ⟨_, rfl⟩
        rw [← eM_3] at hP
        replace hres := xlet_n hres eM_3
        obtain ⟨x3_4, ex3_4⟩ : ∃ z_ : Int32, z_ = town + 1 := ⟨_, rfl⟩
        replace hres := xlet_n hres ex3_4
        refine lv_iinc (v := x3_4) (lv' := [(3, .int x3_4), (0, .ref (xad g 11 0)), (1, .int day), (2, .int sold)]) hx hb dX3_planMornings_44 hl (k := 3) rfl (by rw [ex3_4]; rfl) (by decide) rfl (fun ls hl => ?_)
        refine lv_goto (tgt := 20) hx hb dX3_planMornings_47 (by decide) ?_
        exact ih x3_4 M_3 _ _ _ kx (ob_X3_planMornings_20_mu_4 nb nn day M hp0 hp1 G sold n town N_ hmu hinv c_1 r_2 er_2 M_3 eM_3 x3_4 ex3_4) (ob_X3_planMornings_20_inv_4 nb nn day M hp0 hp1 G sold n town N_ hmu hinv c_1 r_2 er_2 M_3 eM_3 x3_4 ex3_4) hres hP hS (lv_sub hl [1, 2, 3, 0] rfl) hex
  have k_2 : ∀ (n : Nat) (sold : Int32) (N_ : xM) (H : Heap) (locs : List Loc) (ls : Array Slot) (kx : (Int32 → xM → xM)), xmu sold (N_ 11 0 4) < n → 0 ≤ sold ∧ N_ 11 0 4 ≤ 256 ∧ N_ 11 0 3 ≤ 8 → F = f_X3_planMornings_L2 day n sold N_ kx → xP g L N_ H → va_S (xA g L s.heap.size) s.heap H locs → lv_has ls 4 [(0, .ref (xad g 11 0)), (1, .int day), (2, .int sold)] → (∀ (sold : Int32) (N_ : xM) (H : Heap) (locs : List Loc) (ls : Array Slot), 0 ≤ sold ∧ N_ 11 0 4 ≤ 256 ∧ N_ 11 0 3 ≤ 8 → F = kx sold N_ → xP g L N_ H → va_S (xA g L s.heap.size) s.heap H locs → lv_has ls 4 [(0, .ref (xad g 11 0)), (1, .int day), (2, .int sold)] → W p l e (xr 2) s m args below meth c H locs 0 0 (MQ below (va_Qv (fun u => u = f_X3_planMornings day M) (xPost g L) (xA g L s.heap.size)) args s 0 0 (xA g L s.heap.size)) (F0 m 56 ls [])) → W p l e (xr 2) s m args below meth c H locs 0 0 (MQ below (va_Qv (fun u => u = f_X3_planMornings day M) (xPost g L) (xA g L s.heap.size)) args s 0 0 (xA g L s.heap.size)) (F0 m 2 ls []) := by
    intro n
    induction n with
    | zero => intro sold N_ H locs ls kx hmu; exact absurd hmu (Nat.not_lt_zero _)
    | succ n ih =>
      intro sold N_ H locs ls kx hmu hinv hres hP hS hl hex
      replace hres : F = _ := hres.trans (by rw [f_X3_planMornings_L2])
      refine lv_iload_n hx hb dX3_planMornings_2 rfl (lv_at hl 2 rfl) ?_
      refine lv_aload_n hx hb dX3_planMornings_3 rfl (lv_at hl 0 rfl) ?_
      refine gf_RX3_25 hx hb hts hown hK hP (hL 11 0 (xe_11 nb nn)) dX3_planMornings_4 ?_
      refine lv_icmp_ge (tgt := 56) hx hb dX3_planMornings_7 (by decide) (fun c_5 => ?_) (fun c_5 => ?_)
      · replace hres := hres.trans (if_pos c_5)
        exact hex sold N_ _ _ _ (ob_X3_planMornings_56_x2 nb nn day M hp0 hp1 n sold N_ hmu hinv c_5) hres hP hS (lv_sub hl [0, 1, 2] rfl)
      · replace hres := hres.trans (if_neg c_5)
        refine lv_iload_n hx hb dX3_planMornings_10 rfl (lv_at hl 2 rfl) ?_
        refine x_callSi (As := [.int sold]) S hK hAm hD hP hS mt_J6_bitCount_0f7a4 wd_949 ⟨by decide, by decide⟩ (c_J6_bitCount_0f7a4 l nb nn g L N_ hD hL sold) rfl hl.1 (Nat.le_of_ble_eq_true rfl) ⟨Nat.zero_le _, Nat.zero_le _⟩ dX3_planMornings_11 rfl (fun r_6 u H locs hp_ hP hS => ?_)
        obtain ⟨er_6, eu_⟩ := hp_
        rw [eu_] at hP
        clear eu_
        replace hres := xlet_n hres er_6
        refine lv_iload_n hx hb dX3_planMornings_14 rfl (lv_at hl 1 rfl) ?_
        refine lv_icmp_gt (tgt := 50) hx hb dX3_planMornings_15 (by decide) (fun c_7 => ?_) (fun c_7 => ?_)
        · replace hres := hres.trans (if_pos c_7)
          obtain ⟨x2_8, ex2_8⟩ : ∃ z_ : Int32, z_ = sold + 1 := ⟨_, rfl⟩
          replace hres := xlet_n hres ex2_8
          refine lv_iinc (v := x2_8) (lv' := [(2, .int x2_8), (0, .ref (xad g 11 0)), (1, .int day)]) hx hb dX3_planMornings_50 hl (k := 2) rfl (by rw [ex2_8]; rfl) (by decide) rfl (fun ls hl => ?_)
          refine lv_goto (tgt := 2) hx hb dX3_planMornings_53 (by decide) ?_
          exact ih x2_8 N_ _ _ _ kx (ob_X3_planMornings_2_mu_8 nb nn day M hp0 hp1 n sold N_ hmu hinv c_5 r_6 er_6 c_7 x2_8 ex2_8) (ob_X3_planMornings_2_inv_8 nb nn day M hp0 hp1 n sold N_ hmu hinv c_5 r_6 er_6 c_7 x2_8 ex2_8) hres hP hS (lv_sub hl [1, 2, 0] rfl) hex
        · replace hres := hres.trans (if_neg c_7)
          refine lv_iconst (v := 0) hx hb dX3_planMornings_18 (by decide) ?_
          refine lv_istore_n (lv' := [(3, .int 0), (0, .ref (xad g 11 0)), (1, .int day), (2, .int sold)]) hx hb dX3_planMornings_19 rfl hl (by decide) rfl (fun ls hl => ?_)
          refine k_20 N_ sold (xmu (0 : Int32) 6 + 1) (0 : Int32) N_ _ _ _ _ (Nat.lt_succ_self _) (ob_X3_planMornings_20_ini_8 nb nn day M hp0 hp1 n sold N_ hmu hinv c_5 r_6 er_6 c_7) hres hP hS (lv_sub hl [1, 2, 3, 0] rfl) ?_
          clear hres hP hS hl
          intro town_9 M_10 H locs ls hiv_10 hres hP hS hl
          obtain ⟨x2_11, ex2_11⟩ : ∃ z_ : Int32, z_ = sold + 1 := ⟨_, rfl⟩
          replace hres := xlet_n hres ex2_11
          refine lv_iinc (v := x2_11) (lv' := [(2, .int x2_11), (0, .ref (xad g 11 0)), (1, .int day), (3, .int town_9)]) hx hb dX3_planMornings_50 hl (k := 2) rfl (by rw [ex2_11]; rfl) (by decide) rfl (fun ls hl => ?_)
          refine lv_goto (tgt := 2) hx hb dX3_planMornings_53 (by decide) ?_
          exact ih x2_11 M_10 _ _ _ kx (ob_X3_planMornings_2_mu_11 nb nn day M hp0 hp1 n sold N_ hmu hinv c_5 r_6 er_6 c_7 town_9 M_10 hiv_10 x2_11 ex2_11) (ob_X3_planMornings_2_inv_11 nb nn day M hp0 hp1 n sold N_ hmu hinv c_5 r_6 er_6 c_7 town_9 M_10 hiv_10 x2_11 ex2_11) hres hP hS (lv_sub hl [1, 2, 0] rfl) hex
  have hres := hF
  rw [f_X3_planMornings] at hres
  refine lv_iconst (v := 0) hx hb dX3_planMornings_0 (by decide) ?_
  refine lv_istore_n (lv' := [(2, .int 0), (0, .ref (xad g 11 0)), (1, .int day)]) hx hb dX3_planMornings_1 rfl hl (by decide) rfl (fun ls hl => ?_)
  refine k_2 (xmu (0 : Int32) (M 11 0 4) + 1) (0 : Int32) M _ _ _ _ (Nat.lt_succ_self _) (ob_X3_planMornings_2_ini_11 nb nn day M hp0 hp1) hres hP hS (lv_sub hl [1, 2, 0] rfl) ?_
  clear hres hP hS hl
  intro sold_12 M_13 H locs ls hiv_13 hres hP hS hl
  exact x_retv hx hb hr hlk hP hS (hres.symm.trans hF) dX3_planMornings_56
set_option maxHeartbeats 4000000 in
set_option maxRecDepth 100000 in
theorem c_X3_bestMove (l : Launch) (nb nn : Nat) (g : xG) (L : List (Nat × Nat)) (M : xM) (hD : xD g L) (hL : xEL nb nn L) (town : Int32) (sold : Int32) (hp0 : 0 ≤ town) (hp1 : town < 6) (hp2 : 0 ≤ sold) (hp3 : sold < 256) : xCi l yX3_bestMove cX3_bestMove 6 (some .int) 1 g L M [.ref (xad g 11 0), .ref (xad g 2 0), .int town, .int sold] (fun r u => r = f_X3_bestMove town sold M ∧ u = M) := by
  intro sz
  refine x_beg (by decide +kernel) rfl ?_
  intro p e s m args below meth c ls hsz hB
  subst hsz
  obtain ⟨hx, hb, hml, hown, hts, hr, hlk, hK, hAm, hP, hl⟩ := hB
  have S : CallFix p m c cX3_bestMove 6 s args (xws yX3_bestMove cX3_bestMove 6 (some .int)) RX3 := ⟨hx, hb, hml, hown, hts⟩
  have hown : s.vm.findClass RX3 = some m.cls := hown
  have hl : lv_has ls 6 [(0, .ref (xad g 11 0)), (1, .ref (xad g 2 0)), (2, .int town), (3, .int sold)] := hl
  have hS : va_S (xA g L s.heap.size) s.heap s.heap [] := va_S.rf
  obtain ⟨F, hF⟩ : ∃ F, F = f_X3_bestMove town sold M := ⟨_, rfl⟩
  have k_6 : ∀ (n : Nat) (best : Int32) (to : Int32) (H : Heap) (locs : List Loc) (ls : Array Slot) (kx : (Int32 → Int32 → Int32)), xmu to 6 < n → 0 ≤ to → F = f_X3_bestMove_L6 town sold M n best to kx → xP g L M H → va_S (xA g L s.heap.size) s.heap H locs → lv_has ls 6 [(0, .ref (xad g 11 0)), (1, .ref (xad g 2 0)), (2, .int town), (3, .int sold), (4, .int best), (5, .int to)] → (∀ (best : Int32) (to : Int32) (H : Heap) (locs : List Loc) (ls : Array Slot), 0 ≤ to → F = kx best to → xP g L M H → va_S (xA g L s.heap.size) s.heap H locs → lv_has ls 6 [(0, .ref (xad g 11 0)), (1, .ref (xad g 2 0)), (2, .int town), (3, .int sold), (4, .int best), (5, .int to)] → W p l e (xr 1) s m args below meth c H locs 0 0 (MQ below (va_Qi (fun r u => r = f_X3_bestMove town sold M ∧ u = M) (xPost g L) (xA g L s.heap.size)) args s 0 0 (xA g L s.heap.size)) (F0 m 55 ls [])) → W p l e (xr 1) s m args below meth c H locs 0 0 (MQ below (va_Qi (fun r u => r = f_X3_bestMove town sold M ∧ u = M) (xPost g L) (xA g L s.heap.size)) args s 0 0 (xA g L s.heap.size)) (F0 m 6 ls []) := by
    intro n
    induction n with
    | zero => intro best to H locs ls kx hmu; exact absurd hmu (Nat.not_lt_zero _)
    | succ n ih =>
      intro best to H locs ls kx hmu hinv hres hP hS hl hex
      replace hres : F = _ := hres.trans (by rw [f_X3_bestMove_L6])
      refine lv_iload hx hb dX3_bestMove_6 (lv_at hl 5 rfl) ?_
      refine lv_bipush (v := 6) hx hb dX3_bestMove_8 (by decide) ?_
      refine lv_icmp_ge (tgt := 55) hx hb dX3_bestMove_10 (by decide) (fun c_1 => ?_) (fun c_1 => ?_)
      · replace hres := hres.trans (if_pos c_1)
        exact hex best to _ _ _ (ob_X3_bestMove_55_x6 nb nn town sold M hp0 hp1 hp2 hp3 n best to hmu hinv c_1) hres hP hS (lv_sub hl [0, 1, 2, 3, 4, 5] rfl)
      · replace hres := hres.trans (if_neg c_1)
        refine lv_iload hx hb dX3_bestMove_13 (lv_at hl 5 rfl) ?_
        refine lv_iload_n hx hb dX3_bestMove_15 rfl (lv_at hl 2 rfl) ?_
        refine lv_icmp_eq (tgt := 29) hx hb dX3_bestMove_16 (by decide) (fun c_2 => ?_) (fun c_2 => ?_)
        · replace hres := hres.trans (if_pos c_2)
          refine lv_iload hx hb dX3_bestMove_29 (lv_at hl 4 rfl) ?_
          refine lv_aload_n hx hb dX3_bestMove_31 rfl (lv_at hl 0 rfl) ?_
          refine gf_RX3_15 hx hb hts hown hK hP (hL 11 0 (xe_11 nb nn)) dX3_bestMove_32 ?_
          refine lv_iload hx hb dX3_bestMove_35 (lv_at hl 5 rfl) ?_
          refine lv_sipush (v := 256) hx hb dX3_bestMove_37 (by decide) ?_
          refine lv_imul hx hb dX3_bestMove_40 ?_
          refine lv_iload_n hx hb dX3_bestMove_41 rfl (lv_at hl 3 rfl) ?_
          refine lv_iadd hx hb dX3_bestMove_42 ?_
          refine x_iald hx hb hK hP (hL 21 0 (xe_21 nb nn)) (xc21 g 0) (ob_X3_bestMove_43_in nb nn town sold M hp0 hp1 hp2 hp3 n best to hmu hinv c_1 c_2) dX3_bestMove_43 ?_
          refine x_matx hx hb hml hl.1 hts hown wd_960 wd_781 wd_70 wd_782 (by decide) (Nat.le_of_ble_eq_true rfl) ⟨Nat.zero_le _, Nat.zero_le _⟩ dX3_bestMove_44 ?_
          refine lv_topi (fun x4_3 ex4_3 => ?_)
          replace hres := xlet_n hres ex4_3
          refine lv_istore (lv' := [(4, .int x4_3), (0, .ref (xad g 11 0)), (1, .ref (xad g 2 0)), (2, .int town), (3, .int sold), (5, .int to)]) hx hb dX3_bestMove_47 hl (by decide) rfl (fun ls hl => ?_)
          obtain ⟨x5_4, ex5_4⟩ : ∃ z_ : Int32, z_ = to + 1 := ⟨_, rfl⟩
          replace hres := xlet_n hres ex5_4
          refine lv_iinc (v := x5_4) (lv' := [(5, .int x5_4), (4, .int x4_3), (0, .ref (xad g 11 0)), (1, .ref (xad g 2 0)), (2, .int town), (3, .int sold)]) hx hb dX3_bestMove_49 hl (k := 5) rfl (by rw [ex5_4]; rfl) (by decide) rfl (fun ls hl => ?_)
          refine lv_goto (tgt := 6) hx hb dX3_bestMove_52 (by decide) ?_
          exact ih x4_3 x5_4 _ _ _ kx (ob_X3_bestMove_6_mu_4 nb nn town sold M hp0 hp1 hp2 hp3 n best to hmu hinv c_1 c_2 x4_3 ex4_3 x5_4 ex5_4) (ob_X3_bestMove_6_inv_4 nb nn town sold M hp0 hp1 hp2 hp3 n best to hmu hinv c_1 c_2 x4_3 ex4_3 x5_4 ex5_4) hres hP hS (lv_sub hl [2, 3, 4, 5, 1, 0] rfl) hex
        · replace hres := hres.trans (if_neg c_2)
          refine lv_aload_n hx hb dX3_bestMove_19 rfl (lv_at hl 1 rfl) ?_
          refine lv_iload_n hx hb dX3_bestMove_20 rfl (lv_at hl 2 rfl) ?_
          refine lv_iload hx hb dX3_bestMove_21 (lv_at hl 5 rfl) ?_
          refine x_callVi (As := [.int town, .int to]) S hK hAm hD hP hS mt_X5_milesBetween wd_969 ⟨by decide, by decide⟩ (hL 2 0 (xe_2 nb nn)) (xc2 g 0) rfl (c_X5_milesBetween l nb nn g L M hD (hL 2 0 (xe_2 nb nn)) (hL 13 0 (xe_13 nb nn)) (hL 14 0 (xe_14 nb nn)) town to (ob_X3_bestMove_23_p0 nb nn town sold M hp0 hp1 hp2 hp3 n best to hmu hinv c_1 c_2) (ob_X3_bestMove_23_p1 nb nn town sold M hp0 hp1 hp2 hp3 n best to hmu hinv c_1 c_2) (ob_X3_bestMove_23_p2 nb nn town sold M hp0 hp1 hp2 hp3 n best to hmu hinv c_1 c_2) (ob_X3_bestMove_23_p3 nb nn town sold M hp0 hp1 hp2 hp3 n best to hmu hinv c_1 c_2)) rfl hl.1 (Nat.le_of_ble_eq_true rfl) ⟨Nat.zero_le _, Nat.zero_le _⟩ dX3_bestMove_23 rfl (fun r_5 u H locs hp_ hP hS => ?_)
          obtain ⟨er_5, eu_⟩ := hp_
          rw [eu_] at hP
          clear eu_
          replace hres := xlet_n hres er_5
          refine lv_if_le (tgt := 49) hx hb dX3_bestMove_26 (by decide) (fun c_6 => ?_) (fun c_6 => ?_)
          · replace hres := hres.trans (if_pos c_6)
            obtain ⟨x5_7, ex5_7⟩ : ∃ z_ : Int32, z_ = to + 1 := ⟨_, rfl⟩
            replace hres := xlet_n hres ex5_7
            refine lv_iinc (v := x5_7) (lv' := [(5, .int x5_7), (0, .ref (xad g 11 0)), (1, .ref (xad g 2 0)), (2, .int town), (3, .int sold), (4, .int best)]) hx hb dX3_bestMove_49 hl (k := 5) rfl (by rw [ex5_7]; rfl) (by decide) rfl (fun ls hl => ?_)
            refine lv_goto (tgt := 6) hx hb dX3_bestMove_52 (by decide) ?_
            exact ih best x5_7 _ _ _ kx (ob_X3_bestMove_6_mu_7 nb nn town sold M hp0 hp1 hp2 hp3 n best to hmu hinv c_1 c_2 r_5 er_5 c_6 x5_7 ex5_7) (ob_X3_bestMove_6_inv_7 nb nn town sold M hp0 hp1 hp2 hp3 n best to hmu hinv c_1 c_2 r_5 er_5 c_6 x5_7 ex5_7) hres hP hS (lv_sub hl [1, 2, 3, 4, 5, 0] rfl) hex
          · replace hres := hres.trans (if_neg c_6)
            refine lv_iload hx hb dX3_bestMove_29 (lv_at hl 4 rfl) ?_
            refine lv_aload_n hx hb dX3_bestMove_31 rfl (lv_at hl 0 rfl) ?_
            refine gf_RX3_15 hx hb hts hown hK hP (hL 11 0 (xe_11 nb nn)) dX3_bestMove_32 ?_
            refine lv_iload hx hb dX3_bestMove_35 (lv_at hl 5 rfl) ?_
            refine lv_sipush (v := 256) hx hb dX3_bestMove_37 (by decide) ?_
            refine lv_imul hx hb dX3_bestMove_40 ?_
            refine lv_iload_n hx hb dX3_bestMove_41 rfl (lv_at hl 3 rfl) ?_
            refine lv_iadd hx hb dX3_bestMove_42 ?_
            refine x_iald hx hb hK hP (hL 21 0 (xe_21 nb nn)) (xc21 g 0) (ob_X3_bestMove_43_in_2 nb nn town sold M hp0 hp1 hp2 hp3 n best to hmu hinv c_1 c_2 r_5 er_5 c_6) dX3_bestMove_43 ?_
            refine x_matx hx hb hml hl.1 hts hown wd_960 wd_781 wd_70 wd_782 (by decide) (Nat.le_of_ble_eq_true rfl) ⟨Nat.zero_le _, Nat.zero_le _⟩ dX3_bestMove_44 ?_
            refine lv_topi (fun x4_8 ex4_8 => ?_)
            replace hres := xlet_n hres ex4_8
            refine lv_istore (lv' := [(4, .int x4_8), (0, .ref (xad g 11 0)), (1, .ref (xad g 2 0)), (2, .int town), (3, .int sold), (5, .int to)]) hx hb dX3_bestMove_47 hl (by decide) rfl (fun ls hl => ?_)
            obtain ⟨x5_9, ex5_9⟩ : ∃ z_ : Int32, z_ = to + 1 := ⟨_, rfl⟩
            replace hres := xlet_n hres ex5_9
            refine lv_iinc (v := x5_9) (lv' := [(5, .int x5_9), (4, .int x4_8), (0, .ref (xad g 11 0)), (1, .ref (xad g 2 0)), (2, .int town), (3, .int sold)]) hx hb dX3_bestMove_49 hl (k := 5) rfl (by rw [ex5_9]; rfl) (by decide) rfl (fun ls hl => ?_)
            refine lv_goto (tgt := 6) hx hb dX3_bestMove_52 (by decide) ?_
            exact ih x4_8 x5_9 _ _ _ kx (ob_X3_bestMove_6_mu_9 nb nn town sold M hp0 hp1 hp2 hp3 n best to hmu hinv c_1 c_2 r_5 er_5 c_6 x4_8 ex4_8 x5_9 ex5_9) (ob_X3_bestMove_6_inv_9 nb nn town sold M hp0 hp1 hp2 hp3 n best to hmu hinv c_1 c_2 r_5 er_5 c_6 x4_8 ex4_8 x5_9 ex5_9) hres hP hS (lv_sub hl [2, 3, 4, 5, 1, 0] rfl) hex
  have hres := hF
  rw [f_X3_bestMove] at hres
  refine lv_iconst (v := 0) hx hb dX3_bestMove_0 (by decide) ?_
  refine lv_istore (lv' := [(4, .int 0), (0, .ref (xad g 11 0)), (1, .ref (xad g 2 0)), (2, .int town), (3, .int sold)]) hx hb dX3_bestMove_1 hl (by decide) rfl (fun ls hl => ?_)
  refine lv_iconst (v := 0) hx hb dX3_bestMove_3 (by decide) ?_
  refine lv_istore (lv' := [(5, .int 0), (4, .int 0), (0, .ref (xad g 11 0)), (1, .ref (xad g 2 0)), (2, .int town), (3, .int sold)]) hx hb dX3_bestMove_4 hl (by decide) rfl (fun ls hl => ?_)
  refine k_6 (xmu (0 : Int32) 6 + 1) (0 : Int32) (0 : Int32) _ _ _ _ (Nat.lt_succ_self _) (ob_X3_bestMove_6_ini_9 nb nn town sold M hp0 hp1 hp2 hp3) hres hP hS (lv_sub hl [2, 3, 4, 5, 1, 0] rfl) ?_
  clear hres hP hS hl
  intro best_10 to_11 H locs ls hiv_11 hres hP hS hl
  refine lv_iload hx hb dX3_bestMove_55 (lv_at hl 4 rfl) ?_
  exact x_reti hx hb hr hlk hP hS ⟨hres.symm.trans hF, rfl⟩ dX3_bestMove_57
set_option maxHeartbeats 4000000 in
set_option maxRecDepth 100000 in
theorem c_X3_planEvenings (l : Launch) (nb nn : Nat) (g : xG) (L : List (Nat × Nat)) (M : xM) (hD : xD g L) (hL : xEL nb nn L) (day : Int32) (hp0 : M 11 0 4 ≤ 256) : xCv l yX3_planEvenings cX3_planEvenings 5 2 g L M [.ref (xad g 11 0), .ref (xad g 2 0), .int day] (fun u => u = f_X3_planEvenings day M) := by
  intro sz
  refine x_beg (by decide +kernel) rfl ?_
  intro p e s m args below meth c ls hsz hB
  subst hsz
  obtain ⟨hx, hb, hml, hown, hts, hr, hlk, hK, hAm, hP, hl⟩ := hB
  have S : CallFix p m c cX3_planEvenings 5 s args (xws yX3_planEvenings cX3_planEvenings 5 none) RX3 := ⟨hx, hb, hml, hown, hts⟩
  have hown : s.vm.findClass RX3 = some m.cls := hown
  have hl : lv_has ls 5 [(0, .ref (xad g 11 0)), (1, .ref (xad g 2 0)), (2, .int day)] := hl
  have hS : va_S (xA g L s.heap.size) s.heap s.heap [] := va_S.rf
  obtain ⟨F, hF⟩ : ∃ F, F = f_X3_planEvenings day M := ⟨_, rfl⟩
  have k_23 : ∀ (G : xM) (sold : Int32) (n : Nat) (town : Int32) (N_ : xM) (H : Heap) (locs : List Loc) (ls : Array Slot) (kx : (Int32 → xM → xM)), xmu town 6 < n → 0 ≤ sold ∧ sold < 256 ∧ 0 ≤ town ∧ N_ 11 0 4 ≤ 256 ∧ N_ 11 0 4 = G 11 0 4 → F = f_X3_planEvenings_L23 day sold n town N_ kx → xP g L N_ H → va_S (xA g L s.heap.size) s.heap H locs → lv_has ls 5 [(0, .ref (xad g 11 0)), (1, .ref (xad g 2 0)), (2, .int day), (3, .int sold), (4, .int town)] → (∀ (town : Int32) (N_ : xM) (H : Heap) (locs : List Loc) (ls : Array Slot), N_ 11 0 4 = G 11 0 4 → F = kx town N_ → xP g L N_ H → va_S (xA g L s.heap.size) s.heap H locs → lv_has ls 5 [(0, .ref (xad g 11 0)), (1, .ref (xad g 2 0)), (2, .int day), (3, .int sold), (4, .int town)] → W p l e (xr 2) s m args below meth c H locs 0 0 (MQ below (va_Qv (fun u => u = f_X3_planEvenings day M) (xPost g L) (xA g L s.heap.size)) args s 0 0 (xA g L s.heap.size)) (F0 m 57 ls [])) → W p l e (xr 2) s m args below meth c H locs 0 0 (MQ below (va_Qv (fun u => u = f_X3_planEvenings day M) (xPost g L) (xA g L s.heap.size)) args s 0 0 (xA g L s.heap.size)) (F0 m 23 ls []) := by
    intro G sold n
    induction n with
    | zero => intro town N_ H locs ls kx hmu; exact absurd hmu (Nat.not_lt_zero _)
    | succ n ih =>
      intro town N_ H locs ls kx hmu hinv hres hP hS hl hex
      replace hres : F = _ := hres.trans (by rw [f_X3_planEvenings_L23])
      refine lv_iload hx hb dX3_planEvenings_23 (lv_at hl 4 rfl) ?_
      refine lv_bipush (v := 6) hx hb dX3_planEvenings_25 (by decide) ?_
      refine lv_icmp_ge (tgt := 57) hx hb dX3_planEvenings_27 (by decide) (fun c_1 => ?_) (fun c_1 => ?_)
      · replace hres := hres.trans (if_pos c_1)
        exact hex town N_ _ _ _ (ob_X3_planEvenings_57_x23 nb nn day M hp0 G sold n town N_ hmu hinv c_1) hres hP hS (lv_sub hl [0, 1, 2, 3, 4] rfl)
      · replace hres := hres.trans (if_neg c_1)
        refine lv_aload_n hx hb dX3_planEvenings_30 rfl (lv_at hl 0 rfl) ?_
        refine gf_RX3_18 hx hb hts hown hK hP (hL 11 0 (xe_11 nb nn)) dX3_planEvenings_31 ?_
        refine lv_iload hx hb dX3_planEvenings_34 (lv_at hl 4 rfl) ?_
        refine lv_sipush (v := 256) hx hb dX3_planEvenings_36 (by decide) ?_
        refine lv_imul hx hb dX3_planEvenings_39 ?_
        refine lv_iload_n hx hb dX3_planEvenings_40 rfl (lv_at hl 3 rfl) ?_
        refine lv_iadd hx hb dX3_planEvenings_41 ?_
        refine lv_aload_n hx hb dX3_planEvenings_42 rfl (lv_at hl 0 rfl) ?_
        refine lv_aload_n hx hb dX3_planEvenings_43 rfl (lv_at hl 1 rfl) ?_
        refine lv_iload hx hb dX3_planEvenings_44 (lv_at hl 4 rfl) ?_
        refine lv_iload_n hx hb dX3_planEvenings_46 rfl (lv_at hl 3 rfl) ?_
        refine x_callVi (As := [.ref (xad g 2 0), .int town, .int sold]) S hK hAm hD hP hS mt_X3_bestMove wd_965 ⟨by decide, by decide⟩ (hL 11 0 (xe_11 nb nn)) (xc11 g 0) rfl (c_X3_bestMove l nb nn g L N_ hD hL town sold (ob_X3_planEvenings_47_p0 nb nn day M hp0 G sold n town N_ hmu hinv c_1) (ob_X3_planEvenings_47_p1 nb nn day M hp0 G sold n town N_ hmu hinv c_1) (ob_X3_planEvenings_47_p2 nb nn day M hp0 G sold n town N_ hmu hinv c_1) (ob_X3_planEvenings_47_p3 nb nn day M hp0 G sold n town N_ hmu hinv c_1)) rfl hl.1 (Nat.le_of_ble_eq_true rfl) ⟨Nat.zero_le _, Nat.zero_le _⟩ dX3_planEvenings_47 rfl (fun r_2 u H locs hp_ hP hS => ?_)
        obtain ⟨er_2, eu_⟩ := hp_
        rw [eu_] at hP
        clear eu_
        replace hres := xlet_n hres er_2
        refine x_iast hx hb hK hP hD hS (hL 22 0 (xe_22 nb nn)) (xc22 g 0) (ob_X3_planEvenings_50_in nb nn day M hp0 G sold n town N_ hmu hinv c_1 r_2 er_2) dX3_planEvenings_50 (fun H locs hP hS => ?_)
        obtain ⟨M_3, eM_3⟩ : ∃ z_ : xM, z_ = xup N_ 22 0 ((town * 256) + sold).toNatClampNeg r_2 := ⟨_, rfl⟩
        rw [← eM_3] at hP
        replace hres := xlet_n hres eM_3
        obtain ⟨x4_4, ex4_4⟩ : ∃ z_ : Int32, z_ = town + 1 := ⟨_, rfl⟩
        replace hres := xlet_n hres ex4_4
        refine lv_iinc (v := x4_4) (lv' := [(4, .int x4_4), (0, .ref (xad g 11 0)), (1, .ref (xad g 2 0)), (2, .int day), (3, .int sold)]) hx hb dX3_planEvenings_51 hl (k := 4) rfl (by rw [ex4_4]; rfl) (by decide) rfl (fun ls hl => ?_)
        refine lv_goto (tgt := 23) hx hb dX3_planEvenings_54 (by decide) ?_
        exact ih x4_4 M_3 _ _ _ kx (ob_X3_planEvenings_23_mu_4 nb nn day M hp0 G sold n town N_ hmu hinv c_1 r_2 er_2 M_3 eM_3 x4_4 ex4_4) (ob_X3_planEvenings_23_inv_4 nb nn day M hp0 G sold n town N_ hmu hinv c_1 r_2 er_2 M_3 eM_3 x4_4 ex4_4) hres hP hS (lv_sub hl [1, 2, 3, 4, 0] rfl) hex
  have k_2 : ∀ (n : Nat) (sold : Int32) (N_ : xM) (H : Heap) (locs : List Loc) (ls : Array Slot) (kx : (Int32 → xM → xM)), xmu sold (N_ 11 0 4) < n → 0 ≤ sold ∧ N_ 11 0 4 ≤ 256 → F = f_X3_planEvenings_L2 day n sold N_ kx → xP g L N_ H → va_S (xA g L s.heap.size) s.heap H locs → lv_has ls 5 [(0, .ref (xad g 11 0)), (1, .ref (xad g 2 0)), (2, .int day), (3, .int sold)] → (∀ (sold : Int32) (N_ : xM) (H : Heap) (locs : List Loc) (ls : Array Slot), 0 ≤ sold ∧ N_ 11 0 4 ≤ 256 → F = kx sold N_ → xP g L N_ H → va_S (xA g L s.heap.size) s.heap H locs → lv_has ls 5 [(0, .ref (xad g 11 0)), (1, .ref (xad g 2 0)), (2, .int day), (3, .int sold)] → W p l e (xr 2) s m args below meth c H locs 0 0 (MQ below (va_Qv (fun u => u = f_X3_planEvenings day M) (xPost g L) (xA g L s.heap.size)) args s 0 0 (xA g L s.heap.size)) (F0 m 63 ls [])) → W p l e (xr 2) s m args below meth c H locs 0 0 (MQ below (va_Qv (fun u => u = f_X3_planEvenings day M) (xPost g L) (xA g L s.heap.size)) args s 0 0 (xA g L s.heap.size)) (F0 m 2 ls []) := by
    intro n
    induction n with
    | zero => intro sold N_ H locs ls kx hmu; exact absurd hmu (Nat.not_lt_zero _)
    | succ n ih =>
      intro sold N_ H locs ls kx hmu hinv hres hP hS hl hex
      replace hres : F = _ := hres.trans (by rw [f_X3_planEvenings_L2])
      refine lv_iload_n hx hb dX3_planEvenings_2 rfl (lv_at hl 3 rfl) ?_
      refine lv_aload_n hx hb dX3_planEvenings_3 rfl (lv_at hl 0 rfl) ?_
      refine gf_RX3_25 hx hb hts hown hK hP (hL 11 0 (xe_11 nb nn)) dX3_planEvenings_4 ?_
      refine lv_icmp_ge (tgt := 63) hx hb dX3_planEvenings_7 (by decide) (fun c_5 => ?_) (fun c_5 => ?_)
      · replace hres := hres.trans (if_pos c_5)
        exact hex sold N_ _ _ _ (ob_X3_planEvenings_63_x2 nb nn day M hp0 n sold N_ hmu hinv c_5) hres hP hS (lv_sub hl [0, 1, 2, 3] rfl)
      · replace hres := hres.trans (if_neg c_5)
        refine lv_iload_n hx hb dX3_planEvenings_10 rfl (lv_at hl 3 rfl) ?_
        refine x_callSi (As := [.int sold]) S hK hAm hD hP hS mt_J6_bitCount_0f7a4 wd_949 ⟨by decide, by decide⟩ (c_J6_bitCount_0f7a4 l nb nn g L N_ hD hL sold) rfl hl.1 (Nat.le_of_ble_eq_true rfl) ⟨Nat.zero_le _, Nat.zero_le _⟩ dX3_planEvenings_11 rfl (fun r_6 u H locs hp_ hP hS => ?_)
        obtain ⟨er_6, eu_⟩ := hp_
        rw [eu_] at hP
        clear eu_
        replace hres := xlet_n hres er_6
        refine lv_iload_n hx hb dX3_planEvenings_14 rfl (lv_at hl 2 rfl) ?_
        refine lv_iconst (v := 1) hx hb dX3_planEvenings_15 (by decide) ?_
        refine lv_iadd hx hb dX3_planEvenings_16 ?_
        refine lv_icmp_gt (tgt := 57) hx hb dX3_planEvenings_17 (by decide) (fun c_7 => ?_) (fun c_7 => ?_)
        · replace hres := hres.trans (if_pos c_7)
          obtain ⟨x3_8, ex3_8⟩ : ∃ z_ : Int32, z_ = sold + 1 := ⟨_, rfl⟩
          replace hres := xlet_n hres ex3_8
          refine lv_iinc (v := x3_8) (lv' := [(3, .int x3_8), (0, .ref (xad g 11 0)), (1, .ref (xad g 2 0)), (2, .int day)]) hx hb dX3_planEvenings_57 hl (k := 3) rfl (by rw [ex3_8]; rfl) (by decide) rfl (fun ls hl => ?_)
          refine lv_goto (tgt := 2) hx hb dX3_planEvenings_60 (by decide) ?_
          exact ih x3_8 N_ _ _ _ kx (ob_X3_planEvenings_2_mu_8 nb nn day M hp0 n sold N_ hmu hinv c_5 r_6 er_6 c_7 x3_8 ex3_8) (ob_X3_planEvenings_2_inv_8 nb nn day M hp0 n sold N_ hmu hinv c_5 r_6 er_6 c_7 x3_8 ex3_8) hres hP hS (lv_sub hl [1, 2, 3, 0] rfl) hex
        · replace hres := hres.trans (if_neg c_7)
          refine lv_iconst (v := 0) hx hb dX3_planEvenings_20 (by decide) ?_
          refine lv_istore (lv' := [(4, .int 0), (0, .ref (xad g 11 0)), (1, .ref (xad g 2 0)), (2, .int day), (3, .int sold)]) hx hb dX3_planEvenings_21 hl (by decide) rfl (fun ls hl => ?_)
          refine k_23 N_ sold (xmu (0 : Int32) 6 + 1) (0 : Int32) N_ _ _ _ _ (Nat.lt_succ_self _) (ob_X3_planEvenings_23_ini_8 nb nn day M hp0 n sold N_ hmu hinv c_5 r_6 er_6 c_7) hres hP hS (lv_sub hl [1, 2, 3, 4, 0] rfl) ?_
          clear hres hP hS hl
          intro town_9 M_10 H locs ls hiv_10 hres hP hS hl
          obtain ⟨x3_11, ex3_11⟩ : ∃ z_ : Int32, z_ = sold + 1 := ⟨_, rfl⟩
          replace hres := xlet_n hres ex3_11
          refine lv_iinc (v := x3_11) (lv' := [(3, .int x3_11), (0, .ref (xad g 11 0)), (1, .ref (xad g 2 0)), (2, .int day), (4, .int town_9)]) hx hb dX3_planEvenings_57 hl (k := 3) rfl (by rw [ex3_11]; rfl) (by decide) rfl (fun ls hl => ?_)
          refine lv_goto (tgt := 2) hx hb dX3_planEvenings_60 (by decide) ?_
          exact ih x3_11 M_10 _ _ _ kx (ob_X3_planEvenings_2_mu_11 nb nn day M hp0 n sold N_ hmu hinv c_5 r_6 er_6 c_7 town_9 M_10 hiv_10 x3_11 ex3_11) (ob_X3_planEvenings_2_inv_11 nb nn day M hp0 n sold N_ hmu hinv c_5 r_6 er_6 c_7 town_9 M_10 hiv_10 x3_11 ex3_11) hres hP hS (lv_sub hl [1, 2, 3, 0] rfl) hex
  have hres := hF
  rw [f_X3_planEvenings] at hres
  refine lv_iconst (v := 0) hx hb dX3_planEvenings_0 (by decide) ?_
  refine lv_istore_n (lv' := [(3, .int 0), (0, .ref (xad g 11 0)), (1, .ref (xad g 2 0)), (2, .int day)]) hx hb dX3_planEvenings_1 rfl hl (by decide) rfl (fun ls hl => ?_)
  refine k_2 (xmu (0 : Int32) (M 11 0 4) + 1) (0 : Int32) M _ _ _ _ (Nat.lt_succ_self _) (ob_X3_planEvenings_2_ini_11 nb nn day M hp0) hres hP hS (lv_sub hl [1, 2, 3, 0] rfl) ?_
  clear hres hP hS hl
  intro sold_12 M_13 H locs ls hiv_13 hres hP hS hl
  exact x_retv hx hb hr hlk hP hS (hres.symm.trans hF) dX3_planEvenings_63
set_option maxHeartbeats 4000000 in
set_option maxRecDepth 100000 in
theorem c_X3_keepIfMore (l : Launch) (nb nn : Nat) (g : xG) (L : List (Nat × Nat)) (M : xM) (hD : xD g L) (hL : xEL nb nn L) (to : Int32) (place : Int32) (gold : Int32)  : xCv l yX3_keepIfMore cX3_keepIfMore 4 0 g L M [.ref (xad g 11 0), .int to, .int place, .int gold] (fun u => u = f_X3_keepIfMore to place gold M) := by
  intro sz
  refine x_beg (by decide +kernel) rfl ?_
  intro p e s m args below meth c ls hsz hB
  subst hsz
  obtain ⟨hx, hb, hml, hown, hts, hr, hlk, hK, hAm, hP, hl⟩ := hB
  have S : CallFix p m c cX3_keepIfMore 4 s args (xws yX3_keepIfMore cX3_keepIfMore 4 none) RX3 := ⟨hx, hb, hml, hown, hts⟩
  have hown : s.vm.findClass RX3 = some m.cls := hown
  have hl : lv_has ls 4 [(0, .ref (xad g 11 0)), (1, .int to), (2, .int place), (3, .int gold)] := hl
  have hS : va_S (xA g L s.heap.size) s.heap s.heap [] := va_S.rf
  obtain ⟨F, hF⟩ : ∃ F, F = f_X3_keepIfMore to place gold M := ⟨_, rfl⟩
  have hres := hF
  rw [f_X3_keepIfMore] at hres
  refine lv_iload_n hx hb dX3_keepIfMore_0 rfl (lv_at hl 3 rfl) ?_
  refine lv_aload_n hx hb dX3_keepIfMore_1 rfl (lv_at hl 0 rfl) ?_
  refine gf_RX3_28 hx hb hts hown hK hP (hL 11 0 (xe_11 nb nn)) dX3_keepIfMore_2 ?_
  refine lv_icmp_le (tgt := 23) hx hb dX3_keepIfMore_5 (by decide) (fun c_1 => ?_) (fun c_1 => ?_)
  · replace hres := hres.trans (if_pos c_1)
    exact x_retv hx hb hr hlk hP hS (hres.symm.trans hF) dX3_keepIfMore_23
  · replace hres := hres.trans (if_neg c_1)
    refine lv_aload_n hx hb dX3_keepIfMore_8 rfl (lv_at hl 0 rfl) ?_
    refine lv_iload_n hx hb dX3_keepIfMore_9 rfl (lv_at hl 3 rfl) ?_
    refine pf_RX3_28 hx hb hts hown hK hP hD hS (hL 11 0 (xe_11 nb nn)) dX3_keepIfMore_10 (fun H locs hP hS => ?_)
    obtain ⟨M_2, eM_2⟩ : ∃ z_ : xM, z_ = xup M 11 0 5 gold := ⟨_, rfl⟩
    rw [← eM_2] at hP
    replace hres := xlet_n hres eM_2
    refine lv_aload_n hx hb dX3_keepIfMore_13 rfl (lv_at hl 0 rfl) ?_
    refine lv_bipush (v := 16) hx hb dX3_keepIfMore_14 (by decide) ?_
    refine lv_iload_n hx hb dX3_keepIfMore_16 rfl (lv_at hl 1 rfl) ?_
    refine lv_imul hx hb dX3_keepIfMore_17 ?_
    refine lv_iload_n hx hb dX3_keepIfMore_18 rfl (lv_at hl 2 rfl) ?_
    refine lv_iadd hx hb dX3_keepIfMore_19 ?_
    refine lv_topi (fun v_3 ev_3 => ?_)
    replace hres := xlet_n hres ev_3
    refine pf_RX3_31 hx hb hts hown hK hP hD hS (hL 11 0 (xe_11 nb nn)) dX3_keepIfMore_20 (fun H locs hP hS => ?_)
    obtain ⟨M_4, eM_4⟩ : ∃ z_ : xM, z_ = xup M_2 11 0 6 v_3 := ⟨_, rfl⟩
    rw [← eM_4] at hP
    replace hres := xlet_n hres eM_4
    exact x_retv hx hb hr hlk hP hS (hres.symm.trans hF) dX3_keepIfMore_23
