def f_X3_chooseFirst_L39 (town : Int32) (goesOn : Int32) (to : Int32) : Nat → Int32 → xM → (Int32 → xM → xM) → xM
  | 0, _, N_, _ => N_
  | n + 1, place, N_, kx => if (N_ 11 0 3) ≤ place then kx place N_ else if goesOn = 0 then xlet (f_X3_keepIfMore to place ((N_ 20 0 ((town * 8) + place).toNatClampNeg) + 0) N_) fun M_4 => xlet (place + 1) fun x5_5 => f_X3_chooseFirst_L39 town goesOn to n x5_5 M_4 kx else xlet (N_ 21 0 ((to * 256) + ((1 : Int32) <<< (place &&& 31))).toNatClampNeg) fun x6_6 => xlet (f_X3_keepIfMore to place ((N_ 20 0 ((town * 8) + place).toNatClampNeg) + x6_6) N_) fun M_8 => xlet (place + 1) fun x5_9 => f_X3_chooseFirst_L39 town goesOn to n x5_9 M_8 kx
def f_X3_chooseFirst_L9 (town : Int32) (goesOn : Int32) : Nat → Int32 → xM → (Int32 → xM → xM) → xM
  | 0, _, N_, _ => N_
  | n + 1, to, N_, kx => if 6 ≤ to then kx to N_ else if to = town then f_X3_chooseFirst_L39 town goesOn to (xmu (0 : Int32) (N_ 11 0 3) + 1) (0 : Int32) N_ (fun place_12 M_13 => if goesOn = 0 then xlet (f_X3_keepIfMore to 15 0 M_13) fun M_16 => xlet (to + 1) fun x4_17 => f_X3_chooseFirst_L9 town goesOn n x4_17 M_16 kx else xlet (f_X3_keepIfMore to 15 (M_13 21 0 (to * 256).toNatClampNeg) M_13) fun M_19 => xlet (to + 1) fun x4_20 => f_X3_chooseFirst_L9 town goesOn n x4_20 M_19 kx) else if goesOn = 0 then xlet (to + 1) fun x4_22 => f_X3_chooseFirst_L9 town goesOn n x4_22 N_ kx else xlet (f_X5_milesBetween town to N_) fun r_23 => if r_23 ≤ 0 then xlet (to + 1) fun x4_25 => f_X3_chooseFirst_L9 town goesOn n x4_25 N_ kx else f_X3_chooseFirst_L39 town goesOn to (xmu (0 : Int32) (N_ 11 0 3) + 1) (0 : Int32) N_ (fun place_26 M_27 => xlet (f_X3_keepIfMore to 15 (M_27 21 0 (to * 256).toNatClampNeg) M_27) fun M_30 => xlet (to + 1) fun x4_31 => f_X3_chooseFirst_L9 town goesOn n x4_31 M_30 kx)
def f_X3_chooseFirst (town : Int32) (goesOn : Int32) (M : xM) : xM :=
  xlet (xup M 11 0 5 (-1000000)) fun M_32 => f_X3_chooseFirst_L9 town goesOn (xmu (0 : Int32) 6 + 1) (0 : Int32) M_32 (fun to_33 M_34 => M_34)
def f_X3_plan_L30 (town : Int32) (z : Int32) (days : Int32) : Nat → Int32 → xM → (Int32 → xM → xM) → xM
  | 0, _, N_, _ => N_
  | n + 1, day, N_, kx => if day ≤ 0 then kx day N_ else xlet (f_X3_planMornings day N_) fun M_3 => if day ≤ 1 then xlet (day + (-1)) fun x5_5 => f_X3_plan_L30 town z days n x5_5 M_3 kx else xlet (f_X3_planEvenings (day - 1) M_3) fun M_7 => xlet (day + (-1)) fun x5_8 => f_X3_plan_L30 town z days n x5_8 M_7 kx
def f_X3_plan (town : Int32) (z : Int32) (days : Int32) (M : xM) : xM :=
  xlet (if 8 < z then 8 else z) fun v_9 => xlet (xup M 11 0 3 v_9) fun M_10 => xlet ((1 : Int32) <<< ((M_10 11 0 3) &&& 31)) fun v_11 => xlet (xup M_10 11 0 4 v_11) fun M_12 => xlet (f_X3_endTheWay M_12) fun M_14 => xlet (days - 1) fun x5_15 => f_X3_plan_L30 town z days (xmu 0 x5_15 + 1) x5_15 M_14 (fun day_16 M_17 => if days ≤ 1 then xlet (f_X3_chooseFirst town 0 M_17) fun M_20 => M_20 else xlet (f_X3_chooseFirst town 1 M_17) fun M_22 => M_22)
def f_X10_sheetOf (q : Int32) (M : xM) : Option Nat :=
  xlet (xb (f_X10_isUpTo q 7 M)) fun r_1 => if r_1 = 0 then none else some (q.toNatClampNeg)
def f_X10_traderOf (q : Int32) (M : xM) : Option Nat :=
  xlet (xb (f_X10_isUpTo q 7 M)) fun r_1 => if r_1 = 0 then none else some (q.toNatClampNeg)
def f_X10_bankOf (q : Int32) (M : xM) : Option Nat :=
  xlet (xb (f_X10_isUpTo q ((M 0 0 12) - 1) M)) fun r_1 => if r_1 = 0 then none else if 8 ≤ q then none else some (q.toNatClampNeg)
def f_X10_noteOf (q : Int32) (M : xM) : Option Nat :=
  xlet (xb (f_X10_isUpTo q ((M 0 0 13) - 1) M)) fun r_1 => if r_1 = 0 then none else if 24 ≤ q then none else some (q.toNatClampNeg)
def f_X10_found (finding : Int32) (M : xM) : Int32 × xM :=
  xlet (xup M 0 0 16 finding) fun M_1 => (((-1000010) - finding), M_1)
def f_X10_foundNothing (answer : Int32) (M : xM) : Int32 × xM :=
  xlet (xup M 0 0 16 0) fun M_1 => (answer, M_1)
theorem ob_X3_chooseFirst_103_x39 (nb nn : Nat) (town : Int32) (goesOn : Int32) (M : xM) (hp0 : 0 ≤ town) (hp1 : town < 6) (hp2 : M 11 0 3 ≤ 8) (to : Int32) (n : Nat) (place : Int32) (N_ : xM) (hmu : xmu place (N_ 11 0 3) < n + 1) (hinv : 0 ≤ to ∧ to < 6 ∧ 0 ≤ place ∧ N_ 11 0 3 ≤ 8) (c_1 : (N_ 11 0 3) ≤ place) : 0 ≤ to ∧ to < 6 ∧ 0 ≤ place ∧ N_ 11 0 3 ≤ 8 := by
  subst_vars
  grind [xup_at, xb, shl8, kim3]
theorem ob_X3_chooseFirst_90_in (nb nn : Nat) (town : Int32) (goesOn : Int32) (M : xM) (hp0 : 0 ≤ town) (hp1 : town < 6) (hp2 : M 11 0 3 ≤ 8) (to : Int32) (n : Nat) (place : Int32) (N_ : xM) (hmu : xmu place (N_ 11 0 3) < n + 1) (hinv : 0 ≤ to ∧ to < 6 ∧ 0 ≤ place ∧ N_ 11 0 3 ≤ 8) (c_1 : ¬ (N_ 11 0 3) ≤ place) (c_2 : goesOn = 0) : vp_in ((town * 8) + place) 48 := by
  subst_vars
  exact xin (N := 48) (by grind [xup_at, xb, shl8, kim3]) (by grind [xup_at, xb, shl8, kim3]) (by decide)
theorem ob_X3_chooseFirst_39_mu_5 (nb nn : Nat) (town : Int32) (goesOn : Int32) (M : xM) (hp0 : 0 ≤ town) (hp1 : town < 6) (hp2 : M 11 0 3 ≤ 8) (to : Int32) (n : Nat) (place : Int32) (N_ : xM) (hmu : xmu place (N_ 11 0 3) < n + 1) (hinv : 0 ≤ to ∧ to < 6 ∧ 0 ≤ place ∧ N_ 11 0 3 ≤ 8) (c_1 : ¬ (N_ 11 0 3) ≤ place) (c_2 : goesOn = 0) (M_4 : xM) (eM_4 : M_4 = f_X3_keepIfMore to place ((N_ 20 0 ((town * 8) + place).toNatClampNeg) + 0) N_) (x5_5 : Int32) (ex5_5 : x5_5 = place + 1) : xmu x5_5 (M_4 11 0 3) < n := by
  subst_vars
  have h9 := xmu_up (a := place) (b := N_ 11 0 3) (by grind)
  rw [kim3]
  omega
theorem ob_X3_chooseFirst_39_inv_5 (nb nn : Nat) (town : Int32) (goesOn : Int32) (M : xM) (hp0 : 0 ≤ town) (hp1 : town < 6) (hp2 : M 11 0 3 ≤ 8) (to : Int32) (n : Nat) (place : Int32) (N_ : xM) (hmu : xmu place (N_ 11 0 3) < n + 1) (hinv : 0 ≤ to ∧ to < 6 ∧ 0 ≤ place ∧ N_ 11 0 3 ≤ 8) (c_1 : ¬ (N_ 11 0 3) ≤ place) (c_2 : goesOn = 0) (M_4 : xM) (eM_4 : M_4 = f_X3_keepIfMore to place ((N_ 20 0 ((town * 8) + place).toNatClampNeg) + 0) N_) (x5_5 : Int32) (ex5_5 : x5_5 = place + 1) : 0 ≤ to ∧ to < 6 ∧ 0 ≤ x5_5 ∧ M_4 11 0 3 ≤ 8 := by
  subst_vars
  grind [xup_at, xb, shl8, kim3]
theorem ob_X3_chooseFirst_67_in (nb nn : Nat) (town : Int32) (goesOn : Int32) (M : xM) (hp0 : 0 ≤ town) (hp1 : town < 6) (hp2 : M 11 0 3 ≤ 8) (to : Int32) (n : Nat) (place : Int32) (N_ : xM) (hmu : xmu place (N_ 11 0 3) < n + 1) (hinv : 0 ≤ to ∧ to < 6 ∧ 0 ≤ place ∧ N_ 11 0 3 ≤ 8) (c_1 : ¬ (N_ 11 0 3) ≤ place) (c_2 : ¬ goesOn = 0) : vp_in ((to * 256) + ((1 : Int32) <<< (place &&& 31))) 1536 := by
  subst_vars
  exact xin (N := 1536) (by grind [xup_at, xb, shl8, kim3]) (by grind [xup_at, xb, shl8, kim3]) (by decide)
theorem ob_X3_chooseFirst_90_in_2 (nb nn : Nat) (town : Int32) (goesOn : Int32) (M : xM) (hp0 : 0 ≤ town) (hp1 : town < 6) (hp2 : M 11 0 3 ≤ 8) (to : Int32) (n : Nat) (place : Int32) (N_ : xM) (hmu : xmu place (N_ 11 0 3) < n + 1) (hinv : 0 ≤ to ∧ to < 6 ∧ 0 ≤ place ∧ N_ 11 0 3 ≤ 8) (c_1 : ¬ (N_ 11 0 3) ≤ place) (c_2 : ¬ goesOn = 0) (x6_6 : Int32) (ex6_6 : x6_6 = (N_ 21 0 ((to * 256) + ((1 : Int32) <<< (place &&& 31))).toNatClampNeg)) : vp_in ((town * 8) + place) 48 := by
  subst_vars
  exact xin (N := 48) (by grind [xup_at, xb, shl8, kim3]) (by grind [xup_at, xb, shl8, kim3]) (by decide)
theorem ob_X3_chooseFirst_39_mu_9 (nb nn : Nat) (town : Int32) (goesOn : Int32) (M : xM) (hp0 : 0 ≤ town) (hp1 : town < 6) (hp2 : M 11 0 3 ≤ 8) (to : Int32) (n : Nat) (place : Int32) (N_ : xM) (hmu : xmu place (N_ 11 0 3) < n + 1) (hinv : 0 ≤ to ∧ to < 6 ∧ 0 ≤ place ∧ N_ 11 0 3 ≤ 8) (c_1 : ¬ (N_ 11 0 3) ≤ place) (c_2 : ¬ goesOn = 0) (x6_6 : Int32) (ex6_6 : x6_6 = (N_ 21 0 ((to * 256) + ((1 : Int32) <<< (place &&& 31))).toNatClampNeg)) (M_8 : xM) (eM_8 : M_8 = f_X3_keepIfMore to place ((N_ 20 0 ((town * 8) + place).toNatClampNeg) + x6_6) N_) (x5_9 : Int32) (ex5_9 : x5_9 = place + 1) : xmu x5_9 (M_8 11 0 3) < n := by
  subst_vars
  have h9 := xmu_up (a := place) (b := N_ 11 0 3) (by grind)
  rw [kim3]
  omega
theorem ob_X3_chooseFirst_39_inv_9 (nb nn : Nat) (town : Int32) (goesOn : Int32) (M : xM) (hp0 : 0 ≤ town) (hp1 : town < 6) (hp2 : M 11 0 3 ≤ 8) (to : Int32) (n : Nat) (place : Int32) (N_ : xM) (hmu : xmu place (N_ 11 0 3) < n + 1) (hinv : 0 ≤ to ∧ to < 6 ∧ 0 ≤ place ∧ N_ 11 0 3 ≤ 8) (c_1 : ¬ (N_ 11 0 3) ≤ place) (c_2 : ¬ goesOn = 0) (x6_6 : Int32) (ex6_6 : x6_6 = (N_ 21 0 ((to * 256) + ((1 : Int32) <<< (place &&& 31))).toNatClampNeg)) (M_8 : xM) (eM_8 : M_8 = f_X3_keepIfMore to place ((N_ 20 0 ((town * 8) + place).toNatClampNeg) + x6_6) N_) (x5_9 : Int32) (ex5_9 : x5_9 = place + 1) : 0 ≤ to ∧ to < 6 ∧ 0 ≤ x5_9 ∧ M_8 11 0 3 ≤ 8 := by
  subst_vars
  grind [xup_at, xb, shl8, kim3]
theorem ob_X3_chooseFirst_136_x9 (nb nn : Nat) (town : Int32) (goesOn : Int32) (M : xM) (hp0 : 0 ≤ town) (hp1 : town < 6) (hp2 : M 11 0 3 ≤ 8) (n : Nat) (to : Int32) (N_ : xM) (hmu : xmu to 6 < n + 1) (hinv : 0 ≤ to ∧ N_ 11 0 3 ≤ 8) (c_10 : 6 ≤ to) : 0 ≤ to ∧ N_ 11 0 3 ≤ 8 := by
  subst_vars
  grind [xup_at, xb, shl8, kim3]
theorem ob_X3_chooseFirst_39_ini_11 (nb nn : Nat) (town : Int32) (goesOn : Int32) (M : xM) (hp0 : 0 ≤ town) (hp1 : town < 6) (hp2 : M 11 0 3 ≤ 8) (n : Nat) (to : Int32) (N_ : xM) (hmu : xmu to 6 < n + 1) (hinv : 0 ≤ to ∧ N_ 11 0 3 ≤ 8) (c_10 : ¬ 6 ≤ to) (c_11 : to = town) : 0 ≤ to ∧ to < 6 ∧ 0 ≤ (0 : Int32) ∧ N_ 11 0 3 ≤ 8 := by
  subst_vars
  grind [xup_at, xb, shl8, kim3]
theorem ob_X3_chooseFirst_9_mu_17 (nb nn : Nat) (town : Int32) (goesOn : Int32) (M : xM) (hp0 : 0 ≤ town) (hp1 : town < 6) (hp2 : M 11 0 3 ≤ 8) (n : Nat) (to : Int32) (N_ : xM) (hmu : xmu to 6 < n + 1) (hinv : 0 ≤ to ∧ N_ 11 0 3 ≤ 8) (c_10 : ¬ 6 ≤ to) (c_11 : to = town) (place_12 : Int32) (M_13 : xM) (hiv_13 : 0 ≤ to ∧ to < 6 ∧ 0 ≤ place_12 ∧ M_13 11 0 3 ≤ 8) (c_14 : goesOn = 0) (M_16 : xM) (eM_16 : M_16 = f_X3_keepIfMore to 15 0 M_13) (x4_17 : Int32) (ex4_17 : x4_17 = to + 1) : xmu x4_17 6 < n := by
  subst_vars
  have h9 := xmu_up (a := to) (b := 6) (by grind)
  (try simp [xup_at])
  omega
theorem ob_X3_chooseFirst_9_inv_17 (nb nn : Nat) (town : Int32) (goesOn : Int32) (M : xM) (hp0 : 0 ≤ town) (hp1 : town < 6) (hp2 : M 11 0 3 ≤ 8) (n : Nat) (to : Int32) (N_ : xM) (hmu : xmu to 6 < n + 1) (hinv : 0 ≤ to ∧ N_ 11 0 3 ≤ 8) (c_10 : ¬ 6 ≤ to) (c_11 : to = town) (place_12 : Int32) (M_13 : xM) (hiv_13 : 0 ≤ to ∧ to < 6 ∧ 0 ≤ place_12 ∧ M_13 11 0 3 ≤ 8) (c_14 : goesOn = 0) (M_16 : xM) (eM_16 : M_16 = f_X3_keepIfMore to 15 0 M_13) (x4_17 : Int32) (ex4_17 : x4_17 = to + 1) : 0 ≤ x4_17 ∧ M_16 11 0 3 ≤ 8 := by
  subst_vars
  grind [xup_at, xb, shl8, kim3]
theorem ob_X3_chooseFirst_122_in (nb nn : Nat) (town : Int32) (goesOn : Int32) (M : xM) (hp0 : 0 ≤ town) (hp1 : town < 6) (hp2 : M 11 0 3 ≤ 8) (n : Nat) (to : Int32) (N_ : xM) (hmu : xmu to 6 < n + 1) (hinv : 0 ≤ to ∧ N_ 11 0 3 ≤ 8) (c_10 : ¬ 6 ≤ to) (c_11 : to = town) (place_12 : Int32) (M_13 : xM) (hiv_13 : 0 ≤ to ∧ to < 6 ∧ 0 ≤ place_12 ∧ M_13 11 0 3 ≤ 8) (c_14 : ¬ goesOn = 0) : vp_in (to * 256) 1536 := by
  subst_vars
  exact xin (N := 1536) (by grind [xup_at, xb, shl8, kim3]) (by grind [xup_at, xb, shl8, kim3]) (by decide)
theorem ob_X3_chooseFirst_9_mu_20 (nb nn : Nat) (town : Int32) (goesOn : Int32) (M : xM) (hp0 : 0 ≤ town) (hp1 : town < 6) (hp2 : M 11 0 3 ≤ 8) (n : Nat) (to : Int32) (N_ : xM) (hmu : xmu to 6 < n + 1) (hinv : 0 ≤ to ∧ N_ 11 0 3 ≤ 8) (c_10 : ¬ 6 ≤ to) (c_11 : to = town) (place_12 : Int32) (M_13 : xM) (hiv_13 : 0 ≤ to ∧ to < 6 ∧ 0 ≤ place_12 ∧ M_13 11 0 3 ≤ 8) (c_14 : ¬ goesOn = 0) (M_19 : xM) (eM_19 : M_19 = f_X3_keepIfMore to 15 (M_13 21 0 (to * 256).toNatClampNeg) M_13) (x4_20 : Int32) (ex4_20 : x4_20 = to + 1) : xmu x4_20 6 < n := by
  subst_vars
  have h9 := xmu_up (a := to) (b := 6) (by grind)
  (try simp [xup_at])
  omega
theorem ob_X3_chooseFirst_9_inv_20 (nb nn : Nat) (town : Int32) (goesOn : Int32) (M : xM) (hp0 : 0 ≤ town) (hp1 : town < 6) (hp2 : M 11 0 3 ≤ 8) (n : Nat) (to : Int32) (N_ : xM) (hmu : xmu to 6 < n + 1) (hinv : 0 ≤ to ∧ N_ 11 0 3 ≤ 8) (c_10 : ¬ 6 ≤ to) (c_11 : to = town) (place_12 : Int32) (M_13 : xM) (hiv_13 : 0 ≤ to ∧ to < 6 ∧ 0 ≤ place_12 ∧ M_13 11 0 3 ≤ 8) (c_14 : ¬ goesOn = 0) (M_19 : xM) (eM_19 : M_19 = f_X3_keepIfMore to 15 (M_13 21 0 (to * 256).toNatClampNeg) M_13) (x4_20 : Int32) (ex4_20 : x4_20 = to + 1) : 0 ≤ x4_20 ∧ M_19 11 0 3 ≤ 8 := by
  subst_vars
  grind [xup_at, xb, shl8, kim3]
theorem ob_X3_chooseFirst_9_mu_22 (nb nn : Nat) (town : Int32) (goesOn : Int32) (M : xM) (hp0 : 0 ≤ town) (hp1 : town < 6) (hp2 : M 11 0 3 ≤ 8) (n : Nat) (to : Int32) (N_ : xM) (hmu : xmu to 6 < n + 1) (hinv : 0 ≤ to ∧ N_ 11 0 3 ≤ 8) (c_10 : ¬ 6 ≤ to) (c_11 : ¬ to = town) (c_21 : goesOn = 0) (x4_22 : Int32) (ex4_22 : x4_22 = to + 1) : xmu x4_22 6 < n := by
  subst_vars
  have h9 := xmu_up (a := to) (b := 6) (by grind)
  (try simp [xup_at])
  omega
theorem ob_X3_chooseFirst_9_inv_22 (nb nn : Nat) (town : Int32) (goesOn : Int32) (M : xM) (hp0 : 0 ≤ town) (hp1 : town < 6) (hp2 : M 11 0 3 ≤ 8) (n : Nat) (to : Int32) (N_ : xM) (hmu : xmu to 6 < n + 1) (hinv : 0 ≤ to ∧ N_ 11 0 3 ≤ 8) (c_10 : ¬ 6 ≤ to) (c_11 : ¬ to = town) (c_21 : goesOn = 0) (x4_22 : Int32) (ex4_22 : x4_22 = to + 1) : 0 ≤ x4_22 ∧ N_ 11 0 3 ≤ 8 := by
  subst_vars
  grind [xup_at, xb, shl8, kim3]
theorem ob_X3_chooseFirst_30_p0 (nb nn : Nat) (town : Int32) (goesOn : Int32) (M : xM) (hp0 : 0 ≤ town) (hp1 : town < 6) (hp2 : M 11 0 3 ≤ 8) (n : Nat) (to : Int32) (N_ : xM) (hmu : xmu to 6 < n + 1) (hinv : 0 ≤ to ∧ N_ 11 0 3 ≤ 8) (c_10 : ¬ 6 ≤ to) (c_11 : ¬ to = town) (c_21 : ¬ goesOn = 0) : 0 ≤ town := by
  subst_vars
  grind [xup_at, xb, shl8, kim3]
theorem ob_X3_chooseFirst_30_p1 (nb nn : Nat) (town : Int32) (goesOn : Int32) (M : xM) (hp0 : 0 ≤ town) (hp1 : town < 6) (hp2 : M 11 0 3 ≤ 8) (n : Nat) (to : Int32) (N_ : xM) (hmu : xmu to 6 < n + 1) (hinv : 0 ≤ to ∧ N_ 11 0 3 ≤ 8) (c_10 : ¬ 6 ≤ to) (c_11 : ¬ to = town) (c_21 : ¬ goesOn = 0) : town < 6 := by
  subst_vars
  grind [xup_at, xb, shl8, kim3]
theorem ob_X3_chooseFirst_30_p2 (nb nn : Nat) (town : Int32) (goesOn : Int32) (M : xM) (hp0 : 0 ≤ town) (hp1 : town < 6) (hp2 : M 11 0 3 ≤ 8) (n : Nat) (to : Int32) (N_ : xM) (hmu : xmu to 6 < n + 1) (hinv : 0 ≤ to ∧ N_ 11 0 3 ≤ 8) (c_10 : ¬ 6 ≤ to) (c_11 : ¬ to = town) (c_21 : ¬ goesOn = 0) : 0 ≤ to := by
  subst_vars
  grind [xup_at, xb, shl8, kim3]
theorem ob_X3_chooseFirst_30_p3 (nb nn : Nat) (town : Int32) (goesOn : Int32) (M : xM) (hp0 : 0 ≤ town) (hp1 : town < 6) (hp2 : M 11 0 3 ≤ 8) (n : Nat) (to : Int32) (N_ : xM) (hmu : xmu to 6 < n + 1) (hinv : 0 ≤ to ∧ N_ 11 0 3 ≤ 8) (c_10 : ¬ 6 ≤ to) (c_11 : ¬ to = town) (c_21 : ¬ goesOn = 0) : to < 6 := by
  subst_vars
  grind [xup_at, xb, shl8, kim3]
theorem ob_X3_chooseFirst_9_mu_25 (nb nn : Nat) (town : Int32) (goesOn : Int32) (M : xM) (hp0 : 0 ≤ town) (hp1 : town < 6) (hp2 : M 11 0 3 ≤ 8) (n : Nat) (to : Int32) (N_ : xM) (hmu : xmu to 6 < n + 1) (hinv : 0 ≤ to ∧ N_ 11 0 3 ≤ 8) (c_10 : ¬ 6 ≤ to) (c_11 : ¬ to = town) (c_21 : ¬ goesOn = 0) (r_23 : Int32) (er_23 : r_23 = f_X5_milesBetween town to N_) (c_24 : r_23 ≤ 0) (x4_25 : Int32) (ex4_25 : x4_25 = to + 1) : xmu x4_25 6 < n := by
  subst_vars
  have h9 := xmu_up (a := to) (b := 6) (by grind)
  (try simp [xup_at])
  omega
theorem ob_X3_chooseFirst_9_inv_25 (nb nn : Nat) (town : Int32) (goesOn : Int32) (M : xM) (hp0 : 0 ≤ town) (hp1 : town < 6) (hp2 : M 11 0 3 ≤ 8) (n : Nat) (to : Int32) (N_ : xM) (hmu : xmu to 6 < n + 1) (hinv : 0 ≤ to ∧ N_ 11 0 3 ≤ 8) (c_10 : ¬ 6 ≤ to) (c_11 : ¬ to = town) (c_21 : ¬ goesOn = 0) (r_23 : Int32) (er_23 : r_23 = f_X5_milesBetween town to N_) (c_24 : r_23 ≤ 0) (x4_25 : Int32) (ex4_25 : x4_25 = to + 1) : 0 ≤ x4_25 ∧ N_ 11 0 3 ≤ 8 := by
  subst_vars
  grind [xup_at, xb, shl8, kim3]
theorem ob_X3_chooseFirst_39_ini_25 (nb nn : Nat) (town : Int32) (goesOn : Int32) (M : xM) (hp0 : 0 ≤ town) (hp1 : town < 6) (hp2 : M 11 0 3 ≤ 8) (n : Nat) (to : Int32) (N_ : xM) (hmu : xmu to 6 < n + 1) (hinv : 0 ≤ to ∧ N_ 11 0 3 ≤ 8) (c_10 : ¬ 6 ≤ to) (c_11 : ¬ to = town) (c_21 : ¬ goesOn = 0) (r_23 : Int32) (er_23 : r_23 = f_X5_milesBetween town to N_) (c_24 : ¬ r_23 ≤ 0) : 0 ≤ to ∧ to < 6 ∧ 0 ≤ (0 : Int32) ∧ N_ 11 0 3 ≤ 8 := by
  subst_vars
  grind [xup_at, xb, shl8, kim3]
theorem ob_X3_chooseFirst_122_in_2 (nb nn : Nat) (town : Int32) (goesOn : Int32) (M : xM) (hp0 : 0 ≤ town) (hp1 : town < 6) (hp2 : M 11 0 3 ≤ 8) (n : Nat) (to : Int32) (N_ : xM) (hmu : xmu to 6 < n + 1) (hinv : 0 ≤ to ∧ N_ 11 0 3 ≤ 8) (c_10 : ¬ 6 ≤ to) (c_11 : ¬ to = town) (c_21 : ¬ goesOn = 0) (r_23 : Int32) (er_23 : r_23 = f_X5_milesBetween town to N_) (c_24 : ¬ r_23 ≤ 0) (place_26 : Int32) (M_27 : xM) (hiv_27 : 0 ≤ to ∧ to < 6 ∧ 0 ≤ place_26 ∧ M_27 11 0 3 ≤ 8) : vp_in (to * 256) 1536 := by
  subst_vars
  exact xin (N := 1536) (by grind [xup_at, xb, shl8, kim3]) (by grind [xup_at, xb, shl8, kim3]) (by decide)
theorem ob_X3_chooseFirst_9_mu_31 (nb nn : Nat) (town : Int32) (goesOn : Int32) (M : xM) (hp0 : 0 ≤ town) (hp1 : town < 6) (hp2 : M 11 0 3 ≤ 8) (n : Nat) (to : Int32) (N_ : xM) (hmu : xmu to 6 < n + 1) (hinv : 0 ≤ to ∧ N_ 11 0 3 ≤ 8) (c_10 : ¬ 6 ≤ to) (c_11 : ¬ to = town) (c_21 : ¬ goesOn = 0) (r_23 : Int32) (er_23 : r_23 = f_X5_milesBetween town to N_) (c_24 : ¬ r_23 ≤ 0) (place_26 : Int32) (M_27 : xM) (hiv_27 : 0 ≤ to ∧ to < 6 ∧ 0 ≤ place_26 ∧ M_27 11 0 3 ≤ 8) (M_30 : xM) (eM_30 : M_30 = f_X3_keepIfMore to 15 (M_27 21 0 (to * 256).toNatClampNeg) M_27) (x4_31 : Int32) (ex4_31 : x4_31 = to + 1) : xmu x4_31 6 < n := by
  subst_vars
  have h9 := xmu_up (a := to) (b := 6) (by grind)
  (try simp [xup_at])
  omega
theorem ob_X3_chooseFirst_9_inv_31 (nb nn : Nat) (town : Int32) (goesOn : Int32) (M : xM) (hp0 : 0 ≤ town) (hp1 : town < 6) (hp2 : M 11 0 3 ≤ 8) (n : Nat) (to : Int32) (N_ : xM) (hmu : xmu to 6 < n + 1) (hinv : 0 ≤ to ∧ N_ 11 0 3 ≤ 8) (c_10 : ¬ 6 ≤ to) (c_11 : ¬ to = town) (c_21 : ¬ goesOn = 0) (r_23 : Int32) (er_23 : r_23 = f_X5_milesBetween town to N_) (c_24 : ¬ r_23 ≤ 0) (place_26 : Int32) (M_27 : xM) (hiv_27 : 0 ≤ to ∧ to < 6 ∧ 0 ≤ place_26 ∧ M_27 11 0 3 ≤ 8) (M_30 : xM) (eM_30 : M_30 = f_X3_keepIfMore to 15 (M_27 21 0 (to * 256).toNatClampNeg) M_27) (x4_31 : Int32) (ex4_31 : x4_31 = to + 1) : 0 ≤ x4_31 ∧ M_30 11 0 3 ≤ 8 := by
  subst_vars
  grind [xup_at, xb, shl8, kim3]
theorem ob_X3_chooseFirst_9_ini_32 (nb nn : Nat) (town : Int32) (goesOn : Int32) (M : xM) (hp0 : 0 ≤ town) (hp1 : town < 6) (hp2 : M 11 0 3 ≤ 8) (M_32 : xM) (eM_32 : M_32 = xup M 11 0 5 (-1000000)) : 0 ≤ (0 : Int32) ∧ M_32 11 0 3 ≤ 8 := by
  subst_vars
  grind [xup_at, xb, shl8, kim3]
theorem ob_X3_plan_62_x30 (nb nn : Nat) (town : Int32) (z : Int32) (days : Int32) (M : xM) (hp0 : 0 ≤ town) (hp1 : town < 6) (hp2 : 1 ≤ z) (n : Nat) (day : Int32) (N_ : xM) (hmu : xmu 0 day < n + 1) (hinv : N_ 11 0 4 ≤ 256 ∧ N_ 11 0 3 ≤ 8) (c_1 : day ≤ 0) : N_ 11 0 4 ≤ 256 ∧ N_ 11 0 3 ≤ 8 := by
  subst_vars
  grind [xup_at, xb, shl9, etw3, etw4, pm3, pm4, pe3, pe4]
theorem ob_X3_plan_38_p0 (nb nn : Nat) (town : Int32) (z : Int32) (days : Int32) (M : xM) (hp0 : 0 ≤ town) (hp1 : town < 6) (hp2 : 1 ≤ z) (n : Nat) (day : Int32) (N_ : xM) (hmu : xmu 0 day < n + 1) (hinv : N_ 11 0 4 ≤ 256 ∧ N_ 11 0 3 ≤ 8) (c_1 : ¬ day ≤ 0) : N_ 11 0 4 ≤ 256 := by
  subst_vars
  grind [xup_at, xb, shl9, etw3, etw4, pm3, pm4, pe3, pe4]
theorem ob_X3_plan_38_p1 (nb nn : Nat) (town : Int32) (z : Int32) (days : Int32) (M : xM) (hp0 : 0 ≤ town) (hp1 : town < 6) (hp2 : 1 ≤ z) (n : Nat) (day : Int32) (N_ : xM) (hmu : xmu 0 day < n + 1) (hinv : N_ 11 0 4 ≤ 256 ∧ N_ 11 0 3 ≤ 8) (c_1 : ¬ day ≤ 0) : N_ 11 0 3 ≤ 8 := by
  subst_vars
  grind [xup_at, xb, shl9, etw3, etw4, pm3, pm4, pe3, pe4]
theorem ob_X3_plan_30_mu_5 (nb nn : Nat) (town : Int32) (z : Int32) (days : Int32) (M : xM) (hp0 : 0 ≤ town) (hp1 : town < 6) (hp2 : 1 ≤ z) (n : Nat) (day : Int32) (N_ : xM) (hmu : xmu 0 day < n + 1) (hinv : N_ 11 0 4 ≤ 256 ∧ N_ 11 0 3 ≤ 8) (c_1 : ¬ day ≤ 0) (M_3 : xM) (eM_3 : M_3 = f_X3_planMornings day N_) (c_4 : day ≤ 1) (x5_5 : Int32) (ex5_5 : x5_5 = day + (-1)) : xmu 0 x5_5 < n := by
  subst_vars
  have h9 := xmu_dn (a := day) (b := 0) (by grind)
  (try simp [xup_at])
  omega
theorem ob_X3_plan_30_inv_5 (nb nn : Nat) (town : Int32) (z : Int32) (days : Int32) (M : xM) (hp0 : 0 ≤ town) (hp1 : town < 6) (hp2 : 1 ≤ z) (n : Nat) (day : Int32) (N_ : xM) (hmu : xmu 0 day < n + 1) (hinv : N_ 11 0 4 ≤ 256 ∧ N_ 11 0 3 ≤ 8) (c_1 : ¬ day ≤ 0) (M_3 : xM) (eM_3 : M_3 = f_X3_planMornings day N_) (c_4 : day ≤ 1) (x5_5 : Int32) (ex5_5 : x5_5 = day + (-1)) : M_3 11 0 4 ≤ 256 ∧ M_3 11 0 3 ≤ 8 := by
  subst_vars
  grind [xup_at, xb, shl9, etw3, etw4, pm3, pm4, pe3, pe4]
theorem ob_X3_plan_53_p0 (nb nn : Nat) (town : Int32) (z : Int32) (days : Int32) (M : xM) (hp0 : 0 ≤ town) (hp1 : town < 6) (hp2 : 1 ≤ z) (n : Nat) (day : Int32) (N_ : xM) (hmu : xmu 0 day < n + 1) (hinv : N_ 11 0 4 ≤ 256 ∧ N_ 11 0 3 ≤ 8) (c_1 : ¬ day ≤ 0) (M_3 : xM) (eM_3 : M_3 = f_X3_planMornings day N_) (c_4 : ¬ day ≤ 1) : M_3 11 0 4 ≤ 256 := by
  subst_vars
  grind [xup_at, xb, shl9, etw3, etw4, pm3, pm4, pe3, pe4]
theorem ob_X3_plan_30_mu_8 (nb nn : Nat) (town : Int32) (z : Int32) (days : Int32) (M : xM) (hp0 : 0 ≤ town) (hp1 : town < 6) (hp2 : 1 ≤ z) (n : Nat) (day : Int32) (N_ : xM) (hmu : xmu 0 day < n + 1) (hinv : N_ 11 0 4 ≤ 256 ∧ N_ 11 0 3 ≤ 8) (c_1 : ¬ day ≤ 0) (M_3 : xM) (eM_3 : M_3 = f_X3_planMornings day N_) (c_4 : ¬ day ≤ 1) (M_7 : xM) (eM_7 : M_7 = f_X3_planEvenings (day - 1) M_3) (x5_8 : Int32) (ex5_8 : x5_8 = day + (-1)) : xmu 0 x5_8 < n := by
  subst_vars
  have h9 := xmu_dn (a := day) (b := 0) (by grind)
  (try simp [xup_at])
  omega
theorem ob_X3_plan_30_inv_8 (nb nn : Nat) (town : Int32) (z : Int32) (days : Int32) (M : xM) (hp0 : 0 ≤ town) (hp1 : town < 6) (hp2 : 1 ≤ z) (n : Nat) (day : Int32) (N_ : xM) (hmu : xmu 0 day < n + 1) (hinv : N_ 11 0 4 ≤ 256 ∧ N_ 11 0 3 ≤ 8) (c_1 : ¬ day ≤ 0) (M_3 : xM) (eM_3 : M_3 = f_X3_planMornings day N_) (c_4 : ¬ day ≤ 1) (M_7 : xM) (eM_7 : M_7 = f_X3_planEvenings (day - 1) M_3) (x5_8 : Int32) (ex5_8 : x5_8 = day + (-1)) : M_7 11 0 4 ≤ 256 ∧ M_7 11 0 3 ≤ 8 := by
  subst_vars
  grind [xup_at, xb, shl9, etw3, etw4, pm3, pm4, pe3, pe4]
theorem ob_X3_plan_21_p0 (nb nn : Nat) (town : Int32) (z : Int32) (days : Int32) (M : xM) (hp0 : 0 ≤ town) (hp1 : town < 6) (hp2 : 1 ≤ z) (v_9 : Int32) (ev_9 : v_9 = (if 8 < z then 8 else z)) (M_10 : xM) (eM_10 : M_10 = xup M 11 0 3 v_9) (v_11 : Int32) (ev_11 : v_11 = ((1 : Int32) <<< ((M_10 11 0 3) &&& 31))) (M_12 : xM) (eM_12 : M_12 = xup M_10 11 0 4 v_11) : M_12 11 0 4 ≤ 256 := by
  subst_vars
  grind [xup_at, xb, shl9, etw3, etw4, pm3, pm4, pe3, pe4]
theorem ob_X3_plan_30_ini_15 (nb nn : Nat) (town : Int32) (z : Int32) (days : Int32) (M : xM) (hp0 : 0 ≤ town) (hp1 : town < 6) (hp2 : 1 ≤ z) (v_9 : Int32) (ev_9 : v_9 = (if 8 < z then 8 else z)) (M_10 : xM) (eM_10 : M_10 = xup M 11 0 3 v_9) (v_11 : Int32) (ev_11 : v_11 = ((1 : Int32) <<< ((M_10 11 0 3) &&& 31))) (M_12 : xM) (eM_12 : M_12 = xup M_10 11 0 4 v_11) (M_14 : xM) (eM_14 : M_14 = f_X3_endTheWay M_12) (x5_15 : Int32) (ex5_15 : x5_15 = (days - 1)) : M_14 11 0 4 ≤ 256 ∧ M_14 11 0 3 ≤ 8 := by
  subst_vars
  grind [xup_at, xb, shl9, etw3, etw4, pm3, pm4, pe3, pe4]
theorem ob_X3_plan_76_p0 (nb nn : Nat) (town : Int32) (z : Int32) (days : Int32) (M : xM) (hp0 : 0 ≤ town) (hp1 : town < 6) (hp2 : 1 ≤ z) (v_9 : Int32) (ev_9 : v_9 = (if 8 < z then 8 else z)) (M_10 : xM) (eM_10 : M_10 = xup M 11 0 3 v_9) (v_11 : Int32) (ev_11 : v_11 = ((1 : Int32) <<< ((M_10 11 0 3) &&& 31))) (M_12 : xM) (eM_12 : M_12 = xup M_10 11 0 4 v_11) (M_14 : xM) (eM_14 : M_14 = f_X3_endTheWay M_12) (x5_15 : Int32) (ex5_15 : x5_15 = (days - 1)) (day_16 : Int32) (M_17 : xM) (hiv_17 : M_17 11 0 4 ≤ 256 ∧ M_17 11 0 3 ≤ 8) (c_18 : days ≤ 1) : 0 ≤ town := by
  subst_vars
  grind [xup_at, xb, shl9, etw3, etw4, pm3, pm4, pe3, pe4]
theorem ob_X3_plan_76_p1 (nb nn : Nat) (town : Int32) (z : Int32) (days : Int32) (M : xM) (hp0 : 0 ≤ town) (hp1 : town < 6) (hp2 : 1 ≤ z) (v_9 : Int32) (ev_9 : v_9 = (if 8 < z then 8 else z)) (M_10 : xM) (eM_10 : M_10 = xup M 11 0 3 v_9) (v_11 : Int32) (ev_11 : v_11 = ((1 : Int32) <<< ((M_10 11 0 3) &&& 31))) (M_12 : xM) (eM_12 : M_12 = xup M_10 11 0 4 v_11) (M_14 : xM) (eM_14 : M_14 = f_X3_endTheWay M_12) (x5_15 : Int32) (ex5_15 : x5_15 = (days - 1)) (day_16 : Int32) (M_17 : xM) (hiv_17 : M_17 11 0 4 ≤ 256 ∧ M_17 11 0 3 ≤ 8) (c_18 : days ≤ 1) : town < 6 := by
  subst_vars
  grind [xup_at, xb, shl9, etw3, etw4, pm3, pm4, pe3, pe4]
theorem ob_X3_plan_76_p2 (nb nn : Nat) (town : Int32) (z : Int32) (days : Int32) (M : xM) (hp0 : 0 ≤ town) (hp1 : town < 6) (hp2 : 1 ≤ z) (v_9 : Int32) (ev_9 : v_9 = (if 8 < z then 8 else z)) (M_10 : xM) (eM_10 : M_10 = xup M 11 0 3 v_9) (v_11 : Int32) (ev_11 : v_11 = ((1 : Int32) <<< ((M_10 11 0 3) &&& 31))) (M_12 : xM) (eM_12 : M_12 = xup M_10 11 0 4 v_11) (M_14 : xM) (eM_14 : M_14 = f_X3_endTheWay M_12) (x5_15 : Int32) (ex5_15 : x5_15 = (days - 1)) (day_16 : Int32) (M_17 : xM) (hiv_17 : M_17 11 0 4 ≤ 256 ∧ M_17 11 0 3 ≤ 8) (c_18 : days ≤ 1) : M_17 11 0 3 ≤ 8 := by
  subst_vars
  grind [xup_at, xb, shl9, etw3, etw4, pm3, pm4, pe3, pe4]
theorem ob_X3_plan_76_p0_2 (nb nn : Nat) (town : Int32) (z : Int32) (days : Int32) (M : xM) (hp0 : 0 ≤ town) (hp1 : town < 6) (hp2 : 1 ≤ z) (v_9 : Int32) (ev_9 : v_9 = (if 8 < z then 8 else z)) (M_10 : xM) (eM_10 : M_10 = xup M 11 0 3 v_9) (v_11 : Int32) (ev_11 : v_11 = ((1 : Int32) <<< ((M_10 11 0 3) &&& 31))) (M_12 : xM) (eM_12 : M_12 = xup M_10 11 0 4 v_11) (M_14 : xM) (eM_14 : M_14 = f_X3_endTheWay M_12) (x5_15 : Int32) (ex5_15 : x5_15 = (days - 1)) (day_16 : Int32) (M_17 : xM) (hiv_17 : M_17 11 0 4 ≤ 256 ∧ M_17 11 0 3 ≤ 8) (c_18 : ¬ days ≤ 1) : 0 ≤ town := by
  subst_vars
  grind [xup_at, xb, shl9, etw3, etw4, pm3, pm4, pe3, pe4]
theorem ob_X3_plan_76_p1_2 (nb nn : Nat) (town : Int32) (z : Int32) (days : Int32) (M : xM) (hp0 : 0 ≤ town) (hp1 : town < 6) (hp2 : 1 ≤ z) (v_9 : Int32) (ev_9 : v_9 = (if 8 < z then 8 else z)) (M_10 : xM) (eM_10 : M_10 = xup M 11 0 3 v_9) (v_11 : Int32) (ev_11 : v_11 = ((1 : Int32) <<< ((M_10 11 0 3) &&& 31))) (M_12 : xM) (eM_12 : M_12 = xup M_10 11 0 4 v_11) (M_14 : xM) (eM_14 : M_14 = f_X3_endTheWay M_12) (x5_15 : Int32) (ex5_15 : x5_15 = (days - 1)) (day_16 : Int32) (M_17 : xM) (hiv_17 : M_17 11 0 4 ≤ 256 ∧ M_17 11 0 3 ≤ 8) (c_18 : ¬ days ≤ 1) : town < 6 := by
  subst_vars
  grind [xup_at, xb, shl9, etw3, etw4, pm3, pm4, pe3, pe4]
theorem ob_X3_plan_76_p2_2 (nb nn : Nat) (town : Int32) (z : Int32) (days : Int32) (M : xM) (hp0 : 0 ≤ town) (hp1 : town < 6) (hp2 : 1 ≤ z) (v_9 : Int32) (ev_9 : v_9 = (if 8 < z then 8 else z)) (M_10 : xM) (eM_10 : M_10 = xup M 11 0 3 v_9) (v_11 : Int32) (ev_11 : v_11 = ((1 : Int32) <<< ((M_10 11 0 3) &&& 31))) (M_12 : xM) (eM_12 : M_12 = xup M_10 11 0 4 v_11) (M_14 : xM) (eM_14 : M_14 = f_X3_endTheWay M_12) (x5_15 : Int32) (ex5_15 : x5_15 = (days - 1)) (day_16 : Int32) (M_17 : xM) (hiv_17 : M_17 11 0 4 ≤ 256 ∧ M_17 11 0 3 ≤ 8) (c_18 : ¬ days ≤ 1) : M_17 11 0 3 ≤ 8 := by
  subst_vars
  grind [xup_at, xb, shl9, etw3, etw4, pm3, pm4, pe3, pe4]
theorem ob_X10_sheetOf_14_in (nb nn : Nat) (q : Int32) (M : xM) (hp0 : xHS M) (r_1 : Int32) (er_1 : r_1 = xb (f_X10_isUpTo q 7 M)) (c_2 : ¬ r_1 = 0) : vp_in q 8 := by
  subst_vars
  exact xin (N := 8) (by grind [isUpTo_eq, isTown10_eq, xb, tnc8, xHS, xHT, xHB_in, xHN_in, xup_at]) (by grind [isUpTo_eq, isTown10_eq, xb, tnc8, xHS, xHT, xHB_in, xHN_in, xup_at]) (by decide)
theorem ob_X10_sheetOf_14_nn (nb nn : Nat) (q : Int32) (M : xM) (hp0 : xHS M) (r_1 : Int32) (er_1 : r_1 = xb (f_X10_isUpTo q 7 M)) (c_2 : ¬ r_1 = 0) : M 1 0 q.toNatClampNeg ≠ 0 := by
  subst_vars
  grind [isUpTo_eq, isTown10_eq, xb, tnc8, xHS, xHT, xHB_in, xHN_in, xup_at]
theorem ob_X10_traderOf_14_in (nb nn : Nat) (q : Int32) (M : xM) (hp0 : xHT M) (r_1 : Int32) (er_1 : r_1 = xb (f_X10_isUpTo q 7 M)) (c_2 : ¬ r_1 = 0) : vp_in q 8 := by
  subst_vars
  exact xin (N := 8) (by grind [isUpTo_eq, isTown10_eq, xb, tnc8, xHS, xHT, xHB_in, xHN_in, xup_at]) (by grind [isUpTo_eq, isTown10_eq, xb, tnc8, xHS, xHT, xHB_in, xHN_in, xup_at]) (by decide)
theorem ob_X10_traderOf_14_nn (nb nn : Nat) (q : Int32) (M : xM) (hp0 : xHT M) (r_1 : Int32) (er_1 : r_1 = xb (f_X10_isUpTo q 7 M)) (c_2 : ¬ r_1 = 0) : M 8 0 q.toNatClampNeg ≠ 0 := by
  subst_vars
  grind [isUpTo_eq, isTown10_eq, xb, tnc8, xHS, xHT, xHB_in, xHN_in, xup_at]
theorem ob_X10_bankOf_24_in (nb nn : Nat) (q : Int32) (M : xM) (hp0 : xHB nb M) (r_1 : Int32) (er_1 : r_1 = xb (f_X10_isUpTo q ((M 0 0 12) - 1) M)) (c_2 : ¬ r_1 = 0) (c_3 : ¬ 8 ≤ q) : vp_in q 8 := by
  subst_vars
  exact xin (N := 8) (by grind [isUpTo_eq, isTown10_eq, xb, tnc8, xHS, xHT, xHB_in, xHN_in, xup_at]) (by grind [isUpTo_eq, isTown10_eq, xb, tnc8, xHS, xHT, xHB_in, xHN_in, xup_at]) (by decide)
theorem ob_X10_bankOf_24_nn (nb nn : Nat) (q : Int32) (M : xM) (hp0 : xHB nb M) (r_1 : Int32) (er_1 : r_1 = xb (f_X10_isUpTo q ((M 0 0 12) - 1) M)) (c_2 : ¬ r_1 = 0) (c_3 : ¬ 8 ≤ q) : M 3 0 q.toNatClampNeg ≠ 0 := by
  subst_vars
  exact (xHB_in hp0 (by grind [isUpTo_eq, xb]) (by grind [isUpTo_eq, xb])).2
theorem ob_X10_noteOf_24_in (nb nn : Nat) (q : Int32) (M : xM) (hp0 : xHN nn M) (r_1 : Int32) (er_1 : r_1 = xb (f_X10_isUpTo q ((M 0 0 13) - 1) M)) (c_2 : ¬ r_1 = 0) (c_3 : ¬ 24 ≤ q) : vp_in q 24 := by
  subst_vars
  exact xin (N := 24) (by grind [isUpTo_eq, isTown10_eq, xb, tnc8, xHS, xHT, xHB_in, xHN_in, xup_at]) (by grind [isUpTo_eq, isTown10_eq, xb, tnc8, xHS, xHT, xHB_in, xHN_in, xup_at]) (by decide)
theorem ob_X10_noteOf_24_nn (nb nn : Nat) (q : Int32) (M : xM) (hp0 : xHN nn M) (r_1 : Int32) (er_1 : r_1 = xb (f_X10_isUpTo q ((M 0 0 13) - 1) M)) (c_2 : ¬ r_1 = 0) (c_3 : ¬ 24 ≤ q) : M 7 0 q.toNatClampNeg ≠ 0 := by
  subst_vars
  exact (xHN_in hp0 (by grind [isUpTo_eq, xb]) (by grind [isUpTo_eq, xb])).2
set_option maxHeartbeats 4000000 in
set_option maxRecDepth 100000 in
theorem c_X3_chooseFirst (l : Launch) (nb nn : Nat) (g : xG) (L : List (Nat × Nat)) (M : xM) (hD : xD g L) (hL : xEL nb nn L) (town : Int32) (goesOn : Int32) (hp0 : 0 ≤ town) (hp1 : town < 6) (hp2 : M 11 0 3 ≤ 8) : xCv l yX3_chooseFirst cX3_chooseFirst 7 1 g L M [.ref (xad g 11 0), .ref (xad g 2 0), .int town, .int goesOn] (fun u => u = f_X3_chooseFirst town goesOn M) := by
  intro sz
  refine x_beg (by decide +kernel) rfl ?_
  intro p e s m args below meth c ls hsz hB
  subst hsz
  obtain ⟨hx, hb, hml, hown, hts, hr, hlk, hK, hAm, hP, hl⟩ := hB
  have S : CallFix p m c cX3_chooseFirst 7 s args (xws yX3_chooseFirst cX3_chooseFirst 7 none) RX3 := ⟨hx, hb, hml, hown, hts⟩
  have hown : s.vm.findClass RX3 = some m.cls := hown
  have hl : lv_has ls 7 [(0, .ref (xad g 11 0)), (1, .ref (xad g 2 0)), (2, .int town), (3, .int goesOn)] := hl
  have hS : va_S (xA g L s.heap.size) s.heap s.heap [] := va_S.rf
  obtain ⟨F, hF⟩ : ∃ F, F = f_X3_chooseFirst town goesOn M := ⟨_, rfl⟩
  have k_39 : ∀ (to : Int32) (n : Nat) (place : Int32) (N_ : xM) (H : Heap) (locs : List Loc) (ls : Array Slot) (kx : (Int32 → xM → xM)), xmu place (N_ 11 0 3) < n → 0 ≤ to ∧ to < 6 ∧ 0 ≤ place ∧ N_ 11 0 3 ≤ 8 → F = f_X3_chooseFirst_L39 town goesOn to n place N_ kx → xP g L N_ H → va_S (xA g L s.heap.size) s.heap H locs → lv_has ls 7 [(0, .ref (xad g 11 0)), (1, .ref (xad g 2 0)), (2, .int town), (3, .int goesOn), (4, .int to), (5, .int place)] → (∀ (place : Int32) (N_ : xM) (H : Heap) (locs : List Loc) (ls : Array Slot), 0 ≤ to ∧ to < 6 ∧ 0 ≤ place ∧ N_ 11 0 3 ≤ 8 → F = kx place N_ → xP g L N_ H → va_S (xA g L s.heap.size) s.heap H locs → lv_has ls 7 [(0, .ref (xad g 11 0)), (1, .ref (xad g 2 0)), (2, .int town), (3, .int goesOn), (4, .int to), (5, .int place)] → W p l e (xr 1) s m args below meth c H locs 0 0 (MQ below (va_Qv (fun u => u = f_X3_chooseFirst town goesOn M) (xPost g L) (xA g L s.heap.size)) args s 0 0 (xA g L s.heap.size)) (F0 m 103 ls [])) → W p l e (xr 1) s m args below meth c H locs 0 0 (MQ below (va_Qv (fun u => u = f_X3_chooseFirst town goesOn M) (xPost g L) (xA g L s.heap.size)) args s 0 0 (xA g L s.heap.size)) (F0 m 39 ls []) := by
    intro to n
    induction n with
    | zero => intro place N_ H locs ls kx hmu; exact absurd hmu (Nat.not_lt_zero _)
    | succ n ih =>
      intro place N_ H locs ls kx hmu hinv hres hP hS hl hex
      replace hres : F = _ := hres.trans (by rw [f_X3_chooseFirst_L39])
      refine lv_iload hx hb dX3_chooseFirst_39 (lv_at hl 5 rfl) ?_
      refine lv_aload_n hx hb dX3_chooseFirst_41 rfl (lv_at hl 0 rfl) ?_
      refine gf_RX3_21 hx hb hts hown hK hP (hL 11 0 (xe_11 nb nn)) dX3_chooseFirst_42 ?_
      refine lv_icmp_ge (tgt := 103) hx hb dX3_chooseFirst_45 (by decide) (fun c_1 => ?_) (fun c_1 => ?_)
      · replace hres := hres.trans (if_pos c_1)
        exact hex place N_ _ _ _ (ob_X3_chooseFirst_103_x39 nb nn town goesOn M hp0 hp1 hp2 to n place N_ hmu hinv c_1) hres hP hS (lv_sub hl [0, 1, 2, 3, 4, 5] rfl)
      · replace hres := hres.trans (if_neg c_1)
        refine lv_iload_n hx hb dX3_chooseFirst_48 rfl (lv_at hl 3 rfl) ?_
        refine lv_if_eq (tgt := 71) hx hb dX3_chooseFirst_49 (by decide) (fun c_2 => ?_) (fun c_2 => ?_)
        · replace hres := hres.trans (if_pos c_2)
          refine lv_iconst (v := 0) hx hb dX3_chooseFirst_71 (by decide) ?_
          refine lv_istore (lv' := [(6, .int 0), (0, .ref (xad g 11 0)), (1, .ref (xad g 2 0)), (2, .int town), (3, .int goesOn), (4, .int to), (5, .int place)]) hx hb dX3_chooseFirst_72 hl (by decide) rfl (fun ls hl => ?_)
          refine lv_aload_n hx hb dX3_chooseFirst_74 rfl (lv_at hl 1 rfl) ?_
          refine lv_iload hx hb dX3_chooseFirst_75 (lv_at hl 5 rfl) ?_
          refine lv_iload hx hb dX3_chooseFirst_77 (lv_at hl 6 rfl) ?_
          refine lv_aload_n hx hb dX3_chooseFirst_79 rfl (lv_at hl 1 rfl) ?_
          refine gf_RX3_9 hx hb hts hown hK hP (hL 11 0 (xe_11 nb nn)) dX3_chooseFirst_80 ?_
          refine lv_iload_n hx hb dX3_chooseFirst_83 rfl (lv_at hl 3 rfl) ?_
          refine lv_bipush (v := 8) hx hb dX3_chooseFirst_84 (by decide) ?_
          refine lv_imul hx hb dX3_chooseFirst_86 ?_
          refine lv_iload hx hb dX3_chooseFirst_87 (lv_at hl 6 rfl) ?_
          refine lv_iadd hx hb dX3_chooseFirst_89 ?_
          refine x_iald hx hb hK hP (hL 20 0 (xe_20 nb nn)) (xc20 g 0) (ob_X3_chooseFirst_90_in nb nn town goesOn M hp0 hp1 hp2 to n place N_ hmu hinv c_1 c_2) dX3_chooseFirst_90 ?_
          refine lv_iload hx hb dX3_chooseFirst_91 (lv_at hl 0 rfl) ?_
          refine lv_iadd hx hb dX3_chooseFirst_93 ?_
          refine x_callVv (As := [.int to, .int place, .int ((N_ 20 0 ((town * 8) + place).toNatClampNeg) + 0)]) S hK hAm hD hP hS mt_X3_keepIfMore wd_975 ⟨by decide, by decide⟩ (hL 11 0 (xe_11 nb nn)) (xc11 g 0) rfl (c_X3_keepIfMore l nb nn g L N_ hD hL to place ((N_ 20 0 ((town * 8) + place).toNatClampNeg) + 0)) rfl hl.1 (Nat.le_of_ble_eq_true rfl) ⟨Nat.zero_le _, Nat.zero_le _⟩ dX3_chooseFirst_94 rfl (fun M_4 H locs eM_4 hP hS => ?_)
          replace hres := xlet_n hres eM_4
          obtain ⟨x5_5, ex5_5⟩ : ∃ z_ : Int32, z_ = place + 1 := ⟨_, rfl⟩
          replace hres := xlet_n hres ex5_5
          refine lv_iinc (v := x5_5) (lv' := [(5, .int x5_5), (6, .int 0), (0, .ref (xad g 11 0)), (1, .ref (xad g 2 0)), (2, .int town), (3, .int goesOn), (4, .int to)]) hx hb dX3_chooseFirst_97 hl (k := 6) rfl (by rw [ex5_5]; rfl) (by decide) rfl (fun ls hl => ?_)
          refine lv_goto (tgt := 39) hx hb dX3_chooseFirst_100 (by decide) ?_
          exact ih x5_5 M_4 _ _ _ kx (ob_X3_chooseFirst_39_mu_5 nb nn town goesOn M hp0 hp1 hp2 to n place N_ hmu hinv c_1 c_2 M_4 eM_4 x5_5 ex5_5) (ob_X3_chooseFirst_39_inv_5 nb nn town goesOn M hp0 hp1 hp2 to n place N_ hmu hinv c_1 c_2 M_4 eM_4 x5_5 ex5_5) hres hP hS (lv_sub hl [2, 3, 4, 5, 6, 0] rfl) hex
        · replace hres := hres.trans (if_neg c_2)
          refine lv_aload_n hx hb dX3_chooseFirst_52 rfl (lv_at hl 0 rfl) ?_
          refine gf_RX3_15 hx hb hts hown hK hP (hL 11 0 (xe_11 nb nn)) dX3_chooseFirst_53 ?_
          refine lv_iload hx hb dX3_chooseFirst_56 (lv_at hl 4 rfl) ?_
          refine lv_sipush (v := 256) hx hb dX3_chooseFirst_58 (by decide) ?_
          refine lv_imul hx hb dX3_chooseFirst_61 ?_
          refine lv_iconst (v := 1) hx hb dX3_chooseFirst_62 (by decide) ?_
          refine lv_iload hx hb dX3_chooseFirst_63 (lv_at hl 5 rfl) ?_
          refine lv_ishl hx hb dX3_chooseFirst_65 ?_
          refine lv_iadd hx hb dX3_chooseFirst_66 ?_
          refine x_iald hx hb hK hP (hL 21 0 (xe_21 nb nn)) (xc21 g 0) (ob_X3_chooseFirst_67_in nb nn town goesOn M hp0 hp1 hp2 to n place N_ hmu hinv c_1 c_2) dX3_chooseFirst_67 ?_
          refine lv_goto (tgt := 72) hx hb dX3_chooseFirst_68 (by decide) ?_
          refine lv_topi (fun x6_6 ex6_6 => ?_)
          replace hres := xlet_n hres ex6_6
          refine lv_istore (lv' := [(6, .int x6_6), (0, .ref (xad g 11 0)), (1, .ref (xad g 2 0)), (2, .int town), (3, .int goesOn), (4, .int to), (5, .int place)]) hx hb dX3_chooseFirst_72 hl (by decide) rfl (fun ls hl => ?_)
          refine lv_aload_n hx hb dX3_chooseFirst_74 rfl (lv_at hl 1 rfl) ?_
          refine lv_iload hx hb dX3_chooseFirst_75 (lv_at hl 5 rfl) ?_
          refine lv_iload hx hb dX3_chooseFirst_77 (lv_at hl 6 rfl) ?_
          refine lv_aload_n hx hb dX3_chooseFirst_79 rfl (lv_at hl 1 rfl) ?_
          refine gf_RX3_9 hx hb hts hown hK hP (hL 11 0 (xe_11 nb nn)) dX3_chooseFirst_80 ?_
          refine lv_iload_n hx hb dX3_chooseFirst_83 rfl (lv_at hl 3 rfl) ?_
          refine lv_bipush (v := 8) hx hb dX3_chooseFirst_84 (by decide) ?_
          refine lv_imul hx hb dX3_chooseFirst_86 ?_
          refine lv_iload hx hb dX3_chooseFirst_87 (lv_at hl 6 rfl) ?_
          refine lv_iadd hx hb dX3_chooseFirst_89 ?_
          refine x_iald hx hb hK hP (hL 20 0 (xe_20 nb nn)) (xc20 g 0) (ob_X3_chooseFirst_90_in_2 nb nn town goesOn M hp0 hp1 hp2 to n place N_ hmu hinv c_1 c_2 x6_6 ex6_6) dX3_chooseFirst_90 ?_
          refine lv_iload hx hb dX3_chooseFirst_91 (lv_at hl 0 rfl) ?_
          refine lv_iadd hx hb dX3_chooseFirst_93 ?_
          refine x_callVv (As := [.int to, .int place, .int ((N_ 20 0 ((town * 8) + place).toNatClampNeg) + x6_6)]) S hK hAm hD hP hS mt_X3_keepIfMore wd_975 ⟨by decide, by decide⟩ (hL 11 0 (xe_11 nb nn)) (xc11 g 0) rfl (c_X3_keepIfMore l nb nn g L N_ hD hL to place ((N_ 20 0 ((town * 8) + place).toNatClampNeg) + x6_6)) rfl hl.1 (Nat.le_of_ble_eq_true rfl) ⟨Nat.zero_le _, Nat.zero_le _⟩ dX3_chooseFirst_94 rfl (fun M_8 H locs eM_8 hP hS => ?_)
          replace hres := xlet_n hres eM_8
          obtain ⟨x5_9, ex5_9⟩ : ∃ z_ : Int32, z_ = place + 1 := ⟨_, rfl⟩
          replace hres := xlet_n hres ex5_9
          refine lv_iinc (v := x5_9) (lv' := [(5, .int x5_9), (6, .int x6_6), (0, .ref (xad g 11 0)), (1, .ref (xad g 2 0)), (2, .int town), (3, .int goesOn), (4, .int to)]) hx hb dX3_chooseFirst_97 hl (k := 6) rfl (by rw [ex5_9]; rfl) (by decide) rfl (fun ls hl => ?_)
          refine lv_goto (tgt := 39) hx hb dX3_chooseFirst_100 (by decide) ?_
          exact ih x5_9 M_8 _ _ _ kx (ob_X3_chooseFirst_39_mu_9 nb nn town goesOn M hp0 hp1 hp2 to n place N_ hmu hinv c_1 c_2 x6_6 ex6_6 M_8 eM_8 x5_9 ex5_9) (ob_X3_chooseFirst_39_inv_9 nb nn town goesOn M hp0 hp1 hp2 to n place N_ hmu hinv c_1 c_2 x6_6 ex6_6 M_8 eM_8 x5_9 ex5_9) hres hP hS (lv_sub hl [2, 3, 4, 5, 6, 0] rfl) hex
  have k_9 : ∀ (n : Nat) (to : Int32) (N_ : xM) (H : Heap) (locs : List Loc) (ls : Array Slot) (kx : (Int32 → xM → xM)), xmu to 6 < n → 0 ≤ to ∧ N_ 11 0 3 ≤ 8 → F = f_X3_chooseFirst_L9 town goesOn n to N_ kx → xP g L N_ H → va_S (xA g L s.heap.size) s.heap H locs → lv_has ls 7 [(0, .ref (xad g 11 0)), (1, .ref (xad g 2 0)), (2, .int town), (3, .int goesOn), (4, .int to)] → (∀ (to : Int32) (N_ : xM) (H : Heap) (locs : List Loc) (ls : Array Slot), 0 ≤ to ∧ N_ 11 0 3 ≤ 8 → F = kx to N_ → xP g L N_ H → va_S (xA g L s.heap.size) s.heap H locs → lv_has ls 7 [(0, .ref (xad g 11 0)), (1, .ref (xad g 2 0)), (2, .int town), (3, .int goesOn), (4, .int to)] → W p l e (xr 1) s m args below meth c H locs 0 0 (MQ below (va_Qv (fun u => u = f_X3_chooseFirst town goesOn M) (xPost g L) (xA g L s.heap.size)) args s 0 0 (xA g L s.heap.size)) (F0 m 136 ls [])) → W p l e (xr 1) s m args below meth c H locs 0 0 (MQ below (va_Qv (fun u => u = f_X3_chooseFirst town goesOn M) (xPost g L) (xA g L s.heap.size)) args s 0 0 (xA g L s.heap.size)) (F0 m 9 ls []) := by
    intro n
    induction n with
    | zero => intro to N_ H locs ls kx hmu; exact absurd hmu (Nat.not_lt_zero _)
    | succ n ih =>
      intro to N_ H locs ls kx hmu hinv hres hP hS hl hex
      replace hres : F = _ := hres.trans (by rw [f_X3_chooseFirst_L9])
      refine lv_iload hx hb dX3_chooseFirst_9 (lv_at hl 4 rfl) ?_
      refine lv_bipush (v := 6) hx hb dX3_chooseFirst_11 (by decide) ?_
      refine lv_icmp_ge (tgt := 136) hx hb dX3_chooseFirst_13 (by decide) (fun c_10 => ?_) (fun c_10 => ?_)
      · replace hres := hres.trans (if_pos c_10)
        exact hex to N_ _ _ _ (ob_X3_chooseFirst_136_x9 nb nn town goesOn M hp0 hp1 hp2 n to N_ hmu hinv c_10) hres hP hS (lv_sub hl [0, 1, 2, 3, 4] rfl)
      · replace hres := hres.trans (if_neg c_10)
        refine lv_iload hx hb dX3_chooseFirst_16 (lv_at hl 4 rfl) ?_
        refine lv_iload_n hx hb dX3_chooseFirst_18 rfl (lv_at hl 2 rfl) ?_
        refine lv_icmp_eq (tgt := 36) hx hb dX3_chooseFirst_19 (by decide) (fun c_11 => ?_) (fun c_11 => ?_)
        · replace hres := hres.trans (if_pos c_11)
          refine lv_iconst (v := 0) hx hb dX3_chooseFirst_36 (by decide) ?_
          refine lv_istore (lv' := [(5, .int 0), (0, .ref (xad g 11 0)), (1, .ref (xad g 2 0)), (2, .int town), (3, .int goesOn), (4, .int to)]) hx hb dX3_chooseFirst_37 hl (by decide) rfl (fun ls hl => ?_)
          refine k_39 to (xmu (0 : Int32) (N_ 11 0 3) + 1) (0 : Int32) N_ _ _ _ _ (Nat.lt_succ_self _) (ob_X3_chooseFirst_39_ini_11 nb nn town goesOn M hp0 hp1 hp2 n to N_ hmu hinv c_10 c_11) hres hP hS (lv_sub hl [1, 2, 3, 4, 5, 0] rfl) ?_
          clear hres hP hS hl
          intro place_12 M_13 H locs ls hiv_13 hres hP hS hl
          refine lv_aload_n hx hb dX3_chooseFirst_103 rfl (lv_at hl 0 rfl) ?_
          refine lv_iload hx hb dX3_chooseFirst_104 (lv_at hl 4 rfl) ?_
          refine lv_bipush (v := 15) hx hb dX3_chooseFirst_106 (by decide) ?_
          refine lv_iload_n hx hb dX3_chooseFirst_108 rfl (lv_at hl 3 rfl) ?_
          refine lv_if_eq (tgt := 126) hx hb dX3_chooseFirst_109 (by decide) (fun c_14 => ?_) (fun c_14 => ?_)
          · replace hres := hres.trans (if_pos c_14)
            refine lv_iconst (v := 0) hx hb dX3_chooseFirst_126 (by decide) ?_
            refine x_callVv (As := [.int to, .int 15, .int 0]) S hK hAm hD hP hS mt_X3_keepIfMore wd_975 ⟨by decide, by decide⟩ (hL 11 0 (xe_11 nb nn)) (xc11 g 0) rfl (c_X3_keepIfMore l nb nn g L M_13 hD hL to 15 0) rfl hl.1 (Nat.le_of_ble_eq_true rfl) ⟨Nat.zero_le _, Nat.zero_le _⟩ dX3_chooseFirst_127 rfl (fun M_16 H locs eM_16 hP hS => ?_)
            replace hres := xlet_n hres eM_16
            obtain ⟨x4_17, ex4_17⟩ : ∃ z_ : Int32, z_ = to + 1 := ⟨_, rfl⟩
            replace hres := xlet_n hres ex4_17
            refine lv_iinc (v := x4_17) (lv' := [(4, .int x4_17), (0, .ref (xad g 11 0)), (1, .ref (xad g 2 0)), (2, .int town), (3, .int goesOn), (5, .int place_12)]) hx hb dX3_chooseFirst_130 hl (k := 4) rfl (by rw [ex4_17]; rfl) (by decide) rfl (fun ls hl => ?_)
            refine lv_goto (tgt := 9) hx hb dX3_chooseFirst_133 (by decide) ?_
            exact ih x4_17 M_16 _ _ _ kx (ob_X3_chooseFirst_9_mu_17 nb nn town goesOn M hp0 hp1 hp2 n to N_ hmu hinv c_10 c_11 place_12 M_13 hiv_13 c_14 M_16 eM_16 x4_17 ex4_17) (ob_X3_chooseFirst_9_inv_17 nb nn town goesOn M hp0 hp1 hp2 n to N_ hmu hinv c_10 c_11 place_12 M_13 hiv_13 c_14 M_16 eM_16 x4_17 ex4_17) hres hP hS (lv_sub hl [1, 2, 3, 4, 0] rfl) hex
          · replace hres := hres.trans (if_neg c_14)
            refine lv_aload_n hx hb dX3_chooseFirst_112 rfl (lv_at hl 0 rfl) ?_
            refine gf_RX3_15 hx hb hts hown hK hP (hL 11 0 (xe_11 nb nn)) dX3_chooseFirst_113 ?_
            refine lv_iload hx hb dX3_chooseFirst_116 (lv_at hl 4 rfl) ?_
            refine lv_sipush (v := 256) hx hb dX3_chooseFirst_118 (by decide) ?_
            refine lv_imul hx hb dX3_chooseFirst_121 ?_
            refine x_iald hx hb hK hP (hL 21 0 (xe_21 nb nn)) (xc21 g 0) (ob_X3_chooseFirst_122_in nb nn town goesOn M hp0 hp1 hp2 n to N_ hmu hinv c_10 c_11 place_12 M_13 hiv_13 c_14) dX3_chooseFirst_122 ?_
            refine lv_goto (tgt := 127) hx hb dX3_chooseFirst_123 (by decide) ?_
            refine x_callVv (As := [.int to, .int 15, .int (M_13 21 0 (to * 256).toNatClampNeg)]) S hK hAm hD hP hS mt_X3_keepIfMore wd_975 ⟨by decide, by decide⟩ (hL 11 0 (xe_11 nb nn)) (xc11 g 0) rfl (c_X3_keepIfMore l nb nn g L M_13 hD hL to 15 (M_13 21 0 (to * 256).toNatClampNeg)) rfl hl.1 (Nat.le_of_ble_eq_true rfl) ⟨Nat.zero_le _, Nat.zero_le _⟩ dX3_chooseFirst_127 rfl (fun M_19 H locs eM_19 hP hS => ?_)
            replace hres := xlet_n hres eM_19
            obtain ⟨x4_20, ex4_20⟩ : ∃ z_ : Int32, z_ = to + 1 := ⟨_, rfl⟩
            replace hres := xlet_n hres ex4_20
            refine lv_iinc (v := x4_20) (lv' := [(4, .int x4_20), (0, .ref (xad g 11 0)), (1, .ref (xad g 2 0)), (2, .int town), (3, .int goesOn), (5, .int place_12)]) hx hb dX3_chooseFirst_130 hl (k := 4) rfl (by rw [ex4_20]; rfl) (by decide) rfl (fun ls hl => ?_)
            refine lv_goto (tgt := 9) hx hb dX3_chooseFirst_133 (by decide) ?_
            exact ih x4_20 M_19 _ _ _ kx (ob_X3_chooseFirst_9_mu_20 nb nn town goesOn M hp0 hp1 hp2 n to N_ hmu hinv c_10 c_11 place_12 M_13 hiv_13 c_14 M_19 eM_19 x4_20 ex4_20) (ob_X3_chooseFirst_9_inv_20 nb nn town goesOn M hp0 hp1 hp2 n to N_ hmu hinv c_10 c_11 place_12 M_13 hiv_13 c_14 M_19 eM_19 x4_20 ex4_20) hres hP hS (lv_sub hl [1, 2, 3, 4, 0] rfl) hex
        · replace hres := hres.trans (if_neg c_11)
          refine lv_iload_n hx hb dX3_chooseFirst_22 rfl (lv_at hl 3 rfl) ?_
          refine lv_if_eq (tgt := 130) hx hb dX3_chooseFirst_23 (by decide) (fun c_21 => ?_) (fun c_21 => ?_)
          · replace hres := hres.trans (if_pos c_21)
            obtain ⟨x4_22, ex4_22⟩ : ∃ z_ : Int32, z_ = to + 1 := ⟨_, rfl⟩
            replace hres := xlet_n hres ex4_22
            refine lv_iinc (v := x4_22) (lv' := [(4, .int x4_22), (0, .ref (xad g 11 0)), (1, .ref (xad g 2 0)), (2, .int town), (3, .int goesOn)]) hx hb dX3_chooseFirst_130 hl (k := 4) rfl (by rw [ex4_22]; rfl) (by decide) rfl (fun ls hl => ?_)
            refine lv_goto (tgt := 9) hx hb dX3_chooseFirst_133 (by decide) ?_
            exact ih x4_22 N_ _ _ _ kx (ob_X3_chooseFirst_9_mu_22 nb nn town goesOn M hp0 hp1 hp2 n to N_ hmu hinv c_10 c_11 c_21 x4_22 ex4_22) (ob_X3_chooseFirst_9_inv_22 nb nn town goesOn M hp0 hp1 hp2 n to N_ hmu hinv c_10 c_11 c_21 x4_22 ex4_22) hres hP hS (lv_sub hl [1, 2, 3, 4, 0] rfl) hex
          · replace hres := hres.trans (if_neg c_21)
            refine lv_aload_n hx hb dX3_chooseFirst_26 rfl (lv_at hl 1 rfl) ?_
            refine lv_iload_n hx hb dX3_chooseFirst_27 rfl (lv_at hl 2 rfl) ?_
            refine lv_iload hx hb dX3_chooseFirst_28 (lv_at hl 4 rfl) ?_
            refine x_callVi (As := [.int town, .int to]) S hK hAm hD hP hS mt_X5_milesBetween wd_969 ⟨by decide, by decide⟩ (hL 2 0 (xe_2 nb nn)) (xc2 g 0) rfl (c_X5_milesBetween l nb nn g L N_ hD (hL 2 0 (xe_2 nb nn)) (hL 13 0 (xe_13 nb nn)) (hL 14 0 (xe_14 nb nn)) town to (ob_X3_chooseFirst_30_p0 nb nn town goesOn M hp0 hp1 hp2 n to N_ hmu hinv c_10 c_11 c_21) (ob_X3_chooseFirst_30_p1 nb nn town goesOn M hp0 hp1 hp2 n to N_ hmu hinv c_10 c_11 c_21) (ob_X3_chooseFirst_30_p2 nb nn town goesOn M hp0 hp1 hp2 n to N_ hmu hinv c_10 c_11 c_21) (ob_X3_chooseFirst_30_p3 nb nn town goesOn M hp0 hp1 hp2 n to N_ hmu hinv c_10 c_11 c_21)) rfl hl.1 (Nat.le_of_ble_eq_true rfl) ⟨Nat.zero_le _, Nat.zero_le _⟩ dX3_chooseFirst_30 rfl (fun r_23 u H locs hp_ hP hS => ?_)
            obtain ⟨er_23, eu_⟩ := hp_
            rw [eu_] at hP
            clear eu_
            replace hres := xlet_n hres er_23
            refine lv_if_le (tgt := 130) hx hb dX3_chooseFirst_33 (by decide) (fun c_24 => ?_) (fun c_24 => ?_)
            · replace hres := hres.trans (if_pos c_24)
              obtain ⟨x4_25, ex4_25⟩ : ∃ z_ : Int32, z_ = to + 1 := ⟨_, rfl⟩
              replace hres := xlet_n hres ex4_25
              refine lv_iinc (v := x4_25) (lv' := [(4, .int x4_25), (0, .ref (xad g 11 0)), (1, .ref (xad g 2 0)), (2, .int town), (3, .int goesOn)]) hx hb dX3_chooseFirst_130 hl (k := 4) rfl (by rw [ex4_25]; rfl) (by decide) rfl (fun ls hl => ?_)
              refine lv_goto (tgt := 9) hx hb dX3_chooseFirst_133 (by decide) ?_
              exact ih x4_25 N_ _ _ _ kx (ob_X3_chooseFirst_9_mu_25 nb nn town goesOn M hp0 hp1 hp2 n to N_ hmu hinv c_10 c_11 c_21 r_23 er_23 c_24 x4_25 ex4_25) (ob_X3_chooseFirst_9_inv_25 nb nn town goesOn M hp0 hp1 hp2 n to N_ hmu hinv c_10 c_11 c_21 r_23 er_23 c_24 x4_25 ex4_25) hres hP hS (lv_sub hl [1, 2, 3, 4, 0] rfl) hex
            · replace hres := hres.trans (if_neg c_24)
              refine lv_iconst (v := 0) hx hb dX3_chooseFirst_36 (by decide) ?_
              refine lv_istore (lv' := [(5, .int 0), (0, .ref (xad g 11 0)), (1, .ref (xad g 2 0)), (2, .int town), (3, .int goesOn), (4, .int to)]) hx hb dX3_chooseFirst_37 hl (by decide) rfl (fun ls hl => ?_)
              refine k_39 to (xmu (0 : Int32) (N_ 11 0 3) + 1) (0 : Int32) N_ _ _ _ _ (Nat.lt_succ_self _) (ob_X3_chooseFirst_39_ini_25 nb nn town goesOn M hp0 hp1 hp2 n to N_ hmu hinv c_10 c_11 c_21 r_23 er_23 c_24) hres hP hS (lv_sub hl [1, 2, 3, 4, 5, 0] rfl) ?_
              clear hres hP hS hl
              intro place_26 M_27 H locs ls hiv_27 hres hP hS hl
              refine lv_aload_n hx hb dX3_chooseFirst_103 rfl (lv_at hl 0 rfl) ?_
              refine lv_iload hx hb dX3_chooseFirst_104 (lv_at hl 4 rfl) ?_
              refine lv_bipush (v := 15) hx hb dX3_chooseFirst_106 (by decide) ?_
              refine lv_iload_n hx hb dX3_chooseFirst_108 rfl (lv_at hl 3 rfl) ?_
              refine lv_if_eq (tgt := 126) hx hb dX3_chooseFirst_109 (by decide) (fun c_28 => ?_) (fun c_28 => ?_)
              · exact absurd c_28 c_21
              · clear c_28
                refine lv_aload_n hx hb dX3_chooseFirst_112 rfl (lv_at hl 0 rfl) ?_
                refine gf_RX3_15 hx hb hts hown hK hP (hL 11 0 (xe_11 nb nn)) dX3_chooseFirst_113 ?_
                refine lv_iload hx hb dX3_chooseFirst_116 (lv_at hl 4 rfl) ?_
                refine lv_sipush (v := 256) hx hb dX3_chooseFirst_118 (by decide) ?_
                refine lv_imul hx hb dX3_chooseFirst_121 ?_
                refine x_iald hx hb hK hP (hL 21 0 (xe_21 nb nn)) (xc21 g 0) (ob_X3_chooseFirst_122_in_2 nb nn town goesOn M hp0 hp1 hp2 n to N_ hmu hinv c_10 c_11 c_21 r_23 er_23 c_24 place_26 M_27 hiv_27) dX3_chooseFirst_122 ?_
                refine lv_goto (tgt := 127) hx hb dX3_chooseFirst_123 (by decide) ?_
                refine x_callVv (As := [.int to, .int 15, .int (M_27 21 0 (to * 256).toNatClampNeg)]) S hK hAm hD hP hS mt_X3_keepIfMore wd_975 ⟨by decide, by decide⟩ (hL 11 0 (xe_11 nb nn)) (xc11 g 0) rfl (c_X3_keepIfMore l nb nn g L M_27 hD hL to 15 (M_27 21 0 (to * 256).toNatClampNeg)) rfl hl.1 (Nat.le_of_ble_eq_true rfl) ⟨Nat.zero_le _, Nat.zero_le _⟩ dX3_chooseFirst_127 rfl (fun M_30 H locs eM_30 hP hS => ?_)
                replace hres := xlet_n hres eM_30
                obtain ⟨x4_31, ex4_31⟩ : ∃ z_ : Int32, z_ = to + 1 := ⟨_, rfl⟩
                replace hres := xlet_n hres ex4_31
                refine lv_iinc (v := x4_31) (lv' := [(4, .int x4_31), (0, .ref (xad g 11 0)), (1, .ref (xad g 2 0)), (2, .int town), (3, .int goesOn), (5, .int place_26)]) hx hb dX3_chooseFirst_130 hl (k := 4) rfl (by rw [ex4_31]; rfl) (by decide) rfl (fun ls hl => ?_)
                refine lv_goto (tgt := 9) hx hb dX3_chooseFirst_133 (by decide) ?_
                exact ih x4_31 M_30 _ _ _ kx (ob_X3_chooseFirst_9_mu_31 nb nn town goesOn M hp0 hp1 hp2 n to N_ hmu hinv c_10 c_11 c_21 r_23 er_23 c_24 place_26 M_27 hiv_27 M_30 eM_30 x4_31 ex4_31) (ob_X3_chooseFirst_9_inv_31 nb nn town goesOn M hp0 hp1 hp2 n to N_ hmu hinv c_10 c_11 c_21 r_23 er_23 c_24 place_26 M_27 hiv_27 M_30 eM_30 x4_31 ex4_31) hres hP hS (lv_sub hl [1, 2, 3, 4, 0] rfl) hex
  have hres := hF
  rw [f_X3_chooseFirst] at hres
  refine lv_aload_n hx hb dX3_chooseFirst_0 rfl (lv_at hl 0 rfl) ?_
  refine lv_ldc (own := RX3) (v := (-1000000)) hx hb hown (hts _ (List.mem_cons_of_mem _ wd_974)) dX3_chooseFirst_1 ?_
  refine pf_RX3_28 hx hb hts hown hK hP hD hS (hL 11 0 (xe_11 nb nn)) dX3_chooseFirst_3 (fun H locs hP hS => ?_)
  obtain ⟨M_32, eM_32⟩ : ∃ z_ : xM, z_ = xup M 11 0 5 (-1000000) := ⟨_, rfl⟩
  rw [← eM_32] at hP
  replace hres := xlet_n hres eM_32
  refine lv_iconst (v := 0) hx hb dX3_chooseFirst_6 (by decide) ?_
  refine lv_istore (lv' := [(4, .int 0), (0, .ref (xad g 11 0)), (1, .ref (xad g 2 0)), (2, .int town), (3, .int goesOn)]) hx hb dX3_chooseFirst_7 hl (by decide) rfl (fun ls hl => ?_)
  refine k_9 (xmu (0 : Int32) 6 + 1) (0 : Int32) M_32 _ _ _ _ (Nat.lt_succ_self _) (ob_X3_chooseFirst_9_ini_32 nb nn town goesOn M hp0 hp1 hp2 M_32 eM_32) hres hP hS (lv_sub hl [1, 2, 3, 4, 0] rfl) ?_
  clear hres hP hS hl
  intro to_33 M_34 H locs ls hiv_34 hres hP hS hl
  exact x_retv hx hb hr hlk hP hS (hres.symm.trans hF) dX3_chooseFirst_136
set_option maxHeartbeats 4000000 in
set_option maxRecDepth 100000 in
theorem c_X3_plan (l : Launch) (nb nn : Nat) (g : xG) (L : List (Nat × Nat)) (M : xM) (hD : xD g L) (hL : xEL nb nn L) (town : Int32) (z : Int32) (days : Int32) (hp0 : 0 ≤ town) (hp1 : town < 6) (hp2 : 1 ≤ z) : xCv l yX3_plan cX3_plan 6 3 g L M [.ref (xad g 11 0), .ref (xad g 2 0), .int town, .int z, .int days] (fun u => u = f_X3_plan town z days M) := by
  intro sz
  refine x_beg (by decide +kernel) rfl ?_
  intro p e s m args below meth c ls hsz hB
  subst hsz
  obtain ⟨hx, hb, hml, hown, hts, hr, hlk, hK, hAm, hP, hl⟩ := hB
  have S : CallFix p m c cX3_plan 6 s args (xws yX3_plan cX3_plan 6 none) RX3 := ⟨hx, hb, hml, hown, hts⟩
  have hown : s.vm.findClass RX3 = some m.cls := hown
  have hl : lv_has ls 6 [(0, .ref (xad g 11 0)), (1, .ref (xad g 2 0)), (2, .int town), (3, .int z), (4, .int days)] := hl
  have hS : va_S (xA g L s.heap.size) s.heap s.heap [] := va_S.rf
  obtain ⟨F, hF⟩ : ∃ F, F = f_X3_plan town z days M := ⟨_, rfl⟩
  have k_30 : ∀ (n : Nat) (day : Int32) (N_ : xM) (H : Heap) (locs : List Loc) (ls : Array Slot) (kx : (Int32 → xM → xM)), xmu 0 day < n → N_ 11 0 4 ≤ 256 ∧ N_ 11 0 3 ≤ 8 → F = f_X3_plan_L30 town z days n day N_ kx → xP g L N_ H → va_S (xA g L s.heap.size) s.heap H locs → lv_has ls 6 [(0, .ref (xad g 11 0)), (1, .ref (xad g 2 0)), (2, .int town), (3, .int z), (4, .int days), (5, .int day)] → (∀ (day : Int32) (N_ : xM) (H : Heap) (locs : List Loc) (ls : Array Slot), N_ 11 0 4 ≤ 256 ∧ N_ 11 0 3 ≤ 8 → F = kx day N_ → xP g L N_ H → va_S (xA g L s.heap.size) s.heap H locs → lv_has ls 6 [(0, .ref (xad g 11 0)), (1, .ref (xad g 2 0)), (2, .int town), (3, .int z), (4, .int days), (5, .int day)] → W p l e (xr 3) s m args below meth c H locs 0 0 (MQ below (va_Qv (fun u => u = f_X3_plan town z days M) (xPost g L) (xA g L s.heap.size)) args s 0 0 (xA g L s.heap.size)) (F0 m 62 ls [])) → W p l e (xr 3) s m args below meth c H locs 0 0 (MQ below (va_Qv (fun u => u = f_X3_plan town z days M) (xPost g L) (xA g L s.heap.size)) args s 0 0 (xA g L s.heap.size)) (F0 m 30 ls []) := by
    intro n
    induction n with
    | zero => intro day N_ H locs ls kx hmu; exact absurd hmu (Nat.not_lt_zero _)
    | succ n ih =>
      intro day N_ H locs ls kx hmu hinv hres hP hS hl hex
      replace hres : F = _ := hres.trans (by rw [f_X3_plan_L30])
      refine lv_iload hx hb dX3_plan_30 (lv_at hl 5 rfl) ?_
      refine lv_if_le (tgt := 62) hx hb dX3_plan_32 (by decide) (fun c_1 => ?_) (fun c_1 => ?_)
      · replace hres := hres.trans (if_pos c_1)
        exact hex day N_ _ _ _ (ob_X3_plan_62_x30 nb nn town z days M hp0 hp1 hp2 n day N_ hmu hinv c_1) hres hP hS (lv_sub hl [0, 1, 2, 3, 4, 5] rfl)
      · replace hres := hres.trans (if_neg c_1)
        refine lv_aload_n hx hb dX3_plan_35 rfl (lv_at hl 0 rfl) ?_
        refine lv_iload hx hb dX3_plan_36 (lv_at hl 5 rfl) ?_
        refine x_callVv (As := [.int day]) S hK hAm hD hP hS mt_X3_planMornings wd_945 ⟨by decide, by decide⟩ (hL 11 0 (xe_11 nb nn)) (xc11 g 0) rfl (c_X3_planMornings l nb nn g L N_ hD hL day (ob_X3_plan_38_p0 nb nn town z days M hp0 hp1 hp2 n day N_ hmu hinv c_1) (ob_X3_plan_38_p1 nb nn town z days M hp0 hp1 hp2 n day N_ hmu hinv c_1)) rfl hl.1 (Nat.le_of_ble_eq_true rfl) ⟨Nat.zero_le _, Nat.zero_le _⟩ dX3_plan_38 rfl (fun M_3 H locs eM_3 hP hS => ?_)
        replace hres := xlet_n hres eM_3
        refine lv_iload hx hb dX3_plan_41 (lv_at hl 5 rfl) ?_
        refine lv_iconst (v := 1) hx hb dX3_plan_43 (by decide) ?_
        refine lv_icmp_le (tgt := 56) hx hb dX3_plan_44 (by decide) (fun c_4 => ?_) (fun c_4 => ?_)
        · replace hres := hres.trans (if_pos c_4)
          obtain ⟨x5_5, ex5_5⟩ : ∃ z_ : Int32, z_ = day + (-1) := ⟨_, rfl⟩
          replace hres := xlet_n hres ex5_5
          refine lv_iinc (v := x5_5) (lv' := [(5, .int x5_5), (0, .ref (xad g 11 0)), (1, .ref (xad g 2 0)), (2, .int town), (3, .int z), (4, .int days)]) hx hb dX3_plan_56 hl (k := 5) rfl (by rw [ex5_5]; rfl) (by decide) rfl (fun ls hl => ?_)
          refine lv_goto (tgt := 30) hx hb dX3_plan_59 (by decide) ?_
          exact ih x5_5 M_3 _ _ _ kx (ob_X3_plan_30_mu_5 nb nn town z days M hp0 hp1 hp2 n day N_ hmu hinv c_1 M_3 eM_3 c_4 x5_5 ex5_5) (ob_X3_plan_30_inv_5 nb nn town z days M hp0 hp1 hp2 n day N_ hmu hinv c_1 M_3 eM_3 c_4 x5_5 ex5_5) hres hP hS (lv_sub hl [1, 2, 3, 4, 5, 0] rfl) hex
        · replace hres := hres.trans (if_neg c_4)
          refine lv_aload_n hx hb dX3_plan_47 rfl (lv_at hl 0 rfl) ?_
          refine lv_aload_n hx hb dX3_plan_48 rfl (lv_at hl 1 rfl) ?_
          refine lv_iload hx hb dX3_plan_49 (lv_at hl 5 rfl) ?_
          refine lv_iconst (v := 1) hx hb dX3_plan_51 (by decide) ?_
          refine lv_isub hx hb dX3_plan_52 ?_
          refine x_callVv (As := [.ref (xad g 2 0), .int (day - 1)]) S hK hAm hD hP hS mt_X3_planEvenings wd_961 ⟨by decide, by decide⟩ (hL 11 0 (xe_11 nb nn)) (xc11 g 0) rfl (c_X3_planEvenings l nb nn g L M_3 hD hL (day - 1) (ob_X3_plan_53_p0 nb nn town z days M hp0 hp1 hp2 n day N_ hmu hinv c_1 M_3 eM_3 c_4)) rfl hl.1 (Nat.le_of_ble_eq_true rfl) ⟨Nat.zero_le _, Nat.zero_le _⟩ dX3_plan_53 rfl (fun M_7 H locs eM_7 hP hS => ?_)
          replace hres := xlet_n hres eM_7
          obtain ⟨x5_8, ex5_8⟩ : ∃ z_ : Int32, z_ = day + (-1) := ⟨_, rfl⟩
          replace hres := xlet_n hres ex5_8
          refine lv_iinc (v := x5_8) (lv' := [(5, .int x5_8), (0, .ref (xad g 11 0)), (1, .ref (xad g 2 0)), (2, .int town), (3, .int z), (4, .int days)]) hx hb dX3_plan_56 hl (k := 5) rfl (by rw [ex5_8]; rfl) (by decide) rfl (fun ls hl => ?_)
          refine lv_goto (tgt := 30) hx hb dX3_plan_59 (by decide) ?_
          exact ih x5_8 M_7 _ _ _ kx (ob_X3_plan_30_mu_8 nb nn town z days M hp0 hp1 hp2 n day N_ hmu hinv c_1 M_3 eM_3 c_4 M_7 eM_7 x5_8 ex5_8) (ob_X3_plan_30_inv_8 nb nn town z days M hp0 hp1 hp2 n day N_ hmu hinv c_1 M_3 eM_3 c_4 M_7 eM_7 x5_8 ex5_8) hres hP hS (lv_sub hl [1, 2, 3, 4, 5, 0] rfl) hex
  have hres := hF
  rw [f_X3_plan] at hres
  refine lv_aload_n hx hb dX3_plan_0 rfl (lv_at hl 0 rfl) ?_
  refine lv_iload_n hx hb dX3_plan_1 rfl (lv_at hl 3 rfl) ?_
  refine lv_bipush (v := 8) hx hb dX3_plan_2 (by decide) ?_
  refine x_math hx hb hml hl.1 hts hown wd_940 wd_69 wd_70 wd_71 (by decide) (Nat.le_of_ble_eq_true rfl) ⟨Nat.zero_le _, Nat.zero_le _⟩ dX3_plan_4 ?_
  refine lv_topi (fun v_9 ev_9 => ?_)
  replace hres := xlet_n hres ev_9
  refine pf_RX3_21 hx hb hts hown hK hP hD hS (hL 11 0 (xe_11 nb nn)) dX3_plan_7 (fun H locs hP hS => ?_)
  obtain ⟨M_10, eM_10⟩ : ∃ z_ : xM, z_ = xup M 11 0 3 v_9 := ⟨_, rfl⟩
  rw [← eM_10] at hP
  replace hres := xlet_n hres eM_10
  refine lv_aload_n hx hb dX3_plan_10 rfl (lv_at hl 0 rfl) ?_
  refine lv_iconst (v := 1) hx hb dX3_plan_11 (by decide) ?_
  refine lv_aload_n hx hb dX3_plan_12 rfl (lv_at hl 0 rfl) ?_
  refine gf_RX3_21 hx hb hts hown hK hP (hL 11 0 (xe_11 nb nn)) dX3_plan_13 ?_
  refine lv_ishl hx hb dX3_plan_16 ?_
  refine lv_topi (fun v_11 ev_11 => ?_)
  replace hres := xlet_n hres ev_11
  refine pf_RX3_25 hx hb hts hown hK hP hD hS (hL 11 0 (xe_11 nb nn)) dX3_plan_17 (fun H locs hP hS => ?_)
  obtain ⟨M_12, eM_12⟩ : ∃ z_ : xM, z_ = xup M_10 11 0 4 v_11 := ⟨_, rfl⟩
  rw [← eM_12] at hP
  replace hres := xlet_n hres eM_12
  refine lv_aload_n hx hb dX3_plan_20 rfl (lv_at hl 0 rfl) ?_
  refine x_callVv (As := []) S hK hAm hD hP hS mt_X3_endTheWay wd_941 ⟨by decide, by decide⟩ (hL 11 0 (xe_11 nb nn)) (xc11 g 0) rfl (c_X3_endTheWay l nb nn g L M_12 hD hL  (ob_X3_plan_21_p0 nb nn town z days M hp0 hp1 hp2 v_9 ev_9 M_10 eM_10 v_11 ev_11 M_12 eM_12)) rfl hl.1 (Nat.le_of_ble_eq_true rfl) ⟨Nat.zero_le _, Nat.zero_le _⟩ dX3_plan_21 rfl (fun M_14 H locs eM_14 hP hS => ?_)
  replace hres := xlet_n hres eM_14
  refine lv_iload hx hb dX3_plan_24 (lv_at hl 4 rfl) ?_
  refine lv_iconst (v := 1) hx hb dX3_plan_26 (by decide) ?_
  refine lv_isub hx hb dX3_plan_27 ?_
  refine lv_topi (fun x5_15 ex5_15 => ?_)
  replace hres := xlet_n hres ex5_15
  refine lv_istore (lv' := [(5, .int x5_15), (0, .ref (xad g 11 0)), (1, .ref (xad g 2 0)), (2, .int town), (3, .int z), (4, .int days)]) hx hb dX3_plan_28 hl (by decide) rfl (fun ls hl => ?_)
  refine k_30 (xmu 0 x5_15 + 1) x5_15 M_14 _ _ _ _ (Nat.lt_succ_self _) (ob_X3_plan_30_ini_15 nb nn town z days M hp0 hp1 hp2 v_9 ev_9 M_10 eM_10 v_11 ev_11 M_12 eM_12 M_14 eM_14 x5_15 ex5_15) hres hP hS (lv_sub hl [1, 2, 3, 4, 5, 0] rfl) ?_
  clear hres hP hS hl
  intro day_16 M_17 H locs ls hiv_17 hres hP hS hl
  refine lv_aload_n hx hb dX3_plan_62 rfl (lv_at hl 0 rfl) ?_
  refine lv_aload_n hx hb dX3_plan_63 rfl (lv_at hl 1 rfl) ?_
  refine lv_iload_n hx hb dX3_plan_64 rfl (lv_at hl 2 rfl) ?_
  refine lv_iload hx hb dX3_plan_65 (lv_at hl 4 rfl) ?_
  refine lv_iconst (v := 1) hx hb dX3_plan_67 (by decide) ?_
  refine lv_icmp_le (tgt := 75) hx hb dX3_plan_68 (by decide) (fun c_18 => ?_) (fun c_18 => ?_)
  · replace hres := hres.trans (if_pos c_18)
    refine lv_iconst (v := 0) hx hb dX3_plan_75 (by decide) ?_
    refine x_callVv (As := [.ref (xad g 2 0), .int town, .int 0]) S hK hAm hD hP hS mt_X3_chooseFirst wd_970 ⟨by decide, by decide⟩ (hL 11 0 (xe_11 nb nn)) (xc11 g 0) rfl (c_X3_chooseFirst l nb nn g L M_17 hD hL town 0 (ob_X3_plan_76_p0 nb nn town z days M hp0 hp1 hp2 v_9 ev_9 M_10 eM_10 v_11 ev_11 M_12 eM_12 M_14 eM_14 x5_15 ex5_15 day_16 M_17 hiv_17 c_18) (ob_X3_plan_76_p1 nb nn town z days M hp0 hp1 hp2 v_9 ev_9 M_10 eM_10 v_11 ev_11 M_12 eM_12 M_14 eM_14 x5_15 ex5_15 day_16 M_17 hiv_17 c_18) (ob_X3_plan_76_p2 nb nn town z days M hp0 hp1 hp2 v_9 ev_9 M_10 eM_10 v_11 ev_11 M_12 eM_12 M_14 eM_14 x5_15 ex5_15 day_16 M_17 hiv_17 c_18)) rfl hl.1 (Nat.le_of_ble_eq_true rfl) ⟨Nat.zero_le _, Nat.zero_le _⟩ dX3_plan_76 rfl (fun M_20 H locs eM_20 hP hS => ?_)
    replace hres := xlet_n hres eM_20
    exact x_retv hx hb hr hlk hP hS (hres.symm.trans hF) dX3_plan_79
  · replace hres := hres.trans (if_neg c_18)
    refine lv_iconst (v := 1) hx hb dX3_plan_71 (by decide) ?_
    refine lv_goto (tgt := 76) hx hb dX3_plan_72 (by decide) ?_
    refine x_callVv (As := [.ref (xad g 2 0), .int town, .int 1]) S hK hAm hD hP hS mt_X3_chooseFirst wd_970 ⟨by decide, by decide⟩ (hL 11 0 (xe_11 nb nn)) (xc11 g 0) rfl (c_X3_chooseFirst l nb nn g L M_17 hD hL town 1 (ob_X3_plan_76_p0_2 nb nn town z days M hp0 hp1 hp2 v_9 ev_9 M_10 eM_10 v_11 ev_11 M_12 eM_12 M_14 eM_14 x5_15 ex5_15 day_16 M_17 hiv_17 c_18) (ob_X3_plan_76_p1_2 nb nn town z days M hp0 hp1 hp2 v_9 ev_9 M_10 eM_10 v_11 ev_11 M_12 eM_12 M_14 eM_14 x5_15 ex5_15 day_16 M_17 hiv_17 c_18) (ob_X3_plan_76_p2_2 nb nn town z days M hp0 hp1 hp2 v_9 ev_9 M_10 eM_10 v_11 ev_11 M_12 eM_12 M_14 eM_14 x5_15 ex5_15 day_16 M_17 hiv_17 c_18)) rfl hl.1 (Nat.le_of_ble_eq_true rfl) ⟨Nat.zero_le _, Nat.zero_le _⟩ dX3_plan_76 rfl (fun M_22 H locs eM_22 hP hS => ?_)
    replace hres := xlet_n hres eM_22
    exact x_retv hx hb hr hlk hP hS (hres.symm.trans hF) dX3_plan_79
set_option maxHeartbeats 4000000 in
set_option maxRecDepth 100000 in
theorem c_X10_sheetOf (l : Launch) (nb nn : Nat) (g : xG) (L : List (Nat × Nat)) (M : xM) (hD : xD g L) (hL : xEL nb nn L) (q : Int32) (hp0 : xHS M) : xCq l yX10_sheetOf cX10_sheetOf 2 (some (.object "NoteCounter$Sheet")) 1 g L M [.ref (xad g 0 0), .int q] (fun r u => r = (f_X10_sheetOf q M).map (xad g 24) ∧ u = M) := by
  intro sz
  refine x_beg (by decide +kernel) rfl ?_
  intro p e s m args below meth c ls hsz hB
  subst hsz
  obtain ⟨hx, hb, hml, hown, hts, hr, hlk, hK, hAm, hP, hl⟩ := hB
  have S : CallFix p m c cX10_sheetOf 2 s args (xws yX10_sheetOf cX10_sheetOf 2 (some (.object "NoteCounter$Sheet"))) RX10 := ⟨hx, hb, hml, hown, hts⟩
  have hown : s.vm.findClass RX10 = some m.cls := hown
  have hl : lv_has ls 2 [(0, .ref (xad g 0 0)), (1, .int q)] := hl
  have hS : va_S (xA g L s.heap.size) s.heap s.heap [] := va_S.rf
  obtain ⟨F, hF⟩ : ∃ F, F = f_X10_sheetOf q M := ⟨_, rfl⟩
  have hres := hF
  rw [f_X10_sheetOf] at hres
  refine lv_iload_n hx hb dX10_sheetOf_0 rfl (lv_at hl 1 rfl) ?_
  refine lv_bipush (v := 7) hx hb dX10_sheetOf_1 (by decide) ?_
  refine x_callSi (As := [.int q, .int 7]) S hK hAm hD hP hS mt_X10_isUpTo wd_179 ⟨by decide, by decide⟩ (c_X10_isUpTo l nb nn g L M hD hL q 7) rfl hl.1 (Nat.le_of_ble_eq_true rfl) ⟨Nat.zero_le _, Nat.zero_le _⟩ dX10_sheetOf_3 rfl (fun r_1 u H locs hp_ hP hS => ?_)
  obtain ⟨er_1, eu_⟩ := hp_
  rw [eu_] at hP
  clear eu_
  replace hres := xlet_n hres er_1
  refine lv_if_eq (tgt := 18) hx hb dX10_sheetOf_6 (by decide) (fun c_2 => ?_) (fun c_2 => ?_)
  · replace hres := hres.trans (if_pos c_2)
    refine lv_null hx hb dX10_sheetOf_18 ?_
    exact x_retq (v := none) hx hb hr hlk hP hS rfl ⟨by rw [← hF, hres]; rfl, rfl⟩ dX10_sheetOf_19
  · replace hres := hres.trans (if_neg c_2)
    refine lv_aload_n hx hb dX10_sheetOf_9 rfl (lv_at hl 0 rfl) ?_
    refine gf_RX10_11 hx hb hts hown hK hP (hL 0 0 (xe_0 nb nn)) dX10_sheetOf_10 ?_
    refine lv_iload_n hx hb dX10_sheetOf_13 rfl (lv_at hl 1 rfl) ?_
    refine x_aald hx hb hK hP (hL 1 0 (xe_1 nb nn)) (xc1 g 0) rfl (ob_X10_sheetOf_14_in nb nn q M hp0 r_1 er_1 c_2) (ob_X10_sheetOf_14_nn nb nn q M hp0 r_1 er_1 c_2) dX10_sheetOf_14 ?_
    refine lv_goto (tgt := 19) hx hb dX10_sheetOf_15 (by decide) ?_
    exact x_retq (v := some (xad g 24 (q.toNatClampNeg))) hx hb hr hlk hP hS rfl ⟨by rw [← hF, hres]; rfl, rfl⟩ dX10_sheetOf_19
set_option maxHeartbeats 4000000 in
set_option maxRecDepth 100000 in
theorem c_X10_traderOf (l : Launch) (nb nn : Nat) (g : xG) (L : List (Nat × Nat)) (M : xM) (hD : xD g L) (hL : xEL nb nn L) (q : Int32) (hp0 : xHT M) : xCq l yX10_traderOf cX10_traderOf 2 (some (.object "NoteCounter$Trader")) 1 g L M [.ref (xad g 0 0), .int q] (fun r u => r = (f_X10_traderOf q M).map (xad g 26) ∧ u = M) := by
  intro sz
  refine x_beg (by decide +kernel) rfl ?_
  intro p e s m args below meth c ls hsz hB
  subst hsz
  obtain ⟨hx, hb, hml, hown, hts, hr, hlk, hK, hAm, hP, hl⟩ := hB
  have S : CallFix p m c cX10_traderOf 2 s args (xws yX10_traderOf cX10_traderOf 2 (some (.object "NoteCounter$Trader"))) RX10 := ⟨hx, hb, hml, hown, hts⟩
  have hown : s.vm.findClass RX10 = some m.cls := hown
  have hl : lv_has ls 2 [(0, .ref (xad g 0 0)), (1, .int q)] := hl
  have hS : va_S (xA g L s.heap.size) s.heap s.heap [] := va_S.rf
  obtain ⟨F, hF⟩ : ∃ F, F = f_X10_traderOf q M := ⟨_, rfl⟩
  have hres := hF
  rw [f_X10_traderOf] at hres
  refine lv_iload_n hx hb dX10_traderOf_0 rfl (lv_at hl 1 rfl) ?_
  refine lv_bipush (v := 7) hx hb dX10_traderOf_1 (by decide) ?_
  refine x_callSi (As := [.int q, .int 7]) S hK hAm hD hP hS mt_X10_isUpTo wd_179 ⟨by decide, by decide⟩ (c_X10_isUpTo l nb nn g L M hD hL q 7) rfl hl.1 (Nat.le_of_ble_eq_true rfl) ⟨Nat.zero_le _, Nat.zero_le _⟩ dX10_traderOf_3 rfl (fun r_1 u H locs hp_ hP hS => ?_)
  obtain ⟨er_1, eu_⟩ := hp_
  rw [eu_] at hP
  clear eu_
  replace hres := xlet_n hres er_1
  refine lv_if_eq (tgt := 18) hx hb dX10_traderOf_6 (by decide) (fun c_2 => ?_) (fun c_2 => ?_)
  · replace hres := hres.trans (if_pos c_2)
    refine lv_null hx hb dX10_traderOf_18 ?_
    exact x_retq (v := none) hx hb hr hlk hP hS rfl ⟨by rw [← hF, hres]; rfl, rfl⟩ dX10_traderOf_19
  · replace hres := hres.trans (if_neg c_2)
    refine lv_aload_n hx hb dX10_traderOf_9 rfl (lv_at hl 0 rfl) ?_
    refine gf_RX10_59 hx hb hts hown hK hP (hL 0 0 (xe_0 nb nn)) dX10_traderOf_10 ?_
    refine lv_iload_n hx hb dX10_traderOf_13 rfl (lv_at hl 1 rfl) ?_
    refine x_aald hx hb hK hP (hL 8 0 (xe_8 nb nn)) (xc8 g 0) rfl (ob_X10_traderOf_14_in nb nn q M hp0 r_1 er_1 c_2) (ob_X10_traderOf_14_nn nb nn q M hp0 r_1 er_1 c_2) dX10_traderOf_14 ?_
    refine lv_goto (tgt := 19) hx hb dX10_traderOf_15 (by decide) ?_
    exact x_retq (v := some (xad g 26 (q.toNatClampNeg))) hx hb hr hlk hP hS rfl ⟨by rw [← hF, hres]; rfl, rfl⟩ dX10_traderOf_19
set_option maxHeartbeats 4000000 in
set_option maxRecDepth 100000 in
theorem c_X10_bankOf (l : Launch) (nb nn : Nat) (g : xG) (L : List (Nat × Nat)) (M : xM) (hD : xD g L) (hL : xEL nb nn L) (q : Int32) (hp0 : xHB nb M) : xCq l yX10_bankOf cX10_bankOf 2 (some (.object "NoteCounter$Bank")) 1 g L M [.ref (xad g 0 0), .int q] (fun r u => r = (f_X10_bankOf q M).map (xad g 27) ∧ u = M) := by
  intro sz
  refine x_beg (by decide +kernel) rfl ?_
  intro p e s m args below meth c ls hsz hB
  subst hsz
  obtain ⟨hx, hb, hml, hown, hts, hr, hlk, hK, hAm, hP, hl⟩ := hB
  have S : CallFix p m c cX10_bankOf 2 s args (xws yX10_bankOf cX10_bankOf 2 (some (.object "NoteCounter$Bank"))) RX10 := ⟨hx, hb, hml, hown, hts⟩
  have hown : s.vm.findClass RX10 = some m.cls := hown
  have hl : lv_has ls 2 [(0, .ref (xad g 0 0)), (1, .int q)] := hl
  have hS : va_S (xA g L s.heap.size) s.heap s.heap [] := va_S.rf
  obtain ⟨F, hF⟩ : ∃ F, F = f_X10_bankOf q M := ⟨_, rfl⟩
  have hres := hF
  rw [f_X10_bankOf] at hres
  refine lv_iload_n hx hb dX10_bankOf_0 rfl (lv_at hl 1 rfl) ?_
  refine lv_aload_n hx hb dX10_bankOf_1 rfl (lv_at hl 0 rfl) ?_
  refine gf_RX10_84 hx hb hts hown hK hP (hL 0 0 (xe_0 nb nn)) dX10_bankOf_2 ?_
  refine lv_iconst (v := 1) hx hb dX10_bankOf_5 (by decide) ?_
  refine lv_isub hx hb dX10_bankOf_6 ?_
  refine x_callSi (As := [.int q, .int ((M 0 0 12) - 1)]) S hK hAm hD hP hS mt_X10_isUpTo wd_179 ⟨by decide, by decide⟩ (c_X10_isUpTo l nb nn g L M hD hL q ((M 0 0 12) - 1)) rfl hl.1 (Nat.le_of_ble_eq_true rfl) ⟨Nat.zero_le _, Nat.zero_le _⟩ dX10_bankOf_7 rfl (fun r_1 u H locs hp_ hP hS => ?_)
  obtain ⟨er_1, eu_⟩ := hp_
  rw [eu_] at hP
  clear eu_
  replace hres := xlet_n hres er_1
  refine lv_if_eq (tgt := 28) hx hb dX10_bankOf_10 (by decide) (fun c_2 => ?_) (fun c_2 => ?_)
  · replace hres := hres.trans (if_pos c_2)
    refine lv_null hx hb dX10_bankOf_28 ?_
    exact x_retq (v := none) hx hb hr hlk hP hS rfl ⟨by rw [← hF, hres]; rfl, rfl⟩ dX10_bankOf_29
  · replace hres := hres.trans (if_neg c_2)
    refine lv_iload_n hx hb dX10_bankOf_13 rfl (lv_at hl 1 rfl) ?_
    refine lv_bipush (v := 8) hx hb dX10_bankOf_14 (by decide) ?_
    refine lv_icmp_ge (tgt := 28) hx hb dX10_bankOf_16 (by decide) (fun c_3 => ?_) (fun c_3 => ?_)
    · replace hres := hres.trans (if_pos c_3)
      refine lv_null hx hb dX10_bankOf_28 ?_
      exact x_retq (v := none) hx hb hr hlk hP hS rfl ⟨by rw [← hF, hres]; rfl, rfl⟩ dX10_bankOf_29
    · replace hres := hres.trans (if_neg c_3)
      refine lv_aload_n hx hb dX10_bankOf_19 rfl (lv_at hl 0 rfl) ?_
      refine gf_RX10_24 hx hb hts hown hK hP (hL 0 0 (xe_0 nb nn)) dX10_bankOf_20 ?_
      refine lv_iload_n hx hb dX10_bankOf_23 rfl (lv_at hl 1 rfl) ?_
      refine x_aald hx hb hK hP (hL 3 0 (xe_3 nb nn)) (xc3 g 0) rfl (ob_X10_bankOf_24_in nb nn q M hp0 r_1 er_1 c_2 c_3) (ob_X10_bankOf_24_nn nb nn q M hp0 r_1 er_1 c_2 c_3) dX10_bankOf_24 ?_
      refine lv_goto (tgt := 29) hx hb dX10_bankOf_25 (by decide) ?_
      exact x_retq (v := some (xad g 27 (q.toNatClampNeg))) hx hb hr hlk hP hS rfl ⟨by rw [← hF, hres]; rfl, rfl⟩ dX10_bankOf_29
set_option maxHeartbeats 4000000 in
set_option maxRecDepth 100000 in
theorem c_X10_noteOf (l : Launch) (nb nn : Nat) (g : xG) (L : List (Nat × Nat)) (M : xM) (hD : xD g L) (hL : xEL nb nn L) (q : Int32) (hp0 : xHN nn M) : xCq l yX10_noteOf cX10_noteOf 2 (some (.object "NoteCounter$Note")) 1 g L M [.ref (xad g 0 0), .int q] (fun r u => r = (f_X10_noteOf q M).map (xad g 29) ∧ u = M) := by
  intro sz
  refine x_beg (by decide +kernel) rfl ?_
  intro p e s m args below meth c ls hsz hB
  subst hsz
  obtain ⟨hx, hb, hml, hown, hts, hr, hlk, hK, hAm, hP, hl⟩ := hB
  have S : CallFix p m c cX10_noteOf 2 s args (xws yX10_noteOf cX10_noteOf 2 (some (.object "NoteCounter$Note"))) RX10 := ⟨hx, hb, hml, hown, hts⟩
  have hown : s.vm.findClass RX10 = some m.cls := hown
  have hl : lv_has ls 2 [(0, .ref (xad g 0 0)), (1, .int q)] := hl
  have hS : va_S (xA g L s.heap.size) s.heap s.heap [] := va_S.rf
  obtain ⟨F, hF⟩ : ∃ F, F = f_X10_noteOf q M := ⟨_, rfl⟩
  have hres := hF
  rw [f_X10_noteOf] at hres
  refine lv_iload_n hx hb dX10_noteOf_0 rfl (lv_at hl 1 rfl) ?_
  refine lv_aload_n hx hb dX10_noteOf_1 rfl (lv_at hl 0 rfl) ?_
  refine gf_RX10_88 hx hb hts hown hK hP (hL 0 0 (xe_0 nb nn)) dX10_noteOf_2 ?_
  refine lv_iconst (v := 1) hx hb dX10_noteOf_5 (by decide) ?_
  refine lv_isub hx hb dX10_noteOf_6 ?_
  refine x_callSi (As := [.int q, .int ((M 0 0 13) - 1)]) S hK hAm hD hP hS mt_X10_isUpTo wd_179 ⟨by decide, by decide⟩ (c_X10_isUpTo l nb nn g L M hD hL q ((M 0 0 13) - 1)) rfl hl.1 (Nat.le_of_ble_eq_true rfl) ⟨Nat.zero_le _, Nat.zero_le _⟩ dX10_noteOf_7 rfl (fun r_1 u H locs hp_ hP hS => ?_)
  obtain ⟨er_1, eu_⟩ := hp_
  rw [eu_] at hP
  clear eu_
  replace hres := xlet_n hres er_1
  refine lv_if_eq (tgt := 28) hx hb dX10_noteOf_10 (by decide) (fun c_2 => ?_) (fun c_2 => ?_)
  · replace hres := hres.trans (if_pos c_2)
    refine lv_null hx hb dX10_noteOf_28 ?_
    exact x_retq (v := none) hx hb hr hlk hP hS rfl ⟨by rw [← hF, hres]; rfl, rfl⟩ dX10_noteOf_29
  · replace hres := hres.trans (if_neg c_2)
    refine lv_iload_n hx hb dX10_noteOf_13 rfl (lv_at hl 1 rfl) ?_
    refine lv_bipush (v := 24) hx hb dX10_noteOf_14 (by decide) ?_
    refine lv_icmp_ge (tgt := 28) hx hb dX10_noteOf_16 (by decide) (fun c_3 => ?_) (fun c_3 => ?_)
    · replace hres := hres.trans (if_pos c_3)
      refine lv_null hx hb dX10_noteOf_28 ?_
      exact x_retq (v := none) hx hb hr hlk hP hS rfl ⟨by rw [← hF, hres]; rfl, rfl⟩ dX10_noteOf_29
    · replace hres := hres.trans (if_neg c_3)
      refine lv_aload_n hx hb dX10_noteOf_19 rfl (lv_at hl 0 rfl) ?_
      refine gf_RX10_53 hx hb hts hown hK hP (hL 0 0 (xe_0 nb nn)) dX10_noteOf_20 ?_
      refine lv_iload_n hx hb dX10_noteOf_23 rfl (lv_at hl 1 rfl) ?_
      refine x_aald hx hb hK hP (hL 7 0 (xe_7 nb nn)) (xc7 g 0) rfl (ob_X10_noteOf_24_in nb nn q M hp0 r_1 er_1 c_2 c_3) (ob_X10_noteOf_24_nn nb nn q M hp0 r_1 er_1 c_2 c_3) dX10_noteOf_24 ?_
      refine lv_goto (tgt := 29) hx hb dX10_noteOf_25 (by decide) ?_
      exact x_retq (v := some (xad g 29 (q.toNatClampNeg))) hx hb hr hlk hP hS rfl ⟨by rw [← hF, hres]; rfl, rfl⟩ dX10_noteOf_29
set_option maxHeartbeats 4000000 in
set_option maxRecDepth 100000 in
theorem c_X10_found (l : Launch) (nb nn : Nat) (g : xG) (L : List (Nat × Nat)) (M : xM) (hD : xD g L) (hL : xEL nb nn L) (finding : Int32)  : xCi l yX10_found cX10_found 2 (some .int) 0 g L M [.ref (xad g 0 0), .int finding] (fun r u => (r, u) = f_X10_found finding M) := by
  intro sz
  refine x_beg (by decide +kernel) rfl ?_
  intro p e s m args below meth c ls hsz hB
  subst hsz
  obtain ⟨hx, hb, hml, hown, hts, hr, hlk, hK, hAm, hP, hl⟩ := hB
  have S : CallFix p m c cX10_found 2 s args (xws yX10_found cX10_found 2 (some .int)) RX10 := ⟨hx, hb, hml, hown, hts⟩
  have hown : s.vm.findClass RX10 = some m.cls := hown
  have hl : lv_has ls 2 [(0, .ref (xad g 0 0)), (1, .int finding)] := hl
  have hS : va_S (xA g L s.heap.size) s.heap s.heap [] := va_S.rf
  obtain ⟨F, hF⟩ : ∃ F, F = f_X10_found finding M := ⟨_, rfl⟩
  have hres := hF
  rw [f_X10_found] at hres
  refine lv_aload_n hx hb dX10_found_0 rfl (lv_at hl 0 rfl) ?_
  refine lv_iload_n hx hb dX10_found_1 rfl (lv_at hl 1 rfl) ?_
  refine pf_RX10_97 hx hb hts hown hK hP hD hS (hL 0 0 (xe_0 nb nn)) dX10_found_2 (fun H locs hP hS => ?_)
  obtain ⟨M_1, eM_1⟩ : ∃ z_ : xM, z_ = xup M 0 0 16 finding := ⟨_, rfl⟩
  rw [← eM_1] at hP
  replace hres := xlet_n hres eM_1
  refine lv_ldcw (own := RX10) (v := (-1000010)) hx hb hown (hts _ (List.mem_cons_of_mem _ wd_186)) dX10_found_5 ?_
  refine lv_iload_n hx hb dX10_found_8 rfl (lv_at hl 1 rfl) ?_
  refine lv_isub hx hb dX10_found_9 ?_
  exact x_reti hx hb hr hlk hP hS (hres.symm.trans hF) dX10_found_10
set_option maxHeartbeats 4000000 in
set_option maxRecDepth 100000 in
theorem c_X10_foundNothing (l : Launch) (nb nn : Nat) (g : xG) (L : List (Nat × Nat)) (M : xM) (hD : xD g L) (hL : xEL nb nn L) (answer : Int32)  : xCi l yX10_foundNothing cX10_foundNothing 2 (some .int) 0 g L M [.ref (xad g 0 0), .int answer] (fun r u => (r, u) = f_X10_foundNothing answer M) := by
  intro sz
  refine x_beg (by decide +kernel) rfl ?_
  intro p e s m args below meth c ls hsz hB
  subst hsz
  obtain ⟨hx, hb, hml, hown, hts, hr, hlk, hK, hAm, hP, hl⟩ := hB
  have S : CallFix p m c cX10_foundNothing 2 s args (xws yX10_foundNothing cX10_foundNothing 2 (some .int)) RX10 := ⟨hx, hb, hml, hown, hts⟩
  have hown : s.vm.findClass RX10 = some m.cls := hown
  have hl : lv_has ls 2 [(0, .ref (xad g 0 0)), (1, .int answer)] := hl
  have hS : va_S (xA g L s.heap.size) s.heap s.heap [] := va_S.rf
  obtain ⟨F, hF⟩ : ∃ F, F = f_X10_foundNothing answer M := ⟨_, rfl⟩
  have hres := hF
  rw [f_X10_foundNothing] at hres
  refine lv_aload_n hx hb dX10_foundNothing_0 rfl (lv_at hl 0 rfl) ?_
  refine lv_iconst (v := 0) hx hb dX10_foundNothing_1 (by decide) ?_
  refine pf_RX10_97 hx hb hts hown hK hP hD hS (hL 0 0 (xe_0 nb nn)) dX10_foundNothing_2 (fun H locs hP hS => ?_)
  obtain ⟨M_1, eM_1⟩ : ∃ z_ : xM, z_ = xup M 0 0 16 0 := ⟨_, rfl⟩
  rw [← eM_1] at hP
  replace hres := xlet_n hres eM_1
  refine lv_iload_n hx hb dX10_foundNothing_5 rfl (lv_at hl 1 rfl) ?_
  exact x_reti hx hb hr hlk hP hS (hres.symm.trans hF) dX10_foundNothing_6
