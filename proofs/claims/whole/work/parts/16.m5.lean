def f_X11_offOf (town : Int32) (w : Int32) (b : Int32) (M : xM) : Int32 × xM :=
  xlet2 (f_X11_saidOf town w b 0 M) fun r_1 M_2 => if r_1 = (-1000000) then (0, M_2) else (r_1, M_2)
def f_X11_known (town : Int32) (w : Int32) (b : Int32) (what : Int32) (M : xM) : Int32 × xM :=
  xlet (xup M 40 0 0 0) fun M_1 => xlet (xb (f_X11_isTown town M_1)) fun r_2 => if r_2 = 0 then ((-1000001), M_1) else xlet (xb (f_X11_isWeek w M_1)) fun r_4 => if r_4 = 0 then ((-1000001), M_1) else xlet (xb (f_X11_isBank b M_1)) fun r_6 => if r_6 = 0 then ((-1000001), M_1) else xlet (xb (f_X11_in (what.toInt64) 0 2 M_1)) fun r_8 => if r_8 = 0 then ((-1000001), M_1) else if what = 0 then xlet2 (f_X11_offOf town w b M_1) fun r_16 M_17 => (r_16, M_17) else if what = 1 then xlet2 (f_X11_saidOf town w b 2 M_1) fun r_14 M_15 => (r_14, M_15) else xlet2 (f_X11_falsePlates town w b (-1000000) M_1) fun r_12 M_13 => (r_12, M_13)
def f_X11_looksLike (q : Int32) (town : Int32) (w : Int32) (M : xM) : Int32 × xM :=
  xlet (xb (f_X11_isFalse q M)) fun r_1 => if r_1 = 0 then xlet (M 81 0 q.toNatClampNeg) fun x4_3 => if (M 84 0 q.toNatClampNeg) = 0 then (1, M) else xlet2 (f_X11_falsePlates town w x4_3 (-1000000) M) fun r_5 M_6 => if r_5 ≤ 0 then (2, M_6) else xlet2 (f_X11_falsePlates town w x4_3 q M_6) fun r_8 M_9 => if r_8 = 0 then (1, M_9) else (2, M_9) else (0, M)
def f_X11_looks (q : Int32) (town : Int32) (w : Int32) (M : xM) : Int32 × xM :=
  xlet (xup M 40 0 0 0) fun M_1 => xlet (xb (f_X11_isNote q M_1)) fun r_2 => if r_2 = 0 then ((-1000001), M_1) else xlet (xb (f_X11_isTown town M_1)) fun r_4 => if r_4 = 0 then ((-1000001), M_1) else xlet (xb (f_X11_isWeek w M_1)) fun r_6 => if r_6 = 0 then ((-1000001), M_1) else xlet2 (f_X11_looksLike q town w M_1) fun r_8 M_9 => (r_8, M_9)
def f_X11_brings (k : Int32) (town : Int32) (M : xM) : Int32 :=
  (((M 82 0 (M 98 0 k.toNatClampNeg).toNatClampNeg) * (M 96 0 ((8 * town) + (M 81 0 (M 98 0 k.toNatClampNeg).toNatClampNeg)).toNatClampNeg)) / 100)
def f_X11_goesBy (day : Int32) (set_ : Int32) (town : Int32) (k : Int32) (z : Int32) (to : Int32) (M : xM) : Int32 :=
  if k = z then (0 + (M 97 0 (((1536 * (day - 1)) + (256 * to)) + set_).toNatClampNeg)) else xlet (set_ &&& ((1 <<< (k &&& 31)) ^^^ (-1))) fun x7_2 => xlet (f_X11_brings k town M) fun r_4 => (r_4 + (M 97 0 (((1536 * (day - 1)) + (256 * to)) + x7_2).toNatClampNeg))
def f_X11_rates_L92 (town : Int32) (sh : Int32) (i : Int32) (why : Int32) : Nat → Int32 → xM → (Int32 → xM → Int32 × xM) → Int32 × xM
  | 0, _, N_, _ => (0, N_)
  | n + 1, b, N_, kx => if 8 ≤ b then kx b N_ else xlet (N_ 54 0 (((60 * sh) + i) + b).toNatClampNeg) fun v_2 => xlet (xup N_ 96 0 ((8 * town) + b).toNatClampNeg v_2) fun M_3 => xlet (b + 1) fun x5_4 => f_X11_rates_L92 town sh i why n x5_4 M_3 kx
def f_X11_rates_L43 (town : Int32) (sh : Int32) (i : Int32) (why : Int32) (N_ : xM) : Nat → Int32 → (Int32 → Int32 × xM) → Int32 × xM
  | 0, _, _ => (0, N_)
  | n + 1, b, kx => if 8 ≤ b then kx b else xlet (xb (f_X11_in ((N_ 54 0 (((60 * sh) + i) + b).toNatClampNeg).toInt64) 0 100 N_)) fun r_6 => if r_6 = 0 then ((-1000001), N_) else xlet (b + 1) fun x5_8 => f_X11_rates_L43 town sh i why N_ n x5_8 kx
def f_X11_rates (town : Int32) (sh : Int32) (i : Int32) (M : xM) : Int32 × xM :=
  xlet (xup M 40 0 0 0) fun M_9 => xlet (xb (f_X11_isTown town M_9)) fun r_10 => if r_10 = 0 then ((-1000001), M_9) else xlet (xb (f_X11_isSheet sh M_9)) fun r_12 => if r_12 = 0 then ((-1000001), M_9) else xlet2 (f_X11_lookItems sh i 8 M_9) fun r_14 M_15 => if 0 ≤ r_14 then f_X11_rates_L43 town sh i r_14 M_15 (xmu (0 : Int32) 8 + 1) (0 : Int32) (fun b_17 => xlet (xup M_15 40 0 1 0) fun M_18 => f_X11_rates_L92 town sh i r_14 (xmu (0 : Int32) 8 + 1) (0 : Int32) M_18 (fun b_19 M_20 => (8, M_20))) else (r_14, M_15)
def f_X11_count_L149 (what : Int32) (N_ : xM) : Nat → Int32 → Int32 → (Int32 → Int32 → Int32 × xM) → Int32 × xM
  | 0, _, _, _ => (0, N_)
  | n + 1, z, k, kx => if (N_ 40 0 30) ≤ k then kx z k else if what = 5 then if (N_ 85 0 k.toNatClampNeg) = (-1000000) then xlet (z + 0) fun x2_15 => xlet (k + 1) fun x3_16 => f_X11_count_L149 what N_ n x2_15 x3_16 kx else xlet (z + 1) fun x2_17 => xlet (k + 1) fun x3_18 => f_X11_count_L149 what N_ n x2_17 x3_18 kx else if what = 6 then if (N_ 87 0 k.toNatClampNeg) = 0 then xlet (z + 0) fun x2_10 => xlet (k + 1) fun x3_11 => f_X11_count_L149 what N_ n x2_10 x3_11 kx else xlet (z + 1) fun x2_12 => xlet (k + 1) fun x3_13 => f_X11_count_L149 what N_ n x2_12 x3_13 kx else if (N_ 89 0 k.toNatClampNeg) = 0 then xlet (z + 0) fun x2_5 => xlet (k + 1) fun x3_6 => f_X11_count_L149 what N_ n x2_5 x3_6 kx else xlet (z + 1) fun x2_7 => xlet (k + 1) fun x3_8 => f_X11_count_L149 what N_ n x2_7 x3_8 kx
def f_X11_count_L104 (what : Int32) (N_ : xM) : Nat → Int32 → Int32 → (Int32 → Int32 → Int32 × xM) → Int32 × xM
  | 0, _, _, _ => (0, N_)
  | n + 1, z, k, kx => if (N_ 40 0 7) ≤ k then kx z k else if (N_ 61 0 k.toNatClampNeg) = 0 then xlet (z + 0) fun x2_21 => xlet (k + 1) fun x3_22 => f_X11_count_L104 what N_ n x2_21 x3_22 kx else xlet (z + 1) fun x2_23 => xlet (k + 1) fun x3_24 => f_X11_count_L104 what N_ n x2_23 x3_24 kx
def f_X11_count_L66 (what : Int32) (N_ : xM) : Nat → Int32 → Int32 → (Int32 → Int32 → Int32 × xM) → Int32 × xM
  | 0, _, _, _ => (0, N_)
  | n + 1, z, k, kx => if 8 ≤ k then kx z k else if (N_ 52 0 k.toNatClampNeg) < 0 then xlet (z + 0) fun x2_27 => xlet (k + 1) fun x3_28 => f_X11_count_L66 what N_ n x2_27 x3_28 kx else xlet (z + 1) fun x2_29 => xlet (k + 1) fun x3_30 => f_X11_count_L66 what N_ n x2_29 x3_30 kx
def f_X11_count (what : Int32) (M : xM) : Int32 × xM :=
  xlet (xup M 40 0 0 0) fun M_31 => if what = 0 then f_X11_count_L66 what M_31 (xmu (0 : Int32) 8 + 1) (0 : Int32) (0 : Int32) (fun z_33 k_34 => (z_33, M_31)) else if what = 1 then ((M_31 40 0 7), M_31) else if what = 2 then f_X11_count_L104 what M_31 (xmu (0 : Int32) (M_31 40 0 7) + 1) (0 : Int32) (0 : Int32) (fun z_37 k_38 => (z_37, M_31)) else if what = 3 then ((M_31 40 0 14), M_31) else if what = 4 then ((M_31 40 0 30), M_31) else if what = 5 then f_X11_count_L149 what M_31 (xmu (0 : Int32) (M_31 40 0 30) + 1) (0 : Int32) (0 : Int32) (fun z_42 k_43 => (z_42, M_31)) else if what = 6 then f_X11_count_L149 what M_31 (xmu (0 : Int32) (M_31 40 0 30) + 1) (0 : Int32) (0 : Int32) (fun z_45 k_46 => (z_45, M_31)) else if what = 7 then f_X11_count_L149 what M_31 (xmu (0 : Int32) (M_31 40 0 30) + 1) (0 : Int32) (0 : Int32) (fun z_48 k_49 => (z_48, M_31)) else if what = 8 then ((M_31 40 0 21), M_31) else if what = 9 then ((M_31 40 0 13), M_31) else ((-1000001), M_31)
theorem ob_X11_offOf_5_p0 (nb nn : Nat) (town : Int32) (w : Int32) (b : Int32) (M : xM) (hp0 : 0 ≤ town) (hp1 : town ≤ 5) (hp2 : mI M) : 0 ≤ town := by
  subst_vars
  grind [mI, said2, fals2, bw2, ff2, xup_at, isTown_eq, isWeek_eq, isBank_eq, isNote_eq, isTrader_eq, in_0_1, in_0_2, in_1_999, xb]
theorem ob_X11_offOf_5_p1 (nb nn : Nat) (town : Int32) (w : Int32) (b : Int32) (M : xM) (hp0 : 0 ≤ town) (hp1 : town ≤ 5) (hp2 : mI M) : town ≤ 5 := by
  subst_vars
  grind [mI, said2, fals2, bw2, ff2, xup_at, isTown_eq, isWeek_eq, isBank_eq, isNote_eq, isTrader_eq, in_0_1, in_0_2, in_1_999, xb]
theorem ob_X11_offOf_5_p2 (nb nn : Nat) (town : Int32) (w : Int32) (b : Int32) (M : xM) (hp0 : 0 ≤ town) (hp1 : town ≤ 5) (hp2 : mI M) : 0 ≤ M 40 0 14 := by
  subst_vars
  grind [mI, said2, fals2, bw2, ff2, xup_at, isTown_eq, isWeek_eq, isBank_eq, isNote_eq, isTrader_eq, in_0_1, in_0_2, in_1_999, xb]
theorem ob_X11_offOf_5_p3 (nb nn : Nat) (town : Int32) (w : Int32) (b : Int32) (M : xM) (hp0 : 0 ≤ town) (hp1 : town ≤ 5) (hp2 : mI M) : M 40 0 14 ≤ 40 := by
  subst_vars
  grind [mI, said2, fals2, bw2, ff2, xup_at, isTown_eq, isWeek_eq, isBank_eq, isNote_eq, isTrader_eq, in_0_1, in_0_2, in_1_999, xb]
theorem ob_X11_known_81_p0 (nb nn : Nat) (town : Int32) (w : Int32) (b : Int32) (what : Int32) (M : xM) (hp0 : mI M) (M_1 : xM) (eM_1 : M_1 = xup M 40 0 0 0) (r_2 : Int32) (er_2 : r_2 = xb (f_X11_isTown town M_1)) (c_3 : ¬ r_2 = 0) (r_4 : Int32) (er_4 : r_4 = xb (f_X11_isWeek w M_1)) (c_5 : ¬ r_4 = 0) (r_6 : Int32) (er_6 : r_6 = xb (f_X11_isBank b M_1)) (c_7 : ¬ r_6 = 0) (r_8 : Int32) (er_8 : r_8 = xb (f_X11_in (what.toInt64) 0 2 M_1)) (c_9 : ¬ r_8 = 0) (c_10 : ¬ what = 0) (c_11 : ¬ what = 1) : 0 ≤ town := by
  subst_vars
  grind [mI, said2, fals2, bw2, ff2, xup_at, isTown_eq, isWeek_eq, isBank_eq, isNote_eq, isTrader_eq, in_0_1, in_0_2, in_1_999, xb]
theorem ob_X11_known_81_p1 (nb nn : Nat) (town : Int32) (w : Int32) (b : Int32) (what : Int32) (M : xM) (hp0 : mI M) (M_1 : xM) (eM_1 : M_1 = xup M 40 0 0 0) (r_2 : Int32) (er_2 : r_2 = xb (f_X11_isTown town M_1)) (c_3 : ¬ r_2 = 0) (r_4 : Int32) (er_4 : r_4 = xb (f_X11_isWeek w M_1)) (c_5 : ¬ r_4 = 0) (r_6 : Int32) (er_6 : r_6 = xb (f_X11_isBank b M_1)) (c_7 : ¬ r_6 = 0) (r_8 : Int32) (er_8 : r_8 = xb (f_X11_in (what.toInt64) 0 2 M_1)) (c_9 : ¬ r_8 = 0) (c_10 : ¬ what = 0) (c_11 : ¬ what = 1) : town ≤ 5 := by
  subst_vars
  grind [mI, said2, fals2, bw2, ff2, xup_at, isTown_eq, isWeek_eq, isBank_eq, isNote_eq, isTrader_eq, in_0_1, in_0_2, in_1_999, xb]
theorem ob_X11_known_81_p2 (nb nn : Nat) (town : Int32) (w : Int32) (b : Int32) (what : Int32) (M : xM) (hp0 : mI M) (M_1 : xM) (eM_1 : M_1 = xup M 40 0 0 0) (r_2 : Int32) (er_2 : r_2 = xb (f_X11_isTown town M_1)) (c_3 : ¬ r_2 = 0) (r_4 : Int32) (er_4 : r_4 = xb (f_X11_isWeek w M_1)) (c_5 : ¬ r_4 = 0) (r_6 : Int32) (er_6 : r_6 = xb (f_X11_isBank b M_1)) (c_7 : ¬ r_6 = 0) (r_8 : Int32) (er_8 : r_8 = xb (f_X11_in (what.toInt64) 0 2 M_1)) (c_9 : ¬ r_8 = 0) (c_10 : ¬ what = 0) (c_11 : ¬ what = 1) : 0 ≤ M_1 40 0 14 := by
  subst_vars
  grind [mI, said2, fals2, bw2, ff2, xup_at, isTown_eq, isWeek_eq, isBank_eq, isNote_eq, isTrader_eq, in_0_1, in_0_2, in_1_999, xb]
theorem ob_X11_known_81_p3 (nb nn : Nat) (town : Int32) (w : Int32) (b : Int32) (what : Int32) (M : xM) (hp0 : mI M) (M_1 : xM) (eM_1 : M_1 = xup M 40 0 0 0) (r_2 : Int32) (er_2 : r_2 = xb (f_X11_isTown town M_1)) (c_3 : ¬ r_2 = 0) (r_4 : Int32) (er_4 : r_4 = xb (f_X11_isWeek w M_1)) (c_5 : ¬ r_4 = 0) (r_6 : Int32) (er_6 : r_6 = xb (f_X11_isBank b M_1)) (c_7 : ¬ r_6 = 0) (r_8 : Int32) (er_8 : r_8 = xb (f_X11_in (what.toInt64) 0 2 M_1)) (c_9 : ¬ r_8 = 0) (c_10 : ¬ what = 0) (c_11 : ¬ what = 1) : M_1 40 0 14 ≤ 40 := by
  subst_vars
  grind [mI, said2, fals2, bw2, ff2, xup_at, isTown_eq, isWeek_eq, isBank_eq, isNote_eq, isTrader_eq, in_0_1, in_0_2, in_1_999, xb]
theorem ob_X11_known_81_p4 (nb nn : Nat) (town : Int32) (w : Int32) (b : Int32) (what : Int32) (M : xM) (hp0 : mI M) (M_1 : xM) (eM_1 : M_1 = xup M 40 0 0 0) (r_2 : Int32) (er_2 : r_2 = xb (f_X11_isTown town M_1)) (c_3 : ¬ r_2 = 0) (r_4 : Int32) (er_4 : r_4 = xb (f_X11_isWeek w M_1)) (c_5 : ¬ r_4 = 0) (r_6 : Int32) (er_6 : r_6 = xb (f_X11_isBank b M_1)) (c_7 : ¬ r_6 = 0) (r_8 : Int32) (er_8 : r_8 = xb (f_X11_in (what.toInt64) 0 2 M_1)) (c_9 : ¬ r_8 = 0) (c_10 : ¬ what = 0) (c_11 : ¬ what = 1) : (-1000000 : Int32) = (-1000000) ∨ (0 ≤ (-1000000 : Int32) ∧ (-1000000 : Int32) < 24) := by
  subst_vars
  grind [mI, said2, fals2, bw2, ff2, xup_at, isTown_eq, isWeek_eq, isBank_eq, isNote_eq, isTrader_eq, in_0_1, in_0_2, in_1_999, xb]
theorem ob_X11_known_69_p0 (nb nn : Nat) (town : Int32) (w : Int32) (b : Int32) (what : Int32) (M : xM) (hp0 : mI M) (M_1 : xM) (eM_1 : M_1 = xup M 40 0 0 0) (r_2 : Int32) (er_2 : r_2 = xb (f_X11_isTown town M_1)) (c_3 : ¬ r_2 = 0) (r_4 : Int32) (er_4 : r_4 = xb (f_X11_isWeek w M_1)) (c_5 : ¬ r_4 = 0) (r_6 : Int32) (er_6 : r_6 = xb (f_X11_isBank b M_1)) (c_7 : ¬ r_6 = 0) (r_8 : Int32) (er_8 : r_8 = xb (f_X11_in (what.toInt64) 0 2 M_1)) (c_9 : ¬ r_8 = 0) (c_10 : ¬ what = 0) (c_11 : what = 1) : 0 ≤ town := by
  subst_vars
  grind [mI, said2, fals2, bw2, ff2, xup_at, isTown_eq, isWeek_eq, isBank_eq, isNote_eq, isTrader_eq, in_0_1, in_0_2, in_1_999, xb]
theorem ob_X11_known_69_p1 (nb nn : Nat) (town : Int32) (w : Int32) (b : Int32) (what : Int32) (M : xM) (hp0 : mI M) (M_1 : xM) (eM_1 : M_1 = xup M 40 0 0 0) (r_2 : Int32) (er_2 : r_2 = xb (f_X11_isTown town M_1)) (c_3 : ¬ r_2 = 0) (r_4 : Int32) (er_4 : r_4 = xb (f_X11_isWeek w M_1)) (c_5 : ¬ r_4 = 0) (r_6 : Int32) (er_6 : r_6 = xb (f_X11_isBank b M_1)) (c_7 : ¬ r_6 = 0) (r_8 : Int32) (er_8 : r_8 = xb (f_X11_in (what.toInt64) 0 2 M_1)) (c_9 : ¬ r_8 = 0) (c_10 : ¬ what = 0) (c_11 : what = 1) : town ≤ 5 := by
  subst_vars
  grind [mI, said2, fals2, bw2, ff2, xup_at, isTown_eq, isWeek_eq, isBank_eq, isNote_eq, isTrader_eq, in_0_1, in_0_2, in_1_999, xb]
theorem ob_X11_known_69_p2 (nb nn : Nat) (town : Int32) (w : Int32) (b : Int32) (what : Int32) (M : xM) (hp0 : mI M) (M_1 : xM) (eM_1 : M_1 = xup M 40 0 0 0) (r_2 : Int32) (er_2 : r_2 = xb (f_X11_isTown town M_1)) (c_3 : ¬ r_2 = 0) (r_4 : Int32) (er_4 : r_4 = xb (f_X11_isWeek w M_1)) (c_5 : ¬ r_4 = 0) (r_6 : Int32) (er_6 : r_6 = xb (f_X11_isBank b M_1)) (c_7 : ¬ r_6 = 0) (r_8 : Int32) (er_8 : r_8 = xb (f_X11_in (what.toInt64) 0 2 M_1)) (c_9 : ¬ r_8 = 0) (c_10 : ¬ what = 0) (c_11 : what = 1) : 0 ≤ M_1 40 0 14 := by
  subst_vars
  grind [mI, said2, fals2, bw2, ff2, xup_at, isTown_eq, isWeek_eq, isBank_eq, isNote_eq, isTrader_eq, in_0_1, in_0_2, in_1_999, xb]
theorem ob_X11_known_69_p3 (nb nn : Nat) (town : Int32) (w : Int32) (b : Int32) (what : Int32) (M : xM) (hp0 : mI M) (M_1 : xM) (eM_1 : M_1 = xup M 40 0 0 0) (r_2 : Int32) (er_2 : r_2 = xb (f_X11_isTown town M_1)) (c_3 : ¬ r_2 = 0) (r_4 : Int32) (er_4 : r_4 = xb (f_X11_isWeek w M_1)) (c_5 : ¬ r_4 = 0) (r_6 : Int32) (er_6 : r_6 = xb (f_X11_isBank b M_1)) (c_7 : ¬ r_6 = 0) (r_8 : Int32) (er_8 : r_8 = xb (f_X11_in (what.toInt64) 0 2 M_1)) (c_9 : ¬ r_8 = 0) (c_10 : ¬ what = 0) (c_11 : what = 1) : M_1 40 0 14 ≤ 40 := by
  subst_vars
  grind [mI, said2, fals2, bw2, ff2, xup_at, isTown_eq, isWeek_eq, isBank_eq, isNote_eq, isTrader_eq, in_0_1, in_0_2, in_1_999, xb]
theorem ob_X11_known_52_p0 (nb nn : Nat) (town : Int32) (w : Int32) (b : Int32) (what : Int32) (M : xM) (hp0 : mI M) (M_1 : xM) (eM_1 : M_1 = xup M 40 0 0 0) (r_2 : Int32) (er_2 : r_2 = xb (f_X11_isTown town M_1)) (c_3 : ¬ r_2 = 0) (r_4 : Int32) (er_4 : r_4 = xb (f_X11_isWeek w M_1)) (c_5 : ¬ r_4 = 0) (r_6 : Int32) (er_6 : r_6 = xb (f_X11_isBank b M_1)) (c_7 : ¬ r_6 = 0) (r_8 : Int32) (er_8 : r_8 = xb (f_X11_in (what.toInt64) 0 2 M_1)) (c_9 : ¬ r_8 = 0) (c_10 : what = 0) : 0 ≤ town := by
  subst_vars
  grind [mI, said2, fals2, bw2, ff2, xup_at, isTown_eq, isWeek_eq, isBank_eq, isNote_eq, isTrader_eq, in_0_1, in_0_2, in_1_999, xb]
theorem ob_X11_known_52_p1 (nb nn : Nat) (town : Int32) (w : Int32) (b : Int32) (what : Int32) (M : xM) (hp0 : mI M) (M_1 : xM) (eM_1 : M_1 = xup M 40 0 0 0) (r_2 : Int32) (er_2 : r_2 = xb (f_X11_isTown town M_1)) (c_3 : ¬ r_2 = 0) (r_4 : Int32) (er_4 : r_4 = xb (f_X11_isWeek w M_1)) (c_5 : ¬ r_4 = 0) (r_6 : Int32) (er_6 : r_6 = xb (f_X11_isBank b M_1)) (c_7 : ¬ r_6 = 0) (r_8 : Int32) (er_8 : r_8 = xb (f_X11_in (what.toInt64) 0 2 M_1)) (c_9 : ¬ r_8 = 0) (c_10 : what = 0) : town ≤ 5 := by
  subst_vars
  grind [mI, said2, fals2, bw2, ff2, xup_at, isTown_eq, isWeek_eq, isBank_eq, isNote_eq, isTrader_eq, in_0_1, in_0_2, in_1_999, xb]
theorem ob_X11_known_52_p2 (nb nn : Nat) (town : Int32) (w : Int32) (b : Int32) (what : Int32) (M : xM) (hp0 : mI M) (M_1 : xM) (eM_1 : M_1 = xup M 40 0 0 0) (r_2 : Int32) (er_2 : r_2 = xb (f_X11_isTown town M_1)) (c_3 : ¬ r_2 = 0) (r_4 : Int32) (er_4 : r_4 = xb (f_X11_isWeek w M_1)) (c_5 : ¬ r_4 = 0) (r_6 : Int32) (er_6 : r_6 = xb (f_X11_isBank b M_1)) (c_7 : ¬ r_6 = 0) (r_8 : Int32) (er_8 : r_8 = xb (f_X11_in (what.toInt64) 0 2 M_1)) (c_9 : ¬ r_8 = 0) (c_10 : what = 0) : mI M_1 := by
  subst_vars
  grind [mI, said2, fals2, bw2, ff2, xup_at, isTown_eq, isWeek_eq, isBank_eq, isNote_eq, isTrader_eq, in_0_1, in_0_2, in_1_999, xb]
theorem ob_X11_looksLike_2_p0 (nb nn : Nat) (q : Int32) (town : Int32) (w : Int32) (M : xM) (hp0 : 0 ≤ q) (hp1 : q < 24) (hp2 : 0 ≤ town) (hp3 : town ≤ 5) (hp4 : mI M) : 0 ≤ q := by
  subst_vars
  grind [mI, said2, fals2, bw2, ff2, xup_at, isTown_eq, isWeek_eq, isBank_eq, isNote_eq, isTrader_eq, in_0_1, in_0_2, in_1_999, xb]
theorem ob_X11_looksLike_2_p1 (nb nn : Nat) (q : Int32) (town : Int32) (w : Int32) (M : xM) (hp0 : 0 ≤ q) (hp1 : q < 24) (hp2 : 0 ≤ town) (hp3 : town ≤ 5) (hp4 : mI M) : q < 24 := by
  subst_vars
  grind [mI, said2, fals2, bw2, ff2, xup_at, isTown_eq, isWeek_eq, isBank_eq, isNote_eq, isTrader_eq, in_0_1, in_0_2, in_1_999, xb]
theorem ob_X11_looksLike_2_p2 (nb nn : Nat) (q : Int32) (town : Int32) (w : Int32) (M : xM) (hp0 : 0 ≤ q) (hp1 : q < 24) (hp2 : 0 ≤ town) (hp3 : town ≤ 5) (hp4 : mI M) : M 40 0 7 ≤ 8 := by
  subst_vars
  grind [mI, said2, fals2, bw2, ff2, xup_at, isTown_eq, isWeek_eq, isBank_eq, isNote_eq, isTrader_eq, in_0_1, in_0_2, in_1_999, xb]
theorem ob_X11_looksLike_2_p3 (nb nn : Nat) (q : Int32) (town : Int32) (w : Int32) (M : xM) (hp0 : 0 ≤ q) (hp1 : q < 24) (hp2 : 0 ≤ town) (hp3 : town ≤ 5) (hp4 : mI M) : ∀ j : Nat, 0 ≤ M 81 0 j := by
  subst_vars
  grind [mI, said2, fals2, bw2, ff2, xup_at, isTown_eq, isWeek_eq, isBank_eq, isNote_eq, isTrader_eq, in_0_1, in_0_2, in_1_999, xb]
theorem ob_X11_looksLike_15_in (nb nn : Nat) (q : Int32) (town : Int32) (w : Int32) (M : xM) (hp0 : 0 ≤ q) (hp1 : q < 24) (hp2 : 0 ≤ town) (hp3 : town ≤ 5) (hp4 : mI M) (r_1 : Int32) (er_1 : r_1 = xb (f_X11_isFalse q M)) (c_2 : r_1 = 0) : vp_in q 24 := by
  subst_vars
  exact xin (N := 24) (by grind [mI, said2, fals2, bw2, ff2, xup_at, isTown_eq, isWeek_eq, isBank_eq, isNote_eq, isTrader_eq, in_0_1, in_0_2, in_1_999, xb]) (by grind [mI, said2, fals2, bw2, ff2, xup_at, isTown_eq, isWeek_eq, isBank_eq, isNote_eq, isTrader_eq, in_0_1, in_0_2, in_1_999, xb]) (by decide)
theorem ob_X11_looksLike_23_in (nb nn : Nat) (q : Int32) (town : Int32) (w : Int32) (M : xM) (hp0 : 0 ≤ q) (hp1 : q < 24) (hp2 : 0 ≤ town) (hp3 : town ≤ 5) (hp4 : mI M) (r_1 : Int32) (er_1 : r_1 = xb (f_X11_isFalse q M)) (c_2 : r_1 = 0) (x4_3 : Int32) (ex4_3 : x4_3 = (M 81 0 q.toNatClampNeg)) : vp_in q 24 := by
  subst_vars
  exact xin (N := 24) (by grind [mI, said2, fals2, bw2, ff2, xup_at, isTown_eq, isWeek_eq, isBank_eq, isNote_eq, isTrader_eq, in_0_1, in_0_2, in_1_999, xb]) (by grind [mI, said2, fals2, bw2, ff2, xup_at, isTown_eq, isWeek_eq, isBank_eq, isNote_eq, isTrader_eq, in_0_1, in_0_2, in_1_999, xb]) (by decide)
theorem ob_X11_looksLike_34_p0 (nb nn : Nat) (q : Int32) (town : Int32) (w : Int32) (M : xM) (hp0 : 0 ≤ q) (hp1 : q < 24) (hp2 : 0 ≤ town) (hp3 : town ≤ 5) (hp4 : mI M) (r_1 : Int32) (er_1 : r_1 = xb (f_X11_isFalse q M)) (c_2 : r_1 = 0) (x4_3 : Int32) (ex4_3 : x4_3 = (M 81 0 q.toNatClampNeg)) (c_4 : ¬ (M 84 0 q.toNatClampNeg) = 0) : 0 ≤ town := by
  subst_vars
  grind [mI, said2, fals2, bw2, ff2, xup_at, isTown_eq, isWeek_eq, isBank_eq, isNote_eq, isTrader_eq, in_0_1, in_0_2, in_1_999, xb]
theorem ob_X11_looksLike_34_p1 (nb nn : Nat) (q : Int32) (town : Int32) (w : Int32) (M : xM) (hp0 : 0 ≤ q) (hp1 : q < 24) (hp2 : 0 ≤ town) (hp3 : town ≤ 5) (hp4 : mI M) (r_1 : Int32) (er_1 : r_1 = xb (f_X11_isFalse q M)) (c_2 : r_1 = 0) (x4_3 : Int32) (ex4_3 : x4_3 = (M 81 0 q.toNatClampNeg)) (c_4 : ¬ (M 84 0 q.toNatClampNeg) = 0) : town ≤ 5 := by
  subst_vars
  grind [mI, said2, fals2, bw2, ff2, xup_at, isTown_eq, isWeek_eq, isBank_eq, isNote_eq, isTrader_eq, in_0_1, in_0_2, in_1_999, xb]
theorem ob_X11_looksLike_34_p2 (nb nn : Nat) (q : Int32) (town : Int32) (w : Int32) (M : xM) (hp0 : 0 ≤ q) (hp1 : q < 24) (hp2 : 0 ≤ town) (hp3 : town ≤ 5) (hp4 : mI M) (r_1 : Int32) (er_1 : r_1 = xb (f_X11_isFalse q M)) (c_2 : r_1 = 0) (x4_3 : Int32) (ex4_3 : x4_3 = (M 81 0 q.toNatClampNeg)) (c_4 : ¬ (M 84 0 q.toNatClampNeg) = 0) : 0 ≤ M 40 0 14 := by
  subst_vars
  grind [mI, said2, fals2, bw2, ff2, xup_at, isTown_eq, isWeek_eq, isBank_eq, isNote_eq, isTrader_eq, in_0_1, in_0_2, in_1_999, xb]
theorem ob_X11_looksLike_34_p3 (nb nn : Nat) (q : Int32) (town : Int32) (w : Int32) (M : xM) (hp0 : 0 ≤ q) (hp1 : q < 24) (hp2 : 0 ≤ town) (hp3 : town ≤ 5) (hp4 : mI M) (r_1 : Int32) (er_1 : r_1 = xb (f_X11_isFalse q M)) (c_2 : r_1 = 0) (x4_3 : Int32) (ex4_3 : x4_3 = (M 81 0 q.toNatClampNeg)) (c_4 : ¬ (M 84 0 q.toNatClampNeg) = 0) : M 40 0 14 ≤ 40 := by
  subst_vars
  grind [mI, said2, fals2, bw2, ff2, xup_at, isTown_eq, isWeek_eq, isBank_eq, isNote_eq, isTrader_eq, in_0_1, in_0_2, in_1_999, xb]
theorem ob_X11_looksLike_34_p4 (nb nn : Nat) (q : Int32) (town : Int32) (w : Int32) (M : xM) (hp0 : 0 ≤ q) (hp1 : q < 24) (hp2 : 0 ≤ town) (hp3 : town ≤ 5) (hp4 : mI M) (r_1 : Int32) (er_1 : r_1 = xb (f_X11_isFalse q M)) (c_2 : r_1 = 0) (x4_3 : Int32) (ex4_3 : x4_3 = (M 81 0 q.toNatClampNeg)) (c_4 : ¬ (M 84 0 q.toNatClampNeg) = 0) : (-1000000 : Int32) = (-1000000) ∨ (0 ≤ (-1000000 : Int32) ∧ (-1000000 : Int32) < 24) := by
  subst_vars
  grind [mI, said2, fals2, bw2, ff2, xup_at, isTown_eq, isWeek_eq, isBank_eq, isNote_eq, isTrader_eq, in_0_1, in_0_2, in_1_999, xb]
theorem ob_X11_looksLike_46_p0 (nb nn : Nat) (q : Int32) (town : Int32) (w : Int32) (M : xM) (hp0 : 0 ≤ q) (hp1 : q < 24) (hp2 : 0 ≤ town) (hp3 : town ≤ 5) (hp4 : mI M) (r_1 : Int32) (er_1 : r_1 = xb (f_X11_isFalse q M)) (c_2 : r_1 = 0) (x4_3 : Int32) (ex4_3 : x4_3 = (M 81 0 q.toNatClampNeg)) (c_4 : ¬ (M 84 0 q.toNatClampNeg) = 0) (r_5 : Int32) (M_6 : xM) (er_5 : r_5 = (f_X11_falsePlates town w x4_3 (-1000000) M).1) (eM_6 : M_6 = (f_X11_falsePlates town w x4_3 (-1000000) M).2) (c_7 : ¬ r_5 ≤ 0) : 0 ≤ town := by
  subst_vars
  grind [mI, said2, fals2, bw2, ff2, xup_at, isTown_eq, isWeek_eq, isBank_eq, isNote_eq, isTrader_eq, in_0_1, in_0_2, in_1_999, xb]
theorem ob_X11_looksLike_46_p1 (nb nn : Nat) (q : Int32) (town : Int32) (w : Int32) (M : xM) (hp0 : 0 ≤ q) (hp1 : q < 24) (hp2 : 0 ≤ town) (hp3 : town ≤ 5) (hp4 : mI M) (r_1 : Int32) (er_1 : r_1 = xb (f_X11_isFalse q M)) (c_2 : r_1 = 0) (x4_3 : Int32) (ex4_3 : x4_3 = (M 81 0 q.toNatClampNeg)) (c_4 : ¬ (M 84 0 q.toNatClampNeg) = 0) (r_5 : Int32) (M_6 : xM) (er_5 : r_5 = (f_X11_falsePlates town w x4_3 (-1000000) M).1) (eM_6 : M_6 = (f_X11_falsePlates town w x4_3 (-1000000) M).2) (c_7 : ¬ r_5 ≤ 0) : town ≤ 5 := by
  subst_vars
  grind [mI, said2, fals2, bw2, ff2, xup_at, isTown_eq, isWeek_eq, isBank_eq, isNote_eq, isTrader_eq, in_0_1, in_0_2, in_1_999, xb]
theorem ob_X11_looksLike_46_p2 (nb nn : Nat) (q : Int32) (town : Int32) (w : Int32) (M : xM) (hp0 : 0 ≤ q) (hp1 : q < 24) (hp2 : 0 ≤ town) (hp3 : town ≤ 5) (hp4 : mI M) (r_1 : Int32) (er_1 : r_1 = xb (f_X11_isFalse q M)) (c_2 : r_1 = 0) (x4_3 : Int32) (ex4_3 : x4_3 = (M 81 0 q.toNatClampNeg)) (c_4 : ¬ (M 84 0 q.toNatClampNeg) = 0) (r_5 : Int32) (M_6 : xM) (er_5 : r_5 = (f_X11_falsePlates town w x4_3 (-1000000) M).1) (eM_6 : M_6 = (f_X11_falsePlates town w x4_3 (-1000000) M).2) (c_7 : ¬ r_5 ≤ 0) : 0 ≤ M_6 40 0 14 := by
  subst_vars
  grind [mI, said2, fals2, bw2, ff2, xup_at, isTown_eq, isWeek_eq, isBank_eq, isNote_eq, isTrader_eq, in_0_1, in_0_2, in_1_999, xb]
theorem ob_X11_looksLike_46_p3 (nb nn : Nat) (q : Int32) (town : Int32) (w : Int32) (M : xM) (hp0 : 0 ≤ q) (hp1 : q < 24) (hp2 : 0 ≤ town) (hp3 : town ≤ 5) (hp4 : mI M) (r_1 : Int32) (er_1 : r_1 = xb (f_X11_isFalse q M)) (c_2 : r_1 = 0) (x4_3 : Int32) (ex4_3 : x4_3 = (M 81 0 q.toNatClampNeg)) (c_4 : ¬ (M 84 0 q.toNatClampNeg) = 0) (r_5 : Int32) (M_6 : xM) (er_5 : r_5 = (f_X11_falsePlates town w x4_3 (-1000000) M).1) (eM_6 : M_6 = (f_X11_falsePlates town w x4_3 (-1000000) M).2) (c_7 : ¬ r_5 ≤ 0) : M_6 40 0 14 ≤ 40 := by
  subst_vars
  grind [mI, said2, fals2, bw2, ff2, xup_at, isTown_eq, isWeek_eq, isBank_eq, isNote_eq, isTrader_eq, in_0_1, in_0_2, in_1_999, xb]
theorem ob_X11_looksLike_46_p4 (nb nn : Nat) (q : Int32) (town : Int32) (w : Int32) (M : xM) (hp0 : 0 ≤ q) (hp1 : q < 24) (hp2 : 0 ≤ town) (hp3 : town ≤ 5) (hp4 : mI M) (r_1 : Int32) (er_1 : r_1 = xb (f_X11_isFalse q M)) (c_2 : r_1 = 0) (x4_3 : Int32) (ex4_3 : x4_3 = (M 81 0 q.toNatClampNeg)) (c_4 : ¬ (M 84 0 q.toNatClampNeg) = 0) (r_5 : Int32) (M_6 : xM) (er_5 : r_5 = (f_X11_falsePlates town w x4_3 (-1000000) M).1) (eM_6 : M_6 = (f_X11_falsePlates town w x4_3 (-1000000) M).2) (c_7 : ¬ r_5 ≤ 0) : q = (-1000000) ∨ (0 ≤ q ∧ q < 24) := by
  subst_vars
  grind [mI, said2, fals2, bw2, ff2, xup_at, isTown_eq, isWeek_eq, isBank_eq, isNote_eq, isTrader_eq, in_0_1, in_0_2, in_1_999, xb]
theorem ob_X11_looks_36_p0 (nb nn : Nat) (q : Int32) (town : Int32) (w : Int32) (M : xM) (hp0 : mI M) (M_1 : xM) (eM_1 : M_1 = xup M 40 0 0 0) (r_2 : Int32) (er_2 : r_2 = xb (f_X11_isNote q M_1)) (c_3 : ¬ r_2 = 0) (r_4 : Int32) (er_4 : r_4 = xb (f_X11_isTown town M_1)) (c_5 : ¬ r_4 = 0) (r_6 : Int32) (er_6 : r_6 = xb (f_X11_isWeek w M_1)) (c_7 : ¬ r_6 = 0) : 0 ≤ q := by
  subst_vars
  grind [mI, said2, fals2, bw2, ff2, xup_at, isTown_eq, isWeek_eq, isBank_eq, isNote_eq, isTrader_eq, in_0_1, in_0_2, in_1_999, xb, mI_thr]
theorem ob_X11_looks_36_p1 (nb nn : Nat) (q : Int32) (town : Int32) (w : Int32) (M : xM) (hp0 : mI M) (M_1 : xM) (eM_1 : M_1 = xup M 40 0 0 0) (r_2 : Int32) (er_2 : r_2 = xb (f_X11_isNote q M_1)) (c_3 : ¬ r_2 = 0) (r_4 : Int32) (er_4 : r_4 = xb (f_X11_isTown town M_1)) (c_5 : ¬ r_4 = 0) (r_6 : Int32) (er_6 : r_6 = xb (f_X11_isWeek w M_1)) (c_7 : ¬ r_6 = 0) : q < 24 := by
  subst_vars
  grind [mI, said2, fals2, bw2, ff2, xup_at, isTown_eq, isWeek_eq, isBank_eq, isNote_eq, isTrader_eq, in_0_1, in_0_2, in_1_999, xb, mI_thr]
theorem ob_X11_looks_36_p2 (nb nn : Nat) (q : Int32) (town : Int32) (w : Int32) (M : xM) (hp0 : mI M) (M_1 : xM) (eM_1 : M_1 = xup M 40 0 0 0) (r_2 : Int32) (er_2 : r_2 = xb (f_X11_isNote q M_1)) (c_3 : ¬ r_2 = 0) (r_4 : Int32) (er_4 : r_4 = xb (f_X11_isTown town M_1)) (c_5 : ¬ r_4 = 0) (r_6 : Int32) (er_6 : r_6 = xb (f_X11_isWeek w M_1)) (c_7 : ¬ r_6 = 0) : 0 ≤ town := by
  subst_vars
  grind [mI, said2, fals2, bw2, ff2, xup_at, isTown_eq, isWeek_eq, isBank_eq, isNote_eq, isTrader_eq, in_0_1, in_0_2, in_1_999, xb, mI_thr]
theorem ob_X11_looks_36_p3 (nb nn : Nat) (q : Int32) (town : Int32) (w : Int32) (M : xM) (hp0 : mI M) (M_1 : xM) (eM_1 : M_1 = xup M 40 0 0 0) (r_2 : Int32) (er_2 : r_2 = xb (f_X11_isNote q M_1)) (c_3 : ¬ r_2 = 0) (r_4 : Int32) (er_4 : r_4 = xb (f_X11_isTown town M_1)) (c_5 : ¬ r_4 = 0) (r_6 : Int32) (er_6 : r_6 = xb (f_X11_isWeek w M_1)) (c_7 : ¬ r_6 = 0) : town ≤ 5 := by
  subst_vars
  grind [mI, said2, fals2, bw2, ff2, xup_at, isTown_eq, isWeek_eq, isBank_eq, isNote_eq, isTrader_eq, in_0_1, in_0_2, in_1_999, xb, mI_thr]
theorem ob_X11_looks_36_p4 (nb nn : Nat) (q : Int32) (town : Int32) (w : Int32) (M : xM) (hp0 : mI M) (M_1 : xM) (eM_1 : M_1 = xup M 40 0 0 0) (r_2 : Int32) (er_2 : r_2 = xb (f_X11_isNote q M_1)) (c_3 : ¬ r_2 = 0) (r_4 : Int32) (er_4 : r_4 = xb (f_X11_isTown town M_1)) (c_5 : ¬ r_4 = 0) (r_6 : Int32) (er_6 : r_6 = xb (f_X11_isWeek w M_1)) (c_7 : ¬ r_6 = 0) : mI M_1 := by
  subst_vars
  grind [mI, said2, fals2, bw2, ff2, xup_at, isTown_eq, isWeek_eq, isBank_eq, isNote_eq, isTrader_eq, in_0_1, in_0_2, in_1_999, xb, mI_thr]
theorem ob_X11_brings_9_in (nb nn : Nat) (k : Int32) (town : Int32) (M : xM) (hp0 : 0 ≤ k) (hp1 : k < 8) (hp2 : 0 ≤ town) (hp3 : town ≤ 5) (hp4 : 0 ≤ M 98 0 k.toNatClampNeg) (hp5 : M 98 0 k.toNatClampNeg < 24) (hp6 : ∀ j : Nat, 0 ≤ M 81 0 j ∧ M 81 0 j ≤ 7) : vp_in k 8 := by
  subst_vars
  exact xin (N := 8) (by grind [xup_at, isSheet_eq, isTown_eq, isWeek_eq, isTrader_eq, in_0s, isBank_eq, in_0_1, in_0_2, in_0_4, in_0_5, in_0_6, in_0_7, in_0_100, in_0_255, in_0_299, in_0_500, in_0_9999, in_0_99999, in_1_6, in_1_8, in_1_100, in_1_999, in_t_299, xb]) (by grind [xup_at, isSheet_eq, isTown_eq, isWeek_eq, isTrader_eq, in_0s, isBank_eq, in_0_1, in_0_2, in_0_4, in_0_5, in_0_6, in_0_7, in_0_100, in_0_255, in_0_299, in_0_500, in_0_9999, in_0_99999, in_1_6, in_1_8, in_1_100, in_1_999, in_t_299, xb]) (by decide)
theorem ob_X11_brings_10_in (nb nn : Nat) (k : Int32) (town : Int32) (M : xM) (hp0 : 0 ≤ k) (hp1 : k < 8) (hp2 : 0 ≤ town) (hp3 : town ≤ 5) (hp4 : 0 ≤ M 98 0 k.toNatClampNeg) (hp5 : M 98 0 k.toNatClampNeg < 24) (hp6 : ∀ j : Nat, 0 ≤ M 81 0 j ∧ M 81 0 j ≤ 7) : vp_in (M 98 0 k.toNatClampNeg) 24 := by
  subst_vars
  exact xin (N := 24) (by grind [xup_at, isSheet_eq, isTown_eq, isWeek_eq, isTrader_eq, in_0s, isBank_eq, in_0_1, in_0_2, in_0_4, in_0_5, in_0_6, in_0_7, in_0_100, in_0_255, in_0_299, in_0_500, in_0_9999, in_0_99999, in_1_6, in_1_8, in_1_100, in_1_999, in_t_299, xb]) (by grind [xup_at, isSheet_eq, isTown_eq, isWeek_eq, isTrader_eq, in_0s, isBank_eq, in_0_1, in_0_2, in_0_4, in_0_5, in_0_6, in_0_7, in_0_100, in_0_255, in_0_299, in_0_500, in_0_9999, in_0_99999, in_1_6, in_1_8, in_1_100, in_1_999, in_t_299, xb]) (by decide)
theorem ob_X11_brings_28_in (nb nn : Nat) (k : Int32) (town : Int32) (M : xM) (hp0 : 0 ≤ k) (hp1 : k < 8) (hp2 : 0 ≤ town) (hp3 : town ≤ 5) (hp4 : 0 ≤ M 98 0 k.toNatClampNeg) (hp5 : M 98 0 k.toNatClampNeg < 24) (hp6 : ∀ j : Nat, 0 ≤ M 81 0 j ∧ M 81 0 j ≤ 7) : vp_in k 8 := by
  subst_vars
  exact xin (N := 8) (by grind [xup_at, isSheet_eq, isTown_eq, isWeek_eq, isTrader_eq, in_0s, isBank_eq, in_0_1, in_0_2, in_0_4, in_0_5, in_0_6, in_0_7, in_0_100, in_0_255, in_0_299, in_0_500, in_0_9999, in_0_99999, in_1_6, in_1_8, in_1_100, in_1_999, in_t_299, xb]) (by grind [xup_at, isSheet_eq, isTown_eq, isWeek_eq, isTrader_eq, in_0s, isBank_eq, in_0_1, in_0_2, in_0_4, in_0_5, in_0_6, in_0_7, in_0_100, in_0_255, in_0_299, in_0_500, in_0_9999, in_0_99999, in_1_6, in_1_8, in_1_100, in_1_999, in_t_299, xb]) (by decide)
theorem ob_X11_brings_29_in (nb nn : Nat) (k : Int32) (town : Int32) (M : xM) (hp0 : 0 ≤ k) (hp1 : k < 8) (hp2 : 0 ≤ town) (hp3 : town ≤ 5) (hp4 : 0 ≤ M 98 0 k.toNatClampNeg) (hp5 : M 98 0 k.toNatClampNeg < 24) (hp6 : ∀ j : Nat, 0 ≤ M 81 0 j ∧ M 81 0 j ≤ 7) : vp_in (M 98 0 k.toNatClampNeg) 24 := by
  subst_vars
  exact xin (N := 24) (by grind [xup_at, isSheet_eq, isTown_eq, isWeek_eq, isTrader_eq, in_0s, isBank_eq, in_0_1, in_0_2, in_0_4, in_0_5, in_0_6, in_0_7, in_0_100, in_0_255, in_0_299, in_0_500, in_0_9999, in_0_99999, in_1_6, in_1_8, in_1_100, in_1_999, in_t_299, xb]) (by grind [xup_at, isSheet_eq, isTown_eq, isWeek_eq, isTrader_eq, in_0s, isBank_eq, in_0_1, in_0_2, in_0_4, in_0_5, in_0_6, in_0_7, in_0_100, in_0_255, in_0_299, in_0_500, in_0_9999, in_0_99999, in_1_6, in_1_8, in_1_100, in_1_999, in_t_299, xb]) (by decide)
theorem ob_X11_brings_31_in (nb nn : Nat) (k : Int32) (town : Int32) (M : xM) (hp0 : 0 ≤ k) (hp1 : k < 8) (hp2 : 0 ≤ town) (hp3 : town ≤ 5) (hp4 : 0 ≤ M 98 0 k.toNatClampNeg) (hp5 : M 98 0 k.toNatClampNeg < 24) (hp6 : ∀ j : Nat, 0 ≤ M 81 0 j ∧ M 81 0 j ≤ 7) : vp_in ((8 * town) + (M 81 0 (M 98 0 k.toNatClampNeg).toNatClampNeg)) 48 := by
  subst_vars
  exact xin (N := 48) (by grind [xup_at, isSheet_eq, isTown_eq, isWeek_eq, isTrader_eq, in_0s, isBank_eq, in_0_1, in_0_2, in_0_4, in_0_5, in_0_6, in_0_7, in_0_100, in_0_255, in_0_299, in_0_500, in_0_9999, in_0_99999, in_1_6, in_1_8, in_1_100, in_1_999, in_t_299, xb]) (by grind [xup_at, isSheet_eq, isTown_eq, isWeek_eq, isTrader_eq, in_0s, isBank_eq, in_0_1, in_0_2, in_0_4, in_0_5, in_0_6, in_0_7, in_0_100, in_0_255, in_0_299, in_0_500, in_0_9999, in_0_99999, in_1_6, in_1_8, in_1_100, in_1_999, in_t_299, xb]) (by decide)
theorem ob_X11_goesBy_36_p0 (nb nn : Nat) (day : Int32) (set_ : Int32) (town : Int32) (k : Int32) (z : Int32) (to : Int32) (M : xM) (hp0 : 1 ≤ day) (hp1 : day ≤ 6) (hp2 : 0 ≤ set_) (hp3 : set_ < 256) (hp4 : 0 ≤ town) (hp5 : town ≤ 5) (hp6 : 0 ≤ k) (hp7 : k ≤ z) (hp8 : z ≤ 8) (hp9 : 0 ≤ to) (hp10 : to ≤ 5) (hp11 : wI M z) (c_1 : ¬ k = z) (x7_2 : Int32) (ex7_2 : x7_2 = (set_ &&& ((1 <<< (k &&& 31)) ^^^ (-1)))) : 0 ≤ k := by
  subst_vars
  grind [xb, and256, wI, lsOK_at]
theorem ob_X11_goesBy_36_p1 (nb nn : Nat) (day : Int32) (set_ : Int32) (town : Int32) (k : Int32) (z : Int32) (to : Int32) (M : xM) (hp0 : 1 ≤ day) (hp1 : day ≤ 6) (hp2 : 0 ≤ set_) (hp3 : set_ < 256) (hp4 : 0 ≤ town) (hp5 : town ≤ 5) (hp6 : 0 ≤ k) (hp7 : k ≤ z) (hp8 : z ≤ 8) (hp9 : 0 ≤ to) (hp10 : to ≤ 5) (hp11 : wI M z) (c_1 : ¬ k = z) (x7_2 : Int32) (ex7_2 : x7_2 = (set_ &&& ((1 <<< (k &&& 31)) ^^^ (-1)))) : k < 8 := by
  subst_vars
  grind [xb, and256, wI, lsOK_at]
theorem ob_X11_goesBy_36_p2 (nb nn : Nat) (day : Int32) (set_ : Int32) (town : Int32) (k : Int32) (z : Int32) (to : Int32) (M : xM) (hp0 : 1 ≤ day) (hp1 : day ≤ 6) (hp2 : 0 ≤ set_) (hp3 : set_ < 256) (hp4 : 0 ≤ town) (hp5 : town ≤ 5) (hp6 : 0 ≤ k) (hp7 : k ≤ z) (hp8 : z ≤ 8) (hp9 : 0 ≤ to) (hp10 : to ≤ 5) (hp11 : wI M z) (c_1 : ¬ k = z) (x7_2 : Int32) (ex7_2 : x7_2 = (set_ &&& ((1 <<< (k &&& 31)) ^^^ (-1)))) : 0 ≤ town := by
  subst_vars
  grind [xb, and256, wI, lsOK_at]
theorem ob_X11_goesBy_36_p3 (nb nn : Nat) (day : Int32) (set_ : Int32) (town : Int32) (k : Int32) (z : Int32) (to : Int32) (M : xM) (hp0 : 1 ≤ day) (hp1 : day ≤ 6) (hp2 : 0 ≤ set_) (hp3 : set_ < 256) (hp4 : 0 ≤ town) (hp5 : town ≤ 5) (hp6 : 0 ≤ k) (hp7 : k ≤ z) (hp8 : z ≤ 8) (hp9 : 0 ≤ to) (hp10 : to ≤ 5) (hp11 : wI M z) (c_1 : ¬ k = z) (x7_2 : Int32) (ex7_2 : x7_2 = (set_ &&& ((1 <<< (k &&& 31)) ^^^ (-1)))) : town ≤ 5 := by
  subst_vars
  grind [xb, and256, wI, lsOK_at]
theorem ob_X11_goesBy_36_p4 (nb nn : Nat) (day : Int32) (set_ : Int32) (town : Int32) (k : Int32) (z : Int32) (to : Int32) (M : xM) (hp0 : 1 ≤ day) (hp1 : day ≤ 6) (hp2 : 0 ≤ set_) (hp3 : set_ < 256) (hp4 : 0 ≤ town) (hp5 : town ≤ 5) (hp6 : 0 ≤ k) (hp7 : k ≤ z) (hp8 : z ≤ 8) (hp9 : 0 ≤ to) (hp10 : to ≤ 5) (hp11 : wI M z) (c_1 : ¬ k = z) (x7_2 : Int32) (ex7_2 : x7_2 = (set_ &&& ((1 <<< (k &&& 31)) ^^^ (-1)))) : 0 ≤ M 98 0 k.toNatClampNeg := by
  subst_vars
  grind [xb, and256, wI, lsOK_at]
theorem ob_X11_goesBy_36_p5 (nb nn : Nat) (day : Int32) (set_ : Int32) (town : Int32) (k : Int32) (z : Int32) (to : Int32) (M : xM) (hp0 : 1 ≤ day) (hp1 : day ≤ 6) (hp2 : 0 ≤ set_) (hp3 : set_ < 256) (hp4 : 0 ≤ town) (hp5 : town ≤ 5) (hp6 : 0 ≤ k) (hp7 : k ≤ z) (hp8 : z ≤ 8) (hp9 : 0 ≤ to) (hp10 : to ≤ 5) (hp11 : wI M z) (c_1 : ¬ k = z) (x7_2 : Int32) (ex7_2 : x7_2 = (set_ &&& ((1 <<< (k &&& 31)) ^^^ (-1)))) : M 98 0 k.toNatClampNeg < 24 := by
  subst_vars
  grind [xb, and256, wI, lsOK_at]
theorem ob_X11_goesBy_36_p6 (nb nn : Nat) (day : Int32) (set_ : Int32) (town : Int32) (k : Int32) (z : Int32) (to : Int32) (M : xM) (hp0 : 1 ≤ day) (hp1 : day ≤ 6) (hp2 : 0 ≤ set_) (hp3 : set_ < 256) (hp4 : 0 ≤ town) (hp5 : town ≤ 5) (hp6 : 0 ≤ k) (hp7 : k ≤ z) (hp8 : z ≤ 8) (hp9 : 0 ≤ to) (hp10 : to ≤ 5) (hp11 : wI M z) (c_1 : ¬ k = z) (x7_2 : Int32) (ex7_2 : x7_2 = (set_ &&& ((1 <<< (k &&& 31)) ^^^ (-1)))) : ∀ j : Nat, 0 ≤ M 81 0 j ∧ M 81 0 j ≤ 7 := by
  subst_vars
  grind [xb, and256, wI, lsOK_at]
theorem ob_X11_goesBy_60_in (nb nn : Nat) (day : Int32) (set_ : Int32) (town : Int32) (k : Int32) (z : Int32) (to : Int32) (M : xM) (hp0 : 1 ≤ day) (hp1 : day ≤ 6) (hp2 : 0 ≤ set_) (hp3 : set_ < 256) (hp4 : 0 ≤ town) (hp5 : town ≤ 5) (hp6 : 0 ≤ k) (hp7 : k ≤ z) (hp8 : z ≤ 8) (hp9 : 0 ≤ to) (hp10 : to ≤ 5) (hp11 : wI M z) (c_1 : ¬ k = z) (x7_2 : Int32) (ex7_2 : x7_2 = (set_ &&& ((1 <<< (k &&& 31)) ^^^ (-1)))) (r_4 : Int32) (er_4 : r_4 = f_X11_brings k town M) : vp_in (((1536 * (day - 1)) + (256 * to)) + x7_2) 10752 := by
  subst_vars
  first
  | exact xin (N := 10752) (by grind [and256]) (by grind [and256]) (by decide)
theorem ob_X11_goesBy_60_in_2 (nb nn : Nat) (day : Int32) (set_ : Int32) (town : Int32) (k : Int32) (z : Int32) (to : Int32) (M : xM) (hp0 : 1 ≤ day) (hp1 : day ≤ 6) (hp2 : 0 ≤ set_) (hp3 : set_ < 256) (hp4 : 0 ≤ town) (hp5 : town ≤ 5) (hp6 : 0 ≤ k) (hp7 : k ≤ z) (hp8 : z ≤ 8) (hp9 : 0 ≤ to) (hp10 : to ≤ 5) (hp11 : wI M z) (c_1 : k = z) : vp_in (((1536 * (day - 1)) + (256 * to)) + set_) 10752 := by
  subst_vars
  first
  | exact xin (N := 10752) (by grind [and256]) (by grind [and256]) (by decide)
theorem ob_X11_rates_131_x92 (nb nn : Nat) (town : Int32) (sh : Int32) (i : Int32) (M : xM) (hp0 : ∀ j : Nat, 0 ≤ M 53 0 j ∧ M 53 0 j ≤ 60) (why : Int32) (n : Nat) (b : Int32) (N_ : xM) (hmu : xmu b 8 < n + 1) (hinv : 0 ≤ b ∧ 0 ≤ sh ∧ sh ≤ 7 ∧ 0 ≤ i ∧ i ≤ 52 ∧ 0 ≤ town ∧ town ≤ 5) (c_1 : 8 ≤ b) : 0 ≤ b ∧ 0 ≤ sh ∧ sh ≤ 7 ∧ 0 ≤ i ∧ i ≤ 52 ∧ 0 ≤ town ∧ town ≤ 5 := by
  subst_vars
  grind [isSheet_eq, isTown_eq, xup_at, xb, look_ok]
theorem ob_X11_rates_123_in (nb nn : Nat) (town : Int32) (sh : Int32) (i : Int32) (M : xM) (hp0 : ∀ j : Nat, 0 ≤ M 53 0 j ∧ M 53 0 j ≤ 60) (why : Int32) (n : Nat) (b : Int32) (N_ : xM) (hmu : xmu b 8 < n + 1) (hinv : 0 ≤ b ∧ 0 ≤ sh ∧ sh ≤ 7 ∧ 0 ≤ i ∧ i ≤ 52 ∧ 0 ≤ town ∧ town ≤ 5) (c_1 : ¬ 8 ≤ b) : vp_in (((60 * sh) + i) + b) 480 := by
  subst_vars
  exact xin (N := 480) (by grind [isSheet_eq, isTown_eq, xup_at, xb, look_ok]) (by grind [isSheet_eq, isTown_eq, xup_at, xb, look_ok]) (by decide)
theorem ob_X11_rates_124_in (nb nn : Nat) (town : Int32) (sh : Int32) (i : Int32) (M : xM) (hp0 : ∀ j : Nat, 0 ≤ M 53 0 j ∧ M 53 0 j ≤ 60) (why : Int32) (n : Nat) (b : Int32) (N_ : xM) (hmu : xmu b 8 < n + 1) (hinv : 0 ≤ b ∧ 0 ≤ sh ∧ sh ≤ 7 ∧ 0 ≤ i ∧ i ≤ 52 ∧ 0 ≤ town ∧ town ≤ 5) (c_1 : ¬ 8 ≤ b) (v_2 : Int32) (ev_2 : v_2 = (N_ 54 0 (((60 * sh) + i) + b).toNatClampNeg)) : vp_in ((8 * town) + b) 48 := by
  subst_vars
  exact xin (N := 48) (by grind [isSheet_eq, isTown_eq, xup_at, xb, look_ok]) (by grind [isSheet_eq, isTown_eq, xup_at, xb, look_ok]) (by decide)
theorem ob_X11_rates_92_mu_4 (nb nn : Nat) (town : Int32) (sh : Int32) (i : Int32) (M : xM) (hp0 : ∀ j : Nat, 0 ≤ M 53 0 j ∧ M 53 0 j ≤ 60) (why : Int32) (n : Nat) (b : Int32) (N_ : xM) (hmu : xmu b 8 < n + 1) (hinv : 0 ≤ b ∧ 0 ≤ sh ∧ sh ≤ 7 ∧ 0 ≤ i ∧ i ≤ 52 ∧ 0 ≤ town ∧ town ≤ 5) (c_1 : ¬ 8 ≤ b) (v_2 : Int32) (ev_2 : v_2 = (N_ 54 0 (((60 * sh) + i) + b).toNatClampNeg)) (M_3 : xM) (eM_3 : M_3 = xup N_ 96 0 ((8 * town) + b).toNatClampNeg v_2) (x5_4 : Int32) (ex5_4 : x5_4 = b + 1) : xmu x5_4 8 < n := by
  subst_vars
  have h9 := xmu_up (a := b) (b := 8) (by grind)
  (try simp [xup_at])
  omega
theorem ob_X11_rates_92_inv_4 (nb nn : Nat) (town : Int32) (sh : Int32) (i : Int32) (M : xM) (hp0 : ∀ j : Nat, 0 ≤ M 53 0 j ∧ M 53 0 j ≤ 60) (why : Int32) (n : Nat) (b : Int32) (N_ : xM) (hmu : xmu b 8 < n + 1) (hinv : 0 ≤ b ∧ 0 ≤ sh ∧ sh ≤ 7 ∧ 0 ≤ i ∧ i ≤ 52 ∧ 0 ≤ town ∧ town ≤ 5) (c_1 : ¬ 8 ≤ b) (v_2 : Int32) (ev_2 : v_2 = (N_ 54 0 (((60 * sh) + i) + b).toNatClampNeg)) (M_3 : xM) (eM_3 : M_3 = xup N_ 96 0 ((8 * town) + b).toNatClampNeg v_2) (x5_4 : Int32) (ex5_4 : x5_4 = b + 1) : 0 ≤ x5_4 ∧ 0 ≤ sh ∧ sh ≤ 7 ∧ 0 ≤ i ∧ i ≤ 52 ∧ 0 ≤ town ∧ town ≤ 5 := by
  subst_vars
  grind [isSheet_eq, isTown_eq, xup_at, xb, look_ok]
theorem ob_X11_rates_84_x43 (nb nn : Nat) (town : Int32) (sh : Int32) (i : Int32) (M : xM) (hp0 : ∀ j : Nat, 0 ≤ M 53 0 j ∧ M 53 0 j ≤ 60) (why : Int32) (n : Nat) (b : Int32) (N_ : xM) (hmu : xmu b 8 < n + 1) (hinv : 0 ≤ b ∧ 0 ≤ sh ∧ sh ≤ 7 ∧ 0 ≤ i ∧ i ≤ 52) (c_5 : 8 ≤ b) : 0 ≤ b ∧ 0 ≤ sh ∧ sh ≤ 7 ∧ 0 ≤ i ∧ i ≤ 52 := by
  subst_vars
  grind [isSheet_eq, isTown_eq, xup_at, xb, look_ok]
theorem ob_X11_rates_63_in (nb nn : Nat) (town : Int32) (sh : Int32) (i : Int32) (M : xM) (hp0 : ∀ j : Nat, 0 ≤ M 53 0 j ∧ M 53 0 j ≤ 60) (why : Int32) (n : Nat) (b : Int32) (N_ : xM) (hmu : xmu b 8 < n + 1) (hinv : 0 ≤ b ∧ 0 ≤ sh ∧ sh ≤ 7 ∧ 0 ≤ i ∧ i ≤ 52) (c_5 : ¬ 8 ≤ b) : vp_in (((60 * sh) + i) + b) 480 := by
  subst_vars
  exact xin (N := 480) (by grind [isSheet_eq, isTown_eq, xup_at, xb, look_ok]) (by grind [isSheet_eq, isTown_eq, xup_at, xb, look_ok]) (by decide)
theorem ob_X11_rates_43_mu_8 (nb nn : Nat) (town : Int32) (sh : Int32) (i : Int32) (M : xM) (hp0 : ∀ j : Nat, 0 ≤ M 53 0 j ∧ M 53 0 j ≤ 60) (why : Int32) (n : Nat) (b : Int32) (N_ : xM) (hmu : xmu b 8 < n + 1) (hinv : 0 ≤ b ∧ 0 ≤ sh ∧ sh ≤ 7 ∧ 0 ≤ i ∧ i ≤ 52) (c_5 : ¬ 8 ≤ b) (r_6 : Int32) (er_6 : r_6 = xb (f_X11_in ((N_ 54 0 (((60 * sh) + i) + b).toNatClampNeg).toInt64) 0 100 N_)) (c_7 : ¬ r_6 = 0) (x5_8 : Int32) (ex5_8 : x5_8 = b + 1) : xmu x5_8 8 < n := by
  subst_vars
  have h9 := xmu_up (a := b) (b := 8) (by grind)
  (try simp [xup_at])
  omega
theorem ob_X11_rates_43_inv_8 (nb nn : Nat) (town : Int32) (sh : Int32) (i : Int32) (M : xM) (hp0 : ∀ j : Nat, 0 ≤ M 53 0 j ∧ M 53 0 j ≤ 60) (why : Int32) (n : Nat) (b : Int32) (N_ : xM) (hmu : xmu b 8 < n + 1) (hinv : 0 ≤ b ∧ 0 ≤ sh ∧ sh ≤ 7 ∧ 0 ≤ i ∧ i ≤ 52) (c_5 : ¬ 8 ≤ b) (r_6 : Int32) (er_6 : r_6 = xb (f_X11_in ((N_ 54 0 (((60 * sh) + i) + b).toNatClampNeg).toInt64) 0 100 N_)) (c_7 : ¬ r_6 = 0) (x5_8 : Int32) (ex5_8 : x5_8 = b + 1) : 0 ≤ x5_8 ∧ 0 ≤ sh ∧ sh ≤ 7 ∧ 0 ≤ i ∧ i ≤ 52 := by
  subst_vars
  grind [isSheet_eq, isTown_eq, xup_at, xb, look_ok]
theorem ob_X11_rates_27_p0 (nb nn : Nat) (town : Int32) (sh : Int32) (i : Int32) (M : xM) (hp0 : ∀ j : Nat, 0 ≤ M 53 0 j ∧ M 53 0 j ≤ 60) (M_9 : xM) (eM_9 : M_9 = xup M 40 0 0 0) (r_10 : Int32) (er_10 : r_10 = xb (f_X11_isTown town M_9)) (c_11 : ¬ r_10 = 0) (r_12 : Int32) (er_12 : r_12 = xb (f_X11_isSheet sh M_9)) (c_13 : ¬ r_12 = 0) : 0 ≤ sh := by
  subst_vars
  grind [isSheet_eq, isTown_eq, xup_at, xb, look_ok]
theorem ob_X11_rates_27_p1 (nb nn : Nat) (town : Int32) (sh : Int32) (i : Int32) (M : xM) (hp0 : ∀ j : Nat, 0 ≤ M 53 0 j ∧ M 53 0 j ≤ 60) (M_9 : xM) (eM_9 : M_9 = xup M 40 0 0 0) (r_10 : Int32) (er_10 : r_10 = xb (f_X11_isTown town M_9)) (c_11 : ¬ r_10 = 0) (r_12 : Int32) (er_12 : r_12 = xb (f_X11_isSheet sh M_9)) (c_13 : ¬ r_12 = 0) : sh ≤ 7 := by
  subst_vars
  grind [isSheet_eq, isTown_eq, xup_at, xb, look_ok]
theorem ob_X11_rates_43_ini_16 (nb nn : Nat) (town : Int32) (sh : Int32) (i : Int32) (M : xM) (hp0 : ∀ j : Nat, 0 ≤ M 53 0 j ∧ M 53 0 j ≤ 60) (M_9 : xM) (eM_9 : M_9 = xup M 40 0 0 0) (r_10 : Int32) (er_10 : r_10 = xb (f_X11_isTown town M_9)) (c_11 : ¬ r_10 = 0) (r_12 : Int32) (er_12 : r_12 = xb (f_X11_isSheet sh M_9)) (c_13 : ¬ r_12 = 0) (r_14 : Int32) (M_15 : xM) (er_14 : r_14 = (f_X11_lookItems sh i 8 M_9).1) (eM_15 : M_15 = (f_X11_lookItems sh i 8 M_9).2) (c_16 : 0 ≤ r_14) : 0 ≤ (0 : Int32) ∧ 0 ≤ sh ∧ sh ≤ 7 ∧ 0 ≤ i ∧ i ≤ 52 := by
  have h9 := @look_ok sh i 8 (xup M 40 0 0 0) (by decide) (by intro j; simpa [xup_at] using hp0 j)
  subst_vars
  have h8 := hp0 sh.toNatClampNeg
  grind [isSheet_eq, isTown_eq, xup_at, xb]
theorem ob_X11_rates_92_ini_18 (nb nn : Nat) (town : Int32) (sh : Int32) (i : Int32) (M : xM) (hp0 : ∀ j : Nat, 0 ≤ M 53 0 j ∧ M 53 0 j ≤ 60) (M_9 : xM) (eM_9 : M_9 = xup M 40 0 0 0) (r_10 : Int32) (er_10 : r_10 = xb (f_X11_isTown town M_9)) (c_11 : ¬ r_10 = 0) (r_12 : Int32) (er_12 : r_12 = xb (f_X11_isSheet sh M_9)) (c_13 : ¬ r_12 = 0) (r_14 : Int32) (M_15 : xM) (er_14 : r_14 = (f_X11_lookItems sh i 8 M_9).1) (eM_15 : M_15 = (f_X11_lookItems sh i 8 M_9).2) (c_16 : 0 ≤ r_14) (b_17 : Int32) (hiv_17 : 0 ≤ b_17 ∧ 0 ≤ sh ∧ sh ≤ 7 ∧ 0 ≤ i ∧ i ≤ 52) (M_18 : xM) (eM_18 : M_18 = xup M_15 40 0 1 0) : 0 ≤ (0 : Int32) ∧ 0 ≤ sh ∧ sh ≤ 7 ∧ 0 ≤ i ∧ i ≤ 52 ∧ 0 ≤ town ∧ town ≤ 5 := by
  subst_vars
  grind [isSheet_eq, isTown_eq, xup_at, xb, look_ok]
theorem ob_X11_count_217_x149 (nb nn : Nat) (what : Int32) (M : xM) (hp0 : 0 ≤ M 40 0 7) (hp1 : M 40 0 7 ≤ 8) (hp2 : 0 ≤ M 40 0 30) (hp3 : M 40 0 30 ≤ 24) (n : Nat) (z : Int32) (k : Int32) (N_ : xM) (hmu : xmu k (N_ 40 0 30) < n + 1) (hinv : 0 ≤ k ∧ N_ 40 0 30 ≤ 24) (c_1 : (N_ 40 0 30) ≤ k) : 0 ≤ k ∧ N_ 40 0 30 ≤ 24 := by
  subst_vars
  grind [xup_at, isSheet_eq, isTown_eq, isWeek_eq, isTrader_eq, in_0s, isBank_eq, in_0_1, in_0_2, in_0_4, in_0_5, in_0_6, in_0_7, in_0_100, in_0_255, in_0_299, in_0_500, in_0_9999, in_0_99999, in_1_6, in_1_8, in_1_100, in_1_999, in_t_299, xb]
theorem ob_X11_count_200_in (nb nn : Nat) (what : Int32) (M : xM) (hp0 : 0 ≤ M 40 0 7) (hp1 : M 40 0 7 ≤ 8) (hp2 : 0 ≤ M 40 0 30) (hp3 : M 40 0 30 ≤ 24) (n : Nat) (z : Int32) (k : Int32) (N_ : xM) (hmu : xmu k (N_ 40 0 30) < n + 1) (hinv : 0 ≤ k ∧ N_ 40 0 30 ≤ 24) (c_1 : ¬ (N_ 40 0 30) ≤ k) (c_2 : ¬ what = 5) (c_3 : ¬ what = 6) : vp_in k 24 := by
  subst_vars
  exact xin (N := 24) (by grind [xup_at, isSheet_eq, isTown_eq, isWeek_eq, isTrader_eq, in_0s, isBank_eq, in_0_1, in_0_2, in_0_4, in_0_5, in_0_6, in_0_7, in_0_100, in_0_255, in_0_299, in_0_500, in_0_9999, in_0_99999, in_1_6, in_1_8, in_1_100, in_1_999, in_t_299, xb]) (by grind [xup_at, isSheet_eq, isTown_eq, isWeek_eq, isTrader_eq, in_0s, isBank_eq, in_0_1, in_0_2, in_0_4, in_0_5, in_0_6, in_0_7, in_0_100, in_0_255, in_0_299, in_0_500, in_0_9999, in_0_99999, in_1_6, in_1_8, in_1_100, in_1_999, in_t_299, xb]) (by decide)
theorem ob_X11_count_149_mu_6 (nb nn : Nat) (what : Int32) (M : xM) (hp0 : 0 ≤ M 40 0 7) (hp1 : M 40 0 7 ≤ 8) (hp2 : 0 ≤ M 40 0 30) (hp3 : M 40 0 30 ≤ 24) (n : Nat) (z : Int32) (k : Int32) (N_ : xM) (hmu : xmu k (N_ 40 0 30) < n + 1) (hinv : 0 ≤ k ∧ N_ 40 0 30 ≤ 24) (c_1 : ¬ (N_ 40 0 30) ≤ k) (c_2 : ¬ what = 5) (c_3 : ¬ what = 6) (c_4 : (N_ 89 0 k.toNatClampNeg) = 0) (x2_5 : Int32) (ex2_5 : x2_5 = (z + 0)) (x3_6 : Int32) (ex3_6 : x3_6 = k + 1) : xmu x3_6 (N_ 40 0 30) < n := by
  subst_vars
  have h9 := xmu_up (a := k) (b := (N_ 40 0 30)) (by grind)
  (try simp [xup_at])
  omega
theorem ob_X11_count_149_inv_6 (nb nn : Nat) (what : Int32) (M : xM) (hp0 : 0 ≤ M 40 0 7) (hp1 : M 40 0 7 ≤ 8) (hp2 : 0 ≤ M 40 0 30) (hp3 : M 40 0 30 ≤ 24) (n : Nat) (z : Int32) (k : Int32) (N_ : xM) (hmu : xmu k (N_ 40 0 30) < n + 1) (hinv : 0 ≤ k ∧ N_ 40 0 30 ≤ 24) (c_1 : ¬ (N_ 40 0 30) ≤ k) (c_2 : ¬ what = 5) (c_3 : ¬ what = 6) (c_4 : (N_ 89 0 k.toNatClampNeg) = 0) (x2_5 : Int32) (ex2_5 : x2_5 = (z + 0)) (x3_6 : Int32) (ex3_6 : x3_6 = k + 1) : 0 ≤ x3_6 ∧ N_ 40 0 30 ≤ 24 := by
  subst_vars
  grind [xup_at, isSheet_eq, isTown_eq, isWeek_eq, isTrader_eq, in_0s, isBank_eq, in_0_1, in_0_2, in_0_4, in_0_5, in_0_6, in_0_7, in_0_100, in_0_255, in_0_299, in_0_500, in_0_9999, in_0_99999, in_1_6, in_1_8, in_1_100, in_1_999, in_t_299, xb]
theorem ob_X11_count_149_mu_8 (nb nn : Nat) (what : Int32) (M : xM) (hp0 : 0 ≤ M 40 0 7) (hp1 : M 40 0 7 ≤ 8) (hp2 : 0 ≤ M 40 0 30) (hp3 : M 40 0 30 ≤ 24) (n : Nat) (z : Int32) (k : Int32) (N_ : xM) (hmu : xmu k (N_ 40 0 30) < n + 1) (hinv : 0 ≤ k ∧ N_ 40 0 30 ≤ 24) (c_1 : ¬ (N_ 40 0 30) ≤ k) (c_2 : ¬ what = 5) (c_3 : ¬ what = 6) (c_4 : ¬ (N_ 89 0 k.toNatClampNeg) = 0) (x2_7 : Int32) (ex2_7 : x2_7 = (z + 1)) (x3_8 : Int32) (ex3_8 : x3_8 = k + 1) : xmu x3_8 (N_ 40 0 30) < n := by
  subst_vars
  have h9 := xmu_up (a := k) (b := (N_ 40 0 30)) (by grind)
  (try simp [xup_at])
  omega
theorem ob_X11_count_149_inv_8 (nb nn : Nat) (what : Int32) (M : xM) (hp0 : 0 ≤ M 40 0 7) (hp1 : M 40 0 7 ≤ 8) (hp2 : 0 ≤ M 40 0 30) (hp3 : M 40 0 30 ≤ 24) (n : Nat) (z : Int32) (k : Int32) (N_ : xM) (hmu : xmu k (N_ 40 0 30) < n + 1) (hinv : 0 ≤ k ∧ N_ 40 0 30 ≤ 24) (c_1 : ¬ (N_ 40 0 30) ≤ k) (c_2 : ¬ what = 5) (c_3 : ¬ what = 6) (c_4 : ¬ (N_ 89 0 k.toNatClampNeg) = 0) (x2_7 : Int32) (ex2_7 : x2_7 = (z + 1)) (x3_8 : Int32) (ex3_8 : x3_8 = k + 1) : 0 ≤ x3_8 ∧ N_ 40 0 30 ≤ 24 := by
  subst_vars
  grind [xup_at, isSheet_eq, isTown_eq, isWeek_eq, isTrader_eq, in_0s, isBank_eq, in_0_1, in_0_2, in_0_4, in_0_5, in_0_6, in_0_7, in_0_100, in_0_255, in_0_299, in_0_500, in_0_9999, in_0_99999, in_1_6, in_1_8, in_1_100, in_1_999, in_t_299, xb]
theorem ob_X11_count_188_in (nb nn : Nat) (what : Int32) (M : xM) (hp0 : 0 ≤ M 40 0 7) (hp1 : M 40 0 7 ≤ 8) (hp2 : 0 ≤ M 40 0 30) (hp3 : M 40 0 30 ≤ 24) (n : Nat) (z : Int32) (k : Int32) (N_ : xM) (hmu : xmu k (N_ 40 0 30) < n + 1) (hinv : 0 ≤ k ∧ N_ 40 0 30 ≤ 24) (c_1 : ¬ (N_ 40 0 30) ≤ k) (c_2 : ¬ what = 5) (c_3 : what = 6) : vp_in k 24 := by
  subst_vars
  exact xin (N := 24) (by grind [xup_at, isSheet_eq, isTown_eq, isWeek_eq, isTrader_eq, in_0s, isBank_eq, in_0_1, in_0_2, in_0_4, in_0_5, in_0_6, in_0_7, in_0_100, in_0_255, in_0_299, in_0_500, in_0_9999, in_0_99999, in_1_6, in_1_8, in_1_100, in_1_999, in_t_299, xb]) (by grind [xup_at, isSheet_eq, isTown_eq, isWeek_eq, isTrader_eq, in_0s, isBank_eq, in_0_1, in_0_2, in_0_4, in_0_5, in_0_6, in_0_7, in_0_100, in_0_255, in_0_299, in_0_500, in_0_9999, in_0_99999, in_1_6, in_1_8, in_1_100, in_1_999, in_t_299, xb]) (by decide)
theorem ob_X11_count_149_mu_11 (nb nn : Nat) (what : Int32) (M : xM) (hp0 : 0 ≤ M 40 0 7) (hp1 : M 40 0 7 ≤ 8) (hp2 : 0 ≤ M 40 0 30) (hp3 : M 40 0 30 ≤ 24) (n : Nat) (z : Int32) (k : Int32) (N_ : xM) (hmu : xmu k (N_ 40 0 30) < n + 1) (hinv : 0 ≤ k ∧ N_ 40 0 30 ≤ 24) (c_1 : ¬ (N_ 40 0 30) ≤ k) (c_2 : ¬ what = 5) (c_3 : what = 6) (c_9 : (N_ 87 0 k.toNatClampNeg) = 0) (x2_10 : Int32) (ex2_10 : x2_10 = (z + 0)) (x3_11 : Int32) (ex3_11 : x3_11 = k + 1) : xmu x3_11 (N_ 40 0 30) < n := by
  subst_vars
  have h9 := xmu_up (a := k) (b := (N_ 40 0 30)) (by grind)
  (try simp [xup_at])
  omega
theorem ob_X11_count_149_inv_11 (nb nn : Nat) (what : Int32) (M : xM) (hp0 : 0 ≤ M 40 0 7) (hp1 : M 40 0 7 ≤ 8) (hp2 : 0 ≤ M 40 0 30) (hp3 : M 40 0 30 ≤ 24) (n : Nat) (z : Int32) (k : Int32) (N_ : xM) (hmu : xmu k (N_ 40 0 30) < n + 1) (hinv : 0 ≤ k ∧ N_ 40 0 30 ≤ 24) (c_1 : ¬ (N_ 40 0 30) ≤ k) (c_2 : ¬ what = 5) (c_3 : what = 6) (c_9 : (N_ 87 0 k.toNatClampNeg) = 0) (x2_10 : Int32) (ex2_10 : x2_10 = (z + 0)) (x3_11 : Int32) (ex3_11 : x3_11 = k + 1) : 0 ≤ x3_11 ∧ N_ 40 0 30 ≤ 24 := by
  subst_vars
  grind [xup_at, isSheet_eq, isTown_eq, isWeek_eq, isTrader_eq, in_0s, isBank_eq, in_0_1, in_0_2, in_0_4, in_0_5, in_0_6, in_0_7, in_0_100, in_0_255, in_0_299, in_0_500, in_0_9999, in_0_99999, in_1_6, in_1_8, in_1_100, in_1_999, in_t_299, xb]
theorem ob_X11_count_149_mu_13 (nb nn : Nat) (what : Int32) (M : xM) (hp0 : 0 ≤ M 40 0 7) (hp1 : M 40 0 7 ≤ 8) (hp2 : 0 ≤ M 40 0 30) (hp3 : M 40 0 30 ≤ 24) (n : Nat) (z : Int32) (k : Int32) (N_ : xM) (hmu : xmu k (N_ 40 0 30) < n + 1) (hinv : 0 ≤ k ∧ N_ 40 0 30 ≤ 24) (c_1 : ¬ (N_ 40 0 30) ≤ k) (c_2 : ¬ what = 5) (c_3 : what = 6) (c_9 : ¬ (N_ 87 0 k.toNatClampNeg) = 0) (x2_12 : Int32) (ex2_12 : x2_12 = (z + 1)) (x3_13 : Int32) (ex3_13 : x3_13 = k + 1) : xmu x3_13 (N_ 40 0 30) < n := by
  subst_vars
  have h9 := xmu_up (a := k) (b := (N_ 40 0 30)) (by grind)
  (try simp [xup_at])
  omega
theorem ob_X11_count_149_inv_13 (nb nn : Nat) (what : Int32) (M : xM) (hp0 : 0 ≤ M 40 0 7) (hp1 : M 40 0 7 ≤ 8) (hp2 : 0 ≤ M 40 0 30) (hp3 : M 40 0 30 ≤ 24) (n : Nat) (z : Int32) (k : Int32) (N_ : xM) (hmu : xmu k (N_ 40 0 30) < n + 1) (hinv : 0 ≤ k ∧ N_ 40 0 30 ≤ 24) (c_1 : ¬ (N_ 40 0 30) ≤ k) (c_2 : ¬ what = 5) (c_3 : what = 6) (c_9 : ¬ (N_ 87 0 k.toNatClampNeg) = 0) (x2_12 : Int32) (ex2_12 : x2_12 = (z + 1)) (x3_13 : Int32) (ex3_13 : x3_13 = k + 1) : 0 ≤ x3_13 ∧ N_ 40 0 30 ≤ 24 := by
  subst_vars
  grind [xup_at, isSheet_eq, isTown_eq, isWeek_eq, isTrader_eq, in_0s, isBank_eq, in_0_1, in_0_2, in_0_4, in_0_5, in_0_6, in_0_7, in_0_100, in_0_255, in_0_299, in_0_500, in_0_9999, in_0_99999, in_1_6, in_1_8, in_1_100, in_1_999, in_t_299, xb]
theorem ob_X11_count_168_in (nb nn : Nat) (what : Int32) (M : xM) (hp0 : 0 ≤ M 40 0 7) (hp1 : M 40 0 7 ≤ 8) (hp2 : 0 ≤ M 40 0 30) (hp3 : M 40 0 30 ≤ 24) (n : Nat) (z : Int32) (k : Int32) (N_ : xM) (hmu : xmu k (N_ 40 0 30) < n + 1) (hinv : 0 ≤ k ∧ N_ 40 0 30 ≤ 24) (c_1 : ¬ (N_ 40 0 30) ≤ k) (c_2 : what = 5) : vp_in k 24 := by
  subst_vars
  exact xin (N := 24) (by grind [xup_at, isSheet_eq, isTown_eq, isWeek_eq, isTrader_eq, in_0s, isBank_eq, in_0_1, in_0_2, in_0_4, in_0_5, in_0_6, in_0_7, in_0_100, in_0_255, in_0_299, in_0_500, in_0_9999, in_0_99999, in_1_6, in_1_8, in_1_100, in_1_999, in_t_299, xb]) (by grind [xup_at, isSheet_eq, isTown_eq, isWeek_eq, isTrader_eq, in_0s, isBank_eq, in_0_1, in_0_2, in_0_4, in_0_5, in_0_6, in_0_7, in_0_100, in_0_255, in_0_299, in_0_500, in_0_9999, in_0_99999, in_1_6, in_1_8, in_1_100, in_1_999, in_t_299, xb]) (by decide)
theorem ob_X11_count_149_mu_16 (nb nn : Nat) (what : Int32) (M : xM) (hp0 : 0 ≤ M 40 0 7) (hp1 : M 40 0 7 ≤ 8) (hp2 : 0 ≤ M 40 0 30) (hp3 : M 40 0 30 ≤ 24) (n : Nat) (z : Int32) (k : Int32) (N_ : xM) (hmu : xmu k (N_ 40 0 30) < n + 1) (hinv : 0 ≤ k ∧ N_ 40 0 30 ≤ 24) (c_1 : ¬ (N_ 40 0 30) ≤ k) (c_2 : what = 5) (c_14 : (N_ 85 0 k.toNatClampNeg) = (-1000000)) (x2_15 : Int32) (ex2_15 : x2_15 = (z + 0)) (x3_16 : Int32) (ex3_16 : x3_16 = k + 1) : xmu x3_16 (N_ 40 0 30) < n := by
  subst_vars
  have h9 := xmu_up (a := k) (b := (N_ 40 0 30)) (by grind)
  (try simp [xup_at])
  omega
theorem ob_X11_count_149_inv_16 (nb nn : Nat) (what : Int32) (M : xM) (hp0 : 0 ≤ M 40 0 7) (hp1 : M 40 0 7 ≤ 8) (hp2 : 0 ≤ M 40 0 30) (hp3 : M 40 0 30 ≤ 24) (n : Nat) (z : Int32) (k : Int32) (N_ : xM) (hmu : xmu k (N_ 40 0 30) < n + 1) (hinv : 0 ≤ k ∧ N_ 40 0 30 ≤ 24) (c_1 : ¬ (N_ 40 0 30) ≤ k) (c_2 : what = 5) (c_14 : (N_ 85 0 k.toNatClampNeg) = (-1000000)) (x2_15 : Int32) (ex2_15 : x2_15 = (z + 0)) (x3_16 : Int32) (ex3_16 : x3_16 = k + 1) : 0 ≤ x3_16 ∧ N_ 40 0 30 ≤ 24 := by
  subst_vars
  grind [xup_at, isSheet_eq, isTown_eq, isWeek_eq, isTrader_eq, in_0s, isBank_eq, in_0_1, in_0_2, in_0_4, in_0_5, in_0_6, in_0_7, in_0_100, in_0_255, in_0_299, in_0_500, in_0_9999, in_0_99999, in_1_6, in_1_8, in_1_100, in_1_999, in_t_299, xb]
theorem ob_X11_count_149_mu_18 (nb nn : Nat) (what : Int32) (M : xM) (hp0 : 0 ≤ M 40 0 7) (hp1 : M 40 0 7 ≤ 8) (hp2 : 0 ≤ M 40 0 30) (hp3 : M 40 0 30 ≤ 24) (n : Nat) (z : Int32) (k : Int32) (N_ : xM) (hmu : xmu k (N_ 40 0 30) < n + 1) (hinv : 0 ≤ k ∧ N_ 40 0 30 ≤ 24) (c_1 : ¬ (N_ 40 0 30) ≤ k) (c_2 : what = 5) (c_14 : ¬ (N_ 85 0 k.toNatClampNeg) = (-1000000)) (x2_17 : Int32) (ex2_17 : x2_17 = (z + 1)) (x3_18 : Int32) (ex3_18 : x3_18 = k + 1) : xmu x3_18 (N_ 40 0 30) < n := by
  subst_vars
  have h9 := xmu_up (a := k) (b := (N_ 40 0 30)) (by grind)
  (try simp [xup_at])
  omega
theorem ob_X11_count_149_inv_18 (nb nn : Nat) (what : Int32) (M : xM) (hp0 : 0 ≤ M 40 0 7) (hp1 : M 40 0 7 ≤ 8) (hp2 : 0 ≤ M 40 0 30) (hp3 : M 40 0 30 ≤ 24) (n : Nat) (z : Int32) (k : Int32) (N_ : xM) (hmu : xmu k (N_ 40 0 30) < n + 1) (hinv : 0 ≤ k ∧ N_ 40 0 30 ≤ 24) (c_1 : ¬ (N_ 40 0 30) ≤ k) (c_2 : what = 5) (c_14 : ¬ (N_ 85 0 k.toNatClampNeg) = (-1000000)) (x2_17 : Int32) (ex2_17 : x2_17 = (z + 1)) (x3_18 : Int32) (ex3_18 : x3_18 = k + 1) : 0 ≤ x3_18 ∧ N_ 40 0 30 ≤ 24 := by
  subst_vars
  grind [xup_at, isSheet_eq, isTown_eq, isWeek_eq, isTrader_eq, in_0s, isBank_eq, in_0_1, in_0_2, in_0_4, in_0_5, in_0_6, in_0_7, in_0_100, in_0_255, in_0_299, in_0_500, in_0_9999, in_0_99999, in_1_6, in_1_8, in_1_100, in_1_999, in_t_299, xb]
theorem ob_X11_count_135_x104 (nb nn : Nat) (what : Int32) (M : xM) (hp0 : 0 ≤ M 40 0 7) (hp1 : M 40 0 7 ≤ 8) (hp2 : 0 ≤ M 40 0 30) (hp3 : M 40 0 30 ≤ 24) (n : Nat) (z : Int32) (k : Int32) (N_ : xM) (hmu : xmu k (N_ 40 0 7) < n + 1) (hinv : 0 ≤ k ∧ N_ 40 0 7 ≤ 8) (c_19 : (N_ 40 0 7) ≤ k) : 0 ≤ k ∧ N_ 40 0 7 ≤ 8 := by
  subst_vars
  grind [xup_at, isSheet_eq, isTown_eq, isWeek_eq, isTrader_eq, in_0s, isBank_eq, in_0_1, in_0_2, in_0_4, in_0_5, in_0_6, in_0_7, in_0_100, in_0_255, in_0_299, in_0_500, in_0_9999, in_0_99999, in_1_6, in_1_8, in_1_100, in_1_999, in_t_299, xb]
theorem ob_X11_count_118_in (nb nn : Nat) (what : Int32) (M : xM) (hp0 : 0 ≤ M 40 0 7) (hp1 : M 40 0 7 ≤ 8) (hp2 : 0 ≤ M 40 0 30) (hp3 : M 40 0 30 ≤ 24) (n : Nat) (z : Int32) (k : Int32) (N_ : xM) (hmu : xmu k (N_ 40 0 7) < n + 1) (hinv : 0 ≤ k ∧ N_ 40 0 7 ≤ 8) (c_19 : ¬ (N_ 40 0 7) ≤ k) : vp_in k 8 := by
  subst_vars
  exact xin (N := 8) (by grind [xup_at, isSheet_eq, isTown_eq, isWeek_eq, isTrader_eq, in_0s, isBank_eq, in_0_1, in_0_2, in_0_4, in_0_5, in_0_6, in_0_7, in_0_100, in_0_255, in_0_299, in_0_500, in_0_9999, in_0_99999, in_1_6, in_1_8, in_1_100, in_1_999, in_t_299, xb]) (by grind [xup_at, isSheet_eq, isTown_eq, isWeek_eq, isTrader_eq, in_0s, isBank_eq, in_0_1, in_0_2, in_0_4, in_0_5, in_0_6, in_0_7, in_0_100, in_0_255, in_0_299, in_0_500, in_0_9999, in_0_99999, in_1_6, in_1_8, in_1_100, in_1_999, in_t_299, xb]) (by decide)
theorem ob_X11_count_104_mu_22 (nb nn : Nat) (what : Int32) (M : xM) (hp0 : 0 ≤ M 40 0 7) (hp1 : M 40 0 7 ≤ 8) (hp2 : 0 ≤ M 40 0 30) (hp3 : M 40 0 30 ≤ 24) (n : Nat) (z : Int32) (k : Int32) (N_ : xM) (hmu : xmu k (N_ 40 0 7) < n + 1) (hinv : 0 ≤ k ∧ N_ 40 0 7 ≤ 8) (c_19 : ¬ (N_ 40 0 7) ≤ k) (c_20 : (N_ 61 0 k.toNatClampNeg) = 0) (x2_21 : Int32) (ex2_21 : x2_21 = (z + 0)) (x3_22 : Int32) (ex3_22 : x3_22 = k + 1) : xmu x3_22 (N_ 40 0 7) < n := by
  subst_vars
  have h9 := xmu_up (a := k) (b := (N_ 40 0 7)) (by grind)
  (try simp [xup_at])
  omega
theorem ob_X11_count_104_inv_22 (nb nn : Nat) (what : Int32) (M : xM) (hp0 : 0 ≤ M 40 0 7) (hp1 : M 40 0 7 ≤ 8) (hp2 : 0 ≤ M 40 0 30) (hp3 : M 40 0 30 ≤ 24) (n : Nat) (z : Int32) (k : Int32) (N_ : xM) (hmu : xmu k (N_ 40 0 7) < n + 1) (hinv : 0 ≤ k ∧ N_ 40 0 7 ≤ 8) (c_19 : ¬ (N_ 40 0 7) ≤ k) (c_20 : (N_ 61 0 k.toNatClampNeg) = 0) (x2_21 : Int32) (ex2_21 : x2_21 = (z + 0)) (x3_22 : Int32) (ex3_22 : x3_22 = k + 1) : 0 ≤ x3_22 ∧ N_ 40 0 7 ≤ 8 := by
  subst_vars
  grind [xup_at, isSheet_eq, isTown_eq, isWeek_eq, isTrader_eq, in_0s, isBank_eq, in_0_1, in_0_2, in_0_4, in_0_5, in_0_6, in_0_7, in_0_100, in_0_255, in_0_299, in_0_500, in_0_9999, in_0_99999, in_1_6, in_1_8, in_1_100, in_1_999, in_t_299, xb]
theorem ob_X11_count_104_mu_24 (nb nn : Nat) (what : Int32) (M : xM) (hp0 : 0 ≤ M 40 0 7) (hp1 : M 40 0 7 ≤ 8) (hp2 : 0 ≤ M 40 0 30) (hp3 : M 40 0 30 ≤ 24) (n : Nat) (z : Int32) (k : Int32) (N_ : xM) (hmu : xmu k (N_ 40 0 7) < n + 1) (hinv : 0 ≤ k ∧ N_ 40 0 7 ≤ 8) (c_19 : ¬ (N_ 40 0 7) ≤ k) (c_20 : ¬ (N_ 61 0 k.toNatClampNeg) = 0) (x2_23 : Int32) (ex2_23 : x2_23 = (z + 1)) (x3_24 : Int32) (ex3_24 : x3_24 = k + 1) : xmu x3_24 (N_ 40 0 7) < n := by
  subst_vars
  have h9 := xmu_up (a := k) (b := (N_ 40 0 7)) (by grind)
  (try simp [xup_at])
  omega
theorem ob_X11_count_104_inv_24 (nb nn : Nat) (what : Int32) (M : xM) (hp0 : 0 ≤ M 40 0 7) (hp1 : M 40 0 7 ≤ 8) (hp2 : 0 ≤ M 40 0 30) (hp3 : M 40 0 30 ≤ 24) (n : Nat) (z : Int32) (k : Int32) (N_ : xM) (hmu : xmu k (N_ 40 0 7) < n + 1) (hinv : 0 ≤ k ∧ N_ 40 0 7 ≤ 8) (c_19 : ¬ (N_ 40 0 7) ≤ k) (c_20 : ¬ (N_ 61 0 k.toNatClampNeg) = 0) (x2_23 : Int32) (ex2_23 : x2_23 = (z + 1)) (x3_24 : Int32) (ex3_24 : x3_24 = k + 1) : 0 ≤ x3_24 ∧ N_ 40 0 7 ≤ 8 := by
  subst_vars
  grind [xup_at, isSheet_eq, isTown_eq, isWeek_eq, isTrader_eq, in_0s, isBank_eq, in_0_1, in_0_2, in_0_4, in_0_5, in_0_6, in_0_7, in_0_100, in_0_255, in_0_299, in_0_500, in_0_9999, in_0_99999, in_1_6, in_1_8, in_1_100, in_1_999, in_t_299, xb]
theorem ob_X11_count_95_x66 (nb nn : Nat) (what : Int32) (M : xM) (hp0 : 0 ≤ M 40 0 7) (hp1 : M 40 0 7 ≤ 8) (hp2 : 0 ≤ M 40 0 30) (hp3 : M 40 0 30 ≤ 24) (n : Nat) (z : Int32) (k : Int32) (N_ : xM) (hmu : xmu k 8 < n + 1) (hinv : 0 ≤ k) (c_25 : 8 ≤ k) : 0 ≤ k := by
  subst_vars
  grind [xup_at, isSheet_eq, isTown_eq, isWeek_eq, isTrader_eq, in_0s, isBank_eq, in_0_1, in_0_2, in_0_4, in_0_5, in_0_6, in_0_7, in_0_100, in_0_255, in_0_299, in_0_500, in_0_9999, in_0_99999, in_1_6, in_1_8, in_1_100, in_1_999, in_t_299, xb]
theorem ob_X11_count_78_in (nb nn : Nat) (what : Int32) (M : xM) (hp0 : 0 ≤ M 40 0 7) (hp1 : M 40 0 7 ≤ 8) (hp2 : 0 ≤ M 40 0 30) (hp3 : M 40 0 30 ≤ 24) (n : Nat) (z : Int32) (k : Int32) (N_ : xM) (hmu : xmu k 8 < n + 1) (hinv : 0 ≤ k) (c_25 : ¬ 8 ≤ k) : vp_in k 8 := by
  subst_vars
  exact xin (N := 8) (by grind [xup_at, isSheet_eq, isTown_eq, isWeek_eq, isTrader_eq, in_0s, isBank_eq, in_0_1, in_0_2, in_0_4, in_0_5, in_0_6, in_0_7, in_0_100, in_0_255, in_0_299, in_0_500, in_0_9999, in_0_99999, in_1_6, in_1_8, in_1_100, in_1_999, in_t_299, xb]) (by grind [xup_at, isSheet_eq, isTown_eq, isWeek_eq, isTrader_eq, in_0s, isBank_eq, in_0_1, in_0_2, in_0_4, in_0_5, in_0_6, in_0_7, in_0_100, in_0_255, in_0_299, in_0_500, in_0_9999, in_0_99999, in_1_6, in_1_8, in_1_100, in_1_999, in_t_299, xb]) (by decide)
theorem ob_X11_count_66_mu_28 (nb nn : Nat) (what : Int32) (M : xM) (hp0 : 0 ≤ M 40 0 7) (hp1 : M 40 0 7 ≤ 8) (hp2 : 0 ≤ M 40 0 30) (hp3 : M 40 0 30 ≤ 24) (n : Nat) (z : Int32) (k : Int32) (N_ : xM) (hmu : xmu k 8 < n + 1) (hinv : 0 ≤ k) (c_25 : ¬ 8 ≤ k) (c_26 : (N_ 52 0 k.toNatClampNeg) < 0) (x2_27 : Int32) (ex2_27 : x2_27 = (z + 0)) (x3_28 : Int32) (ex3_28 : x3_28 = k + 1) : xmu x3_28 8 < n := by
  subst_vars
  have h9 := xmu_up (a := k) (b := 8) (by grind)
  (try simp [xup_at])
  omega
theorem ob_X11_count_66_inv_28 (nb nn : Nat) (what : Int32) (M : xM) (hp0 : 0 ≤ M 40 0 7) (hp1 : M 40 0 7 ≤ 8) (hp2 : 0 ≤ M 40 0 30) (hp3 : M 40 0 30 ≤ 24) (n : Nat) (z : Int32) (k : Int32) (N_ : xM) (hmu : xmu k 8 < n + 1) (hinv : 0 ≤ k) (c_25 : ¬ 8 ≤ k) (c_26 : (N_ 52 0 k.toNatClampNeg) < 0) (x2_27 : Int32) (ex2_27 : x2_27 = (z + 0)) (x3_28 : Int32) (ex3_28 : x3_28 = k + 1) : 0 ≤ x3_28 := by
  subst_vars
  grind [xup_at, isSheet_eq, isTown_eq, isWeek_eq, isTrader_eq, in_0s, isBank_eq, in_0_1, in_0_2, in_0_4, in_0_5, in_0_6, in_0_7, in_0_100, in_0_255, in_0_299, in_0_500, in_0_9999, in_0_99999, in_1_6, in_1_8, in_1_100, in_1_999, in_t_299, xb]
theorem ob_X11_count_66_mu_30 (nb nn : Nat) (what : Int32) (M : xM) (hp0 : 0 ≤ M 40 0 7) (hp1 : M 40 0 7 ≤ 8) (hp2 : 0 ≤ M 40 0 30) (hp3 : M 40 0 30 ≤ 24) (n : Nat) (z : Int32) (k : Int32) (N_ : xM) (hmu : xmu k 8 < n + 1) (hinv : 0 ≤ k) (c_25 : ¬ 8 ≤ k) (c_26 : ¬ (N_ 52 0 k.toNatClampNeg) < 0) (x2_29 : Int32) (ex2_29 : x2_29 = (z + 1)) (x3_30 : Int32) (ex3_30 : x3_30 = k + 1) : xmu x3_30 8 < n := by
  subst_vars
  have h9 := xmu_up (a := k) (b := 8) (by grind)
  (try simp [xup_at])
  omega
theorem ob_X11_count_66_inv_30 (nb nn : Nat) (what : Int32) (M : xM) (hp0 : 0 ≤ M 40 0 7) (hp1 : M 40 0 7 ≤ 8) (hp2 : 0 ≤ M 40 0 30) (hp3 : M 40 0 30 ≤ 24) (n : Nat) (z : Int32) (k : Int32) (N_ : xM) (hmu : xmu k 8 < n + 1) (hinv : 0 ≤ k) (c_25 : ¬ 8 ≤ k) (c_26 : ¬ (N_ 52 0 k.toNatClampNeg) < 0) (x2_29 : Int32) (ex2_29 : x2_29 = (z + 1)) (x3_30 : Int32) (ex3_30 : x3_30 = k + 1) : 0 ≤ x3_30 := by
  subst_vars
  grind [xup_at, isSheet_eq, isTown_eq, isWeek_eq, isTrader_eq, in_0s, isBank_eq, in_0_1, in_0_2, in_0_4, in_0_5, in_0_6, in_0_7, in_0_100, in_0_255, in_0_299, in_0_500, in_0_9999, in_0_99999, in_1_6, in_1_8, in_1_100, in_1_999, in_t_299, xb]
theorem ob_X11_count_66_ini_32 (nb nn : Nat) (what : Int32) (M : xM) (hp0 : 0 ≤ M 40 0 7) (hp1 : M 40 0 7 ≤ 8) (hp2 : 0 ≤ M 40 0 30) (hp3 : M 40 0 30 ≤ 24) (M_31 : xM) (eM_31 : M_31 = xup M 40 0 0 0) (c_32 : what = 0) : 0 ≤ (0 : Int32) := by
  subst_vars
  grind [xup_at, isSheet_eq, isTown_eq, isWeek_eq, isTrader_eq, in_0s, isBank_eq, in_0_1, in_0_2, in_0_4, in_0_5, in_0_6, in_0_7, in_0_100, in_0_255, in_0_299, in_0_500, in_0_9999, in_0_99999, in_1_6, in_1_8, in_1_100, in_1_999, in_t_299, xb]
theorem ob_X11_count_104_ini_36 (nb nn : Nat) (what : Int32) (M : xM) (hp0 : 0 ≤ M 40 0 7) (hp1 : M 40 0 7 ≤ 8) (hp2 : 0 ≤ M 40 0 30) (hp3 : M 40 0 30 ≤ 24) (M_31 : xM) (eM_31 : M_31 = xup M 40 0 0 0) (c_32 : ¬ what = 0) (c_35 : ¬ what = 1) (c_36 : what = 2) : 0 ≤ (0 : Int32) ∧ M_31 40 0 7 ≤ 8 := by
  subst_vars
  grind [xup_at, isSheet_eq, isTown_eq, isWeek_eq, isTrader_eq, in_0s, isBank_eq, in_0_1, in_0_2, in_0_4, in_0_5, in_0_6, in_0_7, in_0_100, in_0_255, in_0_299, in_0_500, in_0_9999, in_0_99999, in_1_6, in_1_8, in_1_100, in_1_999, in_t_299, xb]
theorem ob_X11_count_149_ini_41 (nb nn : Nat) (what : Int32) (M : xM) (hp0 : 0 ≤ M 40 0 7) (hp1 : M 40 0 7 ≤ 8) (hp2 : 0 ≤ M 40 0 30) (hp3 : M 40 0 30 ≤ 24) (M_31 : xM) (eM_31 : M_31 = xup M 40 0 0 0) (c_32 : ¬ what = 0) (c_35 : ¬ what = 1) (c_36 : ¬ what = 2) (c_39 : ¬ what = 3) (c_40 : ¬ what = 4) (c_41 : what = 5) : 0 ≤ (0 : Int32) ∧ M_31 40 0 30 ≤ 24 := by
  subst_vars
  grind [xup_at, isSheet_eq, isTown_eq, isWeek_eq, isTrader_eq, in_0s, isBank_eq, in_0_1, in_0_2, in_0_4, in_0_5, in_0_6, in_0_7, in_0_100, in_0_255, in_0_299, in_0_500, in_0_9999, in_0_99999, in_1_6, in_1_8, in_1_100, in_1_999, in_t_299, xb]
theorem ob_X11_count_149_ini_44 (nb nn : Nat) (what : Int32) (M : xM) (hp0 : 0 ≤ M 40 0 7) (hp1 : M 40 0 7 ≤ 8) (hp2 : 0 ≤ M 40 0 30) (hp3 : M 40 0 30 ≤ 24) (M_31 : xM) (eM_31 : M_31 = xup M 40 0 0 0) (c_32 : ¬ what = 0) (c_35 : ¬ what = 1) (c_36 : ¬ what = 2) (c_39 : ¬ what = 3) (c_40 : ¬ what = 4) (c_41 : ¬ what = 5) (c_44 : what = 6) : 0 ≤ (0 : Int32) ∧ M_31 40 0 30 ≤ 24 := by
  subst_vars
  grind [xup_at, isSheet_eq, isTown_eq, isWeek_eq, isTrader_eq, in_0s, isBank_eq, in_0_1, in_0_2, in_0_4, in_0_5, in_0_6, in_0_7, in_0_100, in_0_255, in_0_299, in_0_500, in_0_9999, in_0_99999, in_1_6, in_1_8, in_1_100, in_1_999, in_t_299, xb]
theorem ob_X11_count_149_ini_47 (nb nn : Nat) (what : Int32) (M : xM) (hp0 : 0 ≤ M 40 0 7) (hp1 : M 40 0 7 ≤ 8) (hp2 : 0 ≤ M 40 0 30) (hp3 : M 40 0 30 ≤ 24) (M_31 : xM) (eM_31 : M_31 = xup M 40 0 0 0) (c_32 : ¬ what = 0) (c_35 : ¬ what = 1) (c_36 : ¬ what = 2) (c_39 : ¬ what = 3) (c_40 : ¬ what = 4) (c_41 : ¬ what = 5) (c_44 : ¬ what = 6) (c_47 : what = 7) : 0 ≤ (0 : Int32) ∧ M_31 40 0 30 ≤ 24 := by
  subst_vars
  grind [xup_at, isSheet_eq, isTown_eq, isWeek_eq, isTrader_eq, in_0s, isBank_eq, in_0_1, in_0_2, in_0_4, in_0_5, in_0_6, in_0_7, in_0_100, in_0_255, in_0_299, in_0_500, in_0_9999, in_0_99999, in_1_6, in_1_8, in_1_100, in_1_999, in_t_299, xb]
set_option maxHeartbeats 4000000 in
set_option maxRecDepth 100000 in
theorem c_X11_offOf (l : Launch) (nb nn : Nat) (g : xG) (L : List (Nat × Nat)) (M : xM) (hD : xD g L) (hL : xEL nb nn L) (town : Int32) (w : Int32) (b : Int32) (hp0 : 0 ≤ town) (hp1 : town ≤ 5) (hp2 : mI M) : xCi l yX11_offOf cX11_offOf 5 (some .int) 3 g L M [.ref (xad g 40 0), .int town, .int w, .int b] (fun r u => (r, u) = f_X11_offOf town w b M) := by
  intro sz
  refine x_beg (by decide +kernel) rfl ?_
  intro p e s m args below meth c ls hsz hB
  subst hsz
  obtain ⟨hx, hb, hml, hown, hts, hr, hlk, hK, hAm, hP, hl⟩ := hB
  have S : CallFix p m c cX11_offOf 5 s args (xws yX11_offOf cX11_offOf 5 (some .int)) RX11 := ⟨hx, hb, hml, hown, hts⟩
  have hown : s.vm.findClass RX11 = some m.cls := hown
  have hl : lv_has ls 5 [(0, .ref (xad g 40 0)), (1, .int town), (2, .int w), (3, .int b)] := hl
  have hS : va_S (xA g L s.heap.size) s.heap s.heap [] := va_S.rf
  obtain ⟨F, hF⟩ : ∃ F, F = f_X11_offOf town w b M := ⟨_, rfl⟩
  have hres := hF
  rw [f_X11_offOf] at hres
  refine lv_aload_n hx hb dX11_offOf_0 rfl (lv_at hl 0 rfl) ?_
  refine lv_iload_n hx hb dX11_offOf_1 rfl (lv_at hl 1 rfl) ?_
  refine lv_iload_n hx hb dX11_offOf_2 rfl (lv_at hl 2 rfl) ?_
  refine lv_iload_n hx hb dX11_offOf_3 rfl (lv_at hl 3 rfl) ?_
  refine lv_iconst (v := 0) hx hb dX11_offOf_4 (by decide) ?_
  refine x_callVi (As := [.int town, .int w, .int b, .int 0]) S hK hAm hD hP hS mt_X11_saidOf wd_659 ⟨by decide, by decide⟩ (hL 40 0 (xe_40 nb nn)) (xc40 g 0) rfl (c_X11_saidOf l nb nn g L M hD hL town w b 0 (ob_X11_offOf_5_p0 nb nn town w b M hp0 hp1 hp2) (ob_X11_offOf_5_p1 nb nn town w b M hp0 hp1 hp2) (ob_X11_offOf_5_p2 nb nn town w b M hp0 hp1 hp2) (ob_X11_offOf_5_p3 nb nn town w b M hp0 hp1 hp2)) rfl hl.1 (Nat.le_of_ble_eq_true rfl) ⟨Nat.zero_le _, Nat.zero_le _⟩ dX11_offOf_5 rfl (fun r_1 M_2 H locs ep_ hP hS => ?_)
  replace hres := xlet2_n hres ep_
  have er_1 : r_1 = (f_X11_saidOf town w b 0 M).1 := congrArg Prod.fst ep_
  have eM_2 : M_2 = (f_X11_saidOf town w b 0 M).2 := congrArg Prod.snd ep_
  clear ep_
  refine lv_istore (lv' := [(4, .int r_1), (0, .ref (xad g 40 0)), (1, .int town), (2, .int w), (3, .int b)]) hx hb dX11_offOf_8 hl (by decide) rfl (fun ls hl => ?_)
  refine lv_iload hx hb dX11_offOf_10 (lv_at hl 0 rfl) ?_
  refine lv_ldc (own := RX11) (v := (-1000000)) hx hb hown (hts _ (List.mem_cons_of_mem _ wd_302)) dX11_offOf_12 ?_
  refine lv_icmp_ne (tgt := 21) hx hb dX11_offOf_14 (by decide) (fun c_3 => ?_) (fun c_3 => ?_)
  · replace hres := hres.trans (if_neg c_3)
    refine lv_iload hx hb dX11_offOf_21 (lv_at hl 0 rfl) ?_
    exact x_reti hx hb hr hlk hP hS (hres.symm.trans hF) dX11_offOf_23
  · replace hres := hres.trans (if_pos c_3)
    refine lv_iconst (v := 0) hx hb dX11_offOf_17 (by decide) ?_
    refine lv_goto (tgt := 23) hx hb dX11_offOf_18 (by decide) ?_
    exact x_reti hx hb hr hlk hP hS (hres.symm.trans hF) dX11_offOf_23
set_option maxHeartbeats 4000000 in
set_option maxRecDepth 100000 in
theorem c_X11_known (l : Launch) (nb nn : Nat) (g : xG) (L : List (Nat × Nat)) (M : xM) (hD : xD g L) (hL : xEL nb nn L) (town : Int32) (w : Int32) (b : Int32) (what : Int32) (hp0 : mI M) : xCi l yX11_known cX11_known 5 (some .int) 4 g L M [.ref (xad g 40 0), .int town, .int w, .int b, .int what] (fun r u => (r, u) = f_X11_known town w b what M) := by
  intro sz
  refine x_beg (by decide +kernel) rfl ?_
  intro p e s m args below meth c ls hsz hB
  subst hsz
  obtain ⟨hx, hb, hml, hown, hts, hr, hlk, hK, hAm, hP, hl⟩ := hB
  have S : CallFix p m c cX11_known 5 s args (xws yX11_known cX11_known 5 (some .int)) RX11 := ⟨hx, hb, hml, hown, hts⟩
  have hown : s.vm.findClass RX11 = some m.cls := hown
  have hl : lv_has ls 5 [(0, .ref (xad g 40 0)), (1, .int town), (2, .int w), (3, .int b), (4, .int what)] := hl
  have hS : va_S (xA g L s.heap.size) s.heap s.heap [] := va_S.rf
  obtain ⟨F, hF⟩ : ∃ F, F = f_X11_known town w b what M := ⟨_, rfl⟩
  have hres := hF
  rw [f_X11_known] at hres
  refine lv_aload_n hx hb dX11_known_0 rfl (lv_at hl 0 rfl) ?_
  refine lv_iconst (v := 0) hx hb dX11_known_1 (by decide) ?_
  refine pf_RX11_113 hx hb hts hown hK hP hD hS (hL 40 0 (xe_40 nb nn)) dX11_known_2 (fun H locs hP hS => ?_)
  obtain ⟨M_1, eM_1⟩ : ∃ z_ : xM, z_ = xup M 40 0 0 0 := ⟨_, rfl⟩
  rw [← eM_1] at hP
  replace hres := xlet_n hres eM_1
  refine lv_iload_n hx hb dX11_known_5 rfl (lv_at hl 1 rfl) ?_
  refine x_callSi (As := [.int town]) S hK hAm hD hP hS mt_X11_isTown wd_281 ⟨by decide, by decide⟩ (c_X11_isTown l nb nn g L M_1 hD hL town) rfl hl.1 (Nat.le_of_ble_eq_true rfl) ⟨Nat.zero_le _, Nat.zero_le _⟩ dX11_known_6 rfl (fun r_2 u H locs hp_ hP hS => ?_)
  obtain ⟨er_2, eu_⟩ := hp_
  rw [eu_] at hP
  clear eu_
  replace hres := xlet_n hres er_2
  refine lv_if_eq (tgt := 40) hx hb dX11_known_9 (by decide) (fun c_3 => ?_) (fun c_3 => ?_)
  · replace hres := hres.trans (if_pos c_3)
    refine lv_ldc (own := RX11) (v := (-1000001)) hx hb hown (hts _ (List.mem_cons_of_mem _ wd_202)) dX11_known_40 ?_
    exact x_reti hx hb hr hlk hP hS (hres.symm.trans hF) dX11_known_42
  · replace hres := hres.trans (if_neg c_3)
    refine lv_iload_n hx hb dX11_known_12 rfl (lv_at hl 2 rfl) ?_
    refine x_callSi (As := [.int w]) S hK hAm hD hP hS mt_X11_isWeek wd_652 ⟨by decide, by decide⟩ (c_X11_isWeek l nb nn g L M_1 hD hL w) rfl hl.1 (Nat.le_of_ble_eq_true rfl) ⟨Nat.zero_le _, Nat.zero_le _⟩ dX11_known_13 rfl (fun r_4 u H locs hp_ hP hS => ?_)
    obtain ⟨er_4, eu_⟩ := hp_
    rw [eu_] at hP
    clear eu_
    replace hres := xlet_n hres er_4
    refine lv_if_eq (tgt := 40) hx hb dX11_known_16 (by decide) (fun c_5 => ?_) (fun c_5 => ?_)
    · replace hres := hres.trans (if_pos c_5)
      refine lv_ldc (own := RX11) (v := (-1000001)) hx hb hown (hts _ (List.mem_cons_of_mem _ wd_202)) dX11_known_40 ?_
      exact x_reti hx hb hr hlk hP hS (hres.symm.trans hF) dX11_known_42
    · replace hres := hres.trans (if_neg c_5)
      refine lv_aload_n hx hb dX11_known_19 rfl (lv_at hl 0 rfl) ?_
      refine lv_iload_n hx hb dX11_known_20 rfl (lv_at hl 3 rfl) ?_
      refine x_callVi (As := [.int b]) S hK hAm hD hP hS mt_X11_isBank wd_347 ⟨by decide, by decide⟩ (hL 40 0 (xe_40 nb nn)) (xc40 g 0) rfl (c_X11_isBank l nb nn g L M_1 hD hL b) rfl hl.1 (Nat.le_of_ble_eq_true rfl) ⟨Nat.zero_le _, Nat.zero_le _⟩ dX11_known_21 rfl (fun r_6 u H locs hp_ hP hS => ?_)
      obtain ⟨er_6, eu_⟩ := hp_
      rw [eu_] at hP
      clear eu_
      replace hres := xlet_n hres er_6
      refine lv_if_eq (tgt := 40) hx hb dX11_known_24 (by decide) (fun c_7 => ?_) (fun c_7 => ?_)
      · replace hres := hres.trans (if_pos c_7)
        refine lv_ldc (own := RX11) (v := (-1000001)) hx hb hown (hts _ (List.mem_cons_of_mem _ wd_202)) dX11_known_40 ?_
        exact x_reti hx hb hr hlk hP hS (hres.symm.trans hF) dX11_known_42
      · replace hres := hres.trans (if_neg c_7)
        refine lv_iload hx hb dX11_known_27 (lv_at hl 4 rfl) ?_
        refine lv_i2l (v := what.toInt64) hx hb dX11_known_29 rfl ?_
        refine lv_lconst (v := 0) hx hb dX11_known_30 (by decide) ?_
        refine lv_ldc2 (own := RX11) (v := 2) hx hb hown (hts _ (List.mem_cons_of_mem _ wd_201)) dX11_known_31 ?_
        refine x_callSi (As := [.long (what.toInt64), .long 0, .long 2]) S hK hAm hD hP hS mt_X11_in wd_208 ⟨by decide, by decide⟩ (c_X11_in l nb nn g L M_1 hD hL (what.toInt64) 0 2) rfl hl.1 (Nat.le_of_ble_eq_true rfl) ⟨Nat.zero_le _, Nat.zero_le _⟩ dX11_known_34 rfl (fun r_8 u H locs hp_ hP hS => ?_)
        obtain ⟨er_8, eu_⟩ := hp_
        rw [eu_] at hP
        clear eu_
        replace hres := xlet_n hres er_8
        refine lv_if_ne (tgt := 43) hx hb dX11_known_37 (by decide) (fun c_9 => ?_) (fun c_9 => ?_)
        · replace hres := hres.trans (if_neg c_9)
          refine lv_iload hx hb dX11_known_43 (lv_at hl 4 rfl) ?_
          refine lv_if_ne (tgt := 58) hx hb dX11_known_45 (by decide) (fun c_10 => ?_) (fun c_10 => ?_)
          · replace hres := hres.trans (if_neg c_10)
            refine lv_iload hx hb dX11_known_58 (lv_at hl 4 rfl) ?_
            refine lv_iconst (v := 1) hx hb dX11_known_60 (by decide) ?_
            refine lv_icmp_ne (tgt := 75) hx hb dX11_known_61 (by decide) (fun c_11 => ?_) (fun c_11 => ?_)
            · replace hres := hres.trans (if_neg c_11)
              refine lv_aload_n hx hb dX11_known_75 rfl (lv_at hl 0 rfl) ?_
              refine lv_iload_n hx hb dX11_known_76 rfl (lv_at hl 1 rfl) ?_
              refine lv_iload_n hx hb dX11_known_77 rfl (lv_at hl 2 rfl) ?_
              refine lv_iload_n hx hb dX11_known_78 rfl (lv_at hl 3 rfl) ?_
              refine lv_ldc (own := RX11) (v := (-1000000)) hx hb hown (hts _ (List.mem_cons_of_mem _ wd_302)) dX11_known_79 ?_
              refine x_callVi (As := [.int town, .int w, .int b, .int (-1000000)]) S hK hAm hD hP hS mt_X11_falsePlates wd_667 ⟨by decide, by decide⟩ (hL 40 0 (xe_40 nb nn)) (xc40 g 0) rfl (c_X11_falsePlates l nb nn g L M_1 hD hL town w b (-1000000) (ob_X11_known_81_p0 nb nn town w b what M hp0 M_1 eM_1 r_2 er_2 c_3 r_4 er_4 c_5 r_6 er_6 c_7 r_8 er_8 c_9 c_10 c_11) (ob_X11_known_81_p1 nb nn town w b what M hp0 M_1 eM_1 r_2 er_2 c_3 r_4 er_4 c_5 r_6 er_6 c_7 r_8 er_8 c_9 c_10 c_11) (ob_X11_known_81_p2 nb nn town w b what M hp0 M_1 eM_1 r_2 er_2 c_3 r_4 er_4 c_5 r_6 er_6 c_7 r_8 er_8 c_9 c_10 c_11) (ob_X11_known_81_p3 nb nn town w b what M hp0 M_1 eM_1 r_2 er_2 c_3 r_4 er_4 c_5 r_6 er_6 c_7 r_8 er_8 c_9 c_10 c_11) (ob_X11_known_81_p4 nb nn town w b what M hp0 M_1 eM_1 r_2 er_2 c_3 r_4 er_4 c_5 r_6 er_6 c_7 r_8 er_8 c_9 c_10 c_11)) rfl hl.1 (Nat.le_of_ble_eq_true rfl) ⟨Nat.zero_le _, Nat.zero_le _⟩ dX11_known_81 rfl (fun r_12 M_13 H locs ep_ hP hS => ?_)
              replace hres := xlet2_n hres ep_
              have er_12 : r_12 = (f_X11_falsePlates town w b (-1000000) M_1).1 := congrArg Prod.fst ep_
              have eM_13 : M_13 = (f_X11_falsePlates town w b (-1000000) M_1).2 := congrArg Prod.snd ep_
              clear ep_
              exact x_reti hx hb hr hlk hP hS (hres.symm.trans hF) dX11_known_84
            · replace hres := hres.trans (if_pos c_11)
              refine lv_aload_n hx hb dX11_known_64 rfl (lv_at hl 0 rfl) ?_
              refine lv_iload_n hx hb dX11_known_65 rfl (lv_at hl 1 rfl) ?_
              refine lv_iload_n hx hb dX11_known_66 rfl (lv_at hl 2 rfl) ?_
              refine lv_iload_n hx hb dX11_known_67 rfl (lv_at hl 3 rfl) ?_
              refine lv_iconst (v := 2) hx hb dX11_known_68 (by decide) ?_
              refine x_callVi (As := [.int town, .int w, .int b, .int 2]) S hK hAm hD hP hS mt_X11_saidOf wd_659 ⟨by decide, by decide⟩ (hL 40 0 (xe_40 nb nn)) (xc40 g 0) rfl (c_X11_saidOf l nb nn g L M_1 hD hL town w b 2 (ob_X11_known_69_p0 nb nn town w b what M hp0 M_1 eM_1 r_2 er_2 c_3 r_4 er_4 c_5 r_6 er_6 c_7 r_8 er_8 c_9 c_10 c_11) (ob_X11_known_69_p1 nb nn town w b what M hp0 M_1 eM_1 r_2 er_2 c_3 r_4 er_4 c_5 r_6 er_6 c_7 r_8 er_8 c_9 c_10 c_11) (ob_X11_known_69_p2 nb nn town w b what M hp0 M_1 eM_1 r_2 er_2 c_3 r_4 er_4 c_5 r_6 er_6 c_7 r_8 er_8 c_9 c_10 c_11) (ob_X11_known_69_p3 nb nn town w b what M hp0 M_1 eM_1 r_2 er_2 c_3 r_4 er_4 c_5 r_6 er_6 c_7 r_8 er_8 c_9 c_10 c_11)) rfl hl.1 (Nat.le_of_ble_eq_true rfl) ⟨Nat.zero_le _, Nat.zero_le _⟩ dX11_known_69 rfl (fun r_14 M_15 H locs ep_ hP hS => ?_)
              replace hres := xlet2_n hres ep_
              have er_14 : r_14 = (f_X11_saidOf town w b 2 M_1).1 := congrArg Prod.fst ep_
              have eM_15 : M_15 = (f_X11_saidOf town w b 2 M_1).2 := congrArg Prod.snd ep_
              clear ep_
              refine lv_goto (tgt := 84) hx hb dX11_known_72 (by decide) ?_
              exact x_reti hx hb hr hlk hP hS (hres.symm.trans hF) dX11_known_84
          · replace hres := hres.trans (if_pos c_10)
            refine lv_aload_n hx hb dX11_known_48 rfl (lv_at hl 0 rfl) ?_
            refine lv_iload_n hx hb dX11_known_49 rfl (lv_at hl 1 rfl) ?_
            refine lv_iload_n hx hb dX11_known_50 rfl (lv_at hl 2 rfl) ?_
            refine lv_iload_n hx hb dX11_known_51 rfl (lv_at hl 3 rfl) ?_
            refine x_callVi (As := [.int town, .int w, .int b]) S hK hAm hD hP hS mt_X11_offOf wd_655 ⟨by decide, by decide⟩ (hL 40 0 (xe_40 nb nn)) (xc40 g 0) rfl (c_X11_offOf l nb nn g L M_1 hD hL town w b (ob_X11_known_52_p0 nb nn town w b what M hp0 M_1 eM_1 r_2 er_2 c_3 r_4 er_4 c_5 r_6 er_6 c_7 r_8 er_8 c_9 c_10) (ob_X11_known_52_p1 nb nn town w b what M hp0 M_1 eM_1 r_2 er_2 c_3 r_4 er_4 c_5 r_6 er_6 c_7 r_8 er_8 c_9 c_10) (ob_X11_known_52_p2 nb nn town w b what M hp0 M_1 eM_1 r_2 er_2 c_3 r_4 er_4 c_5 r_6 er_6 c_7 r_8 er_8 c_9 c_10)) rfl hl.1 (Nat.le_of_ble_eq_true rfl) ⟨Nat.zero_le _, Nat.zero_le _⟩ dX11_known_52 rfl (fun r_16 M_17 H locs ep_ hP hS => ?_)
            replace hres := xlet2_n hres ep_
            have er_16 : r_16 = (f_X11_offOf town w b M_1).1 := congrArg Prod.fst ep_
            have eM_17 : M_17 = (f_X11_offOf town w b M_1).2 := congrArg Prod.snd ep_
            clear ep_
            refine lv_goto (tgt := 84) hx hb dX11_known_55 (by decide) ?_
            exact x_reti hx hb hr hlk hP hS (hres.symm.trans hF) dX11_known_84
        · replace hres := hres.trans (if_pos c_9)
          refine lv_ldc (own := RX11) (v := (-1000001)) hx hb hown (hts _ (List.mem_cons_of_mem _ wd_202)) dX11_known_40 ?_
          exact x_reti hx hb hr hlk hP hS (hres.symm.trans hF) dX11_known_42
set_option maxHeartbeats 4000000 in
set_option maxRecDepth 100000 in
theorem c_X11_looksLike (l : Launch) (nb nn : Nat) (g : xG) (L : List (Nat × Nat)) (M : xM) (hD : xD g L) (hL : xEL nb nn L) (q : Int32) (town : Int32) (w : Int32) (hp0 : 0 ≤ q) (hp1 : q < 24) (hp2 : 0 ≤ town) (hp3 : town ≤ 5) (hp4 : mI M) : xCi l yX11_looksLike cX11_looksLike 5 (some .int) 3 g L M [.ref (xad g 40 0), .int q, .int town, .int w] (fun r u => (r, u) = f_X11_looksLike q town w M) := by
  intro sz
  refine x_beg (by decide +kernel) rfl ?_
  intro p e s m args below meth c ls hsz hB
  subst hsz
  obtain ⟨hx, hb, hml, hown, hts, hr, hlk, hK, hAm, hP, hl⟩ := hB
  have S : CallFix p m c cX11_looksLike 5 s args (xws yX11_looksLike cX11_looksLike 5 (some .int)) RX11 := ⟨hx, hb, hml, hown, hts⟩
  have hown : s.vm.findClass RX11 = some m.cls := hown
  have hl : lv_has ls 5 [(0, .ref (xad g 40 0)), (1, .int q), (2, .int town), (3, .int w)] := hl
  have hS : va_S (xA g L s.heap.size) s.heap s.heap [] := va_S.rf
  obtain ⟨F, hF⟩ : ∃ F, F = f_X11_looksLike q town w M := ⟨_, rfl⟩
  have hres := hF
  rw [f_X11_looksLike] at hres
  refine lv_aload_n hx hb dX11_looksLike_0 rfl (lv_at hl 0 rfl) ?_
  refine lv_iload_n hx hb dX11_looksLike_1 rfl (lv_at hl 1 rfl) ?_
  refine x_callVi (As := [.int q]) S hK hAm hD hP hS mt_X11_isFalse wd_764 ⟨by decide, by decide⟩ (hL 40 0 (xe_40 nb nn)) (xc40 g 0) rfl (c_X11_isFalse l nb nn g L M hD hL q (ob_X11_looksLike_2_p0 nb nn q town w M hp0 hp1 hp2 hp3 hp4) (ob_X11_looksLike_2_p1 nb nn q town w M hp0 hp1 hp2 hp3 hp4) (ob_X11_looksLike_2_p2 nb nn q town w M hp0 hp1 hp2 hp3 hp4) (ob_X11_looksLike_2_p3 nb nn q town w M hp0 hp1 hp2 hp3 hp4)) rfl hl.1 (Nat.le_of_ble_eq_true rfl) ⟨Nat.zero_le _, Nat.zero_le _⟩ dX11_looksLike_2 rfl (fun r_1 u H locs hp_ hP hS => ?_)
  obtain ⟨er_1, eu_⟩ := hp_
  rw [eu_] at hP
  clear eu_
  replace hres := xlet_n hres er_1
  refine lv_if_eq (tgt := 10) hx hb dX11_looksLike_5 (by decide) (fun c_2 => ?_) (fun c_2 => ?_)
  · replace hres := hres.trans (if_pos c_2)
    refine lv_aload_n hx hb dX11_looksLike_10 rfl (lv_at hl 0 rfl) ?_
    refine gf_RX11_56 hx hb hts hown hK hP (hL 40 0 (xe_40 nb nn)) dX11_looksLike_11 ?_
    refine lv_iload_n hx hb dX11_looksLike_14 rfl (lv_at hl 1 rfl) ?_
    refine x_iald hx hb hK hP (hL 81 0 (xe_81 nb nn)) (xc81 g 0) (ob_X11_looksLike_15_in nb nn q town w M hp0 hp1 hp2 hp3 hp4 r_1 er_1 c_2) dX11_looksLike_15 ?_
    refine lv_topi (fun x4_3 ex4_3 => ?_)
    replace hres := xlet_n hres ex4_3
    refine lv_istore (lv' := [(4, .int x4_3), (0, .ref (xad g 40 0)), (1, .int q), (2, .int town), (3, .int w)]) hx hb dX11_looksLike_16 hl (by decide) rfl (fun ls hl => ?_)
    refine lv_aload_n hx hb dX11_looksLike_18 rfl (lv_at hl 1 rfl) ?_
    refine gf_RX11_65 hx hb hts hown hK hP (hL 40 0 (xe_40 nb nn)) dX11_looksLike_19 ?_
    refine lv_iload_n hx hb dX11_looksLike_22 rfl (lv_at hl 2 rfl) ?_
    refine x_iald hx hb hK hP (hL 84 0 (xe_84 nb nn)) (xc84 g 0) (ob_X11_looksLike_23_in nb nn q town w M hp0 hp1 hp2 hp3 hp4 r_1 er_1 c_2 x4_3 ex4_3) dX11_looksLike_23 ?_
    refine lv_if_eq (tgt := 52) hx hb dX11_looksLike_24 (by decide) (fun c_4 => ?_) (fun c_4 => ?_)
    · replace hres := hres.trans (if_pos c_4)
      refine lv_iconst (v := 1) hx hb dX11_looksLike_52 (by decide) ?_
      refine lv_goto (tgt := 57) hx hb dX11_looksLike_53 (by decide) ?_
      exact x_reti hx hb hr hlk hP hS (hres.symm.trans hF) dX11_looksLike_57
    · replace hres := hres.trans (if_neg c_4)
      refine lv_aload_n hx hb dX11_looksLike_27 rfl (lv_at hl 1 rfl) ?_
      refine lv_iload_n hx hb dX11_looksLike_28 rfl (lv_at hl 3 rfl) ?_
      refine lv_iload_n hx hb dX11_looksLike_29 rfl (lv_at hl 4 rfl) ?_
      refine lv_iload hx hb dX11_looksLike_30 (lv_at hl 0 rfl) ?_
      refine lv_ldc (own := RX11) (v := (-1000000)) hx hb hown (hts _ (List.mem_cons_of_mem _ wd_302)) dX11_looksLike_32 ?_
      refine x_callVi (As := [.int town, .int w, .int x4_3, .int (-1000000)]) S hK hAm hD hP hS mt_X11_falsePlates wd_667 ⟨by decide, by decide⟩ (hL 40 0 (xe_40 nb nn)) (xc40 g 0) rfl (c_X11_falsePlates l nb nn g L M hD hL town w x4_3 (-1000000) (ob_X11_looksLike_34_p0 nb nn q town w M hp0 hp1 hp2 hp3 hp4 r_1 er_1 c_2 x4_3 ex4_3 c_4) (ob_X11_looksLike_34_p1 nb nn q town w M hp0 hp1 hp2 hp3 hp4 r_1 er_1 c_2 x4_3 ex4_3 c_4) (ob_X11_looksLike_34_p2 nb nn q town w M hp0 hp1 hp2 hp3 hp4 r_1 er_1 c_2 x4_3 ex4_3 c_4) (ob_X11_looksLike_34_p3 nb nn q town w M hp0 hp1 hp2 hp3 hp4 r_1 er_1 c_2 x4_3 ex4_3 c_4) (ob_X11_looksLike_34_p4 nb nn q town w M hp0 hp1 hp2 hp3 hp4 r_1 er_1 c_2 x4_3 ex4_3 c_4)) rfl hl.1 (Nat.le_of_ble_eq_true rfl) ⟨Nat.zero_le _, Nat.zero_le _⟩ dX11_looksLike_34 rfl (fun r_5 M_6 H locs ep_ hP hS => ?_)
      replace hres := xlet2_n hres ep_
      have er_5 : r_5 = (f_X11_falsePlates town w x4_3 (-1000000) M).1 := congrArg Prod.fst ep_
      have eM_6 : M_6 = (f_X11_falsePlates town w x4_3 (-1000000) M).2 := congrArg Prod.snd ep_
      clear ep_
      refine lv_if_le (tgt := 56) hx hb dX11_looksLike_37 (by decide) (fun c_7 => ?_) (fun c_7 => ?_)
      · replace hres := hres.trans (if_pos c_7)
        refine lv_iconst (v := 2) hx hb dX11_looksLike_56 (by decide) ?_
        exact x_reti hx hb hr hlk hP hS (hres.symm.trans hF) dX11_looksLike_57
      · replace hres := hres.trans (if_neg c_7)
        refine lv_aload_n hx hb dX11_looksLike_40 rfl (lv_at hl 1 rfl) ?_
        refine lv_iload_n hx hb dX11_looksLike_41 rfl (lv_at hl 3 rfl) ?_
        refine lv_iload_n hx hb dX11_looksLike_42 rfl (lv_at hl 4 rfl) ?_
        refine lv_iload hx hb dX11_looksLike_43 (lv_at hl 0 rfl) ?_
        refine lv_iload_n hx hb dX11_looksLike_45 rfl (lv_at hl 2 rfl) ?_
        refine x_callVi (As := [.int town, .int w, .int x4_3, .int q]) S hK hAm hD hP hS mt_X11_falsePlates wd_667 ⟨by decide, by decide⟩ (hL 40 0 (xe_40 nb nn)) (xc40 g 0) rfl (c_X11_falsePlates l nb nn g L M_6 hD hL town w x4_3 q (ob_X11_looksLike_46_p0 nb nn q town w M hp0 hp1 hp2 hp3 hp4 r_1 er_1 c_2 x4_3 ex4_3 c_4 r_5 M_6 er_5 eM_6 c_7) (ob_X11_looksLike_46_p1 nb nn q town w M hp0 hp1 hp2 hp3 hp4 r_1 er_1 c_2 x4_3 ex4_3 c_4 r_5 M_6 er_5 eM_6 c_7) (ob_X11_looksLike_46_p2 nb nn q town w M hp0 hp1 hp2 hp3 hp4 r_1 er_1 c_2 x4_3 ex4_3 c_4 r_5 M_6 er_5 eM_6 c_7) (ob_X11_looksLike_46_p3 nb nn q town w M hp0 hp1 hp2 hp3 hp4 r_1 er_1 c_2 x4_3 ex4_3 c_4 r_5 M_6 er_5 eM_6 c_7) (ob_X11_looksLike_46_p4 nb nn q town w M hp0 hp1 hp2 hp3 hp4 r_1 er_1 c_2 x4_3 ex4_3 c_4 r_5 M_6 er_5 eM_6 c_7)) rfl hl.1 (Nat.le_of_ble_eq_true rfl) ⟨Nat.zero_le _, Nat.zero_le _⟩ dX11_looksLike_46 rfl (fun r_8 M_9 H locs ep_ hP hS => ?_)
        replace hres := xlet2_n hres ep_
        have er_8 : r_8 = (f_X11_falsePlates town w x4_3 q M_6).1 := congrArg Prod.fst ep_
        have eM_9 : M_9 = (f_X11_falsePlates town w x4_3 q M_6).2 := congrArg Prod.snd ep_
        clear ep_
        refine lv_if_ne (tgt := 56) hx hb dX11_looksLike_49 (by decide) (fun c_10 => ?_) (fun c_10 => ?_)
        · replace hres := hres.trans (if_neg c_10)
          refine lv_iconst (v := 2) hx hb dX11_looksLike_56 (by decide) ?_
          exact x_reti hx hb hr hlk hP hS (hres.symm.trans hF) dX11_looksLike_57
        · replace hres := hres.trans (if_pos c_10)
          refine lv_iconst (v := 1) hx hb dX11_looksLike_52 (by decide) ?_
          refine lv_goto (tgt := 57) hx hb dX11_looksLike_53 (by decide) ?_
          exact x_reti hx hb hr hlk hP hS (hres.symm.trans hF) dX11_looksLike_57
  · replace hres := hres.trans (if_neg c_2)
    refine lv_iconst (v := 0) hx hb dX11_looksLike_8 (by decide) ?_
    exact x_reti hx hb hr hlk hP hS (hres.symm.trans hF) dX11_looksLike_9
set_option maxHeartbeats 4000000 in
set_option maxRecDepth 100000 in
theorem c_X11_looks (l : Launch) (nb nn : Nat) (g : xG) (L : List (Nat × Nat)) (M : xM) (hD : xD g L) (hL : xEL nb nn L) (q : Int32) (town : Int32) (w : Int32) (hp0 : mI M) : xCi l yX11_looks cX11_looks 4 (some .int) 4 g L M [.ref (xad g 40 0), .int q, .int town, .int w] (fun r u => (r, u) = f_X11_looks q town w M) := by
  intro sz
  refine x_beg (by decide +kernel) rfl ?_
  intro p e s m args below meth c ls hsz hB
  subst hsz
  obtain ⟨hx, hb, hml, hown, hts, hr, hlk, hK, hAm, hP, hl⟩ := hB
  have S : CallFix p m c cX11_looks 4 s args (xws yX11_looks cX11_looks 4 (some .int)) RX11 := ⟨hx, hb, hml, hown, hts⟩
  have hown : s.vm.findClass RX11 = some m.cls := hown
  have hl : lv_has ls 4 [(0, .ref (xad g 40 0)), (1, .int q), (2, .int town), (3, .int w)] := hl
  have hS : va_S (xA g L s.heap.size) s.heap s.heap [] := va_S.rf
  obtain ⟨F, hF⟩ : ∃ F, F = f_X11_looks q town w M := ⟨_, rfl⟩
  have hres := hF
  rw [f_X11_looks] at hres
  refine lv_aload_n hx hb dX11_looks_0 rfl (lv_at hl 0 rfl) ?_
  refine lv_iconst (v := 0) hx hb dX11_looks_1 (by decide) ?_
  refine pf_RX11_113 hx hb hts hown hK hP hD hS (hL 40 0 (xe_40 nb nn)) dX11_looks_2 (fun H locs hP hS => ?_)
  obtain ⟨M_1, eM_1⟩ : ∃ z_ : xM, z_ = xup M 40 0 0 0 := ⟨_, rfl⟩
  rw [← eM_1] at hP
  replace hres := xlet_n hres eM_1
  refine lv_aload_n hx hb dX11_looks_5 rfl (lv_at hl 0 rfl) ?_
  refine lv_iload_n hx hb dX11_looks_6 rfl (lv_at hl 1 rfl) ?_
  refine x_callVi (As := [.int q]) S hK hAm hD hP hS mt_X11_isNote wd_738 ⟨by decide, by decide⟩ (hL 40 0 (xe_40 nb nn)) (xc40 g 0) rfl (c_X11_isNote l nb nn g L M_1 hD hL q) rfl hl.1 (Nat.le_of_ble_eq_true rfl) ⟨Nat.zero_le _, Nat.zero_le _⟩ dX11_looks_7 rfl (fun r_2 u H locs hp_ hP hS => ?_)
  obtain ⟨er_2, eu_⟩ := hp_
  rw [eu_] at hP
  clear eu_
  replace hres := xlet_n hres er_2
  refine lv_if_eq (tgt := 27) hx hb dX11_looks_10 (by decide) (fun c_3 => ?_) (fun c_3 => ?_)
  · replace hres := hres.trans (if_pos c_3)
    refine lv_ldc (own := RX11) (v := (-1000001)) hx hb hown (hts _ (List.mem_cons_of_mem _ wd_202)) dX11_looks_27 ?_
    refine lv_goto (tgt := 39) hx hb dX11_looks_29 (by decide) ?_
    exact x_reti hx hb hr hlk hP hS (hres.symm.trans hF) dX11_looks_39
  · replace hres := hres.trans (if_neg c_3)
    refine lv_iload_n hx hb dX11_looks_13 rfl (lv_at hl 2 rfl) ?_
    refine x_callSi (As := [.int town]) S hK hAm hD hP hS mt_X11_isTown wd_281 ⟨by decide, by decide⟩ (c_X11_isTown l nb nn g L M_1 hD hL town) rfl hl.1 (Nat.le_of_ble_eq_true rfl) ⟨Nat.zero_le _, Nat.zero_le _⟩ dX11_looks_14 rfl (fun r_4 u H locs hp_ hP hS => ?_)
    obtain ⟨er_4, eu_⟩ := hp_
    rw [eu_] at hP
    clear eu_
    replace hres := xlet_n hres er_4
    refine lv_if_eq (tgt := 27) hx hb dX11_looks_17 (by decide) (fun c_5 => ?_) (fun c_5 => ?_)
    · replace hres := hres.trans (if_pos c_5)
      refine lv_ldc (own := RX11) (v := (-1000001)) hx hb hown (hts _ (List.mem_cons_of_mem _ wd_202)) dX11_looks_27 ?_
      refine lv_goto (tgt := 39) hx hb dX11_looks_29 (by decide) ?_
      exact x_reti hx hb hr hlk hP hS (hres.symm.trans hF) dX11_looks_39
    · replace hres := hres.trans (if_neg c_5)
      refine lv_iload_n hx hb dX11_looks_20 rfl (lv_at hl 3 rfl) ?_
      refine x_callSi (As := [.int w]) S hK hAm hD hP hS mt_X11_isWeek wd_652 ⟨by decide, by decide⟩ (c_X11_isWeek l nb nn g L M_1 hD hL w) rfl hl.1 (Nat.le_of_ble_eq_true rfl) ⟨Nat.zero_le _, Nat.zero_le _⟩ dX11_looks_21 rfl (fun r_6 u H locs hp_ hP hS => ?_)
      obtain ⟨er_6, eu_⟩ := hp_
      rw [eu_] at hP
      clear eu_
      replace hres := xlet_n hres er_6
      refine lv_if_ne (tgt := 32) hx hb dX11_looks_24 (by decide) (fun c_7 => ?_) (fun c_7 => ?_)
      · replace hres := hres.trans (if_neg c_7)
        refine lv_aload_n hx hb dX11_looks_32 rfl (lv_at hl 0 rfl) ?_
        refine lv_iload_n hx hb dX11_looks_33 rfl (lv_at hl 1 rfl) ?_
        refine lv_iload_n hx hb dX11_looks_34 rfl (lv_at hl 2 rfl) ?_
        refine lv_iload_n hx hb dX11_looks_35 rfl (lv_at hl 3 rfl) ?_
        refine x_callVi (As := [.int q, .int town, .int w]) S hK hAm hD hP hS mt_X11_looksLike wd_760 ⟨by decide, by decide⟩ (hL 40 0 (xe_40 nb nn)) (xc40 g 0) rfl (c_X11_looksLike l nb nn g L M_1 hD hL q town w (ob_X11_looks_36_p0 nb nn q town w M hp0 M_1 eM_1 r_2 er_2 c_3 r_4 er_4 c_5 r_6 er_6 c_7) (ob_X11_looks_36_p1 nb nn q town w M hp0 M_1 eM_1 r_2 er_2 c_3 r_4 er_4 c_5 r_6 er_6 c_7) (ob_X11_looks_36_p2 nb nn q town w M hp0 M_1 eM_1 r_2 er_2 c_3 r_4 er_4 c_5 r_6 er_6 c_7) (ob_X11_looks_36_p3 nb nn q town w M hp0 M_1 eM_1 r_2 er_2 c_3 r_4 er_4 c_5 r_6 er_6 c_7) (ob_X11_looks_36_p4 nb nn q town w M hp0 M_1 eM_1 r_2 er_2 c_3 r_4 er_4 c_5 r_6 er_6 c_7)) rfl hl.1 (Nat.le_of_ble_eq_true rfl) ⟨Nat.zero_le _, Nat.zero_le _⟩ dX11_looks_36 rfl (fun r_8 M_9 H locs ep_ hP hS => ?_)
        replace hres := xlet2_n hres ep_
        have er_8 : r_8 = (f_X11_looksLike q town w M_1).1 := congrArg Prod.fst ep_
        have eM_9 : M_9 = (f_X11_looksLike q town w M_1).2 := congrArg Prod.snd ep_
        clear ep_
        exact x_reti hx hb hr hlk hP hS (hres.symm.trans hF) dX11_looks_39
      · replace hres := hres.trans (if_pos c_7)
        refine lv_ldc (own := RX11) (v := (-1000001)) hx hb hown (hts _ (List.mem_cons_of_mem _ wd_202)) dX11_looks_27 ?_
        refine lv_goto (tgt := 39) hx hb dX11_looks_29 (by decide) ?_
        exact x_reti hx hb hr hlk hP hS (hres.symm.trans hF) dX11_looks_39
set_option maxHeartbeats 4000000 in
set_option maxRecDepth 100000 in
theorem c_X11_brings (l : Launch) (nb nn : Nat) (g : xG) (L : List (Nat × Nat)) (M : xM) (hD : xD g L) (hL : xEL nb nn L) (k : Int32) (town : Int32) (hp0 : 0 ≤ k) (hp1 : k < 8) (hp2 : 0 ≤ town) (hp3 : town ≤ 5) (hp4 : 0 ≤ M 98 0 k.toNatClampNeg) (hp5 : M 98 0 k.toNatClampNeg < 24) (hp6 : ∀ j : Nat, 0 ≤ M 81 0 j ∧ M 81 0 j ≤ 7) : xCi l yX11_brings cX11_brings 3 (some .int) 0 g L M [.ref (xad g 40 0), .int k, .int town] (fun r u => r = f_X11_brings k town M ∧ u = M) := by
  intro sz
  refine x_beg (by decide +kernel) rfl ?_
  intro p e s m args below meth c ls hsz hB
  subst hsz
  obtain ⟨hx, hb, hml, hown, hts, hr, hlk, hK, hAm, hP, hl⟩ := hB
  have S : CallFix p m c cX11_brings 3 s args (xws yX11_brings cX11_brings 3 (some .int)) RX11 := ⟨hx, hb, hml, hown, hts⟩
  have hown : s.vm.findClass RX11 = some m.cls := hown
  have hl : lv_has ls 3 [(0, .ref (xad g 40 0)), (1, .int k), (2, .int town)] := hl
  have hS : va_S (xA g L s.heap.size) s.heap s.heap [] := va_S.rf
  obtain ⟨F, hF⟩ : ∃ F, F = f_X11_brings k town M := ⟨_, rfl⟩
  have hres := hF
  rw [f_X11_brings] at hres
  refine lv_aload_n hx hb dX11_brings_0 rfl (lv_at hl 0 rfl) ?_
  refine gf_RX11_59 hx hb hts hown hK hP (hL 40 0 (xe_40 nb nn)) dX11_brings_1 ?_
  refine lv_aload_n hx hb dX11_brings_4 rfl (lv_at hl 0 rfl) ?_
  refine gf_RX11_107 hx hb hts hown hK hP (hL 40 0 (xe_40 nb nn)) dX11_brings_5 ?_
  refine lv_iload_n hx hb dX11_brings_8 rfl (lv_at hl 1 rfl) ?_
  refine x_iald hx hb hK hP (hL 98 0 (xe_98 nb nn)) (xc98 g 0) (ob_X11_brings_9_in nb nn k town M hp0 hp1 hp2 hp3 hp4 hp5 hp6) dX11_brings_9 ?_
  refine x_iald hx hb hK hP (hL 82 0 (xe_82 nb nn)) (xc82 g 0) (ob_X11_brings_10_in nb nn k town M hp0 hp1 hp2 hp3 hp4 hp5 hp6) dX11_brings_10 ?_
  refine lv_aload_n hx hb dX11_brings_11 rfl (lv_at hl 0 rfl) ?_
  refine gf_RX11_101 hx hb hts hown hK hP (hL 40 0 (xe_40 nb nn)) dX11_brings_12 ?_
  refine lv_bipush (v := 8) hx hb dX11_brings_15 (by decide) ?_
  refine lv_iload_n hx hb dX11_brings_17 rfl (lv_at hl 2 rfl) ?_
  refine lv_imul hx hb dX11_brings_18 ?_
  refine lv_aload_n hx hb dX11_brings_19 rfl (lv_at hl 0 rfl) ?_
  refine gf_RX11_56 hx hb hts hown hK hP (hL 40 0 (xe_40 nb nn)) dX11_brings_20 ?_
  refine lv_aload_n hx hb dX11_brings_23 rfl (lv_at hl 0 rfl) ?_
  refine gf_RX11_107 hx hb hts hown hK hP (hL 40 0 (xe_40 nb nn)) dX11_brings_24 ?_
  refine lv_iload_n hx hb dX11_brings_27 rfl (lv_at hl 1 rfl) ?_
  refine x_iald hx hb hK hP (hL 98 0 (xe_98 nb nn)) (xc98 g 0) (ob_X11_brings_28_in nb nn k town M hp0 hp1 hp2 hp3 hp4 hp5 hp6) dX11_brings_28 ?_
  refine x_iald hx hb hK hP (hL 81 0 (xe_81 nb nn)) (xc81 g 0) (ob_X11_brings_29_in nb nn k town M hp0 hp1 hp2 hp3 hp4 hp5 hp6) dX11_brings_29 ?_
  refine lv_iadd hx hb dX11_brings_30 ?_
  refine x_iald hx hb hK hP (hL 96 0 (xe_96 nb nn)) (xc96 g 0) (ob_X11_brings_31_in nb nn k town M hp0 hp1 hp2 hp3 hp4 hp5 hp6) dX11_brings_31 ?_
  refine lv_imul hx hb dX11_brings_32 ?_
  refine lv_bipush (v := 100) hx hb dX11_brings_33 (by decide) ?_
  refine lv_idiv hx hb dX11_brings_35 (by decide) ?_
  exact x_reti hx hb hr hlk hP hS ⟨hres.symm.trans hF, rfl⟩ dX11_brings_36
set_option maxHeartbeats 4000000 in
set_option maxRecDepth 100000 in
theorem c_X11_goesBy (l : Launch) (nb nn : Nat) (g : xG) (L : List (Nat × Nat)) (M : xM) (hD : xD g L) (hL : xEL nb nn L) (day : Int32) (set_ : Int32) (town : Int32) (k : Int32) (z : Int32) (to : Int32) (hp0 : 1 ≤ day) (hp1 : day ≤ 6) (hp2 : 0 ≤ set_) (hp3 : set_ < 256) (hp4 : 0 ≤ town) (hp5 : town ≤ 5) (hp6 : 0 ≤ k) (hp7 : k ≤ z) (hp8 : z ≤ 8) (hp9 : 0 ≤ to) (hp10 : to ≤ 5) (hp11 : wI M z) : xCi l yX11_goesBy cX11_goesBy 8 (some .int) 1 g L M [.ref (xad g 40 0), .int day, .int set_, .int town, .int k, .int z, .int to] (fun r u => r = f_X11_goesBy day set_ town k z to M ∧ u = M) := by
  intro sz
  refine x_beg (by decide +kernel) rfl ?_
  intro p e s m args below meth c ls hsz hB
  subst hsz
  obtain ⟨hx, hb, hml, hown, hts, hr, hlk, hK, hAm, hP, hl⟩ := hB
  have S : CallFix p m c cX11_goesBy 8 s args (xws yX11_goesBy cX11_goesBy 8 (some .int)) RX11 := ⟨hx, hb, hml, hown, hts⟩
  have hown : s.vm.findClass RX11 = some m.cls := hown
  have hl : lv_has ls 8 [(0, .ref (xad g 40 0)), (1, .int day), (2, .int set_), (3, .int town), (4, .int k), (5, .int z), (6, .int to)] := hl
  have hS : va_S (xA g L s.heap.size) s.heap s.heap [] := va_S.rf
  obtain ⟨F, hF⟩ : ∃ F, F = f_X11_goesBy day set_ town k z to M := ⟨_, rfl⟩
  have hres := hF
  rw [f_X11_goesBy] at hres
  refine lv_iload hx hb dX11_goesBy_0 (lv_at hl 4 rfl) ?_
  refine lv_iload hx hb dX11_goesBy_2 (lv_at hl 5 rfl) ?_
  refine lv_icmp_ne (tgt := 11) hx hb dX11_goesBy_4 (by decide) (fun c_1 => ?_) (fun c_1 => ?_)
  · replace hres := hres.trans (if_neg c_1)
    refine lv_iload_n hx hb dX11_goesBy_11 rfl (lv_at hl 2 rfl) ?_
    refine lv_iconst (v := 1) hx hb dX11_goesBy_12 (by decide) ?_
    refine lv_iload hx hb dX11_goesBy_13 (lv_at hl 4 rfl) ?_
    refine lv_ishl hx hb dX11_goesBy_15 ?_
    refine lv_iconst (v := (-1)) hx hb dX11_goesBy_16 (by decide) ?_
    refine lv_ixor hx hb dX11_goesBy_17 ?_
    refine lv_iand hx hb dX11_goesBy_18 ?_
    refine lv_topi (fun x7_2 ex7_2 => ?_)
    replace hres := xlet_n hres ex7_2
    refine lv_istore (lv' := [(7, .int x7_2), (0, .ref (xad g 40 0)), (1, .int day), (2, .int set_), (3, .int town), (4, .int k), (5, .int z), (6, .int to)]) hx hb dX11_goesBy_19 hl (by decide) rfl (fun ls hl => ?_)
    refine lv_iload hx hb dX11_goesBy_21 (lv_at hl 5 rfl) ?_
    refine lv_iload hx hb dX11_goesBy_23 (lv_at hl 6 rfl) ?_
    refine lv_icmp_ne (tgt := 32) hx hb dX11_goesBy_25 (by decide) (fun c_3 => ?_) (fun c_3 => ?_)
    · clear c_3
      refine lv_aload_n hx hb dX11_goesBy_32 rfl (lv_at hl 1 rfl) ?_
      refine lv_iload hx hb dX11_goesBy_33 (lv_at hl 5 rfl) ?_
      refine lv_iload_n hx hb dX11_goesBy_35 rfl (lv_at hl 4 rfl) ?_
      refine x_callVi (As := [.int k, .int town]) S hK hAm hD hP hS mt_X11_brings wd_991 ⟨by decide, by decide⟩ (hL 40 0 (xe_40 nb nn)) (xc40 g 0) rfl (c_X11_brings l nb nn g L M hD hL k town (ob_X11_goesBy_36_p0 nb nn day set_ town k z to M hp0 hp1 hp2 hp3 hp4 hp5 hp6 hp7 hp8 hp9 hp10 hp11 c_1 x7_2 ex7_2) (ob_X11_goesBy_36_p1 nb nn day set_ town k z to M hp0 hp1 hp2 hp3 hp4 hp5 hp6 hp7 hp8 hp9 hp10 hp11 c_1 x7_2 ex7_2) (ob_X11_goesBy_36_p2 nb nn day set_ town k z to M hp0 hp1 hp2 hp3 hp4 hp5 hp6 hp7 hp8 hp9 hp10 hp11 c_1 x7_2 ex7_2) (ob_X11_goesBy_36_p3 nb nn day set_ town k z to M hp0 hp1 hp2 hp3 hp4 hp5 hp6 hp7 hp8 hp9 hp10 hp11 c_1 x7_2 ex7_2) (ob_X11_goesBy_36_p4 nb nn day set_ town k z to M hp0 hp1 hp2 hp3 hp4 hp5 hp6 hp7 hp8 hp9 hp10 hp11 c_1 x7_2 ex7_2) (ob_X11_goesBy_36_p5 nb nn day set_ town k z to M hp0 hp1 hp2 hp3 hp4 hp5 hp6 hp7 hp8 hp9 hp10 hp11 c_1 x7_2 ex7_2) (ob_X11_goesBy_36_p6 nb nn day set_ town k z to M hp0 hp1 hp2 hp3 hp4 hp5 hp6 hp7 hp8 hp9 hp10 hp11 c_1 x7_2 ex7_2)) rfl hl.1 (Nat.le_of_ble_eq_true rfl) ⟨Nat.zero_le _, Nat.zero_le _⟩ dX11_goesBy_36 rfl (fun r_4 u H locs hp_ hP hS => ?_)
      obtain ⟨er_4, eu_⟩ := hp_
      rw [eu_] at hP
      clear eu_
      replace hres := xlet_n hres er_4
      refine lv_aload_n hx hb dX11_goesBy_39 rfl (lv_at hl 1 rfl) ?_
      refine gf_RX11_104 hx hb hts hown hK hP (hL 40 0 (xe_40 nb nn)) dX11_goesBy_40 ?_
      refine lv_sipush (v := 1536) hx hb dX11_goesBy_43 (by decide) ?_
      refine lv_iload_n hx hb dX11_goesBy_46 rfl (lv_at hl 2 rfl) ?_
      refine lv_iconst (v := 1) hx hb dX11_goesBy_47 (by decide) ?_
      refine lv_isub hx hb dX11_goesBy_48 ?_
      refine lv_imul hx hb dX11_goesBy_49 ?_
      refine lv_sipush (v := 256) hx hb dX11_goesBy_50 (by decide) ?_
      refine lv_iload hx hb dX11_goesBy_53 (lv_at hl 7 rfl) ?_
      refine lv_imul hx hb dX11_goesBy_55 ?_
      refine lv_iadd hx hb dX11_goesBy_56 ?_
      refine lv_iload hx hb dX11_goesBy_57 (lv_at hl 0 rfl) ?_
      refine lv_iadd hx hb dX11_goesBy_59 ?_
      refine x_iald hx hb hK hP (hL 97 0 (xe_97 nb nn)) (xc97 g 0) (ob_X11_goesBy_60_in nb nn day set_ town k z to M hp0 hp1 hp2 hp3 hp4 hp5 hp6 hp7 hp8 hp9 hp10 hp11 c_1 x7_2 ex7_2 r_4 er_4) dX11_goesBy_60 ?_
      refine lv_iadd hx hb dX11_goesBy_61 ?_
      exact x_reti hx hb hr hlk hP hS ⟨hres.symm.trans hF, rfl⟩ dX11_goesBy_62
    · exact absurd c_3 c_1
  · replace hres := hres.trans (if_pos c_1)
    refine lv_iload_n hx hb dX11_goesBy_7 rfl (lv_at hl 2 rfl) ?_
    refine lv_goto (tgt := 19) hx hb dX11_goesBy_8 (by decide) ?_
    refine lv_istore (lv' := [(7, .int set_), (0, .ref (xad g 40 0)), (1, .int day), (2, .int set_), (3, .int town), (4, .int k), (5, .int z), (6, .int to)]) hx hb dX11_goesBy_19 hl (by decide) rfl (fun ls hl => ?_)
    refine lv_iload hx hb dX11_goesBy_21 (lv_at hl 5 rfl) ?_
    refine lv_iload hx hb dX11_goesBy_23 (lv_at hl 6 rfl) ?_
    refine lv_icmp_ne (tgt := 32) hx hb dX11_goesBy_25 (by decide) (fun c_5 => ?_) (fun c_5 => ?_)
    · exact absurd c_1 c_5
    · clear c_5
      refine lv_iconst (v := 0) hx hb dX11_goesBy_28 (by decide) ?_
      refine lv_goto (tgt := 39) hx hb dX11_goesBy_29 (by decide) ?_
      refine lv_aload_n hx hb dX11_goesBy_39 rfl (lv_at hl 1 rfl) ?_
      refine gf_RX11_104 hx hb hts hown hK hP (hL 40 0 (xe_40 nb nn)) dX11_goesBy_40 ?_
      refine lv_sipush (v := 1536) hx hb dX11_goesBy_43 (by decide) ?_
      refine lv_iload_n hx hb dX11_goesBy_46 rfl (lv_at hl 2 rfl) ?_
      refine lv_iconst (v := 1) hx hb dX11_goesBy_47 (by decide) ?_
      refine lv_isub hx hb dX11_goesBy_48 ?_
      refine lv_imul hx hb dX11_goesBy_49 ?_
      refine lv_sipush (v := 256) hx hb dX11_goesBy_50 (by decide) ?_
      refine lv_iload hx hb dX11_goesBy_53 (lv_at hl 7 rfl) ?_
      refine lv_imul hx hb dX11_goesBy_55 ?_
      refine lv_iadd hx hb dX11_goesBy_56 ?_
      refine lv_iload hx hb dX11_goesBy_57 (lv_at hl 0 rfl) ?_
      refine lv_iadd hx hb dX11_goesBy_59 ?_
      refine x_iald hx hb hK hP (hL 97 0 (xe_97 nb nn)) (xc97 g 0) (ob_X11_goesBy_60_in_2 nb nn day set_ town k z to M hp0 hp1 hp2 hp3 hp4 hp5 hp6 hp7 hp8 hp9 hp10 hp11 c_1) dX11_goesBy_60 ?_
      refine lv_iadd hx hb dX11_goesBy_61 ?_
      exact x_reti hx hb hr hlk hP hS ⟨hres.symm.trans hF, rfl⟩ dX11_goesBy_62
set_option maxHeartbeats 4000000 in
set_option maxRecDepth 100000 in
theorem c_X11_rates (l : Launch) (nb nn : Nat) (g : xG) (L : List (Nat × Nat)) (M : xM) (hD : xD g L) (hL : xEL nb nn L) (town : Int32) (sh : Int32) (i : Int32) (hp0 : ∀ j : Nat, 0 ≤ M 53 0 j ∧ M 53 0 j ≤ 60) : xCi l yX11_rates cX11_rates 6 (some .int) 2 g L M [.ref (xad g 40 0), .int town, .int sh, .int i] (fun r u => (r, u) = f_X11_rates town sh i M) := by
  intro sz
  refine x_beg (by decide +kernel) rfl ?_
  intro p e s m args below meth c ls hsz hB
  subst hsz
  obtain ⟨hx, hb, hml, hown, hts, hr, hlk, hK, hAm, hP, hl⟩ := hB
  have S : CallFix p m c cX11_rates 6 s args (xws yX11_rates cX11_rates 6 (some .int)) RX11 := ⟨hx, hb, hml, hown, hts⟩
  have hown : s.vm.findClass RX11 = some m.cls := hown
  have hl : lv_has ls 6 [(0, .ref (xad g 40 0)), (1, .int town), (2, .int sh), (3, .int i)] := hl
  have hS : va_S (xA g L s.heap.size) s.heap s.heap [] := va_S.rf
  obtain ⟨F, hF⟩ : ∃ F, F = f_X11_rates town sh i M := ⟨_, rfl⟩
  have k_92 : ∀ (why : Int32) (n : Nat) (b : Int32) (N_ : xM) (H : Heap) (locs : List Loc) (ls : Array Slot) (kx : (Int32 → xM → Int32 × xM)), xmu b 8 < n → 0 ≤ b ∧ 0 ≤ sh ∧ sh ≤ 7 ∧ 0 ≤ i ∧ i ≤ 52 ∧ 0 ≤ town ∧ town ≤ 5 → F = f_X11_rates_L92 town sh i why n b N_ kx → xP g L N_ H → va_S (xA g L s.heap.size) s.heap H locs → lv_has ls 6 [(0, .ref (xad g 40 0)), (1, .int town), (2, .int sh), (3, .int i), (4, .int why), (5, .int b)] → (∀ (b : Int32) (N_ : xM) (H : Heap) (locs : List Loc) (ls : Array Slot), 0 ≤ b ∧ 0 ≤ sh ∧ sh ≤ 7 ∧ 0 ≤ i ∧ i ≤ 52 ∧ 0 ≤ town ∧ town ≤ 5 → F = kx b N_ → xP g L N_ H → va_S (xA g L s.heap.size) s.heap H locs → lv_has ls 6 [(0, .ref (xad g 40 0)), (1, .int town), (2, .int sh), (3, .int i), (4, .int why), (5, .int b)] → W p l e (xr 2) s m args below meth c H locs 0 0 (MQ below (va_Qi (fun r u => (r, u) = f_X11_rates town sh i M) (xPost g L) (xA g L s.heap.size)) args s 0 0 (xA g L s.heap.size)) (F0 m 131 ls [])) → W p l e (xr 2) s m args below meth c H locs 0 0 (MQ below (va_Qi (fun r u => (r, u) = f_X11_rates town sh i M) (xPost g L) (xA g L s.heap.size)) args s 0 0 (xA g L s.heap.size)) (F0 m 92 ls []) := by
    intro why n
    induction n with
    | zero => intro b N_ H locs ls kx hmu; exact absurd hmu (Nat.not_lt_zero _)
    | succ n ih =>
      intro b N_ H locs ls kx hmu hinv hres hP hS hl hex
      replace hres : F = _ := hres.trans (by rw [f_X11_rates_L92])
      refine lv_iload hx hb dX11_rates_92 (lv_at hl 5 rfl) ?_
      refine lv_bipush (v := 8) hx hb dX11_rates_94 (by decide) ?_
      refine lv_icmp_ge (tgt := 131) hx hb dX11_rates_96 (by decide) (fun c_1 => ?_) (fun c_1 => ?_)
      · replace hres := hres.trans (if_pos c_1)
        exact hex b N_ _ _ _ (ob_X11_rates_131_x92 nb nn town sh i M hp0 why n b N_ hmu hinv c_1) hres hP hS (lv_sub hl [0, 1, 2, 3, 4, 5] rfl)
      · replace hres := hres.trans (if_neg c_1)
        refine lv_aload_n hx hb dX11_rates_99 rfl (lv_at hl 0 rfl) ?_
        refine gf_RX11_101 hx hb hts hown hK hP (hL 40 0 (xe_40 nb nn)) dX11_rates_100 ?_
        refine lv_bipush (v := 8) hx hb dX11_rates_103 (by decide) ?_
        refine lv_iload_n hx hb dX11_rates_105 rfl (lv_at hl 1 rfl) ?_
        refine lv_imul hx hb dX11_rates_106 ?_
        refine lv_iload hx hb dX11_rates_107 (lv_at hl 5 rfl) ?_
        refine lv_iadd hx hb dX11_rates_109 ?_
        refine lv_aload_n hx hb dX11_rates_110 rfl (lv_at hl 0 rfl) ?_
        refine gf_RX11_16 hx hb hts hown hK hP (hL 40 0 (xe_40 nb nn)) dX11_rates_111 ?_
        refine lv_bipush (v := 60) hx hb dX11_rates_114 (by decide) ?_
        refine lv_iload_n hx hb dX11_rates_116 rfl (lv_at hl 2 rfl) ?_
        refine lv_imul hx hb dX11_rates_117 ?_
        refine lv_iload_n hx hb dX11_rates_118 rfl (lv_at hl 3 rfl) ?_
        refine lv_iadd hx hb dX11_rates_119 ?_
        refine lv_iload hx hb dX11_rates_120 (lv_at hl 5 rfl) ?_
        refine lv_iadd hx hb dX11_rates_122 ?_
        refine x_iald hx hb hK hP (hL 54 0 (xe_54 nb nn)) (xc54 g 0) (ob_X11_rates_123_in nb nn town sh i M hp0 why n b N_ hmu hinv c_1) dX11_rates_123 ?_
        refine lv_topi (fun v_2 ev_2 => ?_)
        replace hres := xlet_n hres ev_2
        refine x_iast hx hb hK hP hD hS (hL 96 0 (xe_96 nb nn)) (xc96 g 0) (ob_X11_rates_124_in nb nn town sh i M hp0 why n b N_ hmu hinv c_1 v_2 ev_2) dX11_rates_124 (fun H locs hP hS => ?_)
        obtain ⟨M_3, eM_3⟩ : ∃ z_ : xM, z_ = xup N_ 96 0 ((8 * town) + b).toNatClampNeg v_2 := ⟨_, rfl⟩
        rw [← eM_3] at hP
        replace hres := xlet_n hres eM_3
        obtain ⟨x5_4, ex5_4⟩ : ∃ z_ : Int32, z_ = b + 1 := ⟨_, rfl⟩
        replace hres := xlet_n hres ex5_4
        refine lv_iinc (v := x5_4) (lv' := [(5, .int x5_4), (0, .ref (xad g 40 0)), (1, .int town), (2, .int sh), (3, .int i), (4, .int why)]) hx hb dX11_rates_125 hl (k := 5) rfl (by rw [ex5_4]; rfl) (by decide) rfl (fun ls hl => ?_)
        refine lv_goto (tgt := 92) hx hb dX11_rates_128 (by decide) ?_
        exact ih x5_4 M_3 _ _ _ kx (ob_X11_rates_92_mu_4 nb nn town sh i M hp0 why n b N_ hmu hinv c_1 v_2 ev_2 M_3 eM_3 x5_4 ex5_4) (ob_X11_rates_92_inv_4 nb nn town sh i M hp0 why n b N_ hmu hinv c_1 v_2 ev_2 M_3 eM_3 x5_4 ex5_4) hres hP hS (lv_sub hl [1, 2, 3, 4, 5, 0] rfl) hex
  have k_43 : ∀ (why : Int32) (N_ : xM) (n : Nat) (b : Int32) (H : Heap) (locs : List Loc) (ls : Array Slot) (kx : (Int32 → Int32 × xM)), xmu b 8 < n → 0 ≤ b ∧ 0 ≤ sh ∧ sh ≤ 7 ∧ 0 ≤ i ∧ i ≤ 52 → F = f_X11_rates_L43 town sh i why N_ n b kx → xP g L N_ H → va_S (xA g L s.heap.size) s.heap H locs → lv_has ls 6 [(0, .ref (xad g 40 0)), (1, .int town), (2, .int sh), (3, .int i), (4, .int why), (5, .int b)] → (∀ (b : Int32) (H : Heap) (locs : List Loc) (ls : Array Slot), 0 ≤ b ∧ 0 ≤ sh ∧ sh ≤ 7 ∧ 0 ≤ i ∧ i ≤ 52 → F = kx b → xP g L N_ H → va_S (xA g L s.heap.size) s.heap H locs → lv_has ls 6 [(0, .ref (xad g 40 0)), (1, .int town), (2, .int sh), (3, .int i), (4, .int why), (5, .int b)] → W p l e (xr 2) s m args below meth c H locs 0 0 (MQ below (va_Qi (fun r u => (r, u) = f_X11_rates town sh i M) (xPost g L) (xA g L s.heap.size)) args s 0 0 (xA g L s.heap.size)) (F0 m 84 ls [])) → W p l e (xr 2) s m args below meth c H locs 0 0 (MQ below (va_Qi (fun r u => (r, u) = f_X11_rates town sh i M) (xPost g L) (xA g L s.heap.size)) args s 0 0 (xA g L s.heap.size)) (F0 m 43 ls []) := by
    intro why N_ n
    induction n with
    | zero => intro b H locs ls kx hmu; exact absurd hmu (Nat.not_lt_zero _)
    | succ n ih =>
      intro b H locs ls kx hmu hinv hres hP hS hl hex
      replace hres : F = _ := hres.trans (by rw [f_X11_rates_L43])
      refine lv_iload hx hb dX11_rates_43 (lv_at hl 5 rfl) ?_
      refine lv_bipush (v := 8) hx hb dX11_rates_45 (by decide) ?_
      refine lv_icmp_ge (tgt := 84) hx hb dX11_rates_47 (by decide) (fun c_5 => ?_) (fun c_5 => ?_)
      · replace hres := hres.trans (if_pos c_5)
        exact hex b _ _ _ (ob_X11_rates_84_x43 nb nn town sh i M hp0 why n b N_ hmu hinv c_5) hres hP hS (lv_sub hl [0, 1, 2, 3, 4, 5] rfl)
      · replace hres := hres.trans (if_neg c_5)
        refine lv_aload_n hx hb dX11_rates_50 rfl (lv_at hl 0 rfl) ?_
        refine gf_RX11_16 hx hb hts hown hK hP (hL 40 0 (xe_40 nb nn)) dX11_rates_51 ?_
        refine lv_bipush (v := 60) hx hb dX11_rates_54 (by decide) ?_
        refine lv_iload_n hx hb dX11_rates_56 rfl (lv_at hl 2 rfl) ?_
        refine lv_imul hx hb dX11_rates_57 ?_
        refine lv_iload_n hx hb dX11_rates_58 rfl (lv_at hl 3 rfl) ?_
        refine lv_iadd hx hb dX11_rates_59 ?_
        refine lv_iload hx hb dX11_rates_60 (lv_at hl 5 rfl) ?_
        refine lv_iadd hx hb dX11_rates_62 ?_
        refine x_iald hx hb hK hP (hL 54 0 (xe_54 nb nn)) (xc54 g 0) (ob_X11_rates_63_in nb nn town sh i M hp0 why n b N_ hmu hinv c_5) dX11_rates_63 ?_
        refine lv_i2l (v := (N_ 54 0 (((60 * sh) + i) + b).toNatClampNeg).toInt64) hx hb dX11_rates_64 rfl ?_
        refine lv_lconst (v := 0) hx hb dX11_rates_65 (by decide) ?_
        refine lv_ldc2 (own := RX11) (v := 100) hx hb hown (hts _ (List.mem_cons_of_mem _ wd_707)) dX11_rates_66 ?_
        refine x_callSi (As := [.long ((N_ 54 0 (((60 * sh) + i) + b).toNatClampNeg).toInt64), .long 0, .long 100]) S hK hAm hD hP hS mt_X11_in wd_208 ⟨by decide, by decide⟩ (c_X11_in l nb nn g L N_ hD hL ((N_ 54 0 (((60 * sh) + i) + b).toNatClampNeg).toInt64) 0 100) rfl hl.1 (Nat.le_of_ble_eq_true rfl) ⟨Nat.zero_le _, Nat.zero_le _⟩ dX11_rates_69 rfl (fun r_6 u H locs hp_ hP hS => ?_)
        obtain ⟨er_6, eu_⟩ := hp_
        rw [eu_] at hP
        clear eu_
        replace hres := xlet_n hres er_6
        refine lv_if_ne (tgt := 78) hx hb dX11_rates_72 (by decide) (fun c_7 => ?_) (fun c_7 => ?_)
        · replace hres := hres.trans (if_neg c_7)
          obtain ⟨x5_8, ex5_8⟩ : ∃ z_ : Int32, z_ = b + 1 := ⟨_, rfl⟩
          replace hres := xlet_n hres ex5_8
          refine lv_iinc (v := x5_8) (lv' := [(5, .int x5_8), (0, .ref (xad g 40 0)), (1, .int town), (2, .int sh), (3, .int i), (4, .int why)]) hx hb dX11_rates_78 hl (k := 5) rfl (by rw [ex5_8]; rfl) (by decide) rfl (fun ls hl => ?_)
          refine lv_goto (tgt := 43) hx hb dX11_rates_81 (by decide) ?_
          exact ih x5_8 _ _ _ kx (ob_X11_rates_43_mu_8 nb nn town sh i M hp0 why n b N_ hmu hinv c_5 r_6 er_6 c_7 x5_8 ex5_8) (ob_X11_rates_43_inv_8 nb nn town sh i M hp0 why n b N_ hmu hinv c_5 r_6 er_6 c_7 x5_8 ex5_8) hres hP hS (lv_sub hl [1, 2, 3, 4, 5, 0] rfl) hex
        · replace hres := hres.trans (if_pos c_7)
          refine lv_ldc (own := RX11) (v := (-1000001)) hx hb hown (hts _ (List.mem_cons_of_mem _ wd_202)) dX11_rates_75 ?_
          exact x_reti hx hb hr hlk hP hS (hres.symm.trans hF) dX11_rates_77
  have hres := hF
  rw [f_X11_rates] at hres
  refine lv_aload_n hx hb dX11_rates_0 rfl (lv_at hl 0 rfl) ?_
  refine lv_iconst (v := 0) hx hb dX11_rates_1 (by decide) ?_
  refine pf_RX11_113 hx hb hts hown hK hP hD hS (hL 40 0 (xe_40 nb nn)) dX11_rates_2 (fun H locs hP hS => ?_)
  obtain ⟨M_9, eM_9⟩ : ∃ z_ : xM, z_ = xup M 40 0 0 0 := ⟨_, rfl⟩
  rw [← eM_9] at hP
  replace hres := xlet_n hres eM_9
  refine lv_iload_n hx hb dX11_rates_5 rfl (lv_at hl 1 rfl) ?_
  refine x_callSi (As := [.int town]) S hK hAm hD hP hS mt_X11_isTown wd_281 ⟨by decide, by decide⟩ (c_X11_isTown l nb nn g L M_9 hD hL town) rfl hl.1 (Nat.le_of_ble_eq_true rfl) ⟨Nat.zero_le _, Nat.zero_le _⟩ dX11_rates_6 rfl (fun r_10 u H locs hp_ hP hS => ?_)
  obtain ⟨er_10, eu_⟩ := hp_
  rw [eu_] at hP
  clear eu_
  replace hres := xlet_n hres er_10
  refine lv_if_eq (tgt := 19) hx hb dX11_rates_9 (by decide) (fun c_11 => ?_) (fun c_11 => ?_)
  · replace hres := hres.trans (if_pos c_11)
    refine lv_ldc (own := RX11) (v := (-1000001)) hx hb hown (hts _ (List.mem_cons_of_mem _ wd_202)) dX11_rates_19 ?_
    exact x_reti hx hb hr hlk hP hS (hres.symm.trans hF) dX11_rates_21
  · replace hres := hres.trans (if_neg c_11)
    refine lv_iload_n hx hb dX11_rates_12 rfl (lv_at hl 2 rfl) ?_
    refine x_callSi (As := [.int sh]) S hK hAm hD hP hS mt_X11_isSheet wd_204 ⟨by decide, by decide⟩ (c_X11_isSheet l nb nn g L M_9 hD hL sh) rfl hl.1 (Nat.le_of_ble_eq_true rfl) ⟨Nat.zero_le _, Nat.zero_le _⟩ dX11_rates_13 rfl (fun r_12 u H locs hp_ hP hS => ?_)
    obtain ⟨er_12, eu_⟩ := hp_
    rw [eu_] at hP
    clear eu_
    replace hres := xlet_n hres er_12
    refine lv_if_ne (tgt := 22) hx hb dX11_rates_16 (by decide) (fun c_13 => ?_) (fun c_13 => ?_)
    · replace hres := hres.trans (if_neg c_13)
      refine lv_aload_n hx hb dX11_rates_22 rfl (lv_at hl 0 rfl) ?_
      refine lv_iload_n hx hb dX11_rates_23 rfl (lv_at hl 2 rfl) ?_
      refine lv_iload_n hx hb dX11_rates_24 rfl (lv_at hl 3 rfl) ?_
      refine lv_bipush (v := 8) hx hb dX11_rates_25 (by decide) ?_
      refine x_callVi (As := [.int sh, .int i, .int 8]) S hK hAm hD hP hS mt_X11_lookItems wd_914 ⟨by decide, by decide⟩ (hL 40 0 (xe_40 nb nn)) (xc40 g 0) rfl (c_X11_lookItems l nb nn g L M_9 hD hL sh i 8 (ob_X11_rates_27_p0 nb nn town sh i M hp0 M_9 eM_9 r_10 er_10 c_11 r_12 er_12 c_13) (ob_X11_rates_27_p1 nb nn town sh i M hp0 M_9 eM_9 r_10 er_10 c_11 r_12 er_12 c_13)) rfl hl.1 (Nat.le_of_ble_eq_true rfl) ⟨Nat.zero_le _, Nat.zero_le _⟩ dX11_rates_27 rfl (fun r_14 M_15 H locs ep_ hP hS => ?_)
      replace hres := xlet2_n hres ep_
      have er_14 : r_14 = (f_X11_lookItems sh i 8 M_9).1 := congrArg Prod.fst ep_
      have eM_15 : M_15 = (f_X11_lookItems sh i 8 M_9).2 := congrArg Prod.snd ep_
      clear ep_
      refine lv_istore (lv' := [(4, .int r_14), (0, .ref (xad g 40 0)), (1, .int town), (2, .int sh), (3, .int i)]) hx hb dX11_rates_30 hl (by decide) rfl (fun ls hl => ?_)
      refine lv_iload hx hb dX11_rates_32 (lv_at hl 0 rfl) ?_
      refine lv_if_ge (tgt := 40) hx hb dX11_rates_34 (by decide) (fun c_16 => ?_) (fun c_16 => ?_)
      · replace hres := hres.trans (if_pos c_16)
        refine lv_iconst (v := 0) hx hb dX11_rates_40 (by decide) ?_
        refine lv_istore (lv' := [(5, .int 0), (4, .int r_14), (0, .ref (xad g 40 0)), (1, .int town), (2, .int sh), (3, .int i)]) hx hb dX11_rates_41 hl (by decide) rfl (fun ls hl => ?_)
        refine k_43 r_14 M_15 (xmu (0 : Int32) 8 + 1) (0 : Int32) _ _ _ _ (Nat.lt_succ_self _) (ob_X11_rates_43_ini_16 nb nn town sh i M hp0 M_9 eM_9 r_10 er_10 c_11 r_12 er_12 c_13 r_14 M_15 er_14 eM_15 c_16) hres hP hS (lv_sub hl [2, 3, 4, 5, 1, 0] rfl) ?_
        clear hres hP hS hl
        intro b_17 H locs ls hiv_17 hres hP hS hl
        refine lv_aload_n hx hb dX11_rates_84 rfl (lv_at hl 0 rfl) ?_
        refine lv_iconst (v := 0) hx hb dX11_rates_85 (by decide) ?_
        refine pf_RX11_117 hx hb hts hown hK hP hD hS (hL 40 0 (xe_40 nb nn)) dX11_rates_86 (fun H locs hP hS => ?_)
        obtain ⟨M_18, eM_18⟩ : ∃ z_ : xM, z_ = xup M_15 40 0 1 0 := ⟨_, rfl⟩
        rw [← eM_18] at hP
        replace hres := xlet_n hres eM_18
        refine lv_iconst (v := 0) hx hb dX11_rates_89 (by decide) ?_
        refine lv_istore (lv' := [(5, .int 0), (0, .ref (xad g 40 0)), (1, .int town), (2, .int sh), (3, .int i), (4, .int r_14)]) hx hb dX11_rates_90 hl (by decide) rfl (fun ls hl => ?_)
        refine k_92 r_14 (xmu (0 : Int32) 8 + 1) (0 : Int32) M_18 _ _ _ _ (Nat.lt_succ_self _) (ob_X11_rates_92_ini_18 nb nn town sh i M hp0 M_9 eM_9 r_10 er_10 c_11 r_12 er_12 c_13 r_14 M_15 er_14 eM_15 c_16 b_17 hiv_17 M_18 eM_18) hres hP hS (lv_sub hl [1, 2, 3, 4, 5, 0] rfl) ?_
        clear hres hP hS hl
        intro b_19 M_20 H locs ls hiv_20 hres hP hS hl
        refine lv_bipush (v := 8) hx hb dX11_rates_131 (by decide) ?_
        exact x_reti hx hb hr hlk hP hS (hres.symm.trans hF) dX11_rates_133
      · replace hres := hres.trans (if_neg c_16)
        refine lv_iload hx hb dX11_rates_37 (lv_at hl 0 rfl) ?_
        exact x_reti hx hb hr hlk hP hS (hres.symm.trans hF) dX11_rates_39
    · replace hres := hres.trans (if_pos c_13)
      refine lv_ldc (own := RX11) (v := (-1000001)) hx hb hown (hts _ (List.mem_cons_of_mem _ wd_202)) dX11_rates_19 ?_
      exact x_reti hx hb hr hlk hP hS (hres.symm.trans hF) dX11_rates_21
set_option maxHeartbeats 4000000 in
set_option maxRecDepth 100000 in
theorem c_X11_count (l : Launch) (nb nn : Nat) (g : xG) (L : List (Nat × Nat)) (M : xM) (hD : xD g L) (hL : xEL nb nn L) (what : Int32) (hp0 : 0 ≤ M 40 0 7) (hp1 : M 40 0 7 ≤ 8) (hp2 : 0 ≤ M 40 0 30) (hp3 : M 40 0 30 ≤ 24) : xCi l yX11_count cX11_count 4 (some .int) 0 g L M [.ref (xad g 40 0), .int what] (fun r u => (r, u) = f_X11_count what M) := by
  intro sz
  refine x_beg (by decide +kernel) rfl ?_
  intro p e s m args below meth c ls hsz hB
  subst hsz
  obtain ⟨hx, hb, hml, hown, hts, hr, hlk, hK, hAm, hP, hl⟩ := hB
  have S : CallFix p m c cX11_count 4 s args (xws yX11_count cX11_count 4 (some .int)) RX11 := ⟨hx, hb, hml, hown, hts⟩
  have hown : s.vm.findClass RX11 = some m.cls := hown
  have hl : lv_has ls 4 [(0, .ref (xad g 40 0)), (1, .int what)] := hl
  have hS : va_S (xA g L s.heap.size) s.heap s.heap [] := va_S.rf
  obtain ⟨F, hF⟩ : ∃ F, F = f_X11_count what M := ⟨_, rfl⟩
  have k_149 : ∀ (N_ : xM) (n : Nat) (z : Int32) (k : Int32) (H : Heap) (locs : List Loc) (ls : Array Slot) (kx : (Int32 → Int32 → Int32 × xM)), xmu k (N_ 40 0 30) < n → 0 ≤ k ∧ N_ 40 0 30 ≤ 24 → F = f_X11_count_L149 what N_ n z k kx → xP g L N_ H → va_S (xA g L s.heap.size) s.heap H locs → lv_has ls 4 [(0, .ref (xad g 40 0)), (1, .int what), (2, .int z), (3, .int k)] → (∀ (z : Int32) (k : Int32) (H : Heap) (locs : List Loc) (ls : Array Slot), 0 ≤ k ∧ N_ 40 0 30 ≤ 24 → F = kx z k → xP g L N_ H → va_S (xA g L s.heap.size) s.heap H locs → lv_has ls 4 [(0, .ref (xad g 40 0)), (1, .int what), (2, .int z), (3, .int k)] → W p l e (xr 0) s m args below meth c H locs 0 0 (MQ below (va_Qi (fun r u => (r, u) = f_X11_count what M) (xPost g L) (xA g L s.heap.size)) args s 0 0 (xA g L s.heap.size)) (F0 m 217 ls [])) → W p l e (xr 0) s m args below meth c H locs 0 0 (MQ below (va_Qi (fun r u => (r, u) = f_X11_count what M) (xPost g L) (xA g L s.heap.size)) args s 0 0 (xA g L s.heap.size)) (F0 m 149 ls []) := by
    intro N_ n
    induction n with
    | zero => intro z k H locs ls kx hmu; exact absurd hmu (Nat.not_lt_zero _)
    | succ n ih =>
      intro z k H locs ls kx hmu hinv hres hP hS hl hex
      replace hres : F = _ := hres.trans (by rw [f_X11_count_L149])
      refine lv_iload_n hx hb dX11_count_149 rfl (lv_at hl 3 rfl) ?_
      refine lv_aload_n hx hb dX11_count_150 rfl (lv_at hl 0 rfl) ?_
      refine gf_RX11_265 hx hb hts hown hK hP (hL 40 0 (xe_40 nb nn)) dX11_count_151 ?_
      refine lv_icmp_ge (tgt := 217) hx hb dX11_count_154 (by decide) (fun c_1 => ?_) (fun c_1 => ?_)
      · replace hres := hres.trans (if_pos c_1)
        exact hex z k _ _ _ (ob_X11_count_217_x149 nb nn what M hp0 hp1 hp2 hp3 n z k N_ hmu hinv c_1) hres hP hS (lv_sub hl [0, 1, 2, 3] rfl)
      · replace hres := hres.trans (if_neg c_1)
        refine lv_iload_n hx hb dX11_count_157 rfl (lv_at hl 2 rfl) ?_
        refine lv_iload_n hx hb dX11_count_158 rfl (lv_at hl 1 rfl) ?_
        refine lv_iconst (v := 5) hx hb dX11_count_159 (by decide) ?_
        refine lv_icmp_ne (tgt := 177) hx hb dX11_count_160 (by decide) (fun c_2 => ?_) (fun c_2 => ?_)
        · replace hres := hres.trans (if_neg c_2)
          refine lv_iload_n hx hb dX11_count_177 rfl (lv_at hl 1 rfl) ?_
          refine lv_bipush (v := 6) hx hb dX11_count_178 (by decide) ?_
          refine lv_icmp_ne (tgt := 195) hx hb dX11_count_180 (by decide) (fun c_3 => ?_) (fun c_3 => ?_)
          · replace hres := hres.trans (if_neg c_3)
            refine lv_aload_n hx hb dX11_count_195 rfl (lv_at hl 0 rfl) ?_
            refine gf_RX11_80 hx hb hts hown hK hP (hL 40 0 (xe_40 nb nn)) dX11_count_196 ?_
            refine lv_iload_n hx hb dX11_count_199 rfl (lv_at hl 3 rfl) ?_
            refine x_zald hx hb hK hP (hL 89 0 (xe_89 nb nn)) (xc89 g 0) (ob_X11_count_200_in nb nn what M hp0 hp1 hp2 hp3 n z k N_ hmu hinv c_1 c_2 c_3) dX11_count_200 ?_
            refine lv_if_eq (tgt := 208) hx hb dX11_count_201 (by decide) (fun c_4 => ?_) (fun c_4 => ?_)
            · replace hres := hres.trans (if_pos c_4)
              refine lv_iconst (v := 0) hx hb dX11_count_208 (by decide) ?_
              refine lv_iadd hx hb dX11_count_209 ?_
              refine lv_topi (fun x2_5 ex2_5 => ?_)
              replace hres := xlet_n hres ex2_5
              refine lv_istore_n (lv' := [(2, .int x2_5), (0, .ref (xad g 40 0)), (1, .int what), (3, .int k)]) hx hb dX11_count_210 rfl hl (by decide) rfl (fun ls hl => ?_)
              obtain ⟨x3_6, ex3_6⟩ : ∃ z_ : Int32, z_ = k + 1 := ⟨_, rfl⟩
              replace hres := xlet_n hres ex3_6
              refine lv_iinc (v := x3_6) (lv' := [(3, .int x3_6), (2, .int x2_5), (0, .ref (xad g 40 0)), (1, .int what)]) hx hb dX11_count_211 hl (k := 3) rfl (by rw [ex3_6]; rfl) (by decide) rfl (fun ls hl => ?_)
              refine lv_goto (tgt := 149) hx hb dX11_count_214 (by decide) ?_
              exact ih x2_5 x3_6 _ _ _ kx (ob_X11_count_149_mu_6 nb nn what M hp0 hp1 hp2 hp3 n z k N_ hmu hinv c_1 c_2 c_3 c_4 x2_5 ex2_5 x3_6 ex3_6) (ob_X11_count_149_inv_6 nb nn what M hp0 hp1 hp2 hp3 n z k N_ hmu hinv c_1 c_2 c_3 c_4 x2_5 ex2_5 x3_6 ex3_6) hres hP hS (lv_sub hl [2, 3, 1, 0] rfl) hex
            · replace hres := hres.trans (if_neg c_4)
              refine lv_iconst (v := 1) hx hb dX11_count_204 (by decide) ?_
              refine lv_goto (tgt := 209) hx hb dX11_count_205 (by decide) ?_
              refine lv_iadd hx hb dX11_count_209 ?_
              refine lv_topi (fun x2_7 ex2_7 => ?_)
              replace hres := xlet_n hres ex2_7
              refine lv_istore_n (lv' := [(2, .int x2_7), (0, .ref (xad g 40 0)), (1, .int what), (3, .int k)]) hx hb dX11_count_210 rfl hl (by decide) rfl (fun ls hl => ?_)
              obtain ⟨x3_8, ex3_8⟩ : ∃ z_ : Int32, z_ = k + 1 := ⟨_, rfl⟩
              replace hres := xlet_n hres ex3_8
              refine lv_iinc (v := x3_8) (lv' := [(3, .int x3_8), (2, .int x2_7), (0, .ref (xad g 40 0)), (1, .int what)]) hx hb dX11_count_211 hl (k := 3) rfl (by rw [ex3_8]; rfl) (by decide) rfl (fun ls hl => ?_)
              refine lv_goto (tgt := 149) hx hb dX11_count_214 (by decide) ?_
              exact ih x2_7 x3_8 _ _ _ kx (ob_X11_count_149_mu_8 nb nn what M hp0 hp1 hp2 hp3 n z k N_ hmu hinv c_1 c_2 c_3 c_4 x2_7 ex2_7 x3_8 ex3_8) (ob_X11_count_149_inv_8 nb nn what M hp0 hp1 hp2 hp3 n z k N_ hmu hinv c_1 c_2 c_3 c_4 x2_7 ex2_7 x3_8 ex3_8) hres hP hS (lv_sub hl [2, 3, 1, 0] rfl) hex
          · replace hres := hres.trans (if_pos c_3)
            refine lv_aload_n hx hb dX11_count_183 rfl (lv_at hl 0 rfl) ?_
            refine gf_RX11_74 hx hb hts hown hK hP (hL 40 0 (xe_40 nb nn)) dX11_count_184 ?_
            refine lv_iload_n hx hb dX11_count_187 rfl (lv_at hl 3 rfl) ?_
            refine x_zald hx hb hK hP (hL 87 0 (xe_87 nb nn)) (xc87 g 0) (ob_X11_count_188_in nb nn what M hp0 hp1 hp2 hp3 n z k N_ hmu hinv c_1 c_2 c_3) dX11_count_188 ?_
            refine lv_if_eq (tgt := 208) hx hb dX11_count_189 (by decide) (fun c_9 => ?_) (fun c_9 => ?_)
            · replace hres := hres.trans (if_pos c_9)
              refine lv_iconst (v := 0) hx hb dX11_count_208 (by decide) ?_
              refine lv_iadd hx hb dX11_count_209 ?_
              refine lv_topi (fun x2_10 ex2_10 => ?_)
              replace hres := xlet_n hres ex2_10
              refine lv_istore_n (lv' := [(2, .int x2_10), (0, .ref (xad g 40 0)), (1, .int what), (3, .int k)]) hx hb dX11_count_210 rfl hl (by decide) rfl (fun ls hl => ?_)
              obtain ⟨x3_11, ex3_11⟩ : ∃ z_ : Int32, z_ = k + 1 := ⟨_, rfl⟩
              replace hres := xlet_n hres ex3_11
              refine lv_iinc (v := x3_11) (lv' := [(3, .int x3_11), (2, .int x2_10), (0, .ref (xad g 40 0)), (1, .int what)]) hx hb dX11_count_211 hl (k := 3) rfl (by rw [ex3_11]; rfl) (by decide) rfl (fun ls hl => ?_)
              refine lv_goto (tgt := 149) hx hb dX11_count_214 (by decide) ?_
              exact ih x2_10 x3_11 _ _ _ kx (ob_X11_count_149_mu_11 nb nn what M hp0 hp1 hp2 hp3 n z k N_ hmu hinv c_1 c_2 c_3 c_9 x2_10 ex2_10 x3_11 ex3_11) (ob_X11_count_149_inv_11 nb nn what M hp0 hp1 hp2 hp3 n z k N_ hmu hinv c_1 c_2 c_3 c_9 x2_10 ex2_10 x3_11 ex3_11) hres hP hS (lv_sub hl [2, 3, 1, 0] rfl) hex
            · replace hres := hres.trans (if_neg c_9)
              refine lv_goto (tgt := 204) hx hb dX11_count_192 (by decide) ?_
              refine lv_iconst (v := 1) hx hb dX11_count_204 (by decide) ?_
              refine lv_goto (tgt := 209) hx hb dX11_count_205 (by decide) ?_
              refine lv_iadd hx hb dX11_count_209 ?_
              refine lv_topi (fun x2_12 ex2_12 => ?_)
              replace hres := xlet_n hres ex2_12
              refine lv_istore_n (lv' := [(2, .int x2_12), (0, .ref (xad g 40 0)), (1, .int what), (3, .int k)]) hx hb dX11_count_210 rfl hl (by decide) rfl (fun ls hl => ?_)
              obtain ⟨x3_13, ex3_13⟩ : ∃ z_ : Int32, z_ = k + 1 := ⟨_, rfl⟩
              replace hres := xlet_n hres ex3_13
              refine lv_iinc (v := x3_13) (lv' := [(3, .int x3_13), (2, .int x2_12), (0, .ref (xad g 40 0)), (1, .int what)]) hx hb dX11_count_211 hl (k := 3) rfl (by rw [ex3_13]; rfl) (by decide) rfl (fun ls hl => ?_)
              refine lv_goto (tgt := 149) hx hb dX11_count_214 (by decide) ?_
              exact ih x2_12 x3_13 _ _ _ kx (ob_X11_count_149_mu_13 nb nn what M hp0 hp1 hp2 hp3 n z k N_ hmu hinv c_1 c_2 c_3 c_9 x2_12 ex2_12 x3_13 ex3_13) (ob_X11_count_149_inv_13 nb nn what M hp0 hp1 hp2 hp3 n z k N_ hmu hinv c_1 c_2 c_3 c_9 x2_12 ex2_12 x3_13 ex3_13) hres hP hS (lv_sub hl [2, 3, 1, 0] rfl) hex
        · replace hres := hres.trans (if_pos c_2)
          refine lv_aload_n hx hb dX11_count_163 rfl (lv_at hl 0 rfl) ?_
          refine gf_RX11_68 hx hb hts hown hK hP (hL 40 0 (xe_40 nb nn)) dX11_count_164 ?_
          refine lv_iload_n hx hb dX11_count_167 rfl (lv_at hl 3 rfl) ?_
          refine x_iald hx hb hK hP (hL 85 0 (xe_85 nb nn)) (xc85 g 0) (ob_X11_count_168_in nb nn what M hp0 hp1 hp2 hp3 n z k N_ hmu hinv c_1 c_2) dX11_count_168 ?_
          refine lv_ldc (own := RX11) (v := (-1000000)) hx hb hown (hts _ (List.mem_cons_of_mem _ wd_302)) dX11_count_169 ?_
          refine lv_icmp_eq (tgt := 208) hx hb dX11_count_171 (by decide) (fun c_14 => ?_) (fun c_14 => ?_)
          · replace hres := hres.trans (if_pos c_14)
            refine lv_iconst (v := 0) hx hb dX11_count_208 (by decide) ?_
            refine lv_iadd hx hb dX11_count_209 ?_
            refine lv_topi (fun x2_15 ex2_15 => ?_)
            replace hres := xlet_n hres ex2_15
            refine lv_istore_n (lv' := [(2, .int x2_15), (0, .ref (xad g 40 0)), (1, .int what), (3, .int k)]) hx hb dX11_count_210 rfl hl (by decide) rfl (fun ls hl => ?_)
            obtain ⟨x3_16, ex3_16⟩ : ∃ z_ : Int32, z_ = k + 1 := ⟨_, rfl⟩
            replace hres := xlet_n hres ex3_16
            refine lv_iinc (v := x3_16) (lv' := [(3, .int x3_16), (2, .int x2_15), (0, .ref (xad g 40 0)), (1, .int what)]) hx hb dX11_count_211 hl (k := 3) rfl (by rw [ex3_16]; rfl) (by decide) rfl (fun ls hl => ?_)
            refine lv_goto (tgt := 149) hx hb dX11_count_214 (by decide) ?_
            exact ih x2_15 x3_16 _ _ _ kx (ob_X11_count_149_mu_16 nb nn what M hp0 hp1 hp2 hp3 n z k N_ hmu hinv c_1 c_2 c_14 x2_15 ex2_15 x3_16 ex3_16) (ob_X11_count_149_inv_16 nb nn what M hp0 hp1 hp2 hp3 n z k N_ hmu hinv c_1 c_2 c_14 x2_15 ex2_15 x3_16 ex3_16) hres hP hS (lv_sub hl [2, 3, 1, 0] rfl) hex
          · replace hres := hres.trans (if_neg c_14)
            refine lv_goto (tgt := 204) hx hb dX11_count_174 (by decide) ?_
            refine lv_iconst (v := 1) hx hb dX11_count_204 (by decide) ?_
            refine lv_goto (tgt := 209) hx hb dX11_count_205 (by decide) ?_
            refine lv_iadd hx hb dX11_count_209 ?_
            refine lv_topi (fun x2_17 ex2_17 => ?_)
            replace hres := xlet_n hres ex2_17
            refine lv_istore_n (lv' := [(2, .int x2_17), (0, .ref (xad g 40 0)), (1, .int what), (3, .int k)]) hx hb dX11_count_210 rfl hl (by decide) rfl (fun ls hl => ?_)
            obtain ⟨x3_18, ex3_18⟩ : ∃ z_ : Int32, z_ = k + 1 := ⟨_, rfl⟩
            replace hres := xlet_n hres ex3_18
            refine lv_iinc (v := x3_18) (lv' := [(3, .int x3_18), (2, .int x2_17), (0, .ref (xad g 40 0)), (1, .int what)]) hx hb dX11_count_211 hl (k := 3) rfl (by rw [ex3_18]; rfl) (by decide) rfl (fun ls hl => ?_)
            refine lv_goto (tgt := 149) hx hb dX11_count_214 (by decide) ?_
            exact ih x2_17 x3_18 _ _ _ kx (ob_X11_count_149_mu_18 nb nn what M hp0 hp1 hp2 hp3 n z k N_ hmu hinv c_1 c_2 c_14 x2_17 ex2_17 x3_18 ex3_18) (ob_X11_count_149_inv_18 nb nn what M hp0 hp1 hp2 hp3 n z k N_ hmu hinv c_1 c_2 c_14 x2_17 ex2_17 x3_18 ex3_18) hres hP hS (lv_sub hl [2, 3, 1, 0] rfl) hex
  have k_104 : ∀ (N_ : xM) (n : Nat) (z : Int32) (k : Int32) (H : Heap) (locs : List Loc) (ls : Array Slot) (kx : (Int32 → Int32 → Int32 × xM)), xmu k (N_ 40 0 7) < n → 0 ≤ k ∧ N_ 40 0 7 ≤ 8 → F = f_X11_count_L104 what N_ n z k kx → xP g L N_ H → va_S (xA g L s.heap.size) s.heap H locs → lv_has ls 4 [(0, .ref (xad g 40 0)), (1, .int what), (2, .int z), (3, .int k)] → (∀ (z : Int32) (k : Int32) (H : Heap) (locs : List Loc) (ls : Array Slot), 0 ≤ k ∧ N_ 40 0 7 ≤ 8 → F = kx z k → xP g L N_ H → va_S (xA g L s.heap.size) s.heap H locs → lv_has ls 4 [(0, .ref (xad g 40 0)), (1, .int what), (2, .int z), (3, .int k)] → W p l e (xr 0) s m args below meth c H locs 0 0 (MQ below (va_Qi (fun r u => (r, u) = f_X11_count what M) (xPost g L) (xA g L s.heap.size)) args s 0 0 (xA g L s.heap.size)) (F0 m 135 ls [])) → W p l e (xr 0) s m args below meth c H locs 0 0 (MQ below (va_Qi (fun r u => (r, u) = f_X11_count what M) (xPost g L) (xA g L s.heap.size)) args s 0 0 (xA g L s.heap.size)) (F0 m 104 ls []) := by
    intro N_ n
    induction n with
    | zero => intro z k H locs ls kx hmu; exact absurd hmu (Nat.not_lt_zero _)
    | succ n ih =>
      intro z k H locs ls kx hmu hinv hres hP hS hl hex
      replace hres : F = _ := hres.trans (by rw [f_X11_count_L104])
      refine lv_iload_n hx hb dX11_count_104 rfl (lv_at hl 3 rfl) ?_
      refine lv_aload_n hx hb dX11_count_105 rfl (lv_at hl 0 rfl) ?_
      refine gf_RX11_150 hx hb hts hown hK hP (hL 40 0 (xe_40 nb nn)) dX11_count_106 ?_
      refine lv_icmp_ge (tgt := 135) hx hb dX11_count_109 (by decide) (fun c_19 => ?_) (fun c_19 => ?_)
      · replace hres := hres.trans (if_pos c_19)
        exact hex z k _ _ _ (ob_X11_count_135_x104 nb nn what M hp0 hp1 hp2 hp3 n z k N_ hmu hinv c_19) hres hP hS (lv_sub hl [0, 1, 2, 3] rfl)
      · replace hres := hres.trans (if_neg c_19)
        refine lv_iload_n hx hb dX11_count_112 rfl (lv_at hl 2 rfl) ?_
        refine lv_aload_n hx hb dX11_count_113 rfl (lv_at hl 0 rfl) ?_
        refine gf_RX11_34 hx hb hts hown hK hP (hL 40 0 (xe_40 nb nn)) dX11_count_114 ?_
        refine lv_iload_n hx hb dX11_count_117 rfl (lv_at hl 3 rfl) ?_
        refine x_zald hx hb hK hP (hL 61 0 (xe_61 nb nn)) (xc61 g 0) (ob_X11_count_118_in nb nn what M hp0 hp1 hp2 hp3 n z k N_ hmu hinv c_19) dX11_count_118 ?_
        refine lv_if_eq (tgt := 126) hx hb dX11_count_119 (by decide) (fun c_20 => ?_) (fun c_20 => ?_)
        · replace hres := hres.trans (if_pos c_20)
          refine lv_iconst (v := 0) hx hb dX11_count_126 (by decide) ?_
          refine lv_iadd hx hb dX11_count_127 ?_
          refine lv_topi (fun x2_21 ex2_21 => ?_)
          replace hres := xlet_n hres ex2_21
          refine lv_istore_n (lv' := [(2, .int x2_21), (0, .ref (xad g 40 0)), (1, .int what), (3, .int k)]) hx hb dX11_count_128 rfl hl (by decide) rfl (fun ls hl => ?_)
          obtain ⟨x3_22, ex3_22⟩ : ∃ z_ : Int32, z_ = k + 1 := ⟨_, rfl⟩
          replace hres := xlet_n hres ex3_22
          refine lv_iinc (v := x3_22) (lv' := [(3, .int x3_22), (2, .int x2_21), (0, .ref (xad g 40 0)), (1, .int what)]) hx hb dX11_count_129 hl (k := 3) rfl (by rw [ex3_22]; rfl) (by decide) rfl (fun ls hl => ?_)
          refine lv_goto (tgt := 104) hx hb dX11_count_132 (by decide) ?_
          exact ih x2_21 x3_22 _ _ _ kx (ob_X11_count_104_mu_22 nb nn what M hp0 hp1 hp2 hp3 n z k N_ hmu hinv c_19 c_20 x2_21 ex2_21 x3_22 ex3_22) (ob_X11_count_104_inv_22 nb nn what M hp0 hp1 hp2 hp3 n z k N_ hmu hinv c_19 c_20 x2_21 ex2_21 x3_22 ex3_22) hres hP hS (lv_sub hl [2, 3, 1, 0] rfl) hex
        · replace hres := hres.trans (if_neg c_20)
          refine lv_iconst (v := 1) hx hb dX11_count_122 (by decide) ?_
          refine lv_goto (tgt := 127) hx hb dX11_count_123 (by decide) ?_
          refine lv_iadd hx hb dX11_count_127 ?_
          refine lv_topi (fun x2_23 ex2_23 => ?_)
          replace hres := xlet_n hres ex2_23
          refine lv_istore_n (lv' := [(2, .int x2_23), (0, .ref (xad g 40 0)), (1, .int what), (3, .int k)]) hx hb dX11_count_128 rfl hl (by decide) rfl (fun ls hl => ?_)
          obtain ⟨x3_24, ex3_24⟩ : ∃ z_ : Int32, z_ = k + 1 := ⟨_, rfl⟩
          replace hres := xlet_n hres ex3_24
          refine lv_iinc (v := x3_24) (lv' := [(3, .int x3_24), (2, .int x2_23), (0, .ref (xad g 40 0)), (1, .int what)]) hx hb dX11_count_129 hl (k := 3) rfl (by rw [ex3_24]; rfl) (by decide) rfl (fun ls hl => ?_)
          refine lv_goto (tgt := 104) hx hb dX11_count_132 (by decide) ?_
          exact ih x2_23 x3_24 _ _ _ kx (ob_X11_count_104_mu_24 nb nn what M hp0 hp1 hp2 hp3 n z k N_ hmu hinv c_19 c_20 x2_23 ex2_23 x3_24 ex3_24) (ob_X11_count_104_inv_24 nb nn what M hp0 hp1 hp2 hp3 n z k N_ hmu hinv c_19 c_20 x2_23 ex2_23 x3_24 ex3_24) hres hP hS (lv_sub hl [2, 3, 1, 0] rfl) hex
  have k_66 : ∀ (N_ : xM) (n : Nat) (z : Int32) (k : Int32) (H : Heap) (locs : List Loc) (ls : Array Slot) (kx : (Int32 → Int32 → Int32 × xM)), xmu k 8 < n → 0 ≤ k → F = f_X11_count_L66 what N_ n z k kx → xP g L N_ H → va_S (xA g L s.heap.size) s.heap H locs → lv_has ls 4 [(0, .ref (xad g 40 0)), (1, .int what), (2, .int z), (3, .int k)] → (∀ (z : Int32) (k : Int32) (H : Heap) (locs : List Loc) (ls : Array Slot), 0 ≤ k → F = kx z k → xP g L N_ H → va_S (xA g L s.heap.size) s.heap H locs → lv_has ls 4 [(0, .ref (xad g 40 0)), (1, .int what), (2, .int z), (3, .int k)] → W p l e (xr 0) s m args below meth c H locs 0 0 (MQ below (va_Qi (fun r u => (r, u) = f_X11_count what M) (xPost g L) (xA g L s.heap.size)) args s 0 0 (xA g L s.heap.size)) (F0 m 95 ls [])) → W p l e (xr 0) s m args below meth c H locs 0 0 (MQ below (va_Qi (fun r u => (r, u) = f_X11_count what M) (xPost g L) (xA g L s.heap.size)) args s 0 0 (xA g L s.heap.size)) (F0 m 66 ls []) := by
    intro N_ n
    induction n with
    | zero => intro z k H locs ls kx hmu; exact absurd hmu (Nat.not_lt_zero _)
    | succ n ih =>
      intro z k H locs ls kx hmu hinv hres hP hS hl hex
      replace hres : F = _ := hres.trans (by rw [f_X11_count_L66])
      refine lv_iload_n hx hb dX11_count_66 rfl (lv_at hl 3 rfl) ?_
      refine lv_bipush (v := 8) hx hb dX11_count_67 (by decide) ?_
      refine lv_icmp_ge (tgt := 95) hx hb dX11_count_69 (by decide) (fun c_25 => ?_) (fun c_25 => ?_)
      · replace hres := hres.trans (if_pos c_25)
        exact hex z k _ _ _ (ob_X11_count_95_x66 nb nn what M hp0 hp1 hp2 hp3 n z k N_ hmu hinv c_25) hres hP hS (lv_sub hl [0, 1, 2, 3] rfl)
      · replace hres := hres.trans (if_neg c_25)
        refine lv_iload_n hx hb dX11_count_72 rfl (lv_at hl 2 rfl) ?_
        refine lv_aload_n hx hb dX11_count_73 rfl (lv_at hl 0 rfl) ?_
        refine gf_RX11_7 hx hb hts hown hK hP (hL 40 0 (xe_40 nb nn)) dX11_count_74 ?_
        refine lv_iload_n hx hb dX11_count_77 rfl (lv_at hl 3 rfl) ?_
        refine x_iald hx hb hK hP (hL 52 0 (xe_52 nb nn)) (xc52 g 0) (ob_X11_count_78_in nb nn what M hp0 hp1 hp2 hp3 n z k N_ hmu hinv c_25) dX11_count_78 ?_
        refine lv_if_lt (tgt := 86) hx hb dX11_count_79 (by decide) (fun c_26 => ?_) (fun c_26 => ?_)
        · replace hres := hres.trans (if_pos c_26)
          refine lv_iconst (v := 0) hx hb dX11_count_86 (by decide) ?_
          refine lv_iadd hx hb dX11_count_87 ?_
          refine lv_topi (fun x2_27 ex2_27 => ?_)
          replace hres := xlet_n hres ex2_27
          refine lv_istore_n (lv' := [(2, .int x2_27), (0, .ref (xad g 40 0)), (1, .int what), (3, .int k)]) hx hb dX11_count_88 rfl hl (by decide) rfl (fun ls hl => ?_)
          obtain ⟨x3_28, ex3_28⟩ : ∃ z_ : Int32, z_ = k + 1 := ⟨_, rfl⟩
          replace hres := xlet_n hres ex3_28
          refine lv_iinc (v := x3_28) (lv' := [(3, .int x3_28), (2, .int x2_27), (0, .ref (xad g 40 0)), (1, .int what)]) hx hb dX11_count_89 hl (k := 3) rfl (by rw [ex3_28]; rfl) (by decide) rfl (fun ls hl => ?_)
          refine lv_goto (tgt := 66) hx hb dX11_count_92 (by decide) ?_
          exact ih x2_27 x3_28 _ _ _ kx (ob_X11_count_66_mu_28 nb nn what M hp0 hp1 hp2 hp3 n z k N_ hmu hinv c_25 c_26 x2_27 ex2_27 x3_28 ex3_28) (ob_X11_count_66_inv_28 nb nn what M hp0 hp1 hp2 hp3 n z k N_ hmu hinv c_25 c_26 x2_27 ex2_27 x3_28 ex3_28) hres hP hS (lv_sub hl [2, 3, 1, 0] rfl) hex
        · replace hres := hres.trans (if_neg c_26)
          refine lv_iconst (v := 1) hx hb dX11_count_82 (by decide) ?_
          refine lv_goto (tgt := 87) hx hb dX11_count_83 (by decide) ?_
          refine lv_iadd hx hb dX11_count_87 ?_
          refine lv_topi (fun x2_29 ex2_29 => ?_)
          replace hres := xlet_n hres ex2_29
          refine lv_istore_n (lv' := [(2, .int x2_29), (0, .ref (xad g 40 0)), (1, .int what), (3, .int k)]) hx hb dX11_count_88 rfl hl (by decide) rfl (fun ls hl => ?_)
          obtain ⟨x3_30, ex3_30⟩ : ∃ z_ : Int32, z_ = k + 1 := ⟨_, rfl⟩
          replace hres := xlet_n hres ex3_30
          refine lv_iinc (v := x3_30) (lv' := [(3, .int x3_30), (2, .int x2_29), (0, .ref (xad g 40 0)), (1, .int what)]) hx hb dX11_count_89 hl (k := 3) rfl (by rw [ex3_30]; rfl) (by decide) rfl (fun ls hl => ?_)
          refine lv_goto (tgt := 66) hx hb dX11_count_92 (by decide) ?_
          exact ih x2_29 x3_30 _ _ _ kx (ob_X11_count_66_mu_30 nb nn what M hp0 hp1 hp2 hp3 n z k N_ hmu hinv c_25 c_26 x2_29 ex2_29 x3_30 ex3_30) (ob_X11_count_66_inv_30 nb nn what M hp0 hp1 hp2 hp3 n z k N_ hmu hinv c_25 c_26 x2_29 ex2_29 x3_30 ex3_30) hres hP hS (lv_sub hl [2, 3, 1, 0] rfl) hex
  have hres := hF
  rw [f_X11_count] at hres
  refine lv_aload_n hx hb dX11_count_0 rfl (lv_at hl 0 rfl) ?_
  refine lv_iconst (v := 0) hx hb dX11_count_1 (by decide) ?_
  refine pf_RX11_113 hx hb hts hown hK hP hD hS (hL 40 0 (xe_40 nb nn)) dX11_count_2 (fun H locs hP hS => ?_)
  obtain ⟨M_31, eM_31⟩ : ∃ z_ : xM, z_ = xup M 40 0 0 0 := ⟨_, rfl⟩
  rw [← eM_31] at hP
  replace hres := xlet_n hres eM_31
  refine lv_iconst (v := 0) hx hb dX11_count_5 (by decide) ?_
  refine lv_istore_n (lv' := [(2, .int 0), (0, .ref (xad g 40 0)), (1, .int what)]) hx hb dX11_count_6 rfl hl (by decide) rfl (fun ls hl => ?_)
  refine lv_iload_n hx hb dX11_count_7 rfl (lv_at hl 2 rfl) ?_
  by_cases c_32 : what = 0
  · replace hres := hres.trans (if_pos c_32)
    refine lv_tableIn (off := 56) (tgt := 64) hx hb dX11_count_8 (by rw [c_32]; decide) (by rw [c_32]; decide) (by rw [c_32]; rfl) (by decide) ?_
    refine lv_iconst (v := 0) hx hb dX11_count_64 (by decide) ?_
    refine lv_istore_n (lv' := [(3, .int 0), (2, .int 0), (0, .ref (xad g 40 0)), (1, .int what)]) hx hb dX11_count_65 rfl hl (by decide) rfl (fun ls hl => ?_)
    refine k_66 M_31 (xmu (0 : Int32) 8 + 1) (0 : Int32) (0 : Int32) _ _ _ _ (Nat.lt_succ_self _) (ob_X11_count_66_ini_32 nb nn what M hp0 hp1 hp2 hp3 M_31 eM_31 c_32) hres hP hS (lv_sub hl [2, 3, 1, 0] rfl) ?_
    clear hres hP hS hl
    intro z_33 k_34 H locs ls hiv_34 hres hP hS hl
    refine lv_iload_n hx hb dX11_count_95 rfl (lv_at hl 2 rfl) ?_
    exact x_reti hx hb hr hlk hP hS (hres.symm.trans hF) dX11_count_96
  · replace hres := hres.trans (if_neg c_32)
    by_cases c_35 : what = 1
    · replace hres := hres.trans (if_pos c_35)
      refine lv_tableIn (off := 89) (tgt := 97) hx hb dX11_count_8 (by rw [c_35]; decide) (by rw [c_35]; decide) (by rw [c_35]; rfl) (by decide) ?_
      refine lv_aload_n hx hb dX11_count_97 rfl (lv_at hl 1 rfl) ?_
      refine gf_RX11_150 hx hb hts hown hK hP (hL 40 0 (xe_40 nb nn)) dX11_count_98 ?_
      exact x_reti hx hb hr hlk hP hS (hres.symm.trans hF) dX11_count_101
    · replace hres := hres.trans (if_neg c_35)
      by_cases c_36 : what = 2
      · replace hres := hres.trans (if_pos c_36)
        refine lv_tableIn (off := 94) (tgt := 102) hx hb dX11_count_8 (by rw [c_36]; decide) (by rw [c_36]; decide) (by rw [c_36]; rfl) (by decide) ?_
        refine lv_iconst (v := 0) hx hb dX11_count_102 (by decide) ?_
        refine lv_istore_n (lv' := [(3, .int 0), (2, .int 0), (0, .ref (xad g 40 0)), (1, .int what)]) hx hb dX11_count_103 rfl hl (by decide) rfl (fun ls hl => ?_)
        refine k_104 M_31 (xmu (0 : Int32) (M_31 40 0 7) + 1) (0 : Int32) (0 : Int32) _ _ _ _ (Nat.lt_succ_self _) (ob_X11_count_104_ini_36 nb nn what M hp0 hp1 hp2 hp3 M_31 eM_31 c_32 c_35 c_36) hres hP hS (lv_sub hl [2, 3, 1, 0] rfl) ?_
        clear hres hP hS hl
        intro z_37 k_38 H locs ls hiv_38 hres hP hS hl
        refine lv_iload_n hx hb dX11_count_135 rfl (lv_at hl 2 rfl) ?_
        exact x_reti hx hb hr hlk hP hS (hres.symm.trans hF) dX11_count_136
      · replace hres := hres.trans (if_neg c_36)
        by_cases c_39 : what = 3
        · replace hres := hres.trans (if_pos c_39)
          refine lv_tableIn (off := 129) (tgt := 137) hx hb dX11_count_8 (by rw [c_39]; decide) (by rw [c_39]; decide) (by rw [c_39]; rfl) (by decide) ?_
          refine lv_aload_n hx hb dX11_count_137 rfl (lv_at hl 1 rfl) ?_
          refine gf_RX11_236 hx hb hts hown hK hP (hL 40 0 (xe_40 nb nn)) dX11_count_138 ?_
          exact x_reti hx hb hr hlk hP hS (hres.symm.trans hF) dX11_count_141
        · replace hres := hres.trans (if_neg c_39)
          by_cases c_40 : what = 4
          · replace hres := hres.trans (if_pos c_40)
            refine lv_tableIn (off := 134) (tgt := 142) hx hb dX11_count_8 (by rw [c_40]; decide) (by rw [c_40]; decide) (by rw [c_40]; rfl) (by decide) ?_
            refine lv_aload_n hx hb dX11_count_142 rfl (lv_at hl 1 rfl) ?_
            refine gf_RX11_265 hx hb hts hown hK hP (hL 40 0 (xe_40 nb nn)) dX11_count_143 ?_
            exact x_reti hx hb hr hlk hP hS (hres.symm.trans hF) dX11_count_146
          · replace hres := hres.trans (if_neg c_40)
            by_cases c_41 : what = 5
            · replace hres := hres.trans (if_pos c_41)
              refine lv_tableIn (off := 139) (tgt := 147) hx hb dX11_count_8 (by rw [c_41]; decide) (by rw [c_41]; decide) (by rw [c_41]; rfl) (by decide) ?_
              refine lv_iconst (v := 0) hx hb dX11_count_147 (by decide) ?_
              refine lv_istore_n (lv' := [(3, .int 0), (2, .int 0), (0, .ref (xad g 40 0)), (1, .int what)]) hx hb dX11_count_148 rfl hl (by decide) rfl (fun ls hl => ?_)
              refine k_149 M_31 (xmu (0 : Int32) (M_31 40 0 30) + 1) (0 : Int32) (0 : Int32) _ _ _ _ (Nat.lt_succ_self _) (ob_X11_count_149_ini_41 nb nn what M hp0 hp1 hp2 hp3 M_31 eM_31 c_32 c_35 c_36 c_39 c_40 c_41) hres hP hS (lv_sub hl [2, 3, 1, 0] rfl) ?_
              clear hres hP hS hl
              intro z_42 k_43 H locs ls hiv_43 hres hP hS hl
              refine lv_iload_n hx hb dX11_count_217 rfl (lv_at hl 2 rfl) ?_
              exact x_reti hx hb hr hlk hP hS (hres.symm.trans hF) dX11_count_218
            · replace hres := hres.trans (if_neg c_41)
              by_cases c_44 : what = 6
              · replace hres := hres.trans (if_pos c_44)
                refine lv_tableIn (off := 139) (tgt := 147) hx hb dX11_count_8 (by rw [c_44]; decide) (by rw [c_44]; decide) (by rw [c_44]; rfl) (by decide) ?_
                refine lv_iconst (v := 0) hx hb dX11_count_147 (by decide) ?_
                refine lv_istore_n (lv' := [(3, .int 0), (2, .int 0), (0, .ref (xad g 40 0)), (1, .int what)]) hx hb dX11_count_148 rfl hl (by decide) rfl (fun ls hl => ?_)
                refine k_149 M_31 (xmu (0 : Int32) (M_31 40 0 30) + 1) (0 : Int32) (0 : Int32) _ _ _ _ (Nat.lt_succ_self _) (ob_X11_count_149_ini_44 nb nn what M hp0 hp1 hp2 hp3 M_31 eM_31 c_32 c_35 c_36 c_39 c_40 c_41 c_44) hres hP hS (lv_sub hl [2, 3, 1, 0] rfl) ?_
                clear hres hP hS hl
                intro z_45 k_46 H locs ls hiv_46 hres hP hS hl
                refine lv_iload_n hx hb dX11_count_217 rfl (lv_at hl 2 rfl) ?_
                exact x_reti hx hb hr hlk hP hS (hres.symm.trans hF) dX11_count_218
              · replace hres := hres.trans (if_neg c_44)
                by_cases c_47 : what = 7
                · replace hres := hres.trans (if_pos c_47)
                  refine lv_tableIn (off := 139) (tgt := 147) hx hb dX11_count_8 (by rw [c_47]; decide) (by rw [c_47]; decide) (by rw [c_47]; rfl) (by decide) ?_
                  refine lv_iconst (v := 0) hx hb dX11_count_147 (by decide) ?_
                  refine lv_istore_n (lv' := [(3, .int 0), (2, .int 0), (0, .ref (xad g 40 0)), (1, .int what)]) hx hb dX11_count_148 rfl hl (by decide) rfl (fun ls hl => ?_)
                  refine k_149 M_31 (xmu (0 : Int32) (M_31 40 0 30) + 1) (0 : Int32) (0 : Int32) _ _ _ _ (Nat.lt_succ_self _) (ob_X11_count_149_ini_47 nb nn what M hp0 hp1 hp2 hp3 M_31 eM_31 c_32 c_35 c_36 c_39 c_40 c_41 c_44 c_47) hres hP hS (lv_sub hl [2, 3, 1, 0] rfl) ?_
                  clear hres hP hS hl
                  intro z_48 k_49 H locs ls hiv_49 hres hP hS hl
                  refine lv_iload_n hx hb dX11_count_217 rfl (lv_at hl 2 rfl) ?_
                  exact x_reti hx hb hr hlk hP hS (hres.symm.trans hF) dX11_count_218
                · replace hres := hres.trans (if_neg c_47)
                  by_cases c_50 : what = 8
                  · replace hres := hres.trans (if_pos c_50)
                    refine lv_tableIn (off := 211) (tgt := 219) hx hb dX11_count_8 (by rw [c_50]; decide) (by rw [c_50]; decide) (by rw [c_50]; rfl) (by decide) ?_
                    refine lv_aload_n hx hb dX11_count_219 rfl (lv_at hl 1 rfl) ?_
                    refine gf_RX11_172 hx hb hts hown hK hP (hL 40 0 (xe_40 nb nn)) dX11_count_220 ?_
                    exact x_reti hx hb hr hlk hP hS (hres.symm.trans hF) dX11_count_223
                  · replace hres := hres.trans (if_neg c_50)
                    by_cases c_51 : what = 9
                    · replace hres := hres.trans (if_pos c_51)
                      refine lv_tableIn (off := 216) (tgt := 224) hx hb dX11_count_8 (by rw [c_51]; decide) (by rw [c_51]; decide) (by rw [c_51]; rfl) (by decide) ?_
                      refine lv_aload_n hx hb dX11_count_224 rfl (lv_at hl 1 rfl) ?_
                      refine gf_RX11_167 hx hb hts hown hK hP (hL 40 0 (xe_40 nb nn)) dX11_count_225 ?_
                      exact x_reti hx hb hr hlk hP hS (hres.symm.trans hF) dX11_count_228
                    · replace hres := hres.trans (if_neg c_51)
                      refine lv_tableOut (tgt := 229) hx hb dX11_count_8 (by have q0 := lv_neT c_32 (show (0 : Int32).toInt = 0 from rfl); have q1 := lv_neT c_35 (show (1 : Int32).toInt = 1 from rfl); have q2 := lv_neT c_36 (show (2 : Int32).toInt = 2 from rfl); have q3 := lv_neT c_39 (show (3 : Int32).toInt = 3 from rfl); have q4 := lv_neT c_40 (show (4 : Int32).toInt = 4 from rfl); have q5 := lv_neT c_41 (show (5 : Int32).toInt = 5 from rfl); have q6 := lv_neT c_44 (show (6 : Int32).toInt = 6 from rfl); have q7 := lv_neT c_47 (show (7 : Int32).toInt = 7 from rfl); have q8 := lv_neT c_50 (show (8 : Int32).toInt = 8 from rfl); have q9 := lv_neT c_51 (show (9 : Int32).toInt = 9 from rfl); omega) (by decide) ?_
                      refine lv_ldc (own := RX11) (v := (-1000001)) hx hb hown (hts _ (List.mem_cons_of_mem _ wd_202)) dX11_count_229 ?_
                      exact x_reti hx hb hr hlk hP hS (hres.symm.trans hF) dX11_count_231
