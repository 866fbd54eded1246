def f_X11_worthOf (q : Int32) (town : Int32) (w : Int32) (M : xM) : Int32 × xM :=
  xlet (xb (f_X11_isFalse q M)) fun r_1 => if r_1 = 0 then xlet2 (f_X11_saidOf town w (M 81 0 q.toNatClampNeg) 2 M) fun r_3 M_4 => if r_3 = (-1000000) then xlet2 (f_X11_offOf town w (M_4 81 0 q.toNatClampNeg) M_4) fun r_6 M_7 => xlet2 (f_X11_farFrom town (M_7 58 0 (M_7 81 0 q.toNatClampNeg).toNatClampNeg) M_7) fun r_8 M_9 => if r_8 = (-1000000) then (0, M_9) else xlet ((100 - r_6) - (r_8 / 20)) fun x7_11 => if x7_11 ≤ 0 then (0, M_9) else (((M_9 82 0 q.toNatClampNeg) * x7_11), M_9) else (((M_4 82 0 q.toNatClampNeg) * r_3), M_4) else (0, M)
def f_X11_worth (q : Int32) (town : Int32) (w : Int32) (M : xM) : Int32 × xM :=
  xlet (xup M 40 0 0 0) fun M_1 => xlet (xb (f_X11_isNote q M_1)) fun r_2 => if r_2 = 0 then ((-1000001), M_1) else xlet (xb (f_X11_isTown town M_1)) fun r_4 => if r_4 = 0 then ((-1000001), M_1) else xlet (xb (f_X11_isWeek w M_1)) fun r_6 => if r_6 = 0 then ((-1000001), M_1) else xlet2 (f_X11_worthOf q town w M_1) fun r_8 M_9 => (r_8, M_9)
def f_X11_markOf (q : Int32) (kd : Int32) (M : xM) : Int32 × xM :=
  if kd = 3 then xlet (f_X11_began 22 M) fun M_53 => xlet (xb (f_X11_isOf kd 2 M_53)) fun r_54 => if r_54 = 0 then if kd = 5 then xlet (f_X11_began 23 M_53) fun M_67 => xlet (f_X11_began 20 M_67) fun M_69 => xlet (f_X11_began 10 M_69) fun M_72 => xlet (xb (f_X11_isOf kd 2 M_72)) fun r_73 => if r_73 = 0 then ((((q + 0) + (M_72 81 0 q.toNatClampNeg)) + (M_72 82 0 q.toNatClampNeg)), M_72) else ((((q + 100) + (M_72 81 0 q.toNatClampNeg)) + (M_72 82 0 q.toNatClampNeg)), M_72) else xlet (f_X11_began 20 M_53) fun M_58 => xlet (xb (f_X11_isOf kd 2 M_58)) fun r_60 => if r_60 = 0 then ((((q + 0) + (M_58 81 0 q.toNatClampNeg)) + 0), M_58) else ((((q + 100) + (M_58 81 0 q.toNatClampNeg)) + 0), M_58) else xlet (f_X11_began 21 M_53) fun M_80 => if kd = 5 then xlet (f_X11_began 23 M_80) fun M_92 => xlet (f_X11_began 20 M_92) fun M_94 => xlet (f_X11_began 10 M_94) fun M_97 => xlet (xb (f_X11_isOf kd 2 M_97)) fun r_98 => if r_98 = 0 then ((((q + 0) + (M_97 81 0 q.toNatClampNeg)) + (M_97 82 0 q.toNatClampNeg)), M_97) else ((((q + 100) + (M_97 81 0 q.toNatClampNeg)) + (M_97 82 0 q.toNatClampNeg)), M_97) else xlet (f_X11_began 20 M_80) fun M_83 => xlet (xb (f_X11_isOf kd 2 M_83)) fun r_85 => if r_85 = 0 then ((((q + 0) + (M_83 81 0 q.toNatClampNeg)) + 0), M_83) else ((((q + 100) + (M_83 81 0 q.toNatClampNeg)) + 0), M_83) else xlet (xb (f_X11_isOf kd 2 M)) fun r_2 => if r_2 = 0 then if kd = 5 then xlet (f_X11_began 23 M) fun M_15 => xlet (f_X11_began 20 M_15) fun M_17 => xlet (f_X11_began 10 M_17) fun M_20 => xlet (xb (f_X11_isOf kd 2 M_20)) fun r_21 => if r_21 = 0 then ((((q + 0) + 0) + (M_20 82 0 q.toNatClampNeg)), M_20) else ((((q + 100) + 0) + (M_20 82 0 q.toNatClampNeg)), M_20) else xlet (f_X11_began 20 M) fun M_6 => xlet (xb (f_X11_isOf kd 2 M_6)) fun r_8 => if r_8 = 0 then ((((q + 0) + 0) + 0), M_6) else ((((q + 100) + 0) + 0), M_6) else xlet (f_X11_began 21 M) fun M_28 => if kd = 5 then xlet (f_X11_began 23 M_28) fun M_40 => xlet (f_X11_began 20 M_40) fun M_42 => xlet (f_X11_began 10 M_42) fun M_45 => xlet (xb (f_X11_isOf kd 2 M_45)) fun r_46 => if r_46 = 0 then ((((q + 0) + 0) + (M_45 82 0 q.toNatClampNeg)), M_45) else ((((q + 100) + 0) + (M_45 82 0 q.toNatClampNeg)), M_45) else xlet (f_X11_began 20 M_28) fun M_31 => xlet (xb (f_X11_isOf kd 2 M_31)) fun r_33 => if r_33 = 0 then ((((q + 0) + 0) + 0), M_31) else ((((q + 100) + 0) + 0), M_31)
def f_X11_sizeOf (q : Int32) (kd : Int32) (M : xM) : Int32 × xM :=
  xlet (xb (f_X11_isOf kd 2 M)) fun r_1 => if r_1 = 0 then if kd = 1 then xlet (f_X11_began 11 M) fun M_6 => xlet (f_X11_began 10 M_6) fun M_8 => xlet (f_X11_bits (M_8 84 0 q.toNatClampNeg) M_8) fun r_10 => (((M_8 82 0 q.toNatClampNeg) - r_10), M_8) else if kd = 4 then xlet (f_X11_began 14 M) fun M_18 => xlet (f_X11_began 10 M_18) fun M_20 => (((M_20 82 0 q.toNatClampNeg) / 2), M_20) else xlet (f_X11_began 10 M) fun M_13 => ((M_13 82 0 q.toNatClampNeg), M_13) else if kd = 3 then xlet (f_X11_began 13 M) fun M_31 => xlet (f_X11_began 12 M_31) fun M_33 => xlet2 (f_X11_markOf q kd M_33) fun r_34 M_35 => xlet (-r_34) fun x3_36 => ((2 * x3_36), M_35) else xlet (f_X11_began 12 M) fun M_25 => xlet2 (f_X11_markOf q kd M_25) fun r_26 M_27 => xlet (-r_26) fun x3_28 => (x3_28, M_27)
def f_X11_ask (q : Int32) (what : Int32) (M : xM) : Int32 × xM :=
  xlet (xup M 40 0 0 0) fun M_1 => xlet (xb (f_X11_isNote q M_1)) fun r_2 => if r_2 = 0 then ((-1000001), M_1) else xlet (xb (f_X11_in (what.toInt64) 0 1 M_1)) fun r_4 => if r_4 = 0 then ((-1000001), M_1) else xlet (xup M_1 40 0 50 0) fun M_6 => if what = 0 then xlet (f_X11_kindOf q M_6) fun r_11 => xlet2 (f_X11_sizeOf q r_11 M_6) fun r_12 M_13 => (r_12, M_13) else xlet (f_X11_kindOf q M_6) fun r_8 => xlet2 (f_X11_markOf q r_8 M_6) fun r_9 M_10 => (r_9, M_10)
theorem ob_X11_worthOf_2_p0 (nb nn : Nat) (q : Int32) (town : Int32) (w : Int32) (M : xM) (hp0 : 0 ≤ q) (hp1 : q < 24) (hp2 : 0 ≤ town) (hp3 : town ≤ 5) (hp4 : mI M) : 0 ≤ q := by
  subst_vars
  grind [mI, said2, fals2, bw2, ff2, xup_at, isTown_eq, isWeek_eq, isBank_eq, isNote_eq, isTrader_eq, in_0_1, in_0_2, in_1_999, xb, off2, f_X11_isFalse, f_X11_isGhost]
theorem ob_X11_worthOf_2_p1 (nb nn : Nat) (q : Int32) (town : Int32) (w : Int32) (M : xM) (hp0 : 0 ≤ q) (hp1 : q < 24) (hp2 : 0 ≤ town) (hp3 : town ≤ 5) (hp4 : mI M) : q < 24 := by
  subst_vars
  grind [mI, said2, fals2, bw2, ff2, xup_at, isTown_eq, isWeek_eq, isBank_eq, isNote_eq, isTrader_eq, in_0_1, in_0_2, in_1_999, xb, off2, f_X11_isFalse, f_X11_isGhost]
theorem ob_X11_worthOf_2_p2 (nb nn : Nat) (q : Int32) (town : Int32) (w : Int32) (M : xM) (hp0 : 0 ≤ q) (hp1 : q < 24) (hp2 : 0 ≤ town) (hp3 : town ≤ 5) (hp4 : mI M) : M 40 0 7 ≤ 8 := by
  subst_vars
  grind [mI, said2, fals2, bw2, ff2, xup_at, isTown_eq, isWeek_eq, isBank_eq, isNote_eq, isTrader_eq, in_0_1, in_0_2, in_1_999, xb, off2, f_X11_isFalse, f_X11_isGhost]
theorem ob_X11_worthOf_2_p3 (nb nn : Nat) (q : Int32) (town : Int32) (w : Int32) (M : xM) (hp0 : 0 ≤ q) (hp1 : q < 24) (hp2 : 0 ≤ town) (hp3 : town ≤ 5) (hp4 : mI M) : ∀ j : Nat, 0 ≤ M 81 0 j := by
  subst_vars
  grind [mI, said2, fals2, bw2, ff2, xup_at, isTown_eq, isWeek_eq, isBank_eq, isNote_eq, isTrader_eq, in_0_1, in_0_2, in_1_999, xb, off2, f_X11_isFalse, f_X11_isGhost]
theorem ob_X11_worthOf_18_in (nb nn : Nat) (q : Int32) (town : Int32) (w : Int32) (M : xM) (hp0 : 0 ≤ q) (hp1 : q < 24) (hp2 : 0 ≤ town) (hp3 : town ≤ 5) (hp4 : mI M) (r_1 : Int32) (er_1 : r_1 = xb (f_X11_isFalse q M)) (c_2 : r_1 = 0) : vp_in q 24 := by
  subst_vars
  exact xin (N := 24) (by grind [mI, said2, fals2, bw2, ff2, xup_at, isTown_eq, isWeek_eq, isBank_eq, isNote_eq, isTrader_eq, in_0_1, in_0_2, in_1_999, xb, off2, f_X11_isFalse, f_X11_isGhost]) (by grind [mI, said2, fals2, bw2, ff2, xup_at, isTown_eq, isWeek_eq, isBank_eq, isNote_eq, isTrader_eq, in_0_1, in_0_2, in_1_999, xb, off2, f_X11_isFalse, f_X11_isGhost]) (by decide)
theorem ob_X11_worthOf_20_p0 (nb nn : Nat) (q : Int32) (town : Int32) (w : Int32) (M : xM) (hp0 : 0 ≤ q) (hp1 : q < 24) (hp2 : 0 ≤ town) (hp3 : town ≤ 5) (hp4 : mI M) (r_1 : Int32) (er_1 : r_1 = xb (f_X11_isFalse q M)) (c_2 : r_1 = 0) : 0 ≤ town := by
  subst_vars
  grind [mI, said2, fals2, bw2, ff2, xup_at, isTown_eq, isWeek_eq, isBank_eq, isNote_eq, isTrader_eq, in_0_1, in_0_2, in_1_999, xb, off2, f_X11_isFalse, f_X11_isGhost]
theorem ob_X11_worthOf_20_p1 (nb nn : Nat) (q : Int32) (town : Int32) (w : Int32) (M : xM) (hp0 : 0 ≤ q) (hp1 : q < 24) (hp2 : 0 ≤ town) (hp3 : town ≤ 5) (hp4 : mI M) (r_1 : Int32) (er_1 : r_1 = xb (f_X11_isFalse q M)) (c_2 : r_1 = 0) : town ≤ 5 := by
  subst_vars
  grind [mI, said2, fals2, bw2, ff2, xup_at, isTown_eq, isWeek_eq, isBank_eq, isNote_eq, isTrader_eq, in_0_1, in_0_2, in_1_999, xb, off2, f_X11_isFalse, f_X11_isGhost]
theorem ob_X11_worthOf_20_p2 (nb nn : Nat) (q : Int32) (town : Int32) (w : Int32) (M : xM) (hp0 : 0 ≤ q) (hp1 : q < 24) (hp2 : 0 ≤ town) (hp3 : town ≤ 5) (hp4 : mI M) (r_1 : Int32) (er_1 : r_1 = xb (f_X11_isFalse q M)) (c_2 : r_1 = 0) : 0 ≤ M 40 0 14 := by
  subst_vars
  grind [mI, said2, fals2, bw2, ff2, xup_at, isTown_eq, isWeek_eq, isBank_eq, isNote_eq, isTrader_eq, in_0_1, in_0_2, in_1_999, xb, off2, f_X11_isFalse, f_X11_isGhost]
theorem ob_X11_worthOf_20_p3 (nb nn : Nat) (q : Int32) (town : Int32) (w : Int32) (M : xM) (hp0 : 0 ≤ q) (hp1 : q < 24) (hp2 : 0 ≤ town) (hp3 : town ≤ 5) (hp4 : mI M) (r_1 : Int32) (er_1 : r_1 = xb (f_X11_isFalse q M)) (c_2 : r_1 = 0) : M 40 0 14 ≤ 40 := by
  subst_vars
  grind [mI, said2, fals2, bw2, ff2, xup_at, isTown_eq, isWeek_eq, isBank_eq, isNote_eq, isTrader_eq, in_0_1, in_0_2, in_1_999, xb, off2, f_X11_isFalse, f_X11_isGhost]
theorem ob_X11_worthOf_50_in (nb nn : Nat) (q : Int32) (town : Int32) (w : Int32) (M : xM) (hp0 : 0 ≤ q) (hp1 : q < 24) (hp2 : 0 ≤ town) (hp3 : town ≤ 5) (hp4 : mI M) (r_1 : Int32) (er_1 : r_1 = xb (f_X11_isFalse q M)) (c_2 : r_1 = 0) (r_3 : Int32) (M_4 : xM) (er_3 : r_3 = (f_X11_saidOf town w (M 81 0 q.toNatClampNeg) 2 M).1) (eM_4 : M_4 = (f_X11_saidOf town w (M 81 0 q.toNatClampNeg) 2 M).2) (c_5 : r_3 = (-1000000)) : vp_in q 24 := by
  subst_vars
  exact xin (N := 24) (by grind [mI, said2, fals2, bw2, ff2, xup_at, isTown_eq, isWeek_eq, isBank_eq, isNote_eq, isTrader_eq, in_0_1, in_0_2, in_1_999, xb, off2, f_X11_isFalse, f_X11_isGhost]) (by grind [mI, said2, fals2, bw2, ff2, xup_at, isTown_eq, isWeek_eq, isBank_eq, isNote_eq, isTrader_eq, in_0_1, in_0_2, in_1_999, xb, off2, f_X11_isFalse, f_X11_isGhost]) (by decide)
theorem ob_X11_worthOf_51_p0 (nb nn : Nat) (q : Int32) (town : Int32) (w : Int32) (M : xM) (hp0 : 0 ≤ q) (hp1 : q < 24) (hp2 : 0 ≤ town) (hp3 : town ≤ 5) (hp4 : mI M) (r_1 : Int32) (er_1 : r_1 = xb (f_X11_isFalse q M)) (c_2 : r_1 = 0) (r_3 : Int32) (M_4 : xM) (er_3 : r_3 = (f_X11_saidOf town w (M 81 0 q.toNatClampNeg) 2 M).1) (eM_4 : M_4 = (f_X11_saidOf town w (M 81 0 q.toNatClampNeg) 2 M).2) (c_5 : r_3 = (-1000000)) : 0 ≤ town := by
  subst_vars
  grind [mI, said2, fals2, bw2, ff2, xup_at, isTown_eq, isWeek_eq, isBank_eq, isNote_eq, isTrader_eq, in_0_1, in_0_2, in_1_999, xb, off2, f_X11_isFalse, f_X11_isGhost]
theorem ob_X11_worthOf_51_p1 (nb nn : Nat) (q : Int32) (town : Int32) (w : Int32) (M : xM) (hp0 : 0 ≤ q) (hp1 : q < 24) (hp2 : 0 ≤ town) (hp3 : town ≤ 5) (hp4 : mI M) (r_1 : Int32) (er_1 : r_1 = xb (f_X11_isFalse q M)) (c_2 : r_1 = 0) (r_3 : Int32) (M_4 : xM) (er_3 : r_3 = (f_X11_saidOf town w (M 81 0 q.toNatClampNeg) 2 M).1) (eM_4 : M_4 = (f_X11_saidOf town w (M 81 0 q.toNatClampNeg) 2 M).2) (c_5 : r_3 = (-1000000)) : town ≤ 5 := by
  subst_vars
  grind [mI, said2, fals2, bw2, ff2, xup_at, isTown_eq, isWeek_eq, isBank_eq, isNote_eq, isTrader_eq, in_0_1, in_0_2, in_1_999, xb, off2, f_X11_isFalse, f_X11_isGhost]
theorem ob_X11_worthOf_51_p2 (nb nn : Nat) (q : Int32) (town : Int32) (w : Int32) (M : xM) (hp0 : 0 ≤ q) (hp1 : q < 24) (hp2 : 0 ≤ town) (hp3 : town ≤ 5) (hp4 : mI M) (r_1 : Int32) (er_1 : r_1 = xb (f_X11_isFalse q M)) (c_2 : r_1 = 0) (r_3 : Int32) (M_4 : xM) (er_3 : r_3 = (f_X11_saidOf town w (M 81 0 q.toNatClampNeg) 2 M).1) (eM_4 : M_4 = (f_X11_saidOf town w (M 81 0 q.toNatClampNeg) 2 M).2) (c_5 : r_3 = (-1000000)) : mI M_4 := by
  subst_vars
  exact mI_56 (fun x y z h => said2 h) hp4
theorem ob_X11_worthOf_67_in (nb nn : Nat) (q : Int32) (town : Int32) (w : Int32) (M : xM) (hp0 : 0 ≤ q) (hp1 : q < 24) (hp2 : 0 ≤ town) (hp3 : town ≤ 5) (hp4 : mI M) (r_1 : Int32) (er_1 : r_1 = xb (f_X11_isFalse q M)) (c_2 : r_1 = 0) (r_3 : Int32) (M_4 : xM) (er_3 : r_3 = (f_X11_saidOf town w (M 81 0 q.toNatClampNeg) 2 M).1) (eM_4 : M_4 = (f_X11_saidOf town w (M 81 0 q.toNatClampNeg) 2 M).2) (c_5 : r_3 = (-1000000)) (r_6 : Int32) (M_7 : xM) (er_6 : r_6 = (f_X11_offOf town w (M_4 81 0 q.toNatClampNeg) M_4).1) (eM_7 : M_7 = (f_X11_offOf town w (M_4 81 0 q.toNatClampNeg) M_4).2) : vp_in q 24 := by
  subst_vars
  exact xin (N := 24) (by grind [mI, said2, fals2, bw2, ff2, xup_at, isTown_eq, isWeek_eq, isBank_eq, isNote_eq, isTrader_eq, in_0_1, in_0_2, in_1_999, xb, off2, f_X11_isFalse, f_X11_isGhost]) (by grind [mI, said2, fals2, bw2, ff2, xup_at, isTown_eq, isWeek_eq, isBank_eq, isNote_eq, isTrader_eq, in_0_1, in_0_2, in_1_999, xb, off2, f_X11_isFalse, f_X11_isGhost]) (by decide)
theorem ob_X11_worthOf_68_in (nb nn : Nat) (q : Int32) (town : Int32) (w : Int32) (M : xM) (hp0 : 0 ≤ q) (hp1 : q < 24) (hp2 : 0 ≤ town) (hp3 : town ≤ 5) (hp4 : mI M) (r_1 : Int32) (er_1 : r_1 = xb (f_X11_isFalse q M)) (c_2 : r_1 = 0) (r_3 : Int32) (M_4 : xM) (er_3 : r_3 = (f_X11_saidOf town w (M 81 0 q.toNatClampNeg) 2 M).1) (eM_4 : M_4 = (f_X11_saidOf town w (M 81 0 q.toNatClampNeg) 2 M).2) (c_5 : r_3 = (-1000000)) (r_6 : Int32) (M_7 : xM) (er_6 : r_6 = (f_X11_offOf town w (M_4 81 0 q.toNatClampNeg) M_4).1) (eM_7 : M_7 = (f_X11_offOf town w (M_4 81 0 q.toNatClampNeg) M_4).2) : vp_in (M_7 81 0 q.toNatClampNeg) 8 := by
  subst_vars
  exact xin (N := 8) (by grind [mI, said2, fals2, bw2, ff2, xup_at, isTown_eq, isWeek_eq, isBank_eq, isNote_eq, isTrader_eq, in_0_1, in_0_2, in_1_999, xb, off2, f_X11_isFalse, f_X11_isGhost]) (by grind [mI, said2, fals2, bw2, ff2, xup_at, isTown_eq, isWeek_eq, isBank_eq, isNote_eq, isTrader_eq, in_0_1, in_0_2, in_1_999, xb, off2, f_X11_isFalse, f_X11_isGhost]) (by decide)
theorem ob_X11_worthOf_69_p0 (nb nn : Nat) (q : Int32) (town : Int32) (w : Int32) (M : xM) (hp0 : 0 ≤ q) (hp1 : q < 24) (hp2 : 0 ≤ town) (hp3 : town ≤ 5) (hp4 : mI M) (r_1 : Int32) (er_1 : r_1 = xb (f_X11_isFalse q M)) (c_2 : r_1 = 0) (r_3 : Int32) (M_4 : xM) (er_3 : r_3 = (f_X11_saidOf town w (M 81 0 q.toNatClampNeg) 2 M).1) (eM_4 : M_4 = (f_X11_saidOf town w (M 81 0 q.toNatClampNeg) 2 M).2) (c_5 : r_3 = (-1000000)) (r_6 : Int32) (M_7 : xM) (er_6 : r_6 = (f_X11_offOf town w (M_4 81 0 q.toNatClampNeg) M_4).1) (eM_7 : M_7 = (f_X11_offOf town w (M_4 81 0 q.toNatClampNeg) M_4).2) : 0 ≤ (M_7 58 0 (M_7 81 0 q.toNatClampNeg).toNatClampNeg) := by
  subst_vars
  grind [mI, said2, fals2, bw2, ff2, xup_at, isTown_eq, isWeek_eq, isBank_eq, isNote_eq, isTrader_eq, in_0_1, in_0_2, in_1_999, xb, off2, f_X11_isFalse, f_X11_isGhost]
theorem ob_X11_worthOf_69_p1 (nb nn : Nat) (q : Int32) (town : Int32) (w : Int32) (M : xM) (hp0 : 0 ≤ q) (hp1 : q < 24) (hp2 : 0 ≤ town) (hp3 : town ≤ 5) (hp4 : mI M) (r_1 : Int32) (er_1 : r_1 = xb (f_X11_isFalse q M)) (c_2 : r_1 = 0) (r_3 : Int32) (M_4 : xM) (er_3 : r_3 = (f_X11_saidOf town w (M 81 0 q.toNatClampNeg) 2 M).1) (eM_4 : M_4 = (f_X11_saidOf town w (M 81 0 q.toNatClampNeg) 2 M).2) (c_5 : r_3 = (-1000000)) (r_6 : Int32) (M_7 : xM) (er_6 : r_6 = (f_X11_offOf town w (M_4 81 0 q.toNatClampNeg) M_4).1) (eM_7 : M_7 = (f_X11_offOf town w (M_4 81 0 q.toNatClampNeg) M_4).2) : (M_7 58 0 (M_7 81 0 q.toNatClampNeg).toNatClampNeg) ≤ 5 := by
  subst_vars
  grind [mI, said2, fals2, bw2, ff2, xup_at, isTown_eq, isWeek_eq, isBank_eq, isNote_eq, isTrader_eq, in_0_1, in_0_2, in_1_999, xb, off2, f_X11_isFalse, f_X11_isGhost]
theorem ob_X11_worthOf_108_in (nb nn : Nat) (q : Int32) (town : Int32) (w : Int32) (M : xM) (hp0 : 0 ≤ q) (hp1 : q < 24) (hp2 : 0 ≤ town) (hp3 : town ≤ 5) (hp4 : mI M) (r_1 : Int32) (er_1 : r_1 = xb (f_X11_isFalse q M)) (c_2 : r_1 = 0) (r_3 : Int32) (M_4 : xM) (er_3 : r_3 = (f_X11_saidOf town w (M 81 0 q.toNatClampNeg) 2 M).1) (eM_4 : M_4 = (f_X11_saidOf town w (M 81 0 q.toNatClampNeg) 2 M).2) (c_5 : r_3 = (-1000000)) (r_6 : Int32) (M_7 : xM) (er_6 : r_6 = (f_X11_offOf town w (M_4 81 0 q.toNatClampNeg) M_4).1) (eM_7 : M_7 = (f_X11_offOf town w (M_4 81 0 q.toNatClampNeg) M_4).2) (r_8 : Int32) (M_9 : xM) (er_8 : r_8 = (f_X11_farFrom town (M_7 58 0 (M_7 81 0 q.toNatClampNeg).toNatClampNeg) M_7).1) (eM_9 : M_9 = (f_X11_farFrom town (M_7 58 0 (M_7 81 0 q.toNatClampNeg).toNatClampNeg) M_7).2) (c_10 : ¬ r_8 = (-1000000)) (x7_11 : Int32) (ex7_11 : x7_11 = ((100 - r_6) - (r_8 / 20))) (c_12 : ¬ x7_11 ≤ 0) : vp_in q 24 := by
  subst_vars
  exact xin (N := 24) (by grind [mI, said2, fals2, bw2, ff2, xup_at, isTown_eq, isWeek_eq, isBank_eq, isNote_eq, isTrader_eq, in_0_1, in_0_2, in_1_999, xb, off2, f_X11_isFalse, f_X11_isGhost]) (by grind [mI, said2, fals2, bw2, ff2, xup_at, isTown_eq, isWeek_eq, isBank_eq, isNote_eq, isTrader_eq, in_0_1, in_0_2, in_1_999, xb, off2, f_X11_isFalse, f_X11_isGhost]) (by decide)
theorem ob_X11_worthOf_37_in (nb nn : Nat) (q : Int32) (town : Int32) (w : Int32) (M : xM) (hp0 : 0 ≤ q) (hp1 : q < 24) (hp2 : 0 ≤ town) (hp3 : town ≤ 5) (hp4 : mI M) (r_1 : Int32) (er_1 : r_1 = xb (f_X11_isFalse q M)) (c_2 : r_1 = 0) (r_3 : Int32) (M_4 : xM) (er_3 : r_3 = (f_X11_saidOf town w (M 81 0 q.toNatClampNeg) 2 M).1) (eM_4 : M_4 = (f_X11_saidOf town w (M 81 0 q.toNatClampNeg) 2 M).2) (c_5 : ¬ r_3 = (-1000000)) : vp_in q 24 := by
  subst_vars
  exact xin (N := 24) (by grind [mI, said2, fals2, bw2, ff2, xup_at, isTown_eq, isWeek_eq, isBank_eq, isNote_eq, isTrader_eq, in_0_1, in_0_2, in_1_999, xb, off2, f_X11_isFalse, f_X11_isGhost]) (by grind [mI, said2, fals2, bw2, ff2, xup_at, isTown_eq, isWeek_eq, isBank_eq, isNote_eq, isTrader_eq, in_0_1, in_0_2, in_1_999, xb, off2, f_X11_isFalse, f_X11_isGhost]) (by decide)
theorem ob_X11_worth_36_p0 (nb nn : Nat) (q : Int32) (town : Int32) (w : Int32) (M : xM) (hp0 : mI M) (M_1 : xM) (eM_1 : M_1 = xup M 40 0 0 0) (r_2 : Int32) (er_2 : r_2 = xb (f_X11_isNote q M_1)) (c_3 : ¬ r_2 = 0) (r_4 : Int32) (er_4 : r_4 = xb (f_X11_isTown town M_1)) (c_5 : ¬ r_4 = 0) (r_6 : Int32) (er_6 : r_6 = xb (f_X11_isWeek w M_1)) (c_7 : ¬ r_6 = 0) : 0 ≤ q := by
  subst_vars
  grind [mI, said2, fals2, bw2, ff2, xup_at, isTown_eq, isWeek_eq, isBank_eq, isNote_eq, isTrader_eq, in_0_1, in_0_2, in_1_999, xb, off2, f_X11_isFalse, f_X11_isGhost]
theorem ob_X11_worth_36_p1 (nb nn : Nat) (q : Int32) (town : Int32) (w : Int32) (M : xM) (hp0 : mI M) (M_1 : xM) (eM_1 : M_1 = xup M 40 0 0 0) (r_2 : Int32) (er_2 : r_2 = xb (f_X11_isNote q M_1)) (c_3 : ¬ r_2 = 0) (r_4 : Int32) (er_4 : r_4 = xb (f_X11_isTown town M_1)) (c_5 : ¬ r_4 = 0) (r_6 : Int32) (er_6 : r_6 = xb (f_X11_isWeek w M_1)) (c_7 : ¬ r_6 = 0) : q < 24 := by
  subst_vars
  grind [mI, said2, fals2, bw2, ff2, xup_at, isTown_eq, isWeek_eq, isBank_eq, isNote_eq, isTrader_eq, in_0_1, in_0_2, in_1_999, xb, off2, f_X11_isFalse, f_X11_isGhost]
theorem ob_X11_worth_36_p2 (nb nn : Nat) (q : Int32) (town : Int32) (w : Int32) (M : xM) (hp0 : mI M) (M_1 : xM) (eM_1 : M_1 = xup M 40 0 0 0) (r_2 : Int32) (er_2 : r_2 = xb (f_X11_isNote q M_1)) (c_3 : ¬ r_2 = 0) (r_4 : Int32) (er_4 : r_4 = xb (f_X11_isTown town M_1)) (c_5 : ¬ r_4 = 0) (r_6 : Int32) (er_6 : r_6 = xb (f_X11_isWeek w M_1)) (c_7 : ¬ r_6 = 0) : 0 ≤ town := by
  subst_vars
  grind [mI, said2, fals2, bw2, ff2, xup_at, isTown_eq, isWeek_eq, isBank_eq, isNote_eq, isTrader_eq, in_0_1, in_0_2, in_1_999, xb, off2, f_X11_isFalse, f_X11_isGhost]
theorem ob_X11_worth_36_p3 (nb nn : Nat) (q : Int32) (town : Int32) (w : Int32) (M : xM) (hp0 : mI M) (M_1 : xM) (eM_1 : M_1 = xup M 40 0 0 0) (r_2 : Int32) (er_2 : r_2 = xb (f_X11_isNote q M_1)) (c_3 : ¬ r_2 = 0) (r_4 : Int32) (er_4 : r_4 = xb (f_X11_isTown town M_1)) (c_5 : ¬ r_4 = 0) (r_6 : Int32) (er_6 : r_6 = xb (f_X11_isWeek w M_1)) (c_7 : ¬ r_6 = 0) : town ≤ 5 := by
  subst_vars
  grind [mI, said2, fals2, bw2, ff2, xup_at, isTown_eq, isWeek_eq, isBank_eq, isNote_eq, isTrader_eq, in_0_1, in_0_2, in_1_999, xb, off2, f_X11_isFalse, f_X11_isGhost]
theorem ob_X11_worth_36_p4 (nb nn : Nat) (q : Int32) (town : Int32) (w : Int32) (M : xM) (hp0 : mI M) (M_1 : xM) (eM_1 : M_1 = xup M 40 0 0 0) (r_2 : Int32) (er_2 : r_2 = xb (f_X11_isNote q M_1)) (c_3 : ¬ r_2 = 0) (r_4 : Int32) (er_4 : r_4 = xb (f_X11_isTown town M_1)) (c_5 : ¬ r_4 = 0) (r_6 : Int32) (er_6 : r_6 = xb (f_X11_isWeek w M_1)) (c_7 : ¬ r_6 = 0) : mI M_1 := by
  subst_vars
  grind [mI, said2, fals2, bw2, ff2, xup_at, isTown_eq, isWeek_eq, isBank_eq, isNote_eq, isTrader_eq, in_0_1, in_0_2, in_1_999, xb, off2, f_X11_isFalse, f_X11_isGhost]
theorem ob_X11_markOf_39_p0 (nb nn : Nat) (q : Int32) (kd : Int32) (M : xM) (hp0 : 0 ≤ q) (hp1 : q < 24) (hp2 : 0 ≤ M 40 0 50) (c_1 : ¬ kd = 3) (r_2 : Int32) (er_2 : r_2 = xb (f_X11_isOf kd 2 M)) (c_3 : r_2 = 0) (c_4 : ¬ kd = 5) : 0 ≤ M 40 0 50 := by
  subst_vars
  grind [beg50, beg_o, xb]
theorem ob_X11_markOf_33_p0 (nb nn : Nat) (q : Int32) (kd : Int32) (M : xM) (hp0 : 0 ≤ q) (hp1 : q < 24) (hp2 : 0 ≤ M 40 0 50) (c_1 : ¬ kd = 3) (r_2 : Int32) (er_2 : r_2 = xb (f_X11_isOf kd 2 M)) (c_3 : r_2 = 0) (c_4 : kd = 5) : 0 ≤ M 40 0 50 := by
  subst_vars
  grind [beg50, beg_o, xb]
theorem ob_X11_markOf_39_p0_2 (nb nn : Nat) (q : Int32) (kd : Int32) (M : xM) (hp0 : 0 ≤ q) (hp1 : q < 24) (hp2 : 0 ≤ M 40 0 50) (c_1 : ¬ kd = 3) (r_2 : Int32) (er_2 : r_2 = xb (f_X11_isOf kd 2 M)) (c_3 : r_2 = 0) (c_4 : kd = 5) (M_15 : xM) (eM_15 : M_15 = f_X11_began 23 M) : 0 ≤ M_15 40 0 50 := by
  subst_vars
  grind [beg50, beg_o, xb]
theorem ob_X11_markOf_50_p0 (nb nn : Nat) (q : Int32) (kd : Int32) (M : xM) (hp0 : 0 ≤ q) (hp1 : q < 24) (hp2 : 0 ≤ M 40 0 50) (c_1 : ¬ kd = 3) (r_2 : Int32) (er_2 : r_2 = xb (f_X11_isOf kd 2 M)) (c_3 : r_2 = 0) (c_4 : kd = 5) (M_15 : xM) (eM_15 : M_15 = f_X11_began 23 M) (M_17 : xM) (eM_17 : M_17 = f_X11_began 20 M_15) : 0 ≤ M_17 40 0 50 := by
  subst_vars
  grind [beg50, beg_o, xb]
theorem ob_X11_markOf_95_in (nb nn : Nat) (q : Int32) (kd : Int32) (M : xM) (hp0 : 0 ≤ q) (hp1 : q < 24) (hp2 : 0 ≤ M 40 0 50) (c_1 : ¬ kd = 3) (r_2 : Int32) (er_2 : r_2 = xb (f_X11_isOf kd 2 M)) (c_3 : r_2 = 0) (c_4 : kd = 5) (M_15 : xM) (eM_15 : M_15 = f_X11_began 23 M) (M_17 : xM) (eM_17 : M_17 = f_X11_began 20 M_15) (M_20 : xM) (eM_20 : M_20 = f_X11_began 10 M_17) (r_21 : Int32) (er_21 : r_21 = xb (f_X11_isOf kd 2 M_20)) (c_22 : r_21 = 0) : vp_in q 24 := by
  subst_vars
  exact xin (N := 24) (by grind [beg50, beg_o, xb]) (by grind [beg50, beg_o, xb]) (by decide)
theorem ob_X11_markOf_95_in_2 (nb nn : Nat) (q : Int32) (kd : Int32) (M : xM) (hp0 : 0 ≤ q) (hp1 : q < 24) (hp2 : 0 ≤ M 40 0 50) (c_1 : ¬ kd = 3) (r_2 : Int32) (er_2 : r_2 = xb (f_X11_isOf kd 2 M)) (c_3 : r_2 = 0) (c_4 : kd = 5) (M_15 : xM) (eM_15 : M_15 = f_X11_began 23 M) (M_17 : xM) (eM_17 : M_17 = f_X11_began 20 M_15) (M_20 : xM) (eM_20 : M_20 = f_X11_began 10 M_17) (r_21 : Int32) (er_21 : r_21 = xb (f_X11_isOf kd 2 M_20)) (c_22 : ¬ r_21 = 0) : vp_in q 24 := by
  subst_vars
  exact xin (N := 24) (by grind [beg50, beg_o, xb]) (by grind [beg50, beg_o, xb]) (by decide)
theorem ob_X11_markOf_22_p0 (nb nn : Nat) (q : Int32) (kd : Int32) (M : xM) (hp0 : 0 ≤ q) (hp1 : q < 24) (hp2 : 0 ≤ M 40 0 50) (c_1 : ¬ kd = 3) (r_2 : Int32) (er_2 : r_2 = xb (f_X11_isOf kd 2 M)) (c_3 : ¬ r_2 = 0) : 0 ≤ M 40 0 50 := by
  subst_vars
  grind [beg50, beg_o, xb]
theorem ob_X11_markOf_39_p0_3 (nb nn : Nat) (q : Int32) (kd : Int32) (M : xM) (hp0 : 0 ≤ q) (hp1 : q < 24) (hp2 : 0 ≤ M 40 0 50) (c_1 : ¬ kd = 3) (r_2 : Int32) (er_2 : r_2 = xb (f_X11_isOf kd 2 M)) (c_3 : ¬ r_2 = 0) (M_28 : xM) (eM_28 : M_28 = f_X11_began 21 M) (c_29 : ¬ kd = 5) : 0 ≤ M_28 40 0 50 := by
  subst_vars
  grind [beg50, beg_o, xb]
theorem ob_X11_markOf_33_p0_2 (nb nn : Nat) (q : Int32) (kd : Int32) (M : xM) (hp0 : 0 ≤ q) (hp1 : q < 24) (hp2 : 0 ≤ M 40 0 50) (c_1 : ¬ kd = 3) (r_2 : Int32) (er_2 : r_2 = xb (f_X11_isOf kd 2 M)) (c_3 : ¬ r_2 = 0) (M_28 : xM) (eM_28 : M_28 = f_X11_began 21 M) (c_29 : kd = 5) : 0 ≤ M_28 40 0 50 := by
  subst_vars
  grind [beg50, beg_o, xb]
theorem ob_X11_markOf_39_p0_4 (nb nn : Nat) (q : Int32) (kd : Int32) (M : xM) (hp0 : 0 ≤ q) (hp1 : q < 24) (hp2 : 0 ≤ M 40 0 50) (c_1 : ¬ kd = 3) (r_2 : Int32) (er_2 : r_2 = xb (f_X11_isOf kd 2 M)) (c_3 : ¬ r_2 = 0) (M_28 : xM) (eM_28 : M_28 = f_X11_began 21 M) (c_29 : kd = 5) (M_40 : xM) (eM_40 : M_40 = f_X11_began 23 M_28) : 0 ≤ M_40 40 0 50 := by
  subst_vars
  grind [beg50, beg_o, xb]
theorem ob_X11_markOf_50_p0_2 (nb nn : Nat) (q : Int32) (kd : Int32) (M : xM) (hp0 : 0 ≤ q) (hp1 : q < 24) (hp2 : 0 ≤ M 40 0 50) (c_1 : ¬ kd = 3) (r_2 : Int32) (er_2 : r_2 = xb (f_X11_isOf kd 2 M)) (c_3 : ¬ r_2 = 0) (M_28 : xM) (eM_28 : M_28 = f_X11_began 21 M) (c_29 : kd = 5) (M_40 : xM) (eM_40 : M_40 = f_X11_began 23 M_28) (M_42 : xM) (eM_42 : M_42 = f_X11_began 20 M_40) : 0 ≤ M_42 40 0 50 := by
  subst_vars
  grind [beg50, beg_o, xb]
theorem ob_X11_markOf_95_in_3 (nb nn : Nat) (q : Int32) (kd : Int32) (M : xM) (hp0 : 0 ≤ q) (hp1 : q < 24) (hp2 : 0 ≤ M 40 0 50) (c_1 : ¬ kd = 3) (r_2 : Int32) (er_2 : r_2 = xb (f_X11_isOf kd 2 M)) (c_3 : ¬ r_2 = 0) (M_28 : xM) (eM_28 : M_28 = f_X11_began 21 M) (c_29 : kd = 5) (M_40 : xM) (eM_40 : M_40 = f_X11_began 23 M_28) (M_42 : xM) (eM_42 : M_42 = f_X11_began 20 M_40) (M_45 : xM) (eM_45 : M_45 = f_X11_began 10 M_42) (r_46 : Int32) (er_46 : r_46 = xb (f_X11_isOf kd 2 M_45)) (c_47 : r_46 = 0) : vp_in q 24 := by
  subst_vars
  exact xin (N := 24) (by grind [beg50, beg_o, xb]) (by grind [beg50, beg_o, xb]) (by decide)
theorem ob_X11_markOf_95_in_4 (nb nn : Nat) (q : Int32) (kd : Int32) (M : xM) (hp0 : 0 ≤ q) (hp1 : q < 24) (hp2 : 0 ≤ M 40 0 50) (c_1 : ¬ kd = 3) (r_2 : Int32) (er_2 : r_2 = xb (f_X11_isOf kd 2 M)) (c_3 : ¬ r_2 = 0) (M_28 : xM) (eM_28 : M_28 = f_X11_began 21 M) (c_29 : kd = 5) (M_40 : xM) (eM_40 : M_40 = f_X11_began 23 M_28) (M_42 : xM) (eM_42 : M_42 = f_X11_began 20 M_40) (M_45 : xM) (eM_45 : M_45 = f_X11_began 10 M_42) (r_46 : Int32) (er_46 : r_46 = xb (f_X11_isOf kd 2 M_45)) (c_47 : ¬ r_46 = 0) : vp_in q 24 := by
  subst_vars
  exact xin (N := 24) (by grind [beg50, beg_o, xb]) (by grind [beg50, beg_o, xb]) (by decide)
theorem ob_X11_markOf_8_p0 (nb nn : Nat) (q : Int32) (kd : Int32) (M : xM) (hp0 : 0 ≤ q) (hp1 : q < 24) (hp2 : 0 ≤ M 40 0 50) (c_1 : kd = 3) : 0 ≤ M 40 0 50 := by
  subst_vars
  grind [beg50, beg_o, xb]
theorem ob_X11_markOf_39_p0_5 (nb nn : Nat) (q : Int32) (kd : Int32) (M : xM) (hp0 : 0 ≤ q) (hp1 : q < 24) (hp2 : 0 ≤ M 40 0 50) (c_1 : kd = 3) (M_53 : xM) (eM_53 : M_53 = f_X11_began 22 M) (r_54 : Int32) (er_54 : r_54 = xb (f_X11_isOf kd 2 M_53)) (c_55 : r_54 = 0) (c_56 : ¬ kd = 5) : 0 ≤ M_53 40 0 50 := by
  subst_vars
  grind [beg50, beg_o, xb]
theorem ob_X11_markOf_79_in (nb nn : Nat) (q : Int32) (kd : Int32) (M : xM) (hp0 : 0 ≤ q) (hp1 : q < 24) (hp2 : 0 ≤ M 40 0 50) (c_1 : kd = 3) (M_53 : xM) (eM_53 : M_53 = f_X11_began 22 M) (r_54 : Int32) (er_54 : r_54 = xb (f_X11_isOf kd 2 M_53)) (c_55 : r_54 = 0) (c_56 : ¬ kd = 5) (M_58 : xM) (eM_58 : M_58 = f_X11_began 20 M_53) (r_60 : Int32) (er_60 : r_60 = xb (f_X11_isOf kd 2 M_58)) (c_61 : r_60 = 0) : vp_in q 24 := by
  subst_vars
  exact xin (N := 24) (by grind [beg50, beg_o, xb]) (by grind [beg50, beg_o, xb]) (by decide)
theorem ob_X11_markOf_79_in_2 (nb nn : Nat) (q : Int32) (kd : Int32) (M : xM) (hp0 : 0 ≤ q) (hp1 : q < 24) (hp2 : 0 ≤ M 40 0 50) (c_1 : kd = 3) (M_53 : xM) (eM_53 : M_53 = f_X11_began 22 M) (r_54 : Int32) (er_54 : r_54 = xb (f_X11_isOf kd 2 M_53)) (c_55 : r_54 = 0) (c_56 : ¬ kd = 5) (M_58 : xM) (eM_58 : M_58 = f_X11_began 20 M_53) (r_60 : Int32) (er_60 : r_60 = xb (f_X11_isOf kd 2 M_58)) (c_61 : ¬ r_60 = 0) : vp_in q 24 := by
  subst_vars
  exact xin (N := 24) (by grind [beg50, beg_o, xb]) (by grind [beg50, beg_o, xb]) (by decide)
theorem ob_X11_markOf_33_p0_3 (nb nn : Nat) (q : Int32) (kd : Int32) (M : xM) (hp0 : 0 ≤ q) (hp1 : q < 24) (hp2 : 0 ≤ M 40 0 50) (c_1 : kd = 3) (M_53 : xM) (eM_53 : M_53 = f_X11_began 22 M) (r_54 : Int32) (er_54 : r_54 = xb (f_X11_isOf kd 2 M_53)) (c_55 : r_54 = 0) (c_56 : kd = 5) : 0 ≤ M_53 40 0 50 := by
  subst_vars
  grind [beg50, beg_o, xb]
theorem ob_X11_markOf_39_p0_6 (nb nn : Nat) (q : Int32) (kd : Int32) (M : xM) (hp0 : 0 ≤ q) (hp1 : q < 24) (hp2 : 0 ≤ M 40 0 50) (c_1 : kd = 3) (M_53 : xM) (eM_53 : M_53 = f_X11_began 22 M) (r_54 : Int32) (er_54 : r_54 = xb (f_X11_isOf kd 2 M_53)) (c_55 : r_54 = 0) (c_56 : kd = 5) (M_67 : xM) (eM_67 : M_67 = f_X11_began 23 M_53) : 0 ≤ M_67 40 0 50 := by
  subst_vars
  grind [beg50, beg_o, xb]
theorem ob_X11_markOf_50_p0_3 (nb nn : Nat) (q : Int32) (kd : Int32) (M : xM) (hp0 : 0 ≤ q) (hp1 : q < 24) (hp2 : 0 ≤ M 40 0 50) (c_1 : kd = 3) (M_53 : xM) (eM_53 : M_53 = f_X11_began 22 M) (r_54 : Int32) (er_54 : r_54 = xb (f_X11_isOf kd 2 M_53)) (c_55 : r_54 = 0) (c_56 : kd = 5) (M_67 : xM) (eM_67 : M_67 = f_X11_began 23 M_53) (M_69 : xM) (eM_69 : M_69 = f_X11_began 20 M_67) : 0 ≤ M_69 40 0 50 := by
  subst_vars
  grind [beg50, beg_o, xb]
theorem ob_X11_markOf_79_in_3 (nb nn : Nat) (q : Int32) (kd : Int32) (M : xM) (hp0 : 0 ≤ q) (hp1 : q < 24) (hp2 : 0 ≤ M 40 0 50) (c_1 : kd = 3) (M_53 : xM) (eM_53 : M_53 = f_X11_began 22 M) (r_54 : Int32) (er_54 : r_54 = xb (f_X11_isOf kd 2 M_53)) (c_55 : r_54 = 0) (c_56 : kd = 5) (M_67 : xM) (eM_67 : M_67 = f_X11_began 23 M_53) (M_69 : xM) (eM_69 : M_69 = f_X11_began 20 M_67) (M_72 : xM) (eM_72 : M_72 = f_X11_began 10 M_69) (r_73 : Int32) (er_73 : r_73 = xb (f_X11_isOf kd 2 M_72)) (c_74 : r_73 = 0) : vp_in q 24 := by
  subst_vars
  exact xin (N := 24) (by grind [beg50, beg_o, xb]) (by grind [beg50, beg_o, xb]) (by decide)
theorem ob_X11_markOf_95_in_5 (nb nn : Nat) (q : Int32) (kd : Int32) (M : xM) (hp0 : 0 ≤ q) (hp1 : q < 24) (hp2 : 0 ≤ M 40 0 50) (c_1 : kd = 3) (M_53 : xM) (eM_53 : M_53 = f_X11_began 22 M) (r_54 : Int32) (er_54 : r_54 = xb (f_X11_isOf kd 2 M_53)) (c_55 : r_54 = 0) (c_56 : kd = 5) (M_67 : xM) (eM_67 : M_67 = f_X11_began 23 M_53) (M_69 : xM) (eM_69 : M_69 = f_X11_began 20 M_67) (M_72 : xM) (eM_72 : M_72 = f_X11_began 10 M_69) (r_73 : Int32) (er_73 : r_73 = xb (f_X11_isOf kd 2 M_72)) (c_74 : r_73 = 0) : vp_in q 24 := by
  subst_vars
  exact xin (N := 24) (by grind [beg50, beg_o, xb]) (by grind [beg50, beg_o, xb]) (by decide)
theorem ob_X11_markOf_79_in_4 (nb nn : Nat) (q : Int32) (kd : Int32) (M : xM) (hp0 : 0 ≤ q) (hp1 : q < 24) (hp2 : 0 ≤ M 40 0 50) (c_1 : kd = 3) (M_53 : xM) (eM_53 : M_53 = f_X11_began 22 M) (r_54 : Int32) (er_54 : r_54 = xb (f_X11_isOf kd 2 M_53)) (c_55 : r_54 = 0) (c_56 : kd = 5) (M_67 : xM) (eM_67 : M_67 = f_X11_began 23 M_53) (M_69 : xM) (eM_69 : M_69 = f_X11_began 20 M_67) (M_72 : xM) (eM_72 : M_72 = f_X11_began 10 M_69) (r_73 : Int32) (er_73 : r_73 = xb (f_X11_isOf kd 2 M_72)) (c_74 : ¬ r_73 = 0) : vp_in q 24 := by
  subst_vars
  exact xin (N := 24) (by grind [beg50, beg_o, xb]) (by grind [beg50, beg_o, xb]) (by decide)
theorem ob_X11_markOf_95_in_6 (nb nn : Nat) (q : Int32) (kd : Int32) (M : xM) (hp0 : 0 ≤ q) (hp1 : q < 24) (hp2 : 0 ≤ M 40 0 50) (c_1 : kd = 3) (M_53 : xM) (eM_53 : M_53 = f_X11_began 22 M) (r_54 : Int32) (er_54 : r_54 = xb (f_X11_isOf kd 2 M_53)) (c_55 : r_54 = 0) (c_56 : kd = 5) (M_67 : xM) (eM_67 : M_67 = f_X11_began 23 M_53) (M_69 : xM) (eM_69 : M_69 = f_X11_began 20 M_67) (M_72 : xM) (eM_72 : M_72 = f_X11_began 10 M_69) (r_73 : Int32) (er_73 : r_73 = xb (f_X11_isOf kd 2 M_72)) (c_74 : ¬ r_73 = 0) : vp_in q 24 := by
  subst_vars
  exact xin (N := 24) (by grind [beg50, beg_o, xb]) (by grind [beg50, beg_o, xb]) (by decide)
theorem ob_X11_markOf_22_p0_2 (nb nn : Nat) (q : Int32) (kd : Int32) (M : xM) (hp0 : 0 ≤ q) (hp1 : q < 24) (hp2 : 0 ≤ M 40 0 50) (c_1 : kd = 3) (M_53 : xM) (eM_53 : M_53 = f_X11_began 22 M) (r_54 : Int32) (er_54 : r_54 = xb (f_X11_isOf kd 2 M_53)) (c_55 : ¬ r_54 = 0) : 0 ≤ M_53 40 0 50 := by
  subst_vars
  grind [beg50, beg_o, xb]
theorem ob_X11_markOf_39_p0_7 (nb nn : Nat) (q : Int32) (kd : Int32) (M : xM) (hp0 : 0 ≤ q) (hp1 : q < 24) (hp2 : 0 ≤ M 40 0 50) (c_1 : kd = 3) (M_53 : xM) (eM_53 : M_53 = f_X11_began 22 M) (r_54 : Int32) (er_54 : r_54 = xb (f_X11_isOf kd 2 M_53)) (c_55 : ¬ r_54 = 0) (M_80 : xM) (eM_80 : M_80 = f_X11_began 21 M_53) (c_81 : ¬ kd = 5) : 0 ≤ M_80 40 0 50 := by
  subst_vars
  grind [beg50, beg_o, xb]
theorem ob_X11_markOf_79_in_5 (nb nn : Nat) (q : Int32) (kd : Int32) (M : xM) (hp0 : 0 ≤ q) (hp1 : q < 24) (hp2 : 0 ≤ M 40 0 50) (c_1 : kd = 3) (M_53 : xM) (eM_53 : M_53 = f_X11_began 22 M) (r_54 : Int32) (er_54 : r_54 = xb (f_X11_isOf kd 2 M_53)) (c_55 : ¬ r_54 = 0) (M_80 : xM) (eM_80 : M_80 = f_X11_began 21 M_53) (c_81 : ¬ kd = 5) (M_83 : xM) (eM_83 : M_83 = f_X11_began 20 M_80) (r_85 : Int32) (er_85 : r_85 = xb (f_X11_isOf kd 2 M_83)) (c_86 : r_85 = 0) : vp_in q 24 := by
  subst_vars
  exact xin (N := 24) (by grind [beg50, beg_o, xb]) (by grind [beg50, beg_o, xb]) (by decide)
theorem ob_X11_markOf_79_in_6 (nb nn : Nat) (q : Int32) (kd : Int32) (M : xM) (hp0 : 0 ≤ q) (hp1 : q < 24) (hp2 : 0 ≤ M 40 0 50) (c_1 : kd = 3) (M_53 : xM) (eM_53 : M_53 = f_X11_began 22 M) (r_54 : Int32) (er_54 : r_54 = xb (f_X11_isOf kd 2 M_53)) (c_55 : ¬ r_54 = 0) (M_80 : xM) (eM_80 : M_80 = f_X11_began 21 M_53) (c_81 : ¬ kd = 5) (M_83 : xM) (eM_83 : M_83 = f_X11_began 20 M_80) (r_85 : Int32) (er_85 : r_85 = xb (f_X11_isOf kd 2 M_83)) (c_86 : ¬ r_85 = 0) : vp_in q 24 := by
  subst_vars
  exact xin (N := 24) (by grind [beg50, beg_o, xb]) (by grind [beg50, beg_o, xb]) (by decide)
theorem ob_X11_markOf_33_p0_4 (nb nn : Nat) (q : Int32) (kd : Int32) (M : xM) (hp0 : 0 ≤ q) (hp1 : q < 24) (hp2 : 0 ≤ M 40 0 50) (c_1 : kd = 3) (M_53 : xM) (eM_53 : M_53 = f_X11_began 22 M) (r_54 : Int32) (er_54 : r_54 = xb (f_X11_isOf kd 2 M_53)) (c_55 : ¬ r_54 = 0) (M_80 : xM) (eM_80 : M_80 = f_X11_began 21 M_53) (c_81 : kd = 5) : 0 ≤ M_80 40 0 50 := by
  subst_vars
  grind [beg50, beg_o, xb]
theorem ob_X11_markOf_39_p0_8 (nb nn : Nat) (q : Int32) (kd : Int32) (M : xM) (hp0 : 0 ≤ q) (hp1 : q < 24) (hp2 : 0 ≤ M 40 0 50) (c_1 : kd = 3) (M_53 : xM) (eM_53 : M_53 = f_X11_began 22 M) (r_54 : Int32) (er_54 : r_54 = xb (f_X11_isOf kd 2 M_53)) (c_55 : ¬ r_54 = 0) (M_80 : xM) (eM_80 : M_80 = f_X11_began 21 M_53) (c_81 : kd = 5) (M_92 : xM) (eM_92 : M_92 = f_X11_began 23 M_80) : 0 ≤ M_92 40 0 50 := by
  subst_vars
  grind [beg50, beg_o, xb]
theorem ob_X11_markOf_50_p0_4 (nb nn : Nat) (q : Int32) (kd : Int32) (M : xM) (hp0 : 0 ≤ q) (hp1 : q < 24) (hp2 : 0 ≤ M 40 0 50) (c_1 : kd = 3) (M_53 : xM) (eM_53 : M_53 = f_X11_began 22 M) (r_54 : Int32) (er_54 : r_54 = xb (f_X11_isOf kd 2 M_53)) (c_55 : ¬ r_54 = 0) (M_80 : xM) (eM_80 : M_80 = f_X11_began 21 M_53) (c_81 : kd = 5) (M_92 : xM) (eM_92 : M_92 = f_X11_began 23 M_80) (M_94 : xM) (eM_94 : M_94 = f_X11_began 20 M_92) : 0 ≤ M_94 40 0 50 := by
  subst_vars
  grind [beg50, beg_o, xb]
theorem ob_X11_markOf_79_in_7 (nb nn : Nat) (q : Int32) (kd : Int32) (M : xM) (hp0 : 0 ≤ q) (hp1 : q < 24) (hp2 : 0 ≤ M 40 0 50) (c_1 : kd = 3) (M_53 : xM) (eM_53 : M_53 = f_X11_began 22 M) (r_54 : Int32) (er_54 : r_54 = xb (f_X11_isOf kd 2 M_53)) (c_55 : ¬ r_54 = 0) (M_80 : xM) (eM_80 : M_80 = f_X11_began 21 M_53) (c_81 : kd = 5) (M_92 : xM) (eM_92 : M_92 = f_X11_began 23 M_80) (M_94 : xM) (eM_94 : M_94 = f_X11_began 20 M_92) (M_97 : xM) (eM_97 : M_97 = f_X11_began 10 M_94) (r_98 : Int32) (er_98 : r_98 = xb (f_X11_isOf kd 2 M_97)) (c_99 : r_98 = 0) : vp_in q 24 := by
  subst_vars
  exact xin (N := 24) (by grind [beg50, beg_o, xb]) (by grind [beg50, beg_o, xb]) (by decide)
theorem ob_X11_markOf_95_in_7 (nb nn : Nat) (q : Int32) (kd : Int32) (M : xM) (hp0 : 0 ≤ q) (hp1 : q < 24) (hp2 : 0 ≤ M 40 0 50) (c_1 : kd = 3) (M_53 : xM) (eM_53 : M_53 = f_X11_began 22 M) (r_54 : Int32) (er_54 : r_54 = xb (f_X11_isOf kd 2 M_53)) (c_55 : ¬ r_54 = 0) (M_80 : xM) (eM_80 : M_80 = f_X11_began 21 M_53) (c_81 : kd = 5) (M_92 : xM) (eM_92 : M_92 = f_X11_began 23 M_80) (M_94 : xM) (eM_94 : M_94 = f_X11_began 20 M_92) (M_97 : xM) (eM_97 : M_97 = f_X11_began 10 M_94) (r_98 : Int32) (er_98 : r_98 = xb (f_X11_isOf kd 2 M_97)) (c_99 : r_98 = 0) : vp_in q 24 := by
  subst_vars
  exact xin (N := 24) (by grind [beg50, beg_o, xb]) (by grind [beg50, beg_o, xb]) (by decide)
theorem ob_X11_markOf_79_in_8 (nb nn : Nat) (q : Int32) (kd : Int32) (M : xM) (hp0 : 0 ≤ q) (hp1 : q < 24) (hp2 : 0 ≤ M 40 0 50) (c_1 : kd = 3) (M_53 : xM) (eM_53 : M_53 = f_X11_began 22 M) (r_54 : Int32) (er_54 : r_54 = xb (f_X11_isOf kd 2 M_53)) (c_55 : ¬ r_54 = 0) (M_80 : xM) (eM_80 : M_80 = f_X11_began 21 M_53) (c_81 : kd = 5) (M_92 : xM) (eM_92 : M_92 = f_X11_began 23 M_80) (M_94 : xM) (eM_94 : M_94 = f_X11_began 20 M_92) (M_97 : xM) (eM_97 : M_97 = f_X11_began 10 M_94) (r_98 : Int32) (er_98 : r_98 = xb (f_X11_isOf kd 2 M_97)) (c_99 : ¬ r_98 = 0) : vp_in q 24 := by
  subst_vars
  exact xin (N := 24) (by grind [beg50, beg_o, xb]) (by grind [beg50, beg_o, xb]) (by decide)
theorem ob_X11_markOf_95_in_8 (nb nn : Nat) (q : Int32) (kd : Int32) (M : xM) (hp0 : 0 ≤ q) (hp1 : q < 24) (hp2 : 0 ≤ M 40 0 50) (c_1 : kd = 3) (M_53 : xM) (eM_53 : M_53 = f_X11_began 22 M) (r_54 : Int32) (er_54 : r_54 = xb (f_X11_isOf kd 2 M_53)) (c_55 : ¬ r_54 = 0) (M_80 : xM) (eM_80 : M_80 = f_X11_began 21 M_53) (c_81 : kd = 5) (M_92 : xM) (eM_92 : M_92 = f_X11_began 23 M_80) (M_94 : xM) (eM_94 : M_94 = f_X11_began 20 M_92) (M_97 : xM) (eM_97 : M_97 = f_X11_began 10 M_94) (r_98 : Int32) (er_98 : r_98 = xb (f_X11_isOf kd 2 M_97)) (c_99 : ¬ r_98 = 0) : vp_in q 24 := by
  subst_vars
  exact xin (N := 24) (by grind [beg50, beg_o, xb]) (by grind [beg50, beg_o, xb]) (by decide)
theorem ob_X11_sizeOf_69_p0 (nb nn : Nat) (q : Int32) (kd : Int32) (M : xM) (hp0 : 0 ≤ q) (hp1 : q < 24) (hp2 : 0 ≤ M 40 0 50) (r_1 : Int32) (er_1 : r_1 = xb (f_X11_isOf kd 2 M)) (c_2 : r_1 = 0) (c_3 : kd = 1) : 0 ≤ M 40 0 50 := by
  subst_vars
  grind [beg50, beg_o, xb]
theorem ob_X11_sizeOf_75_p0 (nb nn : Nat) (q : Int32) (kd : Int32) (M : xM) (hp0 : 0 ≤ q) (hp1 : q < 24) (hp2 : 0 ≤ M 40 0 50) (r_1 : Int32) (er_1 : r_1 = xb (f_X11_isOf kd 2 M)) (c_2 : r_1 = 0) (c_3 : kd = 1) (M_6 : xM) (eM_6 : M_6 = f_X11_began 11 M) : 0 ≤ M_6 40 0 50 := by
  subst_vars
  grind [beg50, beg_o, xb]
theorem ob_X11_sizeOf_88_in (nb nn : Nat) (q : Int32) (kd : Int32) (M : xM) (hp0 : 0 ≤ q) (hp1 : q < 24) (hp2 : 0 ≤ M 40 0 50) (r_1 : Int32) (er_1 : r_1 = xb (f_X11_isOf kd 2 M)) (c_2 : r_1 = 0) (c_3 : kd = 1) (M_6 : xM) (eM_6 : M_6 = f_X11_began 11 M) (M_8 : xM) (eM_8 : M_8 = f_X11_began 10 M_6) : vp_in q 24 := by
  subst_vars
  exact xin (N := 24) (by grind [beg50, beg_o, xb]) (by grind [beg50, beg_o, xb]) (by decide)
theorem ob_X11_sizeOf_94_in (nb nn : Nat) (q : Int32) (kd : Int32) (M : xM) (hp0 : 0 ≤ q) (hp1 : q < 24) (hp2 : 0 ≤ M 40 0 50) (r_1 : Int32) (er_1 : r_1 = xb (f_X11_isOf kd 2 M)) (c_2 : r_1 = 0) (c_3 : kd = 1) (M_6 : xM) (eM_6 : M_6 = f_X11_began 11 M) (M_8 : xM) (eM_8 : M_8 = f_X11_began 10 M_6) : vp_in q 24 := by
  subst_vars
  exact xin (N := 24) (by grind [beg50, beg_o, xb]) (by grind [beg50, beg_o, xb]) (by decide)
theorem ob_X11_sizeOf_75_p0_2 (nb nn : Nat) (q : Int32) (kd : Int32) (M : xM) (hp0 : 0 ≤ q) (hp1 : q < 24) (hp2 : 0 ≤ M 40 0 50) (r_1 : Int32) (er_1 : r_1 = xb (f_X11_isOf kd 2 M)) (c_2 : r_1 = 0) (c_3 : ¬ kd = 1) (c_11 : ¬ kd = 4) : 0 ≤ M 40 0 50 := by
  subst_vars
  grind [beg50, beg_o, xb]
theorem ob_X11_sizeOf_123_in (nb nn : Nat) (q : Int32) (kd : Int32) (M : xM) (hp0 : 0 ≤ q) (hp1 : q < 24) (hp2 : 0 ≤ M 40 0 50) (r_1 : Int32) (er_1 : r_1 = xb (f_X11_isOf kd 2 M)) (c_2 : r_1 = 0) (c_3 : ¬ kd = 1) (c_11 : ¬ kd = 4) (M_13 : xM) (eM_13 : M_13 = f_X11_began 10 M) : vp_in q 24 := by
  subst_vars
  exact xin (N := 24) (by grind [beg50, beg_o, xb]) (by grind [beg50, beg_o, xb]) (by decide)
theorem ob_X11_sizeOf_69_p0_2 (nb nn : Nat) (q : Int32) (kd : Int32) (M : xM) (hp0 : 0 ≤ q) (hp1 : q < 24) (hp2 : 0 ≤ M 40 0 50) (r_1 : Int32) (er_1 : r_1 = xb (f_X11_isOf kd 2 M)) (c_2 : r_1 = 0) (c_3 : ¬ kd = 1) (c_11 : kd = 4) : 0 ≤ M 40 0 50 := by
  subst_vars
  grind [beg50, beg_o, xb]
theorem ob_X11_sizeOf_75_p0_3 (nb nn : Nat) (q : Int32) (kd : Int32) (M : xM) (hp0 : 0 ≤ q) (hp1 : q < 24) (hp2 : 0 ≤ M 40 0 50) (r_1 : Int32) (er_1 : r_1 = xb (f_X11_isOf kd 2 M)) (c_2 : r_1 = 0) (c_3 : ¬ kd = 1) (c_11 : kd = 4) (M_18 : xM) (eM_18 : M_18 = f_X11_began 14 M) : 0 ≤ M_18 40 0 50 := by
  subst_vars
  grind [beg50, beg_o, xb]
theorem ob_X11_sizeOf_112_in (nb nn : Nat) (q : Int32) (kd : Int32) (M : xM) (hp0 : 0 ≤ q) (hp1 : q < 24) (hp2 : 0 ≤ M 40 0 50) (r_1 : Int32) (er_1 : r_1 = xb (f_X11_isOf kd 2 M)) (c_2 : r_1 = 0) (c_3 : ¬ kd = 1) (c_11 : kd = 4) (M_18 : xM) (eM_18 : M_18 = f_X11_began 14 M) (M_20 : xM) (eM_20 : M_20 = f_X11_began 10 M_18) : vp_in q 24 := by
  subst_vars
  exact xin (N := 24) (by grind [beg50, beg_o, xb]) (by grind [beg50, beg_o, xb]) (by decide)
theorem ob_X11_sizeOf_22_p0 (nb nn : Nat) (q : Int32) (kd : Int32) (M : xM) (hp0 : 0 ≤ q) (hp1 : q < 24) (hp2 : 0 ≤ M 40 0 50) (r_1 : Int32) (er_1 : r_1 = xb (f_X11_isOf kd 2 M)) (c_2 : ¬ r_1 = 0) (c_23 : ¬ kd = 3) : 0 ≤ M 40 0 50 := by
  subst_vars
  grind [beg50, beg_o, xb]
theorem ob_X11_sizeOf_28_p0 (nb nn : Nat) (q : Int32) (kd : Int32) (M : xM) (hp0 : 0 ≤ q) (hp1 : q < 24) (hp2 : 0 ≤ M 40 0 50) (r_1 : Int32) (er_1 : r_1 = xb (f_X11_isOf kd 2 M)) (c_2 : ¬ r_1 = 0) (c_23 : ¬ kd = 3) (M_25 : xM) (eM_25 : M_25 = f_X11_began 12 M) : 0 ≤ q := by
  subst_vars
  grind [beg50, beg_o, xb]
theorem ob_X11_sizeOf_28_p1 (nb nn : Nat) (q : Int32) (kd : Int32) (M : xM) (hp0 : 0 ≤ q) (hp1 : q < 24) (hp2 : 0 ≤ M 40 0 50) (r_1 : Int32) (er_1 : r_1 = xb (f_X11_isOf kd 2 M)) (c_2 : ¬ r_1 = 0) (c_23 : ¬ kd = 3) (M_25 : xM) (eM_25 : M_25 = f_X11_began 12 M) : q < 24 := by
  subst_vars
  grind [beg50, beg_o, xb]
theorem ob_X11_sizeOf_28_p2 (nb nn : Nat) (q : Int32) (kd : Int32) (M : xM) (hp0 : 0 ≤ q) (hp1 : q < 24) (hp2 : 0 ≤ M 40 0 50) (r_1 : Int32) (er_1 : r_1 = xb (f_X11_isOf kd 2 M)) (c_2 : ¬ r_1 = 0) (c_23 : ¬ kd = 3) (M_25 : xM) (eM_25 : M_25 = f_X11_began 12 M) : 0 ≤ M_25 40 0 50 := by
  subst_vars
  grind [beg50, beg_o, xb]
theorem ob_X11_sizeOf_16_p0 (nb nn : Nat) (q : Int32) (kd : Int32) (M : xM) (hp0 : 0 ≤ q) (hp1 : q < 24) (hp2 : 0 ≤ M 40 0 50) (r_1 : Int32) (er_1 : r_1 = xb (f_X11_isOf kd 2 M)) (c_2 : ¬ r_1 = 0) (c_23 : kd = 3) : 0 ≤ M 40 0 50 := by
  subst_vars
  grind [beg50, beg_o, xb]
theorem ob_X11_sizeOf_22_p0_2 (nb nn : Nat) (q : Int32) (kd : Int32) (M : xM) (hp0 : 0 ≤ q) (hp1 : q < 24) (hp2 : 0 ≤ M 40 0 50) (r_1 : Int32) (er_1 : r_1 = xb (f_X11_isOf kd 2 M)) (c_2 : ¬ r_1 = 0) (c_23 : kd = 3) (M_31 : xM) (eM_31 : M_31 = f_X11_began 13 M) : 0 ≤ M_31 40 0 50 := by
  subst_vars
  grind [beg50, beg_o, xb]
theorem ob_X11_sizeOf_28_p0_2 (nb nn : Nat) (q : Int32) (kd : Int32) (M : xM) (hp0 : 0 ≤ q) (hp1 : q < 24) (hp2 : 0 ≤ M 40 0 50) (r_1 : Int32) (er_1 : r_1 = xb (f_X11_isOf kd 2 M)) (c_2 : ¬ r_1 = 0) (c_23 : kd = 3) (M_31 : xM) (eM_31 : M_31 = f_X11_began 13 M) (M_33 : xM) (eM_33 : M_33 = f_X11_began 12 M_31) : 0 ≤ q := by
  subst_vars
  grind [beg50, beg_o, xb]
theorem ob_X11_sizeOf_28_p1_2 (nb nn : Nat) (q : Int32) (kd : Int32) (M : xM) (hp0 : 0 ≤ q) (hp1 : q < 24) (hp2 : 0 ≤ M 40 0 50) (r_1 : Int32) (er_1 : r_1 = xb (f_X11_isOf kd 2 M)) (c_2 : ¬ r_1 = 0) (c_23 : kd = 3) (M_31 : xM) (eM_31 : M_31 = f_X11_began 13 M) (M_33 : xM) (eM_33 : M_33 = f_X11_began 12 M_31) : q < 24 := by
  subst_vars
  grind [beg50, beg_o, xb]
theorem ob_X11_sizeOf_28_p2_2 (nb nn : Nat) (q : Int32) (kd : Int32) (M : xM) (hp0 : 0 ≤ q) (hp1 : q < 24) (hp2 : 0 ≤ M 40 0 50) (r_1 : Int32) (er_1 : r_1 = xb (f_X11_isOf kd 2 M)) (c_2 : ¬ r_1 = 0) (c_23 : kd = 3) (M_31 : xM) (eM_31 : M_31 = f_X11_began 13 M) (M_33 : xM) (eM_33 : M_33 = f_X11_began 12 M_31) : 0 ≤ M_33 40 0 50 := by
  subst_vars
  grind [beg50, beg_o, xb]
theorem ob_X11_ask_52_p0 (nb nn : Nat) (q : Int32) (what : Int32) (M : xM) (hp0 : mI M) (M_1 : xM) (eM_1 : M_1 = xup M 40 0 0 0) (r_2 : Int32) (er_2 : r_2 = xb (f_X11_isNote q M_1)) (c_3 : ¬ r_2 = 0) (r_4 : Int32) (er_4 : r_4 = xb (f_X11_in (what.toInt64) 0 1 M_1)) (c_5 : ¬ r_4 = 0) (M_6 : xM) (eM_6 : M_6 = xup M_1 40 0 50 0) (c_7 : ¬ what = 0) : 0 ≤ q := by
  subst_vars
  grind [mI, xup_at, isNote_eq, in_0_1, xb]
theorem ob_X11_ask_52_p1 (nb nn : Nat) (q : Int32) (what : Int32) (M : xM) (hp0 : mI M) (M_1 : xM) (eM_1 : M_1 = xup M 40 0 0 0) (r_2 : Int32) (er_2 : r_2 = xb (f_X11_isNote q M_1)) (c_3 : ¬ r_2 = 0) (r_4 : Int32) (er_4 : r_4 = xb (f_X11_in (what.toInt64) 0 1 M_1)) (c_5 : ¬ r_4 = 0) (M_6 : xM) (eM_6 : M_6 = xup M_1 40 0 50 0) (c_7 : ¬ what = 0) : q < 24 := by
  subst_vars
  grind [mI, xup_at, isNote_eq, in_0_1, xb]
theorem ob_X11_ask_52_p2 (nb nn : Nat) (q : Int32) (what : Int32) (M : xM) (hp0 : mI M) (M_1 : xM) (eM_1 : M_1 = xup M 40 0 0 0) (r_2 : Int32) (er_2 : r_2 = xb (f_X11_isNote q M_1)) (c_3 : ¬ r_2 = 0) (r_4 : Int32) (er_4 : r_4 = xb (f_X11_in (what.toInt64) 0 1 M_1)) (c_5 : ¬ r_4 = 0) (M_6 : xM) (eM_6 : M_6 = xup M_1 40 0 50 0) (c_7 : ¬ what = 0) : M_6 40 0 7 ≤ 8 := by
  subst_vars
  grind [mI, xup_at, isNote_eq, in_0_1, xb]
theorem ob_X11_ask_52_p3 (nb nn : Nat) (q : Int32) (what : Int32) (M : xM) (hp0 : mI M) (M_1 : xM) (eM_1 : M_1 = xup M 40 0 0 0) (r_2 : Int32) (er_2 : r_2 = xb (f_X11_isNote q M_1)) (c_3 : ¬ r_2 = 0) (r_4 : Int32) (er_4 : r_4 = xb (f_X11_in (what.toInt64) 0 1 M_1)) (c_5 : ¬ r_4 = 0) (M_6 : xM) (eM_6 : M_6 = xup M_1 40 0 50 0) (c_7 : ¬ what = 0) : ∀ j : Nat, 0 ≤ M_6 81 0 j := by
  subst_vars
  grind [mI, xup_at, isNote_eq, in_0_1, xb]
theorem ob_X11_ask_55_p0 (nb nn : Nat) (q : Int32) (what : Int32) (M : xM) (hp0 : mI M) (M_1 : xM) (eM_1 : M_1 = xup M 40 0 0 0) (r_2 : Int32) (er_2 : r_2 = xb (f_X11_isNote q M_1)) (c_3 : ¬ r_2 = 0) (r_4 : Int32) (er_4 : r_4 = xb (f_X11_in (what.toInt64) 0 1 M_1)) (c_5 : ¬ r_4 = 0) (M_6 : xM) (eM_6 : M_6 = xup M_1 40 0 50 0) (c_7 : ¬ what = 0) (r_8 : Int32) (er_8 : r_8 = f_X11_kindOf q M_6) : 0 ≤ q := by
  subst_vars
  grind [mI, xup_at, isNote_eq, in_0_1, xb]
theorem ob_X11_ask_55_p1 (nb nn : Nat) (q : Int32) (what : Int32) (M : xM) (hp0 : mI M) (M_1 : xM) (eM_1 : M_1 = xup M 40 0 0 0) (r_2 : Int32) (er_2 : r_2 = xb (f_X11_isNote q M_1)) (c_3 : ¬ r_2 = 0) (r_4 : Int32) (er_4 : r_4 = xb (f_X11_in (what.toInt64) 0 1 M_1)) (c_5 : ¬ r_4 = 0) (M_6 : xM) (eM_6 : M_6 = xup M_1 40 0 50 0) (c_7 : ¬ what = 0) (r_8 : Int32) (er_8 : r_8 = f_X11_kindOf q M_6) : q < 24 := by
  subst_vars
  grind [mI, xup_at, isNote_eq, in_0_1, xb]
theorem ob_X11_ask_55_p2 (nb nn : Nat) (q : Int32) (what : Int32) (M : xM) (hp0 : mI M) (M_1 : xM) (eM_1 : M_1 = xup M 40 0 0 0) (r_2 : Int32) (er_2 : r_2 = xb (f_X11_isNote q M_1)) (c_3 : ¬ r_2 = 0) (r_4 : Int32) (er_4 : r_4 = xb (f_X11_in (what.toInt64) 0 1 M_1)) (c_5 : ¬ r_4 = 0) (M_6 : xM) (eM_6 : M_6 = xup M_1 40 0 50 0) (c_7 : ¬ what = 0) (r_8 : Int32) (er_8 : r_8 = f_X11_kindOf q M_6) : 0 ≤ M_6 40 0 50 := by
  subst_vars
  grind [mI, xup_at, isNote_eq, in_0_1, xb]
theorem ob_X11_ask_39_p0 (nb nn : Nat) (q : Int32) (what : Int32) (M : xM) (hp0 : mI M) (M_1 : xM) (eM_1 : M_1 = xup M 40 0 0 0) (r_2 : Int32) (er_2 : r_2 = xb (f_X11_isNote q M_1)) (c_3 : ¬ r_2 = 0) (r_4 : Int32) (er_4 : r_4 = xb (f_X11_in (what.toInt64) 0 1 M_1)) (c_5 : ¬ r_4 = 0) (M_6 : xM) (eM_6 : M_6 = xup M_1 40 0 50 0) (c_7 : what = 0) : 0 ≤ q := by
  subst_vars
  grind [mI, xup_at, isNote_eq, in_0_1, xb]
theorem ob_X11_ask_39_p1 (nb nn : Nat) (q : Int32) (what : Int32) (M : xM) (hp0 : mI M) (M_1 : xM) (eM_1 : M_1 = xup M 40 0 0 0) (r_2 : Int32) (er_2 : r_2 = xb (f_X11_isNote q M_1)) (c_3 : ¬ r_2 = 0) (r_4 : Int32) (er_4 : r_4 = xb (f_X11_in (what.toInt64) 0 1 M_1)) (c_5 : ¬ r_4 = 0) (M_6 : xM) (eM_6 : M_6 = xup M_1 40 0 50 0) (c_7 : what = 0) : q < 24 := by
  subst_vars
  grind [mI, xup_at, isNote_eq, in_0_1, xb]
theorem ob_X11_ask_39_p2 (nb nn : Nat) (q : Int32) (what : Int32) (M : xM) (hp0 : mI M) (M_1 : xM) (eM_1 : M_1 = xup M 40 0 0 0) (r_2 : Int32) (er_2 : r_2 = xb (f_X11_isNote q M_1)) (c_3 : ¬ r_2 = 0) (r_4 : Int32) (er_4 : r_4 = xb (f_X11_in (what.toInt64) 0 1 M_1)) (c_5 : ¬ r_4 = 0) (M_6 : xM) (eM_6 : M_6 = xup M_1 40 0 50 0) (c_7 : what = 0) : M_6 40 0 7 ≤ 8 := by
  subst_vars
  grind [mI, xup_at, isNote_eq, in_0_1, xb]
theorem ob_X11_ask_39_p3 (nb nn : Nat) (q : Int32) (what : Int32) (M : xM) (hp0 : mI M) (M_1 : xM) (eM_1 : M_1 = xup M 40 0 0 0) (r_2 : Int32) (er_2 : r_2 = xb (f_X11_isNote q M_1)) (c_3 : ¬ r_2 = 0) (r_4 : Int32) (er_4 : r_4 = xb (f_X11_in (what.toInt64) 0 1 M_1)) (c_5 : ¬ r_4 = 0) (M_6 : xM) (eM_6 : M_6 = xup M_1 40 0 50 0) (c_7 : what = 0) : ∀ j : Nat, 0 ≤ M_6 81 0 j := by
  subst_vars
  grind [mI, xup_at, isNote_eq, in_0_1, xb]
theorem ob_X11_ask_42_p0 (nb nn : Nat) (q : Int32) (what : Int32) (M : xM) (hp0 : mI M) (M_1 : xM) (eM_1 : M_1 = xup M 40 0 0 0) (r_2 : Int32) (er_2 : r_2 = xb (f_X11_isNote q M_1)) (c_3 : ¬ r_2 = 0) (r_4 : Int32) (er_4 : r_4 = xb (f_X11_in (what.toInt64) 0 1 M_1)) (c_5 : ¬ r_4 = 0) (M_6 : xM) (eM_6 : M_6 = xup M_1 40 0 50 0) (c_7 : what = 0) (r_11 : Int32) (er_11 : r_11 = f_X11_kindOf q M_6) : 0 ≤ q := by
  subst_vars
  grind [mI, xup_at, isNote_eq, in_0_1, xb]
theorem ob_X11_ask_42_p1 (nb nn : Nat) (q : Int32) (what : Int32) (M : xM) (hp0 : mI M) (M_1 : xM) (eM_1 : M_1 = xup M 40 0 0 0) (r_2 : Int32) (er_2 : r_2 = xb (f_X11_isNote q M_1)) (c_3 : ¬ r_2 = 0) (r_4 : Int32) (er_4 : r_4 = xb (f_X11_in (what.toInt64) 0 1 M_1)) (c_5 : ¬ r_4 = 0) (M_6 : xM) (eM_6 : M_6 = xup M_1 40 0 50 0) (c_7 : what = 0) (r_11 : Int32) (er_11 : r_11 = f_X11_kindOf q M_6) : q < 24 := by
  subst_vars
  grind [mI, xup_at, isNote_eq, in_0_1, xb]
theorem ob_X11_ask_42_p2 (nb nn : Nat) (q : Int32) (what : Int32) (M : xM) (hp0 : mI M) (M_1 : xM) (eM_1 : M_1 = xup M 40 0 0 0) (r_2 : Int32) (er_2 : r_2 = xb (f_X11_isNote q M_1)) (c_3 : ¬ r_2 = 0) (r_4 : Int32) (er_4 : r_4 = xb (f_X11_in (what.toInt64) 0 1 M_1)) (c_5 : ¬ r_4 = 0) (M_6 : xM) (eM_6 : M_6 = xup M_1 40 0 50 0) (c_7 : what = 0) (r_11 : Int32) (er_11 : r_11 = f_X11_kindOf q M_6) : 0 ≤ M_6 40 0 50 := by
  subst_vars
  grind [mI, xup_at, isNote_eq, in_0_1, xb]
set_option maxHeartbeats 4000000 in
set_option maxRecDepth 100000 in
theorem c_X11_worthOf (l : Launch) (nb nn : Nat) (g : xG) (L : List (Nat × Nat)) (M : xM) (hD : xD g L) (hL : xEL nb nn L) (q : Int32) (town : Int32) (w : Int32) (hp0 : 0 ≤ q) (hp1 : q < 24) (hp2 : 0 ≤ town) (hp3 : town ≤ 5) (hp4 : mI M) : xCi l yX11_worthOf cX11_worthOf 8 (some .int) 4 g L M [.ref (xad g 40 0), .int q, .int town, .int w] (fun r u => (r, u) = f_X11_worthOf q town w M) := by
  intro sz
  refine x_beg (by decide +kernel) rfl ?_
  intro p e s m args below meth c ls hsz hB
  subst hsz
  obtain ⟨hx, hb, hml, hown, hts, hr, hlk, hK, hAm, hP, hl⟩ := hB
  have S : CallFix p m c cX11_worthOf 8 s args (xws yX11_worthOf cX11_worthOf 8 (some .int)) RX11 := ⟨hx, hb, hml, hown, hts⟩
  have hown : s.vm.findClass RX11 = some m.cls := hown
  have hl : lv_has ls 8 [(0, .ref (xad g 40 0)), (1, .int q), (2, .int town), (3, .int w)] := hl
  have hS : va_S (xA g L s.heap.size) s.heap s.heap [] := va_S.rf
  obtain ⟨F, hF⟩ : ∃ F, F = f_X11_worthOf q town w M := ⟨_, rfl⟩
  have hres := hF
  rw [f_X11_worthOf] at hres
  refine lv_aload_n hx hb dX11_worthOf_0 rfl (lv_at hl 0 rfl) ?_
  refine lv_iload_n hx hb dX11_worthOf_1 rfl (lv_at hl 1 rfl) ?_
  refine x_callVi (As := [.int q]) S hK hAm hD hP hS mt_X11_isFalse wd_764 ⟨by decide, by decide⟩ (hL 40 0 (xe_40 nb nn)) (xc40 g 0) rfl (c_X11_isFalse l nb nn g L M hD hL q (ob_X11_worthOf_2_p0 nb nn q town w M hp0 hp1 hp2 hp3 hp4) (ob_X11_worthOf_2_p1 nb nn q town w M hp0 hp1 hp2 hp3 hp4) (ob_X11_worthOf_2_p2 nb nn q town w M hp0 hp1 hp2 hp3 hp4) (ob_X11_worthOf_2_p3 nb nn q town w M hp0 hp1 hp2 hp3 hp4)) rfl hl.1 (Nat.le_of_ble_eq_true rfl) ⟨Nat.zero_le _, Nat.zero_le _⟩ dX11_worthOf_2 rfl (fun r_1 u H locs hp_ hP hS => ?_)
  obtain ⟨er_1, eu_⟩ := hp_
  rw [eu_] at hP
  clear eu_
  replace hres := xlet_n hres er_1
  refine lv_if_eq (tgt := 10) hx hb dX11_worthOf_5 (by decide) (fun c_2 => ?_) (fun c_2 => ?_)
  · replace hres := hres.trans (if_pos c_2)
    refine lv_aload_n hx hb dX11_worthOf_10 rfl (lv_at hl 0 rfl) ?_
    refine lv_iload_n hx hb dX11_worthOf_11 rfl (lv_at hl 2 rfl) ?_
    refine lv_iload_n hx hb dX11_worthOf_12 rfl (lv_at hl 3 rfl) ?_
    refine lv_aload_n hx hb dX11_worthOf_13 rfl (lv_at hl 0 rfl) ?_
    refine gf_RX11_56 hx hb hts hown hK hP (hL 40 0 (xe_40 nb nn)) dX11_worthOf_14 ?_
    refine lv_iload_n hx hb dX11_worthOf_17 rfl (lv_at hl 1 rfl) ?_
    refine x_iald hx hb hK hP (hL 81 0 (xe_81 nb nn)) (xc81 g 0) (ob_X11_worthOf_18_in nb nn q town w M hp0 hp1 hp2 hp3 hp4 r_1 er_1 c_2) dX11_worthOf_18 ?_
    refine lv_iconst (v := 2) hx hb dX11_worthOf_19 (by decide) ?_
    refine x_callVi (As := [.int town, .int w, .int (M 81 0 q.toNatClampNeg), .int 2]) S hK hAm hD hP hS mt_X11_saidOf wd_659 ⟨by decide, by decide⟩ (hL 40 0 (xe_40 nb nn)) (xc40 g 0) rfl (c_X11_saidOf l nb nn g L M hD hL town w (M 81 0 q.toNatClampNeg) 2 (ob_X11_worthOf_20_p0 nb nn q town w M hp0 hp1 hp2 hp3 hp4 r_1 er_1 c_2) (ob_X11_worthOf_20_p1 nb nn q town w M hp0 hp1 hp2 hp3 hp4 r_1 er_1 c_2) (ob_X11_worthOf_20_p2 nb nn q town w M hp0 hp1 hp2 hp3 hp4 r_1 er_1 c_2) (ob_X11_worthOf_20_p3 nb nn q town w M hp0 hp1 hp2 hp3 hp4 r_1 er_1 c_2)) rfl hl.1 (Nat.le_of_ble_eq_true rfl) ⟨Nat.zero_le _, Nat.zero_le _⟩ dX11_worthOf_20 rfl (fun r_3 M_4 H locs ep_ hP hS => ?_)
    replace hres := xlet2_n hres ep_
    have er_3 : r_3 = (f_X11_saidOf town w (M 81 0 q.toNatClampNeg) 2 M).1 := congrArg Prod.fst ep_
    have eM_4 : M_4 = (f_X11_saidOf town w (M 81 0 q.toNatClampNeg) 2 M).2 := congrArg Prod.snd ep_
    clear ep_
    refine lv_istore (lv' := [(4, .int r_3), (0, .ref (xad g 40 0)), (1, .int q), (2, .int town), (3, .int w)]) hx hb dX11_worthOf_23 hl (by decide) rfl (fun ls hl => ?_)
    refine lv_iload hx hb dX11_worthOf_25 (lv_at hl 0 rfl) ?_
    refine lv_ldc (own := RX11) (v := (-1000000)) hx hb hown (hts _ (List.mem_cons_of_mem _ wd_302)) dX11_worthOf_27 ?_
    refine lv_icmp_eq (tgt := 42) hx hb dX11_worthOf_29 (by decide) (fun c_5 => ?_) (fun c_5 => ?_)
    · replace hres := hres.trans (if_pos c_5)
      refine lv_aload_n hx hb dX11_worthOf_42 rfl (lv_at hl 1 rfl) ?_
      refine lv_iload_n hx hb dX11_worthOf_43 rfl (lv_at hl 3 rfl) ?_
      refine lv_iload_n hx hb dX11_worthOf_44 rfl (lv_at hl 4 rfl) ?_
      refine lv_aload_n hx hb dX11_worthOf_45 rfl (lv_at hl 1 rfl) ?_
      refine gf_RX11_56 hx hb hts hown hK hP (hL 40 0 (xe_40 nb nn)) dX11_worthOf_46 ?_
      refine lv_iload_n hx hb dX11_worthOf_49 rfl (lv_at hl 2 rfl) ?_
      refine x_iald hx hb hK hP (hL 81 0 (xe_81 nb nn)) (xc81 g 0) (ob_X11_worthOf_50_in nb nn q town w M hp0 hp1 hp2 hp3 hp4 r_1 er_1 c_2 r_3 M_4 er_3 eM_4 c_5) dX11_worthOf_50 ?_
      refine x_callVi (As := [.int town, .int w, .int (M_4 81 0 q.toNatClampNeg)]) S hK hAm hD hP hS mt_X11_offOf wd_655 ⟨by decide, by decide⟩ (hL 40 0 (xe_40 nb nn)) (xc40 g 0) rfl (c_X11_offOf l nb nn g L M_4 hD hL town w (M_4 81 0 q.toNatClampNeg) (ob_X11_worthOf_51_p0 nb nn q town w M hp0 hp1 hp2 hp3 hp4 r_1 er_1 c_2 r_3 M_4 er_3 eM_4 c_5) (ob_X11_worthOf_51_p1 nb nn q town w M hp0 hp1 hp2 hp3 hp4 r_1 er_1 c_2 r_3 M_4 er_3 eM_4 c_5) (ob_X11_worthOf_51_p2 nb nn q town w M hp0 hp1 hp2 hp3 hp4 r_1 er_1 c_2 r_3 M_4 er_3 eM_4 c_5)) rfl hl.1 (Nat.le_of_ble_eq_true rfl) ⟨Nat.zero_le _, Nat.zero_le _⟩ dX11_worthOf_51 rfl (fun r_6 M_7 H locs ep_ hP hS => ?_)
      replace hres := xlet2_n hres ep_
      have er_6 : r_6 = (f_X11_offOf town w (M_4 81 0 q.toNatClampNeg) M_4).1 := congrArg Prod.fst ep_
      have eM_7 : M_7 = (f_X11_offOf town w (M_4 81 0 q.toNatClampNeg) M_4).2 := congrArg Prod.snd ep_
      clear ep_
      refine lv_istore (lv' := [(5, .int r_6), (4, .int r_3), (0, .ref (xad g 40 0)), (1, .int q), (2, .int town), (3, .int w)]) hx hb dX11_worthOf_54 hl (by decide) rfl (fun ls hl => ?_)
      refine lv_aload_n hx hb dX11_worthOf_56 rfl (lv_at hl 2 rfl) ?_
      refine lv_iload_n hx hb dX11_worthOf_57 rfl (lv_at hl 4 rfl) ?_
      refine lv_aload_n hx hb dX11_worthOf_58 rfl (lv_at hl 2 rfl) ?_
      refine gf_RX11_25 hx hb hts hown hK hP (hL 40 0 (xe_40 nb nn)) dX11_worthOf_59 ?_
      refine lv_aload_n hx hb dX11_worthOf_62 rfl (lv_at hl 2 rfl) ?_
      refine gf_RX11_56 hx hb hts hown hK hP (hL 40 0 (xe_40 nb nn)) dX11_worthOf_63 ?_
      refine lv_iload_n hx hb dX11_worthOf_66 rfl (lv_at hl 3 rfl) ?_
      refine x_iald hx hb hK hP (hL 81 0 (xe_81 nb nn)) (xc81 g 0) (ob_X11_worthOf_67_in nb nn q town w M hp0 hp1 hp2 hp3 hp4 r_1 er_1 c_2 r_3 M_4 er_3 eM_4 c_5 r_6 M_7 er_6 eM_7) dX11_worthOf_67 ?_
      refine x_iald hx hb hK hP (hL 58 0 (xe_58 nb nn)) (xc58 g 0) (ob_X11_worthOf_68_in nb nn q town w M hp0 hp1 hp2 hp3 hp4 r_1 er_1 c_2 r_3 M_4 er_3 eM_4 c_5 r_6 M_7 er_6 eM_7) dX11_worthOf_68 ?_
      refine x_callVi (As := [.int town, .int (M_7 58 0 (M_7 81 0 q.toNatClampNeg).toNatClampNeg)]) S hK hAm hD hP hS mt_X11_farFrom wd_298 ⟨by decide, by decide⟩ (hL 40 0 (xe_40 nb nn)) (xc40 g 0) rfl (c_X11_farFrom l nb nn g L M_7 hD hL town (M_7 58 0 (M_7 81 0 q.toNatClampNeg).toNatClampNeg) (ob_X11_worthOf_69_p0 nb nn q town w M hp0 hp1 hp2 hp3 hp4 r_1 er_1 c_2 r_3 M_4 er_3 eM_4 c_5 r_6 M_7 er_6 eM_7) (ob_X11_worthOf_69_p1 nb nn q town w M hp0 hp1 hp2 hp3 hp4 r_1 er_1 c_2 r_3 M_4 er_3 eM_4 c_5 r_6 M_7 er_6 eM_7)) rfl hl.1 (Nat.le_of_ble_eq_true rfl) ⟨Nat.zero_le _, Nat.zero_le _⟩ dX11_worthOf_69 rfl (fun r_8 M_9 H locs ep_ hP hS => ?_)
      replace hres := xlet2_n hres ep_
      have er_8 : r_8 = (f_X11_farFrom town (M_7 58 0 (M_7 81 0 q.toNatClampNeg).toNatClampNeg) M_7).1 := congrArg Prod.fst ep_
      have eM_9 : M_9 = (f_X11_farFrom town (M_7 58 0 (M_7 81 0 q.toNatClampNeg).toNatClampNeg) M_7).2 := congrArg Prod.snd ep_
      clear ep_
      refine lv_istore (lv' := [(6, .int r_8), (5, .int r_6), (4, .int r_3), (0, .ref (xad g 40 0)), (1, .int q), (2, .int town), (3, .int w)]) hx hb dX11_worthOf_72 hl (by decide) rfl (fun ls hl => ?_)
      refine lv_iload hx hb dX11_worthOf_74 (lv_at hl 0 rfl) ?_
      refine lv_ldc (own := RX11) (v := (-1000000)) hx hb hown (hts _ (List.mem_cons_of_mem _ wd_302)) dX11_worthOf_76 ?_
      refine lv_icmp_ne (tgt := 85) hx hb dX11_worthOf_78 (by decide) (fun c_10 => ?_) (fun c_10 => ?_)
      · replace hres := hres.trans (if_neg c_10)
        refine lv_bipush (v := 100) hx hb dX11_worthOf_85 (by decide) ?_
        refine lv_iload hx hb dX11_worthOf_87 (lv_at hl 1 rfl) ?_
        refine lv_isub hx hb dX11_worthOf_89 ?_
        refine lv_iload hx hb dX11_worthOf_90 (lv_at hl 0 rfl) ?_
        refine lv_bipush (v := 20) hx hb dX11_worthOf_92 (by decide) ?_
        refine lv_idiv hx hb dX11_worthOf_94 (by decide) ?_
        refine lv_isub hx hb dX11_worthOf_95 ?_
        refine lv_topi (fun x7_11 ex7_11 => ?_)
        replace hres := xlet_n hres ex7_11
        refine lv_istore (lv' := [(7, .int x7_11), (6, .int r_8), (5, .int r_6), (4, .int r_3), (0, .ref (xad g 40 0)), (1, .int q), (2, .int town), (3, .int w)]) hx hb dX11_worthOf_96 hl (by decide) rfl (fun ls hl => ?_)
        refine lv_iload hx hb dX11_worthOf_98 (lv_at hl 0 rfl) ?_
        refine lv_if_le (tgt := 115) hx hb dX11_worthOf_100 (by decide) (fun c_12 => ?_) (fun c_12 => ?_)
        · replace hres := hres.trans (if_pos c_12)
          refine lv_iconst (v := 0) hx hb dX11_worthOf_115 (by decide) ?_
          exact x_reti hx hb hr hlk hP hS (hres.symm.trans hF) dX11_worthOf_116
        · replace hres := hres.trans (if_neg c_12)
          refine lv_aload_n hx hb dX11_worthOf_103 rfl (lv_at hl 4 rfl) ?_
          refine gf_RX11_59 hx hb hts hown hK hP (hL 40 0 (xe_40 nb nn)) dX11_worthOf_104 ?_
          refine lv_iload_n hx hb dX11_worthOf_107 rfl (lv_at hl 5 rfl) ?_
          refine x_iald hx hb hK hP (hL 82 0 (xe_82 nb nn)) (xc82 g 0) (ob_X11_worthOf_108_in nb nn q town w M hp0 hp1 hp2 hp3 hp4 r_1 er_1 c_2 r_3 M_4 er_3 eM_4 c_5 r_6 M_7 er_6 eM_7 r_8 M_9 er_8 eM_9 c_10 x7_11 ex7_11 c_12) dX11_worthOf_108 ?_
          refine lv_iload hx hb dX11_worthOf_109 (lv_at hl 0 rfl) ?_
          refine lv_imul hx hb dX11_worthOf_111 ?_
          refine lv_goto (tgt := 116) hx hb dX11_worthOf_112 (by decide) ?_
          exact x_reti hx hb hr hlk hP hS (hres.symm.trans hF) dX11_worthOf_116
      · replace hres := hres.trans (if_pos c_10)
        refine lv_iconst (v := 0) hx hb dX11_worthOf_81 (by decide) ?_
        refine lv_goto (tgt := 96) hx hb dX11_worthOf_82 (by decide) ?_
        refine lv_istore (lv' := [(7, .int 0), (6, .int r_8), (5, .int r_6), (4, .int r_3), (0, .ref (xad g 40 0)), (1, .int q), (2, .int town), (3, .int w)]) hx hb dX11_worthOf_96 hl (by decide) rfl (fun ls hl => ?_)
        refine lv_iload hx hb dX11_worthOf_98 (lv_at hl 0 rfl) ?_
        refine lv_if_le (tgt := 115) hx hb dX11_worthOf_100 (by decide) (fun c_13 => ?_) (fun c_13 => ?_)
        · clear c_13
          refine lv_iconst (v := 0) hx hb dX11_worthOf_115 (by decide) ?_
          exact x_reti hx hb hr hlk hP hS (hres.symm.trans hF) dX11_worthOf_116
        · exact absurd c_13 (by decide)
    · replace hres := hres.trans (if_neg c_5)
      refine lv_aload_n hx hb dX11_worthOf_32 rfl (lv_at hl 1 rfl) ?_
      refine gf_RX11_59 hx hb hts hown hK hP (hL 40 0 (xe_40 nb nn)) dX11_worthOf_33 ?_
      refine lv_iload_n hx hb dX11_worthOf_36 rfl (lv_at hl 2 rfl) ?_
      refine x_iald hx hb hK hP (hL 82 0 (xe_82 nb nn)) (xc82 g 0) (ob_X11_worthOf_37_in nb nn q town w M hp0 hp1 hp2 hp3 hp4 r_1 er_1 c_2 r_3 M_4 er_3 eM_4 c_5) dX11_worthOf_37 ?_
      refine lv_iload hx hb dX11_worthOf_38 (lv_at hl 0 rfl) ?_
      refine lv_imul hx hb dX11_worthOf_40 ?_
      exact x_reti hx hb hr hlk hP hS (hres.symm.trans hF) dX11_worthOf_41
  · replace hres := hres.trans (if_neg c_2)
    refine lv_iconst (v := 0) hx hb dX11_worthOf_8 (by decide) ?_
    exact x_reti hx hb hr hlk hP hS (hres.symm.trans hF) dX11_worthOf_9
set_option maxHeartbeats 4000000 in
set_option maxRecDepth 100000 in
theorem c_X11_worth (l : Launch) (nb nn : Nat) (g : xG) (L : List (Nat × Nat)) (M : xM) (hD : xD g L) (hL : xEL nb nn L) (q : Int32) (town : Int32) (w : Int32) (hp0 : mI M) : xCi l yX11_worth cX11_worth 4 (some .int) 5 g L M [.ref (xad g 40 0), .int q, .int town, .int w] (fun r u => (r, u) = f_X11_worth q town w M) := by
  intro sz
  refine x_beg (by decide +kernel) rfl ?_
  intro p e s m args below meth c ls hsz hB
  subst hsz
  obtain ⟨hx, hb, hml, hown, hts, hr, hlk, hK, hAm, hP, hl⟩ := hB
  have S : CallFix p m c cX11_worth 4 s args (xws yX11_worth cX11_worth 4 (some .int)) RX11 := ⟨hx, hb, hml, hown, hts⟩
  have hown : s.vm.findClass RX11 = some m.cls := hown
  have hl : lv_has ls 4 [(0, .ref (xad g 40 0)), (1, .int q), (2, .int town), (3, .int w)] := hl
  have hS : va_S (xA g L s.heap.size) s.heap s.heap [] := va_S.rf
  obtain ⟨F, hF⟩ : ∃ F, F = f_X11_worth q town w M := ⟨_, rfl⟩
  have hres := hF
  rw [f_X11_worth] at hres
  refine lv_aload_n hx hb dX11_worth_0 rfl (lv_at hl 0 rfl) ?_
  refine lv_iconst (v := 0) hx hb dX11_worth_1 (by decide) ?_
  refine pf_RX11_113 hx hb hts hown hK hP hD hS (hL 40 0 (xe_40 nb nn)) dX11_worth_2 (fun H locs hP hS => ?_)
  obtain ⟨M_1, eM_1⟩ : ∃ z_ : xM, z_ = xup M 40 0 0 0 := ⟨_, rfl⟩
  rw [← eM_1] at hP
  replace hres := xlet_n hres eM_1
  refine lv_aload_n hx hb dX11_worth_5 rfl (lv_at hl 0 rfl) ?_
  refine lv_iload_n hx hb dX11_worth_6 rfl (lv_at hl 1 rfl) ?_
  refine x_callVi (As := [.int q]) S hK hAm hD hP hS mt_X11_isNote wd_738 ⟨by decide, by decide⟩ (hL 40 0 (xe_40 nb nn)) (xc40 g 0) rfl (c_X11_isNote l nb nn g L M_1 hD hL q) rfl hl.1 (Nat.le_of_ble_eq_true rfl) ⟨Nat.zero_le _, Nat.zero_le _⟩ dX11_worth_7 rfl (fun r_2 u H locs hp_ hP hS => ?_)
  obtain ⟨er_2, eu_⟩ := hp_
  rw [eu_] at hP
  clear eu_
  replace hres := xlet_n hres er_2
  refine lv_if_eq (tgt := 27) hx hb dX11_worth_10 (by decide) (fun c_3 => ?_) (fun c_3 => ?_)
  · replace hres := hres.trans (if_pos c_3)
    refine lv_ldc (own := RX11) (v := (-1000001)) hx hb hown (hts _ (List.mem_cons_of_mem _ wd_202)) dX11_worth_27 ?_
    refine lv_goto (tgt := 39) hx hb dX11_worth_29 (by decide) ?_
    exact x_reti hx hb hr hlk hP hS (hres.symm.trans hF) dX11_worth_39
  · replace hres := hres.trans (if_neg c_3)
    refine lv_iload_n hx hb dX11_worth_13 rfl (lv_at hl 2 rfl) ?_
    refine x_callSi (As := [.int town]) S hK hAm hD hP hS mt_X11_isTown wd_281 ⟨by decide, by decide⟩ (c_X11_isTown l nb nn g L M_1 hD hL town) rfl hl.1 (Nat.le_of_ble_eq_true rfl) ⟨Nat.zero_le _, Nat.zero_le _⟩ dX11_worth_14 rfl (fun r_4 u H locs hp_ hP hS => ?_)
    obtain ⟨er_4, eu_⟩ := hp_
    rw [eu_] at hP
    clear eu_
    replace hres := xlet_n hres er_4
    refine lv_if_eq (tgt := 27) hx hb dX11_worth_17 (by decide) (fun c_5 => ?_) (fun c_5 => ?_)
    · replace hres := hres.trans (if_pos c_5)
      refine lv_ldc (own := RX11) (v := (-1000001)) hx hb hown (hts _ (List.mem_cons_of_mem _ wd_202)) dX11_worth_27 ?_
      refine lv_goto (tgt := 39) hx hb dX11_worth_29 (by decide) ?_
      exact x_reti hx hb hr hlk hP hS (hres.symm.trans hF) dX11_worth_39
    · replace hres := hres.trans (if_neg c_5)
      refine lv_iload_n hx hb dX11_worth_20 rfl (lv_at hl 3 rfl) ?_
      refine x_callSi (As := [.int w]) S hK hAm hD hP hS mt_X11_isWeek wd_652 ⟨by decide, by decide⟩ (c_X11_isWeek l nb nn g L M_1 hD hL w) rfl hl.1 (Nat.le_of_ble_eq_true rfl) ⟨Nat.zero_le _, Nat.zero_le _⟩ dX11_worth_21 rfl (fun r_6 u H locs hp_ hP hS => ?_)
      obtain ⟨er_6, eu_⟩ := hp_
      rw [eu_] at hP
      clear eu_
      replace hres := xlet_n hres er_6
      refine lv_if_ne (tgt := 32) hx hb dX11_worth_24 (by decide) (fun c_7 => ?_) (fun c_7 => ?_)
      · replace hres := hres.trans (if_neg c_7)
        refine lv_aload_n hx hb dX11_worth_32 rfl (lv_at hl 0 rfl) ?_
        refine lv_iload_n hx hb dX11_worth_33 rfl (lv_at hl 1 rfl) ?_
        refine lv_iload_n hx hb dX11_worth_34 rfl (lv_at hl 2 rfl) ?_
        refine lv_iload_n hx hb dX11_worth_35 rfl (lv_at hl 3 rfl) ?_
        refine x_callVi (As := [.int q, .int town, .int w]) S hK hAm hD hP hS mt_X11_worthOf wd_787 ⟨by decide, by decide⟩ (hL 40 0 (xe_40 nb nn)) (xc40 g 0) rfl (c_X11_worthOf l nb nn g L M_1 hD hL q town w (ob_X11_worth_36_p0 nb nn q town w M hp0 M_1 eM_1 r_2 er_2 c_3 r_4 er_4 c_5 r_6 er_6 c_7) (ob_X11_worth_36_p1 nb nn q town w M hp0 M_1 eM_1 r_2 er_2 c_3 r_4 er_4 c_5 r_6 er_6 c_7) (ob_X11_worth_36_p2 nb nn q town w M hp0 M_1 eM_1 r_2 er_2 c_3 r_4 er_4 c_5 r_6 er_6 c_7) (ob_X11_worth_36_p3 nb nn q town w M hp0 M_1 eM_1 r_2 er_2 c_3 r_4 er_4 c_5 r_6 er_6 c_7) (ob_X11_worth_36_p4 nb nn q town w M hp0 M_1 eM_1 r_2 er_2 c_3 r_4 er_4 c_5 r_6 er_6 c_7)) rfl hl.1 (Nat.le_of_ble_eq_true rfl) ⟨Nat.zero_le _, Nat.zero_le _⟩ dX11_worth_36 rfl (fun r_8 M_9 H locs ep_ hP hS => ?_)
        replace hres := xlet2_n hres ep_
        have er_8 : r_8 = (f_X11_worthOf q town w M_1).1 := congrArg Prod.fst ep_
        have eM_9 : M_9 = (f_X11_worthOf q town w M_1).2 := congrArg Prod.snd ep_
        clear ep_
        exact x_reti hx hb hr hlk hP hS (hres.symm.trans hF) dX11_worth_39
      · replace hres := hres.trans (if_pos c_7)
        refine lv_ldc (own := RX11) (v := (-1000001)) hx hb hown (hts _ (List.mem_cons_of_mem _ wd_202)) dX11_worth_27 ?_
        refine lv_goto (tgt := 39) hx hb dX11_worth_29 (by decide) ?_
        exact x_reti hx hb hr hlk hP hS (hres.symm.trans hF) dX11_worth_39
set_option maxHeartbeats 4000000 in
set_option maxRecDepth 100000 in
theorem c_X11_markOf (l : Launch) (nb nn : Nat) (g : xG) (L : List (Nat × Nat)) (M : xM) (hD : xD g L) (hL : xEL nb nn L) (q : Int32) (kd : Int32) (hp0 : 0 ≤ q) (hp1 : q < 24) (hp2 : 0 ≤ M 40 0 50) : xCi l yX11_markOf cX11_markOf 3 (some .int) 1 g L M [.ref (xad g 40 0), .int q, .int kd] (fun r u => (r, u) = f_X11_markOf q kd M) := by
  intro sz
  refine x_beg (by decide +kernel) rfl ?_
  intro p e s m args below meth c ls hsz hB
  subst hsz
  obtain ⟨hx, hb, hml, hown, hts, hr, hlk, hK, hAm, hP, hl⟩ := hB
  have S : CallFix p m c cX11_markOf 3 s args (xws yX11_markOf cX11_markOf 3 (some .int)) RX11 := ⟨hx, hb, hml, hown, hts⟩
  have hown : s.vm.findClass RX11 = some m.cls := hown
  have hl : lv_has ls 3 [(0, .ref (xad g 40 0)), (1, .int q), (2, .int kd)] := hl
  have hS : va_S (xA g L s.heap.size) s.heap s.heap [] := va_S.rf
  obtain ⟨F, hF⟩ : ∃ F, F = f_X11_markOf q kd M := ⟨_, rfl⟩
  have hres := hF
  rw [f_X11_markOf] at hres
  refine lv_iload_n hx hb dX11_markOf_0 rfl (lv_at hl 2 rfl) ?_
  refine lv_iconst (v := 3) hx hb dX11_markOf_1 (by decide) ?_
  refine lv_icmp_ne (tgt := 11) hx hb dX11_markOf_2 (by decide) (fun c_1 => ?_) (fun c_1 => ?_)
  · replace hres := hres.trans (if_neg c_1)
    refine lv_iload_n hx hb dX11_markOf_11 rfl (lv_at hl 2 rfl) ?_
    refine lv_iconst (v := 2) hx hb dX11_markOf_12 (by decide) ?_
    refine x_callSi (As := [.int kd, .int 2]) S hK hAm hD hP hS mt_X11_isOf wd_1022 ⟨by decide, by decide⟩ (c_X11_isOf l nb nn g L M hD hL kd 2) rfl hl.1 (Nat.le_of_ble_eq_true rfl) ⟨Nat.zero_le _, Nat.zero_le _⟩ dX11_markOf_13 rfl (fun r_2 u H locs hp_ hP hS => ?_)
    obtain ⟨er_2, eu_⟩ := hp_
    rw [eu_] at hP
    clear eu_
    replace hres := xlet_n hres er_2
    refine lv_if_eq (tgt := 25) hx hb dX11_markOf_16 (by decide) (fun c_3 => ?_) (fun c_3 => ?_)
    · replace hres := hres.trans (if_pos c_3)
      refine lv_iload_n hx hb dX11_markOf_25 rfl (lv_at hl 2 rfl) ?_
      refine lv_iconst (v := 5) hx hb dX11_markOf_26 (by decide) ?_
      refine lv_icmp_ne (tgt := 36) hx hb dX11_markOf_27 (by decide) (fun c_4 => ?_) (fun c_4 => ?_)
      · replace hres := hres.trans (if_neg c_4)
        refine lv_aload_n hx hb dX11_markOf_36 rfl (lv_at hl 0 rfl) ?_
        refine lv_bipush (v := 20) hx hb dX11_markOf_37 (by decide) ?_
        refine x_callVv (As := [.int 20]) S hK hAm hD hP hS mt_X11_began wd_1052 ⟨by decide, by decide⟩ (hL 40 0 (xe_40 nb nn)) (xc40 g 0) rfl (c_X11_began l nb nn g L M hD hL 20 (ob_X11_markOf_39_p0 nb nn q kd M hp0 hp1 hp2 c_1 r_2 er_2 c_3 c_4)) rfl hl.1 (Nat.le_of_ble_eq_true rfl) ⟨Nat.zero_le _, Nat.zero_le _⟩ dX11_markOf_39 rfl (fun M_6 H locs eM_6 hP hS => ?_)
        replace hres := xlet_n hres eM_6
        refine lv_iload_n hx hb dX11_markOf_42 rfl (lv_at hl 2 rfl) ?_
        refine lv_iconst (v := 5) hx hb dX11_markOf_43 (by decide) ?_
        refine lv_icmp_ne (tgt := 53) hx hb dX11_markOf_44 (by decide) (fun c_7 => ?_) (fun c_7 => ?_)
        · clear c_7
          refine lv_iload_n hx hb dX11_markOf_53 rfl (lv_at hl 1 rfl) ?_
          refine lv_iload_n hx hb dX11_markOf_54 rfl (lv_at hl 2 rfl) ?_
          refine lv_iconst (v := 2) hx hb dX11_markOf_55 (by decide) ?_
          refine x_callSi (As := [.int kd, .int 2]) S hK hAm hD hP hS mt_X11_isOf wd_1022 ⟨by decide, by decide⟩ (c_X11_isOf l nb nn g L M_6 hD hL kd 2) rfl hl.1 (Nat.le_of_ble_eq_true rfl) ⟨Nat.zero_le _, Nat.zero_le _⟩ dX11_markOf_56 rfl (fun r_8 u H locs hp_ hP hS => ?_)
          obtain ⟨er_8, eu_⟩ := hp_
          rw [eu_] at hP
          clear eu_
          replace hres := xlet_n hres er_8
          refine lv_if_eq (tgt := 67) hx hb dX11_markOf_59 (by decide) (fun c_9 => ?_) (fun c_9 => ?_)
          · replace hres := hres.trans (if_pos c_9)
            refine lv_iconst (v := 0) hx hb dX11_markOf_67 (by decide) ?_
            refine lv_iadd hx hb dX11_markOf_68 ?_
            refine lv_iload_n hx hb dX11_markOf_69 rfl (lv_at hl 2 rfl) ?_
            refine lv_iconst (v := 3) hx hb dX11_markOf_70 (by decide) ?_
            refine lv_icmp_ne (tgt := 83) hx hb dX11_markOf_71 (by decide) (fun c_10 => ?_) (fun c_10 => ?_)
            · clear c_10
              refine lv_iconst (v := 0) hx hb dX11_markOf_83 (by decide) ?_
              refine lv_iadd hx hb dX11_markOf_84 ?_
              refine lv_iload_n hx hb dX11_markOf_85 rfl (lv_at hl 2 rfl) ?_
              refine lv_iconst (v := 5) hx hb dX11_markOf_86 (by decide) ?_
              refine lv_icmp_ne (tgt := 99) hx hb dX11_markOf_87 (by decide) (fun c_11 => ?_) (fun c_11 => ?_)
              · clear c_11
                refine lv_iconst (v := 0) hx hb dX11_markOf_99 (by decide) ?_
                refine lv_iadd hx hb dX11_markOf_100 ?_
                exact x_reti hx hb hr hlk hP hS (hres.symm.trans hF) dX11_markOf_101
              · exact absurd c_11 c_4
            · exact absurd c_10 c_1
          · replace hres := hres.trans (if_neg c_9)
            refine lv_bipush (v := 100) hx hb dX11_markOf_62 (by decide) ?_
            refine lv_goto (tgt := 68) hx hb dX11_markOf_64 (by decide) ?_
            refine lv_iadd hx hb dX11_markOf_68 ?_
            refine lv_iload_n hx hb dX11_markOf_69 rfl (lv_at hl 2 rfl) ?_
            refine lv_iconst (v := 3) hx hb dX11_markOf_70 (by decide) ?_
            refine lv_icmp_ne (tgt := 83) hx hb dX11_markOf_71 (by decide) (fun c_12 => ?_) (fun c_12 => ?_)
            · clear c_12
              refine lv_iconst (v := 0) hx hb dX11_markOf_83 (by decide) ?_
              refine lv_iadd hx hb dX11_markOf_84 ?_
              refine lv_iload_n hx hb dX11_markOf_85 rfl (lv_at hl 2 rfl) ?_
              refine lv_iconst (v := 5) hx hb dX11_markOf_86 (by decide) ?_
              refine lv_icmp_ne (tgt := 99) hx hb dX11_markOf_87 (by decide) (fun c_13 => ?_) (fun c_13 => ?_)
              · clear c_13
                refine lv_iconst (v := 0) hx hb dX11_markOf_99 (by decide) ?_
                refine lv_iadd hx hb dX11_markOf_100 ?_
                exact x_reti hx hb hr hlk hP hS (hres.symm.trans hF) dX11_markOf_101
              · exact absurd c_13 c_4
            · exact absurd c_12 c_1
        · exact absurd c_7 c_4
      · replace hres := hres.trans (if_pos c_4)
        refine lv_aload_n hx hb dX11_markOf_30 rfl (lv_at hl 0 rfl) ?_
        refine lv_bipush (v := 23) hx hb dX11_markOf_31 (by decide) ?_
        refine x_callVv (As := [.int 23]) S hK hAm hD hP hS mt_X11_began wd_1052 ⟨by decide, by decide⟩ (hL 40 0 (xe_40 nb nn)) (xc40 g 0) rfl (c_X11_began l nb nn g L M hD hL 23 (ob_X11_markOf_33_p0 nb nn q kd M hp0 hp1 hp2 c_1 r_2 er_2 c_3 c_4)) rfl hl.1 (Nat.le_of_ble_eq_true rfl) ⟨Nat.zero_le _, Nat.zero_le _⟩ dX11_markOf_33 rfl (fun M_15 H locs eM_15 hP hS => ?_)
        replace hres := xlet_n hres eM_15
        refine lv_aload_n hx hb dX11_markOf_36 rfl (lv_at hl 0 rfl) ?_
        refine lv_bipush (v := 20) hx hb dX11_markOf_37 (by decide) ?_
        refine x_callVv (As := [.int 20]) S hK hAm hD hP hS mt_X11_began wd_1052 ⟨by decide, by decide⟩ (hL 40 0 (xe_40 nb nn)) (xc40 g 0) rfl (c_X11_began l nb nn g L M_15 hD hL 20 (ob_X11_markOf_39_p0_2 nb nn q kd M hp0 hp1 hp2 c_1 r_2 er_2 c_3 c_4 M_15 eM_15)) rfl hl.1 (Nat.le_of_ble_eq_true rfl) ⟨Nat.zero_le _, Nat.zero_le _⟩ dX11_markOf_39 rfl (fun M_17 H locs eM_17 hP hS => ?_)
        replace hres := xlet_n hres eM_17
        refine lv_iload_n hx hb dX11_markOf_42 rfl (lv_at hl 2 rfl) ?_
        refine lv_iconst (v := 5) hx hb dX11_markOf_43 (by decide) ?_
        refine lv_icmp_ne (tgt := 53) hx hb dX11_markOf_44 (by decide) (fun c_18 => ?_) (fun c_18 => ?_)
        · exact absurd c_4 c_18
        · clear c_18
          refine lv_aload_n hx hb dX11_markOf_47 rfl (lv_at hl 0 rfl) ?_
          refine lv_bipush (v := 10) hx hb dX11_markOf_48 (by decide) ?_
          refine x_callVv (As := [.int 10]) S hK hAm hD hP hS mt_X11_began wd_1052 ⟨by decide, by decide⟩ (hL 40 0 (xe_40 nb nn)) (xc40 g 0) rfl (c_X11_began l nb nn g L M_17 hD hL 10 (ob_X11_markOf_50_p0 nb nn q kd M hp0 hp1 hp2 c_1 r_2 er_2 c_3 c_4 M_15 eM_15 M_17 eM_17)) rfl hl.1 (Nat.le_of_ble_eq_true rfl) ⟨Nat.zero_le _, Nat.zero_le _⟩ dX11_markOf_50 rfl (fun M_20 H locs eM_20 hP hS => ?_)
          replace hres := xlet_n hres eM_20
          refine lv_iload_n hx hb dX11_markOf_53 rfl (lv_at hl 1 rfl) ?_
          refine lv_iload_n hx hb dX11_markOf_54 rfl (lv_at hl 2 rfl) ?_
          refine lv_iconst (v := 2) hx hb dX11_markOf_55 (by decide) ?_
          refine x_callSi (As := [.int kd, .int 2]) S hK hAm hD hP hS mt_X11_isOf wd_1022 ⟨by decide, by decide⟩ (c_X11_isOf l nb nn g L M_20 hD hL kd 2) rfl hl.1 (Nat.le_of_ble_eq_true rfl) ⟨Nat.zero_le _, Nat.zero_le _⟩ dX11_markOf_56 rfl (fun r_21 u H locs hp_ hP hS => ?_)
          obtain ⟨er_21, eu_⟩ := hp_
          rw [eu_] at hP
          clear eu_
          replace hres := xlet_n hres er_21
          refine lv_if_eq (tgt := 67) hx hb dX11_markOf_59 (by decide) (fun c_22 => ?_) (fun c_22 => ?_)
          · replace hres := hres.trans (if_pos c_22)
            refine lv_iconst (v := 0) hx hb dX11_markOf_67 (by decide) ?_
            refine lv_iadd hx hb dX11_markOf_68 ?_
            refine lv_iload_n hx hb dX11_markOf_69 rfl (lv_at hl 2 rfl) ?_
            refine lv_iconst (v := 3) hx hb dX11_markOf_70 (by decide) ?_
            refine lv_icmp_ne (tgt := 83) hx hb dX11_markOf_71 (by decide) (fun c_23 => ?_) (fun c_23 => ?_)
            · clear c_23
              refine lv_iconst (v := 0) hx hb dX11_markOf_83 (by decide) ?_
              refine lv_iadd hx hb dX11_markOf_84 ?_
              refine lv_iload_n hx hb dX11_markOf_85 rfl (lv_at hl 2 rfl) ?_
              refine lv_iconst (v := 5) hx hb dX11_markOf_86 (by decide) ?_
              refine lv_icmp_ne (tgt := 99) hx hb dX11_markOf_87 (by decide) (fun c_24 => ?_) (fun c_24 => ?_)
              · exact absurd c_4 c_24
              · clear c_24
                refine lv_aload_n hx hb dX11_markOf_90 rfl (lv_at hl 0 rfl) ?_
                refine gf_RX11_59 hx hb hts hown hK hP (hL 40 0 (xe_40 nb nn)) dX11_markOf_91 ?_
                refine lv_iload_n hx hb dX11_markOf_94 rfl (lv_at hl 1 rfl) ?_
                refine x_iald hx hb hK hP (hL 82 0 (xe_82 nb nn)) (xc82 g 0) (ob_X11_markOf_95_in nb nn q kd M hp0 hp1 hp2 c_1 r_2 er_2 c_3 c_4 M_15 eM_15 M_17 eM_17 M_20 eM_20 r_21 er_21 c_22) dX11_markOf_95 ?_
                refine lv_goto (tgt := 100) hx hb dX11_markOf_96 (by decide) ?_
                refine lv_iadd hx hb dX11_markOf_100 ?_
                exact x_reti hx hb hr hlk hP hS (hres.symm.trans hF) dX11_markOf_101
            · exact absurd c_23 c_1
          · replace hres := hres.trans (if_neg c_22)
            refine lv_bipush (v := 100) hx hb dX11_markOf_62 (by decide) ?_
            refine lv_goto (tgt := 68) hx hb dX11_markOf_64 (by decide) ?_
            refine lv_iadd hx hb dX11_markOf_68 ?_
            refine lv_iload_n hx hb dX11_markOf_69 rfl (lv_at hl 2 rfl) ?_
            refine lv_iconst (v := 3) hx hb dX11_markOf_70 (by decide) ?_
            refine lv_icmp_ne (tgt := 83) hx hb dX11_markOf_71 (by decide) (fun c_25 => ?_) (fun c_25 => ?_)
            · clear c_25
              refine lv_iconst (v := 0) hx hb dX11_markOf_83 (by decide) ?_
              refine lv_iadd hx hb dX11_markOf_84 ?_
              refine lv_iload_n hx hb dX11_markOf_85 rfl (lv_at hl 2 rfl) ?_
              refine lv_iconst (v := 5) hx hb dX11_markOf_86 (by decide) ?_
              refine lv_icmp_ne (tgt := 99) hx hb dX11_markOf_87 (by decide) (fun c_26 => ?_) (fun c_26 => ?_)
              · exact absurd c_4 c_26
              · clear c_26
                refine lv_aload_n hx hb dX11_markOf_90 rfl (lv_at hl 0 rfl) ?_
                refine gf_RX11_59 hx hb hts hown hK hP (hL 40 0 (xe_40 nb nn)) dX11_markOf_91 ?_
                refine lv_iload_n hx hb dX11_markOf_94 rfl (lv_at hl 1 rfl) ?_
                refine x_iald hx hb hK hP (hL 82 0 (xe_82 nb nn)) (xc82 g 0) (ob_X11_markOf_95_in_2 nb nn q kd M hp0 hp1 hp2 c_1 r_2 er_2 c_3 c_4 M_15 eM_15 M_17 eM_17 M_20 eM_20 r_21 er_21 c_22) dX11_markOf_95 ?_
                refine lv_goto (tgt := 100) hx hb dX11_markOf_96 (by decide) ?_
                refine lv_iadd hx hb dX11_markOf_100 ?_
                exact x_reti hx hb hr hlk hP hS (hres.symm.trans hF) dX11_markOf_101
            · exact absurd c_25 c_1
    · replace hres := hres.trans (if_neg c_3)
      refine lv_aload_n hx hb dX11_markOf_19 rfl (lv_at hl 0 rfl) ?_
      refine lv_bipush (v := 21) hx hb dX11_markOf_20 (by decide) ?_
      refine x_callVv (As := [.int 21]) S hK hAm hD hP hS mt_X11_began wd_1052 ⟨by decide, by decide⟩ (hL 40 0 (xe_40 nb nn)) (xc40 g 0) rfl (c_X11_began l nb nn g L M hD hL 21 (ob_X11_markOf_22_p0 nb nn q kd M hp0 hp1 hp2 c_1 r_2 er_2 c_3)) rfl hl.1 (Nat.le_of_ble_eq_true rfl) ⟨Nat.zero_le _, Nat.zero_le _⟩ dX11_markOf_22 rfl (fun M_28 H locs eM_28 hP hS => ?_)
      replace hres := xlet_n hres eM_28
      refine lv_iload_n hx hb dX11_markOf_25 rfl (lv_at hl 2 rfl) ?_
      refine lv_iconst (v := 5) hx hb dX11_markOf_26 (by decide) ?_
      refine lv_icmp_ne (tgt := 36) hx hb dX11_markOf_27 (by decide) (fun c_29 => ?_) (fun c_29 => ?_)
      · replace hres := hres.trans (if_neg c_29)
        refine lv_aload_n hx hb dX11_markOf_36 rfl (lv_at hl 0 rfl) ?_
        refine lv_bipush (v := 20) hx hb dX11_markOf_37 (by decide) ?_
        refine x_callVv (As := [.int 20]) S hK hAm hD hP hS mt_X11_began wd_1052 ⟨by decide, by decide⟩ (hL 40 0 (xe_40 nb nn)) (xc40 g 0) rfl (c_X11_began l nb nn g L M_28 hD hL 20 (ob_X11_markOf_39_p0_3 nb nn q kd M hp0 hp1 hp2 c_1 r_2 er_2 c_3 M_28 eM_28 c_29)) rfl hl.1 (Nat.le_of_ble_eq_true rfl) ⟨Nat.zero_le _, Nat.zero_le _⟩ dX11_markOf_39 rfl (fun M_31 H locs eM_31 hP hS => ?_)
        replace hres := xlet_n hres eM_31
        refine lv_iload_n hx hb dX11_markOf_42 rfl (lv_at hl 2 rfl) ?_
        refine lv_iconst (v := 5) hx hb dX11_markOf_43 (by decide) ?_
        refine lv_icmp_ne (tgt := 53) hx hb dX11_markOf_44 (by decide) (fun c_32 => ?_) (fun c_32 => ?_)
        · clear c_32
          refine lv_iload_n hx hb dX11_markOf_53 rfl (lv_at hl 1 rfl) ?_
          refine lv_iload_n hx hb dX11_markOf_54 rfl (lv_at hl 2 rfl) ?_
          refine lv_iconst (v := 2) hx hb dX11_markOf_55 (by decide) ?_
          refine x_callSi (As := [.int kd, .int 2]) S hK hAm hD hP hS mt_X11_isOf wd_1022 ⟨by decide, by decide⟩ (c_X11_isOf l nb nn g L M_31 hD hL kd 2) rfl hl.1 (Nat.le_of_ble_eq_true rfl) ⟨Nat.zero_le _, Nat.zero_le _⟩ dX11_markOf_56 rfl (fun r_33 u H locs hp_ hP hS => ?_)
          obtain ⟨er_33, eu_⟩ := hp_
          rw [eu_] at hP
          clear eu_
          replace hres := xlet_n hres er_33
          refine lv_if_eq (tgt := 67) hx hb dX11_markOf_59 (by decide) (fun c_34 => ?_) (fun c_34 => ?_)
          · replace hres := hres.trans (if_pos c_34)
            refine lv_iconst (v := 0) hx hb dX11_markOf_67 (by decide) ?_
            refine lv_iadd hx hb dX11_markOf_68 ?_
            refine lv_iload_n hx hb dX11_markOf_69 rfl (lv_at hl 2 rfl) ?_
            refine lv_iconst (v := 3) hx hb dX11_markOf_70 (by decide) ?_
            refine lv_icmp_ne (tgt := 83) hx hb dX11_markOf_71 (by decide) (fun c_35 => ?_) (fun c_35 => ?_)
            · clear c_35
              refine lv_iconst (v := 0) hx hb dX11_markOf_83 (by decide) ?_
              refine lv_iadd hx hb dX11_markOf_84 ?_
              refine lv_iload_n hx hb dX11_markOf_85 rfl (lv_at hl 2 rfl) ?_
              refine lv_iconst (v := 5) hx hb dX11_markOf_86 (by decide) ?_
              refine lv_icmp_ne (tgt := 99) hx hb dX11_markOf_87 (by decide) (fun c_36 => ?_) (fun c_36 => ?_)
              · clear c_36
                refine lv_iconst (v := 0) hx hb dX11_markOf_99 (by decide) ?_
                refine lv_iadd hx hb dX11_markOf_100 ?_
                exact x_reti hx hb hr hlk hP hS (hres.symm.trans hF) dX11_markOf_101
              · exact absurd c_36 c_29
            · exact absurd c_35 c_1
          · replace hres := hres.trans (if_neg c_34)
            refine lv_bipush (v := 100) hx hb dX11_markOf_62 (by decide) ?_
            refine lv_goto (tgt := 68) hx hb dX11_markOf_64 (by decide) ?_
            refine lv_iadd hx hb dX11_markOf_68 ?_
            refine lv_iload_n hx hb dX11_markOf_69 rfl (lv_at hl 2 rfl) ?_
            refine lv_iconst (v := 3) hx hb dX11_markOf_70 (by decide) ?_
            refine lv_icmp_ne (tgt := 83) hx hb dX11_markOf_71 (by decide) (fun c_37 => ?_) (fun c_37 => ?_)
            · clear c_37
              refine lv_iconst (v := 0) hx hb dX11_markOf_83 (by decide) ?_
              refine lv_iadd hx hb dX11_markOf_84 ?_
              refine lv_iload_n hx hb dX11_markOf_85 rfl (lv_at hl 2 rfl) ?_
              refine lv_iconst (v := 5) hx hb dX11_markOf_86 (by decide) ?_
              refine lv_icmp_ne (tgt := 99) hx hb dX11_markOf_87 (by decide) (fun c_38 => ?_) (fun c_38 => ?_)
              · clear c_38
                refine lv_iconst (v := 0) hx hb dX11_markOf_99 (by decide) ?_
                refine lv_iadd hx hb dX11_markOf_100 ?_
                exact x_reti hx hb hr hlk hP hS (hres.symm.trans hF) dX11_markOf_101
              · exact absurd c_38 c_29
            · exact absurd c_37 c_1
        · exact absurd c_32 c_29
      · replace hres := hres.trans (if_pos c_29)
        refine lv_aload_n hx hb dX11_markOf_30 rfl (lv_at hl 0 rfl) ?_
        refine lv_bipush (v := 23) hx hb dX11_markOf_31 (by decide) ?_
        refine x_callVv (As := [.int 23]) S hK hAm hD hP hS mt_X11_began wd_1052 ⟨by decide, by decide⟩ (hL 40 0 (xe_40 nb nn)) (xc40 g 0) rfl (c_X11_began l nb nn g L M_28 hD hL 23 (ob_X11_markOf_33_p0_2 nb nn q kd M hp0 hp1 hp2 c_1 r_2 er_2 c_3 M_28 eM_28 c_29)) rfl hl.1 (Nat.le_of_ble_eq_true rfl) ⟨Nat.zero_le _, Nat.zero_le _⟩ dX11_markOf_33 rfl (fun M_40 H locs eM_40 hP hS => ?_)
        replace hres := xlet_n hres eM_40
        refine lv_aload_n hx hb dX11_markOf_36 rfl (lv_at hl 0 rfl) ?_
        refine lv_bipush (v := 20) hx hb dX11_markOf_37 (by decide) ?_
        refine x_callVv (As := [.int 20]) S hK hAm hD hP hS mt_X11_began wd_1052 ⟨by decide, by decide⟩ (hL 40 0 (xe_40 nb nn)) (xc40 g 0) rfl (c_X11_began l nb nn g L M_40 hD hL 20 (ob_X11_markOf_39_p0_4 nb nn q kd M hp0 hp1 hp2 c_1 r_2 er_2 c_3 M_28 eM_28 c_29 M_40 eM_40)) rfl hl.1 (Nat.le_of_ble_eq_true rfl) ⟨Nat.zero_le _, Nat.zero_le _⟩ dX11_markOf_39 rfl (fun M_42 H locs eM_42 hP hS => ?_)
        replace hres := xlet_n hres eM_42
        refine lv_iload_n hx hb dX11_markOf_42 rfl (lv_at hl 2 rfl) ?_
        refine lv_iconst (v := 5) hx hb dX11_markOf_43 (by decide) ?_
        refine lv_icmp_ne (tgt := 53) hx hb dX11_markOf_44 (by decide) (fun c_43 => ?_) (fun c_43 => ?_)
        · exact absurd c_29 c_43
        · clear c_43
          refine lv_aload_n hx hb dX11_markOf_47 rfl (lv_at hl 0 rfl) ?_
          refine lv_bipush (v := 10) hx hb dX11_markOf_48 (by decide) ?_
          refine x_callVv (As := [.int 10]) S hK hAm hD hP hS mt_X11_began wd_1052 ⟨by decide, by decide⟩ (hL 40 0 (xe_40 nb nn)) (xc40 g 0) rfl (c_X11_began l nb nn g L M_42 hD hL 10 (ob_X11_markOf_50_p0_2 nb nn q kd M hp0 hp1 hp2 c_1 r_2 er_2 c_3 M_28 eM_28 c_29 M_40 eM_40 M_42 eM_42)) rfl hl.1 (Nat.le_of_ble_eq_true rfl) ⟨Nat.zero_le _, Nat.zero_le _⟩ dX11_markOf_50 rfl (fun M_45 H locs eM_45 hP hS => ?_)
          replace hres := xlet_n hres eM_45
          refine lv_iload_n hx hb dX11_markOf_53 rfl (lv_at hl 1 rfl) ?_
          refine lv_iload_n hx hb dX11_markOf_54 rfl (lv_at hl 2 rfl) ?_
          refine lv_iconst (v := 2) hx hb dX11_markOf_55 (by decide) ?_
          refine x_callSi (As := [.int kd, .int 2]) S hK hAm hD hP hS mt_X11_isOf wd_1022 ⟨by decide, by decide⟩ (c_X11_isOf l nb nn g L M_45 hD hL kd 2) rfl hl.1 (Nat.le_of_ble_eq_true rfl) ⟨Nat.zero_le _, Nat.zero_le _⟩ dX11_markOf_56 rfl (fun r_46 u H locs hp_ hP hS => ?_)
          obtain ⟨er_46, eu_⟩ := hp_
          rw [eu_] at hP
          clear eu_
          replace hres := xlet_n hres er_46
          refine lv_if_eq (tgt := 67) hx hb dX11_markOf_59 (by decide) (fun c_47 => ?_) (fun c_47 => ?_)
          · replace hres := hres.trans (if_pos c_47)
            refine lv_iconst (v := 0) hx hb dX11_markOf_67 (by decide) ?_
            refine lv_iadd hx hb dX11_markOf_68 ?_
            refine lv_iload_n hx hb dX11_markOf_69 rfl (lv_at hl 2 rfl) ?_
            refine lv_iconst (v := 3) hx hb dX11_markOf_70 (by decide) ?_
            refine lv_icmp_ne (tgt := 83) hx hb dX11_markOf_71 (by decide) (fun c_48 => ?_) (fun c_48 => ?_)
            · clear c_48
              refine lv_iconst (v := 0) hx hb dX11_markOf_83 (by decide) ?_
              refine lv_iadd hx hb dX11_markOf_84 ?_
              refine lv_iload_n hx hb dX11_markOf_85 rfl (lv_at hl 2 rfl) ?_
              refine lv_iconst (v := 5) hx hb dX11_markOf_86 (by decide) ?_
              refine lv_icmp_ne (tgt := 99) hx hb dX11_markOf_87 (by decide) (fun c_49 => ?_) (fun c_49 => ?_)
              · exact absurd c_29 c_49
              · clear c_49
                refine lv_aload_n hx hb dX11_markOf_90 rfl (lv_at hl 0 rfl) ?_
                refine gf_RX11_59 hx hb hts hown hK hP (hL 40 0 (xe_40 nb nn)) dX11_markOf_91 ?_
                refine lv_iload_n hx hb dX11_markOf_94 rfl (lv_at hl 1 rfl) ?_
                refine x_iald hx hb hK hP (hL 82 0 (xe_82 nb nn)) (xc82 g 0) (ob_X11_markOf_95_in_3 nb nn q kd M hp0 hp1 hp2 c_1 r_2 er_2 c_3 M_28 eM_28 c_29 M_40 eM_40 M_42 eM_42 M_45 eM_45 r_46 er_46 c_47) dX11_markOf_95 ?_
                refine lv_goto (tgt := 100) hx hb dX11_markOf_96 (by decide) ?_
                refine lv_iadd hx hb dX11_markOf_100 ?_
                exact x_reti hx hb hr hlk hP hS (hres.symm.trans hF) dX11_markOf_101
            · exact absurd c_48 c_1
          · replace hres := hres.trans (if_neg c_47)
            refine lv_bipush (v := 100) hx hb dX11_markOf_62 (by decide) ?_
            refine lv_goto (tgt := 68) hx hb dX11_markOf_64 (by decide) ?_
            refine lv_iadd hx hb dX11_markOf_68 ?_
            refine lv_iload_n hx hb dX11_markOf_69 rfl (lv_at hl 2 rfl) ?_
            refine lv_iconst (v := 3) hx hb dX11_markOf_70 (by decide) ?_
            refine lv_icmp_ne (tgt := 83) hx hb dX11_markOf_71 (by decide) (fun c_50 => ?_) (fun c_50 => ?_)
            · clear c_50
              refine lv_iconst (v := 0) hx hb dX11_markOf_83 (by decide) ?_
              refine lv_iadd hx hb dX11_markOf_84 ?_
              refine lv_iload_n hx hb dX11_markOf_85 rfl (lv_at hl 2 rfl) ?_
              refine lv_iconst (v := 5) hx hb dX11_markOf_86 (by decide) ?_
              refine lv_icmp_ne (tgt := 99) hx hb dX11_markOf_87 (by decide) (fun c_51 => ?_) (fun c_51 => ?_)
              · exact absurd c_29 c_51
              · clear c_51
                refine lv_aload_n hx hb dX11_markOf_90 rfl (lv_at hl 0 rfl) ?_
                refine gf_RX11_59 hx hb hts hown hK hP (hL 40 0 (xe_40 nb nn)) dX11_markOf_91 ?_
                refine lv_iload_n hx hb dX11_markOf_94 rfl (lv_at hl 1 rfl) ?_
                refine x_iald hx hb hK hP (hL 82 0 (xe_82 nb nn)) (xc82 g 0) (ob_X11_markOf_95_in_4 nb nn q kd M hp0 hp1 hp2 c_1 r_2 er_2 c_3 M_28 eM_28 c_29 M_40 eM_40 M_42 eM_42 M_45 eM_45 r_46 er_46 c_47) dX11_markOf_95 ?_
                refine lv_goto (tgt := 100) hx hb dX11_markOf_96 (by decide) ?_
                refine lv_iadd hx hb dX11_markOf_100 ?_
                exact x_reti hx hb hr hlk hP hS (hres.symm.trans hF) dX11_markOf_101
            · exact absurd c_50 c_1
  · replace hres := hres.trans (if_pos c_1)
    refine lv_aload_n hx hb dX11_markOf_5 rfl (lv_at hl 0 rfl) ?_
    refine lv_bipush (v := 22) hx hb dX11_markOf_6 (by decide) ?_
    refine x_callVv (As := [.int 22]) S hK hAm hD hP hS mt_X11_began wd_1052 ⟨by decide, by decide⟩ (hL 40 0 (xe_40 nb nn)) (xc40 g 0) rfl (c_X11_began l nb nn g L M hD hL 22 (ob_X11_markOf_8_p0 nb nn q kd M hp0 hp1 hp2 c_1)) rfl hl.1 (Nat.le_of_ble_eq_true rfl) ⟨Nat.zero_le _, Nat.zero_le _⟩ dX11_markOf_8 rfl (fun M_53 H locs eM_53 hP hS => ?_)
    replace hres := xlet_n hres eM_53
    refine lv_iload_n hx hb dX11_markOf_11 rfl (lv_at hl 2 rfl) ?_
    refine lv_iconst (v := 2) hx hb dX11_markOf_12 (by decide) ?_
    refine x_callSi (As := [.int kd, .int 2]) S hK hAm hD hP hS mt_X11_isOf wd_1022 ⟨by decide, by decide⟩ (c_X11_isOf l nb nn g L M_53 hD hL kd 2) rfl hl.1 (Nat.le_of_ble_eq_true rfl) ⟨Nat.zero_le _, Nat.zero_le _⟩ dX11_markOf_13 rfl (fun r_54 u H locs hp_ hP hS => ?_)
    obtain ⟨er_54, eu_⟩ := hp_
    rw [eu_] at hP
    clear eu_
    replace hres := xlet_n hres er_54
    refine lv_if_eq (tgt := 25) hx hb dX11_markOf_16 (by decide) (fun c_55 => ?_) (fun c_55 => ?_)
    · replace hres := hres.trans (if_pos c_55)
      refine lv_iload_n hx hb dX11_markOf_25 rfl (lv_at hl 2 rfl) ?_
      refine lv_iconst (v := 5) hx hb dX11_markOf_26 (by decide) ?_
      refine lv_icmp_ne (tgt := 36) hx hb dX11_markOf_27 (by decide) (fun c_56 => ?_) (fun c_56 => ?_)
      · replace hres := hres.trans (if_neg c_56)
        refine lv_aload_n hx hb dX11_markOf_36 rfl (lv_at hl 0 rfl) ?_
        refine lv_bipush (v := 20) hx hb dX11_markOf_37 (by decide) ?_
        refine x_callVv (As := [.int 20]) S hK hAm hD hP hS mt_X11_began wd_1052 ⟨by decide, by decide⟩ (hL 40 0 (xe_40 nb nn)) (xc40 g 0) rfl (c_X11_began l nb nn g L M_53 hD hL 20 (ob_X11_markOf_39_p0_5 nb nn q kd M hp0 hp1 hp2 c_1 M_53 eM_53 r_54 er_54 c_55 c_56)) rfl hl.1 (Nat.le_of_ble_eq_true rfl) ⟨Nat.zero_le _, Nat.zero_le _⟩ dX11_markOf_39 rfl (fun M_58 H locs eM_58 hP hS => ?_)
        replace hres := xlet_n hres eM_58
        refine lv_iload_n hx hb dX11_markOf_42 rfl (lv_at hl 2 rfl) ?_
        refine lv_iconst (v := 5) hx hb dX11_markOf_43 (by decide) ?_
        refine lv_icmp_ne (tgt := 53) hx hb dX11_markOf_44 (by decide) (fun c_59 => ?_) (fun c_59 => ?_)
        · clear c_59
          refine lv_iload_n hx hb dX11_markOf_53 rfl (lv_at hl 1 rfl) ?_
          refine lv_iload_n hx hb dX11_markOf_54 rfl (lv_at hl 2 rfl) ?_
          refine lv_iconst (v := 2) hx hb dX11_markOf_55 (by decide) ?_
          refine x_callSi (As := [.int kd, .int 2]) S hK hAm hD hP hS mt_X11_isOf wd_1022 ⟨by decide, by decide⟩ (c_X11_isOf l nb nn g L M_58 hD hL kd 2) rfl hl.1 (Nat.le_of_ble_eq_true rfl) ⟨Nat.zero_le _, Nat.zero_le _⟩ dX11_markOf_56 rfl (fun r_60 u H locs hp_ hP hS => ?_)
          obtain ⟨er_60, eu_⟩ := hp_
          rw [eu_] at hP
          clear eu_
          replace hres := xlet_n hres er_60
          refine lv_if_eq (tgt := 67) hx hb dX11_markOf_59 (by decide) (fun c_61 => ?_) (fun c_61 => ?_)
          · replace hres := hres.trans (if_pos c_61)
            refine lv_iconst (v := 0) hx hb dX11_markOf_67 (by decide) ?_
            refine lv_iadd hx hb dX11_markOf_68 ?_
            refine lv_iload_n hx hb dX11_markOf_69 rfl (lv_at hl 2 rfl) ?_
            refine lv_iconst (v := 3) hx hb dX11_markOf_70 (by decide) ?_
            refine lv_icmp_ne (tgt := 83) hx hb dX11_markOf_71 (by decide) (fun c_62 => ?_) (fun c_62 => ?_)
            · exact absurd c_1 c_62
            · clear c_62
              refine lv_aload_n hx hb dX11_markOf_74 rfl (lv_at hl 0 rfl) ?_
              refine gf_RX11_56 hx hb hts hown hK hP (hL 40 0 (xe_40 nb nn)) dX11_markOf_75 ?_
              refine lv_iload_n hx hb dX11_markOf_78 rfl (lv_at hl 1 rfl) ?_
              refine x_iald hx hb hK hP (hL 81 0 (xe_81 nb nn)) (xc81 g 0) (ob_X11_markOf_79_in nb nn q kd M hp0 hp1 hp2 c_1 M_53 eM_53 r_54 er_54 c_55 c_56 M_58 eM_58 r_60 er_60 c_61) dX11_markOf_79 ?_
              refine lv_goto (tgt := 84) hx hb dX11_markOf_80 (by decide) ?_
              refine lv_iadd hx hb dX11_markOf_84 ?_
              refine lv_iload_n hx hb dX11_markOf_85 rfl (lv_at hl 2 rfl) ?_
              refine lv_iconst (v := 5) hx hb dX11_markOf_86 (by decide) ?_
              refine lv_icmp_ne (tgt := 99) hx hb dX11_markOf_87 (by decide) (fun c_63 => ?_) (fun c_63 => ?_)
              · clear c_63
                refine lv_iconst (v := 0) hx hb dX11_markOf_99 (by decide) ?_
                refine lv_iadd hx hb dX11_markOf_100 ?_
                exact x_reti hx hb hr hlk hP hS (hres.symm.trans hF) dX11_markOf_101
              · exact absurd c_63 c_56
          · replace hres := hres.trans (if_neg c_61)
            refine lv_bipush (v := 100) hx hb dX11_markOf_62 (by decide) ?_
            refine lv_goto (tgt := 68) hx hb dX11_markOf_64 (by decide) ?_
            refine lv_iadd hx hb dX11_markOf_68 ?_
            refine lv_iload_n hx hb dX11_markOf_69 rfl (lv_at hl 2 rfl) ?_
            refine lv_iconst (v := 3) hx hb dX11_markOf_70 (by decide) ?_
            refine lv_icmp_ne (tgt := 83) hx hb dX11_markOf_71 (by decide) (fun c_64 => ?_) (fun c_64 => ?_)
            · exact absurd c_1 c_64
            · clear c_64
              refine lv_aload_n hx hb dX11_markOf_74 rfl (lv_at hl 0 rfl) ?_
              refine gf_RX11_56 hx hb hts hown hK hP (hL 40 0 (xe_40 nb nn)) dX11_markOf_75 ?_
              refine lv_iload_n hx hb dX11_markOf_78 rfl (lv_at hl 1 rfl) ?_
              refine x_iald hx hb hK hP (hL 81 0 (xe_81 nb nn)) (xc81 g 0) (ob_X11_markOf_79_in_2 nb nn q kd M hp0 hp1 hp2 c_1 M_53 eM_53 r_54 er_54 c_55 c_56 M_58 eM_58 r_60 er_60 c_61) dX11_markOf_79 ?_
              refine lv_goto (tgt := 84) hx hb dX11_markOf_80 (by decide) ?_
              refine lv_iadd hx hb dX11_markOf_84 ?_
              refine lv_iload_n hx hb dX11_markOf_85 rfl (lv_at hl 2 rfl) ?_
              refine lv_iconst (v := 5) hx hb dX11_markOf_86 (by decide) ?_
              refine lv_icmp_ne (tgt := 99) hx hb dX11_markOf_87 (by decide) (fun c_65 => ?_) (fun c_65 => ?_)
              · clear c_65
                refine lv_iconst (v := 0) hx hb dX11_markOf_99 (by decide) ?_
                refine lv_iadd hx hb dX11_markOf_100 ?_
                exact x_reti hx hb hr hlk hP hS (hres.symm.trans hF) dX11_markOf_101
              · exact absurd c_65 c_56
        · exact absurd c_59 c_56
      · replace hres := hres.trans (if_pos c_56)
        refine lv_aload_n hx hb dX11_markOf_30 rfl (lv_at hl 0 rfl) ?_
        refine lv_bipush (v := 23) hx hb dX11_markOf_31 (by decide) ?_
        refine x_callVv (As := [.int 23]) S hK hAm hD hP hS mt_X11_began wd_1052 ⟨by decide, by decide⟩ (hL 40 0 (xe_40 nb nn)) (xc40 g 0) rfl (c_X11_began l nb nn g L M_53 hD hL 23 (ob_X11_markOf_33_p0_3 nb nn q kd M hp0 hp1 hp2 c_1 M_53 eM_53 r_54 er_54 c_55 c_56)) rfl hl.1 (Nat.le_of_ble_eq_true rfl) ⟨Nat.zero_le _, Nat.zero_le _⟩ dX11_markOf_33 rfl (fun M_67 H locs eM_67 hP hS => ?_)
        replace hres := xlet_n hres eM_67
        refine lv_aload_n hx hb dX11_markOf_36 rfl (lv_at hl 0 rfl) ?_
        refine lv_bipush (v := 20) hx hb dX11_markOf_37 (by decide) ?_
        refine x_callVv (As := [.int 20]) S hK hAm hD hP hS mt_X11_began wd_1052 ⟨by decide, by decide⟩ (hL 40 0 (xe_40 nb nn)) (xc40 g 0) rfl (c_X11_began l nb nn g L M_67 hD hL 20 (ob_X11_markOf_39_p0_6 nb nn q kd M hp0 hp1 hp2 c_1 M_53 eM_53 r_54 er_54 c_55 c_56 M_67 eM_67)) rfl hl.1 (Nat.le_of_ble_eq_true rfl) ⟨Nat.zero_le _, Nat.zero_le _⟩ dX11_markOf_39 rfl (fun M_69 H locs eM_69 hP hS => ?_)
        replace hres := xlet_n hres eM_69
        refine lv_iload_n hx hb dX11_markOf_42 rfl (lv_at hl 2 rfl) ?_
        refine lv_iconst (v := 5) hx hb dX11_markOf_43 (by decide) ?_
        refine lv_icmp_ne (tgt := 53) hx hb dX11_markOf_44 (by decide) (fun c_70 => ?_) (fun c_70 => ?_)
        · exact absurd c_56 c_70
        · clear c_70
          refine lv_aload_n hx hb dX11_markOf_47 rfl (lv_at hl 0 rfl) ?_
          refine lv_bipush (v := 10) hx hb dX11_markOf_48 (by decide) ?_
          refine x_callVv (As := [.int 10]) S hK hAm hD hP hS mt_X11_began wd_1052 ⟨by decide, by decide⟩ (hL 40 0 (xe_40 nb nn)) (xc40 g 0) rfl (c_X11_began l nb nn g L M_69 hD hL 10 (ob_X11_markOf_50_p0_3 nb nn q kd M hp0 hp1 hp2 c_1 M_53 eM_53 r_54 er_54 c_55 c_56 M_67 eM_67 M_69 eM_69)) rfl hl.1 (Nat.le_of_ble_eq_true rfl) ⟨Nat.zero_le _, Nat.zero_le _⟩ dX11_markOf_50 rfl (fun M_72 H locs eM_72 hP hS => ?_)
          replace hres := xlet_n hres eM_72
          refine lv_iload_n hx hb dX11_markOf_53 rfl (lv_at hl 1 rfl) ?_
          refine lv_iload_n hx hb dX11_markOf_54 rfl (lv_at hl 2 rfl) ?_
          refine lv_iconst (v := 2) hx hb dX11_markOf_55 (by decide) ?_
          refine x_callSi (As := [.int kd, .int 2]) S hK hAm hD hP hS mt_X11_isOf wd_1022 ⟨by decide, by decide⟩ (c_X11_isOf l nb nn g L M_72 hD hL kd 2) rfl hl.1 (Nat.le_of_ble_eq_true rfl) ⟨Nat.zero_le _, Nat.zero_le _⟩ dX11_markOf_56 rfl (fun r_73 u H locs hp_ hP hS => ?_)
          obtain ⟨er_73, eu_⟩ := hp_
          rw [eu_] at hP
          clear eu_
          replace hres := xlet_n hres er_73
          refine lv_if_eq (tgt := 67) hx hb dX11_markOf_59 (by decide) (fun c_74 => ?_) (fun c_74 => ?_)
          · replace hres := hres.trans (if_pos c_74)
            refine lv_iconst (v := 0) hx hb dX11_markOf_67 (by decide) ?_
            refine lv_iadd hx hb dX11_markOf_68 ?_
            refine lv_iload_n hx hb dX11_markOf_69 rfl (lv_at hl 2 rfl) ?_
            refine lv_iconst (v := 3) hx hb dX11_markOf_70 (by decide) ?_
            refine lv_icmp_ne (tgt := 83) hx hb dX11_markOf_71 (by decide) (fun c_75 => ?_) (fun c_75 => ?_)
            · exact absurd c_1 c_75
            · clear c_75
              refine lv_aload_n hx hb dX11_markOf_74 rfl (lv_at hl 0 rfl) ?_
              refine gf_RX11_56 hx hb hts hown hK hP (hL 40 0 (xe_40 nb nn)) dX11_markOf_75 ?_
              refine lv_iload_n hx hb dX11_markOf_78 rfl (lv_at hl 1 rfl) ?_
              refine x_iald hx hb hK hP (hL 81 0 (xe_81 nb nn)) (xc81 g 0) (ob_X11_markOf_79_in_3 nb nn q kd M hp0 hp1 hp2 c_1 M_53 eM_53 r_54 er_54 c_55 c_56 M_67 eM_67 M_69 eM_69 M_72 eM_72 r_73 er_73 c_74) dX11_markOf_79 ?_
              refine lv_goto (tgt := 84) hx hb dX11_markOf_80 (by decide) ?_
              refine lv_iadd hx hb dX11_markOf_84 ?_
              refine lv_iload_n hx hb dX11_markOf_85 rfl (lv_at hl 2 rfl) ?_
              refine lv_iconst (v := 5) hx hb dX11_markOf_86 (by decide) ?_
              refine lv_icmp_ne (tgt := 99) hx hb dX11_markOf_87 (by decide) (fun c_76 => ?_) (fun c_76 => ?_)
              · exact absurd c_56 c_76
              · clear c_76
                refine lv_aload_n hx hb dX11_markOf_90 rfl (lv_at hl 0 rfl) ?_
                refine gf_RX11_59 hx hb hts hown hK hP (hL 40 0 (xe_40 nb nn)) dX11_markOf_91 ?_
                refine lv_iload_n hx hb dX11_markOf_94 rfl (lv_at hl 1 rfl) ?_
                refine x_iald hx hb hK hP (hL 82 0 (xe_82 nb nn)) (xc82 g 0) (ob_X11_markOf_95_in_5 nb nn q kd M hp0 hp1 hp2 c_1 M_53 eM_53 r_54 er_54 c_55 c_56 M_67 eM_67 M_69 eM_69 M_72 eM_72 r_73 er_73 c_74) dX11_markOf_95 ?_
                refine lv_goto (tgt := 100) hx hb dX11_markOf_96 (by decide) ?_
                refine lv_iadd hx hb dX11_markOf_100 ?_
                exact x_reti hx hb hr hlk hP hS (hres.symm.trans hF) dX11_markOf_101
          · replace hres := hres.trans (if_neg c_74)
            refine lv_bipush (v := 100) hx hb dX11_markOf_62 (by decide) ?_
            refine lv_goto (tgt := 68) hx hb dX11_markOf_64 (by decide) ?_
            refine lv_iadd hx hb dX11_markOf_68 ?_
            refine lv_iload_n hx hb dX11_markOf_69 rfl (lv_at hl 2 rfl) ?_
            refine lv_iconst (v := 3) hx hb dX11_markOf_70 (by decide) ?_
            refine lv_icmp_ne (tgt := 83) hx hb dX11_markOf_71 (by decide) (fun c_77 => ?_) (fun c_77 => ?_)
            · exact absurd c_1 c_77
            · clear c_77
              refine lv_aload_n hx hb dX11_markOf_74 rfl (lv_at hl 0 rfl) ?_
              refine gf_RX11_56 hx hb hts hown hK hP (hL 40 0 (xe_40 nb nn)) dX11_markOf_75 ?_
              refine lv_iload_n hx hb dX11_markOf_78 rfl (lv_at hl 1 rfl) ?_
              refine x_iald hx hb hK hP (hL 81 0 (xe_81 nb nn)) (xc81 g 0) (ob_X11_markOf_79_in_4 nb nn q kd M hp0 hp1 hp2 c_1 M_53 eM_53 r_54 er_54 c_55 c_56 M_67 eM_67 M_69 eM_69 M_72 eM_72 r_73 er_73 c_74) dX11_markOf_79 ?_
              refine lv_goto (tgt := 84) hx hb dX11_markOf_80 (by decide) ?_
              refine lv_iadd hx hb dX11_markOf_84 ?_
              refine lv_iload_n hx hb dX11_markOf_85 rfl (lv_at hl 2 rfl) ?_
              refine lv_iconst (v := 5) hx hb dX11_markOf_86 (by decide) ?_
              refine lv_icmp_ne (tgt := 99) hx hb dX11_markOf_87 (by decide) (fun c_78 => ?_) (fun c_78 => ?_)
              · exact absurd c_56 c_78
              · clear c_78
                refine lv_aload_n hx hb dX11_markOf_90 rfl (lv_at hl 0 rfl) ?_
                refine gf_RX11_59 hx hb hts hown hK hP (hL 40 0 (xe_40 nb nn)) dX11_markOf_91 ?_
                refine lv_iload_n hx hb dX11_markOf_94 rfl (lv_at hl 1 rfl) ?_
                refine x_iald hx hb hK hP (hL 82 0 (xe_82 nb nn)) (xc82 g 0) (ob_X11_markOf_95_in_6 nb nn q kd M hp0 hp1 hp2 c_1 M_53 eM_53 r_54 er_54 c_55 c_56 M_67 eM_67 M_69 eM_69 M_72 eM_72 r_73 er_73 c_74) dX11_markOf_95 ?_
                refine lv_goto (tgt := 100) hx hb dX11_markOf_96 (by decide) ?_
                refine lv_iadd hx hb dX11_markOf_100 ?_
                exact x_reti hx hb hr hlk hP hS (hres.symm.trans hF) dX11_markOf_101
    · replace hres := hres.trans (if_neg c_55)
      refine lv_aload_n hx hb dX11_markOf_19 rfl (lv_at hl 0 rfl) ?_
      refine lv_bipush (v := 21) hx hb dX11_markOf_20 (by decide) ?_
      refine x_callVv (As := [.int 21]) S hK hAm hD hP hS mt_X11_began wd_1052 ⟨by decide, by decide⟩ (hL 40 0 (xe_40 nb nn)) (xc40 g 0) rfl (c_X11_began l nb nn g L M_53 hD hL 21 (ob_X11_markOf_22_p0_2 nb nn q kd M hp0 hp1 hp2 c_1 M_53 eM_53 r_54 er_54 c_55)) rfl hl.1 (Nat.le_of_ble_eq_true rfl) ⟨Nat.zero_le _, Nat.zero_le _⟩ dX11_markOf_22 rfl (fun M_80 H locs eM_80 hP hS => ?_)
      replace hres := xlet_n hres eM_80
      refine lv_iload_n hx hb dX11_markOf_25 rfl (lv_at hl 2 rfl) ?_
      refine lv_iconst (v := 5) hx hb dX11_markOf_26 (by decide) ?_
      refine lv_icmp_ne (tgt := 36) hx hb dX11_markOf_27 (by decide) (fun c_81 => ?_) (fun c_81 => ?_)
      · replace hres := hres.trans (if_neg c_81)
        refine lv_aload_n hx hb dX11_markOf_36 rfl (lv_at hl 0 rfl) ?_
        refine lv_bipush (v := 20) hx hb dX11_markOf_37 (by decide) ?_
        refine x_callVv (As := [.int 20]) S hK hAm hD hP hS mt_X11_began wd_1052 ⟨by decide, by decide⟩ (hL 40 0 (xe_40 nb nn)) (xc40 g 0) rfl (c_X11_began l nb nn g L M_80 hD hL 20 (ob_X11_markOf_39_p0_7 nb nn q kd M hp0 hp1 hp2 c_1 M_53 eM_53 r_54 er_54 c_55 M_80 eM_80 c_81)) rfl hl.1 (Nat.le_of_ble_eq_true rfl) ⟨Nat.zero_le _, Nat.zero_le _⟩ dX11_markOf_39 rfl (fun M_83 H locs eM_83 hP hS => ?_)
        replace hres := xlet_n hres eM_83
        refine lv_iload_n hx hb dX11_markOf_42 rfl (lv_at hl 2 rfl) ?_
        refine lv_iconst (v := 5) hx hb dX11_markOf_43 (by decide) ?_
        refine lv_icmp_ne (tgt := 53) hx hb dX11_markOf_44 (by decide) (fun c_84 => ?_) (fun c_84 => ?_)
        · clear c_84
          refine lv_iload_n hx hb dX11_markOf_53 rfl (lv_at hl 1 rfl) ?_
          refine lv_iload_n hx hb dX11_markOf_54 rfl (lv_at hl 2 rfl) ?_
          refine lv_iconst (v := 2) hx hb dX11_markOf_55 (by decide) ?_
          refine x_callSi (As := [.int kd, .int 2]) S hK hAm hD hP hS mt_X11_isOf wd_1022 ⟨by decide, by decide⟩ (c_X11_isOf l nb nn g L M_83 hD hL kd 2) rfl hl.1 (Nat.le_of_ble_eq_true rfl) ⟨Nat.zero_le _, Nat.zero_le _⟩ dX11_markOf_56 rfl (fun r_85 u H locs hp_ hP hS => ?_)
          obtain ⟨er_85, eu_⟩ := hp_
          rw [eu_] at hP
          clear eu_
          replace hres := xlet_n hres er_85
          refine lv_if_eq (tgt := 67) hx hb dX11_markOf_59 (by decide) (fun c_86 => ?_) (fun c_86 => ?_)
          · replace hres := hres.trans (if_pos c_86)
            refine lv_iconst (v := 0) hx hb dX11_markOf_67 (by decide) ?_
            refine lv_iadd hx hb dX11_markOf_68 ?_
            refine lv_iload_n hx hb dX11_markOf_69 rfl (lv_at hl 2 rfl) ?_
            refine lv_iconst (v := 3) hx hb dX11_markOf_70 (by decide) ?_
            refine lv_icmp_ne (tgt := 83) hx hb dX11_markOf_71 (by decide) (fun c_87 => ?_) (fun c_87 => ?_)
            · exact absurd c_1 c_87
            · clear c_87
              refine lv_aload_n hx hb dX11_markOf_74 rfl (lv_at hl 0 rfl) ?_
              refine gf_RX11_56 hx hb hts hown hK hP (hL 40 0 (xe_40 nb nn)) dX11_markOf_75 ?_
              refine lv_iload_n hx hb dX11_markOf_78 rfl (lv_at hl 1 rfl) ?_
              refine x_iald hx hb hK hP (hL 81 0 (xe_81 nb nn)) (xc81 g 0) (ob_X11_markOf_79_in_5 nb nn q kd M hp0 hp1 hp2 c_1 M_53 eM_53 r_54 er_54 c_55 M_80 eM_80 c_81 M_83 eM_83 r_85 er_85 c_86) dX11_markOf_79 ?_
              refine lv_goto (tgt := 84) hx hb dX11_markOf_80 (by decide) ?_
              refine lv_iadd hx hb dX11_markOf_84 ?_
              refine lv_iload_n hx hb dX11_markOf_85 rfl (lv_at hl 2 rfl) ?_
              refine lv_iconst (v := 5) hx hb dX11_markOf_86 (by decide) ?_
              refine lv_icmp_ne (tgt := 99) hx hb dX11_markOf_87 (by decide) (fun c_88 => ?_) (fun c_88 => ?_)
              · clear c_88
                refine lv_iconst (v := 0) hx hb dX11_markOf_99 (by decide) ?_
                refine lv_iadd hx hb dX11_markOf_100 ?_
                exact x_reti hx hb hr hlk hP hS (hres.symm.trans hF) dX11_markOf_101
              · exact absurd c_88 c_81
          · replace hres := hres.trans (if_neg c_86)
            refine lv_bipush (v := 100) hx hb dX11_markOf_62 (by decide) ?_
            refine lv_goto (tgt := 68) hx hb dX11_markOf_64 (by decide) ?_
            refine lv_iadd hx hb dX11_markOf_68 ?_
            refine lv_iload_n hx hb dX11_markOf_69 rfl (lv_at hl 2 rfl) ?_
            refine lv_iconst (v := 3) hx hb dX11_markOf_70 (by decide) ?_
            refine lv_icmp_ne (tgt := 83) hx hb dX11_markOf_71 (by decide) (fun c_89 => ?_) (fun c_89 => ?_)
            · exact absurd c_1 c_89
            · clear c_89
              refine lv_aload_n hx hb dX11_markOf_74 rfl (lv_at hl 0 rfl) ?_
              refine gf_RX11_56 hx hb hts hown hK hP (hL 40 0 (xe_40 nb nn)) dX11_markOf_75 ?_
              refine lv_iload_n hx hb dX11_markOf_78 rfl (lv_at hl 1 rfl) ?_
              refine x_iald hx hb hK hP (hL 81 0 (xe_81 nb nn)) (xc81 g 0) (ob_X11_markOf_79_in_6 nb nn q kd M hp0 hp1 hp2 c_1 M_53 eM_53 r_54 er_54 c_55 M_80 eM_80 c_81 M_83 eM_83 r_85 er_85 c_86) dX11_markOf_79 ?_
              refine lv_goto (tgt := 84) hx hb dX11_markOf_80 (by decide) ?_
              refine lv_iadd hx hb dX11_markOf_84 ?_
              refine lv_iload_n hx hb dX11_markOf_85 rfl (lv_at hl 2 rfl) ?_
              refine lv_iconst (v := 5) hx hb dX11_markOf_86 (by decide) ?_
              refine lv_icmp_ne (tgt := 99) hx hb dX11_markOf_87 (by decide) (fun c_90 => ?_) (fun c_90 => ?_)
              · clear c_90
                refine lv_iconst (v := 0) hx hb dX11_markOf_99 (by decide) ?_
                refine lv_iadd hx hb dX11_markOf_100 ?_
                exact x_reti hx hb hr hlk hP hS (hres.symm.trans hF) dX11_markOf_101
              · exact absurd c_90 c_81
        · exact absurd c_84 c_81
      · replace hres := hres.trans (if_pos c_81)
        refine lv_aload_n hx hb dX11_markOf_30 rfl (lv_at hl 0 rfl) ?_
        refine lv_bipush (v := 23) hx hb dX11_markOf_31 (by decide) ?_
        refine x_callVv (As := [.int 23]) S hK hAm hD hP hS mt_X11_began wd_1052 ⟨by decide, by decide⟩ (hL 40 0 (xe_40 nb nn)) (xc40 g 0) rfl (c_X11_began l nb nn g L M_80 hD hL 23 (ob_X11_markOf_33_p0_4 nb nn q kd M hp0 hp1 hp2 c_1 M_53 eM_53 r_54 er_54 c_55 M_80 eM_80 c_81)) rfl hl.1 (Nat.le_of_ble_eq_true rfl) ⟨Nat.zero_le _, Nat.zero_le _⟩ dX11_markOf_33 rfl (fun M_92 H locs eM_92 hP hS => ?_)
        replace hres := xlet_n hres eM_92
        refine lv_aload_n hx hb dX11_markOf_36 rfl (lv_at hl 0 rfl) ?_
        refine lv_bipush (v := 20) hx hb dX11_markOf_37 (by decide) ?_
        refine x_callVv (As := [.int 20]) S hK hAm hD hP hS mt_X11_began wd_1052 ⟨by decide, by decide⟩ (hL 40 0 (xe_40 nb nn)) (xc40 g 0) rfl (c_X11_began l nb nn g L M_92 hD hL 20 (ob_X11_markOf_39_p0_8 nb nn q kd M hp0 hp1 hp2 c_1 M_53 eM_53 r_54 er_54 c_55 M_80 eM_80 c_81 M_92 eM_92)) rfl hl.1 (Nat.le_of_ble_eq_true rfl) ⟨Nat.zero_le _, Nat.zero_le _⟩ dX11_markOf_39 rfl (fun M_94 H locs eM_94 hP hS => ?_)
        replace hres := xlet_n hres eM_94
        refine lv_iload_n hx hb dX11_markOf_42 rfl (lv_at hl 2 rfl) ?_
        refine lv_iconst (v := 5) hx hb dX11_markOf_43 (by decide) ?_
        refine lv_icmp_ne (tgt := 53) hx hb dX11_markOf_44 (by decide) (fun c_95 => ?_) (fun c_95 => ?_)
        · exact absurd c_81 c_95
        · clear c_95
          refine lv_aload_n hx hb dX11_markOf_47 rfl (lv_at hl 0 rfl) ?_
          refine lv_bipush (v := 10) hx hb dX11_markOf_48 (by decide) ?_
          refine x_callVv (As := [.int 10]) S hK hAm hD hP hS mt_X11_began wd_1052 ⟨by decide, by decide⟩ (hL 40 0 (xe_40 nb nn)) (xc40 g 0) rfl (c_X11_began l nb nn g L M_94 hD hL 10 (ob_X11_markOf_50_p0_4 nb nn q kd M hp0 hp1 hp2 c_1 M_53 eM_53 r_54 er_54 c_55 M_80 eM_80 c_81 M_92 eM_92 M_94 eM_94)) rfl hl.1 (Nat.le_of_ble_eq_true rfl) ⟨Nat.zero_le _, Nat.zero_le _⟩ dX11_markOf_50 rfl (fun M_97 H locs eM_97 hP hS => ?_)
          replace hres := xlet_n hres eM_97
          refine lv_iload_n hx hb dX11_markOf_53 rfl (lv_at hl 1 rfl) ?_
          refine lv_iload_n hx hb dX11_markOf_54 rfl (lv_at hl 2 rfl) ?_
          refine lv_iconst (v := 2) hx hb dX11_markOf_55 (by decide) ?_
          refine x_callSi (As := [.int kd, .int 2]) S hK hAm hD hP hS mt_X11_isOf wd_1022 ⟨by decide, by decide⟩ (c_X11_isOf l nb nn g L M_97 hD hL kd 2) rfl hl.1 (Nat.le_of_ble_eq_true rfl) ⟨Nat.zero_le _, Nat.zero_le _⟩ dX11_markOf_56 rfl (fun r_98 u H locs hp_ hP hS => ?_)
          obtain ⟨er_98, eu_⟩ := hp_
          rw [eu_] at hP
          clear eu_
          replace hres := xlet_n hres er_98
          refine lv_if_eq (tgt := 67) hx hb dX11_markOf_59 (by decide) (fun c_99 => ?_) (fun c_99 => ?_)
          · replace hres := hres.trans (if_pos c_99)
            refine lv_iconst (v := 0) hx hb dX11_markOf_67 (by decide) ?_
            refine lv_iadd hx hb dX11_markOf_68 ?_
            refine lv_iload_n hx hb dX11_markOf_69 rfl (lv_at hl 2 rfl) ?_
            refine lv_iconst (v := 3) hx hb dX11_markOf_70 (by decide) ?_
            refine lv_icmp_ne (tgt := 83) hx hb dX11_markOf_71 (by decide) (fun c_100 => ?_) (fun c_100 => ?_)
            · exact absurd c_1 c_100
            · clear c_100
              refine lv_aload_n hx hb dX11_markOf_74 rfl (lv_at hl 0 rfl) ?_
              refine gf_RX11_56 hx hb hts hown hK hP (hL 40 0 (xe_40 nb nn)) dX11_markOf_75 ?_
              refine lv_iload_n hx hb dX11_markOf_78 rfl (lv_at hl 1 rfl) ?_
              refine x_iald hx hb hK hP (hL 81 0 (xe_81 nb nn)) (xc81 g 0) (ob_X11_markOf_79_in_7 nb nn q kd M hp0 hp1 hp2 c_1 M_53 eM_53 r_54 er_54 c_55 M_80 eM_80 c_81 M_92 eM_92 M_94 eM_94 M_97 eM_97 r_98 er_98 c_99) dX11_markOf_79 ?_
              refine lv_goto (tgt := 84) hx hb dX11_markOf_80 (by decide) ?_
              refine lv_iadd hx hb dX11_markOf_84 ?_
              refine lv_iload_n hx hb dX11_markOf_85 rfl (lv_at hl 2 rfl) ?_
              refine lv_iconst (v := 5) hx hb dX11_markOf_86 (by decide) ?_
              refine lv_icmp_ne (tgt := 99) hx hb dX11_markOf_87 (by decide) (fun c_101 => ?_) (fun c_101 => ?_)
              · exact absurd c_81 c_101
              · clear c_101
                refine lv_aload_n hx hb dX11_markOf_90 rfl (lv_at hl 0 rfl) ?_
                refine gf_RX11_59 hx hb hts hown hK hP (hL 40 0 (xe_40 nb nn)) dX11_markOf_91 ?_
                refine lv_iload_n hx hb dX11_markOf_94 rfl (lv_at hl 1 rfl) ?_
                refine x_iald hx hb hK hP (hL 82 0 (xe_82 nb nn)) (xc82 g 0) (ob_X11_markOf_95_in_7 nb nn q kd M hp0 hp1 hp2 c_1 M_53 eM_53 r_54 er_54 c_55 M_80 eM_80 c_81 M_92 eM_92 M_94 eM_94 M_97 eM_97 r_98 er_98 c_99) dX11_markOf_95 ?_
                refine lv_goto (tgt := 100) hx hb dX11_markOf_96 (by decide) ?_
                refine lv_iadd hx hb dX11_markOf_100 ?_
                exact x_reti hx hb hr hlk hP hS (hres.symm.trans hF) dX11_markOf_101
          · replace hres := hres.trans (if_neg c_99)
            refine lv_bipush (v := 100) hx hb dX11_markOf_62 (by decide) ?_
            refine lv_goto (tgt := 68) hx hb dX11_markOf_64 (by decide) ?_
            refine lv_iadd hx hb dX11_markOf_68 ?_
            refine lv_iload_n hx hb dX11_markOf_69 rfl (lv_at hl 2 rfl) ?_
            refine lv_iconst (v := 3) hx hb dX11_markOf_70 (by decide) ?_
            refine lv_icmp_ne (tgt := 83) hx hb dX11_markOf_71 (by decide) (fun c_102 => ?_) (fun c_102 => ?_)
            · exact absurd c_1 c_102
            · clear c_102
              refine lv_aload_n hx hb dX11_markOf_74 rfl (lv_at hl 0 rfl) ?_
              refine gf_RX11_56 hx hb hts hown hK hP (hL 40 0 (xe_40 nb nn)) dX11_markOf_75 ?_
              refine lv_iload_n hx hb dX11_markOf_78 rfl (lv_at hl 1 rfl) ?_
              refine x_iald hx hb hK hP (hL 81 0 (xe_81 nb nn)) (xc81 g 0) (ob_X11_markOf_79_in_8 nb nn q kd M hp0 hp1 hp2 c_1 M_53 eM_53 r_54 er_54 c_55 M_80 eM_80 c_81 M_92 eM_92 M_94 eM_94 M_97 eM_97 r_98 er_98 c_99) dX11_markOf_79 ?_
              refine lv_goto (tgt := 84) hx hb dX11_markOf_80 (by decide) ?_
              refine lv_iadd hx hb dX11_markOf_84 ?_
              refine lv_iload_n hx hb dX11_markOf_85 rfl (lv_at hl 2 rfl) ?_
              refine lv_iconst (v := 5) hx hb dX11_markOf_86 (by decide) ?_
              refine lv_icmp_ne (tgt := 99) hx hb dX11_markOf_87 (by decide) (fun c_103 => ?_) (fun c_103 => ?_)
              · exact absurd c_81 c_103
              · clear c_103
                refine lv_aload_n hx hb dX11_markOf_90 rfl (lv_at hl 0 rfl) ?_
                refine gf_RX11_59 hx hb hts hown hK hP (hL 40 0 (xe_40 nb nn)) dX11_markOf_91 ?_
                refine lv_iload_n hx hb dX11_markOf_94 rfl (lv_at hl 1 rfl) ?_
                refine x_iald hx hb hK hP (hL 82 0 (xe_82 nb nn)) (xc82 g 0) (ob_X11_markOf_95_in_8 nb nn q kd M hp0 hp1 hp2 c_1 M_53 eM_53 r_54 er_54 c_55 M_80 eM_80 c_81 M_92 eM_92 M_94 eM_94 M_97 eM_97 r_98 er_98 c_99) dX11_markOf_95 ?_
                refine lv_goto (tgt := 100) hx hb dX11_markOf_96 (by decide) ?_
                refine lv_iadd hx hb dX11_markOf_100 ?_
                exact x_reti hx hb hr hlk hP hS (hres.symm.trans hF) dX11_markOf_101
set_option maxHeartbeats 4000000 in
set_option maxRecDepth 100000 in
theorem c_X11_sizeOf (l : Launch) (nb nn : Nat) (g : xG) (L : List (Nat × Nat)) (M : xM) (hD : xD g L) (hL : xEL nb nn L) (q : Int32) (kd : Int32) (hp0 : 0 ≤ q) (hp1 : q < 24) (hp2 : 0 ≤ M 40 0 50) : xCi l yX11_sizeOf cX11_sizeOf 4 (some .int) 2 g L M [.ref (xad g 40 0), .int q, .int kd] (fun r u => (r, u) = f_X11_sizeOf q kd M) := by
  intro sz
  refine x_beg (by decide +kernel) rfl ?_
  intro p e s m args below meth c ls hsz hB
  subst hsz
  obtain ⟨hx, hb, hml, hown, hts, hr, hlk, hK, hAm, hP, hl⟩ := hB
  have S : CallFix p m c cX11_sizeOf 4 s args (xws yX11_sizeOf cX11_sizeOf 4 (some .int)) RX11 := ⟨hx, hb, hml, hown, hts⟩
  have hown : s.vm.findClass RX11 = some m.cls := hown
  have hl : lv_has ls 4 [(0, .ref (xad g 40 0)), (1, .int q), (2, .int kd)] := hl
  have hS : va_S (xA g L s.heap.size) s.heap s.heap [] := va_S.rf
  obtain ⟨F, hF⟩ : ∃ F, F = f_X11_sizeOf q kd M := ⟨_, rfl⟩
  have hres := hF
  rw [f_X11_sizeOf] at hres
  refine lv_iload_n hx hb dX11_sizeOf_0 rfl (lv_at hl 2 rfl) ?_
  refine lv_iconst (v := 2) hx hb dX11_sizeOf_1 (by decide) ?_
  refine x_callSi (As := [.int kd, .int 2]) S hK hAm hD hP hS mt_X11_isOf wd_1022 ⟨by decide, by decide⟩ (c_X11_isOf l nb nn g L M hD hL kd 2) rfl hl.1 (Nat.le_of_ble_eq_true rfl) ⟨Nat.zero_le _, Nat.zero_le _⟩ dX11_sizeOf_2 rfl (fun r_1 u H locs hp_ hP hS => ?_)
  obtain ⟨er_1, eu_⟩ := hp_
  rw [eu_] at hP
  clear eu_
  replace hres := xlet_n hres er_1
  refine lv_if_eq (tgt := 46) hx hb dX11_sizeOf_5 (by decide) (fun c_2 => ?_) (fun c_2 => ?_)
  · replace hres := hres.trans (if_pos c_2)
    refine lv_iload_n hx hb dX11_sizeOf_46 rfl (lv_at hl 2 rfl) ?_
    refine lv_iconst (v := 1) hx hb dX11_sizeOf_47 (by decide) ?_
    refine lv_icmp_eq (tgt := 56) hx hb dX11_sizeOf_48 (by decide) (fun c_3 => ?_) (fun c_3 => ?_)
    · replace hres := hres.trans (if_pos c_3)
      refine lv_aload_n hx hb dX11_sizeOf_56 rfl (lv_at hl 0 rfl) ?_
      refine lv_iload_n hx hb dX11_sizeOf_57 rfl (lv_at hl 2 rfl) ?_
      refine lv_iconst (v := 1) hx hb dX11_sizeOf_58 (by decide) ?_
      refine lv_icmp_ne (tgt := 67) hx hb dX11_sizeOf_59 (by decide) (fun c_4 => ?_) (fun c_4 => ?_)
      · exact absurd c_3 c_4
      · clear c_4
        refine lv_bipush (v := 11) hx hb dX11_sizeOf_62 (by decide) ?_
        refine lv_goto (tgt := 69) hx hb dX11_sizeOf_64 (by decide) ?_
        refine x_callVv (As := [.int 11]) S hK hAm hD hP hS mt_X11_began wd_1052 ⟨by decide, by decide⟩ (hL 40 0 (xe_40 nb nn)) (xc40 g 0) rfl (c_X11_began l nb nn g L M hD hL 11 (ob_X11_sizeOf_69_p0 nb nn q kd M hp0 hp1 hp2 r_1 er_1 c_2 c_3)) rfl hl.1 (Nat.le_of_ble_eq_true rfl) ⟨Nat.zero_le _, Nat.zero_le _⟩ dX11_sizeOf_69 rfl (fun M_6 H locs eM_6 hP hS => ?_)
        replace hres := xlet_n hres eM_6
        refine lv_aload_n hx hb dX11_sizeOf_72 rfl (lv_at hl 0 rfl) ?_
        refine lv_bipush (v := 10) hx hb dX11_sizeOf_73 (by decide) ?_
        refine x_callVv (As := [.int 10]) S hK hAm hD hP hS mt_X11_began wd_1052 ⟨by decide, by decide⟩ (hL 40 0 (xe_40 nb nn)) (xc40 g 0) rfl (c_X11_began l nb nn g L M_6 hD hL 10 (ob_X11_sizeOf_75_p0 nb nn q kd M hp0 hp1 hp2 r_1 er_1 c_2 c_3 M_6 eM_6)) rfl hl.1 (Nat.le_of_ble_eq_true rfl) ⟨Nat.zero_le _, Nat.zero_le _⟩ dX11_sizeOf_75 rfl (fun M_8 H locs eM_8 hP hS => ?_)
        replace hres := xlet_n hres eM_8
        refine lv_iload_n hx hb dX11_sizeOf_78 rfl (lv_at hl 2 rfl) ?_
        refine lv_iconst (v := 1) hx hb dX11_sizeOf_79 (by decide) ?_
        refine lv_icmp_ne (tgt := 102) hx hb dX11_sizeOf_80 (by decide) (fun c_9 => ?_) (fun c_9 => ?_)
        · exact absurd c_3 c_9
        · clear c_9
          refine lv_aload_n hx hb dX11_sizeOf_83 rfl (lv_at hl 0 rfl) ?_
          refine gf_RX11_59 hx hb hts hown hK hP (hL 40 0 (xe_40 nb nn)) dX11_sizeOf_84 ?_
          refine lv_iload_n hx hb dX11_sizeOf_87 rfl (lv_at hl 1 rfl) ?_
          refine x_iald hx hb hK hP (hL 82 0 (xe_82 nb nn)) (xc82 g 0) (ob_X11_sizeOf_88_in nb nn q kd M hp0 hp1 hp2 r_1 er_1 c_2 c_3 M_6 eM_6 M_8 eM_8) dX11_sizeOf_88 ?_
          refine lv_aload_n hx hb dX11_sizeOf_89 rfl (lv_at hl 0 rfl) ?_
          refine gf_RX11_65 hx hb hts hown hK hP (hL 40 0 (xe_40 nb nn)) dX11_sizeOf_90 ?_
          refine lv_iload_n hx hb dX11_sizeOf_93 rfl (lv_at hl 1 rfl) ?_
          refine x_iald hx hb hK hP (hL 84 0 (xe_84 nb nn)) (xc84 g 0) (ob_X11_sizeOf_94_in nb nn q kd M hp0 hp1 hp2 r_1 er_1 c_2 c_3 M_6 eM_6 M_8 eM_8) dX11_sizeOf_94 ?_
          refine x_callSi (As := [.int (M_8 84 0 q.toNatClampNeg)]) S hK hAm hD hP hS mt_X11_bits wd_1060 ⟨by decide, by decide⟩ (c_X11_bits l nb nn g L M_8 hD hL (M_8 84 0 q.toNatClampNeg)) rfl hl.1 (Nat.le_of_ble_eq_true rfl) ⟨Nat.zero_le _, Nat.zero_le _⟩ dX11_sizeOf_95 rfl (fun r_10 u H locs hp_ hP hS => ?_)
          obtain ⟨er_10, eu_⟩ := hp_
          rw [eu_] at hP
          clear eu_
          replace hres := xlet_n hres er_10
          refine lv_isub hx hb dX11_sizeOf_98 ?_
          refine lv_goto (tgt := 124) hx hb dX11_sizeOf_99 (by decide) ?_
          exact x_reti hx hb hr hlk hP hS (hres.symm.trans hF) dX11_sizeOf_124
    · replace hres := hres.trans (if_neg c_3)
      refine lv_iload_n hx hb dX11_sizeOf_51 rfl (lv_at hl 2 rfl) ?_
      refine lv_iconst (v := 4) hx hb dX11_sizeOf_52 (by decide) ?_
      refine lv_icmp_ne (tgt := 72) hx hb dX11_sizeOf_53 (by decide) (fun c_11 => ?_) (fun c_11 => ?_)
      · replace hres := hres.trans (if_neg c_11)
        refine lv_aload_n hx hb dX11_sizeOf_72 rfl (lv_at hl 0 rfl) ?_
        refine lv_bipush (v := 10) hx hb dX11_sizeOf_73 (by decide) ?_
        refine x_callVv (As := [.int 10]) S hK hAm hD hP hS mt_X11_began wd_1052 ⟨by decide, by decide⟩ (hL 40 0 (xe_40 nb nn)) (xc40 g 0) rfl (c_X11_began l nb nn g L M hD hL 10 (ob_X11_sizeOf_75_p0_2 nb nn q kd M hp0 hp1 hp2 r_1 er_1 c_2 c_3 c_11)) rfl hl.1 (Nat.le_of_ble_eq_true rfl) ⟨Nat.zero_le _, Nat.zero_le _⟩ dX11_sizeOf_75 rfl (fun M_13 H locs eM_13 hP hS => ?_)
        replace hres := xlet_n hres eM_13
        refine lv_iload_n hx hb dX11_sizeOf_78 rfl (lv_at hl 2 rfl) ?_
        refine lv_iconst (v := 1) hx hb dX11_sizeOf_79 (by decide) ?_
        refine lv_icmp_ne (tgt := 102) hx hb dX11_sizeOf_80 (by decide) (fun c_14 => ?_) (fun c_14 => ?_)
        · clear c_14
          refine lv_iload_n hx hb dX11_sizeOf_102 rfl (lv_at hl 2 rfl) ?_
          refine lv_iconst (v := 4) hx hb dX11_sizeOf_103 (by decide) ?_
          refine lv_icmp_ne (tgt := 118) hx hb dX11_sizeOf_104 (by decide) (fun c_15 => ?_) (fun c_15 => ?_)
          · clear c_15
            refine lv_aload_n hx hb dX11_sizeOf_118 rfl (lv_at hl 0 rfl) ?_
            refine gf_RX11_59 hx hb hts hown hK hP (hL 40 0 (xe_40 nb nn)) dX11_sizeOf_119 ?_
            refine lv_iload_n hx hb dX11_sizeOf_122 rfl (lv_at hl 1 rfl) ?_
            refine x_iald hx hb hK hP (hL 82 0 (xe_82 nb nn)) (xc82 g 0) (ob_X11_sizeOf_123_in nb nn q kd M hp0 hp1 hp2 r_1 er_1 c_2 c_3 c_11 M_13 eM_13) dX11_sizeOf_123 ?_
            exact x_reti hx hb hr hlk hP hS (hres.symm.trans hF) dX11_sizeOf_124
          · exact absurd c_15 c_11
        · exact absurd c_14 c_3
      · replace hres := hres.trans (if_pos c_11)
        refine lv_aload_n hx hb dX11_sizeOf_56 rfl (lv_at hl 0 rfl) ?_
        refine lv_iload_n hx hb dX11_sizeOf_57 rfl (lv_at hl 2 rfl) ?_
        refine lv_iconst (v := 1) hx hb dX11_sizeOf_58 (by decide) ?_
        refine lv_icmp_ne (tgt := 67) hx hb dX11_sizeOf_59 (by decide) (fun c_16 => ?_) (fun c_16 => ?_)
        · clear c_16
          refine lv_bipush (v := 14) hx hb dX11_sizeOf_67 (by decide) ?_
          refine x_callVv (As := [.int 14]) S hK hAm hD hP hS mt_X11_began wd_1052 ⟨by decide, by decide⟩ (hL 40 0 (xe_40 nb nn)) (xc40 g 0) rfl (c_X11_began l nb nn g L M hD hL 14 (ob_X11_sizeOf_69_p0_2 nb nn q kd M hp0 hp1 hp2 r_1 er_1 c_2 c_3 c_11)) rfl hl.1 (Nat.le_of_ble_eq_true rfl) ⟨Nat.zero_le _, Nat.zero_le _⟩ dX11_sizeOf_69 rfl (fun M_18 H locs eM_18 hP hS => ?_)
          replace hres := xlet_n hres eM_18
          refine lv_aload_n hx hb dX11_sizeOf_72 rfl (lv_at hl 0 rfl) ?_
          refine lv_bipush (v := 10) hx hb dX11_sizeOf_73 (by decide) ?_
          refine x_callVv (As := [.int 10]) S hK hAm hD hP hS mt_X11_began wd_1052 ⟨by decide, by decide⟩ (hL 40 0 (xe_40 nb nn)) (xc40 g 0) rfl (c_X11_began l nb nn g L M_18 hD hL 10 (ob_X11_sizeOf_75_p0_3 nb nn q kd M hp0 hp1 hp2 r_1 er_1 c_2 c_3 c_11 M_18 eM_18)) rfl hl.1 (Nat.le_of_ble_eq_true rfl) ⟨Nat.zero_le _, Nat.zero_le _⟩ dX11_sizeOf_75 rfl (fun M_20 H locs eM_20 hP hS => ?_)
          replace hres := xlet_n hres eM_20
          refine lv_iload_n hx hb dX11_sizeOf_78 rfl (lv_at hl 2 rfl) ?_
          refine lv_iconst (v := 1) hx hb dX11_sizeOf_79 (by decide) ?_
          refine lv_icmp_ne (tgt := 102) hx hb dX11_sizeOf_80 (by decide) (fun c_21 => ?_) (fun c_21 => ?_)
          · clear c_21
            refine lv_iload_n hx hb dX11_sizeOf_102 rfl (lv_at hl 2 rfl) ?_
            refine lv_iconst (v := 4) hx hb dX11_sizeOf_103 (by decide) ?_
            refine lv_icmp_ne (tgt := 118) hx hb dX11_sizeOf_104 (by decide) (fun c_22 => ?_) (fun c_22 => ?_)
            · exact absurd c_11 c_22
            · clear c_22
              refine lv_aload_n hx hb dX11_sizeOf_107 rfl (lv_at hl 0 rfl) ?_
              refine gf_RX11_59 hx hb hts hown hK hP (hL 40 0 (xe_40 nb nn)) dX11_sizeOf_108 ?_
              refine lv_iload_n hx hb dX11_sizeOf_111 rfl (lv_at hl 1 rfl) ?_
              refine x_iald hx hb hK hP (hL 82 0 (xe_82 nb nn)) (xc82 g 0) (ob_X11_sizeOf_112_in nb nn q kd M hp0 hp1 hp2 r_1 er_1 c_2 c_3 c_11 M_18 eM_18 M_20 eM_20) dX11_sizeOf_112 ?_
              refine lv_iconst (v := 2) hx hb dX11_sizeOf_113 (by decide) ?_
              refine lv_idiv hx hb dX11_sizeOf_114 (by decide) ?_
              refine lv_goto (tgt := 124) hx hb dX11_sizeOf_115 (by decide) ?_
              exact x_reti hx hb hr hlk hP hS (hres.symm.trans hF) dX11_sizeOf_124
          · exact absurd c_21 c_3
        · exact absurd c_16 c_3
  · replace hres := hres.trans (if_neg c_2)
    refine lv_iload_n hx hb dX11_sizeOf_8 rfl (lv_at hl 2 rfl) ?_
    refine lv_iconst (v := 3) hx hb dX11_sizeOf_9 (by decide) ?_
    refine lv_icmp_ne (tgt := 19) hx hb dX11_sizeOf_10 (by decide) (fun c_23 => ?_) (fun c_23 => ?_)
    · replace hres := hres.trans (if_neg c_23)
      refine lv_aload_n hx hb dX11_sizeOf_19 rfl (lv_at hl 0 rfl) ?_
      refine lv_bipush (v := 12) hx hb dX11_sizeOf_20 (by decide) ?_
      refine x_callVv (As := [.int 12]) S hK hAm hD hP hS mt_X11_began wd_1052 ⟨by decide, by decide⟩ (hL 40 0 (xe_40 nb nn)) (xc40 g 0) rfl (c_X11_began l nb nn g L M hD hL 12 (ob_X11_sizeOf_22_p0 nb nn q kd M hp0 hp1 hp2 r_1 er_1 c_2 c_23)) rfl hl.1 (Nat.le_of_ble_eq_true rfl) ⟨Nat.zero_le _, Nat.zero_le _⟩ dX11_sizeOf_22 rfl (fun M_25 H locs eM_25 hP hS => ?_)
      replace hres := xlet_n hres eM_25
      refine lv_aload_n hx hb dX11_sizeOf_25 rfl (lv_at hl 0 rfl) ?_
      refine lv_iload_n hx hb dX11_sizeOf_26 rfl (lv_at hl 1 rfl) ?_
      refine lv_iload_n hx hb dX11_sizeOf_27 rfl (lv_at hl 2 rfl) ?_
      refine x_callVi (As := [.int q, .int kd]) S hK hAm hD hP hS mt_X11_markOf wd_1056 ⟨by decide, by decide⟩ (hL 40 0 (xe_40 nb nn)) (xc40 g 0) rfl (c_X11_markOf l nb nn g L M_25 hD hL q kd (ob_X11_sizeOf_28_p0 nb nn q kd M hp0 hp1 hp2 r_1 er_1 c_2 c_23 M_25 eM_25) (ob_X11_sizeOf_28_p1 nb nn q kd M hp0 hp1 hp2 r_1 er_1 c_2 c_23 M_25 eM_25) (ob_X11_sizeOf_28_p2 nb nn q kd M hp0 hp1 hp2 r_1 er_1 c_2 c_23 M_25 eM_25)) rfl hl.1 (Nat.le_of_ble_eq_true rfl) ⟨Nat.zero_le _, Nat.zero_le _⟩ dX11_sizeOf_28 rfl (fun r_26 M_27 H locs ep_ hP hS => ?_)
      replace hres := xlet2_n hres ep_
      have er_26 : r_26 = (f_X11_markOf q kd M_25).1 := congrArg Prod.fst ep_
      have eM_27 : M_27 = (f_X11_markOf q kd M_25).2 := congrArg Prod.snd ep_
      clear ep_
      refine lv_ineg hx hb dX11_sizeOf_31 ?_
      refine lv_topi (fun x3_28 ex3_28 => ?_)
      replace hres := xlet_n hres ex3_28
      refine lv_istore_n (lv' := [(3, .int x3_28), (0, .ref (xad g 40 0)), (1, .int q), (2, .int kd)]) hx hb dX11_sizeOf_32 rfl hl (by decide) rfl (fun ls hl => ?_)
      refine lv_iload_n hx hb dX11_sizeOf_33 rfl (lv_at hl 3 rfl) ?_
      refine lv_iconst (v := 3) hx hb dX11_sizeOf_34 (by decide) ?_
      refine lv_icmp_ne (tgt := 44) hx hb dX11_sizeOf_35 (by decide) (fun c_29 => ?_) (fun c_29 => ?_)
      · clear c_29
        refine lv_iload_n hx hb dX11_sizeOf_44 rfl (lv_at hl 0 rfl) ?_
        exact x_reti hx hb hr hlk hP hS (hres.symm.trans hF) dX11_sizeOf_45
      · exact absurd c_29 c_23
    · replace hres := hres.trans (if_pos c_23)
      refine lv_aload_n hx hb dX11_sizeOf_13 rfl (lv_at hl 0 rfl) ?_
      refine lv_bipush (v := 13) hx hb dX11_sizeOf_14 (by decide) ?_
      refine x_callVv (As := [.int 13]) S hK hAm hD hP hS mt_X11_began wd_1052 ⟨by decide, by decide⟩ (hL 40 0 (xe_40 nb nn)) (xc40 g 0) rfl (c_X11_began l nb nn g L M hD hL 13 (ob_X11_sizeOf_16_p0 nb nn q kd M hp0 hp1 hp2 r_1 er_1 c_2 c_23)) rfl hl.1 (Nat.le_of_ble_eq_true rfl) ⟨Nat.zero_le _, Nat.zero_le _⟩ dX11_sizeOf_16 rfl (fun M_31 H locs eM_31 hP hS => ?_)
      replace hres := xlet_n hres eM_31
      refine lv_aload_n hx hb dX11_sizeOf_19 rfl (lv_at hl 0 rfl) ?_
      refine lv_bipush (v := 12) hx hb dX11_sizeOf_20 (by decide) ?_
      refine x_callVv (As := [.int 12]) S hK hAm hD hP hS mt_X11_began wd_1052 ⟨by decide, by decide⟩ (hL 40 0 (xe_40 nb nn)) (xc40 g 0) rfl (c_X11_began l nb nn g L M_31 hD hL 12 (ob_X11_sizeOf_22_p0_2 nb nn q kd M hp0 hp1 hp2 r_1 er_1 c_2 c_23 M_31 eM_31)) rfl hl.1 (Nat.le_of_ble_eq_true rfl) ⟨Nat.zero_le _, Nat.zero_le _⟩ dX11_sizeOf_22 rfl (fun M_33 H locs eM_33 hP hS => ?_)
      replace hres := xlet_n hres eM_33
      refine lv_aload_n hx hb dX11_sizeOf_25 rfl (lv_at hl 0 rfl) ?_
      refine lv_iload_n hx hb dX11_sizeOf_26 rfl (lv_at hl 1 rfl) ?_
      refine lv_iload_n hx hb dX11_sizeOf_27 rfl (lv_at hl 2 rfl) ?_
      refine x_callVi (As := [.int q, .int kd]) S hK hAm hD hP hS mt_X11_markOf wd_1056 ⟨by decide, by decide⟩ (hL 40 0 (xe_40 nb nn)) (xc40 g 0) rfl (c_X11_markOf l nb nn g L M_33 hD hL q kd (ob_X11_sizeOf_28_p0_2 nb nn q kd M hp0 hp1 hp2 r_1 er_1 c_2 c_23 M_31 eM_31 M_33 eM_33) (ob_X11_sizeOf_28_p1_2 nb nn q kd M hp0 hp1 hp2 r_1 er_1 c_2 c_23 M_31 eM_31 M_33 eM_33) (ob_X11_sizeOf_28_p2_2 nb nn q kd M hp0 hp1 hp2 r_1 er_1 c_2 c_23 M_31 eM_31 M_33 eM_33)) rfl hl.1 (Nat.le_of_ble_eq_true rfl) ⟨Nat.zero_le _, Nat.zero_le _⟩ dX11_sizeOf_28 rfl (fun r_34 M_35 H locs ep_ hP hS => ?_)
      replace hres := xlet2_n hres ep_
      have er_34 : r_34 = (f_X11_markOf q kd M_33).1 := congrArg Prod.fst ep_
      have eM_35 : M_35 = (f_X11_markOf q kd M_33).2 := congrArg Prod.snd ep_
      clear ep_
      refine lv_ineg hx hb dX11_sizeOf_31 ?_
      refine lv_topi (fun x3_36 ex3_36 => ?_)
      replace hres := xlet_n hres ex3_36
      refine lv_istore_n (lv' := [(3, .int x3_36), (0, .ref (xad g 40 0)), (1, .int q), (2, .int kd)]) hx hb dX11_sizeOf_32 rfl hl (by decide) rfl (fun ls hl => ?_)
      refine lv_iload_n hx hb dX11_sizeOf_33 rfl (lv_at hl 3 rfl) ?_
      refine lv_iconst (v := 3) hx hb dX11_sizeOf_34 (by decide) ?_
      refine lv_icmp_ne (tgt := 44) hx hb dX11_sizeOf_35 (by decide) (fun c_37 => ?_) (fun c_37 => ?_)
      · exact absurd c_23 c_37
      · clear c_37
        refine lv_iconst (v := 2) hx hb dX11_sizeOf_38 (by decide) ?_
        refine lv_iload_n hx hb dX11_sizeOf_39 rfl (lv_at hl 0 rfl) ?_
        refine lv_imul hx hb dX11_sizeOf_40 ?_
        refine lv_goto (tgt := 45) hx hb dX11_sizeOf_41 (by decide) ?_
        exact x_reti hx hb hr hlk hP hS (hres.symm.trans hF) dX11_sizeOf_45
set_option maxHeartbeats 4000000 in
set_option maxRecDepth 100000 in
theorem c_X11_ask (l : Launch) (nb nn : Nat) (g : xG) (L : List (Nat × Nat)) (M : xM) (hD : xD g L) (hL : xEL nb nn L) (q : Int32) (what : Int32) (hp0 : mI M) : xCi l yX11_ask cX11_ask 3 (some .int) 3 g L M [.ref (xad g 40 0), .int q, .int what] (fun r u => (r, u) = f_X11_ask q what M) := by
  intro sz
  refine x_beg (by decide +kernel) rfl ?_
  intro p e s m args below meth c ls hsz hB
  subst hsz
  obtain ⟨hx, hb, hml, hown, hts, hr, hlk, hK, hAm, hP, hl⟩ := hB
  have S : CallFix p m c cX11_ask 3 s args (xws yX11_ask cX11_ask 3 (some .int)) RX11 := ⟨hx, hb, hml, hown, hts⟩
  have hown : s.vm.findClass RX11 = some m.cls := hown
  have hl : lv_has ls 3 [(0, .ref (xad g 40 0)), (1, .int q), (2, .int what)] := hl
  have hS : va_S (xA g L s.heap.size) s.heap s.heap [] := va_S.rf
  obtain ⟨F, hF⟩ : ∃ F, F = f_X11_ask q what M := ⟨_, rfl⟩
  have hres := hF
  rw [f_X11_ask] at hres
  refine lv_aload_n hx hb dX11_ask_0 rfl (lv_at hl 0 rfl) ?_
  refine lv_iconst (v := 0) hx hb dX11_ask_1 (by decide) ?_
  refine pf_RX11_113 hx hb hts hown hK hP hD hS (hL 40 0 (xe_40 nb nn)) dX11_ask_2 (fun H locs hP hS => ?_)
  obtain ⟨M_1, eM_1⟩ : ∃ z_ : xM, z_ = xup M 40 0 0 0 := ⟨_, rfl⟩
  rw [← eM_1] at hP
  replace hres := xlet_n hres eM_1
  refine lv_aload_n hx hb dX11_ask_5 rfl (lv_at hl 0 rfl) ?_
  refine lv_iload_n hx hb dX11_ask_6 rfl (lv_at hl 1 rfl) ?_
  refine x_callVi (As := [.int q]) S hK hAm hD hP hS mt_X11_isNote wd_738 ⟨by decide, by decide⟩ (hL 40 0 (xe_40 nb nn)) (xc40 g 0) rfl (c_X11_isNote l nb nn g L M_1 hD hL q) rfl hl.1 (Nat.le_of_ble_eq_true rfl) ⟨Nat.zero_le _, Nat.zero_le _⟩ dX11_ask_7 rfl (fun r_2 u H locs hp_ hP hS => ?_)
  obtain ⟨er_2, eu_⟩ := hp_
  rw [eu_] at hP
  clear eu_
  replace hres := xlet_n hres er_2
  refine lv_if_eq (tgt := 23) hx hb dX11_ask_10 (by decide) (fun c_3 => ?_) (fun c_3 => ?_)
  · replace hres := hres.trans (if_pos c_3)
    refine lv_ldc (own := RX11) (v := (-1000001)) hx hb hown (hts _ (List.mem_cons_of_mem _ wd_202)) dX11_ask_23 ?_
    exact x_reti hx hb hr hlk hP hS (hres.symm.trans hF) dX11_ask_25
  · replace hres := hres.trans (if_neg c_3)
    refine lv_iload_n hx hb dX11_ask_13 rfl (lv_at hl 2 rfl) ?_
    refine lv_i2l (v := what.toInt64) hx hb dX11_ask_14 rfl ?_
    refine lv_lconst (v := 0) hx hb dX11_ask_15 (by decide) ?_
    refine lv_lconst (v := 1) hx hb dX11_ask_16 (by decide) ?_
    refine x_callSi (As := [.long (what.toInt64), .long 0, .long 1]) S hK hAm hD hP hS mt_X11_in wd_208 ⟨by decide, by decide⟩ (c_X11_in l nb nn g L M_1 hD hL (what.toInt64) 0 1) rfl hl.1 (Nat.le_of_ble_eq_true rfl) ⟨Nat.zero_le _, Nat.zero_le _⟩ dX11_ask_17 rfl (fun r_4 u H locs hp_ hP hS => ?_)
    obtain ⟨er_4, eu_⟩ := hp_
    rw [eu_] at hP
    clear eu_
    replace hres := xlet_n hres er_4
    refine lv_if_ne (tgt := 26) hx hb dX11_ask_20 (by decide) (fun c_5 => ?_) (fun c_5 => ?_)
    · replace hres := hres.trans (if_neg c_5)
      refine lv_aload_n hx hb dX11_ask_26 rfl (lv_at hl 0 rfl) ?_
      refine lv_iconst (v := 0) hx hb dX11_ask_27 (by decide) ?_
      refine pf_RX11_321 hx hb hts hown hK hP hD hS (hL 40 0 (xe_40 nb nn)) dX11_ask_28 (fun H locs hP hS => ?_)
      obtain ⟨M_6, eM_6⟩ : ∃ z_ : xM, z_ = xup M_1 40 0 50 0 := ⟨_, rfl⟩
      rw [← eM_6] at hP
      replace hres := xlet_n hres eM_6
      refine lv_iload_n hx hb dX11_ask_31 rfl (lv_at hl 2 rfl) ?_
      refine lv_if_ne (tgt := 48) hx hb dX11_ask_32 (by decide) (fun c_7 => ?_) (fun c_7 => ?_)
      · replace hres := hres.trans (if_neg c_7)
        refine lv_aload_n hx hb dX11_ask_48 rfl (lv_at hl 0 rfl) ?_
        refine lv_iload_n hx hb dX11_ask_49 rfl (lv_at hl 1 rfl) ?_
        refine lv_aload_n hx hb dX11_ask_50 rfl (lv_at hl 0 rfl) ?_
        refine lv_iload_n hx hb dX11_ask_51 rfl (lv_at hl 1 rfl) ?_
        refine x_callVi (As := [.int q]) S hK hAm hD hP hS mt_X11_kindOf wd_1007 ⟨by decide, by decide⟩ (hL 40 0 (xe_40 nb nn)) (xc40 g 0) rfl (c_X11_kindOf l nb nn g L M_6 hD hL q (ob_X11_ask_52_p0 nb nn q what M hp0 M_1 eM_1 r_2 er_2 c_3 r_4 er_4 c_5 M_6 eM_6 c_7) (ob_X11_ask_52_p1 nb nn q what M hp0 M_1 eM_1 r_2 er_2 c_3 r_4 er_4 c_5 M_6 eM_6 c_7) (ob_X11_ask_52_p2 nb nn q what M hp0 M_1 eM_1 r_2 er_2 c_3 r_4 er_4 c_5 M_6 eM_6 c_7) (ob_X11_ask_52_p3 nb nn q what M hp0 M_1 eM_1 r_2 er_2 c_3 r_4 er_4 c_5 M_6 eM_6 c_7)) rfl hl.1 (Nat.le_of_ble_eq_true rfl) ⟨Nat.zero_le _, Nat.zero_le _⟩ dX11_ask_52 rfl (fun r_8 u H locs hp_ hP hS => ?_)
        obtain ⟨er_8, eu_⟩ := hp_
        rw [eu_] at hP
        clear eu_
        replace hres := xlet_n hres er_8
        refine x_callVi (As := [.int q, .int r_8]) S hK hAm hD hP hS mt_X11_markOf wd_1056 ⟨by decide, by decide⟩ (hL 40 0 (xe_40 nb nn)) (xc40 g 0) rfl (c_X11_markOf l nb nn g L M_6 hD hL q r_8 (ob_X11_ask_55_p0 nb nn q what M hp0 M_1 eM_1 r_2 er_2 c_3 r_4 er_4 c_5 M_6 eM_6 c_7 r_8 er_8) (ob_X11_ask_55_p1 nb nn q what M hp0 M_1 eM_1 r_2 er_2 c_3 r_4 er_4 c_5 M_6 eM_6 c_7 r_8 er_8) (ob_X11_ask_55_p2 nb nn q what M hp0 M_1 eM_1 r_2 er_2 c_3 r_4 er_4 c_5 M_6 eM_6 c_7 r_8 er_8)) rfl hl.1 (Nat.le_of_ble_eq_true rfl) ⟨Nat.zero_le _, Nat.zero_le _⟩ dX11_ask_55 rfl (fun r_9 M_10 H locs ep_ hP hS => ?_)
        replace hres := xlet2_n hres ep_
        have er_9 : r_9 = (f_X11_markOf q r_8 M_6).1 := congrArg Prod.fst ep_
        have eM_10 : M_10 = (f_X11_markOf q r_8 M_6).2 := congrArg Prod.snd ep_
        clear ep_
        exact x_reti hx hb hr hlk hP hS (hres.symm.trans hF) dX11_ask_58
      · replace hres := hres.trans (if_pos c_7)
        refine lv_aload_n hx hb dX11_ask_35 rfl (lv_at hl 0 rfl) ?_
        refine lv_iload_n hx hb dX11_ask_36 rfl (lv_at hl 1 rfl) ?_
        refine lv_aload_n hx hb dX11_ask_37 rfl (lv_at hl 0 rfl) ?_
        refine lv_iload_n hx hb dX11_ask_38 rfl (lv_at hl 1 rfl) ?_
        refine x_callVi (As := [.int q]) S hK hAm hD hP hS mt_X11_kindOf wd_1007 ⟨by decide, by decide⟩ (hL 40 0 (xe_40 nb nn)) (xc40 g 0) rfl (c_X11_kindOf l nb nn g L M_6 hD hL q (ob_X11_ask_39_p0 nb nn q what M hp0 M_1 eM_1 r_2 er_2 c_3 r_4 er_4 c_5 M_6 eM_6 c_7) (ob_X11_ask_39_p1 nb nn q what M hp0 M_1 eM_1 r_2 er_2 c_3 r_4 er_4 c_5 M_6 eM_6 c_7) (ob_X11_ask_39_p2 nb nn q what M hp0 M_1 eM_1 r_2 er_2 c_3 r_4 er_4 c_5 M_6 eM_6 c_7) (ob_X11_ask_39_p3 nb nn q what M hp0 M_1 eM_1 r_2 er_2 c_3 r_4 er_4 c_5 M_6 eM_6 c_7)) rfl hl.1 (Nat.le_of_ble_eq_true rfl) ⟨Nat.zero_le _, Nat.zero_le _⟩ dX11_ask_39 rfl (fun r_11 u H locs hp_ hP hS => ?_)
        obtain ⟨er_11, eu_⟩ := hp_
        rw [eu_] at hP
        clear eu_
        replace hres := xlet_n hres er_11
        refine x_callVi (As := [.int q, .int r_11]) S hK hAm hD hP hS mt_X11_sizeOf wd_1048 ⟨by decide, by decide⟩ (hL 40 0 (xe_40 nb nn)) (xc40 g 0) rfl (c_X11_sizeOf l nb nn g L M_6 hD hL q r_11 (ob_X11_ask_42_p0 nb nn q what M hp0 M_1 eM_1 r_2 er_2 c_3 r_4 er_4 c_5 M_6 eM_6 c_7 r_11 er_11) (ob_X11_ask_42_p1 nb nn q what M hp0 M_1 eM_1 r_2 er_2 c_3 r_4 er_4 c_5 M_6 eM_6 c_7 r_11 er_11) (ob_X11_ask_42_p2 nb nn q what M hp0 M_1 eM_1 r_2 er_2 c_3 r_4 er_4 c_5 M_6 eM_6 c_7 r_11 er_11)) rfl hl.1 (Nat.le_of_ble_eq_true rfl) ⟨Nat.zero_le _, Nat.zero_le _⟩ dX11_ask_42 rfl (fun r_12 M_13 H locs ep_ hP hS => ?_)
        replace hres := xlet2_n hres ep_
        have er_12 : r_12 = (f_X11_sizeOf q r_11 M_6).1 := congrArg Prod.fst ep_
        have eM_13 : M_13 = (f_X11_sizeOf q r_11 M_6).2 := congrArg Prod.snd ep_
        clear ep_
        refine lv_goto (tgt := 58) hx hb dX11_ask_45 (by decide) ?_
        exact x_reti hx hb hr hlk hP hS (hres.symm.trans hF) dX11_ask_58
    · replace hres := hres.trans (if_pos c_5)
      refine lv_ldc (own := RX11) (v := (-1000001)) hx hb hown (hts _ (List.mem_cons_of_mem _ wd_202)) dX11_ask_23 ?_
      exact x_reti hx hb hr hlk hP hS (hres.symm.trans hF) dX11_ask_25
