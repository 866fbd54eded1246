def f_X10_giveBody : Nat → Int32 → Nat → Int32 → Int32 → xM → Int32 × xM
  | 0, _, _, _, _, M => (0, M)
  | n + 1, body, nt, kd, depth, M => if depth < 16 then xlet (f_X8_leave body M) fun M_3 => xlet (depth + 1) fun x5_4 => if body = 10 then ((M_3 29 nt 2), M_3) else if body = 11 then xlet2 (f_X10_giveBody n 10 nt kd x5_4 M_3) fun r_7 M_8 => xlet (f_J6_bitCount_0f7a4 (M_8 29 nt 4) M_8) fun r_9 => ((r_7 - r_9), M_8) else if body = 12 then xlet2 (f_X10_giveBody n (([20, 20, 21, 22, 20, 23] : List Int32).getD kd.toNatClampNeg 0) nt kd x5_4 M_3) fun r_11 M_12 => ((0 - r_11), M_12) else if body = 13 then xlet2 (f_X10_giveBody n 12 nt kd x5_4 M_3) fun r_14 M_15 => ((2 * r_14), M_15) else if body = 14 then xlet2 (f_X10_giveBody n 10 nt kd x5_4 M_3) fun r_17 M_18 => ((r_17 / 2), M_18) else if body = 15 then (0, M_3) else if body = 16 then (0, M_3) else if body = 17 then (0, M_3) else if body = 18 then (0, M_3) else if body = 19 then (0, M_3) else if body = 20 then ((M_3 29 nt 0), M_3) else if body = 21 then xlet2 (f_X10_giveBody n 20 nt kd x5_4 M_3) fun r_26 M_27 => ((r_26 + 100), M_27) else if body = 22 then xlet2 (f_X10_giveBody n 21 nt kd x5_4 M_3) fun r_29 M_30 => ((r_29 + (M_30 29 nt 1)), M_30) else if body = 23 then xlet2 (f_X10_giveBody n 20 nt kd x5_4 M_3) fun r_32 M_33 => xlet2 (f_X10_giveBody n (([10, 11, 12, 13, 14, 10] : List Int32).getD kd.toNatClampNeg 0) nt kd x5_4 M_33) fun r_34 M_35 => ((r_32 + r_34), M_35) else (0, M_3) else (0, M)
theorem ob_X10_giveBody_104_p0 (nb nn : Nat) (n : Nat) (body : Int32) (nt : Nat) (kd : Int32) (depth : Int32) (M : xM) (hnt : nt < nn) (hp0 : 0 ≤ kd) (hp1 : kd < 6) (hp2 : 0 ≤ depth) (hmu : xmu depth 16 < (n + 1)) (c_1 : depth < 16) (M_3 : xM) (eM_3 : M_3 = f_X8_leave body M) (x5_4 : Int32) (ex5_4 : x5_4 = (depth + 1)) (c_5 : ¬ body = 10) (c_6 : body = 11) : 0 ≤ kd := by
  subst_vars
  grind [xb]
theorem ob_X10_giveBody_104_p1 (nb nn : Nat) (n : Nat) (body : Int32) (nt : Nat) (kd : Int32) (depth : Int32) (M : xM) (hnt : nt < nn) (hp0 : 0 ≤ kd) (hp1 : kd < 6) (hp2 : 0 ≤ depth) (hmu : xmu depth 16 < (n + 1)) (c_1 : depth < 16) (M_3 : xM) (eM_3 : M_3 = f_X8_leave body M) (x5_4 : Int32) (ex5_4 : x5_4 = (depth + 1)) (c_5 : ¬ body = 10) (c_6 : body = 11) : kd < 6 := by
  subst_vars
  grind [xb]
theorem ob_X10_giveBody_104_p2 (nb nn : Nat) (n : Nat) (body : Int32) (nt : Nat) (kd : Int32) (depth : Int32) (M : xM) (hnt : nt < nn) (hp0 : 0 ≤ kd) (hp1 : kd < 6) (hp2 : 0 ≤ depth) (hmu : xmu depth 16 < (n + 1)) (c_1 : depth < 16) (M_3 : xM) (eM_3 : M_3 = f_X8_leave body M) (x5_4 : Int32) (ex5_4 : x5_4 = (depth + 1)) (c_5 : ¬ body = 10) (c_6 : body = 11) : 0 ≤ x5_4 := by
  subst_vars
  grind [xb]
theorem ob_X10_giveBody_104_p3 (nb nn : Nat) (n : Nat) (body : Int32) (nt : Nat) (kd : Int32) (depth : Int32) (M : xM) (hnt : nt < nn) (hp0 : 0 ≤ kd) (hp1 : kd < 6) (hp2 : 0 ≤ depth) (hmu : xmu depth 16 < (n + 1)) (c_1 : depth < 16) (M_3 : xM) (eM_3 : M_3 = f_X8_leave body M) (x5_4 : Int32) (ex5_4 : x5_4 = (depth + 1)) (c_5 : ¬ body = 10) (c_6 : body = 11) : xmu x5_4 16 < n := by
  subst_vars
  have h9 := xmu_up (a := depth) (b := 16) (by grind)
  omega
theorem ob_X10_giveBody_121_in (nb nn : Nat) (n : Nat) (body : Int32) (nt : Nat) (kd : Int32) (depth : Int32) (M : xM) (hnt : nt < nn) (hp0 : 0 ≤ kd) (hp1 : kd < 6) (hp2 : 0 ≤ depth) (hmu : xmu depth 16 < (n + 1)) (c_1 : depth < 16) (M_3 : xM) (eM_3 : M_3 = f_X8_leave body M) (x5_4 : Int32) (ex5_4 : x5_4 = (depth + 1)) (c_5 : ¬ body = 10) (c_6 : ¬ body = 11) (c_10 : body = 12) : vp_in kd 6 := by
  subst_vars
  exact xin (N := 6) (by grind [xb]) (by grind [xb]) (by decide)
theorem ob_X10_giveBody_127_p0 (nb nn : Nat) (n : Nat) (body : Int32) (nt : Nat) (kd : Int32) (depth : Int32) (M : xM) (hnt : nt < nn) (hp0 : 0 ≤ kd) (hp1 : kd < 6) (hp2 : 0 ≤ depth) (hmu : xmu depth 16 < (n + 1)) (c_1 : depth < 16) (M_3 : xM) (eM_3 : M_3 = f_X8_leave body M) (x5_4 : Int32) (ex5_4 : x5_4 = (depth + 1)) (c_5 : ¬ body = 10) (c_6 : ¬ body = 11) (c_10 : body = 12) : 0 ≤ kd := by
  subst_vars
  grind [xb]
theorem ob_X10_giveBody_127_p1 (nb nn : Nat) (n : Nat) (body : Int32) (nt : Nat) (kd : Int32) (depth : Int32) (M : xM) (hnt : nt < nn) (hp0 : 0 ≤ kd) (hp1 : kd < 6) (hp2 : 0 ≤ depth) (hmu : xmu depth 16 < (n + 1)) (c_1 : depth < 16) (M_3 : xM) (eM_3 : M_3 = f_X8_leave body M) (x5_4 : Int32) (ex5_4 : x5_4 = (depth + 1)) (c_5 : ¬ body = 10) (c_6 : ¬ body = 11) (c_10 : body = 12) : kd < 6 := by
  subst_vars
  grind [xb]
theorem ob_X10_giveBody_127_p2 (nb nn : Nat) (n : Nat) (body : Int32) (nt : Nat) (kd : Int32) (depth : Int32) (M : xM) (hnt : nt < nn) (hp0 : 0 ≤ kd) (hp1 : kd < 6) (hp2 : 0 ≤ depth) (hmu : xmu depth 16 < (n + 1)) (c_1 : depth < 16) (M_3 : xM) (eM_3 : M_3 = f_X8_leave body M) (x5_4 : Int32) (ex5_4 : x5_4 = (depth + 1)) (c_5 : ¬ body = 10) (c_6 : ¬ body = 11) (c_10 : body = 12) : 0 ≤ x5_4 := by
  subst_vars
  grind [xb]
theorem ob_X10_giveBody_127_p3 (nb nn : Nat) (n : Nat) (body : Int32) (nt : Nat) (kd : Int32) (depth : Int32) (M : xM) (hnt : nt < nn) (hp0 : 0 ≤ kd) (hp1 : kd < 6) (hp2 : 0 ≤ depth) (hmu : xmu depth 16 < (n + 1)) (c_1 : depth < 16) (M_3 : xM) (eM_3 : M_3 = f_X8_leave body M) (x5_4 : Int32) (ex5_4 : x5_4 = (depth + 1)) (c_5 : ¬ body = 10) (c_6 : ¬ body = 11) (c_10 : body = 12) : xmu x5_4 16 < n := by
  subst_vars
  have h9 := xmu_up (a := depth) (b := 16) (by grind)
  omega
theorem ob_X10_giveBody_140_p0 (nb nn : Nat) (n : Nat) (body : Int32) (nt : Nat) (kd : Int32) (depth : Int32) (M : xM) (hnt : nt < nn) (hp0 : 0 ≤ kd) (hp1 : kd < 6) (hp2 : 0 ≤ depth) (hmu : xmu depth 16 < (n + 1)) (c_1 : depth < 16) (M_3 : xM) (eM_3 : M_3 = f_X8_leave body M) (x5_4 : Int32) (ex5_4 : x5_4 = (depth + 1)) (c_5 : ¬ body = 10) (c_6 : ¬ body = 11) (c_10 : ¬ body = 12) (c_13 : body = 13) : 0 ≤ kd := by
  subst_vars
  grind [xb]
theorem ob_X10_giveBody_140_p1 (nb nn : Nat) (n : Nat) (body : Int32) (nt : Nat) (kd : Int32) (depth : Int32) (M : xM) (hnt : nt < nn) (hp0 : 0 ≤ kd) (hp1 : kd < 6) (hp2 : 0 ≤ depth) (hmu : xmu depth 16 < (n + 1)) (c_1 : depth < 16) (M_3 : xM) (eM_3 : M_3 = f_X8_leave body M) (x5_4 : Int32) (ex5_4 : x5_4 = (depth + 1)) (c_5 : ¬ body = 10) (c_6 : ¬ body = 11) (c_10 : ¬ body = 12) (c_13 : body = 13) : kd < 6 := by
  subst_vars
  grind [xb]
theorem ob_X10_giveBody_140_p2 (nb nn : Nat) (n : Nat) (body : Int32) (nt : Nat) (kd : Int32) (depth : Int32) (M : xM) (hnt : nt < nn) (hp0 : 0 ≤ kd) (hp1 : kd < 6) (hp2 : 0 ≤ depth) (hmu : xmu depth 16 < (n + 1)) (c_1 : depth < 16) (M_3 : xM) (eM_3 : M_3 = f_X8_leave body M) (x5_4 : Int32) (ex5_4 : x5_4 = (depth + 1)) (c_5 : ¬ body = 10) (c_6 : ¬ body = 11) (c_10 : ¬ body = 12) (c_13 : body = 13) : 0 ≤ x5_4 := by
  subst_vars
  grind [xb]
theorem ob_X10_giveBody_140_p3 (nb nn : Nat) (n : Nat) (body : Int32) (nt : Nat) (kd : Int32) (depth : Int32) (M : xM) (hnt : nt < nn) (hp0 : 0 ≤ kd) (hp1 : kd < 6) (hp2 : 0 ≤ depth) (hmu : xmu depth 16 < (n + 1)) (c_1 : depth < 16) (M_3 : xM) (eM_3 : M_3 = f_X8_leave body M) (x5_4 : Int32) (ex5_4 : x5_4 = (depth + 1)) (c_5 : ¬ body = 10) (c_6 : ¬ body = 11) (c_10 : ¬ body = 12) (c_13 : body = 13) : xmu x5_4 16 < n := by
  subst_vars
  have h9 := xmu_up (a := depth) (b := 16) (by grind)
  omega
theorem ob_X10_giveBody_152_p0 (nb nn : Nat) (n : Nat) (body : Int32) (nt : Nat) (kd : Int32) (depth : Int32) (M : xM) (hnt : nt < nn) (hp0 : 0 ≤ kd) (hp1 : kd < 6) (hp2 : 0 ≤ depth) (hmu : xmu depth 16 < (n + 1)) (c_1 : depth < 16) (M_3 : xM) (eM_3 : M_3 = f_X8_leave body M) (x5_4 : Int32) (ex5_4 : x5_4 = (depth + 1)) (c_5 : ¬ body = 10) (c_6 : ¬ body = 11) (c_10 : ¬ body = 12) (c_13 : ¬ body = 13) (c_16 : body = 14) : 0 ≤ kd := by
  subst_vars
  grind [xb]
theorem ob_X10_giveBody_152_p1 (nb nn : Nat) (n : Nat) (body : Int32) (nt : Nat) (kd : Int32) (depth : Int32) (M : xM) (hnt : nt < nn) (hp0 : 0 ≤ kd) (hp1 : kd < 6) (hp2 : 0 ≤ depth) (hmu : xmu depth 16 < (n + 1)) (c_1 : depth < 16) (M_3 : xM) (eM_3 : M_3 = f_X8_leave body M) (x5_4 : Int32) (ex5_4 : x5_4 = (depth + 1)) (c_5 : ¬ body = 10) (c_6 : ¬ body = 11) (c_10 : ¬ body = 12) (c_13 : ¬ body = 13) (c_16 : body = 14) : kd < 6 := by
  subst_vars
  grind [xb]
theorem ob_X10_giveBody_152_p2 (nb nn : Nat) (n : Nat) (body : Int32) (nt : Nat) (kd : Int32) (depth : Int32) (M : xM) (hnt : nt < nn) (hp0 : 0 ≤ kd) (hp1 : kd < 6) (hp2 : 0 ≤ depth) (hmu : xmu depth 16 < (n + 1)) (c_1 : depth < 16) (M_3 : xM) (eM_3 : M_3 = f_X8_leave body M) (x5_4 : Int32) (ex5_4 : x5_4 = (depth + 1)) (c_5 : ¬ body = 10) (c_6 : ¬ body = 11) (c_10 : ¬ body = 12) (c_13 : ¬ body = 13) (c_16 : body = 14) : 0 ≤ x5_4 := by
  subst_vars
  grind [xb]
theorem ob_X10_giveBody_152_p3 (nb nn : Nat) (n : Nat) (body : Int32) (nt : Nat) (kd : Int32) (depth : Int32) (M : xM) (hnt : nt < nn) (hp0 : 0 ≤ kd) (hp1 : kd < 6) (hp2 : 0 ≤ depth) (hmu : xmu depth 16 < (n + 1)) (c_1 : depth < 16) (M_3 : xM) (eM_3 : M_3 = f_X8_leave body M) (x5_4 : Int32) (ex5_4 : x5_4 = (depth + 1)) (c_5 : ¬ body = 10) (c_6 : ¬ body = 11) (c_10 : ¬ body = 12) (c_13 : ¬ body = 13) (c_16 : body = 14) : xmu x5_4 16 < n := by
  subst_vars
  have h9 := xmu_up (a := depth) (b := 16) (by grind)
  omega
theorem ob_X10_giveBody_170_p0 (nb nn : Nat) (n : Nat) (body : Int32) (nt : Nat) (kd : Int32) (depth : Int32) (M : xM) (hnt : nt < nn) (hp0 : 0 ≤ kd) (hp1 : kd < 6) (hp2 : 0 ≤ depth) (hmu : xmu depth 16 < (n + 1)) (c_1 : depth < 16) (M_3 : xM) (eM_3 : M_3 = f_X8_leave body M) (x5_4 : Int32) (ex5_4 : x5_4 = (depth + 1)) (c_5 : ¬ body = 10) (c_6 : ¬ body = 11) (c_10 : ¬ body = 12) (c_13 : ¬ body = 13) (c_16 : ¬ body = 14) (c_19 : ¬ body = 15) (c_20 : ¬ body = 16) (c_21 : ¬ body = 17) (c_22 : ¬ body = 18) (c_23 : ¬ body = 19) (c_24 : ¬ body = 20) (c_25 : body = 21) : 0 ≤ kd := by
  subst_vars
  grind [xb]
theorem ob_X10_giveBody_170_p1 (nb nn : Nat) (n : Nat) (body : Int32) (nt : Nat) (kd : Int32) (depth : Int32) (M : xM) (hnt : nt < nn) (hp0 : 0 ≤ kd) (hp1 : kd < 6) (hp2 : 0 ≤ depth) (hmu : xmu depth 16 < (n + 1)) (c_1 : depth < 16) (M_3 : xM) (eM_3 : M_3 = f_X8_leave body M) (x5_4 : Int32) (ex5_4 : x5_4 = (depth + 1)) (c_5 : ¬ body = 10) (c_6 : ¬ body = 11) (c_10 : ¬ body = 12) (c_13 : ¬ body = 13) (c_16 : ¬ body = 14) (c_19 : ¬ body = 15) (c_20 : ¬ body = 16) (c_21 : ¬ body = 17) (c_22 : ¬ body = 18) (c_23 : ¬ body = 19) (c_24 : ¬ body = 20) (c_25 : body = 21) : kd < 6 := by
  subst_vars
  grind [xb]
theorem ob_X10_giveBody_170_p2 (nb nn : Nat) (n : Nat) (body : Int32) (nt : Nat) (kd : Int32) (depth : Int32) (M : xM) (hnt : nt < nn) (hp0 : 0 ≤ kd) (hp1 : kd < 6) (hp2 : 0 ≤ depth) (hmu : xmu depth 16 < (n + 1)) (c_1 : depth < 16) (M_3 : xM) (eM_3 : M_3 = f_X8_leave body M) (x5_4 : Int32) (ex5_4 : x5_4 = (depth + 1)) (c_5 : ¬ body = 10) (c_6 : ¬ body = 11) (c_10 : ¬ body = 12) (c_13 : ¬ body = 13) (c_16 : ¬ body = 14) (c_19 : ¬ body = 15) (c_20 : ¬ body = 16) (c_21 : ¬ body = 17) (c_22 : ¬ body = 18) (c_23 : ¬ body = 19) (c_24 : ¬ body = 20) (c_25 : body = 21) : 0 ≤ x5_4 := by
  subst_vars
  grind [xb]
theorem ob_X10_giveBody_170_p3 (nb nn : Nat) (n : Nat) (body : Int32) (nt : Nat) (kd : Int32) (depth : Int32) (M : xM) (hnt : nt < nn) (hp0 : 0 ≤ kd) (hp1 : kd < 6) (hp2 : 0 ≤ depth) (hmu : xmu depth 16 < (n + 1)) (c_1 : depth < 16) (M_3 : xM) (eM_3 : M_3 = f_X8_leave body M) (x5_4 : Int32) (ex5_4 : x5_4 = (depth + 1)) (c_5 : ¬ body = 10) (c_6 : ¬ body = 11) (c_10 : ¬ body = 12) (c_13 : ¬ body = 13) (c_16 : ¬ body = 14) (c_19 : ¬ body = 15) (c_20 : ¬ body = 16) (c_21 : ¬ body = 17) (c_22 : ¬ body = 18) (c_23 : ¬ body = 19) (c_24 : ¬ body = 20) (c_25 : body = 21) : xmu x5_4 16 < n := by
  subst_vars
  have h9 := xmu_up (a := depth) (b := 16) (by grind)
  omega
theorem ob_X10_giveBody_184_p0 (nb nn : Nat) (n : Nat) (body : Int32) (nt : Nat) (kd : Int32) (depth : Int32) (M : xM) (hnt : nt < nn) (hp0 : 0 ≤ kd) (hp1 : kd < 6) (hp2 : 0 ≤ depth) (hmu : xmu depth 16 < (n + 1)) (c_1 : depth < 16) (M_3 : xM) (eM_3 : M_3 = f_X8_leave body M) (x5_4 : Int32) (ex5_4 : x5_4 = (depth + 1)) (c_5 : ¬ body = 10) (c_6 : ¬ body = 11) (c_10 : ¬ body = 12) (c_13 : ¬ body = 13) (c_16 : ¬ body = 14) (c_19 : ¬ body = 15) (c_20 : ¬ body = 16) (c_21 : ¬ body = 17) (c_22 : ¬ body = 18) (c_23 : ¬ body = 19) (c_24 : ¬ body = 20) (c_25 : ¬ body = 21) (c_28 : body = 22) : 0 ≤ kd := by
  subst_vars
  grind [xb]
theorem ob_X10_giveBody_184_p1 (nb nn : Nat) (n : Nat) (body : Int32) (nt : Nat) (kd : Int32) (depth : Int32) (M : xM) (hnt : nt < nn) (hp0 : 0 ≤ kd) (hp1 : kd < 6) (hp2 : 0 ≤ depth) (hmu : xmu depth 16 < (n + 1)) (c_1 : depth < 16) (M_3 : xM) (eM_3 : M_3 = f_X8_leave body M) (x5_4 : Int32) (ex5_4 : x5_4 = (depth + 1)) (c_5 : ¬ body = 10) (c_6 : ¬ body = 11) (c_10 : ¬ body = 12) (c_13 : ¬ body = 13) (c_16 : ¬ body = 14) (c_19 : ¬ body = 15) (c_20 : ¬ body = 16) (c_21 : ¬ body = 17) (c_22 : ¬ body = 18) (c_23 : ¬ body = 19) (c_24 : ¬ body = 20) (c_25 : ¬ body = 21) (c_28 : body = 22) : kd < 6 := by
  subst_vars
  grind [xb]
theorem ob_X10_giveBody_184_p2 (nb nn : Nat) (n : Nat) (body : Int32) (nt : Nat) (kd : Int32) (depth : Int32) (M : xM) (hnt : nt < nn) (hp0 : 0 ≤ kd) (hp1 : kd < 6) (hp2 : 0 ≤ depth) (hmu : xmu depth 16 < (n + 1)) (c_1 : depth < 16) (M_3 : xM) (eM_3 : M_3 = f_X8_leave body M) (x5_4 : Int32) (ex5_4 : x5_4 = (depth + 1)) (c_5 : ¬ body = 10) (c_6 : ¬ body = 11) (c_10 : ¬ body = 12) (c_13 : ¬ body = 13) (c_16 : ¬ body = 14) (c_19 : ¬ body = 15) (c_20 : ¬ body = 16) (c_21 : ¬ body = 17) (c_22 : ¬ body = 18) (c_23 : ¬ body = 19) (c_24 : ¬ body = 20) (c_25 : ¬ body = 21) (c_28 : body = 22) : 0 ≤ x5_4 := by
  subst_vars
  grind [xb]
theorem ob_X10_giveBody_184_p3 (nb nn : Nat) (n : Nat) (body : Int32) (nt : Nat) (kd : Int32) (depth : Int32) (M : xM) (hnt : nt < nn) (hp0 : 0 ≤ kd) (hp1 : kd < 6) (hp2 : 0 ≤ depth) (hmu : xmu depth 16 < (n + 1)) (c_1 : depth < 16) (M_3 : xM) (eM_3 : M_3 = f_X8_leave body M) (x5_4 : Int32) (ex5_4 : x5_4 = (depth + 1)) (c_5 : ¬ body = 10) (c_6 : ¬ body = 11) (c_10 : ¬ body = 12) (c_13 : ¬ body = 13) (c_16 : ¬ body = 14) (c_19 : ¬ body = 15) (c_20 : ¬ body = 16) (c_21 : ¬ body = 17) (c_22 : ¬ body = 18) (c_23 : ¬ body = 19) (c_24 : ¬ body = 20) (c_25 : ¬ body = 21) (c_28 : body = 22) : xmu x5_4 16 < n := by
  subst_vars
  have h9 := xmu_up (a := depth) (b := 16) (by grind)
  omega
theorem ob_X10_giveBody_200_p0 (nb nn : Nat) (n : Nat) (body : Int32) (nt : Nat) (kd : Int32) (depth : Int32) (M : xM) (hnt : nt < nn) (hp0 : 0 ≤ kd) (hp1 : kd < 6) (hp2 : 0 ≤ depth) (hmu : xmu depth 16 < (n + 1)) (c_1 : depth < 16) (M_3 : xM) (eM_3 : M_3 = f_X8_leave body M) (x5_4 : Int32) (ex5_4 : x5_4 = (depth + 1)) (c_5 : ¬ body = 10) (c_6 : ¬ body = 11) (c_10 : ¬ body = 12) (c_13 : ¬ body = 13) (c_16 : ¬ body = 14) (c_19 : ¬ body = 15) (c_20 : ¬ body = 16) (c_21 : ¬ body = 17) (c_22 : ¬ body = 18) (c_23 : ¬ body = 19) (c_24 : ¬ body = 20) (c_25 : ¬ body = 21) (c_28 : ¬ body = 22) (c_31 : body = 23) : 0 ≤ kd := by
  subst_vars
  grind [xb]
theorem ob_X10_giveBody_200_p1 (nb nn : Nat) (n : Nat) (body : Int32) (nt : Nat) (kd : Int32) (depth : Int32) (M : xM) (hnt : nt < nn) (hp0 : 0 ≤ kd) (hp1 : kd < 6) (hp2 : 0 ≤ depth) (hmu : xmu depth 16 < (n + 1)) (c_1 : depth < 16) (M_3 : xM) (eM_3 : M_3 = f_X8_leave body M) (x5_4 : Int32) (ex5_4 : x5_4 = (depth + 1)) (c_5 : ¬ body = 10) (c_6 : ¬ body = 11) (c_10 : ¬ body = 12) (c_13 : ¬ body = 13) (c_16 : ¬ body = 14) (c_19 : ¬ body = 15) (c_20 : ¬ body = 16) (c_21 : ¬ body = 17) (c_22 : ¬ body = 18) (c_23 : ¬ body = 19) (c_24 : ¬ body = 20) (c_25 : ¬ body = 21) (c_28 : ¬ body = 22) (c_31 : body = 23) : kd < 6 := by
  subst_vars
  grind [xb]
theorem ob_X10_giveBody_200_p2 (nb nn : Nat) (n : Nat) (body : Int32) (nt : Nat) (kd : Int32) (depth : Int32) (M : xM) (hnt : nt < nn) (hp0 : 0 ≤ kd) (hp1 : kd < 6) (hp2 : 0 ≤ depth) (hmu : xmu depth 16 < (n + 1)) (c_1 : depth < 16) (M_3 : xM) (eM_3 : M_3 = f_X8_leave body M) (x5_4 : Int32) (ex5_4 : x5_4 = (depth + 1)) (c_5 : ¬ body = 10) (c_6 : ¬ body = 11) (c_10 : ¬ body = 12) (c_13 : ¬ body = 13) (c_16 : ¬ body = 14) (c_19 : ¬ body = 15) (c_20 : ¬ body = 16) (c_21 : ¬ body = 17) (c_22 : ¬ body = 18) (c_23 : ¬ body = 19) (c_24 : ¬ body = 20) (c_25 : ¬ body = 21) (c_28 : ¬ body = 22) (c_31 : body = 23) : 0 ≤ x5_4 := by
  subst_vars
  grind [xb]
theorem ob_X10_giveBody_200_p3 (nb nn : Nat) (n : Nat) (body : Int32) (nt : Nat) (kd : Int32) (depth : Int32) (M : xM) (hnt : nt < nn) (hp0 : 0 ≤ kd) (hp1 : kd < 6) (hp2 : 0 ≤ depth) (hmu : xmu depth 16 < (n + 1)) (c_1 : depth < 16) (M_3 : xM) (eM_3 : M_3 = f_X8_leave body M) (x5_4 : Int32) (ex5_4 : x5_4 = (depth + 1)) (c_5 : ¬ body = 10) (c_6 : ¬ body = 11) (c_10 : ¬ body = 12) (c_13 : ¬ body = 13) (c_16 : ¬ body = 14) (c_19 : ¬ body = 15) (c_20 : ¬ body = 16) (c_21 : ¬ body = 17) (c_22 : ¬ body = 18) (c_23 : ¬ body = 19) (c_24 : ¬ body = 20) (c_25 : ¬ body = 21) (c_28 : ¬ body = 22) (c_31 : body = 23) : xmu x5_4 16 < n := by
  subst_vars
  have h9 := xmu_up (a := depth) (b := 16) (by grind)
  omega
theorem ob_X10_giveBody_207_in (nb nn : Nat) (n : Nat) (body : Int32) (nt : Nat) (kd : Int32) (depth : Int32) (M : xM) (hnt : nt < nn) (hp0 : 0 ≤ kd) (hp1 : kd < 6) (hp2 : 0 ≤ depth) (hmu : xmu depth 16 < (n + 1)) (c_1 : depth < 16) (M_3 : xM) (eM_3 : M_3 = f_X8_leave body M) (x5_4 : Int32) (ex5_4 : x5_4 = (depth + 1)) (c_5 : ¬ body = 10) (c_6 : ¬ body = 11) (c_10 : ¬ body = 12) (c_13 : ¬ body = 13) (c_16 : ¬ body = 14) (c_19 : ¬ body = 15) (c_20 : ¬ body = 16) (c_21 : ¬ body = 17) (c_22 : ¬ body = 18) (c_23 : ¬ body = 19) (c_24 : ¬ body = 20) (c_25 : ¬ body = 21) (c_28 : ¬ body = 22) (c_31 : body = 23) (r_32 : Int32) (M_33 : xM) (er_32 : r_32 = (f_X10_giveBody n 20 nt kd x5_4 M_3).1) (eM_33 : M_33 = (f_X10_giveBody n 20 nt kd x5_4 M_3).2) : vp_in kd 6 := by
  subst_vars
  exact xin (N := 6) (by grind [xb]) (by grind [xb]) (by decide)
theorem ob_X10_giveBody_213_p0 (nb nn : Nat) (n : Nat) (body : Int32) (nt : Nat) (kd : Int32) (depth : Int32) (M : xM) (hnt : nt < nn) (hp0 : 0 ≤ kd) (hp1 : kd < 6) (hp2 : 0 ≤ depth) (hmu : xmu depth 16 < (n + 1)) (c_1 : depth < 16) (M_3 : xM) (eM_3 : M_3 = f_X8_leave body M) (x5_4 : Int32) (ex5_4 : x5_4 = (depth + 1)) (c_5 : ¬ body = 10) (c_6 : ¬ body = 11) (c_10 : ¬ body = 12) (c_13 : ¬ body = 13) (c_16 : ¬ body = 14) (c_19 : ¬ body = 15) (c_20 : ¬ body = 16) (c_21 : ¬ body = 17) (c_22 : ¬ body = 18) (c_23 : ¬ body = 19) (c_24 : ¬ body = 20) (c_25 : ¬ body = 21) (c_28 : ¬ body = 22) (c_31 : body = 23) (r_32 : Int32) (M_33 : xM) (er_32 : r_32 = (f_X10_giveBody n 20 nt kd x5_4 M_3).1) (eM_33 : M_33 = (f_X10_giveBody n 20 nt kd x5_4 M_3).2) : 0 ≤ kd := by
  subst_vars
  grind [xb]
theorem ob_X10_giveBody_213_p1 (nb nn : Nat) (n : Nat) (body : Int32) (nt : Nat) (kd : Int32) (depth : Int32) (M : xM) (hnt : nt < nn) (hp0 : 0 ≤ kd) (hp1 : kd < 6) (hp2 : 0 ≤ depth) (hmu : xmu depth 16 < (n + 1)) (c_1 : depth < 16) (M_3 : xM) (eM_3 : M_3 = f_X8_leave body M) (x5_4 : Int32) (ex5_4 : x5_4 = (depth + 1)) (c_5 : ¬ body = 10) (c_6 : ¬ body = 11) (c_10 : ¬ body = 12) (c_13 : ¬ body = 13) (c_16 : ¬ body = 14) (c_19 : ¬ body = 15) (c_20 : ¬ body = 16) (c_21 : ¬ body = 17) (c_22 : ¬ body = 18) (c_23 : ¬ body = 19) (c_24 : ¬ body = 20) (c_25 : ¬ body = 21) (c_28 : ¬ body = 22) (c_31 : body = 23) (r_32 : Int32) (M_33 : xM) (er_32 : r_32 = (f_X10_giveBody n 20 nt kd x5_4 M_3).1) (eM_33 : M_33 = (f_X10_giveBody n 20 nt kd x5_4 M_3).2) : kd < 6 := by
  subst_vars
  grind [xb]
theorem ob_X10_giveBody_213_p2 (nb nn : Nat) (n : Nat) (body : Int32) (nt : Nat) (kd : Int32) (depth : Int32) (M : xM) (hnt : nt < nn) (hp0 : 0 ≤ kd) (hp1 : kd < 6) (hp2 : 0 ≤ depth) (hmu : xmu depth 16 < (n + 1)) (c_1 : depth < 16) (M_3 : xM) (eM_3 : M_3 = f_X8_leave body M) (x5_4 : Int32) (ex5_4 : x5_4 = (depth + 1)) (c_5 : ¬ body = 10) (c_6 : ¬ body = 11) (c_10 : ¬ body = 12) (c_13 : ¬ body = 13) (c_16 : ¬ body = 14) (c_19 : ¬ body = 15) (c_20 : ¬ body = 16) (c_21 : ¬ body = 17) (c_22 : ¬ body = 18) (c_23 : ¬ body = 19) (c_24 : ¬ body = 20) (c_25 : ¬ body = 21) (c_28 : ¬ body = 22) (c_31 : body = 23) (r_32 : Int32) (M_33 : xM) (er_32 : r_32 = (f_X10_giveBody n 20 nt kd x5_4 M_3).1) (eM_33 : M_33 = (f_X10_giveBody n 20 nt kd x5_4 M_3).2) : 0 ≤ x5_4 := by
  subst_vars
  grind [xb]
theorem ob_X10_giveBody_213_p3 (nb nn : Nat) (n : Nat) (body : Int32) (nt : Nat) (kd : Int32) (depth : Int32) (M : xM) (hnt : nt < nn) (hp0 : 0 ≤ kd) (hp1 : kd < 6) (hp2 : 0 ≤ depth) (hmu : xmu depth 16 < (n + 1)) (c_1 : depth < 16) (M_3 : xM) (eM_3 : M_3 = f_X8_leave body M) (x5_4 : Int32) (ex5_4 : x5_4 = (depth + 1)) (c_5 : ¬ body = 10) (c_6 : ¬ body = 11) (c_10 : ¬ body = 12) (c_13 : ¬ body = 13) (c_16 : ¬ body = 14) (c_19 : ¬ body = 15) (c_20 : ¬ body = 16) (c_21 : ¬ body = 17) (c_22 : ¬ body = 18) (c_23 : ¬ body = 19) (c_24 : ¬ body = 20) (c_25 : ¬ body = 21) (c_28 : ¬ body = 22) (c_31 : body = 23) (r_32 : Int32) (M_33 : xM) (er_32 : r_32 = (f_X10_giveBody n 20 nt kd x5_4 M_3).1) (eM_33 : M_33 = (f_X10_giveBody n 20 nt kd x5_4 M_3).2) : xmu x5_4 16 < n := by
  subst_vars
  have h9 := xmu_up (a := depth) (b := 16) (by grind)
  omega
set_option maxHeartbeats 4000000 in
set_option maxRecDepth 100000 in
theorem c_X10_giveBody (l : Launch) (nb nn : Nat) (g : xG) (L : List (Nat × Nat)) (hD : xD g L) (hL : xEL nb nn L) : ∀ (n : Nat) (M : xM) (body : Int32) (nt : Nat) (kd : Int32) (depth : Int32) (hnt : nt < nn) (hp0 : 0 ≤ kd) (hp1 : kd < 6) (hp2 : 0 ≤ depth) (hmu : xmu depth 16 < n), xCi l yX10_giveBody cX10_giveBody 6 (some .int) (n + 3) g L M [.int body, .ref (xad g 29 nt), .int kd, .ref (xad g 12 0), .int depth] (fun r u => (r, u) = f_X10_giveBody n body nt kd depth M) := by
  intro n
  induction n with
  | zero => intro M body nt kd depth hnt hp0 hp1 hp2 hmu; exact absurd hmu (Nat.not_lt_zero _)
  | succ n ih =>
    intro M body nt kd depth hnt hp0 hp1 hp2 hmu
    intro sz
    refine x_beg (by decide +kernel) rfl ?_
    intro p e s m args below meth c ls hsz hB
    subst hsz
    obtain ⟨hx, hb, hml, hown, hts, hr, hlk, hK, hAm, hP, hl⟩ := hB
    have S : CallFix p m c cX10_giveBody 6 s args (xws yX10_giveBody cX10_giveBody 6 (some .int)) RX10 := ⟨hx, hb, hml, hown, hts⟩
    have hown : s.vm.findClass RX10 = some m.cls := hown
    have hl : lv_has ls 6 [(0, .int body), (1, .ref (xad g 29 nt)), (2, .int kd), (3, .ref (xad g 12 0)), (4, .int depth)] := hl
    have hS : va_S (xA g L s.heap.size) s.heap s.heap [] := va_S.rf
    obtain ⟨F, hF⟩ : ∃ F, F = f_X10_giveBody (n + 1) body nt kd depth M := ⟨_, rfl⟩
    have hres := hF
    rw [f_X10_giveBody] at hres
    refine lv_iload hx hb dX10_giveBody_0 (lv_at hl 4 rfl) ?_
    refine lv_bipush (v := 16) hx hb dX10_giveBody_2 (by decide) ?_
    refine lv_icmp_lt (tgt := 9) hx hb dX10_giveBody_4 (by decide) (fun c_1 => ?_) (fun c_1 => ?_)
    · replace hres := hres.trans (if_pos c_1)
      refine lv_aload_n hx hb dX10_giveBody_9 rfl (lv_at hl 3 rfl) ?_
      refine lv_iload_n hx hb dX10_giveBody_10 rfl (lv_at hl 0 rfl) ?_
      refine x_callVv (As := [.int body]) S hK hAm hD hP hS mt_X8_leave wd_1038 ⟨by show 0 + 1 ≤ n + 4; omega, by show 8 + (3 + 11) + 64 * 0 ≤ 64 * (n + 4); omega⟩ (hL 12 0 (xe_12 nb nn)) (xc12 g 0) rfl (c_X8_leave l nb nn g L M hD hL body) rfl hl.1 (Nat.le_of_ble_eq_true rfl) ⟨Nat.zero_le _, Nat.zero_le _⟩ dX10_giveBody_11 rfl (fun M_3 H locs eM_3 hP hS => ?_)
      replace hres := xlet_n hres eM_3
      refine lv_iload hx hb dX10_giveBody_14 (lv_at hl 4 rfl) ?_
      refine lv_iconst (v := 1) hx hb dX10_giveBody_16 (by decide) ?_
      refine lv_iadd hx hb dX10_giveBody_17 ?_
      refine lv_topi (fun x5_4 ex5_4 => ?_)
      replace hres := xlet_n hres ex5_4
      refine lv_istore (lv' := [(5, .int x5_4), (0, .int body), (1, .ref (xad g 29 nt)), (2, .int kd), (3, .ref (xad g 12 0)), (4, .int depth)]) hx hb dX10_giveBody_18 hl (by decide) rfl (fun ls hl => ?_)
      refine lv_iload_n hx hb dX10_giveBody_20 rfl (lv_at hl 1 rfl) ?_
      by_cases c_5 : body = 10
      · replace hres := hres.trans (if_pos c_5)
        refine lv_tableIn (off := 71) (tgt := 92) hx hb dX10_giveBody_21 (by rw [c_5]; decide) (by rw [c_5]; decide) (by rw [c_5]; rfl) (by decide) ?_
        refine lv_aload_n hx hb dX10_giveBody_92 rfl (lv_at hl 2 rfl) ?_
        refine gf_RX10_253 hx hb hts hown hK hP (hL 29 nt hnt) dX10_giveBody_93 ?_
        exact x_reti hx hb hr hlk hP hS (hres.symm.trans hF) dX10_giveBody_96
      · replace hres := hres.trans (if_neg c_5)
        by_cases c_6 : body = 11
        · replace hres := hres.trans (if_pos c_6)
          refine lv_tableIn (off := 76) (tgt := 97) hx hb dX10_giveBody_21 (by rw [c_6]; decide) (by rw [c_6]; decide) (by rw [c_6]; rfl) (by decide) ?_
          refine lv_bipush (v := 10) hx hb dX10_giveBody_97 (by decide) ?_
          refine lv_aload_n hx hb dX10_giveBody_99 rfl (lv_at hl 2 rfl) ?_
          refine lv_iload_n hx hb dX10_giveBody_100 rfl (lv_at hl 3 rfl) ?_
          refine lv_aload_n hx hb dX10_giveBody_101 rfl (lv_at hl 4 rfl) ?_
          refine lv_iload hx hb dX10_giveBody_102 (lv_at hl 0 rfl) ?_
          refine x_callSi (As := [.int 10, .ref (xad g 29 nt), .int kd, .ref (xad g 12 0), .int x5_4]) S hK hAm hD hP hS mt_X10_giveBody wd_1035 ⟨Nat.le_refl _, by show 8 + (6 + 11) + 64 * (n + 3) ≤ 64 * (n + 4); omega⟩ (ih M_3 10 nt kd x5_4 hnt (ob_X10_giveBody_104_p0 nb nn n body nt kd depth M hnt hp0 hp1 hp2 hmu c_1 M_3 eM_3 x5_4 ex5_4 c_5 c_6) (ob_X10_giveBody_104_p1 nb nn n body nt kd depth M hnt hp0 hp1 hp2 hmu c_1 M_3 eM_3 x5_4 ex5_4 c_5 c_6) (ob_X10_giveBody_104_p2 nb nn n body nt kd depth M hnt hp0 hp1 hp2 hmu c_1 M_3 eM_3 x5_4 ex5_4 c_5 c_6) (ob_X10_giveBody_104_p3 nb nn n body nt kd depth M hnt hp0 hp1 hp2 hmu c_1 M_3 eM_3 x5_4 ex5_4 c_5 c_6)) rfl hl.1 (Nat.le_of_ble_eq_true rfl) ⟨Nat.zero_le _, Nat.zero_le _⟩ dX10_giveBody_104 rfl (fun r_7 M_8 H locs ep_ hP hS => ?_)
          replace hres := xlet2_n hres ep_
          have er_7 : r_7 = (f_X10_giveBody n 10 nt kd x5_4 M_3).1 := congrArg Prod.fst ep_
          have eM_8 : M_8 = (f_X10_giveBody n 10 nt kd x5_4 M_3).2 := congrArg Prod.snd ep_
          clear ep_
          refine lv_aload_n hx hb dX10_giveBody_107 rfl (lv_at hl 2 rfl) ?_
          refine gf_RX10_259 hx hb hts hown hK hP (hL 29 nt hnt) dX10_giveBody_108 ?_
          refine x_callSi (As := [.int (M_8 29 nt 4)]) S hK hAm hD hP hS mt_J6_bitCount_0f7a4 wd_1042 ⟨by show 0 + 1 ≤ n + 4; omega, by show 8 + (1 + 11) + 64 * 0 ≤ 64 * (n + 4); omega⟩ (c_J6_bitCount_0f7a4 l nb nn g L M_8 hD hL (M_8 29 nt 4)) rfl hl.1 (Nat.le_of_ble_eq_true rfl) ⟨Nat.zero_le _, Nat.zero_le _⟩ dX10_giveBody_111 rfl (fun r_9 u H locs hp_ hP hS => ?_)
          obtain ⟨er_9, eu_⟩ := hp_
          rw [eu_] at hP
          clear eu_
          replace hres := xlet_n hres er_9
          refine lv_isub hx hb dX10_giveBody_114 ?_
          exact x_reti hx hb hr hlk hP hS (hres.symm.trans hF) dX10_giveBody_115
        · replace hres := hres.trans (if_neg c_6)
          by_cases c_10 : body = 12
          · replace hres := hres.trans (if_pos c_10)
            refine lv_tableIn (off := 95) (tgt := 116) hx hb dX10_giveBody_21 (by rw [c_10]; decide) (by rw [c_10]; decide) (by rw [c_10]; rfl) (by decide) ?_
            refine lv_iconst (v := 0) hx hb dX10_giveBody_116 (by decide) ?_
            refine x_gets1 hx hb hts hown hAm hD hS wd_1030 dX10_giveBody_117 ?_
            refine lv_iload_n hx hb dX10_giveBody_120 rfl (lv_at hl 3 rfl) ?_
            refine x_tab1 hx hb hAm hD hS (ob_X10_giveBody_121_in nb nn n body nt kd depth M hnt hp0 hp1 hp2 hmu c_1 M_3 eM_3 x5_4 ex5_4 c_5 c_6 c_10) dX10_giveBody_121 ?_
            refine lv_aload_n hx hb dX10_giveBody_122 rfl (lv_at hl 2 rfl) ?_
            refine lv_iload_n hx hb dX10_giveBody_123 rfl (lv_at hl 3 rfl) ?_
            refine lv_aload_n hx hb dX10_giveBody_124 rfl (lv_at hl 4 rfl) ?_
            refine lv_iload hx hb dX10_giveBody_125 (lv_at hl 0 rfl) ?_
            refine x_callSi (As := [.int (([20, 20, 21, 22, 20, 23] : List Int32).getD kd.toNatClampNeg 0), .ref (xad g 29 nt), .int kd, .ref (xad g 12 0), .int x5_4]) S hK hAm hD hP hS mt_X10_giveBody wd_1035 ⟨Nat.le_refl _, by show 8 + (6 + 11) + 64 * (n + 3) ≤ 64 * (n + 4); omega⟩ (ih M_3 (([20, 20, 21, 22, 20, 23] : List Int32).getD kd.toNatClampNeg 0) nt kd x5_4 hnt (ob_X10_giveBody_127_p0 nb nn n body nt kd depth M hnt hp0 hp1 hp2 hmu c_1 M_3 eM_3 x5_4 ex5_4 c_5 c_6 c_10) (ob_X10_giveBody_127_p1 nb nn n body nt kd depth M hnt hp0 hp1 hp2 hmu c_1 M_3 eM_3 x5_4 ex5_4 c_5 c_6 c_10) (ob_X10_giveBody_127_p2 nb nn n body nt kd depth M hnt hp0 hp1 hp2 hmu c_1 M_3 eM_3 x5_4 ex5_4 c_5 c_6 c_10) (ob_X10_giveBody_127_p3 nb nn n body nt kd depth M hnt hp0 hp1 hp2 hmu c_1 M_3 eM_3 x5_4 ex5_4 c_5 c_6 c_10)) rfl hl.1 (Nat.le_of_ble_eq_true rfl) ⟨Nat.zero_le _, Nat.zero_le _⟩ dX10_giveBody_127 rfl (fun r_11 M_12 H locs ep_ hP hS => ?_)
            replace hres := xlet2_n hres ep_
            have er_11 : r_11 = (f_X10_giveBody n (([20, 20, 21, 22, 20, 23] : List Int32).getD kd.toNatClampNeg 0) nt kd x5_4 M_3).1 := congrArg Prod.fst ep_
            have eM_12 : M_12 = (f_X10_giveBody n (([20, 20, 21, 22, 20, 23] : List Int32).getD kd.toNatClampNeg 0) nt kd x5_4 M_3).2 := congrArg Prod.snd ep_
            clear ep_
            refine lv_isub hx hb dX10_giveBody_130 ?_
            exact x_reti hx hb hr hlk hP hS (hres.symm.trans hF) dX10_giveBody_131
          · replace hres := hres.trans (if_neg c_10)
            by_cases c_13 : body = 13
            · replace hres := hres.trans (if_pos c_13)
              refine lv_tableIn (off := 111) (tgt := 132) hx hb dX10_giveBody_21 (by rw [c_13]; decide) (by rw [c_13]; decide) (by rw [c_13]; rfl) (by decide) ?_
              refine lv_iconst (v := 2) hx hb dX10_giveBody_132 (by decide) ?_
              refine lv_bipush (v := 12) hx hb dX10_giveBody_133 (by decide) ?_
              refine lv_aload_n hx hb dX10_giveBody_135 rfl (lv_at hl 2 rfl) ?_
              refine lv_iload_n hx hb dX10_giveBody_136 rfl (lv_at hl 3 rfl) ?_
              refine lv_aload_n hx hb dX10_giveBody_137 rfl (lv_at hl 4 rfl) ?_
              refine lv_iload hx hb dX10_giveBody_138 (lv_at hl 0 rfl) ?_
              refine x_callSi (As := [.int 12, .ref (xad g 29 nt), .int kd, .ref (xad g 12 0), .int x5_4]) S hK hAm hD hP hS mt_X10_giveBody wd_1035 ⟨Nat.le_refl _, by show 8 + (6 + 11) + 64 * (n + 3) ≤ 64 * (n + 4); omega⟩ (ih M_3 12 nt kd x5_4 hnt (ob_X10_giveBody_140_p0 nb nn n body nt kd depth M hnt hp0 hp1 hp2 hmu c_1 M_3 eM_3 x5_4 ex5_4 c_5 c_6 c_10 c_13) (ob_X10_giveBody_140_p1 nb nn n body nt kd depth M hnt hp0 hp1 hp2 hmu c_1 M_3 eM_3 x5_4 ex5_4 c_5 c_6 c_10 c_13) (ob_X10_giveBody_140_p2 nb nn n body nt kd depth M hnt hp0 hp1 hp2 hmu c_1 M_3 eM_3 x5_4 ex5_4 c_5 c_6 c_10 c_13) (ob_X10_giveBody_140_p3 nb nn n body nt kd depth M hnt hp0 hp1 hp2 hmu c_1 M_3 eM_3 x5_4 ex5_4 c_5 c_6 c_10 c_13)) rfl hl.1 (Nat.le_of_ble_eq_true rfl) ⟨Nat.zero_le _, Nat.zero_le _⟩ dX10_giveBody_140 rfl (fun r_14 M_15 H locs ep_ hP hS => ?_)
              replace hres := xlet2_n hres ep_
              have er_14 : r_14 = (f_X10_giveBody n 12 nt kd x5_4 M_3).1 := congrArg Prod.fst ep_
              have eM_15 : M_15 = (f_X10_giveBody n 12 nt kd x5_4 M_3).2 := congrArg Prod.snd ep_
              clear ep_
              refine lv_imul hx hb dX10_giveBody_143 ?_
              exact x_reti hx hb hr hlk hP hS (hres.symm.trans hF) dX10_giveBody_144
            · replace hres := hres.trans (if_neg c_13)
              by_cases c_16 : body = 14
              · replace hres := hres.trans (if_pos c_16)
                refine lv_tableIn (off := 124) (tgt := 145) hx hb dX10_giveBody_21 (by rw [c_16]; decide) (by rw [c_16]; decide) (by rw [c_16]; rfl) (by decide) ?_
                refine lv_bipush (v := 10) hx hb dX10_giveBody_145 (by decide) ?_
                refine lv_aload_n hx hb dX10_giveBody_147 rfl (lv_at hl 2 rfl) ?_
                refine lv_iload_n hx hb dX10_giveBody_148 rfl (lv_at hl 3 rfl) ?_
                refine lv_aload_n hx hb dX10_giveBody_149 rfl (lv_at hl 4 rfl) ?_
                refine lv_iload hx hb dX10_giveBody_150 (lv_at hl 0 rfl) ?_
                refine x_callSi (As := [.int 10, .ref (xad g 29 nt), .int kd, .ref (xad g 12 0), .int x5_4]) S hK hAm hD hP hS mt_X10_giveBody wd_1035 ⟨Nat.le_refl _, by show 8 + (6 + 11) + 64 * (n + 3) ≤ 64 * (n + 4); omega⟩ (ih M_3 10 nt kd x5_4 hnt (ob_X10_giveBody_152_p0 nb nn n body nt kd depth M hnt hp0 hp1 hp2 hmu c_1 M_3 eM_3 x5_4 ex5_4 c_5 c_6 c_10 c_13 c_16) (ob_X10_giveBody_152_p1 nb nn n body nt kd depth M hnt hp0 hp1 hp2 hmu c_1 M_3 eM_3 x5_4 ex5_4 c_5 c_6 c_10 c_13 c_16) (ob_X10_giveBody_152_p2 nb nn n body nt kd depth M hnt hp0 hp1 hp2 hmu c_1 M_3 eM_3 x5_4 ex5_4 c_5 c_6 c_10 c_13 c_16) (ob_X10_giveBody_152_p3 nb nn n body nt kd depth M hnt hp0 hp1 hp2 hmu c_1 M_3 eM_3 x5_4 ex5_4 c_5 c_6 c_10 c_13 c_16)) rfl hl.1 (Nat.le_of_ble_eq_true rfl) ⟨Nat.zero_le _, Nat.zero_le _⟩ dX10_giveBody_152 rfl (fun r_17 M_18 H locs ep_ hP hS => ?_)
                replace hres := xlet2_n hres ep_
                have er_17 : r_17 = (f_X10_giveBody n 10 nt kd x5_4 M_3).1 := congrArg Prod.fst ep_
                have eM_18 : M_18 = (f_X10_giveBody n 10 nt kd x5_4 M_3).2 := congrArg Prod.snd ep_
                clear ep_
                refine lv_iconst (v := 2) hx hb dX10_giveBody_155 (by decide) ?_
                refine lv_idiv hx hb dX10_giveBody_156 (by decide) ?_
                exact x_reti hx hb hr hlk hP hS (hres.symm.trans hF) dX10_giveBody_157
              · replace hres := hres.trans (if_neg c_16)
                by_cases c_19 : body = 15
                · replace hres := hres.trans (if_pos c_19)
                  refine lv_tableIn (off := 197) (tgt := 218) hx hb dX10_giveBody_21 (by rw [c_19]; decide) (by rw [c_19]; decide) (by rw [c_19]; rfl) (by decide) ?_
                  refine lv_iconst (v := 0) hx hb dX10_giveBody_218 (by decide) ?_
                  exact x_reti hx hb hr hlk hP hS (hres.symm.trans hF) dX10_giveBody_219
                · replace hres := hres.trans (if_neg c_19)
                  by_cases c_20 : body = 16
                  · replace hres := hres.trans (if_pos c_20)
                    refine lv_tableIn (off := 197) (tgt := 218) hx hb dX10_giveBody_21 (by rw [c_20]; decide) (by rw [c_20]; decide) (by rw [c_20]; rfl) (by decide) ?_
                    refine lv_iconst (v := 0) hx hb dX10_giveBody_218 (by decide) ?_
                    exact x_reti hx hb hr hlk hP hS (hres.symm.trans hF) dX10_giveBody_219
                  · replace hres := hres.trans (if_neg c_20)
                    by_cases c_21 : body = 17
                    · replace hres := hres.trans (if_pos c_21)
                      refine lv_tableIn (off := 197) (tgt := 218) hx hb dX10_giveBody_21 (by rw [c_21]; decide) (by rw [c_21]; decide) (by rw [c_21]; rfl) (by decide) ?_
                      refine lv_iconst (v := 0) hx hb dX10_giveBody_218 (by decide) ?_
                      exact x_reti hx hb hr hlk hP hS (hres.symm.trans hF) dX10_giveBody_219
                    · replace hres := hres.trans (if_neg c_21)
                      by_cases c_22 : body = 18
                      · replace hres := hres.trans (if_pos c_22)
                        refine lv_tableIn (off := 197) (tgt := 218) hx hb dX10_giveBody_21 (by rw [c_22]; decide) (by rw [c_22]; decide) (by rw [c_22]; rfl) (by decide) ?_
                        refine lv_iconst (v := 0) hx hb dX10_giveBody_218 (by decide) ?_
                        exact x_reti hx hb hr hlk hP hS (hres.symm.trans hF) dX10_giveBody_219
                      · replace hres := hres.trans (if_neg c_22)
                        by_cases c_23 : body = 19
                        · replace hres := hres.trans (if_pos c_23)
                          refine lv_tableIn (off := 197) (tgt := 218) hx hb dX10_giveBody_21 (by rw [c_23]; decide) (by rw [c_23]; decide) (by rw [c_23]; rfl) (by decide) ?_
                          refine lv_iconst (v := 0) hx hb dX10_giveBody_218 (by decide) ?_
                          exact x_reti hx hb hr hlk hP hS (hres.symm.trans hF) dX10_giveBody_219
                        · replace hres := hres.trans (if_neg c_23)
                          by_cases c_24 : body = 20
                          · replace hres := hres.trans (if_pos c_24)
                            refine lv_tableIn (off := 137) (tgt := 158) hx hb dX10_giveBody_21 (by rw [c_24]; decide) (by rw [c_24]; decide) (by rw [c_24]; rfl) (by decide) ?_
                            refine lv_aload_n hx hb dX10_giveBody_158 rfl (lv_at hl 2 rfl) ?_
                            refine gf_RX10_299 hx hb hts hown hK hP (hL 29 nt hnt) dX10_giveBody_159 ?_
                            exact x_reti hx hb hr hlk hP hS (hres.symm.trans hF) dX10_giveBody_162
                          · replace hres := hres.trans (if_neg c_24)
                            by_cases c_25 : body = 21
                            · replace hres := hres.trans (if_pos c_25)
                              refine lv_tableIn (off := 142) (tgt := 163) hx hb dX10_giveBody_21 (by rw [c_25]; decide) (by rw [c_25]; decide) (by rw [c_25]; rfl) (by decide) ?_
                              refine lv_bipush (v := 20) hx hb dX10_giveBody_163 (by decide) ?_
                              refine lv_aload_n hx hb dX10_giveBody_165 rfl (lv_at hl 2 rfl) ?_
                              refine lv_iload_n hx hb dX10_giveBody_166 rfl (lv_at hl 3 rfl) ?_
                              refine lv_aload_n hx hb dX10_giveBody_167 rfl (lv_at hl 4 rfl) ?_
                              refine lv_iload hx hb dX10_giveBody_168 (lv_at hl 0 rfl) ?_
                              refine x_callSi (As := [.int 20, .ref (xad g 29 nt), .int kd, .ref (xad g 12 0), .int x5_4]) S hK hAm hD hP hS mt_X10_giveBody wd_1035 ⟨Nat.le_refl _, by show 8 + (6 + 11) + 64 * (n + 3) ≤ 64 * (n + 4); omega⟩ (ih M_3 20 nt kd x5_4 hnt (ob_X10_giveBody_170_p0 nb nn n body nt kd depth M hnt hp0 hp1 hp2 hmu c_1 M_3 eM_3 x5_4 ex5_4 c_5 c_6 c_10 c_13 c_16 c_19 c_20 c_21 c_22 c_23 c_24 c_25) (ob_X10_giveBody_170_p1 nb nn n body nt kd depth M hnt hp0 hp1 hp2 hmu c_1 M_3 eM_3 x5_4 ex5_4 c_5 c_6 c_10 c_13 c_16 c_19 c_20 c_21 c_22 c_23 c_24 c_25) (ob_X10_giveBody_170_p2 nb nn n body nt kd depth M hnt hp0 hp1 hp2 hmu c_1 M_3 eM_3 x5_4 ex5_4 c_5 c_6 c_10 c_13 c_16 c_19 c_20 c_21 c_22 c_23 c_24 c_25) (ob_X10_giveBody_170_p3 nb nn n body nt kd depth M hnt hp0 hp1 hp2 hmu c_1 M_3 eM_3 x5_4 ex5_4 c_5 c_6 c_10 c_13 c_16 c_19 c_20 c_21 c_22 c_23 c_24 c_25)) rfl hl.1 (Nat.le_of_ble_eq_true rfl) ⟨Nat.zero_le _, Nat.zero_le _⟩ dX10_giveBody_170 rfl (fun r_26 M_27 H locs ep_ hP hS => ?_)
                              replace hres := xlet2_n hres ep_
                              have er_26 : r_26 = (f_X10_giveBody n 20 nt kd x5_4 M_3).1 := congrArg Prod.fst ep_
                              have eM_27 : M_27 = (f_X10_giveBody n 20 nt kd x5_4 M_3).2 := congrArg Prod.snd ep_
                              clear ep_
                              refine lv_bipush (v := 100) hx hb dX10_giveBody_173 (by decide) ?_
                              refine lv_iadd hx hb dX10_giveBody_175 ?_
                              exact x_reti hx hb hr hlk hP hS (hres.symm.trans hF) dX10_giveBody_176
                            · replace hres := hres.trans (if_neg c_25)
                              by_cases c_28 : body = 22
                              · replace hres := hres.trans (if_pos c_28)
                                refine lv_tableIn (off := 156) (tgt := 177) hx hb dX10_giveBody_21 (by rw [c_28]; decide) (by rw [c_28]; decide) (by rw [c_28]; rfl) (by decide) ?_
                                refine lv_bipush (v := 21) hx hb dX10_giveBody_177 (by decide) ?_
                                refine lv_aload_n hx hb dX10_giveBody_179 rfl (lv_at hl 2 rfl) ?_
                                refine lv_iload_n hx hb dX10_giveBody_180 rfl (lv_at hl 3 rfl) ?_
                                refine lv_aload_n hx hb dX10_giveBody_181 rfl (lv_at hl 4 rfl) ?_
                                refine lv_iload hx hb dX10_giveBody_182 (lv_at hl 0 rfl) ?_
                                refine x_callSi (As := [.int 21, .ref (xad g 29 nt), .int kd, .ref (xad g 12 0), .int x5_4]) S hK hAm hD hP hS mt_X10_giveBody wd_1035 ⟨Nat.le_refl _, by show 8 + (6 + 11) + 64 * (n + 3) ≤ 64 * (n + 4); omega⟩ (ih M_3 21 nt kd x5_4 hnt (ob_X10_giveBody_184_p0 nb nn n body nt kd depth M hnt hp0 hp1 hp2 hmu c_1 M_3 eM_3 x5_4 ex5_4 c_5 c_6 c_10 c_13 c_16 c_19 c_20 c_21 c_22 c_23 c_24 c_25 c_28) (ob_X10_giveBody_184_p1 nb nn n body nt kd depth M hnt hp0 hp1 hp2 hmu c_1 M_3 eM_3 x5_4 ex5_4 c_5 c_6 c_10 c_13 c_16 c_19 c_20 c_21 c_22 c_23 c_24 c_25 c_28) (ob_X10_giveBody_184_p2 nb nn n body nt kd depth M hnt hp0 hp1 hp2 hmu c_1 M_3 eM_3 x5_4 ex5_4 c_5 c_6 c_10 c_13 c_16 c_19 c_20 c_21 c_22 c_23 c_24 c_25 c_28) (ob_X10_giveBody_184_p3 nb nn n body nt kd depth M hnt hp0 hp1 hp2 hmu c_1 M_3 eM_3 x5_4 ex5_4 c_5 c_6 c_10 c_13 c_16 c_19 c_20 c_21 c_22 c_23 c_24 c_25 c_28)) rfl hl.1 (Nat.le_of_ble_eq_true rfl) ⟨Nat.zero_le _, Nat.zero_le _⟩ dX10_giveBody_184 rfl (fun r_29 M_30 H locs ep_ hP hS => ?_)
                                replace hres := xlet2_n hres ep_
                                have er_29 : r_29 = (f_X10_giveBody n 21 nt kd x5_4 M_3).1 := congrArg Prod.fst ep_
                                have eM_30 : M_30 = (f_X10_giveBody n 21 nt kd x5_4 M_3).2 := congrArg Prod.snd ep_
                                clear ep_
                                refine lv_aload_n hx hb dX10_giveBody_187 rfl (lv_at hl 2 rfl) ?_
                                refine gf_RX10_250 hx hb hts hown hK hP (hL 29 nt hnt) dX10_giveBody_188 ?_
                                refine lv_iadd hx hb dX10_giveBody_191 ?_
                                exact x_reti hx hb hr hlk hP hS (hres.symm.trans hF) dX10_giveBody_192
                              · replace hres := hres.trans (if_neg c_28)
                                by_cases c_31 : body = 23
                                · replace hres := hres.trans (if_pos c_31)
                                  refine lv_tableIn (off := 172) (tgt := 193) hx hb dX10_giveBody_21 (by rw [c_31]; decide) (by rw [c_31]; decide) (by rw [c_31]; rfl) (by decide) ?_
                                  refine lv_bipush (v := 20) hx hb dX10_giveBody_193 (by decide) ?_
                                  refine lv_aload_n hx hb dX10_giveBody_195 rfl (lv_at hl 2 rfl) ?_
                                  refine lv_iload_n hx hb dX10_giveBody_196 rfl (lv_at hl 3 rfl) ?_
                                  refine lv_aload_n hx hb dX10_giveBody_197 rfl (lv_at hl 4 rfl) ?_
                                  refine lv_iload hx hb dX10_giveBody_198 (lv_at hl 0 rfl) ?_
                                  refine x_callSi (As := [.int 20, .ref (xad g 29 nt), .int kd, .ref (xad g 12 0), .int x5_4]) S hK hAm hD hP hS mt_X10_giveBody wd_1035 ⟨Nat.le_refl _, by show 8 + (6 + 11) + 64 * (n + 3) ≤ 64 * (n + 4); omega⟩ (ih M_3 20 nt kd x5_4 hnt (ob_X10_giveBody_200_p0 nb nn n body nt kd depth M hnt hp0 hp1 hp2 hmu c_1 M_3 eM_3 x5_4 ex5_4 c_5 c_6 c_10 c_13 c_16 c_19 c_20 c_21 c_22 c_23 c_24 c_25 c_28 c_31) (ob_X10_giveBody_200_p1 nb nn n body nt kd depth M hnt hp0 hp1 hp2 hmu c_1 M_3 eM_3 x5_4 ex5_4 c_5 c_6 c_10 c_13 c_16 c_19 c_20 c_21 c_22 c_23 c_24 c_25 c_28 c_31) (ob_X10_giveBody_200_p2 nb nn n body nt kd depth M hnt hp0 hp1 hp2 hmu c_1 M_3 eM_3 x5_4 ex5_4 c_5 c_6 c_10 c_13 c_16 c_19 c_20 c_21 c_22 c_23 c_24 c_25 c_28 c_31) (ob_X10_giveBody_200_p3 nb nn n body nt kd depth M hnt hp0 hp1 hp2 hmu c_1 M_3 eM_3 x5_4 ex5_4 c_5 c_6 c_10 c_13 c_16 c_19 c_20 c_21 c_22 c_23 c_24 c_25 c_28 c_31)) rfl hl.1 (Nat.le_of_ble_eq_true rfl) ⟨Nat.zero_le _, Nat.zero_le _⟩ dX10_giveBody_200 rfl (fun r_32 M_33 H locs ep_ hP hS => ?_)
                                  replace hres := xlet2_n hres ep_
                                  have er_32 : r_32 = (f_X10_giveBody n 20 nt kd x5_4 M_3).1 := congrArg Prod.fst ep_
                                  have eM_33 : M_33 = (f_X10_giveBody n 20 nt kd x5_4 M_3).2 := congrArg Prod.snd ep_
                                  clear ep_
                                  refine x_gets0 hx hb hts hown hAm hD hS wd_1029 dX10_giveBody_203 ?_
                                  refine lv_iload_n hx hb dX10_giveBody_206 rfl (lv_at hl 3 rfl) ?_
                                  refine x_tab0 hx hb hAm hD hS (ob_X10_giveBody_207_in nb nn n body nt kd depth M hnt hp0 hp1 hp2 hmu c_1 M_3 eM_3 x5_4 ex5_4 c_5 c_6 c_10 c_13 c_16 c_19 c_20 c_21 c_22 c_23 c_24 c_25 c_28 c_31 r_32 M_33 er_32 eM_33) dX10_giveBody_207 ?_
                                  refine lv_aload_n hx hb dX10_giveBody_208 rfl (lv_at hl 2 rfl) ?_
                                  refine lv_iload_n hx hb dX10_giveBody_209 rfl (lv_at hl 3 rfl) ?_
                                  refine lv_aload_n hx hb dX10_giveBody_210 rfl (lv_at hl 4 rfl) ?_
                                  refine lv_iload hx hb dX10_giveBody_211 (lv_at hl 0 rfl) ?_
                                  refine x_callSi (As := [.int (([10, 11, 12, 13, 14, 10] : List Int32).getD kd.toNatClampNeg 0), .ref (xad g 29 nt), .int kd, .ref (xad g 12 0), .int x5_4]) S hK hAm hD hP hS mt_X10_giveBody wd_1035 ⟨Nat.le_refl _, by show 8 + (6 + 11) + 64 * (n + 3) ≤ 64 * (n + 4); omega⟩ (ih M_33 (([10, 11, 12, 13, 14, 10] : List Int32).getD kd.toNatClampNeg 0) nt kd x5_4 hnt (ob_X10_giveBody_213_p0 nb nn n body nt kd depth M hnt hp0 hp1 hp2 hmu c_1 M_3 eM_3 x5_4 ex5_4 c_5 c_6 c_10 c_13 c_16 c_19 c_20 c_21 c_22 c_23 c_24 c_25 c_28 c_31 r_32 M_33 er_32 eM_33) (ob_X10_giveBody_213_p1 nb nn n body nt kd depth M hnt hp0 hp1 hp2 hmu c_1 M_3 eM_3 x5_4 ex5_4 c_5 c_6 c_10 c_13 c_16 c_19 c_20 c_21 c_22 c_23 c_24 c_25 c_28 c_31 r_32 M_33 er_32 eM_33) (ob_X10_giveBody_213_p2 nb nn n body nt kd depth M hnt hp0 hp1 hp2 hmu c_1 M_3 eM_3 x5_4 ex5_4 c_5 c_6 c_10 c_13 c_16 c_19 c_20 c_21 c_22 c_23 c_24 c_25 c_28 c_31 r_32 M_33 er_32 eM_33) (ob_X10_giveBody_213_p3 nb nn n body nt kd depth M hnt hp0 hp1 hp2 hmu c_1 M_3 eM_3 x5_4 ex5_4 c_5 c_6 c_10 c_13 c_16 c_19 c_20 c_21 c_22 c_23 c_24 c_25 c_28 c_31 r_32 M_33 er_32 eM_33)) rfl hl.1 (Nat.le_of_ble_eq_true rfl) ⟨Nat.zero_le _, Nat.zero_le _⟩ dX10_giveBody_213 rfl (fun r_34 M_35 H locs ep_ hP hS => ?_)
                                  replace hres := xlet2_n hres ep_
                                  have er_34 : r_34 = (f_X10_giveBody n (([10, 11, 12, 13, 14, 10] : List Int32).getD kd.toNatClampNeg 0) nt kd x5_4 M_33).1 := congrArg Prod.fst ep_
                                  have eM_35 : M_35 = (f_X10_giveBody n (([10, 11, 12, 13, 14, 10] : List Int32).getD kd.toNatClampNeg 0) nt kd x5_4 M_33).2 := congrArg Prod.snd ep_
                                  clear ep_
                                  refine lv_iadd hx hb dX10_giveBody_216 ?_
                                  exact x_reti hx hb hr hlk hP hS (hres.symm.trans hF) dX10_giveBody_217
                                · replace hres := hres.trans (if_neg c_31)
                                  refine lv_tableOut (tgt := 218) hx hb dX10_giveBody_21 (by have q0 := lv_neT c_5 (show (10 : Int32).toInt = 10 from rfl); have q1 := lv_neT c_6 (show (11 : Int32).toInt = 11 from rfl); have q2 := lv_neT c_10 (show (12 : Int32).toInt = 12 from rfl); have q3 := lv_neT c_13 (show (13 : Int32).toInt = 13 from rfl); have q4 := lv_neT c_16 (show (14 : Int32).toInt = 14 from rfl); have q5 := lv_neT c_19 (show (15 : Int32).toInt = 15 from rfl); have q6 := lv_neT c_20 (show (16 : Int32).toInt = 16 from rfl); have q7 := lv_neT c_21 (show (17 : Int32).toInt = 17 from rfl); have q8 := lv_neT c_22 (show (18 : Int32).toInt = 18 from rfl); have q9 := lv_neT c_23 (show (19 : Int32).toInt = 19 from rfl); have q10 := lv_neT c_24 (show (20 : Int32).toInt = 20 from rfl); have q11 := lv_neT c_25 (show (21 : Int32).toInt = 21 from rfl); have q12 := lv_neT c_28 (show (22 : Int32).toInt = 22 from rfl); have q13 := lv_neT c_31 (show (23 : Int32).toInt = 23 from rfl); omega) (by decide) ?_
                                  refine lv_iconst (v := 0) hx hb dX10_giveBody_218 (by decide) ?_
                                  exact x_reti hx hb hr hlk hP hS (hres.symm.trans hF) dX10_giveBody_219
    · replace hres := hres.trans (if_neg c_1)
      refine lv_iconst (v := 0) hx hb dX10_giveBody_7 (by decide) ?_
      exact x_reti hx hb hr hlk hP hS (hres.symm.trans hF) dX10_giveBody_8
