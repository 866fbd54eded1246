def f_X11_sheet_L65 (sh : Int32) (ln : Int32) (z : Int32) : Nat → Int32 → xM → (Int32 → xM → Int32 × xM) → Int32 × xM
  | 0, _, N_, _ => (0, N_)
  | n + 1, k, N_, kx => if 60 ≤ k then kx k N_ else xlet (xup N_ 54 0 ((60 * sh) + k).toNatClampNeg 0) fun M_2 => xlet (k + 1) fun x4_3 => f_X11_sheet_L65 sh ln z n x4_3 M_2 kx
def f_X11_sheet (sh : Int32) (ln : Int32) (z : Int32) (M : xM) : Int32 × xM :=
  xlet (xup M 40 0 0 0) fun M_4 => xlet (xb (f_X11_isSheet sh M_4)) fun r_5 => if r_5 = 0 then ((-1000001), M_4) else xlet (xb (f_X11_in (ln.toInt64) 0 2 M_4)) fun r_7 => if r_7 = 0 then ((-1000001), M_4) else if z ≤ 60 then xlet (xup M_4 40 0 1 0) fun M_10 => if 0 ≤ z then xlet (xup M_10 52 0 sh.toNatClampNeg ln) fun M_12 => xlet (xup M_12 53 0 sh.toNatClampNeg z) fun M_13 => f_X11_sheet_L65 sh ln z (xmu (0 : Int32) 60 + 1) (0 : Int32) M_13 (fun k_14 M_15 => (z, M_15)) else xlet2 (f_X11_finding 4 M_10) fun r_16 M_17 => (r_16, M_17) else ((-1000001), M_4)
def f_X11_set (sh : Int32) (i : Int32) (v : Int32) (M : xM) : Int32 × xM :=
  xlet (xup M 40 0 0 0) fun M_1 => xlet (xb (f_X11_isSheet sh M_1)) fun r_2 => if r_2 = 0 then ((-1000001), M_1) else xlet (xup M_1 40 0 1 0) fun M_4 => if 0 ≤ (M_4 52 0 sh.toNatClampNeg) then xlet (xb (f_X11_in (i.toInt64) 0 (((M_4 53 0 sh.toNatClampNeg) - 1).toInt64) M_4)) fun r_6 => if r_6 = 0 then xlet2 (f_X11_finding 2 M_4) fun r_15 M_16 => (r_15, M_16) else if (M_4 52 0 sh.toNatClampNeg) = 0 then xlet (v.toInt8.toInt32) fun v_13 => xlet (xup M_4 54 0 ((60 * sh) + i).toNatClampNeg v_13) fun M_14 => ((M_14 54 0 ((60 * sh) + i).toNatClampNeg), M_14) else if (M_4 52 0 sh.toNatClampNeg) = 1 then xlet (v.toInt16.toInt32) fun v_11 => xlet (xup M_4 54 0 ((60 * sh) + i).toNatClampNeg v_11) fun M_12 => ((M_12 54 0 ((60 * sh) + i).toNatClampNeg), M_12) else xlet (xup M_4 54 0 ((60 * sh) + i).toNatClampNeg v) fun M_10 => ((M_10 54 0 ((60 * sh) + i).toNatClampNeg), M_10) else xlet2 (f_X11_finding 1 M_4) fun r_17 M_18 => (r_17, M_18)
def f_X11_copy_L143 (a : Int32) (i : Int32) (b : Int32) (j : Int32) (z : Int32) (up : Int32) : Nat → Int32 → xM → (Int32 → xM → Int32 × xM) → Int32 × xM
  | 0, _, N_, _ => (0, N_)
  | n + 1, k, N_, kx => if z ≤ k then kx k N_ else if up = 0 then xlet ((z - 1) - k) fun x8_3 => xlet (N_ 54 0 (((60 * a) + i) + x8_3).toNatClampNeg) fun v_4 => xlet (xup N_ 54 0 (((60 * b) + j) + x8_3).toNatClampNeg v_4) fun M_5 => xlet (k + 1) fun x7_6 => f_X11_copy_L143 a i b j z up n x7_6 M_5 kx else xlet (N_ 54 0 (((60 * a) + i) + k).toNatClampNeg) fun v_7 => xlet (xup N_ 54 0 (((60 * b) + j) + k).toNatClampNeg v_7) fun M_8 => xlet (k + 1) fun x7_9 => f_X11_copy_L143 a i b j z up n x7_9 M_8 kx
def f_X11_copy (a : Int32) (i : Int32) (b : Int32) (j : Int32) (z : Int32) (M : xM) : Int32 × xM :=
  xlet (xup M 40 0 0 0) fun M_10 => xlet (xb (f_X11_isSheet a M_10)) fun r_11 => if r_11 = 0 then ((-1000001), M_10) else xlet (xb (f_X11_isSheet b M_10)) fun r_13 => if r_13 = 0 then ((-1000001), M_10) else xlet (xup M_10 40 0 1 0) fun M_15 => if (M_15 52 0 a.toNatClampNeg) < 0 then xlet2 (f_X11_finding 1 M_15) fun r_17 M_18 => (r_17, M_18) else if 0 ≤ (M_15 52 0 b.toNatClampNeg) then if (M_15 52 0 a.toNatClampNeg) = (M_15 52 0 b.toNatClampNeg) then if i < 0 then xlet2 (f_X11_finding 2 M_15) fun r_22 M_23 => (r_22, M_23) else if j < 0 then xlet2 (f_X11_finding 2 M_15) fun r_25 M_26 => (r_25, M_26) else if z < 0 then xlet2 (f_X11_finding 2 M_15) fun r_28 M_29 => (r_28, M_29) else if 0 < (lg_cmp (i.toInt64 + z.toInt64) ((M_15 53 0 a.toNatClampNeg).toInt64)) then xlet2 (f_X11_finding 2 M_15) fun r_31 M_32 => (r_31, M_32) else if (lg_cmp (j.toInt64 + z.toInt64) ((M_15 53 0 b.toNatClampNeg).toInt64)) ≤ 0 then if i < j then f_X11_copy_L143 a i b j z (0 : Int32) (xmu (0 : Int32) z + 1) (0 : Int32) M_15 (fun k_35 M_36 => (z, M_36)) else f_X11_copy_L143 a i b j z (1 : Int32) (xmu (0 : Int32) z + 1) (0 : Int32) M_15 (fun k_37 M_38 => (z, M_38)) else xlet2 (f_X11_finding 2 M_15) fun r_39 M_40 => (r_39, M_40) else xlet2 (f_X11_finding 5 M_15) fun r_41 M_42 => (r_41, M_42) else xlet2 (f_X11_finding 1 M_15) fun r_43 M_44 => (r_43, M_44)
def f_X11_drop (sh : Int32) (M : xM) : Int32 × xM :=
  xlet (xup M 40 0 0 0) fun M_1 => xlet (xb (f_X11_isSheet sh M_1)) fun r_2 => if r_2 = 0 then ((-1000001), M_1) else xlet (xup M_1 40 0 1 0) fun M_4 => if 0 ≤ (M_4 52 0 sh.toNatClampNeg) then xlet (xup M_4 52 0 sh.toNatClampNeg (-1)) fun M_6 => ((M_6 53 0 sh.toNatClampNeg), M_6) else xlet2 (f_X11_finding 1 M_4) fun r_7 M_8 => (r_7, M_8)
def f_X11_lookItems (sh : Int32) (i : Int32) (z : Int32) (M : xM) : Int32 × xM :=
  if 0 ≤ (M 52 0 sh.toNatClampNeg) then if i < 0 then xlet2 (f_X11_finding 2 M) fun r_3 M_4 => (r_3, M_4) else if (lg_cmp (i.toInt64 + z.toInt64) ((M 53 0 sh.toNatClampNeg).toInt64)) ≤ 0 then (0, M) else xlet2 (f_X11_finding 2 M) fun r_6 M_7 => (r_6, M_7) else xlet2 (f_X11_finding 1 M) fun r_8 M_9 => (r_8, M_9)
def f_X11_road (a : Int32) (b : Int32) (v : Int32) (M : xM) : Int32 × xM :=
  xlet (xup M 40 0 0 0) fun M_1 => xlet (xb (f_X11_isTown a M_1)) fun r_2 => if r_2 = 0 then ((-1000001), M_1) else xlet (xb (f_X11_isTown b M_1)) fun r_4 => if r_4 = 0 then ((-1000001), M_1) else if a = b then ((-1000001), M_1) else xlet (xb (f_X11_in (v.toInt64) 0 500 M_1)) fun r_7 => if r_7 = 0 then ((-1000001), M_1) else xlet (M_1 55 0 ((6 * a) + b).toNatClampNeg) fun x4_9 => xlet (xup M_1 55 0 ((6 * a) + b).toNatClampNeg v) fun M_10 => xlet (xup M_10 55 0 ((6 * b) + a).toNatClampNeg v) fun M_11 => (x4_9, M_11)
def f_X11_farFrom_L42 (a : Int32) (b : Int32) (k : Int32) : Nat → Int32 → xM → (Int32 → xM → Int32 × xM) → Int32 × xM
  | 0, _, N_, _ => (0, N_)
  | n + 1, t, N_, kx => if 36 ≤ t then kx t N_ else xlet (t / 6) fun x5_2 => xlet (t - t / 6 * 6) fun x6_3 => if (N_ 55 0 t.toNatClampNeg) ≤ 0 then xlet (t + 1) fun x4_5 => f_X11_farFrom_L42 a b k n x4_5 N_ kx else if (N_ 56 0 x5_2.toNatClampNeg) = (-1000000) then xlet (t + 1) fun x4_7 => f_X11_farFrom_L42 a b k n x4_7 N_ kx else if (N_ 56 0 x6_3.toNatClampNeg) = (-1000000) then xlet ((N_ 56 0 x5_2.toNatClampNeg) + (N_ 55 0 t.toNatClampNeg)) fun v_9 => xlet (xup N_ 56 0 x6_3.toNatClampNeg v_9) fun M_10 => xlet (t + 1) fun x4_11 => f_X11_farFrom_L42 a b k n x4_11 M_10 kx else if (N_ 56 0 x6_3.toNatClampNeg) ≤ ((N_ 56 0 x5_2.toNatClampNeg) + (N_ 55 0 t.toNatClampNeg)) then xlet (t + 1) fun x4_13 => f_X11_farFrom_L42 a b k n x4_13 N_ kx else xlet ((N_ 56 0 x5_2.toNatClampNeg) + (N_ 55 0 t.toNatClampNeg)) fun v_14 => xlet (xup N_ 56 0 x6_3.toNatClampNeg v_14) fun M_15 => xlet (t + 1) fun x4_16 => f_X11_farFrom_L42 a b k n x4_16 M_15 kx
def f_X11_farFrom_L33 (a : Int32) (b : Int32) : Nat → Int32 → xM → (Int32 → xM → Int32 × xM) → Int32 × xM
  | 0, _, N_, _ => (0, N_)
  | n + 1, k, N_, kx => if 6 ≤ k then kx k N_ else f_X11_farFrom_L42 a b k (xmu (0 : Int32) 36 + 1) (0 : Int32) N_ (fun t_18 M_19 => xlet (k + 1) fun x3_20 => f_X11_farFrom_L33 a b n x3_20 M_19 kx)
def f_X11_farFrom_L2 (a : Int32) (b : Int32) : Nat → Int32 → xM → (Int32 → xM → Int32 × xM) → Int32 × xM
  | 0, _, N_, _ => (0, N_)
  | n + 1, t, N_, kx => if 6 ≤ t then kx t N_ else if t = a then xlet (xup N_ 56 0 t.toNatClampNeg 0) fun M_25 => xlet (t + 1) fun x3_26 => f_X11_farFrom_L2 a b n x3_26 M_25 kx else xlet (xup N_ 56 0 t.toNatClampNeg (-1000000)) fun M_23 => xlet (t + 1) fun x3_24 => f_X11_farFrom_L2 a b n x3_24 M_23 kx
def f_X11_farFrom (a : Int32) (b : Int32) (M : xM) : Int32 × xM :=
  f_X11_farFrom_L2 a b (xmu (0 : Int32) 6 + 1) (0 : Int32) M (fun t_27 M_28 => f_X11_farFrom_L33 a b (xmu (0 : Int32) 6 + 1) (0 : Int32) M_28 (fun k_29 M_30 => ((M_30 56 0 b.toNatClampNeg), M_30)))
def f_X11_far (a : Int32) (b : Int32) (M : xM) : Int32 × xM :=
  xlet (xup M 40 0 0 0) fun M_1 => xlet (xb (f_X11_isTown a M_1)) fun r_2 => if r_2 = 0 then ((-1000001), M_1) else xlet (xb (f_X11_isTown b M_1)) fun r_4 => if r_4 = 0 then ((-1000001), M_1) else xlet2 (f_X11_farFrom a b M_1) fun r_6 M_7 => (r_6, M_7)
def f_X11_bank (town : Int32) (v : Int32) (marks : Int32) (M : xM) : Int32 × xM :=
  xlet (xup M 40 0 0 0) fun M_1 => xlet (xb (f_X11_isTown town M_1)) fun r_2 => if r_2 = 0 then ((-1000001), M_1) else xlet (xb (f_X11_in (v.toInt64) 0 99999 M_1)) fun r_4 => if r_4 = 0 then ((-1000001), M_1) else xlet (xb (f_X11_in (marks.toInt64) 0 255 M_1)) fun r_6 => if r_6 = 0 then ((-1000001), M_1) else if (M_1 40 0 7) = 8 then ((-1000003), M_1) else xlet (xup M_1 58 0 (M_1 40 0 7).toNatClampNeg town) fun M_9 => xlet (xup M_9 59 0 (M_9 40 0 7).toNatClampNeg v) fun M_10 => xlet (xup M_10 60 0 (M_10 40 0 7).toNatClampNeg marks) fun M_11 => xlet ((M_11 40 0 7) + 1) fun v_12 => xlet (xup M_11 40 0 7 v_12) fun M_13 => (((M_13 40 0 7) - 1), M_13)
def f_X11_house (b : Int32) (what : Int32) (M : xM) : Int32 × xM :=
  xlet (xup M 40 0 0 0) fun M_1 => xlet (xb (f_X11_isBank b M_1)) fun r_2 => if r_2 = 0 then ((-1000001), M_1) else xlet (xb (f_X11_in (what.toInt64) 0 4 M_1)) fun r_4 => if r_4 = 0 then ((-1000001), M_1) else if what = 0 then ((M_1 58 0 b.toNatClampNeg), M_1) else if what = 1 then ((M_1 59 0 b.toNatClampNeg), M_1) else if what = 2 then ((M_1 60 0 b.toNatClampNeg), M_1) else if what = 3 then if (M_1 61 0 b.toNatClampNeg) = 0 then (0, M_1) else (1, M_1) else ((M_1 62 0 (9 * b).toNatClampNeg), M_1)
def f_X11_hold (a : Int32) (b : Int32) (v : Int32) (M : xM) : Int32 × xM :=
  xlet (xup M 40 0 0 0) fun M_1 => xlet (xb (f_X11_isBank a M_1)) fun r_2 => if r_2 = 0 then ((-1000001), M_1) else xlet (xb (f_X11_isBank b M_1)) fun r_4 => if r_4 = 0 then ((-1000001), M_1) else if a = b then xlet (xb (f_X11_in (v.toInt64) 0 99999 M_1)) fun r_11 => if r_11 = 0 then ((-1000001), M_1) else xlet (M_1 62 0 ((8 * a) + b).toNatClampNeg) fun x4_13 => xlet (xup M_1 62 0 ((8 * a) + b).toNatClampNeg v) fun M_14 => (x4_13, M_14) else xlet (xb (f_X11_in (v.toInt64) 0 9999 M_1)) fun r_7 => if r_7 = 0 then ((-1000001), M_1) else xlet (M_1 62 0 ((8 * a) + b).toNatClampNeg) fun x4_9 => xlet (xup M_1 62 0 ((8 * a) + b).toNatClampNeg v) fun M_10 => (x4_9, M_10)
def f_X11_week (w : Int32) (M : xM) : Int32 × xM :=
  xlet (xup M 40 0 0 0) fun M_1 => xlet (xb (f_X11_in (w.toInt64) ((M_1 40 0 13).toInt64) 299 M_1)) fun r_2 => if r_2 = 0 then ((-1000001), M_1) else xlet (M_1 40 0 13) fun x2_4 => xlet (xup M_1 40 0 13 w) fun M_5 => (x2_4, M_5)
def f_X11_feed_L40 (w : Int64) (z : Int32) : Nat → Int32 → xM → (Int32 → xM → Int32 × xM) → Int32 × xM
  | 0, _, N_, _ => (0, N_)
  | n + 1, k, N_, kx => if k < 0 then kx k N_ else xlet (((w >>> ((8 * k).toInt64 &&& 63)) &&& 255).toInt32) fun v_2 => xlet (xup N_ 70 0 (N_ 40 0 21).toNatClampNeg v_2) fun M_3 => xlet ((M_3 40 0 21) + 1) fun v_4 => xlet (xup M_3 40 0 21 v_4) fun M_5 => xlet (k + (-1)) fun x4_6 => f_X11_feed_L40 w z n x4_6 M_5 kx
def f_X11_feed (w : Int64) (z : Int32) (M : xM) : Int32 × xM :=
  xlet (xup M 40 0 0 0) fun M_7 => xlet (xb (f_X11_in (z.toInt64) 1 8 M_7)) fun r_8 => if r_8 = 0 then ((-1000001), M_7) else if ((M_7 40 0 21) + z) ≤ 400 then xlet (z - 1) fun x4_11 => f_X11_feed_L40 w z (xmu (-1) x4_11 + 1) x4_11 M_7 (fun k_12 M_13 => ((M_13 40 0 21), M_13)) else ((-1000003), M_7)
def f_X11_fault  (M : xM) : Int32 × xM :=
  xlet (xup M 40 0 0 0) fun M_1 => ((M_1 40 0 22), M_1)
theorem ob_X11_sheet_91_x65 (nb nn : Nat) (sh : Int32) (ln : Int32) (z : Int32) (M : xM) (n : Nat) (k : Int32) (N_ : xM) (hmu : xmu k 60 < n + 1) (hinv : 0 ≤ k ∧ 0 ≤ sh ∧ sh ≤ 7) (c_1 : 60 ≤ k) : 0 ≤ k ∧ 0 ≤ sh ∧ sh ≤ 7 := by
  subst_vars
  grind [xup_at, isSheet_eq, isTown_eq, isWeek_eq, isTrader_eq, in_0s, isBank_eq, in_0_1, in_0_2, in_0_4, in_0_5, in_0_6, in_0_7, in_0_100, in_0_255, in_0_299, in_0_500, in_0_9999, in_0_99999, in_1_6, in_1_8, in_1_100, in_1_999, in_t_299, xb]
theorem ob_X11_sheet_84_in (nb nn : Nat) (sh : Int32) (ln : Int32) (z : Int32) (M : xM) (n : Nat) (k : Int32) (N_ : xM) (hmu : xmu k 60 < n + 1) (hinv : 0 ≤ k ∧ 0 ≤ sh ∧ sh ≤ 7) (c_1 : ¬ 60 ≤ k) : vp_in ((60 * sh) + k) 480 := by
  subst_vars
  exact xin (N := 480) (by grind [xup_at, isSheet_eq, isTown_eq, isWeek_eq, isTrader_eq, in_0s, isBank_eq, in_0_1, in_0_2, in_0_4, in_0_5, in_0_6, in_0_7, in_0_100, in_0_255, in_0_299, in_0_500, in_0_9999, in_0_99999, in_1_6, in_1_8, in_1_100, in_1_999, in_t_299, xb]) (by grind [xup_at, isSheet_eq, isTown_eq, isWeek_eq, isTrader_eq, in_0s, isBank_eq, in_0_1, in_0_2, in_0_4, in_0_5, in_0_6, in_0_7, in_0_100, in_0_255, in_0_299, in_0_500, in_0_9999, in_0_99999, in_1_6, in_1_8, in_1_100, in_1_999, in_t_299, xb]) (by decide)
theorem ob_X11_sheet_65_mu_3 (nb nn : Nat) (sh : Int32) (ln : Int32) (z : Int32) (M : xM) (n : Nat) (k : Int32) (N_ : xM) (hmu : xmu k 60 < n + 1) (hinv : 0 ≤ k ∧ 0 ≤ sh ∧ sh ≤ 7) (c_1 : ¬ 60 ≤ k) (M_2 : xM) (eM_2 : M_2 = xup N_ 54 0 ((60 * sh) + k).toNatClampNeg 0) (x4_3 : Int32) (ex4_3 : x4_3 = k + 1) : xmu x4_3 60 < n := by
  subst_vars
  have h9 := xmu_up (a := k) (b := 60) (by grind)
  (try simp [xup_at])
  omega
theorem ob_X11_sheet_65_inv_3 (nb nn : Nat) (sh : Int32) (ln : Int32) (z : Int32) (M : xM) (n : Nat) (k : Int32) (N_ : xM) (hmu : xmu k 60 < n + 1) (hinv : 0 ≤ k ∧ 0 ≤ sh ∧ sh ≤ 7) (c_1 : ¬ 60 ≤ k) (M_2 : xM) (eM_2 : M_2 = xup N_ 54 0 ((60 * sh) + k).toNatClampNeg 0) (x4_3 : Int32) (ex4_3 : x4_3 = k + 1) : 0 ≤ x4_3 ∧ 0 ≤ sh ∧ sh ≤ 7 := by
  subst_vars
  grind [xup_at, isSheet_eq, isTown_eq, isWeek_eq, isTrader_eq, in_0s, isBank_eq, in_0_1, in_0_2, in_0_4, in_0_5, in_0_6, in_0_7, in_0_100, in_0_255, in_0_299, in_0_500, in_0_9999, in_0_99999, in_1_6, in_1_8, in_1_100, in_1_999, in_t_299, xb]
theorem ob_X11_sheet_54_in (nb nn : Nat) (sh : Int32) (ln : Int32) (z : Int32) (M : xM) (M_4 : xM) (eM_4 : M_4 = xup M 40 0 0 0) (r_5 : Int32) (er_5 : r_5 = xb (f_X11_isSheet sh M_4)) (c_6 : ¬ r_5 = 0) (r_7 : Int32) (er_7 : r_7 = xb (f_X11_in (ln.toInt64) 0 2 M_4)) (c_8 : ¬ r_7 = 0) (c_9 : z ≤ 60) (M_10 : xM) (eM_10 : M_10 = xup M_4 40 0 1 0) (c_11 : 0 ≤ z) : vp_in sh 8 := by
  subst_vars
  exact xin (N := 8) (by grind [xup_at, isSheet_eq, isTown_eq, isWeek_eq, isTrader_eq, in_0s, isBank_eq, in_0_1, in_0_2, in_0_4, in_0_5, in_0_6, in_0_7, in_0_100, in_0_255, in_0_299, in_0_500, in_0_9999, in_0_99999, in_1_6, in_1_8, in_1_100, in_1_999, in_t_299, xb]) (by grind [xup_at, isSheet_eq, isTown_eq, isWeek_eq, isTrader_eq, in_0s, isBank_eq, in_0_1, in_0_2, in_0_4, in_0_5, in_0_6, in_0_7, in_0_100, in_0_255, in_0_299, in_0_500, in_0_9999, in_0_99999, in_1_6, in_1_8, in_1_100, in_1_999, in_t_299, xb]) (by decide)
theorem ob_X11_sheet_61_in (nb nn : Nat) (sh : Int32) (ln : Int32) (z : Int32) (M : xM) (M_4 : xM) (eM_4 : M_4 = xup M 40 0 0 0) (r_5 : Int32) (er_5 : r_5 = xb (f_X11_isSheet sh M_4)) (c_6 : ¬ r_5 = 0) (r_7 : Int32) (er_7 : r_7 = xb (f_X11_in (ln.toInt64) 0 2 M_4)) (c_8 : ¬ r_7 = 0) (c_9 : z ≤ 60) (M_10 : xM) (eM_10 : M_10 = xup M_4 40 0 1 0) (c_11 : 0 ≤ z) (M_12 : xM) (eM_12 : M_12 = xup M_10 52 0 sh.toNatClampNeg ln) : vp_in sh 8 := by
  subst_vars
  exact xin (N := 8) (by grind [xup_at, isSheet_eq, isTown_eq, isWeek_eq, isTrader_eq, in_0s, isBank_eq, in_0_1, in_0_2, in_0_4, in_0_5, in_0_6, in_0_7, in_0_100, in_0_255, in_0_299, in_0_500, in_0_9999, in_0_99999, in_1_6, in_1_8, in_1_100, in_1_999, in_t_299, xb]) (by grind [xup_at, isSheet_eq, isTown_eq, isWeek_eq, isTrader_eq, in_0s, isBank_eq, in_0_1, in_0_2, in_0_4, in_0_5, in_0_6, in_0_7, in_0_100, in_0_255, in_0_299, in_0_500, in_0_9999, in_0_99999, in_1_6, in_1_8, in_1_100, in_1_999, in_t_299, xb]) (by decide)
theorem ob_X11_sheet_65_ini_13 (nb nn : Nat) (sh : Int32) (ln : Int32) (z : Int32) (M : xM) (M_4 : xM) (eM_4 : M_4 = xup M 40 0 0 0) (r_5 : Int32) (er_5 : r_5 = xb (f_X11_isSheet sh M_4)) (c_6 : ¬ r_5 = 0) (r_7 : Int32) (er_7 : r_7 = xb (f_X11_in (ln.toInt64) 0 2 M_4)) (c_8 : ¬ r_7 = 0) (c_9 : z ≤ 60) (M_10 : xM) (eM_10 : M_10 = xup M_4 40 0 1 0) (c_11 : 0 ≤ z) (M_12 : xM) (eM_12 : M_12 = xup M_10 52 0 sh.toNatClampNeg ln) (M_13 : xM) (eM_13 : M_13 = xup M_12 53 0 sh.toNatClampNeg z) : 0 ≤ (0 : Int32) ∧ 0 ≤ sh ∧ sh ≤ 7 := by
  subst_vars
  grind [xup_at, isSheet_eq, isTown_eq, isWeek_eq, isTrader_eq, in_0s, isBank_eq, in_0_1, in_0_2, in_0_4, in_0_5, in_0_6, in_0_7, in_0_100, in_0_255, in_0_299, in_0_500, in_0_9999, in_0_99999, in_1_6, in_1_8, in_1_100, in_1_999, in_t_299, xb]
theorem ob_X11_set_25_in (nb nn : Nat) (sh : Int32) (i : Int32) (v : Int32) (M : xM) (hp0 : ∀ j : Nat, 0 ≤ M 53 0 j ∧ M 53 0 j ≤ 60) (M_1 : xM) (eM_1 : M_1 = xup M 40 0 0 0) (r_2 : Int32) (er_2 : r_2 = xb (f_X11_isSheet sh M_1)) (c_3 : ¬ r_2 = 0) (M_4 : xM) (eM_4 : M_4 = xup M_1 40 0 1 0) : vp_in sh 8 := by
  subst_vars
  exact xin (N := 8) (by grind [xup_at, isSheet_eq, isTown_eq, isWeek_eq, isTrader_eq, in_0s, isBank_eq, in_0_1, in_0_2, in_0_4, in_0_5, in_0_6, in_0_7, in_0_100, in_0_255, in_0_299, in_0_500, in_0_9999, in_0_99999, in_1_6, in_1_8, in_1_100, in_1_999, in_t_299, xb]) (by grind [xup_at, isSheet_eq, isTown_eq, isWeek_eq, isTrader_eq, in_0s, isBank_eq, in_0_1, in_0_2, in_0_4, in_0_5, in_0_6, in_0_7, in_0_100, in_0_255, in_0_299, in_0_500, in_0_9999, in_0_99999, in_1_6, in_1_8, in_1_100, in_1_999, in_t_299, xb]) (by decide)
theorem ob_X11_set_43_in (nb nn : Nat) (sh : Int32) (i : Int32) (v : Int32) (M : xM) (hp0 : ∀ j : Nat, 0 ≤ M 53 0 j ∧ M 53 0 j ≤ 60) (M_1 : xM) (eM_1 : M_1 = xup M 40 0 0 0) (r_2 : Int32) (er_2 : r_2 = xb (f_X11_isSheet sh M_1)) (c_3 : ¬ r_2 = 0) (M_4 : xM) (eM_4 : M_4 = xup M_1 40 0 1 0) (c_5 : 0 ≤ (M_4 52 0 sh.toNatClampNeg)) : vp_in sh 8 := by
  subst_vars
  exact xin (N := 8) (by grind [xup_at, isSheet_eq, isTown_eq, isWeek_eq, isTrader_eq, in_0s, isBank_eq, in_0_1, in_0_2, in_0_4, in_0_5, in_0_6, in_0_7, in_0_100, in_0_255, in_0_299, in_0_500, in_0_9999, in_0_99999, in_1_6, in_1_8, in_1_100, in_1_999, in_t_299, xb]) (by grind [xup_at, isSheet_eq, isTown_eq, isWeek_eq, isTrader_eq, in_0s, isBank_eq, in_0_1, in_0_2, in_0_4, in_0_5, in_0_6, in_0_7, in_0_100, in_0_255, in_0_299, in_0_500, in_0_9999, in_0_99999, in_1_6, in_1_8, in_1_100, in_1_999, in_t_299, xb]) (by decide)
theorem ob_X11_set_74_in (nb nn : Nat) (sh : Int32) (i : Int32) (v : Int32) (M : xM) (hp0 : ∀ j : Nat, 0 ≤ M 53 0 j ∧ M 53 0 j ≤ 60) (M_1 : xM) (eM_1 : M_1 = xup M 40 0 0 0) (r_2 : Int32) (er_2 : r_2 = xb (f_X11_isSheet sh M_1)) (c_3 : ¬ r_2 = 0) (M_4 : xM) (eM_4 : M_4 = xup M_1 40 0 1 0) (c_5 : 0 ≤ (M_4 52 0 sh.toNatClampNeg)) (r_6 : Int32) (er_6 : r_6 = xb (f_X11_in (i.toInt64) 0 (((M_4 53 0 sh.toNatClampNeg) - 1).toInt64) M_4)) (c_7 : ¬ r_6 = 0) : vp_in sh 8 := by
  subst_vars
  exact xin (N := 8) (by grind [xup_at, isSheet_eq, isTown_eq, isWeek_eq, isTrader_eq, in_0s, isBank_eq, in_0_1, in_0_2, in_0_4, in_0_5, in_0_6, in_0_7, in_0_100, in_0_255, in_0_299, in_0_500, in_0_9999, in_0_99999, in_1_6, in_1_8, in_1_100, in_1_999, in_t_299, xb]) (by grind [xup_at, isSheet_eq, isTown_eq, isWeek_eq, isTrader_eq, in_0s, isBank_eq, in_0_1, in_0_2, in_0_4, in_0_5, in_0_6, in_0_7, in_0_100, in_0_255, in_0_299, in_0_500, in_0_9999, in_0_99999, in_1_6, in_1_8, in_1_100, in_1_999, in_t_299, xb]) (by decide)
theorem ob_X11_set_88_in (nb nn : Nat) (sh : Int32) (i : Int32) (v : Int32) (M : xM) (hp0 : ∀ j : Nat, 0 ≤ M 53 0 j ∧ M 53 0 j ≤ 60) (M_1 : xM) (eM_1 : M_1 = xup M 40 0 0 0) (r_2 : Int32) (er_2 : r_2 = xb (f_X11_isSheet sh M_1)) (c_3 : ¬ r_2 = 0) (M_4 : xM) (eM_4 : M_4 = xup M_1 40 0 1 0) (c_5 : 0 ≤ (M_4 52 0 sh.toNatClampNeg)) (r_6 : Int32) (er_6 : r_6 = xb (f_X11_in (i.toInt64) 0 (((M_4 53 0 sh.toNatClampNeg) - 1).toInt64) M_4)) (c_7 : ¬ r_6 = 0) (c_8 : ¬ (M_4 52 0 sh.toNatClampNeg) = 0) : vp_in sh 8 := by
  subst_vars
  exact xin (N := 8) (by grind [xup_at, isSheet_eq, isTown_eq, isWeek_eq, isTrader_eq, in_0s, isBank_eq, in_0_1, in_0_2, in_0_4, in_0_5, in_0_6, in_0_7, in_0_100, in_0_255, in_0_299, in_0_500, in_0_9999, in_0_99999, in_1_6, in_1_8, in_1_100, in_1_999, in_t_299, xb]) (by grind [xup_at, isSheet_eq, isTown_eq, isWeek_eq, isTrader_eq, in_0s, isBank_eq, in_0_1, in_0_2, in_0_4, in_0_5, in_0_6, in_0_7, in_0_100, in_0_255, in_0_299, in_0_500, in_0_9999, in_0_99999, in_1_6, in_1_8, in_1_100, in_1_999, in_t_299, xb]) (by decide)
theorem ob_X11_set_99_in (nb nn : Nat) (sh : Int32) (i : Int32) (v : Int32) (M : xM) (hp0 : ∀ j : Nat, 0 ≤ M 53 0 j ∧ M 53 0 j ≤ 60) (M_1 : xM) (eM_1 : M_1 = xup M 40 0 0 0) (r_2 : Int32) (er_2 : r_2 = xb (f_X11_isSheet sh M_1)) (c_3 : ¬ r_2 = 0) (M_4 : xM) (eM_4 : M_4 = xup M_1 40 0 1 0) (c_5 : 0 ≤ (M_4 52 0 sh.toNatClampNeg)) (r_6 : Int32) (er_6 : r_6 = xb (f_X11_in (i.toInt64) 0 (((M_4 53 0 sh.toNatClampNeg) - 1).toInt64) M_4)) (c_7 : ¬ r_6 = 0) (c_8 : ¬ (M_4 52 0 sh.toNatClampNeg) = 0) (c_9 : ¬ (M_4 52 0 sh.toNatClampNeg) = 1) : vp_in ((60 * sh) + i) 480 := by
  subst_vars
  exact xin (N := 480) (by grind [xup_at, isSheet_eq, isTown_eq, isWeek_eq, isTrader_eq, in_0s, isBank_eq, in_0_1, in_0_2, in_0_4, in_0_5, in_0_6, in_0_7, in_0_100, in_0_255, in_0_299, in_0_500, in_0_9999, in_0_99999, in_1_6, in_1_8, in_1_100, in_1_999, in_t_299, xb]) (by grind [xup_at, isSheet_eq, isTown_eq, isWeek_eq, isTrader_eq, in_0s, isBank_eq, in_0_1, in_0_2, in_0_4, in_0_5, in_0_6, in_0_7, in_0_100, in_0_255, in_0_299, in_0_500, in_0_9999, in_0_99999, in_1_6, in_1_8, in_1_100, in_1_999, in_t_299, xb]) (by decide)
theorem ob_X11_set_110_in (nb nn : Nat) (sh : Int32) (i : Int32) (v : Int32) (M : xM) (hp0 : ∀ j : Nat, 0 ≤ M 53 0 j ∧ M 53 0 j ≤ 60) (M_1 : xM) (eM_1 : M_1 = xup M 40 0 0 0) (r_2 : Int32) (er_2 : r_2 = xb (f_X11_isSheet sh M_1)) (c_3 : ¬ r_2 = 0) (M_4 : xM) (eM_4 : M_4 = xup M_1 40 0 1 0) (c_5 : 0 ≤ (M_4 52 0 sh.toNatClampNeg)) (r_6 : Int32) (er_6 : r_6 = xb (f_X11_in (i.toInt64) 0 (((M_4 53 0 sh.toNatClampNeg) - 1).toInt64) M_4)) (c_7 : ¬ r_6 = 0) (c_8 : ¬ (M_4 52 0 sh.toNatClampNeg) = 0) (c_9 : ¬ (M_4 52 0 sh.toNatClampNeg) = 1) (M_10 : xM) (eM_10 : M_10 = xup M_4 54 0 ((60 * sh) + i).toNatClampNeg v) : vp_in ((60 * sh) + i) 480 := by
  subst_vars
  exact xin (N := 480) (by grind [xup_at, isSheet_eq, isTown_eq, isWeek_eq, isTrader_eq, in_0s, isBank_eq, in_0_1, in_0_2, in_0_4, in_0_5, in_0_6, in_0_7, in_0_100, in_0_255, in_0_299, in_0_500, in_0_9999, in_0_99999, in_1_6, in_1_8, in_1_100, in_1_999, in_t_299, xb]) (by grind [xup_at, isSheet_eq, isTown_eq, isWeek_eq, isTrader_eq, in_0s, isBank_eq, in_0_1, in_0_2, in_0_4, in_0_5, in_0_6, in_0_7, in_0_100, in_0_255, in_0_299, in_0_500, in_0_9999, in_0_99999, in_1_6, in_1_8, in_1_100, in_1_999, in_t_299, xb]) (by decide)
theorem ob_X11_set_99_in_2 (nb nn : Nat) (sh : Int32) (i : Int32) (v : Int32) (M : xM) (hp0 : ∀ j : Nat, 0 ≤ M 53 0 j ∧ M 53 0 j ≤ 60) (M_1 : xM) (eM_1 : M_1 = xup M 40 0 0 0) (r_2 : Int32) (er_2 : r_2 = xb (f_X11_isSheet sh M_1)) (c_3 : ¬ r_2 = 0) (M_4 : xM) (eM_4 : M_4 = xup M_1 40 0 1 0) (c_5 : 0 ≤ (M_4 52 0 sh.toNatClampNeg)) (r_6 : Int32) (er_6 : r_6 = xb (f_X11_in (i.toInt64) 0 (((M_4 53 0 sh.toNatClampNeg) - 1).toInt64) M_4)) (c_7 : ¬ r_6 = 0) (c_8 : ¬ (M_4 52 0 sh.toNatClampNeg) = 0) (c_9 : (M_4 52 0 sh.toNatClampNeg) = 1) (v_11 : Int32) (ev_11 : v_11 = v.toInt16.toInt32) : vp_in ((60 * sh) + i) 480 := by
  subst_vars
  exact xin (N := 480) (by grind [xup_at, isSheet_eq, isTown_eq, isWeek_eq, isTrader_eq, in_0s, isBank_eq, in_0_1, in_0_2, in_0_4, in_0_5, in_0_6, in_0_7, in_0_100, in_0_255, in_0_299, in_0_500, in_0_9999, in_0_99999, in_1_6, in_1_8, in_1_100, in_1_999, in_t_299, xb]) (by grind [xup_at, isSheet_eq, isTown_eq, isWeek_eq, isTrader_eq, in_0s, isBank_eq, in_0_1, in_0_2, in_0_4, in_0_5, in_0_6, in_0_7, in_0_100, in_0_255, in_0_299, in_0_500, in_0_9999, in_0_99999, in_1_6, in_1_8, in_1_100, in_1_999, in_t_299, xb]) (by decide)
theorem ob_X11_set_110_in_2 (nb nn : Nat) (sh : Int32) (i : Int32) (v : Int32) (M : xM) (hp0 : ∀ j : Nat, 0 ≤ M 53 0 j ∧ M 53 0 j ≤ 60) (M_1 : xM) (eM_1 : M_1 = xup M 40 0 0 0) (r_2 : Int32) (er_2 : r_2 = xb (f_X11_isSheet sh M_1)) (c_3 : ¬ r_2 = 0) (M_4 : xM) (eM_4 : M_4 = xup M_1 40 0 1 0) (c_5 : 0 ≤ (M_4 52 0 sh.toNatClampNeg)) (r_6 : Int32) (er_6 : r_6 = xb (f_X11_in (i.toInt64) 0 (((M_4 53 0 sh.toNatClampNeg) - 1).toInt64) M_4)) (c_7 : ¬ r_6 = 0) (c_8 : ¬ (M_4 52 0 sh.toNatClampNeg) = 0) (c_9 : (M_4 52 0 sh.toNatClampNeg) = 1) (v_11 : Int32) (ev_11 : v_11 = v.toInt16.toInt32) (M_12 : xM) (eM_12 : M_12 = xup M_4 54 0 ((60 * sh) + i).toNatClampNeg v_11) : vp_in ((60 * sh) + i) 480 := by
  subst_vars
  exact xin (N := 480) (by grind [xup_at, isSheet_eq, isTown_eq, isWeek_eq, isTrader_eq, in_0s, isBank_eq, in_0_1, in_0_2, in_0_4, in_0_5, in_0_6, in_0_7, in_0_100, in_0_255, in_0_299, in_0_500, in_0_9999, in_0_99999, in_1_6, in_1_8, in_1_100, in_1_999, in_t_299, xb]) (by grind [xup_at, isSheet_eq, isTown_eq, isWeek_eq, isTrader_eq, in_0s, isBank_eq, in_0_1, in_0_2, in_0_4, in_0_5, in_0_6, in_0_7, in_0_100, in_0_255, in_0_299, in_0_500, in_0_9999, in_0_99999, in_1_6, in_1_8, in_1_100, in_1_999, in_t_299, xb]) (by decide)
theorem ob_X11_set_99_in_3 (nb nn : Nat) (sh : Int32) (i : Int32) (v : Int32) (M : xM) (hp0 : ∀ j : Nat, 0 ≤ M 53 0 j ∧ M 53 0 j ≤ 60) (M_1 : xM) (eM_1 : M_1 = xup M 40 0 0 0) (r_2 : Int32) (er_2 : r_2 = xb (f_X11_isSheet sh M_1)) (c_3 : ¬ r_2 = 0) (M_4 : xM) (eM_4 : M_4 = xup M_1 40 0 1 0) (c_5 : 0 ≤ (M_4 52 0 sh.toNatClampNeg)) (r_6 : Int32) (er_6 : r_6 = xb (f_X11_in (i.toInt64) 0 (((M_4 53 0 sh.toNatClampNeg) - 1).toInt64) M_4)) (c_7 : ¬ r_6 = 0) (c_8 : (M_4 52 0 sh.toNatClampNeg) = 0) (v_13 : Int32) (ev_13 : v_13 = v.toInt8.toInt32) : vp_in ((60 * sh) + i) 480 := by
  subst_vars
  exact xin (N := 480) (by grind [xup_at, isSheet_eq, isTown_eq, isWeek_eq, isTrader_eq, in_0s, isBank_eq, in_0_1, in_0_2, in_0_4, in_0_5, in_0_6, in_0_7, in_0_100, in_0_255, in_0_299, in_0_500, in_0_9999, in_0_99999, in_1_6, in_1_8, in_1_100, in_1_999, in_t_299, xb]) (by grind [xup_at, isSheet_eq, isTown_eq, isWeek_eq, isTrader_eq, in_0s, isBank_eq, in_0_1, in_0_2, in_0_4, in_0_5, in_0_6, in_0_7, in_0_100, in_0_255, in_0_299, in_0_500, in_0_9999, in_0_99999, in_1_6, in_1_8, in_1_100, in_1_999, in_t_299, xb]) (by decide)
theorem ob_X11_set_110_in_3 (nb nn : Nat) (sh : Int32) (i : Int32) (v : Int32) (M : xM) (hp0 : ∀ j : Nat, 0 ≤ M 53 0 j ∧ M 53 0 j ≤ 60) (M_1 : xM) (eM_1 : M_1 = xup M 40 0 0 0) (r_2 : Int32) (er_2 : r_2 = xb (f_X11_isSheet sh M_1)) (c_3 : ¬ r_2 = 0) (M_4 : xM) (eM_4 : M_4 = xup M_1 40 0 1 0) (c_5 : 0 ≤ (M_4 52 0 sh.toNatClampNeg)) (r_6 : Int32) (er_6 : r_6 = xb (f_X11_in (i.toInt64) 0 (((M_4 53 0 sh.toNatClampNeg) - 1).toInt64) M_4)) (c_7 : ¬ r_6 = 0) (c_8 : (M_4 52 0 sh.toNatClampNeg) = 0) (v_13 : Int32) (ev_13 : v_13 = v.toInt8.toInt32) (M_14 : xM) (eM_14 : M_14 = xup M_4 54 0 ((60 * sh) + i).toNatClampNeg v_13) : vp_in ((60 * sh) + i) 480 := by
  subst_vars
  exact xin (N := 480) (by grind [xup_at, isSheet_eq, isTown_eq, isWeek_eq, isTrader_eq, in_0s, isBank_eq, in_0_1, in_0_2, in_0_4, in_0_5, in_0_6, in_0_7, in_0_100, in_0_255, in_0_299, in_0_500, in_0_9999, in_0_99999, in_1_6, in_1_8, in_1_100, in_1_999, in_t_299, xb]) (by grind [xup_at, isSheet_eq, isTown_eq, isWeek_eq, isTrader_eq, in_0s, isBank_eq, in_0_1, in_0_2, in_0_4, in_0_5, in_0_6, in_0_7, in_0_100, in_0_255, in_0_299, in_0_500, in_0_9999, in_0_99999, in_1_6, in_1_8, in_1_100, in_1_999, in_t_299, xb]) (by decide)
theorem ob_X11_copy_204_x143 (nb nn : Nat) (a : Int32) (i : Int32) (b : Int32) (j : Int32) (z : Int32) (M : xM) (hp0 : ∀ j : Nat, 0 ≤ M 53 0 j ∧ M 53 0 j ≤ 60) (up : Int32) (n : Nat) (k : Int32) (N_ : xM) (hmu : xmu k z < n + 1) (hinv : 0 ≤ k ∧ 0 ≤ a ∧ a ≤ 7 ∧ 0 ≤ b ∧ b ≤ 7 ∧ 0 ≤ i ∧ 0 ≤ j ∧ i ≤ 60 ∧ j ≤ 60 ∧ z ≤ 60 ∧ i + z ≤ 60 ∧ j + z ≤ 60) (c_1 : z ≤ k) : 0 ≤ k ∧ 0 ≤ a ∧ a ≤ 7 ∧ 0 ≤ b ∧ b ≤ 7 ∧ 0 ≤ i ∧ 0 ≤ j ∧ i ≤ 60 ∧ j ≤ 60 ∧ z ≤ 60 ∧ i + z ≤ 60 ∧ j + z ≤ 60 := by
  subst_vars
  grind [xup_at, isSheet_eq, isTown_eq, isWeek_eq, isTrader_eq, in_0s, isBank_eq, in_0_1, in_0_2, in_0_4, in_0_5, in_0_6, in_0_7, in_0_100, in_0_255, in_0_299, in_0_500, in_0_9999, in_0_99999, in_1_6, in_1_8, in_1_100, in_1_999, in_t_299, xb, ladd_gt]
theorem ob_X11_copy_196_in (nb nn : Nat) (a : Int32) (i : Int32) (b : Int32) (j : Int32) (z : Int32) (M : xM) (hp0 : ∀ j : Nat, 0 ≤ M 53 0 j ∧ M 53 0 j ≤ 60) (up : Int32) (n : Nat) (k : Int32) (N_ : xM) (hmu : xmu k z < n + 1) (hinv : 0 ≤ k ∧ 0 ≤ a ∧ a ≤ 7 ∧ 0 ≤ b ∧ b ≤ 7 ∧ 0 ≤ i ∧ 0 ≤ j ∧ i ≤ 60 ∧ j ≤ 60 ∧ z ≤ 60 ∧ i + z ≤ 60 ∧ j + z ≤ 60) (c_1 : ¬ z ≤ k) (c_2 : up = 0) (x8_3 : Int32) (ex8_3 : x8_3 = ((z - 1) - k)) : vp_in (((60 * a) + i) + x8_3) 480 := by
  subst_vars
  exact xin (N := 480) (by grind [xup_at, isSheet_eq, isTown_eq, isWeek_eq, isTrader_eq, in_0s, isBank_eq, in_0_1, in_0_2, in_0_4, in_0_5, in_0_6, in_0_7, in_0_100, in_0_255, in_0_299, in_0_500, in_0_9999, in_0_99999, in_1_6, in_1_8, in_1_100, in_1_999, in_t_299, xb, ladd_gt]) (by grind [xup_at, isSheet_eq, isTown_eq, isWeek_eq, isTrader_eq, in_0s, isBank_eq, in_0_1, in_0_2, in_0_4, in_0_5, in_0_6, in_0_7, in_0_100, in_0_255, in_0_299, in_0_500, in_0_9999, in_0_99999, in_1_6, in_1_8, in_1_100, in_1_999, in_t_299, xb, ladd_gt]) (by decide)
theorem ob_X11_copy_197_in (nb nn : Nat) (a : Int32) (i : Int32) (b : Int32) (j : Int32) (z : Int32) (M : xM) (hp0 : ∀ j : Nat, 0 ≤ M 53 0 j ∧ M 53 0 j ≤ 60) (up : Int32) (n : Nat) (k : Int32) (N_ : xM) (hmu : xmu k z < n + 1) (hinv : 0 ≤ k ∧ 0 ≤ a ∧ a ≤ 7 ∧ 0 ≤ b ∧ b ≤ 7 ∧ 0 ≤ i ∧ 0 ≤ j ∧ i ≤ 60 ∧ j ≤ 60 ∧ z ≤ 60 ∧ i + z ≤ 60 ∧ j + z ≤ 60) (c_1 : ¬ z ≤ k) (c_2 : up = 0) (x8_3 : Int32) (ex8_3 : x8_3 = ((z - 1) - k)) (v_4 : Int32) (ev_4 : v_4 = (N_ 54 0 (((60 * a) + i) + x8_3).toNatClampNeg)) : vp_in (((60 * b) + j) + x8_3) 480 := by
  subst_vars
  exact xin (N := 480) (by grind [xup_at, isSheet_eq, isTown_eq, isWeek_eq, isTrader_eq, in_0s, isBank_eq, in_0_1, in_0_2, in_0_4, in_0_5, in_0_6, in_0_7, in_0_100, in_0_255, in_0_299, in_0_500, in_0_9999, in_0_99999, in_1_6, in_1_8, in_1_100, in_1_999, in_t_299, xb, ladd_gt]) (by grind [xup_at, isSheet_eq, isTown_eq, isWeek_eq, isTrader_eq, in_0s, isBank_eq, in_0_1, in_0_2, in_0_4, in_0_5, in_0_6, in_0_7, in_0_100, in_0_255, in_0_299, in_0_500, in_0_9999, in_0_99999, in_1_6, in_1_8, in_1_100, in_1_999, in_t_299, xb, ladd_gt]) (by decide)
theorem ob_X11_copy_143_mu_6 (nb nn : Nat) (a : Int32) (i : Int32) (b : Int32) (j : Int32) (z : Int32) (M : xM) (hp0 : ∀ j : Nat, 0 ≤ M 53 0 j ∧ M 53 0 j ≤ 60) (up : Int32) (n : Nat) (k : Int32) (N_ : xM) (hmu : xmu k z < n + 1) (hinv : 0 ≤ k ∧ 0 ≤ a ∧ a ≤ 7 ∧ 0 ≤ b ∧ b ≤ 7 ∧ 0 ≤ i ∧ 0 ≤ j ∧ i ≤ 60 ∧ j ≤ 60 ∧ z ≤ 60 ∧ i + z ≤ 60 ∧ j + z ≤ 60) (c_1 : ¬ z ≤ k) (c_2 : up = 0) (x8_3 : Int32) (ex8_3 : x8_3 = ((z - 1) - k)) (v_4 : Int32) (ev_4 : v_4 = (N_ 54 0 (((60 * a) + i) + x8_3).toNatClampNeg)) (M_5 : xM) (eM_5 : M_5 = xup N_ 54 0 (((60 * b) + j) + x8_3).toNatClampNeg v_4) (x7_6 : Int32) (ex7_6 : x7_6 = k + 1) : xmu x7_6 z < n := by
  subst_vars
  have h9 := xmu_up (a := k) (b := z) (by grind)
  (try simp [xup_at])
  omega
theorem ob_X11_copy_143_inv_6 (nb nn : Nat) (a : Int32) (i : Int32) (b : Int32) (j : Int32) (z : Int32) (M : xM) (hp0 : ∀ j : Nat, 0 ≤ M 53 0 j ∧ M 53 0 j ≤ 60) (up : Int32) (n : Nat) (k : Int32) (N_ : xM) (hmu : xmu k z < n + 1) (hinv : 0 ≤ k ∧ 0 ≤ a ∧ a ≤ 7 ∧ 0 ≤ b ∧ b ≤ 7 ∧ 0 ≤ i ∧ 0 ≤ j ∧ i ≤ 60 ∧ j ≤ 60 ∧ z ≤ 60 ∧ i + z ≤ 60 ∧ j + z ≤ 60) (c_1 : ¬ z ≤ k) (c_2 : up = 0) (x8_3 : Int32) (ex8_3 : x8_3 = ((z - 1) - k)) (v_4 : Int32) (ev_4 : v_4 = (N_ 54 0 (((60 * a) + i) + x8_3).toNatClampNeg)) (M_5 : xM) (eM_5 : M_5 = xup N_ 54 0 (((60 * b) + j) + x8_3).toNatClampNeg v_4) (x7_6 : Int32) (ex7_6 : x7_6 = k + 1) : 0 ≤ x7_6 ∧ 0 ≤ a ∧ a ≤ 7 ∧ 0 ≤ b ∧ b ≤ 7 ∧ 0 ≤ i ∧ 0 ≤ j ∧ i ≤ 60 ∧ j ≤ 60 ∧ z ≤ 60 ∧ i + z ≤ 60 ∧ j + z ≤ 60 := by
  subst_vars
  grind [xup_at, isSheet_eq, isTown_eq, isWeek_eq, isTrader_eq, in_0s, isBank_eq, in_0_1, in_0_2, in_0_4, in_0_5, in_0_6, in_0_7, in_0_100, in_0_255, in_0_299, in_0_500, in_0_9999, in_0_99999, in_1_6, in_1_8, in_1_100, in_1_999, in_t_299, xb, ladd_gt]
theorem ob_X11_copy_196_in_2 (nb nn : Nat) (a : Int32) (i : Int32) (b : Int32) (j : Int32) (z : Int32) (M : xM) (hp0 : ∀ j : Nat, 0 ≤ M 53 0 j ∧ M 53 0 j ≤ 60) (up : Int32) (n : Nat) (k : Int32) (N_ : xM) (hmu : xmu k z < n + 1) (hinv : 0 ≤ k ∧ 0 ≤ a ∧ a ≤ 7 ∧ 0 ≤ b ∧ b ≤ 7 ∧ 0 ≤ i ∧ 0 ≤ j ∧ i ≤ 60 ∧ j ≤ 60 ∧ z ≤ 60 ∧ i + z ≤ 60 ∧ j + z ≤ 60) (c_1 : ¬ z ≤ k) (c_2 : ¬ up = 0) : vp_in (((60 * a) + i) + k) 480 := by
  subst_vars
  exact xin (N := 480) (by grind [xup_at, isSheet_eq, isTown_eq, isWeek_eq, isTrader_eq, in_0s, isBank_eq, in_0_1, in_0_2, in_0_4, in_0_5, in_0_6, in_0_7, in_0_100, in_0_255, in_0_299, in_0_500, in_0_9999, in_0_99999, in_1_6, in_1_8, in_1_100, in_1_999, in_t_299, xb, ladd_gt]) (by grind [xup_at, isSheet_eq, isTown_eq, isWeek_eq, isTrader_eq, in_0s, isBank_eq, in_0_1, in_0_2, in_0_4, in_0_5, in_0_6, in_0_7, in_0_100, in_0_255, in_0_299, in_0_500, in_0_9999, in_0_99999, in_1_6, in_1_8, in_1_100, in_1_999, in_t_299, xb, ladd_gt]) (by decide)
theorem ob_X11_copy_197_in_2 (nb nn : Nat) (a : Int32) (i : Int32) (b : Int32) (j : Int32) (z : Int32) (M : xM) (hp0 : ∀ j : Nat, 0 ≤ M 53 0 j ∧ M 53 0 j ≤ 60) (up : Int32) (n : Nat) (k : Int32) (N_ : xM) (hmu : xmu k z < n + 1) (hinv : 0 ≤ k ∧ 0 ≤ a ∧ a ≤ 7 ∧ 0 ≤ b ∧ b ≤ 7 ∧ 0 ≤ i ∧ 0 ≤ j ∧ i ≤ 60 ∧ j ≤ 60 ∧ z ≤ 60 ∧ i + z ≤ 60 ∧ j + z ≤ 60) (c_1 : ¬ z ≤ k) (c_2 : ¬ up = 0) (v_7 : Int32) (ev_7 : v_7 = (N_ 54 0 (((60 * a) + i) + k).toNatClampNeg)) : vp_in (((60 * b) + j) + k) 480 := by
  subst_vars
  exact xin (N := 480) (by grind [xup_at, isSheet_eq, isTown_eq, isWeek_eq, isTrader_eq, in_0s, isBank_eq, in_0_1, in_0_2, in_0_4, in_0_5, in_0_6, in_0_7, in_0_100, in_0_255, in_0_299, in_0_500, in_0_9999, in_0_99999, in_1_6, in_1_8, in_1_100, in_1_999, in_t_299, xb, ladd_gt]) (by grind [xup_at, isSheet_eq, isTown_eq, isWeek_eq, isTrader_eq, in_0s, isBank_eq, in_0_1, in_0_2, in_0_4, in_0_5, in_0_6, in_0_7, in_0_100, in_0_255, in_0_299, in_0_500, in_0_9999, in_0_99999, in_1_6, in_1_8, in_1_100, in_1_999, in_t_299, xb, ladd_gt]) (by decide)
theorem ob_X11_copy_143_mu_9 (nb nn : Nat) (a : Int32) (i : Int32) (b : Int32) (j : Int32) (z : Int32) (M : xM) (hp0 : ∀ j : Nat, 0 ≤ M 53 0 j ∧ M 53 0 j ≤ 60) (up : Int32) (n : Nat) (k : Int32) (N_ : xM) (hmu : xmu k z < n + 1) (hinv : 0 ≤ k ∧ 0 ≤ a ∧ a ≤ 7 ∧ 0 ≤ b ∧ b ≤ 7 ∧ 0 ≤ i ∧ 0 ≤ j ∧ i ≤ 60 ∧ j ≤ 60 ∧ z ≤ 60 ∧ i + z ≤ 60 ∧ j + z ≤ 60) (c_1 : ¬ z ≤ k) (c_2 : ¬ up = 0) (v_7 : Int32) (ev_7 : v_7 = (N_ 54 0 (((60 * a) + i) + k).toNatClampNeg)) (M_8 : xM) (eM_8 : M_8 = xup N_ 54 0 (((60 * b) + j) + k).toNatClampNeg v_7) (x7_9 : Int32) (ex7_9 : x7_9 = k + 1) : xmu x7_9 z < n := by
  subst_vars
  have h9 := xmu_up (a := k) (b := z) (by grind)
  (try simp [xup_at])
  omega
theorem ob_X11_copy_143_inv_9 (nb nn : Nat) (a : Int32) (i : Int32) (b : Int32) (j : Int32) (z : Int32) (M : xM) (hp0 : ∀ j : Nat, 0 ≤ M 53 0 j ∧ M 53 0 j ≤ 60) (up : Int32) (n : Nat) (k : Int32) (N_ : xM) (hmu : xmu k z < n + 1) (hinv : 0 ≤ k ∧ 0 ≤ a ∧ a ≤ 7 ∧ 0 ≤ b ∧ b ≤ 7 ∧ 0 ≤ i ∧ 0 ≤ j ∧ i ≤ 60 ∧ j ≤ 60 ∧ z ≤ 60 ∧ i + z ≤ 60 ∧ j + z ≤ 60) (c_1 : ¬ z ≤ k) (c_2 : ¬ up = 0) (v_7 : Int32) (ev_7 : v_7 = (N_ 54 0 (((60 * a) + i) + k).toNatClampNeg)) (M_8 : xM) (eM_8 : M_8 = xup N_ 54 0 (((60 * b) + j) + k).toNatClampNeg v_7) (x7_9 : Int32) (ex7_9 : x7_9 = k + 1) : 0 ≤ x7_9 ∧ 0 ≤ a ∧ a ≤ 7 ∧ 0 ≤ b ∧ b ≤ 7 ∧ 0 ≤ i ∧ 0 ≤ j ∧ i ≤ 60 ∧ j ≤ 60 ∧ z ≤ 60 ∧ i + z ≤ 60 ∧ j + z ≤ 60 := by
  subst_vars
  grind [xup_at, isSheet_eq, isTown_eq, isWeek_eq, isTrader_eq, in_0s, isBank_eq, in_0_1, in_0_2, in_0_4, in_0_5, in_0_6, in_0_7, in_0_100, in_0_255, in_0_299, in_0_500, in_0_9999, in_0_99999, in_1_6, in_1_8, in_1_100, in_1_999, in_t_299, xb, ladd_gt]
theorem ob_X11_copy_32_in (nb nn : Nat) (a : Int32) (i : Int32) (b : Int32) (j : Int32) (z : Int32) (M : xM) (hp0 : ∀ j : Nat, 0 ≤ M 53 0 j ∧ M 53 0 j ≤ 60) (M_10 : xM) (eM_10 : M_10 = xup M 40 0 0 0) (r_11 : Int32) (er_11 : r_11 = xb (f_X11_isSheet a M_10)) (c_12 : ¬ r_11 = 0) (r_13 : Int32) (er_13 : r_13 = xb (f_X11_isSheet b M_10)) (c_14 : ¬ r_13 = 0) (M_15 : xM) (eM_15 : M_15 = xup M_10 40 0 1 0) : vp_in a 8 := by
  subst_vars
  exact xin (N := 8) (by grind [xup_at, isSheet_eq, isTown_eq, isWeek_eq, isTrader_eq, in_0s, isBank_eq, in_0_1, in_0_2, in_0_4, in_0_5, in_0_6, in_0_7, in_0_100, in_0_255, in_0_299, in_0_500, in_0_9999, in_0_99999, in_1_6, in_1_8, in_1_100, in_1_999, in_t_299, xb, ladd_gt]) (by grind [xup_at, isSheet_eq, isTown_eq, isWeek_eq, isTrader_eq, in_0s, isBank_eq, in_0_1, in_0_2, in_0_4, in_0_5, in_0_6, in_0_7, in_0_100, in_0_255, in_0_299, in_0_500, in_0_9999, in_0_99999, in_1_6, in_1_8, in_1_100, in_1_999, in_t_299, xb, ladd_gt]) (by decide)
theorem ob_X11_copy_41_in (nb nn : Nat) (a : Int32) (i : Int32) (b : Int32) (j : Int32) (z : Int32) (M : xM) (hp0 : ∀ j : Nat, 0 ≤ M 53 0 j ∧ M 53 0 j ≤ 60) (M_10 : xM) (eM_10 : M_10 = xup M 40 0 0 0) (r_11 : Int32) (er_11 : r_11 = xb (f_X11_isSheet a M_10)) (c_12 : ¬ r_11 = 0) (r_13 : Int32) (er_13 : r_13 = xb (f_X11_isSheet b M_10)) (c_14 : ¬ r_13 = 0) (M_15 : xM) (eM_15 : M_15 = xup M_10 40 0 1 0) (c_16 : ¬ (M_15 52 0 a.toNatClampNeg) < 0) : vp_in b 8 := by
  subst_vars
  exact xin (N := 8) (by grind [xup_at, isSheet_eq, isTown_eq, isWeek_eq, isTrader_eq, in_0s, isBank_eq, in_0_1, in_0_2, in_0_4, in_0_5, in_0_6, in_0_7, in_0_100, in_0_255, in_0_299, in_0_500, in_0_9999, in_0_99999, in_1_6, in_1_8, in_1_100, in_1_999, in_t_299, xb, ladd_gt]) (by grind [xup_at, isSheet_eq, isTown_eq, isWeek_eq, isTrader_eq, in_0s, isBank_eq, in_0_1, in_0_2, in_0_4, in_0_5, in_0_6, in_0_7, in_0_100, in_0_255, in_0_299, in_0_500, in_0_9999, in_0_99999, in_1_6, in_1_8, in_1_100, in_1_999, in_t_299, xb, ladd_gt]) (by decide)
theorem ob_X11_copy_56_in (nb nn : Nat) (a : Int32) (i : Int32) (b : Int32) (j : Int32) (z : Int32) (M : xM) (hp0 : ∀ j : Nat, 0 ≤ M 53 0 j ∧ M 53 0 j ≤ 60) (M_10 : xM) (eM_10 : M_10 = xup M 40 0 0 0) (r_11 : Int32) (er_11 : r_11 = xb (f_X11_isSheet a M_10)) (c_12 : ¬ r_11 = 0) (r_13 : Int32) (er_13 : r_13 = xb (f_X11_isSheet b M_10)) (c_14 : ¬ r_13 = 0) (M_15 : xM) (eM_15 : M_15 = xup M_10 40 0 1 0) (c_16 : ¬ (M_15 52 0 a.toNatClampNeg) < 0) (c_19 : 0 ≤ (M_15 52 0 b.toNatClampNeg)) : vp_in a 8 := by
  subst_vars
  exact xin (N := 8) (by grind [xup_at, isSheet_eq, isTown_eq, isWeek_eq, isTrader_eq, in_0s, isBank_eq, in_0_1, in_0_2, in_0_4, in_0_5, in_0_6, in_0_7, in_0_100, in_0_255, in_0_299, in_0_500, in_0_9999, in_0_99999, in_1_6, in_1_8, in_1_100, in_1_999, in_t_299, xb, ladd_gt]) (by grind [xup_at, isSheet_eq, isTown_eq, isWeek_eq, isTrader_eq, in_0s, isBank_eq, in_0_1, in_0_2, in_0_4, in_0_5, in_0_6, in_0_7, in_0_100, in_0_255, in_0_299, in_0_500, in_0_9999, in_0_99999, in_1_6, in_1_8, in_1_100, in_1_999, in_t_299, xb, ladd_gt]) (by decide)
theorem ob_X11_copy_62_in (nb nn : Nat) (a : Int32) (i : Int32) (b : Int32) (j : Int32) (z : Int32) (M : xM) (hp0 : ∀ j : Nat, 0 ≤ M 53 0 j ∧ M 53 0 j ≤ 60) (M_10 : xM) (eM_10 : M_10 = xup M 40 0 0 0) (r_11 : Int32) (er_11 : r_11 = xb (f_X11_isSheet a M_10)) (c_12 : ¬ r_11 = 0) (r_13 : Int32) (er_13 : r_13 = xb (f_X11_isSheet b M_10)) (c_14 : ¬ r_13 = 0) (M_15 : xM) (eM_15 : M_15 = xup M_10 40 0 1 0) (c_16 : ¬ (M_15 52 0 a.toNatClampNeg) < 0) (c_19 : 0 ≤ (M_15 52 0 b.toNatClampNeg)) : vp_in b 8 := by
  subst_vars
  exact xin (N := 8) (by grind [xup_at, isSheet_eq, isTown_eq, isWeek_eq, isTrader_eq, in_0s, isBank_eq, in_0_1, in_0_2, in_0_4, in_0_5, in_0_6, in_0_7, in_0_100, in_0_255, in_0_299, in_0_500, in_0_9999, in_0_99999, in_1_6, in_1_8, in_1_100, in_1_999, in_t_299, xb, ladd_gt]) (by grind [xup_at, isSheet_eq, isTown_eq, isWeek_eq, isTrader_eq, in_0s, isBank_eq, in_0_1, in_0_2, in_0_4, in_0_5, in_0_6, in_0_7, in_0_100, in_0_255, in_0_299, in_0_500, in_0_9999, in_0_99999, in_1_6, in_1_8, in_1_100, in_1_999, in_t_299, xb, ladd_gt]) (by decide)
theorem ob_X11_copy_97_in (nb nn : Nat) (a : Int32) (i : Int32) (b : Int32) (j : Int32) (z : Int32) (M : xM) (hp0 : ∀ j : Nat, 0 ≤ M 53 0 j ∧ M 53 0 j ≤ 60) (M_10 : xM) (eM_10 : M_10 = xup M 40 0 0 0) (r_11 : Int32) (er_11 : r_11 = xb (f_X11_isSheet a M_10)) (c_12 : ¬ r_11 = 0) (r_13 : Int32) (er_13 : r_13 = xb (f_X11_isSheet b M_10)) (c_14 : ¬ r_13 = 0) (M_15 : xM) (eM_15 : M_15 = xup M_10 40 0 1 0) (c_16 : ¬ (M_15 52 0 a.toNatClampNeg) < 0) (c_19 : 0 ≤ (M_15 52 0 b.toNatClampNeg)) (c_20 : (M_15 52 0 a.toNatClampNeg) = (M_15 52 0 b.toNatClampNeg)) (c_21 : ¬ i < 0) (c_24 : ¬ j < 0) (c_27 : ¬ z < 0) : vp_in a 8 := by
  subst_vars
  exact xin (N := 8) (by grind [xup_at, isSheet_eq, isTown_eq, isWeek_eq, isTrader_eq, in_0s, isBank_eq, in_0_1, in_0_2, in_0_4, in_0_5, in_0_6, in_0_7, in_0_100, in_0_255, in_0_299, in_0_500, in_0_9999, in_0_99999, in_1_6, in_1_8, in_1_100, in_1_999, in_t_299, xb, ladd_gt]) (by grind [xup_at, isSheet_eq, isTown_eq, isWeek_eq, isTrader_eq, in_0s, isBank_eq, in_0_1, in_0_2, in_0_4, in_0_5, in_0_6, in_0_7, in_0_100, in_0_255, in_0_299, in_0_500, in_0_9999, in_0_99999, in_1_6, in_1_8, in_1_100, in_1_999, in_t_299, xb, ladd_gt]) (by decide)
theorem ob_X11_copy_115_in (nb nn : Nat) (a : Int32) (i : Int32) (b : Int32) (j : Int32) (z : Int32) (M : xM) (hp0 : ∀ j : Nat, 0 ≤ M 53 0 j ∧ M 53 0 j ≤ 60) (M_10 : xM) (eM_10 : M_10 = xup M 40 0 0 0) (r_11 : Int32) (er_11 : r_11 = xb (f_X11_isSheet a M_10)) (c_12 : ¬ r_11 = 0) (r_13 : Int32) (er_13 : r_13 = xb (f_X11_isSheet b M_10)) (c_14 : ¬ r_13 = 0) (M_15 : xM) (eM_15 : M_15 = xup M_10 40 0 1 0) (c_16 : ¬ (M_15 52 0 a.toNatClampNeg) < 0) (c_19 : 0 ≤ (M_15 52 0 b.toNatClampNeg)) (c_20 : (M_15 52 0 a.toNatClampNeg) = (M_15 52 0 b.toNatClampNeg)) (c_21 : ¬ i < 0) (c_24 : ¬ j < 0) (c_27 : ¬ z < 0) (c_30 : ¬ 0 < (lg_cmp (i.toInt64 + z.toInt64) ((M_15 53 0 a.toNatClampNeg).toInt64))) : vp_in b 8 := by
  subst_vars
  exact xin (N := 8) (by grind [xup_at, isSheet_eq, isTown_eq, isWeek_eq, isTrader_eq, in_0s, isBank_eq, in_0_1, in_0_2, in_0_4, in_0_5, in_0_6, in_0_7, in_0_100, in_0_255, in_0_299, in_0_500, in_0_9999, in_0_99999, in_1_6, in_1_8, in_1_100, in_1_999, in_t_299, xb, ladd_gt]) (by grind [xup_at, isSheet_eq, isTown_eq, isWeek_eq, isTrader_eq, in_0s, isBank_eq, in_0_1, in_0_2, in_0_4, in_0_5, in_0_6, in_0_7, in_0_100, in_0_255, in_0_299, in_0_500, in_0_9999, in_0_99999, in_1_6, in_1_8, in_1_100, in_1_999, in_t_299, xb, ladd_gt]) (by decide)
theorem ob_X11_copy_143_ini_34 (nb nn : Nat) (a : Int32) (i : Int32) (b : Int32) (j : Int32) (z : Int32) (M : xM) (hp0 : ∀ j : Nat, 0 ≤ M 53 0 j ∧ M 53 0 j ≤ 60) (M_10 : xM) (eM_10 : M_10 = xup M 40 0 0 0) (r_11 : Int32) (er_11 : r_11 = xb (f_X11_isSheet a M_10)) (c_12 : ¬ r_11 = 0) (r_13 : Int32) (er_13 : r_13 = xb (f_X11_isSheet b M_10)) (c_14 : ¬ r_13 = 0) (M_15 : xM) (eM_15 : M_15 = xup M_10 40 0 1 0) (c_16 : ¬ (M_15 52 0 a.toNatClampNeg) < 0) (c_19 : 0 ≤ (M_15 52 0 b.toNatClampNeg)) (c_20 : (M_15 52 0 a.toNatClampNeg) = (M_15 52 0 b.toNatClampNeg)) (c_21 : ¬ i < 0) (c_24 : ¬ j < 0) (c_27 : ¬ z < 0) (c_30 : ¬ 0 < (lg_cmp (i.toInt64 + z.toInt64) ((M_15 53 0 a.toNatClampNeg).toInt64))) (c_33 : (lg_cmp (j.toInt64 + z.toInt64) ((M_15 53 0 b.toNatClampNeg).toInt64)) ≤ 0) (c_34 : i < j) : 0 ≤ (0 : Int32) ∧ 0 ≤ a ∧ a ≤ 7 ∧ 0 ≤ b ∧ b ≤ 7 ∧ 0 ≤ i ∧ 0 ≤ j ∧ i ≤ 60 ∧ j ≤ 60 ∧ z ≤ 60 ∧ i + z ≤ 60 ∧ j + z ≤ 60 := by
  have h1 := hp0 a.toNatClampNeg
  have h2 := hp0 b.toNatClampNeg
  subst_vars
  have h3 := @ladd_gt i z (M 53 0 a.toNatClampNeg) (by grind) (by grind) h1.1 h1.2
  have h4 := @ladd_gt j z (M 53 0 b.toNatClampNeg) (by grind) (by grind) h2.1 h2.2
  grind [xup_at, isSheet_eq, isTown_eq, isWeek_eq, isTrader_eq, in_0s, isBank_eq, in_0_1, in_0_2, in_0_4, in_0_5, in_0_6, in_0_7, in_0_100, in_0_255, in_0_299, in_0_500, in_0_9999, in_0_99999, in_1_6, in_1_8, in_1_100, in_1_999, in_t_299, xb]
theorem ob_X11_copy_143_ini_36 (nb nn : Nat) (a : Int32) (i : Int32) (b : Int32) (j : Int32) (z : Int32) (M : xM) (hp0 : ∀ j : Nat, 0 ≤ M 53 0 j ∧ M 53 0 j ≤ 60) (M_10 : xM) (eM_10 : M_10 = xup M 40 0 0 0) (r_11 : Int32) (er_11 : r_11 = xb (f_X11_isSheet a M_10)) (c_12 : ¬ r_11 = 0) (r_13 : Int32) (er_13 : r_13 = xb (f_X11_isSheet b M_10)) (c_14 : ¬ r_13 = 0) (M_15 : xM) (eM_15 : M_15 = xup M_10 40 0 1 0) (c_16 : ¬ (M_15 52 0 a.toNatClampNeg) < 0) (c_19 : 0 ≤ (M_15 52 0 b.toNatClampNeg)) (c_20 : (M_15 52 0 a.toNatClampNeg) = (M_15 52 0 b.toNatClampNeg)) (c_21 : ¬ i < 0) (c_24 : ¬ j < 0) (c_27 : ¬ z < 0) (c_30 : ¬ 0 < (lg_cmp (i.toInt64 + z.toInt64) ((M_15 53 0 a.toNatClampNeg).toInt64))) (c_33 : (lg_cmp (j.toInt64 + z.toInt64) ((M_15 53 0 b.toNatClampNeg).toInt64)) ≤ 0) (c_34 : ¬ i < j) : 0 ≤ (0 : Int32) ∧ 0 ≤ a ∧ a ≤ 7 ∧ 0 ≤ b ∧ b ≤ 7 ∧ 0 ≤ i ∧ 0 ≤ j ∧ i ≤ 60 ∧ j ≤ 60 ∧ z ≤ 60 ∧ i + z ≤ 60 ∧ j + z ≤ 60 := by
  have h1 := hp0 a.toNatClampNeg
  have h2 := hp0 b.toNatClampNeg
  subst_vars
  have h3 := @ladd_gt i z (M 53 0 a.toNatClampNeg) (by grind) (by grind) h1.1 h1.2
  have h4 := @ladd_gt j z (M 53 0 b.toNatClampNeg) (by grind) (by grind) h2.1 h2.2
  grind [xup_at, isSheet_eq, isTown_eq, isWeek_eq, isTrader_eq, in_0s, isBank_eq, in_0_1, in_0_2, in_0_4, in_0_5, in_0_6, in_0_7, in_0_100, in_0_255, in_0_299, in_0_500, in_0_9999, in_0_99999, in_1_6, in_1_8, in_1_100, in_1_999, in_t_299, xb]
theorem ob_X11_drop_25_in (nb nn : Nat) (sh : Int32) (M : xM) (M_1 : xM) (eM_1 : M_1 = xup M 40 0 0 0) (r_2 : Int32) (er_2 : r_2 = xb (f_X11_isSheet sh M_1)) (c_3 : ¬ r_2 = 0) (M_4 : xM) (eM_4 : M_4 = xup M_1 40 0 1 0) : vp_in sh 8 := by
  subst_vars
  exact xin (N := 8) (by grind [xup_at, isSheet_eq, isTown_eq, isWeek_eq, isTrader_eq, in_0s, isBank_eq, in_0_1, in_0_2, in_0_4, in_0_5, in_0_6, in_0_7, in_0_100, in_0_255, in_0_299, in_0_500, in_0_9999, in_0_99999, in_1_6, in_1_8, in_1_100, in_1_999, in_t_299, xb]) (by grind [xup_at, isSheet_eq, isTown_eq, isWeek_eq, isTrader_eq, in_0s, isBank_eq, in_0_1, in_0_2, in_0_4, in_0_5, in_0_6, in_0_7, in_0_100, in_0_255, in_0_299, in_0_500, in_0_9999, in_0_99999, in_1_6, in_1_8, in_1_100, in_1_999, in_t_299, xb]) (by decide)
theorem ob_X11_drop_41_in (nb nn : Nat) (sh : Int32) (M : xM) (M_1 : xM) (eM_1 : M_1 = xup M 40 0 0 0) (r_2 : Int32) (er_2 : r_2 = xb (f_X11_isSheet sh M_1)) (c_3 : ¬ r_2 = 0) (M_4 : xM) (eM_4 : M_4 = xup M_1 40 0 1 0) (c_5 : 0 ≤ (M_4 52 0 sh.toNatClampNeg)) : vp_in sh 8 := by
  subst_vars
  exact xin (N := 8) (by grind [xup_at, isSheet_eq, isTown_eq, isWeek_eq, isTrader_eq, in_0s, isBank_eq, in_0_1, in_0_2, in_0_4, in_0_5, in_0_6, in_0_7, in_0_100, in_0_255, in_0_299, in_0_500, in_0_9999, in_0_99999, in_1_6, in_1_8, in_1_100, in_1_999, in_t_299, xb]) (by grind [xup_at, isSheet_eq, isTown_eq, isWeek_eq, isTrader_eq, in_0s, isBank_eq, in_0_1, in_0_2, in_0_4, in_0_5, in_0_6, in_0_7, in_0_100, in_0_255, in_0_299, in_0_500, in_0_9999, in_0_99999, in_1_6, in_1_8, in_1_100, in_1_999, in_t_299, xb]) (by decide)
theorem ob_X11_drop_47_in (nb nn : Nat) (sh : Int32) (M : xM) (M_1 : xM) (eM_1 : M_1 = xup M 40 0 0 0) (r_2 : Int32) (er_2 : r_2 = xb (f_X11_isSheet sh M_1)) (c_3 : ¬ r_2 = 0) (M_4 : xM) (eM_4 : M_4 = xup M_1 40 0 1 0) (c_5 : 0 ≤ (M_4 52 0 sh.toNatClampNeg)) (M_6 : xM) (eM_6 : M_6 = xup M_4 52 0 sh.toNatClampNeg (-1)) : vp_in sh 8 := by
  subst_vars
  exact xin (N := 8) (by grind [xup_at, isSheet_eq, isTown_eq, isWeek_eq, isTrader_eq, in_0s, isBank_eq, in_0_1, in_0_2, in_0_4, in_0_5, in_0_6, in_0_7, in_0_100, in_0_255, in_0_299, in_0_500, in_0_9999, in_0_99999, in_1_6, in_1_8, in_1_100, in_1_999, in_t_299, xb]) (by grind [xup_at, isSheet_eq, isTown_eq, isWeek_eq, isTrader_eq, in_0s, isBank_eq, in_0_1, in_0_2, in_0_4, in_0_5, in_0_6, in_0_7, in_0_100, in_0_255, in_0_299, in_0_500, in_0_9999, in_0_99999, in_1_6, in_1_8, in_1_100, in_1_999, in_t_299, xb]) (by decide)
theorem ob_X11_lookItems_5_in (nb nn : Nat) (sh : Int32) (i : Int32) (z : Int32) (M : xM) (hp0 : 0 ≤ sh) (hp1 : sh ≤ 7) : vp_in sh 8 := by
  subst_vars
  exact xin (N := 8) (by grind [xup_at, isSheet_eq, isTown_eq, isWeek_eq, isTrader_eq, in_0s, isBank_eq, in_0_1, in_0_2, in_0_4, in_0_5, in_0_6, in_0_7, in_0_100, in_0_255, in_0_299, in_0_500, in_0_9999, in_0_99999, in_1_6, in_1_8, in_1_100, in_1_999, in_t_299, xb]) (by grind [xup_at, isSheet_eq, isTown_eq, isWeek_eq, isTrader_eq, in_0s, isBank_eq, in_0_1, in_0_2, in_0_4, in_0_5, in_0_6, in_0_7, in_0_100, in_0_255, in_0_299, in_0_500, in_0_9999, in_0_99999, in_1_6, in_1_8, in_1_100, in_1_999, in_t_299, xb]) (by decide)
theorem ob_X11_lookItems_29_in (nb nn : Nat) (sh : Int32) (i : Int32) (z : Int32) (M : xM) (hp0 : 0 ≤ sh) (hp1 : sh ≤ 7) (c_1 : 0 ≤ (M 52 0 sh.toNatClampNeg)) (c_2 : ¬ i < 0) : vp_in sh 8 := by
  subst_vars
  exact xin (N := 8) (by grind [xup_at, isSheet_eq, isTown_eq, isWeek_eq, isTrader_eq, in_0s, isBank_eq, in_0_1, in_0_2, in_0_4, in_0_5, in_0_6, in_0_7, in_0_100, in_0_255, in_0_299, in_0_500, in_0_9999, in_0_99999, in_1_6, in_1_8, in_1_100, in_1_999, in_t_299, xb]) (by grind [xup_at, isSheet_eq, isTown_eq, isWeek_eq, isTrader_eq, in_0s, isBank_eq, in_0_1, in_0_2, in_0_4, in_0_5, in_0_6, in_0_7, in_0_100, in_0_255, in_0_299, in_0_500, in_0_9999, in_0_99999, in_1_6, in_1_8, in_1_100, in_1_999, in_t_299, xb]) (by decide)
theorem ob_X11_road_49_in (nb nn : Nat) (a : Int32) (b : Int32) (v : Int32) (M : xM) (M_1 : xM) (eM_1 : M_1 = xup M 40 0 0 0) (r_2 : Int32) (er_2 : r_2 = xb (f_X11_isTown a M_1)) (c_3 : ¬ r_2 = 0) (r_4 : Int32) (er_4 : r_4 = xb (f_X11_isTown b M_1)) (c_5 : ¬ r_4 = 0) (c_6 : ¬ a = b) (r_7 : Int32) (er_7 : r_7 = xb (f_X11_in (v.toInt64) 0 500 M_1)) (c_8 : ¬ r_7 = 0) : vp_in ((6 * a) + b) 36 := by
  subst_vars
  exact xin (N := 36) (by grind [xup_at, isSheet_eq, isTown_eq, isWeek_eq, isTrader_eq, in_0s, isBank_eq, in_0_1, in_0_2, in_0_4, in_0_5, in_0_6, in_0_7, in_0_100, in_0_255, in_0_299, in_0_500, in_0_9999, in_0_99999, in_1_6, in_1_8, in_1_100, in_1_999, in_t_299, xb]) (by grind [xup_at, isSheet_eq, isTown_eq, isWeek_eq, isTrader_eq, in_0s, isBank_eq, in_0_1, in_0_2, in_0_4, in_0_5, in_0_6, in_0_7, in_0_100, in_0_255, in_0_299, in_0_500, in_0_9999, in_0_99999, in_1_6, in_1_8, in_1_100, in_1_999, in_t_299, xb]) (by decide)
theorem ob_X11_road_63_in (nb nn : Nat) (a : Int32) (b : Int32) (v : Int32) (M : xM) (M_1 : xM) (eM_1 : M_1 = xup M 40 0 0 0) (r_2 : Int32) (er_2 : r_2 = xb (f_X11_isTown a M_1)) (c_3 : ¬ r_2 = 0) (r_4 : Int32) (er_4 : r_4 = xb (f_X11_isTown b M_1)) (c_5 : ¬ r_4 = 0) (c_6 : ¬ a = b) (r_7 : Int32) (er_7 : r_7 = xb (f_X11_in (v.toInt64) 0 500 M_1)) (c_8 : ¬ r_7 = 0) (x4_9 : Int32) (ex4_9 : x4_9 = (M_1 55 0 ((6 * a) + b).toNatClampNeg)) : vp_in ((6 * a) + b) 36 := by
  subst_vars
  exact xin (N := 36) (by grind [xup_at, isSheet_eq, isTown_eq, isWeek_eq, isTrader_eq, in_0s, isBank_eq, in_0_1, in_0_2, in_0_4, in_0_5, in_0_6, in_0_7, in_0_100, in_0_255, in_0_299, in_0_500, in_0_9999, in_0_99999, in_1_6, in_1_8, in_1_100, in_1_999, in_t_299, xb]) (by grind [xup_at, isSheet_eq, isTown_eq, isWeek_eq, isTrader_eq, in_0s, isBank_eq, in_0_1, in_0_2, in_0_4, in_0_5, in_0_6, in_0_7, in_0_100, in_0_255, in_0_299, in_0_500, in_0_9999, in_0_99999, in_1_6, in_1_8, in_1_100, in_1_999, in_t_299, xb]) (by decide)
theorem ob_X11_road_75_in (nb nn : Nat) (a : Int32) (b : Int32) (v : Int32) (M : xM) (M_1 : xM) (eM_1 : M_1 = xup M 40 0 0 0) (r_2 : Int32) (er_2 : r_2 = xb (f_X11_isTown a M_1)) (c_3 : ¬ r_2 = 0) (r_4 : Int32) (er_4 : r_4 = xb (f_X11_isTown b M_1)) (c_5 : ¬ r_4 = 0) (c_6 : ¬ a = b) (r_7 : Int32) (er_7 : r_7 = xb (f_X11_in (v.toInt64) 0 500 M_1)) (c_8 : ¬ r_7 = 0) (x4_9 : Int32) (ex4_9 : x4_9 = (M_1 55 0 ((6 * a) + b).toNatClampNeg)) (M_10 : xM) (eM_10 : M_10 = xup M_1 55 0 ((6 * a) + b).toNatClampNeg v) : vp_in ((6 * b) + a) 36 := by
  subst_vars
  exact xin (N := 36) (by grind [xup_at, isSheet_eq, isTown_eq, isWeek_eq, isTrader_eq, in_0s, isBank_eq, in_0_1, in_0_2, in_0_4, in_0_5, in_0_6, in_0_7, in_0_100, in_0_255, in_0_299, in_0_500, in_0_9999, in_0_99999, in_1_6, in_1_8, in_1_100, in_1_999, in_t_299, xb]) (by grind [xup_at, isSheet_eq, isTown_eq, isWeek_eq, isTrader_eq, in_0s, isBank_eq, in_0_1, in_0_2, in_0_4, in_0_5, in_0_6, in_0_7, in_0_100, in_0_255, in_0_299, in_0_500, in_0_9999, in_0_99999, in_1_6, in_1_8, in_1_100, in_1_999, in_t_299, xb]) (by decide)
theorem ob_X11_farFrom_150_x42 (nb nn : Nat) (a : Int32) (b : Int32) (M : xM) (hp0 : 0 ≤ b) (hp1 : b ≤ 5) (k : Int32) (n : Nat) (t : Int32) (N_ : xM) (hmu : xmu t 36 < n + 1) (hinv : 0 ≤ t) (c_1 : 36 ≤ t) : 0 ≤ t := by
  subst_vars
  grind [xup_at, isSheet_eq, isTown_eq, isWeek_eq, isTrader_eq, in_0s, isBank_eq, in_0_1, in_0_2, in_0_4, in_0_5, in_0_6, in_0_7, in_0_100, in_0_255, in_0_299, in_0_500, in_0_9999, in_0_99999, in_1_6, in_1_8, in_1_100, in_1_999, in_t_299, xb]
theorem ob_X11_farFrom_69_in (nb nn : Nat) (a : Int32) (b : Int32) (M : xM) (hp0 : 0 ≤ b) (hp1 : b ≤ 5) (k : Int32) (n : Nat) (t : Int32) (N_ : xM) (hmu : xmu t 36 < n + 1) (hinv : 0 ≤ t) (c_1 : ¬ 36 ≤ t) (x5_2 : Int32) (ex5_2 : x5_2 = (t / 6)) (x6_3 : Int32) (ex6_3 : x6_3 = (t - t / 6 * 6)) : vp_in t 36 := by
  subst_vars
  first
  | exact xin (N := 36) (by grind) (by grind) (by decide)
  | (have h9 := div6 (t := t) (by grind) (by grind); exact xin (N := 36) (by grind) (by grind) (by decide))
theorem ob_X11_farFrom_42_mu_5 (nb nn : Nat) (a : Int32) (b : Int32) (M : xM) (hp0 : 0 ≤ b) (hp1 : b ≤ 5) (k : Int32) (n : Nat) (t : Int32) (N_ : xM) (hmu : xmu t 36 < n + 1) (hinv : 0 ≤ t) (c_1 : ¬ 36 ≤ t) (x5_2 : Int32) (ex5_2 : x5_2 = (t / 6)) (x6_3 : Int32) (ex6_3 : x6_3 = (t - t / 6 * 6)) (c_4 : (N_ 55 0 t.toNatClampNeg) ≤ 0) (x4_5 : Int32) (ex4_5 : x4_5 = t + 1) : xmu x4_5 36 < n := by
  subst_vars
  have h9 := xmu_up (a := t) (b := 36) (by grind)
  (try simp [xup_at])
  omega
theorem ob_X11_farFrom_42_inv_5 (nb nn : Nat) (a : Int32) (b : Int32) (M : xM) (hp0 : 0 ≤ b) (hp1 : b ≤ 5) (k : Int32) (n : Nat) (t : Int32) (N_ : xM) (hmu : xmu t 36 < n + 1) (hinv : 0 ≤ t) (c_1 : ¬ 36 ≤ t) (x5_2 : Int32) (ex5_2 : x5_2 = (t / 6)) (x6_3 : Int32) (ex6_3 : x6_3 = (t - t / 6 * 6)) (c_4 : (N_ 55 0 t.toNatClampNeg) ≤ 0) (x4_5 : Int32) (ex4_5 : x4_5 = t + 1) : 0 ≤ x4_5 := by
  subst_vars
  grind [xup_at, isSheet_eq, isTown_eq, isWeek_eq, isTrader_eq, in_0s, isBank_eq, in_0_1, in_0_2, in_0_4, in_0_5, in_0_6, in_0_7, in_0_100, in_0_255, in_0_299, in_0_500, in_0_9999, in_0_99999, in_1_6, in_1_8, in_1_100, in_1_999, in_t_299, xb]
theorem ob_X11_farFrom_79_in (nb nn : Nat) (a : Int32) (b : Int32) (M : xM) (hp0 : 0 ≤ b) (hp1 : b ≤ 5) (k : Int32) (n : Nat) (t : Int32) (N_ : xM) (hmu : xmu t 36 < n + 1) (hinv : 0 ≤ t) (c_1 : ¬ 36 ≤ t) (x5_2 : Int32) (ex5_2 : x5_2 = (t / 6)) (x6_3 : Int32) (ex6_3 : x6_3 = (t - t / 6 * 6)) (c_4 : ¬ (N_ 55 0 t.toNatClampNeg) ≤ 0) : vp_in x5_2 6 := by
  subst_vars
  first
  | exact xin (N := 6) (by grind) (by grind) (by decide)
  | (have h9 := div6 (t := t) (by grind) (by grind); exact xin (N := 6) (by grind) (by grind) (by decide))
theorem ob_X11_farFrom_42_mu_7 (nb nn : Nat) (a : Int32) (b : Int32) (M : xM) (hp0 : 0 ≤ b) (hp1 : b ≤ 5) (k : Int32) (n : Nat) (t : Int32) (N_ : xM) (hmu : xmu t 36 < n + 1) (hinv : 0 ≤ t) (c_1 : ¬ 36 ≤ t) (x5_2 : Int32) (ex5_2 : x5_2 = (t / 6)) (x6_3 : Int32) (ex6_3 : x6_3 = (t - t / 6 * 6)) (c_4 : ¬ (N_ 55 0 t.toNatClampNeg) ≤ 0) (c_6 : (N_ 56 0 x5_2.toNatClampNeg) = (-1000000)) (x4_7 : Int32) (ex4_7 : x4_7 = t + 1) : xmu x4_7 36 < n := by
  subst_vars
  have h9 := xmu_up (a := t) (b := 36) (by grind)
  (try simp [xup_at])
  omega
theorem ob_X11_farFrom_42_inv_7 (nb nn : Nat) (a : Int32) (b : Int32) (M : xM) (hp0 : 0 ≤ b) (hp1 : b ≤ 5) (k : Int32) (n : Nat) (t : Int32) (N_ : xM) (hmu : xmu t 36 < n + 1) (hinv : 0 ≤ t) (c_1 : ¬ 36 ≤ t) (x5_2 : Int32) (ex5_2 : x5_2 = (t / 6)) (x6_3 : Int32) (ex6_3 : x6_3 = (t - t / 6 * 6)) (c_4 : ¬ (N_ 55 0 t.toNatClampNeg) ≤ 0) (c_6 : (N_ 56 0 x5_2.toNatClampNeg) = (-1000000)) (x4_7 : Int32) (ex4_7 : x4_7 = t + 1) : 0 ≤ x4_7 := by
  subst_vars
  grind [xup_at, isSheet_eq, isTown_eq, isWeek_eq, isTrader_eq, in_0s, isBank_eq, in_0_1, in_0_2, in_0_4, in_0_5, in_0_6, in_0_7, in_0_100, in_0_255, in_0_299, in_0_500, in_0_9999, in_0_99999, in_1_6, in_1_8, in_1_100, in_1_999, in_t_299, xb]
theorem ob_X11_farFrom_91_in (nb nn : Nat) (a : Int32) (b : Int32) (M : xM) (hp0 : 0 ≤ b) (hp1 : b ≤ 5) (k : Int32) (n : Nat) (t : Int32) (N_ : xM) (hmu : xmu t 36 < n + 1) (hinv : 0 ≤ t) (c_1 : ¬ 36 ≤ t) (x5_2 : Int32) (ex5_2 : x5_2 = (t / 6)) (x6_3 : Int32) (ex6_3 : x6_3 = (t - t / 6 * 6)) (c_4 : ¬ (N_ 55 0 t.toNatClampNeg) ≤ 0) (c_6 : ¬ (N_ 56 0 x5_2.toNatClampNeg) = (-1000000)) : vp_in x6_3 6 := by
  subst_vars
  first
  | exact xin (N := 6) (by grind) (by grind) (by decide)
  | (have h9 := div6 (t := t) (by grind) (by grind); exact xin (N := 6) (by grind) (by grind) (by decide))
theorem ob_X11_farFrom_134_in (nb nn : Nat) (a : Int32) (b : Int32) (M : xM) (hp0 : 0 ≤ b) (hp1 : b ≤ 5) (k : Int32) (n : Nat) (t : Int32) (N_ : xM) (hmu : xmu t 36 < n + 1) (hinv : 0 ≤ t) (c_1 : ¬ 36 ≤ t) (x5_2 : Int32) (ex5_2 : x5_2 = (t / 6)) (x6_3 : Int32) (ex6_3 : x6_3 = (t - t / 6 * 6)) (c_4 : ¬ (N_ 55 0 t.toNatClampNeg) ≤ 0) (c_6 : ¬ (N_ 56 0 x5_2.toNatClampNeg) = (-1000000)) (c_8 : (N_ 56 0 x6_3.toNatClampNeg) = (-1000000)) : vp_in x5_2 6 := by
  subst_vars
  first
  | exact xin (N := 6) (by grind) (by grind) (by decide)
  | (have h9 := div6 (t := t) (by grind) (by grind); exact xin (N := 6) (by grind) (by grind) (by decide))
theorem ob_X11_farFrom_141_in (nb nn : Nat) (a : Int32) (b : Int32) (M : xM) (hp0 : 0 ≤ b) (hp1 : b ≤ 5) (k : Int32) (n : Nat) (t : Int32) (N_ : xM) (hmu : xmu t 36 < n + 1) (hinv : 0 ≤ t) (c_1 : ¬ 36 ≤ t) (x5_2 : Int32) (ex5_2 : x5_2 = (t / 6)) (x6_3 : Int32) (ex6_3 : x6_3 = (t - t / 6 * 6)) (c_4 : ¬ (N_ 55 0 t.toNatClampNeg) ≤ 0) (c_6 : ¬ (N_ 56 0 x5_2.toNatClampNeg) = (-1000000)) (c_8 : (N_ 56 0 x6_3.toNatClampNeg) = (-1000000)) : vp_in t 36 := by
  subst_vars
  first
  | exact xin (N := 36) (by grind) (by grind) (by decide)
  | (have h9 := div6 (t := t) (by grind) (by grind); exact xin (N := 36) (by grind) (by grind) (by decide))
theorem ob_X11_farFrom_143_in (nb nn : Nat) (a : Int32) (b : Int32) (M : xM) (hp0 : 0 ≤ b) (hp1 : b ≤ 5) (k : Int32) (n : Nat) (t : Int32) (N_ : xM) (hmu : xmu t 36 < n + 1) (hinv : 0 ≤ t) (c_1 : ¬ 36 ≤ t) (x5_2 : Int32) (ex5_2 : x5_2 = (t / 6)) (x6_3 : Int32) (ex6_3 : x6_3 = (t - t / 6 * 6)) (c_4 : ¬ (N_ 55 0 t.toNatClampNeg) ≤ 0) (c_6 : ¬ (N_ 56 0 x5_2.toNatClampNeg) = (-1000000)) (c_8 : (N_ 56 0 x6_3.toNatClampNeg) = (-1000000)) (v_9 : Int32) (ev_9 : v_9 = ((N_ 56 0 x5_2.toNatClampNeg) + (N_ 55 0 t.toNatClampNeg))) : vp_in x6_3 6 := by
  subst_vars
  first
  | exact xin (N := 6) (by grind) (by grind) (by decide)
  | (have h9 := div6 (t := t) (by grind) (by grind); exact xin (N := 6) (by grind) (by grind) (by decide))
theorem ob_X11_farFrom_42_mu_11 (nb nn : Nat) (a : Int32) (b : Int32) (M : xM) (hp0 : 0 ≤ b) (hp1 : b ≤ 5) (k : Int32) (n : Nat) (t : Int32) (N_ : xM) (hmu : xmu t 36 < n + 1) (hinv : 0 ≤ t) (c_1 : ¬ 36 ≤ t) (x5_2 : Int32) (ex5_2 : x5_2 = (t / 6)) (x6_3 : Int32) (ex6_3 : x6_3 = (t - t / 6 * 6)) (c_4 : ¬ (N_ 55 0 t.toNatClampNeg) ≤ 0) (c_6 : ¬ (N_ 56 0 x5_2.toNatClampNeg) = (-1000000)) (c_8 : (N_ 56 0 x6_3.toNatClampNeg) = (-1000000)) (v_9 : Int32) (ev_9 : v_9 = ((N_ 56 0 x5_2.toNatClampNeg) + (N_ 55 0 t.toNatClampNeg))) (M_10 : xM) (eM_10 : M_10 = xup N_ 56 0 x6_3.toNatClampNeg v_9) (x4_11 : Int32) (ex4_11 : x4_11 = t + 1) : xmu x4_11 36 < n := by
  subst_vars
  have h9 := xmu_up (a := t) (b := 36) (by grind)
  (try simp [xup_at])
  omega
theorem ob_X11_farFrom_42_inv_11 (nb nn : Nat) (a : Int32) (b : Int32) (M : xM) (hp0 : 0 ≤ b) (hp1 : b ≤ 5) (k : Int32) (n : Nat) (t : Int32) (N_ : xM) (hmu : xmu t 36 < n + 1) (hinv : 0 ≤ t) (c_1 : ¬ 36 ≤ t) (x5_2 : Int32) (ex5_2 : x5_2 = (t / 6)) (x6_3 : Int32) (ex6_3 : x6_3 = (t - t / 6 * 6)) (c_4 : ¬ (N_ 55 0 t.toNatClampNeg) ≤ 0) (c_6 : ¬ (N_ 56 0 x5_2.toNatClampNeg) = (-1000000)) (c_8 : (N_ 56 0 x6_3.toNatClampNeg) = (-1000000)) (v_9 : Int32) (ev_9 : v_9 = ((N_ 56 0 x5_2.toNatClampNeg) + (N_ 55 0 t.toNatClampNeg))) (M_10 : xM) (eM_10 : M_10 = xup N_ 56 0 x6_3.toNatClampNeg v_9) (x4_11 : Int32) (ex4_11 : x4_11 = t + 1) : 0 ≤ x4_11 := by
  subst_vars
  grind [xup_at, isSheet_eq, isTown_eq, isWeek_eq, isTrader_eq, in_0s, isBank_eq, in_0_1, in_0_2, in_0_4, in_0_5, in_0_6, in_0_7, in_0_100, in_0_255, in_0_299, in_0_500, in_0_9999, in_0_99999, in_1_6, in_1_8, in_1_100, in_1_999, in_t_299, xb]
theorem ob_X11_farFrom_103_in (nb nn : Nat) (a : Int32) (b : Int32) (M : xM) (hp0 : 0 ≤ b) (hp1 : b ≤ 5) (k : Int32) (n : Nat) (t : Int32) (N_ : xM) (hmu : xmu t 36 < n + 1) (hinv : 0 ≤ t) (c_1 : ¬ 36 ≤ t) (x5_2 : Int32) (ex5_2 : x5_2 = (t / 6)) (x6_3 : Int32) (ex6_3 : x6_3 = (t - t / 6 * 6)) (c_4 : ¬ (N_ 55 0 t.toNatClampNeg) ≤ 0) (c_6 : ¬ (N_ 56 0 x5_2.toNatClampNeg) = (-1000000)) (c_8 : ¬ (N_ 56 0 x6_3.toNatClampNeg) = (-1000000)) : vp_in x5_2 6 := by
  subst_vars
  first
  | exact xin (N := 6) (by grind) (by grind) (by decide)
  | (have h9 := div6 (t := t) (by grind) (by grind); exact xin (N := 6) (by grind) (by grind) (by decide))
theorem ob_X11_farFrom_110_in (nb nn : Nat) (a : Int32) (b : Int32) (M : xM) (hp0 : 0 ≤ b) (hp1 : b ≤ 5) (k : Int32) (n : Nat) (t : Int32) (N_ : xM) (hmu : xmu t 36 < n + 1) (hinv : 0 ≤ t) (c_1 : ¬ 36 ≤ t) (x5_2 : Int32) (ex5_2 : x5_2 = (t / 6)) (x6_3 : Int32) (ex6_3 : x6_3 = (t - t / 6 * 6)) (c_4 : ¬ (N_ 55 0 t.toNatClampNeg) ≤ 0) (c_6 : ¬ (N_ 56 0 x5_2.toNatClampNeg) = (-1000000)) (c_8 : ¬ (N_ 56 0 x6_3.toNatClampNeg) = (-1000000)) : vp_in t 36 := by
  subst_vars
  first
  | exact xin (N := 36) (by grind) (by grind) (by decide)
  | (have h9 := div6 (t := t) (by grind) (by grind); exact xin (N := 36) (by grind) (by grind) (by decide))
theorem ob_X11_farFrom_118_in (nb nn : Nat) (a : Int32) (b : Int32) (M : xM) (hp0 : 0 ≤ b) (hp1 : b ≤ 5) (k : Int32) (n : Nat) (t : Int32) (N_ : xM) (hmu : xmu t 36 < n + 1) (hinv : 0 ≤ t) (c_1 : ¬ 36 ≤ t) (x5_2 : Int32) (ex5_2 : x5_2 = (t / 6)) (x6_3 : Int32) (ex6_3 : x6_3 = (t - t / 6 * 6)) (c_4 : ¬ (N_ 55 0 t.toNatClampNeg) ≤ 0) (c_6 : ¬ (N_ 56 0 x5_2.toNatClampNeg) = (-1000000)) (c_8 : ¬ (N_ 56 0 x6_3.toNatClampNeg) = (-1000000)) : vp_in x6_3 6 := by
  subst_vars
  first
  | exact xin (N := 6) (by grind) (by grind) (by decide)
  | (have h9 := div6 (t := t) (by grind) (by grind); exact xin (N := 6) (by grind) (by grind) (by decide))
theorem ob_X11_farFrom_42_mu_13 (nb nn : Nat) (a : Int32) (b : Int32) (M : xM) (hp0 : 0 ≤ b) (hp1 : b ≤ 5) (k : Int32) (n : Nat) (t : Int32) (N_ : xM) (hmu : xmu t 36 < n + 1) (hinv : 0 ≤ t) (c_1 : ¬ 36 ≤ t) (x5_2 : Int32) (ex5_2 : x5_2 = (t / 6)) (x6_3 : Int32) (ex6_3 : x6_3 = (t - t / 6 * 6)) (c_4 : ¬ (N_ 55 0 t.toNatClampNeg) ≤ 0) (c_6 : ¬ (N_ 56 0 x5_2.toNatClampNeg) = (-1000000)) (c_8 : ¬ (N_ 56 0 x6_3.toNatClampNeg) = (-1000000)) (c_12 : (N_ 56 0 x6_3.toNatClampNeg) ≤ ((N_ 56 0 x5_2.toNatClampNeg) + (N_ 55 0 t.toNatClampNeg))) (x4_13 : Int32) (ex4_13 : x4_13 = t + 1) : xmu x4_13 36 < n := by
  subst_vars
  have h9 := xmu_up (a := t) (b := 36) (by grind)
  (try simp [xup_at])
  omega
theorem ob_X11_farFrom_42_inv_13 (nb nn : Nat) (a : Int32) (b : Int32) (M : xM) (hp0 : 0 ≤ b) (hp1 : b ≤ 5) (k : Int32) (n : Nat) (t : Int32) (N_ : xM) (hmu : xmu t 36 < n + 1) (hinv : 0 ≤ t) (c_1 : ¬ 36 ≤ t) (x5_2 : Int32) (ex5_2 : x5_2 = (t / 6)) (x6_3 : Int32) (ex6_3 : x6_3 = (t - t / 6 * 6)) (c_4 : ¬ (N_ 55 0 t.toNatClampNeg) ≤ 0) (c_6 : ¬ (N_ 56 0 x5_2.toNatClampNeg) = (-1000000)) (c_8 : ¬ (N_ 56 0 x6_3.toNatClampNeg) = (-1000000)) (c_12 : (N_ 56 0 x6_3.toNatClampNeg) ≤ ((N_ 56 0 x5_2.toNatClampNeg) + (N_ 55 0 t.toNatClampNeg))) (x4_13 : Int32) (ex4_13 : x4_13 = t + 1) : 0 ≤ x4_13 := by
  subst_vars
  grind [xup_at, isSheet_eq, isTown_eq, isWeek_eq, isTrader_eq, in_0s, isBank_eq, in_0_1, in_0_2, in_0_4, in_0_5, in_0_6, in_0_7, in_0_100, in_0_255, in_0_299, in_0_500, in_0_9999, in_0_99999, in_1_6, in_1_8, in_1_100, in_1_999, in_t_299, xb]
theorem ob_X11_farFrom_134_in_2 (nb nn : Nat) (a : Int32) (b : Int32) (M : xM) (hp0 : 0 ≤ b) (hp1 : b ≤ 5) (k : Int32) (n : Nat) (t : Int32) (N_ : xM) (hmu : xmu t 36 < n + 1) (hinv : 0 ≤ t) (c_1 : ¬ 36 ≤ t) (x5_2 : Int32) (ex5_2 : x5_2 = (t / 6)) (x6_3 : Int32) (ex6_3 : x6_3 = (t - t / 6 * 6)) (c_4 : ¬ (N_ 55 0 t.toNatClampNeg) ≤ 0) (c_6 : ¬ (N_ 56 0 x5_2.toNatClampNeg) = (-1000000)) (c_8 : ¬ (N_ 56 0 x6_3.toNatClampNeg) = (-1000000)) (c_12 : ¬ (N_ 56 0 x6_3.toNatClampNeg) ≤ ((N_ 56 0 x5_2.toNatClampNeg) + (N_ 55 0 t.toNatClampNeg))) : vp_in x5_2 6 := by
  subst_vars
  first
  | exact xin (N := 6) (by grind) (by grind) (by decide)
  | (have h9 := div6 (t := t) (by grind) (by grind); exact xin (N := 6) (by grind) (by grind) (by decide))
theorem ob_X11_farFrom_141_in_2 (nb nn : Nat) (a : Int32) (b : Int32) (M : xM) (hp0 : 0 ≤ b) (hp1 : b ≤ 5) (k : Int32) (n : Nat) (t : Int32) (N_ : xM) (hmu : xmu t 36 < n + 1) (hinv : 0 ≤ t) (c_1 : ¬ 36 ≤ t) (x5_2 : Int32) (ex5_2 : x5_2 = (t / 6)) (x6_3 : Int32) (ex6_3 : x6_3 = (t - t / 6 * 6)) (c_4 : ¬ (N_ 55 0 t.toNatClampNeg) ≤ 0) (c_6 : ¬ (N_ 56 0 x5_2.toNatClampNeg) = (-1000000)) (c_8 : ¬ (N_ 56 0 x6_3.toNatClampNeg) = (-1000000)) (c_12 : ¬ (N_ 56 0 x6_3.toNatClampNeg) ≤ ((N_ 56 0 x5_2.toNatClampNeg) + (N_ 55 0 t.toNatClampNeg))) : vp_in t 36 := by
  subst_vars
  first
  | exact xin (N := 36) (by grind) (by grind) (by decide)
  | (have h9 := div6 (t := t) (by grind) (by grind); exact xin (N := 36) (by grind) (by grind) (by decide))
theorem ob_X11_farFrom_143_in_2 (nb nn : Nat) (a : Int32) (b : Int32) (M : xM) (hp0 : 0 ≤ b) (hp1 : b ≤ 5) (k : Int32) (n : Nat) (t : Int32) (N_ : xM) (hmu : xmu t 36 < n + 1) (hinv : 0 ≤ t) (c_1 : ¬ 36 ≤ t) (x5_2 : Int32) (ex5_2 : x5_2 = (t / 6)) (x6_3 : Int32) (ex6_3 : x6_3 = (t - t / 6 * 6)) (c_4 : ¬ (N_ 55 0 t.toNatClampNeg) ≤ 0) (c_6 : ¬ (N_ 56 0 x5_2.toNatClampNeg) = (-1000000)) (c_8 : ¬ (N_ 56 0 x6_3.toNatClampNeg) = (-1000000)) (c_12 : ¬ (N_ 56 0 x6_3.toNatClampNeg) ≤ ((N_ 56 0 x5_2.toNatClampNeg) + (N_ 55 0 t.toNatClampNeg))) (v_14 : Int32) (ev_14 : v_14 = ((N_ 56 0 x5_2.toNatClampNeg) + (N_ 55 0 t.toNatClampNeg))) : vp_in x6_3 6 := by
  subst_vars
  first
  | exact xin (N := 6) (by grind) (by grind) (by decide)
  | (have h9 := div6 (t := t) (by grind) (by grind); exact xin (N := 6) (by grind) (by grind) (by decide))
theorem ob_X11_farFrom_42_mu_16 (nb nn : Nat) (a : Int32) (b : Int32) (M : xM) (hp0 : 0 ≤ b) (hp1 : b ≤ 5) (k : Int32) (n : Nat) (t : Int32) (N_ : xM) (hmu : xmu t 36 < n + 1) (hinv : 0 ≤ t) (c_1 : ¬ 36 ≤ t) (x5_2 : Int32) (ex5_2 : x5_2 = (t / 6)) (x6_3 : Int32) (ex6_3 : x6_3 = (t - t / 6 * 6)) (c_4 : ¬ (N_ 55 0 t.toNatClampNeg) ≤ 0) (c_6 : ¬ (N_ 56 0 x5_2.toNatClampNeg) = (-1000000)) (c_8 : ¬ (N_ 56 0 x6_3.toNatClampNeg) = (-1000000)) (c_12 : ¬ (N_ 56 0 x6_3.toNatClampNeg) ≤ ((N_ 56 0 x5_2.toNatClampNeg) + (N_ 55 0 t.toNatClampNeg))) (v_14 : Int32) (ev_14 : v_14 = ((N_ 56 0 x5_2.toNatClampNeg) + (N_ 55 0 t.toNatClampNeg))) (M_15 : xM) (eM_15 : M_15 = xup N_ 56 0 x6_3.toNatClampNeg v_14) (x4_16 : Int32) (ex4_16 : x4_16 = t + 1) : xmu x4_16 36 < n := by
  subst_vars
  have h9 := xmu_up (a := t) (b := 36) (by grind)
  (try simp [xup_at])
  omega
theorem ob_X11_farFrom_42_inv_16 (nb nn : Nat) (a : Int32) (b : Int32) (M : xM) (hp0 : 0 ≤ b) (hp1 : b ≤ 5) (k : Int32) (n : Nat) (t : Int32) (N_ : xM) (hmu : xmu t 36 < n + 1) (hinv : 0 ≤ t) (c_1 : ¬ 36 ≤ t) (x5_2 : Int32) (ex5_2 : x5_2 = (t / 6)) (x6_3 : Int32) (ex6_3 : x6_3 = (t - t / 6 * 6)) (c_4 : ¬ (N_ 55 0 t.toNatClampNeg) ≤ 0) (c_6 : ¬ (N_ 56 0 x5_2.toNatClampNeg) = (-1000000)) (c_8 : ¬ (N_ 56 0 x6_3.toNatClampNeg) = (-1000000)) (c_12 : ¬ (N_ 56 0 x6_3.toNatClampNeg) ≤ ((N_ 56 0 x5_2.toNatClampNeg) + (N_ 55 0 t.toNatClampNeg))) (v_14 : Int32) (ev_14 : v_14 = ((N_ 56 0 x5_2.toNatClampNeg) + (N_ 55 0 t.toNatClampNeg))) (M_15 : xM) (eM_15 : M_15 = xup N_ 56 0 x6_3.toNatClampNeg v_14) (x4_16 : Int32) (ex4_16 : x4_16 = t + 1) : 0 ≤ x4_16 := by
  subst_vars
  grind [xup_at, isSheet_eq, isTown_eq, isWeek_eq, isTrader_eq, in_0s, isBank_eq, in_0_1, in_0_2, in_0_4, in_0_5, in_0_6, in_0_7, in_0_100, in_0_255, in_0_299, in_0_500, in_0_9999, in_0_99999, in_1_6, in_1_8, in_1_100, in_1_999, in_t_299, xb]
theorem ob_X11_farFrom_42_ini_17 (nb nn : Nat) (a : Int32) (b : Int32) (M : xM) (hp0 : 0 ≤ b) (hp1 : b ≤ 5) (n : Nat) (k : Int32) (N_ : xM) (hmu : xmu k 6 < n + 1) (hinv : True) (c_17 : ¬ 6 ≤ k) : 0 ≤ (0 : Int32) := by
  subst_vars
  grind [xup_at, isSheet_eq, isTown_eq, isWeek_eq, isTrader_eq, in_0s, isBank_eq, in_0_1, in_0_2, in_0_4, in_0_5, in_0_6, in_0_7, in_0_100, in_0_255, in_0_299, in_0_500, in_0_9999, in_0_99999, in_1_6, in_1_8, in_1_100, in_1_999, in_t_299, xb]
theorem ob_X11_farFrom_33_mu_20 (nb nn : Nat) (a : Int32) (b : Int32) (M : xM) (hp0 : 0 ≤ b) (hp1 : b ≤ 5) (n : Nat) (k : Int32) (N_ : xM) (hmu : xmu k 6 < n + 1) (hinv : True) (c_17 : ¬ 6 ≤ k) (t_18 : Int32) (M_19 : xM) (hiv_19 : 0 ≤ t_18) (x3_20 : Int32) (ex3_20 : x3_20 = k + 1) : xmu x3_20 6 < n := by
  subst_vars
  have h9 := xmu_up (a := k) (b := 6) (by grind)
  (try simp [xup_at])
  omega
theorem ob_X11_farFrom_31_x2 (nb nn : Nat) (a : Int32) (b : Int32) (M : xM) (hp0 : 0 ≤ b) (hp1 : b ≤ 5) (n : Nat) (t : Int32) (N_ : xM) (hmu : xmu t 6 < n + 1) (hinv : 0 ≤ t) (c_21 : 6 ≤ t) : 0 ≤ t := by
  subst_vars
  grind [xup_at, isSheet_eq, isTown_eq, isWeek_eq, isTrader_eq, in_0s, isBank_eq, in_0_1, in_0_2, in_0_4, in_0_5, in_0_6, in_0_7, in_0_100, in_0_255, in_0_299, in_0_500, in_0_9999, in_0_99999, in_1_6, in_1_8, in_1_100, in_1_999, in_t_299, xb]
theorem ob_X11_farFrom_24_in (nb nn : Nat) (a : Int32) (b : Int32) (M : xM) (hp0 : 0 ≤ b) (hp1 : b ≤ 5) (n : Nat) (t : Int32) (N_ : xM) (hmu : xmu t 6 < n + 1) (hinv : 0 ≤ t) (c_21 : ¬ 6 ≤ t) (c_22 : ¬ t = a) : vp_in t 6 := by
  subst_vars
  first
  | exact xin (N := 6) (by grind) (by grind) (by decide)
  | (have h9 := div6 (t := t) (by grind) (by grind); exact xin (N := 6) (by grind) (by grind) (by decide))
theorem ob_X11_farFrom_2_mu_24 (nb nn : Nat) (a : Int32) (b : Int32) (M : xM) (hp0 : 0 ≤ b) (hp1 : b ≤ 5) (n : Nat) (t : Int32) (N_ : xM) (hmu : xmu t 6 < n + 1) (hinv : 0 ≤ t) (c_21 : ¬ 6 ≤ t) (c_22 : ¬ t = a) (M_23 : xM) (eM_23 : M_23 = xup N_ 56 0 t.toNatClampNeg (-1000000)) (x3_24 : Int32) (ex3_24 : x3_24 = t + 1) : xmu x3_24 6 < n := by
  subst_vars
  have h9 := xmu_up (a := t) (b := 6) (by grind)
  (try simp [xup_at])
  omega
theorem ob_X11_farFrom_2_inv_24 (nb nn : Nat) (a : Int32) (b : Int32) (M : xM) (hp0 : 0 ≤ b) (hp1 : b ≤ 5) (n : Nat) (t : Int32) (N_ : xM) (hmu : xmu t 6 < n + 1) (hinv : 0 ≤ t) (c_21 : ¬ 6 ≤ t) (c_22 : ¬ t = a) (M_23 : xM) (eM_23 : M_23 = xup N_ 56 0 t.toNatClampNeg (-1000000)) (x3_24 : Int32) (ex3_24 : x3_24 = t + 1) : 0 ≤ x3_24 := by
  subst_vars
  grind [xup_at, isSheet_eq, isTown_eq, isWeek_eq, isTrader_eq, in_0s, isBank_eq, in_0_1, in_0_2, in_0_4, in_0_5, in_0_6, in_0_7, in_0_100, in_0_255, in_0_299, in_0_500, in_0_9999, in_0_99999, in_1_6, in_1_8, in_1_100, in_1_999, in_t_299, xb]
theorem ob_X11_farFrom_24_in_2 (nb nn : Nat) (a : Int32) (b : Int32) (M : xM) (hp0 : 0 ≤ b) (hp1 : b ≤ 5) (n : Nat) (t : Int32) (N_ : xM) (hmu : xmu t 6 < n + 1) (hinv : 0 ≤ t) (c_21 : ¬ 6 ≤ t) (c_22 : t = a) : vp_in t 6 := by
  subst_vars
  first
  | exact xin (N := 6) (by grind) (by grind) (by decide)
  | (have h9 := div6 (t := t) (by grind) (by grind); exact xin (N := 6) (by grind) (by grind) (by decide))
theorem ob_X11_farFrom_2_mu_26 (nb nn : Nat) (a : Int32) (b : Int32) (M : xM) (hp0 : 0 ≤ b) (hp1 : b ≤ 5) (n : Nat) (t : Int32) (N_ : xM) (hmu : xmu t 6 < n + 1) (hinv : 0 ≤ t) (c_21 : ¬ 6 ≤ t) (c_22 : t = a) (M_25 : xM) (eM_25 : M_25 = xup N_ 56 0 t.toNatClampNeg 0) (x3_26 : Int32) (ex3_26 : x3_26 = t + 1) : xmu x3_26 6 < n := by
  subst_vars
  have h9 := xmu_up (a := t) (b := 6) (by grind)
  (try simp [xup_at])
  omega
theorem ob_X11_farFrom_2_inv_26 (nb nn : Nat) (a : Int32) (b : Int32) (M : xM) (hp0 : 0 ≤ b) (hp1 : b ≤ 5) (n : Nat) (t : Int32) (N_ : xM) (hmu : xmu t 6 < n + 1) (hinv : 0 ≤ t) (c_21 : ¬ 6 ≤ t) (c_22 : t = a) (M_25 : xM) (eM_25 : M_25 = xup N_ 56 0 t.toNatClampNeg 0) (x3_26 : Int32) (ex3_26 : x3_26 = t + 1) : 0 ≤ x3_26 := by
  subst_vars
  grind [xup_at, isSheet_eq, isTown_eq, isWeek_eq, isTrader_eq, in_0s, isBank_eq, in_0_1, in_0_2, in_0_4, in_0_5, in_0_6, in_0_7, in_0_100, in_0_255, in_0_299, in_0_500, in_0_9999, in_0_99999, in_1_6, in_1_8, in_1_100, in_1_999, in_t_299, xb]
theorem ob_X11_farFrom_2_ini_26 (nb nn : Nat) (a : Int32) (b : Int32) (M : xM) (hp0 : 0 ≤ b) (hp1 : b ≤ 5) : 0 ≤ (0 : Int32) := by
  subst_vars
  grind [xup_at, isSheet_eq, isTown_eq, isWeek_eq, isTrader_eq, in_0s, isBank_eq, in_0_1, in_0_2, in_0_4, in_0_5, in_0_6, in_0_7, in_0_100, in_0_255, in_0_299, in_0_500, in_0_9999, in_0_99999, in_1_6, in_1_8, in_1_100, in_1_999, in_t_299, xb]
theorem ob_X11_farFrom_161_in (nb nn : Nat) (a : Int32) (b : Int32) (M : xM) (hp0 : 0 ≤ b) (hp1 : b ≤ 5) (t_27 : Int32) (M_28 : xM) (hiv_28 : 0 ≤ t_27) (k_29 : Int32) (M_30 : xM) (hiv_30 : True) : vp_in b 6 := by
  subst_vars
  first
  | exact xin (N := 6) (by grind) (by grind) (by decide)
  | (have h9 := div6 (t := t) (by grind) (by grind); exact xin (N := 6) (by grind) (by grind) (by decide))
theorem ob_X11_far_27_p0 (nb nn : Nat) (a : Int32) (b : Int32) (M : xM) (M_1 : xM) (eM_1 : M_1 = xup M 40 0 0 0) (r_2 : Int32) (er_2 : r_2 = xb (f_X11_isTown a M_1)) (c_3 : ¬ r_2 = 0) (r_4 : Int32) (er_4 : r_4 = xb (f_X11_isTown b M_1)) (c_5 : ¬ r_4 = 0) : 0 ≤ b := by
  subst_vars
  grind [xup_at, isSheet_eq, isTown_eq, isWeek_eq, isTrader_eq, in_0s, isBank_eq, in_0_1, in_0_2, in_0_4, in_0_5, in_0_6, in_0_7, in_0_100, in_0_255, in_0_299, in_0_500, in_0_9999, in_0_99999, in_1_6, in_1_8, in_1_100, in_1_999, in_t_299, xb]
theorem ob_X11_far_27_p1 (nb nn : Nat) (a : Int32) (b : Int32) (M : xM) (M_1 : xM) (eM_1 : M_1 = xup M 40 0 0 0) (r_2 : Int32) (er_2 : r_2 = xb (f_X11_isTown a M_1)) (c_3 : ¬ r_2 = 0) (r_4 : Int32) (er_4 : r_4 = xb (f_X11_isTown b M_1)) (c_5 : ¬ r_4 = 0) : b ≤ 5 := by
  subst_vars
  grind [xup_at, isSheet_eq, isTown_eq, isWeek_eq, isTrader_eq, in_0s, isBank_eq, in_0_1, in_0_2, in_0_4, in_0_5, in_0_6, in_0_7, in_0_100, in_0_255, in_0_299, in_0_500, in_0_9999, in_0_99999, in_1_6, in_1_8, in_1_100, in_1_999, in_t_299, xb]
theorem ob_X11_bank_60_in (nb nn : Nat) (town : Int32) (v : Int32) (marks : Int32) (M : xM) (hp0 : 0 ≤ M 40 0 7) (hp1 : M 40 0 7 ≤ 8) (M_1 : xM) (eM_1 : M_1 = xup M 40 0 0 0) (r_2 : Int32) (er_2 : r_2 = xb (f_X11_isTown town M_1)) (c_3 : ¬ r_2 = 0) (r_4 : Int32) (er_4 : r_4 = xb (f_X11_in (v.toInt64) 0 99999 M_1)) (c_5 : ¬ r_4 = 0) (r_6 : Int32) (er_6 : r_6 = xb (f_X11_in (marks.toInt64) 0 255 M_1)) (c_7 : ¬ r_6 = 0) (c_8 : ¬ (M_1 40 0 7) = 8) : vp_in (M_1 40 0 7) 8 := by
  subst_vars
  exact xin (N := 8) (by grind [xup_at, isSheet_eq, isTown_eq, isWeek_eq, isTrader_eq, in_0s, isBank_eq, in_0_1, in_0_2, in_0_4, in_0_5, in_0_6, in_0_7, in_0_100, in_0_255, in_0_299, in_0_500, in_0_9999, in_0_99999, in_1_6, in_1_8, in_1_100, in_1_999, in_t_299, xb]) (by grind [xup_at, isSheet_eq, isTown_eq, isWeek_eq, isTrader_eq, in_0s, isBank_eq, in_0_1, in_0_2, in_0_4, in_0_5, in_0_6, in_0_7, in_0_100, in_0_255, in_0_299, in_0_500, in_0_9999, in_0_99999, in_1_6, in_1_8, in_1_100, in_1_999, in_t_299, xb]) (by decide)
theorem ob_X11_bank_70_in (nb nn : Nat) (town : Int32) (v : Int32) (marks : Int32) (M : xM) (hp0 : 0 ≤ M 40 0 7) (hp1 : M 40 0 7 ≤ 8) (M_1 : xM) (eM_1 : M_1 = xup M 40 0 0 0) (r_2 : Int32) (er_2 : r_2 = xb (f_X11_isTown town M_1)) (c_3 : ¬ r_2 = 0) (r_4 : Int32) (er_4 : r_4 = xb (f_X11_in (v.toInt64) 0 99999 M_1)) (c_5 : ¬ r_4 = 0) (r_6 : Int32) (er_6 : r_6 = xb (f_X11_in (marks.toInt64) 0 255 M_1)) (c_7 : ¬ r_6 = 0) (c_8 : ¬ (M_1 40 0 7) = 8) (M_9 : xM) (eM_9 : M_9 = xup M_1 58 0 (M_1 40 0 7).toNatClampNeg town) : vp_in (M_9 40 0 7) 8 := by
  subst_vars
  exact xin (N := 8) (by grind [xup_at, isSheet_eq, isTown_eq, isWeek_eq, isTrader_eq, in_0s, isBank_eq, in_0_1, in_0_2, in_0_4, in_0_5, in_0_6, in_0_7, in_0_100, in_0_255, in_0_299, in_0_500, in_0_9999, in_0_99999, in_1_6, in_1_8, in_1_100, in_1_999, in_t_299, xb]) (by grind [xup_at, isSheet_eq, isTown_eq, isWeek_eq, isTrader_eq, in_0s, isBank_eq, in_0_1, in_0_2, in_0_4, in_0_5, in_0_6, in_0_7, in_0_100, in_0_255, in_0_299, in_0_500, in_0_9999, in_0_99999, in_1_6, in_1_8, in_1_100, in_1_999, in_t_299, xb]) (by decide)
theorem ob_X11_bank_80_in (nb nn : Nat) (town : Int32) (v : Int32) (marks : Int32) (M : xM) (hp0 : 0 ≤ M 40 0 7) (hp1 : M 40 0 7 ≤ 8) (M_1 : xM) (eM_1 : M_1 = xup M 40 0 0 0) (r_2 : Int32) (er_2 : r_2 = xb (f_X11_isTown town M_1)) (c_3 : ¬ r_2 = 0) (r_4 : Int32) (er_4 : r_4 = xb (f_X11_in (v.toInt64) 0 99999 M_1)) (c_5 : ¬ r_4 = 0) (r_6 : Int32) (er_6 : r_6 = xb (f_X11_in (marks.toInt64) 0 255 M_1)) (c_7 : ¬ r_6 = 0) (c_8 : ¬ (M_1 40 0 7) = 8) (M_9 : xM) (eM_9 : M_9 = xup M_1 58 0 (M_1 40 0 7).toNatClampNeg town) (M_10 : xM) (eM_10 : M_10 = xup M_9 59 0 (M_9 40 0 7).toNatClampNeg v) : vp_in (M_10 40 0 7) 8 := by
  subst_vars
  exact xin (N := 8) (by grind [xup_at, isSheet_eq, isTown_eq, isWeek_eq, isTrader_eq, in_0s, isBank_eq, in_0_1, in_0_2, in_0_4, in_0_5, in_0_6, in_0_7, in_0_100, in_0_255, in_0_299, in_0_500, in_0_9999, in_0_99999, in_1_6, in_1_8, in_1_100, in_1_999, in_t_299, xb]) (by grind [xup_at, isSheet_eq, isTown_eq, isWeek_eq, isTrader_eq, in_0s, isBank_eq, in_0_1, in_0_2, in_0_4, in_0_5, in_0_6, in_0_7, in_0_100, in_0_255, in_0_299, in_0_500, in_0_9999, in_0_99999, in_1_6, in_1_8, in_1_100, in_1_999, in_t_299, xb]) (by decide)
theorem ob_X11_house_99_in (nb nn : Nat) (b : Int32) (what : Int32) (M : xM) (hp0 : 0 ≤ M 40 0 7) (hp1 : M 40 0 7 ≤ 8) (M_1 : xM) (eM_1 : M_1 = xup M 40 0 0 0) (r_2 : Int32) (er_2 : r_2 = xb (f_X11_isBank b M_1)) (c_3 : ¬ r_2 = 0) (r_4 : Int32) (er_4 : r_4 = xb (f_X11_in (what.toInt64) 0 4 M_1)) (c_5 : ¬ r_4 = 0) (c_6 : ¬ what = 0) (c_7 : ¬ what = 1) (c_8 : ¬ what = 2) (c_9 : ¬ what = 3) : vp_in (9 * b) 64 := by
  subst_vars
  exact xin (N := 64) (by grind [xup_at, isSheet_eq, isTown_eq, isWeek_eq, isTrader_eq, in_0s, isBank_eq, in_0_1, in_0_2, in_0_4, in_0_5, in_0_6, in_0_7, in_0_100, in_0_255, in_0_299, in_0_500, in_0_9999, in_0_99999, in_1_6, in_1_8, in_1_100, in_1_999, in_t_299, xb]) (by grind [xup_at, isSheet_eq, isTown_eq, isWeek_eq, isTrader_eq, in_0s, isBank_eq, in_0_1, in_0_2, in_0_4, in_0_5, in_0_6, in_0_7, in_0_100, in_0_255, in_0_299, in_0_500, in_0_9999, in_0_99999, in_1_6, in_1_8, in_1_100, in_1_999, in_t_299, xb]) (by decide)
theorem ob_X11_house_79_in (nb nn : Nat) (b : Int32) (what : Int32) (M : xM) (hp0 : 0 ≤ M 40 0 7) (hp1 : M 40 0 7 ≤ 8) (M_1 : xM) (eM_1 : M_1 = xup M 40 0 0 0) (r_2 : Int32) (er_2 : r_2 = xb (f_X11_isBank b M_1)) (c_3 : ¬ r_2 = 0) (r_4 : Int32) (er_4 : r_4 = xb (f_X11_in (what.toInt64) 0 4 M_1)) (c_5 : ¬ r_4 = 0) (c_6 : ¬ what = 0) (c_7 : ¬ what = 1) (c_8 : ¬ what = 2) (c_9 : what = 3) : vp_in b 8 := by
  subst_vars
  exact xin (N := 8) (by grind [xup_at, isSheet_eq, isTown_eq, isWeek_eq, isTrader_eq, in_0s, isBank_eq, in_0_1, in_0_2, in_0_4, in_0_5, in_0_6, in_0_7, in_0_100, in_0_255, in_0_299, in_0_500, in_0_9999, in_0_99999, in_1_6, in_1_8, in_1_100, in_1_999, in_t_299, xb]) (by grind [xup_at, isSheet_eq, isTown_eq, isWeek_eq, isTrader_eq, in_0s, isBank_eq, in_0_1, in_0_2, in_0_4, in_0_5, in_0_6, in_0_7, in_0_100, in_0_255, in_0_299, in_0_500, in_0_9999, in_0_99999, in_1_6, in_1_8, in_1_100, in_1_999, in_t_299, xb]) (by decide)
theorem ob_X11_house_65_in (nb nn : Nat) (b : Int32) (what : Int32) (M : xM) (hp0 : 0 ≤ M 40 0 7) (hp1 : M 40 0 7 ≤ 8) (M_1 : xM) (eM_1 : M_1 = xup M 40 0 0 0) (r_2 : Int32) (er_2 : r_2 = xb (f_X11_isBank b M_1)) (c_3 : ¬ r_2 = 0) (r_4 : Int32) (er_4 : r_4 = xb (f_X11_in (what.toInt64) 0 4 M_1)) (c_5 : ¬ r_4 = 0) (c_6 : ¬ what = 0) (c_7 : ¬ what = 1) (c_8 : what = 2) : vp_in b 8 := by
  subst_vars
  exact xin (N := 8) (by grind [xup_at, isSheet_eq, isTown_eq, isWeek_eq, isTrader_eq, in_0s, isBank_eq, in_0_1, in_0_2, in_0_4, in_0_5, in_0_6, in_0_7, in_0_100, in_0_255, in_0_299, in_0_500, in_0_9999, in_0_99999, in_1_6, in_1_8, in_1_100, in_1_999, in_t_299, xb]) (by grind [xup_at, isSheet_eq, isTown_eq, isWeek_eq, isTrader_eq, in_0s, isBank_eq, in_0_1, in_0_2, in_0_4, in_0_5, in_0_6, in_0_7, in_0_100, in_0_255, in_0_299, in_0_500, in_0_9999, in_0_99999, in_1_6, in_1_8, in_1_100, in_1_999, in_t_299, xb]) (by decide)
theorem ob_X11_house_51_in (nb nn : Nat) (b : Int32) (what : Int32) (M : xM) (hp0 : 0 ≤ M 40 0 7) (hp1 : M 40 0 7 ≤ 8) (M_1 : xM) (eM_1 : M_1 = xup M 40 0 0 0) (r_2 : Int32) (er_2 : r_2 = xb (f_X11_isBank b M_1)) (c_3 : ¬ r_2 = 0) (r_4 : Int32) (er_4 : r_4 = xb (f_X11_in (what.toInt64) 0 4 M_1)) (c_5 : ¬ r_4 = 0) (c_6 : ¬ what = 0) (c_7 : what = 1) : vp_in b 8 := by
  subst_vars
  exact xin (N := 8) (by grind [xup_at, isSheet_eq, isTown_eq, isWeek_eq, isTrader_eq, in_0s, isBank_eq, in_0_1, in_0_2, in_0_4, in_0_5, in_0_6, in_0_7, in_0_100, in_0_255, in_0_299, in_0_500, in_0_9999, in_0_99999, in_1_6, in_1_8, in_1_100, in_1_999, in_t_299, xb]) (by grind [xup_at, isSheet_eq, isTown_eq, isWeek_eq, isTrader_eq, in_0s, isBank_eq, in_0_1, in_0_2, in_0_4, in_0_5, in_0_6, in_0_7, in_0_100, in_0_255, in_0_299, in_0_500, in_0_9999, in_0_99999, in_1_6, in_1_8, in_1_100, in_1_999, in_t_299, xb]) (by decide)
theorem ob_X11_house_37_in (nb nn : Nat) (b : Int32) (what : Int32) (M : xM) (hp0 : 0 ≤ M 40 0 7) (hp1 : M 40 0 7 ≤ 8) (M_1 : xM) (eM_1 : M_1 = xup M 40 0 0 0) (r_2 : Int32) (er_2 : r_2 = xb (f_X11_isBank b M_1)) (c_3 : ¬ r_2 = 0) (r_4 : Int32) (er_4 : r_4 = xb (f_X11_in (what.toInt64) 0 4 M_1)) (c_5 : ¬ r_4 = 0) (c_6 : what = 0) : vp_in b 8 := by
  subst_vars
  exact xin (N := 8) (by grind [xup_at, isSheet_eq, isTown_eq, isWeek_eq, isTrader_eq, in_0s, isBank_eq, in_0_1, in_0_2, in_0_4, in_0_5, in_0_6, in_0_7, in_0_100, in_0_255, in_0_299, in_0_500, in_0_9999, in_0_99999, in_1_6, in_1_8, in_1_100, in_1_999, in_t_299, xb]) (by grind [xup_at, isSheet_eq, isTown_eq, isWeek_eq, isTrader_eq, in_0s, isBank_eq, in_0_1, in_0_2, in_0_4, in_0_5, in_0_6, in_0_7, in_0_100, in_0_255, in_0_299, in_0_500, in_0_9999, in_0_99999, in_1_6, in_1_8, in_1_100, in_1_999, in_t_299, xb]) (by decide)
theorem ob_X11_hold_57_in (nb nn : Nat) (a : Int32) (b : Int32) (v : Int32) (M : xM) (hp0 : 0 ≤ M 40 0 7) (hp1 : M 40 0 7 ≤ 8) (M_1 : xM) (eM_1 : M_1 = xup M 40 0 0 0) (r_2 : Int32) (er_2 : r_2 = xb (f_X11_isBank a M_1)) (c_3 : ¬ r_2 = 0) (r_4 : Int32) (er_4 : r_4 = xb (f_X11_isBank b M_1)) (c_5 : ¬ r_4 = 0) (c_6 : ¬ a = b) (r_7 : Int32) (er_7 : r_7 = xb (f_X11_in (v.toInt64) 0 9999 M_1)) (c_8 : ¬ r_7 = 0) : vp_in ((8 * a) + b) 64 := by
  subst_vars
  exact xin (N := 64) (by grind [xup_at, isSheet_eq, isTown_eq, isWeek_eq, isTrader_eq, in_0s, isBank_eq, in_0_1, in_0_2, in_0_4, in_0_5, in_0_6, in_0_7, in_0_100, in_0_255, in_0_299, in_0_500, in_0_9999, in_0_99999, in_1_6, in_1_8, in_1_100, in_1_999, in_t_299, xb]) (by grind [xup_at, isSheet_eq, isTown_eq, isWeek_eq, isTrader_eq, in_0s, isBank_eq, in_0_1, in_0_2, in_0_4, in_0_5, in_0_6, in_0_7, in_0_100, in_0_255, in_0_299, in_0_500, in_0_9999, in_0_99999, in_1_6, in_1_8, in_1_100, in_1_999, in_t_299, xb]) (by decide)
theorem ob_X11_hold_71_in (nb nn : Nat) (a : Int32) (b : Int32) (v : Int32) (M : xM) (hp0 : 0 ≤ M 40 0 7) (hp1 : M 40 0 7 ≤ 8) (M_1 : xM) (eM_1 : M_1 = xup M 40 0 0 0) (r_2 : Int32) (er_2 : r_2 = xb (f_X11_isBank a M_1)) (c_3 : ¬ r_2 = 0) (r_4 : Int32) (er_4 : r_4 = xb (f_X11_isBank b M_1)) (c_5 : ¬ r_4 = 0) (c_6 : ¬ a = b) (r_7 : Int32) (er_7 : r_7 = xb (f_X11_in (v.toInt64) 0 9999 M_1)) (c_8 : ¬ r_7 = 0) (x4_9 : Int32) (ex4_9 : x4_9 = (M_1 62 0 ((8 * a) + b).toNatClampNeg)) : vp_in ((8 * a) + b) 64 := by
  subst_vars
  exact xin (N := 64) (by grind [xup_at, isSheet_eq, isTown_eq, isWeek_eq, isTrader_eq, in_0s, isBank_eq, in_0_1, in_0_2, in_0_4, in_0_5, in_0_6, in_0_7, in_0_100, in_0_255, in_0_299, in_0_500, in_0_9999, in_0_99999, in_1_6, in_1_8, in_1_100, in_1_999, in_t_299, xb]) (by grind [xup_at, isSheet_eq, isTown_eq, isWeek_eq, isTrader_eq, in_0s, isBank_eq, in_0_1, in_0_2, in_0_4, in_0_5, in_0_6, in_0_7, in_0_100, in_0_255, in_0_299, in_0_500, in_0_9999, in_0_99999, in_1_6, in_1_8, in_1_100, in_1_999, in_t_299, xb]) (by decide)
theorem ob_X11_hold_57_in_2 (nb nn : Nat) (a : Int32) (b : Int32) (v : Int32) (M : xM) (hp0 : 0 ≤ M 40 0 7) (hp1 : M 40 0 7 ≤ 8) (M_1 : xM) (eM_1 : M_1 = xup M 40 0 0 0) (r_2 : Int32) (er_2 : r_2 = xb (f_X11_isBank a M_1)) (c_3 : ¬ r_2 = 0) (r_4 : Int32) (er_4 : r_4 = xb (f_X11_isBank b M_1)) (c_5 : ¬ r_4 = 0) (c_6 : a = b) (r_11 : Int32) (er_11 : r_11 = xb (f_X11_in (v.toInt64) 0 99999 M_1)) (c_12 : ¬ r_11 = 0) : vp_in ((8 * a) + b) 64 := by
  subst_vars
  exact xin (N := 64) (by grind [xup_at, isSheet_eq, isTown_eq, isWeek_eq, isTrader_eq, in_0s, isBank_eq, in_0_1, in_0_2, in_0_4, in_0_5, in_0_6, in_0_7, in_0_100, in_0_255, in_0_299, in_0_500, in_0_9999, in_0_99999, in_1_6, in_1_8, in_1_100, in_1_999, in_t_299, xb]) (by grind [xup_at, isSheet_eq, isTown_eq, isWeek_eq, isTrader_eq, in_0s, isBank_eq, in_0_1, in_0_2, in_0_4, in_0_5, in_0_6, in_0_7, in_0_100, in_0_255, in_0_299, in_0_500, in_0_9999, in_0_99999, in_1_6, in_1_8, in_1_100, in_1_999, in_t_299, xb]) (by decide)
theorem ob_X11_hold_71_in_2 (nb nn : Nat) (a : Int32) (b : Int32) (v : Int32) (M : xM) (hp0 : 0 ≤ M 40 0 7) (hp1 : M 40 0 7 ≤ 8) (M_1 : xM) (eM_1 : M_1 = xup M 40 0 0 0) (r_2 : Int32) (er_2 : r_2 = xb (f_X11_isBank a M_1)) (c_3 : ¬ r_2 = 0) (r_4 : Int32) (er_4 : r_4 = xb (f_X11_isBank b M_1)) (c_5 : ¬ r_4 = 0) (c_6 : a = b) (r_11 : Int32) (er_11 : r_11 = xb (f_X11_in (v.toInt64) 0 99999 M_1)) (c_12 : ¬ r_11 = 0) (x4_13 : Int32) (ex4_13 : x4_13 = (M_1 62 0 ((8 * a) + b).toNatClampNeg)) : vp_in ((8 * a) + b) 64 := by
  subst_vars
  exact xin (N := 64) (by grind [xup_at, isSheet_eq, isTown_eq, isWeek_eq, isTrader_eq, in_0s, isBank_eq, in_0_1, in_0_2, in_0_4, in_0_5, in_0_6, in_0_7, in_0_100, in_0_255, in_0_299, in_0_500, in_0_9999, in_0_99999, in_1_6, in_1_8, in_1_100, in_1_999, in_t_299, xb]) (by grind [xup_at, isSheet_eq, isTown_eq, isWeek_eq, isTrader_eq, in_0s, isBank_eq, in_0_1, in_0_2, in_0_4, in_0_5, in_0_6, in_0_7, in_0_100, in_0_255, in_0_299, in_0_500, in_0_9999, in_0_99999, in_1_6, in_1_8, in_1_100, in_1_999, in_t_299, xb]) (by decide)
theorem ob_X11_feed_82_x40 (nb nn : Nat) (w : Int64) (z : Int32) (M : xM) (hp0 : 0 ≤ M 40 0 21) (hp1 : M 40 0 21 ≤ 400) (n : Nat) (k : Int32) (N_ : xM) (hmu : xmu (-1) k < n + 1) (hinv : 0 ≤ N_ 40 0 21 ∧ N_ 40 0 21 ≤ 400 ∧ k ≤ 7 ∧ -1 ≤ k ∧ N_ 40 0 21 + k < 400) (c_1 : k < 0) : 0 ≤ N_ 40 0 21 ∧ N_ 40 0 21 ≤ 400 ∧ k ≤ 7 ∧ -1 ≤ k ∧ N_ 40 0 21 + k < 400 := by
  subst_vars
  grind [xup_at, isSheet_eq, isTown_eq, isWeek_eq, isTrader_eq, in_0s, isBank_eq, in_0_1, in_0_2, in_0_4, in_0_5, in_0_6, in_0_7, in_0_100, in_0_255, in_0_299, in_0_500, in_0_9999, in_0_99999, in_1_6, in_1_8, in_1_100, in_1_999, in_t_299, xb]
theorem ob_X11_feed_65_in (nb nn : Nat) (w : Int64) (z : Int32) (M : xM) (hp0 : 0 ≤ M 40 0 21) (hp1 : M 40 0 21 ≤ 400) (n : Nat) (k : Int32) (N_ : xM) (hmu : xmu (-1) k < n + 1) (hinv : 0 ≤ N_ 40 0 21 ∧ N_ 40 0 21 ≤ 400 ∧ k ≤ 7 ∧ -1 ≤ k ∧ N_ 40 0 21 + k < 400) (c_1 : ¬ k < 0) (v_2 : Int32) (ev_2 : v_2 = ((w >>> ((8 * k).toInt64 &&& 63)) &&& 255).toInt32) : vp_in (N_ 40 0 21) 400 := by
  subst_vars
  exact xin (N := 400) (by grind [xup_at, isSheet_eq, isTown_eq, isWeek_eq, isTrader_eq, in_0s, isBank_eq, in_0_1, in_0_2, in_0_4, in_0_5, in_0_6, in_0_7, in_0_100, in_0_255, in_0_299, in_0_500, in_0_9999, in_0_99999, in_1_6, in_1_8, in_1_100, in_1_999, in_t_299, xb]) (by grind [xup_at, isSheet_eq, isTown_eq, isWeek_eq, isTrader_eq, in_0s, isBank_eq, in_0_1, in_0_2, in_0_4, in_0_5, in_0_6, in_0_7, in_0_100, in_0_255, in_0_299, in_0_500, in_0_9999, in_0_99999, in_1_6, in_1_8, in_1_100, in_1_999, in_t_299, xb]) (by decide)
theorem ob_X11_feed_40_mu_6 (nb nn : Nat) (w : Int64) (z : Int32) (M : xM) (hp0 : 0 ≤ M 40 0 21) (hp1 : M 40 0 21 ≤ 400) (n : Nat) (k : Int32) (N_ : xM) (hmu : xmu (-1) k < n + 1) (hinv : 0 ≤ N_ 40 0 21 ∧ N_ 40 0 21 ≤ 400 ∧ k ≤ 7 ∧ -1 ≤ k ∧ N_ 40 0 21 + k < 400) (c_1 : ¬ k < 0) (v_2 : Int32) (ev_2 : v_2 = ((w >>> ((8 * k).toInt64 &&& 63)) &&& 255).toInt32) (M_3 : xM) (eM_3 : M_3 = xup N_ 70 0 (N_ 40 0 21).toNatClampNeg v_2) (v_4 : Int32) (ev_4 : v_4 = ((M_3 40 0 21) + 1)) (M_5 : xM) (eM_5 : M_5 = xup M_3 40 0 21 v_4) (x4_6 : Int32) (ex4_6 : x4_6 = k + (-1)) : xmu (-1) x4_6 < n := by
  subst_vars
  have h9 := xmu_dn (a := k) (b := (-1)) (by grind)
  (try simp [xup_at])
  omega
theorem ob_X11_feed_40_inv_6 (nb nn : Nat) (w : Int64) (z : Int32) (M : xM) (hp0 : 0 ≤ M 40 0 21) (hp1 : M 40 0 21 ≤ 400) (n : Nat) (k : Int32) (N_ : xM) (hmu : xmu (-1) k < n + 1) (hinv : 0 ≤ N_ 40 0 21 ∧ N_ 40 0 21 ≤ 400 ∧ k ≤ 7 ∧ -1 ≤ k ∧ N_ 40 0 21 + k < 400) (c_1 : ¬ k < 0) (v_2 : Int32) (ev_2 : v_2 = ((w >>> ((8 * k).toInt64 &&& 63)) &&& 255).toInt32) (M_3 : xM) (eM_3 : M_3 = xup N_ 70 0 (N_ 40 0 21).toNatClampNeg v_2) (v_4 : Int32) (ev_4 : v_4 = ((M_3 40 0 21) + 1)) (M_5 : xM) (eM_5 : M_5 = xup M_3 40 0 21 v_4) (x4_6 : Int32) (ex4_6 : x4_6 = k + (-1)) : 0 ≤ M_5 40 0 21 ∧ M_5 40 0 21 ≤ 400 ∧ x4_6 ≤ 7 ∧ -1 ≤ x4_6 ∧ M_5 40 0 21 + x4_6 < 400 := by
  subst_vars
  grind [xup_at, isSheet_eq, isTown_eq, isWeek_eq, isTrader_eq, in_0s, isBank_eq, in_0_1, in_0_2, in_0_4, in_0_5, in_0_6, in_0_7, in_0_100, in_0_255, in_0_299, in_0_500, in_0_9999, in_0_99999, in_1_6, in_1_8, in_1_100, in_1_999, in_t_299, xb]
theorem ob_X11_feed_40_ini_11 (nb nn : Nat) (w : Int64) (z : Int32) (M : xM) (hp0 : 0 ≤ M 40 0 21) (hp1 : M 40 0 21 ≤ 400) (M_7 : xM) (eM_7 : M_7 = xup M 40 0 0 0) (r_8 : Int32) (er_8 : r_8 = xb (f_X11_in (z.toInt64) 1 8 M_7)) (c_9 : ¬ r_8 = 0) (c_10 : ((M_7 40 0 21) + z) ≤ 400) (x4_11 : Int32) (ex4_11 : x4_11 = (z - 1)) : 0 ≤ M_7 40 0 21 ∧ M_7 40 0 21 ≤ 400 ∧ x4_11 ≤ 7 ∧ -1 ≤ x4_11 ∧ M_7 40 0 21 + x4_11 < 400 := by
  subst_vars
  grind [xup_at, isSheet_eq, isTown_eq, isWeek_eq, isTrader_eq, in_0s, isBank_eq, in_0_1, in_0_2, in_0_4, in_0_5, in_0_6, in_0_7, in_0_100, in_0_255, in_0_299, in_0_500, in_0_9999, in_0_99999, in_1_6, in_1_8, in_1_100, in_1_999, in_t_299, xb]
set_option maxHeartbeats 4000000 in
set_option maxRecDepth 100000 in
theorem c_X11_sheet (l : Launch) (nb nn : Nat) (g : xG) (L : List (Nat × Nat)) (M : xM) (hD : xD g L) (hL : xEL nb nn L) (sh : Int32) (ln : Int32) (z : Int32)  : xCi l yX11_sheet cX11_sheet 5 (some .int) 2 g L M [.ref (xad g 40 0), .int sh, .int ln, .int z] (fun r u => (r, u) = f_X11_sheet sh ln z M) := by
  intro sz
  refine x_beg (by decide +kernel) rfl ?_
  intro p e s m args below meth c ls hsz hB
  subst hsz
  obtain ⟨hx, hb, hml, hown, hts, hr, hlk, hK, hAm, hP, hl⟩ := hB
  have S : CallFix p m c cX11_sheet 5 s args (xws yX11_sheet cX11_sheet 5 (some .int)) RX11 := ⟨hx, hb, hml, hown, hts⟩
  have hown : s.vm.findClass RX11 = some m.cls := hown
  have hl : lv_has ls 5 [(0, .ref (xad g 40 0)), (1, .int sh), (2, .int ln), (3, .int z)] := hl
  have hS : va_S (xA g L s.heap.size) s.heap s.heap [] := va_S.rf
  obtain ⟨F, hF⟩ : ∃ F, F = f_X11_sheet sh ln z M := ⟨_, rfl⟩
  have k_65 : ∀ (n : Nat) (k : Int32) (N_ : xM) (H : Heap) (locs : List Loc) (ls : Array Slot) (kx : (Int32 → xM → Int32 × xM)), xmu k 60 < n → 0 ≤ k ∧ 0 ≤ sh ∧ sh ≤ 7 → F = f_X11_sheet_L65 sh ln z n k N_ kx → xP g L N_ H → va_S (xA g L s.heap.size) s.heap H locs → lv_has ls 5 [(0, .ref (xad g 40 0)), (1, .int sh), (2, .int ln), (3, .int z), (4, .int k)] → (∀ (k : Int32) (N_ : xM) (H : Heap) (locs : List Loc) (ls : Array Slot), 0 ≤ k ∧ 0 ≤ sh ∧ sh ≤ 7 → F = kx k N_ → xP g L N_ H → va_S (xA g L s.heap.size) s.heap H locs → lv_has ls 5 [(0, .ref (xad g 40 0)), (1, .int sh), (2, .int ln), (3, .int z), (4, .int k)] → W p l e (xr 2) s m args below meth c H locs 0 0 (MQ below (va_Qi (fun r u => (r, u) = f_X11_sheet sh ln z M) (xPost g L) (xA g L s.heap.size)) args s 0 0 (xA g L s.heap.size)) (F0 m 91 ls [])) → W p l e (xr 2) s m args below meth c H locs 0 0 (MQ below (va_Qi (fun r u => (r, u) = f_X11_sheet sh ln z M) (xPost g L) (xA g L s.heap.size)) args s 0 0 (xA g L s.heap.size)) (F0 m 65 ls []) := by
    intro n
    induction n with
    | zero => intro k N_ H locs ls kx hmu; exact absurd hmu (Nat.not_lt_zero _)
    | succ n ih =>
      intro k N_ H locs ls kx hmu hinv hres hP hS hl hex
      replace hres : F = _ := hres.trans (by rw [f_X11_sheet_L65])
      refine lv_iload hx hb dX11_sheet_65 (lv_at hl 4 rfl) ?_
      refine lv_bipush (v := 60) hx hb dX11_sheet_67 (by decide) ?_
      refine lv_icmp_ge (tgt := 91) hx hb dX11_sheet_69 (by decide) (fun c_1 => ?_) (fun c_1 => ?_)
      · replace hres := hres.trans (if_pos c_1)
        exact hex k N_ _ _ _ (ob_X11_sheet_91_x65 nb nn sh ln z M n k N_ hmu hinv c_1) hres hP hS (lv_sub hl [0, 1, 2, 3, 4] rfl)
      · replace hres := hres.trans (if_neg c_1)
        refine lv_aload_n hx hb dX11_sheet_72 rfl (lv_at hl 0 rfl) ?_
        refine gf_RX11_16 hx hb hts hown hK hP (hL 40 0 (xe_40 nb nn)) dX11_sheet_73 ?_
        refine lv_bipush (v := 60) hx hb dX11_sheet_76 (by decide) ?_
        refine lv_iload_n hx hb dX11_sheet_78 rfl (lv_at hl 1 rfl) ?_
        refine lv_imul hx hb dX11_sheet_79 ?_
        refine lv_iload hx hb dX11_sheet_80 (lv_at hl 4 rfl) ?_
        refine lv_iadd hx hb dX11_sheet_82 ?_
        refine lv_iconst (v := 0) hx hb dX11_sheet_83 (by decide) ?_
        refine x_iast hx hb hK hP hD hS (hL 54 0 (xe_54 nb nn)) (xc54 g 0) (ob_X11_sheet_84_in nb nn sh ln z M n k N_ hmu hinv c_1) dX11_sheet_84 (fun H locs hP hS => ?_)
        obtain ⟨M_2, eM_2⟩ : ∃ z_ : xM, z_ = xup N_ 54 0 ((60 * sh) + k).toNatClampNeg 0 := ⟨_, rfl⟩
        rw [← eM_2] at hP
        replace hres := xlet_n hres eM_2
        obtain ⟨x4_3, ex4_3⟩ : ∃ z_ : Int32, z_ = k + 1 := ⟨_, rfl⟩
        replace hres := xlet_n hres ex4_3
        refine lv_iinc (v := x4_3) (lv' := [(4, .int x4_3), (0, .ref (xad g 40 0)), (1, .int sh), (2, .int ln), (3, .int z)]) hx hb dX11_sheet_85 hl (k := 4) rfl (by rw [ex4_3]; rfl) (by decide) rfl (fun ls hl => ?_)
        refine lv_goto (tgt := 65) hx hb dX11_sheet_88 (by decide) ?_
        exact ih x4_3 M_2 _ _ _ kx (ob_X11_sheet_65_mu_3 nb nn sh ln z M n k N_ hmu hinv c_1 M_2 eM_2 x4_3 ex4_3) (ob_X11_sheet_65_inv_3 nb nn sh ln z M n k N_ hmu hinv c_1 M_2 eM_2 x4_3 ex4_3) hres hP hS (lv_sub hl [1, 2, 3, 4, 0] rfl) hex
  have hres := hF
  rw [f_X11_sheet] at hres
  refine lv_aload_n hx hb dX11_sheet_0 rfl (lv_at hl 0 rfl) ?_
  refine lv_iconst (v := 0) hx hb dX11_sheet_1 (by decide) ?_
  refine pf_RX11_113 hx hb hts hown hK hP hD hS (hL 40 0 (xe_40 nb nn)) dX11_sheet_2 (fun H locs hP hS => ?_)
  obtain ⟨M_4, eM_4⟩ : ∃ z_ : xM, z_ = xup M 40 0 0 0 := ⟨_, rfl⟩
  rw [← eM_4] at hP
  replace hres := xlet_n hres eM_4
  refine lv_iload_n hx hb dX11_sheet_5 rfl (lv_at hl 1 rfl) ?_
  refine x_callSi (As := [.int sh]) S hK hAm hD hP hS mt_X11_isSheet wd_204 ⟨by decide, by decide⟩ (c_X11_isSheet l nb nn g L M_4 hD hL sh) rfl hl.1 (Nat.le_of_ble_eq_true rfl) ⟨Nat.zero_le _, Nat.zero_le _⟩ dX11_sheet_6 rfl (fun r_5 u H locs hp_ hP hS => ?_)
  obtain ⟨er_5, eu_⟩ := hp_
  rw [eu_] at hP
  clear eu_
  replace hres := xlet_n hres er_5
  refine lv_if_eq (tgt := 30) hx hb dX11_sheet_9 (by decide) (fun c_6 => ?_) (fun c_6 => ?_)
  · replace hres := hres.trans (if_pos c_6)
    refine lv_ldc (own := RX11) (v := (-1000001)) hx hb hown (hts _ (List.mem_cons_of_mem _ wd_202)) dX11_sheet_30 ?_
    exact x_reti hx hb hr hlk hP hS (hres.symm.trans hF) dX11_sheet_32
  · replace hres := hres.trans (if_neg c_6)
    refine lv_iload_n hx hb dX11_sheet_12 rfl (lv_at hl 2 rfl) ?_
    refine lv_i2l (v := ln.toInt64) hx hb dX11_sheet_13 rfl ?_
    refine lv_lconst (v := 0) hx hb dX11_sheet_14 (by decide) ?_
    refine lv_ldc2 (own := RX11) (v := 2) hx hb hown (hts _ (List.mem_cons_of_mem _ wd_201)) dX11_sheet_15 ?_
    refine x_callSi (As := [.long (ln.toInt64), .long 0, .long 2]) S hK hAm hD hP hS mt_X11_in wd_208 ⟨by decide, by decide⟩ (c_X11_in l nb nn g L M_4 hD hL (ln.toInt64) 0 2) rfl hl.1 (Nat.le_of_ble_eq_true rfl) ⟨Nat.zero_le _, Nat.zero_le _⟩ dX11_sheet_18 rfl (fun r_7 u H locs hp_ hP hS => ?_)
    obtain ⟨er_7, eu_⟩ := hp_
    rw [eu_] at hP
    clear eu_
    replace hres := xlet_n hres er_7
    refine lv_if_eq (tgt := 30) hx hb dX11_sheet_21 (by decide) (fun c_8 => ?_) (fun c_8 => ?_)
    · replace hres := hres.trans (if_pos c_8)
      refine lv_ldc (own := RX11) (v := (-1000001)) hx hb hown (hts _ (List.mem_cons_of_mem _ wd_202)) dX11_sheet_30 ?_
      exact x_reti hx hb hr hlk hP hS (hres.symm.trans hF) dX11_sheet_32
    · replace hres := hres.trans (if_neg c_8)
      refine lv_iload_n hx hb dX11_sheet_24 rfl (lv_at hl 3 rfl) ?_
      refine lv_bipush (v := 60) hx hb dX11_sheet_25 (by decide) ?_
      refine lv_icmp_le (tgt := 33) hx hb dX11_sheet_27 (by decide) (fun c_9 => ?_) (fun c_9 => ?_)
      · replace hres := hres.trans (if_pos c_9)
        refine lv_aload_n hx hb dX11_sheet_33 rfl (lv_at hl 0 rfl) ?_
        refine lv_iconst (v := 0) hx hb dX11_sheet_34 (by decide) ?_
        refine pf_RX11_117 hx hb hts hown hK hP hD hS (hL 40 0 (xe_40 nb nn)) dX11_sheet_35 (fun H locs hP hS => ?_)
        obtain ⟨M_10, eM_10⟩ : ∃ z_ : xM, z_ = xup M_4 40 0 1 0 := ⟨_, rfl⟩
        rw [← eM_10] at hP
        replace hres := xlet_n hres eM_10
        refine lv_iload_n hx hb dX11_sheet_38 rfl (lv_at hl 3 rfl) ?_
        refine lv_if_ge (tgt := 48) hx hb dX11_sheet_39 (by decide) (fun c_11 => ?_) (fun c_11 => ?_)
        · replace hres := hres.trans (if_pos c_11)
          refine lv_aload_n hx hb dX11_sheet_48 rfl (lv_at hl 0 rfl) ?_
          refine gf_RX11_7 hx hb hts hown hK hP (hL 40 0 (xe_40 nb nn)) dX11_sheet_49 ?_
          refine lv_iload_n hx hb dX11_sheet_52 rfl (lv_at hl 1 rfl) ?_
          refine lv_iload_n hx hb dX11_sheet_53 rfl (lv_at hl 2 rfl) ?_
          refine x_iast hx hb hK hP hD hS (hL 52 0 (xe_52 nb nn)) (xc52 g 0) (ob_X11_sheet_54_in nb nn sh ln z M M_4 eM_4 r_5 er_5 c_6 r_7 er_7 c_8 c_9 M_10 eM_10 c_11) dX11_sheet_54 (fun H locs hP hS => ?_)
          obtain ⟨M_12, eM_12⟩ : ∃ z_ : xM, z_ = xup M_10 52 0 sh.toNatClampNeg ln := ⟨_, rfl⟩
          rw [← eM_12] at hP
          replace hres := xlet_n hres eM_12
          refine lv_aload_n hx hb dX11_sheet_55 rfl (lv_at hl 0 rfl) ?_
          refine gf_RX11_13 hx hb hts hown hK hP (hL 40 0 (xe_40 nb nn)) dX11_sheet_56 ?_
          refine lv_iload_n hx hb dX11_sheet_59 rfl (lv_at hl 1 rfl) ?_
          refine lv_iload_n hx hb dX11_sheet_60 rfl (lv_at hl 3 rfl) ?_
          refine x_iast hx hb hK hP hD hS (hL 53 0 (xe_53 nb nn)) (xc53 g 0) (ob_X11_sheet_61_in nb nn sh ln z M M_4 eM_4 r_5 er_5 c_6 r_7 er_7 c_8 c_9 M_10 eM_10 c_11 M_12 eM_12) dX11_sheet_61 (fun H locs hP hS => ?_)
          obtain ⟨M_13, eM_13⟩ : ∃ z_ : xM, z_ = xup M_12 53 0 sh.toNatClampNeg z := ⟨_, rfl⟩
          rw [← eM_13] at hP
          replace hres := xlet_n hres eM_13
          refine lv_iconst (v := 0) hx hb dX11_sheet_62 (by decide) ?_
          refine lv_istore (lv' := [(4, .int 0), (0, .ref (xad g 40 0)), (1, .int sh), (2, .int ln), (3, .int z)]) hx hb dX11_sheet_63 hl (by decide) rfl (fun ls hl => ?_)
          refine k_65 (xmu (0 : Int32) 60 + 1) (0 : Int32) M_13 _ _ _ _ (Nat.lt_succ_self _) (ob_X11_sheet_65_ini_13 nb nn sh ln z M M_4 eM_4 r_5 er_5 c_6 r_7 er_7 c_8 c_9 M_10 eM_10 c_11 M_12 eM_12 M_13 eM_13) hres hP hS (lv_sub hl [1, 2, 3, 4, 0] rfl) ?_
          clear hres hP hS hl
          intro k_14 M_15 H locs ls hiv_15 hres hP hS hl
          refine lv_iload_n hx hb dX11_sheet_91 rfl (lv_at hl 3 rfl) ?_
          exact x_reti hx hb hr hlk hP hS (hres.symm.trans hF) dX11_sheet_92
        · replace hres := hres.trans (if_neg c_11)
          refine lv_aload_n hx hb dX11_sheet_42 rfl (lv_at hl 0 rfl) ?_
          refine lv_iconst (v := 4) hx hb dX11_sheet_43 (by decide) ?_
          refine x_callVi (As := [.int 4]) S hK hAm hD hP hS mt_X11_finding wd_211 ⟨by decide, by decide⟩ (hL 40 0 (xe_40 nb nn)) (xc40 g 0) rfl (c_X11_finding l nb nn g L M_10 hD hL 4) rfl hl.1 (Nat.le_of_ble_eq_true rfl) ⟨Nat.zero_le _, Nat.zero_le _⟩ dX11_sheet_44 rfl (fun r_16 M_17 H locs ep_ hP hS => ?_)
          replace hres := xlet2_n hres ep_
          have er_16 : r_16 = (f_X11_finding 4 M_10).1 := congrArg Prod.fst ep_
          have eM_17 : M_17 = (f_X11_finding 4 M_10).2 := congrArg Prod.snd ep_
          clear ep_
          exact x_reti hx hb hr hlk hP hS (hres.symm.trans hF) dX11_sheet_47
      · replace hres := hres.trans (if_neg c_9)
        refine lv_ldc (own := RX11) (v := (-1000001)) hx hb hown (hts _ (List.mem_cons_of_mem _ wd_202)) dX11_sheet_30 ?_
        exact x_reti hx hb hr hlk hP hS (hres.symm.trans hF) dX11_sheet_32
set_option maxHeartbeats 4000000 in
set_option maxRecDepth 100000 in
theorem c_X11_set (l : Launch) (nb nn : Nat) (g : xG) (L : List (Nat × Nat)) (M : xM) (hD : xD g L) (hL : xEL nb nn L) (sh : Int32) (i : Int32) (v : Int32) (hp0 : ∀ j : Nat, 0 ≤ M 53 0 j ∧ M 53 0 j ≤ 60) : xCi l yX11_set cX11_set 4 (some .int) 2 g L M [.ref (xad g 40 0), .int sh, .int i, .int v] (fun r u => (r, u) = f_X11_set sh i v M) := by
  intro sz
  refine x_beg (by decide +kernel) rfl ?_
  intro p e s m args below meth c ls hsz hB
  subst hsz
  obtain ⟨hx, hb, hml, hown, hts, hr, hlk, hK, hAm, hP, hl⟩ := hB
  have S : CallFix p m c cX11_set 4 s args (xws yX11_set cX11_set 4 (some .int)) RX11 := ⟨hx, hb, hml, hown, hts⟩
  have hown : s.vm.findClass RX11 = some m.cls := hown
  have hl : lv_has ls 4 [(0, .ref (xad g 40 0)), (1, .int sh), (2, .int i), (3, .int v)] := hl
  have hS : va_S (xA g L s.heap.size) s.heap s.heap [] := va_S.rf
  obtain ⟨F, hF⟩ : ∃ F, F = f_X11_set sh i v M := ⟨_, rfl⟩
  have hres := hF
  rw [f_X11_set] at hres
  refine lv_aload_n hx hb dX11_set_0 rfl (lv_at hl 0 rfl) ?_
  refine lv_iconst (v := 0) hx hb dX11_set_1 (by decide) ?_
  refine pf_RX11_113 hx hb hts hown hK hP hD hS (hL 40 0 (xe_40 nb nn)) dX11_set_2 (fun H locs hP hS => ?_)
  obtain ⟨M_1, eM_1⟩ : ∃ z_ : xM, z_ = xup M 40 0 0 0 := ⟨_, rfl⟩
  rw [← eM_1] at hP
  replace hres := xlet_n hres eM_1
  refine lv_iload_n hx hb dX11_set_5 rfl (lv_at hl 1 rfl) ?_
  refine x_callSi (As := [.int sh]) S hK hAm hD hP hS mt_X11_isSheet wd_204 ⟨by decide, by decide⟩ (c_X11_isSheet l nb nn g L M_1 hD hL sh) rfl hl.1 (Nat.le_of_ble_eq_true rfl) ⟨Nat.zero_le _, Nat.zero_le _⟩ dX11_set_6 rfl (fun r_2 u H locs hp_ hP hS => ?_)
  obtain ⟨er_2, eu_⟩ := hp_
  rw [eu_] at hP
  clear eu_
  replace hres := xlet_n hres er_2
  refine lv_if_ne (tgt := 15) hx hb dX11_set_9 (by decide) (fun c_3 => ?_) (fun c_3 => ?_)
  · replace hres := hres.trans (if_neg c_3)
    refine lv_aload_n hx hb dX11_set_15 rfl (lv_at hl 0 rfl) ?_
    refine lv_iconst (v := 0) hx hb dX11_set_16 (by decide) ?_
    refine pf_RX11_117 hx hb hts hown hK hP hD hS (hL 40 0 (xe_40 nb nn)) dX11_set_17 (fun H locs hP hS => ?_)
    obtain ⟨M_4, eM_4⟩ : ∃ z_ : xM, z_ = xup M_1 40 0 1 0 := ⟨_, rfl⟩
    rw [← eM_4] at hP
    replace hres := xlet_n hres eM_4
    refine lv_aload_n hx hb dX11_set_20 rfl (lv_at hl 0 rfl) ?_
    refine gf_RX11_7 hx hb hts hown hK hP (hL 40 0 (xe_40 nb nn)) dX11_set_21 ?_
    refine lv_iload_n hx hb dX11_set_24 rfl (lv_at hl 1 rfl) ?_
    refine x_iald hx hb hK hP (hL 52 0 (xe_52 nb nn)) (xc52 g 0) (ob_X11_set_25_in nb nn sh i v M hp0 M_1 eM_1 r_2 er_2 c_3 M_4 eM_4) dX11_set_25 ?_
    refine lv_if_ge (tgt := 35) hx hb dX11_set_26 (by decide) (fun c_5 => ?_) (fun c_5 => ?_)
    · replace hres := hres.trans (if_pos c_5)
      refine lv_iload_n hx hb dX11_set_35 rfl (lv_at hl 2 rfl) ?_
      refine lv_i2l (v := i.toInt64) hx hb dX11_set_36 rfl ?_
      refine lv_lconst (v := 0) hx hb dX11_set_37 (by decide) ?_
      refine lv_aload_n hx hb dX11_set_38 rfl (lv_at hl 0 rfl) ?_
      refine gf_RX11_13 hx hb hts hown hK hP (hL 40 0 (xe_40 nb nn)) dX11_set_39 ?_
      refine lv_iload_n hx hb dX11_set_42 rfl (lv_at hl 1 rfl) ?_
      refine x_iald hx hb hK hP (hL 53 0 (xe_53 nb nn)) (xc53 g 0) (ob_X11_set_43_in nb nn sh i v M hp0 M_1 eM_1 r_2 er_2 c_3 M_4 eM_4 c_5) dX11_set_43 ?_
      refine lv_iconst (v := 1) hx hb dX11_set_44 (by decide) ?_
      refine lv_isub hx hb dX11_set_45 ?_
      refine lv_i2l (v := ((M_4 53 0 sh.toNatClampNeg) - 1).toInt64) hx hb dX11_set_46 rfl ?_
      refine x_callSi (As := [.long (i.toInt64), .long 0, .long (((M_4 53 0 sh.toNatClampNeg) - 1).toInt64)]) S hK hAm hD hP hS mt_X11_in wd_208 ⟨by decide, by decide⟩ (c_X11_in l nb nn g L M_4 hD hL (i.toInt64) 0 (((M_4 53 0 sh.toNatClampNeg) - 1).toInt64)) rfl hl.1 (Nat.le_of_ble_eq_true rfl) ⟨Nat.zero_le _, Nat.zero_le _⟩ dX11_set_47 rfl (fun r_6 u H locs hp_ hP hS => ?_)
      obtain ⟨er_6, eu_⟩ := hp_
      rw [eu_] at hP
      clear eu_
      replace hres := xlet_n hres er_6
      refine lv_if_ne (tgt := 59) hx hb dX11_set_50 (by decide) (fun c_7 => ?_) (fun c_7 => ?_)
      · replace hres := hres.trans (if_neg c_7)
        refine lv_aload_n hx hb dX11_set_59 rfl (lv_at hl 0 rfl) ?_
        refine gf_RX11_16 hx hb hts hown hK hP (hL 40 0 (xe_40 nb nn)) dX11_set_60 ?_
        refine lv_bipush (v := 60) hx hb dX11_set_63 (by decide) ?_
        refine lv_iload_n hx hb dX11_set_65 rfl (lv_at hl 1 rfl) ?_
        refine lv_imul hx hb dX11_set_66 ?_
        refine lv_iload_n hx hb dX11_set_67 rfl (lv_at hl 2 rfl) ?_
        refine lv_iadd hx hb dX11_set_68 ?_
        refine lv_aload_n hx hb dX11_set_69 rfl (lv_at hl 0 rfl) ?_
        refine gf_RX11_7 hx hb hts hown hK hP (hL 40 0 (xe_40 nb nn)) dX11_set_70 ?_
        refine lv_iload_n hx hb dX11_set_73 rfl (lv_at hl 1 rfl) ?_
        refine x_iald hx hb hK hP (hL 52 0 (xe_52 nb nn)) (xc52 g 0) (ob_X11_set_74_in nb nn sh i v M hp0 M_1 eM_1 r_2 er_2 c_3 M_4 eM_4 c_5 r_6 er_6 c_7) dX11_set_74 ?_
        refine lv_if_ne (tgt := 83) hx hb dX11_set_75 (by decide) (fun c_8 => ?_) (fun c_8 => ?_)
        · replace hres := hres.trans (if_neg c_8)
          refine lv_aload_n hx hb dX11_set_83 rfl (lv_at hl 0 rfl) ?_
          refine gf_RX11_7 hx hb hts hown hK hP (hL 40 0 (xe_40 nb nn)) dX11_set_84 ?_
          refine lv_iload_n hx hb dX11_set_87 rfl (lv_at hl 1 rfl) ?_
          refine x_iald hx hb hK hP (hL 52 0 (xe_52 nb nn)) (xc52 g 0) (ob_X11_set_88_in nb nn sh i v M hp0 M_1 eM_1 r_2 er_2 c_3 M_4 eM_4 c_5 r_6 er_6 c_7 c_8) dX11_set_88 ?_
          refine lv_iconst (v := 1) hx hb dX11_set_89 (by decide) ?_
          refine lv_icmp_ne (tgt := 98) hx hb dX11_set_90 (by decide) (fun c_9 => ?_) (fun c_9 => ?_)
          · replace hres := hres.trans (if_neg c_9)
            refine lv_iload_n hx hb dX11_set_98 rfl (lv_at hl 3 rfl) ?_
            refine x_iast hx hb hK hP hD hS (hL 54 0 (xe_54 nb nn)) (xc54 g 0) (ob_X11_set_99_in nb nn sh i v M hp0 M_1 eM_1 r_2 er_2 c_3 M_4 eM_4 c_5 r_6 er_6 c_7 c_8 c_9) dX11_set_99 (fun H locs hP hS => ?_)
            obtain ⟨M_10, eM_10⟩ : ∃ z_ : xM, z_ = xup M_4 54 0 ((60 * sh) + i).toNatClampNeg v := ⟨_, rfl⟩
            rw [← eM_10] at hP
            replace hres := xlet_n hres eM_10
            refine lv_aload_n hx hb dX11_set_100 rfl (lv_at hl 0 rfl) ?_
            refine gf_RX11_16 hx hb hts hown hK hP (hL 40 0 (xe_40 nb nn)) dX11_set_101 ?_
            refine lv_bipush (v := 60) hx hb dX11_set_104 (by decide) ?_
            refine lv_iload_n hx hb dX11_set_106 rfl (lv_at hl 1 rfl) ?_
            refine lv_imul hx hb dX11_set_107 ?_
            refine lv_iload_n hx hb dX11_set_108 rfl (lv_at hl 2 rfl) ?_
            refine lv_iadd hx hb dX11_set_109 ?_
            refine x_iald hx hb hK hP (hL 54 0 (xe_54 nb nn)) (xc54 g 0) (ob_X11_set_110_in nb nn sh i v M hp0 M_1 eM_1 r_2 er_2 c_3 M_4 eM_4 c_5 r_6 er_6 c_7 c_8 c_9 M_10 eM_10) dX11_set_110 ?_
            exact x_reti hx hb hr hlk hP hS (hres.symm.trans hF) dX11_set_111
          · replace hres := hres.trans (if_pos c_9)
            refine lv_iload_n hx hb dX11_set_93 rfl (lv_at hl 3 rfl) ?_
            refine lv_i2s (v := v.toInt16.toInt32) hx hb dX11_set_94 rfl ?_
            refine lv_goto (tgt := 99) hx hb dX11_set_95 (by decide) ?_
            refine lv_topi (fun v_11 ev_11 => ?_)
            replace hres := xlet_n hres ev_11
            refine x_iast hx hb hK hP hD hS (hL 54 0 (xe_54 nb nn)) (xc54 g 0) (ob_X11_set_99_in_2 nb nn sh i v M hp0 M_1 eM_1 r_2 er_2 c_3 M_4 eM_4 c_5 r_6 er_6 c_7 c_8 c_9 v_11 ev_11) dX11_set_99 (fun H locs hP hS => ?_)
            obtain ⟨M_12, eM_12⟩ : ∃ z_ : xM, z_ = xup M_4 54 0 ((60 * sh) + i).toNatClampNeg v_11 := ⟨_, rfl⟩
            rw [← eM_12] at hP
            replace hres := xlet_n hres eM_12
            refine lv_aload_n hx hb dX11_set_100 rfl (lv_at hl 0 rfl) ?_
            refine gf_RX11_16 hx hb hts hown hK hP (hL 40 0 (xe_40 nb nn)) dX11_set_101 ?_
            refine lv_bipush (v := 60) hx hb dX11_set_104 (by decide) ?_
            refine lv_iload_n hx hb dX11_set_106 rfl (lv_at hl 1 rfl) ?_
            refine lv_imul hx hb dX11_set_107 ?_
            refine lv_iload_n hx hb dX11_set_108 rfl (lv_at hl 2 rfl) ?_
            refine lv_iadd hx hb dX11_set_109 ?_
            refine x_iald hx hb hK hP (hL 54 0 (xe_54 nb nn)) (xc54 g 0) (ob_X11_set_110_in_2 nb nn sh i v M hp0 M_1 eM_1 r_2 er_2 c_3 M_4 eM_4 c_5 r_6 er_6 c_7 c_8 c_9 v_11 ev_11 M_12 eM_12) dX11_set_110 ?_
            exact x_reti hx hb hr hlk hP hS (hres.symm.trans hF) dX11_set_111
        · replace hres := hres.trans (if_pos c_8)
          refine lv_iload_n hx hb dX11_set_78 rfl (lv_at hl 3 rfl) ?_
          refine lv_i2b (v := v.toInt8.toInt32) hx hb dX11_set_79 rfl ?_
          refine lv_goto (tgt := 99) hx hb dX11_set_80 (by decide) ?_
          refine lv_topi (fun v_13 ev_13 => ?_)
          replace hres := xlet_n hres ev_13
          refine x_iast hx hb hK hP hD hS (hL 54 0 (xe_54 nb nn)) (xc54 g 0) (ob_X11_set_99_in_3 nb nn sh i v M hp0 M_1 eM_1 r_2 er_2 c_3 M_4 eM_4 c_5 r_6 er_6 c_7 c_8 v_13 ev_13) dX11_set_99 (fun H locs hP hS => ?_)
          obtain ⟨M_14, eM_14⟩ : ∃ z_ : xM, z_ = xup M_4 54 0 ((60 * sh) + i).toNatClampNeg v_13 := ⟨_, rfl⟩
          rw [← eM_14] at hP
          replace hres := xlet_n hres eM_14
          refine lv_aload_n hx hb dX11_set_100 rfl (lv_at hl 0 rfl) ?_
          refine gf_RX11_16 hx hb hts hown hK hP (hL 40 0 (xe_40 nb nn)) dX11_set_101 ?_
          refine lv_bipush (v := 60) hx hb dX11_set_104 (by decide) ?_
          refine lv_iload_n hx hb dX11_set_106 rfl (lv_at hl 1 rfl) ?_
          refine lv_imul hx hb dX11_set_107 ?_
          refine lv_iload_n hx hb dX11_set_108 rfl (lv_at hl 2 rfl) ?_
          refine lv_iadd hx hb dX11_set_109 ?_
          refine x_iald hx hb hK hP (hL 54 0 (xe_54 nb nn)) (xc54 g 0) (ob_X11_set_110_in_3 nb nn sh i v M hp0 M_1 eM_1 r_2 er_2 c_3 M_4 eM_4 c_5 r_6 er_6 c_7 c_8 v_13 ev_13 M_14 eM_14) dX11_set_110 ?_
          exact x_reti hx hb hr hlk hP hS (hres.symm.trans hF) dX11_set_111
      · replace hres := hres.trans (if_pos c_7)
        refine lv_aload_n hx hb dX11_set_53 rfl (lv_at hl 0 rfl) ?_
        refine lv_iconst (v := 2) hx hb dX11_set_54 (by decide) ?_
        refine x_callVi (As := [.int 2]) S hK hAm hD hP hS mt_X11_finding wd_211 ⟨by decide, by decide⟩ (hL 40 0 (xe_40 nb nn)) (xc40 g 0) rfl (c_X11_finding l nb nn g L M_4 hD hL 2) rfl hl.1 (Nat.le_of_ble_eq_true rfl) ⟨Nat.zero_le _, Nat.zero_le _⟩ dX11_set_55 rfl (fun r_15 M_16 H locs ep_ hP hS => ?_)
        replace hres := xlet2_n hres ep_
        have er_15 : r_15 = (f_X11_finding 2 M_4).1 := congrArg Prod.fst ep_
        have eM_16 : M_16 = (f_X11_finding 2 M_4).2 := congrArg Prod.snd ep_
        clear ep_
        exact x_reti hx hb hr hlk hP hS (hres.symm.trans hF) dX11_set_58
    · replace hres := hres.trans (if_neg c_5)
      refine lv_aload_n hx hb dX11_set_29 rfl (lv_at hl 0 rfl) ?_
      refine lv_iconst (v := 1) hx hb dX11_set_30 (by decide) ?_
      refine x_callVi (As := [.int 1]) S hK hAm hD hP hS mt_X11_finding wd_211 ⟨by decide, by decide⟩ (hL 40 0 (xe_40 nb nn)) (xc40 g 0) rfl (c_X11_finding l nb nn g L M_4 hD hL 1) rfl hl.1 (Nat.le_of_ble_eq_true rfl) ⟨Nat.zero_le _, Nat.zero_le _⟩ dX11_set_31 rfl (fun r_17 M_18 H locs ep_ hP hS => ?_)
      replace hres := xlet2_n hres ep_
      have er_17 : r_17 = (f_X11_finding 1 M_4).1 := congrArg Prod.fst ep_
      have eM_18 : M_18 = (f_X11_finding 1 M_4).2 := congrArg Prod.snd ep_
      clear ep_
      exact x_reti hx hb hr hlk hP hS (hres.symm.trans hF) dX11_set_34
  · replace hres := hres.trans (if_pos c_3)
    refine lv_ldc (own := RX11) (v := (-1000001)) hx hb hown (hts _ (List.mem_cons_of_mem _ wd_202)) dX11_set_12 ?_
    exact x_reti hx hb hr hlk hP hS (hres.symm.trans hF) dX11_set_14
set_option maxHeartbeats 4000000 in
set_option maxRecDepth 100000 in
theorem c_X11_copy (l : Launch) (nb nn : Nat) (g : xG) (L : List (Nat × Nat)) (M : xM) (hD : xD g L) (hL : xEL nb nn L) (a : Int32) (i : Int32) (b : Int32) (j : Int32) (z : Int32) (hp0 : ∀ j : Nat, 0 ≤ M 53 0 j ∧ M 53 0 j ≤ 60) : xCi l yX11_copy cX11_copy 9 (some .int) 2 g L M [.ref (xad g 40 0), .int a, .int i, .int b, .int j, .int z] (fun r u => (r, u) = f_X11_copy a i b j z M) := by
  intro sz
  refine x_beg (by decide +kernel) rfl ?_
  intro p e s m args below meth c ls hsz hB
  subst hsz
  obtain ⟨hx, hb, hml, hown, hts, hr, hlk, hK, hAm, hP, hl⟩ := hB
  have S : CallFix p m c cX11_copy 9 s args (xws yX11_copy cX11_copy 9 (some .int)) RX11 := ⟨hx, hb, hml, hown, hts⟩
  have hown : s.vm.findClass RX11 = some m.cls := hown
  have hl : lv_has ls 9 [(0, .ref (xad g 40 0)), (1, .int a), (2, .int i), (3, .int b), (4, .int j), (5, .int z)] := hl
  have hS : va_S (xA g L s.heap.size) s.heap s.heap [] := va_S.rf
  obtain ⟨F, hF⟩ : ∃ F, F = f_X11_copy a i b j z M := ⟨_, rfl⟩
  have k_143 : ∀ (up : Int32) (n : Nat) (k : Int32) (N_ : xM) (H : Heap) (locs : List Loc) (ls : Array Slot) (kx : (Int32 → xM → Int32 × xM)), xmu k z < n → 0 ≤ k ∧ 0 ≤ a ∧ a ≤ 7 ∧ 0 ≤ b ∧ b ≤ 7 ∧ 0 ≤ i ∧ 0 ≤ j ∧ i ≤ 60 ∧ j ≤ 60 ∧ z ≤ 60 ∧ i + z ≤ 60 ∧ j + z ≤ 60 → F = f_X11_copy_L143 a i b j z up n k N_ kx → xP g L N_ H → va_S (xA g L s.heap.size) s.heap H locs → lv_has ls 9 [(0, .ref (xad g 40 0)), (1, .int a), (2, .int i), (3, .int b), (4, .int j), (5, .int z), (6, .int up), (7, .int k)] → (∀ (k : Int32) (N_ : xM) (H : Heap) (locs : List Loc) (ls : Array Slot), 0 ≤ k ∧ 0 ≤ a ∧ a ≤ 7 ∧ 0 ≤ b ∧ b ≤ 7 ∧ 0 ≤ i ∧ 0 ≤ j ∧ i ≤ 60 ∧ j ≤ 60 ∧ z ≤ 60 ∧ i + z ≤ 60 ∧ j + z ≤ 60 → F = kx k N_ → xP g L N_ H → va_S (xA g L s.heap.size) s.heap H locs → lv_has ls 9 [(0, .ref (xad g 40 0)), (1, .int a), (2, .int i), (3, .int b), (4, .int j), (5, .int z), (6, .int up), (7, .int k)] → W p l e (xr 2) s m args below meth c H locs 0 0 (MQ below (va_Qi (fun r u => (r, u) = f_X11_copy a i b j z M) (xPost g L) (xA g L s.heap.size)) args s 0 0 (xA g L s.heap.size)) (F0 m 204 ls [])) → W p l e (xr 2) s m args below meth c H locs 0 0 (MQ below (va_Qi (fun r u => (r, u) = f_X11_copy a i b j z M) (xPost g L) (xA g L s.heap.size)) args s 0 0 (xA g L s.heap.size)) (F0 m 143 ls []) := by
    intro up n
    induction n with
    | zero => intro k N_ H locs ls kx hmu; exact absurd hmu (Nat.not_lt_zero _)
    | succ n ih =>
      intro k N_ H locs ls kx hmu hinv hres hP hS hl hex
      replace hres : F = _ := hres.trans (by rw [f_X11_copy_L143])
      refine lv_iload hx hb dX11_copy_143 (lv_at hl 7 rfl) ?_
      refine lv_iload hx hb dX11_copy_145 (lv_at hl 5 rfl) ?_
      refine lv_icmp_ge (tgt := 204) hx hb dX11_copy_147 (by decide) (fun c_1 => ?_) (fun c_1 => ?_)
      · replace hres := hres.trans (if_pos c_1)
        exact hex k N_ _ _ _ (ob_X11_copy_204_x143 nb nn a i b j z M hp0 up n k N_ hmu hinv c_1) hres hP hS (lv_sub hl [0, 1, 2, 3, 4, 5, 6, 7] rfl)
      · replace hres := hres.trans (if_neg c_1)
        refine lv_iload hx hb dX11_copy_150 (lv_at hl 6 rfl) ?_
        refine lv_if_eq (tgt := 160) hx hb dX11_copy_152 (by decide) (fun c_2 => ?_) (fun c_2 => ?_)
        · replace hres := hres.trans (if_pos c_2)
          refine lv_iload hx hb dX11_copy_160 (lv_at hl 5 rfl) ?_
          refine lv_iconst (v := 1) hx hb dX11_copy_162 (by decide) ?_
          refine lv_isub hx hb dX11_copy_163 ?_
          refine lv_iload hx hb dX11_copy_164 (lv_at hl 7 rfl) ?_
          refine lv_isub hx hb dX11_copy_166 ?_
          refine lv_topi (fun x8_3 ex8_3 => ?_)
          replace hres := xlet_n hres ex8_3
          refine lv_istore (lv' := [(8, .int x8_3), (0, .ref (xad g 40 0)), (1, .int a), (2, .int i), (3, .int b), (4, .int j), (5, .int z), (6, .int up), (7, .int k)]) hx hb dX11_copy_167 hl (by decide) rfl (fun ls hl => ?_)
          refine lv_aload_n hx hb dX11_copy_169 rfl (lv_at hl 1 rfl) ?_
          refine gf_RX11_16 hx hb hts hown hK hP (hL 40 0 (xe_40 nb nn)) dX11_copy_170 ?_
          refine lv_bipush (v := 60) hx hb dX11_copy_173 (by decide) ?_
          refine lv_iload_n hx hb dX11_copy_175 rfl (lv_at hl 4 rfl) ?_
          refine lv_imul hx hb dX11_copy_176 ?_
          refine lv_iload hx hb dX11_copy_177 (lv_at hl 5 rfl) ?_
          refine lv_iadd hx hb dX11_copy_179 ?_
          refine lv_iload hx hb dX11_copy_180 (lv_at hl 0 rfl) ?_
          refine lv_iadd hx hb dX11_copy_182 ?_
          refine lv_aload_n hx hb dX11_copy_183 rfl (lv_at hl 1 rfl) ?_
          refine gf_RX11_16 hx hb hts hown hK hP (hL 40 0 (xe_40 nb nn)) dX11_copy_184 ?_
          refine lv_bipush (v := 60) hx hb dX11_copy_187 (by decide) ?_
          refine lv_iload_n hx hb dX11_copy_189 rfl (lv_at hl 2 rfl) ?_
          refine lv_imul hx hb dX11_copy_190 ?_
          refine lv_iload_n hx hb dX11_copy_191 rfl (lv_at hl 3 rfl) ?_
          refine lv_iadd hx hb dX11_copy_192 ?_
          refine lv_iload hx hb dX11_copy_193 (lv_at hl 0 rfl) ?_
          refine lv_iadd hx hb dX11_copy_195 ?_
          refine x_iald hx hb hK hP (hL 54 0 (xe_54 nb nn)) (xc54 g 0) (ob_X11_copy_196_in nb nn a i b j z M hp0 up n k N_ hmu hinv c_1 c_2 x8_3 ex8_3) dX11_copy_196 ?_
          refine lv_topi (fun v_4 ev_4 => ?_)
          replace hres := xlet_n hres ev_4
          refine x_iast hx hb hK hP hD hS (hL 54 0 (xe_54 nb nn)) (xc54 g 0) (ob_X11_copy_197_in nb nn a i b j z M hp0 up n k N_ hmu hinv c_1 c_2 x8_3 ex8_3 v_4 ev_4) dX11_copy_197 (fun H locs hP hS => ?_)
          obtain ⟨M_5, eM_5⟩ : ∃ z_ : xM, z_ = xup N_ 54 0 (((60 * b) + j) + x8_3).toNatClampNeg v_4 := ⟨_, rfl⟩
          rw [← eM_5] at hP
          replace hres := xlet_n hres eM_5
          obtain ⟨x7_6, ex7_6⟩ : ∃ z_ : Int32, z_ = k + 1 := ⟨_, rfl⟩
          replace hres := xlet_n hres ex7_6
          refine lv_iinc (v := x7_6) (lv' := [(7, .int x7_6), (8, .int x8_3), (0, .ref (xad g 40 0)), (1, .int a), (2, .int i), (3, .int b), (4, .int j), (5, .int z), (6, .int up)]) hx hb dX11_copy_198 hl (k := 8) rfl (by rw [ex7_6]; rfl) (by decide) rfl (fun ls hl => ?_)
          refine lv_goto (tgt := 143) hx hb dX11_copy_201 (by decide) ?_
          exact ih x7_6 M_5 _ _ _ kx (ob_X11_copy_143_mu_6 nb nn a i b j z M hp0 up n k N_ hmu hinv c_1 c_2 x8_3 ex8_3 v_4 ev_4 M_5 eM_5 x7_6 ex7_6) (ob_X11_copy_143_inv_6 nb nn a i b j z M hp0 up n k N_ hmu hinv c_1 c_2 x8_3 ex8_3 v_4 ev_4 M_5 eM_5 x7_6 ex7_6) hres hP hS (lv_sub hl [2, 3, 4, 5, 6, 7, 8, 0] rfl) hex
        · replace hres := hres.trans (if_neg c_2)
          refine lv_iload hx hb dX11_copy_155 (lv_at hl 7 rfl) ?_
          refine lv_goto (tgt := 167) hx hb dX11_copy_157 (by decide) ?_
          refine lv_istore (lv' := [(8, .int k), (0, .ref (xad g 40 0)), (1, .int a), (2, .int i), (3, .int b), (4, .int j), (5, .int z), (6, .int up), (7, .int k)]) hx hb dX11_copy_167 hl (by decide) rfl (fun ls hl => ?_)
          refine lv_aload_n hx hb dX11_copy_169 rfl (lv_at hl 1 rfl) ?_
          refine gf_RX11_16 hx hb hts hown hK hP (hL 40 0 (xe_40 nb nn)) dX11_copy_170 ?_
          refine lv_bipush (v := 60) hx hb dX11_copy_173 (by decide) ?_
          refine lv_iload_n hx hb dX11_copy_175 rfl (lv_at hl 4 rfl) ?_
          refine lv_imul hx hb dX11_copy_176 ?_
          refine lv_iload hx hb dX11_copy_177 (lv_at hl 5 rfl) ?_
          refine lv_iadd hx hb dX11_copy_179 ?_
          refine lv_iload hx hb dX11_copy_180 (lv_at hl 0 rfl) ?_
          refine lv_iadd hx hb dX11_copy_182 ?_
          refine lv_aload_n hx hb dX11_copy_183 rfl (lv_at hl 1 rfl) ?_
          refine gf_RX11_16 hx hb hts hown hK hP (hL 40 0 (xe_40 nb nn)) dX11_copy_184 ?_
          refine lv_bipush (v := 60) hx hb dX11_copy_187 (by decide) ?_
          refine lv_iload_n hx hb dX11_copy_189 rfl (lv_at hl 2 rfl) ?_
          refine lv_imul hx hb dX11_copy_190 ?_
          refine lv_iload_n hx hb dX11_copy_191 rfl (lv_at hl 3 rfl) ?_
          refine lv_iadd hx hb dX11_copy_192 ?_
          refine lv_iload hx hb dX11_copy_193 (lv_at hl 0 rfl) ?_
          refine lv_iadd hx hb dX11_copy_195 ?_
          refine x_iald hx hb hK hP (hL 54 0 (xe_54 nb nn)) (xc54 g 0) (ob_X11_copy_196_in_2 nb nn a i b j z M hp0 up n k N_ hmu hinv c_1 c_2) dX11_copy_196 ?_
          refine lv_topi (fun v_7 ev_7 => ?_)
          replace hres := xlet_n hres ev_7
          refine x_iast hx hb hK hP hD hS (hL 54 0 (xe_54 nb nn)) (xc54 g 0) (ob_X11_copy_197_in_2 nb nn a i b j z M hp0 up n k N_ hmu hinv c_1 c_2 v_7 ev_7) dX11_copy_197 (fun H locs hP hS => ?_)
          obtain ⟨M_8, eM_8⟩ : ∃ z_ : xM, z_ = xup N_ 54 0 (((60 * b) + j) + k).toNatClampNeg v_7 := ⟨_, rfl⟩
          rw [← eM_8] at hP
          replace hres := xlet_n hres eM_8
          obtain ⟨x7_9, ex7_9⟩ : ∃ z_ : Int32, z_ = k + 1 := ⟨_, rfl⟩
          replace hres := xlet_n hres ex7_9
          refine lv_iinc (v := x7_9) (lv' := [(7, .int x7_9), (8, .int k), (0, .ref (xad g 40 0)), (1, .int a), (2, .int i), (3, .int b), (4, .int j), (5, .int z), (6, .int up)]) hx hb dX11_copy_198 hl (k := 8) rfl (by rw [ex7_9]; rfl) (by decide) rfl (fun ls hl => ?_)
          refine lv_goto (tgt := 143) hx hb dX11_copy_201 (by decide) ?_
          exact ih x7_9 M_8 _ _ _ kx (ob_X11_copy_143_mu_9 nb nn a i b j z M hp0 up n k N_ hmu hinv c_1 c_2 v_7 ev_7 M_8 eM_8 x7_9 ex7_9) (ob_X11_copy_143_inv_9 nb nn a i b j z M hp0 up n k N_ hmu hinv c_1 c_2 v_7 ev_7 M_8 eM_8 x7_9 ex7_9) hres hP hS (lv_sub hl [2, 3, 4, 5, 6, 7, 8, 0] rfl) hex
  have hres := hF
  rw [f_X11_copy] at hres
  refine lv_aload_n hx hb dX11_copy_0 rfl (lv_at hl 0 rfl) ?_
  refine lv_iconst (v := 0) hx hb dX11_copy_1 (by decide) ?_
  refine pf_RX11_113 hx hb hts hown hK hP hD hS (hL 40 0 (xe_40 nb nn)) dX11_copy_2 (fun H locs hP hS => ?_)
  obtain ⟨M_10, eM_10⟩ : ∃ z_ : xM, z_ = xup M 40 0 0 0 := ⟨_, rfl⟩
  rw [← eM_10] at hP
  replace hres := xlet_n hres eM_10
  refine lv_iload_n hx hb dX11_copy_5 rfl (lv_at hl 1 rfl) ?_
  refine x_callSi (As := [.int a]) S hK hAm hD hP hS mt_X11_isSheet wd_204 ⟨by decide, by decide⟩ (c_X11_isSheet l nb nn g L M_10 hD hL a) rfl hl.1 (Nat.le_of_ble_eq_true rfl) ⟨Nat.zero_le _, Nat.zero_le _⟩ dX11_copy_6 rfl (fun r_11 u H locs hp_ hP hS => ?_)
  obtain ⟨er_11, eu_⟩ := hp_
  rw [eu_] at hP
  clear eu_
  replace hres := xlet_n hres er_11
  refine lv_if_eq (tgt := 19) hx hb dX11_copy_9 (by decide) (fun c_12 => ?_) (fun c_12 => ?_)
  · replace hres := hres.trans (if_pos c_12)
    refine lv_ldc (own := RX11) (v := (-1000001)) hx hb hown (hts _ (List.mem_cons_of_mem _ wd_202)) dX11_copy_19 ?_
    exact x_reti hx hb hr hlk hP hS (hres.symm.trans hF) dX11_copy_21
  · replace hres := hres.trans (if_neg c_12)
    refine lv_iload_n hx hb dX11_copy_12 rfl (lv_at hl 3 rfl) ?_
    refine x_callSi (As := [.int b]) S hK hAm hD hP hS mt_X11_isSheet wd_204 ⟨by decide, by decide⟩ (c_X11_isSheet l nb nn g L M_10 hD hL b) rfl hl.1 (Nat.le_of_ble_eq_true rfl) ⟨Nat.zero_le _, Nat.zero_le _⟩ dX11_copy_13 rfl (fun r_13 u H locs hp_ hP hS => ?_)
    obtain ⟨er_13, eu_⟩ := hp_
    rw [eu_] at hP
    clear eu_
    replace hres := xlet_n hres er_13
    refine lv_if_ne (tgt := 22) hx hb dX11_copy_16 (by decide) (fun c_14 => ?_) (fun c_14 => ?_)
    · replace hres := hres.trans (if_neg c_14)
      refine lv_aload_n hx hb dX11_copy_22 rfl (lv_at hl 0 rfl) ?_
      refine lv_iconst (v := 0) hx hb dX11_copy_23 (by decide) ?_
      refine pf_RX11_117 hx hb hts hown hK hP hD hS (hL 40 0 (xe_40 nb nn)) dX11_copy_24 (fun H locs hP hS => ?_)
      obtain ⟨M_15, eM_15⟩ : ∃ z_ : xM, z_ = xup M_10 40 0 1 0 := ⟨_, rfl⟩
      rw [← eM_15] at hP
      replace hres := xlet_n hres eM_15
      refine lv_aload_n hx hb dX11_copy_27 rfl (lv_at hl 0 rfl) ?_
      refine gf_RX11_7 hx hb hts hown hK hP (hL 40 0 (xe_40 nb nn)) dX11_copy_28 ?_
      refine lv_iload_n hx hb dX11_copy_31 rfl (lv_at hl 1 rfl) ?_
      refine x_iald hx hb hK hP (hL 52 0 (xe_52 nb nn)) (xc52 g 0) (ob_X11_copy_32_in nb nn a i b j z M hp0 M_10 eM_10 r_11 er_11 c_12 r_13 er_13 c_14 M_15 eM_15) dX11_copy_32 ?_
      refine lv_if_lt (tgt := 45) hx hb dX11_copy_33 (by decide) (fun c_16 => ?_) (fun c_16 => ?_)
      · replace hres := hres.trans (if_pos c_16)
        refine lv_aload_n hx hb dX11_copy_45 rfl (lv_at hl 0 rfl) ?_
        refine lv_iconst (v := 1) hx hb dX11_copy_46 (by decide) ?_
        refine x_callVi (As := [.int 1]) S hK hAm hD hP hS mt_X11_finding wd_211 ⟨by decide, by decide⟩ (hL 40 0 (xe_40 nb nn)) (xc40 g 0) rfl (c_X11_finding l nb nn g L M_15 hD hL 1) rfl hl.1 (Nat.le_of_ble_eq_true rfl) ⟨Nat.zero_le _, Nat.zero_le _⟩ dX11_copy_47 rfl (fun r_17 M_18 H locs ep_ hP hS => ?_)
        replace hres := xlet2_n hres ep_
        have er_17 : r_17 = (f_X11_finding 1 M_15).1 := congrArg Prod.fst ep_
        have eM_18 : M_18 = (f_X11_finding 1 M_15).2 := congrArg Prod.snd ep_
        clear ep_
        exact x_reti hx hb hr hlk hP hS (hres.symm.trans hF) dX11_copy_50
      · replace hres := hres.trans (if_neg c_16)
        refine lv_aload_n hx hb dX11_copy_36 rfl (lv_at hl 0 rfl) ?_
        refine gf_RX11_7 hx hb hts hown hK hP (hL 40 0 (xe_40 nb nn)) dX11_copy_37 ?_
        refine lv_iload_n hx hb dX11_copy_40 rfl (lv_at hl 3 rfl) ?_
        refine x_iald hx hb hK hP (hL 52 0 (xe_52 nb nn)) (xc52 g 0) (ob_X11_copy_41_in nb nn a i b j z M hp0 M_10 eM_10 r_11 er_11 c_12 r_13 er_13 c_14 M_15 eM_15 c_16) dX11_copy_41 ?_
        refine lv_if_ge (tgt := 51) hx hb dX11_copy_42 (by decide) (fun c_19 => ?_) (fun c_19 => ?_)
        · replace hres := hres.trans (if_pos c_19)
          refine lv_aload_n hx hb dX11_copy_51 rfl (lv_at hl 0 rfl) ?_
          refine gf_RX11_7 hx hb hts hown hK hP (hL 40 0 (xe_40 nb nn)) dX11_copy_52 ?_
          refine lv_iload_n hx hb dX11_copy_55 rfl (lv_at hl 1 rfl) ?_
          refine x_iald hx hb hK hP (hL 52 0 (xe_52 nb nn)) (xc52 g 0) (ob_X11_copy_56_in nb nn a i b j z M hp0 M_10 eM_10 r_11 er_11 c_12 r_13 er_13 c_14 M_15 eM_15 c_16 c_19) dX11_copy_56 ?_
          refine lv_aload_n hx hb dX11_copy_57 rfl (lv_at hl 0 rfl) ?_
          refine gf_RX11_7 hx hb hts hown hK hP (hL 40 0 (xe_40 nb nn)) dX11_copy_58 ?_
          refine lv_iload_n hx hb dX11_copy_61 rfl (lv_at hl 3 rfl) ?_
          refine x_iald hx hb hK hP (hL 52 0 (xe_52 nb nn)) (xc52 g 0) (ob_X11_copy_62_in nb nn a i b j z M hp0 M_10 eM_10 r_11 er_11 c_12 r_13 er_13 c_14 M_15 eM_15 c_16 c_19) dX11_copy_62 ?_
          refine lv_icmp_eq (tgt := 72) hx hb dX11_copy_63 (by decide) (fun c_20 => ?_) (fun c_20 => ?_)
          · replace hres := hres.trans (if_pos c_20)
            refine lv_iload_n hx hb dX11_copy_72 rfl (lv_at hl 2 rfl) ?_
            refine lv_if_lt (tgt := 121) hx hb dX11_copy_73 (by decide) (fun c_21 => ?_) (fun c_21 => ?_)
            · replace hres := hres.trans (if_pos c_21)
              refine lv_aload_n hx hb dX11_copy_121 rfl (lv_at hl 0 rfl) ?_
              refine lv_iconst (v := 2) hx hb dX11_copy_122 (by decide) ?_
              refine x_callVi (As := [.int 2]) S hK hAm hD hP hS mt_X11_finding wd_211 ⟨by decide, by decide⟩ (hL 40 0 (xe_40 nb nn)) (xc40 g 0) rfl (c_X11_finding l nb nn g L M_15 hD hL 2) rfl hl.1 (Nat.le_of_ble_eq_true rfl) ⟨Nat.zero_le _, Nat.zero_le _⟩ dX11_copy_123 rfl (fun r_22 M_23 H locs ep_ hP hS => ?_)
              replace hres := xlet2_n hres ep_
              have er_22 : r_22 = (f_X11_finding 2 M_15).1 := congrArg Prod.fst ep_
              have eM_23 : M_23 = (f_X11_finding 2 M_15).2 := congrArg Prod.snd ep_
              clear ep_
              exact x_reti hx hb hr hlk hP hS (hres.symm.trans hF) dX11_copy_126
            · replace hres := hres.trans (if_neg c_21)
              refine lv_iload hx hb dX11_copy_76 (lv_at hl 4 rfl) ?_
              refine lv_if_lt (tgt := 121) hx hb dX11_copy_78 (by decide) (fun c_24 => ?_) (fun c_24 => ?_)
              · replace hres := hres.trans (if_pos c_24)
                refine lv_aload_n hx hb dX11_copy_121 rfl (lv_at hl 0 rfl) ?_
                refine lv_iconst (v := 2) hx hb dX11_copy_122 (by decide) ?_
                refine x_callVi (As := [.int 2]) S hK hAm hD hP hS mt_X11_finding wd_211 ⟨by decide, by decide⟩ (hL 40 0 (xe_40 nb nn)) (xc40 g 0) rfl (c_X11_finding l nb nn g L M_15 hD hL 2) rfl hl.1 (Nat.le_of_ble_eq_true rfl) ⟨Nat.zero_le _, Nat.zero_le _⟩ dX11_copy_123 rfl (fun r_25 M_26 H locs ep_ hP hS => ?_)
                replace hres := xlet2_n hres ep_
                have er_25 : r_25 = (f_X11_finding 2 M_15).1 := congrArg Prod.fst ep_
                have eM_26 : M_26 = (f_X11_finding 2 M_15).2 := congrArg Prod.snd ep_
                clear ep_
                exact x_reti hx hb hr hlk hP hS (hres.symm.trans hF) dX11_copy_126
              · replace hres := hres.trans (if_neg c_24)
                refine lv_iload hx hb dX11_copy_81 (lv_at hl 5 rfl) ?_
                refine lv_if_lt (tgt := 121) hx hb dX11_copy_83 (by decide) (fun c_27 => ?_) (fun c_27 => ?_)
                · replace hres := hres.trans (if_pos c_27)
                  refine lv_aload_n hx hb dX11_copy_121 rfl (lv_at hl 0 rfl) ?_
                  refine lv_iconst (v := 2) hx hb dX11_copy_122 (by decide) ?_
                  refine x_callVi (As := [.int 2]) S hK hAm hD hP hS mt_X11_finding wd_211 ⟨by decide, by decide⟩ (hL 40 0 (xe_40 nb nn)) (xc40 g 0) rfl (c_X11_finding l nb nn g L M_15 hD hL 2) rfl hl.1 (Nat.le_of_ble_eq_true rfl) ⟨Nat.zero_le _, Nat.zero_le _⟩ dX11_copy_123 rfl (fun r_28 M_29 H locs ep_ hP hS => ?_)
                  replace hres := xlet2_n hres ep_
                  have er_28 : r_28 = (f_X11_finding 2 M_15).1 := congrArg Prod.fst ep_
                  have eM_29 : M_29 = (f_X11_finding 2 M_15).2 := congrArg Prod.snd ep_
                  clear ep_
                  exact x_reti hx hb hr hlk hP hS (hres.symm.trans hF) dX11_copy_126
                · replace hres := hres.trans (if_neg c_27)
                  refine lv_iload_n hx hb dX11_copy_86 rfl (lv_at hl 2 rfl) ?_
                  refine lv_i2l (v := i.toInt64) hx hb dX11_copy_87 rfl ?_
                  refine lv_iload hx hb dX11_copy_88 (lv_at hl 5 rfl) ?_
                  refine lv_i2l (v := z.toInt64) hx hb dX11_copy_90 rfl ?_
                  refine lv_ladd hx hb dX11_copy_91 ?_
                  refine lv_aload_n hx hb dX11_copy_92 rfl (lv_at hl 0 rfl) ?_
                  refine gf_RX11_13 hx hb hts hown hK hP (hL 40 0 (xe_40 nb nn)) dX11_copy_93 ?_
                  refine lv_iload_n hx hb dX11_copy_96 rfl (lv_at hl 1 rfl) ?_
                  refine x_iald hx hb hK hP (hL 53 0 (xe_53 nb nn)) (xc53 g 0) (ob_X11_copy_97_in nb nn a i b j z M hp0 M_10 eM_10 r_11 er_11 c_12 r_13 er_13 c_14 M_15 eM_15 c_16 c_19 c_20 c_21 c_24 c_27) dX11_copy_97 ?_
                  refine lv_i2l (v := (M_15 53 0 a.toNatClampNeg).toInt64) hx hb dX11_copy_98 rfl ?_
                  refine W.lcmp hx hb dX11_copy_99 ?_
                  refine lv_if_gt (tgt := 121) hx hb dX11_copy_100 (by decide) (fun c_30 => ?_) (fun c_30 => ?_)
                  · replace hres := hres.trans (if_pos c_30)
                    refine lv_aload_n hx hb dX11_copy_121 rfl (lv_at hl 0 rfl) ?_
                    refine lv_iconst (v := 2) hx hb dX11_copy_122 (by decide) ?_
                    refine x_callVi (As := [.int 2]) S hK hAm hD hP hS mt_X11_finding wd_211 ⟨by decide, by decide⟩ (hL 40 0 (xe_40 nb nn)) (xc40 g 0) rfl (c_X11_finding l nb nn g L M_15 hD hL 2) rfl hl.1 (Nat.le_of_ble_eq_true rfl) ⟨Nat.zero_le _, Nat.zero_le _⟩ dX11_copy_123 rfl (fun r_31 M_32 H locs ep_ hP hS => ?_)
                    replace hres := xlet2_n hres ep_
                    have er_31 : r_31 = (f_X11_finding 2 M_15).1 := congrArg Prod.fst ep_
                    have eM_32 : M_32 = (f_X11_finding 2 M_15).2 := congrArg Prod.snd ep_
                    clear ep_
                    exact x_reti hx hb hr hlk hP hS (hres.symm.trans hF) dX11_copy_126
                  · replace hres := hres.trans (if_neg c_30)
                    refine lv_iload hx hb dX11_copy_103 (lv_at hl 4 rfl) ?_
                    refine lv_i2l (v := j.toInt64) hx hb dX11_copy_105 rfl ?_
                    refine lv_iload hx hb dX11_copy_106 (lv_at hl 5 rfl) ?_
                    refine lv_i2l (v := z.toInt64) hx hb dX11_copy_108 rfl ?_
                    refine lv_ladd hx hb dX11_copy_109 ?_
                    refine lv_aload_n hx hb dX11_copy_110 rfl (lv_at hl 0 rfl) ?_
                    refine gf_RX11_13 hx hb hts hown hK hP (hL 40 0 (xe_40 nb nn)) dX11_copy_111 ?_
                    refine lv_iload_n hx hb dX11_copy_114 rfl (lv_at hl 3 rfl) ?_
                    refine x_iald hx hb hK hP (hL 53 0 (xe_53 nb nn)) (xc53 g 0) (ob_X11_copy_115_in nb nn a i b j z M hp0 M_10 eM_10 r_11 er_11 c_12 r_13 er_13 c_14 M_15 eM_15 c_16 c_19 c_20 c_21 c_24 c_27 c_30) dX11_copy_115 ?_
                    refine lv_i2l (v := (M_15 53 0 b.toNatClampNeg).toInt64) hx hb dX11_copy_116 rfl ?_
                    refine W.lcmp hx hb dX11_copy_117 ?_
                    refine lv_if_le (tgt := 127) hx hb dX11_copy_118 (by decide) (fun c_33 => ?_) (fun c_33 => ?_)
                    · replace hres := hres.trans (if_pos c_33)
                      refine lv_iload_n hx hb dX11_copy_127 rfl (lv_at hl 2 rfl) ?_
                      refine lv_iload hx hb dX11_copy_128 (lv_at hl 4 rfl) ?_
                      refine lv_icmp_lt (tgt := 137) hx hb dX11_copy_130 (by decide) (fun c_34 => ?_) (fun c_34 => ?_)
                      · replace hres := hres.trans (if_pos c_34)
                        refine lv_iconst (v := 0) hx hb dX11_copy_137 (by decide) ?_
                        refine lv_istore (lv' := [(6, .int 0), (0, .ref (xad g 40 0)), (1, .int a), (2, .int i), (3, .int b), (4, .int j), (5, .int z)]) hx hb dX11_copy_138 hl (by decide) rfl (fun ls hl => ?_)
                        refine lv_iconst (v := 0) hx hb dX11_copy_140 (by decide) ?_
                        refine lv_istore (lv' := [(7, .int 0), (6, .int 0), (0, .ref (xad g 40 0)), (1, .int a), (2, .int i), (3, .int b), (4, .int j), (5, .int z)]) hx hb dX11_copy_141 hl (by decide) rfl (fun ls hl => ?_)
                        refine k_143 (0 : Int32) (xmu (0 : Int32) z + 1) (0 : Int32) M_15 _ _ _ _ (Nat.lt_succ_self _) (ob_X11_copy_143_ini_34 nb nn a i b j z M hp0 M_10 eM_10 r_11 er_11 c_12 r_13 er_13 c_14 M_15 eM_15 c_16 c_19 c_20 c_21 c_24 c_27 c_30 c_33 c_34) hres hP hS (lv_sub hl [2, 3, 4, 5, 6, 7, 1, 0] rfl) ?_
                        clear hres hP hS hl
                        intro k_35 M_36 H locs ls hiv_36 hres hP hS hl
                        refine lv_iload hx hb dX11_copy_204 (lv_at hl 5 rfl) ?_
                        exact x_reti hx hb hr hlk hP hS (hres.symm.trans hF) dX11_copy_206
                      · replace hres := hres.trans (if_neg c_34)
                        refine lv_iconst (v := 1) hx hb dX11_copy_133 (by decide) ?_
                        refine lv_goto (tgt := 138) hx hb dX11_copy_134 (by decide) ?_
                        refine lv_istore (lv' := [(6, .int 1), (0, .ref (xad g 40 0)), (1, .int a), (2, .int i), (3, .int b), (4, .int j), (5, .int z)]) hx hb dX11_copy_138 hl (by decide) rfl (fun ls hl => ?_)
                        refine lv_iconst (v := 0) hx hb dX11_copy_140 (by decide) ?_
                        refine lv_istore (lv' := [(7, .int 0), (6, .int 1), (0, .ref (xad g 40 0)), (1, .int a), (2, .int i), (3, .int b), (4, .int j), (5, .int z)]) hx hb dX11_copy_141 hl (by decide) rfl (fun ls hl => ?_)
                        refine k_143 (1 : Int32) (xmu (0 : Int32) z + 1) (0 : Int32) M_15 _ _ _ _ (Nat.lt_succ_self _) (ob_X11_copy_143_ini_36 nb nn a i b j z M hp0 M_10 eM_10 r_11 er_11 c_12 r_13 er_13 c_14 M_15 eM_15 c_16 c_19 c_20 c_21 c_24 c_27 c_30 c_33 c_34) hres hP hS (lv_sub hl [2, 3, 4, 5, 6, 7, 1, 0] rfl) ?_
                        clear hres hP hS hl
                        intro k_37 M_38 H locs ls hiv_38 hres hP hS hl
                        refine lv_iload hx hb dX11_copy_204 (lv_at hl 5 rfl) ?_
                        exact x_reti hx hb hr hlk hP hS (hres.symm.trans hF) dX11_copy_206
                    · replace hres := hres.trans (if_neg c_33)
                      refine lv_aload_n hx hb dX11_copy_121 rfl (lv_at hl 0 rfl) ?_
                      refine lv_iconst (v := 2) hx hb dX11_copy_122 (by decide) ?_
                      refine x_callVi (As := [.int 2]) S hK hAm hD hP hS mt_X11_finding wd_211 ⟨by decide, by decide⟩ (hL 40 0 (xe_40 nb nn)) (xc40 g 0) rfl (c_X11_finding l nb nn g L M_15 hD hL 2) rfl hl.1 (Nat.le_of_ble_eq_true rfl) ⟨Nat.zero_le _, Nat.zero_le _⟩ dX11_copy_123 rfl (fun r_39 M_40 H locs ep_ hP hS => ?_)
                      replace hres := xlet2_n hres ep_
                      have er_39 : r_39 = (f_X11_finding 2 M_15).1 := congrArg Prod.fst ep_
                      have eM_40 : M_40 = (f_X11_finding 2 M_15).2 := congrArg Prod.snd ep_
                      clear ep_
                      exact x_reti hx hb hr hlk hP hS (hres.symm.trans hF) dX11_copy_126
          · replace hres := hres.trans (if_neg c_20)
            refine lv_aload_n hx hb dX11_copy_66 rfl (lv_at hl 0 rfl) ?_
            refine lv_iconst (v := 5) hx hb dX11_copy_67 (by decide) ?_
            refine x_callVi (As := [.int 5]) S hK hAm hD hP hS mt_X11_finding wd_211 ⟨by decide, by decide⟩ (hL 40 0 (xe_40 nb nn)) (xc40 g 0) rfl (c_X11_finding l nb nn g L M_15 hD hL 5) rfl hl.1 (Nat.le_of_ble_eq_true rfl) ⟨Nat.zero_le _, Nat.zero_le _⟩ dX11_copy_68 rfl (fun r_41 M_42 H locs ep_ hP hS => ?_)
            replace hres := xlet2_n hres ep_
            have er_41 : r_41 = (f_X11_finding 5 M_15).1 := congrArg Prod.fst ep_
            have eM_42 : M_42 = (f_X11_finding 5 M_15).2 := congrArg Prod.snd ep_
            clear ep_
            exact x_reti hx hb hr hlk hP hS (hres.symm.trans hF) dX11_copy_71
        · replace hres := hres.trans (if_neg c_19)
          refine lv_aload_n hx hb dX11_copy_45 rfl (lv_at hl 0 rfl) ?_
          refine lv_iconst (v := 1) hx hb dX11_copy_46 (by decide) ?_
          refine x_callVi (As := [.int 1]) S hK hAm hD hP hS mt_X11_finding wd_211 ⟨by decide, by decide⟩ (hL 40 0 (xe_40 nb nn)) (xc40 g 0) rfl (c_X11_finding l nb nn g L M_15 hD hL 1) rfl hl.1 (Nat.le_of_ble_eq_true rfl) ⟨Nat.zero_le _, Nat.zero_le _⟩ dX11_copy_47 rfl (fun r_43 M_44 H locs ep_ hP hS => ?_)
          replace hres := xlet2_n hres ep_
          have er_43 : r_43 = (f_X11_finding 1 M_15).1 := congrArg Prod.fst ep_
          have eM_44 : M_44 = (f_X11_finding 1 M_15).2 := congrArg Prod.snd ep_
          clear ep_
          exact x_reti hx hb hr hlk hP hS (hres.symm.trans hF) dX11_copy_50
    · replace hres := hres.trans (if_pos c_14)
      refine lv_ldc (own := RX11) (v := (-1000001)) hx hb hown (hts _ (List.mem_cons_of_mem _ wd_202)) dX11_copy_19 ?_
      exact x_reti hx hb hr hlk hP hS (hres.symm.trans hF) dX11_copy_21
set_option maxHeartbeats 4000000 in
set_option maxRecDepth 100000 in
theorem c_X11_drop (l : Launch) (nb nn : Nat) (g : xG) (L : List (Nat × Nat)) (M : xM) (hD : xD g L) (hL : xEL nb nn L) (sh : Int32)  : xCi l yX11_drop cX11_drop 2 (some .int) 2 g L M [.ref (xad g 40 0), .int sh] (fun r u => (r, u) = f_X11_drop sh M) := by
  intro sz
  refine x_beg (by decide +kernel) rfl ?_
  intro p e s m args below meth c ls hsz hB
  subst hsz
  obtain ⟨hx, hb, hml, hown, hts, hr, hlk, hK, hAm, hP, hl⟩ := hB
  have S : CallFix p m c cX11_drop 2 s args (xws yX11_drop cX11_drop 2 (some .int)) RX11 := ⟨hx, hb, hml, hown, hts⟩
  have hown : s.vm.findClass RX11 = some m.cls := hown
  have hl : lv_has ls 2 [(0, .ref (xad g 40 0)), (1, .int sh)] := hl
  have hS : va_S (xA g L s.heap.size) s.heap s.heap [] := va_S.rf
  obtain ⟨F, hF⟩ : ∃ F, F = f_X11_drop sh M := ⟨_, rfl⟩
  have hres := hF
  rw [f_X11_drop] at hres
  refine lv_aload_n hx hb dX11_drop_0 rfl (lv_at hl 0 rfl) ?_
  refine lv_iconst (v := 0) hx hb dX11_drop_1 (by decide) ?_
  refine pf_RX11_113 hx hb hts hown hK hP hD hS (hL 40 0 (xe_40 nb nn)) dX11_drop_2 (fun H locs hP hS => ?_)
  obtain ⟨M_1, eM_1⟩ : ∃ z_ : xM, z_ = xup M 40 0 0 0 := ⟨_, rfl⟩
  rw [← eM_1] at hP
  replace hres := xlet_n hres eM_1
  refine lv_iload_n hx hb dX11_drop_5 rfl (lv_at hl 1 rfl) ?_
  refine x_callSi (As := [.int sh]) S hK hAm hD hP hS mt_X11_isSheet wd_204 ⟨by decide, by decide⟩ (c_X11_isSheet l nb nn g L M_1 hD hL sh) rfl hl.1 (Nat.le_of_ble_eq_true rfl) ⟨Nat.zero_le _, Nat.zero_le _⟩ dX11_drop_6 rfl (fun r_2 u H locs hp_ hP hS => ?_)
  obtain ⟨er_2, eu_⟩ := hp_
  rw [eu_] at hP
  clear eu_
  replace hres := xlet_n hres er_2
  refine lv_if_ne (tgt := 15) hx hb dX11_drop_9 (by decide) (fun c_3 => ?_) (fun c_3 => ?_)
  · replace hres := hres.trans (if_neg c_3)
    refine lv_aload_n hx hb dX11_drop_15 rfl (lv_at hl 0 rfl) ?_
    refine lv_iconst (v := 0) hx hb dX11_drop_16 (by decide) ?_
    refine pf_RX11_117 hx hb hts hown hK hP hD hS (hL 40 0 (xe_40 nb nn)) dX11_drop_17 (fun H locs hP hS => ?_)
    obtain ⟨M_4, eM_4⟩ : ∃ z_ : xM, z_ = xup M_1 40 0 1 0 := ⟨_, rfl⟩
    rw [← eM_4] at hP
    replace hres := xlet_n hres eM_4
    refine lv_aload_n hx hb dX11_drop_20 rfl (lv_at hl 0 rfl) ?_
    refine gf_RX11_7 hx hb hts hown hK hP (hL 40 0 (xe_40 nb nn)) dX11_drop_21 ?_
    refine lv_iload_n hx hb dX11_drop_24 rfl (lv_at hl 1 rfl) ?_
    refine x_iald hx hb hK hP (hL 52 0 (xe_52 nb nn)) (xc52 g 0) (ob_X11_drop_25_in nb nn sh M M_1 eM_1 r_2 er_2 c_3 M_4 eM_4) dX11_drop_25 ?_
    refine lv_if_ge (tgt := 35) hx hb dX11_drop_26 (by decide) (fun c_5 => ?_) (fun c_5 => ?_)
    · replace hres := hres.trans (if_pos c_5)
      refine lv_aload_n hx hb dX11_drop_35 rfl (lv_at hl 0 rfl) ?_
      refine gf_RX11_7 hx hb hts hown hK hP (hL 40 0 (xe_40 nb nn)) dX11_drop_36 ?_
      refine lv_iload_n hx hb dX11_drop_39 rfl (lv_at hl 1 rfl) ?_
      refine lv_iconst (v := (-1)) hx hb dX11_drop_40 (by decide) ?_
      refine x_iast hx hb hK hP hD hS (hL 52 0 (xe_52 nb nn)) (xc52 g 0) (ob_X11_drop_41_in nb nn sh M M_1 eM_1 r_2 er_2 c_3 M_4 eM_4 c_5) dX11_drop_41 (fun H locs hP hS => ?_)
      obtain ⟨M_6, eM_6⟩ : ∃ z_ : xM, z_ = xup M_4 52 0 sh.toNatClampNeg (-1) := ⟨_, rfl⟩
      rw [← eM_6] at hP
      replace hres := xlet_n hres eM_6
      refine lv_aload_n hx hb dX11_drop_42 rfl (lv_at hl 0 rfl) ?_
      refine gf_RX11_13 hx hb hts hown hK hP (hL 40 0 (xe_40 nb nn)) dX11_drop_43 ?_
      refine lv_iload_n hx hb dX11_drop_46 rfl (lv_at hl 1 rfl) ?_
      refine x_iald hx hb hK hP (hL 53 0 (xe_53 nb nn)) (xc53 g 0) (ob_X11_drop_47_in nb nn sh M M_1 eM_1 r_2 er_2 c_3 M_4 eM_4 c_5 M_6 eM_6) dX11_drop_47 ?_
      exact x_reti hx hb hr hlk hP hS (hres.symm.trans hF) dX11_drop_48
    · replace hres := hres.trans (if_neg c_5)
      refine lv_aload_n hx hb dX11_drop_29 rfl (lv_at hl 0 rfl) ?_
      refine lv_iconst (v := 1) hx hb dX11_drop_30 (by decide) ?_
      refine x_callVi (As := [.int 1]) S hK hAm hD hP hS mt_X11_finding wd_211 ⟨by decide, by decide⟩ (hL 40 0 (xe_40 nb nn)) (xc40 g 0) rfl (c_X11_finding l nb nn g L M_4 hD hL 1) rfl hl.1 (Nat.le_of_ble_eq_true rfl) ⟨Nat.zero_le _, Nat.zero_le _⟩ dX11_drop_31 rfl (fun r_7 M_8 H locs ep_ hP hS => ?_)
      replace hres := xlet2_n hres ep_
      have er_7 : r_7 = (f_X11_finding 1 M_4).1 := congrArg Prod.fst ep_
      have eM_8 : M_8 = (f_X11_finding 1 M_4).2 := congrArg Prod.snd ep_
      clear ep_
      exact x_reti hx hb hr hlk hP hS (hres.symm.trans hF) dX11_drop_34
  · replace hres := hres.trans (if_pos c_3)
    refine lv_ldc (own := RX11) (v := (-1000001)) hx hb hown (hts _ (List.mem_cons_of_mem _ wd_202)) dX11_drop_12 ?_
    exact x_reti hx hb hr hlk hP hS (hres.symm.trans hF) dX11_drop_14
set_option maxHeartbeats 4000000 in
set_option maxRecDepth 100000 in
theorem c_X11_lookItems (l : Launch) (nb nn : Nat) (g : xG) (L : List (Nat × Nat)) (M : xM) (hD : xD g L) (hL : xEL nb nn L) (sh : Int32) (i : Int32) (z : Int32) (hp0 : 0 ≤ sh) (hp1 : sh ≤ 7) : xCi l yX11_lookItems cX11_lookItems 4 (some .int) 1 g L M [.ref (xad g 40 0), .int sh, .int i, .int z] (fun r u => (r, u) = f_X11_lookItems sh i z M) := by
  intro sz
  refine x_beg (by decide +kernel) rfl ?_
  intro p e s m args below meth c ls hsz hB
  subst hsz
  obtain ⟨hx, hb, hml, hown, hts, hr, hlk, hK, hAm, hP, hl⟩ := hB
  have S : CallFix p m c cX11_lookItems 4 s args (xws yX11_lookItems cX11_lookItems 4 (some .int)) RX11 := ⟨hx, hb, hml, hown, hts⟩
  have hown : s.vm.findClass RX11 = some m.cls := hown
  have hl : lv_has ls 4 [(0, .ref (xad g 40 0)), (1, .int sh), (2, .int i), (3, .int z)] := hl
  have hS : va_S (xA g L s.heap.size) s.heap s.heap [] := va_S.rf
  obtain ⟨F, hF⟩ : ∃ F, F = f_X11_lookItems sh i z M := ⟨_, rfl⟩
  have hres := hF
  rw [f_X11_lookItems] at hres
  refine lv_aload_n hx hb dX11_lookItems_0 rfl (lv_at hl 0 rfl) ?_
  refine gf_RX11_7 hx hb hts hown hK hP (hL 40 0 (xe_40 nb nn)) dX11_lookItems_1 ?_
  refine lv_iload_n hx hb dX11_lookItems_4 rfl (lv_at hl 1 rfl) ?_
  refine x_iald hx hb hK hP (hL 52 0 (xe_52 nb nn)) (xc52 g 0) (ob_X11_lookItems_5_in nb nn sh i z M hp0 hp1) dX11_lookItems_5 ?_
  refine lv_if_ge (tgt := 15) hx hb dX11_lookItems_6 (by decide) (fun c_1 => ?_) (fun c_1 => ?_)
  · replace hres := hres.trans (if_pos c_1)
    refine lv_iload_n hx hb dX11_lookItems_15 rfl (lv_at hl 2 rfl) ?_
    refine lv_if_lt (tgt := 35) hx hb dX11_lookItems_16 (by decide) (fun c_2 => ?_) (fun c_2 => ?_)
    · replace hres := hres.trans (if_pos c_2)
      refine lv_aload_n hx hb dX11_lookItems_35 rfl (lv_at hl 0 rfl) ?_
      refine lv_iconst (v := 2) hx hb dX11_lookItems_36 (by decide) ?_
      refine x_callVi (As := [.int 2]) S hK hAm hD hP hS mt_X11_finding wd_211 ⟨by decide, by decide⟩ (hL 40 0 (xe_40 nb nn)) (xc40 g 0) rfl (c_X11_finding l nb nn g L M hD hL 2) rfl hl.1 (Nat.le_of_ble_eq_true rfl) ⟨Nat.zero_le _, Nat.zero_le _⟩ dX11_lookItems_37 rfl (fun r_3 M_4 H locs ep_ hP hS => ?_)
      replace hres := xlet2_n hres ep_
      have er_3 : r_3 = (f_X11_finding 2 M).1 := congrArg Prod.fst ep_
      have eM_4 : M_4 = (f_X11_finding 2 M).2 := congrArg Prod.snd ep_
      clear ep_
      refine lv_goto (tgt := 44) hx hb dX11_lookItems_40 (by decide) ?_
      exact x_reti hx hb hr hlk hP hS (hres.symm.trans hF) dX11_lookItems_44
    · replace hres := hres.trans (if_neg c_2)
      refine lv_iload_n hx hb dX11_lookItems_19 rfl (lv_at hl 2 rfl) ?_
      refine lv_i2l (v := i.toInt64) hx hb dX11_lookItems_20 rfl ?_
      refine lv_iload_n hx hb dX11_lookItems_21 rfl (lv_at hl 3 rfl) ?_
      refine lv_i2l (v := z.toInt64) hx hb dX11_lookItems_22 rfl ?_
      refine lv_ladd hx hb dX11_lookItems_23 ?_
      refine lv_aload_n hx hb dX11_lookItems_24 rfl (lv_at hl 0 rfl) ?_
      refine gf_RX11_13 hx hb hts hown hK hP (hL 40 0 (xe_40 nb nn)) dX11_lookItems_25 ?_
      refine lv_iload_n hx hb dX11_lookItems_28 rfl (lv_at hl 1 rfl) ?_
      refine x_iald hx hb hK hP (hL 53 0 (xe_53 nb nn)) (xc53 g 0) (ob_X11_lookItems_29_in nb nn sh i z M hp0 hp1 c_1 c_2) dX11_lookItems_29 ?_
      refine lv_i2l (v := (M 53 0 sh.toNatClampNeg).toInt64) hx hb dX11_lookItems_30 rfl ?_
      refine W.lcmp hx hb dX11_lookItems_31 ?_
      refine lv_if_le (tgt := 43) hx hb dX11_lookItems_32 (by decide) (fun c_5 => ?_) (fun c_5 => ?_)
      · replace hres := hres.trans (if_pos c_5)
        refine lv_iconst (v := 0) hx hb dX11_lookItems_43 (by decide) ?_
        exact x_reti hx hb hr hlk hP hS (hres.symm.trans hF) dX11_lookItems_44
      · replace hres := hres.trans (if_neg c_5)
        refine lv_aload_n hx hb dX11_lookItems_35 rfl (lv_at hl 0 rfl) ?_
        refine lv_iconst (v := 2) hx hb dX11_lookItems_36 (by decide) ?_
        refine x_callVi (As := [.int 2]) S hK hAm hD hP hS mt_X11_finding wd_211 ⟨by decide, by decide⟩ (hL 40 0 (xe_40 nb nn)) (xc40 g 0) rfl (c_X11_finding l nb nn g L M hD hL 2) rfl hl.1 (Nat.le_of_ble_eq_true rfl) ⟨Nat.zero_le _, Nat.zero_le _⟩ dX11_lookItems_37 rfl (fun r_6 M_7 H locs ep_ hP hS => ?_)
        replace hres := xlet2_n hres ep_
        have er_6 : r_6 = (f_X11_finding 2 M).1 := congrArg Prod.fst ep_
        have eM_7 : M_7 = (f_X11_finding 2 M).2 := congrArg Prod.snd ep_
        clear ep_
        refine lv_goto (tgt := 44) hx hb dX11_lookItems_40 (by decide) ?_
        exact x_reti hx hb hr hlk hP hS (hres.symm.trans hF) dX11_lookItems_44
  · replace hres := hres.trans (if_neg c_1)
    refine lv_aload_n hx hb dX11_lookItems_9 rfl (lv_at hl 0 rfl) ?_
    refine lv_iconst (v := 1) hx hb dX11_lookItems_10 (by decide) ?_
    refine x_callVi (As := [.int 1]) S hK hAm hD hP hS mt_X11_finding wd_211 ⟨by decide, by decide⟩ (hL 40 0 (xe_40 nb nn)) (xc40 g 0) rfl (c_X11_finding l nb nn g L M hD hL 1) rfl hl.1 (Nat.le_of_ble_eq_true rfl) ⟨Nat.zero_le _, Nat.zero_le _⟩ dX11_lookItems_11 rfl (fun r_8 M_9 H locs ep_ hP hS => ?_)
    replace hres := xlet2_n hres ep_
    have er_8 : r_8 = (f_X11_finding 1 M).1 := congrArg Prod.fst ep_
    have eM_9 : M_9 = (f_X11_finding 1 M).2 := congrArg Prod.snd ep_
    clear ep_
    exact x_reti hx hb hr hlk hP hS (hres.symm.trans hF) dX11_lookItems_14
set_option maxHeartbeats 4000000 in
set_option maxRecDepth 100000 in
theorem c_X11_road (l : Launch) (nb nn : Nat) (g : xG) (L : List (Nat × Nat)) (M : xM) (hD : xD g L) (hL : xEL nb nn L) (a : Int32) (b : Int32) (v : Int32)  : xCi l yX11_road cX11_road 5 (some .int) 2 g L M [.ref (xad g 40 0), .int a, .int b, .int v] (fun r u => (r, u) = f_X11_road a b v M) := by
  intro sz
  refine x_beg (by decide +kernel) rfl ?_
  intro p e s m args below meth c ls hsz hB
  subst hsz
  obtain ⟨hx, hb, hml, hown, hts, hr, hlk, hK, hAm, hP, hl⟩ := hB
  have S : CallFix p m c cX11_road 5 s args (xws yX11_road cX11_road 5 (some .int)) RX11 := ⟨hx, hb, hml, hown, hts⟩
  have hown : s.vm.findClass RX11 = some m.cls := hown
  have hl : lv_has ls 5 [(0, .ref (xad g 40 0)), (1, .int a), (2, .int b), (3, .int v)] := hl
  have hS : va_S (xA g L s.heap.size) s.heap s.heap [] := va_S.rf
  obtain ⟨F, hF⟩ : ∃ F, F = f_X11_road a b v M := ⟨_, rfl⟩
  have hres := hF
  rw [f_X11_road] at hres
  refine lv_aload_n hx hb dX11_road_0 rfl (lv_at hl 0 rfl) ?_
  refine lv_iconst (v := 0) hx hb dX11_road_1 (by decide) ?_
  refine pf_RX11_113 hx hb hts hown hK hP hD hS (hL 40 0 (xe_40 nb nn)) dX11_road_2 (fun H locs hP hS => ?_)
  obtain ⟨M_1, eM_1⟩ : ∃ z_ : xM, z_ = xup M 40 0 0 0 := ⟨_, rfl⟩
  rw [← eM_1] at hP
  replace hres := xlet_n hres eM_1
  refine lv_iload_n hx hb dX11_road_5 rfl (lv_at hl 1 rfl) ?_
  refine x_callSi (As := [.int a]) S hK hAm hD hP hS mt_X11_isTown wd_281 ⟨by decide, by decide⟩ (c_X11_isTown l nb nn g L M_1 hD hL a) rfl hl.1 (Nat.le_of_ble_eq_true rfl) ⟨Nat.zero_le _, Nat.zero_le _⟩ dX11_road_6 rfl (fun r_2 u H locs hp_ hP hS => ?_)
  obtain ⟨er_2, eu_⟩ := hp_
  rw [eu_] at hP
  clear eu_
  replace hres := xlet_n hres er_2
  refine lv_if_eq (tgt := 36) hx hb dX11_road_9 (by decide) (fun c_3 => ?_) (fun c_3 => ?_)
  · replace hres := hres.trans (if_pos c_3)
    refine lv_ldc (own := RX11) (v := (-1000001)) hx hb hown (hts _ (List.mem_cons_of_mem _ wd_202)) dX11_road_36 ?_
    exact x_reti hx hb hr hlk hP hS (hres.symm.trans hF) dX11_road_38
  · replace hres := hres.trans (if_neg c_3)
    refine lv_iload_n hx hb dX11_road_12 rfl (lv_at hl 2 rfl) ?_
    refine x_callSi (As := [.int b]) S hK hAm hD hP hS mt_X11_isTown wd_281 ⟨by decide, by decide⟩ (c_X11_isTown l nb nn g L M_1 hD hL b) rfl hl.1 (Nat.le_of_ble_eq_true rfl) ⟨Nat.zero_le _, Nat.zero_le _⟩ dX11_road_13 rfl (fun r_4 u H locs hp_ hP hS => ?_)
    obtain ⟨er_4, eu_⟩ := hp_
    rw [eu_] at hP
    clear eu_
    replace hres := xlet_n hres er_4
    refine lv_if_eq (tgt := 36) hx hb dX11_road_16 (by decide) (fun c_5 => ?_) (fun c_5 => ?_)
    · replace hres := hres.trans (if_pos c_5)
      refine lv_ldc (own := RX11) (v := (-1000001)) hx hb hown (hts _ (List.mem_cons_of_mem _ wd_202)) dX11_road_36 ?_
      exact x_reti hx hb hr hlk hP hS (hres.symm.trans hF) dX11_road_38
    · replace hres := hres.trans (if_neg c_5)
      refine lv_iload_n hx hb dX11_road_19 rfl (lv_at hl 1 rfl) ?_
      refine lv_iload_n hx hb dX11_road_20 rfl (lv_at hl 2 rfl) ?_
      refine lv_icmp_eq (tgt := 36) hx hb dX11_road_21 (by decide) (fun c_6 => ?_) (fun c_6 => ?_)
      · replace hres := hres.trans (if_pos c_6)
        refine lv_ldc (own := RX11) (v := (-1000001)) hx hb hown (hts _ (List.mem_cons_of_mem _ wd_202)) dX11_road_36 ?_
        exact x_reti hx hb hr hlk hP hS (hres.symm.trans hF) dX11_road_38
      · replace hres := hres.trans (if_neg c_6)
        refine lv_iload_n hx hb dX11_road_24 rfl (lv_at hl 3 rfl) ?_
        refine lv_i2l (v := v.toInt64) hx hb dX11_road_25 rfl ?_
        refine lv_lconst (v := 0) hx hb dX11_road_26 (by decide) ?_
        refine lv_ldc2 (own := RX11) (v := 500) hx hb hown (hts _ (List.mem_cons_of_mem _ wd_280)) dX11_road_27 ?_
        refine x_callSi (As := [.long (v.toInt64), .long 0, .long 500]) S hK hAm hD hP hS mt_X11_in wd_208 ⟨by decide, by decide⟩ (c_X11_in l nb nn g L M_1 hD hL (v.toInt64) 0 500) rfl hl.1 (Nat.le_of_ble_eq_true rfl) ⟨Nat.zero_le _, Nat.zero_le _⟩ dX11_road_30 rfl (fun r_7 u H locs hp_ hP hS => ?_)
        obtain ⟨er_7, eu_⟩ := hp_
        rw [eu_] at hP
        clear eu_
        replace hres := xlet_n hres er_7
        refine lv_if_ne (tgt := 39) hx hb dX11_road_33 (by decide) (fun c_8 => ?_) (fun c_8 => ?_)
        · replace hres := hres.trans (if_neg c_8)
          refine lv_aload_n hx hb dX11_road_39 rfl (lv_at hl 0 rfl) ?_
          refine gf_RX11_19 hx hb hts hown hK hP (hL 40 0 (xe_40 nb nn)) dX11_road_40 ?_
          refine lv_bipush (v := 6) hx hb dX11_road_43 (by decide) ?_
          refine lv_iload_n hx hb dX11_road_45 rfl (lv_at hl 1 rfl) ?_
          refine lv_imul hx hb dX11_road_46 ?_
          refine lv_iload_n hx hb dX11_road_47 rfl (lv_at hl 2 rfl) ?_
          refine lv_iadd hx hb dX11_road_48 ?_
          refine x_iald hx hb hK hP (hL 55 0 (xe_55 nb nn)) (xc55 g 0) (ob_X11_road_49_in nb nn a b v M M_1 eM_1 r_2 er_2 c_3 r_4 er_4 c_5 c_6 r_7 er_7 c_8) dX11_road_49 ?_
          refine lv_topi (fun x4_9 ex4_9 => ?_)
          replace hres := xlet_n hres ex4_9
          refine lv_istore (lv' := [(4, .int x4_9), (0, .ref (xad g 40 0)), (1, .int a), (2, .int b), (3, .int v)]) hx hb dX11_road_50 hl (by decide) rfl (fun ls hl => ?_)
          refine lv_aload_n hx hb dX11_road_52 rfl (lv_at hl 1 rfl) ?_
          refine gf_RX11_19 hx hb hts hown hK hP (hL 40 0 (xe_40 nb nn)) dX11_road_53 ?_
          refine lv_bipush (v := 6) hx hb dX11_road_56 (by decide) ?_
          refine lv_iload_n hx hb dX11_road_58 rfl (lv_at hl 2 rfl) ?_
          refine lv_imul hx hb dX11_road_59 ?_
          refine lv_iload_n hx hb dX11_road_60 rfl (lv_at hl 3 rfl) ?_
          refine lv_iadd hx hb dX11_road_61 ?_
          refine lv_iload_n hx hb dX11_road_62 rfl (lv_at hl 4 rfl) ?_
          refine x_iast hx hb hK hP hD hS (hL 55 0 (xe_55 nb nn)) (xc55 g 0) (ob_X11_road_63_in nb nn a b v M M_1 eM_1 r_2 er_2 c_3 r_4 er_4 c_5 c_6 r_7 er_7 c_8 x4_9 ex4_9) dX11_road_63 (fun H locs hP hS => ?_)
          obtain ⟨M_10, eM_10⟩ : ∃ z_ : xM, z_ = xup M_1 55 0 ((6 * a) + b).toNatClampNeg v := ⟨_, rfl⟩
          rw [← eM_10] at hP
          replace hres := xlet_n hres eM_10
          refine lv_aload_n hx hb dX11_road_64 rfl (lv_at hl 1 rfl) ?_
          refine gf_RX11_19 hx hb hts hown hK hP (hL 40 0 (xe_40 nb nn)) dX11_road_65 ?_
          refine lv_bipush (v := 6) hx hb dX11_road_68 (by decide) ?_
          refine lv_iload_n hx hb dX11_road_70 rfl (lv_at hl 3 rfl) ?_
          refine lv_imul hx hb dX11_road_71 ?_
          refine lv_iload_n hx hb dX11_road_72 rfl (lv_at hl 2 rfl) ?_
          refine lv_iadd hx hb dX11_road_73 ?_
          refine lv_iload_n hx hb dX11_road_74 rfl (lv_at hl 4 rfl) ?_
          refine x_iast hx hb hK hP hD hS (hL 55 0 (xe_55 nb nn)) (xc55 g 0) (ob_X11_road_75_in nb nn a b v M M_1 eM_1 r_2 er_2 c_3 r_4 er_4 c_5 c_6 r_7 er_7 c_8 x4_9 ex4_9 M_10 eM_10) dX11_road_75 (fun H locs hP hS => ?_)
          obtain ⟨M_11, eM_11⟩ : ∃ z_ : xM, z_ = xup M_10 55 0 ((6 * b) + a).toNatClampNeg v := ⟨_, rfl⟩
          rw [← eM_11] at hP
          replace hres := xlet_n hres eM_11
          refine lv_iload hx hb dX11_road_76 (lv_at hl 0 rfl) ?_
          exact x_reti hx hb hr hlk hP hS (hres.symm.trans hF) dX11_road_78
        · replace hres := hres.trans (if_pos c_8)
          refine lv_ldc (own := RX11) (v := (-1000001)) hx hb hown (hts _ (List.mem_cons_of_mem _ wd_202)) dX11_road_36 ?_
          exact x_reti hx hb hr hlk hP hS (hres.symm.trans hF) dX11_road_38
set_option maxHeartbeats 4000000 in
set_option maxRecDepth 100000 in
theorem c_X11_farFrom (l : Launch) (nb nn : Nat) (g : xG) (L : List (Nat × Nat)) (M : xM) (hD : xD g L) (hL : xEL nb nn L) (a : Int32) (b : Int32) (hp0 : 0 ≤ b) (hp1 : b ≤ 5) : xCi l yX11_farFrom cX11_farFrom 7 (some .int) 0 g L M [.ref (xad g 40 0), .int a, .int b] (fun r u => (r, u) = f_X11_farFrom a b M) := by
  intro sz
  refine x_beg (by decide +kernel) rfl ?_
  intro p e s m args below meth c ls hsz hB
  subst hsz
  obtain ⟨hx, hb, hml, hown, hts, hr, hlk, hK, hAm, hP, hl⟩ := hB
  have S : CallFix p m c cX11_farFrom 7 s args (xws yX11_farFrom cX11_farFrom 7 (some .int)) RX11 := ⟨hx, hb, hml, hown, hts⟩
  have hown : s.vm.findClass RX11 = some m.cls := hown
  have hl : lv_has ls 7 [(0, .ref (xad g 40 0)), (1, .int a), (2, .int b)] := hl
  have hS : va_S (xA g L s.heap.size) s.heap s.heap [] := va_S.rf
  obtain ⟨F, hF⟩ : ∃ F, F = f_X11_farFrom a b M := ⟨_, rfl⟩
  have k_42 : ∀ (k : Int32) (n : Nat) (t : Int32) (N_ : xM) (H : Heap) (locs : List Loc) (ls : Array Slot) (kx : (Int32 → xM → Int32 × xM)), xmu t 36 < n → 0 ≤ t → F = f_X11_farFrom_L42 a b k n t N_ kx → xP g L N_ H → va_S (xA g L s.heap.size) s.heap H locs → lv_has ls 7 [(0, .ref (xad g 40 0)), (1, .int a), (2, .int b), (3, .int k), (4, .int t)] → (∀ (t : Int32) (N_ : xM) (H : Heap) (locs : List Loc) (ls : Array Slot), 0 ≤ t → F = kx t N_ → xP g L N_ H → va_S (xA g L s.heap.size) s.heap H locs → lv_has ls 7 [(0, .ref (xad g 40 0)), (1, .int a), (2, .int b), (3, .int k), (4, .int t)] → W p l e (xr 0) s m args below meth c H locs 0 0 (MQ below (va_Qi (fun r u => (r, u) = f_X11_farFrom a b M) (xPost g L) (xA g L s.heap.size)) args s 0 0 (xA g L s.heap.size)) (F0 m 150 ls [])) → W p l e (xr 0) s m args below meth c H locs 0 0 (MQ below (va_Qi (fun r u => (r, u) = f_X11_farFrom a b M) (xPost g L) (xA g L s.heap.size)) args s 0 0 (xA g L s.heap.size)) (F0 m 42 ls []) := by
    intro k n
    induction n with
    | zero => intro t N_ H locs ls kx hmu; exact absurd hmu (Nat.not_lt_zero _)
    | succ n ih =>
      intro t N_ H locs ls kx hmu hinv hres hP hS hl hex
      replace hres : F = _ := hres.trans (by rw [f_X11_farFrom_L42])
      refine lv_iload hx hb dX11_farFrom_42 (lv_at hl 4 rfl) ?_
      refine lv_bipush (v := 36) hx hb dX11_farFrom_44 (by decide) ?_
      refine lv_icmp_ge (tgt := 150) hx hb dX11_farFrom_46 (by decide) (fun c_1 => ?_) (fun c_1 => ?_)
      · replace hres := hres.trans (if_pos c_1)
        exact hex t N_ _ _ _ (ob_X11_farFrom_150_x42 nb nn a b M hp0 hp1 k n t N_ hmu hinv c_1) hres hP hS (lv_sub hl [0, 1, 2, 3, 4] rfl)
      · replace hres := hres.trans (if_neg c_1)
        refine lv_iload hx hb dX11_farFrom_49 (lv_at hl 4 rfl) ?_
        refine lv_bipush (v := 6) hx hb dX11_farFrom_51 (by decide) ?_
        refine lv_idiv hx hb dX11_farFrom_53 (by decide) ?_
        refine lv_topi (fun x5_2 ex5_2 => ?_)
        replace hres := xlet_n hres ex5_2
        refine lv_istore (lv' := [(5, .int x5_2), (0, .ref (xad g 40 0)), (1, .int a), (2, .int b), (3, .int k), (4, .int t)]) hx hb dX11_farFrom_54 hl (by decide) rfl (fun ls hl => ?_)
        refine lv_iload hx hb dX11_farFrom_56 (lv_at hl 5 rfl) ?_
        refine lv_bipush (v := 6) hx hb dX11_farFrom_58 (by decide) ?_
        refine lv_irem hx hb dX11_farFrom_60 (by decide) ?_
        refine lv_topi (fun x6_3 ex6_3 => ?_)
        replace hres := xlet_n hres ex6_3
        refine lv_istore (lv' := [(6, .int x6_3), (5, .int x5_2), (0, .ref (xad g 40 0)), (1, .int a), (2, .int b), (3, .int k), (4, .int t)]) hx hb dX11_farFrom_61 hl (by decide) rfl (fun ls hl => ?_)
        refine lv_aload_n hx hb dX11_farFrom_63 rfl (lv_at hl 2 rfl) ?_
        refine gf_RX11_19 hx hb hts hown hK hP (hL 40 0 (xe_40 nb nn)) dX11_farFrom_64 ?_
        refine lv_iload hx hb dX11_farFrom_67 (lv_at hl 6 rfl) ?_
        refine x_iald hx hb hK hP (hL 55 0 (xe_55 nb nn)) (xc55 g 0) (ob_X11_farFrom_69_in nb nn a b M hp0 hp1 k n t N_ hmu hinv c_1 x5_2 ex5_2 x6_3 ex6_3) dX11_farFrom_69 ?_
        refine lv_if_le (tgt := 144) hx hb dX11_farFrom_70 (by decide) (fun c_4 => ?_) (fun c_4 => ?_)
        · replace hres := hres.trans (if_pos c_4)
          obtain ⟨x4_5, ex4_5⟩ : ∃ z_ : Int32, z_ = t + 1 := ⟨_, rfl⟩
          replace hres := xlet_n hres ex4_5
          refine lv_iinc (v := x4_5) (lv' := [(4, .int x4_5), (6, .int x6_3), (5, .int x5_2), (0, .ref (xad g 40 0)), (1, .int a), (2, .int b), (3, .int k)]) hx hb dX11_farFrom_144 hl (k := 6) rfl (by rw [ex4_5]; rfl) (by decide) rfl (fun ls hl => ?_)
          refine lv_goto (tgt := 42) hx hb dX11_farFrom_147 (by decide) ?_
          exact ih x4_5 N_ _ _ _ kx (ob_X11_farFrom_42_mu_5 nb nn a b M hp0 hp1 k n t N_ hmu hinv c_1 x5_2 ex5_2 x6_3 ex6_3 c_4 x4_5 ex4_5) (ob_X11_farFrom_42_inv_5 nb nn a b M hp0 hp1 k n t N_ hmu hinv c_1 x5_2 ex5_2 x6_3 ex6_3 c_4 x4_5 ex4_5) hres hP hS (lv_sub hl [3, 4, 5, 6, 0] rfl) hex
        · replace hres := hres.trans (if_neg c_4)
          refine lv_aload_n hx hb dX11_farFrom_73 rfl (lv_at hl 2 rfl) ?_
          refine gf_RX11_22 hx hb hts hown hK hP (hL 40 0 (xe_40 nb nn)) dX11_farFrom_74 ?_
          refine lv_iload hx hb dX11_farFrom_77 (lv_at hl 1 rfl) ?_
          refine x_iald hx hb hK hP (hL 56 0 (xe_56 nb nn)) (xc56 g 0) (ob_X11_farFrom_79_in nb nn a b M hp0 hp1 k n t N_ hmu hinv c_1 x5_2 ex5_2 x6_3 ex6_3 c_4) dX11_farFrom_79 ?_
          refine lv_ldc (own := RX11) (v := (-1000000)) hx hb hown (hts _ (List.mem_cons_of_mem _ wd_302)) dX11_farFrom_80 ?_
          refine lv_icmp_eq (tgt := 144) hx hb dX11_farFrom_82 (by decide) (fun c_6 => ?_) (fun c_6 => ?_)
          · replace hres := hres.trans (if_pos c_6)
            obtain ⟨x4_7, ex4_7⟩ : ∃ z_ : Int32, z_ = t + 1 := ⟨_, rfl⟩
            replace hres := xlet_n hres ex4_7
            refine lv_iinc (v := x4_7) (lv' := [(4, .int x4_7), (6, .int x6_3), (5, .int x5_2), (0, .ref (xad g 40 0)), (1, .int a), (2, .int b), (3, .int k)]) hx hb dX11_farFrom_144 hl (k := 6) rfl (by rw [ex4_7]; rfl) (by decide) rfl (fun ls hl => ?_)
            refine lv_goto (tgt := 42) hx hb dX11_farFrom_147 (by decide) ?_
            exact ih x4_7 N_ _ _ _ kx (ob_X11_farFrom_42_mu_7 nb nn a b M hp0 hp1 k n t N_ hmu hinv c_1 x5_2 ex5_2 x6_3 ex6_3 c_4 c_6 x4_7 ex4_7) (ob_X11_farFrom_42_inv_7 nb nn a b M hp0 hp1 k n t N_ hmu hinv c_1 x5_2 ex5_2 x6_3 ex6_3 c_4 c_6 x4_7 ex4_7) hres hP hS (lv_sub hl [3, 4, 5, 6, 0] rfl) hex
          · replace hres := hres.trans (if_neg c_6)
            refine lv_aload_n hx hb dX11_farFrom_85 rfl (lv_at hl 2 rfl) ?_
            refine gf_RX11_22 hx hb hts hown hK hP (hL 40 0 (xe_40 nb nn)) dX11_farFrom_86 ?_
            refine lv_iload hx hb dX11_farFrom_89 (lv_at hl 0 rfl) ?_
            refine x_iald hx hb hK hP (hL 56 0 (xe_56 nb nn)) (xc56 g 0) (ob_X11_farFrom_91_in nb nn a b M hp0 hp1 k n t N_ hmu hinv c_1 x5_2 ex5_2 x6_3 ex6_3 c_4 c_6) dX11_farFrom_91 ?_
            refine lv_ldc (own := RX11) (v := (-1000000)) hx hb hown (hts _ (List.mem_cons_of_mem _ wd_302)) dX11_farFrom_92 ?_
            refine lv_icmp_eq (tgt := 122) hx hb dX11_farFrom_94 (by decide) (fun c_8 => ?_) (fun c_8 => ?_)
            · replace hres := hres.trans (if_pos c_8)
              refine lv_aload_n hx hb dX11_farFrom_122 rfl (lv_at hl 2 rfl) ?_
              refine gf_RX11_22 hx hb hts hown hK hP (hL 40 0 (xe_40 nb nn)) dX11_farFrom_123 ?_
              refine lv_iload hx hb dX11_farFrom_126 (lv_at hl 0 rfl) ?_
              refine lv_aload_n hx hb dX11_farFrom_128 rfl (lv_at hl 2 rfl) ?_
              refine gf_RX11_22 hx hb hts hown hK hP (hL 40 0 (xe_40 nb nn)) dX11_farFrom_129 ?_
              refine lv_iload hx hb dX11_farFrom_132 (lv_at hl 1 rfl) ?_
              refine x_iald hx hb hK hP (hL 56 0 (xe_56 nb nn)) (xc56 g 0) (ob_X11_farFrom_134_in nb nn a b M hp0 hp1 k n t N_ hmu hinv c_1 x5_2 ex5_2 x6_3 ex6_3 c_4 c_6 c_8) dX11_farFrom_134 ?_
              refine lv_aload_n hx hb dX11_farFrom_135 rfl (lv_at hl 2 rfl) ?_
              refine gf_RX11_19 hx hb hts hown hK hP (hL 40 0 (xe_40 nb nn)) dX11_farFrom_136 ?_
              refine lv_iload hx hb dX11_farFrom_139 (lv_at hl 6 rfl) ?_
              refine x_iald hx hb hK hP (hL 55 0 (xe_55 nb nn)) (xc55 g 0) (ob_X11_farFrom_141_in nb nn a b M hp0 hp1 k n t N_ hmu hinv c_1 x5_2 ex5_2 x6_3 ex6_3 c_4 c_6 c_8) dX11_farFrom_141 ?_
              refine lv_iadd hx hb dX11_farFrom_142 ?_
              refine lv_topi (fun v_9 ev_9 => ?_)
              replace hres := xlet_n hres ev_9
              refine x_iast hx hb hK hP hD hS (hL 56 0 (xe_56 nb nn)) (xc56 g 0) (ob_X11_farFrom_143_in nb nn a b M hp0 hp1 k n t N_ hmu hinv c_1 x5_2 ex5_2 x6_3 ex6_3 c_4 c_6 c_8 v_9 ev_9) dX11_farFrom_143 (fun H locs hP hS => ?_)
              obtain ⟨M_10, eM_10⟩ : ∃ z_ : xM, z_ = xup N_ 56 0 x6_3.toNatClampNeg v_9 := ⟨_, rfl⟩
              rw [← eM_10] at hP
              replace hres := xlet_n hres eM_10
              obtain ⟨x4_11, ex4_11⟩ : ∃ z_ : Int32, z_ = t + 1 := ⟨_, rfl⟩
              replace hres := xlet_n hres ex4_11
              refine lv_iinc (v := x4_11) (lv' := [(4, .int x4_11), (6, .int x6_3), (5, .int x5_2), (0, .ref (xad g 40 0)), (1, .int a), (2, .int b), (3, .int k)]) hx hb dX11_farFrom_144 hl (k := 6) rfl (by rw [ex4_11]; rfl) (by decide) rfl (fun ls hl => ?_)
              refine lv_goto (tgt := 42) hx hb dX11_farFrom_147 (by decide) ?_
              exact ih x4_11 M_10 _ _ _ kx (ob_X11_farFrom_42_mu_11 nb nn a b M hp0 hp1 k n t N_ hmu hinv c_1 x5_2 ex5_2 x6_3 ex6_3 c_4 c_6 c_8 v_9 ev_9 M_10 eM_10 x4_11 ex4_11) (ob_X11_farFrom_42_inv_11 nb nn a b M hp0 hp1 k n t N_ hmu hinv c_1 x5_2 ex5_2 x6_3 ex6_3 c_4 c_6 c_8 v_9 ev_9 M_10 eM_10 x4_11 ex4_11) hres hP hS (lv_sub hl [3, 4, 5, 6, 0] rfl) hex
            · replace hres := hres.trans (if_neg c_8)
              refine lv_aload_n hx hb dX11_farFrom_97 rfl (lv_at hl 2 rfl) ?_
              refine gf_RX11_22 hx hb hts hown hK hP (hL 40 0 (xe_40 nb nn)) dX11_farFrom_98 ?_
              refine lv_iload hx hb dX11_farFrom_101 (lv_at hl 1 rfl) ?_
              refine x_iald hx hb hK hP (hL 56 0 (xe_56 nb nn)) (xc56 g 0) (ob_X11_farFrom_103_in nb nn a b M hp0 hp1 k n t N_ hmu hinv c_1 x5_2 ex5_2 x6_3 ex6_3 c_4 c_6 c_8) dX11_farFrom_103 ?_
              refine lv_aload_n hx hb dX11_farFrom_104 rfl (lv_at hl 2 rfl) ?_
              refine gf_RX11_19 hx hb hts hown hK hP (hL 40 0 (xe_40 nb nn)) dX11_farFrom_105 ?_
              refine lv_iload hx hb dX11_farFrom_108 (lv_at hl 6 rfl) ?_
              refine x_iald hx hb hK hP (hL 55 0 (xe_55 nb nn)) (xc55 g 0) (ob_X11_farFrom_110_in nb nn a b M hp0 hp1 k n t N_ hmu hinv c_1 x5_2 ex5_2 x6_3 ex6_3 c_4 c_6 c_8) dX11_farFrom_110 ?_
              refine lv_iadd hx hb dX11_farFrom_111 ?_
              refine lv_aload_n hx hb dX11_farFrom_112 rfl (lv_at hl 2 rfl) ?_
              refine gf_RX11_22 hx hb hts hown hK hP (hL 40 0 (xe_40 nb nn)) dX11_farFrom_113 ?_
              refine lv_iload hx hb dX11_farFrom_116 (lv_at hl 0 rfl) ?_
              refine x_iald hx hb hK hP (hL 56 0 (xe_56 nb nn)) (xc56 g 0) (ob_X11_farFrom_118_in nb nn a b M hp0 hp1 k n t N_ hmu hinv c_1 x5_2 ex5_2 x6_3 ex6_3 c_4 c_6 c_8) dX11_farFrom_118 ?_
              refine lv_icmp_ge (tgt := 144) hx hb dX11_farFrom_119 (by decide) (fun c_12 => ?_) (fun c_12 => ?_)
              · replace hres := hres.trans (if_pos c_12)
                obtain ⟨x4_13, ex4_13⟩ : ∃ z_ : Int32, z_ = t + 1 := ⟨_, rfl⟩
                replace hres := xlet_n hres ex4_13
                refine lv_iinc (v := x4_13) (lv' := [(4, .int x4_13), (6, .int x6_3), (5, .int x5_2), (0, .ref (xad g 40 0)), (1, .int a), (2, .int b), (3, .int k)]) hx hb dX11_farFrom_144 hl (k := 6) rfl (by rw [ex4_13]; rfl) (by decide) rfl (fun ls hl => ?_)
                refine lv_goto (tgt := 42) hx hb dX11_farFrom_147 (by decide) ?_
                exact ih x4_13 N_ _ _ _ kx (ob_X11_farFrom_42_mu_13 nb nn a b M hp0 hp1 k n t N_ hmu hinv c_1 x5_2 ex5_2 x6_3 ex6_3 c_4 c_6 c_8 c_12 x4_13 ex4_13) (ob_X11_farFrom_42_inv_13 nb nn a b M hp0 hp1 k n t N_ hmu hinv c_1 x5_2 ex5_2 x6_3 ex6_3 c_4 c_6 c_8 c_12 x4_13 ex4_13) hres hP hS (lv_sub hl [3, 4, 5, 6, 0] rfl) hex
              · replace hres := hres.trans (if_neg c_12)
                refine lv_aload_n hx hb dX11_farFrom_122 rfl (lv_at hl 2 rfl) ?_
                refine gf_RX11_22 hx hb hts hown hK hP (hL 40 0 (xe_40 nb nn)) dX11_farFrom_123 ?_
                refine lv_iload hx hb dX11_farFrom_126 (lv_at hl 0 rfl) ?_
                refine lv_aload_n hx hb dX11_farFrom_128 rfl (lv_at hl 2 rfl) ?_
                refine gf_RX11_22 hx hb hts hown hK hP (hL 40 0 (xe_40 nb nn)) dX11_farFrom_129 ?_
                refine lv_iload hx hb dX11_farFrom_132 (lv_at hl 1 rfl) ?_
                refine x_iald hx hb hK hP (hL 56 0 (xe_56 nb nn)) (xc56 g 0) (ob_X11_farFrom_134_in_2 nb nn a b M hp0 hp1 k n t N_ hmu hinv c_1 x5_2 ex5_2 x6_3 ex6_3 c_4 c_6 c_8 c_12) dX11_farFrom_134 ?_
                refine lv_aload_n hx hb dX11_farFrom_135 rfl (lv_at hl 2 rfl) ?_
                refine gf_RX11_19 hx hb hts hown hK hP (hL 40 0 (xe_40 nb nn)) dX11_farFrom_136 ?_
                refine lv_iload hx hb dX11_farFrom_139 (lv_at hl 6 rfl) ?_
                refine x_iald hx hb hK hP (hL 55 0 (xe_55 nb nn)) (xc55 g 0) (ob_X11_farFrom_141_in_2 nb nn a b M hp0 hp1 k n t N_ hmu hinv c_1 x5_2 ex5_2 x6_3 ex6_3 c_4 c_6 c_8 c_12) dX11_farFrom_141 ?_
                refine lv_iadd hx hb dX11_farFrom_142 ?_
                refine lv_topi (fun v_14 ev_14 => ?_)
                replace hres := xlet_n hres ev_14
                refine x_iast hx hb hK hP hD hS (hL 56 0 (xe_56 nb nn)) (xc56 g 0) (ob_X11_farFrom_143_in_2 nb nn a b M hp0 hp1 k n t N_ hmu hinv c_1 x5_2 ex5_2 x6_3 ex6_3 c_4 c_6 c_8 c_12 v_14 ev_14) dX11_farFrom_143 (fun H locs hP hS => ?_)
                obtain ⟨M_15, eM_15⟩ : ∃ z_ : xM, z_ = xup N_ 56 0 x6_3.toNatClampNeg v_14 := ⟨_, rfl⟩
                rw [← eM_15] at hP
                replace hres := xlet_n hres eM_15
                obtain ⟨x4_16, ex4_16⟩ : ∃ z_ : Int32, z_ = t + 1 := ⟨_, rfl⟩
                replace hres := xlet_n hres ex4_16
                refine lv_iinc (v := x4_16) (lv' := [(4, .int x4_16), (6, .int x6_3), (5, .int x5_2), (0, .ref (xad g 40 0)), (1, .int a), (2, .int b), (3, .int k)]) hx hb dX11_farFrom_144 hl (k := 6) rfl (by rw [ex4_16]; rfl) (by decide) rfl (fun ls hl => ?_)
                refine lv_goto (tgt := 42) hx hb dX11_farFrom_147 (by decide) ?_
                exact ih x4_16 M_15 _ _ _ kx (ob_X11_farFrom_42_mu_16 nb nn a b M hp0 hp1 k n t N_ hmu hinv c_1 x5_2 ex5_2 x6_3 ex6_3 c_4 c_6 c_8 c_12 v_14 ev_14 M_15 eM_15 x4_16 ex4_16) (ob_X11_farFrom_42_inv_16 nb nn a b M hp0 hp1 k n t N_ hmu hinv c_1 x5_2 ex5_2 x6_3 ex6_3 c_4 c_6 c_8 c_12 v_14 ev_14 M_15 eM_15 x4_16 ex4_16) hres hP hS (lv_sub hl [3, 4, 5, 6, 0] rfl) hex
  have k_33 : ∀ (n : Nat) (k : Int32) (N_ : xM) (H : Heap) (locs : List Loc) (ls : Array Slot) (kx : (Int32 → xM → Int32 × xM)), xmu k 6 < n → True → F = f_X11_farFrom_L33 a b n k N_ kx → xP g L N_ H → va_S (xA g L s.heap.size) s.heap H locs → lv_has ls 7 [(0, .ref (xad g 40 0)), (1, .int a), (2, .int b), (3, .int k)] → (∀ (k : Int32) (N_ : xM) (H : Heap) (locs : List Loc) (ls : Array Slot), True → F = kx k N_ → xP g L N_ H → va_S (xA g L s.heap.size) s.heap H locs → lv_has ls 7 [(0, .ref (xad g 40 0)), (1, .int a), (2, .int b), (3, .int k)] → W p l e (xr 0) s m args below meth c H locs 0 0 (MQ below (va_Qi (fun r u => (r, u) = f_X11_farFrom a b M) (xPost g L) (xA g L s.heap.size)) args s 0 0 (xA g L s.heap.size)) (F0 m 156 ls [])) → W p l e (xr 0) s m args below meth c H locs 0 0 (MQ below (va_Qi (fun r u => (r, u) = f_X11_farFrom a b M) (xPost g L) (xA g L s.heap.size)) args s 0 0 (xA g L s.heap.size)) (F0 m 33 ls []) := by
    intro n
    induction n with
    | zero => intro k N_ H locs ls kx hmu; exact absurd hmu (Nat.not_lt_zero _)
    | succ n ih =>
      intro k N_ H locs ls kx hmu hinv hres hP hS hl hex
      replace hres : F = _ := hres.trans (by rw [f_X11_farFrom_L33])
      refine lv_iload_n hx hb dX11_farFrom_33 rfl (lv_at hl 3 rfl) ?_
      refine lv_bipush (v := 6) hx hb dX11_farFrom_34 (by decide) ?_
      refine lv_icmp_ge (tgt := 156) hx hb dX11_farFrom_36 (by decide) (fun c_17 => ?_) (fun c_17 => ?_)
      · replace hres := hres.trans (if_pos c_17)
        exact hex k N_ _ _ _ trivial hres hP hS (lv_sub hl [0, 1, 2, 3] rfl)
      · replace hres := hres.trans (if_neg c_17)
        refine lv_iconst (v := 0) hx hb dX11_farFrom_39 (by decide) ?_
        refine lv_istore (lv' := [(4, .int 0), (0, .ref (xad g 40 0)), (1, .int a), (2, .int b), (3, .int k)]) hx hb dX11_farFrom_40 hl (by decide) rfl (fun ls hl => ?_)
        refine k_42 k (xmu (0 : Int32) 36 + 1) (0 : Int32) N_ _ _ _ _ (Nat.lt_succ_self _) (ob_X11_farFrom_42_ini_17 nb nn a b M hp0 hp1 n k N_ hmu hinv c_17) hres hP hS (lv_sub hl [1, 2, 3, 4, 0] rfl) ?_
        clear hres hP hS hl
        intro t_18 M_19 H locs ls hiv_19 hres hP hS hl
        obtain ⟨x3_20, ex3_20⟩ : ∃ z_ : Int32, z_ = k + 1 := ⟨_, rfl⟩
        replace hres := xlet_n hres ex3_20
        refine lv_iinc (v := x3_20) (lv' := [(3, .int x3_20), (0, .ref (xad g 40 0)), (1, .int a), (2, .int b), (4, .int t_18)]) hx hb dX11_farFrom_150 hl (k := 3) rfl (by rw [ex3_20]; rfl) (by decide) rfl (fun ls hl => ?_)
        refine lv_goto (tgt := 33) hx hb dX11_farFrom_153 (by decide) ?_
        exact ih x3_20 M_19 _ _ _ kx (ob_X11_farFrom_33_mu_20 nb nn a b M hp0 hp1 n k N_ hmu hinv c_17 t_18 M_19 hiv_19 x3_20 ex3_20) trivial hres hP hS (lv_sub hl [1, 2, 3, 0] rfl) hex
  have k_2 : ∀ (n : Nat) (t : Int32) (N_ : xM) (H : Heap) (locs : List Loc) (ls : Array Slot) (kx : (Int32 → xM → Int32 × xM)), xmu t 6 < n → 0 ≤ t → F = f_X11_farFrom_L2 a b n t N_ kx → xP g L N_ H → va_S (xA g L s.heap.size) s.heap H locs → lv_has ls 7 [(0, .ref (xad g 40 0)), (1, .int a), (2, .int b), (3, .int t)] → (∀ (t : Int32) (N_ : xM) (H : Heap) (locs : List Loc) (ls : Array Slot), 0 ≤ t → F = kx t N_ → xP g L N_ H → va_S (xA g L s.heap.size) s.heap H locs → lv_has ls 7 [(0, .ref (xad g 40 0)), (1, .int a), (2, .int b), (3, .int t)] → W p l e (xr 0) s m args below meth c H locs 0 0 (MQ below (va_Qi (fun r u => (r, u) = f_X11_farFrom a b M) (xPost g L) (xA g L s.heap.size)) args s 0 0 (xA g L s.heap.size)) (F0 m 31 ls [])) → W p l e (xr 0) s m args below meth c H locs 0 0 (MQ below (va_Qi (fun r u => (r, u) = f_X11_farFrom a b M) (xPost g L) (xA g L s.heap.size)) args s 0 0 (xA g L s.heap.size)) (F0 m 2 ls []) := by
    intro n
    induction n with
    | zero => intro t N_ H locs ls kx hmu; exact absurd hmu (Nat.not_lt_zero _)
    | succ n ih =>
      intro t N_ H locs ls kx hmu hinv hres hP hS hl hex
      replace hres : F = _ := hres.trans (by rw [f_X11_farFrom_L2])
      refine lv_iload_n hx hb dX11_farFrom_2 rfl (lv_at hl 3 rfl) ?_
      refine lv_bipush (v := 6) hx hb dX11_farFrom_3 (by decide) ?_
      refine lv_icmp_ge (tgt := 31) hx hb dX11_farFrom_5 (by decide) (fun c_21 => ?_) (fun c_21 => ?_)
      · replace hres := hres.trans (if_pos c_21)
        exact hex t N_ _ _ _ (ob_X11_farFrom_31_x2 nb nn a b M hp0 hp1 n t N_ hmu hinv c_21) hres hP hS (lv_sub hl [0, 1, 2, 3] rfl)
      · replace hres := hres.trans (if_neg c_21)
        refine lv_aload_n hx hb dX11_farFrom_8 rfl (lv_at hl 0 rfl) ?_
        refine gf_RX11_22 hx hb hts hown hK hP (hL 40 0 (xe_40 nb nn)) dX11_farFrom_9 ?_
        refine lv_iload_n hx hb dX11_farFrom_12 rfl (lv_at hl 3 rfl) ?_
        refine lv_iload_n hx hb dX11_farFrom_13 rfl (lv_at hl 3 rfl) ?_
        refine lv_iload_n hx hb dX11_farFrom_14 rfl (lv_at hl 1 rfl) ?_
        refine lv_icmp_ne (tgt := 22) hx hb dX11_farFrom_15 (by decide) (fun c_22 => ?_) (fun c_22 => ?_)
        · replace hres := hres.trans (if_neg c_22)
          refine lv_ldc (own := RX11) (v := (-1000000)) hx hb hown (hts _ (List.mem_cons_of_mem _ wd_302)) dX11_farFrom_22 ?_
          refine x_iast hx hb hK hP hD hS (hL 56 0 (xe_56 nb nn)) (xc56 g 0) (ob_X11_farFrom_24_in nb nn a b M hp0 hp1 n t N_ hmu hinv c_21 c_22) dX11_farFrom_24 (fun H locs hP hS => ?_)
          obtain ⟨M_23, eM_23⟩ : ∃ z_ : xM, z_ = xup N_ 56 0 t.toNatClampNeg (-1000000) := ⟨_, rfl⟩
          rw [← eM_23] at hP
          replace hres := xlet_n hres eM_23
          obtain ⟨x3_24, ex3_24⟩ : ∃ z_ : Int32, z_ = t + 1 := ⟨_, rfl⟩
          replace hres := xlet_n hres ex3_24
          refine lv_iinc (v := x3_24) (lv' := [(3, .int x3_24), (0, .ref (xad g 40 0)), (1, .int a), (2, .int b)]) hx hb dX11_farFrom_25 hl (k := 3) rfl (by rw [ex3_24]; rfl) (by decide) rfl (fun ls hl => ?_)
          refine lv_goto (tgt := 2) hx hb dX11_farFrom_28 (by decide) ?_
          exact ih x3_24 M_23 _ _ _ kx (ob_X11_farFrom_2_mu_24 nb nn a b M hp0 hp1 n t N_ hmu hinv c_21 c_22 M_23 eM_23 x3_24 ex3_24) (ob_X11_farFrom_2_inv_24 nb nn a b M hp0 hp1 n t N_ hmu hinv c_21 c_22 M_23 eM_23 x3_24 ex3_24) hres hP hS (lv_sub hl [1, 2, 3, 0] rfl) hex
        · replace hres := hres.trans (if_pos c_22)
          refine lv_iconst (v := 0) hx hb dX11_farFrom_18 (by decide) ?_
          refine lv_goto (tgt := 24) hx hb dX11_farFrom_19 (by decide) ?_
          refine x_iast hx hb hK hP hD hS (hL 56 0 (xe_56 nb nn)) (xc56 g 0) (ob_X11_farFrom_24_in_2 nb nn a b M hp0 hp1 n t N_ hmu hinv c_21 c_22) dX11_farFrom_24 (fun H locs hP hS => ?_)
          obtain ⟨M_25, eM_25⟩ : ∃ z_ : xM, z_ = xup N_ 56 0 t.toNatClampNeg 0 := ⟨_, rfl⟩
          rw [← eM_25] at hP
          replace hres := xlet_n hres eM_25
          obtain ⟨x3_26, ex3_26⟩ : ∃ z_ : Int32, z_ = t + 1 := ⟨_, rfl⟩
          replace hres := xlet_n hres ex3_26
          refine lv_iinc (v := x3_26) (lv' := [(3, .int x3_26), (0, .ref (xad g 40 0)), (1, .int a), (2, .int b)]) hx hb dX11_farFrom_25 hl (k := 3) rfl (by rw [ex3_26]; rfl) (by decide) rfl (fun ls hl => ?_)
          refine lv_goto (tgt := 2) hx hb dX11_farFrom_28 (by decide) ?_
          exact ih x3_26 M_25 _ _ _ kx (ob_X11_farFrom_2_mu_26 nb nn a b M hp0 hp1 n t N_ hmu hinv c_21 c_22 M_25 eM_25 x3_26 ex3_26) (ob_X11_farFrom_2_inv_26 nb nn a b M hp0 hp1 n t N_ hmu hinv c_21 c_22 M_25 eM_25 x3_26 ex3_26) hres hP hS (lv_sub hl [1, 2, 3, 0] rfl) hex
  have hres := hF
  rw [f_X11_farFrom] at hres
  refine lv_iconst (v := 0) hx hb dX11_farFrom_0 (by decide) ?_
  refine lv_istore_n (lv' := [(3, .int 0), (0, .ref (xad g 40 0)), (1, .int a), (2, .int b)]) hx hb dX11_farFrom_1 rfl hl (by decide) rfl (fun ls hl => ?_)
  refine k_2 (xmu (0 : Int32) 6 + 1) (0 : Int32) M _ _ _ _ (Nat.lt_succ_self _) (ob_X11_farFrom_2_ini_26 nb nn a b M hp0 hp1) hres hP hS (lv_sub hl [1, 2, 3, 0] rfl) ?_
  clear hres hP hS hl
  intro t_27 M_28 H locs ls hiv_28 hres hP hS hl
  refine lv_iconst (v := 0) hx hb dX11_farFrom_31 (by decide) ?_
  refine lv_istore_n (lv' := [(3, .int 0), (0, .ref (xad g 40 0)), (1, .int a), (2, .int b)]) hx hb dX11_farFrom_32 rfl hl (by decide) rfl (fun ls hl => ?_)
  refine k_33 (xmu (0 : Int32) 6 + 1) (0 : Int32) M_28 _ _ _ _ (Nat.lt_succ_self _) trivial hres hP hS (lv_sub hl [1, 2, 3, 0] rfl) ?_
  clear hres hP hS hl
  intro k_29 M_30 H locs ls hiv_30 hres hP hS hl
  refine lv_aload_n hx hb dX11_farFrom_156 rfl (lv_at hl 0 rfl) ?_
  refine gf_RX11_22 hx hb hts hown hK hP (hL 40 0 (xe_40 nb nn)) dX11_farFrom_157 ?_
  refine lv_iload_n hx hb dX11_farFrom_160 rfl (lv_at hl 2 rfl) ?_
  refine x_iald hx hb hK hP (hL 56 0 (xe_56 nb nn)) (xc56 g 0) (ob_X11_farFrom_161_in nb nn a b M hp0 hp1 t_27 M_28 hiv_28 k_29 M_30 hiv_30) dX11_farFrom_161 ?_
  exact x_reti hx hb hr hlk hP hS (hres.symm.trans hF) dX11_farFrom_162
set_option maxHeartbeats 4000000 in
set_option maxRecDepth 100000 in
theorem c_X11_far (l : Launch) (nb nn : Nat) (g : xG) (L : List (Nat × Nat)) (M : xM) (hD : xD g L) (hL : xEL nb nn L) (a : Int32) (b : Int32)  : xCi l yX11_far cX11_far 3 (some .int) 2 g L M [.ref (xad g 40 0), .int a, .int b] (fun r u => (r, u) = f_X11_far a b M) := by
  intro sz
  refine x_beg (by decide +kernel) rfl ?_
  intro p e s m args below meth c ls hsz hB
  subst hsz
  obtain ⟨hx, hb, hml, hown, hts, hr, hlk, hK, hAm, hP, hl⟩ := hB
  have S : CallFix p m c cX11_far 3 s args (xws yX11_far cX11_far 3 (some .int)) RX11 := ⟨hx, hb, hml, hown, hts⟩
  have hown : s.vm.findClass RX11 = some m.cls := hown
  have hl : lv_has ls 3 [(0, .ref (xad g 40 0)), (1, .int a), (2, .int b)] := hl
  have hS : va_S (xA g L s.heap.size) s.heap s.heap [] := va_S.rf
  obtain ⟨F, hF⟩ : ∃ F, F = f_X11_far a b M := ⟨_, rfl⟩
  have hres := hF
  rw [f_X11_far] at hres
  refine lv_aload_n hx hb dX11_far_0 rfl (lv_at hl 0 rfl) ?_
  refine lv_iconst (v := 0) hx hb dX11_far_1 (by decide) ?_
  refine pf_RX11_113 hx hb hts hown hK hP hD hS (hL 40 0 (xe_40 nb nn)) dX11_far_2 (fun H locs hP hS => ?_)
  obtain ⟨M_1, eM_1⟩ : ∃ z_ : xM, z_ = xup M 40 0 0 0 := ⟨_, rfl⟩
  rw [← eM_1] at hP
  replace hres := xlet_n hres eM_1
  refine lv_iload_n hx hb dX11_far_5 rfl (lv_at hl 1 rfl) ?_
  refine x_callSi (As := [.int a]) S hK hAm hD hP hS mt_X11_isTown wd_281 ⟨by decide, by decide⟩ (c_X11_isTown l nb nn g L M_1 hD hL a) rfl hl.1 (Nat.le_of_ble_eq_true rfl) ⟨Nat.zero_le _, Nat.zero_le _⟩ dX11_far_6 rfl (fun r_2 u H locs hp_ hP hS => ?_)
  obtain ⟨er_2, eu_⟩ := hp_
  rw [eu_] at hP
  clear eu_
  replace hres := xlet_n hres er_2
  refine lv_if_eq (tgt := 19) hx hb dX11_far_9 (by decide) (fun c_3 => ?_) (fun c_3 => ?_)
  · replace hres := hres.trans (if_pos c_3)
    refine lv_ldc (own := RX11) (v := (-1000001)) hx hb hown (hts _ (List.mem_cons_of_mem _ wd_202)) dX11_far_19 ?_
    refine lv_goto (tgt := 30) hx hb dX11_far_21 (by decide) ?_
    exact x_reti hx hb hr hlk hP hS (hres.symm.trans hF) dX11_far_30
  · replace hres := hres.trans (if_neg c_3)
    refine lv_iload_n hx hb dX11_far_12 rfl (lv_at hl 2 rfl) ?_
    refine x_callSi (As := [.int b]) S hK hAm hD hP hS mt_X11_isTown wd_281 ⟨by decide, by decide⟩ (c_X11_isTown l nb nn g L M_1 hD hL b) rfl hl.1 (Nat.le_of_ble_eq_true rfl) ⟨Nat.zero_le _, Nat.zero_le _⟩ dX11_far_13 rfl (fun r_4 u H locs hp_ hP hS => ?_)
    obtain ⟨er_4, eu_⟩ := hp_
    rw [eu_] at hP
    clear eu_
    replace hres := xlet_n hres er_4
    refine lv_if_ne (tgt := 24) hx hb dX11_far_16 (by decide) (fun c_5 => ?_) (fun c_5 => ?_)
    · replace hres := hres.trans (if_neg c_5)
      refine lv_aload_n hx hb dX11_far_24 rfl (lv_at hl 0 rfl) ?_
      refine lv_iload_n hx hb dX11_far_25 rfl (lv_at hl 1 rfl) ?_
      refine lv_iload_n hx hb dX11_far_26 rfl (lv_at hl 2 rfl) ?_
      refine x_callVi (As := [.int a, .int b]) S hK hAm hD hP hS mt_X11_farFrom wd_298 ⟨by decide, by decide⟩ (hL 40 0 (xe_40 nb nn)) (xc40 g 0) rfl (c_X11_farFrom l nb nn g L M_1 hD hL a b (ob_X11_far_27_p0 nb nn a b M M_1 eM_1 r_2 er_2 c_3 r_4 er_4 c_5) (ob_X11_far_27_p1 nb nn a b M M_1 eM_1 r_2 er_2 c_3 r_4 er_4 c_5)) rfl hl.1 (Nat.le_of_ble_eq_true rfl) ⟨Nat.zero_le _, Nat.zero_le _⟩ dX11_far_27 rfl (fun r_6 M_7 H locs ep_ hP hS => ?_)
      replace hres := xlet2_n hres ep_
      have er_6 : r_6 = (f_X11_farFrom a b M_1).1 := congrArg Prod.fst ep_
      have eM_7 : M_7 = (f_X11_farFrom a b M_1).2 := congrArg Prod.snd ep_
      clear ep_
      exact x_reti hx hb hr hlk hP hS (hres.symm.trans hF) dX11_far_30
    · replace hres := hres.trans (if_pos c_5)
      refine lv_ldc (own := RX11) (v := (-1000001)) hx hb hown (hts _ (List.mem_cons_of_mem _ wd_202)) dX11_far_19 ?_
      refine lv_goto (tgt := 30) hx hb dX11_far_21 (by decide) ?_
      exact x_reti hx hb hr hlk hP hS (hres.symm.trans hF) dX11_far_30
set_option maxHeartbeats 4000000 in
set_option maxRecDepth 100000 in
theorem c_X11_bank (l : Launch) (nb nn : Nat) (g : xG) (L : List (Nat × Nat)) (M : xM) (hD : xD g L) (hL : xEL nb nn L) (town : Int32) (v : Int32) (marks : Int32) (hp0 : 0 ≤ M 40 0 7) (hp1 : M 40 0 7 ≤ 8) : xCi l yX11_bank cX11_bank 4 (some .int) 2 g L M [.ref (xad g 40 0), .int town, .int v, .int marks] (fun r u => (r, u) = f_X11_bank town v marks M) := by
  intro sz
  refine x_beg (by decide +kernel) rfl ?_
  intro p e s m args below meth c ls hsz hB
  subst hsz
  obtain ⟨hx, hb, hml, hown, hts, hr, hlk, hK, hAm, hP, hl⟩ := hB
  have S : CallFix p m c cX11_bank 4 s args (xws yX11_bank cX11_bank 4 (some .int)) RX11 := ⟨hx, hb, hml, hown, hts⟩
  have hown : s.vm.findClass RX11 = some m.cls := hown
  have hl : lv_has ls 4 [(0, .ref (xad g 40 0)), (1, .int town), (2, .int v), (3, .int marks)] := hl
  have hS : va_S (xA g L s.heap.size) s.heap s.heap [] := va_S.rf
  obtain ⟨F, hF⟩ : ∃ F, F = f_X11_bank town v marks M := ⟨_, rfl⟩
  have hres := hF
  rw [f_X11_bank] at hres
  refine lv_aload_n hx hb dX11_bank_0 rfl (lv_at hl 0 rfl) ?_
  refine lv_iconst (v := 0) hx hb dX11_bank_1 (by decide) ?_
  refine pf_RX11_113 hx hb hts hown hK hP hD hS (hL 40 0 (xe_40 nb nn)) dX11_bank_2 (fun H locs hP hS => ?_)
  obtain ⟨M_1, eM_1⟩ : ∃ z_ : xM, z_ = xup M 40 0 0 0 := ⟨_, rfl⟩
  rw [← eM_1] at hP
  replace hres := xlet_n hres eM_1
  refine lv_iload_n hx hb dX11_bank_5 rfl (lv_at hl 1 rfl) ?_
  refine x_callSi (As := [.int town]) S hK hAm hD hP hS mt_X11_isTown wd_281 ⟨by decide, by decide⟩ (c_X11_isTown l nb nn g L M_1 hD hL town) rfl hl.1 (Nat.le_of_ble_eq_true rfl) ⟨Nat.zero_le _, Nat.zero_le _⟩ dX11_bank_6 rfl (fun r_2 u H locs hp_ hP hS => ?_)
  obtain ⟨er_2, eu_⟩ := hp_
  rw [eu_] at hP
  clear eu_
  replace hres := xlet_n hres er_2
  refine lv_if_eq (tgt := 36) hx hb dX11_bank_9 (by decide) (fun c_3 => ?_) (fun c_3 => ?_)
  · replace hres := hres.trans (if_pos c_3)
    refine lv_ldc (own := RX11) (v := (-1000001)) hx hb hown (hts _ (List.mem_cons_of_mem _ wd_202)) dX11_bank_36 ?_
    exact x_reti hx hb hr hlk hP hS (hres.symm.trans hF) dX11_bank_38
  · replace hres := hres.trans (if_neg c_3)
    refine lv_iload_n hx hb dX11_bank_12 rfl (lv_at hl 2 rfl) ?_
    refine lv_i2l (v := v.toInt64) hx hb dX11_bank_13 rfl ?_
    refine lv_lconst (v := 0) hx hb dX11_bank_14 (by decide) ?_
    refine lv_ldc2 (own := RX11) (v := 99999) hx hb hown (hts _ (List.mem_cons_of_mem _ wd_325)) dX11_bank_15 ?_
    refine x_callSi (As := [.long (v.toInt64), .long 0, .long 99999]) S hK hAm hD hP hS mt_X11_in wd_208 ⟨by decide, by decide⟩ (c_X11_in l nb nn g L M_1 hD hL (v.toInt64) 0 99999) rfl hl.1 (Nat.le_of_ble_eq_true rfl) ⟨Nat.zero_le _, Nat.zero_le _⟩ dX11_bank_18 rfl (fun r_4 u H locs hp_ hP hS => ?_)
    obtain ⟨er_4, eu_⟩ := hp_
    rw [eu_] at hP
    clear eu_
    replace hres := xlet_n hres er_4
    refine lv_if_eq (tgt := 36) hx hb dX11_bank_21 (by decide) (fun c_5 => ?_) (fun c_5 => ?_)
    · replace hres := hres.trans (if_pos c_5)
      refine lv_ldc (own := RX11) (v := (-1000001)) hx hb hown (hts _ (List.mem_cons_of_mem _ wd_202)) dX11_bank_36 ?_
      exact x_reti hx hb hr hlk hP hS (hres.symm.trans hF) dX11_bank_38
    · replace hres := hres.trans (if_neg c_5)
      refine lv_iload_n hx hb dX11_bank_24 rfl (lv_at hl 3 rfl) ?_
      refine lv_i2l (v := marks.toInt64) hx hb dX11_bank_25 rfl ?_
      refine lv_lconst (v := 0) hx hb dX11_bank_26 (by decide) ?_
      refine lv_ldc2 (own := RX11) (v := 255) hx hb hown (hts _ (List.mem_cons_of_mem _ wd_326)) dX11_bank_27 ?_
      refine x_callSi (As := [.long (marks.toInt64), .long 0, .long 255]) S hK hAm hD hP hS mt_X11_in wd_208 ⟨by decide, by decide⟩ (c_X11_in l nb nn g L M_1 hD hL (marks.toInt64) 0 255) rfl hl.1 (Nat.le_of_ble_eq_true rfl) ⟨Nat.zero_le _, Nat.zero_le _⟩ dX11_bank_30 rfl (fun r_6 u H locs hp_ hP hS => ?_)
      obtain ⟨er_6, eu_⟩ := hp_
      rw [eu_] at hP
      clear eu_
      replace hres := xlet_n hres er_6
      refine lv_if_ne (tgt := 39) hx hb dX11_bank_33 (by decide) (fun c_7 => ?_) (fun c_7 => ?_)
      · replace hres := hres.trans (if_neg c_7)
        refine lv_aload_n hx hb dX11_bank_39 rfl (lv_at hl 0 rfl) ?_
        refine gf_RX11_150 hx hb hts hown hK hP (hL 40 0 (xe_40 nb nn)) dX11_bank_40 ?_
        refine lv_bipush (v := 8) hx hb dX11_bank_43 (by decide) ?_
        refine lv_icmp_ne (tgt := 51) hx hb dX11_bank_45 (by decide) (fun c_8 => ?_) (fun c_8 => ?_)
        · replace hres := hres.trans (if_neg c_8)
          refine lv_aload_n hx hb dX11_bank_51 rfl (lv_at hl 0 rfl) ?_
          refine gf_RX11_25 hx hb hts hown hK hP (hL 40 0 (xe_40 nb nn)) dX11_bank_52 ?_
          refine lv_aload_n hx hb dX11_bank_55 rfl (lv_at hl 0 rfl) ?_
          refine gf_RX11_150 hx hb hts hown hK hP (hL 40 0 (xe_40 nb nn)) dX11_bank_56 ?_
          refine lv_iload_n hx hb dX11_bank_59 rfl (lv_at hl 1 rfl) ?_
          refine x_iast hx hb hK hP hD hS (hL 58 0 (xe_58 nb nn)) (xc58 g 0) (ob_X11_bank_60_in nb nn town v marks M hp0 hp1 M_1 eM_1 r_2 er_2 c_3 r_4 er_4 c_5 r_6 er_6 c_7 c_8) dX11_bank_60 (fun H locs hP hS => ?_)
          obtain ⟨M_9, eM_9⟩ : ∃ z_ : xM, z_ = xup M_1 58 0 (M_1 40 0 7).toNatClampNeg town := ⟨_, rfl⟩
          rw [← eM_9] at hP
          replace hres := xlet_n hres eM_9
          refine lv_aload_n hx hb dX11_bank_61 rfl (lv_at hl 0 rfl) ?_
          refine gf_RX11_28 hx hb hts hown hK hP (hL 40 0 (xe_40 nb nn)) dX11_bank_62 ?_
          refine lv_aload_n hx hb dX11_bank_65 rfl (lv_at hl 0 rfl) ?_
          refine gf_RX11_150 hx hb hts hown hK hP (hL 40 0 (xe_40 nb nn)) dX11_bank_66 ?_
          refine lv_iload_n hx hb dX11_bank_69 rfl (lv_at hl 2 rfl) ?_
          refine x_iast hx hb hK hP hD hS (hL 59 0 (xe_59 nb nn)) (xc59 g 0) (ob_X11_bank_70_in nb nn town v marks M hp0 hp1 M_1 eM_1 r_2 er_2 c_3 r_4 er_4 c_5 r_6 er_6 c_7 c_8 M_9 eM_9) dX11_bank_70 (fun H locs hP hS => ?_)
          obtain ⟨M_10, eM_10⟩ : ∃ z_ : xM, z_ = xup M_9 59 0 (M_9 40 0 7).toNatClampNeg v := ⟨_, rfl⟩
          rw [← eM_10] at hP
          replace hres := xlet_n hres eM_10
          refine lv_aload_n hx hb dX11_bank_71 rfl (lv_at hl 0 rfl) ?_
          refine gf_RX11_31 hx hb hts hown hK hP (hL 40 0 (xe_40 nb nn)) dX11_bank_72 ?_
          refine lv_aload_n hx hb dX11_bank_75 rfl (lv_at hl 0 rfl) ?_
          refine gf_RX11_150 hx hb hts hown hK hP (hL 40 0 (xe_40 nb nn)) dX11_bank_76 ?_
          refine lv_iload_n hx hb dX11_bank_79 rfl (lv_at hl 3 rfl) ?_
          refine x_iast hx hb hK hP hD hS (hL 60 0 (xe_60 nb nn)) (xc60 g 0) (ob_X11_bank_80_in nb nn town v marks M hp0 hp1 M_1 eM_1 r_2 er_2 c_3 r_4 er_4 c_5 r_6 er_6 c_7 c_8 M_9 eM_9 M_10 eM_10) dX11_bank_80 (fun H locs hP hS => ?_)
          obtain ⟨M_11, eM_11⟩ : ∃ z_ : xM, z_ = xup M_10 60 0 (M_10 40 0 7).toNatClampNeg marks := ⟨_, rfl⟩
          rw [← eM_11] at hP
          replace hres := xlet_n hres eM_11
          refine lv_aload_n hx hb dX11_bank_81 rfl (lv_at hl 0 rfl) ?_
          refine lv_dup hx hb dX11_bank_82 rfl ?_
          refine gf_RX11_150 hx hb hts hown hK hP (hL 40 0 (xe_40 nb nn)) dX11_bank_83 ?_
          refine lv_iconst (v := 1) hx hb dX11_bank_86 (by decide) ?_
          refine lv_iadd hx hb dX11_bank_87 ?_
          refine lv_topi (fun v_12 ev_12 => ?_)
          replace hres := xlet_n hres ev_12
          refine pf_RX11_150 hx hb hts hown hK hP hD hS (hL 40 0 (xe_40 nb nn)) dX11_bank_88 (fun H locs hP hS => ?_)
          obtain ⟨M_13, eM_13⟩ : ∃ z_ : xM, z_ = xup M_11 40 0 7 v_12 := ⟨_, rfl⟩
          rw [← eM_13] at hP
          replace hres := xlet_n hres eM_13
          refine lv_aload_n hx hb dX11_bank_91 rfl (lv_at hl 0 rfl) ?_
          refine gf_RX11_150 hx hb hts hown hK hP (hL 40 0 (xe_40 nb nn)) dX11_bank_92 ?_
          refine lv_iconst (v := 1) hx hb dX11_bank_95 (by decide) ?_
          refine lv_isub hx hb dX11_bank_96 ?_
          exact x_reti hx hb hr hlk hP hS (hres.symm.trans hF) dX11_bank_97
        · replace hres := hres.trans (if_pos c_8)
          refine lv_ldc (own := RX11) (v := (-1000003)) hx hb hown (hts _ (List.mem_cons_of_mem _ wd_328)) dX11_bank_48 ?_
          exact x_reti hx hb hr hlk hP hS (hres.symm.trans hF) dX11_bank_50
      · replace hres := hres.trans (if_pos c_7)
        refine lv_ldc (own := RX11) (v := (-1000001)) hx hb hown (hts _ (List.mem_cons_of_mem _ wd_202)) dX11_bank_36 ?_
        exact x_reti hx hb hr hlk hP hS (hres.symm.trans hF) dX11_bank_38
set_option maxHeartbeats 4000000 in
set_option maxRecDepth 100000 in
theorem c_X11_house (l : Launch) (nb nn : Nat) (g : xG) (L : List (Nat × Nat)) (M : xM) (hD : xD g L) (hL : xEL nb nn L) (b : Int32) (what : Int32) (hp0 : 0 ≤ M 40 0 7) (hp1 : M 40 0 7 ≤ 8) : xCi l yX11_house cX11_house 3 (some .int) 2 g L M [.ref (xad g 40 0), .int b, .int what] (fun r u => (r, u) = f_X11_house b what M) := by
  intro sz
  refine x_beg (by decide +kernel) rfl ?_
  intro p e s m args below meth c ls hsz hB
  subst hsz
  obtain ⟨hx, hb, hml, hown, hts, hr, hlk, hK, hAm, hP, hl⟩ := hB
  have S : CallFix p m c cX11_house 3 s args (xws yX11_house cX11_house 3 (some .int)) RX11 := ⟨hx, hb, hml, hown, hts⟩
  have hown : s.vm.findClass RX11 = some m.cls := hown
  have hl : lv_has ls 3 [(0, .ref (xad g 40 0)), (1, .int b), (2, .int what)] := hl
  have hS : va_S (xA g L s.heap.size) s.heap s.heap [] := va_S.rf
  obtain ⟨F, hF⟩ : ∃ F, F = f_X11_house b what M := ⟨_, rfl⟩
  have hres := hF
  rw [f_X11_house] at hres
  refine lv_aload_n hx hb dX11_house_0 rfl (lv_at hl 0 rfl) ?_
  refine lv_iconst (v := 0) hx hb dX11_house_1 (by decide) ?_
  refine pf_RX11_113 hx hb hts hown hK hP hD hS (hL 40 0 (xe_40 nb nn)) dX11_house_2 (fun H locs hP hS => ?_)
  obtain ⟨M_1, eM_1⟩ : ∃ z_ : xM, z_ = xup M 40 0 0 0 := ⟨_, rfl⟩
  rw [← eM_1] at hP
  replace hres := xlet_n hres eM_1
  refine lv_aload_n hx hb dX11_house_5 rfl (lv_at hl 0 rfl) ?_
  refine lv_iload_n hx hb dX11_house_6 rfl (lv_at hl 1 rfl) ?_
  refine x_callVi (As := [.int b]) S hK hAm hD hP hS mt_X11_isBank wd_347 ⟨by decide, by decide⟩ (hL 40 0 (xe_40 nb nn)) (xc40 g 0) rfl (c_X11_isBank l nb nn g L M_1 hD hL b) rfl hl.1 (Nat.le_of_ble_eq_true rfl) ⟨Nat.zero_le _, Nat.zero_le _⟩ dX11_house_7 rfl (fun r_2 u H locs hp_ hP hS => ?_)
  obtain ⟨er_2, eu_⟩ := hp_
  rw [eu_] at hP
  clear eu_
  replace hres := xlet_n hres er_2
  refine lv_if_eq (tgt := 25) hx hb dX11_house_10 (by decide) (fun c_3 => ?_) (fun c_3 => ?_)
  · replace hres := hres.trans (if_pos c_3)
    refine lv_ldc (own := RX11) (v := (-1000001)) hx hb hown (hts _ (List.mem_cons_of_mem _ wd_202)) dX11_house_25 ?_
    exact x_reti hx hb hr hlk hP hS (hres.symm.trans hF) dX11_house_27
  · replace hres := hres.trans (if_neg c_3)
    refine lv_iload_n hx hb dX11_house_13 rfl (lv_at hl 2 rfl) ?_
    refine lv_i2l (v := what.toInt64) hx hb dX11_house_14 rfl ?_
    refine lv_lconst (v := 0) hx hb dX11_house_15 (by decide) ?_
    refine lv_ldc2 (own := RX11) (v := 4) hx hb hown (hts _ (List.mem_cons_of_mem _ wd_346)) dX11_house_16 ?_
    refine x_callSi (As := [.long (what.toInt64), .long 0, .long 4]) S hK hAm hD hP hS mt_X11_in wd_208 ⟨by decide, by decide⟩ (c_X11_in l nb nn g L M_1 hD hL (what.toInt64) 0 4) rfl hl.1 (Nat.le_of_ble_eq_true rfl) ⟨Nat.zero_le _, Nat.zero_le _⟩ dX11_house_19 rfl (fun r_4 u H locs hp_ hP hS => ?_)
    obtain ⟨er_4, eu_⟩ := hp_
    rw [eu_] at hP
    clear eu_
    replace hres := xlet_n hres er_4
    refine lv_if_ne (tgt := 28) hx hb dX11_house_22 (by decide) (fun c_5 => ?_) (fun c_5 => ?_)
    · replace hres := hres.trans (if_neg c_5)
      refine lv_iload_n hx hb dX11_house_28 rfl (lv_at hl 2 rfl) ?_
      refine lv_if_ne (tgt := 41) hx hb dX11_house_29 (by decide) (fun c_6 => ?_) (fun c_6 => ?_)
      · replace hres := hres.trans (if_neg c_6)
        refine lv_iload_n hx hb dX11_house_41 rfl (lv_at hl 2 rfl) ?_
        refine lv_iconst (v := 1) hx hb dX11_house_42 (by decide) ?_
        refine lv_icmp_ne (tgt := 55) hx hb dX11_house_43 (by decide) (fun c_7 => ?_) (fun c_7 => ?_)
        · replace hres := hres.trans (if_neg c_7)
          refine lv_iload_n hx hb dX11_house_55 rfl (lv_at hl 2 rfl) ?_
          refine lv_iconst (v := 2) hx hb dX11_house_56 (by decide) ?_
          refine lv_icmp_ne (tgt := 69) hx hb dX11_house_57 (by decide) (fun c_8 => ?_) (fun c_8 => ?_)
          · replace hres := hres.trans (if_neg c_8)
            refine lv_iload_n hx hb dX11_house_69 rfl (lv_at hl 2 rfl) ?_
            refine lv_iconst (v := 3) hx hb dX11_house_70 (by decide) ?_
            refine lv_icmp_ne (tgt := 91) hx hb dX11_house_71 (by decide) (fun c_9 => ?_) (fun c_9 => ?_)
            · replace hres := hres.trans (if_neg c_9)
              refine lv_aload_n hx hb dX11_house_91 rfl (lv_at hl 0 rfl) ?_
              refine gf_RX11_38 hx hb hts hown hK hP (hL 40 0 (xe_40 nb nn)) dX11_house_92 ?_
              refine lv_bipush (v := 9) hx hb dX11_house_95 (by decide) ?_
              refine lv_iload_n hx hb dX11_house_97 rfl (lv_at hl 1 rfl) ?_
              refine lv_imul hx hb dX11_house_98 ?_
              refine x_iald hx hb hK hP (hL 62 0 (xe_62 nb nn)) (xc62 g 0) (ob_X11_house_99_in nb nn b what M hp0 hp1 M_1 eM_1 r_2 er_2 c_3 r_4 er_4 c_5 c_6 c_7 c_8 c_9) dX11_house_99 ?_
              exact x_reti hx hb hr hlk hP hS (hres.symm.trans hF) dX11_house_100
            · replace hres := hres.trans (if_pos c_9)
              refine lv_aload_n hx hb dX11_house_74 rfl (lv_at hl 0 rfl) ?_
              refine gf_RX11_34 hx hb hts hown hK hP (hL 40 0 (xe_40 nb nn)) dX11_house_75 ?_
              refine lv_iload_n hx hb dX11_house_78 rfl (lv_at hl 1 rfl) ?_
              refine x_zald hx hb hK hP (hL 61 0 (xe_61 nb nn)) (xc61 g 0) (ob_X11_house_79_in nb nn b what M hp0 hp1 M_1 eM_1 r_2 er_2 c_3 r_4 er_4 c_5 c_6 c_7 c_8 c_9) dX11_house_79 ?_
              refine lv_if_eq (tgt := 87) hx hb dX11_house_80 (by decide) (fun c_10 => ?_) (fun c_10 => ?_)
              · replace hres := hres.trans (if_pos c_10)
                refine lv_iconst (v := 0) hx hb dX11_house_87 (by decide) ?_
                refine lv_goto (tgt := 100) hx hb dX11_house_88 (by decide) ?_
                exact x_reti hx hb hr hlk hP hS (hres.symm.trans hF) dX11_house_100
              · replace hres := hres.trans (if_neg c_10)
                refine lv_iconst (v := 1) hx hb dX11_house_83 (by decide) ?_
                refine lv_goto (tgt := 100) hx hb dX11_house_84 (by decide) ?_
                exact x_reti hx hb hr hlk hP hS (hres.symm.trans hF) dX11_house_100
          · replace hres := hres.trans (if_pos c_8)
            refine lv_aload_n hx hb dX11_house_60 rfl (lv_at hl 0 rfl) ?_
            refine gf_RX11_31 hx hb hts hown hK hP (hL 40 0 (xe_40 nb nn)) dX11_house_61 ?_
            refine lv_iload_n hx hb dX11_house_64 rfl (lv_at hl 1 rfl) ?_
            refine x_iald hx hb hK hP (hL 60 0 (xe_60 nb nn)) (xc60 g 0) (ob_X11_house_65_in nb nn b what M hp0 hp1 M_1 eM_1 r_2 er_2 c_3 r_4 er_4 c_5 c_6 c_7 c_8) dX11_house_65 ?_
            refine lv_goto (tgt := 100) hx hb dX11_house_66 (by decide) ?_
            exact x_reti hx hb hr hlk hP hS (hres.symm.trans hF) dX11_house_100
        · replace hres := hres.trans (if_pos c_7)
          refine lv_aload_n hx hb dX11_house_46 rfl (lv_at hl 0 rfl) ?_
          refine gf_RX11_28 hx hb hts hown hK hP (hL 40 0 (xe_40 nb nn)) dX11_house_47 ?_
          refine lv_iload_n hx hb dX11_house_50 rfl (lv_at hl 1 rfl) ?_
          refine x_iald hx hb hK hP (hL 59 0 (xe_59 nb nn)) (xc59 g 0) (ob_X11_house_51_in nb nn b what M hp0 hp1 M_1 eM_1 r_2 er_2 c_3 r_4 er_4 c_5 c_6 c_7) dX11_house_51 ?_
          refine lv_goto (tgt := 100) hx hb dX11_house_52 (by decide) ?_
          exact x_reti hx hb hr hlk hP hS (hres.symm.trans hF) dX11_house_100
      · replace hres := hres.trans (if_pos c_6)
        refine lv_aload_n hx hb dX11_house_32 rfl (lv_at hl 0 rfl) ?_
        refine gf_RX11_25 hx hb hts hown hK hP (hL 40 0 (xe_40 nb nn)) dX11_house_33 ?_
        refine lv_iload_n hx hb dX11_house_36 rfl (lv_at hl 1 rfl) ?_
        refine x_iald hx hb hK hP (hL 58 0 (xe_58 nb nn)) (xc58 g 0) (ob_X11_house_37_in nb nn b what M hp0 hp1 M_1 eM_1 r_2 er_2 c_3 r_4 er_4 c_5 c_6) dX11_house_37 ?_
        refine lv_goto (tgt := 100) hx hb dX11_house_38 (by decide) ?_
        exact x_reti hx hb hr hlk hP hS (hres.symm.trans hF) dX11_house_100
    · replace hres := hres.trans (if_pos c_5)
      refine lv_ldc (own := RX11) (v := (-1000001)) hx hb hown (hts _ (List.mem_cons_of_mem _ wd_202)) dX11_house_25 ?_
      exact x_reti hx hb hr hlk hP hS (hres.symm.trans hF) dX11_house_27
set_option maxHeartbeats 4000000 in
set_option maxRecDepth 100000 in
theorem c_X11_hold (l : Launch) (nb nn : Nat) (g : xG) (L : List (Nat × Nat)) (M : xM) (hD : xD g L) (hL : xEL nb nn L) (a : Int32) (b : Int32) (v : Int32) (hp0 : 0 ≤ M 40 0 7) (hp1 : M 40 0 7 ≤ 8) : xCi l yX11_hold cX11_hold 5 (some .int) 2 g L M [.ref (xad g 40 0), .int a, .int b, .int v] (fun r u => (r, u) = f_X11_hold a b v M) := by
  intro sz
  refine x_beg (by decide +kernel) rfl ?_
  intro p e s m args below meth c ls hsz hB
  subst hsz
  obtain ⟨hx, hb, hml, hown, hts, hr, hlk, hK, hAm, hP, hl⟩ := hB
  have S : CallFix p m c cX11_hold 5 s args (xws yX11_hold cX11_hold 5 (some .int)) RX11 := ⟨hx, hb, hml, hown, hts⟩
  have hown : s.vm.findClass RX11 = some m.cls := hown
  have hl : lv_has ls 5 [(0, .ref (xad g 40 0)), (1, .int a), (2, .int b), (3, .int v)] := hl
  have hS : va_S (xA g L s.heap.size) s.heap s.heap [] := va_S.rf
  obtain ⟨F, hF⟩ : ∃ F, F = f_X11_hold a b v M := ⟨_, rfl⟩
  have hres := hF
  rw [f_X11_hold] at hres
  refine lv_aload_n hx hb dX11_hold_0 rfl (lv_at hl 0 rfl) ?_
  refine lv_iconst (v := 0) hx hb dX11_hold_1 (by decide) ?_
  refine pf_RX11_113 hx hb hts hown hK hP hD hS (hL 40 0 (xe_40 nb nn)) dX11_hold_2 (fun H locs hP hS => ?_)
  obtain ⟨M_1, eM_1⟩ : ∃ z_ : xM, z_ = xup M 40 0 0 0 := ⟨_, rfl⟩
  rw [← eM_1] at hP
  replace hres := xlet_n hres eM_1
  refine lv_aload_n hx hb dX11_hold_5 rfl (lv_at hl 0 rfl) ?_
  refine lv_iload_n hx hb dX11_hold_6 rfl (lv_at hl 1 rfl) ?_
  refine x_callVi (As := [.int a]) S hK hAm hD hP hS mt_X11_isBank wd_347 ⟨by decide, by decide⟩ (hL 40 0 (xe_40 nb nn)) (xc40 g 0) rfl (c_X11_isBank l nb nn g L M_1 hD hL a) rfl hl.1 (Nat.le_of_ble_eq_true rfl) ⟨Nat.zero_le _, Nat.zero_le _⟩ dX11_hold_7 rfl (fun r_2 u H locs hp_ hP hS => ?_)
  obtain ⟨er_2, eu_⟩ := hp_
  rw [eu_] at hP
  clear eu_
  replace hres := xlet_n hres er_2
  refine lv_if_eq (tgt := 44) hx hb dX11_hold_10 (by decide) (fun c_3 => ?_) (fun c_3 => ?_)
  · replace hres := hres.trans (if_pos c_3)
    refine lv_ldc (own := RX11) (v := (-1000001)) hx hb hown (hts _ (List.mem_cons_of_mem _ wd_202)) dX11_hold_44 ?_
    exact x_reti hx hb hr hlk hP hS (hres.symm.trans hF) dX11_hold_46
  · replace hres := hres.trans (if_neg c_3)
    refine lv_aload_n hx hb dX11_hold_13 rfl (lv_at hl 0 rfl) ?_
    refine lv_iload_n hx hb dX11_hold_14 rfl (lv_at hl 2 rfl) ?_
    refine x_callVi (As := [.int b]) S hK hAm hD hP hS mt_X11_isBank wd_347 ⟨by decide, by decide⟩ (hL 40 0 (xe_40 nb nn)) (xc40 g 0) rfl (c_X11_isBank l nb nn g L M_1 hD hL b) rfl hl.1 (Nat.le_of_ble_eq_true rfl) ⟨Nat.zero_le _, Nat.zero_le _⟩ dX11_hold_15 rfl (fun r_4 u H locs hp_ hP hS => ?_)
    obtain ⟨er_4, eu_⟩ := hp_
    rw [eu_] at hP
    clear eu_
    replace hres := xlet_n hres er_4
    refine lv_if_eq (tgt := 44) hx hb dX11_hold_18 (by decide) (fun c_5 => ?_) (fun c_5 => ?_)
    · replace hres := hres.trans (if_pos c_5)
      refine lv_ldc (own := RX11) (v := (-1000001)) hx hb hown (hts _ (List.mem_cons_of_mem _ wd_202)) dX11_hold_44 ?_
      exact x_reti hx hb hr hlk hP hS (hres.symm.trans hF) dX11_hold_46
    · replace hres := hres.trans (if_neg c_5)
      refine lv_iload_n hx hb dX11_hold_21 rfl (lv_at hl 3 rfl) ?_
      refine lv_i2l (v := v.toInt64) hx hb dX11_hold_22 rfl ?_
      refine lv_lconst (v := 0) hx hb dX11_hold_23 (by decide) ?_
      refine lv_iload_n hx hb dX11_hold_24 rfl (lv_at hl 1 rfl) ?_
      refine lv_iload_n hx hb dX11_hold_25 rfl (lv_at hl 2 rfl) ?_
      refine lv_icmp_ne (tgt := 35) hx hb dX11_hold_26 (by decide) (fun c_6 => ?_) (fun c_6 => ?_)
      · replace hres := hres.trans (if_neg c_6)
        refine lv_ldc2 (own := RX11) (v := 9999) hx hb hown (hts _ (List.mem_cons_of_mem _ wd_367)) dX11_hold_35 ?_
        refine x_callSi (As := [.long (v.toInt64), .long 0, .long 9999]) S hK hAm hD hP hS mt_X11_in wd_208 ⟨by decide, by decide⟩ (c_X11_in l nb nn g L M_1 hD hL (v.toInt64) 0 9999) rfl hl.1 (Nat.le_of_ble_eq_true rfl) ⟨Nat.zero_le _, Nat.zero_le _⟩ dX11_hold_38 rfl (fun r_7 u H locs hp_ hP hS => ?_)
        obtain ⟨er_7, eu_⟩ := hp_
        rw [eu_] at hP
        clear eu_
        replace hres := xlet_n hres er_7
        refine lv_if_ne (tgt := 47) hx hb dX11_hold_41 (by decide) (fun c_8 => ?_) (fun c_8 => ?_)
        · replace hres := hres.trans (if_neg c_8)
          refine lv_aload_n hx hb dX11_hold_47 rfl (lv_at hl 0 rfl) ?_
          refine gf_RX11_38 hx hb hts hown hK hP (hL 40 0 (xe_40 nb nn)) dX11_hold_48 ?_
          refine lv_bipush (v := 8) hx hb dX11_hold_51 (by decide) ?_
          refine lv_iload_n hx hb dX11_hold_53 rfl (lv_at hl 1 rfl) ?_
          refine lv_imul hx hb dX11_hold_54 ?_
          refine lv_iload_n hx hb dX11_hold_55 rfl (lv_at hl 2 rfl) ?_
          refine lv_iadd hx hb dX11_hold_56 ?_
          refine x_iald hx hb hK hP (hL 62 0 (xe_62 nb nn)) (xc62 g 0) (ob_X11_hold_57_in nb nn a b v M hp0 hp1 M_1 eM_1 r_2 er_2 c_3 r_4 er_4 c_5 c_6 r_7 er_7 c_8) dX11_hold_57 ?_
          refine lv_topi (fun x4_9 ex4_9 => ?_)
          replace hres := xlet_n hres ex4_9
          refine lv_istore (lv' := [(4, .int x4_9), (0, .ref (xad g 40 0)), (1, .int a), (2, .int b), (3, .int v)]) hx hb dX11_hold_58 hl (by decide) rfl (fun ls hl => ?_)
          refine lv_aload_n hx hb dX11_hold_60 rfl (lv_at hl 1 rfl) ?_
          refine gf_RX11_38 hx hb hts hown hK hP (hL 40 0 (xe_40 nb nn)) dX11_hold_61 ?_
          refine lv_bipush (v := 8) hx hb dX11_hold_64 (by decide) ?_
          refine lv_iload_n hx hb dX11_hold_66 rfl (lv_at hl 2 rfl) ?_
          refine lv_imul hx hb dX11_hold_67 ?_
          refine lv_iload_n hx hb dX11_hold_68 rfl (lv_at hl 3 rfl) ?_
          refine lv_iadd hx hb dX11_hold_69 ?_
          refine lv_iload_n hx hb dX11_hold_70 rfl (lv_at hl 4 rfl) ?_
          refine x_iast hx hb hK hP hD hS (hL 62 0 (xe_62 nb nn)) (xc62 g 0) (ob_X11_hold_71_in nb nn a b v M hp0 hp1 M_1 eM_1 r_2 er_2 c_3 r_4 er_4 c_5 c_6 r_7 er_7 c_8 x4_9 ex4_9) dX11_hold_71 (fun H locs hP hS => ?_)
          obtain ⟨M_10, eM_10⟩ : ∃ z_ : xM, z_ = xup M_1 62 0 ((8 * a) + b).toNatClampNeg v := ⟨_, rfl⟩
          rw [← eM_10] at hP
          replace hres := xlet_n hres eM_10
          refine lv_iload hx hb dX11_hold_72 (lv_at hl 0 rfl) ?_
          exact x_reti hx hb hr hlk hP hS (hres.symm.trans hF) dX11_hold_74
        · replace hres := hres.trans (if_pos c_8)
          refine lv_ldc (own := RX11) (v := (-1000001)) hx hb hown (hts _ (List.mem_cons_of_mem _ wd_202)) dX11_hold_44 ?_
          exact x_reti hx hb hr hlk hP hS (hres.symm.trans hF) dX11_hold_46
      · replace hres := hres.trans (if_pos c_6)
        refine lv_ldc2 (own := RX11) (v := 99999) hx hb hown (hts _ (List.mem_cons_of_mem _ wd_325)) dX11_hold_29 ?_
        refine lv_goto (tgt := 38) hx hb dX11_hold_32 (by decide) ?_
        refine x_callSi (As := [.long (v.toInt64), .long 0, .long 99999]) S hK hAm hD hP hS mt_X11_in wd_208 ⟨by decide, by decide⟩ (c_X11_in l nb nn g L M_1 hD hL (v.toInt64) 0 99999) rfl hl.1 (Nat.le_of_ble_eq_true rfl) ⟨Nat.zero_le _, Nat.zero_le _⟩ dX11_hold_38 rfl (fun r_11 u H locs hp_ hP hS => ?_)
        obtain ⟨er_11, eu_⟩ := hp_
        rw [eu_] at hP
        clear eu_
        replace hres := xlet_n hres er_11
        refine lv_if_ne (tgt := 47) hx hb dX11_hold_41 (by decide) (fun c_12 => ?_) (fun c_12 => ?_)
        · replace hres := hres.trans (if_neg c_12)
          refine lv_aload_n hx hb dX11_hold_47 rfl (lv_at hl 0 rfl) ?_
          refine gf_RX11_38 hx hb hts hown hK hP (hL 40 0 (xe_40 nb nn)) dX11_hold_48 ?_
          refine lv_bipush (v := 8) hx hb dX11_hold_51 (by decide) ?_
          refine lv_iload_n hx hb dX11_hold_53 rfl (lv_at hl 1 rfl) ?_
          refine lv_imul hx hb dX11_hold_54 ?_
          refine lv_iload_n hx hb dX11_hold_55 rfl (lv_at hl 2 rfl) ?_
          refine lv_iadd hx hb dX11_hold_56 ?_
          refine x_iald hx hb hK hP (hL 62 0 (xe_62 nb nn)) (xc62 g 0) (ob_X11_hold_57_in_2 nb nn a b v M hp0 hp1 M_1 eM_1 r_2 er_2 c_3 r_4 er_4 c_5 c_6 r_11 er_11 c_12) dX11_hold_57 ?_
          refine lv_topi (fun x4_13 ex4_13 => ?_)
          replace hres := xlet_n hres ex4_13
          refine lv_istore (lv' := [(4, .int x4_13), (0, .ref (xad g 40 0)), (1, .int a), (2, .int b), (3, .int v)]) hx hb dX11_hold_58 hl (by decide) rfl (fun ls hl => ?_)
          refine lv_aload_n hx hb dX11_hold_60 rfl (lv_at hl 1 rfl) ?_
          refine gf_RX11_38 hx hb hts hown hK hP (hL 40 0 (xe_40 nb nn)) dX11_hold_61 ?_
          refine lv_bipush (v := 8) hx hb dX11_hold_64 (by decide) ?_
          refine lv_iload_n hx hb dX11_hold_66 rfl (lv_at hl 2 rfl) ?_
          refine lv_imul hx hb dX11_hold_67 ?_
          refine lv_iload_n hx hb dX11_hold_68 rfl (lv_at hl 3 rfl) ?_
          refine lv_iadd hx hb dX11_hold_69 ?_
          refine lv_iload_n hx hb dX11_hold_70 rfl (lv_at hl 4 rfl) ?_
          refine x_iast hx hb hK hP hD hS (hL 62 0 (xe_62 nb nn)) (xc62 g 0) (ob_X11_hold_71_in_2 nb nn a b v M hp0 hp1 M_1 eM_1 r_2 er_2 c_3 r_4 er_4 c_5 c_6 r_11 er_11 c_12 x4_13 ex4_13) dX11_hold_71 (fun H locs hP hS => ?_)
          obtain ⟨M_14, eM_14⟩ : ∃ z_ : xM, z_ = xup M_1 62 0 ((8 * a) + b).toNatClampNeg v := ⟨_, rfl⟩
          rw [← eM_14] at hP
          replace hres := xlet_n hres eM_14
          refine lv_iload hx hb dX11_hold_72 (lv_at hl 0 rfl) ?_
          exact x_reti hx hb hr hlk hP hS (hres.symm.trans hF) dX11_hold_74
        · replace hres := hres.trans (if_pos c_12)
          refine lv_ldc (own := RX11) (v := (-1000001)) hx hb hown (hts _ (List.mem_cons_of_mem _ wd_202)) dX11_hold_44 ?_
          exact x_reti hx hb hr hlk hP hS (hres.symm.trans hF) dX11_hold_46
set_option maxHeartbeats 4000000 in
set_option maxRecDepth 100000 in
theorem c_X11_week (l : Launch) (nb nn : Nat) (g : xG) (L : List (Nat × Nat)) (M : xM) (hD : xD g L) (hL : xEL nb nn L) (w : Int32)  : xCi l yX11_week cX11_week 3 (some .int) 1 g L M [.ref (xad g 40 0), .int w] (fun r u => (r, u) = f_X11_week w M) := by
  intro sz
  refine x_beg (by decide +kernel) rfl ?_
  intro p e s m args below meth c ls hsz hB
  subst hsz
  obtain ⟨hx, hb, hml, hown, hts, hr, hlk, hK, hAm, hP, hl⟩ := hB
  have S : CallFix p m c cX11_week 3 s args (xws yX11_week cX11_week 3 (some .int)) RX11 := ⟨hx, hb, hml, hown, hts⟩
  have hown : s.vm.findClass RX11 = some m.cls := hown
  have hl : lv_has ls 3 [(0, .ref (xad g 40 0)), (1, .int w)] := hl
  have hS : va_S (xA g L s.heap.size) s.heap s.heap [] := va_S.rf
  obtain ⟨F, hF⟩ : ∃ F, F = f_X11_week w M := ⟨_, rfl⟩
  have hres := hF
  rw [f_X11_week] at hres
  refine lv_aload_n hx hb dX11_week_0 rfl (lv_at hl 0 rfl) ?_
  refine lv_iconst (v := 0) hx hb dX11_week_1 (by decide) ?_
  refine pf_RX11_113 hx hb hts hown hK hP hD hS (hL 40 0 (xe_40 nb nn)) dX11_week_2 (fun H locs hP hS => ?_)
  obtain ⟨M_1, eM_1⟩ : ∃ z_ : xM, z_ = xup M 40 0 0 0 := ⟨_, rfl⟩
  rw [← eM_1] at hP
  replace hres := xlet_n hres eM_1
  refine lv_iload_n hx hb dX11_week_5 rfl (lv_at hl 1 rfl) ?_
  refine lv_i2l (v := w.toInt64) hx hb dX11_week_6 rfl ?_
  refine lv_aload_n hx hb dX11_week_7 rfl (lv_at hl 0 rfl) ?_
  refine gf_RX11_167 hx hb hts hown hK hP (hL 40 0 (xe_40 nb nn)) dX11_week_8 ?_
  refine lv_i2l (v := (M_1 40 0 13).toInt64) hx hb dX11_week_11 rfl ?_
  refine lv_ldc2 (own := RX11) (v := 299) hx hb hown (hts _ (List.mem_cons_of_mem _ wd_397)) dX11_week_12 ?_
  refine x_callSi (As := [.long (w.toInt64), .long ((M_1 40 0 13).toInt64), .long 299]) S hK hAm hD hP hS mt_X11_in wd_208 ⟨by decide, by decide⟩ (c_X11_in l nb nn g L M_1 hD hL (w.toInt64) ((M_1 40 0 13).toInt64) 299) rfl hl.1 (Nat.le_of_ble_eq_true rfl) ⟨Nat.zero_le _, Nat.zero_le _⟩ dX11_week_15 rfl (fun r_2 u H locs hp_ hP hS => ?_)
  obtain ⟨er_2, eu_⟩ := hp_
  rw [eu_] at hP
  clear eu_
  replace hres := xlet_n hres er_2
  refine lv_if_ne (tgt := 24) hx hb dX11_week_18 (by decide) (fun c_3 => ?_) (fun c_3 => ?_)
  · replace hres := hres.trans (if_neg c_3)
    refine lv_aload_n hx hb dX11_week_24 rfl (lv_at hl 0 rfl) ?_
    refine gf_RX11_167 hx hb hts hown hK hP (hL 40 0 (xe_40 nb nn)) dX11_week_25 ?_
    refine lv_topi (fun x2_4 ex2_4 => ?_)
    replace hres := xlet_n hres ex2_4
    refine lv_istore_n (lv' := [(2, .int x2_4), (0, .ref (xad g 40 0)), (1, .int w)]) hx hb dX11_week_28 rfl hl (by decide) rfl (fun ls hl => ?_)
    refine lv_aload_n hx hb dX11_week_29 rfl (lv_at hl 1 rfl) ?_
    refine lv_iload_n hx hb dX11_week_30 rfl (lv_at hl 2 rfl) ?_
    refine pf_RX11_167 hx hb hts hown hK hP hD hS (hL 40 0 (xe_40 nb nn)) dX11_week_31 (fun H locs hP hS => ?_)
    obtain ⟨M_5, eM_5⟩ : ∃ z_ : xM, z_ = xup M_1 40 0 13 w := ⟨_, rfl⟩
    rw [← eM_5] at hP
    replace hres := xlet_n hres eM_5
    refine lv_iload_n hx hb dX11_week_34 rfl (lv_at hl 0 rfl) ?_
    exact x_reti hx hb hr hlk hP hS (hres.symm.trans hF) dX11_week_35
  · replace hres := hres.trans (if_pos c_3)
    refine lv_ldc (own := RX11) (v := (-1000001)) hx hb hown (hts _ (List.mem_cons_of_mem _ wd_202)) dX11_week_21 ?_
    exact x_reti hx hb hr hlk hP hS (hres.symm.trans hF) dX11_week_23
set_option maxHeartbeats 4000000 in
set_option maxRecDepth 100000 in
theorem c_X11_feed (l : Launch) (nb nn : Nat) (g : xG) (L : List (Nat × Nat)) (M : xM) (hD : xD g L) (hL : xEL nb nn L) (w : Int64) (z : Int32) (hp0 : 0 ≤ M 40 0 21) (hp1 : M 40 0 21 ≤ 400) : xCi l yX11_feed cX11_feed 5 (some .int) 1 g L M [.ref (xad g 40 0), .long w, .int z] (fun r u => (r, u) = f_X11_feed w z M) := by
  intro sz
  refine x_beg (by decide +kernel) rfl ?_
  intro p e s m args below meth c ls hsz hB
  subst hsz
  obtain ⟨hx, hb, hml, hown, hts, hr, hlk, hK, hAm, hP, hl⟩ := hB
  have S : CallFix p m c cX11_feed 5 s args (xws yX11_feed cX11_feed 5 (some .int)) RX11 := ⟨hx, hb, hml, hown, hts⟩
  have hown : s.vm.findClass RX11 = some m.cls := hown
  have hl : lv_has ls 5 [(0, .ref (xad g 40 0)), (1, .long w), (3, .int z)] := hl
  have hS : va_S (xA g L s.heap.size) s.heap s.heap [] := va_S.rf
  obtain ⟨F, hF⟩ : ∃ F, F = f_X11_feed w z M := ⟨_, rfl⟩
  have k_40 : ∀ (n : Nat) (k : Int32) (N_ : xM) (H : Heap) (locs : List Loc) (ls : Array Slot) (kx : (Int32 → xM → Int32 × xM)), xmu (-1) k < n → 0 ≤ N_ 40 0 21 ∧ N_ 40 0 21 ≤ 400 ∧ k ≤ 7 ∧ -1 ≤ k ∧ N_ 40 0 21 + k < 400 → F = f_X11_feed_L40 w z n k N_ kx → xP g L N_ H → va_S (xA g L s.heap.size) s.heap H locs → lv_has ls 5 [(0, .ref (xad g 40 0)), (1, .long w), (3, .int z), (4, .int k)] → (∀ (k : Int32) (N_ : xM) (H : Heap) (locs : List Loc) (ls : Array Slot), 0 ≤ N_ 40 0 21 ∧ N_ 40 0 21 ≤ 400 ∧ k ≤ 7 ∧ -1 ≤ k ∧ N_ 40 0 21 + k < 400 → F = kx k N_ → xP g L N_ H → va_S (xA g L s.heap.size) s.heap H locs → lv_has ls 5 [(0, .ref (xad g 40 0)), (1, .long w), (3, .int z), (4, .int k)] → W p l e (xr 1) s m args below meth c H locs 0 0 (MQ below (va_Qi (fun r u => (r, u) = f_X11_feed w z M) (xPost g L) (xA g L s.heap.size)) args s 0 0 (xA g L s.heap.size)) (F0 m 82 ls [])) → W p l e (xr 1) s m args below meth c H locs 0 0 (MQ below (va_Qi (fun r u => (r, u) = f_X11_feed w z M) (xPost g L) (xA g L s.heap.size)) args s 0 0 (xA g L s.heap.size)) (F0 m 40 ls []) := by
    intro n
    induction n with
    | zero => intro k N_ H locs ls kx hmu; exact absurd hmu (Nat.not_lt_zero _)
    | succ n ih =>
      intro k N_ H locs ls kx hmu hinv hres hP hS hl hex
      replace hres : F = _ := hres.trans (by rw [f_X11_feed_L40])
      refine lv_iload hx hb dX11_feed_40 (lv_at hl 3 rfl) ?_
      refine lv_if_lt (tgt := 82) hx hb dX11_feed_42 (by decide) (fun c_1 => ?_) (fun c_1 => ?_)
      · replace hres := hres.trans (if_pos c_1)
        exact hex k N_ _ _ _ (ob_X11_feed_82_x40 nb nn w z M hp0 hp1 n k N_ hmu hinv c_1) hres hP hS (lv_sub hl [0, 1, 2, 3] rfl)
      · replace hres := hres.trans (if_neg c_1)
        refine lv_aload_n hx hb dX11_feed_45 rfl (lv_at hl 0 rfl) ?_
        refine gf_RX11_53 hx hb hts hown hK hP (hL 40 0 (xe_40 nb nn)) dX11_feed_46 ?_
        refine lv_aload_n hx hb dX11_feed_49 rfl (lv_at hl 0 rfl) ?_
        refine gf_RX11_172 hx hb hts hown hK hP (hL 40 0 (xe_40 nb nn)) dX11_feed_50 ?_
        refine lv_lload_n hx hb dX11_feed_53 rfl (lv_at hl 1 rfl) ?_
        refine lv_bipush (v := 8) hx hb dX11_feed_54 (by decide) ?_
        refine lv_iload hx hb dX11_feed_56 (lv_at hl 3 rfl) ?_
        refine lv_imul hx hb dX11_feed_58 ?_
        refine lv_lshr (v := (w >>> ((8 * k).toInt64 &&& 63))) hx hb dX11_feed_59 rfl ?_
        refine lv_ldc2 (own := RX11) (v := 255) hx hb hown (hts _ (List.mem_cons_of_mem _ wd_326)) dX11_feed_60 ?_
        refine lv_land hx hb dX11_feed_63 ?_
        refine lv_l2i (v := ((w >>> ((8 * k).toInt64 &&& 63)) &&& 255).toInt32) hx hb dX11_feed_64 rfl ?_
        refine lv_topi (fun v_2 ev_2 => ?_)
        replace hres := xlet_n hres ev_2
        refine x_iast hx hb hK hP hD hS (hL 70 0 (xe_70 nb nn)) (xc70 g 0) (ob_X11_feed_65_in nb nn w z M hp0 hp1 n k N_ hmu hinv c_1 v_2 ev_2) dX11_feed_65 (fun H locs hP hS => ?_)
        obtain ⟨M_3, eM_3⟩ : ∃ z_ : xM, z_ = xup N_ 70 0 (N_ 40 0 21).toNatClampNeg v_2 := ⟨_, rfl⟩
        rw [← eM_3] at hP
        replace hres := xlet_n hres eM_3
        refine lv_aload_n hx hb dX11_feed_66 rfl (lv_at hl 0 rfl) ?_
        refine lv_dup hx hb dX11_feed_67 rfl ?_
        refine gf_RX11_172 hx hb hts hown hK hP (hL 40 0 (xe_40 nb nn)) dX11_feed_68 ?_
        refine lv_iconst (v := 1) hx hb dX11_feed_71 (by decide) ?_
        refine lv_iadd hx hb dX11_feed_72 ?_
        refine lv_topi (fun v_4 ev_4 => ?_)
        replace hres := xlet_n hres ev_4
        refine pf_RX11_172 hx hb hts hown hK hP hD hS (hL 40 0 (xe_40 nb nn)) dX11_feed_73 (fun H locs hP hS => ?_)
        obtain ⟨M_5, eM_5⟩ : ∃ z_ : xM, z_ = xup M_3 40 0 21 v_4 := ⟨_, rfl⟩
        rw [← eM_5] at hP
        replace hres := xlet_n hres eM_5
        obtain ⟨x4_6, ex4_6⟩ : ∃ z_ : Int32, z_ = k + (-1) := ⟨_, rfl⟩
        replace hres := xlet_n hres ex4_6
        refine lv_iinc (v := x4_6) (lv' := [(4, .int x4_6), (0, .ref (xad g 40 0)), (1, .long w), (3, .int z)]) hx hb dX11_feed_76 hl (k := 3) rfl (by rw [ex4_6]; rfl) (by decide) rfl (fun ls hl => ?_)
        refine lv_goto (tgt := 40) hx hb dX11_feed_79 (by decide) ?_
        exact ih x4_6 M_5 _ _ _ kx (ob_X11_feed_40_mu_6 nb nn w z M hp0 hp1 n k N_ hmu hinv c_1 v_2 ev_2 M_3 eM_3 v_4 ev_4 M_5 eM_5 x4_6 ex4_6) (ob_X11_feed_40_inv_6 nb nn w z M hp0 hp1 n k N_ hmu hinv c_1 v_2 ev_2 M_3 eM_3 v_4 ev_4 M_5 eM_5 x4_6 ex4_6) hres hP hS (lv_sub hl [1, 2, 3, 0] rfl) hex
  have hres := hF
  rw [f_X11_feed] at hres
  refine lv_aload_n hx hb dX11_feed_0 rfl (lv_at hl 0 rfl) ?_
  refine lv_iconst (v := 0) hx hb dX11_feed_1 (by decide) ?_
  refine pf_RX11_113 hx hb hts hown hK hP hD hS (hL 40 0 (xe_40 nb nn)) dX11_feed_2 (fun H locs hP hS => ?_)
  obtain ⟨M_7, eM_7⟩ : ∃ z_ : xM, z_ = xup M 40 0 0 0 := ⟨_, rfl⟩
  rw [← eM_7] at hP
  replace hres := xlet_n hres eM_7
  refine lv_iload_n hx hb dX11_feed_5 rfl (lv_at hl 2 rfl) ?_
  refine lv_i2l (v := z.toInt64) hx hb dX11_feed_6 rfl ?_
  refine lv_lconst (v := 1) hx hb dX11_feed_7 (by decide) ?_
  refine lv_ldc2 (own := RX11) (v := 8) hx hb hown (hts _ (List.mem_cons_of_mem _ wd_415)) dX11_feed_8 ?_
  refine x_callSi (As := [.long (z.toInt64), .long 1, .long 8]) S hK hAm hD hP hS mt_X11_in wd_208 ⟨by decide, by decide⟩ (c_X11_in l nb nn g L M_7 hD hL (z.toInt64) 1 8) rfl hl.1 (Nat.le_of_ble_eq_true rfl) ⟨Nat.zero_le _, Nat.zero_le _⟩ dX11_feed_11 rfl (fun r_8 u H locs hp_ hP hS => ?_)
  obtain ⟨er_8, eu_⟩ := hp_
  rw [eu_] at hP
  clear eu_
  replace hres := xlet_n hres er_8
  refine lv_if_ne (tgt := 20) hx hb dX11_feed_14 (by decide) (fun c_9 => ?_) (fun c_9 => ?_)
  · replace hres := hres.trans (if_neg c_9)
    refine lv_aload_n hx hb dX11_feed_20 rfl (lv_at hl 0 rfl) ?_
    refine gf_RX11_172 hx hb hts hown hK hP (hL 40 0 (xe_40 nb nn)) dX11_feed_21 ?_
    refine lv_iload_n hx hb dX11_feed_24 rfl (lv_at hl 2 rfl) ?_
    refine lv_iadd hx hb dX11_feed_25 ?_
    refine lv_sipush (v := 400) hx hb dX11_feed_26 (by decide) ?_
    refine lv_icmp_le (tgt := 35) hx hb dX11_feed_29 (by decide) (fun c_10 => ?_) (fun c_10 => ?_)
    · replace hres := hres.trans (if_pos c_10)
      refine lv_iload_n hx hb dX11_feed_35 rfl (lv_at hl 2 rfl) ?_
      refine lv_iconst (v := 1) hx hb dX11_feed_36 (by decide) ?_
      refine lv_isub hx hb dX11_feed_37 ?_
      refine lv_topi (fun x4_11 ex4_11 => ?_)
      replace hres := xlet_n hres ex4_11
      refine lv_istore (lv' := [(4, .int x4_11), (0, .ref (xad g 40 0)), (1, .long w), (3, .int z)]) hx hb dX11_feed_38 hl (by decide) rfl (fun ls hl => ?_)
      refine k_40 (xmu (-1) x4_11 + 1) x4_11 M_7 _ _ _ _ (Nat.lt_succ_self _) (ob_X11_feed_40_ini_11 nb nn w z M hp0 hp1 M_7 eM_7 r_8 er_8 c_9 c_10 x4_11 ex4_11) hres hP hS (lv_sub hl [1, 2, 3, 0] rfl) ?_
      clear hres hP hS hl
      intro k_12 M_13 H locs ls hiv_13 hres hP hS hl
      refine lv_aload_n hx hb dX11_feed_82 rfl (lv_at hl 0 rfl) ?_
      refine gf_RX11_172 hx hb hts hown hK hP (hL 40 0 (xe_40 nb nn)) dX11_feed_83 ?_
      exact x_reti hx hb hr hlk hP hS (hres.symm.trans hF) dX11_feed_86
    · replace hres := hres.trans (if_neg c_10)
      refine lv_ldc (own := RX11) (v := (-1000003)) hx hb hown (hts _ (List.mem_cons_of_mem _ wd_328)) dX11_feed_32 ?_
      exact x_reti hx hb hr hlk hP hS (hres.symm.trans hF) dX11_feed_34
  · replace hres := hres.trans (if_pos c_9)
    refine lv_ldc (own := RX11) (v := (-1000001)) hx hb hown (hts _ (List.mem_cons_of_mem _ wd_202)) dX11_feed_17 ?_
    exact x_reti hx hb hr hlk hP hS (hres.symm.trans hF) dX11_feed_19
set_option maxHeartbeats 4000000 in
set_option maxRecDepth 100000 in
theorem c_X11_fault (l : Launch) (nb nn : Nat) (g : xG) (L : List (Nat × Nat)) (M : xM) (hD : xD g L) (hL : xEL nb nn L)   : xCi l yX11_fault cX11_fault 1 (some .int) 0 g L M [.ref (xad g 40 0)] (fun r u => (r, u) = f_X11_fault  M) := by
  intro sz
  refine x_beg (by decide +kernel) rfl ?_
  intro p e s m args below meth c ls hsz hB
  subst hsz
  obtain ⟨hx, hb, hml, hown, hts, hr, hlk, hK, hAm, hP, hl⟩ := hB
  have S : CallFix p m c cX11_fault 1 s args (xws yX11_fault cX11_fault 1 (some .int)) RX11 := ⟨hx, hb, hml, hown, hts⟩
  have hown : s.vm.findClass RX11 = some m.cls := hown
  have hl : lv_has ls 1 [(0, .ref (xad g 40 0))] := hl
  have hS : va_S (xA g L s.heap.size) s.heap s.heap [] := va_S.rf
  obtain ⟨F, hF⟩ : ∃ F, F = f_X11_fault  M := ⟨_, rfl⟩
  have hres := hF
  rw [f_X11_fault] at hres
  refine lv_aload_n hx hb dX11_fault_0 rfl (lv_at hl 0 rfl) ?_
  refine lv_iconst (v := 0) hx hb dX11_fault_1 (by decide) ?_
  refine pf_RX11_113 hx hb hts hown hK hP hD hS (hL 40 0 (xe_40 nb nn)) dX11_fault_2 (fun H locs hP hS => ?_)
  obtain ⟨M_1, eM_1⟩ : ∃ z_ : xM, z_ = xup M 40 0 0 0 := ⟨_, rfl⟩
  rw [← eM_1] at hP
  replace hres := xlet_n hres eM_1
  refine lv_aload_n hx hb dX11_fault_5 rfl (lv_at hl 0 rfl) ?_
  refine gf_RX11_244 hx hb hts hown hK hP (hL 40 0 (xe_40 nb nn)) dX11_fault_6 ?_
  exact x_reti hx hb hr hlk hP hS (hres.symm.trans hF) dX11_fault_9
