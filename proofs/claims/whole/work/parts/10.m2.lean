def f_X11_byteAt (k : Int32) (M : xM) : Int32 :=
  if (M 40 0 23) ≤ k then (-1000000) else (M 70 0 k.toNatClampNeg)
def f_X11_step_L119  (q : Int32) : Nat → xM → (xM → xM) → xM
  | 0, N_, _ => N_
  | n + 1, N_, kx => xlet (f_X11_byteAt (N_ 40 0 24) N_) fun r_1 => xlet (xb (f_X11_isFigure r_1 N_)) fun r_2 => if r_2 = 0 then kx  N_ else xlet ((N_ 40 0 24) + 1) fun v_4 => xlet (xup N_ 40 0 24 v_4) fun M_5 => f_X11_step_L119 q n  M_5 kx
def f_X11_step_L77  (q : Int32) : Nat → xM → (xM → xM) → xM
  | 0, N_, _ => N_
  | n + 1, N_, kx => xlet (f_X11_byteAt (N_ 40 0 24) N_) fun r_6 => xlet (xb (f_X11_isLetter r_6 N_)) fun r_7 => if r_7 = 0 then kx  N_ else xlet ((N_ 40 0 24) + 1) fun v_9 => xlet (xup N_ 40 0 24 v_9) fun M_10 => f_X11_step_L77 q n  M_10 kx
def f_X11_step_L0  : Nat → xM → (xM → xM) → xM
  | 0, N_, _ => N_
  | n + 1, N_, kx => xlet (f_X11_byteAt (N_ 40 0 24) N_) fun r_11 => if r_11 = 32 then xlet ((N_ 40 0 24) + 1) fun v_13 => xlet (xup N_ 40 0 24 v_13) fun M_14 => f_X11_step_L0  n  M_14 kx else if r_11 = 10 then xlet ((N_ 40 0 24) + 1) fun v_17 => xlet (xup N_ 40 0 24 v_17) fun M_18 => f_X11_step_L0  n  M_18 kx else kx  N_
def f_X11_step  (M : xM) : xM :=
  f_X11_step_L0  (xmu (M 40 0 24) (M 40 0 23) + 1)  M (fun M_19 => xlet (M_19 40 0 24) fun v_20 => xlet (xup M_19 40 0 26 v_20) fun M_21 => xlet (f_X11_byteAt (M_21 40 0 24) M_21) fun r_22 => if r_22 = (-1000000) then xlet (xup M_21 40 0 25 1) fun M_49 => xlet (M_49 40 0 24) fun v_50 => xlet (xup M_49 40 0 27 v_50) fun M_51 => M_51 else xlet (xb (f_X11_isLetter r_22 M_21)) fun r_24 => if r_24 = 0 then xlet (xb (f_X11_isFigure r_22 M_21)) fun r_26 => if r_26 = 0 then xlet ((M_21 40 0 24) + 1) fun v_28 => xlet (xup M_21 40 0 24 v_28) fun M_29 => if r_22 = 59 then xlet (xup M_29 40 0 25 4) fun M_34 => xlet (M_34 40 0 24) fun v_35 => xlet (xup M_34 40 0 27 v_35) fun M_36 => M_36 else xlet (xup M_29 40 0 25 0) fun M_31 => xlet (M_31 40 0 24) fun v_32 => xlet (xup M_31 40 0 27 v_32) fun M_33 => M_33 else f_X11_step_L119 r_22 (xmu (M_21 40 0 24) (M_21 40 0 23) + 1)  M_21 (fun M_37 => if ((M_37 40 0 24) - (M_37 40 0 26)) ≤ 4 then xlet (xup M_37 40 0 25 3) fun M_39 => xlet (M_39 40 0 24) fun v_40 => xlet (xup M_39 40 0 27 v_40) fun M_41 => M_41 else xlet (xup M_37 40 0 25 0) fun M_42 => xlet (M_42 40 0 24) fun v_43 => xlet (xup M_42 40 0 27 v_43) fun M_44 => M_44) else f_X11_step_L77 r_22 (xmu (M_21 40 0 24) (M_21 40 0 23) + 1)  M_21 (fun M_45 => xlet (xup M_45 40 0 25 2) fun M_46 => xlet (M_46 40 0 24) fun v_47 => xlet (xup M_46 40 0 27 v_47) fun M_48 => M_48))
def f_X11_falls_L92 (what : Int32) (fallen : Int32) (rounds : Int32) (more : Int32) (now : Int32) (a : Int32) (N_ : xM) : Nat → Int32 → Int32 → (Int32 → Int32 → Int32 × xM) → Int32 × xM
  | 0, _, _, _ => (0, N_)
  | n + 1, has, b, kx => if (N_ 40 0 7) ≤ b then kx has b else if b = a then xlet (has + 0) fun x7_3 => xlet (b + 1) fun x8_4 => f_X11_falls_L92 what fallen rounds more now a N_ n x7_3 x8_4 kx else if ((fallen >>> (b &&& 31)) &&& 1) = 0 then xlet (has + (N_ 62 0 ((8 * a) + b).toNatClampNeg)) fun x7_8 => xlet (b + 1) fun x8_9 => f_X11_falls_L92 what fallen rounds more now a N_ n x7_8 x8_9 kx else xlet (has + 0) fun x7_6 => xlet (b + 1) fun x8_7 => f_X11_falls_L92 what fallen rounds more now a N_ n x7_6 x8_7 kx
def f_X11_falls_L71 (what : Int32) (fallen : Int32) (rounds : Int32) (more : Int32) (N_ : xM) : Nat → Int32 → Int32 → (Int32 → Int32 → Int32 × xM) → Int32 × xM
  | 0, _, _, _ => (0, N_)
  | n + 1, now, a, kx => if (N_ 40 0 7) ≤ a then kx now a else xlet (N_ 59 0 a.toNatClampNeg) fun x7_11 => f_X11_falls_L92 what fallen rounds more now a N_ (xmu (0 : Int32) (N_ 40 0 7) + 1) x7_11 (0 : Int32) (fun has_12 b_13 => if (N_ 62 0 (9 * a).toNatClampNeg) ≤ has_12 then xlet (now ||| 0) fun x5_15 => xlet (a + 1) fun x6_16 => f_X11_falls_L71 what fallen rounds more N_ n x5_15 x6_16 kx else xlet (now ||| (1 <<< (a &&& 31))) fun x5_17 => xlet (a + 1) fun x6_18 => f_X11_falls_L71 what fallen rounds more N_ n x5_17 x6_18 kx)
def f_X11_falls_L60 (what : Int32) (N_ : xM) : Nat → Int32 → Int32 → Int32 → (Int32 → Int32 → Int32 → Int32 × xM) → Int32 × xM
  | 0, _, _, _, _ => (0, N_)
  | n + 1, fallen, rounds, more, kx => if more = 0 then kx fallen rounds more else f_X11_falls_L71 what fallen rounds more N_ (xmu (0 : Int32) (N_ 40 0 7) + 1) fallen (0 : Int32) (fun now_20 a_21 => if now_20 = fallen then xlet (rounds + 0) fun x3_24 => f_X11_falls_L60 what N_ n now_20 x3_24 (0 : Int32) kx else xlet (rounds + 1) fun x3_26 => f_X11_falls_L60 what N_ n now_20 x3_26 (1 : Int32) kx)
def f_X11_falls_L22 (what : Int32) (N_ : xM) : Nat → Int32 → Int32 → (Int32 → Int32 → Int32 × xM) → Int32 × xM
  | 0, _, _, _ => (0, N_)
  | n + 1, fallen, b, kx => if (N_ 40 0 7) ≤ b then kx fallen b else if (N_ 61 0 b.toNatClampNeg) = 0 then xlet (fallen ||| 0) fun x2_29 => xlet (b + 1) fun x3_30 => f_X11_falls_L22 what N_ n x2_29 x3_30 kx else xlet (fallen ||| (1 <<< (b &&& 31))) fun x2_31 => xlet (b + 1) fun x3_32 => f_X11_falls_L22 what N_ n x2_31 x3_32 kx
def f_X11_falls (what : Int32) (M : xM) : Int32 × xM :=
  xlet (xup M 40 0 0 0) fun M_33 => xlet (xb (f_X11_in (what.toInt64) 0 1 M_33)) fun r_34 => if r_34 = 0 then ((-1000001), M_33) else f_X11_falls_L22 what M_33 (xmu (0 : Int32) (M_33 40 0 7) + 1) (0 : Int32) (0 : Int32) (fun fallen_36 b_37 => f_X11_falls_L60 what M_33 ((if (1 : Int32) = 0 then 0 else 1 + xmu fallen_36 256) + 1) fallen_36 (0 : Int32) (1 : Int32) (fun fallen_38 rounds_39 more_40 => if what = 0 then (fallen_38, M_33) else (rounds_39, M_33)))
def f_X11_isGhost (q : Int32) (M : xM) : Bool :=
  if (M 81 0 q.toNatClampNeg) < (M 40 0 7) then false else true
def f_X11_isFalse (q : Int32) (M : xM) : Bool :=
  xlet (xb (f_X11_isGhost q M)) fun r_1 => if r_1 = 0 then if (((M 83 0 q.toNatClampNeg) ^^^ (M 60 0 (M 81 0 q.toNatClampNeg).toNatClampNeg)) &&& ((M 84 0 q.toNatClampNeg) ^^^ (-1))) = 0 then false else true else true
def f_X11_comeTo (q : Int32) (t : Int32) (M : xM) : xM :=
  xlet (xup M 85 0 q.toNatClampNeg t) fun M_1 => xlet ((12 * q) + (M_1 91 0 q.toNatClampNeg)) fun x3_2 => if 12 ≤ (M_1 91 0 q.toNatClampNeg) then M_1 else if (M_1 91 0 q.toNatClampNeg) = 0 then xlet (xup M_1 92 0 x3_2.toNatClampNeg t) fun M_5 => xlet (M_5 40 0 13) fun v_6 => xlet (xup M_5 93 0 x3_2.toNatClampNeg v_6) fun M_7 => xlet ((M_7 91 0 q.toNatClampNeg) + 1) fun v_8 => xlet (xup M_7 91 0 q.toNatClampNeg v_8) fun M_9 => M_9 else if (M_1 92 0 (x3_2 - 1).toNatClampNeg) = t then M_1 else xlet (xup M_1 92 0 x3_2.toNatClampNeg t) fun M_11 => xlet (M_11 40 0 13) fun v_12 => xlet (xup M_11 93 0 x3_2.toNatClampNeg v_12) fun M_13 => xlet ((M_13 91 0 q.toNatClampNeg) + 1) fun v_14 => xlet (xup M_13 91 0 q.toNatClampNeg v_14) fun M_15 => M_15
def f_X11_note (b : Int32) (v : Int32) (has : Int32) (lost : Int32) (t : Int32) (M : xM) : Int32 × xM :=
  xlet (xup M 40 0 0 0) fun M_1 => xlet (xb (f_X11_in (b.toInt64) 0 7 M_1)) fun r_2 => if r_2 = 0 then ((-1000001), M_1) else xlet (xb (f_X11_in (v.toInt64) 1 100 M_1)) fun r_4 => if r_4 = 0 then ((-1000001), M_1) else xlet (xb (f_X11_in (has.toInt64) 0 255 M_1)) fun r_6 => if r_6 = 0 then ((-1000001), M_1) else xlet (xb (f_X11_in (lost.toInt64) 0 255 M_1)) fun r_8 => if r_8 = 0 then ((-1000001), M_1) else xlet (xb (f_X11_isTrader t M_1)) fun r_10 => if r_10 = 0 then ((-1000001), M_1) else if (M_1 40 0 30) = 24 then ((-1000003), M_1) else xlet (xup M_1 81 0 (M_1 40 0 30).toNatClampNeg b) fun M_13 => xlet (xup M_13 82 0 (M_13 40 0 30).toNatClampNeg v) fun M_14 => xlet (xup M_14 83 0 (M_14 40 0 30).toNatClampNeg has) fun M_15 => xlet (xup M_15 84 0 (M_15 40 0 30).toNatClampNeg lost) fun M_16 => xlet (f_X11_comeTo (M_16 40 0 30) t M_16) fun M_18 => xlet ((M_18 40 0 30) + 1) fun v_19 => xlet (xup M_18 40 0 30 v_19) fun M_20 => (((M_20 40 0 30) - 1), M_20)
def f_X11_told (q : Int32) (what : Int32) (M : xM) : Int32 × xM :=
  xlet (xup M 40 0 0 0) fun M_1 => xlet (xb (f_X11_isNote q M_1)) fun r_2 => if r_2 = 0 then ((-1000001), M_1) else xlet (xb (f_X11_in (what.toInt64) 0 6 M_1)) fun r_4 => if r_4 = 0 then ((-1000001), M_1) else if what = 0 then ((M_1 81 0 q.toNatClampNeg), M_1) else if what = 1 then ((M_1 82 0 q.toNatClampNeg), M_1) else if what = 2 then ((M_1 83 0 q.toNatClampNeg), M_1) else if what = 3 then ((M_1 84 0 q.toNatClampNeg), M_1) else if what = 4 then ((M_1 85 0 q.toNatClampNeg), M_1) else if what = 5 then if (M_1 86 0 q.toNatClampNeg) = 0 then (0, M_1) else (1, M_1) else if (M_1 87 0 q.toNatClampNeg) = 0 then (0, M_1) else (1, M_1)
def f_X11_hands (q : Int32) (i : Int32) (what : Int32) (M : xM) : Int32 × xM :=
  xlet (xup M 40 0 0 0) fun M_1 => xlet (xb (f_X11_isNote q M_1)) fun r_2 => if r_2 = 0 then ((-1000001), M_1) else if i < (-1) then ((-1000001), M_1) else xlet (xb (f_X11_in (what.toInt64) 0 1 M_1)) fun r_5 => if r_5 = 0 then ((-1000001), M_1) else if i = (-1) then ((M_1 91 0 q.toNatClampNeg), M_1) else if i < (M_1 91 0 q.toNatClampNeg) then if what = 0 then ((M_1 92 0 ((12 * q) + i).toNatClampNeg), M_1) else ((M_1 93 0 ((12 * q) + i).toNatClampNeg), M_1) else ((-1000000), M_1)
def f_X11_trader (t : Int32) (town : Int32) (v : Int32) (M : xM) : Int32 × xM :=
  xlet (xup M 40 0 0 0) fun M_1 => xlet (xb (f_X11_isTrader t M_1)) fun r_2 => if r_2 = 0 then ((-1000001), M_1) else xlet (xb (f_X11_isTown town M_1)) fun r_4 => if r_4 = 0 then ((-1000001), M_1) else xlet (xb (f_X11_in (v.toInt64) 0 100 M_1)) fun r_6 => if r_6 = 0 then ((-1000001), M_1) else xlet (xup M_1 94 0 t.toNatClampNeg town) fun M_8 => xlet (xup M_8 95 0 t.toNatClampNeg v) fun M_9 => (1, M_9)
def f_X11_home (q : Int32) (M : xM) : Int32 × xM :=
  xlet (xup M 40 0 0 0) fun M_1 => xlet (xb (f_X11_isNote q M_1)) fun r_2 => if r_2 = 0 then ((-1000001), M_1) else if (M_1 85 0 q.toNatClampNeg) = (-1000000) then ((-1000002), M_1) else xlet (xb (f_X11_isGhost q M_1)) fun r_5 => if r_5 = 0 then xlet (M_1 81 0 q.toNatClampNeg) fun x2_7 => xlet (xup M_1 85 0 q.toNatClampNeg (-1000000)) fun M_8 => if (M_8 83 0 q.toNatClampNeg) = (M_8 60 0 x2_7.toNatClampNeg) then xlet (xup M_8 86 0 q.toNatClampNeg (vp_nar .boolean 1)) fun M_10 => if (M_10 61 0 x2_7.toNatClampNeg) = 0 then if (M_10 82 0 q.toNatClampNeg) ≤ (M_10 59 0 x2_7.toNatClampNeg) then xlet ((M_10 59 0 x2_7.toNatClampNeg) - (M_10 82 0 q.toNatClampNeg)) fun v_14 => xlet (xup M_10 59 0 x2_7.toNatClampNeg v_14) fun M_15 => ((M_15 82 0 q.toNatClampNeg), M_15) else xlet (xup M_10 61 0 x2_7.toNatClampNeg (vp_nar .boolean 1)) fun M_16 => (0, M_16) else xlet (xup M_10 61 0 x2_7.toNatClampNeg (vp_nar .boolean 1)) fun M_12 => (0, M_12) else xlet (xup M_8 87 0 q.toNatClampNeg (vp_nar .boolean 1)) fun M_17 => (0, M_17) else ((-1000002), M_1)
def f_X11_cut (q : Int32) (to : Int32) (M : xM) : Int32 × xM :=
  xlet (xup M 40 0 0 0) fun M_1 => xlet (xb (f_X11_isNote q M_1)) fun r_2 => if r_2 = 0 then ((-1000001), M_1) else xlet (xb (f_X11_isTrader to M_1)) fun r_4 => if r_4 = 0 then ((-1000001), M_1) else if (M_1 85 0 q.toNatClampNeg) = to then ((-1000001), M_1) else if (M_1 85 0 q.toNatClampNeg) = (-1000000) then ((-1000002), M_1) else if (M_1 88 0 q.toNatClampNeg) = 0 then xlet (xup M_1 88 0 q.toNatClampNeg (vp_nar .boolean 1)) fun M_9 => xlet (xup M_9 89 0 q.toNatClampNeg (vp_nar .boolean 1)) fun M_10 => xlet (M_10 85 0 q.toNatClampNeg) fun v_11 => xlet (xup M_10 90 0 (2 * q).toNatClampNeg v_11) fun M_12 => xlet (xup M_12 90 0 ((2 * q) + 1).toNatClampNeg to) fun M_13 => xlet (xup M_13 85 0 q.toNatClampNeg (-1000000)) fun M_14 => (1, M_14) else ((-1000002), M_1)
def f_X11_half (q : Int32) (h : Int32) (to : Int32) (M : xM) : Int32 × xM :=
  xlet (xup M 40 0 0 0) fun M_1 => xlet (xb (f_X11_isNote q M_1)) fun r_2 => if r_2 = 0 then ((-1000001), M_1) else xlet (xb (f_X11_in (h.toInt64) 0 1 M_1)) fun r_4 => if r_4 = 0 then ((-1000001), M_1) else if to = (-1000000) then if (M_1 89 0 q.toNatClampNeg) = 0 then ((-1000002), M_1) else if (M_1 90 0 ((2 * q) + h).toNatClampNeg) = (-1000000) then ((-1000002), M_1) else xlet (xup M_1 90 0 ((2 * q) + h).toNatClampNeg to) fun M_9 => xlet (M_9 90 0 (((2 * q) + 1) - h).toNatClampNeg) fun x4_10 => if x4_10 = to then xlet (xup M_9 89 0 q.toNatClampNeg (vp_nar .boolean 0)) fun M_12 => xlet (xup M_12 87 0 q.toNatClampNeg (vp_nar .boolean 1)) fun M_14 => (0, M_14) else (((M_9 82 0 q.toNatClampNeg) / 2), M_9) else xlet (xb (f_X11_isTrader to M_1)) fun r_16 => if r_16 = 0 then ((-1000001), M_1) else if (M_1 89 0 q.toNatClampNeg) = 0 then ((-1000002), M_1) else if (M_1 90 0 ((2 * q) + h).toNatClampNeg) = (-1000000) then ((-1000002), M_1) else xlet (xup M_1 90 0 ((2 * q) + h).toNatClampNeg to) fun M_20 => xlet (M_20 90 0 (((2 * q) + 1) - h).toNatClampNeg) fun x4_21 => if x4_21 = to then xlet (xup M_20 89 0 q.toNatClampNeg (vp_nar .boolean 0)) fun M_23 => xlet (f_X11_comeTo q to M_23) fun M_26 => ((M_26 82 0 q.toNatClampNeg), M_26) else if x4_21 = (-1000000) then (((M_20 82 0 q.toNatClampNeg) / 2), M_20) else (0, M_20)
def f_X11_bears_L52 (q : Int32) (weeks : Int32) (N_ : xM) : Nat → Int32 → (Int32 → Int32 × xM) → Int32 × xM
  | 0, _, _ => (0, N_)
  | n + 1, at_, kx => if at_ ≤ (12 * q) then kx at_ else if weeks < ((N_ 40 0 13) - (N_ 93 0 at_.toNatClampNeg)) then kx at_ else xlet (at_ + (-1)) fun x3_3 => f_X11_bears_L52 q weeks N_ n x3_3 kx
def f_X11_bears (q : Int32) (weeks : Int32) (M : xM) : Int32 × xM :=
  xlet (xup M 40 0 0 0) fun M_4 => xlet (xb (f_X11_isNote q M_4)) fun r_5 => if r_5 = 0 then ((-1000001), M_4) else xlet (xb (f_X11_isWeek weeks M_4)) fun r_7 => if r_7 = 0 then ((-1000001), M_4) else if (M_4 85 0 q.toNatClampNeg) = (-1000000) then ((-1000002), M_4) else xlet (((12 * q) + (M_4 91 0 q.toNatClampNeg)) - 1) fun x3_10 => f_X11_bears_L52 q weeks M_4 (xmu (12 * q) x3_10 + 1) x3_10 (fun at__11 => ((M_4 92 0 at__11.toNatClampNeg), M_4))
def f_X11_mayGo (day : Int32) (town : Int32) (to : Int32) (M : xM) : Bool :=
  if town = to then true else if day ≤ 1 then false else if (M 55 0 ((6 * town) + to).toNatClampNeg) ≤ 0 then false else true
def f_X11_kindOf (q : Int32) (M : xM) : Int32 :=
  if (M 87 0 q.toNatClampNeg) = 0 then if (M 89 0 q.toNatClampNeg) = 0 then xlet (xb (f_X11_isGhost q M)) fun r_3 => if r_3 = 0 then xlet (xb (f_X11_isFalse q M)) fun r_5 => if r_5 = 0 then if (M 84 0 q.toNatClampNeg) ≤ 0 then 0 else 1 else 2 else 3 else 4 else 5
def f_X11_kind (q : Int32) (M : xM) : Int32 × xM :=
  xlet (xup M 40 0 0 0) fun M_1 => xlet (xb (f_X11_isNote q M_1)) fun r_2 => if r_2 = 0 then ((-1000001), M_1) else xlet (f_X11_kindOf q M_1) fun r_4 => (r_4, M_1)
def f_X11_as (q : Int32) (of_ : Int32) (M : xM) : Int32 × xM :=
  xlet (xup M 40 0 0 0) fun M_1 => xlet (xb (f_X11_isNote q M_1)) fun r_2 => if r_2 = 0 then ((-1000001), M_1) else xlet (xb (f_X11_in (of_.toInt64) 0 5 M_1)) fun r_4 => if r_4 = 0 then ((-1000001), M_1) else xlet (xup M_1 40 0 1 0) fun M_6 => xlet (f_X11_kindOf q M_6) fun r_7 => xlet (xb (f_X11_isOf r_7 of_ M_6)) fun r_8 => if r_8 = 0 then xlet2 (f_X11_finding 3 M_6) fun r_10 M_11 => (r_10, M_11) else ((M_6 82 0 q.toNatClampNeg), M_6)
def f_X11_trace (i : Int32) (M : xM) : Int32 × xM :=
  xlet (xup M 40 0 0 0) fun M_1 => xlet (xb (f_X11_in (i.toInt64) 0 (((M_1 40 0 50) - 1).toInt64) M_1)) fun r_2 => if r_2 = 0 then ((-1000000), M_1) else ((M_1 99 0 i.toNatClampNeg), M_1)
def f_X11_status  (M : xM) : Int32 × xM :=
  xlet (xup M 40 0 0 0) fun M_1 => ((M_1 40 0 1), M_1)
theorem ob_X11_byteAt_13_in (nb nn : Nat) (k : Int32) (M : xM) (hp0 : 0 ≤ k) (hp1 : M 40 0 23 ≤ 400) (c_1 : ¬ (M 40 0 23) ≤ k) : vp_in k 400 := by
  subst_vars
  exact xin (N := 400) (by grind [xup_at, isSheet_eq, isTown_eq, isWeek_eq, isTrader_eq, in_0s, isBank_eq, in_0_1, in_0_2, in_0_4, in_0_5, in_0_6, in_0_7, in_0_100, in_0_255, in_0_299, in_0_500, in_0_9999, in_0_99999, in_1_6, in_1_8, in_1_100, in_1_999, in_t_299, xb]) (by grind [xup_at, isSheet_eq, isTown_eq, isWeek_eq, isTrader_eq, in_0s, isBank_eq, in_0_1, in_0_2, in_0_4, in_0_5, in_0_6, in_0_7, in_0_100, in_0_255, in_0_299, in_0_500, in_0_9999, in_0_99999, in_1_6, in_1_8, in_1_100, in_1_999, in_t_299, xb]) (by decide)
theorem ob_X11_step_124_p0 (nb nn : Nat) (M : xM) (hp0 : 0 ≤ M 40 0 24 ∧ M 40 0 24 ≤ M 40 0 23 ∧ M 40 0 23 ≤ 400) (q : Int32) (n : Nat) (N_ : xM) (hmu : xmu (N_ 40 0 24) (N_ 40 0 23) < n + 1) (hinv : 0 ≤ N_ 40 0 24 ∧ N_ 40 0 24 ≤ N_ 40 0 23 ∧ N_ 40 0 23 ≤ 400) : 0 ≤ (N_ 40 0 24) := by
  subst_vars
  grind [xup_at, isSheet_eq, isTown_eq, isWeek_eq, isTrader_eq, in_0s, isBank_eq, in_0_1, in_0_2, in_0_4, in_0_5, in_0_6, in_0_7, in_0_100, in_0_255, in_0_299, in_0_500, in_0_9999, in_0_99999, in_1_6, in_1_8, in_1_100, in_1_999, in_t_299, xb, f_X11_byteAt, f_X11_isLetter, f_X11_isFigure]
theorem ob_X11_step_124_p1 (nb nn : Nat) (M : xM) (hp0 : 0 ≤ M 40 0 24 ∧ M 40 0 24 ≤ M 40 0 23 ∧ M 40 0 23 ≤ 400) (q : Int32) (n : Nat) (N_ : xM) (hmu : xmu (N_ 40 0 24) (N_ 40 0 23) < n + 1) (hinv : 0 ≤ N_ 40 0 24 ∧ N_ 40 0 24 ≤ N_ 40 0 23 ∧ N_ 40 0 23 ≤ 400) : N_ 40 0 23 ≤ 400 := by
  subst_vars
  grind [xup_at, isSheet_eq, isTown_eq, isWeek_eq, isTrader_eq, in_0s, isBank_eq, in_0_1, in_0_2, in_0_4, in_0_5, in_0_6, in_0_7, in_0_100, in_0_255, in_0_299, in_0_500, in_0_9999, in_0_99999, in_1_6, in_1_8, in_1_100, in_1_999, in_t_299, xb, f_X11_byteAt, f_X11_isLetter, f_X11_isFigure]
theorem ob_X11_step_146_x119 (nb nn : Nat) (M : xM) (hp0 : 0 ≤ M 40 0 24 ∧ M 40 0 24 ≤ M 40 0 23 ∧ M 40 0 23 ≤ 400) (q : Int32) (n : Nat) (N_ : xM) (hmu : xmu (N_ 40 0 24) (N_ 40 0 23) < n + 1) (hinv : 0 ≤ N_ 40 0 24 ∧ N_ 40 0 24 ≤ N_ 40 0 23 ∧ N_ 40 0 23 ≤ 400) (r_1 : Int32) (er_1 : r_1 = f_X11_byteAt (N_ 40 0 24) N_) (r_2 : Int32) (er_2 : r_2 = xb (f_X11_isFigure r_1 N_)) (c_3 : r_2 = 0) : 0 ≤ N_ 40 0 24 ∧ N_ 40 0 24 ≤ N_ 40 0 23 ∧ N_ 40 0 23 ≤ 400 := by
  subst_vars
  grind [xup_at, isSheet_eq, isTown_eq, isWeek_eq, isTrader_eq, in_0s, isBank_eq, in_0_1, in_0_2, in_0_4, in_0_5, in_0_6, in_0_7, in_0_100, in_0_255, in_0_299, in_0_500, in_0_9999, in_0_99999, in_1_6, in_1_8, in_1_100, in_1_999, in_t_299, xb, f_X11_byteAt, f_X11_isLetter, f_X11_isFigure]
theorem ob_X11_step_119_mu_5 (nb nn : Nat) (M : xM) (hp0 : 0 ≤ M 40 0 24 ∧ M 40 0 24 ≤ M 40 0 23 ∧ M 40 0 23 ≤ 400) (q : Int32) (n : Nat) (N_ : xM) (hmu : xmu (N_ 40 0 24) (N_ 40 0 23) < n + 1) (hinv : 0 ≤ N_ 40 0 24 ∧ N_ 40 0 24 ≤ N_ 40 0 23 ∧ N_ 40 0 23 ≤ 400) (r_1 : Int32) (er_1 : r_1 = f_X11_byteAt (N_ 40 0 24) N_) (r_2 : Int32) (er_2 : r_2 = xb (f_X11_isFigure r_1 N_)) (c_3 : ¬ r_2 = 0) (v_4 : Int32) (ev_4 : v_4 = ((N_ 40 0 24) + 1)) (M_5 : xM) (eM_5 : M_5 = xup N_ 40 0 24 v_4) : xmu (M_5 40 0 24) (M_5 40 0 23) < n := by
  subst_vars
  have h9 := xmu_up (a := N_ 40 0 24) (b := N_ 40 0 23) (by grind [f_X11_byteAt, f_X11_isLetter, f_X11_isFigure, xb])
  simp [xup_at]
  omega
theorem ob_X11_step_119_inv_5 (nb nn : Nat) (M : xM) (hp0 : 0 ≤ M 40 0 24 ∧ M 40 0 24 ≤ M 40 0 23 ∧ M 40 0 23 ≤ 400) (q : Int32) (n : Nat) (N_ : xM) (hmu : xmu (N_ 40 0 24) (N_ 40 0 23) < n + 1) (hinv : 0 ≤ N_ 40 0 24 ∧ N_ 40 0 24 ≤ N_ 40 0 23 ∧ N_ 40 0 23 ≤ 400) (r_1 : Int32) (er_1 : r_1 = f_X11_byteAt (N_ 40 0 24) N_) (r_2 : Int32) (er_2 : r_2 = xb (f_X11_isFigure r_1 N_)) (c_3 : ¬ r_2 = 0) (v_4 : Int32) (ev_4 : v_4 = ((N_ 40 0 24) + 1)) (M_5 : xM) (eM_5 : M_5 = xup N_ 40 0 24 v_4) : 0 ≤ M_5 40 0 24 ∧ M_5 40 0 24 ≤ M_5 40 0 23 ∧ M_5 40 0 23 ≤ 400 := by
  subst_vars
  grind [xup_at, isSheet_eq, isTown_eq, isWeek_eq, isTrader_eq, in_0s, isBank_eq, in_0_1, in_0_2, in_0_4, in_0_5, in_0_6, in_0_7, in_0_100, in_0_255, in_0_299, in_0_500, in_0_9999, in_0_99999, in_1_6, in_1_8, in_1_100, in_1_999, in_t_299, xb, f_X11_byteAt, f_X11_isLetter, f_X11_isFigure]
theorem ob_X11_step_82_p0 (nb nn : Nat) (M : xM) (hp0 : 0 ≤ M 40 0 24 ∧ M 40 0 24 ≤ M 40 0 23 ∧ M 40 0 23 ≤ 400) (q : Int32) (n : Nat) (N_ : xM) (hmu : xmu (N_ 40 0 24) (N_ 40 0 23) < n + 1) (hinv : 0 ≤ N_ 40 0 24 ∧ N_ 40 0 24 ≤ N_ 40 0 23 ∧ N_ 40 0 23 ≤ 400) : 0 ≤ (N_ 40 0 24) := by
  subst_vars
  grind [xup_at, isSheet_eq, isTown_eq, isWeek_eq, isTrader_eq, in_0s, isBank_eq, in_0_1, in_0_2, in_0_4, in_0_5, in_0_6, in_0_7, in_0_100, in_0_255, in_0_299, in_0_500, in_0_9999, in_0_99999, in_1_6, in_1_8, in_1_100, in_1_999, in_t_299, xb, f_X11_byteAt, f_X11_isLetter, f_X11_isFigure]
theorem ob_X11_step_82_p1 (nb nn : Nat) (M : xM) (hp0 : 0 ≤ M 40 0 24 ∧ M 40 0 24 ≤ M 40 0 23 ∧ M 40 0 23 ≤ 400) (q : Int32) (n : Nat) (N_ : xM) (hmu : xmu (N_ 40 0 24) (N_ 40 0 23) < n + 1) (hinv : 0 ≤ N_ 40 0 24 ∧ N_ 40 0 24 ≤ N_ 40 0 23 ∧ N_ 40 0 23 ≤ 400) : N_ 40 0 23 ≤ 400 := by
  subst_vars
  grind [xup_at, isSheet_eq, isTown_eq, isWeek_eq, isTrader_eq, in_0s, isBank_eq, in_0_1, in_0_2, in_0_4, in_0_5, in_0_6, in_0_7, in_0_100, in_0_255, in_0_299, in_0_500, in_0_9999, in_0_99999, in_1_6, in_1_8, in_1_100, in_1_999, in_t_299, xb, f_X11_byteAt, f_X11_isLetter, f_X11_isFigure]
theorem ob_X11_step_104_x77 (nb nn : Nat) (M : xM) (hp0 : 0 ≤ M 40 0 24 ∧ M 40 0 24 ≤ M 40 0 23 ∧ M 40 0 23 ≤ 400) (q : Int32) (n : Nat) (N_ : xM) (hmu : xmu (N_ 40 0 24) (N_ 40 0 23) < n + 1) (hinv : 0 ≤ N_ 40 0 24 ∧ N_ 40 0 24 ≤ N_ 40 0 23 ∧ N_ 40 0 23 ≤ 400) (r_6 : Int32) (er_6 : r_6 = f_X11_byteAt (N_ 40 0 24) N_) (r_7 : Int32) (er_7 : r_7 = xb (f_X11_isLetter r_6 N_)) (c_8 : r_7 = 0) : 0 ≤ N_ 40 0 24 ∧ N_ 40 0 24 ≤ N_ 40 0 23 ∧ N_ 40 0 23 ≤ 400 := by
  subst_vars
  grind [xup_at, isSheet_eq, isTown_eq, isWeek_eq, isTrader_eq, in_0s, isBank_eq, in_0_1, in_0_2, in_0_4, in_0_5, in_0_6, in_0_7, in_0_100, in_0_255, in_0_299, in_0_500, in_0_9999, in_0_99999, in_1_6, in_1_8, in_1_100, in_1_999, in_t_299, xb, f_X11_byteAt, f_X11_isLetter, f_X11_isFigure]
theorem ob_X11_step_77_mu_10 (nb nn : Nat) (M : xM) (hp0 : 0 ≤ M 40 0 24 ∧ M 40 0 24 ≤ M 40 0 23 ∧ M 40 0 23 ≤ 400) (q : Int32) (n : Nat) (N_ : xM) (hmu : xmu (N_ 40 0 24) (N_ 40 0 23) < n + 1) (hinv : 0 ≤ N_ 40 0 24 ∧ N_ 40 0 24 ≤ N_ 40 0 23 ∧ N_ 40 0 23 ≤ 400) (r_6 : Int32) (er_6 : r_6 = f_X11_byteAt (N_ 40 0 24) N_) (r_7 : Int32) (er_7 : r_7 = xb (f_X11_isLetter r_6 N_)) (c_8 : ¬ r_7 = 0) (v_9 : Int32) (ev_9 : v_9 = ((N_ 40 0 24) + 1)) (M_10 : xM) (eM_10 : M_10 = xup N_ 40 0 24 v_9) : xmu (M_10 40 0 24) (M_10 40 0 23) < n := by
  subst_vars
  have h9 := xmu_up (a := N_ 40 0 24) (b := N_ 40 0 23) (by grind [f_X11_byteAt, f_X11_isLetter, f_X11_isFigure, xb])
  simp [xup_at]
  omega
theorem ob_X11_step_77_inv_10 (nb nn : Nat) (M : xM) (hp0 : 0 ≤ M 40 0 24 ∧ M 40 0 24 ≤ M 40 0 23 ∧ M 40 0 23 ≤ 400) (q : Int32) (n : Nat) (N_ : xM) (hmu : xmu (N_ 40 0 24) (N_ 40 0 23) < n + 1) (hinv : 0 ≤ N_ 40 0 24 ∧ N_ 40 0 24 ≤ N_ 40 0 23 ∧ N_ 40 0 23 ≤ 400) (r_6 : Int32) (er_6 : r_6 = f_X11_byteAt (N_ 40 0 24) N_) (r_7 : Int32) (er_7 : r_7 = xb (f_X11_isLetter r_6 N_)) (c_8 : ¬ r_7 = 0) (v_9 : Int32) (ev_9 : v_9 = ((N_ 40 0 24) + 1)) (M_10 : xM) (eM_10 : M_10 = xup N_ 40 0 24 v_9) : 0 ≤ M_10 40 0 24 ∧ M_10 40 0 24 ≤ M_10 40 0 23 ∧ M_10 40 0 23 ≤ 400 := by
  subst_vars
  grind [xup_at, isSheet_eq, isTown_eq, isWeek_eq, isTrader_eq, in_0s, isBank_eq, in_0_1, in_0_2, in_0_4, in_0_5, in_0_6, in_0_7, in_0_100, in_0_255, in_0_299, in_0_500, in_0_9999, in_0_99999, in_1_6, in_1_8, in_1_100, in_1_999, in_t_299, xb, f_X11_byteAt, f_X11_isLetter, f_X11_isFigure]
theorem ob_X11_step_5_p0 (nb nn : Nat) (M : xM) (hp0 : 0 ≤ M 40 0 24 ∧ M 40 0 24 ≤ M 40 0 23 ∧ M 40 0 23 ≤ 400) (n : Nat) (N_ : xM) (hmu : xmu (N_ 40 0 24) (N_ 40 0 23) < n + 1) (hinv : 0 ≤ N_ 40 0 24 ∧ N_ 40 0 24 ≤ N_ 40 0 23 ∧ N_ 40 0 23 ≤ 400) : 0 ≤ (N_ 40 0 24) := by
  subst_vars
  grind [xup_at, isSheet_eq, isTown_eq, isWeek_eq, isTrader_eq, in_0s, isBank_eq, in_0_1, in_0_2, in_0_4, in_0_5, in_0_6, in_0_7, in_0_100, in_0_255, in_0_299, in_0_500, in_0_9999, in_0_99999, in_1_6, in_1_8, in_1_100, in_1_999, in_t_299, xb, f_X11_byteAt, f_X11_isLetter, f_X11_isFigure]
theorem ob_X11_step_5_p1 (nb nn : Nat) (M : xM) (hp0 : 0 ≤ M 40 0 24 ∧ M 40 0 24 ≤ M 40 0 23 ∧ M 40 0 23 ≤ 400) (n : Nat) (N_ : xM) (hmu : xmu (N_ 40 0 24) (N_ 40 0 23) < n + 1) (hinv : 0 ≤ N_ 40 0 24 ∧ N_ 40 0 24 ≤ N_ 40 0 23 ∧ N_ 40 0 23 ≤ 400) : N_ 40 0 23 ≤ 400 := by
  subst_vars
  grind [xup_at, isSheet_eq, isTown_eq, isWeek_eq, isTrader_eq, in_0s, isBank_eq, in_0_1, in_0_2, in_0_4, in_0_5, in_0_6, in_0_7, in_0_100, in_0_255, in_0_299, in_0_500, in_0_9999, in_0_99999, in_1_6, in_1_8, in_1_100, in_1_999, in_t_299, xb, f_X11_byteAt, f_X11_isLetter, f_X11_isFigure]
theorem ob_X11_step_0_mu_14 (nb nn : Nat) (M : xM) (hp0 : 0 ≤ M 40 0 24 ∧ M 40 0 24 ≤ M 40 0 23 ∧ M 40 0 23 ≤ 400) (n : Nat) (N_ : xM) (hmu : xmu (N_ 40 0 24) (N_ 40 0 23) < n + 1) (hinv : 0 ≤ N_ 40 0 24 ∧ N_ 40 0 24 ≤ N_ 40 0 23 ∧ N_ 40 0 23 ≤ 400) (r_11 : Int32) (er_11 : r_11 = f_X11_byteAt (N_ 40 0 24) N_) (c_12 : r_11 = 32) (v_13 : Int32) (ev_13 : v_13 = ((N_ 40 0 24) + 1)) (M_14 : xM) (eM_14 : M_14 = xup N_ 40 0 24 v_13) : xmu (M_14 40 0 24) (M_14 40 0 23) < n := by
  subst_vars
  have h9 := xmu_up (a := N_ 40 0 24) (b := N_ 40 0 23) (by grind [f_X11_byteAt, f_X11_isLetter, f_X11_isFigure, xb])
  simp [xup_at]
  omega
theorem ob_X11_step_0_inv_14 (nb nn : Nat) (M : xM) (hp0 : 0 ≤ M 40 0 24 ∧ M 40 0 24 ≤ M 40 0 23 ∧ M 40 0 23 ≤ 400) (n : Nat) (N_ : xM) (hmu : xmu (N_ 40 0 24) (N_ 40 0 23) < n + 1) (hinv : 0 ≤ N_ 40 0 24 ∧ N_ 40 0 24 ≤ N_ 40 0 23 ∧ N_ 40 0 23 ≤ 400) (r_11 : Int32) (er_11 : r_11 = f_X11_byteAt (N_ 40 0 24) N_) (c_12 : r_11 = 32) (v_13 : Int32) (ev_13 : v_13 = ((N_ 40 0 24) + 1)) (M_14 : xM) (eM_14 : M_14 = xup N_ 40 0 24 v_13) : 0 ≤ M_14 40 0 24 ∧ M_14 40 0 24 ≤ M_14 40 0 23 ∧ M_14 40 0 23 ≤ 400 := by
  subst_vars
  grind [xup_at, isSheet_eq, isTown_eq, isWeek_eq, isTrader_eq, in_0s, isBank_eq, in_0_1, in_0_2, in_0_4, in_0_5, in_0_6, in_0_7, in_0_100, in_0_255, in_0_299, in_0_500, in_0_9999, in_0_99999, in_1_6, in_1_8, in_1_100, in_1_999, in_t_299, xb, f_X11_byteAt, f_X11_isLetter, f_X11_isFigure]
theorem ob_X11_step_18_p0 (nb nn : Nat) (M : xM) (hp0 : 0 ≤ M 40 0 24 ∧ M 40 0 24 ≤ M 40 0 23 ∧ M 40 0 23 ≤ 400) (n : Nat) (N_ : xM) (hmu : xmu (N_ 40 0 24) (N_ 40 0 23) < n + 1) (hinv : 0 ≤ N_ 40 0 24 ∧ N_ 40 0 24 ≤ N_ 40 0 23 ∧ N_ 40 0 23 ≤ 400) (r_11 : Int32) (er_11 : r_11 = f_X11_byteAt (N_ 40 0 24) N_) (c_12 : ¬ r_11 = 32) : 0 ≤ (N_ 40 0 24) := by
  subst_vars
  grind [xup_at, isSheet_eq, isTown_eq, isWeek_eq, isTrader_eq, in_0s, isBank_eq, in_0_1, in_0_2, in_0_4, in_0_5, in_0_6, in_0_7, in_0_100, in_0_255, in_0_299, in_0_500, in_0_9999, in_0_99999, in_1_6, in_1_8, in_1_100, in_1_999, in_t_299, xb, f_X11_byteAt, f_X11_isLetter, f_X11_isFigure]
theorem ob_X11_step_18_p1 (nb nn : Nat) (M : xM) (hp0 : 0 ≤ M 40 0 24 ∧ M 40 0 24 ≤ M 40 0 23 ∧ M 40 0 23 ≤ 400) (n : Nat) (N_ : xM) (hmu : xmu (N_ 40 0 24) (N_ 40 0 23) < n + 1) (hinv : 0 ≤ N_ 40 0 24 ∧ N_ 40 0 24 ≤ N_ 40 0 23 ∧ N_ 40 0 23 ≤ 400) (r_11 : Int32) (er_11 : r_11 = f_X11_byteAt (N_ 40 0 24) N_) (c_12 : ¬ r_11 = 32) : N_ 40 0 23 ≤ 400 := by
  subst_vars
  grind [xup_at, isSheet_eq, isTown_eq, isWeek_eq, isTrader_eq, in_0s, isBank_eq, in_0_1, in_0_2, in_0_4, in_0_5, in_0_6, in_0_7, in_0_100, in_0_255, in_0_299, in_0_500, in_0_9999, in_0_99999, in_1_6, in_1_8, in_1_100, in_1_999, in_t_299, xb, f_X11_byteAt, f_X11_isLetter, f_X11_isFigure]
theorem ob_X11_step_39_x0 (nb nn : Nat) (M : xM) (hp0 : 0 ≤ M 40 0 24 ∧ M 40 0 24 ≤ M 40 0 23 ∧ M 40 0 23 ≤ 400) (n : Nat) (N_ : xM) (hmu : xmu (N_ 40 0 24) (N_ 40 0 23) < n + 1) (hinv : 0 ≤ N_ 40 0 24 ∧ N_ 40 0 24 ≤ N_ 40 0 23 ∧ N_ 40 0 23 ≤ 400) (r_11 : Int32) (er_11 : r_11 = f_X11_byteAt (N_ 40 0 24) N_) (c_12 : ¬ r_11 = 32) (c_16 : ¬ r_11 = 10) : 0 ≤ N_ 40 0 24 ∧ N_ 40 0 24 ≤ N_ 40 0 23 ∧ N_ 40 0 23 ≤ 400 := by
  subst_vars
  grind [xup_at, isSheet_eq, isTown_eq, isWeek_eq, isTrader_eq, in_0s, isBank_eq, in_0_1, in_0_2, in_0_4, in_0_5, in_0_6, in_0_7, in_0_100, in_0_255, in_0_299, in_0_500, in_0_9999, in_0_99999, in_1_6, in_1_8, in_1_100, in_1_999, in_t_299, xb, f_X11_byteAt, f_X11_isLetter, f_X11_isFigure]
theorem ob_X11_step_0_mu_18 (nb nn : Nat) (M : xM) (hp0 : 0 ≤ M 40 0 24 ∧ M 40 0 24 ≤ M 40 0 23 ∧ M 40 0 23 ≤ 400) (n : Nat) (N_ : xM) (hmu : xmu (N_ 40 0 24) (N_ 40 0 23) < n + 1) (hinv : 0 ≤ N_ 40 0 24 ∧ N_ 40 0 24 ≤ N_ 40 0 23 ∧ N_ 40 0 23 ≤ 400) (r_11 : Int32) (er_11 : r_11 = f_X11_byteAt (N_ 40 0 24) N_) (c_12 : ¬ r_11 = 32) (c_16 : r_11 = 10) (v_17 : Int32) (ev_17 : v_17 = ((N_ 40 0 24) + 1)) (M_18 : xM) (eM_18 : M_18 = xup N_ 40 0 24 v_17) : xmu (M_18 40 0 24) (M_18 40 0 23) < n := by
  subst_vars
  have h9 := xmu_up (a := N_ 40 0 24) (b := N_ 40 0 23) (by grind [f_X11_byteAt, f_X11_isLetter, f_X11_isFigure, xb])
  simp [xup_at]
  omega
theorem ob_X11_step_0_inv_18 (nb nn : Nat) (M : xM) (hp0 : 0 ≤ M 40 0 24 ∧ M 40 0 24 ≤ M 40 0 23 ∧ M 40 0 23 ≤ 400) (n : Nat) (N_ : xM) (hmu : xmu (N_ 40 0 24) (N_ 40 0 23) < n + 1) (hinv : 0 ≤ N_ 40 0 24 ∧ N_ 40 0 24 ≤ N_ 40 0 23 ∧ N_ 40 0 23 ≤ 400) (r_11 : Int32) (er_11 : r_11 = f_X11_byteAt (N_ 40 0 24) N_) (c_12 : ¬ r_11 = 32) (c_16 : r_11 = 10) (v_17 : Int32) (ev_17 : v_17 = ((N_ 40 0 24) + 1)) (M_18 : xM) (eM_18 : M_18 = xup N_ 40 0 24 v_17) : 0 ≤ M_18 40 0 24 ∧ M_18 40 0 24 ≤ M_18 40 0 23 ∧ M_18 40 0 23 ≤ 400 := by
  subst_vars
  grind [xup_at, isSheet_eq, isTown_eq, isWeek_eq, isTrader_eq, in_0s, isBank_eq, in_0_1, in_0_2, in_0_4, in_0_5, in_0_6, in_0_7, in_0_100, in_0_255, in_0_299, in_0_500, in_0_9999, in_0_99999, in_1_6, in_1_8, in_1_100, in_1_999, in_t_299, xb, f_X11_byteAt, f_X11_isLetter, f_X11_isFigure]
theorem ob_X11_step_0_ini_18 (nb nn : Nat) (M : xM) (hp0 : 0 ≤ M 40 0 24 ∧ M 40 0 24 ≤ M 40 0 23 ∧ M 40 0 23 ≤ 400) : 0 ≤ M 40 0 24 ∧ M 40 0 24 ≤ M 40 0 23 ∧ M 40 0 23 ≤ 400 := by
  subst_vars
  grind [xup_at, isSheet_eq, isTown_eq, isWeek_eq, isTrader_eq, in_0s, isBank_eq, in_0_1, in_0_2, in_0_4, in_0_5, in_0_6, in_0_7, in_0_100, in_0_255, in_0_299, in_0_500, in_0_9999, in_0_99999, in_1_6, in_1_8, in_1_100, in_1_999, in_t_299, xb, f_X11_byteAt, f_X11_isLetter, f_X11_isFigure]
theorem ob_X11_step_52_p0 (nb nn : Nat) (M : xM) (hp0 : 0 ≤ M 40 0 24 ∧ M 40 0 24 ≤ M 40 0 23 ∧ M 40 0 23 ≤ 400) (M_19 : xM) (hiv_19 : 0 ≤ M_19 40 0 24 ∧ M_19 40 0 24 ≤ M_19 40 0 23 ∧ M_19 40 0 23 ≤ 400) (v_20 : Int32) (ev_20 : v_20 = (M_19 40 0 24)) (M_21 : xM) (eM_21 : M_21 = xup M_19 40 0 26 v_20) : 0 ≤ (M_21 40 0 24) := by
  subst_vars
  grind [xup_at, isSheet_eq, isTown_eq, isWeek_eq, isTrader_eq, in_0s, isBank_eq, in_0_1, in_0_2, in_0_4, in_0_5, in_0_6, in_0_7, in_0_100, in_0_255, in_0_299, in_0_500, in_0_9999, in_0_99999, in_1_6, in_1_8, in_1_100, in_1_999, in_t_299, xb, f_X11_byteAt, f_X11_isLetter, f_X11_isFigure]
theorem ob_X11_step_52_p1 (nb nn : Nat) (M : xM) (hp0 : 0 ≤ M 40 0 24 ∧ M 40 0 24 ≤ M 40 0 23 ∧ M 40 0 23 ≤ 400) (M_19 : xM) (hiv_19 : 0 ≤ M_19 40 0 24 ∧ M_19 40 0 24 ≤ M_19 40 0 23 ∧ M_19 40 0 23 ≤ 400) (v_20 : Int32) (ev_20 : v_20 = (M_19 40 0 24)) (M_21 : xM) (eM_21 : M_21 = xup M_19 40 0 26 v_20) : M_21 40 0 23 ≤ 400 := by
  subst_vars
  grind [xup_at, isSheet_eq, isTown_eq, isWeek_eq, isTrader_eq, in_0s, isBank_eq, in_0_1, in_0_2, in_0_4, in_0_5, in_0_6, in_0_7, in_0_100, in_0_255, in_0_299, in_0_500, in_0_9999, in_0_99999, in_1_6, in_1_8, in_1_100, in_1_999, in_t_299, xb, f_X11_byteAt, f_X11_isLetter, f_X11_isFigure]
theorem ob_X11_step_119_ini_36 (nb nn : Nat) (M : xM) (hp0 : 0 ≤ M 40 0 24 ∧ M 40 0 24 ≤ M 40 0 23 ∧ M 40 0 23 ≤ 400) (M_19 : xM) (hiv_19 : 0 ≤ M_19 40 0 24 ∧ M_19 40 0 24 ≤ M_19 40 0 23 ∧ M_19 40 0 23 ≤ 400) (v_20 : Int32) (ev_20 : v_20 = (M_19 40 0 24)) (M_21 : xM) (eM_21 : M_21 = xup M_19 40 0 26 v_20) (r_22 : Int32) (er_22 : r_22 = f_X11_byteAt (M_21 40 0 24) M_21) (c_23 : ¬ r_22 = (-1000000)) (r_24 : Int32) (er_24 : r_24 = xb (f_X11_isLetter r_22 M_21)) (c_25 : r_24 = 0) (r_26 : Int32) (er_26 : r_26 = xb (f_X11_isFigure r_22 M_21)) (c_27 : ¬ r_26 = 0) : 0 ≤ M_21 40 0 24 ∧ M_21 40 0 24 ≤ M_21 40 0 23 ∧ M_21 40 0 23 ≤ 400 := by
  subst_vars
  grind [xup_at, isSheet_eq, isTown_eq, isWeek_eq, isTrader_eq, in_0s, isBank_eq, in_0_1, in_0_2, in_0_4, in_0_5, in_0_6, in_0_7, in_0_100, in_0_255, in_0_299, in_0_500, in_0_9999, in_0_99999, in_1_6, in_1_8, in_1_100, in_1_999, in_t_299, xb, f_X11_byteAt, f_X11_isLetter, f_X11_isFigure]
theorem ob_X11_step_77_ini_44 (nb nn : Nat) (M : xM) (hp0 : 0 ≤ M 40 0 24 ∧ M 40 0 24 ≤ M 40 0 23 ∧ M 40 0 23 ≤ 400) (M_19 : xM) (hiv_19 : 0 ≤ M_19 40 0 24 ∧ M_19 40 0 24 ≤ M_19 40 0 23 ∧ M_19 40 0 23 ≤ 400) (v_20 : Int32) (ev_20 : v_20 = (M_19 40 0 24)) (M_21 : xM) (eM_21 : M_21 = xup M_19 40 0 26 v_20) (r_22 : Int32) (er_22 : r_22 = f_X11_byteAt (M_21 40 0 24) M_21) (c_23 : ¬ r_22 = (-1000000)) (r_24 : Int32) (er_24 : r_24 = xb (f_X11_isLetter r_22 M_21)) (c_25 : ¬ r_24 = 0) : 0 ≤ M_21 40 0 24 ∧ M_21 40 0 24 ≤ M_21 40 0 23 ∧ M_21 40 0 23 ≤ 400 := by
  subst_vars
  grind [xup_at, isSheet_eq, isTown_eq, isWeek_eq, isTrader_eq, in_0s, isBank_eq, in_0_1, in_0_2, in_0_4, in_0_5, in_0_6, in_0_7, in_0_100, in_0_255, in_0_299, in_0_500, in_0_9999, in_0_99999, in_1_6, in_1_8, in_1_100, in_1_999, in_t_299, xb, f_X11_byteAt, f_X11_isLetter, f_X11_isFigure]
theorem ob_X11_falls_145_x92 (nb nn : Nat) (what : Int32) (M : xM) (hp0 : 0 ≤ M 40 0 7) (hp1 : M 40 0 7 ≤ 8) (fallen : Int32) (rounds : Int32) (more : Int32) (now : Int32) (a : Int32) (n : Nat) (has : Int32) (b : Int32) (N_ : xM) (hmu : xmu b (N_ 40 0 7) < n + 1) (hinv : 0 ≤ N_ 40 0 7 ∧ N_ 40 0 7 ≤ 8 ∧ 0 ≤ b ∧ 0 ≤ a ∧ a < N_ 40 0 7) (c_1 : (N_ 40 0 7) ≤ b) : 0 ≤ N_ 40 0 7 ∧ N_ 40 0 7 ≤ 8 ∧ 0 ≤ b ∧ 0 ≤ a ∧ a < N_ 40 0 7 := by
  subst_vars
  grind [xup_at, isSheet_eq, isTown_eq, isWeek_eq, isTrader_eq, in_0s, isBank_eq, in_0_1, in_0_2, in_0_4, in_0_5, in_0_6, in_0_7, in_0_100, in_0_255, in_0_299, in_0_500, in_0_9999, in_0_99999, in_1_6, in_1_8, in_1_100, in_1_999, in_t_299, xb, or256, shl8]
theorem ob_X11_falls_92_mu_4 (nb nn : Nat) (what : Int32) (M : xM) (hp0 : 0 ≤ M 40 0 7) (hp1 : M 40 0 7 ≤ 8) (fallen : Int32) (rounds : Int32) (more : Int32) (now : Int32) (a : Int32) (n : Nat) (has : Int32) (b : Int32) (N_ : xM) (hmu : xmu b (N_ 40 0 7) < n + 1) (hinv : 0 ≤ N_ 40 0 7 ∧ N_ 40 0 7 ≤ 8 ∧ 0 ≤ b ∧ 0 ≤ a ∧ a < N_ 40 0 7) (c_1 : ¬ (N_ 40 0 7) ≤ b) (c_2 : b = a) (x7_3 : Int32) (ex7_3 : x7_3 = (has + 0)) (x8_4 : Int32) (ex8_4 : x8_4 = b + 1) : xmu x8_4 (N_ 40 0 7) < n := by
  subst_vars
  have h9 := xmu_up (a := b) (b := (N_ 40 0 7)) (by grind)
  (try simp [xup_at])
  omega
theorem ob_X11_falls_92_inv_4 (nb nn : Nat) (what : Int32) (M : xM) (hp0 : 0 ≤ M 40 0 7) (hp1 : M 40 0 7 ≤ 8) (fallen : Int32) (rounds : Int32) (more : Int32) (now : Int32) (a : Int32) (n : Nat) (has : Int32) (b : Int32) (N_ : xM) (hmu : xmu b (N_ 40 0 7) < n + 1) (hinv : 0 ≤ N_ 40 0 7 ∧ N_ 40 0 7 ≤ 8 ∧ 0 ≤ b ∧ 0 ≤ a ∧ a < N_ 40 0 7) (c_1 : ¬ (N_ 40 0 7) ≤ b) (c_2 : b = a) (x7_3 : Int32) (ex7_3 : x7_3 = (has + 0)) (x8_4 : Int32) (ex8_4 : x8_4 = b + 1) : 0 ≤ N_ 40 0 7 ∧ N_ 40 0 7 ≤ 8 ∧ 0 ≤ x8_4 ∧ 0 ≤ a ∧ a < N_ 40 0 7 := by
  subst_vars
  grind [xup_at, isSheet_eq, isTown_eq, isWeek_eq, isTrader_eq, in_0s, isBank_eq, in_0_1, in_0_2, in_0_4, in_0_5, in_0_6, in_0_7, in_0_100, in_0_255, in_0_299, in_0_500, in_0_9999, in_0_99999, in_1_6, in_1_8, in_1_100, in_1_999, in_t_299, xb, or256, shl8]
theorem ob_X11_falls_92_mu_7 (nb nn : Nat) (what : Int32) (M : xM) (hp0 : 0 ≤ M 40 0 7) (hp1 : M 40 0 7 ≤ 8) (fallen : Int32) (rounds : Int32) (more : Int32) (now : Int32) (a : Int32) (n : Nat) (has : Int32) (b : Int32) (N_ : xM) (hmu : xmu b (N_ 40 0 7) < n + 1) (hinv : 0 ≤ N_ 40 0 7 ∧ N_ 40 0 7 ≤ 8 ∧ 0 ≤ b ∧ 0 ≤ a ∧ a < N_ 40 0 7) (c_1 : ¬ (N_ 40 0 7) ≤ b) (c_2 : ¬ b = a) (c_5 : ¬ ((fallen >>> (b &&& 31)) &&& 1) = 0) (x7_6 : Int32) (ex7_6 : x7_6 = (has + 0)) (x8_7 : Int32) (ex8_7 : x8_7 = b + 1) : xmu x8_7 (N_ 40 0 7) < n := by
  subst_vars
  have h9 := xmu_up (a := b) (b := (N_ 40 0 7)) (by grind)
  (try simp [xup_at])
  omega
theorem ob_X11_falls_92_inv_7 (nb nn : Nat) (what : Int32) (M : xM) (hp0 : 0 ≤ M 40 0 7) (hp1 : M 40 0 7 ≤ 8) (fallen : Int32) (rounds : Int32) (more : Int32) (now : Int32) (a : Int32) (n : Nat) (has : Int32) (b : Int32) (N_ : xM) (hmu : xmu b (N_ 40 0 7) < n + 1) (hinv : 0 ≤ N_ 40 0 7 ∧ N_ 40 0 7 ≤ 8 ∧ 0 ≤ b ∧ 0 ≤ a ∧ a < N_ 40 0 7) (c_1 : ¬ (N_ 40 0 7) ≤ b) (c_2 : ¬ b = a) (c_5 : ¬ ((fallen >>> (b &&& 31)) &&& 1) = 0) (x7_6 : Int32) (ex7_6 : x7_6 = (has + 0)) (x8_7 : Int32) (ex8_7 : x8_7 = b + 1) : 0 ≤ N_ 40 0 7 ∧ N_ 40 0 7 ≤ 8 ∧ 0 ≤ x8_7 ∧ 0 ≤ a ∧ a < N_ 40 0 7 := by
  subst_vars
  grind [xup_at, isSheet_eq, isTown_eq, isWeek_eq, isTrader_eq, in_0s, isBank_eq, in_0_1, in_0_2, in_0_4, in_0_5, in_0_6, in_0_7, in_0_100, in_0_255, in_0_299, in_0_500, in_0_9999, in_0_99999, in_1_6, in_1_8, in_1_100, in_1_999, in_t_299, xb, or256, shl8]
theorem ob_X11_falls_131_in (nb nn : Nat) (what : Int32) (M : xM) (hp0 : 0 ≤ M 40 0 7) (hp1 : M 40 0 7 ≤ 8) (fallen : Int32) (rounds : Int32) (more : Int32) (now : Int32) (a : Int32) (n : Nat) (has : Int32) (b : Int32) (N_ : xM) (hmu : xmu b (N_ 40 0 7) < n + 1) (hinv : 0 ≤ N_ 40 0 7 ∧ N_ 40 0 7 ≤ 8 ∧ 0 ≤ b ∧ 0 ≤ a ∧ a < N_ 40 0 7) (c_1 : ¬ (N_ 40 0 7) ≤ b) (c_2 : ¬ b = a) (c_5 : ((fallen >>> (b &&& 31)) &&& 1) = 0) : vp_in ((8 * a) + b) 64 := by
  subst_vars
  exact xin (N := 64) (by grind [xup_at, isSheet_eq, isTown_eq, isWeek_eq, isTrader_eq, in_0s, isBank_eq, in_0_1, in_0_2, in_0_4, in_0_5, in_0_6, in_0_7, in_0_100, in_0_255, in_0_299, in_0_500, in_0_9999, in_0_99999, in_1_6, in_1_8, in_1_100, in_1_999, in_t_299, xb, or256, shl8]) (by grind [xup_at, isSheet_eq, isTown_eq, isWeek_eq, isTrader_eq, in_0s, isBank_eq, in_0_1, in_0_2, in_0_4, in_0_5, in_0_6, in_0_7, in_0_100, in_0_255, in_0_299, in_0_500, in_0_9999, in_0_99999, in_1_6, in_1_8, in_1_100, in_1_999, in_t_299, xb, or256, shl8]) (by decide)
theorem ob_X11_falls_92_mu_9 (nb nn : Nat) (what : Int32) (M : xM) (hp0 : 0 ≤ M 40 0 7) (hp1 : M 40 0 7 ≤ 8) (fallen : Int32) (rounds : Int32) (more : Int32) (now : Int32) (a : Int32) (n : Nat) (has : Int32) (b : Int32) (N_ : xM) (hmu : xmu b (N_ 40 0 7) < n + 1) (hinv : 0 ≤ N_ 40 0 7 ∧ N_ 40 0 7 ≤ 8 ∧ 0 ≤ b ∧ 0 ≤ a ∧ a < N_ 40 0 7) (c_1 : ¬ (N_ 40 0 7) ≤ b) (c_2 : ¬ b = a) (c_5 : ((fallen >>> (b &&& 31)) &&& 1) = 0) (x7_8 : Int32) (ex7_8 : x7_8 = (has + (N_ 62 0 ((8 * a) + b).toNatClampNeg))) (x8_9 : Int32) (ex8_9 : x8_9 = b + 1) : xmu x8_9 (N_ 40 0 7) < n := by
  subst_vars
  have h9 := xmu_up (a := b) (b := (N_ 40 0 7)) (by grind)
  (try simp [xup_at])
  omega
theorem ob_X11_falls_92_inv_9 (nb nn : Nat) (what : Int32) (M : xM) (hp0 : 0 ≤ M 40 0 7) (hp1 : M 40 0 7 ≤ 8) (fallen : Int32) (rounds : Int32) (more : Int32) (now : Int32) (a : Int32) (n : Nat) (has : Int32) (b : Int32) (N_ : xM) (hmu : xmu b (N_ 40 0 7) < n + 1) (hinv : 0 ≤ N_ 40 0 7 ∧ N_ 40 0 7 ≤ 8 ∧ 0 ≤ b ∧ 0 ≤ a ∧ a < N_ 40 0 7) (c_1 : ¬ (N_ 40 0 7) ≤ b) (c_2 : ¬ b = a) (c_5 : ((fallen >>> (b &&& 31)) &&& 1) = 0) (x7_8 : Int32) (ex7_8 : x7_8 = (has + (N_ 62 0 ((8 * a) + b).toNatClampNeg))) (x8_9 : Int32) (ex8_9 : x8_9 = b + 1) : 0 ≤ N_ 40 0 7 ∧ N_ 40 0 7 ≤ 8 ∧ 0 ≤ x8_9 ∧ 0 ≤ a ∧ a < N_ 40 0 7 := by
  subst_vars
  grind [xup_at, isSheet_eq, isTown_eq, isWeek_eq, isTrader_eq, in_0s, isBank_eq, in_0_1, in_0_2, in_0_4, in_0_5, in_0_6, in_0_7, in_0_100, in_0_255, in_0_299, in_0_500, in_0_9999, in_0_99999, in_1_6, in_1_8, in_1_100, in_1_999, in_t_299, xb, or256, shl8]
theorem ob_X11_falls_179_x71 (nb nn : Nat) (what : Int32) (M : xM) (hp0 : 0 ≤ M 40 0 7) (hp1 : M 40 0 7 ≤ 8) (fallen : Int32) (rounds : Int32) (more : Int32) (n : Nat) (now : Int32) (a : Int32) (N_ : xM) (hmu : xmu a (N_ 40 0 7) < n + 1) (hinv : 0 ≤ N_ 40 0 7 ∧ N_ 40 0 7 ≤ 8 ∧ 0 ≤ a ∧ 0 ≤ fallen ∧ fallen ≤ now ∧ now < 256) (c_10 : (N_ 40 0 7) ≤ a) : 0 ≤ N_ 40 0 7 ∧ N_ 40 0 7 ≤ 8 ∧ 0 ≤ a ∧ 0 ≤ fallen ∧ fallen ≤ now ∧ now < 256 := by
  subst_vars
  grind [xup_at, isSheet_eq, isTown_eq, isWeek_eq, isTrader_eq, in_0s, isBank_eq, in_0_1, in_0_2, in_0_4, in_0_5, in_0_6, in_0_7, in_0_100, in_0_255, in_0_299, in_0_500, in_0_9999, in_0_99999, in_1_6, in_1_8, in_1_100, in_1_999, in_t_299, xb, or256, shl8]
theorem ob_X11_falls_86_in (nb nn : Nat) (what : Int32) (M : xM) (hp0 : 0 ≤ M 40 0 7) (hp1 : M 40 0 7 ≤ 8) (fallen : Int32) (rounds : Int32) (more : Int32) (n : Nat) (now : Int32) (a : Int32) (N_ : xM) (hmu : xmu a (N_ 40 0 7) < n + 1) (hinv : 0 ≤ N_ 40 0 7 ∧ N_ 40 0 7 ≤ 8 ∧ 0 ≤ a ∧ 0 ≤ fallen ∧ fallen ≤ now ∧ now < 256) (c_10 : ¬ (N_ 40 0 7) ≤ a) : vp_in a 8 := by
  subst_vars
  exact xin (N := 8) (by grind [xup_at, isSheet_eq, isTown_eq, isWeek_eq, isTrader_eq, in_0s, isBank_eq, in_0_1, in_0_2, in_0_4, in_0_5, in_0_6, in_0_7, in_0_100, in_0_255, in_0_299, in_0_500, in_0_9999, in_0_99999, in_1_6, in_1_8, in_1_100, in_1_999, in_t_299, xb, or256, shl8]) (by grind [xup_at, isSheet_eq, isTown_eq, isWeek_eq, isTrader_eq, in_0s, isBank_eq, in_0_1, in_0_2, in_0_4, in_0_5, in_0_6, in_0_7, in_0_100, in_0_255, in_0_299, in_0_500, in_0_9999, in_0_99999, in_1_6, in_1_8, in_1_100, in_1_999, in_t_299, xb, or256, shl8]) (by decide)
theorem ob_X11_falls_92_ini_11 (nb nn : Nat) (what : Int32) (M : xM) (hp0 : 0 ≤ M 40 0 7) (hp1 : M 40 0 7 ≤ 8) (fallen : Int32) (rounds : Int32) (more : Int32) (n : Nat) (now : Int32) (a : Int32) (N_ : xM) (hmu : xmu a (N_ 40 0 7) < n + 1) (hinv : 0 ≤ N_ 40 0 7 ∧ N_ 40 0 7 ≤ 8 ∧ 0 ≤ a ∧ 0 ≤ fallen ∧ fallen ≤ now ∧ now < 256) (c_10 : ¬ (N_ 40 0 7) ≤ a) (x7_11 : Int32) (ex7_11 : x7_11 = (N_ 59 0 a.toNatClampNeg)) : 0 ≤ N_ 40 0 7 ∧ N_ 40 0 7 ≤ 8 ∧ 0 ≤ (0 : Int32) ∧ 0 ≤ a ∧ a < N_ 40 0 7 := by
  subst_vars
  grind [xup_at, isSheet_eq, isTown_eq, isWeek_eq, isTrader_eq, in_0s, isBank_eq, in_0_1, in_0_2, in_0_4, in_0_5, in_0_6, in_0_7, in_0_100, in_0_255, in_0_299, in_0_500, in_0_9999, in_0_99999, in_1_6, in_1_8, in_1_100, in_1_999, in_t_299, xb, or256, shl8]
theorem ob_X11_falls_158_in (nb nn : Nat) (what : Int32) (M : xM) (hp0 : 0 ≤ M 40 0 7) (hp1 : M 40 0 7 ≤ 8) (fallen : Int32) (rounds : Int32) (more : Int32) (n : Nat) (now : Int32) (a : Int32) (N_ : xM) (hmu : xmu a (N_ 40 0 7) < n + 1) (hinv : 0 ≤ N_ 40 0 7 ∧ N_ 40 0 7 ≤ 8 ∧ 0 ≤ a ∧ 0 ≤ fallen ∧ fallen ≤ now ∧ now < 256) (c_10 : ¬ (N_ 40 0 7) ≤ a) (x7_11 : Int32) (ex7_11 : x7_11 = (N_ 59 0 a.toNatClampNeg)) (has_12 : Int32) (b_13 : Int32) (hiv_13 : 0 ≤ N_ 40 0 7 ∧ N_ 40 0 7 ≤ 8 ∧ 0 ≤ b_13 ∧ 0 ≤ a ∧ a < N_ 40 0 7) : vp_in (9 * a) 64 := by
  subst_vars
  exact xin (N := 64) (by grind [xup_at, isSheet_eq, isTown_eq, isWeek_eq, isTrader_eq, in_0s, isBank_eq, in_0_1, in_0_2, in_0_4, in_0_5, in_0_6, in_0_7, in_0_100, in_0_255, in_0_299, in_0_500, in_0_9999, in_0_99999, in_1_6, in_1_8, in_1_100, in_1_999, in_t_299, xb, or256, shl8]) (by grind [xup_at, isSheet_eq, isTown_eq, isWeek_eq, isTrader_eq, in_0s, isBank_eq, in_0_1, in_0_2, in_0_4, in_0_5, in_0_6, in_0_7, in_0_100, in_0_255, in_0_299, in_0_500, in_0_9999, in_0_99999, in_1_6, in_1_8, in_1_100, in_1_999, in_t_299, xb, or256, shl8]) (by decide)
theorem ob_X11_falls_71_mu_16 (nb nn : Nat) (what : Int32) (M : xM) (hp0 : 0 ≤ M 40 0 7) (hp1 : M 40 0 7 ≤ 8) (fallen : Int32) (rounds : Int32) (more : Int32) (n : Nat) (now : Int32) (a : Int32) (N_ : xM) (hmu : xmu a (N_ 40 0 7) < n + 1) (hinv : 0 ≤ N_ 40 0 7 ∧ N_ 40 0 7 ≤ 8 ∧ 0 ≤ a ∧ 0 ≤ fallen ∧ fallen ≤ now ∧ now < 256) (c_10 : ¬ (N_ 40 0 7) ≤ a) (x7_11 : Int32) (ex7_11 : x7_11 = (N_ 59 0 a.toNatClampNeg)) (has_12 : Int32) (b_13 : Int32) (hiv_13 : 0 ≤ N_ 40 0 7 ∧ N_ 40 0 7 ≤ 8 ∧ 0 ≤ b_13 ∧ 0 ≤ a ∧ a < N_ 40 0 7) (c_14 : (N_ 62 0 (9 * a).toNatClampNeg) ≤ has_12) (x5_15 : Int32) (ex5_15 : x5_15 = (now ||| 0)) (x6_16 : Int32) (ex6_16 : x6_16 = a + 1) : xmu x6_16 (N_ 40 0 7) < n := by
  subst_vars
  have h9 := xmu_up (a := a) (b := (N_ 40 0 7)) (by grind)
  (try simp [xup_at])
  omega
theorem ob_X11_falls_71_inv_16 (nb nn : Nat) (what : Int32) (M : xM) (hp0 : 0 ≤ M 40 0 7) (hp1 : M 40 0 7 ≤ 8) (fallen : Int32) (rounds : Int32) (more : Int32) (n : Nat) (now : Int32) (a : Int32) (N_ : xM) (hmu : xmu a (N_ 40 0 7) < n + 1) (hinv : 0 ≤ N_ 40 0 7 ∧ N_ 40 0 7 ≤ 8 ∧ 0 ≤ a ∧ 0 ≤ fallen ∧ fallen ≤ now ∧ now < 256) (c_10 : ¬ (N_ 40 0 7) ≤ a) (x7_11 : Int32) (ex7_11 : x7_11 = (N_ 59 0 a.toNatClampNeg)) (has_12 : Int32) (b_13 : Int32) (hiv_13 : 0 ≤ N_ 40 0 7 ∧ N_ 40 0 7 ≤ 8 ∧ 0 ≤ b_13 ∧ 0 ≤ a ∧ a < N_ 40 0 7) (c_14 : (N_ 62 0 (9 * a).toNatClampNeg) ≤ has_12) (x5_15 : Int32) (ex5_15 : x5_15 = (now ||| 0)) (x6_16 : Int32) (ex6_16 : x6_16 = a + 1) : 0 ≤ N_ 40 0 7 ∧ N_ 40 0 7 ≤ 8 ∧ 0 ≤ x6_16 ∧ 0 ≤ fallen ∧ fallen ≤ x5_15 ∧ x5_15 < 256 := by
  subst_vars
  grind [xup_at, isSheet_eq, isTown_eq, isWeek_eq, isTrader_eq, in_0s, isBank_eq, in_0_1, in_0_2, in_0_4, in_0_5, in_0_6, in_0_7, in_0_100, in_0_255, in_0_299, in_0_500, in_0_9999, in_0_99999, in_1_6, in_1_8, in_1_100, in_1_999, in_t_299, xb, or256, shl8]
theorem ob_X11_falls_71_mu_18 (nb nn : Nat) (what : Int32) (M : xM) (hp0 : 0 ≤ M 40 0 7) (hp1 : M 40 0 7 ≤ 8) (fallen : Int32) (rounds : Int32) (more : Int32) (n : Nat) (now : Int32) (a : Int32) (N_ : xM) (hmu : xmu a (N_ 40 0 7) < n + 1) (hinv : 0 ≤ N_ 40 0 7 ∧ N_ 40 0 7 ≤ 8 ∧ 0 ≤ a ∧ 0 ≤ fallen ∧ fallen ≤ now ∧ now < 256) (c_10 : ¬ (N_ 40 0 7) ≤ a) (x7_11 : Int32) (ex7_11 : x7_11 = (N_ 59 0 a.toNatClampNeg)) (has_12 : Int32) (b_13 : Int32) (hiv_13 : 0 ≤ N_ 40 0 7 ∧ N_ 40 0 7 ≤ 8 ∧ 0 ≤ b_13 ∧ 0 ≤ a ∧ a < N_ 40 0 7) (c_14 : ¬ (N_ 62 0 (9 * a).toNatClampNeg) ≤ has_12) (x5_17 : Int32) (ex5_17 : x5_17 = (now ||| (1 <<< (a &&& 31)))) (x6_18 : Int32) (ex6_18 : x6_18 = a + 1) : xmu x6_18 (N_ 40 0 7) < n := by
  subst_vars
  have h9 := xmu_up (a := a) (b := (N_ 40 0 7)) (by grind)
  (try simp [xup_at])
  omega
theorem ob_X11_falls_71_inv_18 (nb nn : Nat) (what : Int32) (M : xM) (hp0 : 0 ≤ M 40 0 7) (hp1 : M 40 0 7 ≤ 8) (fallen : Int32) (rounds : Int32) (more : Int32) (n : Nat) (now : Int32) (a : Int32) (N_ : xM) (hmu : xmu a (N_ 40 0 7) < n + 1) (hinv : 0 ≤ N_ 40 0 7 ∧ N_ 40 0 7 ≤ 8 ∧ 0 ≤ a ∧ 0 ≤ fallen ∧ fallen ≤ now ∧ now < 256) (c_10 : ¬ (N_ 40 0 7) ≤ a) (x7_11 : Int32) (ex7_11 : x7_11 = (N_ 59 0 a.toNatClampNeg)) (has_12 : Int32) (b_13 : Int32) (hiv_13 : 0 ≤ N_ 40 0 7 ∧ N_ 40 0 7 ≤ 8 ∧ 0 ≤ b_13 ∧ 0 ≤ a ∧ a < N_ 40 0 7) (c_14 : ¬ (N_ 62 0 (9 * a).toNatClampNeg) ≤ has_12) (x5_17 : Int32) (ex5_17 : x5_17 = (now ||| (1 <<< (a &&& 31)))) (x6_18 : Int32) (ex6_18 : x6_18 = a + 1) : 0 ≤ N_ 40 0 7 ∧ N_ 40 0 7 ≤ 8 ∧ 0 ≤ x6_18 ∧ 0 ≤ fallen ∧ fallen ≤ x5_17 ∧ x5_17 < 256 := by
  subst_vars
  grind [xup_at, isSheet_eq, isTown_eq, isWeek_eq, isTrader_eq, in_0s, isBank_eq, in_0_1, in_0_2, in_0_4, in_0_5, in_0_6, in_0_7, in_0_100, in_0_255, in_0_299, in_0_500, in_0_9999, in_0_99999, in_1_6, in_1_8, in_1_100, in_1_999, in_t_299, xb, or256, shl8]
theorem ob_X11_falls_211_x60 (nb nn : Nat) (what : Int32) (M : xM) (hp0 : 0 ≤ M 40 0 7) (hp1 : M 40 0 7 ≤ 8) (n : Nat) (fallen : Int32) (rounds : Int32) (more : Int32) (N_ : xM) (hmu : (if more = 0 then 0 else 1 + xmu fallen 256) < n + 1) (hinv : 0 ≤ N_ 40 0 7 ∧ N_ 40 0 7 ≤ 8 ∧ 0 ≤ fallen ∧ fallen < 256) (c_19 : more = 0) : 0 ≤ N_ 40 0 7 ∧ N_ 40 0 7 ≤ 8 ∧ 0 ≤ fallen ∧ fallen < 256 := by
  subst_vars
  grind [xup_at, isSheet_eq, isTown_eq, isWeek_eq, isTrader_eq, in_0s, isBank_eq, in_0_1, in_0_2, in_0_4, in_0_5, in_0_6, in_0_7, in_0_100, in_0_255, in_0_299, in_0_500, in_0_9999, in_0_99999, in_1_6, in_1_8, in_1_100, in_1_999, in_t_299, xb, or256, shl8]
theorem ob_X11_falls_71_ini_19 (nb nn : Nat) (what : Int32) (M : xM) (hp0 : 0 ≤ M 40 0 7) (hp1 : M 40 0 7 ≤ 8) (n : Nat) (fallen : Int32) (rounds : Int32) (more : Int32) (N_ : xM) (hmu : (if more = 0 then 0 else 1 + xmu fallen 256) < n + 1) (hinv : 0 ≤ N_ 40 0 7 ∧ N_ 40 0 7 ≤ 8 ∧ 0 ≤ fallen ∧ fallen < 256) (c_19 : ¬ more = 0) : 0 ≤ N_ 40 0 7 ∧ N_ 40 0 7 ≤ 8 ∧ 0 ≤ (0 : Int32) ∧ 0 ≤ fallen ∧ fallen ≤ fallen ∧ fallen < 256 := by
  subst_vars
  grind [xup_at, isSheet_eq, isTown_eq, isWeek_eq, isTrader_eq, in_0s, isBank_eq, in_0_1, in_0_2, in_0_4, in_0_5, in_0_6, in_0_7, in_0_100, in_0_255, in_0_299, in_0_500, in_0_9999, in_0_99999, in_1_6, in_1_8, in_1_100, in_1_999, in_t_299, xb, or256, shl8]
theorem ob_X11_falls_60_mu_24 (nb nn : Nat) (what : Int32) (M : xM) (hp0 : 0 ≤ M 40 0 7) (hp1 : M 40 0 7 ≤ 8) (n : Nat) (fallen : Int32) (rounds : Int32) (more : Int32) (N_ : xM) (hmu : (if more = 0 then 0 else 1 + xmu fallen 256) < n + 1) (hinv : 0 ≤ N_ 40 0 7 ∧ N_ 40 0 7 ≤ 8 ∧ 0 ≤ fallen ∧ fallen < 256) (c_19 : ¬ more = 0) (now_20 : Int32) (a_21 : Int32) (hiv_21 : 0 ≤ N_ 40 0 7 ∧ N_ 40 0 7 ≤ 8 ∧ 0 ≤ a_21 ∧ 0 ≤ fallen ∧ fallen ≤ now_20 ∧ now_20 < 256) (c_22 : now_20 = fallen) (x3_24 : Int32) (ex3_24 : x3_24 = (rounds + 0)) : (if (0 : Int32) = 0 then 0 else 1 + xmu now_20 256) < n := by
  subst_vars
  have h7 : ¬ more = 0 := by assumption
  rw [if_neg h7] at hmu
  first
  | (rw [if_pos rfl]; omega)
  | (rw [if_neg (by decide)]; have h9 := fun z => @xmu_mono fallen z 256; grind)
theorem ob_X11_falls_60_inv_24 (nb nn : Nat) (what : Int32) (M : xM) (hp0 : 0 ≤ M 40 0 7) (hp1 : M 40 0 7 ≤ 8) (n : Nat) (fallen : Int32) (rounds : Int32) (more : Int32) (N_ : xM) (hmu : (if more = 0 then 0 else 1 + xmu fallen 256) < n + 1) (hinv : 0 ≤ N_ 40 0 7 ∧ N_ 40 0 7 ≤ 8 ∧ 0 ≤ fallen ∧ fallen < 256) (c_19 : ¬ more = 0) (now_20 : Int32) (a_21 : Int32) (hiv_21 : 0 ≤ N_ 40 0 7 ∧ N_ 40 0 7 ≤ 8 ∧ 0 ≤ a_21 ∧ 0 ≤ fallen ∧ fallen ≤ now_20 ∧ now_20 < 256) (c_22 : now_20 = fallen) (x3_24 : Int32) (ex3_24 : x3_24 = (rounds + 0)) : 0 ≤ N_ 40 0 7 ∧ N_ 40 0 7 ≤ 8 ∧ 0 ≤ now_20 ∧ now_20 < 256 := by
  subst_vars
  grind [xup_at, isSheet_eq, isTown_eq, isWeek_eq, isTrader_eq, in_0s, isBank_eq, in_0_1, in_0_2, in_0_4, in_0_5, in_0_6, in_0_7, in_0_100, in_0_255, in_0_299, in_0_500, in_0_9999, in_0_99999, in_1_6, in_1_8, in_1_100, in_1_999, in_t_299, xb, or256, shl8]
theorem ob_X11_falls_60_mu_26 (nb nn : Nat) (what : Int32) (M : xM) (hp0 : 0 ≤ M 40 0 7) (hp1 : M 40 0 7 ≤ 8) (n : Nat) (fallen : Int32) (rounds : Int32) (more : Int32) (N_ : xM) (hmu : (if more = 0 then 0 else 1 + xmu fallen 256) < n + 1) (hinv : 0 ≤ N_ 40 0 7 ∧ N_ 40 0 7 ≤ 8 ∧ 0 ≤ fallen ∧ fallen < 256) (c_19 : ¬ more = 0) (now_20 : Int32) (a_21 : Int32) (hiv_21 : 0 ≤ N_ 40 0 7 ∧ N_ 40 0 7 ≤ 8 ∧ 0 ≤ a_21 ∧ 0 ≤ fallen ∧ fallen ≤ now_20 ∧ now_20 < 256) (c_22 : ¬ now_20 = fallen) (x3_26 : Int32) (ex3_26 : x3_26 = (rounds + 1)) : (if (1 : Int32) = 0 then 0 else 1 + xmu now_20 256) < n := by
  subst_vars
  have h7 : ¬ more = 0 := by assumption
  rw [if_neg h7] at hmu
  first
  | (rw [if_pos rfl]; omega)
  | (rw [if_neg (by decide)]; have h9 := fun z => @xmu_mono fallen z 256; grind)
theorem ob_X11_falls_60_inv_26 (nb nn : Nat) (what : Int32) (M : xM) (hp0 : 0 ≤ M 40 0 7) (hp1 : M 40 0 7 ≤ 8) (n : Nat) (fallen : Int32) (rounds : Int32) (more : Int32) (N_ : xM) (hmu : (if more = 0 then 0 else 1 + xmu fallen 256) < n + 1) (hinv : 0 ≤ N_ 40 0 7 ∧ N_ 40 0 7 ≤ 8 ∧ 0 ≤ fallen ∧ fallen < 256) (c_19 : ¬ more = 0) (now_20 : Int32) (a_21 : Int32) (hiv_21 : 0 ≤ N_ 40 0 7 ∧ N_ 40 0 7 ≤ 8 ∧ 0 ≤ a_21 ∧ 0 ≤ fallen ∧ fallen ≤ now_20 ∧ now_20 < 256) (c_22 : ¬ now_20 = fallen) (x3_26 : Int32) (ex3_26 : x3_26 = (rounds + 1)) : 0 ≤ N_ 40 0 7 ∧ N_ 40 0 7 ≤ 8 ∧ 0 ≤ now_20 ∧ now_20 < 256 := by
  subst_vars
  grind [xup_at, isSheet_eq, isTown_eq, isWeek_eq, isTrader_eq, in_0s, isBank_eq, in_0_1, in_0_2, in_0_4, in_0_5, in_0_6, in_0_7, in_0_100, in_0_255, in_0_299, in_0_500, in_0_9999, in_0_99999, in_1_6, in_1_8, in_1_100, in_1_999, in_t_299, xb, or256, shl8]
theorem ob_X11_falls_55_x22 (nb nn : Nat) (what : Int32) (M : xM) (hp0 : 0 ≤ M 40 0 7) (hp1 : M 40 0 7 ≤ 8) (n : Nat) (fallen : Int32) (b : Int32) (N_ : xM) (hmu : xmu b (N_ 40 0 7) < n + 1) (hinv : 0 ≤ N_ 40 0 7 ∧ N_ 40 0 7 ≤ 8 ∧ 0 ≤ b ∧ 0 ≤ fallen ∧ fallen < 256) (c_27 : (N_ 40 0 7) ≤ b) : 0 ≤ N_ 40 0 7 ∧ N_ 40 0 7 ≤ 8 ∧ 0 ≤ b ∧ 0 ≤ fallen ∧ fallen < 256 := by
  subst_vars
  grind [xup_at, isSheet_eq, isTown_eq, isWeek_eq, isTrader_eq, in_0s, isBank_eq, in_0_1, in_0_2, in_0_4, in_0_5, in_0_6, in_0_7, in_0_100, in_0_255, in_0_299, in_0_500, in_0_9999, in_0_99999, in_1_6, in_1_8, in_1_100, in_1_999, in_t_299, xb, or256, shl8]
theorem ob_X11_falls_36_in (nb nn : Nat) (what : Int32) (M : xM) (hp0 : 0 ≤ M 40 0 7) (hp1 : M 40 0 7 ≤ 8) (n : Nat) (fallen : Int32) (b : Int32) (N_ : xM) (hmu : xmu b (N_ 40 0 7) < n + 1) (hinv : 0 ≤ N_ 40 0 7 ∧ N_ 40 0 7 ≤ 8 ∧ 0 ≤ b ∧ 0 ≤ fallen ∧ fallen < 256) (c_27 : ¬ (N_ 40 0 7) ≤ b) : vp_in b 8 := by
  subst_vars
  exact xin (N := 8) (by grind [xup_at, isSheet_eq, isTown_eq, isWeek_eq, isTrader_eq, in_0s, isBank_eq, in_0_1, in_0_2, in_0_4, in_0_5, in_0_6, in_0_7, in_0_100, in_0_255, in_0_299, in_0_500, in_0_9999, in_0_99999, in_1_6, in_1_8, in_1_100, in_1_999, in_t_299, xb, or256, shl8]) (by grind [xup_at, isSheet_eq, isTown_eq, isWeek_eq, isTrader_eq, in_0s, isBank_eq, in_0_1, in_0_2, in_0_4, in_0_5, in_0_6, in_0_7, in_0_100, in_0_255, in_0_299, in_0_500, in_0_9999, in_0_99999, in_1_6, in_1_8, in_1_100, in_1_999, in_t_299, xb, or256, shl8]) (by decide)
theorem ob_X11_falls_22_mu_30 (nb nn : Nat) (what : Int32) (M : xM) (hp0 : 0 ≤ M 40 0 7) (hp1 : M 40 0 7 ≤ 8) (n : Nat) (fallen : Int32) (b : Int32) (N_ : xM) (hmu : xmu b (N_ 40 0 7) < n + 1) (hinv : 0 ≤ N_ 40 0 7 ∧ N_ 40 0 7 ≤ 8 ∧ 0 ≤ b ∧ 0 ≤ fallen ∧ fallen < 256) (c_27 : ¬ (N_ 40 0 7) ≤ b) (c_28 : (N_ 61 0 b.toNatClampNeg) = 0) (x2_29 : Int32) (ex2_29 : x2_29 = (fallen ||| 0)) (x3_30 : Int32) (ex3_30 : x3_30 = b + 1) : xmu x3_30 (N_ 40 0 7) < n := by
  subst_vars
  have h9 := xmu_up (a := b) (b := (N_ 40 0 7)) (by grind)
  (try simp [xup_at])
  omega
theorem ob_X11_falls_22_inv_30 (nb nn : Nat) (what : Int32) (M : xM) (hp0 : 0 ≤ M 40 0 7) (hp1 : M 40 0 7 ≤ 8) (n : Nat) (fallen : Int32) (b : Int32) (N_ : xM) (hmu : xmu b (N_ 40 0 7) < n + 1) (hinv : 0 ≤ N_ 40 0 7 ∧ N_ 40 0 7 ≤ 8 ∧ 0 ≤ b ∧ 0 ≤ fallen ∧ fallen < 256) (c_27 : ¬ (N_ 40 0 7) ≤ b) (c_28 : (N_ 61 0 b.toNatClampNeg) = 0) (x2_29 : Int32) (ex2_29 : x2_29 = (fallen ||| 0)) (x3_30 : Int32) (ex3_30 : x3_30 = b + 1) : 0 ≤ N_ 40 0 7 ∧ N_ 40 0 7 ≤ 8 ∧ 0 ≤ x3_30 ∧ 0 ≤ x2_29 ∧ x2_29 < 256 := by
  subst_vars
  grind [xup_at, isSheet_eq, isTown_eq, isWeek_eq, isTrader_eq, in_0s, isBank_eq, in_0_1, in_0_2, in_0_4, in_0_5, in_0_6, in_0_7, in_0_100, in_0_255, in_0_299, in_0_500, in_0_9999, in_0_99999, in_1_6, in_1_8, in_1_100, in_1_999, in_t_299, xb, or256, shl8]
theorem ob_X11_falls_22_mu_32 (nb nn : Nat) (what : Int32) (M : xM) (hp0 : 0 ≤ M 40 0 7) (hp1 : M 40 0 7 ≤ 8) (n : Nat) (fallen : Int32) (b : Int32) (N_ : xM) (hmu : xmu b (N_ 40 0 7) < n + 1) (hinv : 0 ≤ N_ 40 0 7 ∧ N_ 40 0 7 ≤ 8 ∧ 0 ≤ b ∧ 0 ≤ fallen ∧ fallen < 256) (c_27 : ¬ (N_ 40 0 7) ≤ b) (c_28 : ¬ (N_ 61 0 b.toNatClampNeg) = 0) (x2_31 : Int32) (ex2_31 : x2_31 = (fallen ||| (1 <<< (b &&& 31)))) (x3_32 : Int32) (ex3_32 : x3_32 = b + 1) : xmu x3_32 (N_ 40 0 7) < n := by
  subst_vars
  have h9 := xmu_up (a := b) (b := (N_ 40 0 7)) (by grind)
  (try simp [xup_at])
  omega
theorem ob_X11_falls_22_inv_32 (nb nn : Nat) (what : Int32) (M : xM) (hp0 : 0 ≤ M 40 0 7) (hp1 : M 40 0 7 ≤ 8) (n : Nat) (fallen : Int32) (b : Int32) (N_ : xM) (hmu : xmu b (N_ 40 0 7) < n + 1) (hinv : 0 ≤ N_ 40 0 7 ∧ N_ 40 0 7 ≤ 8 ∧ 0 ≤ b ∧ 0 ≤ fallen ∧ fallen < 256) (c_27 : ¬ (N_ 40 0 7) ≤ b) (c_28 : ¬ (N_ 61 0 b.toNatClampNeg) = 0) (x2_31 : Int32) (ex2_31 : x2_31 = (fallen ||| (1 <<< (b &&& 31)))) (x3_32 : Int32) (ex3_32 : x3_32 = b + 1) : 0 ≤ N_ 40 0 7 ∧ N_ 40 0 7 ≤ 8 ∧ 0 ≤ x3_32 ∧ 0 ≤ x2_31 ∧ x2_31 < 256 := by
  subst_vars
  grind [xup_at, isSheet_eq, isTown_eq, isWeek_eq, isTrader_eq, in_0s, isBank_eq, in_0_1, in_0_2, in_0_4, in_0_5, in_0_6, in_0_7, in_0_100, in_0_255, in_0_299, in_0_500, in_0_9999, in_0_99999, in_1_6, in_1_8, in_1_100, in_1_999, in_t_299, xb, or256, shl8]
theorem ob_X11_falls_22_ini_35 (nb nn : Nat) (what : Int32) (M : xM) (hp0 : 0 ≤ M 40 0 7) (hp1 : M 40 0 7 ≤ 8) (M_33 : xM) (eM_33 : M_33 = xup M 40 0 0 0) (r_34 : Int32) (er_34 : r_34 = xb (f_X11_in (what.toInt64) 0 1 M_33)) (c_35 : ¬ r_34 = 0) : 0 ≤ M_33 40 0 7 ∧ M_33 40 0 7 ≤ 8 ∧ 0 ≤ (0 : Int32) ∧ 0 ≤ (0 : Int32) ∧ (0 : Int32) < 256 := by
  subst_vars
  grind [xup_at, isSheet_eq, isTown_eq, isWeek_eq, isTrader_eq, in_0s, isBank_eq, in_0_1, in_0_2, in_0_4, in_0_5, in_0_6, in_0_7, in_0_100, in_0_255, in_0_299, in_0_500, in_0_9999, in_0_99999, in_1_6, in_1_8, in_1_100, in_1_999, in_t_299, xb, or256, shl8]
theorem ob_X11_falls_60_ini_37 (nb nn : Nat) (what : Int32) (M : xM) (hp0 : 0 ≤ M 40 0 7) (hp1 : M 40 0 7 ≤ 8) (M_33 : xM) (eM_33 : M_33 = xup M 40 0 0 0) (r_34 : Int32) (er_34 : r_34 = xb (f_X11_in (what.toInt64) 0 1 M_33)) (c_35 : ¬ r_34 = 0) (fallen_36 : Int32) (b_37 : Int32) (hiv_37 : 0 ≤ M_33 40 0 7 ∧ M_33 40 0 7 ≤ 8 ∧ 0 ≤ b_37 ∧ 0 ≤ fallen_36 ∧ fallen_36 < 256) : 0 ≤ M_33 40 0 7 ∧ M_33 40 0 7 ≤ 8 ∧ 0 ≤ fallen_36 ∧ fallen_36 < 256 := by
  subst_vars
  grind [xup_at, isSheet_eq, isTown_eq, isWeek_eq, isTrader_eq, in_0s, isBank_eq, in_0_1, in_0_2, in_0_4, in_0_5, in_0_6, in_0_7, in_0_100, in_0_255, in_0_299, in_0_500, in_0_9999, in_0_99999, in_1_6, in_1_8, in_1_100, in_1_999, in_t_299, xb, or256, shl8]
theorem ob_X11_isGhost_5_in (nb nn : Nat) (q : Int32) (M : xM) (hp0 : 0 ≤ q) (hp1 : q < 24) : vp_in q 24 := by
  subst_vars
  exact xin (N := 24) (by grind [xup_at, isSheet_eq, isTown_eq, isWeek_eq, isTrader_eq, in_0s, isBank_eq, in_0_1, in_0_2, in_0_4, in_0_5, in_0_6, in_0_7, in_0_100, in_0_255, in_0_299, in_0_500, in_0_9999, in_0_99999, in_1_6, in_1_8, in_1_100, in_1_999, in_t_299, xb]) (by grind [xup_at, isSheet_eq, isTown_eq, isWeek_eq, isTrader_eq, in_0s, isBank_eq, in_0_1, in_0_2, in_0_4, in_0_5, in_0_6, in_0_7, in_0_100, in_0_255, in_0_299, in_0_500, in_0_9999, in_0_99999, in_1_6, in_1_8, in_1_100, in_1_999, in_t_299, xb]) (by decide)
theorem ob_X11_isFalse_2_p0 (nb nn : Nat) (q : Int32) (M : xM) (hp0 : 0 ≤ q) (hp1 : q < 24) (hp2 : M 40 0 7 ≤ 8) (hp3 : ∀ j : Nat, 0 ≤ M 81 0 j) : 0 ≤ q := by
  subst_vars
  grind [xup_at, isSheet_eq, isTown_eq, isWeek_eq, isTrader_eq, in_0s, isBank_eq, in_0_1, in_0_2, in_0_4, in_0_5, in_0_6, in_0_7, in_0_100, in_0_255, in_0_299, in_0_500, in_0_9999, in_0_99999, in_1_6, in_1_8, in_1_100, in_1_999, in_t_299, xb, f_X11_isGhost]
theorem ob_X11_isFalse_2_p1 (nb nn : Nat) (q : Int32) (M : xM) (hp0 : 0 ≤ q) (hp1 : q < 24) (hp2 : M 40 0 7 ≤ 8) (hp3 : ∀ j : Nat, 0 ≤ M 81 0 j) : q < 24 := by
  subst_vars
  grind [xup_at, isSheet_eq, isTown_eq, isWeek_eq, isTrader_eq, in_0s, isBank_eq, in_0_1, in_0_2, in_0_4, in_0_5, in_0_6, in_0_7, in_0_100, in_0_255, in_0_299, in_0_500, in_0_9999, in_0_99999, in_1_6, in_1_8, in_1_100, in_1_999, in_t_299, xb, f_X11_isGhost]
theorem ob_X11_isFalse_13_in (nb nn : Nat) (q : Int32) (M : xM) (hp0 : 0 ≤ q) (hp1 : q < 24) (hp2 : M 40 0 7 ≤ 8) (hp3 : ∀ j : Nat, 0 ≤ M 81 0 j) (r_1 : Int32) (er_1 : r_1 = xb (f_X11_isGhost q M)) (c_2 : r_1 = 0) : vp_in q 24 := by
  subst_vars
  exact xin (N := 24) (by grind [xup_at, isSheet_eq, isTown_eq, isWeek_eq, isTrader_eq, in_0s, isBank_eq, in_0_1, in_0_2, in_0_4, in_0_5, in_0_6, in_0_7, in_0_100, in_0_255, in_0_299, in_0_500, in_0_9999, in_0_99999, in_1_6, in_1_8, in_1_100, in_1_999, in_t_299, xb, f_X11_isGhost]) (by grind [xup_at, isSheet_eq, isTown_eq, isWeek_eq, isTrader_eq, in_0s, isBank_eq, in_0_1, in_0_2, in_0_4, in_0_5, in_0_6, in_0_7, in_0_100, in_0_255, in_0_299, in_0_500, in_0_9999, in_0_99999, in_1_6, in_1_8, in_1_100, in_1_999, in_t_299, xb, f_X11_isGhost]) (by decide)
theorem ob_X11_isFalse_23_in (nb nn : Nat) (q : Int32) (M : xM) (hp0 : 0 ≤ q) (hp1 : q < 24) (hp2 : M 40 0 7 ≤ 8) (hp3 : ∀ j : Nat, 0 ≤ M 81 0 j) (r_1 : Int32) (er_1 : r_1 = xb (f_X11_isGhost q M)) (c_2 : r_1 = 0) : vp_in q 24 := by
  subst_vars
  exact xin (N := 24) (by grind [xup_at, isSheet_eq, isTown_eq, isWeek_eq, isTrader_eq, in_0s, isBank_eq, in_0_1, in_0_2, in_0_4, in_0_5, in_0_6, in_0_7, in_0_100, in_0_255, in_0_299, in_0_500, in_0_9999, in_0_99999, in_1_6, in_1_8, in_1_100, in_1_999, in_t_299, xb, f_X11_isGhost]) (by grind [xup_at, isSheet_eq, isTown_eq, isWeek_eq, isTrader_eq, in_0s, isBank_eq, in_0_1, in_0_2, in_0_4, in_0_5, in_0_6, in_0_7, in_0_100, in_0_255, in_0_299, in_0_500, in_0_9999, in_0_99999, in_1_6, in_1_8, in_1_100, in_1_999, in_t_299, xb, f_X11_isGhost]) (by decide)
theorem ob_X11_isFalse_24_in (nb nn : Nat) (q : Int32) (M : xM) (hp0 : 0 ≤ q) (hp1 : q < 24) (hp2 : M 40 0 7 ≤ 8) (hp3 : ∀ j : Nat, 0 ≤ M 81 0 j) (r_1 : Int32) (er_1 : r_1 = xb (f_X11_isGhost q M)) (c_2 : r_1 = 0) : vp_in (M 81 0 q.toNatClampNeg) 8 := by
  subst_vars
  exact xin (N := 8) (by grind [xup_at, isSheet_eq, isTown_eq, isWeek_eq, isTrader_eq, in_0s, isBank_eq, in_0_1, in_0_2, in_0_4, in_0_5, in_0_6, in_0_7, in_0_100, in_0_255, in_0_299, in_0_500, in_0_9999, in_0_99999, in_1_6, in_1_8, in_1_100, in_1_999, in_t_299, xb, f_X11_isGhost]) (by grind [xup_at, isSheet_eq, isTown_eq, isWeek_eq, isTrader_eq, in_0s, isBank_eq, in_0_1, in_0_2, in_0_4, in_0_5, in_0_6, in_0_7, in_0_100, in_0_255, in_0_299, in_0_500, in_0_9999, in_0_99999, in_1_6, in_1_8, in_1_100, in_1_999, in_t_299, xb, f_X11_isGhost]) (by decide)
theorem ob_X11_isFalse_31_in (nb nn : Nat) (q : Int32) (M : xM) (hp0 : 0 ≤ q) (hp1 : q < 24) (hp2 : M 40 0 7 ≤ 8) (hp3 : ∀ j : Nat, 0 ≤ M 81 0 j) (r_1 : Int32) (er_1 : r_1 = xb (f_X11_isGhost q M)) (c_2 : r_1 = 0) : vp_in q 24 := by
  subst_vars
  exact xin (N := 24) (by grind [xup_at, isSheet_eq, isTown_eq, isWeek_eq, isTrader_eq, in_0s, isBank_eq, in_0_1, in_0_2, in_0_4, in_0_5, in_0_6, in_0_7, in_0_100, in_0_255, in_0_299, in_0_500, in_0_9999, in_0_99999, in_1_6, in_1_8, in_1_100, in_1_999, in_t_299, xb, f_X11_isGhost]) (by grind [xup_at, isSheet_eq, isTown_eq, isWeek_eq, isTrader_eq, in_0s, isBank_eq, in_0_1, in_0_2, in_0_4, in_0_5, in_0_6, in_0_7, in_0_100, in_0_255, in_0_299, in_0_500, in_0_9999, in_0_99999, in_1_6, in_1_8, in_1_100, in_1_999, in_t_299, xb, f_X11_isGhost]) (by decide)
theorem ob_X11_comeTo_6_in (nb nn : Nat) (q : Int32) (t : Int32) (M : xM) (hp0 : 0 ≤ q) (hp1 : q < 24) (hp2 : ∀ j : Nat, 0 ≤ M 91 0 j ∧ M 91 0 j ≤ 12) : vp_in q 24 := by
  subst_vars
  exact xin (N := 24) (by grind [xup_at, isSheet_eq, isTown_eq, isWeek_eq, isTrader_eq, in_0s, isBank_eq, in_0_1, in_0_2, in_0_4, in_0_5, in_0_6, in_0_7, in_0_100, in_0_255, in_0_299, in_0_500, in_0_9999, in_0_99999, in_1_6, in_1_8, in_1_100, in_1_999, in_t_299, xb]) (by grind [xup_at, isSheet_eq, isTown_eq, isWeek_eq, isTrader_eq, in_0s, isBank_eq, in_0_1, in_0_2, in_0_4, in_0_5, in_0_6, in_0_7, in_0_100, in_0_255, in_0_299, in_0_500, in_0_9999, in_0_99999, in_1_6, in_1_8, in_1_100, in_1_999, in_t_299, xb]) (by decide)
theorem ob_X11_comeTo_16_in (nb nn : Nat) (q : Int32) (t : Int32) (M : xM) (hp0 : 0 ≤ q) (hp1 : q < 24) (hp2 : ∀ j : Nat, 0 ≤ M 91 0 j ∧ M 91 0 j ≤ 12) (M_1 : xM) (eM_1 : M_1 = xup M 85 0 q.toNatClampNeg t) : vp_in q 24 := by
  subst_vars
  exact xin (N := 24) (by grind [xup_at, isSheet_eq, isTown_eq, isWeek_eq, isTrader_eq, in_0s, isBank_eq, in_0_1, in_0_2, in_0_4, in_0_5, in_0_6, in_0_7, in_0_100, in_0_255, in_0_299, in_0_500, in_0_9999, in_0_99999, in_1_6, in_1_8, in_1_100, in_1_999, in_t_299, xb]) (by grind [xup_at, isSheet_eq, isTown_eq, isWeek_eq, isTrader_eq, in_0s, isBank_eq, in_0_1, in_0_2, in_0_4, in_0_5, in_0_6, in_0_7, in_0_100, in_0_255, in_0_299, in_0_500, in_0_9999, in_0_99999, in_1_6, in_1_8, in_1_100, in_1_999, in_t_299, xb]) (by decide)
theorem ob_X11_comeTo_24_in (nb nn : Nat) (q : Int32) (t : Int32) (M : xM) (hp0 : 0 ≤ q) (hp1 : q < 24) (hp2 : ∀ j : Nat, 0 ≤ M 91 0 j ∧ M 91 0 j ≤ 12) (M_1 : xM) (eM_1 : M_1 = xup M 85 0 q.toNatClampNeg t) (x3_2 : Int32) (ex3_2 : x3_2 = ((12 * q) + (M_1 91 0 q.toNatClampNeg))) : vp_in q 24 := by
  subst_vars
  exact xin (N := 24) (by grind [xup_at, isSheet_eq, isTown_eq, isWeek_eq, isTrader_eq, in_0s, isBank_eq, in_0_1, in_0_2, in_0_4, in_0_5, in_0_6, in_0_7, in_0_100, in_0_255, in_0_299, in_0_500, in_0_9999, in_0_99999, in_1_6, in_1_8, in_1_100, in_1_999, in_t_299, xb]) (by grind [xup_at, isSheet_eq, isTown_eq, isWeek_eq, isTrader_eq, in_0s, isBank_eq, in_0_1, in_0_2, in_0_4, in_0_5, in_0_6, in_0_7, in_0_100, in_0_255, in_0_299, in_0_500, in_0_9999, in_0_99999, in_1_6, in_1_8, in_1_100, in_1_999, in_t_299, xb]) (by decide)
theorem ob_X11_comeTo_35_in (nb nn : Nat) (q : Int32) (t : Int32) (M : xM) (hp0 : 0 ≤ q) (hp1 : q < 24) (hp2 : ∀ j : Nat, 0 ≤ M 91 0 j ∧ M 91 0 j ≤ 12) (M_1 : xM) (eM_1 : M_1 = xup M 85 0 q.toNatClampNeg t) (x3_2 : Int32) (ex3_2 : x3_2 = ((12 * q) + (M_1 91 0 q.toNatClampNeg))) (c_3 : ¬ 12 ≤ (M_1 91 0 q.toNatClampNeg)) : vp_in q 24 := by
  subst_vars
  exact xin (N := 24) (by grind [xup_at, isSheet_eq, isTown_eq, isWeek_eq, isTrader_eq, in_0s, isBank_eq, in_0_1, in_0_2, in_0_4, in_0_5, in_0_6, in_0_7, in_0_100, in_0_255, in_0_299, in_0_500, in_0_9999, in_0_99999, in_1_6, in_1_8, in_1_100, in_1_999, in_t_299, xb]) (by grind [xup_at, isSheet_eq, isTown_eq, isWeek_eq, isTrader_eq, in_0s, isBank_eq, in_0_1, in_0_2, in_0_4, in_0_5, in_0_6, in_0_7, in_0_100, in_0_255, in_0_299, in_0_500, in_0_9999, in_0_99999, in_1_6, in_1_8, in_1_100, in_1_999, in_t_299, xb]) (by decide)
theorem ob_X11_comeTo_57_in (nb nn : Nat) (q : Int32) (t : Int32) (M : xM) (hp0 : 0 ≤ q) (hp1 : q < 24) (hp2 : ∀ j : Nat, 0 ≤ M 91 0 j ∧ M 91 0 j ≤ 12) (M_1 : xM) (eM_1 : M_1 = xup M 85 0 q.toNatClampNeg t) (x3_2 : Int32) (ex3_2 : x3_2 = ((12 * q) + (M_1 91 0 q.toNatClampNeg))) (c_3 : ¬ 12 ≤ (M_1 91 0 q.toNatClampNeg)) (c_4 : (M_1 91 0 q.toNatClampNeg) = 0) : vp_in x3_2 288 := by
  subst_vars
  exact xin (N := 288) (by grind [xup_at, isSheet_eq, isTown_eq, isWeek_eq, isTrader_eq, in_0s, isBank_eq, in_0_1, in_0_2, in_0_4, in_0_5, in_0_6, in_0_7, in_0_100, in_0_255, in_0_299, in_0_500, in_0_9999, in_0_99999, in_1_6, in_1_8, in_1_100, in_1_999, in_t_299, xb]) (by grind [xup_at, isSheet_eq, isTown_eq, isWeek_eq, isTrader_eq, in_0s, isBank_eq, in_0_1, in_0_2, in_0_4, in_0_5, in_0_6, in_0_7, in_0_100, in_0_255, in_0_299, in_0_500, in_0_9999, in_0_99999, in_1_6, in_1_8, in_1_100, in_1_999, in_t_299, xb]) (by decide)
theorem ob_X11_comeTo_67_in (nb nn : Nat) (q : Int32) (t : Int32) (M : xM) (hp0 : 0 ≤ q) (hp1 : q < 24) (hp2 : ∀ j : Nat, 0 ≤ M 91 0 j ∧ M 91 0 j ≤ 12) (M_1 : xM) (eM_1 : M_1 = xup M 85 0 q.toNatClampNeg t) (x3_2 : Int32) (ex3_2 : x3_2 = ((12 * q) + (M_1 91 0 q.toNatClampNeg))) (c_3 : ¬ 12 ≤ (M_1 91 0 q.toNatClampNeg)) (c_4 : (M_1 91 0 q.toNatClampNeg) = 0) (M_5 : xM) (eM_5 : M_5 = xup M_1 92 0 x3_2.toNatClampNeg t) (v_6 : Int32) (ev_6 : v_6 = (M_5 40 0 13)) : vp_in x3_2 288 := by
  subst_vars
  exact xin (N := 288) (by grind [xup_at, isSheet_eq, isTown_eq, isWeek_eq, isTrader_eq, in_0s, isBank_eq, in_0_1, in_0_2, in_0_4, in_0_5, in_0_6, in_0_7, in_0_100, in_0_255, in_0_299, in_0_500, in_0_9999, in_0_99999, in_1_6, in_1_8, in_1_100, in_1_999, in_t_299, xb]) (by grind [xup_at, isSheet_eq, isTown_eq, isWeek_eq, isTrader_eq, in_0s, isBank_eq, in_0_1, in_0_2, in_0_4, in_0_5, in_0_6, in_0_7, in_0_100, in_0_255, in_0_299, in_0_500, in_0_9999, in_0_99999, in_1_6, in_1_8, in_1_100, in_1_999, in_t_299, xb]) (by decide)
theorem ob_X11_comeTo_74_in (nb nn : Nat) (q : Int32) (t : Int32) (M : xM) (hp0 : 0 ≤ q) (hp1 : q < 24) (hp2 : ∀ j : Nat, 0 ≤ M 91 0 j ∧ M 91 0 j ≤ 12) (M_1 : xM) (eM_1 : M_1 = xup M 85 0 q.toNatClampNeg t) (x3_2 : Int32) (ex3_2 : x3_2 = ((12 * q) + (M_1 91 0 q.toNatClampNeg))) (c_3 : ¬ 12 ≤ (M_1 91 0 q.toNatClampNeg)) (c_4 : (M_1 91 0 q.toNatClampNeg) = 0) (M_5 : xM) (eM_5 : M_5 = xup M_1 92 0 x3_2.toNatClampNeg t) (v_6 : Int32) (ev_6 : v_6 = (M_5 40 0 13)) (M_7 : xM) (eM_7 : M_7 = xup M_5 93 0 x3_2.toNatClampNeg v_6) : vp_in q 24 := by
  subst_vars
  exact xin (N := 24) (by grind [xup_at, isSheet_eq, isTown_eq, isWeek_eq, isTrader_eq, in_0s, isBank_eq, in_0_1, in_0_2, in_0_4, in_0_5, in_0_6, in_0_7, in_0_100, in_0_255, in_0_299, in_0_500, in_0_9999, in_0_99999, in_1_6, in_1_8, in_1_100, in_1_999, in_t_299, xb]) (by grind [xup_at, isSheet_eq, isTown_eq, isWeek_eq, isTrader_eq, in_0s, isBank_eq, in_0_1, in_0_2, in_0_4, in_0_5, in_0_6, in_0_7, in_0_100, in_0_255, in_0_299, in_0_500, in_0_9999, in_0_99999, in_1_6, in_1_8, in_1_100, in_1_999, in_t_299, xb]) (by decide)
theorem ob_X11_comeTo_77_in (nb nn : Nat) (q : Int32) (t : Int32) (M : xM) (hp0 : 0 ≤ q) (hp1 : q < 24) (hp2 : ∀ j : Nat, 0 ≤ M 91 0 j ∧ M 91 0 j ≤ 12) (M_1 : xM) (eM_1 : M_1 = xup M 85 0 q.toNatClampNeg t) (x3_2 : Int32) (ex3_2 : x3_2 = ((12 * q) + (M_1 91 0 q.toNatClampNeg))) (c_3 : ¬ 12 ≤ (M_1 91 0 q.toNatClampNeg)) (c_4 : (M_1 91 0 q.toNatClampNeg) = 0) (M_5 : xM) (eM_5 : M_5 = xup M_1 92 0 x3_2.toNatClampNeg t) (v_6 : Int32) (ev_6 : v_6 = (M_5 40 0 13)) (M_7 : xM) (eM_7 : M_7 = xup M_5 93 0 x3_2.toNatClampNeg v_6) (v_8 : Int32) (ev_8 : v_8 = ((M_7 91 0 q.toNatClampNeg) + 1)) : vp_in q 24 := by
  subst_vars
  exact xin (N := 24) (by grind [xup_at, isSheet_eq, isTown_eq, isWeek_eq, isTrader_eq, in_0s, isBank_eq, in_0_1, in_0_2, in_0_4, in_0_5, in_0_6, in_0_7, in_0_100, in_0_255, in_0_299, in_0_500, in_0_9999, in_0_99999, in_1_6, in_1_8, in_1_100, in_1_999, in_t_299, xb]) (by grind [xup_at, isSheet_eq, isTown_eq, isWeek_eq, isTrader_eq, in_0s, isBank_eq, in_0_1, in_0_2, in_0_4, in_0_5, in_0_6, in_0_7, in_0_100, in_0_255, in_0_299, in_0_500, in_0_9999, in_0_99999, in_1_6, in_1_8, in_1_100, in_1_999, in_t_299, xb]) (by decide)
theorem ob_X11_comeTo_46_in (nb nn : Nat) (q : Int32) (t : Int32) (M : xM) (hp0 : 0 ≤ q) (hp1 : q < 24) (hp2 : ∀ j : Nat, 0 ≤ M 91 0 j ∧ M 91 0 j ≤ 12) (M_1 : xM) (eM_1 : M_1 = xup M 85 0 q.toNatClampNeg t) (x3_2 : Int32) (ex3_2 : x3_2 = ((12 * q) + (M_1 91 0 q.toNatClampNeg))) (c_3 : ¬ 12 ≤ (M_1 91 0 q.toNatClampNeg)) (c_4 : ¬ (M_1 91 0 q.toNatClampNeg) = 0) : vp_in (x3_2 - 1) 288 := by
  subst_vars
  exact xin (N := 288) (by grind [xup_at, isSheet_eq, isTown_eq, isWeek_eq, isTrader_eq, in_0s, isBank_eq, in_0_1, in_0_2, in_0_4, in_0_5, in_0_6, in_0_7, in_0_100, in_0_255, in_0_299, in_0_500, in_0_9999, in_0_99999, in_1_6, in_1_8, in_1_100, in_1_999, in_t_299, xb]) (by grind [xup_at, isSheet_eq, isTown_eq, isWeek_eq, isTrader_eq, in_0s, isBank_eq, in_0_1, in_0_2, in_0_4, in_0_5, in_0_6, in_0_7, in_0_100, in_0_255, in_0_299, in_0_500, in_0_9999, in_0_99999, in_1_6, in_1_8, in_1_100, in_1_999, in_t_299, xb]) (by decide)
theorem ob_X11_comeTo_57_in_2 (nb nn : Nat) (q : Int32) (t : Int32) (M : xM) (hp0 : 0 ≤ q) (hp1 : q < 24) (hp2 : ∀ j : Nat, 0 ≤ M 91 0 j ∧ M 91 0 j ≤ 12) (M_1 : xM) (eM_1 : M_1 = xup M 85 0 q.toNatClampNeg t) (x3_2 : Int32) (ex3_2 : x3_2 = ((12 * q) + (M_1 91 0 q.toNatClampNeg))) (c_3 : ¬ 12 ≤ (M_1 91 0 q.toNatClampNeg)) (c_4 : ¬ (M_1 91 0 q.toNatClampNeg) = 0) (c_10 : ¬ (M_1 92 0 (x3_2 - 1).toNatClampNeg) = t) : vp_in x3_2 288 := by
  subst_vars
  exact xin (N := 288) (by grind [xup_at, isSheet_eq, isTown_eq, isWeek_eq, isTrader_eq, in_0s, isBank_eq, in_0_1, in_0_2, in_0_4, in_0_5, in_0_6, in_0_7, in_0_100, in_0_255, in_0_299, in_0_500, in_0_9999, in_0_99999, in_1_6, in_1_8, in_1_100, in_1_999, in_t_299, xb]) (by grind [xup_at, isSheet_eq, isTown_eq, isWeek_eq, isTrader_eq, in_0s, isBank_eq, in_0_1, in_0_2, in_0_4, in_0_5, in_0_6, in_0_7, in_0_100, in_0_255, in_0_299, in_0_500, in_0_9999, in_0_99999, in_1_6, in_1_8, in_1_100, in_1_999, in_t_299, xb]) (by decide)
theorem ob_X11_comeTo_67_in_2 (nb nn : Nat) (q : Int32) (t : Int32) (M : xM) (hp0 : 0 ≤ q) (hp1 : q < 24) (hp2 : ∀ j : Nat, 0 ≤ M 91 0 j ∧ M 91 0 j ≤ 12) (M_1 : xM) (eM_1 : M_1 = xup M 85 0 q.toNatClampNeg t) (x3_2 : Int32) (ex3_2 : x3_2 = ((12 * q) + (M_1 91 0 q.toNatClampNeg))) (c_3 : ¬ 12 ≤ (M_1 91 0 q.toNatClampNeg)) (c_4 : ¬ (M_1 91 0 q.toNatClampNeg) = 0) (c_10 : ¬ (M_1 92 0 (x3_2 - 1).toNatClampNeg) = t) (M_11 : xM) (eM_11 : M_11 = xup M_1 92 0 x3_2.toNatClampNeg t) (v_12 : Int32) (ev_12 : v_12 = (M_11 40 0 13)) : vp_in x3_2 288 := by
  subst_vars
  exact xin (N := 288) (by grind [xup_at, isSheet_eq, isTown_eq, isWeek_eq, isTrader_eq, in_0s, isBank_eq, in_0_1, in_0_2, in_0_4, in_0_5, in_0_6, in_0_7, in_0_100, in_0_255, in_0_299, in_0_500, in_0_9999, in_0_99999, in_1_6, in_1_8, in_1_100, in_1_999, in_t_299, xb]) (by grind [xup_at, isSheet_eq, isTown_eq, isWeek_eq, isTrader_eq, in_0s, isBank_eq, in_0_1, in_0_2, in_0_4, in_0_5, in_0_6, in_0_7, in_0_100, in_0_255, in_0_299, in_0_500, in_0_9999, in_0_99999, in_1_6, in_1_8, in_1_100, in_1_999, in_t_299, xb]) (by decide)
theorem ob_X11_comeTo_74_in_2 (nb nn : Nat) (q : Int32) (t : Int32) (M : xM) (hp0 : 0 ≤ q) (hp1 : q < 24) (hp2 : ∀ j : Nat, 0 ≤ M 91 0 j ∧ M 91 0 j ≤ 12) (M_1 : xM) (eM_1 : M_1 = xup M 85 0 q.toNatClampNeg t) (x3_2 : Int32) (ex3_2 : x3_2 = ((12 * q) + (M_1 91 0 q.toNatClampNeg))) (c_3 : ¬ 12 ≤ (M_1 91 0 q.toNatClampNeg)) (c_4 : ¬ (M_1 91 0 q.toNatClampNeg) = 0) (c_10 : ¬ (M_1 92 0 (x3_2 - 1).toNatClampNeg) = t) (M_11 : xM) (eM_11 : M_11 = xup M_1 92 0 x3_2.toNatClampNeg t) (v_12 : Int32) (ev_12 : v_12 = (M_11 40 0 13)) (M_13 : xM) (eM_13 : M_13 = xup M_11 93 0 x3_2.toNatClampNeg v_12) : vp_in q 24 := by
  subst_vars
  exact xin (N := 24) (by grind [xup_at, isSheet_eq, isTown_eq, isWeek_eq, isTrader_eq, in_0s, isBank_eq, in_0_1, in_0_2, in_0_4, in_0_5, in_0_6, in_0_7, in_0_100, in_0_255, in_0_299, in_0_500, in_0_9999, in_0_99999, in_1_6, in_1_8, in_1_100, in_1_999, in_t_299, xb]) (by grind [xup_at, isSheet_eq, isTown_eq, isWeek_eq, isTrader_eq, in_0s, isBank_eq, in_0_1, in_0_2, in_0_4, in_0_5, in_0_6, in_0_7, in_0_100, in_0_255, in_0_299, in_0_500, in_0_9999, in_0_99999, in_1_6, in_1_8, in_1_100, in_1_999, in_t_299, xb]) (by decide)
theorem ob_X11_comeTo_77_in_2 (nb nn : Nat) (q : Int32) (t : Int32) (M : xM) (hp0 : 0 ≤ q) (hp1 : q < 24) (hp2 : ∀ j : Nat, 0 ≤ M 91 0 j ∧ M 91 0 j ≤ 12) (M_1 : xM) (eM_1 : M_1 = xup M 85 0 q.toNatClampNeg t) (x3_2 : Int32) (ex3_2 : x3_2 = ((12 * q) + (M_1 91 0 q.toNatClampNeg))) (c_3 : ¬ 12 ≤ (M_1 91 0 q.toNatClampNeg)) (c_4 : ¬ (M_1 91 0 q.toNatClampNeg) = 0) (c_10 : ¬ (M_1 92 0 (x3_2 - 1).toNatClampNeg) = t) (M_11 : xM) (eM_11 : M_11 = xup M_1 92 0 x3_2.toNatClampNeg t) (v_12 : Int32) (ev_12 : v_12 = (M_11 40 0 13)) (M_13 : xM) (eM_13 : M_13 = xup M_11 93 0 x3_2.toNatClampNeg v_12) (v_14 : Int32) (ev_14 : v_14 = ((M_13 91 0 q.toNatClampNeg) + 1)) : vp_in q 24 := by
  subst_vars
  exact xin (N := 24) (by grind [xup_at, isSheet_eq, isTown_eq, isWeek_eq, isTrader_eq, in_0s, isBank_eq, in_0_1, in_0_2, in_0_4, in_0_5, in_0_6, in_0_7, in_0_100, in_0_255, in_0_299, in_0_500, in_0_9999, in_0_99999, in_1_6, in_1_8, in_1_100, in_1_999, in_t_299, xb]) (by grind [xup_at, isSheet_eq, isTown_eq, isWeek_eq, isTrader_eq, in_0s, isBank_eq, in_0_1, in_0_2, in_0_4, in_0_5, in_0_6, in_0_7, in_0_100, in_0_255, in_0_299, in_0_500, in_0_9999, in_0_99999, in_1_6, in_1_8, in_1_100, in_1_999, in_t_299, xb]) (by decide)
theorem ob_X11_note_86_in (nb nn : Nat) (b : Int32) (v : Int32) (has : Int32) (lost : Int32) (t : Int32) (M : xM) (hp0 : 0 ≤ M 40 0 30) (hp1 : M 40 0 30 ≤ 24) (hp2 : ∀ j : Nat, 0 ≤ M 91 0 j ∧ M 91 0 j ≤ 12) (M_1 : xM) (eM_1 : M_1 = xup M 40 0 0 0) (r_2 : Int32) (er_2 : r_2 = xb (f_X11_in (b.toInt64) 0 7 M_1)) (c_3 : ¬ r_2 = 0) (r_4 : Int32) (er_4 : r_4 = xb (f_X11_in (v.toInt64) 1 100 M_1)) (c_5 : ¬ r_4 = 0) (r_6 : Int32) (er_6 : r_6 = xb (f_X11_in (has.toInt64) 0 255 M_1)) (c_7 : ¬ r_6 = 0) (r_8 : Int32) (er_8 : r_8 = xb (f_X11_in (lost.toInt64) 0 255 M_1)) (c_9 : ¬ r_8 = 0) (r_10 : Int32) (er_10 : r_10 = xb (f_X11_isTrader t M_1)) (c_11 : ¬ r_10 = 0) (c_12 : ¬ (M_1 40 0 30) = 24) : vp_in (M_1 40 0 30) 24 := by
  subst_vars
  exact xin (N := 24) (by grind [xup_at, isSheet_eq, isTown_eq, isWeek_eq, isTrader_eq, in_0s, isBank_eq, in_0_1, in_0_2, in_0_4, in_0_5, in_0_6, in_0_7, in_0_100, in_0_255, in_0_299, in_0_500, in_0_9999, in_0_99999, in_1_6, in_1_8, in_1_100, in_1_999, in_t_299, xb]) (by grind [xup_at, isSheet_eq, isTown_eq, isWeek_eq, isTrader_eq, in_0s, isBank_eq, in_0_1, in_0_2, in_0_4, in_0_5, in_0_6, in_0_7, in_0_100, in_0_255, in_0_299, in_0_500, in_0_9999, in_0_99999, in_1_6, in_1_8, in_1_100, in_1_999, in_t_299, xb]) (by decide)
theorem ob_X11_note_96_in (nb nn : Nat) (b : Int32) (v : Int32) (has : Int32) (lost : Int32) (t : Int32) (M : xM) (hp0 : 0 ≤ M 40 0 30) (hp1 : M 40 0 30 ≤ 24) (hp2 : ∀ j : Nat, 0 ≤ M 91 0 j ∧ M 91 0 j ≤ 12) (M_1 : xM) (eM_1 : M_1 = xup M 40 0 0 0) (r_2 : Int32) (er_2 : r_2 = xb (f_X11_in (b.toInt64) 0 7 M_1)) (c_3 : ¬ r_2 = 0) (r_4 : Int32) (er_4 : r_4 = xb (f_X11_in (v.toInt64) 1 100 M_1)) (c_5 : ¬ r_4 = 0) (r_6 : Int32) (er_6 : r_6 = xb (f_X11_in (has.toInt64) 0 255 M_1)) (c_7 : ¬ r_6 = 0) (r_8 : Int32) (er_8 : r_8 = xb (f_X11_in (lost.toInt64) 0 255 M_1)) (c_9 : ¬ r_8 = 0) (r_10 : Int32) (er_10 : r_10 = xb (f_X11_isTrader t M_1)) (c_11 : ¬ r_10 = 0) (c_12 : ¬ (M_1 40 0 30) = 24) (M_13 : xM) (eM_13 : M_13 = xup M_1 81 0 (M_1 40 0 30).toNatClampNeg b) : vp_in (M_13 40 0 30) 24 := by
  subst_vars
  exact xin (N := 24) (by grind [xup_at, isSheet_eq, isTown_eq, isWeek_eq, isTrader_eq, in_0s, isBank_eq, in_0_1, in_0_2, in_0_4, in_0_5, in_0_6, in_0_7, in_0_100, in_0_255, in_0_299, in_0_500, in_0_9999, in_0_99999, in_1_6, in_1_8, in_1_100, in_1_999, in_t_299, xb]) (by grind [xup_at, isSheet_eq, isTown_eq, isWeek_eq, isTrader_eq, in_0s, isBank_eq, in_0_1, in_0_2, in_0_4, in_0_5, in_0_6, in_0_7, in_0_100, in_0_255, in_0_299, in_0_500, in_0_9999, in_0_99999, in_1_6, in_1_8, in_1_100, in_1_999, in_t_299, xb]) (by decide)
theorem ob_X11_note_106_in (nb nn : Nat) (b : Int32) (v : Int32) (has : Int32) (lost : Int32) (t : Int32) (M : xM) (hp0 : 0 ≤ M 40 0 30) (hp1 : M 40 0 30 ≤ 24) (hp2 : ∀ j : Nat, 0 ≤ M 91 0 j ∧ M 91 0 j ≤ 12) (M_1 : xM) (eM_1 : M_1 = xup M 40 0 0 0) (r_2 : Int32) (er_2 : r_2 = xb (f_X11_in (b.toInt64) 0 7 M_1)) (c_3 : ¬ r_2 = 0) (r_4 : Int32) (er_4 : r_4 = xb (f_X11_in (v.toInt64) 1 100 M_1)) (c_5 : ¬ r_4 = 0) (r_6 : Int32) (er_6 : r_6 = xb (f_X11_in (has.toInt64) 0 255 M_1)) (c_7 : ¬ r_6 = 0) (r_8 : Int32) (er_8 : r_8 = xb (f_X11_in (lost.toInt64) 0 255 M_1)) (c_9 : ¬ r_8 = 0) (r_10 : Int32) (er_10 : r_10 = xb (f_X11_isTrader t M_1)) (c_11 : ¬ r_10 = 0) (c_12 : ¬ (M_1 40 0 30) = 24) (M_13 : xM) (eM_13 : M_13 = xup M_1 81 0 (M_1 40 0 30).toNatClampNeg b) (M_14 : xM) (eM_14 : M_14 = xup M_13 82 0 (M_13 40 0 30).toNatClampNeg v) : vp_in (M_14 40 0 30) 24 := by
  subst_vars
  exact xin (N := 24) (by grind [xup_at, isSheet_eq, isTown_eq, isWeek_eq, isTrader_eq, in_0s, isBank_eq, in_0_1, in_0_2, in_0_4, in_0_5, in_0_6, in_0_7, in_0_100, in_0_255, in_0_299, in_0_500, in_0_9999, in_0_99999, in_1_6, in_1_8, in_1_100, in_1_999, in_t_299, xb]) (by grind [xup_at, isSheet_eq, isTown_eq, isWeek_eq, isTrader_eq, in_0s, isBank_eq, in_0_1, in_0_2, in_0_4, in_0_5, in_0_6, in_0_7, in_0_100, in_0_255, in_0_299, in_0_500, in_0_9999, in_0_99999, in_1_6, in_1_8, in_1_100, in_1_999, in_t_299, xb]) (by decide)
theorem ob_X11_note_117_in (nb nn : Nat) (b : Int32) (v : Int32) (has : Int32) (lost : Int32) (t : Int32) (M : xM) (hp0 : 0 ≤ M 40 0 30) (hp1 : M 40 0 30 ≤ 24) (hp2 : ∀ j : Nat, 0 ≤ M 91 0 j ∧ M 91 0 j ≤ 12) (M_1 : xM) (eM_1 : M_1 = xup M 40 0 0 0) (r_2 : Int32) (er_2 : r_2 = xb (f_X11_in (b.toInt64) 0 7 M_1)) (c_3 : ¬ r_2 = 0) (r_4 : Int32) (er_4 : r_4 = xb (f_X11_in (v.toInt64) 1 100 M_1)) (c_5 : ¬ r_4 = 0) (r_6 : Int32) (er_6 : r_6 = xb (f_X11_in (has.toInt64) 0 255 M_1)) (c_7 : ¬ r_6 = 0) (r_8 : Int32) (er_8 : r_8 = xb (f_X11_in (lost.toInt64) 0 255 M_1)) (c_9 : ¬ r_8 = 0) (r_10 : Int32) (er_10 : r_10 = xb (f_X11_isTrader t M_1)) (c_11 : ¬ r_10 = 0) (c_12 : ¬ (M_1 40 0 30) = 24) (M_13 : xM) (eM_13 : M_13 = xup M_1 81 0 (M_1 40 0 30).toNatClampNeg b) (M_14 : xM) (eM_14 : M_14 = xup M_13 82 0 (M_13 40 0 30).toNatClampNeg v) (M_15 : xM) (eM_15 : M_15 = xup M_14 83 0 (M_14 40 0 30).toNatClampNeg has) : vp_in (M_15 40 0 30) 24 := by
  subst_vars
  exact xin (N := 24) (by grind [xup_at, isSheet_eq, isTown_eq, isWeek_eq, isTrader_eq, in_0s, isBank_eq, in_0_1, in_0_2, in_0_4, in_0_5, in_0_6, in_0_7, in_0_100, in_0_255, in_0_299, in_0_500, in_0_9999, in_0_99999, in_1_6, in_1_8, in_1_100, in_1_999, in_t_299, xb]) (by grind [xup_at, isSheet_eq, isTown_eq, isWeek_eq, isTrader_eq, in_0s, isBank_eq, in_0_1, in_0_2, in_0_4, in_0_5, in_0_6, in_0_7, in_0_100, in_0_255, in_0_299, in_0_500, in_0_9999, in_0_99999, in_1_6, in_1_8, in_1_100, in_1_999, in_t_299, xb]) (by decide)
theorem ob_X11_note_125_p0 (nb nn : Nat) (b : Int32) (v : Int32) (has : Int32) (lost : Int32) (t : Int32) (M : xM) (hp0 : 0 ≤ M 40 0 30) (hp1 : M 40 0 30 ≤ 24) (hp2 : ∀ j : Nat, 0 ≤ M 91 0 j ∧ M 91 0 j ≤ 12) (M_1 : xM) (eM_1 : M_1 = xup M 40 0 0 0) (r_2 : Int32) (er_2 : r_2 = xb (f_X11_in (b.toInt64) 0 7 M_1)) (c_3 : ¬ r_2 = 0) (r_4 : Int32) (er_4 : r_4 = xb (f_X11_in (v.toInt64) 1 100 M_1)) (c_5 : ¬ r_4 = 0) (r_6 : Int32) (er_6 : r_6 = xb (f_X11_in (has.toInt64) 0 255 M_1)) (c_7 : ¬ r_6 = 0) (r_8 : Int32) (er_8 : r_8 = xb (f_X11_in (lost.toInt64) 0 255 M_1)) (c_9 : ¬ r_8 = 0) (r_10 : Int32) (er_10 : r_10 = xb (f_X11_isTrader t M_1)) (c_11 : ¬ r_10 = 0) (c_12 : ¬ (M_1 40 0 30) = 24) (M_13 : xM) (eM_13 : M_13 = xup M_1 81 0 (M_1 40 0 30).toNatClampNeg b) (M_14 : xM) (eM_14 : M_14 = xup M_13 82 0 (M_13 40 0 30).toNatClampNeg v) (M_15 : xM) (eM_15 : M_15 = xup M_14 83 0 (M_14 40 0 30).toNatClampNeg has) (M_16 : xM) (eM_16 : M_16 = xup M_15 84 0 (M_15 40 0 30).toNatClampNeg lost) : 0 ≤ (M_16 40 0 30) := by
  subst_vars
  grind [xup_at, isSheet_eq, isTown_eq, isWeek_eq, isTrader_eq, in_0s, isBank_eq, in_0_1, in_0_2, in_0_4, in_0_5, in_0_6, in_0_7, in_0_100, in_0_255, in_0_299, in_0_500, in_0_9999, in_0_99999, in_1_6, in_1_8, in_1_100, in_1_999, in_t_299, xb]
theorem ob_X11_note_125_p1 (nb nn : Nat) (b : Int32) (v : Int32) (has : Int32) (lost : Int32) (t : Int32) (M : xM) (hp0 : 0 ≤ M 40 0 30) (hp1 : M 40 0 30 ≤ 24) (hp2 : ∀ j : Nat, 0 ≤ M 91 0 j ∧ M 91 0 j ≤ 12) (M_1 : xM) (eM_1 : M_1 = xup M 40 0 0 0) (r_2 : Int32) (er_2 : r_2 = xb (f_X11_in (b.toInt64) 0 7 M_1)) (c_3 : ¬ r_2 = 0) (r_4 : Int32) (er_4 : r_4 = xb (f_X11_in (v.toInt64) 1 100 M_1)) (c_5 : ¬ r_4 = 0) (r_6 : Int32) (er_6 : r_6 = xb (f_X11_in (has.toInt64) 0 255 M_1)) (c_7 : ¬ r_6 = 0) (r_8 : Int32) (er_8 : r_8 = xb (f_X11_in (lost.toInt64) 0 255 M_1)) (c_9 : ¬ r_8 = 0) (r_10 : Int32) (er_10 : r_10 = xb (f_X11_isTrader t M_1)) (c_11 : ¬ r_10 = 0) (c_12 : ¬ (M_1 40 0 30) = 24) (M_13 : xM) (eM_13 : M_13 = xup M_1 81 0 (M_1 40 0 30).toNatClampNeg b) (M_14 : xM) (eM_14 : M_14 = xup M_13 82 0 (M_13 40 0 30).toNatClampNeg v) (M_15 : xM) (eM_15 : M_15 = xup M_14 83 0 (M_14 40 0 30).toNatClampNeg has) (M_16 : xM) (eM_16 : M_16 = xup M_15 84 0 (M_15 40 0 30).toNatClampNeg lost) : (M_16 40 0 30) < 24 := by
  subst_vars
  grind [xup_at, isSheet_eq, isTown_eq, isWeek_eq, isTrader_eq, in_0s, isBank_eq, in_0_1, in_0_2, in_0_4, in_0_5, in_0_6, in_0_7, in_0_100, in_0_255, in_0_299, in_0_500, in_0_9999, in_0_99999, in_1_6, in_1_8, in_1_100, in_1_999, in_t_299, xb]
theorem ob_X11_note_125_p2 (nb nn : Nat) (b : Int32) (v : Int32) (has : Int32) (lost : Int32) (t : Int32) (M : xM) (hp0 : 0 ≤ M 40 0 30) (hp1 : M 40 0 30 ≤ 24) (hp2 : ∀ j : Nat, 0 ≤ M 91 0 j ∧ M 91 0 j ≤ 12) (M_1 : xM) (eM_1 : M_1 = xup M 40 0 0 0) (r_2 : Int32) (er_2 : r_2 = xb (f_X11_in (b.toInt64) 0 7 M_1)) (c_3 : ¬ r_2 = 0) (r_4 : Int32) (er_4 : r_4 = xb (f_X11_in (v.toInt64) 1 100 M_1)) (c_5 : ¬ r_4 = 0) (r_6 : Int32) (er_6 : r_6 = xb (f_X11_in (has.toInt64) 0 255 M_1)) (c_7 : ¬ r_6 = 0) (r_8 : Int32) (er_8 : r_8 = xb (f_X11_in (lost.toInt64) 0 255 M_1)) (c_9 : ¬ r_8 = 0) (r_10 : Int32) (er_10 : r_10 = xb (f_X11_isTrader t M_1)) (c_11 : ¬ r_10 = 0) (c_12 : ¬ (M_1 40 0 30) = 24) (M_13 : xM) (eM_13 : M_13 = xup M_1 81 0 (M_1 40 0 30).toNatClampNeg b) (M_14 : xM) (eM_14 : M_14 = xup M_13 82 0 (M_13 40 0 30).toNatClampNeg v) (M_15 : xM) (eM_15 : M_15 = xup M_14 83 0 (M_14 40 0 30).toNatClampNeg has) (M_16 : xM) (eM_16 : M_16 = xup M_15 84 0 (M_15 40 0 30).toNatClampNeg lost) : ∀ j : Nat, 0 ≤ M_16 91 0 j ∧ M_16 91 0 j ≤ 12 := by
  subst_vars
  grind [xup_at, isSheet_eq, isTown_eq, isWeek_eq, isTrader_eq, in_0s, isBank_eq, in_0_1, in_0_2, in_0_4, in_0_5, in_0_6, in_0_7, in_0_100, in_0_255, in_0_299, in_0_500, in_0_9999, in_0_99999, in_1_6, in_1_8, in_1_100, in_1_999, in_t_299, xb]
theorem ob_X11_told_73_in (nb nn : Nat) (q : Int32) (what : Int32) (M : xM) (hp0 : 0 ≤ M 40 0 30) (hp1 : M 40 0 30 ≤ 24) (M_1 : xM) (eM_1 : M_1 = xup M 40 0 0 0) (r_2 : Int32) (er_2 : r_2 = xb (f_X11_isNote q M_1)) (c_3 : ¬ r_2 = 0) (r_4 : Int32) (er_4 : r_4 = xb (f_X11_in (what.toInt64) 0 6 M_1)) (c_5 : ¬ r_4 = 0) (c_6 : what = 0) : vp_in q 24 := by
  subst_vars
  exact xin (N := 24) (by grind [xup_at, isSheet_eq, isTown_eq, isWeek_eq, isTrader_eq, in_0s, isBank_eq, in_0_1, in_0_2, in_0_4, in_0_5, in_0_6, in_0_7, in_0_100, in_0_255, in_0_299, in_0_500, in_0_9999, in_0_99999, in_1_6, in_1_8, in_1_100, in_1_999, in_t_299, xb, isNote_eq]) (by grind [xup_at, isSheet_eq, isTown_eq, isWeek_eq, isTrader_eq, in_0s, isBank_eq, in_0_1, in_0_2, in_0_4, in_0_5, in_0_6, in_0_7, in_0_100, in_0_255, in_0_299, in_0_500, in_0_9999, in_0_99999, in_1_6, in_1_8, in_1_100, in_1_999, in_t_299, xb, isNote_eq]) (by decide)
theorem ob_X11_told_80_in (nb nn : Nat) (q : Int32) (what : Int32) (M : xM) (hp0 : 0 ≤ M 40 0 30) (hp1 : M 40 0 30 ≤ 24) (M_1 : xM) (eM_1 : M_1 = xup M 40 0 0 0) (r_2 : Int32) (er_2 : r_2 = xb (f_X11_isNote q M_1)) (c_3 : ¬ r_2 = 0) (r_4 : Int32) (er_4 : r_4 = xb (f_X11_in (what.toInt64) 0 6 M_1)) (c_5 : ¬ r_4 = 0) (c_6 : ¬ what = 0) (c_7 : what = 1) : vp_in q 24 := by
  subst_vars
  exact xin (N := 24) (by grind [xup_at, isSheet_eq, isTown_eq, isWeek_eq, isTrader_eq, in_0s, isBank_eq, in_0_1, in_0_2, in_0_4, in_0_5, in_0_6, in_0_7, in_0_100, in_0_255, in_0_299, in_0_500, in_0_9999, in_0_99999, in_1_6, in_1_8, in_1_100, in_1_999, in_t_299, xb, isNote_eq]) (by grind [xup_at, isSheet_eq, isTown_eq, isWeek_eq, isTrader_eq, in_0s, isBank_eq, in_0_1, in_0_2, in_0_4, in_0_5, in_0_6, in_0_7, in_0_100, in_0_255, in_0_299, in_0_500, in_0_9999, in_0_99999, in_1_6, in_1_8, in_1_100, in_1_999, in_t_299, xb, isNote_eq]) (by decide)
theorem ob_X11_told_87_in (nb nn : Nat) (q : Int32) (what : Int32) (M : xM) (hp0 : 0 ≤ M 40 0 30) (hp1 : M 40 0 30 ≤ 24) (M_1 : xM) (eM_1 : M_1 = xup M 40 0 0 0) (r_2 : Int32) (er_2 : r_2 = xb (f_X11_isNote q M_1)) (c_3 : ¬ r_2 = 0) (r_4 : Int32) (er_4 : r_4 = xb (f_X11_in (what.toInt64) 0 6 M_1)) (c_5 : ¬ r_4 = 0) (c_6 : ¬ what = 0) (c_7 : ¬ what = 1) (c_8 : what = 2) : vp_in q 24 := by
  subst_vars
  exact xin (N := 24) (by grind [xup_at, isSheet_eq, isTown_eq, isWeek_eq, isTrader_eq, in_0s, isBank_eq, in_0_1, in_0_2, in_0_4, in_0_5, in_0_6, in_0_7, in_0_100, in_0_255, in_0_299, in_0_500, in_0_9999, in_0_99999, in_1_6, in_1_8, in_1_100, in_1_999, in_t_299, xb, isNote_eq]) (by grind [xup_at, isSheet_eq, isTown_eq, isWeek_eq, isTrader_eq, in_0s, isBank_eq, in_0_1, in_0_2, in_0_4, in_0_5, in_0_6, in_0_7, in_0_100, in_0_255, in_0_299, in_0_500, in_0_9999, in_0_99999, in_1_6, in_1_8, in_1_100, in_1_999, in_t_299, xb, isNote_eq]) (by decide)
theorem ob_X11_told_94_in (nb nn : Nat) (q : Int32) (what : Int32) (M : xM) (hp0 : 0 ≤ M 40 0 30) (hp1 : M 40 0 30 ≤ 24) (M_1 : xM) (eM_1 : M_1 = xup M 40 0 0 0) (r_2 : Int32) (er_2 : r_2 = xb (f_X11_isNote q M_1)) (c_3 : ¬ r_2 = 0) (r_4 : Int32) (er_4 : r_4 = xb (f_X11_in (what.toInt64) 0 6 M_1)) (c_5 : ¬ r_4 = 0) (c_6 : ¬ what = 0) (c_7 : ¬ what = 1) (c_8 : ¬ what = 2) (c_9 : what = 3) : vp_in q 24 := by
  subst_vars
  exact xin (N := 24) (by grind [xup_at, isSheet_eq, isTown_eq, isWeek_eq, isTrader_eq, in_0s, isBank_eq, in_0_1, in_0_2, in_0_4, in_0_5, in_0_6, in_0_7, in_0_100, in_0_255, in_0_299, in_0_500, in_0_9999, in_0_99999, in_1_6, in_1_8, in_1_100, in_1_999, in_t_299, xb, isNote_eq]) (by grind [xup_at, isSheet_eq, isTown_eq, isWeek_eq, isTrader_eq, in_0s, isBank_eq, in_0_1, in_0_2, in_0_4, in_0_5, in_0_6, in_0_7, in_0_100, in_0_255, in_0_299, in_0_500, in_0_9999, in_0_99999, in_1_6, in_1_8, in_1_100, in_1_999, in_t_299, xb, isNote_eq]) (by decide)
theorem ob_X11_told_101_in (nb nn : Nat) (q : Int32) (what : Int32) (M : xM) (hp0 : 0 ≤ M 40 0 30) (hp1 : M 40 0 30 ≤ 24) (M_1 : xM) (eM_1 : M_1 = xup M 40 0 0 0) (r_2 : Int32) (er_2 : r_2 = xb (f_X11_isNote q M_1)) (c_3 : ¬ r_2 = 0) (r_4 : Int32) (er_4 : r_4 = xb (f_X11_in (what.toInt64) 0 6 M_1)) (c_5 : ¬ r_4 = 0) (c_6 : ¬ what = 0) (c_7 : ¬ what = 1) (c_8 : ¬ what = 2) (c_9 : ¬ what = 3) (c_10 : what = 4) : vp_in q 24 := by
  subst_vars
  exact xin (N := 24) (by grind [xup_at, isSheet_eq, isTown_eq, isWeek_eq, isTrader_eq, in_0s, isBank_eq, in_0_1, in_0_2, in_0_4, in_0_5, in_0_6, in_0_7, in_0_100, in_0_255, in_0_299, in_0_500, in_0_9999, in_0_99999, in_1_6, in_1_8, in_1_100, in_1_999, in_t_299, xb, isNote_eq]) (by grind [xup_at, isSheet_eq, isTown_eq, isWeek_eq, isTrader_eq, in_0s, isBank_eq, in_0_1, in_0_2, in_0_4, in_0_5, in_0_6, in_0_7, in_0_100, in_0_255, in_0_299, in_0_500, in_0_9999, in_0_99999, in_1_6, in_1_8, in_1_100, in_1_999, in_t_299, xb, isNote_eq]) (by decide)
theorem ob_X11_told_108_in (nb nn : Nat) (q : Int32) (what : Int32) (M : xM) (hp0 : 0 ≤ M 40 0 30) (hp1 : M 40 0 30 ≤ 24) (M_1 : xM) (eM_1 : M_1 = xup M 40 0 0 0) (r_2 : Int32) (er_2 : r_2 = xb (f_X11_isNote q M_1)) (c_3 : ¬ r_2 = 0) (r_4 : Int32) (er_4 : r_4 = xb (f_X11_in (what.toInt64) 0 6 M_1)) (c_5 : ¬ r_4 = 0) (c_6 : ¬ what = 0) (c_7 : ¬ what = 1) (c_8 : ¬ what = 2) (c_9 : ¬ what = 3) (c_10 : ¬ what = 4) (c_11 : what = 5) : vp_in q 24 := by
  subst_vars
  exact xin (N := 24) (by grind [xup_at, isSheet_eq, isTown_eq, isWeek_eq, isTrader_eq, in_0s, isBank_eq, in_0_1, in_0_2, in_0_4, in_0_5, in_0_6, in_0_7, in_0_100, in_0_255, in_0_299, in_0_500, in_0_9999, in_0_99999, in_1_6, in_1_8, in_1_100, in_1_999, in_t_299, xb, isNote_eq]) (by grind [xup_at, isSheet_eq, isTown_eq, isWeek_eq, isTrader_eq, in_0s, isBank_eq, in_0_1, in_0_2, in_0_4, in_0_5, in_0_6, in_0_7, in_0_100, in_0_255, in_0_299, in_0_500, in_0_9999, in_0_99999, in_1_6, in_1_8, in_1_100, in_1_999, in_t_299, xb, isNote_eq]) (by decide)
theorem ob_X11_told_123_in (nb nn : Nat) (q : Int32) (what : Int32) (M : xM) (hp0 : 0 ≤ M 40 0 30) (hp1 : M 40 0 30 ≤ 24) (M_1 : xM) (eM_1 : M_1 = xup M 40 0 0 0) (r_2 : Int32) (er_2 : r_2 = xb (f_X11_isNote q M_1)) (c_3 : ¬ r_2 = 0) (r_4 : Int32) (er_4 : r_4 = xb (f_X11_in (what.toInt64) 0 6 M_1)) (c_5 : ¬ r_4 = 0) (c_6 : ¬ what = 0) (c_7 : ¬ what = 1) (c_8 : ¬ what = 2) (c_9 : ¬ what = 3) (c_10 : ¬ what = 4) (c_11 : ¬ what = 5) : vp_in q 24 := by
  subst_vars
  exact xin (N := 24) (by grind [xup_at, isSheet_eq, isTown_eq, isWeek_eq, isTrader_eq, in_0s, isBank_eq, in_0_1, in_0_2, in_0_4, in_0_5, in_0_6, in_0_7, in_0_100, in_0_255, in_0_299, in_0_500, in_0_9999, in_0_99999, in_1_6, in_1_8, in_1_100, in_1_999, in_t_299, xb, isNote_eq]) (by grind [xup_at, isSheet_eq, isTown_eq, isWeek_eq, isTrader_eq, in_0s, isBank_eq, in_0_1, in_0_2, in_0_4, in_0_5, in_0_6, in_0_7, in_0_100, in_0_255, in_0_299, in_0_500, in_0_9999, in_0_99999, in_1_6, in_1_8, in_1_100, in_1_999, in_t_299, xb, isNote_eq]) (by decide)
theorem ob_X11_hands_51_in (nb nn : Nat) (q : Int32) (i : Int32) (what : Int32) (M : xM) (hp0 : 0 ≤ M 40 0 30) (hp1 : M 40 0 30 ≤ 24) (hp2 : ∀ j : Nat, 0 ≤ M 91 0 j ∧ M 91 0 j ≤ 12) (M_1 : xM) (eM_1 : M_1 = xup M 40 0 0 0) (r_2 : Int32) (er_2 : r_2 = xb (f_X11_isNote q M_1)) (c_3 : ¬ r_2 = 0) (c_4 : ¬ i < (-1)) (r_5 : Int32) (er_5 : r_5 = xb (f_X11_in (what.toInt64) 0 1 M_1)) (c_6 : ¬ r_5 = 0) (c_7 : ¬ i = (-1)) : vp_in q 24 := by
  subst_vars
  exact xin (N := 24) (by grind [xup_at, isSheet_eq, isTown_eq, isWeek_eq, isTrader_eq, in_0s, isBank_eq, in_0_1, in_0_2, in_0_4, in_0_5, in_0_6, in_0_7, in_0_100, in_0_255, in_0_299, in_0_500, in_0_9999, in_0_99999, in_1_6, in_1_8, in_1_100, in_1_999, in_t_299, xb, isNote_eq]) (by grind [xup_at, isSheet_eq, isTown_eq, isWeek_eq, isTrader_eq, in_0s, isBank_eq, in_0_1, in_0_2, in_0_4, in_0_5, in_0_6, in_0_7, in_0_100, in_0_255, in_0_299, in_0_500, in_0_9999, in_0_99999, in_1_6, in_1_8, in_1_100, in_1_999, in_t_299, xb, isNote_eq]) (by decide)
theorem ob_X11_hands_88_in (nb nn : Nat) (q : Int32) (i : Int32) (what : Int32) (M : xM) (hp0 : 0 ≤ M 40 0 30) (hp1 : M 40 0 30 ≤ 24) (hp2 : ∀ j : Nat, 0 ≤ M 91 0 j ∧ M 91 0 j ≤ 12) (M_1 : xM) (eM_1 : M_1 = xup M 40 0 0 0) (r_2 : Int32) (er_2 : r_2 = xb (f_X11_isNote q M_1)) (c_3 : ¬ r_2 = 0) (c_4 : ¬ i < (-1)) (r_5 : Int32) (er_5 : r_5 = xb (f_X11_in (what.toInt64) 0 1 M_1)) (c_6 : ¬ r_5 = 0) (c_7 : ¬ i = (-1)) (c_8 : i < (M_1 91 0 q.toNatClampNeg)) (c_9 : ¬ what = 0) : vp_in ((12 * q) + i) 288 := by
  subst_vars
  exact xin (N := 288) (by grind [xup_at, isSheet_eq, isTown_eq, isWeek_eq, isTrader_eq, in_0s, isBank_eq, in_0_1, in_0_2, in_0_4, in_0_5, in_0_6, in_0_7, in_0_100, in_0_255, in_0_299, in_0_500, in_0_9999, in_0_99999, in_1_6, in_1_8, in_1_100, in_1_999, in_t_299, xb, isNote_eq]) (by grind [xup_at, isSheet_eq, isTown_eq, isWeek_eq, isTrader_eq, in_0s, isBank_eq, in_0_1, in_0_2, in_0_4, in_0_5, in_0_6, in_0_7, in_0_100, in_0_255, in_0_299, in_0_500, in_0_9999, in_0_99999, in_1_6, in_1_8, in_1_100, in_1_999, in_t_299, xb, isNote_eq]) (by decide)
theorem ob_X11_hands_74_in (nb nn : Nat) (q : Int32) (i : Int32) (what : Int32) (M : xM) (hp0 : 0 ≤ M 40 0 30) (hp1 : M 40 0 30 ≤ 24) (hp2 : ∀ j : Nat, 0 ≤ M 91 0 j ∧ M 91 0 j ≤ 12) (M_1 : xM) (eM_1 : M_1 = xup M 40 0 0 0) (r_2 : Int32) (er_2 : r_2 = xb (f_X11_isNote q M_1)) (c_3 : ¬ r_2 = 0) (c_4 : ¬ i < (-1)) (r_5 : Int32) (er_5 : r_5 = xb (f_X11_in (what.toInt64) 0 1 M_1)) (c_6 : ¬ r_5 = 0) (c_7 : ¬ i = (-1)) (c_8 : i < (M_1 91 0 q.toNatClampNeg)) (c_9 : what = 0) : vp_in ((12 * q) + i) 288 := by
  subst_vars
  exact xin (N := 288) (by grind [xup_at, isSheet_eq, isTown_eq, isWeek_eq, isTrader_eq, in_0s, isBank_eq, in_0_1, in_0_2, in_0_4, in_0_5, in_0_6, in_0_7, in_0_100, in_0_255, in_0_299, in_0_500, in_0_9999, in_0_99999, in_1_6, in_1_8, in_1_100, in_1_999, in_t_299, xb, isNote_eq]) (by grind [xup_at, isSheet_eq, isTown_eq, isWeek_eq, isTrader_eq, in_0s, isBank_eq, in_0_1, in_0_2, in_0_4, in_0_5, in_0_6, in_0_7, in_0_100, in_0_255, in_0_299, in_0_500, in_0_9999, in_0_99999, in_1_6, in_1_8, in_1_100, in_1_999, in_t_299, xb, isNote_eq]) (by decide)
theorem ob_X11_hands_41_in (nb nn : Nat) (q : Int32) (i : Int32) (what : Int32) (M : xM) (hp0 : 0 ≤ M 40 0 30) (hp1 : M 40 0 30 ≤ 24) (hp2 : ∀ j : Nat, 0 ≤ M 91 0 j ∧ M 91 0 j ≤ 12) (M_1 : xM) (eM_1 : M_1 = xup M 40 0 0 0) (r_2 : Int32) (er_2 : r_2 = xb (f_X11_isNote q M_1)) (c_3 : ¬ r_2 = 0) (c_4 : ¬ i < (-1)) (r_5 : Int32) (er_5 : r_5 = xb (f_X11_in (what.toInt64) 0 1 M_1)) (c_6 : ¬ r_5 = 0) (c_7 : i = (-1)) : vp_in q 24 := by
  subst_vars
  exact xin (N := 24) (by grind [xup_at, isSheet_eq, isTown_eq, isWeek_eq, isTrader_eq, in_0s, isBank_eq, in_0_1, in_0_2, in_0_4, in_0_5, in_0_6, in_0_7, in_0_100, in_0_255, in_0_299, in_0_500, in_0_9999, in_0_99999, in_1_6, in_1_8, in_1_100, in_1_999, in_t_299, xb, isNote_eq]) (by grind [xup_at, isSheet_eq, isTown_eq, isWeek_eq, isTrader_eq, in_0s, isBank_eq, in_0_1, in_0_2, in_0_4, in_0_5, in_0_6, in_0_7, in_0_100, in_0_255, in_0_299, in_0_500, in_0_9999, in_0_99999, in_1_6, in_1_8, in_1_100, in_1_999, in_t_299, xb, isNote_eq]) (by decide)
theorem ob_X11_trader_40_in (nb nn : Nat) (t : Int32) (town : Int32) (v : Int32) (M : xM) (M_1 : xM) (eM_1 : M_1 = xup M 40 0 0 0) (r_2 : Int32) (er_2 : r_2 = xb (f_X11_isTrader t M_1)) (c_3 : ¬ r_2 = 0) (r_4 : Int32) (er_4 : r_4 = xb (f_X11_isTown town M_1)) (c_5 : ¬ r_4 = 0) (r_6 : Int32) (er_6 : r_6 = xb (f_X11_in (v.toInt64) 0 100 M_1)) (c_7 : ¬ r_6 = 0) : vp_in t 8 := by
  subst_vars
  exact xin (N := 8) (by grind [xup_at, isSheet_eq, isTown_eq, isWeek_eq, isTrader_eq, in_0s, isBank_eq, in_0_1, in_0_2, in_0_4, in_0_5, in_0_6, in_0_7, in_0_100, in_0_255, in_0_299, in_0_500, in_0_9999, in_0_99999, in_1_6, in_1_8, in_1_100, in_1_999, in_t_299, xb]) (by grind [xup_at, isSheet_eq, isTown_eq, isWeek_eq, isTrader_eq, in_0s, isBank_eq, in_0_1, in_0_2, in_0_4, in_0_5, in_0_6, in_0_7, in_0_100, in_0_255, in_0_299, in_0_500, in_0_9999, in_0_99999, in_1_6, in_1_8, in_1_100, in_1_999, in_t_299, xb]) (by decide)
theorem ob_X11_trader_47_in (nb nn : Nat) (t : Int32) (town : Int32) (v : Int32) (M : xM) (M_1 : xM) (eM_1 : M_1 = xup M 40 0 0 0) (r_2 : Int32) (er_2 : r_2 = xb (f_X11_isTrader t M_1)) (c_3 : ¬ r_2 = 0) (r_4 : Int32) (er_4 : r_4 = xb (f_X11_isTown town M_1)) (c_5 : ¬ r_4 = 0) (r_6 : Int32) (er_6 : r_6 = xb (f_X11_in (v.toInt64) 0 100 M_1)) (c_7 : ¬ r_6 = 0) (M_8 : xM) (eM_8 : M_8 = xup M_1 94 0 t.toNatClampNeg town) : vp_in t 8 := by
  subst_vars
  exact xin (N := 8) (by grind [xup_at, isSheet_eq, isTown_eq, isWeek_eq, isTrader_eq, in_0s, isBank_eq, in_0_1, in_0_2, in_0_4, in_0_5, in_0_6, in_0_7, in_0_100, in_0_255, in_0_299, in_0_500, in_0_9999, in_0_99999, in_1_6, in_1_8, in_1_100, in_1_999, in_t_299, xb]) (by grind [xup_at, isSheet_eq, isTown_eq, isWeek_eq, isTrader_eq, in_0s, isBank_eq, in_0_1, in_0_2, in_0_4, in_0_5, in_0_6, in_0_7, in_0_100, in_0_255, in_0_299, in_0_500, in_0_9999, in_0_99999, in_1_6, in_1_8, in_1_100, in_1_999, in_t_299, xb]) (by decide)
theorem ob_X11_home_21_in (nb nn : Nat) (q : Int32) (M : xM) (hp0 : 0 ≤ M 40 0 30) (hp1 : M 40 0 30 ≤ 24) (hp2 : M 40 0 7 ≤ 8) (hp3 : ∀ j : Nat, 0 ≤ M 81 0 j) (M_1 : xM) (eM_1 : M_1 = xup M 40 0 0 0) (r_2 : Int32) (er_2 : r_2 = xb (f_X11_isNote q M_1)) (c_3 : ¬ r_2 = 0) : vp_in q 24 := by
  subst_vars
  exact xin (N := 24) (by grind [xup_at, isSheet_eq, isTown_eq, isWeek_eq, isTrader_eq, in_0s, isBank_eq, in_0_1, in_0_2, in_0_4, in_0_5, in_0_6, in_0_7, in_0_100, in_0_255, in_0_299, in_0_500, in_0_9999, in_0_99999, in_1_6, in_1_8, in_1_100, in_1_999, in_t_299, xb, isNote_eq, f_X11_isGhost]) (by grind [xup_at, isSheet_eq, isTown_eq, isWeek_eq, isTrader_eq, in_0s, isBank_eq, in_0_1, in_0_2, in_0_4, in_0_5, in_0_6, in_0_7, in_0_100, in_0_255, in_0_299, in_0_500, in_0_9999, in_0_99999, in_1_6, in_1_8, in_1_100, in_1_999, in_t_299, xb, isNote_eq, f_X11_isGhost]) (by decide)
theorem ob_X11_home_29_p0 (nb nn : Nat) (q : Int32) (M : xM) (hp0 : 0 ≤ M 40 0 30) (hp1 : M 40 0 30 ≤ 24) (hp2 : M 40 0 7 ≤ 8) (hp3 : ∀ j : Nat, 0 ≤ M 81 0 j) (M_1 : xM) (eM_1 : M_1 = xup M 40 0 0 0) (r_2 : Int32) (er_2 : r_2 = xb (f_X11_isNote q M_1)) (c_3 : ¬ r_2 = 0) (c_4 : ¬ (M_1 85 0 q.toNatClampNeg) = (-1000000)) : 0 ≤ q := by
  subst_vars
  grind [xup_at, isSheet_eq, isTown_eq, isWeek_eq, isTrader_eq, in_0s, isBank_eq, in_0_1, in_0_2, in_0_4, in_0_5, in_0_6, in_0_7, in_0_100, in_0_255, in_0_299, in_0_500, in_0_9999, in_0_99999, in_1_6, in_1_8, in_1_100, in_1_999, in_t_299, xb, isNote_eq, f_X11_isGhost]
theorem ob_X11_home_29_p1 (nb nn : Nat) (q : Int32) (M : xM) (hp0 : 0 ≤ M 40 0 30) (hp1 : M 40 0 30 ≤ 24) (hp2 : M 40 0 7 ≤ 8) (hp3 : ∀ j : Nat, 0 ≤ M 81 0 j) (M_1 : xM) (eM_1 : M_1 = xup M 40 0 0 0) (r_2 : Int32) (er_2 : r_2 = xb (f_X11_isNote q M_1)) (c_3 : ¬ r_2 = 0) (c_4 : ¬ (M_1 85 0 q.toNatClampNeg) = (-1000000)) : q < 24 := by
  subst_vars
  grind [xup_at, isSheet_eq, isTown_eq, isWeek_eq, isTrader_eq, in_0s, isBank_eq, in_0_1, in_0_2, in_0_4, in_0_5, in_0_6, in_0_7, in_0_100, in_0_255, in_0_299, in_0_500, in_0_9999, in_0_99999, in_1_6, in_1_8, in_1_100, in_1_999, in_t_299, xb, isNote_eq, f_X11_isGhost]
theorem ob_X11_home_44_in (nb nn : Nat) (q : Int32) (M : xM) (hp0 : 0 ≤ M 40 0 30) (hp1 : M 40 0 30 ≤ 24) (hp2 : M 40 0 7 ≤ 8) (hp3 : ∀ j : Nat, 0 ≤ M 81 0 j) (M_1 : xM) (eM_1 : M_1 = xup M 40 0 0 0) (r_2 : Int32) (er_2 : r_2 = xb (f_X11_isNote q M_1)) (c_3 : ¬ r_2 = 0) (c_4 : ¬ (M_1 85 0 q.toNatClampNeg) = (-1000000)) (r_5 : Int32) (er_5 : r_5 = xb (f_X11_isGhost q M_1)) (c_6 : r_5 = 0) : vp_in q 24 := by
  subst_vars
  exact xin (N := 24) (by grind [xup_at, isSheet_eq, isTown_eq, isWeek_eq, isTrader_eq, in_0s, isBank_eq, in_0_1, in_0_2, in_0_4, in_0_5, in_0_6, in_0_7, in_0_100, in_0_255, in_0_299, in_0_500, in_0_9999, in_0_99999, in_1_6, in_1_8, in_1_100, in_1_999, in_t_299, xb, isNote_eq, f_X11_isGhost]) (by grind [xup_at, isSheet_eq, isTown_eq, isWeek_eq, isTrader_eq, in_0s, isBank_eq, in_0_1, in_0_2, in_0_4, in_0_5, in_0_6, in_0_7, in_0_100, in_0_255, in_0_299, in_0_500, in_0_9999, in_0_99999, in_1_6, in_1_8, in_1_100, in_1_999, in_t_299, xb, isNote_eq, f_X11_isGhost]) (by decide)
theorem ob_X11_home_53_in (nb nn : Nat) (q : Int32) (M : xM) (hp0 : 0 ≤ M 40 0 30) (hp1 : M 40 0 30 ≤ 24) (hp2 : M 40 0 7 ≤ 8) (hp3 : ∀ j : Nat, 0 ≤ M 81 0 j) (M_1 : xM) (eM_1 : M_1 = xup M 40 0 0 0) (r_2 : Int32) (er_2 : r_2 = xb (f_X11_isNote q M_1)) (c_3 : ¬ r_2 = 0) (c_4 : ¬ (M_1 85 0 q.toNatClampNeg) = (-1000000)) (r_5 : Int32) (er_5 : r_5 = xb (f_X11_isGhost q M_1)) (c_6 : r_5 = 0) (x2_7 : Int32) (ex2_7 : x2_7 = (M_1 81 0 q.toNatClampNeg)) : vp_in q 24 := by
  subst_vars
  exact xin (N := 24) (by grind [xup_at, isSheet_eq, isTown_eq, isWeek_eq, isTrader_eq, in_0s, isBank_eq, in_0_1, in_0_2, in_0_4, in_0_5, in_0_6, in_0_7, in_0_100, in_0_255, in_0_299, in_0_500, in_0_9999, in_0_99999, in_1_6, in_1_8, in_1_100, in_1_999, in_t_299, xb, isNote_eq, f_X11_isGhost]) (by grind [xup_at, isSheet_eq, isTown_eq, isWeek_eq, isTrader_eq, in_0s, isBank_eq, in_0_1, in_0_2, in_0_4, in_0_5, in_0_6, in_0_7, in_0_100, in_0_255, in_0_299, in_0_500, in_0_9999, in_0_99999, in_1_6, in_1_8, in_1_100, in_1_999, in_t_299, xb, isNote_eq, f_X11_isGhost]) (by decide)
theorem ob_X11_home_59_in (nb nn : Nat) (q : Int32) (M : xM) (hp0 : 0 ≤ M 40 0 30) (hp1 : M 40 0 30 ≤ 24) (hp2 : M 40 0 7 ≤ 8) (hp3 : ∀ j : Nat, 0 ≤ M 81 0 j) (M_1 : xM) (eM_1 : M_1 = xup M 40 0 0 0) (r_2 : Int32) (er_2 : r_2 = xb (f_X11_isNote q M_1)) (c_3 : ¬ r_2 = 0) (c_4 : ¬ (M_1 85 0 q.toNatClampNeg) = (-1000000)) (r_5 : Int32) (er_5 : r_5 = xb (f_X11_isGhost q M_1)) (c_6 : r_5 = 0) (x2_7 : Int32) (ex2_7 : x2_7 = (M_1 81 0 q.toNatClampNeg)) (M_8 : xM) (eM_8 : M_8 = xup M_1 85 0 q.toNatClampNeg (-1000000)) : vp_in q 24 := by
  subst_vars
  exact xin (N := 24) (by grind [xup_at, isSheet_eq, isTown_eq, isWeek_eq, isTrader_eq, in_0s, isBank_eq, in_0_1, in_0_2, in_0_4, in_0_5, in_0_6, in_0_7, in_0_100, in_0_255, in_0_299, in_0_500, in_0_9999, in_0_99999, in_1_6, in_1_8, in_1_100, in_1_999, in_t_299, xb, isNote_eq, f_X11_isGhost]) (by grind [xup_at, isSheet_eq, isTown_eq, isWeek_eq, isTrader_eq, in_0s, isBank_eq, in_0_1, in_0_2, in_0_4, in_0_5, in_0_6, in_0_7, in_0_100, in_0_255, in_0_299, in_0_500, in_0_9999, in_0_99999, in_1_6, in_1_8, in_1_100, in_1_999, in_t_299, xb, isNote_eq, f_X11_isGhost]) (by decide)
theorem ob_X11_home_65_in (nb nn : Nat) (q : Int32) (M : xM) (hp0 : 0 ≤ M 40 0 30) (hp1 : M 40 0 30 ≤ 24) (hp2 : M 40 0 7 ≤ 8) (hp3 : ∀ j : Nat, 0 ≤ M 81 0 j) (M_1 : xM) (eM_1 : M_1 = xup M 40 0 0 0) (r_2 : Int32) (er_2 : r_2 = xb (f_X11_isNote q M_1)) (c_3 : ¬ r_2 = 0) (c_4 : ¬ (M_1 85 0 q.toNatClampNeg) = (-1000000)) (r_5 : Int32) (er_5 : r_5 = xb (f_X11_isGhost q M_1)) (c_6 : r_5 = 0) (x2_7 : Int32) (ex2_7 : x2_7 = (M_1 81 0 q.toNatClampNeg)) (M_8 : xM) (eM_8 : M_8 = xup M_1 85 0 q.toNatClampNeg (-1000000)) : vp_in x2_7 8 := by
  subst_vars
  exact xin (N := 8) (by grind [xup_at, isSheet_eq, isTown_eq, isWeek_eq, isTrader_eq, in_0s, isBank_eq, in_0_1, in_0_2, in_0_4, in_0_5, in_0_6, in_0_7, in_0_100, in_0_255, in_0_299, in_0_500, in_0_9999, in_0_99999, in_1_6, in_1_8, in_1_100, in_1_999, in_t_299, xb, isNote_eq, f_X11_isGhost]) (by grind [xup_at, isSheet_eq, isTown_eq, isWeek_eq, isTrader_eq, in_0s, isBank_eq, in_0_1, in_0_2, in_0_4, in_0_5, in_0_6, in_0_7, in_0_100, in_0_255, in_0_299, in_0_500, in_0_9999, in_0_99999, in_1_6, in_1_8, in_1_100, in_1_999, in_t_299, xb, isNote_eq, f_X11_isGhost]) (by decide)
theorem ob_X11_home_84_in (nb nn : Nat) (q : Int32) (M : xM) (hp0 : 0 ≤ M 40 0 30) (hp1 : M 40 0 30 ≤ 24) (hp2 : M 40 0 7 ≤ 8) (hp3 : ∀ j : Nat, 0 ≤ M 81 0 j) (M_1 : xM) (eM_1 : M_1 = xup M 40 0 0 0) (r_2 : Int32) (er_2 : r_2 = xb (f_X11_isNote q M_1)) (c_3 : ¬ r_2 = 0) (c_4 : ¬ (M_1 85 0 q.toNatClampNeg) = (-1000000)) (r_5 : Int32) (er_5 : r_5 = xb (f_X11_isGhost q M_1)) (c_6 : r_5 = 0) (x2_7 : Int32) (ex2_7 : x2_7 = (M_1 81 0 q.toNatClampNeg)) (M_8 : xM) (eM_8 : M_8 = xup M_1 85 0 q.toNatClampNeg (-1000000)) (c_9 : (M_8 83 0 q.toNatClampNeg) = (M_8 60 0 x2_7.toNatClampNeg)) : vp_in q 24 := by
  subst_vars
  exact xin (N := 24) (by grind [xup_at, isSheet_eq, isTown_eq, isWeek_eq, isTrader_eq, in_0s, isBank_eq, in_0_1, in_0_2, in_0_4, in_0_5, in_0_6, in_0_7, in_0_100, in_0_255, in_0_299, in_0_500, in_0_9999, in_0_99999, in_1_6, in_1_8, in_1_100, in_1_999, in_t_299, xb, isNote_eq, f_X11_isGhost]) (by grind [xup_at, isSheet_eq, isTown_eq, isWeek_eq, isTrader_eq, in_0s, isBank_eq, in_0_1, in_0_2, in_0_4, in_0_5, in_0_6, in_0_7, in_0_100, in_0_255, in_0_299, in_0_500, in_0_9999, in_0_99999, in_1_6, in_1_8, in_1_100, in_1_999, in_t_299, xb, isNote_eq, f_X11_isGhost]) (by decide)
theorem ob_X11_home_90_in (nb nn : Nat) (q : Int32) (M : xM) (hp0 : 0 ≤ M 40 0 30) (hp1 : M 40 0 30 ≤ 24) (hp2 : M 40 0 7 ≤ 8) (hp3 : ∀ j : Nat, 0 ≤ M 81 0 j) (M_1 : xM) (eM_1 : M_1 = xup M 40 0 0 0) (r_2 : Int32) (er_2 : r_2 = xb (f_X11_isNote q M_1)) (c_3 : ¬ r_2 = 0) (c_4 : ¬ (M_1 85 0 q.toNatClampNeg) = (-1000000)) (r_5 : Int32) (er_5 : r_5 = xb (f_X11_isGhost q M_1)) (c_6 : r_5 = 0) (x2_7 : Int32) (ex2_7 : x2_7 = (M_1 81 0 q.toNatClampNeg)) (M_8 : xM) (eM_8 : M_8 = xup M_1 85 0 q.toNatClampNeg (-1000000)) (c_9 : (M_8 83 0 q.toNatClampNeg) = (M_8 60 0 x2_7.toNatClampNeg)) (M_10 : xM) (eM_10 : M_10 = xup M_8 86 0 q.toNatClampNeg (vp_nar .boolean 1)) : vp_in x2_7 8 := by
  subst_vars
  exact xin (N := 8) (by grind [xup_at, isSheet_eq, isTown_eq, isWeek_eq, isTrader_eq, in_0s, isBank_eq, in_0_1, in_0_2, in_0_4, in_0_5, in_0_6, in_0_7, in_0_100, in_0_255, in_0_299, in_0_500, in_0_9999, in_0_99999, in_1_6, in_1_8, in_1_100, in_1_999, in_t_299, xb, isNote_eq, f_X11_isGhost]) (by grind [xup_at, isSheet_eq, isTown_eq, isWeek_eq, isTrader_eq, in_0s, isBank_eq, in_0_1, in_0_2, in_0_4, in_0_5, in_0_6, in_0_7, in_0_100, in_0_255, in_0_299, in_0_500, in_0_9999, in_0_99999, in_1_6, in_1_8, in_1_100, in_1_999, in_t_299, xb, isNote_eq, f_X11_isGhost]) (by decide)
theorem ob_X11_home_115_in (nb nn : Nat) (q : Int32) (M : xM) (hp0 : 0 ≤ M 40 0 30) (hp1 : M 40 0 30 ≤ 24) (hp2 : M 40 0 7 ≤ 8) (hp3 : ∀ j : Nat, 0 ≤ M 81 0 j) (M_1 : xM) (eM_1 : M_1 = xup M 40 0 0 0) (r_2 : Int32) (er_2 : r_2 = xb (f_X11_isNote q M_1)) (c_3 : ¬ r_2 = 0) (c_4 : ¬ (M_1 85 0 q.toNatClampNeg) = (-1000000)) (r_5 : Int32) (er_5 : r_5 = xb (f_X11_isGhost q M_1)) (c_6 : r_5 = 0) (x2_7 : Int32) (ex2_7 : x2_7 = (M_1 81 0 q.toNatClampNeg)) (M_8 : xM) (eM_8 : M_8 = xup M_1 85 0 q.toNatClampNeg (-1000000)) (c_9 : (M_8 83 0 q.toNatClampNeg) = (M_8 60 0 x2_7.toNatClampNeg)) (M_10 : xM) (eM_10 : M_10 = xup M_8 86 0 q.toNatClampNeg (vp_nar .boolean 1)) (c_11 : ¬ (M_10 61 0 x2_7.toNatClampNeg) = 0) : vp_in x2_7 8 := by
  subst_vars
  exact xin (N := 8) (by grind [xup_at, isSheet_eq, isTown_eq, isWeek_eq, isTrader_eq, in_0s, isBank_eq, in_0_1, in_0_2, in_0_4, in_0_5, in_0_6, in_0_7, in_0_100, in_0_255, in_0_299, in_0_500, in_0_9999, in_0_99999, in_1_6, in_1_8, in_1_100, in_1_999, in_t_299, xb, isNote_eq, f_X11_isGhost]) (by grind [xup_at, isSheet_eq, isTown_eq, isWeek_eq, isTrader_eq, in_0s, isBank_eq, in_0_1, in_0_2, in_0_4, in_0_5, in_0_6, in_0_7, in_0_100, in_0_255, in_0_299, in_0_500, in_0_9999, in_0_99999, in_1_6, in_1_8, in_1_100, in_1_999, in_t_299, xb, isNote_eq, f_X11_isGhost]) (by decide)
theorem ob_X11_home_99_in (nb nn : Nat) (q : Int32) (M : xM) (hp0 : 0 ≤ M 40 0 30) (hp1 : M 40 0 30 ≤ 24) (hp2 : M 40 0 7 ≤ 8) (hp3 : ∀ j : Nat, 0 ≤ M 81 0 j) (M_1 : xM) (eM_1 : M_1 = xup M 40 0 0 0) (r_2 : Int32) (er_2 : r_2 = xb (f_X11_isNote q M_1)) (c_3 : ¬ r_2 = 0) (c_4 : ¬ (M_1 85 0 q.toNatClampNeg) = (-1000000)) (r_5 : Int32) (er_5 : r_5 = xb (f_X11_isGhost q M_1)) (c_6 : r_5 = 0) (x2_7 : Int32) (ex2_7 : x2_7 = (M_1 81 0 q.toNatClampNeg)) (M_8 : xM) (eM_8 : M_8 = xup M_1 85 0 q.toNatClampNeg (-1000000)) (c_9 : (M_8 83 0 q.toNatClampNeg) = (M_8 60 0 x2_7.toNatClampNeg)) (M_10 : xM) (eM_10 : M_10 = xup M_8 86 0 q.toNatClampNeg (vp_nar .boolean 1)) (c_11 : (M_10 61 0 x2_7.toNatClampNeg) = 0) : vp_in x2_7 8 := by
  subst_vars
  exact xin (N := 8) (by grind [xup_at, isSheet_eq, isTown_eq, isWeek_eq, isTrader_eq, in_0s, isBank_eq, in_0_1, in_0_2, in_0_4, in_0_5, in_0_6, in_0_7, in_0_100, in_0_255, in_0_299, in_0_500, in_0_9999, in_0_99999, in_1_6, in_1_8, in_1_100, in_1_999, in_t_299, xb, isNote_eq, f_X11_isGhost]) (by grind [xup_at, isSheet_eq, isTown_eq, isWeek_eq, isTrader_eq, in_0s, isBank_eq, in_0_1, in_0_2, in_0_4, in_0_5, in_0_6, in_0_7, in_0_100, in_0_255, in_0_299, in_0_500, in_0_9999, in_0_99999, in_1_6, in_1_8, in_1_100, in_1_999, in_t_299, xb, isNote_eq, f_X11_isGhost]) (by decide)
theorem ob_X11_home_105_in (nb nn : Nat) (q : Int32) (M : xM) (hp0 : 0 ≤ M 40 0 30) (hp1 : M 40 0 30 ≤ 24) (hp2 : M 40 0 7 ≤ 8) (hp3 : ∀ j : Nat, 0 ≤ M 81 0 j) (M_1 : xM) (eM_1 : M_1 = xup M 40 0 0 0) (r_2 : Int32) (er_2 : r_2 = xb (f_X11_isNote q M_1)) (c_3 : ¬ r_2 = 0) (c_4 : ¬ (M_1 85 0 q.toNatClampNeg) = (-1000000)) (r_5 : Int32) (er_5 : r_5 = xb (f_X11_isGhost q M_1)) (c_6 : r_5 = 0) (x2_7 : Int32) (ex2_7 : x2_7 = (M_1 81 0 q.toNatClampNeg)) (M_8 : xM) (eM_8 : M_8 = xup M_1 85 0 q.toNatClampNeg (-1000000)) (c_9 : (M_8 83 0 q.toNatClampNeg) = (M_8 60 0 x2_7.toNatClampNeg)) (M_10 : xM) (eM_10 : M_10 = xup M_8 86 0 q.toNatClampNeg (vp_nar .boolean 1)) (c_11 : (M_10 61 0 x2_7.toNatClampNeg) = 0) : vp_in q 24 := by
  subst_vars
  exact xin (N := 24) (by grind [xup_at, isSheet_eq, isTown_eq, isWeek_eq, isTrader_eq, in_0s, isBank_eq, in_0_1, in_0_2, in_0_4, in_0_5, in_0_6, in_0_7, in_0_100, in_0_255, in_0_299, in_0_500, in_0_9999, in_0_99999, in_1_6, in_1_8, in_1_100, in_1_999, in_t_299, xb, isNote_eq, f_X11_isGhost]) (by grind [xup_at, isSheet_eq, isTown_eq, isWeek_eq, isTrader_eq, in_0s, isBank_eq, in_0_1, in_0_2, in_0_4, in_0_5, in_0_6, in_0_7, in_0_100, in_0_255, in_0_299, in_0_500, in_0_9999, in_0_99999, in_1_6, in_1_8, in_1_100, in_1_999, in_t_299, xb, isNote_eq, f_X11_isGhost]) (by decide)
theorem ob_X11_home_124_in (nb nn : Nat) (q : Int32) (M : xM) (hp0 : 0 ≤ M 40 0 30) (hp1 : M 40 0 30 ≤ 24) (hp2 : M 40 0 7 ≤ 8) (hp3 : ∀ j : Nat, 0 ≤ M 81 0 j) (M_1 : xM) (eM_1 : M_1 = xup M 40 0 0 0) (r_2 : Int32) (er_2 : r_2 = xb (f_X11_isNote q M_1)) (c_3 : ¬ r_2 = 0) (c_4 : ¬ (M_1 85 0 q.toNatClampNeg) = (-1000000)) (r_5 : Int32) (er_5 : r_5 = xb (f_X11_isGhost q M_1)) (c_6 : r_5 = 0) (x2_7 : Int32) (ex2_7 : x2_7 = (M_1 81 0 q.toNatClampNeg)) (M_8 : xM) (eM_8 : M_8 = xup M_1 85 0 q.toNatClampNeg (-1000000)) (c_9 : (M_8 83 0 q.toNatClampNeg) = (M_8 60 0 x2_7.toNatClampNeg)) (M_10 : xM) (eM_10 : M_10 = xup M_8 86 0 q.toNatClampNeg (vp_nar .boolean 1)) (c_11 : (M_10 61 0 x2_7.toNatClampNeg) = 0) (c_13 : (M_10 82 0 q.toNatClampNeg) ≤ (M_10 59 0 x2_7.toNatClampNeg)) : vp_in x2_7 8 := by
  subst_vars
  exact xin (N := 8) (by grind [xup_at, isSheet_eq, isTown_eq, isWeek_eq, isTrader_eq, in_0s, isBank_eq, in_0_1, in_0_2, in_0_4, in_0_5, in_0_6, in_0_7, in_0_100, in_0_255, in_0_299, in_0_500, in_0_9999, in_0_99999, in_1_6, in_1_8, in_1_100, in_1_999, in_t_299, xb, isNote_eq, f_X11_isGhost]) (by grind [xup_at, isSheet_eq, isTown_eq, isWeek_eq, isTrader_eq, in_0s, isBank_eq, in_0_1, in_0_2, in_0_4, in_0_5, in_0_6, in_0_7, in_0_100, in_0_255, in_0_299, in_0_500, in_0_9999, in_0_99999, in_1_6, in_1_8, in_1_100, in_1_999, in_t_299, xb, isNote_eq, f_X11_isGhost]) (by decide)
theorem ob_X11_home_130_in (nb nn : Nat) (q : Int32) (M : xM) (hp0 : 0 ≤ M 40 0 30) (hp1 : M 40 0 30 ≤ 24) (hp2 : M 40 0 7 ≤ 8) (hp3 : ∀ j : Nat, 0 ≤ M 81 0 j) (M_1 : xM) (eM_1 : M_1 = xup M 40 0 0 0) (r_2 : Int32) (er_2 : r_2 = xb (f_X11_isNote q M_1)) (c_3 : ¬ r_2 = 0) (c_4 : ¬ (M_1 85 0 q.toNatClampNeg) = (-1000000)) (r_5 : Int32) (er_5 : r_5 = xb (f_X11_isGhost q M_1)) (c_6 : r_5 = 0) (x2_7 : Int32) (ex2_7 : x2_7 = (M_1 81 0 q.toNatClampNeg)) (M_8 : xM) (eM_8 : M_8 = xup M_1 85 0 q.toNatClampNeg (-1000000)) (c_9 : (M_8 83 0 q.toNatClampNeg) = (M_8 60 0 x2_7.toNatClampNeg)) (M_10 : xM) (eM_10 : M_10 = xup M_8 86 0 q.toNatClampNeg (vp_nar .boolean 1)) (c_11 : (M_10 61 0 x2_7.toNatClampNeg) = 0) (c_13 : (M_10 82 0 q.toNatClampNeg) ≤ (M_10 59 0 x2_7.toNatClampNeg)) : vp_in q 24 := by
  subst_vars
  exact xin (N := 24) (by grind [xup_at, isSheet_eq, isTown_eq, isWeek_eq, isTrader_eq, in_0s, isBank_eq, in_0_1, in_0_2, in_0_4, in_0_5, in_0_6, in_0_7, in_0_100, in_0_255, in_0_299, in_0_500, in_0_9999, in_0_99999, in_1_6, in_1_8, in_1_100, in_1_999, in_t_299, xb, isNote_eq, f_X11_isGhost]) (by grind [xup_at, isSheet_eq, isTown_eq, isWeek_eq, isTrader_eq, in_0s, isBank_eq, in_0_1, in_0_2, in_0_4, in_0_5, in_0_6, in_0_7, in_0_100, in_0_255, in_0_299, in_0_500, in_0_9999, in_0_99999, in_1_6, in_1_8, in_1_100, in_1_999, in_t_299, xb, isNote_eq, f_X11_isGhost]) (by decide)
theorem ob_X11_home_132_in (nb nn : Nat) (q : Int32) (M : xM) (hp0 : 0 ≤ M 40 0 30) (hp1 : M 40 0 30 ≤ 24) (hp2 : M 40 0 7 ≤ 8) (hp3 : ∀ j : Nat, 0 ≤ M 81 0 j) (M_1 : xM) (eM_1 : M_1 = xup M 40 0 0 0) (r_2 : Int32) (er_2 : r_2 = xb (f_X11_isNote q M_1)) (c_3 : ¬ r_2 = 0) (c_4 : ¬ (M_1 85 0 q.toNatClampNeg) = (-1000000)) (r_5 : Int32) (er_5 : r_5 = xb (f_X11_isGhost q M_1)) (c_6 : r_5 = 0) (x2_7 : Int32) (ex2_7 : x2_7 = (M_1 81 0 q.toNatClampNeg)) (M_8 : xM) (eM_8 : M_8 = xup M_1 85 0 q.toNatClampNeg (-1000000)) (c_9 : (M_8 83 0 q.toNatClampNeg) = (M_8 60 0 x2_7.toNatClampNeg)) (M_10 : xM) (eM_10 : M_10 = xup M_8 86 0 q.toNatClampNeg (vp_nar .boolean 1)) (c_11 : (M_10 61 0 x2_7.toNatClampNeg) = 0) (c_13 : (M_10 82 0 q.toNatClampNeg) ≤ (M_10 59 0 x2_7.toNatClampNeg)) (v_14 : Int32) (ev_14 : v_14 = ((M_10 59 0 x2_7.toNatClampNeg) - (M_10 82 0 q.toNatClampNeg))) : vp_in x2_7 8 := by
  subst_vars
  exact xin (N := 8) (by grind [xup_at, isSheet_eq, isTown_eq, isWeek_eq, isTrader_eq, in_0s, isBank_eq, in_0_1, in_0_2, in_0_4, in_0_5, in_0_6, in_0_7, in_0_100, in_0_255, in_0_299, in_0_500, in_0_9999, in_0_99999, in_1_6, in_1_8, in_1_100, in_1_999, in_t_299, xb, isNote_eq, f_X11_isGhost]) (by grind [xup_at, isSheet_eq, isTown_eq, isWeek_eq, isTrader_eq, in_0s, isBank_eq, in_0_1, in_0_2, in_0_4, in_0_5, in_0_6, in_0_7, in_0_100, in_0_255, in_0_299, in_0_500, in_0_9999, in_0_99999, in_1_6, in_1_8, in_1_100, in_1_999, in_t_299, xb, isNote_eq, f_X11_isGhost]) (by decide)
theorem ob_X11_home_138_in (nb nn : Nat) (q : Int32) (M : xM) (hp0 : 0 ≤ M 40 0 30) (hp1 : M 40 0 30 ≤ 24) (hp2 : M 40 0 7 ≤ 8) (hp3 : ∀ j : Nat, 0 ≤ M 81 0 j) (M_1 : xM) (eM_1 : M_1 = xup M 40 0 0 0) (r_2 : Int32) (er_2 : r_2 = xb (f_X11_isNote q M_1)) (c_3 : ¬ r_2 = 0) (c_4 : ¬ (M_1 85 0 q.toNatClampNeg) = (-1000000)) (r_5 : Int32) (er_5 : r_5 = xb (f_X11_isGhost q M_1)) (c_6 : r_5 = 0) (x2_7 : Int32) (ex2_7 : x2_7 = (M_1 81 0 q.toNatClampNeg)) (M_8 : xM) (eM_8 : M_8 = xup M_1 85 0 q.toNatClampNeg (-1000000)) (c_9 : (M_8 83 0 q.toNatClampNeg) = (M_8 60 0 x2_7.toNatClampNeg)) (M_10 : xM) (eM_10 : M_10 = xup M_8 86 0 q.toNatClampNeg (vp_nar .boolean 1)) (c_11 : (M_10 61 0 x2_7.toNatClampNeg) = 0) (c_13 : (M_10 82 0 q.toNatClampNeg) ≤ (M_10 59 0 x2_7.toNatClampNeg)) (v_14 : Int32) (ev_14 : v_14 = ((M_10 59 0 x2_7.toNatClampNeg) - (M_10 82 0 q.toNatClampNeg))) (M_15 : xM) (eM_15 : M_15 = xup M_10 59 0 x2_7.toNatClampNeg v_14) : vp_in q 24 := by
  subst_vars
  exact xin (N := 24) (by grind [xup_at, isSheet_eq, isTown_eq, isWeek_eq, isTrader_eq, in_0s, isBank_eq, in_0_1, in_0_2, in_0_4, in_0_5, in_0_6, in_0_7, in_0_100, in_0_255, in_0_299, in_0_500, in_0_9999, in_0_99999, in_1_6, in_1_8, in_1_100, in_1_999, in_t_299, xb, isNote_eq, f_X11_isGhost]) (by grind [xup_at, isSheet_eq, isTown_eq, isWeek_eq, isTrader_eq, in_0s, isBank_eq, in_0_1, in_0_2, in_0_4, in_0_5, in_0_6, in_0_7, in_0_100, in_0_255, in_0_299, in_0_500, in_0_9999, in_0_99999, in_1_6, in_1_8, in_1_100, in_1_999, in_t_299, xb, isNote_eq, f_X11_isGhost]) (by decide)
theorem ob_X11_home_115_in_2 (nb nn : Nat) (q : Int32) (M : xM) (hp0 : 0 ≤ M 40 0 30) (hp1 : M 40 0 30 ≤ 24) (hp2 : M 40 0 7 ≤ 8) (hp3 : ∀ j : Nat, 0 ≤ M 81 0 j) (M_1 : xM) (eM_1 : M_1 = xup M 40 0 0 0) (r_2 : Int32) (er_2 : r_2 = xb (f_X11_isNote q M_1)) (c_3 : ¬ r_2 = 0) (c_4 : ¬ (M_1 85 0 q.toNatClampNeg) = (-1000000)) (r_5 : Int32) (er_5 : r_5 = xb (f_X11_isGhost q M_1)) (c_6 : r_5 = 0) (x2_7 : Int32) (ex2_7 : x2_7 = (M_1 81 0 q.toNatClampNeg)) (M_8 : xM) (eM_8 : M_8 = xup M_1 85 0 q.toNatClampNeg (-1000000)) (c_9 : (M_8 83 0 q.toNatClampNeg) = (M_8 60 0 x2_7.toNatClampNeg)) (M_10 : xM) (eM_10 : M_10 = xup M_8 86 0 q.toNatClampNeg (vp_nar .boolean 1)) (c_11 : (M_10 61 0 x2_7.toNatClampNeg) = 0) (c_13 : ¬ (M_10 82 0 q.toNatClampNeg) ≤ (M_10 59 0 x2_7.toNatClampNeg)) : vp_in x2_7 8 := by
  subst_vars
  exact xin (N := 8) (by grind [xup_at, isSheet_eq, isTown_eq, isWeek_eq, isTrader_eq, in_0s, isBank_eq, in_0_1, in_0_2, in_0_4, in_0_5, in_0_6, in_0_7, in_0_100, in_0_255, in_0_299, in_0_500, in_0_9999, in_0_99999, in_1_6, in_1_8, in_1_100, in_1_999, in_t_299, xb, isNote_eq, f_X11_isGhost]) (by grind [xup_at, isSheet_eq, isTown_eq, isWeek_eq, isTrader_eq, in_0s, isBank_eq, in_0_1, in_0_2, in_0_4, in_0_5, in_0_6, in_0_7, in_0_100, in_0_255, in_0_299, in_0_500, in_0_9999, in_0_99999, in_1_6, in_1_8, in_1_100, in_1_999, in_t_299, xb, isNote_eq, f_X11_isGhost]) (by decide)
theorem ob_X11_home_75_in (nb nn : Nat) (q : Int32) (M : xM) (hp0 : 0 ≤ M 40 0 30) (hp1 : M 40 0 30 ≤ 24) (hp2 : M 40 0 7 ≤ 8) (hp3 : ∀ j : Nat, 0 ≤ M 81 0 j) (M_1 : xM) (eM_1 : M_1 = xup M 40 0 0 0) (r_2 : Int32) (er_2 : r_2 = xb (f_X11_isNote q M_1)) (c_3 : ¬ r_2 = 0) (c_4 : ¬ (M_1 85 0 q.toNatClampNeg) = (-1000000)) (r_5 : Int32) (er_5 : r_5 = xb (f_X11_isGhost q M_1)) (c_6 : r_5 = 0) (x2_7 : Int32) (ex2_7 : x2_7 = (M_1 81 0 q.toNatClampNeg)) (M_8 : xM) (eM_8 : M_8 = xup M_1 85 0 q.toNatClampNeg (-1000000)) (c_9 : ¬ (M_8 83 0 q.toNatClampNeg) = (M_8 60 0 x2_7.toNatClampNeg)) : vp_in q 24 := by
  subst_vars
  exact xin (N := 24) (by grind [xup_at, isSheet_eq, isTown_eq, isWeek_eq, isTrader_eq, in_0s, isBank_eq, in_0_1, in_0_2, in_0_4, in_0_5, in_0_6, in_0_7, in_0_100, in_0_255, in_0_299, in_0_500, in_0_9999, in_0_99999, in_1_6, in_1_8, in_1_100, in_1_999, in_t_299, xb, isNote_eq, f_X11_isGhost]) (by grind [xup_at, isSheet_eq, isTown_eq, isWeek_eq, isTrader_eq, in_0s, isBank_eq, in_0_1, in_0_2, in_0_4, in_0_5, in_0_6, in_0_7, in_0_100, in_0_255, in_0_299, in_0_500, in_0_9999, in_0_99999, in_1_6, in_1_8, in_1_100, in_1_999, in_t_299, xb, isNote_eq, f_X11_isGhost]) (by decide)
theorem ob_X11_cut_25_in (nb nn : Nat) (q : Int32) (to : Int32) (M : xM) (hp0 : 0 ≤ M 40 0 30) (hp1 : M 40 0 30 ≤ 24) (M_1 : xM) (eM_1 : M_1 = xup M 40 0 0 0) (r_2 : Int32) (er_2 : r_2 = xb (f_X11_isNote q M_1)) (c_3 : ¬ r_2 = 0) (r_4 : Int32) (er_4 : r_4 = xb (f_X11_isTrader to M_1)) (c_5 : ¬ r_4 = 0) : vp_in q 24 := by
  subst_vars
  exact xin (N := 24) (by grind [xup_at, isSheet_eq, isTown_eq, isWeek_eq, isTrader_eq, in_0s, isBank_eq, in_0_1, in_0_2, in_0_4, in_0_5, in_0_6, in_0_7, in_0_100, in_0_255, in_0_299, in_0_500, in_0_9999, in_0_99999, in_1_6, in_1_8, in_1_100, in_1_999, in_t_299, xb, isNote_eq]) (by grind [xup_at, isSheet_eq, isTown_eq, isWeek_eq, isTrader_eq, in_0s, isBank_eq, in_0_1, in_0_2, in_0_4, in_0_5, in_0_6, in_0_7, in_0_100, in_0_255, in_0_299, in_0_500, in_0_9999, in_0_99999, in_1_6, in_1_8, in_1_100, in_1_999, in_t_299, xb, isNote_eq]) (by decide)
theorem ob_X11_cut_38_in (nb nn : Nat) (q : Int32) (to : Int32) (M : xM) (hp0 : 0 ≤ M 40 0 30) (hp1 : M 40 0 30 ≤ 24) (M_1 : xM) (eM_1 : M_1 = xup M 40 0 0 0) (r_2 : Int32) (er_2 : r_2 = xb (f_X11_isNote q M_1)) (c_3 : ¬ r_2 = 0) (r_4 : Int32) (er_4 : r_4 = xb (f_X11_isTrader to M_1)) (c_5 : ¬ r_4 = 0) (c_6 : ¬ (M_1 85 0 q.toNatClampNeg) = to) : vp_in q 24 := by
  subst_vars
  exact xin (N := 24) (by grind [xup_at, isSheet_eq, isTown_eq, isWeek_eq, isTrader_eq, in_0s, isBank_eq, in_0_1, in_0_2, in_0_4, in_0_5, in_0_6, in_0_7, in_0_100, in_0_255, in_0_299, in_0_500, in_0_9999, in_0_99999, in_1_6, in_1_8, in_1_100, in_1_999, in_t_299, xb, isNote_eq]) (by grind [xup_at, isSheet_eq, isTown_eq, isWeek_eq, isTrader_eq, in_0s, isBank_eq, in_0_1, in_0_2, in_0_4, in_0_5, in_0_6, in_0_7, in_0_100, in_0_255, in_0_299, in_0_500, in_0_9999, in_0_99999, in_1_6, in_1_8, in_1_100, in_1_999, in_t_299, xb, isNote_eq]) (by decide)
theorem ob_X11_cut_49_in (nb nn : Nat) (q : Int32) (to : Int32) (M : xM) (hp0 : 0 ≤ M 40 0 30) (hp1 : M 40 0 30 ≤ 24) (M_1 : xM) (eM_1 : M_1 = xup M 40 0 0 0) (r_2 : Int32) (er_2 : r_2 = xb (f_X11_isNote q M_1)) (c_3 : ¬ r_2 = 0) (r_4 : Int32) (er_4 : r_4 = xb (f_X11_isTrader to M_1)) (c_5 : ¬ r_4 = 0) (c_6 : ¬ (M_1 85 0 q.toNatClampNeg) = to) (c_7 : ¬ (M_1 85 0 q.toNatClampNeg) = (-1000000)) : vp_in q 24 := by
  subst_vars
  exact xin (N := 24) (by grind [xup_at, isSheet_eq, isTown_eq, isWeek_eq, isTrader_eq, in_0s, isBank_eq, in_0_1, in_0_2, in_0_4, in_0_5, in_0_6, in_0_7, in_0_100, in_0_255, in_0_299, in_0_500, in_0_9999, in_0_99999, in_1_6, in_1_8, in_1_100, in_1_999, in_t_299, xb, isNote_eq]) (by grind [xup_at, isSheet_eq, isTown_eq, isWeek_eq, isTrader_eq, in_0s, isBank_eq, in_0_1, in_0_2, in_0_4, in_0_5, in_0_6, in_0_7, in_0_100, in_0_255, in_0_299, in_0_500, in_0_9999, in_0_99999, in_1_6, in_1_8, in_1_100, in_1_999, in_t_299, xb, isNote_eq]) (by decide)
theorem ob_X11_cut_63_in (nb nn : Nat) (q : Int32) (to : Int32) (M : xM) (hp0 : 0 ≤ M 40 0 30) (hp1 : M 40 0 30 ≤ 24) (M_1 : xM) (eM_1 : M_1 = xup M 40 0 0 0) (r_2 : Int32) (er_2 : r_2 = xb (f_X11_isNote q M_1)) (c_3 : ¬ r_2 = 0) (r_4 : Int32) (er_4 : r_4 = xb (f_X11_isTrader to M_1)) (c_5 : ¬ r_4 = 0) (c_6 : ¬ (M_1 85 0 q.toNatClampNeg) = to) (c_7 : ¬ (M_1 85 0 q.toNatClampNeg) = (-1000000)) (c_8 : (M_1 88 0 q.toNatClampNeg) = 0) : vp_in q 24 := by
  subst_vars
  exact xin (N := 24) (by grind [xup_at, isSheet_eq, isTown_eq, isWeek_eq, isTrader_eq, in_0s, isBank_eq, in_0_1, in_0_2, in_0_4, in_0_5, in_0_6, in_0_7, in_0_100, in_0_255, in_0_299, in_0_500, in_0_9999, in_0_99999, in_1_6, in_1_8, in_1_100, in_1_999, in_t_299, xb, isNote_eq]) (by grind [xup_at, isSheet_eq, isTown_eq, isWeek_eq, isTrader_eq, in_0s, isBank_eq, in_0_1, in_0_2, in_0_4, in_0_5, in_0_6, in_0_7, in_0_100, in_0_255, in_0_299, in_0_500, in_0_9999, in_0_99999, in_1_6, in_1_8, in_1_100, in_1_999, in_t_299, xb, isNote_eq]) (by decide)
theorem ob_X11_cut_70_in (nb nn : Nat) (q : Int32) (to : Int32) (M : xM) (hp0 : 0 ≤ M 40 0 30) (hp1 : M 40 0 30 ≤ 24) (M_1 : xM) (eM_1 : M_1 = xup M 40 0 0 0) (r_2 : Int32) (er_2 : r_2 = xb (f_X11_isNote q M_1)) (c_3 : ¬ r_2 = 0) (r_4 : Int32) (er_4 : r_4 = xb (f_X11_isTrader to M_1)) (c_5 : ¬ r_4 = 0) (c_6 : ¬ (M_1 85 0 q.toNatClampNeg) = to) (c_7 : ¬ (M_1 85 0 q.toNatClampNeg) = (-1000000)) (c_8 : (M_1 88 0 q.toNatClampNeg) = 0) (M_9 : xM) (eM_9 : M_9 = xup M_1 88 0 q.toNatClampNeg (vp_nar .boolean 1)) : vp_in q 24 := by
  subst_vars
  exact xin (N := 24) (by grind [xup_at, isSheet_eq, isTown_eq, isWeek_eq, isTrader_eq, in_0s, isBank_eq, in_0_1, in_0_2, in_0_4, in_0_5, in_0_6, in_0_7, in_0_100, in_0_255, in_0_299, in_0_500, in_0_9999, in_0_99999, in_1_6, in_1_8, in_1_100, in_1_999, in_t_299, xb, isNote_eq]) (by grind [xup_at, isSheet_eq, isTown_eq, isWeek_eq, isTrader_eq, in_0s, isBank_eq, in_0_1, in_0_2, in_0_4, in_0_5, in_0_6, in_0_7, in_0_100, in_0_255, in_0_299, in_0_500, in_0_9999, in_0_99999, in_1_6, in_1_8, in_1_100, in_1_999, in_t_299, xb, isNote_eq]) (by decide)
theorem ob_X11_cut_83_in (nb nn : Nat) (q : Int32) (to : Int32) (M : xM) (hp0 : 0 ≤ M 40 0 30) (hp1 : M 40 0 30 ≤ 24) (M_1 : xM) (eM_1 : M_1 = xup M 40 0 0 0) (r_2 : Int32) (er_2 : r_2 = xb (f_X11_isNote q M_1)) (c_3 : ¬ r_2 = 0) (r_4 : Int32) (er_4 : r_4 = xb (f_X11_isTrader to M_1)) (c_5 : ¬ r_4 = 0) (c_6 : ¬ (M_1 85 0 q.toNatClampNeg) = to) (c_7 : ¬ (M_1 85 0 q.toNatClampNeg) = (-1000000)) (c_8 : (M_1 88 0 q.toNatClampNeg) = 0) (M_9 : xM) (eM_9 : M_9 = xup M_1 88 0 q.toNatClampNeg (vp_nar .boolean 1)) (M_10 : xM) (eM_10 : M_10 = xup M_9 89 0 q.toNatClampNeg (vp_nar .boolean 1)) : vp_in q 24 := by
  subst_vars
  exact xin (N := 24) (by grind [xup_at, isSheet_eq, isTown_eq, isWeek_eq, isTrader_eq, in_0s, isBank_eq, in_0_1, in_0_2, in_0_4, in_0_5, in_0_6, in_0_7, in_0_100, in_0_255, in_0_299, in_0_500, in_0_9999, in_0_99999, in_1_6, in_1_8, in_1_100, in_1_999, in_t_299, xb, isNote_eq]) (by grind [xup_at, isSheet_eq, isTown_eq, isWeek_eq, isTrader_eq, in_0s, isBank_eq, in_0_1, in_0_2, in_0_4, in_0_5, in_0_6, in_0_7, in_0_100, in_0_255, in_0_299, in_0_500, in_0_9999, in_0_99999, in_1_6, in_1_8, in_1_100, in_1_999, in_t_299, xb, isNote_eq]) (by decide)
theorem ob_X11_cut_84_in (nb nn : Nat) (q : Int32) (to : Int32) (M : xM) (hp0 : 0 ≤ M 40 0 30) (hp1 : M 40 0 30 ≤ 24) (M_1 : xM) (eM_1 : M_1 = xup M 40 0 0 0) (r_2 : Int32) (er_2 : r_2 = xb (f_X11_isNote q M_1)) (c_3 : ¬ r_2 = 0) (r_4 : Int32) (er_4 : r_4 = xb (f_X11_isTrader to M_1)) (c_5 : ¬ r_4 = 0) (c_6 : ¬ (M_1 85 0 q.toNatClampNeg) = to) (c_7 : ¬ (M_1 85 0 q.toNatClampNeg) = (-1000000)) (c_8 : (M_1 88 0 q.toNatClampNeg) = 0) (M_9 : xM) (eM_9 : M_9 = xup M_1 88 0 q.toNatClampNeg (vp_nar .boolean 1)) (M_10 : xM) (eM_10 : M_10 = xup M_9 89 0 q.toNatClampNeg (vp_nar .boolean 1)) (v_11 : Int32) (ev_11 : v_11 = (M_10 85 0 q.toNatClampNeg)) : vp_in (2 * q) 48 := by
  subst_vars
  exact xin (N := 48) (by grind [xup_at, isSheet_eq, isTown_eq, isWeek_eq, isTrader_eq, in_0s, isBank_eq, in_0_1, in_0_2, in_0_4, in_0_5, in_0_6, in_0_7, in_0_100, in_0_255, in_0_299, in_0_500, in_0_9999, in_0_99999, in_1_6, in_1_8, in_1_100, in_1_999, in_t_299, xb, isNote_eq]) (by grind [xup_at, isSheet_eq, isTown_eq, isWeek_eq, isTrader_eq, in_0s, isBank_eq, in_0_1, in_0_2, in_0_4, in_0_5, in_0_6, in_0_7, in_0_100, in_0_255, in_0_299, in_0_500, in_0_9999, in_0_99999, in_1_6, in_1_8, in_1_100, in_1_999, in_t_299, xb, isNote_eq]) (by decide)
theorem ob_X11_cut_95_in (nb nn : Nat) (q : Int32) (to : Int32) (M : xM) (hp0 : 0 ≤ M 40 0 30) (hp1 : M 40 0 30 ≤ 24) (M_1 : xM) (eM_1 : M_1 = xup M 40 0 0 0) (r_2 : Int32) (er_2 : r_2 = xb (f_X11_isNote q M_1)) (c_3 : ¬ r_2 = 0) (r_4 : Int32) (er_4 : r_4 = xb (f_X11_isTrader to M_1)) (c_5 : ¬ r_4 = 0) (c_6 : ¬ (M_1 85 0 q.toNatClampNeg) = to) (c_7 : ¬ (M_1 85 0 q.toNatClampNeg) = (-1000000)) (c_8 : (M_1 88 0 q.toNatClampNeg) = 0) (M_9 : xM) (eM_9 : M_9 = xup M_1 88 0 q.toNatClampNeg (vp_nar .boolean 1)) (M_10 : xM) (eM_10 : M_10 = xup M_9 89 0 q.toNatClampNeg (vp_nar .boolean 1)) (v_11 : Int32) (ev_11 : v_11 = (M_10 85 0 q.toNatClampNeg)) (M_12 : xM) (eM_12 : M_12 = xup M_10 90 0 (2 * q).toNatClampNeg v_11) : vp_in ((2 * q) + 1) 48 := by
  subst_vars
  exact xin (N := 48) (by grind [xup_at, isSheet_eq, isTown_eq, isWeek_eq, isTrader_eq, in_0s, isBank_eq, in_0_1, in_0_2, in_0_4, in_0_5, in_0_6, in_0_7, in_0_100, in_0_255, in_0_299, in_0_500, in_0_9999, in_0_99999, in_1_6, in_1_8, in_1_100, in_1_999, in_t_299, xb, isNote_eq]) (by grind [xup_at, isSheet_eq, isTown_eq, isWeek_eq, isTrader_eq, in_0s, isBank_eq, in_0_1, in_0_2, in_0_4, in_0_5, in_0_6, in_0_7, in_0_100, in_0_255, in_0_299, in_0_500, in_0_9999, in_0_99999, in_1_6, in_1_8, in_1_100, in_1_999, in_t_299, xb, isNote_eq]) (by decide)
theorem ob_X11_cut_103_in (nb nn : Nat) (q : Int32) (to : Int32) (M : xM) (hp0 : 0 ≤ M 40 0 30) (hp1 : M 40 0 30 ≤ 24) (M_1 : xM) (eM_1 : M_1 = xup M 40 0 0 0) (r_2 : Int32) (er_2 : r_2 = xb (f_X11_isNote q M_1)) (c_3 : ¬ r_2 = 0) (r_4 : Int32) (er_4 : r_4 = xb (f_X11_isTrader to M_1)) (c_5 : ¬ r_4 = 0) (c_6 : ¬ (M_1 85 0 q.toNatClampNeg) = to) (c_7 : ¬ (M_1 85 0 q.toNatClampNeg) = (-1000000)) (c_8 : (M_1 88 0 q.toNatClampNeg) = 0) (M_9 : xM) (eM_9 : M_9 = xup M_1 88 0 q.toNatClampNeg (vp_nar .boolean 1)) (M_10 : xM) (eM_10 : M_10 = xup M_9 89 0 q.toNatClampNeg (vp_nar .boolean 1)) (v_11 : Int32) (ev_11 : v_11 = (M_10 85 0 q.toNatClampNeg)) (M_12 : xM) (eM_12 : M_12 = xup M_10 90 0 (2 * q).toNatClampNeg v_11) (M_13 : xM) (eM_13 : M_13 = xup M_12 90 0 ((2 * q) + 1).toNatClampNeg to) : vp_in q 24 := by
  subst_vars
  exact xin (N := 24) (by grind [xup_at, isSheet_eq, isTown_eq, isWeek_eq, isTrader_eq, in_0s, isBank_eq, in_0_1, in_0_2, in_0_4, in_0_5, in_0_6, in_0_7, in_0_100, in_0_255, in_0_299, in_0_500, in_0_9999, in_0_99999, in_1_6, in_1_8, in_1_100, in_1_999, in_t_299, xb, isNote_eq]) (by grind [xup_at, isSheet_eq, isTown_eq, isWeek_eq, isTrader_eq, in_0s, isBank_eq, in_0_1, in_0_2, in_0_4, in_0_5, in_0_6, in_0_7, in_0_100, in_0_255, in_0_299, in_0_500, in_0_9999, in_0_99999, in_1_6, in_1_8, in_1_100, in_1_999, in_t_299, xb, isNote_eq]) (by decide)
theorem ob_X11_half_44_in (nb nn : Nat) (q : Int32) (h : Int32) (to : Int32) (M : xM) (hp0 : 0 ≤ M 40 0 30) (hp1 : M 40 0 30 ≤ 24) (hp2 : ∀ j : Nat, 0 ≤ M 91 0 j ∧ M 91 0 j ≤ 12) (M_1 : xM) (eM_1 : M_1 = xup M 40 0 0 0) (r_2 : Int32) (er_2 : r_2 = xb (f_X11_isNote q M_1)) (c_3 : ¬ r_2 = 0) (r_4 : Int32) (er_4 : r_4 = xb (f_X11_in (h.toInt64) 0 1 M_1)) (c_5 : ¬ r_4 = 0) (c_6 : to = (-1000000)) : vp_in q 24 := by
  subst_vars
  exact xin (N := 24) (by grind [xup_at, isSheet_eq, isTown_eq, isWeek_eq, isTrader_eq, in_0s, isBank_eq, in_0_1, in_0_2, in_0_4, in_0_5, in_0_6, in_0_7, in_0_100, in_0_255, in_0_299, in_0_500, in_0_9999, in_0_99999, in_1_6, in_1_8, in_1_100, in_1_999, in_t_299, xb, isNote_eq]) (by grind [xup_at, isSheet_eq, isTown_eq, isWeek_eq, isTrader_eq, in_0s, isBank_eq, in_0_1, in_0_2, in_0_4, in_0_5, in_0_6, in_0_7, in_0_100, in_0_255, in_0_299, in_0_500, in_0_9999, in_0_99999, in_1_6, in_1_8, in_1_100, in_1_999, in_t_299, xb, isNote_eq]) (by decide)
theorem ob_X11_half_57_in (nb nn : Nat) (q : Int32) (h : Int32) (to : Int32) (M : xM) (hp0 : 0 ≤ M 40 0 30) (hp1 : M 40 0 30 ≤ 24) (hp2 : ∀ j : Nat, 0 ≤ M 91 0 j ∧ M 91 0 j ≤ 12) (M_1 : xM) (eM_1 : M_1 = xup M 40 0 0 0) (r_2 : Int32) (er_2 : r_2 = xb (f_X11_isNote q M_1)) (c_3 : ¬ r_2 = 0) (r_4 : Int32) (er_4 : r_4 = xb (f_X11_in (h.toInt64) 0 1 M_1)) (c_5 : ¬ r_4 = 0) (c_6 : to = (-1000000)) (c_7 : ¬ (M_1 89 0 q.toNatClampNeg) = 0) : vp_in ((2 * q) + h) 48 := by
  subst_vars
  exact xin (N := 48) (by grind [xup_at, isSheet_eq, isTown_eq, isWeek_eq, isTrader_eq, in_0s, isBank_eq, in_0_1, in_0_2, in_0_4, in_0_5, in_0_6, in_0_7, in_0_100, in_0_255, in_0_299, in_0_500, in_0_9999, in_0_99999, in_1_6, in_1_8, in_1_100, in_1_999, in_t_299, xb, isNote_eq]) (by grind [xup_at, isSheet_eq, isTown_eq, isWeek_eq, isTrader_eq, in_0s, isBank_eq, in_0_1, in_0_2, in_0_4, in_0_5, in_0_6, in_0_7, in_0_100, in_0_255, in_0_299, in_0_500, in_0_9999, in_0_99999, in_1_6, in_1_8, in_1_100, in_1_999, in_t_299, xb, isNote_eq]) (by decide)
theorem ob_X11_half_77_in (nb nn : Nat) (q : Int32) (h : Int32) (to : Int32) (M : xM) (hp0 : 0 ≤ M 40 0 30) (hp1 : M 40 0 30 ≤ 24) (hp2 : ∀ j : Nat, 0 ≤ M 91 0 j ∧ M 91 0 j ≤ 12) (M_1 : xM) (eM_1 : M_1 = xup M 40 0 0 0) (r_2 : Int32) (er_2 : r_2 = xb (f_X11_isNote q M_1)) (c_3 : ¬ r_2 = 0) (r_4 : Int32) (er_4 : r_4 = xb (f_X11_in (h.toInt64) 0 1 M_1)) (c_5 : ¬ r_4 = 0) (c_6 : to = (-1000000)) (c_7 : ¬ (M_1 89 0 q.toNatClampNeg) = 0) (c_8 : ¬ (M_1 90 0 ((2 * q) + h).toNatClampNeg) = (-1000000)) : vp_in ((2 * q) + h) 48 := by
  subst_vars
  exact xin (N := 48) (by grind [xup_at, isSheet_eq, isTown_eq, isWeek_eq, isTrader_eq, in_0s, isBank_eq, in_0_1, in_0_2, in_0_4, in_0_5, in_0_6, in_0_7, in_0_100, in_0_255, in_0_299, in_0_500, in_0_9999, in_0_99999, in_1_6, in_1_8, in_1_100, in_1_999, in_t_299, xb, isNote_eq]) (by grind [xup_at, isSheet_eq, isTown_eq, isWeek_eq, isTrader_eq, in_0s, isBank_eq, in_0_1, in_0_2, in_0_4, in_0_5, in_0_6, in_0_7, in_0_100, in_0_255, in_0_299, in_0_500, in_0_9999, in_0_99999, in_1_6, in_1_8, in_1_100, in_1_999, in_t_299, xb, isNote_eq]) (by decide)
theorem ob_X11_half_89_in (nb nn : Nat) (q : Int32) (h : Int32) (to : Int32) (M : xM) (hp0 : 0 ≤ M 40 0 30) (hp1 : M 40 0 30 ≤ 24) (hp2 : ∀ j : Nat, 0 ≤ M 91 0 j ∧ M 91 0 j ≤ 12) (M_1 : xM) (eM_1 : M_1 = xup M 40 0 0 0) (r_2 : Int32) (er_2 : r_2 = xb (f_X11_isNote q M_1)) (c_3 : ¬ r_2 = 0) (r_4 : Int32) (er_4 : r_4 = xb (f_X11_in (h.toInt64) 0 1 M_1)) (c_5 : ¬ r_4 = 0) (c_6 : to = (-1000000)) (c_7 : ¬ (M_1 89 0 q.toNatClampNeg) = 0) (c_8 : ¬ (M_1 90 0 ((2 * q) + h).toNatClampNeg) = (-1000000)) (M_9 : xM) (eM_9 : M_9 = xup M_1 90 0 ((2 * q) + h).toNatClampNeg to) : vp_in (((2 * q) + 1) - h) 48 := by
  subst_vars
  exact xin (N := 48) (by grind [xup_at, isSheet_eq, isTown_eq, isWeek_eq, isTrader_eq, in_0s, isBank_eq, in_0_1, in_0_2, in_0_4, in_0_5, in_0_6, in_0_7, in_0_100, in_0_255, in_0_299, in_0_500, in_0_9999, in_0_99999, in_1_6, in_1_8, in_1_100, in_1_999, in_t_299, xb, isNote_eq]) (by grind [xup_at, isSheet_eq, isTown_eq, isWeek_eq, isTrader_eq, in_0s, isBank_eq, in_0_1, in_0_2, in_0_4, in_0_5, in_0_6, in_0_7, in_0_100, in_0_255, in_0_299, in_0_500, in_0_9999, in_0_99999, in_1_6, in_1_8, in_1_100, in_1_999, in_t_299, xb, isNote_eq]) (by decide)
theorem ob_X11_half_130_in (nb nn : Nat) (q : Int32) (h : Int32) (to : Int32) (M : xM) (hp0 : 0 ≤ M 40 0 30) (hp1 : M 40 0 30 ≤ 24) (hp2 : ∀ j : Nat, 0 ≤ M 91 0 j ∧ M 91 0 j ≤ 12) (M_1 : xM) (eM_1 : M_1 = xup M 40 0 0 0) (r_2 : Int32) (er_2 : r_2 = xb (f_X11_isNote q M_1)) (c_3 : ¬ r_2 = 0) (r_4 : Int32) (er_4 : r_4 = xb (f_X11_in (h.toInt64) 0 1 M_1)) (c_5 : ¬ r_4 = 0) (c_6 : to = (-1000000)) (c_7 : ¬ (M_1 89 0 q.toNatClampNeg) = 0) (c_8 : ¬ (M_1 90 0 ((2 * q) + h).toNatClampNeg) = (-1000000)) (M_9 : xM) (eM_9 : M_9 = xup M_1 90 0 ((2 * q) + h).toNatClampNeg to) (x4_10 : Int32) (ex4_10 : x4_10 = (M_9 90 0 (((2 * q) + 1) - h).toNatClampNeg)) (c_11 : x4_10 = to) : vp_in q 24 := by
  subst_vars
  exact xin (N := 24) (by grind [xup_at, isSheet_eq, isTown_eq, isWeek_eq, isTrader_eq, in_0s, isBank_eq, in_0_1, in_0_2, in_0_4, in_0_5, in_0_6, in_0_7, in_0_100, in_0_255, in_0_299, in_0_500, in_0_9999, in_0_99999, in_1_6, in_1_8, in_1_100, in_1_999, in_t_299, xb, isNote_eq]) (by grind [xup_at, isSheet_eq, isTown_eq, isWeek_eq, isTrader_eq, in_0s, isBank_eq, in_0_1, in_0_2, in_0_4, in_0_5, in_0_6, in_0_7, in_0_100, in_0_255, in_0_299, in_0_500, in_0_9999, in_0_99999, in_1_6, in_1_8, in_1_100, in_1_999, in_t_299, xb, isNote_eq]) (by decide)
theorem ob_X11_half_143_in (nb nn : Nat) (q : Int32) (h : Int32) (to : Int32) (M : xM) (hp0 : 0 ≤ M 40 0 30) (hp1 : M 40 0 30 ≤ 24) (hp2 : ∀ j : Nat, 0 ≤ M 91 0 j ∧ M 91 0 j ≤ 12) (M_1 : xM) (eM_1 : M_1 = xup M 40 0 0 0) (r_2 : Int32) (er_2 : r_2 = xb (f_X11_isNote q M_1)) (c_3 : ¬ r_2 = 0) (r_4 : Int32) (er_4 : r_4 = xb (f_X11_in (h.toInt64) 0 1 M_1)) (c_5 : ¬ r_4 = 0) (c_6 : to = (-1000000)) (c_7 : ¬ (M_1 89 0 q.toNatClampNeg) = 0) (c_8 : ¬ (M_1 90 0 ((2 * q) + h).toNatClampNeg) = (-1000000)) (M_9 : xM) (eM_9 : M_9 = xup M_1 90 0 ((2 * q) + h).toNatClampNeg to) (x4_10 : Int32) (ex4_10 : x4_10 = (M_9 90 0 (((2 * q) + 1) - h).toNatClampNeg)) (c_11 : x4_10 = to) (M_12 : xM) (eM_12 : M_12 = xup M_9 89 0 q.toNatClampNeg (vp_nar .boolean 0)) : vp_in q 24 := by
  subst_vars
  exact xin (N := 24) (by grind [xup_at, isSheet_eq, isTown_eq, isWeek_eq, isTrader_eq, in_0s, isBank_eq, in_0_1, in_0_2, in_0_4, in_0_5, in_0_6, in_0_7, in_0_100, in_0_255, in_0_299, in_0_500, in_0_9999, in_0_99999, in_1_6, in_1_8, in_1_100, in_1_999, in_t_299, xb, isNote_eq]) (by grind [xup_at, isSheet_eq, isTown_eq, isWeek_eq, isTrader_eq, in_0s, isBank_eq, in_0_1, in_0_2, in_0_4, in_0_5, in_0_6, in_0_7, in_0_100, in_0_255, in_0_299, in_0_500, in_0_9999, in_0_99999, in_1_6, in_1_8, in_1_100, in_1_999, in_t_299, xb, isNote_eq]) (by decide)
theorem ob_X11_half_116_in (nb nn : Nat) (q : Int32) (h : Int32) (to : Int32) (M : xM) (hp0 : 0 ≤ M 40 0 30) (hp1 : M 40 0 30 ≤ 24) (hp2 : ∀ j : Nat, 0 ≤ M 91 0 j ∧ M 91 0 j ≤ 12) (M_1 : xM) (eM_1 : M_1 = xup M 40 0 0 0) (r_2 : Int32) (er_2 : r_2 = xb (f_X11_isNote q M_1)) (c_3 : ¬ r_2 = 0) (r_4 : Int32) (er_4 : r_4 = xb (f_X11_in (h.toInt64) 0 1 M_1)) (c_5 : ¬ r_4 = 0) (c_6 : to = (-1000000)) (c_7 : ¬ (M_1 89 0 q.toNatClampNeg) = 0) (c_8 : ¬ (M_1 90 0 ((2 * q) + h).toNatClampNeg) = (-1000000)) (M_9 : xM) (eM_9 : M_9 = xup M_1 90 0 ((2 * q) + h).toNatClampNeg to) (x4_10 : Int32) (ex4_10 : x4_10 = (M_9 90 0 (((2 * q) + 1) - h).toNatClampNeg)) (c_11 : ¬ x4_10 = to) : vp_in q 24 := by
  subst_vars
  exact xin (N := 24) (by grind [xup_at, isSheet_eq, isTown_eq, isWeek_eq, isTrader_eq, in_0s, isBank_eq, in_0_1, in_0_2, in_0_4, in_0_5, in_0_6, in_0_7, in_0_100, in_0_255, in_0_299, in_0_500, in_0_9999, in_0_99999, in_1_6, in_1_8, in_1_100, in_1_999, in_t_299, xb, isNote_eq]) (by grind [xup_at, isSheet_eq, isTown_eq, isWeek_eq, isTrader_eq, in_0s, isBank_eq, in_0_1, in_0_2, in_0_4, in_0_5, in_0_6, in_0_7, in_0_100, in_0_255, in_0_299, in_0_500, in_0_9999, in_0_99999, in_1_6, in_1_8, in_1_100, in_1_999, in_t_299, xb, isNote_eq]) (by decide)
theorem ob_X11_half_44_in_2 (nb nn : Nat) (q : Int32) (h : Int32) (to : Int32) (M : xM) (hp0 : 0 ≤ M 40 0 30) (hp1 : M 40 0 30 ≤ 24) (hp2 : ∀ j : Nat, 0 ≤ M 91 0 j ∧ M 91 0 j ≤ 12) (M_1 : xM) (eM_1 : M_1 = xup M 40 0 0 0) (r_2 : Int32) (er_2 : r_2 = xb (f_X11_isNote q M_1)) (c_3 : ¬ r_2 = 0) (r_4 : Int32) (er_4 : r_4 = xb (f_X11_in (h.toInt64) 0 1 M_1)) (c_5 : ¬ r_4 = 0) (c_6 : ¬ to = (-1000000)) (r_16 : Int32) (er_16 : r_16 = xb (f_X11_isTrader to M_1)) (c_17 : ¬ r_16 = 0) : vp_in q 24 := by
  subst_vars
  exact xin (N := 24) (by grind [xup_at, isSheet_eq, isTown_eq, isWeek_eq, isTrader_eq, in_0s, isBank_eq, in_0_1, in_0_2, in_0_4, in_0_5, in_0_6, in_0_7, in_0_100, in_0_255, in_0_299, in_0_500, in_0_9999, in_0_99999, in_1_6, in_1_8, in_1_100, in_1_999, in_t_299, xb, isNote_eq]) (by grind [xup_at, isSheet_eq, isTown_eq, isWeek_eq, isTrader_eq, in_0s, isBank_eq, in_0_1, in_0_2, in_0_4, in_0_5, in_0_6, in_0_7, in_0_100, in_0_255, in_0_299, in_0_500, in_0_9999, in_0_99999, in_1_6, in_1_8, in_1_100, in_1_999, in_t_299, xb, isNote_eq]) (by decide)
theorem ob_X11_half_57_in_2 (nb nn : Nat) (q : Int32) (h : Int32) (to : Int32) (M : xM) (hp0 : 0 ≤ M 40 0 30) (hp1 : M 40 0 30 ≤ 24) (hp2 : ∀ j : Nat, 0 ≤ M 91 0 j ∧ M 91 0 j ≤ 12) (M_1 : xM) (eM_1 : M_1 = xup M 40 0 0 0) (r_2 : Int32) (er_2 : r_2 = xb (f_X11_isNote q M_1)) (c_3 : ¬ r_2 = 0) (r_4 : Int32) (er_4 : r_4 = xb (f_X11_in (h.toInt64) 0 1 M_1)) (c_5 : ¬ r_4 = 0) (c_6 : ¬ to = (-1000000)) (r_16 : Int32) (er_16 : r_16 = xb (f_X11_isTrader to M_1)) (c_17 : ¬ r_16 = 0) (c_18 : ¬ (M_1 89 0 q.toNatClampNeg) = 0) : vp_in ((2 * q) + h) 48 := by
  subst_vars
  exact xin (N := 48) (by grind [xup_at, isSheet_eq, isTown_eq, isWeek_eq, isTrader_eq, in_0s, isBank_eq, in_0_1, in_0_2, in_0_4, in_0_5, in_0_6, in_0_7, in_0_100, in_0_255, in_0_299, in_0_500, in_0_9999, in_0_99999, in_1_6, in_1_8, in_1_100, in_1_999, in_t_299, xb, isNote_eq]) (by grind [xup_at, isSheet_eq, isTown_eq, isWeek_eq, isTrader_eq, in_0s, isBank_eq, in_0_1, in_0_2, in_0_4, in_0_5, in_0_6, in_0_7, in_0_100, in_0_255, in_0_299, in_0_500, in_0_9999, in_0_99999, in_1_6, in_1_8, in_1_100, in_1_999, in_t_299, xb, isNote_eq]) (by decide)
theorem ob_X11_half_77_in_2 (nb nn : Nat) (q : Int32) (h : Int32) (to : Int32) (M : xM) (hp0 : 0 ≤ M 40 0 30) (hp1 : M 40 0 30 ≤ 24) (hp2 : ∀ j : Nat, 0 ≤ M 91 0 j ∧ M 91 0 j ≤ 12) (M_1 : xM) (eM_1 : M_1 = xup M 40 0 0 0) (r_2 : Int32) (er_2 : r_2 = xb (f_X11_isNote q M_1)) (c_3 : ¬ r_2 = 0) (r_4 : Int32) (er_4 : r_4 = xb (f_X11_in (h.toInt64) 0 1 M_1)) (c_5 : ¬ r_4 = 0) (c_6 : ¬ to = (-1000000)) (r_16 : Int32) (er_16 : r_16 = xb (f_X11_isTrader to M_1)) (c_17 : ¬ r_16 = 0) (c_18 : ¬ (M_1 89 0 q.toNatClampNeg) = 0) (c_19 : ¬ (M_1 90 0 ((2 * q) + h).toNatClampNeg) = (-1000000)) : vp_in ((2 * q) + h) 48 := by
  subst_vars
  exact xin (N := 48) (by grind [xup_at, isSheet_eq, isTown_eq, isWeek_eq, isTrader_eq, in_0s, isBank_eq, in_0_1, in_0_2, in_0_4, in_0_5, in_0_6, in_0_7, in_0_100, in_0_255, in_0_299, in_0_500, in_0_9999, in_0_99999, in_1_6, in_1_8, in_1_100, in_1_999, in_t_299, xb, isNote_eq]) (by grind [xup_at, isSheet_eq, isTown_eq, isWeek_eq, isTrader_eq, in_0s, isBank_eq, in_0_1, in_0_2, in_0_4, in_0_5, in_0_6, in_0_7, in_0_100, in_0_255, in_0_299, in_0_500, in_0_9999, in_0_99999, in_1_6, in_1_8, in_1_100, in_1_999, in_t_299, xb, isNote_eq]) (by decide)
theorem ob_X11_half_89_in_2 (nb nn : Nat) (q : Int32) (h : Int32) (to : Int32) (M : xM) (hp0 : 0 ≤ M 40 0 30) (hp1 : M 40 0 30 ≤ 24) (hp2 : ∀ j : Nat, 0 ≤ M 91 0 j ∧ M 91 0 j ≤ 12) (M_1 : xM) (eM_1 : M_1 = xup M 40 0 0 0) (r_2 : Int32) (er_2 : r_2 = xb (f_X11_isNote q M_1)) (c_3 : ¬ r_2 = 0) (r_4 : Int32) (er_4 : r_4 = xb (f_X11_in (h.toInt64) 0 1 M_1)) (c_5 : ¬ r_4 = 0) (c_6 : ¬ to = (-1000000)) (r_16 : Int32) (er_16 : r_16 = xb (f_X11_isTrader to M_1)) (c_17 : ¬ r_16 = 0) (c_18 : ¬ (M_1 89 0 q.toNatClampNeg) = 0) (c_19 : ¬ (M_1 90 0 ((2 * q) + h).toNatClampNeg) = (-1000000)) (M_20 : xM) (eM_20 : M_20 = xup M_1 90 0 ((2 * q) + h).toNatClampNeg to) : vp_in (((2 * q) + 1) - h) 48 := by
  subst_vars
  exact xin (N := 48) (by grind [xup_at, isSheet_eq, isTown_eq, isWeek_eq, isTrader_eq, in_0s, isBank_eq, in_0_1, in_0_2, in_0_4, in_0_5, in_0_6, in_0_7, in_0_100, in_0_255, in_0_299, in_0_500, in_0_9999, in_0_99999, in_1_6, in_1_8, in_1_100, in_1_999, in_t_299, xb, isNote_eq]) (by grind [xup_at, isSheet_eq, isTown_eq, isWeek_eq, isTrader_eq, in_0s, isBank_eq, in_0_1, in_0_2, in_0_4, in_0_5, in_0_6, in_0_7, in_0_100, in_0_255, in_0_299, in_0_500, in_0_9999, in_0_99999, in_1_6, in_1_8, in_1_100, in_1_999, in_t_299, xb, isNote_eq]) (by decide)
theorem ob_X11_half_130_in_2 (nb nn : Nat) (q : Int32) (h : Int32) (to : Int32) (M : xM) (hp0 : 0 ≤ M 40 0 30) (hp1 : M 40 0 30 ≤ 24) (hp2 : ∀ j : Nat, 0 ≤ M 91 0 j ∧ M 91 0 j ≤ 12) (M_1 : xM) (eM_1 : M_1 = xup M 40 0 0 0) (r_2 : Int32) (er_2 : r_2 = xb (f_X11_isNote q M_1)) (c_3 : ¬ r_2 = 0) (r_4 : Int32) (er_4 : r_4 = xb (f_X11_in (h.toInt64) 0 1 M_1)) (c_5 : ¬ r_4 = 0) (c_6 : ¬ to = (-1000000)) (r_16 : Int32) (er_16 : r_16 = xb (f_X11_isTrader to M_1)) (c_17 : ¬ r_16 = 0) (c_18 : ¬ (M_1 89 0 q.toNatClampNeg) = 0) (c_19 : ¬ (M_1 90 0 ((2 * q) + h).toNatClampNeg) = (-1000000)) (M_20 : xM) (eM_20 : M_20 = xup M_1 90 0 ((2 * q) + h).toNatClampNeg to) (x4_21 : Int32) (ex4_21 : x4_21 = (M_20 90 0 (((2 * q) + 1) - h).toNatClampNeg)) (c_22 : x4_21 = to) : vp_in q 24 := by
  subst_vars
  exact xin (N := 24) (by grind [xup_at, isSheet_eq, isTown_eq, isWeek_eq, isTrader_eq, in_0s, isBank_eq, in_0_1, in_0_2, in_0_4, in_0_5, in_0_6, in_0_7, in_0_100, in_0_255, in_0_299, in_0_500, in_0_9999, in_0_99999, in_1_6, in_1_8, in_1_100, in_1_999, in_t_299, xb, isNote_eq]) (by grind [xup_at, isSheet_eq, isTown_eq, isWeek_eq, isTrader_eq, in_0s, isBank_eq, in_0_1, in_0_2, in_0_4, in_0_5, in_0_6, in_0_7, in_0_100, in_0_255, in_0_299, in_0_500, in_0_9999, in_0_99999, in_1_6, in_1_8, in_1_100, in_1_999, in_t_299, xb, isNote_eq]) (by decide)
theorem ob_X11_half_149_p0 (nb nn : Nat) (q : Int32) (h : Int32) (to : Int32) (M : xM) (hp0 : 0 ≤ M 40 0 30) (hp1 : M 40 0 30 ≤ 24) (hp2 : ∀ j : Nat, 0 ≤ M 91 0 j ∧ M 91 0 j ≤ 12) (M_1 : xM) (eM_1 : M_1 = xup M 40 0 0 0) (r_2 : Int32) (er_2 : r_2 = xb (f_X11_isNote q M_1)) (c_3 : ¬ r_2 = 0) (r_4 : Int32) (er_4 : r_4 = xb (f_X11_in (h.toInt64) 0 1 M_1)) (c_5 : ¬ r_4 = 0) (c_6 : ¬ to = (-1000000)) (r_16 : Int32) (er_16 : r_16 = xb (f_X11_isTrader to M_1)) (c_17 : ¬ r_16 = 0) (c_18 : ¬ (M_1 89 0 q.toNatClampNeg) = 0) (c_19 : ¬ (M_1 90 0 ((2 * q) + h).toNatClampNeg) = (-1000000)) (M_20 : xM) (eM_20 : M_20 = xup M_1 90 0 ((2 * q) + h).toNatClampNeg to) (x4_21 : Int32) (ex4_21 : x4_21 = (M_20 90 0 (((2 * q) + 1) - h).toNatClampNeg)) (c_22 : x4_21 = to) (M_23 : xM) (eM_23 : M_23 = xup M_20 89 0 q.toNatClampNeg (vp_nar .boolean 0)) : 0 ≤ q := by
  subst_vars
  grind [xup_at, isSheet_eq, isTown_eq, isWeek_eq, isTrader_eq, in_0s, isBank_eq, in_0_1, in_0_2, in_0_4, in_0_5, in_0_6, in_0_7, in_0_100, in_0_255, in_0_299, in_0_500, in_0_9999, in_0_99999, in_1_6, in_1_8, in_1_100, in_1_999, in_t_299, xb, isNote_eq]
theorem ob_X11_half_149_p1 (nb nn : Nat) (q : Int32) (h : Int32) (to : Int32) (M : xM) (hp0 : 0 ≤ M 40 0 30) (hp1 : M 40 0 30 ≤ 24) (hp2 : ∀ j : Nat, 0 ≤ M 91 0 j ∧ M 91 0 j ≤ 12) (M_1 : xM) (eM_1 : M_1 = xup M 40 0 0 0) (r_2 : Int32) (er_2 : r_2 = xb (f_X11_isNote q M_1)) (c_3 : ¬ r_2 = 0) (r_4 : Int32) (er_4 : r_4 = xb (f_X11_in (h.toInt64) 0 1 M_1)) (c_5 : ¬ r_4 = 0) (c_6 : ¬ to = (-1000000)) (r_16 : Int32) (er_16 : r_16 = xb (f_X11_isTrader to M_1)) (c_17 : ¬ r_16 = 0) (c_18 : ¬ (M_1 89 0 q.toNatClampNeg) = 0) (c_19 : ¬ (M_1 90 0 ((2 * q) + h).toNatClampNeg) = (-1000000)) (M_20 : xM) (eM_20 : M_20 = xup M_1 90 0 ((2 * q) + h).toNatClampNeg to) (x4_21 : Int32) (ex4_21 : x4_21 = (M_20 90 0 (((2 * q) + 1) - h).toNatClampNeg)) (c_22 : x4_21 = to) (M_23 : xM) (eM_23 : M_23 = xup M_20 89 0 q.toNatClampNeg (vp_nar .boolean 0)) : q < 24 := by
  subst_vars
  grind [xup_at, isSheet_eq, isTown_eq, isWeek_eq, isTrader_eq, in_0s, isBank_eq, in_0_1, in_0_2, in_0_4, in_0_5, in_0_6, in_0_7, in_0_100, in_0_255, in_0_299, in_0_500, in_0_9999, in_0_99999, in_1_6, in_1_8, in_1_100, in_1_999, in_t_299, xb, isNote_eq]
theorem ob_X11_half_149_p2 (nb nn : Nat) (q : Int32) (h : Int32) (to : Int32) (M : xM) (hp0 : 0 ≤ M 40 0 30) (hp1 : M 40 0 30 ≤ 24) (hp2 : ∀ j : Nat, 0 ≤ M 91 0 j ∧ M 91 0 j ≤ 12) (M_1 : xM) (eM_1 : M_1 = xup M 40 0 0 0) (r_2 : Int32) (er_2 : r_2 = xb (f_X11_isNote q M_1)) (c_3 : ¬ r_2 = 0) (r_4 : Int32) (er_4 : r_4 = xb (f_X11_in (h.toInt64) 0 1 M_1)) (c_5 : ¬ r_4 = 0) (c_6 : ¬ to = (-1000000)) (r_16 : Int32) (er_16 : r_16 = xb (f_X11_isTrader to M_1)) (c_17 : ¬ r_16 = 0) (c_18 : ¬ (M_1 89 0 q.toNatClampNeg) = 0) (c_19 : ¬ (M_1 90 0 ((2 * q) + h).toNatClampNeg) = (-1000000)) (M_20 : xM) (eM_20 : M_20 = xup M_1 90 0 ((2 * q) + h).toNatClampNeg to) (x4_21 : Int32) (ex4_21 : x4_21 = (M_20 90 0 (((2 * q) + 1) - h).toNatClampNeg)) (c_22 : x4_21 = to) (M_23 : xM) (eM_23 : M_23 = xup M_20 89 0 q.toNatClampNeg (vp_nar .boolean 0)) : ∀ j : Nat, 0 ≤ M_23 91 0 j ∧ M_23 91 0 j ≤ 12 := by
  subst_vars
  grind [xup_at, isSheet_eq, isTown_eq, isWeek_eq, isTrader_eq, in_0s, isBank_eq, in_0_1, in_0_2, in_0_4, in_0_5, in_0_6, in_0_7, in_0_100, in_0_255, in_0_299, in_0_500, in_0_9999, in_0_99999, in_1_6, in_1_8, in_1_100, in_1_999, in_t_299, xb, isNote_eq]
theorem ob_X11_half_157_in (nb nn : Nat) (q : Int32) (h : Int32) (to : Int32) (M : xM) (hp0 : 0 ≤ M 40 0 30) (hp1 : M 40 0 30 ≤ 24) (hp2 : ∀ j : Nat, 0 ≤ M 91 0 j ∧ M 91 0 j ≤ 12) (M_1 : xM) (eM_1 : M_1 = xup M 40 0 0 0) (r_2 : Int32) (er_2 : r_2 = xb (f_X11_isNote q M_1)) (c_3 : ¬ r_2 = 0) (r_4 : Int32) (er_4 : r_4 = xb (f_X11_in (h.toInt64) 0 1 M_1)) (c_5 : ¬ r_4 = 0) (c_6 : ¬ to = (-1000000)) (r_16 : Int32) (er_16 : r_16 = xb (f_X11_isTrader to M_1)) (c_17 : ¬ r_16 = 0) (c_18 : ¬ (M_1 89 0 q.toNatClampNeg) = 0) (c_19 : ¬ (M_1 90 0 ((2 * q) + h).toNatClampNeg) = (-1000000)) (M_20 : xM) (eM_20 : M_20 = xup M_1 90 0 ((2 * q) + h).toNatClampNeg to) (x4_21 : Int32) (ex4_21 : x4_21 = (M_20 90 0 (((2 * q) + 1) - h).toNatClampNeg)) (c_22 : x4_21 = to) (M_23 : xM) (eM_23 : M_23 = xup M_20 89 0 q.toNatClampNeg (vp_nar .boolean 0)) (M_26 : xM) (eM_26 : M_26 = f_X11_comeTo q to M_23) : vp_in q 24 := by
  subst_vars
  exact xin (N := 24) (by grind [xup_at, isSheet_eq, isTown_eq, isWeek_eq, isTrader_eq, in_0s, isBank_eq, in_0_1, in_0_2, in_0_4, in_0_5, in_0_6, in_0_7, in_0_100, in_0_255, in_0_299, in_0_500, in_0_9999, in_0_99999, in_1_6, in_1_8, in_1_100, in_1_999, in_t_299, xb, isNote_eq]) (by grind [xup_at, isSheet_eq, isTown_eq, isWeek_eq, isTrader_eq, in_0s, isBank_eq, in_0_1, in_0_2, in_0_4, in_0_5, in_0_6, in_0_7, in_0_100, in_0_255, in_0_299, in_0_500, in_0_9999, in_0_99999, in_1_6, in_1_8, in_1_100, in_1_999, in_t_299, xb, isNote_eq]) (by decide)
theorem ob_X11_half_116_in_2 (nb nn : Nat) (q : Int32) (h : Int32) (to : Int32) (M : xM) (hp0 : 0 ≤ M 40 0 30) (hp1 : M 40 0 30 ≤ 24) (hp2 : ∀ j : Nat, 0 ≤ M 91 0 j ∧ M 91 0 j ≤ 12) (M_1 : xM) (eM_1 : M_1 = xup M 40 0 0 0) (r_2 : Int32) (er_2 : r_2 = xb (f_X11_isNote q M_1)) (c_3 : ¬ r_2 = 0) (r_4 : Int32) (er_4 : r_4 = xb (f_X11_in (h.toInt64) 0 1 M_1)) (c_5 : ¬ r_4 = 0) (c_6 : ¬ to = (-1000000)) (r_16 : Int32) (er_16 : r_16 = xb (f_X11_isTrader to M_1)) (c_17 : ¬ r_16 = 0) (c_18 : ¬ (M_1 89 0 q.toNatClampNeg) = 0) (c_19 : ¬ (M_1 90 0 ((2 * q) + h).toNatClampNeg) = (-1000000)) (M_20 : xM) (eM_20 : M_20 = xup M_1 90 0 ((2 * q) + h).toNatClampNeg to) (x4_21 : Int32) (ex4_21 : x4_21 = (M_20 90 0 (((2 * q) + 1) - h).toNatClampNeg)) (c_22 : ¬ x4_21 = to) (c_28 : x4_21 = (-1000000)) : vp_in q 24 := by
  subst_vars
  exact xin (N := 24) (by grind [xup_at, isSheet_eq, isTown_eq, isWeek_eq, isTrader_eq, in_0s, isBank_eq, in_0_1, in_0_2, in_0_4, in_0_5, in_0_6, in_0_7, in_0_100, in_0_255, in_0_299, in_0_500, in_0_9999, in_0_99999, in_1_6, in_1_8, in_1_100, in_1_999, in_t_299, xb, isNote_eq]) (by grind [xup_at, isSheet_eq, isTown_eq, isWeek_eq, isTrader_eq, in_0s, isBank_eq, in_0_1, in_0_2, in_0_4, in_0_5, in_0_6, in_0_7, in_0_100, in_0_255, in_0_299, in_0_500, in_0_9999, in_0_99999, in_1_6, in_1_8, in_1_100, in_1_999, in_t_299, xb, isNote_eq]) (by decide)
theorem ob_X11_bears_81_x52 (nb nn : Nat) (q : Int32) (weeks : Int32) (M : xM) (hp0 : 0 ≤ M 40 0 30) (hp1 : M 40 0 30 ≤ 24) (hp2 : ∀ j : Nat, 0 ≤ M 91 0 j ∧ M 91 0 j ≤ 12) (hp3 : ∀ j : Int32, 0 ≤ j → j < M 40 0 30 → 1 ≤ M 91 0 j.toNatClampNeg) (n : Nat) (at_ : Int32) (N_ : xM) (hmu : xmu (12 * q) at_ < n + 1) (hinv : 0 ≤ q ∧ q < 24 ∧ 0 ≤ at_ ∧ at_ < 288) (c_1 : at_ ≤ (12 * q)) : 0 ≤ q ∧ q < 24 ∧ 0 ≤ at_ ∧ at_ < 288 := by
  subst_vars
  grind [xup_at, isSheet_eq, isTown_eq, isWeek_eq, isTrader_eq, in_0s, isBank_eq, in_0_1, in_0_2, in_0_4, in_0_5, in_0_6, in_0_7, in_0_100, in_0_255, in_0_299, in_0_500, in_0_9999, in_0_99999, in_1_6, in_1_8, in_1_100, in_1_999, in_t_299, xb, isNote_eq]
theorem ob_X11_bears_69_in (nb nn : Nat) (q : Int32) (weeks : Int32) (M : xM) (hp0 : 0 ≤ M 40 0 30) (hp1 : M 40 0 30 ≤ 24) (hp2 : ∀ j : Nat, 0 ≤ M 91 0 j ∧ M 91 0 j ≤ 12) (hp3 : ∀ j : Int32, 0 ≤ j → j < M 40 0 30 → 1 ≤ M 91 0 j.toNatClampNeg) (n : Nat) (at_ : Int32) (N_ : xM) (hmu : xmu (12 * q) at_ < n + 1) (hinv : 0 ≤ q ∧ q < 24 ∧ 0 ≤ at_ ∧ at_ < 288) (c_1 : ¬ at_ ≤ (12 * q)) : vp_in at_ 288 := by
  subst_vars
  exact xin (N := 288) (by grind [xup_at, isSheet_eq, isTown_eq, isWeek_eq, isTrader_eq, in_0s, isBank_eq, in_0_1, in_0_2, in_0_4, in_0_5, in_0_6, in_0_7, in_0_100, in_0_255, in_0_299, in_0_500, in_0_9999, in_0_99999, in_1_6, in_1_8, in_1_100, in_1_999, in_t_299, xb, isNote_eq]) (by grind [xup_at, isSheet_eq, isTown_eq, isWeek_eq, isTrader_eq, in_0s, isBank_eq, in_0_1, in_0_2, in_0_4, in_0_5, in_0_6, in_0_7, in_0_100, in_0_255, in_0_299, in_0_500, in_0_9999, in_0_99999, in_1_6, in_1_8, in_1_100, in_1_999, in_t_299, xb, isNote_eq]) (by decide)
theorem ob_X11_bears_81_x52_2 (nb nn : Nat) (q : Int32) (weeks : Int32) (M : xM) (hp0 : 0 ≤ M 40 0 30) (hp1 : M 40 0 30 ≤ 24) (hp2 : ∀ j : Nat, 0 ≤ M 91 0 j ∧ M 91 0 j ≤ 12) (hp3 : ∀ j : Int32, 0 ≤ j → j < M 40 0 30 → 1 ≤ M 91 0 j.toNatClampNeg) (n : Nat) (at_ : Int32) (N_ : xM) (hmu : xmu (12 * q) at_ < n + 1) (hinv : 0 ≤ q ∧ q < 24 ∧ 0 ≤ at_ ∧ at_ < 288) (c_1 : ¬ at_ ≤ (12 * q)) (c_2 : weeks < ((N_ 40 0 13) - (N_ 93 0 at_.toNatClampNeg))) : 0 ≤ q ∧ q < 24 ∧ 0 ≤ at_ ∧ at_ < 288 := by
  subst_vars
  grind [xup_at, isSheet_eq, isTown_eq, isWeek_eq, isTrader_eq, in_0s, isBank_eq, in_0_1, in_0_2, in_0_4, in_0_5, in_0_6, in_0_7, in_0_100, in_0_255, in_0_299, in_0_500, in_0_9999, in_0_99999, in_1_6, in_1_8, in_1_100, in_1_999, in_t_299, xb, isNote_eq]
theorem ob_X11_bears_52_mu_3 (nb nn : Nat) (q : Int32) (weeks : Int32) (M : xM) (hp0 : 0 ≤ M 40 0 30) (hp1 : M 40 0 30 ≤ 24) (hp2 : ∀ j : Nat, 0 ≤ M 91 0 j ∧ M 91 0 j ≤ 12) (hp3 : ∀ j : Int32, 0 ≤ j → j < M 40 0 30 → 1 ≤ M 91 0 j.toNatClampNeg) (n : Nat) (at_ : Int32) (N_ : xM) (hmu : xmu (12 * q) at_ < n + 1) (hinv : 0 ≤ q ∧ q < 24 ∧ 0 ≤ at_ ∧ at_ < 288) (c_1 : ¬ at_ ≤ (12 * q)) (c_2 : ¬ weeks < ((N_ 40 0 13) - (N_ 93 0 at_.toNatClampNeg))) (x3_3 : Int32) (ex3_3 : x3_3 = at_ + (-1)) : xmu (12 * q) x3_3 < n := by
  subst_vars
  have h9 := xmu_dn (a := at_) (b := (12 * q)) (by grind)
  (try simp [xup_at])
  omega
theorem ob_X11_bears_52_inv_3 (nb nn : Nat) (q : Int32) (weeks : Int32) (M : xM) (hp0 : 0 ≤ M 40 0 30) (hp1 : M 40 0 30 ≤ 24) (hp2 : ∀ j : Nat, 0 ≤ M 91 0 j ∧ M 91 0 j ≤ 12) (hp3 : ∀ j : Int32, 0 ≤ j → j < M 40 0 30 → 1 ≤ M 91 0 j.toNatClampNeg) (n : Nat) (at_ : Int32) (N_ : xM) (hmu : xmu (12 * q) at_ < n + 1) (hinv : 0 ≤ q ∧ q < 24 ∧ 0 ≤ at_ ∧ at_ < 288) (c_1 : ¬ at_ ≤ (12 * q)) (c_2 : ¬ weeks < ((N_ 40 0 13) - (N_ 93 0 at_.toNatClampNeg))) (x3_3 : Int32) (ex3_3 : x3_3 = at_ + (-1)) : 0 ≤ q ∧ q < 24 ∧ 0 ≤ x3_3 ∧ x3_3 < 288 := by
  obtain ⟨h1, h2, h3, h4⟩ := hinv
  clear hp0 hp1 hp2 hp3 hmu c_2
  subst_vars
  have h5 : 0 < at_ := by grind
  exact ⟨h1, h2, by grind, by grind⟩
theorem ob_X11_bears_28_in (nb nn : Nat) (q : Int32) (weeks : Int32) (M : xM) (hp0 : 0 ≤ M 40 0 30) (hp1 : M 40 0 30 ≤ 24) (hp2 : ∀ j : Nat, 0 ≤ M 91 0 j ∧ M 91 0 j ≤ 12) (hp3 : ∀ j : Int32, 0 ≤ j → j < M 40 0 30 → 1 ≤ M 91 0 j.toNatClampNeg) (M_4 : xM) (eM_4 : M_4 = xup M 40 0 0 0) (r_5 : Int32) (er_5 : r_5 = xb (f_X11_isNote q M_4)) (c_6 : ¬ r_5 = 0) (r_7 : Int32) (er_7 : r_7 = xb (f_X11_isWeek weeks M_4)) (c_8 : ¬ r_7 = 0) : vp_in q 24 := by
  subst_vars
  exact xin (N := 24) (by grind [xup_at, isSheet_eq, isTown_eq, isWeek_eq, isTrader_eq, in_0s, isBank_eq, in_0_1, in_0_2, in_0_4, in_0_5, in_0_6, in_0_7, in_0_100, in_0_255, in_0_299, in_0_500, in_0_9999, in_0_99999, in_1_6, in_1_8, in_1_100, in_1_999, in_t_299, xb, isNote_eq]) (by grind [xup_at, isSheet_eq, isTown_eq, isWeek_eq, isTrader_eq, in_0s, isBank_eq, in_0_1, in_0_2, in_0_4, in_0_5, in_0_6, in_0_7, in_0_100, in_0_255, in_0_299, in_0_500, in_0_9999, in_0_99999, in_1_6, in_1_8, in_1_100, in_1_999, in_t_299, xb, isNote_eq]) (by decide)
theorem ob_X11_bears_47_in (nb nn : Nat) (q : Int32) (weeks : Int32) (M : xM) (hp0 : 0 ≤ M 40 0 30) (hp1 : M 40 0 30 ≤ 24) (hp2 : ∀ j : Nat, 0 ≤ M 91 0 j ∧ M 91 0 j ≤ 12) (hp3 : ∀ j : Int32, 0 ≤ j → j < M 40 0 30 → 1 ≤ M 91 0 j.toNatClampNeg) (M_4 : xM) (eM_4 : M_4 = xup M 40 0 0 0) (r_5 : Int32) (er_5 : r_5 = xb (f_X11_isNote q M_4)) (c_6 : ¬ r_5 = 0) (r_7 : Int32) (er_7 : r_7 = xb (f_X11_isWeek weeks M_4)) (c_8 : ¬ r_7 = 0) (c_9 : ¬ (M_4 85 0 q.toNatClampNeg) = (-1000000)) : vp_in q 24 := by
  subst_vars
  exact xin (N := 24) (by grind [xup_at, isSheet_eq, isTown_eq, isWeek_eq, isTrader_eq, in_0s, isBank_eq, in_0_1, in_0_2, in_0_4, in_0_5, in_0_6, in_0_7, in_0_100, in_0_255, in_0_299, in_0_500, in_0_9999, in_0_99999, in_1_6, in_1_8, in_1_100, in_1_999, in_t_299, xb, isNote_eq]) (by grind [xup_at, isSheet_eq, isTown_eq, isWeek_eq, isTrader_eq, in_0s, isBank_eq, in_0_1, in_0_2, in_0_4, in_0_5, in_0_6, in_0_7, in_0_100, in_0_255, in_0_299, in_0_500, in_0_9999, in_0_99999, in_1_6, in_1_8, in_1_100, in_1_999, in_t_299, xb, isNote_eq]) (by decide)
theorem ob_X11_bears_52_ini_10 (nb nn : Nat) (q : Int32) (weeks : Int32) (M : xM) (hp0 : 0 ≤ M 40 0 30) (hp1 : M 40 0 30 ≤ 24) (hp2 : ∀ j : Nat, 0 ≤ M 91 0 j ∧ M 91 0 j ≤ 12) (hp3 : ∀ j : Int32, 0 ≤ j → j < M 40 0 30 → 1 ≤ M 91 0 j.toNatClampNeg) (M_4 : xM) (eM_4 : M_4 = xup M 40 0 0 0) (r_5 : Int32) (er_5 : r_5 = xb (f_X11_isNote q M_4)) (c_6 : ¬ r_5 = 0) (r_7 : Int32) (er_7 : r_7 = xb (f_X11_isWeek weeks M_4)) (c_8 : ¬ r_7 = 0) (c_9 : ¬ (M_4 85 0 q.toNatClampNeg) = (-1000000)) (x3_10 : Int32) (ex3_10 : x3_10 = (((12 * q) + (M_4 91 0 q.toNatClampNeg)) - 1)) : 0 ≤ q ∧ q < 24 ∧ 0 ≤ x3_10 ∧ x3_10 < 288 := by
  subst_vars
  grind [xup_at, isSheet_eq, isTown_eq, isWeek_eq, isTrader_eq, in_0s, isBank_eq, in_0_1, in_0_2, in_0_4, in_0_5, in_0_6, in_0_7, in_0_100, in_0_255, in_0_299, in_0_500, in_0_9999, in_0_99999, in_1_6, in_1_8, in_1_100, in_1_999, in_t_299, xb, isNote_eq]
theorem ob_X11_bears_86_in (nb nn : Nat) (q : Int32) (weeks : Int32) (M : xM) (hp0 : 0 ≤ M 40 0 30) (hp1 : M 40 0 30 ≤ 24) (hp2 : ∀ j : Nat, 0 ≤ M 91 0 j ∧ M 91 0 j ≤ 12) (hp3 : ∀ j : Int32, 0 ≤ j → j < M 40 0 30 → 1 ≤ M 91 0 j.toNatClampNeg) (M_4 : xM) (eM_4 : M_4 = xup M 40 0 0 0) (r_5 : Int32) (er_5 : r_5 = xb (f_X11_isNote q M_4)) (c_6 : ¬ r_5 = 0) (r_7 : Int32) (er_7 : r_7 = xb (f_X11_isWeek weeks M_4)) (c_8 : ¬ r_7 = 0) (c_9 : ¬ (M_4 85 0 q.toNatClampNeg) = (-1000000)) (x3_10 : Int32) (ex3_10 : x3_10 = (((12 * q) + (M_4 91 0 q.toNatClampNeg)) - 1)) (at__11 : Int32) (hiv_11 : 0 ≤ q ∧ q < 24 ∧ 0 ≤ at__11 ∧ at__11 < 288) : vp_in at__11 288 := by
  subst_vars
  exact xin (N := 288) (by grind [xup_at, isSheet_eq, isTown_eq, isWeek_eq, isTrader_eq, in_0s, isBank_eq, in_0_1, in_0_2, in_0_4, in_0_5, in_0_6, in_0_7, in_0_100, in_0_255, in_0_299, in_0_500, in_0_9999, in_0_99999, in_1_6, in_1_8, in_1_100, in_1_999, in_t_299, xb, isNote_eq]) (by grind [xup_at, isSheet_eq, isTown_eq, isWeek_eq, isTrader_eq, in_0s, isBank_eq, in_0_1, in_0_2, in_0_4, in_0_5, in_0_6, in_0_7, in_0_100, in_0_255, in_0_299, in_0_500, in_0_9999, in_0_99999, in_1_6, in_1_8, in_1_100, in_1_999, in_t_299, xb, isNote_eq]) (by decide)
theorem ob_X11_mayGo_20_in (nb nn : Nat) (day : Int32) (town : Int32) (to : Int32) (M : xM) (hp0 : 0 ≤ town) (hp1 : town ≤ 5) (hp2 : 0 ≤ to) (hp3 : to ≤ 5) (c_1 : ¬ town = to) (c_2 : ¬ day ≤ 1) : vp_in ((6 * town) + to) 36 := by
  subst_vars
  exact xin (N := 36) (by grind [xup_at, isSheet_eq, isTown_eq, isWeek_eq, isTrader_eq, in_0s, isBank_eq, in_0_1, in_0_2, in_0_4, in_0_5, in_0_6, in_0_7, in_0_100, in_0_255, in_0_299, in_0_500, in_0_9999, in_0_99999, in_1_6, in_1_8, in_1_100, in_1_999, in_t_299, xb]) (by grind [xup_at, isSheet_eq, isTown_eq, isWeek_eq, isTrader_eq, in_0s, isBank_eq, in_0_1, in_0_2, in_0_4, in_0_5, in_0_6, in_0_7, in_0_100, in_0_255, in_0_299, in_0_500, in_0_9999, in_0_99999, in_1_6, in_1_8, in_1_100, in_1_999, in_t_299, xb]) (by decide)
theorem ob_X11_kindOf_5_in (nb nn : Nat) (q : Int32) (M : xM) (hp0 : 0 ≤ q) (hp1 : q < 24) (hp2 : M 40 0 7 ≤ 8) (hp3 : ∀ j : Nat, 0 ≤ M 81 0 j) : vp_in q 24 := by
  subst_vars
  exact xin (N := 24) (by grind [xup_at, isSheet_eq, isTown_eq, isWeek_eq, isTrader_eq, in_0s, isBank_eq, in_0_1, in_0_2, in_0_4, in_0_5, in_0_6, in_0_7, in_0_100, in_0_255, in_0_299, in_0_500, in_0_9999, in_0_99999, in_1_6, in_1_8, in_1_100, in_1_999, in_t_299, xb]) (by grind [xup_at, isSheet_eq, isTown_eq, isWeek_eq, isTrader_eq, in_0s, isBank_eq, in_0_1, in_0_2, in_0_4, in_0_5, in_0_6, in_0_7, in_0_100, in_0_255, in_0_299, in_0_500, in_0_9999, in_0_99999, in_1_6, in_1_8, in_1_100, in_1_999, in_t_299, xb]) (by decide)
theorem ob_X11_kindOf_18_in (nb nn : Nat) (q : Int32) (M : xM) (hp0 : 0 ≤ q) (hp1 : q < 24) (hp2 : M 40 0 7 ≤ 8) (hp3 : ∀ j : Nat, 0 ≤ M 81 0 j) (c_1 : (M 87 0 q.toNatClampNeg) = 0) : vp_in q 24 := by
  subst_vars
  exact xin (N := 24) (by grind [xup_at, isSheet_eq, isTown_eq, isWeek_eq, isTrader_eq, in_0s, isBank_eq, in_0_1, in_0_2, in_0_4, in_0_5, in_0_6, in_0_7, in_0_100, in_0_255, in_0_299, in_0_500, in_0_9999, in_0_99999, in_1_6, in_1_8, in_1_100, in_1_999, in_t_299, xb]) (by grind [xup_at, isSheet_eq, isTown_eq, isWeek_eq, isTrader_eq, in_0s, isBank_eq, in_0_1, in_0_2, in_0_4, in_0_5, in_0_6, in_0_7, in_0_100, in_0_255, in_0_299, in_0_500, in_0_9999, in_0_99999, in_1_6, in_1_8, in_1_100, in_1_999, in_t_299, xb]) (by decide)
theorem ob_X11_kindOf_28_p0 (nb nn : Nat) (q : Int32) (M : xM) (hp0 : 0 ≤ q) (hp1 : q < 24) (hp2 : M 40 0 7 ≤ 8) (hp3 : ∀ j : Nat, 0 ≤ M 81 0 j) (c_1 : (M 87 0 q.toNatClampNeg) = 0) (c_2 : (M 89 0 q.toNatClampNeg) = 0) : 0 ≤ q := by
  subst_vars
  grind [xup_at, isSheet_eq, isTown_eq, isWeek_eq, isTrader_eq, in_0s, isBank_eq, in_0_1, in_0_2, in_0_4, in_0_5, in_0_6, in_0_7, in_0_100, in_0_255, in_0_299, in_0_500, in_0_9999, in_0_99999, in_1_6, in_1_8, in_1_100, in_1_999, in_t_299, xb]
theorem ob_X11_kindOf_28_p1 (nb nn : Nat) (q : Int32) (M : xM) (hp0 : 0 ≤ q) (hp1 : q < 24) (hp2 : M 40 0 7 ≤ 8) (hp3 : ∀ j : Nat, 0 ≤ M 81 0 j) (c_1 : (M 87 0 q.toNatClampNeg) = 0) (c_2 : (M 89 0 q.toNatClampNeg) = 0) : q < 24 := by
  subst_vars
  grind [xup_at, isSheet_eq, isTown_eq, isWeek_eq, isTrader_eq, in_0s, isBank_eq, in_0_1, in_0_2, in_0_4, in_0_5, in_0_6, in_0_7, in_0_100, in_0_255, in_0_299, in_0_500, in_0_9999, in_0_99999, in_1_6, in_1_8, in_1_100, in_1_999, in_t_299, xb]
theorem ob_X11_kindOf_40_p0 (nb nn : Nat) (q : Int32) (M : xM) (hp0 : 0 ≤ q) (hp1 : q < 24) (hp2 : M 40 0 7 ≤ 8) (hp3 : ∀ j : Nat, 0 ≤ M 81 0 j) (c_1 : (M 87 0 q.toNatClampNeg) = 0) (c_2 : (M 89 0 q.toNatClampNeg) = 0) (r_3 : Int32) (er_3 : r_3 = xb (f_X11_isGhost q M)) (c_4 : r_3 = 0) : 0 ≤ q := by
  subst_vars
  grind [xup_at, isSheet_eq, isTown_eq, isWeek_eq, isTrader_eq, in_0s, isBank_eq, in_0_1, in_0_2, in_0_4, in_0_5, in_0_6, in_0_7, in_0_100, in_0_255, in_0_299, in_0_500, in_0_9999, in_0_99999, in_1_6, in_1_8, in_1_100, in_1_999, in_t_299, xb]
theorem ob_X11_kindOf_40_p1 (nb nn : Nat) (q : Int32) (M : xM) (hp0 : 0 ≤ q) (hp1 : q < 24) (hp2 : M 40 0 7 ≤ 8) (hp3 : ∀ j : Nat, 0 ≤ M 81 0 j) (c_1 : (M 87 0 q.toNatClampNeg) = 0) (c_2 : (M 89 0 q.toNatClampNeg) = 0) (r_3 : Int32) (er_3 : r_3 = xb (f_X11_isGhost q M)) (c_4 : r_3 = 0) : q < 24 := by
  subst_vars
  grind [xup_at, isSheet_eq, isTown_eq, isWeek_eq, isTrader_eq, in_0s, isBank_eq, in_0_1, in_0_2, in_0_4, in_0_5, in_0_6, in_0_7, in_0_100, in_0_255, in_0_299, in_0_500, in_0_9999, in_0_99999, in_1_6, in_1_8, in_1_100, in_1_999, in_t_299, xb]
theorem ob_X11_kindOf_40_p2 (nb nn : Nat) (q : Int32) (M : xM) (hp0 : 0 ≤ q) (hp1 : q < 24) (hp2 : M 40 0 7 ≤ 8) (hp3 : ∀ j : Nat, 0 ≤ M 81 0 j) (c_1 : (M 87 0 q.toNatClampNeg) = 0) (c_2 : (M 89 0 q.toNatClampNeg) = 0) (r_3 : Int32) (er_3 : r_3 = xb (f_X11_isGhost q M)) (c_4 : r_3 = 0) : M 40 0 7 ≤ 8 := by
  subst_vars
  grind [xup_at, isSheet_eq, isTown_eq, isWeek_eq, isTrader_eq, in_0s, isBank_eq, in_0_1, in_0_2, in_0_4, in_0_5, in_0_6, in_0_7, in_0_100, in_0_255, in_0_299, in_0_500, in_0_9999, in_0_99999, in_1_6, in_1_8, in_1_100, in_1_999, in_t_299, xb]
theorem ob_X11_kindOf_40_p3 (nb nn : Nat) (q : Int32) (M : xM) (hp0 : 0 ≤ q) (hp1 : q < 24) (hp2 : M 40 0 7 ≤ 8) (hp3 : ∀ j : Nat, 0 ≤ M 81 0 j) (c_1 : (M 87 0 q.toNatClampNeg) = 0) (c_2 : (M 89 0 q.toNatClampNeg) = 0) (r_3 : Int32) (er_3 : r_3 = xb (f_X11_isGhost q M)) (c_4 : r_3 = 0) : ∀ j : Nat, 0 ≤ M 81 0 j := by
  subst_vars
  grind [xup_at, isSheet_eq, isTown_eq, isWeek_eq, isTrader_eq, in_0s, isBank_eq, in_0_1, in_0_2, in_0_4, in_0_5, in_0_6, in_0_7, in_0_100, in_0_255, in_0_299, in_0_500, in_0_9999, in_0_99999, in_1_6, in_1_8, in_1_100, in_1_999, in_t_299, xb]
theorem ob_X11_kindOf_55_in (nb nn : Nat) (q : Int32) (M : xM) (hp0 : 0 ≤ q) (hp1 : q < 24) (hp2 : M 40 0 7 ≤ 8) (hp3 : ∀ j : Nat, 0 ≤ M 81 0 j) (c_1 : (M 87 0 q.toNatClampNeg) = 0) (c_2 : (M 89 0 q.toNatClampNeg) = 0) (r_3 : Int32) (er_3 : r_3 = xb (f_X11_isGhost q M)) (c_4 : r_3 = 0) (r_5 : Int32) (er_5 : r_5 = xb (f_X11_isFalse q M)) (c_6 : r_5 = 0) : vp_in q 24 := by
  subst_vars
  exact xin (N := 24) (by grind [xup_at, isSheet_eq, isTown_eq, isWeek_eq, isTrader_eq, in_0s, isBank_eq, in_0_1, in_0_2, in_0_4, in_0_5, in_0_6, in_0_7, in_0_100, in_0_255, in_0_299, in_0_500, in_0_9999, in_0_99999, in_1_6, in_1_8, in_1_100, in_1_999, in_t_299, xb]) (by grind [xup_at, isSheet_eq, isTown_eq, isWeek_eq, isTrader_eq, in_0s, isBank_eq, in_0_1, in_0_2, in_0_4, in_0_5, in_0_6, in_0_7, in_0_100, in_0_255, in_0_299, in_0_500, in_0_9999, in_0_99999, in_1_6, in_1_8, in_1_100, in_1_999, in_t_299, xb]) (by decide)
theorem ob_X11_kind_15_p0 (nb nn : Nat) (q : Int32) (M : xM) (hp0 : 0 ≤ M 40 0 30) (hp1 : M 40 0 30 ≤ 24) (hp2 : M 40 0 7 ≤ 8) (hp3 : ∀ j : Nat, 0 ≤ M 81 0 j) (M_1 : xM) (eM_1 : M_1 = xup M 40 0 0 0) (r_2 : Int32) (er_2 : r_2 = xb (f_X11_isNote q M_1)) (c_3 : ¬ r_2 = 0) : 0 ≤ q := by
  subst_vars
  grind [xup_at, isSheet_eq, isTown_eq, isWeek_eq, isTrader_eq, in_0s, isBank_eq, in_0_1, in_0_2, in_0_4, in_0_5, in_0_6, in_0_7, in_0_100, in_0_255, in_0_299, in_0_500, in_0_9999, in_0_99999, in_1_6, in_1_8, in_1_100, in_1_999, in_t_299, xb, isNote_eq]
theorem ob_X11_kind_15_p1 (nb nn : Nat) (q : Int32) (M : xM) (hp0 : 0 ≤ M 40 0 30) (hp1 : M 40 0 30 ≤ 24) (hp2 : M 40 0 7 ≤ 8) (hp3 : ∀ j : Nat, 0 ≤ M 81 0 j) (M_1 : xM) (eM_1 : M_1 = xup M 40 0 0 0) (r_2 : Int32) (er_2 : r_2 = xb (f_X11_isNote q M_1)) (c_3 : ¬ r_2 = 0) : q < 24 := by
  subst_vars
  grind [xup_at, isSheet_eq, isTown_eq, isWeek_eq, isTrader_eq, in_0s, isBank_eq, in_0_1, in_0_2, in_0_4, in_0_5, in_0_6, in_0_7, in_0_100, in_0_255, in_0_299, in_0_500, in_0_9999, in_0_99999, in_1_6, in_1_8, in_1_100, in_1_999, in_t_299, xb, isNote_eq]
theorem ob_X11_kind_15_p2 (nb nn : Nat) (q : Int32) (M : xM) (hp0 : 0 ≤ M 40 0 30) (hp1 : M 40 0 30 ≤ 24) (hp2 : M 40 0 7 ≤ 8) (hp3 : ∀ j : Nat, 0 ≤ M 81 0 j) (M_1 : xM) (eM_1 : M_1 = xup M 40 0 0 0) (r_2 : Int32) (er_2 : r_2 = xb (f_X11_isNote q M_1)) (c_3 : ¬ r_2 = 0) : M_1 40 0 7 ≤ 8 := by
  subst_vars
  grind [xup_at, isSheet_eq, isTown_eq, isWeek_eq, isTrader_eq, in_0s, isBank_eq, in_0_1, in_0_2, in_0_4, in_0_5, in_0_6, in_0_7, in_0_100, in_0_255, in_0_299, in_0_500, in_0_9999, in_0_99999, in_1_6, in_1_8, in_1_100, in_1_999, in_t_299, xb, isNote_eq]
theorem ob_X11_kind_15_p3 (nb nn : Nat) (q : Int32) (M : xM) (hp0 : 0 ≤ M 40 0 30) (hp1 : M 40 0 30 ≤ 24) (hp2 : M 40 0 7 ≤ 8) (hp3 : ∀ j : Nat, 0 ≤ M 81 0 j) (M_1 : xM) (eM_1 : M_1 = xup M 40 0 0 0) (r_2 : Int32) (er_2 : r_2 = xb (f_X11_isNote q M_1)) (c_3 : ¬ r_2 = 0) : ∀ j : Nat, 0 ≤ M_1 81 0 j := by
  subst_vars
  grind [xup_at, isSheet_eq, isTown_eq, isWeek_eq, isTrader_eq, in_0s, isBank_eq, in_0_1, in_0_2, in_0_4, in_0_5, in_0_6, in_0_7, in_0_100, in_0_255, in_0_299, in_0_500, in_0_9999, in_0_99999, in_1_6, in_1_8, in_1_100, in_1_999, in_t_299, xb, isNote_eq]
theorem ob_X11_as_35_p0 (nb nn : Nat) (q : Int32) (of_ : Int32) (M : xM) (hp0 : 0 ≤ M 40 0 30) (hp1 : M 40 0 30 ≤ 24) (hp2 : M 40 0 7 ≤ 8) (hp3 : ∀ j : Nat, 0 ≤ M 81 0 j) (M_1 : xM) (eM_1 : M_1 = xup M 40 0 0 0) (r_2 : Int32) (er_2 : r_2 = xb (f_X11_isNote q M_1)) (c_3 : ¬ r_2 = 0) (r_4 : Int32) (er_4 : r_4 = xb (f_X11_in (of_.toInt64) 0 5 M_1)) (c_5 : ¬ r_4 = 0) (M_6 : xM) (eM_6 : M_6 = xup M_1 40 0 1 0) : 0 ≤ q := by
  subst_vars
  grind [xup_at, isSheet_eq, isTown_eq, isWeek_eq, isTrader_eq, in_0s, isBank_eq, in_0_1, in_0_2, in_0_4, in_0_5, in_0_6, in_0_7, in_0_100, in_0_255, in_0_299, in_0_500, in_0_9999, in_0_99999, in_1_6, in_1_8, in_1_100, in_1_999, in_t_299, xb, isNote_eq]
theorem ob_X11_as_35_p1 (nb nn : Nat) (q : Int32) (of_ : Int32) (M : xM) (hp0 : 0 ≤ M 40 0 30) (hp1 : M 40 0 30 ≤ 24) (hp2 : M 40 0 7 ≤ 8) (hp3 : ∀ j : Nat, 0 ≤ M 81 0 j) (M_1 : xM) (eM_1 : M_1 = xup M 40 0 0 0) (r_2 : Int32) (er_2 : r_2 = xb (f_X11_isNote q M_1)) (c_3 : ¬ r_2 = 0) (r_4 : Int32) (er_4 : r_4 = xb (f_X11_in (of_.toInt64) 0 5 M_1)) (c_5 : ¬ r_4 = 0) (M_6 : xM) (eM_6 : M_6 = xup M_1 40 0 1 0) : q < 24 := by
  subst_vars
  grind [xup_at, isSheet_eq, isTown_eq, isWeek_eq, isTrader_eq, in_0s, isBank_eq, in_0_1, in_0_2, in_0_4, in_0_5, in_0_6, in_0_7, in_0_100, in_0_255, in_0_299, in_0_500, in_0_9999, in_0_99999, in_1_6, in_1_8, in_1_100, in_1_999, in_t_299, xb, isNote_eq]
theorem ob_X11_as_35_p2 (nb nn : Nat) (q : Int32) (of_ : Int32) (M : xM) (hp0 : 0 ≤ M 40 0 30) (hp1 : M 40 0 30 ≤ 24) (hp2 : M 40 0 7 ≤ 8) (hp3 : ∀ j : Nat, 0 ≤ M 81 0 j) (M_1 : xM) (eM_1 : M_1 = xup M 40 0 0 0) (r_2 : Int32) (er_2 : r_2 = xb (f_X11_isNote q M_1)) (c_3 : ¬ r_2 = 0) (r_4 : Int32) (er_4 : r_4 = xb (f_X11_in (of_.toInt64) 0 5 M_1)) (c_5 : ¬ r_4 = 0) (M_6 : xM) (eM_6 : M_6 = xup M_1 40 0 1 0) : M_6 40 0 7 ≤ 8 := by
  subst_vars
  grind [xup_at, isSheet_eq, isTown_eq, isWeek_eq, isTrader_eq, in_0s, isBank_eq, in_0_1, in_0_2, in_0_4, in_0_5, in_0_6, in_0_7, in_0_100, in_0_255, in_0_299, in_0_500, in_0_9999, in_0_99999, in_1_6, in_1_8, in_1_100, in_1_999, in_t_299, xb, isNote_eq]
theorem ob_X11_as_35_p3 (nb nn : Nat) (q : Int32) (of_ : Int32) (M : xM) (hp0 : 0 ≤ M 40 0 30) (hp1 : M 40 0 30 ≤ 24) (hp2 : M 40 0 7 ≤ 8) (hp3 : ∀ j : Nat, 0 ≤ M 81 0 j) (M_1 : xM) (eM_1 : M_1 = xup M 40 0 0 0) (r_2 : Int32) (er_2 : r_2 = xb (f_X11_isNote q M_1)) (c_3 : ¬ r_2 = 0) (r_4 : Int32) (er_4 : r_4 = xb (f_X11_in (of_.toInt64) 0 5 M_1)) (c_5 : ¬ r_4 = 0) (M_6 : xM) (eM_6 : M_6 = xup M_1 40 0 1 0) : ∀ j : Nat, 0 ≤ M_6 81 0 j := by
  subst_vars
  grind [xup_at, isSheet_eq, isTown_eq, isWeek_eq, isTrader_eq, in_0s, isBank_eq, in_0_1, in_0_2, in_0_4, in_0_5, in_0_6, in_0_7, in_0_100, in_0_255, in_0_299, in_0_500, in_0_9999, in_0_99999, in_1_6, in_1_8, in_1_100, in_1_999, in_t_299, xb, isNote_eq]
theorem ob_X11_as_50_in (nb nn : Nat) (q : Int32) (of_ : Int32) (M : xM) (hp0 : 0 ≤ M 40 0 30) (hp1 : M 40 0 30 ≤ 24) (hp2 : M 40 0 7 ≤ 8) (hp3 : ∀ j : Nat, 0 ≤ M 81 0 j) (M_1 : xM) (eM_1 : M_1 = xup M 40 0 0 0) (r_2 : Int32) (er_2 : r_2 = xb (f_X11_isNote q M_1)) (c_3 : ¬ r_2 = 0) (r_4 : Int32) (er_4 : r_4 = xb (f_X11_in (of_.toInt64) 0 5 M_1)) (c_5 : ¬ r_4 = 0) (M_6 : xM) (eM_6 : M_6 = xup M_1 40 0 1 0) (r_7 : Int32) (er_7 : r_7 = f_X11_kindOf q M_6) (r_8 : Int32) (er_8 : r_8 = xb (f_X11_isOf r_7 of_ M_6)) (c_9 : ¬ r_8 = 0) : vp_in q 24 := by
  subst_vars
  exact xin (N := 24) (by grind [xup_at, isSheet_eq, isTown_eq, isWeek_eq, isTrader_eq, in_0s, isBank_eq, in_0_1, in_0_2, in_0_4, in_0_5, in_0_6, in_0_7, in_0_100, in_0_255, in_0_299, in_0_500, in_0_9999, in_0_99999, in_1_6, in_1_8, in_1_100, in_1_999, in_t_299, xb, isNote_eq]) (by grind [xup_at, isSheet_eq, isTown_eq, isWeek_eq, isTrader_eq, in_0s, isBank_eq, in_0_1, in_0_2, in_0_4, in_0_5, in_0_6, in_0_7, in_0_100, in_0_255, in_0_299, in_0_500, in_0_9999, in_0_99999, in_1_6, in_1_8, in_1_100, in_1_999, in_t_299, xb, isNote_eq]) (by decide)
theorem ob_X11_trace_26_in (nb nn : Nat) (i : Int32) (M : xM) (hp0 : 0 ≤ M 40 0 50) (hp1 : M 40 0 50 ≤ 16) (M_1 : xM) (eM_1 : M_1 = xup M 40 0 0 0) (r_2 : Int32) (er_2 : r_2 = xb (f_X11_in (i.toInt64) 0 (((M_1 40 0 50) - 1).toInt64) M_1)) (c_3 : ¬ r_2 = 0) : vp_in i 16 := by
  subst_vars
  exact xin (N := 16) (by grind [xup_at, isSheet_eq, isTown_eq, isWeek_eq, isTrader_eq, in_0s, isBank_eq, in_0_1, in_0_2, in_0_4, in_0_5, in_0_6, in_0_7, in_0_100, in_0_255, in_0_299, in_0_500, in_0_9999, in_0_99999, in_1_6, in_1_8, in_1_100, in_1_999, in_t_299, xb]) (by grind [xup_at, isSheet_eq, isTown_eq, isWeek_eq, isTrader_eq, in_0s, isBank_eq, in_0_1, in_0_2, in_0_4, in_0_5, in_0_6, in_0_7, in_0_100, in_0_255, in_0_299, in_0_500, in_0_9999, in_0_99999, in_1_6, in_1_8, in_1_100, in_1_999, in_t_299, xb]) (by decide)
set_option maxHeartbeats 4000000 in
set_option maxRecDepth 100000 in
theorem c_X11_byteAt (l : Launch) (nb nn : Nat) (g : xG) (L : List (Nat × Nat)) (M : xM) (hD : xD g L) (hL : xEL nb nn L) (k : Int32) (hp0 : 0 ≤ k) (hp1 : M 40 0 23 ≤ 400) : xCi l yX11_byteAt cX11_byteAt 2 (some .int) 0 g L M [.ref (xad g 40 0), .int k] (fun r u => r = f_X11_byteAt k M ∧ u = M) := by
  intro sz
  refine x_beg (by decide +kernel) rfl ?_
  intro p e s m args below meth c ls hsz hB
  subst hsz
  obtain ⟨hx, hb, hml, hown, hts, hr, hlk, hK, hAm, hP, hl⟩ := hB
  have S : CallFix p m c cX11_byteAt 2 s args (xws yX11_byteAt cX11_byteAt 2 (some .int)) RX11 := ⟨hx, hb, hml, hown, hts⟩
  have hown : s.vm.findClass RX11 = some m.cls := hown
  have hl : lv_has ls 2 [(0, .ref (xad g 40 0)), (1, .int k)] := hl
  have hS : va_S (xA g L s.heap.size) s.heap s.heap [] := va_S.rf
  obtain ⟨F, hF⟩ : ∃ F, F = f_X11_byteAt k M := ⟨_, rfl⟩
  have hres := hF
  rw [f_X11_byteAt] at hres
  refine lv_iload_n hx hb dX11_byteAt_0 rfl (lv_at hl 1 rfl) ?_
  refine lv_aload_n hx hb dX11_byteAt_1 rfl (lv_at hl 0 rfl) ?_
  refine gf_RX11_175 hx hb hts hown hK hP (hL 40 0 (xe_40 nb nn)) dX11_byteAt_2 ?_
  refine lv_icmp_ge (tgt := 17) hx hb dX11_byteAt_5 (by decide) (fun c_1 => ?_) (fun c_1 => ?_)
  · replace hres := hres.trans (if_pos c_1)
    refine lv_ldc (own := RX11) (v := (-1000000)) hx hb hown (hts _ (List.mem_cons_of_mem _ wd_302)) dX11_byteAt_17 ?_
    exact x_reti hx hb hr hlk hP hS ⟨hres.symm.trans hF, rfl⟩ dX11_byteAt_19
  · replace hres := hres.trans (if_neg c_1)
    refine lv_aload_n hx hb dX11_byteAt_8 rfl (lv_at hl 0 rfl) ?_
    refine gf_RX11_53 hx hb hts hown hK hP (hL 40 0 (xe_40 nb nn)) dX11_byteAt_9 ?_
    refine lv_iload_n hx hb dX11_byteAt_12 rfl (lv_at hl 1 rfl) ?_
    refine x_iald hx hb hK hP (hL 70 0 (xe_70 nb nn)) (xc70 g 0) (ob_X11_byteAt_13_in nb nn k M hp0 hp1 c_1) dX11_byteAt_13 ?_
    refine lv_goto (tgt := 19) hx hb dX11_byteAt_14 (by decide) ?_
    exact x_reti hx hb hr hlk hP hS ⟨hres.symm.trans hF, rfl⟩ dX11_byteAt_19
set_option maxHeartbeats 4000000 in
set_option maxRecDepth 100000 in
theorem c_X11_step (l : Launch) (nb nn : Nat) (g : xG) (L : List (Nat × Nat)) (M : xM) (hD : xD g L) (hL : xEL nb nn L)  (hp0 : 0 ≤ M 40 0 24 ∧ M 40 0 24 ≤ M 40 0 23 ∧ M 40 0 23 ≤ 400) : xCv l yX11_step cX11_step 2 1 g L M [.ref (xad g 40 0)] (fun u => u = f_X11_step  M) := by
  intro sz
  refine x_beg (by decide +kernel) rfl ?_
  intro p e s m args below meth c ls hsz hB
  subst hsz
  obtain ⟨hx, hb, hml, hown, hts, hr, hlk, hK, hAm, hP, hl⟩ := hB
  have S : CallFix p m c cX11_step 2 s args (xws yX11_step cX11_step 2 none) RX11 := ⟨hx, hb, hml, hown, hts⟩
  have hown : s.vm.findClass RX11 = some m.cls := hown
  have hl : lv_has ls 2 [(0, .ref (xad g 40 0))] := hl
  have hS : va_S (xA g L s.heap.size) s.heap s.heap [] := va_S.rf
  obtain ⟨F, hF⟩ : ∃ F, F = f_X11_step  M := ⟨_, rfl⟩
  have k_119 : ∀ (q : Int32) (n : Nat)  (N_ : xM) (H : Heap) (locs : List Loc) (ls : Array Slot) (kx : (xM → xM)), xmu (N_ 40 0 24) (N_ 40 0 23) < n → 0 ≤ N_ 40 0 24 ∧ N_ 40 0 24 ≤ N_ 40 0 23 ∧ N_ 40 0 23 ≤ 400 → F = f_X11_step_L119  q n N_ kx → xP g L N_ H → va_S (xA g L s.heap.size) s.heap H locs → lv_has ls 2 [(0, .ref (xad g 40 0)), (1, .int q)] → (∀  (N_ : xM) (H : Heap) (locs : List Loc) (ls : Array Slot), 0 ≤ N_ 40 0 24 ∧ N_ 40 0 24 ≤ N_ 40 0 23 ∧ N_ 40 0 23 ≤ 400 → F = kx N_ → xP g L N_ H → va_S (xA g L s.heap.size) s.heap H locs → lv_has ls 2 [(0, .ref (xad g 40 0)), (1, .int q)] → W p l e (xr 1) s m args below meth c H locs 0 0 (MQ below (va_Qv (fun u => u = f_X11_step  M) (xPost g L) (xA g L s.heap.size)) args s 0 0 (xA g L s.heap.size)) (F0 m 146 ls [])) → W p l e (xr 1) s m args below meth c H locs 0 0 (MQ below (va_Qv (fun u => u = f_X11_step  M) (xPost g L) (xA g L s.heap.size)) args s 0 0 (xA g L s.heap.size)) (F0 m 119 ls []) := by
    intro q n
    induction n with
    | zero => intro N_ H locs ls kx hmu; exact absurd hmu (Nat.not_lt_zero _)
    | succ n ih =>
      intro N_ H locs ls kx hmu hinv hres hP hS hl hex
      replace hres : F = _ := hres.trans (by rw [f_X11_step_L119])
      refine lv_aload_n hx hb dX11_step_119 rfl (lv_at hl 0 rfl) ?_
      refine lv_aload_n hx hb dX11_step_120 rfl (lv_at hl 0 rfl) ?_
      refine gf_RX11_178 hx hb hts hown hK hP (hL 40 0 (xe_40 nb nn)) dX11_step_121 ?_
      refine x_callVi (As := [.int (N_ 40 0 24)]) S hK hAm hD hP hS mt_X11_byteAt wd_576 ⟨by decide, by decide⟩ (hL 40 0 (xe_40 nb nn)) (xc40 g 0) rfl (c_X11_byteAt l nb nn g L N_ hD hL (N_ 40 0 24) (ob_X11_step_124_p0 nb nn M hp0 q n N_ hmu hinv) (ob_X11_step_124_p1 nb nn M hp0 q n N_ hmu hinv)) rfl hl.1 (Nat.le_of_ble_eq_true rfl) ⟨Nat.zero_le _, Nat.zero_le _⟩ dX11_step_124 rfl (fun r_1 u H locs hp_ hP hS => ?_)
      obtain ⟨er_1, eu_⟩ := hp_
      rw [eu_] at hP
      clear eu_
      replace hres := xlet_n hres er_1
      refine x_callSi (As := [.int r_1]) S hK hAm hD hP hS mt_X11_isFigure wd_583 ⟨by decide, by decide⟩ (c_X11_isFigure l nb nn g L N_ hD hL r_1) rfl hl.1 (Nat.le_of_ble_eq_true rfl) ⟨Nat.zero_le _, Nat.zero_le _⟩ dX11_step_127 rfl (fun r_2 u H locs hp_ hP hS => ?_)
      obtain ⟨er_2, eu_⟩ := hp_
      rw [eu_] at hP
      clear eu_
      replace hres := xlet_n hres er_2
      refine lv_if_eq (tgt := 146) hx hb dX11_step_130 (by decide) (fun c_3 => ?_) (fun c_3 => ?_)
      · replace hres := hres.trans (if_pos c_3)
        exact hex  N_ _ _ _ (ob_X11_step_146_x119 nb nn M hp0 q n N_ hmu hinv r_1 er_1 r_2 er_2 c_3) hres hP hS (lv_sub hl [0, 1] rfl)
      · replace hres := hres.trans (if_neg c_3)
        refine lv_aload_n hx hb dX11_step_133 rfl (lv_at hl 0 rfl) ?_
        refine lv_dup hx hb dX11_step_134 rfl ?_
        refine gf_RX11_178 hx hb hts hown hK hP (hL 40 0 (xe_40 nb nn)) dX11_step_135 ?_
        refine lv_iconst (v := 1) hx hb dX11_step_138 (by decide) ?_
        refine lv_iadd hx hb dX11_step_139 ?_
        refine lv_topi (fun v_4 ev_4 => ?_)
        replace hres := xlet_n hres ev_4
        refine pf_RX11_178 hx hb hts hown hK hP hD hS (hL 40 0 (xe_40 nb nn)) dX11_step_140 (fun H locs hP hS => ?_)
        obtain ⟨M_5, eM_5⟩ : ∃ z_ : xM, z_ = xup N_ 40 0 24 v_4 := ⟨_, rfl⟩
        rw [← eM_5] at hP
        replace hres := xlet_n hres eM_5
        refine lv_goto (tgt := 119) hx hb dX11_step_143 (by decide) ?_
        exact ih  M_5 _ _ _ kx (ob_X11_step_119_mu_5 nb nn M hp0 q n N_ hmu hinv r_1 er_1 r_2 er_2 c_3 v_4 ev_4 M_5 eM_5) (ob_X11_step_119_inv_5 nb nn M hp0 q n N_ hmu hinv r_1 er_1 r_2 er_2 c_3 v_4 ev_4 M_5 eM_5) hres hP hS (lv_sub hl [0, 1] rfl) hex
  have k_77 : ∀ (q : Int32) (n : Nat)  (N_ : xM) (H : Heap) (locs : List Loc) (ls : Array Slot) (kx : (xM → xM)), xmu (N_ 40 0 24) (N_ 40 0 23) < n → 0 ≤ N_ 40 0 24 ∧ N_ 40 0 24 ≤ N_ 40 0 23 ∧ N_ 40 0 23 ≤ 400 → F = f_X11_step_L77  q n N_ kx → xP g L N_ H → va_S (xA g L s.heap.size) s.heap H locs → lv_has ls 2 [(0, .ref (xad g 40 0)), (1, .int q)] → (∀  (N_ : xM) (H : Heap) (locs : List Loc) (ls : Array Slot), 0 ≤ N_ 40 0 24 ∧ N_ 40 0 24 ≤ N_ 40 0 23 ∧ N_ 40 0 23 ≤ 400 → F = kx N_ → xP g L N_ H → va_S (xA g L s.heap.size) s.heap H locs → lv_has ls 2 [(0, .ref (xad g 40 0)), (1, .int q)] → W p l e (xr 1) s m args below meth c H locs 0 0 (MQ below (va_Qv (fun u => u = f_X11_step  M) (xPost g L) (xA g L s.heap.size)) args s 0 0 (xA g L s.heap.size)) (F0 m 104 ls [])) → W p l e (xr 1) s m args below meth c H locs 0 0 (MQ below (va_Qv (fun u => u = f_X11_step  M) (xPost g L) (xA g L s.heap.size)) args s 0 0 (xA g L s.heap.size)) (F0 m 77 ls []) := by
    intro q n
    induction n with
    | zero => intro N_ H locs ls kx hmu; exact absurd hmu (Nat.not_lt_zero _)
    | succ n ih =>
      intro N_ H locs ls kx hmu hinv hres hP hS hl hex
      replace hres : F = _ := hres.trans (by rw [f_X11_step_L77])
      refine lv_aload_n hx hb dX11_step_77 rfl (lv_at hl 0 rfl) ?_
      refine lv_aload_n hx hb dX11_step_78 rfl (lv_at hl 0 rfl) ?_
      refine gf_RX11_178 hx hb hts hown hK hP (hL 40 0 (xe_40 nb nn)) dX11_step_79 ?_
      refine x_callVi (As := [.int (N_ 40 0 24)]) S hK hAm hD hP hS mt_X11_byteAt wd_576 ⟨by decide, by decide⟩ (hL 40 0 (xe_40 nb nn)) (xc40 g 0) rfl (c_X11_byteAt l nb nn g L N_ hD hL (N_ 40 0 24) (ob_X11_step_82_p0 nb nn M hp0 q n N_ hmu hinv) (ob_X11_step_82_p1 nb nn M hp0 q n N_ hmu hinv)) rfl hl.1 (Nat.le_of_ble_eq_true rfl) ⟨Nat.zero_le _, Nat.zero_le _⟩ dX11_step_82 rfl (fun r_6 u H locs hp_ hP hS => ?_)
      obtain ⟨er_6, eu_⟩ := hp_
      rw [eu_] at hP
      clear eu_
      replace hres := xlet_n hres er_6
      refine x_callSi (As := [.int r_6]) S hK hAm hD hP hS mt_X11_isLetter wd_580 ⟨by decide, by decide⟩ (c_X11_isLetter l nb nn g L N_ hD hL r_6) rfl hl.1 (Nat.le_of_ble_eq_true rfl) ⟨Nat.zero_le _, Nat.zero_le _⟩ dX11_step_85 rfl (fun r_7 u H locs hp_ hP hS => ?_)
      obtain ⟨er_7, eu_⟩ := hp_
      rw [eu_] at hP
      clear eu_
      replace hres := xlet_n hres er_7
      refine lv_if_eq (tgt := 104) hx hb dX11_step_88 (by decide) (fun c_8 => ?_) (fun c_8 => ?_)
      · replace hres := hres.trans (if_pos c_8)
        exact hex  N_ _ _ _ (ob_X11_step_104_x77 nb nn M hp0 q n N_ hmu hinv r_6 er_6 r_7 er_7 c_8) hres hP hS (lv_sub hl [0, 1] rfl)
      · replace hres := hres.trans (if_neg c_8)
        refine lv_aload_n hx hb dX11_step_91 rfl (lv_at hl 0 rfl) ?_
        refine lv_dup hx hb dX11_step_92 rfl ?_
        refine gf_RX11_178 hx hb hts hown hK hP (hL 40 0 (xe_40 nb nn)) dX11_step_93 ?_
        refine lv_iconst (v := 1) hx hb dX11_step_96 (by decide) ?_
        refine lv_iadd hx hb dX11_step_97 ?_
        refine lv_topi (fun v_9 ev_9 => ?_)
        replace hres := xlet_n hres ev_9
        refine pf_RX11_178 hx hb hts hown hK hP hD hS (hL 40 0 (xe_40 nb nn)) dX11_step_98 (fun H locs hP hS => ?_)
        obtain ⟨M_10, eM_10⟩ : ∃ z_ : xM, z_ = xup N_ 40 0 24 v_9 := ⟨_, rfl⟩
        rw [← eM_10] at hP
        replace hres := xlet_n hres eM_10
        refine lv_goto (tgt := 77) hx hb dX11_step_101 (by decide) ?_
        exact ih  M_10 _ _ _ kx (ob_X11_step_77_mu_10 nb nn M hp0 q n N_ hmu hinv r_6 er_6 r_7 er_7 c_8 v_9 ev_9 M_10 eM_10) (ob_X11_step_77_inv_10 nb nn M hp0 q n N_ hmu hinv r_6 er_6 r_7 er_7 c_8 v_9 ev_9 M_10 eM_10) hres hP hS (lv_sub hl [0, 1] rfl) hex
  have k_0 : ∀ (n : Nat)  (N_ : xM) (H : Heap) (locs : List Loc) (ls : Array Slot) (kx : (xM → xM)), xmu (N_ 40 0 24) (N_ 40 0 23) < n → 0 ≤ N_ 40 0 24 ∧ N_ 40 0 24 ≤ N_ 40 0 23 ∧ N_ 40 0 23 ≤ 400 → F = f_X11_step_L0  n N_ kx → xP g L N_ H → va_S (xA g L s.heap.size) s.heap H locs → lv_has ls 2 [(0, .ref (xad g 40 0))] → (∀  (N_ : xM) (H : Heap) (locs : List Loc) (ls : Array Slot), 0 ≤ N_ 40 0 24 ∧ N_ 40 0 24 ≤ N_ 40 0 23 ∧ N_ 40 0 23 ≤ 400 → F = kx N_ → xP g L N_ H → va_S (xA g L s.heap.size) s.heap H locs → lv_has ls 2 [(0, .ref (xad g 40 0))] → W p l e (xr 1) s m args below meth c H locs 0 0 (MQ below (va_Qv (fun u => u = f_X11_step  M) (xPost g L) (xA g L s.heap.size)) args s 0 0 (xA g L s.heap.size)) (F0 m 39 ls [])) → W p l e (xr 1) s m args below meth c H locs 0 0 (MQ below (va_Qv (fun u => u = f_X11_step  M) (xPost g L) (xA g L s.heap.size)) args s 0 0 (xA g L s.heap.size)) (F0 m 0 ls []) := by
    intro n
    induction n with
    | zero => intro N_ H locs ls kx hmu; exact absurd hmu (Nat.not_lt_zero _)
    | succ n ih =>
      intro N_ H locs ls kx hmu hinv hres hP hS hl hex
      replace hres : F = _ := hres.trans (by rw [f_X11_step_L0])
      refine lv_aload_n hx hb dX11_step_0 rfl (lv_at hl 0 rfl) ?_
      refine lv_aload_n hx hb dX11_step_1 rfl (lv_at hl 0 rfl) ?_
      refine gf_RX11_178 hx hb hts hown hK hP (hL 40 0 (xe_40 nb nn)) dX11_step_2 ?_
      refine x_callVi (As := [.int (N_ 40 0 24)]) S hK hAm hD hP hS mt_X11_byteAt wd_576 ⟨by decide, by decide⟩ (hL 40 0 (xe_40 nb nn)) (xc40 g 0) rfl (c_X11_byteAt l nb nn g L N_ hD hL (N_ 40 0 24) (ob_X11_step_5_p0 nb nn M hp0 n N_ hmu hinv) (ob_X11_step_5_p1 nb nn M hp0 n N_ hmu hinv)) rfl hl.1 (Nat.le_of_ble_eq_true rfl) ⟨Nat.zero_le _, Nat.zero_le _⟩ dX11_step_5 rfl (fun r_11 u H locs hp_ hP hS => ?_)
      obtain ⟨er_11, eu_⟩ := hp_
      rw [eu_] at hP
      clear eu_
      replace hres := xlet_n hres er_11
      refine lv_bipush (v := 32) hx hb dX11_step_8 (by decide) ?_
      refine lv_icmp_eq (tgt := 26) hx hb dX11_step_10 (by decide) (fun c_12 => ?_) (fun c_12 => ?_)
      · replace hres := hres.trans (if_pos c_12)
        refine lv_aload_n hx hb dX11_step_26 rfl (lv_at hl 0 rfl) ?_
        refine lv_dup hx hb dX11_step_27 rfl ?_
        refine gf_RX11_178 hx hb hts hown hK hP (hL 40 0 (xe_40 nb nn)) dX11_step_28 ?_
        refine lv_iconst (v := 1) hx hb dX11_step_31 (by decide) ?_
        refine lv_iadd hx hb dX11_step_32 ?_
        refine lv_topi (fun v_13 ev_13 => ?_)
        replace hres := xlet_n hres ev_13
        refine pf_RX11_178 hx hb hts hown hK hP hD hS (hL 40 0 (xe_40 nb nn)) dX11_step_33 (fun H locs hP hS => ?_)
        obtain ⟨M_14, eM_14⟩ : ∃ z_ : xM, z_ = xup N_ 40 0 24 v_13 := ⟨_, rfl⟩
        rw [← eM_14] at hP
        replace hres := xlet_n hres eM_14
        refine lv_goto (tgt := 0) hx hb dX11_step_36 (by decide) ?_
        exact ih  M_14 _ _ _ kx (ob_X11_step_0_mu_14 nb nn M hp0 n N_ hmu hinv r_11 er_11 c_12 v_13 ev_13 M_14 eM_14) (ob_X11_step_0_inv_14 nb nn M hp0 n N_ hmu hinv r_11 er_11 c_12 v_13 ev_13 M_14 eM_14) hres hP hS (lv_sub hl [0] rfl) hex
      · replace hres := hres.trans (if_neg c_12)
        refine lv_aload_n hx hb dX11_step_13 rfl (lv_at hl 0 rfl) ?_
        refine lv_aload_n hx hb dX11_step_14 rfl (lv_at hl 0 rfl) ?_
        refine gf_RX11_178 hx hb hts hown hK hP (hL 40 0 (xe_40 nb nn)) dX11_step_15 ?_
        refine x_callVi (As := [.int (N_ 40 0 24)]) S hK hAm hD hP hS mt_X11_byteAt wd_576 ⟨by decide, by decide⟩ (hL 40 0 (xe_40 nb nn)) (xc40 g 0) rfl (c_X11_byteAt l nb nn g L N_ hD hL (N_ 40 0 24) (ob_X11_step_18_p0 nb nn M hp0 n N_ hmu hinv r_11 er_11 c_12) (ob_X11_step_18_p1 nb nn M hp0 n N_ hmu hinv r_11 er_11 c_12)) rfl hl.1 (Nat.le_of_ble_eq_true rfl) ⟨Nat.zero_le _, Nat.zero_le _⟩ dX11_step_18 rfl (fun r_15 u H locs hp_ hP hS => ?_)
        obtain ⟨er_15, eu_⟩ := hp_
        rw [eu_] at hP
        clear eu_
        obtain rfl : r_11 = r_15 := er_11.trans er_15.symm
        clear er_15
        refine lv_bipush (v := 10) hx hb dX11_step_21 (by decide) ?_
        refine lv_icmp_ne (tgt := 39) hx hb dX11_step_23 (by decide) (fun c_16 => ?_) (fun c_16 => ?_)
        · replace hres := hres.trans (if_neg c_16)
          exact hex  N_ _ _ _ (ob_X11_step_39_x0 nb nn M hp0 n N_ hmu hinv r_11 er_11 c_12 c_16) hres hP hS (lv_sub hl [0] rfl)
        · replace hres := hres.trans (if_pos c_16)
          refine lv_aload_n hx hb dX11_step_26 rfl (lv_at hl 0 rfl) ?_
          refine lv_dup hx hb dX11_step_27 rfl ?_
          refine gf_RX11_178 hx hb hts hown hK hP (hL 40 0 (xe_40 nb nn)) dX11_step_28 ?_
          refine lv_iconst (v := 1) hx hb dX11_step_31 (by decide) ?_
          refine lv_iadd hx hb dX11_step_32 ?_
          refine lv_topi (fun v_17 ev_17 => ?_)
          replace hres := xlet_n hres ev_17
          refine pf_RX11_178 hx hb hts hown hK hP hD hS (hL 40 0 (xe_40 nb nn)) dX11_step_33 (fun H locs hP hS => ?_)
          obtain ⟨M_18, eM_18⟩ : ∃ z_ : xM, z_ = xup N_ 40 0 24 v_17 := ⟨_, rfl⟩
          rw [← eM_18] at hP
          replace hres := xlet_n hres eM_18
          refine lv_goto (tgt := 0) hx hb dX11_step_36 (by decide) ?_
          exact ih  M_18 _ _ _ kx (ob_X11_step_0_mu_18 nb nn M hp0 n N_ hmu hinv r_11 er_11 c_12 c_16 v_17 ev_17 M_18 eM_18) (ob_X11_step_0_inv_18 nb nn M hp0 n N_ hmu hinv r_11 er_11 c_12 c_16 v_17 ev_17 M_18 eM_18) hres hP hS (lv_sub hl [0] rfl) hex
  have hres := hF
  rw [f_X11_step] at hres
  refine k_0 (xmu (M 40 0 24) (M 40 0 23) + 1)  M _ _ _ _ (Nat.lt_succ_self _) (ob_X11_step_0_ini_18 nb nn M hp0) hres hP hS (lv_sub hl [0] rfl) ?_
  clear hres hP hS hl
  intro  M_19 H locs ls hiv_19 hres hP hS hl
  refine lv_aload_n hx hb dX11_step_39 rfl (lv_at hl 0 rfl) ?_
  refine lv_aload_n hx hb dX11_step_40 rfl (lv_at hl 0 rfl) ?_
  refine gf_RX11_178 hx hb hts hown hK hP (hL 40 0 (xe_40 nb nn)) dX11_step_41 ?_
  refine lv_topi (fun v_20 ev_20 => ?_)
  replace hres := xlet_n hres ev_20
  refine pf_RX11_184 hx hb hts hown hK hP hD hS (hL 40 0 (xe_40 nb nn)) dX11_step_44 (fun H locs hP hS => ?_)
  obtain ⟨M_21, eM_21⟩ : ∃ z_ : xM, z_ = xup M_19 40 0 26 v_20 := ⟨_, rfl⟩
  rw [← eM_21] at hP
  replace hres := xlet_n hres eM_21
  refine lv_aload_n hx hb dX11_step_47 rfl (lv_at hl 0 rfl) ?_
  refine lv_aload_n hx hb dX11_step_48 rfl (lv_at hl 0 rfl) ?_
  refine gf_RX11_178 hx hb hts hown hK hP (hL 40 0 (xe_40 nb nn)) dX11_step_49 ?_
  refine x_callVi (As := [.int (M_21 40 0 24)]) S hK hAm hD hP hS mt_X11_byteAt wd_576 ⟨by decide, by decide⟩ (hL 40 0 (xe_40 nb nn)) (xc40 g 0) rfl (c_X11_byteAt l nb nn g L M_21 hD hL (M_21 40 0 24) (ob_X11_step_52_p0 nb nn M hp0 M_19 hiv_19 v_20 ev_20 M_21 eM_21) (ob_X11_step_52_p1 nb nn M hp0 M_19 hiv_19 v_20 ev_20 M_21 eM_21)) rfl hl.1 (Nat.le_of_ble_eq_true rfl) ⟨Nat.zero_le _, Nat.zero_le _⟩ dX11_step_52 rfl (fun r_22 u H locs hp_ hP hS => ?_)
  obtain ⟨er_22, eu_⟩ := hp_
  rw [eu_] at hP
  clear eu_
  replace hres := xlet_n hres er_22
  refine lv_istore_n (lv' := [(1, .int r_22), (0, .ref (xad g 40 0))]) hx hb dX11_step_55 rfl hl (by decide) rfl (fun ls hl => ?_)
  refine lv_iload_n hx hb dX11_step_56 rfl (lv_at hl 0 rfl) ?_
  refine lv_ldc (own := RX11) (v := (-1000000)) hx hb hown (hts _ (List.mem_cons_of_mem _ wd_302)) dX11_step_57 ?_
  refine lv_icmp_ne (tgt := 70) hx hb dX11_step_59 (by decide) (fun c_23 => ?_) (fun c_23 => ?_)
  · replace hres := hres.trans (if_neg c_23)
    refine lv_iload_n hx hb dX11_step_70 rfl (lv_at hl 0 rfl) ?_
    refine x_callSi (As := [.int r_22]) S hK hAm hD hP hS mt_X11_isLetter wd_580 ⟨by decide, by decide⟩ (c_X11_isLetter l nb nn g L M_21 hD hL r_22) rfl hl.1 (Nat.le_of_ble_eq_true rfl) ⟨Nat.zero_le _, Nat.zero_le _⟩ dX11_step_71 rfl (fun r_24 u H locs hp_ hP hS => ?_)
    obtain ⟨er_24, eu_⟩ := hp_
    rw [eu_] at hP
    clear eu_
    replace hres := xlet_n hres er_24
    refine lv_if_eq (tgt := 112) hx hb dX11_step_74 (by decide) (fun c_25 => ?_) (fun c_25 => ?_)
    · replace hres := hres.trans (if_pos c_25)
      refine lv_iload_n hx hb dX11_step_112 rfl (lv_at hl 0 rfl) ?_
      refine x_callSi (As := [.int r_22]) S hK hAm hD hP hS mt_X11_isFigure wd_583 ⟨by decide, by decide⟩ (c_X11_isFigure l nb nn g L M_21 hD hL r_22) rfl hl.1 (Nat.le_of_ble_eq_true rfl) ⟨Nat.zero_le _, Nat.zero_le _⟩ dX11_step_113 rfl (fun r_26 u H locs hp_ hP hS => ?_)
      obtain ⟨er_26, eu_⟩ := hp_
      rw [eu_] at hP
      clear eu_
      replace hres := xlet_n hres er_26
      refine lv_if_eq (tgt := 171) hx hb dX11_step_116 (by decide) (fun c_27 => ?_) (fun c_27 => ?_)
      · replace hres := hres.trans (if_pos c_27)
        refine lv_aload_n hx hb dX11_step_171 rfl (lv_at hl 1 rfl) ?_
        refine lv_dup hx hb dX11_step_172 rfl ?_
        refine gf_RX11_178 hx hb hts hown hK hP (hL 40 0 (xe_40 nb nn)) dX11_step_173 ?_
        refine lv_iconst (v := 1) hx hb dX11_step_176 (by decide) ?_
        refine lv_iadd hx hb dX11_step_177 ?_
        refine lv_topi (fun v_28 ev_28 => ?_)
        replace hres := xlet_n hres ev_28
        refine pf_RX11_178 hx hb hts hown hK hP hD hS (hL 40 0 (xe_40 nb nn)) dX11_step_178 (fun H locs hP hS => ?_)
        obtain ⟨M_29, eM_29⟩ : ∃ z_ : xM, z_ = xup M_21 40 0 24 v_28 := ⟨_, rfl⟩
        rw [← eM_29] at hP
        replace hres := xlet_n hres eM_29
        refine lv_aload_n hx hb dX11_step_181 rfl (lv_at hl 1 rfl) ?_
        refine lv_iload_n hx hb dX11_step_182 rfl (lv_at hl 0 rfl) ?_
        refine lv_bipush (v := 59) hx hb dX11_step_183 (by decide) ?_
        refine lv_icmp_ne (tgt := 192) hx hb dX11_step_185 (by decide) (fun c_30 => ?_) (fun c_30 => ?_)
        · replace hres := hres.trans (if_neg c_30)
          refine lv_iconst (v := 0) hx hb dX11_step_192 (by decide) ?_
          refine pf_RX11_187 hx hb hts hown hK hP hD hS (hL 40 0 (xe_40 nb nn)) dX11_step_193 (fun H locs hP hS => ?_)
          obtain ⟨M_31, eM_31⟩ : ∃ z_ : xM, z_ = xup M_29 40 0 25 0 := ⟨_, rfl⟩
          rw [← eM_31] at hP
          replace hres := xlet_n hres eM_31
          refine lv_aload_n hx hb dX11_step_196 rfl (lv_at hl 1 rfl) ?_
          refine lv_aload_n hx hb dX11_step_197 rfl (lv_at hl 1 rfl) ?_
          refine gf_RX11_178 hx hb hts hown hK hP (hL 40 0 (xe_40 nb nn)) dX11_step_198 ?_
          refine lv_topi (fun v_32 ev_32 => ?_)
          replace hres := xlet_n hres ev_32
          refine pf_RX11_196 hx hb hts hown hK hP hD hS (hL 40 0 (xe_40 nb nn)) dX11_step_201 (fun H locs hP hS => ?_)
          obtain ⟨M_33, eM_33⟩ : ∃ z_ : xM, z_ = xup M_31 40 0 27 v_32 := ⟨_, rfl⟩
          rw [← eM_33] at hP
          replace hres := xlet_n hres eM_33
          exact x_retv hx hb hr hlk hP hS (hres.symm.trans hF) dX11_step_204
        · replace hres := hres.trans (if_pos c_30)
          refine lv_iconst (v := 4) hx hb dX11_step_188 (by decide) ?_
          refine lv_goto (tgt := 193) hx hb dX11_step_189 (by decide) ?_
          refine pf_RX11_187 hx hb hts hown hK hP hD hS (hL 40 0 (xe_40 nb nn)) dX11_step_193 (fun H locs hP hS => ?_)
          obtain ⟨M_34, eM_34⟩ : ∃ z_ : xM, z_ = xup M_29 40 0 25 4 := ⟨_, rfl⟩
          rw [← eM_34] at hP
          replace hres := xlet_n hres eM_34
          refine lv_aload_n hx hb dX11_step_196 rfl (lv_at hl 1 rfl) ?_
          refine lv_aload_n hx hb dX11_step_197 rfl (lv_at hl 1 rfl) ?_
          refine gf_RX11_178 hx hb hts hown hK hP (hL 40 0 (xe_40 nb nn)) dX11_step_198 ?_
          refine lv_topi (fun v_35 ev_35 => ?_)
          replace hres := xlet_n hres ev_35
          refine pf_RX11_196 hx hb hts hown hK hP hD hS (hL 40 0 (xe_40 nb nn)) dX11_step_201 (fun H locs hP hS => ?_)
          obtain ⟨M_36, eM_36⟩ : ∃ z_ : xM, z_ = xup M_34 40 0 27 v_35 := ⟨_, rfl⟩
          rw [← eM_36] at hP
          replace hres := xlet_n hres eM_36
          exact x_retv hx hb hr hlk hP hS (hres.symm.trans hF) dX11_step_204
      · replace hres := hres.trans (if_neg c_27)
        refine k_119 r_22 (xmu (M_21 40 0 24) (M_21 40 0 23) + 1)  M_21 _ _ _ _ (Nat.lt_succ_self _) (ob_X11_step_119_ini_36 nb nn M hp0 M_19 hiv_19 v_20 ev_20 M_21 eM_21 r_22 er_22 c_23 r_24 er_24 c_25 r_26 er_26 c_27) hres hP hS (lv_sub hl [1, 0] rfl) ?_
        clear hres hP hS hl
        intro  M_37 H locs ls hiv_37 hres hP hS hl
        refine lv_aload_n hx hb dX11_step_146 rfl (lv_at hl 0 rfl) ?_
        refine lv_aload_n hx hb dX11_step_147 rfl (lv_at hl 0 rfl) ?_
        refine gf_RX11_178 hx hb hts hown hK hP (hL 40 0 (xe_40 nb nn)) dX11_step_148 ?_
        refine lv_aload_n hx hb dX11_step_151 rfl (lv_at hl 0 rfl) ?_
        refine gf_RX11_184 hx hb hts hown hK hP (hL 40 0 (xe_40 nb nn)) dX11_step_152 ?_
        refine lv_isub hx hb dX11_step_155 ?_
        refine lv_iconst (v := 4) hx hb dX11_step_156 (by decide) ?_
        refine lv_icmp_le (tgt := 164) hx hb dX11_step_157 (by decide) (fun c_38 => ?_) (fun c_38 => ?_)
        · replace hres := hres.trans (if_pos c_38)
          refine lv_iconst (v := 3) hx hb dX11_step_164 (by decide) ?_
          refine pf_RX11_187 hx hb hts hown hK hP hD hS (hL 40 0 (xe_40 nb nn)) dX11_step_165 (fun H locs hP hS => ?_)
          obtain ⟨M_39, eM_39⟩ : ∃ z_ : xM, z_ = xup M_37 40 0 25 3 := ⟨_, rfl⟩
          rw [← eM_39] at hP
          replace hres := xlet_n hres eM_39
          refine lv_goto (tgt := 196) hx hb dX11_step_168 (by decide) ?_
          refine lv_aload_n hx hb dX11_step_196 rfl (lv_at hl 0 rfl) ?_
          refine lv_aload_n hx hb dX11_step_197 rfl (lv_at hl 0 rfl) ?_
          refine gf_RX11_178 hx hb hts hown hK hP (hL 40 0 (xe_40 nb nn)) dX11_step_198 ?_
          refine lv_topi (fun v_40 ev_40 => ?_)
          replace hres := xlet_n hres ev_40
          refine pf_RX11_196 hx hb hts hown hK hP hD hS (hL 40 0 (xe_40 nb nn)) dX11_step_201 (fun H locs hP hS => ?_)
          obtain ⟨M_41, eM_41⟩ : ∃ z_ : xM, z_ = xup M_39 40 0 27 v_40 := ⟨_, rfl⟩
          rw [← eM_41] at hP
          replace hres := xlet_n hres eM_41
          exact x_retv hx hb hr hlk hP hS (hres.symm.trans hF) dX11_step_204
        · replace hres := hres.trans (if_neg c_38)
          refine lv_iconst (v := 0) hx hb dX11_step_160 (by decide) ?_
          refine lv_goto (tgt := 165) hx hb dX11_step_161 (by decide) ?_
          refine pf_RX11_187 hx hb hts hown hK hP hD hS (hL 40 0 (xe_40 nb nn)) dX11_step_165 (fun H locs hP hS => ?_)
          obtain ⟨M_42, eM_42⟩ : ∃ z_ : xM, z_ = xup M_37 40 0 25 0 := ⟨_, rfl⟩
          rw [← eM_42] at hP
          replace hres := xlet_n hres eM_42
          refine lv_goto (tgt := 196) hx hb dX11_step_168 (by decide) ?_
          refine lv_aload_n hx hb dX11_step_196 rfl (lv_at hl 0 rfl) ?_
          refine lv_aload_n hx hb dX11_step_197 rfl (lv_at hl 0 rfl) ?_
          refine gf_RX11_178 hx hb hts hown hK hP (hL 40 0 (xe_40 nb nn)) dX11_step_198 ?_
          refine lv_topi (fun v_43 ev_43 => ?_)
          replace hres := xlet_n hres ev_43
          refine pf_RX11_196 hx hb hts hown hK hP hD hS (hL 40 0 (xe_40 nb nn)) dX11_step_201 (fun H locs hP hS => ?_)
          obtain ⟨M_44, eM_44⟩ : ∃ z_ : xM, z_ = xup M_42 40 0 27 v_43 := ⟨_, rfl⟩
          rw [← eM_44] at hP
          replace hres := xlet_n hres eM_44
          exact x_retv hx hb hr hlk hP hS (hres.symm.trans hF) dX11_step_204
    · replace hres := hres.trans (if_neg c_25)
      refine k_77 r_22 (xmu (M_21 40 0 24) (M_21 40 0 23) + 1)  M_21 _ _ _ _ (Nat.lt_succ_self _) (ob_X11_step_77_ini_44 nb nn M hp0 M_19 hiv_19 v_20 ev_20 M_21 eM_21 r_22 er_22 c_23 r_24 er_24 c_25) hres hP hS (lv_sub hl [1, 0] rfl) ?_
      clear hres hP hS hl
      intro  M_45 H locs ls hiv_45 hres hP hS hl
      refine lv_aload_n hx hb dX11_step_104 rfl (lv_at hl 0 rfl) ?_
      refine lv_iconst (v := 2) hx hb dX11_step_105 (by decide) ?_
      refine pf_RX11_187 hx hb hts hown hK hP hD hS (hL 40 0 (xe_40 nb nn)) dX11_step_106 (fun H locs hP hS => ?_)
      obtain ⟨M_46, eM_46⟩ : ∃ z_ : xM, z_ = xup M_45 40 0 25 2 := ⟨_, rfl⟩
      rw [← eM_46] at hP
      replace hres := xlet_n hres eM_46
      refine lv_goto (tgt := 196) hx hb dX11_step_109 (by decide) ?_
      refine lv_aload_n hx hb dX11_step_196 rfl (lv_at hl 0 rfl) ?_
      refine lv_aload_n hx hb dX11_step_197 rfl (lv_at hl 0 rfl) ?_
      refine gf_RX11_178 hx hb hts hown hK hP (hL 40 0 (xe_40 nb nn)) dX11_step_198 ?_
      refine lv_topi (fun v_47 ev_47 => ?_)
      replace hres := xlet_n hres ev_47
      refine pf_RX11_196 hx hb hts hown hK hP hD hS (hL 40 0 (xe_40 nb nn)) dX11_step_201 (fun H locs hP hS => ?_)
      obtain ⟨M_48, eM_48⟩ : ∃ z_ : xM, z_ = xup M_46 40 0 27 v_47 := ⟨_, rfl⟩
      rw [← eM_48] at hP
      replace hres := xlet_n hres eM_48
      exact x_retv hx hb hr hlk hP hS (hres.symm.trans hF) dX11_step_204
  · replace hres := hres.trans (if_pos c_23)
    refine lv_aload_n hx hb dX11_step_62 rfl (lv_at hl 1 rfl) ?_
    refine lv_iconst (v := 1) hx hb dX11_step_63 (by decide) ?_
    refine pf_RX11_187 hx hb hts hown hK hP hD hS (hL 40 0 (xe_40 nb nn)) dX11_step_64 (fun H locs hP hS => ?_)
    obtain ⟨M_49, eM_49⟩ : ∃ z_ : xM, z_ = xup M_21 40 0 25 1 := ⟨_, rfl⟩
    rw [← eM_49] at hP
    replace hres := xlet_n hres eM_49
    refine lv_goto (tgt := 196) hx hb dX11_step_67 (by decide) ?_
    refine lv_aload_n hx hb dX11_step_196 rfl (lv_at hl 1 rfl) ?_
    refine lv_aload_n hx hb dX11_step_197 rfl (lv_at hl 1 rfl) ?_
    refine gf_RX11_178 hx hb hts hown hK hP (hL 40 0 (xe_40 nb nn)) dX11_step_198 ?_
    refine lv_topi (fun v_50 ev_50 => ?_)
    replace hres := xlet_n hres ev_50
    refine pf_RX11_196 hx hb hts hown hK hP hD hS (hL 40 0 (xe_40 nb nn)) dX11_step_201 (fun H locs hP hS => ?_)
    obtain ⟨M_51, eM_51⟩ : ∃ z_ : xM, z_ = xup M_49 40 0 27 v_50 := ⟨_, rfl⟩
    rw [← eM_51] at hP
    replace hres := xlet_n hres eM_51
    exact x_retv hx hb hr hlk hP hS (hres.symm.trans hF) dX11_step_204
set_option maxHeartbeats 4000000 in
set_option maxRecDepth 100000 in
theorem c_X11_falls (l : Launch) (nb nn : Nat) (g : xG) (L : List (Nat × Nat)) (M : xM) (hD : xD g L) (hL : xEL nb nn L) (what : Int32) (hp0 : 0 ≤ M 40 0 7) (hp1 : M 40 0 7 ≤ 8) : xCi l yX11_falls cX11_falls 9 (some .int) 1 g L M [.ref (xad g 40 0), .int what] (fun r u => (r, u) = f_X11_falls what M) := by
  intro sz
  refine x_beg (by decide +kernel) rfl ?_
  intro p e s m args below meth c ls hsz hB
  subst hsz
  obtain ⟨hx, hb, hml, hown, hts, hr, hlk, hK, hAm, hP, hl⟩ := hB
  have S : CallFix p m c cX11_falls 9 s args (xws yX11_falls cX11_falls 9 (some .int)) RX11 := ⟨hx, hb, hml, hown, hts⟩
  have hown : s.vm.findClass RX11 = some m.cls := hown
  have hl : lv_has ls 9 [(0, .ref (xad g 40 0)), (1, .int what)] := hl
  have hS : va_S (xA g L s.heap.size) s.heap s.heap [] := va_S.rf
  obtain ⟨F, hF⟩ : ∃ F, F = f_X11_falls what M := ⟨_, rfl⟩
  have k_92 : ∀ (fallen : Int32) (rounds : Int32) (more : Int32) (now : Int32) (a : Int32) (N_ : xM) (n : Nat) (has : Int32) (b : Int32) (H : Heap) (locs : List Loc) (ls : Array Slot) (kx : (Int32 → Int32 → Int32 × xM)), xmu b (N_ 40 0 7) < n → 0 ≤ N_ 40 0 7 ∧ N_ 40 0 7 ≤ 8 ∧ 0 ≤ b ∧ 0 ≤ a ∧ a < N_ 40 0 7 → F = f_X11_falls_L92 what fallen rounds more now a N_ n has b kx → xP g L N_ H → va_S (xA g L s.heap.size) s.heap H locs → lv_has ls 9 [(0, .ref (xad g 40 0)), (1, .int what), (2, .int fallen), (3, .int rounds), (4, .int more), (5, .int now), (6, .int a), (7, .int has), (8, .int b)] → (∀ (has : Int32) (b : Int32) (H : Heap) (locs : List Loc) (ls : Array Slot), 0 ≤ N_ 40 0 7 ∧ N_ 40 0 7 ≤ 8 ∧ 0 ≤ b ∧ 0 ≤ a ∧ a < N_ 40 0 7 → F = kx has b → xP g L N_ H → va_S (xA g L s.heap.size) s.heap H locs → lv_has ls 9 [(0, .ref (xad g 40 0)), (1, .int what), (2, .int fallen), (3, .int rounds), (4, .int more), (5, .int now), (6, .int a), (7, .int has), (8, .int b)] → W p l e (xr 1) s m args below meth c H locs 0 0 (MQ below (va_Qi (fun r u => (r, u) = f_X11_falls what M) (xPost g L) (xA g L s.heap.size)) args s 0 0 (xA g L s.heap.size)) (F0 m 145 ls [])) → W p l e (xr 1) s m args below meth c H locs 0 0 (MQ below (va_Qi (fun r u => (r, u) = f_X11_falls what M) (xPost g L) (xA g L s.heap.size)) args s 0 0 (xA g L s.heap.size)) (F0 m 92 ls []) := by
    intro fallen rounds more now a N_ n
    induction n with
    | zero => intro has b H locs ls kx hmu; exact absurd hmu (Nat.not_lt_zero _)
    | succ n ih =>
      intro has b H locs ls kx hmu hinv hres hP hS hl hex
      replace hres : F = _ := hres.trans (by rw [f_X11_falls_L92])
      refine lv_iload hx hb dX11_falls_92 (lv_at hl 8 rfl) ?_
      refine lv_aload_n hx hb dX11_falls_94 rfl (lv_at hl 0 rfl) ?_
      refine gf_RX11_150 hx hb hts hown hK hP (hL 40 0 (xe_40 nb nn)) dX11_falls_95 ?_
      refine lv_icmp_ge (tgt := 145) hx hb dX11_falls_98 (by decide) (fun c_1 => ?_) (fun c_1 => ?_)
      · replace hres := hres.trans (if_pos c_1)
        exact hex has b _ _ _ (ob_X11_falls_145_x92 nb nn what M hp0 hp1 fallen rounds more now a n has b N_ hmu hinv c_1) hres hP hS (lv_sub hl [0, 1, 2, 3, 4, 5, 6, 7, 8] rfl)
      · replace hres := hres.trans (if_neg c_1)
        refine lv_iload hx hb dX11_falls_101 (lv_at hl 7 rfl) ?_
        refine lv_iload hx hb dX11_falls_103 (lv_at hl 8 rfl) ?_
        refine lv_iload hx hb dX11_falls_105 (lv_at hl 6 rfl) ?_
        refine lv_icmp_eq (tgt := 135) hx hb dX11_falls_107 (by decide) (fun c_2 => ?_) (fun c_2 => ?_)
        · replace hres := hres.trans (if_pos c_2)
          refine lv_iconst (v := 0) hx hb dX11_falls_135 (by decide) ?_
          refine lv_iadd hx hb dX11_falls_136 ?_
          refine lv_topi (fun x7_3 ex7_3 => ?_)
          replace hres := xlet_n hres ex7_3
          refine lv_istore (lv' := [(7, .int x7_3), (0, .ref (xad g 40 0)), (1, .int what), (2, .int fallen), (3, .int rounds), (4, .int more), (5, .int now), (6, .int a), (8, .int b)]) hx hb dX11_falls_137 hl (by decide) rfl (fun ls hl => ?_)
          obtain ⟨x8_4, ex8_4⟩ : ∃ z_ : Int32, z_ = b + 1 := ⟨_, rfl⟩
          replace hres := xlet_n hres ex8_4
          refine lv_iinc (v := x8_4) (lv' := [(8, .int x8_4), (7, .int x7_3), (0, .ref (xad g 40 0)), (1, .int what), (2, .int fallen), (3, .int rounds), (4, .int more), (5, .int now), (6, .int a)]) hx hb dX11_falls_139 hl (k := 8) rfl (by rw [ex8_4]; rfl) (by decide) rfl (fun ls hl => ?_)
          refine lv_goto (tgt := 92) hx hb dX11_falls_142 (by decide) ?_
          exact ih x7_3 x8_4 _ _ _ kx (ob_X11_falls_92_mu_4 nb nn what M hp0 hp1 fallen rounds more now a n has b N_ hmu hinv c_1 c_2 x7_3 ex7_3 x8_4 ex8_4) (ob_X11_falls_92_inv_4 nb nn what M hp0 hp1 fallen rounds more now a n has b N_ hmu hinv c_1 c_2 x7_3 ex7_3 x8_4 ex8_4) hres hP hS (lv_sub hl [2, 3, 4, 5, 6, 7, 8, 1, 0] rfl) hex
        · replace hres := hres.trans (if_neg c_2)
          refine lv_iload_n hx hb dX11_falls_110 rfl (lv_at hl 2 rfl) ?_
          refine lv_iload hx hb dX11_falls_111 (lv_at hl 8 rfl) ?_
          refine lv_ishr hx hb dX11_falls_113 ?_
          refine lv_iconst (v := 1) hx hb dX11_falls_114 (by decide) ?_
          refine lv_iand hx hb dX11_falls_115 ?_
          refine lv_if_ne (tgt := 135) hx hb dX11_falls_116 (by decide) (fun c_5 => ?_) (fun c_5 => ?_)
          · replace hres := hres.trans (if_neg c_5)
            refine lv_iconst (v := 0) hx hb dX11_falls_135 (by decide) ?_
            refine lv_iadd hx hb dX11_falls_136 ?_
            refine lv_topi (fun x7_6 ex7_6 => ?_)
            replace hres := xlet_n hres ex7_6
            refine lv_istore (lv' := [(7, .int x7_6), (0, .ref (xad g 40 0)), (1, .int what), (2, .int fallen), (3, .int rounds), (4, .int more), (5, .int now), (6, .int a), (8, .int b)]) hx hb dX11_falls_137 hl (by decide) rfl (fun ls hl => ?_)
            obtain ⟨x8_7, ex8_7⟩ : ∃ z_ : Int32, z_ = b + 1 := ⟨_, rfl⟩
            replace hres := xlet_n hres ex8_7
            refine lv_iinc (v := x8_7) (lv' := [(8, .int x8_7), (7, .int x7_6), (0, .ref (xad g 40 0)), (1, .int what), (2, .int fallen), (3, .int rounds), (4, .int more), (5, .int now), (6, .int a)]) hx hb dX11_falls_139 hl (k := 8) rfl (by rw [ex8_7]; rfl) (by decide) rfl (fun ls hl => ?_)
            refine lv_goto (tgt := 92) hx hb dX11_falls_142 (by decide) ?_
            exact ih x7_6 x8_7 _ _ _ kx (ob_X11_falls_92_mu_7 nb nn what M hp0 hp1 fallen rounds more now a n has b N_ hmu hinv c_1 c_2 c_5 x7_6 ex7_6 x8_7 ex8_7) (ob_X11_falls_92_inv_7 nb nn what M hp0 hp1 fallen rounds more now a n has b N_ hmu hinv c_1 c_2 c_5 x7_6 ex7_6 x8_7 ex8_7) hres hP hS (lv_sub hl [2, 3, 4, 5, 6, 7, 8, 1, 0] rfl) hex
          · replace hres := hres.trans (if_pos c_5)
            refine lv_aload_n hx hb dX11_falls_119 rfl (lv_at hl 0 rfl) ?_
            refine gf_RX11_38 hx hb hts hown hK hP (hL 40 0 (xe_40 nb nn)) dX11_falls_120 ?_
            refine lv_bipush (v := 8) hx hb dX11_falls_123 (by decide) ?_
            refine lv_iload hx hb dX11_falls_125 (lv_at hl 6 rfl) ?_
            refine lv_imul hx hb dX11_falls_127 ?_
            refine lv_iload hx hb dX11_falls_128 (lv_at hl 8 rfl) ?_
            refine lv_iadd hx hb dX11_falls_130 ?_
            refine x_iald hx hb hK hP (hL 62 0 (xe_62 nb nn)) (xc62 g 0) (ob_X11_falls_131_in nb nn what M hp0 hp1 fallen rounds more now a n has b N_ hmu hinv c_1 c_2 c_5) dX11_falls_131 ?_
            refine lv_goto (tgt := 136) hx hb dX11_falls_132 (by decide) ?_
            refine lv_iadd hx hb dX11_falls_136 ?_
            refine lv_topi (fun x7_8 ex7_8 => ?_)
            replace hres := xlet_n hres ex7_8
            refine lv_istore (lv' := [(7, .int x7_8), (0, .ref (xad g 40 0)), (1, .int what), (2, .int fallen), (3, .int rounds), (4, .int more), (5, .int now), (6, .int a), (8, .int b)]) hx hb dX11_falls_137 hl (by decide) rfl (fun ls hl => ?_)
            obtain ⟨x8_9, ex8_9⟩ : ∃ z_ : Int32, z_ = b + 1 := ⟨_, rfl⟩
            replace hres := xlet_n hres ex8_9
            refine lv_iinc (v := x8_9) (lv' := [(8, .int x8_9), (7, .int x7_8), (0, .ref (xad g 40 0)), (1, .int what), (2, .int fallen), (3, .int rounds), (4, .int more), (5, .int now), (6, .int a)]) hx hb dX11_falls_139 hl (k := 8) rfl (by rw [ex8_9]; rfl) (by decide) rfl (fun ls hl => ?_)
            refine lv_goto (tgt := 92) hx hb dX11_falls_142 (by decide) ?_
            exact ih x7_8 x8_9 _ _ _ kx (ob_X11_falls_92_mu_9 nb nn what M hp0 hp1 fallen rounds more now a n has b N_ hmu hinv c_1 c_2 c_5 x7_8 ex7_8 x8_9 ex8_9) (ob_X11_falls_92_inv_9 nb nn what M hp0 hp1 fallen rounds more now a n has b N_ hmu hinv c_1 c_2 c_5 x7_8 ex7_8 x8_9 ex8_9) hres hP hS (lv_sub hl [2, 3, 4, 5, 6, 7, 8, 1, 0] rfl) hex
  have k_71 : ∀ (fallen : Int32) (rounds : Int32) (more : Int32) (N_ : xM) (n : Nat) (now : Int32) (a : Int32) (H : Heap) (locs : List Loc) (ls : Array Slot) (kx : (Int32 → Int32 → Int32 × xM)), xmu a (N_ 40 0 7) < n → 0 ≤ N_ 40 0 7 ∧ N_ 40 0 7 ≤ 8 ∧ 0 ≤ a ∧ 0 ≤ fallen ∧ fallen ≤ now ∧ now < 256 → F = f_X11_falls_L71 what fallen rounds more N_ n now a kx → xP g L N_ H → va_S (xA g L s.heap.size) s.heap H locs → lv_has ls 9 [(0, .ref (xad g 40 0)), (1, .int what), (2, .int fallen), (3, .int rounds), (4, .int more), (5, .int now), (6, .int a)] → (∀ (now : Int32) (a : Int32) (H : Heap) (locs : List Loc) (ls : Array Slot), 0 ≤ N_ 40 0 7 ∧ N_ 40 0 7 ≤ 8 ∧ 0 ≤ a ∧ 0 ≤ fallen ∧ fallen ≤ now ∧ now < 256 → F = kx now a → xP g L N_ H → va_S (xA g L s.heap.size) s.heap H locs → lv_has ls 9 [(0, .ref (xad g 40 0)), (1, .int what), (2, .int fallen), (3, .int rounds), (4, .int more), (5, .int now), (6, .int a)] → W p l e (xr 1) s m args below meth c H locs 0 0 (MQ below (va_Qi (fun r u => (r, u) = f_X11_falls what M) (xPost g L) (xA g L s.heap.size)) args s 0 0 (xA g L s.heap.size)) (F0 m 179 ls [])) → W p l e (xr 1) s m args below meth c H locs 0 0 (MQ below (va_Qi (fun r u => (r, u) = f_X11_falls what M) (xPost g L) (xA g L s.heap.size)) args s 0 0 (xA g L s.heap.size)) (F0 m 71 ls []) := by
    intro fallen rounds more N_ n
    induction n with
    | zero => intro now a H locs ls kx hmu; exact absurd hmu (Nat.not_lt_zero _)
    | succ n ih =>
      intro now a H locs ls kx hmu hinv hres hP hS hl hex
      replace hres : F = _ := hres.trans (by rw [f_X11_falls_L71])
      refine lv_iload hx hb dX11_falls_71 (lv_at hl 6 rfl) ?_
      refine lv_aload_n hx hb dX11_falls_73 rfl (lv_at hl 0 rfl) ?_
      refine gf_RX11_150 hx hb hts hown hK hP (hL 40 0 (xe_40 nb nn)) dX11_falls_74 ?_
      refine lv_icmp_ge (tgt := 179) hx hb dX11_falls_77 (by decide) (fun c_10 => ?_) (fun c_10 => ?_)
      · replace hres := hres.trans (if_pos c_10)
        exact hex now a _ _ _ (ob_X11_falls_179_x71 nb nn what M hp0 hp1 fallen rounds more n now a N_ hmu hinv c_10) hres hP hS (lv_sub hl [0, 1, 2, 3, 4, 5, 6] rfl)
      · replace hres := hres.trans (if_neg c_10)
        refine lv_aload_n hx hb dX11_falls_80 rfl (lv_at hl 0 rfl) ?_
        refine gf_RX11_28 hx hb hts hown hK hP (hL 40 0 (xe_40 nb nn)) dX11_falls_81 ?_
        refine lv_iload hx hb dX11_falls_84 (lv_at hl 6 rfl) ?_
        refine x_iald hx hb hK hP (hL 59 0 (xe_59 nb nn)) (xc59 g 0) (ob_X11_falls_86_in nb nn what M hp0 hp1 fallen rounds more n now a N_ hmu hinv c_10) dX11_falls_86 ?_
        refine lv_topi (fun x7_11 ex7_11 => ?_)
        replace hres := xlet_n hres ex7_11
        refine lv_istore (lv' := [(7, .int x7_11), (0, .ref (xad g 40 0)), (1, .int what), (2, .int fallen), (3, .int rounds), (4, .int more), (5, .int now), (6, .int a)]) hx hb dX11_falls_87 hl (by decide) rfl (fun ls hl => ?_)
        refine lv_iconst (v := 0) hx hb dX11_falls_89 (by decide) ?_
        refine lv_istore (lv' := [(8, .int 0), (7, .int x7_11), (0, .ref (xad g 40 0)), (1, .int what), (2, .int fallen), (3, .int rounds), (4, .int more), (5, .int now), (6, .int a)]) hx hb dX11_falls_90 hl (by decide) rfl (fun ls hl => ?_)
        refine k_92 fallen rounds more now a N_ (xmu (0 : Int32) (N_ 40 0 7) + 1) x7_11 (0 : Int32) _ _ _ _ (Nat.lt_succ_self _) (ob_X11_falls_92_ini_11 nb nn what M hp0 hp1 fallen rounds more n now a N_ hmu hinv c_10 x7_11 ex7_11) hres hP hS (lv_sub hl [2, 3, 4, 5, 6, 7, 8, 1, 0] rfl) ?_
        clear hres hP hS hl
        intro has_12 b_13 H locs ls hiv_13 hres hP hS hl
        refine lv_iload hx hb dX11_falls_145 (lv_at hl 5 rfl) ?_
        refine lv_iload hx hb dX11_falls_147 (lv_at hl 7 rfl) ?_
        refine lv_aload_n hx hb dX11_falls_149 rfl (lv_at hl 0 rfl) ?_
        refine gf_RX11_38 hx hb hts hown hK hP (hL 40 0 (xe_40 nb nn)) dX11_falls_150 ?_
        refine lv_bipush (v := 9) hx hb dX11_falls_153 (by decide) ?_
        refine lv_iload hx hb dX11_falls_155 (lv_at hl 6 rfl) ?_
        refine lv_imul hx hb dX11_falls_157 ?_
        refine x_iald hx hb hK hP (hL 62 0 (xe_62 nb nn)) (xc62 g 0) (ob_X11_falls_158_in nb nn what M hp0 hp1 fallen rounds more n now a N_ hmu hinv c_10 x7_11 ex7_11 has_12 b_13 hiv_13) dX11_falls_158 ?_
        refine lv_icmp_ge (tgt := 169) hx hb dX11_falls_159 (by decide) (fun c_14 => ?_) (fun c_14 => ?_)
        · replace hres := hres.trans (if_pos c_14)
          refine lv_iconst (v := 0) hx hb dX11_falls_169 (by decide) ?_
          refine lv_ior hx hb dX11_falls_170 ?_
          refine lv_topi (fun x5_15 ex5_15 => ?_)
          replace hres := xlet_n hres ex5_15
          refine lv_istore (lv' := [(5, .int x5_15), (0, .ref (xad g 40 0)), (1, .int what), (2, .int fallen), (3, .int rounds), (4, .int more), (6, .int a), (7, .int has_12), (8, .int b_13)]) hx hb dX11_falls_171 hl (by decide) rfl (fun ls hl => ?_)
          obtain ⟨x6_16, ex6_16⟩ : ∃ z_ : Int32, z_ = a + 1 := ⟨_, rfl⟩
          replace hres := xlet_n hres ex6_16
          refine lv_iinc (v := x6_16) (lv' := [(6, .int x6_16), (5, .int x5_15), (0, .ref (xad g 40 0)), (1, .int what), (2, .int fallen), (3, .int rounds), (4, .int more), (7, .int has_12), (8, .int b_13)]) hx hb dX11_falls_173 hl (k := 6) rfl (by rw [ex6_16]; rfl) (by decide) rfl (fun ls hl => ?_)
          refine lv_goto (tgt := 71) hx hb dX11_falls_176 (by decide) ?_
          exact ih x5_15 x6_16 _ _ _ kx (ob_X11_falls_71_mu_16 nb nn what M hp0 hp1 fallen rounds more n now a N_ hmu hinv c_10 x7_11 ex7_11 has_12 b_13 hiv_13 c_14 x5_15 ex5_15 x6_16 ex6_16) (ob_X11_falls_71_inv_16 nb nn what M hp0 hp1 fallen rounds more n now a N_ hmu hinv c_10 x7_11 ex7_11 has_12 b_13 hiv_13 c_14 x5_15 ex5_15 x6_16 ex6_16) hres hP hS (lv_sub hl [2, 3, 4, 5, 6, 1, 0] rfl) hex
        · replace hres := hres.trans (if_neg c_14)
          refine lv_iconst (v := 1) hx hb dX11_falls_162 (by decide) ?_
          refine lv_iload hx hb dX11_falls_163 (lv_at hl 6 rfl) ?_
          refine lv_ishl hx hb dX11_falls_165 ?_
          refine lv_goto (tgt := 170) hx hb dX11_falls_166 (by decide) ?_
          refine lv_ior hx hb dX11_falls_170 ?_
          refine lv_topi (fun x5_17 ex5_17 => ?_)
          replace hres := xlet_n hres ex5_17
          refine lv_istore (lv' := [(5, .int x5_17), (0, .ref (xad g 40 0)), (1, .int what), (2, .int fallen), (3, .int rounds), (4, .int more), (6, .int a), (7, .int has_12), (8, .int b_13)]) hx hb dX11_falls_171 hl (by decide) rfl (fun ls hl => ?_)
          obtain ⟨x6_18, ex6_18⟩ : ∃ z_ : Int32, z_ = a + 1 := ⟨_, rfl⟩
          replace hres := xlet_n hres ex6_18
          refine lv_iinc (v := x6_18) (lv' := [(6, .int x6_18), (5, .int x5_17), (0, .ref (xad g 40 0)), (1, .int what), (2, .int fallen), (3, .int rounds), (4, .int more), (7, .int has_12), (8, .int b_13)]) hx hb dX11_falls_173 hl (k := 6) rfl (by rw [ex6_18]; rfl) (by decide) rfl (fun ls hl => ?_)
          refine lv_goto (tgt := 71) hx hb dX11_falls_176 (by decide) ?_
          exact ih x5_17 x6_18 _ _ _ kx (ob_X11_falls_71_mu_18 nb nn what M hp0 hp1 fallen rounds more n now a N_ hmu hinv c_10 x7_11 ex7_11 has_12 b_13 hiv_13 c_14 x5_17 ex5_17 x6_18 ex6_18) (ob_X11_falls_71_inv_18 nb nn what M hp0 hp1 fallen rounds more n now a N_ hmu hinv c_10 x7_11 ex7_11 has_12 b_13 hiv_13 c_14 x5_17 ex5_17 x6_18 ex6_18) hres hP hS (lv_sub hl [2, 3, 4, 5, 6, 1, 0] rfl) hex
  have k_60 : ∀ (N_ : xM) (n : Nat) (fallen : Int32) (rounds : Int32) (more : Int32) (H : Heap) (locs : List Loc) (ls : Array Slot) (kx : (Int32 → Int32 → Int32 → Int32 × xM)), (if more = 0 then 0 else 1 + xmu fallen 256) < n → 0 ≤ N_ 40 0 7 ∧ N_ 40 0 7 ≤ 8 ∧ 0 ≤ fallen ∧ fallen < 256 → F = f_X11_falls_L60 what N_ n fallen rounds more kx → xP g L N_ H → va_S (xA g L s.heap.size) s.heap H locs → lv_has ls 9 [(0, .ref (xad g 40 0)), (1, .int what), (2, .int fallen), (3, .int rounds), (4, .int more)] → (∀ (fallen : Int32) (rounds : Int32) (more : Int32) (H : Heap) (locs : List Loc) (ls : Array Slot), 0 ≤ N_ 40 0 7 ∧ N_ 40 0 7 ≤ 8 ∧ 0 ≤ fallen ∧ fallen < 256 → F = kx fallen rounds more → xP g L N_ H → va_S (xA g L s.heap.size) s.heap H locs → lv_has ls 9 [(0, .ref (xad g 40 0)), (1, .int what), (2, .int fallen), (3, .int rounds), (4, .int more)] → W p l e (xr 1) s m args below meth c H locs 0 0 (MQ below (va_Qi (fun r u => (r, u) = f_X11_falls what M) (xPost g L) (xA g L s.heap.size)) args s 0 0 (xA g L s.heap.size)) (F0 m 211 ls [])) → W p l e (xr 1) s m args below meth c H locs 0 0 (MQ below (va_Qi (fun r u => (r, u) = f_X11_falls what M) (xPost g L) (xA g L s.heap.size)) args s 0 0 (xA g L s.heap.size)) (F0 m 60 ls []) := by
    intro N_ n
    induction n with
    | zero => intro fallen rounds more H locs ls kx hmu; exact absurd hmu (Nat.not_lt_zero _)
    | succ n ih =>
      intro fallen rounds more H locs ls kx hmu hinv hres hP hS hl hex
      replace hres : F = _ := hres.trans (by rw [f_X11_falls_L60])
      refine lv_iload hx hb dX11_falls_60 (lv_at hl 4 rfl) ?_
      refine lv_if_eq (tgt := 211) hx hb dX11_falls_62 (by decide) (fun c_19 => ?_) (fun c_19 => ?_)
      · replace hres := hres.trans (if_pos c_19)
        exact hex fallen rounds more _ _ _ (ob_X11_falls_211_x60 nb nn what M hp0 hp1 n fallen rounds more N_ hmu hinv c_19) hres hP hS (lv_sub hl [0, 1, 2, 3, 4] rfl)
      · replace hres := hres.trans (if_neg c_19)
        refine lv_iload_n hx hb dX11_falls_65 rfl (lv_at hl 2 rfl) ?_
        refine lv_istore (lv' := [(5, .int fallen), (0, .ref (xad g 40 0)), (1, .int what), (2, .int fallen), (3, .int rounds), (4, .int more)]) hx hb dX11_falls_66 hl (by decide) rfl (fun ls hl => ?_)
        refine lv_iconst (v := 0) hx hb dX11_falls_68 (by decide) ?_
        refine lv_istore (lv' := [(6, .int 0), (5, .int fallen), (0, .ref (xad g 40 0)), (1, .int what), (2, .int fallen), (3, .int rounds), (4, .int more)]) hx hb dX11_falls_69 hl (by decide) rfl (fun ls hl => ?_)
        refine k_71 fallen rounds more N_ (xmu (0 : Int32) (N_ 40 0 7) + 1) fallen (0 : Int32) _ _ _ _ (Nat.lt_succ_self _) (ob_X11_falls_71_ini_19 nb nn what M hp0 hp1 n fallen rounds more N_ hmu hinv c_19) hres hP hS (lv_sub hl [2, 3, 4, 5, 6, 1, 0] rfl) ?_
        clear hres hP hS hl
        intro now_20 a_21 H locs ls hiv_21 hres hP hS hl
        refine lv_iload hx hb dX11_falls_179 (lv_at hl 5 rfl) ?_
        refine lv_iload_n hx hb dX11_falls_181 rfl (lv_at hl 2 rfl) ?_
        refine lv_icmp_eq (tgt := 189) hx hb dX11_falls_182 (by decide) (fun c_22 => ?_) (fun c_22 => ?_)
        · replace hres := hres.trans (if_pos c_22)
          refine lv_iconst (v := 0) hx hb dX11_falls_189 (by decide) ?_
          refine lv_istore (lv' := [(4, .int 0), (0, .ref (xad g 40 0)), (1, .int what), (2, .int fallen), (3, .int rounds), (5, .int now_20), (6, .int a_21)]) hx hb dX11_falls_190 hl (by decide) rfl (fun ls hl => ?_)
          refine lv_iload_n hx hb dX11_falls_192 rfl (lv_at hl 4 rfl) ?_
          refine lv_iload hx hb dX11_falls_193 (lv_at hl 0 rfl) ?_
          refine lv_if_eq (tgt := 202) hx hb dX11_falls_195 (by decide) (fun c_23 => ?_) (fun c_23 => ?_)
          · clear c_23
            refine lv_iconst (v := 0) hx hb dX11_falls_202 (by decide) ?_
            refine lv_iadd hx hb dX11_falls_203 ?_
            refine lv_topi (fun x3_24 ex3_24 => ?_)
            replace hres := xlet_n hres ex3_24
            refine lv_istore_n (lv' := [(3, .int x3_24), (4, .int 0), (0, .ref (xad g 40 0)), (1, .int what), (2, .int fallen), (5, .int now_20), (6, .int a_21)]) hx hb dX11_falls_204 rfl hl (by decide) rfl (fun ls hl => ?_)
            refine lv_iload hx hb dX11_falls_205 (lv_at hl 5 rfl) ?_
            refine lv_istore_n (lv' := [(2, .int now_20), (3, .int x3_24), (4, .int 0), (0, .ref (xad g 40 0)), (1, .int what), (5, .int now_20), (6, .int a_21)]) hx hb dX11_falls_207 rfl hl (by decide) rfl (fun ls hl => ?_)
            refine lv_goto (tgt := 60) hx hb dX11_falls_208 (by decide) ?_
            exact ih now_20 x3_24 (0 : Int32) _ _ _ kx (ob_X11_falls_60_mu_24 nb nn what M hp0 hp1 n fallen rounds more N_ hmu hinv c_19 now_20 a_21 hiv_21 c_22 x3_24 ex3_24) (ob_X11_falls_60_inv_24 nb nn what M hp0 hp1 n fallen rounds more N_ hmu hinv c_19 now_20 a_21 hiv_21 c_22 x3_24 ex3_24) hres hP hS (lv_sub hl [3, 4, 0, 1, 2] rfl) hex
          · exact absurd c_23 (by decide)
        · replace hres := hres.trans (if_neg c_22)
          refine lv_iconst (v := 1) hx hb dX11_falls_185 (by decide) ?_
          refine lv_goto (tgt := 190) hx hb dX11_falls_186 (by decide) ?_
          refine lv_istore (lv' := [(4, .int 1), (0, .ref (xad g 40 0)), (1, .int what), (2, .int fallen), (3, .int rounds), (5, .int now_20), (6, .int a_21)]) hx hb dX11_falls_190 hl (by decide) rfl (fun ls hl => ?_)
          refine lv_iload_n hx hb dX11_falls_192 rfl (lv_at hl 4 rfl) ?_
          refine lv_iload hx hb dX11_falls_193 (lv_at hl 0 rfl) ?_
          refine lv_if_eq (tgt := 202) hx hb dX11_falls_195 (by decide) (fun c_25 => ?_) (fun c_25 => ?_)
          · exact absurd c_25 (by decide)
          · clear c_25
            refine lv_iconst (v := 1) hx hb dX11_falls_198 (by decide) ?_
            refine lv_goto (tgt := 203) hx hb dX11_falls_199 (by decide) ?_
            refine lv_iadd hx hb dX11_falls_203 ?_
            refine lv_topi (fun x3_26 ex3_26 => ?_)
            replace hres := xlet_n hres ex3_26
            refine lv_istore_n (lv' := [(3, .int x3_26), (4, .int 1), (0, .ref (xad g 40 0)), (1, .int what), (2, .int fallen), (5, .int now_20), (6, .int a_21)]) hx hb dX11_falls_204 rfl hl (by decide) rfl (fun ls hl => ?_)
            refine lv_iload hx hb dX11_falls_205 (lv_at hl 5 rfl) ?_
            refine lv_istore_n (lv' := [(2, .int now_20), (3, .int x3_26), (4, .int 1), (0, .ref (xad g 40 0)), (1, .int what), (5, .int now_20), (6, .int a_21)]) hx hb dX11_falls_207 rfl hl (by decide) rfl (fun ls hl => ?_)
            refine lv_goto (tgt := 60) hx hb dX11_falls_208 (by decide) ?_
            exact ih now_20 x3_26 (1 : Int32) _ _ _ kx (ob_X11_falls_60_mu_26 nb nn what M hp0 hp1 n fallen rounds more N_ hmu hinv c_19 now_20 a_21 hiv_21 c_22 x3_26 ex3_26) (ob_X11_falls_60_inv_26 nb nn what M hp0 hp1 n fallen rounds more N_ hmu hinv c_19 now_20 a_21 hiv_21 c_22 x3_26 ex3_26) hres hP hS (lv_sub hl [3, 4, 0, 1, 2] rfl) hex
  have k_22 : ∀ (N_ : xM) (n : Nat) (fallen : Int32) (b : Int32) (H : Heap) (locs : List Loc) (ls : Array Slot) (kx : (Int32 → Int32 → Int32 × xM)), xmu b (N_ 40 0 7) < n → 0 ≤ N_ 40 0 7 ∧ N_ 40 0 7 ≤ 8 ∧ 0 ≤ b ∧ 0 ≤ fallen ∧ fallen < 256 → F = f_X11_falls_L22 what N_ n fallen b kx → xP g L N_ H → va_S (xA g L s.heap.size) s.heap H locs → lv_has ls 9 [(0, .ref (xad g 40 0)), (1, .int what), (2, .int fallen), (3, .int b)] → (∀ (fallen : Int32) (b : Int32) (H : Heap) (locs : List Loc) (ls : Array Slot), 0 ≤ N_ 40 0 7 ∧ N_ 40 0 7 ≤ 8 ∧ 0 ≤ b ∧ 0 ≤ fallen ∧ fallen < 256 → F = kx fallen b → xP g L N_ H → va_S (xA g L s.heap.size) s.heap H locs → lv_has ls 9 [(0, .ref (xad g 40 0)), (1, .int what), (2, .int fallen), (3, .int b)] → W p l e (xr 1) s m args below meth c H locs 0 0 (MQ below (va_Qi (fun r u => (r, u) = f_X11_falls what M) (xPost g L) (xA g L s.heap.size)) args s 0 0 (xA g L s.heap.size)) (F0 m 55 ls [])) → W p l e (xr 1) s m args below meth c H locs 0 0 (MQ below (va_Qi (fun r u => (r, u) = f_X11_falls what M) (xPost g L) (xA g L s.heap.size)) args s 0 0 (xA g L s.heap.size)) (F0 m 22 ls []) := by
    intro N_ n
    induction n with
    | zero => intro fallen b H locs ls kx hmu; exact absurd hmu (Nat.not_lt_zero _)
    | succ n ih =>
      intro fallen b H locs ls kx hmu hinv hres hP hS hl hex
      replace hres : F = _ := hres.trans (by rw [f_X11_falls_L22])
      refine lv_iload_n hx hb dX11_falls_22 rfl (lv_at hl 3 rfl) ?_
      refine lv_aload_n hx hb dX11_falls_23 rfl (lv_at hl 0 rfl) ?_
      refine gf_RX11_150 hx hb hts hown hK hP (hL 40 0 (xe_40 nb nn)) dX11_falls_24 ?_
      refine lv_icmp_ge (tgt := 55) hx hb dX11_falls_27 (by decide) (fun c_27 => ?_) (fun c_27 => ?_)
      · replace hres := hres.trans (if_pos c_27)
        exact hex fallen b _ _ _ (ob_X11_falls_55_x22 nb nn what M hp0 hp1 n fallen b N_ hmu hinv c_27) hres hP hS (lv_sub hl [0, 1, 2, 3] rfl)
      · replace hres := hres.trans (if_neg c_27)
        refine lv_iload_n hx hb dX11_falls_30 rfl (lv_at hl 2 rfl) ?_
        refine lv_aload_n hx hb dX11_falls_31 rfl (lv_at hl 0 rfl) ?_
        refine gf_RX11_34 hx hb hts hown hK hP (hL 40 0 (xe_40 nb nn)) dX11_falls_32 ?_
        refine lv_iload_n hx hb dX11_falls_35 rfl (lv_at hl 3 rfl) ?_
        refine x_zald hx hb hK hP (hL 61 0 (xe_61 nb nn)) (xc61 g 0) (ob_X11_falls_36_in nb nn what M hp0 hp1 n fallen b N_ hmu hinv c_27) dX11_falls_36 ?_
        refine lv_if_eq (tgt := 46) hx hb dX11_falls_37 (by decide) (fun c_28 => ?_) (fun c_28 => ?_)
        · replace hres := hres.trans (if_pos c_28)
          refine lv_iconst (v := 0) hx hb dX11_falls_46 (by decide) ?_
          refine lv_ior hx hb dX11_falls_47 ?_
          refine lv_topi (fun x2_29 ex2_29 => ?_)
          replace hres := xlet_n hres ex2_29
          refine lv_istore_n (lv' := [(2, .int x2_29), (0, .ref (xad g 40 0)), (1, .int what), (3, .int b)]) hx hb dX11_falls_48 rfl hl (by decide) rfl (fun ls hl => ?_)
          obtain ⟨x3_30, ex3_30⟩ : ∃ z_ : Int32, z_ = b + 1 := ⟨_, rfl⟩
          replace hres := xlet_n hres ex3_30
          refine lv_iinc (v := x3_30) (lv' := [(3, .int x3_30), (2, .int x2_29), (0, .ref (xad g 40 0)), (1, .int what)]) hx hb dX11_falls_49 hl (k := 3) rfl (by rw [ex3_30]; rfl) (by decide) rfl (fun ls hl => ?_)
          refine lv_goto (tgt := 22) hx hb dX11_falls_52 (by decide) ?_
          exact ih x2_29 x3_30 _ _ _ kx (ob_X11_falls_22_mu_30 nb nn what M hp0 hp1 n fallen b N_ hmu hinv c_27 c_28 x2_29 ex2_29 x3_30 ex3_30) (ob_X11_falls_22_inv_30 nb nn what M hp0 hp1 n fallen b N_ hmu hinv c_27 c_28 x2_29 ex2_29 x3_30 ex3_30) hres hP hS (lv_sub hl [2, 3, 1, 0] rfl) hex
        · replace hres := hres.trans (if_neg c_28)
          refine lv_iconst (v := 1) hx hb dX11_falls_40 (by decide) ?_
          refine lv_iload_n hx hb dX11_falls_41 rfl (lv_at hl 3 rfl) ?_
          refine lv_ishl hx hb dX11_falls_42 ?_
          refine lv_goto (tgt := 47) hx hb dX11_falls_43 (by decide) ?_
          refine lv_ior hx hb dX11_falls_47 ?_
          refine lv_topi (fun x2_31 ex2_31 => ?_)
          replace hres := xlet_n hres ex2_31
          refine lv_istore_n (lv' := [(2, .int x2_31), (0, .ref (xad g 40 0)), (1, .int what), (3, .int b)]) hx hb dX11_falls_48 rfl hl (by decide) rfl (fun ls hl => ?_)
          obtain ⟨x3_32, ex3_32⟩ : ∃ z_ : Int32, z_ = b + 1 := ⟨_, rfl⟩
          replace hres := xlet_n hres ex3_32
          refine lv_iinc (v := x3_32) (lv' := [(3, .int x3_32), (2, .int x2_31), (0, .ref (xad g 40 0)), (1, .int what)]) hx hb dX11_falls_49 hl (k := 3) rfl (by rw [ex3_32]; rfl) (by decide) rfl (fun ls hl => ?_)
          refine lv_goto (tgt := 22) hx hb dX11_falls_52 (by decide) ?_
          exact ih x2_31 x3_32 _ _ _ kx (ob_X11_falls_22_mu_32 nb nn what M hp0 hp1 n fallen b N_ hmu hinv c_27 c_28 x2_31 ex2_31 x3_32 ex3_32) (ob_X11_falls_22_inv_32 nb nn what M hp0 hp1 n fallen b N_ hmu hinv c_27 c_28 x2_31 ex2_31 x3_32 ex3_32) hres hP hS (lv_sub hl [2, 3, 1, 0] rfl) hex
  have hres := hF
  rw [f_X11_falls] at hres
  refine lv_aload_n hx hb dX11_falls_0 rfl (lv_at hl 0 rfl) ?_
  refine lv_iconst (v := 0) hx hb dX11_falls_1 (by decide) ?_
  refine pf_RX11_113 hx hb hts hown hK hP hD hS (hL 40 0 (xe_40 nb nn)) dX11_falls_2 (fun H locs hP hS => ?_)
  obtain ⟨M_33, eM_33⟩ : ∃ z_ : xM, z_ = xup M 40 0 0 0 := ⟨_, rfl⟩
  rw [← eM_33] at hP
  replace hres := xlet_n hres eM_33
  refine lv_iload_n hx hb dX11_falls_5 rfl (lv_at hl 1 rfl) ?_
  refine lv_i2l (v := what.toInt64) hx hb dX11_falls_6 rfl ?_
  refine lv_lconst (v := 0) hx hb dX11_falls_7 (by decide) ?_
  refine lv_lconst (v := 1) hx hb dX11_falls_8 (by decide) ?_
  refine x_callSi (As := [.long (what.toInt64), .long 0, .long 1]) S hK hAm hD hP hS mt_X11_in wd_208 ⟨by decide, by decide⟩ (c_X11_in l nb nn g L M_33 hD hL (what.toInt64) 0 1) rfl hl.1 (Nat.le_of_ble_eq_true rfl) ⟨Nat.zero_le _, Nat.zero_le _⟩ dX11_falls_9 rfl (fun r_34 u H locs hp_ hP hS => ?_)
  obtain ⟨er_34, eu_⟩ := hp_
  rw [eu_] at hP
  clear eu_
  replace hres := xlet_n hres er_34
  refine lv_if_ne (tgt := 18) hx hb dX11_falls_12 (by decide) (fun c_35 => ?_) (fun c_35 => ?_)
  · replace hres := hres.trans (if_neg c_35)
    refine lv_iconst (v := 0) hx hb dX11_falls_18 (by decide) ?_
    refine lv_istore_n (lv' := [(2, .int 0), (0, .ref (xad g 40 0)), (1, .int what)]) hx hb dX11_falls_19 rfl hl (by decide) rfl (fun ls hl => ?_)
    refine lv_iconst (v := 0) hx hb dX11_falls_20 (by decide) ?_
    refine lv_istore_n (lv' := [(3, .int 0), (2, .int 0), (0, .ref (xad g 40 0)), (1, .int what)]) hx hb dX11_falls_21 rfl hl (by decide) rfl (fun ls hl => ?_)
    refine k_22 M_33 (xmu (0 : Int32) (M_33 40 0 7) + 1) (0 : Int32) (0 : Int32) _ _ _ _ (Nat.lt_succ_self _) (ob_X11_falls_22_ini_35 nb nn what M hp0 hp1 M_33 eM_33 r_34 er_34 c_35) hres hP hS (lv_sub hl [2, 3, 1, 0] rfl) ?_
    clear hres hP hS hl
    intro fallen_36 b_37 H locs ls hiv_37 hres hP hS hl
    refine lv_iconst (v := 0) hx hb dX11_falls_55 (by decide) ?_
    refine lv_istore_n (lv' := [(3, .int 0), (0, .ref (xad g 40 0)), (1, .int what), (2, .int fallen_36)]) hx hb dX11_falls_56 rfl hl (by decide) rfl (fun ls hl => ?_)
    refine lv_iconst (v := 1) hx hb dX11_falls_57 (by decide) ?_
    refine lv_istore (lv' := [(4, .int 1), (3, .int 0), (0, .ref (xad g 40 0)), (1, .int what), (2, .int fallen_36)]) hx hb dX11_falls_58 hl (by decide) rfl (fun ls hl => ?_)
    refine k_60 M_33 ((if (1 : Int32) = 0 then 0 else 1 + xmu fallen_36 256) + 1) fallen_36 (0 : Int32) (1 : Int32) _ _ _ _ (Nat.lt_succ_self _) (ob_X11_falls_60_ini_37 nb nn what M hp0 hp1 M_33 eM_33 r_34 er_34 c_35 fallen_36 b_37 hiv_37) hres hP hS (lv_sub hl [2, 3, 4, 1, 0] rfl) ?_
    clear hres hP hS hl
    intro fallen_38 rounds_39 more_40 H locs ls hiv_40 hres hP hS hl
    refine lv_iload_n hx hb dX11_falls_211 rfl (lv_at hl 1 rfl) ?_
    refine lv_if_ne (tgt := 219) hx hb dX11_falls_212 (by decide) (fun c_41 => ?_) (fun c_41 => ?_)
    · replace hres := hres.trans (if_neg c_41)
      refine lv_iload_n hx hb dX11_falls_219 rfl (lv_at hl 3 rfl) ?_
      exact x_reti hx hb hr hlk hP hS (hres.symm.trans hF) dX11_falls_220
    · replace hres := hres.trans (if_pos c_41)
      refine lv_iload_n hx hb dX11_falls_215 rfl (lv_at hl 2 rfl) ?_
      refine lv_goto (tgt := 220) hx hb dX11_falls_216 (by decide) ?_
      exact x_reti hx hb hr hlk hP hS (hres.symm.trans hF) dX11_falls_220
  · replace hres := hres.trans (if_pos c_35)
    refine lv_ldc (own := RX11) (v := (-1000001)) hx hb hown (hts _ (List.mem_cons_of_mem _ wd_202)) dX11_falls_15 ?_
    exact x_reti hx hb hr hlk hP hS (hres.symm.trans hF) dX11_falls_17
set_option maxHeartbeats 4000000 in
set_option maxRecDepth 100000 in
theorem c_X11_isGhost (l : Launch) (nb nn : Nat) (g : xG) (L : List (Nat × Nat)) (M : xM) (hD : xD g L) (hL : xEL nb nn L) (q : Int32) (hp0 : 0 ≤ q) (hp1 : q < 24) : xCi l yX11_isGhost cX11_isGhost 2 (some .boolean) 0 g L M [.ref (xad g 40 0), .int q] (fun r u => r = xb (f_X11_isGhost q M) ∧ u = M) := by
  intro sz
  refine x_beg (by decide +kernel) rfl ?_
  intro p e s m args below meth c ls hsz hB
  subst hsz
  obtain ⟨hx, hb, hml, hown, hts, hr, hlk, hK, hAm, hP, hl⟩ := hB
  have S : CallFix p m c cX11_isGhost 2 s args (xws yX11_isGhost cX11_isGhost 2 (some .boolean)) RX11 := ⟨hx, hb, hml, hown, hts⟩
  have hown : s.vm.findClass RX11 = some m.cls := hown
  have hl : lv_has ls 2 [(0, .ref (xad g 40 0)), (1, .int q)] := hl
  have hS : va_S (xA g L s.heap.size) s.heap s.heap [] := va_S.rf
  obtain ⟨F, hF⟩ : ∃ F, F = f_X11_isGhost q M := ⟨_, rfl⟩
  have hres := hF
  rw [f_X11_isGhost] at hres
  refine lv_aload_n hx hb dX11_isGhost_0 rfl (lv_at hl 0 rfl) ?_
  refine gf_RX11_56 hx hb hts hown hK hP (hL 40 0 (xe_40 nb nn)) dX11_isGhost_1 ?_
  refine lv_iload_n hx hb dX11_isGhost_4 rfl (lv_at hl 1 rfl) ?_
  refine x_iald hx hb hK hP (hL 81 0 (xe_81 nb nn)) (xc81 g 0) (ob_X11_isGhost_5_in nb nn q M hp0 hp1) dX11_isGhost_5 ?_
  refine lv_aload_n hx hb dX11_isGhost_6 rfl (lv_at hl 0 rfl) ?_
  refine gf_RX11_150 hx hb hts hown hK hP (hL 40 0 (xe_40 nb nn)) dX11_isGhost_7 ?_
  refine lv_icmp_lt (tgt := 17) hx hb dX11_isGhost_10 (by decide) (fun c_1 => ?_) (fun c_1 => ?_)
  · replace hres := hres.trans (if_pos c_1)
    refine lv_iconst (v := 0) hx hb dX11_isGhost_17 (by decide) ?_
    exact x_retz hx hb hr hlk hP hS rfl ⟨(congrArg xb (hres.symm.trans hF)), rfl⟩ dX11_isGhost_18
  · replace hres := hres.trans (if_neg c_1)
    refine lv_iconst (v := 1) hx hb dX11_isGhost_13 (by decide) ?_
    refine lv_goto (tgt := 18) hx hb dX11_isGhost_14 (by decide) ?_
    exact x_retz hx hb hr hlk hP hS rfl ⟨(congrArg xb (hres.symm.trans hF)), rfl⟩ dX11_isGhost_18
set_option maxHeartbeats 4000000 in
set_option maxRecDepth 100000 in
theorem c_X11_isFalse (l : Launch) (nb nn : Nat) (g : xG) (L : List (Nat × Nat)) (M : xM) (hD : xD g L) (hL : xEL nb nn L) (q : Int32) (hp0 : 0 ≤ q) (hp1 : q < 24) (hp2 : M 40 0 7 ≤ 8) (hp3 : ∀ j : Nat, 0 ≤ M 81 0 j) : xCi l yX11_isFalse cX11_isFalse 2 (some .boolean) 1 g L M [.ref (xad g 40 0), .int q] (fun r u => r = xb (f_X11_isFalse q M) ∧ u = M) := by
  intro sz
  refine x_beg (by decide +kernel) rfl ?_
  intro p e s m args below meth c ls hsz hB
  subst hsz
  obtain ⟨hx, hb, hml, hown, hts, hr, hlk, hK, hAm, hP, hl⟩ := hB
  have S : CallFix p m c cX11_isFalse 2 s args (xws yX11_isFalse cX11_isFalse 2 (some .boolean)) RX11 := ⟨hx, hb, hml, hown, hts⟩
  have hown : s.vm.findClass RX11 = some m.cls := hown
  have hl : lv_has ls 2 [(0, .ref (xad g 40 0)), (1, .int q)] := hl
  have hS : va_S (xA g L s.heap.size) s.heap s.heap [] := va_S.rf
  obtain ⟨F, hF⟩ : ∃ F, F = f_X11_isFalse q M := ⟨_, rfl⟩
  have hres := hF
  rw [f_X11_isFalse] at hres
  refine lv_aload_n hx hb dX11_isFalse_0 rfl (lv_at hl 0 rfl) ?_
  refine lv_iload_n hx hb dX11_isFalse_1 rfl (lv_at hl 1 rfl) ?_
  refine x_callVi (As := [.int q]) S hK hAm hD hP hS mt_X11_isGhost wd_768 ⟨by decide, by decide⟩ (hL 40 0 (xe_40 nb nn)) (xc40 g 0) rfl (c_X11_isGhost l nb nn g L M hD hL q (ob_X11_isFalse_2_p0 nb nn q M hp0 hp1 hp2 hp3) (ob_X11_isFalse_2_p1 nb nn q M hp0 hp1 hp2 hp3)) rfl hl.1 (Nat.le_of_ble_eq_true rfl) ⟨Nat.zero_le _, Nat.zero_le _⟩ dX11_isFalse_2 rfl (fun r_1 u H locs hp_ hP hS => ?_)
  obtain ⟨er_1, eu_⟩ := hp_
  rw [eu_] at hP
  clear eu_
  replace hres := xlet_n hres er_1
  refine lv_if_ne (tgt := 38) hx hb dX11_isFalse_5 (by decide) (fun c_2 => ?_) (fun c_2 => ?_)
  · replace hres := hres.trans (if_neg c_2)
    refine lv_iconst (v := 1) hx hb dX11_isFalse_38 (by decide) ?_
    refine lv_goto (tgt := 43) hx hb dX11_isFalse_39 (by decide) ?_
    exact x_retz hx hb hr hlk hP hS rfl ⟨(congrArg xb (hres.symm.trans hF)), rfl⟩ dX11_isFalse_43
  · replace hres := hres.trans (if_pos c_2)
    refine lv_aload_n hx hb dX11_isFalse_8 rfl (lv_at hl 0 rfl) ?_
    refine gf_RX11_62 hx hb hts hown hK hP (hL 40 0 (xe_40 nb nn)) dX11_isFalse_9 ?_
    refine lv_iload_n hx hb dX11_isFalse_12 rfl (lv_at hl 1 rfl) ?_
    refine x_iald hx hb hK hP (hL 83 0 (xe_83 nb nn)) (xc83 g 0) (ob_X11_isFalse_13_in nb nn q M hp0 hp1 hp2 hp3 r_1 er_1 c_2) dX11_isFalse_13 ?_
    refine lv_aload_n hx hb dX11_isFalse_14 rfl (lv_at hl 0 rfl) ?_
    refine gf_RX11_31 hx hb hts hown hK hP (hL 40 0 (xe_40 nb nn)) dX11_isFalse_15 ?_
    refine lv_aload_n hx hb dX11_isFalse_18 rfl (lv_at hl 0 rfl) ?_
    refine gf_RX11_56 hx hb hts hown hK hP (hL 40 0 (xe_40 nb nn)) dX11_isFalse_19 ?_
    refine lv_iload_n hx hb dX11_isFalse_22 rfl (lv_at hl 1 rfl) ?_
    refine x_iald hx hb hK hP (hL 81 0 (xe_81 nb nn)) (xc81 g 0) (ob_X11_isFalse_23_in nb nn q M hp0 hp1 hp2 hp3 r_1 er_1 c_2) dX11_isFalse_23 ?_
    refine x_iald hx hb hK hP (hL 60 0 (xe_60 nb nn)) (xc60 g 0) (ob_X11_isFalse_24_in nb nn q M hp0 hp1 hp2 hp3 r_1 er_1 c_2) dX11_isFalse_24 ?_
    refine lv_ixor hx hb dX11_isFalse_25 ?_
    refine lv_aload_n hx hb dX11_isFalse_26 rfl (lv_at hl 0 rfl) ?_
    refine gf_RX11_65 hx hb hts hown hK hP (hL 40 0 (xe_40 nb nn)) dX11_isFalse_27 ?_
    refine lv_iload_n hx hb dX11_isFalse_30 rfl (lv_at hl 1 rfl) ?_
    refine x_iald hx hb hK hP (hL 84 0 (xe_84 nb nn)) (xc84 g 0) (ob_X11_isFalse_31_in nb nn q M hp0 hp1 hp2 hp3 r_1 er_1 c_2) dX11_isFalse_31 ?_
    refine lv_iconst (v := (-1)) hx hb dX11_isFalse_32 (by decide) ?_
    refine lv_ixor hx hb dX11_isFalse_33 ?_
    refine lv_iand hx hb dX11_isFalse_34 ?_
    refine lv_if_eq (tgt := 42) hx hb dX11_isFalse_35 (by decide) (fun c_3 => ?_) (fun c_3 => ?_)
    · replace hres := hres.trans (if_pos c_3)
      refine lv_iconst (v := 0) hx hb dX11_isFalse_42 (by decide) ?_
      exact x_retz hx hb hr hlk hP hS rfl ⟨(congrArg xb (hres.symm.trans hF)), rfl⟩ dX11_isFalse_43
    · replace hres := hres.trans (if_neg c_3)
      refine lv_iconst (v := 1) hx hb dX11_isFalse_38 (by decide) ?_
      refine lv_goto (tgt := 43) hx hb dX11_isFalse_39 (by decide) ?_
      exact x_retz hx hb hr hlk hP hS rfl ⟨(congrArg xb (hres.symm.trans hF)), rfl⟩ dX11_isFalse_43
set_option maxHeartbeats 4000000 in
set_option maxRecDepth 100000 in
theorem c_X11_comeTo (l : Launch) (nb nn : Nat) (g : xG) (L : List (Nat × Nat)) (M : xM) (hD : xD g L) (hL : xEL nb nn L) (q : Int32) (t : Int32) (hp0 : 0 ≤ q) (hp1 : q < 24) (hp2 : ∀ j : Nat, 0 ≤ M 91 0 j ∧ M 91 0 j ≤ 12) : xCv l yX11_comeTo cX11_comeTo 4 0 g L M [.ref (xad g 40 0), .int q, .int t] (fun u => u = f_X11_comeTo q t M) := by
  intro sz
  refine x_beg (by decide +kernel) rfl ?_
  intro p e s m args below meth c ls hsz hB
  subst hsz
  obtain ⟨hx, hb, hml, hown, hts, hr, hlk, hK, hAm, hP, hl⟩ := hB
  have S : CallFix p m c cX11_comeTo 4 s args (xws yX11_comeTo cX11_comeTo 4 none) RX11 := ⟨hx, hb, hml, hown, hts⟩
  have hown : s.vm.findClass RX11 = some m.cls := hown
  have hl : lv_has ls 4 [(0, .ref (xad g 40 0)), (1, .int q), (2, .int t)] := hl
  have hS : va_S (xA g L s.heap.size) s.heap s.heap [] := va_S.rf
  obtain ⟨F, hF⟩ : ∃ F, F = f_X11_comeTo q t M := ⟨_, rfl⟩
  have hres := hF
  rw [f_X11_comeTo] at hres
  refine lv_aload_n hx hb dX11_comeTo_0 rfl (lv_at hl 0 rfl) ?_
  refine gf_RX11_68 hx hb hts hown hK hP (hL 40 0 (xe_40 nb nn)) dX11_comeTo_1 ?_
  refine lv_iload_n hx hb dX11_comeTo_4 rfl (lv_at hl 1 rfl) ?_
  refine lv_iload_n hx hb dX11_comeTo_5 rfl (lv_at hl 2 rfl) ?_
  refine x_iast hx hb hK hP hD hS (hL 85 0 (xe_85 nb nn)) (xc85 g 0) (ob_X11_comeTo_6_in nb nn q t M hp0 hp1 hp2) dX11_comeTo_6 (fun H locs hP hS => ?_)
  obtain ⟨M_1, eM_1⟩ : ∃ z_ : xM, z_ = xup M 85 0 q.toNatClampNeg t := ⟨_, rfl⟩
  rw [← eM_1] at hP
  replace hres := xlet_n hres eM_1
  refine lv_bipush (v := 12) hx hb dX11_comeTo_7 (by decide) ?_
  refine lv_iload_n hx hb dX11_comeTo_9 rfl (lv_at hl 1 rfl) ?_
  refine lv_imul hx hb dX11_comeTo_10 ?_
  refine lv_aload_n hx hb dX11_comeTo_11 rfl (lv_at hl 0 rfl) ?_
  refine gf_RX11_86 hx hb hts hown hK hP (hL 40 0 (xe_40 nb nn)) dX11_comeTo_12 ?_
  refine lv_iload_n hx hb dX11_comeTo_15 rfl (lv_at hl 1 rfl) ?_
  refine x_iald hx hb hK hP (hL 91 0 (xe_91 nb nn)) (xc91 g 0) (ob_X11_comeTo_16_in nb nn q t M hp0 hp1 hp2 M_1 eM_1) dX11_comeTo_16 ?_
  refine lv_iadd hx hb dX11_comeTo_17 ?_
  refine lv_topi (fun x3_2 ex3_2 => ?_)
  replace hres := xlet_n hres ex3_2
  refine lv_istore_n (lv' := [(3, .int x3_2), (0, .ref (xad g 40 0)), (1, .int q), (2, .int t)]) hx hb dX11_comeTo_18 rfl hl (by decide) rfl (fun ls hl => ?_)
  refine lv_aload_n hx hb dX11_comeTo_19 rfl (lv_at hl 1 rfl) ?_
  refine gf_RX11_86 hx hb hts hown hK hP (hL 40 0 (xe_40 nb nn)) dX11_comeTo_20 ?_
  refine lv_iload_n hx hb dX11_comeTo_23 rfl (lv_at hl 2 rfl) ?_
  refine x_iald hx hb hK hP (hL 91 0 (xe_91 nb nn)) (xc91 g 0) (ob_X11_comeTo_24_in nb nn q t M hp0 hp1 hp2 M_1 eM_1 x3_2 ex3_2) dX11_comeTo_24 ?_
  refine lv_bipush (v := 12) hx hb dX11_comeTo_25 (by decide) ?_
  refine lv_icmp_ge (tgt := 78) hx hb dX11_comeTo_27 (by decide) (fun c_3 => ?_) (fun c_3 => ?_)
  · replace hres := hres.trans (if_pos c_3)
    exact x_retv hx hb hr hlk hP hS (hres.symm.trans hF) dX11_comeTo_78
  · replace hres := hres.trans (if_neg c_3)
    refine lv_aload_n hx hb dX11_comeTo_30 rfl (lv_at hl 1 rfl) ?_
    refine gf_RX11_86 hx hb hts hown hK hP (hL 40 0 (xe_40 nb nn)) dX11_comeTo_31 ?_
    refine lv_iload_n hx hb dX11_comeTo_34 rfl (lv_at hl 2 rfl) ?_
    refine x_iald hx hb hK hP (hL 91 0 (xe_91 nb nn)) (xc91 g 0) (ob_X11_comeTo_35_in nb nn q t M hp0 hp1 hp2 M_1 eM_1 x3_2 ex3_2 c_3) dX11_comeTo_35 ?_
    refine lv_if_eq (tgt := 51) hx hb dX11_comeTo_36 (by decide) (fun c_4 => ?_) (fun c_4 => ?_)
    · replace hres := hres.trans (if_pos c_4)
      refine lv_aload_n hx hb dX11_comeTo_51 rfl (lv_at hl 1 rfl) ?_
      refine gf_RX11_89 hx hb hts hown hK hP (hL 40 0 (xe_40 nb nn)) dX11_comeTo_52 ?_
      refine lv_iload_n hx hb dX11_comeTo_55 rfl (lv_at hl 0 rfl) ?_
      refine lv_iload_n hx hb dX11_comeTo_56 rfl (lv_at hl 3 rfl) ?_
      refine x_iast hx hb hK hP hD hS (hL 92 0 (xe_92 nb nn)) (xc92 g 0) (ob_X11_comeTo_57_in nb nn q t M hp0 hp1 hp2 M_1 eM_1 x3_2 ex3_2 c_3 c_4) dX11_comeTo_57 (fun H locs hP hS => ?_)
      obtain ⟨M_5, eM_5⟩ : ∃ z_ : xM, z_ = xup M_1 92 0 x3_2.toNatClampNeg t := ⟨_, rfl⟩
      rw [← eM_5] at hP
      replace hres := xlet_n hres eM_5
      refine lv_aload_n hx hb dX11_comeTo_58 rfl (lv_at hl 1 rfl) ?_
      refine gf_RX11_92 hx hb hts hown hK hP (hL 40 0 (xe_40 nb nn)) dX11_comeTo_59 ?_
      refine lv_iload_n hx hb dX11_comeTo_62 rfl (lv_at hl 0 rfl) ?_
      refine lv_aload_n hx hb dX11_comeTo_63 rfl (lv_at hl 1 rfl) ?_
      refine gf_RX11_167 hx hb hts hown hK hP (hL 40 0 (xe_40 nb nn)) dX11_comeTo_64 ?_
      refine lv_topi (fun v_6 ev_6 => ?_)
      replace hres := xlet_n hres ev_6
      refine x_iast hx hb hK hP hD hS (hL 93 0 (xe_93 nb nn)) (xc93 g 0) (ob_X11_comeTo_67_in nb nn q t M hp0 hp1 hp2 M_1 eM_1 x3_2 ex3_2 c_3 c_4 M_5 eM_5 v_6 ev_6) dX11_comeTo_67 (fun H locs hP hS => ?_)
      obtain ⟨M_7, eM_7⟩ : ∃ z_ : xM, z_ = xup M_5 93 0 x3_2.toNatClampNeg v_6 := ⟨_, rfl⟩
      rw [← eM_7] at hP
      replace hres := xlet_n hres eM_7
      refine lv_aload_n hx hb dX11_comeTo_68 rfl (lv_at hl 1 rfl) ?_
      refine gf_RX11_86 hx hb hts hown hK hP (hL 40 0 (xe_40 nb nn)) dX11_comeTo_69 ?_
      refine lv_iload_n hx hb dX11_comeTo_72 rfl (lv_at hl 2 rfl) ?_
      refine lv_dup2_11 hx hb dX11_comeTo_73 rfl rfl ?_
      refine x_iald hx hb hK hP (hL 91 0 (xe_91 nb nn)) (xc91 g 0) (ob_X11_comeTo_74_in nb nn q t M hp0 hp1 hp2 M_1 eM_1 x3_2 ex3_2 c_3 c_4 M_5 eM_5 v_6 ev_6 M_7 eM_7) dX11_comeTo_74 ?_
      refine lv_iconst (v := 1) hx hb dX11_comeTo_75 (by decide) ?_
      refine lv_iadd hx hb dX11_comeTo_76 ?_
      refine lv_topi (fun v_8 ev_8 => ?_)
      replace hres := xlet_n hres ev_8
      refine x_iast hx hb hK hP hD hS (hL 91 0 (xe_91 nb nn)) (xc91 g 0) (ob_X11_comeTo_77_in nb nn q t M hp0 hp1 hp2 M_1 eM_1 x3_2 ex3_2 c_3 c_4 M_5 eM_5 v_6 ev_6 M_7 eM_7 v_8 ev_8) dX11_comeTo_77 (fun H locs hP hS => ?_)
      obtain ⟨M_9, eM_9⟩ : ∃ z_ : xM, z_ = xup M_7 91 0 q.toNatClampNeg v_8 := ⟨_, rfl⟩
      rw [← eM_9] at hP
      replace hres := xlet_n hres eM_9
      exact x_retv hx hb hr hlk hP hS (hres.symm.trans hF) dX11_comeTo_78
    · replace hres := hres.trans (if_neg c_4)
      refine lv_aload_n hx hb dX11_comeTo_39 rfl (lv_at hl 1 rfl) ?_
      refine gf_RX11_89 hx hb hts hown hK hP (hL 40 0 (xe_40 nb nn)) dX11_comeTo_40 ?_
      refine lv_iload_n hx hb dX11_comeTo_43 rfl (lv_at hl 0 rfl) ?_
      refine lv_iconst (v := 1) hx hb dX11_comeTo_44 (by decide) ?_
      refine lv_isub hx hb dX11_comeTo_45 ?_
      refine x_iald hx hb hK hP (hL 92 0 (xe_92 nb nn)) (xc92 g 0) (ob_X11_comeTo_46_in nb nn q t M hp0 hp1 hp2 M_1 eM_1 x3_2 ex3_2 c_3 c_4) dX11_comeTo_46 ?_
      refine lv_iload_n hx hb dX11_comeTo_47 rfl (lv_at hl 3 rfl) ?_
      refine lv_icmp_eq (tgt := 78) hx hb dX11_comeTo_48 (by decide) (fun c_10 => ?_) (fun c_10 => ?_)
      · replace hres := hres.trans (if_pos c_10)
        exact x_retv hx hb hr hlk hP hS (hres.symm.trans hF) dX11_comeTo_78
      · replace hres := hres.trans (if_neg c_10)
        refine lv_aload_n hx hb dX11_comeTo_51 rfl (lv_at hl 1 rfl) ?_
        refine gf_RX11_89 hx hb hts hown hK hP (hL 40 0 (xe_40 nb nn)) dX11_comeTo_52 ?_
        refine lv_iload_n hx hb dX11_comeTo_55 rfl (lv_at hl 0 rfl) ?_
        refine lv_iload_n hx hb dX11_comeTo_56 rfl (lv_at hl 3 rfl) ?_
        refine x_iast hx hb hK hP hD hS (hL 92 0 (xe_92 nb nn)) (xc92 g 0) (ob_X11_comeTo_57_in_2 nb nn q t M hp0 hp1 hp2 M_1 eM_1 x3_2 ex3_2 c_3 c_4 c_10) dX11_comeTo_57 (fun H locs hP hS => ?_)
        obtain ⟨M_11, eM_11⟩ : ∃ z_ : xM, z_ = xup M_1 92 0 x3_2.toNatClampNeg t := ⟨_, rfl⟩
        rw [← eM_11] at hP
        replace hres := xlet_n hres eM_11
        refine lv_aload_n hx hb dX11_comeTo_58 rfl (lv_at hl 1 rfl) ?_
        refine gf_RX11_92 hx hb hts hown hK hP (hL 40 0 (xe_40 nb nn)) dX11_comeTo_59 ?_
        refine lv_iload_n hx hb dX11_comeTo_62 rfl (lv_at hl 0 rfl) ?_
        refine lv_aload_n hx hb dX11_comeTo_63 rfl (lv_at hl 1 rfl) ?_
        refine gf_RX11_167 hx hb hts hown hK hP (hL 40 0 (xe_40 nb nn)) dX11_comeTo_64 ?_
        refine lv_topi (fun v_12 ev_12 => ?_)
        replace hres := xlet_n hres ev_12
        refine x_iast hx hb hK hP hD hS (hL 93 0 (xe_93 nb nn)) (xc93 g 0) (ob_X11_comeTo_67_in_2 nb nn q t M hp0 hp1 hp2 M_1 eM_1 x3_2 ex3_2 c_3 c_4 c_10 M_11 eM_11 v_12 ev_12) dX11_comeTo_67 (fun H locs hP hS => ?_)
        obtain ⟨M_13, eM_13⟩ : ∃ z_ : xM, z_ = xup M_11 93 0 x3_2.toNatClampNeg v_12 := ⟨_, rfl⟩
        rw [← eM_13] at hP
        replace hres := xlet_n hres eM_13
        refine lv_aload_n hx hb dX11_comeTo_68 rfl (lv_at hl 1 rfl) ?_
        refine gf_RX11_86 hx hb hts hown hK hP (hL 40 0 (xe_40 nb nn)) dX11_comeTo_69 ?_
        refine lv_iload_n hx hb dX11_comeTo_72 rfl (lv_at hl 2 rfl) ?_
        refine lv_dup2_11 hx hb dX11_comeTo_73 rfl rfl ?_
        refine x_iald hx hb hK hP (hL 91 0 (xe_91 nb nn)) (xc91 g 0) (ob_X11_comeTo_74_in_2 nb nn q t M hp0 hp1 hp2 M_1 eM_1 x3_2 ex3_2 c_3 c_4 c_10 M_11 eM_11 v_12 ev_12 M_13 eM_13) dX11_comeTo_74 ?_
        refine lv_iconst (v := 1) hx hb dX11_comeTo_75 (by decide) ?_
        refine lv_iadd hx hb dX11_comeTo_76 ?_
        refine lv_topi (fun v_14 ev_14 => ?_)
        replace hres := xlet_n hres ev_14
        refine x_iast hx hb hK hP hD hS (hL 91 0 (xe_91 nb nn)) (xc91 g 0) (ob_X11_comeTo_77_in_2 nb nn q t M hp0 hp1 hp2 M_1 eM_1 x3_2 ex3_2 c_3 c_4 c_10 M_11 eM_11 v_12 ev_12 M_13 eM_13 v_14 ev_14) dX11_comeTo_77 (fun H locs hP hS => ?_)
        obtain ⟨M_15, eM_15⟩ : ∃ z_ : xM, z_ = xup M_13 91 0 q.toNatClampNeg v_14 := ⟨_, rfl⟩
        rw [← eM_15] at hP
        replace hres := xlet_n hres eM_15
        exact x_retv hx hb hr hlk hP hS (hres.symm.trans hF) dX11_comeTo_78
set_option maxHeartbeats 4000000 in
set_option maxRecDepth 100000 in
theorem c_X11_note (l : Launch) (nb nn : Nat) (g : xG) (L : List (Nat × Nat)) (M : xM) (hD : xD g L) (hL : xEL nb nn L) (b : Int32) (v : Int32) (has : Int32) (lost : Int32) (t : Int32) (hp0 : 0 ≤ M 40 0 30) (hp1 : M 40 0 30 ≤ 24) (hp2 : ∀ j : Nat, 0 ≤ M 91 0 j ∧ M 91 0 j ≤ 12) : xCi l yX11_note cX11_note 6 (some .int) 2 g L M [.ref (xad g 40 0), .int b, .int v, .int has, .int lost, .int t] (fun r u => (r, u) = f_X11_note b v has lost t M) := by
  intro sz
  refine x_beg (by decide +kernel) rfl ?_
  intro p e s m args below meth c ls hsz hB
  subst hsz
  obtain ⟨hx, hb, hml, hown, hts, hr, hlk, hK, hAm, hP, hl⟩ := hB
  have S : CallFix p m c cX11_note 6 s args (xws yX11_note cX11_note 6 (some .int)) RX11 := ⟨hx, hb, hml, hown, hts⟩
  have hown : s.vm.findClass RX11 = some m.cls := hown
  have hl : lv_has ls 6 [(0, .ref (xad g 40 0)), (1, .int b), (2, .int v), (3, .int has), (4, .int lost), (5, .int t)] := hl
  have hS : va_S (xA g L s.heap.size) s.heap s.heap [] := va_S.rf
  obtain ⟨F, hF⟩ : ∃ F, F = f_X11_note b v has lost t M := ⟨_, rfl⟩
  have hres := hF
  rw [f_X11_note] at hres
  refine lv_aload_n hx hb dX11_note_0 rfl (lv_at hl 0 rfl) ?_
  refine lv_iconst (v := 0) hx hb dX11_note_1 (by decide) ?_
  refine pf_RX11_113 hx hb hts hown hK hP hD hS (hL 40 0 (xe_40 nb nn)) dX11_note_2 (fun H locs hP hS => ?_)
  obtain ⟨M_1, eM_1⟩ : ∃ z_ : xM, z_ = xup M 40 0 0 0 := ⟨_, rfl⟩
  rw [← eM_1] at hP
  replace hres := xlet_n hres eM_1
  refine lv_iload_n hx hb dX11_note_5 rfl (lv_at hl 1 rfl) ?_
  refine lv_i2l (v := b.toInt64) hx hb dX11_note_6 rfl ?_
  refine lv_lconst (v := 0) hx hb dX11_note_7 (by decide) ?_
  refine lv_ldc2 (own := RX11) (v := 7) hx hb hown (hts _ (List.mem_cons_of_mem _ wd_207)) dX11_note_8 ?_
  refine x_callSi (As := [.long (b.toInt64), .long 0, .long 7]) S hK hAm hD hP hS mt_X11_in wd_208 ⟨by decide, by decide⟩ (c_X11_in l nb nn g L M_1 hD hL (b.toInt64) 0 7) rfl hl.1 (Nat.le_of_ble_eq_true rfl) ⟨Nat.zero_le _, Nat.zero_le _⟩ dX11_note_11 rfl (fun r_2 u H locs hp_ hP hS => ?_)
  obtain ⟨er_2, eu_⟩ := hp_
  rw [eu_] at hP
  clear eu_
  replace hres := xlet_n hres er_2
  refine lv_if_eq (tgt := 62) hx hb dX11_note_14 (by decide) (fun c_3 => ?_) (fun c_3 => ?_)
  · replace hres := hres.trans (if_pos c_3)
    refine lv_ldc (own := RX11) (v := (-1000001)) hx hb hown (hts _ (List.mem_cons_of_mem _ wd_202)) dX11_note_62 ?_
    exact x_reti hx hb hr hlk hP hS (hres.symm.trans hF) dX11_note_64
  · replace hres := hres.trans (if_neg c_3)
    refine lv_iload_n hx hb dX11_note_17 rfl (lv_at hl 2 rfl) ?_
    refine lv_i2l (v := v.toInt64) hx hb dX11_note_18 rfl ?_
    refine lv_lconst (v := 1) hx hb dX11_note_19 (by decide) ?_
    refine lv_ldc2 (own := RX11) (v := 100) hx hb hown (hts _ (List.mem_cons_of_mem _ wd_707)) dX11_note_20 ?_
    refine x_callSi (As := [.long (v.toInt64), .long 1, .long 100]) S hK hAm hD hP hS mt_X11_in wd_208 ⟨by decide, by decide⟩ (c_X11_in l nb nn g L M_1 hD hL (v.toInt64) 1 100) rfl hl.1 (Nat.le_of_ble_eq_true rfl) ⟨Nat.zero_le _, Nat.zero_le _⟩ dX11_note_23 rfl (fun r_4 u H locs hp_ hP hS => ?_)
    obtain ⟨er_4, eu_⟩ := hp_
    rw [eu_] at hP
    clear eu_
    replace hres := xlet_n hres er_4
    refine lv_if_eq (tgt := 62) hx hb dX11_note_26 (by decide) (fun c_5 => ?_) (fun c_5 => ?_)
    · replace hres := hres.trans (if_pos c_5)
      refine lv_ldc (own := RX11) (v := (-1000001)) hx hb hown (hts _ (List.mem_cons_of_mem _ wd_202)) dX11_note_62 ?_
      exact x_reti hx hb hr hlk hP hS (hres.symm.trans hF) dX11_note_64
    · replace hres := hres.trans (if_neg c_5)
      refine lv_iload_n hx hb dX11_note_29 rfl (lv_at hl 3 rfl) ?_
      refine lv_i2l (v := has.toInt64) hx hb dX11_note_30 rfl ?_
      refine lv_lconst (v := 0) hx hb dX11_note_31 (by decide) ?_
      refine lv_ldc2 (own := RX11) (v := 255) hx hb hown (hts _ (List.mem_cons_of_mem _ wd_326)) dX11_note_32 ?_
      refine x_callSi (As := [.long (has.toInt64), .long 0, .long 255]) S hK hAm hD hP hS mt_X11_in wd_208 ⟨by decide, by decide⟩ (c_X11_in l nb nn g L M_1 hD hL (has.toInt64) 0 255) rfl hl.1 (Nat.le_of_ble_eq_true rfl) ⟨Nat.zero_le _, Nat.zero_le _⟩ dX11_note_35 rfl (fun r_6 u H locs hp_ hP hS => ?_)
      obtain ⟨er_6, eu_⟩ := hp_
      rw [eu_] at hP
      clear eu_
      replace hres := xlet_n hres er_6
      refine lv_if_eq (tgt := 62) hx hb dX11_note_38 (by decide) (fun c_7 => ?_) (fun c_7 => ?_)
      · replace hres := hres.trans (if_pos c_7)
        refine lv_ldc (own := RX11) (v := (-1000001)) hx hb hown (hts _ (List.mem_cons_of_mem _ wd_202)) dX11_note_62 ?_
        exact x_reti hx hb hr hlk hP hS (hres.symm.trans hF) dX11_note_64
      · replace hres := hres.trans (if_neg c_7)
        refine lv_iload hx hb dX11_note_41 (lv_at hl 4 rfl) ?_
        refine lv_i2l (v := lost.toInt64) hx hb dX11_note_43 rfl ?_
        refine lv_lconst (v := 0) hx hb dX11_note_44 (by decide) ?_
        refine lv_ldc2 (own := RX11) (v := 255) hx hb hown (hts _ (List.mem_cons_of_mem _ wd_326)) dX11_note_45 ?_
        refine x_callSi (As := [.long (lost.toInt64), .long 0, .long 255]) S hK hAm hD hP hS mt_X11_in wd_208 ⟨by decide, by decide⟩ (c_X11_in l nb nn g L M_1 hD hL (lost.toInt64) 0 255) rfl hl.1 (Nat.le_of_ble_eq_true rfl) ⟨Nat.zero_le _, Nat.zero_le _⟩ dX11_note_48 rfl (fun r_8 u H locs hp_ hP hS => ?_)
        obtain ⟨er_8, eu_⟩ := hp_
        rw [eu_] at hP
        clear eu_
        replace hres := xlet_n hres er_8
        refine lv_if_eq (tgt := 62) hx hb dX11_note_51 (by decide) (fun c_9 => ?_) (fun c_9 => ?_)
        · replace hres := hres.trans (if_pos c_9)
          refine lv_ldc (own := RX11) (v := (-1000001)) hx hb hown (hts _ (List.mem_cons_of_mem _ wd_202)) dX11_note_62 ?_
          exact x_reti hx hb hr hlk hP hS (hres.symm.trans hF) dX11_note_64
        · replace hres := hres.trans (if_neg c_9)
          refine lv_iload hx hb dX11_note_54 (lv_at hl 5 rfl) ?_
          refine x_callSi (As := [.int t]) S hK hAm hD hP hS mt_X11_isTrader wd_709 ⟨by decide, by decide⟩ (c_X11_isTrader l nb nn g L M_1 hD hL t) rfl hl.1 (Nat.le_of_ble_eq_true rfl) ⟨Nat.zero_le _, Nat.zero_le _⟩ dX11_note_56 rfl (fun r_10 u H locs hp_ hP hS => ?_)
          obtain ⟨er_10, eu_⟩ := hp_
          rw [eu_] at hP
          clear eu_
          replace hres := xlet_n hres er_10
          refine lv_if_ne (tgt := 65) hx hb dX11_note_59 (by decide) (fun c_11 => ?_) (fun c_11 => ?_)
          · replace hres := hres.trans (if_neg c_11)
            refine lv_aload_n hx hb dX11_note_65 rfl (lv_at hl 0 rfl) ?_
            refine gf_RX11_265 hx hb hts hown hK hP (hL 40 0 (xe_40 nb nn)) dX11_note_66 ?_
            refine lv_bipush (v := 24) hx hb dX11_note_69 (by decide) ?_
            refine lv_icmp_ne (tgt := 77) hx hb dX11_note_71 (by decide) (fun c_12 => ?_) (fun c_12 => ?_)
            · replace hres := hres.trans (if_neg c_12)
              refine lv_aload_n hx hb dX11_note_77 rfl (lv_at hl 0 rfl) ?_
              refine gf_RX11_56 hx hb hts hown hK hP (hL 40 0 (xe_40 nb nn)) dX11_note_78 ?_
              refine lv_aload_n hx hb dX11_note_81 rfl (lv_at hl 0 rfl) ?_
              refine gf_RX11_265 hx hb hts hown hK hP (hL 40 0 (xe_40 nb nn)) dX11_note_82 ?_
              refine lv_iload_n hx hb dX11_note_85 rfl (lv_at hl 1 rfl) ?_
              refine x_iast hx hb hK hP hD hS (hL 81 0 (xe_81 nb nn)) (xc81 g 0) (ob_X11_note_86_in nb nn b v has lost t M hp0 hp1 hp2 M_1 eM_1 r_2 er_2 c_3 r_4 er_4 c_5 r_6 er_6 c_7 r_8 er_8 c_9 r_10 er_10 c_11 c_12) dX11_note_86 (fun H locs hP hS => ?_)
              obtain ⟨M_13, eM_13⟩ : ∃ z_ : xM, z_ = xup M_1 81 0 (M_1 40 0 30).toNatClampNeg b := ⟨_, rfl⟩
              rw [← eM_13] at hP
              replace hres := xlet_n hres eM_13
              refine lv_aload_n hx hb dX11_note_87 rfl (lv_at hl 0 rfl) ?_
              refine gf_RX11_59 hx hb hts hown hK hP (hL 40 0 (xe_40 nb nn)) dX11_note_88 ?_
              refine lv_aload_n hx hb dX11_note_91 rfl (lv_at hl 0 rfl) ?_
              refine gf_RX11_265 hx hb hts hown hK hP (hL 40 0 (xe_40 nb nn)) dX11_note_92 ?_
              refine lv_iload_n hx hb dX11_note_95 rfl (lv_at hl 2 rfl) ?_
              refine x_iast hx hb hK hP hD hS (hL 82 0 (xe_82 nb nn)) (xc82 g 0) (ob_X11_note_96_in nb nn b v has lost t M hp0 hp1 hp2 M_1 eM_1 r_2 er_2 c_3 r_4 er_4 c_5 r_6 er_6 c_7 r_8 er_8 c_9 r_10 er_10 c_11 c_12 M_13 eM_13) dX11_note_96 (fun H locs hP hS => ?_)
              obtain ⟨M_14, eM_14⟩ : ∃ z_ : xM, z_ = xup M_13 82 0 (M_13 40 0 30).toNatClampNeg v := ⟨_, rfl⟩
              rw [← eM_14] at hP
              replace hres := xlet_n hres eM_14
              refine lv_aload_n hx hb dX11_note_97 rfl (lv_at hl 0 rfl) ?_
              refine gf_RX11_62 hx hb hts hown hK hP (hL 40 0 (xe_40 nb nn)) dX11_note_98 ?_
              refine lv_aload_n hx hb dX11_note_101 rfl (lv_at hl 0 rfl) ?_
              refine gf_RX11_265 hx hb hts hown hK hP (hL 40 0 (xe_40 nb nn)) dX11_note_102 ?_
              refine lv_iload_n hx hb dX11_note_105 rfl (lv_at hl 3 rfl) ?_
              refine x_iast hx hb hK hP hD hS (hL 83 0 (xe_83 nb nn)) (xc83 g 0) (ob_X11_note_106_in nb nn b v has lost t M hp0 hp1 hp2 M_1 eM_1 r_2 er_2 c_3 r_4 er_4 c_5 r_6 er_6 c_7 r_8 er_8 c_9 r_10 er_10 c_11 c_12 M_13 eM_13 M_14 eM_14) dX11_note_106 (fun H locs hP hS => ?_)
              obtain ⟨M_15, eM_15⟩ : ∃ z_ : xM, z_ = xup M_14 83 0 (M_14 40 0 30).toNatClampNeg has := ⟨_, rfl⟩
              rw [← eM_15] at hP
              replace hres := xlet_n hres eM_15
              refine lv_aload_n hx hb dX11_note_107 rfl (lv_at hl 0 rfl) ?_
              refine gf_RX11_65 hx hb hts hown hK hP (hL 40 0 (xe_40 nb nn)) dX11_note_108 ?_
              refine lv_aload_n hx hb dX11_note_111 rfl (lv_at hl 0 rfl) ?_
              refine gf_RX11_265 hx hb hts hown hK hP (hL 40 0 (xe_40 nb nn)) dX11_note_112 ?_
              refine lv_iload hx hb dX11_note_115 (lv_at hl 4 rfl) ?_
              refine x_iast hx hb hK hP hD hS (hL 84 0 (xe_84 nb nn)) (xc84 g 0) (ob_X11_note_117_in nb nn b v has lost t M hp0 hp1 hp2 M_1 eM_1 r_2 er_2 c_3 r_4 er_4 c_5 r_6 er_6 c_7 r_8 er_8 c_9 r_10 er_10 c_11 c_12 M_13 eM_13 M_14 eM_14 M_15 eM_15) dX11_note_117 (fun H locs hP hS => ?_)
              obtain ⟨M_16, eM_16⟩ : ∃ z_ : xM, z_ = xup M_15 84 0 (M_15 40 0 30).toNatClampNeg lost := ⟨_, rfl⟩
              rw [← eM_16] at hP
              replace hres := xlet_n hres eM_16
              refine lv_aload_n hx hb dX11_note_118 rfl (lv_at hl 0 rfl) ?_
              refine lv_aload_n hx hb dX11_note_119 rfl (lv_at hl 0 rfl) ?_
              refine gf_RX11_265 hx hb hts hown hK hP (hL 40 0 (xe_40 nb nn)) dX11_note_120 ?_
              refine lv_iload hx hb dX11_note_123 (lv_at hl 5 rfl) ?_
              refine x_callVv (As := [.int (M_16 40 0 30), .int t]) S hK hAm hD hP hS mt_X11_comeTo wd_712 ⟨by decide, by decide⟩ (hL 40 0 (xe_40 nb nn)) (xc40 g 0) rfl (c_X11_comeTo l nb nn g L M_16 hD hL (M_16 40 0 30) t (ob_X11_note_125_p0 nb nn b v has lost t M hp0 hp1 hp2 M_1 eM_1 r_2 er_2 c_3 r_4 er_4 c_5 r_6 er_6 c_7 r_8 er_8 c_9 r_10 er_10 c_11 c_12 M_13 eM_13 M_14 eM_14 M_15 eM_15 M_16 eM_16) (ob_X11_note_125_p1 nb nn b v has lost t M hp0 hp1 hp2 M_1 eM_1 r_2 er_2 c_3 r_4 er_4 c_5 r_6 er_6 c_7 r_8 er_8 c_9 r_10 er_10 c_11 c_12 M_13 eM_13 M_14 eM_14 M_15 eM_15 M_16 eM_16) (ob_X11_note_125_p2 nb nn b v has lost t M hp0 hp1 hp2 M_1 eM_1 r_2 er_2 c_3 r_4 er_4 c_5 r_6 er_6 c_7 r_8 er_8 c_9 r_10 er_10 c_11 c_12 M_13 eM_13 M_14 eM_14 M_15 eM_15 M_16 eM_16)) rfl hl.1 (Nat.le_of_ble_eq_true rfl) ⟨Nat.zero_le _, Nat.zero_le _⟩ dX11_note_125 rfl (fun M_18 H locs eM_18 hP hS => ?_)
              replace hres := xlet_n hres eM_18
              refine lv_aload_n hx hb dX11_note_128 rfl (lv_at hl 0 rfl) ?_
              refine lv_dup hx hb dX11_note_129 rfl ?_
              refine gf_RX11_265 hx hb hts hown hK hP (hL 40 0 (xe_40 nb nn)) dX11_note_130 ?_
              refine lv_iconst (v := 1) hx hb dX11_note_133 (by decide) ?_
              refine lv_iadd hx hb dX11_note_134 ?_
              refine lv_topi (fun v_19 ev_19 => ?_)
              replace hres := xlet_n hres ev_19
              refine pf_RX11_265 hx hb hts hown hK hP hD hS (hL 40 0 (xe_40 nb nn)) dX11_note_135 (fun H locs hP hS => ?_)
              obtain ⟨M_20, eM_20⟩ : ∃ z_ : xM, z_ = xup M_18 40 0 30 v_19 := ⟨_, rfl⟩
              rw [← eM_20] at hP
              replace hres := xlet_n hres eM_20
              refine lv_aload_n hx hb dX11_note_138 rfl (lv_at hl 0 rfl) ?_
              refine gf_RX11_265 hx hb hts hown hK hP (hL 40 0 (xe_40 nb nn)) dX11_note_139 ?_
              refine lv_iconst (v := 1) hx hb dX11_note_142 (by decide) ?_
              refine lv_isub hx hb dX11_note_143 ?_
              exact x_reti hx hb hr hlk hP hS (hres.symm.trans hF) dX11_note_144
            · replace hres := hres.trans (if_pos c_12)
              refine lv_ldc (own := RX11) (v := (-1000003)) hx hb hown (hts _ (List.mem_cons_of_mem _ wd_328)) dX11_note_74 ?_
              exact x_reti hx hb hr hlk hP hS (hres.symm.trans hF) dX11_note_76
          · replace hres := hres.trans (if_pos c_11)
            refine lv_ldc (own := RX11) (v := (-1000001)) hx hb hown (hts _ (List.mem_cons_of_mem _ wd_202)) dX11_note_62 ?_
            exact x_reti hx hb hr hlk hP hS (hres.symm.trans hF) dX11_note_64
set_option maxHeartbeats 4000000 in
set_option maxRecDepth 100000 in
theorem c_X11_told (l : Launch) (nb nn : Nat) (g : xG) (L : List (Nat × Nat)) (M : xM) (hD : xD g L) (hL : xEL nb nn L) (q : Int32) (what : Int32) (hp0 : 0 ≤ M 40 0 30) (hp1 : M 40 0 30 ≤ 24) : xCi l yX11_told cX11_told 3 (some .int) 2 g L M [.ref (xad g 40 0), .int q, .int what] (fun r u => (r, u) = f_X11_told q what M) := by
  intro sz
  refine x_beg (by decide +kernel) rfl ?_
  intro p e s m args below meth c ls hsz hB
  subst hsz
  obtain ⟨hx, hb, hml, hown, hts, hr, hlk, hK, hAm, hP, hl⟩ := hB
  have S : CallFix p m c cX11_told 3 s args (xws yX11_told cX11_told 3 (some .int)) RX11 := ⟨hx, hb, hml, hown, hts⟩
  have hown : s.vm.findClass RX11 = some m.cls := hown
  have hl : lv_has ls 3 [(0, .ref (xad g 40 0)), (1, .int q), (2, .int what)] := hl
  have hS : va_S (xA g L s.heap.size) s.heap s.heap [] := va_S.rf
  obtain ⟨F, hF⟩ : ∃ F, F = f_X11_told q what M := ⟨_, rfl⟩
  have hres := hF
  rw [f_X11_told] at hres
  refine lv_aload_n hx hb dX11_told_0 rfl (lv_at hl 0 rfl) ?_
  refine lv_iconst (v := 0) hx hb dX11_told_1 (by decide) ?_
  refine pf_RX11_113 hx hb hts hown hK hP hD hS (hL 40 0 (xe_40 nb nn)) dX11_told_2 (fun H locs hP hS => ?_)
  obtain ⟨M_1, eM_1⟩ : ∃ z_ : xM, z_ = xup M 40 0 0 0 := ⟨_, rfl⟩
  rw [← eM_1] at hP
  replace hres := xlet_n hres eM_1
  refine lv_aload_n hx hb dX11_told_5 rfl (lv_at hl 0 rfl) ?_
  refine lv_iload_n hx hb dX11_told_6 rfl (lv_at hl 1 rfl) ?_
  refine x_callVi (As := [.int q]) S hK hAm hD hP hS mt_X11_isNote wd_738 ⟨by decide, by decide⟩ (hL 40 0 (xe_40 nb nn)) (xc40 g 0) rfl (c_X11_isNote l nb nn g L M_1 hD hL q) rfl hl.1 (Nat.le_of_ble_eq_true rfl) ⟨Nat.zero_le _, Nat.zero_le _⟩ dX11_told_7 rfl (fun r_2 u H locs hp_ hP hS => ?_)
  obtain ⟨er_2, eu_⟩ := hp_
  rw [eu_] at hP
  clear eu_
  replace hres := xlet_n hres er_2
  refine lv_if_eq (tgt := 25) hx hb dX11_told_10 (by decide) (fun c_3 => ?_) (fun c_3 => ?_)
  · replace hres := hres.trans (if_pos c_3)
    refine lv_ldc (own := RX11) (v := (-1000001)) hx hb hown (hts _ (List.mem_cons_of_mem _ wd_202)) dX11_told_25 ?_
    exact x_reti hx hb hr hlk hP hS (hres.symm.trans hF) dX11_told_27
  · replace hres := hres.trans (if_neg c_3)
    refine lv_iload_n hx hb dX11_told_13 rfl (lv_at hl 2 rfl) ?_
    refine lv_i2l (v := what.toInt64) hx hb dX11_told_14 rfl ?_
    refine lv_lconst (v := 0) hx hb dX11_told_15 (by decide) ?_
    refine lv_ldc2 (own := RX11) (v := 6) hx hb hown (hts _ (List.mem_cons_of_mem _ wd_737)) dX11_told_16 ?_
    refine x_callSi (As := [.long (what.toInt64), .long 0, .long 6]) S hK hAm hD hP hS mt_X11_in wd_208 ⟨by decide, by decide⟩ (c_X11_in l nb nn g L M_1 hD hL (what.toInt64) 0 6) rfl hl.1 (Nat.le_of_ble_eq_true rfl) ⟨Nat.zero_le _, Nat.zero_le _⟩ dX11_told_19 rfl (fun r_4 u H locs hp_ hP hS => ?_)
    obtain ⟨er_4, eu_⟩ := hp_
    rw [eu_] at hP
    clear eu_
    replace hres := xlet_n hres er_4
    refine lv_if_ne (tgt := 28) hx hb dX11_told_22 (by decide) (fun c_5 => ?_) (fun c_5 => ?_)
    · replace hres := hres.trans (if_neg c_5)
      refine lv_iload_n hx hb dX11_told_28 rfl (lv_at hl 2 rfl) ?_
      by_cases c_6 : what = 0
      · replace hres := hres.trans (if_pos c_6)
        refine lv_tableIn (off := 39) (tgt := 68) hx hb dX11_told_29 (by rw [c_6]; decide) (by rw [c_6]; decide) (by rw [c_6]; rfl) (by decide) ?_
        refine lv_aload_n hx hb dX11_told_68 rfl (lv_at hl 0 rfl) ?_
        refine gf_RX11_56 hx hb hts hown hK hP (hL 40 0 (xe_40 nb nn)) dX11_told_69 ?_
        refine lv_iload_n hx hb dX11_told_72 rfl (lv_at hl 1 rfl) ?_
        refine x_iald hx hb hK hP (hL 81 0 (xe_81 nb nn)) (xc81 g 0) (ob_X11_told_73_in nb nn q what M hp0 hp1 M_1 eM_1 r_2 er_2 c_3 r_4 er_4 c_5 c_6) dX11_told_73 ?_
        exact x_reti hx hb hr hlk hP hS (hres.symm.trans hF) dX11_told_74
      · replace hres := hres.trans (if_neg c_6)
        by_cases c_7 : what = 1
        · replace hres := hres.trans (if_pos c_7)
          refine lv_tableIn (off := 46) (tgt := 75) hx hb dX11_told_29 (by rw [c_7]; decide) (by rw [c_7]; decide) (by rw [c_7]; rfl) (by decide) ?_
          refine lv_aload_n hx hb dX11_told_75 rfl (lv_at hl 0 rfl) ?_
          refine gf_RX11_59 hx hb hts hown hK hP (hL 40 0 (xe_40 nb nn)) dX11_told_76 ?_
          refine lv_iload_n hx hb dX11_told_79 rfl (lv_at hl 1 rfl) ?_
          refine x_iald hx hb hK hP (hL 82 0 (xe_82 nb nn)) (xc82 g 0) (ob_X11_told_80_in nb nn q what M hp0 hp1 M_1 eM_1 r_2 er_2 c_3 r_4 er_4 c_5 c_6 c_7) dX11_told_80 ?_
          exact x_reti hx hb hr hlk hP hS (hres.symm.trans hF) dX11_told_81
        · replace hres := hres.trans (if_neg c_7)
          by_cases c_8 : what = 2
          · replace hres := hres.trans (if_pos c_8)
            refine lv_tableIn (off := 53) (tgt := 82) hx hb dX11_told_29 (by rw [c_8]; decide) (by rw [c_8]; decide) (by rw [c_8]; rfl) (by decide) ?_
            refine lv_aload_n hx hb dX11_told_82 rfl (lv_at hl 0 rfl) ?_
            refine gf_RX11_62 hx hb hts hown hK hP (hL 40 0 (xe_40 nb nn)) dX11_told_83 ?_
            refine lv_iload_n hx hb dX11_told_86 rfl (lv_at hl 1 rfl) ?_
            refine x_iald hx hb hK hP (hL 83 0 (xe_83 nb nn)) (xc83 g 0) (ob_X11_told_87_in nb nn q what M hp0 hp1 M_1 eM_1 r_2 er_2 c_3 r_4 er_4 c_5 c_6 c_7 c_8) dX11_told_87 ?_
            exact x_reti hx hb hr hlk hP hS (hres.symm.trans hF) dX11_told_88
          · replace hres := hres.trans (if_neg c_8)
            by_cases c_9 : what = 3
            · replace hres := hres.trans (if_pos c_9)
              refine lv_tableIn (off := 60) (tgt := 89) hx hb dX11_told_29 (by rw [c_9]; decide) (by rw [c_9]; decide) (by rw [c_9]; rfl) (by decide) ?_
              refine lv_aload_n hx hb dX11_told_89 rfl (lv_at hl 0 rfl) ?_
              refine gf_RX11_65 hx hb hts hown hK hP (hL 40 0 (xe_40 nb nn)) dX11_told_90 ?_
              refine lv_iload_n hx hb dX11_told_93 rfl (lv_at hl 1 rfl) ?_
              refine x_iald hx hb hK hP (hL 84 0 (xe_84 nb nn)) (xc84 g 0) (ob_X11_told_94_in nb nn q what M hp0 hp1 M_1 eM_1 r_2 er_2 c_3 r_4 er_4 c_5 c_6 c_7 c_8 c_9) dX11_told_94 ?_
              exact x_reti hx hb hr hlk hP hS (hres.symm.trans hF) dX11_told_95
            · replace hres := hres.trans (if_neg c_9)
              by_cases c_10 : what = 4
              · replace hres := hres.trans (if_pos c_10)
                refine lv_tableIn (off := 67) (tgt := 96) hx hb dX11_told_29 (by rw [c_10]; decide) (by rw [c_10]; decide) (by rw [c_10]; rfl) (by decide) ?_
                refine lv_aload_n hx hb dX11_told_96 rfl (lv_at hl 0 rfl) ?_
                refine gf_RX11_68 hx hb hts hown hK hP (hL 40 0 (xe_40 nb nn)) dX11_told_97 ?_
                refine lv_iload_n hx hb dX11_told_100 rfl (lv_at hl 1 rfl) ?_
                refine x_iald hx hb hK hP (hL 85 0 (xe_85 nb nn)) (xc85 g 0) (ob_X11_told_101_in nb nn q what M hp0 hp1 M_1 eM_1 r_2 er_2 c_3 r_4 er_4 c_5 c_6 c_7 c_8 c_9 c_10) dX11_told_101 ?_
                exact x_reti hx hb hr hlk hP hS (hres.symm.trans hF) dX11_told_102
              · replace hres := hres.trans (if_neg c_10)
                by_cases c_11 : what = 5
                · replace hres := hres.trans (if_pos c_11)
                  refine lv_tableIn (off := 74) (tgt := 103) hx hb dX11_told_29 (by rw [c_11]; decide) (by rw [c_11]; decide) (by rw [c_11]; rfl) (by decide) ?_
                  refine lv_aload_n hx hb dX11_told_103 rfl (lv_at hl 0 rfl) ?_
                  refine gf_RX11_71 hx hb hts hown hK hP (hL 40 0 (xe_40 nb nn)) dX11_told_104 ?_
                  refine lv_iload_n hx hb dX11_told_107 rfl (lv_at hl 1 rfl) ?_
                  refine x_zald hx hb hK hP (hL 86 0 (xe_86 nb nn)) (xc86 g 0) (ob_X11_told_108_in nb nn q what M hp0 hp1 M_1 eM_1 r_2 er_2 c_3 r_4 er_4 c_5 c_6 c_7 c_8 c_9 c_10 c_11) dX11_told_108 ?_
                  refine lv_if_eq (tgt := 116) hx hb dX11_told_109 (by decide) (fun c_12 => ?_) (fun c_12 => ?_)
                  · replace hres := hres.trans (if_pos c_12)
                    refine lv_iconst (v := 0) hx hb dX11_told_116 (by decide) ?_
                    exact x_reti hx hb hr hlk hP hS (hres.symm.trans hF) dX11_told_117
                  · replace hres := hres.trans (if_neg c_12)
                    refine lv_iconst (v := 1) hx hb dX11_told_112 (by decide) ?_
                    refine lv_goto (tgt := 117) hx hb dX11_told_113 (by decide) ?_
                    exact x_reti hx hb hr hlk hP hS (hres.symm.trans hF) dX11_told_117
                · replace hres := hres.trans (if_neg c_11)
                  refine lv_tableOut (tgt := 118) hx hb dX11_told_29 (by have q0 := lv_neT c_6 (show (0 : Int32).toInt = 0 from rfl); have q1 := lv_neT c_7 (show (1 : Int32).toInt = 1 from rfl); have q2 := lv_neT c_8 (show (2 : Int32).toInt = 2 from rfl); have q3 := lv_neT c_9 (show (3 : Int32).toInt = 3 from rfl); have q4 := lv_neT c_10 (show (4 : Int32).toInt = 4 from rfl); have q5 := lv_neT c_11 (show (5 : Int32).toInt = 5 from rfl); omega) (by decide) ?_
                  refine lv_aload_n hx hb dX11_told_118 rfl (lv_at hl 0 rfl) ?_
                  refine gf_RX11_74 hx hb hts hown hK hP (hL 40 0 (xe_40 nb nn)) dX11_told_119 ?_
                  refine lv_iload_n hx hb dX11_told_122 rfl (lv_at hl 1 rfl) ?_
                  refine x_zald hx hb hK hP (hL 87 0 (xe_87 nb nn)) (xc87 g 0) (ob_X11_told_123_in nb nn q what M hp0 hp1 M_1 eM_1 r_2 er_2 c_3 r_4 er_4 c_5 c_6 c_7 c_8 c_9 c_10 c_11) dX11_told_123 ?_
                  refine lv_if_eq (tgt := 131) hx hb dX11_told_124 (by decide) (fun c_13 => ?_) (fun c_13 => ?_)
                  · replace hres := hres.trans (if_pos c_13)
                    refine lv_iconst (v := 0) hx hb dX11_told_131 (by decide) ?_
                    exact x_reti hx hb hr hlk hP hS (hres.symm.trans hF) dX11_told_132
                  · replace hres := hres.trans (if_neg c_13)
                    refine lv_iconst (v := 1) hx hb dX11_told_127 (by decide) ?_
                    refine lv_goto (tgt := 132) hx hb dX11_told_128 (by decide) ?_
                    exact x_reti hx hb hr hlk hP hS (hres.symm.trans hF) dX11_told_132
    · replace hres := hres.trans (if_pos c_5)
      refine lv_ldc (own := RX11) (v := (-1000001)) hx hb hown (hts _ (List.mem_cons_of_mem _ wd_202)) dX11_told_25 ?_
      exact x_reti hx hb hr hlk hP hS (hres.symm.trans hF) dX11_told_27
set_option maxHeartbeats 4000000 in
set_option maxRecDepth 100000 in
theorem c_X11_hands (l : Launch) (nb nn : Nat) (g : xG) (L : List (Nat × Nat)) (M : xM) (hD : xD g L) (hL : xEL nb nn L) (q : Int32) (i : Int32) (what : Int32) (hp0 : 0 ≤ M 40 0 30) (hp1 : M 40 0 30 ≤ 24) (hp2 : ∀ j : Nat, 0 ≤ M 91 0 j ∧ M 91 0 j ≤ 12) : xCi l yX11_hands cX11_hands 4 (some .int) 2 g L M [.ref (xad g 40 0), .int q, .int i, .int what] (fun r u => (r, u) = f_X11_hands q i what M) := by
  intro sz
  refine x_beg (by decide +kernel) rfl ?_
  intro p e s m args below meth c ls hsz hB
  subst hsz
  obtain ⟨hx, hb, hml, hown, hts, hr, hlk, hK, hAm, hP, hl⟩ := hB
  have S : CallFix p m c cX11_hands 4 s args (xws yX11_hands cX11_hands 4 (some .int)) RX11 := ⟨hx, hb, hml, hown, hts⟩
  have hown : s.vm.findClass RX11 = some m.cls := hown
  have hl : lv_has ls 4 [(0, .ref (xad g 40 0)), (1, .int q), (2, .int i), (3, .int what)] := hl
  have hS : va_S (xA g L s.heap.size) s.heap s.heap [] := va_S.rf
  obtain ⟨F, hF⟩ : ∃ F, F = f_X11_hands q i what M := ⟨_, rfl⟩
  have hres := hF
  rw [f_X11_hands] at hres
  refine lv_aload_n hx hb dX11_hands_0 rfl (lv_at hl 0 rfl) ?_
  refine lv_iconst (v := 0) hx hb dX11_hands_1 (by decide) ?_
  refine pf_RX11_113 hx hb hts hown hK hP hD hS (hL 40 0 (xe_40 nb nn)) dX11_hands_2 (fun H locs hP hS => ?_)
  obtain ⟨M_1, eM_1⟩ : ∃ z_ : xM, z_ = xup M 40 0 0 0 := ⟨_, rfl⟩
  rw [← eM_1] at hP
  replace hres := xlet_n hres eM_1
  refine lv_aload_n hx hb dX11_hands_5 rfl (lv_at hl 0 rfl) ?_
  refine lv_iload_n hx hb dX11_hands_6 rfl (lv_at hl 1 rfl) ?_
  refine x_callVi (As := [.int q]) S hK hAm hD hP hS mt_X11_isNote wd_738 ⟨by decide, by decide⟩ (hL 40 0 (xe_40 nb nn)) (xc40 g 0) rfl (c_X11_isNote l nb nn g L M_1 hD hL q) rfl hl.1 (Nat.le_of_ble_eq_true rfl) ⟨Nat.zero_le _, Nat.zero_le _⟩ dX11_hands_7 rfl (fun r_2 u H locs hp_ hP hS => ?_)
  obtain ⟨er_2, eu_⟩ := hp_
  rw [eu_] at hP
  clear eu_
  replace hres := xlet_n hres er_2
  refine lv_if_eq (tgt := 28) hx hb dX11_hands_10 (by decide) (fun c_3 => ?_) (fun c_3 => ?_)
  · replace hres := hres.trans (if_pos c_3)
    refine lv_ldc (own := RX11) (v := (-1000001)) hx hb hown (hts _ (List.mem_cons_of_mem _ wd_202)) dX11_hands_28 ?_
    exact x_reti hx hb hr hlk hP hS (hres.symm.trans hF) dX11_hands_30
  · replace hres := hres.trans (if_neg c_3)
    refine lv_iload_n hx hb dX11_hands_13 rfl (lv_at hl 2 rfl) ?_
    refine lv_iconst (v := (-1)) hx hb dX11_hands_14 (by decide) ?_
    refine lv_icmp_lt (tgt := 28) hx hb dX11_hands_15 (by decide) (fun c_4 => ?_) (fun c_4 => ?_)
    · replace hres := hres.trans (if_pos c_4)
      refine lv_ldc (own := RX11) (v := (-1000001)) hx hb hown (hts _ (List.mem_cons_of_mem _ wd_202)) dX11_hands_28 ?_
      exact x_reti hx hb hr hlk hP hS (hres.symm.trans hF) dX11_hands_30
    · replace hres := hres.trans (if_neg c_4)
      refine lv_iload_n hx hb dX11_hands_18 rfl (lv_at hl 3 rfl) ?_
      refine lv_i2l (v := what.toInt64) hx hb dX11_hands_19 rfl ?_
      refine lv_lconst (v := 0) hx hb dX11_hands_20 (by decide) ?_
      refine lv_lconst (v := 1) hx hb dX11_hands_21 (by decide) ?_
      refine x_callSi (As := [.long (what.toInt64), .long 0, .long 1]) S hK hAm hD hP hS mt_X11_in wd_208 ⟨by decide, by decide⟩ (c_X11_in l nb nn g L M_1 hD hL (what.toInt64) 0 1) rfl hl.1 (Nat.le_of_ble_eq_true rfl) ⟨Nat.zero_le _, Nat.zero_le _⟩ dX11_hands_22 rfl (fun r_5 u H locs hp_ hP hS => ?_)
      obtain ⟨er_5, eu_⟩ := hp_
      rw [eu_] at hP
      clear eu_
      replace hres := xlet_n hres er_5
      refine lv_if_ne (tgt := 31) hx hb dX11_hands_25 (by decide) (fun c_6 => ?_) (fun c_6 => ?_)
      · replace hres := hres.trans (if_neg c_6)
        refine lv_iload_n hx hb dX11_hands_31 rfl (lv_at hl 2 rfl) ?_
        refine lv_iconst (v := (-1)) hx hb dX11_hands_32 (by decide) ?_
        refine lv_icmp_ne (tgt := 45) hx hb dX11_hands_33 (by decide) (fun c_7 => ?_) (fun c_7 => ?_)
        · replace hres := hres.trans (if_neg c_7)
          refine lv_iload_n hx hb dX11_hands_45 rfl (lv_at hl 2 rfl) ?_
          refine lv_aload_n hx hb dX11_hands_46 rfl (lv_at hl 0 rfl) ?_
          refine gf_RX11_86 hx hb hts hown hK hP (hL 40 0 (xe_40 nb nn)) dX11_hands_47 ?_
          refine lv_iload_n hx hb dX11_hands_50 rfl (lv_at hl 1 rfl) ?_
          refine x_iald hx hb hK hP (hL 91 0 (xe_91 nb nn)) (xc91 g 0) (ob_X11_hands_51_in nb nn q i what M hp0 hp1 hp2 M_1 eM_1 r_2 er_2 c_3 c_4 r_5 er_5 c_6 c_7) dX11_hands_51 ?_
          refine lv_icmp_lt (tgt := 60) hx hb dX11_hands_52 (by decide) (fun c_8 => ?_) (fun c_8 => ?_)
          · replace hres := hres.trans (if_pos c_8)
            refine lv_iload_n hx hb dX11_hands_60 rfl (lv_at hl 3 rfl) ?_
            refine lv_if_ne (tgt := 78) hx hb dX11_hands_61 (by decide) (fun c_9 => ?_) (fun c_9 => ?_)
            · replace hres := hres.trans (if_neg c_9)
              refine lv_aload_n hx hb dX11_hands_78 rfl (lv_at hl 0 rfl) ?_
              refine gf_RX11_92 hx hb hts hown hK hP (hL 40 0 (xe_40 nb nn)) dX11_hands_79 ?_
              refine lv_bipush (v := 12) hx hb dX11_hands_82 (by decide) ?_
              refine lv_iload_n hx hb dX11_hands_84 rfl (lv_at hl 1 rfl) ?_
              refine lv_imul hx hb dX11_hands_85 ?_
              refine lv_iload_n hx hb dX11_hands_86 rfl (lv_at hl 2 rfl) ?_
              refine lv_iadd hx hb dX11_hands_87 ?_
              refine x_iald hx hb hK hP (hL 93 0 (xe_93 nb nn)) (xc93 g 0) (ob_X11_hands_88_in nb nn q i what M hp0 hp1 hp2 M_1 eM_1 r_2 er_2 c_3 c_4 r_5 er_5 c_6 c_7 c_8 c_9) dX11_hands_88 ?_
              exact x_reti hx hb hr hlk hP hS (hres.symm.trans hF) dX11_hands_89
            · replace hres := hres.trans (if_pos c_9)
              refine lv_aload_n hx hb dX11_hands_64 rfl (lv_at hl 0 rfl) ?_
              refine gf_RX11_89 hx hb hts hown hK hP (hL 40 0 (xe_40 nb nn)) dX11_hands_65 ?_
              refine lv_bipush (v := 12) hx hb dX11_hands_68 (by decide) ?_
              refine lv_iload_n hx hb dX11_hands_70 rfl (lv_at hl 1 rfl) ?_
              refine lv_imul hx hb dX11_hands_71 ?_
              refine lv_iload_n hx hb dX11_hands_72 rfl (lv_at hl 2 rfl) ?_
              refine lv_iadd hx hb dX11_hands_73 ?_
              refine x_iald hx hb hK hP (hL 92 0 (xe_92 nb nn)) (xc92 g 0) (ob_X11_hands_74_in nb nn q i what M hp0 hp1 hp2 M_1 eM_1 r_2 er_2 c_3 c_4 r_5 er_5 c_6 c_7 c_8 c_9) dX11_hands_74 ?_
              refine lv_goto (tgt := 89) hx hb dX11_hands_75 (by decide) ?_
              exact x_reti hx hb hr hlk hP hS (hres.symm.trans hF) dX11_hands_89
          · replace hres := hres.trans (if_neg c_8)
            refine lv_ldc (own := RX11) (v := (-1000000)) hx hb hown (hts _ (List.mem_cons_of_mem _ wd_302)) dX11_hands_55 ?_
            refine lv_goto (tgt := 89) hx hb dX11_hands_57 (by decide) ?_
            exact x_reti hx hb hr hlk hP hS (hres.symm.trans hF) dX11_hands_89
        · replace hres := hres.trans (if_pos c_7)
          refine lv_aload_n hx hb dX11_hands_36 rfl (lv_at hl 0 rfl) ?_
          refine gf_RX11_86 hx hb hts hown hK hP (hL 40 0 (xe_40 nb nn)) dX11_hands_37 ?_
          refine lv_iload_n hx hb dX11_hands_40 rfl (lv_at hl 1 rfl) ?_
          refine x_iald hx hb hK hP (hL 91 0 (xe_91 nb nn)) (xc91 g 0) (ob_X11_hands_41_in nb nn q i what M hp0 hp1 hp2 M_1 eM_1 r_2 er_2 c_3 c_4 r_5 er_5 c_6 c_7) dX11_hands_41 ?_
          refine lv_goto (tgt := 89) hx hb dX11_hands_42 (by decide) ?_
          exact x_reti hx hb hr hlk hP hS (hres.symm.trans hF) dX11_hands_89
      · replace hres := hres.trans (if_pos c_6)
        refine lv_ldc (own := RX11) (v := (-1000001)) hx hb hown (hts _ (List.mem_cons_of_mem _ wd_202)) dX11_hands_28 ?_
        exact x_reti hx hb hr hlk hP hS (hres.symm.trans hF) dX11_hands_30
set_option maxHeartbeats 4000000 in
set_option maxRecDepth 100000 in
theorem c_X11_trader (l : Launch) (nb nn : Nat) (g : xG) (L : List (Nat × Nat)) (M : xM) (hD : xD g L) (hL : xEL nb nn L) (t : Int32) (town : Int32) (v : Int32)  : xCi l yX11_trader cX11_trader 4 (some .int) 2 g L M [.ref (xad g 40 0), .int t, .int town, .int v] (fun r u => (r, u) = f_X11_trader t town v M) := by
  intro sz
  refine x_beg (by decide +kernel) rfl ?_
  intro p e s m args below meth c ls hsz hB
  subst hsz
  obtain ⟨hx, hb, hml, hown, hts, hr, hlk, hK, hAm, hP, hl⟩ := hB
  have S : CallFix p m c cX11_trader 4 s args (xws yX11_trader cX11_trader 4 (some .int)) RX11 := ⟨hx, hb, hml, hown, hts⟩
  have hown : s.vm.findClass RX11 = some m.cls := hown
  have hl : lv_has ls 4 [(0, .ref (xad g 40 0)), (1, .int t), (2, .int town), (3, .int v)] := hl
  have hS : va_S (xA g L s.heap.size) s.heap s.heap [] := va_S.rf
  obtain ⟨F, hF⟩ : ∃ F, F = f_X11_trader t town v M := ⟨_, rfl⟩
  have hres := hF
  rw [f_X11_trader] at hres
  refine lv_aload_n hx hb dX11_trader_0 rfl (lv_at hl 0 rfl) ?_
  refine lv_iconst (v := 0) hx hb dX11_trader_1 (by decide) ?_
  refine pf_RX11_113 hx hb hts hown hK hP hD hS (hL 40 0 (xe_40 nb nn)) dX11_trader_2 (fun H locs hP hS => ?_)
  obtain ⟨M_1, eM_1⟩ : ∃ z_ : xM, z_ = xup M 40 0 0 0 := ⟨_, rfl⟩
  rw [← eM_1] at hP
  replace hres := xlet_n hres eM_1
  refine lv_iload_n hx hb dX11_trader_5 rfl (lv_at hl 1 rfl) ?_
  refine x_callSi (As := [.int t]) S hK hAm hD hP hS mt_X11_isTrader wd_709 ⟨by decide, by decide⟩ (c_X11_isTrader l nb nn g L M_1 hD hL t) rfl hl.1 (Nat.le_of_ble_eq_true rfl) ⟨Nat.zero_le _, Nat.zero_le _⟩ dX11_trader_6 rfl (fun r_2 u H locs hp_ hP hS => ?_)
  obtain ⟨er_2, eu_⟩ := hp_
  rw [eu_] at hP
  clear eu_
  replace hres := xlet_n hres er_2
  refine lv_if_eq (tgt := 31) hx hb dX11_trader_9 (by decide) (fun c_3 => ?_) (fun c_3 => ?_)
  · replace hres := hres.trans (if_pos c_3)
    refine lv_ldc (own := RX11) (v := (-1000001)) hx hb hown (hts _ (List.mem_cons_of_mem _ wd_202)) dX11_trader_31 ?_
    exact x_reti hx hb hr hlk hP hS (hres.symm.trans hF) dX11_trader_33
  · replace hres := hres.trans (if_neg c_3)
    refine lv_iload_n hx hb dX11_trader_12 rfl (lv_at hl 2 rfl) ?_
    refine x_callSi (As := [.int town]) S hK hAm hD hP hS mt_X11_isTown wd_281 ⟨by decide, by decide⟩ (c_X11_isTown l nb nn g L M_1 hD hL town) rfl hl.1 (Nat.le_of_ble_eq_true rfl) ⟨Nat.zero_le _, Nat.zero_le _⟩ dX11_trader_13 rfl (fun r_4 u H locs hp_ hP hS => ?_)
    obtain ⟨er_4, eu_⟩ := hp_
    rw [eu_] at hP
    clear eu_
    replace hres := xlet_n hres er_4
    refine lv_if_eq (tgt := 31) hx hb dX11_trader_16 (by decide) (fun c_5 => ?_) (fun c_5 => ?_)
    · replace hres := hres.trans (if_pos c_5)
      refine lv_ldc (own := RX11) (v := (-1000001)) hx hb hown (hts _ (List.mem_cons_of_mem _ wd_202)) dX11_trader_31 ?_
      exact x_reti hx hb hr hlk hP hS (hres.symm.trans hF) dX11_trader_33
    · replace hres := hres.trans (if_neg c_5)
      refine lv_iload_n hx hb dX11_trader_19 rfl (lv_at hl 3 rfl) ?_
      refine lv_i2l (v := v.toInt64) hx hb dX11_trader_20 rfl ?_
      refine lv_lconst (v := 0) hx hb dX11_trader_21 (by decide) ?_
      refine lv_ldc2 (own := RX11) (v := 100) hx hb hown (hts _ (List.mem_cons_of_mem _ wd_707)) dX11_trader_22 ?_
      refine x_callSi (As := [.long (v.toInt64), .long 0, .long 100]) S hK hAm hD hP hS mt_X11_in wd_208 ⟨by decide, by decide⟩ (c_X11_in l nb nn g L M_1 hD hL (v.toInt64) 0 100) rfl hl.1 (Nat.le_of_ble_eq_true rfl) ⟨Nat.zero_le _, Nat.zero_le _⟩ dX11_trader_25 rfl (fun r_6 u H locs hp_ hP hS => ?_)
      obtain ⟨er_6, eu_⟩ := hp_
      rw [eu_] at hP
      clear eu_
      replace hres := xlet_n hres er_6
      refine lv_if_ne (tgt := 34) hx hb dX11_trader_28 (by decide) (fun c_7 => ?_) (fun c_7 => ?_)
      · replace hres := hres.trans (if_neg c_7)
        refine lv_aload_n hx hb dX11_trader_34 rfl (lv_at hl 0 rfl) ?_
        refine gf_RX11_95 hx hb hts hown hK hP (hL 40 0 (xe_40 nb nn)) dX11_trader_35 ?_
        refine lv_iload_n hx hb dX11_trader_38 rfl (lv_at hl 1 rfl) ?_
        refine lv_iload_n hx hb dX11_trader_39 rfl (lv_at hl 2 rfl) ?_
        refine x_iast hx hb hK hP hD hS (hL 94 0 (xe_94 nb nn)) (xc94 g 0) (ob_X11_trader_40_in nb nn t town v M M_1 eM_1 r_2 er_2 c_3 r_4 er_4 c_5 r_6 er_6 c_7) dX11_trader_40 (fun H locs hP hS => ?_)
        obtain ⟨M_8, eM_8⟩ : ∃ z_ : xM, z_ = xup M_1 94 0 t.toNatClampNeg town := ⟨_, rfl⟩
        rw [← eM_8] at hP
        replace hres := xlet_n hres eM_8
        refine lv_aload_n hx hb dX11_trader_41 rfl (lv_at hl 0 rfl) ?_
        refine gf_RX11_98 hx hb hts hown hK hP (hL 40 0 (xe_40 nb nn)) dX11_trader_42 ?_
        refine lv_iload_n hx hb dX11_trader_45 rfl (lv_at hl 1 rfl) ?_
        refine lv_iload_n hx hb dX11_trader_46 rfl (lv_at hl 3 rfl) ?_
        refine x_iast hx hb hK hP hD hS (hL 95 0 (xe_95 nb nn)) (xc95 g 0) (ob_X11_trader_47_in nb nn t town v M M_1 eM_1 r_2 er_2 c_3 r_4 er_4 c_5 r_6 er_6 c_7 M_8 eM_8) dX11_trader_47 (fun H locs hP hS => ?_)
        obtain ⟨M_9, eM_9⟩ : ∃ z_ : xM, z_ = xup M_8 95 0 t.toNatClampNeg v := ⟨_, rfl⟩
        rw [← eM_9] at hP
        replace hres := xlet_n hres eM_9
        refine lv_iconst (v := 1) hx hb dX11_trader_48 (by decide) ?_
        exact x_reti hx hb hr hlk hP hS (hres.symm.trans hF) dX11_trader_49
      · replace hres := hres.trans (if_pos c_7)
        refine lv_ldc (own := RX11) (v := (-1000001)) hx hb hown (hts _ (List.mem_cons_of_mem _ wd_202)) dX11_trader_31 ?_
        exact x_reti hx hb hr hlk hP hS (hres.symm.trans hF) dX11_trader_33
set_option maxHeartbeats 4000000 in
set_option maxRecDepth 100000 in
theorem c_X11_home (l : Launch) (nb nn : Nat) (g : xG) (L : List (Nat × Nat)) (M : xM) (hD : xD g L) (hL : xEL nb nn L) (q : Int32) (hp0 : 0 ≤ M 40 0 30) (hp1 : M 40 0 30 ≤ 24) (hp2 : M 40 0 7 ≤ 8) (hp3 : ∀ j : Nat, 0 ≤ M 81 0 j) : xCi l yX11_home cX11_home 3 (some .int) 2 g L M [.ref (xad g 40 0), .int q] (fun r u => (r, u) = f_X11_home q M) := by
  intro sz
  refine x_beg (by decide +kernel) rfl ?_
  intro p e s m args below meth c ls hsz hB
  subst hsz
  obtain ⟨hx, hb, hml, hown, hts, hr, hlk, hK, hAm, hP, hl⟩ := hB
  have S : CallFix p m c cX11_home 3 s args (xws yX11_home cX11_home 3 (some .int)) RX11 := ⟨hx, hb, hml, hown, hts⟩
  have hown : s.vm.findClass RX11 = some m.cls := hown
  have hl : lv_has ls 3 [(0, .ref (xad g 40 0)), (1, .int q)] := hl
  have hS : va_S (xA g L s.heap.size) s.heap s.heap [] := va_S.rf
  obtain ⟨F, hF⟩ : ∃ F, F = f_X11_home q M := ⟨_, rfl⟩
  have hres := hF
  rw [f_X11_home] at hres
  refine lv_aload_n hx hb dX11_home_0 rfl (lv_at hl 0 rfl) ?_
  refine lv_iconst (v := 0) hx hb dX11_home_1 (by decide) ?_
  refine pf_RX11_113 hx hb hts hown hK hP hD hS (hL 40 0 (xe_40 nb nn)) dX11_home_2 (fun H locs hP hS => ?_)
  obtain ⟨M_1, eM_1⟩ : ∃ z_ : xM, z_ = xup M 40 0 0 0 := ⟨_, rfl⟩
  rw [← eM_1] at hP
  replace hres := xlet_n hres eM_1
  refine lv_aload_n hx hb dX11_home_5 rfl (lv_at hl 0 rfl) ?_
  refine lv_iload_n hx hb dX11_home_6 rfl (lv_at hl 1 rfl) ?_
  refine x_callVi (As := [.int q]) S hK hAm hD hP hS mt_X11_isNote wd_738 ⟨by decide, by decide⟩ (hL 40 0 (xe_40 nb nn)) (xc40 g 0) rfl (c_X11_isNote l nb nn g L M_1 hD hL q) rfl hl.1 (Nat.le_of_ble_eq_true rfl) ⟨Nat.zero_le _, Nat.zero_le _⟩ dX11_home_7 rfl (fun r_2 u H locs hp_ hP hS => ?_)
  obtain ⟨er_2, eu_⟩ := hp_
  rw [eu_] at hP
  clear eu_
  replace hres := xlet_n hres er_2
  refine lv_if_ne (tgt := 16) hx hb dX11_home_10 (by decide) (fun c_3 => ?_) (fun c_3 => ?_)
  · replace hres := hres.trans (if_neg c_3)
    refine lv_aload_n hx hb dX11_home_16 rfl (lv_at hl 0 rfl) ?_
    refine gf_RX11_68 hx hb hts hown hK hP (hL 40 0 (xe_40 nb nn)) dX11_home_17 ?_
    refine lv_iload_n hx hb dX11_home_20 rfl (lv_at hl 1 rfl) ?_
    refine x_iald hx hb hK hP (hL 85 0 (xe_85 nb nn)) (xc85 g 0) (ob_X11_home_21_in nb nn q M hp0 hp1 hp2 hp3 M_1 eM_1 r_2 er_2 c_3) dX11_home_21 ?_
    refine lv_ldc (own := RX11) (v := (-1000000)) hx hb hown (hts _ (List.mem_cons_of_mem _ wd_302)) dX11_home_22 ?_
    refine lv_icmp_eq (tgt := 35) hx hb dX11_home_24 (by decide) (fun c_4 => ?_) (fun c_4 => ?_)
    · replace hres := hres.trans (if_pos c_4)
      refine lv_ldcw (own := RX11) (v := (-1000002)) hx hb hown (hts _ (List.mem_cons_of_mem _ wd_859)) dX11_home_35 ?_
      exact x_reti hx hb hr hlk hP hS (hres.symm.trans hF) dX11_home_38
    · replace hres := hres.trans (if_neg c_4)
      refine lv_aload_n hx hb dX11_home_27 rfl (lv_at hl 0 rfl) ?_
      refine lv_iload_n hx hb dX11_home_28 rfl (lv_at hl 1 rfl) ?_
      refine x_callVi (As := [.int q]) S hK hAm hD hP hS mt_X11_isGhost wd_768 ⟨by decide, by decide⟩ (hL 40 0 (xe_40 nb nn)) (xc40 g 0) rfl (c_X11_isGhost l nb nn g L M_1 hD hL q (ob_X11_home_29_p0 nb nn q M hp0 hp1 hp2 hp3 M_1 eM_1 r_2 er_2 c_3 c_4) (ob_X11_home_29_p1 nb nn q M hp0 hp1 hp2 hp3 M_1 eM_1 r_2 er_2 c_3 c_4)) rfl hl.1 (Nat.le_of_ble_eq_true rfl) ⟨Nat.zero_le _, Nat.zero_le _⟩ dX11_home_29 rfl (fun r_5 u H locs hp_ hP hS => ?_)
      obtain ⟨er_5, eu_⟩ := hp_
      rw [eu_] at hP
      clear eu_
      replace hres := xlet_n hres er_5
      refine lv_if_eq (tgt := 39) hx hb dX11_home_32 (by decide) (fun c_6 => ?_) (fun c_6 => ?_)
      · replace hres := hres.trans (if_pos c_6)
        refine lv_aload_n hx hb dX11_home_39 rfl (lv_at hl 0 rfl) ?_
        refine gf_RX11_56 hx hb hts hown hK hP (hL 40 0 (xe_40 nb nn)) dX11_home_40 ?_
        refine lv_iload_n hx hb dX11_home_43 rfl (lv_at hl 1 rfl) ?_
        refine x_iald hx hb hK hP (hL 81 0 (xe_81 nb nn)) (xc81 g 0) (ob_X11_home_44_in nb nn q M hp0 hp1 hp2 hp3 M_1 eM_1 r_2 er_2 c_3 c_4 r_5 er_5 c_6) dX11_home_44 ?_
        refine lv_topi (fun x2_7 ex2_7 => ?_)
        replace hres := xlet_n hres ex2_7
        refine lv_istore_n (lv' := [(2, .int x2_7), (0, .ref (xad g 40 0)), (1, .int q)]) hx hb dX11_home_45 rfl hl (by decide) rfl (fun ls hl => ?_)
        refine lv_aload_n hx hb dX11_home_46 rfl (lv_at hl 1 rfl) ?_
        refine gf_RX11_68 hx hb hts hown hK hP (hL 40 0 (xe_40 nb nn)) dX11_home_47 ?_
        refine lv_iload_n hx hb dX11_home_50 rfl (lv_at hl 2 rfl) ?_
        refine lv_ldc (own := RX11) (v := (-1000000)) hx hb hown (hts _ (List.mem_cons_of_mem _ wd_302)) dX11_home_51 ?_
        refine x_iast hx hb hK hP hD hS (hL 85 0 (xe_85 nb nn)) (xc85 g 0) (ob_X11_home_53_in nb nn q M hp0 hp1 hp2 hp3 M_1 eM_1 r_2 er_2 c_3 c_4 r_5 er_5 c_6 x2_7 ex2_7) dX11_home_53 (fun H locs hP hS => ?_)
        obtain ⟨M_8, eM_8⟩ : ∃ z_ : xM, z_ = xup M_1 85 0 q.toNatClampNeg (-1000000) := ⟨_, rfl⟩
        rw [← eM_8] at hP
        replace hres := xlet_n hres eM_8
        refine lv_aload_n hx hb dX11_home_54 rfl (lv_at hl 1 rfl) ?_
        refine gf_RX11_62 hx hb hts hown hK hP (hL 40 0 (xe_40 nb nn)) dX11_home_55 ?_
        refine lv_iload_n hx hb dX11_home_58 rfl (lv_at hl 2 rfl) ?_
        refine x_iald hx hb hK hP (hL 83 0 (xe_83 nb nn)) (xc83 g 0) (ob_X11_home_59_in nb nn q M hp0 hp1 hp2 hp3 M_1 eM_1 r_2 er_2 c_3 c_4 r_5 er_5 c_6 x2_7 ex2_7 M_8 eM_8) dX11_home_59 ?_
        refine lv_aload_n hx hb dX11_home_60 rfl (lv_at hl 1 rfl) ?_
        refine gf_RX11_31 hx hb hts hown hK hP (hL 40 0 (xe_40 nb nn)) dX11_home_61 ?_
        refine lv_iload_n hx hb dX11_home_64 rfl (lv_at hl 0 rfl) ?_
        refine x_iald hx hb hK hP (hL 60 0 (xe_60 nb nn)) (xc60 g 0) (ob_X11_home_65_in nb nn q M hp0 hp1 hp2 hp3 M_1 eM_1 r_2 er_2 c_3 c_4 r_5 er_5 c_6 x2_7 ex2_7 M_8 eM_8) dX11_home_65 ?_
        refine lv_icmp_eq (tgt := 78) hx hb dX11_home_66 (by decide) (fun c_9 => ?_) (fun c_9 => ?_)
        · replace hres := hres.trans (if_pos c_9)
          refine lv_aload_n hx hb dX11_home_78 rfl (lv_at hl 1 rfl) ?_
          refine gf_RX11_71 hx hb hts hown hK hP (hL 40 0 (xe_40 nb nn)) dX11_home_79 ?_
          refine lv_iload_n hx hb dX11_home_82 rfl (lv_at hl 2 rfl) ?_
          refine lv_iconst (v := 1) hx hb dX11_home_83 (by decide) ?_
          refine x_zast hx hb hK hP hD hS (hL 86 0 (xe_86 nb nn)) (xc86 g 0) (ob_X11_home_84_in nb nn q M hp0 hp1 hp2 hp3 M_1 eM_1 r_2 er_2 c_3 c_4 r_5 er_5 c_6 x2_7 ex2_7 M_8 eM_8 c_9) dX11_home_84 (fun H locs hP hS => ?_)
          obtain ⟨M_10, eM_10⟩ : ∃ z_ : xM, z_ = xup M_8 86 0 q.toNatClampNeg (vp_nar .boolean 1) := ⟨_, rfl⟩
          rw [← eM_10] at hP
          replace hres := xlet_n hres eM_10
          refine lv_aload_n hx hb dX11_home_85 rfl (lv_at hl 1 rfl) ?_
          refine gf_RX11_34 hx hb hts hown hK hP (hL 40 0 (xe_40 nb nn)) dX11_home_86 ?_
          refine lv_iload_n hx hb dX11_home_89 rfl (lv_at hl 0 rfl) ?_
          refine x_zald hx hb hK hP (hL 61 0 (xe_61 nb nn)) (xc61 g 0) (ob_X11_home_90_in nb nn q M hp0 hp1 hp2 hp3 M_1 eM_1 r_2 er_2 c_3 c_4 r_5 er_5 c_6 x2_7 ex2_7 M_8 eM_8 c_9 M_10 eM_10) dX11_home_90 ?_
          refine lv_if_ne (tgt := 109) hx hb dX11_home_91 (by decide) (fun c_11 => ?_) (fun c_11 => ?_)
          · replace hres := hres.trans (if_neg c_11)
            refine lv_aload_n hx hb dX11_home_109 rfl (lv_at hl 1 rfl) ?_
            refine gf_RX11_34 hx hb hts hown hK hP (hL 40 0 (xe_40 nb nn)) dX11_home_110 ?_
            refine lv_iload_n hx hb dX11_home_113 rfl (lv_at hl 0 rfl) ?_
            refine lv_iconst (v := 1) hx hb dX11_home_114 (by decide) ?_
            refine x_zast hx hb hK hP hD hS (hL 61 0 (xe_61 nb nn)) (xc61 g 0) (ob_X11_home_115_in nb nn q M hp0 hp1 hp2 hp3 M_1 eM_1 r_2 er_2 c_3 c_4 r_5 er_5 c_6 x2_7 ex2_7 M_8 eM_8 c_9 M_10 eM_10 c_11) dX11_home_115 (fun H locs hP hS => ?_)
            obtain ⟨M_12, eM_12⟩ : ∃ z_ : xM, z_ = xup M_10 61 0 x2_7.toNatClampNeg (vp_nar .boolean 1) := ⟨_, rfl⟩
            rw [← eM_12] at hP
            replace hres := xlet_n hres eM_12
            refine lv_iconst (v := 0) hx hb dX11_home_116 (by decide) ?_
            exact x_reti hx hb hr hlk hP hS (hres.symm.trans hF) dX11_home_117
          · replace hres := hres.trans (if_pos c_11)
            refine lv_aload_n hx hb dX11_home_94 rfl (lv_at hl 1 rfl) ?_
            refine gf_RX11_28 hx hb hts hown hK hP (hL 40 0 (xe_40 nb nn)) dX11_home_95 ?_
            refine lv_iload_n hx hb dX11_home_98 rfl (lv_at hl 0 rfl) ?_
            refine x_iald hx hb hK hP (hL 59 0 (xe_59 nb nn)) (xc59 g 0) (ob_X11_home_99_in nb nn q M hp0 hp1 hp2 hp3 M_1 eM_1 r_2 er_2 c_3 c_4 r_5 er_5 c_6 x2_7 ex2_7 M_8 eM_8 c_9 M_10 eM_10 c_11) dX11_home_99 ?_
            refine lv_aload_n hx hb dX11_home_100 rfl (lv_at hl 1 rfl) ?_
            refine gf_RX11_59 hx hb hts hown hK hP (hL 40 0 (xe_40 nb nn)) dX11_home_101 ?_
            refine lv_iload_n hx hb dX11_home_104 rfl (lv_at hl 2 rfl) ?_
            refine x_iald hx hb hK hP (hL 82 0 (xe_82 nb nn)) (xc82 g 0) (ob_X11_home_105_in nb nn q M hp0 hp1 hp2 hp3 M_1 eM_1 r_2 er_2 c_3 c_4 r_5 er_5 c_6 x2_7 ex2_7 M_8 eM_8 c_9 M_10 eM_10 c_11) dX11_home_105 ?_
            refine lv_icmp_ge (tgt := 118) hx hb dX11_home_106 (by decide) (fun c_13 => ?_) (fun c_13 => ?_)
            · replace hres := hres.trans (if_pos c_13)
              refine lv_aload_n hx hb dX11_home_118 rfl (lv_at hl 1 rfl) ?_
              refine gf_RX11_28 hx hb hts hown hK hP (hL 40 0 (xe_40 nb nn)) dX11_home_119 ?_
              refine lv_iload_n hx hb dX11_home_122 rfl (lv_at hl 0 rfl) ?_
              refine lv_dup2_11 hx hb dX11_home_123 rfl rfl ?_
              refine x_iald hx hb hK hP (hL 59 0 (xe_59 nb nn)) (xc59 g 0) (ob_X11_home_124_in nb nn q M hp0 hp1 hp2 hp3 M_1 eM_1 r_2 er_2 c_3 c_4 r_5 er_5 c_6 x2_7 ex2_7 M_8 eM_8 c_9 M_10 eM_10 c_11 c_13) dX11_home_124 ?_
              refine lv_aload_n hx hb dX11_home_125 rfl (lv_at hl 1 rfl) ?_
              refine gf_RX11_59 hx hb hts hown hK hP (hL 40 0 (xe_40 nb nn)) dX11_home_126 ?_
              refine lv_iload_n hx hb dX11_home_129 rfl (lv_at hl 2 rfl) ?_
              refine x_iald hx hb hK hP (hL 82 0 (xe_82 nb nn)) (xc82 g 0) (ob_X11_home_130_in nb nn q M hp0 hp1 hp2 hp3 M_1 eM_1 r_2 er_2 c_3 c_4 r_5 er_5 c_6 x2_7 ex2_7 M_8 eM_8 c_9 M_10 eM_10 c_11 c_13) dX11_home_130 ?_
              refine lv_isub hx hb dX11_home_131 ?_
              refine lv_topi (fun v_14 ev_14 => ?_)
              replace hres := xlet_n hres ev_14
              refine x_iast hx hb hK hP hD hS (hL 59 0 (xe_59 nb nn)) (xc59 g 0) (ob_X11_home_132_in nb nn q M hp0 hp1 hp2 hp3 M_1 eM_1 r_2 er_2 c_3 c_4 r_5 er_5 c_6 x2_7 ex2_7 M_8 eM_8 c_9 M_10 eM_10 c_11 c_13 v_14 ev_14) dX11_home_132 (fun H locs hP hS => ?_)
              obtain ⟨M_15, eM_15⟩ : ∃ z_ : xM, z_ = xup M_10 59 0 x2_7.toNatClampNeg v_14 := ⟨_, rfl⟩
              rw [← eM_15] at hP
              replace hres := xlet_n hres eM_15
              refine lv_aload_n hx hb dX11_home_133 rfl (lv_at hl 1 rfl) ?_
              refine gf_RX11_59 hx hb hts hown hK hP (hL 40 0 (xe_40 nb nn)) dX11_home_134 ?_
              refine lv_iload_n hx hb dX11_home_137 rfl (lv_at hl 2 rfl) ?_
              refine x_iald hx hb hK hP (hL 82 0 (xe_82 nb nn)) (xc82 g 0) (ob_X11_home_138_in nb nn q M hp0 hp1 hp2 hp3 M_1 eM_1 r_2 er_2 c_3 c_4 r_5 er_5 c_6 x2_7 ex2_7 M_8 eM_8 c_9 M_10 eM_10 c_11 c_13 v_14 ev_14 M_15 eM_15) dX11_home_138 ?_
              exact x_reti hx hb hr hlk hP hS (hres.symm.trans hF) dX11_home_139
            · replace hres := hres.trans (if_neg c_13)
              refine lv_aload_n hx hb dX11_home_109 rfl (lv_at hl 1 rfl) ?_
              refine gf_RX11_34 hx hb hts hown hK hP (hL 40 0 (xe_40 nb nn)) dX11_home_110 ?_
              refine lv_iload_n hx hb dX11_home_113 rfl (lv_at hl 0 rfl) ?_
              refine lv_iconst (v := 1) hx hb dX11_home_114 (by decide) ?_
              refine x_zast hx hb hK hP hD hS (hL 61 0 (xe_61 nb nn)) (xc61 g 0) (ob_X11_home_115_in_2 nb nn q M hp0 hp1 hp2 hp3 M_1 eM_1 r_2 er_2 c_3 c_4 r_5 er_5 c_6 x2_7 ex2_7 M_8 eM_8 c_9 M_10 eM_10 c_11 c_13) dX11_home_115 (fun H locs hP hS => ?_)
              obtain ⟨M_16, eM_16⟩ : ∃ z_ : xM, z_ = xup M_10 61 0 x2_7.toNatClampNeg (vp_nar .boolean 1) := ⟨_, rfl⟩
              rw [← eM_16] at hP
              replace hres := xlet_n hres eM_16
              refine lv_iconst (v := 0) hx hb dX11_home_116 (by decide) ?_
              exact x_reti hx hb hr hlk hP hS (hres.symm.trans hF) dX11_home_117
        · replace hres := hres.trans (if_neg c_9)
          refine lv_aload_n hx hb dX11_home_69 rfl (lv_at hl 1 rfl) ?_
          refine gf_RX11_74 hx hb hts hown hK hP (hL 40 0 (xe_40 nb nn)) dX11_home_70 ?_
          refine lv_iload_n hx hb dX11_home_73 rfl (lv_at hl 2 rfl) ?_
          refine lv_iconst (v := 1) hx hb dX11_home_74 (by decide) ?_
          refine x_zast hx hb hK hP hD hS (hL 87 0 (xe_87 nb nn)) (xc87 g 0) (ob_X11_home_75_in nb nn q M hp0 hp1 hp2 hp3 M_1 eM_1 r_2 er_2 c_3 c_4 r_5 er_5 c_6 x2_7 ex2_7 M_8 eM_8 c_9) dX11_home_75 (fun H locs hP hS => ?_)
          obtain ⟨M_17, eM_17⟩ : ∃ z_ : xM, z_ = xup M_8 87 0 q.toNatClampNeg (vp_nar .boolean 1) := ⟨_, rfl⟩
          rw [← eM_17] at hP
          replace hres := xlet_n hres eM_17
          refine lv_iconst (v := 0) hx hb dX11_home_76 (by decide) ?_
          exact x_reti hx hb hr hlk hP hS (hres.symm.trans hF) dX11_home_77
      · replace hres := hres.trans (if_neg c_6)
        refine lv_ldcw (own := RX11) (v := (-1000002)) hx hb hown (hts _ (List.mem_cons_of_mem _ wd_859)) dX11_home_35 ?_
        exact x_reti hx hb hr hlk hP hS (hres.symm.trans hF) dX11_home_38
  · replace hres := hres.trans (if_pos c_3)
    refine lv_ldc (own := RX11) (v := (-1000001)) hx hb hown (hts _ (List.mem_cons_of_mem _ wd_202)) dX11_home_13 ?_
    exact x_reti hx hb hr hlk hP hS (hres.symm.trans hF) dX11_home_15
set_option maxHeartbeats 4000000 in
set_option maxRecDepth 100000 in
theorem c_X11_cut (l : Launch) (nb nn : Nat) (g : xG) (L : List (Nat × Nat)) (M : xM) (hD : xD g L) (hL : xEL nb nn L) (q : Int32) (to : Int32) (hp0 : 0 ≤ M 40 0 30) (hp1 : M 40 0 30 ≤ 24) : xCi l yX11_cut cX11_cut 3 (some .int) 2 g L M [.ref (xad g 40 0), .int q, .int to] (fun r u => (r, u) = f_X11_cut q to M) := by
  intro sz
  refine x_beg (by decide +kernel) rfl ?_
  intro p e s m args below meth c ls hsz hB
  subst hsz
  obtain ⟨hx, hb, hml, hown, hts, hr, hlk, hK, hAm, hP, hl⟩ := hB
  have S : CallFix p m c cX11_cut 3 s args (xws yX11_cut cX11_cut 3 (some .int)) RX11 := ⟨hx, hb, hml, hown, hts⟩
  have hown : s.vm.findClass RX11 = some m.cls := hown
  have hl : lv_has ls 3 [(0, .ref (xad g 40 0)), (1, .int q), (2, .int to)] := hl
  have hS : va_S (xA g L s.heap.size) s.heap s.heap [] := va_S.rf
  obtain ⟨F, hF⟩ : ∃ F, F = f_X11_cut q to M := ⟨_, rfl⟩
  have hres := hF
  rw [f_X11_cut] at hres
  refine lv_aload_n hx hb dX11_cut_0 rfl (lv_at hl 0 rfl) ?_
  refine lv_iconst (v := 0) hx hb dX11_cut_1 (by decide) ?_
  refine pf_RX11_113 hx hb hts hown hK hP hD hS (hL 40 0 (xe_40 nb nn)) dX11_cut_2 (fun H locs hP hS => ?_)
  obtain ⟨M_1, eM_1⟩ : ∃ z_ : xM, z_ = xup M 40 0 0 0 := ⟨_, rfl⟩
  rw [← eM_1] at hP
  replace hres := xlet_n hres eM_1
  refine lv_aload_n hx hb dX11_cut_5 rfl (lv_at hl 0 rfl) ?_
  refine lv_iload_n hx hb dX11_cut_6 rfl (lv_at hl 1 rfl) ?_
  refine x_callVi (As := [.int q]) S hK hAm hD hP hS mt_X11_isNote wd_738 ⟨by decide, by decide⟩ (hL 40 0 (xe_40 nb nn)) (xc40 g 0) rfl (c_X11_isNote l nb nn g L M_1 hD hL q) rfl hl.1 (Nat.le_of_ble_eq_true rfl) ⟨Nat.zero_le _, Nat.zero_le _⟩ dX11_cut_7 rfl (fun r_2 u H locs hp_ hP hS => ?_)
  obtain ⟨er_2, eu_⟩ := hp_
  rw [eu_] at hP
  clear eu_
  replace hres := xlet_n hres er_2
  refine lv_if_eq (tgt := 30) hx hb dX11_cut_10 (by decide) (fun c_3 => ?_) (fun c_3 => ?_)
  · replace hres := hres.trans (if_pos c_3)
    refine lv_ldc (own := RX11) (v := (-1000001)) hx hb hown (hts _ (List.mem_cons_of_mem _ wd_202)) dX11_cut_30 ?_
    exact x_reti hx hb hr hlk hP hS (hres.symm.trans hF) dX11_cut_32
  · replace hres := hres.trans (if_neg c_3)
    refine lv_iload_n hx hb dX11_cut_13 rfl (lv_at hl 2 rfl) ?_
    refine x_callSi (As := [.int to]) S hK hAm hD hP hS mt_X11_isTrader wd_709 ⟨by decide, by decide⟩ (c_X11_isTrader l nb nn g L M_1 hD hL to) rfl hl.1 (Nat.le_of_ble_eq_true rfl) ⟨Nat.zero_le _, Nat.zero_le _⟩ dX11_cut_14 rfl (fun r_4 u H locs hp_ hP hS => ?_)
    obtain ⟨er_4, eu_⟩ := hp_
    rw [eu_] at hP
    clear eu_
    replace hres := xlet_n hres er_4
    refine lv_if_eq (tgt := 30) hx hb dX11_cut_17 (by decide) (fun c_5 => ?_) (fun c_5 => ?_)
    · replace hres := hres.trans (if_pos c_5)
      refine lv_ldc (own := RX11) (v := (-1000001)) hx hb hown (hts _ (List.mem_cons_of_mem _ wd_202)) dX11_cut_30 ?_
      exact x_reti hx hb hr hlk hP hS (hres.symm.trans hF) dX11_cut_32
    · replace hres := hres.trans (if_neg c_5)
      refine lv_aload_n hx hb dX11_cut_20 rfl (lv_at hl 0 rfl) ?_
      refine gf_RX11_68 hx hb hts hown hK hP (hL 40 0 (xe_40 nb nn)) dX11_cut_21 ?_
      refine lv_iload_n hx hb dX11_cut_24 rfl (lv_at hl 1 rfl) ?_
      refine x_iald hx hb hK hP (hL 85 0 (xe_85 nb nn)) (xc85 g 0) (ob_X11_cut_25_in nb nn q to M hp0 hp1 M_1 eM_1 r_2 er_2 c_3 r_4 er_4 c_5) dX11_cut_25 ?_
      refine lv_iload_n hx hb dX11_cut_26 rfl (lv_at hl 2 rfl) ?_
      refine lv_icmp_ne (tgt := 33) hx hb dX11_cut_27 (by decide) (fun c_6 => ?_) (fun c_6 => ?_)
      · replace hres := hres.trans (if_neg c_6)
        refine lv_aload_n hx hb dX11_cut_33 rfl (lv_at hl 0 rfl) ?_
        refine gf_RX11_68 hx hb hts hown hK hP (hL 40 0 (xe_40 nb nn)) dX11_cut_34 ?_
        refine lv_iload_n hx hb dX11_cut_37 rfl (lv_at hl 1 rfl) ?_
        refine x_iald hx hb hK hP (hL 85 0 (xe_85 nb nn)) (xc85 g 0) (ob_X11_cut_38_in nb nn q to M hp0 hp1 M_1 eM_1 r_2 er_2 c_3 r_4 er_4 c_5 c_6) dX11_cut_38 ?_
        refine lv_ldc (own := RX11) (v := (-1000000)) hx hb hown (hts _ (List.mem_cons_of_mem _ wd_302)) dX11_cut_39 ?_
        refine lv_icmp_eq (tgt := 53) hx hb dX11_cut_41 (by decide) (fun c_7 => ?_) (fun c_7 => ?_)
        · replace hres := hres.trans (if_pos c_7)
          refine lv_ldcw (own := RX11) (v := (-1000002)) hx hb hown (hts _ (List.mem_cons_of_mem _ wd_859)) dX11_cut_53 ?_
          exact x_reti hx hb hr hlk hP hS (hres.symm.trans hF) dX11_cut_56
        · replace hres := hres.trans (if_neg c_7)
          refine lv_aload_n hx hb dX11_cut_44 rfl (lv_at hl 0 rfl) ?_
          refine gf_RX11_77 hx hb hts hown hK hP (hL 40 0 (xe_40 nb nn)) dX11_cut_45 ?_
          refine lv_iload_n hx hb dX11_cut_48 rfl (lv_at hl 1 rfl) ?_
          refine x_zald hx hb hK hP (hL 88 0 (xe_88 nb nn)) (xc88 g 0) (ob_X11_cut_49_in nb nn q to M hp0 hp1 M_1 eM_1 r_2 er_2 c_3 r_4 er_4 c_5 c_6 c_7) dX11_cut_49 ?_
          refine lv_if_eq (tgt := 57) hx hb dX11_cut_50 (by decide) (fun c_8 => ?_) (fun c_8 => ?_)
          · replace hres := hres.trans (if_pos c_8)
            refine lv_aload_n hx hb dX11_cut_57 rfl (lv_at hl 0 rfl) ?_
            refine gf_RX11_77 hx hb hts hown hK hP (hL 40 0 (xe_40 nb nn)) dX11_cut_58 ?_
            refine lv_iload_n hx hb dX11_cut_61 rfl (lv_at hl 1 rfl) ?_
            refine lv_iconst (v := 1) hx hb dX11_cut_62 (by decide) ?_
            refine x_zast hx hb hK hP hD hS (hL 88 0 (xe_88 nb nn)) (xc88 g 0) (ob_X11_cut_63_in nb nn q to M hp0 hp1 M_1 eM_1 r_2 er_2 c_3 r_4 er_4 c_5 c_6 c_7 c_8) dX11_cut_63 (fun H locs hP hS => ?_)
            obtain ⟨M_9, eM_9⟩ : ∃ z_ : xM, z_ = xup M_1 88 0 q.toNatClampNeg (vp_nar .boolean 1) := ⟨_, rfl⟩
            rw [← eM_9] at hP
            replace hres := xlet_n hres eM_9
            refine lv_aload_n hx hb dX11_cut_64 rfl (lv_at hl 0 rfl) ?_
            refine gf_RX11_80 hx hb hts hown hK hP (hL 40 0 (xe_40 nb nn)) dX11_cut_65 ?_
            refine lv_iload_n hx hb dX11_cut_68 rfl (lv_at hl 1 rfl) ?_
            refine lv_iconst (v := 1) hx hb dX11_cut_69 (by decide) ?_
            refine x_zast hx hb hK hP hD hS (hL 89 0 (xe_89 nb nn)) (xc89 g 0) (ob_X11_cut_70_in nb nn q to M hp0 hp1 M_1 eM_1 r_2 er_2 c_3 r_4 er_4 c_5 c_6 c_7 c_8 M_9 eM_9) dX11_cut_70 (fun H locs hP hS => ?_)
            obtain ⟨M_10, eM_10⟩ : ∃ z_ : xM, z_ = xup M_9 89 0 q.toNatClampNeg (vp_nar .boolean 1) := ⟨_, rfl⟩
            rw [← eM_10] at hP
            replace hres := xlet_n hres eM_10
            refine lv_aload_n hx hb dX11_cut_71 rfl (lv_at hl 0 rfl) ?_
            refine gf_RX11_83 hx hb hts hown hK hP (hL 40 0 (xe_40 nb nn)) dX11_cut_72 ?_
            refine lv_iconst (v := 2) hx hb dX11_cut_75 (by decide) ?_
            refine lv_iload_n hx hb dX11_cut_76 rfl (lv_at hl 1 rfl) ?_
            refine lv_imul hx hb dX11_cut_77 ?_
            refine lv_aload_n hx hb dX11_cut_78 rfl (lv_at hl 0 rfl) ?_
            refine gf_RX11_68 hx hb hts hown hK hP (hL 40 0 (xe_40 nb nn)) dX11_cut_79 ?_
            refine lv_iload_n hx hb dX11_cut_82 rfl (lv_at hl 1 rfl) ?_
            refine x_iald hx hb hK hP (hL 85 0 (xe_85 nb nn)) (xc85 g 0) (ob_X11_cut_83_in nb nn q to M hp0 hp1 M_1 eM_1 r_2 er_2 c_3 r_4 er_4 c_5 c_6 c_7 c_8 M_9 eM_9 M_10 eM_10) dX11_cut_83 ?_
            refine lv_topi (fun v_11 ev_11 => ?_)
            replace hres := xlet_n hres ev_11
            refine x_iast hx hb hK hP hD hS (hL 90 0 (xe_90 nb nn)) (xc90 g 0) (ob_X11_cut_84_in nb nn q to M hp0 hp1 M_1 eM_1 r_2 er_2 c_3 r_4 er_4 c_5 c_6 c_7 c_8 M_9 eM_9 M_10 eM_10 v_11 ev_11) dX11_cut_84 (fun H locs hP hS => ?_)
            obtain ⟨M_12, eM_12⟩ : ∃ z_ : xM, z_ = xup M_10 90 0 (2 * q).toNatClampNeg v_11 := ⟨_, rfl⟩
            rw [← eM_12] at hP
            replace hres := xlet_n hres eM_12
            refine lv_aload_n hx hb dX11_cut_85 rfl (lv_at hl 0 rfl) ?_
            refine gf_RX11_83 hx hb hts hown hK hP (hL 40 0 (xe_40 nb nn)) dX11_cut_86 ?_
            refine lv_iconst (v := 2) hx hb dX11_cut_89 (by decide) ?_
            refine lv_iload_n hx hb dX11_cut_90 rfl (lv_at hl 1 rfl) ?_
            refine lv_imul hx hb dX11_cut_91 ?_
            refine lv_iconst (v := 1) hx hb dX11_cut_92 (by decide) ?_
            refine lv_iadd hx hb dX11_cut_93 ?_
            refine lv_iload_n hx hb dX11_cut_94 rfl (lv_at hl 2 rfl) ?_
            refine x_iast hx hb hK hP hD hS (hL 90 0 (xe_90 nb nn)) (xc90 g 0) (ob_X11_cut_95_in nb nn q to M hp0 hp1 M_1 eM_1 r_2 er_2 c_3 r_4 er_4 c_5 c_6 c_7 c_8 M_9 eM_9 M_10 eM_10 v_11 ev_11 M_12 eM_12) dX11_cut_95 (fun H locs hP hS => ?_)
            obtain ⟨M_13, eM_13⟩ : ∃ z_ : xM, z_ = xup M_12 90 0 ((2 * q) + 1).toNatClampNeg to := ⟨_, rfl⟩
            rw [← eM_13] at hP
            replace hres := xlet_n hres eM_13
            refine lv_aload_n hx hb dX11_cut_96 rfl (lv_at hl 0 rfl) ?_
            refine gf_RX11_68 hx hb hts hown hK hP (hL 40 0 (xe_40 nb nn)) dX11_cut_97 ?_
            refine lv_iload_n hx hb dX11_cut_100 rfl (lv_at hl 1 rfl) ?_
            refine lv_ldc (own := RX11) (v := (-1000000)) hx hb hown (hts _ (List.mem_cons_of_mem _ wd_302)) dX11_cut_101 ?_
            refine x_iast hx hb hK hP hD hS (hL 85 0 (xe_85 nb nn)) (xc85 g 0) (ob_X11_cut_103_in nb nn q to M hp0 hp1 M_1 eM_1 r_2 er_2 c_3 r_4 er_4 c_5 c_6 c_7 c_8 M_9 eM_9 M_10 eM_10 v_11 ev_11 M_12 eM_12 M_13 eM_13) dX11_cut_103 (fun H locs hP hS => ?_)
            obtain ⟨M_14, eM_14⟩ : ∃ z_ : xM, z_ = xup M_13 85 0 q.toNatClampNeg (-1000000) := ⟨_, rfl⟩
            rw [← eM_14] at hP
            replace hres := xlet_n hres eM_14
            refine lv_iconst (v := 1) hx hb dX11_cut_104 (by decide) ?_
            exact x_reti hx hb hr hlk hP hS (hres.symm.trans hF) dX11_cut_105
          · replace hres := hres.trans (if_neg c_8)
            refine lv_ldcw (own := RX11) (v := (-1000002)) hx hb hown (hts _ (List.mem_cons_of_mem _ wd_859)) dX11_cut_53 ?_
            exact x_reti hx hb hr hlk hP hS (hres.symm.trans hF) dX11_cut_56
      · replace hres := hres.trans (if_pos c_6)
        refine lv_ldc (own := RX11) (v := (-1000001)) hx hb hown (hts _ (List.mem_cons_of_mem _ wd_202)) dX11_cut_30 ?_
        exact x_reti hx hb hr hlk hP hS (hres.symm.trans hF) dX11_cut_32
set_option maxHeartbeats 4000000 in
set_option maxRecDepth 100000 in
theorem c_X11_half (l : Launch) (nb nn : Nat) (g : xG) (L : List (Nat × Nat)) (M : xM) (hD : xD g L) (hL : xEL nb nn L) (q : Int32) (h : Int32) (to : Int32) (hp0 : 0 ≤ M 40 0 30) (hp1 : M 40 0 30 ≤ 24) (hp2 : ∀ j : Nat, 0 ≤ M 91 0 j ∧ M 91 0 j ≤ 12) : xCi l yX11_half cX11_half 5 (some .int) 2 g L M [.ref (xad g 40 0), .int q, .int h, .int to] (fun r u => (r, u) = f_X11_half q h to M) := by
  intro sz
  refine x_beg (by decide +kernel) rfl ?_
  intro p e s m args below meth c ls hsz hB
  subst hsz
  obtain ⟨hx, hb, hml, hown, hts, hr, hlk, hK, hAm, hP, hl⟩ := hB
  have S : CallFix p m c cX11_half 5 s args (xws yX11_half cX11_half 5 (some .int)) RX11 := ⟨hx, hb, hml, hown, hts⟩
  have hown : s.vm.findClass RX11 = some m.cls := hown
  have hl : lv_has ls 5 [(0, .ref (xad g 40 0)), (1, .int q), (2, .int h), (3, .int to)] := hl
  have hS : va_S (xA g L s.heap.size) s.heap s.heap [] := va_S.rf
  obtain ⟨F, hF⟩ : ∃ F, F = f_X11_half q h to M := ⟨_, rfl⟩
  have hres := hF
  rw [f_X11_half] at hres
  refine lv_aload_n hx hb dX11_half_0 rfl (lv_at hl 0 rfl) ?_
  refine lv_iconst (v := 0) hx hb dX11_half_1 (by decide) ?_
  refine pf_RX11_113 hx hb hts hown hK hP hD hS (hL 40 0 (xe_40 nb nn)) dX11_half_2 (fun H locs hP hS => ?_)
  obtain ⟨M_1, eM_1⟩ : ∃ z_ : xM, z_ = xup M 40 0 0 0 := ⟨_, rfl⟩
  rw [← eM_1] at hP
  replace hres := xlet_n hres eM_1
  refine lv_aload_n hx hb dX11_half_5 rfl (lv_at hl 0 rfl) ?_
  refine lv_iload_n hx hb dX11_half_6 rfl (lv_at hl 1 rfl) ?_
  refine x_callVi (As := [.int q]) S hK hAm hD hP hS mt_X11_isNote wd_738 ⟨by decide, by decide⟩ (hL 40 0 (xe_40 nb nn)) (xc40 g 0) rfl (c_X11_isNote l nb nn g L M_1 hD hL q) rfl hl.1 (Nat.le_of_ble_eq_true rfl) ⟨Nat.zero_le _, Nat.zero_le _⟩ dX11_half_7 rfl (fun r_2 u H locs hp_ hP hS => ?_)
  obtain ⟨er_2, eu_⟩ := hp_
  rw [eu_] at hP
  clear eu_
  replace hres := xlet_n hres er_2
  refine lv_if_eq (tgt := 36) hx hb dX11_half_10 (by decide) (fun c_3 => ?_) (fun c_3 => ?_)
  · replace hres := hres.trans (if_pos c_3)
    refine lv_ldc (own := RX11) (v := (-1000001)) hx hb hown (hts _ (List.mem_cons_of_mem _ wd_202)) dX11_half_36 ?_
    exact x_reti hx hb hr hlk hP hS (hres.symm.trans hF) dX11_half_38
  · replace hres := hres.trans (if_neg c_3)
    refine lv_iload_n hx hb dX11_half_13 rfl (lv_at hl 2 rfl) ?_
    refine lv_i2l (v := h.toInt64) hx hb dX11_half_14 rfl ?_
    refine lv_lconst (v := 0) hx hb dX11_half_15 (by decide) ?_
    refine lv_lconst (v := 1) hx hb dX11_half_16 (by decide) ?_
    refine x_callSi (As := [.long (h.toInt64), .long 0, .long 1]) S hK hAm hD hP hS mt_X11_in wd_208 ⟨by decide, by decide⟩ (c_X11_in l nb nn g L M_1 hD hL (h.toInt64) 0 1) rfl hl.1 (Nat.le_of_ble_eq_true rfl) ⟨Nat.zero_le _, Nat.zero_le _⟩ dX11_half_17 rfl (fun r_4 u H locs hp_ hP hS => ?_)
    obtain ⟨er_4, eu_⟩ := hp_
    rw [eu_] at hP
    clear eu_
    replace hres := xlet_n hres er_4
    refine lv_if_eq (tgt := 36) hx hb dX11_half_20 (by decide) (fun c_5 => ?_) (fun c_5 => ?_)
    · replace hres := hres.trans (if_pos c_5)
      refine lv_ldc (own := RX11) (v := (-1000001)) hx hb hown (hts _ (List.mem_cons_of_mem _ wd_202)) dX11_half_36 ?_
      exact x_reti hx hb hr hlk hP hS (hres.symm.trans hF) dX11_half_38
    · replace hres := hres.trans (if_neg c_5)
      refine lv_iload_n hx hb dX11_half_23 rfl (lv_at hl 3 rfl) ?_
      refine lv_ldc (own := RX11) (v := (-1000000)) hx hb hown (hts _ (List.mem_cons_of_mem _ wd_302)) dX11_half_24 ?_
      refine lv_icmp_eq (tgt := 39) hx hb dX11_half_26 (by decide) (fun c_6 => ?_) (fun c_6 => ?_)
      · replace hres := hres.trans (if_pos c_6)
        refine lv_aload_n hx hb dX11_half_39 rfl (lv_at hl 0 rfl) ?_
        refine gf_RX11_80 hx hb hts hown hK hP (hL 40 0 (xe_40 nb nn)) dX11_half_40 ?_
        refine lv_iload_n hx hb dX11_half_43 rfl (lv_at hl 1 rfl) ?_
        refine x_zald hx hb hK hP (hL 89 0 (xe_89 nb nn)) (xc89 g 0) (ob_X11_half_44_in nb nn q h to M hp0 hp1 hp2 M_1 eM_1 r_2 er_2 c_3 r_4 er_4 c_5 c_6) dX11_half_44 ?_
        refine lv_if_eq (tgt := 63) hx hb dX11_half_45 (by decide) (fun c_7 => ?_) (fun c_7 => ?_)
        · replace hres := hres.trans (if_pos c_7)
          refine lv_ldcw (own := RX11) (v := (-1000002)) hx hb hown (hts _ (List.mem_cons_of_mem _ wd_859)) dX11_half_63 ?_
          exact x_reti hx hb hr hlk hP hS (hres.symm.trans hF) dX11_half_66
        · replace hres := hres.trans (if_neg c_7)
          refine lv_aload_n hx hb dX11_half_48 rfl (lv_at hl 0 rfl) ?_
          refine gf_RX11_83 hx hb hts hown hK hP (hL 40 0 (xe_40 nb nn)) dX11_half_49 ?_
          refine lv_iconst (v := 2) hx hb dX11_half_52 (by decide) ?_
          refine lv_iload_n hx hb dX11_half_53 rfl (lv_at hl 1 rfl) ?_
          refine lv_imul hx hb dX11_half_54 ?_
          refine lv_iload_n hx hb dX11_half_55 rfl (lv_at hl 2 rfl) ?_
          refine lv_iadd hx hb dX11_half_56 ?_
          refine x_iald hx hb hK hP (hL 90 0 (xe_90 nb nn)) (xc90 g 0) (ob_X11_half_57_in nb nn q h to M hp0 hp1 hp2 M_1 eM_1 r_2 er_2 c_3 r_4 er_4 c_5 c_6 c_7) dX11_half_57 ?_
          refine lv_ldc (own := RX11) (v := (-1000000)) hx hb hown (hts _ (List.mem_cons_of_mem _ wd_302)) dX11_half_58 ?_
          refine lv_icmp_ne (tgt := 67) hx hb dX11_half_60 (by decide) (fun c_8 => ?_) (fun c_8 => ?_)
          · replace hres := hres.trans (if_neg c_8)
            refine lv_aload_n hx hb dX11_half_67 rfl (lv_at hl 0 rfl) ?_
            refine gf_RX11_83 hx hb hts hown hK hP (hL 40 0 (xe_40 nb nn)) dX11_half_68 ?_
            refine lv_iconst (v := 2) hx hb dX11_half_71 (by decide) ?_
            refine lv_iload_n hx hb dX11_half_72 rfl (lv_at hl 1 rfl) ?_
            refine lv_imul hx hb dX11_half_73 ?_
            refine lv_iload_n hx hb dX11_half_74 rfl (lv_at hl 2 rfl) ?_
            refine lv_iadd hx hb dX11_half_75 ?_
            refine lv_iload_n hx hb dX11_half_76 rfl (lv_at hl 3 rfl) ?_
            refine x_iast hx hb hK hP hD hS (hL 90 0 (xe_90 nb nn)) (xc90 g 0) (ob_X11_half_77_in nb nn q h to M hp0 hp1 hp2 M_1 eM_1 r_2 er_2 c_3 r_4 er_4 c_5 c_6 c_7 c_8) dX11_half_77 (fun H locs hP hS => ?_)
            obtain ⟨M_9, eM_9⟩ : ∃ z_ : xM, z_ = xup M_1 90 0 ((2 * q) + h).toNatClampNeg to := ⟨_, rfl⟩
            rw [← eM_9] at hP
            replace hres := xlet_n hres eM_9
            refine lv_aload_n hx hb dX11_half_78 rfl (lv_at hl 0 rfl) ?_
            refine gf_RX11_83 hx hb hts hown hK hP (hL 40 0 (xe_40 nb nn)) dX11_half_79 ?_
            refine lv_iconst (v := 2) hx hb dX11_half_82 (by decide) ?_
            refine lv_iload_n hx hb dX11_half_83 rfl (lv_at hl 1 rfl) ?_
            refine lv_imul hx hb dX11_half_84 ?_
            refine lv_iconst (v := 1) hx hb dX11_half_85 (by decide) ?_
            refine lv_iadd hx hb dX11_half_86 ?_
            refine lv_iload_n hx hb dX11_half_87 rfl (lv_at hl 2 rfl) ?_
            refine lv_isub hx hb dX11_half_88 ?_
            refine x_iald hx hb hK hP (hL 90 0 (xe_90 nb nn)) (xc90 g 0) (ob_X11_half_89_in nb nn q h to M hp0 hp1 hp2 M_1 eM_1 r_2 er_2 c_3 r_4 er_4 c_5 c_6 c_7 c_8 M_9 eM_9) dX11_half_89 ?_
            refine lv_topi (fun x4_10 ex4_10 => ?_)
            replace hres := xlet_n hres ex4_10
            refine lv_istore (lv' := [(4, .int x4_10), (0, .ref (xad g 40 0)), (1, .int q), (2, .int h), (3, .int to)]) hx hb dX11_half_90 hl (by decide) rfl (fun ls hl => ?_)
            refine lv_iload hx hb dX11_half_92 (lv_at hl 0 rfl) ?_
            refine lv_iload_n hx hb dX11_half_94 rfl (lv_at hl 4 rfl) ?_
            refine lv_icmp_eq (tgt := 124) hx hb dX11_half_95 (by decide) (fun c_11 => ?_) (fun c_11 => ?_)
            · replace hres := hres.trans (if_pos c_11)
              refine lv_aload_n hx hb dX11_half_124 rfl (lv_at hl 1 rfl) ?_
              refine gf_RX11_80 hx hb hts hown hK hP (hL 40 0 (xe_40 nb nn)) dX11_half_125 ?_
              refine lv_iload_n hx hb dX11_half_128 rfl (lv_at hl 2 rfl) ?_
              refine lv_iconst (v := 0) hx hb dX11_half_129 (by decide) ?_
              refine x_zast hx hb hK hP hD hS (hL 89 0 (xe_89 nb nn)) (xc89 g 0) (ob_X11_half_130_in nb nn q h to M hp0 hp1 hp2 M_1 eM_1 r_2 er_2 c_3 r_4 er_4 c_5 c_6 c_7 c_8 M_9 eM_9 x4_10 ex4_10 c_11) dX11_half_130 (fun H locs hP hS => ?_)
              obtain ⟨M_12, eM_12⟩ : ∃ z_ : xM, z_ = xup M_9 89 0 q.toNatClampNeg (vp_nar .boolean 0) := ⟨_, rfl⟩
              rw [← eM_12] at hP
              replace hres := xlet_n hres eM_12
              refine lv_iload_n hx hb dX11_half_131 rfl (lv_at hl 4 rfl) ?_
              refine lv_ldc (own := RX11) (v := (-1000000)) hx hb hown (hts _ (List.mem_cons_of_mem _ wd_302)) dX11_half_132 ?_
              refine lv_icmp_ne (tgt := 146) hx hb dX11_half_134 (by decide) (fun c_13 => ?_) (fun c_13 => ?_)
              · exact absurd c_6 c_13
              · clear c_13
                refine lv_aload_n hx hb dX11_half_137 rfl (lv_at hl 1 rfl) ?_
                refine gf_RX11_74 hx hb hts hown hK hP (hL 40 0 (xe_40 nb nn)) dX11_half_138 ?_
                refine lv_iload_n hx hb dX11_half_141 rfl (lv_at hl 2 rfl) ?_
                refine lv_iconst (v := 1) hx hb dX11_half_142 (by decide) ?_
                refine x_zast hx hb hK hP hD hS (hL 87 0 (xe_87 nb nn)) (xc87 g 0) (ob_X11_half_143_in nb nn q h to M hp0 hp1 hp2 M_1 eM_1 r_2 er_2 c_3 r_4 er_4 c_5 c_6 c_7 c_8 M_9 eM_9 x4_10 ex4_10 c_11 M_12 eM_12) dX11_half_143 (fun H locs hP hS => ?_)
                obtain ⟨M_14, eM_14⟩ : ∃ z_ : xM, z_ = xup M_12 87 0 q.toNatClampNeg (vp_nar .boolean 1) := ⟨_, rfl⟩
                rw [← eM_14] at hP
                replace hres := xlet_n hres eM_14
                refine lv_iconst (v := 0) hx hb dX11_half_144 (by decide) ?_
                exact x_reti hx hb hr hlk hP hS (hres.symm.trans hF) dX11_half_145
            · replace hres := hres.trans (if_neg c_11)
              refine lv_iload_n hx hb dX11_half_98 rfl (lv_at hl 4 rfl) ?_
              refine lv_ldc (own := RX11) (v := (-1000000)) hx hb hown (hts _ (List.mem_cons_of_mem _ wd_302)) dX11_half_99 ?_
              refine lv_icmp_eq (tgt := 111) hx hb dX11_half_101 (by decide) (fun c_15 => ?_) (fun c_15 => ?_)
              · clear c_15
                refine lv_aload_n hx hb dX11_half_111 rfl (lv_at hl 1 rfl) ?_
                refine gf_RX11_59 hx hb hts hown hK hP (hL 40 0 (xe_40 nb nn)) dX11_half_112 ?_
                refine lv_iload_n hx hb dX11_half_115 rfl (lv_at hl 2 rfl) ?_
                refine x_iald hx hb hK hP (hL 82 0 (xe_82 nb nn)) (xc82 g 0) (ob_X11_half_116_in nb nn q h to M hp0 hp1 hp2 M_1 eM_1 r_2 er_2 c_3 r_4 er_4 c_5 c_6 c_7 c_8 M_9 eM_9 x4_10 ex4_10 c_11) dX11_half_116 ?_
                refine lv_iconst (v := 2) hx hb dX11_half_117 (by decide) ?_
                refine lv_idiv hx hb dX11_half_118 (by decide) ?_
                refine lv_goto (tgt := 123) hx hb dX11_half_119 (by decide) ?_
                exact x_reti hx hb hr hlk hP hS (hres.symm.trans hF) dX11_half_123
              · exact absurd c_6 c_15
          · replace hres := hres.trans (if_pos c_8)
            refine lv_ldcw (own := RX11) (v := (-1000002)) hx hb hown (hts _ (List.mem_cons_of_mem _ wd_859)) dX11_half_63 ?_
            exact x_reti hx hb hr hlk hP hS (hres.symm.trans hF) dX11_half_66
      · replace hres := hres.trans (if_neg c_6)
        refine lv_iload_n hx hb dX11_half_29 rfl (lv_at hl 3 rfl) ?_
        refine x_callSi (As := [.int to]) S hK hAm hD hP hS mt_X11_isTrader wd_709 ⟨by decide, by decide⟩ (c_X11_isTrader l nb nn g L M_1 hD hL to) rfl hl.1 (Nat.le_of_ble_eq_true rfl) ⟨Nat.zero_le _, Nat.zero_le _⟩ dX11_half_30 rfl (fun r_16 u H locs hp_ hP hS => ?_)
        obtain ⟨er_16, eu_⟩ := hp_
        rw [eu_] at hP
        clear eu_
        replace hres := xlet_n hres er_16
        refine lv_if_ne (tgt := 39) hx hb dX11_half_33 (by decide) (fun c_17 => ?_) (fun c_17 => ?_)
        · replace hres := hres.trans (if_neg c_17)
          refine lv_aload_n hx hb dX11_half_39 rfl (lv_at hl 0 rfl) ?_
          refine gf_RX11_80 hx hb hts hown hK hP (hL 40 0 (xe_40 nb nn)) dX11_half_40 ?_
          refine lv_iload_n hx hb dX11_half_43 rfl (lv_at hl 1 rfl) ?_
          refine x_zald hx hb hK hP (hL 89 0 (xe_89 nb nn)) (xc89 g 0) (ob_X11_half_44_in_2 nb nn q h to M hp0 hp1 hp2 M_1 eM_1 r_2 er_2 c_3 r_4 er_4 c_5 c_6 r_16 er_16 c_17) dX11_half_44 ?_
          refine lv_if_eq (tgt := 63) hx hb dX11_half_45 (by decide) (fun c_18 => ?_) (fun c_18 => ?_)
          · replace hres := hres.trans (if_pos c_18)
            refine lv_ldcw (own := RX11) (v := (-1000002)) hx hb hown (hts _ (List.mem_cons_of_mem _ wd_859)) dX11_half_63 ?_
            exact x_reti hx hb hr hlk hP hS (hres.symm.trans hF) dX11_half_66
          · replace hres := hres.trans (if_neg c_18)
            refine lv_aload_n hx hb dX11_half_48 rfl (lv_at hl 0 rfl) ?_
            refine gf_RX11_83 hx hb hts hown hK hP (hL 40 0 (xe_40 nb nn)) dX11_half_49 ?_
            refine lv_iconst (v := 2) hx hb dX11_half_52 (by decide) ?_
            refine lv_iload_n hx hb dX11_half_53 rfl (lv_at hl 1 rfl) ?_
            refine lv_imul hx hb dX11_half_54 ?_
            refine lv_iload_n hx hb dX11_half_55 rfl (lv_at hl 2 rfl) ?_
            refine lv_iadd hx hb dX11_half_56 ?_
            refine x_iald hx hb hK hP (hL 90 0 (xe_90 nb nn)) (xc90 g 0) (ob_X11_half_57_in_2 nb nn q h to M hp0 hp1 hp2 M_1 eM_1 r_2 er_2 c_3 r_4 er_4 c_5 c_6 r_16 er_16 c_17 c_18) dX11_half_57 ?_
            refine lv_ldc (own := RX11) (v := (-1000000)) hx hb hown (hts _ (List.mem_cons_of_mem _ wd_302)) dX11_half_58 ?_
            refine lv_icmp_ne (tgt := 67) hx hb dX11_half_60 (by decide) (fun c_19 => ?_) (fun c_19 => ?_)
            · replace hres := hres.trans (if_neg c_19)
              refine lv_aload_n hx hb dX11_half_67 rfl (lv_at hl 0 rfl) ?_
              refine gf_RX11_83 hx hb hts hown hK hP (hL 40 0 (xe_40 nb nn)) dX11_half_68 ?_
              refine lv_iconst (v := 2) hx hb dX11_half_71 (by decide) ?_
              refine lv_iload_n hx hb dX11_half_72 rfl (lv_at hl 1 rfl) ?_
              refine lv_imul hx hb dX11_half_73 ?_
              refine lv_iload_n hx hb dX11_half_74 rfl (lv_at hl 2 rfl) ?_
              refine lv_iadd hx hb dX11_half_75 ?_
              refine lv_iload_n hx hb dX11_half_76 rfl (lv_at hl 3 rfl) ?_
              refine x_iast hx hb hK hP hD hS (hL 90 0 (xe_90 nb nn)) (xc90 g 0) (ob_X11_half_77_in_2 nb nn q h to M hp0 hp1 hp2 M_1 eM_1 r_2 er_2 c_3 r_4 er_4 c_5 c_6 r_16 er_16 c_17 c_18 c_19) dX11_half_77 (fun H locs hP hS => ?_)
              obtain ⟨M_20, eM_20⟩ : ∃ z_ : xM, z_ = xup M_1 90 0 ((2 * q) + h).toNatClampNeg to := ⟨_, rfl⟩
              rw [← eM_20] at hP
              replace hres := xlet_n hres eM_20
              refine lv_aload_n hx hb dX11_half_78 rfl (lv_at hl 0 rfl) ?_
              refine gf_RX11_83 hx hb hts hown hK hP (hL 40 0 (xe_40 nb nn)) dX11_half_79 ?_
              refine lv_iconst (v := 2) hx hb dX11_half_82 (by decide) ?_
              refine lv_iload_n hx hb dX11_half_83 rfl (lv_at hl 1 rfl) ?_
              refine lv_imul hx hb dX11_half_84 ?_
              refine lv_iconst (v := 1) hx hb dX11_half_85 (by decide) ?_
              refine lv_iadd hx hb dX11_half_86 ?_
              refine lv_iload_n hx hb dX11_half_87 rfl (lv_at hl 2 rfl) ?_
              refine lv_isub hx hb dX11_half_88 ?_
              refine x_iald hx hb hK hP (hL 90 0 (xe_90 nb nn)) (xc90 g 0) (ob_X11_half_89_in_2 nb nn q h to M hp0 hp1 hp2 M_1 eM_1 r_2 er_2 c_3 r_4 er_4 c_5 c_6 r_16 er_16 c_17 c_18 c_19 M_20 eM_20) dX11_half_89 ?_
              refine lv_topi (fun x4_21 ex4_21 => ?_)
              replace hres := xlet_n hres ex4_21
              refine lv_istore (lv' := [(4, .int x4_21), (0, .ref (xad g 40 0)), (1, .int q), (2, .int h), (3, .int to)]) hx hb dX11_half_90 hl (by decide) rfl (fun ls hl => ?_)
              refine lv_iload hx hb dX11_half_92 (lv_at hl 0 rfl) ?_
              refine lv_iload_n hx hb dX11_half_94 rfl (lv_at hl 4 rfl) ?_
              refine lv_icmp_eq (tgt := 124) hx hb dX11_half_95 (by decide) (fun c_22 => ?_) (fun c_22 => ?_)
              · replace hres := hres.trans (if_pos c_22)
                refine lv_aload_n hx hb dX11_half_124 rfl (lv_at hl 1 rfl) ?_
                refine gf_RX11_80 hx hb hts hown hK hP (hL 40 0 (xe_40 nb nn)) dX11_half_125 ?_
                refine lv_iload_n hx hb dX11_half_128 rfl (lv_at hl 2 rfl) ?_
                refine lv_iconst (v := 0) hx hb dX11_half_129 (by decide) ?_
                refine x_zast hx hb hK hP hD hS (hL 89 0 (xe_89 nb nn)) (xc89 g 0) (ob_X11_half_130_in_2 nb nn q h to M hp0 hp1 hp2 M_1 eM_1 r_2 er_2 c_3 r_4 er_4 c_5 c_6 r_16 er_16 c_17 c_18 c_19 M_20 eM_20 x4_21 ex4_21 c_22) dX11_half_130 (fun H locs hP hS => ?_)
                obtain ⟨M_23, eM_23⟩ : ∃ z_ : xM, z_ = xup M_20 89 0 q.toNatClampNeg (vp_nar .boolean 0) := ⟨_, rfl⟩
                rw [← eM_23] at hP
                replace hres := xlet_n hres eM_23
                refine lv_iload_n hx hb dX11_half_131 rfl (lv_at hl 4 rfl) ?_
                refine lv_ldc (own := RX11) (v := (-1000000)) hx hb hown (hts _ (List.mem_cons_of_mem _ wd_302)) dX11_half_132 ?_
                refine lv_icmp_ne (tgt := 146) hx hb dX11_half_134 (by decide) (fun c_24 => ?_) (fun c_24 => ?_)
                · clear c_24
                  refine lv_aload_n hx hb dX11_half_146 rfl (lv_at hl 1 rfl) ?_
                  refine lv_iload_n hx hb dX11_half_147 rfl (lv_at hl 2 rfl) ?_
                  refine lv_iload_n hx hb dX11_half_148 rfl (lv_at hl 4 rfl) ?_
                  refine x_callVv (As := [.int q, .int to]) S hK hAm hD hP hS mt_X11_comeTo wd_712 ⟨by decide, by decide⟩ (hL 40 0 (xe_40 nb nn)) (xc40 g 0) rfl (c_X11_comeTo l nb nn g L M_23 hD hL q to (ob_X11_half_149_p0 nb nn q h to M hp0 hp1 hp2 M_1 eM_1 r_2 er_2 c_3 r_4 er_4 c_5 c_6 r_16 er_16 c_17 c_18 c_19 M_20 eM_20 x4_21 ex4_21 c_22 M_23 eM_23) (ob_X11_half_149_p1 nb nn q h to M hp0 hp1 hp2 M_1 eM_1 r_2 er_2 c_3 r_4 er_4 c_5 c_6 r_16 er_16 c_17 c_18 c_19 M_20 eM_20 x4_21 ex4_21 c_22 M_23 eM_23) (ob_X11_half_149_p2 nb nn q h to M hp0 hp1 hp2 M_1 eM_1 r_2 er_2 c_3 r_4 er_4 c_5 c_6 r_16 er_16 c_17 c_18 c_19 M_20 eM_20 x4_21 ex4_21 c_22 M_23 eM_23)) rfl hl.1 (Nat.le_of_ble_eq_true rfl) ⟨Nat.zero_le _, Nat.zero_le _⟩ dX11_half_149 rfl (fun M_26 H locs eM_26 hP hS => ?_)
                  replace hres := xlet_n hres eM_26
                  refine lv_aload_n hx hb dX11_half_152 rfl (lv_at hl 1 rfl) ?_
                  refine gf_RX11_59 hx hb hts hown hK hP (hL 40 0 (xe_40 nb nn)) dX11_half_153 ?_
                  refine lv_iload_n hx hb dX11_half_156 rfl (lv_at hl 2 rfl) ?_
                  refine x_iald hx hb hK hP (hL 82 0 (xe_82 nb nn)) (xc82 g 0) (ob_X11_half_157_in nb nn q h to M hp0 hp1 hp2 M_1 eM_1 r_2 er_2 c_3 r_4 er_4 c_5 c_6 r_16 er_16 c_17 c_18 c_19 M_20 eM_20 x4_21 ex4_21 c_22 M_23 eM_23 M_26 eM_26) dX11_half_157 ?_
                  exact x_reti hx hb hr hlk hP hS (hres.symm.trans hF) dX11_half_158
                · exact absurd c_24 c_6
              · replace hres := hres.trans (if_neg c_22)
                refine lv_iload_n hx hb dX11_half_98 rfl (lv_at hl 4 rfl) ?_
                refine lv_ldc (own := RX11) (v := (-1000000)) hx hb hown (hts _ (List.mem_cons_of_mem _ wd_302)) dX11_half_99 ?_
                refine lv_icmp_eq (tgt := 111) hx hb dX11_half_101 (by decide) (fun c_27 => ?_) (fun c_27 => ?_)
                · exact absurd c_27 c_6
                · clear c_27
                  refine lv_iload hx hb dX11_half_104 (lv_at hl 0 rfl) ?_
                  refine lv_ldc (own := RX11) (v := (-1000000)) hx hb hown (hts _ (List.mem_cons_of_mem _ wd_302)) dX11_half_106 ?_
                  refine lv_icmp_ne (tgt := 122) hx hb dX11_half_108 (by decide) (fun c_28 => ?_) (fun c_28 => ?_)
                  · replace hres := hres.trans (if_neg c_28)
                    refine lv_iconst (v := 0) hx hb dX11_half_122 (by decide) ?_
                    exact x_reti hx hb hr hlk hP hS (hres.symm.trans hF) dX11_half_123
                  · replace hres := hres.trans (if_pos c_28)
                    refine lv_aload_n hx hb dX11_half_111 rfl (lv_at hl 1 rfl) ?_
                    refine gf_RX11_59 hx hb hts hown hK hP (hL 40 0 (xe_40 nb nn)) dX11_half_112 ?_
                    refine lv_iload_n hx hb dX11_half_115 rfl (lv_at hl 2 rfl) ?_
                    refine x_iald hx hb hK hP (hL 82 0 (xe_82 nb nn)) (xc82 g 0) (ob_X11_half_116_in_2 nb nn q h to M hp0 hp1 hp2 M_1 eM_1 r_2 er_2 c_3 r_4 er_4 c_5 c_6 r_16 er_16 c_17 c_18 c_19 M_20 eM_20 x4_21 ex4_21 c_22 c_28) dX11_half_116 ?_
                    refine lv_iconst (v := 2) hx hb dX11_half_117 (by decide) ?_
                    refine lv_idiv hx hb dX11_half_118 (by decide) ?_
                    refine lv_goto (tgt := 123) hx hb dX11_half_119 (by decide) ?_
                    exact x_reti hx hb hr hlk hP hS (hres.symm.trans hF) dX11_half_123
            · replace hres := hres.trans (if_pos c_19)
              refine lv_ldcw (own := RX11) (v := (-1000002)) hx hb hown (hts _ (List.mem_cons_of_mem _ wd_859)) dX11_half_63 ?_
              exact x_reti hx hb hr hlk hP hS (hres.symm.trans hF) dX11_half_66
        · replace hres := hres.trans (if_pos c_17)
          refine lv_ldc (own := RX11) (v := (-1000001)) hx hb hown (hts _ (List.mem_cons_of_mem _ wd_202)) dX11_half_36 ?_
          exact x_reti hx hb hr hlk hP hS (hres.symm.trans hF) dX11_half_38
set_option maxHeartbeats 4000000 in
set_option maxRecDepth 100000 in
theorem c_X11_bears (l : Launch) (nb nn : Nat) (g : xG) (L : List (Nat × Nat)) (M : xM) (hD : xD g L) (hL : xEL nb nn L) (q : Int32) (weeks : Int32) (hp0 : 0 ≤ M 40 0 30) (hp1 : M 40 0 30 ≤ 24) (hp2 : ∀ j : Nat, 0 ≤ M 91 0 j ∧ M 91 0 j ≤ 12) (hp3 : ∀ j : Int32, 0 ≤ j → j < M 40 0 30 → 1 ≤ M 91 0 j.toNatClampNeg) : xCi l yX11_bears cX11_bears 4 (some .int) 2 g L M [.ref (xad g 40 0), .int q, .int weeks] (fun r u => (r, u) = f_X11_bears q weeks M) := by
  intro sz
  refine x_beg (by decide +kernel) rfl ?_
  intro p e s m args below meth c ls hsz hB
  subst hsz
  obtain ⟨hx, hb, hml, hown, hts, hr, hlk, hK, hAm, hP, hl⟩ := hB
  have S : CallFix p m c cX11_bears 4 s args (xws yX11_bears cX11_bears 4 (some .int)) RX11 := ⟨hx, hb, hml, hown, hts⟩
  have hown : s.vm.findClass RX11 = some m.cls := hown
  have hl : lv_has ls 4 [(0, .ref (xad g 40 0)), (1, .int q), (2, .int weeks)] := hl
  have hS : va_S (xA g L s.heap.size) s.heap s.heap [] := va_S.rf
  obtain ⟨F, hF⟩ : ∃ F, F = f_X11_bears q weeks M := ⟨_, rfl⟩
  have k_52 : ∀ (N_ : xM) (n : Nat) (at_ : Int32) (H : Heap) (locs : List Loc) (ls : Array Slot) (kx : (Int32 → Int32 × xM)), xmu (12 * q) at_ < n → 0 ≤ q ∧ q < 24 ∧ 0 ≤ at_ ∧ at_ < 288 → F = f_X11_bears_L52 q weeks N_ n at_ kx → xP g L N_ H → va_S (xA g L s.heap.size) s.heap H locs → lv_has ls 4 [(0, .ref (xad g 40 0)), (1, .int q), (2, .int weeks), (3, .int at_)] → (∀ (at_ : Int32) (H : Heap) (locs : List Loc) (ls : Array Slot), 0 ≤ q ∧ q < 24 ∧ 0 ≤ at_ ∧ at_ < 288 → F = kx at_ → xP g L N_ H → va_S (xA g L s.heap.size) s.heap H locs → lv_has ls 4 [(0, .ref (xad g 40 0)), (1, .int q), (2, .int weeks), (3, .int at_)] → W p l e (xr 2) s m args below meth c H locs 0 0 (MQ below (va_Qi (fun r u => (r, u) = f_X11_bears q weeks M) (xPost g L) (xA g L s.heap.size)) args s 0 0 (xA g L s.heap.size)) (F0 m 81 ls [])) → W p l e (xr 2) s m args below meth c H locs 0 0 (MQ below (va_Qi (fun r u => (r, u) = f_X11_bears q weeks M) (xPost g L) (xA g L s.heap.size)) args s 0 0 (xA g L s.heap.size)) (F0 m 52 ls []) := by
    intro N_ n
    induction n with
    | zero => intro at_ H locs ls kx hmu; exact absurd hmu (Nat.not_lt_zero _)
    | succ n ih =>
      intro at_ H locs ls kx hmu hinv hres hP hS hl hex
      replace hres : F = _ := hres.trans (by rw [f_X11_bears_L52])
      refine lv_iload_n hx hb dX11_bears_52 rfl (lv_at hl 3 rfl) ?_
      refine lv_bipush (v := 12) hx hb dX11_bears_53 (by decide) ?_
      refine lv_iload_n hx hb dX11_bears_55 rfl (lv_at hl 1 rfl) ?_
      refine lv_imul hx hb dX11_bears_56 ?_
      refine lv_icmp_le (tgt := 81) hx hb dX11_bears_57 (by decide) (fun c_1 => ?_) (fun c_1 => ?_)
      · replace hres := hres.trans (if_pos c_1)
        exact hex at_ _ _ _ (ob_X11_bears_81_x52 nb nn q weeks M hp0 hp1 hp2 hp3 n at_ N_ hmu hinv c_1) hres hP hS (lv_sub hl [0, 1, 2, 3] rfl)
      · replace hres := hres.trans (if_neg c_1)
        refine lv_aload_n hx hb dX11_bears_60 rfl (lv_at hl 0 rfl) ?_
        refine gf_RX11_167 hx hb hts hown hK hP (hL 40 0 (xe_40 nb nn)) dX11_bears_61 ?_
        refine lv_aload_n hx hb dX11_bears_64 rfl (lv_at hl 0 rfl) ?_
        refine gf_RX11_92 hx hb hts hown hK hP (hL 40 0 (xe_40 nb nn)) dX11_bears_65 ?_
        refine lv_iload_n hx hb dX11_bears_68 rfl (lv_at hl 3 rfl) ?_
        refine x_iald hx hb hK hP (hL 93 0 (xe_93 nb nn)) (xc93 g 0) (ob_X11_bears_69_in nb nn q weeks M hp0 hp1 hp2 hp3 n at_ N_ hmu hinv c_1) dX11_bears_69 ?_
        refine lv_isub hx hb dX11_bears_70 ?_
        refine lv_iload_n hx hb dX11_bears_71 rfl (lv_at hl 2 rfl) ?_
        refine lv_icmp_gt (tgt := 81) hx hb dX11_bears_72 (by decide) (fun c_2 => ?_) (fun c_2 => ?_)
        · replace hres := hres.trans (if_pos c_2)
          exact hex at_ _ _ _ (ob_X11_bears_81_x52_2 nb nn q weeks M hp0 hp1 hp2 hp3 n at_ N_ hmu hinv c_1 c_2) hres hP hS (lv_sub hl [0, 1, 2, 3] rfl)
        · replace hres := hres.trans (if_neg c_2)
          obtain ⟨x3_3, ex3_3⟩ : ∃ z_ : Int32, z_ = at_ + (-1) := ⟨_, rfl⟩
          replace hres := xlet_n hres ex3_3
          refine lv_iinc (v := x3_3) (lv' := [(3, .int x3_3), (0, .ref (xad g 40 0)), (1, .int q), (2, .int weeks)]) hx hb dX11_bears_75 hl (k := 3) rfl (by rw [ex3_3]; rfl) (by decide) rfl (fun ls hl => ?_)
          refine lv_goto (tgt := 52) hx hb dX11_bears_78 (by decide) ?_
          exact ih x3_3 _ _ _ kx (ob_X11_bears_52_mu_3 nb nn q weeks M hp0 hp1 hp2 hp3 n at_ N_ hmu hinv c_1 c_2 x3_3 ex3_3) (ob_X11_bears_52_inv_3 nb nn q weeks M hp0 hp1 hp2 hp3 n at_ N_ hmu hinv c_1 c_2 x3_3 ex3_3) hres hP hS (lv_sub hl [1, 2, 3, 0] rfl) hex
  have hres := hF
  rw [f_X11_bears] at hres
  refine lv_aload_n hx hb dX11_bears_0 rfl (lv_at hl 0 rfl) ?_
  refine lv_iconst (v := 0) hx hb dX11_bears_1 (by decide) ?_
  refine pf_RX11_113 hx hb hts hown hK hP hD hS (hL 40 0 (xe_40 nb nn)) dX11_bears_2 (fun H locs hP hS => ?_)
  obtain ⟨M_4, eM_4⟩ : ∃ z_ : xM, z_ = xup M 40 0 0 0 := ⟨_, rfl⟩
  rw [← eM_4] at hP
  replace hres := xlet_n hres eM_4
  refine lv_aload_n hx hb dX11_bears_5 rfl (lv_at hl 0 rfl) ?_
  refine lv_iload_n hx hb dX11_bears_6 rfl (lv_at hl 1 rfl) ?_
  refine x_callVi (As := [.int q]) S hK hAm hD hP hS mt_X11_isNote wd_738 ⟨by decide, by decide⟩ (hL 40 0 (xe_40 nb nn)) (xc40 g 0) rfl (c_X11_isNote l nb nn g L M_4 hD hL q) rfl hl.1 (Nat.le_of_ble_eq_true rfl) ⟨Nat.zero_le _, Nat.zero_le _⟩ dX11_bears_7 rfl (fun r_5 u H locs hp_ hP hS => ?_)
  obtain ⟨er_5, eu_⟩ := hp_
  rw [eu_] at hP
  clear eu_
  replace hres := xlet_n hres er_5
  refine lv_if_eq (tgt := 20) hx hb dX11_bears_10 (by decide) (fun c_6 => ?_) (fun c_6 => ?_)
  · replace hres := hres.trans (if_pos c_6)
    refine lv_ldc (own := RX11) (v := (-1000001)) hx hb hown (hts _ (List.mem_cons_of_mem _ wd_202)) dX11_bears_20 ?_
    exact x_reti hx hb hr hlk hP hS (hres.symm.trans hF) dX11_bears_22
  · replace hres := hres.trans (if_neg c_6)
    refine lv_iload_n hx hb dX11_bears_13 rfl (lv_at hl 2 rfl) ?_
    refine x_callSi (As := [.int weeks]) S hK hAm hD hP hS mt_X11_isWeek wd_652 ⟨by decide, by decide⟩ (c_X11_isWeek l nb nn g L M_4 hD hL weeks) rfl hl.1 (Nat.le_of_ble_eq_true rfl) ⟨Nat.zero_le _, Nat.zero_le _⟩ dX11_bears_14 rfl (fun r_7 u H locs hp_ hP hS => ?_)
    obtain ⟨er_7, eu_⟩ := hp_
    rw [eu_] at hP
    clear eu_
    replace hres := xlet_n hres er_7
    refine lv_if_ne (tgt := 23) hx hb dX11_bears_17 (by decide) (fun c_8 => ?_) (fun c_8 => ?_)
    · replace hres := hres.trans (if_neg c_8)
      refine lv_aload_n hx hb dX11_bears_23 rfl (lv_at hl 0 rfl) ?_
      refine gf_RX11_68 hx hb hts hown hK hP (hL 40 0 (xe_40 nb nn)) dX11_bears_24 ?_
      refine lv_iload_n hx hb dX11_bears_27 rfl (lv_at hl 1 rfl) ?_
      refine x_iald hx hb hK hP (hL 85 0 (xe_85 nb nn)) (xc85 g 0) (ob_X11_bears_28_in nb nn q weeks M hp0 hp1 hp2 hp3 M_4 eM_4 r_5 er_5 c_6 r_7 er_7 c_8) dX11_bears_28 ?_
      refine lv_ldc (own := RX11) (v := (-1000000)) hx hb hown (hts _ (List.mem_cons_of_mem _ wd_302)) dX11_bears_29 ?_
      refine lv_icmp_ne (tgt := 38) hx hb dX11_bears_31 (by decide) (fun c_9 => ?_) (fun c_9 => ?_)
      · replace hres := hres.trans (if_neg c_9)
        refine lv_bipush (v := 12) hx hb dX11_bears_38 (by decide) ?_
        refine lv_iload_n hx hb dX11_bears_40 rfl (lv_at hl 1 rfl) ?_
        refine lv_imul hx hb dX11_bears_41 ?_
        refine lv_aload_n hx hb dX11_bears_42 rfl (lv_at hl 0 rfl) ?_
        refine gf_RX11_86 hx hb hts hown hK hP (hL 40 0 (xe_40 nb nn)) dX11_bears_43 ?_
        refine lv_iload_n hx hb dX11_bears_46 rfl (lv_at hl 1 rfl) ?_
        refine x_iald hx hb hK hP (hL 91 0 (xe_91 nb nn)) (xc91 g 0) (ob_X11_bears_47_in nb nn q weeks M hp0 hp1 hp2 hp3 M_4 eM_4 r_5 er_5 c_6 r_7 er_7 c_8 c_9) dX11_bears_47 ?_
        refine lv_iadd hx hb dX11_bears_48 ?_
        refine lv_iconst (v := 1) hx hb dX11_bears_49 (by decide) ?_
        refine lv_isub hx hb dX11_bears_50 ?_
        refine lv_topi (fun x3_10 ex3_10 => ?_)
        replace hres := xlet_n hres ex3_10
        refine lv_istore_n (lv' := [(3, .int x3_10), (0, .ref (xad g 40 0)), (1, .int q), (2, .int weeks)]) hx hb dX11_bears_51 rfl hl (by decide) rfl (fun ls hl => ?_)
        refine k_52 M_4 (xmu (12 * q) x3_10 + 1) x3_10 _ _ _ _ (Nat.lt_succ_self _) (ob_X11_bears_52_ini_10 nb nn q weeks M hp0 hp1 hp2 hp3 M_4 eM_4 r_5 er_5 c_6 r_7 er_7 c_8 c_9 x3_10 ex3_10) hres hP hS (lv_sub hl [1, 2, 3, 0] rfl) ?_
        clear hres hP hS hl
        intro at__11 H locs ls hiv_11 hres hP hS hl
        refine lv_aload_n hx hb dX11_bears_81 rfl (lv_at hl 0 rfl) ?_
        refine gf_RX11_89 hx hb hts hown hK hP (hL 40 0 (xe_40 nb nn)) dX11_bears_82 ?_
        refine lv_iload_n hx hb dX11_bears_85 rfl (lv_at hl 3 rfl) ?_
        refine x_iald hx hb hK hP (hL 92 0 (xe_92 nb nn)) (xc92 g 0) (ob_X11_bears_86_in nb nn q weeks M hp0 hp1 hp2 hp3 M_4 eM_4 r_5 er_5 c_6 r_7 er_7 c_8 c_9 x3_10 ex3_10 at__11 hiv_11) dX11_bears_86 ?_
        exact x_reti hx hb hr hlk hP hS (hres.symm.trans hF) dX11_bears_87
      · replace hres := hres.trans (if_pos c_9)
        refine lv_ldcw (own := RX11) (v := (-1000002)) hx hb hown (hts _ (List.mem_cons_of_mem _ wd_859)) dX11_bears_34 ?_
        exact x_reti hx hb hr hlk hP hS (hres.symm.trans hF) dX11_bears_37
    · replace hres := hres.trans (if_pos c_8)
      refine lv_ldc (own := RX11) (v := (-1000001)) hx hb hown (hts _ (List.mem_cons_of_mem _ wd_202)) dX11_bears_20 ?_
      exact x_reti hx hb hr hlk hP hS (hres.symm.trans hF) dX11_bears_22
set_option maxHeartbeats 4000000 in
set_option maxRecDepth 100000 in
theorem c_X11_mayGo (l : Launch) (nb nn : Nat) (g : xG) (L : List (Nat × Nat)) (M : xM) (hD : xD g L) (hL : xEL nb nn L) (day : Int32) (town : Int32) (to : Int32) (hp0 : 0 ≤ town) (hp1 : town ≤ 5) (hp2 : 0 ≤ to) (hp3 : to ≤ 5) : xCi l yX11_mayGo cX11_mayGo 4 (some .boolean) 0 g L M [.ref (xad g 40 0), .int day, .int town, .int to] (fun r u => r = xb (f_X11_mayGo day town to M) ∧ u = M) := by
  intro sz
  refine x_beg (by decide +kernel) rfl ?_
  intro p e s m args below meth c ls hsz hB
  subst hsz
  obtain ⟨hx, hb, hml, hown, hts, hr, hlk, hK, hAm, hP, hl⟩ := hB
  have S : CallFix p m c cX11_mayGo 4 s args (xws yX11_mayGo cX11_mayGo 4 (some .boolean)) RX11 := ⟨hx, hb, hml, hown, hts⟩
  have hown : s.vm.findClass RX11 = some m.cls := hown
  have hl : lv_has ls 4 [(0, .ref (xad g 40 0)), (1, .int day), (2, .int town), (3, .int to)] := hl
  have hS : va_S (xA g L s.heap.size) s.heap s.heap [] := va_S.rf
  obtain ⟨F, hF⟩ : ∃ F, F = f_X11_mayGo day town to M := ⟨_, rfl⟩
  have hres := hF
  rw [f_X11_mayGo] at hres
  refine lv_iload_n hx hb dX11_mayGo_0 rfl (lv_at hl 2 rfl) ?_
  refine lv_iload_n hx hb dX11_mayGo_1 rfl (lv_at hl 3 rfl) ?_
  refine lv_icmp_eq (tgt := 24) hx hb dX11_mayGo_2 (by decide) (fun c_1 => ?_) (fun c_1 => ?_)
  · replace hres := hres.trans (if_pos c_1)
    refine lv_iconst (v := 1) hx hb dX11_mayGo_24 (by decide) ?_
    refine lv_goto (tgt := 29) hx hb dX11_mayGo_25 (by decide) ?_
    exact x_retz hx hb hr hlk hP hS rfl ⟨(congrArg xb (hres.symm.trans hF)), rfl⟩ dX11_mayGo_29
  · replace hres := hres.trans (if_neg c_1)
    refine lv_iload_n hx hb dX11_mayGo_5 rfl (lv_at hl 1 rfl) ?_
    refine lv_iconst (v := 1) hx hb dX11_mayGo_6 (by decide) ?_
    refine lv_icmp_le (tgt := 28) hx hb dX11_mayGo_7 (by decide) (fun c_2 => ?_) (fun c_2 => ?_)
    · replace hres := hres.trans (if_pos c_2)
      refine lv_iconst (v := 0) hx hb dX11_mayGo_28 (by decide) ?_
      exact x_retz hx hb hr hlk hP hS rfl ⟨(congrArg xb (hres.symm.trans hF)), rfl⟩ dX11_mayGo_29
    · replace hres := hres.trans (if_neg c_2)
      refine lv_aload_n hx hb dX11_mayGo_10 rfl (lv_at hl 0 rfl) ?_
      refine gf_RX11_19 hx hb hts hown hK hP (hL 40 0 (xe_40 nb nn)) dX11_mayGo_11 ?_
      refine lv_bipush (v := 6) hx hb dX11_mayGo_14 (by decide) ?_
      refine lv_iload_n hx hb dX11_mayGo_16 rfl (lv_at hl 2 rfl) ?_
      refine lv_imul hx hb dX11_mayGo_17 ?_
      refine lv_iload_n hx hb dX11_mayGo_18 rfl (lv_at hl 3 rfl) ?_
      refine lv_iadd hx hb dX11_mayGo_19 ?_
      refine x_iald hx hb hK hP (hL 55 0 (xe_55 nb nn)) (xc55 g 0) (ob_X11_mayGo_20_in nb nn day town to M hp0 hp1 hp2 hp3 c_1 c_2) dX11_mayGo_20 ?_
      refine lv_if_le (tgt := 28) hx hb dX11_mayGo_21 (by decide) (fun c_3 => ?_) (fun c_3 => ?_)
      · replace hres := hres.trans (if_pos c_3)
        refine lv_iconst (v := 0) hx hb dX11_mayGo_28 (by decide) ?_
        exact x_retz hx hb hr hlk hP hS rfl ⟨(congrArg xb (hres.symm.trans hF)), rfl⟩ dX11_mayGo_29
      · replace hres := hres.trans (if_neg c_3)
        refine lv_iconst (v := 1) hx hb dX11_mayGo_24 (by decide) ?_
        refine lv_goto (tgt := 29) hx hb dX11_mayGo_25 (by decide) ?_
        exact x_retz hx hb hr hlk hP hS rfl ⟨(congrArg xb (hres.symm.trans hF)), rfl⟩ dX11_mayGo_29
set_option maxHeartbeats 4000000 in
set_option maxRecDepth 100000 in
theorem c_X11_kindOf (l : Launch) (nb nn : Nat) (g : xG) (L : List (Nat × Nat)) (M : xM) (hD : xD g L) (hL : xEL nb nn L) (q : Int32) (hp0 : 0 ≤ q) (hp1 : q < 24) (hp2 : M 40 0 7 ≤ 8) (hp3 : ∀ j : Nat, 0 ≤ M 81 0 j) : xCi l yX11_kindOf cX11_kindOf 2 (some .int) 2 g L M [.ref (xad g 40 0), .int q] (fun r u => r = f_X11_kindOf q M ∧ u = M) := by
  intro sz
  refine x_beg (by decide +kernel) rfl ?_
  intro p e s m args below meth c ls hsz hB
  subst hsz
  obtain ⟨hx, hb, hml, hown, hts, hr, hlk, hK, hAm, hP, hl⟩ := hB
  have S : CallFix p m c cX11_kindOf 2 s args (xws yX11_kindOf cX11_kindOf 2 (some .int)) RX11 := ⟨hx, hb, hml, hown, hts⟩
  have hown : s.vm.findClass RX11 = some m.cls := hown
  have hl : lv_has ls 2 [(0, .ref (xad g 40 0)), (1, .int q)] := hl
  have hS : va_S (xA g L s.heap.size) s.heap s.heap [] := va_S.rf
  obtain ⟨F, hF⟩ : ∃ F, F = f_X11_kindOf q M := ⟨_, rfl⟩
  have hres := hF
  rw [f_X11_kindOf] at hres
  refine lv_aload_n hx hb dX11_kindOf_0 rfl (lv_at hl 0 rfl) ?_
  refine gf_RX11_74 hx hb hts hown hK hP (hL 40 0 (xe_40 nb nn)) dX11_kindOf_1 ?_
  refine lv_iload_n hx hb dX11_kindOf_4 rfl (lv_at hl 1 rfl) ?_
  refine x_zald hx hb hK hP (hL 87 0 (xe_87 nb nn)) (xc87 g 0) (ob_X11_kindOf_5_in nb nn q M hp0 hp1 hp2 hp3) dX11_kindOf_5 ?_
  refine lv_if_eq (tgt := 13) hx hb dX11_kindOf_6 (by decide) (fun c_1 => ?_) (fun c_1 => ?_)
  · replace hres := hres.trans (if_pos c_1)
    refine lv_aload_n hx hb dX11_kindOf_13 rfl (lv_at hl 0 rfl) ?_
    refine gf_RX11_80 hx hb hts hown hK hP (hL 40 0 (xe_40 nb nn)) dX11_kindOf_14 ?_
    refine lv_iload_n hx hb dX11_kindOf_17 rfl (lv_at hl 1 rfl) ?_
    refine x_zald hx hb hK hP (hL 89 0 (xe_89 nb nn)) (xc89 g 0) (ob_X11_kindOf_18_in nb nn q M hp0 hp1 hp2 hp3 c_1) dX11_kindOf_18 ?_
    refine lv_if_eq (tgt := 26) hx hb dX11_kindOf_19 (by decide) (fun c_2 => ?_) (fun c_2 => ?_)
    · replace hres := hres.trans (if_pos c_2)
      refine lv_aload_n hx hb dX11_kindOf_26 rfl (lv_at hl 0 rfl) ?_
      refine lv_iload_n hx hb dX11_kindOf_27 rfl (lv_at hl 1 rfl) ?_
      refine x_callVi (As := [.int q]) S hK hAm hD hP hS mt_X11_isGhost wd_768 ⟨by decide, by decide⟩ (hL 40 0 (xe_40 nb nn)) (xc40 g 0) rfl (c_X11_isGhost l nb nn g L M hD hL q (ob_X11_kindOf_28_p0 nb nn q M hp0 hp1 hp2 hp3 c_1 c_2) (ob_X11_kindOf_28_p1 nb nn q M hp0 hp1 hp2 hp3 c_1 c_2)) rfl hl.1 (Nat.le_of_ble_eq_true rfl) ⟨Nat.zero_le _, Nat.zero_le _⟩ dX11_kindOf_28 rfl (fun r_3 u H locs hp_ hP hS => ?_)
      obtain ⟨er_3, eu_⟩ := hp_
      rw [eu_] at hP
      clear eu_
      replace hres := xlet_n hres er_3
      refine lv_if_eq (tgt := 38) hx hb dX11_kindOf_31 (by decide) (fun c_4 => ?_) (fun c_4 => ?_)
      · replace hres := hres.trans (if_pos c_4)
        refine lv_aload_n hx hb dX11_kindOf_38 rfl (lv_at hl 0 rfl) ?_
        refine lv_iload_n hx hb dX11_kindOf_39 rfl (lv_at hl 1 rfl) ?_
        refine x_callVi (As := [.int q]) S hK hAm hD hP hS mt_X11_isFalse wd_764 ⟨by decide, by decide⟩ (hL 40 0 (xe_40 nb nn)) (xc40 g 0) rfl (c_X11_isFalse l nb nn g L M hD hL q (ob_X11_kindOf_40_p0 nb nn q M hp0 hp1 hp2 hp3 c_1 c_2 r_3 er_3 c_4) (ob_X11_kindOf_40_p1 nb nn q M hp0 hp1 hp2 hp3 c_1 c_2 r_3 er_3 c_4) (ob_X11_kindOf_40_p2 nb nn q M hp0 hp1 hp2 hp3 c_1 c_2 r_3 er_3 c_4) (ob_X11_kindOf_40_p3 nb nn q M hp0 hp1 hp2 hp3 c_1 c_2 r_3 er_3 c_4)) rfl hl.1 (Nat.le_of_ble_eq_true rfl) ⟨Nat.zero_le _, Nat.zero_le _⟩ dX11_kindOf_40 rfl (fun r_5 u H locs hp_ hP hS => ?_)
        obtain ⟨er_5, eu_⟩ := hp_
        rw [eu_] at hP
        clear eu_
        replace hres := xlet_n hres er_5
        refine lv_if_eq (tgt := 50) hx hb dX11_kindOf_43 (by decide) (fun c_6 => ?_) (fun c_6 => ?_)
        · replace hres := hres.trans (if_pos c_6)
          refine lv_aload_n hx hb dX11_kindOf_50 rfl (lv_at hl 0 rfl) ?_
          refine gf_RX11_65 hx hb hts hown hK hP (hL 40 0 (xe_40 nb nn)) dX11_kindOf_51 ?_
          refine lv_iload_n hx hb dX11_kindOf_54 rfl (lv_at hl 1 rfl) ?_
          refine x_iald hx hb hK hP (hL 84 0 (xe_84 nb nn)) (xc84 g 0) (ob_X11_kindOf_55_in nb nn q M hp0 hp1 hp2 hp3 c_1 c_2 r_3 er_3 c_4 r_5 er_5 c_6) dX11_kindOf_55 ?_
          refine lv_if_le (tgt := 63) hx hb dX11_kindOf_56 (by decide) (fun c_7 => ?_) (fun c_7 => ?_)
          · replace hres := hres.trans (if_pos c_7)
            refine lv_iconst (v := 0) hx hb dX11_kindOf_63 (by decide) ?_
            exact x_reti hx hb hr hlk hP hS ⟨hres.symm.trans hF, rfl⟩ dX11_kindOf_64
          · replace hres := hres.trans (if_neg c_7)
            refine lv_iconst (v := 1) hx hb dX11_kindOf_59 (by decide) ?_
            refine lv_goto (tgt := 64) hx hb dX11_kindOf_60 (by decide) ?_
            exact x_reti hx hb hr hlk hP hS ⟨hres.symm.trans hF, rfl⟩ dX11_kindOf_64
        · replace hres := hres.trans (if_neg c_6)
          refine lv_iconst (v := 2) hx hb dX11_kindOf_46 (by decide) ?_
          refine lv_goto (tgt := 64) hx hb dX11_kindOf_47 (by decide) ?_
          exact x_reti hx hb hr hlk hP hS ⟨hres.symm.trans hF, rfl⟩ dX11_kindOf_64
      · replace hres := hres.trans (if_neg c_4)
        refine lv_iconst (v := 3) hx hb dX11_kindOf_34 (by decide) ?_
        refine lv_goto (tgt := 64) hx hb dX11_kindOf_35 (by decide) ?_
        exact x_reti hx hb hr hlk hP hS ⟨hres.symm.trans hF, rfl⟩ dX11_kindOf_64
    · replace hres := hres.trans (if_neg c_2)
      refine lv_iconst (v := 4) hx hb dX11_kindOf_22 (by decide) ?_
      refine lv_goto (tgt := 64) hx hb dX11_kindOf_23 (by decide) ?_
      exact x_reti hx hb hr hlk hP hS ⟨hres.symm.trans hF, rfl⟩ dX11_kindOf_64
  · replace hres := hres.trans (if_neg c_1)
    refine lv_iconst (v := 5) hx hb dX11_kindOf_9 (by decide) ?_
    refine lv_goto (tgt := 64) hx hb dX11_kindOf_10 (by decide) ?_
    exact x_reti hx hb hr hlk hP hS ⟨hres.symm.trans hF, rfl⟩ dX11_kindOf_64
set_option maxHeartbeats 4000000 in
set_option maxRecDepth 100000 in
theorem c_X11_kind (l : Launch) (nb nn : Nat) (g : xG) (L : List (Nat × Nat)) (M : xM) (hD : xD g L) (hL : xEL nb nn L) (q : Int32) (hp0 : 0 ≤ M 40 0 30) (hp1 : M 40 0 30 ≤ 24) (hp2 : M 40 0 7 ≤ 8) (hp3 : ∀ j : Nat, 0 ≤ M 81 0 j) : xCi l yX11_kind cX11_kind 2 (some .int) 3 g L M [.ref (xad g 40 0), .int q] (fun r u => (r, u) = f_X11_kind q M) := by
  intro sz
  refine x_beg (by decide +kernel) rfl ?_
  intro p e s m args below meth c ls hsz hB
  subst hsz
  obtain ⟨hx, hb, hml, hown, hts, hr, hlk, hK, hAm, hP, hl⟩ := hB
  have S : CallFix p m c cX11_kind 2 s args (xws yX11_kind cX11_kind 2 (some .int)) RX11 := ⟨hx, hb, hml, hown, hts⟩
  have hown : s.vm.findClass RX11 = some m.cls := hown
  have hl : lv_has ls 2 [(0, .ref (xad g 40 0)), (1, .int q)] := hl
  have hS : va_S (xA g L s.heap.size) s.heap s.heap [] := va_S.rf
  obtain ⟨F, hF⟩ : ∃ F, F = f_X11_kind q M := ⟨_, rfl⟩
  have hres := hF
  rw [f_X11_kind] at hres
  refine lv_aload_n hx hb dX11_kind_0 rfl (lv_at hl 0 rfl) ?_
  refine lv_iconst (v := 0) hx hb dX11_kind_1 (by decide) ?_
  refine pf_RX11_113 hx hb hts hown hK hP hD hS (hL 40 0 (xe_40 nb nn)) dX11_kind_2 (fun H locs hP hS => ?_)
  obtain ⟨M_1, eM_1⟩ : ∃ z_ : xM, z_ = xup M 40 0 0 0 := ⟨_, rfl⟩
  rw [← eM_1] at hP
  replace hres := xlet_n hres eM_1
  refine lv_aload_n hx hb dX11_kind_5 rfl (lv_at hl 0 rfl) ?_
  refine lv_iload_n hx hb dX11_kind_6 rfl (lv_at hl 1 rfl) ?_
  refine x_callVi (As := [.int q]) S hK hAm hD hP hS mt_X11_isNote wd_738 ⟨by decide, by decide⟩ (hL 40 0 (xe_40 nb nn)) (xc40 g 0) rfl (c_X11_isNote l nb nn g L M_1 hD hL q) rfl hl.1 (Nat.le_of_ble_eq_true rfl) ⟨Nat.zero_le _, Nat.zero_le _⟩ dX11_kind_7 rfl (fun r_2 u H locs hp_ hP hS => ?_)
  obtain ⟨er_2, eu_⟩ := hp_
  rw [eu_] at hP
  clear eu_
  replace hres := xlet_n hres er_2
  refine lv_if_eq (tgt := 21) hx hb dX11_kind_10 (by decide) (fun c_3 => ?_) (fun c_3 => ?_)
  · replace hres := hres.trans (if_pos c_3)
    refine lv_ldc (own := RX11) (v := (-1000001)) hx hb hown (hts _ (List.mem_cons_of_mem _ wd_202)) dX11_kind_21 ?_
    exact x_reti hx hb hr hlk hP hS (hres.symm.trans hF) dX11_kind_23
  · replace hres := hres.trans (if_neg c_3)
    refine lv_aload_n hx hb dX11_kind_13 rfl (lv_at hl 0 rfl) ?_
    refine lv_iload_n hx hb dX11_kind_14 rfl (lv_at hl 1 rfl) ?_
    refine x_callVi (As := [.int q]) S hK hAm hD hP hS mt_X11_kindOf wd_1007 ⟨by decide, by decide⟩ (hL 40 0 (xe_40 nb nn)) (xc40 g 0) rfl (c_X11_kindOf l nb nn g L M_1 hD hL q (ob_X11_kind_15_p0 nb nn q M hp0 hp1 hp2 hp3 M_1 eM_1 r_2 er_2 c_3) (ob_X11_kind_15_p1 nb nn q M hp0 hp1 hp2 hp3 M_1 eM_1 r_2 er_2 c_3) (ob_X11_kind_15_p2 nb nn q M hp0 hp1 hp2 hp3 M_1 eM_1 r_2 er_2 c_3) (ob_X11_kind_15_p3 nb nn q M hp0 hp1 hp2 hp3 M_1 eM_1 r_2 er_2 c_3)) rfl hl.1 (Nat.le_of_ble_eq_true rfl) ⟨Nat.zero_le _, Nat.zero_le _⟩ dX11_kind_15 rfl (fun r_4 u H locs hp_ hP hS => ?_)
    obtain ⟨er_4, eu_⟩ := hp_
    rw [eu_] at hP
    clear eu_
    replace hres := xlet_n hres er_4
    refine lv_goto (tgt := 23) hx hb dX11_kind_18 (by decide) ?_
    exact x_reti hx hb hr hlk hP hS (hres.symm.trans hF) dX11_kind_23
set_option maxHeartbeats 4000000 in
set_option maxRecDepth 100000 in
theorem c_X11_as (l : Launch) (nb nn : Nat) (g : xG) (L : List (Nat × Nat)) (M : xM) (hD : xD g L) (hL : xEL nb nn L) (q : Int32) (of_ : Int32) (hp0 : 0 ≤ M 40 0 30) (hp1 : M 40 0 30 ≤ 24) (hp2 : M 40 0 7 ≤ 8) (hp3 : ∀ j : Nat, 0 ≤ M 81 0 j) : xCi l yX11_as cX11_as 3 (some .int) 3 g L M [.ref (xad g 40 0), .int q, .int of_] (fun r u => (r, u) = f_X11_as q of_ M) := by
  intro sz
  refine x_beg (by decide +kernel) rfl ?_
  intro p e s m args below meth c ls hsz hB
  subst hsz
  obtain ⟨hx, hb, hml, hown, hts, hr, hlk, hK, hAm, hP, hl⟩ := hB
  have S : CallFix p m c cX11_as 3 s args (xws yX11_as cX11_as 3 (some .int)) RX11 := ⟨hx, hb, hml, hown, hts⟩
  have hown : s.vm.findClass RX11 = some m.cls := hown
  have hl : lv_has ls 3 [(0, .ref (xad g 40 0)), (1, .int q), (2, .int of_)] := hl
  have hS : va_S (xA g L s.heap.size) s.heap s.heap [] := va_S.rf
  obtain ⟨F, hF⟩ : ∃ F, F = f_X11_as q of_ M := ⟨_, rfl⟩
  have hres := hF
  rw [f_X11_as] at hres
  refine lv_aload_n hx hb dX11_as_0 rfl (lv_at hl 0 rfl) ?_
  refine lv_iconst (v := 0) hx hb dX11_as_1 (by decide) ?_
  refine pf_RX11_113 hx hb hts hown hK hP hD hS (hL 40 0 (xe_40 nb nn)) dX11_as_2 (fun H locs hP hS => ?_)
  obtain ⟨M_1, eM_1⟩ : ∃ z_ : xM, z_ = xup M 40 0 0 0 := ⟨_, rfl⟩
  rw [← eM_1] at hP
  replace hres := xlet_n hres eM_1
  refine lv_aload_n hx hb dX11_as_5 rfl (lv_at hl 0 rfl) ?_
  refine lv_iload_n hx hb dX11_as_6 rfl (lv_at hl 1 rfl) ?_
  refine x_callVi (As := [.int q]) S hK hAm hD hP hS mt_X11_isNote wd_738 ⟨by decide, by decide⟩ (hL 40 0 (xe_40 nb nn)) (xc40 g 0) rfl (c_X11_isNote l nb nn g L M_1 hD hL q) rfl hl.1 (Nat.le_of_ble_eq_true rfl) ⟨Nat.zero_le _, Nat.zero_le _⟩ dX11_as_7 rfl (fun r_2 u H locs hp_ hP hS => ?_)
  obtain ⟨er_2, eu_⟩ := hp_
  rw [eu_] at hP
  clear eu_
  replace hres := xlet_n hres er_2
  refine lv_if_eq (tgt := 25) hx hb dX11_as_10 (by decide) (fun c_3 => ?_) (fun c_3 => ?_)
  · replace hres := hres.trans (if_pos c_3)
    refine lv_ldc (own := RX11) (v := (-1000001)) hx hb hown (hts _ (List.mem_cons_of_mem _ wd_202)) dX11_as_25 ?_
    exact x_reti hx hb hr hlk hP hS (hres.symm.trans hF) dX11_as_27
  · replace hres := hres.trans (if_neg c_3)
    refine lv_iload_n hx hb dX11_as_13 rfl (lv_at hl 2 rfl) ?_
    refine lv_i2l (v := of_.toInt64) hx hb dX11_as_14 rfl ?_
    refine lv_lconst (v := 0) hx hb dX11_as_15 (by decide) ?_
    refine lv_ldc2 (own := RX11) (v := 5) hx hb hown (hts _ (List.mem_cons_of_mem _ wd_284)) dX11_as_16 ?_
    refine x_callSi (As := [.long (of_.toInt64), .long 0, .long 5]) S hK hAm hD hP hS mt_X11_in wd_208 ⟨by decide, by decide⟩ (c_X11_in l nb nn g L M_1 hD hL (of_.toInt64) 0 5) rfl hl.1 (Nat.le_of_ble_eq_true rfl) ⟨Nat.zero_le _, Nat.zero_le _⟩ dX11_as_19 rfl (fun r_4 u H locs hp_ hP hS => ?_)
    obtain ⟨er_4, eu_⟩ := hp_
    rw [eu_] at hP
    clear eu_
    replace hres := xlet_n hres er_4
    refine lv_if_ne (tgt := 28) hx hb dX11_as_22 (by decide) (fun c_5 => ?_) (fun c_5 => ?_)
    · replace hres := hres.trans (if_neg c_5)
      refine lv_aload_n hx hb dX11_as_28 rfl (lv_at hl 0 rfl) ?_
      refine lv_iconst (v := 0) hx hb dX11_as_29 (by decide) ?_
      refine pf_RX11_117 hx hb hts hown hK hP hD hS (hL 40 0 (xe_40 nb nn)) dX11_as_30 (fun H locs hP hS => ?_)
      obtain ⟨M_6, eM_6⟩ : ∃ z_ : xM, z_ = xup M_1 40 0 1 0 := ⟨_, rfl⟩
      rw [← eM_6] at hP
      replace hres := xlet_n hres eM_6
      refine lv_aload_n hx hb dX11_as_33 rfl (lv_at hl 0 rfl) ?_
      refine lv_iload_n hx hb dX11_as_34 rfl (lv_at hl 1 rfl) ?_
      refine x_callVi (As := [.int q]) S hK hAm hD hP hS mt_X11_kindOf wd_1007 ⟨by decide, by decide⟩ (hL 40 0 (xe_40 nb nn)) (xc40 g 0) rfl (c_X11_kindOf l nb nn g L M_6 hD hL q (ob_X11_as_35_p0 nb nn q of_ M hp0 hp1 hp2 hp3 M_1 eM_1 r_2 er_2 c_3 r_4 er_4 c_5 M_6 eM_6) (ob_X11_as_35_p1 nb nn q of_ M hp0 hp1 hp2 hp3 M_1 eM_1 r_2 er_2 c_3 r_4 er_4 c_5 M_6 eM_6) (ob_X11_as_35_p2 nb nn q of_ M hp0 hp1 hp2 hp3 M_1 eM_1 r_2 er_2 c_3 r_4 er_4 c_5 M_6 eM_6) (ob_X11_as_35_p3 nb nn q of_ M hp0 hp1 hp2 hp3 M_1 eM_1 r_2 er_2 c_3 r_4 er_4 c_5 M_6 eM_6)) rfl hl.1 (Nat.le_of_ble_eq_true rfl) ⟨Nat.zero_le _, Nat.zero_le _⟩ dX11_as_35 rfl (fun r_7 u H locs hp_ hP hS => ?_)
      obtain ⟨er_7, eu_⟩ := hp_
      rw [eu_] at hP
      clear eu_
      replace hres := xlet_n hres er_7
      refine lv_iload_n hx hb dX11_as_38 rfl (lv_at hl 2 rfl) ?_
      refine x_callSi (As := [.int r_7, .int of_]) S hK hAm hD hP hS mt_X11_isOf wd_1022 ⟨by decide, by decide⟩ (c_X11_isOf l nb nn g L M_6 hD hL r_7 of_) rfl hl.1 (Nat.le_of_ble_eq_true rfl) ⟨Nat.zero_le _, Nat.zero_le _⟩ dX11_as_39 rfl (fun r_8 u H locs hp_ hP hS => ?_)
      obtain ⟨er_8, eu_⟩ := hp_
      rw [eu_] at hP
      clear eu_
      replace hres := xlet_n hres er_8
      refine lv_if_eq (tgt := 54) hx hb dX11_as_42 (by decide) (fun c_9 => ?_) (fun c_9 => ?_)
      · replace hres := hres.trans (if_pos c_9)
        refine lv_aload_n hx hb dX11_as_54 rfl (lv_at hl 0 rfl) ?_
        refine lv_iconst (v := 3) hx hb dX11_as_55 (by decide) ?_
        refine x_callVi (As := [.int 3]) S hK hAm hD hP hS mt_X11_finding wd_211 ⟨by decide, by decide⟩ (hL 40 0 (xe_40 nb nn)) (xc40 g 0) rfl (c_X11_finding l nb nn g L M_6 hD hL 3) rfl hl.1 (Nat.le_of_ble_eq_true rfl) ⟨Nat.zero_le _, Nat.zero_le _⟩ dX11_as_56 rfl (fun r_10 M_11 H locs ep_ hP hS => ?_)
        replace hres := xlet2_n hres ep_
        have er_10 : r_10 = (f_X11_finding 3 M_6).1 := congrArg Prod.fst ep_
        have eM_11 : M_11 = (f_X11_finding 3 M_6).2 := congrArg Prod.snd ep_
        clear ep_
        exact x_reti hx hb hr hlk hP hS (hres.symm.trans hF) dX11_as_59
      · replace hres := hres.trans (if_neg c_9)
        refine lv_aload_n hx hb dX11_as_45 rfl (lv_at hl 0 rfl) ?_
        refine gf_RX11_59 hx hb hts hown hK hP (hL 40 0 (xe_40 nb nn)) dX11_as_46 ?_
        refine lv_iload_n hx hb dX11_as_49 rfl (lv_at hl 1 rfl) ?_
        refine x_iald hx hb hK hP (hL 82 0 (xe_82 nb nn)) (xc82 g 0) (ob_X11_as_50_in nb nn q of_ M hp0 hp1 hp2 hp3 M_1 eM_1 r_2 er_2 c_3 r_4 er_4 c_5 M_6 eM_6 r_7 er_7 r_8 er_8 c_9) dX11_as_50 ?_
        refine lv_goto (tgt := 59) hx hb dX11_as_51 (by decide) ?_
        exact x_reti hx hb hr hlk hP hS (hres.symm.trans hF) dX11_as_59
    · replace hres := hres.trans (if_pos c_5)
      refine lv_ldc (own := RX11) (v := (-1000001)) hx hb hown (hts _ (List.mem_cons_of_mem _ wd_202)) dX11_as_25 ?_
      exact x_reti hx hb hr hlk hP hS (hres.symm.trans hF) dX11_as_27
set_option maxHeartbeats 4000000 in
set_option maxRecDepth 100000 in
theorem c_X11_trace (l : Launch) (nb nn : Nat) (g : xG) (L : List (Nat × Nat)) (M : xM) (hD : xD g L) (hL : xEL nb nn L) (i : Int32) (hp0 : 0 ≤ M 40 0 50) (hp1 : M 40 0 50 ≤ 16) : xCi l yX11_trace cX11_trace 2 (some .int) 1 g L M [.ref (xad g 40 0), .int i] (fun r u => (r, u) = f_X11_trace i M) := by
  intro sz
  refine x_beg (by decide +kernel) rfl ?_
  intro p e s m args below meth c ls hsz hB
  subst hsz
  obtain ⟨hx, hb, hml, hown, hts, hr, hlk, hK, hAm, hP, hl⟩ := hB
  have S : CallFix p m c cX11_trace 2 s args (xws yX11_trace cX11_trace 2 (some .int)) RX11 := ⟨hx, hb, hml, hown, hts⟩
  have hown : s.vm.findClass RX11 = some m.cls := hown
  have hl : lv_has ls 2 [(0, .ref (xad g 40 0)), (1, .int i)] := hl
  have hS : va_S (xA g L s.heap.size) s.heap s.heap [] := va_S.rf
  obtain ⟨F, hF⟩ : ∃ F, F = f_X11_trace i M := ⟨_, rfl⟩
  have hres := hF
  rw [f_X11_trace] at hres
  refine lv_aload_n hx hb dX11_trace_0 rfl (lv_at hl 0 rfl) ?_
  refine lv_iconst (v := 0) hx hb dX11_trace_1 (by decide) ?_
  refine pf_RX11_113 hx hb hts hown hK hP hD hS (hL 40 0 (xe_40 nb nn)) dX11_trace_2 (fun H locs hP hS => ?_)
  obtain ⟨M_1, eM_1⟩ : ∃ z_ : xM, z_ = xup M 40 0 0 0 := ⟨_, rfl⟩
  rw [← eM_1] at hP
  replace hres := xlet_n hres eM_1
  refine lv_iload_n hx hb dX11_trace_5 rfl (lv_at hl 1 rfl) ?_
  refine lv_i2l (v := i.toInt64) hx hb dX11_trace_6 rfl ?_
  refine lv_lconst (v := 0) hx hb dX11_trace_7 (by decide) ?_
  refine lv_aload_n hx hb dX11_trace_8 rfl (lv_at hl 0 rfl) ?_
  refine gf_RX11_321 hx hb hts hown hK hP (hL 40 0 (xe_40 nb nn)) dX11_trace_9 ?_
  refine lv_iconst (v := 1) hx hb dX11_trace_12 (by decide) ?_
  refine lv_isub hx hb dX11_trace_13 ?_
  refine lv_i2l (v := ((M_1 40 0 50) - 1).toInt64) hx hb dX11_trace_14 rfl ?_
  refine x_callSi (As := [.long (i.toInt64), .long 0, .long (((M_1 40 0 50) - 1).toInt64)]) S hK hAm hD hP hS mt_X11_in wd_208 ⟨by decide, by decide⟩ (c_X11_in l nb nn g L M_1 hD hL (i.toInt64) 0 (((M_1 40 0 50) - 1).toInt64)) rfl hl.1 (Nat.le_of_ble_eq_true rfl) ⟨Nat.zero_le _, Nat.zero_le _⟩ dX11_trace_15 rfl (fun r_2 u H locs hp_ hP hS => ?_)
  obtain ⟨er_2, eu_⟩ := hp_
  rw [eu_] at hP
  clear eu_
  replace hres := xlet_n hres er_2
  refine lv_if_eq (tgt := 30) hx hb dX11_trace_18 (by decide) (fun c_3 => ?_) (fun c_3 => ?_)
  · replace hres := hres.trans (if_pos c_3)
    refine lv_ldc (own := RX11) (v := (-1000000)) hx hb hown (hts _ (List.mem_cons_of_mem _ wd_302)) dX11_trace_30 ?_
    exact x_reti hx hb hr hlk hP hS (hres.symm.trans hF) dX11_trace_32
  · replace hres := hres.trans (if_neg c_3)
    refine lv_aload_n hx hb dX11_trace_21 rfl (lv_at hl 0 rfl) ?_
    refine gf_RX11_110 hx hb hts hown hK hP (hL 40 0 (xe_40 nb nn)) dX11_trace_22 ?_
    refine lv_iload_n hx hb dX11_trace_25 rfl (lv_at hl 1 rfl) ?_
    refine x_iald hx hb hK hP (hL 99 0 (xe_99 nb nn)) (xc99 g 0) (ob_X11_trace_26_in nb nn i M hp0 hp1 M_1 eM_1 r_2 er_2 c_3) dX11_trace_26 ?_
    refine lv_goto (tgt := 32) hx hb dX11_trace_27 (by decide) ?_
    exact x_reti hx hb hr hlk hP hS (hres.symm.trans hF) dX11_trace_32
set_option maxHeartbeats 4000000 in
set_option maxRecDepth 100000 in
theorem c_X11_status (l : Launch) (nb nn : Nat) (g : xG) (L : List (Nat × Nat)) (M : xM) (hD : xD g L) (hL : xEL nb nn L)   : xCi l yX11_status cX11_status 1 (some .int) 0 g L M [.ref (xad g 40 0)] (fun r u => (r, u) = f_X11_status  M) := by
  intro sz
  refine x_beg (by decide +kernel) rfl ?_
  intro p e s m args below meth c ls hsz hB
  subst hsz
  obtain ⟨hx, hb, hml, hown, hts, hr, hlk, hK, hAm, hP, hl⟩ := hB
  have S : CallFix p m c cX11_status 1 s args (xws yX11_status cX11_status 1 (some .int)) RX11 := ⟨hx, hb, hml, hown, hts⟩
  have hown : s.vm.findClass RX11 = some m.cls := hown
  have hl : lv_has ls 1 [(0, .ref (xad g 40 0))] := hl
  have hS : va_S (xA g L s.heap.size) s.heap s.heap [] := va_S.rf
  obtain ⟨F, hF⟩ : ∃ F, F = f_X11_status  M := ⟨_, rfl⟩
  have hres := hF
  rw [f_X11_status] at hres
  refine lv_aload_n hx hb dX11_status_0 rfl (lv_at hl 0 rfl) ?_
  refine lv_iconst (v := 0) hx hb dX11_status_1 (by decide) ?_
  refine pf_RX11_113 hx hb hts hown hK hP hD hS (hL 40 0 (xe_40 nb nn)) dX11_status_2 (fun H locs hP hS => ?_)
  obtain ⟨M_1, eM_1⟩ : ∃ z_ : xM, z_ = xup M 40 0 0 0 := ⟨_, rfl⟩
  rw [← eM_1] at hP
  replace hres := xlet_n hres eM_1
  refine lv_aload_n hx hb dX11_status_5 rfl (lv_at hl 0 rfl) ?_
  refine gf_RX11_117 hx hb hts hown hK hP (hL 40 0 (xe_40 nb nn)) dX11_status_6 ?_
  exact x_reti hx hb hr hlk hP hS (hres.symm.trans hF) dX11_status_9
