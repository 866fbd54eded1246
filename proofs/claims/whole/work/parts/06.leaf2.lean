def f_J6_bitCount_0f7a4 (b : Int32) (M : xM) : Int32 :=
  xlet (b - ((b.toUInt32 >>> ((1 : Int32).toUInt32 &&& Int32.toUInt32 31)).toInt32 &&& 1431655765)) fun x0_1 => xlet ((x0_1 &&& 858993459) + ((x0_1.toUInt32 >>> ((2 : Int32).toUInt32 &&& Int32.toUInt32 31)).toInt32 &&& 858993459)) fun x0_2 => xlet ((x0_2 + (x0_2.toUInt32 >>> ((4 : Int32).toUInt32 &&& Int32.toUInt32 31)).toInt32) &&& 252645135) fun x0_3 => xlet (x0_3 + (x0_3.toUInt32 >>> ((8 : Int32).toUInt32 &&& Int32.toUInt32 31)).toInt32) fun x0_4 => xlet (x0_4 + (x0_4.toUInt32 >>> ((16 : Int32).toUInt32 &&& Int32.toUInt32 31)).toInt32) fun x0_5 => (x0_5 &&& 63)
def f_X4_bearer_L10 (i0 : Nat) (thisWeek : Int32) (weeks : Int32) (M : xM) : Nat → Int32 → Int32 → (Int32 → Int32 → Int32) → Int32
  | 0, _, _, _ => 0
  | n + 1, at_, hand, kx => if hand ≤ 0 then kx at_ hand else xlet (f_X4_handWeek i0 hand M) fun r_2 => if (thisWeek - r_2) ≤ weeks then xlet (hand - 1) fun x3_4 => xlet (hand + (-1)) fun x4_5 => f_X4_bearer_L10 i0 thisWeek weeks M n x3_4 x4_5 kx else kx at_ hand
def f_X4_bearer (i0 : Nat) (thisWeek : Int32) (weeks : Int32) (M : xM) : Int32 :=
  xlet ((M 29 i0 6) - 1) fun x3_6 => f_X4_bearer_L10 i0 thisWeek weeks M (xmu 0 x3_6 + 1) x3_6 x3_6 (fun at__7 hand_8 => xlet (f_X4_handTrader i0 at__7 M) fun r_9 => r_9)
def f_X4_moveHalf (i0 : Nat) (half : Int32) (to : Int32) (week : Int32) (M : xM) : xM :=
  if half = 0 then xlet (xup M 29 i0 9 to) fun M_12 => if (M_12 29 i0 9) = (M_12 29 i0 10) then if to = (-1000000) then xlet (xup M_12 29 i0 5 2) fun M_21 => M_21 else xlet (f_X4_handTrader i0 ((M_12 29 i0 6) - 1) M_12) fun r_15 => if r_15 = to then xlet (xup M_12 29 i0 5 0) fun M_19 => xlet (xup M_19 29 i0 8 to) fun M_20 => M_20 else xlet (f_X4_handOn i0 to week M_12) fun M_18 => M_18 else M_12 else xlet (xup M 29 i0 10 to) fun M_2 => if (M_2 29 i0 9) = (M_2 29 i0 10) then if to = (-1000000) then xlet (xup M_2 29 i0 5 2) fun M_11 => M_11 else xlet (f_X4_handTrader i0 ((M_2 29 i0 6) - 1) M_2) fun r_5 => if r_5 = to then xlet (xup M_2 29 i0 5 0) fun M_9 => xlet (xup M_9 29 i0 8 to) fun M_10 => M_10 else xlet (f_X4_handOn i0 to week M_2) fun M_8 => M_8 else M_2
def f_X6_begin_L17 (i0 : Nat) (newLane : Int32) (z : Int32) : Nat → Int32 → xM → (Int32 → xM → xM) → xM
  | 0, _, N_, _ => N_
  | n + 1, i, N_, kx => if (N_ 24 i0 2) ≤ i then kx i N_ else xlet (xup N_ 25 i0 i.toNatClampNeg 0) fun M_2 => xlet (i + 1) fun x3_3 => f_X6_begin_L17 i0 newLane z n x3_3 M_2 kx
def f_X6_begin (i0 : Nat) (newLane : Int32) (z : Int32) (M : xM) : xM :=
  xlet (xup M 24 i0 1 newLane) fun M_4 => xlet (if 60 < z then 60 else z) fun v_5 => xlet (xup M_4 24 i0 2 v_5) fun M_6 => f_X6_begin_L17 i0 newLane z (xmu (0 : Int32) (M_6 24 i0 2) + 1) (0 : Int32) M_6 (fun i_7 M_8 => M_8)
def f_X6_put (i0 : Nat) (i : Int32) (v : Int32) (M : xM) : Int32 × xM :=
  if (M 24 i0 1) = 0 then xlet (v.toInt8.toInt32) fun x3_10 => xlet (xb (f_X6_hasPlaces i0 i 1 M)) fun r_11 => if r_11 = 0 then (x3_10, M) else xlet (xup M 25 i0 i.toNatClampNeg x3_10) fun M_13 => (x3_10, M_13) else if (M 24 i0 1) = 1 then xlet (v.toInt16.toInt32) fun x3_6 => xlet (xb (f_X6_hasPlaces i0 i 1 M)) fun r_7 => if r_7 = 0 then (x3_6, M) else xlet (xup M 25 i0 i.toNatClampNeg x3_6) fun M_9 => (x3_6, M_9) else xlet (xb (f_X6_hasPlaces i0 i 1 M)) fun r_3 => if r_3 = 0 then (v, M) else xlet (xup M 25 i0 i.toNatClampNeg v) fun M_5 => (v, M_5)
def f_X5_milesBetween (a : Int32) (b : Int32) (M : xM) : Int32 :=
  (M 13 0 ((a * 6) + b).toNatClampNeg)
def f_X5_fewestMiles (a : Int32) (b : Int32) (M : xM) : Int32 :=
  xlet (M 14 0 ((a * 6) + b).toNatClampNeg) fun x3_1 => if x3_1 < 1000000 then x3_1 else (-1000000)
def f_X5_measure_L83  (t : Int32) (a : Int32) : Nat → Int32 → xM → (Int32 → xM → xM) → xM
  | 0, _, N_, _ => N_
  | n + 1, b, N_, kx => if 6 ≤ b then kx b N_ else xlet ((N_ 14 0 ((a * 6) + t).toNatClampNeg) + (N_ 14 0 ((t * 6) + b).toNatClampNeg)) fun x4_2 => xlet (if x4_2 < (N_ 14 0 ((a * 6) + b).toNatClampNeg) then x4_2 else (N_ 14 0 ((a * 6) + b).toNatClampNeg)) fun v_3 => xlet (xup N_ 14 0 ((a * 6) + b).toNatClampNeg v_3) fun M_4 => xlet (b + 1) fun x3_5 => f_X5_measure_L83 t a n x3_5 M_4 kx
def f_X5_measure_L75  (t : Int32) : Nat → Int32 → xM → (Int32 → xM → xM) → xM
  | 0, _, N_, _ => N_
  | n + 1, a, N_, kx => if 6 ≤ a then kx a N_ else f_X5_measure_L83 t a (xmu (0 : Int32) 6 + 1) (0 : Int32) N_ (fun b_7 M_8 => xlet (a + 1) fun x2_9 => f_X5_measure_L75 t n x2_9 M_8 kx)
def f_X5_measure_L67  : Nat → Int32 → xM → (Int32 → xM → xM) → xM
  | 0, _, N_, _ => N_
  | n + 1, t, N_, kx => if 6 ≤ t then kx t N_ else f_X5_measure_L75 t (xmu (0 : Int32) 6 + 1) (0 : Int32) N_ (fun a_11 M_12 => xlet (t + 1) fun x1_13 => f_X5_measure_L67  n x1_13 M_12 kx)
def f_X5_measure_L10  (a : Int32) : Nat → Int32 → xM → (Int32 → xM → xM) → xM
  | 0, _, N_, _ => N_
  | n + 1, b, N_, kx => if 6 ≤ b then kx b N_ else xlet (f_X5_milesBetween a b N_) fun r_15 => if a = b then xlet (xup N_ 14 0 ((a * 6) + b).toNatClampNeg 0) fun M_22 => xlet (b + 1) fun x2_23 => f_X5_measure_L10 a n x2_23 M_22 kx else if r_15 = 0 then xlet (xup N_ 14 0 ((a * 6) + b).toNatClampNeg 1000000) fun M_20 => xlet (b + 1) fun x2_21 => f_X5_measure_L10 a n x2_21 M_20 kx else xlet (xup N_ 14 0 ((a * 6) + b).toNatClampNeg r_15) fun M_18 => xlet (b + 1) fun x2_19 => f_X5_measure_L10 a n x2_19 M_18 kx
def f_X5_measure_L2  : Nat → Int32 → xM → (Int32 → xM → xM) → xM
  | 0, _, N_, _ => N_
  | n + 1, a, N_, kx => if 6 ≤ a then kx a N_ else f_X5_measure_L10 a (xmu (0 : Int32) 6 + 1) (0 : Int32) N_ (fun b_25 M_26 => xlet (a + 1) fun x1_27 => f_X5_measure_L2  n x1_27 M_26 kx)
def f_X5_measure  (M : xM) : xM :=
  f_X5_measure_L2  (xmu (0 : Int32) 6 + 1) (0 : Int32) M (fun a_28 M_29 => f_X5_measure_L67  (xmu (0 : Int32) 6 + 1) (0 : Int32) M_29 (fun t_30 M_31 => M_31))
def f_X5_build (a : Int32) (b : Int32) (v : Int32) (M : xM) : xM :=
  xlet (xup M 13 0 ((a * 6) + b).toNatClampNeg v) fun M_1 => xlet (xup M_1 13 0 ((b * 6) + a).toNatClampNeg v) fun M_2 => xlet (f_X5_measure M_2) fun M_4 => M_4
def f_X2_hasRoomBehind (more : Int32) (M : xM) : Bool :=
  if 40 ≤ ((M 4 0 4) + more) then false else true
def f_X2_write (more : Int32) (word : Int32) (week : Int32) (bank : Int32) (value : Int32) (M : xM) : xM :=
  xlet ((M 4 0 4) + more) fun x6_1 => if x6_1 < 0 then M else if 40 ≤ x6_1 then M else xlet (xup M 15 0 x6_1.toNatClampNeg word) fun M_4 => xlet (xup M_4 16 0 x6_1.toNatClampNeg week) fun M_5 => xlet (xup M_5 17 0 x6_1.toNatClampNeg bank) fun M_6 => xlet (xup M_6 18 0 x6_1.toNatClampNeg value) fun M_7 => M_7
def f_X2_keep (more : Int32) (M : xM) : xM :=
  xlet (if 40 < ((M 4 0 4) + more) then 40 else ((M 4 0 4) + more)) fun v_1 => xlet (xup M 4 0 4 v_1) fun M_2 => M_2
def f_X2_isKnown (i : Int32) (word : Int32) (bank : Int32) (newest : Int32) (M : xM) : Bool :=
  if (M 15 0 i.toNatClampNeg) = word then if (M 17 0 i.toNatClampNeg) = bank then if newest < (M 16 0 i.toNatClampNeg) then false else true else false else false
def f_X2_latest_L10 (word : Int32) (bank : Int32) (newest : Int32) (M : xM) : Nat → Int32 → Int32 → Int32 → (Int32 → Int32 → Int32 → Int32) → Int32
  | 0, _, _, _, _ => 0
  | n + 1, value, lw, i, kx => if (M 4 0 4) ≤ i then kx value lw i else xlet (xb (f_X2_isKnown i word bank newest M)) fun r_2 => if r_2 = 0 then xlet (i + 1) fun x6_4 => f_X2_latest_L10 word bank newest M n value lw x6_4 kx else if (M 16 0 i.toNatClampNeg) < lw then xlet (i + 1) fun x6_6 => f_X2_latest_L10 word bank newest M n value lw x6_6 kx else xlet (M 16 0 i.toNatClampNeg) fun x5_7 => xlet (M 18 0 i.toNatClampNeg) fun x4_8 => xlet (i + 1) fun x6_9 => f_X2_latest_L10 word bank newest M n x4_8 x5_7 x6_9 kx
def f_X2_latest (word : Int32) (bank : Int32) (newest : Int32) (M : xM) : Int32 :=
  f_X2_latest_L10 word bank newest M (xmu (0 : Int32) (M 4 0 4) + 1) (-1000000 : Int32) (-1 : Int32) (0 : Int32) (fun value_10 lw_11 i_12 => value_10)
def f_X2_off (bank : Int32) (newest : Int32) (M : xM) : Int32 :=
  xlet (f_X2_latest 0 bank newest M) fun r_1 => if r_1 = (-1000000) then 0 else r_1
def f_X2_falsePlates_L5 (bank : Int32) (newest : Int32) (M : xM) : Nat → Int32 → Int32 → (Int32 → Int32 → Int32) → Int32
  | 0, _, _, _ => 0
  | n + 1, there, i, kx => if (M 4 0 4) ≤ i then kx there i else xlet (xb (f_X2_isKnown i 1 bank newest M)) fun r_2 => if r_2 = 0 then xlet (i + 1) fun x4_4 => f_X2_falsePlates_L5 bank newest M n there x4_4 kx else xlet (there + 1) fun x3_5 => xlet (i + 1) fun x4_6 => f_X2_falsePlates_L5 bank newest M n x3_5 x4_6 kx
def f_X2_falsePlates (bank : Int32) (newest : Int32) (M : xM) : Int32 :=
  f_X2_falsePlates_L5 bank newest M (xmu (0 : Int32) (M 4 0 4) + 1) (0 : Int32) (0 : Int32) (fun there_7 i_8 => there_7)
def f_X2_tellApart_L5 (note : Nat) (newest : Int32) (M : xM) : Nat → Int32 → Int32 → (Int32 → Int32 → Bool) → Bool
  | 0, _, _, _ => false
  | n + 1, some_, i, kx => if (M 4 0 4) ≤ i then kx some_ i else xlet (xb (f_X2_isKnown i 1 (M 29 note 1) newest M)) fun r_2 => if r_2 = 0 then xlet (i + 1) fun x4_4 => f_X2_tellApart_L5 note newest M n some_ x4_4 kx else xlet (xb (f_X4_isUnlike note (M 18 0 i.toNatClampNeg) M)) fun r_5 => if r_5 = 0 then false else xlet (i + 1) fun x4_7 => f_X2_tellApart_L5 note newest M n (1 : Int32) x4_7 kx
def f_X2_tellApart (note : Nat) (newest : Int32) (M : xM) : Bool :=
  f_X2_tellApart_L5 note newest M (xmu (0 : Int32) (M 4 0 4) + 1) (0 : Int32) (0 : Int32) (fun some__8 i_9 => decide (some__8 ≠ 0))
def f_X7_hasRoom (z : Int32) (M : xM) : Bool :=
  if (400 - (M 5 0 2)) < z then false else true
def f_X7_empty  (M : xM) : xM :=
  xlet (xup M 5 0 2 0) fun M_1 => M_1
def f_X7_rewind  (M : xM) : xM :=
  xlet (xup M 5 0 1 0) fun M_1 => M_1
def f_X7_append_L5 (wd : Int64) (z : Int32) : Nat → Int32 → xM → (Int32 → xM → xM) → xM
  | 0, _, N_, _ => N_
  | n + 1, left, N_, kx => if left < 0 then kx left N_ else if 400 ≤ (N_ 5 0 2) then kx left N_ else xlet ((((wd.toUInt64 >>> ((left * 8).toInt64.toUInt64 &&& Int64.toUInt64 63)).toInt64).toInt32).toInt8.toInt32) fun v_3 => xlet (xup N_ 19 0 (N_ 5 0 2).toNatClampNeg (vp_nar .byte v_3)) fun M_4 => xlet ((M_4 5 0 2) + 1) fun v_5 => xlet (xup M_4 5 0 2 v_5) fun M_6 => xlet (left + (-1)) fun x4_7 => f_X7_append_L5 wd z n x4_7 M_6 kx
def f_X7_append (wd : Int64) (z : Int32) (M : xM) : xM :=
  xlet (z - 1) fun x4_8 => f_X7_append_L5 wd z (xmu (-1) x4_8 + 1) x4_8 M (fun left_9 M_10 => M_10)
def f_X7_isAmong (at_ : Int32) (first : Int32) (last : Int32) (M : xM) : Bool :=
  if (M 19 0 at_.toNatClampNeg) < first then false else if last < (M 19 0 at_.toNatClampNeg) then false else true
def f_X7_endOfRun_L3 (from_ : Int32) (first : Int32) (last : Int32) (M : xM) : Nat → Int32 → (Int32 → Int32) → Int32
  | 0, _, _ => 0
  | n + 1, at_, kx => if (M 5 0 2) ≤ at_ then kx at_ else xlet (xb (f_X7_isAmong at_ first last M)) fun r_2 => if r_2 = 0 then kx at_ else xlet (at_ + 1) fun x4_4 => f_X7_endOfRun_L3 from_ first last M n x4_4 kx
def f_X7_endOfRun (from_ : Int32) (first : Int32) (last : Int32) (M : xM) : Int32 :=
  f_X7_endOfRun_L3 from_ first last M (xmu from_ (M 5 0 2) + 1) from_ (fun at__5 => at__5)
def f_X7_numberAt_L5 (from_ : Int32) (end_ : Int32) (M : xM) : Nat → Int32 → Int32 → (Int32 → Int32 → Int32) → Int32
  | 0, _, _, _ => 0
  | n + 1, number, at_, kx => if end_ ≤ at_ then kx number at_ else xlet (((number * 10) + (M 19 0 at_.toNatClampNeg)) - 48) fun x3_2 => xlet (at_ + 1) fun x4_3 => f_X7_numberAt_L5 from_ end_ M n x3_2 x4_3 kx
def f_X7_numberAt (from_ : Int32) (end_ : Int32) (M : xM) : Int32 :=
  f_X7_numberAt_L5 from_ end_ M (xmu from_ end_ + 1) (0 : Int32) from_ (fun number_4 at__5 => number_4)
theorem ob_X4_bearer_19_p0 (nb nn : Nat) (i0 : Nat) (thisWeek : Int32) (weeks : Int32) (M : xM) (hi0 : i0 < nn) (hp0 : M 29 i0 6 ≤ 12) (n : Nat) (at_ : Int32) (hand : Int32) (hmu : xmu 0 hand < n + 1) (hinv : True) (c_1 : ¬ hand ≤ 0) : M 29 i0 6 ≤ 12 := by
  first | grind | (subst_vars; simp [xup_at] at *; done) | (subst_vars; simp [xup_at] at *; grind)
theorem ob_X4_bearer_10_mu_5 (nb nn : Nat) (i0 : Nat) (thisWeek : Int32) (weeks : Int32) (M : xM) (hi0 : i0 < nn) (hp0 : M 29 i0 6 ≤ 12) (n : Nat) (at_ : Int32) (hand : Int32) (hmu : xmu 0 hand < n + 1) (hinv : True) (c_1 : ¬ hand ≤ 0) (r_2 : Int32) (er_2 : r_2 = f_X4_handWeek i0 hand M) (c_3 : (thisWeek - r_2) ≤ weeks) (x3_4 : Int32) (ex3_4 : x3_4 = (hand - 1)) (x4_5 : Int32) (ex4_5 : x4_5 = hand + (-1)) : xmu 0 x4_5 < n := by
  subst_vars
  have h9 := xmu_dn (a := hand) (b := 0) (by grind)
  (try simp [xup_at])
  omega
theorem ob_X4_bearer_43_p0 (nb nn : Nat) (i0 : Nat) (thisWeek : Int32) (weeks : Int32) (M : xM) (hi0 : i0 < nn) (hp0 : M 29 i0 6 ≤ 12) (x3_6 : Int32) (ex3_6 : x3_6 = ((M 29 i0 6) - 1)) (at__7 : Int32) (hand_8 : Int32) (hiv_8 : True) : M 29 i0 6 ≤ 12 := by
  first | grind | (subst_vars; simp [xup_at] at *; done) | (subst_vars; simp [xup_at] at *; grind)
theorem ob_X4_moveHalf_50_p0 (nb nn : Nat) (i0 : Nat) (half : Int32) (to : Int32) (week : Int32) (M : xM) (hi0 : i0 < nn) (hp0 : M 29 i0 6 ≤ 12) (c_1 : ¬ half = 0) (M_2 : xM) (eM_2 : M_2 = xup M 29 i0 10 to) (c_3 : (M_2 29 i0 9) = (M_2 29 i0 10)) (c_4 : ¬ to = (-1000000)) : M_2 29 i0 6 ≤ 12 := by
  first | grind | (subst_vars; simp [xup_at] at *; done) | (subst_vars; simp [xup_at] at *; grind)
theorem ob_X4_moveHalf_50_p0_2 (nb nn : Nat) (i0 : Nat) (half : Int32) (to : Int32) (week : Int32) (M : xM) (hi0 : i0 < nn) (hp0 : M 29 i0 6 ≤ 12) (c_1 : half = 0) (M_12 : xM) (eM_12 : M_12 = xup M 29 i0 9 to) (c_13 : (M_12 29 i0 9) = (M_12 29 i0 10)) (c_14 : ¬ to = (-1000000)) : M_12 29 i0 6 ≤ 12 := by
  first | grind | (subst_vars; simp [xup_at] at *; done) | (subst_vars; simp [xup_at] at *; grind)
theorem ob_X6_begin_38_x17 (nb nn : Nat) (i0 : Nat) (newLane : Int32) (z : Int32) (M : xM) (hi0 : i0 < 8) (n : Nat) (i : Int32) (N_ : xM) (hmu : xmu i (N_ 24 i0 2) < n + 1) (hinv : 0 ≤ i ∧ N_ 24 i0 2 ≤ 60) (c_1 : (N_ 24 i0 2) ≤ i) : 0 ≤ i ∧ N_ 24 i0 2 ≤ 60 := by
  first | grind | (subst_vars; simp [xup_at] at *; done) | (subst_vars; simp [xup_at] at *; grind)
theorem ob_X6_begin_31_in (nb nn : Nat) (i0 : Nat) (newLane : Int32) (z : Int32) (M : xM) (hi0 : i0 < 8) (n : Nat) (i : Int32) (N_ : xM) (hmu : xmu i (N_ 24 i0 2) < n + 1) (hinv : 0 ≤ i ∧ N_ 24 i0 2 ≤ 60) (c_1 : ¬ (N_ 24 i0 2) ≤ i) : vp_in i 60 := by
  exact xin (N := 60) (by grind) (by grind) (by decide)
theorem ob_X6_begin_17_mu_3 (nb nn : Nat) (i0 : Nat) (newLane : Int32) (z : Int32) (M : xM) (hi0 : i0 < 8) (n : Nat) (i : Int32) (N_ : xM) (hmu : xmu i (N_ 24 i0 2) < n + 1) (hinv : 0 ≤ i ∧ N_ 24 i0 2 ≤ 60) (c_1 : ¬ (N_ 24 i0 2) ≤ i) (M_2 : xM) (eM_2 : M_2 = xup N_ 25 i0 i.toNatClampNeg 0) (x3_3 : Int32) (ex3_3 : x3_3 = i + 1) : xmu x3_3 (M_2 24 i0 2) < n := by
  subst_vars
  have h9 := xmu_up (a := i) (b := N_ 24 i0 2) (by grind)
  simp [xup_at]
  omega
theorem ob_X6_begin_17_inv_3 (nb nn : Nat) (i0 : Nat) (newLane : Int32) (z : Int32) (M : xM) (hi0 : i0 < 8) (n : Nat) (i : Int32) (N_ : xM) (hmu : xmu i (N_ 24 i0 2) < n + 1) (hinv : 0 ≤ i ∧ N_ 24 i0 2 ≤ 60) (c_1 : ¬ (N_ 24 i0 2) ≤ i) (M_2 : xM) (eM_2 : M_2 = xup N_ 25 i0 i.toNatClampNeg 0) (x3_3 : Int32) (ex3_3 : x3_3 = i + 1) : 0 ≤ x3_3 ∧ M_2 24 i0 2 ≤ 60 := by
  first | grind | (subst_vars; simp [xup_at] at *; done) | (subst_vars; simp [xup_at] at *; grind)
theorem ob_X6_begin_17_ini_6 (nb nn : Nat) (i0 : Nat) (newLane : Int32) (z : Int32) (M : xM) (hi0 : i0 < 8) (M_4 : xM) (eM_4 : M_4 = xup M 24 i0 1 newLane) (v_5 : Int32) (ev_5 : v_5 = (if 60 < z then 60 else z)) (M_6 : xM) (eM_6 : M_6 = xup M_4 24 i0 2 v_5) : 0 ≤ (0 : Int32) ∧ M_6 24 i0 2 ≤ 60 := by
  first | grind | (subst_vars; simp [xup_at] at *; done) | (subst_vars; simp [xup_at] at *; grind)
theorem ob_X6_put_42_in (nb nn : Nat) (i0 : Nat) (i : Int32) (v : Int32) (M : xM) (hi0 : i0 < 8) (hp0 : 0 ≤ M 24 i0 2) (hp1 : M 24 i0 2 ≤ 60) (c_1 : ¬ (M 24 i0 1) = 0) (c_2 : ¬ (M 24 i0 1) = 1) (r_3 : Int32) (er_3 : r_3 = xb (f_X6_hasPlaces i0 i 1 M)) (c_4 : ¬ r_3 = 0) : vp_in i 60 := by
  subst_vars
  exact xin (N := 60) (by grind [f_X6_hasPlaces, xb]) (by grind [f_X6_hasPlaces, xb]) (by decide)
theorem ob_X6_put_42_in_2 (nb nn : Nat) (i0 : Nat) (i : Int32) (v : Int32) (M : xM) (hi0 : i0 < 8) (hp0 : 0 ≤ M 24 i0 2) (hp1 : M 24 i0 2 ≤ 60) (c_1 : ¬ (M 24 i0 1) = 0) (c_2 : (M 24 i0 1) = 1) (x3_6 : Int32) (ex3_6 : x3_6 = v.toInt16.toInt32) (r_7 : Int32) (er_7 : r_7 = xb (f_X6_hasPlaces i0 i 1 M)) (c_8 : ¬ r_7 = 0) : vp_in i 60 := by
  subst_vars
  exact xin (N := 60) (by grind [f_X6_hasPlaces, xb]) (by grind [f_X6_hasPlaces, xb]) (by decide)
theorem ob_X6_put_42_in_3 (nb nn : Nat) (i0 : Nat) (i : Int32) (v : Int32) (M : xM) (hi0 : i0 < 8) (hp0 : 0 ≤ M 24 i0 2) (hp1 : M 24 i0 2 ≤ 60) (c_1 : (M 24 i0 1) = 0) (x3_10 : Int32) (ex3_10 : x3_10 = v.toInt8.toInt32) (r_11 : Int32) (er_11 : r_11 = xb (f_X6_hasPlaces i0 i 1 M)) (c_12 : ¬ r_11 = 0) : vp_in i 60 := by
  subst_vars
  exact xin (N := 60) (by grind [f_X6_hasPlaces, xb]) (by grind [f_X6_hasPlaces, xb]) (by decide)
theorem ob_X5_milesBetween_10_in (nb nn : Nat) (a : Int32) (b : Int32) (M : xM) (hp0 : 0 ≤ a) (hp1 : a < 6) (hp2 : 0 ≤ b) (hp3 : b < 6) : vp_in ((a * 6) + b) 36 := by
  exact xin (N := 36) (by grind) (by grind) (by decide)
theorem ob_X5_fewestMiles_10_in (nb nn : Nat) (a : Int32) (b : Int32) (M : xM) (hp0 : 0 ≤ a) (hp1 : a < 6) (hp2 : 0 ≤ b) (hp3 : b < 6) : vp_in ((a * 6) + b) 36 := by
  exact xin (N := 36) (by grind) (by grind) (by decide)
theorem ob_X5_measure_147_x83 (nb nn : Nat) (M : xM) (t : Int32) (a : Int32) (n : Nat) (b : Int32) (N_ : xM) (hmu : xmu b 6 < n + 1) (hinv : 0 ≤ t ∧ t < 6 ∧ 0 ≤ a ∧ a < 6 ∧ 0 ≤ b) (c_1 : 6 ≤ b) : 0 ≤ t ∧ t < 6 ∧ 0 ≤ a ∧ a < 6 ∧ 0 ≤ b := by
  first | grind | (subst_vars; simp [xup_at] at *; done) | (subst_vars; simp [xup_at] at *; grind)
theorem ob_X5_measure_99_in (nb nn : Nat) (M : xM) (t : Int32) (a : Int32) (n : Nat) (b : Int32) (N_ : xM) (hmu : xmu b 6 < n + 1) (hinv : 0 ≤ t ∧ t < 6 ∧ 0 ≤ a ∧ a < 6 ∧ 0 ≤ b) (c_1 : ¬ 6 ≤ b) : vp_in ((a * 6) + t) 36 := by
  exact xin (N := 36) (by grind) (by grind) (by decide)
theorem ob_X5_measure_110_in (nb nn : Nat) (M : xM) (t : Int32) (a : Int32) (n : Nat) (b : Int32) (N_ : xM) (hmu : xmu b 6 < n + 1) (hinv : 0 ≤ t ∧ t < 6 ∧ 0 ≤ a ∧ a < 6 ∧ 0 ≤ b) (c_1 : ¬ 6 ≤ b) : vp_in ((t * 6) + b) 36 := by
  exact xin (N := 36) (by grind) (by grind) (by decide)
theorem ob_X5_measure_134_in (nb nn : Nat) (M : xM) (t : Int32) (a : Int32) (n : Nat) (b : Int32) (N_ : xM) (hmu : xmu b 6 < n + 1) (hinv : 0 ≤ t ∧ t < 6 ∧ 0 ≤ a ∧ a < 6 ∧ 0 ≤ b) (c_1 : ¬ 6 ≤ b) (x4_2 : Int32) (ex4_2 : x4_2 = ((N_ 14 0 ((a * 6) + t).toNatClampNeg) + (N_ 14 0 ((t * 6) + b).toNatClampNeg))) : vp_in ((a * 6) + b) 36 := by
  exact xin (N := 36) (by grind) (by grind) (by decide)
theorem ob_X5_measure_140_in (nb nn : Nat) (M : xM) (t : Int32) (a : Int32) (n : Nat) (b : Int32) (N_ : xM) (hmu : xmu b 6 < n + 1) (hinv : 0 ≤ t ∧ t < 6 ∧ 0 ≤ a ∧ a < 6 ∧ 0 ≤ b) (c_1 : ¬ 6 ≤ b) (x4_2 : Int32) (ex4_2 : x4_2 = ((N_ 14 0 ((a * 6) + t).toNatClampNeg) + (N_ 14 0 ((t * 6) + b).toNatClampNeg))) (v_3 : Int32) (ev_3 : v_3 = (if x4_2 < (N_ 14 0 ((a * 6) + b).toNatClampNeg) then x4_2 else (N_ 14 0 ((a * 6) + b).toNatClampNeg))) : vp_in ((a * 6) + b) 36 := by
  exact xin (N := 36) (by grind) (by grind) (by decide)
theorem ob_X5_measure_83_mu_5 (nb nn : Nat) (M : xM) (t : Int32) (a : Int32) (n : Nat) (b : Int32) (N_ : xM) (hmu : xmu b 6 < n + 1) (hinv : 0 ≤ t ∧ t < 6 ∧ 0 ≤ a ∧ a < 6 ∧ 0 ≤ b) (c_1 : ¬ 6 ≤ b) (x4_2 : Int32) (ex4_2 : x4_2 = ((N_ 14 0 ((a * 6) + t).toNatClampNeg) + (N_ 14 0 ((t * 6) + b).toNatClampNeg))) (v_3 : Int32) (ev_3 : v_3 = (if x4_2 < (N_ 14 0 ((a * 6) + b).toNatClampNeg) then x4_2 else (N_ 14 0 ((a * 6) + b).toNatClampNeg))) (M_4 : xM) (eM_4 : M_4 = xup N_ 14 0 ((a * 6) + b).toNatClampNeg v_3) (x3_5 : Int32) (ex3_5 : x3_5 = b + 1) : xmu x3_5 6 < n := by
  subst_vars
  have h9 := xmu_up (a := b) (b := 6) (by grind)
  (try simp [xup_at])
  omega
theorem ob_X5_measure_83_inv_5 (nb nn : Nat) (M : xM) (t : Int32) (a : Int32) (n : Nat) (b : Int32) (N_ : xM) (hmu : xmu b 6 < n + 1) (hinv : 0 ≤ t ∧ t < 6 ∧ 0 ≤ a ∧ a < 6 ∧ 0 ≤ b) (c_1 : ¬ 6 ≤ b) (x4_2 : Int32) (ex4_2 : x4_2 = ((N_ 14 0 ((a * 6) + t).toNatClampNeg) + (N_ 14 0 ((t * 6) + b).toNatClampNeg))) (v_3 : Int32) (ev_3 : v_3 = (if x4_2 < (N_ 14 0 ((a * 6) + b).toNatClampNeg) then x4_2 else (N_ 14 0 ((a * 6) + b).toNatClampNeg))) (M_4 : xM) (eM_4 : M_4 = xup N_ 14 0 ((a * 6) + b).toNatClampNeg v_3) (x3_5 : Int32) (ex3_5 : x3_5 = b + 1) : 0 ≤ t ∧ t < 6 ∧ 0 ≤ a ∧ a < 6 ∧ 0 ≤ x3_5 := by
  first | grind | (subst_vars; simp [xup_at] at *; done) | (subst_vars; simp [xup_at] at *; grind)
theorem ob_X5_measure_153_x75 (nb nn : Nat) (M : xM) (t : Int32) (n : Nat) (a : Int32) (N_ : xM) (hmu : xmu a 6 < n + 1) (hinv : 0 ≤ t ∧ t < 6 ∧ 0 ≤ a) (c_6 : 6 ≤ a) : 0 ≤ t ∧ t < 6 ∧ 0 ≤ a := by
  first | grind | (subst_vars; simp [xup_at] at *; done) | (subst_vars; simp [xup_at] at *; grind)
theorem ob_X5_measure_83_ini_6 (nb nn : Nat) (M : xM) (t : Int32) (n : Nat) (a : Int32) (N_ : xM) (hmu : xmu a 6 < n + 1) (hinv : 0 ≤ t ∧ t < 6 ∧ 0 ≤ a) (c_6 : ¬ 6 ≤ a) : 0 ≤ t ∧ t < 6 ∧ 0 ≤ a ∧ a < 6 ∧ 0 ≤ (0 : Int32) := by
  first | grind | (subst_vars; simp [xup_at] at *; done) | (subst_vars; simp [xup_at] at *; grind)
theorem ob_X5_measure_75_mu_9 (nb nn : Nat) (M : xM) (t : Int32) (n : Nat) (a : Int32) (N_ : xM) (hmu : xmu a 6 < n + 1) (hinv : 0 ≤ t ∧ t < 6 ∧ 0 ≤ a) (c_6 : ¬ 6 ≤ a) (b_7 : Int32) (M_8 : xM) (hiv_8 : 0 ≤ t ∧ t < 6 ∧ 0 ≤ a ∧ a < 6 ∧ 0 ≤ b_7) (x2_9 : Int32) (ex2_9 : x2_9 = a + 1) : xmu x2_9 6 < n := by
  subst_vars
  have h9 := xmu_up (a := a) (b := 6) (by grind)
  (try simp [xup_at])
  omega
theorem ob_X5_measure_75_inv_9 (nb nn : Nat) (M : xM) (t : Int32) (n : Nat) (a : Int32) (N_ : xM) (hmu : xmu a 6 < n + 1) (hinv : 0 ≤ t ∧ t < 6 ∧ 0 ≤ a) (c_6 : ¬ 6 ≤ a) (b_7 : Int32) (M_8 : xM) (hiv_8 : 0 ≤ t ∧ t < 6 ∧ 0 ≤ a ∧ a < 6 ∧ 0 ≤ b_7) (x2_9 : Int32) (ex2_9 : x2_9 = a + 1) : 0 ≤ t ∧ t < 6 ∧ 0 ≤ x2_9 := by
  first | grind | (subst_vars; simp [xup_at] at *; done) | (subst_vars; simp [xup_at] at *; grind)
theorem ob_X5_measure_159_x67 (nb nn : Nat) (M : xM) (n : Nat) (t : Int32) (N_ : xM) (hmu : xmu t 6 < n + 1) (hinv : 0 ≤ t) (c_10 : 6 ≤ t) : 0 ≤ t := by
  first | grind | (subst_vars; simp [xup_at] at *; done) | (subst_vars; simp [xup_at] at *; grind)
theorem ob_X5_measure_75_ini_10 (nb nn : Nat) (M : xM) (n : Nat) (t : Int32) (N_ : xM) (hmu : xmu t 6 < n + 1) (hinv : 0 ≤ t) (c_10 : ¬ 6 ≤ t) : 0 ≤ t ∧ t < 6 ∧ 0 ≤ (0 : Int32) := by
  first | grind | (subst_vars; simp [xup_at] at *; done) | (subst_vars; simp [xup_at] at *; grind)
theorem ob_X5_measure_67_mu_13 (nb nn : Nat) (M : xM) (n : Nat) (t : Int32) (N_ : xM) (hmu : xmu t 6 < n + 1) (hinv : 0 ≤ t) (c_10 : ¬ 6 ≤ t) (a_11 : Int32) (M_12 : xM) (hiv_12 : 0 ≤ t ∧ t < 6 ∧ 0 ≤ a_11) (x1_13 : Int32) (ex1_13 : x1_13 = t + 1) : xmu x1_13 6 < n := by
  subst_vars
  have h9 := xmu_up (a := t) (b := 6) (by grind)
  (try simp [xup_at])
  omega
theorem ob_X5_measure_67_inv_13 (nb nn : Nat) (M : xM) (n : Nat) (t : Int32) (N_ : xM) (hmu : xmu t 6 < n + 1) (hinv : 0 ≤ t) (c_10 : ¬ 6 ≤ t) (a_11 : Int32) (M_12 : xM) (hiv_12 : 0 ≤ t ∧ t < 6 ∧ 0 ≤ a_11) (x1_13 : Int32) (ex1_13 : x1_13 = t + 1) : 0 ≤ x1_13 := by
  first | grind | (subst_vars; simp [xup_at] at *; done) | (subst_vars; simp [xup_at] at *; grind)
theorem ob_X5_measure_59_x10 (nb nn : Nat) (M : xM) (a : Int32) (n : Nat) (b : Int32) (N_ : xM) (hmu : xmu b 6 < n + 1) (hinv : 0 ≤ a ∧ a < 6 ∧ 0 ≤ b) (c_14 : 6 ≤ b) : 0 ≤ a ∧ a < 6 ∧ 0 ≤ b := by
  first | grind | (subst_vars; simp [xup_at] at *; done) | (subst_vars; simp [xup_at] at *; grind)
theorem ob_X5_measure_19_p0 (nb nn : Nat) (M : xM) (a : Int32) (n : Nat) (b : Int32) (N_ : xM) (hmu : xmu b 6 < n + 1) (hinv : 0 ≤ a ∧ a < 6 ∧ 0 ≤ b) (c_14 : ¬ 6 ≤ b) : 0 ≤ a := by
  first | grind | (subst_vars; simp [xup_at] at *; done) | (subst_vars; simp [xup_at] at *; grind)
theorem ob_X5_measure_19_p1 (nb nn : Nat) (M : xM) (a : Int32) (n : Nat) (b : Int32) (N_ : xM) (hmu : xmu b 6 < n + 1) (hinv : 0 ≤ a ∧ a < 6 ∧ 0 ≤ b) (c_14 : ¬ 6 ≤ b) : a < 6 := by
  first | grind | (subst_vars; simp [xup_at] at *; done) | (subst_vars; simp [xup_at] at *; grind)
theorem ob_X5_measure_19_p2 (nb nn : Nat) (M : xM) (a : Int32) (n : Nat) (b : Int32) (N_ : xM) (hmu : xmu b 6 < n + 1) (hinv : 0 ≤ a ∧ a < 6 ∧ 0 ≤ b) (c_14 : ¬ 6 ≤ b) : 0 ≤ b := by
  first | grind | (subst_vars; simp [xup_at] at *; done) | (subst_vars; simp [xup_at] at *; grind)
theorem ob_X5_measure_19_p3 (nb nn : Nat) (M : xM) (a : Int32) (n : Nat) (b : Int32) (N_ : xM) (hmu : xmu b 6 < n + 1) (hinv : 0 ≤ a ∧ a < 6 ∧ 0 ≤ b) (c_14 : ¬ 6 ≤ b) : b < 6 := by
  first | grind | (subst_vars; simp [xup_at] at *; done) | (subst_vars; simp [xup_at] at *; grind)
theorem ob_X5_measure_52_in (nb nn : Nat) (M : xM) (a : Int32) (n : Nat) (b : Int32) (N_ : xM) (hmu : xmu b 6 < n + 1) (hinv : 0 ≤ a ∧ a < 6 ∧ 0 ≤ b) (c_14 : ¬ 6 ≤ b) (r_15 : Int32) (er_15 : r_15 = f_X5_milesBetween a b N_) (c_16 : ¬ a = b) (c_17 : ¬ r_15 = 0) : vp_in ((a * 6) + b) 36 := by
  exact xin (N := 36) (by grind) (by grind) (by decide)
theorem ob_X5_measure_10_mu_19 (nb nn : Nat) (M : xM) (a : Int32) (n : Nat) (b : Int32) (N_ : xM) (hmu : xmu b 6 < n + 1) (hinv : 0 ≤ a ∧ a < 6 ∧ 0 ≤ b) (c_14 : ¬ 6 ≤ b) (r_15 : Int32) (er_15 : r_15 = f_X5_milesBetween a b N_) (c_16 : ¬ a = b) (c_17 : ¬ r_15 = 0) (M_18 : xM) (eM_18 : M_18 = xup N_ 14 0 ((a * 6) + b).toNatClampNeg r_15) (x2_19 : Int32) (ex2_19 : x2_19 = b + 1) : xmu x2_19 6 < n := by
  subst_vars
  have h9 := xmu_up (a := b) (b := 6) (by grind)
  (try simp [xup_at])
  omega
theorem ob_X5_measure_10_inv_19 (nb nn : Nat) (M : xM) (a : Int32) (n : Nat) (b : Int32) (N_ : xM) (hmu : xmu b 6 < n + 1) (hinv : 0 ≤ a ∧ a < 6 ∧ 0 ≤ b) (c_14 : ¬ 6 ≤ b) (r_15 : Int32) (er_15 : r_15 = f_X5_milesBetween a b N_) (c_16 : ¬ a = b) (c_17 : ¬ r_15 = 0) (M_18 : xM) (eM_18 : M_18 = xup N_ 14 0 ((a * 6) + b).toNatClampNeg r_15) (x2_19 : Int32) (ex2_19 : x2_19 = b + 1) : 0 ≤ a ∧ a < 6 ∧ 0 ≤ x2_19 := by
  first | grind | (subst_vars; simp [xup_at] at *; done) | (subst_vars; simp [xup_at] at *; grind)
theorem ob_X5_measure_52_in_2 (nb nn : Nat) (M : xM) (a : Int32) (n : Nat) (b : Int32) (N_ : xM) (hmu : xmu b 6 < n + 1) (hinv : 0 ≤ a ∧ a < 6 ∧ 0 ≤ b) (c_14 : ¬ 6 ≤ b) (r_15 : Int32) (er_15 : r_15 = f_X5_milesBetween a b N_) (c_16 : ¬ a = b) (c_17 : r_15 = 0) : vp_in ((a * 6) + b) 36 := by
  exact xin (N := 36) (by grind) (by grind) (by decide)
theorem ob_X5_measure_10_mu_21 (nb nn : Nat) (M : xM) (a : Int32) (n : Nat) (b : Int32) (N_ : xM) (hmu : xmu b 6 < n + 1) (hinv : 0 ≤ a ∧ a < 6 ∧ 0 ≤ b) (c_14 : ¬ 6 ≤ b) (r_15 : Int32) (er_15 : r_15 = f_X5_milesBetween a b N_) (c_16 : ¬ a = b) (c_17 : r_15 = 0) (M_20 : xM) (eM_20 : M_20 = xup N_ 14 0 ((a * 6) + b).toNatClampNeg 1000000) (x2_21 : Int32) (ex2_21 : x2_21 = b + 1) : xmu x2_21 6 < n := by
  subst_vars
  have h9 := xmu_up (a := b) (b := 6) (by grind)
  (try simp [xup_at])
  omega
theorem ob_X5_measure_10_inv_21 (nb nn : Nat) (M : xM) (a : Int32) (n : Nat) (b : Int32) (N_ : xM) (hmu : xmu b 6 < n + 1) (hinv : 0 ≤ a ∧ a < 6 ∧ 0 ≤ b) (c_14 : ¬ 6 ≤ b) (r_15 : Int32) (er_15 : r_15 = f_X5_milesBetween a b N_) (c_16 : ¬ a = b) (c_17 : r_15 = 0) (M_20 : xM) (eM_20 : M_20 = xup N_ 14 0 ((a * 6) + b).toNatClampNeg 1000000) (x2_21 : Int32) (ex2_21 : x2_21 = b + 1) : 0 ≤ a ∧ a < 6 ∧ 0 ≤ x2_21 := by
  first | grind | (subst_vars; simp [xup_at] at *; done) | (subst_vars; simp [xup_at] at *; grind)
theorem ob_X5_measure_52_in_3 (nb nn : Nat) (M : xM) (a : Int32) (n : Nat) (b : Int32) (N_ : xM) (hmu : xmu b 6 < n + 1) (hinv : 0 ≤ a ∧ a < 6 ∧ 0 ≤ b) (c_14 : ¬ 6 ≤ b) (r_15 : Int32) (er_15 : r_15 = f_X5_milesBetween a b N_) (c_16 : a = b) : vp_in ((a * 6) + b) 36 := by
  exact xin (N := 36) (by grind) (by grind) (by decide)
theorem ob_X5_measure_10_mu_23 (nb nn : Nat) (M : xM) (a : Int32) (n : Nat) (b : Int32) (N_ : xM) (hmu : xmu b 6 < n + 1) (hinv : 0 ≤ a ∧ a < 6 ∧ 0 ≤ b) (c_14 : ¬ 6 ≤ b) (r_15 : Int32) (er_15 : r_15 = f_X5_milesBetween a b N_) (c_16 : a = b) (M_22 : xM) (eM_22 : M_22 = xup N_ 14 0 ((a * 6) + b).toNatClampNeg 0) (x2_23 : Int32) (ex2_23 : x2_23 = b + 1) : xmu x2_23 6 < n := by
  subst_vars
  have h9 := xmu_up (a := b) (b := 6) (by grind)
  (try simp [xup_at])
  omega
theorem ob_X5_measure_10_inv_23 (nb nn : Nat) (M : xM) (a : Int32) (n : Nat) (b : Int32) (N_ : xM) (hmu : xmu b 6 < n + 1) (hinv : 0 ≤ a ∧ a < 6 ∧ 0 ≤ b) (c_14 : ¬ 6 ≤ b) (r_15 : Int32) (er_15 : r_15 = f_X5_milesBetween a b N_) (c_16 : a = b) (M_22 : xM) (eM_22 : M_22 = xup N_ 14 0 ((a * 6) + b).toNatClampNeg 0) (x2_23 : Int32) (ex2_23 : x2_23 = b + 1) : 0 ≤ a ∧ a < 6 ∧ 0 ≤ x2_23 := by
  first | grind | (subst_vars; simp [xup_at] at *; done) | (subst_vars; simp [xup_at] at *; grind)
theorem ob_X5_measure_65_x2 (nb nn : Nat) (M : xM) (n : Nat) (a : Int32) (N_ : xM) (hmu : xmu a 6 < n + 1) (hinv : 0 ≤ a) (c_24 : 6 ≤ a) : 0 ≤ a := by
  first | grind | (subst_vars; simp [xup_at] at *; done) | (subst_vars; simp [xup_at] at *; grind)
theorem ob_X5_measure_10_ini_24 (nb nn : Nat) (M : xM) (n : Nat) (a : Int32) (N_ : xM) (hmu : xmu a 6 < n + 1) (hinv : 0 ≤ a) (c_24 : ¬ 6 ≤ a) : 0 ≤ a ∧ a < 6 ∧ 0 ≤ (0 : Int32) := by
  first | grind | (subst_vars; simp [xup_at] at *; done) | (subst_vars; simp [xup_at] at *; grind)
theorem ob_X5_measure_2_mu_27 (nb nn : Nat) (M : xM) (n : Nat) (a : Int32) (N_ : xM) (hmu : xmu a 6 < n + 1) (hinv : 0 ≤ a) (c_24 : ¬ 6 ≤ a) (b_25 : Int32) (M_26 : xM) (hiv_26 : 0 ≤ a ∧ a < 6 ∧ 0 ≤ b_25) (x1_27 : Int32) (ex1_27 : x1_27 = a + 1) : xmu x1_27 6 < n := by
  subst_vars
  have h9 := xmu_up (a := a) (b := 6) (by grind)
  (try simp [xup_at])
  omega
theorem ob_X5_measure_2_inv_27 (nb nn : Nat) (M : xM) (n : Nat) (a : Int32) (N_ : xM) (hmu : xmu a 6 < n + 1) (hinv : 0 ≤ a) (c_24 : ¬ 6 ≤ a) (b_25 : Int32) (M_26 : xM) (hiv_26 : 0 ≤ a ∧ a < 6 ∧ 0 ≤ b_25) (x1_27 : Int32) (ex1_27 : x1_27 = a + 1) : 0 ≤ x1_27 := by
  first | grind | (subst_vars; simp [xup_at] at *; done) | (subst_vars; simp [xup_at] at *; grind)
theorem ob_X5_measure_2_ini_27 (nb nn : Nat) (M : xM) : 0 ≤ (0 : Int32) := by
  first | grind | (subst_vars; simp [xup_at] at *; done) | (subst_vars; simp [xup_at] at *; grind)
theorem ob_X5_measure_67_ini_29 (nb nn : Nat) (M : xM) (a_28 : Int32) (M_29 : xM) (hiv_29 : 0 ≤ a_28) : 0 ≤ (0 : Int32) := by
  first | grind | (subst_vars; simp [xup_at] at *; done) | (subst_vars; simp [xup_at] at *; grind)
theorem ob_X5_build_11_in (nb nn : Nat) (a : Int32) (b : Int32) (v : Int32) (M : xM) (hp0 : 0 ≤ a) (hp1 : a < 6) (hp2 : 0 ≤ b) (hp3 : b < 6) : vp_in ((a * 6) + b) 36 := by
  exact xin (N := 36) (by grind) (by grind) (by decide)
theorem ob_X5_build_23_in (nb nn : Nat) (a : Int32) (b : Int32) (v : Int32) (M : xM) (hp0 : 0 ≤ a) (hp1 : a < 6) (hp2 : 0 ≤ b) (hp3 : b < 6) (M_1 : xM) (eM_1 : M_1 = xup M 13 0 ((a * 6) + b).toNatClampNeg v) : vp_in ((b * 6) + a) 36 := by
  exact xin (N := 36) (by grind) (by grind) (by decide)
theorem ob_X2_write_27_in (nb nn : Nat) (more : Int32) (word : Int32) (week : Int32) (bank : Int32) (value : Int32) (M : xM) (x6_1 : Int32) (ex6_1 : x6_1 = ((M 4 0 4) + more)) (c_2 : ¬ x6_1 < 0) (c_3 : ¬ 40 ≤ x6_1) : vp_in x6_1 40 := by
  exact xin (N := 40) (by grind) (by grind) (by decide)
theorem ob_X2_write_35_in (nb nn : Nat) (more : Int32) (word : Int32) (week : Int32) (bank : Int32) (value : Int32) (M : xM) (x6_1 : Int32) (ex6_1 : x6_1 = ((M 4 0 4) + more)) (c_2 : ¬ x6_1 < 0) (c_3 : ¬ 40 ≤ x6_1) (M_4 : xM) (eM_4 : M_4 = xup M 15 0 x6_1.toNatClampNeg word) : vp_in x6_1 40 := by
  exact xin (N := 40) (by grind) (by grind) (by decide)
theorem ob_X2_write_44_in (nb nn : Nat) (more : Int32) (word : Int32) (week : Int32) (bank : Int32) (value : Int32) (M : xM) (x6_1 : Int32) (ex6_1 : x6_1 = ((M 4 0 4) + more)) (c_2 : ¬ x6_1 < 0) (c_3 : ¬ 40 ≤ x6_1) (M_4 : xM) (eM_4 : M_4 = xup M 15 0 x6_1.toNatClampNeg word) (M_5 : xM) (eM_5 : M_5 = xup M_4 16 0 x6_1.toNatClampNeg week) : vp_in x6_1 40 := by
  exact xin (N := 40) (by grind) (by grind) (by decide)
theorem ob_X2_write_53_in (nb nn : Nat) (more : Int32) (word : Int32) (week : Int32) (bank : Int32) (value : Int32) (M : xM) (x6_1 : Int32) (ex6_1 : x6_1 = ((M 4 0 4) + more)) (c_2 : ¬ x6_1 < 0) (c_3 : ¬ 40 ≤ x6_1) (M_4 : xM) (eM_4 : M_4 = xup M 15 0 x6_1.toNatClampNeg word) (M_5 : xM) (eM_5 : M_5 = xup M_4 16 0 x6_1.toNatClampNeg week) (M_6 : xM) (eM_6 : M_6 = xup M_5 17 0 x6_1.toNatClampNeg bank) : vp_in x6_1 40 := by
  exact xin (N := 40) (by grind) (by grind) (by decide)
theorem ob_X2_isKnown_5_in (nb nn : Nat) (i : Int32) (word : Int32) (bank : Int32) (newest : Int32) (M : xM) (hp0 : 0 ≤ i) (hp1 : i < 40) : vp_in i 40 := by
  exact xin (N := 40) (by grind) (by grind) (by decide)
theorem ob_X2_isKnown_15_in (nb nn : Nat) (i : Int32) (word : Int32) (bank : Int32) (newest : Int32) (M : xM) (hp0 : 0 ≤ i) (hp1 : i < 40) (c_1 : (M 15 0 i.toNatClampNeg) = word) : vp_in i 40 := by
  exact xin (N := 40) (by grind) (by grind) (by decide)
theorem ob_X2_isKnown_25_in (nb nn : Nat) (i : Int32) (word : Int32) (bank : Int32) (newest : Int32) (M : xM) (hp0 : 0 ≤ i) (hp1 : i < 40) (c_1 : (M 15 0 i.toNatClampNeg) = word) (c_2 : (M 17 0 i.toNatClampNeg) = bank) : vp_in i 40 := by
  exact xin (N := 40) (by grind) (by grind) (by decide)
theorem ob_X2_latest_67_x10 (nb nn : Nat) (word : Int32) (bank : Int32) (newest : Int32) (M : xM) (hp0 : M 4 0 4 ≤ 40) (n : Nat) (value : Int32) (lw : Int32) (i : Int32) (hmu : xmu i (M 4 0 4) < n + 1) (hinv : 0 ≤ i) (c_1 : (M 4 0 4) ≤ i) : 0 ≤ i := by
  first | grind | (subst_vars; simp [xup_at] at *; done) | (subst_vars; simp [xup_at] at *; grind)
theorem ob_X2_latest_25_p0 (nb nn : Nat) (word : Int32) (bank : Int32) (newest : Int32) (M : xM) (hp0 : M 4 0 4 ≤ 40) (n : Nat) (value : Int32) (lw : Int32) (i : Int32) (hmu : xmu i (M 4 0 4) < n + 1) (hinv : 0 ≤ i) (c_1 : ¬ (M 4 0 4) ≤ i) : 0 ≤ i := by
  first | grind | (subst_vars; simp [xup_at] at *; done) | (subst_vars; simp [xup_at] at *; grind)
theorem ob_X2_latest_25_p1 (nb nn : Nat) (word : Int32) (bank : Int32) (newest : Int32) (M : xM) (hp0 : M 4 0 4 ≤ 40) (n : Nat) (value : Int32) (lw : Int32) (i : Int32) (hmu : xmu i (M 4 0 4) < n + 1) (hinv : 0 ≤ i) (c_1 : ¬ (M 4 0 4) ≤ i) : i < 40 := by
  first | grind | (subst_vars; simp [xup_at] at *; done) | (subst_vars; simp [xup_at] at *; grind)
theorem ob_X2_latest_10_mu_4 (nb nn : Nat) (word : Int32) (bank : Int32) (newest : Int32) (M : xM) (hp0 : M 4 0 4 ≤ 40) (n : Nat) (value : Int32) (lw : Int32) (i : Int32) (hmu : xmu i (M 4 0 4) < n + 1) (hinv : 0 ≤ i) (c_1 : ¬ (M 4 0 4) ≤ i) (r_2 : Int32) (er_2 : r_2 = xb (f_X2_isKnown i word bank newest M)) (c_3 : r_2 = 0) (x6_4 : Int32) (ex6_4 : x6_4 = i + 1) : xmu x6_4 (M 4 0 4) < n := by
  subst_vars
  have h9 := xmu_up (a := i) (b := (M 4 0 4)) (by grind)
  (try simp [xup_at])
  omega
theorem ob_X2_latest_10_inv_4 (nb nn : Nat) (word : Int32) (bank : Int32) (newest : Int32) (M : xM) (hp0 : M 4 0 4 ≤ 40) (n : Nat) (value : Int32) (lw : Int32) (i : Int32) (hmu : xmu i (M 4 0 4) < n + 1) (hinv : 0 ≤ i) (c_1 : ¬ (M 4 0 4) ≤ i) (r_2 : Int32) (er_2 : r_2 = xb (f_X2_isKnown i word bank newest M)) (c_3 : r_2 = 0) (x6_4 : Int32) (ex6_4 : x6_4 = i + 1) : 0 ≤ x6_4 := by
  first | grind | (subst_vars; simp [xup_at] at *; done) | (subst_vars; simp [xup_at] at *; grind)
theorem ob_X2_latest_37_in (nb nn : Nat) (word : Int32) (bank : Int32) (newest : Int32) (M : xM) (hp0 : M 4 0 4 ≤ 40) (n : Nat) (value : Int32) (lw : Int32) (i : Int32) (hmu : xmu i (M 4 0 4) < n + 1) (hinv : 0 ≤ i) (c_1 : ¬ (M 4 0 4) ≤ i) (r_2 : Int32) (er_2 : r_2 = xb (f_X2_isKnown i word bank newest M)) (c_3 : ¬ r_2 = 0) : vp_in i 40 := by
  exact xin (N := 40) (by grind) (by grind) (by decide)
theorem ob_X2_latest_10_mu_6 (nb nn : Nat) (word : Int32) (bank : Int32) (newest : Int32) (M : xM) (hp0 : M 4 0 4 ≤ 40) (n : Nat) (value : Int32) (lw : Int32) (i : Int32) (hmu : xmu i (M 4 0 4) < n + 1) (hinv : 0 ≤ i) (c_1 : ¬ (M 4 0 4) ≤ i) (r_2 : Int32) (er_2 : r_2 = xb (f_X2_isKnown i word bank newest M)) (c_3 : ¬ r_2 = 0) (c_5 : (M 16 0 i.toNatClampNeg) < lw) (x6_6 : Int32) (ex6_6 : x6_6 = i + 1) : xmu x6_6 (M 4 0 4) < n := by
  subst_vars
  have h9 := xmu_up (a := i) (b := (M 4 0 4)) (by grind)
  (try simp [xup_at])
  omega
theorem ob_X2_latest_10_inv_6 (nb nn : Nat) (word : Int32) (bank : Int32) (newest : Int32) (M : xM) (hp0 : M 4 0 4 ≤ 40) (n : Nat) (value : Int32) (lw : Int32) (i : Int32) (hmu : xmu i (M 4 0 4) < n + 1) (hinv : 0 ≤ i) (c_1 : ¬ (M 4 0 4) ≤ i) (r_2 : Int32) (er_2 : r_2 = xb (f_X2_isKnown i word bank newest M)) (c_3 : ¬ r_2 = 0) (c_5 : (M 16 0 i.toNatClampNeg) < lw) (x6_6 : Int32) (ex6_6 : x6_6 = i + 1) : 0 ≤ x6_6 := by
  first | grind | (subst_vars; simp [xup_at] at *; done) | (subst_vars; simp [xup_at] at *; grind)
theorem ob_X2_latest_49_in (nb nn : Nat) (word : Int32) (bank : Int32) (newest : Int32) (M : xM) (hp0 : M 4 0 4 ≤ 40) (n : Nat) (value : Int32) (lw : Int32) (i : Int32) (hmu : xmu i (M 4 0 4) < n + 1) (hinv : 0 ≤ i) (c_1 : ¬ (M 4 0 4) ≤ i) (r_2 : Int32) (er_2 : r_2 = xb (f_X2_isKnown i word bank newest M)) (c_3 : ¬ r_2 = 0) (c_5 : ¬ (M 16 0 i.toNatClampNeg) < lw) : vp_in i 40 := by
  exact xin (N := 40) (by grind) (by grind) (by decide)
theorem ob_X2_latest_58_in (nb nn : Nat) (word : Int32) (bank : Int32) (newest : Int32) (M : xM) (hp0 : M 4 0 4 ≤ 40) (n : Nat) (value : Int32) (lw : Int32) (i : Int32) (hmu : xmu i (M 4 0 4) < n + 1) (hinv : 0 ≤ i) (c_1 : ¬ (M 4 0 4) ≤ i) (r_2 : Int32) (er_2 : r_2 = xb (f_X2_isKnown i word bank newest M)) (c_3 : ¬ r_2 = 0) (c_5 : ¬ (M 16 0 i.toNatClampNeg) < lw) (x5_7 : Int32) (ex5_7 : x5_7 = (M 16 0 i.toNatClampNeg)) : vp_in i 40 := by
  exact xin (N := 40) (by grind) (by grind) (by decide)
theorem ob_X2_latest_10_mu_9 (nb nn : Nat) (word : Int32) (bank : Int32) (newest : Int32) (M : xM) (hp0 : M 4 0 4 ≤ 40) (n : Nat) (value : Int32) (lw : Int32) (i : Int32) (hmu : xmu i (M 4 0 4) < n + 1) (hinv : 0 ≤ i) (c_1 : ¬ (M 4 0 4) ≤ i) (r_2 : Int32) (er_2 : r_2 = xb (f_X2_isKnown i word bank newest M)) (c_3 : ¬ r_2 = 0) (c_5 : ¬ (M 16 0 i.toNatClampNeg) < lw) (x5_7 : Int32) (ex5_7 : x5_7 = (M 16 0 i.toNatClampNeg)) (x4_8 : Int32) (ex4_8 : x4_8 = (M 18 0 i.toNatClampNeg)) (x6_9 : Int32) (ex6_9 : x6_9 = i + 1) : xmu x6_9 (M 4 0 4) < n := by
  subst_vars
  have h9 := xmu_up (a := i) (b := (M 4 0 4)) (by grind)
  (try simp [xup_at])
  omega
theorem ob_X2_latest_10_inv_9 (nb nn : Nat) (word : Int32) (bank : Int32) (newest : Int32) (M : xM) (hp0 : M 4 0 4 ≤ 40) (n : Nat) (value : Int32) (lw : Int32) (i : Int32) (hmu : xmu i (M 4 0 4) < n + 1) (hinv : 0 ≤ i) (c_1 : ¬ (M 4 0 4) ≤ i) (r_2 : Int32) (er_2 : r_2 = xb (f_X2_isKnown i word bank newest M)) (c_3 : ¬ r_2 = 0) (c_5 : ¬ (M 16 0 i.toNatClampNeg) < lw) (x5_7 : Int32) (ex5_7 : x5_7 = (M 16 0 i.toNatClampNeg)) (x4_8 : Int32) (ex4_8 : x4_8 = (M 18 0 i.toNatClampNeg)) (x6_9 : Int32) (ex6_9 : x6_9 = i + 1) : 0 ≤ x6_9 := by
  first | grind | (subst_vars; simp [xup_at] at *; done) | (subst_vars; simp [xup_at] at *; grind)
theorem ob_X2_latest_10_ini_9 (nb nn : Nat) (word : Int32) (bank : Int32) (newest : Int32) (M : xM) (hp0 : M 4 0 4 ≤ 40) : 0 ≤ (0 : Int32) := by
  first | grind | (subst_vars; simp [xup_at] at *; done) | (subst_vars; simp [xup_at] at *; grind)
theorem ob_X2_off_4_p0 (nb nn : Nat) (bank : Int32) (newest : Int32) (M : xM) (hp0 : M 4 0 4 ≤ 40) : M 4 0 4 ≤ 40 := by
  first | grind | (subst_vars; simp [xup_at] at *; done) | (subst_vars; simp [xup_at] at *; grind)
theorem ob_X2_falsePlates_35_x5 (nb nn : Nat) (bank : Int32) (newest : Int32) (M : xM) (hp0 : M 4 0 4 ≤ 40) (n : Nat) (there : Int32) (i : Int32) (hmu : xmu i (M 4 0 4) < n + 1) (hinv : 0 ≤ i) (c_1 : (M 4 0 4) ≤ i) : 0 ≤ i := by
  first | grind | (subst_vars; simp [xup_at] at *; done) | (subst_vars; simp [xup_at] at *; grind)
theorem ob_X2_falsePlates_20_p0 (nb nn : Nat) (bank : Int32) (newest : Int32) (M : xM) (hp0 : M 4 0 4 ≤ 40) (n : Nat) (there : Int32) (i : Int32) (hmu : xmu i (M 4 0 4) < n + 1) (hinv : 0 ≤ i) (c_1 : ¬ (M 4 0 4) ≤ i) : 0 ≤ i := by
  first | grind | (subst_vars; simp [xup_at] at *; done) | (subst_vars; simp [xup_at] at *; grind)
theorem ob_X2_falsePlates_20_p1 (nb nn : Nat) (bank : Int32) (newest : Int32) (M : xM) (hp0 : M 4 0 4 ≤ 40) (n : Nat) (there : Int32) (i : Int32) (hmu : xmu i (M 4 0 4) < n + 1) (hinv : 0 ≤ i) (c_1 : ¬ (M 4 0 4) ≤ i) : i < 40 := by
  first | grind | (subst_vars; simp [xup_at] at *; done) | (subst_vars; simp [xup_at] at *; grind)
theorem ob_X2_falsePlates_5_mu_4 (nb nn : Nat) (bank : Int32) (newest : Int32) (M : xM) (hp0 : M 4 0 4 ≤ 40) (n : Nat) (there : Int32) (i : Int32) (hmu : xmu i (M 4 0 4) < n + 1) (hinv : 0 ≤ i) (c_1 : ¬ (M 4 0 4) ≤ i) (r_2 : Int32) (er_2 : r_2 = xb (f_X2_isKnown i 1 bank newest M)) (c_3 : r_2 = 0) (x4_4 : Int32) (ex4_4 : x4_4 = i + 1) : xmu x4_4 (M 4 0 4) < n := by
  subst_vars
  have h9 := xmu_up (a := i) (b := (M 4 0 4)) (by grind)
  (try simp [xup_at])
  omega
theorem ob_X2_falsePlates_5_inv_4 (nb nn : Nat) (bank : Int32) (newest : Int32) (M : xM) (hp0 : M 4 0 4 ≤ 40) (n : Nat) (there : Int32) (i : Int32) (hmu : xmu i (M 4 0 4) < n + 1) (hinv : 0 ≤ i) (c_1 : ¬ (M 4 0 4) ≤ i) (r_2 : Int32) (er_2 : r_2 = xb (f_X2_isKnown i 1 bank newest M)) (c_3 : r_2 = 0) (x4_4 : Int32) (ex4_4 : x4_4 = i + 1) : 0 ≤ x4_4 := by
  first | grind | (subst_vars; simp [xup_at] at *; done) | (subst_vars; simp [xup_at] at *; grind)
theorem ob_X2_falsePlates_5_mu_6 (nb nn : Nat) (bank : Int32) (newest : Int32) (M : xM) (hp0 : M 4 0 4 ≤ 40) (n : Nat) (there : Int32) (i : Int32) (hmu : xmu i (M 4 0 4) < n + 1) (hinv : 0 ≤ i) (c_1 : ¬ (M 4 0 4) ≤ i) (r_2 : Int32) (er_2 : r_2 = xb (f_X2_isKnown i 1 bank newest M)) (c_3 : ¬ r_2 = 0) (x3_5 : Int32) (ex3_5 : x3_5 = there + 1) (x4_6 : Int32) (ex4_6 : x4_6 = i + 1) : xmu x4_6 (M 4 0 4) < n := by
  subst_vars
  have h9 := xmu_up (a := i) (b := (M 4 0 4)) (by grind)
  (try simp [xup_at])
  omega
theorem ob_X2_falsePlates_5_inv_6 (nb nn : Nat) (bank : Int32) (newest : Int32) (M : xM) (hp0 : M 4 0 4 ≤ 40) (n : Nat) (there : Int32) (i : Int32) (hmu : xmu i (M 4 0 4) < n + 1) (hinv : 0 ≤ i) (c_1 : ¬ (M 4 0 4) ≤ i) (r_2 : Int32) (er_2 : r_2 = xb (f_X2_isKnown i 1 bank newest M)) (c_3 : ¬ r_2 = 0) (x3_5 : Int32) (ex3_5 : x3_5 = there + 1) (x4_6 : Int32) (ex4_6 : x4_6 = i + 1) : 0 ≤ x4_6 := by
  first | grind | (subst_vars; simp [xup_at] at *; done) | (subst_vars; simp [xup_at] at *; grind)
theorem ob_X2_falsePlates_5_ini_6 (nb nn : Nat) (bank : Int32) (newest : Int32) (M : xM) (hp0 : M 4 0 4 ≤ 40) : 0 ≤ (0 : Int32) := by
  first | grind | (subst_vars; simp [xup_at] at *; done) | (subst_vars; simp [xup_at] at *; grind)
theorem ob_X2_tellApart_53_x5 (nb nn : Nat) (note : Nat) (newest : Int32) (M : xM) (hnote : note < nn) (hp0 : M 4 0 4 ≤ 40) (n : Nat) (some_ : Int32) (i : Int32) (hmu : xmu i (M 4 0 4) < n + 1) (hinv : 0 ≤ i ∧ (some_ = 0 ∨ some_ = 1)) (c_1 : (M 4 0 4) ≤ i) : 0 ≤ i ∧ (some_ = 0 ∨ some_ = 1) := by
  first | grind | (subst_vars; simp [xup_at] at *; done) | (subst_vars; simp [xup_at] at *; grind)
theorem ob_X2_tellApart_23_p0 (nb nn : Nat) (note : Nat) (newest : Int32) (M : xM) (hnote : note < nn) (hp0 : M 4 0 4 ≤ 40) (n : Nat) (some_ : Int32) (i : Int32) (hmu : xmu i (M 4 0 4) < n + 1) (hinv : 0 ≤ i ∧ (some_ = 0 ∨ some_ = 1)) (c_1 : ¬ (M 4 0 4) ≤ i) : 0 ≤ i := by
  first | grind | (subst_vars; simp [xup_at] at *; done) | (subst_vars; simp [xup_at] at *; grind)
theorem ob_X2_tellApart_23_p1 (nb nn : Nat) (note : Nat) (newest : Int32) (M : xM) (hnote : note < nn) (hp0 : M 4 0 4 ≤ 40) (n : Nat) (some_ : Int32) (i : Int32) (hmu : xmu i (M 4 0 4) < n + 1) (hinv : 0 ≤ i ∧ (some_ = 0 ∨ some_ = 1)) (c_1 : ¬ (M 4 0 4) ≤ i) : i < 40 := by
  first | grind | (subst_vars; simp [xup_at] at *; done) | (subst_vars; simp [xup_at] at *; grind)
theorem ob_X2_tellApart_5_mu_4 (nb nn : Nat) (note : Nat) (newest : Int32) (M : xM) (hnote : note < nn) (hp0 : M 4 0 4 ≤ 40) (n : Nat) (some_ : Int32) (i : Int32) (hmu : xmu i (M 4 0 4) < n + 1) (hinv : 0 ≤ i ∧ (some_ = 0 ∨ some_ = 1)) (c_1 : ¬ (M 4 0 4) ≤ i) (r_2 : Int32) (er_2 : r_2 = xb (f_X2_isKnown i 1 (M 29 note 1) newest M)) (c_3 : r_2 = 0) (x4_4 : Int32) (ex4_4 : x4_4 = i + 1) : xmu x4_4 (M 4 0 4) < n := by
  subst_vars
  have h9 := xmu_up (a := i) (b := (M 4 0 4)) (by grind)
  (try simp [xup_at])
  omega
theorem ob_X2_tellApart_5_inv_4 (nb nn : Nat) (note : Nat) (newest : Int32) (M : xM) (hnote : note < nn) (hp0 : M 4 0 4 ≤ 40) (n : Nat) (some_ : Int32) (i : Int32) (hmu : xmu i (M 4 0 4) < n + 1) (hinv : 0 ≤ i ∧ (some_ = 0 ∨ some_ = 1)) (c_1 : ¬ (M 4 0 4) ≤ i) (r_2 : Int32) (er_2 : r_2 = xb (f_X2_isKnown i 1 (M 29 note 1) newest M)) (c_3 : r_2 = 0) (x4_4 : Int32) (ex4_4 : x4_4 = i + 1) : 0 ≤ x4_4 ∧ (some_ = 0 ∨ some_ = 1) := by
  first | grind | (subst_vars; simp [xup_at] at *; done) | (subst_vars; simp [xup_at] at *; grind)
theorem ob_X2_tellApart_38_in (nb nn : Nat) (note : Nat) (newest : Int32) (M : xM) (hnote : note < nn) (hp0 : M 4 0 4 ≤ 40) (n : Nat) (some_ : Int32) (i : Int32) (hmu : xmu i (M 4 0 4) < n + 1) (hinv : 0 ≤ i ∧ (some_ = 0 ∨ some_ = 1)) (c_1 : ¬ (M 4 0 4) ≤ i) (r_2 : Int32) (er_2 : r_2 = xb (f_X2_isKnown i 1 (M 29 note 1) newest M)) (c_3 : ¬ r_2 = 0) : vp_in i 40 := by
  exact xin (N := 40) (by grind) (by grind) (by decide)
theorem ob_X2_tellApart_5_mu_7 (nb nn : Nat) (note : Nat) (newest : Int32) (M : xM) (hnote : note < nn) (hp0 : M 4 0 4 ≤ 40) (n : Nat) (some_ : Int32) (i : Int32) (hmu : xmu i (M 4 0 4) < n + 1) (hinv : 0 ≤ i ∧ (some_ = 0 ∨ some_ = 1)) (c_1 : ¬ (M 4 0 4) ≤ i) (r_2 : Int32) (er_2 : r_2 = xb (f_X2_isKnown i 1 (M 29 note 1) newest M)) (c_3 : ¬ r_2 = 0) (r_5 : Int32) (er_5 : r_5 = xb (f_X4_isUnlike note (M 18 0 i.toNatClampNeg) M)) (c_6 : ¬ r_5 = 0) (x4_7 : Int32) (ex4_7 : x4_7 = i + 1) : xmu x4_7 (M 4 0 4) < n := by
  subst_vars
  have h9 := xmu_up (a := i) (b := (M 4 0 4)) (by grind)
  (try simp [xup_at])
  omega
theorem ob_X2_tellApart_5_inv_7 (nb nn : Nat) (note : Nat) (newest : Int32) (M : xM) (hnote : note < nn) (hp0 : M 4 0 4 ≤ 40) (n : Nat) (some_ : Int32) (i : Int32) (hmu : xmu i (M 4 0 4) < n + 1) (hinv : 0 ≤ i ∧ (some_ = 0 ∨ some_ = 1)) (c_1 : ¬ (M 4 0 4) ≤ i) (r_2 : Int32) (er_2 : r_2 = xb (f_X2_isKnown i 1 (M 29 note 1) newest M)) (c_3 : ¬ r_2 = 0) (r_5 : Int32) (er_5 : r_5 = xb (f_X4_isUnlike note (M 18 0 i.toNatClampNeg) M)) (c_6 : ¬ r_5 = 0) (x4_7 : Int32) (ex4_7 : x4_7 = i + 1) : 0 ≤ x4_7 ∧ ((1 : Int32) = 0 ∨ (1 : Int32) = 1) := by
  first | grind | (subst_vars; simp [xup_at] at *; done) | (subst_vars; simp [xup_at] at *; grind)
theorem ob_X2_tellApart_5_ini_7 (nb nn : Nat) (note : Nat) (newest : Int32) (M : xM) (hnote : note < nn) (hp0 : M 4 0 4 ≤ 40) : 0 ≤ (0 : Int32) ∧ ((0 : Int32) = 0 ∨ (0 : Int32) = 1) := by
  first | grind | (subst_vars; simp [xup_at] at *; done) | (subst_vars; simp [xup_at] at *; grind)
theorem ob_X2_tellApart_54_b (nb nn : Nat) (note : Nat) (newest : Int32) (M : xM) (hnote : note < nn) (hp0 : M 4 0 4 ≤ 40) (some__8 : Int32) (i_9 : Int32) (hiv_9 : 0 ≤ i_9 ∧ (some__8 = 0 ∨ some__8 = 1)) : some__8 = 0 ∨ some__8 = 1 := by
  first | grind | (subst_vars; simp [xup_at] at *; done) | (subst_vars; simp [xup_at] at *; grind)
theorem ob_X7_append_54_x5 (nb nn : Nat) (wd : Int64) (z : Int32) (M : xM) (hp0 : 0 ≤ M 5 0 2) (n : Nat) (left : Int32) (N_ : xM) (hmu : xmu (-1) left < n + 1) (hinv : 0 ≤ N_ 5 0 2) (c_1 : left < 0) : 0 ≤ N_ 5 0 2 := by
  first | grind | (subst_vars; simp [xup_at] at *; done) | (subst_vars; simp [xup_at] at *; grind)
theorem ob_X7_append_54_x5_2 (nb nn : Nat) (wd : Int64) (z : Int32) (M : xM) (hp0 : 0 ≤ M 5 0 2) (n : Nat) (left : Int32) (N_ : xM) (hmu : xmu (-1) left < n + 1) (hinv : 0 ≤ N_ 5 0 2) (c_1 : ¬ left < 0) (c_2 : 400 ≤ (N_ 5 0 2)) : 0 ≤ N_ 5 0 2 := by
  first | grind | (subst_vars; simp [xup_at] at *; done) | (subst_vars; simp [xup_at] at *; grind)
theorem ob_X7_append_37_in (nb nn : Nat) (wd : Int64) (z : Int32) (M : xM) (hp0 : 0 ≤ M 5 0 2) (n : Nat) (left : Int32) (N_ : xM) (hmu : xmu (-1) left < n + 1) (hinv : 0 ≤ N_ 5 0 2) (c_1 : ¬ left < 0) (c_2 : ¬ 400 ≤ (N_ 5 0 2)) (v_3 : Int32) (ev_3 : v_3 = (((wd.toUInt64 >>> ((left * 8).toInt64.toUInt64 &&& Int64.toUInt64 63)).toInt64).toInt32).toInt8.toInt32) : vp_in (N_ 5 0 2) 400 := by
  exact xin (N := 400) (by grind) (by grind) (by decide)
theorem ob_X7_append_5_mu_7 (nb nn : Nat) (wd : Int64) (z : Int32) (M : xM) (hp0 : 0 ≤ M 5 0 2) (n : Nat) (left : Int32) (N_ : xM) (hmu : xmu (-1) left < n + 1) (hinv : 0 ≤ N_ 5 0 2) (c_1 : ¬ left < 0) (c_2 : ¬ 400 ≤ (N_ 5 0 2)) (v_3 : Int32) (ev_3 : v_3 = (((wd.toUInt64 >>> ((left * 8).toInt64.toUInt64 &&& Int64.toUInt64 63)).toInt64).toInt32).toInt8.toInt32) (M_4 : xM) (eM_4 : M_4 = xup N_ 19 0 (N_ 5 0 2).toNatClampNeg (vp_nar .byte v_3)) (v_5 : Int32) (ev_5 : v_5 = ((M_4 5 0 2) + 1)) (M_6 : xM) (eM_6 : M_6 = xup M_4 5 0 2 v_5) (x4_7 : Int32) (ex4_7 : x4_7 = left + (-1)) : xmu (-1) x4_7 < n := by
  subst_vars
  have h9 := xmu_dn (a := left) (b := (-1)) (by grind)
  (try simp [xup_at])
  omega
theorem ob_X7_append_5_inv_7 (nb nn : Nat) (wd : Int64) (z : Int32) (M : xM) (hp0 : 0 ≤ M 5 0 2) (n : Nat) (left : Int32) (N_ : xM) (hmu : xmu (-1) left < n + 1) (hinv : 0 ≤ N_ 5 0 2) (c_1 : ¬ left < 0) (c_2 : ¬ 400 ≤ (N_ 5 0 2)) (v_3 : Int32) (ev_3 : v_3 = (((wd.toUInt64 >>> ((left * 8).toInt64.toUInt64 &&& Int64.toUInt64 63)).toInt64).toInt32).toInt8.toInt32) (M_4 : xM) (eM_4 : M_4 = xup N_ 19 0 (N_ 5 0 2).toNatClampNeg (vp_nar .byte v_3)) (v_5 : Int32) (ev_5 : v_5 = ((M_4 5 0 2) + 1)) (M_6 : xM) (eM_6 : M_6 = xup M_4 5 0 2 v_5) (x4_7 : Int32) (ex4_7 : x4_7 = left + (-1)) : 0 ≤ M_6 5 0 2 := by
  first | grind | (subst_vars; simp [xup_at] at *; done) | (subst_vars; simp [xup_at] at *; grind)
theorem ob_X7_append_5_ini_8 (nb nn : Nat) (wd : Int64) (z : Int32) (M : xM) (hp0 : 0 ≤ M 5 0 2) (x4_8 : Int32) (ex4_8 : x4_8 = (z - 1)) : 0 ≤ M 5 0 2 := by
  first | grind | (subst_vars; simp [xup_at] at *; done) | (subst_vars; simp [xup_at] at *; grind)
theorem ob_X7_isAmong_5_in (nb nn : Nat) (at_ : Int32) (first : Int32) (last : Int32) (M : xM) (hp0 : 0 ≤ at_) (hp1 : at_ < 400) : vp_in at_ 400 := by
  exact xin (N := 400) (by grind) (by grind) (by decide)
theorem ob_X7_isAmong_15_in (nb nn : Nat) (at_ : Int32) (first : Int32) (last : Int32) (M : xM) (hp0 : 0 ≤ at_) (hp1 : at_ < 400) (c_1 : ¬ (M 19 0 at_.toNatClampNeg) < first) : vp_in at_ 400 := by
  exact xin (N := 400) (by grind) (by grind) (by decide)
theorem ob_X7_endOfRun_29_x3 (nb nn : Nat) (from_ : Int32) (first : Int32) (last : Int32) (M : xM) (hp0 : 0 ≤ from_) (hp1 : M 5 0 2 ≤ 400) (n : Nat) (at_ : Int32) (hmu : xmu at_ (M 5 0 2) < n + 1) (hinv : 0 ≤ at_) (c_1 : (M 5 0 2) ≤ at_) : 0 ≤ at_ := by
  first | grind | (subst_vars; simp [xup_at] at *; done) | (subst_vars; simp [xup_at] at *; grind)
theorem ob_X7_endOfRun_17_p0 (nb nn : Nat) (from_ : Int32) (first : Int32) (last : Int32) (M : xM) (hp0 : 0 ≤ from_) (hp1 : M 5 0 2 ≤ 400) (n : Nat) (at_ : Int32) (hmu : xmu at_ (M 5 0 2) < n + 1) (hinv : 0 ≤ at_) (c_1 : ¬ (M 5 0 2) ≤ at_) : 0 ≤ at_ := by
  first | grind | (subst_vars; simp [xup_at] at *; done) | (subst_vars; simp [xup_at] at *; grind)
theorem ob_X7_endOfRun_17_p1 (nb nn : Nat) (from_ : Int32) (first : Int32) (last : Int32) (M : xM) (hp0 : 0 ≤ from_) (hp1 : M 5 0 2 ≤ 400) (n : Nat) (at_ : Int32) (hmu : xmu at_ (M 5 0 2) < n + 1) (hinv : 0 ≤ at_) (c_1 : ¬ (M 5 0 2) ≤ at_) : at_ < 400 := by
  first | grind | (subst_vars; simp [xup_at] at *; done) | (subst_vars; simp [xup_at] at *; grind)
theorem ob_X7_endOfRun_29_x3_2 (nb nn : Nat) (from_ : Int32) (first : Int32) (last : Int32) (M : xM) (hp0 : 0 ≤ from_) (hp1 : M 5 0 2 ≤ 400) (n : Nat) (at_ : Int32) (hmu : xmu at_ (M 5 0 2) < n + 1) (hinv : 0 ≤ at_) (c_1 : ¬ (M 5 0 2) ≤ at_) (r_2 : Int32) (er_2 : r_2 = xb (f_X7_isAmong at_ first last M)) (c_3 : r_2 = 0) : 0 ≤ at_ := by
  first | grind | (subst_vars; simp [xup_at] at *; done) | (subst_vars; simp [xup_at] at *; grind)
theorem ob_X7_endOfRun_3_mu_4 (nb nn : Nat) (from_ : Int32) (first : Int32) (last : Int32) (M : xM) (hp0 : 0 ≤ from_) (hp1 : M 5 0 2 ≤ 400) (n : Nat) (at_ : Int32) (hmu : xmu at_ (M 5 0 2) < n + 1) (hinv : 0 ≤ at_) (c_1 : ¬ (M 5 0 2) ≤ at_) (r_2 : Int32) (er_2 : r_2 = xb (f_X7_isAmong at_ first last M)) (c_3 : ¬ r_2 = 0) (x4_4 : Int32) (ex4_4 : x4_4 = at_ + 1) : xmu x4_4 (M 5 0 2) < n := by
  subst_vars
  have h9 := xmu_up (a := at_) (b := (M 5 0 2)) (by grind)
  (try simp [xup_at])
  omega
theorem ob_X7_endOfRun_3_inv_4 (nb nn : Nat) (from_ : Int32) (first : Int32) (last : Int32) (M : xM) (hp0 : 0 ≤ from_) (hp1 : M 5 0 2 ≤ 400) (n : Nat) (at_ : Int32) (hmu : xmu at_ (M 5 0 2) < n + 1) (hinv : 0 ≤ at_) (c_1 : ¬ (M 5 0 2) ≤ at_) (r_2 : Int32) (er_2 : r_2 = xb (f_X7_isAmong at_ first last M)) (c_3 : ¬ r_2 = 0) (x4_4 : Int32) (ex4_4 : x4_4 = at_ + 1) : 0 ≤ x4_4 := by
  first | grind | (subst_vars; simp [xup_at] at *; done) | (subst_vars; simp [xup_at] at *; grind)
theorem ob_X7_endOfRun_3_ini_4 (nb nn : Nat) (from_ : Int32) (first : Int32) (last : Int32) (M : xM) (hp0 : 0 ≤ from_) (hp1 : M 5 0 2 ≤ 400) : 0 ≤ from_ := by
  first | grind | (subst_vars; simp [xup_at] at *; done) | (subst_vars; simp [xup_at] at *; grind)
theorem ob_X7_numberAt_33_x5 (nb nn : Nat) (from_ : Int32) (end_ : Int32) (M : xM) (hp0 : 0 ≤ from_) (hp1 : end_ ≤ 400) (n : Nat) (number : Int32) (at_ : Int32) (hmu : xmu at_ end_ < n + 1) (hinv : 0 ≤ at_) (c_1 : end_ ≤ at_) : 0 ≤ at_ := by
  first | grind | (subst_vars; simp [xup_at] at *; done) | (subst_vars; simp [xup_at] at *; grind)
theorem ob_X7_numberAt_21_in (nb nn : Nat) (from_ : Int32) (end_ : Int32) (M : xM) (hp0 : 0 ≤ from_) (hp1 : end_ ≤ 400) (n : Nat) (number : Int32) (at_ : Int32) (hmu : xmu at_ end_ < n + 1) (hinv : 0 ≤ at_) (c_1 : ¬ end_ ≤ at_) : vp_in at_ 400 := by
  exact xin (N := 400) (by grind) (by grind) (by decide)
theorem ob_X7_numberAt_5_mu_3 (nb nn : Nat) (from_ : Int32) (end_ : Int32) (M : xM) (hp0 : 0 ≤ from_) (hp1 : end_ ≤ 400) (n : Nat) (number : Int32) (at_ : Int32) (hmu : xmu at_ end_ < n + 1) (hinv : 0 ≤ at_) (c_1 : ¬ end_ ≤ at_) (x3_2 : Int32) (ex3_2 : x3_2 = (((number * 10) + (M 19 0 at_.toNatClampNeg)) - 48)) (x4_3 : Int32) (ex4_3 : x4_3 = at_ + 1) : xmu x4_3 end_ < n := by
  subst_vars
  have h9 := xmu_up (a := at_) (b := end_) (by grind)
  (try simp [xup_at])
  omega
theorem ob_X7_numberAt_5_inv_3 (nb nn : Nat) (from_ : Int32) (end_ : Int32) (M : xM) (hp0 : 0 ≤ from_) (hp1 : end_ ≤ 400) (n : Nat) (number : Int32) (at_ : Int32) (hmu : xmu at_ end_ < n + 1) (hinv : 0 ≤ at_) (c_1 : ¬ end_ ≤ at_) (x3_2 : Int32) (ex3_2 : x3_2 = (((number * 10) + (M 19 0 at_.toNatClampNeg)) - 48)) (x4_3 : Int32) (ex4_3 : x4_3 = at_ + 1) : 0 ≤ x4_3 := by
  first | grind | (subst_vars; simp [xup_at] at *; done) | (subst_vars; simp [xup_at] at *; grind)
theorem ob_X7_numberAt_5_ini_3 (nb nn : Nat) (from_ : Int32) (end_ : Int32) (M : xM) (hp0 : 0 ≤ from_) (hp1 : end_ ≤ 400) : 0 ≤ from_ := by
  first | grind | (subst_vars; simp [xup_at] at *; done) | (subst_vars; simp [xup_at] at *; grind)
set_option maxHeartbeats 4000000 in
set_option maxRecDepth 100000 in
theorem c_J6_bitCount_0f7a4 (l : Launch) (nb nn : Nat) (g : xG) (L : List (Nat × Nat)) (M : xM) (hD : xD g L) (hL : xEL nb nn L) (b : Int32)  : xCi l yJ6_bitCount_0f7a4 cJ6_bitCount_0f7a4 1 (some .int) 0 g L M [.int b] (fun r u => r = f_J6_bitCount_0f7a4 b M ∧ u = M) := by
  intro sz
  refine x_beg (by decide +kernel) rfl ?_
  intro p e s m args below meth c ls hsz hB
  subst hsz
  obtain ⟨hx, hb, hml, hown, hts, hr, hlk, hK, hAm, hP, hl⟩ := hB
  have S : CallFix p m c cJ6_bitCount_0f7a4 1 s args (xws yJ6_bitCount_0f7a4 cJ6_bitCount_0f7a4 1 (some .int)) RJ6 := ⟨hx, hb, hml, hown, hts⟩
  have hown : s.vm.findClass RJ6 = some m.cls := hown
  have hl : lv_has ls 1 [(0, .int b)] := hl
  have hS : va_S (xA g L s.heap.size) s.heap s.heap [] := va_S.rf
  obtain ⟨F, hF⟩ : ∃ F, F = f_J6_bitCount_0f7a4 b M := ⟨_, rfl⟩
  have hres := hF
  rw [f_J6_bitCount_0f7a4] at hres
  refine lv_iload_n hx hb dJ6_bitCount_0f7a4_0 rfl (lv_at hl 0 rfl) ?_
  refine lv_iload_n hx hb dJ6_bitCount_0f7a4_1 rfl (lv_at hl 0 rfl) ?_
  refine lv_iconst (v := 1) hx hb dJ6_bitCount_0f7a4_2 (by decide) ?_
  refine lv_iushr (v := (b.toUInt32 >>> ((1 : Int32).toUInt32 &&& Int32.toUInt32 31)).toInt32) hx hb dJ6_bitCount_0f7a4_3 rfl ?_
  refine lv_ldcw (own := RJ6) (v := 1431655765) hx hb hown (hts _ (List.mem_cons_of_mem _ wd_953)) dJ6_bitCount_0f7a4_4 ?_
  refine lv_iand hx hb dJ6_bitCount_0f7a4_7 ?_
  refine lv_isub hx hb dJ6_bitCount_0f7a4_8 ?_
  refine lv_topi (fun x0_1 ex0_1 => ?_)
  replace hres := xlet_n hres ex0_1
  refine lv_istore_n (lv' := [(0, .int x0_1)]) hx hb dJ6_bitCount_0f7a4_9 rfl hl (by decide) rfl (fun ls hl => ?_)
  refine lv_iload_n hx hb dJ6_bitCount_0f7a4_10 rfl (lv_at hl 0 rfl) ?_
  refine lv_ldcw (own := RJ6) (v := 858993459) hx hb hown (hts _ (List.mem_cons_of_mem _ wd_954)) dJ6_bitCount_0f7a4_11 ?_
  refine lv_iand hx hb dJ6_bitCount_0f7a4_14 ?_
  refine lv_iload_n hx hb dJ6_bitCount_0f7a4_15 rfl (lv_at hl 0 rfl) ?_
  refine lv_iconst (v := 2) hx hb dJ6_bitCount_0f7a4_16 (by decide) ?_
  refine lv_iushr (v := (x0_1.toUInt32 >>> ((2 : Int32).toUInt32 &&& Int32.toUInt32 31)).toInt32) hx hb dJ6_bitCount_0f7a4_17 rfl ?_
  refine lv_ldcw (own := RJ6) (v := 858993459) hx hb hown (hts _ (List.mem_cons_of_mem _ wd_954)) dJ6_bitCount_0f7a4_18 ?_
  refine lv_iand hx hb dJ6_bitCount_0f7a4_21 ?_
  refine lv_iadd hx hb dJ6_bitCount_0f7a4_22 ?_
  refine lv_topi (fun x0_2 ex0_2 => ?_)
  replace hres := xlet_n hres ex0_2
  refine lv_istore_n (lv' := [(0, .int x0_2)]) hx hb dJ6_bitCount_0f7a4_23 rfl hl (by decide) rfl (fun ls hl => ?_)
  refine lv_iload_n hx hb dJ6_bitCount_0f7a4_24 rfl (lv_at hl 0 rfl) ?_
  refine lv_iload_n hx hb dJ6_bitCount_0f7a4_25 rfl (lv_at hl 0 rfl) ?_
  refine lv_iconst (v := 4) hx hb dJ6_bitCount_0f7a4_26 (by decide) ?_
  refine lv_iushr (v := (x0_2.toUInt32 >>> ((4 : Int32).toUInt32 &&& Int32.toUInt32 31)).toInt32) hx hb dJ6_bitCount_0f7a4_27 rfl ?_
  refine lv_iadd hx hb dJ6_bitCount_0f7a4_28 ?_
  refine lv_ldcw (own := RJ6) (v := 252645135) hx hb hown (hts _ (List.mem_cons_of_mem _ wd_955)) dJ6_bitCount_0f7a4_29 ?_
  refine lv_iand hx hb dJ6_bitCount_0f7a4_32 ?_
  refine lv_topi (fun x0_3 ex0_3 => ?_)
  replace hres := xlet_n hres ex0_3
  refine lv_istore_n (lv' := [(0, .int x0_3)]) hx hb dJ6_bitCount_0f7a4_33 rfl hl (by decide) rfl (fun ls hl => ?_)
  refine lv_iload_n hx hb dJ6_bitCount_0f7a4_34 rfl (lv_at hl 0 rfl) ?_
  refine lv_iload_n hx hb dJ6_bitCount_0f7a4_35 rfl (lv_at hl 0 rfl) ?_
  refine lv_bipush (v := 8) hx hb dJ6_bitCount_0f7a4_36 (by decide) ?_
  refine lv_iushr (v := (x0_3.toUInt32 >>> ((8 : Int32).toUInt32 &&& Int32.toUInt32 31)).toInt32) hx hb dJ6_bitCount_0f7a4_38 rfl ?_
  refine lv_iadd hx hb dJ6_bitCount_0f7a4_39 ?_
  refine lv_topi (fun x0_4 ex0_4 => ?_)
  replace hres := xlet_n hres ex0_4
  refine lv_istore_n (lv' := [(0, .int x0_4)]) hx hb dJ6_bitCount_0f7a4_40 rfl hl (by decide) rfl (fun ls hl => ?_)
  refine lv_iload_n hx hb dJ6_bitCount_0f7a4_41 rfl (lv_at hl 0 rfl) ?_
  refine lv_iload_n hx hb dJ6_bitCount_0f7a4_42 rfl (lv_at hl 0 rfl) ?_
  refine lv_bipush (v := 16) hx hb dJ6_bitCount_0f7a4_43 (by decide) ?_
  refine lv_iushr (v := (x0_4.toUInt32 >>> ((16 : Int32).toUInt32 &&& Int32.toUInt32 31)).toInt32) hx hb dJ6_bitCount_0f7a4_45 rfl ?_
  refine lv_iadd hx hb dJ6_bitCount_0f7a4_46 ?_
  refine lv_topi (fun x0_5 ex0_5 => ?_)
  replace hres := xlet_n hres ex0_5
  refine lv_istore_n (lv' := [(0, .int x0_5)]) hx hb dJ6_bitCount_0f7a4_47 rfl hl (by decide) rfl (fun ls hl => ?_)
  refine lv_iload_n hx hb dJ6_bitCount_0f7a4_48 rfl (lv_at hl 0 rfl) ?_
  refine lv_bipush (v := 63) hx hb dJ6_bitCount_0f7a4_49 (by decide) ?_
  refine lv_iand hx hb dJ6_bitCount_0f7a4_51 ?_
  exact x_reti hx hb hr hlk hP hS ⟨hres.symm.trans hF, rfl⟩ dJ6_bitCount_0f7a4_52
set_option maxHeartbeats 4000000 in
set_option maxRecDepth 100000 in
theorem c_X4_bearer (l : Launch) (nb nn : Nat) (g : xG) (L : List (Nat × Nat)) (M : xM) (hD : xD g L) (hL : xEL nb nn L) (i0 : Nat) (thisWeek : Int32) (weeks : Int32) (hi0 : i0 < nn) (hp0 : M 29 i0 6 ≤ 12) : xCi l yX4_bearer cX4_bearer 5 (some .int) 1 g L M [.ref (xad g 29 i0), .int thisWeek, .int weeks] (fun r u => r = f_X4_bearer i0 thisWeek weeks M ∧ u = M) := by
  intro sz
  refine x_beg (by decide +kernel) rfl ?_
  intro p e s m args below meth c ls hsz hB
  subst hsz
  obtain ⟨hx, hb, hml, hown, hts, hr, hlk, hK, hAm, hP, hl⟩ := hB
  have S : CallFix p m c cX4_bearer 5 s args (xws yX4_bearer cX4_bearer 5 (some .int)) RX4 := ⟨hx, hb, hml, hown, hts⟩
  have hown : s.vm.findClass RX4 = some m.cls := hown
  have hl : lv_has ls 5 [(0, .ref (xad g 29 i0)), (1, .int thisWeek), (2, .int weeks)] := hl
  have hS : va_S (xA g L s.heap.size) s.heap s.heap [] := va_S.rf
  obtain ⟨F, hF⟩ : ∃ F, F = f_X4_bearer i0 thisWeek weeks M := ⟨_, rfl⟩
  have k_10 : ∀ (n : Nat) (at_ : Int32) (hand : Int32) (H : Heap) (locs : List Loc) (ls : Array Slot) (kx : (Int32 → Int32 → Int32)), xmu 0 hand < n → True → F = f_X4_bearer_L10 i0 thisWeek weeks M n at_ hand kx → xP g L M H → va_S (xA g L s.heap.size) s.heap H locs → lv_has ls 5 [(0, .ref (xad g 29 i0)), (1, .int thisWeek), (2, .int weeks), (3, .int at_), (4, .int hand)] → (∀ (at_ : Int32) (hand : Int32) (H : Heap) (locs : List Loc) (ls : Array Slot), True → F = kx at_ hand → xP g L M H → va_S (xA g L s.heap.size) s.heap H locs → lv_has ls 5 [(0, .ref (xad g 29 i0)), (1, .int thisWeek), (2, .int weeks), (3, .int at_), (4, .int hand)] → W p l e (xr 1) s m args below meth c H locs 0 0 (MQ below (va_Qi (fun r u => r = f_X4_bearer i0 thisWeek weeks M ∧ u = M) (xPost g L) (xA g L s.heap.size)) args s 0 0 (xA g L s.heap.size)) (F0 m 41 ls [])) → W p l e (xr 1) s m args below meth c H locs 0 0 (MQ below (va_Qi (fun r u => r = f_X4_bearer i0 thisWeek weeks M ∧ u = M) (xPost g L) (xA g L s.heap.size)) args s 0 0 (xA g L s.heap.size)) (F0 m 10 ls []) := by
    intro n
    induction n with
    | zero => intro at_ hand H locs ls kx hmu; exact absurd hmu (Nat.not_lt_zero _)
    | succ n ih =>
      intro at_ hand H locs ls kx hmu hinv hres hP hS hl hex
      replace hres : F = _ := hres.trans (by rw [f_X4_bearer_L10])
      refine lv_iload hx hb dX4_bearer_10 (lv_at hl 4 rfl) ?_
      refine lv_if_le (tgt := 41) hx hb dX4_bearer_12 (by decide) (fun c_1 => ?_) (fun c_1 => ?_)
      · replace hres := hres.trans (if_pos c_1)
        exact hex at_ hand _ _ _ trivial hres hP hS (lv_sub hl [0, 1, 2, 3, 4] rfl)
      · replace hres := hres.trans (if_neg c_1)
        refine lv_iload_n hx hb dX4_bearer_15 rfl (lv_at hl 1 rfl) ?_
        refine lv_aload_n hx hb dX4_bearer_16 rfl (lv_at hl 0 rfl) ?_
        refine lv_iload hx hb dX4_bearer_17 (lv_at hl 4 rfl) ?_
        refine x_callVi (As := [.int hand]) S hK hAm hD hP hS mt_X4_handWeek wd_853 ⟨by decide, by decide⟩ (hL 29 i0 hi0) (xc29 g i0) rfl (c_X4_handWeek l nb nn g L M hD hL i0 hand hi0 (ob_X4_bearer_19_p0 nb nn i0 thisWeek weeks M hi0 hp0 n at_ hand hmu hinv c_1)) rfl hl.1 (Nat.le_of_ble_eq_true rfl) ⟨Nat.zero_le _, Nat.zero_le _⟩ dX4_bearer_19 rfl (fun r_2 u H locs hp_ hP hS => ?_)
        obtain ⟨er_2, eu_⟩ := hp_
        rw [eu_] at hP
        clear eu_
        replace hres := xlet_n hres er_2
        refine lv_isub hx hb dX4_bearer_22 ?_
        refine lv_iload_n hx hb dX4_bearer_23 rfl (lv_at hl 2 rfl) ?_
        refine lv_icmp_le (tgt := 30) hx hb dX4_bearer_24 (by decide) (fun c_3 => ?_) (fun c_3 => ?_)
        · replace hres := hres.trans (if_pos c_3)
          refine lv_iload hx hb dX4_bearer_30 (lv_at hl 4 rfl) ?_
          refine lv_iconst (v := 1) hx hb dX4_bearer_32 (by decide) ?_
          refine lv_isub hx hb dX4_bearer_33 ?_
          refine lv_topi (fun x3_4 ex3_4 => ?_)
          replace hres := xlet_n hres ex3_4
          refine lv_istore_n (lv' := [(3, .int x3_4), (0, .ref (xad g 29 i0)), (1, .int thisWeek), (2, .int weeks), (4, .int hand)]) hx hb dX4_bearer_34 rfl hl (by decide) rfl (fun ls hl => ?_)
          obtain ⟨x4_5, ex4_5⟩ : ∃ z_ : Int32, z_ = hand + (-1) := ⟨_, rfl⟩
          replace hres := xlet_n hres ex4_5
          refine lv_iinc (v := x4_5) (lv' := [(4, .int x4_5), (3, .int x3_4), (0, .ref (xad g 29 i0)), (1, .int thisWeek), (2, .int weeks)]) hx hb dX4_bearer_35 hl (k := 4) rfl (by rw [ex4_5]; rfl) (by decide) rfl (fun ls hl => ?_)
          refine lv_goto (tgt := 10) hx hb dX4_bearer_38 (by decide) ?_
          exact ih x3_4 x4_5 _ _ _ kx (ob_X4_bearer_10_mu_5 nb nn i0 thisWeek weeks M hi0 hp0 n at_ hand hmu hinv c_1 r_2 er_2 c_3 x3_4 ex3_4 x4_5 ex4_5) trivial hres hP hS (lv_sub hl [2, 3, 4, 1, 0] rfl) hex
        · replace hres := hres.trans (if_neg c_3)
          refine lv_goto (tgt := 41) hx hb dX4_bearer_27 (by decide) ?_
          exact hex at_ hand _ _ _ trivial hres hP hS (lv_sub hl [0, 1, 2, 3, 4] rfl)
  have hres := hF
  rw [f_X4_bearer] at hres
  refine lv_aload_n hx hb dX4_bearer_0 rfl (lv_at hl 0 rfl) ?_
  refine gf_RX4_15 hx hb hts hown hK hP (hL 29 i0 hi0) dX4_bearer_1 ?_
  refine lv_iconst (v := 1) hx hb dX4_bearer_4 (by decide) ?_
  refine lv_isub hx hb dX4_bearer_5 ?_
  refine lv_topi (fun x3_6 ex3_6 => ?_)
  replace hres := xlet_n hres ex3_6
  refine lv_istore_n (lv' := [(3, .int x3_6), (0, .ref (xad g 29 i0)), (1, .int thisWeek), (2, .int weeks)]) hx hb dX4_bearer_6 rfl hl (by decide) rfl (fun ls hl => ?_)
  refine lv_iload_n hx hb dX4_bearer_7 rfl (lv_at hl 0 rfl) ?_
  refine lv_istore (lv' := [(4, .int x3_6), (3, .int x3_6), (0, .ref (xad g 29 i0)), (1, .int thisWeek), (2, .int weeks)]) hx hb dX4_bearer_8 hl (by decide) rfl (fun ls hl => ?_)
  refine k_10 (xmu 0 x3_6 + 1) x3_6 x3_6 _ _ _ _ (Nat.lt_succ_self _) trivial hres hP hS (lv_sub hl [2, 3, 4, 1, 0] rfl) ?_
  clear hres hP hS hl
  intro at__7 hand_8 H locs ls hiv_8 hres hP hS hl
  refine lv_aload_n hx hb dX4_bearer_41 rfl (lv_at hl 0 rfl) ?_
  refine lv_iload_n hx hb dX4_bearer_42 rfl (lv_at hl 3 rfl) ?_
  refine x_callVi (As := [.int at__7]) S hK hAm hD hP hS mt_X4_handTrader wd_854 ⟨by decide, by decide⟩ (hL 29 i0 hi0) (xc29 g i0) rfl (c_X4_handTrader l nb nn g L M hD hL i0 at__7 hi0 (ob_X4_bearer_43_p0 nb nn i0 thisWeek weeks M hi0 hp0 x3_6 ex3_6 at__7 hand_8 hiv_8)) rfl hl.1 (Nat.le_of_ble_eq_true rfl) ⟨Nat.zero_le _, Nat.zero_le _⟩ dX4_bearer_43 rfl (fun r_9 u H locs hp_ hP hS => ?_)
  obtain ⟨er_9, eu_⟩ := hp_
  rw [eu_] at hP
  clear eu_
  replace hres := xlet_n hres er_9
  exact x_reti hx hb hr hlk hP hS ⟨hres.symm.trans hF, rfl⟩ dX4_bearer_46
set_option maxHeartbeats 4000000 in
set_option maxRecDepth 100000 in
theorem c_X4_moveHalf (l : Launch) (nb nn : Nat) (g : xG) (L : List (Nat × Nat)) (M : xM) (hD : xD g L) (hL : xEL nb nn L) (i0 : Nat) (half : Int32) (to : Int32) (week : Int32) (hi0 : i0 < nn) (hp0 : M 29 i0 6 ≤ 12) : xCv l yX4_moveHalf cX4_moveHalf 4 1 g L M [.ref (xad g 29 i0), .int half, .int to, .int week] (fun u => u = f_X4_moveHalf i0 half to week M) := by
  intro sz
  refine x_beg (by decide +kernel) rfl ?_
  intro p e s m args below meth c ls hsz hB
  subst hsz
  obtain ⟨hx, hb, hml, hown, hts, hr, hlk, hK, hAm, hP, hl⟩ := hB
  have S : CallFix p m c cX4_moveHalf 4 s args (xws yX4_moveHalf cX4_moveHalf 4 none) RX4 := ⟨hx, hb, hml, hown, hts⟩
  have hown : s.vm.findClass RX4 = some m.cls := hown
  have hl : lv_has ls 4 [(0, .ref (xad g 29 i0)), (1, .int half), (2, .int to), (3, .int week)] := hl
  have hS : va_S (xA g L s.heap.size) s.heap s.heap [] := va_S.rf
  obtain ⟨F, hF⟩ : ∃ F, F = f_X4_moveHalf i0 half to week M := ⟨_, rfl⟩
  have hres := hF
  rw [f_X4_moveHalf] at hres
  refine lv_iload_n hx hb dX4_moveHalf_0 rfl (lv_at hl 1 rfl) ?_
  refine lv_if_ne (tgt := 12) hx hb dX4_moveHalf_1 (by decide) (fun c_1 => ?_) (fun c_1 => ?_)
  · replace hres := hres.trans (if_neg c_1)
    refine lv_aload_n hx hb dX4_moveHalf_12 rfl (lv_at hl 0 rfl) ?_
    refine lv_iload_n hx hb dX4_moveHalf_13 rfl (lv_at hl 2 rfl) ?_
    refine pf_RX4_29 hx hb hts hown hK hP hD hS (hL 29 i0 hi0) dX4_moveHalf_14 (fun H locs hP hS => ?_)
    obtain ⟨M_2, eM_2⟩ : ∃ z_ : xM, z_ = xup M 29 i0 10 to := ⟨_, rfl⟩
    rw [← eM_2] at hP
    replace hres := xlet_n hres eM_2
    refine lv_aload_n hx hb dX4_moveHalf_17 rfl (lv_at hl 0 rfl) ?_
    refine gf_RX4_26 hx hb hts hown hK hP (hL 29 i0 hi0) dX4_moveHalf_18 ?_
    refine lv_aload_n hx hb dX4_moveHalf_21 rfl (lv_at hl 0 rfl) ?_
    refine gf_RX4_29 hx hb hts hown hK hP (hL 29 i0 hi0) dX4_moveHalf_22 ?_
    refine lv_icmp_eq (tgt := 29) hx hb dX4_moveHalf_25 (by decide) (fun c_3 => ?_) (fun c_3 => ?_)
    · replace hres := hres.trans (if_pos c_3)
      refine lv_iload_n hx hb dX4_moveHalf_29 rfl (lv_at hl 2 rfl) ?_
      refine lv_ldc (own := RX4) (v := (-1000000)) hx hb hown (hts _ (List.mem_cons_of_mem _ wd_688)) dX4_moveHalf_30 ?_
      refine lv_icmp_ne (tgt := 43) hx hb dX4_moveHalf_32 (by decide) (fun c_4 => ?_) (fun c_4 => ?_)
      · replace hres := hres.trans (if_neg c_4)
        refine lv_aload_n hx hb dX4_moveHalf_43 rfl (lv_at hl 0 rfl) ?_
        refine lv_aload_n hx hb dX4_moveHalf_44 rfl (lv_at hl 0 rfl) ?_
        refine gf_RX4_15 hx hb hts hown hK hP (hL 29 i0 hi0) dX4_moveHalf_45 ?_
        refine lv_iconst (v := 1) hx hb dX4_moveHalf_48 (by decide) ?_
        refine lv_isub hx hb dX4_moveHalf_49 ?_
        refine x_callVi (As := [.int ((M_2 29 i0 6) - 1)]) S hK hAm hD hP hS mt_X4_handTrader wd_854 ⟨by decide, by decide⟩ (hL 29 i0 hi0) (xc29 g i0) rfl (c_X4_handTrader l nb nn g L M_2 hD hL i0 ((M_2 29 i0 6) - 1) hi0 (ob_X4_moveHalf_50_p0 nb nn i0 half to week M hi0 hp0 c_1 M_2 eM_2 c_3 c_4)) rfl hl.1 (Nat.le_of_ble_eq_true rfl) ⟨Nat.zero_le _, Nat.zero_le _⟩ dX4_moveHalf_50 rfl (fun r_5 u H locs hp_ hP hS => ?_)
        obtain ⟨er_5, eu_⟩ := hp_
        rw [eu_] at hP
        clear eu_
        replace hres := xlet_n hres er_5
        refine lv_iload_n hx hb dX4_moveHalf_53 rfl (lv_at hl 2 rfl) ?_
        refine lv_icmp_ne (tgt := 70) hx hb dX4_moveHalf_54 (by decide) (fun c_6 => ?_) (fun c_6 => ?_)
        · replace hres := hres.trans (if_neg c_6)
          refine lv_aload_n hx hb dX4_moveHalf_70 rfl (lv_at hl 0 rfl) ?_
          refine lv_iload_n hx hb dX4_moveHalf_71 rfl (lv_at hl 2 rfl) ?_
          refine lv_iload_n hx hb dX4_moveHalf_72 rfl (lv_at hl 3 rfl) ?_
          refine x_callVv (As := [.int to, .int week]) S hK hAm hD hP hS mt_X4_handOn wd_897 ⟨by decide, by decide⟩ (hL 29 i0 hi0) (xc29 g i0) rfl (c_X4_handOn l nb nn g L M_2 hD hL i0 to week hi0) rfl hl.1 (Nat.le_of_ble_eq_true rfl) ⟨Nat.zero_le _, Nat.zero_le _⟩ dX4_moveHalf_73 rfl (fun M_8 H locs eM_8 hP hS => ?_)
          replace hres := xlet_n hres eM_8
          exact x_retv hx hb hr hlk hP hS (hres.symm.trans hF) dX4_moveHalf_76
        · replace hres := hres.trans (if_pos c_6)
          refine lv_aload_n hx hb dX4_moveHalf_57 rfl (lv_at hl 0 rfl) ?_
          refine lv_iconst (v := 0) hx hb dX4_moveHalf_58 (by decide) ?_
          refine pf_RX4_11 hx hb hts hown hK hP hD hS (hL 29 i0 hi0) dX4_moveHalf_59 (fun H locs hP hS => ?_)
          obtain ⟨M_9, eM_9⟩ : ∃ z_ : xM, z_ = xup M_2 29 i0 5 0 := ⟨_, rfl⟩
          rw [← eM_9] at hP
          replace hres := xlet_n hres eM_9
          refine lv_aload_n hx hb dX4_moveHalf_62 rfl (lv_at hl 0 rfl) ?_
          refine lv_iload_n hx hb dX4_moveHalf_63 rfl (lv_at hl 2 rfl) ?_
          refine pf_RX4_23 hx hb hts hown hK hP hD hS (hL 29 i0 hi0) dX4_moveHalf_64 (fun H locs hP hS => ?_)
          obtain ⟨M_10, eM_10⟩ : ∃ z_ : xM, z_ = xup M_9 29 i0 8 to := ⟨_, rfl⟩
          rw [← eM_10] at hP
          replace hres := xlet_n hres eM_10
          refine lv_goto (tgt := 76) hx hb dX4_moveHalf_67 (by decide) ?_
          exact x_retv hx hb hr hlk hP hS (hres.symm.trans hF) dX4_moveHalf_76
      · replace hres := hres.trans (if_pos c_4)
        refine lv_aload_n hx hb dX4_moveHalf_35 rfl (lv_at hl 0 rfl) ?_
        refine lv_iconst (v := 2) hx hb dX4_moveHalf_36 (by decide) ?_
        refine pf_RX4_11 hx hb hts hown hK hP hD hS (hL 29 i0 hi0) dX4_moveHalf_37 (fun H locs hP hS => ?_)
        obtain ⟨M_11, eM_11⟩ : ∃ z_ : xM, z_ = xup M_2 29 i0 5 2 := ⟨_, rfl⟩
        rw [← eM_11] at hP
        replace hres := xlet_n hres eM_11
        refine lv_goto (tgt := 76) hx hb dX4_moveHalf_40 (by decide) ?_
        exact x_retv hx hb hr hlk hP hS (hres.symm.trans hF) dX4_moveHalf_76
    · replace hres := hres.trans (if_neg c_3)
      exact x_retv hx hb hr hlk hP hS (hres.symm.trans hF) dX4_moveHalf_28
  · replace hres := hres.trans (if_pos c_1)
    refine lv_aload_n hx hb dX4_moveHalf_4 rfl (lv_at hl 0 rfl) ?_
    refine lv_iload_n hx hb dX4_moveHalf_5 rfl (lv_at hl 2 rfl) ?_
    refine pf_RX4_26 hx hb hts hown hK hP hD hS (hL 29 i0 hi0) dX4_moveHalf_6 (fun H locs hP hS => ?_)
    obtain ⟨M_12, eM_12⟩ : ∃ z_ : xM, z_ = xup M 29 i0 9 to := ⟨_, rfl⟩
    rw [← eM_12] at hP
    replace hres := xlet_n hres eM_12
    refine lv_goto (tgt := 17) hx hb dX4_moveHalf_9 (by decide) ?_
    refine lv_aload_n hx hb dX4_moveHalf_17 rfl (lv_at hl 0 rfl) ?_
    refine gf_RX4_26 hx hb hts hown hK hP (hL 29 i0 hi0) dX4_moveHalf_18 ?_
    refine lv_aload_n hx hb dX4_moveHalf_21 rfl (lv_at hl 0 rfl) ?_
    refine gf_RX4_29 hx hb hts hown hK hP (hL 29 i0 hi0) dX4_moveHalf_22 ?_
    refine lv_icmp_eq (tgt := 29) hx hb dX4_moveHalf_25 (by decide) (fun c_13 => ?_) (fun c_13 => ?_)
    · replace hres := hres.trans (if_pos c_13)
      refine lv_iload_n hx hb dX4_moveHalf_29 rfl (lv_at hl 2 rfl) ?_
      refine lv_ldc (own := RX4) (v := (-1000000)) hx hb hown (hts _ (List.mem_cons_of_mem _ wd_688)) dX4_moveHalf_30 ?_
      refine lv_icmp_ne (tgt := 43) hx hb dX4_moveHalf_32 (by decide) (fun c_14 => ?_) (fun c_14 => ?_)
      · replace hres := hres.trans (if_neg c_14)
        refine lv_aload_n hx hb dX4_moveHalf_43 rfl (lv_at hl 0 rfl) ?_
        refine lv_aload_n hx hb dX4_moveHalf_44 rfl (lv_at hl 0 rfl) ?_
        refine gf_RX4_15 hx hb hts hown hK hP (hL 29 i0 hi0) dX4_moveHalf_45 ?_
        refine lv_iconst (v := 1) hx hb dX4_moveHalf_48 (by decide) ?_
        refine lv_isub hx hb dX4_moveHalf_49 ?_
        refine x_callVi (As := [.int ((M_12 29 i0 6) - 1)]) S hK hAm hD hP hS mt_X4_handTrader wd_854 ⟨by decide, by decide⟩ (hL 29 i0 hi0) (xc29 g i0) rfl (c_X4_handTrader l nb nn g L M_12 hD hL i0 ((M_12 29 i0 6) - 1) hi0 (ob_X4_moveHalf_50_p0_2 nb nn i0 half to week M hi0 hp0 c_1 M_12 eM_12 c_13 c_14)) rfl hl.1 (Nat.le_of_ble_eq_true rfl) ⟨Nat.zero_le _, Nat.zero_le _⟩ dX4_moveHalf_50 rfl (fun r_15 u H locs hp_ hP hS => ?_)
        obtain ⟨er_15, eu_⟩ := hp_
        rw [eu_] at hP
        clear eu_
        replace hres := xlet_n hres er_15
        refine lv_iload_n hx hb dX4_moveHalf_53 rfl (lv_at hl 2 rfl) ?_
        refine lv_icmp_ne (tgt := 70) hx hb dX4_moveHalf_54 (by decide) (fun c_16 => ?_) (fun c_16 => ?_)
        · replace hres := hres.trans (if_neg c_16)
          refine lv_aload_n hx hb dX4_moveHalf_70 rfl (lv_at hl 0 rfl) ?_
          refine lv_iload_n hx hb dX4_moveHalf_71 rfl (lv_at hl 2 rfl) ?_
          refine lv_iload_n hx hb dX4_moveHalf_72 rfl (lv_at hl 3 rfl) ?_
          refine x_callVv (As := [.int to, .int week]) S hK hAm hD hP hS mt_X4_handOn wd_897 ⟨by decide, by decide⟩ (hL 29 i0 hi0) (xc29 g i0) rfl (c_X4_handOn l nb nn g L M_12 hD hL i0 to week hi0) rfl hl.1 (Nat.le_of_ble_eq_true rfl) ⟨Nat.zero_le _, Nat.zero_le _⟩ dX4_moveHalf_73 rfl (fun M_18 H locs eM_18 hP hS => ?_)
          replace hres := xlet_n hres eM_18
          exact x_retv hx hb hr hlk hP hS (hres.symm.trans hF) dX4_moveHalf_76
        · replace hres := hres.trans (if_pos c_16)
          refine lv_aload_n hx hb dX4_moveHalf_57 rfl (lv_at hl 0 rfl) ?_
          refine lv_iconst (v := 0) hx hb dX4_moveHalf_58 (by decide) ?_
          refine pf_RX4_11 hx hb hts hown hK hP hD hS (hL 29 i0 hi0) dX4_moveHalf_59 (fun H locs hP hS => ?_)
          obtain ⟨M_19, eM_19⟩ : ∃ z_ : xM, z_ = xup M_12 29 i0 5 0 := ⟨_, rfl⟩
          rw [← eM_19] at hP
          replace hres := xlet_n hres eM_19
          refine lv_aload_n hx hb dX4_moveHalf_62 rfl (lv_at hl 0 rfl) ?_
          refine lv_iload_n hx hb dX4_moveHalf_63 rfl (lv_at hl 2 rfl) ?_
          refine pf_RX4_23 hx hb hts hown hK hP hD hS (hL 29 i0 hi0) dX4_moveHalf_64 (fun H locs hP hS => ?_)
          obtain ⟨M_20, eM_20⟩ : ∃ z_ : xM, z_ = xup M_19 29 i0 8 to := ⟨_, rfl⟩
          rw [← eM_20] at hP
          replace hres := xlet_n hres eM_20
          refine lv_goto (tgt := 76) hx hb dX4_moveHalf_67 (by decide) ?_
          exact x_retv hx hb hr hlk hP hS (hres.symm.trans hF) dX4_moveHalf_76
      · replace hres := hres.trans (if_pos c_14)
        refine lv_aload_n hx hb dX4_moveHalf_35 rfl (lv_at hl 0 rfl) ?_
        refine lv_iconst (v := 2) hx hb dX4_moveHalf_36 (by decide) ?_
        refine pf_RX4_11 hx hb hts hown hK hP hD hS (hL 29 i0 hi0) dX4_moveHalf_37 (fun H locs hP hS => ?_)
        obtain ⟨M_21, eM_21⟩ : ∃ z_ : xM, z_ = xup M_12 29 i0 5 2 := ⟨_, rfl⟩
        rw [← eM_21] at hP
        replace hres := xlet_n hres eM_21
        refine lv_goto (tgt := 76) hx hb dX4_moveHalf_40 (by decide) ?_
        exact x_retv hx hb hr hlk hP hS (hres.symm.trans hF) dX4_moveHalf_76
    · replace hres := hres.trans (if_neg c_13)
      exact x_retv hx hb hr hlk hP hS (hres.symm.trans hF) dX4_moveHalf_28
set_option maxHeartbeats 4000000 in
set_option maxRecDepth 100000 in
theorem c_X6_begin (l : Launch) (nb nn : Nat) (g : xG) (L : List (Nat × Nat)) (M : xM) (hD : xD g L) (hL : xEL nb nn L) (i0 : Nat) (newLane : Int32) (z : Int32) (hi0 : i0 < 8) : xCv l yX6_begin cX6_begin 4 1 g L M [.ref (xad g 24 i0), .int newLane, .int z] (fun u => u = f_X6_begin i0 newLane z M) := by
  intro sz
  refine x_beg (by decide +kernel) rfl ?_
  intro p e s m args below meth c ls hsz hB
  subst hsz
  obtain ⟨hx, hb, hml, hown, hts, hr, hlk, hK, hAm, hP, hl⟩ := hB
  have S : CallFix p m c cX6_begin 4 s args (xws yX6_begin cX6_begin 4 none) RX6 := ⟨hx, hb, hml, hown, hts⟩
  have hown : s.vm.findClass RX6 = some m.cls := hown
  have hl : lv_has ls 4 [(0, .ref (xad g 24 i0)), (1, .int newLane), (2, .int z)] := hl
  have hS : va_S (xA g L s.heap.size) s.heap s.heap [] := va_S.rf
  obtain ⟨F, hF⟩ : ∃ F, F = f_X6_begin i0 newLane z M := ⟨_, rfl⟩
  have k_17 : ∀ (n : Nat) (i : Int32) (N_ : xM) (H : Heap) (locs : List Loc) (ls : Array Slot) (kx : (Int32 → xM → xM)), xmu i (N_ 24 i0 2) < n → 0 ≤ i ∧ N_ 24 i0 2 ≤ 60 → F = f_X6_begin_L17 i0 newLane z n i N_ kx → xP g L N_ H → va_S (xA g L s.heap.size) s.heap H locs → lv_has ls 4 [(0, .ref (xad g 24 i0)), (1, .int newLane), (2, .int z), (3, .int i)] → (∀ (i : Int32) (N_ : xM) (H : Heap) (locs : List Loc) (ls : Array Slot), 0 ≤ i ∧ N_ 24 i0 2 ≤ 60 → F = kx i N_ → xP g L N_ H → va_S (xA g L s.heap.size) s.heap H locs → lv_has ls 4 [(0, .ref (xad g 24 i0)), (1, .int newLane), (2, .int z), (3, .int i)] → W p l e (xr 1) s m args below meth c H locs 0 0 (MQ below (va_Qv (fun u => u = f_X6_begin i0 newLane z M) (xPost g L) (xA g L s.heap.size)) args s 0 0 (xA g L s.heap.size)) (F0 m 38 ls [])) → W p l e (xr 1) s m args below meth c H locs 0 0 (MQ below (va_Qv (fun u => u = f_X6_begin i0 newLane z M) (xPost g L) (xA g L s.heap.size)) args s 0 0 (xA g L s.heap.size)) (F0 m 17 ls []) := by
    intro n
    induction n with
    | zero => intro i N_ H locs ls kx hmu; exact absurd hmu (Nat.not_lt_zero _)
    | succ n ih =>
      intro i N_ H locs ls kx hmu hinv hres hP hS hl hex
      replace hres : F = _ := hres.trans (by rw [f_X6_begin_L17])
      refine lv_iload_n hx hb dX6_begin_17 rfl (lv_at hl 3 rfl) ?_
      refine lv_aload_n hx hb dX6_begin_18 rfl (lv_at hl 0 rfl) ?_
      refine gf_RX6_17 hx hb hts hown hK hP (hL 24 i0 hi0) dX6_begin_19 ?_
      refine lv_icmp_ge (tgt := 38) hx hb dX6_begin_22 (by decide) (fun c_1 => ?_) (fun c_1 => ?_)
      · replace hres := hres.trans (if_pos c_1)
        exact hex i N_ _ _ _ (ob_X6_begin_38_x17 nb nn i0 newLane z M hi0 n i N_ hmu hinv c_1) hres hP hS (lv_sub hl [0, 1, 2, 3] rfl)
      · replace hres := hres.trans (if_neg c_1)
        refine lv_aload_n hx hb dX6_begin_25 rfl (lv_at hl 0 rfl) ?_
        refine gf_RX6_9 hx hb hts hown hK hP (hL 24 i0 hi0) dX6_begin_26 ?_
        refine lv_iload_n hx hb dX6_begin_29 rfl (lv_at hl 3 rfl) ?_
        refine lv_iconst (v := 0) hx hb dX6_begin_30 (by decide) ?_
        refine x_iast hx hb hK hP hD hS (hL 25 i0 hi0) (xc25 g i0) (ob_X6_begin_31_in nb nn i0 newLane z M hi0 n i N_ hmu hinv c_1) dX6_begin_31 (fun H locs hP hS => ?_)
        obtain ⟨M_2, eM_2⟩ : ∃ z_ : xM, z_ = xup N_ 25 i0 i.toNatClampNeg 0 := ⟨_, rfl⟩
        rw [← eM_2] at hP
        replace hres := xlet_n hres eM_2
        obtain ⟨x3_3, ex3_3⟩ : ∃ z_ : Int32, z_ = i + 1 := ⟨_, rfl⟩
        replace hres := xlet_n hres ex3_3
        refine lv_iinc (v := x3_3) (lv' := [(3, .int x3_3), (0, .ref (xad g 24 i0)), (1, .int newLane), (2, .int z)]) hx hb dX6_begin_32 hl (k := 3) rfl (by rw [ex3_3]; rfl) (by decide) rfl (fun ls hl => ?_)
        refine lv_goto (tgt := 17) hx hb dX6_begin_35 (by decide) ?_
        exact ih x3_3 M_2 _ _ _ kx (ob_X6_begin_17_mu_3 nb nn i0 newLane z M hi0 n i N_ hmu hinv c_1 M_2 eM_2 x3_3 ex3_3) (ob_X6_begin_17_inv_3 nb nn i0 newLane z M hi0 n i N_ hmu hinv c_1 M_2 eM_2 x3_3 ex3_3) hres hP hS (lv_sub hl [1, 2, 3, 0] rfl) hex
  have hres := hF
  rw [f_X6_begin] at hres
  refine lv_aload_n hx hb dX6_begin_0 rfl (lv_at hl 0 rfl) ?_
  refine lv_iload_n hx hb dX6_begin_1 rfl (lv_at hl 1 rfl) ?_
  refine pf_RX6_13 hx hb hts hown hK hP hD hS (hL 24 i0 hi0) dX6_begin_2 (fun H locs hP hS => ?_)
  obtain ⟨M_4, eM_4⟩ : ∃ z_ : xM, z_ = xup M 24 i0 1 newLane := ⟨_, rfl⟩
  rw [← eM_4] at hP
  replace hres := xlet_n hres eM_4
  refine lv_aload_n hx hb dX6_begin_5 rfl (lv_at hl 0 rfl) ?_
  refine lv_iload_n hx hb dX6_begin_6 rfl (lv_at hl 2 rfl) ?_
  refine lv_bipush (v := 60) hx hb dX6_begin_7 (by decide) ?_
  refine x_math hx hb hml hl.1 hts hown wd_191 wd_69 wd_70 wd_71 (by decide) (Nat.le_of_ble_eq_true rfl) ⟨Nat.zero_le _, Nat.zero_le _⟩ dX6_begin_9 ?_
  refine lv_topi (fun v_5 ev_5 => ?_)
  replace hres := xlet_n hres ev_5
  refine pf_RX6_17 hx hb hts hown hK hP hD hS (hL 24 i0 hi0) dX6_begin_12 (fun H locs hP hS => ?_)
  obtain ⟨M_6, eM_6⟩ : ∃ z_ : xM, z_ = xup M_4 24 i0 2 v_5 := ⟨_, rfl⟩
  rw [← eM_6] at hP
  replace hres := xlet_n hres eM_6
  refine lv_iconst (v := 0) hx hb dX6_begin_15 (by decide) ?_
  refine lv_istore_n (lv' := [(3, .int 0), (0, .ref (xad g 24 i0)), (1, .int newLane), (2, .int z)]) hx hb dX6_begin_16 rfl hl (by decide) rfl (fun ls hl => ?_)
  refine k_17 (xmu (0 : Int32) (M_6 24 i0 2) + 1) (0 : Int32) M_6 _ _ _ _ (Nat.lt_succ_self _) (ob_X6_begin_17_ini_6 nb nn i0 newLane z M hi0 M_4 eM_4 v_5 ev_5 M_6 eM_6) hres hP hS (lv_sub hl [1, 2, 3, 0] rfl) ?_
  clear hres hP hS hl
  intro i_7 M_8 H locs ls hiv_8 hres hP hS hl
  exact x_retv hx hb hr hlk hP hS (hres.symm.trans hF) dX6_begin_38
set_option maxHeartbeats 4000000 in
set_option maxRecDepth 100000 in
theorem c_X6_put (l : Launch) (nb nn : Nat) (g : xG) (L : List (Nat × Nat)) (M : xM) (hD : xD g L) (hL : xEL nb nn L) (i0 : Nat) (i : Int32) (v : Int32) (hi0 : i0 < 8) (hp0 : 0 ≤ M 24 i0 2) (hp1 : M 24 i0 2 ≤ 60) : xCi l yX6_put cX6_put 4 (some .int) 1 g L M [.ref (xad g 24 i0), .int i, .int v] (fun r u => (r, u) = f_X6_put i0 i v M) := by
  intro sz
  refine x_beg (by decide +kernel) rfl ?_
  intro p e s m args below meth c ls hsz hB
  subst hsz
  obtain ⟨hx, hb, hml, hown, hts, hr, hlk, hK, hAm, hP, hl⟩ := hB
  have S : CallFix p m c cX6_put 4 s args (xws yX6_put cX6_put 4 (some .int)) RX6 := ⟨hx, hb, hml, hown, hts⟩
  have hown : s.vm.findClass RX6 = some m.cls := hown
  have hl : lv_has ls 4 [(0, .ref (xad g 24 i0)), (1, .int i), (2, .int v)] := hl
  have hS : va_S (xA g L s.heap.size) s.heap s.heap [] := va_S.rf
  obtain ⟨F, hF⟩ : ∃ F, F = f_X6_put i0 i v M := ⟨_, rfl⟩
  have hres := hF
  rw [f_X6_put] at hres
  refine lv_aload_n hx hb dX6_put_0 rfl (lv_at hl 0 rfl) ?_
  refine gf_RX6_13 hx hb hts hown hK hP (hL 24 i0 hi0) dX6_put_1 ?_
  refine lv_if_ne (tgt := 12) hx hb dX6_put_4 (by decide) (fun c_1 => ?_) (fun c_1 => ?_)
  · replace hres := hres.trans (if_neg c_1)
    refine lv_aload_n hx hb dX6_put_12 rfl (lv_at hl 0 rfl) ?_
    refine gf_RX6_13 hx hb hts hown hK hP (hL 24 i0 hi0) dX6_put_13 ?_
    refine lv_iconst (v := 1) hx hb dX6_put_16 (by decide) ?_
    refine lv_icmp_ne (tgt := 25) hx hb dX6_put_17 (by decide) (fun c_2 => ?_) (fun c_2 => ?_)
    · replace hres := hres.trans (if_neg c_2)
      refine lv_iload_n hx hb dX6_put_25 rfl (lv_at hl 2 rfl) ?_
      refine lv_istore_n (lv' := [(3, .int v), (0, .ref (xad g 24 i0)), (1, .int i), (2, .int v)]) hx hb dX6_put_26 rfl hl (by decide) rfl (fun ls hl => ?_)
      refine lv_aload_n hx hb dX6_put_27 rfl (lv_at hl 1 rfl) ?_
      refine lv_iload_n hx hb dX6_put_28 rfl (lv_at hl 2 rfl) ?_
      refine lv_iconst (v := 1) hx hb dX6_put_29 (by decide) ?_
      refine x_callVi (As := [.int i, .int 1]) S hK hAm hD hP hS mt_X6_hasPlaces wd_232 ⟨by decide, by decide⟩ (hL 24 i0 hi0) (xc24 g i0) rfl (c_X6_hasPlaces l nb nn g L M hD hL i0 i 1 hi0) rfl hl.1 (Nat.le_of_ble_eq_true rfl) ⟨Nat.zero_le _, Nat.zero_le _⟩ dX6_put_30 rfl (fun r_3 u H locs hp_ hP hS => ?_)
      obtain ⟨er_3, eu_⟩ := hp_
      rw [eu_] at hP
      clear eu_
      replace hres := xlet_n hres er_3
      refine lv_if_eq (tgt := 43) hx hb dX6_put_33 (by decide) (fun c_4 => ?_) (fun c_4 => ?_)
      · replace hres := hres.trans (if_pos c_4)
        refine lv_iload_n hx hb dX6_put_43 rfl (lv_at hl 0 rfl) ?_
        exact x_reti hx hb hr hlk hP hS (hres.symm.trans hF) dX6_put_44
      · replace hres := hres.trans (if_neg c_4)
        refine lv_aload_n hx hb dX6_put_36 rfl (lv_at hl 1 rfl) ?_
        refine gf_RX6_9 hx hb hts hown hK hP (hL 24 i0 hi0) dX6_put_37 ?_
        refine lv_iload_n hx hb dX6_put_40 rfl (lv_at hl 2 rfl) ?_
        refine lv_iload_n hx hb dX6_put_41 rfl (lv_at hl 0 rfl) ?_
        refine x_iast hx hb hK hP hD hS (hL 25 i0 hi0) (xc25 g i0) (ob_X6_put_42_in nb nn i0 i v M hi0 hp0 hp1 c_1 c_2 r_3 er_3 c_4) dX6_put_42 (fun H locs hP hS => ?_)
        obtain ⟨M_5, eM_5⟩ : ∃ z_ : xM, z_ = xup M 25 i0 i.toNatClampNeg v := ⟨_, rfl⟩
        rw [← eM_5] at hP
        replace hres := xlet_n hres eM_5
        refine lv_iload_n hx hb dX6_put_43 rfl (lv_at hl 0 rfl) ?_
        exact x_reti hx hb hr hlk hP hS (hres.symm.trans hF) dX6_put_44
    · replace hres := hres.trans (if_pos c_2)
      refine lv_iload_n hx hb dX6_put_20 rfl (lv_at hl 2 rfl) ?_
      refine lv_i2s (v := v.toInt16.toInt32) hx hb dX6_put_21 rfl ?_
      refine lv_goto (tgt := 26) hx hb dX6_put_22 (by decide) ?_
      refine lv_topi (fun x3_6 ex3_6 => ?_)
      replace hres := xlet_n hres ex3_6
      refine lv_istore_n (lv' := [(3, .int x3_6), (0, .ref (xad g 24 i0)), (1, .int i), (2, .int v)]) hx hb dX6_put_26 rfl hl (by decide) rfl (fun ls hl => ?_)
      refine lv_aload_n hx hb dX6_put_27 rfl (lv_at hl 1 rfl) ?_
      refine lv_iload_n hx hb dX6_put_28 rfl (lv_at hl 2 rfl) ?_
      refine lv_iconst (v := 1) hx hb dX6_put_29 (by decide) ?_
      refine x_callVi (As := [.int i, .int 1]) S hK hAm hD hP hS mt_X6_hasPlaces wd_232 ⟨by decide, by decide⟩ (hL 24 i0 hi0) (xc24 g i0) rfl (c_X6_hasPlaces l nb nn g L M hD hL i0 i 1 hi0) rfl hl.1 (Nat.le_of_ble_eq_true rfl) ⟨Nat.zero_le _, Nat.zero_le _⟩ dX6_put_30 rfl (fun r_7 u H locs hp_ hP hS => ?_)
      obtain ⟨er_7, eu_⟩ := hp_
      rw [eu_] at hP
      clear eu_
      replace hres := xlet_n hres er_7
      refine lv_if_eq (tgt := 43) hx hb dX6_put_33 (by decide) (fun c_8 => ?_) (fun c_8 => ?_)
      · replace hres := hres.trans (if_pos c_8)
        refine lv_iload_n hx hb dX6_put_43 rfl (lv_at hl 0 rfl) ?_
        exact x_reti hx hb hr hlk hP hS (hres.symm.trans hF) dX6_put_44
      · replace hres := hres.trans (if_neg c_8)
        refine lv_aload_n hx hb dX6_put_36 rfl (lv_at hl 1 rfl) ?_
        refine gf_RX6_9 hx hb hts hown hK hP (hL 24 i0 hi0) dX6_put_37 ?_
        refine lv_iload_n hx hb dX6_put_40 rfl (lv_at hl 2 rfl) ?_
        refine lv_iload_n hx hb dX6_put_41 rfl (lv_at hl 0 rfl) ?_
        refine x_iast hx hb hK hP hD hS (hL 25 i0 hi0) (xc25 g i0) (ob_X6_put_42_in_2 nb nn i0 i v M hi0 hp0 hp1 c_1 c_2 x3_6 ex3_6 r_7 er_7 c_8) dX6_put_42 (fun H locs hP hS => ?_)
        obtain ⟨M_9, eM_9⟩ : ∃ z_ : xM, z_ = xup M 25 i0 i.toNatClampNeg x3_6 := ⟨_, rfl⟩
        rw [← eM_9] at hP
        replace hres := xlet_n hres eM_9
        refine lv_iload_n hx hb dX6_put_43 rfl (lv_at hl 0 rfl) ?_
        exact x_reti hx hb hr hlk hP hS (hres.symm.trans hF) dX6_put_44
  · replace hres := hres.trans (if_pos c_1)
    refine lv_iload_n hx hb dX6_put_7 rfl (lv_at hl 2 rfl) ?_
    refine lv_i2b (v := v.toInt8.toInt32) hx hb dX6_put_8 rfl ?_
    refine lv_goto (tgt := 26) hx hb dX6_put_9 (by decide) ?_
    refine lv_topi (fun x3_10 ex3_10 => ?_)
    replace hres := xlet_n hres ex3_10
    refine lv_istore_n (lv' := [(3, .int x3_10), (0, .ref (xad g 24 i0)), (1, .int i), (2, .int v)]) hx hb dX6_put_26 rfl hl (by decide) rfl (fun ls hl => ?_)
    refine lv_aload_n hx hb dX6_put_27 rfl (lv_at hl 1 rfl) ?_
    refine lv_iload_n hx hb dX6_put_28 rfl (lv_at hl 2 rfl) ?_
    refine lv_iconst (v := 1) hx hb dX6_put_29 (by decide) ?_
    refine x_callVi (As := [.int i, .int 1]) S hK hAm hD hP hS mt_X6_hasPlaces wd_232 ⟨by decide, by decide⟩ (hL 24 i0 hi0) (xc24 g i0) rfl (c_X6_hasPlaces l nb nn g L M hD hL i0 i 1 hi0) rfl hl.1 (Nat.le_of_ble_eq_true rfl) ⟨Nat.zero_le _, Nat.zero_le _⟩ dX6_put_30 rfl (fun r_11 u H locs hp_ hP hS => ?_)
    obtain ⟨er_11, eu_⟩ := hp_
    rw [eu_] at hP
    clear eu_
    replace hres := xlet_n hres er_11
    refine lv_if_eq (tgt := 43) hx hb dX6_put_33 (by decide) (fun c_12 => ?_) (fun c_12 => ?_)
    · replace hres := hres.trans (if_pos c_12)
      refine lv_iload_n hx hb dX6_put_43 rfl (lv_at hl 0 rfl) ?_
      exact x_reti hx hb hr hlk hP hS (hres.symm.trans hF) dX6_put_44
    · replace hres := hres.trans (if_neg c_12)
      refine lv_aload_n hx hb dX6_put_36 rfl (lv_at hl 1 rfl) ?_
      refine gf_RX6_9 hx hb hts hown hK hP (hL 24 i0 hi0) dX6_put_37 ?_
      refine lv_iload_n hx hb dX6_put_40 rfl (lv_at hl 2 rfl) ?_
      refine lv_iload_n hx hb dX6_put_41 rfl (lv_at hl 0 rfl) ?_
      refine x_iast hx hb hK hP hD hS (hL 25 i0 hi0) (xc25 g i0) (ob_X6_put_42_in_3 nb nn i0 i v M hi0 hp0 hp1 c_1 x3_10 ex3_10 r_11 er_11 c_12) dX6_put_42 (fun H locs hP hS => ?_)
      obtain ⟨M_13, eM_13⟩ : ∃ z_ : xM, z_ = xup M 25 i0 i.toNatClampNeg x3_10 := ⟨_, rfl⟩
      rw [← eM_13] at hP
      replace hres := xlet_n hres eM_13
      refine lv_iload_n hx hb dX6_put_43 rfl (lv_at hl 0 rfl) ?_
      exact x_reti hx hb hr hlk hP hS (hres.symm.trans hF) dX6_put_44
set_option maxHeartbeats 4000000 in
set_option maxRecDepth 100000 in
theorem c_X5_milesBetween (l : Launch) (nb nn : Nat) (g : xG) (L : List (Nat × Nat)) (M : xM) (hD : xD g L) (hE_2 : (2, 0) ∈ L) (hE_13 : (13, 0) ∈ L) (hE_14 : (14, 0) ∈ L) (a : Int32) (b : Int32) (hp0 : 0 ≤ a) (hp1 : a < 6) (hp2 : 0 ≤ b) (hp3 : b < 6) : xCi l yX5_milesBetween cX5_milesBetween 3 (some .int) 0 g L M [.ref (xad g 2 0), .int a, .int b] (fun r u => r = f_X5_milesBetween a b M ∧ u = M) := by
  intro sz
  refine x_beg (by decide +kernel) rfl ?_
  intro p e s m args below meth c ls hsz hB
  subst hsz
  obtain ⟨hx, hb, hml, hown, hts, hr, hlk, hK, hAm, hP, hl⟩ := hB
  have S : CallFix p m c cX5_milesBetween 3 s args (xws yX5_milesBetween cX5_milesBetween 3 (some .int)) RX5 := ⟨hx, hb, hml, hown, hts⟩
  have hown : s.vm.findClass RX5 = some m.cls := hown
  have hl : lv_has ls 3 [(0, .ref (xad g 2 0)), (1, .int a), (2, .int b)] := hl
  have hS : va_S (xA g L s.heap.size) s.heap s.heap [] := va_S.rf
  obtain ⟨F, hF⟩ : ∃ F, F = f_X5_milesBetween a b M := ⟨_, rfl⟩
  have hres := hF
  rw [f_X5_milesBetween] at hres
  refine lv_aload_n hx hb dX5_milesBetween_0 rfl (lv_at hl 0 rfl) ?_
  refine gf_RX5_9 hx hb hts hown hK hP hE_2 dX5_milesBetween_1 ?_
  refine lv_iload_n hx hb dX5_milesBetween_4 rfl (lv_at hl 1 rfl) ?_
  refine lv_bipush (v := 6) hx hb dX5_milesBetween_5 (by decide) ?_
  refine lv_imul hx hb dX5_milesBetween_7 ?_
  refine lv_iload_n hx hb dX5_milesBetween_8 rfl (lv_at hl 2 rfl) ?_
  refine lv_iadd hx hb dX5_milesBetween_9 ?_
  refine x_iald hx hb hK hP hE_13 (xc13 g 0) (ob_X5_milesBetween_10_in nb nn a b M hp0 hp1 hp2 hp3) dX5_milesBetween_10 ?_
  exact x_reti hx hb hr hlk hP hS ⟨hres.symm.trans hF, rfl⟩ dX5_milesBetween_11
set_option maxHeartbeats 4000000 in
set_option maxRecDepth 100000 in
theorem c_X5_fewestMiles (l : Launch) (nb nn : Nat) (g : xG) (L : List (Nat × Nat)) (M : xM) (hD : xD g L) (hE_2 : (2, 0) ∈ L) (hE_13 : (13, 0) ∈ L) (hE_14 : (14, 0) ∈ L) (a : Int32) (b : Int32) (hp0 : 0 ≤ a) (hp1 : a < 6) (hp2 : 0 ≤ b) (hp3 : b < 6) : xCi l yX5_fewestMiles cX5_fewestMiles 4 (some .int) 0 g L M [.ref (xad g 2 0), .int a, .int b] (fun r u => r = f_X5_fewestMiles a b M ∧ u = M) := by
  intro sz
  refine x_beg (by decide +kernel) rfl ?_
  intro p e s m args below meth c ls hsz hB
  subst hsz
  obtain ⟨hx, hb, hml, hown, hts, hr, hlk, hK, hAm, hP, hl⟩ := hB
  have S : CallFix p m c cX5_fewestMiles 4 s args (xws yX5_fewestMiles cX5_fewestMiles 4 (some .int)) RX5 := ⟨hx, hb, hml, hown, hts⟩
  have hown : s.vm.findClass RX5 = some m.cls := hown
  have hl : lv_has ls 4 [(0, .ref (xad g 2 0)), (1, .int a), (2, .int b)] := hl
  have hS : va_S (xA g L s.heap.size) s.heap s.heap [] := va_S.rf
  obtain ⟨F, hF⟩ : ∃ F, F = f_X5_fewestMiles a b M := ⟨_, rfl⟩
  have hres := hF
  rw [f_X5_fewestMiles] at hres
  refine lv_aload_n hx hb dX5_fewestMiles_0 rfl (lv_at hl 0 rfl) ?_
  refine gf_RX5_15 hx hb hts hown hK hP hE_2 dX5_fewestMiles_1 ?_
  refine lv_iload_n hx hb dX5_fewestMiles_4 rfl (lv_at hl 1 rfl) ?_
  refine lv_bipush (v := 6) hx hb dX5_fewestMiles_5 (by decide) ?_
  refine lv_imul hx hb dX5_fewestMiles_7 ?_
  refine lv_iload_n hx hb dX5_fewestMiles_8 rfl (lv_at hl 2 rfl) ?_
  refine lv_iadd hx hb dX5_fewestMiles_9 ?_
  refine x_iald hx hb hK hP hE_14 (xc14 g 0) (ob_X5_fewestMiles_10_in nb nn a b M hp0 hp1 hp2 hp3) dX5_fewestMiles_10 ?_
  refine lv_topi (fun x3_1 ex3_1 => ?_)
  replace hres := xlet_n hres ex3_1
  refine lv_istore_n (lv' := [(3, .int x3_1), (0, .ref (xad g 2 0)), (1, .int a), (2, .int b)]) hx hb dX5_fewestMiles_11 rfl hl (by decide) rfl (fun ls hl => ?_)
  refine lv_iload_n hx hb dX5_fewestMiles_12 rfl (lv_at hl 0 rfl) ?_
  refine lv_ldc (own := RX5) (v := 1000000) hx hb hown (hts _ (List.mem_cons_of_mem _ wd_67)) dX5_fewestMiles_13 ?_
  refine lv_icmp_lt (tgt := 23) hx hb dX5_fewestMiles_15 (by decide) (fun c_2 => ?_) (fun c_2 => ?_)
  · replace hres := hres.trans (if_pos c_2)
    refine lv_iload_n hx hb dX5_fewestMiles_23 rfl (lv_at hl 0 rfl) ?_
    exact x_reti hx hb hr hlk hP hS ⟨hres.symm.trans hF, rfl⟩ dX5_fewestMiles_24
  · replace hres := hres.trans (if_neg c_2)
    refine lv_ldc (own := RX5) (v := (-1000000)) hx hb hown (hts _ (List.mem_cons_of_mem _ wd_293)) dX5_fewestMiles_18 ?_
    refine lv_goto (tgt := 24) hx hb dX5_fewestMiles_20 (by decide) ?_
    exact x_reti hx hb hr hlk hP hS ⟨hres.symm.trans hF, rfl⟩ dX5_fewestMiles_24
set_option maxHeartbeats 4000000 in
set_option maxRecDepth 100000 in
theorem c_X5_measure (l : Launch) (nb nn : Nat) (g : xG) (L : List (Nat × Nat)) (M : xM) (hD : xD g L) (hE_2 : (2, 0) ∈ L) (hE_13 : (13, 0) ∈ L) (hE_14 : (14, 0) ∈ L)   : xCv l yX5_measure cX5_measure 5 1 g L M [.ref (xad g 2 0)] (fun u => u = f_X5_measure  M) := by
  intro sz
  refine x_beg (by decide +kernel) rfl ?_
  intro p e s m args below meth c ls hsz hB
  subst hsz
  obtain ⟨hx, hb, hml, hown, hts, hr, hlk, hK, hAm, hP, hl⟩ := hB
  have S : CallFix p m c cX5_measure 5 s args (xws yX5_measure cX5_measure 5 none) RX5 := ⟨hx, hb, hml, hown, hts⟩
  have hown : s.vm.findClass RX5 = some m.cls := hown
  have hl : lv_has ls 5 [(0, .ref (xad g 2 0))] := hl
  have hS : va_S (xA g L s.heap.size) s.heap s.heap [] := va_S.rf
  obtain ⟨F, hF⟩ : ∃ F, F = f_X5_measure  M := ⟨_, rfl⟩
  have k_83 : ∀ (t : Int32) (a : Int32) (n : Nat) (b : Int32) (N_ : xM) (H : Heap) (locs : List Loc) (ls : Array Slot) (kx : (Int32 → xM → xM)), xmu b 6 < n → 0 ≤ t ∧ t < 6 ∧ 0 ≤ a ∧ a < 6 ∧ 0 ≤ b → F = f_X5_measure_L83  t a n b N_ kx → xP g L N_ H → va_S (xA g L s.heap.size) s.heap H locs → lv_has ls 5 [(0, .ref (xad g 2 0)), (1, .int t), (2, .int a), (3, .int b)] → (∀ (b : Int32) (N_ : xM) (H : Heap) (locs : List Loc) (ls : Array Slot), 0 ≤ t ∧ t < 6 ∧ 0 ≤ a ∧ a < 6 ∧ 0 ≤ b → F = kx b N_ → xP g L N_ H → va_S (xA g L s.heap.size) s.heap H locs → lv_has ls 5 [(0, .ref (xad g 2 0)), (1, .int t), (2, .int a), (3, .int b)] → W p l e (xr 1) s m args below meth c H locs 0 0 (MQ below (va_Qv (fun u => u = f_X5_measure  M) (xPost g L) (xA g L s.heap.size)) args s 0 0 (xA g L s.heap.size)) (F0 m 147 ls [])) → W p l e (xr 1) s m args below meth c H locs 0 0 (MQ below (va_Qv (fun u => u = f_X5_measure  M) (xPost g L) (xA g L s.heap.size)) args s 0 0 (xA g L s.heap.size)) (F0 m 83 ls []) := by
    intro t a n
    induction n with
    | zero => intro b N_ H locs ls kx hmu; exact absurd hmu (Nat.not_lt_zero _)
    | succ n ih =>
      intro b N_ H locs ls kx hmu hinv hres hP hS hl hex
      replace hres : F = _ := hres.trans (by rw [f_X5_measure_L83])
      refine lv_iload_n hx hb dX5_measure_83 rfl (lv_at hl 3 rfl) ?_
      refine lv_bipush (v := 6) hx hb dX5_measure_84 (by decide) ?_
      refine lv_icmp_ge (tgt := 147) hx hb dX5_measure_86 (by decide) (fun c_1 => ?_) (fun c_1 => ?_)
      · replace hres := hres.trans (if_pos c_1)
        exact hex b N_ _ _ _ (ob_X5_measure_147_x83 nb nn M t a n b N_ hmu hinv c_1) hres hP hS (lv_sub hl [0, 1, 2, 3] rfl)
      · replace hres := hres.trans (if_neg c_1)
        refine lv_aload_n hx hb dX5_measure_89 rfl (lv_at hl 0 rfl) ?_
        refine gf_RX5_15 hx hb hts hown hK hP hE_2 dX5_measure_90 ?_
        refine lv_iload_n hx hb dX5_measure_93 rfl (lv_at hl 2 rfl) ?_
        refine lv_bipush (v := 6) hx hb dX5_measure_94 (by decide) ?_
        refine lv_imul hx hb dX5_measure_96 ?_
        refine lv_iload_n hx hb dX5_measure_97 rfl (lv_at hl 1 rfl) ?_
        refine lv_iadd hx hb dX5_measure_98 ?_
        refine x_iald hx hb hK hP hE_14 (xc14 g 0) (ob_X5_measure_99_in nb nn M t a n b N_ hmu hinv c_1) dX5_measure_99 ?_
        refine lv_aload_n hx hb dX5_measure_100 rfl (lv_at hl 0 rfl) ?_
        refine gf_RX5_15 hx hb hts hown hK hP hE_2 dX5_measure_101 ?_
        refine lv_iload_n hx hb dX5_measure_104 rfl (lv_at hl 1 rfl) ?_
        refine lv_bipush (v := 6) hx hb dX5_measure_105 (by decide) ?_
        refine lv_imul hx hb dX5_measure_107 ?_
        refine lv_iload_n hx hb dX5_measure_108 rfl (lv_at hl 3 rfl) ?_
        refine lv_iadd hx hb dX5_measure_109 ?_
        refine x_iald hx hb hK hP hE_14 (xc14 g 0) (ob_X5_measure_110_in nb nn M t a n b N_ hmu hinv c_1) dX5_measure_110 ?_
        refine lv_iadd hx hb dX5_measure_111 ?_
        refine lv_topi (fun x4_2 ex4_2 => ?_)
        replace hres := xlet_n hres ex4_2
        refine lv_istore (lv' := [(4, .int x4_2), (0, .ref (xad g 2 0)), (1, .int t), (2, .int a), (3, .int b)]) hx hb dX5_measure_112 hl (by decide) rfl (fun ls hl => ?_)
        refine lv_aload_n hx hb dX5_measure_114 rfl (lv_at hl 1 rfl) ?_
        refine gf_RX5_15 hx hb hts hown hK hP hE_2 dX5_measure_115 ?_
        refine lv_iload_n hx hb dX5_measure_118 rfl (lv_at hl 3 rfl) ?_
        refine lv_bipush (v := 6) hx hb dX5_measure_119 (by decide) ?_
        refine lv_imul hx hb dX5_measure_121 ?_
        refine lv_iload_n hx hb dX5_measure_122 rfl (lv_at hl 4 rfl) ?_
        refine lv_iadd hx hb dX5_measure_123 ?_
        refine lv_aload_n hx hb dX5_measure_124 rfl (lv_at hl 1 rfl) ?_
        refine gf_RX5_15 hx hb hts hown hK hP hE_2 dX5_measure_125 ?_
        refine lv_iload_n hx hb dX5_measure_128 rfl (lv_at hl 3 rfl) ?_
        refine lv_bipush (v := 6) hx hb dX5_measure_129 (by decide) ?_
        refine lv_imul hx hb dX5_measure_131 ?_
        refine lv_iload_n hx hb dX5_measure_132 rfl (lv_at hl 4 rfl) ?_
        refine lv_iadd hx hb dX5_measure_133 ?_
        refine x_iald hx hb hK hP hE_14 (xc14 g 0) (ob_X5_measure_134_in nb nn M t a n b N_ hmu hinv c_1 x4_2 ex4_2) dX5_measure_134 ?_
        refine lv_iload hx hb dX5_measure_135 (lv_at hl 0 rfl) ?_
        refine x_math hx hb hml hl.1 hts hown wd_68 wd_69 wd_70 wd_71 (by decide) (Nat.le_of_ble_eq_true rfl) ⟨Nat.zero_le _, Nat.zero_le _⟩ dX5_measure_137 ?_
        refine lv_topi (fun v_3 ev_3 => ?_)
        replace hres := xlet_n hres ev_3
        refine x_iast hx hb hK hP hD hS hE_14 (xc14 g 0) (ob_X5_measure_140_in nb nn M t a n b N_ hmu hinv c_1 x4_2 ex4_2 v_3 ev_3) dX5_measure_140 (fun H locs hP hS => ?_)
        obtain ⟨M_4, eM_4⟩ : ∃ z_ : xM, z_ = xup N_ 14 0 ((a * 6) + b).toNatClampNeg v_3 := ⟨_, rfl⟩
        rw [← eM_4] at hP
        replace hres := xlet_n hres eM_4
        obtain ⟨x3_5, ex3_5⟩ : ∃ z_ : Int32, z_ = b + 1 := ⟨_, rfl⟩
        replace hres := xlet_n hres ex3_5
        refine lv_iinc (v := x3_5) (lv' := [(3, .int x3_5), (4, .int x4_2), (0, .ref (xad g 2 0)), (1, .int t), (2, .int a)]) hx hb dX5_measure_141 hl (k := 4) rfl (by rw [ex3_5]; rfl) (by decide) rfl (fun ls hl => ?_)
        refine lv_goto (tgt := 83) hx hb dX5_measure_144 (by decide) ?_
        exact ih x3_5 M_4 _ _ _ kx (ob_X5_measure_83_mu_5 nb nn M t a n b N_ hmu hinv c_1 x4_2 ex4_2 v_3 ev_3 M_4 eM_4 x3_5 ex3_5) (ob_X5_measure_83_inv_5 nb nn M t a n b N_ hmu hinv c_1 x4_2 ex4_2 v_3 ev_3 M_4 eM_4 x3_5 ex3_5) hres hP hS (lv_sub hl [2, 3, 4, 0] rfl) hex
  have k_75 : ∀ (t : Int32) (n : Nat) (a : Int32) (N_ : xM) (H : Heap) (locs : List Loc) (ls : Array Slot) (kx : (Int32 → xM → xM)), xmu a 6 < n → 0 ≤ t ∧ t < 6 ∧ 0 ≤ a → F = f_X5_measure_L75  t n a N_ kx → xP g L N_ H → va_S (xA g L s.heap.size) s.heap H locs → lv_has ls 5 [(0, .ref (xad g 2 0)), (1, .int t), (2, .int a)] → (∀ (a : Int32) (N_ : xM) (H : Heap) (locs : List Loc) (ls : Array Slot), 0 ≤ t ∧ t < 6 ∧ 0 ≤ a → F = kx a N_ → xP g L N_ H → va_S (xA g L s.heap.size) s.heap H locs → lv_has ls 5 [(0, .ref (xad g 2 0)), (1, .int t), (2, .int a)] → W p l e (xr 1) s m args below meth c H locs 0 0 (MQ below (va_Qv (fun u => u = f_X5_measure  M) (xPost g L) (xA g L s.heap.size)) args s 0 0 (xA g L s.heap.size)) (F0 m 153 ls [])) → W p l e (xr 1) s m args below meth c H locs 0 0 (MQ below (va_Qv (fun u => u = f_X5_measure  M) (xPost g L) (xA g L s.heap.size)) args s 0 0 (xA g L s.heap.size)) (F0 m 75 ls []) := by
    intro t n
    induction n with
    | zero => intro a N_ H locs ls kx hmu; exact absurd hmu (Nat.not_lt_zero _)
    | succ n ih =>
      intro a N_ H locs ls kx hmu hinv hres hP hS hl hex
      replace hres : F = _ := hres.trans (by rw [f_X5_measure_L75])
      refine lv_iload_n hx hb dX5_measure_75 rfl (lv_at hl 2 rfl) ?_
      refine lv_bipush (v := 6) hx hb dX5_measure_76 (by decide) ?_
      refine lv_icmp_ge (tgt := 153) hx hb dX5_measure_78 (by decide) (fun c_6 => ?_) (fun c_6 => ?_)
      · replace hres := hres.trans (if_pos c_6)
        exact hex a N_ _ _ _ (ob_X5_measure_153_x75 nb nn M t n a N_ hmu hinv c_6) hres hP hS (lv_sub hl [0, 1, 2] rfl)
      · replace hres := hres.trans (if_neg c_6)
        refine lv_iconst (v := 0) hx hb dX5_measure_81 (by decide) ?_
        refine lv_istore_n (lv' := [(3, .int 0), (0, .ref (xad g 2 0)), (1, .int t), (2, .int a)]) hx hb dX5_measure_82 rfl hl (by decide) rfl (fun ls hl => ?_)
        refine k_83 t a (xmu (0 : Int32) 6 + 1) (0 : Int32) N_ _ _ _ _ (Nat.lt_succ_self _) (ob_X5_measure_83_ini_6 nb nn M t n a N_ hmu hinv c_6) hres hP hS (lv_sub hl [1, 2, 3, 0] rfl) ?_
        clear hres hP hS hl
        intro b_7 M_8 H locs ls hiv_8 hres hP hS hl
        obtain ⟨x2_9, ex2_9⟩ : ∃ z_ : Int32, z_ = a + 1 := ⟨_, rfl⟩
        replace hres := xlet_n hres ex2_9
        refine lv_iinc (v := x2_9) (lv' := [(2, .int x2_9), (0, .ref (xad g 2 0)), (1, .int t), (3, .int b_7)]) hx hb dX5_measure_147 hl (k := 2) rfl (by rw [ex2_9]; rfl) (by decide) rfl (fun ls hl => ?_)
        refine lv_goto (tgt := 75) hx hb dX5_measure_150 (by decide) ?_
        exact ih x2_9 M_8 _ _ _ kx (ob_X5_measure_75_mu_9 nb nn M t n a N_ hmu hinv c_6 b_7 M_8 hiv_8 x2_9 ex2_9) (ob_X5_measure_75_inv_9 nb nn M t n a N_ hmu hinv c_6 b_7 M_8 hiv_8 x2_9 ex2_9) hres hP hS (lv_sub hl [1, 2, 0] rfl) hex
  have k_67 : ∀ (n : Nat) (t : Int32) (N_ : xM) (H : Heap) (locs : List Loc) (ls : Array Slot) (kx : (Int32 → xM → xM)), xmu t 6 < n → 0 ≤ t → F = f_X5_measure_L67  n t N_ kx → xP g L N_ H → va_S (xA g L s.heap.size) s.heap H locs → lv_has ls 5 [(0, .ref (xad g 2 0)), (1, .int t)] → (∀ (t : Int32) (N_ : xM) (H : Heap) (locs : List Loc) (ls : Array Slot), 0 ≤ t → F = kx t N_ → xP g L N_ H → va_S (xA g L s.heap.size) s.heap H locs → lv_has ls 5 [(0, .ref (xad g 2 0)), (1, .int t)] → W p l e (xr 1) s m args below meth c H locs 0 0 (MQ below (va_Qv (fun u => u = f_X5_measure  M) (xPost g L) (xA g L s.heap.size)) args s 0 0 (xA g L s.heap.size)) (F0 m 159 ls [])) → W p l e (xr 1) s m args below meth c H locs 0 0 (MQ below (va_Qv (fun u => u = f_X5_measure  M) (xPost g L) (xA g L s.heap.size)) args s 0 0 (xA g L s.heap.size)) (F0 m 67 ls []) := by
    intro n
    induction n with
    | zero => intro t N_ H locs ls kx hmu; exact absurd hmu (Nat.not_lt_zero _)
    | succ n ih =>
      intro t N_ H locs ls kx hmu hinv hres hP hS hl hex
      replace hres : F = _ := hres.trans (by rw [f_X5_measure_L67])
      refine lv_iload_n hx hb dX5_measure_67 rfl (lv_at hl 1 rfl) ?_
      refine lv_bipush (v := 6) hx hb dX5_measure_68 (by decide) ?_
      refine lv_icmp_ge (tgt := 159) hx hb dX5_measure_70 (by decide) (fun c_10 => ?_) (fun c_10 => ?_)
      · replace hres := hres.trans (if_pos c_10)
        exact hex t N_ _ _ _ (ob_X5_measure_159_x67 nb nn M n t N_ hmu hinv c_10) hres hP hS (lv_sub hl [0, 1] rfl)
      · replace hres := hres.trans (if_neg c_10)
        refine lv_iconst (v := 0) hx hb dX5_measure_73 (by decide) ?_
        refine lv_istore_n (lv' := [(2, .int 0), (0, .ref (xad g 2 0)), (1, .int t)]) hx hb dX5_measure_74 rfl hl (by decide) rfl (fun ls hl => ?_)
        refine k_75 t (xmu (0 : Int32) 6 + 1) (0 : Int32) N_ _ _ _ _ (Nat.lt_succ_self _) (ob_X5_measure_75_ini_10 nb nn M n t N_ hmu hinv c_10) hres hP hS (lv_sub hl [1, 2, 0] rfl) ?_
        clear hres hP hS hl
        intro a_11 M_12 H locs ls hiv_12 hres hP hS hl
        obtain ⟨x1_13, ex1_13⟩ : ∃ z_ : Int32, z_ = t + 1 := ⟨_, rfl⟩
        replace hres := xlet_n hres ex1_13
        refine lv_iinc (v := x1_13) (lv' := [(1, .int x1_13), (0, .ref (xad g 2 0)), (2, .int a_11)]) hx hb dX5_measure_153 hl (k := 1) rfl (by rw [ex1_13]; rfl) (by decide) rfl (fun ls hl => ?_)
        refine lv_goto (tgt := 67) hx hb dX5_measure_156 (by decide) ?_
        exact ih x1_13 M_12 _ _ _ kx (ob_X5_measure_67_mu_13 nb nn M n t N_ hmu hinv c_10 a_11 M_12 hiv_12 x1_13 ex1_13) (ob_X5_measure_67_inv_13 nb nn M n t N_ hmu hinv c_10 a_11 M_12 hiv_12 x1_13 ex1_13) hres hP hS (lv_sub hl [1, 0] rfl) hex
  have k_10 : ∀ (a : Int32) (n : Nat) (b : Int32) (N_ : xM) (H : Heap) (locs : List Loc) (ls : Array Slot) (kx : (Int32 → xM → xM)), xmu b 6 < n → 0 ≤ a ∧ a < 6 ∧ 0 ≤ b → F = f_X5_measure_L10  a n b N_ kx → xP g L N_ H → va_S (xA g L s.heap.size) s.heap H locs → lv_has ls 5 [(0, .ref (xad g 2 0)), (1, .int a), (2, .int b)] → (∀ (b : Int32) (N_ : xM) (H : Heap) (locs : List Loc) (ls : Array Slot), 0 ≤ a ∧ a < 6 ∧ 0 ≤ b → F = kx b N_ → xP g L N_ H → va_S (xA g L s.heap.size) s.heap H locs → lv_has ls 5 [(0, .ref (xad g 2 0)), (1, .int a), (2, .int b)] → W p l e (xr 1) s m args below meth c H locs 0 0 (MQ below (va_Qv (fun u => u = f_X5_measure  M) (xPost g L) (xA g L s.heap.size)) args s 0 0 (xA g L s.heap.size)) (F0 m 59 ls [])) → W p l e (xr 1) s m args below meth c H locs 0 0 (MQ below (va_Qv (fun u => u = f_X5_measure  M) (xPost g L) (xA g L s.heap.size)) args s 0 0 (xA g L s.heap.size)) (F0 m 10 ls []) := by
    intro a n
    induction n with
    | zero => intro b N_ H locs ls kx hmu; exact absurd hmu (Nat.not_lt_zero _)
    | succ n ih =>
      intro b N_ H locs ls kx hmu hinv hres hP hS hl hex
      replace hres : F = _ := hres.trans (by rw [f_X5_measure_L10])
      refine lv_iload_n hx hb dX5_measure_10 rfl (lv_at hl 2 rfl) ?_
      refine lv_bipush (v := 6) hx hb dX5_measure_11 (by decide) ?_
      refine lv_icmp_ge (tgt := 59) hx hb dX5_measure_13 (by decide) (fun c_14 => ?_) (fun c_14 => ?_)
      · replace hres := hres.trans (if_pos c_14)
        exact hex b N_ _ _ _ (ob_X5_measure_59_x10 nb nn M a n b N_ hmu hinv c_14) hres hP hS (lv_sub hl [0, 1, 2] rfl)
      · replace hres := hres.trans (if_neg c_14)
        refine lv_aload_n hx hb dX5_measure_16 rfl (lv_at hl 0 rfl) ?_
        refine lv_iload_n hx hb dX5_measure_17 rfl (lv_at hl 1 rfl) ?_
        refine lv_iload_n hx hb dX5_measure_18 rfl (lv_at hl 2 rfl) ?_
        refine x_callVi (As := [.int a, .int b]) S hK hAm hD hP hS mt_X5_milesBetween wd_72 ⟨by decide, by decide⟩ hE_2 (xc2 g 0) rfl (c_X5_milesBetween l nb nn g L N_ hD hE_2 hE_13 hE_14 a b (ob_X5_measure_19_p0 nb nn M a n b N_ hmu hinv c_14) (ob_X5_measure_19_p1 nb nn M a n b N_ hmu hinv c_14) (ob_X5_measure_19_p2 nb nn M a n b N_ hmu hinv c_14) (ob_X5_measure_19_p3 nb nn M a n b N_ hmu hinv c_14)) rfl hl.1 (Nat.le_of_ble_eq_true rfl) ⟨Nat.zero_le _, Nat.zero_le _⟩ dX5_measure_19 rfl (fun r_15 u H locs hp_ hP hS => ?_)
        obtain ⟨er_15, eu_⟩ := hp_
        rw [eu_] at hP
        clear eu_
        replace hres := xlet_n hres er_15
        refine lv_istore_n (lv' := [(3, .int r_15), (0, .ref (xad g 2 0)), (1, .int a), (2, .int b)]) hx hb dX5_measure_22 rfl hl (by decide) rfl (fun ls hl => ?_)
        refine lv_aload_n hx hb dX5_measure_23 rfl (lv_at hl 1 rfl) ?_
        refine gf_RX5_15 hx hb hts hown hK hP hE_2 dX5_measure_24 ?_
        refine lv_iload_n hx hb dX5_measure_27 rfl (lv_at hl 2 rfl) ?_
        refine lv_bipush (v := 6) hx hb dX5_measure_28 (by decide) ?_
        refine lv_imul hx hb dX5_measure_30 ?_
        refine lv_iload_n hx hb dX5_measure_31 rfl (lv_at hl 3 rfl) ?_
        refine lv_iadd hx hb dX5_measure_32 ?_
        refine lv_iload_n hx hb dX5_measure_33 rfl (lv_at hl 2 rfl) ?_
        refine lv_iload_n hx hb dX5_measure_34 rfl (lv_at hl 3 rfl) ?_
        refine lv_icmp_ne (tgt := 42) hx hb dX5_measure_35 (by decide) (fun c_16 => ?_) (fun c_16 => ?_)
        · replace hres := hres.trans (if_neg c_16)
          refine lv_iload_n hx hb dX5_measure_42 rfl (lv_at hl 0 rfl) ?_
          refine lv_if_ne (tgt := 51) hx hb dX5_measure_43 (by decide) (fun c_17 => ?_) (fun c_17 => ?_)
          · replace hres := hres.trans (if_neg c_17)
            refine lv_iload_n hx hb dX5_measure_51 rfl (lv_at hl 0 rfl) ?_
            refine x_iast hx hb hK hP hD hS hE_14 (xc14 g 0) (ob_X5_measure_52_in nb nn M a n b N_ hmu hinv c_14 r_15 er_15 c_16 c_17) dX5_measure_52 (fun H locs hP hS => ?_)
            obtain ⟨M_18, eM_18⟩ : ∃ z_ : xM, z_ = xup N_ 14 0 ((a * 6) + b).toNatClampNeg r_15 := ⟨_, rfl⟩
            rw [← eM_18] at hP
            replace hres := xlet_n hres eM_18
            obtain ⟨x2_19, ex2_19⟩ : ∃ z_ : Int32, z_ = b + 1 := ⟨_, rfl⟩
            replace hres := xlet_n hres ex2_19
            refine lv_iinc (v := x2_19) (lv' := [(2, .int x2_19), (3, .int r_15), (0, .ref (xad g 2 0)), (1, .int a)]) hx hb dX5_measure_53 hl (k := 3) rfl (by rw [ex2_19]; rfl) (by decide) rfl (fun ls hl => ?_)
            refine lv_goto (tgt := 10) hx hb dX5_measure_56 (by decide) ?_
            exact ih x2_19 M_18 _ _ _ kx (ob_X5_measure_10_mu_19 nb nn M a n b N_ hmu hinv c_14 r_15 er_15 c_16 c_17 M_18 eM_18 x2_19 ex2_19) (ob_X5_measure_10_inv_19 nb nn M a n b N_ hmu hinv c_14 r_15 er_15 c_16 c_17 M_18 eM_18 x2_19 ex2_19) hres hP hS (lv_sub hl [2, 3, 0] rfl) hex
          · replace hres := hres.trans (if_pos c_17)
            refine lv_ldc (own := RX5) (v := 1000000) hx hb hown (hts _ (List.mem_cons_of_mem _ wd_67)) dX5_measure_46 ?_
            refine lv_goto (tgt := 52) hx hb dX5_measure_48 (by decide) ?_
            refine x_iast hx hb hK hP hD hS hE_14 (xc14 g 0) (ob_X5_measure_52_in_2 nb nn M a n b N_ hmu hinv c_14 r_15 er_15 c_16 c_17) dX5_measure_52 (fun H locs hP hS => ?_)
            obtain ⟨M_20, eM_20⟩ : ∃ z_ : xM, z_ = xup N_ 14 0 ((a * 6) + b).toNatClampNeg 1000000 := ⟨_, rfl⟩
            rw [← eM_20] at hP
            replace hres := xlet_n hres eM_20
            obtain ⟨x2_21, ex2_21⟩ : ∃ z_ : Int32, z_ = b + 1 := ⟨_, rfl⟩
            replace hres := xlet_n hres ex2_21
            refine lv_iinc (v := x2_21) (lv' := [(2, .int x2_21), (3, .int r_15), (0, .ref (xad g 2 0)), (1, .int a)]) hx hb dX5_measure_53 hl (k := 3) rfl (by rw [ex2_21]; rfl) (by decide) rfl (fun ls hl => ?_)
            refine lv_goto (tgt := 10) hx hb dX5_measure_56 (by decide) ?_
            exact ih x2_21 M_20 _ _ _ kx (ob_X5_measure_10_mu_21 nb nn M a n b N_ hmu hinv c_14 r_15 er_15 c_16 c_17 M_20 eM_20 x2_21 ex2_21) (ob_X5_measure_10_inv_21 nb nn M a n b N_ hmu hinv c_14 r_15 er_15 c_16 c_17 M_20 eM_20 x2_21 ex2_21) hres hP hS (lv_sub hl [2, 3, 0] rfl) hex
        · replace hres := hres.trans (if_pos c_16)
          refine lv_iconst (v := 0) hx hb dX5_measure_38 (by decide) ?_
          refine lv_goto (tgt := 52) hx hb dX5_measure_39 (by decide) ?_
          refine x_iast hx hb hK hP hD hS hE_14 (xc14 g 0) (ob_X5_measure_52_in_3 nb nn M a n b N_ hmu hinv c_14 r_15 er_15 c_16) dX5_measure_52 (fun H locs hP hS => ?_)
          obtain ⟨M_22, eM_22⟩ : ∃ z_ : xM, z_ = xup N_ 14 0 ((a * 6) + b).toNatClampNeg 0 := ⟨_, rfl⟩
          rw [← eM_22] at hP
          replace hres := xlet_n hres eM_22
          obtain ⟨x2_23, ex2_23⟩ : ∃ z_ : Int32, z_ = b + 1 := ⟨_, rfl⟩
          replace hres := xlet_n hres ex2_23
          refine lv_iinc (v := x2_23) (lv' := [(2, .int x2_23), (3, .int r_15), (0, .ref (xad g 2 0)), (1, .int a)]) hx hb dX5_measure_53 hl (k := 3) rfl (by rw [ex2_23]; rfl) (by decide) rfl (fun ls hl => ?_)
          refine lv_goto (tgt := 10) hx hb dX5_measure_56 (by decide) ?_
          exact ih x2_23 M_22 _ _ _ kx (ob_X5_measure_10_mu_23 nb nn M a n b N_ hmu hinv c_14 r_15 er_15 c_16 M_22 eM_22 x2_23 ex2_23) (ob_X5_measure_10_inv_23 nb nn M a n b N_ hmu hinv c_14 r_15 er_15 c_16 M_22 eM_22 x2_23 ex2_23) hres hP hS (lv_sub hl [2, 3, 0] rfl) hex
  have k_2 : ∀ (n : Nat) (a : Int32) (N_ : xM) (H : Heap) (locs : List Loc) (ls : Array Slot) (kx : (Int32 → xM → xM)), xmu a 6 < n → 0 ≤ a → F = f_X5_measure_L2  n a N_ kx → xP g L N_ H → va_S (xA g L s.heap.size) s.heap H locs → lv_has ls 5 [(0, .ref (xad g 2 0)), (1, .int a)] → (∀ (a : Int32) (N_ : xM) (H : Heap) (locs : List Loc) (ls : Array Slot), 0 ≤ a → F = kx a N_ → xP g L N_ H → va_S (xA g L s.heap.size) s.heap H locs → lv_has ls 5 [(0, .ref (xad g 2 0)), (1, .int a)] → W p l e (xr 1) s m args below meth c H locs 0 0 (MQ below (va_Qv (fun u => u = f_X5_measure  M) (xPost g L) (xA g L s.heap.size)) args s 0 0 (xA g L s.heap.size)) (F0 m 65 ls [])) → W p l e (xr 1) s m args below meth c H locs 0 0 (MQ below (va_Qv (fun u => u = f_X5_measure  M) (xPost g L) (xA g L s.heap.size)) args s 0 0 (xA g L s.heap.size)) (F0 m 2 ls []) := by
    intro n
    induction n with
    | zero => intro a N_ H locs ls kx hmu; exact absurd hmu (Nat.not_lt_zero _)
    | succ n ih =>
      intro a N_ H locs ls kx hmu hinv hres hP hS hl hex
      replace hres : F = _ := hres.trans (by rw [f_X5_measure_L2])
      refine lv_iload_n hx hb dX5_measure_2 rfl (lv_at hl 1 rfl) ?_
      refine lv_bipush (v := 6) hx hb dX5_measure_3 (by decide) ?_
      refine lv_icmp_ge (tgt := 65) hx hb dX5_measure_5 (by decide) (fun c_24 => ?_) (fun c_24 => ?_)
      · replace hres := hres.trans (if_pos c_24)
        exact hex a N_ _ _ _ (ob_X5_measure_65_x2 nb nn M n a N_ hmu hinv c_24) hres hP hS (lv_sub hl [0, 1] rfl)
      · replace hres := hres.trans (if_neg c_24)
        refine lv_iconst (v := 0) hx hb dX5_measure_8 (by decide) ?_
        refine lv_istore_n (lv' := [(2, .int 0), (0, .ref (xad g 2 0)), (1, .int a)]) hx hb dX5_measure_9 rfl hl (by decide) rfl (fun ls hl => ?_)
        refine k_10 a (xmu (0 : Int32) 6 + 1) (0 : Int32) N_ _ _ _ _ (Nat.lt_succ_self _) (ob_X5_measure_10_ini_24 nb nn M n a N_ hmu hinv c_24) hres hP hS (lv_sub hl [1, 2, 0] rfl) ?_
        clear hres hP hS hl
        intro b_25 M_26 H locs ls hiv_26 hres hP hS hl
        obtain ⟨x1_27, ex1_27⟩ : ∃ z_ : Int32, z_ = a + 1 := ⟨_, rfl⟩
        replace hres := xlet_n hres ex1_27
        refine lv_iinc (v := x1_27) (lv' := [(1, .int x1_27), (0, .ref (xad g 2 0)), (2, .int b_25)]) hx hb dX5_measure_59 hl (k := 1) rfl (by rw [ex1_27]; rfl) (by decide) rfl (fun ls hl => ?_)
        refine lv_goto (tgt := 2) hx hb dX5_measure_62 (by decide) ?_
        exact ih x1_27 M_26 _ _ _ kx (ob_X5_measure_2_mu_27 nb nn M n a N_ hmu hinv c_24 b_25 M_26 hiv_26 x1_27 ex1_27) (ob_X5_measure_2_inv_27 nb nn M n a N_ hmu hinv c_24 b_25 M_26 hiv_26 x1_27 ex1_27) hres hP hS (lv_sub hl [1, 0] rfl) hex
  have hres := hF
  rw [f_X5_measure] at hres
  refine lv_iconst (v := 0) hx hb dX5_measure_0 (by decide) ?_
  refine lv_istore_n (lv' := [(1, .int 0), (0, .ref (xad g 2 0))]) hx hb dX5_measure_1 rfl hl (by decide) rfl (fun ls hl => ?_)
  refine k_2 (xmu (0 : Int32) 6 + 1) (0 : Int32) M _ _ _ _ (Nat.lt_succ_self _) (ob_X5_measure_2_ini_27 nb nn M) hres hP hS (lv_sub hl [1, 0] rfl) ?_
  clear hres hP hS hl
  intro a_28 M_29 H locs ls hiv_29 hres hP hS hl
  refine lv_iconst (v := 0) hx hb dX5_measure_65 (by decide) ?_
  refine lv_istore_n (lv' := [(1, .int 0), (0, .ref (xad g 2 0))]) hx hb dX5_measure_66 rfl hl (by decide) rfl (fun ls hl => ?_)
  refine k_67 (xmu (0 : Int32) 6 + 1) (0 : Int32) M_29 _ _ _ _ (Nat.lt_succ_self _) (ob_X5_measure_67_ini_29 nb nn M a_28 M_29 hiv_29) hres hP hS (lv_sub hl [1, 0] rfl) ?_
  clear hres hP hS hl
  intro t_30 M_31 H locs ls hiv_31 hres hP hS hl
  exact x_retv hx hb hr hlk hP hS (hres.symm.trans hF) dX5_measure_159
set_option maxHeartbeats 4000000 in
set_option maxRecDepth 100000 in
theorem c_X5_build (l : Launch) (nb nn : Nat) (g : xG) (L : List (Nat × Nat)) (M : xM) (hD : xD g L) (hE_2 : (2, 0) ∈ L) (hE_13 : (13, 0) ∈ L) (hE_14 : (14, 0) ∈ L) (a : Int32) (b : Int32) (v : Int32) (hp0 : 0 ≤ a) (hp1 : a < 6) (hp2 : 0 ≤ b) (hp3 : b < 6) : xCv l yX5_build cX5_build 4 2 g L M [.ref (xad g 2 0), .int a, .int b, .int v] (fun u => u = f_X5_build a b v M) := by
  intro sz
  refine x_beg (by decide +kernel) rfl ?_
  intro p e s m args below meth c ls hsz hB
  subst hsz
  obtain ⟨hx, hb, hml, hown, hts, hr, hlk, hK, hAm, hP, hl⟩ := hB
  have S : CallFix p m c cX5_build 4 s args (xws yX5_build cX5_build 4 none) RX5 := ⟨hx, hb, hml, hown, hts⟩
  have hown : s.vm.findClass RX5 = some m.cls := hown
  have hl : lv_has ls 4 [(0, .ref (xad g 2 0)), (1, .int a), (2, .int b), (3, .int v)] := hl
  have hS : va_S (xA g L s.heap.size) s.heap s.heap [] := va_S.rf
  obtain ⟨F, hF⟩ : ∃ F, F = f_X5_build a b v M := ⟨_, rfl⟩
  have hres := hF
  rw [f_X5_build] at hres
  refine lv_aload_n hx hb dX5_build_0 rfl (lv_at hl 0 rfl) ?_
  refine gf_RX5_9 hx hb hts hown hK hP hE_2 dX5_build_1 ?_
  refine lv_iload_n hx hb dX5_build_4 rfl (lv_at hl 1 rfl) ?_
  refine lv_bipush (v := 6) hx hb dX5_build_5 (by decide) ?_
  refine lv_imul hx hb dX5_build_7 ?_
  refine lv_iload_n hx hb dX5_build_8 rfl (lv_at hl 2 rfl) ?_
  refine lv_iadd hx hb dX5_build_9 ?_
  refine lv_iload_n hx hb dX5_build_10 rfl (lv_at hl 3 rfl) ?_
  refine x_iast hx hb hK hP hD hS hE_13 (xc13 g 0) (ob_X5_build_11_in nb nn a b v M hp0 hp1 hp2 hp3) dX5_build_11 (fun H locs hP hS => ?_)
  obtain ⟨M_1, eM_1⟩ : ∃ z_ : xM, z_ = xup M 13 0 ((a * 6) + b).toNatClampNeg v := ⟨_, rfl⟩
  rw [← eM_1] at hP
  replace hres := xlet_n hres eM_1
  refine lv_aload_n hx hb dX5_build_12 rfl (lv_at hl 0 rfl) ?_
  refine gf_RX5_9 hx hb hts hown hK hP hE_2 dX5_build_13 ?_
  refine lv_iload_n hx hb dX5_build_16 rfl (lv_at hl 2 rfl) ?_
  refine lv_bipush (v := 6) hx hb dX5_build_17 (by decide) ?_
  refine lv_imul hx hb dX5_build_19 ?_
  refine lv_iload_n hx hb dX5_build_20 rfl (lv_at hl 1 rfl) ?_
  refine lv_iadd hx hb dX5_build_21 ?_
  refine lv_iload_n hx hb dX5_build_22 rfl (lv_at hl 3 rfl) ?_
  refine x_iast hx hb hK hP hD hS hE_13 (xc13 g 0) (ob_X5_build_23_in nb nn a b v M hp0 hp1 hp2 hp3 M_1 eM_1) dX5_build_23 (fun H locs hP hS => ?_)
  obtain ⟨M_2, eM_2⟩ : ∃ z_ : xM, z_ = xup M_1 13 0 ((b * 6) + a).toNatClampNeg v := ⟨_, rfl⟩
  rw [← eM_2] at hP
  replace hres := xlet_n hres eM_2
  refine lv_aload_n hx hb dX5_build_24 rfl (lv_at hl 0 rfl) ?_
  refine x_callVv (As := []) S hK hAm hD hP hS mt_X5_measure wd_63 ⟨by decide, by decide⟩ hE_2 (xc2 g 0) rfl (c_X5_measure l nb nn g L M_2 hD hE_2 hE_13 hE_14 ) rfl hl.1 (Nat.le_of_ble_eq_true rfl) ⟨Nat.zero_le _, Nat.zero_le _⟩ dX5_build_25 rfl (fun M_4 H locs eM_4 hP hS => ?_)
  replace hres := xlet_n hres eM_4
  exact x_retv hx hb hr hlk hP hS (hres.symm.trans hF) dX5_build_28
set_option maxHeartbeats 4000000 in
set_option maxRecDepth 100000 in
theorem c_X2_hasRoomBehind (l : Launch) (nb nn : Nat) (g : xG) (L : List (Nat × Nat)) (M : xM) (hD : xD g L) (hL : xEL nb nn L) (more : Int32)  : xCi l yX2_hasRoomBehind cX2_hasRoomBehind 2 (some .boolean) 0 g L M [.ref (xad g 4 0), .int more] (fun r u => r = xb (f_X2_hasRoomBehind more M) ∧ u = M) := by
  intro sz
  refine x_beg (by decide +kernel) rfl ?_
  intro p e s m args below meth c ls hsz hB
  subst hsz
  obtain ⟨hx, hb, hml, hown, hts, hr, hlk, hK, hAm, hP, hl⟩ := hB
  have S : CallFix p m c cX2_hasRoomBehind 2 s args (xws yX2_hasRoomBehind cX2_hasRoomBehind 2 (some .boolean)) RX2 := ⟨hx, hb, hml, hown, hts⟩
  have hown : s.vm.findClass RX2 = some m.cls := hown
  have hl : lv_has ls 2 [(0, .ref (xad g 4 0)), (1, .int more)] := hl
  have hS : va_S (xA g L s.heap.size) s.heap s.heap [] := va_S.rf
  obtain ⟨F, hF⟩ : ∃ F, F = f_X2_hasRoomBehind more M := ⟨_, rfl⟩
  have hres := hF
  rw [f_X2_hasRoomBehind] at hres
  refine lv_aload_n hx hb dX2_hasRoomBehind_0 rfl (lv_at hl 0 rfl) ?_
  refine gf_RX2_24 hx hb hts hown hK hP (hL 4 0 (xe_4 nb nn)) dX2_hasRoomBehind_1 ?_
  refine lv_iload_n hx hb dX2_hasRoomBehind_4 rfl (lv_at hl 1 rfl) ?_
  refine lv_iadd hx hb dX2_hasRoomBehind_5 ?_
  refine lv_bipush (v := 40) hx hb dX2_hasRoomBehind_6 (by decide) ?_
  refine lv_icmp_ge (tgt := 15) hx hb dX2_hasRoomBehind_8 (by decide) (fun c_1 => ?_) (fun c_1 => ?_)
  · replace hres := hres.trans (if_pos c_1)
    refine lv_iconst (v := 0) hx hb dX2_hasRoomBehind_15 (by decide) ?_
    exact x_retz hx hb hr hlk hP hS rfl ⟨(congrArg xb (hres.symm.trans hF)), rfl⟩ dX2_hasRoomBehind_16
  · replace hres := hres.trans (if_neg c_1)
    refine lv_iconst (v := 1) hx hb dX2_hasRoomBehind_11 (by decide) ?_
    refine lv_goto (tgt := 16) hx hb dX2_hasRoomBehind_12 (by decide) ?_
    exact x_retz hx hb hr hlk hP hS rfl ⟨(congrArg xb (hres.symm.trans hF)), rfl⟩ dX2_hasRoomBehind_16
set_option maxHeartbeats 4000000 in
set_option maxRecDepth 100000 in
theorem c_X2_write (l : Launch) (nb nn : Nat) (g : xG) (L : List (Nat × Nat)) (M : xM) (hD : xD g L) (hL : xEL nb nn L) (more : Int32) (word : Int32) (week : Int32) (bank : Int32) (value : Int32)  : xCv l yX2_write cX2_write 7 0 g L M [.ref (xad g 4 0), .int more, .int word, .int week, .int bank, .int value] (fun u => u = f_X2_write more word week bank value M) := by
  intro sz
  refine x_beg (by decide +kernel) rfl ?_
  intro p e s m args below meth c ls hsz hB
  subst hsz
  obtain ⟨hx, hb, hml, hown, hts, hr, hlk, hK, hAm, hP, hl⟩ := hB
  have S : CallFix p m c cX2_write 7 s args (xws yX2_write cX2_write 7 none) RX2 := ⟨hx, hb, hml, hown, hts⟩
  have hown : s.vm.findClass RX2 = some m.cls := hown
  have hl : lv_has ls 7 [(0, .ref (xad g 4 0)), (1, .int more), (2, .int word), (3, .int week), (4, .int bank), (5, .int value)] := hl
  have hS : va_S (xA g L s.heap.size) s.heap s.heap [] := va_S.rf
  obtain ⟨F, hF⟩ : ∃ F, F = f_X2_write more word week bank value M := ⟨_, rfl⟩
  have hres := hF
  rw [f_X2_write] at hres
  refine lv_aload_n hx hb dX2_write_0 rfl (lv_at hl 0 rfl) ?_
  refine gf_RX2_24 hx hb hts hown hK hP (hL 4 0 (xe_4 nb nn)) dX2_write_1 ?_
  refine lv_iload_n hx hb dX2_write_4 rfl (lv_at hl 1 rfl) ?_
  refine lv_iadd hx hb dX2_write_5 ?_
  refine lv_topi (fun x6_1 ex6_1 => ?_)
  replace hres := xlet_n hres ex6_1
  refine lv_istore (lv' := [(6, .int x6_1), (0, .ref (xad g 4 0)), (1, .int more), (2, .int word), (3, .int week), (4, .int bank), (5, .int value)]) hx hb dX2_write_6 hl (by decide) rfl (fun ls hl => ?_)
  refine lv_iload hx hb dX2_write_8 (lv_at hl 0 rfl) ?_
  refine lv_if_lt (tgt := 54) hx hb dX2_write_10 (by decide) (fun c_2 => ?_) (fun c_2 => ?_)
  · replace hres := hres.trans (if_pos c_2)
    exact x_retv hx hb hr hlk hP hS (hres.symm.trans hF) dX2_write_54
  · replace hres := hres.trans (if_neg c_2)
    refine lv_iload hx hb dX2_write_13 (lv_at hl 0 rfl) ?_
    refine lv_bipush (v := 40) hx hb dX2_write_15 (by decide) ?_
    refine lv_icmp_ge (tgt := 54) hx hb dX2_write_17 (by decide) (fun c_3 => ?_) (fun c_3 => ?_)
    · replace hres := hres.trans (if_pos c_3)
      exact x_retv hx hb hr hlk hP hS (hres.symm.trans hF) dX2_write_54
    · replace hres := hres.trans (if_neg c_3)
      refine lv_aload_n hx hb dX2_write_20 rfl (lv_at hl 1 rfl) ?_
      refine gf_RX2_11 hx hb hts hown hK hP (hL 4 0 (xe_4 nb nn)) dX2_write_21 ?_
      refine lv_iload hx hb dX2_write_24 (lv_at hl 0 rfl) ?_
      refine lv_iload_n hx hb dX2_write_26 rfl (lv_at hl 3 rfl) ?_
      refine x_iast hx hb hK hP hD hS (hL 15 0 (xe_15 nb nn)) (xc15 g 0) (ob_X2_write_27_in nb nn more word week bank value M x6_1 ex6_1 c_2 c_3) dX2_write_27 (fun H locs hP hS => ?_)
      obtain ⟨M_4, eM_4⟩ : ∃ z_ : xM, z_ = xup M 15 0 x6_1.toNatClampNeg word := ⟨_, rfl⟩
      rw [← eM_4] at hP
      replace hres := xlet_n hres eM_4
      refine lv_aload_n hx hb dX2_write_28 rfl (lv_at hl 1 rfl) ?_
      refine gf_RX2_15 hx hb hts hown hK hP (hL 4 0 (xe_4 nb nn)) dX2_write_29 ?_
      refine lv_iload hx hb dX2_write_32 (lv_at hl 0 rfl) ?_
      refine lv_iload_n hx hb dX2_write_34 rfl (lv_at hl 4 rfl) ?_
      refine x_iast hx hb hK hP hD hS (hL 16 0 (xe_16 nb nn)) (xc16 g 0) (ob_X2_write_35_in nb nn more word week bank value M x6_1 ex6_1 c_2 c_3 M_4 eM_4) dX2_write_35 (fun H locs hP hS => ?_)
      obtain ⟨M_5, eM_5⟩ : ∃ z_ : xM, z_ = xup M_4 16 0 x6_1.toNatClampNeg week := ⟨_, rfl⟩
      rw [← eM_5] at hP
      replace hres := xlet_n hres eM_5
      refine lv_aload_n hx hb dX2_write_36 rfl (lv_at hl 1 rfl) ?_
      refine gf_RX2_18 hx hb hts hown hK hP (hL 4 0 (xe_4 nb nn)) dX2_write_37 ?_
      refine lv_iload hx hb dX2_write_40 (lv_at hl 0 rfl) ?_
      refine lv_iload hx hb dX2_write_42 (lv_at hl 5 rfl) ?_
      refine x_iast hx hb hK hP hD hS (hL 17 0 (xe_17 nb nn)) (xc17 g 0) (ob_X2_write_44_in nb nn more word week bank value M x6_1 ex6_1 c_2 c_3 M_4 eM_4 M_5 eM_5) dX2_write_44 (fun H locs hP hS => ?_)
      obtain ⟨M_6, eM_6⟩ : ∃ z_ : xM, z_ = xup M_5 17 0 x6_1.toNatClampNeg bank := ⟨_, rfl⟩
      rw [← eM_6] at hP
      replace hres := xlet_n hres eM_6
      refine lv_aload_n hx hb dX2_write_45 rfl (lv_at hl 1 rfl) ?_
      refine gf_RX2_21 hx hb hts hown hK hP (hL 4 0 (xe_4 nb nn)) dX2_write_46 ?_
      refine lv_iload hx hb dX2_write_49 (lv_at hl 0 rfl) ?_
      refine lv_iload hx hb dX2_write_51 (lv_at hl 6 rfl) ?_
      refine x_iast hx hb hK hP hD hS (hL 18 0 (xe_18 nb nn)) (xc18 g 0) (ob_X2_write_53_in nb nn more word week bank value M x6_1 ex6_1 c_2 c_3 M_4 eM_4 M_5 eM_5 M_6 eM_6) dX2_write_53 (fun H locs hP hS => ?_)
      obtain ⟨M_7, eM_7⟩ : ∃ z_ : xM, z_ = xup M_6 18 0 x6_1.toNatClampNeg value := ⟨_, rfl⟩
      rw [← eM_7] at hP
      replace hres := xlet_n hres eM_7
      exact x_retv hx hb hr hlk hP hS (hres.symm.trans hF) dX2_write_54
set_option maxHeartbeats 4000000 in
set_option maxRecDepth 100000 in
theorem c_X2_keep (l : Launch) (nb nn : Nat) (g : xG) (L : List (Nat × Nat)) (M : xM) (hD : xD g L) (hL : xEL nb nn L) (more : Int32)  : xCv l yX2_keep cX2_keep 2 1 g L M [.ref (xad g 4 0), .int more] (fun u => u = f_X2_keep more M) := by
  intro sz
  refine x_beg (by decide +kernel) rfl ?_
  intro p e s m args below meth c ls hsz hB
  subst hsz
  obtain ⟨hx, hb, hml, hown, hts, hr, hlk, hK, hAm, hP, hl⟩ := hB
  have S : CallFix p m c cX2_keep 2 s args (xws yX2_keep cX2_keep 2 none) RX2 := ⟨hx, hb, hml, hown, hts⟩
  have hown : s.vm.findClass RX2 = some m.cls := hown
  have hl : lv_has ls 2 [(0, .ref (xad g 4 0)), (1, .int more)] := hl
  have hS : va_S (xA g L s.heap.size) s.heap s.heap [] := va_S.rf
  obtain ⟨F, hF⟩ : ∃ F, F = f_X2_keep more M := ⟨_, rfl⟩
  have hres := hF
  rw [f_X2_keep] at hres
  refine lv_aload_n hx hb dX2_keep_0 rfl (lv_at hl 0 rfl) ?_
  refine lv_aload_n hx hb dX2_keep_1 rfl (lv_at hl 0 rfl) ?_
  refine gf_RX2_24 hx hb hts hown hK hP (hL 4 0 (xe_4 nb nn)) dX2_keep_2 ?_
  refine lv_iload_n hx hb dX2_keep_5 rfl (lv_at hl 1 rfl) ?_
  refine lv_iadd hx hb dX2_keep_6 ?_
  refine lv_bipush (v := 40) hx hb dX2_keep_7 (by decide) ?_
  refine x_math hx hb hml hl.1 hts hown wd_551 wd_69 wd_70 wd_71 (by decide) (Nat.le_of_ble_eq_true rfl) ⟨Nat.zero_le _, Nat.zero_le _⟩ dX2_keep_9 ?_
  refine lv_topi (fun v_1 ev_1 => ?_)
  replace hres := xlet_n hres ev_1
  refine pf_RX2_24 hx hb hts hown hK hP hD hS (hL 4 0 (xe_4 nb nn)) dX2_keep_12 (fun H locs hP hS => ?_)
  obtain ⟨M_2, eM_2⟩ : ∃ z_ : xM, z_ = xup M 4 0 4 v_1 := ⟨_, rfl⟩
  rw [← eM_2] at hP
  replace hres := xlet_n hres eM_2
  exact x_retv hx hb hr hlk hP hS (hres.symm.trans hF) dX2_keep_15
set_option maxHeartbeats 4000000 in
set_option maxRecDepth 100000 in
theorem c_X2_isKnown (l : Launch) (nb nn : Nat) (g : xG) (L : List (Nat × Nat)) (M : xM) (hD : xD g L) (hL : xEL nb nn L) (i : Int32) (word : Int32) (bank : Int32) (newest : Int32) (hp0 : 0 ≤ i) (hp1 : i < 40) : xCi l yX2_isKnown cX2_isKnown 5 (some .boolean) 0 g L M [.ref (xad g 4 0), .int i, .int word, .int bank, .int newest] (fun r u => r = xb (f_X2_isKnown i word bank newest M) ∧ u = M) := by
  intro sz
  refine x_beg (by decide +kernel) rfl ?_
  intro p e s m args below meth c ls hsz hB
  subst hsz
  obtain ⟨hx, hb, hml, hown, hts, hr, hlk, hK, hAm, hP, hl⟩ := hB
  have S : CallFix p m c cX2_isKnown 5 s args (xws yX2_isKnown cX2_isKnown 5 (some .boolean)) RX2 := ⟨hx, hb, hml, hown, hts⟩
  have hown : s.vm.findClass RX2 = some m.cls := hown
  have hl : lv_has ls 5 [(0, .ref (xad g 4 0)), (1, .int i), (2, .int word), (3, .int bank), (4, .int newest)] := hl
  have hS : va_S (xA g L s.heap.size) s.heap s.heap [] := va_S.rf
  obtain ⟨F, hF⟩ : ∃ F, F = f_X2_isKnown i word bank newest M := ⟨_, rfl⟩
  have hres := hF
  rw [f_X2_isKnown] at hres
  refine lv_aload_n hx hb dX2_isKnown_0 rfl (lv_at hl 0 rfl) ?_
  refine gf_RX2_11 hx hb hts hown hK hP (hL 4 0 (xe_4 nb nn)) dX2_isKnown_1 ?_
  refine lv_iload_n hx hb dX2_isKnown_4 rfl (lv_at hl 1 rfl) ?_
  refine x_iald hx hb hK hP (hL 15 0 (xe_15 nb nn)) (xc15 g 0) (ob_X2_isKnown_5_in nb nn i word bank newest M hp0 hp1) dX2_isKnown_5 ?_
  refine lv_iload_n hx hb dX2_isKnown_6 rfl (lv_at hl 2 rfl) ?_
  refine lv_icmp_ne (tgt := 35) hx hb dX2_isKnown_7 (by decide) (fun c_1 => ?_) (fun c_1 => ?_)
  · replace hres := hres.trans (if_neg c_1)
    refine lv_iconst (v := 0) hx hb dX2_isKnown_35 (by decide) ?_
    exact x_retz hx hb hr hlk hP hS rfl ⟨(congrArg xb (hres.symm.trans hF)), rfl⟩ dX2_isKnown_36
  · replace hres := hres.trans (if_pos c_1)
    refine lv_aload_n hx hb dX2_isKnown_10 rfl (lv_at hl 0 rfl) ?_
    refine gf_RX2_18 hx hb hts hown hK hP (hL 4 0 (xe_4 nb nn)) dX2_isKnown_11 ?_
    refine lv_iload_n hx hb dX2_isKnown_14 rfl (lv_at hl 1 rfl) ?_
    refine x_iald hx hb hK hP (hL 17 0 (xe_17 nb nn)) (xc17 g 0) (ob_X2_isKnown_15_in nb nn i word bank newest M hp0 hp1 c_1) dX2_isKnown_15 ?_
    refine lv_iload_n hx hb dX2_isKnown_16 rfl (lv_at hl 3 rfl) ?_
    refine lv_icmp_ne (tgt := 35) hx hb dX2_isKnown_17 (by decide) (fun c_2 => ?_) (fun c_2 => ?_)
    · replace hres := hres.trans (if_neg c_2)
      refine lv_iconst (v := 0) hx hb dX2_isKnown_35 (by decide) ?_
      exact x_retz hx hb hr hlk hP hS rfl ⟨(congrArg xb (hres.symm.trans hF)), rfl⟩ dX2_isKnown_36
    · replace hres := hres.trans (if_pos c_2)
      refine lv_aload_n hx hb dX2_isKnown_20 rfl (lv_at hl 0 rfl) ?_
      refine gf_RX2_15 hx hb hts hown hK hP (hL 4 0 (xe_4 nb nn)) dX2_isKnown_21 ?_
      refine lv_iload_n hx hb dX2_isKnown_24 rfl (lv_at hl 1 rfl) ?_
      refine x_iald hx hb hK hP (hL 16 0 (xe_16 nb nn)) (xc16 g 0) (ob_X2_isKnown_25_in nb nn i word bank newest M hp0 hp1 c_1 c_2) dX2_isKnown_25 ?_
      refine lv_iload hx hb dX2_isKnown_26 (lv_at hl 4 rfl) ?_
      refine lv_icmp_gt (tgt := 35) hx hb dX2_isKnown_28 (by decide) (fun c_3 => ?_) (fun c_3 => ?_)
      · replace hres := hres.trans (if_pos c_3)
        refine lv_iconst (v := 0) hx hb dX2_isKnown_35 (by decide) ?_
        exact x_retz hx hb hr hlk hP hS rfl ⟨(congrArg xb (hres.symm.trans hF)), rfl⟩ dX2_isKnown_36
      · replace hres := hres.trans (if_neg c_3)
        refine lv_iconst (v := 1) hx hb dX2_isKnown_31 (by decide) ?_
        refine lv_goto (tgt := 36) hx hb dX2_isKnown_32 (by decide) ?_
        exact x_retz hx hb hr hlk hP hS rfl ⟨(congrArg xb (hres.symm.trans hF)), rfl⟩ dX2_isKnown_36
set_option maxHeartbeats 4000000 in
set_option maxRecDepth 100000 in
theorem c_X2_latest (l : Launch) (nb nn : Nat) (g : xG) (L : List (Nat × Nat)) (M : xM) (hD : xD g L) (hL : xEL nb nn L) (word : Int32) (bank : Int32) (newest : Int32) (hp0 : M 4 0 4 ≤ 40) : xCi l yX2_latest cX2_latest 7 (some .int) 1 g L M [.ref (xad g 4 0), .int word, .int bank, .int newest] (fun r u => r = f_X2_latest word bank newest M ∧ u = M) := by
  intro sz
  refine x_beg (by decide +kernel) rfl ?_
  intro p e s m args below meth c ls hsz hB
  subst hsz
  obtain ⟨hx, hb, hml, hown, hts, hr, hlk, hK, hAm, hP, hl⟩ := hB
  have S : CallFix p m c cX2_latest 7 s args (xws yX2_latest cX2_latest 7 (some .int)) RX2 := ⟨hx, hb, hml, hown, hts⟩
  have hown : s.vm.findClass RX2 = some m.cls := hown
  have hl : lv_has ls 7 [(0, .ref (xad g 4 0)), (1, .int word), (2, .int bank), (3, .int newest)] := hl
  have hS : va_S (xA g L s.heap.size) s.heap s.heap [] := va_S.rf
  obtain ⟨F, hF⟩ : ∃ F, F = f_X2_latest word bank newest M := ⟨_, rfl⟩
  have k_10 : ∀ (n : Nat) (value : Int32) (lw : Int32) (i : Int32) (H : Heap) (locs : List Loc) (ls : Array Slot) (kx : (Int32 → Int32 → Int32 → Int32)), xmu i (M 4 0 4) < n → 0 ≤ i → F = f_X2_latest_L10 word bank newest M n value lw i kx → xP g L M H → va_S (xA g L s.heap.size) s.heap H locs → lv_has ls 7 [(0, .ref (xad g 4 0)), (1, .int word), (2, .int bank), (3, .int newest), (4, .int value), (5, .int lw), (6, .int i)] → (∀ (value : Int32) (lw : Int32) (i : Int32) (H : Heap) (locs : List Loc) (ls : Array Slot), 0 ≤ i → F = kx value lw i → xP g L M H → va_S (xA g L s.heap.size) s.heap H locs → lv_has ls 7 [(0, .ref (xad g 4 0)), (1, .int word), (2, .int bank), (3, .int newest), (4, .int value), (5, .int lw), (6, .int i)] → W p l e (xr 1) s m args below meth c H locs 0 0 (MQ below (va_Qi (fun r u => r = f_X2_latest word bank newest M ∧ u = M) (xPost g L) (xA g L s.heap.size)) args s 0 0 (xA g L s.heap.size)) (F0 m 67 ls [])) → W p l e (xr 1) s m args below meth c H locs 0 0 (MQ below (va_Qi (fun r u => r = f_X2_latest word bank newest M ∧ u = M) (xPost g L) (xA g L s.heap.size)) args s 0 0 (xA g L s.heap.size)) (F0 m 10 ls []) := by
    intro n
    induction n with
    | zero => intro value lw i H locs ls kx hmu; exact absurd hmu (Nat.not_lt_zero _)
    | succ n ih =>
      intro value lw i H locs ls kx hmu hinv hres hP hS hl hex
      replace hres : F = _ := hres.trans (by rw [f_X2_latest_L10])
      refine lv_iload hx hb dX2_latest_10 (lv_at hl 6 rfl) ?_
      refine lv_aload_n hx hb dX2_latest_12 rfl (lv_at hl 0 rfl) ?_
      refine gf_RX2_24 hx hb hts hown hK hP (hL 4 0 (xe_4 nb nn)) dX2_latest_13 ?_
      refine lv_icmp_ge (tgt := 67) hx hb dX2_latest_16 (by decide) (fun c_1 => ?_) (fun c_1 => ?_)
      · replace hres := hres.trans (if_pos c_1)
        exact hex value lw i _ _ _ (ob_X2_latest_67_x10 nb nn word bank newest M hp0 n value lw i hmu hinv c_1) hres hP hS (lv_sub hl [0, 1, 2, 3, 4, 5, 6] rfl)
      · replace hres := hres.trans (if_neg c_1)
        refine lv_aload_n hx hb dX2_latest_19 rfl (lv_at hl 0 rfl) ?_
        refine lv_iload hx hb dX2_latest_20 (lv_at hl 6 rfl) ?_
        refine lv_iload_n hx hb dX2_latest_22 rfl (lv_at hl 1 rfl) ?_
        refine lv_iload_n hx hb dX2_latest_23 rfl (lv_at hl 2 rfl) ?_
        refine lv_iload_n hx hb dX2_latest_24 rfl (lv_at hl 3 rfl) ?_
        refine x_callVi (As := [.int i, .int word, .int bank, .int newest]) S hK hAm hD hP hS mt_X2_isKnown wd_639 ⟨by decide, by decide⟩ (hL 4 0 (xe_4 nb nn)) (xc4 g 0) rfl (c_X2_isKnown l nb nn g L M hD hL i word bank newest (ob_X2_latest_25_p0 nb nn word bank newest M hp0 n value lw i hmu hinv c_1) (ob_X2_latest_25_p1 nb nn word bank newest M hp0 n value lw i hmu hinv c_1)) rfl hl.1 (Nat.le_of_ble_eq_true rfl) ⟨Nat.zero_le _, Nat.zero_le _⟩ dX2_latest_25 rfl (fun r_2 u H locs hp_ hP hS => ?_)
        obtain ⟨er_2, eu_⟩ := hp_
        rw [eu_] at hP
        clear eu_
        replace hres := xlet_n hres er_2
        refine lv_if_eq (tgt := 61) hx hb dX2_latest_28 (by decide) (fun c_3 => ?_) (fun c_3 => ?_)
        · replace hres := hres.trans (if_pos c_3)
          obtain ⟨x6_4, ex6_4⟩ : ∃ z_ : Int32, z_ = i + 1 := ⟨_, rfl⟩
          replace hres := xlet_n hres ex6_4
          refine lv_iinc (v := x6_4) (lv' := [(6, .int x6_4), (0, .ref (xad g 4 0)), (1, .int word), (2, .int bank), (3, .int newest), (4, .int value), (5, .int lw)]) hx hb dX2_latest_61 hl (k := 6) rfl (by rw [ex6_4]; rfl) (by decide) rfl (fun ls hl => ?_)
          refine lv_goto (tgt := 10) hx hb dX2_latest_64 (by decide) ?_
          exact ih value lw x6_4 _ _ _ kx (ob_X2_latest_10_mu_4 nb nn word bank newest M hp0 n value lw i hmu hinv c_1 r_2 er_2 c_3 x6_4 ex6_4) (ob_X2_latest_10_inv_4 nb nn word bank newest M hp0 n value lw i hmu hinv c_1 r_2 er_2 c_3 x6_4 ex6_4) hres hP hS (lv_sub hl [1, 2, 3, 4, 5, 6, 0] rfl) hex
        · replace hres := hres.trans (if_neg c_3)
          refine lv_aload_n hx hb dX2_latest_31 rfl (lv_at hl 0 rfl) ?_
          refine gf_RX2_15 hx hb hts hown hK hP (hL 4 0 (xe_4 nb nn)) dX2_latest_32 ?_
          refine lv_iload hx hb dX2_latest_35 (lv_at hl 6 rfl) ?_
          refine x_iald hx hb hK hP (hL 16 0 (xe_16 nb nn)) (xc16 g 0) (ob_X2_latest_37_in nb nn word bank newest M hp0 n value lw i hmu hinv c_1 r_2 er_2 c_3) dX2_latest_37 ?_
          refine lv_iload hx hb dX2_latest_38 (lv_at hl 5 rfl) ?_
          refine lv_icmp_lt (tgt := 61) hx hb dX2_latest_40 (by decide) (fun c_5 => ?_) (fun c_5 => ?_)
          · replace hres := hres.trans (if_pos c_5)
            obtain ⟨x6_6, ex6_6⟩ : ∃ z_ : Int32, z_ = i + 1 := ⟨_, rfl⟩
            replace hres := xlet_n hres ex6_6
            refine lv_iinc (v := x6_6) (lv' := [(6, .int x6_6), (0, .ref (xad g 4 0)), (1, .int word), (2, .int bank), (3, .int newest), (4, .int value), (5, .int lw)]) hx hb dX2_latest_61 hl (k := 6) rfl (by rw [ex6_6]; rfl) (by decide) rfl (fun ls hl => ?_)
            refine lv_goto (tgt := 10) hx hb dX2_latest_64 (by decide) ?_
            exact ih value lw x6_6 _ _ _ kx (ob_X2_latest_10_mu_6 nb nn word bank newest M hp0 n value lw i hmu hinv c_1 r_2 er_2 c_3 c_5 x6_6 ex6_6) (ob_X2_latest_10_inv_6 nb nn word bank newest M hp0 n value lw i hmu hinv c_1 r_2 er_2 c_3 c_5 x6_6 ex6_6) hres hP hS (lv_sub hl [1, 2, 3, 4, 5, 6, 0] rfl) hex
          · replace hres := hres.trans (if_neg c_5)
            refine lv_aload_n hx hb dX2_latest_43 rfl (lv_at hl 0 rfl) ?_
            refine gf_RX2_15 hx hb hts hown hK hP (hL 4 0 (xe_4 nb nn)) dX2_latest_44 ?_
            refine lv_iload hx hb dX2_latest_47 (lv_at hl 6 rfl) ?_
            refine x_iald hx hb hK hP (hL 16 0 (xe_16 nb nn)) (xc16 g 0) (ob_X2_latest_49_in nb nn word bank newest M hp0 n value lw i hmu hinv c_1 r_2 er_2 c_3 c_5) dX2_latest_49 ?_
            refine lv_topi (fun x5_7 ex5_7 => ?_)
            replace hres := xlet_n hres ex5_7
            refine lv_istore (lv' := [(5, .int x5_7), (0, .ref (xad g 4 0)), (1, .int word), (2, .int bank), (3, .int newest), (4, .int value), (6, .int i)]) hx hb dX2_latest_50 hl (by decide) rfl (fun ls hl => ?_)
            refine lv_aload_n hx hb dX2_latest_52 rfl (lv_at hl 1 rfl) ?_
            refine gf_RX2_21 hx hb hts hown hK hP (hL 4 0 (xe_4 nb nn)) dX2_latest_53 ?_
            refine lv_iload hx hb dX2_latest_56 (lv_at hl 6 rfl) ?_
            refine x_iald hx hb hK hP (hL 18 0 (xe_18 nb nn)) (xc18 g 0) (ob_X2_latest_58_in nb nn word bank newest M hp0 n value lw i hmu hinv c_1 r_2 er_2 c_3 c_5 x5_7 ex5_7) dX2_latest_58 ?_
            refine lv_topi (fun x4_8 ex4_8 => ?_)
            replace hres := xlet_n hres ex4_8
            refine lv_istore (lv' := [(4, .int x4_8), (5, .int x5_7), (0, .ref (xad g 4 0)), (1, .int word), (2, .int bank), (3, .int newest), (6, .int i)]) hx hb dX2_latest_59 hl (by decide) rfl (fun ls hl => ?_)
            obtain ⟨x6_9, ex6_9⟩ : ∃ z_ : Int32, z_ = i + 1 := ⟨_, rfl⟩
            replace hres := xlet_n hres ex6_9
            refine lv_iinc (v := x6_9) (lv' := [(6, .int x6_9), (4, .int x4_8), (5, .int x5_7), (0, .ref (xad g 4 0)), (1, .int word), (2, .int bank), (3, .int newest)]) hx hb dX2_latest_61 hl (k := 6) rfl (by rw [ex6_9]; rfl) (by decide) rfl (fun ls hl => ?_)
            refine lv_goto (tgt := 10) hx hb dX2_latest_64 (by decide) ?_
            exact ih x4_8 x5_7 x6_9 _ _ _ kx (ob_X2_latest_10_mu_9 nb nn word bank newest M hp0 n value lw i hmu hinv c_1 r_2 er_2 c_3 c_5 x5_7 ex5_7 x4_8 ex4_8 x6_9 ex6_9) (ob_X2_latest_10_inv_9 nb nn word bank newest M hp0 n value lw i hmu hinv c_1 r_2 er_2 c_3 c_5 x5_7 ex5_7 x4_8 ex4_8 x6_9 ex6_9) hres hP hS (lv_sub hl [3, 4, 5, 6, 1, 2, 0] rfl) hex
  have hres := hF
  rw [f_X2_latest] at hres
  refine lv_ldc (own := RX2) (v := (-1000000)) hx hb hown (hts _ (List.mem_cons_of_mem _ wd_634)) dX2_latest_0 ?_
  refine lv_istore (lv' := [(4, .int (-1000000)), (0, .ref (xad g 4 0)), (1, .int word), (2, .int bank), (3, .int newest)]) hx hb dX2_latest_2 hl (by decide) rfl (fun ls hl => ?_)
  refine lv_iconst (v := (-1)) hx hb dX2_latest_4 (by decide) ?_
  refine lv_istore (lv' := [(5, .int (-1)), (4, .int (-1000000)), (0, .ref (xad g 4 0)), (1, .int word), (2, .int bank), (3, .int newest)]) hx hb dX2_latest_5 hl (by decide) rfl (fun ls hl => ?_)
  refine lv_iconst (v := 0) hx hb dX2_latest_7 (by decide) ?_
  refine lv_istore (lv' := [(6, .int 0), (5, .int (-1)), (4, .int (-1000000)), (0, .ref (xad g 4 0)), (1, .int word), (2, .int bank), (3, .int newest)]) hx hb dX2_latest_8 hl (by decide) rfl (fun ls hl => ?_)
  refine k_10 (xmu (0 : Int32) (M 4 0 4) + 1) (-1000000 : Int32) (-1 : Int32) (0 : Int32) _ _ _ _ (Nat.lt_succ_self _) (ob_X2_latest_10_ini_9 nb nn word bank newest M hp0) hres hP hS (lv_sub hl [3, 4, 5, 6, 2, 1, 0] rfl) ?_
  clear hres hP hS hl
  intro value_10 lw_11 i_12 H locs ls hiv_12 hres hP hS hl
  refine lv_iload hx hb dX2_latest_67 (lv_at hl 4 rfl) ?_
  exact x_reti hx hb hr hlk hP hS ⟨hres.symm.trans hF, rfl⟩ dX2_latest_69
set_option maxHeartbeats 4000000 in
set_option maxRecDepth 100000 in
theorem c_X2_off (l : Launch) (nb nn : Nat) (g : xG) (L : List (Nat × Nat)) (M : xM) (hD : xD g L) (hL : xEL nb nn L) (bank : Int32) (newest : Int32) (hp0 : M 4 0 4 ≤ 40) : xCi l yX2_off cX2_off 4 (some .int) 2 g L M [.ref (xad g 4 0), .int bank, .int newest] (fun r u => r = f_X2_off bank newest M ∧ u = M) := by
  intro sz
  refine x_beg (by decide +kernel) rfl ?_
  intro p e s m args below meth c ls hsz hB
  subst hsz
  obtain ⟨hx, hb, hml, hown, hts, hr, hlk, hK, hAm, hP, hl⟩ := hB
  have S : CallFix p m c cX2_off 4 s args (xws yX2_off cX2_off 4 (some .int)) RX2 := ⟨hx, hb, hml, hown, hts⟩
  have hown : s.vm.findClass RX2 = some m.cls := hown
  have hl : lv_has ls 4 [(0, .ref (xad g 4 0)), (1, .int bank), (2, .int newest)] := hl
  have hS : va_S (xA g L s.heap.size) s.heap s.heap [] := va_S.rf
  obtain ⟨F, hF⟩ : ∃ F, F = f_X2_off bank newest M := ⟨_, rfl⟩
  have hres := hF
  rw [f_X2_off] at hres
  refine lv_aload_n hx hb dX2_off_0 rfl (lv_at hl 0 rfl) ?_
  refine lv_iconst (v := 0) hx hb dX2_off_1 (by decide) ?_
  refine lv_iload_n hx hb dX2_off_2 rfl (lv_at hl 1 rfl) ?_
  refine lv_iload_n hx hb dX2_off_3 rfl (lv_at hl 2 rfl) ?_
  refine x_callVi (As := [.int 0, .int bank, .int newest]) S hK hAm hD hP hS mt_X2_latest wd_635 ⟨by decide, by decide⟩ (hL 4 0 (xe_4 nb nn)) (xc4 g 0) rfl (c_X2_latest l nb nn g L M hD hL 0 bank newest (ob_X2_off_4_p0 nb nn bank newest M hp0)) rfl hl.1 (Nat.le_of_ble_eq_true rfl) ⟨Nat.zero_le _, Nat.zero_le _⟩ dX2_off_4 rfl (fun r_1 u H locs hp_ hP hS => ?_)
  obtain ⟨er_1, eu_⟩ := hp_
  rw [eu_] at hP
  clear eu_
  replace hres := xlet_n hres er_1
  refine lv_istore_n (lv' := [(3, .int r_1), (0, .ref (xad g 4 0)), (1, .int bank), (2, .int newest)]) hx hb dX2_off_7 rfl hl (by decide) rfl (fun ls hl => ?_)
  refine lv_iload_n hx hb dX2_off_8 rfl (lv_at hl 0 rfl) ?_
  refine lv_ldc (own := RX2) (v := (-1000000)) hx hb hown (hts _ (List.mem_cons_of_mem _ wd_634)) dX2_off_9 ?_
  refine lv_icmp_ne (tgt := 18) hx hb dX2_off_11 (by decide) (fun c_2 => ?_) (fun c_2 => ?_)
  · replace hres := hres.trans (if_neg c_2)
    refine lv_iload_n hx hb dX2_off_18 rfl (lv_at hl 0 rfl) ?_
    exact x_reti hx hb hr hlk hP hS ⟨hres.symm.trans hF, rfl⟩ dX2_off_19
  · replace hres := hres.trans (if_pos c_2)
    refine lv_iconst (v := 0) hx hb dX2_off_14 (by decide) ?_
    refine lv_goto (tgt := 19) hx hb dX2_off_15 (by decide) ?_
    exact x_reti hx hb hr hlk hP hS ⟨hres.symm.trans hF, rfl⟩ dX2_off_19
set_option maxHeartbeats 4000000 in
set_option maxRecDepth 100000 in
theorem c_X2_falsePlates (l : Launch) (nb nn : Nat) (g : xG) (L : List (Nat × Nat)) (M : xM) (hD : xD g L) (hL : xEL nb nn L) (bank : Int32) (newest : Int32) (hp0 : M 4 0 4 ≤ 40) : xCi l yX2_falsePlates cX2_falsePlates 5 (some .int) 1 g L M [.ref (xad g 4 0), .int bank, .int newest] (fun r u => r = f_X2_falsePlates bank newest M ∧ u = M) := by
  intro sz
  refine x_beg (by decide +kernel) rfl ?_
  intro p e s m args below meth c ls hsz hB
  subst hsz
  obtain ⟨hx, hb, hml, hown, hts, hr, hlk, hK, hAm, hP, hl⟩ := hB
  have S : CallFix p m c cX2_falsePlates 5 s args (xws yX2_falsePlates cX2_falsePlates 5 (some .int)) RX2 := ⟨hx, hb, hml, hown, hts⟩
  have hown : s.vm.findClass RX2 = some m.cls := hown
  have hl : lv_has ls 5 [(0, .ref (xad g 4 0)), (1, .int bank), (2, .int newest)] := hl
  have hS : va_S (xA g L s.heap.size) s.heap s.heap [] := va_S.rf
  obtain ⟨F, hF⟩ : ∃ F, F = f_X2_falsePlates bank newest M := ⟨_, rfl⟩
  have k_5 : ∀ (n : Nat) (there : Int32) (i : Int32) (H : Heap) (locs : List Loc) (ls : Array Slot) (kx : (Int32 → Int32 → Int32)), xmu i (M 4 0 4) < n → 0 ≤ i → F = f_X2_falsePlates_L5 bank newest M n there i kx → xP g L M H → va_S (xA g L s.heap.size) s.heap H locs → lv_has ls 5 [(0, .ref (xad g 4 0)), (1, .int bank), (2, .int newest), (3, .int there), (4, .int i)] → (∀ (there : Int32) (i : Int32) (H : Heap) (locs : List Loc) (ls : Array Slot), 0 ≤ i → F = kx there i → xP g L M H → va_S (xA g L s.heap.size) s.heap H locs → lv_has ls 5 [(0, .ref (xad g 4 0)), (1, .int bank), (2, .int newest), (3, .int there), (4, .int i)] → W p l e (xr 1) s m args below meth c H locs 0 0 (MQ below (va_Qi (fun r u => r = f_X2_falsePlates bank newest M ∧ u = M) (xPost g L) (xA g L s.heap.size)) args s 0 0 (xA g L s.heap.size)) (F0 m 35 ls [])) → W p l e (xr 1) s m args below meth c H locs 0 0 (MQ below (va_Qi (fun r u => r = f_X2_falsePlates bank newest M ∧ u = M) (xPost g L) (xA g L s.heap.size)) args s 0 0 (xA g L s.heap.size)) (F0 m 5 ls []) := by
    intro n
    induction n with
    | zero => intro there i H locs ls kx hmu; exact absurd hmu (Nat.not_lt_zero _)
    | succ n ih =>
      intro there i H locs ls kx hmu hinv hres hP hS hl hex
      replace hres : F = _ := hres.trans (by rw [f_X2_falsePlates_L5])
      refine lv_iload hx hb dX2_falsePlates_5 (lv_at hl 4 rfl) ?_
      refine lv_aload_n hx hb dX2_falsePlates_7 rfl (lv_at hl 0 rfl) ?_
      refine gf_RX2_24 hx hb hts hown hK hP (hL 4 0 (xe_4 nb nn)) dX2_falsePlates_8 ?_
      refine lv_icmp_ge (tgt := 35) hx hb dX2_falsePlates_11 (by decide) (fun c_1 => ?_) (fun c_1 => ?_)
      · replace hres := hres.trans (if_pos c_1)
        exact hex there i _ _ _ (ob_X2_falsePlates_35_x5 nb nn bank newest M hp0 n there i hmu hinv c_1) hres hP hS (lv_sub hl [0, 1, 2, 3, 4] rfl)
      · replace hres := hres.trans (if_neg c_1)
        refine lv_aload_n hx hb dX2_falsePlates_14 rfl (lv_at hl 0 rfl) ?_
        refine lv_iload hx hb dX2_falsePlates_15 (lv_at hl 4 rfl) ?_
        refine lv_iconst (v := 1) hx hb dX2_falsePlates_17 (by decide) ?_
        refine lv_iload_n hx hb dX2_falsePlates_18 rfl (lv_at hl 1 rfl) ?_
        refine lv_iload_n hx hb dX2_falsePlates_19 rfl (lv_at hl 2 rfl) ?_
        refine x_callVi (As := [.int i, .int 1, .int bank, .int newest]) S hK hAm hD hP hS mt_X2_isKnown wd_639 ⟨by decide, by decide⟩ (hL 4 0 (xe_4 nb nn)) (xc4 g 0) rfl (c_X2_isKnown l nb nn g L M hD hL i 1 bank newest (ob_X2_falsePlates_20_p0 nb nn bank newest M hp0 n there i hmu hinv c_1) (ob_X2_falsePlates_20_p1 nb nn bank newest M hp0 n there i hmu hinv c_1)) rfl hl.1 (Nat.le_of_ble_eq_true rfl) ⟨Nat.zero_le _, Nat.zero_le _⟩ dX2_falsePlates_20 rfl (fun r_2 u H locs hp_ hP hS => ?_)
        obtain ⟨er_2, eu_⟩ := hp_
        rw [eu_] at hP
        clear eu_
        replace hres := xlet_n hres er_2
        refine lv_if_eq (tgt := 29) hx hb dX2_falsePlates_23 (by decide) (fun c_3 => ?_) (fun c_3 => ?_)
        · replace hres := hres.trans (if_pos c_3)
          obtain ⟨x4_4, ex4_4⟩ : ∃ z_ : Int32, z_ = i + 1 := ⟨_, rfl⟩
          replace hres := xlet_n hres ex4_4
          refine lv_iinc (v := x4_4) (lv' := [(4, .int x4_4), (0, .ref (xad g 4 0)), (1, .int bank), (2, .int newest), (3, .int there)]) hx hb dX2_falsePlates_29 hl (k := 4) rfl (by rw [ex4_4]; rfl) (by decide) rfl (fun ls hl => ?_)
          refine lv_goto (tgt := 5) hx hb dX2_falsePlates_32 (by decide) ?_
          exact ih there x4_4 _ _ _ kx (ob_X2_falsePlates_5_mu_4 nb nn bank newest M hp0 n there i hmu hinv c_1 r_2 er_2 c_3 x4_4 ex4_4) (ob_X2_falsePlates_5_inv_4 nb nn bank newest M hp0 n there i hmu hinv c_1 r_2 er_2 c_3 x4_4 ex4_4) hres hP hS (lv_sub hl [1, 2, 3, 4, 0] rfl) hex
        · replace hres := hres.trans (if_neg c_3)
          obtain ⟨x3_5, ex3_5⟩ : ∃ z_ : Int32, z_ = there + 1 := ⟨_, rfl⟩
          replace hres := xlet_n hres ex3_5
          refine lv_iinc (v := x3_5) (lv' := [(3, .int x3_5), (0, .ref (xad g 4 0)), (1, .int bank), (2, .int newest), (4, .int i)]) hx hb dX2_falsePlates_26 hl (k := 3) rfl (by rw [ex3_5]; rfl) (by decide) rfl (fun ls hl => ?_)
          obtain ⟨x4_6, ex4_6⟩ : ∃ z_ : Int32, z_ = i + 1 := ⟨_, rfl⟩
          replace hres := xlet_n hres ex4_6
          refine lv_iinc (v := x4_6) (lv' := [(4, .int x4_6), (3, .int x3_5), (0, .ref (xad g 4 0)), (1, .int bank), (2, .int newest)]) hx hb dX2_falsePlates_29 hl (k := 4) rfl (by rw [ex4_6]; rfl) (by decide) rfl (fun ls hl => ?_)
          refine lv_goto (tgt := 5) hx hb dX2_falsePlates_32 (by decide) ?_
          exact ih x3_5 x4_6 _ _ _ kx (ob_X2_falsePlates_5_mu_6 nb nn bank newest M hp0 n there i hmu hinv c_1 r_2 er_2 c_3 x3_5 ex3_5 x4_6 ex4_6) (ob_X2_falsePlates_5_inv_6 nb nn bank newest M hp0 n there i hmu hinv c_1 r_2 er_2 c_3 x3_5 ex3_5 x4_6 ex4_6) hres hP hS (lv_sub hl [2, 3, 4, 1, 0] rfl) hex
  have hres := hF
  rw [f_X2_falsePlates] at hres
  refine lv_iconst (v := 0) hx hb dX2_falsePlates_0 (by decide) ?_
  refine lv_istore_n (lv' := [(3, .int 0), (0, .ref (xad g 4 0)), (1, .int bank), (2, .int newest)]) hx hb dX2_falsePlates_1 rfl hl (by decide) rfl (fun ls hl => ?_)
  refine lv_iconst (v := 0) hx hb dX2_falsePlates_2 (by decide) ?_
  refine lv_istore (lv' := [(4, .int 0), (3, .int 0), (0, .ref (xad g 4 0)), (1, .int bank), (2, .int newest)]) hx hb dX2_falsePlates_3 hl (by decide) rfl (fun ls hl => ?_)
  refine k_5 (xmu (0 : Int32) (M 4 0 4) + 1) (0 : Int32) (0 : Int32) _ _ _ _ (Nat.lt_succ_self _) (ob_X2_falsePlates_5_ini_6 nb nn bank newest M hp0) hres hP hS (lv_sub hl [2, 3, 4, 1, 0] rfl) ?_
  clear hres hP hS hl
  intro there_7 i_8 H locs ls hiv_8 hres hP hS hl
  refine lv_iload_n hx hb dX2_falsePlates_35 rfl (lv_at hl 3 rfl) ?_
  exact x_reti hx hb hr hlk hP hS ⟨hres.symm.trans hF, rfl⟩ dX2_falsePlates_36
set_option maxHeartbeats 4000000 in
set_option maxRecDepth 100000 in
theorem c_X2_tellApart (l : Launch) (nb nn : Nat) (g : xG) (L : List (Nat × Nat)) (M : xM) (hD : xD g L) (hL : xEL nb nn L) (note : Nat) (newest : Int32) (hnote : note < nn) (hp0 : M 4 0 4 ≤ 40) : xCi l yX2_tellApart cX2_tellApart 5 (some .boolean) 1 g L M [.ref (xad g 4 0), .ref (xad g 29 note), .int newest] (fun r u => r = xb (f_X2_tellApart note newest M) ∧ u = M) := by
  intro sz
  refine x_beg (by decide +kernel) rfl ?_
  intro p e s m args below meth c ls hsz hB
  subst hsz
  obtain ⟨hx, hb, hml, hown, hts, hr, hlk, hK, hAm, hP, hl⟩ := hB
  have S : CallFix p m c cX2_tellApart 5 s args (xws yX2_tellApart cX2_tellApart 5 (some .boolean)) RX2 := ⟨hx, hb, hml, hown, hts⟩
  have hown : s.vm.findClass RX2 = some m.cls := hown
  have hl : lv_has ls 5 [(0, .ref (xad g 4 0)), (1, .ref (xad g 29 note)), (2, .int newest)] := hl
  have hS : va_S (xA g L s.heap.size) s.heap s.heap [] := va_S.rf
  obtain ⟨F, hF⟩ : ∃ F, F = f_X2_tellApart note newest M := ⟨_, rfl⟩
  have k_5 : ∀ (n : Nat) (some_ : Int32) (i : Int32) (H : Heap) (locs : List Loc) (ls : Array Slot) (kx : (Int32 → Int32 → Bool)), xmu i (M 4 0 4) < n → 0 ≤ i ∧ (some_ = 0 ∨ some_ = 1) → F = f_X2_tellApart_L5 note newest M n some_ i kx → xP g L M H → va_S (xA g L s.heap.size) s.heap H locs → lv_has ls 5 [(0, .ref (xad g 4 0)), (1, .ref (xad g 29 note)), (2, .int newest), (3, .int some_), (4, .int i)] → (∀ (some_ : Int32) (i : Int32) (H : Heap) (locs : List Loc) (ls : Array Slot), 0 ≤ i ∧ (some_ = 0 ∨ some_ = 1) → F = kx some_ i → xP g L M H → va_S (xA g L s.heap.size) s.heap H locs → lv_has ls 5 [(0, .ref (xad g 4 0)), (1, .ref (xad g 29 note)), (2, .int newest), (3, .int some_), (4, .int i)] → W p l e (xr 1) s m args below meth c H locs 0 0 (MQ below (va_Qi (fun r u => r = xb (f_X2_tellApart note newest M) ∧ u = M) (xPost g L) (xA g L s.heap.size)) args s 0 0 (xA g L s.heap.size)) (F0 m 53 ls [])) → W p l e (xr 1) s m args below meth c H locs 0 0 (MQ below (va_Qi (fun r u => r = xb (f_X2_tellApart note newest M) ∧ u = M) (xPost g L) (xA g L s.heap.size)) args s 0 0 (xA g L s.heap.size)) (F0 m 5 ls []) := by
    intro n
    induction n with
    | zero => intro some_ i H locs ls kx hmu; exact absurd hmu (Nat.not_lt_zero _)
    | succ n ih =>
      intro some_ i H locs ls kx hmu hinv hres hP hS hl hex
      replace hres : F = _ := hres.trans (by rw [f_X2_tellApart_L5])
      refine lv_iload hx hb dX2_tellApart_5 (lv_at hl 4 rfl) ?_
      refine lv_aload_n hx hb dX2_tellApart_7 rfl (lv_at hl 0 rfl) ?_
      refine gf_RX2_24 hx hb hts hown hK hP (hL 4 0 (xe_4 nb nn)) dX2_tellApart_8 ?_
      refine lv_icmp_ge (tgt := 53) hx hb dX2_tellApart_11 (by decide) (fun c_1 => ?_) (fun c_1 => ?_)
      · replace hres := hres.trans (if_pos c_1)
        exact hex some_ i _ _ _ (ob_X2_tellApart_53_x5 nb nn note newest M hnote hp0 n some_ i hmu hinv c_1) hres hP hS (lv_sub hl [0, 1, 2, 3, 4] rfl)
      · replace hres := hres.trans (if_neg c_1)
        refine lv_aload_n hx hb dX2_tellApart_14 rfl (lv_at hl 0 rfl) ?_
        refine lv_iload hx hb dX2_tellApart_15 (lv_at hl 4 rfl) ?_
        refine lv_iconst (v := 1) hx hb dX2_tellApart_17 (by decide) ?_
        refine lv_aload_n hx hb dX2_tellApart_18 rfl (lv_at hl 1 rfl) ?_
        refine gf_RX2_43 hx hb hts hown hK hP (hL 29 note hnote) dX2_tellApart_19 ?_
        refine lv_iload_n hx hb dX2_tellApart_22 rfl (lv_at hl 2 rfl) ?_
        refine x_callVi (As := [.int i, .int 1, .int (M 29 note 1), .int newest]) S hK hAm hD hP hS mt_X2_isKnown wd_639 ⟨by decide, by decide⟩ (hL 4 0 (xe_4 nb nn)) (xc4 g 0) rfl (c_X2_isKnown l nb nn g L M hD hL i 1 (M 29 note 1) newest (ob_X2_tellApart_23_p0 nb nn note newest M hnote hp0 n some_ i hmu hinv c_1) (ob_X2_tellApart_23_p1 nb nn note newest M hnote hp0 n some_ i hmu hinv c_1)) rfl hl.1 (Nat.le_of_ble_eq_true rfl) ⟨Nat.zero_le _, Nat.zero_le _⟩ dX2_tellApart_23 rfl (fun r_2 u H locs hp_ hP hS => ?_)
        obtain ⟨er_2, eu_⟩ := hp_
        rw [eu_] at hP
        clear eu_
        replace hres := xlet_n hres er_2
        refine lv_if_eq (tgt := 47) hx hb dX2_tellApart_26 (by decide) (fun c_3 => ?_) (fun c_3 => ?_)
        · replace hres := hres.trans (if_pos c_3)
          obtain ⟨x4_4, ex4_4⟩ : ∃ z_ : Int32, z_ = i + 1 := ⟨_, rfl⟩
          replace hres := xlet_n hres ex4_4
          refine lv_iinc (v := x4_4) (lv' := [(4, .int x4_4), (0, .ref (xad g 4 0)), (1, .ref (xad g 29 note)), (2, .int newest), (3, .int some_)]) hx hb dX2_tellApart_47 hl (k := 4) rfl (by rw [ex4_4]; rfl) (by decide) rfl (fun ls hl => ?_)
          refine lv_goto (tgt := 5) hx hb dX2_tellApart_50 (by decide) ?_
          exact ih some_ x4_4 _ _ _ kx (ob_X2_tellApart_5_mu_4 nb nn note newest M hnote hp0 n some_ i hmu hinv c_1 r_2 er_2 c_3 x4_4 ex4_4) (ob_X2_tellApart_5_inv_4 nb nn note newest M hnote hp0 n some_ i hmu hinv c_1 r_2 er_2 c_3 x4_4 ex4_4) hres hP hS (lv_sub hl [1, 2, 3, 4, 0] rfl) hex
        · replace hres := hres.trans (if_neg c_3)
          refine lv_iconst (v := 1) hx hb dX2_tellApart_29 (by decide) ?_
          refine lv_istore_n (lv' := [(3, .int 1), (0, .ref (xad g 4 0)), (1, .ref (xad g 29 note)), (2, .int newest), (4, .int i)]) hx hb dX2_tellApart_30 rfl hl (by decide) rfl (fun ls hl => ?_)
          refine lv_aload_n hx hb dX2_tellApart_31 rfl (lv_at hl 2 rfl) ?_
          refine lv_aload_n hx hb dX2_tellApart_32 rfl (lv_at hl 1 rfl) ?_
          refine gf_RX2_21 hx hb hts hown hK hP (hL 4 0 (xe_4 nb nn)) dX2_tellApart_33 ?_
          refine lv_iload hx hb dX2_tellApart_36 (lv_at hl 4 rfl) ?_
          refine x_iald hx hb hK hP (hL 18 0 (xe_18 nb nn)) (xc18 g 0) (ob_X2_tellApart_38_in nb nn note newest M hnote hp0 n some_ i hmu hinv c_1 r_2 er_2 c_3) dX2_tellApart_38 ?_
          refine x_callVi (As := [.int (M 18 0 i.toNatClampNeg)]) S hK hAm hD hP hS mt_X4_isUnlike wd_755 ⟨by decide, by decide⟩ (hL 29 note hnote) (xc29 g note) rfl (c_X4_isUnlike l nb nn g L M hD hL note (M 18 0 i.toNatClampNeg) hnote) rfl hl.1 (Nat.le_of_ble_eq_true rfl) ⟨Nat.zero_le _, Nat.zero_le _⟩ dX2_tellApart_39 rfl (fun r_5 u H locs hp_ hP hS => ?_)
          obtain ⟨er_5, eu_⟩ := hp_
          rw [eu_] at hP
          clear eu_
          replace hres := xlet_n hres er_5
          refine lv_if_ne (tgt := 47) hx hb dX2_tellApart_42 (by decide) (fun c_6 => ?_) (fun c_6 => ?_)
          · replace hres := hres.trans (if_neg c_6)
            obtain ⟨x4_7, ex4_7⟩ : ∃ z_ : Int32, z_ = i + 1 := ⟨_, rfl⟩
            replace hres := xlet_n hres ex4_7
            refine lv_iinc (v := x4_7) (lv' := [(4, .int x4_7), (3, .int 1), (0, .ref (xad g 4 0)), (1, .ref (xad g 29 note)), (2, .int newest)]) hx hb dX2_tellApart_47 hl (k := 4) rfl (by rw [ex4_7]; rfl) (by decide) rfl (fun ls hl => ?_)
            refine lv_goto (tgt := 5) hx hb dX2_tellApart_50 (by decide) ?_
            exact ih (1 : Int32) x4_7 _ _ _ kx (ob_X2_tellApart_5_mu_7 nb nn note newest M hnote hp0 n some_ i hmu hinv c_1 r_2 er_2 c_3 r_5 er_5 c_6 x4_7 ex4_7) (ob_X2_tellApart_5_inv_7 nb nn note newest M hnote hp0 n some_ i hmu hinv c_1 r_2 er_2 c_3 r_5 er_5 c_6 x4_7 ex4_7) hres hP hS (lv_sub hl [2, 3, 4, 1, 0] rfl) hex
          · replace hres := hres.trans (if_pos c_6)
            refine lv_iconst (v := 0) hx hb dX2_tellApart_45 (by decide) ?_
            exact x_retz hx hb hr hlk hP hS rfl ⟨(congrArg xb (hres.symm.trans hF)), rfl⟩ dX2_tellApart_46
  have hres := hF
  rw [f_X2_tellApart] at hres
  refine lv_iconst (v := 0) hx hb dX2_tellApart_0 (by decide) ?_
  refine lv_istore_n (lv' := [(3, .int 0), (0, .ref (xad g 4 0)), (1, .ref (xad g 29 note)), (2, .int newest)]) hx hb dX2_tellApart_1 rfl hl (by decide) rfl (fun ls hl => ?_)
  refine lv_iconst (v := 0) hx hb dX2_tellApart_2 (by decide) ?_
  refine lv_istore (lv' := [(4, .int 0), (3, .int 0), (0, .ref (xad g 4 0)), (1, .ref (xad g 29 note)), (2, .int newest)]) hx hb dX2_tellApart_3 hl (by decide) rfl (fun ls hl => ?_)
  refine k_5 (xmu (0 : Int32) (M 4 0 4) + 1) (0 : Int32) (0 : Int32) _ _ _ _ (Nat.lt_succ_self _) (ob_X2_tellApart_5_ini_7 nb nn note newest M hnote hp0) hres hP hS (lv_sub hl [2, 3, 4, 1, 0] rfl) ?_
  clear hres hP hS hl
  intro some__8 i_9 H locs ls hiv_9 hres hP hS hl
  refine lv_iload_n hx hb dX2_tellApart_53 rfl (lv_at hl 3 rfl) ?_
  exact x_retz hx hb hr hlk hP hS (xbv_nar (ob_X2_tellApart_54_b nb nn note newest M hnote hp0 some__8 i_9 hiv_9)) ⟨(xbv (ob_X2_tellApart_54_b nb nn note newest M hnote hp0 some__8 i_9 hiv_9)).trans (congrArg xb (hres.symm.trans hF)), rfl⟩ dX2_tellApart_54
set_option maxHeartbeats 4000000 in
set_option maxRecDepth 100000 in
theorem c_X7_hasRoom (l : Launch) (nb nn : Nat) (g : xG) (L : List (Nat × Nat)) (M : xM) (hD : xD g L) (hL : xEL nb nn L) (z : Int32)  : xCi l yX7_hasRoom cX7_hasRoom 2 (some .boolean) 0 g L M [.ref (xad g 5 0), .int z] (fun r u => r = xb (f_X7_hasRoom z M) ∧ u = M) := by
  intro sz
  refine x_beg (by decide +kernel) rfl ?_
  intro p e s m args below meth c ls hsz hB
  subst hsz
  obtain ⟨hx, hb, hml, hown, hts, hr, hlk, hK, hAm, hP, hl⟩ := hB
  have S : CallFix p m c cX7_hasRoom 2 s args (xws yX7_hasRoom cX7_hasRoom 2 (some .boolean)) RX7 := ⟨hx, hb, hml, hown, hts⟩
  have hown : s.vm.findClass RX7 = some m.cls := hown
  have hl : lv_has ls 2 [(0, .ref (xad g 5 0)), (1, .int z)] := hl
  have hS : va_S (xA g L s.heap.size) s.heap s.heap [] := va_S.rf
  obtain ⟨F, hF⟩ : ∃ F, F = f_X7_hasRoom z M := ⟨_, rfl⟩
  have hres := hF
  rw [f_X7_hasRoom] at hres
  refine lv_iload_n hx hb dX7_hasRoom_0 rfl (lv_at hl 1 rfl) ?_
  refine lv_sipush (v := 400) hx hb dX7_hasRoom_1 (by decide) ?_
  refine lv_aload_n hx hb dX7_hasRoom_4 rfl (lv_at hl 0 rfl) ?_
  refine gf_RX7_17 hx hb hts hown hK hP (hL 5 0 (xe_5 nb nn)) dX7_hasRoom_5 ?_
  refine lv_isub hx hb dX7_hasRoom_8 ?_
  refine lv_icmp_gt (tgt := 16) hx hb dX7_hasRoom_9 (by decide) (fun c_1 => ?_) (fun c_1 => ?_)
  · replace hres := hres.trans (if_pos c_1)
    refine lv_iconst (v := 0) hx hb dX7_hasRoom_16 (by decide) ?_
    exact x_retz hx hb hr hlk hP hS rfl ⟨(congrArg xb (hres.symm.trans hF)), rfl⟩ dX7_hasRoom_17
  · replace hres := hres.trans (if_neg c_1)
    refine lv_iconst (v := 1) hx hb dX7_hasRoom_12 (by decide) ?_
    refine lv_goto (tgt := 17) hx hb dX7_hasRoom_13 (by decide) ?_
    exact x_retz hx hb hr hlk hP hS rfl ⟨(congrArg xb (hres.symm.trans hF)), rfl⟩ dX7_hasRoom_17
set_option maxHeartbeats 4000000 in
set_option maxRecDepth 100000 in
theorem c_X7_empty (l : Launch) (nb nn : Nat) (g : xG) (L : List (Nat × Nat)) (M : xM) (hD : xD g L) (hL : xEL nb nn L)   : xCv l yX7_empty cX7_empty 1 0 g L M [.ref (xad g 5 0)] (fun u => u = f_X7_empty  M) := by
  intro sz
  refine x_beg (by decide +kernel) rfl ?_
  intro p e s m args below meth c ls hsz hB
  subst hsz
  obtain ⟨hx, hb, hml, hown, hts, hr, hlk, hK, hAm, hP, hl⟩ := hB
  have S : CallFix p m c cX7_empty 1 s args (xws yX7_empty cX7_empty 1 none) RX7 := ⟨hx, hb, hml, hown, hts⟩
  have hown : s.vm.findClass RX7 = some m.cls := hown
  have hl : lv_has ls 1 [(0, .ref (xad g 5 0))] := hl
  have hS : va_S (xA g L s.heap.size) s.heap s.heap [] := va_S.rf
  obtain ⟨F, hF⟩ : ∃ F, F = f_X7_empty  M := ⟨_, rfl⟩
  have hres := hF
  rw [f_X7_empty] at hres
  refine lv_aload_n hx hb dX7_empty_0 rfl (lv_at hl 0 rfl) ?_
  refine lv_iconst (v := 0) hx hb dX7_empty_1 (by decide) ?_
  refine pf_RX7_17 hx hb hts hown hK hP hD hS (hL 5 0 (xe_5 nb nn)) dX7_empty_2 (fun H locs hP hS => ?_)
  obtain ⟨M_1, eM_1⟩ : ∃ z_ : xM, z_ = xup M 5 0 2 0 := ⟨_, rfl⟩
  rw [← eM_1] at hP
  replace hres := xlet_n hres eM_1
  exact x_retv hx hb hr hlk hP hS (hres.symm.trans hF) dX7_empty_5
set_option maxHeartbeats 4000000 in
set_option maxRecDepth 100000 in
theorem c_X7_rewind (l : Launch) (nb nn : Nat) (g : xG) (L : List (Nat × Nat)) (M : xM) (hD : xD g L) (hL : xEL nb nn L)   : xCv l yX7_rewind cX7_rewind 1 0 g L M [.ref (xad g 5 0)] (fun u => u = f_X7_rewind  M) := by
  intro sz
  refine x_beg (by decide +kernel) rfl ?_
  intro p e s m args below meth c ls hsz hB
  subst hsz
  obtain ⟨hx, hb, hml, hown, hts, hr, hlk, hK, hAm, hP, hl⟩ := hB
  have S : CallFix p m c cX7_rewind 1 s args (xws yX7_rewind cX7_rewind 1 none) RX7 := ⟨hx, hb, hml, hown, hts⟩
  have hown : s.vm.findClass RX7 = some m.cls := hown
  have hl : lv_has ls 1 [(0, .ref (xad g 5 0))] := hl
  have hS : va_S (xA g L s.heap.size) s.heap s.heap [] := va_S.rf
  obtain ⟨F, hF⟩ : ∃ F, F = f_X7_rewind  M := ⟨_, rfl⟩
  have hres := hF
  rw [f_X7_rewind] at hres
  refine lv_aload_n hx hb dX7_rewind_0 rfl (lv_at hl 0 rfl) ?_
  refine lv_iconst (v := 0) hx hb dX7_rewind_1 (by decide) ?_
  refine pf_RX7_13 hx hb hts hown hK hP hD hS (hL 5 0 (xe_5 nb nn)) dX7_rewind_2 (fun H locs hP hS => ?_)
  obtain ⟨M_1, eM_1⟩ : ∃ z_ : xM, z_ = xup M 5 0 1 0 := ⟨_, rfl⟩
  rw [← eM_1] at hP
  replace hres := xlet_n hres eM_1
  exact x_retv hx hb hr hlk hP hS (hres.symm.trans hF) dX7_rewind_5
set_option maxHeartbeats 4000000 in
set_option maxRecDepth 100000 in
theorem c_X7_append (l : Launch) (nb nn : Nat) (g : xG) (L : List (Nat × Nat)) (M : xM) (hD : xD g L) (hL : xEL nb nn L) (wd : Int64) (z : Int32) (hp0 : 0 ≤ M 5 0 2) : xCv l yX7_append cX7_append 5 0 g L M [.ref (xad g 5 0), .long wd, .int z] (fun u => u = f_X7_append wd z M) := by
  intro sz
  refine x_beg (by decide +kernel) rfl ?_
  intro p e s m args below meth c ls hsz hB
  subst hsz
  obtain ⟨hx, hb, hml, hown, hts, hr, hlk, hK, hAm, hP, hl⟩ := hB
  have S : CallFix p m c cX7_append 5 s args (xws yX7_append cX7_append 5 none) RX7 := ⟨hx, hb, hml, hown, hts⟩
  have hown : s.vm.findClass RX7 = some m.cls := hown
  have hl : lv_has ls 5 [(0, .ref (xad g 5 0)), (1, .long wd), (3, .int z)] := hl
  have hS : va_S (xA g L s.heap.size) s.heap s.heap [] := va_S.rf
  obtain ⟨F, hF⟩ : ∃ F, F = f_X7_append wd z M := ⟨_, rfl⟩
  have k_5 : ∀ (n : Nat) (left : Int32) (N_ : xM) (H : Heap) (locs : List Loc) (ls : Array Slot) (kx : (Int32 → xM → xM)), xmu (-1) left < n → 0 ≤ N_ 5 0 2 → F = f_X7_append_L5 wd z n left N_ kx → xP g L N_ H → va_S (xA g L s.heap.size) s.heap H locs → lv_has ls 5 [(0, .ref (xad g 5 0)), (1, .long wd), (3, .int z), (4, .int left)] → (∀ (left : Int32) (N_ : xM) (H : Heap) (locs : List Loc) (ls : Array Slot), 0 ≤ N_ 5 0 2 → F = kx left N_ → xP g L N_ H → va_S (xA g L s.heap.size) s.heap H locs → lv_has ls 5 [(0, .ref (xad g 5 0)), (1, .long wd), (3, .int z), (4, .int left)] → W p l e (xr 0) s m args below meth c H locs 0 0 (MQ below (va_Qv (fun u => u = f_X7_append wd z M) (xPost g L) (xA g L s.heap.size)) args s 0 0 (xA g L s.heap.size)) (F0 m 54 ls [])) → W p l e (xr 0) s m args below meth c H locs 0 0 (MQ below (va_Qv (fun u => u = f_X7_append wd z M) (xPost g L) (xA g L s.heap.size)) args s 0 0 (xA g L s.heap.size)) (F0 m 5 ls []) := by
    intro n
    induction n with
    | zero => intro left N_ H locs ls kx hmu; exact absurd hmu (Nat.not_lt_zero _)
    | succ n ih =>
      intro left N_ H locs ls kx hmu hinv hres hP hS hl hex
      replace hres : F = _ := hres.trans (by rw [f_X7_append_L5])
      refine lv_iload hx hb dX7_append_5 (lv_at hl 3 rfl) ?_
      refine lv_if_lt (tgt := 54) hx hb dX7_append_7 (by decide) (fun c_1 => ?_) (fun c_1 => ?_)
      · replace hres := hres.trans (if_pos c_1)
        exact hex left N_ _ _ _ (ob_X7_append_54_x5 nb nn wd z M hp0 n left N_ hmu hinv c_1) hres hP hS (lv_sub hl [0, 1, 2, 3] rfl)
      · replace hres := hres.trans (if_neg c_1)
        refine lv_aload_n hx hb dX7_append_10 rfl (lv_at hl 0 rfl) ?_
        refine gf_RX7_17 hx hb hts hown hK hP (hL 5 0 (xe_5 nb nn)) dX7_append_11 ?_
        refine lv_sipush (v := 400) hx hb dX7_append_14 (by decide) ?_
        refine lv_icmp_ge (tgt := 54) hx hb dX7_append_17 (by decide) (fun c_2 => ?_) (fun c_2 => ?_)
        · replace hres := hres.trans (if_pos c_2)
          exact hex left N_ _ _ _ (ob_X7_append_54_x5_2 nb nn wd z M hp0 n left N_ hmu hinv c_1 c_2) hres hP hS (lv_sub hl [0, 1, 2, 3] rfl)
        · replace hres := hres.trans (if_neg c_2)
          refine lv_aload_n hx hb dX7_append_20 rfl (lv_at hl 0 rfl) ?_
          refine gf_RX7_9 hx hb hts hown hK hP (hL 5 0 (xe_5 nb nn)) dX7_append_21 ?_
          refine lv_aload_n hx hb dX7_append_24 rfl (lv_at hl 0 rfl) ?_
          refine gf_RX7_17 hx hb hts hown hK hP (hL 5 0 (xe_5 nb nn)) dX7_append_25 ?_
          refine lv_lload_n hx hb dX7_append_28 rfl (lv_at hl 1 rfl) ?_
          refine lv_iload hx hb dX7_append_29 (lv_at hl 3 rfl) ?_
          refine lv_bipush (v := 8) hx hb dX7_append_31 (by decide) ?_
          refine lv_imul hx hb dX7_append_33 ?_
          refine lv_lushr (v := (wd.toUInt64 >>> ((left * 8).toInt64.toUInt64 &&& Int64.toUInt64 63)).toInt64) hx hb dX7_append_34 rfl ?_
          refine lv_l2i (v := ((wd.toUInt64 >>> ((left * 8).toInt64.toUInt64 &&& Int64.toUInt64 63)).toInt64).toInt32) hx hb dX7_append_35 rfl ?_
          refine lv_i2b (v := (((wd.toUInt64 >>> ((left * 8).toInt64.toUInt64 &&& Int64.toUInt64 63)).toInt64).toInt32).toInt8.toInt32) hx hb dX7_append_36 rfl ?_
          refine lv_topi (fun v_3 ev_3 => ?_)
          replace hres := xlet_n hres ev_3
          refine x_bast hx hb hK hP hD hS (hL 19 0 (xe_19 nb nn)) (xc19 g 0) (ob_X7_append_37_in nb nn wd z M hp0 n left N_ hmu hinv c_1 c_2 v_3 ev_3) dX7_append_37 (fun H locs hP hS => ?_)
          obtain ⟨M_4, eM_4⟩ : ∃ z_ : xM, z_ = xup N_ 19 0 (N_ 5 0 2).toNatClampNeg (vp_nar .byte v_3) := ⟨_, rfl⟩
          rw [← eM_4] at hP
          replace hres := xlet_n hres eM_4
          refine lv_aload_n hx hb dX7_append_38 rfl (lv_at hl 0 rfl) ?_
          refine lv_dup hx hb dX7_append_39 rfl ?_
          refine gf_RX7_17 hx hb hts hown hK hP (hL 5 0 (xe_5 nb nn)) dX7_append_40 ?_
          refine lv_iconst (v := 1) hx hb dX7_append_43 (by decide) ?_
          refine lv_iadd hx hb dX7_append_44 ?_
          refine lv_topi (fun v_5 ev_5 => ?_)
          replace hres := xlet_n hres ev_5
          refine pf_RX7_17 hx hb hts hown hK hP hD hS (hL 5 0 (xe_5 nb nn)) dX7_append_45 (fun H locs hP hS => ?_)
          obtain ⟨M_6, eM_6⟩ : ∃ z_ : xM, z_ = xup M_4 5 0 2 v_5 := ⟨_, rfl⟩
          rw [← eM_6] at hP
          replace hres := xlet_n hres eM_6
          obtain ⟨x4_7, ex4_7⟩ : ∃ z_ : Int32, z_ = left + (-1) := ⟨_, rfl⟩
          replace hres := xlet_n hres ex4_7
          refine lv_iinc (v := x4_7) (lv' := [(4, .int x4_7), (0, .ref (xad g 5 0)), (1, .long wd), (3, .int z)]) hx hb dX7_append_48 hl (k := 3) rfl (by rw [ex4_7]; rfl) (by decide) rfl (fun ls hl => ?_)
          refine lv_goto (tgt := 5) hx hb dX7_append_51 (by decide) ?_
          exact ih x4_7 M_6 _ _ _ kx (ob_X7_append_5_mu_7 nb nn wd z M hp0 n left N_ hmu hinv c_1 c_2 v_3 ev_3 M_4 eM_4 v_5 ev_5 M_6 eM_6 x4_7 ex4_7) (ob_X7_append_5_inv_7 nb nn wd z M hp0 n left N_ hmu hinv c_1 c_2 v_3 ev_3 M_4 eM_4 v_5 ev_5 M_6 eM_6 x4_7 ex4_7) hres hP hS (lv_sub hl [1, 2, 3, 0] rfl) hex
  have hres := hF
  rw [f_X7_append] at hres
  refine lv_iload_n hx hb dX7_append_0 rfl (lv_at hl 2 rfl) ?_
  refine lv_iconst (v := 1) hx hb dX7_append_1 (by decide) ?_
  refine lv_isub hx hb dX7_append_2 ?_
  refine lv_topi (fun x4_8 ex4_8 => ?_)
  replace hres := xlet_n hres ex4_8
  refine lv_istore (lv' := [(4, .int x4_8), (0, .ref (xad g 5 0)), (1, .long wd), (3, .int z)]) hx hb dX7_append_3 hl (by decide) rfl (fun ls hl => ?_)
  refine k_5 (xmu (-1) x4_8 + 1) x4_8 M _ _ _ _ (Nat.lt_succ_self _) (ob_X7_append_5_ini_8 nb nn wd z M hp0 x4_8 ex4_8) hres hP hS (lv_sub hl [1, 2, 3, 0] rfl) ?_
  clear hres hP hS hl
  intro left_9 M_10 H locs ls hiv_10 hres hP hS hl
  exact x_retv hx hb hr hlk hP hS (hres.symm.trans hF) dX7_append_54
set_option maxHeartbeats 4000000 in
set_option maxRecDepth 100000 in
theorem c_X7_isAmong (l : Launch) (nb nn : Nat) (g : xG) (L : List (Nat × Nat)) (M : xM) (hD : xD g L) (hL : xEL nb nn L) (at_ : Int32) (first : Int32) (last : Int32) (hp0 : 0 ≤ at_) (hp1 : at_ < 400) : xCi l yX7_isAmong cX7_isAmong 4 (some .boolean) 0 g L M [.ref (xad g 5 0), .int at_, .int first, .int last] (fun r u => r = xb (f_X7_isAmong at_ first last M) ∧ u = M) := by
  intro sz
  refine x_beg (by decide +kernel) rfl ?_
  intro p e s m args below meth c ls hsz hB
  subst hsz
  obtain ⟨hx, hb, hml, hown, hts, hr, hlk, hK, hAm, hP, hl⟩ := hB
  have S : CallFix p m c cX7_isAmong 4 s args (xws yX7_isAmong cX7_isAmong 4 (some .boolean)) RX7 := ⟨hx, hb, hml, hown, hts⟩
  have hown : s.vm.findClass RX7 = some m.cls := hown
  have hl : lv_has ls 4 [(0, .ref (xad g 5 0)), (1, .int at_), (2, .int first), (3, .int last)] := hl
  have hS : va_S (xA g L s.heap.size) s.heap s.heap [] := va_S.rf
  obtain ⟨F, hF⟩ : ∃ F, F = f_X7_isAmong at_ first last M := ⟨_, rfl⟩
  have hres := hF
  rw [f_X7_isAmong] at hres
  refine lv_aload_n hx hb dX7_isAmong_0 rfl (lv_at hl 0 rfl) ?_
  refine gf_RX7_9 hx hb hts hown hK hP (hL 5 0 (xe_5 nb nn)) dX7_isAmong_1 ?_
  refine lv_iload_n hx hb dX7_isAmong_4 rfl (lv_at hl 1 rfl) ?_
  refine x_bald hx hb hK hP (hL 19 0 (xe_19 nb nn)) (xc19 g 0) (ob_X7_isAmong_5_in nb nn at_ first last M hp0 hp1) dX7_isAmong_5 ?_
  refine lv_iload_n hx hb dX7_isAmong_6 rfl (lv_at hl 2 rfl) ?_
  refine lv_icmp_lt (tgt := 24) hx hb dX7_isAmong_7 (by decide) (fun c_1 => ?_) (fun c_1 => ?_)
  · replace hres := hres.trans (if_pos c_1)
    refine lv_iconst (v := 0) hx hb dX7_isAmong_24 (by decide) ?_
    exact x_retz hx hb hr hlk hP hS rfl ⟨(congrArg xb (hres.symm.trans hF)), rfl⟩ dX7_isAmong_25
  · replace hres := hres.trans (if_neg c_1)
    refine lv_aload_n hx hb dX7_isAmong_10 rfl (lv_at hl 0 rfl) ?_
    refine gf_RX7_9 hx hb hts hown hK hP (hL 5 0 (xe_5 nb nn)) dX7_isAmong_11 ?_
    refine lv_iload_n hx hb dX7_isAmong_14 rfl (lv_at hl 1 rfl) ?_
    refine x_bald hx hb hK hP (hL 19 0 (xe_19 nb nn)) (xc19 g 0) (ob_X7_isAmong_15_in nb nn at_ first last M hp0 hp1 c_1) dX7_isAmong_15 ?_
    refine lv_iload_n hx hb dX7_isAmong_16 rfl (lv_at hl 3 rfl) ?_
    refine lv_icmp_gt (tgt := 24) hx hb dX7_isAmong_17 (by decide) (fun c_2 => ?_) (fun c_2 => ?_)
    · replace hres := hres.trans (if_pos c_2)
      refine lv_iconst (v := 0) hx hb dX7_isAmong_24 (by decide) ?_
      exact x_retz hx hb hr hlk hP hS rfl ⟨(congrArg xb (hres.symm.trans hF)), rfl⟩ dX7_isAmong_25
    · replace hres := hres.trans (if_neg c_2)
      refine lv_iconst (v := 1) hx hb dX7_isAmong_20 (by decide) ?_
      refine lv_goto (tgt := 25) hx hb dX7_isAmong_21 (by decide) ?_
      exact x_retz hx hb hr hlk hP hS rfl ⟨(congrArg xb (hres.symm.trans hF)), rfl⟩ dX7_isAmong_25
set_option maxHeartbeats 4000000 in
set_option maxRecDepth 100000 in
theorem c_X7_endOfRun (l : Launch) (nb nn : Nat) (g : xG) (L : List (Nat × Nat)) (M : xM) (hD : xD g L) (hL : xEL nb nn L) (from_ : Int32) (first : Int32) (last : Int32) (hp0 : 0 ≤ from_) (hp1 : M 5 0 2 ≤ 400) : xCi l yX7_endOfRun cX7_endOfRun 5 (some .int) 1 g L M [.ref (xad g 5 0), .int from_, .int first, .int last] (fun r u => r = f_X7_endOfRun from_ first last M ∧ u = M) := by
  intro sz
  refine x_beg (by decide +kernel) rfl ?_
  intro p e s m args below meth c ls hsz hB
  subst hsz
  obtain ⟨hx, hb, hml, hown, hts, hr, hlk, hK, hAm, hP, hl⟩ := hB
  have S : CallFix p m c cX7_endOfRun 5 s args (xws yX7_endOfRun cX7_endOfRun 5 (some .int)) RX7 := ⟨hx, hb, hml, hown, hts⟩
  have hown : s.vm.findClass RX7 = some m.cls := hown
  have hl : lv_has ls 5 [(0, .ref (xad g 5 0)), (1, .int from_), (2, .int first), (3, .int last)] := hl
  have hS : va_S (xA g L s.heap.size) s.heap s.heap [] := va_S.rf
  obtain ⟨F, hF⟩ : ∃ F, F = f_X7_endOfRun from_ first last M := ⟨_, rfl⟩
  have k_3 : ∀ (n : Nat) (at_ : Int32) (H : Heap) (locs : List Loc) (ls : Array Slot) (kx : (Int32 → Int32)), xmu at_ (M 5 0 2) < n → 0 ≤ at_ → F = f_X7_endOfRun_L3 from_ first last M n at_ kx → xP g L M H → va_S (xA g L s.heap.size) s.heap H locs → lv_has ls 5 [(0, .ref (xad g 5 0)), (1, .int from_), (2, .int first), (3, .int last), (4, .int at_)] → (∀ (at_ : Int32) (H : Heap) (locs : List Loc) (ls : Array Slot), 0 ≤ at_ → F = kx at_ → xP g L M H → va_S (xA g L s.heap.size) s.heap H locs → lv_has ls 5 [(0, .ref (xad g 5 0)), (1, .int from_), (2, .int first), (3, .int last), (4, .int at_)] → W p l e (xr 1) s m args below meth c H locs 0 0 (MQ below (va_Qi (fun r u => r = f_X7_endOfRun from_ first last M ∧ u = M) (xPost g L) (xA g L s.heap.size)) args s 0 0 (xA g L s.heap.size)) (F0 m 29 ls [])) → W p l e (xr 1) s m args below meth c H locs 0 0 (MQ below (va_Qi (fun r u => r = f_X7_endOfRun from_ first last M ∧ u = M) (xPost g L) (xA g L s.heap.size)) args s 0 0 (xA g L s.heap.size)) (F0 m 3 ls []) := by
    intro n
    induction n with
    | zero => intro at_ H locs ls kx hmu; exact absurd hmu (Nat.not_lt_zero _)
    | succ n ih =>
      intro at_ H locs ls kx hmu hinv hres hP hS hl hex
      replace hres : F = _ := hres.trans (by rw [f_X7_endOfRun_L3])
      refine lv_iload hx hb dX7_endOfRun_3 (lv_at hl 4 rfl) ?_
      refine lv_aload_n hx hb dX7_endOfRun_5 rfl (lv_at hl 0 rfl) ?_
      refine gf_RX7_17 hx hb hts hown hK hP (hL 5 0 (xe_5 nb nn)) dX7_endOfRun_6 ?_
      refine lv_icmp_ge (tgt := 29) hx hb dX7_endOfRun_9 (by decide) (fun c_1 => ?_) (fun c_1 => ?_)
      · replace hres := hres.trans (if_pos c_1)
        exact hex at_ _ _ _ (ob_X7_endOfRun_29_x3 nb nn from_ first last M hp0 hp1 n at_ hmu hinv c_1) hres hP hS (lv_sub hl [0, 1, 2, 3, 4] rfl)
      · replace hres := hres.trans (if_neg c_1)
        refine lv_aload_n hx hb dX7_endOfRun_12 rfl (lv_at hl 0 rfl) ?_
        refine lv_iload hx hb dX7_endOfRun_13 (lv_at hl 4 rfl) ?_
        refine lv_iload_n hx hb dX7_endOfRun_15 rfl (lv_at hl 2 rfl) ?_
        refine lv_iload_n hx hb dX7_endOfRun_16 rfl (lv_at hl 3 rfl) ?_
        refine x_callVi (As := [.int at_, .int first, .int last]) S hK hAm hD hP hS mt_X7_isAmong wd_437 ⟨by decide, by decide⟩ (hL 5 0 (xe_5 nb nn)) (xc5 g 0) rfl (c_X7_isAmong l nb nn g L M hD hL at_ first last (ob_X7_endOfRun_17_p0 nb nn from_ first last M hp0 hp1 n at_ hmu hinv c_1) (ob_X7_endOfRun_17_p1 nb nn from_ first last M hp0 hp1 n at_ hmu hinv c_1)) rfl hl.1 (Nat.le_of_ble_eq_true rfl) ⟨Nat.zero_le _, Nat.zero_le _⟩ dX7_endOfRun_17 rfl (fun r_2 u H locs hp_ hP hS => ?_)
        obtain ⟨er_2, eu_⟩ := hp_
        rw [eu_] at hP
        clear eu_
        replace hres := xlet_n hres er_2
        refine lv_if_eq (tgt := 29) hx hb dX7_endOfRun_20 (by decide) (fun c_3 => ?_) (fun c_3 => ?_)
        · replace hres := hres.trans (if_pos c_3)
          exact hex at_ _ _ _ (ob_X7_endOfRun_29_x3_2 nb nn from_ first last M hp0 hp1 n at_ hmu hinv c_1 r_2 er_2 c_3) hres hP hS (lv_sub hl [0, 1, 2, 3, 4] rfl)
        · replace hres := hres.trans (if_neg c_3)
          obtain ⟨x4_4, ex4_4⟩ : ∃ z_ : Int32, z_ = at_ + 1 := ⟨_, rfl⟩
          replace hres := xlet_n hres ex4_4
          refine lv_iinc (v := x4_4) (lv' := [(4, .int x4_4), (0, .ref (xad g 5 0)), (1, .int from_), (2, .int first), (3, .int last)]) hx hb dX7_endOfRun_23 hl (k := 4) rfl (by rw [ex4_4]; rfl) (by decide) rfl (fun ls hl => ?_)
          refine lv_goto (tgt := 3) hx hb dX7_endOfRun_26 (by decide) ?_
          exact ih x4_4 _ _ _ kx (ob_X7_endOfRun_3_mu_4 nb nn from_ first last M hp0 hp1 n at_ hmu hinv c_1 r_2 er_2 c_3 x4_4 ex4_4) (ob_X7_endOfRun_3_inv_4 nb nn from_ first last M hp0 hp1 n at_ hmu hinv c_1 r_2 er_2 c_3 x4_4 ex4_4) hres hP hS (lv_sub hl [1, 2, 3, 4, 0] rfl) hex
  have hres := hF
  rw [f_X7_endOfRun] at hres
  refine lv_iload_n hx hb dX7_endOfRun_0 rfl (lv_at hl 1 rfl) ?_
  refine lv_istore (lv' := [(4, .int from_), (0, .ref (xad g 5 0)), (1, .int from_), (2, .int first), (3, .int last)]) hx hb dX7_endOfRun_1 hl (by decide) rfl (fun ls hl => ?_)
  refine k_3 (xmu from_ (M 5 0 2) + 1) from_ _ _ _ _ (Nat.lt_succ_self _) (ob_X7_endOfRun_3_ini_4 nb nn from_ first last M hp0 hp1) hres hP hS (lv_sub hl [1, 2, 3, 4, 0] rfl) ?_
  clear hres hP hS hl
  intro at__5 H locs ls hiv_5 hres hP hS hl
  refine lv_iload hx hb dX7_endOfRun_29 (lv_at hl 4 rfl) ?_
  exact x_reti hx hb hr hlk hP hS ⟨hres.symm.trans hF, rfl⟩ dX7_endOfRun_31
set_option maxHeartbeats 4000000 in
set_option maxRecDepth 100000 in
theorem c_X7_numberAt (l : Launch) (nb nn : Nat) (g : xG) (L : List (Nat × Nat)) (M : xM) (hD : xD g L) (hL : xEL nb nn L) (from_ : Int32) (end_ : Int32) (hp0 : 0 ≤ from_) (hp1 : end_ ≤ 400) : xCi l yX7_numberAt cX7_numberAt 5 (some .int) 0 g L M [.ref (xad g 5 0), .int from_, .int end_] (fun r u => r = f_X7_numberAt from_ end_ M ∧ u = M) := by
  intro sz
  refine x_beg (by decide +kernel) rfl ?_
  intro p e s m args below meth c ls hsz hB
  subst hsz
  obtain ⟨hx, hb, hml, hown, hts, hr, hlk, hK, hAm, hP, hl⟩ := hB
  have S : CallFix p m c cX7_numberAt 5 s args (xws yX7_numberAt cX7_numberAt 5 (some .int)) RX7 := ⟨hx, hb, hml, hown, hts⟩
  have hown : s.vm.findClass RX7 = some m.cls := hown
  have hl : lv_has ls 5 [(0, .ref (xad g 5 0)), (1, .int from_), (2, .int end_)] := hl
  have hS : va_S (xA g L s.heap.size) s.heap s.heap [] := va_S.rf
  obtain ⟨F, hF⟩ : ∃ F, F = f_X7_numberAt from_ end_ M := ⟨_, rfl⟩
  have k_5 : ∀ (n : Nat) (number : Int32) (at_ : Int32) (H : Heap) (locs : List Loc) (ls : Array Slot) (kx : (Int32 → Int32 → Int32)), xmu at_ end_ < n → 0 ≤ at_ → F = f_X7_numberAt_L5 from_ end_ M n number at_ kx → xP g L M H → va_S (xA g L s.heap.size) s.heap H locs → lv_has ls 5 [(0, .ref (xad g 5 0)), (1, .int from_), (2, .int end_), (3, .int number), (4, .int at_)] → (∀ (number : Int32) (at_ : Int32) (H : Heap) (locs : List Loc) (ls : Array Slot), 0 ≤ at_ → F = kx number at_ → xP g L M H → va_S (xA g L s.heap.size) s.heap H locs → lv_has ls 5 [(0, .ref (xad g 5 0)), (1, .int from_), (2, .int end_), (3, .int number), (4, .int at_)] → W p l e (xr 0) s m args below meth c H locs 0 0 (MQ below (va_Qi (fun r u => r = f_X7_numberAt from_ end_ M ∧ u = M) (xPost g L) (xA g L s.heap.size)) args s 0 0 (xA g L s.heap.size)) (F0 m 33 ls [])) → W p l e (xr 0) s m args below meth c H locs 0 0 (MQ below (va_Qi (fun r u => r = f_X7_numberAt from_ end_ M ∧ u = M) (xPost g L) (xA g L s.heap.size)) args s 0 0 (xA g L s.heap.size)) (F0 m 5 ls []) := by
    intro n
    induction n with
    | zero => intro number at_ H locs ls kx hmu; exact absurd hmu (Nat.not_lt_zero _)
    | succ n ih =>
      intro number at_ H locs ls kx hmu hinv hres hP hS hl hex
      replace hres : F = _ := hres.trans (by rw [f_X7_numberAt_L5])
      refine lv_iload hx hb dX7_numberAt_5 (lv_at hl 4 rfl) ?_
      refine lv_iload_n hx hb dX7_numberAt_7 rfl (lv_at hl 2 rfl) ?_
      refine lv_icmp_ge (tgt := 33) hx hb dX7_numberAt_8 (by decide) (fun c_1 => ?_) (fun c_1 => ?_)
      · replace hres := hres.trans (if_pos c_1)
        exact hex number at_ _ _ _ (ob_X7_numberAt_33_x5 nb nn from_ end_ M hp0 hp1 n number at_ hmu hinv c_1) hres hP hS (lv_sub hl [0, 1, 2, 3, 4] rfl)
      · replace hres := hres.trans (if_neg c_1)
        refine lv_iload_n hx hb dX7_numberAt_11 rfl (lv_at hl 3 rfl) ?_
        refine lv_bipush (v := 10) hx hb dX7_numberAt_12 (by decide) ?_
        refine lv_imul hx hb dX7_numberAt_14 ?_
        refine lv_aload_n hx hb dX7_numberAt_15 rfl (lv_at hl 0 rfl) ?_
        refine gf_RX7_9 hx hb hts hown hK hP (hL 5 0 (xe_5 nb nn)) dX7_numberAt_16 ?_
        refine lv_iload hx hb dX7_numberAt_19 (lv_at hl 4 rfl) ?_
        refine x_bald hx hb hK hP (hL 19 0 (xe_19 nb nn)) (xc19 g 0) (ob_X7_numberAt_21_in nb nn from_ end_ M hp0 hp1 n number at_ hmu hinv c_1) dX7_numberAt_21 ?_
        refine lv_iadd hx hb dX7_numberAt_22 ?_
        refine lv_bipush (v := 48) hx hb dX7_numberAt_23 (by decide) ?_
        refine lv_isub hx hb dX7_numberAt_25 ?_
        refine lv_topi (fun x3_2 ex3_2 => ?_)
        replace hres := xlet_n hres ex3_2
        refine lv_istore_n (lv' := [(3, .int x3_2), (0, .ref (xad g 5 0)), (1, .int from_), (2, .int end_), (4, .int at_)]) hx hb dX7_numberAt_26 rfl hl (by decide) rfl (fun ls hl => ?_)
        obtain ⟨x4_3, ex4_3⟩ : ∃ z_ : Int32, z_ = at_ + 1 := ⟨_, rfl⟩
        replace hres := xlet_n hres ex4_3
        refine lv_iinc (v := x4_3) (lv' := [(4, .int x4_3), (3, .int x3_2), (0, .ref (xad g 5 0)), (1, .int from_), (2, .int end_)]) hx hb dX7_numberAt_27 hl (k := 4) rfl (by rw [ex4_3]; rfl) (by decide) rfl (fun ls hl => ?_)
        refine lv_goto (tgt := 5) hx hb dX7_numberAt_30 (by decide) ?_
        exact ih x3_2 x4_3 _ _ _ kx (ob_X7_numberAt_5_mu_3 nb nn from_ end_ M hp0 hp1 n number at_ hmu hinv c_1 x3_2 ex3_2 x4_3 ex4_3) (ob_X7_numberAt_5_inv_3 nb nn from_ end_ M hp0 hp1 n number at_ hmu hinv c_1 x3_2 ex3_2 x4_3 ex4_3) hres hP hS (lv_sub hl [2, 3, 4, 1, 0] rfl) hex
  have hres := hF
  rw [f_X7_numberAt] at hres
  refine lv_iconst (v := 0) hx hb dX7_numberAt_0 (by decide) ?_
  refine lv_istore_n (lv' := [(3, .int 0), (0, .ref (xad g 5 0)), (1, .int from_), (2, .int end_)]) hx hb dX7_numberAt_1 rfl hl (by decide) rfl (fun ls hl => ?_)
  refine lv_iload_n hx hb dX7_numberAt_2 rfl (lv_at hl 2 rfl) ?_
  refine lv_istore (lv' := [(4, .int from_), (3, .int 0), (0, .ref (xad g 5 0)), (1, .int from_), (2, .int end_)]) hx hb dX7_numberAt_3 hl (by decide) rfl (fun ls hl => ?_)
  refine k_5 (xmu from_ end_ + 1) (0 : Int32) from_ _ _ _ _ (Nat.lt_succ_self _) (ob_X7_numberAt_5_ini_3 nb nn from_ end_ M hp0 hp1) hres hP hS (lv_sub hl [2, 3, 4, 1, 0] rfl) ?_
  clear hres hP hS hl
  intro number_4 at__5 H locs ls hiv_5 hres hP hS hl
  refine lv_iload_n hx hb dX7_numberAt_33 rfl (lv_at hl 3 rfl) ?_
  exact x_reti hx hb hr hlk hP hS ⟨hres.symm.trans hF, rfl⟩ dX7_numberAt_34
