def f_X10_copy (a : Int32) (i : Int32) (b : Int32) (j : Int32) (z : Int32) (M : xM) : Int32 × xM :=
  xopt (f_X10_sheetOf a M) (xopt (f_X10_sheetOf b M) (((-1000001), M)) (fun i_7 => ((-1000001), M))) (fun i_2 => xopt (f_X10_sheetOf b M) (((-1000001), M)) (fun i_12 => xlet (xb (f_X6_isMissing i_2 M)) fun r_16 => if r_16 = 0 then xlet (xb (f_X6_isMissing i_12 M)) fun r_20 => if r_20 = 0 then if (M 24 i_2 1) = (M 24 i_12 1) then xlet (xb (f_X6_hasPlaces i_2 i z M)) fun r_23 => if r_23 = 0 then xlet2 (f_X10_found 2 M) fun r_25 M_26 => (r_25, M_26) else xlet (xb (f_X6_hasPlaces i_12 j z M)) fun r_27 => if r_27 = 0 then xlet2 (f_X10_found 2 M) fun r_32 M_33 => (r_32, M_33) else xlet (xrow M 25 i_12 (va_cpy (M 25 i_2) (M 25 i_12) i.toNatClampNeg j.toNatClampNeg z.toNatClampNeg)) fun M_29 => xlet2 (f_X10_foundNothing z M_29) fun r_30 M_31 => (r_30, M_31) else xlet2 (f_X10_found 5 M) fun r_34 M_35 => (r_34, M_35) else xlet2 (f_X10_found 1 M) fun r_36 M_37 => (r_36, M_37) else xlet2 (f_X10_found 1 M) fun r_18 M_19 => (r_18, M_19)))
def f_X10_offerNotes_L3 (fr : Int32) (pt : Int32) (tk : Nat) : Nat → Int32 → xM → (Int32 → xM → xM) → xM
  | 0, _, N_, _ => N_
  | n + 1, k, N_, kx => if (N_ 0 0 13) ≤ k then kx k N_ else if 24 ≤ k then kx k N_ else xopt (f_X10_noteOf k N_) (xlet (xup N_ 9 0 k.toNatClampNeg (-1)) fun M_8 => xlet (k + 1) fun x4_9 => f_X10_offerNotes_L3 fr pt tk n x4_9 M_8 kx) (fun i_4 => xlet (xup N_ 9 0 k.toNatClampNeg (-1)) fun M_10 => xlet (f_X4_holder i_4 M_10) fun r_11 => if r_11 = fr then xlet (xb (f_X4_isFullOfHands i_4 M_10)) fun r_14 => if r_14 = 0 then xlet (f_X10_inTheHundred i_4 (M_10 26 tk 0) (M_10 0 0 14) M_10) fun r_17 => if r_17 < (M_10 26 tk 1) then xlet (k + 1) fun x4_19 => f_X10_offerNotes_L3 fr pt tk n x4_19 M_10 kx else xlet (f_X10_inTheHundred i_4 pt (M_10 0 0 14) M_10) fun r_20 => xlet (xup M_10 9 0 k.toNatClampNeg r_20) fun M_21 => xlet (k + 1) fun x4_22 => f_X10_offerNotes_L3 fr pt tk n x4_22 M_21 kx else xlet (k + 1) fun x4_16 => f_X10_offerNotes_L3 fr pt tk n x4_16 M_10 kx else xlet (k + 1) fun x4_13 => f_X10_offerNotes_L3 fr pt tk n x4_13 M_10 kx)
def f_X10_offerNotes (fr : Int32) (pt : Int32) (tk : Nat) (M : xM) : xM :=
  f_X10_offerNotes_L3 fr pt tk (xmu (0 : Int32) (M 0 0 13) + 1) (0 : Int32) M (fun k_23 M_24 => M_24)
def f_X10_worstOffer_L9  (M : xM) : Nat → Int32 → Int32 → Int32 → (Int32 → Int32 → Int32 → Int32) → Int32
  | 0, _, _, _, _ => 0
  | n + 1, worst, least, i, kx => if (M 0 0 13) ≤ i then kx worst least i else if 24 ≤ i then kx worst least i else if (M 9 0 i.toNatClampNeg) = (-1) then xlet (i + 1) fun x3_4 => f_X10_worstOffer_L9 M n worst least x3_4 kx else if least ≤ (M 9 0 i.toNatClampNeg) then xlet (i + 1) fun x3_6 => f_X10_worstOffer_L9 M n worst least x3_6 kx else xlet (M 9 0 i.toNatClampNeg) fun x2_7 => xlet (i + 1) fun x3_8 => f_X10_worstOffer_L9 M n i x2_7 x3_8 kx
def f_X10_worstOffer  (M : xM) : Int32 :=
  f_X10_worstOffer_L9 M (xmu (0 : Int32) (M 0 0 13) + 1) (-1000000 : Int32) (101 : Int32) (0 : Int32) (fun worst_9 least_10 i_11 => worst_9)
def f_X10_areDifferentNotes_L6 (sq : Nat) (i : Int32) (z : Int32) (M : xM) : Nat → Int32 → Int32 → (Int32 → Int32 → Bool) → Bool
  | 0, _, _, _ => false
  | n + 1, seen, k, kx => if z ≤ k then kx seen k else xlet (M 25 sq (i + k).toNatClampNeg) fun x6_2 => xopt (f_X10_noteOf x6_2 M) (false) (fun i_4 => if ((seen >>> (x6_2 &&& 31)) &&& 1) = 0 then xlet (seen ||| ((1 : Int32) <<< (x6_2 &&& 31))) fun x4_9 => xlet (k + 1) fun x5_10 => f_X10_areDifferentNotes_L6 sq i z M n x4_9 x5_10 kx else false)
def f_X10_areDifferentNotes (sq : Nat) (i : Int32) (z : Int32) (M : xM) : Bool :=
  f_X10_areDifferentNotes_L6 sq i z M (xmu (0 : Int32) z + 1) (0 : Int32) (0 : Int32) (fun seen_11 k_12 => true)
def f_X10_tellDrover_L2 (place : Int32) (nt : Nat) : Nat → Int32 → xM → (Int32 → xM → xM) → xM
  | 0, _, N_, _ => N_
  | n + 1, t, N_, kx => if 6 ≤ t then kx t N_ else xlet (f_X3_tellGain t place (((N_ 29 nt 2) * (N_ 10 0 ((t * 8) + (N_ 29 nt 1)).toNatClampNeg)) / 100) N_) fun M_3 => xlet (t + 1) fun x3_4 => f_X10_tellDrover_L2 place nt n x3_4 M_3 kx
def f_X10_tellDrover (place : Int32) (nt : Nat) (M : xM) : xM :=
  f_X10_tellDrover_L2 place nt (xmu (0 : Int32) 6 + 1) (0 : Int32) M (fun t_5 M_6 => M_6)
def f_X10_rates_L56 (town : Int32) (sh : Int32) (i : Int32) (sq : Nat) (N_ : xM) : Nat → Int32 → (Int32 → Int32 × xM) → Int32 × xM
  | 0, _, _ => (0, N_)
  | n + 1, b, kx => if 8 ≤ b then kx b else xlet (xb (f_X10_isUpTo (N_ 25 sq (i + b).toNatClampNeg) 100 N_)) fun r_2 => if r_2 = 0 then ((-1000001), N_) else xlet (b + 1) fun x5_4 => f_X10_rates_L56 town sh i sq N_ n x5_4 kx
def f_X10_rates (town : Int32) (sh : Int32) (i : Int32) (M : xM) : Int32 × xM :=
  xopt (f_X10_sheetOf sh M) (xlet (xb (f_X10_isTown town M)) fun r_10 => if r_10 = 0 then ((-1000001), M) else ((-1000001), M)) (fun i_6 => xlet (xb (f_X10_isTown town M)) fun r_12 => if r_12 = 0 then ((-1000001), M) else xlet (xb (f_X6_isMissing i_6 M)) fun r_14 => if r_14 = 0 then xlet (xb (f_X6_hasPlaces i_6 i 8 M)) fun r_16 => if r_16 = 0 then xlet2 (f_X10_found 2 M) fun r_22 M_23 => (r_22, M_23) else f_X10_rates_L56 town sh i i_6 M (xmu (0 : Int32) 8 + 1) (0 : Int32) (fun b_18 => xlet (xrow M 10 0 (va_cpy (M 25 i_6) (M 10 0) i.toNatClampNeg (town * 8).toNatClampNeg (8 : Int32).toNatClampNeg)) fun M_19 => xlet2 (f_X10_foundNothing 8 M_19) fun r_20 M_21 => (r_20, M_21)) else xlet2 (f_X10_found 1 M) fun r_24 M_25 => (r_24, M_25))
theorem ob_X10_copy_2_p0 (nb nn : Nat) (a : Int32) (i : Int32) (b : Int32) (j : Int32) (z : Int32) (M : xM) (hp0 : xHS M) (hp1 : ∀ i : Nat, 0 ≤ M 24 i 2 ∧ M 24 i 2 ≤ 60) : xHS M := by
  subst_vars
  grind [isUpTo_eq, isTown10_eq, xb, sheetOf_s, traderOf_s, bankOf_s, noteOf_s, hasPl_eq, xup_at, xHB_o, xHN_o]
theorem ob_X10_copy_2_q (nb nn : Nat) (a : Int32) (i : Int32) (b : Int32) (j : Int32) (z : Int32) (M : xM) (hp0 : xHS M) (hp1 : ∀ i : Nat, 0 ≤ M 24 i 2 ∧ M 24 i 2 ≤ 60) (i_2 : Nat) (o_3 : f_X10_sheetOf a M = some i_2) : i_2 < 8 ∧ 0 ≤ a ∧ a ≤ 7 ∧ i_2 = a.toNatClampNeg := by
  exact sheetOf_s o_3
theorem ob_X10_copy_9_p0 (nb nn : Nat) (a : Int32) (i : Int32) (b : Int32) (j : Int32) (z : Int32) (M : xM) (hp0 : xHS M) (hp1 : ∀ i : Nat, 0 ≤ M 24 i 2 ∧ M 24 i 2 ≤ 60) (o_3 : f_X10_sheetOf a M = none) : xHS M := by
  subst_vars
  grind [isUpTo_eq, isTown10_eq, xb, sheetOf_s, traderOf_s, bankOf_s, noteOf_s, hasPl_eq, xup_at, xHB_o, xHN_o]
theorem ob_X10_copy_9_q (nb nn : Nat) (a : Int32) (i : Int32) (b : Int32) (j : Int32) (z : Int32) (M : xM) (hp0 : xHS M) (hp1 : ∀ i : Nat, 0 ≤ M 24 i 2 ∧ M 24 i 2 ≤ 60) (o_3 : f_X10_sheetOf a M = none) (i_7 : Nat) (o_8 : f_X10_sheetOf b M = some i_7) : i_7 < 8 ∧ 0 ≤ b ∧ b ≤ 7 ∧ i_7 = b.toNatClampNeg := by
  exact sheetOf_s o_8
theorem ob_X10_copy_9_p0_2 (nb nn : Nat) (a : Int32) (i : Int32) (b : Int32) (j : Int32) (z : Int32) (M : xM) (hp0 : xHS M) (hp1 : ∀ i : Nat, 0 ≤ M 24 i 2 ∧ M 24 i 2 ≤ 60) (i_2 : Nat) (o_3 : f_X10_sheetOf a M = some i_2) (hq_5 : i_2 < 8 ∧ 0 ≤ a ∧ a ≤ 7 ∧ i_2 = a.toNatClampNeg) (hi_4 : i_2 < 8) : xHS M := by
  subst_vars
  grind [isUpTo_eq, isTown10_eq, xb, sheetOf_s, traderOf_s, bankOf_s, noteOf_s, hasPl_eq, xup_at, xHB_o, xHN_o]
theorem ob_X10_copy_9_q_2 (nb nn : Nat) (a : Int32) (i : Int32) (b : Int32) (j : Int32) (z : Int32) (M : xM) (hp0 : xHS M) (hp1 : ∀ i : Nat, 0 ≤ M 24 i 2 ∧ M 24 i 2 ≤ 60) (i_2 : Nat) (o_3 : f_X10_sheetOf a M = some i_2) (hq_5 : i_2 < 8 ∧ 0 ≤ a ∧ a ≤ 7 ∧ i_2 = a.toNatClampNeg) (hi_4 : i_2 < 8) (i_12 : Nat) (o_13 : f_X10_sheetOf b M = some i_12) : i_12 < 8 ∧ 0 ≤ b ∧ b ≤ 7 ∧ i_12 = b.toNatClampNeg := by
  exact sheetOf_s o_13
theorem ob_X10_copy_112_a1 (nb nn : Nat) (a : Int32) (i : Int32) (b : Int32) (j : Int32) (z : Int32) (M : xM) (hp0 : xHS M) (hp1 : ∀ i : Nat, 0 ≤ M 24 i 2 ∧ M 24 i 2 ≤ 60) (i_2 : Nat) (o_3 : f_X10_sheetOf a M = some i_2) (hq_5 : i_2 < 8 ∧ 0 ≤ a ∧ a ≤ 7 ∧ i_2 = a.toNatClampNeg) (hi_4 : i_2 < 8) (i_12 : Nat) (o_13 : f_X10_sheetOf b M = some i_12) (hq_15 : i_12 < 8 ∧ 0 ≤ b ∧ b ≤ 7 ∧ i_12 = b.toNatClampNeg) (hi_14 : i_12 < 8) (r_16 : Int32) (er_16 : r_16 = xb (f_X6_isMissing i_2 M)) (c_17 : r_16 = 0) (r_20 : Int32) (er_20 : r_20 = xb (f_X6_isMissing i_12 M)) (c_21 : r_20 = 0) (c_22 : (M 24 i_2 1) = (M 24 i_12 1)) (r_23 : Int32) (er_23 : r_23 = xb (f_X6_hasPlaces i_2 i z M)) (c_24 : ¬ r_23 = 0) (r_27 : Int32) (er_27 : r_27 = xb (f_X6_hasPlaces i_12 j z M)) (c_28 : ¬ r_27 = 0) : ¬ i < 0 := by
  subst_vars
  grind [isUpTo_eq, isTown10_eq, xb, sheetOf_s, traderOf_s, bankOf_s, noteOf_s, hasPl_eq, xup_at, xHB_o, xHN_o]
theorem ob_X10_copy_112_a2 (nb nn : Nat) (a : Int32) (i : Int32) (b : Int32) (j : Int32) (z : Int32) (M : xM) (hp0 : xHS M) (hp1 : ∀ i : Nat, 0 ≤ M 24 i 2 ∧ M 24 i 2 ≤ 60) (i_2 : Nat) (o_3 : f_X10_sheetOf a M = some i_2) (hq_5 : i_2 < 8 ∧ 0 ≤ a ∧ a ≤ 7 ∧ i_2 = a.toNatClampNeg) (hi_4 : i_2 < 8) (i_12 : Nat) (o_13 : f_X10_sheetOf b M = some i_12) (hq_15 : i_12 < 8 ∧ 0 ≤ b ∧ b ≤ 7 ∧ i_12 = b.toNatClampNeg) (hi_14 : i_12 < 8) (r_16 : Int32) (er_16 : r_16 = xb (f_X6_isMissing i_2 M)) (c_17 : r_16 = 0) (r_20 : Int32) (er_20 : r_20 = xb (f_X6_isMissing i_12 M)) (c_21 : r_20 = 0) (c_22 : (M 24 i_2 1) = (M 24 i_12 1)) (r_23 : Int32) (er_23 : r_23 = xb (f_X6_hasPlaces i_2 i z M)) (c_24 : ¬ r_23 = 0) (r_27 : Int32) (er_27 : r_27 = xb (f_X6_hasPlaces i_12 j z M)) (c_28 : ¬ r_27 = 0) : ¬ j < 0 := by
  subst_vars
  grind [isUpTo_eq, isTown10_eq, xb, sheetOf_s, traderOf_s, bankOf_s, noteOf_s, hasPl_eq, xup_at, xHB_o, xHN_o]
theorem ob_X10_copy_112_a3 (nb nn : Nat) (a : Int32) (i : Int32) (b : Int32) (j : Int32) (z : Int32) (M : xM) (hp0 : xHS M) (hp1 : ∀ i : Nat, 0 ≤ M 24 i 2 ∧ M 24 i 2 ≤ 60) (i_2 : Nat) (o_3 : f_X10_sheetOf a M = some i_2) (hq_5 : i_2 < 8 ∧ 0 ≤ a ∧ a ≤ 7 ∧ i_2 = a.toNatClampNeg) (hi_4 : i_2 < 8) (i_12 : Nat) (o_13 : f_X10_sheetOf b M = some i_12) (hq_15 : i_12 < 8 ∧ 0 ≤ b ∧ b ≤ 7 ∧ i_12 = b.toNatClampNeg) (hi_14 : i_12 < 8) (r_16 : Int32) (er_16 : r_16 = xb (f_X6_isMissing i_2 M)) (c_17 : r_16 = 0) (r_20 : Int32) (er_20 : r_20 = xb (f_X6_isMissing i_12 M)) (c_21 : r_20 = 0) (c_22 : (M 24 i_2 1) = (M 24 i_12 1)) (r_23 : Int32) (er_23 : r_23 = xb (f_X6_hasPlaces i_2 i z M)) (c_24 : ¬ r_23 = 0) (r_27 : Int32) (er_27 : r_27 = xb (f_X6_hasPlaces i_12 j z M)) (c_28 : ¬ r_27 = 0) : ¬ z < 0 := by
  subst_vars
  grind [isUpTo_eq, isTown10_eq, xb, sheetOf_s, traderOf_s, bankOf_s, noteOf_s, hasPl_eq, xup_at, xHB_o, xHN_o]
theorem ob_X10_copy_112_a4 (nb nn : Nat) (a : Int32) (i : Int32) (b : Int32) (j : Int32) (z : Int32) (M : xM) (hp0 : xHS M) (hp1 : ∀ i : Nat, 0 ≤ M 24 i 2 ∧ M 24 i 2 ≤ 60) (i_2 : Nat) (o_3 : f_X10_sheetOf a M = some i_2) (hq_5 : i_2 < 8 ∧ 0 ≤ a ∧ a ≤ 7 ∧ i_2 = a.toNatClampNeg) (hi_4 : i_2 < 8) (i_12 : Nat) (o_13 : f_X10_sheetOf b M = some i_12) (hq_15 : i_12 < 8 ∧ 0 ≤ b ∧ b ≤ 7 ∧ i_12 = b.toNatClampNeg) (hi_14 : i_12 < 8) (r_16 : Int32) (er_16 : r_16 = xb (f_X6_isMissing i_2 M)) (c_17 : r_16 = 0) (r_20 : Int32) (er_20 : r_20 = xb (f_X6_isMissing i_12 M)) (c_21 : r_20 = 0) (c_22 : (M 24 i_2 1) = (M 24 i_12 1)) (r_23 : Int32) (er_23 : r_23 = xb (f_X6_hasPlaces i_2 i z M)) (c_24 : ¬ r_23 = 0) (r_27 : Int32) (er_27 : r_27 = xb (f_X6_hasPlaces i_12 j z M)) (c_28 : ¬ r_27 = 0) : i.toNatClampNeg + z.toNatClampNeg ≤ 60 := by
  subst_vars
  exact tncs (by grind [isUpTo_eq, isTown10_eq, xb, sheetOf_s, traderOf_s, bankOf_s, noteOf_s, hasPl_eq, xup_at, xHB_o, xHN_o]) (by grind [isUpTo_eq, isTown10_eq, xb, sheetOf_s, traderOf_s, bankOf_s, noteOf_s, hasPl_eq, xup_at, xHB_o, xHN_o]) (by grind [isUpTo_eq, isTown10_eq, xb, sheetOf_s, traderOf_s, bankOf_s, noteOf_s, hasPl_eq, xup_at, xHB_o, xHN_o]) (by grind [isUpTo_eq, isTown10_eq, xb, sheetOf_s, traderOf_s, bankOf_s, noteOf_s, hasPl_eq, xup_at, xHB_o, xHN_o]) (by grind [isUpTo_eq, isTown10_eq, xb, sheetOf_s, traderOf_s, bankOf_s, noteOf_s, hasPl_eq, xup_at, xHB_o, xHN_o])
theorem ob_X10_copy_112_a5 (nb nn : Nat) (a : Int32) (i : Int32) (b : Int32) (j : Int32) (z : Int32) (M : xM) (hp0 : xHS M) (hp1 : ∀ i : Nat, 0 ≤ M 24 i 2 ∧ M 24 i 2 ≤ 60) (i_2 : Nat) (o_3 : f_X10_sheetOf a M = some i_2) (hq_5 : i_2 < 8 ∧ 0 ≤ a ∧ a ≤ 7 ∧ i_2 = a.toNatClampNeg) (hi_4 : i_2 < 8) (i_12 : Nat) (o_13 : f_X10_sheetOf b M = some i_12) (hq_15 : i_12 < 8 ∧ 0 ≤ b ∧ b ≤ 7 ∧ i_12 = b.toNatClampNeg) (hi_14 : i_12 < 8) (r_16 : Int32) (er_16 : r_16 = xb (f_X6_isMissing i_2 M)) (c_17 : r_16 = 0) (r_20 : Int32) (er_20 : r_20 = xb (f_X6_isMissing i_12 M)) (c_21 : r_20 = 0) (c_22 : (M 24 i_2 1) = (M 24 i_12 1)) (r_23 : Int32) (er_23 : r_23 = xb (f_X6_hasPlaces i_2 i z M)) (c_24 : ¬ r_23 = 0) (r_27 : Int32) (er_27 : r_27 = xb (f_X6_hasPlaces i_12 j z M)) (c_28 : ¬ r_27 = 0) : j.toNatClampNeg + z.toNatClampNeg ≤ 60 := by
  subst_vars
  exact tncs (by grind [isUpTo_eq, isTown10_eq, xb, sheetOf_s, traderOf_s, bankOf_s, noteOf_s, hasPl_eq, xup_at, xHB_o, xHN_o]) (by grind [isUpTo_eq, isTown10_eq, xb, sheetOf_s, traderOf_s, bankOf_s, noteOf_s, hasPl_eq, xup_at, xHB_o, xHN_o]) (by grind [isUpTo_eq, isTown10_eq, xb, sheetOf_s, traderOf_s, bankOf_s, noteOf_s, hasPl_eq, xup_at, xHB_o, xHN_o]) (by grind [isUpTo_eq, isTown10_eq, xb, sheetOf_s, traderOf_s, bankOf_s, noteOf_s, hasPl_eq, xup_at, xHB_o, xHN_o]) (by grind [isUpTo_eq, isTown10_eq, xb, sheetOf_s, traderOf_s, bankOf_s, noteOf_s, hasPl_eq, xup_at, xHB_o, xHN_o])
theorem ob_X10_offerNotes_102_x3 (nb nn : Nat) (fr : Int32) (pt : Int32) (tk : Nat) (M : xM) (htk : tk < 8) (hp0 : xHN nn M) (hp1 : xHB nb M) (hp2 : M 4 0 4 ≤ 40) (hp3 : ∀ i : Nat, 0 ≤ M 27 i 0 ∧ M 27 i 0 ≤ 5) (hp4 : ∀ i : Nat, 0 ≤ M 26 i 0 ∧ M 26 i 0 ≤ 5) (hp5 : 0 ≤ pt) (hp6 : pt ≤ 5) (n : Nat) (k : Int32) (N_ : xM) (hmu : xmu k (N_ 0 0 13) < n + 1) (hinv : 0 ≤ k ∧ xHN nn N_ ∧ xHB nb N_ ∧ N_ 4 0 4 ≤ 40 ∧ (∀ i : Nat, 0 ≤ N_ 27 i 0 ∧ N_ 27 i 0 ≤ 5) ∧ (∀ i : Nat, 0 ≤ N_ 26 i 0 ∧ N_ 26 i 0 ≤ 5)) (c_1 : (N_ 0 0 13) ≤ k) : 0 ≤ k ∧ xHN nn N_ ∧ xHB nb N_ ∧ N_ 4 0 4 ≤ 40 ∧ (∀ i : Nat, 0 ≤ N_ 27 i 0 ∧ N_ 27 i 0 ≤ 5) ∧ (∀ i : Nat, 0 ≤ N_ 26 i 0 ∧ N_ 26 i 0 ≤ 5) := by
  subst_vars
  grind [isUpTo_eq, isTown10_eq, xb, sheetOf_s, traderOf_s, bankOf_s, noteOf_s, hasPl_eq, xup_at, xHB_o, xHN_o]
theorem ob_X10_offerNotes_102_x3_2 (nb nn : Nat) (fr : Int32) (pt : Int32) (tk : Nat) (M : xM) (htk : tk < 8) (hp0 : xHN nn M) (hp1 : xHB nb M) (hp2 : M 4 0 4 ≤ 40) (hp3 : ∀ i : Nat, 0 ≤ M 27 i 0 ∧ M 27 i 0 ≤ 5) (hp4 : ∀ i : Nat, 0 ≤ M 26 i 0 ∧ M 26 i 0 ≤ 5) (hp5 : 0 ≤ pt) (hp6 : pt ≤ 5) (n : Nat) (k : Int32) (N_ : xM) (hmu : xmu k (N_ 0 0 13) < n + 1) (hinv : 0 ≤ k ∧ xHN nn N_ ∧ xHB nb N_ ∧ N_ 4 0 4 ≤ 40 ∧ (∀ i : Nat, 0 ≤ N_ 27 i 0 ∧ N_ 27 i 0 ≤ 5) ∧ (∀ i : Nat, 0 ≤ N_ 26 i 0 ∧ N_ 26 i 0 ≤ 5)) (c_1 : ¬ (N_ 0 0 13) ≤ k) (c_2 : 24 ≤ k) : 0 ≤ k ∧ xHN nn N_ ∧ xHB nb N_ ∧ N_ 4 0 4 ≤ 40 ∧ (∀ i : Nat, 0 ≤ N_ 27 i 0 ∧ N_ 27 i 0 ≤ 5) ∧ (∀ i : Nat, 0 ≤ N_ 26 i 0 ∧ N_ 26 i 0 ≤ 5) := by
  subst_vars
  grind [isUpTo_eq, isTown10_eq, xb, sheetOf_s, traderOf_s, bankOf_s, noteOf_s, hasPl_eq, xup_at, xHB_o, xHN_o]
theorem ob_X10_offerNotes_22_p0 (nb nn : Nat) (fr : Int32) (pt : Int32) (tk : Nat) (M : xM) (htk : tk < 8) (hp0 : xHN nn M) (hp1 : xHB nb M) (hp2 : M 4 0 4 ≤ 40) (hp3 : ∀ i : Nat, 0 ≤ M 27 i 0 ∧ M 27 i 0 ≤ 5) (hp4 : ∀ i : Nat, 0 ≤ M 26 i 0 ∧ M 26 i 0 ≤ 5) (hp5 : 0 ≤ pt) (hp6 : pt ≤ 5) (n : Nat) (k : Int32) (N_ : xM) (hmu : xmu k (N_ 0 0 13) < n + 1) (hinv : 0 ≤ k ∧ xHN nn N_ ∧ xHB nb N_ ∧ N_ 4 0 4 ≤ 40 ∧ (∀ i : Nat, 0 ≤ N_ 27 i 0 ∧ N_ 27 i 0 ≤ 5) ∧ (∀ i : Nat, 0 ≤ N_ 26 i 0 ∧ N_ 26 i 0 ≤ 5)) (c_1 : ¬ (N_ 0 0 13) ≤ k) (c_2 : ¬ 24 ≤ k) : xHN nn N_ := by
  subst_vars
  grind [isUpTo_eq, isTown10_eq, xb, sheetOf_s, traderOf_s, bankOf_s, noteOf_s, hasPl_eq, xup_at, xHB_o, xHN_o]
theorem ob_X10_offerNotes_22_q (nb nn : Nat) (fr : Int32) (pt : Int32) (tk : Nat) (M : xM) (htk : tk < 8) (hp0 : xHN nn M) (hp1 : xHB nb M) (hp2 : M 4 0 4 ≤ 40) (hp3 : ∀ i : Nat, 0 ≤ M 27 i 0 ∧ M 27 i 0 ≤ 5) (hp4 : ∀ i : Nat, 0 ≤ M 26 i 0 ∧ M 26 i 0 ≤ 5) (hp5 : 0 ≤ pt) (hp6 : pt ≤ 5) (n : Nat) (k : Int32) (N_ : xM) (hmu : xmu k (N_ 0 0 13) < n + 1) (hinv : 0 ≤ k ∧ xHN nn N_ ∧ xHB nb N_ ∧ N_ 4 0 4 ≤ 40 ∧ (∀ i : Nat, 0 ≤ N_ 27 i 0 ∧ N_ 27 i 0 ≤ 5) ∧ (∀ i : Nat, 0 ≤ N_ 26 i 0 ∧ N_ 26 i 0 ≤ 5)) (c_1 : ¬ (N_ 0 0 13) ≤ k) (c_2 : ¬ 24 ≤ k) (i_4 : Nat) (o_5 : f_X10_noteOf k N_ = some i_4) : i_4 < nn ∧ 0 ≤ k ∧ k < 24 ∧ k < N_ 0 0 13 ∧ i_4 = k.toNatClampNeg := by
  exact noteOf_s (nn := nn) (by first | assumption | (subst_vars; grind [xHN_o])) o_5
theorem ob_X10_offerNotes_34_in (nb nn : Nat) (fr : Int32) (pt : Int32) (tk : Nat) (M : xM) (htk : tk < 8) (hp0 : xHN nn M) (hp1 : xHB nb M) (hp2 : M 4 0 4 ≤ 40) (hp3 : ∀ i : Nat, 0 ≤ M 27 i 0 ∧ M 27 i 0 ≤ 5) (hp4 : ∀ i : Nat, 0 ≤ M 26 i 0 ∧ M 26 i 0 ≤ 5) (hp5 : 0 ≤ pt) (hp6 : pt ≤ 5) (n : Nat) (k : Int32) (N_ : xM) (hmu : xmu k (N_ 0 0 13) < n + 1) (hinv : 0 ≤ k ∧ xHN nn N_ ∧ xHB nb N_ ∧ N_ 4 0 4 ≤ 40 ∧ (∀ i : Nat, 0 ≤ N_ 27 i 0 ∧ N_ 27 i 0 ≤ 5) ∧ (∀ i : Nat, 0 ≤ N_ 26 i 0 ∧ N_ 26 i 0 ≤ 5)) (c_1 : ¬ (N_ 0 0 13) ≤ k) (c_2 : ¬ 24 ≤ k) (o_5 : f_X10_noteOf k N_ = none) : vp_in k 24 := by
  subst_vars
  exact xin (N := 24) (by grind [isUpTo_eq, isTown10_eq, xb, sheetOf_s, traderOf_s, bankOf_s, noteOf_s, hasPl_eq, xup_at, xHB_o, xHN_o]) (by grind [isUpTo_eq, isTown10_eq, xb, sheetOf_s, traderOf_s, bankOf_s, noteOf_s, hasPl_eq, xup_at, xHB_o, xHN_o]) (by decide)
theorem ob_X10_offerNotes_3_mu_9 (nb nn : Nat) (fr : Int32) (pt : Int32) (tk : Nat) (M : xM) (htk : tk < 8) (hp0 : xHN nn M) (hp1 : xHB nb M) (hp2 : M 4 0 4 ≤ 40) (hp3 : ∀ i : Nat, 0 ≤ M 27 i 0 ∧ M 27 i 0 ≤ 5) (hp4 : ∀ i : Nat, 0 ≤ M 26 i 0 ∧ M 26 i 0 ≤ 5) (hp5 : 0 ≤ pt) (hp6 : pt ≤ 5) (n : Nat) (k : Int32) (N_ : xM) (hmu : xmu k (N_ 0 0 13) < n + 1) (hinv : 0 ≤ k ∧ xHN nn N_ ∧ xHB nb N_ ∧ N_ 4 0 4 ≤ 40 ∧ (∀ i : Nat, 0 ≤ N_ 27 i 0 ∧ N_ 27 i 0 ≤ 5) ∧ (∀ i : Nat, 0 ≤ N_ 26 i 0 ∧ N_ 26 i 0 ≤ 5)) (c_1 : ¬ (N_ 0 0 13) ≤ k) (c_2 : ¬ 24 ≤ k) (o_5 : f_X10_noteOf k N_ = none) (M_8 : xM) (eM_8 : M_8 = xup N_ 9 0 k.toNatClampNeg (-1)) (x4_9 : Int32) (ex4_9 : x4_9 = k + 1) : xmu x4_9 (M_8 0 0 13) < n := by
  subst_vars
  have h9 := xmu_up (a := k) (b := (N_ 0 0 13)) (by grind)
  (try simp [xup_at])
  omega
theorem ob_X10_offerNotes_3_inv_9 (nb nn : Nat) (fr : Int32) (pt : Int32) (tk : Nat) (M : xM) (htk : tk < 8) (hp0 : xHN nn M) (hp1 : xHB nb M) (hp2 : M 4 0 4 ≤ 40) (hp3 : ∀ i : Nat, 0 ≤ M 27 i 0 ∧ M 27 i 0 ≤ 5) (hp4 : ∀ i : Nat, 0 ≤ M 26 i 0 ∧ M 26 i 0 ≤ 5) (hp5 : 0 ≤ pt) (hp6 : pt ≤ 5) (n : Nat) (k : Int32) (N_ : xM) (hmu : xmu k (N_ 0 0 13) < n + 1) (hinv : 0 ≤ k ∧ xHN nn N_ ∧ xHB nb N_ ∧ N_ 4 0 4 ≤ 40 ∧ (∀ i : Nat, 0 ≤ N_ 27 i 0 ∧ N_ 27 i 0 ≤ 5) ∧ (∀ i : Nat, 0 ≤ N_ 26 i 0 ∧ N_ 26 i 0 ≤ 5)) (c_1 : ¬ (N_ 0 0 13) ≤ k) (c_2 : ¬ 24 ≤ k) (o_5 : f_X10_noteOf k N_ = none) (M_8 : xM) (eM_8 : M_8 = xup N_ 9 0 k.toNatClampNeg (-1)) (x4_9 : Int32) (ex4_9 : x4_9 = k + 1) : 0 ≤ x4_9 ∧ xHN nn M_8 ∧ xHB nb M_8 ∧ M_8 4 0 4 ≤ 40 ∧ (∀ i : Nat, 0 ≤ M_8 27 i 0 ∧ M_8 27 i 0 ≤ 5) ∧ (∀ i : Nat, 0 ≤ M_8 26 i 0 ∧ M_8 26 i 0 ≤ 5) := by
  subst_vars
  grind [isUpTo_eq, isTown10_eq, xb, sheetOf_s, traderOf_s, bankOf_s, noteOf_s, hasPl_eq, xup_at, xHB_o, xHN_o]
theorem ob_X10_offerNotes_34_in_2 (nb nn : Nat) (fr : Int32) (pt : Int32) (tk : Nat) (M : xM) (htk : tk < 8) (hp0 : xHN nn M) (hp1 : xHB nb M) (hp2 : M 4 0 4 ≤ 40) (hp3 : ∀ i : Nat, 0 ≤ M 27 i 0 ∧ M 27 i 0 ≤ 5) (hp4 : ∀ i : Nat, 0 ≤ M 26 i 0 ∧ M 26 i 0 ≤ 5) (hp5 : 0 ≤ pt) (hp6 : pt ≤ 5) (n : Nat) (k : Int32) (N_ : xM) (hmu : xmu k (N_ 0 0 13) < n + 1) (hinv : 0 ≤ k ∧ xHN nn N_ ∧ xHB nb N_ ∧ N_ 4 0 4 ≤ 40 ∧ (∀ i : Nat, 0 ≤ N_ 27 i 0 ∧ N_ 27 i 0 ≤ 5) ∧ (∀ i : Nat, 0 ≤ N_ 26 i 0 ∧ N_ 26 i 0 ≤ 5)) (c_1 : ¬ (N_ 0 0 13) ≤ k) (c_2 : ¬ 24 ≤ k) (i_4 : Nat) (o_5 : f_X10_noteOf k N_ = some i_4) (hq_7 : i_4 < nn ∧ 0 ≤ k ∧ k < 24 ∧ k < N_ 0 0 13 ∧ i_4 = k.toNatClampNeg) (hi_6 : i_4 < nn) : vp_in k 24 := by
  subst_vars
  exact xin (N := 24) (by grind [isUpTo_eq, isTown10_eq, xb, sheetOf_s, traderOf_s, bankOf_s, noteOf_s, hasPl_eq, xup_at, xHB_o, xHN_o]) (by grind [isUpTo_eq, isTown10_eq, xb, sheetOf_s, traderOf_s, bankOf_s, noteOf_s, hasPl_eq, xup_at, xHB_o, xHN_o]) (by decide)
theorem ob_X10_offerNotes_3_mu_13 (nb nn : Nat) (fr : Int32) (pt : Int32) (tk : Nat) (M : xM) (htk : tk < 8) (hp0 : xHN nn M) (hp1 : xHB nb M) (hp2 : M 4 0 4 ≤ 40) (hp3 : ∀ i : Nat, 0 ≤ M 27 i 0 ∧ M 27 i 0 ≤ 5) (hp4 : ∀ i : Nat, 0 ≤ M 26 i 0 ∧ M 26 i 0 ≤ 5) (hp5 : 0 ≤ pt) (hp6 : pt ≤ 5) (n : Nat) (k : Int32) (N_ : xM) (hmu : xmu k (N_ 0 0 13) < n + 1) (hinv : 0 ≤ k ∧ xHN nn N_ ∧ xHB nb N_ ∧ N_ 4 0 4 ≤ 40 ∧ (∀ i : Nat, 0 ≤ N_ 27 i 0 ∧ N_ 27 i 0 ≤ 5) ∧ (∀ i : Nat, 0 ≤ N_ 26 i 0 ∧ N_ 26 i 0 ≤ 5)) (c_1 : ¬ (N_ 0 0 13) ≤ k) (c_2 : ¬ 24 ≤ k) (i_4 : Nat) (o_5 : f_X10_noteOf k N_ = some i_4) (hq_7 : i_4 < nn ∧ 0 ≤ k ∧ k < 24 ∧ k < N_ 0 0 13 ∧ i_4 = k.toNatClampNeg) (hi_6 : i_4 < nn) (M_10 : xM) (eM_10 : M_10 = xup N_ 9 0 k.toNatClampNeg (-1)) (r_11 : Int32) (er_11 : r_11 = f_X4_holder i_4 M_10) (c_12 : ¬ r_11 = fr) (x4_13 : Int32) (ex4_13 : x4_13 = k + 1) : xmu x4_13 (M_10 0 0 13) < n := by
  subst_vars
  have h9 := xmu_up (a := k) (b := (N_ 0 0 13)) (by grind)
  (try simp [xup_at])
  omega
theorem ob_X10_offerNotes_3_inv_13 (nb nn : Nat) (fr : Int32) (pt : Int32) (tk : Nat) (M : xM) (htk : tk < 8) (hp0 : xHN nn M) (hp1 : xHB nb M) (hp2 : M 4 0 4 ≤ 40) (hp3 : ∀ i : Nat, 0 ≤ M 27 i 0 ∧ M 27 i 0 ≤ 5) (hp4 : ∀ i : Nat, 0 ≤ M 26 i 0 ∧ M 26 i 0 ≤ 5) (hp5 : 0 ≤ pt) (hp6 : pt ≤ 5) (n : Nat) (k : Int32) (N_ : xM) (hmu : xmu k (N_ 0 0 13) < n + 1) (hinv : 0 ≤ k ∧ xHN nn N_ ∧ xHB nb N_ ∧ N_ 4 0 4 ≤ 40 ∧ (∀ i : Nat, 0 ≤ N_ 27 i 0 ∧ N_ 27 i 0 ≤ 5) ∧ (∀ i : Nat, 0 ≤ N_ 26 i 0 ∧ N_ 26 i 0 ≤ 5)) (c_1 : ¬ (N_ 0 0 13) ≤ k) (c_2 : ¬ 24 ≤ k) (i_4 : Nat) (o_5 : f_X10_noteOf k N_ = some i_4) (hq_7 : i_4 < nn ∧ 0 ≤ k ∧ k < 24 ∧ k < N_ 0 0 13 ∧ i_4 = k.toNatClampNeg) (hi_6 : i_4 < nn) (M_10 : xM) (eM_10 : M_10 = xup N_ 9 0 k.toNatClampNeg (-1)) (r_11 : Int32) (er_11 : r_11 = f_X4_holder i_4 M_10) (c_12 : ¬ r_11 = fr) (x4_13 : Int32) (ex4_13 : x4_13 = k + 1) : 0 ≤ x4_13 ∧ xHN nn M_10 ∧ xHB nb M_10 ∧ M_10 4 0 4 ≤ 40 ∧ (∀ i : Nat, 0 ≤ M_10 27 i 0 ∧ M_10 27 i 0 ≤ 5) ∧ (∀ i : Nat, 0 ≤ M_10 26 i 0 ∧ M_10 26 i 0 ≤ 5) := by
  subst_vars
  grind [isUpTo_eq, isTown10_eq, xb, sheetOf_s, traderOf_s, bankOf_s, noteOf_s, hasPl_eq, xup_at, xHB_o, xHN_o]
theorem ob_X10_offerNotes_3_mu_16 (nb nn : Nat) (fr : Int32) (pt : Int32) (tk : Nat) (M : xM) (htk : tk < 8) (hp0 : xHN nn M) (hp1 : xHB nb M) (hp2 : M 4 0 4 ≤ 40) (hp3 : ∀ i : Nat, 0 ≤ M 27 i 0 ∧ M 27 i 0 ≤ 5) (hp4 : ∀ i : Nat, 0 ≤ M 26 i 0 ∧ M 26 i 0 ≤ 5) (hp5 : 0 ≤ pt) (hp6 : pt ≤ 5) (n : Nat) (k : Int32) (N_ : xM) (hmu : xmu k (N_ 0 0 13) < n + 1) (hinv : 0 ≤ k ∧ xHN nn N_ ∧ xHB nb N_ ∧ N_ 4 0 4 ≤ 40 ∧ (∀ i : Nat, 0 ≤ N_ 27 i 0 ∧ N_ 27 i 0 ≤ 5) ∧ (∀ i : Nat, 0 ≤ N_ 26 i 0 ∧ N_ 26 i 0 ≤ 5)) (c_1 : ¬ (N_ 0 0 13) ≤ k) (c_2 : ¬ 24 ≤ k) (i_4 : Nat) (o_5 : f_X10_noteOf k N_ = some i_4) (hq_7 : i_4 < nn ∧ 0 ≤ k ∧ k < 24 ∧ k < N_ 0 0 13 ∧ i_4 = k.toNatClampNeg) (hi_6 : i_4 < nn) (M_10 : xM) (eM_10 : M_10 = xup N_ 9 0 k.toNatClampNeg (-1)) (r_11 : Int32) (er_11 : r_11 = f_X4_holder i_4 M_10) (c_12 : r_11 = fr) (r_14 : Int32) (er_14 : r_14 = xb (f_X4_isFullOfHands i_4 M_10)) (c_15 : ¬ r_14 = 0) (x4_16 : Int32) (ex4_16 : x4_16 = k + 1) : xmu x4_16 (M_10 0 0 13) < n := by
  subst_vars
  have h9 := xmu_up (a := k) (b := (N_ 0 0 13)) (by grind)
  (try simp [xup_at])
  omega
theorem ob_X10_offerNotes_3_inv_16 (nb nn : Nat) (fr : Int32) (pt : Int32) (tk : Nat) (M : xM) (htk : tk < 8) (hp0 : xHN nn M) (hp1 : xHB nb M) (hp2 : M 4 0 4 ≤ 40) (hp3 : ∀ i : Nat, 0 ≤ M 27 i 0 ∧ M 27 i 0 ≤ 5) (hp4 : ∀ i : Nat, 0 ≤ M 26 i 0 ∧ M 26 i 0 ≤ 5) (hp5 : 0 ≤ pt) (hp6 : pt ≤ 5) (n : Nat) (k : Int32) (N_ : xM) (hmu : xmu k (N_ 0 0 13) < n + 1) (hinv : 0 ≤ k ∧ xHN nn N_ ∧ xHB nb N_ ∧ N_ 4 0 4 ≤ 40 ∧ (∀ i : Nat, 0 ≤ N_ 27 i 0 ∧ N_ 27 i 0 ≤ 5) ∧ (∀ i : Nat, 0 ≤ N_ 26 i 0 ∧ N_ 26 i 0 ≤ 5)) (c_1 : ¬ (N_ 0 0 13) ≤ k) (c_2 : ¬ 24 ≤ k) (i_4 : Nat) (o_5 : f_X10_noteOf k N_ = some i_4) (hq_7 : i_4 < nn ∧ 0 ≤ k ∧ k < 24 ∧ k < N_ 0 0 13 ∧ i_4 = k.toNatClampNeg) (hi_6 : i_4 < nn) (M_10 : xM) (eM_10 : M_10 = xup N_ 9 0 k.toNatClampNeg (-1)) (r_11 : Int32) (er_11 : r_11 = f_X4_holder i_4 M_10) (c_12 : r_11 = fr) (r_14 : Int32) (er_14 : r_14 = xb (f_X4_isFullOfHands i_4 M_10)) (c_15 : ¬ r_14 = 0) (x4_16 : Int32) (ex4_16 : x4_16 = k + 1) : 0 ≤ x4_16 ∧ xHN nn M_10 ∧ xHB nb M_10 ∧ M_10 4 0 4 ≤ 40 ∧ (∀ i : Nat, 0 ≤ M_10 27 i 0 ∧ M_10 27 i 0 ≤ 5) ∧ (∀ i : Nat, 0 ≤ M_10 26 i 0 ∧ M_10 26 i 0 ≤ 5) := by
  subst_vars
  grind [isUpTo_eq, isTown10_eq, xb, sheetOf_s, traderOf_s, bankOf_s, noteOf_s, hasPl_eq, xup_at, xHB_o, xHN_o]
theorem ob_X10_offerNotes_68_p0 (nb nn : Nat) (fr : Int32) (pt : Int32) (tk : Nat) (M : xM) (htk : tk < 8) (hp0 : xHN nn M) (hp1 : xHB nb M) (hp2 : M 4 0 4 ≤ 40) (hp3 : ∀ i : Nat, 0 ≤ M 27 i 0 ∧ M 27 i 0 ≤ 5) (hp4 : ∀ i : Nat, 0 ≤ M 26 i 0 ∧ M 26 i 0 ≤ 5) (hp5 : 0 ≤ pt) (hp6 : pt ≤ 5) (n : Nat) (k : Int32) (N_ : xM) (hmu : xmu k (N_ 0 0 13) < n + 1) (hinv : 0 ≤ k ∧ xHN nn N_ ∧ xHB nb N_ ∧ N_ 4 0 4 ≤ 40 ∧ (∀ i : Nat, 0 ≤ N_ 27 i 0 ∧ N_ 27 i 0 ≤ 5) ∧ (∀ i : Nat, 0 ≤ N_ 26 i 0 ∧ N_ 26 i 0 ≤ 5)) (c_1 : ¬ (N_ 0 0 13) ≤ k) (c_2 : ¬ 24 ≤ k) (i_4 : Nat) (o_5 : f_X10_noteOf k N_ = some i_4) (hq_7 : i_4 < nn ∧ 0 ≤ k ∧ k < 24 ∧ k < N_ 0 0 13 ∧ i_4 = k.toNatClampNeg) (hi_6 : i_4 < nn) (M_10 : xM) (eM_10 : M_10 = xup N_ 9 0 k.toNatClampNeg (-1)) (r_11 : Int32) (er_11 : r_11 = f_X4_holder i_4 M_10) (c_12 : r_11 = fr) (r_14 : Int32) (er_14 : r_14 = xb (f_X4_isFullOfHands i_4 M_10)) (c_15 : r_14 = 0) : xHB nb M_10 := by
  subst_vars
  grind [isUpTo_eq, isTown10_eq, xb, sheetOf_s, traderOf_s, bankOf_s, noteOf_s, hasPl_eq, xup_at, xHB_o, xHN_o]
theorem ob_X10_offerNotes_68_p1 (nb nn : Nat) (fr : Int32) (pt : Int32) (tk : Nat) (M : xM) (htk : tk < 8) (hp0 : xHN nn M) (hp1 : xHB nb M) (hp2 : M 4 0 4 ≤ 40) (hp3 : ∀ i : Nat, 0 ≤ M 27 i 0 ∧ M 27 i 0 ≤ 5) (hp4 : ∀ i : Nat, 0 ≤ M 26 i 0 ∧ M 26 i 0 ≤ 5) (hp5 : 0 ≤ pt) (hp6 : pt ≤ 5) (n : Nat) (k : Int32) (N_ : xM) (hmu : xmu k (N_ 0 0 13) < n + 1) (hinv : 0 ≤ k ∧ xHN nn N_ ∧ xHB nb N_ ∧ N_ 4 0 4 ≤ 40 ∧ (∀ i : Nat, 0 ≤ N_ 27 i 0 ∧ N_ 27 i 0 ≤ 5) ∧ (∀ i : Nat, 0 ≤ N_ 26 i 0 ∧ N_ 26 i 0 ≤ 5)) (c_1 : ¬ (N_ 0 0 13) ≤ k) (c_2 : ¬ 24 ≤ k) (i_4 : Nat) (o_5 : f_X10_noteOf k N_ = some i_4) (hq_7 : i_4 < nn ∧ 0 ≤ k ∧ k < 24 ∧ k < N_ 0 0 13 ∧ i_4 = k.toNatClampNeg) (hi_6 : i_4 < nn) (M_10 : xM) (eM_10 : M_10 = xup N_ 9 0 k.toNatClampNeg (-1)) (r_11 : Int32) (er_11 : r_11 = f_X4_holder i_4 M_10) (c_12 : r_11 = fr) (r_14 : Int32) (er_14 : r_14 = xb (f_X4_isFullOfHands i_4 M_10)) (c_15 : r_14 = 0) : M_10 4 0 4 ≤ 40 := by
  subst_vars
  grind [isUpTo_eq, isTown10_eq, xb, sheetOf_s, traderOf_s, bankOf_s, noteOf_s, hasPl_eq, xup_at, xHB_o, xHN_o]
theorem ob_X10_offerNotes_68_p2 (nb nn : Nat) (fr : Int32) (pt : Int32) (tk : Nat) (M : xM) (htk : tk < 8) (hp0 : xHN nn M) (hp1 : xHB nb M) (hp2 : M 4 0 4 ≤ 40) (hp3 : ∀ i : Nat, 0 ≤ M 27 i 0 ∧ M 27 i 0 ≤ 5) (hp4 : ∀ i : Nat, 0 ≤ M 26 i 0 ∧ M 26 i 0 ≤ 5) (hp5 : 0 ≤ pt) (hp6 : pt ≤ 5) (n : Nat) (k : Int32) (N_ : xM) (hmu : xmu k (N_ 0 0 13) < n + 1) (hinv : 0 ≤ k ∧ xHN nn N_ ∧ xHB nb N_ ∧ N_ 4 0 4 ≤ 40 ∧ (∀ i : Nat, 0 ≤ N_ 27 i 0 ∧ N_ 27 i 0 ≤ 5) ∧ (∀ i : Nat, 0 ≤ N_ 26 i 0 ∧ N_ 26 i 0 ≤ 5)) (c_1 : ¬ (N_ 0 0 13) ≤ k) (c_2 : ¬ 24 ≤ k) (i_4 : Nat) (o_5 : f_X10_noteOf k N_ = some i_4) (hq_7 : i_4 < nn ∧ 0 ≤ k ∧ k < 24 ∧ k < N_ 0 0 13 ∧ i_4 = k.toNatClampNeg) (hi_6 : i_4 < nn) (M_10 : xM) (eM_10 : M_10 = xup N_ 9 0 k.toNatClampNeg (-1)) (r_11 : Int32) (er_11 : r_11 = f_X4_holder i_4 M_10) (c_12 : r_11 = fr) (r_14 : Int32) (er_14 : r_14 = xb (f_X4_isFullOfHands i_4 M_10)) (c_15 : r_14 = 0) : 0 ≤ (M_10 26 tk 0) := by
  subst_vars
  grind [isUpTo_eq, isTown10_eq, xb, sheetOf_s, traderOf_s, bankOf_s, noteOf_s, hasPl_eq, xup_at, xHB_o, xHN_o]
theorem ob_X10_offerNotes_68_p3 (nb nn : Nat) (fr : Int32) (pt : Int32) (tk : Nat) (M : xM) (htk : tk < 8) (hp0 : xHN nn M) (hp1 : xHB nb M) (hp2 : M 4 0 4 ≤ 40) (hp3 : ∀ i : Nat, 0 ≤ M 27 i 0 ∧ M 27 i 0 ≤ 5) (hp4 : ∀ i : Nat, 0 ≤ M 26 i 0 ∧ M 26 i 0 ≤ 5) (hp5 : 0 ≤ pt) (hp6 : pt ≤ 5) (n : Nat) (k : Int32) (N_ : xM) (hmu : xmu k (N_ 0 0 13) < n + 1) (hinv : 0 ≤ k ∧ xHN nn N_ ∧ xHB nb N_ ∧ N_ 4 0 4 ≤ 40 ∧ (∀ i : Nat, 0 ≤ N_ 27 i 0 ∧ N_ 27 i 0 ≤ 5) ∧ (∀ i : Nat, 0 ≤ N_ 26 i 0 ∧ N_ 26 i 0 ≤ 5)) (c_1 : ¬ (N_ 0 0 13) ≤ k) (c_2 : ¬ 24 ≤ k) (i_4 : Nat) (o_5 : f_X10_noteOf k N_ = some i_4) (hq_7 : i_4 < nn ∧ 0 ≤ k ∧ k < 24 ∧ k < N_ 0 0 13 ∧ i_4 = k.toNatClampNeg) (hi_6 : i_4 < nn) (M_10 : xM) (eM_10 : M_10 = xup N_ 9 0 k.toNatClampNeg (-1)) (r_11 : Int32) (er_11 : r_11 = f_X4_holder i_4 M_10) (c_12 : r_11 = fr) (r_14 : Int32) (er_14 : r_14 = xb (f_X4_isFullOfHands i_4 M_10)) (c_15 : r_14 = 0) : (M_10 26 tk 0) ≤ 5 := by
  subst_vars
  grind [isUpTo_eq, isTown10_eq, xb, sheetOf_s, traderOf_s, bankOf_s, noteOf_s, hasPl_eq, xup_at, xHB_o, xHN_o]
theorem ob_X10_offerNotes_68_p4 (nb nn : Nat) (fr : Int32) (pt : Int32) (tk : Nat) (M : xM) (htk : tk < 8) (hp0 : xHN nn M) (hp1 : xHB nb M) (hp2 : M 4 0 4 ≤ 40) (hp3 : ∀ i : Nat, 0 ≤ M 27 i 0 ∧ M 27 i 0 ≤ 5) (hp4 : ∀ i : Nat, 0 ≤ M 26 i 0 ∧ M 26 i 0 ≤ 5) (hp5 : 0 ≤ pt) (hp6 : pt ≤ 5) (n : Nat) (k : Int32) (N_ : xM) (hmu : xmu k (N_ 0 0 13) < n + 1) (hinv : 0 ≤ k ∧ xHN nn N_ ∧ xHB nb N_ ∧ N_ 4 0 4 ≤ 40 ∧ (∀ i : Nat, 0 ≤ N_ 27 i 0 ∧ N_ 27 i 0 ≤ 5) ∧ (∀ i : Nat, 0 ≤ N_ 26 i 0 ∧ N_ 26 i 0 ≤ 5)) (c_1 : ¬ (N_ 0 0 13) ≤ k) (c_2 : ¬ 24 ≤ k) (i_4 : Nat) (o_5 : f_X10_noteOf k N_ = some i_4) (hq_7 : i_4 < nn ∧ 0 ≤ k ∧ k < 24 ∧ k < N_ 0 0 13 ∧ i_4 = k.toNatClampNeg) (hi_6 : i_4 < nn) (M_10 : xM) (eM_10 : M_10 = xup N_ 9 0 k.toNatClampNeg (-1)) (r_11 : Int32) (er_11 : r_11 = f_X4_holder i_4 M_10) (c_12 : r_11 = fr) (r_14 : Int32) (er_14 : r_14 = xb (f_X4_isFullOfHands i_4 M_10)) (c_15 : r_14 = 0) : ∀ i : Nat, 0 ≤ M_10 27 i 0 ∧ M_10 27 i 0 ≤ 5 := by
  subst_vars
  grind [isUpTo_eq, isTown10_eq, xb, sheetOf_s, traderOf_s, bankOf_s, noteOf_s, hasPl_eq, xup_at, xHB_o, xHN_o]
theorem ob_X10_offerNotes_3_mu_19 (nb nn : Nat) (fr : Int32) (pt : Int32) (tk : Nat) (M : xM) (htk : tk < 8) (hp0 : xHN nn M) (hp1 : xHB nb M) (hp2 : M 4 0 4 ≤ 40) (hp3 : ∀ i : Nat, 0 ≤ M 27 i 0 ∧ M 27 i 0 ≤ 5) (hp4 : ∀ i : Nat, 0 ≤ M 26 i 0 ∧ M 26 i 0 ≤ 5) (hp5 : 0 ≤ pt) (hp6 : pt ≤ 5) (n : Nat) (k : Int32) (N_ : xM) (hmu : xmu k (N_ 0 0 13) < n + 1) (hinv : 0 ≤ k ∧ xHN nn N_ ∧ xHB nb N_ ∧ N_ 4 0 4 ≤ 40 ∧ (∀ i : Nat, 0 ≤ N_ 27 i 0 ∧ N_ 27 i 0 ≤ 5) ∧ (∀ i : Nat, 0 ≤ N_ 26 i 0 ∧ N_ 26 i 0 ≤ 5)) (c_1 : ¬ (N_ 0 0 13) ≤ k) (c_2 : ¬ 24 ≤ k) (i_4 : Nat) (o_5 : f_X10_noteOf k N_ = some i_4) (hq_7 : i_4 < nn ∧ 0 ≤ k ∧ k < 24 ∧ k < N_ 0 0 13 ∧ i_4 = k.toNatClampNeg) (hi_6 : i_4 < nn) (M_10 : xM) (eM_10 : M_10 = xup N_ 9 0 k.toNatClampNeg (-1)) (r_11 : Int32) (er_11 : r_11 = f_X4_holder i_4 M_10) (c_12 : r_11 = fr) (r_14 : Int32) (er_14 : r_14 = xb (f_X4_isFullOfHands i_4 M_10)) (c_15 : r_14 = 0) (r_17 : Int32) (er_17 : r_17 = f_X10_inTheHundred i_4 (M_10 26 tk 0) (M_10 0 0 14) M_10) (c_18 : r_17 < (M_10 26 tk 1)) (x4_19 : Int32) (ex4_19 : x4_19 = k + 1) : xmu x4_19 (M_10 0 0 13) < n := by
  subst_vars
  have h9 := xmu_up (a := k) (b := (N_ 0 0 13)) (by grind)
  (try simp [xup_at])
  omega
theorem ob_X10_offerNotes_3_inv_19 (nb nn : Nat) (fr : Int32) (pt : Int32) (tk : Nat) (M : xM) (htk : tk < 8) (hp0 : xHN nn M) (hp1 : xHB nb M) (hp2 : M 4 0 4 ≤ 40) (hp3 : ∀ i : Nat, 0 ≤ M 27 i 0 ∧ M 27 i 0 ≤ 5) (hp4 : ∀ i : Nat, 0 ≤ M 26 i 0 ∧ M 26 i 0 ≤ 5) (hp5 : 0 ≤ pt) (hp6 : pt ≤ 5) (n : Nat) (k : Int32) (N_ : xM) (hmu : xmu k (N_ 0 0 13) < n + 1) (hinv : 0 ≤ k ∧ xHN nn N_ ∧ xHB nb N_ ∧ N_ 4 0 4 ≤ 40 ∧ (∀ i : Nat, 0 ≤ N_ 27 i 0 ∧ N_ 27 i 0 ≤ 5) ∧ (∀ i : Nat, 0 ≤ N_ 26 i 0 ∧ N_ 26 i 0 ≤ 5)) (c_1 : ¬ (N_ 0 0 13) ≤ k) (c_2 : ¬ 24 ≤ k) (i_4 : Nat) (o_5 : f_X10_noteOf k N_ = some i_4) (hq_7 : i_4 < nn ∧ 0 ≤ k ∧ k < 24 ∧ k < N_ 0 0 13 ∧ i_4 = k.toNatClampNeg) (hi_6 : i_4 < nn) (M_10 : xM) (eM_10 : M_10 = xup N_ 9 0 k.toNatClampNeg (-1)) (r_11 : Int32) (er_11 : r_11 = f_X4_holder i_4 M_10) (c_12 : r_11 = fr) (r_14 : Int32) (er_14 : r_14 = xb (f_X4_isFullOfHands i_4 M_10)) (c_15 : r_14 = 0) (r_17 : Int32) (er_17 : r_17 = f_X10_inTheHundred i_4 (M_10 26 tk 0) (M_10 0 0 14) M_10) (c_18 : r_17 < (M_10 26 tk 1)) (x4_19 : Int32) (ex4_19 : x4_19 = k + 1) : 0 ≤ x4_19 ∧ xHN nn M_10 ∧ xHB nb M_10 ∧ M_10 4 0 4 ≤ 40 ∧ (∀ i : Nat, 0 ≤ M_10 27 i 0 ∧ M_10 27 i 0 ≤ 5) ∧ (∀ i : Nat, 0 ≤ M_10 26 i 0 ∧ M_10 26 i 0 ≤ 5) := by
  subst_vars
  grind [isUpTo_eq, isTown10_eq, xb, sheetOf_s, traderOf_s, bankOf_s, noteOf_s, hasPl_eq, xup_at, xHB_o, xHN_o]
theorem ob_X10_offerNotes_92_p0 (nb nn : Nat) (fr : Int32) (pt : Int32) (tk : Nat) (M : xM) (htk : tk < 8) (hp0 : xHN nn M) (hp1 : xHB nb M) (hp2 : M 4 0 4 ≤ 40) (hp3 : ∀ i : Nat, 0 ≤ M 27 i 0 ∧ M 27 i 0 ≤ 5) (hp4 : ∀ i : Nat, 0 ≤ M 26 i 0 ∧ M 26 i 0 ≤ 5) (hp5 : 0 ≤ pt) (hp6 : pt ≤ 5) (n : Nat) (k : Int32) (N_ : xM) (hmu : xmu k (N_ 0 0 13) < n + 1) (hinv : 0 ≤ k ∧ xHN nn N_ ∧ xHB nb N_ ∧ N_ 4 0 4 ≤ 40 ∧ (∀ i : Nat, 0 ≤ N_ 27 i 0 ∧ N_ 27 i 0 ≤ 5) ∧ (∀ i : Nat, 0 ≤ N_ 26 i 0 ∧ N_ 26 i 0 ≤ 5)) (c_1 : ¬ (N_ 0 0 13) ≤ k) (c_2 : ¬ 24 ≤ k) (i_4 : Nat) (o_5 : f_X10_noteOf k N_ = some i_4) (hq_7 : i_4 < nn ∧ 0 ≤ k ∧ k < 24 ∧ k < N_ 0 0 13 ∧ i_4 = k.toNatClampNeg) (hi_6 : i_4 < nn) (M_10 : xM) (eM_10 : M_10 = xup N_ 9 0 k.toNatClampNeg (-1)) (r_11 : Int32) (er_11 : r_11 = f_X4_holder i_4 M_10) (c_12 : r_11 = fr) (r_14 : Int32) (er_14 : r_14 = xb (f_X4_isFullOfHands i_4 M_10)) (c_15 : r_14 = 0) (r_17 : Int32) (er_17 : r_17 = f_X10_inTheHundred i_4 (M_10 26 tk 0) (M_10 0 0 14) M_10) (c_18 : ¬ r_17 < (M_10 26 tk 1)) : xHB nb M_10 := by
  subst_vars
  grind [isUpTo_eq, isTown10_eq, xb, sheetOf_s, traderOf_s, bankOf_s, noteOf_s, hasPl_eq, xup_at, xHB_o, xHN_o]
theorem ob_X10_offerNotes_92_p1 (nb nn : Nat) (fr : Int32) (pt : Int32) (tk : Nat) (M : xM) (htk : tk < 8) (hp0 : xHN nn M) (hp1 : xHB nb M) (hp2 : M 4 0 4 ≤ 40) (hp3 : ∀ i : Nat, 0 ≤ M 27 i 0 ∧ M 27 i 0 ≤ 5) (hp4 : ∀ i : Nat, 0 ≤ M 26 i 0 ∧ M 26 i 0 ≤ 5) (hp5 : 0 ≤ pt) (hp6 : pt ≤ 5) (n : Nat) (k : Int32) (N_ : xM) (hmu : xmu k (N_ 0 0 13) < n + 1) (hinv : 0 ≤ k ∧ xHN nn N_ ∧ xHB nb N_ ∧ N_ 4 0 4 ≤ 40 ∧ (∀ i : Nat, 0 ≤ N_ 27 i 0 ∧ N_ 27 i 0 ≤ 5) ∧ (∀ i : Nat, 0 ≤ N_ 26 i 0 ∧ N_ 26 i 0 ≤ 5)) (c_1 : ¬ (N_ 0 0 13) ≤ k) (c_2 : ¬ 24 ≤ k) (i_4 : Nat) (o_5 : f_X10_noteOf k N_ = some i_4) (hq_7 : i_4 < nn ∧ 0 ≤ k ∧ k < 24 ∧ k < N_ 0 0 13 ∧ i_4 = k.toNatClampNeg) (hi_6 : i_4 < nn) (M_10 : xM) (eM_10 : M_10 = xup N_ 9 0 k.toNatClampNeg (-1)) (r_11 : Int32) (er_11 : r_11 = f_X4_holder i_4 M_10) (c_12 : r_11 = fr) (r_14 : Int32) (er_14 : r_14 = xb (f_X4_isFullOfHands i_4 M_10)) (c_15 : r_14 = 0) (r_17 : Int32) (er_17 : r_17 = f_X10_inTheHundred i_4 (M_10 26 tk 0) (M_10 0 0 14) M_10) (c_18 : ¬ r_17 < (M_10 26 tk 1)) : M_10 4 0 4 ≤ 40 := by
  subst_vars
  grind [isUpTo_eq, isTown10_eq, xb, sheetOf_s, traderOf_s, bankOf_s, noteOf_s, hasPl_eq, xup_at, xHB_o, xHN_o]
theorem ob_X10_offerNotes_92_p2 (nb nn : Nat) (fr : Int32) (pt : Int32) (tk : Nat) (M : xM) (htk : tk < 8) (hp0 : xHN nn M) (hp1 : xHB nb M) (hp2 : M 4 0 4 ≤ 40) (hp3 : ∀ i : Nat, 0 ≤ M 27 i 0 ∧ M 27 i 0 ≤ 5) (hp4 : ∀ i : Nat, 0 ≤ M 26 i 0 ∧ M 26 i 0 ≤ 5) (hp5 : 0 ≤ pt) (hp6 : pt ≤ 5) (n : Nat) (k : Int32) (N_ : xM) (hmu : xmu k (N_ 0 0 13) < n + 1) (hinv : 0 ≤ k ∧ xHN nn N_ ∧ xHB nb N_ ∧ N_ 4 0 4 ≤ 40 ∧ (∀ i : Nat, 0 ≤ N_ 27 i 0 ∧ N_ 27 i 0 ≤ 5) ∧ (∀ i : Nat, 0 ≤ N_ 26 i 0 ∧ N_ 26 i 0 ≤ 5)) (c_1 : ¬ (N_ 0 0 13) ≤ k) (c_2 : ¬ 24 ≤ k) (i_4 : Nat) (o_5 : f_X10_noteOf k N_ = some i_4) (hq_7 : i_4 < nn ∧ 0 ≤ k ∧ k < 24 ∧ k < N_ 0 0 13 ∧ i_4 = k.toNatClampNeg) (hi_6 : i_4 < nn) (M_10 : xM) (eM_10 : M_10 = xup N_ 9 0 k.toNatClampNeg (-1)) (r_11 : Int32) (er_11 : r_11 = f_X4_holder i_4 M_10) (c_12 : r_11 = fr) (r_14 : Int32) (er_14 : r_14 = xb (f_X4_isFullOfHands i_4 M_10)) (c_15 : r_14 = 0) (r_17 : Int32) (er_17 : r_17 = f_X10_inTheHundred i_4 (M_10 26 tk 0) (M_10 0 0 14) M_10) (c_18 : ¬ r_17 < (M_10 26 tk 1)) : 0 ≤ pt := by
  subst_vars
  grind [isUpTo_eq, isTown10_eq, xb, sheetOf_s, traderOf_s, bankOf_s, noteOf_s, hasPl_eq, xup_at, xHB_o, xHN_o]
theorem ob_X10_offerNotes_92_p3 (nb nn : Nat) (fr : Int32) (pt : Int32) (tk : Nat) (M : xM) (htk : tk < 8) (hp0 : xHN nn M) (hp1 : xHB nb M) (hp2 : M 4 0 4 ≤ 40) (hp3 : ∀ i : Nat, 0 ≤ M 27 i 0 ∧ M 27 i 0 ≤ 5) (hp4 : ∀ i : Nat, 0 ≤ M 26 i 0 ∧ M 26 i 0 ≤ 5) (hp5 : 0 ≤ pt) (hp6 : pt ≤ 5) (n : Nat) (k : Int32) (N_ : xM) (hmu : xmu k (N_ 0 0 13) < n + 1) (hinv : 0 ≤ k ∧ xHN nn N_ ∧ xHB nb N_ ∧ N_ 4 0 4 ≤ 40 ∧ (∀ i : Nat, 0 ≤ N_ 27 i 0 ∧ N_ 27 i 0 ≤ 5) ∧ (∀ i : Nat, 0 ≤ N_ 26 i 0 ∧ N_ 26 i 0 ≤ 5)) (c_1 : ¬ (N_ 0 0 13) ≤ k) (c_2 : ¬ 24 ≤ k) (i_4 : Nat) (o_5 : f_X10_noteOf k N_ = some i_4) (hq_7 : i_4 < nn ∧ 0 ≤ k ∧ k < 24 ∧ k < N_ 0 0 13 ∧ i_4 = k.toNatClampNeg) (hi_6 : i_4 < nn) (M_10 : xM) (eM_10 : M_10 = xup N_ 9 0 k.toNatClampNeg (-1)) (r_11 : Int32) (er_11 : r_11 = f_X4_holder i_4 M_10) (c_12 : r_11 = fr) (r_14 : Int32) (er_14 : r_14 = xb (f_X4_isFullOfHands i_4 M_10)) (c_15 : r_14 = 0) (r_17 : Int32) (er_17 : r_17 = f_X10_inTheHundred i_4 (M_10 26 tk 0) (M_10 0 0 14) M_10) (c_18 : ¬ r_17 < (M_10 26 tk 1)) : pt ≤ 5 := by
  subst_vars
  grind [isUpTo_eq, isTown10_eq, xb, sheetOf_s, traderOf_s, bankOf_s, noteOf_s, hasPl_eq, xup_at, xHB_o, xHN_o]
theorem ob_X10_offerNotes_92_p4 (nb nn : Nat) (fr : Int32) (pt : Int32) (tk : Nat) (M : xM) (htk : tk < 8) (hp0 : xHN nn M) (hp1 : xHB nb M) (hp2 : M 4 0 4 ≤ 40) (hp3 : ∀ i : Nat, 0 ≤ M 27 i 0 ∧ M 27 i 0 ≤ 5) (hp4 : ∀ i : Nat, 0 ≤ M 26 i 0 ∧ M 26 i 0 ≤ 5) (hp5 : 0 ≤ pt) (hp6 : pt ≤ 5) (n : Nat) (k : Int32) (N_ : xM) (hmu : xmu k (N_ 0 0 13) < n + 1) (hinv : 0 ≤ k ∧ xHN nn N_ ∧ xHB nb N_ ∧ N_ 4 0 4 ≤ 40 ∧ (∀ i : Nat, 0 ≤ N_ 27 i 0 ∧ N_ 27 i 0 ≤ 5) ∧ (∀ i : Nat, 0 ≤ N_ 26 i 0 ∧ N_ 26 i 0 ≤ 5)) (c_1 : ¬ (N_ 0 0 13) ≤ k) (c_2 : ¬ 24 ≤ k) (i_4 : Nat) (o_5 : f_X10_noteOf k N_ = some i_4) (hq_7 : i_4 < nn ∧ 0 ≤ k ∧ k < 24 ∧ k < N_ 0 0 13 ∧ i_4 = k.toNatClampNeg) (hi_6 : i_4 < nn) (M_10 : xM) (eM_10 : M_10 = xup N_ 9 0 k.toNatClampNeg (-1)) (r_11 : Int32) (er_11 : r_11 = f_X4_holder i_4 M_10) (c_12 : r_11 = fr) (r_14 : Int32) (er_14 : r_14 = xb (f_X4_isFullOfHands i_4 M_10)) (c_15 : r_14 = 0) (r_17 : Int32) (er_17 : r_17 = f_X10_inTheHundred i_4 (M_10 26 tk 0) (M_10 0 0 14) M_10) (c_18 : ¬ r_17 < (M_10 26 tk 1)) : ∀ i : Nat, 0 ≤ M_10 27 i 0 ∧ M_10 27 i 0 ≤ 5 := by
  subst_vars
  grind [isUpTo_eq, isTown10_eq, xb, sheetOf_s, traderOf_s, bankOf_s, noteOf_s, hasPl_eq, xup_at, xHB_o, xHN_o]
theorem ob_X10_offerNotes_95_in (nb nn : Nat) (fr : Int32) (pt : Int32) (tk : Nat) (M : xM) (htk : tk < 8) (hp0 : xHN nn M) (hp1 : xHB nb M) (hp2 : M 4 0 4 ≤ 40) (hp3 : ∀ i : Nat, 0 ≤ M 27 i 0 ∧ M 27 i 0 ≤ 5) (hp4 : ∀ i : Nat, 0 ≤ M 26 i 0 ∧ M 26 i 0 ≤ 5) (hp5 : 0 ≤ pt) (hp6 : pt ≤ 5) (n : Nat) (k : Int32) (N_ : xM) (hmu : xmu k (N_ 0 0 13) < n + 1) (hinv : 0 ≤ k ∧ xHN nn N_ ∧ xHB nb N_ ∧ N_ 4 0 4 ≤ 40 ∧ (∀ i : Nat, 0 ≤ N_ 27 i 0 ∧ N_ 27 i 0 ≤ 5) ∧ (∀ i : Nat, 0 ≤ N_ 26 i 0 ∧ N_ 26 i 0 ≤ 5)) (c_1 : ¬ (N_ 0 0 13) ≤ k) (c_2 : ¬ 24 ≤ k) (i_4 : Nat) (o_5 : f_X10_noteOf k N_ = some i_4) (hq_7 : i_4 < nn ∧ 0 ≤ k ∧ k < 24 ∧ k < N_ 0 0 13 ∧ i_4 = k.toNatClampNeg) (hi_6 : i_4 < nn) (M_10 : xM) (eM_10 : M_10 = xup N_ 9 0 k.toNatClampNeg (-1)) (r_11 : Int32) (er_11 : r_11 = f_X4_holder i_4 M_10) (c_12 : r_11 = fr) (r_14 : Int32) (er_14 : r_14 = xb (f_X4_isFullOfHands i_4 M_10)) (c_15 : r_14 = 0) (r_17 : Int32) (er_17 : r_17 = f_X10_inTheHundred i_4 (M_10 26 tk 0) (M_10 0 0 14) M_10) (c_18 : ¬ r_17 < (M_10 26 tk 1)) (r_20 : Int32) (er_20 : r_20 = f_X10_inTheHundred i_4 pt (M_10 0 0 14) M_10) : vp_in k 24 := by
  subst_vars
  exact xin (N := 24) (by grind [isUpTo_eq, isTown10_eq, xb, sheetOf_s, traderOf_s, bankOf_s, noteOf_s, hasPl_eq, xup_at, xHB_o, xHN_o]) (by grind [isUpTo_eq, isTown10_eq, xb, sheetOf_s, traderOf_s, bankOf_s, noteOf_s, hasPl_eq, xup_at, xHB_o, xHN_o]) (by decide)
theorem ob_X10_offerNotes_3_mu_22 (nb nn : Nat) (fr : Int32) (pt : Int32) (tk : Nat) (M : xM) (htk : tk < 8) (hp0 : xHN nn M) (hp1 : xHB nb M) (hp2 : M 4 0 4 ≤ 40) (hp3 : ∀ i : Nat, 0 ≤ M 27 i 0 ∧ M 27 i 0 ≤ 5) (hp4 : ∀ i : Nat, 0 ≤ M 26 i 0 ∧ M 26 i 0 ≤ 5) (hp5 : 0 ≤ pt) (hp6 : pt ≤ 5) (n : Nat) (k : Int32) (N_ : xM) (hmu : xmu k (N_ 0 0 13) < n + 1) (hinv : 0 ≤ k ∧ xHN nn N_ ∧ xHB nb N_ ∧ N_ 4 0 4 ≤ 40 ∧ (∀ i : Nat, 0 ≤ N_ 27 i 0 ∧ N_ 27 i 0 ≤ 5) ∧ (∀ i : Nat, 0 ≤ N_ 26 i 0 ∧ N_ 26 i 0 ≤ 5)) (c_1 : ¬ (N_ 0 0 13) ≤ k) (c_2 : ¬ 24 ≤ k) (i_4 : Nat) (o_5 : f_X10_noteOf k N_ = some i_4) (hq_7 : i_4 < nn ∧ 0 ≤ k ∧ k < 24 ∧ k < N_ 0 0 13 ∧ i_4 = k.toNatClampNeg) (hi_6 : i_4 < nn) (M_10 : xM) (eM_10 : M_10 = xup N_ 9 0 k.toNatClampNeg (-1)) (r_11 : Int32) (er_11 : r_11 = f_X4_holder i_4 M_10) (c_12 : r_11 = fr) (r_14 : Int32) (er_14 : r_14 = xb (f_X4_isFullOfHands i_4 M_10)) (c_15 : r_14 = 0) (r_17 : Int32) (er_17 : r_17 = f_X10_inTheHundred i_4 (M_10 26 tk 0) (M_10 0 0 14) M_10) (c_18 : ¬ r_17 < (M_10 26 tk 1)) (r_20 : Int32) (er_20 : r_20 = f_X10_inTheHundred i_4 pt (M_10 0 0 14) M_10) (M_21 : xM) (eM_21 : M_21 = xup M_10 9 0 k.toNatClampNeg r_20) (x4_22 : Int32) (ex4_22 : x4_22 = k + 1) : xmu x4_22 (M_21 0 0 13) < n := by
  subst_vars
  have h9 := xmu_up (a := k) (b := (N_ 0 0 13)) (by grind)
  (try simp [xup_at])
  omega
theorem ob_X10_offerNotes_3_inv_22 (nb nn : Nat) (fr : Int32) (pt : Int32) (tk : Nat) (M : xM) (htk : tk < 8) (hp0 : xHN nn M) (hp1 : xHB nb M) (hp2 : M 4 0 4 ≤ 40) (hp3 : ∀ i : Nat, 0 ≤ M 27 i 0 ∧ M 27 i 0 ≤ 5) (hp4 : ∀ i : Nat, 0 ≤ M 26 i 0 ∧ M 26 i 0 ≤ 5) (hp5 : 0 ≤ pt) (hp6 : pt ≤ 5) (n : Nat) (k : Int32) (N_ : xM) (hmu : xmu k (N_ 0 0 13) < n + 1) (hinv : 0 ≤ k ∧ xHN nn N_ ∧ xHB nb N_ ∧ N_ 4 0 4 ≤ 40 ∧ (∀ i : Nat, 0 ≤ N_ 27 i 0 ∧ N_ 27 i 0 ≤ 5) ∧ (∀ i : Nat, 0 ≤ N_ 26 i 0 ∧ N_ 26 i 0 ≤ 5)) (c_1 : ¬ (N_ 0 0 13) ≤ k) (c_2 : ¬ 24 ≤ k) (i_4 : Nat) (o_5 : f_X10_noteOf k N_ = some i_4) (hq_7 : i_4 < nn ∧ 0 ≤ k ∧ k < 24 ∧ k < N_ 0 0 13 ∧ i_4 = k.toNatClampNeg) (hi_6 : i_4 < nn) (M_10 : xM) (eM_10 : M_10 = xup N_ 9 0 k.toNatClampNeg (-1)) (r_11 : Int32) (er_11 : r_11 = f_X4_holder i_4 M_10) (c_12 : r_11 = fr) (r_14 : Int32) (er_14 : r_14 = xb (f_X4_isFullOfHands i_4 M_10)) (c_15 : r_14 = 0) (r_17 : Int32) (er_17 : r_17 = f_X10_inTheHundred i_4 (M_10 26 tk 0) (M_10 0 0 14) M_10) (c_18 : ¬ r_17 < (M_10 26 tk 1)) (r_20 : Int32) (er_20 : r_20 = f_X10_inTheHundred i_4 pt (M_10 0 0 14) M_10) (M_21 : xM) (eM_21 : M_21 = xup M_10 9 0 k.toNatClampNeg r_20) (x4_22 : Int32) (ex4_22 : x4_22 = k + 1) : 0 ≤ x4_22 ∧ xHN nn M_21 ∧ xHB nb M_21 ∧ M_21 4 0 4 ≤ 40 ∧ (∀ i : Nat, 0 ≤ M_21 27 i 0 ∧ M_21 27 i 0 ≤ 5) ∧ (∀ i : Nat, 0 ≤ M_21 26 i 0 ∧ M_21 26 i 0 ≤ 5) := by
  subst_vars
  grind [isUpTo_eq, isTown10_eq, xb, sheetOf_s, traderOf_s, bankOf_s, noteOf_s, hasPl_eq, xup_at, xHB_o, xHN_o]
theorem ob_X10_offerNotes_3_ini_22 (nb nn : Nat) (fr : Int32) (pt : Int32) (tk : Nat) (M : xM) (htk : tk < 8) (hp0 : xHN nn M) (hp1 : xHB nb M) (hp2 : M 4 0 4 ≤ 40) (hp3 : ∀ i : Nat, 0 ≤ M 27 i 0 ∧ M 27 i 0 ≤ 5) (hp4 : ∀ i : Nat, 0 ≤ M 26 i 0 ∧ M 26 i 0 ≤ 5) (hp5 : 0 ≤ pt) (hp6 : pt ≤ 5) : 0 ≤ (0 : Int32) ∧ xHN nn M ∧ xHB nb M ∧ M 4 0 4 ≤ 40 ∧ (∀ i : Nat, 0 ≤ M 27 i 0 ∧ M 27 i 0 ≤ 5) ∧ (∀ i : Nat, 0 ≤ M 26 i 0 ∧ M 26 i 0 ≤ 5) := by
  subst_vars
  grind [isUpTo_eq, isTown10_eq, xb, sheetOf_s, traderOf_s, bankOf_s, noteOf_s, hasPl_eq, xup_at, xHB_o, xHN_o]
theorem ob_X10_worstOffer_58_x9 (nb nn : Nat) (M : xM) (n : Nat) (worst : Int32) (least : Int32) (i : Int32) (hmu : xmu i (M 0 0 13) < n + 1) (hinv : 0 ≤ i) (c_1 : (M 0 0 13) ≤ i) : 0 ≤ i := by
  subst_vars
  grind [isUpTo_eq, isTown10_eq, xb, sheetOf_s, traderOf_s, bankOf_s, noteOf_s, hasPl, xup_at, xHB_o, xHN_o]
theorem ob_X10_worstOffer_58_x9_2 (nb nn : Nat) (M : xM) (n : Nat) (worst : Int32) (least : Int32) (i : Int32) (hmu : xmu i (M 0 0 13) < n + 1) (hinv : 0 ≤ i) (c_1 : ¬ (M 0 0 13) ≤ i) (c_2 : 24 ≤ i) : 0 ≤ i := by
  subst_vars
  grind [isUpTo_eq, isTown10_eq, xb, sheetOf_s, traderOf_s, bankOf_s, noteOf_s, hasPl, xup_at, xHB_o, xHN_o]
theorem ob_X10_worstOffer_28_in (nb nn : Nat) (M : xM) (n : Nat) (worst : Int32) (least : Int32) (i : Int32) (hmu : xmu i (M 0 0 13) < n + 1) (hinv : 0 ≤ i) (c_1 : ¬ (M 0 0 13) ≤ i) (c_2 : ¬ 24 ≤ i) : vp_in i 24 := by
  subst_vars
  exact xin (N := 24) (by grind [isUpTo_eq, isTown10_eq, xb, sheetOf_s, traderOf_s, bankOf_s, noteOf_s, hasPl, xup_at, xHB_o, xHN_o]) (by grind [isUpTo_eq, isTown10_eq, xb, sheetOf_s, traderOf_s, bankOf_s, noteOf_s, hasPl, xup_at, xHB_o, xHN_o]) (by decide)
theorem ob_X10_worstOffer_9_mu_4 (nb nn : Nat) (M : xM) (n : Nat) (worst : Int32) (least : Int32) (i : Int32) (hmu : xmu i (M 0 0 13) < n + 1) (hinv : 0 ≤ i) (c_1 : ¬ (M 0 0 13) ≤ i) (c_2 : ¬ 24 ≤ i) (c_3 : (M 9 0 i.toNatClampNeg) = (-1)) (x3_4 : Int32) (ex3_4 : x3_4 = i + 1) : xmu x3_4 (M 0 0 13) < n := by
  subst_vars
  have h9 := xmu_up (a := i) (b := (M 0 0 13)) (by grind)
  (try simp [xup_at])
  omega
theorem ob_X10_worstOffer_9_inv_4 (nb nn : Nat) (M : xM) (n : Nat) (worst : Int32) (least : Int32) (i : Int32) (hmu : xmu i (M 0 0 13) < n + 1) (hinv : 0 ≤ i) (c_1 : ¬ (M 0 0 13) ≤ i) (c_2 : ¬ 24 ≤ i) (c_3 : (M 9 0 i.toNatClampNeg) = (-1)) (x3_4 : Int32) (ex3_4 : x3_4 = i + 1) : 0 ≤ x3_4 := by
  subst_vars
  grind [isUpTo_eq, isTown10_eq, xb, sheetOf_s, traderOf_s, bankOf_s, noteOf_s, hasPl, xup_at, xHB_o, xHN_o]
theorem ob_X10_worstOffer_38_in (nb nn : Nat) (M : xM) (n : Nat) (worst : Int32) (least : Int32) (i : Int32) (hmu : xmu i (M 0 0 13) < n + 1) (hinv : 0 ≤ i) (c_1 : ¬ (M 0 0 13) ≤ i) (c_2 : ¬ 24 ≤ i) (c_3 : ¬ (M 9 0 i.toNatClampNeg) = (-1)) : vp_in i 24 := by
  subst_vars
  exact xin (N := 24) (by grind [isUpTo_eq, isTown10_eq, xb, sheetOf_s, traderOf_s, bankOf_s, noteOf_s, hasPl, xup_at, xHB_o, xHN_o]) (by grind [isUpTo_eq, isTown10_eq, xb, sheetOf_s, traderOf_s, bankOf_s, noteOf_s, hasPl, xup_at, xHB_o, xHN_o]) (by decide)
theorem ob_X10_worstOffer_9_mu_6 (nb nn : Nat) (M : xM) (n : Nat) (worst : Int32) (least : Int32) (i : Int32) (hmu : xmu i (M 0 0 13) < n + 1) (hinv : 0 ≤ i) (c_1 : ¬ (M 0 0 13) ≤ i) (c_2 : ¬ 24 ≤ i) (c_3 : ¬ (M 9 0 i.toNatClampNeg) = (-1)) (c_5 : least ≤ (M 9 0 i.toNatClampNeg)) (x3_6 : Int32) (ex3_6 : x3_6 = i + 1) : xmu x3_6 (M 0 0 13) < n := by
  subst_vars
  have h9 := xmu_up (a := i) (b := (M 0 0 13)) (by grind)
  (try simp [xup_at])
  omega
theorem ob_X10_worstOffer_9_inv_6 (nb nn : Nat) (M : xM) (n : Nat) (worst : Int32) (least : Int32) (i : Int32) (hmu : xmu i (M 0 0 13) < n + 1) (hinv : 0 ≤ i) (c_1 : ¬ (M 0 0 13) ≤ i) (c_2 : ¬ 24 ≤ i) (c_3 : ¬ (M 9 0 i.toNatClampNeg) = (-1)) (c_5 : least ≤ (M 9 0 i.toNatClampNeg)) (x3_6 : Int32) (ex3_6 : x3_6 = i + 1) : 0 ≤ x3_6 := by
  subst_vars
  grind [isUpTo_eq, isTown10_eq, xb, sheetOf_s, traderOf_s, bankOf_s, noteOf_s, hasPl, xup_at, xHB_o, xHN_o]
theorem ob_X10_worstOffer_48_in (nb nn : Nat) (M : xM) (n : Nat) (worst : Int32) (least : Int32) (i : Int32) (hmu : xmu i (M 0 0 13) < n + 1) (hinv : 0 ≤ i) (c_1 : ¬ (M 0 0 13) ≤ i) (c_2 : ¬ 24 ≤ i) (c_3 : ¬ (M 9 0 i.toNatClampNeg) = (-1)) (c_5 : ¬ least ≤ (M 9 0 i.toNatClampNeg)) : vp_in i 24 := by
  subst_vars
  exact xin (N := 24) (by grind [isUpTo_eq, isTown10_eq, xb, sheetOf_s, traderOf_s, bankOf_s, noteOf_s, hasPl, xup_at, xHB_o, xHN_o]) (by grind [isUpTo_eq, isTown10_eq, xb, sheetOf_s, traderOf_s, bankOf_s, noteOf_s, hasPl, xup_at, xHB_o, xHN_o]) (by decide)
theorem ob_X10_worstOffer_9_mu_8 (nb nn : Nat) (M : xM) (n : Nat) (worst : Int32) (least : Int32) (i : Int32) (hmu : xmu i (M 0 0 13) < n + 1) (hinv : 0 ≤ i) (c_1 : ¬ (M 0 0 13) ≤ i) (c_2 : ¬ 24 ≤ i) (c_3 : ¬ (M 9 0 i.toNatClampNeg) = (-1)) (c_5 : ¬ least ≤ (M 9 0 i.toNatClampNeg)) (x2_7 : Int32) (ex2_7 : x2_7 = (M 9 0 i.toNatClampNeg)) (x3_8 : Int32) (ex3_8 : x3_8 = i + 1) : xmu x3_8 (M 0 0 13) < n := by
  subst_vars
  have h9 := xmu_up (a := i) (b := (M 0 0 13)) (by grind)
  (try simp [xup_at])
  omega
theorem ob_X10_worstOffer_9_inv_8 (nb nn : Nat) (M : xM) (n : Nat) (worst : Int32) (least : Int32) (i : Int32) (hmu : xmu i (M 0 0 13) < n + 1) (hinv : 0 ≤ i) (c_1 : ¬ (M 0 0 13) ≤ i) (c_2 : ¬ 24 ≤ i) (c_3 : ¬ (M 9 0 i.toNatClampNeg) = (-1)) (c_5 : ¬ least ≤ (M 9 0 i.toNatClampNeg)) (x2_7 : Int32) (ex2_7 : x2_7 = (M 9 0 i.toNatClampNeg)) (x3_8 : Int32) (ex3_8 : x3_8 = i + 1) : 0 ≤ x3_8 := by
  subst_vars
  grind [isUpTo_eq, isTown10_eq, xb, sheetOf_s, traderOf_s, bankOf_s, noteOf_s, hasPl, xup_at, xHB_o, xHN_o]
theorem ob_X10_worstOffer_9_ini_8 (nb nn : Nat) (M : xM) : 0 ≤ (0 : Int32) := by
  subst_vars
  grind [isUpTo_eq, isTown10_eq, xb, sheetOf_s, traderOf_s, bankOf_s, noteOf_s, hasPl, xup_at, xHB_o, xHN_o]
theorem ob_X10_areDifferentNotes_59_x6 (nb nn : Nat) (sq : Nat) (i : Int32) (z : Int32) (M : xM) (hsq : sq < 8) (hp0 : xHN nn M) (hp1 : 0 ≤ i) (hp2 : 0 ≤ z) (hp3 : i ≤ 60) (hp4 : z ≤ 60) (hp5 : i + z ≤ 60) (n : Nat) (seen : Int32) (k : Int32) (hmu : xmu k z < n + 1) (hinv : 0 ≤ k) (c_1 : z ≤ k) : 0 ≤ k := by
  subst_vars
  grind [isUpTo_eq, isTown10_eq, xb, sheetOf_s, traderOf_s, bankOf_s, noteOf_s, hasPl, xup_at, xHB_o, xHN_o]
theorem ob_X10_areDifferentNotes_20_in (nb nn : Nat) (sq : Nat) (i : Int32) (z : Int32) (M : xM) (hsq : sq < 8) (hp0 : xHN nn M) (hp1 : 0 ≤ i) (hp2 : 0 ≤ z) (hp3 : i ≤ 60) (hp4 : z ≤ 60) (hp5 : i + z ≤ 60) (n : Nat) (seen : Int32) (k : Int32) (hmu : xmu k z < n + 1) (hinv : 0 ≤ k) (c_1 : ¬ z ≤ k) : vp_in (i + k) 60 := by
  subst_vars
  exact xin (N := 60) (by grind [isUpTo_eq, isTown10_eq, xb, sheetOf_s, traderOf_s, bankOf_s, noteOf_s, hasPl, xup_at, xHB_o, xHN_o]) (by grind [isUpTo_eq, isTown10_eq, xb, sheetOf_s, traderOf_s, bankOf_s, noteOf_s, hasPl, xup_at, xHB_o, xHN_o]) (by decide)
theorem ob_X10_areDifferentNotes_26_p0 (nb nn : Nat) (sq : Nat) (i : Int32) (z : Int32) (M : xM) (hsq : sq < 8) (hp0 : xHN nn M) (hp1 : 0 ≤ i) (hp2 : 0 ≤ z) (hp3 : i ≤ 60) (hp4 : z ≤ 60) (hp5 : i + z ≤ 60) (n : Nat) (seen : Int32) (k : Int32) (hmu : xmu k z < n + 1) (hinv : 0 ≤ k) (c_1 : ¬ z ≤ k) (x6_2 : Int32) (ex6_2 : x6_2 = (M 25 sq (i + k).toNatClampNeg)) : xHN nn M := by
  subst_vars
  grind [isUpTo_eq, isTown10_eq, xb, sheetOf_s, traderOf_s, bankOf_s, noteOf_s, hasPl, xup_at, xHB_o, xHN_o]
theorem ob_X10_areDifferentNotes_26_q (nb nn : Nat) (sq : Nat) (i : Int32) (z : Int32) (M : xM) (hsq : sq < 8) (hp0 : xHN nn M) (hp1 : 0 ≤ i) (hp2 : 0 ≤ z) (hp3 : i ≤ 60) (hp4 : z ≤ 60) (hp5 : i + z ≤ 60) (n : Nat) (seen : Int32) (k : Int32) (hmu : xmu k z < n + 1) (hinv : 0 ≤ k) (c_1 : ¬ z ≤ k) (x6_2 : Int32) (ex6_2 : x6_2 = (M 25 sq (i + k).toNatClampNeg)) (i_4 : Nat) (o_5 : f_X10_noteOf x6_2 M = some i_4) : i_4 < nn ∧ 0 ≤ x6_2 ∧ x6_2 < 24 ∧ x6_2 < M 0 0 13 ∧ i_4 = x6_2.toNatClampNeg := by
  exact noteOf_s (nn := nn) (by first | assumption | (subst_vars; grind [xHN_o])) o_5
theorem ob_X10_areDifferentNotes_6_mu_10 (nb nn : Nat) (sq : Nat) (i : Int32) (z : Int32) (M : xM) (hsq : sq < 8) (hp0 : xHN nn M) (hp1 : 0 ≤ i) (hp2 : 0 ≤ z) (hp3 : i ≤ 60) (hp4 : z ≤ 60) (hp5 : i + z ≤ 60) (n : Nat) (seen : Int32) (k : Int32) (hmu : xmu k z < n + 1) (hinv : 0 ≤ k) (c_1 : ¬ z ≤ k) (x6_2 : Int32) (ex6_2 : x6_2 = (M 25 sq (i + k).toNatClampNeg)) (i_4 : Nat) (o_5 : f_X10_noteOf x6_2 M = some i_4) (hq_7 : i_4 < nn ∧ 0 ≤ x6_2 ∧ x6_2 < 24 ∧ x6_2 < M 0 0 13 ∧ i_4 = x6_2.toNatClampNeg) (hi_6 : i_4 < nn) (c_8 : ((seen >>> (x6_2 &&& 31)) &&& 1) = 0) (x4_9 : Int32) (ex4_9 : x4_9 = (seen ||| ((1 : Int32) <<< (x6_2 &&& 31)))) (x5_10 : Int32) (ex5_10 : x5_10 = k + 1) : xmu x5_10 z < n := by
  subst_vars
  have h9 := xmu_up (a := k) (b := z) (by grind)
  (try simp [xup_at])
  omega
theorem ob_X10_areDifferentNotes_6_inv_10 (nb nn : Nat) (sq : Nat) (i : Int32) (z : Int32) (M : xM) (hsq : sq < 8) (hp0 : xHN nn M) (hp1 : 0 ≤ i) (hp2 : 0 ≤ z) (hp3 : i ≤ 60) (hp4 : z ≤ 60) (hp5 : i + z ≤ 60) (n : Nat) (seen : Int32) (k : Int32) (hmu : xmu k z < n + 1) (hinv : 0 ≤ k) (c_1 : ¬ z ≤ k) (x6_2 : Int32) (ex6_2 : x6_2 = (M 25 sq (i + k).toNatClampNeg)) (i_4 : Nat) (o_5 : f_X10_noteOf x6_2 M = some i_4) (hq_7 : i_4 < nn ∧ 0 ≤ x6_2 ∧ x6_2 < 24 ∧ x6_2 < M 0 0 13 ∧ i_4 = x6_2.toNatClampNeg) (hi_6 : i_4 < nn) (c_8 : ((seen >>> (x6_2 &&& 31)) &&& 1) = 0) (x4_9 : Int32) (ex4_9 : x4_9 = (seen ||| ((1 : Int32) <<< (x6_2 &&& 31)))) (x5_10 : Int32) (ex5_10 : x5_10 = k + 1) : 0 ≤ x5_10 := by
  subst_vars
  grind [isUpTo_eq, isTown10_eq, xb, sheetOf_s, traderOf_s, bankOf_s, noteOf_s, hasPl, xup_at, xHB_o, xHN_o]
theorem ob_X10_areDifferentNotes_6_ini_10 (nb nn : Nat) (sq : Nat) (i : Int32) (z : Int32) (M : xM) (hsq : sq < 8) (hp0 : xHN nn M) (hp1 : 0 ≤ i) (hp2 : 0 ≤ z) (hp3 : i ≤ 60) (hp4 : z ≤ 60) (hp5 : i + z ≤ 60) : 0 ≤ (0 : Int32) := by
  subst_vars
  grind [isUpTo_eq, isTown10_eq, xb, sheetOf_s, traderOf_s, bankOf_s, noteOf_s, hasPl, xup_at, xHB_o, xHN_o]
theorem ob_X10_tellDrover_49_x2 (nb nn : Nat) (place : Int32) (nt : Nat) (M : xM) (hnt : nt < nn) (hp0 : 0 ≤ place) (hp1 : place < 8) (hp2 : ∀ i : Nat, 0 ≤ M 29 i 1 ∧ M 29 i 1 ≤ 7) (n : Nat) (t : Int32) (N_ : xM) (hmu : xmu t 6 < n + 1) (hinv : 0 ≤ t ∧ (∀ i : Nat, 0 ≤ N_ 29 i 1 ∧ N_ 29 i 1 ≤ 7)) (c_1 : 6 ≤ t) : 0 ≤ t ∧ (∀ i : Nat, 0 ≤ N_ 29 i 1 ∧ N_ 29 i 1 ≤ 7) := by
  subst_vars
  grind [isUpTo_eq, isTown10_eq, xb, sheetOf_s, traderOf_s, bankOf_s, noteOf_s, hasPl_eq, xup_at, xHB_o, xHN_o, f_X3_tellGain]
theorem ob_X10_tellDrover_35_in (nb nn : Nat) (place : Int32) (nt : Nat) (M : xM) (hnt : nt < nn) (hp0 : 0 ≤ place) (hp1 : place < 8) (hp2 : ∀ i : Nat, 0 ≤ M 29 i 1 ∧ M 29 i 1 ≤ 7) (n : Nat) (t : Int32) (N_ : xM) (hmu : xmu t 6 < n + 1) (hinv : 0 ≤ t ∧ (∀ i : Nat, 0 ≤ N_ 29 i 1 ∧ N_ 29 i 1 ≤ 7)) (c_1 : ¬ 6 ≤ t) : vp_in ((t * 8) + (N_ 29 nt 1)) 48 := by
  subst_vars
  exact xin (N := 48) (by grind [isUpTo_eq, isTown10_eq, xb, sheetOf_s, traderOf_s, bankOf_s, noteOf_s, hasPl_eq, xup_at, xHB_o, xHN_o, f_X3_tellGain]) (by grind [isUpTo_eq, isTown10_eq, xb, sheetOf_s, traderOf_s, bankOf_s, noteOf_s, hasPl_eq, xup_at, xHB_o, xHN_o, f_X3_tellGain]) (by decide)
theorem ob_X10_tellDrover_40_p0 (nb nn : Nat) (place : Int32) (nt : Nat) (M : xM) (hnt : nt < nn) (hp0 : 0 ≤ place) (hp1 : place < 8) (hp2 : ∀ i : Nat, 0 ≤ M 29 i 1 ∧ M 29 i 1 ≤ 7) (n : Nat) (t : Int32) (N_ : xM) (hmu : xmu t 6 < n + 1) (hinv : 0 ≤ t ∧ (∀ i : Nat, 0 ≤ N_ 29 i 1 ∧ N_ 29 i 1 ≤ 7)) (c_1 : ¬ 6 ≤ t) : 0 ≤ t := by
  subst_vars
  grind [isUpTo_eq, isTown10_eq, xb, sheetOf_s, traderOf_s, bankOf_s, noteOf_s, hasPl_eq, xup_at, xHB_o, xHN_o, f_X3_tellGain]
theorem ob_X10_tellDrover_40_p1 (nb nn : Nat) (place : Int32) (nt : Nat) (M : xM) (hnt : nt < nn) (hp0 : 0 ≤ place) (hp1 : place < 8) (hp2 : ∀ i : Nat, 0 ≤ M 29 i 1 ∧ M 29 i 1 ≤ 7) (n : Nat) (t : Int32) (N_ : xM) (hmu : xmu t 6 < n + 1) (hinv : 0 ≤ t ∧ (∀ i : Nat, 0 ≤ N_ 29 i 1 ∧ N_ 29 i 1 ≤ 7)) (c_1 : ¬ 6 ≤ t) : t < 6 := by
  subst_vars
  grind [isUpTo_eq, isTown10_eq, xb, sheetOf_s, traderOf_s, bankOf_s, noteOf_s, hasPl_eq, xup_at, xHB_o, xHN_o, f_X3_tellGain]
theorem ob_X10_tellDrover_40_p2 (nb nn : Nat) (place : Int32) (nt : Nat) (M : xM) (hnt : nt < nn) (hp0 : 0 ≤ place) (hp1 : place < 8) (hp2 : ∀ i : Nat, 0 ≤ M 29 i 1 ∧ M 29 i 1 ≤ 7) (n : Nat) (t : Int32) (N_ : xM) (hmu : xmu t 6 < n + 1) (hinv : 0 ≤ t ∧ (∀ i : Nat, 0 ≤ N_ 29 i 1 ∧ N_ 29 i 1 ≤ 7)) (c_1 : ¬ 6 ≤ t) : 0 ≤ place := by
  subst_vars
  grind [isUpTo_eq, isTown10_eq, xb, sheetOf_s, traderOf_s, bankOf_s, noteOf_s, hasPl_eq, xup_at, xHB_o, xHN_o, f_X3_tellGain]
theorem ob_X10_tellDrover_40_p3 (nb nn : Nat) (place : Int32) (nt : Nat) (M : xM) (hnt : nt < nn) (hp0 : 0 ≤ place) (hp1 : place < 8) (hp2 : ∀ i : Nat, 0 ≤ M 29 i 1 ∧ M 29 i 1 ≤ 7) (n : Nat) (t : Int32) (N_ : xM) (hmu : xmu t 6 < n + 1) (hinv : 0 ≤ t ∧ (∀ i : Nat, 0 ≤ N_ 29 i 1 ∧ N_ 29 i 1 ≤ 7)) (c_1 : ¬ 6 ≤ t) : place < 8 := by
  subst_vars
  grind [isUpTo_eq, isTown10_eq, xb, sheetOf_s, traderOf_s, bankOf_s, noteOf_s, hasPl_eq, xup_at, xHB_o, xHN_o, f_X3_tellGain]
theorem ob_X10_tellDrover_2_mu_4 (nb nn : Nat) (place : Int32) (nt : Nat) (M : xM) (hnt : nt < nn) (hp0 : 0 ≤ place) (hp1 : place < 8) (hp2 : ∀ i : Nat, 0 ≤ M 29 i 1 ∧ M 29 i 1 ≤ 7) (n : Nat) (t : Int32) (N_ : xM) (hmu : xmu t 6 < n + 1) (hinv : 0 ≤ t ∧ (∀ i : Nat, 0 ≤ N_ 29 i 1 ∧ N_ 29 i 1 ≤ 7)) (c_1 : ¬ 6 ≤ t) (M_3 : xM) (eM_3 : M_3 = f_X3_tellGain t place (((N_ 29 nt 2) * (N_ 10 0 ((t * 8) + (N_ 29 nt 1)).toNatClampNeg)) / 100) N_) (x3_4 : Int32) (ex3_4 : x3_4 = t + 1) : xmu x3_4 6 < n := by
  subst_vars
  have h9 := xmu_up (a := t) (b := 6) (by grind)
  (try simp [xup_at])
  omega
theorem ob_X10_tellDrover_2_inv_4 (nb nn : Nat) (place : Int32) (nt : Nat) (M : xM) (hnt : nt < nn) (hp0 : 0 ≤ place) (hp1 : place < 8) (hp2 : ∀ i : Nat, 0 ≤ M 29 i 1 ∧ M 29 i 1 ≤ 7) (n : Nat) (t : Int32) (N_ : xM) (hmu : xmu t 6 < n + 1) (hinv : 0 ≤ t ∧ (∀ i : Nat, 0 ≤ N_ 29 i 1 ∧ N_ 29 i 1 ≤ 7)) (c_1 : ¬ 6 ≤ t) (M_3 : xM) (eM_3 : M_3 = f_X3_tellGain t place (((N_ 29 nt 2) * (N_ 10 0 ((t * 8) + (N_ 29 nt 1)).toNatClampNeg)) / 100) N_) (x3_4 : Int32) (ex3_4 : x3_4 = t + 1) : 0 ≤ x3_4 ∧ (∀ i : Nat, 0 ≤ M_3 29 i 1 ∧ M_3 29 i 1 ≤ 7) := by
  subst_vars
  refine ⟨by grind, fun i => ?_⟩
  simp only [f_X3_tellGain, xlet, xup_at]
  simpa using hinv.2 i
theorem ob_X10_tellDrover_2_ini_4 (nb nn : Nat) (place : Int32) (nt : Nat) (M : xM) (hnt : nt < nn) (hp0 : 0 ≤ place) (hp1 : place < 8) (hp2 : ∀ i : Nat, 0 ≤ M 29 i 1 ∧ M 29 i 1 ≤ 7) : 0 ≤ (0 : Int32) ∧ (∀ i : Nat, 0 ≤ M 29 i 1 ∧ M 29 i 1 ≤ 7) := by
  subst_vars
  grind [isUpTo_eq, isTown10_eq, xb, sheetOf_s, traderOf_s, bankOf_s, noteOf_s, hasPl_eq, xup_at, xHB_o, xHN_o, f_X3_tellGain]
theorem ob_X10_rates_90_x56 (nb nn : Nat) (town : Int32) (sh : Int32) (i : Int32) (M : xM) (hp0 : xHS M) (hp1 : ∀ i : Nat, 0 ≤ M 24 i 2 ∧ M 24 i 2 ≤ 60) (sq : Nat) (hsq : sq < 8) (n : Nat) (b : Int32) (N_ : xM) (hmu : xmu b 8 < n + 1) (hinv : 0 ≤ b ∧ 0 ≤ i ∧ i ≤ 52) (c_1 : 8 ≤ b) : 0 ≤ b ∧ 0 ≤ i ∧ i ≤ 52 := by
  subst_vars
  grind [isUpTo_eq, isTown10_eq, xb, sheetOf_s, traderOf_s, bankOf_s, noteOf_s, hasPl_eq, xup_at, xHB_o, xHN_o]
theorem ob_X10_rates_72_in (nb nn : Nat) (town : Int32) (sh : Int32) (i : Int32) (M : xM) (hp0 : xHS M) (hp1 : ∀ i : Nat, 0 ≤ M 24 i 2 ∧ M 24 i 2 ≤ 60) (sq : Nat) (hsq : sq < 8) (n : Nat) (b : Int32) (N_ : xM) (hmu : xmu b 8 < n + 1) (hinv : 0 ≤ b ∧ 0 ≤ i ∧ i ≤ 52) (c_1 : ¬ 8 ≤ b) : vp_in (i + b) 60 := by
  subst_vars
  exact xin (N := 60) (by grind [isUpTo_eq, isTown10_eq, xb, sheetOf_s, traderOf_s, bankOf_s, noteOf_s, hasPl_eq, xup_at, xHB_o, xHN_o]) (by grind [isUpTo_eq, isTown10_eq, xb, sheetOf_s, traderOf_s, bankOf_s, noteOf_s, hasPl_eq, xup_at, xHB_o, xHN_o]) (by decide)
theorem ob_X10_rates_56_mu_4 (nb nn : Nat) (town : Int32) (sh : Int32) (i : Int32) (M : xM) (hp0 : xHS M) (hp1 : ∀ i : Nat, 0 ≤ M 24 i 2 ∧ M 24 i 2 ≤ 60) (sq : Nat) (hsq : sq < 8) (n : Nat) (b : Int32) (N_ : xM) (hmu : xmu b 8 < n + 1) (hinv : 0 ≤ b ∧ 0 ≤ i ∧ i ≤ 52) (c_1 : ¬ 8 ≤ b) (r_2 : Int32) (er_2 : r_2 = xb (f_X10_isUpTo (N_ 25 sq (i + b).toNatClampNeg) 100 N_)) (c_3 : ¬ r_2 = 0) (x5_4 : Int32) (ex5_4 : x5_4 = b + 1) : xmu x5_4 8 < n := by
  subst_vars
  have h9 := xmu_up (a := b) (b := 8) (by grind)
  (try simp [xup_at])
  omega
theorem ob_X10_rates_56_inv_4 (nb nn : Nat) (town : Int32) (sh : Int32) (i : Int32) (M : xM) (hp0 : xHS M) (hp1 : ∀ i : Nat, 0 ≤ M 24 i 2 ∧ M 24 i 2 ≤ 60) (sq : Nat) (hsq : sq < 8) (n : Nat) (b : Int32) (N_ : xM) (hmu : xmu b 8 < n + 1) (hinv : 0 ≤ b ∧ 0 ≤ i ∧ i ≤ 52) (c_1 : ¬ 8 ≤ b) (r_2 : Int32) (er_2 : r_2 = xb (f_X10_isUpTo (N_ 25 sq (i + b).toNatClampNeg) 100 N_)) (c_3 : ¬ r_2 = 0) (x5_4 : Int32) (ex5_4 : x5_4 = b + 1) : 0 ≤ x5_4 ∧ 0 ≤ i ∧ i ≤ 52 := by
  subst_vars
  grind [isUpTo_eq, isTown10_eq, xb, sheetOf_s, traderOf_s, bankOf_s, noteOf_s, hasPl_eq, xup_at, xHB_o, xHN_o]
theorem ob_X10_rates_2_p0 (nb nn : Nat) (town : Int32) (sh : Int32) (i : Int32) (M : xM) (hp0 : xHS M) (hp1 : ∀ i : Nat, 0 ≤ M 24 i 2 ∧ M 24 i 2 ≤ 60) : xHS M := by
  subst_vars
  grind [isUpTo_eq, isTown10_eq, xb, sheetOf_s, traderOf_s, bankOf_s, noteOf_s, hasPl_eq, xup_at, xHB_o, xHN_o]
theorem ob_X10_rates_2_q (nb nn : Nat) (town : Int32) (sh : Int32) (i : Int32) (M : xM) (hp0 : xHS M) (hp1 : ∀ i : Nat, 0 ≤ M 24 i 2 ∧ M 24 i 2 ≤ 60) (i_6 : Nat) (o_7 : f_X10_sheetOf sh M = some i_6) : i_6 < 8 ∧ 0 ≤ sh ∧ sh ≤ 7 ∧ i_6 = sh.toNatClampNeg := by
  exact sheetOf_s o_7
theorem ob_X10_rates_56_ini_17 (nb nn : Nat) (town : Int32) (sh : Int32) (i : Int32) (M : xM) (hp0 : xHS M) (hp1 : ∀ i : Nat, 0 ≤ M 24 i 2 ∧ M 24 i 2 ≤ 60) (i_6 : Nat) (o_7 : f_X10_sheetOf sh M = some i_6) (hq_9 : i_6 < 8 ∧ 0 ≤ sh ∧ sh ≤ 7 ∧ i_6 = sh.toNatClampNeg) (hi_8 : i_6 < 8) (r_12 : Int32) (er_12 : r_12 = xb (f_X10_isTown town M)) (c_13 : ¬ r_12 = 0) (r_14 : Int32) (er_14 : r_14 = xb (f_X6_isMissing i_6 M)) (c_15 : r_14 = 0) (r_16 : Int32) (er_16 : r_16 = xb (f_X6_hasPlaces i_6 i 8 M)) (c_17 : ¬ r_16 = 0) : 0 ≤ (0 : Int32) ∧ 0 ≤ i ∧ i ≤ 52 := by
  subst_vars
  grind [isUpTo_eq, isTown10_eq, xb, sheetOf_s, traderOf_s, bankOf_s, noteOf_s, hasPl_eq, xup_at, xHB_o, xHN_o]
theorem ob_X10_rates_106_a1 (nb nn : Nat) (town : Int32) (sh : Int32) (i : Int32) (M : xM) (hp0 : xHS M) (hp1 : ∀ i : Nat, 0 ≤ M 24 i 2 ∧ M 24 i 2 ≤ 60) (i_6 : Nat) (o_7 : f_X10_sheetOf sh M = some i_6) (hq_9 : i_6 < 8 ∧ 0 ≤ sh ∧ sh ≤ 7 ∧ i_6 = sh.toNatClampNeg) (hi_8 : i_6 < 8) (r_12 : Int32) (er_12 : r_12 = xb (f_X10_isTown town M)) (c_13 : ¬ r_12 = 0) (r_14 : Int32) (er_14 : r_14 = xb (f_X6_isMissing i_6 M)) (c_15 : r_14 = 0) (r_16 : Int32) (er_16 : r_16 = xb (f_X6_hasPlaces i_6 i 8 M)) (c_17 : ¬ r_16 = 0) (b_18 : Int32) (hiv_18 : 0 ≤ b_18 ∧ 0 ≤ i ∧ i ≤ 52) : ¬ i < 0 := by
  subst_vars
  grind [isUpTo_eq, isTown10_eq, xb, sheetOf_s, traderOf_s, bankOf_s, noteOf_s, hasPl_eq, xup_at, xHB_o, xHN_o]
theorem ob_X10_rates_106_a2 (nb nn : Nat) (town : Int32) (sh : Int32) (i : Int32) (M : xM) (hp0 : xHS M) (hp1 : ∀ i : Nat, 0 ≤ M 24 i 2 ∧ M 24 i 2 ≤ 60) (i_6 : Nat) (o_7 : f_X10_sheetOf sh M = some i_6) (hq_9 : i_6 < 8 ∧ 0 ≤ sh ∧ sh ≤ 7 ∧ i_6 = sh.toNatClampNeg) (hi_8 : i_6 < 8) (r_12 : Int32) (er_12 : r_12 = xb (f_X10_isTown town M)) (c_13 : ¬ r_12 = 0) (r_14 : Int32) (er_14 : r_14 = xb (f_X6_isMissing i_6 M)) (c_15 : r_14 = 0) (r_16 : Int32) (er_16 : r_16 = xb (f_X6_hasPlaces i_6 i 8 M)) (c_17 : ¬ r_16 = 0) (b_18 : Int32) (hiv_18 : 0 ≤ b_18 ∧ 0 ≤ i ∧ i ≤ 52) : ¬ (town * 8) < 0 := by
  subst_vars
  have h1 : 0 ≤ town ∧ town ≤ 5 := by grind [isTown10_eq, xb]
  grind
theorem ob_X10_rates_106_a3 (nb nn : Nat) (town : Int32) (sh : Int32) (i : Int32) (M : xM) (hp0 : xHS M) (hp1 : ∀ i : Nat, 0 ≤ M 24 i 2 ∧ M 24 i 2 ≤ 60) (i_6 : Nat) (o_7 : f_X10_sheetOf sh M = some i_6) (hq_9 : i_6 < 8 ∧ 0 ≤ sh ∧ sh ≤ 7 ∧ i_6 = sh.toNatClampNeg) (hi_8 : i_6 < 8) (r_12 : Int32) (er_12 : r_12 = xb (f_X10_isTown town M)) (c_13 : ¬ r_12 = 0) (r_14 : Int32) (er_14 : r_14 = xb (f_X6_isMissing i_6 M)) (c_15 : r_14 = 0) (r_16 : Int32) (er_16 : r_16 = xb (f_X6_hasPlaces i_6 i 8 M)) (c_17 : ¬ r_16 = 0) (b_18 : Int32) (hiv_18 : 0 ≤ b_18 ∧ 0 ≤ i ∧ i ≤ 52) : ¬ (8 : Int32) < 0 := by
  decide
theorem ob_X10_rates_106_a4 (nb nn : Nat) (town : Int32) (sh : Int32) (i : Int32) (M : xM) (hp0 : xHS M) (hp1 : ∀ i : Nat, 0 ≤ M 24 i 2 ∧ M 24 i 2 ≤ 60) (i_6 : Nat) (o_7 : f_X10_sheetOf sh M = some i_6) (hq_9 : i_6 < 8 ∧ 0 ≤ sh ∧ sh ≤ 7 ∧ i_6 = sh.toNatClampNeg) (hi_8 : i_6 < 8) (r_12 : Int32) (er_12 : r_12 = xb (f_X10_isTown town M)) (c_13 : ¬ r_12 = 0) (r_14 : Int32) (er_14 : r_14 = xb (f_X6_isMissing i_6 M)) (c_15 : r_14 = 0) (r_16 : Int32) (er_16 : r_16 = xb (f_X6_hasPlaces i_6 i 8 M)) (c_17 : ¬ r_16 = 0) (b_18 : Int32) (hiv_18 : 0 ≤ b_18 ∧ 0 ≤ i ∧ i ≤ 52) : i.toNatClampNeg + (8 : Int32).toNatClampNeg ≤ 60 := by
  subst_vars
  exact tncs (by grind) (by decide) (by grind) (by decide) (by grind)
theorem ob_X10_rates_106_a5 (nb nn : Nat) (town : Int32) (sh : Int32) (i : Int32) (M : xM) (hp0 : xHS M) (hp1 : ∀ i : Nat, 0 ≤ M 24 i 2 ∧ M 24 i 2 ≤ 60) (i_6 : Nat) (o_7 : f_X10_sheetOf sh M = some i_6) (hq_9 : i_6 < 8 ∧ 0 ≤ sh ∧ sh ≤ 7 ∧ i_6 = sh.toNatClampNeg) (hi_8 : i_6 < 8) (r_12 : Int32) (er_12 : r_12 = xb (f_X10_isTown town M)) (c_13 : ¬ r_12 = 0) (r_14 : Int32) (er_14 : r_14 = xb (f_X6_isMissing i_6 M)) (c_15 : r_14 = 0) (r_16 : Int32) (er_16 : r_16 = xb (f_X6_hasPlaces i_6 i 8 M)) (c_17 : ¬ r_16 = 0) (b_18 : Int32) (hiv_18 : 0 ≤ b_18 ∧ 0 ≤ i ∧ i ≤ 52) : (town * 8).toNatClampNeg + (8 : Int32).toNatClampNeg ≤ 48 := by
  subst_vars
  exact tncr (by grind [isUpTo_eq, isTown10_eq, xb, sheetOf_s, traderOf_s, bankOf_s, noteOf_s, hasPl_eq, xup_at, xHB_o, xHN_o]) (by grind [isUpTo_eq, isTown10_eq, xb, sheetOf_s, traderOf_s, bankOf_s, noteOf_s, hasPl_eq, xup_at, xHB_o, xHN_o])
set_option maxHeartbeats 4000000 in
set_option maxRecDepth 100000 in
theorem c_X10_copy (l : Launch) (nb nn : Nat) (g : xG) (L : List (Nat × Nat)) (M : xM) (hD : xD g L) (hL : xEL nb nn L) (a : Int32) (i : Int32) (b : Int32) (j : Int32) (z : Int32) (hp0 : xHS M) (hp1 : ∀ i : Nat, 0 ≤ M 24 i 2 ∧ M 24 i 2 ≤ 60) : xCi l yX10_copy cX10_copy 8 (some .int) 2 g L M [.ref (xad g 0 0), .int a, .int i, .int b, .int j, .int z] (fun r u => (r, u) = f_X10_copy a i b j z M) := by
  intro sz
  refine x_beg (by decide +kernel) rfl ?_
  intro p e s m args below meth c ls hsz hB
  subst hsz
  obtain ⟨hx, hb, hml, hown, hts, hr, hlk, hK, hAm, hP, hl⟩ := hB
  have S : CallFix p m c cX10_copy 8 s args (xws yX10_copy cX10_copy 8 (some .int)) RX10 := ⟨hx, hb, hml, hown, hts⟩
  have hown : s.vm.findClass RX10 = some m.cls := hown
  have hl : lv_has ls 8 [(0, .ref (xad g 0 0)), (1, .int a), (2, .int i), (3, .int b), (4, .int j), (5, .int z)] := hl
  have hS : va_S (xA g L s.heap.size) s.heap s.heap [] := va_S.rf
  obtain ⟨F, hF⟩ : ∃ F, F = f_X10_copy a i b j z M := ⟨_, rfl⟩
  have hres := hF
  rw [f_X10_copy] at hres
  refine lv_aload_n hx hb dX10_copy_0 rfl (lv_at hl 0 rfl) ?_
  refine lv_iload_n hx hb dX10_copy_1 rfl (lv_at hl 1 rfl) ?_
  refine x_callVq (As := [.int a]) S hK hAm hD hP hS mt_X10_sheetOf wd_175 ⟨by decide, by decide⟩ (hL 0 0 (xe_0 nb nn)) (xc0 g 0) rfl (c_X10_sheetOf l nb nn g L M hD hL a (ob_X10_copy_2_p0 nb nn a i b j z M hp0 hp1)) rfl hl.1 (Nat.le_of_ble_eq_true rfl) ⟨Nat.zero_le _, Nat.zero_le _⟩ dX10_copy_2 rfl (fun r_1 u H locs hp_ hP hS => ?_)
  obtain ⟨hp_, eu_⟩ := hp_
  rw [eu_] at hP
  clear eu_
  subst hp_
  rcases o_3 : f_X10_sheetOf a M with _ | i_2
  · replace hres := xopt_n hres o_3
    refine lv_astoreN (lv' := [(6, .null), (0, .ref (xad g 0 0)), (1, .int a), (2, .int i), (3, .int b), (4, .int j), (5, .int z)]) hx hb dX10_copy_5 hl (by decide) rfl (fun ls hl => ?_)
    refine lv_aload_n hx hb dX10_copy_7 rfl (lv_at hl 1 rfl) ?_
    refine lv_iload_n hx hb dX10_copy_8 rfl (lv_at hl 4 rfl) ?_
    refine x_callVq (As := [.int b]) S hK hAm hD hP hS mt_X10_sheetOf wd_175 ⟨by decide, by decide⟩ (hL 0 0 (xe_0 nb nn)) (xc0 g 0) rfl (c_X10_sheetOf l nb nn g L M hD hL b (ob_X10_copy_9_p0 nb nn a i b j z M hp0 hp1 o_3)) rfl hl.1 (Nat.le_of_ble_eq_true rfl) ⟨Nat.zero_le _, Nat.zero_le _⟩ dX10_copy_9 rfl (fun r_6 u H locs hp_ hP hS => ?_)
    obtain ⟨hp_, eu_⟩ := hp_
    rw [eu_] at hP
    clear eu_
    subst hp_
    rcases o_8 : f_X10_sheetOf b M with _ | i_7
    · replace hres := xopt_n hres o_8
      refine lv_astoreN (lv' := [(7, .null), (6, .null), (0, .ref (xad g 0 0)), (1, .int a), (2, .int i), (3, .int b), (4, .int j), (5, .int z)]) hx hb dX10_copy_12 hl (by decide) rfl (fun ls hl => ?_)
      refine lv_aloadN hx hb dX10_copy_14 (lv_at hl 1 rfl) ?_
      refine lv_ifnullN (tgt := 24) hx hb dX10_copy_16 (by decide) ?_
      refine lv_ldc (own := RX10) (v := (-1000001)) hx hb hown (hts _ (List.mem_cons_of_mem _ wd_174)) dX10_copy_24 ?_
      exact x_reti hx hb hr hlk hP hS (hres.symm.trans hF) dX10_copy_26
    · replace hres := xopt_s hres o_8
      have hq_10 := (ob_X10_copy_9_q nb nn a i b j z M hp0 hp1 o_3 i_7 o_8)
      have hi_9 := hq_10.1
      refine lv_astore (lv' := [(7, .ref (xad g 24 i_7)), (6, .null), (0, .ref (xad g 0 0)), (1, .int a), (2, .int i), (3, .int b), (4, .int j), (5, .int z)]) hx hb dX10_copy_12 hl (by decide) rfl (fun ls hl => ?_)
      refine lv_aloadN hx hb dX10_copy_14 (lv_at hl 1 rfl) ?_
      refine lv_ifnullN (tgt := 24) hx hb dX10_copy_16 (by decide) ?_
      refine lv_ldc (own := RX10) (v := (-1000001)) hx hb hown (hts _ (List.mem_cons_of_mem _ wd_174)) dX10_copy_24 ?_
      exact x_reti hx hb hr hlk hP hS (hres.symm.trans hF) dX10_copy_26
  · replace hres := xopt_s hres o_3
    have hq_5 := (ob_X10_copy_2_q nb nn a i b j z M hp0 hp1 i_2 o_3)
    have hi_4 := hq_5.1
    refine lv_astore (lv' := [(6, .ref (xad g 24 i_2)), (0, .ref (xad g 0 0)), (1, .int a), (2, .int i), (3, .int b), (4, .int j), (5, .int z)]) hx hb dX10_copy_5 hl (by decide) rfl (fun ls hl => ?_)
    refine lv_aload_n hx hb dX10_copy_7 rfl (lv_at hl 1 rfl) ?_
    refine lv_iload_n hx hb dX10_copy_8 rfl (lv_at hl 4 rfl) ?_
    refine x_callVq (As := [.int b]) S hK hAm hD hP hS mt_X10_sheetOf wd_175 ⟨by decide, by decide⟩ (hL 0 0 (xe_0 nb nn)) (xc0 g 0) rfl (c_X10_sheetOf l nb nn g L M hD hL b (ob_X10_copy_9_p0_2 nb nn a i b j z M hp0 hp1 i_2 o_3 hq_5 hi_4)) rfl hl.1 (Nat.le_of_ble_eq_true rfl) ⟨Nat.zero_le _, Nat.zero_le _⟩ dX10_copy_9 rfl (fun r_11 u H locs hp_ hP hS => ?_)
    obtain ⟨hp_, eu_⟩ := hp_
    rw [eu_] at hP
    clear eu_
    subst hp_
    rcases o_13 : f_X10_sheetOf b M with _ | i_12
    · replace hres := xopt_n hres o_13
      refine lv_astoreN (lv' := [(7, .null), (6, .ref (xad g 24 i_2)), (0, .ref (xad g 0 0)), (1, .int a), (2, .int i), (3, .int b), (4, .int j), (5, .int z)]) hx hb dX10_copy_12 hl (by decide) rfl (fun ls hl => ?_)
      refine lv_aload hx hb dX10_copy_14 (lv_at hl 1 rfl) ?_
      refine lv_ifnull hx hb dX10_copy_16 ?_
      refine lv_aloadN hx hb dX10_copy_19 (lv_at hl 0 rfl) ?_
      refine lv_ifnonnullN hx hb dX10_copy_21 ?_
      refine lv_ldc (own := RX10) (v := (-1000001)) hx hb hown (hts _ (List.mem_cons_of_mem _ wd_174)) dX10_copy_24 ?_
      exact x_reti hx hb hr hlk hP hS (hres.symm.trans hF) dX10_copy_26
    · replace hres := xopt_s hres o_13
      have hq_15 := (ob_X10_copy_9_q_2 nb nn a i b j z M hp0 hp1 i_2 o_3 hq_5 hi_4 i_12 o_13)
      have hi_14 := hq_15.1
      refine lv_astore (lv' := [(7, .ref (xad g 24 i_12)), (6, .ref (xad g 24 i_2)), (0, .ref (xad g 0 0)), (1, .int a), (2, .int i), (3, .int b), (4, .int j), (5, .int z)]) hx hb dX10_copy_12 hl (by decide) rfl (fun ls hl => ?_)
      refine lv_aload hx hb dX10_copy_14 (lv_at hl 1 rfl) ?_
      refine lv_ifnull hx hb dX10_copy_16 ?_
      refine lv_aload hx hb dX10_copy_19 (lv_at hl 0 rfl) ?_
      refine lv_ifnonnull (tgt := 27) hx hb dX10_copy_21 (by decide) ?_
      refine lv_aload hx hb dX10_copy_27 (lv_at hl 1 rfl) ?_
      refine x_callVi (As := []) S hK hAm hD hP hS mt_X6_isMissing wd_220 ⟨by decide, by decide⟩ (hL 24 i_2 hi_4) (xc24 g i_2) rfl (c_X6_isMissing l nb nn g L M hD hL i_2 hi_4) rfl hl.1 (Nat.le_of_ble_eq_true rfl) ⟨Nat.zero_le _, Nat.zero_le _⟩ dX10_copy_29 rfl (fun r_16 u H locs hp_ hP hS => ?_)
      obtain ⟨er_16, eu_⟩ := hp_
      rw [eu_] at hP
      clear eu_
      replace hres := xlet_n hres er_16
      refine lv_if_ne (tgt := 43) hx hb dX10_copy_32 (by decide) (fun c_17 => ?_) (fun c_17 => ?_)
      · replace hres := hres.trans (if_neg c_17)
        refine lv_aload_n hx hb dX10_copy_43 rfl (lv_at hl 2 rfl) ?_
        refine lv_iconst (v := 1) hx hb dX10_copy_44 (by decide) ?_
        refine x_callVi (As := [.int 1]) S hK hAm hD hP hS mt_X10_found wd_182 ⟨by decide, by decide⟩ (hL 0 0 (xe_0 nb nn)) (xc0 g 0) rfl (c_X10_found l nb nn g L M hD hL 1) rfl hl.1 (Nat.le_of_ble_eq_true rfl) ⟨Nat.zero_le _, Nat.zero_le _⟩ dX10_copy_45 rfl (fun r_18 M_19 H locs ep_ hP hS => ?_)
        replace hres := xlet2_n hres ep_
        have er_18 : r_18 = (f_X10_found 1 M).1 := congrArg Prod.fst ep_
        have eM_19 : M_19 = (f_X10_found 1 M).2 := congrArg Prod.snd ep_
        clear ep_
        exact x_reti hx hb hr hlk hP hS (hres.symm.trans hF) dX10_copy_48
      · replace hres := hres.trans (if_pos c_17)
        refine lv_aload hx hb dX10_copy_35 (lv_at hl 0 rfl) ?_
        refine x_callVi (As := []) S hK hAm hD hP hS mt_X6_isMissing wd_220 ⟨by decide, by decide⟩ (hL 24 i_12 hi_14) (xc24 g i_12) rfl (c_X6_isMissing l nb nn g L M hD hL i_12 hi_14) rfl hl.1 (Nat.le_of_ble_eq_true rfl) ⟨Nat.zero_le _, Nat.zero_le _⟩ dX10_copy_37 rfl (fun r_20 u H locs hp_ hP hS => ?_)
        obtain ⟨er_20, eu_⟩ := hp_
        rw [eu_] at hP
        clear eu_
        replace hres := xlet_n hres er_20
        refine lv_if_eq (tgt := 49) hx hb dX10_copy_40 (by decide) (fun c_21 => ?_) (fun c_21 => ?_)
        · replace hres := hres.trans (if_pos c_21)
          refine lv_aload hx hb dX10_copy_49 (lv_at hl 1 rfl) ?_
          refine gf_RX10_133 hx hb hts hown hK hP (hL 24 i_2 hi_4) dX10_copy_51 ?_
          refine lv_aload hx hb dX10_copy_54 (lv_at hl 0 rfl) ?_
          refine gf_RX10_133 hx hb hts hown hK hP (hL 24 i_12 hi_14) dX10_copy_56 ?_
          refine lv_icmp_eq (tgt := 68) hx hb dX10_copy_59 (by decide) (fun c_22 => ?_) (fun c_22 => ?_)
          · replace hres := hres.trans (if_pos c_22)
            refine lv_aload hx hb dX10_copy_68 (lv_at hl 1 rfl) ?_
            refine lv_iload_n hx hb dX10_copy_70 rfl (lv_at hl 4 rfl) ?_
            refine lv_iload hx hb dX10_copy_71 (lv_at hl 7 rfl) ?_
            refine x_callVi (As := [.int i, .int z]) S hK hAm hD hP hS mt_X6_hasPlaces wd_224 ⟨by decide, by decide⟩ (hL 24 i_2 hi_4) (xc24 g i_2) rfl (c_X6_hasPlaces l nb nn g L M hD hL i_2 i z hi_4) rfl hl.1 (Nat.le_of_ble_eq_true rfl) ⟨Nat.zero_le _, Nat.zero_le _⟩ dX10_copy_73 rfl (fun r_23 u H locs hp_ hP hS => ?_)
            obtain ⟨er_23, eu_⟩ := hp_
            rw [eu_] at hP
            clear eu_
            replace hres := xlet_n hres er_23
            refine lv_if_eq (tgt := 91) hx hb dX10_copy_76 (by decide) (fun c_24 => ?_) (fun c_24 => ?_)
            · replace hres := hres.trans (if_pos c_24)
              refine lv_aload_n hx hb dX10_copy_91 rfl (lv_at hl 2 rfl) ?_
              refine lv_iconst (v := 2) hx hb dX10_copy_92 (by decide) ?_
              refine x_callVi (As := [.int 2]) S hK hAm hD hP hS mt_X10_found wd_182 ⟨by decide, by decide⟩ (hL 0 0 (xe_0 nb nn)) (xc0 g 0) rfl (c_X10_found l nb nn g L M hD hL 2) rfl hl.1 (Nat.le_of_ble_eq_true rfl) ⟨Nat.zero_le _, Nat.zero_le _⟩ dX10_copy_93 rfl (fun r_25 M_26 H locs ep_ hP hS => ?_)
              replace hres := xlet2_n hres ep_
              have er_25 : r_25 = (f_X10_found 2 M).1 := congrArg Prod.fst ep_
              have eM_26 : M_26 = (f_X10_found 2 M).2 := congrArg Prod.snd ep_
              clear ep_
              exact x_reti hx hb hr hlk hP hS (hres.symm.trans hF) dX10_copy_96
            · replace hres := hres.trans (if_neg c_24)
              refine lv_aload hx hb dX10_copy_79 (lv_at hl 0 rfl) ?_
              refine lv_iload hx hb dX10_copy_81 (lv_at hl 6 rfl) ?_
              refine lv_iload hx hb dX10_copy_83 (lv_at hl 7 rfl) ?_
              refine x_callVi (As := [.int j, .int z]) S hK hAm hD hP hS mt_X6_hasPlaces wd_224 ⟨by decide, by decide⟩ (hL 24 i_12 hi_14) (xc24 g i_12) rfl (c_X6_hasPlaces l nb nn g L M hD hL i_12 j z hi_14) rfl hl.1 (Nat.le_of_ble_eq_true rfl) ⟨Nat.zero_le _, Nat.zero_le _⟩ dX10_copy_85 rfl (fun r_27 u H locs hp_ hP hS => ?_)
              obtain ⟨er_27, eu_⟩ := hp_
              rw [eu_] at hP
              clear eu_
              replace hres := xlet_n hres er_27
              refine lv_if_ne (tgt := 97) hx hb dX10_copy_88 (by decide) (fun c_28 => ?_) (fun c_28 => ?_)
              · replace hres := hres.trans (if_neg c_28)
                refine lv_aload hx hb dX10_copy_97 (lv_at hl 1 rfl) ?_
                refine gf_RX10_136 hx hb hts hown hK hP (hL 24 i_2 hi_4) dX10_copy_99 ?_
                refine lv_iload_n hx hb dX10_copy_102 rfl (lv_at hl 4 rfl) ?_
                refine lv_aload hx hb dX10_copy_103 (lv_at hl 0 rfl) ?_
                refine gf_RX10_136 hx hb hts hown hK hP (hL 24 i_12 hi_14) dX10_copy_105 ?_
                refine lv_iload hx hb dX10_copy_108 (lv_at hl 6 rfl) ?_
                refine lv_iload hx hb dX10_copy_110 (lv_at hl 7 rfl) ?_
                refine x_copy hx hb hml hl.1 hts hown wd_243 wd_244 wd_245 wd_246 hK hD hP hS (hL 25 i_2 hi_4) (hL 25 i_12 hi_14) (xc25 g i_2) (xc25 g i_12) (ob_X10_copy_112_a1 nb nn a i b j z M hp0 hp1 i_2 o_3 hq_5 hi_4 i_12 o_13 hq_15 hi_14 r_16 er_16 c_17 r_20 er_20 c_21 c_22 r_23 er_23 c_24 r_27 er_27 c_28) (ob_X10_copy_112_a2 nb nn a i b j z M hp0 hp1 i_2 o_3 hq_5 hi_4 i_12 o_13 hq_15 hi_14 r_16 er_16 c_17 r_20 er_20 c_21 c_22 r_23 er_23 c_24 r_27 er_27 c_28) (ob_X10_copy_112_a3 nb nn a i b j z M hp0 hp1 i_2 o_3 hq_5 hi_4 i_12 o_13 hq_15 hi_14 r_16 er_16 c_17 r_20 er_20 c_21 c_22 r_23 er_23 c_24 r_27 er_27 c_28) (ob_X10_copy_112_a4 nb nn a i b j z M hp0 hp1 i_2 o_3 hq_5 hi_4 i_12 o_13 hq_15 hi_14 r_16 er_16 c_17 r_20 er_20 c_21 c_22 r_23 er_23 c_24 r_27 er_27 c_28) (ob_X10_copy_112_a5 nb nn a i b j z M hp0 hp1 i_2 o_3 hq_5 hi_4 i_12 o_13 hq_15 hi_14 r_16 er_16 c_17 r_20 er_20 c_21 c_22 r_23 er_23 c_24 r_27 er_27 c_28) (by decide) (Nat.le_of_ble_eq_true rfl) dX10_copy_112 (fun H locs hP hS => ?_)
                obtain ⟨M_29, eM_29⟩ : ∃ z_ : xM, z_ = xrow M 25 i_12 (va_cpy (M 25 i_2) (M 25 i_12) i.toNatClampNeg j.toNatClampNeg z.toNatClampNeg) := ⟨_, rfl⟩
                rw [← eM_29] at hP
                replace hres := xlet_n hres eM_29
                refine lv_aload_n hx hb dX10_copy_115 rfl (lv_at hl 2 rfl) ?_
                refine lv_iload hx hb dX10_copy_116 (lv_at hl 7 rfl) ?_
                refine x_callVi (As := [.int z]) S hK hAm hD hP hS mt_X10_foundNothing wd_192 ⟨by decide, by decide⟩ (hL 0 0 (xe_0 nb nn)) (xc0 g 0) rfl (c_X10_foundNothing l nb nn g L M_29 hD hL z) rfl hl.1 (Nat.le_of_ble_eq_true rfl) ⟨Nat.zero_le _, Nat.zero_le _⟩ dX10_copy_118 rfl (fun r_30 M_31 H locs ep_ hP hS => ?_)
                replace hres := xlet2_n hres ep_
                have er_30 : r_30 = (f_X10_foundNothing z M_29).1 := congrArg Prod.fst ep_
                have eM_31 : M_31 = (f_X10_foundNothing z M_29).2 := congrArg Prod.snd ep_
                clear ep_
                exact x_reti hx hb hr hlk hP hS (hres.symm.trans hF) dX10_copy_121
              · replace hres := hres.trans (if_pos c_28)
                refine lv_aload_n hx hb dX10_copy_91 rfl (lv_at hl 2 rfl) ?_
                refine lv_iconst (v := 2) hx hb dX10_copy_92 (by decide) ?_
                refine x_callVi (As := [.int 2]) S hK hAm hD hP hS mt_X10_found wd_182 ⟨by decide, by decide⟩ (hL 0 0 (xe_0 nb nn)) (xc0 g 0) rfl (c_X10_found l nb nn g L M hD hL 2) rfl hl.1 (Nat.le_of_ble_eq_true rfl) ⟨Nat.zero_le _, Nat.zero_le _⟩ dX10_copy_93 rfl (fun r_32 M_33 H locs ep_ hP hS => ?_)
                replace hres := xlet2_n hres ep_
                have er_32 : r_32 = (f_X10_found 2 M).1 := congrArg Prod.fst ep_
                have eM_33 : M_33 = (f_X10_found 2 M).2 := congrArg Prod.snd ep_
                clear ep_
                exact x_reti hx hb hr hlk hP hS (hres.symm.trans hF) dX10_copy_96
          · replace hres := hres.trans (if_neg c_22)
            refine lv_aload_n hx hb dX10_copy_62 rfl (lv_at hl 2 rfl) ?_
            refine lv_iconst (v := 5) hx hb dX10_copy_63 (by decide) ?_
            refine x_callVi (As := [.int 5]) S hK hAm hD hP hS mt_X10_found wd_182 ⟨by decide, by decide⟩ (hL 0 0 (xe_0 nb nn)) (xc0 g 0) rfl (c_X10_found l nb nn g L M hD hL 5) rfl hl.1 (Nat.le_of_ble_eq_true rfl) ⟨Nat.zero_le _, Nat.zero_le _⟩ dX10_copy_64 rfl (fun r_34 M_35 H locs ep_ hP hS => ?_)
            replace hres := xlet2_n hres ep_
            have er_34 : r_34 = (f_X10_found 5 M).1 := congrArg Prod.fst ep_
            have eM_35 : M_35 = (f_X10_found 5 M).2 := congrArg Prod.snd ep_
            clear ep_
            exact x_reti hx hb hr hlk hP hS (hres.symm.trans hF) dX10_copy_67
        · replace hres := hres.trans (if_neg c_21)
          refine lv_aload_n hx hb dX10_copy_43 rfl (lv_at hl 2 rfl) ?_
          refine lv_iconst (v := 1) hx hb dX10_copy_44 (by decide) ?_
          refine x_callVi (As := [.int 1]) S hK hAm hD hP hS mt_X10_found wd_182 ⟨by decide, by decide⟩ (hL 0 0 (xe_0 nb nn)) (xc0 g 0) rfl (c_X10_found l nb nn g L M hD hL 1) rfl hl.1 (Nat.le_of_ble_eq_true rfl) ⟨Nat.zero_le _, Nat.zero_le _⟩ dX10_copy_45 rfl (fun r_36 M_37 H locs ep_ hP hS => ?_)
          replace hres := xlet2_n hres ep_
          have er_36 : r_36 = (f_X10_found 1 M).1 := congrArg Prod.fst ep_
          have eM_37 : M_37 = (f_X10_found 1 M).2 := congrArg Prod.snd ep_
          clear ep_
          exact x_reti hx hb hr hlk hP hS (hres.symm.trans hF) dX10_copy_48
set_option maxHeartbeats 4000000 in
set_option maxRecDepth 100000 in
theorem c_X10_offerNotes (l : Launch) (nb nn : Nat) (g : xG) (L : List (Nat × Nat)) (M : xM) (hD : xD g L) (hL : xEL nb nn L) (fr : Int32) (pt : Int32) (tk : Nat) (htk : tk < 8) (hp0 : xHN nn M) (hp1 : xHB nb M) (hp2 : M 4 0 4 ≤ 40) (hp3 : ∀ i : Nat, 0 ≤ M 27 i 0 ∧ M 27 i 0 ≤ 5) (hp4 : ∀ i : Nat, 0 ≤ M 26 i 0 ∧ M 26 i 0 ≤ 5) (hp5 : 0 ≤ pt) (hp6 : pt ≤ 5) : xCv l yX10_offerNotes cX10_offerNotes 6 4 g L M [.ref (xad g 0 0), .int fr, .int pt, .ref (xad g 26 tk)] (fun u => u = f_X10_offerNotes fr pt tk M) := by
  intro sz
  refine x_beg (by decide +kernel) rfl ?_
  intro p e s m args below meth c ls hsz hB
  subst hsz
  obtain ⟨hx, hb, hml, hown, hts, hr, hlk, hK, hAm, hP, hl⟩ := hB
  have S : CallFix p m c cX10_offerNotes 6 s args (xws yX10_offerNotes cX10_offerNotes 6 none) RX10 := ⟨hx, hb, hml, hown, hts⟩
  have hown : s.vm.findClass RX10 = some m.cls := hown
  have hl : lv_has ls 6 [(0, .ref (xad g 0 0)), (1, .int fr), (2, .int pt), (3, .ref (xad g 26 tk))] := hl
  have hS : va_S (xA g L s.heap.size) s.heap s.heap [] := va_S.rf
  obtain ⟨F, hF⟩ : ∃ F, F = f_X10_offerNotes fr pt tk M := ⟨_, rfl⟩
  have k_3 : ∀ (n : Nat) (k : Int32) (N_ : xM) (H : Heap) (locs : List Loc) (ls : Array Slot) (kx : (Int32 → xM → xM)), xmu k (N_ 0 0 13) < n → 0 ≤ k ∧ xHN nn N_ ∧ xHB nb N_ ∧ N_ 4 0 4 ≤ 40 ∧ (∀ i : Nat, 0 ≤ N_ 27 i 0 ∧ N_ 27 i 0 ≤ 5) ∧ (∀ i : Nat, 0 ≤ N_ 26 i 0 ∧ N_ 26 i 0 ≤ 5) → F = f_X10_offerNotes_L3 fr pt tk n k N_ kx → xP g L N_ H → va_S (xA g L s.heap.size) s.heap H locs → lv_has ls 6 [(0, .ref (xad g 0 0)), (1, .int fr), (2, .int pt), (3, .ref (xad g 26 tk)), (4, .int k)] → (∀ (k : Int32) (N_ : xM) (H : Heap) (locs : List Loc) (ls : Array Slot), 0 ≤ k ∧ xHN nn N_ ∧ xHB nb N_ ∧ N_ 4 0 4 ≤ 40 ∧ (∀ i : Nat, 0 ≤ N_ 27 i 0 ∧ N_ 27 i 0 ≤ 5) ∧ (∀ i : Nat, 0 ≤ N_ 26 i 0 ∧ N_ 26 i 0 ≤ 5) → F = kx k N_ → xP g L N_ H → va_S (xA g L s.heap.size) s.heap H locs → lv_has ls 6 [(0, .ref (xad g 0 0)), (1, .int fr), (2, .int pt), (3, .ref (xad g 26 tk)), (4, .int k)] → W p l e (xr 4) s m args below meth c H locs 0 0 (MQ below (va_Qv (fun u => u = f_X10_offerNotes fr pt tk M) (xPost g L) (xA g L s.heap.size)) args s 0 0 (xA g L s.heap.size)) (F0 m 102 ls [])) → W p l e (xr 4) s m args below meth c H locs 0 0 (MQ below (va_Qv (fun u => u = f_X10_offerNotes fr pt tk M) (xPost g L) (xA g L s.heap.size)) args s 0 0 (xA g L s.heap.size)) (F0 m 3 ls []) := by
    intro n
    induction n with
    | zero => intro k N_ H locs ls kx hmu; exact absurd hmu (Nat.not_lt_zero _)
    | succ n ih =>
      intro k N_ H locs ls kx hmu hinv hres hP hS hl hex
      replace hres : F = _ := hres.trans (by rw [f_X10_offerNotes_L3])
      refine lv_iload hx hb dX10_offerNotes_3 (lv_at hl 4 rfl) ?_
      refine lv_aload_n hx hb dX10_offerNotes_5 rfl (lv_at hl 0 rfl) ?_
      refine gf_RX10_88 hx hb hts hown hK hP (hL 0 0 (xe_0 nb nn)) dX10_offerNotes_6 ?_
      refine lv_icmp_ge (tgt := 102) hx hb dX10_offerNotes_9 (by decide) (fun c_1 => ?_) (fun c_1 => ?_)
      · replace hres := hres.trans (if_pos c_1)
        exact hex k N_ _ _ _ (ob_X10_offerNotes_102_x3 nb nn fr pt tk M htk hp0 hp1 hp2 hp3 hp4 hp5 hp6 n k N_ hmu hinv c_1) hres hP hS (lv_sub hl [0, 1, 2, 3, 4] rfl)
      · replace hres := hres.trans (if_neg c_1)
        refine lv_iload hx hb dX10_offerNotes_12 (lv_at hl 4 rfl) ?_
        refine lv_bipush (v := 24) hx hb dX10_offerNotes_14 (by decide) ?_
        refine lv_icmp_ge (tgt := 102) hx hb dX10_offerNotes_16 (by decide) (fun c_2 => ?_) (fun c_2 => ?_)
        · replace hres := hres.trans (if_pos c_2)
          exact hex k N_ _ _ _ (ob_X10_offerNotes_102_x3_2 nb nn fr pt tk M htk hp0 hp1 hp2 hp3 hp4 hp5 hp6 n k N_ hmu hinv c_1 c_2) hres hP hS (lv_sub hl [0, 1, 2, 3, 4] rfl)
        · replace hres := hres.trans (if_neg c_2)
          refine lv_aload_n hx hb dX10_offerNotes_19 rfl (lv_at hl 0 rfl) ?_
          refine lv_iload hx hb dX10_offerNotes_20 (lv_at hl 4 rfl) ?_
          refine x_callVq (As := [.int k]) S hK hAm hD hP hS mt_X10_noteOf wd_725 ⟨by decide, by decide⟩ (hL 0 0 (xe_0 nb nn)) (xc0 g 0) rfl (c_X10_noteOf l nb nn g L N_ hD hL k (ob_X10_offerNotes_22_p0 nb nn fr pt tk M htk hp0 hp1 hp2 hp3 hp4 hp5 hp6 n k N_ hmu hinv c_1 c_2)) rfl hl.1 (Nat.le_of_ble_eq_true rfl) ⟨Nat.zero_le _, Nat.zero_le _⟩ dX10_offerNotes_22 rfl (fun r_3 u H locs hp_ hP hS => ?_)
          obtain ⟨hp_, eu_⟩ := hp_
          rw [eu_] at hP
          clear eu_
          subst hp_
          rcases o_5 : f_X10_noteOf k N_ with _ | i_4
          · replace hres := xopt_n hres o_5
            refine lv_astoreN (lv' := [(5, .null), (0, .ref (xad g 0 0)), (1, .int fr), (2, .int pt), (3, .ref (xad g 26 tk)), (4, .int k)]) hx hb dX10_offerNotes_25 hl (by decide) rfl (fun ls hl => ?_)
            refine lv_aload_n hx hb dX10_offerNotes_27 rfl (lv_at hl 1 rfl) ?_
            refine gf_RX10_63 hx hb hts hown hK hP (hL 0 0 (xe_0 nb nn)) dX10_offerNotes_28 ?_
            refine lv_iload hx hb dX10_offerNotes_31 (lv_at hl 5 rfl) ?_
            refine lv_iconst (v := (-1)) hx hb dX10_offerNotes_33 (by decide) ?_
            refine x_iast hx hb hK hP hD hS (hL 9 0 (xe_9 nb nn)) (xc9 g 0) (ob_X10_offerNotes_34_in nb nn fr pt tk M htk hp0 hp1 hp2 hp3 hp4 hp5 hp6 n k N_ hmu hinv c_1 c_2 o_5) dX10_offerNotes_34 (fun H locs hP hS => ?_)
            obtain ⟨M_8, eM_8⟩ : ∃ z_ : xM, z_ = xup N_ 9 0 k.toNatClampNeg (-1) := ⟨_, rfl⟩
            rw [← eM_8] at hP
            replace hres := xlet_n hres eM_8
            refine lv_aloadN hx hb dX10_offerNotes_35 (lv_at hl 0 rfl) ?_
            refine lv_ifnullN (tgt := 96) hx hb dX10_offerNotes_37 (by decide) ?_
            obtain ⟨x4_9, ex4_9⟩ : ∃ z_ : Int32, z_ = k + 1 := ⟨_, rfl⟩
            replace hres := xlet_n hres ex4_9
            refine lv_iinc (v := x4_9) (lv' := [(4, .int x4_9), (5, .null), (0, .ref (xad g 0 0)), (1, .int fr), (2, .int pt), (3, .ref (xad g 26 tk))]) hx hb dX10_offerNotes_96 hl (k := 5) rfl (by rw [ex4_9]; rfl) (by decide) rfl (fun ls hl => ?_)
            refine lv_goto (tgt := 3) hx hb dX10_offerNotes_99 (by decide) ?_
            exact ih x4_9 M_8 _ _ _ kx (ob_X10_offerNotes_3_mu_9 nb nn fr pt tk M htk hp0 hp1 hp2 hp3 hp4 hp5 hp6 n k N_ hmu hinv c_1 c_2 o_5 M_8 eM_8 x4_9 ex4_9) (ob_X10_offerNotes_3_inv_9 nb nn fr pt tk M htk hp0 hp1 hp2 hp3 hp4 hp5 hp6 n k N_ hmu hinv c_1 c_2 o_5 M_8 eM_8 x4_9 ex4_9) hres hP hS (lv_sub hl [2, 3, 4, 5, 0] rfl) hex
          · replace hres := xopt_s hres o_5
            have hq_7 := (ob_X10_offerNotes_22_q nb nn fr pt tk M htk hp0 hp1 hp2 hp3 hp4 hp5 hp6 n k N_ hmu hinv c_1 c_2 i_4 o_5)
            have hi_6 := hq_7.1
            refine lv_astore (lv' := [(5, .ref (xad g 29 i_4)), (0, .ref (xad g 0 0)), (1, .int fr), (2, .int pt), (3, .ref (xad g 26 tk)), (4, .int k)]) hx hb dX10_offerNotes_25 hl (by decide) rfl (fun ls hl => ?_)
            refine lv_aload_n hx hb dX10_offerNotes_27 rfl (lv_at hl 1 rfl) ?_
            refine gf_RX10_63 hx hb hts hown hK hP (hL 0 0 (xe_0 nb nn)) dX10_offerNotes_28 ?_
            refine lv_iload hx hb dX10_offerNotes_31 (lv_at hl 5 rfl) ?_
            refine lv_iconst (v := (-1)) hx hb dX10_offerNotes_33 (by decide) ?_
            refine x_iast hx hb hK hP hD hS (hL 9 0 (xe_9 nb nn)) (xc9 g 0) (ob_X10_offerNotes_34_in_2 nb nn fr pt tk M htk hp0 hp1 hp2 hp3 hp4 hp5 hp6 n k N_ hmu hinv c_1 c_2 i_4 o_5 hq_7 hi_6) dX10_offerNotes_34 (fun H locs hP hS => ?_)
            obtain ⟨M_10, eM_10⟩ : ∃ z_ : xM, z_ = xup N_ 9 0 k.toNatClampNeg (-1) := ⟨_, rfl⟩
            rw [← eM_10] at hP
            replace hres := xlet_n hres eM_10
            refine lv_aload hx hb dX10_offerNotes_35 (lv_at hl 0 rfl) ?_
            refine lv_ifnull hx hb dX10_offerNotes_37 ?_
            refine lv_aload hx hb dX10_offerNotes_40 (lv_at hl 0 rfl) ?_
            refine x_callVi (As := []) S hK hAm hD hP hS mt_X4_holder wd_729 ⟨by decide, by decide⟩ (hL 29 i_4 hi_6) (xc29 g i_4) rfl (c_X4_holder l nb nn g L M_10 hD hL i_4 hi_6) rfl hl.1 (Nat.le_of_ble_eq_true rfl) ⟨Nat.zero_le _, Nat.zero_le _⟩ dX10_offerNotes_42 rfl (fun r_11 u H locs hp_ hP hS => ?_)
            obtain ⟨er_11, eu_⟩ := hp_
            rw [eu_] at hP
            clear eu_
            replace hres := xlet_n hres er_11
            refine lv_iload_n hx hb dX10_offerNotes_45 rfl (lv_at hl 2 rfl) ?_
            refine lv_icmp_ne (tgt := 96) hx hb dX10_offerNotes_46 (by decide) (fun c_12 => ?_) (fun c_12 => ?_)
            · replace hres := hres.trans (if_neg c_12)
              obtain ⟨x4_13, ex4_13⟩ : ∃ z_ : Int32, z_ = k + 1 := ⟨_, rfl⟩
              replace hres := xlet_n hres ex4_13
              refine lv_iinc (v := x4_13) (lv' := [(4, .int x4_13), (5, .ref (xad g 29 i_4)), (0, .ref (xad g 0 0)), (1, .int fr), (2, .int pt), (3, .ref (xad g 26 tk))]) hx hb dX10_offerNotes_96 hl (k := 5) rfl (by rw [ex4_13]; rfl) (by decide) rfl (fun ls hl => ?_)
              refine lv_goto (tgt := 3) hx hb dX10_offerNotes_99 (by decide) ?_
              exact ih x4_13 M_10 _ _ _ kx (ob_X10_offerNotes_3_mu_13 nb nn fr pt tk M htk hp0 hp1 hp2 hp3 hp4 hp5 hp6 n k N_ hmu hinv c_1 c_2 i_4 o_5 hq_7 hi_6 M_10 eM_10 r_11 er_11 c_12 x4_13 ex4_13) (ob_X10_offerNotes_3_inv_13 nb nn fr pt tk M htk hp0 hp1 hp2 hp3 hp4 hp5 hp6 n k N_ hmu hinv c_1 c_2 i_4 o_5 hq_7 hi_6 M_10 eM_10 r_11 er_11 c_12 x4_13 ex4_13) hres hP hS (lv_sub hl [2, 3, 4, 5, 0] rfl) hex
            · replace hres := hres.trans (if_pos c_12)
              refine lv_aload hx hb dX10_offerNotes_49 (lv_at hl 0 rfl) ?_
              refine x_callVi (As := []) S hK hAm hD hP hS mt_X4_isFullOfHands wd_827 ⟨by decide, by decide⟩ (hL 29 i_4 hi_6) (xc29 g i_4) rfl (c_X4_isFullOfHands l nb nn g L M_10 hD hL i_4 hi_6) rfl hl.1 (Nat.le_of_ble_eq_true rfl) ⟨Nat.zero_le _, Nat.zero_le _⟩ dX10_offerNotes_51 rfl (fun r_14 u H locs hp_ hP hS => ?_)
              obtain ⟨er_14, eu_⟩ := hp_
              rw [eu_] at hP
              clear eu_
              replace hres := xlet_n hres er_14
              refine lv_if_ne (tgt := 96) hx hb dX10_offerNotes_54 (by decide) (fun c_15 => ?_) (fun c_15 => ?_)
              · replace hres := hres.trans (if_neg c_15)
                obtain ⟨x4_16, ex4_16⟩ : ∃ z_ : Int32, z_ = k + 1 := ⟨_, rfl⟩
                replace hres := xlet_n hres ex4_16
                refine lv_iinc (v := x4_16) (lv' := [(4, .int x4_16), (5, .ref (xad g 29 i_4)), (0, .ref (xad g 0 0)), (1, .int fr), (2, .int pt), (3, .ref (xad g 26 tk))]) hx hb dX10_offerNotes_96 hl (k := 5) rfl (by rw [ex4_16]; rfl) (by decide) rfl (fun ls hl => ?_)
                refine lv_goto (tgt := 3) hx hb dX10_offerNotes_99 (by decide) ?_
                exact ih x4_16 M_10 _ _ _ kx (ob_X10_offerNotes_3_mu_16 nb nn fr pt tk M htk hp0 hp1 hp2 hp3 hp4 hp5 hp6 n k N_ hmu hinv c_1 c_2 i_4 o_5 hq_7 hi_6 M_10 eM_10 r_11 er_11 c_12 r_14 er_14 c_15 x4_16 ex4_16) (ob_X10_offerNotes_3_inv_16 nb nn fr pt tk M htk hp0 hp1 hp2 hp3 hp4 hp5 hp6 n k N_ hmu hinv c_1 c_2 i_4 o_5 hq_7 hi_6 M_10 eM_10 r_11 er_11 c_12 r_14 er_14 c_15 x4_16 ex4_16) hres hP hS (lv_sub hl [2, 3, 4, 5, 0] rfl) hex
              · replace hres := hres.trans (if_pos c_15)
                refine lv_aload_n hx hb dX10_offerNotes_57 rfl (lv_at hl 1 rfl) ?_
                refine lv_aload hx hb dX10_offerNotes_58 (lv_at hl 0 rfl) ?_
                refine lv_aload_n hx hb dX10_offerNotes_60 rfl (lv_at hl 4 rfl) ?_
                refine gf_RX10_288 hx hb hts hown hK hP (hL 26 tk htk) dX10_offerNotes_61 ?_
                refine lv_aload_n hx hb dX10_offerNotes_64 rfl (lv_at hl 1 rfl) ?_
                refine gf_RX10_91 hx hb hts hown hK hP (hL 0 0 (xe_0 nb nn)) dX10_offerNotes_65 ?_
                refine x_callVi (As := [.ref (xad g 29 i_4), .int (M_10 26 tk 0), .int (M_10 0 0 14)]) S hK hAm hD hP hS mt_X10_inTheHundred wd_776 ⟨by decide, by decide⟩ (hL 0 0 (xe_0 nb nn)) (xc0 g 0) rfl (c_X10_inTheHundred l nb nn g L M_10 hD hL i_4 (M_10 26 tk 0) (M_10 0 0 14) hi_6 (ob_X10_offerNotes_68_p0 nb nn fr pt tk M htk hp0 hp1 hp2 hp3 hp4 hp5 hp6 n k N_ hmu hinv c_1 c_2 i_4 o_5 hq_7 hi_6 M_10 eM_10 r_11 er_11 c_12 r_14 er_14 c_15) (ob_X10_offerNotes_68_p1 nb nn fr pt tk M htk hp0 hp1 hp2 hp3 hp4 hp5 hp6 n k N_ hmu hinv c_1 c_2 i_4 o_5 hq_7 hi_6 M_10 eM_10 r_11 er_11 c_12 r_14 er_14 c_15) (ob_X10_offerNotes_68_p2 nb nn fr pt tk M htk hp0 hp1 hp2 hp3 hp4 hp5 hp6 n k N_ hmu hinv c_1 c_2 i_4 o_5 hq_7 hi_6 M_10 eM_10 r_11 er_11 c_12 r_14 er_14 c_15) (ob_X10_offerNotes_68_p3 nb nn fr pt tk M htk hp0 hp1 hp2 hp3 hp4 hp5 hp6 n k N_ hmu hinv c_1 c_2 i_4 o_5 hq_7 hi_6 M_10 eM_10 r_11 er_11 c_12 r_14 er_14 c_15) (ob_X10_offerNotes_68_p4 nb nn fr pt tk M htk hp0 hp1 hp2 hp3 hp4 hp5 hp6 n k N_ hmu hinv c_1 c_2 i_4 o_5 hq_7 hi_6 M_10 eM_10 r_11 er_11 c_12 r_14 er_14 c_15)) rfl hl.1 (Nat.le_of_ble_eq_true rfl) ⟨Nat.zero_le _, Nat.zero_le _⟩ dX10_offerNotes_68 rfl (fun r_17 u H locs hp_ hP hS => ?_)
                obtain ⟨er_17, eu_⟩ := hp_
                rw [eu_] at hP
                clear eu_
                replace hres := xlet_n hres er_17
                refine lv_aload_n hx hb dX10_offerNotes_71 rfl (lv_at hl 4 rfl) ?_
                refine gf_RX10_289 hx hb hts hown hK hP (hL 26 tk htk) dX10_offerNotes_72 ?_
                refine lv_icmp_lt (tgt := 96) hx hb dX10_offerNotes_75 (by decide) (fun c_18 => ?_) (fun c_18 => ?_)
                · replace hres := hres.trans (if_pos c_18)
                  obtain ⟨x4_19, ex4_19⟩ : ∃ z_ : Int32, z_ = k + 1 := ⟨_, rfl⟩
                  replace hres := xlet_n hres ex4_19
                  refine lv_iinc (v := x4_19) (lv' := [(4, .int x4_19), (5, .ref (xad g 29 i_4)), (0, .ref (xad g 0 0)), (1, .int fr), (2, .int pt), (3, .ref (xad g 26 tk))]) hx hb dX10_offerNotes_96 hl (k := 5) rfl (by rw [ex4_19]; rfl) (by decide) rfl (fun ls hl => ?_)
                  refine lv_goto (tgt := 3) hx hb dX10_offerNotes_99 (by decide) ?_
                  exact ih x4_19 M_10 _ _ _ kx (ob_X10_offerNotes_3_mu_19 nb nn fr pt tk M htk hp0 hp1 hp2 hp3 hp4 hp5 hp6 n k N_ hmu hinv c_1 c_2 i_4 o_5 hq_7 hi_6 M_10 eM_10 r_11 er_11 c_12 r_14 er_14 c_15 r_17 er_17 c_18 x4_19 ex4_19) (ob_X10_offerNotes_3_inv_19 nb nn fr pt tk M htk hp0 hp1 hp2 hp3 hp4 hp5 hp6 n k N_ hmu hinv c_1 c_2 i_4 o_5 hq_7 hi_6 M_10 eM_10 r_11 er_11 c_12 r_14 er_14 c_15 r_17 er_17 c_18 x4_19 ex4_19) hres hP hS (lv_sub hl [2, 3, 4, 5, 0] rfl) hex
                · replace hres := hres.trans (if_neg c_18)
                  refine lv_aload_n hx hb dX10_offerNotes_78 rfl (lv_at hl 1 rfl) ?_
                  refine gf_RX10_63 hx hb hts hown hK hP (hL 0 0 (xe_0 nb nn)) dX10_offerNotes_79 ?_
                  refine lv_iload hx hb dX10_offerNotes_82 (lv_at hl 5 rfl) ?_
                  refine lv_aload_n hx hb dX10_offerNotes_84 rfl (lv_at hl 1 rfl) ?_
                  refine lv_aload hx hb dX10_offerNotes_85 (lv_at hl 0 rfl) ?_
                  refine lv_iload_n hx hb dX10_offerNotes_87 rfl (lv_at hl 3 rfl) ?_
                  refine lv_aload_n hx hb dX10_offerNotes_88 rfl (lv_at hl 1 rfl) ?_
                  refine gf_RX10_91 hx hb hts hown hK hP (hL 0 0 (xe_0 nb nn)) dX10_offerNotes_89 ?_
                  refine x_callVi (As := [.ref (xad g 29 i_4), .int pt, .int (M_10 0 0 14)]) S hK hAm hD hP hS mt_X10_inTheHundred wd_776 ⟨by decide, by decide⟩ (hL 0 0 (xe_0 nb nn)) (xc0 g 0) rfl (c_X10_inTheHundred l nb nn g L M_10 hD hL i_4 pt (M_10 0 0 14) hi_6 (ob_X10_offerNotes_92_p0 nb nn fr pt tk M htk hp0 hp1 hp2 hp3 hp4 hp5 hp6 n k N_ hmu hinv c_1 c_2 i_4 o_5 hq_7 hi_6 M_10 eM_10 r_11 er_11 c_12 r_14 er_14 c_15 r_17 er_17 c_18) (ob_X10_offerNotes_92_p1 nb nn fr pt tk M htk hp0 hp1 hp2 hp3 hp4 hp5 hp6 n k N_ hmu hinv c_1 c_2 i_4 o_5 hq_7 hi_6 M_10 eM_10 r_11 er_11 c_12 r_14 er_14 c_15 r_17 er_17 c_18) (ob_X10_offerNotes_92_p2 nb nn fr pt tk M htk hp0 hp1 hp2 hp3 hp4 hp5 hp6 n k N_ hmu hinv c_1 c_2 i_4 o_5 hq_7 hi_6 M_10 eM_10 r_11 er_11 c_12 r_14 er_14 c_15 r_17 er_17 c_18) (ob_X10_offerNotes_92_p3 nb nn fr pt tk M htk hp0 hp1 hp2 hp3 hp4 hp5 hp6 n k N_ hmu hinv c_1 c_2 i_4 o_5 hq_7 hi_6 M_10 eM_10 r_11 er_11 c_12 r_14 er_14 c_15 r_17 er_17 c_18) (ob_X10_offerNotes_92_p4 nb nn fr pt tk M htk hp0 hp1 hp2 hp3 hp4 hp5 hp6 n k N_ hmu hinv c_1 c_2 i_4 o_5 hq_7 hi_6 M_10 eM_10 r_11 er_11 c_12 r_14 er_14 c_15 r_17 er_17 c_18)) rfl hl.1 (Nat.le_of_ble_eq_true rfl) ⟨Nat.zero_le _, Nat.zero_le _⟩ dX10_offerNotes_92 rfl (fun r_20 u H locs hp_ hP hS => ?_)
                  obtain ⟨er_20, eu_⟩ := hp_
                  rw [eu_] at hP
                  clear eu_
                  replace hres := xlet_n hres er_20
                  refine x_iast hx hb hK hP hD hS (hL 9 0 (xe_9 nb nn)) (xc9 g 0) (ob_X10_offerNotes_95_in nb nn fr pt tk M htk hp0 hp1 hp2 hp3 hp4 hp5 hp6 n k N_ hmu hinv c_1 c_2 i_4 o_5 hq_7 hi_6 M_10 eM_10 r_11 er_11 c_12 r_14 er_14 c_15 r_17 er_17 c_18 r_20 er_20) dX10_offerNotes_95 (fun H locs hP hS => ?_)
                  obtain ⟨M_21, eM_21⟩ : ∃ z_ : xM, z_ = xup M_10 9 0 k.toNatClampNeg r_20 := ⟨_, rfl⟩
                  rw [← eM_21] at hP
                  replace hres := xlet_n hres eM_21
                  obtain ⟨x4_22, ex4_22⟩ : ∃ z_ : Int32, z_ = k + 1 := ⟨_, rfl⟩
                  replace hres := xlet_n hres ex4_22
                  refine lv_iinc (v := x4_22) (lv' := [(4, .int x4_22), (5, .ref (xad g 29 i_4)), (0, .ref (xad g 0 0)), (1, .int fr), (2, .int pt), (3, .ref (xad g 26 tk))]) hx hb dX10_offerNotes_96 hl (k := 5) rfl (by rw [ex4_22]; rfl) (by decide) rfl (fun ls hl => ?_)
                  refine lv_goto (tgt := 3) hx hb dX10_offerNotes_99 (by decide) ?_
                  exact ih x4_22 M_21 _ _ _ kx (ob_X10_offerNotes_3_mu_22 nb nn fr pt tk M htk hp0 hp1 hp2 hp3 hp4 hp5 hp6 n k N_ hmu hinv c_1 c_2 i_4 o_5 hq_7 hi_6 M_10 eM_10 r_11 er_11 c_12 r_14 er_14 c_15 r_17 er_17 c_18 r_20 er_20 M_21 eM_21 x4_22 ex4_22) (ob_X10_offerNotes_3_inv_22 nb nn fr pt tk M htk hp0 hp1 hp2 hp3 hp4 hp5 hp6 n k N_ hmu hinv c_1 c_2 i_4 o_5 hq_7 hi_6 M_10 eM_10 r_11 er_11 c_12 r_14 er_14 c_15 r_17 er_17 c_18 r_20 er_20 M_21 eM_21 x4_22 ex4_22) hres hP hS (lv_sub hl [2, 3, 4, 5, 0] rfl) hex
  have hres := hF
  rw [f_X10_offerNotes] at hres
  refine lv_iconst (v := 0) hx hb dX10_offerNotes_0 (by decide) ?_
  refine lv_istore (lv' := [(4, .int 0), (0, .ref (xad g 0 0)), (1, .int fr), (2, .int pt), (3, .ref (xad g 26 tk))]) hx hb dX10_offerNotes_1 hl (by decide) rfl (fun ls hl => ?_)
  refine k_3 (xmu (0 : Int32) (M 0 0 13) + 1) (0 : Int32) M _ _ _ _ (Nat.lt_succ_self _) (ob_X10_offerNotes_3_ini_22 nb nn fr pt tk M htk hp0 hp1 hp2 hp3 hp4 hp5 hp6) hres hP hS (lv_sub hl [1, 2, 3, 4, 0] rfl) ?_
  clear hres hP hS hl
  intro k_23 M_24 H locs ls hiv_24 hres hP hS hl
  exact x_retv hx hb hr hlk hP hS (hres.symm.trans hF) dX10_offerNotes_102
set_option maxHeartbeats 4000000 in
set_option maxRecDepth 100000 in
theorem c_X10_worstOffer (l : Launch) (nb nn : Nat) (g : xG) (L : List (Nat × Nat)) (M : xM) (hD : xD g L) (hL : xEL nb nn L)   : xCi l yX10_worstOffer cX10_worstOffer 4 (some .int) 0 g L M [.ref (xad g 0 0)] (fun r u => r = f_X10_worstOffer  M ∧ u = M) := by
  intro sz
  refine x_beg (by decide +kernel) rfl ?_
  intro p e s m args below meth c ls hsz hB
  subst hsz
  obtain ⟨hx, hb, hml, hown, hts, hr, hlk, hK, hAm, hP, hl⟩ := hB
  have S : CallFix p m c cX10_worstOffer 4 s args (xws yX10_worstOffer cX10_worstOffer 4 (some .int)) RX10 := ⟨hx, hb, hml, hown, hts⟩
  have hown : s.vm.findClass RX10 = some m.cls := hown
  have hl : lv_has ls 4 [(0, .ref (xad g 0 0))] := hl
  have hS : va_S (xA g L s.heap.size) s.heap s.heap [] := va_S.rf
  obtain ⟨F, hF⟩ : ∃ F, F = f_X10_worstOffer  M := ⟨_, rfl⟩
  have k_9 : ∀ (n : Nat) (worst : Int32) (least : Int32) (i : Int32) (H : Heap) (locs : List Loc) (ls : Array Slot) (kx : (Int32 → Int32 → Int32 → Int32)), xmu i (M 0 0 13) < n → 0 ≤ i → F = f_X10_worstOffer_L9 M n worst least i kx → xP g L M H → va_S (xA g L s.heap.size) s.heap H locs → lv_has ls 4 [(0, .ref (xad g 0 0)), (1, .int worst), (2, .int least), (3, .int i)] → (∀ (worst : Int32) (least : Int32) (i : Int32) (H : Heap) (locs : List Loc) (ls : Array Slot), 0 ≤ i → F = kx worst least i → xP g L M H → va_S (xA g L s.heap.size) s.heap H locs → lv_has ls 4 [(0, .ref (xad g 0 0)), (1, .int worst), (2, .int least), (3, .int i)] → W p l e (xr 0) s m args below meth c H locs 0 0 (MQ below (va_Qi (fun r u => r = f_X10_worstOffer  M ∧ u = M) (xPost g L) (xA g L s.heap.size)) args s 0 0 (xA g L s.heap.size)) (F0 m 58 ls [])) → W p l e (xr 0) s m args below meth c H locs 0 0 (MQ below (va_Qi (fun r u => r = f_X10_worstOffer  M ∧ u = M) (xPost g L) (xA g L s.heap.size)) args s 0 0 (xA g L s.heap.size)) (F0 m 9 ls []) := by
    intro n
    induction n with
    | zero => intro worst least i H locs ls kx hmu; exact absurd hmu (Nat.not_lt_zero _)
    | succ n ih =>
      intro worst least i H locs ls kx hmu hinv hres hP hS hl hex
      replace hres : F = _ := hres.trans (by rw [f_X10_worstOffer_L9])
      refine lv_iload_n hx hb dX10_worstOffer_9 rfl (lv_at hl 3 rfl) ?_
      refine lv_aload_n hx hb dX10_worstOffer_10 rfl (lv_at hl 0 rfl) ?_
      refine gf_RX10_88 hx hb hts hown hK hP (hL 0 0 (xe_0 nb nn)) dX10_worstOffer_11 ?_
      refine lv_icmp_ge (tgt := 58) hx hb dX10_worstOffer_14 (by decide) (fun c_1 => ?_) (fun c_1 => ?_)
      · replace hres := hres.trans (if_pos c_1)
        exact hex worst least i _ _ _ (ob_X10_worstOffer_58_x9 nb nn M n worst least i hmu hinv c_1) hres hP hS (lv_sub hl [0, 1, 2, 3] rfl)
      · replace hres := hres.trans (if_neg c_1)
        refine lv_iload_n hx hb dX10_worstOffer_17 rfl (lv_at hl 3 rfl) ?_
        refine lv_bipush (v := 24) hx hb dX10_worstOffer_18 (by decide) ?_
        refine lv_icmp_ge (tgt := 58) hx hb dX10_worstOffer_20 (by decide) (fun c_2 => ?_) (fun c_2 => ?_)
        · replace hres := hres.trans (if_pos c_2)
          exact hex worst least i _ _ _ (ob_X10_worstOffer_58_x9_2 nb nn M n worst least i hmu hinv c_1 c_2) hres hP hS (lv_sub hl [0, 1, 2, 3] rfl)
        · replace hres := hres.trans (if_neg c_2)
          refine lv_aload_n hx hb dX10_worstOffer_23 rfl (lv_at hl 0 rfl) ?_
          refine gf_RX10_63 hx hb hts hown hK hP (hL 0 0 (xe_0 nb nn)) dX10_worstOffer_24 ?_
          refine lv_iload_n hx hb dX10_worstOffer_27 rfl (lv_at hl 3 rfl) ?_
          refine x_iald hx hb hK hP (hL 9 0 (xe_9 nb nn)) (xc9 g 0) (ob_X10_worstOffer_28_in nb nn M n worst least i hmu hinv c_1 c_2) dX10_worstOffer_28 ?_
          refine lv_iconst (v := (-1)) hx hb dX10_worstOffer_29 (by decide) ?_
          refine lv_icmp_eq (tgt := 52) hx hb dX10_worstOffer_30 (by decide) (fun c_3 => ?_) (fun c_3 => ?_)
          · replace hres := hres.trans (if_pos c_3)
            obtain ⟨x3_4, ex3_4⟩ : ∃ z_ : Int32, z_ = i + 1 := ⟨_, rfl⟩
            replace hres := xlet_n hres ex3_4
            refine lv_iinc (v := x3_4) (lv' := [(3, .int x3_4), (0, .ref (xad g 0 0)), (1, .int worst), (2, .int least)]) hx hb dX10_worstOffer_52 hl (k := 3) rfl (by rw [ex3_4]; rfl) (by decide) rfl (fun ls hl => ?_)
            refine lv_goto (tgt := 9) hx hb dX10_worstOffer_55 (by decide) ?_
            exact ih worst least x3_4 _ _ _ kx (ob_X10_worstOffer_9_mu_4 nb nn M n worst least i hmu hinv c_1 c_2 c_3 x3_4 ex3_4) (ob_X10_worstOffer_9_inv_4 nb nn M n worst least i hmu hinv c_1 c_2 c_3 x3_4 ex3_4) hres hP hS (lv_sub hl [1, 2, 3, 0] rfl) hex
          · replace hres := hres.trans (if_neg c_3)
            refine lv_aload_n hx hb dX10_worstOffer_33 rfl (lv_at hl 0 rfl) ?_
            refine gf_RX10_63 hx hb hts hown hK hP (hL 0 0 (xe_0 nb nn)) dX10_worstOffer_34 ?_
            refine lv_iload_n hx hb dX10_worstOffer_37 rfl (lv_at hl 3 rfl) ?_
            refine x_iald hx hb hK hP (hL 9 0 (xe_9 nb nn)) (xc9 g 0) (ob_X10_worstOffer_38_in nb nn M n worst least i hmu hinv c_1 c_2 c_3) dX10_worstOffer_38 ?_
            refine lv_iload_n hx hb dX10_worstOffer_39 rfl (lv_at hl 2 rfl) ?_
            refine lv_icmp_ge (tgt := 52) hx hb dX10_worstOffer_40 (by decide) (fun c_5 => ?_) (fun c_5 => ?_)
            · replace hres := hres.trans (if_pos c_5)
              obtain ⟨x3_6, ex3_6⟩ : ∃ z_ : Int32, z_ = i + 1 := ⟨_, rfl⟩
              replace hres := xlet_n hres ex3_6
              refine lv_iinc (v := x3_6) (lv' := [(3, .int x3_6), (0, .ref (xad g 0 0)), (1, .int worst), (2, .int least)]) hx hb dX10_worstOffer_52 hl (k := 3) rfl (by rw [ex3_6]; rfl) (by decide) rfl (fun ls hl => ?_)
              refine lv_goto (tgt := 9) hx hb dX10_worstOffer_55 (by decide) ?_
              exact ih worst least x3_6 _ _ _ kx (ob_X10_worstOffer_9_mu_6 nb nn M n worst least i hmu hinv c_1 c_2 c_3 c_5 x3_6 ex3_6) (ob_X10_worstOffer_9_inv_6 nb nn M n worst least i hmu hinv c_1 c_2 c_3 c_5 x3_6 ex3_6) hres hP hS (lv_sub hl [1, 2, 3, 0] rfl) hex
            · replace hres := hres.trans (if_neg c_5)
              refine lv_aload_n hx hb dX10_worstOffer_43 rfl (lv_at hl 0 rfl) ?_
              refine gf_RX10_63 hx hb hts hown hK hP (hL 0 0 (xe_0 nb nn)) dX10_worstOffer_44 ?_
              refine lv_iload_n hx hb dX10_worstOffer_47 rfl (lv_at hl 3 rfl) ?_
              refine x_iald hx hb hK hP (hL 9 0 (xe_9 nb nn)) (xc9 g 0) (ob_X10_worstOffer_48_in nb nn M n worst least i hmu hinv c_1 c_2 c_3 c_5) dX10_worstOffer_48 ?_
              refine lv_topi (fun x2_7 ex2_7 => ?_)
              replace hres := xlet_n hres ex2_7
              refine lv_istore_n (lv' := [(2, .int x2_7), (0, .ref (xad g 0 0)), (1, .int worst), (3, .int i)]) hx hb dX10_worstOffer_49 rfl hl (by decide) rfl (fun ls hl => ?_)
              refine lv_iload_n hx hb dX10_worstOffer_50 rfl (lv_at hl 3 rfl) ?_
              refine lv_istore_n (lv' := [(1, .int i), (2, .int x2_7), (0, .ref (xad g 0 0)), (3, .int i)]) hx hb dX10_worstOffer_51 rfl hl (by decide) rfl (fun ls hl => ?_)
              obtain ⟨x3_8, ex3_8⟩ : ∃ z_ : Int32, z_ = i + 1 := ⟨_, rfl⟩
              replace hres := xlet_n hres ex3_8
              refine lv_iinc (v := x3_8) (lv' := [(3, .int x3_8), (1, .int i), (2, .int x2_7), (0, .ref (xad g 0 0))]) hx hb dX10_worstOffer_52 hl (k := 3) rfl (by rw [ex3_8]; rfl) (by decide) rfl (fun ls hl => ?_)
              refine lv_goto (tgt := 9) hx hb dX10_worstOffer_55 (by decide) ?_
              exact ih i x2_7 x3_8 _ _ _ kx (ob_X10_worstOffer_9_mu_8 nb nn M n worst least i hmu hinv c_1 c_2 c_3 c_5 x2_7 ex2_7 x3_8 ex3_8) (ob_X10_worstOffer_9_inv_8 nb nn M n worst least i hmu hinv c_1 c_2 c_3 c_5 x2_7 ex2_7 x3_8 ex3_8) hres hP hS (lv_sub hl [3, 1, 2, 0] rfl) hex
  have hres := hF
  rw [f_X10_worstOffer] at hres
  refine lv_ldcw (own := RX10) (v := (-1000000)) hx hb hown (hts _ (List.mem_cons_of_mem _ wd_629)) dX10_worstOffer_0 ?_
  refine lv_istore_n (lv' := [(1, .int (-1000000)), (0, .ref (xad g 0 0))]) hx hb dX10_worstOffer_3 rfl hl (by decide) rfl (fun ls hl => ?_)
  refine lv_bipush (v := 101) hx hb dX10_worstOffer_4 (by decide) ?_
  refine lv_istore_n (lv' := [(2, .int 101), (1, .int (-1000000)), (0, .ref (xad g 0 0))]) hx hb dX10_worstOffer_6 rfl hl (by decide) rfl (fun ls hl => ?_)
  refine lv_iconst (v := 0) hx hb dX10_worstOffer_7 (by decide) ?_
  refine lv_istore_n (lv' := [(3, .int 0), (2, .int 101), (1, .int (-1000000)), (0, .ref (xad g 0 0))]) hx hb dX10_worstOffer_8 rfl hl (by decide) rfl (fun ls hl => ?_)
  refine k_9 (xmu (0 : Int32) (M 0 0 13) + 1) (-1000000 : Int32) (101 : Int32) (0 : Int32) _ _ _ _ (Nat.lt_succ_self _) (ob_X10_worstOffer_9_ini_8 nb nn M) hres hP hS (lv_sub hl [3, 2, 1, 0] rfl) ?_
  clear hres hP hS hl
  intro worst_9 least_10 i_11 H locs ls hiv_11 hres hP hS hl
  refine lv_iload_n hx hb dX10_worstOffer_58 rfl (lv_at hl 1 rfl) ?_
  exact x_reti hx hb hr hlk hP hS ⟨hres.symm.trans hF, rfl⟩ dX10_worstOffer_59
set_option maxHeartbeats 4000000 in
set_option maxRecDepth 100000 in
theorem c_X10_areDifferentNotes (l : Launch) (nb nn : Nat) (g : xG) (L : List (Nat × Nat)) (M : xM) (hD : xD g L) (hL : xEL nb nn L) (sq : Nat) (i : Int32) (z : Int32) (hsq : sq < 8) (hp0 : xHN nn M) (hp1 : 0 ≤ i) (hp2 : 0 ≤ z) (hp3 : i ≤ 60) (hp4 : z ≤ 60) (hp5 : i + z ≤ 60) : xCi l yX10_areDifferentNotes cX10_areDifferentNotes 7 (some .boolean) 2 g L M [.ref (xad g 0 0), .ref (xad g 24 sq), .int i, .int z] (fun r u => r = xb (f_X10_areDifferentNotes sq i z M) ∧ u = M) := by
  intro sz
  refine x_beg (by decide +kernel) rfl ?_
  intro p e s m args below meth c ls hsz hB
  subst hsz
  obtain ⟨hx, hb, hml, hown, hts, hr, hlk, hK, hAm, hP, hl⟩ := hB
  have S : CallFix p m c cX10_areDifferentNotes 7 s args (xws yX10_areDifferentNotes cX10_areDifferentNotes 7 (some .boolean)) RX10 := ⟨hx, hb, hml, hown, hts⟩
  have hown : s.vm.findClass RX10 = some m.cls := hown
  have hl : lv_has ls 7 [(0, .ref (xad g 0 0)), (1, .ref (xad g 24 sq)), (2, .int i), (3, .int z)] := hl
  have hS : va_S (xA g L s.heap.size) s.heap s.heap [] := va_S.rf
  obtain ⟨F, hF⟩ : ∃ F, F = f_X10_areDifferentNotes sq i z M := ⟨_, rfl⟩
  have k_6 : ∀ (n : Nat) (seen : Int32) (k : Int32) (H : Heap) (locs : List Loc) (ls : Array Slot) (kx : (Int32 → Int32 → Bool)), xmu k z < n → 0 ≤ k → F = f_X10_areDifferentNotes_L6 sq i z M n seen k kx → xP g L M H → va_S (xA g L s.heap.size) s.heap H locs → lv_has ls 7 [(0, .ref (xad g 0 0)), (1, .ref (xad g 24 sq)), (2, .int i), (3, .int z), (4, .int seen), (5, .int k)] → (∀ (seen : Int32) (k : Int32) (H : Heap) (locs : List Loc) (ls : Array Slot), 0 ≤ k → F = kx seen k → xP g L M H → va_S (xA g L s.heap.size) s.heap H locs → lv_has ls 7 [(0, .ref (xad g 0 0)), (1, .ref (xad g 24 sq)), (2, .int i), (3, .int z), (4, .int seen), (5, .int k)] → W p l e (xr 2) s m args below meth c H locs 0 0 (MQ below (va_Qi (fun r u => r = xb (f_X10_areDifferentNotes sq i z M) ∧ u = M) (xPost g L) (xA g L s.heap.size)) args s 0 0 (xA g L s.heap.size)) (F0 m 59 ls [])) → W p l e (xr 2) s m args below meth c H locs 0 0 (MQ below (va_Qi (fun r u => r = xb (f_X10_areDifferentNotes sq i z M) ∧ u = M) (xPost g L) (xA g L s.heap.size)) args s 0 0 (xA g L s.heap.size)) (F0 m 6 ls []) := by
    intro n
    induction n with
    | zero => intro seen k H locs ls kx hmu; exact absurd hmu (Nat.not_lt_zero _)
    | succ n ih =>
      intro seen k H locs ls kx hmu hinv hres hP hS hl hex
      replace hres : F = _ := hres.trans (by rw [f_X10_areDifferentNotes_L6])
      refine lv_iload hx hb dX10_areDifferentNotes_6 (lv_at hl 5 rfl) ?_
      refine lv_iload_n hx hb dX10_areDifferentNotes_8 rfl (lv_at hl 3 rfl) ?_
      refine lv_icmp_ge (tgt := 59) hx hb dX10_areDifferentNotes_9 (by decide) (fun c_1 => ?_) (fun c_1 => ?_)
      · replace hres := hres.trans (if_pos c_1)
        exact hex seen k _ _ _ (ob_X10_areDifferentNotes_59_x6 nb nn sq i z M hsq hp0 hp1 hp2 hp3 hp4 hp5 n seen k hmu hinv c_1) hres hP hS (lv_sub hl [0, 1, 2, 3, 4, 5] rfl)
      · replace hres := hres.trans (if_neg c_1)
        refine lv_aload_n hx hb dX10_areDifferentNotes_12 rfl (lv_at hl 1 rfl) ?_
        refine gf_RX10_136 hx hb hts hown hK hP (hL 24 sq hsq) dX10_areDifferentNotes_13 ?_
        refine lv_iload_n hx hb dX10_areDifferentNotes_16 rfl (lv_at hl 2 rfl) ?_
        refine lv_iload hx hb dX10_areDifferentNotes_17 (lv_at hl 5 rfl) ?_
        refine lv_iadd hx hb dX10_areDifferentNotes_19 ?_
        refine x_iald hx hb hK hP (hL 25 sq hsq) (xc25 g sq) (ob_X10_areDifferentNotes_20_in nb nn sq i z M hsq hp0 hp1 hp2 hp3 hp4 hp5 n seen k hmu hinv c_1) dX10_areDifferentNotes_20 ?_
        refine lv_topi (fun x6_2 ex6_2 => ?_)
        replace hres := xlet_n hres ex6_2
        refine lv_istore (lv' := [(6, .int x6_2), (0, .ref (xad g 0 0)), (1, .ref (xad g 24 sq)), (2, .int i), (3, .int z), (4, .int seen), (5, .int k)]) hx hb dX10_areDifferentNotes_21 hl (by decide) rfl (fun ls hl => ?_)
        refine lv_aload_n hx hb dX10_areDifferentNotes_23 rfl (lv_at hl 1 rfl) ?_
        refine lv_iload hx hb dX10_areDifferentNotes_24 (lv_at hl 0 rfl) ?_
        refine x_callVq (As := [.int x6_2]) S hK hAm hD hP hS mt_X10_noteOf wd_725 ⟨by decide, by decide⟩ (hL 0 0 (xe_0 nb nn)) (xc0 g 0) rfl (c_X10_noteOf l nb nn g L M hD hL x6_2 (ob_X10_areDifferentNotes_26_p0 nb nn sq i z M hsq hp0 hp1 hp2 hp3 hp4 hp5 n seen k hmu hinv c_1 x6_2 ex6_2)) rfl hl.1 (Nat.le_of_ble_eq_true rfl) ⟨Nat.zero_le _, Nat.zero_le _⟩ dX10_areDifferentNotes_26 rfl (fun r_3 u H locs hp_ hP hS => ?_)
        obtain ⟨hp_, eu_⟩ := hp_
        rw [eu_] at hP
        clear eu_
        subst hp_
        rcases o_5 : f_X10_noteOf x6_2 M with _ | i_4
        · replace hres := xopt_n hres o_5
          refine lv_ifnullN (tgt := 42) hx hb dX10_areDifferentNotes_29 (by decide) ?_
          refine lv_iconst (v := 0) hx hb dX10_areDifferentNotes_42 (by decide) ?_
          exact x_retz hx hb hr hlk hP hS rfl ⟨(congrArg xb (hres.symm.trans hF)), rfl⟩ dX10_areDifferentNotes_43
        · replace hres := xopt_s hres o_5
          have hq_7 := (ob_X10_areDifferentNotes_26_q nb nn sq i z M hsq hp0 hp1 hp2 hp3 hp4 hp5 n seen k hmu hinv c_1 x6_2 ex6_2 i_4 o_5)
          have hi_6 := hq_7.1
          refine lv_ifnull hx hb dX10_areDifferentNotes_29 ?_
          refine lv_iload hx hb dX10_areDifferentNotes_32 (lv_at hl 5 rfl) ?_
          refine lv_iload hx hb dX10_areDifferentNotes_34 (lv_at hl 0 rfl) ?_
          refine lv_ishr hx hb dX10_areDifferentNotes_36 ?_
          refine lv_iconst (v := 1) hx hb dX10_areDifferentNotes_37 (by decide) ?_
          refine lv_iand hx hb dX10_areDifferentNotes_38 ?_
          refine lv_if_eq (tgt := 44) hx hb dX10_areDifferentNotes_39 (by decide) (fun c_8 => ?_) (fun c_8 => ?_)
          · replace hres := hres.trans (if_pos c_8)
            refine lv_iload hx hb dX10_areDifferentNotes_44 (lv_at hl 5 rfl) ?_
            refine lv_iconst (v := 1) hx hb dX10_areDifferentNotes_46 (by decide) ?_
            refine lv_iload hx hb dX10_areDifferentNotes_47 (lv_at hl 0 rfl) ?_
            refine lv_ishl hx hb dX10_areDifferentNotes_49 ?_
            refine lv_ior hx hb dX10_areDifferentNotes_50 ?_
            refine lv_topi (fun x4_9 ex4_9 => ?_)
            replace hres := xlet_n hres ex4_9
            refine lv_istore (lv' := [(4, .int x4_9), (6, .int x6_2), (0, .ref (xad g 0 0)), (1, .ref (xad g 24 sq)), (2, .int i), (3, .int z), (5, .int k)]) hx hb dX10_areDifferentNotes_51 hl (by decide) rfl (fun ls hl => ?_)
            obtain ⟨x5_10, ex5_10⟩ : ∃ z_ : Int32, z_ = k + 1 := ⟨_, rfl⟩
            replace hres := xlet_n hres ex5_10
            refine lv_iinc (v := x5_10) (lv' := [(5, .int x5_10), (4, .int x4_9), (6, .int x6_2), (0, .ref (xad g 0 0)), (1, .ref (xad g 24 sq)), (2, .int i), (3, .int z)]) hx hb dX10_areDifferentNotes_53 hl (k := 6) rfl (by rw [ex5_10]; rfl) (by decide) rfl (fun ls hl => ?_)
            refine lv_goto (tgt := 6) hx hb dX10_areDifferentNotes_56 (by decide) ?_
            exact ih x4_9 x5_10 _ _ _ kx (ob_X10_areDifferentNotes_6_mu_10 nb nn sq i z M hsq hp0 hp1 hp2 hp3 hp4 hp5 n seen k hmu hinv c_1 x6_2 ex6_2 i_4 o_5 hq_7 hi_6 c_8 x4_9 ex4_9 x5_10 ex5_10) (ob_X10_areDifferentNotes_6_inv_10 nb nn sq i z M hsq hp0 hp1 hp2 hp3 hp4 hp5 n seen k hmu hinv c_1 x6_2 ex6_2 i_4 o_5 hq_7 hi_6 c_8 x4_9 ex4_9 x5_10 ex5_10) hres hP hS (lv_sub hl [3, 4, 5, 6, 1, 0] rfl) hex
          · replace hres := hres.trans (if_neg c_8)
            refine lv_iconst (v := 0) hx hb dX10_areDifferentNotes_42 (by decide) ?_
            exact x_retz hx hb hr hlk hP hS rfl ⟨(congrArg xb (hres.symm.trans hF)), rfl⟩ dX10_areDifferentNotes_43
  have hres := hF
  rw [f_X10_areDifferentNotes] at hres
  refine lv_iconst (v := 0) hx hb dX10_areDifferentNotes_0 (by decide) ?_
  refine lv_istore (lv' := [(4, .int 0), (0, .ref (xad g 0 0)), (1, .ref (xad g 24 sq)), (2, .int i), (3, .int z)]) hx hb dX10_areDifferentNotes_1 hl (by decide) rfl (fun ls hl => ?_)
  refine lv_iconst (v := 0) hx hb dX10_areDifferentNotes_3 (by decide) ?_
  refine lv_istore (lv' := [(5, .int 0), (4, .int 0), (0, .ref (xad g 0 0)), (1, .ref (xad g 24 sq)), (2, .int i), (3, .int z)]) hx hb dX10_areDifferentNotes_4 hl (by decide) rfl (fun ls hl => ?_)
  refine k_6 (xmu (0 : Int32) z + 1) (0 : Int32) (0 : Int32) _ _ _ _ (Nat.lt_succ_self _) (ob_X10_areDifferentNotes_6_ini_10 nb nn sq i z M hsq hp0 hp1 hp2 hp3 hp4 hp5) hres hP hS (lv_sub hl [2, 3, 4, 5, 1, 0] rfl) ?_
  clear hres hP hS hl
  intro seen_11 k_12 H locs ls hiv_12 hres hP hS hl
  refine lv_iconst (v := 1) hx hb dX10_areDifferentNotes_59 (by decide) ?_
  exact x_retz hx hb hr hlk hP hS rfl ⟨(congrArg xb (hres.symm.trans hF)), rfl⟩ dX10_areDifferentNotes_60
set_option maxHeartbeats 4000000 in
set_option maxRecDepth 100000 in
theorem c_X10_tellDrover (l : Launch) (nb nn : Nat) (g : xG) (L : List (Nat × Nat)) (M : xM) (hD : xD g L) (hL : xEL nb nn L) (place : Int32) (nt : Nat) (hnt : nt < nn) (hp0 : 0 ≤ place) (hp1 : place < 8) (hp2 : ∀ i : Nat, 0 ≤ M 29 i 1 ∧ M 29 i 1 ≤ 7) : xCv l yX10_tellDrover cX10_tellDrover 4 1 g L M [.ref (xad g 0 0), .int place, .ref (xad g 29 nt)] (fun u => u = f_X10_tellDrover place nt M) := by
  intro sz
  refine x_beg (by decide +kernel) rfl ?_
  intro p e s m args below meth c ls hsz hB
  subst hsz
  obtain ⟨hx, hb, hml, hown, hts, hr, hlk, hK, hAm, hP, hl⟩ := hB
  have S : CallFix p m c cX10_tellDrover 4 s args (xws yX10_tellDrover cX10_tellDrover 4 none) RX10 := ⟨hx, hb, hml, hown, hts⟩
  have hown : s.vm.findClass RX10 = some m.cls := hown
  have hl : lv_has ls 4 [(0, .ref (xad g 0 0)), (1, .int place), (2, .ref (xad g 29 nt))] := hl
  have hS : va_S (xA g L s.heap.size) s.heap s.heap [] := va_S.rf
  obtain ⟨F, hF⟩ : ∃ F, F = f_X10_tellDrover place nt M := ⟨_, rfl⟩
  have k_2 : ∀ (n : Nat) (t : Int32) (N_ : xM) (H : Heap) (locs : List Loc) (ls : Array Slot) (kx : (Int32 → xM → xM)), xmu t 6 < n → 0 ≤ t ∧ (∀ i : Nat, 0 ≤ N_ 29 i 1 ∧ N_ 29 i 1 ≤ 7) → F = f_X10_tellDrover_L2 place nt n t N_ kx → xP g L N_ H → va_S (xA g L s.heap.size) s.heap H locs → lv_has ls 4 [(0, .ref (xad g 0 0)), (1, .int place), (2, .ref (xad g 29 nt)), (3, .int t)] → (∀ (t : Int32) (N_ : xM) (H : Heap) (locs : List Loc) (ls : Array Slot), 0 ≤ t ∧ (∀ i : Nat, 0 ≤ N_ 29 i 1 ∧ N_ 29 i 1 ≤ 7) → F = kx t N_ → xP g L N_ H → va_S (xA g L s.heap.size) s.heap H locs → lv_has ls 4 [(0, .ref (xad g 0 0)), (1, .int place), (2, .ref (xad g 29 nt)), (3, .int t)] → W p l e (xr 1) s m args below meth c H locs 0 0 (MQ below (va_Qv (fun u => u = f_X10_tellDrover place nt M) (xPost g L) (xA g L s.heap.size)) args s 0 0 (xA g L s.heap.size)) (F0 m 49 ls [])) → W p l e (xr 1) s m args below meth c H locs 0 0 (MQ below (va_Qv (fun u => u = f_X10_tellDrover place nt M) (xPost g L) (xA g L s.heap.size)) args s 0 0 (xA g L s.heap.size)) (F0 m 2 ls []) := by
    intro n
    induction n with
    | zero => intro t N_ H locs ls kx hmu; exact absurd hmu (Nat.not_lt_zero _)
    | succ n ih =>
      intro t N_ H locs ls kx hmu hinv hres hP hS hl hex
      replace hres : F = _ := hres.trans (by rw [f_X10_tellDrover_L2])
      refine lv_iload_n hx hb dX10_tellDrover_2 rfl (lv_at hl 3 rfl) ?_
      refine lv_bipush (v := 6) hx hb dX10_tellDrover_3 (by decide) ?_
      refine lv_icmp_ge (tgt := 49) hx hb dX10_tellDrover_5 (by decide) (fun c_1 => ?_) (fun c_1 => ?_)
      · replace hres := hres.trans (if_pos c_1)
        exact hex t N_ _ _ _ (ob_X10_tellDrover_49_x2 nb nn place nt M hnt hp0 hp1 hp2 n t N_ hmu hinv c_1) hres hP hS (lv_sub hl [0, 1, 2, 3] rfl)
      · replace hres := hres.trans (if_neg c_1)
        refine lv_aload_n hx hb dX10_tellDrover_8 rfl (lv_at hl 2 rfl) ?_
        refine lv_ifnull hx hb dX10_tellDrover_9 ?_
        refine lv_aload_n hx hb dX10_tellDrover_12 rfl (lv_at hl 0 rfl) ?_
        refine gf_RX10_73 hx hb hts hown hK hP (hL 0 0 (xe_0 nb nn)) dX10_tellDrover_13 ?_
        refine lv_iload_n hx hb dX10_tellDrover_16 rfl (lv_at hl 3 rfl) ?_
        refine lv_iload_n hx hb dX10_tellDrover_17 rfl (lv_at hl 1 rfl) ?_
        refine lv_aload_n hx hb dX10_tellDrover_18 rfl (lv_at hl 2 rfl) ?_
        refine gf_RX10_253 hx hb hts hown hK hP (hL 29 nt hnt) dX10_tellDrover_19 ?_
        refine lv_aload_n hx hb dX10_tellDrover_22 rfl (lv_at hl 0 rfl) ?_
        refine gf_RX10_67 hx hb hts hown hK hP (hL 0 0 (xe_0 nb nn)) dX10_tellDrover_23 ?_
        refine lv_iload_n hx hb dX10_tellDrover_26 rfl (lv_at hl 3 rfl) ?_
        refine lv_bipush (v := 8) hx hb dX10_tellDrover_27 (by decide) ?_
        refine lv_imul hx hb dX10_tellDrover_29 ?_
        refine lv_aload_n hx hb dX10_tellDrover_30 rfl (lv_at hl 2 rfl) ?_
        refine gf_RX10_250 hx hb hts hown hK hP (hL 29 nt hnt) dX10_tellDrover_31 ?_
        refine lv_iadd hx hb dX10_tellDrover_34 ?_
        refine x_iald hx hb hK hP (hL 10 0 (xe_10 nb nn)) (xc10 g 0) (ob_X10_tellDrover_35_in nb nn place nt M hnt hp0 hp1 hp2 n t N_ hmu hinv c_1) dX10_tellDrover_35 ?_
        refine lv_imul hx hb dX10_tellDrover_36 ?_
        refine lv_bipush (v := 100) hx hb dX10_tellDrover_37 (by decide) ?_
        refine lv_idiv hx hb dX10_tellDrover_39 (by decide) ?_
        refine x_callVv (As := [.int t, .int place, .int (((N_ 29 nt 2) * (N_ 10 0 ((t * 8) + (N_ 29 nt 1)).toNatClampNeg)) / 100)]) S hK hAm hD hP hS mt_X3_tellGain wd_932 ⟨by decide, by decide⟩ (hL 11 0 (xe_11 nb nn)) (xc11 g 0) rfl (c_X3_tellGain l nb nn g L N_ hD hL t place (((N_ 29 nt 2) * (N_ 10 0 ((t * 8) + (N_ 29 nt 1)).toNatClampNeg)) / 100) (ob_X10_tellDrover_40_p0 nb nn place nt M hnt hp0 hp1 hp2 n t N_ hmu hinv c_1) (ob_X10_tellDrover_40_p1 nb nn place nt M hnt hp0 hp1 hp2 n t N_ hmu hinv c_1) (ob_X10_tellDrover_40_p2 nb nn place nt M hnt hp0 hp1 hp2 n t N_ hmu hinv c_1) (ob_X10_tellDrover_40_p3 nb nn place nt M hnt hp0 hp1 hp2 n t N_ hmu hinv c_1)) rfl hl.1 (Nat.le_of_ble_eq_true rfl) ⟨Nat.zero_le _, Nat.zero_le _⟩ dX10_tellDrover_40 rfl (fun M_3 H locs eM_3 hP hS => ?_)
        replace hres := xlet_n hres eM_3
        obtain ⟨x3_4, ex3_4⟩ : ∃ z_ : Int32, z_ = t + 1 := ⟨_, rfl⟩
        replace hres := xlet_n hres ex3_4
        refine lv_iinc (v := x3_4) (lv' := [(3, .int x3_4), (0, .ref (xad g 0 0)), (1, .int place), (2, .ref (xad g 29 nt))]) hx hb dX10_tellDrover_43 hl (k := 3) rfl (by rw [ex3_4]; rfl) (by decide) rfl (fun ls hl => ?_)
        refine lv_goto (tgt := 2) hx hb dX10_tellDrover_46 (by decide) ?_
        exact ih x3_4 M_3 _ _ _ kx (ob_X10_tellDrover_2_mu_4 nb nn place nt M hnt hp0 hp1 hp2 n t N_ hmu hinv c_1 M_3 eM_3 x3_4 ex3_4) (ob_X10_tellDrover_2_inv_4 nb nn place nt M hnt hp0 hp1 hp2 n t N_ hmu hinv c_1 M_3 eM_3 x3_4 ex3_4) hres hP hS (lv_sub hl [1, 2, 3, 0] rfl) hex
  have hres := hF
  rw [f_X10_tellDrover] at hres
  refine lv_iconst (v := 0) hx hb dX10_tellDrover_0 (by decide) ?_
  refine lv_istore_n (lv' := [(3, .int 0), (0, .ref (xad g 0 0)), (1, .int place), (2, .ref (xad g 29 nt))]) hx hb dX10_tellDrover_1 rfl hl (by decide) rfl (fun ls hl => ?_)
  refine k_2 (xmu (0 : Int32) 6 + 1) (0 : Int32) M _ _ _ _ (Nat.lt_succ_self _) (ob_X10_tellDrover_2_ini_4 nb nn place nt M hnt hp0 hp1 hp2) hres hP hS (lv_sub hl [1, 2, 3, 0] rfl) ?_
  clear hres hP hS hl
  intro t_5 M_6 H locs ls hiv_6 hres hP hS hl
  exact x_retv hx hb hr hlk hP hS (hres.symm.trans hF) dX10_tellDrover_49
set_option maxHeartbeats 4000000 in
set_option maxRecDepth 100000 in
theorem c_X10_rates (l : Launch) (nb nn : Nat) (g : xG) (L : List (Nat × Nat)) (M : xM) (hD : xD g L) (hL : xEL nb nn L) (town : Int32) (sh : Int32) (i : Int32) (hp0 : xHS M) (hp1 : ∀ i : Nat, 0 ≤ M 24 i 2 ∧ M 24 i 2 ≤ 60) : xCi l yX10_rates cX10_rates 6 (some .int) 2 g L M [.ref (xad g 0 0), .int town, .int sh, .int i] (fun r u => (r, u) = f_X10_rates town sh i M) := by
  intro sz
  refine x_beg (by decide +kernel) rfl ?_
  intro p e s m args below meth c ls hsz hB
  subst hsz
  obtain ⟨hx, hb, hml, hown, hts, hr, hlk, hK, hAm, hP, hl⟩ := hB
  have S : CallFix p m c cX10_rates 6 s args (xws yX10_rates cX10_rates 6 (some .int)) RX10 := ⟨hx, hb, hml, hown, hts⟩
  have hown : s.vm.findClass RX10 = some m.cls := hown
  have hl : lv_has ls 6 [(0, .ref (xad g 0 0)), (1, .int town), (2, .int sh), (3, .int i)] := hl
  have hS : va_S (xA g L s.heap.size) s.heap s.heap [] := va_S.rf
  obtain ⟨F, hF⟩ : ∃ F, F = f_X10_rates town sh i M := ⟨_, rfl⟩
  have k_56 : ∀ (sq : Nat) (hsq : sq < 8) (N_ : xM) (n : Nat) (b : Int32) (H : Heap) (locs : List Loc) (ls : Array Slot) (kx : (Int32 → Int32 × xM)), xmu b 8 < n → 0 ≤ b ∧ 0 ≤ i ∧ i ≤ 52 → F = f_X10_rates_L56 town sh i sq N_ n b kx → xP g L N_ H → va_S (xA g L s.heap.size) s.heap H locs → lv_has ls 6 [(0, .ref (xad g 0 0)), (1, .int town), (2, .int sh), (3, .int i), (4, .ref (xad g 24 sq)), (5, .int b)] → (∀ (b : Int32) (H : Heap) (locs : List Loc) (ls : Array Slot), 0 ≤ b ∧ 0 ≤ i ∧ i ≤ 52 → F = kx b → xP g L N_ H → va_S (xA g L s.heap.size) s.heap H locs → lv_has ls 6 [(0, .ref (xad g 0 0)), (1, .int town), (2, .int sh), (3, .int i), (4, .ref (xad g 24 sq)), (5, .int b)] → W p l e (xr 2) s m args below meth c H locs 0 0 (MQ below (va_Qi (fun r u => (r, u) = f_X10_rates town sh i M) (xPost g L) (xA g L s.heap.size)) args s 0 0 (xA g L s.heap.size)) (F0 m 90 ls [])) → W p l e (xr 2) s m args below meth c H locs 0 0 (MQ below (va_Qi (fun r u => (r, u) = f_X10_rates town sh i M) (xPost g L) (xA g L s.heap.size)) args s 0 0 (xA g L s.heap.size)) (F0 m 56 ls []) := by
    intro sq hsq N_ n
    induction n with
    | zero => intro b H locs ls kx hmu; exact absurd hmu (Nat.not_lt_zero _)
    | succ n ih =>
      intro b H locs ls kx hmu hinv hres hP hS hl hex
      replace hres : F = _ := hres.trans (by rw [f_X10_rates_L56])
      refine lv_iload hx hb dX10_rates_56 (lv_at hl 5 rfl) ?_
      refine lv_bipush (v := 8) hx hb dX10_rates_58 (by decide) ?_
      refine lv_icmp_ge (tgt := 90) hx hb dX10_rates_60 (by decide) (fun c_1 => ?_) (fun c_1 => ?_)
      · replace hres := hres.trans (if_pos c_1)
        exact hex b _ _ _ (ob_X10_rates_90_x56 nb nn town sh i M hp0 hp1 sq hsq n b N_ hmu hinv c_1) hres hP hS (lv_sub hl [0, 1, 2, 3, 4, 5] rfl)
      · replace hres := hres.trans (if_neg c_1)
        refine lv_aload hx hb dX10_rates_63 (lv_at hl 4 rfl) ?_
        refine gf_RX10_136 hx hb hts hown hK hP (hL 24 sq hsq) dX10_rates_65 ?_
        refine lv_iload_n hx hb dX10_rates_68 rfl (lv_at hl 3 rfl) ?_
        refine lv_iload hx hb dX10_rates_69 (lv_at hl 5 rfl) ?_
        refine lv_iadd hx hb dX10_rates_71 ?_
        refine x_iald hx hb hK hP (hL 25 sq hsq) (xc25 g sq) (ob_X10_rates_72_in nb nn town sh i M hp0 hp1 sq hsq n b N_ hmu hinv c_1) dX10_rates_72 ?_
        refine lv_bipush (v := 100) hx hb dX10_rates_73 (by decide) ?_
        refine x_callSi (As := [.int (N_ 25 sq (i + b).toNatClampNeg), .int 100]) S hK hAm hD hP hS mt_X10_isUpTo wd_179 ⟨by decide, by decide⟩ (c_X10_isUpTo l nb nn g L N_ hD hL (N_ 25 sq (i + b).toNatClampNeg) 100) rfl hl.1 (Nat.le_of_ble_eq_true rfl) ⟨Nat.zero_le _, Nat.zero_le _⟩ dX10_rates_75 rfl (fun r_2 u H locs hp_ hP hS => ?_)
        obtain ⟨er_2, eu_⟩ := hp_
        rw [eu_] at hP
        clear eu_
        replace hres := xlet_n hres er_2
        refine lv_if_ne (tgt := 84) hx hb dX10_rates_78 (by decide) (fun c_3 => ?_) (fun c_3 => ?_)
        · replace hres := hres.trans (if_neg c_3)
          obtain ⟨x5_4, ex5_4⟩ : ∃ z_ : Int32, z_ = b + 1 := ⟨_, rfl⟩
          replace hres := xlet_n hres ex5_4
          refine lv_iinc (v := x5_4) (lv' := [(5, .int x5_4), (0, .ref (xad g 0 0)), (1, .int town), (2, .int sh), (3, .int i), (4, .ref (xad g 24 sq))]) hx hb dX10_rates_84 hl (k := 5) rfl (by rw [ex5_4]; rfl) (by decide) rfl (fun ls hl => ?_)
          refine lv_goto (tgt := 56) hx hb dX10_rates_87 (by decide) ?_
          exact ih x5_4 _ _ _ kx (ob_X10_rates_56_mu_4 nb nn town sh i M hp0 hp1 sq hsq n b N_ hmu hinv c_1 r_2 er_2 c_3 x5_4 ex5_4) (ob_X10_rates_56_inv_4 nb nn town sh i M hp0 hp1 sq hsq n b N_ hmu hinv c_1 r_2 er_2 c_3 x5_4 ex5_4) hres hP hS (lv_sub hl [1, 2, 3, 4, 5, 0] rfl) hex
        · replace hres := hres.trans (if_pos c_3)
          refine lv_ldc (own := RX10) (v := (-1000001)) hx hb hown (hts _ (List.mem_cons_of_mem _ wd_174)) dX10_rates_81 ?_
          exact x_reti hx hb hr hlk hP hS (hres.symm.trans hF) dX10_rates_83
  have hres := hF
  rw [f_X10_rates] at hres
  refine lv_aload_n hx hb dX10_rates_0 rfl (lv_at hl 0 rfl) ?_
  refine lv_iload_n hx hb dX10_rates_1 rfl (lv_at hl 2 rfl) ?_
  refine x_callVq (As := [.int sh]) S hK hAm hD hP hS mt_X10_sheetOf wd_175 ⟨by decide, by decide⟩ (hL 0 0 (xe_0 nb nn)) (xc0 g 0) rfl (c_X10_sheetOf l nb nn g L M hD hL sh (ob_X10_rates_2_p0 nb nn town sh i M hp0 hp1)) rfl hl.1 (Nat.le_of_ble_eq_true rfl) ⟨Nat.zero_le _, Nat.zero_le _⟩ dX10_rates_2 rfl (fun r_5 u H locs hp_ hP hS => ?_)
  obtain ⟨hp_, eu_⟩ := hp_
  rw [eu_] at hP
  clear eu_
  subst hp_
  rcases o_7 : f_X10_sheetOf sh M with _ | i_6
  · replace hres := xopt_n hres o_7
    refine lv_astoreN (lv' := [(4, .null), (0, .ref (xad g 0 0)), (1, .int town), (2, .int sh), (3, .int i)]) hx hb dX10_rates_5 hl (by decide) rfl (fun ls hl => ?_)
    refine lv_iload_n hx hb dX10_rates_7 rfl (lv_at hl 2 rfl) ?_
    refine x_callSi (As := [.int town]) S hK hAm hD hP hS mt_X10_isTown wd_268 ⟨by decide, by decide⟩ (c_X10_isTown l nb nn g L M hD hL town) rfl hl.1 (Nat.le_of_ble_eq_true rfl) ⟨Nat.zero_le _, Nat.zero_le _⟩ dX10_rates_8 rfl (fun r_10 u H locs hp_ hP hS => ?_)
    obtain ⟨er_10, eu_⟩ := hp_
    rw [eu_] at hP
    clear eu_
    replace hres := xlet_n hres er_10
    refine lv_if_eq (tgt := 19) hx hb dX10_rates_11 (by decide) (fun c_11 => ?_) (fun c_11 => ?_)
    · replace hres := hres.trans (if_pos c_11)
      refine lv_ldc (own := RX10) (v := (-1000001)) hx hb hown (hts _ (List.mem_cons_of_mem _ wd_174)) dX10_rates_19 ?_
      exact x_reti hx hb hr hlk hP hS (hres.symm.trans hF) dX10_rates_21
    · replace hres := hres.trans (if_neg c_11)
      refine lv_aloadN hx hb dX10_rates_14 (lv_at hl 0 rfl) ?_
      refine lv_ifnonnullN hx hb dX10_rates_16 ?_
      refine lv_ldc (own := RX10) (v := (-1000001)) hx hb hown (hts _ (List.mem_cons_of_mem _ wd_174)) dX10_rates_19 ?_
      exact x_reti hx hb hr hlk hP hS (hres.symm.trans hF) dX10_rates_21
  · replace hres := xopt_s hres o_7
    have hq_9 := (ob_X10_rates_2_q nb nn town sh i M hp0 hp1 i_6 o_7)
    have hi_8 := hq_9.1
    refine lv_astore (lv' := [(4, .ref (xad g 24 i_6)), (0, .ref (xad g 0 0)), (1, .int town), (2, .int sh), (3, .int i)]) hx hb dX10_rates_5 hl (by decide) rfl (fun ls hl => ?_)
    refine lv_iload_n hx hb dX10_rates_7 rfl (lv_at hl 2 rfl) ?_
    refine x_callSi (As := [.int town]) S hK hAm hD hP hS mt_X10_isTown wd_268 ⟨by decide, by decide⟩ (c_X10_isTown l nb nn g L M hD hL town) rfl hl.1 (Nat.le_of_ble_eq_true rfl) ⟨Nat.zero_le _, Nat.zero_le _⟩ dX10_rates_8 rfl (fun r_12 u H locs hp_ hP hS => ?_)
    obtain ⟨er_12, eu_⟩ := hp_
    rw [eu_] at hP
    clear eu_
    replace hres := xlet_n hres er_12
    refine lv_if_eq (tgt := 19) hx hb dX10_rates_11 (by decide) (fun c_13 => ?_) (fun c_13 => ?_)
    · replace hres := hres.trans (if_pos c_13)
      refine lv_ldc (own := RX10) (v := (-1000001)) hx hb hown (hts _ (List.mem_cons_of_mem _ wd_174)) dX10_rates_19 ?_
      exact x_reti hx hb hr hlk hP hS (hres.symm.trans hF) dX10_rates_21
    · replace hres := hres.trans (if_neg c_13)
      refine lv_aload hx hb dX10_rates_14 (lv_at hl 0 rfl) ?_
      refine lv_ifnonnull (tgt := 22) hx hb dX10_rates_16 (by decide) ?_
      refine lv_aload hx hb dX10_rates_22 (lv_at hl 0 rfl) ?_
      refine x_callVi (As := []) S hK hAm hD hP hS mt_X6_isMissing wd_220 ⟨by decide, by decide⟩ (hL 24 i_6 hi_8) (xc24 g i_6) rfl (c_X6_isMissing l nb nn g L M hD hL i_6 hi_8) rfl hl.1 (Nat.le_of_ble_eq_true rfl) ⟨Nat.zero_le _, Nat.zero_le _⟩ dX10_rates_24 rfl (fun r_14 u H locs hp_ hP hS => ?_)
      obtain ⟨er_14, eu_⟩ := hp_
      rw [eu_] at hP
      clear eu_
      replace hres := xlet_n hres er_14
      refine lv_if_eq (tgt := 36) hx hb dX10_rates_27 (by decide) (fun c_15 => ?_) (fun c_15 => ?_)
      · replace hres := hres.trans (if_pos c_15)
        refine lv_aload hx hb dX10_rates_36 (lv_at hl 0 rfl) ?_
        refine lv_iload_n hx hb dX10_rates_38 rfl (lv_at hl 4 rfl) ?_
        refine lv_bipush (v := 8) hx hb dX10_rates_39 (by decide) ?_
        refine x_callVi (As := [.int i, .int 8]) S hK hAm hD hP hS mt_X6_hasPlaces wd_224 ⟨by decide, by decide⟩ (hL 24 i_6 hi_8) (xc24 g i_6) rfl (c_X6_hasPlaces l nb nn g L M hD hL i_6 i 8 hi_8) rfl hl.1 (Nat.le_of_ble_eq_true rfl) ⟨Nat.zero_le _, Nat.zero_le _⟩ dX10_rates_41 rfl (fun r_16 u H locs hp_ hP hS => ?_)
        obtain ⟨er_16, eu_⟩ := hp_
        rw [eu_] at hP
        clear eu_
        replace hres := xlet_n hres er_16
        refine lv_if_ne (tgt := 53) hx hb dX10_rates_44 (by decide) (fun c_17 => ?_) (fun c_17 => ?_)
        · replace hres := hres.trans (if_neg c_17)
          refine lv_iconst (v := 0) hx hb dX10_rates_53 (by decide) ?_
          refine lv_istore (lv' := [(5, .int 0), (4, .ref (xad g 24 i_6)), (0, .ref (xad g 0 0)), (1, .int town), (2, .int sh), (3, .int i)]) hx hb dX10_rates_54 hl (by decide) rfl (fun ls hl => ?_)
          refine k_56 i_6 hi_8 M (xmu (0 : Int32) 8 + 1) (0 : Int32) _ _ _ _ (Nat.lt_succ_self _) (ob_X10_rates_56_ini_17 nb nn town sh i M hp0 hp1 i_6 o_7 hq_9 hi_8 r_12 er_12 c_13 r_14 er_14 c_15 r_16 er_16 c_17) hres hP hS (lv_sub hl [2, 3, 4, 5, 1, 0] rfl) ?_
          clear hres hP hS hl
          intro b_18 H locs ls hiv_18 hres hP hS hl
          refine lv_aload hx hb dX10_rates_90 (lv_at hl 4 rfl) ?_
          refine gf_RX10_136 hx hb hts hown hK hP (hL 24 i_6 hi_8) dX10_rates_92 ?_
          refine lv_iload_n hx hb dX10_rates_95 rfl (lv_at hl 3 rfl) ?_
          refine lv_aload_n hx hb dX10_rates_96 rfl (lv_at hl 0 rfl) ?_
          refine gf_RX10_67 hx hb hts hown hK hP (hL 0 0 (xe_0 nb nn)) dX10_rates_97 ?_
          refine lv_iload_n hx hb dX10_rates_100 rfl (lv_at hl 1 rfl) ?_
          refine lv_bipush (v := 8) hx hb dX10_rates_101 (by decide) ?_
          refine lv_imul hx hb dX10_rates_103 ?_
          refine lv_bipush (v := 8) hx hb dX10_rates_104 (by decide) ?_
          refine x_copy hx hb hml hl.1 hts hown wd_243 wd_244 wd_245 wd_246 hK hD hP hS (hL 25 i_6 hi_8) (hL 10 0 (xe_10 nb nn)) (xc25 g i_6) (xc10 g 0) (ob_X10_rates_106_a1 nb nn town sh i M hp0 hp1 i_6 o_7 hq_9 hi_8 r_12 er_12 c_13 r_14 er_14 c_15 r_16 er_16 c_17 b_18 hiv_18) (ob_X10_rates_106_a2 nb nn town sh i M hp0 hp1 i_6 o_7 hq_9 hi_8 r_12 er_12 c_13 r_14 er_14 c_15 r_16 er_16 c_17 b_18 hiv_18) (ob_X10_rates_106_a3 nb nn town sh i M hp0 hp1 i_6 o_7 hq_9 hi_8 r_12 er_12 c_13 r_14 er_14 c_15 r_16 er_16 c_17 b_18 hiv_18) (ob_X10_rates_106_a4 nb nn town sh i M hp0 hp1 i_6 o_7 hq_9 hi_8 r_12 er_12 c_13 r_14 er_14 c_15 r_16 er_16 c_17 b_18 hiv_18) (ob_X10_rates_106_a5 nb nn town sh i M hp0 hp1 i_6 o_7 hq_9 hi_8 r_12 er_12 c_13 r_14 er_14 c_15 r_16 er_16 c_17 b_18 hiv_18) (by decide) (Nat.le_of_ble_eq_true rfl) dX10_rates_106 (fun H locs hP hS => ?_)
          obtain ⟨M_19, eM_19⟩ : ∃ z_ : xM, z_ = xrow M 10 0 (va_cpy (M 25 i_6) (M 10 0) i.toNatClampNeg (town * 8).toNatClampNeg (8 : Int32).toNatClampNeg) := ⟨_, rfl⟩
          rw [← eM_19] at hP
          replace hres := xlet_n hres eM_19
          refine lv_aload_n hx hb dX10_rates_109 rfl (lv_at hl 0 rfl) ?_
          refine lv_bipush (v := 8) hx hb dX10_rates_110 (by decide) ?_
          refine x_callVi (As := [.int 8]) S hK hAm hD hP hS mt_X10_foundNothing wd_192 ⟨by decide, by decide⟩ (hL 0 0 (xe_0 nb nn)) (xc0 g 0) rfl (c_X10_foundNothing l nb nn g L M_19 hD hL 8) rfl hl.1 (Nat.le_of_ble_eq_true rfl) ⟨Nat.zero_le _, Nat.zero_le _⟩ dX10_rates_112 rfl (fun r_20 M_21 H locs ep_ hP hS => ?_)
          replace hres := xlet2_n hres ep_
          have er_20 : r_20 = (f_X10_foundNothing 8 M_19).1 := congrArg Prod.fst ep_
          have eM_21 : M_21 = (f_X10_foundNothing 8 M_19).2 := congrArg Prod.snd ep_
          clear ep_
          exact x_reti hx hb hr hlk hP hS (hres.symm.trans hF) dX10_rates_115
        · replace hres := hres.trans (if_pos c_17)
          refine lv_aload_n hx hb dX10_rates_47 rfl (lv_at hl 1 rfl) ?_
          refine lv_iconst (v := 2) hx hb dX10_rates_48 (by decide) ?_
          refine x_callVi (As := [.int 2]) S hK hAm hD hP hS mt_X10_found wd_182 ⟨by decide, by decide⟩ (hL 0 0 (xe_0 nb nn)) (xc0 g 0) rfl (c_X10_found l nb nn g L M hD hL 2) rfl hl.1 (Nat.le_of_ble_eq_true rfl) ⟨Nat.zero_le _, Nat.zero_le _⟩ dX10_rates_49 rfl (fun r_22 M_23 H locs ep_ hP hS => ?_)
          replace hres := xlet2_n hres ep_
          have er_22 : r_22 = (f_X10_found 2 M).1 := congrArg Prod.fst ep_
          have eM_23 : M_23 = (f_X10_found 2 M).2 := congrArg Prod.snd ep_
          clear ep_
          exact x_reti hx hb hr hlk hP hS (hres.symm.trans hF) dX10_rates_52
      · replace hres := hres.trans (if_neg c_15)
        refine lv_aload_n hx hb dX10_rates_30 rfl (lv_at hl 1 rfl) ?_
        refine lv_iconst (v := 1) hx hb dX10_rates_31 (by decide) ?_
        refine x_callVi (As := [.int 1]) S hK hAm hD hP hS mt_X10_found wd_182 ⟨by decide, by decide⟩ (hL 0 0 (xe_0 nb nn)) (xc0 g 0) rfl (c_X10_found l nb nn g L M hD hL 1) rfl hl.1 (Nat.le_of_ble_eq_true rfl) ⟨Nat.zero_le _, Nat.zero_le _⟩ dX10_rates_32 rfl (fun r_24 M_25 H locs ep_ hP hS => ?_)
        replace hres := xlet2_n hres ep_
        have er_24 : r_24 = (f_X10_found 1 M).1 := congrArg Prod.fst ep_
        have eM_25 : M_25 = (f_X10_found 1 M).2 := congrArg Prod.snd ep_
        clear ep_
        exact x_reti hx hb hr hlk hP hS (hres.symm.trans hF) dX10_rates_35
