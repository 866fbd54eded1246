def f_X10_pay_L62 (fr : Int32) (to : Int32) (sum_ : Int32) (py : Nat) (tk : Nat) : Nat → Int32 → Int32 → xM → (Int32 → Int32 → xM → Int32 × xM) → Int32 × xM
  | 0, _, _, N_, _ => (0, N_)
  | n + 1, handed, turn, N_, kx => if 24 ≤ turn then kx handed turn N_ else if sum_ ≤ handed then kx handed turn N_ else xlet (f_X10_worstOffer N_) fun r_3 => xopt (f_X10_noteOf r_3 N_) (kx handed turn N_) (fun i_5 => xlet (xup N_ 9 0 (N_ 29 i_5 0).toNatClampNeg (-1)) fun M_9 => xlet (f_X4_handOn i_5 to (M_9 0 0 14) M_9) fun M_11 => xlet (handed + (M_11 29 i_5 2)) fun x6_12 => xlet (turn + 1) fun x7_13 => f_X10_pay_L62 fr to sum_ py tk n x6_12 x7_13 M_11 kx)
def f_X10_pay (fr : Int32) (to : Int32) (sum_ : Int32) (M : xM) : Int32 × xM :=
  xopt (f_X10_traderOf fr M) (xopt (f_X10_traderOf to M) (((-1000001), M)) (fun i_20 => ((-1000001), M))) (fun i_15 => xopt (f_X10_traderOf to M) (((-1000001), M)) (fun i_25 => if fr = to then ((-1000001), M) else if sum_ < 1 then ((-1000001), M) else if sum_ ≤ 999 then xlet (f_X10_offerNotes fr (M 26 i_15 0) i_25 M) fun M_33 => f_X10_pay_L62 fr to sum_ i_15 i_25 (xmu (0 : Int32) 24 + 1) (0 : Int32) (0 : Int32) M_33 (fun handed_34 turn_35 M_36 => (handed_34, M_36)) else ((-1000001), M)))
def f_X10_way_L109 (town : Int32) (sh : Int32) (i : Int32) (z : Int32) (days : Int32) (what : Int32) (sq : Nat) : Nat → Int32 → xM → (Int32 → xM → Int32 × xM) → Int32 × xM
  | 0, _, N_, _ => (0, N_)
  | n + 1, k, N_, kx => if z ≤ k then kx k N_ else xopt (f_X10_noteOf (N_ 25 sq (i + k).toNatClampNeg) N_) ((0, N_)) (fun i_3 => xlet (f_X10_tellDrover k i_3 N_) fun M_8 => xlet (k + 1) fun x8_9 => f_X10_way_L109 town sh i z days what sq n x8_9 M_8 kx)
def f_X10_way (town : Int32) (sh : Int32) (i : Int32) (z : Int32) (days : Int32) (what : Int32) (M : xM) : Int32 × xM :=
  xopt (f_X10_sheetOf sh M) (xlet (xb (f_X10_isTown town M)) fun r_15 => if r_15 = 0 then ((-1000001), M) else ((-1000001), M)) (fun i_11 => xlet (xb (f_X10_isTown town M)) fun r_17 => if r_17 = 0 then ((-1000001), M) else xlet (xb (f_X10_isUpTo what 1 M)) fun r_19 => if r_19 = 0 then ((-1000001), M) else if z < 1 then ((-1000001), M) else if 8 < z then ((-1000001), M) else if days < 1 then ((-1000001), M) else if days ≤ 6 then xlet (xb (f_X6_isMissing i_11 M)) fun r_25 => if r_25 = 0 then xlet (xb (f_X6_hasPlaces i_11 i z M)) fun r_27 => if r_27 = 0 then xlet2 (f_X10_found 2 M) fun r_40 M_41 => (r_40, M_41) else xlet (xb (f_X10_areDifferentNotes i_11 i z M)) fun r_29 => if r_29 = 0 then ((-1000001), M) else f_X10_way_L109 town sh i z days what i_11 (xmu (0 : Int32) z + 1) (0 : Int32) M (fun k_31 M_32 => xlet (f_X3_plan town z days M_32) fun M_34 => if what = 0 then xlet2 (f_X10_foundNothing (M_34 11 0 5) M_34) fun r_38 M_39 => (r_38, M_39) else xlet2 (f_X10_foundNothing (M_34 11 0 6) M_34) fun r_36 M_37 => (r_36, M_37)) else xlet2 (f_X10_found 1 M) fun r_42 M_43 => (r_42, M_43) else ((-1000001), M))
theorem ob_X10_pay_130_x62 (nb nn : Nat) (fr : Int32) (to : Int32) (sum_ : Int32) (M : xM) (hp0 : xHN nn M) (hp1 : xHB nb M) (hp2 : xHT M) (hp3 : M 4 0 4 ≤ 40) (hp4 : ∀ i : Nat, 0 ≤ M 27 i 0 ∧ M 27 i 0 ≤ 5) (hp5 : ∀ i : Nat, 0 ≤ M 26 i 0 ∧ M 26 i 0 ≤ 5) (hp6 : ∀ i : Nat, 0 ≤ M 29 i 0 ∧ M 29 i 0 < 24) (py : Nat) (hpy : py < 8) (tk : Nat) (htk : tk < 8) (n : Nat) (handed : Int32) (turn : Int32) (N_ : xM) (hmu : xmu turn 24 < n + 1) (hinv : 0 ≤ turn ∧ xHN nn N_ ∧ (∀ i : Nat, 0 ≤ N_ 29 i 0 ∧ N_ 29 i 0 < 24)) (c_1 : 24 ≤ turn) : 0 ≤ turn ∧ xHN nn N_ ∧ (∀ i : Nat, 0 ≤ N_ 29 i 0 ∧ N_ 29 i 0 < 24) := by
  subst_vars
  grind [isUpTo_eq, isTown10_eq, xb, sheetOf_s, traderOf_s, bankOf_s, noteOf_s, hasPl_eq, xup_at, xHB_o, xHN_o]
theorem ob_X10_pay_130_x62_2 (nb nn : Nat) (fr : Int32) (to : Int32) (sum_ : Int32) (M : xM) (hp0 : xHN nn M) (hp1 : xHB nb M) (hp2 : xHT M) (hp3 : M 4 0 4 ≤ 40) (hp4 : ∀ i : Nat, 0 ≤ M 27 i 0 ∧ M 27 i 0 ≤ 5) (hp5 : ∀ i : Nat, 0 ≤ M 26 i 0 ∧ M 26 i 0 ≤ 5) (hp6 : ∀ i : Nat, 0 ≤ M 29 i 0 ∧ M 29 i 0 < 24) (py : Nat) (hpy : py < 8) (tk : Nat) (htk : tk < 8) (n : Nat) (handed : Int32) (turn : Int32) (N_ : xM) (hmu : xmu turn 24 < n + 1) (hinv : 0 ≤ turn ∧ xHN nn N_ ∧ (∀ i : Nat, 0 ≤ N_ 29 i 0 ∧ N_ 29 i 0 < 24)) (c_1 : ¬ 24 ≤ turn) (c_2 : sum_ ≤ handed) : 0 ≤ turn ∧ xHN nn N_ ∧ (∀ i : Nat, 0 ≤ N_ 29 i 0 ∧ N_ 29 i 0 < 24) := by
  subst_vars
  grind [isUpTo_eq, isTown10_eq, xb, sheetOf_s, traderOf_s, bankOf_s, noteOf_s, hasPl_eq, xup_at, xHB_o, xHN_o]
theorem ob_X10_pay_80_p0 (nb nn : Nat) (fr : Int32) (to : Int32) (sum_ : Int32) (M : xM) (hp0 : xHN nn M) (hp1 : xHB nb M) (hp2 : xHT M) (hp3 : M 4 0 4 ≤ 40) (hp4 : ∀ i : Nat, 0 ≤ M 27 i 0 ∧ M 27 i 0 ≤ 5) (hp5 : ∀ i : Nat, 0 ≤ M 26 i 0 ∧ M 26 i 0 ≤ 5) (hp6 : ∀ i : Nat, 0 ≤ M 29 i 0 ∧ M 29 i 0 < 24) (py : Nat) (hpy : py < 8) (tk : Nat) (htk : tk < 8) (n : Nat) (handed : Int32) (turn : Int32) (N_ : xM) (hmu : xmu turn 24 < n + 1) (hinv : 0 ≤ turn ∧ xHN nn N_ ∧ (∀ i : Nat, 0 ≤ N_ 29 i 0 ∧ N_ 29 i 0 < 24)) (c_1 : ¬ 24 ≤ turn) (c_2 : ¬ sum_ ≤ handed) (r_3 : Int32) (er_3 : r_3 = f_X10_worstOffer N_) : xHN nn N_ := by
  subst_vars
  grind [isUpTo_eq, isTown10_eq, xb, sheetOf_s, traderOf_s, bankOf_s, noteOf_s, hasPl_eq, xup_at, xHB_o, xHN_o]
theorem ob_X10_pay_80_q (nb nn : Nat) (fr : Int32) (to : Int32) (sum_ : Int32) (M : xM) (hp0 : xHN nn M) (hp1 : xHB nb M) (hp2 : xHT M) (hp3 : M 4 0 4 ≤ 40) (hp4 : ∀ i : Nat, 0 ≤ M 27 i 0 ∧ M 27 i 0 ≤ 5) (hp5 : ∀ i : Nat, 0 ≤ M 26 i 0 ∧ M 26 i 0 ≤ 5) (hp6 : ∀ i : Nat, 0 ≤ M 29 i 0 ∧ M 29 i 0 < 24) (py : Nat) (hpy : py < 8) (tk : Nat) (htk : tk < 8) (n : Nat) (handed : Int32) (turn : Int32) (N_ : xM) (hmu : xmu turn 24 < n + 1) (hinv : 0 ≤ turn ∧ xHN nn N_ ∧ (∀ i : Nat, 0 ≤ N_ 29 i 0 ∧ N_ 29 i 0 < 24)) (c_1 : ¬ 24 ≤ turn) (c_2 : ¬ sum_ ≤ handed) (r_3 : Int32) (er_3 : r_3 = f_X10_worstOffer N_) (i_5 : Nat) (o_6 : f_X10_noteOf r_3 N_ = some i_5) : i_5 < nn ∧ 0 ≤ r_3 ∧ r_3 < 24 ∧ r_3 < N_ 0 0 13 ∧ i_5 = r_3.toNatClampNeg := by
  exact noteOf_s (nn := nn) (by first | assumption | (subst_vars; grind [xHN_o])) o_6
theorem ob_X10_pay_130_x62_3 (nb nn : Nat) (fr : Int32) (to : Int32) (sum_ : Int32) (M : xM) (hp0 : xHN nn M) (hp1 : xHB nb M) (hp2 : xHT M) (hp3 : M 4 0 4 ≤ 40) (hp4 : ∀ i : Nat, 0 ≤ M 27 i 0 ∧ M 27 i 0 ≤ 5) (hp5 : ∀ i : Nat, 0 ≤ M 26 i 0 ∧ M 26 i 0 ≤ 5) (hp6 : ∀ i : Nat, 0 ≤ M 29 i 0 ∧ M 29 i 0 < 24) (py : Nat) (hpy : py < 8) (tk : Nat) (htk : tk < 8) (n : Nat) (handed : Int32) (turn : Int32) (N_ : xM) (hmu : xmu turn 24 < n + 1) (hinv : 0 ≤ turn ∧ xHN nn N_ ∧ (∀ i : Nat, 0 ≤ N_ 29 i 0 ∧ N_ 29 i 0 < 24)) (c_1 : ¬ 24 ≤ turn) (c_2 : ¬ sum_ ≤ handed) (r_3 : Int32) (er_3 : r_3 = f_X10_worstOffer N_) (o_6 : f_X10_noteOf r_3 N_ = none) : 0 ≤ turn ∧ xHN nn N_ ∧ (∀ i : Nat, 0 ≤ N_ 29 i 0 ∧ N_ 29 i 0 < 24) := by
  subst_vars
  grind [isUpTo_eq, isTown10_eq, xb, sheetOf_s, traderOf_s, bankOf_s, noteOf_s, hasPl_eq, xup_at, xHB_o, xHN_o]
theorem ob_X10_pay_103_in (nb nn : Nat) (fr : Int32) (to : Int32) (sum_ : Int32) (M : xM) (hp0 : xHN nn M) (hp1 : xHB nb M) (hp2 : xHT M) (hp3 : M 4 0 4 ≤ 40) (hp4 : ∀ i : Nat, 0 ≤ M 27 i 0 ∧ M 27 i 0 ≤ 5) (hp5 : ∀ i : Nat, 0 ≤ M 26 i 0 ∧ M 26 i 0 ≤ 5) (hp6 : ∀ i : Nat, 0 ≤ M 29 i 0 ∧ M 29 i 0 < 24) (py : Nat) (hpy : py < 8) (tk : Nat) (htk : tk < 8) (n : Nat) (handed : Int32) (turn : Int32) (N_ : xM) (hmu : xmu turn 24 < n + 1) (hinv : 0 ≤ turn ∧ xHN nn N_ ∧ (∀ i : Nat, 0 ≤ N_ 29 i 0 ∧ N_ 29 i 0 < 24)) (c_1 : ¬ 24 ≤ turn) (c_2 : ¬ sum_ ≤ handed) (r_3 : Int32) (er_3 : r_3 = f_X10_worstOffer N_) (i_5 : Nat) (o_6 : f_X10_noteOf r_3 N_ = some i_5) (hq_8 : i_5 < nn ∧ 0 ≤ r_3 ∧ r_3 < 24 ∧ r_3 < N_ 0 0 13 ∧ i_5 = r_3.toNatClampNeg) (hi_7 : i_5 < nn) : vp_in (N_ 29 i_5 0) 24 := by
  subst_vars
  exact xin (N := 24) (by grind [isUpTo_eq, isTown10_eq, xb, sheetOf_s, traderOf_s, bankOf_s, noteOf_s, hasPl_eq, xup_at, xHB_o, xHN_o]) (by grind [isUpTo_eq, isTown10_eq, xb, sheetOf_s, traderOf_s, bankOf_s, noteOf_s, hasPl_eq, xup_at, xHB_o, xHN_o]) (by decide)
theorem ob_X10_pay_62_mu_13 (nb nn : Nat) (fr : Int32) (to : Int32) (sum_ : Int32) (M : xM) (hp0 : xHN nn M) (hp1 : xHB nb M) (hp2 : xHT M) (hp3 : M 4 0 4 ≤ 40) (hp4 : ∀ i : Nat, 0 ≤ M 27 i 0 ∧ M 27 i 0 ≤ 5) (hp5 : ∀ i : Nat, 0 ≤ M 26 i 0 ∧ M 26 i 0 ≤ 5) (hp6 : ∀ i : Nat, 0 ≤ M 29 i 0 ∧ M 29 i 0 < 24) (py : Nat) (hpy : py < 8) (tk : Nat) (htk : tk < 8) (n : Nat) (handed : Int32) (turn : Int32) (N_ : xM) (hmu : xmu turn 24 < n + 1) (hinv : 0 ≤ turn ∧ xHN nn N_ ∧ (∀ i : Nat, 0 ≤ N_ 29 i 0 ∧ N_ 29 i 0 < 24)) (c_1 : ¬ 24 ≤ turn) (c_2 : ¬ sum_ ≤ handed) (r_3 : Int32) (er_3 : r_3 = f_X10_worstOffer N_) (i_5 : Nat) (o_6 : f_X10_noteOf r_3 N_ = some i_5) (hq_8 : i_5 < nn ∧ 0 ≤ r_3 ∧ r_3 < 24 ∧ r_3 < N_ 0 0 13 ∧ i_5 = r_3.toNatClampNeg) (hi_7 : i_5 < nn) (M_9 : xM) (eM_9 : M_9 = xup N_ 9 0 (N_ 29 i_5 0).toNatClampNeg (-1)) (M_11 : xM) (eM_11 : M_11 = f_X4_handOn i_5 to (M_9 0 0 14) M_9) (x6_12 : Int32) (ex6_12 : x6_12 = (handed + (M_11 29 i_5 2))) (x7_13 : Int32) (ex7_13 : x7_13 = turn + 1) : xmu x7_13 24 < n := by
  subst_vars
  have h9 := xmu_up (a := turn) (b := 24) (by grind)
  (try simp [xup_at])
  omega
theorem ob_X10_pay_62_inv_13 (nb nn : Nat) (fr : Int32) (to : Int32) (sum_ : Int32) (M : xM) (hp0 : xHN nn M) (hp1 : xHB nb M) (hp2 : xHT M) (hp3 : M 4 0 4 ≤ 40) (hp4 : ∀ i : Nat, 0 ≤ M 27 i 0 ∧ M 27 i 0 ≤ 5) (hp5 : ∀ i : Nat, 0 ≤ M 26 i 0 ∧ M 26 i 0 ≤ 5) (hp6 : ∀ i : Nat, 0 ≤ M 29 i 0 ∧ M 29 i 0 < 24) (py : Nat) (hpy : py < 8) (tk : Nat) (htk : tk < 8) (n : Nat) (handed : Int32) (turn : Int32) (N_ : xM) (hmu : xmu turn 24 < n + 1) (hinv : 0 ≤ turn ∧ xHN nn N_ ∧ (∀ i : Nat, 0 ≤ N_ 29 i 0 ∧ N_ 29 i 0 < 24)) (c_1 : ¬ 24 ≤ turn) (c_2 : ¬ sum_ ≤ handed) (r_3 : Int32) (er_3 : r_3 = f_X10_worstOffer N_) (i_5 : Nat) (o_6 : f_X10_noteOf r_3 N_ = some i_5) (hq_8 : i_5 < nn ∧ 0 ≤ r_3 ∧ r_3 < 24 ∧ r_3 < N_ 0 0 13 ∧ i_5 = r_3.toNatClampNeg) (hi_7 : i_5 < nn) (M_9 : xM) (eM_9 : M_9 = xup N_ 9 0 (N_ 29 i_5 0).toNatClampNeg (-1)) (M_11 : xM) (eM_11 : M_11 = f_X4_handOn i_5 to (M_9 0 0 14) M_9) (x6_12 : Int32) (ex6_12 : x6_12 = (handed + (M_11 29 i_5 2))) (x7_13 : Int32) (ex7_13 : x7_13 = turn + 1) : 0 ≤ x7_13 ∧ xHN nn M_11 ∧ (∀ i : Nat, 0 ≤ M_11 29 i 0 ∧ M_11 29 i 0 < 24) := by
  subst eM_9
  subst eM_11
  refine ⟨by grind, xHN_hand (xHN_o (by decide) (by decide) hinv.2.1), fun i => ?_⟩
  rw [handOn_o (by omega) (by decide) (by decide), xup_k (by decide)]
  exact hinv.2.2 i
theorem ob_X10_pay_2_p0 (nb nn : Nat) (fr : Int32) (to : Int32) (sum_ : Int32) (M : xM) (hp0 : xHN nn M) (hp1 : xHB nb M) (hp2 : xHT M) (hp3 : M 4 0 4 ≤ 40) (hp4 : ∀ i : Nat, 0 ≤ M 27 i 0 ∧ M 27 i 0 ≤ 5) (hp5 : ∀ i : Nat, 0 ≤ M 26 i 0 ∧ M 26 i 0 ≤ 5) (hp6 : ∀ i : Nat, 0 ≤ M 29 i 0 ∧ M 29 i 0 < 24) : xHT M := by
  subst_vars
  grind [isUpTo_eq, isTown10_eq, xb, sheetOf_s, traderOf_s, bankOf_s, noteOf_s, hasPl_eq, xup_at, xHB_o, xHN_o]
theorem ob_X10_pay_2_q (nb nn : Nat) (fr : Int32) (to : Int32) (sum_ : Int32) (M : xM) (hp0 : xHN nn M) (hp1 : xHB nb M) (hp2 : xHT M) (hp3 : M 4 0 4 ≤ 40) (hp4 : ∀ i : Nat, 0 ≤ M 27 i 0 ∧ M 27 i 0 ≤ 5) (hp5 : ∀ i : Nat, 0 ≤ M 26 i 0 ∧ M 26 i 0 ≤ 5) (hp6 : ∀ i : Nat, 0 ≤ M 29 i 0 ∧ M 29 i 0 < 24) (i_15 : Nat) (o_16 : f_X10_traderOf fr M = some i_15) : i_15 < 8 ∧ 0 ≤ fr ∧ fr ≤ 7 ∧ i_15 = fr.toNatClampNeg := by
  exact traderOf_s o_16
theorem ob_X10_pay_9_p0 (nb nn : Nat) (fr : Int32) (to : Int32) (sum_ : Int32) (M : xM) (hp0 : xHN nn M) (hp1 : xHB nb M) (hp2 : xHT M) (hp3 : M 4 0 4 ≤ 40) (hp4 : ∀ i : Nat, 0 ≤ M 27 i 0 ∧ M 27 i 0 ≤ 5) (hp5 : ∀ i : Nat, 0 ≤ M 26 i 0 ∧ M 26 i 0 ≤ 5) (hp6 : ∀ i : Nat, 0 ≤ M 29 i 0 ∧ M 29 i 0 < 24) (o_16 : f_X10_traderOf fr M = none) : xHT M := by
  subst_vars
  grind [isUpTo_eq, isTown10_eq, xb, sheetOf_s, traderOf_s, bankOf_s, noteOf_s, hasPl_eq, xup_at, xHB_o, xHN_o]
theorem ob_X10_pay_9_q (nb nn : Nat) (fr : Int32) (to : Int32) (sum_ : Int32) (M : xM) (hp0 : xHN nn M) (hp1 : xHB nb M) (hp2 : xHT M) (hp3 : M 4 0 4 ≤ 40) (hp4 : ∀ i : Nat, 0 ≤ M 27 i 0 ∧ M 27 i 0 ≤ 5) (hp5 : ∀ i : Nat, 0 ≤ M 26 i 0 ∧ M 26 i 0 ≤ 5) (hp6 : ∀ i : Nat, 0 ≤ M 29 i 0 ∧ M 29 i 0 < 24) (o_16 : f_X10_traderOf fr M = none) (i_20 : Nat) (o_21 : f_X10_traderOf to M = some i_20) : i_20 < 8 ∧ 0 ≤ to ∧ to ≤ 7 ∧ i_20 = to.toNatClampNeg := by
  exact traderOf_s o_21
theorem ob_X10_pay_9_p0_2 (nb nn : Nat) (fr : Int32) (to : Int32) (sum_ : Int32) (M : xM) (hp0 : xHN nn M) (hp1 : xHB nb M) (hp2 : xHT M) (hp3 : M 4 0 4 ≤ 40) (hp4 : ∀ i : Nat, 0 ≤ M 27 i 0 ∧ M 27 i 0 ≤ 5) (hp5 : ∀ i : Nat, 0 ≤ M 26 i 0 ∧ M 26 i 0 ≤ 5) (hp6 : ∀ i : Nat, 0 ≤ M 29 i 0 ∧ M 29 i 0 < 24) (i_15 : Nat) (o_16 : f_X10_traderOf fr M = some i_15) (hq_18 : i_15 < 8 ∧ 0 ≤ fr ∧ fr ≤ 7 ∧ i_15 = fr.toNatClampNeg) (hi_17 : i_15 < 8) : xHT M := by
  subst_vars
  grind [isUpTo_eq, isTown10_eq, xb, sheetOf_s, traderOf_s, bankOf_s, noteOf_s, hasPl_eq, xup_at, xHB_o, xHN_o]
theorem ob_X10_pay_9_q_2 (nb nn : Nat) (fr : Int32) (to : Int32) (sum_ : Int32) (M : xM) (hp0 : xHN nn M) (hp1 : xHB nb M) (hp2 : xHT M) (hp3 : M 4 0 4 ≤ 40) (hp4 : ∀ i : Nat, 0 ≤ M 27 i 0 ∧ M 27 i 0 ≤ 5) (hp5 : ∀ i : Nat, 0 ≤ M 26 i 0 ∧ M 26 i 0 ≤ 5) (hp6 : ∀ i : Nat, 0 ≤ M 29 i 0 ∧ M 29 i 0 < 24) (i_15 : Nat) (o_16 : f_X10_traderOf fr M = some i_15) (hq_18 : i_15 < 8 ∧ 0 ≤ fr ∧ fr ≤ 7 ∧ i_15 = fr.toNatClampNeg) (hi_17 : i_15 < 8) (i_25 : Nat) (o_26 : f_X10_traderOf to M = some i_25) : i_25 < 8 ∧ 0 ≤ to ∧ to ≤ 7 ∧ i_25 = to.toNatClampNeg := by
  exact traderOf_s o_26
theorem ob_X10_pay_53_p0 (nb nn : Nat) (fr : Int32) (to : Int32) (sum_ : Int32) (M : xM) (hp0 : xHN nn M) (hp1 : xHB nb M) (hp2 : xHT M) (hp3 : M 4 0 4 ≤ 40) (hp4 : ∀ i : Nat, 0 ≤ M 27 i 0 ∧ M 27 i 0 ≤ 5) (hp5 : ∀ i : Nat, 0 ≤ M 26 i 0 ∧ M 26 i 0 ≤ 5) (hp6 : ∀ i : Nat, 0 ≤ M 29 i 0 ∧ M 29 i 0 < 24) (i_15 : Nat) (o_16 : f_X10_traderOf fr M = some i_15) (hq_18 : i_15 < 8 ∧ 0 ≤ fr ∧ fr ≤ 7 ∧ i_15 = fr.toNatClampNeg) (hi_17 : i_15 < 8) (i_25 : Nat) (o_26 : f_X10_traderOf to M = some i_25) (hq_28 : i_25 < 8 ∧ 0 ≤ to ∧ to ≤ 7 ∧ i_25 = to.toNatClampNeg) (hi_27 : i_25 < 8) (c_29 : ¬ fr = to) (c_30 : ¬ sum_ < 1) (c_31 : sum_ ≤ 999) : xHN nn M := by
  subst_vars
  grind [isUpTo_eq, isTown10_eq, xb, sheetOf_s, traderOf_s, bankOf_s, noteOf_s, hasPl_eq, xup_at, xHB_o, xHN_o]
theorem ob_X10_pay_53_p1 (nb nn : Nat) (fr : Int32) (to : Int32) (sum_ : Int32) (M : xM) (hp0 : xHN nn M) (hp1 : xHB nb M) (hp2 : xHT M) (hp3 : M 4 0 4 ≤ 40) (hp4 : ∀ i : Nat, 0 ≤ M 27 i 0 ∧ M 27 i 0 ≤ 5) (hp5 : ∀ i : Nat, 0 ≤ M 26 i 0 ∧ M 26 i 0 ≤ 5) (hp6 : ∀ i : Nat, 0 ≤ M 29 i 0 ∧ M 29 i 0 < 24) (i_15 : Nat) (o_16 : f_X10_traderOf fr M = some i_15) (hq_18 : i_15 < 8 ∧ 0 ≤ fr ∧ fr ≤ 7 ∧ i_15 = fr.toNatClampNeg) (hi_17 : i_15 < 8) (i_25 : Nat) (o_26 : f_X10_traderOf to M = some i_25) (hq_28 : i_25 < 8 ∧ 0 ≤ to ∧ to ≤ 7 ∧ i_25 = to.toNatClampNeg) (hi_27 : i_25 < 8) (c_29 : ¬ fr = to) (c_30 : ¬ sum_ < 1) (c_31 : sum_ ≤ 999) : xHB nb M := by
  subst_vars
  grind [isUpTo_eq, isTown10_eq, xb, sheetOf_s, traderOf_s, bankOf_s, noteOf_s, hasPl_eq, xup_at, xHB_o, xHN_o]
theorem ob_X10_pay_53_p2 (nb nn : Nat) (fr : Int32) (to : Int32) (sum_ : Int32) (M : xM) (hp0 : xHN nn M) (hp1 : xHB nb M) (hp2 : xHT M) (hp3 : M 4 0 4 ≤ 40) (hp4 : ∀ i : Nat, 0 ≤ M 27 i 0 ∧ M 27 i 0 ≤ 5) (hp5 : ∀ i : Nat, 0 ≤ M 26 i 0 ∧ M 26 i 0 ≤ 5) (hp6 : ∀ i : Nat, 0 ≤ M 29 i 0 ∧ M 29 i 0 < 24) (i_15 : Nat) (o_16 : f_X10_traderOf fr M = some i_15) (hq_18 : i_15 < 8 ∧ 0 ≤ fr ∧ fr ≤ 7 ∧ i_15 = fr.toNatClampNeg) (hi_17 : i_15 < 8) (i_25 : Nat) (o_26 : f_X10_traderOf to M = some i_25) (hq_28 : i_25 < 8 ∧ 0 ≤ to ∧ to ≤ 7 ∧ i_25 = to.toNatClampNeg) (hi_27 : i_25 < 8) (c_29 : ¬ fr = to) (c_30 : ¬ sum_ < 1) (c_31 : sum_ ≤ 999) : M 4 0 4 ≤ 40 := by
  subst_vars
  grind [isUpTo_eq, isTown10_eq, xb, sheetOf_s, traderOf_s, bankOf_s, noteOf_s, hasPl_eq, xup_at, xHB_o, xHN_o]
theorem ob_X10_pay_53_p3 (nb nn : Nat) (fr : Int32) (to : Int32) (sum_ : Int32) (M : xM) (hp0 : xHN nn M) (hp1 : xHB nb M) (hp2 : xHT M) (hp3 : M 4 0 4 ≤ 40) (hp4 : ∀ i : Nat, 0 ≤ M 27 i 0 ∧ M 27 i 0 ≤ 5) (hp5 : ∀ i : Nat, 0 ≤ M 26 i 0 ∧ M 26 i 0 ≤ 5) (hp6 : ∀ i : Nat, 0 ≤ M 29 i 0 ∧ M 29 i 0 < 24) (i_15 : Nat) (o_16 : f_X10_traderOf fr M = some i_15) (hq_18 : i_15 < 8 ∧ 0 ≤ fr ∧ fr ≤ 7 ∧ i_15 = fr.toNatClampNeg) (hi_17 : i_15 < 8) (i_25 : Nat) (o_26 : f_X10_traderOf to M = some i_25) (hq_28 : i_25 < 8 ∧ 0 ≤ to ∧ to ≤ 7 ∧ i_25 = to.toNatClampNeg) (hi_27 : i_25 < 8) (c_29 : ¬ fr = to) (c_30 : ¬ sum_ < 1) (c_31 : sum_ ≤ 999) : ∀ i : Nat, 0 ≤ M 27 i 0 ∧ M 27 i 0 ≤ 5 := by
  subst_vars
  grind [isUpTo_eq, isTown10_eq, xb, sheetOf_s, traderOf_s, bankOf_s, noteOf_s, hasPl_eq, xup_at, xHB_o, xHN_o]
theorem ob_X10_pay_53_p4 (nb nn : Nat) (fr : Int32) (to : Int32) (sum_ : Int32) (M : xM) (hp0 : xHN nn M) (hp1 : xHB nb M) (hp2 : xHT M) (hp3 : M 4 0 4 ≤ 40) (hp4 : ∀ i : Nat, 0 ≤ M 27 i 0 ∧ M 27 i 0 ≤ 5) (hp5 : ∀ i : Nat, 0 ≤ M 26 i 0 ∧ M 26 i 0 ≤ 5) (hp6 : ∀ i : Nat, 0 ≤ M 29 i 0 ∧ M 29 i 0 < 24) (i_15 : Nat) (o_16 : f_X10_traderOf fr M = some i_15) (hq_18 : i_15 < 8 ∧ 0 ≤ fr ∧ fr ≤ 7 ∧ i_15 = fr.toNatClampNeg) (hi_17 : i_15 < 8) (i_25 : Nat) (o_26 : f_X10_traderOf to M = some i_25) (hq_28 : i_25 < 8 ∧ 0 ≤ to ∧ to ≤ 7 ∧ i_25 = to.toNatClampNeg) (hi_27 : i_25 < 8) (c_29 : ¬ fr = to) (c_30 : ¬ sum_ < 1) (c_31 : sum_ ≤ 999) : ∀ i : Nat, 0 ≤ M 26 i 0 ∧ M 26 i 0 ≤ 5 := by
  subst_vars
  grind [isUpTo_eq, isTown10_eq, xb, sheetOf_s, traderOf_s, bankOf_s, noteOf_s, hasPl_eq, xup_at, xHB_o, xHN_o]
theorem ob_X10_pay_53_p5 (nb nn : Nat) (fr : Int32) (to : Int32) (sum_ : Int32) (M : xM) (hp0 : xHN nn M) (hp1 : xHB nb M) (hp2 : xHT M) (hp3 : M 4 0 4 ≤ 40) (hp4 : ∀ i : Nat, 0 ≤ M 27 i 0 ∧ M 27 i 0 ≤ 5) (hp5 : ∀ i : Nat, 0 ≤ M 26 i 0 ∧ M 26 i 0 ≤ 5) (hp6 : ∀ i : Nat, 0 ≤ M 29 i 0 ∧ M 29 i 0 < 24) (i_15 : Nat) (o_16 : f_X10_traderOf fr M = some i_15) (hq_18 : i_15 < 8 ∧ 0 ≤ fr ∧ fr ≤ 7 ∧ i_15 = fr.toNatClampNeg) (hi_17 : i_15 < 8) (i_25 : Nat) (o_26 : f_X10_traderOf to M = some i_25) (hq_28 : i_25 < 8 ∧ 0 ≤ to ∧ to ≤ 7 ∧ i_25 = to.toNatClampNeg) (hi_27 : i_25 < 8) (c_29 : ¬ fr = to) (c_30 : ¬ sum_ < 1) (c_31 : sum_ ≤ 999) : 0 ≤ (M 26 i_15 0) := by
  subst_vars
  grind [isUpTo_eq, isTown10_eq, xb, sheetOf_s, traderOf_s, bankOf_s, noteOf_s, hasPl_eq, xup_at, xHB_o, xHN_o]
theorem ob_X10_pay_53_p6 (nb nn : Nat) (fr : Int32) (to : Int32) (sum_ : Int32) (M : xM) (hp0 : xHN nn M) (hp1 : xHB nb M) (hp2 : xHT M) (hp3 : M 4 0 4 ≤ 40) (hp4 : ∀ i : Nat, 0 ≤ M 27 i 0 ∧ M 27 i 0 ≤ 5) (hp5 : ∀ i : Nat, 0 ≤ M 26 i 0 ∧ M 26 i 0 ≤ 5) (hp6 : ∀ i : Nat, 0 ≤ M 29 i 0 ∧ M 29 i 0 < 24) (i_15 : Nat) (o_16 : f_X10_traderOf fr M = some i_15) (hq_18 : i_15 < 8 ∧ 0 ≤ fr ∧ fr ≤ 7 ∧ i_15 = fr.toNatClampNeg) (hi_17 : i_15 < 8) (i_25 : Nat) (o_26 : f_X10_traderOf to M = some i_25) (hq_28 : i_25 < 8 ∧ 0 ≤ to ∧ to ≤ 7 ∧ i_25 = to.toNatClampNeg) (hi_27 : i_25 < 8) (c_29 : ¬ fr = to) (c_30 : ¬ sum_ < 1) (c_31 : sum_ ≤ 999) : (M 26 i_15 0) ≤ 5 := by
  subst_vars
  grind [isUpTo_eq, isTown10_eq, xb, sheetOf_s, traderOf_s, bankOf_s, noteOf_s, hasPl_eq, xup_at, xHB_o, xHN_o]
theorem ob_X10_pay_62_ini_33 (nb nn : Nat) (fr : Int32) (to : Int32) (sum_ : Int32) (M : xM) (hp0 : xHN nn M) (hp1 : xHB nb M) (hp2 : xHT M) (hp3 : M 4 0 4 ≤ 40) (hp4 : ∀ i : Nat, 0 ≤ M 27 i 0 ∧ M 27 i 0 ≤ 5) (hp5 : ∀ i : Nat, 0 ≤ M 26 i 0 ∧ M 26 i 0 ≤ 5) (hp6 : ∀ i : Nat, 0 ≤ M 29 i 0 ∧ M 29 i 0 < 24) (i_15 : Nat) (o_16 : f_X10_traderOf fr M = some i_15) (hq_18 : i_15 < 8 ∧ 0 ≤ fr ∧ fr ≤ 7 ∧ i_15 = fr.toNatClampNeg) (hi_17 : i_15 < 8) (i_25 : Nat) (o_26 : f_X10_traderOf to M = some i_25) (hq_28 : i_25 < 8 ∧ 0 ≤ to ∧ to ≤ 7 ∧ i_25 = to.toNatClampNeg) (hi_27 : i_25 < 8) (c_29 : ¬ fr = to) (c_30 : ¬ sum_ < 1) (c_31 : sum_ ≤ 999) (M_33 : xM) (eM_33 : M_33 = f_X10_offerNotes fr (M 26 i_15 0) i_25 M) : 0 ≤ (0 : Int32) ∧ xHN nn M_33 ∧ (∀ i : Nat, 0 ≤ M_33 29 i 0 ∧ M_33 29 i 0 < 24) := by
  subst eM_33
  have f9 := fun a b => offer_fr fr a b M
  refine ⟨by decide, xHN_fr (by decide) (by decide) (f9 _ _) hp0, fun i => ?_⟩
  rw [f9 _ _ 29 i 0 (by decide)]
  exact hp6 i
theorem ob_X10_way_142_x109 (nb nn : Nat) (town : Int32) (sh : Int32) (i : Int32) (z : Int32) (days : Int32) (what : Int32) (M : xM) (hp0 : xHN nn M) (hp1 : xHS M) (hp2 : ∀ i : Nat, 0 ≤ M 24 i 2 ∧ M 24 i 2 ≤ 60) (hp3 : ∀ i : Nat, 0 ≤ M 29 i 1 ∧ M 29 i 1 ≤ 7) (sq : Nat) (hsq : sq < 8) (n : Nat) (k : Int32) (N_ : xM) (hmu : xmu k z < n + 1) (hinv : 0 ≤ k ∧ xHN nn N_ ∧ (∀ i : Nat, 0 ≤ N_ 29 i 1 ∧ N_ 29 i 1 ≤ 7) ∧ difs N_ sq i z ∧ 0 ≤ i ∧ i ≤ 60 ∧ 1 ≤ z ∧ z ≤ 8 ∧ i + z ≤ 60) (c_1 : z ≤ k) : 1 ≤ z := by
  subst_vars
  grind [isUpTo_eq, isTown10_eq, xb, sheetOf_s, traderOf_s, bankOf_s, noteOf_s, hasPl_eq, xup_at, xHB_o, xHN_o]
theorem ob_X10_way_129_in (nb nn : Nat) (town : Int32) (sh : Int32) (i : Int32) (z : Int32) (days : Int32) (what : Int32) (M : xM) (hp0 : xHN nn M) (hp1 : xHS M) (hp2 : ∀ i : Nat, 0 ≤ M 24 i 2 ∧ M 24 i 2 ≤ 60) (hp3 : ∀ i : Nat, 0 ≤ M 29 i 1 ∧ M 29 i 1 ≤ 7) (sq : Nat) (hsq : sq < 8) (n : Nat) (k : Int32) (N_ : xM) (hmu : xmu k z < n + 1) (hinv : 0 ≤ k ∧ xHN nn N_ ∧ (∀ i : Nat, 0 ≤ N_ 29 i 1 ∧ N_ 29 i 1 ≤ 7) ∧ difs N_ sq i z ∧ 0 ≤ i ∧ i ≤ 60 ∧ 1 ≤ z ∧ z ≤ 8 ∧ i + z ≤ 60) (c_1 : ¬ z ≤ k) : vp_in (i + k) 60 := by
  subst_vars
  exact xin (N := 60) (by grind [isUpTo_eq, isTown10_eq, xb, sheetOf_s, traderOf_s, bankOf_s, noteOf_s, hasPl_eq, xup_at, xHB_o, xHN_o]) (by grind [isUpTo_eq, isTown10_eq, xb, sheetOf_s, traderOf_s, bankOf_s, noteOf_s, hasPl_eq, xup_at, xHB_o, xHN_o]) (by decide)
theorem ob_X10_way_130_p0 (nb nn : Nat) (town : Int32) (sh : Int32) (i : Int32) (z : Int32) (days : Int32) (what : Int32) (M : xM) (hp0 : xHN nn M) (hp1 : xHS M) (hp2 : ∀ i : Nat, 0 ≤ M 24 i 2 ∧ M 24 i 2 ≤ 60) (hp3 : ∀ i : Nat, 0 ≤ M 29 i 1 ∧ M 29 i 1 ≤ 7) (sq : Nat) (hsq : sq < 8) (n : Nat) (k : Int32) (N_ : xM) (hmu : xmu k z < n + 1) (hinv : 0 ≤ k ∧ xHN nn N_ ∧ (∀ i : Nat, 0 ≤ N_ 29 i 1 ∧ N_ 29 i 1 ≤ 7) ∧ difs N_ sq i z ∧ 0 ≤ i ∧ i ≤ 60 ∧ 1 ≤ z ∧ z ≤ 8 ∧ i + z ≤ 60) (c_1 : ¬ z ≤ k) : xHN nn N_ := by
  subst_vars
  grind [isUpTo_eq, isTown10_eq, xb, sheetOf_s, traderOf_s, bankOf_s, noteOf_s, hasPl_eq, xup_at, xHB_o, xHN_o]
theorem ob_X10_way_130_q (nb nn : Nat) (town : Int32) (sh : Int32) (i : Int32) (z : Int32) (days : Int32) (what : Int32) (M : xM) (hp0 : xHN nn M) (hp1 : xHS M) (hp2 : ∀ i : Nat, 0 ≤ M 24 i 2 ∧ M 24 i 2 ≤ 60) (hp3 : ∀ i : Nat, 0 ≤ M 29 i 1 ∧ M 29 i 1 ≤ 7) (sq : Nat) (hsq : sq < 8) (n : Nat) (k : Int32) (N_ : xM) (hmu : xmu k z < n + 1) (hinv : 0 ≤ k ∧ xHN nn N_ ∧ (∀ i : Nat, 0 ≤ N_ 29 i 1 ∧ N_ 29 i 1 ≤ 7) ∧ difs N_ sq i z ∧ 0 ≤ i ∧ i ≤ 60 ∧ 1 ≤ z ∧ z ≤ 8 ∧ i + z ≤ 60) (c_1 : ¬ z ≤ k) (i_3 : Nat) (o_4 : f_X10_noteOf (N_ 25 sq (i + k).toNatClampNeg) N_ = some i_3) : i_3 < nn ∧ 0 ≤ (N_ 25 sq (i + k).toNatClampNeg) ∧ (N_ 25 sq (i + k).toNatClampNeg) < 24 ∧ (N_ 25 sq (i + k).toNatClampNeg) < N_ 0 0 13 ∧ i_3 = (N_ 25 sq (i + k).toNatClampNeg).toNatClampNeg := by
  exact noteOf_s (nn := nn) (by first | assumption | (subst_vars; grind [xHN_o])) o_4
theorem ob_X10_way_133_p0 (nb nn : Nat) (town : Int32) (sh : Int32) (i : Int32) (z : Int32) (days : Int32) (what : Int32) (M : xM) (hp0 : xHN nn M) (hp1 : xHS M) (hp2 : ∀ i : Nat, 0 ≤ M 24 i 2 ∧ M 24 i 2 ≤ 60) (hp3 : ∀ i : Nat, 0 ≤ M 29 i 1 ∧ M 29 i 1 ≤ 7) (sq : Nat) (hsq : sq < 8) (n : Nat) (k : Int32) (N_ : xM) (hmu : xmu k z < n + 1) (hinv : 0 ≤ k ∧ xHN nn N_ ∧ (∀ i : Nat, 0 ≤ N_ 29 i 1 ∧ N_ 29 i 1 ≤ 7) ∧ difs N_ sq i z ∧ 0 ≤ i ∧ i ≤ 60 ∧ 1 ≤ z ∧ z ≤ 8 ∧ i + z ≤ 60) (c_1 : ¬ z ≤ k) (i_3 : Nat) (o_4 : f_X10_noteOf (N_ 25 sq (i + k).toNatClampNeg) N_ = some i_3) (hq_6 : i_3 < nn ∧ 0 ≤ (N_ 25 sq (i + k).toNatClampNeg) ∧ (N_ 25 sq (i + k).toNatClampNeg) < 24 ∧ (N_ 25 sq (i + k).toNatClampNeg) < N_ 0 0 13 ∧ i_3 = (N_ 25 sq (i + k).toNatClampNeg).toNatClampNeg) (hi_5 : i_3 < nn) : 0 ≤ k := by
  subst_vars
  grind [isUpTo_eq, isTown10_eq, xb, sheetOf_s, traderOf_s, bankOf_s, noteOf_s, hasPl_eq, xup_at, xHB_o, xHN_o]
theorem ob_X10_way_133_p1 (nb nn : Nat) (town : Int32) (sh : Int32) (i : Int32) (z : Int32) (days : Int32) (what : Int32) (M : xM) (hp0 : xHN nn M) (hp1 : xHS M) (hp2 : ∀ i : Nat, 0 ≤ M 24 i 2 ∧ M 24 i 2 ≤ 60) (hp3 : ∀ i : Nat, 0 ≤ M 29 i 1 ∧ M 29 i 1 ≤ 7) (sq : Nat) (hsq : sq < 8) (n : Nat) (k : Int32) (N_ : xM) (hmu : xmu k z < n + 1) (hinv : 0 ≤ k ∧ xHN nn N_ ∧ (∀ i : Nat, 0 ≤ N_ 29 i 1 ∧ N_ 29 i 1 ≤ 7) ∧ difs N_ sq i z ∧ 0 ≤ i ∧ i ≤ 60 ∧ 1 ≤ z ∧ z ≤ 8 ∧ i + z ≤ 60) (c_1 : ¬ z ≤ k) (i_3 : Nat) (o_4 : f_X10_noteOf (N_ 25 sq (i + k).toNatClampNeg) N_ = some i_3) (hq_6 : i_3 < nn ∧ 0 ≤ (N_ 25 sq (i + k).toNatClampNeg) ∧ (N_ 25 sq (i + k).toNatClampNeg) < 24 ∧ (N_ 25 sq (i + k).toNatClampNeg) < N_ 0 0 13 ∧ i_3 = (N_ 25 sq (i + k).toNatClampNeg).toNatClampNeg) (hi_5 : i_3 < nn) : k < 8 := by
  subst_vars
  grind [isUpTo_eq, isTown10_eq, xb, sheetOf_s, traderOf_s, bankOf_s, noteOf_s, hasPl_eq, xup_at, xHB_o, xHN_o]
theorem ob_X10_way_133_p2 (nb nn : Nat) (town : Int32) (sh : Int32) (i : Int32) (z : Int32) (days : Int32) (what : Int32) (M : xM) (hp0 : xHN nn M) (hp1 : xHS M) (hp2 : ∀ i : Nat, 0 ≤ M 24 i 2 ∧ M 24 i 2 ≤ 60) (hp3 : ∀ i : Nat, 0 ≤ M 29 i 1 ∧ M 29 i 1 ≤ 7) (sq : Nat) (hsq : sq < 8) (n : Nat) (k : Int32) (N_ : xM) (hmu : xmu k z < n + 1) (hinv : 0 ≤ k ∧ xHN nn N_ ∧ (∀ i : Nat, 0 ≤ N_ 29 i 1 ∧ N_ 29 i 1 ≤ 7) ∧ difs N_ sq i z ∧ 0 ≤ i ∧ i ≤ 60 ∧ 1 ≤ z ∧ z ≤ 8 ∧ i + z ≤ 60) (c_1 : ¬ z ≤ k) (i_3 : Nat) (o_4 : f_X10_noteOf (N_ 25 sq (i + k).toNatClampNeg) N_ = some i_3) (hq_6 : i_3 < nn ∧ 0 ≤ (N_ 25 sq (i + k).toNatClampNeg) ∧ (N_ 25 sq (i + k).toNatClampNeg) < 24 ∧ (N_ 25 sq (i + k).toNatClampNeg) < N_ 0 0 13 ∧ i_3 = (N_ 25 sq (i + k).toNatClampNeg).toNatClampNeg) (hi_5 : i_3 < nn) : ∀ i : Nat, 0 ≤ N_ 29 i 1 ∧ N_ 29 i 1 ≤ 7 := by
  subst_vars
  grind [isUpTo_eq, isTown10_eq, xb, sheetOf_s, traderOf_s, bankOf_s, noteOf_s, hasPl_eq, xup_at, xHB_o, xHN_o]
theorem ob_X10_way_109_mu_9 (nb nn : Nat) (town : Int32) (sh : Int32) (i : Int32) (z : Int32) (days : Int32) (what : Int32) (M : xM) (hp0 : xHN nn M) (hp1 : xHS M) (hp2 : ∀ i : Nat, 0 ≤ M 24 i 2 ∧ M 24 i 2 ≤ 60) (hp3 : ∀ i : Nat, 0 ≤ M 29 i 1 ∧ M 29 i 1 ≤ 7) (sq : Nat) (hsq : sq < 8) (n : Nat) (k : Int32) (N_ : xM) (hmu : xmu k z < n + 1) (hinv : 0 ≤ k ∧ xHN nn N_ ∧ (∀ i : Nat, 0 ≤ N_ 29 i 1 ∧ N_ 29 i 1 ≤ 7) ∧ difs N_ sq i z ∧ 0 ≤ i ∧ i ≤ 60 ∧ 1 ≤ z ∧ z ≤ 8 ∧ i + z ≤ 60) (c_1 : ¬ z ≤ k) (i_3 : Nat) (o_4 : f_X10_noteOf (N_ 25 sq (i + k).toNatClampNeg) N_ = some i_3) (hq_6 : i_3 < nn ∧ 0 ≤ (N_ 25 sq (i + k).toNatClampNeg) ∧ (N_ 25 sq (i + k).toNatClampNeg) < 24 ∧ (N_ 25 sq (i + k).toNatClampNeg) < N_ 0 0 13 ∧ i_3 = (N_ 25 sq (i + k).toNatClampNeg).toNatClampNeg) (hi_5 : i_3 < nn) (M_8 : xM) (eM_8 : M_8 = f_X10_tellDrover k i_3 N_) (x8_9 : Int32) (ex8_9 : x8_9 = k + 1) : xmu x8_9 z < n := by
  subst_vars
  have h9 := xmu_up (a := k) (b := z) (by grind)
  (try simp [xup_at])
  omega
theorem ob_X10_way_109_inv_9 (nb nn : Nat) (town : Int32) (sh : Int32) (i : Int32) (z : Int32) (days : Int32) (what : Int32) (M : xM) (hp0 : xHN nn M) (hp1 : xHS M) (hp2 : ∀ i : Nat, 0 ≤ M 24 i 2 ∧ M 24 i 2 ≤ 60) (hp3 : ∀ i : Nat, 0 ≤ M 29 i 1 ∧ M 29 i 1 ≤ 7) (sq : Nat) (hsq : sq < 8) (n : Nat) (k : Int32) (N_ : xM) (hmu : xmu k z < n + 1) (hinv : 0 ≤ k ∧ xHN nn N_ ∧ (∀ i : Nat, 0 ≤ N_ 29 i 1 ∧ N_ 29 i 1 ≤ 7) ∧ difs N_ sq i z ∧ 0 ≤ i ∧ i ≤ 60 ∧ 1 ≤ z ∧ z ≤ 8 ∧ i + z ≤ 60) (c_1 : ¬ z ≤ k) (i_3 : Nat) (o_4 : f_X10_noteOf (N_ 25 sq (i + k).toNatClampNeg) N_ = some i_3) (hq_6 : i_3 < nn ∧ 0 ≤ (N_ 25 sq (i + k).toNatClampNeg) ∧ (N_ 25 sq (i + k).toNatClampNeg) < 24 ∧ (N_ 25 sq (i + k).toNatClampNeg) < N_ 0 0 13 ∧ i_3 = (N_ 25 sq (i + k).toNatClampNeg).toNatClampNeg) (hi_5 : i_3 < nn) (M_8 : xM) (eM_8 : M_8 = f_X10_tellDrover k i_3 N_) (x8_9 : Int32) (ex8_9 : x8_9 = k + 1) : 0 ≤ x8_9 ∧ xHN nn M_8 ∧ (∀ i : Nat, 0 ≤ M_8 29 i 1 ∧ M_8 29 i 1 ≤ 7) ∧ difs M_8 sq i z ∧ 0 ≤ i ∧ i ≤ 60 ∧ 1 ≤ z ∧ z ≤ 8 ∧ i + z ≤ 60 := by
  subst eM_8
  have f20 := fun a b => td_fr a b N_
  refine ⟨by grind, xHN_fr (by decide) (by decide) (f20 _ _) hinv.2.1, fun j => ?_, difs_o (f20 _ _) hinv.2.2.2.1, hinv.2.2.2.2⟩
  rw [f20 _ _ 29 j 1 (by decide)]
  exact hinv.2.2.1 j
theorem ob_X10_way_130_none (nb nn : Nat) (town : Int32) (sh : Int32) (i : Int32) (z : Int32) (days : Int32) (what : Int32) (M : xM) (hp0 : xHN nn M) (hp1 : xHS M) (hp2 : ∀ i : Nat, 0 ≤ M 24 i 2 ∧ M 24 i 2 ≤ 60) (hp3 : ∀ i : Nat, 0 ≤ M 29 i 1 ∧ M 29 i 1 ≤ 7) (sq : Nat) (hsq : sq < 8) (n : Nat) (k : Int32) (N_ : xM) (hmu : xmu k z < n + 1) (hinv : 0 ≤ k ∧ xHN nn N_ ∧ (∀ i : Nat, 0 ≤ N_ 29 i 1 ∧ N_ 29 i 1 ≤ 7) ∧ difs N_ sq i z ∧ 0 ≤ i ∧ i ≤ 60 ∧ 1 ≤ z ∧ z ≤ 8 ∧ i + z ≤ 60) (c_1 : ¬ z ≤ k) (o_4 : f_X10_noteOf (N_ 25 sq (i + k).toNatClampNeg) N_ = none) : False := by
  exact hinv.2.2.2.1 k (by grind) (by grind) o_4
theorem ob_X10_way_2_p0 (nb nn : Nat) (town : Int32) (sh : Int32) (i : Int32) (z : Int32) (days : Int32) (what : Int32) (M : xM) (hp0 : xHN nn M) (hp1 : xHS M) (hp2 : ∀ i : Nat, 0 ≤ M 24 i 2 ∧ M 24 i 2 ≤ 60) (hp3 : ∀ i : Nat, 0 ≤ M 29 i 1 ∧ M 29 i 1 ≤ 7) : xHS M := by
  subst_vars
  grind [isUpTo_eq, isTown10_eq, xb, sheetOf_s, traderOf_s, bankOf_s, noteOf_s, hasPl_eq, xup_at, xHB_o, xHN_o]
theorem ob_X10_way_2_q (nb nn : Nat) (town : Int32) (sh : Int32) (i : Int32) (z : Int32) (days : Int32) (what : Int32) (M : xM) (hp0 : xHN nn M) (hp1 : xHS M) (hp2 : ∀ i : Nat, 0 ≤ M 24 i 2 ∧ M 24 i 2 ≤ 60) (hp3 : ∀ i : Nat, 0 ≤ M 29 i 1 ∧ M 29 i 1 ≤ 7) (i_11 : Nat) (o_12 : f_X10_sheetOf sh M = some i_11) : i_11 < 8 ∧ 0 ≤ sh ∧ sh ≤ 7 ∧ i_11 = sh.toNatClampNeg := by
  exact sheetOf_s o_12
theorem ob_X10_way_97_p0 (nb nn : Nat) (town : Int32) (sh : Int32) (i : Int32) (z : Int32) (days : Int32) (what : Int32) (M : xM) (hp0 : xHN nn M) (hp1 : xHS M) (hp2 : ∀ i : Nat, 0 ≤ M 24 i 2 ∧ M 24 i 2 ≤ 60) (hp3 : ∀ i : Nat, 0 ≤ M 29 i 1 ∧ M 29 i 1 ≤ 7) (i_11 : Nat) (o_12 : f_X10_sheetOf sh M = some i_11) (hq_14 : i_11 < 8 ∧ 0 ≤ sh ∧ sh ≤ 7 ∧ i_11 = sh.toNatClampNeg) (hi_13 : i_11 < 8) (r_17 : Int32) (er_17 : r_17 = xb (f_X10_isTown town M)) (c_18 : ¬ r_17 = 0) (r_19 : Int32) (er_19 : r_19 = xb (f_X10_isUpTo what 1 M)) (c_20 : ¬ r_19 = 0) (c_21 : ¬ z < 1) (c_22 : ¬ 8 < z) (c_23 : ¬ days < 1) (c_24 : days ≤ 6) (r_25 : Int32) (er_25 : r_25 = xb (f_X6_isMissing i_11 M)) (c_26 : r_25 = 0) (r_27 : Int32) (er_27 : r_27 = xb (f_X6_hasPlaces i_11 i z M)) (c_28 : ¬ r_27 = 0) : xHN nn M := by
  subst_vars
  grind [isUpTo_eq, isTown10_eq, xb, sheetOf_s, traderOf_s, bankOf_s, noteOf_s, hasPl_eq, xup_at, xHB_o, xHN_o]
theorem ob_X10_way_97_p1 (nb nn : Nat) (town : Int32) (sh : Int32) (i : Int32) (z : Int32) (days : Int32) (what : Int32) (M : xM) (hp0 : xHN nn M) (hp1 : xHS M) (hp2 : ∀ i : Nat, 0 ≤ M 24 i 2 ∧ M 24 i 2 ≤ 60) (hp3 : ∀ i : Nat, 0 ≤ M 29 i 1 ∧ M 29 i 1 ≤ 7) (i_11 : Nat) (o_12 : f_X10_sheetOf sh M = some i_11) (hq_14 : i_11 < 8 ∧ 0 ≤ sh ∧ sh ≤ 7 ∧ i_11 = sh.toNatClampNeg) (hi_13 : i_11 < 8) (r_17 : Int32) (er_17 : r_17 = xb (f_X10_isTown town M)) (c_18 : ¬ r_17 = 0) (r_19 : Int32) (er_19 : r_19 = xb (f_X10_isUpTo what 1 M)) (c_20 : ¬ r_19 = 0) (c_21 : ¬ z < 1) (c_22 : ¬ 8 < z) (c_23 : ¬ days < 1) (c_24 : days ≤ 6) (r_25 : Int32) (er_25 : r_25 = xb (f_X6_isMissing i_11 M)) (c_26 : r_25 = 0) (r_27 : Int32) (er_27 : r_27 = xb (f_X6_hasPlaces i_11 i z M)) (c_28 : ¬ r_27 = 0) : 0 ≤ i := by
  subst_vars
  grind [isUpTo_eq, isTown10_eq, xb, sheetOf_s, traderOf_s, bankOf_s, noteOf_s, hasPl_eq, xup_at, xHB_o, xHN_o]
theorem ob_X10_way_97_p2 (nb nn : Nat) (town : Int32) (sh : Int32) (i : Int32) (z : Int32) (days : Int32) (what : Int32) (M : xM) (hp0 : xHN nn M) (hp1 : xHS M) (hp2 : ∀ i : Nat, 0 ≤ M 24 i 2 ∧ M 24 i 2 ≤ 60) (hp3 : ∀ i : Nat, 0 ≤ M 29 i 1 ∧ M 29 i 1 ≤ 7) (i_11 : Nat) (o_12 : f_X10_sheetOf sh M = some i_11) (hq_14 : i_11 < 8 ∧ 0 ≤ sh ∧ sh ≤ 7 ∧ i_11 = sh.toNatClampNeg) (hi_13 : i_11 < 8) (r_17 : Int32) (er_17 : r_17 = xb (f_X10_isTown town M)) (c_18 : ¬ r_17 = 0) (r_19 : Int32) (er_19 : r_19 = xb (f_X10_isUpTo what 1 M)) (c_20 : ¬ r_19 = 0) (c_21 : ¬ z < 1) (c_22 : ¬ 8 < z) (c_23 : ¬ days < 1) (c_24 : days ≤ 6) (r_25 : Int32) (er_25 : r_25 = xb (f_X6_isMissing i_11 M)) (c_26 : r_25 = 0) (r_27 : Int32) (er_27 : r_27 = xb (f_X6_hasPlaces i_11 i z M)) (c_28 : ¬ r_27 = 0) : 0 ≤ z := by
  subst_vars
  grind [isUpTo_eq, isTown10_eq, xb, sheetOf_s, traderOf_s, bankOf_s, noteOf_s, hasPl_eq, xup_at, xHB_o, xHN_o]
theorem ob_X10_way_97_p3 (nb nn : Nat) (town : Int32) (sh : Int32) (i : Int32) (z : Int32) (days : Int32) (what : Int32) (M : xM) (hp0 : xHN nn M) (hp1 : xHS M) (hp2 : ∀ i : Nat, 0 ≤ M 24 i 2 ∧ M 24 i 2 ≤ 60) (hp3 : ∀ i : Nat, 0 ≤ M 29 i 1 ∧ M 29 i 1 ≤ 7) (i_11 : Nat) (o_12 : f_X10_sheetOf sh M = some i_11) (hq_14 : i_11 < 8 ∧ 0 ≤ sh ∧ sh ≤ 7 ∧ i_11 = sh.toNatClampNeg) (hi_13 : i_11 < 8) (r_17 : Int32) (er_17 : r_17 = xb (f_X10_isTown town M)) (c_18 : ¬ r_17 = 0) (r_19 : Int32) (er_19 : r_19 = xb (f_X10_isUpTo what 1 M)) (c_20 : ¬ r_19 = 0) (c_21 : ¬ z < 1) (c_22 : ¬ 8 < z) (c_23 : ¬ days < 1) (c_24 : days ≤ 6) (r_25 : Int32) (er_25 : r_25 = xb (f_X6_isMissing i_11 M)) (c_26 : r_25 = 0) (r_27 : Int32) (er_27 : r_27 = xb (f_X6_hasPlaces i_11 i z M)) (c_28 : ¬ r_27 = 0) : i ≤ 60 := by
  subst_vars
  grind [isUpTo_eq, isTown10_eq, xb, sheetOf_s, traderOf_s, bankOf_s, noteOf_s, hasPl_eq, xup_at, xHB_o, xHN_o]
theorem ob_X10_way_97_p4 (nb nn : Nat) (town : Int32) (sh : Int32) (i : Int32) (z : Int32) (days : Int32) (what : Int32) (M : xM) (hp0 : xHN nn M) (hp1 : xHS M) (hp2 : ∀ i : Nat, 0 ≤ M 24 i 2 ∧ M 24 i 2 ≤ 60) (hp3 : ∀ i : Nat, 0 ≤ M 29 i 1 ∧ M 29 i 1 ≤ 7) (i_11 : Nat) (o_12 : f_X10_sheetOf sh M = some i_11) (hq_14 : i_11 < 8 ∧ 0 ≤ sh ∧ sh ≤ 7 ∧ i_11 = sh.toNatClampNeg) (hi_13 : i_11 < 8) (r_17 : Int32) (er_17 : r_17 = xb (f_X10_isTown town M)) (c_18 : ¬ r_17 = 0) (r_19 : Int32) (er_19 : r_19 = xb (f_X10_isUpTo what 1 M)) (c_20 : ¬ r_19 = 0) (c_21 : ¬ z < 1) (c_22 : ¬ 8 < z) (c_23 : ¬ days < 1) (c_24 : days ≤ 6) (r_25 : Int32) (er_25 : r_25 = xb (f_X6_isMissing i_11 M)) (c_26 : r_25 = 0) (r_27 : Int32) (er_27 : r_27 = xb (f_X6_hasPlaces i_11 i z M)) (c_28 : ¬ r_27 = 0) : z ≤ 60 := by
  subst_vars
  grind [isUpTo_eq, isTown10_eq, xb, sheetOf_s, traderOf_s, bankOf_s, noteOf_s, hasPl_eq, xup_at, xHB_o, xHN_o]
theorem ob_X10_way_97_p5 (nb nn : Nat) (town : Int32) (sh : Int32) (i : Int32) (z : Int32) (days : Int32) (what : Int32) (M : xM) (hp0 : xHN nn M) (hp1 : xHS M) (hp2 : ∀ i : Nat, 0 ≤ M 24 i 2 ∧ M 24 i 2 ≤ 60) (hp3 : ∀ i : Nat, 0 ≤ M 29 i 1 ∧ M 29 i 1 ≤ 7) (i_11 : Nat) (o_12 : f_X10_sheetOf sh M = some i_11) (hq_14 : i_11 < 8 ∧ 0 ≤ sh ∧ sh ≤ 7 ∧ i_11 = sh.toNatClampNeg) (hi_13 : i_11 < 8) (r_17 : Int32) (er_17 : r_17 = xb (f_X10_isTown town M)) (c_18 : ¬ r_17 = 0) (r_19 : Int32) (er_19 : r_19 = xb (f_X10_isUpTo what 1 M)) (c_20 : ¬ r_19 = 0) (c_21 : ¬ z < 1) (c_22 : ¬ 8 < z) (c_23 : ¬ days < 1) (c_24 : days ≤ 6) (r_25 : Int32) (er_25 : r_25 = xb (f_X6_isMissing i_11 M)) (c_26 : r_25 = 0) (r_27 : Int32) (er_27 : r_27 = xb (f_X6_hasPlaces i_11 i z M)) (c_28 : ¬ r_27 = 0) : i + z ≤ 60 := by
  subst_vars
  grind [isUpTo_eq, isTown10_eq, xb, sheetOf_s, traderOf_s, bankOf_s, noteOf_s, hasPl_eq, xup_at, xHB_o, xHN_o]
theorem ob_X10_way_109_ini_30 (nb nn : Nat) (town : Int32) (sh : Int32) (i : Int32) (z : Int32) (days : Int32) (what : Int32) (M : xM) (hp0 : xHN nn M) (hp1 : xHS M) (hp2 : ∀ i : Nat, 0 ≤ M 24 i 2 ∧ M 24 i 2 ≤ 60) (hp3 : ∀ i : Nat, 0 ≤ M 29 i 1 ∧ M 29 i 1 ≤ 7) (i_11 : Nat) (o_12 : f_X10_sheetOf sh M = some i_11) (hq_14 : i_11 < 8 ∧ 0 ≤ sh ∧ sh ≤ 7 ∧ i_11 = sh.toNatClampNeg) (hi_13 : i_11 < 8) (r_17 : Int32) (er_17 : r_17 = xb (f_X10_isTown town M)) (c_18 : ¬ r_17 = 0) (r_19 : Int32) (er_19 : r_19 = xb (f_X10_isUpTo what 1 M)) (c_20 : ¬ r_19 = 0) (c_21 : ¬ z < 1) (c_22 : ¬ 8 < z) (c_23 : ¬ days < 1) (c_24 : days ≤ 6) (r_25 : Int32) (er_25 : r_25 = xb (f_X6_isMissing i_11 M)) (c_26 : r_25 = 0) (r_27 : Int32) (er_27 : r_27 = xb (f_X6_hasPlaces i_11 i z M)) (c_28 : ¬ r_27 = 0) (r_29 : Int32) (er_29 : r_29 = xb (f_X10_areDifferentNotes i_11 i z M)) (c_30 : ¬ r_29 = 0) : 0 ≤ (0 : Int32) ∧ xHN nn M ∧ (∀ i : Nat, 0 ≤ M 29 i 1 ∧ M 29 i 1 ≤ 7) ∧ difs M i_11 i z ∧ 0 ≤ i ∧ i ≤ 60 ∧ 1 ≤ z ∧ z ≤ 8 ∧ i + z ≤ 60 := by
  subst_vars
  refine ⟨by decide, hp0, hp3, adn_difs (by grind [xb]), ?_⟩
  grind [hasPl_eq, xb]
theorem ob_X10_way_155_p0 (nb nn : Nat) (town : Int32) (sh : Int32) (i : Int32) (z : Int32) (days : Int32) (what : Int32) (M : xM) (hp0 : xHN nn M) (hp1 : xHS M) (hp2 : ∀ i : Nat, 0 ≤ M 24 i 2 ∧ M 24 i 2 ≤ 60) (hp3 : ∀ i : Nat, 0 ≤ M 29 i 1 ∧ M 29 i 1 ≤ 7) (i_11 : Nat) (o_12 : f_X10_sheetOf sh M = some i_11) (hq_14 : i_11 < 8 ∧ 0 ≤ sh ∧ sh ≤ 7 ∧ i_11 = sh.toNatClampNeg) (hi_13 : i_11 < 8) (r_17 : Int32) (er_17 : r_17 = xb (f_X10_isTown town M)) (c_18 : ¬ r_17 = 0) (r_19 : Int32) (er_19 : r_19 = xb (f_X10_isUpTo what 1 M)) (c_20 : ¬ r_19 = 0) (c_21 : ¬ z < 1) (c_22 : ¬ 8 < z) (c_23 : ¬ days < 1) (c_24 : days ≤ 6) (r_25 : Int32) (er_25 : r_25 = xb (f_X6_isMissing i_11 M)) (c_26 : r_25 = 0) (r_27 : Int32) (er_27 : r_27 = xb (f_X6_hasPlaces i_11 i z M)) (c_28 : ¬ r_27 = 0) (r_29 : Int32) (er_29 : r_29 = xb (f_X10_areDifferentNotes i_11 i z M)) (c_30 : ¬ r_29 = 0) (k_31 : Int32) (M_32 : xM) (hiv_32 : 1 ≤ z) : 0 ≤ town := by
  subst_vars
  grind [isUpTo_eq, isTown10_eq, xb, sheetOf_s, traderOf_s, bankOf_s, noteOf_s, hasPl_eq, xup_at, xHB_o, xHN_o]
theorem ob_X10_way_155_p1 (nb nn : Nat) (town : Int32) (sh : Int32) (i : Int32) (z : Int32) (days : Int32) (what : Int32) (M : xM) (hp0 : xHN nn M) (hp1 : xHS M) (hp2 : ∀ i : Nat, 0 ≤ M 24 i 2 ∧ M 24 i 2 ≤ 60) (hp3 : ∀ i : Nat, 0 ≤ M 29 i 1 ∧ M 29 i 1 ≤ 7) (i_11 : Nat) (o_12 : f_X10_sheetOf sh M = some i_11) (hq_14 : i_11 < 8 ∧ 0 ≤ sh ∧ sh ≤ 7 ∧ i_11 = sh.toNatClampNeg) (hi_13 : i_11 < 8) (r_17 : Int32) (er_17 : r_17 = xb (f_X10_isTown town M)) (c_18 : ¬ r_17 = 0) (r_19 : Int32) (er_19 : r_19 = xb (f_X10_isUpTo what 1 M)) (c_20 : ¬ r_19 = 0) (c_21 : ¬ z < 1) (c_22 : ¬ 8 < z) (c_23 : ¬ days < 1) (c_24 : days ≤ 6) (r_25 : Int32) (er_25 : r_25 = xb (f_X6_isMissing i_11 M)) (c_26 : r_25 = 0) (r_27 : Int32) (er_27 : r_27 = xb (f_X6_hasPlaces i_11 i z M)) (c_28 : ¬ r_27 = 0) (r_29 : Int32) (er_29 : r_29 = xb (f_X10_areDifferentNotes i_11 i z M)) (c_30 : ¬ r_29 = 0) (k_31 : Int32) (M_32 : xM) (hiv_32 : 1 ≤ z) : town < 6 := by
  subst_vars
  grind [isUpTo_eq, isTown10_eq, xb, sheetOf_s, traderOf_s, bankOf_s, noteOf_s, hasPl_eq, xup_at, xHB_o, xHN_o]
theorem ob_X10_way_155_p2 (nb nn : Nat) (town : Int32) (sh : Int32) (i : Int32) (z : Int32) (days : Int32) (what : Int32) (M : xM) (hp0 : xHN nn M) (hp1 : xHS M) (hp2 : ∀ i : Nat, 0 ≤ M 24 i 2 ∧ M 24 i 2 ≤ 60) (hp3 : ∀ i : Nat, 0 ≤ M 29 i 1 ∧ M 29 i 1 ≤ 7) (i_11 : Nat) (o_12 : f_X10_sheetOf sh M = some i_11) (hq_14 : i_11 < 8 ∧ 0 ≤ sh ∧ sh ≤ 7 ∧ i_11 = sh.toNatClampNeg) (hi_13 : i_11 < 8) (r_17 : Int32) (er_17 : r_17 = xb (f_X10_isTown town M)) (c_18 : ¬ r_17 = 0) (r_19 : Int32) (er_19 : r_19 = xb (f_X10_isUpTo what 1 M)) (c_20 : ¬ r_19 = 0) (c_21 : ¬ z < 1) (c_22 : ¬ 8 < z) (c_23 : ¬ days < 1) (c_24 : days ≤ 6) (r_25 : Int32) (er_25 : r_25 = xb (f_X6_isMissing i_11 M)) (c_26 : r_25 = 0) (r_27 : Int32) (er_27 : r_27 = xb (f_X6_hasPlaces i_11 i z M)) (c_28 : ¬ r_27 = 0) (r_29 : Int32) (er_29 : r_29 = xb (f_X10_areDifferentNotes i_11 i z M)) (c_30 : ¬ r_29 = 0) (k_31 : Int32) (M_32 : xM) (hiv_32 : 1 ≤ z) : 1 ≤ z := by
  subst_vars
  grind [isUpTo_eq, isTown10_eq, xb, sheetOf_s, traderOf_s, bankOf_s, noteOf_s, hasPl_eq, xup_at, xHB_o, xHN_o]
set_option maxHeartbeats 4000000 in
set_option maxRecDepth 100000 in
theorem c_X10_pay (l : Launch) (nb nn : Nat) (g : xG) (L : List (Nat × Nat)) (M : xM) (hD : xD g L) (hL : xEL nb nn L) (fr : Int32) (to : Int32) (sum_ : Int32) (hp0 : xHN nn M) (hp1 : xHB nb M) (hp2 : xHT M) (hp3 : M 4 0 4 ≤ 40) (hp4 : ∀ i : Nat, 0 ≤ M 27 i 0 ∧ M 27 i 0 ≤ 5) (hp5 : ∀ i : Nat, 0 ≤ M 26 i 0 ∧ M 26 i 0 ≤ 5) (hp6 : ∀ i : Nat, 0 ≤ M 29 i 0 ∧ M 29 i 0 < 24) : xCi l yX10_pay cX10_pay 9 (some .int) 5 g L M [.ref (xad g 0 0), .int fr, .int to, .int sum_] (fun r u => (r, u) = f_X10_pay fr to sum_ M) := by
  intro sz
  refine x_beg (by decide +kernel) rfl ?_
  intro p e s m args below meth c ls hsz hB
  subst hsz
  obtain ⟨hx, hb, hml, hown, hts, hr, hlk, hK, hAm, hP, hl⟩ := hB
  have S : CallFix p m c cX10_pay 9 s args (xws yX10_pay cX10_pay 9 (some .int)) RX10 := ⟨hx, hb, hml, hown, hts⟩
  have hown : s.vm.findClass RX10 = some m.cls := hown
  have hl : lv_has ls 9 [(0, .ref (xad g 0 0)), (1, .int fr), (2, .int to), (3, .int sum_)] := hl
  have hS : va_S (xA g L s.heap.size) s.heap s.heap [] := va_S.rf
  obtain ⟨F, hF⟩ : ∃ F, F = f_X10_pay fr to sum_ M := ⟨_, rfl⟩
  have k_62 : ∀ (py : Nat) (hpy : py < 8) (tk : Nat) (htk : tk < 8) (n : Nat) (handed : Int32) (turn : Int32) (N_ : xM) (H : Heap) (locs : List Loc) (ls : Array Slot) (kx : (Int32 → Int32 → xM → Int32 × xM)), xmu turn 24 < n → 0 ≤ turn ∧ xHN nn N_ ∧ (∀ i : Nat, 0 ≤ N_ 29 i 0 ∧ N_ 29 i 0 < 24) → F = f_X10_pay_L62 fr to sum_ py tk n handed turn N_ kx → xP g L N_ H → va_S (xA g L s.heap.size) s.heap H locs → lv_has ls 9 [(0, .ref (xad g 0 0)), (1, .int fr), (2, .int to), (3, .int sum_), (4, .ref (xad g 26 py)), (5, .ref (xad g 26 tk)), (6, .int handed), (7, .int turn)] → (∀ (handed : Int32) (turn : Int32) (N_ : xM) (H : Heap) (locs : List Loc) (ls : Array Slot), 0 ≤ turn ∧ xHN nn N_ ∧ (∀ i : Nat, 0 ≤ N_ 29 i 0 ∧ N_ 29 i 0 < 24) → F = kx handed turn N_ → xP g L N_ H → va_S (xA g L s.heap.size) s.heap H locs → lv_has ls 9 [(0, .ref (xad g 0 0)), (1, .int fr), (2, .int to), (3, .int sum_), (4, .ref (xad g 26 py)), (5, .ref (xad g 26 tk)), (6, .int handed), (7, .int turn)] → W p l e (xr 5) s m args below meth c H locs 0 0 (MQ below (va_Qi (fun r u => (r, u) = f_X10_pay fr to sum_ M) (xPost g L) (xA g L s.heap.size)) args s 0 0 (xA g L s.heap.size)) (F0 m 130 ls [])) → W p l e (xr 5) s m args below meth c H locs 0 0 (MQ below (va_Qi (fun r u => (r, u) = f_X10_pay fr to sum_ M) (xPost g L) (xA g L s.heap.size)) args s 0 0 (xA g L s.heap.size)) (F0 m 62 ls []) := by
    intro py hpy tk htk n
    induction n with
    | zero => intro handed turn N_ H locs ls kx hmu; exact absurd hmu (Nat.not_lt_zero _)
    | succ n ih =>
      intro handed turn N_ H locs ls kx hmu hinv hres hP hS hl hex
      replace hres : F = _ := hres.trans (by rw [f_X10_pay_L62])
      refine lv_iload hx hb dX10_pay_62 (lv_at hl 7 rfl) ?_
      refine lv_bipush (v := 24) hx hb dX10_pay_64 (by decide) ?_
      refine lv_icmp_ge (tgt := 130) hx hb dX10_pay_66 (by decide) (fun c_1 => ?_) (fun c_1 => ?_)
      · replace hres := hres.trans (if_pos c_1)
        exact hex handed turn N_ _ _ _ (ob_X10_pay_130_x62 nb nn fr to sum_ M hp0 hp1 hp2 hp3 hp4 hp5 hp6 py hpy tk htk n handed turn N_ hmu hinv c_1) hres hP hS (lv_sub hl [0, 1, 2, 3, 4, 5, 6, 7] rfl)
      · replace hres := hres.trans (if_neg c_1)
        refine lv_iload hx hb dX10_pay_69 (lv_at hl 6 rfl) ?_
        refine lv_iload_n hx hb dX10_pay_71 rfl (lv_at hl 3 rfl) ?_
        refine lv_icmp_ge (tgt := 130) hx hb dX10_pay_72 (by decide) (fun c_2 => ?_) (fun c_2 => ?_)
        · replace hres := hres.trans (if_pos c_2)
          exact hex handed turn N_ _ _ _ (ob_X10_pay_130_x62_2 nb nn fr to sum_ M hp0 hp1 hp2 hp3 hp4 hp5 hp6 py hpy tk htk n handed turn N_ hmu hinv c_1 c_2) hres hP hS (lv_sub hl [0, 1, 2, 3, 4, 5, 6, 7] rfl)
        · replace hres := hres.trans (if_neg c_2)
          refine lv_aload_n hx hb dX10_pay_75 rfl (lv_at hl 0 rfl) ?_
          refine lv_aload_n hx hb dX10_pay_76 rfl (lv_at hl 0 rfl) ?_
          refine x_callVi (As := []) S hK hAm hD hP hS mt_X10_worstOffer wd_831 ⟨by decide, by decide⟩ (hL 0 0 (xe_0 nb nn)) (xc0 g 0) rfl (c_X10_worstOffer l nb nn g L N_ hD hL ) rfl hl.1 (Nat.le_of_ble_eq_true rfl) ⟨Nat.zero_le _, Nat.zero_le _⟩ dX10_pay_77 rfl (fun r_3 u H locs hp_ hP hS => ?_)
          obtain ⟨er_3, eu_⟩ := hp_
          rw [eu_] at hP
          clear eu_
          replace hres := xlet_n hres er_3
          refine x_callVq (As := [.int r_3]) S hK hAm hD hP hS mt_X10_noteOf wd_725 ⟨by decide, by decide⟩ (hL 0 0 (xe_0 nb nn)) (xc0 g 0) rfl (c_X10_noteOf l nb nn g L N_ hD hL r_3 (ob_X10_pay_80_p0 nb nn fr to sum_ M hp0 hp1 hp2 hp3 hp4 hp5 hp6 py hpy tk htk n handed turn N_ hmu hinv c_1 c_2 r_3 er_3)) rfl hl.1 (Nat.le_of_ble_eq_true rfl) ⟨Nat.zero_le _, Nat.zero_le _⟩ dX10_pay_80 rfl (fun r_4 u H locs hp_ hP hS => ?_)
          obtain ⟨hp_, eu_⟩ := hp_
          rw [eu_] at hP
          clear eu_
          subst hp_
          rcases o_6 : f_X10_noteOf r_3 N_ with _ | i_5
          · replace hres := xopt_n hres o_6
            refine lv_astoreN (lv' := [(8, .null), (0, .ref (xad g 0 0)), (1, .int fr), (2, .int to), (3, .int sum_), (4, .ref (xad g 26 py)), (5, .ref (xad g 26 tk)), (6, .int handed), (7, .int turn)]) hx hb dX10_pay_83 hl (by decide) rfl (fun ls hl => ?_)
            refine lv_aloadN hx hb dX10_pay_85 (lv_at hl 0 rfl) ?_
            refine lv_ifnonnullN hx hb dX10_pay_87 ?_
            refine lv_goto (tgt := 130) hx hb dX10_pay_90 (by decide) ?_
            exact hex handed turn N_ _ _ _ (ob_X10_pay_130_x62_3 nb nn fr to sum_ M hp0 hp1 hp2 hp3 hp4 hp5 hp6 py hpy tk htk n handed turn N_ hmu hinv c_1 c_2 r_3 er_3 o_6) hres hP hS (lv_sub hl [1, 2, 3, 4, 5, 6, 7, 8] rfl)
          · replace hres := xopt_s hres o_6
            have hq_8 := (ob_X10_pay_80_q nb nn fr to sum_ M hp0 hp1 hp2 hp3 hp4 hp5 hp6 py hpy tk htk n handed turn N_ hmu hinv c_1 c_2 r_3 er_3 i_5 o_6)
            have hi_7 := hq_8.1
            refine lv_astore (lv' := [(8, .ref (xad g 29 i_5)), (0, .ref (xad g 0 0)), (1, .int fr), (2, .int to), (3, .int sum_), (4, .ref (xad g 26 py)), (5, .ref (xad g 26 tk)), (6, .int handed), (7, .int turn)]) hx hb dX10_pay_83 hl (by decide) rfl (fun ls hl => ?_)
            refine lv_aload hx hb dX10_pay_85 (lv_at hl 0 rfl) ?_
            refine lv_ifnonnull (tgt := 93) hx hb dX10_pay_87 (by decide) ?_
            refine lv_aload_n hx hb dX10_pay_93 rfl (lv_at hl 1 rfl) ?_
            refine gf_RX10_63 hx hb hts hown hK hP (hL 0 0 (xe_0 nb nn)) dX10_pay_94 ?_
            refine lv_aload hx hb dX10_pay_97 (lv_at hl 0 rfl) ?_
            refine gf_RX10_299 hx hb hts hown hK hP (hL 29 i_5 hi_7) dX10_pay_99 ?_
            refine lv_iconst (v := (-1)) hx hb dX10_pay_102 (by decide) ?_
            refine x_iast hx hb hK hP hD hS (hL 9 0 (xe_9 nb nn)) (xc9 g 0) (ob_X10_pay_103_in nb nn fr to sum_ M hp0 hp1 hp2 hp3 hp4 hp5 hp6 py hpy tk htk n handed turn N_ hmu hinv c_1 c_2 r_3 er_3 i_5 o_6 hq_8 hi_7) dX10_pay_103 (fun H locs hP hS => ?_)
            obtain ⟨M_9, eM_9⟩ : ∃ z_ : xM, z_ = xup N_ 9 0 (N_ 29 i_5 0).toNatClampNeg (-1) := ⟨_, rfl⟩
            rw [← eM_9] at hP
            replace hres := xlet_n hres eM_9
            refine lv_aload hx hb dX10_pay_104 (lv_at hl 0 rfl) ?_
            refine lv_iload_n hx hb dX10_pay_106 rfl (lv_at hl 3 rfl) ?_
            refine lv_aload_n hx hb dX10_pay_107 rfl (lv_at hl 1 rfl) ?_
            refine gf_RX10_91 hx hb hts hown hK hP (hL 0 0 (xe_0 nb nn)) dX10_pay_108 ?_
            refine x_callVv (As := [.int to, .int (M_9 0 0 14)]) S hK hAm hD hP hS mt_X4_handOn wd_699 ⟨by decide, by decide⟩ (hL 29 i_5 hi_7) (xc29 g i_5) rfl (c_X4_handOn l nb nn g L M_9 hD hL i_5 to (M_9 0 0 14) hi_7) rfl hl.1 (Nat.le_of_ble_eq_true rfl) ⟨Nat.zero_le _, Nat.zero_le _⟩ dX10_pay_111 rfl (fun M_11 H locs eM_11 hP hS => ?_)
            replace hres := xlet_n hres eM_11
            refine lv_iload hx hb dX10_pay_114 (lv_at hl 7 rfl) ?_
            refine lv_aload hx hb dX10_pay_116 (lv_at hl 0 rfl) ?_
            refine gf_RX10_253 hx hb hts hown hK hP (hL 29 i_5 hi_7) dX10_pay_118 ?_
            refine lv_iadd hx hb dX10_pay_121 ?_
            refine lv_topi (fun x6_12 ex6_12 => ?_)
            replace hres := xlet_n hres ex6_12
            refine lv_istore (lv' := [(6, .int x6_12), (8, .ref (xad g 29 i_5)), (0, .ref (xad g 0 0)), (1, .int fr), (2, .int to), (3, .int sum_), (4, .ref (xad g 26 py)), (5, .ref (xad g 26 tk)), (7, .int turn)]) hx hb dX10_pay_122 hl (by decide) rfl (fun ls hl => ?_)
            obtain ⟨x7_13, ex7_13⟩ : ∃ z_ : Int32, z_ = turn + 1 := ⟨_, rfl⟩
            replace hres := xlet_n hres ex7_13
            refine lv_iinc (v := x7_13) (lv' := [(7, .int x7_13), (6, .int x6_12), (8, .ref (xad g 29 i_5)), (0, .ref (xad g 0 0)), (1, .int fr), (2, .int to), (3, .int sum_), (4, .ref (xad g 26 py)), (5, .ref (xad g 26 tk))]) hx hb dX10_pay_124 hl (k := 8) rfl (by rw [ex7_13]; rfl) (by decide) rfl (fun ls hl => ?_)
            refine lv_goto (tgt := 62) hx hb dX10_pay_127 (by decide) ?_
            exact ih x6_12 x7_13 M_11 _ _ _ kx (ob_X10_pay_62_mu_13 nb nn fr to sum_ M hp0 hp1 hp2 hp3 hp4 hp5 hp6 py hpy tk htk n handed turn N_ hmu hinv c_1 c_2 r_3 er_3 i_5 o_6 hq_8 hi_7 M_9 eM_9 M_11 eM_11 x6_12 ex6_12 x7_13 ex7_13) (ob_X10_pay_62_inv_13 nb nn fr to sum_ M hp0 hp1 hp2 hp3 hp4 hp5 hp6 py hpy tk htk n handed turn N_ hmu hinv c_1 c_2 r_3 er_3 i_5 o_6 hq_8 hi_7 M_9 eM_9 M_11 eM_11 x6_12 ex6_12 x7_13 ex7_13) hres hP hS (lv_sub hl [3, 4, 5, 6, 7, 8, 1, 0] rfl) hex
  have hres := hF
  rw [f_X10_pay] at hres
  refine lv_aload_n hx hb dX10_pay_0 rfl (lv_at hl 0 rfl) ?_
  refine lv_iload_n hx hb dX10_pay_1 rfl (lv_at hl 1 rfl) ?_
  refine x_callVq (As := [.int fr]) S hK hAm hD hP hS mt_X10_traderOf wd_677 ⟨by decide, by decide⟩ (hL 0 0 (xe_0 nb nn)) (xc0 g 0) rfl (c_X10_traderOf l nb nn g L M hD hL fr (ob_X10_pay_2_p0 nb nn fr to sum_ M hp0 hp1 hp2 hp3 hp4 hp5 hp6)) rfl hl.1 (Nat.le_of_ble_eq_true rfl) ⟨Nat.zero_le _, Nat.zero_le _⟩ dX10_pay_2 rfl (fun r_14 u H locs hp_ hP hS => ?_)
  obtain ⟨hp_, eu_⟩ := hp_
  rw [eu_] at hP
  clear eu_
  subst hp_
  rcases o_16 : f_X10_traderOf fr M with _ | i_15
  · replace hres := xopt_n hres o_16
    refine lv_astoreN (lv' := [(4, .null), (0, .ref (xad g 0 0)), (1, .int fr), (2, .int to), (3, .int sum_)]) hx hb dX10_pay_5 hl (by decide) rfl (fun ls hl => ?_)
    refine lv_aload_n hx hb dX10_pay_7 rfl (lv_at hl 1 rfl) ?_
    refine lv_iload_n hx hb dX10_pay_8 rfl (lv_at hl 3 rfl) ?_
    refine x_callVq (As := [.int to]) S hK hAm hD hP hS mt_X10_traderOf wd_677 ⟨by decide, by decide⟩ (hL 0 0 (xe_0 nb nn)) (xc0 g 0) rfl (c_X10_traderOf l nb nn g L M hD hL to (ob_X10_pay_9_p0 nb nn fr to sum_ M hp0 hp1 hp2 hp3 hp4 hp5 hp6 o_16)) rfl hl.1 (Nat.le_of_ble_eq_true rfl) ⟨Nat.zero_le _, Nat.zero_le _⟩ dX10_pay_9 rfl (fun r_19 u H locs hp_ hP hS => ?_)
    obtain ⟨hp_, eu_⟩ := hp_
    rw [eu_] at hP
    clear eu_
    subst hp_
    rcases o_21 : f_X10_traderOf to M with _ | i_20
    · replace hres := xopt_n hres o_21
      refine lv_astoreN (lv' := [(5, .null), (4, .null), (0, .ref (xad g 0 0)), (1, .int fr), (2, .int to), (3, .int sum_)]) hx hb dX10_pay_12 hl (by decide) rfl (fun ls hl => ?_)
      refine lv_aloadN hx hb dX10_pay_14 (lv_at hl 1 rfl) ?_
      refine lv_ifnullN (tgt := 41) hx hb dX10_pay_16 (by decide) ?_
      refine lv_ldc (own := RX10) (v := (-1000001)) hx hb hown (hts _ (List.mem_cons_of_mem _ wd_174)) dX10_pay_41 ?_
      exact x_reti hx hb hr hlk hP hS (hres.symm.trans hF) dX10_pay_43
    · replace hres := xopt_s hres o_21
      have hq_23 := (ob_X10_pay_9_q nb nn fr to sum_ M hp0 hp1 hp2 hp3 hp4 hp5 hp6 o_16 i_20 o_21)
      have hi_22 := hq_23.1
      refine lv_astore (lv' := [(5, .ref (xad g 26 i_20)), (4, .null), (0, .ref (xad g 0 0)), (1, .int fr), (2, .int to), (3, .int sum_)]) hx hb dX10_pay_12 hl (by decide) rfl (fun ls hl => ?_)
      refine lv_aloadN hx hb dX10_pay_14 (lv_at hl 1 rfl) ?_
      refine lv_ifnullN (tgt := 41) hx hb dX10_pay_16 (by decide) ?_
      refine lv_ldc (own := RX10) (v := (-1000001)) hx hb hown (hts _ (List.mem_cons_of_mem _ wd_174)) dX10_pay_41 ?_
      exact x_reti hx hb hr hlk hP hS (hres.symm.trans hF) dX10_pay_43
  · replace hres := xopt_s hres o_16
    have hq_18 := (ob_X10_pay_2_q nb nn fr to sum_ M hp0 hp1 hp2 hp3 hp4 hp5 hp6 i_15 o_16)
    have hi_17 := hq_18.1
    refine lv_astore (lv' := [(4, .ref (xad g 26 i_15)), (0, .ref (xad g 0 0)), (1, .int fr), (2, .int to), (3, .int sum_)]) hx hb dX10_pay_5 hl (by decide) rfl (fun ls hl => ?_)
    refine lv_aload_n hx hb dX10_pay_7 rfl (lv_at hl 1 rfl) ?_
    refine lv_iload_n hx hb dX10_pay_8 rfl (lv_at hl 3 rfl) ?_
    refine x_callVq (As := [.int to]) S hK hAm hD hP hS mt_X10_traderOf wd_677 ⟨by decide, by decide⟩ (hL 0 0 (xe_0 nb nn)) (xc0 g 0) rfl (c_X10_traderOf l nb nn g L M hD hL to (ob_X10_pay_9_p0_2 nb nn fr to sum_ M hp0 hp1 hp2 hp3 hp4 hp5 hp6 i_15 o_16 hq_18 hi_17)) rfl hl.1 (Nat.le_of_ble_eq_true rfl) ⟨Nat.zero_le _, Nat.zero_le _⟩ dX10_pay_9 rfl (fun r_24 u H locs hp_ hP hS => ?_)
    obtain ⟨hp_, eu_⟩ := hp_
    rw [eu_] at hP
    clear eu_
    subst hp_
    rcases o_26 : f_X10_traderOf to M with _ | i_25
    · replace hres := xopt_n hres o_26
      refine lv_astoreN (lv' := [(5, .null), (4, .ref (xad g 26 i_15)), (0, .ref (xad g 0 0)), (1, .int fr), (2, .int to), (3, .int sum_)]) hx hb dX10_pay_12 hl (by decide) rfl (fun ls hl => ?_)
      refine lv_aload hx hb dX10_pay_14 (lv_at hl 1 rfl) ?_
      refine lv_ifnull hx hb dX10_pay_16 ?_
      refine lv_aloadN hx hb dX10_pay_19 (lv_at hl 0 rfl) ?_
      refine lv_ifnullN (tgt := 41) hx hb dX10_pay_21 (by decide) ?_
      refine lv_ldc (own := RX10) (v := (-1000001)) hx hb hown (hts _ (List.mem_cons_of_mem _ wd_174)) dX10_pay_41 ?_
      exact x_reti hx hb hr hlk hP hS (hres.symm.trans hF) dX10_pay_43
    · replace hres := xopt_s hres o_26
      have hq_28 := (ob_X10_pay_9_q_2 nb nn fr to sum_ M hp0 hp1 hp2 hp3 hp4 hp5 hp6 i_15 o_16 hq_18 hi_17 i_25 o_26)
      have hi_27 := hq_28.1
      refine lv_astore (lv' := [(5, .ref (xad g 26 i_25)), (4, .ref (xad g 26 i_15)), (0, .ref (xad g 0 0)), (1, .int fr), (2, .int to), (3, .int sum_)]) hx hb dX10_pay_12 hl (by decide) rfl (fun ls hl => ?_)
      refine lv_aload hx hb dX10_pay_14 (lv_at hl 1 rfl) ?_
      refine lv_ifnull hx hb dX10_pay_16 ?_
      refine lv_aload hx hb dX10_pay_19 (lv_at hl 0 rfl) ?_
      refine lv_ifnull hx hb dX10_pay_21 ?_
      refine lv_iload_n hx hb dX10_pay_24 rfl (lv_at hl 3 rfl) ?_
      refine lv_iload_n hx hb dX10_pay_25 rfl (lv_at hl 4 rfl) ?_
      refine lv_icmp_eq (tgt := 41) hx hb dX10_pay_26 (by decide) (fun c_29 => ?_) (fun c_29 => ?_)
      · replace hres := hres.trans (if_pos c_29)
        refine lv_ldc (own := RX10) (v := (-1000001)) hx hb hown (hts _ (List.mem_cons_of_mem _ wd_174)) dX10_pay_41 ?_
        exact x_reti hx hb hr hlk hP hS (hres.symm.trans hF) dX10_pay_43
      · replace hres := hres.trans (if_neg c_29)
        refine lv_iload_n hx hb dX10_pay_29 rfl (lv_at hl 5 rfl) ?_
        refine lv_iconst (v := 1) hx hb dX10_pay_30 (by decide) ?_
        refine lv_icmp_lt (tgt := 41) hx hb dX10_pay_31 (by decide) (fun c_30 => ?_) (fun c_30 => ?_)
        · replace hres := hres.trans (if_pos c_30)
          refine lv_ldc (own := RX10) (v := (-1000001)) hx hb hown (hts _ (List.mem_cons_of_mem _ wd_174)) dX10_pay_41 ?_
          exact x_reti hx hb hr hlk hP hS (hres.symm.trans hF) dX10_pay_43
        · replace hres := hres.trans (if_neg c_30)
          refine lv_iload_n hx hb dX10_pay_34 rfl (lv_at hl 5 rfl) ?_
          refine lv_sipush (v := 999) hx hb dX10_pay_35 (by decide) ?_
          refine lv_icmp_le (tgt := 44) hx hb dX10_pay_38 (by decide) (fun c_31 => ?_) (fun c_31 => ?_)
          · replace hres := hres.trans (if_pos c_31)
            refine lv_aload_n hx hb dX10_pay_44 rfl (lv_at hl 2 rfl) ?_
            refine lv_iload_n hx hb dX10_pay_45 rfl (lv_at hl 3 rfl) ?_
            refine lv_aload hx hb dX10_pay_46 (lv_at hl 1 rfl) ?_
            refine gf_RX10_288 hx hb hts hown hK hP (hL 26 i_15 hi_17) dX10_pay_48 ?_
            refine lv_aload hx hb dX10_pay_51 (lv_at hl 0 rfl) ?_
            refine x_callVv (As := [.int fr, .int (M 26 i_15 0), .ref (xad g 26 i_25)]) S hK hAm hD hP hS mt_X10_offerNotes wd_823 ⟨by decide, by decide⟩ (hL 0 0 (xe_0 nb nn)) (xc0 g 0) rfl (c_X10_offerNotes l nb nn g L M hD hL fr (M 26 i_15 0) i_25 hi_27 (ob_X10_pay_53_p0 nb nn fr to sum_ M hp0 hp1 hp2 hp3 hp4 hp5 hp6 i_15 o_16 hq_18 hi_17 i_25 o_26 hq_28 hi_27 c_29 c_30 c_31) (ob_X10_pay_53_p1 nb nn fr to sum_ M hp0 hp1 hp2 hp3 hp4 hp5 hp6 i_15 o_16 hq_18 hi_17 i_25 o_26 hq_28 hi_27 c_29 c_30 c_31) (ob_X10_pay_53_p2 nb nn fr to sum_ M hp0 hp1 hp2 hp3 hp4 hp5 hp6 i_15 o_16 hq_18 hi_17 i_25 o_26 hq_28 hi_27 c_29 c_30 c_31) (ob_X10_pay_53_p3 nb nn fr to sum_ M hp0 hp1 hp2 hp3 hp4 hp5 hp6 i_15 o_16 hq_18 hi_17 i_25 o_26 hq_28 hi_27 c_29 c_30 c_31) (ob_X10_pay_53_p4 nb nn fr to sum_ M hp0 hp1 hp2 hp3 hp4 hp5 hp6 i_15 o_16 hq_18 hi_17 i_25 o_26 hq_28 hi_27 c_29 c_30 c_31) (ob_X10_pay_53_p5 nb nn fr to sum_ M hp0 hp1 hp2 hp3 hp4 hp5 hp6 i_15 o_16 hq_18 hi_17 i_25 o_26 hq_28 hi_27 c_29 c_30 c_31) (ob_X10_pay_53_p6 nb nn fr to sum_ M hp0 hp1 hp2 hp3 hp4 hp5 hp6 i_15 o_16 hq_18 hi_17 i_25 o_26 hq_28 hi_27 c_29 c_30 c_31)) rfl hl.1 (Nat.le_of_ble_eq_true rfl) ⟨Nat.zero_le _, Nat.zero_le _⟩ dX10_pay_53 rfl (fun M_33 H locs eM_33 hP hS => ?_)
            replace hres := xlet_n hres eM_33
            refine lv_iconst (v := 0) hx hb dX10_pay_56 (by decide) ?_
            refine lv_istore (lv' := [(6, .int 0), (5, .ref (xad g 26 i_25)), (4, .ref (xad g 26 i_15)), (0, .ref (xad g 0 0)), (1, .int fr), (2, .int to), (3, .int sum_)]) hx hb dX10_pay_57 hl (by decide) rfl (fun ls hl => ?_)
            refine lv_iconst (v := 0) hx hb dX10_pay_59 (by decide) ?_
            refine lv_istore (lv' := [(7, .int 0), (6, .int 0), (5, .ref (xad g 26 i_25)), (4, .ref (xad g 26 i_15)), (0, .ref (xad g 0 0)), (1, .int fr), (2, .int to), (3, .int sum_)]) hx hb dX10_pay_60 hl (by decide) rfl (fun ls hl => ?_)
            refine k_62 i_15 hi_17 i_25 hi_27 (xmu (0 : Int32) 24 + 1) (0 : Int32) (0 : Int32) M_33 _ _ _ _ (Nat.lt_succ_self _) (ob_X10_pay_62_ini_33 nb nn fr to sum_ M hp0 hp1 hp2 hp3 hp4 hp5 hp6 i_15 o_16 hq_18 hi_17 i_25 o_26 hq_28 hi_27 c_29 c_30 c_31 M_33 eM_33) hres hP hS (lv_sub hl [4, 5, 6, 7, 3, 2, 1, 0] rfl) ?_
            clear hres hP hS hl
            intro handed_34 turn_35 M_36 H locs ls hiv_36 hres hP hS hl
            refine lv_iload hx hb dX10_pay_130 (lv_at hl 6 rfl) ?_
            exact x_reti hx hb hr hlk hP hS (hres.symm.trans hF) dX10_pay_132
          · replace hres := hres.trans (if_neg c_31)
            refine lv_ldc (own := RX10) (v := (-1000001)) hx hb hown (hts _ (List.mem_cons_of_mem _ wd_174)) dX10_pay_41 ?_
            exact x_reti hx hb hr hlk hP hS (hres.symm.trans hF) dX10_pay_43
set_option maxHeartbeats 4000000 in
set_option maxRecDepth 100000 in
theorem c_X10_way (l : Launch) (nb nn : Nat) (g : xG) (L : List (Nat × Nat)) (M : xM) (hD : xD g L) (hL : xEL nb nn L) (town : Int32) (sh : Int32) (i : Int32) (z : Int32) (days : Int32) (what : Int32) (hp0 : xHN nn M) (hp1 : xHS M) (hp2 : ∀ i : Nat, 0 ≤ M 24 i 2 ∧ M 24 i 2 ≤ 60) (hp3 : ∀ i : Nat, 0 ≤ M 29 i 1 ∧ M 29 i 1 ≤ 7) : xCi l yX10_way cX10_way 9 (some .int) 4 g L M [.ref (xad g 0 0), .int town, .int sh, .int i, .int z, .int days, .int what] (fun r u => (r, u) = f_X10_way town sh i z days what M) := by
  intro sz
  refine x_beg (by decide +kernel) rfl ?_
  intro p e s m args below meth c ls hsz hB
  subst hsz
  obtain ⟨hx, hb, hml, hown, hts, hr, hlk, hK, hAm, hP, hl⟩ := hB
  have S : CallFix p m c cX10_way 9 s args (xws yX10_way cX10_way 9 (some .int)) RX10 := ⟨hx, hb, hml, hown, hts⟩
  have hown : s.vm.findClass RX10 = some m.cls := hown
  have hl : lv_has ls 9 [(0, .ref (xad g 0 0)), (1, .int town), (2, .int sh), (3, .int i), (4, .int z), (5, .int days), (6, .int what)] := hl
  have hS : va_S (xA g L s.heap.size) s.heap s.heap [] := va_S.rf
  obtain ⟨F, hF⟩ : ∃ F, F = f_X10_way town sh i z days what M := ⟨_, rfl⟩
  have k_109 : ∀ (sq : Nat) (hsq : sq < 8) (n : Nat) (k : Int32) (N_ : xM) (H : Heap) (locs : List Loc) (ls : Array Slot) (kx : (Int32 → xM → Int32 × xM)), xmu k z < n → 0 ≤ k ∧ xHN nn N_ ∧ (∀ i : Nat, 0 ≤ N_ 29 i 1 ∧ N_ 29 i 1 ≤ 7) ∧ difs N_ sq i z ∧ 0 ≤ i ∧ i ≤ 60 ∧ 1 ≤ z ∧ z ≤ 8 ∧ i + z ≤ 60 → F = f_X10_way_L109 town sh i z days what sq n k N_ kx → xP g L N_ H → va_S (xA g L s.heap.size) s.heap H locs → lv_has ls 9 [(0, .ref (xad g 0 0)), (1, .int town), (2, .int sh), (3, .int i), (4, .int z), (5, .int days), (6, .int what), (7, .ref (xad g 24 sq)), (8, .int k)] → (∀ (k : Int32) (N_ : xM) (H : Heap) (locs : List Loc) (ls : Array Slot), 1 ≤ z → F = kx k N_ → xP g L N_ H → va_S (xA g L s.heap.size) s.heap H locs → lv_has ls 9 [(0, .ref (xad g 0 0)), (1, .int town), (2, .int sh), (3, .int i), (4, .int z), (5, .int days), (6, .int what), (7, .ref (xad g 24 sq)), (8, .int k)] → W p l e (xr 4) s m args below meth c H locs 0 0 (MQ below (va_Qi (fun r u => (r, u) = f_X10_way town sh i z days what M) (xPost g L) (xA g L s.heap.size)) args s 0 0 (xA g L s.heap.size)) (F0 m 142 ls [])) → W p l e (xr 4) s m args below meth c H locs 0 0 (MQ below (va_Qi (fun r u => (r, u) = f_X10_way town sh i z days what M) (xPost g L) (xA g L s.heap.size)) args s 0 0 (xA g L s.heap.size)) (F0 m 109 ls []) := by
    intro sq hsq n
    induction n with
    | zero => intro k N_ H locs ls kx hmu; exact absurd hmu (Nat.not_lt_zero _)
    | succ n ih =>
      intro k N_ H locs ls kx hmu hinv hres hP hS hl hex
      replace hres : F = _ := hres.trans (by rw [f_X10_way_L109])
      refine lv_iload hx hb dX10_way_109 (lv_at hl 8 rfl) ?_
      refine lv_iload hx hb dX10_way_111 (lv_at hl 4 rfl) ?_
      refine lv_icmp_ge (tgt := 142) hx hb dX10_way_113 (by decide) (fun c_1 => ?_) (fun c_1 => ?_)
      · replace hres := hres.trans (if_pos c_1)
        exact hex k N_ _ _ _ (ob_X10_way_142_x109 nb nn town sh i z days what M hp0 hp1 hp2 hp3 sq hsq n k N_ hmu hinv c_1) hres hP hS (lv_sub hl [0, 1, 2, 3, 4, 5, 6, 7, 8] rfl)
      · replace hres := hres.trans (if_neg c_1)
        refine lv_aload_n hx hb dX10_way_116 rfl (lv_at hl 0 rfl) ?_
        refine lv_iload hx hb dX10_way_117 (lv_at hl 8 rfl) ?_
        refine lv_aload_n hx hb dX10_way_119 rfl (lv_at hl 0 rfl) ?_
        refine lv_aload hx hb dX10_way_120 (lv_at hl 7 rfl) ?_
        refine gf_RX10_136 hx hb hts hown hK hP (hL 24 sq hsq) dX10_way_122 ?_
        refine lv_iload_n hx hb dX10_way_125 rfl (lv_at hl 3 rfl) ?_
        refine lv_iload hx hb dX10_way_126 (lv_at hl 8 rfl) ?_
        refine lv_iadd hx hb dX10_way_128 ?_
        refine x_iald hx hb hK hP (hL 25 sq hsq) (xc25 g sq) (ob_X10_way_129_in nb nn town sh i z days what M hp0 hp1 hp2 hp3 sq hsq n k N_ hmu hinv c_1) dX10_way_129 ?_
        refine x_callVq (As := [.int (N_ 25 sq (i + k).toNatClampNeg)]) S hK hAm hD hP hS mt_X10_noteOf wd_725 ⟨by decide, by decide⟩ (hL 0 0 (xe_0 nb nn)) (xc0 g 0) rfl (c_X10_noteOf l nb nn g L N_ hD hL (N_ 25 sq (i + k).toNatClampNeg) (ob_X10_way_130_p0 nb nn town sh i z days what M hp0 hp1 hp2 hp3 sq hsq n k N_ hmu hinv c_1)) rfl hl.1 (Nat.le_of_ble_eq_true rfl) ⟨Nat.zero_le _, Nat.zero_le _⟩ dX10_way_130 rfl (fun r_2 u H locs hp_ hP hS => ?_)
        obtain ⟨hp_, eu_⟩ := hp_
        rw [eu_] at hP
        clear eu_
        subst hp_
        rcases o_4 : f_X10_noteOf (N_ 25 sq (i + k).toNatClampNeg) N_ with _ | i_3
        · exact ((ob_X10_way_130_none nb nn town sh i z days what M hp0 hp1 hp2 hp3 sq hsq n k N_ hmu hinv c_1 o_4)).elim
        · replace hres := xopt_s hres o_4
          have hq_6 := (ob_X10_way_130_q nb nn town sh i z days what M hp0 hp1 hp2 hp3 sq hsq n k N_ hmu hinv c_1 i_3 o_4)
          have hi_5 := hq_6.1
          refine x_callVv (As := [.int k, .ref (xad g 29 i_3)]) S hK hAm hD hP hS mt_X10_tellDrover wd_928 ⟨by decide, by decide⟩ (hL 0 0 (xe_0 nb nn)) (xc0 g 0) rfl (c_X10_tellDrover l nb nn g L N_ hD hL k i_3 hi_5 (ob_X10_way_133_p0 nb nn town sh i z days what M hp0 hp1 hp2 hp3 sq hsq n k N_ hmu hinv c_1 i_3 o_4 hq_6 hi_5) (ob_X10_way_133_p1 nb nn town sh i z days what M hp0 hp1 hp2 hp3 sq hsq n k N_ hmu hinv c_1 i_3 o_4 hq_6 hi_5) (ob_X10_way_133_p2 nb nn town sh i z days what M hp0 hp1 hp2 hp3 sq hsq n k N_ hmu hinv c_1 i_3 o_4 hq_6 hi_5)) rfl hl.1 (Nat.le_of_ble_eq_true rfl) ⟨Nat.zero_le _, Nat.zero_le _⟩ dX10_way_133 rfl (fun M_8 H locs eM_8 hP hS => ?_)
          replace hres := xlet_n hres eM_8
          obtain ⟨x8_9, ex8_9⟩ : ∃ z_ : Int32, z_ = k + 1 := ⟨_, rfl⟩
          replace hres := xlet_n hres ex8_9
          refine lv_iinc (v := x8_9) (lv' := [(8, .int x8_9), (0, .ref (xad g 0 0)), (1, .int town), (2, .int sh), (3, .int i), (4, .int z), (5, .int days), (6, .int what), (7, .ref (xad g 24 sq))]) hx hb dX10_way_136 hl (k := 8) rfl (by rw [ex8_9]; rfl) (by decide) rfl (fun ls hl => ?_)
          refine lv_goto (tgt := 109) hx hb dX10_way_139 (by decide) ?_
          exact ih x8_9 M_8 _ _ _ kx (ob_X10_way_109_mu_9 nb nn town sh i z days what M hp0 hp1 hp2 hp3 sq hsq n k N_ hmu hinv c_1 i_3 o_4 hq_6 hi_5 M_8 eM_8 x8_9 ex8_9) (ob_X10_way_109_inv_9 nb nn town sh i z days what M hp0 hp1 hp2 hp3 sq hsq n k N_ hmu hinv c_1 i_3 o_4 hq_6 hi_5 M_8 eM_8 x8_9 ex8_9) hres hP hS (lv_sub hl [1, 2, 3, 4, 5, 6, 7, 8, 0] rfl) hex
  have hres := hF
  rw [f_X10_way] at hres
  refine lv_aload_n hx hb dX10_way_0 rfl (lv_at hl 0 rfl) ?_
  refine lv_iload_n hx hb dX10_way_1 rfl (lv_at hl 2 rfl) ?_
  refine x_callVq (As := [.int sh]) S hK hAm hD hP hS mt_X10_sheetOf wd_175 ⟨by decide, by decide⟩ (hL 0 0 (xe_0 nb nn)) (xc0 g 0) rfl (c_X10_sheetOf l nb nn g L M hD hL sh (ob_X10_way_2_p0 nb nn town sh i z days what M hp0 hp1 hp2 hp3)) rfl hl.1 (Nat.le_of_ble_eq_true rfl) ⟨Nat.zero_le _, Nat.zero_le _⟩ dX10_way_2 rfl (fun r_10 u H locs hp_ hP hS => ?_)
  obtain ⟨hp_, eu_⟩ := hp_
  rw [eu_] at hP
  clear eu_
  subst hp_
  rcases o_12 : f_X10_sheetOf sh M with _ | i_11
  · replace hres := xopt_n hres o_12
    refine lv_astoreN (lv' := [(7, .null), (0, .ref (xad g 0 0)), (1, .int town), (2, .int sh), (3, .int i), (4, .int z), (5, .int days), (6, .int what)]) hx hb dX10_way_5 hl (by decide) rfl (fun ls hl => ?_)
    refine lv_iload_n hx hb dX10_way_7 rfl (lv_at hl 2 rfl) ?_
    refine x_callSi (As := [.int town]) S hK hAm hD hP hS mt_X10_isTown wd_268 ⟨by decide, by decide⟩ (c_X10_isTown l nb nn g L M hD hL town) rfl hl.1 (Nat.le_of_ble_eq_true rfl) ⟨Nat.zero_le _, Nat.zero_le _⟩ dX10_way_8 rfl (fun r_15 u H locs hp_ hP hS => ?_)
    obtain ⟨er_15, eu_⟩ := hp_
    rw [eu_] at hP
    clear eu_
    replace hres := xlet_n hres er_15
    refine lv_if_eq (tgt := 28) hx hb dX10_way_11 (by decide) (fun c_16 => ?_) (fun c_16 => ?_)
    · replace hres := hres.trans (if_pos c_16)
      refine lv_ldc (own := RX10) (v := (-1000001)) hx hb hown (hts _ (List.mem_cons_of_mem _ wd_174)) dX10_way_28 ?_
      exact x_reti hx hb hr hlk hP hS (hres.symm.trans hF) dX10_way_30
    · replace hres := hres.trans (if_neg c_16)
      refine lv_aloadN hx hb dX10_way_14 (lv_at hl 0 rfl) ?_
      refine lv_ifnullN (tgt := 28) hx hb dX10_way_16 (by decide) ?_
      refine lv_ldc (own := RX10) (v := (-1000001)) hx hb hown (hts _ (List.mem_cons_of_mem _ wd_174)) dX10_way_28 ?_
      exact x_reti hx hb hr hlk hP hS (hres.symm.trans hF) dX10_way_30
  · replace hres := xopt_s hres o_12
    have hq_14 := (ob_X10_way_2_q nb nn town sh i z days what M hp0 hp1 hp2 hp3 i_11 o_12)
    have hi_13 := hq_14.1
    refine lv_astore (lv' := [(7, .ref (xad g 24 i_11)), (0, .ref (xad g 0 0)), (1, .int town), (2, .int sh), (3, .int i), (4, .int z), (5, .int days), (6, .int what)]) hx hb dX10_way_5 hl (by decide) rfl (fun ls hl => ?_)
    refine lv_iload_n hx hb dX10_way_7 rfl (lv_at hl 2 rfl) ?_
    refine x_callSi (As := [.int town]) S hK hAm hD hP hS mt_X10_isTown wd_268 ⟨by decide, by decide⟩ (c_X10_isTown l nb nn g L M hD hL town) rfl hl.1 (Nat.le_of_ble_eq_true rfl) ⟨Nat.zero_le _, Nat.zero_le _⟩ dX10_way_8 rfl (fun r_17 u H locs hp_ hP hS => ?_)
    obtain ⟨er_17, eu_⟩ := hp_
    rw [eu_] at hP
    clear eu_
    replace hres := xlet_n hres er_17
    refine lv_if_eq (tgt := 28) hx hb dX10_way_11 (by decide) (fun c_18 => ?_) (fun c_18 => ?_)
    · replace hres := hres.trans (if_pos c_18)
      refine lv_ldc (own := RX10) (v := (-1000001)) hx hb hown (hts _ (List.mem_cons_of_mem _ wd_174)) dX10_way_28 ?_
      exact x_reti hx hb hr hlk hP hS (hres.symm.trans hF) dX10_way_30
    · replace hres := hres.trans (if_neg c_18)
      refine lv_aload hx hb dX10_way_14 (lv_at hl 0 rfl) ?_
      refine lv_ifnull hx hb dX10_way_16 ?_
      refine lv_iload hx hb dX10_way_19 (lv_at hl 7 rfl) ?_
      refine lv_iconst (v := 1) hx hb dX10_way_21 (by decide) ?_
      refine x_callSi (As := [.int what, .int 1]) S hK hAm hD hP hS mt_X10_isUpTo wd_179 ⟨by decide, by decide⟩ (c_X10_isUpTo l nb nn g L M hD hL what 1) rfl hl.1 (Nat.le_of_ble_eq_true rfl) ⟨Nat.zero_le _, Nat.zero_le _⟩ dX10_way_22 rfl (fun r_19 u H locs hp_ hP hS => ?_)
      obtain ⟨er_19, eu_⟩ := hp_
      rw [eu_] at hP
      clear eu_
      replace hres := xlet_n hres er_19
      refine lv_if_ne (tgt := 31) hx hb dX10_way_25 (by decide) (fun c_20 => ?_) (fun c_20 => ?_)
      · replace hres := hres.trans (if_neg c_20)
        refine lv_iload hx hb dX10_way_31 (lv_at hl 5 rfl) ?_
        refine lv_iconst (v := 1) hx hb dX10_way_33 (by decide) ?_
        refine lv_icmp_lt (tgt := 57) hx hb dX10_way_34 (by decide) (fun c_21 => ?_) (fun c_21 => ?_)
        · replace hres := hres.trans (if_pos c_21)
          refine lv_ldc (own := RX10) (v := (-1000001)) hx hb hown (hts _ (List.mem_cons_of_mem _ wd_174)) dX10_way_57 ?_
          exact x_reti hx hb hr hlk hP hS (hres.symm.trans hF) dX10_way_59
        · replace hres := hres.trans (if_neg c_21)
          refine lv_iload hx hb dX10_way_37 (lv_at hl 5 rfl) ?_
          refine lv_bipush (v := 8) hx hb dX10_way_39 (by decide) ?_
          refine lv_icmp_gt (tgt := 57) hx hb dX10_way_41 (by decide) (fun c_22 => ?_) (fun c_22 => ?_)
          · replace hres := hres.trans (if_pos c_22)
            refine lv_ldc (own := RX10) (v := (-1000001)) hx hb hown (hts _ (List.mem_cons_of_mem _ wd_174)) dX10_way_57 ?_
            exact x_reti hx hb hr hlk hP hS (hres.symm.trans hF) dX10_way_59
          · replace hres := hres.trans (if_neg c_22)
            refine lv_iload hx hb dX10_way_44 (lv_at hl 6 rfl) ?_
            refine lv_iconst (v := 1) hx hb dX10_way_46 (by decide) ?_
            refine lv_icmp_lt (tgt := 57) hx hb dX10_way_47 (by decide) (fun c_23 => ?_) (fun c_23 => ?_)
            · replace hres := hres.trans (if_pos c_23)
              refine lv_ldc (own := RX10) (v := (-1000001)) hx hb hown (hts _ (List.mem_cons_of_mem _ wd_174)) dX10_way_57 ?_
              exact x_reti hx hb hr hlk hP hS (hres.symm.trans hF) dX10_way_59
            · replace hres := hres.trans (if_neg c_23)
              refine lv_iload hx hb dX10_way_50 (lv_at hl 6 rfl) ?_
              refine lv_bipush (v := 6) hx hb dX10_way_52 (by decide) ?_
              refine lv_icmp_le (tgt := 60) hx hb dX10_way_54 (by decide) (fun c_24 => ?_) (fun c_24 => ?_)
              · replace hres := hres.trans (if_pos c_24)
                refine lv_aload hx hb dX10_way_60 (lv_at hl 0 rfl) ?_
                refine x_callVi (As := []) S hK hAm hD hP hS mt_X6_isMissing wd_220 ⟨by decide, by decide⟩ (hL 24 i_11 hi_13) (xc24 g i_11) rfl (c_X6_isMissing l nb nn g L M hD hL i_11 hi_13) rfl hl.1 (Nat.le_of_ble_eq_true rfl) ⟨Nat.zero_le _, Nat.zero_le _⟩ dX10_way_62 rfl (fun r_25 u H locs hp_ hP hS => ?_)
                obtain ⟨er_25, eu_⟩ := hp_
                rw [eu_] at hP
                clear eu_
                replace hres := xlet_n hres er_25
                refine lv_if_eq (tgt := 74) hx hb dX10_way_65 (by decide) (fun c_26 => ?_) (fun c_26 => ?_)
                · replace hres := hres.trans (if_pos c_26)
                  refine lv_aload hx hb dX10_way_74 (lv_at hl 0 rfl) ?_
                  refine lv_iload_n hx hb dX10_way_76 rfl (lv_at hl 4 rfl) ?_
                  refine lv_iload hx hb dX10_way_77 (lv_at hl 5 rfl) ?_
                  refine x_callVi (As := [.int i, .int z]) S hK hAm hD hP hS mt_X6_hasPlaces wd_224 ⟨by decide, by decide⟩ (hL 24 i_11 hi_13) (xc24 g i_11) rfl (c_X6_hasPlaces l nb nn g L M hD hL i_11 i z hi_13) rfl hl.1 (Nat.le_of_ble_eq_true rfl) ⟨Nat.zero_le _, Nat.zero_le _⟩ dX10_way_79 rfl (fun r_27 u H locs hp_ hP hS => ?_)
                  obtain ⟨er_27, eu_⟩ := hp_
                  rw [eu_] at hP
                  clear eu_
                  replace hres := xlet_n hres er_27
                  refine lv_if_ne (tgt := 91) hx hb dX10_way_82 (by decide) (fun c_28 => ?_) (fun c_28 => ?_)
                  · replace hres := hres.trans (if_neg c_28)
                    refine lv_aload_n hx hb dX10_way_91 rfl (lv_at hl 1 rfl) ?_
                    refine lv_aload hx hb dX10_way_92 (lv_at hl 0 rfl) ?_
                    refine lv_iload_n hx hb dX10_way_94 rfl (lv_at hl 4 rfl) ?_
                    refine lv_iload hx hb dX10_way_95 (lv_at hl 5 rfl) ?_
                    refine x_callVi (As := [.ref (xad g 24 i_11), .int i, .int z]) S hK hAm hD hP hS mt_X10_areDifferentNotes wd_924 ⟨by decide, by decide⟩ (hL 0 0 (xe_0 nb nn)) (xc0 g 0) rfl (c_X10_areDifferentNotes l nb nn g L M hD hL i_11 i z hi_13 (ob_X10_way_97_p0 nb nn town sh i z days what M hp0 hp1 hp2 hp3 i_11 o_12 hq_14 hi_13 r_17 er_17 c_18 r_19 er_19 c_20 c_21 c_22 c_23 c_24 r_25 er_25 c_26 r_27 er_27 c_28) (ob_X10_way_97_p1 nb nn town sh i z days what M hp0 hp1 hp2 hp3 i_11 o_12 hq_14 hi_13 r_17 er_17 c_18 r_19 er_19 c_20 c_21 c_22 c_23 c_24 r_25 er_25 c_26 r_27 er_27 c_28) (ob_X10_way_97_p2 nb nn town sh i z days what M hp0 hp1 hp2 hp3 i_11 o_12 hq_14 hi_13 r_17 er_17 c_18 r_19 er_19 c_20 c_21 c_22 c_23 c_24 r_25 er_25 c_26 r_27 er_27 c_28) (ob_X10_way_97_p3 nb nn town sh i z days what M hp0 hp1 hp2 hp3 i_11 o_12 hq_14 hi_13 r_17 er_17 c_18 r_19 er_19 c_20 c_21 c_22 c_23 c_24 r_25 er_25 c_26 r_27 er_27 c_28) (ob_X10_way_97_p4 nb nn town sh i z days what M hp0 hp1 hp2 hp3 i_11 o_12 hq_14 hi_13 r_17 er_17 c_18 r_19 er_19 c_20 c_21 c_22 c_23 c_24 r_25 er_25 c_26 r_27 er_27 c_28) (ob_X10_way_97_p5 nb nn town sh i z days what M hp0 hp1 hp2 hp3 i_11 o_12 hq_14 hi_13 r_17 er_17 c_18 r_19 er_19 c_20 c_21 c_22 c_23 c_24 r_25 er_25 c_26 r_27 er_27 c_28)) rfl hl.1 (Nat.le_of_ble_eq_true rfl) ⟨Nat.zero_le _, Nat.zero_le _⟩ dX10_way_97 rfl (fun r_29 u H locs hp_ hP hS => ?_)
                    obtain ⟨er_29, eu_⟩ := hp_
                    rw [eu_] at hP
                    clear eu_
                    replace hres := xlet_n hres er_29
                    refine lv_if_ne (tgt := 106) hx hb dX10_way_100 (by decide) (fun c_30 => ?_) (fun c_30 => ?_)
                    · replace hres := hres.trans (if_neg c_30)
                      refine lv_iconst (v := 0) hx hb dX10_way_106 (by decide) ?_
                      refine lv_istore (lv' := [(8, .int 0), (7, .ref (xad g 24 i_11)), (0, .ref (xad g 0 0)), (1, .int town), (2, .int sh), (3, .int i), (4, .int z), (5, .int days), (6, .int what)]) hx hb dX10_way_107 hl (by decide) rfl (fun ls hl => ?_)
                      refine k_109 i_11 hi_13 (xmu (0 : Int32) z + 1) (0 : Int32) M _ _ _ _ (Nat.lt_succ_self _) (ob_X10_way_109_ini_30 nb nn town sh i z days what M hp0 hp1 hp2 hp3 i_11 o_12 hq_14 hi_13 r_17 er_17 c_18 r_19 er_19 c_20 c_21 c_22 c_23 c_24 r_25 er_25 c_26 r_27 er_27 c_28 r_29 er_29 c_30) hres hP hS (lv_sub hl [2, 3, 4, 5, 6, 7, 8, 1, 0] rfl) ?_
                      clear hres hP hS hl
                      intro k_31 M_32 H locs ls hiv_32 hres hP hS hl
                      refine lv_aload_n hx hb dX10_way_142 rfl (lv_at hl 0 rfl) ?_
                      refine gf_RX10_73 hx hb hts hown hK hP (hL 0 0 (xe_0 nb nn)) dX10_way_143 ?_
                      refine lv_aload_n hx hb dX10_way_146 rfl (lv_at hl 0 rfl) ?_
                      refine gf_RX10_18 hx hb hts hown hK hP (hL 0 0 (xe_0 nb nn)) dX10_way_147 ?_
                      refine lv_iload_n hx hb dX10_way_150 rfl (lv_at hl 1 rfl) ?_
                      refine lv_iload hx hb dX10_way_151 (lv_at hl 4 rfl) ?_
                      refine lv_iload hx hb dX10_way_153 (lv_at hl 5 rfl) ?_
                      refine x_callVv (As := [.ref (xad g 2 0), .int town, .int z, .int days]) S hK hAm hD hP hS mt_X3_plan wd_936 ⟨by decide, by decide⟩ (hL 11 0 (xe_11 nb nn)) (xc11 g 0) rfl (c_X3_plan l nb nn g L M_32 hD hL town z days (ob_X10_way_155_p0 nb nn town sh i z days what M hp0 hp1 hp2 hp3 i_11 o_12 hq_14 hi_13 r_17 er_17 c_18 r_19 er_19 c_20 c_21 c_22 c_23 c_24 r_25 er_25 c_26 r_27 er_27 c_28 r_29 er_29 c_30 k_31 M_32 hiv_32) (ob_X10_way_155_p1 nb nn town sh i z days what M hp0 hp1 hp2 hp3 i_11 o_12 hq_14 hi_13 r_17 er_17 c_18 r_19 er_19 c_20 c_21 c_22 c_23 c_24 r_25 er_25 c_26 r_27 er_27 c_28 r_29 er_29 c_30 k_31 M_32 hiv_32) (ob_X10_way_155_p2 nb nn town sh i z days what M hp0 hp1 hp2 hp3 i_11 o_12 hq_14 hi_13 r_17 er_17 c_18 r_19 er_19 c_20 c_21 c_22 c_23 c_24 r_25 er_25 c_26 r_27 er_27 c_28 r_29 er_29 c_30 k_31 M_32 hiv_32)) rfl hl.1 (Nat.le_of_ble_eq_true rfl) ⟨Nat.zero_le _, Nat.zero_le _⟩ dX10_way_155 rfl (fun M_34 H locs eM_34 hP hS => ?_)
                      replace hres := xlet_n hres eM_34
                      refine lv_aload_n hx hb dX10_way_158 rfl (lv_at hl 0 rfl) ?_
                      refine lv_iload hx hb dX10_way_159 (lv_at hl 6 rfl) ?_
                      refine lv_if_ne (tgt := 174) hx hb dX10_way_161 (by decide) (fun c_35 => ?_) (fun c_35 => ?_)
                      · replace hres := hres.trans (if_neg c_35)
                        refine lv_aload_n hx hb dX10_way_174 rfl (lv_at hl 0 rfl) ?_
                        refine gf_RX10_73 hx hb hts hown hK hP (hL 0 0 (xe_0 nb nn)) dX10_way_175 ?_
                        refine gf_RX10_341 hx hb hts hown hK hP (hL 11 0 (xe_11 nb nn)) dX10_way_178 ?_
                        refine x_callVi (As := [.int (M_34 11 0 6)]) S hK hAm hD hP hS mt_X10_foundNothing wd_192 ⟨by decide, by decide⟩ (hL 0 0 (xe_0 nb nn)) (xc0 g 0) rfl (c_X10_foundNothing l nb nn g L M_34 hD hL (M_34 11 0 6)) rfl hl.1 (Nat.le_of_ble_eq_true rfl) ⟨Nat.zero_le _, Nat.zero_le _⟩ dX10_way_181 rfl (fun r_36 M_37 H locs ep_ hP hS => ?_)
                        replace hres := xlet2_n hres ep_
                        have er_36 : r_36 = (f_X10_foundNothing (M_34 11 0 6) M_34).1 := congrArg Prod.fst ep_
                        have eM_37 : M_37 = (f_X10_foundNothing (M_34 11 0 6) M_34).2 := congrArg Prod.snd ep_
                        clear ep_
                        exact x_reti hx hb hr hlk hP hS (hres.symm.trans hF) dX10_way_184
                      · replace hres := hres.trans (if_pos c_35)
                        refine lv_aload_n hx hb dX10_way_164 rfl (lv_at hl 0 rfl) ?_
                        refine gf_RX10_73 hx hb hts hown hK hP (hL 0 0 (xe_0 nb nn)) dX10_way_165 ?_
                        refine gf_RX10_338 hx hb hts hown hK hP (hL 11 0 (xe_11 nb nn)) dX10_way_168 ?_
                        refine lv_goto (tgt := 181) hx hb dX10_way_171 (by decide) ?_
                        refine x_callVi (As := [.int (M_34 11 0 5)]) S hK hAm hD hP hS mt_X10_foundNothing wd_192 ⟨by decide, by decide⟩ (hL 0 0 (xe_0 nb nn)) (xc0 g 0) rfl (c_X10_foundNothing l nb nn g L M_34 hD hL (M_34 11 0 5)) rfl hl.1 (Nat.le_of_ble_eq_true rfl) ⟨Nat.zero_le _, Nat.zero_le _⟩ dX10_way_181 rfl (fun r_38 M_39 H locs ep_ hP hS => ?_)
                        replace hres := xlet2_n hres ep_
                        have er_38 : r_38 = (f_X10_foundNothing (M_34 11 0 5) M_34).1 := congrArg Prod.fst ep_
                        have eM_39 : M_39 = (f_X10_foundNothing (M_34 11 0 5) M_34).2 := congrArg Prod.snd ep_
                        clear ep_
                        exact x_reti hx hb hr hlk hP hS (hres.symm.trans hF) dX10_way_184
                    · replace hres := hres.trans (if_pos c_30)
                      refine lv_ldc (own := RX10) (v := (-1000001)) hx hb hown (hts _ (List.mem_cons_of_mem _ wd_174)) dX10_way_103 ?_
                      exact x_reti hx hb hr hlk hP hS (hres.symm.trans hF) dX10_way_105
                  · replace hres := hres.trans (if_pos c_28)
                    refine lv_aload_n hx hb dX10_way_85 rfl (lv_at hl 1 rfl) ?_
                    refine lv_iconst (v := 2) hx hb dX10_way_86 (by decide) ?_
                    refine x_callVi (As := [.int 2]) S hK hAm hD hP hS mt_X10_found wd_182 ⟨by decide, by decide⟩ (hL 0 0 (xe_0 nb nn)) (xc0 g 0) rfl (c_X10_found l nb nn g L M hD hL 2) rfl hl.1 (Nat.le_of_ble_eq_true rfl) ⟨Nat.zero_le _, Nat.zero_le _⟩ dX10_way_87 rfl (fun r_40 M_41 H locs ep_ hP hS => ?_)
                    replace hres := xlet2_n hres ep_
                    have er_40 : r_40 = (f_X10_found 2 M).1 := congrArg Prod.fst ep_
                    have eM_41 : M_41 = (f_X10_found 2 M).2 := congrArg Prod.snd ep_
                    clear ep_
                    exact x_reti hx hb hr hlk hP hS (hres.symm.trans hF) dX10_way_90
                · replace hres := hres.trans (if_neg c_26)
                  refine lv_aload_n hx hb dX10_way_68 rfl (lv_at hl 1 rfl) ?_
                  refine lv_iconst (v := 1) hx hb dX10_way_69 (by decide) ?_
                  refine x_callVi (As := [.int 1]) S hK hAm hD hP hS mt_X10_found wd_182 ⟨by decide, by decide⟩ (hL 0 0 (xe_0 nb nn)) (xc0 g 0) rfl (c_X10_found l nb nn g L M hD hL 1) rfl hl.1 (Nat.le_of_ble_eq_true rfl) ⟨Nat.zero_le _, Nat.zero_le _⟩ dX10_way_70 rfl (fun r_42 M_43 H locs ep_ hP hS => ?_)
                  replace hres := xlet2_n hres ep_
                  have er_42 : r_42 = (f_X10_found 1 M).1 := congrArg Prod.fst ep_
                  have eM_43 : M_43 = (f_X10_found 1 M).2 := congrArg Prod.snd ep_
                  clear ep_
                  exact x_reti hx hb hr hlk hP hS (hres.symm.trans hF) dX10_way_73
              · replace hres := hres.trans (if_neg c_24)
                refine lv_ldc (own := RX10) (v := (-1000001)) hx hb hown (hts _ (List.mem_cons_of_mem _ wd_174)) dX10_way_57 ?_
                exact x_reti hx hb hr hlk hP hS (hres.symm.trans hF) dX10_way_59
      · replace hres := hres.trans (if_pos c_20)
        refine lv_ldc (own := RX10) (v := (-1000001)) hx hb hown (hts _ (List.mem_cons_of_mem _ wd_174)) dX10_way_28 ?_
        exact x_reti hx hb hr hlk hP hS (hres.symm.trans hF) dX10_way_30
