def f_X10_sheet (sh : Int32) (ln : Int32) (z : Int32) (M : xM) : Int32 × xM :=
  xopt (f_X10_sheetOf sh M) (((-1000001), M)) (fun i_2 => xlet (xb (f_X10_isUpTo ln 2 M)) fun r_6 => if r_6 = 0 then ((-1000001), M) else if z ≤ 60 then if 0 ≤ z then xlet (f_X6_begin i_2 ln z M) fun M_11 => xlet2 (f_X10_foundNothing z M_11) fun r_12 M_13 => (r_12, M_13) else xlet2 (f_X10_found 4 M) fun r_14 M_15 => (r_14, M_15) else ((-1000001), M))
def f_X10_set (sh : Int32) (i : Int32) (v : Int32) (M : xM) : Int32 × xM :=
  xopt (f_X10_sheetOf sh M) (((-1000001), M)) (fun i_2 => xlet (xb (f_X6_isMissing i_2 M)) fun r_6 => if r_6 = 0 then xlet (xb (f_X6_hasPlaces i_2 i 1 M)) fun r_8 => if r_8 = 0 then xlet2 (f_X10_found 2 M) fun r_14 M_15 => (r_14, M_15) else xlet2 (f_X6_put i_2 i v M) fun r_10 M_11 => xlet2 (f_X10_foundNothing r_10 M_11) fun r_12 M_13 => (r_12, M_13) else xlet2 (f_X10_found 1 M) fun r_16 M_17 => (r_16, M_17))
def f_X10_drop (sh : Int32) (M : xM) : Int32 × xM :=
  xopt (f_X10_sheetOf sh M) (((-1000001), M)) (fun i_2 => xlet (xb (f_X6_isMissing i_2 M)) fun r_6 => if r_6 = 0 then xlet (M 24 i_2 2) fun x3_8 => xlet (f_X6_discard i_2 M) fun M_10 => xlet2 (f_X10_foundNothing x3_8 M_10) fun r_11 M_12 => (r_11, M_12) else xlet2 (f_X10_found 1 M) fun r_13 M_14 => (r_13, M_14))
def f_X10_road (a : Int32) (b : Int32) (v : Int32) (M : xM) : Int32 × xM :=
  xlet (xb (f_X10_isTown a M)) fun r_1 => if r_1 = 0 then ((-1000001), M) else xlet (xb (f_X10_isTown b M)) fun r_3 => if r_3 = 0 then ((-1000001), M) else if a = b then ((-1000001), M) else xlet (xb (f_X10_isUpTo v 500 M)) fun r_6 => if r_6 = 0 then ((-1000001), M) else xlet (f_X5_milesBetween a b M) fun r_8 => xlet (f_X5_build a b v M) fun M_10 => (r_8, M_10)
def f_X10_far (a : Int32) (b : Int32) (M : xM) : Int32 :=
  xlet (xb (f_X10_isTown a M)) fun r_1 => if r_1 = 0 then (-1000001) else xlet (xb (f_X10_isTown b M)) fun r_3 => if r_3 = 0 then (-1000001) else xlet (f_X5_fewestMiles a b M) fun r_5 => r_5
def f_X10_house (bk : Int32) (what : Int32) (M : xM) : Int32 :=
  xopt (f_X10_bankOf bk M) ((-1000001)) (fun i_2 => if what = 0 then (M 27 i_2 0) else if what = 1 then (M 27 i_2 2) else if what = 2 then (M 27 i_2 1) else if what = 3 then if (M 27 i_2 4) = 0 then 0 else 1 else if what = 4 then (M 27 i_2 3) else (-1000001))
def f_X10_hold (bk : Int32) (other : Int32) (v : Int32) (M : xM) : Int32 × xM :=
  xopt (f_X10_bankOf bk M) (((-1000001), M)) (fun i_2 => xopt (f_X10_bankOf other M) (((-1000001), M)) (fun i_7 => if bk = other then xlet (xb (f_X10_isUpTo v 99999 M)) fun r_17 => if r_17 = 0 then ((-1000001), M) else xlet2 (f_X0_changeNeed i_2 v M) fun r_20 M_21 => (r_20, M_21) else xlet (xb (f_X10_isUpTo v 9999 M)) fun r_12 => if r_12 = 0 then ((-1000001), M) else xlet2 (f_X0_changeHeld i_2 other v M) fun r_15 M_16 => (r_15, M_16)))
def f_X10_shutBanks_L4  (M : xM) : Nat → Int32 → Int32 → (Int32 → Int32 → Int32) → Int32
  | 0, _, _, _ => 0
  | n + 1, shut, i, kx => if (M 0 0 12) ≤ i then kx shut i else xopt (f_X10_bankOf i M) (xlet (i + 1) fun x2_7 => f_X10_shutBanks_L4 M n shut x2_7 kx) (fun i_3 => if (M 27 i_3 4) = 0 then xlet (i + 1) fun x2_9 => f_X10_shutBanks_L4 M n shut x2_9 kx else xlet (shut ||| ((1 : Int32) <<< (i &&& 31))) fun x1_10 => xlet (i + 1) fun x2_11 => f_X10_shutBanks_L4 M n x1_10 x2_11 kx)
def f_X10_shutBanks  (M : xM) : Int32 :=
  f_X10_shutBanks_L4 M (xmu (0 : Int32) (M 0 0 12) + 1) (0 : Int32) (0 : Int32) (fun shut_12 i_13 => shut_12)
def f_X10_banksInNeed_L4 (fallen : Int32) (M : xM) : Nat → Int32 → Int32 → (Int32 → Int32 → Int32) → Int32
  | 0, _, _, _ => 0
  | n + 1, inNeed, i, kx => if (M 0 0 12) ≤ i then kx inNeed i else xopt (f_X10_bankOf i M) (xlet (i + 1) fun x3_7 => f_X10_banksInNeed_L4 fallen M n inNeed x3_7 kx) (fun i_3 => xlet (xb (f_X0_isInNeed i_3 fallen M)) fun r_8 => if r_8 = 0 then xlet (i + 1) fun x3_10 => f_X10_banksInNeed_L4 fallen M n inNeed x3_10 kx else xlet (inNeed ||| ((1 : Int32) <<< (i &&& 31))) fun x2_11 => xlet (i + 1) fun x3_12 => f_X10_banksInNeed_L4 fallen M n x2_11 x3_12 kx)
def f_X10_banksInNeed (fallen : Int32) (M : xM) : Int32 :=
  f_X10_banksInNeed_L4 fallen M (xmu (0 : Int32) (M 0 0 12) + 1) (0 : Int32) (0 : Int32) (fun inNeed_13 i_14 => inNeed_13)
def f_X10_falls_L21 (what : Int32) (M : xM) : Nat → Int32 → Int32 → Int32 → (Int32 → Int32 → Int32 → Int32) → Int32
  | 0, _, _, _, _ => 0
  | n + 1, fallen, rounds, rnd, kx => if 8 ≤ rnd then kx fallen rounds rnd else xlet (f_X10_banksInNeed fallen M) fun r_2 => xlet (fallen ||| r_2) fun x5_3 => if x5_3 = fallen then kx fallen rounds rnd else xlet (rounds + 1) fun x3_5 => xlet (rnd + 1) fun x4_6 => f_X10_falls_L21 what M n x5_3 x3_5 x4_6 kx
def f_X10_falls (what : Int32) (M : xM) : Int32 :=
  xlet (xb (f_X10_isUpTo what 1 M)) fun r_7 => if r_7 = 0 then (-1000001) else xlet (f_X10_shutBanks M) fun r_9 => f_X10_falls_L21 what M (xmu (0 : Int32) 8 + 1) r_9 (0 : Int32) (0 : Int32) (fun fallen_10 rounds_11 rnd_12 => if what = 0 then fallen_10 else rounds_11)
def f_X10_week (w : Int32) (M : xM) : Int32 × xM :=
  if w < (M 0 0 14) then ((-1000001), M) else if w ≤ 299 then xlet (M 0 0 14) fun x2_3 => xlet (xup M 0 0 14 w) fun M_4 => (x2_3, M_4) else ((-1000001), M)
def f_X10_feed (wd : Int64) (z : Int32) (M : xM) : Int32 × xM :=
  if z < 1 then ((-1000001), M) else if z ≤ 8 then xlet (xb (f_X7_hasRoom z M)) fun r_3 => if r_3 = 0 then ((-1000003), M) else xlet (f_X7_append wd z M) fun M_6 => ((M_6 5 0 2), M_6) else ((-1000001), M)
def f_X10_fault  (M : xM) : Int32 :=
  (M 0 0 15)
def f_X10_newestBook (town : Int32) (w : Int32) (M : xM) : Int32 :=
  xlet (f_X5_fewestMiles 0 town M) fun r_1 => if r_1 = (-1000000) then (-1) else (w - (r_1 / 100))
def f_X10_known (town : Int32) (w : Int32) (bk : Int32) (what : Int32) (M : xM) : Int32 :=
  xlet (xb (f_X10_isTown town M)) fun r_1 => if r_1 = 0 then (-1000001) else xlet (xb (f_X10_isUpTo w 299 M)) fun r_3 => if r_3 = 0 then (-1000001) else xopt (f_X10_bankOf bk M) ((-1000001)) (fun i_6 => xlet (f_X10_newestBook town w M) fun r_10 => if what = 0 then xlet (f_X2_off bk r_10 M) fun r_12 => r_12 else if what = 1 then xlet (f_X2_latest 2 bk r_10 M) fun r_14 => r_14 else if what = 2 then xlet (f_X2_falsePlates bk r_10 M) fun r_16 => r_16 else (-1000001))
def f_X10_told (nt : Int32) (what : Int32) (M : xM) : Int32 :=
  xopt (f_X10_noteOf nt M) ((-1000001)) (fun i_2 => if what = 0 then (M 29 i_2 1) else if what = 1 then (M 29 i_2 2) else if what = 2 then (M 29 i_2 3) else if what = 3 then (M 29 i_2 4) else if what = 4 then xlet (f_X4_holder i_2 M) fun r_11 => r_11 else if what = 5 then if (M 29 i_2 5) = 1 then 1 else 0 else if what = 6 then if (M 29 i_2 5) = 2 then 1 else 0 else (-1000001))
def f_X10_looks (nt : Int32) (town : Int32) (w : Int32) (M : xM) : Int32 :=
  xopt (f_X10_noteOf nt M) ((-1000001)) (fun i_2 => xlet (xb (f_X10_isTown town M)) fun r_6 => if r_6 = 0 then (-1000001) else xlet (xb (f_X10_isUpTo w 299 M)) fun r_8 => if r_8 = 0 then (-1000001) else xopt (f_X10_bankOf (M 29 i_2 1) M) (0) (fun i_11 => xlet (xb (f_X4_isUnlike i_2 (M 27 i_11 1) M)) fun r_15 => if r_15 = 0 then if (M 29 i_2 4) = 0 then 1 else xlet (f_X10_newestBook town w M) fun r_18 => xlet (xb (f_X2_tellApart i_2 r_18 M)) fun r_19 => if r_19 = 0 then 2 else 1 else 0))
def f_X10_inTheHundred (nt : Nat) (town : Int32) (w : Int32) (M : xM) : Int32 :=
  xopt (f_X10_bankOf (M 29 nt 1) M) (0) (fun i_2 => xlet (xb (f_X4_isUnlike nt (M 27 i_2 1) M)) fun r_6 => if r_6 = 0 then xlet (f_X10_newestBook town w M) fun r_8 => xlet (f_X2_latest 2 (M 29 nt 1) r_8 M) fun r_9 => if r_9 = (-1000000) then xlet (f_X5_fewestMiles town (M 27 i_2 0) M) fun r_11 => if r_11 = (-1000000) then 0 else xlet (f_X2_off (M 29 nt 1) r_8 M) fun r_13 => (if 0 < ((100 - r_13) - (r_11 / 20)) then ((100 - r_13) - (r_11 / 20)) else 0) else r_9 else 0)
def f_X10_worth (nt : Int32) (town : Int32) (w : Int32) (M : xM) : Int32 :=
  xopt (f_X10_noteOf nt M) ((-1000001)) (fun i_2 => xlet (xb (f_X10_isTown town M)) fun r_6 => if r_6 = 0 then (-1000001) else xlet (xb (f_X10_isUpTo w 299 M)) fun r_8 => if r_8 = 0 then (-1000001) else xlet (f_X10_inTheHundred i_2 town w M) fun r_10 => ((M 29 i_2 2) * r_10))
def f_X10_hands (nt : Int32) (i : Int32) (what : Int32) (M : xM) : Int32 :=
  xopt (f_X10_noteOf nt M) ((-1000001)) (fun i_2 => if i < (-1) then (-1000001) else xlet (xb (f_X10_isUpTo what 1 M)) fun r_7 => if r_7 = 0 then (-1000001) else if i = (-1) then (M 29 i_2 6) else if what = 0 then xlet (f_X4_handTrader i_2 i M) fun r_12 => r_12 else xlet (f_X4_handWeek i_2 i M) fun r_11 => r_11)
def f_X10_trader (tr : Int32) (town : Int32) (takes : Int32) (M : xM) : Int32 × xM :=
  xopt (f_X10_traderOf tr M) (((-1000001), M)) (fun i_2 => xlet (xb (f_X10_isTown town M)) fun r_6 => if r_6 = 0 then ((-1000001), M) else xlet (xb (f_X10_isUpTo takes 100 M)) fun r_8 => if r_8 = 0 then ((-1000001), M) else xlet (xup M 26 i_2 0 town) fun M_10 => xlet (xup M_10 26 i_2 1 takes) fun M_11 => (1, M_11))
def f_X10_bears (nt : Int32) (weeks : Int32) (M : xM) : Int32 :=
  xopt (f_X10_noteOf nt M) ((-1000001)) (fun i_2 => xlet (xb (f_X10_isUpTo weeks 299 M)) fun r_6 => if r_6 = 0 then (-1000001) else if (M 29 i_2 5) = 0 then xlet (f_X4_bearer i_2 (M 0 0 14) weeks M) fun r_9 => r_9 else (-1000002))
def f_X10_home (nt : Int32) (M : xM) : Int32 × xM :=
  xopt (f_X10_noteOf nt M) (((-1000001), M)) (fun i_2 => xopt (f_X10_bankOf (M 29 i_2 1) M) (if (M 29 i_2 5) = 0 then ((-1000002), M) else ((-1000002), M)) (fun i_7 => if (M 29 i_2 5) = 0 then if (M 29 i_2 3) = (M 27 i_7 1) then xlet (xup M 29 i_2 5 1) fun M_14 => xlet2 (f_X0_payOut i_7 (M_14 29 i_2 2) M_14) fun r_15 M_16 => (r_15, M_16) else xlet (xup M 29 i_2 5 2) fun M_17 => (0, M_17) else ((-1000002), M)))
def f_X10_cut (nt : Int32) (to : Int32) (M : xM) : Int32 × xM :=
  xopt (f_X10_noteOf nt M) (((-1000001), M)) (fun i_2 => xopt (f_X10_traderOf to M) (((-1000001), M)) (fun i_7 => xlet (f_X4_holder i_2 M) fun r_11 => if r_11 = to then ((-1000001), M) else if (M 29 i_2 5) = 0 then if (M 29 i_2 7) = 0 then xlet (f_X4_halve i_2 to M) fun M_16 => (1, M_16) else ((-1000002), M) else ((-1000002), M)))
def f_X10_half (nt : Int32) (hf : Int32) (to : Int32) (M : xM) : Int32 × xM :=
  xopt (f_X10_noteOf nt M) (((-1000001), M)) (fun i_2 => xlet (xb (f_X10_isUpTo hf 1 M)) fun r_6 => if r_6 = 0 then ((-1000001), M) else if to = (-1000000) then if (M 29 i_2 5) = 3 then xlet (f_X4_halfHolder i_2 hf M) fun r_10 => if r_10 = (-1000000) then ((-1000002), M) else xlet (f_X4_moveHalf i_2 hf to (M 0 0 14) M) fun M_13 => xlet (f_X4_wouldBePaid i_2 M_13) fun r_14 => (r_14, M_13) else ((-1000002), M) else xopt (f_X10_traderOf to M) (((-1000001), M)) (fun i_16 => if (M 29 i_2 5) = 3 then xlet (f_X4_halfHolder i_2 hf M) fun r_21 => if r_21 = (-1000000) then ((-1000002), M) else xlet (f_X4_moveHalf i_2 hf to (M 0 0 14) M) fun M_24 => xlet (f_X4_wouldBePaid i_2 M_24) fun r_25 => (r_25, M_24) else ((-1000002), M)))
def f_X10_kindOf (nt : Nat) (M : xM) : Int32 :=
  if (M 29 nt 5) = 2 then 5 else if (M 29 nt 5) = 3 then 4 else xopt (f_X10_bankOf (M 29 nt 1) M) (3) (fun i_4 => xlet (xb (f_X4_isUnlike nt (M 27 i_4 1) M)) fun r_8 => if r_8 = 0 then if (M 29 nt 4) = 0 then 0 else 1 else 2)
def f_X10_kind (nt : Int32) (M : xM) : Int32 :=
  xopt (f_X10_noteOf nt M) ((-1000001)) (fun i_2 => xlet (f_X10_kindOf i_2 M) fun r_6 => r_6)
def f_X10_as (nt : Int32) (kd : Int32) (M : xM) : Int32 × xM :=
  xopt (f_X10_noteOf nt M) (((-1000001), M)) (fun i_2 => xlet (xb (f_X10_isUpTo kd 5 M)) fun r_6 => if r_6 = 0 then ((-1000001), M) else xlet (f_X10_kindOf i_2 M) fun r_8 => xlet (xb (f_X10_isOfKind r_8 kd M)) fun r_9 => if r_9 = 0 then xlet2 (f_X10_found 3 M) fun r_13 M_14 => (r_13, M_14) else xlet2 (f_X10_foundNothing (M 29 i_2 2) M) fun r_11 M_12 => (r_11, M_12))
def f_X10_trace (i : Int32) (M : xM) : Int32 :=
  xlet (f_X8_number i M) fun r_1 => r_1
def f_X10_status  (M : xM) : Int32 :=
  (M 0 0 16)
def f_X10_sheetsThere_L4  (M : xM) : Nat → Int32 → Int32 → (Int32 → Int32 → Int32) → Int32
  | 0, _, _, _ => 0
  | n + 1, there, i, kx => if 8 ≤ i then kx there i else xopt (f_X10_sheetOf i M) (xlet (i + 1) fun x2_7 => f_X10_sheetsThere_L4 M n there x2_7 kx) (fun i_3 => xlet (xb (f_X6_isMissing i_3 M)) fun r_8 => if r_8 = 0 then xlet (there + 1) fun x1_11 => xlet (i + 1) fun x2_12 => f_X10_sheetsThere_L4 M n x1_11 x2_12 kx else xlet (i + 1) fun x2_10 => f_X10_sheetsThere_L4 M n there x2_10 kx)
def f_X10_sheetsThere  (M : xM) : Int32 :=
  f_X10_sheetsThere_L4 M (xmu (0 : Int32) 8 + 1) (0 : Int32) (0 : Int32) (fun there_13 i_14 => there_13)
def f_X10_notesThatAre_L4 (where_ : Int32) (M : xM) : Nat → Int32 → Int32 → (Int32 → Int32 → Int32) → Int32
  | 0, _, _, _ => 0
  | n + 1, there, i, kx => if (M 0 0 13) ≤ i then kx there i else xopt (f_X10_noteOf i M) (xlet (i + 1) fun x3_7 => f_X10_notesThatAre_L4 where_ M n there x3_7 kx) (fun i_3 => if (M 29 i_3 5) = where_ then xlet (there + 1) fun x2_10 => xlet (i + 1) fun x3_11 => f_X10_notesThatAre_L4 where_ M n x2_10 x3_11 kx else xlet (i + 1) fun x3_9 => f_X10_notesThatAre_L4 where_ M n there x3_9 kx)
def f_X10_notesThatAre (where_ : Int32) (M : xM) : Int32 :=
  f_X10_notesThatAre_L4 where_ M (xmu (0 : Int32) (M 0 0 13) + 1) (0 : Int32) (0 : Int32) (fun there_12 i_13 => there_12)
def f_X10_count (what : Int32) (M : xM) : Int32 :=
  if what = 0 then xlet (f_X10_sheetsThere M) fun r_2 => r_2 else if what = 1 then (M 0 0 12) else if what = 2 then xlet (f_X10_shutBanks M) fun r_5 => xlet (f_J6_bitCount_0f7a4 r_5 M) fun r_6 => r_6 else if what = 3 then (M 4 0 4) else if what = 4 then (M 0 0 13) else if what = 5 then xlet (f_X10_notesThatAre 0 M) fun r_10 => r_10 else if what = 6 then xlet (f_X10_notesThatAre 2 M) fun r_12 => r_12 else if what = 7 then xlet (f_X10_notesThatAre 3 M) fun r_14 => r_14 else if what = 8 then (M 5 0 2) else if what = 9 then (M 0 0 14) else (-1000001)
theorem ob_X10_sheet_2_p0 (nb nn : Nat) (sh : Int32) (ln : Int32) (z : Int32) (M : xM) (hp0 : xHS M) : xHS M := by
  subst_vars
  grind [isUpTo_eq, isTown10_eq, xb, sheetOf_s, traderOf_s, bankOf_s, noteOf_s, hasPl, xup_at, xHB_o, xHN_o]
theorem ob_X10_sheet_2_q (nb nn : Nat) (sh : Int32) (ln : Int32) (z : Int32) (M : xM) (hp0 : xHS M) (i_2 : Nat) (o_3 : f_X10_sheetOf sh M = some i_2) : i_2 < 8 ∧ 0 ≤ sh ∧ sh ≤ 7 ∧ i_2 = sh.toNatClampNeg := by
  exact sheetOf_s o_3
theorem ob_X10_set_2_p0 (nb nn : Nat) (sh : Int32) (i : Int32) (v : Int32) (M : xM) (hp0 : xHS M) (hp1 : ∀ i : Nat, 0 ≤ M 24 i 2 ∧ M 24 i 2 ≤ 60) : xHS M := by
  subst_vars
  grind [isUpTo_eq, isTown10_eq, xb, sheetOf_s, traderOf_s, bankOf_s, noteOf_s, hasPl, xup_at, xHB_o, xHN_o]
theorem ob_X10_set_2_q (nb nn : Nat) (sh : Int32) (i : Int32) (v : Int32) (M : xM) (hp0 : xHS M) (hp1 : ∀ i : Nat, 0 ≤ M 24 i 2 ∧ M 24 i 2 ≤ 60) (i_2 : Nat) (o_3 : f_X10_sheetOf sh M = some i_2) : i_2 < 8 ∧ 0 ≤ sh ∧ sh ≤ 7 ∧ i_2 = sh.toNatClampNeg := by
  exact sheetOf_s o_3
theorem ob_X10_set_50_p0 (nb nn : Nat) (sh : Int32) (i : Int32) (v : Int32) (M : xM) (hp0 : xHS M) (hp1 : ∀ i : Nat, 0 ≤ M 24 i 2 ∧ M 24 i 2 ≤ 60) (i_2 : Nat) (o_3 : f_X10_sheetOf sh M = some i_2) (hq_5 : i_2 < 8 ∧ 0 ≤ sh ∧ sh ≤ 7 ∧ i_2 = sh.toNatClampNeg) (hi_4 : i_2 < 8) (r_6 : Int32) (er_6 : r_6 = xb (f_X6_isMissing i_2 M)) (c_7 : r_6 = 0) (r_8 : Int32) (er_8 : r_8 = xb (f_X6_hasPlaces i_2 i 1 M)) (c_9 : ¬ r_8 = 0) : 0 ≤ M 24 i_2 2 := by
  subst_vars
  grind [isUpTo_eq, isTown10_eq, xb, sheetOf_s, traderOf_s, bankOf_s, noteOf_s, hasPl, xup_at, xHB_o, xHN_o]
theorem ob_X10_set_50_p1 (nb nn : Nat) (sh : Int32) (i : Int32) (v : Int32) (M : xM) (hp0 : xHS M) (hp1 : ∀ i : Nat, 0 ≤ M 24 i 2 ∧ M 24 i 2 ≤ 60) (i_2 : Nat) (o_3 : f_X10_sheetOf sh M = some i_2) (hq_5 : i_2 < 8 ∧ 0 ≤ sh ∧ sh ≤ 7 ∧ i_2 = sh.toNatClampNeg) (hi_4 : i_2 < 8) (r_6 : Int32) (er_6 : r_6 = xb (f_X6_isMissing i_2 M)) (c_7 : r_6 = 0) (r_8 : Int32) (er_8 : r_8 = xb (f_X6_hasPlaces i_2 i 1 M)) (c_9 : ¬ r_8 = 0) : M 24 i_2 2 ≤ 60 := by
  subst_vars
  grind [isUpTo_eq, isTown10_eq, xb, sheetOf_s, traderOf_s, bankOf_s, noteOf_s, hasPl, xup_at, xHB_o, xHN_o]
theorem ob_X10_drop_2_p0 (nb nn : Nat) (sh : Int32) (M : xM) (hp0 : xHS M) : xHS M := by
  subst_vars
  grind [isUpTo_eq, isTown10_eq, xb, sheetOf_s, traderOf_s, bankOf_s, noteOf_s, hasPl, xup_at, xHB_o, xHN_o]
theorem ob_X10_drop_2_q (nb nn : Nat) (sh : Int32) (M : xM) (hp0 : xHS M) (i_2 : Nat) (o_3 : f_X10_sheetOf sh M = some i_2) : i_2 < 8 ∧ 0 ≤ sh ∧ sh ≤ 7 ∧ i_2 = sh.toNatClampNeg := by
  exact sheetOf_s o_3
theorem ob_X10_road_38_p0 (nb nn : Nat) (a : Int32) (b : Int32) (v : Int32) (M : xM) (r_1 : Int32) (er_1 : r_1 = xb (f_X10_isTown a M)) (c_2 : ¬ r_1 = 0) (r_3 : Int32) (er_3 : r_3 = xb (f_X10_isTown b M)) (c_4 : ¬ r_3 = 0) (c_5 : ¬ a = b) (r_6 : Int32) (er_6 : r_6 = xb (f_X10_isUpTo v 500 M)) (c_7 : ¬ r_6 = 0) : 0 ≤ a := by
  subst_vars
  grind [isUpTo_eq, isTown10_eq, xb, sheetOf_s, traderOf_s, bankOf_s, noteOf_s, hasPl, xup_at, xHB_o, xHN_o]
theorem ob_X10_road_38_p1 (nb nn : Nat) (a : Int32) (b : Int32) (v : Int32) (M : xM) (r_1 : Int32) (er_1 : r_1 = xb (f_X10_isTown a M)) (c_2 : ¬ r_1 = 0) (r_3 : Int32) (er_3 : r_3 = xb (f_X10_isTown b M)) (c_4 : ¬ r_3 = 0) (c_5 : ¬ a = b) (r_6 : Int32) (er_6 : r_6 = xb (f_X10_isUpTo v 500 M)) (c_7 : ¬ r_6 = 0) : a < 6 := by
  subst_vars
  grind [isUpTo_eq, isTown10_eq, xb, sheetOf_s, traderOf_s, bankOf_s, noteOf_s, hasPl, xup_at, xHB_o, xHN_o]
theorem ob_X10_road_38_p2 (nb nn : Nat) (a : Int32) (b : Int32) (v : Int32) (M : xM) (r_1 : Int32) (er_1 : r_1 = xb (f_X10_isTown a M)) (c_2 : ¬ r_1 = 0) (r_3 : Int32) (er_3 : r_3 = xb (f_X10_isTown b M)) (c_4 : ¬ r_3 = 0) (c_5 : ¬ a = b) (r_6 : Int32) (er_6 : r_6 = xb (f_X10_isUpTo v 500 M)) (c_7 : ¬ r_6 = 0) : 0 ≤ b := by
  subst_vars
  grind [isUpTo_eq, isTown10_eq, xb, sheetOf_s, traderOf_s, bankOf_s, noteOf_s, hasPl, xup_at, xHB_o, xHN_o]
theorem ob_X10_road_38_p3 (nb nn : Nat) (a : Int32) (b : Int32) (v : Int32) (M : xM) (r_1 : Int32) (er_1 : r_1 = xb (f_X10_isTown a M)) (c_2 : ¬ r_1 = 0) (r_3 : Int32) (er_3 : r_3 = xb (f_X10_isTown b M)) (c_4 : ¬ r_3 = 0) (c_5 : ¬ a = b) (r_6 : Int32) (er_6 : r_6 = xb (f_X10_isUpTo v 500 M)) (c_7 : ¬ r_6 = 0) : b < 6 := by
  subst_vars
  grind [isUpTo_eq, isTown10_eq, xb, sheetOf_s, traderOf_s, bankOf_s, noteOf_s, hasPl, xup_at, xHB_o, xHN_o]
theorem ob_X10_road_50_p0 (nb nn : Nat) (a : Int32) (b : Int32) (v : Int32) (M : xM) (r_1 : Int32) (er_1 : r_1 = xb (f_X10_isTown a M)) (c_2 : ¬ r_1 = 0) (r_3 : Int32) (er_3 : r_3 = xb (f_X10_isTown b M)) (c_4 : ¬ r_3 = 0) (c_5 : ¬ a = b) (r_6 : Int32) (er_6 : r_6 = xb (f_X10_isUpTo v 500 M)) (c_7 : ¬ r_6 = 0) (r_8 : Int32) (er_8 : r_8 = f_X5_milesBetween a b M) : 0 ≤ a := by
  subst_vars
  grind [isUpTo_eq, isTown10_eq, xb, sheetOf_s, traderOf_s, bankOf_s, noteOf_s, hasPl, xup_at, xHB_o, xHN_o]
theorem ob_X10_road_50_p1 (nb nn : Nat) (a : Int32) (b : Int32) (v : Int32) (M : xM) (r_1 : Int32) (er_1 : r_1 = xb (f_X10_isTown a M)) (c_2 : ¬ r_1 = 0) (r_3 : Int32) (er_3 : r_3 = xb (f_X10_isTown b M)) (c_4 : ¬ r_3 = 0) (c_5 : ¬ a = b) (r_6 : Int32) (er_6 : r_6 = xb (f_X10_isUpTo v 500 M)) (c_7 : ¬ r_6 = 0) (r_8 : Int32) (er_8 : r_8 = f_X5_milesBetween a b M) : a < 6 := by
  subst_vars
  grind [isUpTo_eq, isTown10_eq, xb, sheetOf_s, traderOf_s, bankOf_s, noteOf_s, hasPl, xup_at, xHB_o, xHN_o]
theorem ob_X10_road_50_p2 (nb nn : Nat) (a : Int32) (b : Int32) (v : Int32) (M : xM) (r_1 : Int32) (er_1 : r_1 = xb (f_X10_isTown a M)) (c_2 : ¬ r_1 = 0) (r_3 : Int32) (er_3 : r_3 = xb (f_X10_isTown b M)) (c_4 : ¬ r_3 = 0) (c_5 : ¬ a = b) (r_6 : Int32) (er_6 : r_6 = xb (f_X10_isUpTo v 500 M)) (c_7 : ¬ r_6 = 0) (r_8 : Int32) (er_8 : r_8 = f_X5_milesBetween a b M) : 0 ≤ b := by
  subst_vars
  grind [isUpTo_eq, isTown10_eq, xb, sheetOf_s, traderOf_s, bankOf_s, noteOf_s, hasPl, xup_at, xHB_o, xHN_o]
theorem ob_X10_road_50_p3 (nb nn : Nat) (a : Int32) (b : Int32) (v : Int32) (M : xM) (r_1 : Int32) (er_1 : r_1 = xb (f_X10_isTown a M)) (c_2 : ¬ r_1 = 0) (r_3 : Int32) (er_3 : r_3 = xb (f_X10_isTown b M)) (c_4 : ¬ r_3 = 0) (c_5 : ¬ a = b) (r_6 : Int32) (er_6 : r_6 = xb (f_X10_isUpTo v 500 M)) (c_7 : ¬ r_6 = 0) (r_8 : Int32) (er_8 : r_8 = f_X5_milesBetween a b M) : b < 6 := by
  subst_vars
  grind [isUpTo_eq, isTown10_eq, xb, sheetOf_s, traderOf_s, bankOf_s, noteOf_s, hasPl, xup_at, xHB_o, xHN_o]
theorem ob_X10_far_23_p0 (nb nn : Nat) (a : Int32) (b : Int32) (M : xM) (r_1 : Int32) (er_1 : r_1 = xb (f_X10_isTown a M)) (c_2 : ¬ r_1 = 0) (r_3 : Int32) (er_3 : r_3 = xb (f_X10_isTown b M)) (c_4 : ¬ r_3 = 0) : 0 ≤ a := by
  subst_vars
  grind [isUpTo_eq, isTown10_eq, xb, sheetOf_s, traderOf_s, bankOf_s, noteOf_s, hasPl, xup_at, xHB_o, xHN_o]
theorem ob_X10_far_23_p1 (nb nn : Nat) (a : Int32) (b : Int32) (M : xM) (r_1 : Int32) (er_1 : r_1 = xb (f_X10_isTown a M)) (c_2 : ¬ r_1 = 0) (r_3 : Int32) (er_3 : r_3 = xb (f_X10_isTown b M)) (c_4 : ¬ r_3 = 0) : a < 6 := by
  subst_vars
  grind [isUpTo_eq, isTown10_eq, xb, sheetOf_s, traderOf_s, bankOf_s, noteOf_s, hasPl, xup_at, xHB_o, xHN_o]
theorem ob_X10_far_23_p2 (nb nn : Nat) (a : Int32) (b : Int32) (M : xM) (r_1 : Int32) (er_1 : r_1 = xb (f_X10_isTown a M)) (c_2 : ¬ r_1 = 0) (r_3 : Int32) (er_3 : r_3 = xb (f_X10_isTown b M)) (c_4 : ¬ r_3 = 0) : 0 ≤ b := by
  subst_vars
  grind [isUpTo_eq, isTown10_eq, xb, sheetOf_s, traderOf_s, bankOf_s, noteOf_s, hasPl, xup_at, xHB_o, xHN_o]
theorem ob_X10_far_23_p3 (nb nn : Nat) (a : Int32) (b : Int32) (M : xM) (r_1 : Int32) (er_1 : r_1 = xb (f_X10_isTown a M)) (c_2 : ¬ r_1 = 0) (r_3 : Int32) (er_3 : r_3 = xb (f_X10_isTown b M)) (c_4 : ¬ r_3 = 0) : b < 6 := by
  subst_vars
  grind [isUpTo_eq, isTown10_eq, xb, sheetOf_s, traderOf_s, bankOf_s, noteOf_s, hasPl, xup_at, xHB_o, xHN_o]
theorem ob_X10_house_2_p0 (nb nn : Nat) (bk : Int32) (what : Int32) (M : xM) (hp0 : xHB nb M) : xHB nb M := by
  subst_vars
  grind [isUpTo_eq, isTown10_eq, xb, sheetOf_s, traderOf_s, bankOf_s, noteOf_s, hasPl, xup_at, xHB_o, xHN_o]
theorem ob_X10_house_2_q (nb nn : Nat) (bk : Int32) (what : Int32) (M : xM) (hp0 : xHB nb M) (i_2 : Nat) (o_3 : f_X10_bankOf bk M = some i_2) : i_2 < nb ∧ 0 ≤ bk ∧ bk < 8 ∧ bk < M 0 0 12 ∧ i_2 = bk.toNatClampNeg := by
  exact bankOf_s (nb := nb) (by first | assumption | (subst_vars; grind [xHB_o])) o_3
theorem ob_X10_hold_2_p0 (nb nn : Nat) (bk : Int32) (other : Int32) (v : Int32) (M : xM) (hp0 : xHB nb M) : xHB nb M := by
  subst_vars
  grind [isUpTo_eq, isTown10_eq, xb, sheetOf_s, traderOf_s, bankOf_s, noteOf_s, hasPl, xup_at, xHB_o, xHN_o]
theorem ob_X10_hold_2_q (nb nn : Nat) (bk : Int32) (other : Int32) (v : Int32) (M : xM) (hp0 : xHB nb M) (i_2 : Nat) (o_3 : f_X10_bankOf bk M = some i_2) : i_2 < nb ∧ 0 ≤ bk ∧ bk < 8 ∧ bk < M 0 0 12 ∧ i_2 = bk.toNatClampNeg := by
  exact bankOf_s (nb := nb) (by first | assumption | (subst_vars; grind [xHB_o])) o_3
theorem ob_X10_hold_14_p0 (nb nn : Nat) (bk : Int32) (other : Int32) (v : Int32) (M : xM) (hp0 : xHB nb M) (i_2 : Nat) (o_3 : f_X10_bankOf bk M = some i_2) (hq_5 : i_2 < nb ∧ 0 ≤ bk ∧ bk < 8 ∧ bk < M 0 0 12 ∧ i_2 = bk.toNatClampNeg) (hi_4 : i_2 < nb) : xHB nb M := by
  subst_vars
  grind [isUpTo_eq, isTown10_eq, xb, sheetOf_s, traderOf_s, bankOf_s, noteOf_s, hasPl, xup_at, xHB_o, xHN_o]
theorem ob_X10_hold_14_q (nb nn : Nat) (bk : Int32) (other : Int32) (v : Int32) (M : xM) (hp0 : xHB nb M) (i_2 : Nat) (o_3 : f_X10_bankOf bk M = some i_2) (hq_5 : i_2 < nb ∧ 0 ≤ bk ∧ bk < 8 ∧ bk < M 0 0 12 ∧ i_2 = bk.toNatClampNeg) (hi_4 : i_2 < nb) (i_7 : Nat) (o_8 : f_X10_bankOf other M = some i_7) : i_7 < nb ∧ 0 ≤ other ∧ other < 8 ∧ other < M 0 0 12 ∧ i_7 = other.toNatClampNeg := by
  exact bankOf_s (nb := nb) (by first | assumption | (subst_vars; grind [xHB_o])) o_8
theorem ob_X10_hold_64_p0 (nb nn : Nat) (bk : Int32) (other : Int32) (v : Int32) (M : xM) (hp0 : xHB nb M) (i_2 : Nat) (o_3 : f_X10_bankOf bk M = some i_2) (hq_5 : i_2 < nb ∧ 0 ≤ bk ∧ bk < 8 ∧ bk < M 0 0 12 ∧ i_2 = bk.toNatClampNeg) (hi_4 : i_2 < nb) (i_7 : Nat) (o_8 : f_X10_bankOf other M = some i_7) (hq_10 : i_7 < nb ∧ 0 ≤ other ∧ other < 8 ∧ other < M 0 0 12 ∧ i_7 = other.toNatClampNeg) (hi_9 : i_7 < nb) (c_11 : ¬ bk = other) (r_12 : Int32) (er_12 : r_12 = xb (f_X10_isUpTo v 9999 M)) (c_13 : ¬ r_12 = 0) : 0 ≤ other := by
  subst_vars
  grind [isUpTo_eq, isTown10_eq, xb, sheetOf_s, traderOf_s, bankOf_s, noteOf_s, hasPl, xup_at, xHB_o, xHN_o]
theorem ob_X10_hold_64_p1 (nb nn : Nat) (bk : Int32) (other : Int32) (v : Int32) (M : xM) (hp0 : xHB nb M) (i_2 : Nat) (o_3 : f_X10_bankOf bk M = some i_2) (hq_5 : i_2 < nb ∧ 0 ≤ bk ∧ bk < 8 ∧ bk < M 0 0 12 ∧ i_2 = bk.toNatClampNeg) (hi_4 : i_2 < nb) (i_7 : Nat) (o_8 : f_X10_bankOf other M = some i_7) (hq_10 : i_7 < nb ∧ 0 ≤ other ∧ other < 8 ∧ other < M 0 0 12 ∧ i_7 = other.toNatClampNeg) (hi_9 : i_7 < nb) (c_11 : ¬ bk = other) (r_12 : Int32) (er_12 : r_12 = xb (f_X10_isUpTo v 9999 M)) (c_13 : ¬ r_12 = 0) : other < 8 := by
  subst_vars
  grind [isUpTo_eq, isTown10_eq, xb, sheetOf_s, traderOf_s, bankOf_s, noteOf_s, hasPl, xup_at, xHB_o, xHN_o]
theorem ob_X10_shutBanks_14_p0 (nb nn : Nat) (M : xM) (hp0 : xHB nb M) (n : Nat) (shut : Int32) (i : Int32) (hmu : xmu i (M 0 0 12) < n + 1) (hinv : True) (c_1 : ¬ (M 0 0 12) ≤ i) : xHB nb M := by
  subst_vars
  grind [isUpTo_eq, isTown10_eq, xb, sheetOf_s, traderOf_s, bankOf_s, noteOf_s, hasPl, xup_at, xHB_o, xHN_o]
theorem ob_X10_shutBanks_14_q (nb nn : Nat) (M : xM) (hp0 : xHB nb M) (n : Nat) (shut : Int32) (i : Int32) (hmu : xmu i (M 0 0 12) < n + 1) (hinv : True) (c_1 : ¬ (M 0 0 12) ≤ i) (i_3 : Nat) (o_4 : f_X10_bankOf i M = some i_3) : i_3 < nb ∧ 0 ≤ i ∧ i < 8 ∧ i < M 0 0 12 ∧ i_3 = i.toNatClampNeg := by
  exact bankOf_s (nb := nb) (by first | assumption | (subst_vars; grind [xHB_o])) o_4
theorem ob_X10_shutBanks_4_mu_7 (nb nn : Nat) (M : xM) (hp0 : xHB nb M) (n : Nat) (shut : Int32) (i : Int32) (hmu : xmu i (M 0 0 12) < n + 1) (hinv : True) (c_1 : ¬ (M 0 0 12) ≤ i) (o_4 : f_X10_bankOf i M = none) (x2_7 : Int32) (ex2_7 : x2_7 = i + 1) : xmu x2_7 (M 0 0 12) < n := by
  subst_vars
  have h9 := xmu_up (a := i) (b := (M 0 0 12)) (by grind)
  (try simp [xup_at])
  omega
theorem ob_X10_shutBanks_4_mu_9 (nb nn : Nat) (M : xM) (hp0 : xHB nb M) (n : Nat) (shut : Int32) (i : Int32) (hmu : xmu i (M 0 0 12) < n + 1) (hinv : True) (c_1 : ¬ (M 0 0 12) ≤ i) (i_3 : Nat) (o_4 : f_X10_bankOf i M = some i_3) (hq_6 : i_3 < nb ∧ 0 ≤ i ∧ i < 8 ∧ i < M 0 0 12 ∧ i_3 = i.toNatClampNeg) (hi_5 : i_3 < nb) (c_8 : (M 27 i_3 4) = 0) (x2_9 : Int32) (ex2_9 : x2_9 = i + 1) : xmu x2_9 (M 0 0 12) < n := by
  subst_vars
  have h9 := xmu_up (a := i) (b := (M 0 0 12)) (by grind)
  (try simp [xup_at])
  omega
theorem ob_X10_shutBanks_4_mu_11 (nb nn : Nat) (M : xM) (hp0 : xHB nb M) (n : Nat) (shut : Int32) (i : Int32) (hmu : xmu i (M 0 0 12) < n + 1) (hinv : True) (c_1 : ¬ (M 0 0 12) ≤ i) (i_3 : Nat) (o_4 : f_X10_bankOf i M = some i_3) (hq_6 : i_3 < nb ∧ 0 ≤ i ∧ i < 8 ∧ i < M 0 0 12 ∧ i_3 = i.toNatClampNeg) (hi_5 : i_3 < nb) (c_8 : ¬ (M 27 i_3 4) = 0) (x1_10 : Int32) (ex1_10 : x1_10 = (shut ||| ((1 : Int32) <<< (i &&& 31)))) (x2_11 : Int32) (ex2_11 : x2_11 = i + 1) : xmu x2_11 (M 0 0 12) < n := by
  subst_vars
  have h9 := xmu_up (a := i) (b := (M 0 0 12)) (by grind)
  (try simp [xup_at])
  omega
theorem ob_X10_banksInNeed_14_p0 (nb nn : Nat) (fallen : Int32) (M : xM) (hp0 : xHB nb M) (n : Nat) (inNeed : Int32) (i : Int32) (hmu : xmu i (M 0 0 12) < n + 1) (hinv : True) (c_1 : ¬ (M 0 0 12) ≤ i) : xHB nb M := by
  subst_vars
  grind [isUpTo_eq, isTown10_eq, xb, sheetOf_s, traderOf_s, bankOf_s, noteOf_s, hasPl, xup_at, xHB_o, xHN_o]
theorem ob_X10_banksInNeed_14_q (nb nn : Nat) (fallen : Int32) (M : xM) (hp0 : xHB nb M) (n : Nat) (inNeed : Int32) (i : Int32) (hmu : xmu i (M 0 0 12) < n + 1) (hinv : True) (c_1 : ¬ (M 0 0 12) ≤ i) (i_3 : Nat) (o_4 : f_X10_bankOf i M = some i_3) : i_3 < nb ∧ 0 ≤ i ∧ i < 8 ∧ i < M 0 0 12 ∧ i_3 = i.toNatClampNeg := by
  exact bankOf_s (nb := nb) (by first | assumption | (subst_vars; grind [xHB_o])) o_4
theorem ob_X10_banksInNeed_4_mu_7 (nb nn : Nat) (fallen : Int32) (M : xM) (hp0 : xHB nb M) (n : Nat) (inNeed : Int32) (i : Int32) (hmu : xmu i (M 0 0 12) < n + 1) (hinv : True) (c_1 : ¬ (M 0 0 12) ≤ i) (o_4 : f_X10_bankOf i M = none) (x3_7 : Int32) (ex3_7 : x3_7 = i + 1) : xmu x3_7 (M 0 0 12) < n := by
  subst_vars
  have h9 := xmu_up (a := i) (b := (M 0 0 12)) (by grind)
  (try simp [xup_at])
  omega
theorem ob_X10_banksInNeed_4_mu_10 (nb nn : Nat) (fallen : Int32) (M : xM) (hp0 : xHB nb M) (n : Nat) (inNeed : Int32) (i : Int32) (hmu : xmu i (M 0 0 12) < n + 1) (hinv : True) (c_1 : ¬ (M 0 0 12) ≤ i) (i_3 : Nat) (o_4 : f_X10_bankOf i M = some i_3) (hq_6 : i_3 < nb ∧ 0 ≤ i ∧ i < 8 ∧ i < M 0 0 12 ∧ i_3 = i.toNatClampNeg) (hi_5 : i_3 < nb) (r_8 : Int32) (er_8 : r_8 = xb (f_X0_isInNeed i_3 fallen M)) (c_9 : r_8 = 0) (x3_10 : Int32) (ex3_10 : x3_10 = i + 1) : xmu x3_10 (M 0 0 12) < n := by
  subst_vars
  have h9 := xmu_up (a := i) (b := (M 0 0 12)) (by grind)
  (try simp [xup_at])
  omega
theorem ob_X10_banksInNeed_4_mu_12 (nb nn : Nat) (fallen : Int32) (M : xM) (hp0 : xHB nb M) (n : Nat) (inNeed : Int32) (i : Int32) (hmu : xmu i (M 0 0 12) < n + 1) (hinv : True) (c_1 : ¬ (M 0 0 12) ≤ i) (i_3 : Nat) (o_4 : f_X10_bankOf i M = some i_3) (hq_6 : i_3 < nb ∧ 0 ≤ i ∧ i < 8 ∧ i < M 0 0 12 ∧ i_3 = i.toNatClampNeg) (hi_5 : i_3 < nb) (r_8 : Int32) (er_8 : r_8 = xb (f_X0_isInNeed i_3 fallen M)) (c_9 : ¬ r_8 = 0) (x2_11 : Int32) (ex2_11 : x2_11 = (inNeed ||| ((1 : Int32) <<< (i &&& 31)))) (x3_12 : Int32) (ex3_12 : x3_12 = i + 1) : xmu x3_12 (M 0 0 12) < n := by
  subst_vars
  have h9 := xmu_up (a := i) (b := (M 0 0 12)) (by grind)
  (try simp [xup_at])
  omega
theorem ob_X10_falls_31_p0 (nb nn : Nat) (what : Int32) (M : xM) (hp0 : xHB nb M) (n : Nat) (fallen : Int32) (rounds : Int32) (rnd : Int32) (hmu : xmu rnd 8 < n + 1) (hinv : True) (c_1 : ¬ 8 ≤ rnd) : xHB nb M := by
  subst_vars
  grind [isUpTo_eq, isTown10_eq, xb, sheetOf_s, traderOf_s, bankOf_s, noteOf_s, hasPl, xup_at, xHB_o, xHN_o]
theorem ob_X10_falls_21_mu_6 (nb nn : Nat) (what : Int32) (M : xM) (hp0 : xHB nb M) (n : Nat) (fallen : Int32) (rounds : Int32) (rnd : Int32) (hmu : xmu rnd 8 < n + 1) (hinv : True) (c_1 : ¬ 8 ≤ rnd) (r_2 : Int32) (er_2 : r_2 = f_X10_banksInNeed fallen M) (x5_3 : Int32) (ex5_3 : x5_3 = (fallen ||| r_2)) (c_4 : ¬ x5_3 = fallen) (x3_5 : Int32) (ex3_5 : x3_5 = rounds + 1) (x4_6 : Int32) (ex4_6 : x4_6 = rnd + 1) : xmu x4_6 8 < n := by
  subst_vars
  have h9 := xmu_up (a := rnd) (b := 8) (by grind)
  (try simp [xup_at])
  omega
theorem ob_X10_falls_12_p0 (nb nn : Nat) (what : Int32) (M : xM) (hp0 : xHB nb M) (r_7 : Int32) (er_7 : r_7 = xb (f_X10_isUpTo what 1 M)) (c_8 : ¬ r_7 = 0) : xHB nb M := by
  subst_vars
  grind [isUpTo_eq, isTown10_eq, xb, sheetOf_s, traderOf_s, bankOf_s, noteOf_s, hasPl, xup_at, xHB_o, xHN_o]
theorem ob_X10_feed_34_p0 (nb nn : Nat) (wd : Int64) (z : Int32) (M : xM) (hp0 : 0 ≤ M 5 0 2) (c_1 : ¬ z < 1) (c_2 : z ≤ 8) (r_3 : Int32) (er_3 : r_3 = xb (f_X7_hasRoom z M)) (c_4 : ¬ r_3 = 0) : 0 ≤ M 5 0 2 := by
  subst_vars
  grind [isUpTo_eq, isTown10_eq, xb, sheetOf_s, traderOf_s, bankOf_s, noteOf_s, hasPl, xup_at, xHB_o, xHN_o]
theorem ob_X10_newestBook_6_p0 (nb nn : Nat) (town : Int32) (w : Int32) (M : xM) (hp0 : 0 ≤ town) (hp1 : town ≤ 5) : 0 ≤ (0 : Int32) := by
  subst_vars
  grind [isUpTo_eq, isTown10_eq, xb, sheetOf_s, traderOf_s, bankOf_s, noteOf_s, hasPl, xup_at, xHB_o, xHN_o]
theorem ob_X10_newestBook_6_p1 (nb nn : Nat) (town : Int32) (w : Int32) (M : xM) (hp0 : 0 ≤ town) (hp1 : town ≤ 5) : (0 : Int32) < 6 := by
  subst_vars
  grind [isUpTo_eq, isTown10_eq, xb, sheetOf_s, traderOf_s, bankOf_s, noteOf_s, hasPl, xup_at, xHB_o, xHN_o]
theorem ob_X10_newestBook_6_p2 (nb nn : Nat) (town : Int32) (w : Int32) (M : xM) (hp0 : 0 ≤ town) (hp1 : town ≤ 5) : 0 ≤ town := by
  subst_vars
  grind [isUpTo_eq, isTown10_eq, xb, sheetOf_s, traderOf_s, bankOf_s, noteOf_s, hasPl, xup_at, xHB_o, xHN_o]
theorem ob_X10_newestBook_6_p3 (nb nn : Nat) (town : Int32) (w : Int32) (M : xM) (hp0 : 0 ≤ town) (hp1 : town ≤ 5) : town < 6 := by
  subst_vars
  grind [isUpTo_eq, isTown10_eq, xb, sheetOf_s, traderOf_s, bankOf_s, noteOf_s, hasPl, xup_at, xHB_o, xHN_o]
theorem ob_X10_known_19_p0 (nb nn : Nat) (town : Int32) (w : Int32) (bk : Int32) (what : Int32) (M : xM) (hp0 : xHB nb M) (hp1 : M 4 0 4 ≤ 40) (r_1 : Int32) (er_1 : r_1 = xb (f_X10_isTown town M)) (c_2 : ¬ r_1 = 0) (r_3 : Int32) (er_3 : r_3 = xb (f_X10_isUpTo w 299 M)) (c_4 : ¬ r_3 = 0) : xHB nb M := by
  subst_vars
  grind [isUpTo_eq, isTown10_eq, xb, sheetOf_s, traderOf_s, bankOf_s, noteOf_s, hasPl, xup_at, xHB_o, xHN_o]
theorem ob_X10_known_19_q (nb nn : Nat) (town : Int32) (w : Int32) (bk : Int32) (what : Int32) (M : xM) (hp0 : xHB nb M) (hp1 : M 4 0 4 ≤ 40) (r_1 : Int32) (er_1 : r_1 = xb (f_X10_isTown town M)) (c_2 : ¬ r_1 = 0) (r_3 : Int32) (er_3 : r_3 = xb (f_X10_isUpTo w 299 M)) (c_4 : ¬ r_3 = 0) (i_6 : Nat) (o_7 : f_X10_bankOf bk M = some i_6) : i_6 < nb ∧ 0 ≤ bk ∧ bk < 8 ∧ bk < M 0 0 12 ∧ i_6 = bk.toNatClampNeg := by
  exact bankOf_s (nb := nb) (by first | assumption | (subst_vars; grind [xHB_o])) o_7
theorem ob_X10_known_31_p0 (nb nn : Nat) (town : Int32) (w : Int32) (bk : Int32) (what : Int32) (M : xM) (hp0 : xHB nb M) (hp1 : M 4 0 4 ≤ 40) (r_1 : Int32) (er_1 : r_1 = xb (f_X10_isTown town M)) (c_2 : ¬ r_1 = 0) (r_3 : Int32) (er_3 : r_3 = xb (f_X10_isUpTo w 299 M)) (c_4 : ¬ r_3 = 0) (i_6 : Nat) (o_7 : f_X10_bankOf bk M = some i_6) (hq_9 : i_6 < nb ∧ 0 ≤ bk ∧ bk < 8 ∧ bk < M 0 0 12 ∧ i_6 = bk.toNatClampNeg) (hi_8 : i_6 < nb) : 0 ≤ town := by
  subst_vars
  grind [isUpTo_eq, isTown10_eq, xb, sheetOf_s, traderOf_s, bankOf_s, noteOf_s, hasPl, xup_at, xHB_o, xHN_o]
theorem ob_X10_known_31_p1 (nb nn : Nat) (town : Int32) (w : Int32) (bk : Int32) (what : Int32) (M : xM) (hp0 : xHB nb M) (hp1 : M 4 0 4 ≤ 40) (r_1 : Int32) (er_1 : r_1 = xb (f_X10_isTown town M)) (c_2 : ¬ r_1 = 0) (r_3 : Int32) (er_3 : r_3 = xb (f_X10_isUpTo w 299 M)) (c_4 : ¬ r_3 = 0) (i_6 : Nat) (o_7 : f_X10_bankOf bk M = some i_6) (hq_9 : i_6 < nb ∧ 0 ≤ bk ∧ bk < 8 ∧ bk < M 0 0 12 ∧ i_6 = bk.toNatClampNeg) (hi_8 : i_6 < nb) : town ≤ 5 := by
  subst_vars
  grind [isUpTo_eq, isTown10_eq, xb, sheetOf_s, traderOf_s, bankOf_s, noteOf_s, hasPl, xup_at, xHB_o, xHN_o]
theorem ob_X10_known_71_p0 (nb nn : Nat) (town : Int32) (w : Int32) (bk : Int32) (what : Int32) (M : xM) (hp0 : xHB nb M) (hp1 : M 4 0 4 ≤ 40) (r_1 : Int32) (er_1 : r_1 = xb (f_X10_isTown town M)) (c_2 : ¬ r_1 = 0) (r_3 : Int32) (er_3 : r_3 = xb (f_X10_isUpTo w 299 M)) (c_4 : ¬ r_3 = 0) (i_6 : Nat) (o_7 : f_X10_bankOf bk M = some i_6) (hq_9 : i_6 < nb ∧ 0 ≤ bk ∧ bk < 8 ∧ bk < M 0 0 12 ∧ i_6 = bk.toNatClampNeg) (hi_8 : i_6 < nb) (r_10 : Int32) (er_10 : r_10 = f_X10_newestBook town w M) (c_11 : what = 0) : M 4 0 4 ≤ 40 := by
  subst_vars
  grind [isUpTo_eq, isTown10_eq, xb, sheetOf_s, traderOf_s, bankOf_s, noteOf_s, hasPl, xup_at, xHB_o, xHN_o]
theorem ob_X10_known_83_p0 (nb nn : Nat) (town : Int32) (w : Int32) (bk : Int32) (what : Int32) (M : xM) (hp0 : xHB nb M) (hp1 : M 4 0 4 ≤ 40) (r_1 : Int32) (er_1 : r_1 = xb (f_X10_isTown town M)) (c_2 : ¬ r_1 = 0) (r_3 : Int32) (er_3 : r_3 = xb (f_X10_isUpTo w 299 M)) (c_4 : ¬ r_3 = 0) (i_6 : Nat) (o_7 : f_X10_bankOf bk M = some i_6) (hq_9 : i_6 < nb ∧ 0 ≤ bk ∧ bk < 8 ∧ bk < M 0 0 12 ∧ i_6 = bk.toNatClampNeg) (hi_8 : i_6 < nb) (r_10 : Int32) (er_10 : r_10 = f_X10_newestBook town w M) (c_11 : ¬ what = 0) (c_13 : what = 1) : M 4 0 4 ≤ 40 := by
  subst_vars
  grind [isUpTo_eq, isTown10_eq, xb, sheetOf_s, traderOf_s, bankOf_s, noteOf_s, hasPl, xup_at, xHB_o, xHN_o]
theorem ob_X10_known_94_p0 (nb nn : Nat) (town : Int32) (w : Int32) (bk : Int32) (what : Int32) (M : xM) (hp0 : xHB nb M) (hp1 : M 4 0 4 ≤ 40) (r_1 : Int32) (er_1 : r_1 = xb (f_X10_isTown town M)) (c_2 : ¬ r_1 = 0) (r_3 : Int32) (er_3 : r_3 = xb (f_X10_isUpTo w 299 M)) (c_4 : ¬ r_3 = 0) (i_6 : Nat) (o_7 : f_X10_bankOf bk M = some i_6) (hq_9 : i_6 < nb ∧ 0 ≤ bk ∧ bk < 8 ∧ bk < M 0 0 12 ∧ i_6 = bk.toNatClampNeg) (hi_8 : i_6 < nb) (r_10 : Int32) (er_10 : r_10 = f_X10_newestBook town w M) (c_11 : ¬ what = 0) (c_13 : ¬ what = 1) (c_15 : what = 2) : M 4 0 4 ≤ 40 := by
  subst_vars
  grind [isUpTo_eq, isTown10_eq, xb, sheetOf_s, traderOf_s, bankOf_s, noteOf_s, hasPl, xup_at, xHB_o, xHN_o]
theorem ob_X10_told_2_p0 (nb nn : Nat) (nt : Int32) (what : Int32) (M : xM) (hp0 : xHN nn M) : xHN nn M := by
  subst_vars
  grind [isUpTo_eq, isTown10_eq, xb, sheetOf_s, traderOf_s, bankOf_s, noteOf_s, hasPl, xup_at, xHB_o, xHN_o]
theorem ob_X10_told_2_q (nb nn : Nat) (nt : Int32) (what : Int32) (M : xM) (hp0 : xHN nn M) (i_2 : Nat) (o_3 : f_X10_noteOf nt M = some i_2) : i_2 < nn ∧ 0 ≤ nt ∧ nt < 24 ∧ nt < M 0 0 13 ∧ i_2 = nt.toNatClampNeg := by
  exact noteOf_s (nn := nn) (by first | assumption | (subst_vars; grind [xHN_o])) o_3
theorem ob_X10_looks_2_p0 (nb nn : Nat) (nt : Int32) (town : Int32) (w : Int32) (M : xM) (hp0 : xHN nn M) (hp1 : xHB nb M) (hp2 : M 4 0 4 ≤ 40) : xHN nn M := by
  subst_vars
  grind [isUpTo_eq, isTown10_eq, xb, sheetOf_s, traderOf_s, bankOf_s, noteOf_s, hasPl, xup_at, xHB_o, xHN_o]
theorem ob_X10_looks_2_q (nb nn : Nat) (nt : Int32) (town : Int32) (w : Int32) (M : xM) (hp0 : xHN nn M) (hp1 : xHB nb M) (hp2 : M 4 0 4 ≤ 40) (i_2 : Nat) (o_3 : f_X10_noteOf nt M = some i_2) : i_2 < nn ∧ 0 ≤ nt ∧ nt < 24 ∧ nt < M 0 0 13 ∧ i_2 = nt.toNatClampNeg := by
  exact noteOf_s (nn := nn) (by first | assumption | (subst_vars; grind [xHN_o])) o_3
theorem ob_X10_looks_38_p0 (nb nn : Nat) (nt : Int32) (town : Int32) (w : Int32) (M : xM) (hp0 : xHN nn M) (hp1 : xHB nb M) (hp2 : M 4 0 4 ≤ 40) (i_2 : Nat) (o_3 : f_X10_noteOf nt M = some i_2) (hq_5 : i_2 < nn ∧ 0 ≤ nt ∧ nt < 24 ∧ nt < M 0 0 13 ∧ i_2 = nt.toNatClampNeg) (hi_4 : i_2 < nn) (r_6 : Int32) (er_6 : r_6 = xb (f_X10_isTown town M)) (c_7 : ¬ r_6 = 0) (r_8 : Int32) (er_8 : r_8 = xb (f_X10_isUpTo w 299 M)) (c_9 : ¬ r_8 = 0) : xHB nb M := by
  subst_vars
  grind [isUpTo_eq, isTown10_eq, xb, sheetOf_s, traderOf_s, bankOf_s, noteOf_s, hasPl, xup_at, xHB_o, xHN_o]
theorem ob_X10_looks_38_q (nb nn : Nat) (nt : Int32) (town : Int32) (w : Int32) (M : xM) (hp0 : xHN nn M) (hp1 : xHB nb M) (hp2 : M 4 0 4 ≤ 40) (i_2 : Nat) (o_3 : f_X10_noteOf nt M = some i_2) (hq_5 : i_2 < nn ∧ 0 ≤ nt ∧ nt < 24 ∧ nt < M 0 0 13 ∧ i_2 = nt.toNatClampNeg) (hi_4 : i_2 < nn) (r_6 : Int32) (er_6 : r_6 = xb (f_X10_isTown town M)) (c_7 : ¬ r_6 = 0) (r_8 : Int32) (er_8 : r_8 = xb (f_X10_isUpTo w 299 M)) (c_9 : ¬ r_8 = 0) (i_11 : Nat) (o_12 : f_X10_bankOf (M 29 i_2 1) M = some i_11) : i_11 < nb ∧ 0 ≤ (M 29 i_2 1) ∧ (M 29 i_2 1) < 8 ∧ (M 29 i_2 1) < M 0 0 12 ∧ i_11 = (M 29 i_2 1).toNatClampNeg := by
  exact bankOf_s (nb := nb) (by first | assumption | (subst_vars; grind [xHB_o])) o_12
theorem ob_X10_looks_80_p0 (nb nn : Nat) (nt : Int32) (town : Int32) (w : Int32) (M : xM) (hp0 : xHN nn M) (hp1 : xHB nb M) (hp2 : M 4 0 4 ≤ 40) (i_2 : Nat) (o_3 : f_X10_noteOf nt M = some i_2) (hq_5 : i_2 < nn ∧ 0 ≤ nt ∧ nt < 24 ∧ nt < M 0 0 13 ∧ i_2 = nt.toNatClampNeg) (hi_4 : i_2 < nn) (r_6 : Int32) (er_6 : r_6 = xb (f_X10_isTown town M)) (c_7 : ¬ r_6 = 0) (r_8 : Int32) (er_8 : r_8 = xb (f_X10_isUpTo w 299 M)) (c_9 : ¬ r_8 = 0) (i_11 : Nat) (o_12 : f_X10_bankOf (M 29 i_2 1) M = some i_11) (hq_14 : i_11 < nb ∧ 0 ≤ (M 29 i_2 1) ∧ (M 29 i_2 1) < 8 ∧ (M 29 i_2 1) < M 0 0 12 ∧ i_11 = (M 29 i_2 1).toNatClampNeg) (hi_13 : i_11 < nb) (r_15 : Int32) (er_15 : r_15 = xb (f_X4_isUnlike i_2 (M 27 i_11 1) M)) (c_16 : r_15 = 0) (c_17 : ¬ (M 29 i_2 4) = 0) : 0 ≤ town := by
  subst_vars
  grind [isUpTo_eq, isTown10_eq, xb, sheetOf_s, traderOf_s, bankOf_s, noteOf_s, hasPl, xup_at, xHB_o, xHN_o]
theorem ob_X10_looks_80_p1 (nb nn : Nat) (nt : Int32) (town : Int32) (w : Int32) (M : xM) (hp0 : xHN nn M) (hp1 : xHB nb M) (hp2 : M 4 0 4 ≤ 40) (i_2 : Nat) (o_3 : f_X10_noteOf nt M = some i_2) (hq_5 : i_2 < nn ∧ 0 ≤ nt ∧ nt < 24 ∧ nt < M 0 0 13 ∧ i_2 = nt.toNatClampNeg) (hi_4 : i_2 < nn) (r_6 : Int32) (er_6 : r_6 = xb (f_X10_isTown town M)) (c_7 : ¬ r_6 = 0) (r_8 : Int32) (er_8 : r_8 = xb (f_X10_isUpTo w 299 M)) (c_9 : ¬ r_8 = 0) (i_11 : Nat) (o_12 : f_X10_bankOf (M 29 i_2 1) M = some i_11) (hq_14 : i_11 < nb ∧ 0 ≤ (M 29 i_2 1) ∧ (M 29 i_2 1) < 8 ∧ (M 29 i_2 1) < M 0 0 12 ∧ i_11 = (M 29 i_2 1).toNatClampNeg) (hi_13 : i_11 < nb) (r_15 : Int32) (er_15 : r_15 = xb (f_X4_isUnlike i_2 (M 27 i_11 1) M)) (c_16 : r_15 = 0) (c_17 : ¬ (M 29 i_2 4) = 0) : town ≤ 5 := by
  subst_vars
  grind [isUpTo_eq, isTown10_eq, xb, sheetOf_s, traderOf_s, bankOf_s, noteOf_s, hasPl, xup_at, xHB_o, xHN_o]
theorem ob_X10_looks_83_p0 (nb nn : Nat) (nt : Int32) (town : Int32) (w : Int32) (M : xM) (hp0 : xHN nn M) (hp1 : xHB nb M) (hp2 : M 4 0 4 ≤ 40) (i_2 : Nat) (o_3 : f_X10_noteOf nt M = some i_2) (hq_5 : i_2 < nn ∧ 0 ≤ nt ∧ nt < 24 ∧ nt < M 0 0 13 ∧ i_2 = nt.toNatClampNeg) (hi_4 : i_2 < nn) (r_6 : Int32) (er_6 : r_6 = xb (f_X10_isTown town M)) (c_7 : ¬ r_6 = 0) (r_8 : Int32) (er_8 : r_8 = xb (f_X10_isUpTo w 299 M)) (c_9 : ¬ r_8 = 0) (i_11 : Nat) (o_12 : f_X10_bankOf (M 29 i_2 1) M = some i_11) (hq_14 : i_11 < nb ∧ 0 ≤ (M 29 i_2 1) ∧ (M 29 i_2 1) < 8 ∧ (M 29 i_2 1) < M 0 0 12 ∧ i_11 = (M 29 i_2 1).toNatClampNeg) (hi_13 : i_11 < nb) (r_15 : Int32) (er_15 : r_15 = xb (f_X4_isUnlike i_2 (M 27 i_11 1) M)) (c_16 : r_15 = 0) (c_17 : ¬ (M 29 i_2 4) = 0) (r_18 : Int32) (er_18 : r_18 = f_X10_newestBook town w M) : M 4 0 4 ≤ 40 := by
  subst_vars
  grind [isUpTo_eq, isTown10_eq, xb, sheetOf_s, traderOf_s, bankOf_s, noteOf_s, hasPl, xup_at, xHB_o, xHN_o]
theorem ob_X10_inTheHundred_5_p0 (nb nn : Nat) (nt : Nat) (town : Int32) (w : Int32) (M : xM) (hnt : nt < nn) (hp0 : xHB nb M) (hp1 : M 4 0 4 ≤ 40) (hp2 : 0 ≤ town) (hp3 : town ≤ 5) (hp4 : ∀ i : Nat, 0 ≤ M 27 i 0 ∧ M 27 i 0 ≤ 5) : xHB nb M := by
  subst_vars
  grind [isUpTo_eq, isTown10_eq, xb, sheetOf_s, traderOf_s, bankOf_s, noteOf_s, hasPl, xup_at, xHB_o, xHN_o]
theorem ob_X10_inTheHundred_5_q (nb nn : Nat) (nt : Nat) (town : Int32) (w : Int32) (M : xM) (hnt : nt < nn) (hp0 : xHB nb M) (hp1 : M 4 0 4 ≤ 40) (hp2 : 0 ≤ town) (hp3 : town ≤ 5) (hp4 : ∀ i : Nat, 0 ≤ M 27 i 0 ∧ M 27 i 0 ≤ 5) (i_2 : Nat) (o_3 : f_X10_bankOf (M 29 nt 1) M = some i_2) : i_2 < nb ∧ 0 ≤ (M 29 nt 1) ∧ (M 29 nt 1) < 8 ∧ (M 29 nt 1) < M 0 0 12 ∧ i_2 = (M 29 nt 1).toNatClampNeg := by
  exact bankOf_s (nb := nb) (by first | assumption | (subst_vars; grind [xHB_o])) o_3
theorem ob_X10_inTheHundred_32_p0 (nb nn : Nat) (nt : Nat) (town : Int32) (w : Int32) (M : xM) (hnt : nt < nn) (hp0 : xHB nb M) (hp1 : M 4 0 4 ≤ 40) (hp2 : 0 ≤ town) (hp3 : town ≤ 5) (hp4 : ∀ i : Nat, 0 ≤ M 27 i 0 ∧ M 27 i 0 ≤ 5) (i_2 : Nat) (o_3 : f_X10_bankOf (M 29 nt 1) M = some i_2) (hq_5 : i_2 < nb ∧ 0 ≤ (M 29 nt 1) ∧ (M 29 nt 1) < 8 ∧ (M 29 nt 1) < M 0 0 12 ∧ i_2 = (M 29 nt 1).toNatClampNeg) (hi_4 : i_2 < nb) (r_6 : Int32) (er_6 : r_6 = xb (f_X4_isUnlike nt (M 27 i_2 1) M)) (c_7 : r_6 = 0) : 0 ≤ town := by
  subst_vars
  grind [isUpTo_eq, isTown10_eq, xb, sheetOf_s, traderOf_s, bankOf_s, noteOf_s, hasPl, xup_at, xHB_o, xHN_o]
theorem ob_X10_inTheHundred_32_p1 (nb nn : Nat) (nt : Nat) (town : Int32) (w : Int32) (M : xM) (hnt : nt < nn) (hp0 : xHB nb M) (hp1 : M 4 0 4 ≤ 40) (hp2 : 0 ≤ town) (hp3 : town ≤ 5) (hp4 : ∀ i : Nat, 0 ≤ M 27 i 0 ∧ M 27 i 0 ≤ 5) (i_2 : Nat) (o_3 : f_X10_bankOf (M 29 nt 1) M = some i_2) (hq_5 : i_2 < nb ∧ 0 ≤ (M 29 nt 1) ∧ (M 29 nt 1) < 8 ∧ (M 29 nt 1) < M 0 0 12 ∧ i_2 = (M 29 nt 1).toNatClampNeg) (hi_4 : i_2 < nb) (r_6 : Int32) (er_6 : r_6 = xb (f_X4_isUnlike nt (M 27 i_2 1) M)) (c_7 : r_6 = 0) : town ≤ 5 := by
  subst_vars
  grind [isUpTo_eq, isTown10_eq, xb, sheetOf_s, traderOf_s, bankOf_s, noteOf_s, hasPl, xup_at, xHB_o, xHN_o]
theorem ob_X10_inTheHundred_48_p0 (nb nn : Nat) (nt : Nat) (town : Int32) (w : Int32) (M : xM) (hnt : nt < nn) (hp0 : xHB nb M) (hp1 : M 4 0 4 ≤ 40) (hp2 : 0 ≤ town) (hp3 : town ≤ 5) (hp4 : ∀ i : Nat, 0 ≤ M 27 i 0 ∧ M 27 i 0 ≤ 5) (i_2 : Nat) (o_3 : f_X10_bankOf (M 29 nt 1) M = some i_2) (hq_5 : i_2 < nb ∧ 0 ≤ (M 29 nt 1) ∧ (M 29 nt 1) < 8 ∧ (M 29 nt 1) < M 0 0 12 ∧ i_2 = (M 29 nt 1).toNatClampNeg) (hi_4 : i_2 < nb) (r_6 : Int32) (er_6 : r_6 = xb (f_X4_isUnlike nt (M 27 i_2 1) M)) (c_7 : r_6 = 0) (r_8 : Int32) (er_8 : r_8 = f_X10_newestBook town w M) : M 4 0 4 ≤ 40 := by
  subst_vars
  grind [isUpTo_eq, isTown10_eq, xb, sheetOf_s, traderOf_s, bankOf_s, noteOf_s, hasPl, xup_at, xHB_o, xHN_o]
theorem ob_X10_inTheHundred_74_p0 (nb nn : Nat) (nt : Nat) (town : Int32) (w : Int32) (M : xM) (hnt : nt < nn) (hp0 : xHB nb M) (hp1 : M 4 0 4 ≤ 40) (hp2 : 0 ≤ town) (hp3 : town ≤ 5) (hp4 : ∀ i : Nat, 0 ≤ M 27 i 0 ∧ M 27 i 0 ≤ 5) (i_2 : Nat) (o_3 : f_X10_bankOf (M 29 nt 1) M = some i_2) (hq_5 : i_2 < nb ∧ 0 ≤ (M 29 nt 1) ∧ (M 29 nt 1) < 8 ∧ (M 29 nt 1) < M 0 0 12 ∧ i_2 = (M 29 nt 1).toNatClampNeg) (hi_4 : i_2 < nb) (r_6 : Int32) (er_6 : r_6 = xb (f_X4_isUnlike nt (M 27 i_2 1) M)) (c_7 : r_6 = 0) (r_8 : Int32) (er_8 : r_8 = f_X10_newestBook town w M) (r_9 : Int32) (er_9 : r_9 = f_X2_latest 2 (M 29 nt 1) r_8 M) (c_10 : r_9 = (-1000000)) : 0 ≤ town := by
  subst_vars
  grind [isUpTo_eq, isTown10_eq, xb, sheetOf_s, traderOf_s, bankOf_s, noteOf_s, hasPl, xup_at, xHB_o, xHN_o]
theorem ob_X10_inTheHundred_74_p1 (nb nn : Nat) (nt : Nat) (town : Int32) (w : Int32) (M : xM) (hnt : nt < nn) (hp0 : xHB nb M) (hp1 : M 4 0 4 ≤ 40) (hp2 : 0 ≤ town) (hp3 : town ≤ 5) (hp4 : ∀ i : Nat, 0 ≤ M 27 i 0 ∧ M 27 i 0 ≤ 5) (i_2 : Nat) (o_3 : f_X10_bankOf (M 29 nt 1) M = some i_2) (hq_5 : i_2 < nb ∧ 0 ≤ (M 29 nt 1) ∧ (M 29 nt 1) < 8 ∧ (M 29 nt 1) < M 0 0 12 ∧ i_2 = (M 29 nt 1).toNatClampNeg) (hi_4 : i_2 < nb) (r_6 : Int32) (er_6 : r_6 = xb (f_X4_isUnlike nt (M 27 i_2 1) M)) (c_7 : r_6 = 0) (r_8 : Int32) (er_8 : r_8 = f_X10_newestBook town w M) (r_9 : Int32) (er_9 : r_9 = f_X2_latest 2 (M 29 nt 1) r_8 M) (c_10 : r_9 = (-1000000)) : town < 6 := by
  subst_vars
  grind [isUpTo_eq, isTown10_eq, xb, sheetOf_s, traderOf_s, bankOf_s, noteOf_s, hasPl, xup_at, xHB_o, xHN_o]
theorem ob_X10_inTheHundred_74_p2 (nb nn : Nat) (nt : Nat) (town : Int32) (w : Int32) (M : xM) (hnt : nt < nn) (hp0 : xHB nb M) (hp1 : M 4 0 4 ≤ 40) (hp2 : 0 ≤ town) (hp3 : town ≤ 5) (hp4 : ∀ i : Nat, 0 ≤ M 27 i 0 ∧ M 27 i 0 ≤ 5) (i_2 : Nat) (o_3 : f_X10_bankOf (M 29 nt 1) M = some i_2) (hq_5 : i_2 < nb ∧ 0 ≤ (M 29 nt 1) ∧ (M 29 nt 1) < 8 ∧ (M 29 nt 1) < M 0 0 12 ∧ i_2 = (M 29 nt 1).toNatClampNeg) (hi_4 : i_2 < nb) (r_6 : Int32) (er_6 : r_6 = xb (f_X4_isUnlike nt (M 27 i_2 1) M)) (c_7 : r_6 = 0) (r_8 : Int32) (er_8 : r_8 = f_X10_newestBook town w M) (r_9 : Int32) (er_9 : r_9 = f_X2_latest 2 (M 29 nt 1) r_8 M) (c_10 : r_9 = (-1000000)) : 0 ≤ (M 27 i_2 0) := by
  subst_vars
  grind [isUpTo_eq, isTown10_eq, xb, sheetOf_s, traderOf_s, bankOf_s, noteOf_s, hasPl, xup_at, xHB_o, xHN_o]
theorem ob_X10_inTheHundred_74_p3 (nb nn : Nat) (nt : Nat) (town : Int32) (w : Int32) (M : xM) (hnt : nt < nn) (hp0 : xHB nb M) (hp1 : M 4 0 4 ≤ 40) (hp2 : 0 ≤ town) (hp3 : town ≤ 5) (hp4 : ∀ i : Nat, 0 ≤ M 27 i 0 ∧ M 27 i 0 ≤ 5) (i_2 : Nat) (o_3 : f_X10_bankOf (M 29 nt 1) M = some i_2) (hq_5 : i_2 < nb ∧ 0 ≤ (M 29 nt 1) ∧ (M 29 nt 1) < 8 ∧ (M 29 nt 1) < M 0 0 12 ∧ i_2 = (M 29 nt 1).toNatClampNeg) (hi_4 : i_2 < nb) (r_6 : Int32) (er_6 : r_6 = xb (f_X4_isUnlike nt (M 27 i_2 1) M)) (c_7 : r_6 = 0) (r_8 : Int32) (er_8 : r_8 = f_X10_newestBook town w M) (r_9 : Int32) (er_9 : r_9 = f_X2_latest 2 (M 29 nt 1) r_8 M) (c_10 : r_9 = (-1000000)) : (M 27 i_2 0) < 6 := by
  subst_vars
  grind [isUpTo_eq, isTown10_eq, xb, sheetOf_s, traderOf_s, bankOf_s, noteOf_s, hasPl, xup_at, xHB_o, xHN_o]
theorem ob_X10_inTheHundred_102_p0 (nb nn : Nat) (nt : Nat) (town : Int32) (w : Int32) (M : xM) (hnt : nt < nn) (hp0 : xHB nb M) (hp1 : M 4 0 4 ≤ 40) (hp2 : 0 ≤ town) (hp3 : town ≤ 5) (hp4 : ∀ i : Nat, 0 ≤ M 27 i 0 ∧ M 27 i 0 ≤ 5) (i_2 : Nat) (o_3 : f_X10_bankOf (M 29 nt 1) M = some i_2) (hq_5 : i_2 < nb ∧ 0 ≤ (M 29 nt 1) ∧ (M 29 nt 1) < 8 ∧ (M 29 nt 1) < M 0 0 12 ∧ i_2 = (M 29 nt 1).toNatClampNeg) (hi_4 : i_2 < nb) (r_6 : Int32) (er_6 : r_6 = xb (f_X4_isUnlike nt (M 27 i_2 1) M)) (c_7 : r_6 = 0) (r_8 : Int32) (er_8 : r_8 = f_X10_newestBook town w M) (r_9 : Int32) (er_9 : r_9 = f_X2_latest 2 (M 29 nt 1) r_8 M) (c_10 : r_9 = (-1000000)) (r_11 : Int32) (er_11 : r_11 = f_X5_fewestMiles town (M 27 i_2 0) M) (c_12 : ¬ r_11 = (-1000000)) : M 4 0 4 ≤ 40 := by
  subst_vars
  grind [isUpTo_eq, isTown10_eq, xb, sheetOf_s, traderOf_s, bankOf_s, noteOf_s, hasPl, xup_at, xHB_o, xHN_o]
theorem ob_X10_worth_2_p0 (nb nn : Nat) (nt : Int32) (town : Int32) (w : Int32) (M : xM) (hp0 : xHN nn M) (hp1 : xHB nb M) (hp2 : M 4 0 4 ≤ 40) (hp3 : ∀ i : Nat, 0 ≤ M 27 i 0 ∧ M 27 i 0 ≤ 5) : xHN nn M := by
  subst_vars
  grind [isUpTo_eq, isTown10_eq, xb, sheetOf_s, traderOf_s, bankOf_s, noteOf_s, hasPl, xup_at, xHB_o, xHN_o]
theorem ob_X10_worth_2_q (nb nn : Nat) (nt : Int32) (town : Int32) (w : Int32) (M : xM) (hp0 : xHN nn M) (hp1 : xHB nb M) (hp2 : M 4 0 4 ≤ 40) (hp3 : ∀ i : Nat, 0 ≤ M 27 i 0 ∧ M 27 i 0 ≤ 5) (i_2 : Nat) (o_3 : f_X10_noteOf nt M = some i_2) : i_2 < nn ∧ 0 ≤ nt ∧ nt < 24 ∧ nt < M 0 0 13 ∧ i_2 = nt.toNatClampNeg := by
  exact noteOf_s (nn := nn) (by first | assumption | (subst_vars; grind [xHN_o])) o_3
theorem ob_X10_worth_42_p0 (nb nn : Nat) (nt : Int32) (town : Int32) (w : Int32) (M : xM) (hp0 : xHN nn M) (hp1 : xHB nb M) (hp2 : M 4 0 4 ≤ 40) (hp3 : ∀ i : Nat, 0 ≤ M 27 i 0 ∧ M 27 i 0 ≤ 5) (i_2 : Nat) (o_3 : f_X10_noteOf nt M = some i_2) (hq_5 : i_2 < nn ∧ 0 ≤ nt ∧ nt < 24 ∧ nt < M 0 0 13 ∧ i_2 = nt.toNatClampNeg) (hi_4 : i_2 < nn) (r_6 : Int32) (er_6 : r_6 = xb (f_X10_isTown town M)) (c_7 : ¬ r_6 = 0) (r_8 : Int32) (er_8 : r_8 = xb (f_X10_isUpTo w 299 M)) (c_9 : ¬ r_8 = 0) : xHB nb M := by
  subst_vars
  grind [isUpTo_eq, isTown10_eq, xb, sheetOf_s, traderOf_s, bankOf_s, noteOf_s, hasPl, xup_at, xHB_o, xHN_o]
theorem ob_X10_worth_42_p1 (nb nn : Nat) (nt : Int32) (town : Int32) (w : Int32) (M : xM) (hp0 : xHN nn M) (hp1 : xHB nb M) (hp2 : M 4 0 4 ≤ 40) (hp3 : ∀ i : Nat, 0 ≤ M 27 i 0 ∧ M 27 i 0 ≤ 5) (i_2 : Nat) (o_3 : f_X10_noteOf nt M = some i_2) (hq_5 : i_2 < nn ∧ 0 ≤ nt ∧ nt < 24 ∧ nt < M 0 0 13 ∧ i_2 = nt.toNatClampNeg) (hi_4 : i_2 < nn) (r_6 : Int32) (er_6 : r_6 = xb (f_X10_isTown town M)) (c_7 : ¬ r_6 = 0) (r_8 : Int32) (er_8 : r_8 = xb (f_X10_isUpTo w 299 M)) (c_9 : ¬ r_8 = 0) : M 4 0 4 ≤ 40 := by
  subst_vars
  grind [isUpTo_eq, isTown10_eq, xb, sheetOf_s, traderOf_s, bankOf_s, noteOf_s, hasPl, xup_at, xHB_o, xHN_o]
theorem ob_X10_worth_42_p2 (nb nn : Nat) (nt : Int32) (town : Int32) (w : Int32) (M : xM) (hp0 : xHN nn M) (hp1 : xHB nb M) (hp2 : M 4 0 4 ≤ 40) (hp3 : ∀ i : Nat, 0 ≤ M 27 i 0 ∧ M 27 i 0 ≤ 5) (i_2 : Nat) (o_3 : f_X10_noteOf nt M = some i_2) (hq_5 : i_2 < nn ∧ 0 ≤ nt ∧ nt < 24 ∧ nt < M 0 0 13 ∧ i_2 = nt.toNatClampNeg) (hi_4 : i_2 < nn) (r_6 : Int32) (er_6 : r_6 = xb (f_X10_isTown town M)) (c_7 : ¬ r_6 = 0) (r_8 : Int32) (er_8 : r_8 = xb (f_X10_isUpTo w 299 M)) (c_9 : ¬ r_8 = 0) : 0 ≤ town := by
  subst_vars
  grind [isUpTo_eq, isTown10_eq, xb, sheetOf_s, traderOf_s, bankOf_s, noteOf_s, hasPl, xup_at, xHB_o, xHN_o]
theorem ob_X10_worth_42_p3 (nb nn : Nat) (nt : Int32) (town : Int32) (w : Int32) (M : xM) (hp0 : xHN nn M) (hp1 : xHB nb M) (hp2 : M 4 0 4 ≤ 40) (hp3 : ∀ i : Nat, 0 ≤ M 27 i 0 ∧ M 27 i 0 ≤ 5) (i_2 : Nat) (o_3 : f_X10_noteOf nt M = some i_2) (hq_5 : i_2 < nn ∧ 0 ≤ nt ∧ nt < 24 ∧ nt < M 0 0 13 ∧ i_2 = nt.toNatClampNeg) (hi_4 : i_2 < nn) (r_6 : Int32) (er_6 : r_6 = xb (f_X10_isTown town M)) (c_7 : ¬ r_6 = 0) (r_8 : Int32) (er_8 : r_8 = xb (f_X10_isUpTo w 299 M)) (c_9 : ¬ r_8 = 0) : town ≤ 5 := by
  subst_vars
  grind [isUpTo_eq, isTown10_eq, xb, sheetOf_s, traderOf_s, bankOf_s, noteOf_s, hasPl, xup_at, xHB_o, xHN_o]
theorem ob_X10_worth_42_p4 (nb nn : Nat) (nt : Int32) (town : Int32) (w : Int32) (M : xM) (hp0 : xHN nn M) (hp1 : xHB nb M) (hp2 : M 4 0 4 ≤ 40) (hp3 : ∀ i : Nat, 0 ≤ M 27 i 0 ∧ M 27 i 0 ≤ 5) (i_2 : Nat) (o_3 : f_X10_noteOf nt M = some i_2) (hq_5 : i_2 < nn ∧ 0 ≤ nt ∧ nt < 24 ∧ nt < M 0 0 13 ∧ i_2 = nt.toNatClampNeg) (hi_4 : i_2 < nn) (r_6 : Int32) (er_6 : r_6 = xb (f_X10_isTown town M)) (c_7 : ¬ r_6 = 0) (r_8 : Int32) (er_8 : r_8 = xb (f_X10_isUpTo w 299 M)) (c_9 : ¬ r_8 = 0) : ∀ i : Nat, 0 ≤ M 27 i 0 ∧ M 27 i 0 ≤ 5 := by
  subst_vars
  grind [isUpTo_eq, isTown10_eq, xb, sheetOf_s, traderOf_s, bankOf_s, noteOf_s, hasPl, xup_at, xHB_o, xHN_o]
theorem ob_X10_hands_2_p0 (nb nn : Nat) (nt : Int32) (i : Int32) (what : Int32) (M : xM) (hp0 : xHN nn M) (hp1 : ∀ i : Nat, 0 ≤ M 29 i 6 ∧ M 29 i 6 ≤ 12) : xHN nn M := by
  subst_vars
  grind [isUpTo_eq, isTown10_eq, xb, sheetOf_s, traderOf_s, bankOf_s, noteOf_s, hasPl, xup_at, xHB_o, xHN_o]
theorem ob_X10_hands_2_q (nb nn : Nat) (nt : Int32) (i : Int32) (what : Int32) (M : xM) (hp0 : xHN nn M) (hp1 : ∀ i : Nat, 0 ≤ M 29 i 6 ∧ M 29 i 6 ≤ 12) (i_2 : Nat) (o_3 : f_X10_noteOf nt M = some i_2) : i_2 < nn ∧ 0 ≤ nt ∧ nt < 24 ∧ nt < M 0 0 13 ∧ i_2 = nt.toNatClampNeg := by
  exact noteOf_s (nn := nn) (by first | assumption | (subst_vars; grind [xHN_o])) o_3
theorem ob_X10_hands_55_p0 (nb nn : Nat) (nt : Int32) (i : Int32) (what : Int32) (M : xM) (hp0 : xHN nn M) (hp1 : ∀ i : Nat, 0 ≤ M 29 i 6 ∧ M 29 i 6 ≤ 12) (i_2 : Nat) (o_3 : f_X10_noteOf nt M = some i_2) (hq_5 : i_2 < nn ∧ 0 ≤ nt ∧ nt < 24 ∧ nt < M 0 0 13 ∧ i_2 = nt.toNatClampNeg) (hi_4 : i_2 < nn) (c_6 : ¬ i < (-1)) (r_7 : Int32) (er_7 : r_7 = xb (f_X10_isUpTo what 1 M)) (c_8 : ¬ r_7 = 0) (c_9 : ¬ i = (-1)) (c_10 : ¬ what = 0) : M 29 i_2 6 ≤ 12 := by
  subst_vars
  grind [isUpTo_eq, isTown10_eq, xb, sheetOf_s, traderOf_s, bankOf_s, noteOf_s, hasPl, xup_at, xHB_o, xHN_o]
theorem ob_X10_hands_46_p0 (nb nn : Nat) (nt : Int32) (i : Int32) (what : Int32) (M : xM) (hp0 : xHN nn M) (hp1 : ∀ i : Nat, 0 ≤ M 29 i 6 ∧ M 29 i 6 ≤ 12) (i_2 : Nat) (o_3 : f_X10_noteOf nt M = some i_2) (hq_5 : i_2 < nn ∧ 0 ≤ nt ∧ nt < 24 ∧ nt < M 0 0 13 ∧ i_2 = nt.toNatClampNeg) (hi_4 : i_2 < nn) (c_6 : ¬ i < (-1)) (r_7 : Int32) (er_7 : r_7 = xb (f_X10_isUpTo what 1 M)) (c_8 : ¬ r_7 = 0) (c_9 : ¬ i = (-1)) (c_10 : what = 0) : M 29 i_2 6 ≤ 12 := by
  subst_vars
  grind [isUpTo_eq, isTown10_eq, xb, sheetOf_s, traderOf_s, bankOf_s, noteOf_s, hasPl, xup_at, xHB_o, xHN_o]
theorem ob_X10_trader_2_p0 (nb nn : Nat) (tr : Int32) (town : Int32) (takes : Int32) (M : xM) (hp0 : xHT M) : xHT M := by
  subst_vars
  grind [isUpTo_eq, isTown10_eq, xb, sheetOf_s, traderOf_s, bankOf_s, noteOf_s, hasPl, xup_at, xHB_o, xHN_o]
theorem ob_X10_trader_2_q (nb nn : Nat) (tr : Int32) (town : Int32) (takes : Int32) (M : xM) (hp0 : xHT M) (i_2 : Nat) (o_3 : f_X10_traderOf tr M = some i_2) : i_2 < 8 ∧ 0 ≤ tr ∧ tr ≤ 7 ∧ i_2 = tr.toNatClampNeg := by
  exact traderOf_s o_3
theorem ob_X10_bears_2_p0 (nb nn : Nat) (nt : Int32) (weeks : Int32) (M : xM) (hp0 : xHN nn M) (hp1 : ∀ i : Nat, 0 ≤ M 29 i 6 ∧ M 29 i 6 ≤ 12) : xHN nn M := by
  subst_vars
  grind [isUpTo_eq, isTown10_eq, xb, sheetOf_s, traderOf_s, bankOf_s, noteOf_s, hasPl, xup_at, xHB_o, xHN_o]
theorem ob_X10_bears_2_q (nb nn : Nat) (nt : Int32) (weeks : Int32) (M : xM) (hp0 : xHN nn M) (hp1 : ∀ i : Nat, 0 ≤ M 29 i 6 ∧ M 29 i 6 ≤ 12) (i_2 : Nat) (o_3 : f_X10_noteOf nt M = some i_2) : i_2 < nn ∧ 0 ≤ nt ∧ nt < 24 ∧ nt < M 0 0 13 ∧ i_2 = nt.toNatClampNeg := by
  exact noteOf_s (nn := nn) (by first | assumption | (subst_vars; grind [xHN_o])) o_3
theorem ob_X10_bears_40_p0 (nb nn : Nat) (nt : Int32) (weeks : Int32) (M : xM) (hp0 : xHN nn M) (hp1 : ∀ i : Nat, 0 ≤ M 29 i 6 ∧ M 29 i 6 ≤ 12) (i_2 : Nat) (o_3 : f_X10_noteOf nt M = some i_2) (hq_5 : i_2 < nn ∧ 0 ≤ nt ∧ nt < 24 ∧ nt < M 0 0 13 ∧ i_2 = nt.toNatClampNeg) (hi_4 : i_2 < nn) (r_6 : Int32) (er_6 : r_6 = xb (f_X10_isUpTo weeks 299 M)) (c_7 : ¬ r_6 = 0) (c_8 : (M 29 i_2 5) = 0) : M 29 i_2 6 ≤ 12 := by
  subst_vars
  grind [isUpTo_eq, isTown10_eq, xb, sheetOf_s, traderOf_s, bankOf_s, noteOf_s, hasPl, xup_at, xHB_o, xHN_o]
theorem ob_X10_home_2_p0 (nb nn : Nat) (nt : Int32) (M : xM) (hp0 : xHN nn M) (hp1 : xHB nb M) : xHN nn M := by
  subst_vars
  grind [isUpTo_eq, isTown10_eq, xb, sheetOf_s, traderOf_s, bankOf_s, noteOf_s, hasPl, xup_at, xHB_o, xHN_o]
theorem ob_X10_home_2_q (nb nn : Nat) (nt : Int32) (M : xM) (hp0 : xHN nn M) (hp1 : xHB nb M) (i_2 : Nat) (o_3 : f_X10_noteOf nt M = some i_2) : i_2 < nn ∧ 0 ≤ nt ∧ nt < 24 ∧ nt < M 0 0 13 ∧ i_2 = nt.toNatClampNeg := by
  exact noteOf_s (nn := nn) (by first | assumption | (subst_vars; grind [xHN_o])) o_3
theorem ob_X10_home_18_p0 (nb nn : Nat) (nt : Int32) (M : xM) (hp0 : xHN nn M) (hp1 : xHB nb M) (i_2 : Nat) (o_3 : f_X10_noteOf nt M = some i_2) (hq_5 : i_2 < nn ∧ 0 ≤ nt ∧ nt < 24 ∧ nt < M 0 0 13 ∧ i_2 = nt.toNatClampNeg) (hi_4 : i_2 < nn) : xHB nb M := by
  subst_vars
  grind [isUpTo_eq, isTown10_eq, xb, sheetOf_s, traderOf_s, bankOf_s, noteOf_s, hasPl, xup_at, xHB_o, xHN_o]
theorem ob_X10_home_18_q (nb nn : Nat) (nt : Int32) (M : xM) (hp0 : xHN nn M) (hp1 : xHB nb M) (i_2 : Nat) (o_3 : f_X10_noteOf nt M = some i_2) (hq_5 : i_2 < nn ∧ 0 ≤ nt ∧ nt < 24 ∧ nt < M 0 0 13 ∧ i_2 = nt.toNatClampNeg) (hi_4 : i_2 < nn) (i_7 : Nat) (o_8 : f_X10_bankOf (M 29 i_2 1) M = some i_7) : i_7 < nb ∧ 0 ≤ (M 29 i_2 1) ∧ (M 29 i_2 1) < 8 ∧ (M 29 i_2 1) < M 0 0 12 ∧ i_7 = (M 29 i_2 1).toNatClampNeg := by
  exact bankOf_s (nb := nb) (by first | assumption | (subst_vars; grind [xHB_o])) o_8
theorem ob_X10_cut_2_p0 (nb nn : Nat) (nt : Int32) (to : Int32) (M : xM) (hp0 : xHN nn M) (hp1 : xHT M) : xHN nn M := by
  subst_vars
  grind [isUpTo_eq, isTown10_eq, xb, sheetOf_s, traderOf_s, bankOf_s, noteOf_s, hasPl, xup_at, xHB_o, xHN_o]
theorem ob_X10_cut_2_q (nb nn : Nat) (nt : Int32) (to : Int32) (M : xM) (hp0 : xHN nn M) (hp1 : xHT M) (i_2 : Nat) (o_3 : f_X10_noteOf nt M = some i_2) : i_2 < nn ∧ 0 ≤ nt ∧ nt < 24 ∧ nt < M 0 0 13 ∧ i_2 = nt.toNatClampNeg := by
  exact noteOf_s (nn := nn) (by first | assumption | (subst_vars; grind [xHN_o])) o_3
theorem ob_X10_cut_12_p0 (nb nn : Nat) (nt : Int32) (to : Int32) (M : xM) (hp0 : xHN nn M) (hp1 : xHT M) (i_2 : Nat) (o_3 : f_X10_noteOf nt M = some i_2) (hq_5 : i_2 < nn ∧ 0 ≤ nt ∧ nt < 24 ∧ nt < M 0 0 13 ∧ i_2 = nt.toNatClampNeg) (hi_4 : i_2 < nn) : xHT M := by
  subst_vars
  grind [isUpTo_eq, isTown10_eq, xb, sheetOf_s, traderOf_s, bankOf_s, noteOf_s, hasPl, xup_at, xHB_o, xHN_o]
theorem ob_X10_cut_12_q (nb nn : Nat) (nt : Int32) (to : Int32) (M : xM) (hp0 : xHN nn M) (hp1 : xHT M) (i_2 : Nat) (o_3 : f_X10_noteOf nt M = some i_2) (hq_5 : i_2 < nn ∧ 0 ≤ nt ∧ nt < 24 ∧ nt < M 0 0 13 ∧ i_2 = nt.toNatClampNeg) (hi_4 : i_2 < nn) (i_7 : Nat) (o_8 : f_X10_traderOf to M = some i_7) : i_7 < 8 ∧ 0 ≤ to ∧ to ≤ 7 ∧ i_7 = to.toNatClampNeg := by
  exact traderOf_s o_8
theorem ob_X10_half_2_p0 (nb nn : Nat) (nt : Int32) (hf : Int32) (to : Int32) (M : xM) (hp0 : xHN nn M) (hp1 : xHT M) (hp2 : ∀ i : Nat, 0 ≤ M 29 i 6 ∧ M 29 i 6 ≤ 12) : xHN nn M := by
  subst_vars
  grind [isUpTo_eq, isTown10_eq, xb, sheetOf_s, traderOf_s, bankOf_s, noteOf_s, hasPl, xup_at, xHB_o, xHN_o]
theorem ob_X10_half_2_q (nb nn : Nat) (nt : Int32) (hf : Int32) (to : Int32) (M : xM) (hp0 : xHN nn M) (hp1 : xHT M) (hp2 : ∀ i : Nat, 0 ≤ M 29 i 6 ∧ M 29 i 6 ≤ 12) (i_2 : Nat) (o_3 : f_X10_noteOf nt M = some i_2) : i_2 < nn ∧ 0 ≤ nt ∧ nt < 24 ∧ nt < M 0 0 13 ∧ i_2 = nt.toNatClampNeg := by
  exact noteOf_s (nn := nn) (by first | assumption | (subst_vars; grind [xHN_o])) o_3
theorem ob_X10_half_71_p0 (nb nn : Nat) (nt : Int32) (hf : Int32) (to : Int32) (M : xM) (hp0 : xHN nn M) (hp1 : xHT M) (hp2 : ∀ i : Nat, 0 ≤ M 29 i 6 ∧ M 29 i 6 ≤ 12) (i_2 : Nat) (o_3 : f_X10_noteOf nt M = some i_2) (hq_5 : i_2 < nn ∧ 0 ≤ nt ∧ nt < 24 ∧ nt < M 0 0 13 ∧ i_2 = nt.toNatClampNeg) (hi_4 : i_2 < nn) (r_6 : Int32) (er_6 : r_6 = xb (f_X10_isUpTo hf 1 M)) (c_7 : ¬ r_6 = 0) (c_8 : to = (-1000000)) (c_9 : (M 29 i_2 5) = 3) (r_10 : Int32) (er_10 : r_10 = f_X4_halfHolder i_2 hf M) (c_11 : ¬ r_10 = (-1000000)) : M 29 i_2 6 ≤ 12 := by
  subst_vars
  grind [isUpTo_eq, isTown10_eq, xb, sheetOf_s, traderOf_s, bankOf_s, noteOf_s, hasPl, xup_at, xHB_o, xHN_o]
theorem ob_X10_half_29_p0 (nb nn : Nat) (nt : Int32) (hf : Int32) (to : Int32) (M : xM) (hp0 : xHN nn M) (hp1 : xHT M) (hp2 : ∀ i : Nat, 0 ≤ M 29 i 6 ∧ M 29 i 6 ≤ 12) (i_2 : Nat) (o_3 : f_X10_noteOf nt M = some i_2) (hq_5 : i_2 < nn ∧ 0 ≤ nt ∧ nt < 24 ∧ nt < M 0 0 13 ∧ i_2 = nt.toNatClampNeg) (hi_4 : i_2 < nn) (r_6 : Int32) (er_6 : r_6 = xb (f_X10_isUpTo hf 1 M)) (c_7 : ¬ r_6 = 0) (c_8 : ¬ to = (-1000000)) : xHT M := by
  subst_vars
  grind [isUpTo_eq, isTown10_eq, xb, sheetOf_s, traderOf_s, bankOf_s, noteOf_s, hasPl, xup_at, xHB_o, xHN_o]
theorem ob_X10_half_29_q (nb nn : Nat) (nt : Int32) (hf : Int32) (to : Int32) (M : xM) (hp0 : xHN nn M) (hp1 : xHT M) (hp2 : ∀ i : Nat, 0 ≤ M 29 i 6 ∧ M 29 i 6 ≤ 12) (i_2 : Nat) (o_3 : f_X10_noteOf nt M = some i_2) (hq_5 : i_2 < nn ∧ 0 ≤ nt ∧ nt < 24 ∧ nt < M 0 0 13 ∧ i_2 = nt.toNatClampNeg) (hi_4 : i_2 < nn) (r_6 : Int32) (er_6 : r_6 = xb (f_X10_isUpTo hf 1 M)) (c_7 : ¬ r_6 = 0) (c_8 : ¬ to = (-1000000)) (i_16 : Nat) (o_17 : f_X10_traderOf to M = some i_16) : i_16 < 8 ∧ 0 ≤ to ∧ to ≤ 7 ∧ i_16 = to.toNatClampNeg := by
  exact traderOf_s o_17
theorem ob_X10_half_71_p0_2 (nb nn : Nat) (nt : Int32) (hf : Int32) (to : Int32) (M : xM) (hp0 : xHN nn M) (hp1 : xHT M) (hp2 : ∀ i : Nat, 0 ≤ M 29 i 6 ∧ M 29 i 6 ≤ 12) (i_2 : Nat) (o_3 : f_X10_noteOf nt M = some i_2) (hq_5 : i_2 < nn ∧ 0 ≤ nt ∧ nt < 24 ∧ nt < M 0 0 13 ∧ i_2 = nt.toNatClampNeg) (hi_4 : i_2 < nn) (r_6 : Int32) (er_6 : r_6 = xb (f_X10_isUpTo hf 1 M)) (c_7 : ¬ r_6 = 0) (c_8 : ¬ to = (-1000000)) (i_16 : Nat) (o_17 : f_X10_traderOf to M = some i_16) (hq_19 : i_16 < 8 ∧ 0 ≤ to ∧ to ≤ 7 ∧ i_16 = to.toNatClampNeg) (hi_18 : i_16 < 8) (c_20 : (M 29 i_2 5) = 3) (r_21 : Int32) (er_21 : r_21 = f_X4_halfHolder i_2 hf M) (c_22 : ¬ r_21 = (-1000000)) : M 29 i_2 6 ≤ 12 := by
  subst_vars
  grind [isUpTo_eq, isTown10_eq, xb, sheetOf_s, traderOf_s, bankOf_s, noteOf_s, hasPl, xup_at, xHB_o, xHN_o]
theorem ob_X10_kindOf_25_p0 (nb nn : Nat) (nt : Nat) (M : xM) (hnt : nt < nn) (hp0 : xHB nb M) (c_1 : ¬ (M 29 nt 5) = 2) (c_2 : ¬ (M 29 nt 5) = 3) : xHB nb M := by
  subst_vars
  grind [isUpTo_eq, isTown10_eq, xb, sheetOf_s, traderOf_s, bankOf_s, noteOf_s, hasPl, xup_at, xHB_o, xHN_o]
theorem ob_X10_kindOf_25_q (nb nn : Nat) (nt : Nat) (M : xM) (hnt : nt < nn) (hp0 : xHB nb M) (c_1 : ¬ (M 29 nt 5) = 2) (c_2 : ¬ (M 29 nt 5) = 3) (i_4 : Nat) (o_5 : f_X10_bankOf (M 29 nt 1) M = some i_4) : i_4 < nb ∧ 0 ≤ (M 29 nt 1) ∧ (M 29 nt 1) < 8 ∧ (M 29 nt 1) < M 0 0 12 ∧ i_4 = (M 29 nt 1).toNatClampNeg := by
  exact bankOf_s (nb := nb) (by first | assumption | (subst_vars; grind [xHB_o])) o_5
theorem ob_X10_kind_2_p0 (nb nn : Nat) (nt : Int32) (M : xM) (hp0 : xHN nn M) (hp1 : xHB nb M) : xHN nn M := by
  subst_vars
  grind [isUpTo_eq, isTown10_eq, xb, sheetOf_s, traderOf_s, bankOf_s, noteOf_s, hasPl, xup_at, xHB_o, xHN_o]
theorem ob_X10_kind_2_q (nb nn : Nat) (nt : Int32) (M : xM) (hp0 : xHN nn M) (hp1 : xHB nb M) (i_2 : Nat) (o_3 : f_X10_noteOf nt M = some i_2) : i_2 < nn ∧ 0 ≤ nt ∧ nt < 24 ∧ nt < M 0 0 13 ∧ i_2 = nt.toNatClampNeg := by
  exact noteOf_s (nn := nn) (by first | assumption | (subst_vars; grind [xHN_o])) o_3
theorem ob_X10_kind_17_p0 (nb nn : Nat) (nt : Int32) (M : xM) (hp0 : xHN nn M) (hp1 : xHB nb M) (i_2 : Nat) (o_3 : f_X10_noteOf nt M = some i_2) (hq_5 : i_2 < nn ∧ 0 ≤ nt ∧ nt < 24 ∧ nt < M 0 0 13 ∧ i_2 = nt.toNatClampNeg) (hi_4 : i_2 < nn) : xHB nb M := by
  subst_vars
  grind [isUpTo_eq, isTown10_eq, xb, sheetOf_s, traderOf_s, bankOf_s, noteOf_s, hasPl, xup_at, xHB_o, xHN_o]
theorem ob_X10_as_2_p0 (nb nn : Nat) (nt : Int32) (kd : Int32) (M : xM) (hp0 : xHN nn M) (hp1 : xHB nb M) : xHN nn M := by
  subst_vars
  grind [isUpTo_eq, isTown10_eq, xb, sheetOf_s, traderOf_s, bankOf_s, noteOf_s, hasPl, xup_at, xHB_o, xHN_o]
theorem ob_X10_as_2_q (nb nn : Nat) (nt : Int32) (kd : Int32) (M : xM) (hp0 : xHN nn M) (hp1 : xHB nb M) (i_2 : Nat) (o_3 : f_X10_noteOf nt M = some i_2) : i_2 < nn ∧ 0 ≤ nt ∧ nt < 24 ∧ nt < M 0 0 13 ∧ i_2 = nt.toNatClampNeg := by
  exact noteOf_s (nn := nn) (by first | assumption | (subst_vars; grind [xHN_o])) o_3
theorem ob_X10_as_23_p0 (nb nn : Nat) (nt : Int32) (kd : Int32) (M : xM) (hp0 : xHN nn M) (hp1 : xHB nb M) (i_2 : Nat) (o_3 : f_X10_noteOf nt M = some i_2) (hq_5 : i_2 < nn ∧ 0 ≤ nt ∧ nt < 24 ∧ nt < M 0 0 13 ∧ i_2 = nt.toNatClampNeg) (hi_4 : i_2 < nn) (r_6 : Int32) (er_6 : r_6 = xb (f_X10_isUpTo kd 5 M)) (c_7 : ¬ r_6 = 0) : xHB nb M := by
  subst_vars
  grind [isUpTo_eq, isTown10_eq, xb, sheetOf_s, traderOf_s, bankOf_s, noteOf_s, hasPl, xup_at, xHB_o, xHN_o]
theorem ob_X10_trace_5_p0 (nb nn : Nat) (i : Int32) (M : xM) (hp0 : M 12 0 1 ≤ 16) : M 12 0 1 ≤ 16 := by
  subst_vars
  grind [isUpTo_eq, isTown10_eq, xb, sheetOf_s, traderOf_s, bankOf_s, noteOf_s, hasPl, xup_at, xHB_o, xHN_o]
theorem ob_X10_sheetsThere_12_p0 (nb nn : Nat) (M : xM) (hp0 : xHS M) (n : Nat) (there : Int32) (i : Int32) (hmu : xmu i 8 < n + 1) (hinv : True) (c_1 : ¬ 8 ≤ i) : xHS M := by
  subst_vars
  grind [isUpTo_eq, isTown10_eq, xb, sheetOf_s, traderOf_s, bankOf_s, noteOf_s, hasPl, xup_at, xHB_o, xHN_o]
theorem ob_X10_sheetsThere_12_q (nb nn : Nat) (M : xM) (hp0 : xHS M) (n : Nat) (there : Int32) (i : Int32) (hmu : xmu i 8 < n + 1) (hinv : True) (c_1 : ¬ 8 ≤ i) (i_3 : Nat) (o_4 : f_X10_sheetOf i M = some i_3) : i_3 < 8 ∧ 0 ≤ i ∧ i ≤ 7 ∧ i_3 = i.toNatClampNeg := by
  exact sheetOf_s o_4
theorem ob_X10_sheetsThere_4_mu_7 (nb nn : Nat) (M : xM) (hp0 : xHS M) (n : Nat) (there : Int32) (i : Int32) (hmu : xmu i 8 < n + 1) (hinv : True) (c_1 : ¬ 8 ≤ i) (o_4 : f_X10_sheetOf i M = none) (x2_7 : Int32) (ex2_7 : x2_7 = i + 1) : xmu x2_7 8 < n := by
  subst_vars
  have h9 := xmu_up (a := i) (b := 8) (by grind)
  (try simp [xup_at])
  omega
theorem ob_X10_sheetsThere_4_mu_10 (nb nn : Nat) (M : xM) (hp0 : xHS M) (n : Nat) (there : Int32) (i : Int32) (hmu : xmu i 8 < n + 1) (hinv : True) (c_1 : ¬ 8 ≤ i) (i_3 : Nat) (o_4 : f_X10_sheetOf i M = some i_3) (hq_6 : i_3 < 8 ∧ 0 ≤ i ∧ i ≤ 7 ∧ i_3 = i.toNatClampNeg) (hi_5 : i_3 < 8) (r_8 : Int32) (er_8 : r_8 = xb (f_X6_isMissing i_3 M)) (c_9 : ¬ r_8 = 0) (x2_10 : Int32) (ex2_10 : x2_10 = i + 1) : xmu x2_10 8 < n := by
  subst_vars
  have h9 := xmu_up (a := i) (b := 8) (by grind)
  (try simp [xup_at])
  omega
theorem ob_X10_sheetsThere_4_mu_12 (nb nn : Nat) (M : xM) (hp0 : xHS M) (n : Nat) (there : Int32) (i : Int32) (hmu : xmu i 8 < n + 1) (hinv : True) (c_1 : ¬ 8 ≤ i) (i_3 : Nat) (o_4 : f_X10_sheetOf i M = some i_3) (hq_6 : i_3 < 8 ∧ 0 ≤ i ∧ i ≤ 7 ∧ i_3 = i.toNatClampNeg) (hi_5 : i_3 < 8) (r_8 : Int32) (er_8 : r_8 = xb (f_X6_isMissing i_3 M)) (c_9 : r_8 = 0) (x1_11 : Int32) (ex1_11 : x1_11 = there + 1) (x2_12 : Int32) (ex2_12 : x2_12 = i + 1) : xmu x2_12 8 < n := by
  subst_vars
  have h9 := xmu_up (a := i) (b := 8) (by grind)
  (try simp [xup_at])
  omega
theorem ob_X10_notesThatAre_14_p0 (nb nn : Nat) (where_ : Int32) (M : xM) (hp0 : xHN nn M) (n : Nat) (there : Int32) (i : Int32) (hmu : xmu i (M 0 0 13) < n + 1) (hinv : True) (c_1 : ¬ (M 0 0 13) ≤ i) : xHN nn M := by
  subst_vars
  grind [isUpTo_eq, isTown10_eq, xb, sheetOf_s, traderOf_s, bankOf_s, noteOf_s, hasPl, xup_at, xHB_o, xHN_o]
theorem ob_X10_notesThatAre_14_q (nb nn : Nat) (where_ : Int32) (M : xM) (hp0 : xHN nn M) (n : Nat) (there : Int32) (i : Int32) (hmu : xmu i (M 0 0 13) < n + 1) (hinv : True) (c_1 : ¬ (M 0 0 13) ≤ i) (i_3 : Nat) (o_4 : f_X10_noteOf i M = some i_3) : i_3 < nn ∧ 0 ≤ i ∧ i < 24 ∧ i < M 0 0 13 ∧ i_3 = i.toNatClampNeg := by
  exact noteOf_s (nn := nn) (by first | assumption | (subst_vars; grind [xHN_o])) o_4
theorem ob_X10_notesThatAre_4_mu_7 (nb nn : Nat) (where_ : Int32) (M : xM) (hp0 : xHN nn M) (n : Nat) (there : Int32) (i : Int32) (hmu : xmu i (M 0 0 13) < n + 1) (hinv : True) (c_1 : ¬ (M 0 0 13) ≤ i) (o_4 : f_X10_noteOf i M = none) (x3_7 : Int32) (ex3_7 : x3_7 = i + 1) : xmu x3_7 (M 0 0 13) < n := by
  subst_vars
  have h9 := xmu_up (a := i) (b := (M 0 0 13)) (by grind)
  (try simp [xup_at])
  omega
theorem ob_X10_notesThatAre_4_mu_9 (nb nn : Nat) (where_ : Int32) (M : xM) (hp0 : xHN nn M) (n : Nat) (there : Int32) (i : Int32) (hmu : xmu i (M 0 0 13) < n + 1) (hinv : True) (c_1 : ¬ (M 0 0 13) ≤ i) (i_3 : Nat) (o_4 : f_X10_noteOf i M = some i_3) (hq_6 : i_3 < nn ∧ 0 ≤ i ∧ i < 24 ∧ i < M 0 0 13 ∧ i_3 = i.toNatClampNeg) (hi_5 : i_3 < nn) (c_8 : ¬ (M 29 i_3 5) = where_) (x3_9 : Int32) (ex3_9 : x3_9 = i + 1) : xmu x3_9 (M 0 0 13) < n := by
  subst_vars
  have h9 := xmu_up (a := i) (b := (M 0 0 13)) (by grind)
  (try simp [xup_at])
  omega
theorem ob_X10_notesThatAre_4_mu_11 (nb nn : Nat) (where_ : Int32) (M : xM) (hp0 : xHN nn M) (n : Nat) (there : Int32) (i : Int32) (hmu : xmu i (M 0 0 13) < n + 1) (hinv : True) (c_1 : ¬ (M 0 0 13) ≤ i) (i_3 : Nat) (o_4 : f_X10_noteOf i M = some i_3) (hq_6 : i_3 < nn ∧ 0 ≤ i ∧ i < 24 ∧ i < M 0 0 13 ∧ i_3 = i.toNatClampNeg) (hi_5 : i_3 < nn) (c_8 : (M 29 i_3 5) = where_) (x2_10 : Int32) (ex2_10 : x2_10 = there + 1) (x3_11 : Int32) (ex3_11 : x3_11 = i + 1) : xmu x3_11 (M 0 0 13) < n := by
  subst_vars
  have h9 := xmu_up (a := i) (b := (M 0 0 13)) (by grind)
  (try simp [xup_at])
  omega
theorem ob_X10_count_57_p0 (nb nn : Nat) (what : Int32) (M : xM) (hp0 : xHN nn M) (hp1 : xHB nb M) (hp2 : xHS M) (c_1 : what = 0) : xHS M := by
  subst_vars
  grind [isUpTo_eq, isTown10_eq, xb, sheetOf_s, traderOf_s, bankOf_s, noteOf_s, hasPl, xup_at, xHB_o, xHN_o]
theorem ob_X10_count_67_p0 (nb nn : Nat) (what : Int32) (M : xM) (hp0 : xHN nn M) (hp1 : xHB nb M) (hp2 : xHS M) (c_1 : ¬ what = 0) (c_3 : ¬ what = 1) (c_4 : what = 2) : xHB nb M := by
  subst_vars
  grind [isUpTo_eq, isTown10_eq, xb, sheetOf_s, traderOf_s, bankOf_s, noteOf_s, hasPl, xup_at, xHB_o, xHN_o]
theorem ob_X10_count_89_p0 (nb nn : Nat) (what : Int32) (M : xM) (hp0 : xHN nn M) (hp1 : xHB nb M) (hp2 : xHS M) (c_1 : ¬ what = 0) (c_3 : ¬ what = 1) (c_4 : ¬ what = 2) (c_7 : ¬ what = 3) (c_8 : ¬ what = 4) (c_9 : what = 5) : xHN nn M := by
  subst_vars
  grind [isUpTo_eq, isTown10_eq, xb, sheetOf_s, traderOf_s, bankOf_s, noteOf_s, hasPl, xup_at, xHB_o, xHN_o]
theorem ob_X10_count_95_p0 (nb nn : Nat) (what : Int32) (M : xM) (hp0 : xHN nn M) (hp1 : xHB nb M) (hp2 : xHS M) (c_1 : ¬ what = 0) (c_3 : ¬ what = 1) (c_4 : ¬ what = 2) (c_7 : ¬ what = 3) (c_8 : ¬ what = 4) (c_9 : ¬ what = 5) (c_11 : what = 6) : xHN nn M := by
  subst_vars
  grind [isUpTo_eq, isTown10_eq, xb, sheetOf_s, traderOf_s, bankOf_s, noteOf_s, hasPl, xup_at, xHB_o, xHN_o]
theorem ob_X10_count_101_p0 (nb nn : Nat) (what : Int32) (M : xM) (hp0 : xHN nn M) (hp1 : xHB nb M) (hp2 : xHS M) (c_1 : ¬ what = 0) (c_3 : ¬ what = 1) (c_4 : ¬ what = 2) (c_7 : ¬ what = 3) (c_8 : ¬ what = 4) (c_9 : ¬ what = 5) (c_11 : ¬ what = 6) (c_13 : what = 7) : xHN nn M := by
  subst_vars
  grind [isUpTo_eq, isTown10_eq, xb, sheetOf_s, traderOf_s, bankOf_s, noteOf_s, hasPl, xup_at, xHB_o, xHN_o]
set_option maxHeartbeats 4000000 in
set_option maxRecDepth 100000 in
theorem c_X10_sheet (l : Launch) (nb nn : Nat) (g : xG) (L : List (Nat × Nat)) (M : xM) (hD : xD g L) (hL : xEL nb nn L) (sh : Int32) (ln : Int32) (z : Int32) (hp0 : xHS M) : xCi l yX10_sheet cX10_sheet 5 (some .int) 2 g L M [.ref (xad g 0 0), .int sh, .int ln, .int z] (fun r u => (r, u) = f_X10_sheet sh ln z M) := by
  intro sz
  refine x_beg (by decide +kernel) rfl ?_
  intro p e s m args below meth c ls hsz hB
  subst hsz
  obtain ⟨hx, hb, hml, hown, hts, hr, hlk, hK, hAm, hP, hl⟩ := hB
  have S : CallFix p m c cX10_sheet 5 s args (xws yX10_sheet cX10_sheet 5 (some .int)) RX10 := ⟨hx, hb, hml, hown, hts⟩
  have hown : s.vm.findClass RX10 = some m.cls := hown
  have hl : lv_has ls 5 [(0, .ref (xad g 0 0)), (1, .int sh), (2, .int ln), (3, .int z)] := hl
  have hS : va_S (xA g L s.heap.size) s.heap s.heap [] := va_S.rf
  obtain ⟨F, hF⟩ : ∃ F, F = f_X10_sheet sh ln z M := ⟨_, rfl⟩
  have hres := hF
  rw [f_X10_sheet] at hres
  refine lv_aload_n hx hb dX10_sheet_0 rfl (lv_at hl 0 rfl) ?_
  refine lv_iload_n hx hb dX10_sheet_1 rfl (lv_at hl 1 rfl) ?_
  refine x_callVq (As := [.int sh]) S hK hAm hD hP hS mt_X10_sheetOf wd_175 ⟨by decide, by decide⟩ (hL 0 0 (xe_0 nb nn)) (xc0 g 0) rfl (c_X10_sheetOf l nb nn g L M hD hL sh (ob_X10_sheet_2_p0 nb nn sh ln z M hp0)) rfl hl.1 (Nat.le_of_ble_eq_true rfl) ⟨Nat.zero_le _, Nat.zero_le _⟩ dX10_sheet_2 rfl (fun r_1 u H locs hp_ hP hS => ?_)
  obtain ⟨hp_, eu_⟩ := hp_
  rw [eu_] at hP
  clear eu_
  subst hp_
  rcases o_3 : f_X10_sheetOf sh M with _ | i_2
  · replace hres := xopt_n hres o_3
    refine lv_astoreN (lv' := [(4, .null), (0, .ref (xad g 0 0)), (1, .int sh), (2, .int ln), (3, .int z)]) hx hb dX10_sheet_5 hl (by decide) rfl (fun ls hl => ?_)
    refine lv_aloadN hx hb dX10_sheet_7 (lv_at hl 0 rfl) ?_
    refine lv_ifnullN (tgt := 26) hx hb dX10_sheet_9 (by decide) ?_
    refine lv_ldc (own := RX10) (v := (-1000001)) hx hb hown (hts _ (List.mem_cons_of_mem _ wd_174)) dX10_sheet_26 ?_
    exact x_reti hx hb hr hlk hP hS (hres.symm.trans hF) dX10_sheet_28
  · replace hres := xopt_s hres o_3
    have hq_5 := (ob_X10_sheet_2_q nb nn sh ln z M hp0 i_2 o_3)
    have hi_4 := hq_5.1
    refine lv_astore (lv' := [(4, .ref (xad g 24 i_2)), (0, .ref (xad g 0 0)), (1, .int sh), (2, .int ln), (3, .int z)]) hx hb dX10_sheet_5 hl (by decide) rfl (fun ls hl => ?_)
    refine lv_aload hx hb dX10_sheet_7 (lv_at hl 0 rfl) ?_
    refine lv_ifnull hx hb dX10_sheet_9 ?_
    refine lv_iload_n hx hb dX10_sheet_12 rfl (lv_at hl 3 rfl) ?_
    refine lv_iconst (v := 2) hx hb dX10_sheet_13 (by decide) ?_
    refine x_callSi (As := [.int ln, .int 2]) S hK hAm hD hP hS mt_X10_isUpTo wd_179 ⟨by decide, by decide⟩ (c_X10_isUpTo l nb nn g L M hD hL ln 2) rfl hl.1 (Nat.le_of_ble_eq_true rfl) ⟨Nat.zero_le _, Nat.zero_le _⟩ dX10_sheet_14 rfl (fun r_6 u H locs hp_ hP hS => ?_)
    obtain ⟨er_6, eu_⟩ := hp_
    rw [eu_] at hP
    clear eu_
    replace hres := xlet_n hres er_6
    refine lv_if_eq (tgt := 26) hx hb dX10_sheet_17 (by decide) (fun c_7 => ?_) (fun c_7 => ?_)
    · replace hres := hres.trans (if_pos c_7)
      refine lv_ldc (own := RX10) (v := (-1000001)) hx hb hown (hts _ (List.mem_cons_of_mem _ wd_174)) dX10_sheet_26 ?_
      exact x_reti hx hb hr hlk hP hS (hres.symm.trans hF) dX10_sheet_28
    · replace hres := hres.trans (if_neg c_7)
      refine lv_iload_n hx hb dX10_sheet_20 rfl (lv_at hl 4 rfl) ?_
      refine lv_bipush (v := 60) hx hb dX10_sheet_21 (by decide) ?_
      refine lv_icmp_le (tgt := 29) hx hb dX10_sheet_23 (by decide) (fun c_8 => ?_) (fun c_8 => ?_)
      · replace hres := hres.trans (if_pos c_8)
        refine lv_iload_n hx hb dX10_sheet_29 rfl (lv_at hl 4 rfl) ?_
        refine lv_if_ge (tgt := 39) hx hb dX10_sheet_30 (by decide) (fun c_9 => ?_) (fun c_9 => ?_)
        · replace hres := hres.trans (if_pos c_9)
          refine lv_aload hx hb dX10_sheet_39 (lv_at hl 0 rfl) ?_
          refine lv_iload_n hx hb dX10_sheet_41 rfl (lv_at hl 3 rfl) ?_
          refine lv_iload_n hx hb dX10_sheet_42 rfl (lv_at hl 4 rfl) ?_
          refine x_callVv (As := [.int ln, .int z]) S hK hAm hD hP hS mt_X6_begin wd_187 ⟨by decide, by decide⟩ (hL 24 i_2 hi_4) (xc24 g i_2) rfl (c_X6_begin l nb nn g L M hD hL i_2 ln z hi_4) rfl hl.1 (Nat.le_of_ble_eq_true rfl) ⟨Nat.zero_le _, Nat.zero_le _⟩ dX10_sheet_43 rfl (fun M_11 H locs eM_11 hP hS => ?_)
          replace hres := xlet_n hres eM_11
          refine lv_aload_n hx hb dX10_sheet_46 rfl (lv_at hl 1 rfl) ?_
          refine lv_iload_n hx hb dX10_sheet_47 rfl (lv_at hl 4 rfl) ?_
          refine x_callVi (As := [.int z]) S hK hAm hD hP hS mt_X10_foundNothing wd_192 ⟨by decide, by decide⟩ (hL 0 0 (xe_0 nb nn)) (xc0 g 0) rfl (c_X10_foundNothing l nb nn g L M_11 hD hL z) rfl hl.1 (Nat.le_of_ble_eq_true rfl) ⟨Nat.zero_le _, Nat.zero_le _⟩ dX10_sheet_48 rfl (fun r_12 M_13 H locs ep_ hP hS => ?_)
          replace hres := xlet2_n hres ep_
          have er_12 : r_12 = (f_X10_foundNothing z M_11).1 := congrArg Prod.fst ep_
          have eM_13 : M_13 = (f_X10_foundNothing z M_11).2 := congrArg Prod.snd ep_
          clear ep_
          exact x_reti hx hb hr hlk hP hS (hres.symm.trans hF) dX10_sheet_51
        · replace hres := hres.trans (if_neg c_9)
          refine lv_aload_n hx hb dX10_sheet_33 rfl (lv_at hl 1 rfl) ?_
          refine lv_iconst (v := 4) hx hb dX10_sheet_34 (by decide) ?_
          refine x_callVi (As := [.int 4]) S hK hAm hD hP hS mt_X10_found wd_182 ⟨by decide, by decide⟩ (hL 0 0 (xe_0 nb nn)) (xc0 g 0) rfl (c_X10_found l nb nn g L M hD hL 4) rfl hl.1 (Nat.le_of_ble_eq_true rfl) ⟨Nat.zero_le _, Nat.zero_le _⟩ dX10_sheet_35 rfl (fun r_14 M_15 H locs ep_ hP hS => ?_)
          replace hres := xlet2_n hres ep_
          have er_14 : r_14 = (f_X10_found 4 M).1 := congrArg Prod.fst ep_
          have eM_15 : M_15 = (f_X10_found 4 M).2 := congrArg Prod.snd ep_
          clear ep_
          exact x_reti hx hb hr hlk hP hS (hres.symm.trans hF) dX10_sheet_38
      · replace hres := hres.trans (if_neg c_8)
        refine lv_ldc (own := RX10) (v := (-1000001)) hx hb hown (hts _ (List.mem_cons_of_mem _ wd_174)) dX10_sheet_26 ?_
        exact x_reti hx hb hr hlk hP hS (hres.symm.trans hF) dX10_sheet_28
set_option maxHeartbeats 4000000 in
set_option maxRecDepth 100000 in
theorem c_X10_set (l : Launch) (nb nn : Nat) (g : xG) (L : List (Nat × Nat)) (M : xM) (hD : xD g L) (hL : xEL nb nn L) (sh : Int32) (i : Int32) (v : Int32) (hp0 : xHS M) (hp1 : ∀ i : Nat, 0 ≤ M 24 i 2 ∧ M 24 i 2 ≤ 60) : xCi l yX10_set cX10_set 5 (some .int) 2 g L M [.ref (xad g 0 0), .int sh, .int i, .int v] (fun r u => (r, u) = f_X10_set sh i v M) := by
  intro sz
  refine x_beg (by decide +kernel) rfl ?_
  intro p e s m args below meth c ls hsz hB
  subst hsz
  obtain ⟨hx, hb, hml, hown, hts, hr, hlk, hK, hAm, hP, hl⟩ := hB
  have S : CallFix p m c cX10_set 5 s args (xws yX10_set cX10_set 5 (some .int)) RX10 := ⟨hx, hb, hml, hown, hts⟩
  have hown : s.vm.findClass RX10 = some m.cls := hown
  have hl : lv_has ls 5 [(0, .ref (xad g 0 0)), (1, .int sh), (2, .int i), (3, .int v)] := hl
  have hS : va_S (xA g L s.heap.size) s.heap s.heap [] := va_S.rf
  obtain ⟨F, hF⟩ : ∃ F, F = f_X10_set sh i v M := ⟨_, rfl⟩
  have hres := hF
  rw [f_X10_set] at hres
  refine lv_aload_n hx hb dX10_set_0 rfl (lv_at hl 0 rfl) ?_
  refine lv_iload_n hx hb dX10_set_1 rfl (lv_at hl 1 rfl) ?_
  refine x_callVq (As := [.int sh]) S hK hAm hD hP hS mt_X10_sheetOf wd_175 ⟨by decide, by decide⟩ (hL 0 0 (xe_0 nb nn)) (xc0 g 0) rfl (c_X10_sheetOf l nb nn g L M hD hL sh (ob_X10_set_2_p0 nb nn sh i v M hp0 hp1)) rfl hl.1 (Nat.le_of_ble_eq_true rfl) ⟨Nat.zero_le _, Nat.zero_le _⟩ dX10_set_2 rfl (fun r_1 u H locs hp_ hP hS => ?_)
  obtain ⟨hp_, eu_⟩ := hp_
  rw [eu_] at hP
  clear eu_
  subst hp_
  rcases o_3 : f_X10_sheetOf sh M with _ | i_2
  · replace hres := xopt_n hres o_3
    refine lv_astoreN (lv' := [(4, .null), (0, .ref (xad g 0 0)), (1, .int sh), (2, .int i), (3, .int v)]) hx hb dX10_set_5 hl (by decide) rfl (fun ls hl => ?_)
    refine lv_aloadN hx hb dX10_set_7 (lv_at hl 0 rfl) ?_
    refine lv_ifnonnullN hx hb dX10_set_9 ?_
    refine lv_ldc (own := RX10) (v := (-1000001)) hx hb hown (hts _ (List.mem_cons_of_mem _ wd_174)) dX10_set_12 ?_
    exact x_reti hx hb hr hlk hP hS (hres.symm.trans hF) dX10_set_14
  · replace hres := xopt_s hres o_3
    have hq_5 := (ob_X10_set_2_q nb nn sh i v M hp0 hp1 i_2 o_3)
    have hi_4 := hq_5.1
    refine lv_astore (lv' := [(4, .ref (xad g 24 i_2)), (0, .ref (xad g 0 0)), (1, .int sh), (2, .int i), (3, .int v)]) hx hb dX10_set_5 hl (by decide) rfl (fun ls hl => ?_)
    refine lv_aload hx hb dX10_set_7 (lv_at hl 0 rfl) ?_
    refine lv_ifnonnull (tgt := 15) hx hb dX10_set_9 (by decide) ?_
    refine lv_aload hx hb dX10_set_15 (lv_at hl 0 rfl) ?_
    refine x_callVi (As := []) S hK hAm hD hP hS mt_X6_isMissing wd_220 ⟨by decide, by decide⟩ (hL 24 i_2 hi_4) (xc24 g i_2) rfl (c_X6_isMissing l nb nn g L M hD hL i_2 hi_4) rfl hl.1 (Nat.le_of_ble_eq_true rfl) ⟨Nat.zero_le _, Nat.zero_le _⟩ dX10_set_17 rfl (fun r_6 u H locs hp_ hP hS => ?_)
    obtain ⟨er_6, eu_⟩ := hp_
    rw [eu_] at hP
    clear eu_
    replace hres := xlet_n hres er_6
    refine lv_if_eq (tgt := 29) hx hb dX10_set_20 (by decide) (fun c_7 => ?_) (fun c_7 => ?_)
    · replace hres := hres.trans (if_pos c_7)
      refine lv_aload hx hb dX10_set_29 (lv_at hl 0 rfl) ?_
      refine lv_iload_n hx hb dX10_set_31 rfl (lv_at hl 3 rfl) ?_
      refine lv_iconst (v := 1) hx hb dX10_set_32 (by decide) ?_
      refine x_callVi (As := [.int i, .int 1]) S hK hAm hD hP hS mt_X6_hasPlaces wd_224 ⟨by decide, by decide⟩ (hL 24 i_2 hi_4) (xc24 g i_2) rfl (c_X6_hasPlaces l nb nn g L M hD hL i_2 i 1 hi_4) rfl hl.1 (Nat.le_of_ble_eq_true rfl) ⟨Nat.zero_le _, Nat.zero_le _⟩ dX10_set_33 rfl (fun r_8 u H locs hp_ hP hS => ?_)
      obtain ⟨er_8, eu_⟩ := hp_
      rw [eu_] at hP
      clear eu_
      replace hres := xlet_n hres er_8
      refine lv_if_ne (tgt := 45) hx hb dX10_set_36 (by decide) (fun c_9 => ?_) (fun c_9 => ?_)
      · replace hres := hres.trans (if_neg c_9)
        refine lv_aload_n hx hb dX10_set_45 rfl (lv_at hl 1 rfl) ?_
        refine lv_aload hx hb dX10_set_46 (lv_at hl 0 rfl) ?_
        refine lv_iload_n hx hb dX10_set_48 rfl (lv_at hl 3 rfl) ?_
        refine lv_iload_n hx hb dX10_set_49 rfl (lv_at hl 4 rfl) ?_
        refine x_callVi (As := [.int i, .int v]) S hK hAm hD hP hS mt_X6_put wd_228 ⟨by decide, by decide⟩ (hL 24 i_2 hi_4) (xc24 g i_2) rfl (c_X6_put l nb nn g L M hD hL i_2 i v hi_4 (ob_X10_set_50_p0 nb nn sh i v M hp0 hp1 i_2 o_3 hq_5 hi_4 r_6 er_6 c_7 r_8 er_8 c_9) (ob_X10_set_50_p1 nb nn sh i v M hp0 hp1 i_2 o_3 hq_5 hi_4 r_6 er_6 c_7 r_8 er_8 c_9)) rfl hl.1 (Nat.le_of_ble_eq_true rfl) ⟨Nat.zero_le _, Nat.zero_le _⟩ dX10_set_50 rfl (fun r_10 M_11 H locs ep_ hP hS => ?_)
        replace hres := xlet2_n hres ep_
        have er_10 : r_10 = (f_X6_put i_2 i v M).1 := congrArg Prod.fst ep_
        have eM_11 : M_11 = (f_X6_put i_2 i v M).2 := congrArg Prod.snd ep_
        clear ep_
        refine x_callVi (As := [.int r_10]) S hK hAm hD hP hS mt_X10_foundNothing wd_192 ⟨by decide, by decide⟩ (hL 0 0 (xe_0 nb nn)) (xc0 g 0) rfl (c_X10_foundNothing l nb nn g L M_11 hD hL r_10) rfl hl.1 (Nat.le_of_ble_eq_true rfl) ⟨Nat.zero_le _, Nat.zero_le _⟩ dX10_set_53 rfl (fun r_12 M_13 H locs ep_ hP hS => ?_)
        replace hres := xlet2_n hres ep_
        have er_12 : r_12 = (f_X10_foundNothing r_10 M_11).1 := congrArg Prod.fst ep_
        have eM_13 : M_13 = (f_X10_foundNothing r_10 M_11).2 := congrArg Prod.snd ep_
        clear ep_
        exact x_reti hx hb hr hlk hP hS (hres.symm.trans hF) dX10_set_56
      · replace hres := hres.trans (if_pos c_9)
        refine lv_aload_n hx hb dX10_set_39 rfl (lv_at hl 1 rfl) ?_
        refine lv_iconst (v := 2) hx hb dX10_set_40 (by decide) ?_
        refine x_callVi (As := [.int 2]) S hK hAm hD hP hS mt_X10_found wd_182 ⟨by decide, by decide⟩ (hL 0 0 (xe_0 nb nn)) (xc0 g 0) rfl (c_X10_found l nb nn g L M hD hL 2) rfl hl.1 (Nat.le_of_ble_eq_true rfl) ⟨Nat.zero_le _, Nat.zero_le _⟩ dX10_set_41 rfl (fun r_14 M_15 H locs ep_ hP hS => ?_)
        replace hres := xlet2_n hres ep_
        have er_14 : r_14 = (f_X10_found 2 M).1 := congrArg Prod.fst ep_
        have eM_15 : M_15 = (f_X10_found 2 M).2 := congrArg Prod.snd ep_
        clear ep_
        exact x_reti hx hb hr hlk hP hS (hres.symm.trans hF) dX10_set_44
    · replace hres := hres.trans (if_neg c_7)
      refine lv_aload_n hx hb dX10_set_23 rfl (lv_at hl 1 rfl) ?_
      refine lv_iconst (v := 1) hx hb dX10_set_24 (by decide) ?_
      refine x_callVi (As := [.int 1]) S hK hAm hD hP hS mt_X10_found wd_182 ⟨by decide, by decide⟩ (hL 0 0 (xe_0 nb nn)) (xc0 g 0) rfl (c_X10_found l nb nn g L M hD hL 1) rfl hl.1 (Nat.le_of_ble_eq_true rfl) ⟨Nat.zero_le _, Nat.zero_le _⟩ dX10_set_25 rfl (fun r_16 M_17 H locs ep_ hP hS => ?_)
      replace hres := xlet2_n hres ep_
      have er_16 : r_16 = (f_X10_found 1 M).1 := congrArg Prod.fst ep_
      have eM_17 : M_17 = (f_X10_found 1 M).2 := congrArg Prod.snd ep_
      clear ep_
      exact x_reti hx hb hr hlk hP hS (hres.symm.trans hF) dX10_set_28
set_option maxHeartbeats 4000000 in
set_option maxRecDepth 100000 in
theorem c_X10_drop (l : Launch) (nb nn : Nat) (g : xG) (L : List (Nat × Nat)) (M : xM) (hD : xD g L) (hL : xEL nb nn L) (sh : Int32) (hp0 : xHS M) : xCi l yX10_drop cX10_drop 4 (some .int) 2 g L M [.ref (xad g 0 0), .int sh] (fun r u => (r, u) = f_X10_drop sh M) := by
  intro sz
  refine x_beg (by decide +kernel) rfl ?_
  intro p e s m args below meth c ls hsz hB
  subst hsz
  obtain ⟨hx, hb, hml, hown, hts, hr, hlk, hK, hAm, hP, hl⟩ := hB
  have S : CallFix p m c cX10_drop 4 s args (xws yX10_drop cX10_drop 4 (some .int)) RX10 := ⟨hx, hb, hml, hown, hts⟩
  have hown : s.vm.findClass RX10 = some m.cls := hown
  have hl : lv_has ls 4 [(0, .ref (xad g 0 0)), (1, .int sh)] := hl
  have hS : va_S (xA g L s.heap.size) s.heap s.heap [] := va_S.rf
  obtain ⟨F, hF⟩ : ∃ F, F = f_X10_drop sh M := ⟨_, rfl⟩
  have hres := hF
  rw [f_X10_drop] at hres
  refine lv_aload_n hx hb dX10_drop_0 rfl (lv_at hl 0 rfl) ?_
  refine lv_iload_n hx hb dX10_drop_1 rfl (lv_at hl 1 rfl) ?_
  refine x_callVq (As := [.int sh]) S hK hAm hD hP hS mt_X10_sheetOf wd_175 ⟨by decide, by decide⟩ (hL 0 0 (xe_0 nb nn)) (xc0 g 0) rfl (c_X10_sheetOf l nb nn g L M hD hL sh (ob_X10_drop_2_p0 nb nn sh M hp0)) rfl hl.1 (Nat.le_of_ble_eq_true rfl) ⟨Nat.zero_le _, Nat.zero_le _⟩ dX10_drop_2 rfl (fun r_1 u H locs hp_ hP hS => ?_)
  obtain ⟨hp_, eu_⟩ := hp_
  rw [eu_] at hP
  clear eu_
  subst hp_
  rcases o_3 : f_X10_sheetOf sh M with _ | i_2
  · replace hres := xopt_n hres o_3
    refine lv_astore_nN (lv' := [(2, .null), (0, .ref (xad g 0 0)), (1, .int sh)]) hx hb dX10_drop_5 rfl hl (by decide) rfl (fun ls hl => ?_)
    refine lv_aload_nN hx hb dX10_drop_6 rfl (lv_at hl 0 rfl) ?_
    refine lv_ifnonnullN hx hb dX10_drop_7 ?_
    refine lv_ldc (own := RX10) (v := (-1000001)) hx hb hown (hts _ (List.mem_cons_of_mem _ wd_174)) dX10_drop_10 ?_
    exact x_reti hx hb hr hlk hP hS (hres.symm.trans hF) dX10_drop_12
  · replace hres := xopt_s hres o_3
    have hq_5 := (ob_X10_drop_2_q nb nn sh M hp0 i_2 o_3)
    have hi_4 := hq_5.1
    refine lv_astore_n (lv' := [(2, .ref (xad g 24 i_2)), (0, .ref (xad g 0 0)), (1, .int sh)]) hx hb dX10_drop_5 rfl hl (by decide) rfl (fun ls hl => ?_)
    refine lv_aload_n hx hb dX10_drop_6 rfl (lv_at hl 0 rfl) ?_
    refine lv_ifnonnull (tgt := 13) hx hb dX10_drop_7 (by decide) ?_
    refine lv_aload_n hx hb dX10_drop_13 rfl (lv_at hl 0 rfl) ?_
    refine x_callVi (As := []) S hK hAm hD hP hS mt_X6_isMissing wd_220 ⟨by decide, by decide⟩ (hL 24 i_2 hi_4) (xc24 g i_2) rfl (c_X6_isMissing l nb nn g L M hD hL i_2 hi_4) rfl hl.1 (Nat.le_of_ble_eq_true rfl) ⟨Nat.zero_le _, Nat.zero_le _⟩ dX10_drop_14 rfl (fun r_6 u H locs hp_ hP hS => ?_)
    obtain ⟨er_6, eu_⟩ := hp_
    rw [eu_] at hP
    clear eu_
    replace hres := xlet_n hres er_6
    refine lv_if_eq (tgt := 26) hx hb dX10_drop_17 (by decide) (fun c_7 => ?_) (fun c_7 => ?_)
    · replace hres := hres.trans (if_pos c_7)
      refine lv_aload_n hx hb dX10_drop_26 rfl (lv_at hl 0 rfl) ?_
      refine gf_RX10_145 hx hb hts hown hK hP (hL 24 i_2 hi_4) dX10_drop_27 ?_
      refine lv_topi (fun x3_8 ex3_8 => ?_)
      replace hres := xlet_n hres ex3_8
      refine lv_istore_n (lv' := [(3, .int x3_8), (2, .ref (xad g 24 i_2)), (0, .ref (xad g 0 0)), (1, .int sh)]) hx hb dX10_drop_30 rfl hl (by decide) rfl (fun ls hl => ?_)
      refine lv_aload_n hx hb dX10_drop_31 rfl (lv_at hl 1 rfl) ?_
      refine x_callVv (As := []) S hK hAm hD hP hS mt_X6_discard wd_256 ⟨by decide, by decide⟩ (hL 24 i_2 hi_4) (xc24 g i_2) rfl (c_X6_discard l nb nn g L M hD hL i_2 hi_4) rfl hl.1 (Nat.le_of_ble_eq_true rfl) ⟨Nat.zero_le _, Nat.zero_le _⟩ dX10_drop_32 rfl (fun M_10 H locs eM_10 hP hS => ?_)
      replace hres := xlet_n hres eM_10
      refine lv_aload_n hx hb dX10_drop_35 rfl (lv_at hl 2 rfl) ?_
      refine lv_iload_n hx hb dX10_drop_36 rfl (lv_at hl 0 rfl) ?_
      refine x_callVi (As := [.int x3_8]) S hK hAm hD hP hS mt_X10_foundNothing wd_192 ⟨by decide, by decide⟩ (hL 0 0 (xe_0 nb nn)) (xc0 g 0) rfl (c_X10_foundNothing l nb nn g L M_10 hD hL x3_8) rfl hl.1 (Nat.le_of_ble_eq_true rfl) ⟨Nat.zero_le _, Nat.zero_le _⟩ dX10_drop_37 rfl (fun r_11 M_12 H locs ep_ hP hS => ?_)
      replace hres := xlet2_n hres ep_
      have er_11 : r_11 = (f_X10_foundNothing x3_8 M_10).1 := congrArg Prod.fst ep_
      have eM_12 : M_12 = (f_X10_foundNothing x3_8 M_10).2 := congrArg Prod.snd ep_
      clear ep_
      exact x_reti hx hb hr hlk hP hS (hres.symm.trans hF) dX10_drop_40
    · replace hres := hres.trans (if_neg c_7)
      refine lv_aload_n hx hb dX10_drop_20 rfl (lv_at hl 1 rfl) ?_
      refine lv_iconst (v := 1) hx hb dX10_drop_21 (by decide) ?_
      refine x_callVi (As := [.int 1]) S hK hAm hD hP hS mt_X10_found wd_182 ⟨by decide, by decide⟩ (hL 0 0 (xe_0 nb nn)) (xc0 g 0) rfl (c_X10_found l nb nn g L M hD hL 1) rfl hl.1 (Nat.le_of_ble_eq_true rfl) ⟨Nat.zero_le _, Nat.zero_le _⟩ dX10_drop_22 rfl (fun r_13 M_14 H locs ep_ hP hS => ?_)
      replace hres := xlet2_n hres ep_
      have er_13 : r_13 = (f_X10_found 1 M).1 := congrArg Prod.fst ep_
      have eM_14 : M_14 = (f_X10_found 1 M).2 := congrArg Prod.snd ep_
      clear ep_
      exact x_reti hx hb hr hlk hP hS (hres.symm.trans hF) dX10_drop_25
set_option maxHeartbeats 4000000 in
set_option maxRecDepth 100000 in
theorem c_X10_road (l : Launch) (nb nn : Nat) (g : xG) (L : List (Nat × Nat)) (M : xM) (hD : xD g L) (hL : xEL nb nn L) (a : Int32) (b : Int32) (v : Int32)  : xCi l yX10_road cX10_road 5 (some .int) 3 g L M [.ref (xad g 0 0), .int a, .int b, .int v] (fun r u => (r, u) = f_X10_road a b v M) := by
  intro sz
  refine x_beg (by decide +kernel) rfl ?_
  intro p e s m args below meth c ls hsz hB
  subst hsz
  obtain ⟨hx, hb, hml, hown, hts, hr, hlk, hK, hAm, hP, hl⟩ := hB
  have S : CallFix p m c cX10_road 5 s args (xws yX10_road cX10_road 5 (some .int)) RX10 := ⟨hx, hb, hml, hown, hts⟩
  have hown : s.vm.findClass RX10 = some m.cls := hown
  have hl : lv_has ls 5 [(0, .ref (xad g 0 0)), (1, .int a), (2, .int b), (3, .int v)] := hl
  have hS : va_S (xA g L s.heap.size) s.heap s.heap [] := va_S.rf
  obtain ⟨F, hF⟩ : ∃ F, F = f_X10_road a b v M := ⟨_, rfl⟩
  have hres := hF
  rw [f_X10_road] at hres
  refine lv_iload_n hx hb dX10_road_0 rfl (lv_at hl 1 rfl) ?_
  refine x_callSi (As := [.int a]) S hK hAm hD hP hS mt_X10_isTown wd_268 ⟨by decide, by decide⟩ (c_X10_isTown l nb nn g L M hD hL a) rfl hl.1 (Nat.le_of_ble_eq_true rfl) ⟨Nat.zero_le _, Nat.zero_le _⟩ dX10_road_1 rfl (fun r_1 u H locs hp_ hP hS => ?_)
  obtain ⟨er_1, eu_⟩ := hp_
  rw [eu_] at hP
  clear eu_
  replace hres := xlet_n hres er_1
  refine lv_if_eq (tgt := 29) hx hb dX10_road_4 (by decide) (fun c_2 => ?_) (fun c_2 => ?_)
  · replace hres := hres.trans (if_pos c_2)
    refine lv_ldc (own := RX10) (v := (-1000001)) hx hb hown (hts _ (List.mem_cons_of_mem _ wd_174)) dX10_road_29 ?_
    exact x_reti hx hb hr hlk hP hS (hres.symm.trans hF) dX10_road_31
  · replace hres := hres.trans (if_neg c_2)
    refine lv_iload_n hx hb dX10_road_7 rfl (lv_at hl 2 rfl) ?_
    refine x_callSi (As := [.int b]) S hK hAm hD hP hS mt_X10_isTown wd_268 ⟨by decide, by decide⟩ (c_X10_isTown l nb nn g L M hD hL b) rfl hl.1 (Nat.le_of_ble_eq_true rfl) ⟨Nat.zero_le _, Nat.zero_le _⟩ dX10_road_8 rfl (fun r_3 u H locs hp_ hP hS => ?_)
    obtain ⟨er_3, eu_⟩ := hp_
    rw [eu_] at hP
    clear eu_
    replace hres := xlet_n hres er_3
    refine lv_if_eq (tgt := 29) hx hb dX10_road_11 (by decide) (fun c_4 => ?_) (fun c_4 => ?_)
    · replace hres := hres.trans (if_pos c_4)
      refine lv_ldc (own := RX10) (v := (-1000001)) hx hb hown (hts _ (List.mem_cons_of_mem _ wd_174)) dX10_road_29 ?_
      exact x_reti hx hb hr hlk hP hS (hres.symm.trans hF) dX10_road_31
    · replace hres := hres.trans (if_neg c_4)
      refine lv_iload_n hx hb dX10_road_14 rfl (lv_at hl 1 rfl) ?_
      refine lv_iload_n hx hb dX10_road_15 rfl (lv_at hl 2 rfl) ?_
      refine lv_icmp_eq (tgt := 29) hx hb dX10_road_16 (by decide) (fun c_5 => ?_) (fun c_5 => ?_)
      · replace hres := hres.trans (if_pos c_5)
        refine lv_ldc (own := RX10) (v := (-1000001)) hx hb hown (hts _ (List.mem_cons_of_mem _ wd_174)) dX10_road_29 ?_
        exact x_reti hx hb hr hlk hP hS (hres.symm.trans hF) dX10_road_31
      · replace hres := hres.trans (if_neg c_5)
        refine lv_iload_n hx hb dX10_road_19 rfl (lv_at hl 3 rfl) ?_
        refine lv_sipush (v := 500) hx hb dX10_road_20 (by decide) ?_
        refine x_callSi (As := [.int v, .int 500]) S hK hAm hD hP hS mt_X10_isUpTo wd_179 ⟨by decide, by decide⟩ (c_X10_isUpTo l nb nn g L M hD hL v 500) rfl hl.1 (Nat.le_of_ble_eq_true rfl) ⟨Nat.zero_le _, Nat.zero_le _⟩ dX10_road_23 rfl (fun r_6 u H locs hp_ hP hS => ?_)
        obtain ⟨er_6, eu_⟩ := hp_
        rw [eu_] at hP
        clear eu_
        replace hres := xlet_n hres er_6
        refine lv_if_ne (tgt := 32) hx hb dX10_road_26 (by decide) (fun c_7 => ?_) (fun c_7 => ?_)
        · replace hres := hres.trans (if_neg c_7)
          refine lv_aload_n hx hb dX10_road_32 rfl (lv_at hl 0 rfl) ?_
          refine gf_RX10_18 hx hb hts hown hK hP (hL 0 0 (xe_0 nb nn)) dX10_road_33 ?_
          refine lv_iload_n hx hb dX10_road_36 rfl (lv_at hl 1 rfl) ?_
          refine lv_iload_n hx hb dX10_road_37 rfl (lv_at hl 2 rfl) ?_
          refine x_callVi (As := [.int a, .int b]) S hK hAm hD hP hS mt_X5_milesBetween wd_271 ⟨by decide, by decide⟩ (hL 2 0 (xe_2 nb nn)) (xc2 g 0) rfl (c_X5_milesBetween l nb nn g L M hD (hL 2 0 (xe_2 nb nn)) (hL 13 0 (xe_13 nb nn)) (hL 14 0 (xe_14 nb nn)) a b (ob_X10_road_38_p0 nb nn a b v M r_1 er_1 c_2 r_3 er_3 c_4 c_5 r_6 er_6 c_7) (ob_X10_road_38_p1 nb nn a b v M r_1 er_1 c_2 r_3 er_3 c_4 c_5 r_6 er_6 c_7) (ob_X10_road_38_p2 nb nn a b v M r_1 er_1 c_2 r_3 er_3 c_4 c_5 r_6 er_6 c_7) (ob_X10_road_38_p3 nb nn a b v M r_1 er_1 c_2 r_3 er_3 c_4 c_5 r_6 er_6 c_7)) rfl hl.1 (Nat.le_of_ble_eq_true rfl) ⟨Nat.zero_le _, Nat.zero_le _⟩ dX10_road_38 rfl (fun r_8 u H locs hp_ hP hS => ?_)
          obtain ⟨er_8, eu_⟩ := hp_
          rw [eu_] at hP
          clear eu_
          replace hres := xlet_n hres er_8
          refine lv_istore (lv' := [(4, .int r_8), (0, .ref (xad g 0 0)), (1, .int a), (2, .int b), (3, .int v)]) hx hb dX10_road_41 hl (by decide) rfl (fun ls hl => ?_)
          refine lv_aload_n hx hb dX10_road_43 rfl (lv_at hl 1 rfl) ?_
          refine gf_RX10_18 hx hb hts hown hK hP (hL 0 0 (xe_0 nb nn)) dX10_road_44 ?_
          refine lv_iload_n hx hb dX10_road_47 rfl (lv_at hl 2 rfl) ?_
          refine lv_iload_n hx hb dX10_road_48 rfl (lv_at hl 3 rfl) ?_
          refine lv_iload_n hx hb dX10_road_49 rfl (lv_at hl 4 rfl) ?_
          refine x_callVv (As := [.int a, .int b, .int v]) S hK hAm hD hP hS mt_X5_build wd_272 ⟨by decide, by decide⟩ (hL 2 0 (xe_2 nb nn)) (xc2 g 0) rfl (c_X5_build l nb nn g L M hD (hL 2 0 (xe_2 nb nn)) (hL 13 0 (xe_13 nb nn)) (hL 14 0 (xe_14 nb nn)) a b v (ob_X10_road_50_p0 nb nn a b v M r_1 er_1 c_2 r_3 er_3 c_4 c_5 r_6 er_6 c_7 r_8 er_8) (ob_X10_road_50_p1 nb nn a b v M r_1 er_1 c_2 r_3 er_3 c_4 c_5 r_6 er_6 c_7 r_8 er_8) (ob_X10_road_50_p2 nb nn a b v M r_1 er_1 c_2 r_3 er_3 c_4 c_5 r_6 er_6 c_7 r_8 er_8) (ob_X10_road_50_p3 nb nn a b v M r_1 er_1 c_2 r_3 er_3 c_4 c_5 r_6 er_6 c_7 r_8 er_8)) rfl hl.1 (Nat.le_of_ble_eq_true rfl) ⟨Nat.zero_le _, Nat.zero_le _⟩ dX10_road_50 rfl (fun M_10 H locs eM_10 hP hS => ?_)
          replace hres := xlet_n hres eM_10
          refine lv_iload hx hb dX10_road_53 (lv_at hl 0 rfl) ?_
          exact x_reti hx hb hr hlk hP hS (hres.symm.trans hF) dX10_road_55
        · replace hres := hres.trans (if_pos c_7)
          refine lv_ldc (own := RX10) (v := (-1000001)) hx hb hown (hts _ (List.mem_cons_of_mem _ wd_174)) dX10_road_29 ?_
          exact x_reti hx hb hr hlk hP hS (hres.symm.trans hF) dX10_road_31
set_option maxHeartbeats 4000000 in
set_option maxRecDepth 100000 in
theorem c_X10_far (l : Launch) (nb nn : Nat) (g : xG) (L : List (Nat × Nat)) (M : xM) (hD : xD g L) (hL : xEL nb nn L) (a : Int32) (b : Int32)  : xCi l yX10_far cX10_far 3 (some .int) 2 g L M [.ref (xad g 0 0), .int a, .int b] (fun r u => r = f_X10_far a b M ∧ u = M) := by
  intro sz
  refine x_beg (by decide +kernel) rfl ?_
  intro p e s m args below meth c ls hsz hB
  subst hsz
  obtain ⟨hx, hb, hml, hown, hts, hr, hlk, hK, hAm, hP, hl⟩ := hB
  have S : CallFix p m c cX10_far 3 s args (xws yX10_far cX10_far 3 (some .int)) RX10 := ⟨hx, hb, hml, hown, hts⟩
  have hown : s.vm.findClass RX10 = some m.cls := hown
  have hl : lv_has ls 3 [(0, .ref (xad g 0 0)), (1, .int a), (2, .int b)] := hl
  have hS : va_S (xA g L s.heap.size) s.heap s.heap [] := va_S.rf
  obtain ⟨F, hF⟩ : ∃ F, F = f_X10_far a b M := ⟨_, rfl⟩
  have hres := hF
  rw [f_X10_far] at hres
  refine lv_iload_n hx hb dX10_far_0 rfl (lv_at hl 1 rfl) ?_
  refine x_callSi (As := [.int a]) S hK hAm hD hP hS mt_X10_isTown wd_268 ⟨by decide, by decide⟩ (c_X10_isTown l nb nn g L M hD hL a) rfl hl.1 (Nat.le_of_ble_eq_true rfl) ⟨Nat.zero_le _, Nat.zero_le _⟩ dX10_far_1 rfl (fun r_1 u H locs hp_ hP hS => ?_)
  obtain ⟨er_1, eu_⟩ := hp_
  rw [eu_] at hP
  clear eu_
  replace hres := xlet_n hres er_1
  refine lv_if_eq (tgt := 14) hx hb dX10_far_4 (by decide) (fun c_2 => ?_) (fun c_2 => ?_)
  · replace hres := hres.trans (if_pos c_2)
    refine lv_ldc (own := RX10) (v := (-1000001)) hx hb hown (hts _ (List.mem_cons_of_mem _ wd_174)) dX10_far_14 ?_
    exact x_reti hx hb hr hlk hP hS ⟨hres.symm.trans hF, rfl⟩ dX10_far_16
  · replace hres := hres.trans (if_neg c_2)
    refine lv_iload_n hx hb dX10_far_7 rfl (lv_at hl 2 rfl) ?_
    refine x_callSi (As := [.int b]) S hK hAm hD hP hS mt_X10_isTown wd_268 ⟨by decide, by decide⟩ (c_X10_isTown l nb nn g L M hD hL b) rfl hl.1 (Nat.le_of_ble_eq_true rfl) ⟨Nat.zero_le _, Nat.zero_le _⟩ dX10_far_8 rfl (fun r_3 u H locs hp_ hP hS => ?_)
    obtain ⟨er_3, eu_⟩ := hp_
    rw [eu_] at hP
    clear eu_
    replace hres := xlet_n hres er_3
    refine lv_if_ne (tgt := 17) hx hb dX10_far_11 (by decide) (fun c_4 => ?_) (fun c_4 => ?_)
    · replace hres := hres.trans (if_neg c_4)
      refine lv_aload_n hx hb dX10_far_17 rfl (lv_at hl 0 rfl) ?_
      refine gf_RX10_18 hx hb hts hown hK hP (hL 0 0 (xe_0 nb nn)) dX10_far_18 ?_
      refine lv_iload_n hx hb dX10_far_21 rfl (lv_at hl 1 rfl) ?_
      refine lv_iload_n hx hb dX10_far_22 rfl (lv_at hl 2 rfl) ?_
      refine x_callVi (As := [.int a, .int b]) S hK hAm hD hP hS mt_X5_fewestMiles wd_289 ⟨by decide, by decide⟩ (hL 2 0 (xe_2 nb nn)) (xc2 g 0) rfl (c_X5_fewestMiles l nb nn g L M hD (hL 2 0 (xe_2 nb nn)) (hL 13 0 (xe_13 nb nn)) (hL 14 0 (xe_14 nb nn)) a b (ob_X10_far_23_p0 nb nn a b M r_1 er_1 c_2 r_3 er_3 c_4) (ob_X10_far_23_p1 nb nn a b M r_1 er_1 c_2 r_3 er_3 c_4) (ob_X10_far_23_p2 nb nn a b M r_1 er_1 c_2 r_3 er_3 c_4) (ob_X10_far_23_p3 nb nn a b M r_1 er_1 c_2 r_3 er_3 c_4)) rfl hl.1 (Nat.le_of_ble_eq_true rfl) ⟨Nat.zero_le _, Nat.zero_le _⟩ dX10_far_23 rfl (fun r_5 u H locs hp_ hP hS => ?_)
      obtain ⟨er_5, eu_⟩ := hp_
      rw [eu_] at hP
      clear eu_
      replace hres := xlet_n hres er_5
      exact x_reti hx hb hr hlk hP hS ⟨hres.symm.trans hF, rfl⟩ dX10_far_26
    · replace hres := hres.trans (if_pos c_4)
      refine lv_ldc (own := RX10) (v := (-1000001)) hx hb hown (hts _ (List.mem_cons_of_mem _ wd_174)) dX10_far_14 ?_
      exact x_reti hx hb hr hlk hP hS ⟨hres.symm.trans hF, rfl⟩ dX10_far_16
set_option maxHeartbeats 4000000 in
set_option maxRecDepth 100000 in
theorem c_X10_house (l : Launch) (nb nn : Nat) (g : xG) (L : List (Nat × Nat)) (M : xM) (hD : xD g L) (hL : xEL nb nn L) (bk : Int32) (what : Int32) (hp0 : xHB nb M) : xCi l yX10_house cX10_house 4 (some .int) 2 g L M [.ref (xad g 0 0), .int bk, .int what] (fun r u => r = f_X10_house bk what M ∧ u = M) := by
  intro sz
  refine x_beg (by decide +kernel) rfl ?_
  intro p e s m args below meth c ls hsz hB
  subst hsz
  obtain ⟨hx, hb, hml, hown, hts, hr, hlk, hK, hAm, hP, hl⟩ := hB
  have S : CallFix p m c cX10_house 4 s args (xws yX10_house cX10_house 4 (some .int)) RX10 := ⟨hx, hb, hml, hown, hts⟩
  have hown : s.vm.findClass RX10 = some m.cls := hown
  have hl : lv_has ls 4 [(0, .ref (xad g 0 0)), (1, .int bk), (2, .int what)] := hl
  have hS : va_S (xA g L s.heap.size) s.heap s.heap [] := va_S.rf
  obtain ⟨F, hF⟩ : ∃ F, F = f_X10_house bk what M := ⟨_, rfl⟩
  have hres := hF
  rw [f_X10_house] at hres
  refine lv_aload_n hx hb dX10_house_0 rfl (lv_at hl 0 rfl) ?_
  refine lv_iload_n hx hb dX10_house_1 rfl (lv_at hl 1 rfl) ?_
  refine x_callVq (As := [.int bk]) S hK hAm hD hP hS mt_X10_bankOf wd_338 ⟨by decide, by decide⟩ (hL 0 0 (xe_0 nb nn)) (xc0 g 0) rfl (c_X10_bankOf l nb nn g L M hD hL bk (ob_X10_house_2_p0 nb nn bk what M hp0)) rfl hl.1 (Nat.le_of_ble_eq_true rfl) ⟨Nat.zero_le _, Nat.zero_le _⟩ dX10_house_2 rfl (fun r_1 u H locs hp_ hP hS => ?_)
  obtain ⟨hp_, eu_⟩ := hp_
  rw [eu_] at hP
  clear eu_
  subst hp_
  rcases o_3 : f_X10_bankOf bk M with _ | i_2
  · replace hres := xopt_n hres o_3
    refine lv_astore_nN (lv' := [(3, .null), (0, .ref (xad g 0 0)), (1, .int bk), (2, .int what)]) hx hb dX10_house_5 rfl hl (by decide) rfl (fun ls hl => ?_)
    refine lv_aload_nN hx hb dX10_house_6 rfl (lv_at hl 0 rfl) ?_
    refine lv_ifnonnullN hx hb dX10_house_7 ?_
    refine lv_ldc (own := RX10) (v := (-1000001)) hx hb hown (hts _ (List.mem_cons_of_mem _ wd_174)) dX10_house_10 ?_
    exact x_reti hx hb hr hlk hP hS ⟨hres.symm.trans hF, rfl⟩ dX10_house_12
  · replace hres := xopt_s hres o_3
    have hq_5 := (ob_X10_house_2_q nb nn bk what M hp0 i_2 o_3)
    have hi_4 := hq_5.1
    refine lv_astore_n (lv' := [(3, .ref (xad g 27 i_2)), (0, .ref (xad g 0 0)), (1, .int bk), (2, .int what)]) hx hb dX10_house_5 rfl hl (by decide) rfl (fun ls hl => ?_)
    refine lv_aload_n hx hb dX10_house_6 rfl (lv_at hl 0 rfl) ?_
    refine lv_ifnonnull (tgt := 13) hx hb dX10_house_7 (by decide) ?_
    refine lv_iload_n hx hb dX10_house_13 rfl (lv_at hl 3 rfl) ?_
    by_cases c_6 : what = 0
    · replace hres := hres.trans (if_pos c_6)
      refine lv_tableIn (off := 34) (tgt := 48) hx hb dX10_house_14 (by rw [c_6]; decide) (by rw [c_6]; decide) (by rw [c_6]; rfl) (by decide) ?_
      refine lv_aload_n hx hb dX10_house_48 rfl (lv_at hl 0 rfl) ?_
      refine gf_RX10_173 hx hb hts hown hK hP (hL 27 i_2 hi_4) dX10_house_49 ?_
      exact x_reti hx hb hr hlk hP hS ⟨hres.symm.trans hF, rfl⟩ dX10_house_52
    · replace hres := hres.trans (if_neg c_6)
      by_cases c_7 : what = 1
      · replace hres := hres.trans (if_pos c_7)
        refine lv_tableIn (off := 39) (tgt := 53) hx hb dX10_house_14 (by rw [c_7]; decide) (by rw [c_7]; decide) (by rw [c_7]; rfl) (by decide) ?_
        refine lv_aload_n hx hb dX10_house_53 rfl (lv_at hl 0 rfl) ?_
        refine gf_RX10_176 hx hb hts hown hK hP (hL 27 i_2 hi_4) dX10_house_54 ?_
        exact x_reti hx hb hr hlk hP hS ⟨hres.symm.trans hF, rfl⟩ dX10_house_57
      · replace hres := hres.trans (if_neg c_7)
        by_cases c_8 : what = 2
        · replace hres := hres.trans (if_pos c_8)
          refine lv_tableIn (off := 44) (tgt := 58) hx hb dX10_house_14 (by rw [c_8]; decide) (by rw [c_8]; decide) (by rw [c_8]; rfl) (by decide) ?_
          refine lv_aload_n hx hb dX10_house_58 rfl (lv_at hl 0 rfl) ?_
          refine gf_RX10_179 hx hb hts hown hK hP (hL 27 i_2 hi_4) dX10_house_59 ?_
          exact x_reti hx hb hr hlk hP hS ⟨hres.symm.trans hF, rfl⟩ dX10_house_62
        · replace hres := hres.trans (if_neg c_8)
          by_cases c_9 : what = 3
          · replace hres := hres.trans (if_pos c_9)
            refine lv_tableIn (off := 49) (tgt := 63) hx hb dX10_house_14 (by rw [c_9]; decide) (by rw [c_9]; decide) (by rw [c_9]; rfl) (by decide) ?_
            refine lv_aload_n hx hb dX10_house_63 rfl (lv_at hl 0 rfl) ?_
            refine gf_RX10_182 hx hb hts hown hK hP (hL 27 i_2 hi_4) dX10_house_64 ?_
            refine lv_if_eq (tgt := 74) hx hb dX10_house_67 (by decide) (fun c_10 => ?_) (fun c_10 => ?_)
            · replace hres := hres.trans (if_pos c_10)
              refine lv_iconst (v := 0) hx hb dX10_house_74 (by decide) ?_
              exact x_reti hx hb hr hlk hP hS ⟨hres.symm.trans hF, rfl⟩ dX10_house_75
            · replace hres := hres.trans (if_neg c_10)
              refine lv_iconst (v := 1) hx hb dX10_house_70 (by decide) ?_
              refine lv_goto (tgt := 75) hx hb dX10_house_71 (by decide) ?_
              exact x_reti hx hb hr hlk hP hS ⟨hres.symm.trans hF, rfl⟩ dX10_house_75
          · replace hres := hres.trans (if_neg c_9)
            by_cases c_11 : what = 4
            · replace hres := hres.trans (if_pos c_11)
              refine lv_tableIn (off := 62) (tgt := 76) hx hb dX10_house_14 (by rw [c_11]; decide) (by rw [c_11]; decide) (by rw [c_11]; rfl) (by decide) ?_
              refine lv_aload_n hx hb dX10_house_76 rfl (lv_at hl 0 rfl) ?_
              refine gf_RX10_186 hx hb hts hown hK hP (hL 27 i_2 hi_4) dX10_house_77 ?_
              exact x_reti hx hb hr hlk hP hS ⟨hres.symm.trans hF, rfl⟩ dX10_house_80
            · replace hres := hres.trans (if_neg c_11)
              refine lv_tableOut (tgt := 81) hx hb dX10_house_14 (by have q0 := lv_neT c_6 (show (0 : Int32).toInt = 0 from rfl); have q1 := lv_neT c_7 (show (1 : Int32).toInt = 1 from rfl); have q2 := lv_neT c_8 (show (2 : Int32).toInt = 2 from rfl); have q3 := lv_neT c_9 (show (3 : Int32).toInt = 3 from rfl); have q4 := lv_neT c_11 (show (4 : Int32).toInt = 4 from rfl); omega) (by decide) ?_
              refine lv_ldc (own := RX10) (v := (-1000001)) hx hb hown (hts _ (List.mem_cons_of_mem _ wd_174)) dX10_house_81 ?_
              exact x_reti hx hb hr hlk hP hS ⟨hres.symm.trans hF, rfl⟩ dX10_house_83
set_option maxHeartbeats 4000000 in
set_option maxRecDepth 100000 in
theorem c_X10_hold (l : Launch) (nb nn : Nat) (g : xG) (L : List (Nat × Nat)) (M : xM) (hD : xD g L) (hL : xEL nb nn L) (bk : Int32) (other : Int32) (v : Int32) (hp0 : xHB nb M) : xCi l yX10_hold cX10_hold 5 (some .int) 2 g L M [.ref (xad g 0 0), .int bk, .int other, .int v] (fun r u => (r, u) = f_X10_hold bk other v M) := by
  intro sz
  refine x_beg (by decide +kernel) rfl ?_
  intro p e s m args below meth c ls hsz hB
  subst hsz
  obtain ⟨hx, hb, hml, hown, hts, hr, hlk, hK, hAm, hP, hl⟩ := hB
  have S : CallFix p m c cX10_hold 5 s args (xws yX10_hold cX10_hold 5 (some .int)) RX10 := ⟨hx, hb, hml, hown, hts⟩
  have hown : s.vm.findClass RX10 = some m.cls := hown
  have hl : lv_has ls 5 [(0, .ref (xad g 0 0)), (1, .int bk), (2, .int other), (3, .int v)] := hl
  have hS : va_S (xA g L s.heap.size) s.heap s.heap [] := va_S.rf
  obtain ⟨F, hF⟩ : ∃ F, F = f_X10_hold bk other v M := ⟨_, rfl⟩
  have hres := hF
  rw [f_X10_hold] at hres
  refine lv_aload_n hx hb dX10_hold_0 rfl (lv_at hl 0 rfl) ?_
  refine lv_iload_n hx hb dX10_hold_1 rfl (lv_at hl 1 rfl) ?_
  refine x_callVq (As := [.int bk]) S hK hAm hD hP hS mt_X10_bankOf wd_338 ⟨by decide, by decide⟩ (hL 0 0 (xe_0 nb nn)) (xc0 g 0) rfl (c_X10_bankOf l nb nn g L M hD hL bk (ob_X10_hold_2_p0 nb nn bk other v M hp0)) rfl hl.1 (Nat.le_of_ble_eq_true rfl) ⟨Nat.zero_le _, Nat.zero_le _⟩ dX10_hold_2 rfl (fun r_1 u H locs hp_ hP hS => ?_)
  obtain ⟨hp_, eu_⟩ := hp_
  rw [eu_] at hP
  clear eu_
  subst hp_
  rcases o_3 : f_X10_bankOf bk M with _ | i_2
  · replace hres := xopt_n hres o_3
    refine lv_astoreN (lv' := [(4, .null), (0, .ref (xad g 0 0)), (1, .int bk), (2, .int other), (3, .int v)]) hx hb dX10_hold_5 hl (by decide) rfl (fun ls hl => ?_)
    refine lv_aloadN hx hb dX10_hold_7 (lv_at hl 0 rfl) ?_
    refine lv_ifnullN (tgt := 20) hx hb dX10_hold_9 (by decide) ?_
    refine lv_ldc (own := RX10) (v := (-1000001)) hx hb hown (hts _ (List.mem_cons_of_mem _ wd_174)) dX10_hold_20 ?_
    exact x_reti hx hb hr hlk hP hS (hres.symm.trans hF) dX10_hold_22
  · replace hres := xopt_s hres o_3
    have hq_5 := (ob_X10_hold_2_q nb nn bk other v M hp0 i_2 o_3)
    have hi_4 := hq_5.1
    refine lv_astore (lv' := [(4, .ref (xad g 27 i_2)), (0, .ref (xad g 0 0)), (1, .int bk), (2, .int other), (3, .int v)]) hx hb dX10_hold_5 hl (by decide) rfl (fun ls hl => ?_)
    refine lv_aload hx hb dX10_hold_7 (lv_at hl 0 rfl) ?_
    refine lv_ifnull hx hb dX10_hold_9 ?_
    refine lv_aload_n hx hb dX10_hold_12 rfl (lv_at hl 1 rfl) ?_
    refine lv_iload_n hx hb dX10_hold_13 rfl (lv_at hl 3 rfl) ?_
    refine x_callVq (As := [.int other]) S hK hAm hD hP hS mt_X10_bankOf wd_338 ⟨by decide, by decide⟩ (hL 0 0 (xe_0 nb nn)) (xc0 g 0) rfl (c_X10_bankOf l nb nn g L M hD hL other (ob_X10_hold_14_p0 nb nn bk other v M hp0 i_2 o_3 hq_5 hi_4)) rfl hl.1 (Nat.le_of_ble_eq_true rfl) ⟨Nat.zero_le _, Nat.zero_le _⟩ dX10_hold_14 rfl (fun r_6 u H locs hp_ hP hS => ?_)
    obtain ⟨hp_, eu_⟩ := hp_
    rw [eu_] at hP
    clear eu_
    subst hp_
    rcases o_8 : f_X10_bankOf other M with _ | i_7
    · replace hres := xopt_n hres o_8
      refine lv_ifnonnullN hx hb dX10_hold_17 ?_
      refine lv_ldc (own := RX10) (v := (-1000001)) hx hb hown (hts _ (List.mem_cons_of_mem _ wd_174)) dX10_hold_20 ?_
      exact x_reti hx hb hr hlk hP hS (hres.symm.trans hF) dX10_hold_22
    · replace hres := xopt_s hres o_8
      have hq_10 := (ob_X10_hold_14_q nb nn bk other v M hp0 i_2 o_3 hq_5 hi_4 i_7 o_8)
      have hi_9 := hq_10.1
      refine lv_ifnonnull (tgt := 23) hx hb dX10_hold_17 (by decide) ?_
      refine lv_iload_n hx hb dX10_hold_23 rfl (lv_at hl 4 rfl) ?_
      refine lv_iload_n hx hb dX10_hold_24 rfl (lv_at hl 2 rfl) ?_
      refine lv_iload_n hx hb dX10_hold_25 rfl (lv_at hl 3 rfl) ?_
      refine lv_icmp_ne (tgt := 34) hx hb dX10_hold_26 (by decide) (fun c_11 => ?_) (fun c_11 => ?_)
      · replace hres := hres.trans (if_neg c_11)
        refine lv_sipush (v := 9999) hx hb dX10_hold_34 (by decide) ?_
        refine x_callSi (As := [.int v, .int 9999]) S hK hAm hD hP hS mt_X10_isUpTo wd_179 ⟨by decide, by decide⟩ (c_X10_isUpTo l nb nn g L M hD hL v 9999) rfl hl.1 (Nat.le_of_ble_eq_true rfl) ⟨Nat.zero_le _, Nat.zero_le _⟩ dX10_hold_37 rfl (fun r_12 u H locs hp_ hP hS => ?_)
        obtain ⟨er_12, eu_⟩ := hp_
        rw [eu_] at hP
        clear eu_
        replace hres := xlet_n hres er_12
        refine lv_if_ne (tgt := 46) hx hb dX10_hold_40 (by decide) (fun c_13 => ?_) (fun c_13 => ?_)
        · replace hres := hres.trans (if_neg c_13)
          refine lv_iload_n hx hb dX10_hold_46 rfl (lv_at hl 2 rfl) ?_
          refine lv_iload_n hx hb dX10_hold_47 rfl (lv_at hl 3 rfl) ?_
          refine lv_icmp_ne (tgt := 60) hx hb dX10_hold_48 (by decide) (fun c_14 => ?_) (fun c_14 => ?_)
          · clear c_14
            refine lv_aload hx hb dX10_hold_60 (lv_at hl 0 rfl) ?_
            refine lv_iload_n hx hb dX10_hold_62 rfl (lv_at hl 3 rfl) ?_
            refine lv_iload_n hx hb dX10_hold_63 rfl (lv_at hl 4 rfl) ?_
            refine x_callVi (As := [.int other, .int v]) S hK hAm hD hP hS mt_X0_changeHeld wd_359 ⟨by decide, by decide⟩ (hL 27 i_2 hi_4) (xc27 g i_2) rfl (c_X0_changeHeld l nb nn g L M hD hL i_2 other v hi_4 (ob_X10_hold_64_p0 nb nn bk other v M hp0 i_2 o_3 hq_5 hi_4 i_7 o_8 hq_10 hi_9 c_11 r_12 er_12 c_13) (ob_X10_hold_64_p1 nb nn bk other v M hp0 i_2 o_3 hq_5 hi_4 i_7 o_8 hq_10 hi_9 c_11 r_12 er_12 c_13)) rfl hl.1 (Nat.le_of_ble_eq_true rfl) ⟨Nat.zero_le _, Nat.zero_le _⟩ dX10_hold_64 rfl (fun r_15 M_16 H locs ep_ hP hS => ?_)
            replace hres := xlet2_n hres ep_
            have er_15 : r_15 = (f_X0_changeHeld i_2 other v M).1 := congrArg Prod.fst ep_
            have eM_16 : M_16 = (f_X0_changeHeld i_2 other v M).2 := congrArg Prod.snd ep_
            clear ep_
            exact x_reti hx hb hr hlk hP hS (hres.symm.trans hF) dX10_hold_67
          · exact absurd c_14 c_11
        · replace hres := hres.trans (if_pos c_13)
          refine lv_ldc (own := RX10) (v := (-1000001)) hx hb hown (hts _ (List.mem_cons_of_mem _ wd_174)) dX10_hold_43 ?_
          exact x_reti hx hb hr hlk hP hS (hres.symm.trans hF) dX10_hold_45
      · replace hres := hres.trans (if_pos c_11)
        refine lv_ldc (own := RX10) (v := 99999) hx hb hown (hts _ (List.mem_cons_of_mem _ wd_307)) dX10_hold_29 ?_
        refine lv_goto (tgt := 37) hx hb dX10_hold_31 (by decide) ?_
        refine x_callSi (As := [.int v, .int 99999]) S hK hAm hD hP hS mt_X10_isUpTo wd_179 ⟨by decide, by decide⟩ (c_X10_isUpTo l nb nn g L M hD hL v 99999) rfl hl.1 (Nat.le_of_ble_eq_true rfl) ⟨Nat.zero_le _, Nat.zero_le _⟩ dX10_hold_37 rfl (fun r_17 u H locs hp_ hP hS => ?_)
        obtain ⟨er_17, eu_⟩ := hp_
        rw [eu_] at hP
        clear eu_
        replace hres := xlet_n hres er_17
        refine lv_if_ne (tgt := 46) hx hb dX10_hold_40 (by decide) (fun c_18 => ?_) (fun c_18 => ?_)
        · replace hres := hres.trans (if_neg c_18)
          refine lv_iload_n hx hb dX10_hold_46 rfl (lv_at hl 2 rfl) ?_
          refine lv_iload_n hx hb dX10_hold_47 rfl (lv_at hl 3 rfl) ?_
          refine lv_icmp_ne (tgt := 60) hx hb dX10_hold_48 (by decide) (fun c_19 => ?_) (fun c_19 => ?_)
          · exact absurd c_11 c_19
          · clear c_19
            refine lv_aload hx hb dX10_hold_51 (lv_at hl 0 rfl) ?_
            refine lv_iload_n hx hb dX10_hold_53 rfl (lv_at hl 4 rfl) ?_
            refine x_callVi (As := [.int v]) S hK hAm hD hP hS mt_X0_changeNeed wd_355 ⟨by decide, by decide⟩ (hL 27 i_2 hi_4) (xc27 g i_2) rfl (c_X0_changeNeed l nb nn g L M hD hL i_2 v hi_4) rfl hl.1 (Nat.le_of_ble_eq_true rfl) ⟨Nat.zero_le _, Nat.zero_le _⟩ dX10_hold_54 rfl (fun r_20 M_21 H locs ep_ hP hS => ?_)
            replace hres := xlet2_n hres ep_
            have er_20 : r_20 = (f_X0_changeNeed i_2 v M).1 := congrArg Prod.fst ep_
            have eM_21 : M_21 = (f_X0_changeNeed i_2 v M).2 := congrArg Prod.snd ep_
            clear ep_
            refine lv_goto (tgt := 67) hx hb dX10_hold_57 (by decide) ?_
            exact x_reti hx hb hr hlk hP hS (hres.symm.trans hF) dX10_hold_67
        · replace hres := hres.trans (if_pos c_18)
          refine lv_ldc (own := RX10) (v := (-1000001)) hx hb hown (hts _ (List.mem_cons_of_mem _ wd_174)) dX10_hold_43 ?_
          exact x_reti hx hb hr hlk hP hS (hres.symm.trans hF) dX10_hold_45
set_option maxHeartbeats 4000000 in
set_option maxRecDepth 100000 in
theorem c_X10_shutBanks (l : Launch) (nb nn : Nat) (g : xG) (L : List (Nat × Nat)) (M : xM) (hD : xD g L) (hL : xEL nb nn L)  (hp0 : xHB nb M) : xCi l yX10_shutBanks cX10_shutBanks 4 (some .int) 2 g L M [.ref (xad g 0 0)] (fun r u => r = f_X10_shutBanks  M ∧ u = M) := by
  intro sz
  refine x_beg (by decide +kernel) rfl ?_
  intro p e s m args below meth c ls hsz hB
  subst hsz
  obtain ⟨hx, hb, hml, hown, hts, hr, hlk, hK, hAm, hP, hl⟩ := hB
  have S : CallFix p m c cX10_shutBanks 4 s args (xws yX10_shutBanks cX10_shutBanks 4 (some .int)) RX10 := ⟨hx, hb, hml, hown, hts⟩
  have hown : s.vm.findClass RX10 = some m.cls := hown
  have hl : lv_has ls 4 [(0, .ref (xad g 0 0))] := hl
  have hS : va_S (xA g L s.heap.size) s.heap s.heap [] := va_S.rf
  obtain ⟨F, hF⟩ : ∃ F, F = f_X10_shutBanks  M := ⟨_, rfl⟩
  have k_4 : ∀ (n : Nat) (shut : Int32) (i : Int32) (H : Heap) (locs : List Loc) (ls : Array Slot) (kx : (Int32 → Int32 → Int32)), xmu i (M 0 0 12) < n → True → F = f_X10_shutBanks_L4 M n shut i kx → xP g L M H → va_S (xA g L s.heap.size) s.heap H locs → lv_has ls 4 [(0, .ref (xad g 0 0)), (1, .int shut), (2, .int i)] → (∀ (shut : Int32) (i : Int32) (H : Heap) (locs : List Loc) (ls : Array Slot), True → F = kx shut i → xP g L M H → va_S (xA g L s.heap.size) s.heap H locs → lv_has ls 4 [(0, .ref (xad g 0 0)), (1, .int shut), (2, .int i)] → W p l e (xr 2) s m args below meth c H locs 0 0 (MQ below (va_Qi (fun r u => r = f_X10_shutBanks  M ∧ u = M) (xPost g L) (xA g L s.heap.size)) args s 0 0 (xA g L s.heap.size)) (F0 m 41 ls [])) → W p l e (xr 2) s m args below meth c H locs 0 0 (MQ below (va_Qi (fun r u => r = f_X10_shutBanks  M ∧ u = M) (xPost g L) (xA g L s.heap.size)) args s 0 0 (xA g L s.heap.size)) (F0 m 4 ls []) := by
    intro n
    induction n with
    | zero => intro shut i H locs ls kx hmu; exact absurd hmu (Nat.not_lt_zero _)
    | succ n ih =>
      intro shut i H locs ls kx hmu hinv hres hP hS hl hex
      replace hres : F = _ := hres.trans (by rw [f_X10_shutBanks_L4])
      refine lv_iload_n hx hb dX10_shutBanks_4 rfl (lv_at hl 2 rfl) ?_
      refine lv_aload_n hx hb dX10_shutBanks_5 rfl (lv_at hl 0 rfl) ?_
      refine gf_RX10_84 hx hb hts hown hK hP (hL 0 0 (xe_0 nb nn)) dX10_shutBanks_6 ?_
      refine lv_icmp_ge (tgt := 41) hx hb dX10_shutBanks_9 (by decide) (fun c_1 => ?_) (fun c_1 => ?_)
      · replace hres := hres.trans (if_pos c_1)
        exact hex shut i _ _ _ trivial hres hP hS (lv_sub hl [0, 1, 2] rfl)
      · replace hres := hres.trans (if_neg c_1)
        refine lv_aload_n hx hb dX10_shutBanks_12 rfl (lv_at hl 0 rfl) ?_
        refine lv_iload_n hx hb dX10_shutBanks_13 rfl (lv_at hl 2 rfl) ?_
        refine x_callVq (As := [.int i]) S hK hAm hD hP hS mt_X10_bankOf wd_338 ⟨by decide, by decide⟩ (hL 0 0 (xe_0 nb nn)) (xc0 g 0) rfl (c_X10_bankOf l nb nn g L M hD hL i (ob_X10_shutBanks_14_p0 nb nn M hp0 n shut i hmu hinv c_1)) rfl hl.1 (Nat.le_of_ble_eq_true rfl) ⟨Nat.zero_le _, Nat.zero_le _⟩ dX10_shutBanks_14 rfl (fun r_2 u H locs hp_ hP hS => ?_)
        obtain ⟨hp_, eu_⟩ := hp_
        rw [eu_] at hP
        clear eu_
        subst hp_
        rcases o_4 : f_X10_bankOf i M with _ | i_3
        · replace hres := xopt_n hres o_4
          refine lv_astore_nN (lv' := [(3, .null), (0, .ref (xad g 0 0)), (1, .int shut), (2, .int i)]) hx hb dX10_shutBanks_17 rfl hl (by decide) rfl (fun ls hl => ?_)
          refine lv_aload_nN hx hb dX10_shutBanks_18 rfl (lv_at hl 0 rfl) ?_
          refine lv_ifnullN (tgt := 35) hx hb dX10_shutBanks_19 (by decide) ?_
          obtain ⟨x2_7, ex2_7⟩ : ∃ z_ : Int32, z_ = i + 1 := ⟨_, rfl⟩
          replace hres := xlet_n hres ex2_7
          refine lv_iinc (v := x2_7) (lv' := [(2, .int x2_7), (3, .null), (0, .ref (xad g 0 0)), (1, .int shut)]) hx hb dX10_shutBanks_35 hl (k := 3) rfl (by rw [ex2_7]; rfl) (by decide) rfl (fun ls hl => ?_)
          refine lv_goto (tgt := 4) hx hb dX10_shutBanks_38 (by decide) ?_
          exact ih shut x2_7 _ _ _ kx (ob_X10_shutBanks_4_mu_7 nb nn M hp0 n shut i hmu hinv c_1 o_4 x2_7 ex2_7) trivial hres hP hS (lv_sub hl [2, 3, 0] rfl) hex
        · replace hres := xopt_s hres o_4
          have hq_6 := (ob_X10_shutBanks_14_q nb nn M hp0 n shut i hmu hinv c_1 i_3 o_4)
          have hi_5 := hq_6.1
          refine lv_astore_n (lv' := [(3, .ref (xad g 27 i_3)), (0, .ref (xad g 0 0)), (1, .int shut), (2, .int i)]) hx hb dX10_shutBanks_17 rfl hl (by decide) rfl (fun ls hl => ?_)
          refine lv_aload_n hx hb dX10_shutBanks_18 rfl (lv_at hl 0 rfl) ?_
          refine lv_ifnull hx hb dX10_shutBanks_19 ?_
          refine lv_aload_n hx hb dX10_shutBanks_22 rfl (lv_at hl 0 rfl) ?_
          refine gf_RX10_182 hx hb hts hown hK hP (hL 27 i_3 hi_5) dX10_shutBanks_23 ?_
          refine lv_if_eq (tgt := 35) hx hb dX10_shutBanks_26 (by decide) (fun c_8 => ?_) (fun c_8 => ?_)
          · replace hres := hres.trans (if_pos c_8)
            obtain ⟨x2_9, ex2_9⟩ : ∃ z_ : Int32, z_ = i + 1 := ⟨_, rfl⟩
            replace hres := xlet_n hres ex2_9
            refine lv_iinc (v := x2_9) (lv' := [(2, .int x2_9), (3, .ref (xad g 27 i_3)), (0, .ref (xad g 0 0)), (1, .int shut)]) hx hb dX10_shutBanks_35 hl (k := 3) rfl (by rw [ex2_9]; rfl) (by decide) rfl (fun ls hl => ?_)
            refine lv_goto (tgt := 4) hx hb dX10_shutBanks_38 (by decide) ?_
            exact ih shut x2_9 _ _ _ kx (ob_X10_shutBanks_4_mu_9 nb nn M hp0 n shut i hmu hinv c_1 i_3 o_4 hq_6 hi_5 c_8 x2_9 ex2_9) trivial hres hP hS (lv_sub hl [2, 3, 0] rfl) hex
          · replace hres := hres.trans (if_neg c_8)
            refine lv_iload_n hx hb dX10_shutBanks_29 rfl (lv_at hl 2 rfl) ?_
            refine lv_iconst (v := 1) hx hb dX10_shutBanks_30 (by decide) ?_
            refine lv_iload_n hx hb dX10_shutBanks_31 rfl (lv_at hl 3 rfl) ?_
            refine lv_ishl hx hb dX10_shutBanks_32 ?_
            refine lv_ior hx hb dX10_shutBanks_33 ?_
            refine lv_topi (fun x1_10 ex1_10 => ?_)
            replace hres := xlet_n hres ex1_10
            refine lv_istore_n (lv' := [(1, .int x1_10), (3, .ref (xad g 27 i_3)), (0, .ref (xad g 0 0)), (2, .int i)]) hx hb dX10_shutBanks_34 rfl hl (by decide) rfl (fun ls hl => ?_)
            obtain ⟨x2_11, ex2_11⟩ : ∃ z_ : Int32, z_ = i + 1 := ⟨_, rfl⟩
            replace hres := xlet_n hres ex2_11
            refine lv_iinc (v := x2_11) (lv' := [(2, .int x2_11), (1, .int x1_10), (3, .ref (xad g 27 i_3)), (0, .ref (xad g 0 0))]) hx hb dX10_shutBanks_35 hl (k := 3) rfl (by rw [ex2_11]; rfl) (by decide) rfl (fun ls hl => ?_)
            refine lv_goto (tgt := 4) hx hb dX10_shutBanks_38 (by decide) ?_
            exact ih x1_10 x2_11 _ _ _ kx (ob_X10_shutBanks_4_mu_11 nb nn M hp0 n shut i hmu hinv c_1 i_3 o_4 hq_6 hi_5 c_8 x1_10 ex1_10 x2_11 ex2_11) trivial hres hP hS (lv_sub hl [3, 1, 0] rfl) hex
  have hres := hF
  rw [f_X10_shutBanks] at hres
  refine lv_iconst (v := 0) hx hb dX10_shutBanks_0 (by decide) ?_
  refine lv_istore_n (lv' := [(1, .int 0), (0, .ref (xad g 0 0))]) hx hb dX10_shutBanks_1 rfl hl (by decide) rfl (fun ls hl => ?_)
  refine lv_iconst (v := 0) hx hb dX10_shutBanks_2 (by decide) ?_
  refine lv_istore_n (lv' := [(2, .int 0), (1, .int 0), (0, .ref (xad g 0 0))]) hx hb dX10_shutBanks_3 rfl hl (by decide) rfl (fun ls hl => ?_)
  refine k_4 (xmu (0 : Int32) (M 0 0 12) + 1) (0 : Int32) (0 : Int32) _ _ _ _ (Nat.lt_succ_self _) trivial hres hP hS (lv_sub hl [2, 1, 0] rfl) ?_
  clear hres hP hS hl
  intro shut_12 i_13 H locs ls hiv_13 hres hP hS hl
  refine lv_iload_n hx hb dX10_shutBanks_41 rfl (lv_at hl 1 rfl) ?_
  exact x_reti hx hb hr hlk hP hS ⟨hres.symm.trans hF, rfl⟩ dX10_shutBanks_42
set_option maxHeartbeats 4000000 in
set_option maxRecDepth 100000 in
theorem c_X10_banksInNeed (l : Launch) (nb nn : Nat) (g : xG) (L : List (Nat × Nat)) (M : xM) (hD : xD g L) (hL : xEL nb nn L) (fallen : Int32) (hp0 : xHB nb M) : xCi l yX10_banksInNeed cX10_banksInNeed 5 (some .int) 2 g L M [.ref (xad g 0 0), .int fallen] (fun r u => r = f_X10_banksInNeed fallen M ∧ u = M) := by
  intro sz
  refine x_beg (by decide +kernel) rfl ?_
  intro p e s m args below meth c ls hsz hB
  subst hsz
  obtain ⟨hx, hb, hml, hown, hts, hr, hlk, hK, hAm, hP, hl⟩ := hB
  have S : CallFix p m c cX10_banksInNeed 5 s args (xws yX10_banksInNeed cX10_banksInNeed 5 (some .int)) RX10 := ⟨hx, hb, hml, hown, hts⟩
  have hown : s.vm.findClass RX10 = some m.cls := hown
  have hl : lv_has ls 5 [(0, .ref (xad g 0 0)), (1, .int fallen)] := hl
  have hS : va_S (xA g L s.heap.size) s.heap s.heap [] := va_S.rf
  obtain ⟨F, hF⟩ : ∃ F, F = f_X10_banksInNeed fallen M := ⟨_, rfl⟩
  have k_4 : ∀ (n : Nat) (inNeed : Int32) (i : Int32) (H : Heap) (locs : List Loc) (ls : Array Slot) (kx : (Int32 → Int32 → Int32)), xmu i (M 0 0 12) < n → True → F = f_X10_banksInNeed_L4 fallen M n inNeed i kx → xP g L M H → va_S (xA g L s.heap.size) s.heap H locs → lv_has ls 5 [(0, .ref (xad g 0 0)), (1, .int fallen), (2, .int inNeed), (3, .int i)] → (∀ (inNeed : Int32) (i : Int32) (H : Heap) (locs : List Loc) (ls : Array Slot), True → F = kx inNeed i → xP g L M H → va_S (xA g L s.heap.size) s.heap H locs → lv_has ls 5 [(0, .ref (xad g 0 0)), (1, .int fallen), (2, .int inNeed), (3, .int i)] → W p l e (xr 2) s m args below meth c H locs 0 0 (MQ below (va_Qi (fun r u => r = f_X10_banksInNeed fallen M ∧ u = M) (xPost g L) (xA g L s.heap.size)) args s 0 0 (xA g L s.heap.size)) (F0 m 45 ls [])) → W p l e (xr 2) s m args below meth c H locs 0 0 (MQ below (va_Qi (fun r u => r = f_X10_banksInNeed fallen M ∧ u = M) (xPost g L) (xA g L s.heap.size)) args s 0 0 (xA g L s.heap.size)) (F0 m 4 ls []) := by
    intro n
    induction n with
    | zero => intro inNeed i H locs ls kx hmu; exact absurd hmu (Nat.not_lt_zero _)
    | succ n ih =>
      intro inNeed i H locs ls kx hmu hinv hres hP hS hl hex
      replace hres : F = _ := hres.trans (by rw [f_X10_banksInNeed_L4])
      refine lv_iload_n hx hb dX10_banksInNeed_4 rfl (lv_at hl 3 rfl) ?_
      refine lv_aload_n hx hb dX10_banksInNeed_5 rfl (lv_at hl 0 rfl) ?_
      refine gf_RX10_84 hx hb hts hown hK hP (hL 0 0 (xe_0 nb nn)) dX10_banksInNeed_6 ?_
      refine lv_icmp_ge (tgt := 45) hx hb dX10_banksInNeed_9 (by decide) (fun c_1 => ?_) (fun c_1 => ?_)
      · replace hres := hres.trans (if_pos c_1)
        exact hex inNeed i _ _ _ trivial hres hP hS (lv_sub hl [0, 1, 2, 3] rfl)
      · replace hres := hres.trans (if_neg c_1)
        refine lv_aload_n hx hb dX10_banksInNeed_12 rfl (lv_at hl 0 rfl) ?_
        refine lv_iload_n hx hb dX10_banksInNeed_13 rfl (lv_at hl 3 rfl) ?_
        refine x_callVq (As := [.int i]) S hK hAm hD hP hS mt_X10_bankOf wd_338 ⟨by decide, by decide⟩ (hL 0 0 (xe_0 nb nn)) (xc0 g 0) rfl (c_X10_bankOf l nb nn g L M hD hL i (ob_X10_banksInNeed_14_p0 nb nn fallen M hp0 n inNeed i hmu hinv c_1)) rfl hl.1 (Nat.le_of_ble_eq_true rfl) ⟨Nat.zero_le _, Nat.zero_le _⟩ dX10_banksInNeed_14 rfl (fun r_2 u H locs hp_ hP hS => ?_)
        obtain ⟨hp_, eu_⟩ := hp_
        rw [eu_] at hP
        clear eu_
        subst hp_
        rcases o_4 : f_X10_bankOf i M with _ | i_3
        · replace hres := xopt_n hres o_4
          refine lv_astoreN (lv' := [(4, .null), (0, .ref (xad g 0 0)), (1, .int fallen), (2, .int inNeed), (3, .int i)]) hx hb dX10_banksInNeed_17 hl (by decide) rfl (fun ls hl => ?_)
          refine lv_aloadN hx hb dX10_banksInNeed_19 (lv_at hl 0 rfl) ?_
          refine lv_ifnullN (tgt := 39) hx hb dX10_banksInNeed_21 (by decide) ?_
          obtain ⟨x3_7, ex3_7⟩ : ∃ z_ : Int32, z_ = i + 1 := ⟨_, rfl⟩
          replace hres := xlet_n hres ex3_7
          refine lv_iinc (v := x3_7) (lv' := [(3, .int x3_7), (4, .null), (0, .ref (xad g 0 0)), (1, .int fallen), (2, .int inNeed)]) hx hb dX10_banksInNeed_39 hl (k := 4) rfl (by rw [ex3_7]; rfl) (by decide) rfl (fun ls hl => ?_)
          refine lv_goto (tgt := 4) hx hb dX10_banksInNeed_42 (by decide) ?_
          exact ih inNeed x3_7 _ _ _ kx (ob_X10_banksInNeed_4_mu_7 nb nn fallen M hp0 n inNeed i hmu hinv c_1 o_4 x3_7 ex3_7) trivial hres hP hS (lv_sub hl [2, 3, 4, 0] rfl) hex
        · replace hres := xopt_s hres o_4
          have hq_6 := (ob_X10_banksInNeed_14_q nb nn fallen M hp0 n inNeed i hmu hinv c_1 i_3 o_4)
          have hi_5 := hq_6.1
          refine lv_astore (lv' := [(4, .ref (xad g 27 i_3)), (0, .ref (xad g 0 0)), (1, .int fallen), (2, .int inNeed), (3, .int i)]) hx hb dX10_banksInNeed_17 hl (by decide) rfl (fun ls hl => ?_)
          refine lv_aload hx hb dX10_banksInNeed_19 (lv_at hl 0 rfl) ?_
          refine lv_ifnull hx hb dX10_banksInNeed_21 ?_
          refine lv_aload hx hb dX10_banksInNeed_24 (lv_at hl 0 rfl) ?_
          refine lv_iload_n hx hb dX10_banksInNeed_26 rfl (lv_at hl 2 rfl) ?_
          refine x_callVi (As := [.int fallen]) S hK hAm hD hP hS mt_X0_isInNeed wd_380 ⟨by decide, by decide⟩ (hL 27 i_3 hi_5) (xc27 g i_3) rfl (c_X0_isInNeed l nb nn g L M hD hL i_3 fallen hi_5) rfl hl.1 (Nat.le_of_ble_eq_true rfl) ⟨Nat.zero_le _, Nat.zero_le _⟩ dX10_banksInNeed_27 rfl (fun r_8 u H locs hp_ hP hS => ?_)
          obtain ⟨er_8, eu_⟩ := hp_
          rw [eu_] at hP
          clear eu_
          replace hres := xlet_n hres er_8
          refine lv_if_eq (tgt := 39) hx hb dX10_banksInNeed_30 (by decide) (fun c_9 => ?_) (fun c_9 => ?_)
          · replace hres := hres.trans (if_pos c_9)
            obtain ⟨x3_10, ex3_10⟩ : ∃ z_ : Int32, z_ = i + 1 := ⟨_, rfl⟩
            replace hres := xlet_n hres ex3_10
            refine lv_iinc (v := x3_10) (lv' := [(3, .int x3_10), (4, .ref (xad g 27 i_3)), (0, .ref (xad g 0 0)), (1, .int fallen), (2, .int inNeed)]) hx hb dX10_banksInNeed_39 hl (k := 4) rfl (by rw [ex3_10]; rfl) (by decide) rfl (fun ls hl => ?_)
            refine lv_goto (tgt := 4) hx hb dX10_banksInNeed_42 (by decide) ?_
            exact ih inNeed x3_10 _ _ _ kx (ob_X10_banksInNeed_4_mu_10 nb nn fallen M hp0 n inNeed i hmu hinv c_1 i_3 o_4 hq_6 hi_5 r_8 er_8 c_9 x3_10 ex3_10) trivial hres hP hS (lv_sub hl [2, 3, 4, 0] rfl) hex
          · replace hres := hres.trans (if_neg c_9)
            refine lv_iload_n hx hb dX10_banksInNeed_33 rfl (lv_at hl 3 rfl) ?_
            refine lv_iconst (v := 1) hx hb dX10_banksInNeed_34 (by decide) ?_
            refine lv_iload_n hx hb dX10_banksInNeed_35 rfl (lv_at hl 4 rfl) ?_
            refine lv_ishl hx hb dX10_banksInNeed_36 ?_
            refine lv_ior hx hb dX10_banksInNeed_37 ?_
            refine lv_topi (fun x2_11 ex2_11 => ?_)
            replace hres := xlet_n hres ex2_11
            refine lv_istore_n (lv' := [(2, .int x2_11), (4, .ref (xad g 27 i_3)), (0, .ref (xad g 0 0)), (1, .int fallen), (3, .int i)]) hx hb dX10_banksInNeed_38 rfl hl (by decide) rfl (fun ls hl => ?_)
            obtain ⟨x3_12, ex3_12⟩ : ∃ z_ : Int32, z_ = i + 1 := ⟨_, rfl⟩
            replace hres := xlet_n hres ex3_12
            refine lv_iinc (v := x3_12) (lv' := [(3, .int x3_12), (2, .int x2_11), (4, .ref (xad g 27 i_3)), (0, .ref (xad g 0 0)), (1, .int fallen)]) hx hb dX10_banksInNeed_39 hl (k := 4) rfl (by rw [ex3_12]; rfl) (by decide) rfl (fun ls hl => ?_)
            refine lv_goto (tgt := 4) hx hb dX10_banksInNeed_42 (by decide) ?_
            exact ih x2_11 x3_12 _ _ _ kx (ob_X10_banksInNeed_4_mu_12 nb nn fallen M hp0 n inNeed i hmu hinv c_1 i_3 o_4 hq_6 hi_5 r_8 er_8 c_9 x2_11 ex2_11 x3_12 ex3_12) trivial hres hP hS (lv_sub hl [3, 4, 1, 0] rfl) hex
  have hres := hF
  rw [f_X10_banksInNeed] at hres
  refine lv_iconst (v := 0) hx hb dX10_banksInNeed_0 (by decide) ?_
  refine lv_istore_n (lv' := [(2, .int 0), (0, .ref (xad g 0 0)), (1, .int fallen)]) hx hb dX10_banksInNeed_1 rfl hl (by decide) rfl (fun ls hl => ?_)
  refine lv_iconst (v := 0) hx hb dX10_banksInNeed_2 (by decide) ?_
  refine lv_istore_n (lv' := [(3, .int 0), (2, .int 0), (0, .ref (xad g 0 0)), (1, .int fallen)]) hx hb dX10_banksInNeed_3 rfl hl (by decide) rfl (fun ls hl => ?_)
  refine k_4 (xmu (0 : Int32) (M 0 0 12) + 1) (0 : Int32) (0 : Int32) _ _ _ _ (Nat.lt_succ_self _) trivial hres hP hS (lv_sub hl [2, 3, 1, 0] rfl) ?_
  clear hres hP hS hl
  intro inNeed_13 i_14 H locs ls hiv_14 hres hP hS hl
  refine lv_iload_n hx hb dX10_banksInNeed_45 rfl (lv_at hl 2 rfl) ?_
  exact x_reti hx hb hr hlk hP hS ⟨hres.symm.trans hF, rfl⟩ dX10_banksInNeed_46
set_option maxHeartbeats 4000000 in
set_option maxRecDepth 100000 in
theorem c_X10_falls (l : Launch) (nb nn : Nat) (g : xG) (L : List (Nat × Nat)) (M : xM) (hD : xD g L) (hL : xEL nb nn L) (what : Int32) (hp0 : xHB nb M) : xCi l yX10_falls cX10_falls 6 (some .int) 3 g L M [.ref (xad g 0 0), .int what] (fun r u => r = f_X10_falls what M ∧ u = M) := by
  intro sz
  refine x_beg (by decide +kernel) rfl ?_
  intro p e s m args below meth c ls hsz hB
  subst hsz
  obtain ⟨hx, hb, hml, hown, hts, hr, hlk, hK, hAm, hP, hl⟩ := hB
  have S : CallFix p m c cX10_falls 6 s args (xws yX10_falls cX10_falls 6 (some .int)) RX10 := ⟨hx, hb, hml, hown, hts⟩
  have hown : s.vm.findClass RX10 = some m.cls := hown
  have hl : lv_has ls 6 [(0, .ref (xad g 0 0)), (1, .int what)] := hl
  have hS : va_S (xA g L s.heap.size) s.heap s.heap [] := va_S.rf
  obtain ⟨F, hF⟩ : ∃ F, F = f_X10_falls what M := ⟨_, rfl⟩
  have k_21 : ∀ (n : Nat) (fallen : Int32) (rounds : Int32) (rnd : Int32) (H : Heap) (locs : List Loc) (ls : Array Slot) (kx : (Int32 → Int32 → Int32 → Int32)), xmu rnd 8 < n → True → F = f_X10_falls_L21 what M n fallen rounds rnd kx → xP g L M H → va_S (xA g L s.heap.size) s.heap H locs → lv_has ls 6 [(0, .ref (xad g 0 0)), (1, .int what), (2, .int fallen), (3, .int rounds), (4, .int rnd)] → (∀ (fallen : Int32) (rounds : Int32) (rnd : Int32) (H : Heap) (locs : List Loc) (ls : Array Slot), True → F = kx fallen rounds rnd → xP g L M H → va_S (xA g L s.heap.size) s.heap H locs → lv_has ls 6 [(0, .ref (xad g 0 0)), (1, .int what), (2, .int fallen), (3, .int rounds), (4, .int rnd)] → W p l e (xr 3) s m args below meth c H locs 0 0 (MQ below (va_Qi (fun r u => r = f_X10_falls what M ∧ u = M) (xPost g L) (xA g L s.heap.size)) args s 0 0 (xA g L s.heap.size)) (F0 m 58 ls [])) → W p l e (xr 3) s m args below meth c H locs 0 0 (MQ below (va_Qi (fun r u => r = f_X10_falls what M ∧ u = M) (xPost g L) (xA g L s.heap.size)) args s 0 0 (xA g L s.heap.size)) (F0 m 21 ls []) := by
    intro n
    induction n with
    | zero => intro fallen rounds rnd H locs ls kx hmu; exact absurd hmu (Nat.not_lt_zero _)
    | succ n ih =>
      intro fallen rounds rnd H locs ls kx hmu hinv hres hP hS hl hex
      replace hres : F = _ := hres.trans (by rw [f_X10_falls_L21])
      refine lv_iload hx hb dX10_falls_21 (lv_at hl 4 rfl) ?_
      refine lv_bipush (v := 8) hx hb dX10_falls_23 (by decide) ?_
      refine lv_icmp_ge (tgt := 58) hx hb dX10_falls_25 (by decide) (fun c_1 => ?_) (fun c_1 => ?_)
      · replace hres := hres.trans (if_pos c_1)
        exact hex fallen rounds rnd _ _ _ trivial hres hP hS (lv_sub hl [0, 1, 2, 3, 4] rfl)
      · replace hres := hres.trans (if_neg c_1)
        refine lv_iload_n hx hb dX10_falls_28 rfl (lv_at hl 2 rfl) ?_
        refine lv_aload_n hx hb dX10_falls_29 rfl (lv_at hl 0 rfl) ?_
        refine lv_iload_n hx hb dX10_falls_30 rfl (lv_at hl 2 rfl) ?_
        refine x_callVi (As := [.int fallen]) S hK hAm hD hP hS mt_X10_banksInNeed wd_376 ⟨by decide, by decide⟩ (hL 0 0 (xe_0 nb nn)) (xc0 g 0) rfl (c_X10_banksInNeed l nb nn g L M hD hL fallen (ob_X10_falls_31_p0 nb nn what M hp0 n fallen rounds rnd hmu hinv c_1)) rfl hl.1 (Nat.le_of_ble_eq_true rfl) ⟨Nat.zero_le _, Nat.zero_le _⟩ dX10_falls_31 rfl (fun r_2 u H locs hp_ hP hS => ?_)
        obtain ⟨er_2, eu_⟩ := hp_
        rw [eu_] at hP
        clear eu_
        replace hres := xlet_n hres er_2
        refine lv_ior hx hb dX10_falls_34 ?_
        refine lv_topi (fun x5_3 ex5_3 => ?_)
        replace hres := xlet_n hres ex5_3
        refine lv_istore (lv' := [(5, .int x5_3), (0, .ref (xad g 0 0)), (1, .int what), (2, .int fallen), (3, .int rounds), (4, .int rnd)]) hx hb dX10_falls_35 hl (by decide) rfl (fun ls hl => ?_)
        refine lv_iload hx hb dX10_falls_37 (lv_at hl 0 rfl) ?_
        refine lv_iload_n hx hb dX10_falls_39 rfl (lv_at hl 3 rfl) ?_
        refine lv_icmp_ne (tgt := 46) hx hb dX10_falls_40 (by decide) (fun c_4 => ?_) (fun c_4 => ?_)
        · replace hres := hres.trans (if_neg c_4)
          refine lv_iload hx hb dX10_falls_46 (lv_at hl 0 rfl) ?_
          refine lv_istore_n (lv' := [(2, .int x5_3), (5, .int x5_3), (0, .ref (xad g 0 0)), (1, .int what), (3, .int rounds), (4, .int rnd)]) hx hb dX10_falls_48 rfl hl (by decide) rfl (fun ls hl => ?_)
          obtain ⟨x3_5, ex3_5⟩ : ∃ z_ : Int32, z_ = rounds + 1 := ⟨_, rfl⟩
          replace hres := xlet_n hres ex3_5
          refine lv_iinc (v := x3_5) (lv' := [(3, .int x3_5), (2, .int x5_3), (5, .int x5_3), (0, .ref (xad g 0 0)), (1, .int what), (4, .int rnd)]) hx hb dX10_falls_49 hl (k := 4) rfl (by rw [ex3_5]; rfl) (by decide) rfl (fun ls hl => ?_)
          obtain ⟨x4_6, ex4_6⟩ : ∃ z_ : Int32, z_ = rnd + 1 := ⟨_, rfl⟩
          replace hres := xlet_n hres ex4_6
          refine lv_iinc (v := x4_6) (lv' := [(4, .int x4_6), (3, .int x3_5), (2, .int x5_3), (5, .int x5_3), (0, .ref (xad g 0 0)), (1, .int what)]) hx hb dX10_falls_52 hl (k := 5) rfl (by rw [ex4_6]; rfl) (by decide) rfl (fun ls hl => ?_)
          refine lv_goto (tgt := 21) hx hb dX10_falls_55 (by decide) ?_
          exact ih x5_3 x3_5 x4_6 _ _ _ kx (ob_X10_falls_21_mu_6 nb nn what M hp0 n fallen rounds rnd hmu hinv c_1 r_2 er_2 x5_3 ex5_3 c_4 x3_5 ex3_5 x4_6 ex4_6) trivial hres hP hS (lv_sub hl [4, 5, 2, 1, 0] rfl) hex
        · replace hres := hres.trans (if_pos c_4)
          refine lv_goto (tgt := 58) hx hb dX10_falls_43 (by decide) ?_
          exact hex fallen rounds rnd _ _ _ trivial hres hP hS (lv_sub hl [1, 2, 3, 4, 5] rfl)
  have hres := hF
  rw [f_X10_falls] at hres
  refine lv_iload_n hx hb dX10_falls_0 rfl (lv_at hl 1 rfl) ?_
  refine lv_iconst (v := 1) hx hb dX10_falls_1 (by decide) ?_
  refine x_callSi (As := [.int what, .int 1]) S hK hAm hD hP hS mt_X10_isUpTo wd_179 ⟨by decide, by decide⟩ (c_X10_isUpTo l nb nn g L M hD hL what 1) rfl hl.1 (Nat.le_of_ble_eq_true rfl) ⟨Nat.zero_le _, Nat.zero_le _⟩ dX10_falls_2 rfl (fun r_7 u H locs hp_ hP hS => ?_)
  obtain ⟨er_7, eu_⟩ := hp_
  rw [eu_] at hP
  clear eu_
  replace hres := xlet_n hres er_7
  refine lv_if_ne (tgt := 11) hx hb dX10_falls_5 (by decide) (fun c_8 => ?_) (fun c_8 => ?_)
  · replace hres := hres.trans (if_neg c_8)
    refine lv_aload_n hx hb dX10_falls_11 rfl (lv_at hl 0 rfl) ?_
    refine x_callVi (As := []) S hK hAm hD hP hS mt_X10_shutBanks wd_372 ⟨by decide, by decide⟩ (hL 0 0 (xe_0 nb nn)) (xc0 g 0) rfl (c_X10_shutBanks l nb nn g L M hD hL  (ob_X10_falls_12_p0 nb nn what M hp0 r_7 er_7 c_8)) rfl hl.1 (Nat.le_of_ble_eq_true rfl) ⟨Nat.zero_le _, Nat.zero_le _⟩ dX10_falls_12 rfl (fun r_9 u H locs hp_ hP hS => ?_)
    obtain ⟨er_9, eu_⟩ := hp_
    rw [eu_] at hP
    clear eu_
    replace hres := xlet_n hres er_9
    refine lv_istore_n (lv' := [(2, .int r_9), (0, .ref (xad g 0 0)), (1, .int what)]) hx hb dX10_falls_15 rfl hl (by decide) rfl (fun ls hl => ?_)
    refine lv_iconst (v := 0) hx hb dX10_falls_16 (by decide) ?_
    refine lv_istore_n (lv' := [(3, .int 0), (2, .int r_9), (0, .ref (xad g 0 0)), (1, .int what)]) hx hb dX10_falls_17 rfl hl (by decide) rfl (fun ls hl => ?_)
    refine lv_iconst (v := 0) hx hb dX10_falls_18 (by decide) ?_
    refine lv_istore (lv' := [(4, .int 0), (3, .int 0), (2, .int r_9), (0, .ref (xad g 0 0)), (1, .int what)]) hx hb dX10_falls_19 hl (by decide) rfl (fun ls hl => ?_)
    refine k_21 (xmu (0 : Int32) 8 + 1) r_9 (0 : Int32) (0 : Int32) _ _ _ _ (Nat.lt_succ_self _) trivial hres hP hS (lv_sub hl [3, 4, 2, 1, 0] rfl) ?_
    clear hres hP hS hl
    intro fallen_10 rounds_11 rnd_12 H locs ls hiv_12 hres hP hS hl
    refine lv_iload_n hx hb dX10_falls_58 rfl (lv_at hl 1 rfl) ?_
    refine lv_if_ne (tgt := 66) hx hb dX10_falls_59 (by decide) (fun c_13 => ?_) (fun c_13 => ?_)
    · replace hres := hres.trans (if_neg c_13)
      refine lv_iload_n hx hb dX10_falls_66 rfl (lv_at hl 3 rfl) ?_
      exact x_reti hx hb hr hlk hP hS ⟨hres.symm.trans hF, rfl⟩ dX10_falls_67
    · replace hres := hres.trans (if_pos c_13)
      refine lv_iload_n hx hb dX10_falls_62 rfl (lv_at hl 2 rfl) ?_
      refine lv_goto (tgt := 67) hx hb dX10_falls_63 (by decide) ?_
      exact x_reti hx hb hr hlk hP hS ⟨hres.symm.trans hF, rfl⟩ dX10_falls_67
  · replace hres := hres.trans (if_pos c_8)
    refine lv_ldc (own := RX10) (v := (-1000001)) hx hb hown (hts _ (List.mem_cons_of_mem _ wd_174)) dX10_falls_8 ?_
    exact x_reti hx hb hr hlk hP hS ⟨hres.symm.trans hF, rfl⟩ dX10_falls_10
set_option maxHeartbeats 4000000 in
set_option maxRecDepth 100000 in
theorem c_X10_week (l : Launch) (nb nn : Nat) (g : xG) (L : List (Nat × Nat)) (M : xM) (hD : xD g L) (hL : xEL nb nn L) (w : Int32)  : xCi l yX10_week cX10_week 3 (some .int) 0 g L M [.ref (xad g 0 0), .int w] (fun r u => (r, u) = f_X10_week w M) := by
  intro sz
  refine x_beg (by decide +kernel) rfl ?_
  intro p e s m args below meth c ls hsz hB
  subst hsz
  obtain ⟨hx, hb, hml, hown, hts, hr, hlk, hK, hAm, hP, hl⟩ := hB
  have S : CallFix p m c cX10_week 3 s args (xws yX10_week cX10_week 3 (some .int)) RX10 := ⟨hx, hb, hml, hown, hts⟩
  have hown : s.vm.findClass RX10 = some m.cls := hown
  have hl : lv_has ls 3 [(0, .ref (xad g 0 0)), (1, .int w)] := hl
  have hS : va_S (xA g L s.heap.size) s.heap s.heap [] := va_S.rf
  obtain ⟨F, hF⟩ : ∃ F, F = f_X10_week w M := ⟨_, rfl⟩
  have hres := hF
  rw [f_X10_week] at hres
  refine lv_iload_n hx hb dX10_week_0 rfl (lv_at hl 1 rfl) ?_
  refine lv_aload_n hx hb dX10_week_1 rfl (lv_at hl 0 rfl) ?_
  refine gf_RX10_91 hx hb hts hown hK hP (hL 0 0 (xe_0 nb nn)) dX10_week_2 ?_
  refine lv_icmp_lt (tgt := 15) hx hb dX10_week_5 (by decide) (fun c_1 => ?_) (fun c_1 => ?_)
  · replace hres := hres.trans (if_pos c_1)
    refine lv_ldc (own := RX10) (v := (-1000001)) hx hb hown (hts _ (List.mem_cons_of_mem _ wd_174)) dX10_week_15 ?_
    exact x_reti hx hb hr hlk hP hS (hres.symm.trans hF) dX10_week_17
  · replace hres := hres.trans (if_neg c_1)
    refine lv_iload_n hx hb dX10_week_8 rfl (lv_at hl 1 rfl) ?_
    refine lv_sipush (v := 299) hx hb dX10_week_9 (by decide) ?_
    refine lv_icmp_le (tgt := 18) hx hb dX10_week_12 (by decide) (fun c_2 => ?_) (fun c_2 => ?_)
    · replace hres := hres.trans (if_pos c_2)
      refine lv_aload_n hx hb dX10_week_18 rfl (lv_at hl 0 rfl) ?_
      refine gf_RX10_91 hx hb hts hown hK hP (hL 0 0 (xe_0 nb nn)) dX10_week_19 ?_
      refine lv_topi (fun x2_3 ex2_3 => ?_)
      replace hres := xlet_n hres ex2_3
      refine lv_istore_n (lv' := [(2, .int x2_3), (0, .ref (xad g 0 0)), (1, .int w)]) hx hb dX10_week_22 rfl hl (by decide) rfl (fun ls hl => ?_)
      refine lv_aload_n hx hb dX10_week_23 rfl (lv_at hl 1 rfl) ?_
      refine lv_iload_n hx hb dX10_week_24 rfl (lv_at hl 2 rfl) ?_
      refine pf_RX10_91 hx hb hts hown hK hP hD hS (hL 0 0 (xe_0 nb nn)) dX10_week_25 (fun H locs hP hS => ?_)
      obtain ⟨M_4, eM_4⟩ : ∃ z_ : xM, z_ = xup M 0 0 14 w := ⟨_, rfl⟩
      rw [← eM_4] at hP
      replace hres := xlet_n hres eM_4
      refine lv_iload_n hx hb dX10_week_28 rfl (lv_at hl 0 rfl) ?_
      exact x_reti hx hb hr hlk hP hS (hres.symm.trans hF) dX10_week_29
    · replace hres := hres.trans (if_neg c_2)
      refine lv_ldc (own := RX10) (v := (-1000001)) hx hb hown (hts _ (List.mem_cons_of_mem _ wd_174)) dX10_week_15 ?_
      exact x_reti hx hb hr hlk hP hS (hres.symm.trans hF) dX10_week_17
set_option maxHeartbeats 4000000 in
set_option maxRecDepth 100000 in
theorem c_X10_feed (l : Launch) (nb nn : Nat) (g : xG) (L : List (Nat × Nat)) (M : xM) (hD : xD g L) (hL : xEL nb nn L) (wd : Int64) (z : Int32) (hp0 : 0 ≤ M 5 0 2) : xCi l yX10_feed cX10_feed 4 (some .int) 1 g L M [.ref (xad g 0 0), .long wd, .int z] (fun r u => (r, u) = f_X10_feed wd z M) := by
  intro sz
  refine x_beg (by decide +kernel) rfl ?_
  intro p e s m args below meth c ls hsz hB
  subst hsz
  obtain ⟨hx, hb, hml, hown, hts, hr, hlk, hK, hAm, hP, hl⟩ := hB
  have S : CallFix p m c cX10_feed 4 s args (xws yX10_feed cX10_feed 4 (some .int)) RX10 := ⟨hx, hb, hml, hown, hts⟩
  have hown : s.vm.findClass RX10 = some m.cls := hown
  have hl : lv_has ls 4 [(0, .ref (xad g 0 0)), (1, .long wd), (3, .int z)] := hl
  have hS : va_S (xA g L s.heap.size) s.heap s.heap [] := va_S.rf
  obtain ⟨F, hF⟩ : ∃ F, F = f_X10_feed wd z M := ⟨_, rfl⟩
  have hres := hF
  rw [f_X10_feed] at hres
  refine lv_iload_n hx hb dX10_feed_0 rfl (lv_at hl 2 rfl) ?_
  refine lv_iconst (v := 1) hx hb dX10_feed_1 (by decide) ?_
  refine lv_icmp_lt (tgt := 11) hx hb dX10_feed_2 (by decide) (fun c_1 => ?_) (fun c_1 => ?_)
  · replace hres := hres.trans (if_pos c_1)
    refine lv_ldc (own := RX10) (v := (-1000001)) hx hb hown (hts _ (List.mem_cons_of_mem _ wd_174)) dX10_feed_11 ?_
    exact x_reti hx hb hr hlk hP hS (hres.symm.trans hF) dX10_feed_13
  · replace hres := hres.trans (if_neg c_1)
    refine lv_iload_n hx hb dX10_feed_5 rfl (lv_at hl 2 rfl) ?_
    refine lv_bipush (v := 8) hx hb dX10_feed_6 (by decide) ?_
    refine lv_icmp_le (tgt := 14) hx hb dX10_feed_8 (by decide) (fun c_2 => ?_) (fun c_2 => ?_)
    · replace hres := hres.trans (if_pos c_2)
      refine lv_aload_n hx hb dX10_feed_14 rfl (lv_at hl 0 rfl) ?_
      refine gf_RX10_38 hx hb hts hown hK hP (hL 0 0 (xe_0 nb nn)) dX10_feed_15 ?_
      refine lv_iload_n hx hb dX10_feed_18 rfl (lv_at hl 2 rfl) ?_
      refine x_callVi (As := [.int z]) S hK hAm hD hP hS mt_X7_hasRoom wd_403 ⟨by decide, by decide⟩ (hL 5 0 (xe_5 nb nn)) (xc5 g 0) rfl (c_X7_hasRoom l nb nn g L M hD hL z) rfl hl.1 (Nat.le_of_ble_eq_true rfl) ⟨Nat.zero_le _, Nat.zero_le _⟩ dX10_feed_19 rfl (fun r_3 u H locs hp_ hP hS => ?_)
      obtain ⟨er_3, eu_⟩ := hp_
      rw [eu_] at hP
      clear eu_
      replace hres := xlet_n hres er_3
      refine lv_if_ne (tgt := 28) hx hb dX10_feed_22 (by decide) (fun c_4 => ?_) (fun c_4 => ?_)
      · replace hres := hres.trans (if_neg c_4)
        refine lv_aload_n hx hb dX10_feed_28 rfl (lv_at hl 0 rfl) ?_
        refine gf_RX10_38 hx hb hts hown hK hP (hL 0 0 (xe_0 nb nn)) dX10_feed_29 ?_
        refine lv_lload_n hx hb dX10_feed_32 rfl (lv_at hl 1 rfl) ?_
        refine lv_iload_n hx hb dX10_feed_33 rfl (lv_at hl 2 rfl) ?_
        refine x_callVv (As := [.long wd, .int z]) S hK hAm hD hP hS mt_X7_append wd_407 ⟨by decide, by decide⟩ (hL 5 0 (xe_5 nb nn)) (xc5 g 0) rfl (c_X7_append l nb nn g L M hD hL wd z (ob_X10_feed_34_p0 nb nn wd z M hp0 c_1 c_2 r_3 er_3 c_4)) rfl hl.1 (Nat.le_of_ble_eq_true rfl) ⟨Nat.zero_le _, Nat.zero_le _⟩ dX10_feed_34 rfl (fun M_6 H locs eM_6 hP hS => ?_)
        replace hres := xlet_n hres eM_6
        refine lv_aload_n hx hb dX10_feed_37 rfl (lv_at hl 0 rfl) ?_
        refine gf_RX10_38 hx hb hts hown hK hP (hL 0 0 (xe_0 nb nn)) dX10_feed_38 ?_
        refine gf_RX10_209 hx hb hts hown hK hP (hL 5 0 (xe_5 nb nn)) dX10_feed_41 ?_
        exact x_reti hx hb hr hlk hP hS (hres.symm.trans hF) dX10_feed_44
      · replace hres := hres.trans (if_pos c_4)
        refine lv_ldc (own := RX10) (v := (-1000003)) hx hb hown (hts _ (List.mem_cons_of_mem _ wd_308)) dX10_feed_25 ?_
        exact x_reti hx hb hr hlk hP hS (hres.symm.trans hF) dX10_feed_27
    · replace hres := hres.trans (if_neg c_2)
      refine lv_ldc (own := RX10) (v := (-1000001)) hx hb hown (hts _ (List.mem_cons_of_mem _ wd_174)) dX10_feed_11 ?_
      exact x_reti hx hb hr hlk hP hS (hres.symm.trans hF) dX10_feed_13
set_option maxHeartbeats 4000000 in
set_option maxRecDepth 100000 in
theorem c_X10_fault (l : Launch) (nb nn : Nat) (g : xG) (L : List (Nat × Nat)) (M : xM) (hD : xD g L) (hL : xEL nb nn L)   : xCi l yX10_fault cX10_fault 1 (some .int) 0 g L M [.ref (xad g 0 0)] (fun r u => r = f_X10_fault  M ∧ u = M) := by
  intro sz
  refine x_beg (by decide +kernel) rfl ?_
  intro p e s m args below meth c ls hsz hB
  subst hsz
  obtain ⟨hx, hb, hml, hown, hts, hr, hlk, hK, hAm, hP, hl⟩ := hB
  have S : CallFix p m c cX10_fault 1 s args (xws yX10_fault cX10_fault 1 (some .int)) RX10 := ⟨hx, hb, hml, hown, hts⟩
  have hown : s.vm.findClass RX10 = some m.cls := hown
  have hl : lv_has ls 1 [(0, .ref (xad g 0 0))] := hl
  have hS : va_S (xA g L s.heap.size) s.heap s.heap [] := va_S.rf
  obtain ⟨F, hF⟩ : ∃ F, F = f_X10_fault  M := ⟨_, rfl⟩
  have hres := hF
  rw [f_X10_fault] at hres
  refine lv_aload_n hx hb dX10_fault_0 rfl (lv_at hl 0 rfl) ?_
  refine gf_RX10_94 hx hb hts hown hK hP (hL 0 0 (xe_0 nb nn)) dX10_fault_1 ?_
  exact x_reti hx hb hr hlk hP hS ⟨hres.symm.trans hF, rfl⟩ dX10_fault_4
set_option maxHeartbeats 4000000 in
set_option maxRecDepth 100000 in
theorem c_X10_newestBook (l : Launch) (nb nn : Nat) (g : xG) (L : List (Nat × Nat)) (M : xM) (hD : xD g L) (hL : xEL nb nn L) (town : Int32) (w : Int32) (hp0 : 0 ≤ town) (hp1 : town ≤ 5) : xCi l yX10_newestBook cX10_newestBook 4 (some .int) 1 g L M [.ref (xad g 0 0), .int town, .int w] (fun r u => r = f_X10_newestBook town w M ∧ u = M) := by
  intro sz
  refine x_beg (by decide +kernel) rfl ?_
  intro p e s m args below meth c ls hsz hB
  subst hsz
  obtain ⟨hx, hb, hml, hown, hts, hr, hlk, hK, hAm, hP, hl⟩ := hB
  have S : CallFix p m c cX10_newestBook 4 s args (xws yX10_newestBook cX10_newestBook 4 (some .int)) RX10 := ⟨hx, hb, hml, hown, hts⟩
  have hown : s.vm.findClass RX10 = some m.cls := hown
  have hl : lv_has ls 4 [(0, .ref (xad g 0 0)), (1, .int town), (2, .int w)] := hl
  have hS : va_S (xA g L s.heap.size) s.heap s.heap [] := va_S.rf
  obtain ⟨F, hF⟩ : ∃ F, F = f_X10_newestBook town w M := ⟨_, rfl⟩
  have hres := hF
  rw [f_X10_newestBook] at hres
  refine lv_aload_n hx hb dX10_newestBook_0 rfl (lv_at hl 0 rfl) ?_
  refine gf_RX10_18 hx hb hts hown hK hP (hL 0 0 (xe_0 nb nn)) dX10_newestBook_1 ?_
  refine lv_iconst (v := 0) hx hb dX10_newestBook_4 (by decide) ?_
  refine lv_iload_n hx hb dX10_newestBook_5 rfl (lv_at hl 1 rfl) ?_
  refine x_callVi (As := [.int 0, .int town]) S hK hAm hD hP hS mt_X5_fewestMiles wd_289 ⟨by decide, by decide⟩ (hL 2 0 (xe_2 nb nn)) (xc2 g 0) rfl (c_X5_fewestMiles l nb nn g L M hD (hL 2 0 (xe_2 nb nn)) (hL 13 0 (xe_13 nb nn)) (hL 14 0 (xe_14 nb nn)) 0 town (ob_X10_newestBook_6_p0 nb nn town w M hp0 hp1) (ob_X10_newestBook_6_p1 nb nn town w M hp0 hp1) (ob_X10_newestBook_6_p2 nb nn town w M hp0 hp1) (ob_X10_newestBook_6_p3 nb nn town w M hp0 hp1)) rfl hl.1 (Nat.le_of_ble_eq_true rfl) ⟨Nat.zero_le _, Nat.zero_le _⟩ dX10_newestBook_6 rfl (fun r_1 u H locs hp_ hP hS => ?_)
  obtain ⟨er_1, eu_⟩ := hp_
  rw [eu_] at hP
  clear eu_
  replace hres := xlet_n hres er_1
  refine lv_istore_n (lv' := [(3, .int r_1), (0, .ref (xad g 0 0)), (1, .int town), (2, .int w)]) hx hb dX10_newestBook_9 rfl hl (by decide) rfl (fun ls hl => ?_)
  refine lv_iload_n hx hb dX10_newestBook_10 rfl (lv_at hl 0 rfl) ?_
  refine lv_ldcw (own := RX10) (v := (-1000000)) hx hb hown (hts _ (List.mem_cons_of_mem _ wd_629)) dX10_newestBook_11 ?_
  refine lv_icmp_ne (tgt := 21) hx hb dX10_newestBook_14 (by decide) (fun c_2 => ?_) (fun c_2 => ?_)
  · replace hres := hres.trans (if_neg c_2)
    refine lv_iload_n hx hb dX10_newestBook_21 rfl (lv_at hl 3 rfl) ?_
    refine lv_iload_n hx hb dX10_newestBook_22 rfl (lv_at hl 0 rfl) ?_
    refine lv_bipush (v := 100) hx hb dX10_newestBook_23 (by decide) ?_
    refine lv_idiv hx hb dX10_newestBook_25 (by decide) ?_
    refine lv_isub hx hb dX10_newestBook_26 ?_
    exact x_reti hx hb hr hlk hP hS ⟨hres.symm.trans hF, rfl⟩ dX10_newestBook_27
  · replace hres := hres.trans (if_pos c_2)
    refine lv_iconst (v := (-1)) hx hb dX10_newestBook_17 (by decide) ?_
    refine lv_goto (tgt := 27) hx hb dX10_newestBook_18 (by decide) ?_
    exact x_reti hx hb hr hlk hP hS ⟨hres.symm.trans hF, rfl⟩ dX10_newestBook_27
set_option maxHeartbeats 4000000 in
set_option maxRecDepth 100000 in
theorem c_X10_known (l : Launch) (nb nn : Nat) (g : xG) (L : List (Nat × Nat)) (M : xM) (hD : xD g L) (hL : xEL nb nn L) (town : Int32) (w : Int32) (bk : Int32) (what : Int32) (hp0 : xHB nb M) (hp1 : M 4 0 4 ≤ 40) : xCi l yX10_known cX10_known 6 (some .int) 3 g L M [.ref (xad g 0 0), .int town, .int w, .int bk, .int what] (fun r u => r = f_X10_known town w bk what M ∧ u = M) := by
  intro sz
  refine x_beg (by decide +kernel) rfl ?_
  intro p e s m args below meth c ls hsz hB
  subst hsz
  obtain ⟨hx, hb, hml, hown, hts, hr, hlk, hK, hAm, hP, hl⟩ := hB
  have S : CallFix p m c cX10_known 6 s args (xws yX10_known cX10_known 6 (some .int)) RX10 := ⟨hx, hb, hml, hown, hts⟩
  have hown : s.vm.findClass RX10 = some m.cls := hown
  have hl : lv_has ls 6 [(0, .ref (xad g 0 0)), (1, .int town), (2, .int w), (3, .int bk), (4, .int what)] := hl
  have hS : va_S (xA g L s.heap.size) s.heap s.heap [] := va_S.rf
  obtain ⟨F, hF⟩ : ∃ F, F = f_X10_known town w bk what M := ⟨_, rfl⟩
  have hres := hF
  rw [f_X10_known] at hres
  refine lv_iload_n hx hb dX10_known_0 rfl (lv_at hl 1 rfl) ?_
  refine x_callSi (As := [.int town]) S hK hAm hD hP hS mt_X10_isTown wd_268 ⟨by decide, by decide⟩ (c_X10_isTown l nb nn g L M hD hL town) rfl hl.1 (Nat.le_of_ble_eq_true rfl) ⟨Nat.zero_le _, Nat.zero_le _⟩ dX10_known_1 rfl (fun r_1 u H locs hp_ hP hS => ?_)
  obtain ⟨er_1, eu_⟩ := hp_
  rw [eu_] at hP
  clear eu_
  replace hres := xlet_n hres er_1
  refine lv_if_eq (tgt := 25) hx hb dX10_known_4 (by decide) (fun c_2 => ?_) (fun c_2 => ?_)
  · replace hres := hres.trans (if_pos c_2)
    refine lv_ldc (own := RX10) (v := (-1000001)) hx hb hown (hts _ (List.mem_cons_of_mem _ wd_174)) dX10_known_25 ?_
    exact x_reti hx hb hr hlk hP hS ⟨hres.symm.trans hF, rfl⟩ dX10_known_27
  · replace hres := hres.trans (if_neg c_2)
    refine lv_iload_n hx hb dX10_known_7 rfl (lv_at hl 2 rfl) ?_
    refine lv_sipush (v := 299) hx hb dX10_known_8 (by decide) ?_
    refine x_callSi (As := [.int w, .int 299]) S hK hAm hD hP hS mt_X10_isUpTo wd_179 ⟨by decide, by decide⟩ (c_X10_isUpTo l nb nn g L M hD hL w 299) rfl hl.1 (Nat.le_of_ble_eq_true rfl) ⟨Nat.zero_le _, Nat.zero_le _⟩ dX10_known_11 rfl (fun r_3 u H locs hp_ hP hS => ?_)
    obtain ⟨er_3, eu_⟩ := hp_
    rw [eu_] at hP
    clear eu_
    replace hres := xlet_n hres er_3
    refine lv_if_eq (tgt := 25) hx hb dX10_known_14 (by decide) (fun c_4 => ?_) (fun c_4 => ?_)
    · replace hres := hres.trans (if_pos c_4)
      refine lv_ldc (own := RX10) (v := (-1000001)) hx hb hown (hts _ (List.mem_cons_of_mem _ wd_174)) dX10_known_25 ?_
      exact x_reti hx hb hr hlk hP hS ⟨hres.symm.trans hF, rfl⟩ dX10_known_27
    · replace hres := hres.trans (if_neg c_4)
      refine lv_aload_n hx hb dX10_known_17 rfl (lv_at hl 0 rfl) ?_
      refine lv_iload_n hx hb dX10_known_18 rfl (lv_at hl 3 rfl) ?_
      refine x_callVq (As := [.int bk]) S hK hAm hD hP hS mt_X10_bankOf wd_338 ⟨by decide, by decide⟩ (hL 0 0 (xe_0 nb nn)) (xc0 g 0) rfl (c_X10_bankOf l nb nn g L M hD hL bk (ob_X10_known_19_p0 nb nn town w bk what M hp0 hp1 r_1 er_1 c_2 r_3 er_3 c_4)) rfl hl.1 (Nat.le_of_ble_eq_true rfl) ⟨Nat.zero_le _, Nat.zero_le _⟩ dX10_known_19 rfl (fun r_5 u H locs hp_ hP hS => ?_)
      obtain ⟨hp_, eu_⟩ := hp_
      rw [eu_] at hP
      clear eu_
      subst hp_
      rcases o_7 : f_X10_bankOf bk M with _ | i_6
      · replace hres := xopt_n hres o_7
        refine lv_ifnonnullN hx hb dX10_known_22 ?_
        refine lv_ldc (own := RX10) (v := (-1000001)) hx hb hown (hts _ (List.mem_cons_of_mem _ wd_174)) dX10_known_25 ?_
        exact x_reti hx hb hr hlk hP hS ⟨hres.symm.trans hF, rfl⟩ dX10_known_27
      · replace hres := xopt_s hres o_7
        have hq_9 := (ob_X10_known_19_q nb nn town w bk what M hp0 hp1 r_1 er_1 c_2 r_3 er_3 c_4 i_6 o_7)
        have hi_8 := hq_9.1
        refine lv_ifnonnull (tgt := 28) hx hb dX10_known_22 (by decide) ?_
        refine lv_aload_n hx hb dX10_known_28 rfl (lv_at hl 0 rfl) ?_
        refine lv_iload_n hx hb dX10_known_29 rfl (lv_at hl 1 rfl) ?_
        refine lv_iload_n hx hb dX10_known_30 rfl (lv_at hl 2 rfl) ?_
        refine x_callVi (As := [.int town, .int w]) S hK hAm hD hP hS mt_X10_newestBook wd_625 ⟨by decide, by decide⟩ (hL 0 0 (xe_0 nb nn)) (xc0 g 0) rfl (c_X10_newestBook l nb nn g L M hD hL town w (ob_X10_known_31_p0 nb nn town w bk what M hp0 hp1 r_1 er_1 c_2 r_3 er_3 c_4 i_6 o_7 hq_9 hi_8) (ob_X10_known_31_p1 nb nn town w bk what M hp0 hp1 r_1 er_1 c_2 r_3 er_3 c_4 i_6 o_7 hq_9 hi_8)) rfl hl.1 (Nat.le_of_ble_eq_true rfl) ⟨Nat.zero_le _, Nat.zero_le _⟩ dX10_known_31 rfl (fun r_10 u H locs hp_ hP hS => ?_)
        obtain ⟨er_10, eu_⟩ := hp_
        rw [eu_] at hP
        clear eu_
        replace hres := xlet_n hres er_10
        refine lv_istore (lv' := [(5, .int r_10), (0, .ref (xad g 0 0)), (1, .int town), (2, .int w), (3, .int bk), (4, .int what)]) hx hb dX10_known_34 hl (by decide) rfl (fun ls hl => ?_)
        refine lv_iload hx hb dX10_known_36 (lv_at hl 5 rfl) ?_
        by_cases c_11 : what = 0
        · replace hres := hres.trans (if_pos c_11)
          refine lv_tableIn (off := 26) (tgt := 64) hx hb dX10_known_38 (by rw [c_11]; decide) (by rw [c_11]; decide) (by rw [c_11]; rfl) (by decide) ?_
          refine lv_aload_n hx hb dX10_known_64 rfl (lv_at hl 1 rfl) ?_
          refine gf_RX10_31 hx hb hts hown hK hP (hL 0 0 (xe_0 nb nn)) dX10_known_65 ?_
          refine lv_iload_n hx hb dX10_known_68 rfl (lv_at hl 4 rfl) ?_
          refine lv_iload hx hb dX10_known_69 (lv_at hl 0 rfl) ?_
          refine x_callVi (As := [.int bk, .int r_10]) S hK hAm hD hP hS mt_X2_off wd_630 ⟨by decide, by decide⟩ (hL 4 0 (xe_4 nb nn)) (xc4 g 0) rfl (c_X2_off l nb nn g L M hD hL bk r_10 (ob_X10_known_71_p0 nb nn town w bk what M hp0 hp1 r_1 er_1 c_2 r_3 er_3 c_4 i_6 o_7 hq_9 hi_8 r_10 er_10 c_11)) rfl hl.1 (Nat.le_of_ble_eq_true rfl) ⟨Nat.zero_le _, Nat.zero_le _⟩ dX10_known_71 rfl (fun r_12 u H locs hp_ hP hS => ?_)
          obtain ⟨er_12, eu_⟩ := hp_
          rw [eu_] at hP
          clear eu_
          replace hres := xlet_n hres er_12
          exact x_reti hx hb hr hlk hP hS ⟨hres.symm.trans hF, rfl⟩ dX10_known_74
        · replace hres := hres.trans (if_neg c_11)
          by_cases c_13 : what = 1
          · replace hres := hres.trans (if_pos c_13)
            refine lv_tableIn (off := 37) (tgt := 75) hx hb dX10_known_38 (by rw [c_13]; decide) (by rw [c_13]; decide) (by rw [c_13]; rfl) (by decide) ?_
            refine lv_aload_n hx hb dX10_known_75 rfl (lv_at hl 1 rfl) ?_
            refine gf_RX10_31 hx hb hts hown hK hP (hL 0 0 (xe_0 nb nn)) dX10_known_76 ?_
            refine lv_iconst (v := 2) hx hb dX10_known_79 (by decide) ?_
            refine lv_iload_n hx hb dX10_known_80 rfl (lv_at hl 4 rfl) ?_
            refine lv_iload hx hb dX10_known_81 (lv_at hl 0 rfl) ?_
            refine x_callVi (As := [.int 2, .int bk, .int r_10]) S hK hAm hD hP hS mt_X2_latest wd_643 ⟨by decide, by decide⟩ (hL 4 0 (xe_4 nb nn)) (xc4 g 0) rfl (c_X2_latest l nb nn g L M hD hL 2 bk r_10 (ob_X10_known_83_p0 nb nn town w bk what M hp0 hp1 r_1 er_1 c_2 r_3 er_3 c_4 i_6 o_7 hq_9 hi_8 r_10 er_10 c_11 c_13)) rfl hl.1 (Nat.le_of_ble_eq_true rfl) ⟨Nat.zero_le _, Nat.zero_le _⟩ dX10_known_83 rfl (fun r_14 u H locs hp_ hP hS => ?_)
            obtain ⟨er_14, eu_⟩ := hp_
            rw [eu_] at hP
            clear eu_
            replace hres := xlet_n hres er_14
            exact x_reti hx hb hr hlk hP hS ⟨hres.symm.trans hF, rfl⟩ dX10_known_86
          · replace hres := hres.trans (if_neg c_13)
            by_cases c_15 : what = 2
            · replace hres := hres.trans (if_pos c_15)
              refine lv_tableIn (off := 49) (tgt := 87) hx hb dX10_known_38 (by rw [c_15]; decide) (by rw [c_15]; decide) (by rw [c_15]; rfl) (by decide) ?_
              refine lv_aload_n hx hb dX10_known_87 rfl (lv_at hl 1 rfl) ?_
              refine gf_RX10_31 hx hb hts hown hK hP (hL 0 0 (xe_0 nb nn)) dX10_known_88 ?_
              refine lv_iload_n hx hb dX10_known_91 rfl (lv_at hl 4 rfl) ?_
              refine lv_iload hx hb dX10_known_92 (lv_at hl 0 rfl) ?_
              refine x_callVi (As := [.int bk, .int r_10]) S hK hAm hD hP hS mt_X2_falsePlates wd_644 ⟨by decide, by decide⟩ (hL 4 0 (xe_4 nb nn)) (xc4 g 0) rfl (c_X2_falsePlates l nb nn g L M hD hL bk r_10 (ob_X10_known_94_p0 nb nn town w bk what M hp0 hp1 r_1 er_1 c_2 r_3 er_3 c_4 i_6 o_7 hq_9 hi_8 r_10 er_10 c_11 c_13 c_15)) rfl hl.1 (Nat.le_of_ble_eq_true rfl) ⟨Nat.zero_le _, Nat.zero_le _⟩ dX10_known_94 rfl (fun r_16 u H locs hp_ hP hS => ?_)
              obtain ⟨er_16, eu_⟩ := hp_
              rw [eu_] at hP
              clear eu_
              replace hres := xlet_n hres er_16
              exact x_reti hx hb hr hlk hP hS ⟨hres.symm.trans hF, rfl⟩ dX10_known_97
            · replace hres := hres.trans (if_neg c_15)
              refine lv_tableOut (tgt := 98) hx hb dX10_known_38 (by have q0 := lv_neT c_11 (show (0 : Int32).toInt = 0 from rfl); have q1 := lv_neT c_13 (show (1 : Int32).toInt = 1 from rfl); have q2 := lv_neT c_15 (show (2 : Int32).toInt = 2 from rfl); omega) (by decide) ?_
              refine lv_ldc (own := RX10) (v := (-1000001)) hx hb hown (hts _ (List.mem_cons_of_mem _ wd_174)) dX10_known_98 ?_
              exact x_reti hx hb hr hlk hP hS ⟨hres.symm.trans hF, rfl⟩ dX10_known_100
set_option maxHeartbeats 4000000 in
set_option maxRecDepth 100000 in
theorem c_X10_told (l : Launch) (nb nn : Nat) (g : xG) (L : List (Nat × Nat)) (M : xM) (hD : xD g L) (hL : xEL nb nn L) (nt : Int32) (what : Int32) (hp0 : xHN nn M) : xCi l yX10_told cX10_told 4 (some .int) 2 g L M [.ref (xad g 0 0), .int nt, .int what] (fun r u => r = f_X10_told nt what M ∧ u = M) := by
  intro sz
  refine x_beg (by decide +kernel) rfl ?_
  intro p e s m args below meth c ls hsz hB
  subst hsz
  obtain ⟨hx, hb, hml, hown, hts, hr, hlk, hK, hAm, hP, hl⟩ := hB
  have S : CallFix p m c cX10_told 4 s args (xws yX10_told cX10_told 4 (some .int)) RX10 := ⟨hx, hb, hml, hown, hts⟩
  have hown : s.vm.findClass RX10 = some m.cls := hown
  have hl : lv_has ls 4 [(0, .ref (xad g 0 0)), (1, .int nt), (2, .int what)] := hl
  have hS : va_S (xA g L s.heap.size) s.heap s.heap [] := va_S.rf
  obtain ⟨F, hF⟩ : ∃ F, F = f_X10_told nt what M := ⟨_, rfl⟩
  have hres := hF
  rw [f_X10_told] at hres
  refine lv_aload_n hx hb dX10_told_0 rfl (lv_at hl 0 rfl) ?_
  refine lv_iload_n hx hb dX10_told_1 rfl (lv_at hl 1 rfl) ?_
  refine x_callVq (As := [.int nt]) S hK hAm hD hP hS mt_X10_noteOf wd_725 ⟨by decide, by decide⟩ (hL 0 0 (xe_0 nb nn)) (xc0 g 0) rfl (c_X10_noteOf l nb nn g L M hD hL nt (ob_X10_told_2_p0 nb nn nt what M hp0)) rfl hl.1 (Nat.le_of_ble_eq_true rfl) ⟨Nat.zero_le _, Nat.zero_le _⟩ dX10_told_2 rfl (fun r_1 u H locs hp_ hP hS => ?_)
  obtain ⟨hp_, eu_⟩ := hp_
  rw [eu_] at hP
  clear eu_
  subst hp_
  rcases o_3 : f_X10_noteOf nt M with _ | i_2
  · replace hres := xopt_n hres o_3
    refine lv_astore_nN (lv' := [(3, .null), (0, .ref (xad g 0 0)), (1, .int nt), (2, .int what)]) hx hb dX10_told_5 rfl hl (by decide) rfl (fun ls hl => ?_)
    refine lv_aload_nN hx hb dX10_told_6 rfl (lv_at hl 0 rfl) ?_
    refine lv_ifnonnullN hx hb dX10_told_7 ?_
    refine lv_ldc (own := RX10) (v := (-1000001)) hx hb hown (hts _ (List.mem_cons_of_mem _ wd_174)) dX10_told_10 ?_
    exact x_reti hx hb hr hlk hP hS ⟨hres.symm.trans hF, rfl⟩ dX10_told_12
  · replace hres := xopt_s hres o_3
    have hq_5 := (ob_X10_told_2_q nb nn nt what M hp0 i_2 o_3)
    have hi_4 := hq_5.1
    refine lv_astore_n (lv' := [(3, .ref (xad g 29 i_2)), (0, .ref (xad g 0 0)), (1, .int nt), (2, .int what)]) hx hb dX10_told_5 rfl hl (by decide) rfl (fun ls hl => ?_)
    refine lv_aload_n hx hb dX10_told_6 rfl (lv_at hl 0 rfl) ?_
    refine lv_ifnonnull (tgt := 13) hx hb dX10_told_7 (by decide) ?_
    refine lv_iload_n hx hb dX10_told_13 rfl (lv_at hl 3 rfl) ?_
    by_cases c_6 : what = 0
    · replace hres := hres.trans (if_pos c_6)
      refine lv_tableIn (off := 42) (tgt := 56) hx hb dX10_told_14 (by rw [c_6]; decide) (by rw [c_6]; decide) (by rw [c_6]; rfl) (by decide) ?_
      refine lv_aload_n hx hb dX10_told_56 rfl (lv_at hl 0 rfl) ?_
      refine gf_RX10_250 hx hb hts hown hK hP (hL 29 i_2 hi_4) dX10_told_57 ?_
      exact x_reti hx hb hr hlk hP hS ⟨hres.symm.trans hF, rfl⟩ dX10_told_60
    · replace hres := hres.trans (if_neg c_6)
      by_cases c_7 : what = 1
      · replace hres := hres.trans (if_pos c_7)
        refine lv_tableIn (off := 47) (tgt := 61) hx hb dX10_told_14 (by rw [c_7]; decide) (by rw [c_7]; decide) (by rw [c_7]; rfl) (by decide) ?_
        refine lv_aload_n hx hb dX10_told_61 rfl (lv_at hl 0 rfl) ?_
        refine gf_RX10_253 hx hb hts hown hK hP (hL 29 i_2 hi_4) dX10_told_62 ?_
        exact x_reti hx hb hr hlk hP hS ⟨hres.symm.trans hF, rfl⟩ dX10_told_65
      · replace hres := hres.trans (if_neg c_7)
        by_cases c_8 : what = 2
        · replace hres := hres.trans (if_pos c_8)
          refine lv_tableIn (off := 52) (tgt := 66) hx hb dX10_told_14 (by rw [c_8]; decide) (by rw [c_8]; decide) (by rw [c_8]; rfl) (by decide) ?_
          refine lv_aload_n hx hb dX10_told_66 rfl (lv_at hl 0 rfl) ?_
          refine gf_RX10_256 hx hb hts hown hK hP (hL 29 i_2 hi_4) dX10_told_67 ?_
          exact x_reti hx hb hr hlk hP hS ⟨hres.symm.trans hF, rfl⟩ dX10_told_70
        · replace hres := hres.trans (if_neg c_8)
          by_cases c_9 : what = 3
          · replace hres := hres.trans (if_pos c_9)
            refine lv_tableIn (off := 57) (tgt := 71) hx hb dX10_told_14 (by rw [c_9]; decide) (by rw [c_9]; decide) (by rw [c_9]; rfl) (by decide) ?_
            refine lv_aload_n hx hb dX10_told_71 rfl (lv_at hl 0 rfl) ?_
            refine gf_RX10_259 hx hb hts hown hK hP (hL 29 i_2 hi_4) dX10_told_72 ?_
            exact x_reti hx hb hr hlk hP hS ⟨hres.symm.trans hF, rfl⟩ dX10_told_75
          · replace hres := hres.trans (if_neg c_9)
            by_cases c_10 : what = 4
            · replace hres := hres.trans (if_pos c_10)
              refine lv_tableIn (off := 62) (tgt := 76) hx hb dX10_told_14 (by rw [c_10]; decide) (by rw [c_10]; decide) (by rw [c_10]; rfl) (by decide) ?_
              refine lv_aload_n hx hb dX10_told_76 rfl (lv_at hl 0 rfl) ?_
              refine x_callVi (As := []) S hK hAm hD hP hS mt_X4_holder wd_729 ⟨by decide, by decide⟩ (hL 29 i_2 hi_4) (xc29 g i_2) rfl (c_X4_holder l nb nn g L M hD hL i_2 hi_4) rfl hl.1 (Nat.le_of_ble_eq_true rfl) ⟨Nat.zero_le _, Nat.zero_le _⟩ dX10_told_77 rfl (fun r_11 u H locs hp_ hP hS => ?_)
              obtain ⟨er_11, eu_⟩ := hp_
              rw [eu_] at hP
              clear eu_
              replace hres := xlet_n hres er_11
              exact x_reti hx hb hr hlk hP hS ⟨hres.symm.trans hF, rfl⟩ dX10_told_80
            · replace hres := hres.trans (if_neg c_10)
              by_cases c_12 : what = 5
              · replace hres := hres.trans (if_pos c_12)
                refine lv_tableIn (off := 67) (tgt := 81) hx hb dX10_told_14 (by rw [c_12]; decide) (by rw [c_12]; decide) (by rw [c_12]; rfl) (by decide) ?_
                refine lv_aload_n hx hb dX10_told_81 rfl (lv_at hl 0 rfl) ?_
                refine gf_RX10_265 hx hb hts hown hK hP (hL 29 i_2 hi_4) dX10_told_82 ?_
                refine lv_iconst (v := 1) hx hb dX10_told_85 (by decide) ?_
                refine lv_icmp_ne (tgt := 93) hx hb dX10_told_86 (by decide) (fun c_13 => ?_) (fun c_13 => ?_)
                · replace hres := hres.trans (if_neg c_13)
                  refine lv_iconst (v := 0) hx hb dX10_told_93 (by decide) ?_
                  exact x_reti hx hb hr hlk hP hS ⟨hres.symm.trans hF, rfl⟩ dX10_told_94
                · replace hres := hres.trans (if_pos c_13)
                  refine lv_iconst (v := 1) hx hb dX10_told_89 (by decide) ?_
                  refine lv_goto (tgt := 94) hx hb dX10_told_90 (by decide) ?_
                  exact x_reti hx hb hr hlk hP hS ⟨hres.symm.trans hF, rfl⟩ dX10_told_94
              · replace hres := hres.trans (if_neg c_12)
                by_cases c_14 : what = 6
                · replace hres := hres.trans (if_pos c_14)
                  refine lv_tableIn (off := 81) (tgt := 95) hx hb dX10_told_14 (by rw [c_14]; decide) (by rw [c_14]; decide) (by rw [c_14]; rfl) (by decide) ?_
                  refine lv_aload_n hx hb dX10_told_95 rfl (lv_at hl 0 rfl) ?_
                  refine gf_RX10_265 hx hb hts hown hK hP (hL 29 i_2 hi_4) dX10_told_96 ?_
                  refine lv_iconst (v := 2) hx hb dX10_told_99 (by decide) ?_
                  refine lv_icmp_ne (tgt := 107) hx hb dX10_told_100 (by decide) (fun c_15 => ?_) (fun c_15 => ?_)
                  · replace hres := hres.trans (if_neg c_15)
                    refine lv_iconst (v := 0) hx hb dX10_told_107 (by decide) ?_
                    exact x_reti hx hb hr hlk hP hS ⟨hres.symm.trans hF, rfl⟩ dX10_told_108
                  · replace hres := hres.trans (if_pos c_15)
                    refine lv_iconst (v := 1) hx hb dX10_told_103 (by decide) ?_
                    refine lv_goto (tgt := 108) hx hb dX10_told_104 (by decide) ?_
                    exact x_reti hx hb hr hlk hP hS ⟨hres.symm.trans hF, rfl⟩ dX10_told_108
                · replace hres := hres.trans (if_neg c_14)
                  refine lv_tableOut (tgt := 109) hx hb dX10_told_14 (by have q0 := lv_neT c_6 (show (0 : Int32).toInt = 0 from rfl); have q1 := lv_neT c_7 (show (1 : Int32).toInt = 1 from rfl); have q2 := lv_neT c_8 (show (2 : Int32).toInt = 2 from rfl); have q3 := lv_neT c_9 (show (3 : Int32).toInt = 3 from rfl); have q4 := lv_neT c_10 (show (4 : Int32).toInt = 4 from rfl); have q5 := lv_neT c_12 (show (5 : Int32).toInt = 5 from rfl); have q6 := lv_neT c_14 (show (6 : Int32).toInt = 6 from rfl); omega) (by decide) ?_
                  refine lv_ldc (own := RX10) (v := (-1000001)) hx hb hown (hts _ (List.mem_cons_of_mem _ wd_174)) dX10_told_109 ?_
                  exact x_reti hx hb hr hlk hP hS ⟨hres.symm.trans hF, rfl⟩ dX10_told_111
set_option maxHeartbeats 4000000 in
set_option maxRecDepth 100000 in
theorem c_X10_looks (l : Launch) (nb nn : Nat) (g : xG) (L : List (Nat × Nat)) (M : xM) (hD : xD g L) (hL : xEL nb nn L) (nt : Int32) (town : Int32) (w : Int32) (hp0 : xHN nn M) (hp1 : xHB nb M) (hp2 : M 4 0 4 ≤ 40) : xCi l yX10_looks cX10_looks 6 (some .int) 2 g L M [.ref (xad g 0 0), .int nt, .int town, .int w] (fun r u => r = f_X10_looks nt town w M ∧ u = M) := by
  intro sz
  refine x_beg (by decide +kernel) rfl ?_
  intro p e s m args below meth c ls hsz hB
  subst hsz
  obtain ⟨hx, hb, hml, hown, hts, hr, hlk, hK, hAm, hP, hl⟩ := hB
  have S : CallFix p m c cX10_looks 6 s args (xws yX10_looks cX10_looks 6 (some .int)) RX10 := ⟨hx, hb, hml, hown, hts⟩
  have hown : s.vm.findClass RX10 = some m.cls := hown
  have hl : lv_has ls 6 [(0, .ref (xad g 0 0)), (1, .int nt), (2, .int town), (3, .int w)] := hl
  have hS : va_S (xA g L s.heap.size) s.heap s.heap [] := va_S.rf
  obtain ⟨F, hF⟩ : ∃ F, F = f_X10_looks nt town w M := ⟨_, rfl⟩
  have hres := hF
  rw [f_X10_looks] at hres
  refine lv_aload_n hx hb dX10_looks_0 rfl (lv_at hl 0 rfl) ?_
  refine lv_iload_n hx hb dX10_looks_1 rfl (lv_at hl 1 rfl) ?_
  refine x_callVq (As := [.int nt]) S hK hAm hD hP hS mt_X10_noteOf wd_725 ⟨by decide, by decide⟩ (hL 0 0 (xe_0 nb nn)) (xc0 g 0) rfl (c_X10_noteOf l nb nn g L M hD hL nt (ob_X10_looks_2_p0 nb nn nt town w M hp0 hp1 hp2)) rfl hl.1 (Nat.le_of_ble_eq_true rfl) ⟨Nat.zero_le _, Nat.zero_le _⟩ dX10_looks_2 rfl (fun r_1 u H locs hp_ hP hS => ?_)
  obtain ⟨hp_, eu_⟩ := hp_
  rw [eu_] at hP
  clear eu_
  subst hp_
  rcases o_3 : f_X10_noteOf nt M with _ | i_2
  · replace hres := xopt_n hres o_3
    refine lv_astoreN (lv' := [(4, .null), (0, .ref (xad g 0 0)), (1, .int nt), (2, .int town), (3, .int w)]) hx hb dX10_looks_5 hl (by decide) rfl (fun ls hl => ?_)
    refine lv_aloadN hx hb dX10_looks_7 (lv_at hl 0 rfl) ?_
    refine lv_ifnullN (tgt := 29) hx hb dX10_looks_9 (by decide) ?_
    refine lv_ldc (own := RX10) (v := (-1000001)) hx hb hown (hts _ (List.mem_cons_of_mem _ wd_174)) dX10_looks_29 ?_
    exact x_reti hx hb hr hlk hP hS ⟨hres.symm.trans hF, rfl⟩ dX10_looks_31
  · replace hres := xopt_s hres o_3
    have hq_5 := (ob_X10_looks_2_q nb nn nt town w M hp0 hp1 hp2 i_2 o_3)
    have hi_4 := hq_5.1
    refine lv_astore (lv' := [(4, .ref (xad g 29 i_2)), (0, .ref (xad g 0 0)), (1, .int nt), (2, .int town), (3, .int w)]) hx hb dX10_looks_5 hl (by decide) rfl (fun ls hl => ?_)
    refine lv_aload hx hb dX10_looks_7 (lv_at hl 0 rfl) ?_
    refine lv_ifnull hx hb dX10_looks_9 ?_
    refine lv_iload_n hx hb dX10_looks_12 rfl (lv_at hl 3 rfl) ?_
    refine x_callSi (As := [.int town]) S hK hAm hD hP hS mt_X10_isTown wd_268 ⟨by decide, by decide⟩ (c_X10_isTown l nb nn g L M hD hL town) rfl hl.1 (Nat.le_of_ble_eq_true rfl) ⟨Nat.zero_le _, Nat.zero_le _⟩ dX10_looks_13 rfl (fun r_6 u H locs hp_ hP hS => ?_)
    obtain ⟨er_6, eu_⟩ := hp_
    rw [eu_] at hP
    clear eu_
    replace hres := xlet_n hres er_6
    refine lv_if_eq (tgt := 29) hx hb dX10_looks_16 (by decide) (fun c_7 => ?_) (fun c_7 => ?_)
    · replace hres := hres.trans (if_pos c_7)
      refine lv_ldc (own := RX10) (v := (-1000001)) hx hb hown (hts _ (List.mem_cons_of_mem _ wd_174)) dX10_looks_29 ?_
      exact x_reti hx hb hr hlk hP hS ⟨hres.symm.trans hF, rfl⟩ dX10_looks_31
    · replace hres := hres.trans (if_neg c_7)
      refine lv_iload_n hx hb dX10_looks_19 rfl (lv_at hl 4 rfl) ?_
      refine lv_sipush (v := 299) hx hb dX10_looks_20 (by decide) ?_
      refine x_callSi (As := [.int w, .int 299]) S hK hAm hD hP hS mt_X10_isUpTo wd_179 ⟨by decide, by decide⟩ (c_X10_isUpTo l nb nn g L M hD hL w 299) rfl hl.1 (Nat.le_of_ble_eq_true rfl) ⟨Nat.zero_le _, Nat.zero_le _⟩ dX10_looks_23 rfl (fun r_8 u H locs hp_ hP hS => ?_)
      obtain ⟨er_8, eu_⟩ := hp_
      rw [eu_] at hP
      clear eu_
      replace hres := xlet_n hres er_8
      refine lv_if_ne (tgt := 32) hx hb dX10_looks_26 (by decide) (fun c_9 => ?_) (fun c_9 => ?_)
      · replace hres := hres.trans (if_neg c_9)
        refine lv_aload_n hx hb dX10_looks_32 rfl (lv_at hl 1 rfl) ?_
        refine lv_aload hx hb dX10_looks_33 (lv_at hl 0 rfl) ?_
        refine gf_RX10_250 hx hb hts hown hK hP (hL 29 i_2 hi_4) dX10_looks_35 ?_
        refine x_callVq (As := [.int (M 29 i_2 1)]) S hK hAm hD hP hS mt_X10_bankOf wd_338 ⟨by decide, by decide⟩ (hL 0 0 (xe_0 nb nn)) (xc0 g 0) rfl (c_X10_bankOf l nb nn g L M hD hL (M 29 i_2 1) (ob_X10_looks_38_p0 nb nn nt town w M hp0 hp1 hp2 i_2 o_3 hq_5 hi_4 r_6 er_6 c_7 r_8 er_8 c_9)) rfl hl.1 (Nat.le_of_ble_eq_true rfl) ⟨Nat.zero_le _, Nat.zero_le _⟩ dX10_looks_38 rfl (fun r_10 u H locs hp_ hP hS => ?_)
        obtain ⟨hp_, eu_⟩ := hp_
        rw [eu_] at hP
        clear eu_
        subst hp_
        rcases o_12 : f_X10_bankOf (M 29 i_2 1) M with _ | i_11
        · replace hres := xopt_n hres o_12
          refine lv_astoreN (lv' := [(5, .null), (4, .ref (xad g 29 i_2)), (0, .ref (xad g 0 0)), (1, .int nt), (2, .int town), (3, .int w)]) hx hb dX10_looks_41 hl (by decide) rfl (fun ls hl => ?_)
          refine lv_aloadN hx hb dX10_looks_43 (lv_at hl 0 rfl) ?_
          refine lv_ifnullN (tgt := 61) hx hb dX10_looks_45 (by decide) ?_
          refine lv_iconst (v := 0) hx hb dX10_looks_61 (by decide) ?_
          exact x_reti hx hb hr hlk hP hS ⟨hres.symm.trans hF, rfl⟩ dX10_looks_62
        · replace hres := xopt_s hres o_12
          have hq_14 := (ob_X10_looks_38_q nb nn nt town w M hp0 hp1 hp2 i_2 o_3 hq_5 hi_4 r_6 er_6 c_7 r_8 er_8 c_9 i_11 o_12)
          have hi_13 := hq_14.1
          refine lv_astore (lv' := [(5, .ref (xad g 27 i_11)), (4, .ref (xad g 29 i_2)), (0, .ref (xad g 0 0)), (1, .int nt), (2, .int town), (3, .int w)]) hx hb dX10_looks_41 hl (by decide) rfl (fun ls hl => ?_)
          refine lv_aload hx hb dX10_looks_43 (lv_at hl 0 rfl) ?_
          refine lv_ifnull hx hb dX10_looks_45 ?_
          refine lv_aload hx hb dX10_looks_48 (lv_at hl 1 rfl) ?_
          refine lv_aload hx hb dX10_looks_50 (lv_at hl 0 rfl) ?_
          refine gf_RX10_179 hx hb hts hown hK hP (hL 27 i_11 hi_13) dX10_looks_52 ?_
          refine x_callVi (As := [.int (M 27 i_11 1)]) S hK hAm hD hP hS mt_X4_isUnlike wd_746 ⟨by decide, by decide⟩ (hL 29 i_2 hi_4) (xc29 g i_2) rfl (c_X4_isUnlike l nb nn g L M hD hL i_2 (M 27 i_11 1) hi_4) rfl hl.1 (Nat.le_of_ble_eq_true rfl) ⟨Nat.zero_le _, Nat.zero_le _⟩ dX10_looks_55 rfl (fun r_15 u H locs hp_ hP hS => ?_)
          obtain ⟨er_15, eu_⟩ := hp_
          rw [eu_] at hP
          clear eu_
          replace hres := xlet_n hres er_15
          refine lv_if_eq (tgt := 63) hx hb dX10_looks_58 (by decide) (fun c_16 => ?_) (fun c_16 => ?_)
          · replace hres := hres.trans (if_pos c_16)
            refine lv_aload hx hb dX10_looks_63 (lv_at hl 1 rfl) ?_
            refine gf_RX10_259 hx hb hts hown hK hP (hL 29 i_2 hi_4) dX10_looks_65 ?_
            refine lv_if_eq (tgt := 89) hx hb dX10_looks_68 (by decide) (fun c_17 => ?_) (fun c_17 => ?_)
            · replace hres := hres.trans (if_pos c_17)
              refine lv_iconst (v := 1) hx hb dX10_looks_89 (by decide) ?_
              exact x_reti hx hb hr hlk hP hS ⟨hres.symm.trans hF, rfl⟩ dX10_looks_90
            · replace hres := hres.trans (if_neg c_17)
              refine lv_aload_n hx hb dX10_looks_71 rfl (lv_at hl 2 rfl) ?_
              refine gf_RX10_31 hx hb hts hown hK hP (hL 0 0 (xe_0 nb nn)) dX10_looks_72 ?_
              refine lv_aload hx hb dX10_looks_75 (lv_at hl 1 rfl) ?_
              refine lv_aload_n hx hb dX10_looks_77 rfl (lv_at hl 2 rfl) ?_
              refine lv_iload_n hx hb dX10_looks_78 rfl (lv_at hl 4 rfl) ?_
              refine lv_iload_n hx hb dX10_looks_79 rfl (lv_at hl 5 rfl) ?_
              refine x_callVi (As := [.int town, .int w]) S hK hAm hD hP hS mt_X10_newestBook wd_625 ⟨by decide, by decide⟩ (hL 0 0 (xe_0 nb nn)) (xc0 g 0) rfl (c_X10_newestBook l nb nn g L M hD hL town w (ob_X10_looks_80_p0 nb nn nt town w M hp0 hp1 hp2 i_2 o_3 hq_5 hi_4 r_6 er_6 c_7 r_8 er_8 c_9 i_11 o_12 hq_14 hi_13 r_15 er_15 c_16 c_17) (ob_X10_looks_80_p1 nb nn nt town w M hp0 hp1 hp2 i_2 o_3 hq_5 hi_4 r_6 er_6 c_7 r_8 er_8 c_9 i_11 o_12 hq_14 hi_13 r_15 er_15 c_16 c_17)) rfl hl.1 (Nat.le_of_ble_eq_true rfl) ⟨Nat.zero_le _, Nat.zero_le _⟩ dX10_looks_80 rfl (fun r_18 u H locs hp_ hP hS => ?_)
              obtain ⟨er_18, eu_⟩ := hp_
              rw [eu_] at hP
              clear eu_
              replace hres := xlet_n hres er_18
              refine x_callVi (As := [.ref (xad g 29 i_2), .int r_18]) S hK hAm hD hP hS mt_X2_tellApart wd_750 ⟨by decide, by decide⟩ (hL 4 0 (xe_4 nb nn)) (xc4 g 0) rfl (c_X2_tellApart l nb nn g L M hD hL i_2 r_18 hi_4 (ob_X10_looks_83_p0 nb nn nt town w M hp0 hp1 hp2 i_2 o_3 hq_5 hi_4 r_6 er_6 c_7 r_8 er_8 c_9 i_11 o_12 hq_14 hi_13 r_15 er_15 c_16 c_17 r_18 er_18)) rfl hl.1 (Nat.le_of_ble_eq_true rfl) ⟨Nat.zero_le _, Nat.zero_le _⟩ dX10_looks_83 rfl (fun r_19 u H locs hp_ hP hS => ?_)
              obtain ⟨er_19, eu_⟩ := hp_
              rw [eu_] at hP
              clear eu_
              replace hres := xlet_n hres er_19
              refine lv_if_eq (tgt := 91) hx hb dX10_looks_86 (by decide) (fun c_20 => ?_) (fun c_20 => ?_)
              · replace hres := hres.trans (if_pos c_20)
                refine lv_iconst (v := 2) hx hb dX10_looks_91 (by decide) ?_
                exact x_reti hx hb hr hlk hP hS ⟨hres.symm.trans hF, rfl⟩ dX10_looks_92
              · replace hres := hres.trans (if_neg c_20)
                refine lv_iconst (v := 1) hx hb dX10_looks_89 (by decide) ?_
                exact x_reti hx hb hr hlk hP hS ⟨hres.symm.trans hF, rfl⟩ dX10_looks_90
          · replace hres := hres.trans (if_neg c_16)
            refine lv_iconst (v := 0) hx hb dX10_looks_61 (by decide) ?_
            exact x_reti hx hb hr hlk hP hS ⟨hres.symm.trans hF, rfl⟩ dX10_looks_62
      · replace hres := hres.trans (if_pos c_9)
        refine lv_ldc (own := RX10) (v := (-1000001)) hx hb hown (hts _ (List.mem_cons_of_mem _ wd_174)) dX10_looks_29 ?_
        exact x_reti hx hb hr hlk hP hS ⟨hres.symm.trans hF, rfl⟩ dX10_looks_31
set_option maxHeartbeats 4000000 in
set_option maxRecDepth 100000 in
theorem c_X10_inTheHundred (l : Launch) (nb nn : Nat) (g : xG) (L : List (Nat × Nat)) (M : xM) (hD : xD g L) (hL : xEL nb nn L) (nt : Nat) (town : Int32) (w : Int32) (hnt : nt < nn) (hp0 : xHB nb M) (hp1 : M 4 0 4 ≤ 40) (hp2 : 0 ≤ town) (hp3 : town ≤ 5) (hp4 : ∀ i : Nat, 0 ≤ M 27 i 0 ∧ M 27 i 0 ≤ 5) : xCi l yX10_inTheHundred cX10_inTheHundred 8 (some .int) 3 g L M [.ref (xad g 0 0), .ref (xad g 29 nt), .int town, .int w] (fun r u => r = f_X10_inTheHundred nt town w M ∧ u = M) := by
  intro sz
  refine x_beg (by decide +kernel) rfl ?_
  intro p e s m args below meth c ls hsz hB
  subst hsz
  obtain ⟨hx, hb, hml, hown, hts, hr, hlk, hK, hAm, hP, hl⟩ := hB
  have S : CallFix p m c cX10_inTheHundred 8 s args (xws yX10_inTheHundred cX10_inTheHundred 8 (some .int)) RX10 := ⟨hx, hb, hml, hown, hts⟩
  have hown : s.vm.findClass RX10 = some m.cls := hown
  have hl : lv_has ls 8 [(0, .ref (xad g 0 0)), (1, .ref (xad g 29 nt)), (2, .int town), (3, .int w)] := hl
  have hS : va_S (xA g L s.heap.size) s.heap s.heap [] := va_S.rf
  obtain ⟨F, hF⟩ : ∃ F, F = f_X10_inTheHundred nt town w M := ⟨_, rfl⟩
  have hres := hF
  rw [f_X10_inTheHundred] at hres
  refine lv_aload_n hx hb dX10_inTheHundred_0 rfl (lv_at hl 0 rfl) ?_
  refine lv_aload_n hx hb dX10_inTheHundred_1 rfl (lv_at hl 1 rfl) ?_
  refine gf_RX10_250 hx hb hts hown hK hP (hL 29 nt hnt) dX10_inTheHundred_2 ?_
  refine x_callVq (As := [.int (M 29 nt 1)]) S hK hAm hD hP hS mt_X10_bankOf wd_338 ⟨by decide, by decide⟩ (hL 0 0 (xe_0 nb nn)) (xc0 g 0) rfl (c_X10_bankOf l nb nn g L M hD hL (M 29 nt 1) (ob_X10_inTheHundred_5_p0 nb nn nt town w M hnt hp0 hp1 hp2 hp3 hp4)) rfl hl.1 (Nat.le_of_ble_eq_true rfl) ⟨Nat.zero_le _, Nat.zero_le _⟩ dX10_inTheHundred_5 rfl (fun r_1 u H locs hp_ hP hS => ?_)
  obtain ⟨hp_, eu_⟩ := hp_
  rw [eu_] at hP
  clear eu_
  subst hp_
  rcases o_3 : f_X10_bankOf (M 29 nt 1) M with _ | i_2
  · replace hres := xopt_n hres o_3
    refine lv_astoreN (lv' := [(4, .null), (0, .ref (xad g 0 0)), (1, .ref (xad g 29 nt)), (2, .int town), (3, .int w)]) hx hb dX10_inTheHundred_8 hl (by decide) rfl (fun ls hl => ?_)
    refine lv_aloadN hx hb dX10_inTheHundred_10 (lv_at hl 0 rfl) ?_
    refine lv_ifnullN (tgt := 27) hx hb dX10_inTheHundred_12 (by decide) ?_
    refine lv_iconst (v := 0) hx hb dX10_inTheHundred_27 (by decide) ?_
    exact x_reti hx hb hr hlk hP hS ⟨hres.symm.trans hF, rfl⟩ dX10_inTheHundred_28
  · replace hres := xopt_s hres o_3
    have hq_5 := (ob_X10_inTheHundred_5_q nb nn nt town w M hnt hp0 hp1 hp2 hp3 hp4 i_2 o_3)
    have hi_4 := hq_5.1
    refine lv_astore (lv' := [(4, .ref (xad g 27 i_2)), (0, .ref (xad g 0 0)), (1, .ref (xad g 29 nt)), (2, .int town), (3, .int w)]) hx hb dX10_inTheHundred_8 hl (by decide) rfl (fun ls hl => ?_)
    refine lv_aload hx hb dX10_inTheHundred_10 (lv_at hl 0 rfl) ?_
    refine lv_ifnull hx hb dX10_inTheHundred_12 ?_
    refine lv_aload_n hx hb dX10_inTheHundred_15 rfl (lv_at hl 2 rfl) ?_
    refine lv_aload hx hb dX10_inTheHundred_16 (lv_at hl 0 rfl) ?_
    refine gf_RX10_179 hx hb hts hown hK hP (hL 27 i_2 hi_4) dX10_inTheHundred_18 ?_
    refine x_callVi (As := [.int (M 27 i_2 1)]) S hK hAm hD hP hS mt_X4_isUnlike wd_746 ⟨by decide, by decide⟩ (hL 29 nt hnt) (xc29 g nt) rfl (c_X4_isUnlike l nb nn g L M hD hL nt (M 27 i_2 1) hnt) rfl hl.1 (Nat.le_of_ble_eq_true rfl) ⟨Nat.zero_le _, Nat.zero_le _⟩ dX10_inTheHundred_21 rfl (fun r_6 u H locs hp_ hP hS => ?_)
    obtain ⟨er_6, eu_⟩ := hp_
    rw [eu_] at hP
    clear eu_
    replace hres := xlet_n hres er_6
    refine lv_if_eq (tgt := 29) hx hb dX10_inTheHundred_24 (by decide) (fun c_7 => ?_) (fun c_7 => ?_)
    · replace hres := hres.trans (if_pos c_7)
      refine lv_aload_n hx hb dX10_inTheHundred_29 rfl (lv_at hl 1 rfl) ?_
      refine lv_iload_n hx hb dX10_inTheHundred_30 rfl (lv_at hl 3 rfl) ?_
      refine lv_iload_n hx hb dX10_inTheHundred_31 rfl (lv_at hl 4 rfl) ?_
      refine x_callVi (As := [.int town, .int w]) S hK hAm hD hP hS mt_X10_newestBook wd_625 ⟨by decide, by decide⟩ (hL 0 0 (xe_0 nb nn)) (xc0 g 0) rfl (c_X10_newestBook l nb nn g L M hD hL town w (ob_X10_inTheHundred_32_p0 nb nn nt town w M hnt hp0 hp1 hp2 hp3 hp4 i_2 o_3 hq_5 hi_4 r_6 er_6 c_7) (ob_X10_inTheHundred_32_p1 nb nn nt town w M hnt hp0 hp1 hp2 hp3 hp4 i_2 o_3 hq_5 hi_4 r_6 er_6 c_7)) rfl hl.1 (Nat.le_of_ble_eq_true rfl) ⟨Nat.zero_le _, Nat.zero_le _⟩ dX10_inTheHundred_32 rfl (fun r_8 u H locs hp_ hP hS => ?_)
      obtain ⟨er_8, eu_⟩ := hp_
      rw [eu_] at hP
      clear eu_
      replace hres := xlet_n hres er_8
      refine lv_istore (lv' := [(5, .int r_8), (4, .ref (xad g 27 i_2)), (0, .ref (xad g 0 0)), (1, .ref (xad g 29 nt)), (2, .int town), (3, .int w)]) hx hb dX10_inTheHundred_35 hl (by decide) rfl (fun ls hl => ?_)
      refine lv_aload_n hx hb dX10_inTheHundred_37 rfl (lv_at hl 2 rfl) ?_
      refine gf_RX10_31 hx hb hts hown hK hP (hL 0 0 (xe_0 nb nn)) dX10_inTheHundred_38 ?_
      refine lv_iconst (v := 2) hx hb dX10_inTheHundred_41 (by decide) ?_
      refine lv_aload_n hx hb dX10_inTheHundred_42 rfl (lv_at hl 3 rfl) ?_
      refine gf_RX10_250 hx hb hts hown hK hP (hL 29 nt hnt) dX10_inTheHundred_43 ?_
      refine lv_iload hx hb dX10_inTheHundred_46 (lv_at hl 0 rfl) ?_
      refine x_callVi (As := [.int 2, .int (M 29 nt 1), .int r_8]) S hK hAm hD hP hS mt_X2_latest wd_643 ⟨by decide, by decide⟩ (hL 4 0 (xe_4 nb nn)) (xc4 g 0) rfl (c_X2_latest l nb nn g L M hD hL 2 (M 29 nt 1) r_8 (ob_X10_inTheHundred_48_p0 nb nn nt town w M hnt hp0 hp1 hp2 hp3 hp4 i_2 o_3 hq_5 hi_4 r_6 er_6 c_7 r_8 er_8)) rfl hl.1 (Nat.le_of_ble_eq_true rfl) ⟨Nat.zero_le _, Nat.zero_le _⟩ dX10_inTheHundred_48 rfl (fun r_9 u H locs hp_ hP hS => ?_)
      obtain ⟨er_9, eu_⟩ := hp_
      rw [eu_] at hP
      clear eu_
      replace hres := xlet_n hres er_9
      refine lv_istore (lv' := [(6, .int r_9), (5, .int r_8), (4, .ref (xad g 27 i_2)), (0, .ref (xad g 0 0)), (1, .ref (xad g 29 nt)), (2, .int town), (3, .int w)]) hx hb dX10_inTheHundred_51 hl (by decide) rfl (fun ls hl => ?_)
      refine lv_iload hx hb dX10_inTheHundred_53 (lv_at hl 0 rfl) ?_
      refine lv_ldcw (own := RX10) (v := (-1000000)) hx hb hown (hts _ (List.mem_cons_of_mem _ wd_629)) dX10_inTheHundred_55 ?_
      refine lv_icmp_eq (tgt := 64) hx hb dX10_inTheHundred_58 (by decide) (fun c_10 => ?_) (fun c_10 => ?_)
      · replace hres := hres.trans (if_pos c_10)
        refine lv_aload_n hx hb dX10_inTheHundred_64 rfl (lv_at hl 3 rfl) ?_
        refine gf_RX10_18 hx hb hts hown hK hP (hL 0 0 (xe_0 nb nn)) dX10_inTheHundred_65 ?_
        refine lv_iload_n hx hb dX10_inTheHundred_68 rfl (lv_at hl 5 rfl) ?_
        refine lv_aload hx hb dX10_inTheHundred_69 (lv_at hl 2 rfl) ?_
        refine gf_RX10_173 hx hb hts hown hK hP (hL 27 i_2 hi_4) dX10_inTheHundred_71 ?_
        refine x_callVi (As := [.int town, .int (M 27 i_2 0)]) S hK hAm hD hP hS mt_X5_fewestMiles wd_289 ⟨by decide, by decide⟩ (hL 2 0 (xe_2 nb nn)) (xc2 g 0) rfl (c_X5_fewestMiles l nb nn g L M hD (hL 2 0 (xe_2 nb nn)) (hL 13 0 (xe_13 nb nn)) (hL 14 0 (xe_14 nb nn)) town (M 27 i_2 0) (ob_X10_inTheHundred_74_p0 nb nn nt town w M hnt hp0 hp1 hp2 hp3 hp4 i_2 o_3 hq_5 hi_4 r_6 er_6 c_7 r_8 er_8 r_9 er_9 c_10) (ob_X10_inTheHundred_74_p1 nb nn nt town w M hnt hp0 hp1 hp2 hp3 hp4 i_2 o_3 hq_5 hi_4 r_6 er_6 c_7 r_8 er_8 r_9 er_9 c_10) (ob_X10_inTheHundred_74_p2 nb nn nt town w M hnt hp0 hp1 hp2 hp3 hp4 i_2 o_3 hq_5 hi_4 r_6 er_6 c_7 r_8 er_8 r_9 er_9 c_10) (ob_X10_inTheHundred_74_p3 nb nn nt town w M hnt hp0 hp1 hp2 hp3 hp4 i_2 o_3 hq_5 hi_4 r_6 er_6 c_7 r_8 er_8 r_9 er_9 c_10)) rfl hl.1 (Nat.le_of_ble_eq_true rfl) ⟨Nat.zero_le _, Nat.zero_le _⟩ dX10_inTheHundred_74 rfl (fun r_11 u H locs hp_ hP hS => ?_)
        obtain ⟨er_11, eu_⟩ := hp_
        rw [eu_] at hP
        clear eu_
        replace hres := xlet_n hres er_11
        refine lv_istore (lv' := [(7, .int r_11), (6, .int r_9), (5, .int r_8), (4, .ref (xad g 27 i_2)), (0, .ref (xad g 0 0)), (1, .ref (xad g 29 nt)), (2, .int town), (3, .int w)]) hx hb dX10_inTheHundred_77 hl (by decide) rfl (fun ls hl => ?_)
        refine lv_iload hx hb dX10_inTheHundred_79 (lv_at hl 0 rfl) ?_
        refine lv_ldcw (own := RX10) (v := (-1000000)) hx hb hown (hts _ (List.mem_cons_of_mem _ wd_629)) dX10_inTheHundred_81 ?_
        refine lv_icmp_ne (tgt := 89) hx hb dX10_inTheHundred_84 (by decide) (fun c_12 => ?_) (fun c_12 => ?_)
        · replace hres := hres.trans (if_neg c_12)
          refine lv_iconst (v := 0) hx hb dX10_inTheHundred_89 (by decide) ?_
          refine lv_bipush (v := 100) hx hb dX10_inTheHundred_90 (by decide) ?_
          refine lv_aload_n hx hb dX10_inTheHundred_92 rfl (lv_at hl 4 rfl) ?_
          refine gf_RX10_31 hx hb hts hown hK hP (hL 0 0 (xe_0 nb nn)) dX10_inTheHundred_93 ?_
          refine lv_aload_n hx hb dX10_inTheHundred_96 rfl (lv_at hl 5 rfl) ?_
          refine gf_RX10_250 hx hb hts hown hK hP (hL 29 nt hnt) dX10_inTheHundred_97 ?_
          refine lv_iload hx hb dX10_inTheHundred_100 (lv_at hl 2 rfl) ?_
          refine x_callVi (As := [.int (M 29 nt 1), .int r_8]) S hK hAm hD hP hS mt_X2_off wd_630 ⟨by decide, by decide⟩ (hL 4 0 (xe_4 nb nn)) (xc4 g 0) rfl (c_X2_off l nb nn g L M hD hL (M 29 nt 1) r_8 (ob_X10_inTheHundred_102_p0 nb nn nt town w M hnt hp0 hp1 hp2 hp3 hp4 i_2 o_3 hq_5 hi_4 r_6 er_6 c_7 r_8 er_8 r_9 er_9 c_10 r_11 er_11 c_12)) rfl hl.1 (Nat.le_of_ble_eq_true rfl) ⟨Nat.zero_le _, Nat.zero_le _⟩ dX10_inTheHundred_102 rfl (fun r_13 u H locs hp_ hP hS => ?_)
          obtain ⟨er_13, eu_⟩ := hp_
          rw [eu_] at hP
          clear eu_
          replace hres := xlet_n hres er_13
          refine lv_isub hx hb dX10_inTheHundred_105 ?_
          refine lv_iload hx hb dX10_inTheHundred_106 (lv_at hl 0 rfl) ?_
          refine lv_bipush (v := 20) hx hb dX10_inTheHundred_108 (by decide) ?_
          refine lv_idiv hx hb dX10_inTheHundred_110 (by decide) ?_
          refine lv_isub hx hb dX10_inTheHundred_111 ?_
          refine x_matx hx hb hml hl.1 hts hown wd_780 wd_781 wd_70 wd_782 (by decide) (Nat.le_of_ble_eq_true rfl) ⟨Nat.zero_le _, Nat.zero_le _⟩ dX10_inTheHundred_112 ?_
          exact x_reti hx hb hr hlk hP hS ⟨hres.symm.trans hF, rfl⟩ dX10_inTheHundred_115
        · replace hres := hres.trans (if_pos c_12)
          refine lv_iconst (v := 0) hx hb dX10_inTheHundred_87 (by decide) ?_
          exact x_reti hx hb hr hlk hP hS ⟨hres.symm.trans hF, rfl⟩ dX10_inTheHundred_88
      · replace hres := hres.trans (if_neg c_10)
        refine lv_iload hx hb dX10_inTheHundred_61 (lv_at hl 0 rfl) ?_
        exact x_reti hx hb hr hlk hP hS ⟨hres.symm.trans hF, rfl⟩ dX10_inTheHundred_63
    · replace hres := hres.trans (if_neg c_7)
      refine lv_iconst (v := 0) hx hb dX10_inTheHundred_27 (by decide) ?_
      exact x_reti hx hb hr hlk hP hS ⟨hres.symm.trans hF, rfl⟩ dX10_inTheHundred_28
set_option maxHeartbeats 4000000 in
set_option maxRecDepth 100000 in
theorem c_X10_worth (l : Launch) (nb nn : Nat) (g : xG) (L : List (Nat × Nat)) (M : xM) (hD : xD g L) (hL : xEL nb nn L) (nt : Int32) (town : Int32) (w : Int32) (hp0 : xHN nn M) (hp1 : xHB nb M) (hp2 : M 4 0 4 ≤ 40) (hp3 : ∀ i : Nat, 0 ≤ M 27 i 0 ∧ M 27 i 0 ≤ 5) : xCi l yX10_worth cX10_worth 5 (some .int) 4 g L M [.ref (xad g 0 0), .int nt, .int town, .int w] (fun r u => r = f_X10_worth nt town w M ∧ u = M) := by
  intro sz
  refine x_beg (by decide +kernel) rfl ?_
  intro p e s m args below meth c ls hsz hB
  subst hsz
  obtain ⟨hx, hb, hml, hown, hts, hr, hlk, hK, hAm, hP, hl⟩ := hB
  have S : CallFix p m c cX10_worth 5 s args (xws yX10_worth cX10_worth 5 (some .int)) RX10 := ⟨hx, hb, hml, hown, hts⟩
  have hown : s.vm.findClass RX10 = some m.cls := hown
  have hl : lv_has ls 5 [(0, .ref (xad g 0 0)), (1, .int nt), (2, .int town), (3, .int w)] := hl
  have hS : va_S (xA g L s.heap.size) s.heap s.heap [] := va_S.rf
  obtain ⟨F, hF⟩ : ∃ F, F = f_X10_worth nt town w M := ⟨_, rfl⟩
  have hres := hF
  rw [f_X10_worth] at hres
  refine lv_aload_n hx hb dX10_worth_0 rfl (lv_at hl 0 rfl) ?_
  refine lv_iload_n hx hb dX10_worth_1 rfl (lv_at hl 1 rfl) ?_
  refine x_callVq (As := [.int nt]) S hK hAm hD hP hS mt_X10_noteOf wd_725 ⟨by decide, by decide⟩ (hL 0 0 (xe_0 nb nn)) (xc0 g 0) rfl (c_X10_noteOf l nb nn g L M hD hL nt (ob_X10_worth_2_p0 nb nn nt town w M hp0 hp1 hp2 hp3)) rfl hl.1 (Nat.le_of_ble_eq_true rfl) ⟨Nat.zero_le _, Nat.zero_le _⟩ dX10_worth_2 rfl (fun r_1 u H locs hp_ hP hS => ?_)
  obtain ⟨hp_, eu_⟩ := hp_
  rw [eu_] at hP
  clear eu_
  subst hp_
  rcases o_3 : f_X10_noteOf nt M with _ | i_2
  · replace hres := xopt_n hres o_3
    refine lv_astoreN (lv' := [(4, .null), (0, .ref (xad g 0 0)), (1, .int nt), (2, .int town), (3, .int w)]) hx hb dX10_worth_5 hl (by decide) rfl (fun ls hl => ?_)
    refine lv_aloadN hx hb dX10_worth_7 (lv_at hl 0 rfl) ?_
    refine lv_ifnullN (tgt := 29) hx hb dX10_worth_9 (by decide) ?_
    refine lv_ldc (own := RX10) (v := (-1000001)) hx hb hown (hts _ (List.mem_cons_of_mem _ wd_174)) dX10_worth_29 ?_
    exact x_reti hx hb hr hlk hP hS ⟨hres.symm.trans hF, rfl⟩ dX10_worth_31
  · replace hres := xopt_s hres o_3
    have hq_5 := (ob_X10_worth_2_q nb nn nt town w M hp0 hp1 hp2 hp3 i_2 o_3)
    have hi_4 := hq_5.1
    refine lv_astore (lv' := [(4, .ref (xad g 29 i_2)), (0, .ref (xad g 0 0)), (1, .int nt), (2, .int town), (3, .int w)]) hx hb dX10_worth_5 hl (by decide) rfl (fun ls hl => ?_)
    refine lv_aload hx hb dX10_worth_7 (lv_at hl 0 rfl) ?_
    refine lv_ifnull hx hb dX10_worth_9 ?_
    refine lv_iload_n hx hb dX10_worth_12 rfl (lv_at hl 3 rfl) ?_
    refine x_callSi (As := [.int town]) S hK hAm hD hP hS mt_X10_isTown wd_268 ⟨by decide, by decide⟩ (c_X10_isTown l nb nn g L M hD hL town) rfl hl.1 (Nat.le_of_ble_eq_true rfl) ⟨Nat.zero_le _, Nat.zero_le _⟩ dX10_worth_13 rfl (fun r_6 u H locs hp_ hP hS => ?_)
    obtain ⟨er_6, eu_⟩ := hp_
    rw [eu_] at hP
    clear eu_
    replace hres := xlet_n hres er_6
    refine lv_if_eq (tgt := 29) hx hb dX10_worth_16 (by decide) (fun c_7 => ?_) (fun c_7 => ?_)
    · replace hres := hres.trans (if_pos c_7)
      refine lv_ldc (own := RX10) (v := (-1000001)) hx hb hown (hts _ (List.mem_cons_of_mem _ wd_174)) dX10_worth_29 ?_
      exact x_reti hx hb hr hlk hP hS ⟨hres.symm.trans hF, rfl⟩ dX10_worth_31
    · replace hres := hres.trans (if_neg c_7)
      refine lv_iload_n hx hb dX10_worth_19 rfl (lv_at hl 4 rfl) ?_
      refine lv_sipush (v := 299) hx hb dX10_worth_20 (by decide) ?_
      refine x_callSi (As := [.int w, .int 299]) S hK hAm hD hP hS mt_X10_isUpTo wd_179 ⟨by decide, by decide⟩ (c_X10_isUpTo l nb nn g L M hD hL w 299) rfl hl.1 (Nat.le_of_ble_eq_true rfl) ⟨Nat.zero_le _, Nat.zero_le _⟩ dX10_worth_23 rfl (fun r_8 u H locs hp_ hP hS => ?_)
      obtain ⟨er_8, eu_⟩ := hp_
      rw [eu_] at hP
      clear eu_
      replace hres := xlet_n hres er_8
      refine lv_if_ne (tgt := 32) hx hb dX10_worth_26 (by decide) (fun c_9 => ?_) (fun c_9 => ?_)
      · replace hres := hres.trans (if_neg c_9)
        refine lv_aload hx hb dX10_worth_32 (lv_at hl 0 rfl) ?_
        refine gf_RX10_253 hx hb hts hown hK hP (hL 29 i_2 hi_4) dX10_worth_34 ?_
        refine lv_aload_n hx hb dX10_worth_37 rfl (lv_at hl 1 rfl) ?_
        refine lv_aload hx hb dX10_worth_38 (lv_at hl 0 rfl) ?_
        refine lv_iload_n hx hb dX10_worth_40 rfl (lv_at hl 3 rfl) ?_
        refine lv_iload_n hx hb dX10_worth_41 rfl (lv_at hl 4 rfl) ?_
        refine x_callVi (As := [.ref (xad g 29 i_2), .int town, .int w]) S hK hAm hD hP hS mt_X10_inTheHundred wd_776 ⟨by decide, by decide⟩ (hL 0 0 (xe_0 nb nn)) (xc0 g 0) rfl (c_X10_inTheHundred l nb nn g L M hD hL i_2 town w hi_4 (ob_X10_worth_42_p0 nb nn nt town w M hp0 hp1 hp2 hp3 i_2 o_3 hq_5 hi_4 r_6 er_6 c_7 r_8 er_8 c_9) (ob_X10_worth_42_p1 nb nn nt town w M hp0 hp1 hp2 hp3 i_2 o_3 hq_5 hi_4 r_6 er_6 c_7 r_8 er_8 c_9) (ob_X10_worth_42_p2 nb nn nt town w M hp0 hp1 hp2 hp3 i_2 o_3 hq_5 hi_4 r_6 er_6 c_7 r_8 er_8 c_9) (ob_X10_worth_42_p3 nb nn nt town w M hp0 hp1 hp2 hp3 i_2 o_3 hq_5 hi_4 r_6 er_6 c_7 r_8 er_8 c_9) (ob_X10_worth_42_p4 nb nn nt town w M hp0 hp1 hp2 hp3 i_2 o_3 hq_5 hi_4 r_6 er_6 c_7 r_8 er_8 c_9)) rfl hl.1 (Nat.le_of_ble_eq_true rfl) ⟨Nat.zero_le _, Nat.zero_le _⟩ dX10_worth_42 rfl (fun r_10 u H locs hp_ hP hS => ?_)
        obtain ⟨er_10, eu_⟩ := hp_
        rw [eu_] at hP
        clear eu_
        replace hres := xlet_n hres er_10
        refine lv_imul hx hb dX10_worth_45 ?_
        exact x_reti hx hb hr hlk hP hS ⟨hres.symm.trans hF, rfl⟩ dX10_worth_46
      · replace hres := hres.trans (if_pos c_9)
        refine lv_ldc (own := RX10) (v := (-1000001)) hx hb hown (hts _ (List.mem_cons_of_mem _ wd_174)) dX10_worth_29 ?_
        exact x_reti hx hb hr hlk hP hS ⟨hres.symm.trans hF, rfl⟩ dX10_worth_31
set_option maxHeartbeats 4000000 in
set_option maxRecDepth 100000 in
theorem c_X10_hands (l : Launch) (nb nn : Nat) (g : xG) (L : List (Nat × Nat)) (M : xM) (hD : xD g L) (hL : xEL nb nn L) (nt : Int32) (i : Int32) (what : Int32) (hp0 : xHN nn M) (hp1 : ∀ i : Nat, 0 ≤ M 29 i 6 ∧ M 29 i 6 ≤ 12) : xCi l yX10_hands cX10_hands 5 (some .int) 2 g L M [.ref (xad g 0 0), .int nt, .int i, .int what] (fun r u => r = f_X10_hands nt i what M ∧ u = M) := by
  intro sz
  refine x_beg (by decide +kernel) rfl ?_
  intro p e s m args below meth c ls hsz hB
  subst hsz
  obtain ⟨hx, hb, hml, hown, hts, hr, hlk, hK, hAm, hP, hl⟩ := hB
  have S : CallFix p m c cX10_hands 5 s args (xws yX10_hands cX10_hands 5 (some .int)) RX10 := ⟨hx, hb, hml, hown, hts⟩
  have hown : s.vm.findClass RX10 = some m.cls := hown
  have hl : lv_has ls 5 [(0, .ref (xad g 0 0)), (1, .int nt), (2, .int i), (3, .int what)] := hl
  have hS : va_S (xA g L s.heap.size) s.heap s.heap [] := va_S.rf
  obtain ⟨F, hF⟩ : ∃ F, F = f_X10_hands nt i what M := ⟨_, rfl⟩
  have hres := hF
  rw [f_X10_hands] at hres
  refine lv_aload_n hx hb dX10_hands_0 rfl (lv_at hl 0 rfl) ?_
  refine lv_iload_n hx hb dX10_hands_1 rfl (lv_at hl 1 rfl) ?_
  refine x_callVq (As := [.int nt]) S hK hAm hD hP hS mt_X10_noteOf wd_725 ⟨by decide, by decide⟩ (hL 0 0 (xe_0 nb nn)) (xc0 g 0) rfl (c_X10_noteOf l nb nn g L M hD hL nt (ob_X10_hands_2_p0 nb nn nt i what M hp0 hp1)) rfl hl.1 (Nat.le_of_ble_eq_true rfl) ⟨Nat.zero_le _, Nat.zero_le _⟩ dX10_hands_2 rfl (fun r_1 u H locs hp_ hP hS => ?_)
  obtain ⟨hp_, eu_⟩ := hp_
  rw [eu_] at hP
  clear eu_
  subst hp_
  rcases o_3 : f_X10_noteOf nt M with _ | i_2
  · replace hres := xopt_n hres o_3
    refine lv_astoreN (lv' := [(4, .null), (0, .ref (xad g 0 0)), (1, .int nt), (2, .int i), (3, .int what)]) hx hb dX10_hands_5 hl (by decide) rfl (fun ls hl => ?_)
    refine lv_aloadN hx hb dX10_hands_7 (lv_at hl 0 rfl) ?_
    refine lv_ifnullN (tgt := 25) hx hb dX10_hands_9 (by decide) ?_
    refine lv_ldc (own := RX10) (v := (-1000001)) hx hb hown (hts _ (List.mem_cons_of_mem _ wd_174)) dX10_hands_25 ?_
    exact x_reti hx hb hr hlk hP hS ⟨hres.symm.trans hF, rfl⟩ dX10_hands_27
  · replace hres := xopt_s hres o_3
    have hq_5 := (ob_X10_hands_2_q nb nn nt i what M hp0 hp1 i_2 o_3)
    have hi_4 := hq_5.1
    refine lv_astore (lv' := [(4, .ref (xad g 29 i_2)), (0, .ref (xad g 0 0)), (1, .int nt), (2, .int i), (3, .int what)]) hx hb dX10_hands_5 hl (by decide) rfl (fun ls hl => ?_)
    refine lv_aload hx hb dX10_hands_7 (lv_at hl 0 rfl) ?_
    refine lv_ifnull hx hb dX10_hands_9 ?_
    refine lv_iload_n hx hb dX10_hands_12 rfl (lv_at hl 3 rfl) ?_
    refine lv_iconst (v := (-1)) hx hb dX10_hands_13 (by decide) ?_
    refine lv_icmp_lt (tgt := 25) hx hb dX10_hands_14 (by decide) (fun c_6 => ?_) (fun c_6 => ?_)
    · replace hres := hres.trans (if_pos c_6)
      refine lv_ldc (own := RX10) (v := (-1000001)) hx hb hown (hts _ (List.mem_cons_of_mem _ wd_174)) dX10_hands_25 ?_
      exact x_reti hx hb hr hlk hP hS ⟨hres.symm.trans hF, rfl⟩ dX10_hands_27
    · replace hres := hres.trans (if_neg c_6)
      refine lv_iload_n hx hb dX10_hands_17 rfl (lv_at hl 4 rfl) ?_
      refine lv_iconst (v := 1) hx hb dX10_hands_18 (by decide) ?_
      refine x_callSi (As := [.int what, .int 1]) S hK hAm hD hP hS mt_X10_isUpTo wd_179 ⟨by decide, by decide⟩ (c_X10_isUpTo l nb nn g L M hD hL what 1) rfl hl.1 (Nat.le_of_ble_eq_true rfl) ⟨Nat.zero_le _, Nat.zero_le _⟩ dX10_hands_19 rfl (fun r_7 u H locs hp_ hP hS => ?_)
      obtain ⟨er_7, eu_⟩ := hp_
      rw [eu_] at hP
      clear eu_
      replace hres := xlet_n hres er_7
      refine lv_if_ne (tgt := 28) hx hb dX10_hands_22 (by decide) (fun c_8 => ?_) (fun c_8 => ?_)
      · replace hres := hres.trans (if_neg c_8)
        refine lv_iload_n hx hb dX10_hands_28 rfl (lv_at hl 3 rfl) ?_
        refine lv_iconst (v := (-1)) hx hb dX10_hands_29 (by decide) ?_
        refine lv_icmp_ne (tgt := 39) hx hb dX10_hands_30 (by decide) (fun c_9 => ?_) (fun c_9 => ?_)
        · replace hres := hres.trans (if_neg c_9)
          refine lv_iload_n hx hb dX10_hands_39 rfl (lv_at hl 4 rfl) ?_
          refine lv_if_ne (tgt := 52) hx hb dX10_hands_40 (by decide) (fun c_10 => ?_) (fun c_10 => ?_)
          · replace hres := hres.trans (if_neg c_10)
            refine lv_aload hx hb dX10_hands_52 (lv_at hl 0 rfl) ?_
            refine lv_iload_n hx hb dX10_hands_54 rfl (lv_at hl 3 rfl) ?_
            refine x_callVi (As := [.int i]) S hK hAm hD hP hS mt_X4_handWeek wd_800 ⟨by decide, by decide⟩ (hL 29 i_2 hi_4) (xc29 g i_2) rfl (c_X4_handWeek l nb nn g L M hD hL i_2 i hi_4 (ob_X10_hands_55_p0 nb nn nt i what M hp0 hp1 i_2 o_3 hq_5 hi_4 c_6 r_7 er_7 c_8 c_9 c_10)) rfl hl.1 (Nat.le_of_ble_eq_true rfl) ⟨Nat.zero_le _, Nat.zero_le _⟩ dX10_hands_55 rfl (fun r_11 u H locs hp_ hP hS => ?_)
            obtain ⟨er_11, eu_⟩ := hp_
            rw [eu_] at hP
            clear eu_
            replace hres := xlet_n hres er_11
            exact x_reti hx hb hr hlk hP hS ⟨hres.symm.trans hF, rfl⟩ dX10_hands_58
          · replace hres := hres.trans (if_pos c_10)
            refine lv_aload hx hb dX10_hands_43 (lv_at hl 0 rfl) ?_
            refine lv_iload_n hx hb dX10_hands_45 rfl (lv_at hl 3 rfl) ?_
            refine x_callVi (As := [.int i]) S hK hAm hD hP hS mt_X4_handTrader wd_796 ⟨by decide, by decide⟩ (hL 29 i_2 hi_4) (xc29 g i_2) rfl (c_X4_handTrader l nb nn g L M hD hL i_2 i hi_4 (ob_X10_hands_46_p0 nb nn nt i what M hp0 hp1 i_2 o_3 hq_5 hi_4 c_6 r_7 er_7 c_8 c_9 c_10)) rfl hl.1 (Nat.le_of_ble_eq_true rfl) ⟨Nat.zero_le _, Nat.zero_le _⟩ dX10_hands_46 rfl (fun r_12 u H locs hp_ hP hS => ?_)
            obtain ⟨er_12, eu_⟩ := hp_
            rw [eu_] at hP
            clear eu_
            replace hres := xlet_n hres er_12
            refine lv_goto (tgt := 58) hx hb dX10_hands_49 (by decide) ?_
            exact x_reti hx hb hr hlk hP hS ⟨hres.symm.trans hF, rfl⟩ dX10_hands_58
        · replace hres := hres.trans (if_pos c_9)
          refine lv_aload hx hb dX10_hands_33 (lv_at hl 0 rfl) ?_
          refine gf_RX10_279 hx hb hts hown hK hP (hL 29 i_2 hi_4) dX10_hands_35 ?_
          exact x_reti hx hb hr hlk hP hS ⟨hres.symm.trans hF, rfl⟩ dX10_hands_38
      · replace hres := hres.trans (if_pos c_8)
        refine lv_ldc (own := RX10) (v := (-1000001)) hx hb hown (hts _ (List.mem_cons_of_mem _ wd_174)) dX10_hands_25 ?_
        exact x_reti hx hb hr hlk hP hS ⟨hres.symm.trans hF, rfl⟩ dX10_hands_27
set_option maxHeartbeats 4000000 in
set_option maxRecDepth 100000 in
theorem c_X10_trader (l : Launch) (nb nn : Nat) (g : xG) (L : List (Nat × Nat)) (M : xM) (hD : xD g L) (hL : xEL nb nn L) (tr : Int32) (town : Int32) (takes : Int32) (hp0 : xHT M) : xCi l yX10_trader cX10_trader 5 (some .int) 2 g L M [.ref (xad g 0 0), .int tr, .int town, .int takes] (fun r u => (r, u) = f_X10_trader tr town takes M) := by
  intro sz
  refine x_beg (by decide +kernel) rfl ?_
  intro p e s m args below meth c ls hsz hB
  subst hsz
  obtain ⟨hx, hb, hml, hown, hts, hr, hlk, hK, hAm, hP, hl⟩ := hB
  have S : CallFix p m c cX10_trader 5 s args (xws yX10_trader cX10_trader 5 (some .int)) RX10 := ⟨hx, hb, hml, hown, hts⟩
  have hown : s.vm.findClass RX10 = some m.cls := hown
  have hl : lv_has ls 5 [(0, .ref (xad g 0 0)), (1, .int tr), (2, .int town), (3, .int takes)] := hl
  have hS : va_S (xA g L s.heap.size) s.heap s.heap [] := va_S.rf
  obtain ⟨F, hF⟩ : ∃ F, F = f_X10_trader tr town takes M := ⟨_, rfl⟩
  have hres := hF
  rw [f_X10_trader] at hres
  refine lv_aload_n hx hb dX10_trader_0 rfl (lv_at hl 0 rfl) ?_
  refine lv_iload_n hx hb dX10_trader_1 rfl (lv_at hl 1 rfl) ?_
  refine x_callVq (As := [.int tr]) S hK hAm hD hP hS mt_X10_traderOf wd_677 ⟨by decide, by decide⟩ (hL 0 0 (xe_0 nb nn)) (xc0 g 0) rfl (c_X10_traderOf l nb nn g L M hD hL tr (ob_X10_trader_2_p0 nb nn tr town takes M hp0)) rfl hl.1 (Nat.le_of_ble_eq_true rfl) ⟨Nat.zero_le _, Nat.zero_le _⟩ dX10_trader_2 rfl (fun r_1 u H locs hp_ hP hS => ?_)
  obtain ⟨hp_, eu_⟩ := hp_
  rw [eu_] at hP
  clear eu_
  subst hp_
  rcases o_3 : f_X10_traderOf tr M with _ | i_2
  · replace hres := xopt_n hres o_3
    refine lv_astoreN (lv' := [(4, .null), (0, .ref (xad g 0 0)), (1, .int tr), (2, .int town), (3, .int takes)]) hx hb dX10_trader_5 hl (by decide) rfl (fun ls hl => ?_)
    refine lv_aloadN hx hb dX10_trader_7 (lv_at hl 0 rfl) ?_
    refine lv_ifnullN (tgt := 28) hx hb dX10_trader_9 (by decide) ?_
    refine lv_ldc (own := RX10) (v := (-1000001)) hx hb hown (hts _ (List.mem_cons_of_mem _ wd_174)) dX10_trader_28 ?_
    exact x_reti hx hb hr hlk hP hS (hres.symm.trans hF) dX10_trader_30
  · replace hres := xopt_s hres o_3
    have hq_5 := (ob_X10_trader_2_q nb nn tr town takes M hp0 i_2 o_3)
    have hi_4 := hq_5.1
    refine lv_astore (lv' := [(4, .ref (xad g 26 i_2)), (0, .ref (xad g 0 0)), (1, .int tr), (2, .int town), (3, .int takes)]) hx hb dX10_trader_5 hl (by decide) rfl (fun ls hl => ?_)
    refine lv_aload hx hb dX10_trader_7 (lv_at hl 0 rfl) ?_
    refine lv_ifnull hx hb dX10_trader_9 ?_
    refine lv_iload_n hx hb dX10_trader_12 rfl (lv_at hl 3 rfl) ?_
    refine x_callSi (As := [.int town]) S hK hAm hD hP hS mt_X10_isTown wd_268 ⟨by decide, by decide⟩ (c_X10_isTown l nb nn g L M hD hL town) rfl hl.1 (Nat.le_of_ble_eq_true rfl) ⟨Nat.zero_le _, Nat.zero_le _⟩ dX10_trader_13 rfl (fun r_6 u H locs hp_ hP hS => ?_)
    obtain ⟨er_6, eu_⟩ := hp_
    rw [eu_] at hP
    clear eu_
    replace hres := xlet_n hres er_6
    refine lv_if_eq (tgt := 28) hx hb dX10_trader_16 (by decide) (fun c_7 => ?_) (fun c_7 => ?_)
    · replace hres := hres.trans (if_pos c_7)
      refine lv_ldc (own := RX10) (v := (-1000001)) hx hb hown (hts _ (List.mem_cons_of_mem _ wd_174)) dX10_trader_28 ?_
      exact x_reti hx hb hr hlk hP hS (hres.symm.trans hF) dX10_trader_30
    · replace hres := hres.trans (if_neg c_7)
      refine lv_iload_n hx hb dX10_trader_19 rfl (lv_at hl 4 rfl) ?_
      refine lv_bipush (v := 100) hx hb dX10_trader_20 (by decide) ?_
      refine x_callSi (As := [.int takes, .int 100]) S hK hAm hD hP hS mt_X10_isUpTo wd_179 ⟨by decide, by decide⟩ (c_X10_isUpTo l nb nn g L M hD hL takes 100) rfl hl.1 (Nat.le_of_ble_eq_true rfl) ⟨Nat.zero_le _, Nat.zero_le _⟩ dX10_trader_22 rfl (fun r_8 u H locs hp_ hP hS => ?_)
      obtain ⟨er_8, eu_⟩ := hp_
      rw [eu_] at hP
      clear eu_
      replace hres := xlet_n hres er_8
      refine lv_if_ne (tgt := 31) hx hb dX10_trader_25 (by decide) (fun c_9 => ?_) (fun c_9 => ?_)
      · replace hres := hres.trans (if_neg c_9)
        refine lv_aload hx hb dX10_trader_31 (lv_at hl 0 rfl) ?_
        refine lv_iload_n hx hb dX10_trader_33 rfl (lv_at hl 3 rfl) ?_
        refine pf_RX10_288 hx hb hts hown hK hP hD hS (hL 26 i_2 hi_4) dX10_trader_34 (fun H locs hP hS => ?_)
        obtain ⟨M_10, eM_10⟩ : ∃ z_ : xM, z_ = xup M 26 i_2 0 town := ⟨_, rfl⟩
        rw [← eM_10] at hP
        replace hres := xlet_n hres eM_10
        refine lv_aload hx hb dX10_trader_37 (lv_at hl 0 rfl) ?_
        refine lv_iload_n hx hb dX10_trader_39 rfl (lv_at hl 4 rfl) ?_
        refine pf_RX10_289 hx hb hts hown hK hP hD hS (hL 26 i_2 hi_4) dX10_trader_40 (fun H locs hP hS => ?_)
        obtain ⟨M_11, eM_11⟩ : ∃ z_ : xM, z_ = xup M_10 26 i_2 1 takes := ⟨_, rfl⟩
        rw [← eM_11] at hP
        replace hres := xlet_n hres eM_11
        refine lv_iconst (v := 1) hx hb dX10_trader_43 (by decide) ?_
        exact x_reti hx hb hr hlk hP hS (hres.symm.trans hF) dX10_trader_44
      · replace hres := hres.trans (if_pos c_9)
        refine lv_ldc (own := RX10) (v := (-1000001)) hx hb hown (hts _ (List.mem_cons_of_mem _ wd_174)) dX10_trader_28 ?_
        exact x_reti hx hb hr hlk hP hS (hres.symm.trans hF) dX10_trader_30
set_option maxHeartbeats 4000000 in
set_option maxRecDepth 100000 in
theorem c_X10_bears (l : Launch) (nb nn : Nat) (g : xG) (L : List (Nat × Nat)) (M : xM) (hD : xD g L) (hL : xEL nb nn L) (nt : Int32) (weeks : Int32) (hp0 : xHN nn M) (hp1 : ∀ i : Nat, 0 ≤ M 29 i 6 ∧ M 29 i 6 ≤ 12) : xCi l yX10_bears cX10_bears 4 (some .int) 2 g L M [.ref (xad g 0 0), .int nt, .int weeks] (fun r u => r = f_X10_bears nt weeks M ∧ u = M) := by
  intro sz
  refine x_beg (by decide +kernel) rfl ?_
  intro p e s m args below meth c ls hsz hB
  subst hsz
  obtain ⟨hx, hb, hml, hown, hts, hr, hlk, hK, hAm, hP, hl⟩ := hB
  have S : CallFix p m c cX10_bears 4 s args (xws yX10_bears cX10_bears 4 (some .int)) RX10 := ⟨hx, hb, hml, hown, hts⟩
  have hown : s.vm.findClass RX10 = some m.cls := hown
  have hl : lv_has ls 4 [(0, .ref (xad g 0 0)), (1, .int nt), (2, .int weeks)] := hl
  have hS : va_S (xA g L s.heap.size) s.heap s.heap [] := va_S.rf
  obtain ⟨F, hF⟩ : ∃ F, F = f_X10_bears nt weeks M := ⟨_, rfl⟩
  have hres := hF
  rw [f_X10_bears] at hres
  refine lv_aload_n hx hb dX10_bears_0 rfl (lv_at hl 0 rfl) ?_
  refine lv_iload_n hx hb dX10_bears_1 rfl (lv_at hl 1 rfl) ?_
  refine x_callVq (As := [.int nt]) S hK hAm hD hP hS mt_X10_noteOf wd_725 ⟨by decide, by decide⟩ (hL 0 0 (xe_0 nb nn)) (xc0 g 0) rfl (c_X10_noteOf l nb nn g L M hD hL nt (ob_X10_bears_2_p0 nb nn nt weeks M hp0 hp1)) rfl hl.1 (Nat.le_of_ble_eq_true rfl) ⟨Nat.zero_le _, Nat.zero_le _⟩ dX10_bears_2 rfl (fun r_1 u H locs hp_ hP hS => ?_)
  obtain ⟨hp_, eu_⟩ := hp_
  rw [eu_] at hP
  clear eu_
  subst hp_
  rcases o_3 : f_X10_noteOf nt M with _ | i_2
  · replace hres := xopt_n hres o_3
    refine lv_astore_nN (lv' := [(3, .null), (0, .ref (xad g 0 0)), (1, .int nt), (2, .int weeks)]) hx hb dX10_bears_5 rfl hl (by decide) rfl (fun ls hl => ?_)
    refine lv_aload_nN hx hb dX10_bears_6 rfl (lv_at hl 0 rfl) ?_
    refine lv_ifnullN (tgt := 20) hx hb dX10_bears_7 (by decide) ?_
    refine lv_ldc (own := RX10) (v := (-1000001)) hx hb hown (hts _ (List.mem_cons_of_mem _ wd_174)) dX10_bears_20 ?_
    exact x_reti hx hb hr hlk hP hS ⟨hres.symm.trans hF, rfl⟩ dX10_bears_22
  · replace hres := xopt_s hres o_3
    have hq_5 := (ob_X10_bears_2_q nb nn nt weeks M hp0 hp1 i_2 o_3)
    have hi_4 := hq_5.1
    refine lv_astore_n (lv' := [(3, .ref (xad g 29 i_2)), (0, .ref (xad g 0 0)), (1, .int nt), (2, .int weeks)]) hx hb dX10_bears_5 rfl hl (by decide) rfl (fun ls hl => ?_)
    refine lv_aload_n hx hb dX10_bears_6 rfl (lv_at hl 0 rfl) ?_
    refine lv_ifnull hx hb dX10_bears_7 ?_
    refine lv_iload_n hx hb dX10_bears_10 rfl (lv_at hl 3 rfl) ?_
    refine lv_sipush (v := 299) hx hb dX10_bears_11 (by decide) ?_
    refine x_callSi (As := [.int weeks, .int 299]) S hK hAm hD hP hS mt_X10_isUpTo wd_179 ⟨by decide, by decide⟩ (c_X10_isUpTo l nb nn g L M hD hL weeks 299) rfl hl.1 (Nat.le_of_ble_eq_true rfl) ⟨Nat.zero_le _, Nat.zero_le _⟩ dX10_bears_14 rfl (fun r_6 u H locs hp_ hP hS => ?_)
    obtain ⟨er_6, eu_⟩ := hp_
    rw [eu_] at hP
    clear eu_
    replace hres := xlet_n hres er_6
    refine lv_if_ne (tgt := 23) hx hb dX10_bears_17 (by decide) (fun c_7 => ?_) (fun c_7 => ?_)
    · replace hres := hres.trans (if_neg c_7)
      refine lv_aload_n hx hb dX10_bears_23 rfl (lv_at hl 0 rfl) ?_
      refine gf_RX10_265 hx hb hts hown hK hP (hL 29 i_2 hi_4) dX10_bears_24 ?_
      refine lv_if_eq (tgt := 34) hx hb dX10_bears_27 (by decide) (fun c_8 => ?_) (fun c_8 => ?_)
      · replace hres := hres.trans (if_pos c_8)
        refine lv_aload_n hx hb dX10_bears_34 rfl (lv_at hl 0 rfl) ?_
        refine lv_aload_n hx hb dX10_bears_35 rfl (lv_at hl 1 rfl) ?_
        refine gf_RX10_91 hx hb hts hown hK hP (hL 0 0 (xe_0 nb nn)) dX10_bears_36 ?_
        refine lv_iload_n hx hb dX10_bears_39 rfl (lv_at hl 3 rfl) ?_
        refine x_callVi (As := [.int (M 0 0 14), .int weeks]) S hK hAm hD hP hS mt_X4_bearer wd_849 ⟨by decide, by decide⟩ (hL 29 i_2 hi_4) (xc29 g i_2) rfl (c_X4_bearer l nb nn g L M hD hL i_2 (M 0 0 14) weeks hi_4 (ob_X10_bears_40_p0 nb nn nt weeks M hp0 hp1 i_2 o_3 hq_5 hi_4 r_6 er_6 c_7 c_8)) rfl hl.1 (Nat.le_of_ble_eq_true rfl) ⟨Nat.zero_le _, Nat.zero_le _⟩ dX10_bears_40 rfl (fun r_9 u H locs hp_ hP hS => ?_)
        obtain ⟨er_9, eu_⟩ := hp_
        rw [eu_] at hP
        clear eu_
        replace hres := xlet_n hres er_9
        exact x_reti hx hb hr hlk hP hS ⟨hres.symm.trans hF, rfl⟩ dX10_bears_43
      · replace hres := hres.trans (if_neg c_8)
        refine lv_ldcw (own := RX10) (v := (-1000002)) hx hb hown (hts _ (List.mem_cons_of_mem _ wd_848)) dX10_bears_30 ?_
        exact x_reti hx hb hr hlk hP hS ⟨hres.symm.trans hF, rfl⟩ dX10_bears_33
    · replace hres := hres.trans (if_pos c_7)
      refine lv_ldc (own := RX10) (v := (-1000001)) hx hb hown (hts _ (List.mem_cons_of_mem _ wd_174)) dX10_bears_20 ?_
      exact x_reti hx hb hr hlk hP hS ⟨hres.symm.trans hF, rfl⟩ dX10_bears_22
set_option maxHeartbeats 4000000 in
set_option maxRecDepth 100000 in
theorem c_X10_home (l : Launch) (nb nn : Nat) (g : xG) (L : List (Nat × Nat)) (M : xM) (hD : xD g L) (hL : xEL nb nn L) (nt : Int32) (hp0 : xHN nn M) (hp1 : xHB nb M) : xCi l yX10_home cX10_home 4 (some .int) 2 g L M [.ref (xad g 0 0), .int nt] (fun r u => (r, u) = f_X10_home nt M) := by
  intro sz
  refine x_beg (by decide +kernel) rfl ?_
  intro p e s m args below meth c ls hsz hB
  subst hsz
  obtain ⟨hx, hb, hml, hown, hts, hr, hlk, hK, hAm, hP, hl⟩ := hB
  have S : CallFix p m c cX10_home 4 s args (xws yX10_home cX10_home 4 (some .int)) RX10 := ⟨hx, hb, hml, hown, hts⟩
  have hown : s.vm.findClass RX10 = some m.cls := hown
  have hl : lv_has ls 4 [(0, .ref (xad g 0 0)), (1, .int nt)] := hl
  have hS : va_S (xA g L s.heap.size) s.heap s.heap [] := va_S.rf
  obtain ⟨F, hF⟩ : ∃ F, F = f_X10_home nt M := ⟨_, rfl⟩
  have hres := hF
  rw [f_X10_home] at hres
  refine lv_aload_n hx hb dX10_home_0 rfl (lv_at hl 0 rfl) ?_
  refine lv_iload_n hx hb dX10_home_1 rfl (lv_at hl 1 rfl) ?_
  refine x_callVq (As := [.int nt]) S hK hAm hD hP hS mt_X10_noteOf wd_725 ⟨by decide, by decide⟩ (hL 0 0 (xe_0 nb nn)) (xc0 g 0) rfl (c_X10_noteOf l nb nn g L M hD hL nt (ob_X10_home_2_p0 nb nn nt M hp0 hp1)) rfl hl.1 (Nat.le_of_ble_eq_true rfl) ⟨Nat.zero_le _, Nat.zero_le _⟩ dX10_home_2 rfl (fun r_1 u H locs hp_ hP hS => ?_)
  obtain ⟨hp_, eu_⟩ := hp_
  rw [eu_] at hP
  clear eu_
  subst hp_
  rcases o_3 : f_X10_noteOf nt M with _ | i_2
  · replace hres := xopt_n hres o_3
    refine lv_astore_nN (lv' := [(2, .null), (0, .ref (xad g 0 0)), (1, .int nt)]) hx hb dX10_home_5 rfl hl (by decide) rfl (fun ls hl => ?_)
    refine lv_aload_nN hx hb dX10_home_6 rfl (lv_at hl 0 rfl) ?_
    refine lv_ifnonnullN hx hb dX10_home_7 ?_
    refine lv_ldc (own := RX10) (v := (-1000001)) hx hb hown (hts _ (List.mem_cons_of_mem _ wd_174)) dX10_home_10 ?_
    exact x_reti hx hb hr hlk hP hS (hres.symm.trans hF) dX10_home_12
  · replace hres := xopt_s hres o_3
    have hq_5 := (ob_X10_home_2_q nb nn nt M hp0 hp1 i_2 o_3)
    have hi_4 := hq_5.1
    refine lv_astore_n (lv' := [(2, .ref (xad g 29 i_2)), (0, .ref (xad g 0 0)), (1, .int nt)]) hx hb dX10_home_5 rfl hl (by decide) rfl (fun ls hl => ?_)
    refine lv_aload_n hx hb dX10_home_6 rfl (lv_at hl 0 rfl) ?_
    refine lv_ifnonnull (tgt := 13) hx hb dX10_home_7 (by decide) ?_
    refine lv_aload_n hx hb dX10_home_13 rfl (lv_at hl 1 rfl) ?_
    refine lv_aload_n hx hb dX10_home_14 rfl (lv_at hl 0 rfl) ?_
    refine gf_RX10_250 hx hb hts hown hK hP (hL 29 i_2 hi_4) dX10_home_15 ?_
    refine x_callVq (As := [.int (M 29 i_2 1)]) S hK hAm hD hP hS mt_X10_bankOf wd_338 ⟨by decide, by decide⟩ (hL 0 0 (xe_0 nb nn)) (xc0 g 0) rfl (c_X10_bankOf l nb nn g L M hD hL (M 29 i_2 1) (ob_X10_home_18_p0 nb nn nt M hp0 hp1 i_2 o_3 hq_5 hi_4)) rfl hl.1 (Nat.le_of_ble_eq_true rfl) ⟨Nat.zero_le _, Nat.zero_le _⟩ dX10_home_18 rfl (fun r_6 u H locs hp_ hP hS => ?_)
    obtain ⟨hp_, eu_⟩ := hp_
    rw [eu_] at hP
    clear eu_
    subst hp_
    rcases o_8 : f_X10_bankOf (M 29 i_2 1) M with _ | i_7
    · replace hres := xopt_n hres o_8
      refine lv_astore_nN (lv' := [(3, .null), (2, .ref (xad g 29 i_2)), (0, .ref (xad g 0 0)), (1, .int nt)]) hx hb dX10_home_21 rfl hl (by decide) rfl (fun ls hl => ?_)
      refine lv_aload_n hx hb dX10_home_22 rfl (lv_at hl 1 rfl) ?_
      refine gf_RX10_265 hx hb hts hown hK hP (hL 29 i_2 hi_4) dX10_home_23 ?_
      refine lv_if_ne (tgt := 33) hx hb dX10_home_26 (by decide) (fun c_11 => ?_) (fun c_11 => ?_)
      · replace hres := hres.trans (if_neg c_11)
        refine lv_ldcw (own := RX10) (v := (-1000002)) hx hb hown (hts _ (List.mem_cons_of_mem _ wd_848)) dX10_home_33 ?_
        exact x_reti hx hb hr hlk hP hS (hres.symm.trans hF) dX10_home_36
      · replace hres := hres.trans (if_pos c_11)
        refine lv_aload_nN hx hb dX10_home_29 rfl (lv_at hl 0 rfl) ?_
        refine lv_ifnonnullN hx hb dX10_home_30 ?_
        refine lv_ldcw (own := RX10) (v := (-1000002)) hx hb hown (hts _ (List.mem_cons_of_mem _ wd_848)) dX10_home_33 ?_
        exact x_reti hx hb hr hlk hP hS (hres.symm.trans hF) dX10_home_36
    · replace hres := xopt_s hres o_8
      have hq_10 := (ob_X10_home_18_q nb nn nt M hp0 hp1 i_2 o_3 hq_5 hi_4 i_7 o_8)
      have hi_9 := hq_10.1
      refine lv_astore_n (lv' := [(3, .ref (xad g 27 i_7)), (2, .ref (xad g 29 i_2)), (0, .ref (xad g 0 0)), (1, .int nt)]) hx hb dX10_home_21 rfl hl (by decide) rfl (fun ls hl => ?_)
      refine lv_aload_n hx hb dX10_home_22 rfl (lv_at hl 1 rfl) ?_
      refine gf_RX10_265 hx hb hts hown hK hP (hL 29 i_2 hi_4) dX10_home_23 ?_
      refine lv_if_ne (tgt := 33) hx hb dX10_home_26 (by decide) (fun c_12 => ?_) (fun c_12 => ?_)
      · replace hres := hres.trans (if_neg c_12)
        refine lv_ldcw (own := RX10) (v := (-1000002)) hx hb hown (hts _ (List.mem_cons_of_mem _ wd_848)) dX10_home_33 ?_
        exact x_reti hx hb hr hlk hP hS (hres.symm.trans hF) dX10_home_36
      · replace hres := hres.trans (if_pos c_12)
        refine lv_aload_n hx hb dX10_home_29 rfl (lv_at hl 0 rfl) ?_
        refine lv_ifnonnull (tgt := 37) hx hb dX10_home_30 (by decide) ?_
        refine lv_aload_n hx hb dX10_home_37 rfl (lv_at hl 1 rfl) ?_
        refine gf_RX10_256 hx hb hts hown hK hP (hL 29 i_2 hi_4) dX10_home_38 ?_
        refine lv_aload_n hx hb dX10_home_41 rfl (lv_at hl 0 rfl) ?_
        refine gf_RX10_179 hx hb hts hown hK hP (hL 27 i_7 hi_9) dX10_home_42 ?_
        refine lv_icmp_eq (tgt := 55) hx hb dX10_home_45 (by decide) (fun c_13 => ?_) (fun c_13 => ?_)
        · replace hres := hres.trans (if_pos c_13)
          refine lv_aload_n hx hb dX10_home_55 rfl (lv_at hl 1 rfl) ?_
          refine lv_iconst (v := 1) hx hb dX10_home_56 (by decide) ?_
          refine pf_RX10_265 hx hb hts hown hK hP hD hS (hL 29 i_2 hi_4) dX10_home_57 (fun H locs hP hS => ?_)
          obtain ⟨M_14, eM_14⟩ : ∃ z_ : xM, z_ = xup M 29 i_2 5 1 := ⟨_, rfl⟩
          rw [← eM_14] at hP
          replace hres := xlet_n hres eM_14
          refine lv_aload_n hx hb dX10_home_60 rfl (lv_at hl 0 rfl) ?_
          refine lv_aload_n hx hb dX10_home_61 rfl (lv_at hl 1 rfl) ?_
          refine gf_RX10_253 hx hb hts hown hK hP (hL 29 i_2 hi_4) dX10_home_62 ?_
          refine x_callVi (As := [.int (M_14 29 i_2 2)]) S hK hAm hD hP hS mt_X0_payOut wd_864 ⟨by decide, by decide⟩ (hL 27 i_7 hi_9) (xc27 g i_7) rfl (c_X0_payOut l nb nn g L M_14 hD hL i_7 (M_14 29 i_2 2) hi_9) rfl hl.1 (Nat.le_of_ble_eq_true rfl) ⟨Nat.zero_le _, Nat.zero_le _⟩ dX10_home_65 rfl (fun r_15 M_16 H locs ep_ hP hS => ?_)
          replace hres := xlet2_n hres ep_
          have er_15 : r_15 = (f_X0_payOut i_7 (M_14 29 i_2 2) M_14).1 := congrArg Prod.fst ep_
          have eM_16 : M_16 = (f_X0_payOut i_7 (M_14 29 i_2 2) M_14).2 := congrArg Prod.snd ep_
          clear ep_
          exact x_reti hx hb hr hlk hP hS (hres.symm.trans hF) dX10_home_68
        · replace hres := hres.trans (if_neg c_13)
          refine lv_aload_n hx hb dX10_home_48 rfl (lv_at hl 1 rfl) ?_
          refine lv_iconst (v := 2) hx hb dX10_home_49 (by decide) ?_
          refine pf_RX10_265 hx hb hts hown hK hP hD hS (hL 29 i_2 hi_4) dX10_home_50 (fun H locs hP hS => ?_)
          obtain ⟨M_17, eM_17⟩ : ∃ z_ : xM, z_ = xup M 29 i_2 5 2 := ⟨_, rfl⟩
          rw [← eM_17] at hP
          replace hres := xlet_n hres eM_17
          refine lv_iconst (v := 0) hx hb dX10_home_53 (by decide) ?_
          exact x_reti hx hb hr hlk hP hS (hres.symm.trans hF) dX10_home_54
set_option maxHeartbeats 4000000 in
set_option maxRecDepth 100000 in
theorem c_X10_cut (l : Launch) (nb nn : Nat) (g : xG) (L : List (Nat × Nat)) (M : xM) (hD : xD g L) (hL : xEL nb nn L) (nt : Int32) (to : Int32) (hp0 : xHN nn M) (hp1 : xHT M) : xCi l yX10_cut cX10_cut 4 (some .int) 2 g L M [.ref (xad g 0 0), .int nt, .int to] (fun r u => (r, u) = f_X10_cut nt to M) := by
  intro sz
  refine x_beg (by decide +kernel) rfl ?_
  intro p e s m args below meth c ls hsz hB
  subst hsz
  obtain ⟨hx, hb, hml, hown, hts, hr, hlk, hK, hAm, hP, hl⟩ := hB
  have S : CallFix p m c cX10_cut 4 s args (xws yX10_cut cX10_cut 4 (some .int)) RX10 := ⟨hx, hb, hml, hown, hts⟩
  have hown : s.vm.findClass RX10 = some m.cls := hown
  have hl : lv_has ls 4 [(0, .ref (xad g 0 0)), (1, .int nt), (2, .int to)] := hl
  have hS : va_S (xA g L s.heap.size) s.heap s.heap [] := va_S.rf
  obtain ⟨F, hF⟩ : ∃ F, F = f_X10_cut nt to M := ⟨_, rfl⟩
  have hres := hF
  rw [f_X10_cut] at hres
  refine lv_aload_n hx hb dX10_cut_0 rfl (lv_at hl 0 rfl) ?_
  refine lv_iload_n hx hb dX10_cut_1 rfl (lv_at hl 1 rfl) ?_
  refine x_callVq (As := [.int nt]) S hK hAm hD hP hS mt_X10_noteOf wd_725 ⟨by decide, by decide⟩ (hL 0 0 (xe_0 nb nn)) (xc0 g 0) rfl (c_X10_noteOf l nb nn g L M hD hL nt (ob_X10_cut_2_p0 nb nn nt to M hp0 hp1)) rfl hl.1 (Nat.le_of_ble_eq_true rfl) ⟨Nat.zero_le _, Nat.zero_le _⟩ dX10_cut_2 rfl (fun r_1 u H locs hp_ hP hS => ?_)
  obtain ⟨hp_, eu_⟩ := hp_
  rw [eu_] at hP
  clear eu_
  subst hp_
  rcases o_3 : f_X10_noteOf nt M with _ | i_2
  · replace hres := xopt_n hres o_3
    refine lv_astore_nN (lv' := [(3, .null), (0, .ref (xad g 0 0)), (1, .int nt), (2, .int to)]) hx hb dX10_cut_5 rfl hl (by decide) rfl (fun ls hl => ?_)
    refine lv_aload_nN hx hb dX10_cut_6 rfl (lv_at hl 0 rfl) ?_
    refine lv_ifnullN (tgt := 26) hx hb dX10_cut_7 (by decide) ?_
    refine lv_ldc (own := RX10) (v := (-1000001)) hx hb hown (hts _ (List.mem_cons_of_mem _ wd_174)) dX10_cut_26 ?_
    exact x_reti hx hb hr hlk hP hS (hres.symm.trans hF) dX10_cut_28
  · replace hres := xopt_s hres o_3
    have hq_5 := (ob_X10_cut_2_q nb nn nt to M hp0 hp1 i_2 o_3)
    have hi_4 := hq_5.1
    refine lv_astore_n (lv' := [(3, .ref (xad g 29 i_2)), (0, .ref (xad g 0 0)), (1, .int nt), (2, .int to)]) hx hb dX10_cut_5 rfl hl (by decide) rfl (fun ls hl => ?_)
    refine lv_aload_n hx hb dX10_cut_6 rfl (lv_at hl 0 rfl) ?_
    refine lv_ifnull hx hb dX10_cut_7 ?_
    refine lv_aload_n hx hb dX10_cut_10 rfl (lv_at hl 1 rfl) ?_
    refine lv_iload_n hx hb dX10_cut_11 rfl (lv_at hl 3 rfl) ?_
    refine x_callVq (As := [.int to]) S hK hAm hD hP hS mt_X10_traderOf wd_677 ⟨by decide, by decide⟩ (hL 0 0 (xe_0 nb nn)) (xc0 g 0) rfl (c_X10_traderOf l nb nn g L M hD hL to (ob_X10_cut_12_p0 nb nn nt to M hp0 hp1 i_2 o_3 hq_5 hi_4)) rfl hl.1 (Nat.le_of_ble_eq_true rfl) ⟨Nat.zero_le _, Nat.zero_le _⟩ dX10_cut_12 rfl (fun r_6 u H locs hp_ hP hS => ?_)
    obtain ⟨hp_, eu_⟩ := hp_
    rw [eu_] at hP
    clear eu_
    subst hp_
    rcases o_8 : f_X10_traderOf to M with _ | i_7
    · replace hres := xopt_n hres o_8
      refine lv_ifnullN (tgt := 26) hx hb dX10_cut_15 (by decide) ?_
      refine lv_ldc (own := RX10) (v := (-1000001)) hx hb hown (hts _ (List.mem_cons_of_mem _ wd_174)) dX10_cut_26 ?_
      exact x_reti hx hb hr hlk hP hS (hres.symm.trans hF) dX10_cut_28
    · replace hres := xopt_s hres o_8
      have hq_10 := (ob_X10_cut_12_q nb nn nt to M hp0 hp1 i_2 o_3 hq_5 hi_4 i_7 o_8)
      have hi_9 := hq_10.1
      refine lv_ifnull hx hb dX10_cut_15 ?_
      refine lv_aload_n hx hb dX10_cut_18 rfl (lv_at hl 0 rfl) ?_
      refine x_callVi (As := []) S hK hAm hD hP hS mt_X4_holder wd_729 ⟨by decide, by decide⟩ (hL 29 i_2 hi_4) (xc29 g i_2) rfl (c_X4_holder l nb nn g L M hD hL i_2 hi_4) rfl hl.1 (Nat.le_of_ble_eq_true rfl) ⟨Nat.zero_le _, Nat.zero_le _⟩ dX10_cut_19 rfl (fun r_11 u H locs hp_ hP hS => ?_)
      obtain ⟨er_11, eu_⟩ := hp_
      rw [eu_] at hP
      clear eu_
      replace hres := xlet_n hres er_11
      refine lv_iload_n hx hb dX10_cut_22 rfl (lv_at hl 3 rfl) ?_
      refine lv_icmp_ne (tgt := 29) hx hb dX10_cut_23 (by decide) (fun c_12 => ?_) (fun c_12 => ?_)
      · replace hres := hres.trans (if_neg c_12)
        refine lv_aload_n hx hb dX10_cut_29 rfl (lv_at hl 0 rfl) ?_
        refine gf_RX10_265 hx hb hts hown hK hP (hL 29 i_2 hi_4) dX10_cut_30 ?_
        refine lv_if_ne (tgt := 43) hx hb dX10_cut_33 (by decide) (fun c_13 => ?_) (fun c_13 => ?_)
        · replace hres := hres.trans (if_neg c_13)
          refine lv_ldcw (own := RX10) (v := (-1000002)) hx hb hown (hts _ (List.mem_cons_of_mem _ wd_848)) dX10_cut_43 ?_
          exact x_reti hx hb hr hlk hP hS (hres.symm.trans hF) dX10_cut_46
        · replace hres := hres.trans (if_pos c_13)
          refine lv_aload_n hx hb dX10_cut_36 rfl (lv_at hl 0 rfl) ?_
          refine gf_RX10_309 hx hb hts hown hK hP (hL 29 i_2 hi_4) dX10_cut_37 ?_
          refine lv_if_eq (tgt := 47) hx hb dX10_cut_40 (by decide) (fun c_14 => ?_) (fun c_14 => ?_)
          · replace hres := hres.trans (if_pos c_14)
            refine lv_aload_n hx hb dX10_cut_47 rfl (lv_at hl 0 rfl) ?_
            refine lv_iload_n hx hb dX10_cut_48 rfl (lv_at hl 3 rfl) ?_
            refine x_callVv (As := [.int to]) S hK hAm hD hP hS mt_X4_halve wd_877 ⟨by decide, by decide⟩ (hL 29 i_2 hi_4) (xc29 g i_2) rfl (c_X4_halve l nb nn g L M hD hL i_2 to hi_4) rfl hl.1 (Nat.le_of_ble_eq_true rfl) ⟨Nat.zero_le _, Nat.zero_le _⟩ dX10_cut_49 rfl (fun M_16 H locs eM_16 hP hS => ?_)
            replace hres := xlet_n hres eM_16
            refine lv_iconst (v := 1) hx hb dX10_cut_52 (by decide) ?_
            exact x_reti hx hb hr hlk hP hS (hres.symm.trans hF) dX10_cut_53
          · replace hres := hres.trans (if_neg c_14)
            refine lv_ldcw (own := RX10) (v := (-1000002)) hx hb hown (hts _ (List.mem_cons_of_mem _ wd_848)) dX10_cut_43 ?_
            exact x_reti hx hb hr hlk hP hS (hres.symm.trans hF) dX10_cut_46
      · replace hres := hres.trans (if_pos c_12)
        refine lv_ldc (own := RX10) (v := (-1000001)) hx hb hown (hts _ (List.mem_cons_of_mem _ wd_174)) dX10_cut_26 ?_
        exact x_reti hx hb hr hlk hP hS (hres.symm.trans hF) dX10_cut_28
set_option maxHeartbeats 4000000 in
set_option maxRecDepth 100000 in
theorem c_X10_half (l : Launch) (nb nn : Nat) (g : xG) (L : List (Nat × Nat)) (M : xM) (hD : xD g L) (hL : xEL nb nn L) (nt : Int32) (hf : Int32) (to : Int32) (hp0 : xHN nn M) (hp1 : xHT M) (hp2 : ∀ i : Nat, 0 ≤ M 29 i 6 ∧ M 29 i 6 ≤ 12) : xCi l yX10_half cX10_half 5 (some .int) 2 g L M [.ref (xad g 0 0), .int nt, .int hf, .int to] (fun r u => (r, u) = f_X10_half nt hf to M) := by
  intro sz
  refine x_beg (by decide +kernel) rfl ?_
  intro p e s m args below meth c ls hsz hB
  subst hsz
  obtain ⟨hx, hb, hml, hown, hts, hr, hlk, hK, hAm, hP, hl⟩ := hB
  have S : CallFix p m c cX10_half 5 s args (xws yX10_half cX10_half 5 (some .int)) RX10 := ⟨hx, hb, hml, hown, hts⟩
  have hown : s.vm.findClass RX10 = some m.cls := hown
  have hl : lv_has ls 5 [(0, .ref (xad g 0 0)), (1, .int nt), (2, .int hf), (3, .int to)] := hl
  have hS : va_S (xA g L s.heap.size) s.heap s.heap [] := va_S.rf
  obtain ⟨F, hF⟩ : ∃ F, F = f_X10_half nt hf to M := ⟨_, rfl⟩
  have hres := hF
  rw [f_X10_half] at hres
  refine lv_aload_n hx hb dX10_half_0 rfl (lv_at hl 0 rfl) ?_
  refine lv_iload_n hx hb dX10_half_1 rfl (lv_at hl 1 rfl) ?_
  refine x_callVq (As := [.int nt]) S hK hAm hD hP hS mt_X10_noteOf wd_725 ⟨by decide, by decide⟩ (hL 0 0 (xe_0 nb nn)) (xc0 g 0) rfl (c_X10_noteOf l nb nn g L M hD hL nt (ob_X10_half_2_p0 nb nn nt hf to M hp0 hp1 hp2)) rfl hl.1 (Nat.le_of_ble_eq_true rfl) ⟨Nat.zero_le _, Nat.zero_le _⟩ dX10_half_2 rfl (fun r_1 u H locs hp_ hP hS => ?_)
  obtain ⟨hp_, eu_⟩ := hp_
  rw [eu_] at hP
  clear eu_
  subst hp_
  rcases o_3 : f_X10_noteOf nt M with _ | i_2
  · replace hres := xopt_n hres o_3
    refine lv_astoreN (lv' := [(4, .null), (0, .ref (xad g 0 0)), (1, .int nt), (2, .int hf), (3, .int to)]) hx hb dX10_half_5 hl (by decide) rfl (fun ls hl => ?_)
    refine lv_aloadN hx hb dX10_half_7 (lv_at hl 0 rfl) ?_
    refine lv_ifnullN (tgt := 35) hx hb dX10_half_9 (by decide) ?_
    refine lv_ldc (own := RX10) (v := (-1000001)) hx hb hown (hts _ (List.mem_cons_of_mem _ wd_174)) dX10_half_35 ?_
    exact x_reti hx hb hr hlk hP hS (hres.symm.trans hF) dX10_half_37
  · replace hres := xopt_s hres o_3
    have hq_5 := (ob_X10_half_2_q nb nn nt hf to M hp0 hp1 hp2 i_2 o_3)
    have hi_4 := hq_5.1
    refine lv_astore (lv' := [(4, .ref (xad g 29 i_2)), (0, .ref (xad g 0 0)), (1, .int nt), (2, .int hf), (3, .int to)]) hx hb dX10_half_5 hl (by decide) rfl (fun ls hl => ?_)
    refine lv_aload hx hb dX10_half_7 (lv_at hl 0 rfl) ?_
    refine lv_ifnull hx hb dX10_half_9 ?_
    refine lv_iload_n hx hb dX10_half_12 rfl (lv_at hl 3 rfl) ?_
    refine lv_iconst (v := 1) hx hb dX10_half_13 (by decide) ?_
    refine x_callSi (As := [.int hf, .int 1]) S hK hAm hD hP hS mt_X10_isUpTo wd_179 ⟨by decide, by decide⟩ (c_X10_isUpTo l nb nn g L M hD hL hf 1) rfl hl.1 (Nat.le_of_ble_eq_true rfl) ⟨Nat.zero_le _, Nat.zero_le _⟩ dX10_half_14 rfl (fun r_6 u H locs hp_ hP hS => ?_)
    obtain ⟨er_6, eu_⟩ := hp_
    rw [eu_] at hP
    clear eu_
    replace hres := xlet_n hres er_6
    refine lv_if_eq (tgt := 35) hx hb dX10_half_17 (by decide) (fun c_7 => ?_) (fun c_7 => ?_)
    · replace hres := hres.trans (if_pos c_7)
      refine lv_ldc (own := RX10) (v := (-1000001)) hx hb hown (hts _ (List.mem_cons_of_mem _ wd_174)) dX10_half_35 ?_
      exact x_reti hx hb hr hlk hP hS (hres.symm.trans hF) dX10_half_37
    · replace hres := hres.trans (if_neg c_7)
      refine lv_iload_n hx hb dX10_half_20 rfl (lv_at hl 4 rfl) ?_
      refine lv_ldcw (own := RX10) (v := (-1000000)) hx hb hown (hts _ (List.mem_cons_of_mem _ wd_629)) dX10_half_21 ?_
      refine lv_icmp_eq (tgt := 38) hx hb dX10_half_24 (by decide) (fun c_8 => ?_) (fun c_8 => ?_)
      · replace hres := hres.trans (if_pos c_8)
        refine lv_aload hx hb dX10_half_38 (lv_at hl 0 rfl) ?_
        refine gf_RX10_265 hx hb hts hown hK hP (hL 29 i_2 hi_4) dX10_half_40 ?_
        refine lv_iconst (v := 3) hx hb dX10_half_43 (by decide) ?_
        refine lv_icmp_ne (tgt := 59) hx hb dX10_half_44 (by decide) (fun c_9 => ?_) (fun c_9 => ?_)
        · replace hres := hres.trans (if_neg c_9)
          refine lv_ldcw (own := RX10) (v := (-1000002)) hx hb hown (hts _ (List.mem_cons_of_mem _ wd_848)) dX10_half_59 ?_
          exact x_reti hx hb hr hlk hP hS (hres.symm.trans hF) dX10_half_62
        · replace hres := hres.trans (if_pos c_9)
          refine lv_aload hx hb dX10_half_47 (lv_at hl 0 rfl) ?_
          refine lv_iload_n hx hb dX10_half_49 rfl (lv_at hl 3 rfl) ?_
          refine x_callVi (As := [.int hf]) S hK hAm hD hP hS mt_X4_halfHolder wd_889 ⟨by decide, by decide⟩ (hL 29 i_2 hi_4) (xc29 g i_2) rfl (c_X4_halfHolder l nb nn g L M hD hL i_2 hf hi_4) rfl hl.1 (Nat.le_of_ble_eq_true rfl) ⟨Nat.zero_le _, Nat.zero_le _⟩ dX10_half_50 rfl (fun r_10 u H locs hp_ hP hS => ?_)
          obtain ⟨er_10, eu_⟩ := hp_
          rw [eu_] at hP
          clear eu_
          replace hres := xlet_n hres er_10
          refine lv_ldcw (own := RX10) (v := (-1000000)) hx hb hown (hts _ (List.mem_cons_of_mem _ wd_629)) dX10_half_53 ?_
          refine lv_icmp_ne (tgt := 63) hx hb dX10_half_56 (by decide) (fun c_11 => ?_) (fun c_11 => ?_)
          · replace hres := hres.trans (if_neg c_11)
            refine lv_aload hx hb dX10_half_63 (lv_at hl 0 rfl) ?_
            refine lv_iload_n hx hb dX10_half_65 rfl (lv_at hl 3 rfl) ?_
            refine lv_iload_n hx hb dX10_half_66 rfl (lv_at hl 4 rfl) ?_
            refine lv_aload_n hx hb dX10_half_67 rfl (lv_at hl 1 rfl) ?_
            refine gf_RX10_91 hx hb hts hown hK hP (hL 0 0 (xe_0 nb nn)) dX10_half_68 ?_
            refine x_callVv (As := [.int hf, .int to, .int (M 0 0 14)]) S hK hAm hD hP hS mt_X4_moveHalf wd_893 ⟨by decide, by decide⟩ (hL 29 i_2 hi_4) (xc29 g i_2) rfl (c_X4_moveHalf l nb nn g L M hD hL i_2 hf to (M 0 0 14) hi_4 (ob_X10_half_71_p0 nb nn nt hf to M hp0 hp1 hp2 i_2 o_3 hq_5 hi_4 r_6 er_6 c_7 c_8 c_9 r_10 er_10 c_11)) rfl hl.1 (Nat.le_of_ble_eq_true rfl) ⟨Nat.zero_le _, Nat.zero_le _⟩ dX10_half_71 rfl (fun M_13 H locs eM_13 hP hS => ?_)
            replace hres := xlet_n hres eM_13
            refine lv_aload hx hb dX10_half_74 (lv_at hl 0 rfl) ?_
            refine x_callVi (As := []) S hK hAm hD hP hS mt_X4_wouldBePaid wd_898 ⟨by decide, by decide⟩ (hL 29 i_2 hi_4) (xc29 g i_2) rfl (c_X4_wouldBePaid l nb nn g L M_13 hD hL i_2 hi_4) rfl hl.1 (Nat.le_of_ble_eq_true rfl) ⟨Nat.zero_le _, Nat.zero_le _⟩ dX10_half_76 rfl (fun r_14 u H locs hp_ hP hS => ?_)
            obtain ⟨er_14, eu_⟩ := hp_
            rw [eu_] at hP
            clear eu_
            replace hres := xlet_n hres er_14
            exact x_reti hx hb hr hlk hP hS (hres.symm.trans hF) dX10_half_79
          · replace hres := hres.trans (if_pos c_11)
            refine lv_ldcw (own := RX10) (v := (-1000002)) hx hb hown (hts _ (List.mem_cons_of_mem _ wd_848)) dX10_half_59 ?_
            exact x_reti hx hb hr hlk hP hS (hres.symm.trans hF) dX10_half_62
      · replace hres := hres.trans (if_neg c_8)
        refine lv_aload_n hx hb dX10_half_27 rfl (lv_at hl 1 rfl) ?_
        refine lv_iload_n hx hb dX10_half_28 rfl (lv_at hl 4 rfl) ?_
        refine x_callVq (As := [.int to]) S hK hAm hD hP hS mt_X10_traderOf wd_677 ⟨by decide, by decide⟩ (hL 0 0 (xe_0 nb nn)) (xc0 g 0) rfl (c_X10_traderOf l nb nn g L M hD hL to (ob_X10_half_29_p0 nb nn nt hf to M hp0 hp1 hp2 i_2 o_3 hq_5 hi_4 r_6 er_6 c_7 c_8)) rfl hl.1 (Nat.le_of_ble_eq_true rfl) ⟨Nat.zero_le _, Nat.zero_le _⟩ dX10_half_29 rfl (fun r_15 u H locs hp_ hP hS => ?_)
        obtain ⟨hp_, eu_⟩ := hp_
        rw [eu_] at hP
        clear eu_
        subst hp_
        rcases o_17 : f_X10_traderOf to M with _ | i_16
        · replace hres := xopt_n hres o_17
          refine lv_ifnonnullN hx hb dX10_half_32 ?_
          refine lv_ldc (own := RX10) (v := (-1000001)) hx hb hown (hts _ (List.mem_cons_of_mem _ wd_174)) dX10_half_35 ?_
          exact x_reti hx hb hr hlk hP hS (hres.symm.trans hF) dX10_half_37
        · replace hres := xopt_s hres o_17
          have hq_19 := (ob_X10_half_29_q nb nn nt hf to M hp0 hp1 hp2 i_2 o_3 hq_5 hi_4 r_6 er_6 c_7 c_8 i_16 o_17)
          have hi_18 := hq_19.1
          refine lv_ifnonnull (tgt := 38) hx hb dX10_half_32 (by decide) ?_
          refine lv_aload hx hb dX10_half_38 (lv_at hl 0 rfl) ?_
          refine gf_RX10_265 hx hb hts hown hK hP (hL 29 i_2 hi_4) dX10_half_40 ?_
          refine lv_iconst (v := 3) hx hb dX10_half_43 (by decide) ?_
          refine lv_icmp_ne (tgt := 59) hx hb dX10_half_44 (by decide) (fun c_20 => ?_) (fun c_20 => ?_)
          · replace hres := hres.trans (if_neg c_20)
            refine lv_ldcw (own := RX10) (v := (-1000002)) hx hb hown (hts _ (List.mem_cons_of_mem _ wd_848)) dX10_half_59 ?_
            exact x_reti hx hb hr hlk hP hS (hres.symm.trans hF) dX10_half_62
          · replace hres := hres.trans (if_pos c_20)
            refine lv_aload hx hb dX10_half_47 (lv_at hl 0 rfl) ?_
            refine lv_iload_n hx hb dX10_half_49 rfl (lv_at hl 3 rfl) ?_
            refine x_callVi (As := [.int hf]) S hK hAm hD hP hS mt_X4_halfHolder wd_889 ⟨by decide, by decide⟩ (hL 29 i_2 hi_4) (xc29 g i_2) rfl (c_X4_halfHolder l nb nn g L M hD hL i_2 hf hi_4) rfl hl.1 (Nat.le_of_ble_eq_true rfl) ⟨Nat.zero_le _, Nat.zero_le _⟩ dX10_half_50 rfl (fun r_21 u H locs hp_ hP hS => ?_)
            obtain ⟨er_21, eu_⟩ := hp_
            rw [eu_] at hP
            clear eu_
            replace hres := xlet_n hres er_21
            refine lv_ldcw (own := RX10) (v := (-1000000)) hx hb hown (hts _ (List.mem_cons_of_mem _ wd_629)) dX10_half_53 ?_
            refine lv_icmp_ne (tgt := 63) hx hb dX10_half_56 (by decide) (fun c_22 => ?_) (fun c_22 => ?_)
            · replace hres := hres.trans (if_neg c_22)
              refine lv_aload hx hb dX10_half_63 (lv_at hl 0 rfl) ?_
              refine lv_iload_n hx hb dX10_half_65 rfl (lv_at hl 3 rfl) ?_
              refine lv_iload_n hx hb dX10_half_66 rfl (lv_at hl 4 rfl) ?_
              refine lv_aload_n hx hb dX10_half_67 rfl (lv_at hl 1 rfl) ?_
              refine gf_RX10_91 hx hb hts hown hK hP (hL 0 0 (xe_0 nb nn)) dX10_half_68 ?_
              refine x_callVv (As := [.int hf, .int to, .int (M 0 0 14)]) S hK hAm hD hP hS mt_X4_moveHalf wd_893 ⟨by decide, by decide⟩ (hL 29 i_2 hi_4) (xc29 g i_2) rfl (c_X4_moveHalf l nb nn g L M hD hL i_2 hf to (M 0 0 14) hi_4 (ob_X10_half_71_p0_2 nb nn nt hf to M hp0 hp1 hp2 i_2 o_3 hq_5 hi_4 r_6 er_6 c_7 c_8 i_16 o_17 hq_19 hi_18 c_20 r_21 er_21 c_22)) rfl hl.1 (Nat.le_of_ble_eq_true rfl) ⟨Nat.zero_le _, Nat.zero_le _⟩ dX10_half_71 rfl (fun M_24 H locs eM_24 hP hS => ?_)
              replace hres := xlet_n hres eM_24
              refine lv_aload hx hb dX10_half_74 (lv_at hl 0 rfl) ?_
              refine x_callVi (As := []) S hK hAm hD hP hS mt_X4_wouldBePaid wd_898 ⟨by decide, by decide⟩ (hL 29 i_2 hi_4) (xc29 g i_2) rfl (c_X4_wouldBePaid l nb nn g L M_24 hD hL i_2 hi_4) rfl hl.1 (Nat.le_of_ble_eq_true rfl) ⟨Nat.zero_le _, Nat.zero_le _⟩ dX10_half_76 rfl (fun r_25 u H locs hp_ hP hS => ?_)
              obtain ⟨er_25, eu_⟩ := hp_
              rw [eu_] at hP
              clear eu_
              replace hres := xlet_n hres er_25
              exact x_reti hx hb hr hlk hP hS (hres.symm.trans hF) dX10_half_79
            · replace hres := hres.trans (if_pos c_22)
              refine lv_ldcw (own := RX10) (v := (-1000002)) hx hb hown (hts _ (List.mem_cons_of_mem _ wd_848)) dX10_half_59 ?_
              exact x_reti hx hb hr hlk hP hS (hres.symm.trans hF) dX10_half_62
set_option maxHeartbeats 4000000 in
set_option maxRecDepth 100000 in
theorem c_X10_kindOf (l : Launch) (nb nn : Nat) (g : xG) (L : List (Nat × Nat)) (M : xM) (hD : xD g L) (hL : xEL nb nn L) (nt : Nat) (hnt : nt < nn) (hp0 : xHB nb M) : xCi l yX10_kindOf cX10_kindOf 3 (some .int) 2 g L M [.ref (xad g 0 0), .ref (xad g 29 nt)] (fun r u => r = f_X10_kindOf nt M ∧ u = M) := by
  intro sz
  refine x_beg (by decide +kernel) rfl ?_
  intro p e s m args below meth c ls hsz hB
  subst hsz
  obtain ⟨hx, hb, hml, hown, hts, hr, hlk, hK, hAm, hP, hl⟩ := hB
  have S : CallFix p m c cX10_kindOf 3 s args (xws yX10_kindOf cX10_kindOf 3 (some .int)) RX10 := ⟨hx, hb, hml, hown, hts⟩
  have hown : s.vm.findClass RX10 = some m.cls := hown
  have hl : lv_has ls 3 [(0, .ref (xad g 0 0)), (1, .ref (xad g 29 nt))] := hl
  have hS : va_S (xA g L s.heap.size) s.heap s.heap [] := va_S.rf
  obtain ⟨F, hF⟩ : ∃ F, F = f_X10_kindOf nt M := ⟨_, rfl⟩
  have hres := hF
  rw [f_X10_kindOf] at hres
  refine lv_aload_n hx hb dX10_kindOf_0 rfl (lv_at hl 1 rfl) ?_
  refine gf_RX10_265 hx hb hts hown hK hP (hL 29 nt hnt) dX10_kindOf_1 ?_
  refine lv_iconst (v := 2) hx hb dX10_kindOf_4 (by decide) ?_
  refine lv_icmp_ne (tgt := 10) hx hb dX10_kindOf_5 (by decide) (fun c_1 => ?_) (fun c_1 => ?_)
  · replace hres := hres.trans (if_neg c_1)
    refine lv_aload_n hx hb dX10_kindOf_10 rfl (lv_at hl 1 rfl) ?_
    refine gf_RX10_265 hx hb hts hown hK hP (hL 29 nt hnt) dX10_kindOf_11 ?_
    refine lv_iconst (v := 3) hx hb dX10_kindOf_14 (by decide) ?_
    refine lv_icmp_ne (tgt := 20) hx hb dX10_kindOf_15 (by decide) (fun c_2 => ?_) (fun c_2 => ?_)
    · replace hres := hres.trans (if_neg c_2)
      refine lv_aload_n hx hb dX10_kindOf_20 rfl (lv_at hl 0 rfl) ?_
      refine lv_aload_n hx hb dX10_kindOf_21 rfl (lv_at hl 1 rfl) ?_
      refine gf_RX10_250 hx hb hts hown hK hP (hL 29 nt hnt) dX10_kindOf_22 ?_
      refine x_callVq (As := [.int (M 29 nt 1)]) S hK hAm hD hP hS mt_X10_bankOf wd_338 ⟨by decide, by decide⟩ (hL 0 0 (xe_0 nb nn)) (xc0 g 0) rfl (c_X10_bankOf l nb nn g L M hD hL (M 29 nt 1) (ob_X10_kindOf_25_p0 nb nn nt M hnt hp0 c_1 c_2)) rfl hl.1 (Nat.le_of_ble_eq_true rfl) ⟨Nat.zero_le _, Nat.zero_le _⟩ dX10_kindOf_25 rfl (fun r_3 u H locs hp_ hP hS => ?_)
      obtain ⟨hp_, eu_⟩ := hp_
      rw [eu_] at hP
      clear eu_
      subst hp_
      rcases o_5 : f_X10_bankOf (M 29 nt 1) M with _ | i_4
      · replace hres := xopt_n hres o_5
        refine lv_astore_nN (lv' := [(2, .null), (0, .ref (xad g 0 0)), (1, .ref (xad g 29 nt))]) hx hb dX10_kindOf_28 rfl hl (by decide) rfl (fun ls hl => ?_)
        refine lv_aload_nN hx hb dX10_kindOf_29 rfl (lv_at hl 0 rfl) ?_
        refine lv_ifnonnullN hx hb dX10_kindOf_30 ?_
        refine lv_iconst (v := 3) hx hb dX10_kindOf_33 (by decide) ?_
        exact x_reti hx hb hr hlk hP hS ⟨hres.symm.trans hF, rfl⟩ dX10_kindOf_34
      · replace hres := xopt_s hres o_5
        have hq_7 := (ob_X10_kindOf_25_q nb nn nt M hnt hp0 c_1 c_2 i_4 o_5)
        have hi_6 := hq_7.1
        refine lv_astore_n (lv' := [(2, .ref (xad g 27 i_4)), (0, .ref (xad g 0 0)), (1, .ref (xad g 29 nt))]) hx hb dX10_kindOf_28 rfl hl (by decide) rfl (fun ls hl => ?_)
        refine lv_aload_n hx hb dX10_kindOf_29 rfl (lv_at hl 0 rfl) ?_
        refine lv_ifnonnull (tgt := 35) hx hb dX10_kindOf_30 (by decide) ?_
        refine lv_aload_n hx hb dX10_kindOf_35 rfl (lv_at hl 2 rfl) ?_
        refine lv_aload_n hx hb dX10_kindOf_36 rfl (lv_at hl 0 rfl) ?_
        refine gf_RX10_179 hx hb hts hown hK hP (hL 27 i_4 hi_6) dX10_kindOf_37 ?_
        refine x_callVi (As := [.int (M 27 i_4 1)]) S hK hAm hD hP hS mt_X4_isUnlike wd_746 ⟨by decide, by decide⟩ (hL 29 nt hnt) (xc29 g nt) rfl (c_X4_isUnlike l nb nn g L M hD hL nt (M 27 i_4 1) hnt) rfl hl.1 (Nat.le_of_ble_eq_true rfl) ⟨Nat.zero_le _, Nat.zero_le _⟩ dX10_kindOf_40 rfl (fun r_8 u H locs hp_ hP hS => ?_)
        obtain ⟨er_8, eu_⟩ := hp_
        rw [eu_] at hP
        clear eu_
        replace hres := xlet_n hres er_8
        refine lv_if_eq (tgt := 48) hx hb dX10_kindOf_43 (by decide) (fun c_9 => ?_) (fun c_9 => ?_)
        · replace hres := hres.trans (if_pos c_9)
          refine lv_aload_n hx hb dX10_kindOf_48 rfl (lv_at hl 2 rfl) ?_
          refine gf_RX10_259 hx hb hts hown hK hP (hL 29 nt hnt) dX10_kindOf_49 ?_
          refine lv_if_eq (tgt := 59) hx hb dX10_kindOf_52 (by decide) (fun c_10 => ?_) (fun c_10 => ?_)
          · replace hres := hres.trans (if_pos c_10)
            refine lv_iconst (v := 0) hx hb dX10_kindOf_59 (by decide) ?_
            exact x_reti hx hb hr hlk hP hS ⟨hres.symm.trans hF, rfl⟩ dX10_kindOf_60
          · replace hres := hres.trans (if_neg c_10)
            refine lv_iconst (v := 1) hx hb dX10_kindOf_55 (by decide) ?_
            refine lv_goto (tgt := 60) hx hb dX10_kindOf_56 (by decide) ?_
            exact x_reti hx hb hr hlk hP hS ⟨hres.symm.trans hF, rfl⟩ dX10_kindOf_60
        · replace hres := hres.trans (if_neg c_9)
          refine lv_iconst (v := 2) hx hb dX10_kindOf_46 (by decide) ?_
          exact x_reti hx hb hr hlk hP hS ⟨hres.symm.trans hF, rfl⟩ dX10_kindOf_47
    · replace hres := hres.trans (if_pos c_2)
      refine lv_iconst (v := 4) hx hb dX10_kindOf_18 (by decide) ?_
      exact x_reti hx hb hr hlk hP hS ⟨hres.symm.trans hF, rfl⟩ dX10_kindOf_19
  · replace hres := hres.trans (if_pos c_1)
    refine lv_iconst (v := 5) hx hb dX10_kindOf_8 (by decide) ?_
    exact x_reti hx hb hr hlk hP hS ⟨hres.symm.trans hF, rfl⟩ dX10_kindOf_9
set_option maxHeartbeats 4000000 in
set_option maxRecDepth 100000 in
theorem c_X10_kind (l : Launch) (nb nn : Nat) (g : xG) (L : List (Nat × Nat)) (M : xM) (hD : xD g L) (hL : xEL nb nn L) (nt : Int32) (hp0 : xHN nn M) (hp1 : xHB nb M) : xCi l yX10_kind cX10_kind 3 (some .int) 3 g L M [.ref (xad g 0 0), .int nt] (fun r u => r = f_X10_kind nt M ∧ u = M) := by
  intro sz
  refine x_beg (by decide +kernel) rfl ?_
  intro p e s m args below meth c ls hsz hB
  subst hsz
  obtain ⟨hx, hb, hml, hown, hts, hr, hlk, hK, hAm, hP, hl⟩ := hB
  have S : CallFix p m c cX10_kind 3 s args (xws yX10_kind cX10_kind 3 (some .int)) RX10 := ⟨hx, hb, hml, hown, hts⟩
  have hown : s.vm.findClass RX10 = some m.cls := hown
  have hl : lv_has ls 3 [(0, .ref (xad g 0 0)), (1, .int nt)] := hl
  have hS : va_S (xA g L s.heap.size) s.heap s.heap [] := va_S.rf
  obtain ⟨F, hF⟩ : ∃ F, F = f_X10_kind nt M := ⟨_, rfl⟩
  have hres := hF
  rw [f_X10_kind] at hres
  refine lv_aload_n hx hb dX10_kind_0 rfl (lv_at hl 0 rfl) ?_
  refine lv_iload_n hx hb dX10_kind_1 rfl (lv_at hl 1 rfl) ?_
  refine x_callVq (As := [.int nt]) S hK hAm hD hP hS mt_X10_noteOf wd_725 ⟨by decide, by decide⟩ (hL 0 0 (xe_0 nb nn)) (xc0 g 0) rfl (c_X10_noteOf l nb nn g L M hD hL nt (ob_X10_kind_2_p0 nb nn nt M hp0 hp1)) rfl hl.1 (Nat.le_of_ble_eq_true rfl) ⟨Nat.zero_le _, Nat.zero_le _⟩ dX10_kind_2 rfl (fun r_1 u H locs hp_ hP hS => ?_)
  obtain ⟨hp_, eu_⟩ := hp_
  rw [eu_] at hP
  clear eu_
  subst hp_
  rcases o_3 : f_X10_noteOf nt M with _ | i_2
  · replace hres := xopt_n hres o_3
    refine lv_astore_nN (lv' := [(2, .null), (0, .ref (xad g 0 0)), (1, .int nt)]) hx hb dX10_kind_5 rfl hl (by decide) rfl (fun ls hl => ?_)
    refine lv_aload_nN hx hb dX10_kind_6 rfl (lv_at hl 0 rfl) ?_
    refine lv_ifnonnullN hx hb dX10_kind_7 ?_
    refine lv_ldc (own := RX10) (v := (-1000001)) hx hb hown (hts _ (List.mem_cons_of_mem _ wd_174)) dX10_kind_10 ?_
    refine lv_goto (tgt := 20) hx hb dX10_kind_12 (by decide) ?_
    exact x_reti hx hb hr hlk hP hS ⟨hres.symm.trans hF, rfl⟩ dX10_kind_20
  · replace hres := xopt_s hres o_3
    have hq_5 := (ob_X10_kind_2_q nb nn nt M hp0 hp1 i_2 o_3)
    have hi_4 := hq_5.1
    refine lv_astore_n (lv' := [(2, .ref (xad g 29 i_2)), (0, .ref (xad g 0 0)), (1, .int nt)]) hx hb dX10_kind_5 rfl hl (by decide) rfl (fun ls hl => ?_)
    refine lv_aload_n hx hb dX10_kind_6 rfl (lv_at hl 0 rfl) ?_
    refine lv_ifnonnull (tgt := 15) hx hb dX10_kind_7 (by decide) ?_
    refine lv_aload_n hx hb dX10_kind_15 rfl (lv_at hl 1 rfl) ?_
    refine lv_aload_n hx hb dX10_kind_16 rfl (lv_at hl 0 rfl) ?_
    refine x_callVi (As := [.ref (xad g 29 i_2)]) S hK hAm hD hP hS mt_X10_kindOf wd_999 ⟨by decide, by decide⟩ (hL 0 0 (xe_0 nb nn)) (xc0 g 0) rfl (c_X10_kindOf l nb nn g L M hD hL i_2 hi_4 (ob_X10_kind_17_p0 nb nn nt M hp0 hp1 i_2 o_3 hq_5 hi_4)) rfl hl.1 (Nat.le_of_ble_eq_true rfl) ⟨Nat.zero_le _, Nat.zero_le _⟩ dX10_kind_17 rfl (fun r_6 u H locs hp_ hP hS => ?_)
    obtain ⟨er_6, eu_⟩ := hp_
    rw [eu_] at hP
    clear eu_
    replace hres := xlet_n hres er_6
    exact x_reti hx hb hr hlk hP hS ⟨hres.symm.trans hF, rfl⟩ dX10_kind_20
set_option maxHeartbeats 4000000 in
set_option maxRecDepth 100000 in
theorem c_X10_as (l : Launch) (nb nn : Nat) (g : xG) (L : List (Nat × Nat)) (M : xM) (hD : xD g L) (hL : xEL nb nn L) (nt : Int32) (kd : Int32) (hp0 : xHN nn M) (hp1 : xHB nb M) : xCi l yX10_as cX10_as 4 (some .int) 3 g L M [.ref (xad g 0 0), .int nt, .int kd] (fun r u => (r, u) = f_X10_as nt kd M) := by
  intro sz
  refine x_beg (by decide +kernel) rfl ?_
  intro p e s m args below meth c ls hsz hB
  subst hsz
  obtain ⟨hx, hb, hml, hown, hts, hr, hlk, hK, hAm, hP, hl⟩ := hB
  have S : CallFix p m c cX10_as 4 s args (xws yX10_as cX10_as 4 (some .int)) RX10 := ⟨hx, hb, hml, hown, hts⟩
  have hown : s.vm.findClass RX10 = some m.cls := hown
  have hl : lv_has ls 4 [(0, .ref (xad g 0 0)), (1, .int nt), (2, .int kd)] := hl
  have hS : va_S (xA g L s.heap.size) s.heap s.heap [] := va_S.rf
  obtain ⟨F, hF⟩ : ∃ F, F = f_X10_as nt kd M := ⟨_, rfl⟩
  have hres := hF
  rw [f_X10_as] at hres
  refine lv_aload_n hx hb dX10_as_0 rfl (lv_at hl 0 rfl) ?_
  refine lv_iload_n hx hb dX10_as_1 rfl (lv_at hl 1 rfl) ?_
  refine x_callVq (As := [.int nt]) S hK hAm hD hP hS mt_X10_noteOf wd_725 ⟨by decide, by decide⟩ (hL 0 0 (xe_0 nb nn)) (xc0 g 0) rfl (c_X10_noteOf l nb nn g L M hD hL nt (ob_X10_as_2_p0 nb nn nt kd M hp0 hp1)) rfl hl.1 (Nat.le_of_ble_eq_true rfl) ⟨Nat.zero_le _, Nat.zero_le _⟩ dX10_as_2 rfl (fun r_1 u H locs hp_ hP hS => ?_)
  obtain ⟨hp_, eu_⟩ := hp_
  rw [eu_] at hP
  clear eu_
  subst hp_
  rcases o_3 : f_X10_noteOf nt M with _ | i_2
  · replace hres := xopt_n hres o_3
    refine lv_astore_nN (lv' := [(3, .null), (0, .ref (xad g 0 0)), (1, .int nt), (2, .int kd)]) hx hb dX10_as_5 rfl hl (by decide) rfl (fun ls hl => ?_)
    refine lv_aload_nN hx hb dX10_as_6 rfl (lv_at hl 0 rfl) ?_
    refine lv_ifnullN (tgt := 18) hx hb dX10_as_7 (by decide) ?_
    refine lv_ldc (own := RX10) (v := (-1000001)) hx hb hown (hts _ (List.mem_cons_of_mem _ wd_174)) dX10_as_18 ?_
    exact x_reti hx hb hr hlk hP hS (hres.symm.trans hF) dX10_as_20
  · replace hres := xopt_s hres o_3
    have hq_5 := (ob_X10_as_2_q nb nn nt kd M hp0 hp1 i_2 o_3)
    have hi_4 := hq_5.1
    refine lv_astore_n (lv' := [(3, .ref (xad g 29 i_2)), (0, .ref (xad g 0 0)), (1, .int nt), (2, .int kd)]) hx hb dX10_as_5 rfl hl (by decide) rfl (fun ls hl => ?_)
    refine lv_aload_n hx hb dX10_as_6 rfl (lv_at hl 0 rfl) ?_
    refine lv_ifnull hx hb dX10_as_7 ?_
    refine lv_iload_n hx hb dX10_as_10 rfl (lv_at hl 3 rfl) ?_
    refine lv_iconst (v := 5) hx hb dX10_as_11 (by decide) ?_
    refine x_callSi (As := [.int kd, .int 5]) S hK hAm hD hP hS mt_X10_isUpTo wd_179 ⟨by decide, by decide⟩ (c_X10_isUpTo l nb nn g L M hD hL kd 5) rfl hl.1 (Nat.le_of_ble_eq_true rfl) ⟨Nat.zero_le _, Nat.zero_le _⟩ dX10_as_12 rfl (fun r_6 u H locs hp_ hP hS => ?_)
    obtain ⟨er_6, eu_⟩ := hp_
    rw [eu_] at hP
    clear eu_
    replace hres := xlet_n hres er_6
    refine lv_if_ne (tgt := 21) hx hb dX10_as_15 (by decide) (fun c_7 => ?_) (fun c_7 => ?_)
    · replace hres := hres.trans (if_neg c_7)
      refine lv_aload_n hx hb dX10_as_21 rfl (lv_at hl 1 rfl) ?_
      refine lv_aload_n hx hb dX10_as_22 rfl (lv_at hl 0 rfl) ?_
      refine x_callVi (As := [.ref (xad g 29 i_2)]) S hK hAm hD hP hS mt_X10_kindOf wd_999 ⟨by decide, by decide⟩ (hL 0 0 (xe_0 nb nn)) (xc0 g 0) rfl (c_X10_kindOf l nb nn g L M hD hL i_2 hi_4 (ob_X10_as_23_p0 nb nn nt kd M hp0 hp1 i_2 o_3 hq_5 hi_4 r_6 er_6 c_7)) rfl hl.1 (Nat.le_of_ble_eq_true rfl) ⟨Nat.zero_le _, Nat.zero_le _⟩ dX10_as_23 rfl (fun r_8 u H locs hp_ hP hS => ?_)
      obtain ⟨er_8, eu_⟩ := hp_
      rw [eu_] at hP
      clear eu_
      replace hres := xlet_n hres er_8
      refine lv_iload_n hx hb dX10_as_26 rfl (lv_at hl 3 rfl) ?_
      refine x_callSi (As := [.int r_8, .int kd]) S hK hAm hD hP hS mt_X10_isOfKind wd_1015 ⟨by decide, by decide⟩ (c_X10_isOfKind l nb nn g L M hD hL r_8 kd) rfl hl.1 (Nat.le_of_ble_eq_true rfl) ⟨Nat.zero_le _, Nat.zero_le _⟩ dX10_as_27 rfl (fun r_9 u H locs hp_ hP hS => ?_)
      obtain ⟨er_9, eu_⟩ := hp_
      rw [eu_] at hP
      clear eu_
      replace hres := xlet_n hres er_9
      refine lv_if_ne (tgt := 39) hx hb dX10_as_30 (by decide) (fun c_10 => ?_) (fun c_10 => ?_)
      · replace hres := hres.trans (if_neg c_10)
        refine lv_aload_n hx hb dX10_as_39 rfl (lv_at hl 1 rfl) ?_
        refine lv_aload_n hx hb dX10_as_40 rfl (lv_at hl 0 rfl) ?_
        refine gf_RX10_253 hx hb hts hown hK hP (hL 29 i_2 hi_4) dX10_as_41 ?_
        refine x_callVi (As := [.int (M 29 i_2 2)]) S hK hAm hD hP hS mt_X10_foundNothing wd_192 ⟨by decide, by decide⟩ (hL 0 0 (xe_0 nb nn)) (xc0 g 0) rfl (c_X10_foundNothing l nb nn g L M hD hL (M 29 i_2 2)) rfl hl.1 (Nat.le_of_ble_eq_true rfl) ⟨Nat.zero_le _, Nat.zero_le _⟩ dX10_as_44 rfl (fun r_11 M_12 H locs ep_ hP hS => ?_)
        replace hres := xlet2_n hres ep_
        have er_11 : r_11 = (f_X10_foundNothing (M 29 i_2 2) M).1 := congrArg Prod.fst ep_
        have eM_12 : M_12 = (f_X10_foundNothing (M 29 i_2 2) M).2 := congrArg Prod.snd ep_
        clear ep_
        exact x_reti hx hb hr hlk hP hS (hres.symm.trans hF) dX10_as_47
      · replace hres := hres.trans (if_pos c_10)
        refine lv_aload_n hx hb dX10_as_33 rfl (lv_at hl 1 rfl) ?_
        refine lv_iconst (v := 3) hx hb dX10_as_34 (by decide) ?_
        refine x_callVi (As := [.int 3]) S hK hAm hD hP hS mt_X10_found wd_182 ⟨by decide, by decide⟩ (hL 0 0 (xe_0 nb nn)) (xc0 g 0) rfl (c_X10_found l nb nn g L M hD hL 3) rfl hl.1 (Nat.le_of_ble_eq_true rfl) ⟨Nat.zero_le _, Nat.zero_le _⟩ dX10_as_35 rfl (fun r_13 M_14 H locs ep_ hP hS => ?_)
        replace hres := xlet2_n hres ep_
        have er_13 : r_13 = (f_X10_found 3 M).1 := congrArg Prod.fst ep_
        have eM_14 : M_14 = (f_X10_found 3 M).2 := congrArg Prod.snd ep_
        clear ep_
        exact x_reti hx hb hr hlk hP hS (hres.symm.trans hF) dX10_as_38
    · replace hres := hres.trans (if_pos c_7)
      refine lv_ldc (own := RX10) (v := (-1000001)) hx hb hown (hts _ (List.mem_cons_of_mem _ wd_174)) dX10_as_18 ?_
      exact x_reti hx hb hr hlk hP hS (hres.symm.trans hF) dX10_as_20
set_option maxHeartbeats 4000000 in
set_option maxRecDepth 100000 in
theorem c_X10_trace (l : Launch) (nb nn : Nat) (g : xG) (L : List (Nat × Nat)) (M : xM) (hD : xD g L) (hL : xEL nb nn L) (i : Int32) (hp0 : M 12 0 1 ≤ 16) : xCi l yX10_trace cX10_trace 2 (some .int) 1 g L M [.ref (xad g 0 0), .int i] (fun r u => r = f_X10_trace i M ∧ u = M) := by
  intro sz
  refine x_beg (by decide +kernel) rfl ?_
  intro p e s m args below meth c ls hsz hB
  subst hsz
  obtain ⟨hx, hb, hml, hown, hts, hr, hlk, hK, hAm, hP, hl⟩ := hB
  have S : CallFix p m c cX10_trace 2 s args (xws yX10_trace cX10_trace 2 (some .int)) RX10 := ⟨hx, hb, hml, hown, hts⟩
  have hown : s.vm.findClass RX10 = some m.cls := hown
  have hl : lv_has ls 2 [(0, .ref (xad g 0 0)), (1, .int i)] := hl
  have hS : va_S (xA g L s.heap.size) s.heap s.heap [] := va_S.rf
  obtain ⟨F, hF⟩ : ∃ F, F = f_X10_trace i M := ⟨_, rfl⟩
  have hres := hF
  rw [f_X10_trace] at hres
  refine lv_aload_n hx hb dX10_trace_0 rfl (lv_at hl 0 rfl) ?_
  refine gf_RX10_80 hx hb hts hown hK hP (hL 0 0 (xe_0 nb nn)) dX10_trace_1 ?_
  refine lv_iload_n hx hb dX10_trace_4 rfl (lv_at hl 1 rfl) ?_
  refine x_callVi (As := [.int i]) S hK hAm hD hP hS mt_X8_number wd_1067 ⟨by decide, by decide⟩ (hL 12 0 (xe_12 nb nn)) (xc12 g 0) rfl (c_X8_number l nb nn g L M hD hL i (ob_X10_trace_5_p0 nb nn i M hp0)) rfl hl.1 (Nat.le_of_ble_eq_true rfl) ⟨Nat.zero_le _, Nat.zero_le _⟩ dX10_trace_5 rfl (fun r_1 u H locs hp_ hP hS => ?_)
  obtain ⟨er_1, eu_⟩ := hp_
  rw [eu_] at hP
  clear eu_
  replace hres := xlet_n hres er_1
  exact x_reti hx hb hr hlk hP hS ⟨hres.symm.trans hF, rfl⟩ dX10_trace_8
set_option maxHeartbeats 4000000 in
set_option maxRecDepth 100000 in
theorem c_X10_status (l : Launch) (nb nn : Nat) (g : xG) (L : List (Nat × Nat)) (M : xM) (hD : xD g L) (hL : xEL nb nn L)   : xCi l yX10_status cX10_status 1 (some .int) 0 g L M [.ref (xad g 0 0)] (fun r u => r = f_X10_status  M ∧ u = M) := by
  intro sz
  refine x_beg (by decide +kernel) rfl ?_
  intro p e s m args below meth c ls hsz hB
  subst hsz
  obtain ⟨hx, hb, hml, hown, hts, hr, hlk, hK, hAm, hP, hl⟩ := hB
  have S : CallFix p m c cX10_status 1 s args (xws yX10_status cX10_status 1 (some .int)) RX10 := ⟨hx, hb, hml, hown, hts⟩
  have hown : s.vm.findClass RX10 = some m.cls := hown
  have hl : lv_has ls 1 [(0, .ref (xad g 0 0))] := hl
  have hS : va_S (xA g L s.heap.size) s.heap s.heap [] := va_S.rf
  obtain ⟨F, hF⟩ : ∃ F, F = f_X10_status  M := ⟨_, rfl⟩
  have hres := hF
  rw [f_X10_status] at hres
  refine lv_aload_n hx hb dX10_status_0 rfl (lv_at hl 0 rfl) ?_
  refine gf_RX10_97 hx hb hts hown hK hP (hL 0 0 (xe_0 nb nn)) dX10_status_1 ?_
  exact x_reti hx hb hr hlk hP hS ⟨hres.symm.trans hF, rfl⟩ dX10_status_4
set_option maxHeartbeats 4000000 in
set_option maxRecDepth 100000 in
theorem c_X10_sheetsThere (l : Launch) (nb nn : Nat) (g : xG) (L : List (Nat × Nat)) (M : xM) (hD : xD g L) (hL : xEL nb nn L)  (hp0 : xHS M) : xCi l yX10_sheetsThere cX10_sheetsThere 4 (some .int) 2 g L M [.ref (xad g 0 0)] (fun r u => r = f_X10_sheetsThere  M ∧ u = M) := by
  intro sz
  refine x_beg (by decide +kernel) rfl ?_
  intro p e s m args below meth c ls hsz hB
  subst hsz
  obtain ⟨hx, hb, hml, hown, hts, hr, hlk, hK, hAm, hP, hl⟩ := hB
  have S : CallFix p m c cX10_sheetsThere 4 s args (xws yX10_sheetsThere cX10_sheetsThere 4 (some .int)) RX10 := ⟨hx, hb, hml, hown, hts⟩
  have hown : s.vm.findClass RX10 = some m.cls := hown
  have hl : lv_has ls 4 [(0, .ref (xad g 0 0))] := hl
  have hS : va_S (xA g L s.heap.size) s.heap s.heap [] := va_S.rf
  obtain ⟨F, hF⟩ : ∃ F, F = f_X10_sheetsThere  M := ⟨_, rfl⟩
  have k_4 : ∀ (n : Nat) (there : Int32) (i : Int32) (H : Heap) (locs : List Loc) (ls : Array Slot) (kx : (Int32 → Int32 → Int32)), xmu i 8 < n → True → F = f_X10_sheetsThere_L4 M n there i kx → xP g L M H → va_S (xA g L s.heap.size) s.heap H locs → lv_has ls 4 [(0, .ref (xad g 0 0)), (1, .int there), (2, .int i)] → (∀ (there : Int32) (i : Int32) (H : Heap) (locs : List Loc) (ls : Array Slot), True → F = kx there i → xP g L M H → va_S (xA g L s.heap.size) s.heap H locs → lv_has ls 4 [(0, .ref (xad g 0 0)), (1, .int there), (2, .int i)] → W p l e (xr 2) s m args below meth c H locs 0 0 (MQ below (va_Qi (fun r u => r = f_X10_sheetsThere  M ∧ u = M) (xPost g L) (xA g L s.heap.size)) args s 0 0 (xA g L s.heap.size)) (F0 m 36 ls [])) → W p l e (xr 2) s m args below meth c H locs 0 0 (MQ below (va_Qi (fun r u => r = f_X10_sheetsThere  M ∧ u = M) (xPost g L) (xA g L s.heap.size)) args s 0 0 (xA g L s.heap.size)) (F0 m 4 ls []) := by
    intro n
    induction n with
    | zero => intro there i H locs ls kx hmu; exact absurd hmu (Nat.not_lt_zero _)
    | succ n ih =>
      intro there i H locs ls kx hmu hinv hres hP hS hl hex
      replace hres : F = _ := hres.trans (by rw [f_X10_sheetsThere_L4])
      refine lv_iload_n hx hb dX10_sheetsThere_4 rfl (lv_at hl 2 rfl) ?_
      refine lv_bipush (v := 8) hx hb dX10_sheetsThere_5 (by decide) ?_
      refine lv_icmp_ge (tgt := 36) hx hb dX10_sheetsThere_7 (by decide) (fun c_1 => ?_) (fun c_1 => ?_)
      · replace hres := hres.trans (if_pos c_1)
        exact hex there i _ _ _ trivial hres hP hS (lv_sub hl [0, 1, 2] rfl)
      · replace hres := hres.trans (if_neg c_1)
        refine lv_aload_n hx hb dX10_sheetsThere_10 rfl (lv_at hl 0 rfl) ?_
        refine lv_iload_n hx hb dX10_sheetsThere_11 rfl (lv_at hl 2 rfl) ?_
        refine x_callVq (As := [.int i]) S hK hAm hD hP hS mt_X10_sheetOf wd_175 ⟨by decide, by decide⟩ (hL 0 0 (xe_0 nb nn)) (xc0 g 0) rfl (c_X10_sheetOf l nb nn g L M hD hL i (ob_X10_sheetsThere_12_p0 nb nn M hp0 n there i hmu hinv c_1)) rfl hl.1 (Nat.le_of_ble_eq_true rfl) ⟨Nat.zero_le _, Nat.zero_le _⟩ dX10_sheetsThere_12 rfl (fun r_2 u H locs hp_ hP hS => ?_)
        obtain ⟨hp_, eu_⟩ := hp_
        rw [eu_] at hP
        clear eu_
        subst hp_
        rcases o_4 : f_X10_sheetOf i M with _ | i_3
        · replace hres := xopt_n hres o_4
          refine lv_astore_nN (lv' := [(3, .null), (0, .ref (xad g 0 0)), (1, .int there), (2, .int i)]) hx hb dX10_sheetsThere_15 rfl hl (by decide) rfl (fun ls hl => ?_)
          refine lv_aload_nN hx hb dX10_sheetsThere_16 rfl (lv_at hl 0 rfl) ?_
          refine lv_ifnullN (tgt := 30) hx hb dX10_sheetsThere_17 (by decide) ?_
          obtain ⟨x2_7, ex2_7⟩ : ∃ z_ : Int32, z_ = i + 1 := ⟨_, rfl⟩
          replace hres := xlet_n hres ex2_7
          refine lv_iinc (v := x2_7) (lv' := [(2, .int x2_7), (3, .null), (0, .ref (xad g 0 0)), (1, .int there)]) hx hb dX10_sheetsThere_30 hl (k := 3) rfl (by rw [ex2_7]; rfl) (by decide) rfl (fun ls hl => ?_)
          refine lv_goto (tgt := 4) hx hb dX10_sheetsThere_33 (by decide) ?_
          exact ih there x2_7 _ _ _ kx (ob_X10_sheetsThere_4_mu_7 nb nn M hp0 n there i hmu hinv c_1 o_4 x2_7 ex2_7) trivial hres hP hS (lv_sub hl [2, 3, 0] rfl) hex
        · replace hres := xopt_s hres o_4
          have hq_6 := (ob_X10_sheetsThere_12_q nb nn M hp0 n there i hmu hinv c_1 i_3 o_4)
          have hi_5 := hq_6.1
          refine lv_astore_n (lv' := [(3, .ref (xad g 24 i_3)), (0, .ref (xad g 0 0)), (1, .int there), (2, .int i)]) hx hb dX10_sheetsThere_15 rfl hl (by decide) rfl (fun ls hl => ?_)
          refine lv_aload_n hx hb dX10_sheetsThere_16 rfl (lv_at hl 0 rfl) ?_
          refine lv_ifnull hx hb dX10_sheetsThere_17 ?_
          refine lv_aload_n hx hb dX10_sheetsThere_20 rfl (lv_at hl 0 rfl) ?_
          refine x_callVi (As := []) S hK hAm hD hP hS mt_X6_isMissing wd_220 ⟨by decide, by decide⟩ (hL 24 i_3 hi_5) (xc24 g i_3) rfl (c_X6_isMissing l nb nn g L M hD hL i_3 hi_5) rfl hl.1 (Nat.le_of_ble_eq_true rfl) ⟨Nat.zero_le _, Nat.zero_le _⟩ dX10_sheetsThere_21 rfl (fun r_8 u H locs hp_ hP hS => ?_)
          obtain ⟨er_8, eu_⟩ := hp_
          rw [eu_] at hP
          clear eu_
          replace hres := xlet_n hres er_8
          refine lv_if_ne (tgt := 30) hx hb dX10_sheetsThere_24 (by decide) (fun c_9 => ?_) (fun c_9 => ?_)
          · replace hres := hres.trans (if_neg c_9)
            obtain ⟨x2_10, ex2_10⟩ : ∃ z_ : Int32, z_ = i + 1 := ⟨_, rfl⟩
            replace hres := xlet_n hres ex2_10
            refine lv_iinc (v := x2_10) (lv' := [(2, .int x2_10), (3, .ref (xad g 24 i_3)), (0, .ref (xad g 0 0)), (1, .int there)]) hx hb dX10_sheetsThere_30 hl (k := 3) rfl (by rw [ex2_10]; rfl) (by decide) rfl (fun ls hl => ?_)
            refine lv_goto (tgt := 4) hx hb dX10_sheetsThere_33 (by decide) ?_
            exact ih there x2_10 _ _ _ kx (ob_X10_sheetsThere_4_mu_10 nb nn M hp0 n there i hmu hinv c_1 i_3 o_4 hq_6 hi_5 r_8 er_8 c_9 x2_10 ex2_10) trivial hres hP hS (lv_sub hl [2, 3, 0] rfl) hex
          · replace hres := hres.trans (if_pos c_9)
            obtain ⟨x1_11, ex1_11⟩ : ∃ z_ : Int32, z_ = there + 1 := ⟨_, rfl⟩
            replace hres := xlet_n hres ex1_11
            refine lv_iinc (v := x1_11) (lv' := [(1, .int x1_11), (3, .ref (xad g 24 i_3)), (0, .ref (xad g 0 0)), (2, .int i)]) hx hb dX10_sheetsThere_27 hl (k := 2) rfl (by rw [ex1_11]; rfl) (by decide) rfl (fun ls hl => ?_)
            obtain ⟨x2_12, ex2_12⟩ : ∃ z_ : Int32, z_ = i + 1 := ⟨_, rfl⟩
            replace hres := xlet_n hres ex2_12
            refine lv_iinc (v := x2_12) (lv' := [(2, .int x2_12), (1, .int x1_11), (3, .ref (xad g 24 i_3)), (0, .ref (xad g 0 0))]) hx hb dX10_sheetsThere_30 hl (k := 3) rfl (by rw [ex2_12]; rfl) (by decide) rfl (fun ls hl => ?_)
            refine lv_goto (tgt := 4) hx hb dX10_sheetsThere_33 (by decide) ?_
            exact ih x1_11 x2_12 _ _ _ kx (ob_X10_sheetsThere_4_mu_12 nb nn M hp0 n there i hmu hinv c_1 i_3 o_4 hq_6 hi_5 r_8 er_8 c_9 x1_11 ex1_11 x2_12 ex2_12) trivial hres hP hS (lv_sub hl [3, 1, 0] rfl) hex
  have hres := hF
  rw [f_X10_sheetsThere] at hres
  refine lv_iconst (v := 0) hx hb dX10_sheetsThere_0 (by decide) ?_
  refine lv_istore_n (lv' := [(1, .int 0), (0, .ref (xad g 0 0))]) hx hb dX10_sheetsThere_1 rfl hl (by decide) rfl (fun ls hl => ?_)
  refine lv_iconst (v := 0) hx hb dX10_sheetsThere_2 (by decide) ?_
  refine lv_istore_n (lv' := [(2, .int 0), (1, .int 0), (0, .ref (xad g 0 0))]) hx hb dX10_sheetsThere_3 rfl hl (by decide) rfl (fun ls hl => ?_)
  refine k_4 (xmu (0 : Int32) 8 + 1) (0 : Int32) (0 : Int32) _ _ _ _ (Nat.lt_succ_self _) trivial hres hP hS (lv_sub hl [2, 1, 0] rfl) ?_
  clear hres hP hS hl
  intro there_13 i_14 H locs ls hiv_14 hres hP hS hl
  refine lv_iload_n hx hb dX10_sheetsThere_36 rfl (lv_at hl 1 rfl) ?_
  exact x_reti hx hb hr hlk hP hS ⟨hres.symm.trans hF, rfl⟩ dX10_sheetsThere_37
set_option maxHeartbeats 4000000 in
set_option maxRecDepth 100000 in
theorem c_X10_notesThatAre (l : Launch) (nb nn : Nat) (g : xG) (L : List (Nat × Nat)) (M : xM) (hD : xD g L) (hL : xEL nb nn L) (where_ : Int32) (hp0 : xHN nn M) : xCi l yX10_notesThatAre cX10_notesThatAre 5 (some .int) 2 g L M [.ref (xad g 0 0), .int where_] (fun r u => r = f_X10_notesThatAre where_ M ∧ u = M) := by
  intro sz
  refine x_beg (by decide +kernel) rfl ?_
  intro p e s m args below meth c ls hsz hB
  subst hsz
  obtain ⟨hx, hb, hml, hown, hts, hr, hlk, hK, hAm, hP, hl⟩ := hB
  have S : CallFix p m c cX10_notesThatAre 5 s args (xws yX10_notesThatAre cX10_notesThatAre 5 (some .int)) RX10 := ⟨hx, hb, hml, hown, hts⟩
  have hown : s.vm.findClass RX10 = some m.cls := hown
  have hl : lv_has ls 5 [(0, .ref (xad g 0 0)), (1, .int where_)] := hl
  have hS : va_S (xA g L s.heap.size) s.heap s.heap [] := va_S.rf
  obtain ⟨F, hF⟩ : ∃ F, F = f_X10_notesThatAre where_ M := ⟨_, rfl⟩
  have k_4 : ∀ (n : Nat) (there : Int32) (i : Int32) (H : Heap) (locs : List Loc) (ls : Array Slot) (kx : (Int32 → Int32 → Int32)), xmu i (M 0 0 13) < n → True → F = f_X10_notesThatAre_L4 where_ M n there i kx → xP g L M H → va_S (xA g L s.heap.size) s.heap H locs → lv_has ls 5 [(0, .ref (xad g 0 0)), (1, .int where_), (2, .int there), (3, .int i)] → (∀ (there : Int32) (i : Int32) (H : Heap) (locs : List Loc) (ls : Array Slot), True → F = kx there i → xP g L M H → va_S (xA g L s.heap.size) s.heap H locs → lv_has ls 5 [(0, .ref (xad g 0 0)), (1, .int where_), (2, .int there), (3, .int i)] → W p l e (xr 2) s m args below meth c H locs 0 0 (MQ below (va_Qi (fun r u => r = f_X10_notesThatAre where_ M ∧ u = M) (xPost g L) (xA g L s.heap.size)) args s 0 0 (xA g L s.heap.size)) (F0 m 42 ls [])) → W p l e (xr 2) s m args below meth c H locs 0 0 (MQ below (va_Qi (fun r u => r = f_X10_notesThatAre where_ M ∧ u = M) (xPost g L) (xA g L s.heap.size)) args s 0 0 (xA g L s.heap.size)) (F0 m 4 ls []) := by
    intro n
    induction n with
    | zero => intro there i H locs ls kx hmu; exact absurd hmu (Nat.not_lt_zero _)
    | succ n ih =>
      intro there i H locs ls kx hmu hinv hres hP hS hl hex
      replace hres : F = _ := hres.trans (by rw [f_X10_notesThatAre_L4])
      refine lv_iload_n hx hb dX10_notesThatAre_4 rfl (lv_at hl 3 rfl) ?_
      refine lv_aload_n hx hb dX10_notesThatAre_5 rfl (lv_at hl 0 rfl) ?_
      refine gf_RX10_88 hx hb hts hown hK hP (hL 0 0 (xe_0 nb nn)) dX10_notesThatAre_6 ?_
      refine lv_icmp_ge (tgt := 42) hx hb dX10_notesThatAre_9 (by decide) (fun c_1 => ?_) (fun c_1 => ?_)
      · replace hres := hres.trans (if_pos c_1)
        exact hex there i _ _ _ trivial hres hP hS (lv_sub hl [0, 1, 2, 3] rfl)
      · replace hres := hres.trans (if_neg c_1)
        refine lv_aload_n hx hb dX10_notesThatAre_12 rfl (lv_at hl 0 rfl) ?_
        refine lv_iload_n hx hb dX10_notesThatAre_13 rfl (lv_at hl 3 rfl) ?_
        refine x_callVq (As := [.int i]) S hK hAm hD hP hS mt_X10_noteOf wd_725 ⟨by decide, by decide⟩ (hL 0 0 (xe_0 nb nn)) (xc0 g 0) rfl (c_X10_noteOf l nb nn g L M hD hL i (ob_X10_notesThatAre_14_p0 nb nn where_ M hp0 n there i hmu hinv c_1)) rfl hl.1 (Nat.le_of_ble_eq_true rfl) ⟨Nat.zero_le _, Nat.zero_le _⟩ dX10_notesThatAre_14 rfl (fun r_2 u H locs hp_ hP hS => ?_)
        obtain ⟨hp_, eu_⟩ := hp_
        rw [eu_] at hP
        clear eu_
        subst hp_
        rcases o_4 : f_X10_noteOf i M with _ | i_3
        · replace hres := xopt_n hres o_4
          refine lv_astoreN (lv' := [(4, .null), (0, .ref (xad g 0 0)), (1, .int where_), (2, .int there), (3, .int i)]) hx hb dX10_notesThatAre_17 hl (by decide) rfl (fun ls hl => ?_)
          refine lv_aloadN hx hb dX10_notesThatAre_19 (lv_at hl 0 rfl) ?_
          refine lv_ifnullN (tgt := 36) hx hb dX10_notesThatAre_21 (by decide) ?_
          obtain ⟨x3_7, ex3_7⟩ : ∃ z_ : Int32, z_ = i + 1 := ⟨_, rfl⟩
          replace hres := xlet_n hres ex3_7
          refine lv_iinc (v := x3_7) (lv' := [(3, .int x3_7), (4, .null), (0, .ref (xad g 0 0)), (1, .int where_), (2, .int there)]) hx hb dX10_notesThatAre_36 hl (k := 4) rfl (by rw [ex3_7]; rfl) (by decide) rfl (fun ls hl => ?_)
          refine lv_goto (tgt := 4) hx hb dX10_notesThatAre_39 (by decide) ?_
          exact ih there x3_7 _ _ _ kx (ob_X10_notesThatAre_4_mu_7 nb nn where_ M hp0 n there i hmu hinv c_1 o_4 x3_7 ex3_7) trivial hres hP hS (lv_sub hl [2, 3, 4, 0] rfl) hex
        · replace hres := xopt_s hres o_4
          have hq_6 := (ob_X10_notesThatAre_14_q nb nn where_ M hp0 n there i hmu hinv c_1 i_3 o_4)
          have hi_5 := hq_6.1
          refine lv_astore (lv' := [(4, .ref (xad g 29 i_3)), (0, .ref (xad g 0 0)), (1, .int where_), (2, .int there), (3, .int i)]) hx hb dX10_notesThatAre_17 hl (by decide) rfl (fun ls hl => ?_)
          refine lv_aload hx hb dX10_notesThatAre_19 (lv_at hl 0 rfl) ?_
          refine lv_ifnull hx hb dX10_notesThatAre_21 ?_
          refine lv_aload hx hb dX10_notesThatAre_24 (lv_at hl 0 rfl) ?_
          refine gf_RX10_265 hx hb hts hown hK hP (hL 29 i_3 hi_5) dX10_notesThatAre_26 ?_
          refine lv_iload_n hx hb dX10_notesThatAre_29 rfl (lv_at hl 2 rfl) ?_
          refine lv_icmp_ne (tgt := 36) hx hb dX10_notesThatAre_30 (by decide) (fun c_8 => ?_) (fun c_8 => ?_)
          · replace hres := hres.trans (if_neg c_8)
            obtain ⟨x3_9, ex3_9⟩ : ∃ z_ : Int32, z_ = i + 1 := ⟨_, rfl⟩
            replace hres := xlet_n hres ex3_9
            refine lv_iinc (v := x3_9) (lv' := [(3, .int x3_9), (4, .ref (xad g 29 i_3)), (0, .ref (xad g 0 0)), (1, .int where_), (2, .int there)]) hx hb dX10_notesThatAre_36 hl (k := 4) rfl (by rw [ex3_9]; rfl) (by decide) rfl (fun ls hl => ?_)
            refine lv_goto (tgt := 4) hx hb dX10_notesThatAre_39 (by decide) ?_
            exact ih there x3_9 _ _ _ kx (ob_X10_notesThatAre_4_mu_9 nb nn where_ M hp0 n there i hmu hinv c_1 i_3 o_4 hq_6 hi_5 c_8 x3_9 ex3_9) trivial hres hP hS (lv_sub hl [2, 3, 4, 0] rfl) hex
          · replace hres := hres.trans (if_pos c_8)
            obtain ⟨x2_10, ex2_10⟩ : ∃ z_ : Int32, z_ = there + 1 := ⟨_, rfl⟩
            replace hres := xlet_n hres ex2_10
            refine lv_iinc (v := x2_10) (lv' := [(2, .int x2_10), (4, .ref (xad g 29 i_3)), (0, .ref (xad g 0 0)), (1, .int where_), (3, .int i)]) hx hb dX10_notesThatAre_33 hl (k := 3) rfl (by rw [ex2_10]; rfl) (by decide) rfl (fun ls hl => ?_)
            obtain ⟨x3_11, ex3_11⟩ : ∃ z_ : Int32, z_ = i + 1 := ⟨_, rfl⟩
            replace hres := xlet_n hres ex3_11
            refine lv_iinc (v := x3_11) (lv' := [(3, .int x3_11), (2, .int x2_10), (4, .ref (xad g 29 i_3)), (0, .ref (xad g 0 0)), (1, .int where_)]) hx hb dX10_notesThatAre_36 hl (k := 4) rfl (by rw [ex3_11]; rfl) (by decide) rfl (fun ls hl => ?_)
            refine lv_goto (tgt := 4) hx hb dX10_notesThatAre_39 (by decide) ?_
            exact ih x2_10 x3_11 _ _ _ kx (ob_X10_notesThatAre_4_mu_11 nb nn where_ M hp0 n there i hmu hinv c_1 i_3 o_4 hq_6 hi_5 c_8 x2_10 ex2_10 x3_11 ex3_11) trivial hres hP hS (lv_sub hl [3, 4, 1, 0] rfl) hex
  have hres := hF
  rw [f_X10_notesThatAre] at hres
  refine lv_iconst (v := 0) hx hb dX10_notesThatAre_0 (by decide) ?_
  refine lv_istore_n (lv' := [(2, .int 0), (0, .ref (xad g 0 0)), (1, .int where_)]) hx hb dX10_notesThatAre_1 rfl hl (by decide) rfl (fun ls hl => ?_)
  refine lv_iconst (v := 0) hx hb dX10_notesThatAre_2 (by decide) ?_
  refine lv_istore_n (lv' := [(3, .int 0), (2, .int 0), (0, .ref (xad g 0 0)), (1, .int where_)]) hx hb dX10_notesThatAre_3 rfl hl (by decide) rfl (fun ls hl => ?_)
  refine k_4 (xmu (0 : Int32) (M 0 0 13) + 1) (0 : Int32) (0 : Int32) _ _ _ _ (Nat.lt_succ_self _) trivial hres hP hS (lv_sub hl [2, 3, 1, 0] rfl) ?_
  clear hres hP hS hl
  intro there_12 i_13 H locs ls hiv_13 hres hP hS hl
  refine lv_iload_n hx hb dX10_notesThatAre_42 rfl (lv_at hl 2 rfl) ?_
  exact x_reti hx hb hr hlk hP hS ⟨hres.symm.trans hF, rfl⟩ dX10_notesThatAre_43
set_option maxHeartbeats 4000000 in
set_option maxRecDepth 100000 in
theorem c_X10_count (l : Launch) (nb nn : Nat) (g : xG) (L : List (Nat × Nat)) (M : xM) (hD : xD g L) (hL : xEL nb nn L) (what : Int32) (hp0 : xHN nn M) (hp1 : xHB nb M) (hp2 : xHS M) : xCi l yX10_count cX10_count 2 (some .int) 3 g L M [.ref (xad g 0 0), .int what] (fun r u => r = f_X10_count what M ∧ u = M) := by
  intro sz
  refine x_beg (by decide +kernel) rfl ?_
  intro p e s m args below meth c ls hsz hB
  subst hsz
  obtain ⟨hx, hb, hml, hown, hts, hr, hlk, hK, hAm, hP, hl⟩ := hB
  have S : CallFix p m c cX10_count 2 s args (xws yX10_count cX10_count 2 (some .int)) RX10 := ⟨hx, hb, hml, hown, hts⟩
  have hown : s.vm.findClass RX10 = some m.cls := hown
  have hl : lv_has ls 2 [(0, .ref (xad g 0 0)), (1, .int what)] := hl
  have hS : va_S (xA g L s.heap.size) s.heap s.heap [] := va_S.rf
  obtain ⟨F, hF⟩ : ∃ F, F = f_X10_count what M := ⟨_, rfl⟩
  have hres := hF
  rw [f_X10_count] at hres
  refine lv_iload_n hx hb dX10_count_0 rfl (lv_at hl 1 rfl) ?_
  by_cases c_1 : what = 0
  · replace hres := hres.trans (if_pos c_1)
    refine lv_tableIn (off := 55) (tgt := 56) hx hb dX10_count_1 (by rw [c_1]; decide) (by rw [c_1]; decide) (by rw [c_1]; rfl) (by decide) ?_
    refine lv_aload_n hx hb dX10_count_56 rfl (lv_at hl 0 rfl) ?_
    refine x_callVi (As := []) S hK hAm hD hP hS mt_X10_sheetsThere wd_1080 ⟨by decide, by decide⟩ (hL 0 0 (xe_0 nb nn)) (xc0 g 0) rfl (c_X10_sheetsThere l nb nn g L M hD hL  (ob_X10_count_57_p0 nb nn what M hp0 hp1 hp2 c_1)) rfl hl.1 (Nat.le_of_ble_eq_true rfl) ⟨Nat.zero_le _, Nat.zero_le _⟩ dX10_count_57 rfl (fun r_2 u H locs hp_ hP hS => ?_)
    obtain ⟨er_2, eu_⟩ := hp_
    rw [eu_] at hP
    clear eu_
    replace hres := xlet_n hres er_2
    exact x_reti hx hb hr hlk hP hS ⟨hres.symm.trans hF, rfl⟩ dX10_count_60
  · replace hres := hres.trans (if_neg c_1)
    by_cases c_3 : what = 1
    · replace hres := hres.trans (if_pos c_3)
      refine lv_tableIn (off := 60) (tgt := 61) hx hb dX10_count_1 (by rw [c_3]; decide) (by rw [c_3]; decide) (by rw [c_3]; rfl) (by decide) ?_
      refine lv_aload_n hx hb dX10_count_61 rfl (lv_at hl 0 rfl) ?_
      refine gf_RX10_84 hx hb hts hown hK hP (hL 0 0 (xe_0 nb nn)) dX10_count_62 ?_
      exact x_reti hx hb hr hlk hP hS ⟨hres.symm.trans hF, rfl⟩ dX10_count_65
    · replace hres := hres.trans (if_neg c_3)
      by_cases c_4 : what = 2
      · replace hres := hres.trans (if_pos c_4)
        refine lv_tableIn (off := 65) (tgt := 66) hx hb dX10_count_1 (by rw [c_4]; decide) (by rw [c_4]; decide) (by rw [c_4]; rfl) (by decide) ?_
        refine lv_aload_n hx hb dX10_count_66 rfl (lv_at hl 0 rfl) ?_
        refine x_callVi (As := []) S hK hAm hD hP hS mt_X10_shutBanks wd_372 ⟨by decide, by decide⟩ (hL 0 0 (xe_0 nb nn)) (xc0 g 0) rfl (c_X10_shutBanks l nb nn g L M hD hL  (ob_X10_count_67_p0 nb nn what M hp0 hp1 hp2 c_1 c_3 c_4)) rfl hl.1 (Nat.le_of_ble_eq_true rfl) ⟨Nat.zero_le _, Nat.zero_le _⟩ dX10_count_67 rfl (fun r_5 u H locs hp_ hP hS => ?_)
        obtain ⟨er_5, eu_⟩ := hp_
        rw [eu_] at hP
        clear eu_
        replace hres := xlet_n hres er_5
        refine x_callSi (As := [.int r_5]) S hK hAm hD hP hS mt_J6_bitCount_0f7a4 wd_1042 ⟨by decide, by decide⟩ (c_J6_bitCount_0f7a4 l nb nn g L M hD hL r_5) rfl hl.1 (Nat.le_of_ble_eq_true rfl) ⟨Nat.zero_le _, Nat.zero_le _⟩ dX10_count_70 rfl (fun r_6 u H locs hp_ hP hS => ?_)
        obtain ⟨er_6, eu_⟩ := hp_
        rw [eu_] at hP
        clear eu_
        replace hres := xlet_n hres er_6
        exact x_reti hx hb hr hlk hP hS ⟨hres.symm.trans hF, rfl⟩ dX10_count_73
      · replace hres := hres.trans (if_neg c_4)
        by_cases c_7 : what = 3
        · replace hres := hres.trans (if_pos c_7)
          refine lv_tableIn (off := 73) (tgt := 74) hx hb dX10_count_1 (by rw [c_7]; decide) (by rw [c_7]; decide) (by rw [c_7]; rfl) (by decide) ?_
          refine lv_aload_n hx hb dX10_count_74 rfl (lv_at hl 0 rfl) ?_
          refine gf_RX10_31 hx hb hts hown hK hP (hL 0 0 (xe_0 nb nn)) dX10_count_75 ?_
          refine gf_RX10_220 hx hb hts hown hK hP (hL 4 0 (xe_4 nb nn)) dX10_count_78 ?_
          exact x_reti hx hb hr hlk hP hS ⟨hres.symm.trans hF, rfl⟩ dX10_count_81
        · replace hres := hres.trans (if_neg c_7)
          by_cases c_8 : what = 4
          · replace hres := hres.trans (if_pos c_8)
            refine lv_tableIn (off := 81) (tgt := 82) hx hb dX10_count_1 (by rw [c_8]; decide) (by rw [c_8]; decide) (by rw [c_8]; rfl) (by decide) ?_
            refine lv_aload_n hx hb dX10_count_82 rfl (lv_at hl 0 rfl) ?_
            refine gf_RX10_88 hx hb hts hown hK hP (hL 0 0 (xe_0 nb nn)) dX10_count_83 ?_
            exact x_reti hx hb hr hlk hP hS ⟨hres.symm.trans hF, rfl⟩ dX10_count_86
          · replace hres := hres.trans (if_neg c_8)
            by_cases c_9 : what = 5
            · replace hres := hres.trans (if_pos c_9)
              refine lv_tableIn (off := 86) (tgt := 87) hx hb dX10_count_1 (by rw [c_9]; decide) (by rw [c_9]; decide) (by rw [c_9]; rfl) (by decide) ?_
              refine lv_aload_n hx hb dX10_count_87 rfl (lv_at hl 0 rfl) ?_
              refine lv_iconst (v := 0) hx hb dX10_count_88 (by decide) ?_
              refine x_callVi (As := [.int 0]) S hK hAm hD hP hS mt_X10_notesThatAre wd_1084 ⟨by decide, by decide⟩ (hL 0 0 (xe_0 nb nn)) (xc0 g 0) rfl (c_X10_notesThatAre l nb nn g L M hD hL 0 (ob_X10_count_89_p0 nb nn what M hp0 hp1 hp2 c_1 c_3 c_4 c_7 c_8 c_9)) rfl hl.1 (Nat.le_of_ble_eq_true rfl) ⟨Nat.zero_le _, Nat.zero_le _⟩ dX10_count_89 rfl (fun r_10 u H locs hp_ hP hS => ?_)
              obtain ⟨er_10, eu_⟩ := hp_
              rw [eu_] at hP
              clear eu_
              replace hres := xlet_n hres er_10
              exact x_reti hx hb hr hlk hP hS ⟨hres.symm.trans hF, rfl⟩ dX10_count_92
            · replace hres := hres.trans (if_neg c_9)
              by_cases c_11 : what = 6
              · replace hres := hres.trans (if_pos c_11)
                refine lv_tableIn (off := 92) (tgt := 93) hx hb dX10_count_1 (by rw [c_11]; decide) (by rw [c_11]; decide) (by rw [c_11]; rfl) (by decide) ?_
                refine lv_aload_n hx hb dX10_count_93 rfl (lv_at hl 0 rfl) ?_
                refine lv_iconst (v := 2) hx hb dX10_count_94 (by decide) ?_
                refine x_callVi (As := [.int 2]) S hK hAm hD hP hS mt_X10_notesThatAre wd_1084 ⟨by decide, by decide⟩ (hL 0 0 (xe_0 nb nn)) (xc0 g 0) rfl (c_X10_notesThatAre l nb nn g L M hD hL 2 (ob_X10_count_95_p0 nb nn what M hp0 hp1 hp2 c_1 c_3 c_4 c_7 c_8 c_9 c_11)) rfl hl.1 (Nat.le_of_ble_eq_true rfl) ⟨Nat.zero_le _, Nat.zero_le _⟩ dX10_count_95 rfl (fun r_12 u H locs hp_ hP hS => ?_)
                obtain ⟨er_12, eu_⟩ := hp_
                rw [eu_] at hP
                clear eu_
                replace hres := xlet_n hres er_12
                exact x_reti hx hb hr hlk hP hS ⟨hres.symm.trans hF, rfl⟩ dX10_count_98
              · replace hres := hres.trans (if_neg c_11)
                by_cases c_13 : what = 7
                · replace hres := hres.trans (if_pos c_13)
                  refine lv_tableIn (off := 98) (tgt := 99) hx hb dX10_count_1 (by rw [c_13]; decide) (by rw [c_13]; decide) (by rw [c_13]; rfl) (by decide) ?_
                  refine lv_aload_n hx hb dX10_count_99 rfl (lv_at hl 0 rfl) ?_
                  refine lv_iconst (v := 3) hx hb dX10_count_100 (by decide) ?_
                  refine x_callVi (As := [.int 3]) S hK hAm hD hP hS mt_X10_notesThatAre wd_1084 ⟨by decide, by decide⟩ (hL 0 0 (xe_0 nb nn)) (xc0 g 0) rfl (c_X10_notesThatAre l nb nn g L M hD hL 3 (ob_X10_count_101_p0 nb nn what M hp0 hp1 hp2 c_1 c_3 c_4 c_7 c_8 c_9 c_11 c_13)) rfl hl.1 (Nat.le_of_ble_eq_true rfl) ⟨Nat.zero_le _, Nat.zero_le _⟩ dX10_count_101 rfl (fun r_14 u H locs hp_ hP hS => ?_)
                  obtain ⟨er_14, eu_⟩ := hp_
                  rw [eu_] at hP
                  clear eu_
                  replace hres := xlet_n hres er_14
                  exact x_reti hx hb hr hlk hP hS ⟨hres.symm.trans hF, rfl⟩ dX10_count_104
                · replace hres := hres.trans (if_neg c_13)
                  by_cases c_15 : what = 8
                  · replace hres := hres.trans (if_pos c_15)
                    refine lv_tableIn (off := 104) (tgt := 105) hx hb dX10_count_1 (by rw [c_15]; decide) (by rw [c_15]; decide) (by rw [c_15]; rfl) (by decide) ?_
                    refine lv_aload_n hx hb dX10_count_105 rfl (lv_at hl 0 rfl) ?_
                    refine gf_RX10_38 hx hb hts hown hK hP (hL 0 0 (xe_0 nb nn)) dX10_count_106 ?_
                    refine gf_RX10_209 hx hb hts hown hK hP (hL 5 0 (xe_5 nb nn)) dX10_count_109 ?_
                    exact x_reti hx hb hr hlk hP hS ⟨hres.symm.trans hF, rfl⟩ dX10_count_112
                  · replace hres := hres.trans (if_neg c_15)
                    by_cases c_16 : what = 9
                    · replace hres := hres.trans (if_pos c_16)
                      refine lv_tableIn (off := 112) (tgt := 113) hx hb dX10_count_1 (by rw [c_16]; decide) (by rw [c_16]; decide) (by rw [c_16]; rfl) (by decide) ?_
                      refine lv_aload_n hx hb dX10_count_113 rfl (lv_at hl 0 rfl) ?_
                      refine gf_RX10_91 hx hb hts hown hK hP (hL 0 0 (xe_0 nb nn)) dX10_count_114 ?_
                      exact x_reti hx hb hr hlk hP hS ⟨hres.symm.trans hF, rfl⟩ dX10_count_117
                    · replace hres := hres.trans (if_neg c_16)
                      refine lv_tableOut (tgt := 118) hx hb dX10_count_1 (by have q0 := lv_neT c_1 (show (0 : Int32).toInt = 0 from rfl); have q1 := lv_neT c_3 (show (1 : Int32).toInt = 1 from rfl); have q2 := lv_neT c_4 (show (2 : Int32).toInt = 2 from rfl); have q3 := lv_neT c_7 (show (3 : Int32).toInt = 3 from rfl); have q4 := lv_neT c_8 (show (4 : Int32).toInt = 4 from rfl); have q5 := lv_neT c_9 (show (5 : Int32).toInt = 5 from rfl); have q6 := lv_neT c_11 (show (6 : Int32).toInt = 6 from rfl); have q7 := lv_neT c_13 (show (7 : Int32).toInt = 7 from rfl); have q8 := lv_neT c_15 (show (8 : Int32).toInt = 8 from rfl); have q9 := lv_neT c_16 (show (9 : Int32).toInt = 9 from rfl); omega) (by decide) ?_
                      refine lv_ldc (own := RX10) (v := (-1000001)) hx hb hown (hts _ (List.mem_cons_of_mem _ wd_174)) dX10_count_118 ?_
                      exact x_reti hx hb hr hlk hP hS ⟨hres.symm.trans hF, rfl⟩ dX10_count_120
