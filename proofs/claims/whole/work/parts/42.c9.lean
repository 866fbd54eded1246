def f_X10_ask (nt : Int32) (what : Int32) (M : xM) : Int32 × xM :=
  xopt (f_X10_noteOf nt M) (((-1000001), M)) (fun i_2 => xlet (xb (f_X10_isUpTo what 1 M)) fun r_6 => if r_6 = 0 then ((-1000001), M) else xlet (f_X10_kindOf i_2 M) fun r_8 => xlet (f_X8_empty M) fun M_10 => if what = 0 then xlet2 (f_X10_giveBody 17 (([10, 11, 12, 13, 14, 10] : List Int32).getD r_8.toNatClampNeg 0) i_2 r_8 0 M_10) fun r_14 M_15 => (r_14, M_15) else xlet2 (f_X10_giveBody 17 (([20, 20, 21, 22, 20, 23] : List Int32).getD r_8.toNatClampNeg 0) i_2 r_8 0 M_10) fun r_12 M_13 => (r_12, M_13))
theorem ob_X10_ask_2_p0 (nb nn : Nat) (nt : Int32) (what : Int32) (M : xM) (hp0 : xHN nn M) (hp1 : xHB nb M) : xHN nn M := by
  first
  | assumption
  | (have hk := fun a b => @kindOf_b a b; grind)
theorem ob_X10_ask_2_q (nb nn : Nat) (nt : Int32) (what : Int32) (M : xM) (hp0 : xHN nn M) (hp1 : xHB nb M) (i_2 : Nat) (o_3 : f_X10_noteOf nt M = some i_2) : i_2 < nn ∧ 0 ≤ nt ∧ nt < 24 ∧ nt < M 0 0 13 ∧ i_2 = nt.toNatClampNeg := by
  exact noteOf_s (nn := nn) (by first | assumption | (subst_vars; grind [xHN_o])) o_3
theorem ob_X10_ask_23_p0 (nb nn : Nat) (nt : Int32) (what : Int32) (M : xM) (hp0 : xHN nn M) (hp1 : xHB nb M) (i_2 : Nat) (o_3 : f_X10_noteOf nt M = some i_2) (hq_5 : i_2 < nn ∧ 0 ≤ nt ∧ nt < 24 ∧ nt < M 0 0 13 ∧ i_2 = nt.toNatClampNeg) (hi_4 : i_2 < nn) (r_6 : Int32) (er_6 : r_6 = xb (f_X10_isUpTo what 1 M)) (c_7 : ¬ r_6 = 0) : xHB nb M := by
  first
  | assumption
  | (have hk := fun a b => @kindOf_b a b; grind)
theorem ob_X10_ask_53_in (nb nn : Nat) (nt : Int32) (what : Int32) (M : xM) (hp0 : xHN nn M) (hp1 : xHB nb M) (i_2 : Nat) (o_3 : f_X10_noteOf nt M = some i_2) (hq_5 : i_2 < nn ∧ 0 ≤ nt ∧ nt < 24 ∧ nt < M 0 0 13 ∧ i_2 = nt.toNatClampNeg) (hi_4 : i_2 < nn) (r_6 : Int32) (er_6 : r_6 = xb (f_X10_isUpTo what 1 M)) (c_7 : ¬ r_6 = 0) (r_8 : Int32) (er_8 : r_8 = f_X10_kindOf i_2 M) (M_10 : xM) (eM_10 : M_10 = f_X8_empty M) (c_11 : ¬ what = 0) : vp_in r_8 6 := by
  subst_vars
  have hk := fun a b => @kindOf_b a b
  exact xin (N := 6) (by grind) (by grind) (by decide)
theorem ob_X10_ask_62_p0 (nb nn : Nat) (nt : Int32) (what : Int32) (M : xM) (hp0 : xHN nn M) (hp1 : xHB nb M) (i_2 : Nat) (o_3 : f_X10_noteOf nt M = some i_2) (hq_5 : i_2 < nn ∧ 0 ≤ nt ∧ nt < 24 ∧ nt < M 0 0 13 ∧ i_2 = nt.toNatClampNeg) (hi_4 : i_2 < nn) (r_6 : Int32) (er_6 : r_6 = xb (f_X10_isUpTo what 1 M)) (c_7 : ¬ r_6 = 0) (r_8 : Int32) (er_8 : r_8 = f_X10_kindOf i_2 M) (M_10 : xM) (eM_10 : M_10 = f_X8_empty M) (c_11 : ¬ what = 0) : 0 ≤ r_8 := by
  first
  | assumption
  | (have hk := fun a b => @kindOf_b a b; grind)
theorem ob_X10_ask_62_p1 (nb nn : Nat) (nt : Int32) (what : Int32) (M : xM) (hp0 : xHN nn M) (hp1 : xHB nb M) (i_2 : Nat) (o_3 : f_X10_noteOf nt M = some i_2) (hq_5 : i_2 < nn ∧ 0 ≤ nt ∧ nt < 24 ∧ nt < M 0 0 13 ∧ i_2 = nt.toNatClampNeg) (hi_4 : i_2 < nn) (r_6 : Int32) (er_6 : r_6 = xb (f_X10_isUpTo what 1 M)) (c_7 : ¬ r_6 = 0) (r_8 : Int32) (er_8 : r_8 = f_X10_kindOf i_2 M) (M_10 : xM) (eM_10 : M_10 = f_X8_empty M) (c_11 : ¬ what = 0) : r_8 < 6 := by
  first
  | assumption
  | (have hk := fun a b => @kindOf_b a b; grind)
theorem ob_X10_ask_62_p2 (nb nn : Nat) (nt : Int32) (what : Int32) (M : xM) (hp0 : xHN nn M) (hp1 : xHB nb M) (i_2 : Nat) (o_3 : f_X10_noteOf nt M = some i_2) (hq_5 : i_2 < nn ∧ 0 ≤ nt ∧ nt < 24 ∧ nt < M 0 0 13 ∧ i_2 = nt.toNatClampNeg) (hi_4 : i_2 < nn) (r_6 : Int32) (er_6 : r_6 = xb (f_X10_isUpTo what 1 M)) (c_7 : ¬ r_6 = 0) (r_8 : Int32) (er_8 : r_8 = f_X10_kindOf i_2 M) (M_10 : xM) (eM_10 : M_10 = f_X8_empty M) (c_11 : ¬ what = 0) : 0 ≤ (0 : Int32) := by
  subst_vars
  grind [isUpTo_eq, isTown10_eq, xb, sheetOf_s, traderOf_s, bankOf_s, noteOf_s, hasPl, xup_at, xHB_o, xHN_o]
theorem ob_X10_ask_44_in (nb nn : Nat) (nt : Int32) (what : Int32) (M : xM) (hp0 : xHN nn M) (hp1 : xHB nb M) (i_2 : Nat) (o_3 : f_X10_noteOf nt M = some i_2) (hq_5 : i_2 < nn ∧ 0 ≤ nt ∧ nt < 24 ∧ nt < M 0 0 13 ∧ i_2 = nt.toNatClampNeg) (hi_4 : i_2 < nn) (r_6 : Int32) (er_6 : r_6 = xb (f_X10_isUpTo what 1 M)) (c_7 : ¬ r_6 = 0) (r_8 : Int32) (er_8 : r_8 = f_X10_kindOf i_2 M) (M_10 : xM) (eM_10 : M_10 = f_X8_empty M) (c_11 : what = 0) : vp_in r_8 6 := by
  subst_vars
  have hk := fun a b => @kindOf_b a b
  exact xin (N := 6) (by grind) (by grind) (by decide)
theorem ob_X10_ask_62_p0_2 (nb nn : Nat) (nt : Int32) (what : Int32) (M : xM) (hp0 : xHN nn M) (hp1 : xHB nb M) (i_2 : Nat) (o_3 : f_X10_noteOf nt M = some i_2) (hq_5 : i_2 < nn ∧ 0 ≤ nt ∧ nt < 24 ∧ nt < M 0 0 13 ∧ i_2 = nt.toNatClampNeg) (hi_4 : i_2 < nn) (r_6 : Int32) (er_6 : r_6 = xb (f_X10_isUpTo what 1 M)) (c_7 : ¬ r_6 = 0) (r_8 : Int32) (er_8 : r_8 = f_X10_kindOf i_2 M) (M_10 : xM) (eM_10 : M_10 = f_X8_empty M) (c_11 : what = 0) : 0 ≤ r_8 := by
  first
  | assumption
  | (have hk := fun a b => @kindOf_b a b; grind)
theorem ob_X10_ask_62_p1_2 (nb nn : Nat) (nt : Int32) (what : Int32) (M : xM) (hp0 : xHN nn M) (hp1 : xHB nb M) (i_2 : Nat) (o_3 : f_X10_noteOf nt M = some i_2) (hq_5 : i_2 < nn ∧ 0 ≤ nt ∧ nt < 24 ∧ nt < M 0 0 13 ∧ i_2 = nt.toNatClampNeg) (hi_4 : i_2 < nn) (r_6 : Int32) (er_6 : r_6 = xb (f_X10_isUpTo what 1 M)) (c_7 : ¬ r_6 = 0) (r_8 : Int32) (er_8 : r_8 = f_X10_kindOf i_2 M) (M_10 : xM) (eM_10 : M_10 = f_X8_empty M) (c_11 : what = 0) : r_8 < 6 := by
  first
  | assumption
  | (have hk := fun a b => @kindOf_b a b; grind)
theorem ob_X10_ask_62_p2_2 (nb nn : Nat) (nt : Int32) (what : Int32) (M : xM) (hp0 : xHN nn M) (hp1 : xHB nb M) (i_2 : Nat) (o_3 : f_X10_noteOf nt M = some i_2) (hq_5 : i_2 < nn ∧ 0 ≤ nt ∧ nt < 24 ∧ nt < M 0 0 13 ∧ i_2 = nt.toNatClampNeg) (hi_4 : i_2 < nn) (r_6 : Int32) (er_6 : r_6 = xb (f_X10_isUpTo what 1 M)) (c_7 : ¬ r_6 = 0) (r_8 : Int32) (er_8 : r_8 = f_X10_kindOf i_2 M) (M_10 : xM) (eM_10 : M_10 = f_X8_empty M) (c_11 : what = 0) : 0 ≤ (0 : Int32) := by
  subst_vars
  grind [isUpTo_eq, isTown10_eq, xb, sheetOf_s, traderOf_s, bankOf_s, noteOf_s, hasPl, xup_at, xHB_o, xHN_o]
set_option maxHeartbeats 4000000 in
set_option maxRecDepth 100000 in
theorem c_X10_ask (l : Launch) (nb nn : Nat) (g : xG) (L : List (Nat × Nat)) (M : xM) (hD : xD g L) (hL : xEL nb nn L) (nt : Int32) (what : Int32) (hp0 : xHN nn M) (hp1 : xHB nb M) : xCi l yX10_ask cX10_ask 5 (some .int) 21 g L M [.ref (xad g 0 0), .int nt, .int what] (fun r u => (r, u) = f_X10_ask nt what M) := by
  intro sz
  refine x_beg (by decide +kernel) rfl ?_
  intro p e s m args below meth c ls hsz hB
  subst hsz
  obtain ⟨hx, hb, hml, hown, hts, hr, hlk, hK, hAm, hP, hl⟩ := hB
  have S : CallFix p m c cX10_ask 5 s args (xws yX10_ask cX10_ask 5 (some .int)) RX10 := ⟨hx, hb, hml, hown, hts⟩
  have hown : s.vm.findClass RX10 = some m.cls := hown
  have hl : lv_has ls 5 [(0, .ref (xad g 0 0)), (1, .int nt), (2, .int what)] := hl
  have hS : va_S (xA g L s.heap.size) s.heap s.heap [] := va_S.rf
  obtain ⟨F, hF⟩ : ∃ F, F = f_X10_ask nt what M := ⟨_, rfl⟩
  have hres := hF
  rw [f_X10_ask] at hres
  refine lv_aload_n hx hb dX10_ask_0 rfl (lv_at hl 0 rfl) ?_
  refine lv_iload_n hx hb dX10_ask_1 rfl (lv_at hl 1 rfl) ?_
  refine x_callVq (As := [.int nt]) S hK hAm hD hP hS mt_X10_noteOf wd_725 ⟨by decide, by decide⟩ (hL 0 0 (xe_0 nb nn)) (xc0 g 0) rfl (c_X10_noteOf l nb nn g L M hD hL nt (ob_X10_ask_2_p0 nb nn nt what M hp0 hp1)) rfl hl.1 (Nat.le_of_ble_eq_true rfl) ⟨Nat.zero_le _, Nat.zero_le _⟩ dX10_ask_2 rfl (fun r_1 u H locs hp_ hP hS => ?_)
  obtain ⟨hp_, eu_⟩ := hp_
  rw [eu_] at hP
  clear eu_
  subst hp_
  rcases o_3 : f_X10_noteOf nt M with _ | i_2
  · replace hres := xopt_n hres o_3
    refine lv_astore_nN (lv' := [(3, .null), (0, .ref (xad g 0 0)), (1, .int nt), (2, .int what)]) hx hb dX10_ask_5 rfl hl (by decide) rfl (fun ls hl => ?_)
    refine lv_aload_nN hx hb dX10_ask_6 rfl (lv_at hl 0 rfl) ?_
    refine lv_ifnullN (tgt := 18) hx hb dX10_ask_7 (by decide) ?_
    refine lv_ldc (own := RX10) (v := (-1000001)) hx hb hown (hts _ (List.mem_cons_of_mem _ wd_174)) dX10_ask_18 ?_
    exact x_reti hx hb hr hlk hP hS (hres.symm.trans hF) dX10_ask_20
  · replace hres := xopt_s hres o_3
    have hq_5 := (ob_X10_ask_2_q nb nn nt what M hp0 hp1 i_2 o_3)
    have hi_4 := hq_5.1
    refine lv_astore_n (lv' := [(3, .ref (xad g 29 i_2)), (0, .ref (xad g 0 0)), (1, .int nt), (2, .int what)]) hx hb dX10_ask_5 rfl hl (by decide) rfl (fun ls hl => ?_)
    refine lv_aload_n hx hb dX10_ask_6 rfl (lv_at hl 0 rfl) ?_
    refine lv_ifnull hx hb dX10_ask_7 ?_
    refine lv_iload_n hx hb dX10_ask_10 rfl (lv_at hl 3 rfl) ?_
    refine lv_iconst (v := 1) hx hb dX10_ask_11 (by decide) ?_
    refine x_callSi (As := [.int what, .int 1]) S hK hAm hD hP hS mt_X10_isUpTo wd_179 ⟨by decide, by decide⟩ (c_X10_isUpTo l nb nn g L M hD hL what 1) rfl hl.1 (Nat.le_of_ble_eq_true rfl) ⟨Nat.zero_le _, Nat.zero_le _⟩ dX10_ask_12 rfl (fun r_6 u H locs hp_ hP hS => ?_)
    obtain ⟨er_6, eu_⟩ := hp_
    rw [eu_] at hP
    clear eu_
    replace hres := xlet_n hres er_6
    refine lv_if_ne (tgt := 21) hx hb dX10_ask_15 (by decide) (fun c_7 => ?_) (fun c_7 => ?_)
    · replace hres := hres.trans (if_neg c_7)
      refine lv_aload_n hx hb dX10_ask_21 rfl (lv_at hl 1 rfl) ?_
      refine lv_aload_n hx hb dX10_ask_22 rfl (lv_at hl 0 rfl) ?_
      refine x_callVi (As := [.ref (xad g 29 i_2)]) S hK hAm hD hP hS mt_X10_kindOf wd_999 ⟨by decide, by decide⟩ (hL 0 0 (xe_0 nb nn)) (xc0 g 0) rfl (c_X10_kindOf l nb nn g L M hD hL i_2 hi_4 (ob_X10_ask_23_p0 nb nn nt what M hp0 hp1 i_2 o_3 hq_5 hi_4 r_6 er_6 c_7)) rfl hl.1 (Nat.le_of_ble_eq_true rfl) ⟨Nat.zero_le _, Nat.zero_le _⟩ dX10_ask_23 rfl (fun r_8 u H locs hp_ hP hS => ?_)
      obtain ⟨er_8, eu_⟩ := hp_
      rw [eu_] at hP
      clear eu_
      replace hres := xlet_n hres er_8
      refine lv_istore (lv' := [(4, .int r_8), (3, .ref (xad g 29 i_2)), (0, .ref (xad g 0 0)), (1, .int nt), (2, .int what)]) hx hb dX10_ask_26 hl (by decide) rfl (fun ls hl => ?_)
      refine lv_aload_n hx hb dX10_ask_28 rfl (lv_at hl 2 rfl) ?_
      refine gf_RX10_80 hx hb hts hown hK hP (hL 0 0 (xe_0 nb nn)) dX10_ask_29 ?_
      refine x_callVv (As := []) S hK hAm hD hP hS mt_X8_empty wd_1031 ⟨by decide, by decide⟩ (hL 12 0 (xe_12 nb nn)) (xc12 g 0) rfl (c_X8_empty l nb nn g L M hD hL ) rfl hl.1 (Nat.le_of_ble_eq_true rfl) ⟨Nat.zero_le _, Nat.zero_le _⟩ dX10_ask_32 rfl (fun M_10 H locs eM_10 hP hS => ?_)
      replace hres := xlet_n hres eM_10
      refine lv_iload_n hx hb dX10_ask_35 rfl (lv_at hl 4 rfl) ?_
      refine lv_if_ne (tgt := 48) hx hb dX10_ask_36 (by decide) (fun c_11 => ?_) (fun c_11 => ?_)
      · replace hres := hres.trans (if_neg c_11)
        refine x_gets1 hx hb hts hown hAm hD hS wd_1030 dX10_ask_48 ?_
        refine lv_iload hx hb dX10_ask_51 (lv_at hl 0 rfl) ?_
        refine x_tab1 hx hb hAm hD hS (ob_X10_ask_53_in nb nn nt what M hp0 hp1 i_2 o_3 hq_5 hi_4 r_6 er_6 c_7 r_8 er_8 M_10 eM_10 c_11) dX10_ask_53 ?_
        refine lv_aload_n hx hb dX10_ask_54 rfl (lv_at hl 1 rfl) ?_
        refine lv_iload hx hb dX10_ask_55 (lv_at hl 0 rfl) ?_
        refine lv_aload_n hx hb dX10_ask_57 rfl (lv_at hl 2 rfl) ?_
        refine gf_RX10_80 hx hb hts hown hK hP (hL 0 0 (xe_0 nb nn)) dX10_ask_58 ?_
        refine lv_iconst (v := 0) hx hb dX10_ask_61 (by decide) ?_
        refine x_callSi (As := [.int (([20, 20, 21, 22, 20, 23] : List Int32).getD r_8.toNatClampNeg 0), .ref (xad g 29 i_2), .int r_8, .ref (xad g 12 0), .int 0]) S hK hAm hD hP hS mt_X10_giveBody wd_1035 ⟨by decide, by decide⟩ (c_X10_giveBody l nb nn g L hD hL 17 M_10 (([20, 20, 21, 22, 20, 23] : List Int32).getD r_8.toNatClampNeg 0) i_2 r_8 0 hi_4 (ob_X10_ask_62_p0 nb nn nt what M hp0 hp1 i_2 o_3 hq_5 hi_4 r_6 er_6 c_7 r_8 er_8 M_10 eM_10 c_11) (ob_X10_ask_62_p1 nb nn nt what M hp0 hp1 i_2 o_3 hq_5 hi_4 r_6 er_6 c_7 r_8 er_8 M_10 eM_10 c_11) (ob_X10_ask_62_p2 nb nn nt what M hp0 hp1 i_2 o_3 hq_5 hi_4 r_6 er_6 c_7 r_8 er_8 M_10 eM_10 c_11) (by decide)) rfl hl.1 (Nat.le_of_ble_eq_true rfl) ⟨Nat.zero_le _, Nat.zero_le _⟩ dX10_ask_62 rfl (fun r_12 M_13 H locs ep_ hP hS => ?_)
        replace hres := xlet2_n hres ep_
        have er_12 : r_12 = (f_X10_giveBody 17 (([20, 20, 21, 22, 20, 23] : List Int32).getD r_8.toNatClampNeg 0) i_2 r_8 0 M_10).1 := congrArg Prod.fst ep_
        have eM_13 : M_13 = (f_X10_giveBody 17 (([20, 20, 21, 22, 20, 23] : List Int32).getD r_8.toNatClampNeg 0) i_2 r_8 0 M_10).2 := congrArg Prod.snd ep_
        clear ep_
        exact x_reti hx hb hr hlk hP hS (hres.symm.trans hF) dX10_ask_65
      · replace hres := hres.trans (if_pos c_11)
        refine x_gets0 hx hb hts hown hAm hD hS wd_1029 dX10_ask_39 ?_
        refine lv_iload hx hb dX10_ask_42 (lv_at hl 0 rfl) ?_
        refine x_tab0 hx hb hAm hD hS (ob_X10_ask_44_in nb nn nt what M hp0 hp1 i_2 o_3 hq_5 hi_4 r_6 er_6 c_7 r_8 er_8 M_10 eM_10 c_11) dX10_ask_44 ?_
        refine lv_goto (tgt := 54) hx hb dX10_ask_45 (by decide) ?_
        refine lv_aload_n hx hb dX10_ask_54 rfl (lv_at hl 1 rfl) ?_
        refine lv_iload hx hb dX10_ask_55 (lv_at hl 0 rfl) ?_
        refine lv_aload_n hx hb dX10_ask_57 rfl (lv_at hl 2 rfl) ?_
        refine gf_RX10_80 hx hb hts hown hK hP (hL 0 0 (xe_0 nb nn)) dX10_ask_58 ?_
        refine lv_iconst (v := 0) hx hb dX10_ask_61 (by decide) ?_
        refine x_callSi (As := [.int (([10, 11, 12, 13, 14, 10] : List Int32).getD r_8.toNatClampNeg 0), .ref (xad g 29 i_2), .int r_8, .ref (xad g 12 0), .int 0]) S hK hAm hD hP hS mt_X10_giveBody wd_1035 ⟨by decide, by decide⟩ (c_X10_giveBody l nb nn g L hD hL 17 M_10 (([10, 11, 12, 13, 14, 10] : List Int32).getD r_8.toNatClampNeg 0) i_2 r_8 0 hi_4 (ob_X10_ask_62_p0_2 nb nn nt what M hp0 hp1 i_2 o_3 hq_5 hi_4 r_6 er_6 c_7 r_8 er_8 M_10 eM_10 c_11) (ob_X10_ask_62_p1_2 nb nn nt what M hp0 hp1 i_2 o_3 hq_5 hi_4 r_6 er_6 c_7 r_8 er_8 M_10 eM_10 c_11) (ob_X10_ask_62_p2_2 nb nn nt what M hp0 hp1 i_2 o_3 hq_5 hi_4 r_6 er_6 c_7 r_8 er_8 M_10 eM_10 c_11) (by decide)) rfl hl.1 (Nat.le_of_ble_eq_true rfl) ⟨Nat.zero_le _, Nat.zero_le _⟩ dX10_ask_62 rfl (fun r_14 M_15 H locs ep_ hP hS => ?_)
        replace hres := xlet2_n hres ep_
        have er_14 : r_14 = (f_X10_giveBody 17 (([10, 11, 12, 13, 14, 10] : List Int32).getD r_8.toNatClampNeg 0) i_2 r_8 0 M_10).1 := congrArg Prod.fst ep_
        have eM_15 : M_15 = (f_X10_giveBody 17 (([10, 11, 12, 13, 14, 10] : List Int32).getD r_8.toNatClampNeg 0) i_2 r_8 0 M_10).2 := congrArg Prod.snd ep_
        clear ep_
        exact x_reti hx hb hr hlk hP hS (hres.symm.trans hF) dX10_ask_65
    · replace hres := hres.trans (if_pos c_7)
      refine lv_ldc (own := RX10) (v := (-1000001)) hx hb hown (hts _ (List.mem_cons_of_mem _ wd_174)) dX10_ask_18 ?_
      exact x_reti hx hb hr hlk hP hS (hres.symm.trans hF) dX10_ask_20
