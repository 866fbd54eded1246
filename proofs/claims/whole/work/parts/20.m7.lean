def f_X11_inHundred (q : Int32) (t : Int32) (M : xM) : Int32 × xM :=
  xlet2 (f_X11_worthOf q (M 94 0 t.toNatClampNeg) (M 40 0 13) M) fun r_1 M_2 => ((r_1 / (M_2 82 0 q.toNatClampNeg)), M_2)
theorem ob_X11_inHundred_7_in (nb nn : Nat) (q : Int32) (t : Int32) (M : xM) (hp0 : 0 ≤ q) (hp1 : q < 24) (hp2 : 0 ≤ t) (hp3 : t ≤ 7) (hp4 : mI M) (hp5 : q < M 40 0 30) : vp_in t 8 := by
  subst_vars
  exact xin (N := 8) (by grind [mI, wor2]) (by grind [mI, wor2]) (by decide)
theorem ob_X11_inHundred_12_p0 (nb nn : Nat) (q : Int32) (t : Int32) (M : xM) (hp0 : 0 ≤ q) (hp1 : q < 24) (hp2 : 0 ≤ t) (hp3 : t ≤ 7) (hp4 : mI M) (hp5 : q < M 40 0 30) : 0 ≤ q := by
  subst_vars
  grind [mI, wor2]
theorem ob_X11_inHundred_12_p1 (nb nn : Nat) (q : Int32) (t : Int32) (M : xM) (hp0 : 0 ≤ q) (hp1 : q < 24) (hp2 : 0 ≤ t) (hp3 : t ≤ 7) (hp4 : mI M) (hp5 : q < M 40 0 30) : q < 24 := by
  subst_vars
  grind [mI, wor2]
theorem ob_X11_inHundred_12_p2 (nb nn : Nat) (q : Int32) (t : Int32) (M : xM) (hp0 : 0 ≤ q) (hp1 : q < 24) (hp2 : 0 ≤ t) (hp3 : t ≤ 7) (hp4 : mI M) (hp5 : q < M 40 0 30) : 0 ≤ (M 94 0 t.toNatClampNeg) := by
  subst_vars
  grind [mI, wor2]
theorem ob_X11_inHundred_12_p3 (nb nn : Nat) (q : Int32) (t : Int32) (M : xM) (hp0 : 0 ≤ q) (hp1 : q < 24) (hp2 : 0 ≤ t) (hp3 : t ≤ 7) (hp4 : mI M) (hp5 : q < M 40 0 30) : (M 94 0 t.toNatClampNeg) ≤ 5 := by
  subst_vars
  grind [mI, wor2]
theorem ob_X11_inHundred_12_p4 (nb nn : Nat) (q : Int32) (t : Int32) (M : xM) (hp0 : 0 ≤ q) (hp1 : q < 24) (hp2 : 0 ≤ t) (hp3 : t ≤ 7) (hp4 : mI M) (hp5 : q < M 40 0 30) : mI M := by
  subst_vars
  grind [mI, wor2]
theorem ob_X11_inHundred_20_in (nb nn : Nat) (q : Int32) (t : Int32) (M : xM) (hp0 : 0 ≤ q) (hp1 : q < 24) (hp2 : 0 ≤ t) (hp3 : t ≤ 7) (hp4 : mI M) (hp5 : q < M 40 0 30) (r_1 : Int32) (M_2 : xM) (er_1 : r_1 = (f_X11_worthOf q (M 94 0 t.toNatClampNeg) (M 40 0 13) M).1) (eM_2 : M_2 = (f_X11_worthOf q (M 94 0 t.toNatClampNeg) (M 40 0 13) M).2) : vp_in q 24 := by
  subst_vars
  exact xin (N := 24) (by grind [mI, wor2]) (by grind [mI, wor2]) (by decide)
theorem ob_X11_inHundred_21_ne (nb nn : Nat) (q : Int32) (t : Int32) (M : xM) (hp0 : 0 ≤ q) (hp1 : q < 24) (hp2 : 0 ≤ t) (hp3 : t ≤ 7) (hp4 : mI M) (hp5 : q < M 40 0 30) (r_1 : Int32) (M_2 : xM) (er_1 : r_1 = (f_X11_worthOf q (M 94 0 t.toNatClampNeg) (M 40 0 13) M).1) (eM_2 : M_2 = (f_X11_worthOf q (M 94 0 t.toNatClampNeg) (M 40 0 13) M).2) : ¬ (M_2 82 0 q.toNatClampNeg) = 0 := by
  subst_vars
  grind [mI, wor2]
set_option maxHeartbeats 4000000 in
set_option maxRecDepth 100000 in
theorem c_X11_inHundred (l : Launch) (nb nn : Nat) (g : xG) (L : List (Nat × Nat)) (M : xM) (hD : xD g L) (hL : xEL nb nn L) (q : Int32) (t : Int32) (hp0 : 0 ≤ q) (hp1 : q < 24) (hp2 : 0 ≤ t) (hp3 : t ≤ 7) (hp4 : mI M) (hp5 : q < M 40 0 30) : xCi l yX11_inHundred cX11_inHundred 3 (some .int) 5 g L M [.ref (xad g 40 0), .int q, .int t] (fun r u => (r, u) = f_X11_inHundred q t M) := by
  intro sz
  refine x_beg (by decide +kernel) rfl ?_
  intro p e s m args below meth c ls hsz hB
  subst hsz
  obtain ⟨hx, hb, hml, hown, hts, hr, hlk, hK, hAm, hP, hl⟩ := hB
  have S : CallFix p m c cX11_inHundred 3 s args (xws yX11_inHundred cX11_inHundred 3 (some .int)) RX11 := ⟨hx, hb, hml, hown, hts⟩
  have hown : s.vm.findClass RX11 = some m.cls := hown
  have hl : lv_has ls 3 [(0, .ref (xad g 40 0)), (1, .int q), (2, .int t)] := hl
  have hS : va_S (xA g L s.heap.size) s.heap s.heap [] := va_S.rf
  obtain ⟨F, hF⟩ : ∃ F, F = f_X11_inHundred q t M := ⟨_, rfl⟩
  have hres := hF
  rw [f_X11_inHundred] at hres
  refine lv_aload_n hx hb dX11_inHundred_0 rfl (lv_at hl 0 rfl) ?_
  refine lv_iload_n hx hb dX11_inHundred_1 rfl (lv_at hl 1 rfl) ?_
  refine lv_aload_n hx hb dX11_inHundred_2 rfl (lv_at hl 0 rfl) ?_
  refine gf_RX11_95 hx hb hts hown hK hP (hL 40 0 (xe_40 nb nn)) dX11_inHundred_3 ?_
  refine lv_iload_n hx hb dX11_inHundred_6 rfl (lv_at hl 2 rfl) ?_
  refine x_iald hx hb hK hP (hL 94 0 (xe_94 nb nn)) (xc94 g 0) (ob_X11_inHundred_7_in nb nn q t M hp0 hp1 hp2 hp3 hp4 hp5) dX11_inHundred_7 ?_
  refine lv_aload_n hx hb dX11_inHundred_8 rfl (lv_at hl 0 rfl) ?_
  refine gf_RX11_167 hx hb hts hown hK hP (hL 40 0 (xe_40 nb nn)) dX11_inHundred_9 ?_
  refine x_callVi (As := [.int q, .int (M 94 0 t.toNatClampNeg), .int (M 40 0 13)]) S hK hAm hD hP hS mt_X11_worthOf wd_787 ⟨by decide, by decide⟩ (hL 40 0 (xe_40 nb nn)) (xc40 g 0) rfl (c_X11_worthOf l nb nn g L M hD hL q (M 94 0 t.toNatClampNeg) (M 40 0 13) (ob_X11_inHundred_12_p0 nb nn q t M hp0 hp1 hp2 hp3 hp4 hp5) (ob_X11_inHundred_12_p1 nb nn q t M hp0 hp1 hp2 hp3 hp4 hp5) (ob_X11_inHundred_12_p2 nb nn q t M hp0 hp1 hp2 hp3 hp4 hp5) (ob_X11_inHundred_12_p3 nb nn q t M hp0 hp1 hp2 hp3 hp4 hp5) (ob_X11_inHundred_12_p4 nb nn q t M hp0 hp1 hp2 hp3 hp4 hp5)) rfl hl.1 (Nat.le_of_ble_eq_true rfl) ⟨Nat.zero_le _, Nat.zero_le _⟩ dX11_inHundred_12 rfl (fun r_1 M_2 H locs ep_ hP hS => ?_)
  replace hres := xlet2_n hres ep_
  have er_1 : r_1 = (f_X11_worthOf q (M 94 0 t.toNatClampNeg) (M 40 0 13) M).1 := congrArg Prod.fst ep_
  have eM_2 : M_2 = (f_X11_worthOf q (M 94 0 t.toNatClampNeg) (M 40 0 13) M).2 := congrArg Prod.snd ep_
  clear ep_
  refine lv_aload_n hx hb dX11_inHundred_15 rfl (lv_at hl 0 rfl) ?_
  refine gf_RX11_59 hx hb hts hown hK hP (hL 40 0 (xe_40 nb nn)) dX11_inHundred_16 ?_
  refine lv_iload_n hx hb dX11_inHundred_19 rfl (lv_at hl 1 rfl) ?_
  refine x_iald hx hb hK hP (hL 82 0 (xe_82 nb nn)) (xc82 g 0) (ob_X11_inHundred_20_in nb nn q t M hp0 hp1 hp2 hp3 hp4 hp5 r_1 M_2 er_1 eM_2) dX11_inHundred_20 ?_
  refine lv_idiv hx hb dX11_inHundred_21 (ob_X11_inHundred_21_ne nb nn q t M hp0 hp1 hp2 hp3 hp4 hp5 r_1 M_2 er_1 eM_2) ?_
  exact x_reti hx hb hr hlk hP hS (hres.symm.trans hF) dX11_inHundred_22
