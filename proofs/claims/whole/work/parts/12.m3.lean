def f_X11_must (so : Int32) (M : xM) : xM :=
  if so = 0 then xlet (f_X11_bad 1 M) fun M_6 => if (M_6 40 0 28) = 0 then xlet (f_X11_step M_6) fun M_9 => M_9 else M_6 else if (M 40 0 28) = 0 then xlet (f_X11_step M) fun M_4 => M_4 else M
def f_X11_word_L7  (M : xM) : Nat → Int64 → Int32 → (Int64 → Int32 → Int64) → Int64
  | 0, _, _, _ => 0
  | n + 1, v, k, kx => if (M 40 0 27) ≤ k then kx v k else if (M 40 0 25) = 2 then if 8 ≤ ((M 40 0 27) - (M 40 0 26)) then kx v k else xlet ((v <<< ((8 : Int32).toInt64 &&& 63)) ||| (M 70 0 k.toNatClampNeg).toInt64) fun x1_4 => xlet (k + 1) fun x3_5 => f_X11_word_L7 M n x1_4 x3_5 kx else kx v k
def f_X11_word  (M : xM) : Int64 :=
  xlet (M 40 0 26) fun x3_6 => f_X11_word_L7 M (xmu x3_6 (M 40 0 27) + 1) (0 : Int64) x3_6 (fun v_7 k_8 => v_7)
def f_X11_entryOfWord  (M : xM) : Int32 :=
  xlet (f_X11_word M) fun r_1 => if (lg_cmp r_1 7300710) = 0 then 0 else if (lg_cmp r_1 439721161573) = 0 then 1 else if (lg_cmp r_1 32497644298331492) = 0 then 2 else (-1000000)
def f_X11_numberTo_L16 (most : Int32) (N_ : xM) : Nat → Int32 → Int32 → (Int32 → Int32 → Int32 × xM) → Int32 × xM
  | 0, _, _, _ => (0, N_)
  | n + 1, v, k, kx => if (N_ 40 0 27) ≤ k then kx v k else if (N_ 40 0 25) = 3 then xlet (((10 * v) + (N_ 70 0 k.toNatClampNeg)) - 48) fun x2_3 => xlet (k + 1) fun x3_4 => f_X11_numberTo_L16 most N_ n x2_3 x3_4 kx else kx v k
def f_X11_numberTo (most : Int32) (M : xM) : Int32 × xM :=
  if (M 40 0 28) ≤ 0 then xlet (M 40 0 26) fun x3_6 => f_X11_numberTo_L16 most M (xmu x3_6 (M 40 0 27) + 1) (0 : Int32) x3_6 (fun v_7 k_8 => if (M 40 0 25) = 3 then if v_7 ≤ most then xlet (f_X11_must 1 M) fun M_16 => (v_7, M_16) else xlet (f_X11_bad 2 M) fun M_18 => if (M_18 40 0 25) = 3 then xlet (f_X11_must 1 M_18) fun M_23 => (v_7, M_23) else xlet (f_X11_must 0 M_18) fun M_21 => (v_7, M_21) else xlet (f_X11_must 0 M) fun M_12 => (v_7, M_12)) else (0, M)
def f_X11_bookWeek (town : Int32) (w : Int32) (M : xM) : Int32 × xM :=
  xlet2 (f_X11_farFrom 0 town M) fun r_1 M_2 => if r_1 = (-1000000) then ((-1), M_2) else ((w - (r_1 / 100)), M_2)
theorem ob_X11_must_17_p0 (nb nn : Nat) (so : Int32) (M : xM) (hp0 : pI M) (c_1 : ¬ so = 0) (c_2 : (M 40 0 28) = 0) : 0 ≤ M 40 0 24 ∧ M 40 0 24 ≤ M 40 0 23 ∧ M 40 0 23 ≤ 400 := by
  subst_vars
  grind [pI, xup_at, pI_bad, pI_step, bad_at, xb]
theorem ob_X11_must_17_p0_2 (nb nn : Nat) (so : Int32) (M : xM) (hp0 : pI M) (c_1 : so = 0) (M_6 : xM) (eM_6 : M_6 = f_X11_bad 1 M) (c_7 : (M_6 40 0 28) = 0) : 0 ≤ M_6 40 0 24 ∧ M_6 40 0 24 ≤ M_6 40 0 23 ∧ M_6 40 0 23 ≤ 400 := by
  subst_vars
  grind [pI, xup_at, pI_bad, pI_step, bad_at, xb]
theorem ob_X11_word_56_x7 (nb nn : Nat) (M : xM) (hp0 : pI M) (n : Nat) (v : Int64) (k : Int32) (hmu : xmu k (M 40 0 27) < n + 1) (hinv : 0 ≤ k) (c_1 : (M 40 0 27) ≤ k) : 0 ≤ k := by
  subst_vars
  grind [pI, xup_at, pI_bad, pI_step, bad_at, xb]
theorem ob_X11_word_56_x7_2 (nb nn : Nat) (M : xM) (hp0 : pI M) (n : Nat) (v : Int64) (k : Int32) (hmu : xmu k (M 40 0 27) < n + 1) (hinv : 0 ≤ k) (c_1 : ¬ (M 40 0 27) ≤ k) (c_2 : ¬ (M 40 0 25) = 2) : 0 ≤ k := by
  subst_vars
  grind [pI, xup_at, pI_bad, pI_step, bad_at, xb]
theorem ob_X11_word_56_x7_3 (nb nn : Nat) (M : xM) (hp0 : pI M) (n : Nat) (v : Int64) (k : Int32) (hmu : xmu k (M 40 0 27) < n + 1) (hinv : 0 ≤ k) (c_1 : ¬ (M 40 0 27) ≤ k) (c_2 : (M 40 0 25) = 2) (c_3 : 8 ≤ ((M 40 0 27) - (M 40 0 26))) : 0 ≤ k := by
  subst_vars
  grind [pI, xup_at, pI_bad, pI_step, bad_at, xb]
theorem ob_X11_word_46_in (nb nn : Nat) (M : xM) (hp0 : pI M) (n : Nat) (v : Int64) (k : Int32) (hmu : xmu k (M 40 0 27) < n + 1) (hinv : 0 ≤ k) (c_1 : ¬ (M 40 0 27) ≤ k) (c_2 : (M 40 0 25) = 2) (c_3 : ¬ 8 ≤ ((M 40 0 27) - (M 40 0 26))) : vp_in k 400 := by
  subst_vars
  exact xin (N := 400) (by grind [pI, xup_at, pI_bad, pI_step, bad_at, xb]) (by grind [pI, xup_at, pI_bad, pI_step, bad_at, xb]) (by decide)
theorem ob_X11_word_7_mu_5 (nb nn : Nat) (M : xM) (hp0 : pI M) (n : Nat) (v : Int64) (k : Int32) (hmu : xmu k (M 40 0 27) < n + 1) (hinv : 0 ≤ k) (c_1 : ¬ (M 40 0 27) ≤ k) (c_2 : (M 40 0 25) = 2) (c_3 : ¬ 8 ≤ ((M 40 0 27) - (M 40 0 26))) (x1_4 : Int64) (ex1_4 : x1_4 = ((v <<< ((8 : Int32).toInt64 &&& 63)) ||| (M 70 0 k.toNatClampNeg).toInt64)) (x3_5 : Int32) (ex3_5 : x3_5 = k + 1) : xmu x3_5 (M 40 0 27) < n := by
  subst_vars
  have h9 := xmu_up (a := k) (b := (M 40 0 27)) (by grind)
  (try simp [xup_at])
  omega
theorem ob_X11_word_7_inv_5 (nb nn : Nat) (M : xM) (hp0 : pI M) (n : Nat) (v : Int64) (k : Int32) (hmu : xmu k (M 40 0 27) < n + 1) (hinv : 0 ≤ k) (c_1 : ¬ (M 40 0 27) ≤ k) (c_2 : (M 40 0 25) = 2) (c_3 : ¬ 8 ≤ ((M 40 0 27) - (M 40 0 26))) (x1_4 : Int64) (ex1_4 : x1_4 = ((v <<< ((8 : Int32).toInt64 &&& 63)) ||| (M 70 0 k.toNatClampNeg).toInt64)) (x3_5 : Int32) (ex3_5 : x3_5 = k + 1) : 0 ≤ x3_5 := by
  subst_vars
  grind [pI, xup_at, pI_bad, pI_step, bad_at, xb]
theorem ob_X11_word_7_ini_6 (nb nn : Nat) (M : xM) (hp0 : pI M) (x3_6 : Int32) (ex3_6 : x3_6 = (M 40 0 26)) : 0 ≤ x3_6 := by
  subst_vars
  grind [pI, xup_at, pI_bad, pI_step, bad_at, xb]
theorem ob_X11_entryOfWord_1_p0 (nb nn : Nat) (M : xM) (hp0 : pI M) : pI M := by
  subst_vars
  grind [pI, xup_at, pI_bad, pI_step, bad_at, xb]
theorem ob_X11_numberTo_53_x16 (nb nn : Nat) (most : Int32) (M : xM) (hp0 : pI M) (n : Nat) (v : Int32) (k : Int32) (N_ : xM) (hmu : xmu k (N_ 40 0 27) < n + 1) (hinv : 0 ≤ k ∧ pI N_) (c_1 : (N_ 40 0 27) ≤ k) : 0 ≤ k ∧ pI N_ := by
  subst_vars
  grind [pI, xup_at, pI_bad, pI_step, bad_at, xb]
theorem ob_X11_numberTo_53_x16_2 (nb nn : Nat) (most : Int32) (M : xM) (hp0 : pI M) (n : Nat) (v : Int32) (k : Int32) (N_ : xM) (hmu : xmu k (N_ 40 0 27) < n + 1) (hinv : 0 ≤ k ∧ pI N_) (c_1 : ¬ (N_ 40 0 27) ≤ k) (c_2 : ¬ (N_ 40 0 25) = 3) : 0 ≤ k ∧ pI N_ := by
  subst_vars
  grind [pI, xup_at, pI_bad, pI_step, bad_at, xb]
theorem ob_X11_numberTo_41_in (nb nn : Nat) (most : Int32) (M : xM) (hp0 : pI M) (n : Nat) (v : Int32) (k : Int32) (N_ : xM) (hmu : xmu k (N_ 40 0 27) < n + 1) (hinv : 0 ≤ k ∧ pI N_) (c_1 : ¬ (N_ 40 0 27) ≤ k) (c_2 : (N_ 40 0 25) = 3) : vp_in k 400 := by
  subst_vars
  exact xin (N := 400) (by grind [pI, xup_at, pI_bad, pI_step, bad_at, xb]) (by grind [pI, xup_at, pI_bad, pI_step, bad_at, xb]) (by decide)
theorem ob_X11_numberTo_16_mu_4 (nb nn : Nat) (most : Int32) (M : xM) (hp0 : pI M) (n : Nat) (v : Int32) (k : Int32) (N_ : xM) (hmu : xmu k (N_ 40 0 27) < n + 1) (hinv : 0 ≤ k ∧ pI N_) (c_1 : ¬ (N_ 40 0 27) ≤ k) (c_2 : (N_ 40 0 25) = 3) (x2_3 : Int32) (ex2_3 : x2_3 = (((10 * v) + (N_ 70 0 k.toNatClampNeg)) - 48)) (x3_4 : Int32) (ex3_4 : x3_4 = k + 1) : xmu x3_4 (N_ 40 0 27) < n := by
  subst_vars
  have h9 := xmu_up (a := k) (b := (N_ 40 0 27)) (by grind)
  (try simp [xup_at])
  omega
theorem ob_X11_numberTo_16_inv_4 (nb nn : Nat) (most : Int32) (M : xM) (hp0 : pI M) (n : Nat) (v : Int32) (k : Int32) (N_ : xM) (hmu : xmu k (N_ 40 0 27) < n + 1) (hinv : 0 ≤ k ∧ pI N_) (c_1 : ¬ (N_ 40 0 27) ≤ k) (c_2 : (N_ 40 0 25) = 3) (x2_3 : Int32) (ex2_3 : x2_3 = (((10 * v) + (N_ 70 0 k.toNatClampNeg)) - 48)) (x3_4 : Int32) (ex3_4 : x3_4 = k + 1) : 0 ≤ x3_4 ∧ pI N_ := by
  subst_vars
  grind [pI, xup_at, pI_bad, pI_step, bad_at, xb]
theorem ob_X11_numberTo_16_ini_6 (nb nn : Nat) (most : Int32) (M : xM) (hp0 : pI M) (c_5 : (M 40 0 28) ≤ 0) (x3_6 : Int32) (ex3_6 : x3_6 = (M 40 0 26)) : 0 ≤ x3_6 ∧ pI M := by
  subst_vars
  grind [pI, xup_at, pI_bad, pI_step, bad_at, xb]
theorem ob_X11_numberTo_85_p0 (nb nn : Nat) (most : Int32) (M : xM) (hp0 : pI M) (c_5 : (M 40 0 28) ≤ 0) (x3_6 : Int32) (ex3_6 : x3_6 = (M 40 0 26)) (v_7 : Int32) (k_8 : Int32) (hiv_8 : 0 ≤ k_8 ∧ pI M) (c_9 : ¬ (M 40 0 25) = 3) : pI M := by
  subst_vars
  grind [pI, xup_at, pI_bad, pI_step, bad_at, xb]
theorem ob_X11_numberTo_85_p0_2 (nb nn : Nat) (most : Int32) (M : xM) (hp0 : pI M) (c_5 : (M 40 0 28) ≤ 0) (x3_6 : Int32) (ex3_6 : x3_6 = (M 40 0 26)) (v_7 : Int32) (k_8 : Int32) (hiv_8 : 0 ≤ k_8 ∧ pI M) (c_9 : (M 40 0 25) = 3) (c_13 : v_7 ≤ most) : pI M := by
  subst_vars
  grind [pI, xup_at, pI_bad, pI_step, bad_at, xb]
theorem ob_X11_numberTo_85_p0_3 (nb nn : Nat) (most : Int32) (M : xM) (hp0 : pI M) (c_5 : (M 40 0 28) ≤ 0) (x3_6 : Int32) (ex3_6 : x3_6 = (M 40 0 26)) (v_7 : Int32) (k_8 : Int32) (hiv_8 : 0 ≤ k_8 ∧ pI M) (c_9 : (M 40 0 25) = 3) (c_13 : ¬ v_7 ≤ most) (M_18 : xM) (eM_18 : M_18 = f_X11_bad 2 M) (c_19 : ¬ (M_18 40 0 25) = 3) : pI M_18 := by
  subst_vars
  grind [pI, xup_at, pI_bad, pI_step, bad_at, xb]
theorem ob_X11_numberTo_85_p0_4 (nb nn : Nat) (most : Int32) (M : xM) (hp0 : pI M) (c_5 : (M 40 0 28) ≤ 0) (x3_6 : Int32) (ex3_6 : x3_6 = (M 40 0 26)) (v_7 : Int32) (k_8 : Int32) (hiv_8 : 0 ≤ k_8 ∧ pI M) (c_9 : (M 40 0 25) = 3) (c_13 : ¬ v_7 ≤ most) (M_18 : xM) (eM_18 : M_18 = f_X11_bad 2 M) (c_19 : (M_18 40 0 25) = 3) : pI M_18 := by
  subst_vars
  grind [pI, xup_at, pI_bad, pI_step, bad_at, xb]
theorem ob_X11_bookWeek_3_p0 (nb nn : Nat) (town : Int32) (w : Int32) (M : xM) (hp0 : 0 ≤ town) (hp1 : town ≤ 5) : 0 ≤ town := by
  subst_vars
  grind [xup_at, isSheet_eq, isTown_eq, isWeek_eq, isTrader_eq, in_0s, isBank_eq, in_0_1, in_0_2, in_0_4, in_0_5, in_0_6, in_0_7, in_0_100, in_0_255, in_0_299, in_0_500, in_0_9999, in_0_99999, in_1_6, in_1_8, in_1_100, in_1_999, in_t_299, xb]
theorem ob_X11_bookWeek_3_p1 (nb nn : Nat) (town : Int32) (w : Int32) (M : xM) (hp0 : 0 ≤ town) (hp1 : town ≤ 5) : town ≤ 5 := by
  subst_vars
  grind [xup_at, isSheet_eq, isTown_eq, isWeek_eq, isTrader_eq, in_0s, isBank_eq, in_0_1, in_0_2, in_0_4, in_0_5, in_0_6, in_0_7, in_0_100, in_0_255, in_0_299, in_0_500, in_0_9999, in_0_99999, in_1_6, in_1_8, in_1_100, in_1_999, in_t_299, xb]
set_option maxHeartbeats 4000000 in
set_option maxRecDepth 100000 in
theorem c_X11_must (l : Launch) (nb nn : Nat) (g : xG) (L : List (Nat × Nat)) (M : xM) (hD : xD g L) (hL : xEL nb nn L) (so : Int32) (hp0 : pI M) : xCv l yX11_must cX11_must 2 2 g L M [.ref (xad g 40 0), .int so] (fun u => u = f_X11_must so M) := by
  intro sz
  refine x_beg (by decide +kernel) rfl ?_
  intro p e s m args below meth c ls hsz hB
  subst hsz
  obtain ⟨hx, hb, hml, hown, hts, hr, hlk, hK, hAm, hP, hl⟩ := hB
  have S : CallFix p m c cX11_must 2 s args (xws yX11_must cX11_must 2 none) RX11 := ⟨hx, hb, hml, hown, hts⟩
  have hown : s.vm.findClass RX11 = some m.cls := hown
  have hl : lv_has ls 2 [(0, .ref (xad g 40 0)), (1, .int so)] := hl
  have hS : va_S (xA g L s.heap.size) s.heap s.heap [] := va_S.rf
  obtain ⟨F, hF⟩ : ∃ F, F = f_X11_must so M := ⟨_, rfl⟩
  have hres := hF
  rw [f_X11_must] at hres
  refine lv_iload_n hx hb dX11_must_0 rfl (lv_at hl 1 rfl) ?_
  refine lv_if_ne (tgt := 9) hx hb dX11_must_1 (by decide) (fun c_1 => ?_) (fun c_1 => ?_)
  · replace hres := hres.trans (if_neg c_1)
    refine lv_aload_n hx hb dX11_must_9 rfl (lv_at hl 0 rfl) ?_
    refine gf_RX11_199 hx hb hts hown hK hP (hL 40 0 (xe_40 nb nn)) dX11_must_10 ?_
    refine lv_if_ne (tgt := 20) hx hb dX11_must_13 (by decide) (fun c_2 => ?_) (fun c_2 => ?_)
    · replace hres := hres.trans (if_neg c_2)
      exact x_retv hx hb hr hlk hP hS (hres.symm.trans hF) dX11_must_20
    · replace hres := hres.trans (if_pos c_2)
      refine lv_aload_n hx hb dX11_must_16 rfl (lv_at hl 0 rfl) ?_
      refine x_callVv (As := []) S hK hAm hD hP hS mt_X11_step wd_570 ⟨by decide, by decide⟩ (hL 40 0 (xe_40 nb nn)) (xc40 g 0) rfl (c_X11_step l nb nn g L M hD hL  (ob_X11_must_17_p0 nb nn so M hp0 c_1 c_2)) rfl hl.1 (Nat.le_of_ble_eq_true rfl) ⟨Nat.zero_le _, Nat.zero_le _⟩ dX11_must_17 rfl (fun M_4 H locs eM_4 hP hS => ?_)
      replace hres := xlet_n hres eM_4
      exact x_retv hx hb hr hlk hP hS (hres.symm.trans hF) dX11_must_20
  · replace hres := hres.trans (if_pos c_1)
    refine lv_aload_n hx hb dX11_must_4 rfl (lv_at hl 0 rfl) ?_
    refine lv_iconst (v := 1) hx hb dX11_must_5 (by decide) ?_
    refine x_callVv (As := [.int 1]) S hK hAm hD hP hS mt_X11_bad wd_594 ⟨by decide, by decide⟩ (hL 40 0 (xe_40 nb nn)) (xc40 g 0) rfl (c_X11_bad l nb nn g L M hD hL 1) rfl hl.1 (Nat.le_of_ble_eq_true rfl) ⟨Nat.zero_le _, Nat.zero_le _⟩ dX11_must_6 rfl (fun M_6 H locs eM_6 hP hS => ?_)
    replace hres := xlet_n hres eM_6
    refine lv_aload_n hx hb dX11_must_9 rfl (lv_at hl 0 rfl) ?_
    refine gf_RX11_199 hx hb hts hown hK hP (hL 40 0 (xe_40 nb nn)) dX11_must_10 ?_
    refine lv_if_ne (tgt := 20) hx hb dX11_must_13 (by decide) (fun c_7 => ?_) (fun c_7 => ?_)
    · replace hres := hres.trans (if_neg c_7)
      exact x_retv hx hb hr hlk hP hS (hres.symm.trans hF) dX11_must_20
    · replace hres := hres.trans (if_pos c_7)
      refine lv_aload_n hx hb dX11_must_16 rfl (lv_at hl 0 rfl) ?_
      refine x_callVv (As := []) S hK hAm hD hP hS mt_X11_step wd_570 ⟨by decide, by decide⟩ (hL 40 0 (xe_40 nb nn)) (xc40 g 0) rfl (c_X11_step l nb nn g L M_6 hD hL  (ob_X11_must_17_p0_2 nb nn so M hp0 c_1 M_6 eM_6 c_7)) rfl hl.1 (Nat.le_of_ble_eq_true rfl) ⟨Nat.zero_le _, Nat.zero_le _⟩ dX11_must_17 rfl (fun M_9 H locs eM_9 hP hS => ?_)
      replace hres := xlet_n hres eM_9
      exact x_retv hx hb hr hlk hP hS (hres.symm.trans hF) dX11_must_20
set_option maxHeartbeats 4000000 in
set_option maxRecDepth 100000 in
theorem c_X11_word (l : Launch) (nb nn : Nat) (g : xG) (L : List (Nat × Nat)) (M : xM) (hD : xD g L) (hL : xEL nb nn L)  (hp0 : pI M) : xCl l yX11_word cX11_word 4 (some .long) 0 g L M [.ref (xad g 40 0)] (fun r u => r = f_X11_word  M ∧ u = M) := by
  intro sz
  refine x_beg (by decide +kernel) rfl ?_
  intro p e s m args below meth c ls hsz hB
  subst hsz
  obtain ⟨hx, hb, hml, hown, hts, hr, hlk, hK, hAm, hP, hl⟩ := hB
  have S : CallFix p m c cX11_word 4 s args (xws yX11_word cX11_word 4 (some .long)) RX11 := ⟨hx, hb, hml, hown, hts⟩
  have hown : s.vm.findClass RX11 = some m.cls := hown
  have hl : lv_has ls 4 [(0, .ref (xad g 40 0))] := hl
  have hS : va_S (xA g L s.heap.size) s.heap s.heap [] := va_S.rf
  obtain ⟨F, hF⟩ : ∃ F, F = f_X11_word  M := ⟨_, rfl⟩
  have k_7 : ∀ (n : Nat) (v : Int64) (k : Int32) (H : Heap) (locs : List Loc) (ls : Array Slot) (kx : (Int64 → Int32 → Int64)), xmu k (M 40 0 27) < n → 0 ≤ k → F = f_X11_word_L7 M n v k kx → xP g L M H → va_S (xA g L s.heap.size) s.heap H locs → lv_has ls 4 [(0, .ref (xad g 40 0)), (1, .long v), (3, .int k)] → (∀ (v : Int64) (k : Int32) (H : Heap) (locs : List Loc) (ls : Array Slot), 0 ≤ k → F = kx v k → xP g L M H → va_S (xA g L s.heap.size) s.heap H locs → lv_has ls 4 [(0, .ref (xad g 40 0)), (1, .long v), (3, .int k)] → W p l e (xr 0) s m args below meth c H locs 0 0 (MQ below (va_Ql (fun r u => r = f_X11_word  M ∧ u = M) (xPost g L) (xA g L s.heap.size)) args s 0 0 (xA g L s.heap.size)) (F0 m 56 ls [])) → W p l e (xr 0) s m args below meth c H locs 0 0 (MQ below (va_Ql (fun r u => r = f_X11_word  M ∧ u = M) (xPost g L) (xA g L s.heap.size)) args s 0 0 (xA g L s.heap.size)) (F0 m 7 ls []) := by
    intro n
    induction n with
    | zero => intro v k H locs ls kx hmu; exact absurd hmu (Nat.not_lt_zero _)
    | succ n ih =>
      intro v k H locs ls kx hmu hinv hres hP hS hl hex
      replace hres : F = _ := hres.trans (by rw [f_X11_word_L7])
      refine lv_iload_n hx hb dX11_word_7 rfl (lv_at hl 2 rfl) ?_
      refine lv_aload_n hx hb dX11_word_8 rfl (lv_at hl 0 rfl) ?_
      refine gf_RX11_196 hx hb hts hown hK hP (hL 40 0 (xe_40 nb nn)) dX11_word_9 ?_
      refine lv_icmp_ge (tgt := 56) hx hb dX11_word_12 (by decide) (fun c_1 => ?_) (fun c_1 => ?_)
      · replace hres := hres.trans (if_pos c_1)
        exact hex v k _ _ _ (ob_X11_word_56_x7 nb nn M hp0 n v k hmu hinv c_1) hres hP hS (lv_sub hl [0, 1, 2] rfl)
      · replace hres := hres.trans (if_neg c_1)
        refine lv_aload_n hx hb dX11_word_15 rfl (lv_at hl 0 rfl) ?_
        refine gf_RX11_187 hx hb hts hown hK hP (hL 40 0 (xe_40 nb nn)) dX11_word_16 ?_
        refine lv_iconst (v := 2) hx hb dX11_word_19 (by decide) ?_
        refine lv_icmp_ne (tgt := 56) hx hb dX11_word_20 (by decide) (fun c_2 => ?_) (fun c_2 => ?_)
        · replace hres := hres.trans (if_neg c_2)
          exact hex v k _ _ _ (ob_X11_word_56_x7_2 nb nn M hp0 n v k hmu hinv c_1 c_2) hres hP hS (lv_sub hl [0, 1, 2] rfl)
        · replace hres := hres.trans (if_pos c_2)
          refine lv_aload_n hx hb dX11_word_23 rfl (lv_at hl 0 rfl) ?_
          refine gf_RX11_196 hx hb hts hown hK hP (hL 40 0 (xe_40 nb nn)) dX11_word_24 ?_
          refine lv_aload_n hx hb dX11_word_27 rfl (lv_at hl 0 rfl) ?_
          refine gf_RX11_184 hx hb hts hown hK hP (hL 40 0 (xe_40 nb nn)) dX11_word_28 ?_
          refine lv_isub hx hb dX11_word_31 ?_
          refine lv_bipush (v := 8) hx hb dX11_word_32 (by decide) ?_
          refine lv_icmp_ge (tgt := 56) hx hb dX11_word_34 (by decide) (fun c_3 => ?_) (fun c_3 => ?_)
          · replace hres := hres.trans (if_pos c_3)
            exact hex v k _ _ _ (ob_X11_word_56_x7_3 nb nn M hp0 n v k hmu hinv c_1 c_2 c_3) hres hP hS (lv_sub hl [0, 1, 2] rfl)
          · replace hres := hres.trans (if_neg c_3)
            refine lv_lload_n hx hb dX11_word_37 rfl (lv_at hl 1 rfl) ?_
            refine lv_bipush (v := 8) hx hb dX11_word_38 (by decide) ?_
            refine lv_lshl (v := (v <<< ((8 : Int32).toInt64 &&& 63))) hx hb dX11_word_40 rfl ?_
            refine lv_aload_n hx hb dX11_word_41 rfl (lv_at hl 0 rfl) ?_
            refine gf_RX11_53 hx hb hts hown hK hP (hL 40 0 (xe_40 nb nn)) dX11_word_42 ?_
            refine lv_iload_n hx hb dX11_word_45 rfl (lv_at hl 2 rfl) ?_
            refine x_iald hx hb hK hP (hL 70 0 (xe_70 nb nn)) (xc70 g 0) (ob_X11_word_46_in nb nn M hp0 n v k hmu hinv c_1 c_2 c_3) dX11_word_46 ?_
            refine lv_i2l (v := (M 70 0 k.toNatClampNeg).toInt64) hx hb dX11_word_47 rfl ?_
            refine lv_lor hx hb dX11_word_48 ?_
            refine lv_topl (fun x1_4 ex1_4 => ?_)
            replace hres := xlet_n hres ex1_4
            refine lv_lstore_n (lv' := [(1, .long x1_4), (0, .ref (xad g 40 0)), (3, .int k)]) hx hb dX11_word_49 rfl hl (by decide) rfl (fun ls hl => ?_)
            obtain ⟨x3_5, ex3_5⟩ : ∃ z_ : Int32, z_ = k + 1 := ⟨_, rfl⟩
            replace hres := xlet_n hres ex3_5
            refine lv_iinc (v := x3_5) (lv' := [(3, .int x3_5), (1, .long x1_4), (0, .ref (xad g 40 0))]) hx hb dX11_word_50 hl (k := 2) rfl (by rw [ex3_5]; rfl) (by decide) rfl (fun ls hl => ?_)
            refine lv_goto (tgt := 7) hx hb dX11_word_53 (by decide) ?_
            exact ih x1_4 x3_5 _ _ _ kx (ob_X11_word_7_mu_5 nb nn M hp0 n v k hmu hinv c_1 c_2 c_3 x1_4 ex1_4 x3_5 ex3_5) (ob_X11_word_7_inv_5 nb nn M hp0 n v k hmu hinv c_1 c_2 c_3 x1_4 ex1_4 x3_5 ex3_5) hres hP hS (lv_sub hl [2, 1, 0] rfl) hex
  have hres := hF
  rw [f_X11_word] at hres
  refine lv_lconst (v := 0) hx hb dX11_word_0 (by decide) ?_
  refine lv_lstore_n (lv' := [(1, .long 0), (0, .ref (xad g 40 0))]) hx hb dX11_word_1 rfl hl (by decide) rfl (fun ls hl => ?_)
  refine lv_aload_n hx hb dX11_word_2 rfl (lv_at hl 1 rfl) ?_
  refine gf_RX11_184 hx hb hts hown hK hP (hL 40 0 (xe_40 nb nn)) dX11_word_3 ?_
  refine lv_topi (fun x3_6 ex3_6 => ?_)
  replace hres := xlet_n hres ex3_6
  refine lv_istore_n (lv' := [(3, .int x3_6), (1, .long 0), (0, .ref (xad g 40 0))]) hx hb dX11_word_6 rfl hl (by decide) rfl (fun ls hl => ?_)
  refine k_7 (xmu x3_6 (M 40 0 27) + 1) (0 : Int64) x3_6 _ _ _ _ (Nat.lt_succ_self _) (ob_X11_word_7_ini_6 nb nn M hp0 x3_6 ex3_6) hres hP hS (lv_sub hl [2, 1, 0] rfl) ?_
  clear hres hP hS hl
  intro v_7 k_8 H locs ls hiv_8 hres hP hS hl
  refine lv_lload_n hx hb dX11_word_56 rfl (lv_at hl 1 rfl) ?_
  exact x_retl hx hb hr hlk hP hS ⟨hres.symm.trans hF, rfl⟩ dX11_word_57
set_option maxHeartbeats 4000000 in
set_option maxRecDepth 100000 in
theorem c_X11_entryOfWord (l : Launch) (nb nn : Nat) (g : xG) (L : List (Nat × Nat)) (M : xM) (hD : xD g L) (hL : xEL nb nn L)  (hp0 : pI M) : xCi l yX11_entryOfWord cX11_entryOfWord 3 (some .int) 1 g L M [.ref (xad g 40 0)] (fun r u => r = f_X11_entryOfWord  M ∧ u = M) := by
  intro sz
  refine x_beg (by decide +kernel) rfl ?_
  intro p e s m args below meth c ls hsz hB
  subst hsz
  obtain ⟨hx, hb, hml, hown, hts, hr, hlk, hK, hAm, hP, hl⟩ := hB
  have S : CallFix p m c cX11_entryOfWord 3 s args (xws yX11_entryOfWord cX11_entryOfWord 3 (some .int)) RX11 := ⟨hx, hb, hml, hown, hts⟩
  have hown : s.vm.findClass RX11 = some m.cls := hown
  have hl : lv_has ls 3 [(0, .ref (xad g 40 0))] := hl
  have hS : va_S (xA g L s.heap.size) s.heap s.heap [] := va_S.rf
  obtain ⟨F, hF⟩ : ∃ F, F = f_X11_entryOfWord  M := ⟨_, rfl⟩
  have hres := hF
  rw [f_X11_entryOfWord] at hres
  refine lv_aload_n hx hb dX11_entryOfWord_0 rfl (lv_at hl 0 rfl) ?_
  refine x_callVl (As := []) S hK hAm hD hP hS mt_X11_word wd_586 ⟨by decide, by decide⟩ (hL 40 0 (xe_40 nb nn)) (xc40 g 0) rfl (c_X11_word l nb nn g L M hD hL  (ob_X11_entryOfWord_1_p0 nb nn M hp0)) rfl hl.1 (Nat.le_of_ble_eq_true rfl) ⟨Nat.zero_le _, Nat.zero_le _⟩ dX11_entryOfWord_1 rfl (fun r_1 u H locs hp_ hP hS => ?_)
  obtain ⟨er_1, eu_⟩ := hp_
  rw [eu_] at hP
  clear eu_
  replace hres := xlet_n hres er_1
  refine lv_lstore_n (lv' := [(1, .long r_1), (0, .ref (xad g 40 0))]) hx hb dX11_entryOfWord_4 rfl hl (by decide) rfl (fun ls hl => ?_)
  refine lv_lload_n hx hb dX11_entryOfWord_5 rfl (lv_at hl 0 rfl) ?_
  refine lv_ldc2 (own := RX11) (v := 7300710) hx hb hown (hts _ (List.mem_cons_of_mem _ wd_610)) dX11_entryOfWord_6 ?_
  refine W.lcmp hx hb dX11_entryOfWord_9 ?_
  refine lv_if_ne (tgt := 17) hx hb dX11_entryOfWord_10 (by decide) (fun c_2 => ?_) (fun c_2 => ?_)
  · replace hres := hres.trans (if_neg c_2)
    refine lv_lload_n hx hb dX11_entryOfWord_17 rfl (lv_at hl 0 rfl) ?_
    refine lv_ldc2 (own := RX11) (v := 439721161573) hx hb hown (hts _ (List.mem_cons_of_mem _ wd_611)) dX11_entryOfWord_18 ?_
    refine W.lcmp hx hb dX11_entryOfWord_21 ?_
    refine lv_if_ne (tgt := 29) hx hb dX11_entryOfWord_22 (by decide) (fun c_3 => ?_) (fun c_3 => ?_)
    · replace hres := hres.trans (if_neg c_3)
      refine lv_lload_n hx hb dX11_entryOfWord_29 rfl (lv_at hl 0 rfl) ?_
      refine lv_ldc2 (own := RX11) (v := 32497644298331492) hx hb hown (hts _ (List.mem_cons_of_mem _ wd_612)) dX11_entryOfWord_30 ?_
      refine W.lcmp hx hb dX11_entryOfWord_33 ?_
      refine lv_if_ne (tgt := 41) hx hb dX11_entryOfWord_34 (by decide) (fun c_4 => ?_) (fun c_4 => ?_)
      · replace hres := hres.trans (if_neg c_4)
        refine lv_ldc (own := RX11) (v := (-1000000)) hx hb hown (hts _ (List.mem_cons_of_mem _ wd_302)) dX11_entryOfWord_41 ?_
        exact x_reti hx hb hr hlk hP hS ⟨hres.symm.trans hF, rfl⟩ dX11_entryOfWord_43
      · replace hres := hres.trans (if_pos c_4)
        refine lv_iconst (v := 2) hx hb dX11_entryOfWord_37 (by decide) ?_
        refine lv_goto (tgt := 43) hx hb dX11_entryOfWord_38 (by decide) ?_
        exact x_reti hx hb hr hlk hP hS ⟨hres.symm.trans hF, rfl⟩ dX11_entryOfWord_43
    · replace hres := hres.trans (if_pos c_3)
      refine lv_iconst (v := 1) hx hb dX11_entryOfWord_25 (by decide) ?_
      refine lv_goto (tgt := 43) hx hb dX11_entryOfWord_26 (by decide) ?_
      exact x_reti hx hb hr hlk hP hS ⟨hres.symm.trans hF, rfl⟩ dX11_entryOfWord_43
  · replace hres := hres.trans (if_pos c_2)
    refine lv_iconst (v := 0) hx hb dX11_entryOfWord_13 (by decide) ?_
    refine lv_goto (tgt := 43) hx hb dX11_entryOfWord_14 (by decide) ?_
    exact x_reti hx hb hr hlk hP hS ⟨hres.symm.trans hF, rfl⟩ dX11_entryOfWord_43
set_option maxHeartbeats 4000000 in
set_option maxRecDepth 100000 in
theorem c_X11_numberTo (l : Launch) (nb nn : Nat) (g : xG) (L : List (Nat × Nat)) (M : xM) (hD : xD g L) (hL : xEL nb nn L) (most : Int32) (hp0 : pI M) : xCi l yX11_numberTo cX11_numberTo 4 (some .int) 3 g L M [.ref (xad g 40 0), .int most] (fun r u => (r, u) = f_X11_numberTo most M) := by
  intro sz
  refine x_beg (by decide +kernel) rfl ?_
  intro p e s m args below meth c ls hsz hB
  subst hsz
  obtain ⟨hx, hb, hml, hown, hts, hr, hlk, hK, hAm, hP, hl⟩ := hB
  have S : CallFix p m c cX11_numberTo 4 s args (xws yX11_numberTo cX11_numberTo 4 (some .int)) RX11 := ⟨hx, hb, hml, hown, hts⟩
  have hown : s.vm.findClass RX11 = some m.cls := hown
  have hl : lv_has ls 4 [(0, .ref (xad g 40 0)), (1, .int most)] := hl
  have hS : va_S (xA g L s.heap.size) s.heap s.heap [] := va_S.rf
  obtain ⟨F, hF⟩ : ∃ F, F = f_X11_numberTo most M := ⟨_, rfl⟩
  have k_16 : ∀ (N_ : xM) (n : Nat) (v : Int32) (k : Int32) (H : Heap) (locs : List Loc) (ls : Array Slot) (kx : (Int32 → Int32 → Int32 × xM)), xmu k (N_ 40 0 27) < n → 0 ≤ k ∧ pI N_ → F = f_X11_numberTo_L16 most N_ n v k kx → xP g L N_ H → va_S (xA g L s.heap.size) s.heap H locs → lv_has ls 4 [(0, .ref (xad g 40 0)), (1, .int most), (2, .int v), (3, .int k)] → (∀ (v : Int32) (k : Int32) (H : Heap) (locs : List Loc) (ls : Array Slot), 0 ≤ k ∧ pI N_ → F = kx v k → xP g L N_ H → va_S (xA g L s.heap.size) s.heap H locs → lv_has ls 4 [(0, .ref (xad g 40 0)), (1, .int most), (2, .int v), (3, .int k)] → W p l e (xr 3) s m args below meth c H locs 0 0 (MQ below (va_Qi (fun r u => (r, u) = f_X11_numberTo most M) (xPost g L) (xA g L s.heap.size)) args s 0 0 (xA g L s.heap.size)) (F0 m 53 ls [])) → W p l e (xr 3) s m args below meth c H locs 0 0 (MQ below (va_Qi (fun r u => (r, u) = f_X11_numberTo most M) (xPost g L) (xA g L s.heap.size)) args s 0 0 (xA g L s.heap.size)) (F0 m 16 ls []) := by
    intro N_ n
    induction n with
    | zero => intro v k H locs ls kx hmu; exact absurd hmu (Nat.not_lt_zero _)
    | succ n ih =>
      intro v k H locs ls kx hmu hinv hres hP hS hl hex
      replace hres : F = _ := hres.trans (by rw [f_X11_numberTo_L16])
      refine lv_iload_n hx hb dX11_numberTo_16 rfl (lv_at hl 3 rfl) ?_
      refine lv_aload_n hx hb dX11_numberTo_17 rfl (lv_at hl 0 rfl) ?_
      refine gf_RX11_196 hx hb hts hown hK hP (hL 40 0 (xe_40 nb nn)) dX11_numberTo_18 ?_
      refine lv_icmp_ge (tgt := 53) hx hb dX11_numberTo_21 (by decide) (fun c_1 => ?_) (fun c_1 => ?_)
      · replace hres := hres.trans (if_pos c_1)
        exact hex v k _ _ _ (ob_X11_numberTo_53_x16 nb nn most M hp0 n v k N_ hmu hinv c_1) hres hP hS (lv_sub hl [0, 1, 2, 3] rfl)
      · replace hres := hres.trans (if_neg c_1)
        refine lv_aload_n hx hb dX11_numberTo_24 rfl (lv_at hl 0 rfl) ?_
        refine gf_RX11_187 hx hb hts hown hK hP (hL 40 0 (xe_40 nb nn)) dX11_numberTo_25 ?_
        refine lv_iconst (v := 3) hx hb dX11_numberTo_28 (by decide) ?_
        refine lv_icmp_ne (tgt := 53) hx hb dX11_numberTo_29 (by decide) (fun c_2 => ?_) (fun c_2 => ?_)
        · replace hres := hres.trans (if_neg c_2)
          exact hex v k _ _ _ (ob_X11_numberTo_53_x16_2 nb nn most M hp0 n v k N_ hmu hinv c_1 c_2) hres hP hS (lv_sub hl [0, 1, 2, 3] rfl)
        · replace hres := hres.trans (if_pos c_2)
          refine lv_bipush (v := 10) hx hb dX11_numberTo_32 (by decide) ?_
          refine lv_iload_n hx hb dX11_numberTo_34 rfl (lv_at hl 2 rfl) ?_
          refine lv_imul hx hb dX11_numberTo_35 ?_
          refine lv_aload_n hx hb dX11_numberTo_36 rfl (lv_at hl 0 rfl) ?_
          refine gf_RX11_53 hx hb hts hown hK hP (hL 40 0 (xe_40 nb nn)) dX11_numberTo_37 ?_
          refine lv_iload_n hx hb dX11_numberTo_40 rfl (lv_at hl 3 rfl) ?_
          refine x_iald hx hb hK hP (hL 70 0 (xe_70 nb nn)) (xc70 g 0) (ob_X11_numberTo_41_in nb nn most M hp0 n v k N_ hmu hinv c_1 c_2) dX11_numberTo_41 ?_
          refine lv_iadd hx hb dX11_numberTo_42 ?_
          refine lv_bipush (v := 48) hx hb dX11_numberTo_43 (by decide) ?_
          refine lv_isub hx hb dX11_numberTo_45 ?_
          refine lv_topi (fun x2_3 ex2_3 => ?_)
          replace hres := xlet_n hres ex2_3
          refine lv_istore_n (lv' := [(2, .int x2_3), (0, .ref (xad g 40 0)), (1, .int most), (3, .int k)]) hx hb dX11_numberTo_46 rfl hl (by decide) rfl (fun ls hl => ?_)
          obtain ⟨x3_4, ex3_4⟩ : ∃ z_ : Int32, z_ = k + 1 := ⟨_, rfl⟩
          replace hres := xlet_n hres ex3_4
          refine lv_iinc (v := x3_4) (lv' := [(3, .int x3_4), (2, .int x2_3), (0, .ref (xad g 40 0)), (1, .int most)]) hx hb dX11_numberTo_47 hl (k := 3) rfl (by rw [ex3_4]; rfl) (by decide) rfl (fun ls hl => ?_)
          refine lv_goto (tgt := 16) hx hb dX11_numberTo_50 (by decide) ?_
          exact ih x2_3 x3_4 _ _ _ kx (ob_X11_numberTo_16_mu_4 nb nn most M hp0 n v k N_ hmu hinv c_1 c_2 x2_3 ex2_3 x3_4 ex3_4) (ob_X11_numberTo_16_inv_4 nb nn most M hp0 n v k N_ hmu hinv c_1 c_2 x2_3 ex2_3 x3_4 ex3_4) hres hP hS (lv_sub hl [2, 3, 1, 0] rfl) hex
  have hres := hF
  rw [f_X11_numberTo] at hres
  refine lv_aload_n hx hb dX11_numberTo_0 rfl (lv_at hl 0 rfl) ?_
  refine gf_RX11_199 hx hb hts hown hK hP (hL 40 0 (xe_40 nb nn)) dX11_numberTo_1 ?_
  refine lv_if_le (tgt := 9) hx hb dX11_numberTo_4 (by decide) (fun c_5 => ?_) (fun c_5 => ?_)
  · replace hres := hres.trans (if_pos c_5)
    refine lv_iconst (v := 0) hx hb dX11_numberTo_9 (by decide) ?_
    refine lv_istore_n (lv' := [(2, .int 0), (0, .ref (xad g 40 0)), (1, .int most)]) hx hb dX11_numberTo_10 rfl hl (by decide) rfl (fun ls hl => ?_)
    refine lv_aload_n hx hb dX11_numberTo_11 rfl (lv_at hl 1 rfl) ?_
    refine gf_RX11_184 hx hb hts hown hK hP (hL 40 0 (xe_40 nb nn)) dX11_numberTo_12 ?_
    refine lv_topi (fun x3_6 ex3_6 => ?_)
    replace hres := xlet_n hres ex3_6
    refine lv_istore_n (lv' := [(3, .int x3_6), (2, .int 0), (0, .ref (xad g 40 0)), (1, .int most)]) hx hb dX11_numberTo_15 rfl hl (by decide) rfl (fun ls hl => ?_)
    refine k_16 M (xmu x3_6 (M 40 0 27) + 1) (0 : Int32) x3_6 _ _ _ _ (Nat.lt_succ_self _) (ob_X11_numberTo_16_ini_6 nb nn most M hp0 c_5 x3_6 ex3_6) hres hP hS (lv_sub hl [2, 3, 1, 0] rfl) ?_
    clear hres hP hS hl
    intro v_7 k_8 H locs ls hiv_8 hres hP hS hl
    refine lv_aload_n hx hb dX11_numberTo_53 rfl (lv_at hl 0 rfl) ?_
    refine gf_RX11_187 hx hb hts hown hK hP (hL 40 0 (xe_40 nb nn)) dX11_numberTo_54 ?_
    refine lv_iconst (v := 3) hx hb dX11_numberTo_57 (by decide) ?_
    refine lv_icmp_ne (tgt := 71) hx hb dX11_numberTo_58 (by decide) (fun c_9 => ?_) (fun c_9 => ?_)
    · replace hres := hres.trans (if_neg c_9)
      refine lv_aload_n hx hb dX11_numberTo_71 rfl (lv_at hl 0 rfl) ?_
      refine lv_aload_n hx hb dX11_numberTo_72 rfl (lv_at hl 0 rfl) ?_
      refine gf_RX11_187 hx hb hts hown hK hP (hL 40 0 (xe_40 nb nn)) dX11_numberTo_73 ?_
      refine lv_iconst (v := 3) hx hb dX11_numberTo_76 (by decide) ?_
      refine lv_icmp_ne (tgt := 84) hx hb dX11_numberTo_77 (by decide) (fun c_10 => ?_) (fun c_10 => ?_)
      · clear c_10
        refine lv_iconst (v := 0) hx hb dX11_numberTo_84 (by decide) ?_
        refine x_callVv (As := [.int 0]) S hK hAm hD hP hS mt_X11_must wd_590 ⟨by decide, by decide⟩ (hL 40 0 (xe_40 nb nn)) (xc40 g 0) rfl (c_X11_must l nb nn g L M hD hL 0 (ob_X11_numberTo_85_p0 nb nn most M hp0 c_5 x3_6 ex3_6 v_7 k_8 hiv_8 c_9)) rfl hl.1 (Nat.le_of_ble_eq_true rfl) ⟨Nat.zero_le _, Nat.zero_le _⟩ dX11_numberTo_85 rfl (fun M_12 H locs eM_12 hP hS => ?_)
        replace hres := xlet_n hres eM_12
        refine lv_iload_n hx hb dX11_numberTo_88 rfl (lv_at hl 2 rfl) ?_
        exact x_reti hx hb hr hlk hP hS (hres.symm.trans hF) dX11_numberTo_89
      · exact absurd c_10 c_9
    · replace hres := hres.trans (if_pos c_9)
      refine lv_iload_n hx hb dX11_numberTo_61 rfl (lv_at hl 2 rfl) ?_
      refine lv_iload_n hx hb dX11_numberTo_62 rfl (lv_at hl 1 rfl) ?_
      refine lv_icmp_le (tgt := 71) hx hb dX11_numberTo_63 (by decide) (fun c_13 => ?_) (fun c_13 => ?_)
      · replace hres := hres.trans (if_pos c_13)
        refine lv_aload_n hx hb dX11_numberTo_71 rfl (lv_at hl 0 rfl) ?_
        refine lv_aload_n hx hb dX11_numberTo_72 rfl (lv_at hl 0 rfl) ?_
        refine gf_RX11_187 hx hb hts hown hK hP (hL 40 0 (xe_40 nb nn)) dX11_numberTo_73 ?_
        refine lv_iconst (v := 3) hx hb dX11_numberTo_76 (by decide) ?_
        refine lv_icmp_ne (tgt := 84) hx hb dX11_numberTo_77 (by decide) (fun c_14 => ?_) (fun c_14 => ?_)
        · exact absurd c_9 c_14
        · clear c_14
          refine lv_iconst (v := 1) hx hb dX11_numberTo_80 (by decide) ?_
          refine lv_goto (tgt := 85) hx hb dX11_numberTo_81 (by decide) ?_
          refine x_callVv (As := [.int 1]) S hK hAm hD hP hS mt_X11_must wd_590 ⟨by decide, by decide⟩ (hL 40 0 (xe_40 nb nn)) (xc40 g 0) rfl (c_X11_must l nb nn g L M hD hL 1 (ob_X11_numberTo_85_p0_2 nb nn most M hp0 c_5 x3_6 ex3_6 v_7 k_8 hiv_8 c_9 c_13)) rfl hl.1 (Nat.le_of_ble_eq_true rfl) ⟨Nat.zero_le _, Nat.zero_le _⟩ dX11_numberTo_85 rfl (fun M_16 H locs eM_16 hP hS => ?_)
          replace hres := xlet_n hres eM_16
          refine lv_iload_n hx hb dX11_numberTo_88 rfl (lv_at hl 2 rfl) ?_
          exact x_reti hx hb hr hlk hP hS (hres.symm.trans hF) dX11_numberTo_89
      · replace hres := hres.trans (if_neg c_13)
        refine lv_aload_n hx hb dX11_numberTo_66 rfl (lv_at hl 0 rfl) ?_
        refine lv_iconst (v := 2) hx hb dX11_numberTo_67 (by decide) ?_
        refine x_callVv (As := [.int 2]) S hK hAm hD hP hS mt_X11_bad wd_594 ⟨by decide, by decide⟩ (hL 40 0 (xe_40 nb nn)) (xc40 g 0) rfl (c_X11_bad l nb nn g L M hD hL 2) rfl hl.1 (Nat.le_of_ble_eq_true rfl) ⟨Nat.zero_le _, Nat.zero_le _⟩ dX11_numberTo_68 rfl (fun M_18 H locs eM_18 hP hS => ?_)
        replace hres := xlet_n hres eM_18
        refine lv_aload_n hx hb dX11_numberTo_71 rfl (lv_at hl 0 rfl) ?_
        refine lv_aload_n hx hb dX11_numberTo_72 rfl (lv_at hl 0 rfl) ?_
        refine gf_RX11_187 hx hb hts hown hK hP (hL 40 0 (xe_40 nb nn)) dX11_numberTo_73 ?_
        refine lv_iconst (v := 3) hx hb dX11_numberTo_76 (by decide) ?_
        refine lv_icmp_ne (tgt := 84) hx hb dX11_numberTo_77 (by decide) (fun c_19 => ?_) (fun c_19 => ?_)
        · replace hres := hres.trans (if_neg c_19)
          refine lv_iconst (v := 0) hx hb dX11_numberTo_84 (by decide) ?_
          refine x_callVv (As := [.int 0]) S hK hAm hD hP hS mt_X11_must wd_590 ⟨by decide, by decide⟩ (hL 40 0 (xe_40 nb nn)) (xc40 g 0) rfl (c_X11_must l nb nn g L M_18 hD hL 0 (ob_X11_numberTo_85_p0_3 nb nn most M hp0 c_5 x3_6 ex3_6 v_7 k_8 hiv_8 c_9 c_13 M_18 eM_18 c_19)) rfl hl.1 (Nat.le_of_ble_eq_true rfl) ⟨Nat.zero_le _, Nat.zero_le _⟩ dX11_numberTo_85 rfl (fun M_21 H locs eM_21 hP hS => ?_)
          replace hres := xlet_n hres eM_21
          refine lv_iload_n hx hb dX11_numberTo_88 rfl (lv_at hl 2 rfl) ?_
          exact x_reti hx hb hr hlk hP hS (hres.symm.trans hF) dX11_numberTo_89
        · replace hres := hres.trans (if_pos c_19)
          refine lv_iconst (v := 1) hx hb dX11_numberTo_80 (by decide) ?_
          refine lv_goto (tgt := 85) hx hb dX11_numberTo_81 (by decide) ?_
          refine x_callVv (As := [.int 1]) S hK hAm hD hP hS mt_X11_must wd_590 ⟨by decide, by decide⟩ (hL 40 0 (xe_40 nb nn)) (xc40 g 0) rfl (c_X11_must l nb nn g L M_18 hD hL 1 (ob_X11_numberTo_85_p0_4 nb nn most M hp0 c_5 x3_6 ex3_6 v_7 k_8 hiv_8 c_9 c_13 M_18 eM_18 c_19)) rfl hl.1 (Nat.le_of_ble_eq_true rfl) ⟨Nat.zero_le _, Nat.zero_le _⟩ dX11_numberTo_85 rfl (fun M_23 H locs eM_23 hP hS => ?_)
          replace hres := xlet_n hres eM_23
          refine lv_iload_n hx hb dX11_numberTo_88 rfl (lv_at hl 2 rfl) ?_
          exact x_reti hx hb hr hlk hP hS (hres.symm.trans hF) dX11_numberTo_89
  · replace hres := hres.trans (if_neg c_5)
    refine lv_iconst (v := 0) hx hb dX11_numberTo_7 (by decide) ?_
    exact x_reti hx hb hr hlk hP hS (hres.symm.trans hF) dX11_numberTo_8
set_option maxHeartbeats 4000000 in
set_option maxRecDepth 100000 in
theorem c_X11_bookWeek (l : Launch) (nb nn : Nat) (g : xG) (L : List (Nat × Nat)) (M : xM) (hD : xD g L) (hL : xEL nb nn L) (town : Int32) (w : Int32) (hp0 : 0 ≤ town) (hp1 : town ≤ 5) : xCi l yX11_bookWeek cX11_bookWeek 4 (some .int) 1 g L M [.ref (xad g 40 0), .int town, .int w] (fun r u => (r, u) = f_X11_bookWeek town w M) := by
  intro sz
  refine x_beg (by decide +kernel) rfl ?_
  intro p e s m args below meth c ls hsz hB
  subst hsz
  obtain ⟨hx, hb, hml, hown, hts, hr, hlk, hK, hAm, hP, hl⟩ := hB
  have S : CallFix p m c cX11_bookWeek 4 s args (xws yX11_bookWeek cX11_bookWeek 4 (some .int)) RX11 := ⟨hx, hb, hml, hown, hts⟩
  have hown : s.vm.findClass RX11 = some m.cls := hown
  have hl : lv_has ls 4 [(0, .ref (xad g 40 0)), (1, .int town), (2, .int w)] := hl
  have hS : va_S (xA g L s.heap.size) s.heap s.heap [] := va_S.rf
  obtain ⟨F, hF⟩ : ∃ F, F = f_X11_bookWeek town w M := ⟨_, rfl⟩
  have hres := hF
  rw [f_X11_bookWeek] at hres
  refine lv_aload_n hx hb dX11_bookWeek_0 rfl (lv_at hl 0 rfl) ?_
  refine lv_iconst (v := 0) hx hb dX11_bookWeek_1 (by decide) ?_
  refine lv_iload_n hx hb dX11_bookWeek_2 rfl (lv_at hl 1 rfl) ?_
  refine x_callVi (As := [.int 0, .int town]) S hK hAm hD hP hS mt_X11_farFrom wd_298 ⟨by decide, by decide⟩ (hL 40 0 (xe_40 nb nn)) (xc40 g 0) rfl (c_X11_farFrom l nb nn g L M hD hL 0 town (ob_X11_bookWeek_3_p0 nb nn town w M hp0 hp1) (ob_X11_bookWeek_3_p1 nb nn town w M hp0 hp1)) rfl hl.1 (Nat.le_of_ble_eq_true rfl) ⟨Nat.zero_le _, Nat.zero_le _⟩ dX11_bookWeek_3 rfl (fun r_1 M_2 H locs ep_ hP hS => ?_)
  replace hres := xlet2_n hres ep_
  have er_1 : r_1 = (f_X11_farFrom 0 town M).1 := congrArg Prod.fst ep_
  have eM_2 : M_2 = (f_X11_farFrom 0 town M).2 := congrArg Prod.snd ep_
  clear ep_
  refine lv_istore_n (lv' := [(3, .int r_1), (0, .ref (xad g 40 0)), (1, .int town), (2, .int w)]) hx hb dX11_bookWeek_6 rfl hl (by decide) rfl (fun ls hl => ?_)
  refine lv_iload_n hx hb dX11_bookWeek_7 rfl (lv_at hl 0 rfl) ?_
  refine lv_ldc (own := RX11) (v := (-1000000)) hx hb hown (hts _ (List.mem_cons_of_mem _ wd_302)) dX11_bookWeek_8 ?_
  refine lv_icmp_ne (tgt := 17) hx hb dX11_bookWeek_10 (by decide) (fun c_3 => ?_) (fun c_3 => ?_)
  · replace hres := hres.trans (if_neg c_3)
    refine lv_iload_n hx hb dX11_bookWeek_17 rfl (lv_at hl 3 rfl) ?_
    refine lv_iload_n hx hb dX11_bookWeek_18 rfl (lv_at hl 0 rfl) ?_
    refine lv_bipush (v := 100) hx hb dX11_bookWeek_19 (by decide) ?_
    refine lv_idiv hx hb dX11_bookWeek_21 (by decide) ?_
    refine lv_isub hx hb dX11_bookWeek_22 ?_
    exact x_reti hx hb hr hlk hP hS (hres.symm.trans hF) dX11_bookWeek_23
  · replace hres := hres.trans (if_pos c_3)
    refine lv_iconst (v := (-1)) hx hb dX11_bookWeek_13 (by decide) ?_
    refine lv_goto (tgt := 23) hx hb dX11_bookWeek_14 (by decide) ?_
    exact x_reti hx hb hr hlk hP hS (hres.symm.trans hF) dX11_bookWeek_23
