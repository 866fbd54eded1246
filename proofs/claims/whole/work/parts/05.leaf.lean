def f_X10_isUpTo (v : Int32) (most : Int32) (M : xM) : Bool :=
  if v < 0 then false else if most < v then false else true
def f_X10_isTown (town : Int32) (M : xM) : Bool :=
  xlet (xb (f_X10_isUpTo town 5 M)) fun r_1 => (f_X10_isUpTo town 5 M)
def f_X10_isOfKind (told : Int32) (kind : Int32) (M : xM) : Bool :=
  if kind = 0 then true else if kind = told then true else if kind = 2 then if told = 3 then true else false else false
def f_X0_changeNeed (i0 : Nat) (v : Int32) (M : xM) : Int32 × xM :=
  xlet (M 27 i0 3) fun x2_1 => xlet (xup M 27 i0 3 v) fun M_2 => (x2_1, M_2)
def f_X0_changeHeld (i0 : Nat) (other : Int32) (v : Int32) (M : xM) : Int32 × xM :=
  xlet (M 28 i0 other.toNatClampNeg) fun x3_1 => xlet (xup M 28 i0 other.toNatClampNeg v) fun M_2 => (x3_1, M_2)
def f_X0_payOut (i0 : Nat) (sum : Int32) (M : xM) : Int32 × xM :=
  if (M 27 i0 4) = 0 then if sum ≤ (M 27 i0 2) then xlet ((M 27 i0 2) - sum) fun v_3 => xlet (xup M 27 i0 2 v_3) fun M_4 => (sum, M_4) else xlet (xup M 27 i0 4 1) fun M_5 => (0, M_5) else (0, M)
def f_X0_isInNeed_L7 (i0 : Nat) (fallen : Int32) (M : xM) : Nat → Int32 → Int32 → (Int32 → Int32 → Bool) → Bool
  | 0, _, _, _ => false
  | n + 1, has, o, kx => if 8 ≤ o then kx has o else if ((fallen >>> (o &&& 31)) &&& 1) = 0 then xlet (has + (M 28 i0 o.toNatClampNeg)) fun x2_4 => xlet (o + 1) fun x3_5 => f_X0_isInNeed_L7 i0 fallen M n x2_4 x3_5 kx else xlet (o + 1) fun x3_3 => f_X0_isInNeed_L7 i0 fallen M n has x3_3 kx
def f_X0_isInNeed (i0 : Nat) (fallen : Int32) (M : xM) : Bool :=
  xlet (M 27 i0 2) fun x2_6 => f_X0_isInNeed_L7 i0 fallen M (xmu (0 : Int32) 8 + 1) x2_6 (0 : Int32) (fun has_7 o_8 => if (M 27 i0 3) ≤ has_7 then false else true)
def f_X6_isMissing (i0 : Nat) (M : xM) : Bool :=
  if (M 24 i0 1) = (-1) then true else false
def f_X6_discard (i0 : Nat) (M : xM) : xM :=
  xlet (xup M 24 i0 1 (-1)) fun M_1 => xlet (xup M_1 24 i0 2 0) fun M_2 => M_2
def f_X6_hasPlaces (i0 : Nat) (i : Int32) (z : Int32) (M : xM) : Bool :=
  if i < 0 then false else if z < 0 then false else if ((M 24 i0 2) - i) < z then false else true
def f_X8_empty  (M : xM) : xM :=
  xlet (xup M 12 0 1 0) fun M_1 => M_1
def f_X8_leave (body : Int32) (M : xM) : xM :=
  xlet (M 12 0 1) fun x2_1 => if x2_1 < 0 then M else if 16 ≤ x2_1 then M else xlet (xup M 23 0 x2_1.toNatClampNeg body) fun M_4 => xlet (x2_1 + 1) fun v_5 => xlet (xup M_4 12 0 1 v_5) fun M_6 => M_6
def f_X8_number (i : Int32) (M : xM) : Int32 :=
  if i < 0 then (-1000000) else if (M 12 0 1) ≤ i then (-1000000) else (M 23 0 i.toNatClampNeg)
def f_X4_isUnlike (i0 : Nat) (p0 : Int32) (M : xM) : Bool :=
  if (((M 29 i0 3) ^^^ p0) &&& ((M 29 i0 4) ^^^ (-1))) = 0 then false else true
def f_X4_holder (i0 : Nat) (M : xM) : Int32 :=
  if (M 29 i0 5) = 0 then (M 29 i0 8) else (-1000000)
def f_X4_isFullOfHands (i0 : Nat) (M : xM) : Bool :=
  if (M 29 i0 6) < 12 then false else true
def f_X4_halfHolder (i0 : Nat) (p0 : Int32) (M : xM) : Int32 :=
  if p0 = 0 then (M 29 i0 9) else (M 29 i0 10)
def f_X4_wouldBePaid (i0 : Nat) (M : xM) : Int32 :=
  if (M 29 i0 5) = 2 then 0 else if (M 29 i0 5) = 3 then if (M 29 i0 9) = (-1000000) then ((M 29 i0 2) / 2) else if (M 29 i0 10) = (-1000000) then ((M 29 i0 2) / 2) else 0 else (M 29 i0 2)
def f_X4_halve (i0 : Nat) (p0 : Int32) (M : xM) : xM :=
  xlet (M 29 i0 8) fun v_1 => xlet (xup M 29 i0 9 v_1) fun M_2 => xlet (xup M_2 29 i0 10 p0) fun M_3 => xlet (xup M_3 29 i0 7 1) fun M_4 => xlet (xup M_4 29 i0 5 3) fun M_5 => M_5
def f_X4_handOn (i0 : Nat) (to : Int32) (week : Int32) (M : xM) : xM :=
  xlet (xup M 29 i0 5 0) fun M_1 => xlet (xup M_1 29 i0 8 to) fun M_2 => xlet (M_2 29 i0 6) fun x3_3 => if x3_3 < 0 then M_2 else if 12 ≤ x3_3 then M_2 else xlet (xup M_2 30 i0 x3_3.toNatClampNeg to) fun M_6 => xlet (xup M_6 31 i0 x3_3.toNatClampNeg week) fun M_7 => xlet (x3_3 + 1) fun v_8 => xlet (xup M_7 29 i0 6 v_8) fun M_9 => M_9
def f_X4_handTrader (i0 : Nat) (i : Int32) (M : xM) : Int32 :=
  if i < 0 then (-1000000) else if (M 29 i0 6) ≤ i then (-1000000) else (M 30 i0 i.toNatClampNeg)
def f_X4_handWeek (i0 : Nat) (i : Int32) (M : xM) : Int32 :=
  if i < 0 then (-1000000) else if (M 29 i0 6) ≤ i then (-1000000) else (M 31 i0 i.toNatClampNeg)
theorem ob_X0_changeHeld_5_in (nb nn : Nat) (i0 : Nat) (other : Int32) (v : Int32) (M : xM) (hi0 : i0 < nb) (hp0 : 0 ≤ other) (hp1 : other < 8) : vp_in other 8 := by
  exact xin (N := 8) (by grind) (by grind) (by decide)
theorem ob_X0_changeHeld_13_in (nb nn : Nat) (i0 : Nat) (other : Int32) (v : Int32) (M : xM) (hi0 : i0 < nb) (hp0 : 0 ≤ other) (hp1 : other < 8) (x3_1 : Int32) (ex3_1 : x3_1 = (M 28 i0 other.toNatClampNeg)) : vp_in other 8 := by
  exact xin (N := 8) (by grind) (by grind) (by decide)
theorem ob_X0_isInNeed_36_x7 (nb nn : Nat) (i0 : Nat) (fallen : Int32) (M : xM) (hi0 : i0 < nb) (n : Nat) (has : Int32) (o : Int32) (hmu : xmu o 8 < n + 1) (hinv : 0 ≤ o) (c_1 : 8 ≤ o) : 0 ≤ o := by
  first | grind | (subst_vars; simp [xup_at] at *; done) | (subst_vars; simp [xup_at] at *; grind)
theorem ob_X0_isInNeed_7_mu_3 (nb nn : Nat) (i0 : Nat) (fallen : Int32) (M : xM) (hi0 : i0 < nb) (n : Nat) (has : Int32) (o : Int32) (hmu : xmu o 8 < n + 1) (hinv : 0 ≤ o) (c_1 : ¬ 8 ≤ o) (c_2 : ¬ ((fallen >>> (o &&& 31)) &&& 1) = 0) (x3_3 : Int32) (ex3_3 : x3_3 = o + 1) : xmu x3_3 8 < n := by
  subst_vars
  have h9 := xmu_up (a := o) (b := 8) (by grind)
  (try simp [xup_at])
  omega
theorem ob_X0_isInNeed_7_inv_3 (nb nn : Nat) (i0 : Nat) (fallen : Int32) (M : xM) (hi0 : i0 < nb) (n : Nat) (has : Int32) (o : Int32) (hmu : xmu o 8 < n + 1) (hinv : 0 ≤ o) (c_1 : ¬ 8 ≤ o) (c_2 : ¬ ((fallen >>> (o &&& 31)) &&& 1) = 0) (x3_3 : Int32) (ex3_3 : x3_3 = o + 1) : 0 ≤ x3_3 := by
  first | grind | (subst_vars; simp [xup_at] at *; done) | (subst_vars; simp [xup_at] at *; grind)
theorem ob_X0_isInNeed_27_in (nb nn : Nat) (i0 : Nat) (fallen : Int32) (M : xM) (hi0 : i0 < nb) (n : Nat) (has : Int32) (o : Int32) (hmu : xmu o 8 < n + 1) (hinv : 0 ≤ o) (c_1 : ¬ 8 ≤ o) (c_2 : ((fallen >>> (o &&& 31)) &&& 1) = 0) : vp_in o 8 := by
  exact xin (N := 8) (by grind) (by grind) (by decide)
theorem ob_X0_isInNeed_7_mu_5 (nb nn : Nat) (i0 : Nat) (fallen : Int32) (M : xM) (hi0 : i0 < nb) (n : Nat) (has : Int32) (o : Int32) (hmu : xmu o 8 < n + 1) (hinv : 0 ≤ o) (c_1 : ¬ 8 ≤ o) (c_2 : ((fallen >>> (o &&& 31)) &&& 1) = 0) (x2_4 : Int32) (ex2_4 : x2_4 = (has + (M 28 i0 o.toNatClampNeg))) (x3_5 : Int32) (ex3_5 : x3_5 = o + 1) : xmu x3_5 8 < n := by
  subst_vars
  have h9 := xmu_up (a := o) (b := 8) (by grind)
  (try simp [xup_at])
  omega
theorem ob_X0_isInNeed_7_inv_5 (nb nn : Nat) (i0 : Nat) (fallen : Int32) (M : xM) (hi0 : i0 < nb) (n : Nat) (has : Int32) (o : Int32) (hmu : xmu o 8 < n + 1) (hinv : 0 ≤ o) (c_1 : ¬ 8 ≤ o) (c_2 : ((fallen >>> (o &&& 31)) &&& 1) = 0) (x2_4 : Int32) (ex2_4 : x2_4 = (has + (M 28 i0 o.toNatClampNeg))) (x3_5 : Int32) (ex3_5 : x3_5 = o + 1) : 0 ≤ x3_5 := by
  first | grind | (subst_vars; simp [xup_at] at *; done) | (subst_vars; simp [xup_at] at *; grind)
theorem ob_X0_isInNeed_7_ini_6 (nb nn : Nat) (i0 : Nat) (fallen : Int32) (M : xM) (hi0 : i0 < nb) (x2_6 : Int32) (ex2_6 : x2_6 = (M 27 i0 2)) : 0 ≤ (0 : Int32) := by
  first | grind | (subst_vars; simp [xup_at] at *; done) | (subst_vars; simp [xup_at] at *; grind)
theorem ob_X8_leave_21_in (nb nn : Nat) (body : Int32) (M : xM) (x2_1 : Int32) (ex2_1 : x2_1 = (M 12 0 1)) (c_2 : ¬ x2_1 < 0) (c_3 : ¬ 16 ≤ x2_1) : vp_in x2_1 16 := by
  exact xin (N := 16) (by grind) (by grind) (by decide)
theorem ob_X8_number_17_in (nb nn : Nat) (i : Int32) (M : xM) (hp0 : M 12 0 1 ≤ 16) (c_1 : ¬ i < 0) (c_2 : ¬ (M 12 0 1) ≤ i) : vp_in i 16 := by
  exact xin (N := 16) (by grind) (by grind) (by decide)
theorem ob_X4_handOn_31_in (nb nn : Nat) (i0 : Nat) (to : Int32) (week : Int32) (M : xM) (hi0 : i0 < nn) (M_1 : xM) (eM_1 : M_1 = xup M 29 i0 5 0) (M_2 : xM) (eM_2 : M_2 = xup M_1 29 i0 8 to) (x3_3 : Int32) (ex3_3 : x3_3 = (M_2 29 i0 6)) (c_4 : ¬ x3_3 < 0) (c_5 : ¬ 12 ≤ x3_3) : vp_in x3_3 12 := by
  exact xin (N := 12) (by grind) (by grind) (by decide)
theorem ob_X4_handOn_38_in (nb nn : Nat) (i0 : Nat) (to : Int32) (week : Int32) (M : xM) (hi0 : i0 < nn) (M_1 : xM) (eM_1 : M_1 = xup M 29 i0 5 0) (M_2 : xM) (eM_2 : M_2 = xup M_1 29 i0 8 to) (x3_3 : Int32) (ex3_3 : x3_3 = (M_2 29 i0 6)) (c_4 : ¬ x3_3 < 0) (c_5 : ¬ 12 ≤ x3_3) (M_6 : xM) (eM_6 : M_6 = xup M_2 30 i0 x3_3.toNatClampNeg to) : vp_in x3_3 12 := by
  exact xin (N := 12) (by grind) (by grind) (by decide)
theorem ob_X4_handTrader_17_in (nb nn : Nat) (i0 : Nat) (i : Int32) (M : xM) (hi0 : i0 < nn) (hp0 : M 29 i0 6 ≤ 12) (c_1 : ¬ i < 0) (c_2 : ¬ (M 29 i0 6) ≤ i) : vp_in i 12 := by
  exact xin (N := 12) (by grind) (by grind) (by decide)
theorem ob_X4_handWeek_17_in (nb nn : Nat) (i0 : Nat) (i : Int32) (M : xM) (hi0 : i0 < nn) (hp0 : M 29 i0 6 ≤ 12) (c_1 : ¬ i < 0) (c_2 : ¬ (M 29 i0 6) ≤ i) : vp_in i 12 := by
  exact xin (N := 12) (by grind) (by grind) (by decide)
set_option maxHeartbeats 4000000 in
set_option maxRecDepth 100000 in
theorem c_X10_isUpTo (l : Launch) (nb nn : Nat) (g : xG) (L : List (Nat × Nat)) (M : xM) (hD : xD g L) (hL : xEL nb nn L) (v : Int32) (most : Int32)  : xCi l yX10_isUpTo cX10_isUpTo 2 (some .boolean) 0 g L M [.int v, .int most] (fun r u => r = xb (f_X10_isUpTo v most M) ∧ u = M) := by
  intro sz
  refine x_beg (by decide +kernel) rfl ?_
  intro p e s m args below meth c ls hsz hB
  subst hsz
  obtain ⟨hx, hb, hml, hown, hts, hr, hlk, hK, hAm, hP, hl⟩ := hB
  have S : CallFix p m c cX10_isUpTo 2 s args (xws yX10_isUpTo cX10_isUpTo 2 (some .boolean)) RX10 := ⟨hx, hb, hml, hown, hts⟩
  have hown : s.vm.findClass RX10 = some m.cls := hown
  have hl : lv_has ls 2 [(0, .int v), (1, .int most)] := hl
  have hS : va_S (xA g L s.heap.size) s.heap s.heap [] := va_S.rf
  obtain ⟨F, hF⟩ : ∃ F, F = f_X10_isUpTo v most M := ⟨_, rfl⟩
  have hres := hF
  rw [f_X10_isUpTo] at hres
  refine lv_iload_n hx hb dX10_isUpTo_0 rfl (lv_at hl 0 rfl) ?_
  refine lv_if_lt (tgt := 13) hx hb dX10_isUpTo_1 (by decide) (fun c_1 => ?_) (fun c_1 => ?_)
  · replace hres := hres.trans (if_pos c_1)
    refine lv_iconst (v := 0) hx hb dX10_isUpTo_13 (by decide) ?_
    exact x_retz hx hb hr hlk hP hS rfl ⟨(congrArg xb (hres.symm.trans hF)), rfl⟩ dX10_isUpTo_14
  · replace hres := hres.trans (if_neg c_1)
    refine lv_iload_n hx hb dX10_isUpTo_4 rfl (lv_at hl 0 rfl) ?_
    refine lv_iload_n hx hb dX10_isUpTo_5 rfl (lv_at hl 1 rfl) ?_
    refine lv_icmp_gt (tgt := 13) hx hb dX10_isUpTo_6 (by decide) (fun c_2 => ?_) (fun c_2 => ?_)
    · replace hres := hres.trans (if_pos c_2)
      refine lv_iconst (v := 0) hx hb dX10_isUpTo_13 (by decide) ?_
      exact x_retz hx hb hr hlk hP hS rfl ⟨(congrArg xb (hres.symm.trans hF)), rfl⟩ dX10_isUpTo_14
    · replace hres := hres.trans (if_neg c_2)
      refine lv_iconst (v := 1) hx hb dX10_isUpTo_9 (by decide) ?_
      refine lv_goto (tgt := 14) hx hb dX10_isUpTo_10 (by decide) ?_
      exact x_retz hx hb hr hlk hP hS rfl ⟨(congrArg xb (hres.symm.trans hF)), rfl⟩ dX10_isUpTo_14
set_option maxHeartbeats 4000000 in
set_option maxRecDepth 100000 in
theorem c_X10_isTown (l : Launch) (nb nn : Nat) (g : xG) (L : List (Nat × Nat)) (M : xM) (hD : xD g L) (hL : xEL nb nn L) (town : Int32)  : xCi l yX10_isTown cX10_isTown 1 (some .boolean) 1 g L M [.int town] (fun r u => r = xb (f_X10_isTown town M) ∧ u = M) := by
  intro sz
  refine x_beg (by decide +kernel) rfl ?_
  intro p e s m args below meth c ls hsz hB
  subst hsz
  obtain ⟨hx, hb, hml, hown, hts, hr, hlk, hK, hAm, hP, hl⟩ := hB
  have S : CallFix p m c cX10_isTown 1 s args (xws yX10_isTown cX10_isTown 1 (some .boolean)) RX10 := ⟨hx, hb, hml, hown, hts⟩
  have hown : s.vm.findClass RX10 = some m.cls := hown
  have hl : lv_has ls 1 [(0, .int town)] := hl
  have hS : va_S (xA g L s.heap.size) s.heap s.heap [] := va_S.rf
  obtain ⟨F, hF⟩ : ∃ F, F = f_X10_isTown town M := ⟨_, rfl⟩
  have hres := hF
  rw [f_X10_isTown] at hres
  refine lv_iload_n hx hb dX10_isTown_0 rfl (lv_at hl 0 rfl) ?_
  refine lv_iconst (v := 5) hx hb dX10_isTown_1 (by decide) ?_
  refine x_callSi (As := [.int town, .int 5]) S hK hAm hD hP hS mt_X10_isUpTo wd_179 ⟨by decide, by decide⟩ (c_X10_isUpTo l nb nn g L M hD hL town 5) rfl hl.1 (Nat.le_of_ble_eq_true rfl) ⟨Nat.zero_le _, Nat.zero_le _⟩ dX10_isTown_2 rfl (fun r_1 u H locs hp_ hP hS => ?_)
  obtain ⟨er_1, eu_⟩ := hp_
  rw [eu_] at hP
  clear eu_
  replace hres := xlet_n hres er_1
  exact x_retz hx hb hr hlk hP hS (by rw [er_1]; exact xb_nar _) ⟨er_1.trans (congrArg xb (hres.symm.trans hF)), rfl⟩ dX10_isTown_5
set_option maxHeartbeats 4000000 in
set_option maxRecDepth 100000 in
theorem c_X10_isOfKind (l : Launch) (nb nn : Nat) (g : xG) (L : List (Nat × Nat)) (M : xM) (hD : xD g L) (hL : xEL nb nn L) (told : Int32) (kind : Int32)  : xCi l yX10_isOfKind cX10_isOfKind 2 (some .boolean) 0 g L M [.int told, .int kind] (fun r u => r = xb (f_X10_isOfKind told kind M) ∧ u = M) := by
  intro sz
  refine x_beg (by decide +kernel) rfl ?_
  intro p e s m args below meth c ls hsz hB
  subst hsz
  obtain ⟨hx, hb, hml, hown, hts, hr, hlk, hK, hAm, hP, hl⟩ := hB
  have S : CallFix p m c cX10_isOfKind 2 s args (xws yX10_isOfKind cX10_isOfKind 2 (some .boolean)) RX10 := ⟨hx, hb, hml, hown, hts⟩
  have hown : s.vm.findClass RX10 = some m.cls := hown
  have hl : lv_has ls 2 [(0, .int told), (1, .int kind)] := hl
  have hS : va_S (xA g L s.heap.size) s.heap s.heap [] := va_S.rf
  obtain ⟨F, hF⟩ : ∃ F, F = f_X10_isOfKind told kind M := ⟨_, rfl⟩
  have hres := hF
  rw [f_X10_isOfKind] at hres
  refine lv_iload_n hx hb dX10_isOfKind_0 rfl (lv_at hl 1 rfl) ?_
  refine lv_if_eq (tgt := 19) hx hb dX10_isOfKind_1 (by decide) (fun c_1 => ?_) (fun c_1 => ?_)
  · replace hres := hres.trans (if_pos c_1)
    refine lv_iconst (v := 1) hx hb dX10_isOfKind_19 (by decide) ?_
    refine lv_goto (tgt := 24) hx hb dX10_isOfKind_20 (by decide) ?_
    exact x_retz hx hb hr hlk hP hS rfl ⟨(congrArg xb (hres.symm.trans hF)), rfl⟩ dX10_isOfKind_24
  · replace hres := hres.trans (if_neg c_1)
    refine lv_iload_n hx hb dX10_isOfKind_4 rfl (lv_at hl 1 rfl) ?_
    refine lv_iload_n hx hb dX10_isOfKind_5 rfl (lv_at hl 0 rfl) ?_
    refine lv_icmp_eq (tgt := 19) hx hb dX10_isOfKind_6 (by decide) (fun c_2 => ?_) (fun c_2 => ?_)
    · replace hres := hres.trans (if_pos c_2)
      refine lv_iconst (v := 1) hx hb dX10_isOfKind_19 (by decide) ?_
      refine lv_goto (tgt := 24) hx hb dX10_isOfKind_20 (by decide) ?_
      exact x_retz hx hb hr hlk hP hS rfl ⟨(congrArg xb (hres.symm.trans hF)), rfl⟩ dX10_isOfKind_24
    · replace hres := hres.trans (if_neg c_2)
      refine lv_iload_n hx hb dX10_isOfKind_9 rfl (lv_at hl 1 rfl) ?_
      refine lv_iconst (v := 2) hx hb dX10_isOfKind_10 (by decide) ?_
      refine lv_icmp_ne (tgt := 23) hx hb dX10_isOfKind_11 (by decide) (fun c_3 => ?_) (fun c_3 => ?_)
      · replace hres := hres.trans (if_neg c_3)
        refine lv_iconst (v := 0) hx hb dX10_isOfKind_23 (by decide) ?_
        exact x_retz hx hb hr hlk hP hS rfl ⟨(congrArg xb (hres.symm.trans hF)), rfl⟩ dX10_isOfKind_24
      · replace hres := hres.trans (if_pos c_3)
        refine lv_iload_n hx hb dX10_isOfKind_14 rfl (lv_at hl 0 rfl) ?_
        refine lv_iconst (v := 3) hx hb dX10_isOfKind_15 (by decide) ?_
        refine lv_icmp_ne (tgt := 23) hx hb dX10_isOfKind_16 (by decide) (fun c_4 => ?_) (fun c_4 => ?_)
        · replace hres := hres.trans (if_neg c_4)
          refine lv_iconst (v := 0) hx hb dX10_isOfKind_23 (by decide) ?_
          exact x_retz hx hb hr hlk hP hS rfl ⟨(congrArg xb (hres.symm.trans hF)), rfl⟩ dX10_isOfKind_24
        · replace hres := hres.trans (if_pos c_4)
          refine lv_iconst (v := 1) hx hb dX10_isOfKind_19 (by decide) ?_
          refine lv_goto (tgt := 24) hx hb dX10_isOfKind_20 (by decide) ?_
          exact x_retz hx hb hr hlk hP hS rfl ⟨(congrArg xb (hres.symm.trans hF)), rfl⟩ dX10_isOfKind_24
set_option maxHeartbeats 4000000 in
set_option maxRecDepth 100000 in
theorem c_X0_changeNeed (l : Launch) (nb nn : Nat) (g : xG) (L : List (Nat × Nat)) (M : xM) (hD : xD g L) (hL : xEL nb nn L) (i0 : Nat) (v : Int32) (hi0 : i0 < nb) : xCi l yX0_changeNeed cX0_changeNeed 3 (some .int) 0 g L M [.ref (xad g 27 i0), .int v] (fun r u => (r, u) = f_X0_changeNeed i0 v M) := by
  intro sz
  refine x_beg (by decide +kernel) rfl ?_
  intro p e s m args below meth c ls hsz hB
  subst hsz
  obtain ⟨hx, hb, hml, hown, hts, hr, hlk, hK, hAm, hP, hl⟩ := hB
  have S : CallFix p m c cX0_changeNeed 3 s args (xws yX0_changeNeed cX0_changeNeed 3 (some .int)) RX0 := ⟨hx, hb, hml, hown, hts⟩
  have hown : s.vm.findClass RX0 = some m.cls := hown
  have hl : lv_has ls 3 [(0, .ref (xad g 27 i0)), (1, .int v)] := hl
  have hS : va_S (xA g L s.heap.size) s.heap s.heap [] := va_S.rf
  obtain ⟨F, hF⟩ : ∃ F, F = f_X0_changeNeed i0 v M := ⟨_, rfl⟩
  have hres := hF
  rw [f_X0_changeNeed] at hres
  refine lv_aload_n hx hb dX0_changeNeed_0 rfl (lv_at hl 0 rfl) ?_
  refine gf_RX0_9 hx hb hts hown hK hP (hL 27 i0 hi0) dX0_changeNeed_1 ?_
  refine lv_topi (fun x2_1 ex2_1 => ?_)
  replace hres := xlet_n hres ex2_1
  refine lv_istore_n (lv' := [(2, .int x2_1), (0, .ref (xad g 27 i0)), (1, .int v)]) hx hb dX0_changeNeed_4 rfl hl (by decide) rfl (fun ls hl => ?_)
  refine lv_aload_n hx hb dX0_changeNeed_5 rfl (lv_at hl 1 rfl) ?_
  refine lv_iload_n hx hb dX0_changeNeed_6 rfl (lv_at hl 2 rfl) ?_
  refine pf_RX0_9 hx hb hts hown hK hP hD hS (hL 27 i0 hi0) dX0_changeNeed_7 (fun H locs hP hS => ?_)
  obtain ⟨M_2, eM_2⟩ : ∃ z_ : xM, z_ = xup M 27 i0 3 v := ⟨_, rfl⟩
  rw [← eM_2] at hP
  replace hres := xlet_n hres eM_2
  refine lv_iload_n hx hb dX0_changeNeed_10 rfl (lv_at hl 0 rfl) ?_
  exact x_reti hx hb hr hlk hP hS (hres.symm.trans hF) dX0_changeNeed_11
set_option maxHeartbeats 4000000 in
set_option maxRecDepth 100000 in
theorem c_X0_changeHeld (l : Launch) (nb nn : Nat) (g : xG) (L : List (Nat × Nat)) (M : xM) (hD : xD g L) (hL : xEL nb nn L) (i0 : Nat) (other : Int32) (v : Int32) (hi0 : i0 < nb) (hp0 : 0 ≤ other) (hp1 : other < 8) : xCi l yX0_changeHeld cX0_changeHeld 4 (some .int) 0 g L M [.ref (xad g 27 i0), .int other, .int v] (fun r u => (r, u) = f_X0_changeHeld i0 other v M) := by
  intro sz
  refine x_beg (by decide +kernel) rfl ?_
  intro p e s m args below meth c ls hsz hB
  subst hsz
  obtain ⟨hx, hb, hml, hown, hts, hr, hlk, hK, hAm, hP, hl⟩ := hB
  have S : CallFix p m c cX0_changeHeld 4 s args (xws yX0_changeHeld cX0_changeHeld 4 (some .int)) RX0 := ⟨hx, hb, hml, hown, hts⟩
  have hown : s.vm.findClass RX0 = some m.cls := hown
  have hl : lv_has ls 4 [(0, .ref (xad g 27 i0)), (1, .int other), (2, .int v)] := hl
  have hS : va_S (xA g L s.heap.size) s.heap s.heap [] := va_S.rf
  obtain ⟨F, hF⟩ : ∃ F, F = f_X0_changeHeld i0 other v M := ⟨_, rfl⟩
  have hres := hF
  rw [f_X0_changeHeld] at hres
  refine lv_aload_n hx hb dX0_changeHeld_0 rfl (lv_at hl 0 rfl) ?_
  refine gf_RX0_19 hx hb hts hown hK hP (hL 27 i0 hi0) dX0_changeHeld_1 ?_
  refine lv_iload_n hx hb dX0_changeHeld_4 rfl (lv_at hl 1 rfl) ?_
  refine x_iald hx hb hK hP (hL 28 i0 hi0) (xc28 g i0) (ob_X0_changeHeld_5_in nb nn i0 other v M hi0 hp0 hp1) dX0_changeHeld_5 ?_
  refine lv_topi (fun x3_1 ex3_1 => ?_)
  replace hres := xlet_n hres ex3_1
  refine lv_istore_n (lv' := [(3, .int x3_1), (0, .ref (xad g 27 i0)), (1, .int other), (2, .int v)]) hx hb dX0_changeHeld_6 rfl hl (by decide) rfl (fun ls hl => ?_)
  refine lv_aload_n hx hb dX0_changeHeld_7 rfl (lv_at hl 1 rfl) ?_
  refine gf_RX0_19 hx hb hts hown hK hP (hL 27 i0 hi0) dX0_changeHeld_8 ?_
  refine lv_iload_n hx hb dX0_changeHeld_11 rfl (lv_at hl 2 rfl) ?_
  refine lv_iload_n hx hb dX0_changeHeld_12 rfl (lv_at hl 3 rfl) ?_
  refine x_iast hx hb hK hP hD hS (hL 28 i0 hi0) (xc28 g i0) (ob_X0_changeHeld_13_in nb nn i0 other v M hi0 hp0 hp1 x3_1 ex3_1) dX0_changeHeld_13 (fun H locs hP hS => ?_)
  obtain ⟨M_2, eM_2⟩ : ∃ z_ : xM, z_ = xup M 28 i0 other.toNatClampNeg v := ⟨_, rfl⟩
  rw [← eM_2] at hP
  replace hres := xlet_n hres eM_2
  refine lv_iload_n hx hb dX0_changeHeld_14 rfl (lv_at hl 0 rfl) ?_
  exact x_reti hx hb hr hlk hP hS (hres.symm.trans hF) dX0_changeHeld_15
set_option maxHeartbeats 4000000 in
set_option maxRecDepth 100000 in
theorem c_X0_payOut (l : Launch) (nb nn : Nat) (g : xG) (L : List (Nat × Nat)) (M : xM) (hD : xD g L) (hL : xEL nb nn L) (i0 : Nat) (sum : Int32) (hi0 : i0 < nb) : xCi l yX0_payOut cX0_payOut 2 (some .int) 0 g L M [.ref (xad g 27 i0), .int sum] (fun r u => (r, u) = f_X0_payOut i0 sum M) := by
  intro sz
  refine x_beg (by decide +kernel) rfl ?_
  intro p e s m args below meth c ls hsz hB
  subst hsz
  obtain ⟨hx, hb, hml, hown, hts, hr, hlk, hK, hAm, hP, hl⟩ := hB
  have S : CallFix p m c cX0_payOut 2 s args (xws yX0_payOut cX0_payOut 2 (some .int)) RX0 := ⟨hx, hb, hml, hown, hts⟩
  have hown : s.vm.findClass RX0 = some m.cls := hown
  have hl : lv_has ls 2 [(0, .ref (xad g 27 i0)), (1, .int sum)] := hl
  have hS : va_S (xA g L s.heap.size) s.heap s.heap [] := va_S.rf
  obtain ⟨F, hF⟩ : ∃ F, F = f_X0_payOut i0 sum M := ⟨_, rfl⟩
  have hres := hF
  rw [f_X0_payOut] at hres
  refine lv_aload_n hx hb dX0_payOut_0 rfl (lv_at hl 0 rfl) ?_
  refine gf_RX0_15 hx hb hts hown hK hP (hL 27 i0 hi0) dX0_payOut_1 ?_
  refine lv_if_eq (tgt := 9) hx hb dX0_payOut_4 (by decide) (fun c_1 => ?_) (fun c_1 => ?_)
  · replace hres := hres.trans (if_pos c_1)
    refine lv_aload_n hx hb dX0_payOut_9 rfl (lv_at hl 0 rfl) ?_
    refine gf_RX0_26 hx hb hts hown hK hP (hL 27 i0 hi0) dX0_payOut_10 ?_
    refine lv_iload_n hx hb dX0_payOut_13 rfl (lv_at hl 1 rfl) ?_
    refine lv_icmp_ge (tgt := 24) hx hb dX0_payOut_14 (by decide) (fun c_2 => ?_) (fun c_2 => ?_)
    · replace hres := hres.trans (if_pos c_2)
      refine lv_aload_n hx hb dX0_payOut_24 rfl (lv_at hl 0 rfl) ?_
      refine lv_dup hx hb dX0_payOut_25 rfl ?_
      refine gf_RX0_26 hx hb hts hown hK hP (hL 27 i0 hi0) dX0_payOut_26 ?_
      refine lv_iload_n hx hb dX0_payOut_29 rfl (lv_at hl 1 rfl) ?_
      refine lv_isub hx hb dX0_payOut_30 ?_
      refine lv_topi (fun v_3 ev_3 => ?_)
      replace hres := xlet_n hres ev_3
      refine pf_RX0_26 hx hb hts hown hK hP hD hS (hL 27 i0 hi0) dX0_payOut_31 (fun H locs hP hS => ?_)
      obtain ⟨M_4, eM_4⟩ : ∃ z_ : xM, z_ = xup M 27 i0 2 v_3 := ⟨_, rfl⟩
      rw [← eM_4] at hP
      replace hres := xlet_n hres eM_4
      refine lv_iload_n hx hb dX0_payOut_34 rfl (lv_at hl 1 rfl) ?_
      exact x_reti hx hb hr hlk hP hS (hres.symm.trans hF) dX0_payOut_35
    · replace hres := hres.trans (if_neg c_2)
      refine lv_aload_n hx hb dX0_payOut_17 rfl (lv_at hl 0 rfl) ?_
      refine lv_iconst (v := 1) hx hb dX0_payOut_18 (by decide) ?_
      refine pf_RX0_15 hx hb hts hown hK hP hD hS (hL 27 i0 hi0) (by first | rfl | decide) (by first | rfl | decide) dX0_payOut_19 (fun H locs hP hS => ?_)
      obtain ⟨M_5, eM_5⟩ : ∃ z_ : xM, z_ = xup M 27 i0 4 1 := ⟨_, rfl⟩
      rw [← eM_5] at hP
      replace hres := xlet_n hres eM_5
      refine lv_iconst (v := 0) hx hb dX0_payOut_22 (by decide) ?_
      exact x_reti hx hb hr hlk hP hS (hres.symm.trans hF) dX0_payOut_23
  · replace hres := hres.trans (if_neg c_1)
    refine lv_iconst (v := 0) hx hb dX0_payOut_7 (by decide) ?_
    exact x_reti hx hb hr hlk hP hS (hres.symm.trans hF) dX0_payOut_8
set_option maxHeartbeats 4000000 in
set_option maxRecDepth 100000 in
theorem c_X0_isInNeed (l : Launch) (nb nn : Nat) (g : xG) (L : List (Nat × Nat)) (M : xM) (hD : xD g L) (hL : xEL nb nn L) (i0 : Nat) (fallen : Int32) (hi0 : i0 < nb) : xCi l yX0_isInNeed cX0_isInNeed 4 (some .boolean) 0 g L M [.ref (xad g 27 i0), .int fallen] (fun r u => r = xb (f_X0_isInNeed i0 fallen M) ∧ u = M) := by
  intro sz
  refine x_beg (by decide +kernel) rfl ?_
  intro p e s m args below meth c ls hsz hB
  subst hsz
  obtain ⟨hx, hb, hml, hown, hts, hr, hlk, hK, hAm, hP, hl⟩ := hB
  have S : CallFix p m c cX0_isInNeed 4 s args (xws yX0_isInNeed cX0_isInNeed 4 (some .boolean)) RX0 := ⟨hx, hb, hml, hown, hts⟩
  have hown : s.vm.findClass RX0 = some m.cls := hown
  have hl : lv_has ls 4 [(0, .ref (xad g 27 i0)), (1, .int fallen)] := hl
  have hS : va_S (xA g L s.heap.size) s.heap s.heap [] := va_S.rf
  obtain ⟨F, hF⟩ : ∃ F, F = f_X0_isInNeed i0 fallen M := ⟨_, rfl⟩
  have k_7 : ∀ (n : Nat) (has : Int32) (o : Int32) (H : Heap) (locs : List Loc) (ls : Array Slot) (kx : (Int32 → Int32 → Bool)), xmu o 8 < n → 0 ≤ o → F = f_X0_isInNeed_L7 i0 fallen M n has o kx → xP g L M H → va_S (xA g L s.heap.size) s.heap H locs → lv_has ls 4 [(0, .ref (xad g 27 i0)), (1, .int fallen), (2, .int has), (3, .int o)] → (∀ (has : Int32) (o : Int32) (H : Heap) (locs : List Loc) (ls : Array Slot), 0 ≤ o → F = kx has o → xP g L M H → va_S (xA g L s.heap.size) s.heap H locs → lv_has ls 4 [(0, .ref (xad g 27 i0)), (1, .int fallen), (2, .int has), (3, .int o)] → W p l e (xr 0) s m args below meth c H locs 0 0 (MQ below (va_Qi (fun r u => r = xb (f_X0_isInNeed i0 fallen M) ∧ u = M) (xPost g L) (xA g L s.heap.size)) args s 0 0 (xA g L s.heap.size)) (F0 m 36 ls [])) → W p l e (xr 0) s m args below meth c H locs 0 0 (MQ below (va_Qi (fun r u => r = xb (f_X0_isInNeed i0 fallen M) ∧ u = M) (xPost g L) (xA g L s.heap.size)) args s 0 0 (xA g L s.heap.size)) (F0 m 7 ls []) := by
    intro n
    induction n with
    | zero => intro has o H locs ls kx hmu; exact absurd hmu (Nat.not_lt_zero _)
    | succ n ih =>
      intro has o H locs ls kx hmu hinv hres hP hS hl hex
      replace hres : F = _ := hres.trans (by rw [f_X0_isInNeed_L7])
      refine lv_iload_n hx hb dX0_isInNeed_7 rfl (lv_at hl 3 rfl) ?_
      refine lv_bipush (v := 8) hx hb dX0_isInNeed_8 (by decide) ?_
      refine lv_icmp_ge (tgt := 36) hx hb dX0_isInNeed_10 (by decide) (fun c_1 => ?_) (fun c_1 => ?_)
      · replace hres := hres.trans (if_pos c_1)
        exact hex has o _ _ _ (ob_X0_isInNeed_36_x7 nb nn i0 fallen M hi0 n has o hmu hinv c_1) hres hP hS (lv_sub hl [0, 1, 2, 3] rfl)
      · replace hres := hres.trans (if_neg c_1)
        refine lv_iload_n hx hb dX0_isInNeed_13 rfl (lv_at hl 1 rfl) ?_
        refine lv_iload_n hx hb dX0_isInNeed_14 rfl (lv_at hl 3 rfl) ?_
        refine lv_ishr hx hb dX0_isInNeed_15 ?_
        refine lv_iconst (v := 1) hx hb dX0_isInNeed_16 (by decide) ?_
        refine lv_iand hx hb dX0_isInNeed_17 ?_
        refine lv_if_ne (tgt := 30) hx hb dX0_isInNeed_18 (by decide) (fun c_2 => ?_) (fun c_2 => ?_)
        · replace hres := hres.trans (if_neg c_2)
          obtain ⟨x3_3, ex3_3⟩ : ∃ z_ : Int32, z_ = o + 1 := ⟨_, rfl⟩
          replace hres := xlet_n hres ex3_3
          refine lv_iinc (v := x3_3) (lv' := [(3, .int x3_3), (0, .ref (xad g 27 i0)), (1, .int fallen), (2, .int has)]) hx hb dX0_isInNeed_30 hl (k := 3) rfl (by rw [ex3_3]; rfl) (by decide) rfl (fun ls hl => ?_)
          refine lv_goto (tgt := 7) hx hb dX0_isInNeed_33 (by decide) ?_
          exact ih has x3_3 _ _ _ kx (ob_X0_isInNeed_7_mu_3 nb nn i0 fallen M hi0 n has o hmu hinv c_1 c_2 x3_3 ex3_3) (ob_X0_isInNeed_7_inv_3 nb nn i0 fallen M hi0 n has o hmu hinv c_1 c_2 x3_3 ex3_3) hres hP hS (lv_sub hl [1, 2, 3, 0] rfl) hex
        · replace hres := hres.trans (if_pos c_2)
          refine lv_iload_n hx hb dX0_isInNeed_21 rfl (lv_at hl 2 rfl) ?_
          refine lv_aload_n hx hb dX0_isInNeed_22 rfl (lv_at hl 0 rfl) ?_
          refine gf_RX0_19 hx hb hts hown hK hP (hL 27 i0 hi0) dX0_isInNeed_23 ?_
          refine lv_iload_n hx hb dX0_isInNeed_26 rfl (lv_at hl 3 rfl) ?_
          refine x_iald hx hb hK hP (hL 28 i0 hi0) (xc28 g i0) (ob_X0_isInNeed_27_in nb nn i0 fallen M hi0 n has o hmu hinv c_1 c_2) dX0_isInNeed_27 ?_
          refine lv_iadd hx hb dX0_isInNeed_28 ?_
          refine lv_topi (fun x2_4 ex2_4 => ?_)
          replace hres := xlet_n hres ex2_4
          refine lv_istore_n (lv' := [(2, .int x2_4), (0, .ref (xad g 27 i0)), (1, .int fallen), (3, .int o)]) hx hb dX0_isInNeed_29 rfl hl (by decide) rfl (fun ls hl => ?_)
          obtain ⟨x3_5, ex3_5⟩ : ∃ z_ : Int32, z_ = o + 1 := ⟨_, rfl⟩
          replace hres := xlet_n hres ex3_5
          refine lv_iinc (v := x3_5) (lv' := [(3, .int x3_5), (2, .int x2_4), (0, .ref (xad g 27 i0)), (1, .int fallen)]) hx hb dX0_isInNeed_30 hl (k := 3) rfl (by rw [ex3_5]; rfl) (by decide) rfl (fun ls hl => ?_)
          refine lv_goto (tgt := 7) hx hb dX0_isInNeed_33 (by decide) ?_
          exact ih x2_4 x3_5 _ _ _ kx (ob_X0_isInNeed_7_mu_5 nb nn i0 fallen M hi0 n has o hmu hinv c_1 c_2 x2_4 ex2_4 x3_5 ex3_5) (ob_X0_isInNeed_7_inv_5 nb nn i0 fallen M hi0 n has o hmu hinv c_1 c_2 x2_4 ex2_4 x3_5 ex3_5) hres hP hS (lv_sub hl [2, 3, 1, 0] rfl) hex
  have hres := hF
  rw [f_X0_isInNeed] at hres
  refine lv_aload_n hx hb dX0_isInNeed_0 rfl (lv_at hl 0 rfl) ?_
  refine gf_RX0_26 hx hb hts hown hK hP (hL 27 i0 hi0) dX0_isInNeed_1 ?_
  refine lv_topi (fun x2_6 ex2_6 => ?_)
  replace hres := xlet_n hres ex2_6
  refine lv_istore_n (lv' := [(2, .int x2_6), (0, .ref (xad g 27 i0)), (1, .int fallen)]) hx hb dX0_isInNeed_4 rfl hl (by decide) rfl (fun ls hl => ?_)
  refine lv_iconst (v := 0) hx hb dX0_isInNeed_5 (by decide) ?_
  refine lv_istore_n (lv' := [(3, .int 0), (2, .int x2_6), (0, .ref (xad g 27 i0)), (1, .int fallen)]) hx hb dX0_isInNeed_6 rfl hl (by decide) rfl (fun ls hl => ?_)
  refine k_7 (xmu (0 : Int32) 8 + 1) x2_6 (0 : Int32) _ _ _ _ (Nat.lt_succ_self _) (ob_X0_isInNeed_7_ini_6 nb nn i0 fallen M hi0 x2_6 ex2_6) hres hP hS (lv_sub hl [2, 3, 1, 0] rfl) ?_
  clear hres hP hS hl
  intro has_7 o_8 H locs ls hiv_8 hres hP hS hl
  refine lv_iload_n hx hb dX0_isInNeed_36 rfl (lv_at hl 2 rfl) ?_
  refine lv_aload_n hx hb dX0_isInNeed_37 rfl (lv_at hl 0 rfl) ?_
  refine gf_RX0_9 hx hb hts hown hK hP (hL 27 i0 hi0) dX0_isInNeed_38 ?_
  refine lv_icmp_ge (tgt := 48) hx hb dX0_isInNeed_41 (by decide) (fun c_9 => ?_) (fun c_9 => ?_)
  · replace hres := hres.trans (if_pos c_9)
    refine lv_iconst (v := 0) hx hb dX0_isInNeed_48 (by decide) ?_
    exact x_retz hx hb hr hlk hP hS rfl ⟨(congrArg xb (hres.symm.trans hF)), rfl⟩ dX0_isInNeed_49
  · replace hres := hres.trans (if_neg c_9)
    refine lv_iconst (v := 1) hx hb dX0_isInNeed_44 (by decide) ?_
    refine lv_goto (tgt := 49) hx hb dX0_isInNeed_45 (by decide) ?_
    exact x_retz hx hb hr hlk hP hS rfl ⟨(congrArg xb (hres.symm.trans hF)), rfl⟩ dX0_isInNeed_49
set_option maxHeartbeats 4000000 in
set_option maxRecDepth 100000 in
theorem c_X6_isMissing (l : Launch) (nb nn : Nat) (g : xG) (L : List (Nat × Nat)) (M : xM) (hD : xD g L) (hL : xEL nb nn L) (i0 : Nat) (hi0 : i0 < 8) : xCi l yX6_isMissing cX6_isMissing 1 (some .boolean) 0 g L M [.ref (xad g 24 i0)] (fun r u => r = xb (f_X6_isMissing i0 M) ∧ u = M) := by
  intro sz
  refine x_beg (by decide +kernel) rfl ?_
  intro p e s m args below meth c ls hsz hB
  subst hsz
  obtain ⟨hx, hb, hml, hown, hts, hr, hlk, hK, hAm, hP, hl⟩ := hB
  have S : CallFix p m c cX6_isMissing 1 s args (xws yX6_isMissing cX6_isMissing 1 (some .boolean)) RX6 := ⟨hx, hb, hml, hown, hts⟩
  have hown : s.vm.findClass RX6 = some m.cls := hown
  have hl : lv_has ls 1 [(0, .ref (xad g 24 i0))] := hl
  have hS : va_S (xA g L s.heap.size) s.heap s.heap [] := va_S.rf
  obtain ⟨F, hF⟩ : ∃ F, F = f_X6_isMissing i0 M := ⟨_, rfl⟩
  have hres := hF
  rw [f_X6_isMissing] at hres
  refine lv_aload_n hx hb dX6_isMissing_0 rfl (lv_at hl 0 rfl) ?_
  refine gf_RX6_13 hx hb hts hown hK hP (hL 24 i0 hi0) dX6_isMissing_1 ?_
  refine lv_iconst (v := (-1)) hx hb dX6_isMissing_4 (by decide) ?_
  refine lv_icmp_ne (tgt := 12) hx hb dX6_isMissing_5 (by decide) (fun c_1 => ?_) (fun c_1 => ?_)
  · replace hres := hres.trans (if_neg c_1)
    refine lv_iconst (v := 0) hx hb dX6_isMissing_12 (by decide) ?_
    exact x_retz hx hb hr hlk hP hS rfl ⟨(congrArg xb (hres.symm.trans hF)), rfl⟩ dX6_isMissing_13
  · replace hres := hres.trans (if_pos c_1)
    refine lv_iconst (v := 1) hx hb dX6_isMissing_8 (by decide) ?_
    refine lv_goto (tgt := 13) hx hb dX6_isMissing_9 (by decide) ?_
    exact x_retz hx hb hr hlk hP hS rfl ⟨(congrArg xb (hres.symm.trans hF)), rfl⟩ dX6_isMissing_13
set_option maxHeartbeats 4000000 in
set_option maxRecDepth 100000 in
theorem c_X6_discard (l : Launch) (nb nn : Nat) (g : xG) (L : List (Nat × Nat)) (M : xM) (hD : xD g L) (hL : xEL nb nn L) (i0 : Nat) (hi0 : i0 < 8) : xCv l yX6_discard cX6_discard 1 0 g L M [.ref (xad g 24 i0)] (fun u => u = f_X6_discard i0 M) := by
  intro sz
  refine x_beg (by decide +kernel) rfl ?_
  intro p e s m args below meth c ls hsz hB
  subst hsz
  obtain ⟨hx, hb, hml, hown, hts, hr, hlk, hK, hAm, hP, hl⟩ := hB
  have S : CallFix p m c cX6_discard 1 s args (xws yX6_discard cX6_discard 1 none) RX6 := ⟨hx, hb, hml, hown, hts⟩
  have hown : s.vm.findClass RX6 = some m.cls := hown
  have hl : lv_has ls 1 [(0, .ref (xad g 24 i0))] := hl
  have hS : va_S (xA g L s.heap.size) s.heap s.heap [] := va_S.rf
  obtain ⟨F, hF⟩ : ∃ F, F = f_X6_discard i0 M := ⟨_, rfl⟩
  have hres := hF
  rw [f_X6_discard] at hres
  refine lv_aload_n hx hb dX6_discard_0 rfl (lv_at hl 0 rfl) ?_
  refine lv_iconst (v := (-1)) hx hb dX6_discard_1 (by decide) ?_
  refine pf_RX6_13 hx hb hts hown hK hP hD hS (hL 24 i0 hi0) dX6_discard_2 (fun H locs hP hS => ?_)
  obtain ⟨M_1, eM_1⟩ : ∃ z_ : xM, z_ = xup M 24 i0 1 (-1) := ⟨_, rfl⟩
  rw [← eM_1] at hP
  replace hres := xlet_n hres eM_1
  refine lv_aload_n hx hb dX6_discard_5 rfl (lv_at hl 0 rfl) ?_
  refine lv_iconst (v := 0) hx hb dX6_discard_6 (by decide) ?_
  refine pf_RX6_17 hx hb hts hown hK hP hD hS (hL 24 i0 hi0) dX6_discard_7 (fun H locs hP hS => ?_)
  obtain ⟨M_2, eM_2⟩ : ∃ z_ : xM, z_ = xup M_1 24 i0 2 0 := ⟨_, rfl⟩
  rw [← eM_2] at hP
  replace hres := xlet_n hres eM_2
  exact x_retv hx hb hr hlk hP hS (hres.symm.trans hF) dX6_discard_10
set_option maxHeartbeats 4000000 in
set_option maxRecDepth 100000 in
theorem c_X6_hasPlaces (l : Launch) (nb nn : Nat) (g : xG) (L : List (Nat × Nat)) (M : xM) (hD : xD g L) (hL : xEL nb nn L) (i0 : Nat) (i : Int32) (z : Int32) (hi0 : i0 < 8) : xCi l yX6_hasPlaces cX6_hasPlaces 3 (some .boolean) 0 g L M [.ref (xad g 24 i0), .int i, .int z] (fun r u => r = xb (f_X6_hasPlaces i0 i z M) ∧ u = M) := by
  intro sz
  refine x_beg (by decide +kernel) rfl ?_
  intro p e s m args below meth c ls hsz hB
  subst hsz
  obtain ⟨hx, hb, hml, hown, hts, hr, hlk, hK, hAm, hP, hl⟩ := hB
  have S : CallFix p m c cX6_hasPlaces 3 s args (xws yX6_hasPlaces cX6_hasPlaces 3 (some .boolean)) RX6 := ⟨hx, hb, hml, hown, hts⟩
  have hown : s.vm.findClass RX6 = some m.cls := hown
  have hl : lv_has ls 3 [(0, .ref (xad g 24 i0)), (1, .int i), (2, .int z)] := hl
  have hS : va_S (xA g L s.heap.size) s.heap s.heap [] := va_S.rf
  obtain ⟨F, hF⟩ : ∃ F, F = f_X6_hasPlaces i0 i z M := ⟨_, rfl⟩
  have hres := hF
  rw [f_X6_hasPlaces] at hres
  refine lv_iload_n hx hb dX6_hasPlaces_0 rfl (lv_at hl 1 rfl) ?_
  refine lv_if_lt (tgt := 22) hx hb dX6_hasPlaces_1 (by decide) (fun c_1 => ?_) (fun c_1 => ?_)
  · replace hres := hres.trans (if_pos c_1)
    refine lv_iconst (v := 0) hx hb dX6_hasPlaces_22 (by decide) ?_
    exact x_retz hx hb hr hlk hP hS rfl ⟨(congrArg xb (hres.symm.trans hF)), rfl⟩ dX6_hasPlaces_23
  · replace hres := hres.trans (if_neg c_1)
    refine lv_iload_n hx hb dX6_hasPlaces_4 rfl (lv_at hl 2 rfl) ?_
    refine lv_if_lt (tgt := 22) hx hb dX6_hasPlaces_5 (by decide) (fun c_2 => ?_) (fun c_2 => ?_)
    · replace hres := hres.trans (if_pos c_2)
      refine lv_iconst (v := 0) hx hb dX6_hasPlaces_22 (by decide) ?_
      exact x_retz hx hb hr hlk hP hS rfl ⟨(congrArg xb (hres.symm.trans hF)), rfl⟩ dX6_hasPlaces_23
    · replace hres := hres.trans (if_neg c_2)
      refine lv_iload_n hx hb dX6_hasPlaces_8 rfl (lv_at hl 2 rfl) ?_
      refine lv_aload_n hx hb dX6_hasPlaces_9 rfl (lv_at hl 0 rfl) ?_
      refine gf_RX6_17 hx hb hts hown hK hP (hL 24 i0 hi0) dX6_hasPlaces_10 ?_
      refine lv_iload_n hx hb dX6_hasPlaces_13 rfl (lv_at hl 1 rfl) ?_
      refine lv_isub hx hb dX6_hasPlaces_14 ?_
      refine lv_icmp_gt (tgt := 22) hx hb dX6_hasPlaces_15 (by decide) (fun c_3 => ?_) (fun c_3 => ?_)
      · replace hres := hres.trans (if_pos c_3)
        refine lv_iconst (v := 0) hx hb dX6_hasPlaces_22 (by decide) ?_
        exact x_retz hx hb hr hlk hP hS rfl ⟨(congrArg xb (hres.symm.trans hF)), rfl⟩ dX6_hasPlaces_23
      · replace hres := hres.trans (if_neg c_3)
        refine lv_iconst (v := 1) hx hb dX6_hasPlaces_18 (by decide) ?_
        refine lv_goto (tgt := 23) hx hb dX6_hasPlaces_19 (by decide) ?_
        exact x_retz hx hb hr hlk hP hS rfl ⟨(congrArg xb (hres.symm.trans hF)), rfl⟩ dX6_hasPlaces_23
set_option maxHeartbeats 4000000 in
set_option maxRecDepth 100000 in
theorem c_X8_empty (l : Launch) (nb nn : Nat) (g : xG) (L : List (Nat × Nat)) (M : xM) (hD : xD g L) (hL : xEL nb nn L)   : xCv l yX8_empty cX8_empty 1 0 g L M [.ref (xad g 12 0)] (fun u => u = f_X8_empty  M) := by
  intro sz
  refine x_beg (by decide +kernel) rfl ?_
  intro p e s m args below meth c ls hsz hB
  subst hsz
  obtain ⟨hx, hb, hml, hown, hts, hr, hlk, hK, hAm, hP, hl⟩ := hB
  have S : CallFix p m c cX8_empty 1 s args (xws yX8_empty cX8_empty 1 none) RX8 := ⟨hx, hb, hml, hown, hts⟩
  have hown : s.vm.findClass RX8 = some m.cls := hown
  have hl : lv_has ls 1 [(0, .ref (xad g 12 0))] := hl
  have hS : va_S (xA g L s.heap.size) s.heap s.heap [] := va_S.rf
  obtain ⟨F, hF⟩ : ∃ F, F = f_X8_empty  M := ⟨_, rfl⟩
  have hres := hF
  rw [f_X8_empty] at hres
  refine lv_aload_n hx hb dX8_empty_0 rfl (lv_at hl 0 rfl) ?_
  refine lv_iconst (v := 0) hx hb dX8_empty_1 (by decide) ?_
  refine pf_RX8_15 hx hb hts hown hK hP hD hS (hL 12 0 (xe_12 nb nn)) dX8_empty_2 (fun H locs hP hS => ?_)
  obtain ⟨M_1, eM_1⟩ : ∃ z_ : xM, z_ = xup M 12 0 1 0 := ⟨_, rfl⟩
  rw [← eM_1] at hP
  replace hres := xlet_n hres eM_1
  exact x_retv hx hb hr hlk hP hS (hres.symm.trans hF) dX8_empty_5
set_option maxHeartbeats 4000000 in
set_option maxRecDepth 100000 in
theorem c_X8_leave (l : Launch) (nb nn : Nat) (g : xG) (L : List (Nat × Nat)) (M : xM) (hD : xD g L) (hL : xEL nb nn L) (body : Int32)  : xCv l yX8_leave cX8_leave 3 0 g L M [.ref (xad g 12 0), .int body] (fun u => u = f_X8_leave body M) := by
  intro sz
  refine x_beg (by decide +kernel) rfl ?_
  intro p e s m args below meth c ls hsz hB
  subst hsz
  obtain ⟨hx, hb, hml, hown, hts, hr, hlk, hK, hAm, hP, hl⟩ := hB
  have S : CallFix p m c cX8_leave 3 s args (xws yX8_leave cX8_leave 3 none) RX8 := ⟨hx, hb, hml, hown, hts⟩
  have hown : s.vm.findClass RX8 = some m.cls := hown
  have hl : lv_has ls 3 [(0, .ref (xad g 12 0)), (1, .int body)] := hl
  have hS : va_S (xA g L s.heap.size) s.heap s.heap [] := va_S.rf
  obtain ⟨F, hF⟩ : ∃ F, F = f_X8_leave body M := ⟨_, rfl⟩
  have hres := hF
  rw [f_X8_leave] at hres
  refine lv_aload_n hx hb dX8_leave_0 rfl (lv_at hl 0 rfl) ?_
  refine gf_RX8_15 hx hb hts hown hK hP (hL 12 0 (xe_12 nb nn)) dX8_leave_1 ?_
  refine lv_topi (fun x2_1 ex2_1 => ?_)
  replace hres := xlet_n hres ex2_1
  refine lv_istore_n (lv' := [(2, .int x2_1), (0, .ref (xad g 12 0)), (1, .int body)]) hx hb dX8_leave_4 rfl hl (by decide) rfl (fun ls hl => ?_)
  refine lv_iload_n hx hb dX8_leave_5 rfl (lv_at hl 0 rfl) ?_
  refine lv_if_lt (tgt := 29) hx hb dX8_leave_6 (by decide) (fun c_2 => ?_) (fun c_2 => ?_)
  · replace hres := hres.trans (if_pos c_2)
    exact x_retv hx hb hr hlk hP hS (hres.symm.trans hF) dX8_leave_29
  · replace hres := hres.trans (if_neg c_2)
    refine lv_iload_n hx hb dX8_leave_9 rfl (lv_at hl 0 rfl) ?_
    refine lv_bipush (v := 16) hx hb dX8_leave_10 (by decide) ?_
    refine lv_icmp_ge (tgt := 29) hx hb dX8_leave_12 (by decide) (fun c_3 => ?_) (fun c_3 => ?_)
    · replace hres := hres.trans (if_pos c_3)
      exact x_retv hx hb hr hlk hP hS (hres.symm.trans hF) dX8_leave_29
    · replace hres := hres.trans (if_neg c_3)
      refine lv_aload_n hx hb dX8_leave_15 rfl (lv_at hl 1 rfl) ?_
      refine gf_RX8_11 hx hb hts hown hK hP (hL 12 0 (xe_12 nb nn)) dX8_leave_16 ?_
      refine lv_iload_n hx hb dX8_leave_19 rfl (lv_at hl 0 rfl) ?_
      refine lv_iload_n hx hb dX8_leave_20 rfl (lv_at hl 2 rfl) ?_
      refine x_iast hx hb hK hP hD hS (hL 23 0 (xe_23 nb nn)) (xc23 g 0) (ob_X8_leave_21_in nb nn body M x2_1 ex2_1 c_2 c_3) dX8_leave_21 (fun H locs hP hS => ?_)
      obtain ⟨M_4, eM_4⟩ : ∃ z_ : xM, z_ = xup M 23 0 x2_1.toNatClampNeg body := ⟨_, rfl⟩
      rw [← eM_4] at hP
      replace hres := xlet_n hres eM_4
      refine lv_aload_n hx hb dX8_leave_22 rfl (lv_at hl 1 rfl) ?_
      refine lv_iload_n hx hb dX8_leave_23 rfl (lv_at hl 0 rfl) ?_
      refine lv_iconst (v := 1) hx hb dX8_leave_24 (by decide) ?_
      refine lv_iadd hx hb dX8_leave_25 ?_
      refine lv_topi (fun v_5 ev_5 => ?_)
      replace hres := xlet_n hres ev_5
      refine pf_RX8_15 hx hb hts hown hK hP hD hS (hL 12 0 (xe_12 nb nn)) dX8_leave_26 (fun H locs hP hS => ?_)
      obtain ⟨M_6, eM_6⟩ : ∃ z_ : xM, z_ = xup M_4 12 0 1 v_5 := ⟨_, rfl⟩
      rw [← eM_6] at hP
      replace hres := xlet_n hres eM_6
      exact x_retv hx hb hr hlk hP hS (hres.symm.trans hF) dX8_leave_29
set_option maxHeartbeats 4000000 in
set_option maxRecDepth 100000 in
theorem c_X8_number (l : Launch) (nb nn : Nat) (g : xG) (L : List (Nat × Nat)) (M : xM) (hD : xD g L) (hL : xEL nb nn L) (i : Int32) (hp0 : M 12 0 1 ≤ 16) : xCi l yX8_number cX8_number 2 (some .int) 0 g L M [.ref (xad g 12 0), .int i] (fun r u => r = f_X8_number i M ∧ u = M) := by
  intro sz
  refine x_beg (by decide +kernel) rfl ?_
  intro p e s m args below meth c ls hsz hB
  subst hsz
  obtain ⟨hx, hb, hml, hown, hts, hr, hlk, hK, hAm, hP, hl⟩ := hB
  have S : CallFix p m c cX8_number 2 s args (xws yX8_number cX8_number 2 (some .int)) RX8 := ⟨hx, hb, hml, hown, hts⟩
  have hown : s.vm.findClass RX8 = some m.cls := hown
  have hl : lv_has ls 2 [(0, .ref (xad g 12 0)), (1, .int i)] := hl
  have hS : va_S (xA g L s.heap.size) s.heap s.heap [] := va_S.rf
  obtain ⟨F, hF⟩ : ∃ F, F = f_X8_number i M := ⟨_, rfl⟩
  have hres := hF
  rw [f_X8_number] at hres
  refine lv_iload_n hx hb dX8_number_0 rfl (lv_at hl 1 rfl) ?_
  refine lv_if_lt (tgt := 21) hx hb dX8_number_1 (by decide) (fun c_1 => ?_) (fun c_1 => ?_)
  · replace hres := hres.trans (if_pos c_1)
    refine lv_ldc (own := RX8) (v := (-1000000)) hx hb hown (hts _ (List.mem_cons_of_mem _ wd_1071)) dX8_number_21 ?_
    exact x_reti hx hb hr hlk hP hS ⟨hres.symm.trans hF, rfl⟩ dX8_number_23
  · replace hres := hres.trans (if_neg c_1)
    refine lv_iload_n hx hb dX8_number_4 rfl (lv_at hl 1 rfl) ?_
    refine lv_aload_n hx hb dX8_number_5 rfl (lv_at hl 0 rfl) ?_
    refine gf_RX8_15 hx hb hts hown hK hP (hL 12 0 (xe_12 nb nn)) dX8_number_6 ?_
    refine lv_icmp_ge (tgt := 21) hx hb dX8_number_9 (by decide) (fun c_2 => ?_) (fun c_2 => ?_)
    · replace hres := hres.trans (if_pos c_2)
      refine lv_ldc (own := RX8) (v := (-1000000)) hx hb hown (hts _ (List.mem_cons_of_mem _ wd_1071)) dX8_number_21 ?_
      exact x_reti hx hb hr hlk hP hS ⟨hres.symm.trans hF, rfl⟩ dX8_number_23
    · replace hres := hres.trans (if_neg c_2)
      refine lv_aload_n hx hb dX8_number_12 rfl (lv_at hl 0 rfl) ?_
      refine gf_RX8_11 hx hb hts hown hK hP (hL 12 0 (xe_12 nb nn)) dX8_number_13 ?_
      refine lv_iload_n hx hb dX8_number_16 rfl (lv_at hl 1 rfl) ?_
      refine x_iald hx hb hK hP (hL 23 0 (xe_23 nb nn)) (xc23 g 0) (ob_X8_number_17_in nb nn i M hp0 c_1 c_2) dX8_number_17 ?_
      refine lv_goto (tgt := 23) hx hb dX8_number_18 (by decide) ?_
      exact x_reti hx hb hr hlk hP hS ⟨hres.symm.trans hF, rfl⟩ dX8_number_23
set_option maxHeartbeats 4000000 in
set_option maxRecDepth 100000 in
theorem c_X4_isUnlike (l : Launch) (nb nn : Nat) (g : xG) (L : List (Nat × Nat)) (M : xM) (hD : xD g L) (hL : xEL nb nn L) (i0 : Nat) (p0 : Int32) (hi0 : i0 < nn) : xCi l yX4_isUnlike cX4_isUnlike 2 (some .boolean) 0 g L M [.ref (xad g 29 i0), .int p0] (fun r u => r = xb (f_X4_isUnlike i0 p0 M) ∧ u = M) := by
  intro sz
  refine x_beg (by decide +kernel) rfl ?_
  intro p e s m args below meth c ls hsz hB
  subst hsz
  obtain ⟨hx, hb, hml, hown, hts, hr, hlk, hK, hAm, hP, hl⟩ := hB
  have S : CallFix p m c cX4_isUnlike 2 s args (xws yX4_isUnlike cX4_isUnlike 2 (some .boolean)) RX4 := ⟨hx, hb, hml, hown, hts⟩
  have hown : s.vm.findClass RX4 = some m.cls := hown
  have hl : lv_has ls 2 [(0, .ref (xad g 29 i0)), (1, .int p0)] := hl
  have hS : va_S (xA g L s.heap.size) s.heap s.heap [] := va_S.rf
  obtain ⟨F, hF⟩ : ∃ F, F = f_X4_isUnlike i0 p0 M := ⟨_, rfl⟩
  have hres := hF
  rw [f_X4_isUnlike] at hres
  refine lv_aload_n hx hb dX4_isUnlike_0 rfl (lv_at hl 0 rfl) ?_
  refine gf_RX4_48 hx hb hts hown hK hP (hL 29 i0 hi0) dX4_isUnlike_1 ?_
  refine lv_iload_n hx hb dX4_isUnlike_4 rfl (lv_at hl 1 rfl) ?_
  refine lv_ixor hx hb dX4_isUnlike_5 ?_
  refine lv_aload_n hx hb dX4_isUnlike_6 rfl (lv_at hl 0 rfl) ?_
  refine gf_RX4_51 hx hb hts hown hK hP (hL 29 i0 hi0) dX4_isUnlike_7 ?_
  refine lv_iconst (v := (-1)) hx hb dX4_isUnlike_10 (by decide) ?_
  refine lv_ixor hx hb dX4_isUnlike_11 ?_
  refine lv_iand hx hb dX4_isUnlike_12 ?_
  refine lv_if_eq (tgt := 20) hx hb dX4_isUnlike_13 (by decide) (fun c_1 => ?_) (fun c_1 => ?_)
  · replace hres := hres.trans (if_pos c_1)
    refine lv_iconst (v := 0) hx hb dX4_isUnlike_20 (by decide) ?_
    exact x_retz hx hb hr hlk hP hS rfl ⟨(congrArg xb (hres.symm.trans hF)), rfl⟩ dX4_isUnlike_21
  · replace hres := hres.trans (if_neg c_1)
    refine lv_iconst (v := 1) hx hb dX4_isUnlike_16 (by decide) ?_
    refine lv_goto (tgt := 21) hx hb dX4_isUnlike_17 (by decide) ?_
    exact x_retz hx hb hr hlk hP hS rfl ⟨(congrArg xb (hres.symm.trans hF)), rfl⟩ dX4_isUnlike_21
set_option maxHeartbeats 4000000 in
set_option maxRecDepth 100000 in
theorem c_X4_holder (l : Launch) (nb nn : Nat) (g : xG) (L : List (Nat × Nat)) (M : xM) (hD : xD g L) (hL : xEL nb nn L) (i0 : Nat) (hi0 : i0 < nn) : xCi l yX4_holder cX4_holder 1 (some .int) 0 g L M [.ref (xad g 29 i0)] (fun r u => r = f_X4_holder i0 M ∧ u = M) := by
  intro sz
  refine x_beg (by decide +kernel) rfl ?_
  intro p e s m args below meth c ls hsz hB
  subst hsz
  obtain ⟨hx, hb, hml, hown, hts, hr, hlk, hK, hAm, hP, hl⟩ := hB
  have S : CallFix p m c cX4_holder 1 s args (xws yX4_holder cX4_holder 1 (some .int)) RX4 := ⟨hx, hb, hml, hown, hts⟩
  have hown : s.vm.findClass RX4 = some m.cls := hown
  have hl : lv_has ls 1 [(0, .ref (xad g 29 i0))] := hl
  have hS : va_S (xA g L s.heap.size) s.heap s.heap [] := va_S.rf
  obtain ⟨F, hF⟩ : ∃ F, F = f_X4_holder i0 M := ⟨_, rfl⟩
  have hres := hF
  rw [f_X4_holder] at hres
  refine lv_aload_n hx hb dX4_holder_0 rfl (lv_at hl 0 rfl) ?_
  refine gf_RX4_11 hx hb hts hown hK hP (hL 29 i0 hi0) dX4_holder_1 ?_
  refine lv_if_ne (tgt := 14) hx hb dX4_holder_4 (by decide) (fun c_1 => ?_) (fun c_1 => ?_)
  · replace hres := hres.trans (if_neg c_1)
    refine lv_ldc (own := RX4) (v := (-1000000)) hx hb hown (hts _ (List.mem_cons_of_mem _ wd_688)) dX4_holder_14 ?_
    exact x_reti hx hb hr hlk hP hS ⟨hres.symm.trans hF, rfl⟩ dX4_holder_16
  · replace hres := hres.trans (if_pos c_1)
    refine lv_aload_n hx hb dX4_holder_7 rfl (lv_at hl 0 rfl) ?_
    refine gf_RX4_23 hx hb hts hown hK hP (hL 29 i0 hi0) dX4_holder_8 ?_
    refine lv_goto (tgt := 16) hx hb dX4_holder_11 (by decide) ?_
    exact x_reti hx hb hr hlk hP hS ⟨hres.symm.trans hF, rfl⟩ dX4_holder_16
set_option maxHeartbeats 4000000 in
set_option maxRecDepth 100000 in
theorem c_X4_isFullOfHands (l : Launch) (nb nn : Nat) (g : xG) (L : List (Nat × Nat)) (M : xM) (hD : xD g L) (hL : xEL nb nn L) (i0 : Nat) (hi0 : i0 < nn) : xCi l yX4_isFullOfHands cX4_isFullOfHands 1 (some .boolean) 0 g L M [.ref (xad g 29 i0)] (fun r u => r = xb (f_X4_isFullOfHands i0 M) ∧ u = M) := by
  intro sz
  refine x_beg (by decide +kernel) rfl ?_
  intro p e s m args below meth c ls hsz hB
  subst hsz
  obtain ⟨hx, hb, hml, hown, hts, hr, hlk, hK, hAm, hP, hl⟩ := hB
  have S : CallFix p m c cX4_isFullOfHands 1 s args (xws yX4_isFullOfHands cX4_isFullOfHands 1 (some .boolean)) RX4 := ⟨hx, hb, hml, hown, hts⟩
  have hown : s.vm.findClass RX4 = some m.cls := hown
  have hl : lv_has ls 1 [(0, .ref (xad g 29 i0))] := hl
  have hS : va_S (xA g L s.heap.size) s.heap s.heap [] := va_S.rf
  obtain ⟨F, hF⟩ : ∃ F, F = f_X4_isFullOfHands i0 M := ⟨_, rfl⟩
  have hres := hF
  rw [f_X4_isFullOfHands] at hres
  refine lv_aload_n hx hb dX4_isFullOfHands_0 rfl (lv_at hl 0 rfl) ?_
  refine gf_RX4_15 hx hb hts hown hK hP (hL 29 i0 hi0) dX4_isFullOfHands_1 ?_
  refine lv_bipush (v := 12) hx hb dX4_isFullOfHands_4 (by decide) ?_
  refine lv_icmp_lt (tgt := 13) hx hb dX4_isFullOfHands_6 (by decide) (fun c_1 => ?_) (fun c_1 => ?_)
  · replace hres := hres.trans (if_pos c_1)
    refine lv_iconst (v := 0) hx hb dX4_isFullOfHands_13 (by decide) ?_
    exact x_retz hx hb hr hlk hP hS rfl ⟨(congrArg xb (hres.symm.trans hF)), rfl⟩ dX4_isFullOfHands_14
  · replace hres := hres.trans (if_neg c_1)
    refine lv_iconst (v := 1) hx hb dX4_isFullOfHands_9 (by decide) ?_
    refine lv_goto (tgt := 14) hx hb dX4_isFullOfHands_10 (by decide) ?_
    exact x_retz hx hb hr hlk hP hS rfl ⟨(congrArg xb (hres.symm.trans hF)), rfl⟩ dX4_isFullOfHands_14
set_option maxHeartbeats 4000000 in
set_option maxRecDepth 100000 in
theorem c_X4_halfHolder (l : Launch) (nb nn : Nat) (g : xG) (L : List (Nat × Nat)) (M : xM) (hD : xD g L) (hL : xEL nb nn L) (i0 : Nat) (p0 : Int32) (hi0 : i0 < nn) : xCi l yX4_halfHolder cX4_halfHolder 2 (some .int) 0 g L M [.ref (xad g 29 i0), .int p0] (fun r u => r = f_X4_halfHolder i0 p0 M ∧ u = M) := by
  intro sz
  refine x_beg (by decide +kernel) rfl ?_
  intro p e s m args below meth c ls hsz hB
  subst hsz
  obtain ⟨hx, hb, hml, hown, hts, hr, hlk, hK, hAm, hP, hl⟩ := hB
  have S : CallFix p m c cX4_halfHolder 2 s args (xws yX4_halfHolder cX4_halfHolder 2 (some .int)) RX4 := ⟨hx, hb, hml, hown, hts⟩
  have hown : s.vm.findClass RX4 = some m.cls := hown
  have hl : lv_has ls 2 [(0, .ref (xad g 29 i0)), (1, .int p0)] := hl
  have hS : va_S (xA g L s.heap.size) s.heap s.heap [] := va_S.rf
  obtain ⟨F, hF⟩ : ∃ F, F = f_X4_halfHolder i0 p0 M := ⟨_, rfl⟩
  have hres := hF
  rw [f_X4_halfHolder] at hres
  refine lv_iload_n hx hb dX4_halfHolder_0 rfl (lv_at hl 1 rfl) ?_
  refine lv_if_ne (tgt := 11) hx hb dX4_halfHolder_1 (by decide) (fun c_1 => ?_) (fun c_1 => ?_)
  · replace hres := hres.trans (if_neg c_1)
    refine lv_aload_n hx hb dX4_halfHolder_11 rfl (lv_at hl 0 rfl) ?_
    refine gf_RX4_29 hx hb hts hown hK hP (hL 29 i0 hi0) dX4_halfHolder_12 ?_
    exact x_reti hx hb hr hlk hP hS ⟨hres.symm.trans hF, rfl⟩ dX4_halfHolder_15
  · replace hres := hres.trans (if_pos c_1)
    refine lv_aload_n hx hb dX4_halfHolder_4 rfl (lv_at hl 0 rfl) ?_
    refine gf_RX4_26 hx hb hts hown hK hP (hL 29 i0 hi0) dX4_halfHolder_5 ?_
    refine lv_goto (tgt := 15) hx hb dX4_halfHolder_8 (by decide) ?_
    exact x_reti hx hb hr hlk hP hS ⟨hres.symm.trans hF, rfl⟩ dX4_halfHolder_15
set_option maxHeartbeats 4000000 in
set_option maxRecDepth 100000 in
theorem c_X4_wouldBePaid (l : Launch) (nb nn : Nat) (g : xG) (L : List (Nat × Nat)) (M : xM) (hD : xD g L) (hL : xEL nb nn L) (i0 : Nat) (hi0 : i0 < nn) : xCi l yX4_wouldBePaid cX4_wouldBePaid 1 (some .int) 0 g L M [.ref (xad g 29 i0)] (fun r u => r = f_X4_wouldBePaid i0 M ∧ u = M) := by
  intro sz
  refine x_beg (by decide +kernel) rfl ?_
  intro p e s m args below meth c ls hsz hB
  subst hsz
  obtain ⟨hx, hb, hml, hown, hts, hr, hlk, hK, hAm, hP, hl⟩ := hB
  have S : CallFix p m c cX4_wouldBePaid 1 s args (xws yX4_wouldBePaid cX4_wouldBePaid 1 (some .int)) RX4 := ⟨hx, hb, hml, hown, hts⟩
  have hown : s.vm.findClass RX4 = some m.cls := hown
  have hl : lv_has ls 1 [(0, .ref (xad g 29 i0))] := hl
  have hS : va_S (xA g L s.heap.size) s.heap s.heap [] := va_S.rf
  obtain ⟨F, hF⟩ : ∃ F, F = f_X4_wouldBePaid i0 M := ⟨_, rfl⟩
  have hres := hF
  rw [f_X4_wouldBePaid] at hres
  refine lv_aload_n hx hb dX4_wouldBePaid_0 rfl (lv_at hl 0 rfl) ?_
  refine gf_RX4_11 hx hb hts hown hK hP (hL 29 i0 hi0) dX4_wouldBePaid_1 ?_
  refine lv_iconst (v := 2) hx hb dX4_wouldBePaid_4 (by decide) ?_
  refine lv_icmp_ne (tgt := 10) hx hb dX4_wouldBePaid_5 (by decide) (fun c_1 => ?_) (fun c_1 => ?_)
  · replace hres := hres.trans (if_neg c_1)
    refine lv_aload_n hx hb dX4_wouldBePaid_10 rfl (lv_at hl 0 rfl) ?_
    refine gf_RX4_11 hx hb hts hown hK hP (hL 29 i0 hi0) dX4_wouldBePaid_11 ?_
    refine lv_iconst (v := 3) hx hb dX4_wouldBePaid_14 (by decide) ?_
    refine lv_icmp_eq (tgt := 23) hx hb dX4_wouldBePaid_15 (by decide) (fun c_2 => ?_) (fun c_2 => ?_)
    · replace hres := hres.trans (if_pos c_2)
      refine lv_aload_n hx hb dX4_wouldBePaid_23 rfl (lv_at hl 0 rfl) ?_
      refine gf_RX4_26 hx hb hts hown hK hP (hL 29 i0 hi0) dX4_wouldBePaid_24 ?_
      refine lv_ldc (own := RX4) (v := (-1000000)) hx hb hown (hts _ (List.mem_cons_of_mem _ wd_688)) dX4_wouldBePaid_27 ?_
      refine lv_icmp_eq (tgt := 41) hx hb dX4_wouldBePaid_29 (by decide) (fun c_3 => ?_) (fun c_3 => ?_)
      · replace hres := hres.trans (if_pos c_3)
        refine lv_aload_n hx hb dX4_wouldBePaid_41 rfl (lv_at hl 0 rfl) ?_
        refine gf_RX4_45 hx hb hts hown hK hP (hL 29 i0 hi0) dX4_wouldBePaid_42 ?_
        refine lv_iconst (v := 2) hx hb dX4_wouldBePaid_45 (by decide) ?_
        refine lv_idiv hx hb dX4_wouldBePaid_46 (by decide) ?_
        refine lv_goto (tgt := 51) hx hb dX4_wouldBePaid_47 (by decide) ?_
        exact x_reti hx hb hr hlk hP hS ⟨hres.symm.trans hF, rfl⟩ dX4_wouldBePaid_51
      · replace hres := hres.trans (if_neg c_3)
        refine lv_aload_n hx hb dX4_wouldBePaid_32 rfl (lv_at hl 0 rfl) ?_
        refine gf_RX4_29 hx hb hts hown hK hP (hL 29 i0 hi0) dX4_wouldBePaid_33 ?_
        refine lv_ldc (own := RX4) (v := (-1000000)) hx hb hown (hts _ (List.mem_cons_of_mem _ wd_688)) dX4_wouldBePaid_36 ?_
        refine lv_icmp_ne (tgt := 50) hx hb dX4_wouldBePaid_38 (by decide) (fun c_4 => ?_) (fun c_4 => ?_)
        · replace hres := hres.trans (if_neg c_4)
          refine lv_iconst (v := 0) hx hb dX4_wouldBePaid_50 (by decide) ?_
          exact x_reti hx hb hr hlk hP hS ⟨hres.symm.trans hF, rfl⟩ dX4_wouldBePaid_51
        · replace hres := hres.trans (if_pos c_4)
          refine lv_aload_n hx hb dX4_wouldBePaid_41 rfl (lv_at hl 0 rfl) ?_
          refine gf_RX4_45 hx hb hts hown hK hP (hL 29 i0 hi0) dX4_wouldBePaid_42 ?_
          refine lv_iconst (v := 2) hx hb dX4_wouldBePaid_45 (by decide) ?_
          refine lv_idiv hx hb dX4_wouldBePaid_46 (by decide) ?_
          refine lv_goto (tgt := 51) hx hb dX4_wouldBePaid_47 (by decide) ?_
          exact x_reti hx hb hr hlk hP hS ⟨hres.symm.trans hF, rfl⟩ dX4_wouldBePaid_51
    · replace hres := hres.trans (if_neg c_2)
      refine lv_aload_n hx hb dX4_wouldBePaid_18 rfl (lv_at hl 0 rfl) ?_
      refine gf_RX4_45 hx hb hts hown hK hP (hL 29 i0 hi0) dX4_wouldBePaid_19 ?_
      exact x_reti hx hb hr hlk hP hS ⟨hres.symm.trans hF, rfl⟩ dX4_wouldBePaid_22
  · replace hres := hres.trans (if_pos c_1)
    refine lv_iconst (v := 0) hx hb dX4_wouldBePaid_8 (by decide) ?_
    exact x_reti hx hb hr hlk hP hS ⟨hres.symm.trans hF, rfl⟩ dX4_wouldBePaid_9
set_option maxHeartbeats 4000000 in
set_option maxRecDepth 100000 in
theorem c_X4_halve (l : Launch) (nb nn : Nat) (g : xG) (L : List (Nat × Nat)) (M : xM) (hD : xD g L) (hL : xEL nb nn L) (i0 : Nat) (p0 : Int32) (hi0 : i0 < nn) : xCv l yX4_halve cX4_halve 2 0 g L M [.ref (xad g 29 i0), .int p0] (fun u => u = f_X4_halve i0 p0 M) := by
  intro sz
  refine x_beg (by decide +kernel) rfl ?_
  intro p e s m args below meth c ls hsz hB
  subst hsz
  obtain ⟨hx, hb, hml, hown, hts, hr, hlk, hK, hAm, hP, hl⟩ := hB
  have S : CallFix p m c cX4_halve 2 s args (xws yX4_halve cX4_halve 2 none) RX4 := ⟨hx, hb, hml, hown, hts⟩
  have hown : s.vm.findClass RX4 = some m.cls := hown
  have hl : lv_has ls 2 [(0, .ref (xad g 29 i0)), (1, .int p0)] := hl
  have hS : va_S (xA g L s.heap.size) s.heap s.heap [] := va_S.rf
  obtain ⟨F, hF⟩ : ∃ F, F = f_X4_halve i0 p0 M := ⟨_, rfl⟩
  have hres := hF
  rw [f_X4_halve] at hres
  refine lv_aload_n hx hb dX4_halve_0 rfl (lv_at hl 0 rfl) ?_
  refine lv_aload_n hx hb dX4_halve_1 rfl (lv_at hl 0 rfl) ?_
  refine gf_RX4_23 hx hb hts hown hK hP (hL 29 i0 hi0) dX4_halve_2 ?_
  refine lv_topi (fun v_1 ev_1 => ?_)
  replace hres := xlet_n hres ev_1
  refine pf_RX4_26 hx hb hts hown hK hP hD hS (hL 29 i0 hi0) dX4_halve_5 (fun H locs hP hS => ?_)
  obtain ⟨M_2, eM_2⟩ : ∃ z_ : xM, z_ = xup M 29 i0 9 v_1 := ⟨_, rfl⟩
  rw [← eM_2] at hP
  replace hres := xlet_n hres eM_2
  refine lv_aload_n hx hb dX4_halve_8 rfl (lv_at hl 0 rfl) ?_
  refine lv_iload_n hx hb dX4_halve_9 rfl (lv_at hl 1 rfl) ?_
  refine pf_RX4_29 hx hb hts hown hK hP hD hS (hL 29 i0 hi0) dX4_halve_10 (fun H locs hP hS => ?_)
  obtain ⟨M_3, eM_3⟩ : ∃ z_ : xM, z_ = xup M_2 29 i0 10 p0 := ⟨_, rfl⟩
  rw [← eM_3] at hP
  replace hres := xlet_n hres eM_3
  refine lv_aload_n hx hb dX4_halve_13 rfl (lv_at hl 0 rfl) ?_
  refine lv_iconst (v := 1) hx hb dX4_halve_14 (by decide) ?_
  refine pf_RX4_18 hx hb hts hown hK hP hD hS (hL 29 i0 hi0) (by first | rfl | decide) (by first | rfl | decide) dX4_halve_15 (fun H locs hP hS => ?_)
  obtain ⟨M_4, eM_4⟩ : ∃ z_ : xM, z_ = xup M_3 29 i0 7 1 := ⟨_, rfl⟩
  rw [← eM_4] at hP
  replace hres := xlet_n hres eM_4
  refine lv_aload_n hx hb dX4_halve_18 rfl (lv_at hl 0 rfl) ?_
  refine lv_iconst (v := 3) hx hb dX4_halve_19 (by decide) ?_
  refine pf_RX4_11 hx hb hts hown hK hP hD hS (hL 29 i0 hi0) dX4_halve_20 (fun H locs hP hS => ?_)
  obtain ⟨M_5, eM_5⟩ : ∃ z_ : xM, z_ = xup M_4 29 i0 5 3 := ⟨_, rfl⟩
  rw [← eM_5] at hP
  replace hres := xlet_n hres eM_5
  exact x_retv hx hb hr hlk hP hS (hres.symm.trans hF) dX4_halve_23
set_option maxHeartbeats 4000000 in
set_option maxRecDepth 100000 in
theorem c_X4_handOn (l : Launch) (nb nn : Nat) (g : xG) (L : List (Nat × Nat)) (M : xM) (hD : xD g L) (hL : xEL nb nn L) (i0 : Nat) (to : Int32) (week : Int32) (hi0 : i0 < nn) : xCv l yX4_handOn cX4_handOn 4 0 g L M [.ref (xad g 29 i0), .int to, .int week] (fun u => u = f_X4_handOn i0 to week M) := by
  intro sz
  refine x_beg (by decide +kernel) rfl ?_
  intro p e s m args below meth c ls hsz hB
  subst hsz
  obtain ⟨hx, hb, hml, hown, hts, hr, hlk, hK, hAm, hP, hl⟩ := hB
  have S : CallFix p m c cX4_handOn 4 s args (xws yX4_handOn cX4_handOn 4 none) RX4 := ⟨hx, hb, hml, hown, hts⟩
  have hown : s.vm.findClass RX4 = some m.cls := hown
  have hl : lv_has ls 4 [(0, .ref (xad g 29 i0)), (1, .int to), (2, .int week)] := hl
  have hS : va_S (xA g L s.heap.size) s.heap s.heap [] := va_S.rf
  obtain ⟨F, hF⟩ : ∃ F, F = f_X4_handOn i0 to week M := ⟨_, rfl⟩
  have hres := hF
  rw [f_X4_handOn] at hres
  refine lv_aload_n hx hb dX4_handOn_0 rfl (lv_at hl 0 rfl) ?_
  refine lv_iconst (v := 0) hx hb dX4_handOn_1 (by decide) ?_
  refine pf_RX4_11 hx hb hts hown hK hP hD hS (hL 29 i0 hi0) dX4_handOn_2 (fun H locs hP hS => ?_)
  obtain ⟨M_1, eM_1⟩ : ∃ z_ : xM, z_ = xup M 29 i0 5 0 := ⟨_, rfl⟩
  rw [← eM_1] at hP
  replace hres := xlet_n hres eM_1
  refine lv_aload_n hx hb dX4_handOn_5 rfl (lv_at hl 0 rfl) ?_
  refine lv_iload_n hx hb dX4_handOn_6 rfl (lv_at hl 1 rfl) ?_
  refine pf_RX4_23 hx hb hts hown hK hP hD hS (hL 29 i0 hi0) dX4_handOn_7 (fun H locs hP hS => ?_)
  obtain ⟨M_2, eM_2⟩ : ∃ z_ : xM, z_ = xup M_1 29 i0 8 to := ⟨_, rfl⟩
  rw [← eM_2] at hP
  replace hres := xlet_n hres eM_2
  refine lv_aload_n hx hb dX4_handOn_10 rfl (lv_at hl 0 rfl) ?_
  refine gf_RX4_15 hx hb hts hown hK hP (hL 29 i0 hi0) dX4_handOn_11 ?_
  refine lv_topi (fun x3_3 ex3_3 => ?_)
  replace hres := xlet_n hres ex3_3
  refine lv_istore_n (lv' := [(3, .int x3_3), (0, .ref (xad g 29 i0)), (1, .int to), (2, .int week)]) hx hb dX4_handOn_14 rfl hl (by decide) rfl (fun ls hl => ?_)
  refine lv_iload_n hx hb dX4_handOn_15 rfl (lv_at hl 0 rfl) ?_
  refine lv_if_lt (tgt := 46) hx hb dX4_handOn_16 (by decide) (fun c_4 => ?_) (fun c_4 => ?_)
  · replace hres := hres.trans (if_pos c_4)
    exact x_retv hx hb hr hlk hP hS (hres.symm.trans hF) dX4_handOn_46
  · replace hres := hres.trans (if_neg c_4)
    refine lv_iload_n hx hb dX4_handOn_19 rfl (lv_at hl 0 rfl) ?_
    refine lv_bipush (v := 12) hx hb dX4_handOn_20 (by decide) ?_
    refine lv_icmp_ge (tgt := 46) hx hb dX4_handOn_22 (by decide) (fun c_5 => ?_) (fun c_5 => ?_)
    · replace hres := hres.trans (if_pos c_5)
      exact x_retv hx hb hr hlk hP hS (hres.symm.trans hF) dX4_handOn_46
    · replace hres := hres.trans (if_neg c_5)
      refine lv_aload_n hx hb dX4_handOn_25 rfl (lv_at hl 1 rfl) ?_
      refine gf_RX4_32 hx hb hts hown hK hP (hL 29 i0 hi0) dX4_handOn_26 ?_
      refine lv_iload_n hx hb dX4_handOn_29 rfl (lv_at hl 0 rfl) ?_
      refine lv_iload_n hx hb dX4_handOn_30 rfl (lv_at hl 2 rfl) ?_
      refine x_iast hx hb hK hP hD hS (hL 30 i0 hi0) (xc30 g i0) (ob_X4_handOn_31_in nb nn i0 to week M hi0 M_1 eM_1 M_2 eM_2 x3_3 ex3_3 c_4 c_5) dX4_handOn_31 (fun H locs hP hS => ?_)
      obtain ⟨M_6, eM_6⟩ : ∃ z_ : xM, z_ = xup M_2 30 i0 x3_3.toNatClampNeg to := ⟨_, rfl⟩
      rw [← eM_6] at hP
      replace hres := xlet_n hres eM_6
      refine lv_aload_n hx hb dX4_handOn_32 rfl (lv_at hl 1 rfl) ?_
      refine gf_RX4_36 hx hb hts hown hK hP (hL 29 i0 hi0) dX4_handOn_33 ?_
      refine lv_iload_n hx hb dX4_handOn_36 rfl (lv_at hl 0 rfl) ?_
      refine lv_iload_n hx hb dX4_handOn_37 rfl (lv_at hl 3 rfl) ?_
      refine x_iast hx hb hK hP hD hS (hL 31 i0 hi0) (xc31 g i0) (ob_X4_handOn_38_in nb nn i0 to week M hi0 M_1 eM_1 M_2 eM_2 x3_3 ex3_3 c_4 c_5 M_6 eM_6) dX4_handOn_38 (fun H locs hP hS => ?_)
      obtain ⟨M_7, eM_7⟩ : ∃ z_ : xM, z_ = xup M_6 31 i0 x3_3.toNatClampNeg week := ⟨_, rfl⟩
      rw [← eM_7] at hP
      replace hres := xlet_n hres eM_7
      refine lv_aload_n hx hb dX4_handOn_39 rfl (lv_at hl 1 rfl) ?_
      refine lv_iload_n hx hb dX4_handOn_40 rfl (lv_at hl 0 rfl) ?_
      refine lv_iconst (v := 1) hx hb dX4_handOn_41 (by decide) ?_
      refine lv_iadd hx hb dX4_handOn_42 ?_
      refine lv_topi (fun v_8 ev_8 => ?_)
      replace hres := xlet_n hres ev_8
      refine pf_RX4_15 hx hb hts hown hK hP hD hS (hL 29 i0 hi0) dX4_handOn_43 (fun H locs hP hS => ?_)
      obtain ⟨M_9, eM_9⟩ : ∃ z_ : xM, z_ = xup M_7 29 i0 6 v_8 := ⟨_, rfl⟩
      rw [← eM_9] at hP
      replace hres := xlet_n hres eM_9
      exact x_retv hx hb hr hlk hP hS (hres.symm.trans hF) dX4_handOn_46
set_option maxHeartbeats 4000000 in
set_option maxRecDepth 100000 in
theorem c_X4_handTrader (l : Launch) (nb nn : Nat) (g : xG) (L : List (Nat × Nat)) (M : xM) (hD : xD g L) (hL : xEL nb nn L) (i0 : Nat) (i : Int32) (hi0 : i0 < nn) (hp0 : M 29 i0 6 ≤ 12) : xCi l yX4_handTrader cX4_handTrader 2 (some .int) 0 g L M [.ref (xad g 29 i0), .int i] (fun r u => r = f_X4_handTrader i0 i M ∧ u = M) := by
  intro sz
  refine x_beg (by decide +kernel) rfl ?_
  intro p e s m args below meth c ls hsz hB
  subst hsz
  obtain ⟨hx, hb, hml, hown, hts, hr, hlk, hK, hAm, hP, hl⟩ := hB
  have S : CallFix p m c cX4_handTrader 2 s args (xws yX4_handTrader cX4_handTrader 2 (some .int)) RX4 := ⟨hx, hb, hml, hown, hts⟩
  have hown : s.vm.findClass RX4 = some m.cls := hown
  have hl : lv_has ls 2 [(0, .ref (xad g 29 i0)), (1, .int i)] := hl
  have hS : va_S (xA g L s.heap.size) s.heap s.heap [] := va_S.rf
  obtain ⟨F, hF⟩ : ∃ F, F = f_X4_handTrader i0 i M := ⟨_, rfl⟩
  have hres := hF
  rw [f_X4_handTrader] at hres
  refine lv_iload_n hx hb dX4_handTrader_0 rfl (lv_at hl 1 rfl) ?_
  refine lv_if_lt (tgt := 21) hx hb dX4_handTrader_1 (by decide) (fun c_1 => ?_) (fun c_1 => ?_)
  · replace hres := hres.trans (if_pos c_1)
    refine lv_ldc (own := RX4) (v := (-1000000)) hx hb hown (hts _ (List.mem_cons_of_mem _ wd_688)) dX4_handTrader_21 ?_
    exact x_reti hx hb hr hlk hP hS ⟨hres.symm.trans hF, rfl⟩ dX4_handTrader_23
  · replace hres := hres.trans (if_neg c_1)
    refine lv_iload_n hx hb dX4_handTrader_4 rfl (lv_at hl 1 rfl) ?_
    refine lv_aload_n hx hb dX4_handTrader_5 rfl (lv_at hl 0 rfl) ?_
    refine gf_RX4_15 hx hb hts hown hK hP (hL 29 i0 hi0) dX4_handTrader_6 ?_
    refine lv_icmp_ge (tgt := 21) hx hb dX4_handTrader_9 (by decide) (fun c_2 => ?_) (fun c_2 => ?_)
    · replace hres := hres.trans (if_pos c_2)
      refine lv_ldc (own := RX4) (v := (-1000000)) hx hb hown (hts _ (List.mem_cons_of_mem _ wd_688)) dX4_handTrader_21 ?_
      exact x_reti hx hb hr hlk hP hS ⟨hres.symm.trans hF, rfl⟩ dX4_handTrader_23
    · replace hres := hres.trans (if_neg c_2)
      refine lv_aload_n hx hb dX4_handTrader_12 rfl (lv_at hl 0 rfl) ?_
      refine gf_RX4_32 hx hb hts hown hK hP (hL 29 i0 hi0) dX4_handTrader_13 ?_
      refine lv_iload_n hx hb dX4_handTrader_16 rfl (lv_at hl 1 rfl) ?_
      refine x_iald hx hb hK hP (hL 30 i0 hi0) (xc30 g i0) (ob_X4_handTrader_17_in nb nn i0 i M hi0 hp0 c_1 c_2) dX4_handTrader_17 ?_
      refine lv_goto (tgt := 23) hx hb dX4_handTrader_18 (by decide) ?_
      exact x_reti hx hb hr hlk hP hS ⟨hres.symm.trans hF, rfl⟩ dX4_handTrader_23
set_option maxHeartbeats 4000000 in
set_option maxRecDepth 100000 in
theorem c_X4_handWeek (l : Launch) (nb nn : Nat) (g : xG) (L : List (Nat × Nat)) (M : xM) (hD : xD g L) (hL : xEL nb nn L) (i0 : Nat) (i : Int32) (hi0 : i0 < nn) (hp0 : M 29 i0 6 ≤ 12) : xCi l yX4_handWeek cX4_handWeek 2 (some .int) 0 g L M [.ref (xad g 29 i0), .int i] (fun r u => r = f_X4_handWeek i0 i M ∧ u = M) := by
  intro sz
  refine x_beg (by decide +kernel) rfl ?_
  intro p e s m args below meth c ls hsz hB
  subst hsz
  obtain ⟨hx, hb, hml, hown, hts, hr, hlk, hK, hAm, hP, hl⟩ := hB
  have S : CallFix p m c cX4_handWeek 2 s args (xws yX4_handWeek cX4_handWeek 2 (some .int)) RX4 := ⟨hx, hb, hml, hown, hts⟩
  have hown : s.vm.findClass RX4 = some m.cls := hown
  have hl : lv_has ls 2 [(0, .ref (xad g 29 i0)), (1, .int i)] := hl
  have hS : va_S (xA g L s.heap.size) s.heap s.heap [] := va_S.rf
  obtain ⟨F, hF⟩ : ∃ F, F = f_X4_handWeek i0 i M := ⟨_, rfl⟩
  have hres := hF
  rw [f_X4_handWeek] at hres
  refine lv_iload_n hx hb dX4_handWeek_0 rfl (lv_at hl 1 rfl) ?_
  refine lv_if_lt (tgt := 21) hx hb dX4_handWeek_1 (by decide) (fun c_1 => ?_) (fun c_1 => ?_)
  · replace hres := hres.trans (if_pos c_1)
    refine lv_ldc (own := RX4) (v := (-1000000)) hx hb hown (hts _ (List.mem_cons_of_mem _ wd_688)) dX4_handWeek_21 ?_
    exact x_reti hx hb hr hlk hP hS ⟨hres.symm.trans hF, rfl⟩ dX4_handWeek_23
  · replace hres := hres.trans (if_neg c_1)
    refine lv_iload_n hx hb dX4_handWeek_4 rfl (lv_at hl 1 rfl) ?_
    refine lv_aload_n hx hb dX4_handWeek_5 rfl (lv_at hl 0 rfl) ?_
    refine gf_RX4_15 hx hb hts hown hK hP (hL 29 i0 hi0) dX4_handWeek_6 ?_
    refine lv_icmp_ge (tgt := 21) hx hb dX4_handWeek_9 (by decide) (fun c_2 => ?_) (fun c_2 => ?_)
    · replace hres := hres.trans (if_pos c_2)
      refine lv_ldc (own := RX4) (v := (-1000000)) hx hb hown (hts _ (List.mem_cons_of_mem _ wd_688)) dX4_handWeek_21 ?_
      exact x_reti hx hb hr hlk hP hS ⟨hres.symm.trans hF, rfl⟩ dX4_handWeek_23
    · replace hres := hres.trans (if_neg c_2)
      refine lv_aload_n hx hb dX4_handWeek_12 rfl (lv_at hl 0 rfl) ?_
      refine gf_RX4_36 hx hb hts hown hK hP (hL 29 i0 hi0) dX4_handWeek_13 ?_
      refine lv_iload_n hx hb dX4_handWeek_16 rfl (lv_at hl 1 rfl) ?_
      refine x_iald hx hb hK hP (hL 31 i0 hi0) (xc31 g i0) (ob_X4_handWeek_17_in nb nn i0 i M hi0 hp0 c_1 c_2) dX4_handWeek_17 ?_
      refine lv_goto (tgt := 23) hx hb dX4_handWeek_18 (by decide) ?_
      exact x_reti hx hb hr hlk hP hS ⟨hres.symm.trans hF, rfl⟩ dX4_handWeek_23
