def f_X11_in (v : Int64) (low : Int64) (high : Int64) (M : xM) : Bool :=
  if (lg_cmp v low) < 0 then false else if 0 < (lg_cmp v high) then false else true
def f_X11_finding (number : Int32) (M : xM) : Int32 × xM :=
  xlet (xup M 40 0 1 number) fun M_1 => (((-1000010) - number), M_1)
def f_X11_isSheet (q : Int32) (M : xM) : Bool :=
  xlet (xb (f_X11_in (q.toInt64) 0 7 M)) fun r_1 => (f_X11_in (q.toInt64) 0 7 M)
def f_X11_isTown (q : Int32) (M : xM) : Bool :=
  xlet (xb (f_X11_in (q.toInt64) 0 5 M)) fun r_1 => (f_X11_in (q.toInt64) 0 5 M)
def f_X11_isWeek (q : Int32) (M : xM) : Bool :=
  xlet (xb (f_X11_in (q.toInt64) 0 299 M)) fun r_1 => (f_X11_in (q.toInt64) 0 299 M)
def f_X11_isTrader (q : Int32) (M : xM) : Bool :=
  xlet (xb (f_X11_in (q.toInt64) 0 7 M)) fun r_1 => (f_X11_in (q.toInt64) 0 7 M)
def f_X11_isLetter (q : Int32) (M : xM) : Bool :=
  if q < 97 then false else if 122 < q then false else true
def f_X11_isFigure (q : Int32) (M : xM) : Bool :=
  if q < 48 then false else if 57 < q then false else true
def f_X11_isOf (is_ : Int32) (of_ : Int32) (M : xM) : Bool :=
  if of_ = 0 then true else if is_ = of_ then true else if of_ = 2 then if is_ = 3 then true else false else false
def f_X11_bits_L4 (set_ : Int32) (M : xM) : Nat → Int32 → Int32 → (Int32 → Int32 → Int32) → Int32
  | 0, _, _, _ => 0
  | n + 1, n_, k, kx => if 8 ≤ k then kx n_ k else xlet (n_ + ((set_ >>> (k &&& 31)) &&& 1)) fun x1_2 => xlet (k + 1) fun x2_3 => f_X11_bits_L4 set_ M n x1_2 x2_3 kx
def f_X11_bits (set_ : Int32) (M : xM) : Int32 :=
  f_X11_bits_L4 set_ M (xmu (0 : Int32) 8 + 1) (0 : Int32) (0 : Int32) (fun n__4 k_5 => n__4)
def f_X11_began (body : Int32) (M : xM) : xM :=
  if 16 ≤ (M 40 0 50) then M else xlet (xup M 99 0 (M 40 0 50).toNatClampNeg body) fun M_2 => xlet ((M_2 40 0 50) + 1) fun v_3 => xlet (xup M_2 40 0 50 v_3) fun M_4 => M_4
def f_X11_bad (k : Int32) (M : xM) : xM :=
  if (M 40 0 28) = 0 then xlet (xup M 40 0 28 k) fun M_2 => xlet (M_2 40 0 26) fun v_3 => xlet (xup M_2 40 0 29 v_3) fun M_4 => M_4 else M
def f_X11_isBank (b : Int32) (M : xM) : Bool :=
  xlet (xb (f_X11_in (b.toInt64) 0 (((M 40 0 7) - 1).toInt64) M)) fun r_1 => (f_X11_in (b.toInt64) 0 (((M 40 0 7) - 1).toInt64) M)
def f_X11_isNote (q : Int32) (M : xM) : Bool :=
  xlet (xb (f_X11_in (q.toInt64) 0 (((M 40 0 30) - 1).toInt64) M)) fun r_1 => (f_X11_in (q.toInt64) 0 (((M 40 0 30) - 1).toInt64) M)
theorem ob_X11_bits_4_mu_3 (nb nn : Nat) (set_ : Int32) (M : xM) (n : Nat) (n_ : Int32) (k : Int32) (hmu : xmu k 8 < n + 1) (hinv : True) (c_1 : ¬ 8 ≤ k) (x1_2 : Int32) (ex1_2 : x1_2 = (n_ + ((set_ >>> (k &&& 31)) &&& 1))) (x2_3 : Int32) (ex2_3 : x2_3 = k + 1) : xmu x2_3 8 < n := by
  subst_vars
  have h9 := xmu_up (a := k) (b := 8) (by grind)
  (try simp [xup_at])
  omega
theorem ob_X11_began_18_in (nb nn : Nat) (body : Int32) (M : xM) (hp0 : 0 ≤ M 40 0 50) (c_1 : ¬ 16 ≤ (M 40 0 50)) : vp_in (M 40 0 50) 16 := by
  exact xin (N := 16) (by grind) (by grind) (by decide)
set_option maxHeartbeats 4000000 in
set_option maxRecDepth 100000 in
theorem c_X11_in (l : Launch) (nb nn : Nat) (g : xG) (L : List (Nat × Nat)) (M : xM) (hD : xD g L) (hL : xEL nb nn L) (v : Int64) (low : Int64) (high : Int64)  : xCi l yX11_in cX11_in 6 (some .boolean) 0 g L M [.long v, .long low, .long high] (fun r u => r = xb (f_X11_in v low high M) ∧ u = M) := by
  intro sz
  refine x_beg (by decide +kernel) rfl ?_
  intro p e s m args below meth c ls hsz hB
  subst hsz
  obtain ⟨hx, hb, hml, hown, hts, hr, hlk, hK, hAm, hP, hl⟩ := hB
  have S : CallFix p m c cX11_in 6 s args (xws yX11_in cX11_in 6 (some .boolean)) RX11 := ⟨hx, hb, hml, hown, hts⟩
  have hown : s.vm.findClass RX11 = some m.cls := hown
  have hl : lv_has ls 6 [(0, .long v), (2, .long low), (4, .long high)] := hl
  have hS : va_S (xA g L s.heap.size) s.heap s.heap [] := va_S.rf
  obtain ⟨F, hF⟩ : ∃ F, F = f_X11_in v low high M := ⟨_, rfl⟩
  have hres := hF
  rw [f_X11_in] at hres
  refine lv_lload_n hx hb dX11_in_0 rfl (lv_at hl 0 rfl) ?_
  refine lv_lload_n hx hb dX11_in_1 rfl (lv_at hl 1 rfl) ?_
  refine W.lcmp hx hb dX11_in_2 ?_
  refine lv_if_lt (tgt := 17) hx hb dX11_in_3 (by decide) (fun c_1 => ?_) (fun c_1 => ?_)
  · replace hres := hres.trans (if_pos c_1)
    refine lv_iconst (v := 0) hx hb dX11_in_17 (by decide) ?_
    exact x_retz hx hb hr hlk hP hS rfl ⟨(congrArg xb (hres.symm.trans hF)), rfl⟩ dX11_in_18
  · replace hres := hres.trans (if_neg c_1)
    refine lv_lload_n hx hb dX11_in_6 rfl (lv_at hl 0 rfl) ?_
    refine lv_lload hx hb dX11_in_7 (lv_at hl 2 rfl) ?_
    refine W.lcmp hx hb dX11_in_9 ?_
    refine lv_if_gt (tgt := 17) hx hb dX11_in_10 (by decide) (fun c_2 => ?_) (fun c_2 => ?_)
    · replace hres := hres.trans (if_pos c_2)
      refine lv_iconst (v := 0) hx hb dX11_in_17 (by decide) ?_
      exact x_retz hx hb hr hlk hP hS rfl ⟨(congrArg xb (hres.symm.trans hF)), rfl⟩ dX11_in_18
    · replace hres := hres.trans (if_neg c_2)
      refine lv_iconst (v := 1) hx hb dX11_in_13 (by decide) ?_
      refine lv_goto (tgt := 18) hx hb dX11_in_14 (by decide) ?_
      exact x_retz hx hb hr hlk hP hS rfl ⟨(congrArg xb (hres.symm.trans hF)), rfl⟩ dX11_in_18
set_option maxHeartbeats 4000000 in
set_option maxRecDepth 100000 in
theorem c_X11_finding (l : Launch) (nb nn : Nat) (g : xG) (L : List (Nat × Nat)) (M : xM) (hD : xD g L) (hL : xEL nb nn L) (number : Int32)  : xCi l yX11_finding cX11_finding 2 (some .int) 0 g L M [.ref (xad g 40 0), .int number] (fun r u => (r, u) = f_X11_finding number M) := by
  intro sz
  refine x_beg (by decide +kernel) rfl ?_
  intro p e s m args below meth c ls hsz hB
  subst hsz
  obtain ⟨hx, hb, hml, hown, hts, hr, hlk, hK, hAm, hP, hl⟩ := hB
  have S : CallFix p m c cX11_finding 2 s args (xws yX11_finding cX11_finding 2 (some .int)) RX11 := ⟨hx, hb, hml, hown, hts⟩
  have hown : s.vm.findClass RX11 = some m.cls := hown
  have hl : lv_has ls 2 [(0, .ref (xad g 40 0)), (1, .int number)] := hl
  have hS : va_S (xA g L s.heap.size) s.heap s.heap [] := va_S.rf
  obtain ⟨F, hF⟩ : ∃ F, F = f_X11_finding number M := ⟨_, rfl⟩
  have hres := hF
  rw [f_X11_finding] at hres
  refine lv_aload_n hx hb dX11_finding_0 rfl (lv_at hl 0 rfl) ?_
  refine lv_iload_n hx hb dX11_finding_1 rfl (lv_at hl 1 rfl) ?_
  refine pf_RX11_117 hx hb hts hown hK hP hD hS (hL 40 0 (xe_40 nb nn)) dX11_finding_2 (fun H locs hP hS => ?_)
  obtain ⟨M_1, eM_1⟩ : ∃ z_ : xM, z_ = xup M 40 0 1 number := ⟨_, rfl⟩
  rw [← eM_1] at hP
  replace hres := xlet_n hres eM_1
  refine lv_ldc (own := RX11) (v := (-1000010)) hx hb hown (hts _ (List.mem_cons_of_mem _ wd_215)) dX11_finding_5 ?_
  refine lv_iload_n hx hb dX11_finding_7 rfl (lv_at hl 1 rfl) ?_
  refine lv_isub hx hb dX11_finding_8 ?_
  exact x_reti hx hb hr hlk hP hS (hres.symm.trans hF) dX11_finding_9
set_option maxHeartbeats 4000000 in
set_option maxRecDepth 100000 in
theorem c_X11_isSheet (l : Launch) (nb nn : Nat) (g : xG) (L : List (Nat × Nat)) (M : xM) (hD : xD g L) (hL : xEL nb nn L) (q : Int32)  : xCi l yX11_isSheet cX11_isSheet 1 (some .boolean) 1 g L M [.int q] (fun r u => r = xb (f_X11_isSheet q M) ∧ u = M) := by
  intro sz
  refine x_beg (by decide +kernel) rfl ?_
  intro p e s m args below meth c ls hsz hB
  subst hsz
  obtain ⟨hx, hb, hml, hown, hts, hr, hlk, hK, hAm, hP, hl⟩ := hB
  have S : CallFix p m c cX11_isSheet 1 s args (xws yX11_isSheet cX11_isSheet 1 (some .boolean)) RX11 := ⟨hx, hb, hml, hown, hts⟩
  have hown : s.vm.findClass RX11 = some m.cls := hown
  have hl : lv_has ls 1 [(0, .int q)] := hl
  have hS : va_S (xA g L s.heap.size) s.heap s.heap [] := va_S.rf
  obtain ⟨F, hF⟩ : ∃ F, F = f_X11_isSheet q M := ⟨_, rfl⟩
  have hres := hF
  rw [f_X11_isSheet] at hres
  refine lv_iload_n hx hb dX11_isSheet_0 rfl (lv_at hl 0 rfl) ?_
  refine lv_i2l (v := q.toInt64) hx hb dX11_isSheet_1 rfl ?_
  refine lv_lconst (v := 0) hx hb dX11_isSheet_2 (by decide) ?_
  refine lv_ldc2 (own := RX11) (v := 7) hx hb hown (hts _ (List.mem_cons_of_mem _ wd_207)) dX11_isSheet_3 ?_
  refine x_callSi (As := [.long (q.toInt64), .long 0, .long 7]) S hK hAm hD hP hS mt_X11_in wd_208 ⟨by decide, by decide⟩ (c_X11_in l nb nn g L M hD hL (q.toInt64) 0 7) rfl hl.1 (Nat.le_of_ble_eq_true rfl) ⟨Nat.zero_le _, Nat.zero_le _⟩ dX11_isSheet_6 rfl (fun r_1 u H locs hp_ hP hS => ?_)
  obtain ⟨er_1, eu_⟩ := hp_
  rw [eu_] at hP
  clear eu_
  replace hres := xlet_n hres er_1
  exact x_retz hx hb hr hlk hP hS (by rw [er_1]; exact xb_nar _) ⟨er_1.trans (congrArg xb (hres.symm.trans hF)), rfl⟩ dX11_isSheet_9
set_option maxHeartbeats 4000000 in
set_option maxRecDepth 100000 in
theorem c_X11_isTown (l : Launch) (nb nn : Nat) (g : xG) (L : List (Nat × Nat)) (M : xM) (hD : xD g L) (hL : xEL nb nn L) (q : Int32)  : xCi l yX11_isTown cX11_isTown 1 (some .boolean) 1 g L M [.int q] (fun r u => r = xb (f_X11_isTown q M) ∧ u = M) := by
  intro sz
  refine x_beg (by decide +kernel) rfl ?_
  intro p e s m args below meth c ls hsz hB
  subst hsz
  obtain ⟨hx, hb, hml, hown, hts, hr, hlk, hK, hAm, hP, hl⟩ := hB
  have S : CallFix p m c cX11_isTown 1 s args (xws yX11_isTown cX11_isTown 1 (some .boolean)) RX11 := ⟨hx, hb, hml, hown, hts⟩
  have hown : s.vm.findClass RX11 = some m.cls := hown
  have hl : lv_has ls 1 [(0, .int q)] := hl
  have hS : va_S (xA g L s.heap.size) s.heap s.heap [] := va_S.rf
  obtain ⟨F, hF⟩ : ∃ F, F = f_X11_isTown q M := ⟨_, rfl⟩
  have hres := hF
  rw [f_X11_isTown] at hres
  refine lv_iload_n hx hb dX11_isTown_0 rfl (lv_at hl 0 rfl) ?_
  refine lv_i2l (v := q.toInt64) hx hb dX11_isTown_1 rfl ?_
  refine lv_lconst (v := 0) hx hb dX11_isTown_2 (by decide) ?_
  refine lv_ldc2 (own := RX11) (v := 5) hx hb hown (hts _ (List.mem_cons_of_mem _ wd_284)) dX11_isTown_3 ?_
  refine x_callSi (As := [.long (q.toInt64), .long 0, .long 5]) S hK hAm hD hP hS mt_X11_in wd_208 ⟨by decide, by decide⟩ (c_X11_in l nb nn g L M hD hL (q.toInt64) 0 5) rfl hl.1 (Nat.le_of_ble_eq_true rfl) ⟨Nat.zero_le _, Nat.zero_le _⟩ dX11_isTown_6 rfl (fun r_1 u H locs hp_ hP hS => ?_)
  obtain ⟨er_1, eu_⟩ := hp_
  rw [eu_] at hP
  clear eu_
  replace hres := xlet_n hres er_1
  exact x_retz hx hb hr hlk hP hS (by rw [er_1]; exact xb_nar _) ⟨er_1.trans (congrArg xb (hres.symm.trans hF)), rfl⟩ dX11_isTown_9
set_option maxHeartbeats 4000000 in
set_option maxRecDepth 100000 in
theorem c_X11_isWeek (l : Launch) (nb nn : Nat) (g : xG) (L : List (Nat × Nat)) (M : xM) (hD : xD g L) (hL : xEL nb nn L) (q : Int32)  : xCi l yX11_isWeek cX11_isWeek 1 (some .boolean) 1 g L M [.int q] (fun r u => r = xb (f_X11_isWeek q M) ∧ u = M) := by
  intro sz
  refine x_beg (by decide +kernel) rfl ?_
  intro p e s m args below meth c ls hsz hB
  subst hsz
  obtain ⟨hx, hb, hml, hown, hts, hr, hlk, hK, hAm, hP, hl⟩ := hB
  have S : CallFix p m c cX11_isWeek 1 s args (xws yX11_isWeek cX11_isWeek 1 (some .boolean)) RX11 := ⟨hx, hb, hml, hown, hts⟩
  have hown : s.vm.findClass RX11 = some m.cls := hown
  have hl : lv_has ls 1 [(0, .int q)] := hl
  have hS : va_S (xA g L s.heap.size) s.heap s.heap [] := va_S.rf
  obtain ⟨F, hF⟩ : ∃ F, F = f_X11_isWeek q M := ⟨_, rfl⟩
  have hres := hF
  rw [f_X11_isWeek] at hres
  refine lv_iload_n hx hb dX11_isWeek_0 rfl (lv_at hl 0 rfl) ?_
  refine lv_i2l (v := q.toInt64) hx hb dX11_isWeek_1 rfl ?_
  refine lv_lconst (v := 0) hx hb dX11_isWeek_2 (by decide) ?_
  refine lv_ldc2 (own := RX11) (v := 299) hx hb hown (hts _ (List.mem_cons_of_mem _ wd_397)) dX11_isWeek_3 ?_
  refine x_callSi (As := [.long (q.toInt64), .long 0, .long 299]) S hK hAm hD hP hS mt_X11_in wd_208 ⟨by decide, by decide⟩ (c_X11_in l nb nn g L M hD hL (q.toInt64) 0 299) rfl hl.1 (Nat.le_of_ble_eq_true rfl) ⟨Nat.zero_le _, Nat.zero_le _⟩ dX11_isWeek_6 rfl (fun r_1 u H locs hp_ hP hS => ?_)
  obtain ⟨er_1, eu_⟩ := hp_
  rw [eu_] at hP
  clear eu_
  replace hres := xlet_n hres er_1
  exact x_retz hx hb hr hlk hP hS (by rw [er_1]; exact xb_nar _) ⟨er_1.trans (congrArg xb (hres.symm.trans hF)), rfl⟩ dX11_isWeek_9
set_option maxHeartbeats 4000000 in
set_option maxRecDepth 100000 in
theorem c_X11_isTrader (l : Launch) (nb nn : Nat) (g : xG) (L : List (Nat × Nat)) (M : xM) (hD : xD g L) (hL : xEL nb nn L) (q : Int32)  : xCi l yX11_isTrader cX11_isTrader 1 (some .boolean) 1 g L M [.int q] (fun r u => r = xb (f_X11_isTrader q M) ∧ u = M) := by
  intro sz
  refine x_beg (by decide +kernel) rfl ?_
  intro p e s m args below meth c ls hsz hB
  subst hsz
  obtain ⟨hx, hb, hml, hown, hts, hr, hlk, hK, hAm, hP, hl⟩ := hB
  have S : CallFix p m c cX11_isTrader 1 s args (xws yX11_isTrader cX11_isTrader 1 (some .boolean)) RX11 := ⟨hx, hb, hml, hown, hts⟩
  have hown : s.vm.findClass RX11 = some m.cls := hown
  have hl : lv_has ls 1 [(0, .int q)] := hl
  have hS : va_S (xA g L s.heap.size) s.heap s.heap [] := va_S.rf
  obtain ⟨F, hF⟩ : ∃ F, F = f_X11_isTrader q M := ⟨_, rfl⟩
  have hres := hF
  rw [f_X11_isTrader] at hres
  refine lv_iload_n hx hb dX11_isTrader_0 rfl (lv_at hl 0 rfl) ?_
  refine lv_i2l (v := q.toInt64) hx hb dX11_isTrader_1 rfl ?_
  refine lv_lconst (v := 0) hx hb dX11_isTrader_2 (by decide) ?_
  refine lv_ldc2 (own := RX11) (v := 7) hx hb hown (hts _ (List.mem_cons_of_mem _ wd_207)) dX11_isTrader_3 ?_
  refine x_callSi (As := [.long (q.toInt64), .long 0, .long 7]) S hK hAm hD hP hS mt_X11_in wd_208 ⟨by decide, by decide⟩ (c_X11_in l nb nn g L M hD hL (q.toInt64) 0 7) rfl hl.1 (Nat.le_of_ble_eq_true rfl) ⟨Nat.zero_le _, Nat.zero_le _⟩ dX11_isTrader_6 rfl (fun r_1 u H locs hp_ hP hS => ?_)
  obtain ⟨er_1, eu_⟩ := hp_
  rw [eu_] at hP
  clear eu_
  replace hres := xlet_n hres er_1
  exact x_retz hx hb hr hlk hP hS (by rw [er_1]; exact xb_nar _) ⟨er_1.trans (congrArg xb (hres.symm.trans hF)), rfl⟩ dX11_isTrader_9
set_option maxHeartbeats 4000000 in
set_option maxRecDepth 100000 in
theorem c_X11_isLetter (l : Launch) (nb nn : Nat) (g : xG) (L : List (Nat × Nat)) (M : xM) (hD : xD g L) (hL : xEL nb nn L) (q : Int32)  : xCi l yX11_isLetter cX11_isLetter 1 (some .boolean) 0 g L M [.int q] (fun r u => r = xb (f_X11_isLetter q M) ∧ u = M) := by
  intro sz
  refine x_beg (by decide +kernel) rfl ?_
  intro p e s m args below meth c ls hsz hB
  subst hsz
  obtain ⟨hx, hb, hml, hown, hts, hr, hlk, hK, hAm, hP, hl⟩ := hB
  have S : CallFix p m c cX11_isLetter 1 s args (xws yX11_isLetter cX11_isLetter 1 (some .boolean)) RX11 := ⟨hx, hb, hml, hown, hts⟩
  have hown : s.vm.findClass RX11 = some m.cls := hown
  have hl : lv_has ls 1 [(0, .int q)] := hl
  have hS : va_S (xA g L s.heap.size) s.heap s.heap [] := va_S.rf
  obtain ⟨F, hF⟩ : ∃ F, F = f_X11_isLetter q M := ⟨_, rfl⟩
  have hres := hF
  rw [f_X11_isLetter] at hres
  refine lv_iload_n hx hb dX11_isLetter_0 rfl (lv_at hl 0 rfl) ?_
  refine lv_bipush (v := 97) hx hb dX11_isLetter_1 (by decide) ?_
  refine lv_icmp_lt (tgt := 16) hx hb dX11_isLetter_3 (by decide) (fun c_1 => ?_) (fun c_1 => ?_)
  · replace hres := hres.trans (if_pos c_1)
    refine lv_iconst (v := 0) hx hb dX11_isLetter_16 (by decide) ?_
    exact x_retz hx hb hr hlk hP hS rfl ⟨(congrArg xb (hres.symm.trans hF)), rfl⟩ dX11_isLetter_17
  · replace hres := hres.trans (if_neg c_1)
    refine lv_iload_n hx hb dX11_isLetter_6 rfl (lv_at hl 0 rfl) ?_
    refine lv_bipush (v := 122) hx hb dX11_isLetter_7 (by decide) ?_
    refine lv_icmp_gt (tgt := 16) hx hb dX11_isLetter_9 (by decide) (fun c_2 => ?_) (fun c_2 => ?_)
    · replace hres := hres.trans (if_pos c_2)
      refine lv_iconst (v := 0) hx hb dX11_isLetter_16 (by decide) ?_
      exact x_retz hx hb hr hlk hP hS rfl ⟨(congrArg xb (hres.symm.trans hF)), rfl⟩ dX11_isLetter_17
    · replace hres := hres.trans (if_neg c_2)
      refine lv_iconst (v := 1) hx hb dX11_isLetter_12 (by decide) ?_
      refine lv_goto (tgt := 17) hx hb dX11_isLetter_13 (by decide) ?_
      exact x_retz hx hb hr hlk hP hS rfl ⟨(congrArg xb (hres.symm.trans hF)), rfl⟩ dX11_isLetter_17
set_option maxHeartbeats 4000000 in
set_option maxRecDepth 100000 in
theorem c_X11_isFigure (l : Launch) (nb nn : Nat) (g : xG) (L : List (Nat × Nat)) (M : xM) (hD : xD g L) (hL : xEL nb nn L) (q : Int32)  : xCi l yX11_isFigure cX11_isFigure 1 (some .boolean) 0 g L M [.int q] (fun r u => r = xb (f_X11_isFigure q M) ∧ u = M) := by
  intro sz
  refine x_beg (by decide +kernel) rfl ?_
  intro p e s m args below meth c ls hsz hB
  subst hsz
  obtain ⟨hx, hb, hml, hown, hts, hr, hlk, hK, hAm, hP, hl⟩ := hB
  have S : CallFix p m c cX11_isFigure 1 s args (xws yX11_isFigure cX11_isFigure 1 (some .boolean)) RX11 := ⟨hx, hb, hml, hown, hts⟩
  have hown : s.vm.findClass RX11 = some m.cls := hown
  have hl : lv_has ls 1 [(0, .int q)] := hl
  have hS : va_S (xA g L s.heap.size) s.heap s.heap [] := va_S.rf
  obtain ⟨F, hF⟩ : ∃ F, F = f_X11_isFigure q M := ⟨_, rfl⟩
  have hres := hF
  rw [f_X11_isFigure] at hres
  refine lv_iload_n hx hb dX11_isFigure_0 rfl (lv_at hl 0 rfl) ?_
  refine lv_bipush (v := 48) hx hb dX11_isFigure_1 (by decide) ?_
  refine lv_icmp_lt (tgt := 16) hx hb dX11_isFigure_3 (by decide) (fun c_1 => ?_) (fun c_1 => ?_)
  · replace hres := hres.trans (if_pos c_1)
    refine lv_iconst (v := 0) hx hb dX11_isFigure_16 (by decide) ?_
    exact x_retz hx hb hr hlk hP hS rfl ⟨(congrArg xb (hres.symm.trans hF)), rfl⟩ dX11_isFigure_17
  · replace hres := hres.trans (if_neg c_1)
    refine lv_iload_n hx hb dX11_isFigure_6 rfl (lv_at hl 0 rfl) ?_
    refine lv_bipush (v := 57) hx hb dX11_isFigure_7 (by decide) ?_
    refine lv_icmp_gt (tgt := 16) hx hb dX11_isFigure_9 (by decide) (fun c_2 => ?_) (fun c_2 => ?_)
    · replace hres := hres.trans (if_pos c_2)
      refine lv_iconst (v := 0) hx hb dX11_isFigure_16 (by decide) ?_
      exact x_retz hx hb hr hlk hP hS rfl ⟨(congrArg xb (hres.symm.trans hF)), rfl⟩ dX11_isFigure_17
    · replace hres := hres.trans (if_neg c_2)
      refine lv_iconst (v := 1) hx hb dX11_isFigure_12 (by decide) ?_
      refine lv_goto (tgt := 17) hx hb dX11_isFigure_13 (by decide) ?_
      exact x_retz hx hb hr hlk hP hS rfl ⟨(congrArg xb (hres.symm.trans hF)), rfl⟩ dX11_isFigure_17
set_option maxHeartbeats 4000000 in
set_option maxRecDepth 100000 in
theorem c_X11_isOf (l : Launch) (nb nn : Nat) (g : xG) (L : List (Nat × Nat)) (M : xM) (hD : xD g L) (hL : xEL nb nn L) (is_ : Int32) (of_ : Int32)  : xCi l yX11_isOf cX11_isOf 2 (some .boolean) 0 g L M [.int is_, .int of_] (fun r u => r = xb (f_X11_isOf is_ of_ M) ∧ u = M) := by
  intro sz
  refine x_beg (by decide +kernel) rfl ?_
  intro p e s m args below meth c ls hsz hB
  subst hsz
  obtain ⟨hx, hb, hml, hown, hts, hr, hlk, hK, hAm, hP, hl⟩ := hB
  have S : CallFix p m c cX11_isOf 2 s args (xws yX11_isOf cX11_isOf 2 (some .boolean)) RX11 := ⟨hx, hb, hml, hown, hts⟩
  have hown : s.vm.findClass RX11 = some m.cls := hown
  have hl : lv_has ls 2 [(0, .int is_), (1, .int of_)] := hl
  have hS : va_S (xA g L s.heap.size) s.heap s.heap [] := va_S.rf
  obtain ⟨F, hF⟩ : ∃ F, F = f_X11_isOf is_ of_ M := ⟨_, rfl⟩
  have hres := hF
  rw [f_X11_isOf] at hres
  refine lv_iload_n hx hb dX11_isOf_0 rfl (lv_at hl 1 rfl) ?_
  refine lv_if_eq (tgt := 19) hx hb dX11_isOf_1 (by decide) (fun c_1 => ?_) (fun c_1 => ?_)
  · replace hres := hres.trans (if_pos c_1)
    refine lv_iconst (v := 1) hx hb dX11_isOf_19 (by decide) ?_
    refine lv_goto (tgt := 24) hx hb dX11_isOf_20 (by decide) ?_
    exact x_retz hx hb hr hlk hP hS rfl ⟨(congrArg xb (hres.symm.trans hF)), rfl⟩ dX11_isOf_24
  · replace hres := hres.trans (if_neg c_1)
    refine lv_iload_n hx hb dX11_isOf_4 rfl (lv_at hl 0 rfl) ?_
    refine lv_iload_n hx hb dX11_isOf_5 rfl (lv_at hl 1 rfl) ?_
    refine lv_icmp_eq (tgt := 19) hx hb dX11_isOf_6 (by decide) (fun c_2 => ?_) (fun c_2 => ?_)
    · replace hres := hres.trans (if_pos c_2)
      refine lv_iconst (v := 1) hx hb dX11_isOf_19 (by decide) ?_
      refine lv_goto (tgt := 24) hx hb dX11_isOf_20 (by decide) ?_
      exact x_retz hx hb hr hlk hP hS rfl ⟨(congrArg xb (hres.symm.trans hF)), rfl⟩ dX11_isOf_24
    · replace hres := hres.trans (if_neg c_2)
      refine lv_iload_n hx hb dX11_isOf_9 rfl (lv_at hl 1 rfl) ?_
      refine lv_iconst (v := 2) hx hb dX11_isOf_10 (by decide) ?_
      refine lv_icmp_ne (tgt := 23) hx hb dX11_isOf_11 (by decide) (fun c_3 => ?_) (fun c_3 => ?_)
      · replace hres := hres.trans (if_neg c_3)
        refine lv_iconst (v := 0) hx hb dX11_isOf_23 (by decide) ?_
        exact x_retz hx hb hr hlk hP hS rfl ⟨(congrArg xb (hres.symm.trans hF)), rfl⟩ dX11_isOf_24
      · replace hres := hres.trans (if_pos c_3)
        refine lv_iload_n hx hb dX11_isOf_14 rfl (lv_at hl 0 rfl) ?_
        refine lv_iconst (v := 3) hx hb dX11_isOf_15 (by decide) ?_
        refine lv_icmp_ne (tgt := 23) hx hb dX11_isOf_16 (by decide) (fun c_4 => ?_) (fun c_4 => ?_)
        · replace hres := hres.trans (if_neg c_4)
          refine lv_iconst (v := 0) hx hb dX11_isOf_23 (by decide) ?_
          exact x_retz hx hb hr hlk hP hS rfl ⟨(congrArg xb (hres.symm.trans hF)), rfl⟩ dX11_isOf_24
        · replace hres := hres.trans (if_pos c_4)
          refine lv_iconst (v := 1) hx hb dX11_isOf_19 (by decide) ?_
          refine lv_goto (tgt := 24) hx hb dX11_isOf_20 (by decide) ?_
          exact x_retz hx hb hr hlk hP hS rfl ⟨(congrArg xb (hres.symm.trans hF)), rfl⟩ dX11_isOf_24
set_option maxHeartbeats 4000000 in
set_option maxRecDepth 100000 in
theorem c_X11_bits (l : Launch) (nb nn : Nat) (g : xG) (L : List (Nat × Nat)) (M : xM) (hD : xD g L) (hL : xEL nb nn L) (set_ : Int32)  : xCi l yX11_bits cX11_bits 3 (some .int) 0 g L M [.int set_] (fun r u => r = f_X11_bits set_ M ∧ u = M) := by
  intro sz
  refine x_beg (by decide +kernel) rfl ?_
  intro p e s m args below meth c ls hsz hB
  subst hsz
  obtain ⟨hx, hb, hml, hown, hts, hr, hlk, hK, hAm, hP, hl⟩ := hB
  have S : CallFix p m c cX11_bits 3 s args (xws yX11_bits cX11_bits 3 (some .int)) RX11 := ⟨hx, hb, hml, hown, hts⟩
  have hown : s.vm.findClass RX11 = some m.cls := hown
  have hl : lv_has ls 3 [(0, .int set_)] := hl
  have hS : va_S (xA g L s.heap.size) s.heap s.heap [] := va_S.rf
  obtain ⟨F, hF⟩ : ∃ F, F = f_X11_bits set_ M := ⟨_, rfl⟩
  have k_4 : ∀ (n : Nat) (n_ : Int32) (k : Int32) (H : Heap) (locs : List Loc) (ls : Array Slot) (kx : (Int32 → Int32 → Int32)), xmu k 8 < n → True → F = f_X11_bits_L4 set_ M n n_ k kx → xP g L M H → va_S (xA g L s.heap.size) s.heap H locs → lv_has ls 3 [(0, .int set_), (1, .int n_), (2, .int k)] → (∀ (n_ : Int32) (k : Int32) (H : Heap) (locs : List Loc) (ls : Array Slot), True → F = kx n_ k → xP g L M H → va_S (xA g L s.heap.size) s.heap H locs → lv_has ls 3 [(0, .int set_), (1, .int n_), (2, .int k)] → W p l e (xr 0) s m args below meth c H locs 0 0 (MQ below (va_Qi (fun r u => r = f_X11_bits set_ M ∧ u = M) (xPost g L) (xA g L s.heap.size)) args s 0 0 (xA g L s.heap.size)) (F0 m 24 ls [])) → W p l e (xr 0) s m args below meth c H locs 0 0 (MQ below (va_Qi (fun r u => r = f_X11_bits set_ M ∧ u = M) (xPost g L) (xA g L s.heap.size)) args s 0 0 (xA g L s.heap.size)) (F0 m 4 ls []) := by
    intro n
    induction n with
    | zero => intro n_ k H locs ls kx hmu; exact absurd hmu (Nat.not_lt_zero _)
    | succ n ih =>
      intro n_ k H locs ls kx hmu hinv hres hP hS hl hex
      replace hres : F = _ := hres.trans (by rw [f_X11_bits_L4])
      refine lv_iload_n hx hb dX11_bits_4 rfl (lv_at hl 2 rfl) ?_
      refine lv_bipush (v := 8) hx hb dX11_bits_5 (by decide) ?_
      refine lv_icmp_ge (tgt := 24) hx hb dX11_bits_7 (by decide) (fun c_1 => ?_) (fun c_1 => ?_)
      · replace hres := hres.trans (if_pos c_1)
        exact hex n_ k _ _ _ trivial hres hP hS (lv_sub hl [0, 1, 2] rfl)
      · replace hres := hres.trans (if_neg c_1)
        refine lv_iload_n hx hb dX11_bits_10 rfl (lv_at hl 1 rfl) ?_
        refine lv_iload_n hx hb dX11_bits_11 rfl (lv_at hl 0 rfl) ?_
        refine lv_iload_n hx hb dX11_bits_12 rfl (lv_at hl 2 rfl) ?_
        refine lv_ishr hx hb dX11_bits_13 ?_
        refine lv_iconst (v := 1) hx hb dX11_bits_14 (by decide) ?_
        refine lv_iand hx hb dX11_bits_15 ?_
        refine lv_iadd hx hb dX11_bits_16 ?_
        refine lv_topi (fun x1_2 ex1_2 => ?_)
        replace hres := xlet_n hres ex1_2
        refine lv_istore_n (lv' := [(1, .int x1_2), (0, .int set_), (2, .int k)]) hx hb dX11_bits_17 rfl hl (by decide) rfl (fun ls hl => ?_)
        obtain ⟨x2_3, ex2_3⟩ : ∃ z_ : Int32, z_ = k + 1 := ⟨_, rfl⟩
        replace hres := xlet_n hres ex2_3
        refine lv_iinc (v := x2_3) (lv' := [(2, .int x2_3), (1, .int x1_2), (0, .int set_)]) hx hb dX11_bits_18 hl (k := 2) rfl (by rw [ex2_3]; rfl) (by decide) rfl (fun ls hl => ?_)
        refine lv_goto (tgt := 4) hx hb dX11_bits_21 (by decide) ?_
        exact ih x1_2 x2_3 _ _ _ kx (ob_X11_bits_4_mu_3 nb nn set_ M n n_ k hmu hinv c_1 x1_2 ex1_2 x2_3 ex2_3) trivial hres hP hS (lv_sub hl [2, 1, 0] rfl) hex
  have hres := hF
  rw [f_X11_bits] at hres
  refine lv_iconst (v := 0) hx hb dX11_bits_0 (by decide) ?_
  refine lv_istore_n (lv' := [(1, .int 0), (0, .int set_)]) hx hb dX11_bits_1 rfl hl (by decide) rfl (fun ls hl => ?_)
  refine lv_iconst (v := 0) hx hb dX11_bits_2 (by decide) ?_
  refine lv_istore_n (lv' := [(2, .int 0), (1, .int 0), (0, .int set_)]) hx hb dX11_bits_3 rfl hl (by decide) rfl (fun ls hl => ?_)
  refine k_4 (xmu (0 : Int32) 8 + 1) (0 : Int32) (0 : Int32) _ _ _ _ (Nat.lt_succ_self _) trivial hres hP hS (lv_sub hl [2, 1, 0] rfl) ?_
  clear hres hP hS hl
  intro n__4 k_5 H locs ls hiv_5 hres hP hS hl
  refine lv_iload_n hx hb dX11_bits_24 rfl (lv_at hl 1 rfl) ?_
  exact x_reti hx hb hr hlk hP hS ⟨hres.symm.trans hF, rfl⟩ dX11_bits_25
set_option maxHeartbeats 4000000 in
set_option maxRecDepth 100000 in
theorem c_X11_began (l : Launch) (nb nn : Nat) (g : xG) (L : List (Nat × Nat)) (M : xM) (hD : xD g L) (hL : xEL nb nn L) (body : Int32) (hp0 : 0 ≤ M 40 0 50) : xCv l yX11_began cX11_began 2 0 g L M [.ref (xad g 40 0), .int body] (fun u => u = f_X11_began body M) := by
  intro sz
  refine x_beg (by decide +kernel) rfl ?_
  intro p e s m args below meth c ls hsz hB
  subst hsz
  obtain ⟨hx, hb, hml, hown, hts, hr, hlk, hK, hAm, hP, hl⟩ := hB
  have S : CallFix p m c cX11_began 2 s args (xws yX11_began cX11_began 2 none) RX11 := ⟨hx, hb, hml, hown, hts⟩
  have hown : s.vm.findClass RX11 = some m.cls := hown
  have hl : lv_has ls 2 [(0, .ref (xad g 40 0)), (1, .int body)] := hl
  have hS : va_S (xA g L s.heap.size) s.heap s.heap [] := va_S.rf
  obtain ⟨F, hF⟩ : ∃ F, F = f_X11_began body M := ⟨_, rfl⟩
  have hres := hF
  rw [f_X11_began] at hres
  refine lv_aload_n hx hb dX11_began_0 rfl (lv_at hl 0 rfl) ?_
  refine gf_RX11_321 hx hb hts hown hK hP (hL 40 0 (xe_40 nb nn)) dX11_began_1 ?_
  refine lv_bipush (v := 16) hx hb dX11_began_4 (by decide) ?_
  refine lv_icmp_ge (tgt := 29) hx hb dX11_began_6 (by decide) (fun c_1 => ?_) (fun c_1 => ?_)
  · replace hres := hres.trans (if_pos c_1)
    exact x_retv hx hb hr hlk hP hS (hres.symm.trans hF) dX11_began_29
  · replace hres := hres.trans (if_neg c_1)
    refine lv_aload_n hx hb dX11_began_9 rfl (lv_at hl 0 rfl) ?_
    refine gf_RX11_110 hx hb hts hown hK hP (hL 40 0 (xe_40 nb nn)) dX11_began_10 ?_
    refine lv_aload_n hx hb dX11_began_13 rfl (lv_at hl 0 rfl) ?_
    refine gf_RX11_321 hx hb hts hown hK hP (hL 40 0 (xe_40 nb nn)) dX11_began_14 ?_
    refine lv_iload_n hx hb dX11_began_17 rfl (lv_at hl 1 rfl) ?_
    refine x_iast hx hb hK hP hD hS (hL 99 0 (xe_99 nb nn)) (xc99 g 0) (ob_X11_began_18_in nb nn body M hp0 c_1) dX11_began_18 (fun H locs hP hS => ?_)
    obtain ⟨M_2, eM_2⟩ : ∃ z_ : xM, z_ = xup M 99 0 (M 40 0 50).toNatClampNeg body := ⟨_, rfl⟩
    rw [← eM_2] at hP
    replace hres := xlet_n hres eM_2
    refine lv_aload_n hx hb dX11_began_19 rfl (lv_at hl 0 rfl) ?_
    refine lv_dup hx hb dX11_began_20 rfl ?_
    refine gf_RX11_321 hx hb hts hown hK hP (hL 40 0 (xe_40 nb nn)) dX11_began_21 ?_
    refine lv_iconst (v := 1) hx hb dX11_began_24 (by decide) ?_
    refine lv_iadd hx hb dX11_began_25 ?_
    refine lv_topi (fun v_3 ev_3 => ?_)
    replace hres := xlet_n hres ev_3
    refine pf_RX11_321 hx hb hts hown hK hP hD hS (hL 40 0 (xe_40 nb nn)) dX11_began_26 (fun H locs hP hS => ?_)
    obtain ⟨M_4, eM_4⟩ : ∃ z_ : xM, z_ = xup M_2 40 0 50 v_3 := ⟨_, rfl⟩
    rw [← eM_4] at hP
    replace hres := xlet_n hres eM_4
    exact x_retv hx hb hr hlk hP hS (hres.symm.trans hF) dX11_began_29
set_option maxHeartbeats 4000000 in
set_option maxRecDepth 100000 in
theorem c_X11_bad (l : Launch) (nb nn : Nat) (g : xG) (L : List (Nat × Nat)) (M : xM) (hD : xD g L) (hL : xEL nb nn L) (k : Int32)  : xCv l yX11_bad cX11_bad 2 0 g L M [.ref (xad g 40 0), .int k] (fun u => u = f_X11_bad k M) := by
  intro sz
  refine x_beg (by decide +kernel) rfl ?_
  intro p e s m args below meth c ls hsz hB
  subst hsz
  obtain ⟨hx, hb, hml, hown, hts, hr, hlk, hK, hAm, hP, hl⟩ := hB
  have S : CallFix p m c cX11_bad 2 s args (xws yX11_bad cX11_bad 2 none) RX11 := ⟨hx, hb, hml, hown, hts⟩
  have hown : s.vm.findClass RX11 = some m.cls := hown
  have hl : lv_has ls 2 [(0, .ref (xad g 40 0)), (1, .int k)] := hl
  have hS : va_S (xA g L s.heap.size) s.heap s.heap [] := va_S.rf
  obtain ⟨F, hF⟩ : ∃ F, F = f_X11_bad k M := ⟨_, rfl⟩
  have hres := hF
  rw [f_X11_bad] at hres
  refine lv_aload_n hx hb dX11_bad_0 rfl (lv_at hl 0 rfl) ?_
  refine gf_RX11_199 hx hb hts hown hK hP (hL 40 0 (xe_40 nb nn)) dX11_bad_1 ?_
  refine lv_if_ne (tgt := 20) hx hb dX11_bad_4 (by decide) (fun c_1 => ?_) (fun c_1 => ?_)
  · replace hres := hres.trans (if_neg c_1)
    exact x_retv hx hb hr hlk hP hS (hres.symm.trans hF) dX11_bad_20
  · replace hres := hres.trans (if_pos c_1)
    refine lv_aload_n hx hb dX11_bad_7 rfl (lv_at hl 0 rfl) ?_
    refine lv_iload_n hx hb dX11_bad_8 rfl (lv_at hl 1 rfl) ?_
    refine pf_RX11_199 hx hb hts hown hK hP hD hS (hL 40 0 (xe_40 nb nn)) dX11_bad_9 (fun H locs hP hS => ?_)
    obtain ⟨M_2, eM_2⟩ : ∃ z_ : xM, z_ = xup M 40 0 28 k := ⟨_, rfl⟩
    rw [← eM_2] at hP
    replace hres := xlet_n hres eM_2
    refine lv_aload_n hx hb dX11_bad_12 rfl (lv_at hl 0 rfl) ?_
    refine lv_aload_n hx hb dX11_bad_13 rfl (lv_at hl 0 rfl) ?_
    refine gf_RX11_184 hx hb hts hown hK hP (hL 40 0 (xe_40 nb nn)) dX11_bad_14 ?_
    refine lv_topi (fun v_3 ev_3 => ?_)
    replace hres := xlet_n hres ev_3
    refine pf_RX11_202 hx hb hts hown hK hP hD hS (hL 40 0 (xe_40 nb nn)) dX11_bad_17 (fun H locs hP hS => ?_)
    obtain ⟨M_4, eM_4⟩ : ∃ z_ : xM, z_ = xup M_2 40 0 29 v_3 := ⟨_, rfl⟩
    rw [← eM_4] at hP
    replace hres := xlet_n hres eM_4
    exact x_retv hx hb hr hlk hP hS (hres.symm.trans hF) dX11_bad_20
set_option maxHeartbeats 4000000 in
set_option maxRecDepth 100000 in
theorem c_X11_isBank (l : Launch) (nb nn : Nat) (g : xG) (L : List (Nat × Nat)) (M : xM) (hD : xD g L) (hL : xEL nb nn L) (b : Int32)  : xCi l yX11_isBank cX11_isBank 2 (some .boolean) 1 g L M [.ref (xad g 40 0), .int b] (fun r u => r = xb (f_X11_isBank b M) ∧ u = M) := by
  intro sz
  refine x_beg (by decide +kernel) rfl ?_
  intro p e s m args below meth c ls hsz hB
  subst hsz
  obtain ⟨hx, hb, hml, hown, hts, hr, hlk, hK, hAm, hP, hl⟩ := hB
  have S : CallFix p m c cX11_isBank 2 s args (xws yX11_isBank cX11_isBank 2 (some .boolean)) RX11 := ⟨hx, hb, hml, hown, hts⟩
  have hown : s.vm.findClass RX11 = some m.cls := hown
  have hl : lv_has ls 2 [(0, .ref (xad g 40 0)), (1, .int b)] := hl
  have hS : va_S (xA g L s.heap.size) s.heap s.heap [] := va_S.rf
  obtain ⟨F, hF⟩ : ∃ F, F = f_X11_isBank b M := ⟨_, rfl⟩
  have hres := hF
  rw [f_X11_isBank] at hres
  refine lv_iload_n hx hb dX11_isBank_0 rfl (lv_at hl 1 rfl) ?_
  refine lv_i2l (v := b.toInt64) hx hb dX11_isBank_1 rfl ?_
  refine lv_lconst (v := 0) hx hb dX11_isBank_2 (by decide) ?_
  refine lv_aload_n hx hb dX11_isBank_3 rfl (lv_at hl 0 rfl) ?_
  refine gf_RX11_150 hx hb hts hown hK hP (hL 40 0 (xe_40 nb nn)) dX11_isBank_4 ?_
  refine lv_iconst (v := 1) hx hb dX11_isBank_7 (by decide) ?_
  refine lv_isub hx hb dX11_isBank_8 ?_
  refine lv_i2l (v := ((M 40 0 7) - 1).toInt64) hx hb dX11_isBank_9 rfl ?_
  refine x_callSi (As := [.long (b.toInt64), .long 0, .long (((M 40 0 7) - 1).toInt64)]) S hK hAm hD hP hS mt_X11_in wd_208 ⟨by decide, by decide⟩ (c_X11_in l nb nn g L M hD hL (b.toInt64) 0 (((M 40 0 7) - 1).toInt64)) rfl hl.1 (Nat.le_of_ble_eq_true rfl) ⟨Nat.zero_le _, Nat.zero_le _⟩ dX11_isBank_10 rfl (fun r_1 u H locs hp_ hP hS => ?_)
  obtain ⟨er_1, eu_⟩ := hp_
  rw [eu_] at hP
  clear eu_
  replace hres := xlet_n hres er_1
  exact x_retz hx hb hr hlk hP hS (by rw [er_1]; exact xb_nar _) ⟨er_1.trans (congrArg xb (hres.symm.trans hF)), rfl⟩ dX11_isBank_13
set_option maxHeartbeats 4000000 in
set_option maxRecDepth 100000 in
theorem c_X11_isNote (l : Launch) (nb nn : Nat) (g : xG) (L : List (Nat × Nat)) (M : xM) (hD : xD g L) (hL : xEL nb nn L) (q : Int32)  : xCi l yX11_isNote cX11_isNote 2 (some .boolean) 1 g L M [.ref (xad g 40 0), .int q] (fun r u => r = xb (f_X11_isNote q M) ∧ u = M) := by
  intro sz
  refine x_beg (by decide +kernel) rfl ?_
  intro p e s m args below meth c ls hsz hB
  subst hsz
  obtain ⟨hx, hb, hml, hown, hts, hr, hlk, hK, hAm, hP, hl⟩ := hB
  have S : CallFix p m c cX11_isNote 2 s args (xws yX11_isNote cX11_isNote 2 (some .boolean)) RX11 := ⟨hx, hb, hml, hown, hts⟩
  have hown : s.vm.findClass RX11 = some m.cls := hown
  have hl : lv_has ls 2 [(0, .ref (xad g 40 0)), (1, .int q)] := hl
  have hS : va_S (xA g L s.heap.size) s.heap s.heap [] := va_S.rf
  obtain ⟨F, hF⟩ : ∃ F, F = f_X11_isNote q M := ⟨_, rfl⟩
  have hres := hF
  rw [f_X11_isNote] at hres
  refine lv_iload_n hx hb dX11_isNote_0 rfl (lv_at hl 1 rfl) ?_
  refine lv_i2l (v := q.toInt64) hx hb dX11_isNote_1 rfl ?_
  refine lv_lconst (v := 0) hx hb dX11_isNote_2 (by decide) ?_
  refine lv_aload_n hx hb dX11_isNote_3 rfl (lv_at hl 0 rfl) ?_
  refine gf_RX11_265 hx hb hts hown hK hP (hL 40 0 (xe_40 nb nn)) dX11_isNote_4 ?_
  refine lv_iconst (v := 1) hx hb dX11_isNote_7 (by decide) ?_
  refine lv_isub hx hb dX11_isNote_8 ?_
  refine lv_i2l (v := ((M 40 0 30) - 1).toInt64) hx hb dX11_isNote_9 rfl ?_
  refine x_callSi (As := [.long (q.toInt64), .long 0, .long (((M 40 0 30) - 1).toInt64)]) S hK hAm hD hP hS mt_X11_in wd_208 ⟨by decide, by decide⟩ (c_X11_in l nb nn g L M hD hL (q.toInt64) 0 (((M 40 0 30) - 1).toInt64)) rfl hl.1 (Nat.le_of_ble_eq_true rfl) ⟨Nat.zero_le _, Nat.zero_le _⟩ dX11_isNote_10 rfl (fun r_1 u H locs hp_ hP hS => ?_)
  obtain ⟨er_1, eu_⟩ := hp_
  rw [eu_] at hP
  clear eu_
  replace hres := xlet_n hres er_1
  exact x_retz hx hb hr hlk hP hS (by rw [er_1]; exact xb_nar _) ⟨er_1.trans (congrArg xb (hres.symm.trans hF)), rfl⟩ dX11_isNote_13
