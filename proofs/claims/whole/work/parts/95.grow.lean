/-! bank and note: a world that grows -/
theorem wd_309 : Cond.instantiable RX0 6 ∈ wsL_law := wr_13 (List.mem_of_getElem? (i := 21) rfl)
theorem wd_312 : Cond.instanceMethod yX0_init ∈ wsL_law := wr_14 (List.mem_of_getElem? (i := 0) rfl)
theorem wd_313 : Cond.code yX0_init cX0_init 4 none ∈ wsL_law := wr_14 (List.mem_of_getElem? (i := 1) rfl)
theorem wd_675 : Cond.instantiable RX4 13 ∈ wsL_law := wr_29 (List.mem_of_getElem? (i := 3) rfl)
theorem wd_682 : Cond.instanceMethod yX4_init ∈ wsL_law := wr_29 (List.mem_of_getElem? (i := 10) rfl)
theorem wd_683 : Cond.code yX4_init cX4_init 6 none ∈ wsL_law := wr_29 (List.mem_of_getElem? (i := 11) rfl)
def f_X10_bank (town : Int32) (gold : Int32) (plate : Int32) (M : xM) : Int32 × xM :=
  xlet (xb (f_X10_isTown town M)) fun r_1 => if r_1 = 0 then ((-1000001), M) else xlet (xb (f_X10_isUpTo gold 99999 M)) fun r_3 => if r_3 = 0 then ((-1000001), M) else xlet (xb (f_X10_isUpTo plate 255 M)) fun r_5 => if r_5 = 0 then ((-1000001), M) else xlet (M 0 0 12) fun x4_7 => if x4_7 < 8 then (x4_7, xup (xup (xmB x4_7.toNatClampNeg town plate gold M) 3 0 x4_7.toNatClampNeg 1) 0 0 12 (x4_7 + 1)) else ((-1000003), M)

set_option maxHeartbeats 4000000 in
set_option maxRecDepth 100000 in
theorem c_X10_bank (l : Launch) (nb nn : Nat) (g : xG) (L : List (Nat × Nat)) (M : xM) (hD : xD g L) (hQ : xEQ nb nn L) (town : Int32) (gold : Int32) (plate : Int32) (hp0 : xHB nb M) (hz : M 3 0 nb = 0) : ∀ sz : Nat, Met l yX10_bank (xws yX10_bank cX10_bank 5 (some .int)) { frames := 3, cells := 2, slots := 14, locals := 256 } (xPre g L M sz [.ref (xad g 0 0), .int town, .int gold, .int plate]) (va_Qi (fun r u => (r, u.2.2) = f_X10_bank town gold plate M ∧ ((r < 0 ∧ u = (xad g, L, M)) ∨ (0 ≤ r ∧ nb < 8 ∧ xEQ (nb + 1) nn u.2.1 ∧ u.1 0 0 = xad g 0 0 ∧ u.1 40 0 = xad g 40 0))) (xPostG g) (xA g L sz)) 2 14 (xA g L sz) := by
  have hL := hQ.el
  intro sz
  refine x_begG (by decide +kernel) rfl ?_
  intro p e s m args below meth c ls hsz hB
  subst hsz
  obtain ⟨hx, hb, hml, hown, hts, hr, hlk, hK, hAm, hP, hl⟩ := hB
  have S : CallFix p m c cX10_bank 5 s args (xws yX10_bank cX10_bank 5 (some .int)) RX10 := ⟨hx, hb, hml, hown, hts⟩
  have hown : s.vm.findClass RX10 = some m.cls := hown
  have hl : lv_has ls 5 [(0, .ref (xad g 0 0)), (1, .int town), (2, .int gold), (3, .int plate)] := hl
  have hS : va_S (xA g L s.heap.size) s.heap s.heap [] := va_S.rf
  obtain ⟨F, hF⟩ : ∃ F, F = f_X10_bank town gold plate M := ⟨_, rfl⟩
  have hres := hF
  rw [f_X10_bank] at hres
  refine lv_iload_n hx hb dX10_bank_0 rfl (lv_at hl 1 rfl) ?_
  refine x_callSi (As := [.int town]) S hK hAm hD hP hS mt_X10_isTown wd_268 ⟨by decide, by decide⟩ (c_X10_isTown l nb nn g L M hD hL town) rfl hl.1 (Nat.le_of_ble_eq_true rfl) ⟨Nat.zero_le _, Nat.zero_le _⟩ dX10_bank_1 rfl (fun r_1 u H locs hp_ hP hS => ?_)
  obtain ⟨er_1, eu_⟩ := hp_
  rw [eu_] at hP
  clear eu_
  replace hres := xlet_n hres er_1
  refine lv_if_eq (tgt := 26) hx hb dX10_bank_4 (by decide) (fun c_2 => ?_) (fun c_2 => ?_)
  · replace hres := hres.trans (if_pos c_2)
    refine lv_ldc (own := RX10) (v := (-1000001)) hx hb hown (hts _ (List.mem_cons_of_mem _ wd_174)) dX10_bank_26 ?_
    exact x_retiG (u := (xad g, L, M)) hx hb hr hlk hP hD hS ⟨hres.symm.trans hF, Or.inl ⟨by decide, rfl⟩⟩ (Nat.zero_le _) (Nat.zero_le _) dX10_bank_28
  · replace hres := hres.trans (if_neg c_2)
    refine lv_iload_n hx hb dX10_bank_7 rfl (lv_at hl 2 rfl) ?_
    refine lv_ldc (own := RX10) (v := 99999) hx hb hown (hts _ (List.mem_cons_of_mem _ wd_307)) dX10_bank_8 ?_
    refine x_callSi (As := [.int gold, .int 99999]) S hK hAm hD hP hS mt_X10_isUpTo wd_179 ⟨by decide, by decide⟩ (c_X10_isUpTo l nb nn g L M hD hL gold 99999) rfl hl.1 (Nat.le_of_ble_eq_true rfl) ⟨Nat.zero_le _, Nat.zero_le _⟩ dX10_bank_10 rfl (fun r_3 u H locs hp_ hP hS => ?_)
    obtain ⟨er_3, eu_⟩ := hp_
    rw [eu_] at hP
    clear eu_
    replace hres := xlet_n hres er_3
    refine lv_if_eq (tgt := 26) hx hb dX10_bank_13 (by decide) (fun c_4 => ?_) (fun c_4 => ?_)
    · replace hres := hres.trans (if_pos c_4)
      refine lv_ldc (own := RX10) (v := (-1000001)) hx hb hown (hts _ (List.mem_cons_of_mem _ wd_174)) dX10_bank_26 ?_
      exact x_retiG (u := (xad g, L, M)) hx hb hr hlk hP hD hS ⟨hres.symm.trans hF, Or.inl ⟨by decide, rfl⟩⟩ (Nat.zero_le _) (Nat.zero_le _) dX10_bank_28
    · replace hres := hres.trans (if_neg c_4)
      refine lv_iload_n hx hb dX10_bank_16 rfl (lv_at hl 3 rfl) ?_
      refine lv_sipush (v := 255) hx hb dX10_bank_17 (by decide) ?_
      refine x_callSi (As := [.int plate, .int 255]) S hK hAm hD hP hS mt_X10_isUpTo wd_179 ⟨by decide, by decide⟩ (c_X10_isUpTo l nb nn g L M hD hL plate 255) rfl hl.1 (Nat.le_of_ble_eq_true rfl) ⟨Nat.zero_le _, Nat.zero_le _⟩ dX10_bank_20 rfl (fun r_5 u H locs hp_ hP hS => ?_)
      obtain ⟨er_5, eu_⟩ := hp_
      rw [eu_] at hP
      clear eu_
      replace hres := xlet_n hres er_5
      refine lv_if_ne (tgt := 29) hx hb dX10_bank_23 (by decide) (fun c_6 => ?_) (fun c_6 => ?_)
      · replace hres := hres.trans (if_neg c_6)
        refine lv_aload_n hx hb dX10_bank_29 rfl (lv_at hl 0 rfl) ?_
        refine gf_RX10_84 hx hb hts hown hK hP (hL 0 0 (xe_0 nb nn)) dX10_bank_30 ?_
        refine lv_topi (fun x4_7 ex4_7 => ?_)
        replace hres := xlet_n hres ex4_7
        refine lv_istore (lv' := [(4, .int x4_7), (0, .ref (xad g 0 0)), (1, .int town), (2, .int gold), (3, .int plate)]) hx hb dX10_bank_33 hl (by decide) rfl (fun ls hl => ?_)
        refine lv_iload hx hb dX10_bank_35 (lv_at hl 0 rfl) ?_
        refine lv_bipush (v := 8) hx hb dX10_bank_37 (by decide) ?_
        refine lv_icmp_lt (tgt := 45) hx hb dX10_bank_39 (by decide) (fun c_8 => ?_) (fun c_8 => ?_)
        · replace hres := hres.trans (if_pos c_8)
          refine lv_aload_n hx hb dX10_bank_45 rfl (lv_at hl 1 rfl) ?_
          refine gf_RX10_24 hx hb hts hown hK hP (hL 0 0 (xe_0 nb nn)) dX10_bank_46 ?_
          refine lv_iload hx hb dX10_bank_49 (lv_at hl 0 rfl) ?_
          have hj0 : x4_7 = nI nb := ex4_7.trans hp0.2.1
          have hb8 := hp0.1
          have hjn : x4_7.toNatClampNeg = nb := by rw [hj0, nI_clamp (by omega)]
          have hlt : x4_7 < 8 := by first | assumption | exact Int32.not_le.mp (by assumption)
          have hnb : nb < 8 := by rw [hj0] at hlt; exact (nI_ltI (b := 8) (by omega) (by decide)).mp hlt
          have hA : ∀ q, s.heap.size ≤ q → xA g L s.heap.size q := fun q h => Or.inr h
          refine va_new (ci := 0) (fs := [.int 0, .int 0, .int 0, .int 0, .int 0, .null]) (C := RX0) (T := TX0) (N := 6) hx hb hts inT_X0 tyX0 tyX0_ok hown (hts _ (List.mem_cons_of_mem _ wd_19)) (hts _ (List.mem_cons_of_mem _ wd_309)) (hts _ (List.mem_cons_of_mem _ wd_310)) hK hP (xw_D M _ hD) hS hA rfl (fun j hj => by rcases (show j = 0 ∨ j = 1 ∨ j = 2 ∨ j = 3 ∨ j = 4 ∨ j = 5 by omega) with rfl | rfl | rfl | rfl | rfl | rfl <;> rfl) (Nat.le_of_ble_eq_true rfl) (Nat.le_of_ble_eq_true rfl) dX10_bank_51 (fun q1 H hP hD1 hS => ?_)
          have hP : va_P g.1 vwCl (xw g L M ++ [(q1, .inr (0, [.int 0, .int 0, .int 0, .int 0, .int 0, .null]))]) H := hP
          have hD1 : va_D (xA g L s.heap.size) (xw g L M ++ [(q1, .inr (0, [.int 0, .int 0, .int 0, .int 0, .int 0, .null]))]) := hD1
          refine lv_dup hx hb dX10_bank_54 rfl ?_
          refine lv_iload_n hx hb dX10_bank_55 rfl (lv_at hl 2 rfl) ?_
          refine lv_iload_n hx hb dX10_bank_56 rfl (lv_at hl 3 rfl) ?_
          refine lv_iload_n hx hb dX10_bank_57 rfl (lv_at hl 4 rfl) ?_
          obtain ⟨hPc, hDc, hAc⟩ := x_last hP hD1
          have hAH : ∀ q, H.size ≤ q → xA g L s.heap.size q := fun q h => hA q (Nat.le_trans hS.1 h)
          have hFc := x_freeA hAc hAH
          refine va_callv (va_runI (As := [.int town, .int gold, .int plate]) (rest := [.ref q1, .int x4_7, .ref (xad g 3 0)]) ⟨hx, hb, hml, hown, hts⟩ (k_X0_init l g q1 H.size town gold plate) (cwI 3 hts (x_gin wd_313) rfl rfl rfl (hts _ (List.mem_cons_of_mem _ wd_310)) (hts _ (List.mem_cons_of_mem _ wd_311)) (hts _ (List.mem_cons_of_mem _ wd_312)) rfl (by decide +kernel) ⟨Nat.le_of_ble_eq_true rfl, Nat.le_of_ble_eq_true rfl⟩) ⟨xblindK _ _ _ _, fun U hU hW => ⟨rfl, by rw [hU], by rw [hU]; exact hPc, va_K.moved hW.alike hK, hDc⟩⟩ rfl rfl hl.1 rfl (lv_room (Nat.le_of_ble_eq_true rfl)) dX10_bank_58 ⟨Nat.le_of_ble_eq_true rfl, Nat.le_of_ble_eq_true rfl⟩) hS (fun q _ h => hFc q h) hFc (fun u t H1 locs ht hvm hw hB hz1 hk1 hS => ?_)
          obtain ⟨hP1, hDd⟩ := hB
          rw [ht] at hP1
          obtain ⟨hP, hD2⟩ := x_join1 hP hD1 hAH hk1 hP1 hDd
          have hlo9 : ∀ q, xA g L s.heap.size q → xlo g ≤ q := fun q h => by
            rcases h with ⟨k, x, h1, h2⟩ | h
            · rw [← h2]; exact hD.2 k x h1
            · exact Nat.le_trans hAm.1 h
          have hhe := xw_B (g := g) (L := L) (M := M) (nb := nb) (nn := nn) (q := q1) (q1 := u 0) (t := town) (pl := plate) (go := gold) hQ hz
          obtain ⟨hPg, hDg, hAg, hAb⟩ := x_grown hhe hP hD2 hlo9
          obtain ⟨g9, hg9⟩ : ∃ z : xG, z = g.at (adB g nb q1 (u 0)) := ⟨_, rfl⟩
          rw [← hg9] at hPg hDg hAg hAb
          have hK9 : xK g9 s := by subst hg9; exact hK
          have hAm9 : xAm g9 s s.heap := by subst hg9; exact hAm
          have hS9 := va_S.mono hAb hS
          have e30 : xad g9 3 0 = xad g 3 0 := by subst hg9; simp [xad, xG.at, adB]
          have e00 : xad g9 0 0 = xad g 0 0 := by subst hg9; simp [xad, xG.at, adB]
          have e40 : xad g9 40 0 = xad g 40 0 := by subst hg9; simp [xad, xG.at, adB]
          have e27 : xad g9 27 x4_7.toNatClampNeg = q1 := by rw [hjn]; subst hg9; simp [xad, xG.at, adB]
          have hQ9 := hQ.b
          refine W.eq (g2 := F0 m 61 ls [.ref (xad g9 27 x4_7.toNatClampNeg), .int x4_7, .ref (xad g9 3 0)]) (by rw [e27, e30]) ?_
          refine x_astq (n := 8) (ci := 0) (N := 6) (C := RX0) (T := TX0) hx hb hK9 hDg hPg hS9 (hQ9.el 3 0 (xe_3 _ _)) (by rw [hjn]; simp) (xc3 g9 0) (xc27 g9 _) rfl rfl (xin (N := 8) (by rw [hj0]; exact nI_pos' (by omega)) hlt (by decide)) dX10_bank_61 (fun H locs hP hS => ?_)
          refine lv_aload_n hx hb dX10_bank_62 rfl (lv_at hl 1 rfl) ?_
          refine lv_iload hx hb dX10_bank_63 (lv_at hl 0 rfl) ?_
          refine lv_iconst (v := 1) hx hb dX10_bank_65 (by decide) ?_
          refine lv_iadd hx hb dX10_bank_66 ?_
          refine W.eq (g2 := F0 m 67 ls [.int (x4_7 + 1), .ref (xad g9 0 0)]) (by rw [e00]) ?_
          refine pf_RX10_84 hx hb hts hown hK9 hP hDg hS (hQ9.el 0 0 (xe_0 _ _)) dX10_bank_67 (fun H locs hP hS => ?_)
          refine lv_iload hx hb dX10_bank_70 (lv_at hl 0 rfl) ?_
          rw [hjn] at hres hP
          exact x_retiG (u := (adB g nb q1 (u 0), L ++ [(27, nb), (28, nb)], xup (xup (xmB nb town plate gold M) 3 0 nb 1) 0 0 12 (x4_7 + 1))) hx hb hr hlk (by subst hg9; exact hP) (by subst hg9; exact hDg) (va_S.mono hAg hS) ⟨hres.symm.trans hF, Or.inr ⟨by rw [hj0]; exact nI_pos' (by omega), hnb, hQ9, by subst hg9; exact e00, by subst hg9; exact e40⟩⟩ (Nat.le_of_ble_eq_true rfl) (Nat.le_of_ble_eq_true rfl) dX10_bank_72
        · replace hres := hres.trans (if_neg c_8)
          refine lv_ldc (own := RX10) (v := (-1000003)) hx hb hown (hts _ (List.mem_cons_of_mem _ wd_308)) dX10_bank_42 ?_
          exact x_retiG (u := (xad g, L, M)) hx hb hr hlk hP hD hS ⟨hres.symm.trans hF, Or.inl ⟨by decide, rfl⟩⟩ (Nat.zero_le _) (Nat.zero_le _) dX10_bank_44
      · replace hres := hres.trans (if_pos c_6)
        refine lv_ldc (own := RX10) (v := (-1000001)) hx hb hown (hts _ (List.mem_cons_of_mem _ wd_174)) dX10_bank_26 ?_
        exact x_retiG (u := (xad g, L, M)) hx hb hr hlk hP hD hS ⟨hres.symm.trans hF, Or.inl ⟨by decide, rfl⟩⟩ (Nat.zero_le _) (Nat.zero_le _) dX10_bank_28
def f_X10_note (bank : Int32) (sum_ : Int32) (marks : Int32) (worn : Int32) (trader : Int32) (M : xM) : Int32 × xM :=
  xlet (xb (f_X10_isUpTo bank 7 M)) fun r_1 => if r_1 = 0 then ((-1000001), M) else if sum_ < 1 then ((-1000001), M) else if sum_ ≤ 100 then xlet (xb (f_X10_isUpTo marks 255 M)) fun r_5 => if r_5 = 0 then ((-1000001), M) else xlet (xb (f_X10_isUpTo worn 255 M)) fun r_7 => if r_7 = 0 then ((-1000001), M) else xopt (f_X10_traderOf trader M) (((-1000001), M)) (fun i_10 => xlet (M 0 0 13) fun x6_14 => if x6_14 < 24 then (x6_14, xup (xup (f_X4_handOn x6_14.toNatClampNeg trader ((xmN x6_14.toNatClampNeg x6_14 bank sum_ marks worn M) 0 0 14) (xmN x6_14.toNatClampNeg x6_14 bank sum_ marks worn M)) 7 0 x6_14.toNatClampNeg 1) 0 0 13 (x6_14 + 1)) else ((-1000003), M)) else ((-1000001), M)
theorem ob_X10_note_47_p0 (nb nn : Nat) (bank : Int32) (sum_ : Int32) (marks : Int32) (worn : Int32) (trader : Int32) (M : xM) (hp0 : xHN nn M) (hp1 : xHT M) (r_1 : Int32) (er_1 : r_1 = xb (f_X10_isUpTo bank 7 M)) (c_2 : ¬ r_1 = 0) (c_3 : ¬ sum_ < 1) (c_4 : sum_ ≤ 100) (r_5 : Int32) (er_5 : r_5 = xb (f_X10_isUpTo marks 255 M)) (c_6 : ¬ r_5 = 0) (r_7 : Int32) (er_7 : r_7 = xb (f_X10_isUpTo worn 255 M)) (c_8 : ¬ r_7 = 0) : xHT M := by
  first | grind | (subst_vars; simp [xup_at] at *; done) | (subst_vars; simp [xup_at] at *; grind)
theorem ob_X10_note_47_q (nb nn : Nat) (bank : Int32) (sum_ : Int32) (marks : Int32) (worn : Int32) (trader : Int32) (M : xM) (hp0 : xHN nn M) (hp1 : xHT M) (r_1 : Int32) (er_1 : r_1 = xb (f_X10_isUpTo bank 7 M)) (c_2 : ¬ r_1 = 0) (c_3 : ¬ sum_ < 1) (c_4 : sum_ ≤ 100) (r_5 : Int32) (er_5 : r_5 = xb (f_X10_isUpTo marks 255 M)) (c_6 : ¬ r_5 = 0) (r_7 : Int32) (er_7 : r_7 = xb (f_X10_isUpTo worn 255 M)) (c_8 : ¬ r_7 = 0) (i_10 : Nat) (o_11 : f_X10_traderOf trader M = some i_10) : i_10 < 8 ∧ 0 ≤ trader ∧ trader ≤ 7 ∧ i_10 = trader.toNatClampNeg := by
  exact traderOf_s o_11
set_option maxHeartbeats 4000000 in
set_option maxRecDepth 100000 in
theorem c_X10_note (l : Launch) (nb nn : Nat) (g : xG) (L : List (Nat × Nat)) (M : xM) (hD : xD g L) (hQ : xEQ nb nn L) (bank : Int32) (sum_ : Int32) (marks : Int32) (worn : Int32) (trader : Int32) (hp0 : xHN nn M) (hp1 : xHT M) (hz : M 7 0 nn = 0) : ∀ sz : Nat, Met l yX10_note (xws yX10_note cX10_note 8 (some .int)) { frames := 3, cells := 3, slots := 37, locals := 256 } (xPre g L M sz [.ref (xad g 0 0), .int bank, .int sum_, .int marks, .int worn, .int trader]) (va_Qi (fun r u => (r, u.2.2) = f_X10_note bank sum_ marks worn trader M ∧ ((r < 0 ∧ u = (xad g, L, M)) ∨ (0 ≤ r ∧ nn < 24 ∧ xEQ nb (nn + 1) u.2.1 ∧ u.1 0 0 = xad g 0 0 ∧ u.1 40 0 = xad g 40 0))) (xPostG g) (xA g L sz)) 3 37 (xA g L sz) := by
  have hL := hQ.el
  intro sz
  refine x_begG (by decide +kernel) rfl ?_
  intro p e s m args below meth c ls hsz hB
  subst hsz
  obtain ⟨hx, hb, hml, hown, hts, hr, hlk, hK, hAm, hP, hl⟩ := hB
  have S : CallFix p m c cX10_note 8 s args (xws yX10_note cX10_note 8 (some .int)) RX10 := ⟨hx, hb, hml, hown, hts⟩
  have hown : s.vm.findClass RX10 = some m.cls := hown
  have hl : lv_has ls 8 [(0, .ref (xad g 0 0)), (1, .int bank), (2, .int sum_), (3, .int marks), (4, .int worn), (5, .int trader)] := hl
  have hS : va_S (xA g L s.heap.size) s.heap s.heap [] := va_S.rf
  obtain ⟨F, hF⟩ : ∃ F, F = f_X10_note bank sum_ marks worn trader M := ⟨_, rfl⟩
  have hres := hF
  rw [f_X10_note] at hres
  refine lv_iload_n hx hb dX10_note_0 rfl (lv_at hl 1 rfl) ?_
  refine lv_bipush (v := 7) hx hb dX10_note_1 (by decide) ?_
  refine x_callSi (As := [.int bank, .int 7]) S hK hAm hD hP hS mt_X10_isUpTo wd_179 ⟨by decide, by decide⟩ (c_X10_isUpTo l nb nn g L M hD hL bank 7) rfl hl.1 (Nat.le_of_ble_eq_true rfl) ⟨Nat.zero_le _, Nat.zero_le _⟩ dX10_note_3 rfl (fun r_1 u H locs hp_ hP hS => ?_)
  obtain ⟨er_1, eu_⟩ := hp_
  rw [eu_] at hP
  clear eu_
  replace hres := xlet_n hres er_1
  refine lv_if_eq (tgt := 20) hx hb dX10_note_6 (by decide) (fun c_2 => ?_) (fun c_2 => ?_)
  · replace hres := hres.trans (if_pos c_2)
    refine lv_ldc (own := RX10) (v := (-1000001)) hx hb hown (hts _ (List.mem_cons_of_mem _ wd_174)) dX10_note_20 ?_
    exact x_retiG (u := (xad g, L, M)) hx hb hr hlk hP hD hS ⟨hres.symm.trans hF, Or.inl ⟨by decide, rfl⟩⟩ (Nat.zero_le _) (Nat.zero_le _) dX10_note_22
  · replace hres := hres.trans (if_neg c_2)
    refine lv_iload_n hx hb dX10_note_9 rfl (lv_at hl 2 rfl) ?_
    refine lv_iconst (v := 1) hx hb dX10_note_10 (by decide) ?_
    refine lv_icmp_lt (tgt := 20) hx hb dX10_note_11 (by decide) (fun c_3 => ?_) (fun c_3 => ?_)
    · replace hres := hres.trans (if_pos c_3)
      refine lv_ldc (own := RX10) (v := (-1000001)) hx hb hown (hts _ (List.mem_cons_of_mem _ wd_174)) dX10_note_20 ?_
      exact x_retiG (u := (xad g, L, M)) hx hb hr hlk hP hD hS ⟨hres.symm.trans hF, Or.inl ⟨by decide, rfl⟩⟩ (Nat.zero_le _) (Nat.zero_le _) dX10_note_22
    · replace hres := hres.trans (if_neg c_3)
      refine lv_iload_n hx hb dX10_note_14 rfl (lv_at hl 2 rfl) ?_
      refine lv_bipush (v := 100) hx hb dX10_note_15 (by decide) ?_
      refine lv_icmp_le (tgt := 23) hx hb dX10_note_17 (by decide) (fun c_4 => ?_) (fun c_4 => ?_)
      · replace hres := hres.trans (if_pos c_4)
        refine lv_iload_n hx hb dX10_note_23 rfl (lv_at hl 3 rfl) ?_
        refine lv_sipush (v := 255) hx hb dX10_note_24 (by decide) ?_
        refine x_callSi (As := [.int marks, .int 255]) S hK hAm hD hP hS mt_X10_isUpTo wd_179 ⟨by decide, by decide⟩ (c_X10_isUpTo l nb nn g L M hD hL marks 255) rfl hl.1 (Nat.le_of_ble_eq_true rfl) ⟨Nat.zero_le _, Nat.zero_le _⟩ dX10_note_27 rfl (fun r_5 u H locs hp_ hP hS => ?_)
        obtain ⟨er_5, eu_⟩ := hp_
        rw [eu_] at hP
        clear eu_
        replace hres := xlet_n hres er_5
        refine lv_if_eq (tgt := 53) hx hb dX10_note_30 (by decide) (fun c_6 => ?_) (fun c_6 => ?_)
        · replace hres := hres.trans (if_pos c_6)
          refine lv_ldc (own := RX10) (v := (-1000001)) hx hb hown (hts _ (List.mem_cons_of_mem _ wd_174)) dX10_note_53 ?_
          exact x_retiG (u := (xad g, L, M)) hx hb hr hlk hP hD hS ⟨hres.symm.trans hF, Or.inl ⟨by decide, rfl⟩⟩ (Nat.zero_le _) (Nat.zero_le _) dX10_note_55
        · replace hres := hres.trans (if_neg c_6)
          refine lv_iload hx hb dX10_note_33 (lv_at hl 4 rfl) ?_
          refine lv_sipush (v := 255) hx hb dX10_note_35 (by decide) ?_
          refine x_callSi (As := [.int worn, .int 255]) S hK hAm hD hP hS mt_X10_isUpTo wd_179 ⟨by decide, by decide⟩ (c_X10_isUpTo l nb nn g L M hD hL worn 255) rfl hl.1 (Nat.le_of_ble_eq_true rfl) ⟨Nat.zero_le _, Nat.zero_le _⟩ dX10_note_38 rfl (fun r_7 u H locs hp_ hP hS => ?_)
          obtain ⟨er_7, eu_⟩ := hp_
          rw [eu_] at hP
          clear eu_
          replace hres := xlet_n hres er_7
          refine lv_if_eq (tgt := 53) hx hb dX10_note_41 (by decide) (fun c_8 => ?_) (fun c_8 => ?_)
          · replace hres := hres.trans (if_pos c_8)
            refine lv_ldc (own := RX10) (v := (-1000001)) hx hb hown (hts _ (List.mem_cons_of_mem _ wd_174)) dX10_note_53 ?_
            exact x_retiG (u := (xad g, L, M)) hx hb hr hlk hP hD hS ⟨hres.symm.trans hF, Or.inl ⟨by decide, rfl⟩⟩ (Nat.zero_le _) (Nat.zero_le _) dX10_note_55
          · replace hres := hres.trans (if_neg c_8)
            refine lv_aload_n hx hb dX10_note_44 rfl (lv_at hl 0 rfl) ?_
            refine lv_iload hx hb dX10_note_45 (lv_at hl 5 rfl) ?_
            refine x_callVq (As := [.int trader]) S hK hAm hD hP hS mt_X10_traderOf wd_677 ⟨by decide, by decide⟩ (hL 0 0 (xe_0 nb nn)) (xc0 g 0) rfl (c_X10_traderOf l nb nn g L M hD hL trader (ob_X10_note_47_p0 nb nn bank sum_ marks worn trader M hp0 hp1 r_1 er_1 c_2 c_3 c_4 r_5 er_5 c_6 r_7 er_7 c_8)) rfl hl.1 (Nat.le_of_ble_eq_true rfl) ⟨Nat.zero_le _, Nat.zero_le _⟩ dX10_note_47 rfl (fun r_9 u H locs hp_ hP hS => ?_)
            obtain ⟨hp_, eu_⟩ := hp_
            rw [eu_] at hP
            clear eu_
            subst hp_
            rcases o_11 : f_X10_traderOf trader M with _ | i_10
            · replace hres := xopt_n hres o_11
              refine lv_ifnonnullN hx hb dX10_note_50 ?_
              refine lv_ldc (own := RX10) (v := (-1000001)) hx hb hown (hts _ (List.mem_cons_of_mem _ wd_174)) dX10_note_53 ?_
              exact x_retiG (u := (xad g, L, M)) hx hb hr hlk hP hD hS ⟨hres.symm.trans hF, Or.inl ⟨by decide, rfl⟩⟩ (Nat.zero_le _) (Nat.zero_le _) dX10_note_55
            · replace hres := xopt_s hres o_11
              have hq_13 := (ob_X10_note_47_q nb nn bank sum_ marks worn trader M hp0 hp1 r_1 er_1 c_2 c_3 c_4 r_5 er_5 c_6 r_7 er_7 c_8 i_10 o_11)
              have hi_12 := hq_13.1
              refine lv_ifnonnull (tgt := 56) hx hb dX10_note_50 (by decide) ?_
              refine lv_aload_n hx hb dX10_note_56 rfl (lv_at hl 0 rfl) ?_
              refine gf_RX10_88 hx hb hts hown hK hP (hL 0 0 (xe_0 nb nn)) dX10_note_57 ?_
              refine lv_topi (fun x6_14 ex6_14 => ?_)
              replace hres := xlet_n hres ex6_14
              refine lv_istore (lv' := [(6, .int x6_14), (0, .ref (xad g 0 0)), (1, .int bank), (2, .int sum_), (3, .int marks), (4, .int worn), (5, .int trader)]) hx hb dX10_note_60 hl (by decide) rfl (fun ls hl => ?_)
              refine lv_iload hx hb dX10_note_62 (lv_at hl 0 rfl) ?_
              refine lv_bipush (v := 24) hx hb dX10_note_64 (by decide) ?_
              refine lv_icmp_lt (tgt := 72) hx hb dX10_note_66 (by decide) (fun c_15 => ?_) (fun c_15 => ?_)
              · replace hres := hres.trans (if_pos c_15)
                have hj0 : x6_14 = nI nn := ex6_14.trans hp0.2.1
                have hb8 := hp0.1
                have hjn : x6_14.toNatClampNeg = nn := by rw [hj0, nI_clamp (by omega)]
                have hlt : x6_14 < 24 := by first | assumption | exact Int32.not_le.mp (by assumption)
                have hnn : nn < 24 := by rw [hj0] at hlt; exact (nI_ltI (b := 24) (by omega) (by decide)).mp hlt
                have hA : ∀ q, s.heap.size ≤ q → xA g L s.heap.size q := fun q h => Or.inr h
                refine va_new (ci := 4) (fs := [.int 0, .int 0, .int 0, .int 0, .int 0, .int 0, .int 0, .int 0, .int 0, .int 0, .int 0, .null, .null]) (C := RX4) (T := TX4) (N := 13) hx hb hts inT_X4 tyX4 tyX4_ok hown (hts _ (List.mem_cons_of_mem _ wd_33)) (hts _ (List.mem_cons_of_mem _ wd_675)) (hts _ (List.mem_cons_of_mem _ wd_676)) hK hP (xw_D M _ hD) hS hA rfl (fun j hj => by rcases (show j = 0 ∨ j = 1 ∨ j = 2 ∨ j = 3 ∨ j = 4 ∨ j = 5 ∨ j = 6 ∨ j = 7 ∨ j = 8 ∨ j = 9 ∨ j = 10 ∨ j = 11 ∨ j = 12 by omega) with rfl | rfl | rfl | rfl | rfl | rfl | rfl | rfl | rfl | rfl | rfl | rfl | rfl <;> rfl) (Nat.le_of_ble_eq_true rfl) (Nat.le_of_ble_eq_true rfl) dX10_note_72 (fun q1 H hP hD1 hS => ?_)
                have hP : va_P g.1 vwCl (xw g L M ++ [(q1, .inr (4, [.int 0, .int 0, .int 0, .int 0, .int 0, .int 0, .int 0, .int 0, .int 0, .int 0, .int 0, .null, .null]))]) H := hP
                have hD1 : va_D (xA g L s.heap.size) (xw g L M ++ [(q1, .inr (4, [.int 0, .int 0, .int 0, .int 0, .int 0, .int 0, .int 0, .int 0, .int 0, .int 0, .int 0, .null, .null]))]) := hD1
                refine lv_dup hx hb dX10_note_75 rfl ?_
                refine lv_iload hx hb dX10_note_76 (lv_at hl 0 rfl) ?_
                refine lv_iload_n hx hb dX10_note_78 rfl (lv_at hl 2 rfl) ?_
                refine lv_iload_n hx hb dX10_note_79 rfl (lv_at hl 3 rfl) ?_
                refine lv_iload_n hx hb dX10_note_80 rfl (lv_at hl 4 rfl) ?_
                refine lv_iload hx hb dX10_note_81 (lv_at hl 5 rfl) ?_
                obtain ⟨hPc, hDc, hAc⟩ := x_last hP hD1
                have hAH : ∀ q, H.size ≤ q → xA g L s.heap.size q := fun q h => hA q (Nat.le_trans hS.1 h)
                have hFc := x_freeA hAc hAH
                refine va_callv (va_runI (As := [.int x6_14, .int bank, .int sum_, .int marks, .int worn]) (rest := [.ref q1]) ⟨hx, hb, hml, hown, hts⟩ (k_X4_init l g q1 H.size x6_14 bank sum_ marks worn) (cwI 5 hts (x_gin wd_683) rfl rfl rfl (hts _ (List.mem_cons_of_mem _ wd_676)) (hts _ (List.mem_cons_of_mem _ wd_681)) (hts _ (List.mem_cons_of_mem _ wd_682)) rfl (by decide +kernel) ⟨Nat.le_of_ble_eq_true rfl, Nat.le_of_ble_eq_true rfl⟩) ⟨xblindK _ _ _ _, fun U hU hW => ⟨rfl, by rw [hU], by rw [hU]; exact hPc, va_K.moved hW.alike hK, hDc⟩⟩ rfl rfl hl.1 rfl (lv_room (Nat.le_of_ble_eq_true rfl)) dX10_note_83 ⟨Nat.le_of_ble_eq_true rfl, Nat.le_of_ble_eq_true rfl⟩) hS (fun q _ h => hFc q h) hFc (fun u t H1 locs ht hvm hw hB hz1 hk1 hS => ?_)
                obtain ⟨hP1, hDd⟩ := hB
                rw [ht] at hP1
                obtain ⟨hP, hD2⟩ := x_join1 hP hD1 hAH hk1 hP1 hDd
                have hlo9 : ∀ q, xA g L s.heap.size q → xlo g ≤ q := fun q h => by
                  rcases h with ⟨k, x, h1, h2⟩ | h
                  · rw [← h2]; exact hD.2 k x h1
                  · exact Nat.le_trans hAm.1 h
                have hhe := xw_N (g := g) (L := L) (M := M) (nb := nb) (nn := nn) (q := q1) (q1 := u 0) (q2 := u 1) (nr := x6_14) (bk := bank) (su := sum_) (ma := marks) (wo := worn) hQ hz
                obtain ⟨hPg, hDg, hAg, hAb⟩ := x_grown hhe hP hD2 hlo9
                obtain ⟨g9, hg9⟩ : ∃ z : xG, z = g.at (adN g nn q1 (u 0) (u 1)) := ⟨_, rfl⟩
                rw [← hg9] at hPg hDg hAg hAb
                have hK9 : xK g9 s := by subst hg9; exact hK
                have hAm9 : xAm g9 s s.heap := by subst hg9; exact hAm
                have hS9 := va_S.mono hAb hS
                have e70 : xad g9 7 0 = xad g 7 0 := by subst hg9; simp [xad, xG.at, adN]
                have e00 : xad g9 0 0 = xad g 0 0 := by subst hg9; simp [xad, xG.at, adN]
                have e40 : xad g9 40 0 = xad g 40 0 := by subst hg9; simp [xad, xG.at, adN]
                have e29 : xad g9 29 x6_14.toNatClampNeg = q1 := by rw [hjn]; subst hg9; simp [xad, xG.at, adN]
                have hQ9 := hQ.n
                have hL9 := hQ9.el
                refine lv_astore (lv' := [(7, .ref q1), (6, .int x6_14), (0, .ref (xad g 0 0)), (1, .int bank), (2, .int sum_), (3, .int marks), (4, .int worn), (5, .int trader)]) hx hb dX10_note_86 hl (by decide) rfl (fun ls hl => ?_)
                refine lv_aload hx hb dX10_note_88 (lv_at hl 0 rfl) ?_
                refine lv_iload hx hb dX10_note_90 (lv_at hl 7 rfl) ?_
                refine lv_aload_n hx hb dX10_note_92 rfl (lv_at hl 2 rfl) ?_
                refine W.eq (g2 := F0 m 93 ls [.ref (xad g9 0 0), .int trader, .ref (xad g9 29 nn)]) (by rw [e00, ← hjn, e29]) ?_
                refine gf_RX10_91 hx hb hts hown hK9 hPg (hL9 0 0 (xe_0 _ _)) dX10_note_93 ?_
                refine x_callVv (As := [.int trader, .int ((xmN nn x6_14 bank sum_ marks worn M) 0 0 14)]) S hK9 hAm9 hDg hPg hS9 mt_X4_handOn wd_699 ⟨by decide, by decide⟩ (hL9 29 nn (Nat.lt_succ_self nn)) (xc29 g9 nn) rfl (c_X4_handOn l nb (nn + 1) g9 _ _ hDg hL9 nn trader _ (Nat.lt_succ_self nn)) rfl hl.1 (Nat.le_of_ble_eq_true rfl) ⟨Nat.le_of_ble_eq_true rfl, Nat.le_of_ble_eq_true rfl⟩ dX10_note_96 rfl (fun M_9 H locs eM_9 hP hS => ?_)
                refine lv_aload_n hx hb dX10_note_99 rfl (lv_at hl 2 rfl) ?_
                refine W.eq (g2 := F0 m 100 ls [.ref (xad g9 0 0)]) (by rw [e00]) ?_
                refine gf_RX10_53 hx hb hts hown hK9 hP (hL9 0 0 (xe_0 _ _)) dX10_note_100 ?_
                refine lv_iload hx hb dX10_note_103 (lv_at hl 1 rfl) ?_
                refine lv_aload hx hb dX10_note_105 (lv_at hl 0 rfl) ?_
                refine W.eq (g2 := F0 m 107 ls [.ref (xad g9 29 x6_14.toNatClampNeg), .int x6_14, .ref (xad g9 7 0)]) (by rw [e29]) ?_
                refine x_astq (n := 24) (ci := 4) (N := 13) (C := RX4) (T := TX4) hx hb hK9 hDg hP hS (hL9 7 0 (xe_7 _ _)) (by rw [hjn]; simp) (xc7 g9 0) (xc29 g9 _) rfl rfl (xin (N := 24) (by rw [hj0]; exact nI_pos' (by omega)) hlt (by decide)) dX10_note_107 (fun H locs hP hS => ?_)
                refine lv_aload_n hx hb dX10_note_108 rfl (lv_at hl 2 rfl) ?_
                refine lv_iload hx hb dX10_note_109 (lv_at hl 1 rfl) ?_
                refine lv_iconst (v := 1) hx hb dX10_note_111 (by decide) ?_
                refine lv_iadd hx hb dX10_note_112 ?_
                refine W.eq (g2 := F0 m 113 ls [.int (x6_14 + 1), .ref (xad g9 0 0)]) (by rw [e00]) ?_
                refine pf_RX10_88 hx hb hts hown hK9 hP hDg hS (hL9 0 0 (xe_0 _ _)) dX10_note_113 (fun H locs hP hS => ?_)
                refine lv_iload hx hb dX10_note_116 (lv_at hl 1 rfl) ?_
                rw [hjn] at hres hP
                rw [← eM_9] at hres
                exact x_retiG (u := (adN g nn q1 (u 0) (u 1), L ++ [(29, nn), (30, nn), (31, nn)], xup (xup M_9 7 0 nn 1) 0 0 13 (x6_14 + 1))) hx hb hr hlk (by subst hg9; exact hP) (by subst hg9; exact hDg) (va_S.mono hAg hS) ⟨hres.symm.trans hF, Or.inr ⟨by rw [hj0]; exact nI_pos' (by omega), hnn, hQ9, by subst hg9; exact e00, by subst hg9; exact e40⟩⟩ (Nat.le_of_ble_eq_true rfl) (Nat.le_of_ble_eq_true rfl) dX10_note_118
              · replace hres := hres.trans (if_neg c_15)
                refine lv_ldc (own := RX10) (v := (-1000003)) hx hb hown (hts _ (List.mem_cons_of_mem _ wd_308)) dX10_note_69 ?_
                exact x_retiG (u := (xad g, L, M)) hx hb hr hlk hP hD hS ⟨hres.symm.trans hF, Or.inl ⟨by decide, rfl⟩⟩ (Nat.zero_le _) (Nat.zero_le _) dX10_note_71
      · replace hres := hres.trans (if_neg c_4)
        refine lv_ldc (own := RX10) (v := (-1000001)) hx hb hown (hts _ (List.mem_cons_of_mem _ wd_174)) dX10_note_20 ?_
        exact x_retiG (u := (xad g, L, M)) hx hb hr hlk hP hD hS ⟨hres.symm.trans hF, Or.inl ⟨by decide, rfl⟩⟩ (Nat.zero_le _) (Nat.zero_le _) dX10_note_22
