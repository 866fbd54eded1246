def f_X11_readEntry (w : Int32) (M : xM) : xM :=
  xlet (f_X11_entryOfWord M) fun r_1 => if r_1 = (-1000000) then xlet (f_X11_must 0 M) fun M_5 => xlet2 (f_X11_numberTo ((M_5 40 0 7) - 1) M_5) fun r_6 M_7 => if r_1 = 1 then xlet2 (f_X11_numberTo 255 M_7) fun r_18 M_19 => if (M_19 40 0 28) = 0 then xlet (xup M_19 65 0 (M_19 40 0 19).toNatClampNeg w) fun M_21 => xlet (xup M_21 66 0 (M_21 40 0 19).toNatClampNeg r_1) fun M_22 => xlet (xup M_22 67 0 (M_22 40 0 19).toNatClampNeg r_6) fun M_23 => xlet (xup M_23 68 0 (M_23 40 0 19).toNatClampNeg r_18) fun M_24 => xlet ((M_24 40 0 19) + 1) fun v_25 => xlet (xup M_24 40 0 19 v_25) fun M_26 => M_26 else M_19 else xlet2 (f_X11_numberTo 100 M_7) fun r_9 M_10 => if (M_10 40 0 28) = 0 then xlet (xup M_10 65 0 (M_10 40 0 19).toNatClampNeg w) fun M_12 => xlet (xup M_12 66 0 (M_12 40 0 19).toNatClampNeg r_1) fun M_13 => xlet (xup M_13 67 0 (M_13 40 0 19).toNatClampNeg r_6) fun M_14 => xlet (xup M_14 68 0 (M_14 40 0 19).toNatClampNeg r_9) fun M_15 => xlet ((M_15 40 0 19) + 1) fun v_16 => xlet (xup M_15 40 0 19 v_16) fun M_17 => M_17 else M_10 else if (M 40 0 19) = 40 then xlet (f_X11_bad 3 M) fun M_53 => xlet (f_X11_must 1 M_53) fun M_56 => xlet2 (f_X11_numberTo ((M_56 40 0 7) - 1) M_56) fun r_57 M_58 => if r_1 = 1 then xlet2 (f_X11_numberTo 255 M_58) fun r_69 M_70 => if (M_70 40 0 28) = 0 then xlet (xup M_70 65 0 (M_70 40 0 19).toNatClampNeg w) fun M_72 => xlet (xup M_72 66 0 (M_72 40 0 19).toNatClampNeg r_1) fun M_73 => xlet (xup M_73 67 0 (M_73 40 0 19).toNatClampNeg r_57) fun M_74 => xlet (xup M_74 68 0 (M_74 40 0 19).toNatClampNeg r_69) fun M_75 => xlet ((M_75 40 0 19) + 1) fun v_76 => xlet (xup M_75 40 0 19 v_76) fun M_77 => M_77 else M_70 else xlet2 (f_X11_numberTo 100 M_58) fun r_60 M_61 => if (M_61 40 0 28) = 0 then xlet (xup M_61 65 0 (M_61 40 0 19).toNatClampNeg w) fun M_63 => xlet (xup M_63 66 0 (M_63 40 0 19).toNatClampNeg r_1) fun M_64 => xlet (xup M_64 67 0 (M_64 40 0 19).toNatClampNeg r_57) fun M_65 => xlet (xup M_65 68 0 (M_65 40 0 19).toNatClampNeg r_60) fun M_66 => xlet ((M_66 40 0 19) + 1) fun v_67 => xlet (xup M_66 40 0 19 v_67) fun M_68 => M_68 else M_61 else xlet (f_X11_must 1 M) fun M_30 => xlet2 (f_X11_numberTo ((M_30 40 0 7) - 1) M_30) fun r_31 M_32 => if r_1 = 1 then xlet2 (f_X11_numberTo 255 M_32) fun r_43 M_44 => if (M_44 40 0 28) = 0 then xlet (xup M_44 65 0 (M_44 40 0 19).toNatClampNeg w) fun M_46 => xlet (xup M_46 66 0 (M_46 40 0 19).toNatClampNeg r_1) fun M_47 => xlet (xup M_47 67 0 (M_47 40 0 19).toNatClampNeg r_31) fun M_48 => xlet (xup M_48 68 0 (M_48 40 0 19).toNatClampNeg r_43) fun M_49 => xlet ((M_49 40 0 19) + 1) fun v_50 => xlet (xup M_49 40 0 19 v_50) fun M_51 => M_51 else M_44 else xlet2 (f_X11_numberTo 100 M_32) fun r_34 M_35 => if (M_35 40 0 28) = 0 then xlet (xup M_35 65 0 (M_35 40 0 19).toNatClampNeg w) fun M_37 => xlet (xup M_37 66 0 (M_37 40 0 19).toNatClampNeg r_1) fun M_38 => xlet (xup M_38 67 0 (M_38 40 0 19).toNatClampNeg r_31) fun M_39 => xlet (xup M_39 68 0 (M_39 40 0 19).toNatClampNeg r_34) fun M_40 => xlet ((M_40 40 0 19) + 1) fun v_41 => xlet (xup M_40 40 0 19 v_41) fun M_42 => M_42 else M_35
def f_X11_saidOf_L15 (town : Int32) (w : Int32) (b : Int32) (what : Int32) (till : Int32) (N_ : xM) : Nat → Int32 → Int32 → (Int32 → Int32 → Int32 × xM) → Int32 × xM
  | 0, _, _, _ => (0, N_)
  | n + 1, best, k, kx => if (N_ 40 0 14) ≤ k then kx best k else if (N_ 66 0 k.toNatClampNeg) = what then if (N_ 67 0 k.toNatClampNeg) = b then if till < (N_ 65 0 k.toNatClampNeg) then xlet (k + 1) fun x7_10 => f_X11_saidOf_L15 town w b what till N_ n best x7_10 kx else if best = (-1000000) then xlet (k + 1) fun x7_13 => f_X11_saidOf_L15 town w b what till N_ n k x7_13 kx else if (N_ 65 0 k.toNatClampNeg) < (N_ 65 0 best.toNatClampNeg) then xlet (k + 1) fun x7_15 => f_X11_saidOf_L15 town w b what till N_ n best x7_15 kx else xlet (k + 1) fun x7_16 => f_X11_saidOf_L15 town w b what till N_ n k x7_16 kx else xlet (k + 1) fun x7_7 => f_X11_saidOf_L15 town w b what till N_ n best x7_7 kx else xlet (k + 1) fun x7_4 => f_X11_saidOf_L15 town w b what till N_ n best x7_4 kx
def f_X11_saidOf (town : Int32) (w : Int32) (b : Int32) (what : Int32) (M : xM) : Int32 × xM :=
  xlet2 (f_X11_bookWeek town w M) fun r_17 M_18 => f_X11_saidOf_L15 town w b what r_17 M_18 (xmu (0 : Int32) (M_18 40 0 14) + 1) (-1000000 : Int32) (0 : Int32) (fun best_19 k_20 => if best_19 = (-1000000) then ((-1000000), M_18) else ((M_18 68 0 best_19.toNatClampNeg), M_18))
def f_X11_falsePlates_L14 (town : Int32) (w : Int32) (b : Int32) (note : Int32) (till : Int32) (N_ : xM) : Nat → Int32 → Int32 → (Int32 → Int32 → Int32 × xM) → Int32 × xM
  | 0, _, _, _ => (0, N_)
  | n + 1, z, k, kx => if (N_ 40 0 14) ≤ k then kx z k else if (N_ 66 0 k.toNatClampNeg) = 1 then if (N_ 67 0 k.toNatClampNeg) = b then if till < (N_ 65 0 k.toNatClampNeg) then xlet (z + 0) fun x6_12 => xlet (k + 1) fun x7_13 => f_X11_falsePlates_L14 town w b note till N_ n x6_12 x7_13 kx else if note = (-1000000) then xlet (z + 1) fun x6_16 => xlet (k + 1) fun x7_17 => f_X11_falsePlates_L14 town w b note till N_ n x6_16 x7_17 kx else if (((N_ 83 0 note.toNatClampNeg) ^^^ (N_ 68 0 k.toNatClampNeg)) &&& ((N_ 84 0 note.toNatClampNeg) ^^^ (-1))) = 0 then xlet (z + 1) fun x6_21 => xlet (k + 1) fun x7_22 => f_X11_falsePlates_L14 town w b note till N_ n x6_21 x7_22 kx else xlet (z + 0) fun x6_19 => xlet (k + 1) fun x7_20 => f_X11_falsePlates_L14 town w b note till N_ n x6_19 x7_20 kx else xlet (z + 0) fun x6_8 => xlet (k + 1) fun x7_9 => f_X11_falsePlates_L14 town w b note till N_ n x6_8 x7_9 kx else xlet (z + 0) fun x6_4 => xlet (k + 1) fun x7_5 => f_X11_falsePlates_L14 town w b note till N_ n x6_4 x7_5 kx
def f_X11_falsePlates (town : Int32) (w : Int32) (b : Int32) (note : Int32) (M : xM) : Int32 × xM :=
  xlet2 (f_X11_bookWeek town w M) fun r_23 M_24 => f_X11_falsePlates_L14 town w b note r_23 M_24 (xmu (0 : Int32) (M_24 40 0 14) + 1) (0 : Int32) (0 : Int32) (fun z_25 k_26 => (z_25, M_24))
theorem ob_X11_readEntry_1_p0 (nb nn : Nat) (w : Int32) (M : xM) (hp0 : pI M) (hp1 : pF M) (hp2 : 0 ≤ M 40 0 19) (hp3 : M 40 0 19 ≤ 40) : pI M := by
  subst_vars
  first
  | assumption
  | grind [pI_must, pI_bad, pF_must, pF_bad, pI_numberTo, pF_numberTo, n19_must, n19_bad, n19_numberTo, must_f, numberTo_f2, bad3_28, re_dead0, re_dead3, xup_at]
theorem ob_X11_readEntry_37_p0 (nb nn : Nat) (w : Int32) (M : xM) (hp0 : pI M) (hp1 : pF M) (hp2 : 0 ≤ M 40 0 19) (hp3 : M 40 0 19 ≤ 40) (r_1 : Int32) (er_1 : r_1 = f_X11_entryOfWord M) (c_2 : r_1 = (-1000000)) : pI M := by
  subst_vars
  first
  | assumption
  | grind [pI_must, pI_bad, pF_must, pF_bad, pI_numberTo, pF_numberTo, n19_must, n19_bad, n19_numberTo, must_f, numberTo_f2, bad3_28, re_dead0, re_dead3, xup_at]
theorem ob_X11_readEntry_47_p0 (nb nn : Nat) (w : Int32) (M : xM) (hp0 : pI M) (hp1 : pF M) (hp2 : 0 ≤ M 40 0 19) (hp3 : M 40 0 19 ≤ 40) (r_1 : Int32) (er_1 : r_1 = f_X11_entryOfWord M) (c_2 : r_1 = (-1000000)) (M_5 : xM) (eM_5 : M_5 = f_X11_must 0 M) : pI M_5 := by
  subst_vars
  first
  | assumption
  | grind [pI_must, pI_bad, pF_must, pF_bad, pI_numberTo, pF_numberTo, n19_must, n19_bad, n19_numberTo, must_f, numberTo_f2, bad3_28, re_dead0, re_dead3, xup_at]
theorem ob_X11_readEntry_65_p0 (nb nn : Nat) (w : Int32) (M : xM) (hp0 : pI M) (hp1 : pF M) (hp2 : 0 ≤ M 40 0 19) (hp3 : M 40 0 19 ≤ 40) (r_1 : Int32) (er_1 : r_1 = f_X11_entryOfWord M) (c_2 : r_1 = (-1000000)) (M_5 : xM) (eM_5 : M_5 = f_X11_must 0 M) (r_6 : Int32) (M_7 : xM) (er_6 : r_6 = (f_X11_numberTo ((M_5 40 0 7) - 1) M_5).1) (eM_7 : M_7 = (f_X11_numberTo ((M_5 40 0 7) - 1) M_5).2) (c_8 : ¬ r_1 = 1) : pI M_7 := by
  subst_vars
  first
  | assumption
  | grind [pI_must, pI_bad, pF_must, pF_bad, pI_numberTo, pF_numberTo, n19_must, n19_bad, n19_numberTo, must_f, numberTo_f2, bad3_28, re_dead0, re_dead3, xup_at]
theorem ob_X11_readEntry_86_in (nb nn : Nat) (w : Int32) (M : xM) (hp0 : pI M) (hp1 : pF M) (hp2 : 0 ≤ M 40 0 19) (hp3 : M 40 0 19 ≤ 40) (r_1 : Int32) (er_1 : r_1 = f_X11_entryOfWord M) (c_2 : r_1 = (-1000000)) (M_5 : xM) (eM_5 : M_5 = f_X11_must 0 M) (r_6 : Int32) (M_7 : xM) (er_6 : r_6 = (f_X11_numberTo ((M_5 40 0 7) - 1) M_5).1) (eM_7 : M_7 = (f_X11_numberTo ((M_5 40 0 7) - 1) M_5).2) (c_8 : ¬ r_1 = 1) (r_9 : Int32) (M_10 : xM) (er_9 : r_9 = (f_X11_numberTo 100 M_7).1) (eM_10 : M_10 = (f_X11_numberTo 100 M_7).2) (c_11 : (M_10 40 0 28) = 0) : vp_in (M_10 40 0 19) 40 := by
  subst_vars
  exact xin (N := 40) (by grind [pI_must, pI_bad, pF_must, pF_bad, pI_numberTo, pF_numberTo, n19_must, n19_bad, n19_numberTo, must_f, numberTo_f2, bad3_28, re_dead0, re_dead3, xup_at]) (by grind [pI_must, pI_bad, pF_must, pF_bad, pI_numberTo, pF_numberTo, n19_must, n19_bad, n19_numberTo, must_f, numberTo_f2, bad3_28, re_dead0, re_dead3, xup_at]) (by decide)
theorem ob_X11_readEntry_96_in (nb nn : Nat) (w : Int32) (M : xM) (hp0 : pI M) (hp1 : pF M) (hp2 : 0 ≤ M 40 0 19) (hp3 : M 40 0 19 ≤ 40) (r_1 : Int32) (er_1 : r_1 = f_X11_entryOfWord M) (c_2 : r_1 = (-1000000)) (M_5 : xM) (eM_5 : M_5 = f_X11_must 0 M) (r_6 : Int32) (M_7 : xM) (er_6 : r_6 = (f_X11_numberTo ((M_5 40 0 7) - 1) M_5).1) (eM_7 : M_7 = (f_X11_numberTo ((M_5 40 0 7) - 1) M_5).2) (c_8 : ¬ r_1 = 1) (r_9 : Int32) (M_10 : xM) (er_9 : r_9 = (f_X11_numberTo 100 M_7).1) (eM_10 : M_10 = (f_X11_numberTo 100 M_7).2) (c_11 : (M_10 40 0 28) = 0) (M_12 : xM) (eM_12 : M_12 = xup M_10 65 0 (M_10 40 0 19).toNatClampNeg w) : vp_in (M_12 40 0 19) 40 := by
  subst_vars
  exact xin (N := 40) (by grind [pI_must, pI_bad, pF_must, pF_bad, pI_numberTo, pF_numberTo, n19_must, n19_bad, n19_numberTo, must_f, numberTo_f2, bad3_28, re_dead0, re_dead3, xup_at]) (by grind [pI_must, pI_bad, pF_must, pF_bad, pI_numberTo, pF_numberTo, n19_must, n19_bad, n19_numberTo, must_f, numberTo_f2, bad3_28, re_dead0, re_dead3, xup_at]) (by decide)
theorem ob_X11_readEntry_106_in (nb nn : Nat) (w : Int32) (M : xM) (hp0 : pI M) (hp1 : pF M) (hp2 : 0 ≤ M 40 0 19) (hp3 : M 40 0 19 ≤ 40) (r_1 : Int32) (er_1 : r_1 = f_X11_entryOfWord M) (c_2 : r_1 = (-1000000)) (M_5 : xM) (eM_5 : M_5 = f_X11_must 0 M) (r_6 : Int32) (M_7 : xM) (er_6 : r_6 = (f_X11_numberTo ((M_5 40 0 7) - 1) M_5).1) (eM_7 : M_7 = (f_X11_numberTo ((M_5 40 0 7) - 1) M_5).2) (c_8 : ¬ r_1 = 1) (r_9 : Int32) (M_10 : xM) (er_9 : r_9 = (f_X11_numberTo 100 M_7).1) (eM_10 : M_10 = (f_X11_numberTo 100 M_7).2) (c_11 : (M_10 40 0 28) = 0) (M_12 : xM) (eM_12 : M_12 = xup M_10 65 0 (M_10 40 0 19).toNatClampNeg w) (M_13 : xM) (eM_13 : M_13 = xup M_12 66 0 (M_12 40 0 19).toNatClampNeg r_1) : vp_in (M_13 40 0 19) 40 := by
  subst_vars
  exact xin (N := 40) (by grind [pI_must, pI_bad, pF_must, pF_bad, pI_numberTo, pF_numberTo, n19_must, n19_bad, n19_numberTo, must_f, numberTo_f2, bad3_28, re_dead0, re_dead3, xup_at]) (by grind [pI_must, pI_bad, pF_must, pF_bad, pI_numberTo, pF_numberTo, n19_must, n19_bad, n19_numberTo, must_f, numberTo_f2, bad3_28, re_dead0, re_dead3, xup_at]) (by decide)
theorem ob_X11_readEntry_117_in (nb nn : Nat) (w : Int32) (M : xM) (hp0 : pI M) (hp1 : pF M) (hp2 : 0 ≤ M 40 0 19) (hp3 : M 40 0 19 ≤ 40) (r_1 : Int32) (er_1 : r_1 = f_X11_entryOfWord M) (c_2 : r_1 = (-1000000)) (M_5 : xM) (eM_5 : M_5 = f_X11_must 0 M) (r_6 : Int32) (M_7 : xM) (er_6 : r_6 = (f_X11_numberTo ((M_5 40 0 7) - 1) M_5).1) (eM_7 : M_7 = (f_X11_numberTo ((M_5 40 0 7) - 1) M_5).2) (c_8 : ¬ r_1 = 1) (r_9 : Int32) (M_10 : xM) (er_9 : r_9 = (f_X11_numberTo 100 M_7).1) (eM_10 : M_10 = (f_X11_numberTo 100 M_7).2) (c_11 : (M_10 40 0 28) = 0) (M_12 : xM) (eM_12 : M_12 = xup M_10 65 0 (M_10 40 0 19).toNatClampNeg w) (M_13 : xM) (eM_13 : M_13 = xup M_12 66 0 (M_12 40 0 19).toNatClampNeg r_1) (M_14 : xM) (eM_14 : M_14 = xup M_13 67 0 (M_13 40 0 19).toNatClampNeg r_6) : vp_in (M_14 40 0 19) 40 := by
  subst_vars
  exact xin (N := 40) (by grind [pI_must, pI_bad, pF_must, pF_bad, pI_numberTo, pF_numberTo, n19_must, n19_bad, n19_numberTo, must_f, numberTo_f2, bad3_28, re_dead0, re_dead3, xup_at]) (by grind [pI_must, pI_bad, pF_must, pF_bad, pI_numberTo, pF_numberTo, n19_must, n19_bad, n19_numberTo, must_f, numberTo_f2, bad3_28, re_dead0, re_dead3, xup_at]) (by decide)
theorem ob_X11_readEntry_65_p0_2 (nb nn : Nat) (w : Int32) (M : xM) (hp0 : pI M) (hp1 : pF M) (hp2 : 0 ≤ M 40 0 19) (hp3 : M 40 0 19 ≤ 40) (r_1 : Int32) (er_1 : r_1 = f_X11_entryOfWord M) (c_2 : r_1 = (-1000000)) (M_5 : xM) (eM_5 : M_5 = f_X11_must 0 M) (r_6 : Int32) (M_7 : xM) (er_6 : r_6 = (f_X11_numberTo ((M_5 40 0 7) - 1) M_5).1) (eM_7 : M_7 = (f_X11_numberTo ((M_5 40 0 7) - 1) M_5).2) (c_8 : r_1 = 1) : pI M_7 := by
  subst_vars
  first
  | assumption
  | grind [pI_must, pI_bad, pF_must, pF_bad, pI_numberTo, pF_numberTo, n19_must, n19_bad, n19_numberTo, must_f, numberTo_f2, bad3_28, re_dead0, re_dead3, xup_at]
theorem ob_X11_readEntry_86_in_2 (nb nn : Nat) (w : Int32) (M : xM) (hp0 : pI M) (hp1 : pF M) (hp2 : 0 ≤ M 40 0 19) (hp3 : M 40 0 19 ≤ 40) (r_1 : Int32) (er_1 : r_1 = f_X11_entryOfWord M) (c_2 : r_1 = (-1000000)) (M_5 : xM) (eM_5 : M_5 = f_X11_must 0 M) (r_6 : Int32) (M_7 : xM) (er_6 : r_6 = (f_X11_numberTo ((M_5 40 0 7) - 1) M_5).1) (eM_7 : M_7 = (f_X11_numberTo ((M_5 40 0 7) - 1) M_5).2) (c_8 : r_1 = 1) (r_18 : Int32) (M_19 : xM) (er_18 : r_18 = (f_X11_numberTo 255 M_7).1) (eM_19 : M_19 = (f_X11_numberTo 255 M_7).2) (c_20 : (M_19 40 0 28) = 0) : vp_in (M_19 40 0 19) 40 := by
  subst_vars
  exact xin (N := 40) (by grind [pI_must, pI_bad, pF_must, pF_bad, pI_numberTo, pF_numberTo, n19_must, n19_bad, n19_numberTo, must_f, numberTo_f2, bad3_28, re_dead0, re_dead3, xup_at]) (by grind [pI_must, pI_bad, pF_must, pF_bad, pI_numberTo, pF_numberTo, n19_must, n19_bad, n19_numberTo, must_f, numberTo_f2, bad3_28, re_dead0, re_dead3, xup_at]) (by decide)
theorem ob_X11_readEntry_96_in_2 (nb nn : Nat) (w : Int32) (M : xM) (hp0 : pI M) (hp1 : pF M) (hp2 : 0 ≤ M 40 0 19) (hp3 : M 40 0 19 ≤ 40) (r_1 : Int32) (er_1 : r_1 = f_X11_entryOfWord M) (c_2 : r_1 = (-1000000)) (M_5 : xM) (eM_5 : M_5 = f_X11_must 0 M) (r_6 : Int32) (M_7 : xM) (er_6 : r_6 = (f_X11_numberTo ((M_5 40 0 7) - 1) M_5).1) (eM_7 : M_7 = (f_X11_numberTo ((M_5 40 0 7) - 1) M_5).2) (c_8 : r_1 = 1) (r_18 : Int32) (M_19 : xM) (er_18 : r_18 = (f_X11_numberTo 255 M_7).1) (eM_19 : M_19 = (f_X11_numberTo 255 M_7).2) (c_20 : (M_19 40 0 28) = 0) (M_21 : xM) (eM_21 : M_21 = xup M_19 65 0 (M_19 40 0 19).toNatClampNeg w) : vp_in (M_21 40 0 19) 40 := by
  subst_vars
  exact xin (N := 40) (by grind [pI_must, pI_bad, pF_must, pF_bad, pI_numberTo, pF_numberTo, n19_must, n19_bad, n19_numberTo, must_f, numberTo_f2, bad3_28, re_dead0, re_dead3, xup_at]) (by grind [pI_must, pI_bad, pF_must, pF_bad, pI_numberTo, pF_numberTo, n19_must, n19_bad, n19_numberTo, must_f, numberTo_f2, bad3_28, re_dead0, re_dead3, xup_at]) (by decide)
theorem ob_X11_readEntry_106_in_2 (nb nn : Nat) (w : Int32) (M : xM) (hp0 : pI M) (hp1 : pF M) (hp2 : 0 ≤ M 40 0 19) (hp3 : M 40 0 19 ≤ 40) (r_1 : Int32) (er_1 : r_1 = f_X11_entryOfWord M) (c_2 : r_1 = (-1000000)) (M_5 : xM) (eM_5 : M_5 = f_X11_must 0 M) (r_6 : Int32) (M_7 : xM) (er_6 : r_6 = (f_X11_numberTo ((M_5 40 0 7) - 1) M_5).1) (eM_7 : M_7 = (f_X11_numberTo ((M_5 40 0 7) - 1) M_5).2) (c_8 : r_1 = 1) (r_18 : Int32) (M_19 : xM) (er_18 : r_18 = (f_X11_numberTo 255 M_7).1) (eM_19 : M_19 = (f_X11_numberTo 255 M_7).2) (c_20 : (M_19 40 0 28) = 0) (M_21 : xM) (eM_21 : M_21 = xup M_19 65 0 (M_19 40 0 19).toNatClampNeg w) (M_22 : xM) (eM_22 : M_22 = xup M_21 66 0 (M_21 40 0 19).toNatClampNeg r_1) : vp_in (M_22 40 0 19) 40 := by
  subst_vars
  exact xin (N := 40) (by grind [pI_must, pI_bad, pF_must, pF_bad, pI_numberTo, pF_numberTo, n19_must, n19_bad, n19_numberTo, must_f, numberTo_f2, bad3_28, re_dead0, re_dead3, xup_at]) (by grind [pI_must, pI_bad, pF_must, pF_bad, pI_numberTo, pF_numberTo, n19_must, n19_bad, n19_numberTo, must_f, numberTo_f2, bad3_28, re_dead0, re_dead3, xup_at]) (by decide)
theorem ob_X11_readEntry_117_in_2 (nb nn : Nat) (w : Int32) (M : xM) (hp0 : pI M) (hp1 : pF M) (hp2 : 0 ≤ M 40 0 19) (hp3 : M 40 0 19 ≤ 40) (r_1 : Int32) (er_1 : r_1 = f_X11_entryOfWord M) (c_2 : r_1 = (-1000000)) (M_5 : xM) (eM_5 : M_5 = f_X11_must 0 M) (r_6 : Int32) (M_7 : xM) (er_6 : r_6 = (f_X11_numberTo ((M_5 40 0 7) - 1) M_5).1) (eM_7 : M_7 = (f_X11_numberTo ((M_5 40 0 7) - 1) M_5).2) (c_8 : r_1 = 1) (r_18 : Int32) (M_19 : xM) (er_18 : r_18 = (f_X11_numberTo 255 M_7).1) (eM_19 : M_19 = (f_X11_numberTo 255 M_7).2) (c_20 : (M_19 40 0 28) = 0) (M_21 : xM) (eM_21 : M_21 = xup M_19 65 0 (M_19 40 0 19).toNatClampNeg w) (M_22 : xM) (eM_22 : M_22 = xup M_21 66 0 (M_21 40 0 19).toNatClampNeg r_1) (M_23 : xM) (eM_23 : M_23 = xup M_22 67 0 (M_22 40 0 19).toNatClampNeg r_6) : vp_in (M_23 40 0 19) 40 := by
  subst_vars
  exact xin (N := 40) (by grind [pI_must, pI_bad, pF_must, pF_bad, pI_numberTo, pF_numberTo, n19_must, n19_bad, n19_numberTo, must_f, numberTo_f2, bad3_28, re_dead0, re_dead3, xup_at]) (by grind [pI_must, pI_bad, pF_must, pF_bad, pI_numberTo, pF_numberTo, n19_must, n19_bad, n19_numberTo, must_f, numberTo_f2, bad3_28, re_dead0, re_dead3, xup_at]) (by decide)
theorem ob_X11_readEntry_37_p0_2 (nb nn : Nat) (w : Int32) (M : xM) (hp0 : pI M) (hp1 : pF M) (hp2 : 0 ≤ M 40 0 19) (hp3 : M 40 0 19 ≤ 40) (r_1 : Int32) (er_1 : r_1 = f_X11_entryOfWord M) (c_2 : ¬ r_1 = (-1000000)) (c_27 : ¬ (M 40 0 19) = 40) : pI M := by
  subst_vars
  first
  | assumption
  | grind [pI_must, pI_bad, pF_must, pF_bad, pI_numberTo, pF_numberTo, n19_must, n19_bad, n19_numberTo, must_f, numberTo_f2, bad3_28, re_dead0, re_dead3, xup_at]
theorem ob_X11_readEntry_47_p0_2 (nb nn : Nat) (w : Int32) (M : xM) (hp0 : pI M) (hp1 : pF M) (hp2 : 0 ≤ M 40 0 19) (hp3 : M 40 0 19 ≤ 40) (r_1 : Int32) (er_1 : r_1 = f_X11_entryOfWord M) (c_2 : ¬ r_1 = (-1000000)) (c_27 : ¬ (M 40 0 19) = 40) (M_30 : xM) (eM_30 : M_30 = f_X11_must 1 M) : pI M_30 := by
  subst_vars
  first
  | assumption
  | grind [pI_must, pI_bad, pF_must, pF_bad, pI_numberTo, pF_numberTo, n19_must, n19_bad, n19_numberTo, must_f, numberTo_f2, bad3_28, re_dead0, re_dead3, xup_at]
theorem ob_X11_readEntry_65_p0_3 (nb nn : Nat) (w : Int32) (M : xM) (hp0 : pI M) (hp1 : pF M) (hp2 : 0 ≤ M 40 0 19) (hp3 : M 40 0 19 ≤ 40) (r_1 : Int32) (er_1 : r_1 = f_X11_entryOfWord M) (c_2 : ¬ r_1 = (-1000000)) (c_27 : ¬ (M 40 0 19) = 40) (M_30 : xM) (eM_30 : M_30 = f_X11_must 1 M) (r_31 : Int32) (M_32 : xM) (er_31 : r_31 = (f_X11_numberTo ((M_30 40 0 7) - 1) M_30).1) (eM_32 : M_32 = (f_X11_numberTo ((M_30 40 0 7) - 1) M_30).2) (c_33 : ¬ r_1 = 1) : pI M_32 := by
  subst_vars
  first
  | assumption
  | grind [pI_must, pI_bad, pF_must, pF_bad, pI_numberTo, pF_numberTo, n19_must, n19_bad, n19_numberTo, must_f, numberTo_f2, bad3_28, re_dead0, re_dead3, xup_at]
theorem ob_X11_readEntry_86_in_3 (nb nn : Nat) (w : Int32) (M : xM) (hp0 : pI M) (hp1 : pF M) (hp2 : 0 ≤ M 40 0 19) (hp3 : M 40 0 19 ≤ 40) (r_1 : Int32) (er_1 : r_1 = f_X11_entryOfWord M) (c_2 : ¬ r_1 = (-1000000)) (c_27 : ¬ (M 40 0 19) = 40) (M_30 : xM) (eM_30 : M_30 = f_X11_must 1 M) (r_31 : Int32) (M_32 : xM) (er_31 : r_31 = (f_X11_numberTo ((M_30 40 0 7) - 1) M_30).1) (eM_32 : M_32 = (f_X11_numberTo ((M_30 40 0 7) - 1) M_30).2) (c_33 : ¬ r_1 = 1) (r_34 : Int32) (M_35 : xM) (er_34 : r_34 = (f_X11_numberTo 100 M_32).1) (eM_35 : M_35 = (f_X11_numberTo 100 M_32).2) (c_36 : (M_35 40 0 28) = 0) : vp_in (M_35 40 0 19) 40 := by
  subst_vars
  exact xin (N := 40) (by grind [pI_must, pI_bad, pF_must, pF_bad, pI_numberTo, pF_numberTo, n19_must, n19_bad, n19_numberTo, must_f, numberTo_f2, bad3_28, re_dead0, re_dead3, xup_at]) (by grind [pI_must, pI_bad, pF_must, pF_bad, pI_numberTo, pF_numberTo, n19_must, n19_bad, n19_numberTo, must_f, numberTo_f2, bad3_28, re_dead0, re_dead3, xup_at]) (by decide)
theorem ob_X11_readEntry_96_in_3 (nb nn : Nat) (w : Int32) (M : xM) (hp0 : pI M) (hp1 : pF M) (hp2 : 0 ≤ M 40 0 19) (hp3 : M 40 0 19 ≤ 40) (r_1 : Int32) (er_1 : r_1 = f_X11_entryOfWord M) (c_2 : ¬ r_1 = (-1000000)) (c_27 : ¬ (M 40 0 19) = 40) (M_30 : xM) (eM_30 : M_30 = f_X11_must 1 M) (r_31 : Int32) (M_32 : xM) (er_31 : r_31 = (f_X11_numberTo ((M_30 40 0 7) - 1) M_30).1) (eM_32 : M_32 = (f_X11_numberTo ((M_30 40 0 7) - 1) M_30).2) (c_33 : ¬ r_1 = 1) (r_34 : Int32) (M_35 : xM) (er_34 : r_34 = (f_X11_numberTo 100 M_32).1) (eM_35 : M_35 = (f_X11_numberTo 100 M_32).2) (c_36 : (M_35 40 0 28) = 0) (M_37 : xM) (eM_37 : M_37 = xup M_35 65 0 (M_35 40 0 19).toNatClampNeg w) : vp_in (M_37 40 0 19) 40 := by
  subst_vars
  exact xin (N := 40) (by grind [pI_must, pI_bad, pF_must, pF_bad, pI_numberTo, pF_numberTo, n19_must, n19_bad, n19_numberTo, must_f, numberTo_f2, bad3_28, re_dead0, re_dead3, xup_at]) (by grind [pI_must, pI_bad, pF_must, pF_bad, pI_numberTo, pF_numberTo, n19_must, n19_bad, n19_numberTo, must_f, numberTo_f2, bad3_28, re_dead0, re_dead3, xup_at]) (by decide)
theorem ob_X11_readEntry_106_in_3 (nb nn : Nat) (w : Int32) (M : xM) (hp0 : pI M) (hp1 : pF M) (hp2 : 0 ≤ M 40 0 19) (hp3 : M 40 0 19 ≤ 40) (r_1 : Int32) (er_1 : r_1 = f_X11_entryOfWord M) (c_2 : ¬ r_1 = (-1000000)) (c_27 : ¬ (M 40 0 19) = 40) (M_30 : xM) (eM_30 : M_30 = f_X11_must 1 M) (r_31 : Int32) (M_32 : xM) (er_31 : r_31 = (f_X11_numberTo ((M_30 40 0 7) - 1) M_30).1) (eM_32 : M_32 = (f_X11_numberTo ((M_30 40 0 7) - 1) M_30).2) (c_33 : ¬ r_1 = 1) (r_34 : Int32) (M_35 : xM) (er_34 : r_34 = (f_X11_numberTo 100 M_32).1) (eM_35 : M_35 = (f_X11_numberTo 100 M_32).2) (c_36 : (M_35 40 0 28) = 0) (M_37 : xM) (eM_37 : M_37 = xup M_35 65 0 (M_35 40 0 19).toNatClampNeg w) (M_38 : xM) (eM_38 : M_38 = xup M_37 66 0 (M_37 40 0 19).toNatClampNeg r_1) : vp_in (M_38 40 0 19) 40 := by
  subst_vars
  exact xin (N := 40) (by grind [pI_must, pI_bad, pF_must, pF_bad, pI_numberTo, pF_numberTo, n19_must, n19_bad, n19_numberTo, must_f, numberTo_f2, bad3_28, re_dead0, re_dead3, xup_at]) (by grind [pI_must, pI_bad, pF_must, pF_bad, pI_numberTo, pF_numberTo, n19_must, n19_bad, n19_numberTo, must_f, numberTo_f2, bad3_28, re_dead0, re_dead3, xup_at]) (by decide)
theorem ob_X11_readEntry_117_in_3 (nb nn : Nat) (w : Int32) (M : xM) (hp0 : pI M) (hp1 : pF M) (hp2 : 0 ≤ M 40 0 19) (hp3 : M 40 0 19 ≤ 40) (r_1 : Int32) (er_1 : r_1 = f_X11_entryOfWord M) (c_2 : ¬ r_1 = (-1000000)) (c_27 : ¬ (M 40 0 19) = 40) (M_30 : xM) (eM_30 : M_30 = f_X11_must 1 M) (r_31 : Int32) (M_32 : xM) (er_31 : r_31 = (f_X11_numberTo ((M_30 40 0 7) - 1) M_30).1) (eM_32 : M_32 = (f_X11_numberTo ((M_30 40 0 7) - 1) M_30).2) (c_33 : ¬ r_1 = 1) (r_34 : Int32) (M_35 : xM) (er_34 : r_34 = (f_X11_numberTo 100 M_32).1) (eM_35 : M_35 = (f_X11_numberTo 100 M_32).2) (c_36 : (M_35 40 0 28) = 0) (M_37 : xM) (eM_37 : M_37 = xup M_35 65 0 (M_35 40 0 19).toNatClampNeg w) (M_38 : xM) (eM_38 : M_38 = xup M_37 66 0 (M_37 40 0 19).toNatClampNeg r_1) (M_39 : xM) (eM_39 : M_39 = xup M_38 67 0 (M_38 40 0 19).toNatClampNeg r_31) : vp_in (M_39 40 0 19) 40 := by
  subst_vars
  exact xin (N := 40) (by grind [pI_must, pI_bad, pF_must, pF_bad, pI_numberTo, pF_numberTo, n19_must, n19_bad, n19_numberTo, must_f, numberTo_f2, bad3_28, re_dead0, re_dead3, xup_at]) (by grind [pI_must, pI_bad, pF_must, pF_bad, pI_numberTo, pF_numberTo, n19_must, n19_bad, n19_numberTo, must_f, numberTo_f2, bad3_28, re_dead0, re_dead3, xup_at]) (by decide)
theorem ob_X11_readEntry_65_p0_4 (nb nn : Nat) (w : Int32) (M : xM) (hp0 : pI M) (hp1 : pF M) (hp2 : 0 ≤ M 40 0 19) (hp3 : M 40 0 19 ≤ 40) (r_1 : Int32) (er_1 : r_1 = f_X11_entryOfWord M) (c_2 : ¬ r_1 = (-1000000)) (c_27 : ¬ (M 40 0 19) = 40) (M_30 : xM) (eM_30 : M_30 = f_X11_must 1 M) (r_31 : Int32) (M_32 : xM) (er_31 : r_31 = (f_X11_numberTo ((M_30 40 0 7) - 1) M_30).1) (eM_32 : M_32 = (f_X11_numberTo ((M_30 40 0 7) - 1) M_30).2) (c_33 : r_1 = 1) : pI M_32 := by
  subst_vars
  first
  | assumption
  | grind [pI_must, pI_bad, pF_must, pF_bad, pI_numberTo, pF_numberTo, n19_must, n19_bad, n19_numberTo, must_f, numberTo_f2, bad3_28, re_dead0, re_dead3, xup_at]
theorem ob_X11_readEntry_86_in_4 (nb nn : Nat) (w : Int32) (M : xM) (hp0 : pI M) (hp1 : pF M) (hp2 : 0 ≤ M 40 0 19) (hp3 : M 40 0 19 ≤ 40) (r_1 : Int32) (er_1 : r_1 = f_X11_entryOfWord M) (c_2 : ¬ r_1 = (-1000000)) (c_27 : ¬ (M 40 0 19) = 40) (M_30 : xM) (eM_30 : M_30 = f_X11_must 1 M) (r_31 : Int32) (M_32 : xM) (er_31 : r_31 = (f_X11_numberTo ((M_30 40 0 7) - 1) M_30).1) (eM_32 : M_32 = (f_X11_numberTo ((M_30 40 0 7) - 1) M_30).2) (c_33 : r_1 = 1) (r_43 : Int32) (M_44 : xM) (er_43 : r_43 = (f_X11_numberTo 255 M_32).1) (eM_44 : M_44 = (f_X11_numberTo 255 M_32).2) (c_45 : (M_44 40 0 28) = 0) : vp_in (M_44 40 0 19) 40 := by
  subst_vars
  exact xin (N := 40) (by grind [pI_must, pI_bad, pF_must, pF_bad, pI_numberTo, pF_numberTo, n19_must, n19_bad, n19_numberTo, must_f, numberTo_f2, bad3_28, re_dead0, re_dead3, xup_at]) (by grind [pI_must, pI_bad, pF_must, pF_bad, pI_numberTo, pF_numberTo, n19_must, n19_bad, n19_numberTo, must_f, numberTo_f2, bad3_28, re_dead0, re_dead3, xup_at]) (by decide)
theorem ob_X11_readEntry_96_in_4 (nb nn : Nat) (w : Int32) (M : xM) (hp0 : pI M) (hp1 : pF M) (hp2 : 0 ≤ M 40 0 19) (hp3 : M 40 0 19 ≤ 40) (r_1 : Int32) (er_1 : r_1 = f_X11_entryOfWord M) (c_2 : ¬ r_1 = (-1000000)) (c_27 : ¬ (M 40 0 19) = 40) (M_30 : xM) (eM_30 : M_30 = f_X11_must 1 M) (r_31 : Int32) (M_32 : xM) (er_31 : r_31 = (f_X11_numberTo ((M_30 40 0 7) - 1) M_30).1) (eM_32 : M_32 = (f_X11_numberTo ((M_30 40 0 7) - 1) M_30).2) (c_33 : r_1 = 1) (r_43 : Int32) (M_44 : xM) (er_43 : r_43 = (f_X11_numberTo 255 M_32).1) (eM_44 : M_44 = (f_X11_numberTo 255 M_32).2) (c_45 : (M_44 40 0 28) = 0) (M_46 : xM) (eM_46 : M_46 = xup M_44 65 0 (M_44 40 0 19).toNatClampNeg w) : vp_in (M_46 40 0 19) 40 := by
  subst_vars
  exact xin (N := 40) (by grind [pI_must, pI_bad, pF_must, pF_bad, pI_numberTo, pF_numberTo, n19_must, n19_bad, n19_numberTo, must_f, numberTo_f2, bad3_28, re_dead0, re_dead3, xup_at]) (by grind [pI_must, pI_bad, pF_must, pF_bad, pI_numberTo, pF_numberTo, n19_must, n19_bad, n19_numberTo, must_f, numberTo_f2, bad3_28, re_dead0, re_dead3, xup_at]) (by decide)
theorem ob_X11_readEntry_106_in_4 (nb nn : Nat) (w : Int32) (M : xM) (hp0 : pI M) (hp1 : pF M) (hp2 : 0 ≤ M 40 0 19) (hp3 : M 40 0 19 ≤ 40) (r_1 : Int32) (er_1 : r_1 = f_X11_entryOfWord M) (c_2 : ¬ r_1 = (-1000000)) (c_27 : ¬ (M 40 0 19) = 40) (M_30 : xM) (eM_30 : M_30 = f_X11_must 1 M) (r_31 : Int32) (M_32 : xM) (er_31 : r_31 = (f_X11_numberTo ((M_30 40 0 7) - 1) M_30).1) (eM_32 : M_32 = (f_X11_numberTo ((M_30 40 0 7) - 1) M_30).2) (c_33 : r_1 = 1) (r_43 : Int32) (M_44 : xM) (er_43 : r_43 = (f_X11_numberTo 255 M_32).1) (eM_44 : M_44 = (f_X11_numberTo 255 M_32).2) (c_45 : (M_44 40 0 28) = 0) (M_46 : xM) (eM_46 : M_46 = xup M_44 65 0 (M_44 40 0 19).toNatClampNeg w) (M_47 : xM) (eM_47 : M_47 = xup M_46 66 0 (M_46 40 0 19).toNatClampNeg r_1) : vp_in (M_47 40 0 19) 40 := by
  subst_vars
  exact xin (N := 40) (by grind [pI_must, pI_bad, pF_must, pF_bad, pI_numberTo, pF_numberTo, n19_must, n19_bad, n19_numberTo, must_f, numberTo_f2, bad3_28, re_dead0, re_dead3, xup_at]) (by grind [pI_must, pI_bad, pF_must, pF_bad, pI_numberTo, pF_numberTo, n19_must, n19_bad, n19_numberTo, must_f, numberTo_f2, bad3_28, re_dead0, re_dead3, xup_at]) (by decide)
theorem ob_X11_readEntry_117_in_4 (nb nn : Nat) (w : Int32) (M : xM) (hp0 : pI M) (hp1 : pF M) (hp2 : 0 ≤ M 40 0 19) (hp3 : M 40 0 19 ≤ 40) (r_1 : Int32) (er_1 : r_1 = f_X11_entryOfWord M) (c_2 : ¬ r_1 = (-1000000)) (c_27 : ¬ (M 40 0 19) = 40) (M_30 : xM) (eM_30 : M_30 = f_X11_must 1 M) (r_31 : Int32) (M_32 : xM) (er_31 : r_31 = (f_X11_numberTo ((M_30 40 0 7) - 1) M_30).1) (eM_32 : M_32 = (f_X11_numberTo ((M_30 40 0 7) - 1) M_30).2) (c_33 : r_1 = 1) (r_43 : Int32) (M_44 : xM) (er_43 : r_43 = (f_X11_numberTo 255 M_32).1) (eM_44 : M_44 = (f_X11_numberTo 255 M_32).2) (c_45 : (M_44 40 0 28) = 0) (M_46 : xM) (eM_46 : M_46 = xup M_44 65 0 (M_44 40 0 19).toNatClampNeg w) (M_47 : xM) (eM_47 : M_47 = xup M_46 66 0 (M_46 40 0 19).toNatClampNeg r_1) (M_48 : xM) (eM_48 : M_48 = xup M_47 67 0 (M_47 40 0 19).toNatClampNeg r_31) : vp_in (M_48 40 0 19) 40 := by
  subst_vars
  exact xin (N := 40) (by grind [pI_must, pI_bad, pF_must, pF_bad, pI_numberTo, pF_numberTo, n19_must, n19_bad, n19_numberTo, must_f, numberTo_f2, bad3_28, re_dead0, re_dead3, xup_at]) (by grind [pI_must, pI_bad, pF_must, pF_bad, pI_numberTo, pF_numberTo, n19_must, n19_bad, n19_numberTo, must_f, numberTo_f2, bad3_28, re_dead0, re_dead3, xup_at]) (by decide)
theorem ob_X11_readEntry_37_p0_3 (nb nn : Nat) (w : Int32) (M : xM) (hp0 : pI M) (hp1 : pF M) (hp2 : 0 ≤ M 40 0 19) (hp3 : M 40 0 19 ≤ 40) (r_1 : Int32) (er_1 : r_1 = f_X11_entryOfWord M) (c_2 : ¬ r_1 = (-1000000)) (c_27 : (M 40 0 19) = 40) (M_53 : xM) (eM_53 : M_53 = f_X11_bad 3 M) : pI M_53 := by
  subst_vars
  first
  | assumption
  | grind [pI_must, pI_bad, pF_must, pF_bad, pI_numberTo, pF_numberTo, n19_must, n19_bad, n19_numberTo, must_f, numberTo_f2, bad3_28, re_dead0, re_dead3, xup_at]
theorem ob_X11_readEntry_47_p0_3 (nb nn : Nat) (w : Int32) (M : xM) (hp0 : pI M) (hp1 : pF M) (hp2 : 0 ≤ M 40 0 19) (hp3 : M 40 0 19 ≤ 40) (r_1 : Int32) (er_1 : r_1 = f_X11_entryOfWord M) (c_2 : ¬ r_1 = (-1000000)) (c_27 : (M 40 0 19) = 40) (M_53 : xM) (eM_53 : M_53 = f_X11_bad 3 M) (M_56 : xM) (eM_56 : M_56 = f_X11_must 1 M_53) : pI M_56 := by
  subst_vars
  first
  | assumption
  | grind [pI_must, pI_bad, pF_must, pF_bad, pI_numberTo, pF_numberTo, n19_must, n19_bad, n19_numberTo, must_f, numberTo_f2, bad3_28, re_dead0, re_dead3, xup_at]
theorem ob_X11_readEntry_65_p0_5 (nb nn : Nat) (w : Int32) (M : xM) (hp0 : pI M) (hp1 : pF M) (hp2 : 0 ≤ M 40 0 19) (hp3 : M 40 0 19 ≤ 40) (r_1 : Int32) (er_1 : r_1 = f_X11_entryOfWord M) (c_2 : ¬ r_1 = (-1000000)) (c_27 : (M 40 0 19) = 40) (M_53 : xM) (eM_53 : M_53 = f_X11_bad 3 M) (M_56 : xM) (eM_56 : M_56 = f_X11_must 1 M_53) (r_57 : Int32) (M_58 : xM) (er_57 : r_57 = (f_X11_numberTo ((M_56 40 0 7) - 1) M_56).1) (eM_58 : M_58 = (f_X11_numberTo ((M_56 40 0 7) - 1) M_56).2) (c_59 : ¬ r_1 = 1) : pI M_58 := by
  subst_vars
  first
  | assumption
  | grind [pI_must, pI_bad, pF_must, pF_bad, pI_numberTo, pF_numberTo, n19_must, n19_bad, n19_numberTo, must_f, numberTo_f2, bad3_28, re_dead0, re_dead3, xup_at]
theorem ob_X11_readEntry_86_in_5 (nb nn : Nat) (w : Int32) (M : xM) (hp0 : pI M) (hp1 : pF M) (hp2 : 0 ≤ M 40 0 19) (hp3 : M 40 0 19 ≤ 40) (r_1 : Int32) (er_1 : r_1 = f_X11_entryOfWord M) (c_2 : ¬ r_1 = (-1000000)) (c_27 : (M 40 0 19) = 40) (M_53 : xM) (eM_53 : M_53 = f_X11_bad 3 M) (M_56 : xM) (eM_56 : M_56 = f_X11_must 1 M_53) (r_57 : Int32) (M_58 : xM) (er_57 : r_57 = (f_X11_numberTo ((M_56 40 0 7) - 1) M_56).1) (eM_58 : M_58 = (f_X11_numberTo ((M_56 40 0 7) - 1) M_56).2) (c_59 : ¬ r_1 = 1) (r_60 : Int32) (M_61 : xM) (er_60 : r_60 = (f_X11_numberTo 100 M_58).1) (eM_61 : M_61 = (f_X11_numberTo 100 M_58).2) (c_62 : (M_61 40 0 28) = 0) : vp_in (M_61 40 0 19) 40 := by
  subst_vars
  exact xin (N := 40) (by grind [pI_must, pI_bad, pF_must, pF_bad, pI_numberTo, pF_numberTo, n19_must, n19_bad, n19_numberTo, must_f, numberTo_f2, bad3_28, re_dead0, re_dead3, xup_at]) (by grind [pI_must, pI_bad, pF_must, pF_bad, pI_numberTo, pF_numberTo, n19_must, n19_bad, n19_numberTo, must_f, numberTo_f2, bad3_28, re_dead0, re_dead3, xup_at]) (by decide)
theorem ob_X11_readEntry_96_in_5 (nb nn : Nat) (w : Int32) (M : xM) (hp0 : pI M) (hp1 : pF M) (hp2 : 0 ≤ M 40 0 19) (hp3 : M 40 0 19 ≤ 40) (r_1 : Int32) (er_1 : r_1 = f_X11_entryOfWord M) (c_2 : ¬ r_1 = (-1000000)) (c_27 : (M 40 0 19) = 40) (M_53 : xM) (eM_53 : M_53 = f_X11_bad 3 M) (M_56 : xM) (eM_56 : M_56 = f_X11_must 1 M_53) (r_57 : Int32) (M_58 : xM) (er_57 : r_57 = (f_X11_numberTo ((M_56 40 0 7) - 1) M_56).1) (eM_58 : M_58 = (f_X11_numberTo ((M_56 40 0 7) - 1) M_56).2) (c_59 : ¬ r_1 = 1) (r_60 : Int32) (M_61 : xM) (er_60 : r_60 = (f_X11_numberTo 100 M_58).1) (eM_61 : M_61 = (f_X11_numberTo 100 M_58).2) (c_62 : (M_61 40 0 28) = 0) (M_63 : xM) (eM_63 : M_63 = xup M_61 65 0 (M_61 40 0 19).toNatClampNeg w) : vp_in (M_63 40 0 19) 40 := by
  subst_vars
  exact xin (N := 40) (by grind [pI_must, pI_bad, pF_must, pF_bad, pI_numberTo, pF_numberTo, n19_must, n19_bad, n19_numberTo, must_f, numberTo_f2, bad3_28, re_dead0, re_dead3, xup_at]) (by grind [pI_must, pI_bad, pF_must, pF_bad, pI_numberTo, pF_numberTo, n19_must, n19_bad, n19_numberTo, must_f, numberTo_f2, bad3_28, re_dead0, re_dead3, xup_at]) (by decide)
theorem ob_X11_readEntry_106_in_5 (nb nn : Nat) (w : Int32) (M : xM) (hp0 : pI M) (hp1 : pF M) (hp2 : 0 ≤ M 40 0 19) (hp3 : M 40 0 19 ≤ 40) (r_1 : Int32) (er_1 : r_1 = f_X11_entryOfWord M) (c_2 : ¬ r_1 = (-1000000)) (c_27 : (M 40 0 19) = 40) (M_53 : xM) (eM_53 : M_53 = f_X11_bad 3 M) (M_56 : xM) (eM_56 : M_56 = f_X11_must 1 M_53) (r_57 : Int32) (M_58 : xM) (er_57 : r_57 = (f_X11_numberTo ((M_56 40 0 7) - 1) M_56).1) (eM_58 : M_58 = (f_X11_numberTo ((M_56 40 0 7) - 1) M_56).2) (c_59 : ¬ r_1 = 1) (r_60 : Int32) (M_61 : xM) (er_60 : r_60 = (f_X11_numberTo 100 M_58).1) (eM_61 : M_61 = (f_X11_numberTo 100 M_58).2) (c_62 : (M_61 40 0 28) = 0) (M_63 : xM) (eM_63 : M_63 = xup M_61 65 0 (M_61 40 0 19).toNatClampNeg w) (M_64 : xM) (eM_64 : M_64 = xup M_63 66 0 (M_63 40 0 19).toNatClampNeg r_1) : vp_in (M_64 40 0 19) 40 := by
  subst_vars
  exact xin (N := 40) (by grind [pI_must, pI_bad, pF_must, pF_bad, pI_numberTo, pF_numberTo, n19_must, n19_bad, n19_numberTo, must_f, numberTo_f2, bad3_28, re_dead0, re_dead3, xup_at]) (by grind [pI_must, pI_bad, pF_must, pF_bad, pI_numberTo, pF_numberTo, n19_must, n19_bad, n19_numberTo, must_f, numberTo_f2, bad3_28, re_dead0, re_dead3, xup_at]) (by decide)
theorem ob_X11_readEntry_117_in_5 (nb nn : Nat) (w : Int32) (M : xM) (hp0 : pI M) (hp1 : pF M) (hp2 : 0 ≤ M 40 0 19) (hp3 : M 40 0 19 ≤ 40) (r_1 : Int32) (er_1 : r_1 = f_X11_entryOfWord M) (c_2 : ¬ r_1 = (-1000000)) (c_27 : (M 40 0 19) = 40) (M_53 : xM) (eM_53 : M_53 = f_X11_bad 3 M) (M_56 : xM) (eM_56 : M_56 = f_X11_must 1 M_53) (r_57 : Int32) (M_58 : xM) (er_57 : r_57 = (f_X11_numberTo ((M_56 40 0 7) - 1) M_56).1) (eM_58 : M_58 = (f_X11_numberTo ((M_56 40 0 7) - 1) M_56).2) (c_59 : ¬ r_1 = 1) (r_60 : Int32) (M_61 : xM) (er_60 : r_60 = (f_X11_numberTo 100 M_58).1) (eM_61 : M_61 = (f_X11_numberTo 100 M_58).2) (c_62 : (M_61 40 0 28) = 0) (M_63 : xM) (eM_63 : M_63 = xup M_61 65 0 (M_61 40 0 19).toNatClampNeg w) (M_64 : xM) (eM_64 : M_64 = xup M_63 66 0 (M_63 40 0 19).toNatClampNeg r_1) (M_65 : xM) (eM_65 : M_65 = xup M_64 67 0 (M_64 40 0 19).toNatClampNeg r_57) : vp_in (M_65 40 0 19) 40 := by
  subst_vars
  exact xin (N := 40) (by grind [pI_must, pI_bad, pF_must, pF_bad, pI_numberTo, pF_numberTo, n19_must, n19_bad, n19_numberTo, must_f, numberTo_f2, bad3_28, re_dead0, re_dead3, xup_at]) (by grind [pI_must, pI_bad, pF_must, pF_bad, pI_numberTo, pF_numberTo, n19_must, n19_bad, n19_numberTo, must_f, numberTo_f2, bad3_28, re_dead0, re_dead3, xup_at]) (by decide)
theorem ob_X11_readEntry_65_p0_6 (nb nn : Nat) (w : Int32) (M : xM) (hp0 : pI M) (hp1 : pF M) (hp2 : 0 ≤ M 40 0 19) (hp3 : M 40 0 19 ≤ 40) (r_1 : Int32) (er_1 : r_1 = f_X11_entryOfWord M) (c_2 : ¬ r_1 = (-1000000)) (c_27 : (M 40 0 19) = 40) (M_53 : xM) (eM_53 : M_53 = f_X11_bad 3 M) (M_56 : xM) (eM_56 : M_56 = f_X11_must 1 M_53) (r_57 : Int32) (M_58 : xM) (er_57 : r_57 = (f_X11_numberTo ((M_56 40 0 7) - 1) M_56).1) (eM_58 : M_58 = (f_X11_numberTo ((M_56 40 0 7) - 1) M_56).2) (c_59 : r_1 = 1) : pI M_58 := by
  subst_vars
  first
  | assumption
  | grind [pI_must, pI_bad, pF_must, pF_bad, pI_numberTo, pF_numberTo, n19_must, n19_bad, n19_numberTo, must_f, numberTo_f2, bad3_28, re_dead0, re_dead3, xup_at]
theorem ob_X11_readEntry_86_in_6 (nb nn : Nat) (w : Int32) (M : xM) (hp0 : pI M) (hp1 : pF M) (hp2 : 0 ≤ M 40 0 19) (hp3 : M 40 0 19 ≤ 40) (r_1 : Int32) (er_1 : r_1 = f_X11_entryOfWord M) (c_2 : ¬ r_1 = (-1000000)) (c_27 : (M 40 0 19) = 40) (M_53 : xM) (eM_53 : M_53 = f_X11_bad 3 M) (M_56 : xM) (eM_56 : M_56 = f_X11_must 1 M_53) (r_57 : Int32) (M_58 : xM) (er_57 : r_57 = (f_X11_numberTo ((M_56 40 0 7) - 1) M_56).1) (eM_58 : M_58 = (f_X11_numberTo ((M_56 40 0 7) - 1) M_56).2) (c_59 : r_1 = 1) (r_69 : Int32) (M_70 : xM) (er_69 : r_69 = (f_X11_numberTo 255 M_58).1) (eM_70 : M_70 = (f_X11_numberTo 255 M_58).2) (c_71 : (M_70 40 0 28) = 0) : vp_in (M_70 40 0 19) 40 := by
  subst_vars
  exact xin (N := 40) (by grind [pI_must, pI_bad, pF_must, pF_bad, pI_numberTo, pF_numberTo, n19_must, n19_bad, n19_numberTo, must_f, numberTo_f2, bad3_28, re_dead0, re_dead3, xup_at]) (by grind [pI_must, pI_bad, pF_must, pF_bad, pI_numberTo, pF_numberTo, n19_must, n19_bad, n19_numberTo, must_f, numberTo_f2, bad3_28, re_dead0, re_dead3, xup_at]) (by decide)
theorem ob_X11_readEntry_96_in_6 (nb nn : Nat) (w : Int32) (M : xM) (hp0 : pI M) (hp1 : pF M) (hp2 : 0 ≤ M 40 0 19) (hp3 : M 40 0 19 ≤ 40) (r_1 : Int32) (er_1 : r_1 = f_X11_entryOfWord M) (c_2 : ¬ r_1 = (-1000000)) (c_27 : (M 40 0 19) = 40) (M_53 : xM) (eM_53 : M_53 = f_X11_bad 3 M) (M_56 : xM) (eM_56 : M_56 = f_X11_must 1 M_53) (r_57 : Int32) (M_58 : xM) (er_57 : r_57 = (f_X11_numberTo ((M_56 40 0 7) - 1) M_56).1) (eM_58 : M_58 = (f_X11_numberTo ((M_56 40 0 7) - 1) M_56).2) (c_59 : r_1 = 1) (r_69 : Int32) (M_70 : xM) (er_69 : r_69 = (f_X11_numberTo 255 M_58).1) (eM_70 : M_70 = (f_X11_numberTo 255 M_58).2) (c_71 : (M_70 40 0 28) = 0) (M_72 : xM) (eM_72 : M_72 = xup M_70 65 0 (M_70 40 0 19).toNatClampNeg w) : vp_in (M_72 40 0 19) 40 := by
  subst_vars
  exact xin (N := 40) (by grind [pI_must, pI_bad, pF_must, pF_bad, pI_numberTo, pF_numberTo, n19_must, n19_bad, n19_numberTo, must_f, numberTo_f2, bad3_28, re_dead0, re_dead3, xup_at]) (by grind [pI_must, pI_bad, pF_must, pF_bad, pI_numberTo, pF_numberTo, n19_must, n19_bad, n19_numberTo, must_f, numberTo_f2, bad3_28, re_dead0, re_dead3, xup_at]) (by decide)
theorem ob_X11_readEntry_106_in_6 (nb nn : Nat) (w : Int32) (M : xM) (hp0 : pI M) (hp1 : pF M) (hp2 : 0 ≤ M 40 0 19) (hp3 : M 40 0 19 ≤ 40) (r_1 : Int32) (er_1 : r_1 = f_X11_entryOfWord M) (c_2 : ¬ r_1 = (-1000000)) (c_27 : (M 40 0 19) = 40) (M_53 : xM) (eM_53 : M_53 = f_X11_bad 3 M) (M_56 : xM) (eM_56 : M_56 = f_X11_must 1 M_53) (r_57 : Int32) (M_58 : xM) (er_57 : r_57 = (f_X11_numberTo ((M_56 40 0 7) - 1) M_56).1) (eM_58 : M_58 = (f_X11_numberTo ((M_56 40 0 7) - 1) M_56).2) (c_59 : r_1 = 1) (r_69 : Int32) (M_70 : xM) (er_69 : r_69 = (f_X11_numberTo 255 M_58).1) (eM_70 : M_70 = (f_X11_numberTo 255 M_58).2) (c_71 : (M_70 40 0 28) = 0) (M_72 : xM) (eM_72 : M_72 = xup M_70 65 0 (M_70 40 0 19).toNatClampNeg w) (M_73 : xM) (eM_73 : M_73 = xup M_72 66 0 (M_72 40 0 19).toNatClampNeg r_1) : vp_in (M_73 40 0 19) 40 := by
  subst_vars
  exact xin (N := 40) (by grind [pI_must, pI_bad, pF_must, pF_bad, pI_numberTo, pF_numberTo, n19_must, n19_bad, n19_numberTo, must_f, numberTo_f2, bad3_28, re_dead0, re_dead3, xup_at]) (by grind [pI_must, pI_bad, pF_must, pF_bad, pI_numberTo, pF_numberTo, n19_must, n19_bad, n19_numberTo, must_f, numberTo_f2, bad3_28, re_dead0, re_dead3, xup_at]) (by decide)
theorem ob_X11_readEntry_117_in_6 (nb nn : Nat) (w : Int32) (M : xM) (hp0 : pI M) (hp1 : pF M) (hp2 : 0 ≤ M 40 0 19) (hp3 : M 40 0 19 ≤ 40) (r_1 : Int32) (er_1 : r_1 = f_X11_entryOfWord M) (c_2 : ¬ r_1 = (-1000000)) (c_27 : (M 40 0 19) = 40) (M_53 : xM) (eM_53 : M_53 = f_X11_bad 3 M) (M_56 : xM) (eM_56 : M_56 = f_X11_must 1 M_53) (r_57 : Int32) (M_58 : xM) (er_57 : r_57 = (f_X11_numberTo ((M_56 40 0 7) - 1) M_56).1) (eM_58 : M_58 = (f_X11_numberTo ((M_56 40 0 7) - 1) M_56).2) (c_59 : r_1 = 1) (r_69 : Int32) (M_70 : xM) (er_69 : r_69 = (f_X11_numberTo 255 M_58).1) (eM_70 : M_70 = (f_X11_numberTo 255 M_58).2) (c_71 : (M_70 40 0 28) = 0) (M_72 : xM) (eM_72 : M_72 = xup M_70 65 0 (M_70 40 0 19).toNatClampNeg w) (M_73 : xM) (eM_73 : M_73 = xup M_72 66 0 (M_72 40 0 19).toNatClampNeg r_1) (M_74 : xM) (eM_74 : M_74 = xup M_73 67 0 (M_73 40 0 19).toNatClampNeg r_57) : vp_in (M_74 40 0 19) 40 := by
  subst_vars
  exact xin (N := 40) (by grind [pI_must, pI_bad, pF_must, pF_bad, pI_numberTo, pF_numberTo, n19_must, n19_bad, n19_numberTo, must_f, numberTo_f2, bad3_28, re_dead0, re_dead3, xup_at]) (by grind [pI_must, pI_bad, pF_must, pF_bad, pI_numberTo, pF_numberTo, n19_must, n19_bad, n19_numberTo, must_f, numberTo_f2, bad3_28, re_dead0, re_dead3, xup_at]) (by decide)
theorem ob_X11_saidOf_110_x15 (nb nn : Nat) (town : Int32) (w : Int32) (b : Int32) (what : Int32) (M : xM) (hp0 : 0 ≤ town) (hp1 : town ≤ 5) (hp2 : 0 ≤ M 40 0 14) (hp3 : M 40 0 14 ≤ 40) (till : Int32) (n : Nat) (best : Int32) (k : Int32) (N_ : xM) (hmu : xmu k (N_ 40 0 14) < n + 1) (hinv : 0 ≤ k ∧ N_ 40 0 14 ≤ 40 ∧ (best = (-1000000) ∨ (0 ≤ best ∧ best < 40))) (c_1 : (N_ 40 0 14) ≤ k) : 0 ≤ k ∧ N_ 40 0 14 ≤ 40 ∧ (best = (-1000000) ∨ (0 ≤ best ∧ best < 40)) := by
  subst_vars
  grind [bw2, ff2, xup_at, xb]
theorem ob_X11_saidOf_30_in (nb nn : Nat) (town : Int32) (w : Int32) (b : Int32) (what : Int32) (M : xM) (hp0 : 0 ≤ town) (hp1 : town ≤ 5) (hp2 : 0 ≤ M 40 0 14) (hp3 : M 40 0 14 ≤ 40) (till : Int32) (n : Nat) (best : Int32) (k : Int32) (N_ : xM) (hmu : xmu k (N_ 40 0 14) < n + 1) (hinv : 0 ≤ k ∧ N_ 40 0 14 ≤ 40 ∧ (best = (-1000000) ∨ (0 ≤ best ∧ best < 40))) (c_1 : ¬ (N_ 40 0 14) ≤ k) : vp_in k 40 := by
  subst_vars
  exact xin (N := 40) (by grind [bw2, ff2, xup_at, xb]) (by grind [bw2, ff2, xup_at, xb]) (by decide)
theorem ob_X11_saidOf_15_mu_4 (nb nn : Nat) (town : Int32) (w : Int32) (b : Int32) (what : Int32) (M : xM) (hp0 : 0 ≤ town) (hp1 : town ≤ 5) (hp2 : 0 ≤ M 40 0 14) (hp3 : M 40 0 14 ≤ 40) (till : Int32) (n : Nat) (best : Int32) (k : Int32) (N_ : xM) (hmu : xmu k (N_ 40 0 14) < n + 1) (hinv : 0 ≤ k ∧ N_ 40 0 14 ≤ 40 ∧ (best = (-1000000) ∨ (0 ≤ best ∧ best < 40))) (c_1 : ¬ (N_ 40 0 14) ≤ k) (c_2 : ¬ (N_ 66 0 k.toNatClampNeg) = what) (x7_4 : Int32) (ex7_4 : x7_4 = k + 1) : xmu x7_4 (N_ 40 0 14) < n := by
  subst_vars
  have h9 := xmu_up (a := k) (b := (N_ 40 0 14)) (by grind)
  (try simp [xup_at])
  omega
theorem ob_X11_saidOf_15_inv_4 (nb nn : Nat) (town : Int32) (w : Int32) (b : Int32) (what : Int32) (M : xM) (hp0 : 0 ≤ town) (hp1 : town ≤ 5) (hp2 : 0 ≤ M 40 0 14) (hp3 : M 40 0 14 ≤ 40) (till : Int32) (n : Nat) (best : Int32) (k : Int32) (N_ : xM) (hmu : xmu k (N_ 40 0 14) < n + 1) (hinv : 0 ≤ k ∧ N_ 40 0 14 ≤ 40 ∧ (best = (-1000000) ∨ (0 ≤ best ∧ best < 40))) (c_1 : ¬ (N_ 40 0 14) ≤ k) (c_2 : ¬ (N_ 66 0 k.toNatClampNeg) = what) (x7_4 : Int32) (ex7_4 : x7_4 = k + 1) : 0 ≤ x7_4 ∧ N_ 40 0 14 ≤ 40 ∧ (best = (-1000000) ∨ (0 ≤ best ∧ best < 40)) := by
  subst_vars
  grind [bw2, ff2, xup_at, xb]
theorem ob_X11_saidOf_42_in (nb nn : Nat) (town : Int32) (w : Int32) (b : Int32) (what : Int32) (M : xM) (hp0 : 0 ≤ town) (hp1 : town ≤ 5) (hp2 : 0 ≤ M 40 0 14) (hp3 : M 40 0 14 ≤ 40) (till : Int32) (n : Nat) (best : Int32) (k : Int32) (N_ : xM) (hmu : xmu k (N_ 40 0 14) < n + 1) (hinv : 0 ≤ k ∧ N_ 40 0 14 ≤ 40 ∧ (best = (-1000000) ∨ (0 ≤ best ∧ best < 40))) (c_1 : ¬ (N_ 40 0 14) ≤ k) (c_2 : (N_ 66 0 k.toNatClampNeg) = what) : vp_in k 40 := by
  subst_vars
  exact xin (N := 40) (by grind [bw2, ff2, xup_at, xb]) (by grind [bw2, ff2, xup_at, xb]) (by decide)
theorem ob_X11_saidOf_15_mu_7 (nb nn : Nat) (town : Int32) (w : Int32) (b : Int32) (what : Int32) (M : xM) (hp0 : 0 ≤ town) (hp1 : town ≤ 5) (hp2 : 0 ≤ M 40 0 14) (hp3 : M 40 0 14 ≤ 40) (till : Int32) (n : Nat) (best : Int32) (k : Int32) (N_ : xM) (hmu : xmu k (N_ 40 0 14) < n + 1) (hinv : 0 ≤ k ∧ N_ 40 0 14 ≤ 40 ∧ (best = (-1000000) ∨ (0 ≤ best ∧ best < 40))) (c_1 : ¬ (N_ 40 0 14) ≤ k) (c_2 : (N_ 66 0 k.toNatClampNeg) = what) (c_5 : ¬ (N_ 67 0 k.toNatClampNeg) = b) (x7_7 : Int32) (ex7_7 : x7_7 = k + 1) : xmu x7_7 (N_ 40 0 14) < n := by
  subst_vars
  have h9 := xmu_up (a := k) (b := (N_ 40 0 14)) (by grind)
  (try simp [xup_at])
  omega
theorem ob_X11_saidOf_15_inv_7 (nb nn : Nat) (town : Int32) (w : Int32) (b : Int32) (what : Int32) (M : xM) (hp0 : 0 ≤ town) (hp1 : town ≤ 5) (hp2 : 0 ≤ M 40 0 14) (hp3 : M 40 0 14 ≤ 40) (till : Int32) (n : Nat) (best : Int32) (k : Int32) (N_ : xM) (hmu : xmu k (N_ 40 0 14) < n + 1) (hinv : 0 ≤ k ∧ N_ 40 0 14 ≤ 40 ∧ (best = (-1000000) ∨ (0 ≤ best ∧ best < 40))) (c_1 : ¬ (N_ 40 0 14) ≤ k) (c_2 : (N_ 66 0 k.toNatClampNeg) = what) (c_5 : ¬ (N_ 67 0 k.toNatClampNeg) = b) (x7_7 : Int32) (ex7_7 : x7_7 = k + 1) : 0 ≤ x7_7 ∧ N_ 40 0 14 ≤ 40 ∧ (best = (-1000000) ∨ (0 ≤ best ∧ best < 40)) := by
  subst_vars
  grind [bw2, ff2, xup_at, xb]
theorem ob_X11_saidOf_53_in (nb nn : Nat) (town : Int32) (w : Int32) (b : Int32) (what : Int32) (M : xM) (hp0 : 0 ≤ town) (hp1 : town ≤ 5) (hp2 : 0 ≤ M 40 0 14) (hp3 : M 40 0 14 ≤ 40) (till : Int32) (n : Nat) (best : Int32) (k : Int32) (N_ : xM) (hmu : xmu k (N_ 40 0 14) < n + 1) (hinv : 0 ≤ k ∧ N_ 40 0 14 ≤ 40 ∧ (best = (-1000000) ∨ (0 ≤ best ∧ best < 40))) (c_1 : ¬ (N_ 40 0 14) ≤ k) (c_2 : (N_ 66 0 k.toNatClampNeg) = what) (c_5 : (N_ 67 0 k.toNatClampNeg) = b) : vp_in k 40 := by
  subst_vars
  exact xin (N := 40) (by grind [bw2, ff2, xup_at, xb]) (by grind [bw2, ff2, xup_at, xb]) (by decide)
theorem ob_X11_saidOf_15_mu_10 (nb nn : Nat) (town : Int32) (w : Int32) (b : Int32) (what : Int32) (M : xM) (hp0 : 0 ≤ town) (hp1 : town ≤ 5) (hp2 : 0 ≤ M 40 0 14) (hp3 : M 40 0 14 ≤ 40) (till : Int32) (n : Nat) (best : Int32) (k : Int32) (N_ : xM) (hmu : xmu k (N_ 40 0 14) < n + 1) (hinv : 0 ≤ k ∧ N_ 40 0 14 ≤ 40 ∧ (best = (-1000000) ∨ (0 ≤ best ∧ best < 40))) (c_1 : ¬ (N_ 40 0 14) ≤ k) (c_2 : (N_ 66 0 k.toNatClampNeg) = what) (c_5 : (N_ 67 0 k.toNatClampNeg) = b) (c_8 : till < (N_ 65 0 k.toNatClampNeg)) (x7_10 : Int32) (ex7_10 : x7_10 = k + 1) : xmu x7_10 (N_ 40 0 14) < n := by
  subst_vars
  have h9 := xmu_up (a := k) (b := (N_ 40 0 14)) (by grind)
  (try simp [xup_at])
  omega
theorem ob_X11_saidOf_15_inv_10 (nb nn : Nat) (town : Int32) (w : Int32) (b : Int32) (what : Int32) (M : xM) (hp0 : 0 ≤ town) (hp1 : town ≤ 5) (hp2 : 0 ≤ M 40 0 14) (hp3 : M 40 0 14 ≤ 40) (till : Int32) (n : Nat) (best : Int32) (k : Int32) (N_ : xM) (hmu : xmu k (N_ 40 0 14) < n + 1) (hinv : 0 ≤ k ∧ N_ 40 0 14 ≤ 40 ∧ (best = (-1000000) ∨ (0 ≤ best ∧ best < 40))) (c_1 : ¬ (N_ 40 0 14) ≤ k) (c_2 : (N_ 66 0 k.toNatClampNeg) = what) (c_5 : (N_ 67 0 k.toNatClampNeg) = b) (c_8 : till < (N_ 65 0 k.toNatClampNeg)) (x7_10 : Int32) (ex7_10 : x7_10 = k + 1) : 0 ≤ x7_10 ∧ N_ 40 0 14 ≤ 40 ∧ (best = (-1000000) ∨ (0 ≤ best ∧ best < 40)) := by
  subst_vars
  grind [bw2, ff2, xup_at, xb]
theorem ob_X11_saidOf_15_mu_13 (nb nn : Nat) (town : Int32) (w : Int32) (b : Int32) (what : Int32) (M : xM) (hp0 : 0 ≤ town) (hp1 : town ≤ 5) (hp2 : 0 ≤ M 40 0 14) (hp3 : M 40 0 14 ≤ 40) (till : Int32) (n : Nat) (best : Int32) (k : Int32) (N_ : xM) (hmu : xmu k (N_ 40 0 14) < n + 1) (hinv : 0 ≤ k ∧ N_ 40 0 14 ≤ 40 ∧ (best = (-1000000) ∨ (0 ≤ best ∧ best < 40))) (c_1 : ¬ (N_ 40 0 14) ≤ k) (c_2 : (N_ 66 0 k.toNatClampNeg) = what) (c_5 : (N_ 67 0 k.toNatClampNeg) = b) (c_8 : ¬ till < (N_ 65 0 k.toNatClampNeg)) (c_12 : best = (-1000000)) (x7_13 : Int32) (ex7_13 : x7_13 = k + 1) : xmu x7_13 (N_ 40 0 14) < n := by
  subst_vars
  have h9 := xmu_up (a := k) (b := (N_ 40 0 14)) (by grind)
  (try simp [xup_at])
  omega
theorem ob_X11_saidOf_15_inv_13 (nb nn : Nat) (town : Int32) (w : Int32) (b : Int32) (what : Int32) (M : xM) (hp0 : 0 ≤ town) (hp1 : town ≤ 5) (hp2 : 0 ≤ M 40 0 14) (hp3 : M 40 0 14 ≤ 40) (till : Int32) (n : Nat) (best : Int32) (k : Int32) (N_ : xM) (hmu : xmu k (N_ 40 0 14) < n + 1) (hinv : 0 ≤ k ∧ N_ 40 0 14 ≤ 40 ∧ (best = (-1000000) ∨ (0 ≤ best ∧ best < 40))) (c_1 : ¬ (N_ 40 0 14) ≤ k) (c_2 : (N_ 66 0 k.toNatClampNeg) = what) (c_5 : (N_ 67 0 k.toNatClampNeg) = b) (c_8 : ¬ till < (N_ 65 0 k.toNatClampNeg)) (c_12 : best = (-1000000)) (x7_13 : Int32) (ex7_13 : x7_13 = k + 1) : 0 ≤ x7_13 ∧ N_ 40 0 14 ≤ 40 ∧ (k = (-1000000) ∨ (0 ≤ k ∧ k < 40)) := by
  subst_vars
  grind [bw2, ff2, xup_at, xb]
theorem ob_X11_saidOf_84_in (nb nn : Nat) (town : Int32) (w : Int32) (b : Int32) (what : Int32) (M : xM) (hp0 : 0 ≤ town) (hp1 : town ≤ 5) (hp2 : 0 ≤ M 40 0 14) (hp3 : M 40 0 14 ≤ 40) (till : Int32) (n : Nat) (best : Int32) (k : Int32) (N_ : xM) (hmu : xmu k (N_ 40 0 14) < n + 1) (hinv : 0 ≤ k ∧ N_ 40 0 14 ≤ 40 ∧ (best = (-1000000) ∨ (0 ≤ best ∧ best < 40))) (c_1 : ¬ (N_ 40 0 14) ≤ k) (c_2 : (N_ 66 0 k.toNatClampNeg) = what) (c_5 : (N_ 67 0 k.toNatClampNeg) = b) (c_8 : ¬ till < (N_ 65 0 k.toNatClampNeg)) (c_12 : ¬ best = (-1000000)) : vp_in k 40 := by
  subst_vars
  exact xin (N := 40) (by grind [bw2, ff2, xup_at, xb]) (by grind [bw2, ff2, xup_at, xb]) (by decide)
theorem ob_X11_saidOf_91_in (nb nn : Nat) (town : Int32) (w : Int32) (b : Int32) (what : Int32) (M : xM) (hp0 : 0 ≤ town) (hp1 : town ≤ 5) (hp2 : 0 ≤ M 40 0 14) (hp3 : M 40 0 14 ≤ 40) (till : Int32) (n : Nat) (best : Int32) (k : Int32) (N_ : xM) (hmu : xmu k (N_ 40 0 14) < n + 1) (hinv : 0 ≤ k ∧ N_ 40 0 14 ≤ 40 ∧ (best = (-1000000) ∨ (0 ≤ best ∧ best < 40))) (c_1 : ¬ (N_ 40 0 14) ≤ k) (c_2 : (N_ 66 0 k.toNatClampNeg) = what) (c_5 : (N_ 67 0 k.toNatClampNeg) = b) (c_8 : ¬ till < (N_ 65 0 k.toNatClampNeg)) (c_12 : ¬ best = (-1000000)) : vp_in best 40 := by
  subst_vars
  exact xin (N := 40) (by grind [bw2, ff2, xup_at, xb]) (by grind [bw2, ff2, xup_at, xb]) (by decide)
theorem ob_X11_saidOf_15_mu_15 (nb nn : Nat) (town : Int32) (w : Int32) (b : Int32) (what : Int32) (M : xM) (hp0 : 0 ≤ town) (hp1 : town ≤ 5) (hp2 : 0 ≤ M 40 0 14) (hp3 : M 40 0 14 ≤ 40) (till : Int32) (n : Nat) (best : Int32) (k : Int32) (N_ : xM) (hmu : xmu k (N_ 40 0 14) < n + 1) (hinv : 0 ≤ k ∧ N_ 40 0 14 ≤ 40 ∧ (best = (-1000000) ∨ (0 ≤ best ∧ best < 40))) (c_1 : ¬ (N_ 40 0 14) ≤ k) (c_2 : (N_ 66 0 k.toNatClampNeg) = what) (c_5 : (N_ 67 0 k.toNatClampNeg) = b) (c_8 : ¬ till < (N_ 65 0 k.toNatClampNeg)) (c_12 : ¬ best = (-1000000)) (c_14 : (N_ 65 0 k.toNatClampNeg) < (N_ 65 0 best.toNatClampNeg)) (x7_15 : Int32) (ex7_15 : x7_15 = k + 1) : xmu x7_15 (N_ 40 0 14) < n := by
  subst_vars
  have h9 := xmu_up (a := k) (b := (N_ 40 0 14)) (by grind)
  (try simp [xup_at])
  omega
theorem ob_X11_saidOf_15_inv_15 (nb nn : Nat) (town : Int32) (w : Int32) (b : Int32) (what : Int32) (M : xM) (hp0 : 0 ≤ town) (hp1 : town ≤ 5) (hp2 : 0 ≤ M 40 0 14) (hp3 : M 40 0 14 ≤ 40) (till : Int32) (n : Nat) (best : Int32) (k : Int32) (N_ : xM) (hmu : xmu k (N_ 40 0 14) < n + 1) (hinv : 0 ≤ k ∧ N_ 40 0 14 ≤ 40 ∧ (best = (-1000000) ∨ (0 ≤ best ∧ best < 40))) (c_1 : ¬ (N_ 40 0 14) ≤ k) (c_2 : (N_ 66 0 k.toNatClampNeg) = what) (c_5 : (N_ 67 0 k.toNatClampNeg) = b) (c_8 : ¬ till < (N_ 65 0 k.toNatClampNeg)) (c_12 : ¬ best = (-1000000)) (c_14 : (N_ 65 0 k.toNatClampNeg) < (N_ 65 0 best.toNatClampNeg)) (x7_15 : Int32) (ex7_15 : x7_15 = k + 1) : 0 ≤ x7_15 ∧ N_ 40 0 14 ≤ 40 ∧ (best = (-1000000) ∨ (0 ≤ best ∧ best < 40)) := by
  subst_vars
  grind [bw2, ff2, xup_at, xb]
theorem ob_X11_saidOf_15_mu_16 (nb nn : Nat) (town : Int32) (w : Int32) (b : Int32) (what : Int32) (M : xM) (hp0 : 0 ≤ town) (hp1 : town ≤ 5) (hp2 : 0 ≤ M 40 0 14) (hp3 : M 40 0 14 ≤ 40) (till : Int32) (n : Nat) (best : Int32) (k : Int32) (N_ : xM) (hmu : xmu k (N_ 40 0 14) < n + 1) (hinv : 0 ≤ k ∧ N_ 40 0 14 ≤ 40 ∧ (best = (-1000000) ∨ (0 ≤ best ∧ best < 40))) (c_1 : ¬ (N_ 40 0 14) ≤ k) (c_2 : (N_ 66 0 k.toNatClampNeg) = what) (c_5 : (N_ 67 0 k.toNatClampNeg) = b) (c_8 : ¬ till < (N_ 65 0 k.toNatClampNeg)) (c_12 : ¬ best = (-1000000)) (c_14 : ¬ (N_ 65 0 k.toNatClampNeg) < (N_ 65 0 best.toNatClampNeg)) (x7_16 : Int32) (ex7_16 : x7_16 = k + 1) : xmu x7_16 (N_ 40 0 14) < n := by
  subst_vars
  have h9 := xmu_up (a := k) (b := (N_ 40 0 14)) (by grind)
  (try simp [xup_at])
  omega
theorem ob_X11_saidOf_15_inv_16 (nb nn : Nat) (town : Int32) (w : Int32) (b : Int32) (what : Int32) (M : xM) (hp0 : 0 ≤ town) (hp1 : town ≤ 5) (hp2 : 0 ≤ M 40 0 14) (hp3 : M 40 0 14 ≤ 40) (till : Int32) (n : Nat) (best : Int32) (k : Int32) (N_ : xM) (hmu : xmu k (N_ 40 0 14) < n + 1) (hinv : 0 ≤ k ∧ N_ 40 0 14 ≤ 40 ∧ (best = (-1000000) ∨ (0 ≤ best ∧ best < 40))) (c_1 : ¬ (N_ 40 0 14) ≤ k) (c_2 : (N_ 66 0 k.toNatClampNeg) = what) (c_5 : (N_ 67 0 k.toNatClampNeg) = b) (c_8 : ¬ till < (N_ 65 0 k.toNatClampNeg)) (c_12 : ¬ best = (-1000000)) (c_14 : ¬ (N_ 65 0 k.toNatClampNeg) < (N_ 65 0 best.toNatClampNeg)) (x7_16 : Int32) (ex7_16 : x7_16 = k + 1) : 0 ≤ x7_16 ∧ N_ 40 0 14 ≤ 40 ∧ (k = (-1000000) ∨ (0 ≤ k ∧ k < 40)) := by
  subst_vars
  grind [bw2, ff2, xup_at, xb]
theorem ob_X11_saidOf_3_p0 (nb nn : Nat) (town : Int32) (w : Int32) (b : Int32) (what : Int32) (M : xM) (hp0 : 0 ≤ town) (hp1 : town ≤ 5) (hp2 : 0 ≤ M 40 0 14) (hp3 : M 40 0 14 ≤ 40) : 0 ≤ town := by
  subst_vars
  grind [bw2, ff2, xup_at, xb]
theorem ob_X11_saidOf_3_p1 (nb nn : Nat) (town : Int32) (w : Int32) (b : Int32) (what : Int32) (M : xM) (hp0 : 0 ≤ town) (hp1 : town ≤ 5) (hp2 : 0 ≤ M 40 0 14) (hp3 : M 40 0 14 ≤ 40) : town ≤ 5 := by
  subst_vars
  grind [bw2, ff2, xup_at, xb]
theorem ob_X11_saidOf_15_ini_18 (nb nn : Nat) (town : Int32) (w : Int32) (b : Int32) (what : Int32) (M : xM) (hp0 : 0 ≤ town) (hp1 : town ≤ 5) (hp2 : 0 ≤ M 40 0 14) (hp3 : M 40 0 14 ≤ 40) (r_17 : Int32) (M_18 : xM) (er_17 : r_17 = (f_X11_bookWeek town w M).1) (eM_18 : M_18 = (f_X11_bookWeek town w M).2) : 0 ≤ (0 : Int32) ∧ M_18 40 0 14 ≤ 40 ∧ ((-1000000 : Int32) = (-1000000) ∨ (0 ≤ (-1000000 : Int32) ∧ (-1000000 : Int32) < 40)) := by
  subst_vars
  grind [bw2, ff2, xup_at, xb]
theorem ob_X11_saidOf_128_in (nb nn : Nat) (town : Int32) (w : Int32) (b : Int32) (what : Int32) (M : xM) (hp0 : 0 ≤ town) (hp1 : town ≤ 5) (hp2 : 0 ≤ M 40 0 14) (hp3 : M 40 0 14 ≤ 40) (r_17 : Int32) (M_18 : xM) (er_17 : r_17 = (f_X11_bookWeek town w M).1) (eM_18 : M_18 = (f_X11_bookWeek town w M).2) (best_19 : Int32) (k_20 : Int32) (hiv_20 : 0 ≤ k_20 ∧ M_18 40 0 14 ≤ 40 ∧ (best_19 = (-1000000) ∨ (0 ≤ best_19 ∧ best_19 < 40))) (c_21 : ¬ best_19 = (-1000000)) : vp_in best_19 40 := by
  subst_vars
  exact xin (N := 40) (by grind [bw2, ff2, xup_at, xb]) (by grind [bw2, ff2, xup_at, xb]) (by decide)
theorem ob_X11_falsePlates_120_x14 (nb nn : Nat) (town : Int32) (w : Int32) (b : Int32) (note : Int32) (M : xM) (hp0 : 0 ≤ town) (hp1 : town ≤ 5) (hp2 : 0 ≤ M 40 0 14) (hp3 : M 40 0 14 ≤ 40) (hp4 : note = (-1000000) ∨ (0 ≤ note ∧ note < 24)) (till : Int32) (n : Nat) (z : Int32) (k : Int32) (N_ : xM) (hmu : xmu k (N_ 40 0 14) < n + 1) (hinv : 0 ≤ k ∧ N_ 40 0 14 ≤ 40) (c_1 : (N_ 40 0 14) ≤ k) : 0 ≤ k ∧ N_ 40 0 14 ≤ 40 := by
  subst_vars
  grind [bw2, ff2, xup_at, xb]
theorem ob_X11_falsePlates_29_in (nb nn : Nat) (town : Int32) (w : Int32) (b : Int32) (note : Int32) (M : xM) (hp0 : 0 ≤ town) (hp1 : town ≤ 5) (hp2 : 0 ≤ M 40 0 14) (hp3 : M 40 0 14 ≤ 40) (hp4 : note = (-1000000) ∨ (0 ≤ note ∧ note < 24)) (till : Int32) (n : Nat) (z : Int32) (k : Int32) (N_ : xM) (hmu : xmu k (N_ 40 0 14) < n + 1) (hinv : 0 ≤ k ∧ N_ 40 0 14 ≤ 40) (c_1 : ¬ (N_ 40 0 14) ≤ k) : vp_in k 40 := by
  subst_vars
  exact xin (N := 40) (by grind [bw2, ff2, xup_at, xb]) (by grind [bw2, ff2, xup_at, xb]) (by decide)
theorem ob_X11_falsePlates_14_mu_5 (nb nn : Nat) (town : Int32) (w : Int32) (b : Int32) (note : Int32) (M : xM) (hp0 : 0 ≤ town) (hp1 : town ≤ 5) (hp2 : 0 ≤ M 40 0 14) (hp3 : M 40 0 14 ≤ 40) (hp4 : note = (-1000000) ∨ (0 ≤ note ∧ note < 24)) (till : Int32) (n : Nat) (z : Int32) (k : Int32) (N_ : xM) (hmu : xmu k (N_ 40 0 14) < n + 1) (hinv : 0 ≤ k ∧ N_ 40 0 14 ≤ 40) (c_1 : ¬ (N_ 40 0 14) ≤ k) (c_2 : ¬ (N_ 66 0 k.toNatClampNeg) = 1) (x6_4 : Int32) (ex6_4 : x6_4 = (z + 0)) (x7_5 : Int32) (ex7_5 : x7_5 = k + 1) : xmu x7_5 (N_ 40 0 14) < n := by
  subst_vars
  have h9 := xmu_up (a := k) (b := (N_ 40 0 14)) (by grind)
  (try simp [xup_at])
  omega
theorem ob_X11_falsePlates_14_inv_5 (nb nn : Nat) (town : Int32) (w : Int32) (b : Int32) (note : Int32) (M : xM) (hp0 : 0 ≤ town) (hp1 : town ≤ 5) (hp2 : 0 ≤ M 40 0 14) (hp3 : M 40 0 14 ≤ 40) (hp4 : note = (-1000000) ∨ (0 ≤ note ∧ note < 24)) (till : Int32) (n : Nat) (z : Int32) (k : Int32) (N_ : xM) (hmu : xmu k (N_ 40 0 14) < n + 1) (hinv : 0 ≤ k ∧ N_ 40 0 14 ≤ 40) (c_1 : ¬ (N_ 40 0 14) ≤ k) (c_2 : ¬ (N_ 66 0 k.toNatClampNeg) = 1) (x6_4 : Int32) (ex6_4 : x6_4 = (z + 0)) (x7_5 : Int32) (ex7_5 : x7_5 = k + 1) : 0 ≤ x7_5 ∧ N_ 40 0 14 ≤ 40 := by
  subst_vars
  grind [bw2, ff2, xup_at, xb]
theorem ob_X11_falsePlates_40_in (nb nn : Nat) (town : Int32) (w : Int32) (b : Int32) (note : Int32) (M : xM) (hp0 : 0 ≤ town) (hp1 : town ≤ 5) (hp2 : 0 ≤ M 40 0 14) (hp3 : M 40 0 14 ≤ 40) (hp4 : note = (-1000000) ∨ (0 ≤ note ∧ note < 24)) (till : Int32) (n : Nat) (z : Int32) (k : Int32) (N_ : xM) (hmu : xmu k (N_ 40 0 14) < n + 1) (hinv : 0 ≤ k ∧ N_ 40 0 14 ≤ 40) (c_1 : ¬ (N_ 40 0 14) ≤ k) (c_2 : (N_ 66 0 k.toNatClampNeg) = 1) : vp_in k 40 := by
  subst_vars
  exact xin (N := 40) (by grind [bw2, ff2, xup_at, xb]) (by grind [bw2, ff2, xup_at, xb]) (by decide)
theorem ob_X11_falsePlates_14_mu_9 (nb nn : Nat) (town : Int32) (w : Int32) (b : Int32) (note : Int32) (M : xM) (hp0 : 0 ≤ town) (hp1 : town ≤ 5) (hp2 : 0 ≤ M 40 0 14) (hp3 : M 40 0 14 ≤ 40) (hp4 : note = (-1000000) ∨ (0 ≤ note ∧ note < 24)) (till : Int32) (n : Nat) (z : Int32) (k : Int32) (N_ : xM) (hmu : xmu k (N_ 40 0 14) < n + 1) (hinv : 0 ≤ k ∧ N_ 40 0 14 ≤ 40) (c_1 : ¬ (N_ 40 0 14) ≤ k) (c_2 : (N_ 66 0 k.toNatClampNeg) = 1) (c_6 : ¬ (N_ 67 0 k.toNatClampNeg) = b) (x6_8 : Int32) (ex6_8 : x6_8 = (z + 0)) (x7_9 : Int32) (ex7_9 : x7_9 = k + 1) : xmu x7_9 (N_ 40 0 14) < n := by
  subst_vars
  have h9 := xmu_up (a := k) (b := (N_ 40 0 14)) (by grind)
  (try simp [xup_at])
  omega
theorem ob_X11_falsePlates_14_inv_9 (nb nn : Nat) (town : Int32) (w : Int32) (b : Int32) (note : Int32) (M : xM) (hp0 : 0 ≤ town) (hp1 : town ≤ 5) (hp2 : 0 ≤ M 40 0 14) (hp3 : M 40 0 14 ≤ 40) (hp4 : note = (-1000000) ∨ (0 ≤ note ∧ note < 24)) (till : Int32) (n : Nat) (z : Int32) (k : Int32) (N_ : xM) (hmu : xmu k (N_ 40 0 14) < n + 1) (hinv : 0 ≤ k ∧ N_ 40 0 14 ≤ 40) (c_1 : ¬ (N_ 40 0 14) ≤ k) (c_2 : (N_ 66 0 k.toNatClampNeg) = 1) (c_6 : ¬ (N_ 67 0 k.toNatClampNeg) = b) (x6_8 : Int32) (ex6_8 : x6_8 = (z + 0)) (x7_9 : Int32) (ex7_9 : x7_9 = k + 1) : 0 ≤ x7_9 ∧ N_ 40 0 14 ≤ 40 := by
  subst_vars
  grind [bw2, ff2, xup_at, xb]
theorem ob_X11_falsePlates_51_in (nb nn : Nat) (town : Int32) (w : Int32) (b : Int32) (note : Int32) (M : xM) (hp0 : 0 ≤ town) (hp1 : town ≤ 5) (hp2 : 0 ≤ M 40 0 14) (hp3 : M 40 0 14 ≤ 40) (hp4 : note = (-1000000) ∨ (0 ≤ note ∧ note < 24)) (till : Int32) (n : Nat) (z : Int32) (k : Int32) (N_ : xM) (hmu : xmu k (N_ 40 0 14) < n + 1) (hinv : 0 ≤ k ∧ N_ 40 0 14 ≤ 40) (c_1 : ¬ (N_ 40 0 14) ≤ k) (c_2 : (N_ 66 0 k.toNatClampNeg) = 1) (c_6 : (N_ 67 0 k.toNatClampNeg) = b) : vp_in k 40 := by
  subst_vars
  exact xin (N := 40) (by grind [bw2, ff2, xup_at, xb]) (by grind [bw2, ff2, xup_at, xb]) (by decide)
theorem ob_X11_falsePlates_14_mu_13 (nb nn : Nat) (town : Int32) (w : Int32) (b : Int32) (note : Int32) (M : xM) (hp0 : 0 ≤ town) (hp1 : town ≤ 5) (hp2 : 0 ≤ M 40 0 14) (hp3 : M 40 0 14 ≤ 40) (hp4 : note = (-1000000) ∨ (0 ≤ note ∧ note < 24)) (till : Int32) (n : Nat) (z : Int32) (k : Int32) (N_ : xM) (hmu : xmu k (N_ 40 0 14) < n + 1) (hinv : 0 ≤ k ∧ N_ 40 0 14 ≤ 40) (c_1 : ¬ (N_ 40 0 14) ≤ k) (c_2 : (N_ 66 0 k.toNatClampNeg) = 1) (c_6 : (N_ 67 0 k.toNatClampNeg) = b) (c_10 : till < (N_ 65 0 k.toNatClampNeg)) (x6_12 : Int32) (ex6_12 : x6_12 = (z + 0)) (x7_13 : Int32) (ex7_13 : x7_13 = k + 1) : xmu x7_13 (N_ 40 0 14) < n := by
  subst_vars
  have h9 := xmu_up (a := k) (b := (N_ 40 0 14)) (by grind)
  (try simp [xup_at])
  omega
theorem ob_X11_falsePlates_14_inv_13 (nb nn : Nat) (town : Int32) (w : Int32) (b : Int32) (note : Int32) (M : xM) (hp0 : 0 ≤ town) (hp1 : town ≤ 5) (hp2 : 0 ≤ M 40 0 14) (hp3 : M 40 0 14 ≤ 40) (hp4 : note = (-1000000) ∨ (0 ≤ note ∧ note < 24)) (till : Int32) (n : Nat) (z : Int32) (k : Int32) (N_ : xM) (hmu : xmu k (N_ 40 0 14) < n + 1) (hinv : 0 ≤ k ∧ N_ 40 0 14 ≤ 40) (c_1 : ¬ (N_ 40 0 14) ≤ k) (c_2 : (N_ 66 0 k.toNatClampNeg) = 1) (c_6 : (N_ 67 0 k.toNatClampNeg) = b) (c_10 : till < (N_ 65 0 k.toNatClampNeg)) (x6_12 : Int32) (ex6_12 : x6_12 = (z + 0)) (x7_13 : Int32) (ex7_13 : x7_13 = k + 1) : 0 ≤ x7_13 ∧ N_ 40 0 14 ≤ 40 := by
  subst_vars
  grind [bw2, ff2, xup_at, xb]
theorem ob_X11_falsePlates_14_mu_17 (nb nn : Nat) (town : Int32) (w : Int32) (b : Int32) (note : Int32) (M : xM) (hp0 : 0 ≤ town) (hp1 : town ≤ 5) (hp2 : 0 ≤ M 40 0 14) (hp3 : M 40 0 14 ≤ 40) (hp4 : note = (-1000000) ∨ (0 ≤ note ∧ note < 24)) (till : Int32) (n : Nat) (z : Int32) (k : Int32) (N_ : xM) (hmu : xmu k (N_ 40 0 14) < n + 1) (hinv : 0 ≤ k ∧ N_ 40 0 14 ≤ 40) (c_1 : ¬ (N_ 40 0 14) ≤ k) (c_2 : (N_ 66 0 k.toNatClampNeg) = 1) (c_6 : (N_ 67 0 k.toNatClampNeg) = b) (c_10 : ¬ till < (N_ 65 0 k.toNatClampNeg)) (c_15 : note = (-1000000)) (x6_16 : Int32) (ex6_16 : x6_16 = (z + 1)) (x7_17 : Int32) (ex7_17 : x7_17 = k + 1) : xmu x7_17 (N_ 40 0 14) < n := by
  subst_vars
  have h9 := xmu_up (a := k) (b := (N_ 40 0 14)) (by grind)
  (try simp [xup_at])
  omega
theorem ob_X11_falsePlates_14_inv_17 (nb nn : Nat) (town : Int32) (w : Int32) (b : Int32) (note : Int32) (M : xM) (hp0 : 0 ≤ town) (hp1 : town ≤ 5) (hp2 : 0 ≤ M 40 0 14) (hp3 : M 40 0 14 ≤ 40) (hp4 : note = (-1000000) ∨ (0 ≤ note ∧ note < 24)) (till : Int32) (n : Nat) (z : Int32) (k : Int32) (N_ : xM) (hmu : xmu k (N_ 40 0 14) < n + 1) (hinv : 0 ≤ k ∧ N_ 40 0 14 ≤ 40) (c_1 : ¬ (N_ 40 0 14) ≤ k) (c_2 : (N_ 66 0 k.toNatClampNeg) = 1) (c_6 : (N_ 67 0 k.toNatClampNeg) = b) (c_10 : ¬ till < (N_ 65 0 k.toNatClampNeg)) (c_15 : note = (-1000000)) (x6_16 : Int32) (ex6_16 : x6_16 = (z + 1)) (x7_17 : Int32) (ex7_17 : x7_17 = k + 1) : 0 ≤ x7_17 ∧ N_ 40 0 14 ≤ 40 := by
  subst_vars
  grind [bw2, ff2, xup_at, xb]
theorem ob_X11_falsePlates_84_in (nb nn : Nat) (town : Int32) (w : Int32) (b : Int32) (note : Int32) (M : xM) (hp0 : 0 ≤ town) (hp1 : town ≤ 5) (hp2 : 0 ≤ M 40 0 14) (hp3 : M 40 0 14 ≤ 40) (hp4 : note = (-1000000) ∨ (0 ≤ note ∧ note < 24)) (till : Int32) (n : Nat) (z : Int32) (k : Int32) (N_ : xM) (hmu : xmu k (N_ 40 0 14) < n + 1) (hinv : 0 ≤ k ∧ N_ 40 0 14 ≤ 40) (c_1 : ¬ (N_ 40 0 14) ≤ k) (c_2 : (N_ 66 0 k.toNatClampNeg) = 1) (c_6 : (N_ 67 0 k.toNatClampNeg) = b) (c_10 : ¬ till < (N_ 65 0 k.toNatClampNeg)) (c_15 : ¬ note = (-1000000)) : vp_in note 24 := by
  subst_vars
  exact xin (N := 24) (by grind [bw2, ff2, xup_at, xb]) (by grind [bw2, ff2, xup_at, xb]) (by decide)
theorem ob_X11_falsePlates_91_in (nb nn : Nat) (town : Int32) (w : Int32) (b : Int32) (note : Int32) (M : xM) (hp0 : 0 ≤ town) (hp1 : town ≤ 5) (hp2 : 0 ≤ M 40 0 14) (hp3 : M 40 0 14 ≤ 40) (hp4 : note = (-1000000) ∨ (0 ≤ note ∧ note < 24)) (till : Int32) (n : Nat) (z : Int32) (k : Int32) (N_ : xM) (hmu : xmu k (N_ 40 0 14) < n + 1) (hinv : 0 ≤ k ∧ N_ 40 0 14 ≤ 40) (c_1 : ¬ (N_ 40 0 14) ≤ k) (c_2 : (N_ 66 0 k.toNatClampNeg) = 1) (c_6 : (N_ 67 0 k.toNatClampNeg) = b) (c_10 : ¬ till < (N_ 65 0 k.toNatClampNeg)) (c_15 : ¬ note = (-1000000)) : vp_in k 40 := by
  subst_vars
  exact xin (N := 40) (by grind [bw2, ff2, xup_at, xb]) (by grind [bw2, ff2, xup_at, xb]) (by decide)
theorem ob_X11_falsePlates_99_in (nb nn : Nat) (town : Int32) (w : Int32) (b : Int32) (note : Int32) (M : xM) (hp0 : 0 ≤ town) (hp1 : town ≤ 5) (hp2 : 0 ≤ M 40 0 14) (hp3 : M 40 0 14 ≤ 40) (hp4 : note = (-1000000) ∨ (0 ≤ note ∧ note < 24)) (till : Int32) (n : Nat) (z : Int32) (k : Int32) (N_ : xM) (hmu : xmu k (N_ 40 0 14) < n + 1) (hinv : 0 ≤ k ∧ N_ 40 0 14 ≤ 40) (c_1 : ¬ (N_ 40 0 14) ≤ k) (c_2 : (N_ 66 0 k.toNatClampNeg) = 1) (c_6 : (N_ 67 0 k.toNatClampNeg) = b) (c_10 : ¬ till < (N_ 65 0 k.toNatClampNeg)) (c_15 : ¬ note = (-1000000)) : vp_in note 24 := by
  subst_vars
  exact xin (N := 24) (by grind [bw2, ff2, xup_at, xb]) (by grind [bw2, ff2, xup_at, xb]) (by decide)
theorem ob_X11_falsePlates_14_mu_20 (nb nn : Nat) (town : Int32) (w : Int32) (b : Int32) (note : Int32) (M : xM) (hp0 : 0 ≤ town) (hp1 : town ≤ 5) (hp2 : 0 ≤ M 40 0 14) (hp3 : M 40 0 14 ≤ 40) (hp4 : note = (-1000000) ∨ (0 ≤ note ∧ note < 24)) (till : Int32) (n : Nat) (z : Int32) (k : Int32) (N_ : xM) (hmu : xmu k (N_ 40 0 14) < n + 1) (hinv : 0 ≤ k ∧ N_ 40 0 14 ≤ 40) (c_1 : ¬ (N_ 40 0 14) ≤ k) (c_2 : (N_ 66 0 k.toNatClampNeg) = 1) (c_6 : (N_ 67 0 k.toNatClampNeg) = b) (c_10 : ¬ till < (N_ 65 0 k.toNatClampNeg)) (c_15 : ¬ note = (-1000000)) (c_18 : ¬ (((N_ 83 0 note.toNatClampNeg) ^^^ (N_ 68 0 k.toNatClampNeg)) &&& ((N_ 84 0 note.toNatClampNeg) ^^^ (-1))) = 0) (x6_19 : Int32) (ex6_19 : x6_19 = (z + 0)) (x7_20 : Int32) (ex7_20 : x7_20 = k + 1) : xmu x7_20 (N_ 40 0 14) < n := by
  subst_vars
  have h9 := xmu_up (a := k) (b := (N_ 40 0 14)) (by grind)
  (try simp [xup_at])
  omega
theorem ob_X11_falsePlates_14_inv_20 (nb nn : Nat) (town : Int32) (w : Int32) (b : Int32) (note : Int32) (M : xM) (hp0 : 0 ≤ town) (hp1 : town ≤ 5) (hp2 : 0 ≤ M 40 0 14) (hp3 : M 40 0 14 ≤ 40) (hp4 : note = (-1000000) ∨ (0 ≤ note ∧ note < 24)) (till : Int32) (n : Nat) (z : Int32) (k : Int32) (N_ : xM) (hmu : xmu k (N_ 40 0 14) < n + 1) (hinv : 0 ≤ k ∧ N_ 40 0 14 ≤ 40) (c_1 : ¬ (N_ 40 0 14) ≤ k) (c_2 : (N_ 66 0 k.toNatClampNeg) = 1) (c_6 : (N_ 67 0 k.toNatClampNeg) = b) (c_10 : ¬ till < (N_ 65 0 k.toNatClampNeg)) (c_15 : ¬ note = (-1000000)) (c_18 : ¬ (((N_ 83 0 note.toNatClampNeg) ^^^ (N_ 68 0 k.toNatClampNeg)) &&& ((N_ 84 0 note.toNatClampNeg) ^^^ (-1))) = 0) (x6_19 : Int32) (ex6_19 : x6_19 = (z + 0)) (x7_20 : Int32) (ex7_20 : x7_20 = k + 1) : 0 ≤ x7_20 ∧ N_ 40 0 14 ≤ 40 := by
  subst_vars
  grind [bw2, ff2, xup_at, xb]
theorem ob_X11_falsePlates_14_mu_22 (nb nn : Nat) (town : Int32) (w : Int32) (b : Int32) (note : Int32) (M : xM) (hp0 : 0 ≤ town) (hp1 : town ≤ 5) (hp2 : 0 ≤ M 40 0 14) (hp3 : M 40 0 14 ≤ 40) (hp4 : note = (-1000000) ∨ (0 ≤ note ∧ note < 24)) (till : Int32) (n : Nat) (z : Int32) (k : Int32) (N_ : xM) (hmu : xmu k (N_ 40 0 14) < n + 1) (hinv : 0 ≤ k ∧ N_ 40 0 14 ≤ 40) (c_1 : ¬ (N_ 40 0 14) ≤ k) (c_2 : (N_ 66 0 k.toNatClampNeg) = 1) (c_6 : (N_ 67 0 k.toNatClampNeg) = b) (c_10 : ¬ till < (N_ 65 0 k.toNatClampNeg)) (c_15 : ¬ note = (-1000000)) (c_18 : (((N_ 83 0 note.toNatClampNeg) ^^^ (N_ 68 0 k.toNatClampNeg)) &&& ((N_ 84 0 note.toNatClampNeg) ^^^ (-1))) = 0) (x6_21 : Int32) (ex6_21 : x6_21 = (z + 1)) (x7_22 : Int32) (ex7_22 : x7_22 = k + 1) : xmu x7_22 (N_ 40 0 14) < n := by
  subst_vars
  have h9 := xmu_up (a := k) (b := (N_ 40 0 14)) (by grind)
  (try simp [xup_at])
  omega
theorem ob_X11_falsePlates_14_inv_22 (nb nn : Nat) (town : Int32) (w : Int32) (b : Int32) (note : Int32) (M : xM) (hp0 : 0 ≤ town) (hp1 : town ≤ 5) (hp2 : 0 ≤ M 40 0 14) (hp3 : M 40 0 14 ≤ 40) (hp4 : note = (-1000000) ∨ (0 ≤ note ∧ note < 24)) (till : Int32) (n : Nat) (z : Int32) (k : Int32) (N_ : xM) (hmu : xmu k (N_ 40 0 14) < n + 1) (hinv : 0 ≤ k ∧ N_ 40 0 14 ≤ 40) (c_1 : ¬ (N_ 40 0 14) ≤ k) (c_2 : (N_ 66 0 k.toNatClampNeg) = 1) (c_6 : (N_ 67 0 k.toNatClampNeg) = b) (c_10 : ¬ till < (N_ 65 0 k.toNatClampNeg)) (c_15 : ¬ note = (-1000000)) (c_18 : (((N_ 83 0 note.toNatClampNeg) ^^^ (N_ 68 0 k.toNatClampNeg)) &&& ((N_ 84 0 note.toNatClampNeg) ^^^ (-1))) = 0) (x6_21 : Int32) (ex6_21 : x6_21 = (z + 1)) (x7_22 : Int32) (ex7_22 : x7_22 = k + 1) : 0 ≤ x7_22 ∧ N_ 40 0 14 ≤ 40 := by
  subst_vars
  grind [bw2, ff2, xup_at, xb]
theorem ob_X11_falsePlates_3_p0 (nb nn : Nat) (town : Int32) (w : Int32) (b : Int32) (note : Int32) (M : xM) (hp0 : 0 ≤ town) (hp1 : town ≤ 5) (hp2 : 0 ≤ M 40 0 14) (hp3 : M 40 0 14 ≤ 40) (hp4 : note = (-1000000) ∨ (0 ≤ note ∧ note < 24)) : 0 ≤ town := by
  subst_vars
  grind [bw2, ff2, xup_at, xb]
theorem ob_X11_falsePlates_3_p1 (nb nn : Nat) (town : Int32) (w : Int32) (b : Int32) (note : Int32) (M : xM) (hp0 : 0 ≤ town) (hp1 : town ≤ 5) (hp2 : 0 ≤ M 40 0 14) (hp3 : M 40 0 14 ≤ 40) (hp4 : note = (-1000000) ∨ (0 ≤ note ∧ note < 24)) : town ≤ 5 := by
  subst_vars
  grind [bw2, ff2, xup_at, xb]
theorem ob_X11_falsePlates_14_ini_24 (nb nn : Nat) (town : Int32) (w : Int32) (b : Int32) (note : Int32) (M : xM) (hp0 : 0 ≤ town) (hp1 : town ≤ 5) (hp2 : 0 ≤ M 40 0 14) (hp3 : M 40 0 14 ≤ 40) (hp4 : note = (-1000000) ∨ (0 ≤ note ∧ note < 24)) (r_23 : Int32) (M_24 : xM) (er_23 : r_23 = (f_X11_bookWeek town w M).1) (eM_24 : M_24 = (f_X11_bookWeek town w M).2) : 0 ≤ (0 : Int32) ∧ M_24 40 0 14 ≤ 40 := by
  subst_vars
  grind [bw2, ff2, xup_at, xb]
set_option maxHeartbeats 4000000 in
set_option maxRecDepth 100000 in
theorem c_X11_readEntry (l : Launch) (nb nn : Nat) (g : xG) (L : List (Nat × Nat)) (M : xM) (hD : xD g L) (hL : xEL nb nn L) (w : Int32) (hp0 : pI M) (hp1 : pF M) (hp2 : 0 ≤ M 40 0 19) (hp3 : M 40 0 19 ≤ 40) : xCv l yX11_readEntry cX11_readEntry 5 4 g L M [.ref (xad g 40 0), .int w] (fun u => u = f_X11_readEntry w M) := by
  intro sz
  refine x_beg (by decide +kernel) rfl ?_
  intro p e s m args below meth c ls hsz hB
  subst hsz
  obtain ⟨hx, hb, hml, hown, hts, hr, hlk, hK, hAm, hP, hl⟩ := hB
  have S : CallFix p m c cX11_readEntry 5 s args (xws yX11_readEntry cX11_readEntry 5 none) RX11 := ⟨hx, hb, hml, hown, hts⟩
  have hown : s.vm.findClass RX11 = some m.cls := hown
  have hl : lv_has ls 5 [(0, .ref (xad g 40 0)), (1, .int w)] := hl
  have hS : va_S (xA g L s.heap.size) s.heap s.heap [] := va_S.rf
  obtain ⟨F, hF⟩ : ∃ F, F = f_X11_readEntry w M := ⟨_, rfl⟩
  have hres := hF
  rw [f_X11_readEntry] at hres
  refine lv_aload_n hx hb dX11_readEntry_0 rfl (lv_at hl 0 rfl) ?_
  refine x_callVi (As := []) S hK hAm hD hP hS mt_X11_entryOfWord wd_606 ⟨by decide, by decide⟩ (hL 40 0 (xe_40 nb nn)) (xc40 g 0) rfl (c_X11_entryOfWord l nb nn g L M hD hL  (ob_X11_readEntry_1_p0 nb nn w M hp0 hp1 hp2 hp3)) rfl hl.1 (Nat.le_of_ble_eq_true rfl) ⟨Nat.zero_le _, Nat.zero_le _⟩ dX11_readEntry_1 rfl (fun r_1 u H locs hp_ hP hS => ?_)
  obtain ⟨er_1, eu_⟩ := hp_
  rw [eu_] at hP
  clear eu_
  replace hres := xlet_n hres er_1
  refine lv_istore_n (lv' := [(2, .int r_1), (0, .ref (xad g 40 0)), (1, .int w)]) hx hb dX11_readEntry_4 rfl hl (by decide) rfl (fun ls hl => ?_)
  refine lv_iload_n hx hb dX11_readEntry_5 rfl (lv_at hl 0 rfl) ?_
  refine lv_ldc (own := RX11) (v := (-1000000)) hx hb hown (hts _ (List.mem_cons_of_mem _ wd_302)) dX11_readEntry_6 ?_
  refine lv_icmp_eq (tgt := 25) hx hb dX11_readEntry_8 (by decide) (fun c_2 => ?_) (fun c_2 => ?_)
  · replace hres := hres.trans (if_pos c_2)
    refine lv_aload_n hx hb dX11_readEntry_25 rfl (lv_at hl 1 rfl) ?_
    refine lv_iload_n hx hb dX11_readEntry_26 rfl (lv_at hl 0 rfl) ?_
    refine lv_ldc (own := RX11) (v := (-1000000)) hx hb hown (hts _ (List.mem_cons_of_mem _ wd_302)) dX11_readEntry_27 ?_
    refine lv_icmp_eq (tgt := 36) hx hb dX11_readEntry_29 (by decide) (fun c_3 => ?_) (fun c_3 => ?_)
    · clear c_3
      refine lv_iconst (v := 0) hx hb dX11_readEntry_36 (by decide) ?_
      refine x_callVv (As := [.int 0]) S hK hAm hD hP hS mt_X11_must wd_590 ⟨by decide, by decide⟩ (hL 40 0 (xe_40 nb nn)) (xc40 g 0) rfl (c_X11_must l nb nn g L M hD hL 0 (ob_X11_readEntry_37_p0 nb nn w M hp0 hp1 hp2 hp3 r_1 er_1 c_2)) rfl hl.1 (Nat.le_of_ble_eq_true rfl) ⟨Nat.zero_le _, Nat.zero_le _⟩ dX11_readEntry_37 rfl (fun M_5 H locs eM_5 hP hS => ?_)
      replace hres := xlet_n hres eM_5
      refine lv_aload_n hx hb dX11_readEntry_40 rfl (lv_at hl 1 rfl) ?_
      refine lv_aload_n hx hb dX11_readEntry_41 rfl (lv_at hl 1 rfl) ?_
      refine gf_RX11_150 hx hb hts hown hK hP (hL 40 0 (xe_40 nb nn)) dX11_readEntry_42 ?_
      refine lv_iconst (v := 1) hx hb dX11_readEntry_45 (by decide) ?_
      refine lv_isub hx hb dX11_readEntry_46 ?_
      refine x_callVi (As := [.int ((M_5 40 0 7) - 1)]) S hK hAm hD hP hS mt_X11_numberTo wd_598 ⟨by decide, by decide⟩ (hL 40 0 (xe_40 nb nn)) (xc40 g 0) rfl (c_X11_numberTo l nb nn g L M_5 hD hL ((M_5 40 0 7) - 1) (ob_X11_readEntry_47_p0 nb nn w M hp0 hp1 hp2 hp3 r_1 er_1 c_2 M_5 eM_5)) rfl hl.1 (Nat.le_of_ble_eq_true rfl) ⟨Nat.zero_le _, Nat.zero_le _⟩ dX11_readEntry_47 rfl (fun r_6 M_7 H locs ep_ hP hS => ?_)
      replace hres := xlet2_n hres ep_
      have er_6 : r_6 = (f_X11_numberTo ((M_5 40 0 7) - 1) M_5).1 := congrArg Prod.fst ep_
      have eM_7 : M_7 = (f_X11_numberTo ((M_5 40 0 7) - 1) M_5).2 := congrArg Prod.snd ep_
      clear ep_
      refine lv_istore_n (lv' := [(3, .int r_6), (2, .int r_1), (0, .ref (xad g 40 0)), (1, .int w)]) hx hb dX11_readEntry_50 rfl hl (by decide) rfl (fun ls hl => ?_)
      refine lv_aload_n hx hb dX11_readEntry_51 rfl (lv_at hl 2 rfl) ?_
      refine lv_iload_n hx hb dX11_readEntry_52 rfl (lv_at hl 1 rfl) ?_
      refine lv_iconst (v := 1) hx hb dX11_readEntry_53 (by decide) ?_
      refine lv_icmp_ne (tgt := 63) hx hb dX11_readEntry_54 (by decide) (fun c_8 => ?_) (fun c_8 => ?_)
      · replace hres := hres.trans (if_neg c_8)
        refine lv_bipush (v := 100) hx hb dX11_readEntry_63 (by decide) ?_
        refine x_callVi (As := [.int 100]) S hK hAm hD hP hS mt_X11_numberTo wd_598 ⟨by decide, by decide⟩ (hL 40 0 (xe_40 nb nn)) (xc40 g 0) rfl (c_X11_numberTo l nb nn g L M_7 hD hL 100 (ob_X11_readEntry_65_p0 nb nn w M hp0 hp1 hp2 hp3 r_1 er_1 c_2 M_5 eM_5 r_6 M_7 er_6 eM_7 c_8)) rfl hl.1 (Nat.le_of_ble_eq_true rfl) ⟨Nat.zero_le _, Nat.zero_le _⟩ dX11_readEntry_65 rfl (fun r_9 M_10 H locs ep_ hP hS => ?_)
        replace hres := xlet2_n hres ep_
        have er_9 : r_9 = (f_X11_numberTo 100 M_7).1 := congrArg Prod.fst ep_
        have eM_10 : M_10 = (f_X11_numberTo 100 M_7).2 := congrArg Prod.snd ep_
        clear ep_
        refine lv_istore (lv' := [(4, .int r_9), (3, .int r_6), (2, .int r_1), (0, .ref (xad g 40 0)), (1, .int w)]) hx hb dX11_readEntry_68 hl (by decide) rfl (fun ls hl => ?_)
        refine lv_aload_n hx hb dX11_readEntry_70 rfl (lv_at hl 3 rfl) ?_
        refine gf_RX11_199 hx hb hts hown hK hP (hL 40 0 (xe_40 nb nn)) dX11_readEntry_71 ?_
        refine lv_if_ne (tgt := 128) hx hb dX11_readEntry_74 (by decide) (fun c_11 => ?_) (fun c_11 => ?_)
        · replace hres := hres.trans (if_neg c_11)
          exact x_retv hx hb hr hlk hP hS (hres.symm.trans hF) dX11_readEntry_128
        · replace hres := hres.trans (if_pos c_11)
          refine lv_aload_n hx hb dX11_readEntry_77 rfl (lv_at hl 3 rfl) ?_
          refine gf_RX11_41 hx hb hts hown hK hP (hL 40 0 (xe_40 nb nn)) dX11_readEntry_78 ?_
          refine lv_aload_n hx hb dX11_readEntry_81 rfl (lv_at hl 3 rfl) ?_
          refine gf_RX11_230 hx hb hts hown hK hP (hL 40 0 (xe_40 nb nn)) dX11_readEntry_82 ?_
          refine lv_iload_n hx hb dX11_readEntry_85 rfl (lv_at hl 4 rfl) ?_
          refine x_iast hx hb hK hP hD hS (hL 65 0 (xe_65 nb nn)) (xc65 g 0) (ob_X11_readEntry_86_in nb nn w M hp0 hp1 hp2 hp3 r_1 er_1 c_2 M_5 eM_5 r_6 M_7 er_6 eM_7 c_8 r_9 M_10 er_9 eM_10 c_11) dX11_readEntry_86 (fun H locs hP hS => ?_)
          obtain ⟨M_12, eM_12⟩ : ∃ z_ : xM, z_ = xup M_10 65 0 (M_10 40 0 19).toNatClampNeg w := ⟨_, rfl⟩
          rw [← eM_12] at hP
          replace hres := xlet_n hres eM_12
          refine lv_aload_n hx hb dX11_readEntry_87 rfl (lv_at hl 3 rfl) ?_
          refine gf_RX11_44 hx hb hts hown hK hP (hL 40 0 (xe_40 nb nn)) dX11_readEntry_88 ?_
          refine lv_aload_n hx hb dX11_readEntry_91 rfl (lv_at hl 3 rfl) ?_
          refine gf_RX11_230 hx hb hts hown hK hP (hL 40 0 (xe_40 nb nn)) dX11_readEntry_92 ?_
          refine lv_iload_n hx hb dX11_readEntry_95 rfl (lv_at hl 2 rfl) ?_
          refine x_iast hx hb hK hP hD hS (hL 66 0 (xe_66 nb nn)) (xc66 g 0) (ob_X11_readEntry_96_in nb nn w M hp0 hp1 hp2 hp3 r_1 er_1 c_2 M_5 eM_5 r_6 M_7 er_6 eM_7 c_8 r_9 M_10 er_9 eM_10 c_11 M_12 eM_12) dX11_readEntry_96 (fun H locs hP hS => ?_)
          obtain ⟨M_13, eM_13⟩ : ∃ z_ : xM, z_ = xup M_12 66 0 (M_12 40 0 19).toNatClampNeg r_1 := ⟨_, rfl⟩
          rw [← eM_13] at hP
          replace hres := xlet_n hres eM_13
          refine lv_aload_n hx hb dX11_readEntry_97 rfl (lv_at hl 3 rfl) ?_
          refine gf_RX11_47 hx hb hts hown hK hP (hL 40 0 (xe_40 nb nn)) dX11_readEntry_98 ?_
          refine lv_aload_n hx hb dX11_readEntry_101 rfl (lv_at hl 3 rfl) ?_
          refine gf_RX11_230 hx hb hts hown hK hP (hL 40 0 (xe_40 nb nn)) dX11_readEntry_102 ?_
          refine lv_iload_n hx hb dX11_readEntry_105 rfl (lv_at hl 1 rfl) ?_
          refine x_iast hx hb hK hP hD hS (hL 67 0 (xe_67 nb nn)) (xc67 g 0) (ob_X11_readEntry_106_in nb nn w M hp0 hp1 hp2 hp3 r_1 er_1 c_2 M_5 eM_5 r_6 M_7 er_6 eM_7 c_8 r_9 M_10 er_9 eM_10 c_11 M_12 eM_12 M_13 eM_13) dX11_readEntry_106 (fun H locs hP hS => ?_)
          obtain ⟨M_14, eM_14⟩ : ∃ z_ : xM, z_ = xup M_13 67 0 (M_13 40 0 19).toNatClampNeg r_6 := ⟨_, rfl⟩
          rw [← eM_14] at hP
          replace hres := xlet_n hres eM_14
          refine lv_aload_n hx hb dX11_readEntry_107 rfl (lv_at hl 3 rfl) ?_
          refine gf_RX11_50 hx hb hts hown hK hP (hL 40 0 (xe_40 nb nn)) dX11_readEntry_108 ?_
          refine lv_aload_n hx hb dX11_readEntry_111 rfl (lv_at hl 3 rfl) ?_
          refine gf_RX11_230 hx hb hts hown hK hP (hL 40 0 (xe_40 nb nn)) dX11_readEntry_112 ?_
          refine lv_iload hx hb dX11_readEntry_115 (lv_at hl 0 rfl) ?_
          refine x_iast hx hb hK hP hD hS (hL 68 0 (xe_68 nb nn)) (xc68 g 0) (ob_X11_readEntry_117_in nb nn w M hp0 hp1 hp2 hp3 r_1 er_1 c_2 M_5 eM_5 r_6 M_7 er_6 eM_7 c_8 r_9 M_10 er_9 eM_10 c_11 M_12 eM_12 M_13 eM_13 M_14 eM_14) dX11_readEntry_117 (fun H locs hP hS => ?_)
          obtain ⟨M_15, eM_15⟩ : ∃ z_ : xM, z_ = xup M_14 68 0 (M_14 40 0 19).toNatClampNeg r_9 := ⟨_, rfl⟩
          rw [← eM_15] at hP
          replace hres := xlet_n hres eM_15
          refine lv_aload_n hx hb dX11_readEntry_118 rfl (lv_at hl 3 rfl) ?_
          refine lv_dup hx hb dX11_readEntry_119 rfl ?_
          refine gf_RX11_230 hx hb hts hown hK hP (hL 40 0 (xe_40 nb nn)) dX11_readEntry_120 ?_
          refine lv_iconst (v := 1) hx hb dX11_readEntry_123 (by decide) ?_
          refine lv_iadd hx hb dX11_readEntry_124 ?_
          refine lv_topi (fun v_16 ev_16 => ?_)
          replace hres := xlet_n hres ev_16
          refine pf_RX11_230 hx hb hts hown hK hP hD hS (hL 40 0 (xe_40 nb nn)) dX11_readEntry_125 (fun H locs hP hS => ?_)
          obtain ⟨M_17, eM_17⟩ : ∃ z_ : xM, z_ = xup M_15 40 0 19 v_16 := ⟨_, rfl⟩
          rw [← eM_17] at hP
          replace hres := xlet_n hres eM_17
          exact x_retv hx hb hr hlk hP hS (hres.symm.trans hF) dX11_readEntry_128
      · replace hres := hres.trans (if_pos c_8)
        refine lv_sipush (v := 255) hx hb dX11_readEntry_57 (by decide) ?_
        refine lv_goto (tgt := 65) hx hb dX11_readEntry_60 (by decide) ?_
        refine x_callVi (As := [.int 255]) S hK hAm hD hP hS mt_X11_numberTo wd_598 ⟨by decide, by decide⟩ (hL 40 0 (xe_40 nb nn)) (xc40 g 0) rfl (c_X11_numberTo l nb nn g L M_7 hD hL 255 (ob_X11_readEntry_65_p0_2 nb nn w M hp0 hp1 hp2 hp3 r_1 er_1 c_2 M_5 eM_5 r_6 M_7 er_6 eM_7 c_8)) rfl hl.1 (Nat.le_of_ble_eq_true rfl) ⟨Nat.zero_le _, Nat.zero_le _⟩ dX11_readEntry_65 rfl (fun r_18 M_19 H locs ep_ hP hS => ?_)
        replace hres := xlet2_n hres ep_
        have er_18 : r_18 = (f_X11_numberTo 255 M_7).1 := congrArg Prod.fst ep_
        have eM_19 : M_19 = (f_X11_numberTo 255 M_7).2 := congrArg Prod.snd ep_
        clear ep_
        refine lv_istore (lv' := [(4, .int r_18), (3, .int r_6), (2, .int r_1), (0, .ref (xad g 40 0)), (1, .int w)]) hx hb dX11_readEntry_68 hl (by decide) rfl (fun ls hl => ?_)
        refine lv_aload_n hx hb dX11_readEntry_70 rfl (lv_at hl 3 rfl) ?_
        refine gf_RX11_199 hx hb hts hown hK hP (hL 40 0 (xe_40 nb nn)) dX11_readEntry_71 ?_
        refine lv_if_ne (tgt := 128) hx hb dX11_readEntry_74 (by decide) (fun c_20 => ?_) (fun c_20 => ?_)
        · replace hres := hres.trans (if_neg c_20)
          exact x_retv hx hb hr hlk hP hS (hres.symm.trans hF) dX11_readEntry_128
        · replace hres := hres.trans (if_pos c_20)
          refine lv_aload_n hx hb dX11_readEntry_77 rfl (lv_at hl 3 rfl) ?_
          refine gf_RX11_41 hx hb hts hown hK hP (hL 40 0 (xe_40 nb nn)) dX11_readEntry_78 ?_
          refine lv_aload_n hx hb dX11_readEntry_81 rfl (lv_at hl 3 rfl) ?_
          refine gf_RX11_230 hx hb hts hown hK hP (hL 40 0 (xe_40 nb nn)) dX11_readEntry_82 ?_
          refine lv_iload_n hx hb dX11_readEntry_85 rfl (lv_at hl 4 rfl) ?_
          refine x_iast hx hb hK hP hD hS (hL 65 0 (xe_65 nb nn)) (xc65 g 0) (ob_X11_readEntry_86_in_2 nb nn w M hp0 hp1 hp2 hp3 r_1 er_1 c_2 M_5 eM_5 r_6 M_7 er_6 eM_7 c_8 r_18 M_19 er_18 eM_19 c_20) dX11_readEntry_86 (fun H locs hP hS => ?_)
          obtain ⟨M_21, eM_21⟩ : ∃ z_ : xM, z_ = xup M_19 65 0 (M_19 40 0 19).toNatClampNeg w := ⟨_, rfl⟩
          rw [← eM_21] at hP
          replace hres := xlet_n hres eM_21
          refine lv_aload_n hx hb dX11_readEntry_87 rfl (lv_at hl 3 rfl) ?_
          refine gf_RX11_44 hx hb hts hown hK hP (hL 40 0 (xe_40 nb nn)) dX11_readEntry_88 ?_
          refine lv_aload_n hx hb dX11_readEntry_91 rfl (lv_at hl 3 rfl) ?_
          refine gf_RX11_230 hx hb hts hown hK hP (hL 40 0 (xe_40 nb nn)) dX11_readEntry_92 ?_
          refine lv_iload_n hx hb dX11_readEntry_95 rfl (lv_at hl 2 rfl) ?_
          refine x_iast hx hb hK hP hD hS (hL 66 0 (xe_66 nb nn)) (xc66 g 0) (ob_X11_readEntry_96_in_2 nb nn w M hp0 hp1 hp2 hp3 r_1 er_1 c_2 M_5 eM_5 r_6 M_7 er_6 eM_7 c_8 r_18 M_19 er_18 eM_19 c_20 M_21 eM_21) dX11_readEntry_96 (fun H locs hP hS => ?_)
          obtain ⟨M_22, eM_22⟩ : ∃ z_ : xM, z_ = xup M_21 66 0 (M_21 40 0 19).toNatClampNeg r_1 := ⟨_, rfl⟩
          rw [← eM_22] at hP
          replace hres := xlet_n hres eM_22
          refine lv_aload_n hx hb dX11_readEntry_97 rfl (lv_at hl 3 rfl) ?_
          refine gf_RX11_47 hx hb hts hown hK hP (hL 40 0 (xe_40 nb nn)) dX11_readEntry_98 ?_
          refine lv_aload_n hx hb dX11_readEntry_101 rfl (lv_at hl 3 rfl) ?_
          refine gf_RX11_230 hx hb hts hown hK hP (hL 40 0 (xe_40 nb nn)) dX11_readEntry_102 ?_
          refine lv_iload_n hx hb dX11_readEntry_105 rfl (lv_at hl 1 rfl) ?_
          refine x_iast hx hb hK hP hD hS (hL 67 0 (xe_67 nb nn)) (xc67 g 0) (ob_X11_readEntry_106_in_2 nb nn w M hp0 hp1 hp2 hp3 r_1 er_1 c_2 M_5 eM_5 r_6 M_7 er_6 eM_7 c_8 r_18 M_19 er_18 eM_19 c_20 M_21 eM_21 M_22 eM_22) dX11_readEntry_106 (fun H locs hP hS => ?_)
          obtain ⟨M_23, eM_23⟩ : ∃ z_ : xM, z_ = xup M_22 67 0 (M_22 40 0 19).toNatClampNeg r_6 := ⟨_, rfl⟩
          rw [← eM_23] at hP
          replace hres := xlet_n hres eM_23
          refine lv_aload_n hx hb dX11_readEntry_107 rfl (lv_at hl 3 rfl) ?_
          refine gf_RX11_50 hx hb hts hown hK hP (hL 40 0 (xe_40 nb nn)) dX11_readEntry_108 ?_
          refine lv_aload_n hx hb dX11_readEntry_111 rfl (lv_at hl 3 rfl) ?_
          refine gf_RX11_230 hx hb hts hown hK hP (hL 40 0 (xe_40 nb nn)) dX11_readEntry_112 ?_
          refine lv_iload hx hb dX11_readEntry_115 (lv_at hl 0 rfl) ?_
          refine x_iast hx hb hK hP hD hS (hL 68 0 (xe_68 nb nn)) (xc68 g 0) (ob_X11_readEntry_117_in_2 nb nn w M hp0 hp1 hp2 hp3 r_1 er_1 c_2 M_5 eM_5 r_6 M_7 er_6 eM_7 c_8 r_18 M_19 er_18 eM_19 c_20 M_21 eM_21 M_22 eM_22 M_23 eM_23) dX11_readEntry_117 (fun H locs hP hS => ?_)
          obtain ⟨M_24, eM_24⟩ : ∃ z_ : xM, z_ = xup M_23 68 0 (M_23 40 0 19).toNatClampNeg r_18 := ⟨_, rfl⟩
          rw [← eM_24] at hP
          replace hres := xlet_n hres eM_24
          refine lv_aload_n hx hb dX11_readEntry_118 rfl (lv_at hl 3 rfl) ?_
          refine lv_dup hx hb dX11_readEntry_119 rfl ?_
          refine gf_RX11_230 hx hb hts hown hK hP (hL 40 0 (xe_40 nb nn)) dX11_readEntry_120 ?_
          refine lv_iconst (v := 1) hx hb dX11_readEntry_123 (by decide) ?_
          refine lv_iadd hx hb dX11_readEntry_124 ?_
          refine lv_topi (fun v_25 ev_25 => ?_)
          replace hres := xlet_n hres ev_25
          refine pf_RX11_230 hx hb hts hown hK hP hD hS (hL 40 0 (xe_40 nb nn)) dX11_readEntry_125 (fun H locs hP hS => ?_)
          obtain ⟨M_26, eM_26⟩ : ∃ z_ : xM, z_ = xup M_24 40 0 19 v_25 := ⟨_, rfl⟩
          rw [← eM_26] at hP
          replace hres := xlet_n hres eM_26
          exact x_retv hx hb hr hlk hP hS (hres.symm.trans hF) dX11_readEntry_128
    · exact absurd c_2 c_3
  · replace hres := hres.trans (if_neg c_2)
    refine lv_aload_n hx hb dX11_readEntry_11 rfl (lv_at hl 1 rfl) ?_
    refine gf_RX11_230 hx hb hts hown hK hP (hL 40 0 (xe_40 nb nn)) dX11_readEntry_12 ?_
    refine lv_bipush (v := 40) hx hb dX11_readEntry_15 (by decide) ?_
    refine lv_icmp_ne (tgt := 25) hx hb dX11_readEntry_17 (by decide) (fun c_27 => ?_) (fun c_27 => ?_)
    · replace hres := hres.trans (if_neg c_27)
      refine lv_aload_n hx hb dX11_readEntry_25 rfl (lv_at hl 1 rfl) ?_
      refine lv_iload_n hx hb dX11_readEntry_26 rfl (lv_at hl 0 rfl) ?_
      refine lv_ldc (own := RX11) (v := (-1000000)) hx hb hown (hts _ (List.mem_cons_of_mem _ wd_302)) dX11_readEntry_27 ?_
      refine lv_icmp_eq (tgt := 36) hx hb dX11_readEntry_29 (by decide) (fun c_28 => ?_) (fun c_28 => ?_)
      · exact absurd c_28 c_2
      · clear c_28
        refine lv_iconst (v := 1) hx hb dX11_readEntry_32 (by decide) ?_
        refine lv_goto (tgt := 37) hx hb dX11_readEntry_33 (by decide) ?_
        refine x_callVv (As := [.int 1]) S hK hAm hD hP hS mt_X11_must wd_590 ⟨by decide, by decide⟩ (hL 40 0 (xe_40 nb nn)) (xc40 g 0) rfl (c_X11_must l nb nn g L M hD hL 1 (ob_X11_readEntry_37_p0_2 nb nn w M hp0 hp1 hp2 hp3 r_1 er_1 c_2 c_27)) rfl hl.1 (Nat.le_of_ble_eq_true rfl) ⟨Nat.zero_le _, Nat.zero_le _⟩ dX11_readEntry_37 rfl (fun M_30 H locs eM_30 hP hS => ?_)
        replace hres := xlet_n hres eM_30
        refine lv_aload_n hx hb dX11_readEntry_40 rfl (lv_at hl 1 rfl) ?_
        refine lv_aload_n hx hb dX11_readEntry_41 rfl (lv_at hl 1 rfl) ?_
        refine gf_RX11_150 hx hb hts hown hK hP (hL 40 0 (xe_40 nb nn)) dX11_readEntry_42 ?_
        refine lv_iconst (v := 1) hx hb dX11_readEntry_45 (by decide) ?_
        refine lv_isub hx hb dX11_readEntry_46 ?_
        refine x_callVi (As := [.int ((M_30 40 0 7) - 1)]) S hK hAm hD hP hS mt_X11_numberTo wd_598 ⟨by decide, by decide⟩ (hL 40 0 (xe_40 nb nn)) (xc40 g 0) rfl (c_X11_numberTo l nb nn g L M_30 hD hL ((M_30 40 0 7) - 1) (ob_X11_readEntry_47_p0_2 nb nn w M hp0 hp1 hp2 hp3 r_1 er_1 c_2 c_27 M_30 eM_30)) rfl hl.1 (Nat.le_of_ble_eq_true rfl) ⟨Nat.zero_le _, Nat.zero_le _⟩ dX11_readEntry_47 rfl (fun r_31 M_32 H locs ep_ hP hS => ?_)
        replace hres := xlet2_n hres ep_
        have er_31 : r_31 = (f_X11_numberTo ((M_30 40 0 7) - 1) M_30).1 := congrArg Prod.fst ep_
        have eM_32 : M_32 = (f_X11_numberTo ((M_30 40 0 7) - 1) M_30).2 := congrArg Prod.snd ep_
        clear ep_
        refine lv_istore_n (lv' := [(3, .int r_31), (2, .int r_1), (0, .ref (xad g 40 0)), (1, .int w)]) hx hb dX11_readEntry_50 rfl hl (by decide) rfl (fun ls hl => ?_)
        refine lv_aload_n hx hb dX11_readEntry_51 rfl (lv_at hl 2 rfl) ?_
        refine lv_iload_n hx hb dX11_readEntry_52 rfl (lv_at hl 1 rfl) ?_
        refine lv_iconst (v := 1) hx hb dX11_readEntry_53 (by decide) ?_
        refine lv_icmp_ne (tgt := 63) hx hb dX11_readEntry_54 (by decide) (fun c_33 => ?_) (fun c_33 => ?_)
        · replace hres := hres.trans (if_neg c_33)
          refine lv_bipush (v := 100) hx hb dX11_readEntry_63 (by decide) ?_
          refine x_callVi (As := [.int 100]) S hK hAm hD hP hS mt_X11_numberTo wd_598 ⟨by decide, by decide⟩ (hL 40 0 (xe_40 nb nn)) (xc40 g 0) rfl (c_X11_numberTo l nb nn g L M_32 hD hL 100 (ob_X11_readEntry_65_p0_3 nb nn w M hp0 hp1 hp2 hp3 r_1 er_1 c_2 c_27 M_30 eM_30 r_31 M_32 er_31 eM_32 c_33)) rfl hl.1 (Nat.le_of_ble_eq_true rfl) ⟨Nat.zero_le _, Nat.zero_le _⟩ dX11_readEntry_65 rfl (fun r_34 M_35 H locs ep_ hP hS => ?_)
          replace hres := xlet2_n hres ep_
          have er_34 : r_34 = (f_X11_numberTo 100 M_32).1 := congrArg Prod.fst ep_
          have eM_35 : M_35 = (f_X11_numberTo 100 M_32).2 := congrArg Prod.snd ep_
          clear ep_
          refine lv_istore (lv' := [(4, .int r_34), (3, .int r_31), (2, .int r_1), (0, .ref (xad g 40 0)), (1, .int w)]) hx hb dX11_readEntry_68 hl (by decide) rfl (fun ls hl => ?_)
          refine lv_aload_n hx hb dX11_readEntry_70 rfl (lv_at hl 3 rfl) ?_
          refine gf_RX11_199 hx hb hts hown hK hP (hL 40 0 (xe_40 nb nn)) dX11_readEntry_71 ?_
          refine lv_if_ne (tgt := 128) hx hb dX11_readEntry_74 (by decide) (fun c_36 => ?_) (fun c_36 => ?_)
          · replace hres := hres.trans (if_neg c_36)
            exact x_retv hx hb hr hlk hP hS (hres.symm.trans hF) dX11_readEntry_128
          · replace hres := hres.trans (if_pos c_36)
            refine lv_aload_n hx hb dX11_readEntry_77 rfl (lv_at hl 3 rfl) ?_
            refine gf_RX11_41 hx hb hts hown hK hP (hL 40 0 (xe_40 nb nn)) dX11_readEntry_78 ?_
            refine lv_aload_n hx hb dX11_readEntry_81 rfl (lv_at hl 3 rfl) ?_
            refine gf_RX11_230 hx hb hts hown hK hP (hL 40 0 (xe_40 nb nn)) dX11_readEntry_82 ?_
            refine lv_iload_n hx hb dX11_readEntry_85 rfl (lv_at hl 4 rfl) ?_
            refine x_iast hx hb hK hP hD hS (hL 65 0 (xe_65 nb nn)) (xc65 g 0) (ob_X11_readEntry_86_in_3 nb nn w M hp0 hp1 hp2 hp3 r_1 er_1 c_2 c_27 M_30 eM_30 r_31 M_32 er_31 eM_32 c_33 r_34 M_35 er_34 eM_35 c_36) dX11_readEntry_86 (fun H locs hP hS => ?_)
            obtain ⟨M_37, eM_37⟩ : ∃ z_ : xM, z_ = xup M_35 65 0 (M_35 40 0 19).toNatClampNeg w := ⟨_, rfl⟩
            rw [← eM_37] at hP
            replace hres := xlet_n hres eM_37
            refine lv_aload_n hx hb dX11_readEntry_87 rfl (lv_at hl 3 rfl) ?_
            refine gf_RX11_44 hx hb hts hown hK hP (hL 40 0 (xe_40 nb nn)) dX11_readEntry_88 ?_
            refine lv_aload_n hx hb dX11_readEntry_91 rfl (lv_at hl 3 rfl) ?_
            refine gf_RX11_230 hx hb hts hown hK hP (hL 40 0 (xe_40 nb nn)) dX11_readEntry_92 ?_
            refine lv_iload_n hx hb dX11_readEntry_95 rfl (lv_at hl 2 rfl) ?_
            refine x_iast hx hb hK hP hD hS (hL 66 0 (xe_66 nb nn)) (xc66 g 0) (ob_X11_readEntry_96_in_3 nb nn w M hp0 hp1 hp2 hp3 r_1 er_1 c_2 c_27 M_30 eM_30 r_31 M_32 er_31 eM_32 c_33 r_34 M_35 er_34 eM_35 c_36 M_37 eM_37) dX11_readEntry_96 (fun H locs hP hS => ?_)
            obtain ⟨M_38, eM_38⟩ : ∃ z_ : xM, z_ = xup M_37 66 0 (M_37 40 0 19).toNatClampNeg r_1 := ⟨_, rfl⟩
            rw [← eM_38] at hP
            replace hres := xlet_n hres eM_38
            refine lv_aload_n hx hb dX11_readEntry_97 rfl (lv_at hl 3 rfl) ?_
            refine gf_RX11_47 hx hb hts hown hK hP (hL 40 0 (xe_40 nb nn)) dX11_readEntry_98 ?_
            refine lv_aload_n hx hb dX11_readEntry_101 rfl (lv_at hl 3 rfl) ?_
            refine gf_RX11_230 hx hb hts hown hK hP (hL 40 0 (xe_40 nb nn)) dX11_readEntry_102 ?_
            refine lv_iload_n hx hb dX11_readEntry_105 rfl (lv_at hl 1 rfl) ?_
            refine x_iast hx hb hK hP hD hS (hL 67 0 (xe_67 nb nn)) (xc67 g 0) (ob_X11_readEntry_106_in_3 nb nn w M hp0 hp1 hp2 hp3 r_1 er_1 c_2 c_27 M_30 eM_30 r_31 M_32 er_31 eM_32 c_33 r_34 M_35 er_34 eM_35 c_36 M_37 eM_37 M_38 eM_38) dX11_readEntry_106 (fun H locs hP hS => ?_)
            obtain ⟨M_39, eM_39⟩ : ∃ z_ : xM, z_ = xup M_38 67 0 (M_38 40 0 19).toNatClampNeg r_31 := ⟨_, rfl⟩
            rw [← eM_39] at hP
            replace hres := xlet_n hres eM_39
            refine lv_aload_n hx hb dX11_readEntry_107 rfl (lv_at hl 3 rfl) ?_
            refine gf_RX11_50 hx hb hts hown hK hP (hL 40 0 (xe_40 nb nn)) dX11_readEntry_108 ?_
            refine lv_aload_n hx hb dX11_readEntry_111 rfl (lv_at hl 3 rfl) ?_
            refine gf_RX11_230 hx hb hts hown hK hP (hL 40 0 (xe_40 nb nn)) dX11_readEntry_112 ?_
            refine lv_iload hx hb dX11_readEntry_115 (lv_at hl 0 rfl) ?_
            refine x_iast hx hb hK hP hD hS (hL 68 0 (xe_68 nb nn)) (xc68 g 0) (ob_X11_readEntry_117_in_3 nb nn w M hp0 hp1 hp2 hp3 r_1 er_1 c_2 c_27 M_30 eM_30 r_31 M_32 er_31 eM_32 c_33 r_34 M_35 er_34 eM_35 c_36 M_37 eM_37 M_38 eM_38 M_39 eM_39) dX11_readEntry_117 (fun H locs hP hS => ?_)
            obtain ⟨M_40, eM_40⟩ : ∃ z_ : xM, z_ = xup M_39 68 0 (M_39 40 0 19).toNatClampNeg r_34 := ⟨_, rfl⟩
            rw [← eM_40] at hP
            replace hres := xlet_n hres eM_40
            refine lv_aload_n hx hb dX11_readEntry_118 rfl (lv_at hl 3 rfl) ?_
            refine lv_dup hx hb dX11_readEntry_119 rfl ?_
            refine gf_RX11_230 hx hb hts hown hK hP (hL 40 0 (xe_40 nb nn)) dX11_readEntry_120 ?_
            refine lv_iconst (v := 1) hx hb dX11_readEntry_123 (by decide) ?_
            refine lv_iadd hx hb dX11_readEntry_124 ?_
            refine lv_topi (fun v_41 ev_41 => ?_)
            replace hres := xlet_n hres ev_41
            refine pf_RX11_230 hx hb hts hown hK hP hD hS (hL 40 0 (xe_40 nb nn)) dX11_readEntry_125 (fun H locs hP hS => ?_)
            obtain ⟨M_42, eM_42⟩ : ∃ z_ : xM, z_ = xup M_40 40 0 19 v_41 := ⟨_, rfl⟩
            rw [← eM_42] at hP
            replace hres := xlet_n hres eM_42
            exact x_retv hx hb hr hlk hP hS (hres.symm.trans hF) dX11_readEntry_128
        · replace hres := hres.trans (if_pos c_33)
          refine lv_sipush (v := 255) hx hb dX11_readEntry_57 (by decide) ?_
          refine lv_goto (tgt := 65) hx hb dX11_readEntry_60 (by decide) ?_
          refine x_callVi (As := [.int 255]) S hK hAm hD hP hS mt_X11_numberTo wd_598 ⟨by decide, by decide⟩ (hL 40 0 (xe_40 nb nn)) (xc40 g 0) rfl (c_X11_numberTo l nb nn g L M_32 hD hL 255 (ob_X11_readEntry_65_p0_4 nb nn w M hp0 hp1 hp2 hp3 r_1 er_1 c_2 c_27 M_30 eM_30 r_31 M_32 er_31 eM_32 c_33)) rfl hl.1 (Nat.le_of_ble_eq_true rfl) ⟨Nat.zero_le _, Nat.zero_le _⟩ dX11_readEntry_65 rfl (fun r_43 M_44 H locs ep_ hP hS => ?_)
          replace hres := xlet2_n hres ep_
          have er_43 : r_43 = (f_X11_numberTo 255 M_32).1 := congrArg Prod.fst ep_
          have eM_44 : M_44 = (f_X11_numberTo 255 M_32).2 := congrArg Prod.snd ep_
          clear ep_
          refine lv_istore (lv' := [(4, .int r_43), (3, .int r_31), (2, .int r_1), (0, .ref (xad g 40 0)), (1, .int w)]) hx hb dX11_readEntry_68 hl (by decide) rfl (fun ls hl => ?_)
          refine lv_aload_n hx hb dX11_readEntry_70 rfl (lv_at hl 3 rfl) ?_
          refine gf_RX11_199 hx hb hts hown hK hP (hL 40 0 (xe_40 nb nn)) dX11_readEntry_71 ?_
          refine lv_if_ne (tgt := 128) hx hb dX11_readEntry_74 (by decide) (fun c_45 => ?_) (fun c_45 => ?_)
          · replace hres := hres.trans (if_neg c_45)
            exact x_retv hx hb hr hlk hP hS (hres.symm.trans hF) dX11_readEntry_128
          · replace hres := hres.trans (if_pos c_45)
            refine lv_aload_n hx hb dX11_readEntry_77 rfl (lv_at hl 3 rfl) ?_
            refine gf_RX11_41 hx hb hts hown hK hP (hL 40 0 (xe_40 nb nn)) dX11_readEntry_78 ?_
            refine lv_aload_n hx hb dX11_readEntry_81 rfl (lv_at hl 3 rfl) ?_
            refine gf_RX11_230 hx hb hts hown hK hP (hL 40 0 (xe_40 nb nn)) dX11_readEntry_82 ?_
            refine lv_iload_n hx hb dX11_readEntry_85 rfl (lv_at hl 4 rfl) ?_
            refine x_iast hx hb hK hP hD hS (hL 65 0 (xe_65 nb nn)) (xc65 g 0) (ob_X11_readEntry_86_in_4 nb nn w M hp0 hp1 hp2 hp3 r_1 er_1 c_2 c_27 M_30 eM_30 r_31 M_32 er_31 eM_32 c_33 r_43 M_44 er_43 eM_44 c_45) dX11_readEntry_86 (fun H locs hP hS => ?_)
            obtain ⟨M_46, eM_46⟩ : ∃ z_ : xM, z_ = xup M_44 65 0 (M_44 40 0 19).toNatClampNeg w := ⟨_, rfl⟩
            rw [← eM_46] at hP
            replace hres := xlet_n hres eM_46
            refine lv_aload_n hx hb dX11_readEntry_87 rfl (lv_at hl 3 rfl) ?_
            refine gf_RX11_44 hx hb hts hown hK hP (hL 40 0 (xe_40 nb nn)) dX11_readEntry_88 ?_
            refine lv_aload_n hx hb dX11_readEntry_91 rfl (lv_at hl 3 rfl) ?_
            refine gf_RX11_230 hx hb hts hown hK hP (hL 40 0 (xe_40 nb nn)) dX11_readEntry_92 ?_
            refine lv_iload_n hx hb dX11_readEntry_95 rfl (lv_at hl 2 rfl) ?_
            refine x_iast hx hb hK hP hD hS (hL 66 0 (xe_66 nb nn)) (xc66 g 0) (ob_X11_readEntry_96_in_4 nb nn w M hp0 hp1 hp2 hp3 r_1 er_1 c_2 c_27 M_30 eM_30 r_31 M_32 er_31 eM_32 c_33 r_43 M_44 er_43 eM_44 c_45 M_46 eM_46) dX11_readEntry_96 (fun H locs hP hS => ?_)
            obtain ⟨M_47, eM_47⟩ : ∃ z_ : xM, z_ = xup M_46 66 0 (M_46 40 0 19).toNatClampNeg r_1 := ⟨_, rfl⟩
            rw [← eM_47] at hP
            replace hres := xlet_n hres eM_47
            refine lv_aload_n hx hb dX11_readEntry_97 rfl (lv_at hl 3 rfl) ?_
            refine gf_RX11_47 hx hb hts hown hK hP (hL 40 0 (xe_40 nb nn)) dX11_readEntry_98 ?_
            refine lv_aload_n hx hb dX11_readEntry_101 rfl (lv_at hl 3 rfl) ?_
            refine gf_RX11_230 hx hb hts hown hK hP (hL 40 0 (xe_40 nb nn)) dX11_readEntry_102 ?_
            refine lv_iload_n hx hb dX11_readEntry_105 rfl (lv_at hl 1 rfl) ?_
            refine x_iast hx hb hK hP hD hS (hL 67 0 (xe_67 nb nn)) (xc67 g 0) (ob_X11_readEntry_106_in_4 nb nn w M hp0 hp1 hp2 hp3 r_1 er_1 c_2 c_27 M_30 eM_30 r_31 M_32 er_31 eM_32 c_33 r_43 M_44 er_43 eM_44 c_45 M_46 eM_46 M_47 eM_47) dX11_readEntry_106 (fun H locs hP hS => ?_)
            obtain ⟨M_48, eM_48⟩ : ∃ z_ : xM, z_ = xup M_47 67 0 (M_47 40 0 19).toNatClampNeg r_31 := ⟨_, rfl⟩
            rw [← eM_48] at hP
            replace hres := xlet_n hres eM_48
            refine lv_aload_n hx hb dX11_readEntry_107 rfl (lv_at hl 3 rfl) ?_
            refine gf_RX11_50 hx hb hts hown hK hP (hL 40 0 (xe_40 nb nn)) dX11_readEntry_108 ?_
            refine lv_aload_n hx hb dX11_readEntry_111 rfl (lv_at hl 3 rfl) ?_
            refine gf_RX11_230 hx hb hts hown hK hP (hL 40 0 (xe_40 nb nn)) dX11_readEntry_112 ?_
            refine lv_iload hx hb dX11_readEntry_115 (lv_at hl 0 rfl) ?_
            refine x_iast hx hb hK hP hD hS (hL 68 0 (xe_68 nb nn)) (xc68 g 0) (ob_X11_readEntry_117_in_4 nb nn w M hp0 hp1 hp2 hp3 r_1 er_1 c_2 c_27 M_30 eM_30 r_31 M_32 er_31 eM_32 c_33 r_43 M_44 er_43 eM_44 c_45 M_46 eM_46 M_47 eM_47 M_48 eM_48) dX11_readEntry_117 (fun H locs hP hS => ?_)
            obtain ⟨M_49, eM_49⟩ : ∃ z_ : xM, z_ = xup M_48 68 0 (M_48 40 0 19).toNatClampNeg r_43 := ⟨_, rfl⟩
            rw [← eM_49] at hP
            replace hres := xlet_n hres eM_49
            refine lv_aload_n hx hb dX11_readEntry_118 rfl (lv_at hl 3 rfl) ?_
            refine lv_dup hx hb dX11_readEntry_119 rfl ?_
            refine gf_RX11_230 hx hb hts hown hK hP (hL 40 0 (xe_40 nb nn)) dX11_readEntry_120 ?_
            refine lv_iconst (v := 1) hx hb dX11_readEntry_123 (by decide) ?_
            refine lv_iadd hx hb dX11_readEntry_124 ?_
            refine lv_topi (fun v_50 ev_50 => ?_)
            replace hres := xlet_n hres ev_50
            refine pf_RX11_230 hx hb hts hown hK hP hD hS (hL 40 0 (xe_40 nb nn)) dX11_readEntry_125 (fun H locs hP hS => ?_)
            obtain ⟨M_51, eM_51⟩ : ∃ z_ : xM, z_ = xup M_49 40 0 19 v_50 := ⟨_, rfl⟩
            rw [← eM_51] at hP
            replace hres := xlet_n hres eM_51
            exact x_retv hx hb hr hlk hP hS (hres.symm.trans hF) dX11_readEntry_128
    · replace hres := hres.trans (if_pos c_27)
      refine lv_aload_n hx hb dX11_readEntry_20 rfl (lv_at hl 1 rfl) ?_
      refine lv_iconst (v := 3) hx hb dX11_readEntry_21 (by decide) ?_
      refine x_callVv (As := [.int 3]) S hK hAm hD hP hS mt_X11_bad wd_594 ⟨by decide, by decide⟩ (hL 40 0 (xe_40 nb nn)) (xc40 g 0) rfl (c_X11_bad l nb nn g L M hD hL 3) rfl hl.1 (Nat.le_of_ble_eq_true rfl) ⟨Nat.zero_le _, Nat.zero_le _⟩ dX11_readEntry_22 rfl (fun M_53 H locs eM_53 hP hS => ?_)
      replace hres := xlet_n hres eM_53
      refine lv_aload_n hx hb dX11_readEntry_25 rfl (lv_at hl 1 rfl) ?_
      refine lv_iload_n hx hb dX11_readEntry_26 rfl (lv_at hl 0 rfl) ?_
      refine lv_ldc (own := RX11) (v := (-1000000)) hx hb hown (hts _ (List.mem_cons_of_mem _ wd_302)) dX11_readEntry_27 ?_
      refine lv_icmp_eq (tgt := 36) hx hb dX11_readEntry_29 (by decide) (fun c_54 => ?_) (fun c_54 => ?_)
      · exact absurd c_54 c_2
      · clear c_54
        refine lv_iconst (v := 1) hx hb dX11_readEntry_32 (by decide) ?_
        refine lv_goto (tgt := 37) hx hb dX11_readEntry_33 (by decide) ?_
        refine x_callVv (As := [.int 1]) S hK hAm hD hP hS mt_X11_must wd_590 ⟨by decide, by decide⟩ (hL 40 0 (xe_40 nb nn)) (xc40 g 0) rfl (c_X11_must l nb nn g L M_53 hD hL 1 (ob_X11_readEntry_37_p0_3 nb nn w M hp0 hp1 hp2 hp3 r_1 er_1 c_2 c_27 M_53 eM_53)) rfl hl.1 (Nat.le_of_ble_eq_true rfl) ⟨Nat.zero_le _, Nat.zero_le _⟩ dX11_readEntry_37 rfl (fun M_56 H locs eM_56 hP hS => ?_)
        replace hres := xlet_n hres eM_56
        refine lv_aload_n hx hb dX11_readEntry_40 rfl (lv_at hl 1 rfl) ?_
        refine lv_aload_n hx hb dX11_readEntry_41 rfl (lv_at hl 1 rfl) ?_
        refine gf_RX11_150 hx hb hts hown hK hP (hL 40 0 (xe_40 nb nn)) dX11_readEntry_42 ?_
        refine lv_iconst (v := 1) hx hb dX11_readEntry_45 (by decide) ?_
        refine lv_isub hx hb dX11_readEntry_46 ?_
        refine x_callVi (As := [.int ((M_56 40 0 7) - 1)]) S hK hAm hD hP hS mt_X11_numberTo wd_598 ⟨by decide, by decide⟩ (hL 40 0 (xe_40 nb nn)) (xc40 g 0) rfl (c_X11_numberTo l nb nn g L M_56 hD hL ((M_56 40 0 7) - 1) (ob_X11_readEntry_47_p0_3 nb nn w M hp0 hp1 hp2 hp3 r_1 er_1 c_2 c_27 M_53 eM_53 M_56 eM_56)) rfl hl.1 (Nat.le_of_ble_eq_true rfl) ⟨Nat.zero_le _, Nat.zero_le _⟩ dX11_readEntry_47 rfl (fun r_57 M_58 H locs ep_ hP hS => ?_)
        replace hres := xlet2_n hres ep_
        have er_57 : r_57 = (f_X11_numberTo ((M_56 40 0 7) - 1) M_56).1 := congrArg Prod.fst ep_
        have eM_58 : M_58 = (f_X11_numberTo ((M_56 40 0 7) - 1) M_56).2 := congrArg Prod.snd ep_
        clear ep_
        refine lv_istore_n (lv' := [(3, .int r_57), (2, .int r_1), (0, .ref (xad g 40 0)), (1, .int w)]) hx hb dX11_readEntry_50 rfl hl (by decide) rfl (fun ls hl => ?_)
        refine lv_aload_n hx hb dX11_readEntry_51 rfl (lv_at hl 2 rfl) ?_
        refine lv_iload_n hx hb dX11_readEntry_52 rfl (lv_at hl 1 rfl) ?_
        refine lv_iconst (v := 1) hx hb dX11_readEntry_53 (by decide) ?_
        refine lv_icmp_ne (tgt := 63) hx hb dX11_readEntry_54 (by decide) (fun c_59 => ?_) (fun c_59 => ?_)
        · replace hres := hres.trans (if_neg c_59)
          refine lv_bipush (v := 100) hx hb dX11_readEntry_63 (by decide) ?_
          refine x_callVi (As := [.int 100]) S hK hAm hD hP hS mt_X11_numberTo wd_598 ⟨by decide, by decide⟩ (hL 40 0 (xe_40 nb nn)) (xc40 g 0) rfl (c_X11_numberTo l nb nn g L M_58 hD hL 100 (ob_X11_readEntry_65_p0_5 nb nn w M hp0 hp1 hp2 hp3 r_1 er_1 c_2 c_27 M_53 eM_53 M_56 eM_56 r_57 M_58 er_57 eM_58 c_59)) rfl hl.1 (Nat.le_of_ble_eq_true rfl) ⟨Nat.zero_le _, Nat.zero_le _⟩ dX11_readEntry_65 rfl (fun r_60 M_61 H locs ep_ hP hS => ?_)
          replace hres := xlet2_n hres ep_
          have er_60 : r_60 = (f_X11_numberTo 100 M_58).1 := congrArg Prod.fst ep_
          have eM_61 : M_61 = (f_X11_numberTo 100 M_58).2 := congrArg Prod.snd ep_
          clear ep_
          refine lv_istore (lv' := [(4, .int r_60), (3, .int r_57), (2, .int r_1), (0, .ref (xad g 40 0)), (1, .int w)]) hx hb dX11_readEntry_68 hl (by decide) rfl (fun ls hl => ?_)
          refine lv_aload_n hx hb dX11_readEntry_70 rfl (lv_at hl 3 rfl) ?_
          refine gf_RX11_199 hx hb hts hown hK hP (hL 40 0 (xe_40 nb nn)) dX11_readEntry_71 ?_
          refine lv_if_ne (tgt := 128) hx hb dX11_readEntry_74 (by decide) (fun c_62 => ?_) (fun c_62 => ?_)
          · replace hres := hres.trans (if_neg c_62)
            exact x_retv hx hb hr hlk hP hS (hres.symm.trans hF) dX11_readEntry_128
          · replace hres := hres.trans (if_pos c_62)
            refine lv_aload_n hx hb dX11_readEntry_77 rfl (lv_at hl 3 rfl) ?_
            refine gf_RX11_41 hx hb hts hown hK hP (hL 40 0 (xe_40 nb nn)) dX11_readEntry_78 ?_
            refine lv_aload_n hx hb dX11_readEntry_81 rfl (lv_at hl 3 rfl) ?_
            refine gf_RX11_230 hx hb hts hown hK hP (hL 40 0 (xe_40 nb nn)) dX11_readEntry_82 ?_
            refine lv_iload_n hx hb dX11_readEntry_85 rfl (lv_at hl 4 rfl) ?_
            refine x_iast hx hb hK hP hD hS (hL 65 0 (xe_65 nb nn)) (xc65 g 0) (ob_X11_readEntry_86_in_5 nb nn w M hp0 hp1 hp2 hp3 r_1 er_1 c_2 c_27 M_53 eM_53 M_56 eM_56 r_57 M_58 er_57 eM_58 c_59 r_60 M_61 er_60 eM_61 c_62) dX11_readEntry_86 (fun H locs hP hS => ?_)
            obtain ⟨M_63, eM_63⟩ : ∃ z_ : xM, z_ = xup M_61 65 0 (M_61 40 0 19).toNatClampNeg w := ⟨_, rfl⟩
            rw [← eM_63] at hP
            replace hres := xlet_n hres eM_63
            refine lv_aload_n hx hb dX11_readEntry_87 rfl (lv_at hl 3 rfl) ?_
            refine gf_RX11_44 hx hb hts hown hK hP (hL 40 0 (xe_40 nb nn)) dX11_readEntry_88 ?_
            refine lv_aload_n hx hb dX11_readEntry_91 rfl (lv_at hl 3 rfl) ?_
            refine gf_RX11_230 hx hb hts hown hK hP (hL 40 0 (xe_40 nb nn)) dX11_readEntry_92 ?_
            refine lv_iload_n hx hb dX11_readEntry_95 rfl (lv_at hl 2 rfl) ?_
            refine x_iast hx hb hK hP hD hS (hL 66 0 (xe_66 nb nn)) (xc66 g 0) (ob_X11_readEntry_96_in_5 nb nn w M hp0 hp1 hp2 hp3 r_1 er_1 c_2 c_27 M_53 eM_53 M_56 eM_56 r_57 M_58 er_57 eM_58 c_59 r_60 M_61 er_60 eM_61 c_62 M_63 eM_63) dX11_readEntry_96 (fun H locs hP hS => ?_)
            obtain ⟨M_64, eM_64⟩ : ∃ z_ : xM, z_ = xup M_63 66 0 (M_63 40 0 19).toNatClampNeg r_1 := ⟨_, rfl⟩
            rw [← eM_64] at hP
            replace hres := xlet_n hres eM_64
            refine lv_aload_n hx hb dX11_readEntry_97 rfl (lv_at hl 3 rfl) ?_
            refine gf_RX11_47 hx hb hts hown hK hP (hL 40 0 (xe_40 nb nn)) dX11_readEntry_98 ?_
            refine lv_aload_n hx hb dX11_readEntry_101 rfl (lv_at hl 3 rfl) ?_
            refine gf_RX11_230 hx hb hts hown hK hP (hL 40 0 (xe_40 nb nn)) dX11_readEntry_102 ?_
            refine lv_iload_n hx hb dX11_readEntry_105 rfl (lv_at hl 1 rfl) ?_
            refine x_iast hx hb hK hP hD hS (hL 67 0 (xe_67 nb nn)) (xc67 g 0) (ob_X11_readEntry_106_in_5 nb nn w M hp0 hp1 hp2 hp3 r_1 er_1 c_2 c_27 M_53 eM_53 M_56 eM_56 r_57 M_58 er_57 eM_58 c_59 r_60 M_61 er_60 eM_61 c_62 M_63 eM_63 M_64 eM_64) dX11_readEntry_106 (fun H locs hP hS => ?_)
            obtain ⟨M_65, eM_65⟩ : ∃ z_ : xM, z_ = xup M_64 67 0 (M_64 40 0 19).toNatClampNeg r_57 := ⟨_, rfl⟩
            rw [← eM_65] at hP
            replace hres := xlet_n hres eM_65
            refine lv_aload_n hx hb dX11_readEntry_107 rfl (lv_at hl 3 rfl) ?_
            refine gf_RX11_50 hx hb hts hown hK hP (hL 40 0 (xe_40 nb nn)) dX11_readEntry_108 ?_
            refine lv_aload_n hx hb dX11_readEntry_111 rfl (lv_at hl 3 rfl) ?_
            refine gf_RX11_230 hx hb hts hown hK hP (hL 40 0 (xe_40 nb nn)) dX11_readEntry_112 ?_
            refine lv_iload hx hb dX11_readEntry_115 (lv_at hl 0 rfl) ?_
            refine x_iast hx hb hK hP hD hS (hL 68 0 (xe_68 nb nn)) (xc68 g 0) (ob_X11_readEntry_117_in_5 nb nn w M hp0 hp1 hp2 hp3 r_1 er_1 c_2 c_27 M_53 eM_53 M_56 eM_56 r_57 M_58 er_57 eM_58 c_59 r_60 M_61 er_60 eM_61 c_62 M_63 eM_63 M_64 eM_64 M_65 eM_65) dX11_readEntry_117 (fun H locs hP hS => ?_)
            obtain ⟨M_66, eM_66⟩ : ∃ z_ : xM, z_ = xup M_65 68 0 (M_65 40 0 19).toNatClampNeg r_60 := ⟨_, rfl⟩
            rw [← eM_66] at hP
            replace hres := xlet_n hres eM_66
            refine lv_aload_n hx hb dX11_readEntry_118 rfl (lv_at hl 3 rfl) ?_
            refine lv_dup hx hb dX11_readEntry_119 rfl ?_
            refine gf_RX11_230 hx hb hts hown hK hP (hL 40 0 (xe_40 nb nn)) dX11_readEntry_120 ?_
            refine lv_iconst (v := 1) hx hb dX11_readEntry_123 (by decide) ?_
            refine lv_iadd hx hb dX11_readEntry_124 ?_
            refine lv_topi (fun v_67 ev_67 => ?_)
            replace hres := xlet_n hres ev_67
            refine pf_RX11_230 hx hb hts hown hK hP hD hS (hL 40 0 (xe_40 nb nn)) dX11_readEntry_125 (fun H locs hP hS => ?_)
            obtain ⟨M_68, eM_68⟩ : ∃ z_ : xM, z_ = xup M_66 40 0 19 v_67 := ⟨_, rfl⟩
            rw [← eM_68] at hP
            replace hres := xlet_n hres eM_68
            exact x_retv hx hb hr hlk hP hS (hres.symm.trans hF) dX11_readEntry_128
        · replace hres := hres.trans (if_pos c_59)
          refine lv_sipush (v := 255) hx hb dX11_readEntry_57 (by decide) ?_
          refine lv_goto (tgt := 65) hx hb dX11_readEntry_60 (by decide) ?_
          refine x_callVi (As := [.int 255]) S hK hAm hD hP hS mt_X11_numberTo wd_598 ⟨by decide, by decide⟩ (hL 40 0 (xe_40 nb nn)) (xc40 g 0) rfl (c_X11_numberTo l nb nn g L M_58 hD hL 255 (ob_X11_readEntry_65_p0_6 nb nn w M hp0 hp1 hp2 hp3 r_1 er_1 c_2 c_27 M_53 eM_53 M_56 eM_56 r_57 M_58 er_57 eM_58 c_59)) rfl hl.1 (Nat.le_of_ble_eq_true rfl) ⟨Nat.zero_le _, Nat.zero_le _⟩ dX11_readEntry_65 rfl (fun r_69 M_70 H locs ep_ hP hS => ?_)
          replace hres := xlet2_n hres ep_
          have er_69 : r_69 = (f_X11_numberTo 255 M_58).1 := congrArg Prod.fst ep_
          have eM_70 : M_70 = (f_X11_numberTo 255 M_58).2 := congrArg Prod.snd ep_
          clear ep_
          refine lv_istore (lv' := [(4, .int r_69), (3, .int r_57), (2, .int r_1), (0, .ref (xad g 40 0)), (1, .int w)]) hx hb dX11_readEntry_68 hl (by decide) rfl (fun ls hl => ?_)
          refine lv_aload_n hx hb dX11_readEntry_70 rfl (lv_at hl 3 rfl) ?_
          refine gf_RX11_199 hx hb hts hown hK hP (hL 40 0 (xe_40 nb nn)) dX11_readEntry_71 ?_
          refine lv_if_ne (tgt := 128) hx hb dX11_readEntry_74 (by decide) (fun c_71 => ?_) (fun c_71 => ?_)
          · replace hres := hres.trans (if_neg c_71)
            exact x_retv hx hb hr hlk hP hS (hres.symm.trans hF) dX11_readEntry_128
          · replace hres := hres.trans (if_pos c_71)
            refine lv_aload_n hx hb dX11_readEntry_77 rfl (lv_at hl 3 rfl) ?_
            refine gf_RX11_41 hx hb hts hown hK hP (hL 40 0 (xe_40 nb nn)) dX11_readEntry_78 ?_
            refine lv_aload_n hx hb dX11_readEntry_81 rfl (lv_at hl 3 rfl) ?_
            refine gf_RX11_230 hx hb hts hown hK hP (hL 40 0 (xe_40 nb nn)) dX11_readEntry_82 ?_
            refine lv_iload_n hx hb dX11_readEntry_85 rfl (lv_at hl 4 rfl) ?_
            refine x_iast hx hb hK hP hD hS (hL 65 0 (xe_65 nb nn)) (xc65 g 0) (ob_X11_readEntry_86_in_6 nb nn w M hp0 hp1 hp2 hp3 r_1 er_1 c_2 c_27 M_53 eM_53 M_56 eM_56 r_57 M_58 er_57 eM_58 c_59 r_69 M_70 er_69 eM_70 c_71) dX11_readEntry_86 (fun H locs hP hS => ?_)
            obtain ⟨M_72, eM_72⟩ : ∃ z_ : xM, z_ = xup M_70 65 0 (M_70 40 0 19).toNatClampNeg w := ⟨_, rfl⟩
            rw [← eM_72] at hP
            replace hres := xlet_n hres eM_72
            refine lv_aload_n hx hb dX11_readEntry_87 rfl (lv_at hl 3 rfl) ?_
            refine gf_RX11_44 hx hb hts hown hK hP (hL 40 0 (xe_40 nb nn)) dX11_readEntry_88 ?_
            refine lv_aload_n hx hb dX11_readEntry_91 rfl (lv_at hl 3 rfl) ?_
            refine gf_RX11_230 hx hb hts hown hK hP (hL 40 0 (xe_40 nb nn)) dX11_readEntry_92 ?_
            refine lv_iload_n hx hb dX11_readEntry_95 rfl (lv_at hl 2 rfl) ?_
            refine x_iast hx hb hK hP hD hS (hL 66 0 (xe_66 nb nn)) (xc66 g 0) (ob_X11_readEntry_96_in_6 nb nn w M hp0 hp1 hp2 hp3 r_1 er_1 c_2 c_27 M_53 eM_53 M_56 eM_56 r_57 M_58 er_57 eM_58 c_59 r_69 M_70 er_69 eM_70 c_71 M_72 eM_72) dX11_readEntry_96 (fun H locs hP hS => ?_)
            obtain ⟨M_73, eM_73⟩ : ∃ z_ : xM, z_ = xup M_72 66 0 (M_72 40 0 19).toNatClampNeg r_1 := ⟨_, rfl⟩
            rw [← eM_73] at hP
            replace hres := xlet_n hres eM_73
            refine lv_aload_n hx hb dX11_readEntry_97 rfl (lv_at hl 3 rfl) ?_
            refine gf_RX11_47 hx hb hts hown hK hP (hL 40 0 (xe_40 nb nn)) dX11_readEntry_98 ?_
            refine lv_aload_n hx hb dX11_readEntry_101 rfl (lv_at hl 3 rfl) ?_
            refine gf_RX11_230 hx hb hts hown hK hP (hL 40 0 (xe_40 nb nn)) dX11_readEntry_102 ?_
            refine lv_iload_n hx hb dX11_readEntry_105 rfl (lv_at hl 1 rfl) ?_
            refine x_iast hx hb hK hP hD hS (hL 67 0 (xe_67 nb nn)) (xc67 g 0) (ob_X11_readEntry_106_in_6 nb nn w M hp0 hp1 hp2 hp3 r_1 er_1 c_2 c_27 M_53 eM_53 M_56 eM_56 r_57 M_58 er_57 eM_58 c_59 r_69 M_70 er_69 eM_70 c_71 M_72 eM_72 M_73 eM_73) dX11_readEntry_106 (fun H locs hP hS => ?_)
            obtain ⟨M_74, eM_74⟩ : ∃ z_ : xM, z_ = xup M_73 67 0 (M_73 40 0 19).toNatClampNeg r_57 := ⟨_, rfl⟩
            rw [← eM_74] at hP
            replace hres := xlet_n hres eM_74
            refine lv_aload_n hx hb dX11_readEntry_107 rfl (lv_at hl 3 rfl) ?_
            refine gf_RX11_50 hx hb hts hown hK hP (hL 40 0 (xe_40 nb nn)) dX11_readEntry_108 ?_
            refine lv_aload_n hx hb dX11_readEntry_111 rfl (lv_at hl 3 rfl) ?_
            refine gf_RX11_230 hx hb hts hown hK hP (hL 40 0 (xe_40 nb nn)) dX11_readEntry_112 ?_
            refine lv_iload hx hb dX11_readEntry_115 (lv_at hl 0 rfl) ?_
            refine x_iast hx hb hK hP hD hS (hL 68 0 (xe_68 nb nn)) (xc68 g 0) (ob_X11_readEntry_117_in_6 nb nn w M hp0 hp1 hp2 hp3 r_1 er_1 c_2 c_27 M_53 eM_53 M_56 eM_56 r_57 M_58 er_57 eM_58 c_59 r_69 M_70 er_69 eM_70 c_71 M_72 eM_72 M_73 eM_73 M_74 eM_74) dX11_readEntry_117 (fun H locs hP hS => ?_)
            obtain ⟨M_75, eM_75⟩ : ∃ z_ : xM, z_ = xup M_74 68 0 (M_74 40 0 19).toNatClampNeg r_69 := ⟨_, rfl⟩
            rw [← eM_75] at hP
            replace hres := xlet_n hres eM_75
            refine lv_aload_n hx hb dX11_readEntry_118 rfl (lv_at hl 3 rfl) ?_
            refine lv_dup hx hb dX11_readEntry_119 rfl ?_
            refine gf_RX11_230 hx hb hts hown hK hP (hL 40 0 (xe_40 nb nn)) dX11_readEntry_120 ?_
            refine lv_iconst (v := 1) hx hb dX11_readEntry_123 (by decide) ?_
            refine lv_iadd hx hb dX11_readEntry_124 ?_
            refine lv_topi (fun v_76 ev_76 => ?_)
            replace hres := xlet_n hres ev_76
            refine pf_RX11_230 hx hb hts hown hK hP hD hS (hL 40 0 (xe_40 nb nn)) dX11_readEntry_125 (fun H locs hP hS => ?_)
            obtain ⟨M_77, eM_77⟩ : ∃ z_ : xM, z_ = xup M_75 40 0 19 v_76 := ⟨_, rfl⟩
            rw [← eM_77] at hP
            replace hres := xlet_n hres eM_77
            exact x_retv hx hb hr hlk hP hS (hres.symm.trans hF) dX11_readEntry_128
set_option maxHeartbeats 4000000 in
set_option maxRecDepth 100000 in
theorem c_X11_saidOf (l : Launch) (nb nn : Nat) (g : xG) (L : List (Nat × Nat)) (M : xM) (hD : xD g L) (hL : xEL nb nn L) (town : Int32) (w : Int32) (b : Int32) (what : Int32) (hp0 : 0 ≤ town) (hp1 : town ≤ 5) (hp2 : 0 ≤ M 40 0 14) (hp3 : M 40 0 14 ≤ 40) : xCi l yX11_saidOf cX11_saidOf 9 (some .int) 2 g L M [.ref (xad g 40 0), .int town, .int w, .int b, .int what] (fun r u => (r, u) = f_X11_saidOf town w b what M) := by
  intro sz
  refine x_beg (by decide +kernel) rfl ?_
  intro p e s m args below meth c ls hsz hB
  subst hsz
  obtain ⟨hx, hb, hml, hown, hts, hr, hlk, hK, hAm, hP, hl⟩ := hB
  have S : CallFix p m c cX11_saidOf 9 s args (xws yX11_saidOf cX11_saidOf 9 (some .int)) RX11 := ⟨hx, hb, hml, hown, hts⟩
  have hown : s.vm.findClass RX11 = some m.cls := hown
  have hl : lv_has ls 9 [(0, .ref (xad g 40 0)), (1, .int town), (2, .int w), (3, .int b), (4, .int what)] := hl
  have hS : va_S (xA g L s.heap.size) s.heap s.heap [] := va_S.rf
  obtain ⟨F, hF⟩ : ∃ F, F = f_X11_saidOf town w b what M := ⟨_, rfl⟩
  have k_15 : ∀ (till : Int32) (N_ : xM) (n : Nat) (best : Int32) (k : Int32) (H : Heap) (locs : List Loc) (ls : Array Slot) (kx : (Int32 → Int32 → Int32 × xM)), xmu k (N_ 40 0 14) < n → 0 ≤ k ∧ N_ 40 0 14 ≤ 40 ∧ (best = (-1000000) ∨ (0 ≤ best ∧ best < 40)) → F = f_X11_saidOf_L15 town w b what till N_ n best k kx → xP g L N_ H → va_S (xA g L s.heap.size) s.heap H locs → lv_has ls 9 [(0, .ref (xad g 40 0)), (1, .int town), (2, .int w), (3, .int b), (4, .int what), (5, .int till), (6, .int best), (7, .int k)] → (∀ (best : Int32) (k : Int32) (H : Heap) (locs : List Loc) (ls : Array Slot), 0 ≤ k ∧ N_ 40 0 14 ≤ 40 ∧ (best = (-1000000) ∨ (0 ≤ best ∧ best < 40)) → F = kx best k → xP g L N_ H → va_S (xA g L s.heap.size) s.heap H locs → lv_has ls 9 [(0, .ref (xad g 40 0)), (1, .int town), (2, .int w), (3, .int b), (4, .int what), (5, .int till), (6, .int best), (7, .int k)] → W p l e (xr 2) s m args below meth c H locs 0 0 (MQ below (va_Qi (fun r u => (r, u) = f_X11_saidOf town w b what M) (xPost g L) (xA g L s.heap.size)) args s 0 0 (xA g L s.heap.size)) (F0 m 110 ls [])) → W p l e (xr 2) s m args below meth c H locs 0 0 (MQ below (va_Qi (fun r u => (r, u) = f_X11_saidOf town w b what M) (xPost g L) (xA g L s.heap.size)) args s 0 0 (xA g L s.heap.size)) (F0 m 15 ls []) := by
    intro till N_ n
    induction n with
    | zero => intro best k H locs ls kx hmu; exact absurd hmu (Nat.not_lt_zero _)
    | succ n ih =>
      intro best k H locs ls kx hmu hinv hres hP hS hl hex
      replace hres : F = _ := hres.trans (by rw [f_X11_saidOf_L15])
      refine lv_iload hx hb dX11_saidOf_15 (lv_at hl 7 rfl) ?_
      refine lv_aload_n hx hb dX11_saidOf_17 rfl (lv_at hl 0 rfl) ?_
      refine gf_RX11_236 hx hb hts hown hK hP (hL 40 0 (xe_40 nb nn)) dX11_saidOf_18 ?_
      refine lv_icmp_ge (tgt := 110) hx hb dX11_saidOf_21 (by decide) (fun c_1 => ?_) (fun c_1 => ?_)
      · replace hres := hres.trans (if_pos c_1)
        exact hex best k _ _ _ (ob_X11_saidOf_110_x15 nb nn town w b what M hp0 hp1 hp2 hp3 till n best k N_ hmu hinv c_1) hres hP hS (lv_sub hl [0, 1, 2, 3, 4, 5, 6, 7] rfl)
      · replace hres := hres.trans (if_neg c_1)
        refine lv_aload_n hx hb dX11_saidOf_24 rfl (lv_at hl 0 rfl) ?_
        refine gf_RX11_44 hx hb hts hown hK hP (hL 40 0 (xe_40 nb nn)) dX11_saidOf_25 ?_
        refine lv_iload hx hb dX11_saidOf_28 (lv_at hl 7 rfl) ?_
        refine x_iald hx hb hK hP (hL 66 0 (xe_66 nb nn)) (xc66 g 0) (ob_X11_saidOf_30_in nb nn town w b what M hp0 hp1 hp2 hp3 till n best k N_ hmu hinv c_1) dX11_saidOf_30 ?_
        refine lv_iload hx hb dX11_saidOf_31 (lv_at hl 4 rfl) ?_
        refine lv_icmp_ne (tgt := 63) hx hb dX11_saidOf_33 (by decide) (fun c_2 => ?_) (fun c_2 => ?_)
        · replace hres := hres.trans (if_neg c_2)
          refine lv_iconst (v := 0) hx hb dX11_saidOf_63 (by decide) ?_
          refine lv_istore (lv' := [(8, .int 0), (0, .ref (xad g 40 0)), (1, .int town), (2, .int w), (3, .int b), (4, .int what), (5, .int till), (6, .int best), (7, .int k)]) hx hb dX11_saidOf_64 hl (by decide) rfl (fun ls hl => ?_)
          refine lv_iload hx hb dX11_saidOf_66 (lv_at hl 0 rfl) ?_
          refine lv_if_eq (tgt := 100) hx hb dX11_saidOf_68 (by decide) (fun c_3 => ?_) (fun c_3 => ?_)
          · clear c_3
            refine lv_iload hx hb dX11_saidOf_100 (lv_at hl 7 rfl) ?_
            refine lv_istore (lv' := [(6, .int best), (8, .int 0), (0, .ref (xad g 40 0)), (1, .int town), (2, .int w), (3, .int b), (4, .int what), (5, .int till), (7, .int k)]) hx hb dX11_saidOf_102 hl (by decide) rfl (fun ls hl => ?_)
            obtain ⟨x7_4, ex7_4⟩ : ∃ z_ : Int32, z_ = k + 1 := ⟨_, rfl⟩
            replace hres := xlet_n hres ex7_4
            refine lv_iinc (v := x7_4) (lv' := [(7, .int x7_4), (6, .int best), (8, .int 0), (0, .ref (xad g 40 0)), (1, .int town), (2, .int w), (3, .int b), (4, .int what), (5, .int till)]) hx hb dX11_saidOf_104 hl (k := 8) rfl (by rw [ex7_4]; rfl) (by decide) rfl (fun ls hl => ?_)
            refine lv_goto (tgt := 15) hx hb dX11_saidOf_107 (by decide) ?_
            exact ih best x7_4 _ _ _ kx (ob_X11_saidOf_15_mu_4 nb nn town w b what M hp0 hp1 hp2 hp3 till n best k N_ hmu hinv c_1 c_2 x7_4 ex7_4) (ob_X11_saidOf_15_inv_4 nb nn town w b what M hp0 hp1 hp2 hp3 till n best k N_ hmu hinv c_1 c_2 x7_4 ex7_4) hres hP hS (lv_sub hl [3, 4, 5, 6, 7, 8, 1, 0] rfl) hex
          · exact absurd c_3 (by decide)
        · replace hres := hres.trans (if_pos c_2)
          refine lv_aload_n hx hb dX11_saidOf_36 rfl (lv_at hl 0 rfl) ?_
          refine gf_RX11_47 hx hb hts hown hK hP (hL 40 0 (xe_40 nb nn)) dX11_saidOf_37 ?_
          refine lv_iload hx hb dX11_saidOf_40 (lv_at hl 7 rfl) ?_
          refine x_iald hx hb hK hP (hL 67 0 (xe_67 nb nn)) (xc67 g 0) (ob_X11_saidOf_42_in nb nn town w b what M hp0 hp1 hp2 hp3 till n best k N_ hmu hinv c_1 c_2) dX11_saidOf_42 ?_
          refine lv_iload_n hx hb dX11_saidOf_43 rfl (lv_at hl 3 rfl) ?_
          refine lv_icmp_ne (tgt := 63) hx hb dX11_saidOf_44 (by decide) (fun c_5 => ?_) (fun c_5 => ?_)
          · replace hres := hres.trans (if_neg c_5)
            refine lv_iconst (v := 0) hx hb dX11_saidOf_63 (by decide) ?_
            refine lv_istore (lv' := [(8, .int 0), (0, .ref (xad g 40 0)), (1, .int town), (2, .int w), (3, .int b), (4, .int what), (5, .int till), (6, .int best), (7, .int k)]) hx hb dX11_saidOf_64 hl (by decide) rfl (fun ls hl => ?_)
            refine lv_iload hx hb dX11_saidOf_66 (lv_at hl 0 rfl) ?_
            refine lv_if_eq (tgt := 100) hx hb dX11_saidOf_68 (by decide) (fun c_6 => ?_) (fun c_6 => ?_)
            · clear c_6
              refine lv_iload hx hb dX11_saidOf_100 (lv_at hl 7 rfl) ?_
              refine lv_istore (lv' := [(6, .int best), (8, .int 0), (0, .ref (xad g 40 0)), (1, .int town), (2, .int w), (3, .int b), (4, .int what), (5, .int till), (7, .int k)]) hx hb dX11_saidOf_102 hl (by decide) rfl (fun ls hl => ?_)
              obtain ⟨x7_7, ex7_7⟩ : ∃ z_ : Int32, z_ = k + 1 := ⟨_, rfl⟩
              replace hres := xlet_n hres ex7_7
              refine lv_iinc (v := x7_7) (lv' := [(7, .int x7_7), (6, .int best), (8, .int 0), (0, .ref (xad g 40 0)), (1, .int town), (2, .int w), (3, .int b), (4, .int what), (5, .int till)]) hx hb dX11_saidOf_104 hl (k := 8) rfl (by rw [ex7_7]; rfl) (by decide) rfl (fun ls hl => ?_)
              refine lv_goto (tgt := 15) hx hb dX11_saidOf_107 (by decide) ?_
              exact ih best x7_7 _ _ _ kx (ob_X11_saidOf_15_mu_7 nb nn town w b what M hp0 hp1 hp2 hp3 till n best k N_ hmu hinv c_1 c_2 c_5 x7_7 ex7_7) (ob_X11_saidOf_15_inv_7 nb nn town w b what M hp0 hp1 hp2 hp3 till n best k N_ hmu hinv c_1 c_2 c_5 x7_7 ex7_7) hres hP hS (lv_sub hl [3, 4, 5, 6, 7, 8, 1, 0] rfl) hex
            · exact absurd c_6 (by decide)
          · replace hres := hres.trans (if_pos c_5)
            refine lv_aload_n hx hb dX11_saidOf_47 rfl (lv_at hl 0 rfl) ?_
            refine gf_RX11_41 hx hb hts hown hK hP (hL 40 0 (xe_40 nb nn)) dX11_saidOf_48 ?_
            refine lv_iload hx hb dX11_saidOf_51 (lv_at hl 7 rfl) ?_
            refine x_iald hx hb hK hP (hL 65 0 (xe_65 nb nn)) (xc65 g 0) (ob_X11_saidOf_53_in nb nn town w b what M hp0 hp1 hp2 hp3 till n best k N_ hmu hinv c_1 c_2 c_5) dX11_saidOf_53 ?_
            refine lv_iload hx hb dX11_saidOf_54 (lv_at hl 5 rfl) ?_
            refine lv_icmp_gt (tgt := 63) hx hb dX11_saidOf_56 (by decide) (fun c_8 => ?_) (fun c_8 => ?_)
            · replace hres := hres.trans (if_pos c_8)
              refine lv_iconst (v := 0) hx hb dX11_saidOf_63 (by decide) ?_
              refine lv_istore (lv' := [(8, .int 0), (0, .ref (xad g 40 0)), (1, .int town), (2, .int w), (3, .int b), (4, .int what), (5, .int till), (6, .int best), (7, .int k)]) hx hb dX11_saidOf_64 hl (by decide) rfl (fun ls hl => ?_)
              refine lv_iload hx hb dX11_saidOf_66 (lv_at hl 0 rfl) ?_
              refine lv_if_eq (tgt := 100) hx hb dX11_saidOf_68 (by decide) (fun c_9 => ?_) (fun c_9 => ?_)
              · clear c_9
                refine lv_iload hx hb dX11_saidOf_100 (lv_at hl 7 rfl) ?_
                refine lv_istore (lv' := [(6, .int best), (8, .int 0), (0, .ref (xad g 40 0)), (1, .int town), (2, .int w), (3, .int b), (4, .int what), (5, .int till), (7, .int k)]) hx hb dX11_saidOf_102 hl (by decide) rfl (fun ls hl => ?_)
                obtain ⟨x7_10, ex7_10⟩ : ∃ z_ : Int32, z_ = k + 1 := ⟨_, rfl⟩
                replace hres := xlet_n hres ex7_10
                refine lv_iinc (v := x7_10) (lv' := [(7, .int x7_10), (6, .int best), (8, .int 0), (0, .ref (xad g 40 0)), (1, .int town), (2, .int w), (3, .int b), (4, .int what), (5, .int till)]) hx hb dX11_saidOf_104 hl (k := 8) rfl (by rw [ex7_10]; rfl) (by decide) rfl (fun ls hl => ?_)
                refine lv_goto (tgt := 15) hx hb dX11_saidOf_107 (by decide) ?_
                exact ih best x7_10 _ _ _ kx (ob_X11_saidOf_15_mu_10 nb nn town w b what M hp0 hp1 hp2 hp3 till n best k N_ hmu hinv c_1 c_2 c_5 c_8 x7_10 ex7_10) (ob_X11_saidOf_15_inv_10 nb nn town w b what M hp0 hp1 hp2 hp3 till n best k N_ hmu hinv c_1 c_2 c_5 c_8 x7_10 ex7_10) hres hP hS (lv_sub hl [3, 4, 5, 6, 7, 8, 1, 0] rfl) hex
              · exact absurd c_9 (by decide)
            · replace hres := hres.trans (if_neg c_8)
              refine lv_iconst (v := 1) hx hb dX11_saidOf_59 (by decide) ?_
              refine lv_goto (tgt := 64) hx hb dX11_saidOf_60 (by decide) ?_
              refine lv_istore (lv' := [(8, .int 1), (0, .ref (xad g 40 0)), (1, .int town), (2, .int w), (3, .int b), (4, .int what), (5, .int till), (6, .int best), (7, .int k)]) hx hb dX11_saidOf_64 hl (by decide) rfl (fun ls hl => ?_)
              refine lv_iload hx hb dX11_saidOf_66 (lv_at hl 0 rfl) ?_
              refine lv_if_eq (tgt := 100) hx hb dX11_saidOf_68 (by decide) (fun c_11 => ?_) (fun c_11 => ?_)
              · exact absurd c_11 (by decide)
              · clear c_11
                refine lv_iload hx hb dX11_saidOf_71 (lv_at hl 7 rfl) ?_
                refine lv_ldc (own := RX11) (v := (-1000000)) hx hb hown (hts _ (List.mem_cons_of_mem _ wd_302)) dX11_saidOf_73 ?_
                refine lv_icmp_eq (tgt := 95) hx hb dX11_saidOf_75 (by decide) (fun c_12 => ?_) (fun c_12 => ?_)
                · replace hres := hres.trans (if_pos c_12)
                  refine lv_iload hx hb dX11_saidOf_95 (lv_at hl 8 rfl) ?_
                  refine lv_goto (tgt := 102) hx hb dX11_saidOf_97 (by decide) ?_
                  refine lv_istore (lv' := [(6, .int k), (8, .int 1), (0, .ref (xad g 40 0)), (1, .int town), (2, .int w), (3, .int b), (4, .int what), (5, .int till), (7, .int k)]) hx hb dX11_saidOf_102 hl (by decide) rfl (fun ls hl => ?_)
                  obtain ⟨x7_13, ex7_13⟩ : ∃ z_ : Int32, z_ = k + 1 := ⟨_, rfl⟩
                  replace hres := xlet_n hres ex7_13
                  refine lv_iinc (v := x7_13) (lv' := [(7, .int x7_13), (6, .int k), (8, .int 1), (0, .ref (xad g 40 0)), (1, .int town), (2, .int w), (3, .int b), (4, .int what), (5, .int till)]) hx hb dX11_saidOf_104 hl (k := 8) rfl (by rw [ex7_13]; rfl) (by decide) rfl (fun ls hl => ?_)
                  refine lv_goto (tgt := 15) hx hb dX11_saidOf_107 (by decide) ?_
                  exact ih k x7_13 _ _ _ kx (ob_X11_saidOf_15_mu_13 nb nn town w b what M hp0 hp1 hp2 hp3 till n best k N_ hmu hinv c_1 c_2 c_5 c_8 c_12 x7_13 ex7_13) (ob_X11_saidOf_15_inv_13 nb nn town w b what M hp0 hp1 hp2 hp3 till n best k N_ hmu hinv c_1 c_2 c_5 c_8 c_12 x7_13 ex7_13) hres hP hS (lv_sub hl [3, 4, 5, 6, 7, 8, 1, 0] rfl) hex
                · replace hres := hres.trans (if_neg c_12)
                  refine lv_aload_n hx hb dX11_saidOf_78 rfl (lv_at hl 1 rfl) ?_
                  refine gf_RX11_41 hx hb hts hown hK hP (hL 40 0 (xe_40 nb nn)) dX11_saidOf_79 ?_
                  refine lv_iload hx hb dX11_saidOf_82 (lv_at hl 8 rfl) ?_
                  refine x_iald hx hb hK hP (hL 65 0 (xe_65 nb nn)) (xc65 g 0) (ob_X11_saidOf_84_in nb nn town w b what M hp0 hp1 hp2 hp3 till n best k N_ hmu hinv c_1 c_2 c_5 c_8 c_12) dX11_saidOf_84 ?_
                  refine lv_aload_n hx hb dX11_saidOf_85 rfl (lv_at hl 1 rfl) ?_
                  refine gf_RX11_41 hx hb hts hown hK hP (hL 40 0 (xe_40 nb nn)) dX11_saidOf_86 ?_
                  refine lv_iload hx hb dX11_saidOf_89 (lv_at hl 7 rfl) ?_
                  refine x_iald hx hb hK hP (hL 65 0 (xe_65 nb nn)) (xc65 g 0) (ob_X11_saidOf_91_in nb nn town w b what M hp0 hp1 hp2 hp3 till n best k N_ hmu hinv c_1 c_2 c_5 c_8 c_12) dX11_saidOf_91 ?_
                  refine lv_icmp_lt (tgt := 100) hx hb dX11_saidOf_92 (by decide) (fun c_14 => ?_) (fun c_14 => ?_)
                  · replace hres := hres.trans (if_pos c_14)
                    refine lv_iload hx hb dX11_saidOf_100 (lv_at hl 7 rfl) ?_
                    refine lv_istore (lv' := [(6, .int best), (8, .int 1), (0, .ref (xad g 40 0)), (1, .int town), (2, .int w), (3, .int b), (4, .int what), (5, .int till), (7, .int k)]) hx hb dX11_saidOf_102 hl (by decide) rfl (fun ls hl => ?_)
                    obtain ⟨x7_15, ex7_15⟩ : ∃ z_ : Int32, z_ = k + 1 := ⟨_, rfl⟩
                    replace hres := xlet_n hres ex7_15
                    refine lv_iinc (v := x7_15) (lv' := [(7, .int x7_15), (6, .int best), (8, .int 1), (0, .ref (xad g 40 0)), (1, .int town), (2, .int w), (3, .int b), (4, .int what), (5, .int till)]) hx hb dX11_saidOf_104 hl (k := 8) rfl (by rw [ex7_15]; rfl) (by decide) rfl (fun ls hl => ?_)
                    refine lv_goto (tgt := 15) hx hb dX11_saidOf_107 (by decide) ?_
                    exact ih best x7_15 _ _ _ kx (ob_X11_saidOf_15_mu_15 nb nn town w b what M hp0 hp1 hp2 hp3 till n best k N_ hmu hinv c_1 c_2 c_5 c_8 c_12 c_14 x7_15 ex7_15) (ob_X11_saidOf_15_inv_15 nb nn town w b what M hp0 hp1 hp2 hp3 till n best k N_ hmu hinv c_1 c_2 c_5 c_8 c_12 c_14 x7_15 ex7_15) hres hP hS (lv_sub hl [3, 4, 5, 6, 7, 8, 1, 0] rfl) hex
                  · replace hres := hres.trans (if_neg c_14)
                    refine lv_iload hx hb dX11_saidOf_95 (lv_at hl 8 rfl) ?_
                    refine lv_goto (tgt := 102) hx hb dX11_saidOf_97 (by decide) ?_
                    refine lv_istore (lv' := [(6, .int k), (8, .int 1), (0, .ref (xad g 40 0)), (1, .int town), (2, .int w), (3, .int b), (4, .int what), (5, .int till), (7, .int k)]) hx hb dX11_saidOf_102 hl (by decide) rfl (fun ls hl => ?_)
                    obtain ⟨x7_16, ex7_16⟩ : ∃ z_ : Int32, z_ = k + 1 := ⟨_, rfl⟩
                    replace hres := xlet_n hres ex7_16
                    refine lv_iinc (v := x7_16) (lv' := [(7, .int x7_16), (6, .int k), (8, .int 1), (0, .ref (xad g 40 0)), (1, .int town), (2, .int w), (3, .int b), (4, .int what), (5, .int till)]) hx hb dX11_saidOf_104 hl (k := 8) rfl (by rw [ex7_16]; rfl) (by decide) rfl (fun ls hl => ?_)
                    refine lv_goto (tgt := 15) hx hb dX11_saidOf_107 (by decide) ?_
                    exact ih k x7_16 _ _ _ kx (ob_X11_saidOf_15_mu_16 nb nn town w b what M hp0 hp1 hp2 hp3 till n best k N_ hmu hinv c_1 c_2 c_5 c_8 c_12 c_14 x7_16 ex7_16) (ob_X11_saidOf_15_inv_16 nb nn town w b what M hp0 hp1 hp2 hp3 till n best k N_ hmu hinv c_1 c_2 c_5 c_8 c_12 c_14 x7_16 ex7_16) hres hP hS (lv_sub hl [3, 4, 5, 6, 7, 8, 1, 0] rfl) hex
  have hres := hF
  rw [f_X11_saidOf] at hres
  refine lv_aload_n hx hb dX11_saidOf_0 rfl (lv_at hl 0 rfl) ?_
  refine lv_iload_n hx hb dX11_saidOf_1 rfl (lv_at hl 1 rfl) ?_
  refine lv_iload_n hx hb dX11_saidOf_2 rfl (lv_at hl 2 rfl) ?_
  refine x_callVi (As := [.int town, .int w]) S hK hAm hD hP hS mt_X11_bookWeek wd_663 ⟨by decide, by decide⟩ (hL 40 0 (xe_40 nb nn)) (xc40 g 0) rfl (c_X11_bookWeek l nb nn g L M hD hL town w (ob_X11_saidOf_3_p0 nb nn town w b what M hp0 hp1 hp2 hp3) (ob_X11_saidOf_3_p1 nb nn town w b what M hp0 hp1 hp2 hp3)) rfl hl.1 (Nat.le_of_ble_eq_true rfl) ⟨Nat.zero_le _, Nat.zero_le _⟩ dX11_saidOf_3 rfl (fun r_17 M_18 H locs ep_ hP hS => ?_)
  replace hres := xlet2_n hres ep_
  have er_17 : r_17 = (f_X11_bookWeek town w M).1 := congrArg Prod.fst ep_
  have eM_18 : M_18 = (f_X11_bookWeek town w M).2 := congrArg Prod.snd ep_
  clear ep_
  refine lv_istore (lv' := [(5, .int r_17), (0, .ref (xad g 40 0)), (1, .int town), (2, .int w), (3, .int b), (4, .int what)]) hx hb dX11_saidOf_6 hl (by decide) rfl (fun ls hl => ?_)
  refine lv_ldc (own := RX11) (v := (-1000000)) hx hb hown (hts _ (List.mem_cons_of_mem _ wd_302)) dX11_saidOf_8 ?_
  refine lv_istore (lv' := [(6, .int (-1000000)), (5, .int r_17), (0, .ref (xad g 40 0)), (1, .int town), (2, .int w), (3, .int b), (4, .int what)]) hx hb dX11_saidOf_10 hl (by decide) rfl (fun ls hl => ?_)
  refine lv_iconst (v := 0) hx hb dX11_saidOf_12 (by decide) ?_
  refine lv_istore (lv' := [(7, .int 0), (6, .int (-1000000)), (5, .int r_17), (0, .ref (xad g 40 0)), (1, .int town), (2, .int w), (3, .int b), (4, .int what)]) hx hb dX11_saidOf_13 hl (by decide) rfl (fun ls hl => ?_)
  refine k_15 r_17 M_18 (xmu (0 : Int32) (M_18 40 0 14) + 1) (-1000000 : Int32) (0 : Int32) _ _ _ _ (Nat.lt_succ_self _) (ob_X11_saidOf_15_ini_18 nb nn town w b what M hp0 hp1 hp2 hp3 r_17 M_18 er_17 eM_18) hres hP hS (lv_sub hl [3, 4, 5, 6, 7, 2, 1, 0] rfl) ?_
  clear hres hP hS hl
  intro best_19 k_20 H locs ls hiv_20 hres hP hS hl
  refine lv_iload hx hb dX11_saidOf_110 (lv_at hl 6 rfl) ?_
  refine lv_ldc (own := RX11) (v := (-1000000)) hx hb hown (hts _ (List.mem_cons_of_mem _ wd_302)) dX11_saidOf_112 ?_
  refine lv_icmp_ne (tgt := 122) hx hb dX11_saidOf_114 (by decide) (fun c_21 => ?_) (fun c_21 => ?_)
  · replace hres := hres.trans (if_neg c_21)
    refine lv_aload_n hx hb dX11_saidOf_122 rfl (lv_at hl 0 rfl) ?_
    refine gf_RX11_50 hx hb hts hown hK hP (hL 40 0 (xe_40 nb nn)) dX11_saidOf_123 ?_
    refine lv_iload hx hb dX11_saidOf_126 (lv_at hl 6 rfl) ?_
    refine x_iald hx hb hK hP (hL 68 0 (xe_68 nb nn)) (xc68 g 0) (ob_X11_saidOf_128_in nb nn town w b what M hp0 hp1 hp2 hp3 r_17 M_18 er_17 eM_18 best_19 k_20 hiv_20 c_21) dX11_saidOf_128 ?_
    exact x_reti hx hb hr hlk hP hS (hres.symm.trans hF) dX11_saidOf_129
  · replace hres := hres.trans (if_pos c_21)
    refine lv_ldc (own := RX11) (v := (-1000000)) hx hb hown (hts _ (List.mem_cons_of_mem _ wd_302)) dX11_saidOf_117 ?_
    refine lv_goto (tgt := 129) hx hb dX11_saidOf_119 (by decide) ?_
    exact x_reti hx hb hr hlk hP hS (hres.symm.trans hF) dX11_saidOf_129
set_option maxHeartbeats 4000000 in
set_option maxRecDepth 100000 in
theorem c_X11_falsePlates (l : Launch) (nb nn : Nat) (g : xG) (L : List (Nat × Nat)) (M : xM) (hD : xD g L) (hL : xEL nb nn L) (town : Int32) (w : Int32) (b : Int32) (note : Int32) (hp0 : 0 ≤ town) (hp1 : town ≤ 5) (hp2 : 0 ≤ M 40 0 14) (hp3 : M 40 0 14 ≤ 40) (hp4 : note = (-1000000) ∨ (0 ≤ note ∧ note < 24)) : xCi l yX11_falsePlates cX11_falsePlates 9 (some .int) 2 g L M [.ref (xad g 40 0), .int town, .int w, .int b, .int note] (fun r u => (r, u) = f_X11_falsePlates town w b note M) := by
  intro sz
  refine x_beg (by decide +kernel) rfl ?_
  intro p e s m args below meth c ls hsz hB
  subst hsz
  obtain ⟨hx, hb, hml, hown, hts, hr, hlk, hK, hAm, hP, hl⟩ := hB
  have S : CallFix p m c cX11_falsePlates 9 s args (xws yX11_falsePlates cX11_falsePlates 9 (some .int)) RX11 := ⟨hx, hb, hml, hown, hts⟩
  have hown : s.vm.findClass RX11 = some m.cls := hown
  have hl : lv_has ls 9 [(0, .ref (xad g 40 0)), (1, .int town), (2, .int w), (3, .int b), (4, .int note)] := hl
  have hS : va_S (xA g L s.heap.size) s.heap s.heap [] := va_S.rf
  obtain ⟨F, hF⟩ : ∃ F, F = f_X11_falsePlates town w b note M := ⟨_, rfl⟩
  have k_14 : ∀ (till : Int32) (N_ : xM) (n : Nat) (z : Int32) (k : Int32) (H : Heap) (locs : List Loc) (ls : Array Slot) (kx : (Int32 → Int32 → Int32 × xM)), xmu k (N_ 40 0 14) < n → 0 ≤ k ∧ N_ 40 0 14 ≤ 40 → F = f_X11_falsePlates_L14 town w b note till N_ n z k kx → xP g L N_ H → va_S (xA g L s.heap.size) s.heap H locs → lv_has ls 9 [(0, .ref (xad g 40 0)), (1, .int town), (2, .int w), (3, .int b), (4, .int note), (5, .int till), (6, .int z), (7, .int k)] → (∀ (z : Int32) (k : Int32) (H : Heap) (locs : List Loc) (ls : Array Slot), 0 ≤ k ∧ N_ 40 0 14 ≤ 40 → F = kx z k → xP g L N_ H → va_S (xA g L s.heap.size) s.heap H locs → lv_has ls 9 [(0, .ref (xad g 40 0)), (1, .int town), (2, .int w), (3, .int b), (4, .int note), (5, .int till), (6, .int z), (7, .int k)] → W p l e (xr 2) s m args below meth c H locs 0 0 (MQ below (va_Qi (fun r u => (r, u) = f_X11_falsePlates town w b note M) (xPost g L) (xA g L s.heap.size)) args s 0 0 (xA g L s.heap.size)) (F0 m 120 ls [])) → W p l e (xr 2) s m args below meth c H locs 0 0 (MQ below (va_Qi (fun r u => (r, u) = f_X11_falsePlates town w b note M) (xPost g L) (xA g L s.heap.size)) args s 0 0 (xA g L s.heap.size)) (F0 m 14 ls []) := by
    intro till N_ n
    induction n with
    | zero => intro z k H locs ls kx hmu; exact absurd hmu (Nat.not_lt_zero _)
    | succ n ih =>
      intro z k H locs ls kx hmu hinv hres hP hS hl hex
      replace hres : F = _ := hres.trans (by rw [f_X11_falsePlates_L14])
      refine lv_iload hx hb dX11_falsePlates_14 (lv_at hl 7 rfl) ?_
      refine lv_aload_n hx hb dX11_falsePlates_16 rfl (lv_at hl 0 rfl) ?_
      refine gf_RX11_236 hx hb hts hown hK hP (hL 40 0 (xe_40 nb nn)) dX11_falsePlates_17 ?_
      refine lv_icmp_ge (tgt := 120) hx hb dX11_falsePlates_20 (by decide) (fun c_1 => ?_) (fun c_1 => ?_)
      · replace hres := hres.trans (if_pos c_1)
        exact hex z k _ _ _ (ob_X11_falsePlates_120_x14 nb nn town w b note M hp0 hp1 hp2 hp3 hp4 till n z k N_ hmu hinv c_1) hres hP hS (lv_sub hl [0, 1, 2, 3, 4, 5, 6, 7] rfl)
      · replace hres := hres.trans (if_neg c_1)
        refine lv_aload_n hx hb dX11_falsePlates_23 rfl (lv_at hl 0 rfl) ?_
        refine gf_RX11_44 hx hb hts hown hK hP (hL 40 0 (xe_40 nb nn)) dX11_falsePlates_24 ?_
        refine lv_iload hx hb dX11_falsePlates_27 (lv_at hl 7 rfl) ?_
        refine x_iald hx hb hK hP (hL 66 0 (xe_66 nb nn)) (xc66 g 0) (ob_X11_falsePlates_29_in nb nn town w b note M hp0 hp1 hp2 hp3 hp4 till n z k N_ hmu hinv c_1) dX11_falsePlates_29 ?_
        refine lv_iconst (v := 1) hx hb dX11_falsePlates_30 (by decide) ?_
        refine lv_icmp_ne (tgt := 61) hx hb dX11_falsePlates_31 (by decide) (fun c_2 => ?_) (fun c_2 => ?_)
        · replace hres := hres.trans (if_neg c_2)
          refine lv_iconst (v := 0) hx hb dX11_falsePlates_61 (by decide) ?_
          refine lv_istore (lv' := [(8, .int 0), (0, .ref (xad g 40 0)), (1, .int town), (2, .int w), (3, .int b), (4, .int note), (5, .int till), (6, .int z), (7, .int k)]) hx hb dX11_falsePlates_62 hl (by decide) rfl (fun ls hl => ?_)
          refine lv_iload hx hb dX11_falsePlates_64 (lv_at hl 7 rfl) ?_
          refine lv_iload hx hb dX11_falsePlates_66 (lv_at hl 0 rfl) ?_
          refine lv_if_eq (tgt := 110) hx hb dX11_falsePlates_68 (by decide) (fun c_3 => ?_) (fun c_3 => ?_)
          · clear c_3
            refine lv_iconst (v := 0) hx hb dX11_falsePlates_110 (by decide) ?_
            refine lv_iadd hx hb dX11_falsePlates_111 ?_
            refine lv_topi (fun x6_4 ex6_4 => ?_)
            replace hres := xlet_n hres ex6_4
            refine lv_istore (lv' := [(6, .int x6_4), (8, .int 0), (0, .ref (xad g 40 0)), (1, .int town), (2, .int w), (3, .int b), (4, .int note), (5, .int till), (7, .int k)]) hx hb dX11_falsePlates_112 hl (by decide) rfl (fun ls hl => ?_)
            obtain ⟨x7_5, ex7_5⟩ : ∃ z_ : Int32, z_ = k + 1 := ⟨_, rfl⟩
            replace hres := xlet_n hres ex7_5
            refine lv_iinc (v := x7_5) (lv' := [(7, .int x7_5), (6, .int x6_4), (8, .int 0), (0, .ref (xad g 40 0)), (1, .int town), (2, .int w), (3, .int b), (4, .int note), (5, .int till)]) hx hb dX11_falsePlates_114 hl (k := 8) rfl (by rw [ex7_5]; rfl) (by decide) rfl (fun ls hl => ?_)
            refine lv_goto (tgt := 14) hx hb dX11_falsePlates_117 (by decide) ?_
            exact ih x6_4 x7_5 _ _ _ kx (ob_X11_falsePlates_14_mu_5 nb nn town w b note M hp0 hp1 hp2 hp3 hp4 till n z k N_ hmu hinv c_1 c_2 x6_4 ex6_4 x7_5 ex7_5) (ob_X11_falsePlates_14_inv_5 nb nn town w b note M hp0 hp1 hp2 hp3 hp4 till n z k N_ hmu hinv c_1 c_2 x6_4 ex6_4 x7_5 ex7_5) hres hP hS (lv_sub hl [3, 4, 5, 6, 7, 8, 1, 0] rfl) hex
          · exact absurd c_3 (by decide)
        · replace hres := hres.trans (if_pos c_2)
          refine lv_aload_n hx hb dX11_falsePlates_34 rfl (lv_at hl 0 rfl) ?_
          refine gf_RX11_47 hx hb hts hown hK hP (hL 40 0 (xe_40 nb nn)) dX11_falsePlates_35 ?_
          refine lv_iload hx hb dX11_falsePlates_38 (lv_at hl 7 rfl) ?_
          refine x_iald hx hb hK hP (hL 67 0 (xe_67 nb nn)) (xc67 g 0) (ob_X11_falsePlates_40_in nb nn town w b note M hp0 hp1 hp2 hp3 hp4 till n z k N_ hmu hinv c_1 c_2) dX11_falsePlates_40 ?_
          refine lv_iload_n hx hb dX11_falsePlates_41 rfl (lv_at hl 3 rfl) ?_
          refine lv_icmp_ne (tgt := 61) hx hb dX11_falsePlates_42 (by decide) (fun c_6 => ?_) (fun c_6 => ?_)
          · replace hres := hres.trans (if_neg c_6)
            refine lv_iconst (v := 0) hx hb dX11_falsePlates_61 (by decide) ?_
            refine lv_istore (lv' := [(8, .int 0), (0, .ref (xad g 40 0)), (1, .int town), (2, .int w), (3, .int b), (4, .int note), (5, .int till), (6, .int z), (7, .int k)]) hx hb dX11_falsePlates_62 hl (by decide) rfl (fun ls hl => ?_)
            refine lv_iload hx hb dX11_falsePlates_64 (lv_at hl 7 rfl) ?_
            refine lv_iload hx hb dX11_falsePlates_66 (lv_at hl 0 rfl) ?_
            refine lv_if_eq (tgt := 110) hx hb dX11_falsePlates_68 (by decide) (fun c_7 => ?_) (fun c_7 => ?_)
            · clear c_7
              refine lv_iconst (v := 0) hx hb dX11_falsePlates_110 (by decide) ?_
              refine lv_iadd hx hb dX11_falsePlates_111 ?_
              refine lv_topi (fun x6_8 ex6_8 => ?_)
              replace hres := xlet_n hres ex6_8
              refine lv_istore (lv' := [(6, .int x6_8), (8, .int 0), (0, .ref (xad g 40 0)), (1, .int town), (2, .int w), (3, .int b), (4, .int note), (5, .int till), (7, .int k)]) hx hb dX11_falsePlates_112 hl (by decide) rfl (fun ls hl => ?_)
              obtain ⟨x7_9, ex7_9⟩ : ∃ z_ : Int32, z_ = k + 1 := ⟨_, rfl⟩
              replace hres := xlet_n hres ex7_9
              refine lv_iinc (v := x7_9) (lv' := [(7, .int x7_9), (6, .int x6_8), (8, .int 0), (0, .ref (xad g 40 0)), (1, .int town), (2, .int w), (3, .int b), (4, .int note), (5, .int till)]) hx hb dX11_falsePlates_114 hl (k := 8) rfl (by rw [ex7_9]; rfl) (by decide) rfl (fun ls hl => ?_)
              refine lv_goto (tgt := 14) hx hb dX11_falsePlates_117 (by decide) ?_
              exact ih x6_8 x7_9 _ _ _ kx (ob_X11_falsePlates_14_mu_9 nb nn town w b note M hp0 hp1 hp2 hp3 hp4 till n z k N_ hmu hinv c_1 c_2 c_6 x6_8 ex6_8 x7_9 ex7_9) (ob_X11_falsePlates_14_inv_9 nb nn town w b note M hp0 hp1 hp2 hp3 hp4 till n z k N_ hmu hinv c_1 c_2 c_6 x6_8 ex6_8 x7_9 ex7_9) hres hP hS (lv_sub hl [3, 4, 5, 6, 7, 8, 1, 0] rfl) hex
            · exact absurd c_7 (by decide)
          · replace hres := hres.trans (if_pos c_6)
            refine lv_aload_n hx hb dX11_falsePlates_45 rfl (lv_at hl 0 rfl) ?_
            refine gf_RX11_41 hx hb hts hown hK hP (hL 40 0 (xe_40 nb nn)) dX11_falsePlates_46 ?_
            refine lv_iload hx hb dX11_falsePlates_49 (lv_at hl 7 rfl) ?_
            refine x_iald hx hb hK hP (hL 65 0 (xe_65 nb nn)) (xc65 g 0) (ob_X11_falsePlates_51_in nb nn town w b note M hp0 hp1 hp2 hp3 hp4 till n z k N_ hmu hinv c_1 c_2 c_6) dX11_falsePlates_51 ?_
            refine lv_iload hx hb dX11_falsePlates_52 (lv_at hl 5 rfl) ?_
            refine lv_icmp_gt (tgt := 61) hx hb dX11_falsePlates_54 (by decide) (fun c_10 => ?_) (fun c_10 => ?_)
            · replace hres := hres.trans (if_pos c_10)
              refine lv_iconst (v := 0) hx hb dX11_falsePlates_61 (by decide) ?_
              refine lv_istore (lv' := [(8, .int 0), (0, .ref (xad g 40 0)), (1, .int town), (2, .int w), (3, .int b), (4, .int note), (5, .int till), (6, .int z), (7, .int k)]) hx hb dX11_falsePlates_62 hl (by decide) rfl (fun ls hl => ?_)
              refine lv_iload hx hb dX11_falsePlates_64 (lv_at hl 7 rfl) ?_
              refine lv_iload hx hb dX11_falsePlates_66 (lv_at hl 0 rfl) ?_
              refine lv_if_eq (tgt := 110) hx hb dX11_falsePlates_68 (by decide) (fun c_11 => ?_) (fun c_11 => ?_)
              · clear c_11
                refine lv_iconst (v := 0) hx hb dX11_falsePlates_110 (by decide) ?_
                refine lv_iadd hx hb dX11_falsePlates_111 ?_
                refine lv_topi (fun x6_12 ex6_12 => ?_)
                replace hres := xlet_n hres ex6_12
                refine lv_istore (lv' := [(6, .int x6_12), (8, .int 0), (0, .ref (xad g 40 0)), (1, .int town), (2, .int w), (3, .int b), (4, .int note), (5, .int till), (7, .int k)]) hx hb dX11_falsePlates_112 hl (by decide) rfl (fun ls hl => ?_)
                obtain ⟨x7_13, ex7_13⟩ : ∃ z_ : Int32, z_ = k + 1 := ⟨_, rfl⟩
                replace hres := xlet_n hres ex7_13
                refine lv_iinc (v := x7_13) (lv' := [(7, .int x7_13), (6, .int x6_12), (8, .int 0), (0, .ref (xad g 40 0)), (1, .int town), (2, .int w), (3, .int b), (4, .int note), (5, .int till)]) hx hb dX11_falsePlates_114 hl (k := 8) rfl (by rw [ex7_13]; rfl) (by decide) rfl (fun ls hl => ?_)
                refine lv_goto (tgt := 14) hx hb dX11_falsePlates_117 (by decide) ?_
                exact ih x6_12 x7_13 _ _ _ kx (ob_X11_falsePlates_14_mu_13 nb nn town w b note M hp0 hp1 hp2 hp3 hp4 till n z k N_ hmu hinv c_1 c_2 c_6 c_10 x6_12 ex6_12 x7_13 ex7_13) (ob_X11_falsePlates_14_inv_13 nb nn town w b note M hp0 hp1 hp2 hp3 hp4 till n z k N_ hmu hinv c_1 c_2 c_6 c_10 x6_12 ex6_12 x7_13 ex7_13) hres hP hS (lv_sub hl [3, 4, 5, 6, 7, 8, 1, 0] rfl) hex
              · exact absurd c_11 (by decide)
            · replace hres := hres.trans (if_neg c_10)
              refine lv_iconst (v := 1) hx hb dX11_falsePlates_57 (by decide) ?_
              refine lv_goto (tgt := 62) hx hb dX11_falsePlates_58 (by decide) ?_
              refine lv_istore (lv' := [(8, .int 1), (0, .ref (xad g 40 0)), (1, .int town), (2, .int w), (3, .int b), (4, .int note), (5, .int till), (6, .int z), (7, .int k)]) hx hb dX11_falsePlates_62 hl (by decide) rfl (fun ls hl => ?_)
              refine lv_iload hx hb dX11_falsePlates_64 (lv_at hl 7 rfl) ?_
              refine lv_iload hx hb dX11_falsePlates_66 (lv_at hl 0 rfl) ?_
              refine lv_if_eq (tgt := 110) hx hb dX11_falsePlates_68 (by decide) (fun c_14 => ?_) (fun c_14 => ?_)
              · exact absurd c_14 (by decide)
              · clear c_14
                refine lv_iload hx hb dX11_falsePlates_71 (lv_at hl 5 rfl) ?_
                refine lv_ldc (own := RX11) (v := (-1000000)) hx hb hown (hts _ (List.mem_cons_of_mem _ wd_302)) dX11_falsePlates_73 ?_
                refine lv_icmp_eq (tgt := 106) hx hb dX11_falsePlates_75 (by decide) (fun c_15 => ?_) (fun c_15 => ?_)
                · replace hres := hres.trans (if_pos c_15)
                  refine lv_iconst (v := 1) hx hb dX11_falsePlates_106 (by decide) ?_
                  refine lv_goto (tgt := 111) hx hb dX11_falsePlates_107 (by decide) ?_
                  refine lv_iadd hx hb dX11_falsePlates_111 ?_
                  refine lv_topi (fun x6_16 ex6_16 => ?_)
                  replace hres := xlet_n hres ex6_16
                  refine lv_istore (lv' := [(6, .int x6_16), (8, .int 1), (0, .ref (xad g 40 0)), (1, .int town), (2, .int w), (3, .int b), (4, .int note), (5, .int till), (7, .int k)]) hx hb dX11_falsePlates_112 hl (by decide) rfl (fun ls hl => ?_)
                  obtain ⟨x7_17, ex7_17⟩ : ∃ z_ : Int32, z_ = k + 1 := ⟨_, rfl⟩
                  replace hres := xlet_n hres ex7_17
                  refine lv_iinc (v := x7_17) (lv' := [(7, .int x7_17), (6, .int x6_16), (8, .int 1), (0, .ref (xad g 40 0)), (1, .int town), (2, .int w), (3, .int b), (4, .int note), (5, .int till)]) hx hb dX11_falsePlates_114 hl (k := 8) rfl (by rw [ex7_17]; rfl) (by decide) rfl (fun ls hl => ?_)
                  refine lv_goto (tgt := 14) hx hb dX11_falsePlates_117 (by decide) ?_
                  exact ih x6_16 x7_17 _ _ _ kx (ob_X11_falsePlates_14_mu_17 nb nn town w b note M hp0 hp1 hp2 hp3 hp4 till n z k N_ hmu hinv c_1 c_2 c_6 c_10 c_15 x6_16 ex6_16 x7_17 ex7_17) (ob_X11_falsePlates_14_inv_17 nb nn town w b note M hp0 hp1 hp2 hp3 hp4 till n z k N_ hmu hinv c_1 c_2 c_6 c_10 c_15 x6_16 ex6_16 x7_17 ex7_17) hres hP hS (lv_sub hl [3, 4, 5, 6, 7, 8, 1, 0] rfl) hex
                · replace hres := hres.trans (if_neg c_15)
                  refine lv_aload_n hx hb dX11_falsePlates_78 rfl (lv_at hl 1 rfl) ?_
                  refine gf_RX11_62 hx hb hts hown hK hP (hL 40 0 (xe_40 nb nn)) dX11_falsePlates_79 ?_
                  refine lv_iload hx hb dX11_falsePlates_82 (lv_at hl 5 rfl) ?_
                  refine x_iald hx hb hK hP (hL 83 0 (xe_83 nb nn)) (xc83 g 0) (ob_X11_falsePlates_84_in nb nn town w b note M hp0 hp1 hp2 hp3 hp4 till n z k N_ hmu hinv c_1 c_2 c_6 c_10 c_15) dX11_falsePlates_84 ?_
                  refine lv_aload_n hx hb dX11_falsePlates_85 rfl (lv_at hl 1 rfl) ?_
                  refine gf_RX11_50 hx hb hts hown hK hP (hL 40 0 (xe_40 nb nn)) dX11_falsePlates_86 ?_
                  refine lv_iload hx hb dX11_falsePlates_89 (lv_at hl 8 rfl) ?_
                  refine x_iald hx hb hK hP (hL 68 0 (xe_68 nb nn)) (xc68 g 0) (ob_X11_falsePlates_91_in nb nn town w b note M hp0 hp1 hp2 hp3 hp4 till n z k N_ hmu hinv c_1 c_2 c_6 c_10 c_15) dX11_falsePlates_91 ?_
                  refine lv_ixor hx hb dX11_falsePlates_92 ?_
                  refine lv_aload_n hx hb dX11_falsePlates_93 rfl (lv_at hl 1 rfl) ?_
                  refine gf_RX11_65 hx hb hts hown hK hP (hL 40 0 (xe_40 nb nn)) dX11_falsePlates_94 ?_
                  refine lv_iload hx hb dX11_falsePlates_97 (lv_at hl 5 rfl) ?_
                  refine x_iald hx hb hK hP (hL 84 0 (xe_84 nb nn)) (xc84 g 0) (ob_X11_falsePlates_99_in nb nn town w b note M hp0 hp1 hp2 hp3 hp4 till n z k N_ hmu hinv c_1 c_2 c_6 c_10 c_15) dX11_falsePlates_99 ?_
                  refine lv_iconst (v := (-1)) hx hb dX11_falsePlates_100 (by decide) ?_
                  refine lv_ixor hx hb dX11_falsePlates_101 ?_
                  refine lv_iand hx hb dX11_falsePlates_102 ?_
                  refine lv_if_ne (tgt := 110) hx hb dX11_falsePlates_103 (by decide) (fun c_18 => ?_) (fun c_18 => ?_)
                  · replace hres := hres.trans (if_neg c_18)
                    refine lv_iconst (v := 0) hx hb dX11_falsePlates_110 (by decide) ?_
                    refine lv_iadd hx hb dX11_falsePlates_111 ?_
                    refine lv_topi (fun x6_19 ex6_19 => ?_)
                    replace hres := xlet_n hres ex6_19
                    refine lv_istore (lv' := [(6, .int x6_19), (8, .int 1), (0, .ref (xad g 40 0)), (1, .int town), (2, .int w), (3, .int b), (4, .int note), (5, .int till), (7, .int k)]) hx hb dX11_falsePlates_112 hl (by decide) rfl (fun ls hl => ?_)
                    obtain ⟨x7_20, ex7_20⟩ : ∃ z_ : Int32, z_ = k + 1 := ⟨_, rfl⟩
                    replace hres := xlet_n hres ex7_20
                    refine lv_iinc (v := x7_20) (lv' := [(7, .int x7_20), (6, .int x6_19), (8, .int 1), (0, .ref (xad g 40 0)), (1, .int town), (2, .int w), (3, .int b), (4, .int note), (5, .int till)]) hx hb dX11_falsePlates_114 hl (k := 8) rfl (by rw [ex7_20]; rfl) (by decide) rfl (fun ls hl => ?_)
                    refine lv_goto (tgt := 14) hx hb dX11_falsePlates_117 (by decide) ?_
                    exact ih x6_19 x7_20 _ _ _ kx (ob_X11_falsePlates_14_mu_20 nb nn town w b note M hp0 hp1 hp2 hp3 hp4 till n z k N_ hmu hinv c_1 c_2 c_6 c_10 c_15 c_18 x6_19 ex6_19 x7_20 ex7_20) (ob_X11_falsePlates_14_inv_20 nb nn town w b note M hp0 hp1 hp2 hp3 hp4 till n z k N_ hmu hinv c_1 c_2 c_6 c_10 c_15 c_18 x6_19 ex6_19 x7_20 ex7_20) hres hP hS (lv_sub hl [3, 4, 5, 6, 7, 8, 1, 0] rfl) hex
                  · replace hres := hres.trans (if_pos c_18)
                    refine lv_iconst (v := 1) hx hb dX11_falsePlates_106 (by decide) ?_
                    refine lv_goto (tgt := 111) hx hb dX11_falsePlates_107 (by decide) ?_
                    refine lv_iadd hx hb dX11_falsePlates_111 ?_
                    refine lv_topi (fun x6_21 ex6_21 => ?_)
                    replace hres := xlet_n hres ex6_21
                    refine lv_istore (lv' := [(6, .int x6_21), (8, .int 1), (0, .ref (xad g 40 0)), (1, .int town), (2, .int w), (3, .int b), (4, .int note), (5, .int till), (7, .int k)]) hx hb dX11_falsePlates_112 hl (by decide) rfl (fun ls hl => ?_)
                    obtain ⟨x7_22, ex7_22⟩ : ∃ z_ : Int32, z_ = k + 1 := ⟨_, rfl⟩
                    replace hres := xlet_n hres ex7_22
                    refine lv_iinc (v := x7_22) (lv' := [(7, .int x7_22), (6, .int x6_21), (8, .int 1), (0, .ref (xad g 40 0)), (1, .int town), (2, .int w), (3, .int b), (4, .int note), (5, .int till)]) hx hb dX11_falsePlates_114 hl (k := 8) rfl (by rw [ex7_22]; rfl) (by decide) rfl (fun ls hl => ?_)
                    refine lv_goto (tgt := 14) hx hb dX11_falsePlates_117 (by decide) ?_
                    exact ih x6_21 x7_22 _ _ _ kx (ob_X11_falsePlates_14_mu_22 nb nn town w b note M hp0 hp1 hp2 hp3 hp4 till n z k N_ hmu hinv c_1 c_2 c_6 c_10 c_15 c_18 x6_21 ex6_21 x7_22 ex7_22) (ob_X11_falsePlates_14_inv_22 nb nn town w b note M hp0 hp1 hp2 hp3 hp4 till n z k N_ hmu hinv c_1 c_2 c_6 c_10 c_15 c_18 x6_21 ex6_21 x7_22 ex7_22) hres hP hS (lv_sub hl [3, 4, 5, 6, 7, 8, 1, 0] rfl) hex
  have hres := hF
  rw [f_X11_falsePlates] at hres
  refine lv_aload_n hx hb dX11_falsePlates_0 rfl (lv_at hl 0 rfl) ?_
  refine lv_iload_n hx hb dX11_falsePlates_1 rfl (lv_at hl 1 rfl) ?_
  refine lv_iload_n hx hb dX11_falsePlates_2 rfl (lv_at hl 2 rfl) ?_
  refine x_callVi (As := [.int town, .int w]) S hK hAm hD hP hS mt_X11_bookWeek wd_663 ⟨by decide, by decide⟩ (hL 40 0 (xe_40 nb nn)) (xc40 g 0) rfl (c_X11_bookWeek l nb nn g L M hD hL town w (ob_X11_falsePlates_3_p0 nb nn town w b note M hp0 hp1 hp2 hp3 hp4) (ob_X11_falsePlates_3_p1 nb nn town w b note M hp0 hp1 hp2 hp3 hp4)) rfl hl.1 (Nat.le_of_ble_eq_true rfl) ⟨Nat.zero_le _, Nat.zero_le _⟩ dX11_falsePlates_3 rfl (fun r_23 M_24 H locs ep_ hP hS => ?_)
  replace hres := xlet2_n hres ep_
  have er_23 : r_23 = (f_X11_bookWeek town w M).1 := congrArg Prod.fst ep_
  have eM_24 : M_24 = (f_X11_bookWeek town w M).2 := congrArg Prod.snd ep_
  clear ep_
  refine lv_istore (lv' := [(5, .int r_23), (0, .ref (xad g 40 0)), (1, .int town), (2, .int w), (3, .int b), (4, .int note)]) hx hb dX11_falsePlates_6 hl (by decide) rfl (fun ls hl => ?_)
  refine lv_iconst (v := 0) hx hb dX11_falsePlates_8 (by decide) ?_
  refine lv_istore (lv' := [(6, .int 0), (5, .int r_23), (0, .ref (xad g 40 0)), (1, .int town), (2, .int w), (3, .int b), (4, .int note)]) hx hb dX11_falsePlates_9 hl (by decide) rfl (fun ls hl => ?_)
  refine lv_iconst (v := 0) hx hb dX11_falsePlates_11 (by decide) ?_
  refine lv_istore (lv' := [(7, .int 0), (6, .int 0), (5, .int r_23), (0, .ref (xad g 40 0)), (1, .int town), (2, .int w), (3, .int b), (4, .int note)]) hx hb dX11_falsePlates_12 hl (by decide) rfl (fun ls hl => ?_)
  refine k_14 r_23 M_24 (xmu (0 : Int32) (M_24 40 0 14) + 1) (0 : Int32) (0 : Int32) _ _ _ _ (Nat.lt_succ_self _) (ob_X11_falsePlates_14_ini_24 nb nn town w b note M hp0 hp1 hp2 hp3 hp4 r_23 M_24 er_23 eM_24) hres hP hS (lv_sub hl [3, 4, 5, 6, 7, 2, 1, 0] rfl) ?_
  clear hres hP hS hl
  intro z_25 k_26 H locs ls hiv_26 hres hP hS hl
  refine lv_iload hx hb dX11_falsePlates_120 (lv_at hl 6 rfl) ?_
  exact x_reti hx hb hr hlk hP hS (hres.symm.trans hF) dX11_falsePlates_122
