def f_X11_way_L438 (town : Int32) (sh : Int32) (i : Int32) (z : Int32) (days : Int32) (what : Int32) (why : Int32) (all_ : Int32) (best : Int32) (to : Int32) (N_ : xM) : Nat → Int32 → (Int32 → Int32 × xM) → Int32 × xM
  | 0, _, _ => (0, N_)
  | n + 1, k, kx => if z < k then kx k else xlet (xb (f_X11_mayGo days town to N_)) fun r_2 => if r_2 = 0 then xlet (k + 1) fun x11_4 => f_X11_way_L438 town sh i z days what why all_ best to N_ n x11_4 kx else xlet (f_X11_goesBy days all_ town k z to N_) fun r_5 => if r_5 = best then if k = z then (((16 * to) + 15), N_) else (((16 * to) + k), N_) else xlet (k + 1) fun x11_7 => f_X11_way_L438 town sh i z days what why all_ best to N_ n x11_7 kx
def f_X11_way_L428 (town : Int32) (sh : Int32) (i : Int32) (z : Int32) (days : Int32) (what : Int32) (why : Int32) (all_ : Int32) (best : Int32) (N_ : xM) : Nat → Int32 → (Int32 → Int32 × xM) → Int32 × xM
  | 0, _, _ => (0, N_)
  | n + 1, to, kx => if 6 ≤ to then kx to else f_X11_way_L438 town sh i z days what why all_ best to N_ (xmu (0 : Int32) (z + 1) + 1) (0 : Int32) (fun k_10 => xlet (to + 1) fun x10_11 => f_X11_way_L428 town sh i z days what why all_ best N_ n x10_11 kx)
def f_X11_way_L258 (town : Int32) (sh : Int32) (i : Int32) (z : Int32) (days : Int32) (what : Int32) (why : Int32) (day : Int32) (t : Int32) (set_ : Int32) (k : Int32) (N_ : xM) : Nat → Int32 → Int32 → (Int32 → Int32 → Int32 × xM) → Int32 × xM
  | 0, _, _, _ => (0, N_)
  | n + 1, best, to, kx => if 6 ≤ to then kx best to else if k = z then xlet (xb (f_X11_mayGo day t to N_)) fun r_14 => if r_14 = 0 then if 0 ≤ best then xlet (to + 1) fun x13_17 => f_X11_way_L258 town sh i z days what why day t set_ k N_ n best x13_17 kx else xlet (to + 1) fun x13_18 => f_X11_way_L258 town sh i z days what why day t set_ k N_ n (0 : Int32) x13_18 kx else xlet (f_X11_goesBy day set_ t k z to N_) fun r_19 => if r_19 ≤ best then xlet (to + 1) fun x13_21 => f_X11_way_L258 town sh i z days what why day t set_ k N_ n best x13_21 kx else xlet (to + 1) fun x13_22 => f_X11_way_L258 town sh i z days what why day t set_ k N_ n r_19 x13_22 kx else if ((set_ >>> (k &&& 31)) &&& 1) = 1 then xlet (xb (f_X11_mayGo day t to N_)) fun r_24 => if r_24 = 0 then if 0 ≤ best then xlet (to + 1) fun x13_27 => f_X11_way_L258 town sh i z days what why day t set_ k N_ n best x13_27 kx else xlet (to + 1) fun x13_28 => f_X11_way_L258 town sh i z days what why day t set_ k N_ n (0 : Int32) x13_28 kx else xlet (f_X11_goesBy day set_ t k z to N_) fun r_29 => if r_29 ≤ best then xlet (to + 1) fun x13_31 => f_X11_way_L258 town sh i z days what why day t set_ k N_ n best x13_31 kx else xlet (to + 1) fun x13_32 => f_X11_way_L258 town sh i z days what why day t set_ k N_ n r_29 x13_32 kx else kx best to
def f_X11_way_L248 (town : Int32) (sh : Int32) (i : Int32) (z : Int32) (days : Int32) (what : Int32) (why : Int32) (day : Int32) (t : Int32) (set_ : Int32) (N_ : xM) : Nat → Int32 → Int32 → (Int32 → Int32 → Int32 × xM) → Int32 × xM
  | 0, _, _, _ => (0, N_)
  | n + 1, best, k, kx => if z < k then kx best k else f_X11_way_L258 town sh i z days what why day t set_ k N_ (xmu (0 : Int32) 6 + 1) best (0 : Int32) (fun best_34 to_35 => xlet (k + 1) fun x12_36 => f_X11_way_L248 town sh i z days what why day t set_ N_ n best_34 x12_36 kx)
def f_X11_way_L233 (town : Int32) (sh : Int32) (i : Int32) (z : Int32) (days : Int32) (what : Int32) (why : Int32) (day : Int32) (t : Int32) : Nat → Int32 → xM → (Int32 → xM → Int32 × xM) → Int32 × xM
  | 0, _, N_, _ => (0, N_)
  | n + 1, set_, N_, kx => if (1 <<< (z &&& 31)) ≤ set_ then kx set_ N_ else f_X11_way_L248 town sh i z days what why day t set_ N_ (xmu (0 : Int32) (z + 1) + 1) (0 : Int32) (0 : Int32) (fun best_38 k_39 => xlet (xup N_ 97 0 (((1536 * day) + (256 * t)) + set_).toNatClampNeg best_38) fun M_40 => xlet (set_ + 1) fun x10_41 => f_X11_way_L233 town sh i z days what why day t n x10_41 M_40 kx)
def f_X11_way_L223 (town : Int32) (sh : Int32) (i : Int32) (z : Int32) (days : Int32) (what : Int32) (why : Int32) (day : Int32) : Nat → Int32 → xM → (Int32 → xM → Int32 × xM) → Int32 × xM
  | 0, _, N_, _ => (0, N_)
  | n + 1, t, N_, kx => if 6 ≤ t then kx t N_ else f_X11_way_L233 town sh i z days what why day t (xmu (0 : Int32) (1 <<< (z &&& 31)) + 1) (0 : Int32) N_ (fun set__43 M_44 => xlet (t + 1) fun x9_45 => f_X11_way_L223 town sh i z days what why day n x9_45 M_44 kx)
def f_X11_way_L213 (town : Int32) (sh : Int32) (i : Int32) (z : Int32) (days : Int32) (what : Int32) (why : Int32) : Nat → Int32 → xM → (Int32 → xM → Int32 × xM) → Int32 × xM
  | 0, _, N_, _ => (0, N_)
  | n + 1, day, N_, kx => if days < day then kx day N_ else f_X11_way_L223 town sh i z days what why day (xmu (0 : Int32) 6 + 1) (0 : Int32) N_ (fun t_47 M_48 => xlet (day + 1) fun x8_49 => f_X11_way_L213 town sh i z days what why n x8_49 M_48 kx)
def f_X11_way_L188 (town : Int32) (sh : Int32) (i : Int32) (z : Int32) (days : Int32) (what : Int32) (why : Int32) : Nat → Int32 → xM → (Int32 → xM → Int32 × xM) → Int32 × xM
  | 0, _, N_, _ => (0, N_)
  | n + 1, k, N_, kx => if 1536 ≤ k then kx k N_ else xlet (xup N_ 97 0 k.toNatClampNeg 0) fun M_51 => xlet (k + 1) fun x8_52 => f_X11_way_L188 town sh i z days what why n x8_52 M_51 kx
def f_X11_way_L124 (town : Int32) (sh : Int32) (i : Int32) (z : Int32) (days : Int32) (what : Int32) (why : Int32) (k : Int32) (N_ : xM) : Nat → Int32 → Int32 → (Int32 → Int32 → Int32 × xM) → Int32 × xM
  | 0, _, _, _ => (0, N_)
  | n + 1, good, q, kx => if k ≤ q then kx good q else if good = 0 then xlet (q + 1) fun x10_55 => f_X11_way_L124 town sh i z days what why k N_ n (0 : Int32) x10_55 kx else if (N_ 98 0 q.toNatClampNeg) = (N_ 98 0 k.toNatClampNeg) then xlet (q + 1) fun x10_57 => f_X11_way_L124 town sh i z days what why k N_ n (0 : Int32) x10_57 kx else xlet (q + 1) fun x10_58 => f_X11_way_L124 town sh i z days what why k N_ n (1 : Int32) x10_58 kx
def f_X11_way_L80 (town : Int32) (sh : Int32) (i : Int32) (z : Int32) (days : Int32) (what : Int32) (why : Int32) : Nat → Int32 → xM → (Int32 → xM → Int32 × xM) → Int32 × xM
  | 0, _, N_, _ => (0, N_)
  | n + 1, k, N_, kx => if z ≤ k then kx k N_ else xlet (N_ 54 0 (((60 * sh) + i) + k).toNatClampNeg) fun v_60 => xlet (xup N_ 98 0 k.toNatClampNeg v_60) fun M_61 => xlet (xb (f_X11_isNote (M_61 98 0 k.toNatClampNeg) M_61)) fun r_62 => f_X11_way_L124 town sh i z days what why k M_61 (xmu (0 : Int32) k + 1) r_62 (0 : Int32) (fun good_63 q_64 => if good_63 = 0 then ((-1000001), M_61) else xlet (k + 1) fun x8_66 => f_X11_way_L80 town sh i z days what why n x8_66 M_61 kx)
def f_X11_way (town : Int32) (sh : Int32) (i : Int32) (z : Int32) (days : Int32) (what : Int32) (M : xM) : Int32 × xM :=
  xlet (xup M 40 0 0 0) fun M_67 => xlet (xb (f_X11_isTown town M_67)) fun r_68 => if r_68 = 0 then ((-1000001), M_67) else xlet (xb (f_X11_isSheet sh M_67)) fun r_70 => if r_70 = 0 then ((-1000001), M_67) else xlet (xb (f_X11_in (z.toInt64) 1 8 M_67)) fun r_72 => if r_72 = 0 then ((-1000001), M_67) else xlet (xb (f_X11_in (days.toInt64) 1 6 M_67)) fun r_74 => if r_74 = 0 then ((-1000001), M_67) else xlet (xb (f_X11_in (what.toInt64) 0 1 M_67)) fun r_76 => if r_76 = 0 then ((-1000001), M_67) else xlet2 (f_X11_lookItems sh i z M_67) fun r_78 M_79 => if 0 ≤ r_78 then f_X11_way_L80 town sh i z days what r_78 (xmu (0 : Int32) z + 1) (0 : Int32) M_79 (fun k_81 M_82 => xlet (xup M_82 40 0 1 0) fun M_83 => f_X11_way_L188 town sh i z days what r_78 (xmu (0 : Int32) 1536 + 1) (0 : Int32) M_83 (fun k_84 M_85 => f_X11_way_L213 town sh i z days what r_78 (xmu (1 : Int32) (days + 1) + 1) (1 : Int32) M_85 (fun day_86 M_87 => xlet ((1 <<< (z &&& 31)) - 1) fun x8_88 => xlet (M_87 97 0 (((1536 * days) + (256 * town)) + x8_88).toNatClampNeg) fun x9_89 => if what = 0 then (x9_89, M_87) else f_X11_way_L428 town sh i z days what r_78 x8_88 x9_89 M_87 (xmu (0 : Int32) 6 + 1) (0 : Int32) (fun to_91 => ((-1000000), M_87))))) else (r_78, M_79)
theorem ob_X11_way_504_x438 (nb nn : Nat) (town : Int32) (sh : Int32) (i : Int32) (z : Int32) (days : Int32) (what : Int32) (M : xM) (hp0 : ∀ j : Nat, 0 ≤ M 53 0 j ∧ M 53 0 j ≤ 60) (hp1 : mI M) (why : Int32) (all_ : Int32) (best : Int32) (to : Int32) (n : Nat) (k : Int32) (N_ : xM) (hmu : xmu k (z + 1) < n + 1) (hinv : 0 ≤ k ∧ 0 ≤ to ∧ to < 6 ∧ 0 ≤ all_ ∧ all_ < 256 ∧ 1 ≤ days ∧ days ≤ 6 ∧ 0 ≤ town ∧ town ≤ 5 ∧ 1 ≤ z ∧ z ≤ 8 ∧ wI N_ z) (c_1 : z < k) : 0 ≤ k ∧ 0 ≤ to ∧ to < 6 ∧ 0 ≤ all_ ∧ all_ < 256 ∧ 1 ≤ days ∧ days ≤ 6 ∧ 0 ≤ town ∧ town ≤ 5 ∧ 1 ≤ z ∧ z ≤ 8 ∧ wI N_ z := by
  subst_vars
  grind [isTown_eq, isSheet_eq, in_1_8, in_1_6, in_0_1, xup_at, xb, wI_o, shl9, mI_98, lsOK_s2, wI_of]
theorem ob_X11_way_451_p0 (nb nn : Nat) (town : Int32) (sh : Int32) (i : Int32) (z : Int32) (days : Int32) (what : Int32) (M : xM) (hp0 : ∀ j : Nat, 0 ≤ M 53 0 j ∧ M 53 0 j ≤ 60) (hp1 : mI M) (why : Int32) (all_ : Int32) (best : Int32) (to : Int32) (n : Nat) (k : Int32) (N_ : xM) (hmu : xmu k (z + 1) < n + 1) (hinv : 0 ≤ k ∧ 0 ≤ to ∧ to < 6 ∧ 0 ≤ all_ ∧ all_ < 256 ∧ 1 ≤ days ∧ days ≤ 6 ∧ 0 ≤ town ∧ town ≤ 5 ∧ 1 ≤ z ∧ z ≤ 8 ∧ wI N_ z) (c_1 : ¬ z < k) : 0 ≤ town := by
  subst_vars
  grind [isTown_eq, isSheet_eq, in_1_8, in_1_6, in_0_1, xup_at, xb, wI_o, shl9, mI_98, lsOK_s2, wI_of]
theorem ob_X11_way_451_p1 (nb nn : Nat) (town : Int32) (sh : Int32) (i : Int32) (z : Int32) (days : Int32) (what : Int32) (M : xM) (hp0 : ∀ j : Nat, 0 ≤ M 53 0 j ∧ M 53 0 j ≤ 60) (hp1 : mI M) (why : Int32) (all_ : Int32) (best : Int32) (to : Int32) (n : Nat) (k : Int32) (N_ : xM) (hmu : xmu k (z + 1) < n + 1) (hinv : 0 ≤ k ∧ 0 ≤ to ∧ to < 6 ∧ 0 ≤ all_ ∧ all_ < 256 ∧ 1 ≤ days ∧ days ≤ 6 ∧ 0 ≤ town ∧ town ≤ 5 ∧ 1 ≤ z ∧ z ≤ 8 ∧ wI N_ z) (c_1 : ¬ z < k) : town ≤ 5 := by
  subst_vars
  grind [isTown_eq, isSheet_eq, in_1_8, in_1_6, in_0_1, xup_at, xb, wI_o, shl9, mI_98, lsOK_s2, wI_of]
theorem ob_X11_way_451_p2 (nb nn : Nat) (town : Int32) (sh : Int32) (i : Int32) (z : Int32) (days : Int32) (what : Int32) (M : xM) (hp0 : ∀ j : Nat, 0 ≤ M 53 0 j ∧ M 53 0 j ≤ 60) (hp1 : mI M) (why : Int32) (all_ : Int32) (best : Int32) (to : Int32) (n : Nat) (k : Int32) (N_ : xM) (hmu : xmu k (z + 1) < n + 1) (hinv : 0 ≤ k ∧ 0 ≤ to ∧ to < 6 ∧ 0 ≤ all_ ∧ all_ < 256 ∧ 1 ≤ days ∧ days ≤ 6 ∧ 0 ≤ town ∧ town ≤ 5 ∧ 1 ≤ z ∧ z ≤ 8 ∧ wI N_ z) (c_1 : ¬ z < k) : 0 ≤ to := by
  subst_vars
  grind [isTown_eq, isSheet_eq, in_1_8, in_1_6, in_0_1, xup_at, xb, wI_o, shl9, mI_98, lsOK_s2, wI_of]
theorem ob_X11_way_451_p3 (nb nn : Nat) (town : Int32) (sh : Int32) (i : Int32) (z : Int32) (days : Int32) (what : Int32) (M : xM) (hp0 : ∀ j : Nat, 0 ≤ M 53 0 j ∧ M 53 0 j ≤ 60) (hp1 : mI M) (why : Int32) (all_ : Int32) (best : Int32) (to : Int32) (n : Nat) (k : Int32) (N_ : xM) (hmu : xmu k (z + 1) < n + 1) (hinv : 0 ≤ k ∧ 0 ≤ to ∧ to < 6 ∧ 0 ≤ all_ ∧ all_ < 256 ∧ 1 ≤ days ∧ days ≤ 6 ∧ 0 ≤ town ∧ town ≤ 5 ∧ 1 ≤ z ∧ z ≤ 8 ∧ wI N_ z) (c_1 : ¬ z < k) : to ≤ 5 := by
  subst_vars
  grind [isTown_eq, isSheet_eq, in_1_8, in_1_6, in_0_1, xup_at, xb, wI_o, shl9, mI_98, lsOK_s2, wI_of]
theorem ob_X11_way_438_mu_4 (nb nn : Nat) (town : Int32) (sh : Int32) (i : Int32) (z : Int32) (days : Int32) (what : Int32) (M : xM) (hp0 : ∀ j : Nat, 0 ≤ M 53 0 j ∧ M 53 0 j ≤ 60) (hp1 : mI M) (why : Int32) (all_ : Int32) (best : Int32) (to : Int32) (n : Nat) (k : Int32) (N_ : xM) (hmu : xmu k (z + 1) < n + 1) (hinv : 0 ≤ k ∧ 0 ≤ to ∧ to < 6 ∧ 0 ≤ all_ ∧ all_ < 256 ∧ 1 ≤ days ∧ days ≤ 6 ∧ 0 ≤ town ∧ town ≤ 5 ∧ 1 ≤ z ∧ z ≤ 8 ∧ wI N_ z) (c_1 : ¬ z < k) (r_2 : Int32) (er_2 : r_2 = xb (f_X11_mayGo days town to N_)) (c_3 : r_2 = 0) (x11_4 : Int32) (ex11_4 : x11_4 = k + 1) : xmu x11_4 (z + 1) < n := by
  subst_vars
  have h9 := xmu_up (a := k) (b := (z + 1)) (by grind)
  (try simp [xup_at])
  omega
theorem ob_X11_way_438_inv_4 (nb nn : Nat) (town : Int32) (sh : Int32) (i : Int32) (z : Int32) (days : Int32) (what : Int32) (M : xM) (hp0 : ∀ j : Nat, 0 ≤ M 53 0 j ∧ M 53 0 j ≤ 60) (hp1 : mI M) (why : Int32) (all_ : Int32) (best : Int32) (to : Int32) (n : Nat) (k : Int32) (N_ : xM) (hmu : xmu k (z + 1) < n + 1) (hinv : 0 ≤ k ∧ 0 ≤ to ∧ to < 6 ∧ 0 ≤ all_ ∧ all_ < 256 ∧ 1 ≤ days ∧ days ≤ 6 ∧ 0 ≤ town ∧ town ≤ 5 ∧ 1 ≤ z ∧ z ≤ 8 ∧ wI N_ z) (c_1 : ¬ z < k) (r_2 : Int32) (er_2 : r_2 = xb (f_X11_mayGo days town to N_)) (c_3 : r_2 = 0) (x11_4 : Int32) (ex11_4 : x11_4 = k + 1) : 0 ≤ x11_4 ∧ 0 ≤ to ∧ to < 6 ∧ 0 ≤ all_ ∧ all_ < 256 ∧ 1 ≤ days ∧ days ≤ 6 ∧ 0 ≤ town ∧ town ≤ 5 ∧ 1 ≤ z ∧ z ≤ 8 ∧ wI N_ z := by
  subst_vars
  grind [isTown_eq, isSheet_eq, in_1_8, in_1_6, in_0_1, xup_at, xb, wI_o, shl9, mI_98, lsOK_s2, wI_of]
theorem ob_X11_way_469_p0 (nb nn : Nat) (town : Int32) (sh : Int32) (i : Int32) (z : Int32) (days : Int32) (what : Int32) (M : xM) (hp0 : ∀ j : Nat, 0 ≤ M 53 0 j ∧ M 53 0 j ≤ 60) (hp1 : mI M) (why : Int32) (all_ : Int32) (best : Int32) (to : Int32) (n : Nat) (k : Int32) (N_ : xM) (hmu : xmu k (z + 1) < n + 1) (hinv : 0 ≤ k ∧ 0 ≤ to ∧ to < 6 ∧ 0 ≤ all_ ∧ all_ < 256 ∧ 1 ≤ days ∧ days ≤ 6 ∧ 0 ≤ town ∧ town ≤ 5 ∧ 1 ≤ z ∧ z ≤ 8 ∧ wI N_ z) (c_1 : ¬ z < k) (r_2 : Int32) (er_2 : r_2 = xb (f_X11_mayGo days town to N_)) (c_3 : ¬ r_2 = 0) : 1 ≤ days := by
  subst_vars
  grind [isTown_eq, isSheet_eq, in_1_8, in_1_6, in_0_1, xup_at, xb, wI_o, shl9, mI_98, lsOK_s2, wI_of]
theorem ob_X11_way_469_p1 (nb nn : Nat) (town : Int32) (sh : Int32) (i : Int32) (z : Int32) (days : Int32) (what : Int32) (M : xM) (hp0 : ∀ j : Nat, 0 ≤ M 53 0 j ∧ M 53 0 j ≤ 60) (hp1 : mI M) (why : Int32) (all_ : Int32) (best : Int32) (to : Int32) (n : Nat) (k : Int32) (N_ : xM) (hmu : xmu k (z + 1) < n + 1) (hinv : 0 ≤ k ∧ 0 ≤ to ∧ to < 6 ∧ 0 ≤ all_ ∧ all_ < 256 ∧ 1 ≤ days ∧ days ≤ 6 ∧ 0 ≤ town ∧ town ≤ 5 ∧ 1 ≤ z ∧ z ≤ 8 ∧ wI N_ z) (c_1 : ¬ z < k) (r_2 : Int32) (er_2 : r_2 = xb (f_X11_mayGo days town to N_)) (c_3 : ¬ r_2 = 0) : days ≤ 6 := by
  subst_vars
  grind [isTown_eq, isSheet_eq, in_1_8, in_1_6, in_0_1, xup_at, xb, wI_o, shl9, mI_98, lsOK_s2, wI_of]
theorem ob_X11_way_469_p2 (nb nn : Nat) (town : Int32) (sh : Int32) (i : Int32) (z : Int32) (days : Int32) (what : Int32) (M : xM) (hp0 : ∀ j : Nat, 0 ≤ M 53 0 j ∧ M 53 0 j ≤ 60) (hp1 : mI M) (why : Int32) (all_ : Int32) (best : Int32) (to : Int32) (n : Nat) (k : Int32) (N_ : xM) (hmu : xmu k (z + 1) < n + 1) (hinv : 0 ≤ k ∧ 0 ≤ to ∧ to < 6 ∧ 0 ≤ all_ ∧ all_ < 256 ∧ 1 ≤ days ∧ days ≤ 6 ∧ 0 ≤ town ∧ town ≤ 5 ∧ 1 ≤ z ∧ z ≤ 8 ∧ wI N_ z) (c_1 : ¬ z < k) (r_2 : Int32) (er_2 : r_2 = xb (f_X11_mayGo days town to N_)) (c_3 : ¬ r_2 = 0) : 0 ≤ all_ := by
  subst_vars
  grind [isTown_eq, isSheet_eq, in_1_8, in_1_6, in_0_1, xup_at, xb, wI_o, shl9, mI_98, lsOK_s2, wI_of]
theorem ob_X11_way_469_p3 (nb nn : Nat) (town : Int32) (sh : Int32) (i : Int32) (z : Int32) (days : Int32) (what : Int32) (M : xM) (hp0 : ∀ j : Nat, 0 ≤ M 53 0 j ∧ M 53 0 j ≤ 60) (hp1 : mI M) (why : Int32) (all_ : Int32) (best : Int32) (to : Int32) (n : Nat) (k : Int32) (N_ : xM) (hmu : xmu k (z + 1) < n + 1) (hinv : 0 ≤ k ∧ 0 ≤ to ∧ to < 6 ∧ 0 ≤ all_ ∧ all_ < 256 ∧ 1 ≤ days ∧ days ≤ 6 ∧ 0 ≤ town ∧ town ≤ 5 ∧ 1 ≤ z ∧ z ≤ 8 ∧ wI N_ z) (c_1 : ¬ z < k) (r_2 : Int32) (er_2 : r_2 = xb (f_X11_mayGo days town to N_)) (c_3 : ¬ r_2 = 0) : all_ < 256 := by
  subst_vars
  grind [isTown_eq, isSheet_eq, in_1_8, in_1_6, in_0_1, xup_at, xb, wI_o, shl9, mI_98, lsOK_s2, wI_of]
theorem ob_X11_way_469_p4 (nb nn : Nat) (town : Int32) (sh : Int32) (i : Int32) (z : Int32) (days : Int32) (what : Int32) (M : xM) (hp0 : ∀ j : Nat, 0 ≤ M 53 0 j ∧ M 53 0 j ≤ 60) (hp1 : mI M) (why : Int32) (all_ : Int32) (best : Int32) (to : Int32) (n : Nat) (k : Int32) (N_ : xM) (hmu : xmu k (z + 1) < n + 1) (hinv : 0 ≤ k ∧ 0 ≤ to ∧ to < 6 ∧ 0 ≤ all_ ∧ all_ < 256 ∧ 1 ≤ days ∧ days ≤ 6 ∧ 0 ≤ town ∧ town ≤ 5 ∧ 1 ≤ z ∧ z ≤ 8 ∧ wI N_ z) (c_1 : ¬ z < k) (r_2 : Int32) (er_2 : r_2 = xb (f_X11_mayGo days town to N_)) (c_3 : ¬ r_2 = 0) : 0 ≤ town := by
  subst_vars
  grind [isTown_eq, isSheet_eq, in_1_8, in_1_6, in_0_1, xup_at, xb, wI_o, shl9, mI_98, lsOK_s2, wI_of]
theorem ob_X11_way_469_p5 (nb nn : Nat) (town : Int32) (sh : Int32) (i : Int32) (z : Int32) (days : Int32) (what : Int32) (M : xM) (hp0 : ∀ j : Nat, 0 ≤ M 53 0 j ∧ M 53 0 j ≤ 60) (hp1 : mI M) (why : Int32) (all_ : Int32) (best : Int32) (to : Int32) (n : Nat) (k : Int32) (N_ : xM) (hmu : xmu k (z + 1) < n + 1) (hinv : 0 ≤ k ∧ 0 ≤ to ∧ to < 6 ∧ 0 ≤ all_ ∧ all_ < 256 ∧ 1 ≤ days ∧ days ≤ 6 ∧ 0 ≤ town ∧ town ≤ 5 ∧ 1 ≤ z ∧ z ≤ 8 ∧ wI N_ z) (c_1 : ¬ z < k) (r_2 : Int32) (er_2 : r_2 = xb (f_X11_mayGo days town to N_)) (c_3 : ¬ r_2 = 0) : town ≤ 5 := by
  subst_vars
  grind [isTown_eq, isSheet_eq, in_1_8, in_1_6, in_0_1, xup_at, xb, wI_o, shl9, mI_98, lsOK_s2, wI_of]
theorem ob_X11_way_469_p6 (nb nn : Nat) (town : Int32) (sh : Int32) (i : Int32) (z : Int32) (days : Int32) (what : Int32) (M : xM) (hp0 : ∀ j : Nat, 0 ≤ M 53 0 j ∧ M 53 0 j ≤ 60) (hp1 : mI M) (why : Int32) (all_ : Int32) (best : Int32) (to : Int32) (n : Nat) (k : Int32) (N_ : xM) (hmu : xmu k (z + 1) < n + 1) (hinv : 0 ≤ k ∧ 0 ≤ to ∧ to < 6 ∧ 0 ≤ all_ ∧ all_ < 256 ∧ 1 ≤ days ∧ days ≤ 6 ∧ 0 ≤ town ∧ town ≤ 5 ∧ 1 ≤ z ∧ z ≤ 8 ∧ wI N_ z) (c_1 : ¬ z < k) (r_2 : Int32) (er_2 : r_2 = xb (f_X11_mayGo days town to N_)) (c_3 : ¬ r_2 = 0) : 0 ≤ k := by
  subst_vars
  grind [isTown_eq, isSheet_eq, in_1_8, in_1_6, in_0_1, xup_at, xb, wI_o, shl9, mI_98, lsOK_s2, wI_of]
theorem ob_X11_way_469_p7 (nb nn : Nat) (town : Int32) (sh : Int32) (i : Int32) (z : Int32) (days : Int32) (what : Int32) (M : xM) (hp0 : ∀ j : Nat, 0 ≤ M 53 0 j ∧ M 53 0 j ≤ 60) (hp1 : mI M) (why : Int32) (all_ : Int32) (best : Int32) (to : Int32) (n : Nat) (k : Int32) (N_ : xM) (hmu : xmu k (z + 1) < n + 1) (hinv : 0 ≤ k ∧ 0 ≤ to ∧ to < 6 ∧ 0 ≤ all_ ∧ all_ < 256 ∧ 1 ≤ days ∧ days ≤ 6 ∧ 0 ≤ town ∧ town ≤ 5 ∧ 1 ≤ z ∧ z ≤ 8 ∧ wI N_ z) (c_1 : ¬ z < k) (r_2 : Int32) (er_2 : r_2 = xb (f_X11_mayGo days town to N_)) (c_3 : ¬ r_2 = 0) : k ≤ z := by
  subst_vars
  grind [isTown_eq, isSheet_eq, in_1_8, in_1_6, in_0_1, xup_at, xb, wI_o, shl9, mI_98, lsOK_s2, wI_of]
theorem ob_X11_way_469_p8 (nb nn : Nat) (town : Int32) (sh : Int32) (i : Int32) (z : Int32) (days : Int32) (what : Int32) (M : xM) (hp0 : ∀ j : Nat, 0 ≤ M 53 0 j ∧ M 53 0 j ≤ 60) (hp1 : mI M) (why : Int32) (all_ : Int32) (best : Int32) (to : Int32) (n : Nat) (k : Int32) (N_ : xM) (hmu : xmu k (z + 1) < n + 1) (hinv : 0 ≤ k ∧ 0 ≤ to ∧ to < 6 ∧ 0 ≤ all_ ∧ all_ < 256 ∧ 1 ≤ days ∧ days ≤ 6 ∧ 0 ≤ town ∧ town ≤ 5 ∧ 1 ≤ z ∧ z ≤ 8 ∧ wI N_ z) (c_1 : ¬ z < k) (r_2 : Int32) (er_2 : r_2 = xb (f_X11_mayGo days town to N_)) (c_3 : ¬ r_2 = 0) : z ≤ 8 := by
  subst_vars
  grind [isTown_eq, isSheet_eq, in_1_8, in_1_6, in_0_1, xup_at, xb, wI_o, shl9, mI_98, lsOK_s2, wI_of]
theorem ob_X11_way_469_p9 (nb nn : Nat) (town : Int32) (sh : Int32) (i : Int32) (z : Int32) (days : Int32) (what : Int32) (M : xM) (hp0 : ∀ j : Nat, 0 ≤ M 53 0 j ∧ M 53 0 j ≤ 60) (hp1 : mI M) (why : Int32) (all_ : Int32) (best : Int32) (to : Int32) (n : Nat) (k : Int32) (N_ : xM) (hmu : xmu k (z + 1) < n + 1) (hinv : 0 ≤ k ∧ 0 ≤ to ∧ to < 6 ∧ 0 ≤ all_ ∧ all_ < 256 ∧ 1 ≤ days ∧ days ≤ 6 ∧ 0 ≤ town ∧ town ≤ 5 ∧ 1 ≤ z ∧ z ≤ 8 ∧ wI N_ z) (c_1 : ¬ z < k) (r_2 : Int32) (er_2 : r_2 = xb (f_X11_mayGo days town to N_)) (c_3 : ¬ r_2 = 0) : 0 ≤ to := by
  subst_vars
  grind [isTown_eq, isSheet_eq, in_1_8, in_1_6, in_0_1, xup_at, xb, wI_o, shl9, mI_98, lsOK_s2, wI_of]
theorem ob_X11_way_469_p10 (nb nn : Nat) (town : Int32) (sh : Int32) (i : Int32) (z : Int32) (days : Int32) (what : Int32) (M : xM) (hp0 : ∀ j : Nat, 0 ≤ M 53 0 j ∧ M 53 0 j ≤ 60) (hp1 : mI M) (why : Int32) (all_ : Int32) (best : Int32) (to : Int32) (n : Nat) (k : Int32) (N_ : xM) (hmu : xmu k (z + 1) < n + 1) (hinv : 0 ≤ k ∧ 0 ≤ to ∧ to < 6 ∧ 0 ≤ all_ ∧ all_ < 256 ∧ 1 ≤ days ∧ days ≤ 6 ∧ 0 ≤ town ∧ town ≤ 5 ∧ 1 ≤ z ∧ z ≤ 8 ∧ wI N_ z) (c_1 : ¬ z < k) (r_2 : Int32) (er_2 : r_2 = xb (f_X11_mayGo days town to N_)) (c_3 : ¬ r_2 = 0) : to ≤ 5 := by
  subst_vars
  grind [isTown_eq, isSheet_eq, in_1_8, in_1_6, in_0_1, xup_at, xb, wI_o, shl9, mI_98, lsOK_s2, wI_of]
theorem ob_X11_way_469_p11 (nb nn : Nat) (town : Int32) (sh : Int32) (i : Int32) (z : Int32) (days : Int32) (what : Int32) (M : xM) (hp0 : ∀ j : Nat, 0 ≤ M 53 0 j ∧ M 53 0 j ≤ 60) (hp1 : mI M) (why : Int32) (all_ : Int32) (best : Int32) (to : Int32) (n : Nat) (k : Int32) (N_ : xM) (hmu : xmu k (z + 1) < n + 1) (hinv : 0 ≤ k ∧ 0 ≤ to ∧ to < 6 ∧ 0 ≤ all_ ∧ all_ < 256 ∧ 1 ≤ days ∧ days ≤ 6 ∧ 0 ≤ town ∧ town ≤ 5 ∧ 1 ≤ z ∧ z ≤ 8 ∧ wI N_ z) (c_1 : ¬ z < k) (r_2 : Int32) (er_2 : r_2 = xb (f_X11_mayGo days town to N_)) (c_3 : ¬ r_2 = 0) : wI N_ z := by
  subst_vars
  grind [isTown_eq, isSheet_eq, in_1_8, in_1_6, in_0_1, xup_at, xb, wI_o, shl9, mI_98, lsOK_s2, wI_of]
theorem ob_X11_way_438_mu_7 (nb nn : Nat) (town : Int32) (sh : Int32) (i : Int32) (z : Int32) (days : Int32) (what : Int32) (M : xM) (hp0 : ∀ j : Nat, 0 ≤ M 53 0 j ∧ M 53 0 j ≤ 60) (hp1 : mI M) (why : Int32) (all_ : Int32) (best : Int32) (to : Int32) (n : Nat) (k : Int32) (N_ : xM) (hmu : xmu k (z + 1) < n + 1) (hinv : 0 ≤ k ∧ 0 ≤ to ∧ to < 6 ∧ 0 ≤ all_ ∧ all_ < 256 ∧ 1 ≤ days ∧ days ≤ 6 ∧ 0 ≤ town ∧ town ≤ 5 ∧ 1 ≤ z ∧ z ≤ 8 ∧ wI N_ z) (c_1 : ¬ z < k) (r_2 : Int32) (er_2 : r_2 = xb (f_X11_mayGo days town to N_)) (c_3 : ¬ r_2 = 0) (r_5 : Int32) (er_5 : r_5 = f_X11_goesBy days all_ town k z to N_) (c_6 : ¬ r_5 = best) (x11_7 : Int32) (ex11_7 : x11_7 = k + 1) : xmu x11_7 (z + 1) < n := by
  subst_vars
  have h9 := xmu_up (a := k) (b := (z + 1)) (by grind)
  (try simp [xup_at])
  omega
theorem ob_X11_way_438_inv_7 (nb nn : Nat) (town : Int32) (sh : Int32) (i : Int32) (z : Int32) (days : Int32) (what : Int32) (M : xM) (hp0 : ∀ j : Nat, 0 ≤ M 53 0 j ∧ M 53 0 j ≤ 60) (hp1 : mI M) (why : Int32) (all_ : Int32) (best : Int32) (to : Int32) (n : Nat) (k : Int32) (N_ : xM) (hmu : xmu k (z + 1) < n + 1) (hinv : 0 ≤ k ∧ 0 ≤ to ∧ to < 6 ∧ 0 ≤ all_ ∧ all_ < 256 ∧ 1 ≤ days ∧ days ≤ 6 ∧ 0 ≤ town ∧ town ≤ 5 ∧ 1 ≤ z ∧ z ≤ 8 ∧ wI N_ z) (c_1 : ¬ z < k) (r_2 : Int32) (er_2 : r_2 = xb (f_X11_mayGo days town to N_)) (c_3 : ¬ r_2 = 0) (r_5 : Int32) (er_5 : r_5 = f_X11_goesBy days all_ town k z to N_) (c_6 : ¬ r_5 = best) (x11_7 : Int32) (ex11_7 : x11_7 = k + 1) : 0 ≤ x11_7 ∧ 0 ≤ to ∧ to < 6 ∧ 0 ≤ all_ ∧ all_ < 256 ∧ 1 ≤ days ∧ days ≤ 6 ∧ 0 ≤ town ∧ town ≤ 5 ∧ 1 ≤ z ∧ z ≤ 8 ∧ wI N_ z := by
  subst_vars
  grind [isTown_eq, isSheet_eq, in_1_8, in_1_6, in_0_1, xup_at, xb, wI_o, shl9, mI_98, lsOK_s2, wI_of]
theorem ob_X11_way_510_x428 (nb nn : Nat) (town : Int32) (sh : Int32) (i : Int32) (z : Int32) (days : Int32) (what : Int32) (M : xM) (hp0 : ∀ j : Nat, 0 ≤ M 53 0 j ∧ M 53 0 j ≤ 60) (hp1 : mI M) (why : Int32) (all_ : Int32) (best : Int32) (n : Nat) (to : Int32) (N_ : xM) (hmu : xmu to 6 < n + 1) (hinv : 0 ≤ to ∧ 0 ≤ all_ ∧ all_ < 256 ∧ 1 ≤ days ∧ days ≤ 6 ∧ 0 ≤ town ∧ town ≤ 5 ∧ 1 ≤ z ∧ z ≤ 8 ∧ wI N_ z) (c_9 : 6 ≤ to) : 0 ≤ to ∧ 0 ≤ all_ ∧ all_ < 256 ∧ 1 ≤ days ∧ days ≤ 6 ∧ 0 ≤ town ∧ town ≤ 5 ∧ 1 ≤ z ∧ z ≤ 8 ∧ wI N_ z := by
  subst_vars
  grind [isTown_eq, isSheet_eq, in_1_8, in_1_6, in_0_1, xup_at, xb, wI_o, shl9, mI_98, lsOK_s2, wI_of]
theorem ob_X11_way_438_ini_9 (nb nn : Nat) (town : Int32) (sh : Int32) (i : Int32) (z : Int32) (days : Int32) (what : Int32) (M : xM) (hp0 : ∀ j : Nat, 0 ≤ M 53 0 j ∧ M 53 0 j ≤ 60) (hp1 : mI M) (why : Int32) (all_ : Int32) (best : Int32) (n : Nat) (to : Int32) (N_ : xM) (hmu : xmu to 6 < n + 1) (hinv : 0 ≤ to ∧ 0 ≤ all_ ∧ all_ < 256 ∧ 1 ≤ days ∧ days ≤ 6 ∧ 0 ≤ town ∧ town ≤ 5 ∧ 1 ≤ z ∧ z ≤ 8 ∧ wI N_ z) (c_9 : ¬ 6 ≤ to) : 0 ≤ (0 : Int32) ∧ 0 ≤ to ∧ to < 6 ∧ 0 ≤ all_ ∧ all_ < 256 ∧ 1 ≤ days ∧ days ≤ 6 ∧ 0 ≤ town ∧ town ≤ 5 ∧ 1 ≤ z ∧ z ≤ 8 ∧ wI N_ z := by
  subst_vars
  grind [isTown_eq, isSheet_eq, in_1_8, in_1_6, in_0_1, xup_at, xb, wI_o, shl9, mI_98, lsOK_s2, wI_of]
theorem ob_X11_way_428_mu_11 (nb nn : Nat) (town : Int32) (sh : Int32) (i : Int32) (z : Int32) (days : Int32) (what : Int32) (M : xM) (hp0 : ∀ j : Nat, 0 ≤ M 53 0 j ∧ M 53 0 j ≤ 60) (hp1 : mI M) (why : Int32) (all_ : Int32) (best : Int32) (n : Nat) (to : Int32) (N_ : xM) (hmu : xmu to 6 < n + 1) (hinv : 0 ≤ to ∧ 0 ≤ all_ ∧ all_ < 256 ∧ 1 ≤ days ∧ days ≤ 6 ∧ 0 ≤ town ∧ town ≤ 5 ∧ 1 ≤ z ∧ z ≤ 8 ∧ wI N_ z) (c_9 : ¬ 6 ≤ to) (k_10 : Int32) (hiv_10 : 0 ≤ k_10 ∧ 0 ≤ to ∧ to < 6 ∧ 0 ≤ all_ ∧ all_ < 256 ∧ 1 ≤ days ∧ days ≤ 6 ∧ 0 ≤ town ∧ town ≤ 5 ∧ 1 ≤ z ∧ z ≤ 8 ∧ wI N_ z) (x10_11 : Int32) (ex10_11 : x10_11 = to + 1) : xmu x10_11 6 < n := by
  subst_vars
  have h9 := xmu_up (a := to) (b := 6) (by grind)
  (try simp [xup_at])
  omega
theorem ob_X11_way_428_inv_11 (nb nn : Nat) (town : Int32) (sh : Int32) (i : Int32) (z : Int32) (days : Int32) (what : Int32) (M : xM) (hp0 : ∀ j : Nat, 0 ≤ M 53 0 j ∧ M 53 0 j ≤ 60) (hp1 : mI M) (why : Int32) (all_ : Int32) (best : Int32) (n : Nat) (to : Int32) (N_ : xM) (hmu : xmu to 6 < n + 1) (hinv : 0 ≤ to ∧ 0 ≤ all_ ∧ all_ < 256 ∧ 1 ≤ days ∧ days ≤ 6 ∧ 0 ≤ town ∧ town ≤ 5 ∧ 1 ≤ z ∧ z ≤ 8 ∧ wI N_ z) (c_9 : ¬ 6 ≤ to) (k_10 : Int32) (hiv_10 : 0 ≤ k_10 ∧ 0 ≤ to ∧ to < 6 ∧ 0 ≤ all_ ∧ all_ < 256 ∧ 1 ≤ days ∧ days ≤ 6 ∧ 0 ≤ town ∧ town ≤ 5 ∧ 1 ≤ z ∧ z ≤ 8 ∧ wI N_ z) (x10_11 : Int32) (ex10_11 : x10_11 = to + 1) : 0 ≤ x10_11 ∧ 0 ≤ all_ ∧ all_ < 256 ∧ 1 ≤ days ∧ days ≤ 6 ∧ 0 ≤ town ∧ town ≤ 5 ∧ 1 ≤ z ∧ z ≤ 8 ∧ wI N_ z := by
  subst_vars
  grind [isTown_eq, isSheet_eq, in_1_8, in_1_6, in_0_1, xup_at, xb, wI_o, shl9, mI_98, lsOK_s2, wI_of]
theorem ob_X11_way_340_x258 (nb nn : Nat) (town : Int32) (sh : Int32) (i : Int32) (z : Int32) (days : Int32) (what : Int32) (M : xM) (hp0 : ∀ j : Nat, 0 ≤ M 53 0 j ∧ M 53 0 j ≤ 60) (hp1 : mI M) (why : Int32) (day : Int32) (t : Int32) (set_ : Int32) (k : Int32) (n : Nat) (best : Int32) (to : Int32) (N_ : xM) (hmu : xmu to 6 < n + 1) (hinv : 0 ≤ to ∧ 1 ≤ day ∧ day ≤ 6 ∧ 0 ≤ t ∧ t < 6 ∧ 0 ≤ set_ ∧ set_ < 256 ∧ 0 ≤ k ∧ k ≤ z ∧ 1 ≤ z ∧ z ≤ 8 ∧ wI N_ z) (c_12 : 6 ≤ to) : 0 ≤ to ∧ 1 ≤ day ∧ day ≤ 6 ∧ 0 ≤ t ∧ t < 6 ∧ 0 ≤ set_ ∧ set_ < 256 ∧ 0 ≤ k ∧ k ≤ z ∧ 1 ≤ z ∧ z ≤ 8 ∧ wI N_ z := by
  subst_vars
  grind [isTown_eq, isSheet_eq, in_1_8, in_1_6, in_0_1, xup_at, xb, wI_o, shl9, mI_98, lsOK_s2, wI_of]
theorem ob_X11_way_290_p0 (nb nn : Nat) (town : Int32) (sh : Int32) (i : Int32) (z : Int32) (days : Int32) (what : Int32) (M : xM) (hp0 : ∀ j : Nat, 0 ≤ M 53 0 j ∧ M 53 0 j ≤ 60) (hp1 : mI M) (why : Int32) (day : Int32) (t : Int32) (set_ : Int32) (k : Int32) (n : Nat) (best : Int32) (to : Int32) (N_ : xM) (hmu : xmu to 6 < n + 1) (hinv : 0 ≤ to ∧ 1 ≤ day ∧ day ≤ 6 ∧ 0 ≤ t ∧ t < 6 ∧ 0 ≤ set_ ∧ set_ < 256 ∧ 0 ≤ k ∧ k ≤ z ∧ 1 ≤ z ∧ z ≤ 8 ∧ wI N_ z) (c_12 : ¬ 6 ≤ to) (c_13 : k = z) : 0 ≤ t := by
  subst_vars
  grind [isTown_eq, isSheet_eq, in_1_8, in_1_6, in_0_1, xup_at, xb, wI_o, shl9, mI_98, lsOK_s2, wI_of]
theorem ob_X11_way_290_p1 (nb nn : Nat) (town : Int32) (sh : Int32) (i : Int32) (z : Int32) (days : Int32) (what : Int32) (M : xM) (hp0 : ∀ j : Nat, 0 ≤ M 53 0 j ∧ M 53 0 j ≤ 60) (hp1 : mI M) (why : Int32) (day : Int32) (t : Int32) (set_ : Int32) (k : Int32) (n : Nat) (best : Int32) (to : Int32) (N_ : xM) (hmu : xmu to 6 < n + 1) (hinv : 0 ≤ to ∧ 1 ≤ day ∧ day ≤ 6 ∧ 0 ≤ t ∧ t < 6 ∧ 0 ≤ set_ ∧ set_ < 256 ∧ 0 ≤ k ∧ k ≤ z ∧ 1 ≤ z ∧ z ≤ 8 ∧ wI N_ z) (c_12 : ¬ 6 ≤ to) (c_13 : k = z) : t ≤ 5 := by
  subst_vars
  grind [isTown_eq, isSheet_eq, in_1_8, in_1_6, in_0_1, xup_at, xb, wI_o, shl9, mI_98, lsOK_s2, wI_of]
theorem ob_X11_way_290_p2 (nb nn : Nat) (town : Int32) (sh : Int32) (i : Int32) (z : Int32) (days : Int32) (what : Int32) (M : xM) (hp0 : ∀ j : Nat, 0 ≤ M 53 0 j ∧ M 53 0 j ≤ 60) (hp1 : mI M) (why : Int32) (day : Int32) (t : Int32) (set_ : Int32) (k : Int32) (n : Nat) (best : Int32) (to : Int32) (N_ : xM) (hmu : xmu to 6 < n + 1) (hinv : 0 ≤ to ∧ 1 ≤ day ∧ day ≤ 6 ∧ 0 ≤ t ∧ t < 6 ∧ 0 ≤ set_ ∧ set_ < 256 ∧ 0 ≤ k ∧ k ≤ z ∧ 1 ≤ z ∧ z ≤ 8 ∧ wI N_ z) (c_12 : ¬ 6 ≤ to) (c_13 : k = z) : 0 ≤ to := by
  subst_vars
  grind [isTown_eq, isSheet_eq, in_1_8, in_1_6, in_0_1, xup_at, xb, wI_o, shl9, mI_98, lsOK_s2, wI_of]
theorem ob_X11_way_290_p3 (nb nn : Nat) (town : Int32) (sh : Int32) (i : Int32) (z : Int32) (days : Int32) (what : Int32) (M : xM) (hp0 : ∀ j : Nat, 0 ≤ M 53 0 j ∧ M 53 0 j ≤ 60) (hp1 : mI M) (why : Int32) (day : Int32) (t : Int32) (set_ : Int32) (k : Int32) (n : Nat) (best : Int32) (to : Int32) (N_ : xM) (hmu : xmu to 6 < n + 1) (hinv : 0 ≤ to ∧ 1 ≤ day ∧ day ≤ 6 ∧ 0 ≤ t ∧ t < 6 ∧ 0 ≤ set_ ∧ set_ < 256 ∧ 0 ≤ k ∧ k ≤ z ∧ 1 ≤ z ∧ z ≤ 8 ∧ wI N_ z) (c_12 : ¬ 6 ≤ to) (c_13 : k = z) : to ≤ 5 := by
  subst_vars
  grind [isTown_eq, isSheet_eq, in_1_8, in_1_6, in_0_1, xup_at, xb, wI_o, shl9, mI_98, lsOK_s2, wI_of]
theorem ob_X11_way_258_mu_17 (nb nn : Nat) (town : Int32) (sh : Int32) (i : Int32) (z : Int32) (days : Int32) (what : Int32) (M : xM) (hp0 : ∀ j : Nat, 0 ≤ M 53 0 j ∧ M 53 0 j ≤ 60) (hp1 : mI M) (why : Int32) (day : Int32) (t : Int32) (set_ : Int32) (k : Int32) (n : Nat) (best : Int32) (to : Int32) (N_ : xM) (hmu : xmu to 6 < n + 1) (hinv : 0 ≤ to ∧ 1 ≤ day ∧ day ≤ 6 ∧ 0 ≤ t ∧ t < 6 ∧ 0 ≤ set_ ∧ set_ < 256 ∧ 0 ≤ k ∧ k ≤ z ∧ 1 ≤ z ∧ z ≤ 8 ∧ wI N_ z) (c_12 : ¬ 6 ≤ to) (c_13 : k = z) (r_14 : Int32) (er_14 : r_14 = xb (f_X11_mayGo day t to N_)) (c_15 : r_14 = 0) (c_16 : 0 ≤ best) (x13_17 : Int32) (ex13_17 : x13_17 = to + 1) : xmu x13_17 6 < n := by
  subst_vars
  have h9 := xmu_up (a := to) (b := 6) (by grind)
  (try simp [xup_at])
  omega
theorem ob_X11_way_258_inv_17 (nb nn : Nat) (town : Int32) (sh : Int32) (i : Int32) (z : Int32) (days : Int32) (what : Int32) (M : xM) (hp0 : ∀ j : Nat, 0 ≤ M 53 0 j ∧ M 53 0 j ≤ 60) (hp1 : mI M) (why : Int32) (day : Int32) (t : Int32) (set_ : Int32) (k : Int32) (n : Nat) (best : Int32) (to : Int32) (N_ : xM) (hmu : xmu to 6 < n + 1) (hinv : 0 ≤ to ∧ 1 ≤ day ∧ day ≤ 6 ∧ 0 ≤ t ∧ t < 6 ∧ 0 ≤ set_ ∧ set_ < 256 ∧ 0 ≤ k ∧ k ≤ z ∧ 1 ≤ z ∧ z ≤ 8 ∧ wI N_ z) (c_12 : ¬ 6 ≤ to) (c_13 : k = z) (r_14 : Int32) (er_14 : r_14 = xb (f_X11_mayGo day t to N_)) (c_15 : r_14 = 0) (c_16 : 0 ≤ best) (x13_17 : Int32) (ex13_17 : x13_17 = to + 1) : 0 ≤ x13_17 ∧ 1 ≤ day ∧ day ≤ 6 ∧ 0 ≤ t ∧ t < 6 ∧ 0 ≤ set_ ∧ set_ < 256 ∧ 0 ≤ k ∧ k ≤ z ∧ 1 ≤ z ∧ z ≤ 8 ∧ wI N_ z := by
  subst_vars
  grind [isTown_eq, isSheet_eq, in_1_8, in_1_6, in_0_1, xup_at, xb, wI_o, shl9, mI_98, lsOK_s2, wI_of]
theorem ob_X11_way_258_mu_18 (nb nn : Nat) (town : Int32) (sh : Int32) (i : Int32) (z : Int32) (days : Int32) (what : Int32) (M : xM) (hp0 : ∀ j : Nat, 0 ≤ M 53 0 j ∧ M 53 0 j ≤ 60) (hp1 : mI M) (why : Int32) (day : Int32) (t : Int32) (set_ : Int32) (k : Int32) (n : Nat) (best : Int32) (to : Int32) (N_ : xM) (hmu : xmu to 6 < n + 1) (hinv : 0 ≤ to ∧ 1 ≤ day ∧ day ≤ 6 ∧ 0 ≤ t ∧ t < 6 ∧ 0 ≤ set_ ∧ set_ < 256 ∧ 0 ≤ k ∧ k ≤ z ∧ 1 ≤ z ∧ z ≤ 8 ∧ wI N_ z) (c_12 : ¬ 6 ≤ to) (c_13 : k = z) (r_14 : Int32) (er_14 : r_14 = xb (f_X11_mayGo day t to N_)) (c_15 : r_14 = 0) (c_16 : ¬ 0 ≤ best) (x13_18 : Int32) (ex13_18 : x13_18 = to + 1) : xmu x13_18 6 < n := by
  subst_vars
  have h9 := xmu_up (a := to) (b := 6) (by grind)
  (try simp [xup_at])
  omega
theorem ob_X11_way_258_inv_18 (nb nn : Nat) (town : Int32) (sh : Int32) (i : Int32) (z : Int32) (days : Int32) (what : Int32) (M : xM) (hp0 : ∀ j : Nat, 0 ≤ M 53 0 j ∧ M 53 0 j ≤ 60) (hp1 : mI M) (why : Int32) (day : Int32) (t : Int32) (set_ : Int32) (k : Int32) (n : Nat) (best : Int32) (to : Int32) (N_ : xM) (hmu : xmu to 6 < n + 1) (hinv : 0 ≤ to ∧ 1 ≤ day ∧ day ≤ 6 ∧ 0 ≤ t ∧ t < 6 ∧ 0 ≤ set_ ∧ set_ < 256 ∧ 0 ≤ k ∧ k ≤ z ∧ 1 ≤ z ∧ z ≤ 8 ∧ wI N_ z) (c_12 : ¬ 6 ≤ to) (c_13 : k = z) (r_14 : Int32) (er_14 : r_14 = xb (f_X11_mayGo day t to N_)) (c_15 : r_14 = 0) (c_16 : ¬ 0 ≤ best) (x13_18 : Int32) (ex13_18 : x13_18 = to + 1) : 0 ≤ x13_18 ∧ 1 ≤ day ∧ day ≤ 6 ∧ 0 ≤ t ∧ t < 6 ∧ 0 ≤ set_ ∧ set_ < 256 ∧ 0 ≤ k ∧ k ≤ z ∧ 1 ≤ z ∧ z ≤ 8 ∧ wI N_ z := by
  subst_vars
  grind [isTown_eq, isSheet_eq, in_1_8, in_1_6, in_0_1, xup_at, xb, wI_o, shl9, mI_98, lsOK_s2, wI_of]
theorem ob_X11_way_309_p0 (nb nn : Nat) (town : Int32) (sh : Int32) (i : Int32) (z : Int32) (days : Int32) (what : Int32) (M : xM) (hp0 : ∀ j : Nat, 0 ≤ M 53 0 j ∧ M 53 0 j ≤ 60) (hp1 : mI M) (why : Int32) (day : Int32) (t : Int32) (set_ : Int32) (k : Int32) (n : Nat) (best : Int32) (to : Int32) (N_ : xM) (hmu : xmu to 6 < n + 1) (hinv : 0 ≤ to ∧ 1 ≤ day ∧ day ≤ 6 ∧ 0 ≤ t ∧ t < 6 ∧ 0 ≤ set_ ∧ set_ < 256 ∧ 0 ≤ k ∧ k ≤ z ∧ 1 ≤ z ∧ z ≤ 8 ∧ wI N_ z) (c_12 : ¬ 6 ≤ to) (c_13 : k = z) (r_14 : Int32) (er_14 : r_14 = xb (f_X11_mayGo day t to N_)) (c_15 : ¬ r_14 = 0) : 1 ≤ day := by
  subst_vars
  grind [isTown_eq, isSheet_eq, in_1_8, in_1_6, in_0_1, xup_at, xb, wI_o, shl9, mI_98, lsOK_s2, wI_of]
theorem ob_X11_way_309_p1 (nb nn : Nat) (town : Int32) (sh : Int32) (i : Int32) (z : Int32) (days : Int32) (what : Int32) (M : xM) (hp0 : ∀ j : Nat, 0 ≤ M 53 0 j ∧ M 53 0 j ≤ 60) (hp1 : mI M) (why : Int32) (day : Int32) (t : Int32) (set_ : Int32) (k : Int32) (n : Nat) (best : Int32) (to : Int32) (N_ : xM) (hmu : xmu to 6 < n + 1) (hinv : 0 ≤ to ∧ 1 ≤ day ∧ day ≤ 6 ∧ 0 ≤ t ∧ t < 6 ∧ 0 ≤ set_ ∧ set_ < 256 ∧ 0 ≤ k ∧ k ≤ z ∧ 1 ≤ z ∧ z ≤ 8 ∧ wI N_ z) (c_12 : ¬ 6 ≤ to) (c_13 : k = z) (r_14 : Int32) (er_14 : r_14 = xb (f_X11_mayGo day t to N_)) (c_15 : ¬ r_14 = 0) : day ≤ 6 := by
  subst_vars
  grind [isTown_eq, isSheet_eq, in_1_8, in_1_6, in_0_1, xup_at, xb, wI_o, shl9, mI_98, lsOK_s2, wI_of]
theorem ob_X11_way_309_p2 (nb nn : Nat) (town : Int32) (sh : Int32) (i : Int32) (z : Int32) (days : Int32) (what : Int32) (M : xM) (hp0 : ∀ j : Nat, 0 ≤ M 53 0 j ∧ M 53 0 j ≤ 60) (hp1 : mI M) (why : Int32) (day : Int32) (t : Int32) (set_ : Int32) (k : Int32) (n : Nat) (best : Int32) (to : Int32) (N_ : xM) (hmu : xmu to 6 < n + 1) (hinv : 0 ≤ to ∧ 1 ≤ day ∧ day ≤ 6 ∧ 0 ≤ t ∧ t < 6 ∧ 0 ≤ set_ ∧ set_ < 256 ∧ 0 ≤ k ∧ k ≤ z ∧ 1 ≤ z ∧ z ≤ 8 ∧ wI N_ z) (c_12 : ¬ 6 ≤ to) (c_13 : k = z) (r_14 : Int32) (er_14 : r_14 = xb (f_X11_mayGo day t to N_)) (c_15 : ¬ r_14 = 0) : 0 ≤ set_ := by
  subst_vars
  grind [isTown_eq, isSheet_eq, in_1_8, in_1_6, in_0_1, xup_at, xb, wI_o, shl9, mI_98, lsOK_s2, wI_of]
theorem ob_X11_way_309_p3 (nb nn : Nat) (town : Int32) (sh : Int32) (i : Int32) (z : Int32) (days : Int32) (what : Int32) (M : xM) (hp0 : ∀ j : Nat, 0 ≤ M 53 0 j ∧ M 53 0 j ≤ 60) (hp1 : mI M) (why : Int32) (day : Int32) (t : Int32) (set_ : Int32) (k : Int32) (n : Nat) (best : Int32) (to : Int32) (N_ : xM) (hmu : xmu to 6 < n + 1) (hinv : 0 ≤ to ∧ 1 ≤ day ∧ day ≤ 6 ∧ 0 ≤ t ∧ t < 6 ∧ 0 ≤ set_ ∧ set_ < 256 ∧ 0 ≤ k ∧ k ≤ z ∧ 1 ≤ z ∧ z ≤ 8 ∧ wI N_ z) (c_12 : ¬ 6 ≤ to) (c_13 : k = z) (r_14 : Int32) (er_14 : r_14 = xb (f_X11_mayGo day t to N_)) (c_15 : ¬ r_14 = 0) : set_ < 256 := by
  subst_vars
  grind [isTown_eq, isSheet_eq, in_1_8, in_1_6, in_0_1, xup_at, xb, wI_o, shl9, mI_98, lsOK_s2, wI_of]
theorem ob_X11_way_309_p4 (nb nn : Nat) (town : Int32) (sh : Int32) (i : Int32) (z : Int32) (days : Int32) (what : Int32) (M : xM) (hp0 : ∀ j : Nat, 0 ≤ M 53 0 j ∧ M 53 0 j ≤ 60) (hp1 : mI M) (why : Int32) (day : Int32) (t : Int32) (set_ : Int32) (k : Int32) (n : Nat) (best : Int32) (to : Int32) (N_ : xM) (hmu : xmu to 6 < n + 1) (hinv : 0 ≤ to ∧ 1 ≤ day ∧ day ≤ 6 ∧ 0 ≤ t ∧ t < 6 ∧ 0 ≤ set_ ∧ set_ < 256 ∧ 0 ≤ k ∧ k ≤ z ∧ 1 ≤ z ∧ z ≤ 8 ∧ wI N_ z) (c_12 : ¬ 6 ≤ to) (c_13 : k = z) (r_14 : Int32) (er_14 : r_14 = xb (f_X11_mayGo day t to N_)) (c_15 : ¬ r_14 = 0) : 0 ≤ t := by
  subst_vars
  grind [isTown_eq, isSheet_eq, in_1_8, in_1_6, in_0_1, xup_at, xb, wI_o, shl9, mI_98, lsOK_s2, wI_of]
theorem ob_X11_way_309_p5 (nb nn : Nat) (town : Int32) (sh : Int32) (i : Int32) (z : Int32) (days : Int32) (what : Int32) (M : xM) (hp0 : ∀ j : Nat, 0 ≤ M 53 0 j ∧ M 53 0 j ≤ 60) (hp1 : mI M) (why : Int32) (day : Int32) (t : Int32) (set_ : Int32) (k : Int32) (n : Nat) (best : Int32) (to : Int32) (N_ : xM) (hmu : xmu to 6 < n + 1) (hinv : 0 ≤ to ∧ 1 ≤ day ∧ day ≤ 6 ∧ 0 ≤ t ∧ t < 6 ∧ 0 ≤ set_ ∧ set_ < 256 ∧ 0 ≤ k ∧ k ≤ z ∧ 1 ≤ z ∧ z ≤ 8 ∧ wI N_ z) (c_12 : ¬ 6 ≤ to) (c_13 : k = z) (r_14 : Int32) (er_14 : r_14 = xb (f_X11_mayGo day t to N_)) (c_15 : ¬ r_14 = 0) : t ≤ 5 := by
  subst_vars
  grind [isTown_eq, isSheet_eq, in_1_8, in_1_6, in_0_1, xup_at, xb, wI_o, shl9, mI_98, lsOK_s2, wI_of]
theorem ob_X11_way_309_p6 (nb nn : Nat) (town : Int32) (sh : Int32) (i : Int32) (z : Int32) (days : Int32) (what : Int32) (M : xM) (hp0 : ∀ j : Nat, 0 ≤ M 53 0 j ∧ M 53 0 j ≤ 60) (hp1 : mI M) (why : Int32) (day : Int32) (t : Int32) (set_ : Int32) (k : Int32) (n : Nat) (best : Int32) (to : Int32) (N_ : xM) (hmu : xmu to 6 < n + 1) (hinv : 0 ≤ to ∧ 1 ≤ day ∧ day ≤ 6 ∧ 0 ≤ t ∧ t < 6 ∧ 0 ≤ set_ ∧ set_ < 256 ∧ 0 ≤ k ∧ k ≤ z ∧ 1 ≤ z ∧ z ≤ 8 ∧ wI N_ z) (c_12 : ¬ 6 ≤ to) (c_13 : k = z) (r_14 : Int32) (er_14 : r_14 = xb (f_X11_mayGo day t to N_)) (c_15 : ¬ r_14 = 0) : 0 ≤ k := by
  subst_vars
  grind [isTown_eq, isSheet_eq, in_1_8, in_1_6, in_0_1, xup_at, xb, wI_o, shl9, mI_98, lsOK_s2, wI_of]
theorem ob_X11_way_309_p7 (nb nn : Nat) (town : Int32) (sh : Int32) (i : Int32) (z : Int32) (days : Int32) (what : Int32) (M : xM) (hp0 : ∀ j : Nat, 0 ≤ M 53 0 j ∧ M 53 0 j ≤ 60) (hp1 : mI M) (why : Int32) (day : Int32) (t : Int32) (set_ : Int32) (k : Int32) (n : Nat) (best : Int32) (to : Int32) (N_ : xM) (hmu : xmu to 6 < n + 1) (hinv : 0 ≤ to ∧ 1 ≤ day ∧ day ≤ 6 ∧ 0 ≤ t ∧ t < 6 ∧ 0 ≤ set_ ∧ set_ < 256 ∧ 0 ≤ k ∧ k ≤ z ∧ 1 ≤ z ∧ z ≤ 8 ∧ wI N_ z) (c_12 : ¬ 6 ≤ to) (c_13 : k = z) (r_14 : Int32) (er_14 : r_14 = xb (f_X11_mayGo day t to N_)) (c_15 : ¬ r_14 = 0) : k ≤ z := by
  subst_vars
  grind [isTown_eq, isSheet_eq, in_1_8, in_1_6, in_0_1, xup_at, xb, wI_o, shl9, mI_98, lsOK_s2, wI_of]
theorem ob_X11_way_309_p8 (nb nn : Nat) (town : Int32) (sh : Int32) (i : Int32) (z : Int32) (days : Int32) (what : Int32) (M : xM) (hp0 : ∀ j : Nat, 0 ≤ M 53 0 j ∧ M 53 0 j ≤ 60) (hp1 : mI M) (why : Int32) (day : Int32) (t : Int32) (set_ : Int32) (k : Int32) (n : Nat) (best : Int32) (to : Int32) (N_ : xM) (hmu : xmu to 6 < n + 1) (hinv : 0 ≤ to ∧ 1 ≤ day ∧ day ≤ 6 ∧ 0 ≤ t ∧ t < 6 ∧ 0 ≤ set_ ∧ set_ < 256 ∧ 0 ≤ k ∧ k ≤ z ∧ 1 ≤ z ∧ z ≤ 8 ∧ wI N_ z) (c_12 : ¬ 6 ≤ to) (c_13 : k = z) (r_14 : Int32) (er_14 : r_14 = xb (f_X11_mayGo day t to N_)) (c_15 : ¬ r_14 = 0) : z ≤ 8 := by
  subst_vars
  grind [isTown_eq, isSheet_eq, in_1_8, in_1_6, in_0_1, xup_at, xb, wI_o, shl9, mI_98, lsOK_s2, wI_of]
theorem ob_X11_way_309_p9 (nb nn : Nat) (town : Int32) (sh : Int32) (i : Int32) (z : Int32) (days : Int32) (what : Int32) (M : xM) (hp0 : ∀ j : Nat, 0 ≤ M 53 0 j ∧ M 53 0 j ≤ 60) (hp1 : mI M) (why : Int32) (day : Int32) (t : Int32) (set_ : Int32) (k : Int32) (n : Nat) (best : Int32) (to : Int32) (N_ : xM) (hmu : xmu to 6 < n + 1) (hinv : 0 ≤ to ∧ 1 ≤ day ∧ day ≤ 6 ∧ 0 ≤ t ∧ t < 6 ∧ 0 ≤ set_ ∧ set_ < 256 ∧ 0 ≤ k ∧ k ≤ z ∧ 1 ≤ z ∧ z ≤ 8 ∧ wI N_ z) (c_12 : ¬ 6 ≤ to) (c_13 : k = z) (r_14 : Int32) (er_14 : r_14 = xb (f_X11_mayGo day t to N_)) (c_15 : ¬ r_14 = 0) : 0 ≤ to := by
  subst_vars
  grind [isTown_eq, isSheet_eq, in_1_8, in_1_6, in_0_1, xup_at, xb, wI_o, shl9, mI_98, lsOK_s2, wI_of]
theorem ob_X11_way_309_p10 (nb nn : Nat) (town : Int32) (sh : Int32) (i : Int32) (z : Int32) (days : Int32) (what : Int32) (M : xM) (hp0 : ∀ j : Nat, 0 ≤ M 53 0 j ∧ M 53 0 j ≤ 60) (hp1 : mI M) (why : Int32) (day : Int32) (t : Int32) (set_ : Int32) (k : Int32) (n : Nat) (best : Int32) (to : Int32) (N_ : xM) (hmu : xmu to 6 < n + 1) (hinv : 0 ≤ to ∧ 1 ≤ day ∧ day ≤ 6 ∧ 0 ≤ t ∧ t < 6 ∧ 0 ≤ set_ ∧ set_ < 256 ∧ 0 ≤ k ∧ k ≤ z ∧ 1 ≤ z ∧ z ≤ 8 ∧ wI N_ z) (c_12 : ¬ 6 ≤ to) (c_13 : k = z) (r_14 : Int32) (er_14 : r_14 = xb (f_X11_mayGo day t to N_)) (c_15 : ¬ r_14 = 0) : to ≤ 5 := by
  subst_vars
  grind [isTown_eq, isSheet_eq, in_1_8, in_1_6, in_0_1, xup_at, xb, wI_o, shl9, mI_98, lsOK_s2, wI_of]
theorem ob_X11_way_309_p11 (nb nn : Nat) (town : Int32) (sh : Int32) (i : Int32) (z : Int32) (days : Int32) (what : Int32) (M : xM) (hp0 : ∀ j : Nat, 0 ≤ M 53 0 j ∧ M 53 0 j ≤ 60) (hp1 : mI M) (why : Int32) (day : Int32) (t : Int32) (set_ : Int32) (k : Int32) (n : Nat) (best : Int32) (to : Int32) (N_ : xM) (hmu : xmu to 6 < n + 1) (hinv : 0 ≤ to ∧ 1 ≤ day ∧ day ≤ 6 ∧ 0 ≤ t ∧ t < 6 ∧ 0 ≤ set_ ∧ set_ < 256 ∧ 0 ≤ k ∧ k ≤ z ∧ 1 ≤ z ∧ z ≤ 8 ∧ wI N_ z) (c_12 : ¬ 6 ≤ to) (c_13 : k = z) (r_14 : Int32) (er_14 : r_14 = xb (f_X11_mayGo day t to N_)) (c_15 : ¬ r_14 = 0) : wI N_ z := by
  subst_vars
  grind [isTown_eq, isSheet_eq, in_1_8, in_1_6, in_0_1, xup_at, xb, wI_o, shl9, mI_98, lsOK_s2, wI_of]
theorem ob_X11_way_258_mu_21 (nb nn : Nat) (town : Int32) (sh : Int32) (i : Int32) (z : Int32) (days : Int32) (what : Int32) (M : xM) (hp0 : ∀ j : Nat, 0 ≤ M 53 0 j ∧ M 53 0 j ≤ 60) (hp1 : mI M) (why : Int32) (day : Int32) (t : Int32) (set_ : Int32) (k : Int32) (n : Nat) (best : Int32) (to : Int32) (N_ : xM) (hmu : xmu to 6 < n + 1) (hinv : 0 ≤ to ∧ 1 ≤ day ∧ day ≤ 6 ∧ 0 ≤ t ∧ t < 6 ∧ 0 ≤ set_ ∧ set_ < 256 ∧ 0 ≤ k ∧ k ≤ z ∧ 1 ≤ z ∧ z ≤ 8 ∧ wI N_ z) (c_12 : ¬ 6 ≤ to) (c_13 : k = z) (r_14 : Int32) (er_14 : r_14 = xb (f_X11_mayGo day t to N_)) (c_15 : ¬ r_14 = 0) (r_19 : Int32) (er_19 : r_19 = f_X11_goesBy day set_ t k z to N_) (c_20 : r_19 ≤ best) (x13_21 : Int32) (ex13_21 : x13_21 = to + 1) : xmu x13_21 6 < n := by
  subst_vars
  have h9 := xmu_up (a := to) (b := 6) (by grind)
  (try simp [xup_at])
  omega
theorem ob_X11_way_258_inv_21 (nb nn : Nat) (town : Int32) (sh : Int32) (i : Int32) (z : Int32) (days : Int32) (what : Int32) (M : xM) (hp0 : ∀ j : Nat, 0 ≤ M 53 0 j ∧ M 53 0 j ≤ 60) (hp1 : mI M) (why : Int32) (day : Int32) (t : Int32) (set_ : Int32) (k : Int32) (n : Nat) (best : Int32) (to : Int32) (N_ : xM) (hmu : xmu to 6 < n + 1) (hinv : 0 ≤ to ∧ 1 ≤ day ∧ day ≤ 6 ∧ 0 ≤ t ∧ t < 6 ∧ 0 ≤ set_ ∧ set_ < 256 ∧ 0 ≤ k ∧ k ≤ z ∧ 1 ≤ z ∧ z ≤ 8 ∧ wI N_ z) (c_12 : ¬ 6 ≤ to) (c_13 : k = z) (r_14 : Int32) (er_14 : r_14 = xb (f_X11_mayGo day t to N_)) (c_15 : ¬ r_14 = 0) (r_19 : Int32) (er_19 : r_19 = f_X11_goesBy day set_ t k z to N_) (c_20 : r_19 ≤ best) (x13_21 : Int32) (ex13_21 : x13_21 = to + 1) : 0 ≤ x13_21 ∧ 1 ≤ day ∧ day ≤ 6 ∧ 0 ≤ t ∧ t < 6 ∧ 0 ≤ set_ ∧ set_ < 256 ∧ 0 ≤ k ∧ k ≤ z ∧ 1 ≤ z ∧ z ≤ 8 ∧ wI N_ z := by
  subst_vars
  grind [isTown_eq, isSheet_eq, in_1_8, in_1_6, in_0_1, xup_at, xb, wI_o, shl9, mI_98, lsOK_s2, wI_of]
theorem ob_X11_way_258_mu_22 (nb nn : Nat) (town : Int32) (sh : Int32) (i : Int32) (z : Int32) (days : Int32) (what : Int32) (M : xM) (hp0 : ∀ j : Nat, 0 ≤ M 53 0 j ∧ M 53 0 j ≤ 60) (hp1 : mI M) (why : Int32) (day : Int32) (t : Int32) (set_ : Int32) (k : Int32) (n : Nat) (best : Int32) (to : Int32) (N_ : xM) (hmu : xmu to 6 < n + 1) (hinv : 0 ≤ to ∧ 1 ≤ day ∧ day ≤ 6 ∧ 0 ≤ t ∧ t < 6 ∧ 0 ≤ set_ ∧ set_ < 256 ∧ 0 ≤ k ∧ k ≤ z ∧ 1 ≤ z ∧ z ≤ 8 ∧ wI N_ z) (c_12 : ¬ 6 ≤ to) (c_13 : k = z) (r_14 : Int32) (er_14 : r_14 = xb (f_X11_mayGo day t to N_)) (c_15 : ¬ r_14 = 0) (r_19 : Int32) (er_19 : r_19 = f_X11_goesBy day set_ t k z to N_) (c_20 : ¬ r_19 ≤ best) (x13_22 : Int32) (ex13_22 : x13_22 = to + 1) : xmu x13_22 6 < n := by
  subst_vars
  have h9 := xmu_up (a := to) (b := 6) (by grind)
  (try simp [xup_at])
  omega
theorem ob_X11_way_258_inv_22 (nb nn : Nat) (town : Int32) (sh : Int32) (i : Int32) (z : Int32) (days : Int32) (what : Int32) (M : xM) (hp0 : ∀ j : Nat, 0 ≤ M 53 0 j ∧ M 53 0 j ≤ 60) (hp1 : mI M) (why : Int32) (day : Int32) (t : Int32) (set_ : Int32) (k : Int32) (n : Nat) (best : Int32) (to : Int32) (N_ : xM) (hmu : xmu to 6 < n + 1) (hinv : 0 ≤ to ∧ 1 ≤ day ∧ day ≤ 6 ∧ 0 ≤ t ∧ t < 6 ∧ 0 ≤ set_ ∧ set_ < 256 ∧ 0 ≤ k ∧ k ≤ z ∧ 1 ≤ z ∧ z ≤ 8 ∧ wI N_ z) (c_12 : ¬ 6 ≤ to) (c_13 : k = z) (r_14 : Int32) (er_14 : r_14 = xb (f_X11_mayGo day t to N_)) (c_15 : ¬ r_14 = 0) (r_19 : Int32) (er_19 : r_19 = f_X11_goesBy day set_ t k z to N_) (c_20 : ¬ r_19 ≤ best) (x13_22 : Int32) (ex13_22 : x13_22 = to + 1) : 0 ≤ x13_22 ∧ 1 ≤ day ∧ day ≤ 6 ∧ 0 ≤ t ∧ t < 6 ∧ 0 ≤ set_ ∧ set_ < 256 ∧ 0 ≤ k ∧ k ≤ z ∧ 1 ≤ z ∧ z ≤ 8 ∧ wI N_ z := by
  subst_vars
  grind [isTown_eq, isSheet_eq, in_1_8, in_1_6, in_0_1, xup_at, xb, wI_o, shl9, mI_98, lsOK_s2, wI_of]
theorem ob_X11_way_340_x258_2 (nb nn : Nat) (town : Int32) (sh : Int32) (i : Int32) (z : Int32) (days : Int32) (what : Int32) (M : xM) (hp0 : ∀ j : Nat, 0 ≤ M 53 0 j ∧ M 53 0 j ≤ 60) (hp1 : mI M) (why : Int32) (day : Int32) (t : Int32) (set_ : Int32) (k : Int32) (n : Nat) (best : Int32) (to : Int32) (N_ : xM) (hmu : xmu to 6 < n + 1) (hinv : 0 ≤ to ∧ 1 ≤ day ∧ day ≤ 6 ∧ 0 ≤ t ∧ t < 6 ∧ 0 ≤ set_ ∧ set_ < 256 ∧ 0 ≤ k ∧ k ≤ z ∧ 1 ≤ z ∧ z ≤ 8 ∧ wI N_ z) (c_12 : ¬ 6 ≤ to) (c_13 : ¬ k = z) (c_23 : ¬ ((set_ >>> (k &&& 31)) &&& 1) = 1) : 0 ≤ to ∧ 1 ≤ day ∧ day ≤ 6 ∧ 0 ≤ t ∧ t < 6 ∧ 0 ≤ set_ ∧ set_ < 256 ∧ 0 ≤ k ∧ k ≤ z ∧ 1 ≤ z ∧ z ≤ 8 ∧ wI N_ z := by
  subst_vars
  grind [isTown_eq, isSheet_eq, in_1_8, in_1_6, in_0_1, xup_at, xb, wI_o, shl9, mI_98, lsOK_s2, wI_of]
theorem ob_X11_way_290_p0_2 (nb nn : Nat) (town : Int32) (sh : Int32) (i : Int32) (z : Int32) (days : Int32) (what : Int32) (M : xM) (hp0 : ∀ j : Nat, 0 ≤ M 53 0 j ∧ M 53 0 j ≤ 60) (hp1 : mI M) (why : Int32) (day : Int32) (t : Int32) (set_ : Int32) (k : Int32) (n : Nat) (best : Int32) (to : Int32) (N_ : xM) (hmu : xmu to 6 < n + 1) (hinv : 0 ≤ to ∧ 1 ≤ day ∧ day ≤ 6 ∧ 0 ≤ t ∧ t < 6 ∧ 0 ≤ set_ ∧ set_ < 256 ∧ 0 ≤ k ∧ k ≤ z ∧ 1 ≤ z ∧ z ≤ 8 ∧ wI N_ z) (c_12 : ¬ 6 ≤ to) (c_13 : ¬ k = z) (c_23 : ((set_ >>> (k &&& 31)) &&& 1) = 1) : 0 ≤ t := by
  subst_vars
  grind [isTown_eq, isSheet_eq, in_1_8, in_1_6, in_0_1, xup_at, xb, wI_o, shl9, mI_98, lsOK_s2, wI_of]
theorem ob_X11_way_290_p1_2 (nb nn : Nat) (town : Int32) (sh : Int32) (i : Int32) (z : Int32) (days : Int32) (what : Int32) (M : xM) (hp0 : ∀ j : Nat, 0 ≤ M 53 0 j ∧ M 53 0 j ≤ 60) (hp1 : mI M) (why : Int32) (day : Int32) (t : Int32) (set_ : Int32) (k : Int32) (n : Nat) (best : Int32) (to : Int32) (N_ : xM) (hmu : xmu to 6 < n + 1) (hinv : 0 ≤ to ∧ 1 ≤ day ∧ day ≤ 6 ∧ 0 ≤ t ∧ t < 6 ∧ 0 ≤ set_ ∧ set_ < 256 ∧ 0 ≤ k ∧ k ≤ z ∧ 1 ≤ z ∧ z ≤ 8 ∧ wI N_ z) (c_12 : ¬ 6 ≤ to) (c_13 : ¬ k = z) (c_23 : ((set_ >>> (k &&& 31)) &&& 1) = 1) : t ≤ 5 := by
  subst_vars
  grind [isTown_eq, isSheet_eq, in_1_8, in_1_6, in_0_1, xup_at, xb, wI_o, shl9, mI_98, lsOK_s2, wI_of]
theorem ob_X11_way_290_p2_2 (nb nn : Nat) (town : Int32) (sh : Int32) (i : Int32) (z : Int32) (days : Int32) (what : Int32) (M : xM) (hp0 : ∀ j : Nat, 0 ≤ M 53 0 j ∧ M 53 0 j ≤ 60) (hp1 : mI M) (why : Int32) (day : Int32) (t : Int32) (set_ : Int32) (k : Int32) (n : Nat) (best : Int32) (to : Int32) (N_ : xM) (hmu : xmu to 6 < n + 1) (hinv : 0 ≤ to ∧ 1 ≤ day ∧ day ≤ 6 ∧ 0 ≤ t ∧ t < 6 ∧ 0 ≤ set_ ∧ set_ < 256 ∧ 0 ≤ k ∧ k ≤ z ∧ 1 ≤ z ∧ z ≤ 8 ∧ wI N_ z) (c_12 : ¬ 6 ≤ to) (c_13 : ¬ k = z) (c_23 : ((set_ >>> (k &&& 31)) &&& 1) = 1) : 0 ≤ to := by
  subst_vars
  grind [isTown_eq, isSheet_eq, in_1_8, in_1_6, in_0_1, xup_at, xb, wI_o, shl9, mI_98, lsOK_s2, wI_of]
theorem ob_X11_way_290_p3_2 (nb nn : Nat) (town : Int32) (sh : Int32) (i : Int32) (z : Int32) (days : Int32) (what : Int32) (M : xM) (hp0 : ∀ j : Nat, 0 ≤ M 53 0 j ∧ M 53 0 j ≤ 60) (hp1 : mI M) (why : Int32) (day : Int32) (t : Int32) (set_ : Int32) (k : Int32) (n : Nat) (best : Int32) (to : Int32) (N_ : xM) (hmu : xmu to 6 < n + 1) (hinv : 0 ≤ to ∧ 1 ≤ day ∧ day ≤ 6 ∧ 0 ≤ t ∧ t < 6 ∧ 0 ≤ set_ ∧ set_ < 256 ∧ 0 ≤ k ∧ k ≤ z ∧ 1 ≤ z ∧ z ≤ 8 ∧ wI N_ z) (c_12 : ¬ 6 ≤ to) (c_13 : ¬ k = z) (c_23 : ((set_ >>> (k &&& 31)) &&& 1) = 1) : to ≤ 5 := by
  subst_vars
  grind [isTown_eq, isSheet_eq, in_1_8, in_1_6, in_0_1, xup_at, xb, wI_o, shl9, mI_98, lsOK_s2, wI_of]
theorem ob_X11_way_258_mu_27 (nb nn : Nat) (town : Int32) (sh : Int32) (i : Int32) (z : Int32) (days : Int32) (what : Int32) (M : xM) (hp0 : ∀ j : Nat, 0 ≤ M 53 0 j ∧ M 53 0 j ≤ 60) (hp1 : mI M) (why : Int32) (day : Int32) (t : Int32) (set_ : Int32) (k : Int32) (n : Nat) (best : Int32) (to : Int32) (N_ : xM) (hmu : xmu to 6 < n + 1) (hinv : 0 ≤ to ∧ 1 ≤ day ∧ day ≤ 6 ∧ 0 ≤ t ∧ t < 6 ∧ 0 ≤ set_ ∧ set_ < 256 ∧ 0 ≤ k ∧ k ≤ z ∧ 1 ≤ z ∧ z ≤ 8 ∧ wI N_ z) (c_12 : ¬ 6 ≤ to) (c_13 : ¬ k = z) (c_23 : ((set_ >>> (k &&& 31)) &&& 1) = 1) (r_24 : Int32) (er_24 : r_24 = xb (f_X11_mayGo day t to N_)) (c_25 : r_24 = 0) (c_26 : 0 ≤ best) (x13_27 : Int32) (ex13_27 : x13_27 = to + 1) : xmu x13_27 6 < n := by
  subst_vars
  have h9 := xmu_up (a := to) (b := 6) (by grind)
  (try simp [xup_at])
  omega
theorem ob_X11_way_258_inv_27 (nb nn : Nat) (town : Int32) (sh : Int32) (i : Int32) (z : Int32) (days : Int32) (what : Int32) (M : xM) (hp0 : ∀ j : Nat, 0 ≤ M 53 0 j ∧ M 53 0 j ≤ 60) (hp1 : mI M) (why : Int32) (day : Int32) (t : Int32) (set_ : Int32) (k : Int32) (n : Nat) (best : Int32) (to : Int32) (N_ : xM) (hmu : xmu to 6 < n + 1) (hinv : 0 ≤ to ∧ 1 ≤ day ∧ day ≤ 6 ∧ 0 ≤ t ∧ t < 6 ∧ 0 ≤ set_ ∧ set_ < 256 ∧ 0 ≤ k ∧ k ≤ z ∧ 1 ≤ z ∧ z ≤ 8 ∧ wI N_ z) (c_12 : ¬ 6 ≤ to) (c_13 : ¬ k = z) (c_23 : ((set_ >>> (k &&& 31)) &&& 1) = 1) (r_24 : Int32) (er_24 : r_24 = xb (f_X11_mayGo day t to N_)) (c_25 : r_24 = 0) (c_26 : 0 ≤ best) (x13_27 : Int32) (ex13_27 : x13_27 = to + 1) : 0 ≤ x13_27 ∧ 1 ≤ day ∧ day ≤ 6 ∧ 0 ≤ t ∧ t < 6 ∧ 0 ≤ set_ ∧ set_ < 256 ∧ 0 ≤ k ∧ k ≤ z ∧ 1 ≤ z ∧ z ≤ 8 ∧ wI N_ z := by
  subst_vars
  grind [isTown_eq, isSheet_eq, in_1_8, in_1_6, in_0_1, xup_at, xb, wI_o, shl9, mI_98, lsOK_s2, wI_of]
theorem ob_X11_way_258_mu_28 (nb nn : Nat) (town : Int32) (sh : Int32) (i : Int32) (z : Int32) (days : Int32) (what : Int32) (M : xM) (hp0 : ∀ j : Nat, 0 ≤ M 53 0 j ∧ M 53 0 j ≤ 60) (hp1 : mI M) (why : Int32) (day : Int32) (t : Int32) (set_ : Int32) (k : Int32) (n : Nat) (best : Int32) (to : Int32) (N_ : xM) (hmu : xmu to 6 < n + 1) (hinv : 0 ≤ to ∧ 1 ≤ day ∧ day ≤ 6 ∧ 0 ≤ t ∧ t < 6 ∧ 0 ≤ set_ ∧ set_ < 256 ∧ 0 ≤ k ∧ k ≤ z ∧ 1 ≤ z ∧ z ≤ 8 ∧ wI N_ z) (c_12 : ¬ 6 ≤ to) (c_13 : ¬ k = z) (c_23 : ((set_ >>> (k &&& 31)) &&& 1) = 1) (r_24 : Int32) (er_24 : r_24 = xb (f_X11_mayGo day t to N_)) (c_25 : r_24 = 0) (c_26 : ¬ 0 ≤ best) (x13_28 : Int32) (ex13_28 : x13_28 = to + 1) : xmu x13_28 6 < n := by
  subst_vars
  have h9 := xmu_up (a := to) (b := 6) (by grind)
  (try simp [xup_at])
  omega
theorem ob_X11_way_258_inv_28 (nb nn : Nat) (town : Int32) (sh : Int32) (i : Int32) (z : Int32) (days : Int32) (what : Int32) (M : xM) (hp0 : ∀ j : Nat, 0 ≤ M 53 0 j ∧ M 53 0 j ≤ 60) (hp1 : mI M) (why : Int32) (day : Int32) (t : Int32) (set_ : Int32) (k : Int32) (n : Nat) (best : Int32) (to : Int32) (N_ : xM) (hmu : xmu to 6 < n + 1) (hinv : 0 ≤ to ∧ 1 ≤ day ∧ day ≤ 6 ∧ 0 ≤ t ∧ t < 6 ∧ 0 ≤ set_ ∧ set_ < 256 ∧ 0 ≤ k ∧ k ≤ z ∧ 1 ≤ z ∧ z ≤ 8 ∧ wI N_ z) (c_12 : ¬ 6 ≤ to) (c_13 : ¬ k = z) (c_23 : ((set_ >>> (k &&& 31)) &&& 1) = 1) (r_24 : Int32) (er_24 : r_24 = xb (f_X11_mayGo day t to N_)) (c_25 : r_24 = 0) (c_26 : ¬ 0 ≤ best) (x13_28 : Int32) (ex13_28 : x13_28 = to + 1) : 0 ≤ x13_28 ∧ 1 ≤ day ∧ day ≤ 6 ∧ 0 ≤ t ∧ t < 6 ∧ 0 ≤ set_ ∧ set_ < 256 ∧ 0 ≤ k ∧ k ≤ z ∧ 1 ≤ z ∧ z ≤ 8 ∧ wI N_ z := by
  subst_vars
  grind [isTown_eq, isSheet_eq, in_1_8, in_1_6, in_0_1, xup_at, xb, wI_o, shl9, mI_98, lsOK_s2, wI_of]
theorem ob_X11_way_309_p0_2 (nb nn : Nat) (town : Int32) (sh : Int32) (i : Int32) (z : Int32) (days : Int32) (what : Int32) (M : xM) (hp0 : ∀ j : Nat, 0 ≤ M 53 0 j ∧ M 53 0 j ≤ 60) (hp1 : mI M) (why : Int32) (day : Int32) (t : Int32) (set_ : Int32) (k : Int32) (n : Nat) (best : Int32) (to : Int32) (N_ : xM) (hmu : xmu to 6 < n + 1) (hinv : 0 ≤ to ∧ 1 ≤ day ∧ day ≤ 6 ∧ 0 ≤ t ∧ t < 6 ∧ 0 ≤ set_ ∧ set_ < 256 ∧ 0 ≤ k ∧ k ≤ z ∧ 1 ≤ z ∧ z ≤ 8 ∧ wI N_ z) (c_12 : ¬ 6 ≤ to) (c_13 : ¬ k = z) (c_23 : ((set_ >>> (k &&& 31)) &&& 1) = 1) (r_24 : Int32) (er_24 : r_24 = xb (f_X11_mayGo day t to N_)) (c_25 : ¬ r_24 = 0) : 1 ≤ day := by
  subst_vars
  grind [isTown_eq, isSheet_eq, in_1_8, in_1_6, in_0_1, xup_at, xb, wI_o, shl9, mI_98, lsOK_s2, wI_of]
theorem ob_X11_way_309_p1_2 (nb nn : Nat) (town : Int32) (sh : Int32) (i : Int32) (z : Int32) (days : Int32) (what : Int32) (M : xM) (hp0 : ∀ j : Nat, 0 ≤ M 53 0 j ∧ M 53 0 j ≤ 60) (hp1 : mI M) (why : Int32) (day : Int32) (t : Int32) (set_ : Int32) (k : Int32) (n : Nat) (best : Int32) (to : Int32) (N_ : xM) (hmu : xmu to 6 < n + 1) (hinv : 0 ≤ to ∧ 1 ≤ day ∧ day ≤ 6 ∧ 0 ≤ t ∧ t < 6 ∧ 0 ≤ set_ ∧ set_ < 256 ∧ 0 ≤ k ∧ k ≤ z ∧ 1 ≤ z ∧ z ≤ 8 ∧ wI N_ z) (c_12 : ¬ 6 ≤ to) (c_13 : ¬ k = z) (c_23 : ((set_ >>> (k &&& 31)) &&& 1) = 1) (r_24 : Int32) (er_24 : r_24 = xb (f_X11_mayGo day t to N_)) (c_25 : ¬ r_24 = 0) : day ≤ 6 := by
  subst_vars
  grind [isTown_eq, isSheet_eq, in_1_8, in_1_6, in_0_1, xup_at, xb, wI_o, shl9, mI_98, lsOK_s2, wI_of]
theorem ob_X11_way_309_p2_2 (nb nn : Nat) (town : Int32) (sh : Int32) (i : Int32) (z : Int32) (days : Int32) (what : Int32) (M : xM) (hp0 : ∀ j : Nat, 0 ≤ M 53 0 j ∧ M 53 0 j ≤ 60) (hp1 : mI M) (why : Int32) (day : Int32) (t : Int32) (set_ : Int32) (k : Int32) (n : Nat) (best : Int32) (to : Int32) (N_ : xM) (hmu : xmu to 6 < n + 1) (hinv : 0 ≤ to ∧ 1 ≤ day ∧ day ≤ 6 ∧ 0 ≤ t ∧ t < 6 ∧ 0 ≤ set_ ∧ set_ < 256 ∧ 0 ≤ k ∧ k ≤ z ∧ 1 ≤ z ∧ z ≤ 8 ∧ wI N_ z) (c_12 : ¬ 6 ≤ to) (c_13 : ¬ k = z) (c_23 : ((set_ >>> (k &&& 31)) &&& 1) = 1) (r_24 : Int32) (er_24 : r_24 = xb (f_X11_mayGo day t to N_)) (c_25 : ¬ r_24 = 0) : 0 ≤ set_ := by
  subst_vars
  grind [isTown_eq, isSheet_eq, in_1_8, in_1_6, in_0_1, xup_at, xb, wI_o, shl9, mI_98, lsOK_s2, wI_of]
theorem ob_X11_way_309_p3_2 (nb nn : Nat) (town : Int32) (sh : Int32) (i : Int32) (z : Int32) (days : Int32) (what : Int32) (M : xM) (hp0 : ∀ j : Nat, 0 ≤ M 53 0 j ∧ M 53 0 j ≤ 60) (hp1 : mI M) (why : Int32) (day : Int32) (t : Int32) (set_ : Int32) (k : Int32) (n : Nat) (best : Int32) (to : Int32) (N_ : xM) (hmu : xmu to 6 < n + 1) (hinv : 0 ≤ to ∧ 1 ≤ day ∧ day ≤ 6 ∧ 0 ≤ t ∧ t < 6 ∧ 0 ≤ set_ ∧ set_ < 256 ∧ 0 ≤ k ∧ k ≤ z ∧ 1 ≤ z ∧ z ≤ 8 ∧ wI N_ z) (c_12 : ¬ 6 ≤ to) (c_13 : ¬ k = z) (c_23 : ((set_ >>> (k &&& 31)) &&& 1) = 1) (r_24 : Int32) (er_24 : r_24 = xb (f_X11_mayGo day t to N_)) (c_25 : ¬ r_24 = 0) : set_ < 256 := by
  subst_vars
  grind [isTown_eq, isSheet_eq, in_1_8, in_1_6, in_0_1, xup_at, xb, wI_o, shl9, mI_98, lsOK_s2, wI_of]
theorem ob_X11_way_309_p4_2 (nb nn : Nat) (town : Int32) (sh : Int32) (i : Int32) (z : Int32) (days : Int32) (what : Int32) (M : xM) (hp0 : ∀ j : Nat, 0 ≤ M 53 0 j ∧ M 53 0 j ≤ 60) (hp1 : mI M) (why : Int32) (day : Int32) (t : Int32) (set_ : Int32) (k : Int32) (n : Nat) (best : Int32) (to : Int32) (N_ : xM) (hmu : xmu to 6 < n + 1) (hinv : 0 ≤ to ∧ 1 ≤ day ∧ day ≤ 6 ∧ 0 ≤ t ∧ t < 6 ∧ 0 ≤ set_ ∧ set_ < 256 ∧ 0 ≤ k ∧ k ≤ z ∧ 1 ≤ z ∧ z ≤ 8 ∧ wI N_ z) (c_12 : ¬ 6 ≤ to) (c_13 : ¬ k = z) (c_23 : ((set_ >>> (k &&& 31)) &&& 1) = 1) (r_24 : Int32) (er_24 : r_24 = xb (f_X11_mayGo day t to N_)) (c_25 : ¬ r_24 = 0) : 0 ≤ t := by
  subst_vars
  grind [isTown_eq, isSheet_eq, in_1_8, in_1_6, in_0_1, xup_at, xb, wI_o, shl9, mI_98, lsOK_s2, wI_of]
theorem ob_X11_way_309_p5_2 (nb nn : Nat) (town : Int32) (sh : Int32) (i : Int32) (z : Int32) (days : Int32) (what : Int32) (M : xM) (hp0 : ∀ j : Nat, 0 ≤ M 53 0 j ∧ M 53 0 j ≤ 60) (hp1 : mI M) (why : Int32) (day : Int32) (t : Int32) (set_ : Int32) (k : Int32) (n : Nat) (best : Int32) (to : Int32) (N_ : xM) (hmu : xmu to 6 < n + 1) (hinv : 0 ≤ to ∧ 1 ≤ day ∧ day ≤ 6 ∧ 0 ≤ t ∧ t < 6 ∧ 0 ≤ set_ ∧ set_ < 256 ∧ 0 ≤ k ∧ k ≤ z ∧ 1 ≤ z ∧ z ≤ 8 ∧ wI N_ z) (c_12 : ¬ 6 ≤ to) (c_13 : ¬ k = z) (c_23 : ((set_ >>> (k &&& 31)) &&& 1) = 1) (r_24 : Int32) (er_24 : r_24 = xb (f_X11_mayGo day t to N_)) (c_25 : ¬ r_24 = 0) : t ≤ 5 := by
  subst_vars
  grind [isTown_eq, isSheet_eq, in_1_8, in_1_6, in_0_1, xup_at, xb, wI_o, shl9, mI_98, lsOK_s2, wI_of]
theorem ob_X11_way_309_p6_2 (nb nn : Nat) (town : Int32) (sh : Int32) (i : Int32) (z : Int32) (days : Int32) (what : Int32) (M : xM) (hp0 : ∀ j : Nat, 0 ≤ M 53 0 j ∧ M 53 0 j ≤ 60) (hp1 : mI M) (why : Int32) (day : Int32) (t : Int32) (set_ : Int32) (k : Int32) (n : Nat) (best : Int32) (to : Int32) (N_ : xM) (hmu : xmu to 6 < n + 1) (hinv : 0 ≤ to ∧ 1 ≤ day ∧ day ≤ 6 ∧ 0 ≤ t ∧ t < 6 ∧ 0 ≤ set_ ∧ set_ < 256 ∧ 0 ≤ k ∧ k ≤ z ∧ 1 ≤ z ∧ z ≤ 8 ∧ wI N_ z) (c_12 : ¬ 6 ≤ to) (c_13 : ¬ k = z) (c_23 : ((set_ >>> (k &&& 31)) &&& 1) = 1) (r_24 : Int32) (er_24 : r_24 = xb (f_X11_mayGo day t to N_)) (c_25 : ¬ r_24 = 0) : 0 ≤ k := by
  subst_vars
  grind [isTown_eq, isSheet_eq, in_1_8, in_1_6, in_0_1, xup_at, xb, wI_o, shl9, mI_98, lsOK_s2, wI_of]
theorem ob_X11_way_309_p7_2 (nb nn : Nat) (town : Int32) (sh : Int32) (i : Int32) (z : Int32) (days : Int32) (what : Int32) (M : xM) (hp0 : ∀ j : Nat, 0 ≤ M 53 0 j ∧ M 53 0 j ≤ 60) (hp1 : mI M) (why : Int32) (day : Int32) (t : Int32) (set_ : Int32) (k : Int32) (n : Nat) (best : Int32) (to : Int32) (N_ : xM) (hmu : xmu to 6 < n + 1) (hinv : 0 ≤ to ∧ 1 ≤ day ∧ day ≤ 6 ∧ 0 ≤ t ∧ t < 6 ∧ 0 ≤ set_ ∧ set_ < 256 ∧ 0 ≤ k ∧ k ≤ z ∧ 1 ≤ z ∧ z ≤ 8 ∧ wI N_ z) (c_12 : ¬ 6 ≤ to) (c_13 : ¬ k = z) (c_23 : ((set_ >>> (k &&& 31)) &&& 1) = 1) (r_24 : Int32) (er_24 : r_24 = xb (f_X11_mayGo day t to N_)) (c_25 : ¬ r_24 = 0) : k ≤ z := by
  subst_vars
  grind [isTown_eq, isSheet_eq, in_1_8, in_1_6, in_0_1, xup_at, xb, wI_o, shl9, mI_98, lsOK_s2, wI_of]
theorem ob_X11_way_309_p8_2 (nb nn : Nat) (town : Int32) (sh : Int32) (i : Int32) (z : Int32) (days : Int32) (what : Int32) (M : xM) (hp0 : ∀ j : Nat, 0 ≤ M 53 0 j ∧ M 53 0 j ≤ 60) (hp1 : mI M) (why : Int32) (day : Int32) (t : Int32) (set_ : Int32) (k : Int32) (n : Nat) (best : Int32) (to : Int32) (N_ : xM) (hmu : xmu to 6 < n + 1) (hinv : 0 ≤ to ∧ 1 ≤ day ∧ day ≤ 6 ∧ 0 ≤ t ∧ t < 6 ∧ 0 ≤ set_ ∧ set_ < 256 ∧ 0 ≤ k ∧ k ≤ z ∧ 1 ≤ z ∧ z ≤ 8 ∧ wI N_ z) (c_12 : ¬ 6 ≤ to) (c_13 : ¬ k = z) (c_23 : ((set_ >>> (k &&& 31)) &&& 1) = 1) (r_24 : Int32) (er_24 : r_24 = xb (f_X11_mayGo day t to N_)) (c_25 : ¬ r_24 = 0) : z ≤ 8 := by
  subst_vars
  grind [isTown_eq, isSheet_eq, in_1_8, in_1_6, in_0_1, xup_at, xb, wI_o, shl9, mI_98, lsOK_s2, wI_of]
theorem ob_X11_way_309_p9_2 (nb nn : Nat) (town : Int32) (sh : Int32) (i : Int32) (z : Int32) (days : Int32) (what : Int32) (M : xM) (hp0 : ∀ j : Nat, 0 ≤ M 53 0 j ∧ M 53 0 j ≤ 60) (hp1 : mI M) (why : Int32) (day : Int32) (t : Int32) (set_ : Int32) (k : Int32) (n : Nat) (best : Int32) (to : Int32) (N_ : xM) (hmu : xmu to 6 < n + 1) (hinv : 0 ≤ to ∧ 1 ≤ day ∧ day ≤ 6 ∧ 0 ≤ t ∧ t < 6 ∧ 0 ≤ set_ ∧ set_ < 256 ∧ 0 ≤ k ∧ k ≤ z ∧ 1 ≤ z ∧ z ≤ 8 ∧ wI N_ z) (c_12 : ¬ 6 ≤ to) (c_13 : ¬ k = z) (c_23 : ((set_ >>> (k &&& 31)) &&& 1) = 1) (r_24 : Int32) (er_24 : r_24 = xb (f_X11_mayGo day t to N_)) (c_25 : ¬ r_24 = 0) : 0 ≤ to := by
  subst_vars
  grind [isTown_eq, isSheet_eq, in_1_8, in_1_6, in_0_1, xup_at, xb, wI_o, shl9, mI_98, lsOK_s2, wI_of]
theorem ob_X11_way_309_p10_2 (nb nn : Nat) (town : Int32) (sh : Int32) (i : Int32) (z : Int32) (days : Int32) (what : Int32) (M : xM) (hp0 : ∀ j : Nat, 0 ≤ M 53 0 j ∧ M 53 0 j ≤ 60) (hp1 : mI M) (why : Int32) (day : Int32) (t : Int32) (set_ : Int32) (k : Int32) (n : Nat) (best : Int32) (to : Int32) (N_ : xM) (hmu : xmu to 6 < n + 1) (hinv : 0 ≤ to ∧ 1 ≤ day ∧ day ≤ 6 ∧ 0 ≤ t ∧ t < 6 ∧ 0 ≤ set_ ∧ set_ < 256 ∧ 0 ≤ k ∧ k ≤ z ∧ 1 ≤ z ∧ z ≤ 8 ∧ wI N_ z) (c_12 : ¬ 6 ≤ to) (c_13 : ¬ k = z) (c_23 : ((set_ >>> (k &&& 31)) &&& 1) = 1) (r_24 : Int32) (er_24 : r_24 = xb (f_X11_mayGo day t to N_)) (c_25 : ¬ r_24 = 0) : to ≤ 5 := by
  subst_vars
  grind [isTown_eq, isSheet_eq, in_1_8, in_1_6, in_0_1, xup_at, xb, wI_o, shl9, mI_98, lsOK_s2, wI_of]
theorem ob_X11_way_309_p11_2 (nb nn : Nat) (town : Int32) (sh : Int32) (i : Int32) (z : Int32) (days : Int32) (what : Int32) (M : xM) (hp0 : ∀ j : Nat, 0 ≤ M 53 0 j ∧ M 53 0 j ≤ 60) (hp1 : mI M) (why : Int32) (day : Int32) (t : Int32) (set_ : Int32) (k : Int32) (n : Nat) (best : Int32) (to : Int32) (N_ : xM) (hmu : xmu to 6 < n + 1) (hinv : 0 ≤ to ∧ 1 ≤ day ∧ day ≤ 6 ∧ 0 ≤ t ∧ t < 6 ∧ 0 ≤ set_ ∧ set_ < 256 ∧ 0 ≤ k ∧ k ≤ z ∧ 1 ≤ z ∧ z ≤ 8 ∧ wI N_ z) (c_12 : ¬ 6 ≤ to) (c_13 : ¬ k = z) (c_23 : ((set_ >>> (k &&& 31)) &&& 1) = 1) (r_24 : Int32) (er_24 : r_24 = xb (f_X11_mayGo day t to N_)) (c_25 : ¬ r_24 = 0) : wI N_ z := by
  subst_vars
  grind [isTown_eq, isSheet_eq, in_1_8, in_1_6, in_0_1, xup_at, xb, wI_o, shl9, mI_98, lsOK_s2, wI_of]
theorem ob_X11_way_258_mu_31 (nb nn : Nat) (town : Int32) (sh : Int32) (i : Int32) (z : Int32) (days : Int32) (what : Int32) (M : xM) (hp0 : ∀ j : Nat, 0 ≤ M 53 0 j ∧ M 53 0 j ≤ 60) (hp1 : mI M) (why : Int32) (day : Int32) (t : Int32) (set_ : Int32) (k : Int32) (n : Nat) (best : Int32) (to : Int32) (N_ : xM) (hmu : xmu to 6 < n + 1) (hinv : 0 ≤ to ∧ 1 ≤ day ∧ day ≤ 6 ∧ 0 ≤ t ∧ t < 6 ∧ 0 ≤ set_ ∧ set_ < 256 ∧ 0 ≤ k ∧ k ≤ z ∧ 1 ≤ z ∧ z ≤ 8 ∧ wI N_ z) (c_12 : ¬ 6 ≤ to) (c_13 : ¬ k = z) (c_23 : ((set_ >>> (k &&& 31)) &&& 1) = 1) (r_24 : Int32) (er_24 : r_24 = xb (f_X11_mayGo day t to N_)) (c_25 : ¬ r_24 = 0) (r_29 : Int32) (er_29 : r_29 = f_X11_goesBy day set_ t k z to N_) (c_30 : r_29 ≤ best) (x13_31 : Int32) (ex13_31 : x13_31 = to + 1) : xmu x13_31 6 < n := by
  subst_vars
  have h9 := xmu_up (a := to) (b := 6) (by grind)
  (try simp [xup_at])
  omega
theorem ob_X11_way_258_inv_31 (nb nn : Nat) (town : Int32) (sh : Int32) (i : Int32) (z : Int32) (days : Int32) (what : Int32) (M : xM) (hp0 : ∀ j : Nat, 0 ≤ M 53 0 j ∧ M 53 0 j ≤ 60) (hp1 : mI M) (why : Int32) (day : Int32) (t : Int32) (set_ : Int32) (k : Int32) (n : Nat) (best : Int32) (to : Int32) (N_ : xM) (hmu : xmu to 6 < n + 1) (hinv : 0 ≤ to ∧ 1 ≤ day ∧ day ≤ 6 ∧ 0 ≤ t ∧ t < 6 ∧ 0 ≤ set_ ∧ set_ < 256 ∧ 0 ≤ k ∧ k ≤ z ∧ 1 ≤ z ∧ z ≤ 8 ∧ wI N_ z) (c_12 : ¬ 6 ≤ to) (c_13 : ¬ k = z) (c_23 : ((set_ >>> (k &&& 31)) &&& 1) = 1) (r_24 : Int32) (er_24 : r_24 = xb (f_X11_mayGo day t to N_)) (c_25 : ¬ r_24 = 0) (r_29 : Int32) (er_29 : r_29 = f_X11_goesBy day set_ t k z to N_) (c_30 : r_29 ≤ best) (x13_31 : Int32) (ex13_31 : x13_31 = to + 1) : 0 ≤ x13_31 ∧ 1 ≤ day ∧ day ≤ 6 ∧ 0 ≤ t ∧ t < 6 ∧ 0 ≤ set_ ∧ set_ < 256 ∧ 0 ≤ k ∧ k ≤ z ∧ 1 ≤ z ∧ z ≤ 8 ∧ wI N_ z := by
  subst_vars
  grind [isTown_eq, isSheet_eq, in_1_8, in_1_6, in_0_1, xup_at, xb, wI_o, shl9, mI_98, lsOK_s2, wI_of]
theorem ob_X11_way_258_mu_32 (nb nn : Nat) (town : Int32) (sh : Int32) (i : Int32) (z : Int32) (days : Int32) (what : Int32) (M : xM) (hp0 : ∀ j : Nat, 0 ≤ M 53 0 j ∧ M 53 0 j ≤ 60) (hp1 : mI M) (why : Int32) (day : Int32) (t : Int32) (set_ : Int32) (k : Int32) (n : Nat) (best : Int32) (to : Int32) (N_ : xM) (hmu : xmu to 6 < n + 1) (hinv : 0 ≤ to ∧ 1 ≤ day ∧ day ≤ 6 ∧ 0 ≤ t ∧ t < 6 ∧ 0 ≤ set_ ∧ set_ < 256 ∧ 0 ≤ k ∧ k ≤ z ∧ 1 ≤ z ∧ z ≤ 8 ∧ wI N_ z) (c_12 : ¬ 6 ≤ to) (c_13 : ¬ k = z) (c_23 : ((set_ >>> (k &&& 31)) &&& 1) = 1) (r_24 : Int32) (er_24 : r_24 = xb (f_X11_mayGo day t to N_)) (c_25 : ¬ r_24 = 0) (r_29 : Int32) (er_29 : r_29 = f_X11_goesBy day set_ t k z to N_) (c_30 : ¬ r_29 ≤ best) (x13_32 : Int32) (ex13_32 : x13_32 = to + 1) : xmu x13_32 6 < n := by
  subst_vars
  have h9 := xmu_up (a := to) (b := 6) (by grind)
  (try simp [xup_at])
  omega
theorem ob_X11_way_258_inv_32 (nb nn : Nat) (town : Int32) (sh : Int32) (i : Int32) (z : Int32) (days : Int32) (what : Int32) (M : xM) (hp0 : ∀ j : Nat, 0 ≤ M 53 0 j ∧ M 53 0 j ≤ 60) (hp1 : mI M) (why : Int32) (day : Int32) (t : Int32) (set_ : Int32) (k : Int32) (n : Nat) (best : Int32) (to : Int32) (N_ : xM) (hmu : xmu to 6 < n + 1) (hinv : 0 ≤ to ∧ 1 ≤ day ∧ day ≤ 6 ∧ 0 ≤ t ∧ t < 6 ∧ 0 ≤ set_ ∧ set_ < 256 ∧ 0 ≤ k ∧ k ≤ z ∧ 1 ≤ z ∧ z ≤ 8 ∧ wI N_ z) (c_12 : ¬ 6 ≤ to) (c_13 : ¬ k = z) (c_23 : ((set_ >>> (k &&& 31)) &&& 1) = 1) (r_24 : Int32) (er_24 : r_24 = xb (f_X11_mayGo day t to N_)) (c_25 : ¬ r_24 = 0) (r_29 : Int32) (er_29 : r_29 = f_X11_goesBy day set_ t k z to N_) (c_30 : ¬ r_29 ≤ best) (x13_32 : Int32) (ex13_32 : x13_32 = to + 1) : 0 ≤ x13_32 ∧ 1 ≤ day ∧ day ≤ 6 ∧ 0 ≤ t ∧ t < 6 ∧ 0 ≤ set_ ∧ set_ < 256 ∧ 0 ≤ k ∧ k ≤ z ∧ 1 ≤ z ∧ z ≤ 8 ∧ wI N_ z := by
  subst_vars
  grind [isTown_eq, isSheet_eq, in_1_8, in_1_6, in_0_1, xup_at, xb, wI_o, shl9, mI_98, lsOK_s2, wI_of]
theorem ob_X11_way_346_x248 (nb nn : Nat) (town : Int32) (sh : Int32) (i : Int32) (z : Int32) (days : Int32) (what : Int32) (M : xM) (hp0 : ∀ j : Nat, 0 ≤ M 53 0 j ∧ M 53 0 j ≤ 60) (hp1 : mI M) (why : Int32) (day : Int32) (t : Int32) (set_ : Int32) (n : Nat) (best : Int32) (k : Int32) (N_ : xM) (hmu : xmu k (z + 1) < n + 1) (hinv : 1 ≤ day ∧ day ≤ 6 ∧ 0 ≤ t ∧ t < 6 ∧ 0 ≤ set_ ∧ set_ < 256 ∧ 0 ≤ k ∧ 1 ≤ z ∧ z ≤ 8 ∧ wI N_ z) (c_33 : z < k) : 1 ≤ day ∧ day ≤ 6 ∧ 0 ≤ t ∧ t < 6 ∧ 0 ≤ set_ ∧ set_ < 256 ∧ 0 ≤ k ∧ 1 ≤ z ∧ z ≤ 8 ∧ wI N_ z := by
  subst_vars
  grind [isTown_eq, isSheet_eq, in_1_8, in_1_6, in_0_1, xup_at, xb, wI_o, shl9, mI_98, lsOK_s2, wI_of]
theorem ob_X11_way_258_ini_33 (nb nn : Nat) (town : Int32) (sh : Int32) (i : Int32) (z : Int32) (days : Int32) (what : Int32) (M : xM) (hp0 : ∀ j : Nat, 0 ≤ M 53 0 j ∧ M 53 0 j ≤ 60) (hp1 : mI M) (why : Int32) (day : Int32) (t : Int32) (set_ : Int32) (n : Nat) (best : Int32) (k : Int32) (N_ : xM) (hmu : xmu k (z + 1) < n + 1) (hinv : 1 ≤ day ∧ day ≤ 6 ∧ 0 ≤ t ∧ t < 6 ∧ 0 ≤ set_ ∧ set_ < 256 ∧ 0 ≤ k ∧ 1 ≤ z ∧ z ≤ 8 ∧ wI N_ z) (c_33 : ¬ z < k) : 0 ≤ (0 : Int32) ∧ 1 ≤ day ∧ day ≤ 6 ∧ 0 ≤ t ∧ t < 6 ∧ 0 ≤ set_ ∧ set_ < 256 ∧ 0 ≤ k ∧ k ≤ z ∧ 1 ≤ z ∧ z ≤ 8 ∧ wI N_ z := by
  subst_vars
  grind [isTown_eq, isSheet_eq, in_1_8, in_1_6, in_0_1, xup_at, xb, wI_o, shl9, mI_98, lsOK_s2, wI_of]
theorem ob_X11_way_248_mu_36 (nb nn : Nat) (town : Int32) (sh : Int32) (i : Int32) (z : Int32) (days : Int32) (what : Int32) (M : xM) (hp0 : ∀ j : Nat, 0 ≤ M 53 0 j ∧ M 53 0 j ≤ 60) (hp1 : mI M) (why : Int32) (day : Int32) (t : Int32) (set_ : Int32) (n : Nat) (best : Int32) (k : Int32) (N_ : xM) (hmu : xmu k (z + 1) < n + 1) (hinv : 1 ≤ day ∧ day ≤ 6 ∧ 0 ≤ t ∧ t < 6 ∧ 0 ≤ set_ ∧ set_ < 256 ∧ 0 ≤ k ∧ 1 ≤ z ∧ z ≤ 8 ∧ wI N_ z) (c_33 : ¬ z < k) (best_34 : Int32) (to_35 : Int32) (hiv_35 : 0 ≤ to_35 ∧ 1 ≤ day ∧ day ≤ 6 ∧ 0 ≤ t ∧ t < 6 ∧ 0 ≤ set_ ∧ set_ < 256 ∧ 0 ≤ k ∧ k ≤ z ∧ 1 ≤ z ∧ z ≤ 8 ∧ wI N_ z) (x12_36 : Int32) (ex12_36 : x12_36 = k + 1) : xmu x12_36 (z + 1) < n := by
  subst_vars
  have h9 := xmu_up (a := k) (b := (z + 1)) (by grind)
  (try simp [xup_at])
  omega
theorem ob_X11_way_248_inv_36 (nb nn : Nat) (town : Int32) (sh : Int32) (i : Int32) (z : Int32) (days : Int32) (what : Int32) (M : xM) (hp0 : ∀ j : Nat, 0 ≤ M 53 0 j ∧ M 53 0 j ≤ 60) (hp1 : mI M) (why : Int32) (day : Int32) (t : Int32) (set_ : Int32) (n : Nat) (best : Int32) (k : Int32) (N_ : xM) (hmu : xmu k (z + 1) < n + 1) (hinv : 1 ≤ day ∧ day ≤ 6 ∧ 0 ≤ t ∧ t < 6 ∧ 0 ≤ set_ ∧ set_ < 256 ∧ 0 ≤ k ∧ 1 ≤ z ∧ z ≤ 8 ∧ wI N_ z) (c_33 : ¬ z < k) (best_34 : Int32) (to_35 : Int32) (hiv_35 : 0 ≤ to_35 ∧ 1 ≤ day ∧ day ≤ 6 ∧ 0 ≤ t ∧ t < 6 ∧ 0 ≤ set_ ∧ set_ < 256 ∧ 0 ≤ k ∧ k ≤ z ∧ 1 ≤ z ∧ z ≤ 8 ∧ wI N_ z) (x12_36 : Int32) (ex12_36 : x12_36 = k + 1) : 1 ≤ day ∧ day ≤ 6 ∧ 0 ≤ t ∧ t < 6 ∧ 0 ≤ set_ ∧ set_ < 256 ∧ 0 ≤ x12_36 ∧ 1 ≤ z ∧ z ≤ 8 ∧ wI N_ z := by
  subst_vars
  grind [isTown_eq, isSheet_eq, in_1_8, in_1_6, in_0_1, xup_at, xb, wI_o, shl9, mI_98, lsOK_s2, wI_of]
theorem ob_X11_way_375_x233 (nb nn : Nat) (town : Int32) (sh : Int32) (i : Int32) (z : Int32) (days : Int32) (what : Int32) (M : xM) (hp0 : ∀ j : Nat, 0 ≤ M 53 0 j ∧ M 53 0 j ≤ 60) (hp1 : mI M) (why : Int32) (day : Int32) (t : Int32) (n : Nat) (set_ : Int32) (N_ : xM) (hmu : xmu set_ (1 <<< (z &&& 31)) < n + 1) (hinv : 1 ≤ day ∧ day ≤ 6 ∧ 0 ≤ t ∧ t < 6 ∧ 0 ≤ set_ ∧ 1 ≤ z ∧ z ≤ 8 ∧ wI N_ z) (c_37 : (1 <<< (z &&& 31)) ≤ set_) : 1 ≤ day ∧ day ≤ 6 ∧ 0 ≤ t ∧ t < 6 ∧ 0 ≤ set_ ∧ 1 ≤ z ∧ z ≤ 8 ∧ wI N_ z := by
  subst_vars
  grind [isTown_eq, isSheet_eq, in_1_8, in_1_6, in_0_1, xup_at, xb, wI_o, shl9, mI_98, lsOK_s2, wI_of]
theorem ob_X11_way_248_ini_37 (nb nn : Nat) (town : Int32) (sh : Int32) (i : Int32) (z : Int32) (days : Int32) (what : Int32) (M : xM) (hp0 : ∀ j : Nat, 0 ≤ M 53 0 j ∧ M 53 0 j ≤ 60) (hp1 : mI M) (why : Int32) (day : Int32) (t : Int32) (n : Nat) (set_ : Int32) (N_ : xM) (hmu : xmu set_ (1 <<< (z &&& 31)) < n + 1) (hinv : 1 ≤ day ∧ day ≤ 6 ∧ 0 ≤ t ∧ t < 6 ∧ 0 ≤ set_ ∧ 1 ≤ z ∧ z ≤ 8 ∧ wI N_ z) (c_37 : ¬ (1 <<< (z &&& 31)) ≤ set_) : 1 ≤ day ∧ day ≤ 6 ∧ 0 ≤ t ∧ t < 6 ∧ 0 ≤ set_ ∧ set_ < 256 ∧ 0 ≤ (0 : Int32) ∧ 1 ≤ z ∧ z ≤ 8 ∧ wI N_ z := by
  subst_vars
  grind [isTown_eq, isSheet_eq, in_1_8, in_1_6, in_0_1, xup_at, xb, wI_o, shl9, mI_98, lsOK_s2, wI_of]
theorem ob_X11_way_368_in (nb nn : Nat) (town : Int32) (sh : Int32) (i : Int32) (z : Int32) (days : Int32) (what : Int32) (M : xM) (hp0 : ∀ j : Nat, 0 ≤ M 53 0 j ∧ M 53 0 j ≤ 60) (hp1 : mI M) (why : Int32) (day : Int32) (t : Int32) (n : Nat) (set_ : Int32) (N_ : xM) (hmu : xmu set_ (1 <<< (z &&& 31)) < n + 1) (hinv : 1 ≤ day ∧ day ≤ 6 ∧ 0 ≤ t ∧ t < 6 ∧ 0 ≤ set_ ∧ 1 ≤ z ∧ z ≤ 8 ∧ wI N_ z) (c_37 : ¬ (1 <<< (z &&& 31)) ≤ set_) (best_38 : Int32) (k_39 : Int32) (hiv_39 : 1 ≤ day ∧ day ≤ 6 ∧ 0 ≤ t ∧ t < 6 ∧ 0 ≤ set_ ∧ set_ < 256 ∧ 0 ≤ k_39 ∧ 1 ≤ z ∧ z ≤ 8 ∧ wI N_ z) : vp_in (((1536 * day) + (256 * t)) + set_) 10752 := by
  subst_vars
  exact xin (N := 10752) (by grind [isTown_eq, isSheet_eq, in_1_8, in_1_6, in_0_1, xup_at, xb, wI_o, shl9, mI_98, lsOK_s2, wI_of]) (by grind [isTown_eq, isSheet_eq, in_1_8, in_1_6, in_0_1, xup_at, xb, wI_o, shl9, mI_98, lsOK_s2, wI_of]) (by decide)
theorem ob_X11_way_233_mu_41 (nb nn : Nat) (town : Int32) (sh : Int32) (i : Int32) (z : Int32) (days : Int32) (what : Int32) (M : xM) (hp0 : ∀ j : Nat, 0 ≤ M 53 0 j ∧ M 53 0 j ≤ 60) (hp1 : mI M) (why : Int32) (day : Int32) (t : Int32) (n : Nat) (set_ : Int32) (N_ : xM) (hmu : xmu set_ (1 <<< (z &&& 31)) < n + 1) (hinv : 1 ≤ day ∧ day ≤ 6 ∧ 0 ≤ t ∧ t < 6 ∧ 0 ≤ set_ ∧ 1 ≤ z ∧ z ≤ 8 ∧ wI N_ z) (c_37 : ¬ (1 <<< (z &&& 31)) ≤ set_) (best_38 : Int32) (k_39 : Int32) (hiv_39 : 1 ≤ day ∧ day ≤ 6 ∧ 0 ≤ t ∧ t < 6 ∧ 0 ≤ set_ ∧ set_ < 256 ∧ 0 ≤ k_39 ∧ 1 ≤ z ∧ z ≤ 8 ∧ wI N_ z) (M_40 : xM) (eM_40 : M_40 = xup N_ 97 0 (((1536 * day) + (256 * t)) + set_).toNatClampNeg best_38) (x10_41 : Int32) (ex10_41 : x10_41 = set_ + 1) : xmu x10_41 (1 <<< (z &&& 31)) < n := by
  subst_vars
  have h9 := xmu_up (a := set_) (b := (1 <<< (z &&& 31))) (by grind)
  (try simp [xup_at])
  omega
theorem ob_X11_way_233_inv_41 (nb nn : Nat) (town : Int32) (sh : Int32) (i : Int32) (z : Int32) (days : Int32) (what : Int32) (M : xM) (hp0 : ∀ j : Nat, 0 ≤ M 53 0 j ∧ M 53 0 j ≤ 60) (hp1 : mI M) (why : Int32) (day : Int32) (t : Int32) (n : Nat) (set_ : Int32) (N_ : xM) (hmu : xmu set_ (1 <<< (z &&& 31)) < n + 1) (hinv : 1 ≤ day ∧ day ≤ 6 ∧ 0 ≤ t ∧ t < 6 ∧ 0 ≤ set_ ∧ 1 ≤ z ∧ z ≤ 8 ∧ wI N_ z) (c_37 : ¬ (1 <<< (z &&& 31)) ≤ set_) (best_38 : Int32) (k_39 : Int32) (hiv_39 : 1 ≤ day ∧ day ≤ 6 ∧ 0 ≤ t ∧ t < 6 ∧ 0 ≤ set_ ∧ set_ < 256 ∧ 0 ≤ k_39 ∧ 1 ≤ z ∧ z ≤ 8 ∧ wI N_ z) (M_40 : xM) (eM_40 : M_40 = xup N_ 97 0 (((1536 * day) + (256 * t)) + set_).toNatClampNeg best_38) (x10_41 : Int32) (ex10_41 : x10_41 = set_ + 1) : 1 ≤ day ∧ day ≤ 6 ∧ 0 ≤ t ∧ t < 6 ∧ 0 ≤ x10_41 ∧ 1 ≤ z ∧ z ≤ 8 ∧ wI M_40 z := by
  subst_vars
  grind [isTown_eq, isSheet_eq, in_1_8, in_1_6, in_0_1, xup_at, xb, wI_o, shl9, mI_98, lsOK_s2, wI_of]
theorem ob_X11_way_381_x223 (nb nn : Nat) (town : Int32) (sh : Int32) (i : Int32) (z : Int32) (days : Int32) (what : Int32) (M : xM) (hp0 : ∀ j : Nat, 0 ≤ M 53 0 j ∧ M 53 0 j ≤ 60) (hp1 : mI M) (why : Int32) (day : Int32) (n : Nat) (t : Int32) (N_ : xM) (hmu : xmu t 6 < n + 1) (hinv : 1 ≤ day ∧ day ≤ 6 ∧ 0 ≤ t ∧ 1 ≤ z ∧ z ≤ 8 ∧ wI N_ z) (c_42 : 6 ≤ t) : 1 ≤ day ∧ day ≤ 6 ∧ 0 ≤ t ∧ 1 ≤ z ∧ z ≤ 8 ∧ wI N_ z := by
  subst_vars
  grind [isTown_eq, isSheet_eq, in_1_8, in_1_6, in_0_1, xup_at, xb, wI_o, shl9, mI_98, lsOK_s2, wI_of]
theorem ob_X11_way_233_ini_42 (nb nn : Nat) (town : Int32) (sh : Int32) (i : Int32) (z : Int32) (days : Int32) (what : Int32) (M : xM) (hp0 : ∀ j : Nat, 0 ≤ M 53 0 j ∧ M 53 0 j ≤ 60) (hp1 : mI M) (why : Int32) (day : Int32) (n : Nat) (t : Int32) (N_ : xM) (hmu : xmu t 6 < n + 1) (hinv : 1 ≤ day ∧ day ≤ 6 ∧ 0 ≤ t ∧ 1 ≤ z ∧ z ≤ 8 ∧ wI N_ z) (c_42 : ¬ 6 ≤ t) : 1 ≤ day ∧ day ≤ 6 ∧ 0 ≤ t ∧ t < 6 ∧ 0 ≤ (0 : Int32) ∧ 1 ≤ z ∧ z ≤ 8 ∧ wI N_ z := by
  subst_vars
  grind [isTown_eq, isSheet_eq, in_1_8, in_1_6, in_0_1, xup_at, xb, wI_o, shl9, mI_98, lsOK_s2, wI_of]
theorem ob_X11_way_223_mu_45 (nb nn : Nat) (town : Int32) (sh : Int32) (i : Int32) (z : Int32) (days : Int32) (what : Int32) (M : xM) (hp0 : ∀ j : Nat, 0 ≤ M 53 0 j ∧ M 53 0 j ≤ 60) (hp1 : mI M) (why : Int32) (day : Int32) (n : Nat) (t : Int32) (N_ : xM) (hmu : xmu t 6 < n + 1) (hinv : 1 ≤ day ∧ day ≤ 6 ∧ 0 ≤ t ∧ 1 ≤ z ∧ z ≤ 8 ∧ wI N_ z) (c_42 : ¬ 6 ≤ t) (set__43 : Int32) (M_44 : xM) (hiv_44 : 1 ≤ day ∧ day ≤ 6 ∧ 0 ≤ t ∧ t < 6 ∧ 0 ≤ set__43 ∧ 1 ≤ z ∧ z ≤ 8 ∧ wI M_44 z) (x9_45 : Int32) (ex9_45 : x9_45 = t + 1) : xmu x9_45 6 < n := by
  subst_vars
  have h9 := xmu_up (a := t) (b := 6) (by grind)
  (try simp [xup_at])
  omega
theorem ob_X11_way_223_inv_45 (nb nn : Nat) (town : Int32) (sh : Int32) (i : Int32) (z : Int32) (days : Int32) (what : Int32) (M : xM) (hp0 : ∀ j : Nat, 0 ≤ M 53 0 j ∧ M 53 0 j ≤ 60) (hp1 : mI M) (why : Int32) (day : Int32) (n : Nat) (t : Int32) (N_ : xM) (hmu : xmu t 6 < n + 1) (hinv : 1 ≤ day ∧ day ≤ 6 ∧ 0 ≤ t ∧ 1 ≤ z ∧ z ≤ 8 ∧ wI N_ z) (c_42 : ¬ 6 ≤ t) (set__43 : Int32) (M_44 : xM) (hiv_44 : 1 ≤ day ∧ day ≤ 6 ∧ 0 ≤ t ∧ t < 6 ∧ 0 ≤ set__43 ∧ 1 ≤ z ∧ z ≤ 8 ∧ wI M_44 z) (x9_45 : Int32) (ex9_45 : x9_45 = t + 1) : 1 ≤ day ∧ day ≤ 6 ∧ 0 ≤ x9_45 ∧ 1 ≤ z ∧ z ≤ 8 ∧ wI M_44 z := by
  subst_vars
  grind [isTown_eq, isSheet_eq, in_1_8, in_1_6, in_0_1, xup_at, xb, wI_o, shl9, mI_98, lsOK_s2, wI_of]
theorem ob_X11_way_387_x213 (nb nn : Nat) (town : Int32) (sh : Int32) (i : Int32) (z : Int32) (days : Int32) (what : Int32) (M : xM) (hp0 : ∀ j : Nat, 0 ≤ M 53 0 j ∧ M 53 0 j ≤ 60) (hp1 : mI M) (why : Int32) (n : Nat) (day : Int32) (N_ : xM) (hmu : xmu day (days + 1) < n + 1) (hinv : 1 ≤ day ∧ days ≤ 6 ∧ 1 ≤ days ∧ 1 ≤ z ∧ z ≤ 8 ∧ wI N_ z) (c_46 : days < day) : 1 ≤ day ∧ days ≤ 6 ∧ 1 ≤ days ∧ 1 ≤ z ∧ z ≤ 8 ∧ wI N_ z := by
  subst_vars
  grind [isTown_eq, isSheet_eq, in_1_8, in_1_6, in_0_1, xup_at, xb, wI_o, shl9, mI_98, lsOK_s2, wI_of]
theorem ob_X11_way_223_ini_46 (nb nn : Nat) (town : Int32) (sh : Int32) (i : Int32) (z : Int32) (days : Int32) (what : Int32) (M : xM) (hp0 : ∀ j : Nat, 0 ≤ M 53 0 j ∧ M 53 0 j ≤ 60) (hp1 : mI M) (why : Int32) (n : Nat) (day : Int32) (N_ : xM) (hmu : xmu day (days + 1) < n + 1) (hinv : 1 ≤ day ∧ days ≤ 6 ∧ 1 ≤ days ∧ 1 ≤ z ∧ z ≤ 8 ∧ wI N_ z) (c_46 : ¬ days < day) : 1 ≤ day ∧ day ≤ 6 ∧ 0 ≤ (0 : Int32) ∧ 1 ≤ z ∧ z ≤ 8 ∧ wI N_ z := by
  subst_vars
  grind [isTown_eq, isSheet_eq, in_1_8, in_1_6, in_0_1, xup_at, xb, wI_o, shl9, mI_98, lsOK_s2, wI_of]
theorem ob_X11_way_213_mu_49 (nb nn : Nat) (town : Int32) (sh : Int32) (i : Int32) (z : Int32) (days : Int32) (what : Int32) (M : xM) (hp0 : ∀ j : Nat, 0 ≤ M 53 0 j ∧ M 53 0 j ≤ 60) (hp1 : mI M) (why : Int32) (n : Nat) (day : Int32) (N_ : xM) (hmu : xmu day (days + 1) < n + 1) (hinv : 1 ≤ day ∧ days ≤ 6 ∧ 1 ≤ days ∧ 1 ≤ z ∧ z ≤ 8 ∧ wI N_ z) (c_46 : ¬ days < day) (t_47 : Int32) (M_48 : xM) (hiv_48 : 1 ≤ day ∧ day ≤ 6 ∧ 0 ≤ t_47 ∧ 1 ≤ z ∧ z ≤ 8 ∧ wI M_48 z) (x8_49 : Int32) (ex8_49 : x8_49 = day + 1) : xmu x8_49 (days + 1) < n := by
  subst_vars
  have h9 := xmu_up (a := day) (b := (days + 1)) (by grind)
  (try simp [xup_at])
  omega
theorem ob_X11_way_213_inv_49 (nb nn : Nat) (town : Int32) (sh : Int32) (i : Int32) (z : Int32) (days : Int32) (what : Int32) (M : xM) (hp0 : ∀ j : Nat, 0 ≤ M 53 0 j ∧ M 53 0 j ≤ 60) (hp1 : mI M) (why : Int32) (n : Nat) (day : Int32) (N_ : xM) (hmu : xmu day (days + 1) < n + 1) (hinv : 1 ≤ day ∧ days ≤ 6 ∧ 1 ≤ days ∧ 1 ≤ z ∧ z ≤ 8 ∧ wI N_ z) (c_46 : ¬ days < day) (t_47 : Int32) (M_48 : xM) (hiv_48 : 1 ≤ day ∧ day ≤ 6 ∧ 0 ≤ t_47 ∧ 1 ≤ z ∧ z ≤ 8 ∧ wI M_48 z) (x8_49 : Int32) (ex8_49 : x8_49 = day + 1) : 1 ≤ x8_49 ∧ days ≤ 6 ∧ 1 ≤ days ∧ 1 ≤ z ∧ z ≤ 8 ∧ wI M_48 z := by
  subst_vars
  grind [isTown_eq, isSheet_eq, in_1_8, in_1_6, in_0_1, xup_at, xb, wI_o, shl9, mI_98, lsOK_s2, wI_of]
theorem ob_X11_way_210_x188 (nb nn : Nat) (town : Int32) (sh : Int32) (i : Int32) (z : Int32) (days : Int32) (what : Int32) (M : xM) (hp0 : ∀ j : Nat, 0 ≤ M 53 0 j ∧ M 53 0 j ≤ 60) (hp1 : mI M) (why : Int32) (n : Nat) (k : Int32) (N_ : xM) (hmu : xmu k 1536 < n + 1) (hinv : 0 ≤ k ∧ 1 ≤ z ∧ z ≤ 8 ∧ wI N_ z) (c_50 : 1536 ≤ k) : 0 ≤ k ∧ 1 ≤ z ∧ z ≤ 8 ∧ wI N_ z := by
  subst_vars
  grind [isTown_eq, isSheet_eq, in_1_8, in_1_6, in_0_1, xup_at, xb, wI_o, shl9, mI_98, lsOK_s2, wI_of]
theorem ob_X11_way_203_in (nb nn : Nat) (town : Int32) (sh : Int32) (i : Int32) (z : Int32) (days : Int32) (what : Int32) (M : xM) (hp0 : ∀ j : Nat, 0 ≤ M 53 0 j ∧ M 53 0 j ≤ 60) (hp1 : mI M) (why : Int32) (n : Nat) (k : Int32) (N_ : xM) (hmu : xmu k 1536 < n + 1) (hinv : 0 ≤ k ∧ 1 ≤ z ∧ z ≤ 8 ∧ wI N_ z) (c_50 : ¬ 1536 ≤ k) : vp_in k 10752 := by
  subst_vars
  exact xin (N := 10752) (by grind [isTown_eq, isSheet_eq, in_1_8, in_1_6, in_0_1, xup_at, xb, wI_o, shl9, mI_98, lsOK_s2, wI_of]) (by grind [isTown_eq, isSheet_eq, in_1_8, in_1_6, in_0_1, xup_at, xb, wI_o, shl9, mI_98, lsOK_s2, wI_of]) (by decide)
theorem ob_X11_way_188_mu_52 (nb nn : Nat) (town : Int32) (sh : Int32) (i : Int32) (z : Int32) (days : Int32) (what : Int32) (M : xM) (hp0 : ∀ j : Nat, 0 ≤ M 53 0 j ∧ M 53 0 j ≤ 60) (hp1 : mI M) (why : Int32) (n : Nat) (k : Int32) (N_ : xM) (hmu : xmu k 1536 < n + 1) (hinv : 0 ≤ k ∧ 1 ≤ z ∧ z ≤ 8 ∧ wI N_ z) (c_50 : ¬ 1536 ≤ k) (M_51 : xM) (eM_51 : M_51 = xup N_ 97 0 k.toNatClampNeg 0) (x8_52 : Int32) (ex8_52 : x8_52 = k + 1) : xmu x8_52 1536 < n := by
  subst_vars
  have h9 := xmu_up (a := k) (b := 1536) (by grind)
  (try simp [xup_at])
  omega
theorem ob_X11_way_188_inv_52 (nb nn : Nat) (town : Int32) (sh : Int32) (i : Int32) (z : Int32) (days : Int32) (what : Int32) (M : xM) (hp0 : ∀ j : Nat, 0 ≤ M 53 0 j ∧ M 53 0 j ≤ 60) (hp1 : mI M) (why : Int32) (n : Nat) (k : Int32) (N_ : xM) (hmu : xmu k 1536 < n + 1) (hinv : 0 ≤ k ∧ 1 ≤ z ∧ z ≤ 8 ∧ wI N_ z) (c_50 : ¬ 1536 ≤ k) (M_51 : xM) (eM_51 : M_51 = xup N_ 97 0 k.toNatClampNeg 0) (x8_52 : Int32) (ex8_52 : x8_52 = k + 1) : 0 ≤ x8_52 ∧ 1 ≤ z ∧ z ≤ 8 ∧ wI M_51 z := by
  subst_vars
  grind [isTown_eq, isSheet_eq, in_1_8, in_1_6, in_0_1, xup_at, xb, wI_o, shl9, mI_98, lsOK_s2, wI_of]
theorem ob_X11_way_166_x124 (nb nn : Nat) (town : Int32) (sh : Int32) (i : Int32) (z : Int32) (days : Int32) (what : Int32) (M : xM) (hp0 : ∀ j : Nat, 0 ≤ M 53 0 j ∧ M 53 0 j ≤ 60) (hp1 : mI M) (why : Int32) (k : Int32) (n : Nat) (good : Int32) (q : Int32) (N_ : xM) (hmu : xmu q k < n + 1) (hinv : 0 ≤ q ∧ k < 8 ∧ 0 ≤ k ∧ (good = 0 ∨ (good = 1 ∧ 0 ≤ N_ 98 0 k.toNatClampNeg ∧ N_ 98 0 k.toNatClampNeg < 24))) (c_53 : k ≤ q) : 0 ≤ q ∧ k < 8 ∧ 0 ≤ k ∧ (good = 0 ∨ (good = 1 ∧ 0 ≤ N_ 98 0 k.toNatClampNeg ∧ N_ 98 0 k.toNatClampNeg < 24)) := by
  subst_vars
  grind [isTown_eq, isSheet_eq, in_1_8, in_1_6, in_0_1, xup_at, xb, wI_o, shl9, mI_98, lsOK_s2, wI_of]
theorem ob_X11_way_124_mu_55 (nb nn : Nat) (town : Int32) (sh : Int32) (i : Int32) (z : Int32) (days : Int32) (what : Int32) (M : xM) (hp0 : ∀ j : Nat, 0 ≤ M 53 0 j ∧ M 53 0 j ≤ 60) (hp1 : mI M) (why : Int32) (k : Int32) (n : Nat) (good : Int32) (q : Int32) (N_ : xM) (hmu : xmu q k < n + 1) (hinv : 0 ≤ q ∧ k < 8 ∧ 0 ≤ k ∧ (good = 0 ∨ (good = 1 ∧ 0 ≤ N_ 98 0 k.toNatClampNeg ∧ N_ 98 0 k.toNatClampNeg < 24))) (c_53 : ¬ k ≤ q) (c_54 : good = 0) (x10_55 : Int32) (ex10_55 : x10_55 = q + 1) : xmu x10_55 k < n := by
  subst_vars
  have h9 := xmu_up (a := q) (b := k) (by grind)
  (try simp [xup_at])
  omega
theorem ob_X11_way_124_inv_55 (nb nn : Nat) (town : Int32) (sh : Int32) (i : Int32) (z : Int32) (days : Int32) (what : Int32) (M : xM) (hp0 : ∀ j : Nat, 0 ≤ M 53 0 j ∧ M 53 0 j ≤ 60) (hp1 : mI M) (why : Int32) (k : Int32) (n : Nat) (good : Int32) (q : Int32) (N_ : xM) (hmu : xmu q k < n + 1) (hinv : 0 ≤ q ∧ k < 8 ∧ 0 ≤ k ∧ (good = 0 ∨ (good = 1 ∧ 0 ≤ N_ 98 0 k.toNatClampNeg ∧ N_ 98 0 k.toNatClampNeg < 24))) (c_53 : ¬ k ≤ q) (c_54 : good = 0) (x10_55 : Int32) (ex10_55 : x10_55 = q + 1) : 0 ≤ x10_55 ∧ k < 8 ∧ 0 ≤ k ∧ ((0 : Int32) = 0 ∨ ((0 : Int32) = 1 ∧ 0 ≤ N_ 98 0 k.toNatClampNeg ∧ N_ 98 0 k.toNatClampNeg < 24)) := by
  subst_vars
  grind [isTown_eq, isSheet_eq, in_1_8, in_1_6, in_0_1, xup_at, xb, wI_o, shl9, mI_98, lsOK_s2, wI_of]
theorem ob_X11_way_142_in (nb nn : Nat) (town : Int32) (sh : Int32) (i : Int32) (z : Int32) (days : Int32) (what : Int32) (M : xM) (hp0 : ∀ j : Nat, 0 ≤ M 53 0 j ∧ M 53 0 j ≤ 60) (hp1 : mI M) (why : Int32) (k : Int32) (n : Nat) (good : Int32) (q : Int32) (N_ : xM) (hmu : xmu q k < n + 1) (hinv : 0 ≤ q ∧ k < 8 ∧ 0 ≤ k ∧ (good = 0 ∨ (good = 1 ∧ 0 ≤ N_ 98 0 k.toNatClampNeg ∧ N_ 98 0 k.toNatClampNeg < 24))) (c_53 : ¬ k ≤ q) (c_54 : ¬ good = 0) : vp_in q 8 := by
  subst_vars
  exact xin (N := 8) (by grind [isTown_eq, isSheet_eq, in_1_8, in_1_6, in_0_1, xup_at, xb, wI_o, shl9, mI_98, lsOK_s2, wI_of]) (by grind [isTown_eq, isSheet_eq, in_1_8, in_1_6, in_0_1, xup_at, xb, wI_o, shl9, mI_98, lsOK_s2, wI_of]) (by decide)
theorem ob_X11_way_149_in (nb nn : Nat) (town : Int32) (sh : Int32) (i : Int32) (z : Int32) (days : Int32) (what : Int32) (M : xM) (hp0 : ∀ j : Nat, 0 ≤ M 53 0 j ∧ M 53 0 j ≤ 60) (hp1 : mI M) (why : Int32) (k : Int32) (n : Nat) (good : Int32) (q : Int32) (N_ : xM) (hmu : xmu q k < n + 1) (hinv : 0 ≤ q ∧ k < 8 ∧ 0 ≤ k ∧ (good = 0 ∨ (good = 1 ∧ 0 ≤ N_ 98 0 k.toNatClampNeg ∧ N_ 98 0 k.toNatClampNeg < 24))) (c_53 : ¬ k ≤ q) (c_54 : ¬ good = 0) : vp_in k 8 := by
  subst_vars
  exact xin (N := 8) (by grind [isTown_eq, isSheet_eq, in_1_8, in_1_6, in_0_1, xup_at, xb, wI_o, shl9, mI_98, lsOK_s2, wI_of]) (by grind [isTown_eq, isSheet_eq, in_1_8, in_1_6, in_0_1, xup_at, xb, wI_o, shl9, mI_98, lsOK_s2, wI_of]) (by decide)
theorem ob_X11_way_124_mu_57 (nb nn : Nat) (town : Int32) (sh : Int32) (i : Int32) (z : Int32) (days : Int32) (what : Int32) (M : xM) (hp0 : ∀ j : Nat, 0 ≤ M 53 0 j ∧ M 53 0 j ≤ 60) (hp1 : mI M) (why : Int32) (k : Int32) (n : Nat) (good : Int32) (q : Int32) (N_ : xM) (hmu : xmu q k < n + 1) (hinv : 0 ≤ q ∧ k < 8 ∧ 0 ≤ k ∧ (good = 0 ∨ (good = 1 ∧ 0 ≤ N_ 98 0 k.toNatClampNeg ∧ N_ 98 0 k.toNatClampNeg < 24))) (c_53 : ¬ k ≤ q) (c_54 : ¬ good = 0) (c_56 : (N_ 98 0 q.toNatClampNeg) = (N_ 98 0 k.toNatClampNeg)) (x10_57 : Int32) (ex10_57 : x10_57 = q + 1) : xmu x10_57 k < n := by
  subst_vars
  have h9 := xmu_up (a := q) (b := k) (by grind)
  (try simp [xup_at])
  omega
theorem ob_X11_way_124_inv_57 (nb nn : Nat) (town : Int32) (sh : Int32) (i : Int32) (z : Int32) (days : Int32) (what : Int32) (M : xM) (hp0 : ∀ j : Nat, 0 ≤ M 53 0 j ∧ M 53 0 j ≤ 60) (hp1 : mI M) (why : Int32) (k : Int32) (n : Nat) (good : Int32) (q : Int32) (N_ : xM) (hmu : xmu q k < n + 1) (hinv : 0 ≤ q ∧ k < 8 ∧ 0 ≤ k ∧ (good = 0 ∨ (good = 1 ∧ 0 ≤ N_ 98 0 k.toNatClampNeg ∧ N_ 98 0 k.toNatClampNeg < 24))) (c_53 : ¬ k ≤ q) (c_54 : ¬ good = 0) (c_56 : (N_ 98 0 q.toNatClampNeg) = (N_ 98 0 k.toNatClampNeg)) (x10_57 : Int32) (ex10_57 : x10_57 = q + 1) : 0 ≤ x10_57 ∧ k < 8 ∧ 0 ≤ k ∧ ((0 : Int32) = 0 ∨ ((0 : Int32) = 1 ∧ 0 ≤ N_ 98 0 k.toNatClampNeg ∧ N_ 98 0 k.toNatClampNeg < 24)) := by
  subst_vars
  grind [isTown_eq, isSheet_eq, in_1_8, in_1_6, in_0_1, xup_at, xb, wI_o, shl9, mI_98, lsOK_s2, wI_of]
theorem ob_X11_way_124_mu_58 (nb nn : Nat) (town : Int32) (sh : Int32) (i : Int32) (z : Int32) (days : Int32) (what : Int32) (M : xM) (hp0 : ∀ j : Nat, 0 ≤ M 53 0 j ∧ M 53 0 j ≤ 60) (hp1 : mI M) (why : Int32) (k : Int32) (n : Nat) (good : Int32) (q : Int32) (N_ : xM) (hmu : xmu q k < n + 1) (hinv : 0 ≤ q ∧ k < 8 ∧ 0 ≤ k ∧ (good = 0 ∨ (good = 1 ∧ 0 ≤ N_ 98 0 k.toNatClampNeg ∧ N_ 98 0 k.toNatClampNeg < 24))) (c_53 : ¬ k ≤ q) (c_54 : ¬ good = 0) (c_56 : ¬ (N_ 98 0 q.toNatClampNeg) = (N_ 98 0 k.toNatClampNeg)) (x10_58 : Int32) (ex10_58 : x10_58 = q + 1) : xmu x10_58 k < n := by
  subst_vars
  have h9 := xmu_up (a := q) (b := k) (by grind)
  (try simp [xup_at])
  omega
theorem ob_X11_way_124_inv_58 (nb nn : Nat) (town : Int32) (sh : Int32) (i : Int32) (z : Int32) (days : Int32) (what : Int32) (M : xM) (hp0 : ∀ j : Nat, 0 ≤ M 53 0 j ∧ M 53 0 j ≤ 60) (hp1 : mI M) (why : Int32) (k : Int32) (n : Nat) (good : Int32) (q : Int32) (N_ : xM) (hmu : xmu q k < n + 1) (hinv : 0 ≤ q ∧ k < 8 ∧ 0 ≤ k ∧ (good = 0 ∨ (good = 1 ∧ 0 ≤ N_ 98 0 k.toNatClampNeg ∧ N_ 98 0 k.toNatClampNeg < 24))) (c_53 : ¬ k ≤ q) (c_54 : ¬ good = 0) (c_56 : ¬ (N_ 98 0 q.toNatClampNeg) = (N_ 98 0 k.toNatClampNeg)) (x10_58 : Int32) (ex10_58 : x10_58 = q + 1) : 0 ≤ x10_58 ∧ k < 8 ∧ 0 ≤ k ∧ ((1 : Int32) = 0 ∨ ((1 : Int32) = 1 ∧ 0 ≤ N_ 98 0 k.toNatClampNeg ∧ N_ 98 0 k.toNatClampNeg < 24)) := by
  subst_vars
  grind [isTown_eq, isSheet_eq, in_1_8, in_1_6, in_0_1, xup_at, xb, wI_o, shl9, mI_98, lsOK_s2, wI_of]
theorem ob_X11_way_180_x80 (nb nn : Nat) (town : Int32) (sh : Int32) (i : Int32) (z : Int32) (days : Int32) (what : Int32) (M : xM) (hp0 : ∀ j : Nat, 0 ≤ M 53 0 j ∧ M 53 0 j ≤ 60) (hp1 : mI M) (why : Int32) (n : Nat) (k : Int32) (N_ : xM) (hmu : xmu k z < n + 1) (hinv : 0 ≤ k ∧ k ≤ z ∧ 0 ≤ sh ∧ sh ≤ 7 ∧ 0 ≤ i ∧ i ≤ 60 ∧ 1 ≤ z ∧ z ≤ 8 ∧ i + z ≤ 60 ∧ lsOK N_ k ∧ mI N_) (c_59 : z ≤ k) : 1 ≤ z ∧ z ≤ 8 ∧ lsOK N_ z ∧ mI N_ := by
  have hk : k = z := by grind
  obtain ⟨h1, h2, h3, h4, h5, h6, h7, h8, h9, h10, h11⟩ := hinv
  exact ⟨h7, h8, by rw [← hk]; exact h10, h11⟩
theorem ob_X11_way_106_in (nb nn : Nat) (town : Int32) (sh : Int32) (i : Int32) (z : Int32) (days : Int32) (what : Int32) (M : xM) (hp0 : ∀ j : Nat, 0 ≤ M 53 0 j ∧ M 53 0 j ≤ 60) (hp1 : mI M) (why : Int32) (n : Nat) (k : Int32) (N_ : xM) (hmu : xmu k z < n + 1) (hinv : 0 ≤ k ∧ k ≤ z ∧ 0 ≤ sh ∧ sh ≤ 7 ∧ 0 ≤ i ∧ i ≤ 60 ∧ 1 ≤ z ∧ z ≤ 8 ∧ i + z ≤ 60 ∧ lsOK N_ k ∧ mI N_) (c_59 : ¬ z ≤ k) : vp_in (((60 * sh) + i) + k) 480 := by
  subst_vars
  exact xin (N := 480) (by grind [isTown_eq, isSheet_eq, in_1_8, in_1_6, in_0_1, xup_at, xb, wI_o, shl9, mI_98, lsOK_s2, wI_of]) (by grind [isTown_eq, isSheet_eq, in_1_8, in_1_6, in_0_1, xup_at, xb, wI_o, shl9, mI_98, lsOK_s2, wI_of]) (by decide)
theorem ob_X11_way_107_in (nb nn : Nat) (town : Int32) (sh : Int32) (i : Int32) (z : Int32) (days : Int32) (what : Int32) (M : xM) (hp0 : ∀ j : Nat, 0 ≤ M 53 0 j ∧ M 53 0 j ≤ 60) (hp1 : mI M) (why : Int32) (n : Nat) (k : Int32) (N_ : xM) (hmu : xmu k z < n + 1) (hinv : 0 ≤ k ∧ k ≤ z ∧ 0 ≤ sh ∧ sh ≤ 7 ∧ 0 ≤ i ∧ i ≤ 60 ∧ 1 ≤ z ∧ z ≤ 8 ∧ i + z ≤ 60 ∧ lsOK N_ k ∧ mI N_) (c_59 : ¬ z ≤ k) (v_60 : Int32) (ev_60 : v_60 = (N_ 54 0 (((60 * sh) + i) + k).toNatClampNeg)) : vp_in k 8 := by
  subst_vars
  exact xin (N := 8) (by grind [isTown_eq, isSheet_eq, in_1_8, in_1_6, in_0_1, xup_at, xb, wI_o, shl9, mI_98, lsOK_s2, wI_of]) (by grind [isTown_eq, isSheet_eq, in_1_8, in_1_6, in_0_1, xup_at, xb, wI_o, shl9, mI_98, lsOK_s2, wI_of]) (by decide)
theorem ob_X11_way_115_in (nb nn : Nat) (town : Int32) (sh : Int32) (i : Int32) (z : Int32) (days : Int32) (what : Int32) (M : xM) (hp0 : ∀ j : Nat, 0 ≤ M 53 0 j ∧ M 53 0 j ≤ 60) (hp1 : mI M) (why : Int32) (n : Nat) (k : Int32) (N_ : xM) (hmu : xmu k z < n + 1) (hinv : 0 ≤ k ∧ k ≤ z ∧ 0 ≤ sh ∧ sh ≤ 7 ∧ 0 ≤ i ∧ i ≤ 60 ∧ 1 ≤ z ∧ z ≤ 8 ∧ i + z ≤ 60 ∧ lsOK N_ k ∧ mI N_) (c_59 : ¬ z ≤ k) (v_60 : Int32) (ev_60 : v_60 = (N_ 54 0 (((60 * sh) + i) + k).toNatClampNeg)) (M_61 : xM) (eM_61 : M_61 = xup N_ 98 0 k.toNatClampNeg v_60) : vp_in k 8 := by
  subst_vars
  exact xin (N := 8) (by grind [isTown_eq, isSheet_eq, in_1_8, in_1_6, in_0_1, xup_at, xb, wI_o, shl9, mI_98, lsOK_s2, wI_of]) (by grind [isTown_eq, isSheet_eq, in_1_8, in_1_6, in_0_1, xup_at, xb, wI_o, shl9, mI_98, lsOK_s2, wI_of]) (by decide)
theorem ob_X11_way_124_ini_62 (nb nn : Nat) (town : Int32) (sh : Int32) (i : Int32) (z : Int32) (days : Int32) (what : Int32) (M : xM) (hp0 : ∀ j : Nat, 0 ≤ M 53 0 j ∧ M 53 0 j ≤ 60) (hp1 : mI M) (why : Int32) (n : Nat) (k : Int32) (N_ : xM) (hmu : xmu k z < n + 1) (hinv : 0 ≤ k ∧ k ≤ z ∧ 0 ≤ sh ∧ sh ≤ 7 ∧ 0 ≤ i ∧ i ≤ 60 ∧ 1 ≤ z ∧ z ≤ 8 ∧ i + z ≤ 60 ∧ lsOK N_ k ∧ mI N_) (c_59 : ¬ z ≤ k) (v_60 : Int32) (ev_60 : v_60 = (N_ 54 0 (((60 * sh) + i) + k).toNatClampNeg)) (M_61 : xM) (eM_61 : M_61 = xup N_ 98 0 k.toNatClampNeg v_60) (r_62 : Int32) (er_62 : r_62 = xb (f_X11_isNote (M_61 98 0 k.toNatClampNeg) M_61)) : 0 ≤ (0 : Int32) ∧ k < 8 ∧ 0 ≤ k ∧ (r_62 = 0 ∨ (r_62 = 1 ∧ 0 ≤ M_61 98 0 k.toNatClampNeg ∧ M_61 98 0 k.toNatClampNeg < 24)) := by
  subst_vars
  obtain ⟨h1, h2, h3, h4, h5, h6, h7, h8, h9, h10, h11⟩ := hinv
  have hq : 0 ≤ N_ 40 0 30 ∧ N_ 40 0 30 ≤ 24 := ⟨h11.2.2.1, h11.2.2.2.1⟩
  grind [isNote_eq, xb, xup_at]
theorem ob_X11_way_80_mu_66 (nb nn : Nat) (town : Int32) (sh : Int32) (i : Int32) (z : Int32) (days : Int32) (what : Int32) (M : xM) (hp0 : ∀ j : Nat, 0 ≤ M 53 0 j ∧ M 53 0 j ≤ 60) (hp1 : mI M) (why : Int32) (n : Nat) (k : Int32) (N_ : xM) (hmu : xmu k z < n + 1) (hinv : 0 ≤ k ∧ k ≤ z ∧ 0 ≤ sh ∧ sh ≤ 7 ∧ 0 ≤ i ∧ i ≤ 60 ∧ 1 ≤ z ∧ z ≤ 8 ∧ i + z ≤ 60 ∧ lsOK N_ k ∧ mI N_) (c_59 : ¬ z ≤ k) (v_60 : Int32) (ev_60 : v_60 = (N_ 54 0 (((60 * sh) + i) + k).toNatClampNeg)) (M_61 : xM) (eM_61 : M_61 = xup N_ 98 0 k.toNatClampNeg v_60) (r_62 : Int32) (er_62 : r_62 = xb (f_X11_isNote (M_61 98 0 k.toNatClampNeg) M_61)) (good_63 : Int32) (q_64 : Int32) (hiv_64 : 0 ≤ q_64 ∧ k < 8 ∧ 0 ≤ k ∧ (good_63 = 0 ∨ (good_63 = 1 ∧ 0 ≤ M_61 98 0 k.toNatClampNeg ∧ M_61 98 0 k.toNatClampNeg < 24))) (c_65 : ¬ good_63 = 0) (x8_66 : Int32) (ex8_66 : x8_66 = k + 1) : xmu x8_66 z < n := by
  subst_vars
  have h9 := xmu_up (a := k) (b := z) (by grind)
  (try simp [xup_at])
  omega
theorem ob_X11_way_80_inv_66 (nb nn : Nat) (town : Int32) (sh : Int32) (i : Int32) (z : Int32) (days : Int32) (what : Int32) (M : xM) (hp0 : ∀ j : Nat, 0 ≤ M 53 0 j ∧ M 53 0 j ≤ 60) (hp1 : mI M) (why : Int32) (n : Nat) (k : Int32) (N_ : xM) (hmu : xmu k z < n + 1) (hinv : 0 ≤ k ∧ k ≤ z ∧ 0 ≤ sh ∧ sh ≤ 7 ∧ 0 ≤ i ∧ i ≤ 60 ∧ 1 ≤ z ∧ z ≤ 8 ∧ i + z ≤ 60 ∧ lsOK N_ k ∧ mI N_) (c_59 : ¬ z ≤ k) (v_60 : Int32) (ev_60 : v_60 = (N_ 54 0 (((60 * sh) + i) + k).toNatClampNeg)) (M_61 : xM) (eM_61 : M_61 = xup N_ 98 0 k.toNatClampNeg v_60) (r_62 : Int32) (er_62 : r_62 = xb (f_X11_isNote (M_61 98 0 k.toNatClampNeg) M_61)) (good_63 : Int32) (q_64 : Int32) (hiv_64 : 0 ≤ q_64 ∧ k < 8 ∧ 0 ≤ k ∧ (good_63 = 0 ∨ (good_63 = 1 ∧ 0 ≤ M_61 98 0 k.toNatClampNeg ∧ M_61 98 0 k.toNatClampNeg < 24))) (c_65 : ¬ good_63 = 0) (x8_66 : Int32) (ex8_66 : x8_66 = k + 1) : 0 ≤ x8_66 ∧ x8_66 ≤ z ∧ 0 ≤ sh ∧ sh ≤ 7 ∧ 0 ≤ i ∧ i ≤ 60 ∧ 1 ≤ z ∧ z ≤ 8 ∧ i + z ≤ 60 ∧ lsOK M_61 x8_66 ∧ mI M_61 := by
  subst_vars
  grind [isTown_eq, isSheet_eq, in_1_8, in_1_6, in_0_1, xup_at, xb, wI_o, shl9, mI_98, lsOK_s2, wI_of]
theorem ob_X11_way_64_p0 (nb nn : Nat) (town : Int32) (sh : Int32) (i : Int32) (z : Int32) (days : Int32) (what : Int32) (M : xM) (hp0 : ∀ j : Nat, 0 ≤ M 53 0 j ∧ M 53 0 j ≤ 60) (hp1 : mI M) (M_67 : xM) (eM_67 : M_67 = xup M 40 0 0 0) (r_68 : Int32) (er_68 : r_68 = xb (f_X11_isTown town M_67)) (c_69 : ¬ r_68 = 0) (r_70 : Int32) (er_70 : r_70 = xb (f_X11_isSheet sh M_67)) (c_71 : ¬ r_70 = 0) (r_72 : Int32) (er_72 : r_72 = xb (f_X11_in (z.toInt64) 1 8 M_67)) (c_73 : ¬ r_72 = 0) (r_74 : Int32) (er_74 : r_74 = xb (f_X11_in (days.toInt64) 1 6 M_67)) (c_75 : ¬ r_74 = 0) (r_76 : Int32) (er_76 : r_76 = xb (f_X11_in (what.toInt64) 0 1 M_67)) (c_77 : ¬ r_76 = 0) : 0 ≤ sh := by
  subst_vars
  grind [isTown_eq, isSheet_eq, in_1_8, in_1_6, in_0_1, xup_at, xb, wI_o, shl9, mI_98, lsOK_s2, wI_of]
theorem ob_X11_way_64_p1 (nb nn : Nat) (town : Int32) (sh : Int32) (i : Int32) (z : Int32) (days : Int32) (what : Int32) (M : xM) (hp0 : ∀ j : Nat, 0 ≤ M 53 0 j ∧ M 53 0 j ≤ 60) (hp1 : mI M) (M_67 : xM) (eM_67 : M_67 = xup M 40 0 0 0) (r_68 : Int32) (er_68 : r_68 = xb (f_X11_isTown town M_67)) (c_69 : ¬ r_68 = 0) (r_70 : Int32) (er_70 : r_70 = xb (f_X11_isSheet sh M_67)) (c_71 : ¬ r_70 = 0) (r_72 : Int32) (er_72 : r_72 = xb (f_X11_in (z.toInt64) 1 8 M_67)) (c_73 : ¬ r_72 = 0) (r_74 : Int32) (er_74 : r_74 = xb (f_X11_in (days.toInt64) 1 6 M_67)) (c_75 : ¬ r_74 = 0) (r_76 : Int32) (er_76 : r_76 = xb (f_X11_in (what.toInt64) 0 1 M_67)) (c_77 : ¬ r_76 = 0) : sh ≤ 7 := by
  subst_vars
  grind [isTown_eq, isSheet_eq, in_1_8, in_1_6, in_0_1, xup_at, xb, wI_o, shl9, mI_98, lsOK_s2, wI_of]
theorem ob_X11_way_80_ini_80 (nb nn : Nat) (town : Int32) (sh : Int32) (i : Int32) (z : Int32) (days : Int32) (what : Int32) (M : xM) (hp0 : ∀ j : Nat, 0 ≤ M 53 0 j ∧ M 53 0 j ≤ 60) (hp1 : mI M) (M_67 : xM) (eM_67 : M_67 = xup M 40 0 0 0) (r_68 : Int32) (er_68 : r_68 = xb (f_X11_isTown town M_67)) (c_69 : ¬ r_68 = 0) (r_70 : Int32) (er_70 : r_70 = xb (f_X11_isSheet sh M_67)) (c_71 : ¬ r_70 = 0) (r_72 : Int32) (er_72 : r_72 = xb (f_X11_in (z.toInt64) 1 8 M_67)) (c_73 : ¬ r_72 = 0) (r_74 : Int32) (er_74 : r_74 = xb (f_X11_in (days.toInt64) 1 6 M_67)) (c_75 : ¬ r_74 = 0) (r_76 : Int32) (er_76 : r_76 = xb (f_X11_in (what.toInt64) 0 1 M_67)) (c_77 : ¬ r_76 = 0) (r_78 : Int32) (M_79 : xM) (er_78 : r_78 = (f_X11_lookItems sh i z M_67).1) (eM_79 : M_79 = (f_X11_lookItems sh i z M_67).2) (c_80 : 0 ≤ r_78) : 0 ≤ (0 : Int32) ∧ (0 : Int32) ≤ z ∧ 0 ≤ sh ∧ sh ≤ 7 ∧ 0 ≤ i ∧ i ≤ 60 ∧ 1 ≤ z ∧ z ≤ 8 ∧ i + z ≤ 60 ∧ lsOK M_79 (0 : Int32) ∧ mI M_79 := by
  subst_vars
  have h7 : 0 ≤ z := by grind [in_1_8, xb]
  have h9 := @look_ok sh i z (xup M 40 0 0 0) h7 (by intro j; simpa [xup_at] using hp0 j) (by grind)
  obtain ⟨a1, a2, a3, a4, a5, a6⟩ := h9
  rw [a6]
  have h8 := hp0 sh.toNatClampNeg
  have m1 : mI (xup M 40 0 0 0) := mI_thr hp1
  have l1 := lsOK_0 (xup M 40 0 0 0)
  grind [isTown_eq, isSheet_eq, in_1_8, in_1_6, in_0_1, xup_at, xb]
theorem ob_X11_way_188_ini_83 (nb nn : Nat) (town : Int32) (sh : Int32) (i : Int32) (z : Int32) (days : Int32) (what : Int32) (M : xM) (hp0 : ∀ j : Nat, 0 ≤ M 53 0 j ∧ M 53 0 j ≤ 60) (hp1 : mI M) (M_67 : xM) (eM_67 : M_67 = xup M 40 0 0 0) (r_68 : Int32) (er_68 : r_68 = xb (f_X11_isTown town M_67)) (c_69 : ¬ r_68 = 0) (r_70 : Int32) (er_70 : r_70 = xb (f_X11_isSheet sh M_67)) (c_71 : ¬ r_70 = 0) (r_72 : Int32) (er_72 : r_72 = xb (f_X11_in (z.toInt64) 1 8 M_67)) (c_73 : ¬ r_72 = 0) (r_74 : Int32) (er_74 : r_74 = xb (f_X11_in (days.toInt64) 1 6 M_67)) (c_75 : ¬ r_74 = 0) (r_76 : Int32) (er_76 : r_76 = xb (f_X11_in (what.toInt64) 0 1 M_67)) (c_77 : ¬ r_76 = 0) (r_78 : Int32) (M_79 : xM) (er_78 : r_78 = (f_X11_lookItems sh i z M_67).1) (eM_79 : M_79 = (f_X11_lookItems sh i z M_67).2) (c_80 : 0 ≤ r_78) (k_81 : Int32) (M_82 : xM) (hiv_82 : 1 ≤ z ∧ z ≤ 8 ∧ lsOK M_82 z ∧ mI M_82) (M_83 : xM) (eM_83 : M_83 = xup M_82 40 0 1 0) : 0 ≤ (0 : Int32) ∧ 1 ≤ z ∧ z ≤ 8 ∧ wI M_83 z := by
  subst_vars
  grind [isTown_eq, isSheet_eq, in_1_8, in_1_6, in_0_1, xup_at, xb, wI_o, shl9, mI_98, lsOK_s2, wI_of]
theorem ob_X11_way_213_ini_85 (nb nn : Nat) (town : Int32) (sh : Int32) (i : Int32) (z : Int32) (days : Int32) (what : Int32) (M : xM) (hp0 : ∀ j : Nat, 0 ≤ M 53 0 j ∧ M 53 0 j ≤ 60) (hp1 : mI M) (M_67 : xM) (eM_67 : M_67 = xup M 40 0 0 0) (r_68 : Int32) (er_68 : r_68 = xb (f_X11_isTown town M_67)) (c_69 : ¬ r_68 = 0) (r_70 : Int32) (er_70 : r_70 = xb (f_X11_isSheet sh M_67)) (c_71 : ¬ r_70 = 0) (r_72 : Int32) (er_72 : r_72 = xb (f_X11_in (z.toInt64) 1 8 M_67)) (c_73 : ¬ r_72 = 0) (r_74 : Int32) (er_74 : r_74 = xb (f_X11_in (days.toInt64) 1 6 M_67)) (c_75 : ¬ r_74 = 0) (r_76 : Int32) (er_76 : r_76 = xb (f_X11_in (what.toInt64) 0 1 M_67)) (c_77 : ¬ r_76 = 0) (r_78 : Int32) (M_79 : xM) (er_78 : r_78 = (f_X11_lookItems sh i z M_67).1) (eM_79 : M_79 = (f_X11_lookItems sh i z M_67).2) (c_80 : 0 ≤ r_78) (k_81 : Int32) (M_82 : xM) (hiv_82 : 1 ≤ z ∧ z ≤ 8 ∧ lsOK M_82 z ∧ mI M_82) (M_83 : xM) (eM_83 : M_83 = xup M_82 40 0 1 0) (k_84 : Int32) (M_85 : xM) (hiv_85 : 0 ≤ k_84 ∧ 1 ≤ z ∧ z ≤ 8 ∧ wI M_85 z) : 1 ≤ (1 : Int32) ∧ days ≤ 6 ∧ 1 ≤ days ∧ 1 ≤ z ∧ z ≤ 8 ∧ wI M_85 z := by
  subst_vars
  grind [isTown_eq, isSheet_eq, in_1_8, in_1_6, in_0_1, xup_at, xb, wI_o, shl9, mI_98, lsOK_s2, wI_of]
theorem ob_X11_way_414_in (nb nn : Nat) (town : Int32) (sh : Int32) (i : Int32) (z : Int32) (days : Int32) (what : Int32) (M : xM) (hp0 : ∀ j : Nat, 0 ≤ M 53 0 j ∧ M 53 0 j ≤ 60) (hp1 : mI M) (M_67 : xM) (eM_67 : M_67 = xup M 40 0 0 0) (r_68 : Int32) (er_68 : r_68 = xb (f_X11_isTown town M_67)) (c_69 : ¬ r_68 = 0) (r_70 : Int32) (er_70 : r_70 = xb (f_X11_isSheet sh M_67)) (c_71 : ¬ r_70 = 0) (r_72 : Int32) (er_72 : r_72 = xb (f_X11_in (z.toInt64) 1 8 M_67)) (c_73 : ¬ r_72 = 0) (r_74 : Int32) (er_74 : r_74 = xb (f_X11_in (days.toInt64) 1 6 M_67)) (c_75 : ¬ r_74 = 0) (r_76 : Int32) (er_76 : r_76 = xb (f_X11_in (what.toInt64) 0 1 M_67)) (c_77 : ¬ r_76 = 0) (r_78 : Int32) (M_79 : xM) (er_78 : r_78 = (f_X11_lookItems sh i z M_67).1) (eM_79 : M_79 = (f_X11_lookItems sh i z M_67).2) (c_80 : 0 ≤ r_78) (k_81 : Int32) (M_82 : xM) (hiv_82 : 1 ≤ z ∧ z ≤ 8 ∧ lsOK M_82 z ∧ mI M_82) (M_83 : xM) (eM_83 : M_83 = xup M_82 40 0 1 0) (k_84 : Int32) (M_85 : xM) (hiv_85 : 0 ≤ k_84 ∧ 1 ≤ z ∧ z ≤ 8 ∧ wI M_85 z) (day_86 : Int32) (M_87 : xM) (hiv_87 : 1 ≤ day_86 ∧ days ≤ 6 ∧ 1 ≤ days ∧ 1 ≤ z ∧ z ≤ 8 ∧ wI M_87 z) (x8_88 : Int32) (ex8_88 : x8_88 = ((1 <<< (z &&& 31)) - 1)) : vp_in (((1536 * days) + (256 * town)) + x8_88) 10752 := by
  subst_vars
  exact xin (N := 10752) (by grind [isTown_eq, isSheet_eq, in_1_8, in_1_6, in_0_1, xup_at, xb, wI_o, shl9, mI_98, lsOK_s2, wI_of]) (by grind [isTown_eq, isSheet_eq, in_1_8, in_1_6, in_0_1, xup_at, xb, wI_o, shl9, mI_98, lsOK_s2, wI_of]) (by decide)
theorem ob_X11_way_428_ini_90 (nb nn : Nat) (town : Int32) (sh : Int32) (i : Int32) (z : Int32) (days : Int32) (what : Int32) (M : xM) (hp0 : ∀ j : Nat, 0 ≤ M 53 0 j ∧ M 53 0 j ≤ 60) (hp1 : mI M) (M_67 : xM) (eM_67 : M_67 = xup M 40 0 0 0) (r_68 : Int32) (er_68 : r_68 = xb (f_X11_isTown town M_67)) (c_69 : ¬ r_68 = 0) (r_70 : Int32) (er_70 : r_70 = xb (f_X11_isSheet sh M_67)) (c_71 : ¬ r_70 = 0) (r_72 : Int32) (er_72 : r_72 = xb (f_X11_in (z.toInt64) 1 8 M_67)) (c_73 : ¬ r_72 = 0) (r_74 : Int32) (er_74 : r_74 = xb (f_X11_in (days.toInt64) 1 6 M_67)) (c_75 : ¬ r_74 = 0) (r_76 : Int32) (er_76 : r_76 = xb (f_X11_in (what.toInt64) 0 1 M_67)) (c_77 : ¬ r_76 = 0) (r_78 : Int32) (M_79 : xM) (er_78 : r_78 = (f_X11_lookItems sh i z M_67).1) (eM_79 : M_79 = (f_X11_lookItems sh i z M_67).2) (c_80 : 0 ≤ r_78) (k_81 : Int32) (M_82 : xM) (hiv_82 : 1 ≤ z ∧ z ≤ 8 ∧ lsOK M_82 z ∧ mI M_82) (M_83 : xM) (eM_83 : M_83 = xup M_82 40 0 1 0) (k_84 : Int32) (M_85 : xM) (hiv_85 : 0 ≤ k_84 ∧ 1 ≤ z ∧ z ≤ 8 ∧ wI M_85 z) (day_86 : Int32) (M_87 : xM) (hiv_87 : 1 ≤ day_86 ∧ days ≤ 6 ∧ 1 ≤ days ∧ 1 ≤ z ∧ z ≤ 8 ∧ wI M_87 z) (x8_88 : Int32) (ex8_88 : x8_88 = ((1 <<< (z &&& 31)) - 1)) (x9_89 : Int32) (ex9_89 : x9_89 = (M_87 97 0 (((1536 * days) + (256 * town)) + x8_88).toNatClampNeg)) (c_90 : ¬ what = 0) : 0 ≤ (0 : Int32) ∧ 0 ≤ x8_88 ∧ x8_88 < 256 ∧ 1 ≤ days ∧ days ≤ 6 ∧ 0 ≤ town ∧ town ≤ 5 ∧ 1 ≤ z ∧ z ≤ 8 ∧ wI M_87 z := by
  subst_vars
  grind [isTown_eq, isSheet_eq, in_1_8, in_1_6, in_0_1, xup_at, xb, wI_o, shl9, mI_98, lsOK_s2, wI_of]
set_option maxHeartbeats 4000000 in
set_option maxRecDepth 100000 in
theorem c_X11_way (l : Launch) (nb nn : Nat) (g : xG) (L : List (Nat × Nat)) (M : xM) (hD : xD g L) (hL : xEL nb nn L) (town : Int32) (sh : Int32) (i : Int32) (z : Int32) (days : Int32) (what : Int32) (hp0 : ∀ j : Nat, 0 ≤ M 53 0 j ∧ M 53 0 j ≤ 60) (hp1 : mI M) : xCi l yX11_way cX11_way 15 (some .int) 2 g L M [.ref (xad g 40 0), .int town, .int sh, .int i, .int z, .int days, .int what] (fun r u => (r, u) = f_X11_way town sh i z days what M) := by
  intro sz
  refine x_beg (by decide +kernel) rfl ?_
  intro p e s m args below meth c ls hsz hB
  subst hsz
  obtain ⟨hx, hb, hml, hown, hts, hr, hlk, hK, hAm, hP, hl⟩ := hB
  have S : CallFix p m c cX11_way 15 s args (xws yX11_way cX11_way 15 (some .int)) RX11 := ⟨hx, hb, hml, hown, hts⟩
  have hown : s.vm.findClass RX11 = some m.cls := hown
  have hl : lv_has ls 15 [(0, .ref (xad g 40 0)), (1, .int town), (2, .int sh), (3, .int i), (4, .int z), (5, .int days), (6, .int what)] := hl
  have hS : va_S (xA g L s.heap.size) s.heap s.heap [] := va_S.rf
  obtain ⟨F, hF⟩ : ∃ F, F = f_X11_way town sh i z days what M := ⟨_, rfl⟩
  have k_438 : ∀ (why : Int32) (all_ : Int32) (best : Int32) (to : Int32) (N_ : xM) (n : Nat) (k : Int32) (H : Heap) (locs : List Loc) (ls : Array Slot) (kx : (Int32 → Int32 × xM)), xmu k (z + 1) < n → 0 ≤ k ∧ 0 ≤ to ∧ to < 6 ∧ 0 ≤ all_ ∧ all_ < 256 ∧ 1 ≤ days ∧ days ≤ 6 ∧ 0 ≤ town ∧ town ≤ 5 ∧ 1 ≤ z ∧ z ≤ 8 ∧ wI N_ z → F = f_X11_way_L438 town sh i z days what why all_ best to N_ n k kx → xP g L N_ H → va_S (xA g L s.heap.size) s.heap H locs → lv_has ls 15 [(0, .ref (xad g 40 0)), (1, .int town), (2, .int sh), (3, .int i), (4, .int z), (5, .int days), (6, .int what), (7, .int why), (8, .int all_), (9, .int best), (10, .int to), (11, .int k)] → (∀ (k : Int32) (H : Heap) (locs : List Loc) (ls : Array Slot), 0 ≤ k ∧ 0 ≤ to ∧ to < 6 ∧ 0 ≤ all_ ∧ all_ < 256 ∧ 1 ≤ days ∧ days ≤ 6 ∧ 0 ≤ town ∧ town ≤ 5 ∧ 1 ≤ z ∧ z ≤ 8 ∧ wI N_ z → F = kx k → xP g L N_ H → va_S (xA g L s.heap.size) s.heap H locs → lv_has ls 15 [(0, .ref (xad g 40 0)), (1, .int town), (2, .int sh), (3, .int i), (4, .int z), (5, .int days), (6, .int what), (7, .int why), (8, .int all_), (9, .int best), (10, .int to), (11, .int k)] → W p l e (xr 2) s m args below meth c H locs 0 0 (MQ below (va_Qi (fun r u => (r, u) = f_X11_way town sh i z days what M) (xPost g L) (xA g L s.heap.size)) args s 0 0 (xA g L s.heap.size)) (F0 m 504 ls [])) → W p l e (xr 2) s m args below meth c H locs 0 0 (MQ below (va_Qi (fun r u => (r, u) = f_X11_way town sh i z days what M) (xPost g L) (xA g L s.heap.size)) args s 0 0 (xA g L s.heap.size)) (F0 m 438 ls []) := by
    intro why all_ best to N_ n
    induction n with
    | zero => intro k H locs ls kx hmu; exact absurd hmu (Nat.not_lt_zero _)
    | succ n ih =>
      intro k H locs ls kx hmu hinv hres hP hS hl hex
      replace hres : F = _ := hres.trans (by rw [f_X11_way_L438])
      refine lv_iload hx hb dX11_way_438 (lv_at hl 11 rfl) ?_
      refine lv_iload hx hb dX11_way_440 (lv_at hl 4 rfl) ?_
      refine lv_icmp_gt (tgt := 504) hx hb dX11_way_442 (by decide) (fun c_1 => ?_) (fun c_1 => ?_)
      · replace hres := hres.trans (if_pos c_1)
        exact hex k _ _ _ (ob_X11_way_504_x438 nb nn town sh i z days what M hp0 hp1 why all_ best to n k N_ hmu hinv c_1) hres hP hS (lv_sub hl [0, 1, 2, 3, 4, 5, 6, 7, 8, 9, 10, 11] rfl)
      · replace hres := hres.trans (if_neg c_1)
        refine lv_aload_n hx hb dX11_way_445 rfl (lv_at hl 0 rfl) ?_
        refine lv_iload hx hb dX11_way_446 (lv_at hl 5 rfl) ?_
        refine lv_iload_n hx hb dX11_way_448 rfl (lv_at hl 1 rfl) ?_
        refine lv_iload hx hb dX11_way_449 (lv_at hl 10 rfl) ?_
        refine x_callVi (As := [.int days, .int town, .int to]) S hK hAm hD hP hS mt_X11_mayGo wd_983 ⟨by decide, by decide⟩ (hL 40 0 (xe_40 nb nn)) (xc40 g 0) rfl (c_X11_mayGo l nb nn g L N_ hD hL days town to (ob_X11_way_451_p0 nb nn town sh i z days what M hp0 hp1 why all_ best to n k N_ hmu hinv c_1) (ob_X11_way_451_p1 nb nn town sh i z days what M hp0 hp1 why all_ best to n k N_ hmu hinv c_1) (ob_X11_way_451_p2 nb nn town sh i z days what M hp0 hp1 why all_ best to n k N_ hmu hinv c_1) (ob_X11_way_451_p3 nb nn town sh i z days what M hp0 hp1 why all_ best to n k N_ hmu hinv c_1)) rfl hl.1 (Nat.le_of_ble_eq_true rfl) ⟨Nat.zero_le _, Nat.zero_le _⟩ dX11_way_451 rfl (fun r_2 u H locs hp_ hP hS => ?_)
        obtain ⟨er_2, eu_⟩ := hp_
        rw [eu_] at hP
        clear eu_
        replace hres := xlet_n hres er_2
        refine lv_if_eq (tgt := 498) hx hb dX11_way_454 (by decide) (fun c_3 => ?_) (fun c_3 => ?_)
        · replace hres := hres.trans (if_pos c_3)
          obtain ⟨x11_4, ex11_4⟩ : ∃ z_ : Int32, z_ = k + 1 := ⟨_, rfl⟩
          replace hres := xlet_n hres ex11_4
          refine lv_iinc (v := x11_4) (lv' := [(11, .int x11_4), (0, .ref (xad g 40 0)), (1, .int town), (2, .int sh), (3, .int i), (4, .int z), (5, .int days), (6, .int what), (7, .int why), (8, .int all_), (9, .int best), (10, .int to)]) hx hb dX11_way_498 hl (k := 11) rfl (by rw [ex11_4]; rfl) (by decide) rfl (fun ls hl => ?_)
          refine lv_goto (tgt := 438) hx hb dX11_way_501 (by decide) ?_
          exact ih x11_4 _ _ _ kx (ob_X11_way_438_mu_4 nb nn town sh i z days what M hp0 hp1 why all_ best to n k N_ hmu hinv c_1 r_2 er_2 c_3 x11_4 ex11_4) (ob_X11_way_438_inv_4 nb nn town sh i z days what M hp0 hp1 why all_ best to n k N_ hmu hinv c_1 r_2 er_2 c_3 x11_4 ex11_4) hres hP hS (lv_sub hl [1, 2, 3, 4, 5, 6, 7, 8, 9, 10, 11, 0] rfl) hex
        · replace hres := hres.trans (if_neg c_3)
          refine lv_aload_n hx hb dX11_way_457 rfl (lv_at hl 0 rfl) ?_
          refine lv_iload hx hb dX11_way_458 (lv_at hl 5 rfl) ?_
          refine lv_iload hx hb dX11_way_460 (lv_at hl 8 rfl) ?_
          refine lv_iload_n hx hb dX11_way_462 rfl (lv_at hl 1 rfl) ?_
          refine lv_iload hx hb dX11_way_463 (lv_at hl 11 rfl) ?_
          refine lv_iload hx hb dX11_way_465 (lv_at hl 4 rfl) ?_
          refine lv_iload hx hb dX11_way_467 (lv_at hl 10 rfl) ?_
          refine x_callVi (As := [.int days, .int all_, .int town, .int k, .int z, .int to]) S hK hAm hD hP hS mt_X11_goesBy wd_987 ⟨by decide, by decide⟩ (hL 40 0 (xe_40 nb nn)) (xc40 g 0) rfl (c_X11_goesBy l nb nn g L N_ hD hL days all_ town k z to (ob_X11_way_469_p0 nb nn town sh i z days what M hp0 hp1 why all_ best to n k N_ hmu hinv c_1 r_2 er_2 c_3) (ob_X11_way_469_p1 nb nn town sh i z days what M hp0 hp1 why all_ best to n k N_ hmu hinv c_1 r_2 er_2 c_3) (ob_X11_way_469_p2 nb nn town sh i z days what M hp0 hp1 why all_ best to n k N_ hmu hinv c_1 r_2 er_2 c_3) (ob_X11_way_469_p3 nb nn town sh i z days what M hp0 hp1 why all_ best to n k N_ hmu hinv c_1 r_2 er_2 c_3) (ob_X11_way_469_p4 nb nn town sh i z days what M hp0 hp1 why all_ best to n k N_ hmu hinv c_1 r_2 er_2 c_3) (ob_X11_way_469_p5 nb nn town sh i z days what M hp0 hp1 why all_ best to n k N_ hmu hinv c_1 r_2 er_2 c_3) (ob_X11_way_469_p6 nb nn town sh i z days what M hp0 hp1 why all_ best to n k N_ hmu hinv c_1 r_2 er_2 c_3) (ob_X11_way_469_p7 nb nn town sh i z days what M hp0 hp1 why all_ best to n k N_ hmu hinv c_1 r_2 er_2 c_3) (ob_X11_way_469_p8 nb nn town sh i z days what M hp0 hp1 why all_ best to n k N_ hmu hinv c_1 r_2 er_2 c_3) (ob_X11_way_469_p9 nb nn town sh i z days what M hp0 hp1 why all_ best to n k N_ hmu hinv c_1 r_2 er_2 c_3) (ob_X11_way_469_p10 nb nn town sh i z days what M hp0 hp1 why all_ best to n k N_ hmu hinv c_1 r_2 er_2 c_3) (ob_X11_way_469_p11 nb nn town sh i z days what M hp0 hp1 why all_ best to n k N_ hmu hinv c_1 r_2 er_2 c_3)) rfl hl.1 (Nat.le_of_ble_eq_true rfl) ⟨Nat.zero_le _, Nat.zero_le _⟩ dX11_way_469 rfl (fun r_5 u H locs hp_ hP hS => ?_)
          obtain ⟨er_5, eu_⟩ := hp_
          rw [eu_] at hP
          clear eu_
          replace hres := xlet_n hres er_5
          refine lv_iload hx hb dX11_way_472 (lv_at hl 9 rfl) ?_
          refine lv_icmp_ne (tgt := 498) hx hb dX11_way_474 (by decide) (fun c_6 => ?_) (fun c_6 => ?_)
          · replace hres := hres.trans (if_neg c_6)
            obtain ⟨x11_7, ex11_7⟩ : ∃ z_ : Int32, z_ = k + 1 := ⟨_, rfl⟩
            replace hres := xlet_n hres ex11_7
            refine lv_iinc (v := x11_7) (lv' := [(11, .int x11_7), (0, .ref (xad g 40 0)), (1, .int town), (2, .int sh), (3, .int i), (4, .int z), (5, .int days), (6, .int what), (7, .int why), (8, .int all_), (9, .int best), (10, .int to)]) hx hb dX11_way_498 hl (k := 11) rfl (by rw [ex11_7]; rfl) (by decide) rfl (fun ls hl => ?_)
            refine lv_goto (tgt := 438) hx hb dX11_way_501 (by decide) ?_
            exact ih x11_7 _ _ _ kx (ob_X11_way_438_mu_7 nb nn town sh i z days what M hp0 hp1 why all_ best to n k N_ hmu hinv c_1 r_2 er_2 c_3 r_5 er_5 c_6 x11_7 ex11_7) (ob_X11_way_438_inv_7 nb nn town sh i z days what M hp0 hp1 why all_ best to n k N_ hmu hinv c_1 r_2 er_2 c_3 r_5 er_5 c_6 x11_7 ex11_7) hres hP hS (lv_sub hl [1, 2, 3, 4, 5, 6, 7, 8, 9, 10, 11, 0] rfl) hex
          · replace hres := hres.trans (if_pos c_6)
            refine lv_bipush (v := 16) hx hb dX11_way_477 (by decide) ?_
            refine lv_iload hx hb dX11_way_479 (lv_at hl 10 rfl) ?_
            refine lv_imul hx hb dX11_way_481 ?_
            refine lv_iload hx hb dX11_way_482 (lv_at hl 11 rfl) ?_
            refine lv_iload hx hb dX11_way_484 (lv_at hl 4 rfl) ?_
            refine lv_icmp_ne (tgt := 494) hx hb dX11_way_486 (by decide) (fun c_8 => ?_) (fun c_8 => ?_)
            · replace hres := hres.trans (if_neg c_8)
              refine lv_iload hx hb dX11_way_494 (lv_at hl 11 rfl) ?_
              refine lv_iadd hx hb dX11_way_496 ?_
              exact x_reti hx hb hr hlk hP hS (hres.symm.trans hF) dX11_way_497
            · replace hres := hres.trans (if_pos c_8)
              refine lv_bipush (v := 15) hx hb dX11_way_489 (by decide) ?_
              refine lv_goto (tgt := 496) hx hb dX11_way_491 (by decide) ?_
              refine lv_iadd hx hb dX11_way_496 ?_
              exact x_reti hx hb hr hlk hP hS (hres.symm.trans hF) dX11_way_497
  have k_428 : ∀ (why : Int32) (all_ : Int32) (best : Int32) (N_ : xM) (n : Nat) (to : Int32) (H : Heap) (locs : List Loc) (ls : Array Slot) (kx : (Int32 → Int32 × xM)), xmu to 6 < n → 0 ≤ to ∧ 0 ≤ all_ ∧ all_ < 256 ∧ 1 ≤ days ∧ days ≤ 6 ∧ 0 ≤ town ∧ town ≤ 5 ∧ 1 ≤ z ∧ z ≤ 8 ∧ wI N_ z → F = f_X11_way_L428 town sh i z days what why all_ best N_ n to kx → xP g L N_ H → va_S (xA g L s.heap.size) s.heap H locs → lv_has ls 15 [(0, .ref (xad g 40 0)), (1, .int town), (2, .int sh), (3, .int i), (4, .int z), (5, .int days), (6, .int what), (7, .int why), (8, .int all_), (9, .int best), (10, .int to)] → (∀ (to : Int32) (H : Heap) (locs : List Loc) (ls : Array Slot), 0 ≤ to ∧ 0 ≤ all_ ∧ all_ < 256 ∧ 1 ≤ days ∧ days ≤ 6 ∧ 0 ≤ town ∧ town ≤ 5 ∧ 1 ≤ z ∧ z ≤ 8 ∧ wI N_ z → F = kx to → xP g L N_ H → va_S (xA g L s.heap.size) s.heap H locs → lv_has ls 15 [(0, .ref (xad g 40 0)), (1, .int town), (2, .int sh), (3, .int i), (4, .int z), (5, .int days), (6, .int what), (7, .int why), (8, .int all_), (9, .int best), (10, .int to)] → W p l e (xr 2) s m args below meth c H locs 0 0 (MQ below (va_Qi (fun r u => (r, u) = f_X11_way town sh i z days what M) (xPost g L) (xA g L s.heap.size)) args s 0 0 (xA g L s.heap.size)) (F0 m 510 ls [])) → W p l e (xr 2) s m args below meth c H locs 0 0 (MQ below (va_Qi (fun r u => (r, u) = f_X11_way town sh i z days what M) (xPost g L) (xA g L s.heap.size)) args s 0 0 (xA g L s.heap.size)) (F0 m 428 ls []) := by
    intro why all_ best N_ n
    induction n with
    | zero => intro to H locs ls kx hmu; exact absurd hmu (Nat.not_lt_zero _)
    | succ n ih =>
      intro to H locs ls kx hmu hinv hres hP hS hl hex
      replace hres : F = _ := hres.trans (by rw [f_X11_way_L428])
      refine lv_iload hx hb dX11_way_428 (lv_at hl 10 rfl) ?_
      refine lv_bipush (v := 6) hx hb dX11_way_430 (by decide) ?_
      refine lv_icmp_ge (tgt := 510) hx hb dX11_way_432 (by decide) (fun c_9 => ?_) (fun c_9 => ?_)
      · replace hres := hres.trans (if_pos c_9)
        exact hex to _ _ _ (ob_X11_way_510_x428 nb nn town sh i z days what M hp0 hp1 why all_ best n to N_ hmu hinv c_9) hres hP hS (lv_sub hl [0, 1, 2, 3, 4, 5, 6, 7, 8, 9, 10] rfl)
      · replace hres := hres.trans (if_neg c_9)
        refine lv_iconst (v := 0) hx hb dX11_way_435 (by decide) ?_
        refine lv_istore (lv' := [(11, .int 0), (0, .ref (xad g 40 0)), (1, .int town), (2, .int sh), (3, .int i), (4, .int z), (5, .int days), (6, .int what), (7, .int why), (8, .int all_), (9, .int best), (10, .int to)]) hx hb dX11_way_436 hl (by decide) rfl (fun ls hl => ?_)
        refine k_438 why all_ best to N_ (xmu (0 : Int32) (z + 1) + 1) (0 : Int32) _ _ _ _ (Nat.lt_succ_self _) (ob_X11_way_438_ini_9 nb nn town sh i z days what M hp0 hp1 why all_ best n to N_ hmu hinv c_9) hres hP hS (lv_sub hl [1, 2, 3, 4, 5, 6, 7, 8, 9, 10, 11, 0] rfl) ?_
        clear hres hP hS hl
        intro k_10 H locs ls hiv_10 hres hP hS hl
        obtain ⟨x10_11, ex10_11⟩ : ∃ z_ : Int32, z_ = to + 1 := ⟨_, rfl⟩
        replace hres := xlet_n hres ex10_11
        refine lv_iinc (v := x10_11) (lv' := [(10, .int x10_11), (0, .ref (xad g 40 0)), (1, .int town), (2, .int sh), (3, .int i), (4, .int z), (5, .int days), (6, .int what), (7, .int why), (8, .int all_), (9, .int best), (11, .int k_10)]) hx hb dX11_way_504 hl (k := 10) rfl (by rw [ex10_11]; rfl) (by decide) rfl (fun ls hl => ?_)
        refine lv_goto (tgt := 428) hx hb dX11_way_507 (by decide) ?_
        exact ih x10_11 _ _ _ kx (ob_X11_way_428_mu_11 nb nn town sh i z days what M hp0 hp1 why all_ best n to N_ hmu hinv c_9 k_10 hiv_10 x10_11 ex10_11) (ob_X11_way_428_inv_11 nb nn town sh i z days what M hp0 hp1 why all_ best n to N_ hmu hinv c_9 k_10 hiv_10 x10_11 ex10_11) hres hP hS (lv_sub hl [1, 2, 3, 4, 5, 6, 7, 8, 9, 10, 0] rfl) hex
  have k_258 : ∀ (why : Int32) (day : Int32) (t : Int32) (set_ : Int32) (k : Int32) (N_ : xM) (n : Nat) (best : Int32) (to : Int32) (H : Heap) (locs : List Loc) (ls : Array Slot) (kx : (Int32 → Int32 → Int32 × xM)), xmu to 6 < n → 0 ≤ to ∧ 1 ≤ day ∧ day ≤ 6 ∧ 0 ≤ t ∧ t < 6 ∧ 0 ≤ set_ ∧ set_ < 256 ∧ 0 ≤ k ∧ k ≤ z ∧ 1 ≤ z ∧ z ≤ 8 ∧ wI N_ z → F = f_X11_way_L258 town sh i z days what why day t set_ k N_ n best to kx → xP g L N_ H → va_S (xA g L s.heap.size) s.heap H locs → lv_has ls 15 [(0, .ref (xad g 40 0)), (1, .int town), (2, .int sh), (3, .int i), (4, .int z), (5, .int days), (6, .int what), (7, .int why), (8, .int day), (9, .int t), (10, .int set_), (12, .int k), (11, .int best), (13, .int to)] → (∀ (best : Int32) (to : Int32) (H : Heap) (locs : List Loc) (ls : Array Slot), 0 ≤ to ∧ 1 ≤ day ∧ day ≤ 6 ∧ 0 ≤ t ∧ t < 6 ∧ 0 ≤ set_ ∧ set_ < 256 ∧ 0 ≤ k ∧ k ≤ z ∧ 1 ≤ z ∧ z ≤ 8 ∧ wI N_ z → F = kx best to → xP g L N_ H → va_S (xA g L s.heap.size) s.heap H locs → lv_has ls 15 [(0, .ref (xad g 40 0)), (1, .int town), (2, .int sh), (3, .int i), (4, .int z), (5, .int days), (6, .int what), (7, .int why), (8, .int day), (9, .int t), (10, .int set_), (12, .int k), (11, .int best), (13, .int to)] → W p l e (xr 2) s m args below meth c H locs 0 0 (MQ below (va_Qi (fun r u => (r, u) = f_X11_way town sh i z days what M) (xPost g L) (xA g L s.heap.size)) args s 0 0 (xA g L s.heap.size)) (F0 m 340 ls [])) → W p l e (xr 2) s m args below meth c H locs 0 0 (MQ below (va_Qi (fun r u => (r, u) = f_X11_way town sh i z days what M) (xPost g L) (xA g L s.heap.size)) args s 0 0 (xA g L s.heap.size)) (F0 m 258 ls []) := by
    intro why day t set_ k N_ n
    induction n with
    | zero => intro best to H locs ls kx hmu; exact absurd hmu (Nat.not_lt_zero _)
    | succ n ih =>
      intro best to H locs ls kx hmu hinv hres hP hS hl hex
      replace hres : F = _ := hres.trans (by rw [f_X11_way_L258])
      refine lv_iload hx hb dX11_way_258 (lv_at hl 13 rfl) ?_
      refine lv_bipush (v := 6) hx hb dX11_way_260 (by decide) ?_
      refine lv_icmp_ge (tgt := 340) hx hb dX11_way_262 (by decide) (fun c_12 => ?_) (fun c_12 => ?_)
      · replace hres := hres.trans (if_pos c_12)
        exact hex best to _ _ _ (ob_X11_way_340_x258 nb nn town sh i z days what M hp0 hp1 why day t set_ k n best to N_ hmu hinv c_12) hres hP hS (lv_sub hl [0, 1, 2, 3, 4, 5, 6, 7, 8, 9, 10, 11, 12, 13] rfl)
      · replace hres := hres.trans (if_neg c_12)
        refine lv_iload hx hb dX11_way_265 (lv_at hl 11 rfl) ?_
        refine lv_iload hx hb dX11_way_267 (lv_at hl 4 rfl) ?_
        refine lv_icmp_eq (tgt := 283) hx hb dX11_way_269 (by decide) (fun c_13 => ?_) (fun c_13 => ?_)
        · replace hres := hres.trans (if_pos c_13)
          refine lv_aload_n hx hb dX11_way_283 rfl (lv_at hl 0 rfl) ?_
          refine lv_iload hx hb dX11_way_284 (lv_at hl 8 rfl) ?_
          refine lv_iload hx hb dX11_way_286 (lv_at hl 9 rfl) ?_
          refine lv_iload hx hb dX11_way_288 (lv_at hl 13 rfl) ?_
          refine x_callVi (As := [.int day, .int t, .int to]) S hK hAm hD hP hS mt_X11_mayGo wd_983 ⟨by decide, by decide⟩ (hL 40 0 (xe_40 nb nn)) (xc40 g 0) rfl (c_X11_mayGo l nb nn g L N_ hD hL day t to (ob_X11_way_290_p0 nb nn town sh i z days what M hp0 hp1 why day t set_ k n best to N_ hmu hinv c_12 c_13) (ob_X11_way_290_p1 nb nn town sh i z days what M hp0 hp1 why day t set_ k n best to N_ hmu hinv c_12 c_13) (ob_X11_way_290_p2 nb nn town sh i z days what M hp0 hp1 why day t set_ k n best to N_ hmu hinv c_12 c_13) (ob_X11_way_290_p3 nb nn town sh i z days what M hp0 hp1 why day t set_ k n best to N_ hmu hinv c_12 c_13)) rfl hl.1 (Nat.le_of_ble_eq_true rfl) ⟨Nat.zero_le _, Nat.zero_le _⟩ dX11_way_290 rfl (fun r_14 u H locs hp_ hP hS => ?_)
          obtain ⟨er_14, eu_⟩ := hp_
          rw [eu_] at hP
          clear eu_
          replace hres := xlet_n hres er_14
          refine lv_if_eq (tgt := 315) hx hb dX11_way_293 (by decide) (fun c_15 => ?_) (fun c_15 => ?_)
          · replace hres := hres.trans (if_pos c_15)
            refine lv_iconst (v := 0) hx hb dX11_way_315 (by decide) ?_
            refine lv_istore (lv' := [(14, .int 0), (0, .ref (xad g 40 0)), (1, .int town), (2, .int sh), (3, .int i), (4, .int z), (5, .int days), (6, .int what), (7, .int why), (8, .int day), (9, .int t), (10, .int set_), (12, .int k), (11, .int best), (13, .int to)]) hx hb dX11_way_316 hl (by decide) rfl (fun ls hl => ?_)
            refine lv_iload hx hb dX11_way_318 (lv_at hl 0 rfl) ?_
            refine lv_iload hx hb dX11_way_320 (lv_at hl 13 rfl) ?_
            refine lv_icmp_le (tgt := 330) hx hb dX11_way_322 (by decide) (fun c_16 => ?_) (fun c_16 => ?_)
            · replace hres := hres.trans (if_pos c_16)
              refine lv_iload hx hb dX11_way_330 (lv_at hl 13 rfl) ?_
              refine lv_istore (lv' := [(11, .int best), (14, .int 0), (0, .ref (xad g 40 0)), (1, .int town), (2, .int sh), (3, .int i), (4, .int z), (5, .int days), (6, .int what), (7, .int why), (8, .int day), (9, .int t), (10, .int set_), (12, .int k), (13, .int to)]) hx hb dX11_way_332 hl (by decide) rfl (fun ls hl => ?_)
              obtain ⟨x13_17, ex13_17⟩ : ∃ z_ : Int32, z_ = to + 1 := ⟨_, rfl⟩
              replace hres := xlet_n hres ex13_17
              refine lv_iinc (v := x13_17) (lv' := [(13, .int x13_17), (11, .int best), (14, .int 0), (0, .ref (xad g 40 0)), (1, .int town), (2, .int sh), (3, .int i), (4, .int z), (5, .int days), (6, .int what), (7, .int why), (8, .int day), (9, .int t), (10, .int set_), (12, .int k)]) hx hb dX11_way_334 hl (k := 14) rfl (by rw [ex13_17]; rfl) (by decide) rfl (fun ls hl => ?_)
              refine lv_goto (tgt := 258) hx hb dX11_way_337 (by decide) ?_
              exact ih best x13_17 _ _ _ kx (ob_X11_way_258_mu_17 nb nn town sh i z days what M hp0 hp1 why day t set_ k n best to N_ hmu hinv c_12 c_13 r_14 er_14 c_15 c_16 x13_17 ex13_17) (ob_X11_way_258_inv_17 nb nn town sh i z days what M hp0 hp1 why day t set_ k n best to N_ hmu hinv c_12 c_13 r_14 er_14 c_15 c_16 x13_17 ex13_17) hres hP hS (lv_sub hl [3, 4, 5, 6, 7, 8, 9, 10, 11, 12, 13, 14, 1, 0] rfl) hex
            · replace hres := hres.trans (if_neg c_16)
              refine lv_iload hx hb dX11_way_325 (lv_at hl 0 rfl) ?_
              refine lv_goto (tgt := 332) hx hb dX11_way_327 (by decide) ?_
              refine lv_istore (lv' := [(11, .int 0), (14, .int 0), (0, .ref (xad g 40 0)), (1, .int town), (2, .int sh), (3, .int i), (4, .int z), (5, .int days), (6, .int what), (7, .int why), (8, .int day), (9, .int t), (10, .int set_), (12, .int k), (13, .int to)]) hx hb dX11_way_332 hl (by decide) rfl (fun ls hl => ?_)
              obtain ⟨x13_18, ex13_18⟩ : ∃ z_ : Int32, z_ = to + 1 := ⟨_, rfl⟩
              replace hres := xlet_n hres ex13_18
              refine lv_iinc (v := x13_18) (lv' := [(13, .int x13_18), (11, .int 0), (14, .int 0), (0, .ref (xad g 40 0)), (1, .int town), (2, .int sh), (3, .int i), (4, .int z), (5, .int days), (6, .int what), (7, .int why), (8, .int day), (9, .int t), (10, .int set_), (12, .int k)]) hx hb dX11_way_334 hl (k := 14) rfl (by rw [ex13_18]; rfl) (by decide) rfl (fun ls hl => ?_)
              refine lv_goto (tgt := 258) hx hb dX11_way_337 (by decide) ?_
              exact ih (0 : Int32) x13_18 _ _ _ kx (ob_X11_way_258_mu_18 nb nn town sh i z days what M hp0 hp1 why day t set_ k n best to N_ hmu hinv c_12 c_13 r_14 er_14 c_15 c_16 x13_18 ex13_18) (ob_X11_way_258_inv_18 nb nn town sh i z days what M hp0 hp1 why day t set_ k n best to N_ hmu hinv c_12 c_13 r_14 er_14 c_15 c_16 x13_18 ex13_18) hres hP hS (lv_sub hl [3, 4, 5, 6, 7, 8, 9, 10, 11, 12, 13, 14, 1, 0] rfl) hex
          · replace hres := hres.trans (if_neg c_15)
            refine lv_aload_n hx hb dX11_way_296 rfl (lv_at hl 0 rfl) ?_
            refine lv_iload hx hb dX11_way_297 (lv_at hl 8 rfl) ?_
            refine lv_iload hx hb dX11_way_299 (lv_at hl 10 rfl) ?_
            refine lv_iload hx hb dX11_way_301 (lv_at hl 9 rfl) ?_
            refine lv_iload hx hb dX11_way_303 (lv_at hl 11 rfl) ?_
            refine lv_iload hx hb dX11_way_305 (lv_at hl 4 rfl) ?_
            refine lv_iload hx hb dX11_way_307 (lv_at hl 13 rfl) ?_
            refine x_callVi (As := [.int day, .int set_, .int t, .int k, .int z, .int to]) S hK hAm hD hP hS mt_X11_goesBy wd_987 ⟨by decide, by decide⟩ (hL 40 0 (xe_40 nb nn)) (xc40 g 0) rfl (c_X11_goesBy l nb nn g L N_ hD hL day set_ t k z to (ob_X11_way_309_p0 nb nn town sh i z days what M hp0 hp1 why day t set_ k n best to N_ hmu hinv c_12 c_13 r_14 er_14 c_15) (ob_X11_way_309_p1 nb nn town sh i z days what M hp0 hp1 why day t set_ k n best to N_ hmu hinv c_12 c_13 r_14 er_14 c_15) (ob_X11_way_309_p2 nb nn town sh i z days what M hp0 hp1 why day t set_ k n best to N_ hmu hinv c_12 c_13 r_14 er_14 c_15) (ob_X11_way_309_p3 nb nn town sh i z days what M hp0 hp1 why day t set_ k n best to N_ hmu hinv c_12 c_13 r_14 er_14 c_15) (ob_X11_way_309_p4 nb nn town sh i z days what M hp0 hp1 why day t set_ k n best to N_ hmu hinv c_12 c_13 r_14 er_14 c_15) (ob_X11_way_309_p5 nb nn town sh i z days what M hp0 hp1 why day t set_ k n best to N_ hmu hinv c_12 c_13 r_14 er_14 c_15) (ob_X11_way_309_p6 nb nn town sh i z days what M hp0 hp1 why day t set_ k n best to N_ hmu hinv c_12 c_13 r_14 er_14 c_15) (ob_X11_way_309_p7 nb nn town sh i z days what M hp0 hp1 why day t set_ k n best to N_ hmu hinv c_12 c_13 r_14 er_14 c_15) (ob_X11_way_309_p8 nb nn town sh i z days what M hp0 hp1 why day t set_ k n best to N_ hmu hinv c_12 c_13 r_14 er_14 c_15) (ob_X11_way_309_p9 nb nn town sh i z days what M hp0 hp1 why day t set_ k n best to N_ hmu hinv c_12 c_13 r_14 er_14 c_15) (ob_X11_way_309_p10 nb nn town sh i z days what M hp0 hp1 why day t set_ k n best to N_ hmu hinv c_12 c_13 r_14 er_14 c_15) (ob_X11_way_309_p11 nb nn town sh i z days what M hp0 hp1 why day t set_ k n best to N_ hmu hinv c_12 c_13 r_14 er_14 c_15)) rfl hl.1 (Nat.le_of_ble_eq_true rfl) ⟨Nat.zero_le _, Nat.zero_le _⟩ dX11_way_309 rfl (fun r_19 u H locs hp_ hP hS => ?_)
            obtain ⟨er_19, eu_⟩ := hp_
            rw [eu_] at hP
            clear eu_
            replace hres := xlet_n hres er_19
            refine lv_goto (tgt := 316) hx hb dX11_way_312 (by decide) ?_
            refine lv_istore (lv' := [(14, .int r_19), (0, .ref (xad g 40 0)), (1, .int town), (2, .int sh), (3, .int i), (4, .int z), (5, .int days), (6, .int what), (7, .int why), (8, .int day), (9, .int t), (10, .int set_), (12, .int k), (11, .int best), (13, .int to)]) hx hb dX11_way_316 hl (by decide) rfl (fun ls hl => ?_)
            refine lv_iload hx hb dX11_way_318 (lv_at hl 0 rfl) ?_
            refine lv_iload hx hb dX11_way_320 (lv_at hl 13 rfl) ?_
            refine lv_icmp_le (tgt := 330) hx hb dX11_way_322 (by decide) (fun c_20 => ?_) (fun c_20 => ?_)
            · replace hres := hres.trans (if_pos c_20)
              refine lv_iload hx hb dX11_way_330 (lv_at hl 13 rfl) ?_
              refine lv_istore (lv' := [(11, .int best), (14, .int r_19), (0, .ref (xad g 40 0)), (1, .int town), (2, .int sh), (3, .int i), (4, .int z), (5, .int days), (6, .int what), (7, .int why), (8, .int day), (9, .int t), (10, .int set_), (12, .int k), (13, .int to)]) hx hb dX11_way_332 hl (by decide) rfl (fun ls hl => ?_)
              obtain ⟨x13_21, ex13_21⟩ : ∃ z_ : Int32, z_ = to + 1 := ⟨_, rfl⟩
              replace hres := xlet_n hres ex13_21
              refine lv_iinc (v := x13_21) (lv' := [(13, .int x13_21), (11, .int best), (14, .int r_19), (0, .ref (xad g 40 0)), (1, .int town), (2, .int sh), (3, .int i), (4, .int z), (5, .int days), (6, .int what), (7, .int why), (8, .int day), (9, .int t), (10, .int set_), (12, .int k)]) hx hb dX11_way_334 hl (k := 14) rfl (by rw [ex13_21]; rfl) (by decide) rfl (fun ls hl => ?_)
              refine lv_goto (tgt := 258) hx hb dX11_way_337 (by decide) ?_
              exact ih best x13_21 _ _ _ kx (ob_X11_way_258_mu_21 nb nn town sh i z days what M hp0 hp1 why day t set_ k n best to N_ hmu hinv c_12 c_13 r_14 er_14 c_15 r_19 er_19 c_20 x13_21 ex13_21) (ob_X11_way_258_inv_21 nb nn town sh i z days what M hp0 hp1 why day t set_ k n best to N_ hmu hinv c_12 c_13 r_14 er_14 c_15 r_19 er_19 c_20 x13_21 ex13_21) hres hP hS (lv_sub hl [3, 4, 5, 6, 7, 8, 9, 10, 11, 12, 13, 14, 1, 0] rfl) hex
            · replace hres := hres.trans (if_neg c_20)
              refine lv_iload hx hb dX11_way_325 (lv_at hl 0 rfl) ?_
              refine lv_goto (tgt := 332) hx hb dX11_way_327 (by decide) ?_
              refine lv_istore (lv' := [(11, .int r_19), (14, .int r_19), (0, .ref (xad g 40 0)), (1, .int town), (2, .int sh), (3, .int i), (4, .int z), (5, .int days), (6, .int what), (7, .int why), (8, .int day), (9, .int t), (10, .int set_), (12, .int k), (13, .int to)]) hx hb dX11_way_332 hl (by decide) rfl (fun ls hl => ?_)
              obtain ⟨x13_22, ex13_22⟩ : ∃ z_ : Int32, z_ = to + 1 := ⟨_, rfl⟩
              replace hres := xlet_n hres ex13_22
              refine lv_iinc (v := x13_22) (lv' := [(13, .int x13_22), (11, .int r_19), (14, .int r_19), (0, .ref (xad g 40 0)), (1, .int town), (2, .int sh), (3, .int i), (4, .int z), (5, .int days), (6, .int what), (7, .int why), (8, .int day), (9, .int t), (10, .int set_), (12, .int k)]) hx hb dX11_way_334 hl (k := 14) rfl (by rw [ex13_22]; rfl) (by decide) rfl (fun ls hl => ?_)
              refine lv_goto (tgt := 258) hx hb dX11_way_337 (by decide) ?_
              exact ih r_19 x13_22 _ _ _ kx (ob_X11_way_258_mu_22 nb nn town sh i z days what M hp0 hp1 why day t set_ k n best to N_ hmu hinv c_12 c_13 r_14 er_14 c_15 r_19 er_19 c_20 x13_22 ex13_22) (ob_X11_way_258_inv_22 nb nn town sh i z days what M hp0 hp1 why day t set_ k n best to N_ hmu hinv c_12 c_13 r_14 er_14 c_15 r_19 er_19 c_20 x13_22 ex13_22) hres hP hS (lv_sub hl [3, 4, 5, 6, 7, 8, 9, 10, 11, 12, 13, 14, 1, 0] rfl) hex
        · replace hres := hres.trans (if_neg c_13)
          refine lv_iload hx hb dX11_way_272 (lv_at hl 10 rfl) ?_
          refine lv_iload hx hb dX11_way_274 (lv_at hl 11 rfl) ?_
          refine lv_ishr hx hb dX11_way_276 ?_
          refine lv_iconst (v := 1) hx hb dX11_way_277 (by decide) ?_
          refine lv_iand hx hb dX11_way_278 ?_
          refine lv_iconst (v := 1) hx hb dX11_way_279 (by decide) ?_
          refine lv_icmp_ne (tgt := 340) hx hb dX11_way_280 (by decide) (fun c_23 => ?_) (fun c_23 => ?_)
          · replace hres := hres.trans (if_neg c_23)
            exact hex best to _ _ _ (ob_X11_way_340_x258_2 nb nn town sh i z days what M hp0 hp1 why day t set_ k n best to N_ hmu hinv c_12 c_13 c_23) hres hP hS (lv_sub hl [0, 1, 2, 3, 4, 5, 6, 7, 8, 9, 10, 11, 12, 13] rfl)
          · replace hres := hres.trans (if_pos c_23)
            refine lv_aload_n hx hb dX11_way_283 rfl (lv_at hl 0 rfl) ?_
            refine lv_iload hx hb dX11_way_284 (lv_at hl 8 rfl) ?_
            refine lv_iload hx hb dX11_way_286 (lv_at hl 9 rfl) ?_
            refine lv_iload hx hb dX11_way_288 (lv_at hl 13 rfl) ?_
            refine x_callVi (As := [.int day, .int t, .int to]) S hK hAm hD hP hS mt_X11_mayGo wd_983 ⟨by decide, by decide⟩ (hL 40 0 (xe_40 nb nn)) (xc40 g 0) rfl (c_X11_mayGo l nb nn g L N_ hD hL day t to (ob_X11_way_290_p0_2 nb nn town sh i z days what M hp0 hp1 why day t set_ k n best to N_ hmu hinv c_12 c_13 c_23) (ob_X11_way_290_p1_2 nb nn town sh i z days what M hp0 hp1 why day t set_ k n best to N_ hmu hinv c_12 c_13 c_23) (ob_X11_way_290_p2_2 nb nn town sh i z days what M hp0 hp1 why day t set_ k n best to N_ hmu hinv c_12 c_13 c_23) (ob_X11_way_290_p3_2 nb nn town sh i z days what M hp0 hp1 why day t set_ k n best to N_ hmu hinv c_12 c_13 c_23)) rfl hl.1 (Nat.le_of_ble_eq_true rfl) ⟨Nat.zero_le _, Nat.zero_le _⟩ dX11_way_290 rfl (fun r_24 u H locs hp_ hP hS => ?_)
            obtain ⟨er_24, eu_⟩ := hp_
            rw [eu_] at hP
            clear eu_
            replace hres := xlet_n hres er_24
            refine lv_if_eq (tgt := 315) hx hb dX11_way_293 (by decide) (fun c_25 => ?_) (fun c_25 => ?_)
            · replace hres := hres.trans (if_pos c_25)
              refine lv_iconst (v := 0) hx hb dX11_way_315 (by decide) ?_
              refine lv_istore (lv' := [(14, .int 0), (0, .ref (xad g 40 0)), (1, .int town), (2, .int sh), (3, .int i), (4, .int z), (5, .int days), (6, .int what), (7, .int why), (8, .int day), (9, .int t), (10, .int set_), (12, .int k), (11, .int best), (13, .int to)]) hx hb dX11_way_316 hl (by decide) rfl (fun ls hl => ?_)
              refine lv_iload hx hb dX11_way_318 (lv_at hl 0 rfl) ?_
              refine lv_iload hx hb dX11_way_320 (lv_at hl 13 rfl) ?_
              refine lv_icmp_le (tgt := 330) hx hb dX11_way_322 (by decide) (fun c_26 => ?_) (fun c_26 => ?_)
              · replace hres := hres.trans (if_pos c_26)
                refine lv_iload hx hb dX11_way_330 (lv_at hl 13 rfl) ?_
                refine lv_istore (lv' := [(11, .int best), (14, .int 0), (0, .ref (xad g 40 0)), (1, .int town), (2, .int sh), (3, .int i), (4, .int z), (5, .int days), (6, .int what), (7, .int why), (8, .int day), (9, .int t), (10, .int set_), (12, .int k), (13, .int to)]) hx hb dX11_way_332 hl (by decide) rfl (fun ls hl => ?_)
                obtain ⟨x13_27, ex13_27⟩ : ∃ z_ : Int32, z_ = to + 1 := ⟨_, rfl⟩
                replace hres := xlet_n hres ex13_27
                refine lv_iinc (v := x13_27) (lv' := [(13, .int x13_27), (11, .int best), (14, .int 0), (0, .ref (xad g 40 0)), (1, .int town), (2, .int sh), (3, .int i), (4, .int z), (5, .int days), (6, .int what), (7, .int why), (8, .int day), (9, .int t), (10, .int set_), (12, .int k)]) hx hb dX11_way_334 hl (k := 14) rfl (by rw [ex13_27]; rfl) (by decide) rfl (fun ls hl => ?_)
                refine lv_goto (tgt := 258) hx hb dX11_way_337 (by decide) ?_
                exact ih best x13_27 _ _ _ kx (ob_X11_way_258_mu_27 nb nn town sh i z days what M hp0 hp1 why day t set_ k n best to N_ hmu hinv c_12 c_13 c_23 r_24 er_24 c_25 c_26 x13_27 ex13_27) (ob_X11_way_258_inv_27 nb nn town sh i z days what M hp0 hp1 why day t set_ k n best to N_ hmu hinv c_12 c_13 c_23 r_24 er_24 c_25 c_26 x13_27 ex13_27) hres hP hS (lv_sub hl [3, 4, 5, 6, 7, 8, 9, 10, 11, 12, 13, 14, 1, 0] rfl) hex
              · replace hres := hres.trans (if_neg c_26)
                refine lv_iload hx hb dX11_way_325 (lv_at hl 0 rfl) ?_
                refine lv_goto (tgt := 332) hx hb dX11_way_327 (by decide) ?_
                refine lv_istore (lv' := [(11, .int 0), (14, .int 0), (0, .ref (xad g 40 0)), (1, .int town), (2, .int sh), (3, .int i), (4, .int z), (5, .int days), (6, .int what), (7, .int why), (8, .int day), (9, .int t), (10, .int set_), (12, .int k), (13, .int to)]) hx hb dX11_way_332 hl (by decide) rfl (fun ls hl => ?_)
                obtain ⟨x13_28, ex13_28⟩ : ∃ z_ : Int32, z_ = to + 1 := ⟨_, rfl⟩
                replace hres := xlet_n hres ex13_28
                refine lv_iinc (v := x13_28) (lv' := [(13, .int x13_28), (11, .int 0), (14, .int 0), (0, .ref (xad g 40 0)), (1, .int town), (2, .int sh), (3, .int i), (4, .int z), (5, .int days), (6, .int what), (7, .int why), (8, .int day), (9, .int t), (10, .int set_), (12, .int k)]) hx hb dX11_way_334 hl (k := 14) rfl (by rw [ex13_28]; rfl) (by decide) rfl (fun ls hl => ?_)
                refine lv_goto (tgt := 258) hx hb dX11_way_337 (by decide) ?_
                exact ih (0 : Int32) x13_28 _ _ _ kx (ob_X11_way_258_mu_28 nb nn town sh i z days what M hp0 hp1 why day t set_ k n best to N_ hmu hinv c_12 c_13 c_23 r_24 er_24 c_25 c_26 x13_28 ex13_28) (ob_X11_way_258_inv_28 nb nn town sh i z days what M hp0 hp1 why day t set_ k n best to N_ hmu hinv c_12 c_13 c_23 r_24 er_24 c_25 c_26 x13_28 ex13_28) hres hP hS (lv_sub hl [3, 4, 5, 6, 7, 8, 9, 10, 11, 12, 13, 14, 1, 0] rfl) hex
            · replace hres := hres.trans (if_neg c_25)
              refine lv_aload_n hx hb dX11_way_296 rfl (lv_at hl 0 rfl) ?_
              refine lv_iload hx hb dX11_way_297 (lv_at hl 8 rfl) ?_
              refine lv_iload hx hb dX11_way_299 (lv_at hl 10 rfl) ?_
              refine lv_iload hx hb dX11_way_301 (lv_at hl 9 rfl) ?_
              refine lv_iload hx hb dX11_way_303 (lv_at hl 11 rfl) ?_
              refine lv_iload hx hb dX11_way_305 (lv_at hl 4 rfl) ?_
              refine lv_iload hx hb dX11_way_307 (lv_at hl 13 rfl) ?_
              refine x_callVi (As := [.int day, .int set_, .int t, .int k, .int z, .int to]) S hK hAm hD hP hS mt_X11_goesBy wd_987 ⟨by decide, by decide⟩ (hL 40 0 (xe_40 nb nn)) (xc40 g 0) rfl (c_X11_goesBy l nb nn g L N_ hD hL day set_ t k z to (ob_X11_way_309_p0_2 nb nn town sh i z days what M hp0 hp1 why day t set_ k n best to N_ hmu hinv c_12 c_13 c_23 r_24 er_24 c_25) (ob_X11_way_309_p1_2 nb nn town sh i z days what M hp0 hp1 why day t set_ k n best to N_ hmu hinv c_12 c_13 c_23 r_24 er_24 c_25) (ob_X11_way_309_p2_2 nb nn town sh i z days what M hp0 hp1 why day t set_ k n best to N_ hmu hinv c_12 c_13 c_23 r_24 er_24 c_25) (ob_X11_way_309_p3_2 nb nn town sh i z days what M hp0 hp1 why day t set_ k n best to N_ hmu hinv c_12 c_13 c_23 r_24 er_24 c_25) (ob_X11_way_309_p4_2 nb nn town sh i z days what M hp0 hp1 why day t set_ k n best to N_ hmu hinv c_12 c_13 c_23 r_24 er_24 c_25) (ob_X11_way_309_p5_2 nb nn town sh i z days what M hp0 hp1 why day t set_ k n best to N_ hmu hinv c_12 c_13 c_23 r_24 er_24 c_25) (ob_X11_way_309_p6_2 nb nn town sh i z days what M hp0 hp1 why day t set_ k n best to N_ hmu hinv c_12 c_13 c_23 r_24 er_24 c_25) (ob_X11_way_309_p7_2 nb nn town sh i z days what M hp0 hp1 why day t set_ k n best to N_ hmu hinv c_12 c_13 c_23 r_24 er_24 c_25) (ob_X11_way_309_p8_2 nb nn town sh i z days what M hp0 hp1 why day t set_ k n best to N_ hmu hinv c_12 c_13 c_23 r_24 er_24 c_25) (ob_X11_way_309_p9_2 nb nn town sh i z days what M hp0 hp1 why day t set_ k n best to N_ hmu hinv c_12 c_13 c_23 r_24 er_24 c_25) (ob_X11_way_309_p10_2 nb nn town sh i z days what M hp0 hp1 why day t set_ k n best to N_ hmu hinv c_12 c_13 c_23 r_24 er_24 c_25) (ob_X11_way_309_p11_2 nb nn town sh i z days what M hp0 hp1 why day t set_ k n best to N_ hmu hinv c_12 c_13 c_23 r_24 er_24 c_25)) rfl hl.1 (Nat.le_of_ble_eq_true rfl) ⟨Nat.zero_le _, Nat.zero_le _⟩ dX11_way_309 rfl (fun r_29 u H locs hp_ hP hS => ?_)
              obtain ⟨er_29, eu_⟩ := hp_
              rw [eu_] at hP
              clear eu_
              replace hres := xlet_n hres er_29
              refine lv_goto (tgt := 316) hx hb dX11_way_312 (by decide) ?_
              refine lv_istore (lv' := [(14, .int r_29), (0, .ref (xad g 40 0)), (1, .int town), (2, .int sh), (3, .int i), (4, .int z), (5, .int days), (6, .int what), (7, .int why), (8, .int day), (9, .int t), (10, .int set_), (12, .int k), (11, .int best), (13, .int to)]) hx hb dX11_way_316 hl (by decide) rfl (fun ls hl => ?_)
              refine lv_iload hx hb dX11_way_318 (lv_at hl 0 rfl) ?_
              refine lv_iload hx hb dX11_way_320 (lv_at hl 13 rfl) ?_
              refine lv_icmp_le (tgt := 330) hx hb dX11_way_322 (by decide) (fun c_30 => ?_) (fun c_30 => ?_)
              · replace hres := hres.trans (if_pos c_30)
                refine lv_iload hx hb dX11_way_330 (lv_at hl 13 rfl) ?_
                refine lv_istore (lv' := [(11, .int best), (14, .int r_29), (0, .ref (xad g 40 0)), (1, .int town), (2, .int sh), (3, .int i), (4, .int z), (5, .int days), (6, .int what), (7, .int why), (8, .int day), (9, .int t), (10, .int set_), (12, .int k), (13, .int to)]) hx hb dX11_way_332 hl (by decide) rfl (fun ls hl => ?_)
                obtain ⟨x13_31, ex13_31⟩ : ∃ z_ : Int32, z_ = to + 1 := ⟨_, rfl⟩
                replace hres := xlet_n hres ex13_31
                refine lv_iinc (v := x13_31) (lv' := [(13, .int x13_31), (11, .int best), (14, .int r_29), (0, .ref (xad g 40 0)), (1, .int town), (2, .int sh), (3, .int i), (4, .int z), (5, .int days), (6, .int what), (7, .int why), (8, .int day), (9, .int t), (10, .int set_), (12, .int k)]) hx hb dX11_way_334 hl (k := 14) rfl (by rw [ex13_31]; rfl) (by decide) rfl (fun ls hl => ?_)
                refine lv_goto (tgt := 258) hx hb dX11_way_337 (by decide) ?_
                exact ih best x13_31 _ _ _ kx (ob_X11_way_258_mu_31 nb nn town sh i z days what M hp0 hp1 why day t set_ k n best to N_ hmu hinv c_12 c_13 c_23 r_24 er_24 c_25 r_29 er_29 c_30 x13_31 ex13_31) (ob_X11_way_258_inv_31 nb nn town sh i z days what M hp0 hp1 why day t set_ k n best to N_ hmu hinv c_12 c_13 c_23 r_24 er_24 c_25 r_29 er_29 c_30 x13_31 ex13_31) hres hP hS (lv_sub hl [3, 4, 5, 6, 7, 8, 9, 10, 11, 12, 13, 14, 1, 0] rfl) hex
              · replace hres := hres.trans (if_neg c_30)
                refine lv_iload hx hb dX11_way_325 (lv_at hl 0 rfl) ?_
                refine lv_goto (tgt := 332) hx hb dX11_way_327 (by decide) ?_
                refine lv_istore (lv' := [(11, .int r_29), (14, .int r_29), (0, .ref (xad g 40 0)), (1, .int town), (2, .int sh), (3, .int i), (4, .int z), (5, .int days), (6, .int what), (7, .int why), (8, .int day), (9, .int t), (10, .int set_), (12, .int k), (13, .int to)]) hx hb dX11_way_332 hl (by decide) rfl (fun ls hl => ?_)
                obtain ⟨x13_32, ex13_32⟩ : ∃ z_ : Int32, z_ = to + 1 := ⟨_, rfl⟩
                replace hres := xlet_n hres ex13_32
                refine lv_iinc (v := x13_32) (lv' := [(13, .int x13_32), (11, .int r_29), (14, .int r_29), (0, .ref (xad g 40 0)), (1, .int town), (2, .int sh), (3, .int i), (4, .int z), (5, .int days), (6, .int what), (7, .int why), (8, .int day), (9, .int t), (10, .int set_), (12, .int k)]) hx hb dX11_way_334 hl (k := 14) rfl (by rw [ex13_32]; rfl) (by decide) rfl (fun ls hl => ?_)
                refine lv_goto (tgt := 258) hx hb dX11_way_337 (by decide) ?_
                exact ih r_29 x13_32 _ _ _ kx (ob_X11_way_258_mu_32 nb nn town sh i z days what M hp0 hp1 why day t set_ k n best to N_ hmu hinv c_12 c_13 c_23 r_24 er_24 c_25 r_29 er_29 c_30 x13_32 ex13_32) (ob_X11_way_258_inv_32 nb nn town sh i z days what M hp0 hp1 why day t set_ k n best to N_ hmu hinv c_12 c_13 c_23 r_24 er_24 c_25 r_29 er_29 c_30 x13_32 ex13_32) hres hP hS (lv_sub hl [3, 4, 5, 6, 7, 8, 9, 10, 11, 12, 13, 14, 1, 0] rfl) hex
  have k_248 : ∀ (why : Int32) (day : Int32) (t : Int32) (set_ : Int32) (N_ : xM) (n : Nat) (best : Int32) (k : Int32) (H : Heap) (locs : List Loc) (ls : Array Slot) (kx : (Int32 → Int32 → Int32 × xM)), xmu k (z + 1) < n → 1 ≤ day ∧ day ≤ 6 ∧ 0 ≤ t ∧ t < 6 ∧ 0 ≤ set_ ∧ set_ < 256 ∧ 0 ≤ k ∧ 1 ≤ z ∧ z ≤ 8 ∧ wI N_ z → F = f_X11_way_L248 town sh i z days what why day t set_ N_ n best k kx → xP g L N_ H → va_S (xA g L s.heap.size) s.heap H locs → lv_has ls 15 [(0, .ref (xad g 40 0)), (1, .int town), (2, .int sh), (3, .int i), (4, .int z), (5, .int days), (6, .int what), (7, .int why), (8, .int day), (9, .int t), (10, .int set_), (11, .int best), (12, .int k)] → (∀ (best : Int32) (k : Int32) (H : Heap) (locs : List Loc) (ls : Array Slot), 1 ≤ day ∧ day ≤ 6 ∧ 0 ≤ t ∧ t < 6 ∧ 0 ≤ set_ ∧ set_ < 256 ∧ 0 ≤ k ∧ 1 ≤ z ∧ z ≤ 8 ∧ wI N_ z → F = kx best k → xP g L N_ H → va_S (xA g L s.heap.size) s.heap H locs → lv_has ls 15 [(0, .ref (xad g 40 0)), (1, .int town), (2, .int sh), (3, .int i), (4, .int z), (5, .int days), (6, .int what), (7, .int why), (8, .int day), (9, .int t), (10, .int set_), (11, .int best), (12, .int k)] → W p l e (xr 2) s m args below meth c H locs 0 0 (MQ below (va_Qi (fun r u => (r, u) = f_X11_way town sh i z days what M) (xPost g L) (xA g L s.heap.size)) args s 0 0 (xA g L s.heap.size)) (F0 m 346 ls [])) → W p l e (xr 2) s m args below meth c H locs 0 0 (MQ below (va_Qi (fun r u => (r, u) = f_X11_way town sh i z days what M) (xPost g L) (xA g L s.heap.size)) args s 0 0 (xA g L s.heap.size)) (F0 m 248 ls []) := by
    intro why day t set_ N_ n
    induction n with
    | zero => intro best k H locs ls kx hmu; exact absurd hmu (Nat.not_lt_zero _)
    | succ n ih =>
      intro best k H locs ls kx hmu hinv hres hP hS hl hex
      replace hres : F = _ := hres.trans (by rw [f_X11_way_L248])
      refine lv_iload hx hb dX11_way_248 (lv_at hl 12 rfl) ?_
      refine lv_iload hx hb dX11_way_250 (lv_at hl 4 rfl) ?_
      refine lv_icmp_gt (tgt := 346) hx hb dX11_way_252 (by decide) (fun c_33 => ?_) (fun c_33 => ?_)
      · replace hres := hres.trans (if_pos c_33)
        exact hex best k _ _ _ (ob_X11_way_346_x248 nb nn town sh i z days what M hp0 hp1 why day t set_ n best k N_ hmu hinv c_33) hres hP hS (lv_sub hl [0, 1, 2, 3, 4, 5, 6, 7, 8, 9, 10, 11, 12] rfl)
      · replace hres := hres.trans (if_neg c_33)
        refine lv_iconst (v := 0) hx hb dX11_way_255 (by decide) ?_
        refine lv_istore (lv' := [(13, .int 0), (0, .ref (xad g 40 0)), (1, .int town), (2, .int sh), (3, .int i), (4, .int z), (5, .int days), (6, .int what), (7, .int why), (8, .int day), (9, .int t), (10, .int set_), (11, .int best), (12, .int k)]) hx hb dX11_way_256 hl (by decide) rfl (fun ls hl => ?_)
        refine k_258 why day t set_ k N_ (xmu (0 : Int32) 6 + 1) best (0 : Int32) _ _ _ _ (Nat.lt_succ_self _) (ob_X11_way_258_ini_33 nb nn town sh i z days what M hp0 hp1 why day t set_ n best k N_ hmu hinv c_33) hres hP hS (lv_sub hl [1, 2, 3, 4, 5, 6, 7, 8, 9, 10, 11, 13, 12, 0] rfl) ?_
        clear hres hP hS hl
        intro best_34 to_35 H locs ls hiv_35 hres hP hS hl
        obtain ⟨x12_36, ex12_36⟩ : ∃ z_ : Int32, z_ = k + 1 := ⟨_, rfl⟩
        replace hres := xlet_n hres ex12_36
        refine lv_iinc (v := x12_36) (lv' := [(12, .int x12_36), (0, .ref (xad g 40 0)), (1, .int town), (2, .int sh), (3, .int i), (4, .int z), (5, .int days), (6, .int what), (7, .int why), (8, .int day), (9, .int t), (10, .int set_), (11, .int best_34), (13, .int to_35)]) hx hb dX11_way_340 hl (k := 11) rfl (by rw [ex12_36]; rfl) (by decide) rfl (fun ls hl => ?_)
        refine lv_goto (tgt := 248) hx hb dX11_way_343 (by decide) ?_
        exact ih best_34 x12_36 _ _ _ kx (ob_X11_way_248_mu_36 nb nn town sh i z days what M hp0 hp1 why day t set_ n best k N_ hmu hinv c_33 best_34 to_35 hiv_35 x12_36 ex12_36) (ob_X11_way_248_inv_36 nb nn town sh i z days what M hp0 hp1 why day t set_ n best k N_ hmu hinv c_33 best_34 to_35 hiv_35 x12_36 ex12_36) hres hP hS (lv_sub hl [1, 2, 3, 4, 5, 6, 7, 8, 9, 10, 11, 12, 0] rfl) hex
  have k_233 : ∀ (why : Int32) (day : Int32) (t : Int32) (n : Nat) (set_ : Int32) (N_ : xM) (H : Heap) (locs : List Loc) (ls : Array Slot) (kx : (Int32 → xM → Int32 × xM)), xmu set_ (1 <<< (z &&& 31)) < n → 1 ≤ day ∧ day ≤ 6 ∧ 0 ≤ t ∧ t < 6 ∧ 0 ≤ set_ ∧ 1 ≤ z ∧ z ≤ 8 ∧ wI N_ z → F = f_X11_way_L233 town sh i z days what why day t n set_ N_ kx → xP g L N_ H → va_S (xA g L s.heap.size) s.heap H locs → lv_has ls 15 [(0, .ref (xad g 40 0)), (1, .int town), (2, .int sh), (3, .int i), (4, .int z), (5, .int days), (6, .int what), (7, .int why), (8, .int day), (9, .int t), (10, .int set_)] → (∀ (set_ : Int32) (N_ : xM) (H : Heap) (locs : List Loc) (ls : Array Slot), 1 ≤ day ∧ day ≤ 6 ∧ 0 ≤ t ∧ t < 6 ∧ 0 ≤ set_ ∧ 1 ≤ z ∧ z ≤ 8 ∧ wI N_ z → F = kx set_ N_ → xP g L N_ H → va_S (xA g L s.heap.size) s.heap H locs → lv_has ls 15 [(0, .ref (xad g 40 0)), (1, .int town), (2, .int sh), (3, .int i), (4, .int z), (5, .int days), (6, .int what), (7, .int why), (8, .int day), (9, .int t), (10, .int set_)] → W p l e (xr 2) s m args below meth c H locs 0 0 (MQ below (va_Qi (fun r u => (r, u) = f_X11_way town sh i z days what M) (xPost g L) (xA g L s.heap.size)) args s 0 0 (xA g L s.heap.size)) (F0 m 375 ls [])) → W p l e (xr 2) s m args below meth c H locs 0 0 (MQ below (va_Qi (fun r u => (r, u) = f_X11_way town sh i z days what M) (xPost g L) (xA g L s.heap.size)) args s 0 0 (xA g L s.heap.size)) (F0 m 233 ls []) := by
    intro why day t n
    induction n with
    | zero => intro set_ N_ H locs ls kx hmu; exact absurd hmu (Nat.not_lt_zero _)
    | succ n ih =>
      intro set_ N_ H locs ls kx hmu hinv hres hP hS hl hex
      replace hres : F = _ := hres.trans (by rw [f_X11_way_L233])
      refine lv_iload hx hb dX11_way_233 (lv_at hl 10 rfl) ?_
      refine lv_iconst (v := 1) hx hb dX11_way_235 (by decide) ?_
      refine lv_iload hx hb dX11_way_236 (lv_at hl 4 rfl) ?_
      refine lv_ishl hx hb dX11_way_238 ?_
      refine lv_icmp_ge (tgt := 375) hx hb dX11_way_239 (by decide) (fun c_37 => ?_) (fun c_37 => ?_)
      · replace hres := hres.trans (if_pos c_37)
        exact hex set_ N_ _ _ _ (ob_X11_way_375_x233 nb nn town sh i z days what M hp0 hp1 why day t n set_ N_ hmu hinv c_37) hres hP hS (lv_sub hl [0, 1, 2, 3, 4, 5, 6, 7, 8, 9, 10] rfl)
      · replace hres := hres.trans (if_neg c_37)
        refine lv_iconst (v := 0) hx hb dX11_way_242 (by decide) ?_
        refine lv_istore (lv' := [(11, .int 0), (0, .ref (xad g 40 0)), (1, .int town), (2, .int sh), (3, .int i), (4, .int z), (5, .int days), (6, .int what), (7, .int why), (8, .int day), (9, .int t), (10, .int set_)]) hx hb dX11_way_243 hl (by decide) rfl (fun ls hl => ?_)
        refine lv_iconst (v := 0) hx hb dX11_way_245 (by decide) ?_
        refine lv_istore (lv' := [(12, .int 0), (11, .int 0), (0, .ref (xad g 40 0)), (1, .int town), (2, .int sh), (3, .int i), (4, .int z), (5, .int days), (6, .int what), (7, .int why), (8, .int day), (9, .int t), (10, .int set_)]) hx hb dX11_way_246 hl (by decide) rfl (fun ls hl => ?_)
        refine k_248 why day t set_ N_ (xmu (0 : Int32) (z + 1) + 1) (0 : Int32) (0 : Int32) _ _ _ _ (Nat.lt_succ_self _) (ob_X11_way_248_ini_37 nb nn town sh i z days what M hp0 hp1 why day t n set_ N_ hmu hinv c_37) hres hP hS (lv_sub hl [2, 3, 4, 5, 6, 7, 8, 9, 10, 11, 12, 1, 0] rfl) ?_
        clear hres hP hS hl
        intro best_38 k_39 H locs ls hiv_39 hres hP hS hl
        refine lv_aload_n hx hb dX11_way_346 rfl (lv_at hl 0 rfl) ?_
        refine gf_RX11_104 hx hb hts hown hK hP (hL 40 0 (xe_40 nb nn)) dX11_way_347 ?_
        refine lv_sipush (v := 1536) hx hb dX11_way_350 (by decide) ?_
        refine lv_iload hx hb dX11_way_353 (lv_at hl 8 rfl) ?_
        refine lv_imul hx hb dX11_way_355 ?_
        refine lv_sipush (v := 256) hx hb dX11_way_356 (by decide) ?_
        refine lv_iload hx hb dX11_way_359 (lv_at hl 9 rfl) ?_
        refine lv_imul hx hb dX11_way_361 ?_
        refine lv_iadd hx hb dX11_way_362 ?_
        refine lv_iload hx hb dX11_way_363 (lv_at hl 10 rfl) ?_
        refine lv_iadd hx hb dX11_way_365 ?_
        refine lv_iload hx hb dX11_way_366 (lv_at hl 11 rfl) ?_
        refine x_iast hx hb hK hP hD hS (hL 97 0 (xe_97 nb nn)) (xc97 g 0) (ob_X11_way_368_in nb nn town sh i z days what M hp0 hp1 why day t n set_ N_ hmu hinv c_37 best_38 k_39 hiv_39) dX11_way_368 (fun H locs hP hS => ?_)
        obtain ⟨M_40, eM_40⟩ : ∃ z_ : xM, z_ = xup N_ 97 0 (((1536 * day) + (256 * t)) + set_).toNatClampNeg best_38 := ⟨_, rfl⟩
        rw [← eM_40] at hP
        replace hres := xlet_n hres eM_40
        obtain ⟨x10_41, ex10_41⟩ : ∃ z_ : Int32, z_ = set_ + 1 := ⟨_, rfl⟩
        replace hres := xlet_n hres ex10_41
        refine lv_iinc (v := x10_41) (lv' := [(10, .int x10_41), (0, .ref (xad g 40 0)), (1, .int town), (2, .int sh), (3, .int i), (4, .int z), (5, .int days), (6, .int what), (7, .int why), (8, .int day), (9, .int t), (11, .int best_38), (12, .int k_39)]) hx hb dX11_way_369 hl (k := 10) rfl (by rw [ex10_41]; rfl) (by decide) rfl (fun ls hl => ?_)
        refine lv_goto (tgt := 233) hx hb dX11_way_372 (by decide) ?_
        exact ih x10_41 M_40 _ _ _ kx (ob_X11_way_233_mu_41 nb nn town sh i z days what M hp0 hp1 why day t n set_ N_ hmu hinv c_37 best_38 k_39 hiv_39 M_40 eM_40 x10_41 ex10_41) (ob_X11_way_233_inv_41 nb nn town sh i z days what M hp0 hp1 why day t n set_ N_ hmu hinv c_37 best_38 k_39 hiv_39 M_40 eM_40 x10_41 ex10_41) hres hP hS (lv_sub hl [1, 2, 3, 4, 5, 6, 7, 8, 9, 10, 0] rfl) hex
  have k_223 : ∀ (why : Int32) (day : Int32) (n : Nat) (t : Int32) (N_ : xM) (H : Heap) (locs : List Loc) (ls : Array Slot) (kx : (Int32 → xM → Int32 × xM)), xmu t 6 < n → 1 ≤ day ∧ day ≤ 6 ∧ 0 ≤ t ∧ 1 ≤ z ∧ z ≤ 8 ∧ wI N_ z → F = f_X11_way_L223 town sh i z days what why day n t N_ kx → xP g L N_ H → va_S (xA g L s.heap.size) s.heap H locs → lv_has ls 15 [(0, .ref (xad g 40 0)), (1, .int town), (2, .int sh), (3, .int i), (4, .int z), (5, .int days), (6, .int what), (7, .int why), (8, .int day), (9, .int t)] → (∀ (t : Int32) (N_ : xM) (H : Heap) (locs : List Loc) (ls : Array Slot), 1 ≤ day ∧ day ≤ 6 ∧ 0 ≤ t ∧ 1 ≤ z ∧ z ≤ 8 ∧ wI N_ z → F = kx t N_ → xP g L N_ H → va_S (xA g L s.heap.size) s.heap H locs → lv_has ls 15 [(0, .ref (xad g 40 0)), (1, .int town), (2, .int sh), (3, .int i), (4, .int z), (5, .int days), (6, .int what), (7, .int why), (8, .int day), (9, .int t)] → W p l e (xr 2) s m args below meth c H locs 0 0 (MQ below (va_Qi (fun r u => (r, u) = f_X11_way town sh i z days what M) (xPost g L) (xA g L s.heap.size)) args s 0 0 (xA g L s.heap.size)) (F0 m 381 ls [])) → W p l e (xr 2) s m args below meth c H locs 0 0 (MQ below (va_Qi (fun r u => (r, u) = f_X11_way town sh i z days what M) (xPost g L) (xA g L s.heap.size)) args s 0 0 (xA g L s.heap.size)) (F0 m 223 ls []) := by
    intro why day n
    induction n with
    | zero => intro t N_ H locs ls kx hmu; exact absurd hmu (Nat.not_lt_zero _)
    | succ n ih =>
      intro t N_ H locs ls kx hmu hinv hres hP hS hl hex
      replace hres : F = _ := hres.trans (by rw [f_X11_way_L223])
      refine lv_iload hx hb dX11_way_223 (lv_at hl 9 rfl) ?_
      refine lv_bipush (v := 6) hx hb dX11_way_225 (by decide) ?_
      refine lv_icmp_ge (tgt := 381) hx hb dX11_way_227 (by decide) (fun c_42 => ?_) (fun c_42 => ?_)
      · replace hres := hres.trans (if_pos c_42)
        exact hex t N_ _ _ _ (ob_X11_way_381_x223 nb nn town sh i z days what M hp0 hp1 why day n t N_ hmu hinv c_42) hres hP hS (lv_sub hl [0, 1, 2, 3, 4, 5, 6, 7, 8, 9] rfl)
      · replace hres := hres.trans (if_neg c_42)
        refine lv_iconst (v := 0) hx hb dX11_way_230 (by decide) ?_
        refine lv_istore (lv' := [(10, .int 0), (0, .ref (xad g 40 0)), (1, .int town), (2, .int sh), (3, .int i), (4, .int z), (5, .int days), (6, .int what), (7, .int why), (8, .int day), (9, .int t)]) hx hb dX11_way_231 hl (by decide) rfl (fun ls hl => ?_)
        refine k_233 why day t (xmu (0 : Int32) (1 <<< (z &&& 31)) + 1) (0 : Int32) N_ _ _ _ _ (Nat.lt_succ_self _) (ob_X11_way_233_ini_42 nb nn town sh i z days what M hp0 hp1 why day n t N_ hmu hinv c_42) hres hP hS (lv_sub hl [1, 2, 3, 4, 5, 6, 7, 8, 9, 10, 0] rfl) ?_
        clear hres hP hS hl
        intro set__43 M_44 H locs ls hiv_44 hres hP hS hl
        obtain ⟨x9_45, ex9_45⟩ : ∃ z_ : Int32, z_ = t + 1 := ⟨_, rfl⟩
        replace hres := xlet_n hres ex9_45
        refine lv_iinc (v := x9_45) (lv' := [(9, .int x9_45), (0, .ref (xad g 40 0)), (1, .int town), (2, .int sh), (3, .int i), (4, .int z), (5, .int days), (6, .int what), (7, .int why), (8, .int day), (10, .int set__43)]) hx hb dX11_way_375 hl (k := 9) rfl (by rw [ex9_45]; rfl) (by decide) rfl (fun ls hl => ?_)
        refine lv_goto (tgt := 223) hx hb dX11_way_378 (by decide) ?_
        exact ih x9_45 M_44 _ _ _ kx (ob_X11_way_223_mu_45 nb nn town sh i z days what M hp0 hp1 why day n t N_ hmu hinv c_42 set__43 M_44 hiv_44 x9_45 ex9_45) (ob_X11_way_223_inv_45 nb nn town sh i z days what M hp0 hp1 why day n t N_ hmu hinv c_42 set__43 M_44 hiv_44 x9_45 ex9_45) hres hP hS (lv_sub hl [1, 2, 3, 4, 5, 6, 7, 8, 9, 0] rfl) hex
  have k_213 : ∀ (why : Int32) (n : Nat) (day : Int32) (N_ : xM) (H : Heap) (locs : List Loc) (ls : Array Slot) (kx : (Int32 → xM → Int32 × xM)), xmu day (days + 1) < n → 1 ≤ day ∧ days ≤ 6 ∧ 1 ≤ days ∧ 1 ≤ z ∧ z ≤ 8 ∧ wI N_ z → F = f_X11_way_L213 town sh i z days what why n day N_ kx → xP g L N_ H → va_S (xA g L s.heap.size) s.heap H locs → lv_has ls 15 [(0, .ref (xad g 40 0)), (1, .int town), (2, .int sh), (3, .int i), (4, .int z), (5, .int days), (6, .int what), (7, .int why), (8, .int day)] → (∀ (day : Int32) (N_ : xM) (H : Heap) (locs : List Loc) (ls : Array Slot), 1 ≤ day ∧ days ≤ 6 ∧ 1 ≤ days ∧ 1 ≤ z ∧ z ≤ 8 ∧ wI N_ z → F = kx day N_ → xP g L N_ H → va_S (xA g L s.heap.size) s.heap H locs → lv_has ls 15 [(0, .ref (xad g 40 0)), (1, .int town), (2, .int sh), (3, .int i), (4, .int z), (5, .int days), (6, .int what), (7, .int why), (8, .int day)] → W p l e (xr 2) s m args below meth c H locs 0 0 (MQ below (va_Qi (fun r u => (r, u) = f_X11_way town sh i z days what M) (xPost g L) (xA g L s.heap.size)) args s 0 0 (xA g L s.heap.size)) (F0 m 387 ls [])) → W p l e (xr 2) s m args below meth c H locs 0 0 (MQ below (va_Qi (fun r u => (r, u) = f_X11_way town sh i z days what M) (xPost g L) (xA g L s.heap.size)) args s 0 0 (xA g L s.heap.size)) (F0 m 213 ls []) := by
    intro why n
    induction n with
    | zero => intro day N_ H locs ls kx hmu; exact absurd hmu (Nat.not_lt_zero _)
    | succ n ih =>
      intro day N_ H locs ls kx hmu hinv hres hP hS hl hex
      replace hres : F = _ := hres.trans (by rw [f_X11_way_L213])
      refine lv_iload hx hb dX11_way_213 (lv_at hl 8 rfl) ?_
      refine lv_iload hx hb dX11_way_215 (lv_at hl 5 rfl) ?_
      refine lv_icmp_gt (tgt := 387) hx hb dX11_way_217 (by decide) (fun c_46 => ?_) (fun c_46 => ?_)
      · replace hres := hres.trans (if_pos c_46)
        exact hex day N_ _ _ _ (ob_X11_way_387_x213 nb nn town sh i z days what M hp0 hp1 why n day N_ hmu hinv c_46) hres hP hS (lv_sub hl [0, 1, 2, 3, 4, 5, 6, 7, 8] rfl)
      · replace hres := hres.trans (if_neg c_46)
        refine lv_iconst (v := 0) hx hb dX11_way_220 (by decide) ?_
        refine lv_istore (lv' := [(9, .int 0), (0, .ref (xad g 40 0)), (1, .int town), (2, .int sh), (3, .int i), (4, .int z), (5, .int days), (6, .int what), (7, .int why), (8, .int day)]) hx hb dX11_way_221 hl (by decide) rfl (fun ls hl => ?_)
        refine k_223 why day (xmu (0 : Int32) 6 + 1) (0 : Int32) N_ _ _ _ _ (Nat.lt_succ_self _) (ob_X11_way_223_ini_46 nb nn town sh i z days what M hp0 hp1 why n day N_ hmu hinv c_46) hres hP hS (lv_sub hl [1, 2, 3, 4, 5, 6, 7, 8, 9, 0] rfl) ?_
        clear hres hP hS hl
        intro t_47 M_48 H locs ls hiv_48 hres hP hS hl
        obtain ⟨x8_49, ex8_49⟩ : ∃ z_ : Int32, z_ = day + 1 := ⟨_, rfl⟩
        replace hres := xlet_n hres ex8_49
        refine lv_iinc (v := x8_49) (lv' := [(8, .int x8_49), (0, .ref (xad g 40 0)), (1, .int town), (2, .int sh), (3, .int i), (4, .int z), (5, .int days), (6, .int what), (7, .int why), (9, .int t_47)]) hx hb dX11_way_381 hl (k := 8) rfl (by rw [ex8_49]; rfl) (by decide) rfl (fun ls hl => ?_)
        refine lv_goto (tgt := 213) hx hb dX11_way_384 (by decide) ?_
        exact ih x8_49 M_48 _ _ _ kx (ob_X11_way_213_mu_49 nb nn town sh i z days what M hp0 hp1 why n day N_ hmu hinv c_46 t_47 M_48 hiv_48 x8_49 ex8_49) (ob_X11_way_213_inv_49 nb nn town sh i z days what M hp0 hp1 why n day N_ hmu hinv c_46 t_47 M_48 hiv_48 x8_49 ex8_49) hres hP hS (lv_sub hl [1, 2, 3, 4, 5, 6, 7, 8, 0] rfl) hex
  have k_188 : ∀ (why : Int32) (n : Nat) (k : Int32) (N_ : xM) (H : Heap) (locs : List Loc) (ls : Array Slot) (kx : (Int32 → xM → Int32 × xM)), xmu k 1536 < n → 0 ≤ k ∧ 1 ≤ z ∧ z ≤ 8 ∧ wI N_ z → F = f_X11_way_L188 town sh i z days what why n k N_ kx → xP g L N_ H → va_S (xA g L s.heap.size) s.heap H locs → lv_has ls 15 [(0, .ref (xad g 40 0)), (1, .int town), (2, .int sh), (3, .int i), (4, .int z), (5, .int days), (6, .int what), (7, .int why), (8, .int k)] → (∀ (k : Int32) (N_ : xM) (H : Heap) (locs : List Loc) (ls : Array Slot), 0 ≤ k ∧ 1 ≤ z ∧ z ≤ 8 ∧ wI N_ z → F = kx k N_ → xP g L N_ H → va_S (xA g L s.heap.size) s.heap H locs → lv_has ls 15 [(0, .ref (xad g 40 0)), (1, .int town), (2, .int sh), (3, .int i), (4, .int z), (5, .int days), (6, .int what), (7, .int why), (8, .int k)] → W p l e (xr 2) s m args below meth c H locs 0 0 (MQ below (va_Qi (fun r u => (r, u) = f_X11_way town sh i z days what M) (xPost g L) (xA g L s.heap.size)) args s 0 0 (xA g L s.heap.size)) (F0 m 210 ls [])) → W p l e (xr 2) s m args below meth c H locs 0 0 (MQ below (va_Qi (fun r u => (r, u) = f_X11_way town sh i z days what M) (xPost g L) (xA g L s.heap.size)) args s 0 0 (xA g L s.heap.size)) (F0 m 188 ls []) := by
    intro why n
    induction n with
    | zero => intro k N_ H locs ls kx hmu; exact absurd hmu (Nat.not_lt_zero _)
    | succ n ih =>
      intro k N_ H locs ls kx hmu hinv hres hP hS hl hex
      replace hres : F = _ := hres.trans (by rw [f_X11_way_L188])
      refine lv_iload hx hb dX11_way_188 (lv_at hl 8 rfl) ?_
      refine lv_sipush (v := 1536) hx hb dX11_way_190 (by decide) ?_
      refine lv_icmp_ge (tgt := 210) hx hb dX11_way_193 (by decide) (fun c_50 => ?_) (fun c_50 => ?_)
      · replace hres := hres.trans (if_pos c_50)
        exact hex k N_ _ _ _ (ob_X11_way_210_x188 nb nn town sh i z days what M hp0 hp1 why n k N_ hmu hinv c_50) hres hP hS (lv_sub hl [0, 1, 2, 3, 4, 5, 6, 7, 8] rfl)
      · replace hres := hres.trans (if_neg c_50)
        refine lv_aload_n hx hb dX11_way_196 rfl (lv_at hl 0 rfl) ?_
        refine gf_RX11_104 hx hb hts hown hK hP (hL 40 0 (xe_40 nb nn)) dX11_way_197 ?_
        refine lv_iload hx hb dX11_way_200 (lv_at hl 8 rfl) ?_
        refine lv_iconst (v := 0) hx hb dX11_way_202 (by decide) ?_
        refine x_iast hx hb hK hP hD hS (hL 97 0 (xe_97 nb nn)) (xc97 g 0) (ob_X11_way_203_in nb nn town sh i z days what M hp0 hp1 why n k N_ hmu hinv c_50) dX11_way_203 (fun H locs hP hS => ?_)
        obtain ⟨M_51, eM_51⟩ : ∃ z_ : xM, z_ = xup N_ 97 0 k.toNatClampNeg 0 := ⟨_, rfl⟩
        rw [← eM_51] at hP
        replace hres := xlet_n hres eM_51
        obtain ⟨x8_52, ex8_52⟩ : ∃ z_ : Int32, z_ = k + 1 := ⟨_, rfl⟩
        replace hres := xlet_n hres ex8_52
        refine lv_iinc (v := x8_52) (lv' := [(8, .int x8_52), (0, .ref (xad g 40 0)), (1, .int town), (2, .int sh), (3, .int i), (4, .int z), (5, .int days), (6, .int what), (7, .int why)]) hx hb dX11_way_204 hl (k := 8) rfl (by rw [ex8_52]; rfl) (by decide) rfl (fun ls hl => ?_)
        refine lv_goto (tgt := 188) hx hb dX11_way_207 (by decide) ?_
        exact ih x8_52 M_51 _ _ _ kx (ob_X11_way_188_mu_52 nb nn town sh i z days what M hp0 hp1 why n k N_ hmu hinv c_50 M_51 eM_51 x8_52 ex8_52) (ob_X11_way_188_inv_52 nb nn town sh i z days what M hp0 hp1 why n k N_ hmu hinv c_50 M_51 eM_51 x8_52 ex8_52) hres hP hS (lv_sub hl [1, 2, 3, 4, 5, 6, 7, 8, 0] rfl) hex
  have k_124 : ∀ (why : Int32) (k : Int32) (N_ : xM) (n : Nat) (good : Int32) (q : Int32) (H : Heap) (locs : List Loc) (ls : Array Slot) (kx : (Int32 → Int32 → Int32 × xM)), xmu q k < n → 0 ≤ q ∧ k < 8 ∧ 0 ≤ k ∧ (good = 0 ∨ (good = 1 ∧ 0 ≤ N_ 98 0 k.toNatClampNeg ∧ N_ 98 0 k.toNatClampNeg < 24)) → F = f_X11_way_L124 town sh i z days what why k N_ n good q kx → xP g L N_ H → va_S (xA g L s.heap.size) s.heap H locs → lv_has ls 15 [(0, .ref (xad g 40 0)), (1, .int town), (2, .int sh), (3, .int i), (4, .int z), (5, .int days), (6, .int what), (7, .int why), (8, .int k), (9, .int good), (10, .int q)] → (∀ (good : Int32) (q : Int32) (H : Heap) (locs : List Loc) (ls : Array Slot), 0 ≤ q ∧ k < 8 ∧ 0 ≤ k ∧ (good = 0 ∨ (good = 1 ∧ 0 ≤ N_ 98 0 k.toNatClampNeg ∧ N_ 98 0 k.toNatClampNeg < 24)) → F = kx good q → xP g L N_ H → va_S (xA g L s.heap.size) s.heap H locs → lv_has ls 15 [(0, .ref (xad g 40 0)), (1, .int town), (2, .int sh), (3, .int i), (4, .int z), (5, .int days), (6, .int what), (7, .int why), (8, .int k), (9, .int good), (10, .int q)] → W p l e (xr 2) s m args below meth c H locs 0 0 (MQ below (va_Qi (fun r u => (r, u) = f_X11_way town sh i z days what M) (xPost g L) (xA g L s.heap.size)) args s 0 0 (xA g L s.heap.size)) (F0 m 166 ls [])) → W p l e (xr 2) s m args below meth c H locs 0 0 (MQ below (va_Qi (fun r u => (r, u) = f_X11_way town sh i z days what M) (xPost g L) (xA g L s.heap.size)) args s 0 0 (xA g L s.heap.size)) (F0 m 124 ls []) := by
    intro why k N_ n
    induction n with
    | zero => intro good q H locs ls kx hmu; exact absurd hmu (Nat.not_lt_zero _)
    | succ n ih =>
      intro good q H locs ls kx hmu hinv hres hP hS hl hex
      replace hres : F = _ := hres.trans (by rw [f_X11_way_L124])
      refine lv_iload hx hb dX11_way_124 (lv_at hl 10 rfl) ?_
      refine lv_iload hx hb dX11_way_126 (lv_at hl 8 rfl) ?_
      refine lv_icmp_ge (tgt := 166) hx hb dX11_way_128 (by decide) (fun c_53 => ?_) (fun c_53 => ?_)
      · replace hres := hres.trans (if_pos c_53)
        exact hex good q _ _ _ (ob_X11_way_166_x124 nb nn town sh i z days what M hp0 hp1 why k n good q N_ hmu hinv c_53) hres hP hS (lv_sub hl [0, 1, 2, 3, 4, 5, 6, 7, 8, 9, 10] rfl)
      · replace hres := hres.trans (if_neg c_53)
        refine lv_iload hx hb dX11_way_131 (lv_at hl 9 rfl) ?_
        refine lv_if_eq (tgt := 157) hx hb dX11_way_133 (by decide) (fun c_54 => ?_) (fun c_54 => ?_)
        · replace hres := hres.trans (if_pos c_54)
          refine lv_iconst (v := 0) hx hb dX11_way_157 (by decide) ?_
          refine lv_istore (lv' := [(9, .int 0), (0, .ref (xad g 40 0)), (1, .int town), (2, .int sh), (3, .int i), (4, .int z), (5, .int days), (6, .int what), (7, .int why), (8, .int k), (10, .int q)]) hx hb dX11_way_158 hl (by decide) rfl (fun ls hl => ?_)
          obtain ⟨x10_55, ex10_55⟩ : ∃ z_ : Int32, z_ = q + 1 := ⟨_, rfl⟩
          replace hres := xlet_n hres ex10_55
          refine lv_iinc (v := x10_55) (lv' := [(10, .int x10_55), (9, .int 0), (0, .ref (xad g 40 0)), (1, .int town), (2, .int sh), (3, .int i), (4, .int z), (5, .int days), (6, .int what), (7, .int why), (8, .int k)]) hx hb dX11_way_160 hl (k := 10) rfl (by rw [ex10_55]; rfl) (by decide) rfl (fun ls hl => ?_)
          refine lv_goto (tgt := 124) hx hb dX11_way_163 (by decide) ?_
          exact ih (0 : Int32) x10_55 _ _ _ kx (ob_X11_way_124_mu_55 nb nn town sh i z days what M hp0 hp1 why k n good q N_ hmu hinv c_53 c_54 x10_55 ex10_55) (ob_X11_way_124_inv_55 nb nn town sh i z days what M hp0 hp1 why k n good q N_ hmu hinv c_53 c_54 x10_55 ex10_55) hres hP hS (lv_sub hl [2, 3, 4, 5, 6, 7, 8, 9, 10, 1, 0] rfl) hex
        · replace hres := hres.trans (if_neg c_54)
          refine lv_aload_n hx hb dX11_way_136 rfl (lv_at hl 0 rfl) ?_
          refine gf_RX11_107 hx hb hts hown hK hP (hL 40 0 (xe_40 nb nn)) dX11_way_137 ?_
          refine lv_iload hx hb dX11_way_140 (lv_at hl 10 rfl) ?_
          refine x_iald hx hb hK hP (hL 98 0 (xe_98 nb nn)) (xc98 g 0) (ob_X11_way_142_in nb nn town sh i z days what M hp0 hp1 why k n good q N_ hmu hinv c_53 c_54) dX11_way_142 ?_
          refine lv_aload_n hx hb dX11_way_143 rfl (lv_at hl 0 rfl) ?_
          refine gf_RX11_107 hx hb hts hown hK hP (hL 40 0 (xe_40 nb nn)) dX11_way_144 ?_
          refine lv_iload hx hb dX11_way_147 (lv_at hl 8 rfl) ?_
          refine x_iald hx hb hK hP (hL 98 0 (xe_98 nb nn)) (xc98 g 0) (ob_X11_way_149_in nb nn town sh i z days what M hp0 hp1 why k n good q N_ hmu hinv c_53 c_54) dX11_way_149 ?_
          refine lv_icmp_eq (tgt := 157) hx hb dX11_way_150 (by decide) (fun c_56 => ?_) (fun c_56 => ?_)
          · replace hres := hres.trans (if_pos c_56)
            refine lv_iconst (v := 0) hx hb dX11_way_157 (by decide) ?_
            refine lv_istore (lv' := [(9, .int 0), (0, .ref (xad g 40 0)), (1, .int town), (2, .int sh), (3, .int i), (4, .int z), (5, .int days), (6, .int what), (7, .int why), (8, .int k), (10, .int q)]) hx hb dX11_way_158 hl (by decide) rfl (fun ls hl => ?_)
            obtain ⟨x10_57, ex10_57⟩ : ∃ z_ : Int32, z_ = q + 1 := ⟨_, rfl⟩
            replace hres := xlet_n hres ex10_57
            refine lv_iinc (v := x10_57) (lv' := [(10, .int x10_57), (9, .int 0), (0, .ref (xad g 40 0)), (1, .int town), (2, .int sh), (3, .int i), (4, .int z), (5, .int days), (6, .int what), (7, .int why), (8, .int k)]) hx hb dX11_way_160 hl (k := 10) rfl (by rw [ex10_57]; rfl) (by decide) rfl (fun ls hl => ?_)
            refine lv_goto (tgt := 124) hx hb dX11_way_163 (by decide) ?_
            exact ih (0 : Int32) x10_57 _ _ _ kx (ob_X11_way_124_mu_57 nb nn town sh i z days what M hp0 hp1 why k n good q N_ hmu hinv c_53 c_54 c_56 x10_57 ex10_57) (ob_X11_way_124_inv_57 nb nn town sh i z days what M hp0 hp1 why k n good q N_ hmu hinv c_53 c_54 c_56 x10_57 ex10_57) hres hP hS (lv_sub hl [2, 3, 4, 5, 6, 7, 8, 9, 10, 1, 0] rfl) hex
          · replace hres := hres.trans (if_neg c_56)
            refine lv_iconst (v := 1) hx hb dX11_way_153 (by decide) ?_
            refine lv_goto (tgt := 158) hx hb dX11_way_154 (by decide) ?_
            refine lv_istore (lv' := [(9, .int 1), (0, .ref (xad g 40 0)), (1, .int town), (2, .int sh), (3, .int i), (4, .int z), (5, .int days), (6, .int what), (7, .int why), (8, .int k), (10, .int q)]) hx hb dX11_way_158 hl (by decide) rfl (fun ls hl => ?_)
            obtain ⟨x10_58, ex10_58⟩ : ∃ z_ : Int32, z_ = q + 1 := ⟨_, rfl⟩
            replace hres := xlet_n hres ex10_58
            refine lv_iinc (v := x10_58) (lv' := [(10, .int x10_58), (9, .int 1), (0, .ref (xad g 40 0)), (1, .int town), (2, .int sh), (3, .int i), (4, .int z), (5, .int days), (6, .int what), (7, .int why), (8, .int k)]) hx hb dX11_way_160 hl (k := 10) rfl (by rw [ex10_58]; rfl) (by decide) rfl (fun ls hl => ?_)
            refine lv_goto (tgt := 124) hx hb dX11_way_163 (by decide) ?_
            exact ih (1 : Int32) x10_58 _ _ _ kx (ob_X11_way_124_mu_58 nb nn town sh i z days what M hp0 hp1 why k n good q N_ hmu hinv c_53 c_54 c_56 x10_58 ex10_58) (ob_X11_way_124_inv_58 nb nn town sh i z days what M hp0 hp1 why k n good q N_ hmu hinv c_53 c_54 c_56 x10_58 ex10_58) hres hP hS (lv_sub hl [2, 3, 4, 5, 6, 7, 8, 9, 10, 1, 0] rfl) hex
  have k_80 : ∀ (why : Int32) (n : Nat) (k : Int32) (N_ : xM) (H : Heap) (locs : List Loc) (ls : Array Slot) (kx : (Int32 → xM → Int32 × xM)), xmu k z < n → 0 ≤ k ∧ k ≤ z ∧ 0 ≤ sh ∧ sh ≤ 7 ∧ 0 ≤ i ∧ i ≤ 60 ∧ 1 ≤ z ∧ z ≤ 8 ∧ i + z ≤ 60 ∧ lsOK N_ k ∧ mI N_ → F = f_X11_way_L80 town sh i z days what why n k N_ kx → xP g L N_ H → va_S (xA g L s.heap.size) s.heap H locs → lv_has ls 15 [(0, .ref (xad g 40 0)), (1, .int town), (2, .int sh), (3, .int i), (4, .int z), (5, .int days), (6, .int what), (7, .int why), (8, .int k)] → (∀ (k : Int32) (N_ : xM) (H : Heap) (locs : List Loc) (ls : Array Slot), 1 ≤ z ∧ z ≤ 8 ∧ lsOK N_ z ∧ mI N_ → F = kx k N_ → xP g L N_ H → va_S (xA g L s.heap.size) s.heap H locs → lv_has ls 15 [(0, .ref (xad g 40 0)), (1, .int town), (2, .int sh), (3, .int i), (4, .int z), (5, .int days), (6, .int what), (7, .int why), (8, .int k)] → W p l e (xr 2) s m args below meth c H locs 0 0 (MQ below (va_Qi (fun r u => (r, u) = f_X11_way town sh i z days what M) (xPost g L) (xA g L s.heap.size)) args s 0 0 (xA g L s.heap.size)) (F0 m 180 ls [])) → W p l e (xr 2) s m args below meth c H locs 0 0 (MQ below (va_Qi (fun r u => (r, u) = f_X11_way town sh i z days what M) (xPost g L) (xA g L s.heap.size)) args s 0 0 (xA g L s.heap.size)) (F0 m 80 ls []) := by
    intro why n
    induction n with
    | zero => intro k N_ H locs ls kx hmu; exact absurd hmu (Nat.not_lt_zero _)
    | succ n ih =>
      intro k N_ H locs ls kx hmu hinv hres hP hS hl hex
      replace hres : F = _ := hres.trans (by rw [f_X11_way_L80])
      refine lv_iload hx hb dX11_way_80 (lv_at hl 8 rfl) ?_
      refine lv_iload hx hb dX11_way_82 (lv_at hl 4 rfl) ?_
      refine lv_icmp_ge (tgt := 180) hx hb dX11_way_84 (by decide) (fun c_59 => ?_) (fun c_59 => ?_)
      · replace hres := hres.trans (if_pos c_59)
        exact hex k N_ _ _ _ (ob_X11_way_180_x80 nb nn town sh i z days what M hp0 hp1 why n k N_ hmu hinv c_59) hres hP hS (lv_sub hl [0, 1, 2, 3, 4, 5, 6, 7, 8] rfl)
      · replace hres := hres.trans (if_neg c_59)
        refine lv_aload_n hx hb dX11_way_87 rfl (lv_at hl 0 rfl) ?_
        refine gf_RX11_107 hx hb hts hown hK hP (hL 40 0 (xe_40 nb nn)) dX11_way_88 ?_
        refine lv_iload hx hb dX11_way_91 (lv_at hl 8 rfl) ?_
        refine lv_aload_n hx hb dX11_way_93 rfl (lv_at hl 0 rfl) ?_
        refine gf_RX11_16 hx hb hts hown hK hP (hL 40 0 (xe_40 nb nn)) dX11_way_94 ?_
        refine lv_bipush (v := 60) hx hb dX11_way_97 (by decide) ?_
        refine lv_iload_n hx hb dX11_way_99 rfl (lv_at hl 2 rfl) ?_
        refine lv_imul hx hb dX11_way_100 ?_
        refine lv_iload_n hx hb dX11_way_101 rfl (lv_at hl 3 rfl) ?_
        refine lv_iadd hx hb dX11_way_102 ?_
        refine lv_iload hx hb dX11_way_103 (lv_at hl 8 rfl) ?_
        refine lv_iadd hx hb dX11_way_105 ?_
        refine x_iald hx hb hK hP (hL 54 0 (xe_54 nb nn)) (xc54 g 0) (ob_X11_way_106_in nb nn town sh i z days what M hp0 hp1 why n k N_ hmu hinv c_59) dX11_way_106 ?_
        refine lv_topi (fun v_60 ev_60 => ?_)
        replace hres := xlet_n hres ev_60
        refine x_iast hx hb hK hP hD hS (hL 98 0 (xe_98 nb nn)) (xc98 g 0) (ob_X11_way_107_in nb nn town sh i z days what M hp0 hp1 why n k N_ hmu hinv c_59 v_60 ev_60) dX11_way_107 (fun H locs hP hS => ?_)
        obtain ⟨M_61, eM_61⟩ : ∃ z_ : xM, z_ = xup N_ 98 0 k.toNatClampNeg v_60 := ⟨_, rfl⟩
        rw [← eM_61] at hP
        replace hres := xlet_n hres eM_61
        refine lv_aload_n hx hb dX11_way_108 rfl (lv_at hl 0 rfl) ?_
        refine lv_aload_n hx hb dX11_way_109 rfl (lv_at hl 0 rfl) ?_
        refine gf_RX11_107 hx hb hts hown hK hP (hL 40 0 (xe_40 nb nn)) dX11_way_110 ?_
        refine lv_iload hx hb dX11_way_113 (lv_at hl 8 rfl) ?_
        refine x_iald hx hb hK hP (hL 98 0 (xe_98 nb nn)) (xc98 g 0) (ob_X11_way_115_in nb nn town sh i z days what M hp0 hp1 why n k N_ hmu hinv c_59 v_60 ev_60 M_61 eM_61) dX11_way_115 ?_
        refine x_callVi (As := [.int (M_61 98 0 k.toNatClampNeg)]) S hK hAm hD hP hS mt_X11_isNote wd_738 ⟨by decide, by decide⟩ (hL 40 0 (xe_40 nb nn)) (xc40 g 0) rfl (c_X11_isNote l nb nn g L M_61 hD hL (M_61 98 0 k.toNatClampNeg)) rfl hl.1 (Nat.le_of_ble_eq_true rfl) ⟨Nat.zero_le _, Nat.zero_le _⟩ dX11_way_116 rfl (fun r_62 u H locs hp_ hP hS => ?_)
        obtain ⟨er_62, eu_⟩ := hp_
        rw [eu_] at hP
        clear eu_
        replace hres := xlet_n hres er_62
        refine lv_istore (lv' := [(9, .int r_62), (0, .ref (xad g 40 0)), (1, .int town), (2, .int sh), (3, .int i), (4, .int z), (5, .int days), (6, .int what), (7, .int why), (8, .int k)]) hx hb dX11_way_119 hl (by decide) rfl (fun ls hl => ?_)
        refine lv_iconst (v := 0) hx hb dX11_way_121 (by decide) ?_
        refine lv_istore (lv' := [(10, .int 0), (9, .int r_62), (0, .ref (xad g 40 0)), (1, .int town), (2, .int sh), (3, .int i), (4, .int z), (5, .int days), (6, .int what), (7, .int why), (8, .int k)]) hx hb dX11_way_122 hl (by decide) rfl (fun ls hl => ?_)
        refine k_124 why k M_61 (xmu (0 : Int32) k + 1) r_62 (0 : Int32) _ _ _ _ (Nat.lt_succ_self _) (ob_X11_way_124_ini_62 nb nn town sh i z days what M hp0 hp1 why n k N_ hmu hinv c_59 v_60 ev_60 M_61 eM_61 r_62 er_62) hres hP hS (lv_sub hl [2, 3, 4, 5, 6, 7, 8, 9, 10, 1, 0] rfl) ?_
        clear hres hP hS hl
        intro good_63 q_64 H locs ls hiv_64 hres hP hS hl
        refine lv_iload hx hb dX11_way_166 (lv_at hl 9 rfl) ?_
        refine lv_if_ne (tgt := 174) hx hb dX11_way_168 (by decide) (fun c_65 => ?_) (fun c_65 => ?_)
        · replace hres := hres.trans (if_neg c_65)
          obtain ⟨x8_66, ex8_66⟩ : ∃ z_ : Int32, z_ = k + 1 := ⟨_, rfl⟩
          replace hres := xlet_n hres ex8_66
          refine lv_iinc (v := x8_66) (lv' := [(8, .int x8_66), (0, .ref (xad g 40 0)), (1, .int town), (2, .int sh), (3, .int i), (4, .int z), (5, .int days), (6, .int what), (7, .int why), (9, .int good_63), (10, .int q_64)]) hx hb dX11_way_174 hl (k := 8) rfl (by rw [ex8_66]; rfl) (by decide) rfl (fun ls hl => ?_)
          refine lv_goto (tgt := 80) hx hb dX11_way_177 (by decide) ?_
          exact ih x8_66 M_61 _ _ _ kx (ob_X11_way_80_mu_66 nb nn town sh i z days what M hp0 hp1 why n k N_ hmu hinv c_59 v_60 ev_60 M_61 eM_61 r_62 er_62 good_63 q_64 hiv_64 c_65 x8_66 ex8_66) (ob_X11_way_80_inv_66 nb nn town sh i z days what M hp0 hp1 why n k N_ hmu hinv c_59 v_60 ev_60 M_61 eM_61 r_62 er_62 good_63 q_64 hiv_64 c_65 x8_66 ex8_66) hres hP hS (lv_sub hl [1, 2, 3, 4, 5, 6, 7, 8, 0] rfl) hex
        · replace hres := hres.trans (if_pos c_65)
          refine lv_ldc (own := RX11) (v := (-1000001)) hx hb hown (hts _ (List.mem_cons_of_mem _ wd_202)) dX11_way_171 ?_
          exact x_reti hx hb hr hlk hP hS (hres.symm.trans hF) dX11_way_173
  have hres := hF
  rw [f_X11_way] at hres
  refine lv_aload_n hx hb dX11_way_0 rfl (lv_at hl 0 rfl) ?_
  refine lv_iconst (v := 0) hx hb dX11_way_1 (by decide) ?_
  refine pf_RX11_113 hx hb hts hown hK hP hD hS (hL 40 0 (xe_40 nb nn)) dX11_way_2 (fun H locs hP hS => ?_)
  obtain ⟨M_67, eM_67⟩ : ∃ z_ : xM, z_ = xup M 40 0 0 0 := ⟨_, rfl⟩
  rw [← eM_67] at hP
  replace hres := xlet_n hres eM_67
  refine lv_iload_n hx hb dX11_way_5 rfl (lv_at hl 1 rfl) ?_
  refine x_callSi (As := [.int town]) S hK hAm hD hP hS mt_X11_isTown wd_281 ⟨by decide, by decide⟩ (c_X11_isTown l nb nn g L M_67 hD hL town) rfl hl.1 (Nat.le_of_ble_eq_true rfl) ⟨Nat.zero_le _, Nat.zero_le _⟩ dX11_way_6 rfl (fun r_68 u H locs hp_ hP hS => ?_)
  obtain ⟨er_68, eu_⟩ := hp_
  rw [eu_] at hP
  clear eu_
  replace hres := xlet_n hres er_68
  refine lv_if_eq (tgt := 56) hx hb dX11_way_9 (by decide) (fun c_69 => ?_) (fun c_69 => ?_)
  · replace hres := hres.trans (if_pos c_69)
    refine lv_ldc (own := RX11) (v := (-1000001)) hx hb hown (hts _ (List.mem_cons_of_mem _ wd_202)) dX11_way_56 ?_
    exact x_reti hx hb hr hlk hP hS (hres.symm.trans hF) dX11_way_58
  · replace hres := hres.trans (if_neg c_69)
    refine lv_iload_n hx hb dX11_way_12 rfl (lv_at hl 2 rfl) ?_
    refine x_callSi (As := [.int sh]) S hK hAm hD hP hS mt_X11_isSheet wd_204 ⟨by decide, by decide⟩ (c_X11_isSheet l nb nn g L M_67 hD hL sh) rfl hl.1 (Nat.le_of_ble_eq_true rfl) ⟨Nat.zero_le _, Nat.zero_le _⟩ dX11_way_13 rfl (fun r_70 u H locs hp_ hP hS => ?_)
    obtain ⟨er_70, eu_⟩ := hp_
    rw [eu_] at hP
    clear eu_
    replace hres := xlet_n hres er_70
    refine lv_if_eq (tgt := 56) hx hb dX11_way_16 (by decide) (fun c_71 => ?_) (fun c_71 => ?_)
    · replace hres := hres.trans (if_pos c_71)
      refine lv_ldc (own := RX11) (v := (-1000001)) hx hb hown (hts _ (List.mem_cons_of_mem _ wd_202)) dX11_way_56 ?_
      exact x_reti hx hb hr hlk hP hS (hres.symm.trans hF) dX11_way_58
    · replace hres := hres.trans (if_neg c_71)
      refine lv_iload hx hb dX11_way_19 (lv_at hl 4 rfl) ?_
      refine lv_i2l (v := z.toInt64) hx hb dX11_way_21 rfl ?_
      refine lv_lconst (v := 1) hx hb dX11_way_22 (by decide) ?_
      refine lv_ldc2 (own := RX11) (v := 8) hx hb hown (hts _ (List.mem_cons_of_mem _ wd_415)) dX11_way_23 ?_
      refine x_callSi (As := [.long (z.toInt64), .long 1, .long 8]) S hK hAm hD hP hS mt_X11_in wd_208 ⟨by decide, by decide⟩ (c_X11_in l nb nn g L M_67 hD hL (z.toInt64) 1 8) rfl hl.1 (Nat.le_of_ble_eq_true rfl) ⟨Nat.zero_le _, Nat.zero_le _⟩ dX11_way_26 rfl (fun r_72 u H locs hp_ hP hS => ?_)
      obtain ⟨er_72, eu_⟩ := hp_
      rw [eu_] at hP
      clear eu_
      replace hres := xlet_n hres er_72
      refine lv_if_eq (tgt := 56) hx hb dX11_way_29 (by decide) (fun c_73 => ?_) (fun c_73 => ?_)
      · replace hres := hres.trans (if_pos c_73)
        refine lv_ldc (own := RX11) (v := (-1000001)) hx hb hown (hts _ (List.mem_cons_of_mem _ wd_202)) dX11_way_56 ?_
        exact x_reti hx hb hr hlk hP hS (hres.symm.trans hF) dX11_way_58
      · replace hres := hres.trans (if_neg c_73)
        refine lv_iload hx hb dX11_way_32 (lv_at hl 5 rfl) ?_
        refine lv_i2l (v := days.toInt64) hx hb dX11_way_34 rfl ?_
        refine lv_lconst (v := 1) hx hb dX11_way_35 (by decide) ?_
        refine lv_ldc2 (own := RX11) (v := 6) hx hb hown (hts _ (List.mem_cons_of_mem _ wd_737)) dX11_way_36 ?_
        refine x_callSi (As := [.long (days.toInt64), .long 1, .long 6]) S hK hAm hD hP hS mt_X11_in wd_208 ⟨by decide, by decide⟩ (c_X11_in l nb nn g L M_67 hD hL (days.toInt64) 1 6) rfl hl.1 (Nat.le_of_ble_eq_true rfl) ⟨Nat.zero_le _, Nat.zero_le _⟩ dX11_way_39 rfl (fun r_74 u H locs hp_ hP hS => ?_)
        obtain ⟨er_74, eu_⟩ := hp_
        rw [eu_] at hP
        clear eu_
        replace hres := xlet_n hres er_74
        refine lv_if_eq (tgt := 56) hx hb dX11_way_42 (by decide) (fun c_75 => ?_) (fun c_75 => ?_)
        · replace hres := hres.trans (if_pos c_75)
          refine lv_ldc (own := RX11) (v := (-1000001)) hx hb hown (hts _ (List.mem_cons_of_mem _ wd_202)) dX11_way_56 ?_
          exact x_reti hx hb hr hlk hP hS (hres.symm.trans hF) dX11_way_58
        · replace hres := hres.trans (if_neg c_75)
          refine lv_iload hx hb dX11_way_45 (lv_at hl 6 rfl) ?_
          refine lv_i2l (v := what.toInt64) hx hb dX11_way_47 rfl ?_
          refine lv_lconst (v := 0) hx hb dX11_way_48 (by decide) ?_
          refine lv_lconst (v := 1) hx hb dX11_way_49 (by decide) ?_
          refine x_callSi (As := [.long (what.toInt64), .long 0, .long 1]) S hK hAm hD hP hS mt_X11_in wd_208 ⟨by decide, by decide⟩ (c_X11_in l nb nn g L M_67 hD hL (what.toInt64) 0 1) rfl hl.1 (Nat.le_of_ble_eq_true rfl) ⟨Nat.zero_le _, Nat.zero_le _⟩ dX11_way_50 rfl (fun r_76 u H locs hp_ hP hS => ?_)
          obtain ⟨er_76, eu_⟩ := hp_
          rw [eu_] at hP
          clear eu_
          replace hres := xlet_n hres er_76
          refine lv_if_ne (tgt := 59) hx hb dX11_way_53 (by decide) (fun c_77 => ?_) (fun c_77 => ?_)
          · replace hres := hres.trans (if_neg c_77)
            refine lv_aload_n hx hb dX11_way_59 rfl (lv_at hl 0 rfl) ?_
            refine lv_iload_n hx hb dX11_way_60 rfl (lv_at hl 2 rfl) ?_
            refine lv_iload_n hx hb dX11_way_61 rfl (lv_at hl 3 rfl) ?_
            refine lv_iload hx hb dX11_way_62 (lv_at hl 4 rfl) ?_
            refine x_callVi (As := [.int sh, .int i, .int z]) S hK hAm hD hP hS mt_X11_lookItems wd_914 ⟨by decide, by decide⟩ (hL 40 0 (xe_40 nb nn)) (xc40 g 0) rfl (c_X11_lookItems l nb nn g L M_67 hD hL sh i z (ob_X11_way_64_p0 nb nn town sh i z days what M hp0 hp1 M_67 eM_67 r_68 er_68 c_69 r_70 er_70 c_71 r_72 er_72 c_73 r_74 er_74 c_75 r_76 er_76 c_77) (ob_X11_way_64_p1 nb nn town sh i z days what M hp0 hp1 M_67 eM_67 r_68 er_68 c_69 r_70 er_70 c_71 r_72 er_72 c_73 r_74 er_74 c_75 r_76 er_76 c_77)) rfl hl.1 (Nat.le_of_ble_eq_true rfl) ⟨Nat.zero_le _, Nat.zero_le _⟩ dX11_way_64 rfl (fun r_78 M_79 H locs ep_ hP hS => ?_)
            replace hres := xlet2_n hres ep_
            have er_78 : r_78 = (f_X11_lookItems sh i z M_67).1 := congrArg Prod.fst ep_
            have eM_79 : M_79 = (f_X11_lookItems sh i z M_67).2 := congrArg Prod.snd ep_
            clear ep_
            refine lv_istore (lv' := [(7, .int r_78), (0, .ref (xad g 40 0)), (1, .int town), (2, .int sh), (3, .int i), (4, .int z), (5, .int days), (6, .int what)]) hx hb dX11_way_67 hl (by decide) rfl (fun ls hl => ?_)
            refine lv_iload hx hb dX11_way_69 (lv_at hl 0 rfl) ?_
            refine lv_if_ge (tgt := 77) hx hb dX11_way_71 (by decide) (fun c_80 => ?_) (fun c_80 => ?_)
            · replace hres := hres.trans (if_pos c_80)
              refine lv_iconst (v := 0) hx hb dX11_way_77 (by decide) ?_
              refine lv_istore (lv' := [(8, .int 0), (7, .int r_78), (0, .ref (xad g 40 0)), (1, .int town), (2, .int sh), (3, .int i), (4, .int z), (5, .int days), (6, .int what)]) hx hb dX11_way_78 hl (by decide) rfl (fun ls hl => ?_)
              refine k_80 r_78 (xmu (0 : Int32) z + 1) (0 : Int32) M_79 _ _ _ _ (Nat.lt_succ_self _) (ob_X11_way_80_ini_80 nb nn town sh i z days what M hp0 hp1 M_67 eM_67 r_68 er_68 c_69 r_70 er_70 c_71 r_72 er_72 c_73 r_74 er_74 c_75 r_76 er_76 c_77 r_78 M_79 er_78 eM_79 c_80) hres hP hS (lv_sub hl [2, 3, 4, 5, 6, 7, 8, 1, 0] rfl) ?_
              clear hres hP hS hl
              intro k_81 M_82 H locs ls hiv_82 hres hP hS hl
              refine lv_aload_n hx hb dX11_way_180 rfl (lv_at hl 0 rfl) ?_
              refine lv_iconst (v := 0) hx hb dX11_way_181 (by decide) ?_
              refine pf_RX11_117 hx hb hts hown hK hP hD hS (hL 40 0 (xe_40 nb nn)) dX11_way_182 (fun H locs hP hS => ?_)
              obtain ⟨M_83, eM_83⟩ : ∃ z_ : xM, z_ = xup M_82 40 0 1 0 := ⟨_, rfl⟩
              rw [← eM_83] at hP
              replace hres := xlet_n hres eM_83
              refine lv_iconst (v := 0) hx hb dX11_way_185 (by decide) ?_
              refine lv_istore (lv' := [(8, .int 0), (0, .ref (xad g 40 0)), (1, .int town), (2, .int sh), (3, .int i), (4, .int z), (5, .int days), (6, .int what), (7, .int r_78)]) hx hb dX11_way_186 hl (by decide) rfl (fun ls hl => ?_)
              refine k_188 r_78 (xmu (0 : Int32) 1536 + 1) (0 : Int32) M_83 _ _ _ _ (Nat.lt_succ_self _) (ob_X11_way_188_ini_83 nb nn town sh i z days what M hp0 hp1 M_67 eM_67 r_68 er_68 c_69 r_70 er_70 c_71 r_72 er_72 c_73 r_74 er_74 c_75 r_76 er_76 c_77 r_78 M_79 er_78 eM_79 c_80 k_81 M_82 hiv_82 M_83 eM_83) hres hP hS (lv_sub hl [1, 2, 3, 4, 5, 6, 7, 8, 0] rfl) ?_
              clear hres hP hS hl
              intro k_84 M_85 H locs ls hiv_85 hres hP hS hl
              refine lv_iconst (v := 1) hx hb dX11_way_210 (by decide) ?_
              refine lv_istore (lv' := [(8, .int 1), (0, .ref (xad g 40 0)), (1, .int town), (2, .int sh), (3, .int i), (4, .int z), (5, .int days), (6, .int what), (7, .int r_78)]) hx hb dX11_way_211 hl (by decide) rfl (fun ls hl => ?_)
              refine k_213 r_78 (xmu (1 : Int32) (days + 1) + 1) (1 : Int32) M_85 _ _ _ _ (Nat.lt_succ_self _) (ob_X11_way_213_ini_85 nb nn town sh i z days what M hp0 hp1 M_67 eM_67 r_68 er_68 c_69 r_70 er_70 c_71 r_72 er_72 c_73 r_74 er_74 c_75 r_76 er_76 c_77 r_78 M_79 er_78 eM_79 c_80 k_81 M_82 hiv_82 M_83 eM_83 k_84 M_85 hiv_85) hres hP hS (lv_sub hl [1, 2, 3, 4, 5, 6, 7, 8, 0] rfl) ?_
              clear hres hP hS hl
              intro day_86 M_87 H locs ls hiv_87 hres hP hS hl
              refine lv_iconst (v := 1) hx hb dX11_way_387 (by decide) ?_
              refine lv_iload hx hb dX11_way_388 (lv_at hl 4 rfl) ?_
              refine lv_ishl hx hb dX11_way_390 ?_
              refine lv_iconst (v := 1) hx hb dX11_way_391 (by decide) ?_
              refine lv_isub hx hb dX11_way_392 ?_
              refine lv_topi (fun x8_88 ex8_88 => ?_)
              replace hres := xlet_n hres ex8_88
              refine lv_istore (lv' := [(8, .int x8_88), (0, .ref (xad g 40 0)), (1, .int town), (2, .int sh), (3, .int i), (4, .int z), (5, .int days), (6, .int what), (7, .int r_78)]) hx hb dX11_way_393 hl (by decide) rfl (fun ls hl => ?_)
              refine lv_aload_n hx hb dX11_way_395 rfl (lv_at hl 1 rfl) ?_
              refine gf_RX11_104 hx hb hts hown hK hP (hL 40 0 (xe_40 nb nn)) dX11_way_396 ?_
              refine lv_sipush (v := 1536) hx hb dX11_way_399 (by decide) ?_
              refine lv_iload hx hb dX11_way_402 (lv_at hl 6 rfl) ?_
              refine lv_imul hx hb dX11_way_404 ?_
              refine lv_sipush (v := 256) hx hb dX11_way_405 (by decide) ?_
              refine lv_iload_n hx hb dX11_way_408 rfl (lv_at hl 2 rfl) ?_
              refine lv_imul hx hb dX11_way_409 ?_
              refine lv_iadd hx hb dX11_way_410 ?_
              refine lv_iload hx hb dX11_way_411 (lv_at hl 0 rfl) ?_
              refine lv_iadd hx hb dX11_way_413 ?_
              refine x_iald hx hb hK hP (hL 97 0 (xe_97 nb nn)) (xc97 g 0) (ob_X11_way_414_in nb nn town sh i z days what M hp0 hp1 M_67 eM_67 r_68 er_68 c_69 r_70 er_70 c_71 r_72 er_72 c_73 r_74 er_74 c_75 r_76 er_76 c_77 r_78 M_79 er_78 eM_79 c_80 k_81 M_82 hiv_82 M_83 eM_83 k_84 M_85 hiv_85 day_86 M_87 hiv_87 x8_88 ex8_88) dX11_way_414 ?_
              refine lv_topi (fun x9_89 ex9_89 => ?_)
              replace hres := xlet_n hres ex9_89
              refine lv_istore (lv' := [(9, .int x9_89), (8, .int x8_88), (0, .ref (xad g 40 0)), (1, .int town), (2, .int sh), (3, .int i), (4, .int z), (5, .int days), (6, .int what), (7, .int r_78)]) hx hb dX11_way_415 hl (by decide) rfl (fun ls hl => ?_)
              refine lv_iload hx hb dX11_way_417 (lv_at hl 8 rfl) ?_
              refine lv_if_ne (tgt := 425) hx hb dX11_way_419 (by decide) (fun c_90 => ?_) (fun c_90 => ?_)
              · replace hres := hres.trans (if_neg c_90)
                refine lv_iconst (v := 0) hx hb dX11_way_425 (by decide) ?_
                refine lv_istore (lv' := [(10, .int 0), (9, .int x9_89), (8, .int x8_88), (0, .ref (xad g 40 0)), (1, .int town), (2, .int sh), (3, .int i), (4, .int z), (5, .int days), (6, .int what), (7, .int r_78)]) hx hb dX11_way_426 hl (by decide) rfl (fun ls hl => ?_)
                refine k_428 r_78 x8_88 x9_89 M_87 (xmu (0 : Int32) 6 + 1) (0 : Int32) _ _ _ _ (Nat.lt_succ_self _) (ob_X11_way_428_ini_90 nb nn town sh i z days what M hp0 hp1 M_67 eM_67 r_68 er_68 c_69 r_70 er_70 c_71 r_72 er_72 c_73 r_74 er_74 c_75 r_76 er_76 c_77 r_78 M_79 er_78 eM_79 c_80 k_81 M_82 hiv_82 M_83 eM_83 k_84 M_85 hiv_85 day_86 M_87 hiv_87 x8_88 ex8_88 x9_89 ex9_89 c_90) hres hP hS (lv_sub hl [3, 4, 5, 6, 7, 8, 9, 10, 2, 1, 0] rfl) ?_
                clear hres hP hS hl
                intro to_91 H locs ls hiv_91 hres hP hS hl
                refine lv_ldc (own := RX11) (v := (-1000000)) hx hb hown (hts _ (List.mem_cons_of_mem _ wd_302)) dX11_way_510 ?_
                exact x_reti hx hb hr hlk hP hS (hres.symm.trans hF) dX11_way_512
              · replace hres := hres.trans (if_pos c_90)
                refine lv_iload hx hb dX11_way_422 (lv_at hl 0 rfl) ?_
                exact x_reti hx hb hr hlk hP hS (hres.symm.trans hF) dX11_way_424
            · replace hres := hres.trans (if_neg c_80)
              refine lv_iload hx hb dX11_way_74 (lv_at hl 0 rfl) ?_
              exact x_reti hx hb hr hlk hP hS (hres.symm.trans hF) dX11_way_76
          · replace hres := hres.trans (if_pos c_77)
            refine lv_ldc (own := RX11) (v := (-1000001)) hx hb hown (hts _ (List.mem_cons_of_mem _ wd_202)) dX11_way_56 ?_
            exact x_reti hx hb hr hlk hP hS (hres.symm.trans hF) dX11_way_58
