def f_X7_isName_L28 (wk : Nat) (M : xM) : Nat → Int32 → (Int32 → Bool) → Bool
  | 0, _, _ => false
  | n + 1, i, kx => xlet (slI wk) fun r_1 => if r_1 ≤ i then kx i else xlet (sby wk i.toNatClampNeg) fun r_3 => if (M 19 0 ((M 5 0 4) + i).toNatClampNeg) = r_3 then xlet (i + 1) fun x2_5 => f_X7_isName_L28 wk M n x2_5 kx else false
def f_X7_isName (wk : Nat) (M : xM) : Bool :=
  if (M 5 0 3) = 1 then xlet (slI wk) fun r_7 => if ((M 5 0 1) - (M 5 0 4)) = r_7 then f_X7_isName_L28 wk M (xmu (0 : Int32) (slI wk) + 1) (0 : Int32) (fun i_9 => true) else false else false
def f_X1_go (ex : Int32) (M : xM) : Int32 × xM :=
  xlet (xup M 6 0 2 ex) fun M_1 => (0, M_1)
def f_X1_readNumber (most : Int32) (then_ : Int32) (M : xM) : Int32 × xM :=
  if (M 5 0 3) = 2 then if most < (M 5 0 5) then (2, M) else xlet2 (f_X1_go then_ M) fun r_3 M_4 => (r_3, M_4) else (1, M)
def f_X1_beginBook  (M : xM) : Int32 × xM :=
  xlet (xb (f_X7_isName 0 M)) fun r_1 => if r_1 = 0 then (1, M) else xlet2 (f_X1_go 1 M) fun r_3 M_4 => (r_3, M_4)
def f_X1_readWeek  (M : xM) : Int32 × xM :=
  xlet (M 5 0 5) fun v_1 => xlet (xup M 6 0 3 v_1) fun M_2 => xlet2 (f_X1_readNumber 299 2 M_2) fun r_3 M_4 => (r_3, M_4)
def f_X1_readBank (banks : Int32) (M : xM) : Int32 × xM :=
  xlet (M 5 0 5) fun v_1 => xlet (xup M 6 0 5 v_1) fun M_2 => xlet2 (f_X1_readNumber (banks - 1) 4 M_2) fun r_3 M_4 => (r_3, M_4)
def f_X1_wordOfEntry  (M : xM) : Int32 :=
  xlet (xb (f_X7_isName 1 M)) fun r_1 => if r_1 = 0 then xlet (xb (f_X7_isName 2 M)) fun r_3 => if r_3 = 0 then xlet (xb (f_X7_isName 3 M)) fun r_5 => if r_5 = 0 then (-1) else 2 else 1 else 0
def f_X1_beginEntry  (M : xM) : Int32 × xM :=
  xlet (f_X1_wordOfEntry M) fun r_1 => xlet (xup M 6 0 4 r_1) fun M_2 => if (M_2 6 0 4) = (-1) then (1, M_2) else xlet (xb (f_X2_hasRoomBehind (M_2 6 0 6) M_2)) fun r_4 => if r_4 = 0 then (3, M_2) else xlet2 (f_X1_go 3 M_2) fun r_6 M_7 => (r_6, M_7)
def f_X1_readValue  (M : xM) : Int32 × xM :=
  if (M 6 0 4) = 1 then xlet2 (f_X1_readNumber 255 5 M) fun r_9 M_10 => if r_9 = 0 then xlet (f_X2_write (M_10 6 0 6) (M_10 6 0 4) (M_10 6 0 3) (M_10 6 0 5) (M_10 5 0 5) M_10) fun M_13 => xlet ((M_13 6 0 6) + 1) fun v_14 => xlet (xup M_13 6 0 6 v_14) fun M_15 => (r_9, M_15) else (r_9, M_10) else xlet2 (f_X1_readNumber 100 5 M) fun r_2 M_3 => if r_2 = 0 then xlet (f_X2_write (M_3 6 0 6) (M_3 6 0 4) (M_3 6 0 3) (M_3 6 0 5) (M_3 5 0 5) M_3) fun M_6 => xlet ((M_6 6 0 6) + 1) fun v_7 => xlet (xup M_6 6 0 6 v_7) fun M_8 => (r_2, M_8) else (r_2, M_3)
def f_X1_step (banks : Int32) (M : xM) : Int32 × xM :=
  xlet (M 6 0 2) fun sw_1 => if sw_1 = 0 then xlet2 (f_X1_beginBook M) fun r_3 M_4 => (r_3, M_4) else if sw_1 = 1 then xlet2 (f_X1_readWeek M) fun r_6 M_7 => (r_6, M_7) else if sw_1 = 2 then xlet2 (f_X1_beginEntry M) fun r_9 M_10 => (r_9, M_10) else if sw_1 = 3 then xlet2 (f_X1_readBank banks M) fun r_12 M_13 => (r_12, M_13) else if sw_1 = 4 then xlet2 (f_X1_readValue M) fun r_15 M_16 => (r_15, M_16) else if (M 5 0 3) = 3 then xlet2 (f_X1_go 0 M) fun r_20 M_21 => (r_20, M_21) else xlet2 (f_X1_beginEntry M) fun r_18 M_19 => (r_18, M_19)
theorem ob_X7_isName_63_x28 (nb nn : Nat) (wk : Nat) (M : xM) (hwk : wk < 4) (hp0 : 0 ≤ M 5 0 4) (hp1 : M 5 0 4 ≤ 400) (hp2 : M 5 0 1 ≤ 400) (n : Nat) (i : Int32) (hmu : xmu i (slI wk) < n + 1) (hinv : 0 ≤ i ∧ M 5 0 1 - M 5 0 4 = slI wk) (r_1 : Int32) (er_1 : r_1 = slI wk) (c_2 : r_1 ≤ i) : 0 ≤ i ∧ M 5 0 1 - M 5 0 4 = slI wk := by
  subst_vars
  grind [xb, slI_b]
theorem ob_X7_isName_46_in (nb nn : Nat) (wk : Nat) (M : xM) (hwk : wk < 4) (hp0 : 0 ≤ M 5 0 4) (hp1 : M 5 0 4 ≤ 400) (hp2 : M 5 0 1 ≤ 400) (n : Nat) (i : Int32) (hmu : xmu i (slI wk) < n + 1) (hinv : 0 ≤ i ∧ M 5 0 1 - M 5 0 4 = slI wk) (r_1 : Int32) (er_1 : r_1 = slI wk) (c_2 : ¬ r_1 ≤ i) : vp_in ((M 5 0 4) + i) 400 := by
  subst_vars
  have h9 := slI_b hwk
  exact xin (N := 400) (by grind) (by grind) (by decide)
theorem ob_X7_isName_49_c1 (nb nn : Nat) (wk : Nat) (M : xM) (hwk : wk < 4) (hp0 : 0 ≤ M 5 0 4) (hp1 : M 5 0 4 ≤ 400) (hp2 : M 5 0 1 ≤ 400) (n : Nat) (i : Int32) (hmu : xmu i (slI wk) < n + 1) (hinv : 0 ≤ i ∧ M 5 0 1 - M 5 0 4 = slI wk) (r_1 : Int32) (er_1 : r_1 = slI wk) (c_2 : ¬ r_1 ≤ i) : 0 ≤ i := by
  subst_vars
  grind [xb, slI_b]
theorem ob_X7_isName_49_c2 (nb nn : Nat) (wk : Nat) (M : xM) (hwk : wk < 4) (hp0 : 0 ≤ M 5 0 4) (hp1 : M 5 0 4 ≤ 400) (hp2 : M 5 0 1 ≤ 400) (n : Nat) (i : Int32) (hmu : xmu i (slI wk) < n + 1) (hinv : 0 ≤ i ∧ M 5 0 1 - M 5 0 4 = slI wk) (r_1 : Int32) (er_1 : r_1 = slI wk) (c_2 : ¬ r_1 ≤ i) : i < slI wk := by
  subst_vars
  grind [xb, slI_b]
theorem ob_X7_isName_28_mu_5 (nb nn : Nat) (wk : Nat) (M : xM) (hwk : wk < 4) (hp0 : 0 ≤ M 5 0 4) (hp1 : M 5 0 4 ≤ 400) (hp2 : M 5 0 1 ≤ 400) (n : Nat) (i : Int32) (hmu : xmu i (slI wk) < n + 1) (hinv : 0 ≤ i ∧ M 5 0 1 - M 5 0 4 = slI wk) (r_1 : Int32) (er_1 : r_1 = slI wk) (c_2 : ¬ r_1 ≤ i) (r_3 : Int32) (er_3 : r_3 = sby wk i.toNatClampNeg) (c_4 : (M 19 0 ((M 5 0 4) + i).toNatClampNeg) = r_3) (x2_5 : Int32) (ex2_5 : x2_5 = i + 1) : xmu x2_5 (slI wk) < n := by
  subst_vars
  have h9 := xmu_up (a := i) (b := slI wk) (by grind)
  omega
theorem ob_X7_isName_28_inv_5 (nb nn : Nat) (wk : Nat) (M : xM) (hwk : wk < 4) (hp0 : 0 ≤ M 5 0 4) (hp1 : M 5 0 4 ≤ 400) (hp2 : M 5 0 1 ≤ 400) (n : Nat) (i : Int32) (hmu : xmu i (slI wk) < n + 1) (hinv : 0 ≤ i ∧ M 5 0 1 - M 5 0 4 = slI wk) (r_1 : Int32) (er_1 : r_1 = slI wk) (c_2 : ¬ r_1 ≤ i) (r_3 : Int32) (er_3 : r_3 = sby wk i.toNatClampNeg) (c_4 : (M 19 0 ((M 5 0 4) + i).toNatClampNeg) = r_3) (x2_5 : Int32) (ex2_5 : x2_5 = i + 1) : 0 ≤ x2_5 ∧ M 5 0 1 - M 5 0 4 = slI wk := by
  subst_vars
  grind [xb, slI_b]
theorem ob_X7_isName_28_ini_8 (nb nn : Nat) (wk : Nat) (M : xM) (hwk : wk < 4) (hp0 : 0 ≤ M 5 0 4) (hp1 : M 5 0 4 ≤ 400) (hp2 : M 5 0 1 ≤ 400) (c_6 : (M 5 0 3) = 1) (r_7 : Int32) (er_7 : r_7 = slI wk) (c_8 : ((M 5 0 1) - (M 5 0 4)) = r_7) : 0 ≤ (0 : Int32) ∧ M 5 0 1 - M 5 0 4 = slI wk := by
  subst_vars
  grind [xb, slI_b]
theorem ob_X1_beginBook_6_p0 (nb nn : Nat) (M : xM) (hp0 : 0 ≤ M 5 0 4) (hp1 : M 5 0 4 ≤ 400) (hp2 : M 5 0 1 ≤ 400) : 0 ≤ M 5 0 4 := by
  first | grind | (subst_vars; simp [xup_at] at *; done) | (subst_vars; simp [xup_at] at *; grind)
theorem ob_X1_beginBook_6_p1 (nb nn : Nat) (M : xM) (hp0 : 0 ≤ M 5 0 4) (hp1 : M 5 0 4 ≤ 400) (hp2 : M 5 0 1 ≤ 400) : M 5 0 4 ≤ 400 := by
  first | grind | (subst_vars; simp [xup_at] at *; done) | (subst_vars; simp [xup_at] at *; grind)
theorem ob_X1_beginBook_6_p2 (nb nn : Nat) (M : xM) (hp0 : 0 ≤ M 5 0 4) (hp1 : M 5 0 4 ≤ 400) (hp2 : M 5 0 1 ≤ 400) : M 5 0 1 ≤ 400 := by
  first | grind | (subst_vars; simp [xup_at] at *; done) | (subst_vars; simp [xup_at] at *; grind)
theorem ob_X1_wordOfEntry_6_p0 (nb nn : Nat) (M : xM) (hp0 : 0 ≤ M 5 0 4) (hp1 : M 5 0 4 ≤ 400) (hp2 : M 5 0 1 ≤ 400) : 0 ≤ M 5 0 4 := by
  first | grind | (subst_vars; simp [xup_at] at *; done) | (subst_vars; simp [xup_at] at *; grind)
theorem ob_X1_wordOfEntry_6_p1 (nb nn : Nat) (M : xM) (hp0 : 0 ≤ M 5 0 4) (hp1 : M 5 0 4 ≤ 400) (hp2 : M 5 0 1 ≤ 400) : M 5 0 4 ≤ 400 := by
  first | grind | (subst_vars; simp [xup_at] at *; done) | (subst_vars; simp [xup_at] at *; grind)
theorem ob_X1_wordOfEntry_6_p2 (nb nn : Nat) (M : xM) (hp0 : 0 ≤ M 5 0 4) (hp1 : M 5 0 4 ≤ 400) (hp2 : M 5 0 1 ≤ 400) : M 5 0 1 ≤ 400 := by
  first | grind | (subst_vars; simp [xup_at] at *; done) | (subst_vars; simp [xup_at] at *; grind)
theorem ob_X1_wordOfEntry_20_p0 (nb nn : Nat) (M : xM) (hp0 : 0 ≤ M 5 0 4) (hp1 : M 5 0 4 ≤ 400) (hp2 : M 5 0 1 ≤ 400) (r_1 : Int32) (er_1 : r_1 = xb (f_X7_isName 1 M)) (c_2 : r_1 = 0) : 0 ≤ M 5 0 4 := by
  first | grind | (subst_vars; simp [xup_at] at *; done) | (subst_vars; simp [xup_at] at *; grind)
theorem ob_X1_wordOfEntry_20_p1 (nb nn : Nat) (M : xM) (hp0 : 0 ≤ M 5 0 4) (hp1 : M 5 0 4 ≤ 400) (hp2 : M 5 0 1 ≤ 400) (r_1 : Int32) (er_1 : r_1 = xb (f_X7_isName 1 M)) (c_2 : r_1 = 0) : M 5 0 4 ≤ 400 := by
  first | grind | (subst_vars; simp [xup_at] at *; done) | (subst_vars; simp [xup_at] at *; grind)
theorem ob_X1_wordOfEntry_20_p2 (nb nn : Nat) (M : xM) (hp0 : 0 ≤ M 5 0 4) (hp1 : M 5 0 4 ≤ 400) (hp2 : M 5 0 1 ≤ 400) (r_1 : Int32) (er_1 : r_1 = xb (f_X7_isName 1 M)) (c_2 : r_1 = 0) : M 5 0 1 ≤ 400 := by
  first | grind | (subst_vars; simp [xup_at] at *; done) | (subst_vars; simp [xup_at] at *; grind)
theorem ob_X1_wordOfEntry_34_p0 (nb nn : Nat) (M : xM) (hp0 : 0 ≤ M 5 0 4) (hp1 : M 5 0 4 ≤ 400) (hp2 : M 5 0 1 ≤ 400) (r_1 : Int32) (er_1 : r_1 = xb (f_X7_isName 1 M)) (c_2 : r_1 = 0) (r_3 : Int32) (er_3 : r_3 = xb (f_X7_isName 2 M)) (c_4 : r_3 = 0) : 0 ≤ M 5 0 4 := by
  first | grind | (subst_vars; simp [xup_at] at *; done) | (subst_vars; simp [xup_at] at *; grind)
theorem ob_X1_wordOfEntry_34_p1 (nb nn : Nat) (M : xM) (hp0 : 0 ≤ M 5 0 4) (hp1 : M 5 0 4 ≤ 400) (hp2 : M 5 0 1 ≤ 400) (r_1 : Int32) (er_1 : r_1 = xb (f_X7_isName 1 M)) (c_2 : r_1 = 0) (r_3 : Int32) (er_3 : r_3 = xb (f_X7_isName 2 M)) (c_4 : r_3 = 0) : M 5 0 4 ≤ 400 := by
  first | grind | (subst_vars; simp [xup_at] at *; done) | (subst_vars; simp [xup_at] at *; grind)
theorem ob_X1_wordOfEntry_34_p2 (nb nn : Nat) (M : xM) (hp0 : 0 ≤ M 5 0 4) (hp1 : M 5 0 4 ≤ 400) (hp2 : M 5 0 1 ≤ 400) (r_1 : Int32) (er_1 : r_1 = xb (f_X7_isName 1 M)) (c_2 : r_1 = 0) (r_3 : Int32) (er_3 : r_3 = xb (f_X7_isName 2 M)) (c_4 : r_3 = 0) : M 5 0 1 ≤ 400 := by
  first | grind | (subst_vars; simp [xup_at] at *; done) | (subst_vars; simp [xup_at] at *; grind)
theorem ob_X1_beginEntry_2_p0 (nb nn : Nat) (M : xM) (hp0 : 0 ≤ M 5 0 4) (hp1 : M 5 0 4 ≤ 400) (hp2 : M 5 0 1 ≤ 400) : 0 ≤ M 5 0 4 := by
  first | grind | (subst_vars; simp [xup_at] at *; done) | (subst_vars; simp [xup_at] at *; grind)
theorem ob_X1_beginEntry_2_p1 (nb nn : Nat) (M : xM) (hp0 : 0 ≤ M 5 0 4) (hp1 : M 5 0 4 ≤ 400) (hp2 : M 5 0 1 ≤ 400) : M 5 0 4 ≤ 400 := by
  first | grind | (subst_vars; simp [xup_at] at *; done) | (subst_vars; simp [xup_at] at *; grind)
theorem ob_X1_beginEntry_2_p2 (nb nn : Nat) (M : xM) (hp0 : 0 ≤ M 5 0 4) (hp1 : M 5 0 4 ≤ 400) (hp2 : M 5 0 1 ≤ 400) : M 5 0 1 ≤ 400 := by
  first | grind | (subst_vars; simp [xup_at] at *; done) | (subst_vars; simp [xup_at] at *; grind)
theorem ob_X1_step_41_p0 (nb nn : Nat) (banks : Int32) (M : xM) (hp0 : 0 ≤ M 5 0 4) (hp1 : M 5 0 4 ≤ 400) (hp2 : M 5 0 1 ≤ 400) (sw_1 : Int32) (esw_1 : sw_1 = (M 6 0 2)) (c_2 : sw_1 = 0) : 0 ≤ M 5 0 4 := by
  first | grind | (subst_vars; simp [xup_at] at *; done) | (subst_vars; simp [xup_at] at *; grind)
theorem ob_X1_step_41_p1 (nb nn : Nat) (banks : Int32) (M : xM) (hp0 : 0 ≤ M 5 0 4) (hp1 : M 5 0 4 ≤ 400) (hp2 : M 5 0 1 ≤ 400) (sw_1 : Int32) (esw_1 : sw_1 = (M 6 0 2)) (c_2 : sw_1 = 0) : M 5 0 4 ≤ 400 := by
  first | grind | (subst_vars; simp [xup_at] at *; done) | (subst_vars; simp [xup_at] at *; grind)
theorem ob_X1_step_41_p2 (nb nn : Nat) (banks : Int32) (M : xM) (hp0 : 0 ≤ M 5 0 4) (hp1 : M 5 0 4 ≤ 400) (hp2 : M 5 0 1 ≤ 400) (sw_1 : Int32) (esw_1 : sw_1 = (M 6 0 2)) (c_2 : sw_1 = 0) : M 5 0 1 ≤ 400 := by
  first | grind | (subst_vars; simp [xup_at] at *; done) | (subst_vars; simp [xup_at] at *; grind)
theorem ob_X1_step_51_p0 (nb nn : Nat) (banks : Int32) (M : xM) (hp0 : 0 ≤ M 5 0 4) (hp1 : M 5 0 4 ≤ 400) (hp2 : M 5 0 1 ≤ 400) (sw_1 : Int32) (esw_1 : sw_1 = (M 6 0 2)) (c_2 : ¬ sw_1 = 0) (c_5 : ¬ sw_1 = 1) (c_8 : sw_1 = 2) : 0 ≤ M 5 0 4 := by
  first | grind | (subst_vars; simp [xup_at] at *; done) | (subst_vars; simp [xup_at] at *; grind)
theorem ob_X1_step_51_p1 (nb nn : Nat) (banks : Int32) (M : xM) (hp0 : 0 ≤ M 5 0 4) (hp1 : M 5 0 4 ≤ 400) (hp2 : M 5 0 1 ≤ 400) (sw_1 : Int32) (esw_1 : sw_1 = (M 6 0 2)) (c_2 : ¬ sw_1 = 0) (c_5 : ¬ sw_1 = 1) (c_8 : sw_1 = 2) : M 5 0 4 ≤ 400 := by
  first | grind | (subst_vars; simp [xup_at] at *; done) | (subst_vars; simp [xup_at] at *; grind)
theorem ob_X1_step_51_p2 (nb nn : Nat) (banks : Int32) (M : xM) (hp0 : 0 ≤ M 5 0 4) (hp1 : M 5 0 4 ≤ 400) (hp2 : M 5 0 1 ≤ 400) (sw_1 : Int32) (esw_1 : sw_1 = (M 6 0 2)) (c_2 : ¬ sw_1 = 0) (c_5 : ¬ sw_1 = 1) (c_8 : sw_1 = 2) : M 5 0 1 ≤ 400 := by
  first | grind | (subst_vars; simp [xup_at] at *; done) | (subst_vars; simp [xup_at] at *; grind)
theorem ob_X1_step_86_p0 (nb nn : Nat) (banks : Int32) (M : xM) (hp0 : 0 ≤ M 5 0 4) (hp1 : M 5 0 4 ≤ 400) (hp2 : M 5 0 1 ≤ 400) (sw_1 : Int32) (esw_1 : sw_1 = (M 6 0 2)) (c_2 : ¬ sw_1 = 0) (c_5 : ¬ sw_1 = 1) (c_8 : ¬ sw_1 = 2) (c_11 : ¬ sw_1 = 3) (c_14 : ¬ sw_1 = 4) (c_17 : ¬ (M 5 0 3) = 3) : 0 ≤ M 5 0 4 := by
  first | grind | (subst_vars; simp [xup_at] at *; done) | (subst_vars; simp [xup_at] at *; grind)
theorem ob_X1_step_86_p1 (nb nn : Nat) (banks : Int32) (M : xM) (hp0 : 0 ≤ M 5 0 4) (hp1 : M 5 0 4 ≤ 400) (hp2 : M 5 0 1 ≤ 400) (sw_1 : Int32) (esw_1 : sw_1 = (M 6 0 2)) (c_2 : ¬ sw_1 = 0) (c_5 : ¬ sw_1 = 1) (c_8 : ¬ sw_1 = 2) (c_11 : ¬ sw_1 = 3) (c_14 : ¬ sw_1 = 4) (c_17 : ¬ (M 5 0 3) = 3) : M 5 0 4 ≤ 400 := by
  first | grind | (subst_vars; simp [xup_at] at *; done) | (subst_vars; simp [xup_at] at *; grind)
theorem ob_X1_step_86_p2 (nb nn : Nat) (banks : Int32) (M : xM) (hp0 : 0 ≤ M 5 0 4) (hp1 : M 5 0 4 ≤ 400) (hp2 : M 5 0 1 ≤ 400) (sw_1 : Int32) (esw_1 : sw_1 = (M 6 0 2)) (c_2 : ¬ sw_1 = 0) (c_5 : ¬ sw_1 = 1) (c_8 : ¬ sw_1 = 2) (c_11 : ¬ sw_1 = 3) (c_14 : ¬ sw_1 = 4) (c_17 : ¬ (M 5 0 3) = 3) : M 5 0 1 ≤ 400 := by
  first | grind | (subst_vars; simp [xup_at] at *; done) | (subst_vars; simp [xup_at] at *; grind)
set_option maxHeartbeats 4000000 in
set_option maxRecDepth 100000 in
theorem c_X7_isName (l : Launch) (nb nn : Nat) (g : xG) (L : List (Nat × Nat)) (M : xM) (hD : xD g L) (hL : xEL nb nn L) (wk : Nat) (hwk : wk < 4) (hp0 : 0 ≤ M 5 0 4) (hp1 : M 5 0 4 ≤ 400) (hp2 : M 5 0 1 ≤ 400) : xCi l yX7_isName cX7_isName 3 (some .boolean) 4 g L M [.ref (xad g 5 0), .ref (xst g (10 + wk))] (fun r u => r = xb (f_X7_isName wk M) ∧ u = M) := by
  intro sz
  refine x_beg (by decide +kernel) rfl ?_
  intro p e s m args below meth c ls hsz hB
  subst hsz
  obtain ⟨hx, hb, hml, hown, hts, hr, hlk, hK, hAm, hP, hl⟩ := hB
  have S : CallFix p m c cX7_isName 3 s args (xws yX7_isName cX7_isName 3 (some .boolean)) RX7 := ⟨hx, hb, hml, hown, hts⟩
  have hown : s.vm.findClass RX7 = some m.cls := hown
  have hl : lv_has ls 3 [(0, .ref (xad g 5 0)), (1, .ref (xst g (10 + wk)))] := hl
  have hS : va_S (xA g L s.heap.size) s.heap s.heap [] := va_S.rf
  obtain ⟨F, hF⟩ : ∃ F, F = f_X7_isName wk M := ⟨_, rfl⟩
  have k_28 : ∀ (n : Nat) (i : Int32) (H : Heap) (locs : List Loc) (ls : Array Slot) (kx : (Int32 → Bool)), xmu i (slI wk) < n → 0 ≤ i ∧ M 5 0 1 - M 5 0 4 = slI wk → F = f_X7_isName_L28 wk M n i kx → xP g L M H → va_S (xA g L s.heap.size) s.heap H locs → lv_has ls 3 [(0, .ref (xad g 5 0)), (1, .ref (xst g (10 + wk))), (2, .int i)] → (∀ (i : Int32) (H : Heap) (locs : List Loc) (ls : Array Slot), 0 ≤ i ∧ M 5 0 1 - M 5 0 4 = slI wk → F = kx i → xP g L M H → va_S (xA g L s.heap.size) s.heap H locs → lv_has ls 3 [(0, .ref (xad g 5 0)), (1, .ref (xst g (10 + wk))), (2, .int i)] → W p l e (xr 4) s m args below meth c H locs 0 0 (MQ below (va_Qi (fun r u => r = xb (f_X7_isName wk M) ∧ u = M) (xPost g L) (xA g L s.heap.size)) args s 0 0 (xA g L s.heap.size)) (F0 m 63 ls [])) → W p l e (xr 4) s m args below meth c H locs 0 0 (MQ below (va_Qi (fun r u => r = xb (f_X7_isName wk M) ∧ u = M) (xPost g L) (xA g L s.heap.size)) args s 0 0 (xA g L s.heap.size)) (F0 m 28 ls []) := by
    intro n
    induction n with
    | zero => intro i H locs ls kx hmu; exact absurd hmu (Nat.not_lt_zero _)
    | succ n ih =>
      intro i H locs ls kx hmu hinv hres hP hS hl hex
      replace hres : F = _ := hres.trans (by rw [f_X7_isName_L28])
      refine lv_iload_n hx hb dX7_isName_28 rfl (lv_at hl 2 rfl) ?_
      refine lv_aload_n hx hb dX7_isName_29 rfl (lv_at hl 1 rfl) ?_
      refine x_callVs (As := []) S hK hAm hD hP hS mt_J0_length_8abf5 wd_461 ⟨by decide, by decide⟩ hwk (c_J0_length_8abf5 l nb nn g L M hD hL wk hwk) rfl hl.1 (Nat.le_of_ble_eq_true rfl) ⟨Nat.zero_le _, Nat.zero_le _⟩ dX7_isName_30 rfl (fun r_1 u H locs hp_ hP hS => ?_)
      obtain ⟨er_1, eu_⟩ := hp_
      rw [eu_] at hP
      clear eu_
      replace hres := xlet_n hres er_1
      refine lv_icmp_ge (tgt := 63) hx hb dX7_isName_33 (by decide) (fun c_2 => ?_) (fun c_2 => ?_)
      · replace hres := hres.trans (if_pos c_2)
        exact hex i _ _ _ (ob_X7_isName_63_x28 nb nn wk M hwk hp0 hp1 hp2 n i hmu hinv r_1 er_1 c_2) hres hP hS (lv_sub hl [0, 1, 2] rfl)
      · replace hres := hres.trans (if_neg c_2)
        refine lv_aload_n hx hb dX7_isName_36 rfl (lv_at hl 0 rfl) ?_
        refine gf_RX7_9 hx hb hts hown hK hP (hL 5 0 (xe_5 nb nn)) dX7_isName_37 ?_
        refine lv_aload_n hx hb dX7_isName_40 rfl (lv_at hl 0 rfl) ?_
        refine gf_RX7_23 hx hb hts hown hK hP (hL 5 0 (xe_5 nb nn)) dX7_isName_41 ?_
        refine lv_iload_n hx hb dX7_isName_44 rfl (lv_at hl 2 rfl) ?_
        refine lv_iadd hx hb dX7_isName_45 ?_
        refine x_bald hx hb hK hP (hL 19 0 (xe_19 nb nn)) (xc19 g 0) (ob_X7_isName_46_in nb nn wk M hwk hp0 hp1 hp2 n i hmu hinv r_1 er_1 c_2) dX7_isName_46 ?_
        refine lv_aload_n hx hb dX7_isName_47 rfl (lv_at hl 1 rfl) ?_
        refine lv_iload_n hx hb dX7_isName_48 rfl (lv_at hl 2 rfl) ?_
        refine x_callVs (As := [.int i]) S hK hAm hD hP hS mt_J0_charAt_5068e wd_473 ⟨by decide, by decide⟩ hwk (c_J0_charAt_5068e l nb nn g L M hD hL wk hwk i (ob_X7_isName_49_c1 nb nn wk M hwk hp0 hp1 hp2 n i hmu hinv r_1 er_1 c_2) (ob_X7_isName_49_c2 nb nn wk M hwk hp0 hp1 hp2 n i hmu hinv r_1 er_1 c_2)) rfl hl.1 (Nat.le_of_ble_eq_true rfl) ⟨Nat.zero_le _, Nat.zero_le _⟩ dX7_isName_49 rfl (fun r_3 u H locs hp_ hP hS => ?_)
        obtain ⟨er_3, eu_⟩ := hp_
        rw [eu_] at hP
        clear eu_
        replace hres := xlet_n hres er_3
        refine lv_icmp_eq (tgt := 57) hx hb dX7_isName_52 (by decide) (fun c_4 => ?_) (fun c_4 => ?_)
        · replace hres := hres.trans (if_pos c_4)
          obtain ⟨x2_5, ex2_5⟩ : ∃ z_ : Int32, z_ = i + 1 := ⟨_, rfl⟩
          replace hres := xlet_n hres ex2_5
          refine lv_iinc (v := x2_5) (lv' := [(2, .int x2_5), (0, .ref (xad g 5 0)), (1, .ref (xst g (10 + wk)))]) hx hb dX7_isName_57 hl (k := 2) rfl (by rw [ex2_5]; rfl) (by decide) rfl (fun ls hl => ?_)
          refine lv_goto (tgt := 28) hx hb dX7_isName_60 (by decide) ?_
          exact ih x2_5 _ _ _ kx (ob_X7_isName_28_mu_5 nb nn wk M hwk hp0 hp1 hp2 n i hmu hinv r_1 er_1 c_2 r_3 er_3 c_4 x2_5 ex2_5) (ob_X7_isName_28_inv_5 nb nn wk M hwk hp0 hp1 hp2 n i hmu hinv r_1 er_1 c_2 r_3 er_3 c_4 x2_5 ex2_5) hres hP hS (lv_sub hl [1, 2, 0] rfl) hex
        · replace hres := hres.trans (if_neg c_4)
          refine lv_iconst (v := 0) hx hb dX7_isName_55 (by decide) ?_
          exact x_retz hx hb hr hlk hP hS rfl ⟨(congrArg xb (hres.symm.trans hF)), rfl⟩ dX7_isName_56
  have hres := hF
  rw [f_X7_isName] at hres
  refine lv_aload_n hx hb dX7_isName_0 rfl (lv_at hl 0 rfl) ?_
  refine gf_RX7_20 hx hb hts hown hK hP (hL 5 0 (xe_5 nb nn)) dX7_isName_1 ?_
  refine lv_iconst (v := 1) hx hb dX7_isName_4 (by decide) ?_
  refine lv_icmp_ne (tgt := 24) hx hb dX7_isName_5 (by decide) (fun c_6 => ?_) (fun c_6 => ?_)
  · replace hres := hres.trans (if_neg c_6)
    refine lv_iconst (v := 0) hx hb dX7_isName_24 (by decide) ?_
    exact x_retz hx hb hr hlk hP hS rfl ⟨(congrArg xb (hres.symm.trans hF)), rfl⟩ dX7_isName_25
  · replace hres := hres.trans (if_pos c_6)
    refine lv_aload_n hx hb dX7_isName_8 rfl (lv_at hl 0 rfl) ?_
    refine gf_RX7_13 hx hb hts hown hK hP (hL 5 0 (xe_5 nb nn)) dX7_isName_9 ?_
    refine lv_aload_n hx hb dX7_isName_12 rfl (lv_at hl 0 rfl) ?_
    refine gf_RX7_23 hx hb hts hown hK hP (hL 5 0 (xe_5 nb nn)) dX7_isName_13 ?_
    refine lv_isub hx hb dX7_isName_16 ?_
    refine lv_aload_n hx hb dX7_isName_17 rfl (lv_at hl 1 rfl) ?_
    refine x_callVs (As := []) S hK hAm hD hP hS mt_J0_length_8abf5 wd_461 ⟨by decide, by decide⟩ hwk (c_J0_length_8abf5 l nb nn g L M hD hL wk hwk) rfl hl.1 (Nat.le_of_ble_eq_true rfl) ⟨Nat.zero_le _, Nat.zero_le _⟩ dX7_isName_18 rfl (fun r_7 u H locs hp_ hP hS => ?_)
    obtain ⟨er_7, eu_⟩ := hp_
    rw [eu_] at hP
    clear eu_
    replace hres := xlet_n hres er_7
    refine lv_icmp_eq (tgt := 26) hx hb dX7_isName_21 (by decide) (fun c_8 => ?_) (fun c_8 => ?_)
    · replace hres := hres.trans (if_pos c_8)
      refine lv_iconst (v := 0) hx hb dX7_isName_26 (by decide) ?_
      refine lv_istore_n (lv' := [(2, .int 0), (0, .ref (xad g 5 0)), (1, .ref (xst g (10 + wk)))]) hx hb dX7_isName_27 rfl hl (by decide) rfl (fun ls hl => ?_)
      refine k_28 (xmu (0 : Int32) (slI wk) + 1) (0 : Int32) _ _ _ _ (Nat.lt_succ_self _) (ob_X7_isName_28_ini_8 nb nn wk M hwk hp0 hp1 hp2 c_6 r_7 er_7 c_8) hres hP hS (lv_sub hl [1, 2, 0] rfl) ?_
      clear hres hP hS hl
      intro i_9 H locs ls hiv_9 hres hP hS hl
      refine lv_iconst (v := 1) hx hb dX7_isName_63 (by decide) ?_
      exact x_retz hx hb hr hlk hP hS rfl ⟨(congrArg xb (hres.symm.trans hF)), rfl⟩ dX7_isName_64
    · replace hres := hres.trans (if_neg c_8)
      refine lv_iconst (v := 0) hx hb dX7_isName_24 (by decide) ?_
      exact x_retz hx hb hr hlk hP hS rfl ⟨(congrArg xb (hres.symm.trans hF)), rfl⟩ dX7_isName_25
set_option maxHeartbeats 4000000 in
set_option maxRecDepth 100000 in
theorem c_X1_go (l : Launch) (nb nn : Nat) (g : xG) (L : List (Nat × Nat)) (M : xM) (hD : xD g L) (hL : xEL nb nn L) (ex : Int32)  : xCi l yX1_go cX1_go 2 (some .int) 0 g L M [.ref (xad g 6 0), .int ex] (fun r u => (r, u) = f_X1_go ex M) := by
  intro sz
  refine x_beg (by decide +kernel) rfl ?_
  intro p e s m args below meth c ls hsz hB
  subst hsz
  obtain ⟨hx, hb, hml, hown, hts, hr, hlk, hK, hAm, hP, hl⟩ := hB
  have S : CallFix p m c cX1_go 2 s args (xws yX1_go cX1_go 2 (some .int)) RX1 := ⟨hx, hb, hml, hown, hts⟩
  have hown : s.vm.findClass RX1 = some m.cls := hown
  have hl : lv_has ls 2 [(0, .ref (xad g 6 0)), (1, .int ex)] := hl
  have hS : va_S (xA g L s.heap.size) s.heap s.heap [] := va_S.rf
  obtain ⟨F, hF⟩ : ∃ F, F = f_X1_go ex M := ⟨_, rfl⟩
  have hres := hF
  rw [f_X1_go] at hres
  refine lv_aload_n hx hb dX1_go_0 rfl (lv_at hl 0 rfl) ?_
  refine lv_iload_n hx hb dX1_go_1 rfl (lv_at hl 1 rfl) ?_
  refine pf_RX1_11 hx hb hts hown hK hP hD hS (hL 6 0 (xe_6 nb nn)) dX1_go_2 (fun H locs hP hS => ?_)
  obtain ⟨M_1, eM_1⟩ : ∃ z_ : xM, z_ = xup M 6 0 2 ex := ⟨_, rfl⟩
  rw [← eM_1] at hP
  replace hres := xlet_n hres eM_1
  refine lv_iconst (v := 0) hx hb dX1_go_5 (by decide) ?_
  exact x_reti hx hb hr hlk hP hS (hres.symm.trans hF) dX1_go_6
set_option maxHeartbeats 4000000 in
set_option maxRecDepth 100000 in
theorem c_X1_readNumber (l : Launch) (nb nn : Nat) (g : xG) (L : List (Nat × Nat)) (M : xM) (hD : xD g L) (hL : xEL nb nn L) (most : Int32) (then_ : Int32)  : xCi l yX1_readNumber cX1_readNumber 3 (some .int) 1 g L M [.ref (xad g 6 0), .int most, .int then_] (fun r u => (r, u) = f_X1_readNumber most then_ M) := by
  intro sz
  refine x_beg (by decide +kernel) rfl ?_
  intro p e s m args below meth c ls hsz hB
  subst hsz
  obtain ⟨hx, hb, hml, hown, hts, hr, hlk, hK, hAm, hP, hl⟩ := hB
  have S : CallFix p m c cX1_readNumber 3 s args (xws yX1_readNumber cX1_readNumber 3 (some .int)) RX1 := ⟨hx, hb, hml, hown, hts⟩
  have hown : s.vm.findClass RX1 = some m.cls := hown
  have hl : lv_has ls 3 [(0, .ref (xad g 6 0)), (1, .int most), (2, .int then_)] := hl
  have hS : va_S (xA g L s.heap.size) s.heap s.heap [] := va_S.rf
  obtain ⟨F, hF⟩ : ∃ F, F = f_X1_readNumber most then_ M := ⟨_, rfl⟩
  have hres := hF
  rw [f_X1_readNumber] at hres
  refine lv_aload_n hx hb dX1_readNumber_0 rfl (lv_at hl 0 rfl) ?_
  refine gf_RX1_27 hx hb hts hown hK hP (hL 6 0 (xe_6 nb nn)) dX1_readNumber_1 ?_
  refine gf_RX1_43 hx hb hts hown hK hP (hL 5 0 (xe_5 nb nn)) dX1_readNumber_4 ?_
  refine lv_iconst (v := 2) hx hb dX1_readNumber_7 (by decide) ?_
  refine lv_icmp_eq (tgt := 13) hx hb dX1_readNumber_8 (by decide) (fun c_1 => ?_) (fun c_1 => ?_)
  · replace hres := hres.trans (if_pos c_1)
    refine lv_aload_n hx hb dX1_readNumber_13 rfl (lv_at hl 0 rfl) ?_
    refine gf_RX1_27 hx hb hts hown hK hP (hL 6 0 (xe_6 nb nn)) dX1_readNumber_14 ?_
    refine gf_RX1_81 hx hb hts hown hK hP (hL 5 0 (xe_5 nb nn)) dX1_readNumber_17 ?_
    refine lv_iload_n hx hb dX1_readNumber_20 rfl (lv_at hl 1 rfl) ?_
    refine lv_icmp_gt (tgt := 32) hx hb dX1_readNumber_21 (by decide) (fun c_2 => ?_) (fun c_2 => ?_)
    · replace hres := hres.trans (if_pos c_2)
      refine lv_iconst (v := 2) hx hb dX1_readNumber_32 (by decide) ?_
      exact x_reti hx hb hr hlk hP hS (hres.symm.trans hF) dX1_readNumber_33
    · replace hres := hres.trans (if_neg c_2)
      refine lv_aload_n hx hb dX1_readNumber_24 rfl (lv_at hl 0 rfl) ?_
      refine lv_iload_n hx hb dX1_readNumber_25 rfl (lv_at hl 2 rfl) ?_
      refine x_callVi (As := [.int then_]) S hK hAm hD hP hS mt_X1_go wd_510 ⟨by decide, by decide⟩ (hL 6 0 (xe_6 nb nn)) (xc6 g 0) rfl (c_X1_go l nb nn g L M hD hL then_) rfl hl.1 (Nat.le_of_ble_eq_true rfl) ⟨Nat.zero_le _, Nat.zero_le _⟩ dX1_readNumber_26 rfl (fun r_3 M_4 H locs ep_ hP hS => ?_)
      replace hres := xlet2_n hres ep_
      have er_3 : r_3 = (f_X1_go then_ M).1 := congrArg Prod.fst ep_
      have eM_4 : M_4 = (f_X1_go then_ M).2 := congrArg Prod.snd ep_
      clear ep_
      refine lv_goto (tgt := 33) hx hb dX1_readNumber_29 (by decide) ?_
      exact x_reti hx hb hr hlk hP hS (hres.symm.trans hF) dX1_readNumber_33
  · replace hres := hres.trans (if_neg c_1)
    refine lv_iconst (v := 1) hx hb dX1_readNumber_11 (by decide) ?_
    exact x_reti hx hb hr hlk hP hS (hres.symm.trans hF) dX1_readNumber_12
set_option maxHeartbeats 4000000 in
set_option maxRecDepth 100000 in
theorem c_X1_beginBook (l : Launch) (nb nn : Nat) (g : xG) (L : List (Nat × Nat)) (M : xM) (hD : xD g L) (hL : xEL nb nn L)  (hp0 : 0 ≤ M 5 0 4) (hp1 : M 5 0 4 ≤ 400) (hp2 : M 5 0 1 ≤ 400) : xCi l yX1_beginBook cX1_beginBook 1 (some .int) 5 g L M [.ref (xad g 6 0)] (fun r u => (r, u) = f_X1_beginBook  M) := by
  intro sz
  refine x_beg (by decide +kernel) rfl ?_
  intro p e s m args below meth c ls hsz hB
  subst hsz
  obtain ⟨hx, hb, hml, hown, hts, hr, hlk, hK, hAm, hP, hl⟩ := hB
  have S : CallFix p m c cX1_beginBook 1 s args (xws yX1_beginBook cX1_beginBook 1 (some .int)) RX1 := ⟨hx, hb, hml, hown, hts⟩
  have hown : s.vm.findClass RX1 = some m.cls := hown
  have hl : lv_has ls 1 [(0, .ref (xad g 6 0))] := hl
  have hS : va_S (xA g L s.heap.size) s.heap s.heap [] := va_S.rf
  obtain ⟨F, hF⟩ : ∃ F, F = f_X1_beginBook  M := ⟨_, rfl⟩
  have hres := hF
  rw [f_X1_beginBook] at hres
  refine lv_aload_n hx hb dX1_beginBook_0 rfl (lv_at hl 0 rfl) ?_
  refine gf_RX1_27 hx hb hts hown hK hP (hL 6 0 (xe_6 nb nn)) dX1_beginBook_1 ?_
  refine x_ldcS0 hx hb hown hAm dX1_beginBook_4 ?_
  refine x_callVi (As := [.ref (xst g (10 + 0))]) S hK hAm hD hP hS mt_X7_isName wd_457 ⟨by decide, by decide⟩ (hL 5 0 (xe_5 nb nn)) (xc5 g 0) rfl (c_X7_isName l nb nn g L M hD hL 0 (by decide) (ob_X1_beginBook_6_p0 nb nn M hp0 hp1 hp2) (ob_X1_beginBook_6_p1 nb nn M hp0 hp1 hp2) (ob_X1_beginBook_6_p2 nb nn M hp0 hp1 hp2)) rfl hl.1 (Nat.le_of_ble_eq_true rfl) ⟨Nat.zero_le _, Nat.zero_le _⟩ dX1_beginBook_6 rfl (fun r_1 u H locs hp_ hP hS => ?_)
  obtain ⟨er_1, eu_⟩ := hp_
  rw [eu_] at hP
  clear eu_
  replace hres := xlet_n hres er_1
  refine lv_if_eq (tgt := 20) hx hb dX1_beginBook_9 (by decide) (fun c_2 => ?_) (fun c_2 => ?_)
  · replace hres := hres.trans (if_pos c_2)
    refine lv_iconst (v := 1) hx hb dX1_beginBook_20 (by decide) ?_
    exact x_reti hx hb hr hlk hP hS (hres.symm.trans hF) dX1_beginBook_21
  · replace hres := hres.trans (if_neg c_2)
    refine lv_aload_n hx hb dX1_beginBook_12 rfl (lv_at hl 0 rfl) ?_
    refine lv_iconst (v := 1) hx hb dX1_beginBook_13 (by decide) ?_
    refine x_callVi (As := [.int 1]) S hK hAm hD hP hS mt_X1_go wd_510 ⟨by decide, by decide⟩ (hL 6 0 (xe_6 nb nn)) (xc6 g 0) rfl (c_X1_go l nb nn g L M hD hL 1) rfl hl.1 (Nat.le_of_ble_eq_true rfl) ⟨Nat.zero_le _, Nat.zero_le _⟩ dX1_beginBook_14 rfl (fun r_3 M_4 H locs ep_ hP hS => ?_)
    replace hres := xlet2_n hres ep_
    have er_3 : r_3 = (f_X1_go 1 M).1 := congrArg Prod.fst ep_
    have eM_4 : M_4 = (f_X1_go 1 M).2 := congrArg Prod.snd ep_
    clear ep_
    refine lv_goto (tgt := 21) hx hb dX1_beginBook_17 (by decide) ?_
    exact x_reti hx hb hr hlk hP hS (hres.symm.trans hF) dX1_beginBook_21
set_option maxHeartbeats 4000000 in
set_option maxRecDepth 100000 in
theorem c_X1_readWeek (l : Launch) (nb nn : Nat) (g : xG) (L : List (Nat × Nat)) (M : xM) (hD : xD g L) (hL : xEL nb nn L)   : xCi l yX1_readWeek cX1_readWeek 1 (some .int) 2 g L M [.ref (xad g 6 0)] (fun r u => (r, u) = f_X1_readWeek  M) := by
  intro sz
  refine x_beg (by decide +kernel) rfl ?_
  intro p e s m args below meth c ls hsz hB
  subst hsz
  obtain ⟨hx, hb, hml, hown, hts, hr, hlk, hK, hAm, hP, hl⟩ := hB
  have S : CallFix p m c cX1_readWeek 1 s args (xws yX1_readWeek cX1_readWeek 1 (some .int)) RX1 := ⟨hx, hb, hml, hown, hts⟩
  have hown : s.vm.findClass RX1 = some m.cls := hown
  have hl : lv_has ls 1 [(0, .ref (xad g 6 0))] := hl
  have hS : va_S (xA g L s.heap.size) s.heap s.heap [] := va_S.rf
  obtain ⟨F, hF⟩ : ∃ F, F = f_X1_readWeek  M := ⟨_, rfl⟩
  have hres := hF
  rw [f_X1_readWeek] at hres
  refine lv_aload_n hx hb dX1_readWeek_0 rfl (lv_at hl 0 rfl) ?_
  refine lv_aload_n hx hb dX1_readWeek_1 rfl (lv_at hl 0 rfl) ?_
  refine gf_RX1_27 hx hb hts hown hK hP (hL 6 0 (xe_6 nb nn)) dX1_readWeek_2 ?_
  refine gf_RX1_81 hx hb hts hown hK hP (hL 5 0 (xe_5 nb nn)) dX1_readWeek_5 ?_
  refine lv_topi (fun v_1 ev_1 => ?_)
  replace hres := xlet_n hres ev_1
  refine pf_RX1_15 hx hb hts hown hK hP hD hS (hL 6 0 (xe_6 nb nn)) dX1_readWeek_8 (fun H locs hP hS => ?_)
  obtain ⟨M_2, eM_2⟩ : ∃ z_ : xM, z_ = xup M 6 0 3 v_1 := ⟨_, rfl⟩
  rw [← eM_2] at hP
  replace hres := xlet_n hres eM_2
  refine lv_aload_n hx hb dX1_readWeek_11 rfl (lv_at hl 0 rfl) ?_
  refine lv_sipush (v := 299) hx hb dX1_readWeek_12 (by decide) ?_
  refine lv_iconst (v := 2) hx hb dX1_readWeek_15 (by decide) ?_
  refine x_callVi (As := [.int 299, .int 2]) S hK hAm hD hP hS mt_X1_readNumber wd_519 ⟨by decide, by decide⟩ (hL 6 0 (xe_6 nb nn)) (xc6 g 0) rfl (c_X1_readNumber l nb nn g L M_2 hD hL 299 2) rfl hl.1 (Nat.le_of_ble_eq_true rfl) ⟨Nat.zero_le _, Nat.zero_le _⟩ dX1_readWeek_16 rfl (fun r_3 M_4 H locs ep_ hP hS => ?_)
  replace hres := xlet2_n hres ep_
  have er_3 : r_3 = (f_X1_readNumber 299 2 M_2).1 := congrArg Prod.fst ep_
  have eM_4 : M_4 = (f_X1_readNumber 299 2 M_2).2 := congrArg Prod.snd ep_
  clear ep_
  exact x_reti hx hb hr hlk hP hS (hres.symm.trans hF) dX1_readWeek_19
set_option maxHeartbeats 4000000 in
set_option maxRecDepth 100000 in
theorem c_X1_readBank (l : Launch) (nb nn : Nat) (g : xG) (L : List (Nat × Nat)) (M : xM) (hD : xD g L) (hL : xEL nb nn L) (banks : Int32)  : xCi l yX1_readBank cX1_readBank 2 (some .int) 2 g L M [.ref (xad g 6 0), .int banks] (fun r u => (r, u) = f_X1_readBank banks M) := by
  intro sz
  refine x_beg (by decide +kernel) rfl ?_
  intro p e s m args below meth c ls hsz hB
  subst hsz
  obtain ⟨hx, hb, hml, hown, hts, hr, hlk, hK, hAm, hP, hl⟩ := hB
  have S : CallFix p m c cX1_readBank 2 s args (xws yX1_readBank cX1_readBank 2 (some .int)) RX1 := ⟨hx, hb, hml, hown, hts⟩
  have hown : s.vm.findClass RX1 = some m.cls := hown
  have hl : lv_has ls 2 [(0, .ref (xad g 6 0)), (1, .int banks)] := hl
  have hS : va_S (xA g L s.heap.size) s.heap s.heap [] := va_S.rf
  obtain ⟨F, hF⟩ : ∃ F, F = f_X1_readBank banks M := ⟨_, rfl⟩
  have hres := hF
  rw [f_X1_readBank] at hres
  refine lv_aload_n hx hb dX1_readBank_0 rfl (lv_at hl 0 rfl) ?_
  refine lv_aload_n hx hb dX1_readBank_1 rfl (lv_at hl 0 rfl) ?_
  refine gf_RX1_27 hx hb hts hown hK hP (hL 6 0 (xe_6 nb nn)) dX1_readBank_2 ?_
  refine gf_RX1_81 hx hb hts hown hK hP (hL 5 0 (xe_5 nb nn)) dX1_readBank_5 ?_
  refine lv_topi (fun v_1 ev_1 => ?_)
  replace hres := xlet_n hres ev_1
  refine pf_RX1_21 hx hb hts hown hK hP hD hS (hL 6 0 (xe_6 nb nn)) dX1_readBank_8 (fun H locs hP hS => ?_)
  obtain ⟨M_2, eM_2⟩ : ∃ z_ : xM, z_ = xup M 6 0 5 v_1 := ⟨_, rfl⟩
  rw [← eM_2] at hP
  replace hres := xlet_n hres eM_2
  refine lv_aload_n hx hb dX1_readBank_11 rfl (lv_at hl 0 rfl) ?_
  refine lv_iload_n hx hb dX1_readBank_12 rfl (lv_at hl 1 rfl) ?_
  refine lv_iconst (v := 1) hx hb dX1_readBank_13 (by decide) ?_
  refine lv_isub hx hb dX1_readBank_14 ?_
  refine lv_iconst (v := 4) hx hb dX1_readBank_15 (by decide) ?_
  refine x_callVi (As := [.int (banks - 1), .int 4]) S hK hAm hD hP hS mt_X1_readNumber wd_519 ⟨by decide, by decide⟩ (hL 6 0 (xe_6 nb nn)) (xc6 g 0) rfl (c_X1_readNumber l nb nn g L M_2 hD hL (banks - 1) 4) rfl hl.1 (Nat.le_of_ble_eq_true rfl) ⟨Nat.zero_le _, Nat.zero_le _⟩ dX1_readBank_16 rfl (fun r_3 M_4 H locs ep_ hP hS => ?_)
  replace hres := xlet2_n hres ep_
  have er_3 : r_3 = (f_X1_readNumber (banks - 1) 4 M_2).1 := congrArg Prod.fst ep_
  have eM_4 : M_4 = (f_X1_readNumber (banks - 1) 4 M_2).2 := congrArg Prod.snd ep_
  clear ep_
  exact x_reti hx hb hr hlk hP hS (hres.symm.trans hF) dX1_readBank_19
set_option maxHeartbeats 4000000 in
set_option maxRecDepth 100000 in
theorem c_X1_wordOfEntry (l : Launch) (nb nn : Nat) (g : xG) (L : List (Nat × Nat)) (M : xM) (hD : xD g L) (hL : xEL nb nn L)  (hp0 : 0 ≤ M 5 0 4) (hp1 : M 5 0 4 ≤ 400) (hp2 : M 5 0 1 ≤ 400) : xCi l yX1_wordOfEntry cX1_wordOfEntry 1 (some .int) 5 g L M [.ref (xad g 6 0)] (fun r u => r = f_X1_wordOfEntry  M ∧ u = M) := by
  intro sz
  refine x_beg (by decide +kernel) rfl ?_
  intro p e s m args below meth c ls hsz hB
  subst hsz
  obtain ⟨hx, hb, hml, hown, hts, hr, hlk, hK, hAm, hP, hl⟩ := hB
  have S : CallFix p m c cX1_wordOfEntry 1 s args (xws yX1_wordOfEntry cX1_wordOfEntry 1 (some .int)) RX1 := ⟨hx, hb, hml, hown, hts⟩
  have hown : s.vm.findClass RX1 = some m.cls := hown
  have hl : lv_has ls 1 [(0, .ref (xad g 6 0))] := hl
  have hS : va_S (xA g L s.heap.size) s.heap s.heap [] := va_S.rf
  obtain ⟨F, hF⟩ : ∃ F, F = f_X1_wordOfEntry  M := ⟨_, rfl⟩
  have hres := hF
  rw [f_X1_wordOfEntry] at hres
  refine lv_aload_n hx hb dX1_wordOfEntry_0 rfl (lv_at hl 0 rfl) ?_
  refine gf_RX1_27 hx hb hts hown hK hP (hL 6 0 (xe_6 nb nn)) dX1_wordOfEntry_1 ?_
  refine x_ldcS1 hx hb hown hAm dX1_wordOfEntry_4 ?_
  refine x_callVi (As := [.ref (xst g (10 + 1))]) S hK hAm hD hP hS mt_X7_isName wd_457 ⟨by decide, by decide⟩ (hL 5 0 (xe_5 nb nn)) (xc5 g 0) rfl (c_X7_isName l nb nn g L M hD hL 1 (by decide) (ob_X1_wordOfEntry_6_p0 nb nn M hp0 hp1 hp2) (ob_X1_wordOfEntry_6_p1 nb nn M hp0 hp1 hp2) (ob_X1_wordOfEntry_6_p2 nb nn M hp0 hp1 hp2)) rfl hl.1 (Nat.le_of_ble_eq_true rfl) ⟨Nat.zero_le _, Nat.zero_le _⟩ dX1_wordOfEntry_6 rfl (fun r_1 u H locs hp_ hP hS => ?_)
  obtain ⟨er_1, eu_⟩ := hp_
  rw [eu_] at hP
  clear eu_
  replace hres := xlet_n hres er_1
  refine lv_if_eq (tgt := 14) hx hb dX1_wordOfEntry_9 (by decide) (fun c_2 => ?_) (fun c_2 => ?_)
  · replace hres := hres.trans (if_pos c_2)
    refine lv_aload_n hx hb dX1_wordOfEntry_14 rfl (lv_at hl 0 rfl) ?_
    refine gf_RX1_27 hx hb hts hown hK hP (hL 6 0 (xe_6 nb nn)) dX1_wordOfEntry_15 ?_
    refine x_ldcS2 hx hb hown hAm dX1_wordOfEntry_18 ?_
    refine x_callVi (As := [.ref (xst g (10 + 2))]) S hK hAm hD hP hS mt_X7_isName wd_457 ⟨by decide, by decide⟩ (hL 5 0 (xe_5 nb nn)) (xc5 g 0) rfl (c_X7_isName l nb nn g L M hD hL 2 (by decide) (ob_X1_wordOfEntry_20_p0 nb nn M hp0 hp1 hp2 r_1 er_1 c_2) (ob_X1_wordOfEntry_20_p1 nb nn M hp0 hp1 hp2 r_1 er_1 c_2) (ob_X1_wordOfEntry_20_p2 nb nn M hp0 hp1 hp2 r_1 er_1 c_2)) rfl hl.1 (Nat.le_of_ble_eq_true rfl) ⟨Nat.zero_le _, Nat.zero_le _⟩ dX1_wordOfEntry_20 rfl (fun r_3 u H locs hp_ hP hS => ?_)
    obtain ⟨er_3, eu_⟩ := hp_
    rw [eu_] at hP
    clear eu_
    replace hres := xlet_n hres er_3
    refine lv_if_eq (tgt := 28) hx hb dX1_wordOfEntry_23 (by decide) (fun c_4 => ?_) (fun c_4 => ?_)
    · replace hres := hres.trans (if_pos c_4)
      refine lv_aload_n hx hb dX1_wordOfEntry_28 rfl (lv_at hl 0 rfl) ?_
      refine gf_RX1_27 hx hb hts hown hK hP (hL 6 0 (xe_6 nb nn)) dX1_wordOfEntry_29 ?_
      refine x_ldcS3 hx hb hown hAm dX1_wordOfEntry_32 ?_
      refine x_callVi (As := [.ref (xst g (10 + 3))]) S hK hAm hD hP hS mt_X7_isName wd_457 ⟨by decide, by decide⟩ (hL 5 0 (xe_5 nb nn)) (xc5 g 0) rfl (c_X7_isName l nb nn g L M hD hL 3 (by decide) (ob_X1_wordOfEntry_34_p0 nb nn M hp0 hp1 hp2 r_1 er_1 c_2 r_3 er_3 c_4) (ob_X1_wordOfEntry_34_p1 nb nn M hp0 hp1 hp2 r_1 er_1 c_2 r_3 er_3 c_4) (ob_X1_wordOfEntry_34_p2 nb nn M hp0 hp1 hp2 r_1 er_1 c_2 r_3 er_3 c_4)) rfl hl.1 (Nat.le_of_ble_eq_true rfl) ⟨Nat.zero_le _, Nat.zero_le _⟩ dX1_wordOfEntry_34 rfl (fun r_5 u H locs hp_ hP hS => ?_)
      obtain ⟨er_5, eu_⟩ := hp_
      rw [eu_] at hP
      clear eu_
      replace hres := xlet_n hres er_5
      refine lv_if_eq (tgt := 44) hx hb dX1_wordOfEntry_37 (by decide) (fun c_6 => ?_) (fun c_6 => ?_)
      · replace hres := hres.trans (if_pos c_6)
        refine lv_iconst (v := (-1)) hx hb dX1_wordOfEntry_44 (by decide) ?_
        exact x_reti hx hb hr hlk hP hS ⟨hres.symm.trans hF, rfl⟩ dX1_wordOfEntry_45
      · replace hres := hres.trans (if_neg c_6)
        refine lv_iconst (v := 2) hx hb dX1_wordOfEntry_40 (by decide) ?_
        refine lv_goto (tgt := 45) hx hb dX1_wordOfEntry_41 (by decide) ?_
        exact x_reti hx hb hr hlk hP hS ⟨hres.symm.trans hF, rfl⟩ dX1_wordOfEntry_45
    · replace hres := hres.trans (if_neg c_4)
      refine lv_iconst (v := 1) hx hb dX1_wordOfEntry_26 (by decide) ?_
      exact x_reti hx hb hr hlk hP hS ⟨hres.symm.trans hF, rfl⟩ dX1_wordOfEntry_27
  · replace hres := hres.trans (if_neg c_2)
    refine lv_iconst (v := 0) hx hb dX1_wordOfEntry_12 (by decide) ?_
    exact x_reti hx hb hr hlk hP hS ⟨hres.symm.trans hF, rfl⟩ dX1_wordOfEntry_13
set_option maxHeartbeats 4000000 in
set_option maxRecDepth 100000 in
theorem c_X1_beginEntry (l : Launch) (nb nn : Nat) (g : xG) (L : List (Nat × Nat)) (M : xM) (hD : xD g L) (hL : xEL nb nn L)  (hp0 : 0 ≤ M 5 0 4) (hp1 : M 5 0 4 ≤ 400) (hp2 : M 5 0 1 ≤ 400) : xCi l yX1_beginEntry cX1_beginEntry 1 (some .int) 6 g L M [.ref (xad g 6 0)] (fun r u => (r, u) = f_X1_beginEntry  M) := by
  intro sz
  refine x_beg (by decide +kernel) rfl ?_
  intro p e s m args below meth c ls hsz hB
  subst hsz
  obtain ⟨hx, hb, hml, hown, hts, hr, hlk, hK, hAm, hP, hl⟩ := hB
  have S : CallFix p m c cX1_beginEntry 1 s args (xws yX1_beginEntry cX1_beginEntry 1 (some .int)) RX1 := ⟨hx, hb, hml, hown, hts⟩
  have hown : s.vm.findClass RX1 = some m.cls := hown
  have hl : lv_has ls 1 [(0, .ref (xad g 6 0))] := hl
  have hS : va_S (xA g L s.heap.size) s.heap s.heap [] := va_S.rf
  obtain ⟨F, hF⟩ : ∃ F, F = f_X1_beginEntry  M := ⟨_, rfl⟩
  have hres := hF
  rw [f_X1_beginEntry] at hres
  refine lv_aload_n hx hb dX1_beginEntry_0 rfl (lv_at hl 0 rfl) ?_
  refine lv_aload_n hx hb dX1_beginEntry_1 rfl (lv_at hl 0 rfl) ?_
  refine x_callVi (As := []) S hK hAm hD hP hS mt_X1_wordOfEntry wd_527 ⟨by decide, by decide⟩ (hL 6 0 (xe_6 nb nn)) (xc6 g 0) rfl (c_X1_wordOfEntry l nb nn g L M hD hL  (ob_X1_beginEntry_2_p0 nb nn M hp0 hp1 hp2) (ob_X1_beginEntry_2_p1 nb nn M hp0 hp1 hp2) (ob_X1_beginEntry_2_p2 nb nn M hp0 hp1 hp2)) rfl hl.1 (Nat.le_of_ble_eq_true rfl) ⟨Nat.zero_le _, Nat.zero_le _⟩ dX1_beginEntry_2 rfl (fun r_1 u H locs hp_ hP hS => ?_)
  obtain ⟨er_1, eu_⟩ := hp_
  rw [eu_] at hP
  clear eu_
  replace hres := xlet_n hres er_1
  refine pf_RX1_18 hx hb hts hown hK hP hD hS (hL 6 0 (xe_6 nb nn)) dX1_beginEntry_5 (fun H locs hP hS => ?_)
  obtain ⟨M_2, eM_2⟩ : ∃ z_ : xM, z_ = xup M 6 0 4 r_1 := ⟨_, rfl⟩
  rw [← eM_2] at hP
  replace hres := xlet_n hres eM_2
  refine lv_aload_n hx hb dX1_beginEntry_8 rfl (lv_at hl 0 rfl) ?_
  refine gf_RX1_18 hx hb hts hown hK hP (hL 6 0 (xe_6 nb nn)) dX1_beginEntry_9 ?_
  refine lv_iconst (v := (-1)) hx hb dX1_beginEntry_12 (by decide) ?_
  refine lv_icmp_ne (tgt := 18) hx hb dX1_beginEntry_13 (by decide) (fun c_3 => ?_) (fun c_3 => ?_)
  · replace hres := hres.trans (if_neg c_3)
    refine lv_aload_n hx hb dX1_beginEntry_18 rfl (lv_at hl 0 rfl) ?_
    refine gf_RX1_31 hx hb hts hown hK hP (hL 6 0 (xe_6 nb nn)) dX1_beginEntry_19 ?_
    refine lv_aload_n hx hb dX1_beginEntry_22 rfl (lv_at hl 0 rfl) ?_
    refine gf_RX1_24 hx hb hts hown hK hP (hL 6 0 (xe_6 nb nn)) dX1_beginEntry_23 ?_
    refine x_callVi (As := [.int (M_2 6 0 6)]) S hK hAm hD hP hS mt_X2_hasRoomBehind wd_531 ⟨by decide, by decide⟩ (hL 4 0 (xe_4 nb nn)) (xc4 g 0) rfl (c_X2_hasRoomBehind l nb nn g L M_2 hD hL (M_2 6 0 6)) rfl hl.1 (Nat.le_of_ble_eq_true rfl) ⟨Nat.zero_le _, Nat.zero_le _⟩ dX1_beginEntry_26 rfl (fun r_4 u H locs hp_ hP hS => ?_)
    obtain ⟨er_4, eu_⟩ := hp_
    rw [eu_] at hP
    clear eu_
    replace hres := xlet_n hres er_4
    refine lv_if_eq (tgt := 40) hx hb dX1_beginEntry_29 (by decide) (fun c_5 => ?_) (fun c_5 => ?_)
    · replace hres := hres.trans (if_pos c_5)
      refine lv_iconst (v := 3) hx hb dX1_beginEntry_40 (by decide) ?_
      exact x_reti hx hb hr hlk hP hS (hres.symm.trans hF) dX1_beginEntry_41
    · replace hres := hres.trans (if_neg c_5)
      refine lv_aload_n hx hb dX1_beginEntry_32 rfl (lv_at hl 0 rfl) ?_
      refine lv_iconst (v := 3) hx hb dX1_beginEntry_33 (by decide) ?_
      refine x_callVi (As := [.int 3]) S hK hAm hD hP hS mt_X1_go wd_510 ⟨by decide, by decide⟩ (hL 6 0 (xe_6 nb nn)) (xc6 g 0) rfl (c_X1_go l nb nn g L M_2 hD hL 3) rfl hl.1 (Nat.le_of_ble_eq_true rfl) ⟨Nat.zero_le _, Nat.zero_le _⟩ dX1_beginEntry_34 rfl (fun r_6 M_7 H locs ep_ hP hS => ?_)
      replace hres := xlet2_n hres ep_
      have er_6 : r_6 = (f_X1_go 3 M_2).1 := congrArg Prod.fst ep_
      have eM_7 : M_7 = (f_X1_go 3 M_2).2 := congrArg Prod.snd ep_
      clear ep_
      refine lv_goto (tgt := 41) hx hb dX1_beginEntry_37 (by decide) ?_
      exact x_reti hx hb hr hlk hP hS (hres.symm.trans hF) dX1_beginEntry_41
  · replace hres := hres.trans (if_pos c_3)
    refine lv_iconst (v := 1) hx hb dX1_beginEntry_16 (by decide) ?_
    exact x_reti hx hb hr hlk hP hS (hres.symm.trans hF) dX1_beginEntry_17
set_option maxHeartbeats 4000000 in
set_option maxRecDepth 100000 in
theorem c_X1_readValue (l : Launch) (nb nn : Nat) (g : xG) (L : List (Nat × Nat)) (M : xM) (hD : xD g L) (hL : xEL nb nn L)   : xCi l yX1_readValue cX1_readValue 2 (some .int) 2 g L M [.ref (xad g 6 0)] (fun r u => (r, u) = f_X1_readValue  M) := by
  intro sz
  refine x_beg (by decide +kernel) rfl ?_
  intro p e s m args below meth c ls hsz hB
  subst hsz
  obtain ⟨hx, hb, hml, hown, hts, hr, hlk, hK, hAm, hP, hl⟩ := hB
  have S : CallFix p m c cX1_readValue 2 s args (xws yX1_readValue cX1_readValue 2 (some .int)) RX1 := ⟨hx, hb, hml, hown, hts⟩
  have hown : s.vm.findClass RX1 = some m.cls := hown
  have hl : lv_has ls 2 [(0, .ref (xad g 6 0))] := hl
  have hS : va_S (xA g L s.heap.size) s.heap s.heap [] := va_S.rf
  obtain ⟨F, hF⟩ : ∃ F, F = f_X1_readValue  M := ⟨_, rfl⟩
  have hres := hF
  rw [f_X1_readValue] at hres
  refine lv_aload_n hx hb dX1_readValue_0 rfl (lv_at hl 0 rfl) ?_
  refine lv_aload_n hx hb dX1_readValue_1 rfl (lv_at hl 0 rfl) ?_
  refine gf_RX1_18 hx hb hts hown hK hP (hL 6 0 (xe_6 nb nn)) dX1_readValue_2 ?_
  refine lv_iconst (v := 1) hx hb dX1_readValue_5 (by decide) ?_
  refine lv_icmp_ne (tgt := 15) hx hb dX1_readValue_6 (by decide) (fun c_1 => ?_) (fun c_1 => ?_)
  · replace hres := hres.trans (if_neg c_1)
    refine lv_bipush (v := 100) hx hb dX1_readValue_15 (by decide) ?_
    refine lv_iconst (v := 5) hx hb dX1_readValue_17 (by decide) ?_
    refine x_callVi (As := [.int 100, .int 5]) S hK hAm hD hP hS mt_X1_readNumber wd_519 ⟨by decide, by decide⟩ (hL 6 0 (xe_6 nb nn)) (xc6 g 0) rfl (c_X1_readNumber l nb nn g L M hD hL 100 5) rfl hl.1 (Nat.le_of_ble_eq_true rfl) ⟨Nat.zero_le _, Nat.zero_le _⟩ dX1_readValue_18 rfl (fun r_2 M_3 H locs ep_ hP hS => ?_)
    replace hres := xlet2_n hres ep_
    have er_2 : r_2 = (f_X1_readNumber 100 5 M).1 := congrArg Prod.fst ep_
    have eM_3 : M_3 = (f_X1_readNumber 100 5 M).2 := congrArg Prod.snd ep_
    clear ep_
    refine lv_istore_n (lv' := [(1, .int r_2), (0, .ref (xad g 6 0))]) hx hb dX1_readValue_21 rfl hl (by decide) rfl (fun ls hl => ?_)
    refine lv_iload_n hx hb dX1_readValue_22 rfl (lv_at hl 0 rfl) ?_
    refine lv_if_ne (tgt := 66) hx hb dX1_readValue_23 (by decide) (fun c_4 => ?_) (fun c_4 => ?_)
    · replace hres := hres.trans (if_neg c_4)
      refine lv_iload_n hx hb dX1_readValue_66 rfl (lv_at hl 0 rfl) ?_
      exact x_reti hx hb hr hlk hP hS (hres.symm.trans hF) dX1_readValue_67
    · replace hres := hres.trans (if_pos c_4)
      refine lv_aload_n hx hb dX1_readValue_26 rfl (lv_at hl 1 rfl) ?_
      refine gf_RX1_31 hx hb hts hown hK hP (hL 6 0 (xe_6 nb nn)) dX1_readValue_27 ?_
      refine lv_aload_n hx hb dX1_readValue_30 rfl (lv_at hl 1 rfl) ?_
      refine gf_RX1_24 hx hb hts hown hK hP (hL 6 0 (xe_6 nb nn)) dX1_readValue_31 ?_
      refine lv_aload_n hx hb dX1_readValue_34 rfl (lv_at hl 1 rfl) ?_
      refine gf_RX1_18 hx hb hts hown hK hP (hL 6 0 (xe_6 nb nn)) dX1_readValue_35 ?_
      refine lv_aload_n hx hb dX1_readValue_38 rfl (lv_at hl 1 rfl) ?_
      refine gf_RX1_15 hx hb hts hown hK hP (hL 6 0 (xe_6 nb nn)) dX1_readValue_39 ?_
      refine lv_aload_n hx hb dX1_readValue_42 rfl (lv_at hl 1 rfl) ?_
      refine gf_RX1_21 hx hb hts hown hK hP (hL 6 0 (xe_6 nb nn)) dX1_readValue_43 ?_
      refine lv_aload_n hx hb dX1_readValue_46 rfl (lv_at hl 1 rfl) ?_
      refine gf_RX1_27 hx hb hts hown hK hP (hL 6 0 (xe_6 nb nn)) dX1_readValue_47 ?_
      refine gf_RX1_81 hx hb hts hown hK hP (hL 5 0 (xe_5 nb nn)) dX1_readValue_50 ?_
      refine x_callVv (As := [.int (M_3 6 0 6), .int (M_3 6 0 4), .int (M_3 6 0 3), .int (M_3 6 0 5), .int (M_3 5 0 5)]) S hK hAm hD hP hS mt_X2_write wd_543 ⟨by decide, by decide⟩ (hL 4 0 (xe_4 nb nn)) (xc4 g 0) rfl (c_X2_write l nb nn g L M_3 hD hL (M_3 6 0 6) (M_3 6 0 4) (M_3 6 0 3) (M_3 6 0 5) (M_3 5 0 5)) rfl hl.1 (Nat.le_of_ble_eq_true rfl) ⟨Nat.zero_le _, Nat.zero_le _⟩ dX1_readValue_53 rfl (fun M_6 H locs eM_6 hP hS => ?_)
      replace hres := xlet_n hres eM_6
      refine lv_aload_n hx hb dX1_readValue_56 rfl (lv_at hl 1 rfl) ?_
      refine lv_dup hx hb dX1_readValue_57 rfl ?_
      refine gf_RX1_24 hx hb hts hown hK hP (hL 6 0 (xe_6 nb nn)) dX1_readValue_58 ?_
      refine lv_iconst (v := 1) hx hb dX1_readValue_61 (by decide) ?_
      refine lv_iadd hx hb dX1_readValue_62 ?_
      refine lv_topi (fun v_7 ev_7 => ?_)
      replace hres := xlet_n hres ev_7
      refine pf_RX1_24 hx hb hts hown hK hP hD hS (hL 6 0 (xe_6 nb nn)) dX1_readValue_63 (fun H locs hP hS => ?_)
      obtain ⟨M_8, eM_8⟩ : ∃ z_ : xM, z_ = xup M_6 6 0 6 v_7 := ⟨_, rfl⟩
      rw [← eM_8] at hP
      replace hres := xlet_n hres eM_8
      refine lv_iload_n hx hb dX1_readValue_66 rfl (lv_at hl 0 rfl) ?_
      exact x_reti hx hb hr hlk hP hS (hres.symm.trans hF) dX1_readValue_67
  · replace hres := hres.trans (if_pos c_1)
    refine lv_sipush (v := 255) hx hb dX1_readValue_9 (by decide) ?_
    refine lv_goto (tgt := 17) hx hb dX1_readValue_12 (by decide) ?_
    refine lv_iconst (v := 5) hx hb dX1_readValue_17 (by decide) ?_
    refine x_callVi (As := [.int 255, .int 5]) S hK hAm hD hP hS mt_X1_readNumber wd_519 ⟨by decide, by decide⟩ (hL 6 0 (xe_6 nb nn)) (xc6 g 0) rfl (c_X1_readNumber l nb nn g L M hD hL 255 5) rfl hl.1 (Nat.le_of_ble_eq_true rfl) ⟨Nat.zero_le _, Nat.zero_le _⟩ dX1_readValue_18 rfl (fun r_9 M_10 H locs ep_ hP hS => ?_)
    replace hres := xlet2_n hres ep_
    have er_9 : r_9 = (f_X1_readNumber 255 5 M).1 := congrArg Prod.fst ep_
    have eM_10 : M_10 = (f_X1_readNumber 255 5 M).2 := congrArg Prod.snd ep_
    clear ep_
    refine lv_istore_n (lv' := [(1, .int r_9), (0, .ref (xad g 6 0))]) hx hb dX1_readValue_21 rfl hl (by decide) rfl (fun ls hl => ?_)
    refine lv_iload_n hx hb dX1_readValue_22 rfl (lv_at hl 0 rfl) ?_
    refine lv_if_ne (tgt := 66) hx hb dX1_readValue_23 (by decide) (fun c_11 => ?_) (fun c_11 => ?_)
    · replace hres := hres.trans (if_neg c_11)
      refine lv_iload_n hx hb dX1_readValue_66 rfl (lv_at hl 0 rfl) ?_
      exact x_reti hx hb hr hlk hP hS (hres.symm.trans hF) dX1_readValue_67
    · replace hres := hres.trans (if_pos c_11)
      refine lv_aload_n hx hb dX1_readValue_26 rfl (lv_at hl 1 rfl) ?_
      refine gf_RX1_31 hx hb hts hown hK hP (hL 6 0 (xe_6 nb nn)) dX1_readValue_27 ?_
      refine lv_aload_n hx hb dX1_readValue_30 rfl (lv_at hl 1 rfl) ?_
      refine gf_RX1_24 hx hb hts hown hK hP (hL 6 0 (xe_6 nb nn)) dX1_readValue_31 ?_
      refine lv_aload_n hx hb dX1_readValue_34 rfl (lv_at hl 1 rfl) ?_
      refine gf_RX1_18 hx hb hts hown hK hP (hL 6 0 (xe_6 nb nn)) dX1_readValue_35 ?_
      refine lv_aload_n hx hb dX1_readValue_38 rfl (lv_at hl 1 rfl) ?_
      refine gf_RX1_15 hx hb hts hown hK hP (hL 6 0 (xe_6 nb nn)) dX1_readValue_39 ?_
      refine lv_aload_n hx hb dX1_readValue_42 rfl (lv_at hl 1 rfl) ?_
      refine gf_RX1_21 hx hb hts hown hK hP (hL 6 0 (xe_6 nb nn)) dX1_readValue_43 ?_
      refine lv_aload_n hx hb dX1_readValue_46 rfl (lv_at hl 1 rfl) ?_
      refine gf_RX1_27 hx hb hts hown hK hP (hL 6 0 (xe_6 nb nn)) dX1_readValue_47 ?_
      refine gf_RX1_81 hx hb hts hown hK hP (hL 5 0 (xe_5 nb nn)) dX1_readValue_50 ?_
      refine x_callVv (As := [.int (M_10 6 0 6), .int (M_10 6 0 4), .int (M_10 6 0 3), .int (M_10 6 0 5), .int (M_10 5 0 5)]) S hK hAm hD hP hS mt_X2_write wd_543 ⟨by decide, by decide⟩ (hL 4 0 (xe_4 nb nn)) (xc4 g 0) rfl (c_X2_write l nb nn g L M_10 hD hL (M_10 6 0 6) (M_10 6 0 4) (M_10 6 0 3) (M_10 6 0 5) (M_10 5 0 5)) rfl hl.1 (Nat.le_of_ble_eq_true rfl) ⟨Nat.zero_le _, Nat.zero_le _⟩ dX1_readValue_53 rfl (fun M_13 H locs eM_13 hP hS => ?_)
      replace hres := xlet_n hres eM_13
      refine lv_aload_n hx hb dX1_readValue_56 rfl (lv_at hl 1 rfl) ?_
      refine lv_dup hx hb dX1_readValue_57 rfl ?_
      refine gf_RX1_24 hx hb hts hown hK hP (hL 6 0 (xe_6 nb nn)) dX1_readValue_58 ?_
      refine lv_iconst (v := 1) hx hb dX1_readValue_61 (by decide) ?_
      refine lv_iadd hx hb dX1_readValue_62 ?_
      refine lv_topi (fun v_14 ev_14 => ?_)
      replace hres := xlet_n hres ev_14
      refine pf_RX1_24 hx hb hts hown hK hP hD hS (hL 6 0 (xe_6 nb nn)) dX1_readValue_63 (fun H locs hP hS => ?_)
      obtain ⟨M_15, eM_15⟩ : ∃ z_ : xM, z_ = xup M_13 6 0 6 v_14 := ⟨_, rfl⟩
      rw [← eM_15] at hP
      replace hres := xlet_n hres eM_15
      refine lv_iload_n hx hb dX1_readValue_66 rfl (lv_at hl 0 rfl) ?_
      exact x_reti hx hb hr hlk hP hS (hres.symm.trans hF) dX1_readValue_67
set_option maxHeartbeats 4000000 in
set_option maxRecDepth 100000 in
theorem c_X1_step (l : Launch) (nb nn : Nat) (g : xG) (L : List (Nat × Nat)) (M : xM) (hD : xD g L) (hL : xEL nb nn L) (banks : Int32) (hp0 : 0 ≤ M 5 0 4) (hp1 : M 5 0 4 ≤ 400) (hp2 : M 5 0 1 ≤ 400) : xCi l yX1_step cX1_step 2 (some .int) 7 g L M [.ref (xad g 6 0), .int banks] (fun r u => (r, u) = f_X1_step banks M) := by
  intro sz
  refine x_beg (by decide +kernel) rfl ?_
  intro p e s m args below meth c ls hsz hB
  subst hsz
  obtain ⟨hx, hb, hml, hown, hts, hr, hlk, hK, hAm, hP, hl⟩ := hB
  have S : CallFix p m c cX1_step 2 s args (xws yX1_step cX1_step 2 (some .int)) RX1 := ⟨hx, hb, hml, hown, hts⟩
  have hown : s.vm.findClass RX1 = some m.cls := hown
  have hl : lv_has ls 2 [(0, .ref (xad g 6 0)), (1, .int banks)] := hl
  have hS : va_S (xA g L s.heap.size) s.heap s.heap [] := va_S.rf
  obtain ⟨F, hF⟩ : ∃ F, F = f_X1_step banks M := ⟨_, rfl⟩
  have hres := hF
  rw [f_X1_step] at hres
  refine lv_aload_n hx hb dX1_step_0 rfl (lv_at hl 0 rfl) ?_
  refine gf_RX1_11 hx hb hts hown hK hP (hL 6 0 (xe_6 nb nn)) dX1_step_1 ?_
  refine lv_topi (fun sw_1 esw_1 => ?_)
  replace hres := xlet_n hres esw_1
  by_cases c_2 : sw_1 = 0
  · replace hres := hres.trans (if_pos c_2)
    refine lv_tableIn (off := 36) (tgt := 40) hx hb dX1_step_4 (by rw [c_2]; decide) (by rw [c_2]; decide) (by rw [c_2]; rfl) (by decide) ?_
    refine lv_aload_n hx hb dX1_step_40 rfl (lv_at hl 0 rfl) ?_
    refine x_callVi (As := []) S hK hAm hD hP hS mt_X1_beginBook wd_453 ⟨by decide, by decide⟩ (hL 6 0 (xe_6 nb nn)) (xc6 g 0) rfl (c_X1_beginBook l nb nn g L M hD hL  (ob_X1_step_41_p0 nb nn banks M hp0 hp1 hp2 sw_1 esw_1 c_2) (ob_X1_step_41_p1 nb nn banks M hp0 hp1 hp2 sw_1 esw_1 c_2) (ob_X1_step_41_p2 nb nn banks M hp0 hp1 hp2 sw_1 esw_1 c_2)) rfl hl.1 (Nat.le_of_ble_eq_true rfl) ⟨Nat.zero_le _, Nat.zero_le _⟩ dX1_step_41 rfl (fun r_3 M_4 H locs ep_ hP hS => ?_)
    replace hres := xlet2_n hres ep_
    have er_3 : r_3 = (f_X1_beginBook M).1 := congrArg Prod.fst ep_
    have eM_4 : M_4 = (f_X1_beginBook M).2 := congrArg Prod.snd ep_
    clear ep_
    exact x_reti hx hb hr hlk hP hS (hres.symm.trans hF) dX1_step_44
  · replace hres := hres.trans (if_neg c_2)
    by_cases c_5 : sw_1 = 1
    · replace hres := hres.trans (if_pos c_5)
      refine lv_tableIn (off := 41) (tgt := 45) hx hb dX1_step_4 (by rw [c_5]; decide) (by rw [c_5]; decide) (by rw [c_5]; rfl) (by decide) ?_
      refine lv_aload_n hx hb dX1_step_45 rfl (lv_at hl 0 rfl) ?_
      refine x_callVi (As := []) S hK hAm hD hP hS mt_X1_readWeek wd_514 ⟨by decide, by decide⟩ (hL 6 0 (xe_6 nb nn)) (xc6 g 0) rfl (c_X1_readWeek l nb nn g L M hD hL ) rfl hl.1 (Nat.le_of_ble_eq_true rfl) ⟨Nat.zero_le _, Nat.zero_le _⟩ dX1_step_46 rfl (fun r_6 M_7 H locs ep_ hP hS => ?_)
      replace hres := xlet2_n hres ep_
      have er_6 : r_6 = (f_X1_readWeek M).1 := congrArg Prod.fst ep_
      have eM_7 : M_7 = (f_X1_readWeek M).2 := congrArg Prod.snd ep_
      clear ep_
      exact x_reti hx hb hr hlk hP hS (hres.symm.trans hF) dX1_step_49
    · replace hres := hres.trans (if_neg c_5)
      by_cases c_8 : sw_1 = 2
      · replace hres := hres.trans (if_pos c_8)
        refine lv_tableIn (off := 46) (tgt := 50) hx hb dX1_step_4 (by rw [c_8]; decide) (by rw [c_8]; decide) (by rw [c_8]; rfl) (by decide) ?_
        refine lv_aload_n hx hb dX1_step_50 rfl (lv_at hl 0 rfl) ?_
        refine x_callVi (As := []) S hK hAm hD hP hS mt_X1_beginEntry wd_523 ⟨by decide, by decide⟩ (hL 6 0 (xe_6 nb nn)) (xc6 g 0) rfl (c_X1_beginEntry l nb nn g L M hD hL  (ob_X1_step_51_p0 nb nn banks M hp0 hp1 hp2 sw_1 esw_1 c_2 c_5 c_8) (ob_X1_step_51_p1 nb nn banks M hp0 hp1 hp2 sw_1 esw_1 c_2 c_5 c_8) (ob_X1_step_51_p2 nb nn banks M hp0 hp1 hp2 sw_1 esw_1 c_2 c_5 c_8)) rfl hl.1 (Nat.le_of_ble_eq_true rfl) ⟨Nat.zero_le _, Nat.zero_le _⟩ dX1_step_51 rfl (fun r_9 M_10 H locs ep_ hP hS => ?_)
        replace hres := xlet2_n hres ep_
        have er_9 : r_9 = (f_X1_beginEntry M).1 := congrArg Prod.fst ep_
        have eM_10 : M_10 = (f_X1_beginEntry M).2 := congrArg Prod.snd ep_
        clear ep_
        exact x_reti hx hb hr hlk hP hS (hres.symm.trans hF) dX1_step_54
      · replace hres := hres.trans (if_neg c_8)
        by_cases c_11 : sw_1 = 3
        · replace hres := hres.trans (if_pos c_11)
          refine lv_tableIn (off := 51) (tgt := 55) hx hb dX1_step_4 (by rw [c_11]; decide) (by rw [c_11]; decide) (by rw [c_11]; rfl) (by decide) ?_
          refine lv_aload_n hx hb dX1_step_55 rfl (lv_at hl 0 rfl) ?_
          refine lv_iload_n hx hb dX1_step_56 rfl (lv_at hl 1 rfl) ?_
          refine x_callVi (As := [.int banks]) S hK hAm hD hP hS mt_X1_readBank wd_535 ⟨by decide, by decide⟩ (hL 6 0 (xe_6 nb nn)) (xc6 g 0) rfl (c_X1_readBank l nb nn g L M hD hL banks) rfl hl.1 (Nat.le_of_ble_eq_true rfl) ⟨Nat.zero_le _, Nat.zero_le _⟩ dX1_step_57 rfl (fun r_12 M_13 H locs ep_ hP hS => ?_)
          replace hres := xlet2_n hres ep_
          have er_12 : r_12 = (f_X1_readBank banks M).1 := congrArg Prod.fst ep_
          have eM_13 : M_13 = (f_X1_readBank banks M).2 := congrArg Prod.snd ep_
          clear ep_
          exact x_reti hx hb hr hlk hP hS (hres.symm.trans hF) dX1_step_60
        · replace hres := hres.trans (if_neg c_11)
          by_cases c_14 : sw_1 = 4
          · replace hres := hres.trans (if_pos c_14)
            refine lv_tableIn (off := 57) (tgt := 61) hx hb dX1_step_4 (by rw [c_14]; decide) (by rw [c_14]; decide) (by rw [c_14]; rfl) (by decide) ?_
            refine lv_aload_n hx hb dX1_step_61 rfl (lv_at hl 0 rfl) ?_
            refine x_callVi (As := []) S hK hAm hD hP hS mt_X1_readValue wd_539 ⟨by decide, by decide⟩ (hL 6 0 (xe_6 nb nn)) (xc6 g 0) rfl (c_X1_readValue l nb nn g L M hD hL ) rfl hl.1 (Nat.le_of_ble_eq_true rfl) ⟨Nat.zero_le _, Nat.zero_le _⟩ dX1_step_62 rfl (fun r_15 M_16 H locs ep_ hP hS => ?_)
            replace hres := xlet2_n hres ep_
            have er_15 : r_15 = (f_X1_readValue M).1 := congrArg Prod.fst ep_
            have eM_16 : M_16 = (f_X1_readValue M).2 := congrArg Prod.snd ep_
            clear ep_
            exact x_reti hx hb hr hlk hP hS (hres.symm.trans hF) dX1_step_65
          · replace hres := hres.trans (if_neg c_14)
            refine lv_tableOut (tgt := 66) hx hb dX1_step_4 (by have q0 := lv_neT c_2 (show (0 : Int32).toInt = 0 from rfl); have q1 := lv_neT c_5 (show (1 : Int32).toInt = 1 from rfl); have q2 := lv_neT c_8 (show (2 : Int32).toInt = 2 from rfl); have q3 := lv_neT c_11 (show (3 : Int32).toInt = 3 from rfl); have q4 := lv_neT c_14 (show (4 : Int32).toInt = 4 from rfl); omega) (by decide) ?_
            refine lv_aload_n hx hb dX1_step_66 rfl (lv_at hl 0 rfl) ?_
            refine gf_RX1_27 hx hb hts hown hK hP (hL 6 0 (xe_6 nb nn)) dX1_step_67 ?_
            refine gf_RX1_43 hx hb hts hown hK hP (hL 5 0 (xe_5 nb nn)) dX1_step_70 ?_
            refine lv_iconst (v := 3) hx hb dX1_step_73 (by decide) ?_
            refine lv_icmp_ne (tgt := 85) hx hb dX1_step_74 (by decide) (fun c_17 => ?_) (fun c_17 => ?_)
            · replace hres := hres.trans (if_neg c_17)
              refine lv_aload_n hx hb dX1_step_85 rfl (lv_at hl 0 rfl) ?_
              refine x_callVi (As := []) S hK hAm hD hP hS mt_X1_beginEntry wd_523 ⟨by decide, by decide⟩ (hL 6 0 (xe_6 nb nn)) (xc6 g 0) rfl (c_X1_beginEntry l nb nn g L M hD hL  (ob_X1_step_86_p0 nb nn banks M hp0 hp1 hp2 sw_1 esw_1 c_2 c_5 c_8 c_11 c_14 c_17) (ob_X1_step_86_p1 nb nn banks M hp0 hp1 hp2 sw_1 esw_1 c_2 c_5 c_8 c_11 c_14 c_17) (ob_X1_step_86_p2 nb nn banks M hp0 hp1 hp2 sw_1 esw_1 c_2 c_5 c_8 c_11 c_14 c_17)) rfl hl.1 (Nat.le_of_ble_eq_true rfl) ⟨Nat.zero_le _, Nat.zero_le _⟩ dX1_step_86 rfl (fun r_18 M_19 H locs ep_ hP hS => ?_)
              replace hres := xlet2_n hres ep_
              have er_18 : r_18 = (f_X1_beginEntry M).1 := congrArg Prod.fst ep_
              have eM_19 : M_19 = (f_X1_beginEntry M).2 := congrArg Prod.snd ep_
              clear ep_
              exact x_reti hx hb hr hlk hP hS (hres.symm.trans hF) dX1_step_89
            · replace hres := hres.trans (if_pos c_17)
              refine lv_aload_n hx hb dX1_step_77 rfl (lv_at hl 0 rfl) ?_
              refine lv_iconst (v := 0) hx hb dX1_step_78 (by decide) ?_
              refine x_callVi (As := [.int 0]) S hK hAm hD hP hS mt_X1_go wd_510 ⟨by decide, by decide⟩ (hL 6 0 (xe_6 nb nn)) (xc6 g 0) rfl (c_X1_go l nb nn g L M hD hL 0) rfl hl.1 (Nat.le_of_ble_eq_true rfl) ⟨Nat.zero_le _, Nat.zero_le _⟩ dX1_step_79 rfl (fun r_20 M_21 H locs ep_ hP hS => ?_)
              replace hres := xlet2_n hres ep_
              have er_20 : r_20 = (f_X1_go 0 M).1 := congrArg Prod.fst ep_
              have eM_21 : M_21 = (f_X1_go 0 M).2 := congrArg Prod.snd ep_
              clear ep_
              refine lv_goto (tgt := 89) hx hb dX1_step_82 (by decide) ?_
              exact x_reti hx hb hr hlk hP hS (hres.symm.trans hF) dX1_step_89
