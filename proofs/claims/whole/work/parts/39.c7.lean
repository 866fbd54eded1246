def f_X1_readTape_L19 (banks : Int32) : Nat → Int32 → xM → (Int32 → xM → Int32 × xM) → Int32 × xM
  | 0, _, N_, _ => (0, N_)
  | n + 1, turn, N_, kx => if 400 < turn then kx turn N_ else xlet (f_X7_readToken N_) fun M_3 => if (M_3 5 0 3) = 0 then if (M_3 6 0 2) = 0 then kx turn M_3 else xlet2 (f_X1_step banks M_3) fun r_10 M_11 => if r_10 = 0 then xlet (turn + 1) fun x2_13 => f_X1_readTape_L19 banks n x2_13 M_11 kx else (r_10, M_11) else xlet2 (f_X1_step banks M_3) fun r_5 M_6 => if r_5 = 0 then xlet (turn + 1) fun x2_8 => f_X1_readTape_L19 banks n x2_8 M_6 kx else (r_5, M_6)
def f_X1_readTape (banks : Int32) (M : xM) : Int32 × xM :=
  xlet (f_X7_rewind M) fun M_15 => xlet (xup M_15 6 0 2 0) fun M_16 => xlet (xup M_16 6 0 6 0) fun M_17 => f_X1_readTape_L19 banks (xmu (0 : Int32) 401 + 1) (0 : Int32) M_17 (fun turn_18 M_19 => xlet (f_X2_keep (M_19 6 0 6) M_19) fun M_21 => (0, M_21))
def f_X10_books  (M : xM) : Int32 × xM :=
  xlet2 (f_X1_readTape (M 0 0 12) M) fun r_1 M_2 => xlet (M_2 5 0 4) fun x2_3 => xlet (f_X7_empty M_2) fun M_5 => if r_1 = 0 then ((M_5 4 0 4), M_5) else xlet (xup M_5 0 0 15 r_1) fun M_7 => (((-1000100) - x2_3), M_7)
theorem ob_X1_readTape_71_x19 (nb nn : Nat) (banks : Int32) (M : xM) (hp0 : 0 ≤ M 5 0 2) (hp1 : M 5 0 2 ≤ 400) (n : Nat) (turn : Int32) (N_ : xM) (hmu : xmu turn 401 < n + 1) (hinv : 0 ≤ N_ 5 0 1 ∧ N_ 5 0 1 ≤ N_ 5 0 2 ∧ 0 ≤ N_ 5 0 2 ∧ N_ 5 0 2 ≤ 400) (c_1 : 400 < turn) : 0 ≤ N_ 5 0 1 ∧ N_ 5 0 1 ≤ N_ 5 0 2 ∧ 0 ≤ N_ 5 0 2 ∧ N_ 5 0 2 ≤ 400 := by
  skip
  grind [rt5, st_o, rt_o, xup_at, f_X7_rewind, xlet]
theorem ob_X1_readTape_30_p0 (nb nn : Nat) (banks : Int32) (M : xM) (hp0 : 0 ≤ M 5 0 2) (hp1 : M 5 0 2 ≤ 400) (n : Nat) (turn : Int32) (N_ : xM) (hmu : xmu turn 401 < n + 1) (hinv : 0 ≤ N_ 5 0 1 ∧ N_ 5 0 1 ≤ N_ 5 0 2 ∧ 0 ≤ N_ 5 0 2 ∧ N_ 5 0 2 ≤ 400) (c_1 : ¬ 400 < turn) : 0 ≤ N_ 5 0 2 := by
  skip
  grind [rt5, st_o, rt_o, xup_at, f_X7_rewind, xlet]
theorem ob_X1_readTape_30_p1 (nb nn : Nat) (banks : Int32) (M : xM) (hp0 : 0 ≤ M 5 0 2) (hp1 : M 5 0 2 ≤ 400) (n : Nat) (turn : Int32) (N_ : xM) (hmu : xmu turn 401 < n + 1) (hinv : 0 ≤ N_ 5 0 1 ∧ N_ 5 0 1 ≤ N_ 5 0 2 ∧ 0 ≤ N_ 5 0 2 ∧ N_ 5 0 2 ≤ 400) (c_1 : ¬ 400 < turn) : N_ 5 0 2 ≤ 400 := by
  skip
  grind [rt5, st_o, rt_o, xup_at, f_X7_rewind, xlet]
theorem ob_X1_readTape_30_p2 (nb nn : Nat) (banks : Int32) (M : xM) (hp0 : 0 ≤ M 5 0 2) (hp1 : M 5 0 2 ≤ 400) (n : Nat) (turn : Int32) (N_ : xM) (hmu : xmu turn 401 < n + 1) (hinv : 0 ≤ N_ 5 0 1 ∧ N_ 5 0 1 ≤ N_ 5 0 2 ∧ 0 ≤ N_ 5 0 2 ∧ N_ 5 0 2 ≤ 400) (c_1 : ¬ 400 < turn) : 0 ≤ N_ 5 0 1 := by
  skip
  grind [rt5, st_o, rt_o, xup_at, f_X7_rewind, xlet]
theorem ob_X1_readTape_55_p0 (nb nn : Nat) (banks : Int32) (M : xM) (hp0 : 0 ≤ M 5 0 2) (hp1 : M 5 0 2 ≤ 400) (n : Nat) (turn : Int32) (N_ : xM) (hmu : xmu turn 401 < n + 1) (hinv : 0 ≤ N_ 5 0 1 ∧ N_ 5 0 1 ≤ N_ 5 0 2 ∧ 0 ≤ N_ 5 0 2 ∧ N_ 5 0 2 ≤ 400) (c_1 : ¬ 400 < turn) (M_3 : xM) (eM_3 : M_3 = f_X7_readToken N_) (c_4 : ¬ (M_3 5 0 3) = 0) : 0 ≤ M_3 5 0 4 := by
  subst eM_3
  have r5 := rt5 hinv.2.1 hinv.1 hinv.2.2.2
  grind
theorem ob_X1_readTape_55_p1 (nb nn : Nat) (banks : Int32) (M : xM) (hp0 : 0 ≤ M 5 0 2) (hp1 : M 5 0 2 ≤ 400) (n : Nat) (turn : Int32) (N_ : xM) (hmu : xmu turn 401 < n + 1) (hinv : 0 ≤ N_ 5 0 1 ∧ N_ 5 0 1 ≤ N_ 5 0 2 ∧ 0 ≤ N_ 5 0 2 ∧ N_ 5 0 2 ≤ 400) (c_1 : ¬ 400 < turn) (M_3 : xM) (eM_3 : M_3 = f_X7_readToken N_) (c_4 : ¬ (M_3 5 0 3) = 0) : M_3 5 0 4 ≤ 400 := by
  subst eM_3
  have r5 := rt5 hinv.2.1 hinv.1 hinv.2.2.2
  grind
theorem ob_X1_readTape_55_p2 (nb nn : Nat) (banks : Int32) (M : xM) (hp0 : 0 ≤ M 5 0 2) (hp1 : M 5 0 2 ≤ 400) (n : Nat) (turn : Int32) (N_ : xM) (hmu : xmu turn 401 < n + 1) (hinv : 0 ≤ N_ 5 0 1 ∧ N_ 5 0 1 ≤ N_ 5 0 2 ∧ 0 ≤ N_ 5 0 2 ∧ N_ 5 0 2 ≤ 400) (c_1 : ¬ 400 < turn) (M_3 : xM) (eM_3 : M_3 = f_X7_readToken N_) (c_4 : ¬ (M_3 5 0 3) = 0) : M_3 5 0 1 ≤ 400 := by
  subst eM_3
  have r5 := rt5 hinv.2.1 hinv.1 hinv.2.2.2
  grind
theorem ob_X1_readTape_19_mu_8 (nb nn : Nat) (banks : Int32) (M : xM) (hp0 : 0 ≤ M 5 0 2) (hp1 : M 5 0 2 ≤ 400) (n : Nat) (turn : Int32) (N_ : xM) (hmu : xmu turn 401 < n + 1) (hinv : 0 ≤ N_ 5 0 1 ∧ N_ 5 0 1 ≤ N_ 5 0 2 ∧ 0 ≤ N_ 5 0 2 ∧ N_ 5 0 2 ≤ 400) (c_1 : ¬ 400 < turn) (M_3 : xM) (eM_3 : M_3 = f_X7_readToken N_) (c_4 : ¬ (M_3 5 0 3) = 0) (r_5 : Int32) (M_6 : xM) (er_5 : r_5 = (f_X1_step banks M_3).1) (eM_6 : M_6 = (f_X1_step banks M_3).2) (c_7 : r_5 = 0) (x2_8 : Int32) (ex2_8 : x2_8 = turn + 1) : xmu x2_8 401 < n := by
  subst_vars
  have h9 := xmu_up (a := turn) (b := 401) (by grind)
  omega
theorem ob_X1_readTape_19_inv_8 (nb nn : Nat) (banks : Int32) (M : xM) (hp0 : 0 ≤ M 5 0 2) (hp1 : M 5 0 2 ≤ 400) (n : Nat) (turn : Int32) (N_ : xM) (hmu : xmu turn 401 < n + 1) (hinv : 0 ≤ N_ 5 0 1 ∧ N_ 5 0 1 ≤ N_ 5 0 2 ∧ 0 ≤ N_ 5 0 2 ∧ N_ 5 0 2 ≤ 400) (c_1 : ¬ 400 < turn) (M_3 : xM) (eM_3 : M_3 = f_X7_readToken N_) (c_4 : ¬ (M_3 5 0 3) = 0) (r_5 : Int32) (M_6 : xM) (er_5 : r_5 = (f_X1_step banks M_3).1) (eM_6 : M_6 = (f_X1_step banks M_3).2) (c_7 : r_5 = 0) (x2_8 : Int32) (ex2_8 : x2_8 = turn + 1) : 0 ≤ M_6 5 0 1 ∧ M_6 5 0 1 ≤ M_6 5 0 2 ∧ 0 ≤ M_6 5 0 2 ∧ M_6 5 0 2 ≤ 400 := by
  subst eM_3
  subst eM_6
  have r5 := rt5 hinv.2.1 hinv.1 hinv.2.2.2
  rw [st_o (by decide) (by decide), st_o (by decide) (by decide)]
  exact ⟨r5.1, by rw [r5.2.2.1]; exact r5.2.1, by rw [r5.2.2.1]; exact hinv.2.2.1, by rw [r5.2.2.1]; exact hinv.2.2.2⟩
theorem ob_X1_readTape_55_p0_2 (nb nn : Nat) (banks : Int32) (M : xM) (hp0 : 0 ≤ M 5 0 2) (hp1 : M 5 0 2 ≤ 400) (n : Nat) (turn : Int32) (N_ : xM) (hmu : xmu turn 401 < n + 1) (hinv : 0 ≤ N_ 5 0 1 ∧ N_ 5 0 1 ≤ N_ 5 0 2 ∧ 0 ≤ N_ 5 0 2 ∧ N_ 5 0 2 ≤ 400) (c_1 : ¬ 400 < turn) (M_3 : xM) (eM_3 : M_3 = f_X7_readToken N_) (c_4 : (M_3 5 0 3) = 0) (c_9 : ¬ (M_3 6 0 2) = 0) : 0 ≤ M_3 5 0 4 := by
  subst eM_3
  have r5 := rt5 hinv.2.1 hinv.1 hinv.2.2.2
  grind
theorem ob_X1_readTape_55_p1_2 (nb nn : Nat) (banks : Int32) (M : xM) (hp0 : 0 ≤ M 5 0 2) (hp1 : M 5 0 2 ≤ 400) (n : Nat) (turn : Int32) (N_ : xM) (hmu : xmu turn 401 < n + 1) (hinv : 0 ≤ N_ 5 0 1 ∧ N_ 5 0 1 ≤ N_ 5 0 2 ∧ 0 ≤ N_ 5 0 2 ∧ N_ 5 0 2 ≤ 400) (c_1 : ¬ 400 < turn) (M_3 : xM) (eM_3 : M_3 = f_X7_readToken N_) (c_4 : (M_3 5 0 3) = 0) (c_9 : ¬ (M_3 6 0 2) = 0) : M_3 5 0 4 ≤ 400 := by
  subst eM_3
  have r5 := rt5 hinv.2.1 hinv.1 hinv.2.2.2
  grind
theorem ob_X1_readTape_55_p2_2 (nb nn : Nat) (banks : Int32) (M : xM) (hp0 : 0 ≤ M 5 0 2) (hp1 : M 5 0 2 ≤ 400) (n : Nat) (turn : Int32) (N_ : xM) (hmu : xmu turn 401 < n + 1) (hinv : 0 ≤ N_ 5 0 1 ∧ N_ 5 0 1 ≤ N_ 5 0 2 ∧ 0 ≤ N_ 5 0 2 ∧ N_ 5 0 2 ≤ 400) (c_1 : ¬ 400 < turn) (M_3 : xM) (eM_3 : M_3 = f_X7_readToken N_) (c_4 : (M_3 5 0 3) = 0) (c_9 : ¬ (M_3 6 0 2) = 0) : M_3 5 0 1 ≤ 400 := by
  subst eM_3
  have r5 := rt5 hinv.2.1 hinv.1 hinv.2.2.2
  grind
theorem ob_X1_readTape_19_mu_13 (nb nn : Nat) (banks : Int32) (M : xM) (hp0 : 0 ≤ M 5 0 2) (hp1 : M 5 0 2 ≤ 400) (n : Nat) (turn : Int32) (N_ : xM) (hmu : xmu turn 401 < n + 1) (hinv : 0 ≤ N_ 5 0 1 ∧ N_ 5 0 1 ≤ N_ 5 0 2 ∧ 0 ≤ N_ 5 0 2 ∧ N_ 5 0 2 ≤ 400) (c_1 : ¬ 400 < turn) (M_3 : xM) (eM_3 : M_3 = f_X7_readToken N_) (c_4 : (M_3 5 0 3) = 0) (c_9 : ¬ (M_3 6 0 2) = 0) (r_10 : Int32) (M_11 : xM) (er_10 : r_10 = (f_X1_step banks M_3).1) (eM_11 : M_11 = (f_X1_step banks M_3).2) (c_12 : r_10 = 0) (x2_13 : Int32) (ex2_13 : x2_13 = turn + 1) : xmu x2_13 401 < n := by
  subst_vars
  have h9 := xmu_up (a := turn) (b := 401) (by grind)
  omega
theorem ob_X1_readTape_19_inv_13 (nb nn : Nat) (banks : Int32) (M : xM) (hp0 : 0 ≤ M 5 0 2) (hp1 : M 5 0 2 ≤ 400) (n : Nat) (turn : Int32) (N_ : xM) (hmu : xmu turn 401 < n + 1) (hinv : 0 ≤ N_ 5 0 1 ∧ N_ 5 0 1 ≤ N_ 5 0 2 ∧ 0 ≤ N_ 5 0 2 ∧ N_ 5 0 2 ≤ 400) (c_1 : ¬ 400 < turn) (M_3 : xM) (eM_3 : M_3 = f_X7_readToken N_) (c_4 : (M_3 5 0 3) = 0) (c_9 : ¬ (M_3 6 0 2) = 0) (r_10 : Int32) (M_11 : xM) (er_10 : r_10 = (f_X1_step banks M_3).1) (eM_11 : M_11 = (f_X1_step banks M_3).2) (c_12 : r_10 = 0) (x2_13 : Int32) (ex2_13 : x2_13 = turn + 1) : 0 ≤ M_11 5 0 1 ∧ M_11 5 0 1 ≤ M_11 5 0 2 ∧ 0 ≤ M_11 5 0 2 ∧ M_11 5 0 2 ≤ 400 := by
  subst eM_3
  subst eM_11
  have r5 := rt5 hinv.2.1 hinv.1 hinv.2.2.2
  rw [st_o (by decide) (by decide), st_o (by decide) (by decide)]
  exact ⟨r5.1, by rw [r5.2.2.1]; exact r5.2.1, by rw [r5.2.2.1]; exact hinv.2.2.1, by rw [r5.2.2.1]; exact hinv.2.2.2⟩
theorem ob_X1_readTape_71_x19_2 (nb nn : Nat) (banks : Int32) (M : xM) (hp0 : 0 ≤ M 5 0 2) (hp1 : M 5 0 2 ≤ 400) (n : Nat) (turn : Int32) (N_ : xM) (hmu : xmu turn 401 < n + 1) (hinv : 0 ≤ N_ 5 0 1 ∧ N_ 5 0 1 ≤ N_ 5 0 2 ∧ 0 ≤ N_ 5 0 2 ∧ N_ 5 0 2 ≤ 400) (c_1 : ¬ 400 < turn) (M_3 : xM) (eM_3 : M_3 = f_X7_readToken N_) (c_4 : (M_3 5 0 3) = 0) (c_9 : (M_3 6 0 2) = 0) : 0 ≤ M_3 5 0 1 ∧ M_3 5 0 1 ≤ M_3 5 0 2 ∧ 0 ≤ M_3 5 0 2 ∧ M_3 5 0 2 ≤ 400 := by
  subst eM_3
  grind [rt5, st_o, rt_o, xup_at, f_X7_rewind, xlet]
theorem ob_X1_readTape_19_ini_17 (nb nn : Nat) (banks : Int32) (M : xM) (hp0 : 0 ≤ M 5 0 2) (hp1 : M 5 0 2 ≤ 400) (M_15 : xM) (eM_15 : M_15 = f_X7_rewind M) (M_16 : xM) (eM_16 : M_16 = xup M_15 6 0 2 0) (M_17 : xM) (eM_17 : M_17 = xup M_16 6 0 6 0) : 0 ≤ M_17 5 0 1 ∧ M_17 5 0 1 ≤ M_17 5 0 2 ∧ 0 ≤ M_17 5 0 2 ∧ M_17 5 0 2 ≤ 400 := by
  subst eM_15
  subst eM_16
  subst eM_17
  simp [f_X7_rewind, xlet, xup_at]
  exact ⟨hp0, hp1⟩
theorem ob_X10_books_8_p0 (nb nn : Nat) (M : xM) (hp0 : 0 ≤ M 5 0 2) (hp1 : M 5 0 2 ≤ 400) : 0 ≤ M 5 0 2 := by
  subst_vars
  grind [isUpTo_eq, isTown10_eq, xb, sheetOf_s, traderOf_s, bankOf_s, noteOf_s, hasPl, xup_at, xHB_o, xHN_o]
theorem ob_X10_books_8_p1 (nb nn : Nat) (M : xM) (hp0 : 0 ≤ M 5 0 2) (hp1 : M 5 0 2 ≤ 400) : M 5 0 2 ≤ 400 := by
  subst_vars
  grind [isUpTo_eq, isTown10_eq, xb, sheetOf_s, traderOf_s, bankOf_s, noteOf_s, hasPl, xup_at, xHB_o, xHN_o]
set_option maxHeartbeats 4000000 in
set_option maxRecDepth 100000 in
theorem c_X1_readTape (l : Launch) (nb nn : Nat) (g : xG) (L : List (Nat × Nat)) (M : xM) (hD : xD g L) (hL : xEL nb nn L) (banks : Int32) (hp0 : 0 ≤ M 5 0 2) (hp1 : M 5 0 2 ≤ 400) : xCi l yX1_readTape cX1_readTape 4 (some .int) 8 g L M [.ref (xad g 6 0), .int banks] (fun r u => (r, u) = f_X1_readTape banks M) := by
  intro sz
  refine x_beg (by decide +kernel) rfl ?_
  intro p e s m args below meth c ls hsz hB
  subst hsz
  obtain ⟨hx, hb, hml, hown, hts, hr, hlk, hK, hAm, hP, hl⟩ := hB
  have S : CallFix p m c cX1_readTape 4 s args (xws yX1_readTape cX1_readTape 4 (some .int)) RX1 := ⟨hx, hb, hml, hown, hts⟩
  have hown : s.vm.findClass RX1 = some m.cls := hown
  have hl : lv_has ls 4 [(0, .ref (xad g 6 0)), (1, .int banks)] := hl
  have hS : va_S (xA g L s.heap.size) s.heap s.heap [] := va_S.rf
  obtain ⟨F, hF⟩ : ∃ F, F = f_X1_readTape banks M := ⟨_, rfl⟩
  have k_19 : ∀ (n : Nat) (turn : Int32) (N_ : xM) (H : Heap) (locs : List Loc) (ls : Array Slot) (kx : (Int32 → xM → Int32 × xM)), xmu turn 401 < n → 0 ≤ N_ 5 0 1 ∧ N_ 5 0 1 ≤ N_ 5 0 2 ∧ 0 ≤ N_ 5 0 2 ∧ N_ 5 0 2 ≤ 400 → F = f_X1_readTape_L19 banks n turn N_ kx → xP g L N_ H → va_S (xA g L s.heap.size) s.heap H locs → lv_has ls 4 [(0, .ref (xad g 6 0)), (1, .int banks), (2, .int turn)] → (∀ (turn : Int32) (N_ : xM) (H : Heap) (locs : List Loc) (ls : Array Slot), 0 ≤ N_ 5 0 1 ∧ N_ 5 0 1 ≤ N_ 5 0 2 ∧ 0 ≤ N_ 5 0 2 ∧ N_ 5 0 2 ≤ 400 → F = kx turn N_ → xP g L N_ H → va_S (xA g L s.heap.size) s.heap H locs → lv_has ls 4 [(0, .ref (xad g 6 0)), (1, .int banks), (2, .int turn)] → W p l e (xr 8) s m args below meth c H locs 0 0 (MQ below (va_Qi (fun r u => (r, u) = f_X1_readTape banks M) (xPost g L) (xA g L s.heap.size)) args s 0 0 (xA g L s.heap.size)) (F0 m 71 ls [])) → W p l e (xr 8) s m args below meth c H locs 0 0 (MQ below (va_Qi (fun r u => (r, u) = f_X1_readTape banks M) (xPost g L) (xA g L s.heap.size)) args s 0 0 (xA g L s.heap.size)) (F0 m 19 ls []) := by
    intro n
    induction n with
    | zero => intro turn N_ H locs ls kx hmu; exact absurd hmu (Nat.not_lt_zero _)
    | succ n ih =>
      intro turn N_ H locs ls kx hmu hinv hres hP hS hl hex
      replace hres : F = _ := hres.trans (by rw [f_X1_readTape_L19])
      refine lv_iload_n hx hb dX1_readTape_19 rfl (lv_at hl 2 rfl) ?_
      refine lv_sipush (v := 400) hx hb dX1_readTape_20 (by decide) ?_
      refine lv_icmp_gt (tgt := 71) hx hb dX1_readTape_23 (by decide) (fun c_1 => ?_) (fun c_1 => ?_)
      · replace hres := hres.trans (if_pos c_1)
        exact hex turn N_ _ _ _ (ob_X1_readTape_71_x19 nb nn banks M hp0 hp1 n turn N_ hmu hinv c_1) hres hP hS (lv_sub hl [0, 1, 2] rfl)
      · replace hres := hres.trans (if_neg c_1)
        refine lv_aload_n hx hb dX1_readTape_26 rfl (lv_at hl 0 rfl) ?_
        refine gf_RX1_27 hx hb hts hown hK hP (hL 6 0 (xe_6 nb nn)) dX1_readTape_27 ?_
        refine x_callVv (As := []) S hK hAm hD hP hS mt_X7_readToken wd_433 ⟨by decide, by decide⟩ (hL 5 0 (xe_5 nb nn)) (xc5 g 0) rfl (c_X7_readToken l nb nn g L N_ hD hL  (ob_X1_readTape_30_p0 nb nn banks M hp0 hp1 n turn N_ hmu hinv c_1) (ob_X1_readTape_30_p1 nb nn banks M hp0 hp1 n turn N_ hmu hinv c_1) (ob_X1_readTape_30_p2 nb nn banks M hp0 hp1 n turn N_ hmu hinv c_1)) rfl hl.1 (Nat.le_of_ble_eq_true rfl) ⟨Nat.zero_le _, Nat.zero_le _⟩ dX1_readTape_30 rfl (fun M_3 H locs eM_3 hP hS => ?_)
        replace hres := xlet_n hres eM_3
        refine lv_aload_n hx hb dX1_readTape_33 rfl (lv_at hl 0 rfl) ?_
        refine gf_RX1_27 hx hb hts hown hK hP (hL 6 0 (xe_6 nb nn)) dX1_readTape_34 ?_
        refine gf_RX1_43 hx hb hts hown hK hP (hL 5 0 (xe_5 nb nn)) dX1_readTape_37 ?_
        refine lv_if_ne (tgt := 53) hx hb dX1_readTape_40 (by decide) (fun c_4 => ?_) (fun c_4 => ?_)
        · replace hres := hres.trans (if_neg c_4)
          refine lv_aload_n hx hb dX1_readTape_53 rfl (lv_at hl 0 rfl) ?_
          refine lv_iload_n hx hb dX1_readTape_54 rfl (lv_at hl 1 rfl) ?_
          refine x_callVi (As := [.int banks]) S hK hAm hD hP hS mt_X1_step wd_449 ⟨by decide, by decide⟩ (hL 6 0 (xe_6 nb nn)) (xc6 g 0) rfl (c_X1_step l nb nn g L M_3 hD hL banks (ob_X1_readTape_55_p0 nb nn banks M hp0 hp1 n turn N_ hmu hinv c_1 M_3 eM_3 c_4) (ob_X1_readTape_55_p1 nb nn banks M hp0 hp1 n turn N_ hmu hinv c_1 M_3 eM_3 c_4) (ob_X1_readTape_55_p2 nb nn banks M hp0 hp1 n turn N_ hmu hinv c_1 M_3 eM_3 c_4)) rfl hl.1 (Nat.le_of_ble_eq_true rfl) ⟨Nat.zero_le _, Nat.zero_le _⟩ dX1_readTape_55 rfl (fun r_5 M_6 H locs ep_ hP hS => ?_)
          replace hres := xlet2_n hres ep_
          have er_5 : r_5 = (f_X1_step banks M_3).1 := congrArg Prod.fst ep_
          have eM_6 : M_6 = (f_X1_step banks M_3).2 := congrArg Prod.snd ep_
          clear ep_
          refine lv_istore_n (lv' := [(3, .int r_5), (0, .ref (xad g 6 0)), (1, .int banks), (2, .int turn)]) hx hb dX1_readTape_58 rfl hl (by decide) rfl (fun ls hl => ?_)
          refine lv_iload_n hx hb dX1_readTape_59 rfl (lv_at hl 0 rfl) ?_
          refine lv_if_eq (tgt := 65) hx hb dX1_readTape_60 (by decide) (fun c_7 => ?_) (fun c_7 => ?_)
          · replace hres := hres.trans (if_pos c_7)
            obtain ⟨x2_8, ex2_8⟩ : ∃ z_ : Int32, z_ = turn + 1 := ⟨_, rfl⟩
            replace hres := xlet_n hres ex2_8
            refine lv_iinc (v := x2_8) (lv' := [(2, .int x2_8), (3, .int r_5), (0, .ref (xad g 6 0)), (1, .int banks)]) hx hb dX1_readTape_65 hl (k := 3) rfl (by rw [ex2_8]; rfl) (by decide) rfl (fun ls hl => ?_)
            refine lv_goto (tgt := 19) hx hb dX1_readTape_68 (by decide) ?_
            exact ih x2_8 M_6 _ _ _ kx (ob_X1_readTape_19_mu_8 nb nn banks M hp0 hp1 n turn N_ hmu hinv c_1 M_3 eM_3 c_4 r_5 M_6 er_5 eM_6 c_7 x2_8 ex2_8) (ob_X1_readTape_19_inv_8 nb nn banks M hp0 hp1 n turn N_ hmu hinv c_1 M_3 eM_3 c_4 r_5 M_6 er_5 eM_6 c_7 x2_8 ex2_8) hres hP hS (lv_sub hl [2, 3, 0] rfl) hex
          · replace hres := hres.trans (if_neg c_7)
            refine lv_iload_n hx hb dX1_readTape_63 rfl (lv_at hl 0 rfl) ?_
            exact x_reti hx hb hr hlk hP hS (hres.symm.trans hF) dX1_readTape_64
        · replace hres := hres.trans (if_pos c_4)
          refine lv_aload_n hx hb dX1_readTape_43 rfl (lv_at hl 0 rfl) ?_
          refine gf_RX1_11 hx hb hts hown hK hP (hL 6 0 (xe_6 nb nn)) dX1_readTape_44 ?_
          refine lv_if_ne (tgt := 53) hx hb dX1_readTape_47 (by decide) (fun c_9 => ?_) (fun c_9 => ?_)
          · replace hres := hres.trans (if_neg c_9)
            refine lv_aload_n hx hb dX1_readTape_53 rfl (lv_at hl 0 rfl) ?_
            refine lv_iload_n hx hb dX1_readTape_54 rfl (lv_at hl 1 rfl) ?_
            refine x_callVi (As := [.int banks]) S hK hAm hD hP hS mt_X1_step wd_449 ⟨by decide, by decide⟩ (hL 6 0 (xe_6 nb nn)) (xc6 g 0) rfl (c_X1_step l nb nn g L M_3 hD hL banks (ob_X1_readTape_55_p0_2 nb nn banks M hp0 hp1 n turn N_ hmu hinv c_1 M_3 eM_3 c_4 c_9) (ob_X1_readTape_55_p1_2 nb nn banks M hp0 hp1 n turn N_ hmu hinv c_1 M_3 eM_3 c_4 c_9) (ob_X1_readTape_55_p2_2 nb nn banks M hp0 hp1 n turn N_ hmu hinv c_1 M_3 eM_3 c_4 c_9)) rfl hl.1 (Nat.le_of_ble_eq_true rfl) ⟨Nat.zero_le _, Nat.zero_le _⟩ dX1_readTape_55 rfl (fun r_10 M_11 H locs ep_ hP hS => ?_)
            replace hres := xlet2_n hres ep_
            have er_10 : r_10 = (f_X1_step banks M_3).1 := congrArg Prod.fst ep_
            have eM_11 : M_11 = (f_X1_step banks M_3).2 := congrArg Prod.snd ep_
            clear ep_
            refine lv_istore_n (lv' := [(3, .int r_10), (0, .ref (xad g 6 0)), (1, .int banks), (2, .int turn)]) hx hb dX1_readTape_58 rfl hl (by decide) rfl (fun ls hl => ?_)
            refine lv_iload_n hx hb dX1_readTape_59 rfl (lv_at hl 0 rfl) ?_
            refine lv_if_eq (tgt := 65) hx hb dX1_readTape_60 (by decide) (fun c_12 => ?_) (fun c_12 => ?_)
            · replace hres := hres.trans (if_pos c_12)
              obtain ⟨x2_13, ex2_13⟩ : ∃ z_ : Int32, z_ = turn + 1 := ⟨_, rfl⟩
              replace hres := xlet_n hres ex2_13
              refine lv_iinc (v := x2_13) (lv' := [(2, .int x2_13), (3, .int r_10), (0, .ref (xad g 6 0)), (1, .int banks)]) hx hb dX1_readTape_65 hl (k := 3) rfl (by rw [ex2_13]; rfl) (by decide) rfl (fun ls hl => ?_)
              refine lv_goto (tgt := 19) hx hb dX1_readTape_68 (by decide) ?_
              exact ih x2_13 M_11 _ _ _ kx (ob_X1_readTape_19_mu_13 nb nn banks M hp0 hp1 n turn N_ hmu hinv c_1 M_3 eM_3 c_4 c_9 r_10 M_11 er_10 eM_11 c_12 x2_13 ex2_13) (ob_X1_readTape_19_inv_13 nb nn banks M hp0 hp1 n turn N_ hmu hinv c_1 M_3 eM_3 c_4 c_9 r_10 M_11 er_10 eM_11 c_12 x2_13 ex2_13) hres hP hS (lv_sub hl [2, 3, 0] rfl) hex
            · replace hres := hres.trans (if_neg c_12)
              refine lv_iload_n hx hb dX1_readTape_63 rfl (lv_at hl 0 rfl) ?_
              exact x_reti hx hb hr hlk hP hS (hres.symm.trans hF) dX1_readTape_64
          · replace hres := hres.trans (if_pos c_9)
            refine lv_goto (tgt := 71) hx hb dX1_readTape_50 (by decide) ?_
            exact hex turn M_3 _ _ _ (ob_X1_readTape_71_x19_2 nb nn banks M hp0 hp1 n turn N_ hmu hinv c_1 M_3 eM_3 c_4 c_9) hres hP hS (lv_sub hl [0, 1, 2] rfl)
  have hres := hF
  rw [f_X1_readTape] at hres
  refine lv_aload_n hx hb dX1_readTape_0 rfl (lv_at hl 0 rfl) ?_
  refine gf_RX1_27 hx hb hts hown hK hP (hL 6 0 (xe_6 nb nn)) dX1_readTape_1 ?_
  refine x_callVv (As := []) S hK hAm hD hP hS mt_X7_rewind wd_429 ⟨by decide, by decide⟩ (hL 5 0 (xe_5 nb nn)) (xc5 g 0) rfl (c_X7_rewind l nb nn g L M hD hL ) rfl hl.1 (Nat.le_of_ble_eq_true rfl) ⟨Nat.zero_le _, Nat.zero_le _⟩ dX1_readTape_4 rfl (fun M_15 H locs eM_15 hP hS => ?_)
  replace hres := xlet_n hres eM_15
  refine lv_aload_n hx hb dX1_readTape_7 rfl (lv_at hl 0 rfl) ?_
  refine lv_iconst (v := 0) hx hb dX1_readTape_8 (by decide) ?_
  refine pf_RX1_11 hx hb hts hown hK hP hD hS (hL 6 0 (xe_6 nb nn)) dX1_readTape_9 (fun H locs hP hS => ?_)
  obtain ⟨M_16, eM_16⟩ : ∃ z_ : xM, z_ = xup M_15 6 0 2 0 := ⟨_, rfl⟩
  rw [← eM_16] at hP
  replace hres := xlet_n hres eM_16
  refine lv_aload_n hx hb dX1_readTape_12 rfl (lv_at hl 0 rfl) ?_
  refine lv_iconst (v := 0) hx hb dX1_readTape_13 (by decide) ?_
  refine pf_RX1_24 hx hb hts hown hK hP hD hS (hL 6 0 (xe_6 nb nn)) dX1_readTape_14 (fun H locs hP hS => ?_)
  obtain ⟨M_17, eM_17⟩ : ∃ z_ : xM, z_ = xup M_16 6 0 6 0 := ⟨_, rfl⟩
  rw [← eM_17] at hP
  replace hres := xlet_n hres eM_17
  refine lv_iconst (v := 0) hx hb dX1_readTape_17 (by decide) ?_
  refine lv_istore_n (lv' := [(2, .int 0), (0, .ref (xad g 6 0)), (1, .int banks)]) hx hb dX1_readTape_18 rfl hl (by decide) rfl (fun ls hl => ?_)
  refine k_19 (xmu (0 : Int32) 401 + 1) (0 : Int32) M_17 _ _ _ _ (Nat.lt_succ_self _) (ob_X1_readTape_19_ini_17 nb nn banks M hp0 hp1 M_15 eM_15 M_16 eM_16 M_17 eM_17) hres hP hS (lv_sub hl [1, 2, 0] rfl) ?_
  clear hres hP hS hl
  intro turn_18 M_19 H locs ls hiv_19 hres hP hS hl
  refine lv_aload_n hx hb dX1_readTape_71 rfl (lv_at hl 0 rfl) ?_
  refine gf_RX1_31 hx hb hts hown hK hP (hL 6 0 (xe_6 nb nn)) dX1_readTape_72 ?_
  refine lv_aload_n hx hb dX1_readTape_75 rfl (lv_at hl 0 rfl) ?_
  refine gf_RX1_24 hx hb hts hown hK hP (hL 6 0 (xe_6 nb nn)) dX1_readTape_76 ?_
  refine x_callVv (As := [.int (M_19 6 0 6)]) S hK hAm hD hP hS mt_X2_keep wd_547 ⟨by decide, by decide⟩ (hL 4 0 (xe_4 nb nn)) (xc4 g 0) rfl (c_X2_keep l nb nn g L M_19 hD hL (M_19 6 0 6)) rfl hl.1 (Nat.le_of_ble_eq_true rfl) ⟨Nat.zero_le _, Nat.zero_le _⟩ dX1_readTape_79 rfl (fun M_21 H locs eM_21 hP hS => ?_)
  replace hres := xlet_n hres eM_21
  refine lv_iconst (v := 0) hx hb dX1_readTape_82 (by decide) ?_
  exact x_reti hx hb hr hlk hP hS (hres.symm.trans hF) dX1_readTape_83
set_option maxHeartbeats 4000000 in
set_option maxRecDepth 100000 in
theorem c_X10_books (l : Launch) (nb nn : Nat) (g : xG) (L : List (Nat × Nat)) (M : xM) (hD : xD g L) (hL : xEL nb nn L)  (hp0 : 0 ≤ M 5 0 2) (hp1 : M 5 0 2 ≤ 400) : xCi l yX10_books cX10_books 3 (some .int) 9 g L M [.ref (xad g 0 0)] (fun r u => (r, u) = f_X10_books  M) := by
  intro sz
  refine x_beg (by decide +kernel) rfl ?_
  intro p e s m args below meth c ls hsz hB
  subst hsz
  obtain ⟨hx, hb, hml, hown, hts, hr, hlk, hK, hAm, hP, hl⟩ := hB
  have S : CallFix p m c cX10_books 3 s args (xws yX10_books cX10_books 3 (some .int)) RX10 := ⟨hx, hb, hml, hown, hts⟩
  have hown : s.vm.findClass RX10 = some m.cls := hown
  have hl : lv_has ls 3 [(0, .ref (xad g 0 0))] := hl
  have hS : va_S (xA g L s.heap.size) s.heap s.heap [] := va_S.rf
  obtain ⟨F, hF⟩ : ∃ F, F = f_X10_books  M := ⟨_, rfl⟩
  have hres := hF
  rw [f_X10_books] at hres
  refine lv_aload_n hx hb dX10_books_0 rfl (lv_at hl 0 rfl) ?_
  refine gf_RX10_47 hx hb hts hown hK hP (hL 0 0 (xe_0 nb nn)) dX10_books_1 ?_
  refine lv_aload_n hx hb dX10_books_4 rfl (lv_at hl 0 rfl) ?_
  refine gf_RX10_84 hx hb hts hown hK hP (hL 0 0 (xe_0 nb nn)) dX10_books_5 ?_
  refine x_callVi (As := [.int (M 0 0 12)]) S hK hAm hD hP hS mt_X1_readTape wd_424 ⟨by decide, by decide⟩ (hL 6 0 (xe_6 nb nn)) (xc6 g 0) rfl (c_X1_readTape l nb nn g L M hD hL (M 0 0 12) (ob_X10_books_8_p0 nb nn M hp0 hp1) (ob_X10_books_8_p1 nb nn M hp0 hp1)) rfl hl.1 (Nat.le_of_ble_eq_true rfl) ⟨Nat.zero_le _, Nat.zero_le _⟩ dX10_books_8 rfl (fun r_1 M_2 H locs ep_ hP hS => ?_)
  replace hres := xlet2_n hres ep_
  have er_1 : r_1 = (f_X1_readTape (M 0 0 12) M).1 := congrArg Prod.fst ep_
  have eM_2 : M_2 = (f_X1_readTape (M 0 0 12) M).2 := congrArg Prod.snd ep_
  clear ep_
  refine lv_istore_n (lv' := [(1, .int r_1), (0, .ref (xad g 0 0))]) hx hb dX10_books_11 rfl hl (by decide) rfl (fun ls hl => ?_)
  refine lv_aload_n hx hb dX10_books_12 rfl (lv_at hl 1 rfl) ?_
  refine gf_RX10_38 hx hb hts hown hK hP (hL 0 0 (xe_0 nb nn)) dX10_books_13 ?_
  refine gf_RX10_213 hx hb hts hown hK hP (hL 5 0 (xe_5 nb nn)) dX10_books_16 ?_
  refine lv_topi (fun x2_3 ex2_3 => ?_)
  replace hres := xlet_n hres ex2_3
  refine lv_istore_n (lv' := [(2, .int x2_3), (1, .int r_1), (0, .ref (xad g 0 0))]) hx hb dX10_books_19 rfl hl (by decide) rfl (fun ls hl => ?_)
  refine lv_aload_n hx hb dX10_books_20 rfl (lv_at hl 2 rfl) ?_
  refine gf_RX10_38 hx hb hts hown hK hP (hL 0 0 (xe_0 nb nn)) dX10_books_21 ?_
  refine x_callVv (As := []) S hK hAm hD hP hS mt_X7_empty wd_552 ⟨by decide, by decide⟩ (hL 5 0 (xe_5 nb nn)) (xc5 g 0) rfl (c_X7_empty l nb nn g L M_2 hD hL ) rfl hl.1 (Nat.le_of_ble_eq_true rfl) ⟨Nat.zero_le _, Nat.zero_le _⟩ dX10_books_24 rfl (fun M_5 H locs eM_5 hP hS => ?_)
  replace hres := xlet_n hres eM_5
  refine lv_iload_n hx hb dX10_books_27 rfl (lv_at hl 1 rfl) ?_
  refine lv_if_eq (tgt := 41) hx hb dX10_books_28 (by decide) (fun c_6 => ?_) (fun c_6 => ?_)
  · replace hres := hres.trans (if_pos c_6)
    refine lv_aload_n hx hb dX10_books_41 rfl (lv_at hl 2 rfl) ?_
    refine gf_RX10_31 hx hb hts hown hK hP (hL 0 0 (xe_0 nb nn)) dX10_books_42 ?_
    refine gf_RX10_220 hx hb hts hown hK hP (hL 4 0 (xe_4 nb nn)) dX10_books_45 ?_
    exact x_reti hx hb hr hlk hP hS (hres.symm.trans hF) dX10_books_48
  · replace hres := hres.trans (if_neg c_6)
    refine lv_aload_n hx hb dX10_books_31 rfl (lv_at hl 2 rfl) ?_
    refine lv_iload_n hx hb dX10_books_32 rfl (lv_at hl 1 rfl) ?_
    refine pf_RX10_94 hx hb hts hown hK hP hD hS (hL 0 0 (xe_0 nb nn)) dX10_books_33 (fun H locs hP hS => ?_)
    obtain ⟨M_7, eM_7⟩ : ∃ z_ : xM, z_ = xup M_5 0 0 15 r_1 := ⟨_, rfl⟩
    rw [← eM_7] at hP
    replace hres := xlet_n hres eM_7
    refine lv_ldc (own := RX10) (v := (-1000100)) hx hb hown (hts _ (List.mem_cons_of_mem _ wd_422)) dX10_books_36 ?_
    refine lv_iload_n hx hb dX10_books_38 rfl (lv_at hl 0 rfl) ?_
    refine lv_isub hx hb dX10_books_39 ?_
    exact x_reti hx hb hr hlk hP hS (hres.symm.trans hF) dX10_books_40
