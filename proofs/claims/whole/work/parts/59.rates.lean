/-! rates, feed -/
section RATES
variable {nb nn : Nat} {M : xM}
def okR (r : Nat → Int32) (i b : Nat) : Prop := ∀ c : Nat, b ≤ c → c < 8 → 0 ≤ r (i + c) ∧ r (i + c) ≤ 100
theorem ra56 (town sh : Int32) {i sq : Nat} (hi : i ≤ 60) (N : xM) : ∀ (m b n : Nat) (kx : Int32 → Int32 × xM), b + m = 8 → m < n → (okR (N 25 sq) i b → f_X10_rates_L56 town sh (nI i) sq N n (nI b) kx = kx 8) ∧ (¬ okR (N 25 sq) i b → f_X10_rates_L56 town sh (nI i) sq N n (nI b) kx = ((-1000001), N)) := by
  intro m
  induction m with
  | zero =>
    intro b n kx h1 h2
    obtain ⟨n, rfl⟩ : ∃ k, n = k + 1 := ⟨n - 1, by omega⟩
    obtain rfl : b = 8 := by omega
    refine ⟨fun _ => ?_, fun q => absurd (fun c h1 h2 => by omega) q⟩
    rw [f_X10_rates_L56, if_pos (by decide)]
    rfl
  | succ m ih =>
    intro b n kx h1 h2
    obtain ⟨n, rfl⟩ : ∃ k, n = k + 1 := ⟨n - 1, by omega⟩
    obtain ⟨i1, i2⟩ := ih (b + 1) n kx (by omega) (by omega)
    rw [f_X10_rates_L56, if_neg (show ¬ (8 : Int32) ≤ nI b from nI_ge (b := 8) (by omega) (by decide))]
    simp only [xlet_p, isUpTo_eq, xb_0, nI_add, nI_1, nI_clamp (show i + b < 2 ^ 31 by omega)]
    by_cases c : 0 ≤ N 25 sq (i + b) ∧ N 25 sq (i + b) ≤ 100
    · rw [if_neg (by simp [c])]
      refine ⟨fun q => i1 (fun c h1 h2 => q c (by omega) h2), fun q => i2 (fun q2 => q (fun d h1 h2 => ?_))⟩
      by_cases e : d = b
      · rw [e]; exact c
      · exact q2 d (by omega) h2
    · rw [if_pos (by simp only [c, decide_false])]
      exact ⟨fun q => absurd (q b (Nat.le_refl _) (by omega)) c, fun _ => rfl⟩
theorem ra43 (town why : Int32) {s i : Nat} (hs : s < 8) (hi : i ≤ 60) (N : xM) : ∀ (m b n : Nat) (kx : Int32 → Int32 × xM), b + m = 8 → m < n → (okR (N 54 0) (60 * s + i) b → f_X11_rates_L43 town (nI s) (nI i) why N n (nI b) kx = kx 8) ∧ (¬ okR (N 54 0) (60 * s + i) b → f_X11_rates_L43 town (nI s) (nI i) why N n (nI b) kx = ((-1000001), N)) := by
  intro m
  induction m with
  | zero =>
    intro b n kx h1 h2
    obtain ⟨n, rfl⟩ : ∃ k, n = k + 1 := ⟨n - 1, by omega⟩
    obtain rfl : b = 8 := by omega
    refine ⟨fun _ => ?_, fun q => absurd (fun c h1 h2 => by omega) q⟩
    rw [f_X11_rates_L43, if_pos (by decide)]
    rfl
  | succ m ih =>
    intro b n kx h1 h2
    obtain ⟨n, rfl⟩ : ∃ k, n = k + 1 := ⟨n - 1, by omega⟩
    obtain ⟨i1, i2⟩ := ih (b + 1) n kx (by omega) (by omega)
    rw [f_X11_rates_L43, if_neg (show ¬ (8 : Int32) ≤ nI b from nI_ge (b := 8) (by omega) (by decide))]
    simp only [xlet_p, in_0_100, xb_0, nI_m 60 s 60 rfl, nI_add, nI_1, nI_clamp (show 60 * s + i + b < 2 ^ 31 by omega)]
    by_cases c : 0 ≤ N 54 0 (60 * s + i + b) ∧ N 54 0 (60 * s + i + b) ≤ 100
    · rw [if_neg (by simp [c])]
      refine ⟨fun q => i1 (fun c h1 h2 => q c (by omega) h2), fun q => i2 (fun q2 => q (fun d h1 h2 => ?_))⟩
      by_cases e : d = b
      · rw [e]; exact c
      · exact q2 d (by omega) h2
    · rw [if_pos (by simp only [c, decide_false])]
      exact ⟨fun q => absurd (q b (Nat.le_refl _) (by omega)) c, fun _ => rfl⟩
theorem ra92 (why : Int32) {t s i : Nat} (ht : t < 6) (hs : s < 8) (hi : i ≤ 60) : ∀ (m b n : Nat) (N : xM) (kx : Int32 → xM → Int32 × xM), b + m = 8 → m < n → f_X11_rates_L92 (nI t) (nI s) (nI i) why n (nI b) N kx = kx 8 (xrow N 96 0 (fun c => if 8 * t + b ≤ c ∧ c < 8 * t + 8 then N 54 0 (60 * s + i + (c - 8 * t)) else N 96 0 c)) := by
  intro m
  induction m with
  | zero =>
    intro b n N kx h1 h2
    obtain ⟨n, rfl⟩ : ∃ k, n = k + 1 := ⟨n - 1, by omega⟩
    obtain rfl : b = 8 := by omega
    have e : (fun c => if 8 * t + 8 ≤ c ∧ c < 8 * t + 8 then N 54 0 (60 * s + i + (c - 8 * t)) else N 96 0 c) = N 96 0 := by
      funext c
      rw [if_neg (by omega)]
    rw [f_X11_rates_L92, if_pos (by decide), e, xrow_self]
    rfl
  | succ m ih =>
    intro b n N kx h1 h2
    obtain ⟨n, rfl⟩ : ∃ k, n = k + 1 := ⟨n - 1, by omega⟩
    rw [f_X11_rates_L92, if_neg (show ¬ (8 : Int32) ≤ nI b from nI_ge (b := 8) (by omega) (by decide))]
    simp only [xlet_p, nI_m 60 s 60 rfl, nI_m 8 t 8 rfl, nI_add, nI_1, nI_clamp (show 60 * s + i + b < 2 ^ 31 by omega), nI_clamp (show 8 * t + b < 2 ^ 31 by omega)]
    rw [ih (b + 1) n _ kx (by omega) (by omega), xup_row_of, xrow_xrow, xrow_same, xrow_k (by decide)]
    congr 2
    funext c
    by_cases d : c = 8 * t + b
    · subst d
      rw [if_neg (by omega), if_pos (by omega), pk_us]
      congr 1
      omega
    · rw [pk_un d]
      by_cases d2 : 8 * t + b ≤ c ∧ c < 8 * t + 8
      · rw [if_pos d2, if_pos (by omega)]
      · rw [if_neg d2, if_neg (by omega)]
/-- a look at items: the same finding on both sides -/
theorem look_eq (hb : ∀ i : Nat, 0 ≤ M 53 0 i ∧ M 53 0 i ≤ 60) {s : Nat} (hs : s < 8) (i z : Int32) (hz : 0 ≤ z) : f_X11_lookItems (nI s) i z M = if M 52 0 s < 0 then ((-1000011), xup M 40 0 1 1) else if plc i z (M 53 0 s) then (0, M) else ((-1000012), xup M 40 0 1 2) := by
  unfold f_X11_lookItems f_X11_finding
  simp only [xlet_p, xlet2_p, nI_clamp (show s < 2 ^ 31 by omega)]
  by_cases c1 : M 52 0 s < 0
  · rw [if_neg (Int32.not_le.mpr c1), if_pos c1]; rfl
  · rw [if_pos (Int32.not_lt.mp c1), if_neg c1]
    by_cases d1 : i < 0
    · rw [if_pos d1, if_neg (fun q => absurd q.1 (Int32.not_le.mpr d1))]; rfl
    · rw [if_neg d1]
      by_cases d4 : plc i z (M 53 0 s)
      · rw [if_pos (Int32.not_lt.mp (fun q => (lcm (hb s) d1 (Int32.not_lt.mpr hz)).mp q d4)), if_pos d4]
      · rw [if_neg (Int32.not_le.mpr ((lcm (hb s) d1 (Int32.not_lt.mpr hz)).mpr d4)), if_neg d4]; rfl
theorem s_rates (h : INV nb nn M) (town sh i : Int32) : R40 M (f_X10_rates town sh i M).2 ∧ (f_X10_rates town sh i M).1 = (f_X11_rates town sh i (f_X10_rates town sh i M).2).1 ∧ INV nb nn (f_X11_rates town sh i (f_X10_rates town sh i M).2).2 := by
  by_cases c : (0 ≤ town ∧ town ≤ 5) ∧ (0 ≤ sh ∧ sh ≤ 7)
  · obtain ⟨t, rfl, ht, htc⟩ := ix_6 c.1
    obtain ⟨s, rfl, hs, hsc⟩ := ix_8 c.2
    have hb := h.sh.1
    have hb2 := h.sh.2.1
    have q := h.sh.2.2 s hs
    have p1 := hasP (i0 := s) (i := i) (z := 8) hb
    have K : f_X10_rates (nI t) (nI s) i M = if M 24 s 1 = (-1) then ((-1000011), xup M 0 0 16 1) else if f_X6_hasPlaces s i 8 M = true then f_X10_rates_L56 (nI t) (nI s) i s M (xmu (0 : Int32) 8 + 1) (0 : Int32) (fun b_18 => (8, xup (xrow M 10 0 (va_cpy (M 25 s) (M 10 0) i.toNatClampNeg (nI t * 8).toNatClampNeg (8 : Int32).toNatClampNeg)) 0 0 16 0)) else ((-1000012), xup M 0 0 16 2) := by
      unfold f_X10_rates f_X6_isMissing f_X10_found f_X10_foundNothing
      simp only [xlet_p, xlet2_p, sheetOf_eq, isTown10_eq, xb_0, if_pos c.2, xopt_ps, hsc]
      by_cases c1 : M 24 s 1 = (-1)
      · simp [c.1, c1]
      · cases e : f_X6_hasPlaces s i 8 M <;> simp [c.1, c1]
    have KM : ∀ N : xM, (∀ j : Nat, 0 ≤ N 53 0 j ∧ N 53 0 j ≤ 60) → f_X11_rates (nI t) (nI s) i N = if N 52 0 s < 0 then ((-1000011), xup (xup N 40 0 0 0) 40 0 1 1) else if plc i 8 (N 53 0 s) then f_X11_rates_L43 (nI t) (nI s) i 0 (xup N 40 0 0 0) (xmu (0 : Int32) 8 + 1) (0 : Int32) (fun b_17 => f_X11_rates_L92 (nI t) (nI s) i 0 (xmu (0 : Int32) 8 + 1) (0 : Int32) (xup (xup N 40 0 0 0) 40 0 1 0) (fun b_19 M_20 => (8, M_20))) else ((-1000012), xup (xup N 40 0 0 0) 40 0 1 2) := by
      intro N hN
      have n52 : xup N 40 0 0 0 52 0 s = N 52 0 s := xup_k (by decide)
      have n53 : ∀ j : Nat, xup N 40 0 0 0 53 0 j = N 53 0 j := fun j => xup_k (by decide)
      unfold f_X11_rates
      simp only [xlet_p, xlet2_p, isTown_eq, isSheet_eq, xb_0]
      rw [if_neg (by simp [c.1]), if_neg (by simp [c.2]), look_eq (fun j => by rw [n53]; exact hN j) hs i 8 (by decide), n52, n53]
      by_cases c1 : N 52 0 s < 0
      · rw [if_pos c1, if_pos c1]; dsimp only; rw [if_neg (by decide)]
      · rw [if_neg c1, if_neg c1]
        by_cases c2 : plc i 8 (N 53 0 s)
        · rw [if_pos c2, if_pos c2]; dsimp only; rw [if_pos (by decide)]
        · rw [if_neg c2, if_neg c2]; dsimp only; rw [if_neg (by decide)]
    have e52 : ∀ v : Int32, ∀ k : Nat, xup M 0 0 16 v 52 0 k = M 52 0 k := fun v k => xup_k (by decide)
    have e53 : ∀ v : Int32, ∀ k : Nat, xup M 0 0 16 v 53 0 k = M 53 0 k := fun v k => xup_k (by decide)
    rw [K]
    by_cases c1 : M 24 s 1 = (-1)
    · rw [if_pos c1, KM _ (fun k => by dsimp only; rw [e53]; exact hb2 k), if_pos (by dsimp only; rw [e52, q.1, c1]; decide)]
      exact ⟨R40_up (R40_rf M) (by decide), rfl, INV_st h 1⟩
    · have px : 0 ≤ M 24 s 1 := by have := q.2.1; grind
      have pn : ¬ M 52 0 s < 0 := by rw [q.1]; exact Int32.not_lt.mpr px
      obtain ⟨dx, ix⟩ := q.2.2.2 px
      rw [if_neg c1]
      by_cases c2 : plc i 8 (M 24 s 2)
      · rw [if_pos (p1.mpr c2)]
        obtain ⟨i1, i2, i3, i4, i5⟩ := id c2
        have a1 := tnc_add i1 i2 (Int32.le_trans i3 (by decide)) (Int32.le_trans i4 (by decide))
        have b1 : (i + 8).toNatClampNeg ≤ (M 24 s 2).toNatClampNeg := tnc_mono i5
        have lx : (M 24 s 2).toNatClampNeg ≤ 60 := tnc_le (N := 60) (by decide) (hb s).2
        rw [show (8 : Int32).toNatClampNeg = 8 from rfl] at a1
        obtain ⟨ii, rfl, hii⟩ := i32b (n := 60) (by decide) i1 i3
        rw [nI_clamp (by omega)] at a1 ⊢
        have okE : okR (M 54 0) (60 * s + ii) 0 ↔ okR (M 25 s) ii 0 := by
          have : ∀ d : Nat, d < 8 → M 54 0 (60 * s + ii + d) = M 25 s (ii + d) := fun d hd => by
            rw [Nat.add_assoc]; exact ix (ii + d) (by omega)
          exact ⟨fun z d h1 h2 => by rw [← this d h2]; exact z d h1 h2, fun z d h1 h2 => by rw [this d h2]; exact z d h1 h2⟩
        by_cases c3 : okR (M 25 s) ii 0
        · have L := (ra56 (nI t) (nI s) (sq := s) hii M 8 0 (xmu (0 : Int32) 8 + 1) (fun b_18 => (8, xup (xrow M 10 0 (va_cpy (M 25 s) (M 10 0) ii (nI t * 8).toNatClampNeg (8 : Int32).toNatClampNeg)) 0 0 16 0)) (by omega) (by decide)).1 c3
          rw [show nI 0 = (0 : Int32) from rfl] at L
          rw [L]
          dsimp only
          rw [nI_mr 8 t 8 rfl, nI_clamp (by omega), show (8 : Int32).toNatClampNeg = 8 from rfl]
          generalize hP : va_cpy (M 25 s) (M 10 0) ii (t * 8) 8 = P
          have g52 : xup (xrow M 10 0 P) 0 0 16 0 52 0 s = M 52 0 s := by rw [xup_k (by decide), xrow_k (by decide)]
          have g53 : ∀ k : Nat, xup (xrow M 10 0 P) 0 0 16 0 53 0 k = M 53 0 k := fun k => by rw [xup_k (by decide), xrow_k (by decide)]
          have g54 : xup (xup (xrow M 10 0 P) 0 0 16 0) 40 0 0 0 54 0 = M 54 0 := by rw [xup_row (by decide), xup_row (by decide), xrow_k (by decide)]
          rw [KM _ (fun k => by rw [g53]; exact hb2 k), if_neg (by rw [g52]; exact pn), if_pos (by rw [g53, dx]; exact c2)]
          have L2 := (ra43 (nI t) 0 hs hii (xup (xup (xrow M 10 0 P) 0 0 16 0) 40 0 0 0) 8 0 (xmu (0 : Int32) 8 + 1) (fun b_17 => f_X11_rates_L92 (nI t) (nI s) (nI ii) 0 (xmu (0 : Int32) 8 + 1) (0 : Int32) (xup (xup (xup (xrow M 10 0 P) 0 0 16 0) 40 0 0 0) 40 0 1 0) (fun b_19 M_20 => (8, M_20))) (by omega) (by decide)).1 (by rw [g54]; exact okE.mpr c3)
          rw [show nI 0 = (0 : Int32) from rfl] at L2
          rw [L2]
          have L3 := ra92 0 ht hs hii 8 0 (xmu (0 : Int32) 8 + 1) (xup (xup (xup (xrow M 10 0 P) 0 0 16 0) 40 0 0 0) 40 0 1 0) (fun b_19 M_20 => (8, M_20)) (by omega) (by decide)
          rw [show nI 0 = (0 : Int32) from rfl] at L3
          rw [L3]
          dsimp only
          have k54 : xup (xup (xup (xrow M 10 0 P) 0 0 16 0) 40 0 0 0) 40 0 1 0 54 0 = M 54 0 := by rw [xup_row (by decide)]; exact g54
          have k96 : xup (xup (xup (xrow M 10 0 P) 0 0 16 0) 40 0 0 0) 40 0 1 0 96 0 = M 96 0 := by rw [xup_row (by decide), xup_row (by decide), xup_row (by decide), xrow_k (by decide)]
          rw [k54, k96]
          refine ⟨R40_up (R40_row (R40_rf M) (by decide)) (by decide), rfl, ?_⟩
          obtain ⟨g1, g2, g3, g4, g5, g6, g7, g8, g9, g10, g11⟩ := h
          unfold INV
          refine ⟨?_, ?_, ?_, ?_, ?_, ?_, ?_, ?_, ?_, ?_, ?_⟩
          · simpa [xup_row, xup_at, xrow_row, xrow_at] using g1
          · simp only [gSt] at g2 ⊢
            simp [xup_at, xrow_at]
            exact g2.2
          · simpa [xup_row, xup_at, xrow_row, xrow_at] using g3
          · simpa [xup_row, xup_at, xrow_row, xrow_at] using g4
          · simpa [xup_row, xup_at, xrow_row, xrow_at] using g5
          · simpa [xup_row, xup_at, xrow_row, xrow_at] using g6
          · simpa [xup_row, xup_at, xrow_row, xrow_at] using g7
          · simpa [xup_row, xup_at, xrow_row, xrow_at] using g8
          · simpa [xup_row, xup_at, xrow_row, xrow_at] using g9
          · intro k hk
            have z := g10 k hk
            simp [xup_at, xrow_at]
            rw [← hP]
            by_cases e : 8 * t ≤ k ∧ k < 8 * t + 8
            · have z3 := c3 (k - 8 * t) (by omega) (by omega)
              have z4 := ix (ii + (k - 8 * t)) (by omega)
              rw [if_pos e, pk_cpy_in (by omega) (by omega), show k - t * 8 = k - 8 * t by omega, Nat.add_assoc, z4]
              exact ⟨rfl, z3⟩
            · rw [if_neg e, pk_cpy_out (by omega)]
              exact z
          · simpa [xup_row, xup_at, xrow_row, xrow_at] using g11
        · have L := (ra56 (nI t) (nI s) (sq := s) hii M 8 0 (xmu (0 : Int32) 8 + 1) (fun b_18 => (8, xup (xrow M 10 0 (va_cpy (M 25 s) (M 10 0) ii (nI t * 8).toNatClampNeg (8 : Int32).toNatClampNeg)) 0 0 16 0)) (by omega) (by decide)).2 c3
          rw [show nI 0 = (0 : Int32) from rfl] at L
          rw [L]
          dsimp only
          have g54 : xup M 40 0 0 0 54 0 = M 54 0 := by rw [xup_row (by decide)]
          rw [KM _ hb2, if_neg pn, if_pos (by rw [dx]; exact c2)]
          have L2 := (ra43 (nI t) 0 hs hii (xup M 40 0 0 0) 8 0 (xmu (0 : Int32) 8 + 1) (fun b_17 => f_X11_rates_L92 (nI t) (nI s) (nI ii) 0 (xmu (0 : Int32) 8 + 1) (0 : Int32) (xup (xup M 40 0 0 0) 40 0 1 0) (fun b_19 M_20 => (8, M_20))) (by omega) (by decide)).2 (by rw [g54]; exact fun z => c3 (okE.mp z))
          rw [show nI 0 = (0 : Int32) from rfl] at L2
          rw [L2]
          exact ⟨R40_rf M, rfl, INV_thr h⟩
      · rw [if_neg (fun z => c2 (p1.mp z)), KM _ (fun k => by dsimp only; rw [e53]; exact hb2 k), if_neg (by dsimp only; rw [e52]; exact pn), if_neg (by dsimp only; rw [e53, dx]; exact c2)]
        exact ⟨R40_up (R40_rf M) (by decide), rfl, INV_st h 2⟩
  · have K : f_X10_rates town sh i M = ((-1000001), M) := by
      unfold f_X10_rates
      simp only [xlet_p, sheetOf_eq, isTown10_eq, xb_0]
      by_cases c1 : 0 ≤ sh ∧ sh ≤ 7
      · have c2 : ¬ (0 ≤ town ∧ town ≤ 5) := fun z => c ⟨z, c1⟩
        simp only [if_pos c1, xopt_ps]
        rw [if_pos (by simp only [c2, decide_false])]
      · simp only [if_neg c1, xopt_pn]
        split <;> rfl
    have K2 : f_X11_rates town sh i M = ((-1000001), xup M 40 0 0 0) := by
      unfold f_X11_rates
      simp only [xlet_p, isTown_eq, isSheet_eq, xb_0]
      by_cases c1 : 0 ≤ town ∧ town ≤ 5
      · have c2 : ¬ (0 ≤ sh ∧ sh ≤ 7) := fun z => c ⟨c1, z⟩
        rw [if_neg (by simp [c1]), if_pos (by simp only [c2, decide_false])]
      · rw [if_pos (by simp only [c1, decide_false])]
    rw [K]
    dsimp only
    rw [K2]
    exact ⟨R40_rf M, rfl, INV_thr h⟩
end RATES
