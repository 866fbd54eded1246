/-! roads and fewest miles, on both sides -/
def mi0 (A : Nat → Int32) (a : Nat) : Nat → Nat → (Nat → Int32) → Nat → Int32
  | 0, _, r => r
  | m + 1, b, r => mi0 A a m (b + 1) (upd r (6 * a + b) (flo0 A (6 * a + b)))
def mi1 (A : Nat → Int32) : Nat → Nat → (Nat → Int32) → Nat → Int32
  | 0, _, r => r
  | m + 1, a, r => mi1 A m (a + 1) (mi0 A a 6 0 r)
theorem mi0_at {A : Nat → Int32} {a : Nat} : ∀ (m b : Nat) (r : Nat → Int32), b + m = 6 → ∀ k : Nat, mi0 A a m b r k = if k / 6 = a ∧ b ≤ k % 6 then flo0 A k else r k := by
  intro m
  induction m with
  | zero => intro b r hb k; rw [mi0, if_neg (by omega)]
  | succ m ih =>
    intro b r hb k
    rw [mi0, ih (b + 1) _ (by omega)]
    by_cases c : k = 6 * a + b
    · subst c
      rw [if_neg (by omega), if_pos (by omega), pk_us]
    · rw [pk_un c]
      by_cases c2 : k / 6 = a ∧ b ≤ k % 6
      · rw [if_pos c2, if_pos (by omega)]
      · rw [if_neg c2, if_neg (by omega)]
theorem mi1_at {A : Nat → Int32} : ∀ (m a : Nat) (r : Nat → Int32), a + m = 6 → ∀ k : Nat, k < 36 → mi1 A m a r k = if a ≤ k / 6 then flo0 A k else r k := by
  intro m
  induction m with
  | zero => intro a r ha k hk; rw [mi1, if_neg (by omega)]
  | succ m ih =>
    intro a r ha k hk
    rw [mi1, ih (a + 1) _ (by omega) k hk, mi0_at 6 0 r (by omega)]
    by_cases c : k / 6 = a
    · rw [if_neg (by omega), if_pos (by omega), if_pos (by omega)]
    · by_cases c2 : a ≤ k / 6
      · rw [if_pos c2, if_pos (by omega)]
      · rw [if_neg c2, if_neg (by omega), if_neg (by omega)]
theorem i6 {a b : Nat} (ha : a < 6) (hb : b < 6) : (nI a * 6 + nI b).toNatClampNeg = 6 * a + b := by
  rw [nI_mr 6 a 6 rfl, nI_add, nI_clamp (by omega)]; omega
theorem i6' {a b : Nat} (ha : a < 6) (hb : b < 6) : (6 * nI a + nI b).toNatClampNeg = 6 * a + b := by
  rw [nI_m 6 a 6 rfl, nI_add, nI_clamp (by omega)]
theorem xup_row_of (N : xM) (κ i j : Nat) (v : Int32) : xup N κ i j v = xrow N κ i (upd (N κ i) j v) := rfl
theorem meaL10 {a : Nat} (ha : a < 6) : ∀ (m b n : Nat) (N : xM) (kx : Int32 → xM → xM), b + m = 6 → m < n → f_X5_measure_L10 (nI a) n (nI b) N kx = kx 6 (xrow N 14 0 (mi0 (N 13 0) a m b (N 14 0))) := by
  intro m
  induction m with
  | zero =>
    intro b n N kx h1 h2
    obtain ⟨n, rfl⟩ : ∃ k, n = k + 1 := ⟨n - 1, by omega⟩
    obtain rfl : b = 6 := by omega
    rw [f_X5_measure_L10, if_pos (by decide), mi0, xrow_self]
    rfl
  | succ m ih =>
    intro b n N kx h1 h2
    obtain ⟨n, rfl⟩ : ∃ k, n = k + 1 := ⟨n - 1, by omega⟩
    have hb : b < 6 := by omega
    have key : ∀ v, f_X5_measure_L10 (nI a) n (nI (b + 1)) (xup N 14 0 (6 * a + b) v) kx = kx 6 (xrow N 14 0 (mi0 (N 13 0) a m (b + 1) (upd (N 14 0) (6 * a + b) v))) := by
      intro v
      rw [ih (b + 1) n _ kx (by omega) (by omega), xup_row_of, xrow_xrow, xrow_same, xrow_k (by decide)]
    rw [f_X5_measure_L10, if_neg (show ¬ (6 : Int32) ≤ nI b from nI_ge (b := 6) hb (by decide))]
    simp only [xlet_p, i6 ha hb, nI_1, key, f_X5_milesBetween, nI_eq (show a < 2 ^ 31 by omega) (show b < 2 ^ 31 by omega)]
    rw [mi0]
    unfold flo0
    rw [(d6 hb).1, (d6 hb).2]
    split
    · rfl
    · split <;> rfl
theorem meaL2 : ∀ (m a n : Nat) (N : xM) (kx : Int32 → xM → xM), a + m = 6 → m < n → f_X5_measure_L2 n (nI a) N kx = kx 6 (xrow N 14 0 (mi1 (N 13 0) m a (N 14 0))) := by
  intro m
  induction m with
  | zero =>
    intro a n N kx h1 h2
    obtain ⟨n, rfl⟩ : ∃ k, n = k + 1 := ⟨n - 1, by omega⟩
    obtain rfl : a = 6 := by omega
    rw [f_X5_measure_L2, if_pos (by decide), mi1, xrow_self]
    rfl
  | succ m ih =>
    intro a n N kx h1 h2
    obtain ⟨n, rfl⟩ : ∃ k, n = k + 1 := ⟨n - 1, by omega⟩
    have ha : a < 6 := by omega
    rw [f_X5_measure_L2, if_neg (show ¬ (6 : Int32) ≤ nI a from nI_ge (b := 6) ha (by decide)), show (0 : Int32) = nI 0 from rfl, meaL10 ha 6 0 _ N _ (by omega) (by decide)]
    simp only [xlet_p, nI_1]
    rw [ih (a + 1) n _ kx (by omega) (by omega), xrow_xrow, xrow_same, xrow_k (by decide), mi1]
theorem meaL83 {t a : Nat} (ht : t < 6) (ha : a < 6) : ∀ (m b n : Nat) (N : xM) (kx : Int32 → xM → xM), b + m = 6 → m < n → f_X5_measure_L83 (nI t) (nI a) n (nI b) N kx = kx 6 (xrow N 14 0 (flo2 t a m b (N 14 0))) := by
  intro m
  induction m with
  | zero =>
    intro b n N kx h1 h2
    obtain ⟨n, rfl⟩ : ∃ k, n = k + 1 := ⟨n - 1, by omega⟩
    obtain rfl : b = 6 := by omega
    rw [f_X5_measure_L83, if_pos (by decide), flo2, xrow_self]
    rfl
  | succ m ih =>
    intro b n N kx h1 h2
    obtain ⟨n, rfl⟩ : ∃ k, n = k + 1 := ⟨n - 1, by omega⟩
    have hb : b < 6 := by omega
    rw [f_X5_measure_L83, if_neg (show ¬ (6 : Int32) ≤ nI b from nI_ge (b := 6) hb (by decide))]
    simp only [xlet_p, i6 ha hb, i6 ha ht, i6 ht hb, nI_1]
    rw [ih (b + 1) n _ kx (by omega) (by omega), xup_row_of, xrow_xrow, xrow_same, flo2, flo1]
theorem meaL75 {t : Nat} (ht : t < 6) : ∀ (m a n : Nat) (N : xM) (kx : Int32 → xM → xM), a + m = 6 → m < n → f_X5_measure_L75 (nI t) n (nI a) N kx = kx 6 (xrow N 14 0 (flo3 t m a (N 14 0))) := by
  intro m
  induction m with
  | zero =>
    intro a n N kx h1 h2
    obtain ⟨n, rfl⟩ : ∃ k, n = k + 1 := ⟨n - 1, by omega⟩
    obtain rfl : a = 6 := by omega
    rw [f_X5_measure_L75, if_pos (by decide), flo3, xrow_self]
    rfl
  | succ m ih =>
    intro a n N kx h1 h2
    obtain ⟨n, rfl⟩ : ∃ k, n = k + 1 := ⟨n - 1, by omega⟩
    have ha : a < 6 := by omega
    rw [f_X5_measure_L75, if_neg (show ¬ (6 : Int32) ≤ nI a from nI_ge (b := 6) ha (by decide)), show (0 : Int32) = nI 0 from rfl, meaL83 ht ha 6 0 _ N _ (by omega) (by decide)]
    simp only [xlet_p, nI_1]
    rw [ih (a + 1) n _ kx (by omega) (by omega), xrow_xrow, xrow_same, flo3]
theorem meaL67 : ∀ (m t n : Nat) (N : xM) (kx : Int32 → xM → xM), t + m = 6 → m < n → f_X5_measure_L67 n (nI t) N kx = kx 6 (xrow N 14 0 (flo4 m t (N 14 0))) := by
  intro m
  induction m with
  | zero =>
    intro a n N kx h1 h2
    obtain ⟨n, rfl⟩ : ∃ k, n = k + 1 := ⟨n - 1, by omega⟩
    obtain rfl : a = 6 := by omega
    rw [f_X5_measure_L67, if_pos (by decide), flo4, xrow_self]
    rfl
  | succ m ih =>
    intro a n N kx h1 h2
    obtain ⟨n, rfl⟩ : ∃ k, n = k + 1 := ⟨n - 1, by omega⟩
    have ha : a < 6 := by omega
    rw [f_X5_measure_L67, if_neg (show ¬ (6 : Int32) ≤ nI a from nI_ge (b := 6) ha (by decide)), show (0 : Int32) = nI 0 from rfl, meaL75 ha 6 0 _ N _ (by omega) (by decide)]
    simp only [xlet_p, nI_1]
    rw [ih (a + 1) n _ kx (by omega) (by omega), xrow_xrow, xrow_same, flo4]
theorem measure_eq (M : xM) : f_X5_measure M = xrow M 14 0 (flo4 6 0 (mi1 (M 13 0) 6 0 (M 14 0))) := by
  unfold f_X5_measure
  rw [show (0 : Int32) = nI 0 from rfl, meaL2 6 0 _ M _ (by omega) (by decide)]
  rw [meaL67 6 0 _ _ _ (by omega) (by decide), xrow_xrow, xrow_same]
theorem measure_ex (N : xM) (hA : ∀ k : Nat, k < 36 → 0 ≤ N 13 0 k ∧ N 13 0 k ≤ 500) : ∃ G : Nat → Int32, f_X5_measure N = xrow N 14 0 G ∧ ∀ k : Nat, k < 36 → G k = flo (N 13 0) k := by
  refine ⟨_, measure_eq N, fun k hk => flo_c (R := N 13 0) hA (fun k hk => ?_) k hk⟩
  rw [mi1_at 6 0 _ (by omega) k hk, if_pos (by omega)]
section ROADS
variable {nb nn : Nat} {M : xM}
theorem few_eq (h : INV nb nn M) {a b : Nat} (ha : a < 6) (hb : b < 6) (r : Nat → Int32) : f_X5_fewestMiles (nI a) (nI b) M = bfrow (M 55 0) (nI a) r b := by
  rw [far_both h.ro ha hb]
  unfold f_X5_fewestMiles
  rw [i6 ha hb]
  rfl
theorem s_far (h : INV nb nn M) (a b : Int32) : f_X10_far a b M = (f_X11_far a b M).1 ∧ INV nb nn (f_X11_far a b M).2 := by
  unfold f_X10_far f_X11_far
  simp only [xlet_p, xlet2_p, isTown10_eq, isTown_eq, farFrom_eq]
  by_cases c1 : 0 ≤ a ∧ a ≤ 5
  · by_cases c2 : 0 ≤ b ∧ b ≤ 5
    · obtain ⟨x, rfl, hx, hxc⟩ := ix_6 c1
      obtain ⟨y, rfl, hy, hyc⟩ := ix_6 c2
      have e := few_eq h hx hy (xup M 40 0 0 0 56 0)
      simp only [xb, c1, c2, hyc]
      refine ⟨?_, ?_⟩
      · simp
        rw [e, xup_row (M := M) (a := 55) (κ := 40) (by decide)]
      · simp
        exact INV_56 (INV_thr h)
    · simp [xb, c1, c2]; exact INV_thr h
  · simp [xb, c1]; exact INV_thr h
theorem road10 (a b v : Int32) (M : xM) : f_X10_road a b v M = if (0 ≤ a ∧ a ≤ 5) ∧ (0 ≤ b ∧ b ≤ 5) ∧ a ≠ b ∧ (0 ≤ v ∧ v ≤ 500) then (M 13 0 ((a * 6) + b).toNatClampNeg, f_X5_build a b v M) else ((-1000001), M) := by
  unfold f_X10_road f_X5_milesBetween
  simp only [xlet_p, isTown10_eq, isUpTo_eq, xb_0]
  generalize f_X5_build a b v M = N
  by_cases c1 : 0 ≤ a ∧ a ≤ 5
  · by_cases c2 : 0 ≤ b ∧ b ≤ 5
    · by_cases c3 : a = b
      · simp [c1, c2, c3]
      · by_cases c4 : 0 ≤ v ∧ v ≤ 500
        · simp [c1, c2, c3, c4]
        · simp [c1, c2, c3, c4]
    · simp [c1, c2]
  · simp [c1]
theorem road11 (a b v : Int32) (M : xM) : f_X11_road a b v M = if (0 ≤ a ∧ a ≤ 5) ∧ (0 ≤ b ∧ b ≤ 5) ∧ a ≠ b ∧ (0 ≤ v ∧ v ≤ 500) then (M 55 0 ((6 * a) + b).toNatClampNeg, xup (xup (xup M 40 0 0 0) 55 0 ((6 * a) + b).toNatClampNeg v) 55 0 ((6 * b) + a).toNatClampNeg v) else ((-1000001), xup M 40 0 0 0) := by
  unfold f_X11_road
  simp only [xlet_p, isTown_eq, in_0_500, xb_0]
  by_cases c1 : 0 ≤ a ∧ a ≤ 5
  · by_cases c2 : 0 ≤ b ∧ b ≤ 5
    · by_cases c3 : a = b
      · simp [c1, c2, c3]
      · by_cases c4 : 0 ≤ v ∧ v ≤ 500
        · simp [c1, c2, c3, c4]
          exact xup_k (by decide)
        · simp [c1, c2, c3, c4]
    · simp [c1, c2]
  · simp [c1]
theorem build_ex {x y : Nat} (hx : x < 6) (hy : y < 6) {v : Int32} (c4 : 0 ≤ v ∧ v ≤ 500) (hr : ∀ k : Nat, k < 36 → 0 ≤ M 13 0 k ∧ M 13 0 k ≤ 500) : ∃ P G : Nat → Int32, f_X5_build (nI x) (nI y) v M = xrow (xrow M 13 0 P) 14 0 G ∧ (∀ k : Nat, P k = if k = 6 * x + y ∨ k = 6 * y + x then v else M 13 0 k) ∧ ∀ k : Nat, k < 36 → G k = flo P k := by
  have e : xup (xup M 13 0 (6 * x + y) v) 13 0 (6 * y + x) v = xrow M 13 0 (upd (upd (M 13 0) (6 * x + y) v) (6 * y + x) v) := by
    rw [xup_row_of, xup_row_of, xrow_xrow, xrow_same]
  have hP : ∀ k : Nat, upd (upd (M 13 0) (6 * x + y) v) (6 * y + x) v k = if k = 6 * x + y ∨ k = 6 * y + x then v else M 13 0 k := by
    intro k
    by_cases k1 : k = 6 * y + x
    · subst k1; rw [pk_us, if_pos (Or.inr rfl)]
    · rw [pk_un k1]
      by_cases k2 : k = 6 * x + y
      · subst k2; rw [pk_us, if_pos (Or.inl rfl)]
      · rw [pk_un k2, if_neg (by omega)]
  generalize hQ : upd (upd (M 13 0) (6 * x + y) v) (6 * y + x) v = P at e hP
  obtain ⟨G, hG, hG2⟩ := measure_ex (xrow M 13 0 P) (fun k hk => by
    rw [xrow_same, hP]
    split
    · exact c4
    · exact hr k hk)
  refine ⟨P, G, ?_, hP, fun k hk => ?_⟩
  · unfold f_X5_build
    simp only [xlet_p, i6 hx hy, i6 hy hx]
    rw [e]
    exact hG
  · rw [hG2 k hk, xrow_same]
theorem INV_road {x y : Nat} {v : Int32} {P G : Nat → Int32} (h : INV nb nn M) (c4 : 0 ≤ v ∧ v ≤ 500) (hP : ∀ k : Nat, P k = if k = 6 * x + y ∨ k = 6 * y + x then v else M 13 0 k) (hG : ∀ k : Nat, k < 36 → G k = flo P k) : INV nb nn (xup (xup (xup (xrow (xrow M 13 0 P) 14 0 G) 40 0 0 0) 55 0 (6 * x + y) v) 55 0 (6 * y + x) v) := by
  obtain ⟨g1, g2, g3, g4, g5, g6, g7, g8, g9, g10, g11⟩ := h
  have e13 : xup (xup (xup (xrow (xrow M 13 0 P) 14 0 G) 40 0 0 0) 55 0 (6 * x + y) v) 55 0 (6 * y + x) v 13 0 = P := by
    rw [xup_row (by decide), xup_row (by decide), xup_row (by decide), xrow_k (by decide), xrow_same]
  have e14 : xup (xup (xup (xrow (xrow M 13 0 P) 14 0 G) 40 0 0 0) 55 0 (6 * x + y) v) 55 0 (6 * y + x) v 14 0 = G := by
    rw [xup_row (by decide), xup_row (by decide), xup_row (by decide), xrow_same]
  have e55 : ∀ k : Nat, xup (xup (xup (xrow (xrow M 13 0 P) 14 0 G) 40 0 0 0) 55 0 (6 * x + y) v) 55 0 (6 * y + x) v 55 0 k = if k = 6 * x + y ∨ k = 6 * y + x then v else M 55 0 k := by
    intro k
    simp only [xup_at]
    by_cases k1 : k = 6 * y + x
    · simp [k1]
    · simp [k1, xrow_at]
  unfold INV
  rw [e13, e14]
  generalize hR : xup (xup (xup (xrow (xrow M 13 0 P) 14 0 G) 40 0 0 0) 55 0 (6 * x + y) v) 55 0 (6 * y + x) v 55 0 = R at e55
  clear e13 e14
  refine ⟨?_, ?_, ?_, ⟨fun k hk => ?_, hG⟩, ?_, ?_, ?_, ?_, ?_, ?_, ?_⟩
  · simpa [xup_row, xup_at, xrow_row, xrow_at] using g1
  · simpa [xup_row, xup_at, xrow_row, xrow_at] using g2
  · simpa [xup_row, xup_at, xrow_row, xrow_at] using g3
  · rw [e55 k, hP k]
    have := g4.1 k hk
    split
    · exact ⟨rfl, c4⟩
    · exact this
  · simpa [xup_row, xup_at, xrow_row, xrow_at] using g5
  · simpa [xup_row, xup_at, xrow_row, xrow_at] using g6
  · simpa [xup_row, xup_at, xrow_row, xrow_at] using g7
  · simpa [xup_row, xup_at, xrow_row, xrow_at] using g8
  · simpa [xup_row, xup_at, xrow_row, xrow_at] using g9
  · simpa [xup_row, xup_at, xrow_row, xrow_at] using g10
  · simpa [xup_row, xup_at, xrow_row, xrow_at] using g11
theorem s_road (h : INV nb nn M) (a b v : Int32) : (∀ x y z : Nat, ¬ x = 13 → ¬ x = 14 → (f_X10_road a b v M).2 x y z = M x y z) ∧ (f_X10_road a b v M).1 = (f_X11_road a b v (f_X10_road a b v M).2).1 ∧ INV nb nn (f_X11_road a b v (f_X10_road a b v M).2).2 := by
  rw [road10]
  by_cases c : (0 ≤ a ∧ a ≤ 5) ∧ (0 ≤ b ∧ b ≤ 5) ∧ a ≠ b ∧ (0 ≤ v ∧ v ≤ 500)
  · rw [if_pos c, road11, if_pos c]
    obtain ⟨c1, c2, c3, c4⟩ := c
    obtain ⟨x, rfl, hx, hxc⟩ := ix_6 c1
    obtain ⟨y, rfl, hy, hyc⟩ := ix_6 c2
    obtain ⟨P, G, e, hP, hG⟩ := build_ex (M := M) hx hy c4 (fun k hk => (h.ro.1 k hk).2)
    have hI := INV_road h c4 hP hG
    have hxy := (h.ro.1 (6 * x + y) (by omega)).1
    rw [e, i6 hx hy, i6' hx hy, i6' hy hx]
    dsimp only
    refine ⟨fun p q s h1 h2 => ?_, ?_, hI⟩
    · rw [xrow_at, if_neg (fun z => h2 z.1), xrow_at, if_neg (fun z => h1 z.1)]
    · rw [xrow_k (by decide), xrow_k (by decide)]
      exact hxy.symm
  · rw [if_neg c, road11, if_neg c]
    exact ⟨fun _ _ _ _ _ => rfl, rfl, INV_thr h⟩
end ROADS
