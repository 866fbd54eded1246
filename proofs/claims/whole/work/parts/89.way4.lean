/-! way: the class's tables -/
section WAY4
variable {G : Nat → Nat → Nat} {rd : Nat → Nat → Bool} {z : Nat}
def kG (G : Nat → Nat → Nat) (rd : Nat → Nat → Bool) (z : Nat) (N : xM) : Prop := N 11 0 3 = nI z ∧ N 11 0 4 = nI (2 ^ z) ∧ (∀ t k, t < 6 → k < z → N 20 0 (8 * t + k) = nI (G t k)) ∧ ∀ t to, t < 6 → to < 6 → rd t to = decide (0 < N 13 0 (6 * t + to))
theorem kG_of {M N : xM} (h : kG G rd z M) (e : ∀ a b c, (a = 11 ∧ (c = 3 ∨ c = 4)) ∨ a = 20 ∨ a = 13 → N a b c = M a b c) : kG G rd z N := by
  obtain ⟨h1, h2, h3, h4⟩ := h
  refine ⟨by rw [e 11 0 3 (by omega)]; exact h1, by rw [e 11 0 4 (by omega)]; exact h2, fun t k q1 q2 => by rw [e 20 _ _ (by omega)]; exact h3 t k q1 q2, fun t to q1 q2 => by rw [e 13 _ _ (by omega)]; exact h4 t to q1 q2⟩
def c22 (G : Nat → Nat → Nat) (rd : Nat → Nat → Bool) (z r d : Nat) (N : xM) : Prop := ∀ t s, t < 6 → s < 2 ^ z → pop s ≤ d → N 22 0 (256 * t + s) = nI (Ev G rd z r t (dS z s))
def c21 (G : Nat → Nat → Nat) (rd : Nat → Nat → Bool) (z r d : Nat) (N : xM) : Prop := ∀ t s, t < 6 → s < 2 ^ z → pop s ≤ d → N 21 0 (256 * t + s) = nI (Wv G rd z r t (dS z s))
theorem wpop8 {s : Nat} (hs : s < 256) : pop s ≤ 8 := by
  have : ∀ s : Fin 256, pop s.val ≤ 8 := by decide +kernel
  exact this ⟨s, hs⟩
theorem ix256 {t s : Nat} (ht : t < 6) (hs : s ≤ 256) : (nI t * 256 + nI s).toNatClampNeg = 256 * t + s := by
  rw [nI_mr 256 t 256 rfl, nI_add, nI_clamp (by omega)]; omega
theorem ix8' {t s : Nat} (ht : t < 6) (hs : s ≤ 256) : (nI t * 8 + nI s).toNatClampNeg = 8 * t + s := by
  rw [nI_mr 8 t 8 rfl, nI_add, nI_clamp (by omega)]; omega
theorem e10 {t : Nat} (hz : z ≤ 8) (ht : t < 6) : ∀ (m s n : Nat) (N : xM) (kx : Int32 → xM → xM), s + m = 2 ^ z → m < n → N 11 0 4 = nI (2 ^ z) → ∃ N' x, f_X3_endTheWay_L10 (nI t) n (nI s) N kx = kx x N' ∧ xfr 22 N N' ∧ (∀ s', s ≤ s' → s' < 2 ^ z → N' 22 0 (256 * t + s') = 0) ∧ ∀ j, j < 256 * t + s → N' 22 0 j = N 22 0 j := by
  have p8 := p2_8 hz
  intro m
  induction m with
  | zero =>
    intro s n N kx h1 h2 h3
    obtain ⟨n, rfl⟩ : ∃ k, n = k + 1 := ⟨n - 1, by omega⟩
    rw [f_X3_endTheWay_L10, h3, if_pos (nI_le (by omega) (by omega))]
    exact ⟨N, _, rfl, xfr_rf _ _, fun s' q1 q2 => by omega, fun j hj => rfl⟩
  | succ m ih =>
    intro s n N kx h1 h2 h3
    obtain ⟨n, rfl⟩ : ∃ k, n = k + 1 := ⟨n - 1, by omega⟩
    rw [f_X3_endTheWay_L10, h3, if_neg (nI_ge (by omega) (by omega))]
    simp only [xlet_p, nI_1, ix256 ht (show s ≤ 256 by omega)]
    obtain ⟨N', x, e1, e2, e3, e4⟩ := ih (s + 1) n (xup N 22 0 (256 * t + s) 0) kx (by omega) (by omega) (by rw [xup_k (by decide)]; exact h3)
    refine ⟨N', x, e1, fun a b c q => by rw [e2 a b c q, xup_k q], fun s' q1 q2 => ?_, fun j hj => by rw [e4 j (by omega), xup_j (by omega)]⟩
    by_cases d : s' = s
    · subst d; rw [e4 _ (by omega), xup_same]
    · exact e3 s' (by omega) q2
theorem e2' (hz : z ≤ 8) : ∀ (m t n : Nat) (N : xM) (kx : Int32 → xM → xM), t + m = 6 → m < n → N 11 0 4 = nI (2 ^ z) → (∀ t' s', t' < t → s' < 2 ^ z → N 22 0 (256 * t' + s') = 0) → ∃ N' x, f_X3_endTheWay_L2 n (nI t) N kx = kx x N' ∧ xfr 22 N N' ∧ ∀ t' s', t' < 6 → s' < 2 ^ z → N' 22 0 (256 * t' + s') = 0 := by
  have p8 := p2_8 hz
  intro m
  induction m with
  | zero =>
    intro t n N kx h1 h2 h3 h4
    obtain ⟨n, rfl⟩ : ∃ k, n = k + 1 := ⟨n - 1, by omega⟩
    rw [f_X3_endTheWay_L2, if_pos (show (6 : Int32) ≤ nI t from nI_le (a := 6) (by omega) (by omega))]
    exact ⟨N, _, rfl, xfr_rf _ _, fun t' s' q1 q2 => h4 t' s' (by omega) q2⟩
  | succ m ih =>
    intro t n N kx h1 h2 h3 h4
    obtain ⟨n, rfl⟩ : ∃ k, n = k + 1 := ⟨n - 1, by omega⟩
    rw [f_X3_endTheWay_L2, if_neg (show ¬ (6 : Int32) ≤ nI t from nI_ge (b := 6) (by omega) (by decide)), h3]
    simp only [xlet_p, nI_1]
    obtain ⟨N', x, e1, e2, e3, e4⟩ := e10 hz (show t < 6 by omega) (2 ^ z) 0 (xmu (0 : Int32) (nI (2 ^ z)) + 1) N (fun sold_5 M_6 => f_X3_endTheWay_L2 n (nI (t + 1)) M_6 kx) (by omega) (by unfold xmu; rw [nI_toInt (by omega), show (0 : Int32).toInt = 0 from rfl]; omega) h3
    obtain ⟨N2, x2, f1, f2, f3⟩ := ih (t + 1) n N' kx (by omega) (by omega) (by rw [e2 11 0 4 (by decide)]; exact h3) (fun t' s' q1 q2 => by
      by_cases d : t' = t
      · subst d; exact e3 s' (Nat.zero_le _) q2
      · rw [e4 _ (by omega)]; exact h4 t' s' (by omega) q2)
    exact ⟨N2, x2, e1.trans f1, fun a b c q => by rw [f2 a b c q, e2 a b c q], f3⟩
theorem etw_eq (hz : z ≤ 8) {N : xM} (h : N 11 0 4 = nI (2 ^ z)) (d : Nat) : c22 G rd z 0 d (f_X3_endTheWay N) := by
  obtain ⟨N', x, e1, -, e3⟩ := e2' hz 6 0 (xmu (0 : Int32) 6 + 1) N (fun town_8 M_9 => M_9) (by omega) (by decide) h (fun t' s' q => by omega)
  have e : f_X3_endTheWay N = N' := by
    unfold f_X3_endTheWay
    exact e1
  rw [e]
  intro t s q1 q2 _
  rw [e3 t s q1 q2, Ev_0]; rfl
theorem bs16 (hz : z ≤ 8) (hG : ∀ t k, G t k ≤ 100) {N : xM} (hk : kG G rd z N) {r d t s : Nat} (h5 : r ≤ 6) (hc : c22 G rd z r d N) (ht : t < 6) (hs : s < 2 ^ z) (hp : pop s + 1 ≤ d) : ∀ (m k n best : Nat) (kx : Int32 → Int32 → Int32), k + m = z → m < n → best ≤ 700 → ∃ v x, f_X3_bestSale_L16 (nI t) (nI s) N n (nI best) (nI k) kx = kx (nI v) x ∧ v ≤ 700 ∧ ∀ u, v ≤ u ↔ best ≤ u ∧ ∀ k', k ≤ k' → k' < z → dS z s k' = true → G t k' + Ev G rd z r t (wS (dS z s) k') ≤ u := by
  have p8 := p2_8 hz
  intro m
  induction m with
  | zero =>
    intro k n best kx h1 h2 h3
    obtain ⟨n, rfl⟩ : ∃ k, n = k + 1 := ⟨n - 1, by omega⟩
    rw [f_X3_bestSale_L16, hk.1, if_pos (nI_le (by omega) (by omega))]
    exact ⟨best, _, rfl, h3, fun u => ⟨fun h => ⟨h, fun k' q1 q2 => by omega⟩, fun h => h.1⟩⟩
  | succ m ih =>
    intro k n best kx h1 h2 h3
    obtain ⟨n, rfl⟩ : ∃ k, n = k + 1 := ⟨n - 1, by omega⟩
    have lt : s ||| 2 ^ k < 2 ^ z := Nat.or_lt_two_pow hs (Nat.pow_lt_pow_right (by decide) (by omega))
    have eb := Ev_b (rd := rd) (z := z) hG r t (wS (dS z s) k)
    have gb := hG t k
    rw [f_X3_bestSale_L16, hk.1, if_neg (nI_ge (by omega) (by omega)), shl_n (by omega), fa_or]
    simp only [xlet_p, nI_1, nI_eq (show s ||| 2 ^ k < 2 ^ 31 by omega) (show s < 2 ^ 31 by omega), ix256 ht (show s ||| 2 ^ k ≤ 256 by omega), ix8' ht (show k ≤ 256 by omega), hk.2.2.1 t k ht (show k < z by omega)]
    by_cases c : s ||| 2 ^ k = s
    · rw [if_pos c]
      obtain ⟨v, x, e1, e2, e3⟩ := ih (k + 1) n best kx (by omega) (by omega) h3
      refine ⟨v, x, e1, e2, fun u => (e3 u).trans ⟨fun h => ⟨h.1, fun k' q1 q2 q3 => ?_⟩, fun h => ⟨h.1, fun k' q1 => h.2 k' (by omega)⟩⟩⟩
      by_cases e : k' = k
      · subst e; exact absurd (or_same.mp c) ((dS_t q2).mp q3)
      · exact h.2 k' (by omega) q2 q3
    · rw [if_neg c, hc t _ ht lt (Nat.le_trans (pop_or1 (by omega) (by omega)) hp), dS_or, nI_add]
      have cs : dS z s k = true := (dS_t (by omega)).mpr (fun q => c (or_same.mpr q))
      have ee : (if nI best < nI (G t k + Ev G rd z r t (wS (dS z s) k)) then nI (G t k + Ev G rd z r t (wS (dS z s) k)) else nI best) = nI (max best (G t k + Ev G rd z r t (wS (dS z s) k))) := by
        by_cases l : best < G t k + Ev G rd z r t (wS (dS z s) k)
        · rw [if_pos (nI_lt l (by omega)), Nat.max_eq_right (by omega)]
        · rw [if_neg (nI_nlt (by omega) (by omega)), Nat.max_eq_left (by omega)]
      rw [ee]
      obtain ⟨v, x, e1, e2, e3⟩ := ih (k + 1) n (max best (G t k + Ev G rd z r t (wS (dS z s) k))) kx (by omega) (by omega) (by omega)
      refine ⟨v, x, e1, e2, fun u => (e3 u).trans ⟨fun h => ⟨by have := h.1; omega, fun k' q1 q2 q3 => ?_⟩, fun h => ⟨Nat.max_le.mpr ⟨h.1, h.2 k (Nat.le_refl _) (by omega) cs⟩, fun k' q1 => h.2 k' (by omega)⟩⟩⟩
      by_cases e : k' = k
      · subst e; have := h.1; omega
      · exact h.2 k' (by omega) q2 q3
theorem bs_eq (hz : z ≤ 8) (hG : ∀ t k, G t k ≤ 100) {N : xM} (hk : kG G rd z N) {r d t s : Nat} (h5 : r ≤ 6) (hc : c22 G rd z r d N) (ht : t < 6) (hs : s < 2 ^ z) (hp : pop s + 1 ≤ d) : f_X3_bestSale (nI t) (nI s) N = nI (Wv G rd z (r + 1) t (dS z s)) := by
  have p8 := p2_8 hz
  have eb := Ev_b (rd := rd) (z := z) hG r t (dS z s)
  obtain ⟨v, x, e1, e2, e3⟩ := bs16 hz hG hk h5 hc ht hs hp z 0 (xmu (0 : Int32) (nI z) + 1) (Ev G rd z r t (dS z s)) (fun best_9 place_10 => best_9) (by omega) (by unfold xmu; rw [nI_toInt (by omega)]; simp) (by omega)
  unfold f_X3_bestSale
  rw [xlet_p, ix256 ht (by omega), hc t s ht hs (by omega), hk.1]
  refine e1.trans ?_
  have e : v = Wv G rd z (r + 1) t (dS z s) := by
    refine eqle (fun u => ?_)
    rw [e3 u, Wv_ev ht]
    exact ⟨fun h => ⟨h.1, fun k hk hS => h.2 k (Nat.zero_le _) hk hS⟩, fun h => ⟨h.1, fun k _ hk hS => h.2 k hk hS⟩⟩
  rw [e]
theorem bm6 (hz : z ≤ 8) (hG : ∀ t k, G t k ≤ 100) {N : xM} (hk : kG G rd z N) {r d t s : Nat} (h5 : r ≤ 6) (h0 : ¬ r = 0) (hc : c21 G rd z r d N) (ht : t < 6) (hs : s < 2 ^ z) (hp : pop s ≤ d) : ∀ (m to n best : Nat) (kx : Int32 → Int32 → Int32), to + m = 6 → m < n → best ≤ 700 → ∃ v x, f_X3_bestMove_L6 (nI t) (nI s) N n (nI best) (nI to) kx = kx (nI v) x ∧ v ≤ 700 ∧ ∀ u, v ≤ u ↔ best ≤ u ∧ ∀ to', to ≤ to' → to' < 6 → alw rd r t to' = true → Wv G rd z r to' (dS z s) ≤ u := by
  have p8 := p2_8 hz
  intro m
  induction m with
  | zero =>
    intro to n best kx h1 h2 h3
    obtain ⟨n, rfl⟩ : ∃ k, n = k + 1 := ⟨n - 1, by omega⟩
    rw [f_X3_bestMove_L6, if_pos (show (6 : Int32) ≤ nI to from nI_le (a := 6) (by omega) (by omega))]
    exact ⟨best, _, rfl, h3, fun u => ⟨fun h => ⟨h, fun k' q1 q2 => by omega⟩, fun h => h.1⟩⟩
  | succ m ih =>
    intro to n best kx h1 h2 h3
    obtain ⟨n, rfl⟩ : ∃ k, n = k + 1 := ⟨n - 1, by omega⟩
    have wb := Wv_b (rd := rd) (z := z) hG r to (dS z s)
    have ee : (if nI best < nI (Wv G rd z r to (dS z s)) then nI (Wv G rd z r to (dS z s)) else nI best) = nI (max best (Wv G rd z r to (dS z s))) := by
      by_cases l : best < Wv G rd z r to (dS z s)
      · rw [if_pos (nI_lt l (by omega)), Nat.max_eq_right (by omega)]
      · rw [if_neg (nI_nlt (by omega) (by omega)), Nat.max_eq_left (by omega)]
    have hr := hk.2.2.2 t to ht (show to < 6 by omega)
    rw [f_X3_bestMove_L6, if_neg (show ¬ (6 : Int32) ≤ nI to from nI_ge (b := 6) (by omega) (by decide))]
    unfold f_X5_milesBetween
    simp only [xlet_p, nI_1, ix256 (show to < 6 by omega) (show s ≤ 256 by omega), hc to s (show to < 6 by omega) hs hp, ee, i6 ht (show to < 6 by omega), nI_eq (show to < 2 ^ 31 by omega) (show t < 2 ^ 31 by omega)]
    have yes : alw rd r t to = true → ∃ v x, f_X3_bestMove_L6 (nI t) (nI s) N n (nI (max best (Wv G rd z r to (dS z s)))) (nI (to + 1)) kx = kx (nI v) x ∧ v ≤ 700 ∧ ∀ u, v ≤ u ↔ best ≤ u ∧ ∀ to', to ≤ to' → to' < 6 → alw rd r t to' = true → Wv G rd z r to' (dS z s) ≤ u := by
      intro c
      obtain ⟨v, x, e1, e2, e3⟩ := ih (to + 1) n (max best (Wv G rd z r to (dS z s))) kx (by omega) (by omega) (by omega)
      refine ⟨v, x, e1, e2, fun u => (e3 u).trans ⟨fun h => ⟨by have := h.1; omega, fun k' q1 q2 q3 => ?_⟩, fun h => ⟨Nat.max_le.mpr ⟨h.1, h.2 to (Nat.le_refl _) (by omega) c⟩, fun k' q1 => h.2 k' (by omega)⟩⟩⟩
      by_cases e : k' = to
      · subst e; have := h.1; omega
      · exact h.2 k' (by omega) q2 q3
    by_cases c : to = t
    · rw [if_pos c]; exact yes (by rw [c]; exact alw_s r t)
    · rw [if_neg c]
      by_cases d : N 13 0 (6 * t + to) ≤ 0
      · rw [if_pos d]
        have d' : ¬ 0 < N 13 0 (6 * t + to) := Int32.not_lt.mpr d
        have na : ¬ alw rd r t to = true := by simp [alw, hr, d', Ne.symm c]
        obtain ⟨v, x, e1, e2, e3⟩ := ih (to + 1) n best kx (by omega) (by omega) h3
        refine ⟨v, x, e1, e2, fun u => (e3 u).trans ⟨fun h => ⟨h.1, fun k' q1 q2 q3 => ?_⟩, fun h => ⟨h.1, fun k' q1 => h.2 k' (by omega)⟩⟩⟩
        by_cases e : k' = to
        · subst e; exact absurd q3 na
        · exact h.2 k' (by omega) q2 q3
      · rw [if_neg d]
        have d' : 0 < N 13 0 (6 * t + to) := Int32.not_le.mp d
        exact yes (by simp [alw, hr, d', h0])
theorem bm_eq (hz : z ≤ 8) (hG : ∀ t k, G t k ≤ 100) {N : xM} (hk : kG G rd z N) {r d t s : Nat} (h5 : r ≤ 6) (h0 : ¬ r = 0) (hc : c21 G rd z r d N) (ht : t < 6) (hs : s < 2 ^ z) (hp : pop s ≤ d) : f_X3_bestMove (nI t) (nI s) N = nI (Ev G rd z r t (dS z s)) := by
  obtain ⟨v, x, e1, e2, e3⟩ := bm6 hz hG hk h5 h0 hc ht hs hp 6 0 (xmu (0 : Int32) 6 + 1) 0 (fun best_10 to_11 => best_10) (by omega) (by decide) (by omega)
  unfold f_X3_bestMove
  refine e1.trans ?_
  have e : v = Ev G rd z r t (dS z s) := by
    refine eqle (fun u => ?_)
    rw [e3 u, Ev_le]
    exact ⟨fun h to q1 q2 => h.2 to (Nat.zero_le _) q1 q2, fun h => ⟨Nat.zero_le _, fun to _ q1 q2 => h to q1 q2⟩⟩
  rw [e]
end WAY4
