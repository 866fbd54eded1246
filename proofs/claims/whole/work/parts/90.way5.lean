/-! way: the class's mornings and evenings -/
section WAY5
variable {G : Nat → Nat → Nat} {rd : Nat → Nat → Bool} {z : Nat}
theorem kG_21 {M N : xM} (h : kG G rd z M) (e : xfr 21 M N) : kG G rd z N := kG_of h (fun a b c q => e a b c (by omega))
theorem kG_22 {M N : xM} (h : kG G rd z M) (e : xfr 22 M N) : kG G rd z N := kG_of h (fun a b c q => e a b c (by omega))
theorem pm20 (hz : z ≤ 8) (hG : ∀ t k, G t k ≤ 100) (day : Int32) {r d s : Nat} (h5 : r ≤ 6) (hs : s < 2 ^ z) (hp : pop s + 1 ≤ d) : ∀ (m t n : Nat) (N : xM) (kx : Int32 → xM → xM), t + m = 6 → m < n → kG G rd z N → c22 G rd z r d N → ∃ N' x, f_X3_planMornings_L20 day (nI s) n (nI t) N kx = kx x N' ∧ xfr 21 N N' ∧ (∀ t', t ≤ t' → t' < 6 → N' 21 0 (256 * t' + s) = nI (Wv G rd z (r + 1) t' (dS z s))) ∧ ∀ j, (∀ t', t ≤ t' → ¬ j = 256 * t' + s) → N' 21 0 j = N 21 0 j := by
  have p8 := p2_8 hz
  intro m
  induction m with
  | zero =>
    intro t n N kx h1 h2 hk hc
    obtain ⟨n, rfl⟩ : ∃ k, n = k + 1 := ⟨n - 1, by omega⟩
    rw [f_X3_planMornings_L20, if_pos (show (6 : Int32) ≤ nI t from nI_le (a := 6) (by omega) (by omega))]
    exact ⟨N, _, rfl, xfr_rf _ _, fun t' q1 q2 => by omega, fun j _ => rfl⟩
  | succ m ih =>
    intro t n N kx h1 h2 hk hc
    obtain ⟨n, rfl⟩ : ∃ k, n = k + 1 := ⟨n - 1, by omega⟩
    rw [f_X3_planMornings_L20, if_neg (show ¬ (6 : Int32) ≤ nI t from nI_ge (b := 6) (by omega) (by decide)), bs_eq hz hG hk h5 hc (show t < 6 by omega) hs hp]
    simp only [xlet_p, nI_1, ix256 (show t < 6 by omega) (show s ≤ 256 by omega)]
    obtain ⟨N', x, e1, e2, e3, e4⟩ := ih (t + 1) n (xup N 21 0 (256 * t + s) (nI (Wv G rd z (r + 1) t (dS z s)))) kx (by omega) (by omega) (kG_21 hk (xfr_up (xfr_rf _ _))) (fun t' s' q1 q2 q3 => by rw [xup_k (by decide)]; exact hc t' s' q1 q2 q3)
    refine ⟨N', x, e1, fun a b c q => by rw [e2 a b c q, xup_k q], fun t' q1 q2 => ?_, fun j hj => ?_⟩
    · by_cases e : t' = t
      · subst e; rw [e4 _ (fun t'' q => by omega), xup_same]
      · exact e3 t' (by omega) q2
    · rw [e4 j (fun t' q => hj t' (by omega)), xup_j (hj t (Nat.le_refl _))]
theorem pm2' (hz : z ≤ 8) (hG : ∀ t k, G t k ≤ 100) {r d : Nat} (h5 : r ≤ 6) (hd : d ≤ 6) : ∀ (m s n : Nat) (N : xM) (kx : Int32 → xM → xM), s + m = 2 ^ z → m < n → kG G rd z N → c22 G rd z r (d + 1) N → (∀ t' s', t' < 6 → s' < s → pop s' ≤ d → N 21 0 (256 * t' + s') = nI (Wv G rd z (r + 1) t' (dS z s'))) → ∃ N' x, f_X3_planMornings_L2 (nI d) n (nI s) N kx = kx x N' ∧ xfr 21 N N' ∧ c21 G rd z (r + 1) d N' := by
  have p8 := p2_8 hz
  intro m
  induction m with
  | zero =>
    intro s n N kx h1 h2 hk hc h4
    obtain ⟨n, rfl⟩ : ∃ k, n = k + 1 := ⟨n - 1, by omega⟩
    rw [f_X3_planMornings_L2, hk.2.1, if_pos (nI_le (by omega) (by omega))]
    exact ⟨N, _, rfl, xfr_rf _ _, fun t' s' q1 q2 q3 => h4 t' s' q1 (by omega) q3⟩
  | succ m ih =>
    intro s n N kx h1 h2 hk hc h4
    obtain ⟨n, rfl⟩ : ∃ k, n = k + 1 := ⟨n - 1, by omega⟩
    have b8 := wpop8 (s := s) (by omega)
    rw [f_X3_planMornings_L2, hk.2.1, if_neg (nI_ge (by omega) (by omega)), bc_pop N (show s < 256 by omega)]
    simp only [xlet_p, nI_1, nI_ltI (show d < 2 ^ 31 by omega) (show pop s < 2 ^ 31 by omega)]
    by_cases c : d < pop s
    · rw [if_pos c]
      refine ih (s + 1) n N kx (by omega) (by omega) hk hc (fun t' s' q1 q2 q3 => ?_)
      by_cases e : s' = s
      · subst e; omega
      · exact h4 t' s' q1 (by omega) q3
    · rw [if_neg c]
      obtain ⟨N', x, e1, e2, e3, e4⟩ := pm20 hz hG (nI d) h5 (show s < 2 ^ z by omega) (show pop s + 1 ≤ d + 1 by omega) 6 0 (xmu (0 : Int32) 6 + 1) N (fun town_9 M_10 => f_X3_planMornings_L2 (nI d) n (nI (s + 1)) M_10 kx) (by omega) (by decide) hk hc
      obtain ⟨N2, x2, f1, f2, f3⟩ := ih (s + 1) n N' kx (by omega) (by omega) (kG_21 hk e2) (fun t' s' q1 q2 q3 => by rw [e2 22 _ _ (by decide)]; exact hc t' s' q1 q2 q3) (fun t' s' q1 q2 q3 => by
        by_cases e : s' = s
        · subst e; exact e3 t' (Nat.zero_le _) q1
        · rw [e4 _ (fun t'' _ => by omega)]; exact h4 t' s' q1 (by omega) q3)
      exact ⟨N2, x2, e1.trans f1, fun a b c q => by rw [f2 a b c q, e2 a b c q], f3⟩
theorem pm_eq (hz : z ≤ 8) (hG : ∀ t k, G t k ≤ 100) {r d : Nat} (h5 : r ≤ 6) (hd : d ≤ 6) {N : xM} (hk : kG G rd z N) (hc : c22 G rd z r (d + 1) N) : c21 G rd z (r + 1) d (f_X3_planMornings (nI d) N) := by
  have p8 := p2_8 hz
  obtain ⟨N', x, e1, -, e3⟩ := pm2' hz hG h5 hd (2 ^ z) 0 (xmu (0 : Int32) (nI (2 ^ z)) + 1) N (fun sold_12 M_13 => M_13) (by omega) (by unfold xmu; rw [nI_toInt (by omega), show (0 : Int32).toInt = 0 from rfl]; omega) hk hc (fun t' s' _ q => by omega)
  have e : f_X3_planMornings (nI d) N = N' := by
    unfold f_X3_planMornings
    rw [hk.2.1]
    exact e1
  rw [e]; exact e3
theorem pe23 (hz : z ≤ 8) (hG : ∀ t k, G t k ≤ 100) (day : Int32) {r d s : Nat} (h5 : r ≤ 6) (h0 : ¬ r = 0) (hs : s < 2 ^ z) (hp : pop s ≤ d) : ∀ (m t n : Nat) (N : xM) (kx : Int32 → xM → xM), t + m = 6 → m < n → kG G rd z N → c21 G rd z r d N → ∃ N' x, f_X3_planEvenings_L23 day (nI s) n (nI t) N kx = kx x N' ∧ xfr 22 N N' ∧ (∀ t', t ≤ t' → t' < 6 → N' 22 0 (256 * t' + s) = nI (Ev G rd z r t' (dS z s))) ∧ ∀ j, (∀ t', t ≤ t' → ¬ j = 256 * t' + s) → N' 22 0 j = N 22 0 j := by
  have p8 := p2_8 hz
  intro m
  induction m with
  | zero =>
    intro t n N kx h1 h2 hk hc
    obtain ⟨n, rfl⟩ : ∃ k, n = k + 1 := ⟨n - 1, by omega⟩
    rw [f_X3_planEvenings_L23, if_pos (show (6 : Int32) ≤ nI t from nI_le (a := 6) (by omega) (by omega))]
    exact ⟨N, _, rfl, xfr_rf _ _, fun t' q1 q2 => by omega, fun j _ => rfl⟩
  | succ m ih =>
    intro t n N kx h1 h2 hk hc
    obtain ⟨n, rfl⟩ : ∃ k, n = k + 1 := ⟨n - 1, by omega⟩
    rw [f_X3_planEvenings_L23, if_neg (show ¬ (6 : Int32) ≤ nI t from nI_ge (b := 6) (by omega) (by decide)), bm_eq hz hG hk h5 h0 hc (show t < 6 by omega) hs hp]
    simp only [xlet_p, nI_1, ix256 (show t < 6 by omega) (show s ≤ 256 by omega)]
    obtain ⟨N', x, e1, e2, e3, e4⟩ := ih (t + 1) n (xup N 22 0 (256 * t + s) (nI (Ev G rd z r t (dS z s)))) kx (by omega) (by omega) (kG_22 hk (xfr_up (xfr_rf _ _))) (fun t' s' q1 q2 q3 => by rw [xup_k (by decide)]; exact hc t' s' q1 q2 q3)
    refine ⟨N', x, e1, fun a b c q => by rw [e2 a b c q, xup_k q], fun t' q1 q2 => ?_, fun j hj => ?_⟩
    · by_cases e : t' = t
      · subst e; rw [e4 _ (fun t'' q => by omega), xup_same]
      · exact e3 t' (by omega) q2
    · rw [e4 j (fun t' q => hj t' (by omega)), xup_j (hj t (Nat.le_refl _))]
theorem pe2' (hz : z ≤ 8) (hG : ∀ t k, G t k ≤ 100) {r d : Nat} (h5 : r ≤ 6) (h0 : ¬ r = 0) (hd : d ≤ 6) : ∀ (m s n : Nat) (N : xM) (kx : Int32 → xM → xM), s + m = 2 ^ z → m < n → kG G rd z N → c21 G rd z r (d + 1) N → (∀ t' s', t' < 6 → s' < s → pop s' ≤ d + 1 → N 22 0 (256 * t' + s') = nI (Ev G rd z r t' (dS z s'))) → ∃ N' x, f_X3_planEvenings_L2 (nI d) n (nI s) N kx = kx x N' ∧ xfr 22 N N' ∧ c22 G rd z r (d + 1) N' := by
  have p8 := p2_8 hz
  intro m
  induction m with
  | zero =>
    intro s n N kx h1 h2 hk hc h4
    obtain ⟨n, rfl⟩ : ∃ k, n = k + 1 := ⟨n - 1, by omega⟩
    rw [f_X3_planEvenings_L2, hk.2.1, if_pos (nI_le (by omega) (by omega))]
    exact ⟨N, _, rfl, xfr_rf _ _, fun t' s' q1 q2 q3 => h4 t' s' q1 (by omega) q3⟩
  | succ m ih =>
    intro s n N kx h1 h2 hk hc h4
    obtain ⟨n, rfl⟩ : ∃ k, n = k + 1 := ⟨n - 1, by omega⟩
    have b8 := wpop8 (s := s) (by omega)
    rw [f_X3_planEvenings_L2, hk.2.1, if_neg (nI_ge (by omega) (by omega)), bc_pop N (show s < 256 by omega)]
    simp only [xlet_p, nI_1, nI_ltI (show d + 1 < 2 ^ 31 by omega) (show pop s < 2 ^ 31 by omega)]
    by_cases c : d + 1 < pop s
    · rw [if_pos c]
      refine ih (s + 1) n N kx (by omega) (by omega) hk hc (fun t' s' q1 q2 q3 => ?_)
      by_cases e : s' = s
      · subst e; omega
      · exact h4 t' s' q1 (by omega) q3
    · rw [if_neg c]
      obtain ⟨N', x, e1, e2, e3, e4⟩ := pe23 hz hG (nI d) h5 h0 (show s < 2 ^ z by omega) (show pop s ≤ d + 1 by omega) 6 0 (xmu (0 : Int32) 6 + 1) N (fun town_9 M_10 => f_X3_planEvenings_L2 (nI d) n (nI (s + 1)) M_10 kx) (by omega) (by decide) hk hc
      obtain ⟨N2, x2, f1, f2, f3⟩ := ih (s + 1) n N' kx (by omega) (by omega) (kG_22 hk e2) (fun t' s' q1 q2 q3 => by rw [e2 21 _ _ (by decide)]; exact hc t' s' q1 q2 q3) (fun t' s' q1 q2 q3 => by
        by_cases e : s' = s
        · subst e; exact e3 t' (Nat.zero_le _) q1
        · rw [e4 _ (fun t'' _ => by omega)]; exact h4 t' s' q1 (by omega) q3)
      exact ⟨N2, x2, e1.trans f1, fun a b c q => by rw [f2 a b c q, e2 a b c q], f3⟩
theorem pe_eq (hz : z ≤ 8) (hG : ∀ t k, G t k ≤ 100) {r d : Nat} (h5 : r ≤ 6) (h0 : ¬ r = 0) (hd : d ≤ 6) {N : xM} (hk : kG G rd z N) (hc : c21 G rd z r (d + 1) N) : c22 G rd z r (d + 1) (f_X3_planEvenings (nI d) N) := by
  have p8 := p2_8 hz
  obtain ⟨N', x, e1, -, e3⟩ := pe2' hz hG h5 h0 hd (2 ^ z) 0 (xmu (0 : Int32) (nI (2 ^ z)) + 1) N (fun sold_12 M_13 => M_13) (by omega) (by unfold xmu; rw [nI_toInt (by omega), show (0 : Int32).toInt = 0 from rfl]; omega) hk hc (fun t' s' _ q => by omega)
  have e : f_X3_planEvenings (nI d) N = N' := by
    unfold f_X3_planEvenings
    rw [hk.2.1]
    exact e1
  rw [e]; exact e3
theorem pl30 (hz : z ≤ 8) (hG : ∀ t k, G t k ≤ 100) (town zz days : Int32) {D : Nat} (hD : D ≤ 6) : ∀ (d n : Nat) (N : xM) (kx : Int32 → xM → xM), d < n → d + 1 ≤ D → kG G rd z N → c22 G rd z (D - 1 - d) (d + 1) N → ∃ N' x, f_X3_plan_L30 town zz days n (nI d) N kx = kx x N' ∧ (∀ a b c, ¬ a = 21 → ¬ a = 22 → N' a b c = N a b c) ∧ (0 < d → c21 G rd z (D - 1) 1 N') := by
  intro d
  induction d with
  | zero =>
    intro n N kx h1 h2 hk hc
    obtain ⟨n, rfl⟩ : ∃ k, n = k + 1 := ⟨n - 1, by omega⟩
    rw [f_X3_plan_L30, if_pos (by decide)]
    exact ⟨N, _, rfl, fun _ _ _ _ _ => rfl, fun q => by omega⟩
  | succ d ih =>
    intro n N kx h1 h2 hk hc
    obtain ⟨n, rfl⟩ : ∃ k, n = k + 1 := ⟨n - 1, by omega⟩
    have m1 := pm_eq hz hG (show D - 1 - (d + 1) ≤ 6 by omega) (show d + 1 ≤ 6 by omega) hk hc
    have mf := pm_fr (nI (d + 1)) N
    have e0 : ¬ nI (d + 1) ≤ 0 := nI_ge (a := 0) (by omega) (by omega)
    have e1 : nI (d + 1) ≤ 1 ↔ d + 1 ≤ 1 := nI_leI (b := 1) (by omega) (by omega)
    rw [f_X3_plan_L30, if_neg e0]
    simp only [xlet_p, e1, pk_m1, nI_pred]
    by_cases c : d = 0
    · subst c
      rw [if_pos (by omega)]
      obtain ⟨n, rfl⟩ : ∃ k, n = k + 1 := ⟨n - 1, by omega⟩
      rw [f_X3_plan_L30, if_pos (by decide)]
      refine ⟨_, _, rfl, fun a b c q1 q2 => mf a b c q1, fun _ => ?_⟩
      rw [show D - 1 - (0 + 1) + 1 = D - 1 by omega] at m1
      exact m1
    · rw [if_neg (by omega)]
      obtain ⟨d, rfl⟩ : ∃ k, d = k + 1 := ⟨d - 1, by omega⟩
      have mk := kG_21 hk mf
      have p1 := pe_eq hz hG (show D - 1 - (d + 1 + 1) + 1 ≤ 6 by omega) (by omega) (show d + 1 ≤ 6 by omega) mk m1
      have pf := pe_fr (nI (d + 1)) (f_X3_planMornings (nI (d + 1 + 1)) N)
      obtain ⟨N', x, f1, f2, f3⟩ := ih n _ kx (by omega) (by omega) (kG_22 mk pf) (by rw [show D - 1 - (d + 1) = D - 1 - (d + 1 + 1) + 1 by omega]; exact p1)
      exact ⟨N', x, f1, fun a b c q1 q2 => by rw [f2 a b c q1 q2, pf a b c q2, mf a b c q1], fun _ => f3 (by omega)⟩
end WAY5
