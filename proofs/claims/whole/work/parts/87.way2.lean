/-! way: the reference's table -/
section WAY2
variable {G : Nat → Nat → Nat} {rd : Nat → Nat → Bool} {z : Nat} {B N : xM}
theorem mg_eq (hr : ∀ t to, t < 6 → to < 6 → rd t to = decide (0 < B 55 0 (6 * t + to))) (hf : xfr 97 B N) {r t to : Nat} (ht : t < 6) (hto : to < 6) (h5 : r ≤ 6) : f_X11_mayGo (nI (r + 1)) (nI t) (nI to) N = alw rd r t to := by
  unfold f_X11_mayGo
  rw [i6' ht hto, hf 55 0 _ (by decide)]
  simp only [nI_eq (show t < 2 ^ 31 by omega) (show to < 2 ^ 31 by omega)]
  have e1 : nI (r + 1) ≤ 1 ↔ r + 1 ≤ 1 := nI_leI (b := 1) (by omega) (by omega)
  simp only [e1, alw, hr t to ht hto]
  by_cases c : t = to
  · rw [if_pos c]; simp [c]
  · rw [if_neg c]
    by_cases d : r = 0
    · rw [if_pos (by omega)]; simp [c, d]
    · rw [if_neg (by omega)]
      by_cases e : B 55 0 (6 * t + to) ≤ 0
      · rw [if_pos e]
        have : ¬ 0 < B 55 0 (6 * t + to) := Int32.not_lt.mpr e
        simp [c, this]
      · rw [if_neg e]
        have : 0 < B 55 0 (6 * t + to) := Int32.not_le.mp e
        simp [d, this]
def wgv (G : Nat → Nat → Nat) (rd : Nat → Nat → Bool) (z r t : Nat) (S : Nat → Bool) (k to : Nat) : Nat := if k = z then Wv G rd z r to S else G t k + Wv G rd z r to (wS S k)
theorem wgv_b (hG : ∀ t k, G t k ≤ 100) (r t : Nat) (S : Nat → Bool) (k to : Nat) : wgv G rd z r t S k to ≤ 100 + 100 * r := by
  unfold wgv
  split
  · have := Wv_b (rd := rd) (z := z) hG r to S; omega
  · have := Wv_b (rd := rd) (z := z) hG r to (wS S k)
    have := hG t k
    omega
def cl97 (G : Nat → Nat → Nat) (rd : Nat → Nat → Bool) (z r : Nat) (N : xM) : Prop := ∀ to s, to < 6 → s < 2 ^ z → N 97 0 (1536 * r + 256 * to + s) = nI (Wv G rd z r to s.testBit)
theorem gb_eq (hz : z ≤ 8) (hg : ∀ t k, t < 6 → k < z → f_X11_brings (nI k) (nI t) B = nI (G t k)) (hf : xfr 97 B N) {r : Nat} (h5 : r ≤ 6) (hc : cl97 G rd z r N) {s t k to : Nat} (hs : s < 2 ^ z) (ht : t < 6) (hk : k ≤ z) (hto : to < 6) : f_X11_goesBy (nI (r + 1)) (nI s) (nI t) (nI k) (nI z) (nI to) N = nI (wgv G rd z r t s.testBit k to) := by
  have p8 := p2_8 hz
  unfold f_X11_goesBy wgv
  simp only [xlet_p, nI_eq (show k < 2 ^ 31 by omega) (show z < 2 ^ 31 by omega), nI_pred]
  by_cases c : k = z
  · rw [if_pos c, if_pos c, nI_m 1536 r 1536 rfl, nI_m 256 to 256 rfl, nI_add, nI_add, nI_clamp (by omega), hc to s hto hs, Int32.zero_add]
  · rw [if_neg c, if_neg c, clr_n (by omega)]
    have l := clr_le s k
    have hb := hg t k ht (by omega)
    have e : f_X11_brings (nI k) (nI t) N = f_X11_brings (nI k) (nI t) B := by
      unfold f_X11_brings
      rw [hf 98 _ _ (by decide), hf 82 _ _ (by decide), hf 96 _ _ (by decide), hf 81 _ _ (by decide)]
    generalize hq : s &&& (2 ^ 32 - (2 ^ k + 1)) = q at *
    rw [e, hb, nI_m 1536 r 1536 rfl, nI_m 256 to 256 rfl, nI_add, nI_add, nI_clamp (by omega), hc to q hto (by omega), nI_add, ← hq, clr_b (by omega) (by omega)]
/-- where one place is tried in every town -/
theorem w258 (town sh i days what why : Int32) (hz : z ≤ 8) (hr : ∀ t to, t < 6 → to < 6 → rd t to = decide (0 < B 55 0 (6 * t + to))) (hg : ∀ t k, t < 6 → k < z → f_X11_brings (nI k) (nI t) B = nI (G t k)) (hG : ∀ t k, G t k ≤ 100) (hf : xfr 97 B N) {r : Nat} (h5 : r ≤ 6) (hc : cl97 G rd z r N) {s t k : Nat} (hs : s < 2 ^ z) (ht : t < 6) (hk : k ≤ z) (hb : k = z ∨ s.testBit k = true) : ∀ (m to n best : Nat) (kx : Int32 → Int32 → Int32 × xM), to + m = 6 → m < n → best ≤ 700 → ∃ v x, f_X11_way_L258 town sh i (nI z) days what why (nI (r + 1)) (nI t) (nI s) (nI k) N n (nI best) (nI to) kx = kx (nI v) x ∧ v ≤ 700 ∧ ∀ u, v ≤ u ↔ best ≤ u ∧ ∀ to', to ≤ to' → to' < 6 → alw rd r t to' = true → wgv G rd z r t s.testBit k to' ≤ u := by
  have p8 := p2_8 hz
  intro m
  induction m with
  | zero =>
    intro to n best kx h1 h2 h3
    obtain ⟨n, rfl⟩ : ∃ k, n = k + 1 := ⟨n - 1, by omega⟩
    rw [f_X11_way_L258, if_pos (show (6 : Int32) ≤ nI to from nI_le (a := 6) (by omega) (by omega))]
    exact ⟨best, _, rfl, h3, fun u => ⟨fun h => ⟨h, fun to' q1 q2 => by omega⟩, fun h => h.1⟩⟩
  | succ m ih =>
    intro to n best kx h1 h2 h3
    obtain ⟨n, rfl⟩ : ∃ k, n = k + 1 := ⟨n - 1, by omega⟩
    rw [f_X11_way_L258, if_neg (show ¬ (6 : Int32) ≤ nI to from nI_ge (b := 6) (by omega) (by decide))]
    have b0 : (0 : Int32) ≤ nI best := nI_pos' (by omega)
    have gb := wgv_b (rd := rd) (z := z) hG r t s.testBit k to
    simp only [xlet_p, xb_0, mg_eq hr hf ht (show to < 6 by omega) h5, gb_eq hz hg hf h5 hc hs ht hk (show to < 6 by omega), nI_1, if_pos b0, bit_n (show s < 2 ^ 31 by omega) (show k < 32 by omega), nI_leI (show wgv G rd z r t s.testBit k to < 2 ^ 31 by omega) (show best < 2 ^ 31 by omega)]
    have body : ∃ v x, (if alw rd r t to = false then f_X11_way_L258 town sh i (nI z) days what why (nI (r + 1)) (nI t) (nI s) (nI k) N n (nI best) (nI (to + 1)) kx else if wgv G rd z r t s.testBit k to ≤ best then f_X11_way_L258 town sh i (nI z) days what why (nI (r + 1)) (nI t) (nI s) (nI k) N n (nI best) (nI (to + 1)) kx else f_X11_way_L258 town sh i (nI z) days what why (nI (r + 1)) (nI t) (nI s) (nI k) N n (nI (wgv G rd z r t s.testBit k to)) (nI (to + 1)) kx) = kx (nI v) x ∧ v ≤ 700 ∧ ∀ u, v ≤ u ↔ best ≤ u ∧ ∀ to', to ≤ to' → to' < 6 → alw rd r t to' = true → wgv G rd z r t s.testBit k to' ≤ u := by
      by_cases c : alw rd r t to = false
      · rw [if_pos c]
        obtain ⟨v, x, e1, e2, e3⟩ := ih (to + 1) n best kx (by omega) (by omega) h3
        refine ⟨v, x, e1, e2, fun u => (e3 u).trans ⟨fun h => ⟨h.1, fun to' q1 q2 q3 => ?_⟩, fun h => ⟨h.1, fun to' q1 q2 q3 => h.2 to' (by omega) q2 q3⟩⟩⟩
        by_cases d : to' = to
        · subst d; rw [c] at q3; exact absurd q3 (by decide)
        · exact h.2 to' (by omega) q2 q3
      · rw [if_neg c]
        have c' : alw rd r t to = true := by cases q : alw rd r t to <;> simp_all
        by_cases d : wgv G rd z r t s.testBit k to ≤ best
        · rw [if_pos d]
          obtain ⟨v, x, e1, e2, e3⟩ := ih (to + 1) n best kx (by omega) (by omega) h3
          refine ⟨v, x, e1, e2, fun u => (e3 u).trans ⟨fun h => ⟨h.1, fun to' q1 q2 q3 => ?_⟩, fun h => ⟨h.1, fun to' q1 q2 q3 => h.2 to' (by omega) q2 q3⟩⟩⟩
          by_cases d : to' = to
          · subst d; have := h.1; omega
          · exact h.2 to' (by omega) q2 q3
        · rw [if_neg d]
          obtain ⟨v, x, e1, e2, e3⟩ := ih (to + 1) n (wgv G rd z r t s.testBit k to) kx (by omega) (by omega) (by omega)
          refine ⟨v, x, e1, e2, fun u => (e3 u).trans ⟨fun h => ⟨by have := h.1; omega, fun to' q1 q2 q3 => ?_⟩, fun h => ⟨h.2 to (Nat.le_refl _) (by omega) c', fun to' q1 q2 q3 => h.2 to' (by omega) q2 q3⟩⟩⟩
          by_cases d : to' = to
          · subst d; exact h.1
          · exact h.2 to' (by omega) q2 q3
    by_cases c : k = z
    · rw [if_pos (by rw [c])]; exact body
    · rw [if_neg (fun q => c ((nI_eq (by omega) (by omega)).mp q)), if_pos (hb.resolve_left c), if_pos rfl]; exact body
theorem w258n (town sh i days what why : Int32) (hz : z ≤ 8) {day t s k : Nat} (hs : s < 256) (hk : k < z) (hb : s.testBit k = false) (n : Nat) (hn : 0 < n) (best : Int32) (kx : Int32 → Int32 → Int32 × xM) : ∃ x, f_X11_way_L258 town sh i (nI z) days what why (nI day) (nI t) (nI s) (nI k) N n best 0 kx = kx best x := by
  obtain ⟨n, rfl⟩ : ∃ k, n = k + 1 := ⟨n - 1, by omega⟩
  rw [f_X11_way_L258, if_neg (by decide), if_neg (fun q => absurd ((nI_eq (by omega) (by omega)).mp q) (by omega)), bit_n (by omega) (by omega), hb, if_neg (by decide)]
  exact ⟨_, rfl⟩
theorem w248 (town sh i days what why : Int32) (hz : z ≤ 8) (hr : ∀ t to, t < 6 → to < 6 → rd t to = decide (0 < B 55 0 (6 * t + to))) (hg : ∀ t k, t < 6 → k < z → f_X11_brings (nI k) (nI t) B = nI (G t k)) (hG : ∀ t k, G t k ≤ 100) (hf : xfr 97 B N) {r : Nat} (h5 : r ≤ 6) (hc : cl97 G rd z r N) {s t : Nat} (hs : s < 2 ^ z) (ht : t < 6) : ∀ (m k n best : Nat) (kx : Int32 → Int32 → Int32 × xM), k + m = z + 1 → m < n → best ≤ 700 → ∃ v x, f_X11_way_L248 town sh i (nI z) days what why (nI (r + 1)) (nI t) (nI s) N n (nI best) (nI k) kx = kx (nI v) x ∧ v ≤ 700 ∧ ∀ u, v ≤ u ↔ best ≤ u ∧ ∀ k' to', k ≤ k' → k' ≤ z → (k' = z ∨ s.testBit k' = true) → to' < 6 → alw rd r t to' = true → wgv G rd z r t s.testBit k' to' ≤ u := by
  have p8 := p2_8 hz
  intro m
  induction m with
  | zero =>
    intro k n best kx h1 h2 h3
    obtain ⟨n, rfl⟩ : ∃ k, n = k + 1 := ⟨n - 1, by omega⟩
    rw [f_X11_way_L248, if_pos (nI_lt (by omega) (by omega))]
    exact ⟨best, _, rfl, h3, fun u => ⟨fun h => ⟨h, fun k' to' q1 q2 => by omega⟩, fun h => h.1⟩⟩
  | succ m ih =>
    intro k n best kx h1 h2 h3
    obtain ⟨n, rfl⟩ : ∃ k, n = k + 1 := ⟨n - 1, by omega⟩
    rw [f_X11_way_L248, if_neg (fun q => absurd ((nI_ltI (by omega) (by omega)).mp q) (by omega))]
    simp only [xlet_p, nI_1]
    by_cases c : k = z ∨ s.testBit k = true
    · obtain ⟨v, x, e1, e2, e3⟩ := w258 town sh i days what why hz hr hg hG hf h5 hc hs ht (show k ≤ z by omega) c 6 0 (xmu (0 : Int32) 6 + 1) best (fun best_34 to_35 => f_X11_way_L248 town sh i (nI z) days what why (nI (r + 1)) (nI t) (nI s) N n best_34 (nI (k + 1)) kx) rfl (by decide) h3
      obtain ⟨w, y, f1, f2, f3⟩ := ih (k + 1) n v kx (by omega) (by omega) e2
      refine ⟨w, y, e1.trans f1, f2, fun u => (f3 u).trans ?_⟩
      rw [e3 u]
      refine ⟨fun h => ⟨h.1.1, fun k' to' q1 q2 q3 q4 q5 => ?_⟩, fun h => ⟨⟨h.1, fun to' _ q2 q3 => h.2 k to' (Nat.le_refl _) (by omega) c q2 q3⟩, fun k' to' q1 => h.2 k' to' (by omega)⟩⟩
      by_cases d : k' = k
      · subst d; exact h.1.2 to' (Nat.zero_le _) q4 q5
      · exact h.2 k' to' (by omega) q2 q3 q4 q5
    · have cz : ¬ k = z := fun q => c (Or.inl q)
      have cb : s.testBit k = false := by cases q : s.testBit k <;> simp_all
      obtain ⟨x, e1⟩ := w258n (N := N) town sh i days what why hz (day := r + 1) (t := t) (show s < 256 by omega) (show k < z by omega) cb (xmu (0 : Int32) 6 + 1) (by omega) (nI best) (fun best_34 to_35 => f_X11_way_L248 town sh i (nI z) days what why (nI (r + 1)) (nI t) (nI s) N n best_34 (nI (k + 1)) kx)
      obtain ⟨w, y, f1, f2, f3⟩ := ih (k + 1) n best kx (by omega) (by omega) h3
      refine ⟨w, y, e1.trans f1, f2, fun u => (f3 u).trans ⟨fun h => ⟨h.1, fun k' to' q1 q2 q3 q4 q5 => ?_⟩, fun h => ⟨h.1, fun k' to' q1 => h.2 k' to' (by omega)⟩⟩⟩
      by_cases d : k' = k
      · subst d; exact absurd q3 c
      · exact h.2 k' to' (by omega) q2 q3 q4 q5
theorem w248v (town sh i days what why : Int32) (hz : z ≤ 8) (hr : ∀ t to, t < 6 → to < 6 → rd t to = decide (0 < B 55 0 (6 * t + to))) (hg : ∀ t k, t < 6 → k < z → f_X11_brings (nI k) (nI t) B = nI (G t k)) (hG : ∀ t k, G t k ≤ 100) (hf : xfr 97 B N) {r : Nat} (h5 : r ≤ 6) (hc : cl97 G rd z r N) {s t : Nat} (hs : s < 2 ^ z) (ht : t < 6) (kx : Int32 → Int32 → Int32 × xM) : ∃ x, f_X11_way_L248 town sh i (nI z) days what why (nI (r + 1)) (nI t) (nI s) N (xmu (0 : Int32) (nI z + 1) + 1) 0 0 kx = kx (nI (Wv G rd z (r + 1) t s.testBit)) x := by
  obtain ⟨v, x, e1, e2, e3⟩ := w248 town sh i days what why hz hr hg hG hf h5 hc hs ht (z + 1) 0 (xmu (0 : Int32) (nI z + 1) + 1) 0 kx (by omega) (by rw [nI_1]; unfold xmu; rw [nI_toInt (by omega)]; simp) (by omega)
  have e : v = Wv G rd z (r + 1) t s.testBit := by
    refine eqle (fun u => ?_)
    rw [e3 u, Wv_le]
    refine ⟨fun h to q1 q2 => ⟨?_, fun k hk hS => ?_⟩, fun h => ⟨Nat.zero_le _, fun k to q1 q2 q3 q4 q5 => ?_⟩⟩
    · have := h.2 z to (Nat.zero_le _) (Nat.le_refl _) (Or.inl rfl) q1 q2
      rw [wgv, if_pos rfl] at this
      exact this
    · have := h.2 k to (Nat.zero_le _) (by omega) (Or.inr hS) q1 q2
      rw [wgv, if_neg (by omega)] at this
      exact this
    · unfold wgv
      by_cases c : k = z
      · rw [if_pos c]; exact (h to q4 q5).1
      · rw [if_neg c]; exact (h to q4 q5).2 k (by omega) (q3.resolve_left c)
  rw [← e]
  exact ⟨x, e1⟩
end WAY2
