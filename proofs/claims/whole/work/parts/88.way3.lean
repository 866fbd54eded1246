/-! way: the reference's table, filled -/
section WAY3
variable {G : Nat → Nat → Nat} {rd : Nat → Nat → Bool} {z : Nat} {B : xM}
theorem w188 (town sh i zz days what why : Int32) : ∀ (m k n : Nat) (N : xM) (kx : Int32 → xM → Int32 × xM), k + m = 1536 → m < n → xfr 97 B N → (∀ j, j < k → N 97 0 j = 0) → ∃ N' x, f_X11_way_L188 town sh i zz days what why n (nI k) N kx = kx x N' ∧ xfr 97 B N' ∧ ∀ j, j < 1536 → N' 97 0 j = 0 := by
  intro m
  induction m with
  | zero =>
    intro k n N kx h1 h2 hf h3
    obtain ⟨n, rfl⟩ : ∃ k, n = k + 1 := ⟨n - 1, by omega⟩
    rw [f_X11_way_L188, if_pos (show (1536 : Int32) ≤ nI k from nI_le (a := 1536) (by omega) (by omega))]
    exact ⟨N, _, rfl, hf, fun j hj => h3 j (by omega)⟩
  | succ m ih =>
    intro k n N kx h1 h2 hf h3
    obtain ⟨n, rfl⟩ : ∃ k, n = k + 1 := ⟨n - 1, by omega⟩
    rw [f_X11_way_L188, if_neg (show ¬ (1536 : Int32) ≤ nI k from nI_ge (b := 1536) (by omega) (by decide))]
    simp only [xlet_p, nI_1, nI_clamp (show k < 2 ^ 31 by omega)]
    refine ih (k + 1) n _ kx (by omega) (by omega) (xfr_up hf) (fun j hj => ?_)
    by_cases d : j = k
    · subst d; exact xup_same
    · rw [xup_j d]; exact h3 j (by omega)
def dn97 (G : Nat → Nat → Nat) (rd : Nat → Nat → Bool) (z r t s : Nat) (N : xM) : Prop := ∀ t' s', t' < 6 → s' < 2 ^ z → (t' < t ∨ t' = t ∧ s' < s) → N 97 0 (1536 * (r + 1) + 256 * t' + s') = nI (Wv G rd z (r + 1) t' s'.testBit)
theorem w233 (town sh i days what why : Int32) (hz : z ≤ 8) (hr : ∀ t to, t < 6 → to < 6 → rd t to = decide (0 < B 55 0 (6 * t + to))) (hg : ∀ t k, t < 6 → k < z → f_X11_brings (nI k) (nI t) B = nI (G t k)) (hG : ∀ t k, G t k ≤ 100) {r : Nat} (h5 : r ≤ 6) {t : Nat} (ht : t < 6) : ∀ (m s n : Nat) (N : xM) (kx : Int32 → xM → Int32 × xM), s + m = 2 ^ z → m < n → xfr 97 B N → cl97 G rd z r N → dn97 G rd z r t s N → ∃ N' x, f_X11_way_L233 town sh i (nI z) days what why (nI (r + 1)) (nI t) n (nI s) N kx = kx x N' ∧ xfr 97 B N' ∧ cl97 G rd z r N' ∧ dn97 G rd z r (t + 1) 0 N' := by
  have p8 := p2_8 hz
  intro m
  induction m with
  | zero =>
    intro s n N kx h1 h2 hf hc hd
    obtain ⟨n, rfl⟩ : ∃ k, n = k + 1 := ⟨n - 1, by omega⟩
    rw [f_X11_way_L233, shl_32 (by omega), if_pos (nI_le (by omega) (by omega))]
    exact ⟨N, _, rfl, hf, hc, fun t' s' q1 q2 q3 => hd t' s' q1 q2 (by omega)⟩
  | succ m ih =>
    intro s n N kx h1 h2 hf hc hd
    obtain ⟨n, rfl⟩ : ∃ k, n = k + 1 := ⟨n - 1, by omega⟩
    rw [f_X11_way_L233, shl_32 (by omega), if_neg (nI_ge (by omega) (by omega))]
    obtain ⟨x, e⟩ := w248v town sh i days what why hz hr hg hG hf h5 hc (show s < 2 ^ z by omega) ht (fun best_38 k_39 => xlet (xup N 97 0 (((1536 * nI (r + 1)) + (256 * nI t)) + nI s).toNatClampNeg best_38) fun M_40 => xlet (nI s + 1) fun x10_41 => f_X11_way_L233 town sh i (nI z) days what why (nI (r + 1)) (nI t) n x10_41 M_40 kx)
    rw [e]
    simp only [xlet_p, nI_1]
    rw [nI_m 1536 (r + 1) 1536 rfl, nI_m 256 t 256 rfl, nI_add, nI_add, nI_clamp (by omega)]
    refine ih (s + 1) n _ kx (by omega) (by omega) (xfr_up hf) (fun to s' q1 q2 => ?_) (fun t' s' q1 q2 q3 => ?_)
    · rw [xup_j (by omega)]; exact hc to s' q1 q2
    · by_cases d : t' = t ∧ s' = s
      · obtain ⟨rfl, rfl⟩ := d; exact xup_same
      · rw [xup_j (by omega)]; exact hd t' s' q1 q2 (by omega)
theorem w223 (town sh i days what why : Int32) (hz : z ≤ 8) (hr : ∀ t to, t < 6 → to < 6 → rd t to = decide (0 < B 55 0 (6 * t + to))) (hg : ∀ t k, t < 6 → k < z → f_X11_brings (nI k) (nI t) B = nI (G t k)) (hG : ∀ t k, G t k ≤ 100) {r : Nat} (h5 : r ≤ 6) : ∀ (m t n : Nat) (N : xM) (kx : Int32 → xM → Int32 × xM), t + m = 6 → m < n → xfr 97 B N → cl97 G rd z r N → dn97 G rd z r t 0 N → ∃ N' x, f_X11_way_L223 town sh i (nI z) days what why (nI (r + 1)) n (nI t) N kx = kx x N' ∧ xfr 97 B N' ∧ cl97 G rd z (r + 1) N' ∧ cl97 G rd z r N' := by
  have p8 := p2_8 hz
  intro m
  induction m with
  | zero =>
    intro t n N kx h1 h2 hf hc hd
    obtain ⟨n, rfl⟩ : ∃ k, n = k + 1 := ⟨n - 1, by omega⟩
    rw [f_X11_way_L223, if_pos (show (6 : Int32) ≤ nI t from nI_le (a := 6) (by omega) (by omega))]
    exact ⟨N, _, rfl, hf, fun to s q1 q2 => hd to s q1 q2 (by omega), hc⟩
  | succ m ih =>
    intro t n N kx h1 h2 hf hc hd
    obtain ⟨n, rfl⟩ : ∃ k, n = k + 1 := ⟨n - 1, by omega⟩
    rw [f_X11_way_L223, if_neg (show ¬ (6 : Int32) ≤ nI t from nI_ge (b := 6) (by omega) (by decide)), shl_32 (by omega)]
    simp only [xlet_p, nI_1]
    obtain ⟨N', x, e1, e2, e3, e4⟩ := w233 town sh i days what why hz hr hg hG h5 (show t < 6 by omega) (2 ^ z) 0 (xmu (0 : Int32) (nI (2 ^ z)) + 1) N (fun set__43 M_44 => f_X11_way_L223 town sh i (nI z) days what why (nI (r + 1)) n (nI (t + 1)) M_44 kx) (by omega) (by unfold xmu; rw [nI_toInt (by omega), show (0 : Int32).toInt = 0 from rfl]; omega) hf hc hd
    obtain ⟨N2, x2, f1, f2⟩ := ih (t + 1) n N' kx (by omega) (by omega) e2 e3 e4
    exact ⟨N2, x2, e1.trans f1, f2⟩
theorem w213 (town sh i what why : Int32) (hz : z ≤ 8) (hr : ∀ t to, t < 6 → to < 6 → rd t to = decide (0 < B 55 0 (6 * t + to))) (hg : ∀ t k, t < 6 → k < z → f_X11_brings (nI k) (nI t) B = nI (G t k)) (hG : ∀ t k, G t k ≤ 100) {days : Nat} (h6 : days ≤ 6) : ∀ (m d n : Nat) (N : xM) (kx : Int32 → xM → Int32 × xM), d + m = days → m < n → xfr 97 B N → cl97 G rd z d N → (0 < d → cl97 G rd z (d - 1) N) → ∃ N' x, f_X11_way_L213 town sh i (nI z) (nI days) what why n (nI (d + 1)) N kx = kx x N' ∧ xfr 97 B N' ∧ cl97 G rd z days N' ∧ (0 < days → cl97 G rd z (days - 1) N') := by
  have p8 := p2_8 hz
  intro m
  induction m with
  | zero =>
    intro d n N kx h1 h2 hf hc hc'
    obtain ⟨n, rfl⟩ : ∃ k, n = k + 1 := ⟨n - 1, by omega⟩
    rw [f_X11_way_L213, if_pos (nI_lt (by omega) (by omega))]
    obtain rfl : d = days := by omega
    exact ⟨N, _, rfl, hf, hc, hc'⟩
  | succ m ih =>
    intro d n N kx h1 h2 hf hc hc'
    obtain ⟨n, rfl⟩ : ∃ k, n = k + 1 := ⟨n - 1, by omega⟩
    rw [f_X11_way_L213, if_neg (nI_nlt (by omega) (by omega))]
    simp only [xlet_p, nI_1]
    obtain ⟨N', x, e1, e2, e3, e4⟩ := w223 town sh i (nI days) what why hz hr hg hG (show d ≤ 6 by omega) 6 0 (xmu (0 : Int32) 6 + 1) N (fun t_47 M_48 => f_X11_way_L213 town sh i (nI z) (nI days) what why n (nI (d + 1 + 1)) M_48 kx) (by omega) (by decide) hf hc (fun t' s' q1 q2 q3 => by omega)
    obtain ⟨N2, x2, f1, f2⟩ := ih (d + 1) n N' kx (by omega) (by omega) e2 e3 (fun _ => e4)
    exact ⟨N2, x2, e1.trans f1, f2⟩
/-! the first way that brings the most -/
def fst1 (V : Nat → Nat → Nat) (al : Nat → Bool) (z a b : Nat) : Prop := a < 6 ∧ b ≤ z ∧ al a = true ∧ (∀ a' b', a' < 6 → b' ≤ z → al a' = true → V a' b' ≤ V a b) ∧ ∀ a' b', a' < 6 → b' ≤ z → al a' = true → (a' < a ∨ a' = a ∧ b' < b) → V a' b' < V a b
def cdW (z a b : Nat) : Int32 := if b = z then 16 * nI a + 15 else 16 * nI a + nI b
theorem w438 (sh i what why : Int32) {N : xM} (hz : z ≤ 8) (hr : ∀ t to, t < 6 → to < 6 → rd t to = decide (0 < B 55 0 (6 * t + to))) (hg : ∀ t k, t < 6 → k < z → f_X11_brings (nI k) (nI t) B = nI (G t k)) (hG : ∀ t k, G t k ≤ 100) (hf : xfr 97 B N) {r : Nat} (h5 : r ≤ 6) (hc : cl97 G rd z r N) {s t to a b : Nat} (hs : s < 2 ^ z) (ht : t < 6) (hto : to < 6) (hm : fst1 (fun a b => wgv G rd z r t s.testBit b a) (alw rd r t) z a b) (kx : Int32 → Int32 × xM) : ∀ (m k n : Nat), k + m = z + 1 → m < n → (to < a ∨ to = a ∧ k ≤ b) → (to < a → ∃ x, f_X11_way_L438 (nI t) sh i (nI z) (nI (r + 1)) what why (nI s) (nI (wgv G rd z r t s.testBit b a)) (nI to) N n (nI k) kx = kx x) ∧ (to = a → f_X11_way_L438 (nI t) sh i (nI z) (nI (r + 1)) what why (nI s) (nI (wgv G rd z r t s.testBit b a)) (nI to) N n (nI k) kx = (cdW z a b, N)) := by
  obtain ⟨a6, bz, ala, mx, fs⟩ := hm
  have gb := fun k to => wgv_b (rd := rd) (z := z) hG r t s.testBit k to
  intro m
  induction m with
  | zero =>
    intro k n h1 h2 h3
    obtain ⟨n, rfl⟩ : ∃ k, n = k + 1 := ⟨n - 1, by omega⟩
    rw [f_X11_way_L438, if_pos (nI_lt (by omega) (by omega))]
    exact ⟨fun _ => ⟨_, rfl⟩, fun q => by omega⟩
  | succ m ih =>
    intro k n h1 h2 h3
    obtain ⟨n, rfl⟩ : ∃ k, n = k + 1 := ⟨n - 1, by omega⟩
    have g1 := gb k to
    have g2 := gb b a
    rw [f_X11_way_L438, if_neg (nI_nlt (by omega) (by omega))]
    simp only [xlet_p, xb_0, mg_eq hr hf ht hto h5, gb_eq hz hg hf h5 hc hs ht (show k ≤ z by omega) hto, nI_1, nI_eq (show wgv G rd z r t s.testBit k to < 2 ^ 31 by omega) (show wgv G rd z r t s.testBit b a < 2 ^ 31 by omega), nI_eq (show k < 2 ^ 31 by omega) (show z < 2 ^ 31 by omega)]
    by_cases c : alw rd r t to = false
    · rw [if_pos c]
      exact ih (k + 1) n (by omega) (by omega) (by
        rcases h3 with h3 | ⟨h3, h4⟩
        · exact Or.inl h3
        · subst h3; rw [c] at ala; exact absurd ala (by decide))
    · rw [if_neg c]
      have c' : alw rd r t to = true := by cases q : alw rd r t to <;> simp_all
      by_cases d : to = a ∧ k = b
      · obtain ⟨rfl, rfl⟩ := d
        rw [if_pos rfl]
        refine ⟨fun q => by omega, fun _ => ?_⟩
        unfold cdW
        split <;> rfl
      · have l := fs to k hto (by omega) c' (by omega)
        dsimp only at l
        rw [if_neg (by omega)]
        exact ih (k + 1) n (by omega) (by omega) (by omega)
theorem w428 (sh i what why : Int32) {N : xM} (hz : z ≤ 8) (hr : ∀ t to, t < 6 → to < 6 → rd t to = decide (0 < B 55 0 (6 * t + to))) (hg : ∀ t k, t < 6 → k < z → f_X11_brings (nI k) (nI t) B = nI (G t k)) (hG : ∀ t k, G t k ≤ 100) (hf : xfr 97 B N) {r : Nat} (h5 : r ≤ 6) (hc : cl97 G rd z r N) {s t a b : Nat} (hs : s < 2 ^ z) (ht : t < 6) (hm : fst1 (fun a b => wgv G rd z r t s.testBit b a) (alw rd r t) z a b) (kx : Int32 → Int32 × xM) : ∀ (m to n : Nat), to + m = 6 → m < n → to ≤ a → f_X11_way_L428 (nI t) sh i (nI z) (nI (r + 1)) what why (nI s) (nI (wgv G rd z r t s.testBit b a)) N n (nI to) kx = (cdW z a b, N) := by
  have a6 := hm.1
  intro m
  induction m with
  | zero => intro to n h1 h2 h3; omega
  | succ m ih =>
    intro to n h1 h2 h3
    obtain ⟨n, rfl⟩ : ∃ k, n = k + 1 := ⟨n - 1, by omega⟩
    rw [f_X11_way_L428, if_neg (show ¬ (6 : Int32) ≤ nI to from nI_ge (b := 6) (by omega) (by decide))]
    simp only [xlet_p, nI_1]
    obtain ⟨e1, e2⟩ := w438 sh i what why hz hr hg hG hf h5 hc hs ht (show to < 6 by omega) hm (fun k_10 => f_X11_way_L428 (nI t) sh i (nI z) (nI (r + 1)) what why (nI s) (nI (wgv G rd z r t s.testBit b a)) N n (nI (to + 1)) kx) (z + 1) 0 (xmu (0 : Int32) (nI (z + 1)) + 1) (by omega) (by unfold xmu; rw [nI_toInt (by omega)]; simp) (by omega)
    by_cases c : to = a
    · exact e2 c
    · obtain ⟨x, e⟩ := e1 (by omega)
      exact e.trans (ih (to + 1) n (by omega) (by omega) (by omega))
end WAY3
