/-! what the books say, on both sides -/
def jkE (M N : xM) : Prop := ∀ a b c : Nat, ¬ jk a b c → N a b c = M a b c
theorem jkE_rf (M : xM) : jkE M M := fun _ _ _ _ => rfl
theorem jkE_thr {M N : xM} {v : Int32} (e : jkE M N) : jkE M (xup N 40 0 0 v) := fun a b c q => by
  rw [xup_at, if_neg (fun h => q (by unfold jk; omega))]; exact e a b c q
theorem jkE_56 {M N K : xM} (e : jkE M N) (h : ∀ a b c : Nat, ¬ a = 56 → K a b c = N a b c) : jkE M K := fun a b c q => by
  rw [h a b c (fun z => q (by unfold jk; omega))]; exact e a b c q
theorem jkE.row {M N : xM} (e : jkE M N) (a : Nat) (h : ¬ (a = 6 ∨ a = 9 ∨ a = 11 ∨ a = 20 ∨ a = 21 ∨ a = 22 ∨ a = 56 ∨ a = 97 ∨ a = 98 ∨ a = 5 ∨ a = 40)) : N a = M a := by
  funext b c
  exact e a b c (fun q => h (by unfold jk at q; omega))
theorem jkE.c40 {M N : xM} (e : jkE M N) (c : Nat) (h : ¬ (c = 0 ∨ c = 19 ∨ 23 ≤ c ∧ c ≤ 29)) : N 40 0 c = M 40 0 c := e 40 0 c (fun q => h (by unfold jk at q; omega))
theorem isKnown_eq (i wd bk nw : Int32) (M : xM) : f_X2_isKnown i wd bk nw M = decide (M 15 0 i.toNatClampNeg = wd ∧ M 17 0 i.toNatClampNeg = bk ∧ M 16 0 i.toNatClampNeg ≤ nw) := by
  unfold f_X2_isKnown; grind
def lst (K15 K16 K17 : Nat → Int32) (wd bk nw : Int32) : Nat → Nat → Option Nat → Option Nat
  | 0, _, o => o
  | m + 1, i, o => lst K15 K16 K17 wd bk nw m (i + 1) (if (K15 i = wd ∧ K17 i = bk ∧ K16 i ≤ nw) ∧ xopt o true (fun j => decide (K16 j ≤ K16 i)) = true then some i else o)
theorem latL (wd bk nw : Int32) (M : xM) (sz : Nat) (hs : M 4 0 4 = nI sz) (h40 : sz ≤ 40) (hk : ∀ k : Nat, k < sz → 0 ≤ M 16 0 k) : ∀ (m i n : Nat) (o : Option Nat) (kx : Int32 → Int32 → Int32 → Int32), i + m = sz → m < n → f_X2_latest_L10 wd bk nw M n (xopt o (-1000000) (M 18 0)) (xopt o (-1) (M 16 0)) (nI i) kx = kx (xopt (lst (M 15 0) (M 16 0) (M 17 0) wd bk nw m i o) (-1000000) (M 18 0)) (xopt (lst (M 15 0) (M 16 0) (M 17 0) wd bk nw m i o) (-1) (M 16 0)) (nI sz) := by
  intro m
  induction m with
  | zero =>
    intro i n o kx h1 h2
    obtain ⟨n, rfl⟩ : ∃ k, n = k + 1 := ⟨n - 1, by omega⟩
    obtain rfl : i = sz := by omega
    rw [f_X2_latest_L10, hs, if_pos (nI_le (Nat.le_refl _) (by omega)), lst]
  | succ m ih =>
    intro i n o kx h1 h2
    obtain ⟨n, rfl⟩ : ∃ k, n = k + 1 := ⟨n - 1, by omega⟩
    have hi := hk i (by omega)
    rw [f_X2_latest_L10, hs, if_neg (nI_ge (by omega) (by omega)), lst]
    simp only [xlet_p, isKnown_eq, nI_clamp (show i < 2 ^ 31 by omega), nI_1]
    have i1 := ih (i + 1) n o kx (by omega) (by omega)
    have i2 := ih (i + 1) n (some i) kx (by omega) (by omega)
    simp only [xopt] at i1 i2 ⊢
    by_cases c : M 15 0 i = wd ∧ M 17 0 i = bk ∧ M 16 0 i ≤ nw
    · cases o with
      | none =>
        have : ¬ M 16 0 i < -1 := by grind
        simp only [xb, c] at i2 ⊢
        simp [this]
        exact i2
      | some j =>
        by_cases c2 : M 16 0 i < M 16 0 j
        · have c3 : ¬ M 16 0 j ≤ M 16 0 i := by grind
          simp only [xb, c] at i1 ⊢
          simp [c2, c3]
          exact i1
        · have c3 : M 16 0 j ≤ M 16 0 i := by grind
          simp only [xb, c] at i2 ⊢
          simp [c2, c3]
          exact i2
    · simp only [xb, c]
      simp
      exact i1
theorem saidL (town w b what till : Int32) (N : xM) (K15 K16 K17 : Nat → Int32) (sz : Nat) (hs : N 40 0 14 = nI sz) (h40 : sz ≤ 40) (hk : ∀ k : Nat, k < sz → N 65 0 k = K16 k ∧ N 66 0 k = K15 k ∧ N 67 0 k = K17 k) : ∀ (m i n : Nat) (o : Option Nat) (kx : Int32 → Int32 → Int32 × xM), i + m = sz → m < n → (∀ j, o = some j → j < i) → f_X11_saidOf_L15 town w b what till N n (xopt o (-1000000) nI) (nI i) kx = kx (xopt (lst K15 K16 K17 what b till m i o) (-1000000) nI) (nI sz) ∧ ∀ j, lst K15 K16 K17 what b till m i o = some j → j < sz := by
  intro m
  induction m with
  | zero =>
    intro i n o kx h1 h2 h3
    obtain ⟨n, rfl⟩ : ∃ k, n = k + 1 := ⟨n - 1, by omega⟩
    obtain rfl : i = sz := by omega
    rw [f_X11_saidOf_L15, hs, if_pos (nI_le (Nat.le_refl _) (by omega)), lst]
    exact ⟨rfl, h3⟩
  | succ m ih =>
    intro i n o kx h1 h2 h3
    obtain ⟨n, rfl⟩ : ∃ k, n = k + 1 := ⟨n - 1, by omega⟩
    obtain ⟨k1, k2, k3⟩ := hk i (by omega)
    rw [f_X11_saidOf_L15, hs, if_neg (nI_ge (by omega) (by omega)), lst]
    simp only [xlet_p, nI_clamp (show i < 2 ^ 31 by omega), nI_1, k1, k2, k3]
    have i1 := ih (i + 1) n o kx (by omega) (by omega) (fun j q => by have := h3 j q; omega)
    have i2 := ih (i + 1) n (some i) kx (by omega) (by omega) (fun j q => by cases q; omega)
    simp only [xopt] at i1 i2 ⊢
    by_cases c : K15 i = what ∧ K17 i = b ∧ K16 i ≤ till
    · have ct : ¬ till < K16 i := by grind
      cases o with
      | none =>
        simp only [c] at i2 ⊢
        simp [ct, c]
        exact i2
      | some j =>
        have hj := h3 j rfl
        have kj := (hk j (by omega)).1
        have hne : ¬ nI j = -1000000 := by have := nI_pos' (n := j) (by omega); grind
        simp only [nI_clamp (show j < 2 ^ 31 by omega), kj]
        by_cases c2 : K16 i < K16 j
        · have c3 : ¬ K16 j ≤ K16 i := by grind
          simp only [c] at i1 ⊢
          simp [ct, c2, c3, hne, c]
          exact i1
        · have c3 : K16 j ≤ K16 i := by grind
          simp only [c] at i2 ⊢
          simp [ct, c2, c3, hne, c]
          exact i2
    · simp only [c]
      by_cases c1 : K15 i = what
      · by_cases c2 : K17 i = b
        · have ct : till < K16 i := by grind
          simp [c1, c2, ct]
          exact i1
        · simp [c1, c2]
          exact i1
      · simp [c1]
        exact i1
section KNOWN
variable {nb nn : Nat} {M N : xM}
theorem nsz {s : Int32} (h0 : 0 ≤ s) (h1 : s ≤ 40) : s = nI s.toNatClampNeg ∧ s.toNatClampNeg ≤ 40 := by
  obtain ⟨k, rfl, hk⟩ := i32_nat_lt (N := 41) (B := 41) h0 (by grind) (by decide)
  rw [nI_clamp (by omega)]
  exact ⟨rfl, by omega⟩
theorem bw_ok (h : INV nb nn M) (e : jkE M N) {t : Nat} (ht : t < 6) (w : Int32) : (f_X11_bookWeek (nI t) w N).1 = f_X10_newestBook (nI t) w M := by
  rw [bookWeek_eq]
  unfold f_X10_newestBook
  simp only [xlet_p, nI_clamp (show t < 2 ^ 31 by omega)]
  rw [show (0 : Int32) = nI 0 from rfl, few_eq h (a := 0) (b := t) (by omega) ht (N 56 0), e.row 55 (by decide)]
theorem said_ok (h : INV nb nn M) (e : jkE M N) {t : Nat} (ht : t < 6) (w b what : Int32) : (f_X11_saidOf (nI t) w b what N).1 = f_X2_latest what b (f_X10_newestBook (nI t) w M) M ∧ jkE M (f_X11_saidOf (nI t) w b what N).2 := by
  refine ⟨?_, jkE_56 e (fun a b c q => said2 q)⟩
  obtain ⟨e1, e2, e3, e4⟩ := h.en
  obtain ⟨z1, z2⟩ := nsz e2 e3
  generalize (M 4 0 4).toNatClampNeg = sz at z1 z2 e4
  have hw := bw_ok h e ht w
  have hN : jkE M (f_X11_bookWeek (nI t) w N).2 := jkE_56 e (fun a b c q => bw2 q)
  unfold f_X11_saidOf f_X2_latest
  simp only [xlet2_p]
  rw [hw]
  generalize (f_X11_bookWeek (nI t) w N).2 = K at hN
  have hK : K 40 0 14 = nI sz := by rw [hN.c40 14 (by omega), e1, z1]
  have r65 := hN.row 65 (by decide); have r66 := hN.row 66 (by decide); have r67 := hN.row 67 (by decide); have r68 := hN.row 68 (by decide)
  have L1 := latL what b (f_X10_newestBook (nI t) w M) M sz z1 z2 (fun k hk => (e4 k hk).2.2.2.2.1) sz 0 (xmu (0 : Int32) (M 4 0 4) + 1) none (fun value_10 lw_11 i_12 => value_10) (by omega) (by rw [z1]; unfold xmu; rw [nI_toInt (by omega)]; simp)
  obtain ⟨L2, L3⟩ := saidL (nI t) w b what (f_X10_newestBook (nI t) w M) K (M 15 0) (M 16 0) (M 17 0) sz hK z2 (fun k hk => by rw [r65, r66, r67]; have := e4 k hk; exact ⟨this.1, this.2.1, this.2.2.1⟩) sz 0 (xmu (0 : Int32) (K 40 0 14) + 1) none (fun best_19 k_20 => if best_19 = (-1000000) then ((-1000000), K) else ((K 68 0 best_19.toNatClampNeg), K)) (by omega) (by rw [hK]; unfold xmu; rw [nI_toInt (by omega)]; simp) (fun j q => by cases q)
  simp only [xopt] at L1 L2
  rw [show nI 0 = (0 : Int32) from rfl] at L1 L2
  rw [L1, L2]
  cases hl : lst (M 15 0) (M 16 0) (M 17 0) what b (f_X10_newestBook (nI t) w M) sz 0 none with
  | none => simp
  | some j =>
    have hj := L3 j hl
    have hne : ¬ nI j = -1000000 := by have := nI_pos' (n := j) (by omega); grind
    simp [hne, nI_clamp (show j < 2 ^ 31 by omega), r68]
    exact (e4 j hj).2.2.2.1
theorem off_ok (h : INV nb nn M) (e : jkE M N) {t : Nat} (ht : t < 6) (w b : Int32) : (f_X11_offOf (nI t) w b N).1 = f_X2_off b (f_X10_newestBook (nI t) w M) M ∧ jkE M (f_X11_offOf (nI t) w b N).2 := by
  obtain ⟨s1, s2⟩ := said_ok h e ht w b 0
  refine ⟨?_, jkE_56 e (fun a b c q => off2 q)⟩
  unfold f_X11_offOf f_X2_off
  simp only [xlet_p, xlet2_p]
  rw [s1]
  split <;> rfl
/-- how many of the first places have p -/
def cntP (p : Nat → Bool) : Nat → Nat → Nat
  | 0, _ => 0
  | m + 1, i => (if p i = true then 1 else 0) + cntP p m (i + 1)
theorem cntP_le (p : Nat → Bool) : ∀ m i, cntP p m i ≤ m := by
  intro m
  induction m with
  | zero => intro i; exact Nat.le_refl _
  | succ m ih => intro i; rw [cntP]; have := ih (i + 1); split <;> omega
def knw (M : xM) (wd bk nw : Int32) (i : Nat) : Bool := decide (M 15 0 i = wd ∧ M 17 0 i = bk ∧ M 16 0 i ≤ nw)
theorem fpL (bk nw : Int32) (M : xM) (sz : Nat) (hs : M 4 0 4 = nI sz) (h40 : sz ≤ 40) : ∀ (m i n z : Nat) (kx : Int32 → Int32 → Int32), i + m = sz → m < n → f_X2_falsePlates_L5 bk nw M n (nI z) (nI i) kx = kx (nI (z + cntP (knw M 1 bk nw) m i)) (nI sz) := by
  intro m
  induction m with
  | zero =>
    intro i n z kx h1 h2
    obtain ⟨n, rfl⟩ : ∃ k, n = k + 1 := ⟨n - 1, by omega⟩
    obtain rfl : i = sz := by omega
    rw [f_X2_falsePlates_L5, hs, if_pos (nI_le (Nat.le_refl _) (by omega)), cntP]
    rfl
  | succ m ih =>
    intro i n z kx h1 h2
    obtain ⟨n, rfl⟩ : ∃ k, n = k + 1 := ⟨n - 1, by omega⟩
    rw [f_X2_falsePlates_L5, hs, if_neg (nI_ge (by omega) (by omega)), cntP]
    simp only [xlet_p, isKnown_eq, nI_clamp (show i < 2 ^ 31 by omega), nI_1]
    have i1 := ih (i + 1) n z kx (by omega) (by omega)
    have i2 := ih (i + 1) n (z + 1) kx (by omega) (by omega)
    by_cases c : M 15 0 i = 1 ∧ M 17 0 i = bk ∧ M 16 0 i ≤ nw
    · have : knw M 1 bk nw i = true := by unfold knw; exact decide_eq_true c
      rw [this, if_pos (show true = true from rfl), ← Nat.add_assoc]
      simp only [xb, c]
      simp
      exact i2
    · have : knw M 1 bk nw i = false := by unfold knw; exact decide_eq_false c
      rw [this, if_neg (show ¬ (false = true) by decide), Nat.zero_add]
      simp only [xb, c]
      simp
      exact i1
def alk (M : xM) (nt : Nat) (i : Nat) : Bool := decide (((M 29 nt 3) ^^^ (M 18 0 i)) &&& ((M 29 nt 4) ^^^ (-1)) = 0)
theorem fp2L (town w b note till : Int32) (M N : xM) (p : Nat → Bool) (sz : Nat) (hs : N 40 0 14 = nI sz) (h40 : sz ≤ 40) (hk : ∀ k : Nat, k < sz → N 65 0 k = M 16 0 k ∧ N 66 0 k = M 15 0 k ∧ N 67 0 k = M 17 0 k ∧ (p k = true ↔ knw M 1 b till k = true ∧ (note = (-1000000) ∨ ((N 83 0 note.toNatClampNeg) ^^^ (N 68 0 k)) &&& ((N 84 0 note.toNatClampNeg) ^^^ (-1)) = 0))) : ∀ (m i n z : Nat) (kx : Int32 → Int32 → Int32 × xM), i + m = sz → m < n → f_X11_falsePlates_L14 town w b note till N n (nI z) (nI i) kx = kx (nI (z + cntP p m i)) (nI sz) := by
  intro m
  induction m with
  | zero =>
    intro i n z kx h1 h2
    obtain ⟨n, rfl⟩ : ∃ k, n = k + 1 := ⟨n - 1, by omega⟩
    obtain rfl : i = sz := by omega
    rw [f_X11_falsePlates_L14, hs, if_pos (nI_le (Nat.le_refl _) (by omega)), cntP]
    rfl
  | succ m ih =>
    intro i n z kx h1 h2
    obtain ⟨n, rfl⟩ : ∃ k, n = k + 1 := ⟨n - 1, by omega⟩
    obtain ⟨k1, k2, k3, k4⟩ := hk i (by omega)
    rw [f_X11_falsePlates_L14, hs, if_neg (nI_ge (by omega) (by omega)), cntP]
    have z0 : nI z + 0 = nI z := by simp
    simp only [xlet_p, nI_clamp (show i < 2 ^ 31 by omega), nI_1, k1, k2, k3, z0]
    have i1 := ih (i + 1) n z kx (by omega) (by omega)
    have i2 := ih (i + 1) n (z + 1) kx (by omega) (by omega)
    unfold knw at k4
    have k5 : p i = false ∨ p i = true := by cases p i <;> simp
    rcases k5 with k5 | k5
    · rw [k5] at k4
      rw [k5, if_neg (show ¬ (false = true) by decide), Nat.zero_add]
      grind
    · rw [k5] at k4
      rw [k5, if_pos (show true = true from rfl), ← Nat.add_assoc]
      grind
theorem fals_ok (h : INV nb nn M) (e : jkE M N) {t : Nat} (ht : t < 6) (w b : Int32) : (f_X11_falsePlates (nI t) w b (-1000000) N).1 = f_X2_falsePlates b (f_X10_newestBook (nI t) w M) M ∧ jkE M (f_X11_falsePlates (nI t) w b (-1000000) N).2 ∧ f_X2_falsePlates b (f_X10_newestBook (nI t) w M) M = nI (cntP (knw M 1 b (f_X10_newestBook (nI t) w M)) (M 4 0 4).toNatClampNeg 0) := by
  obtain ⟨e1, e2, e3, e4⟩ := h.en
  obtain ⟨z1, z2⟩ := nsz e2 e3
  generalize (M 4 0 4).toNatClampNeg = sz at z1 z2 e4
  have hw := bw_ok h e ht w
  have hN : jkE M (f_X11_bookWeek (nI t) w N).2 := jkE_56 e (fun a b c q => bw2 q)
  have r2 : f_X2_falsePlates b (f_X10_newestBook (nI t) w M) M = nI (cntP (knw M 1 b (f_X10_newestBook (nI t) w M)) sz 0) := by
    unfold f_X2_falsePlates
    have := fpL b (f_X10_newestBook (nI t) w M) M sz z1 z2 sz 0 (xmu (0 : Int32) (M 4 0 4) + 1) 0 (fun there_7 i_8 => there_7) (by omega) (by rw [z1]; unfold xmu; rw [nI_toInt (by omega)]; simp)
    rw [show nI 0 = (0 : Int32) from rfl, Nat.zero_add] at this
    exact this
  refine ⟨?_, jkE_56 e (fun a b c q => fals2 q), r2⟩
  rw [r2]
  unfold f_X11_falsePlates
  simp only [xlet2_p]
  rw [hw]
  generalize (f_X11_bookWeek (nI t) w N).2 = K at hN
  have hK : K 40 0 14 = nI sz := by rw [hN.c40 14 (by omega), e1, z1]
  have r65 := hN.row 65 (by decide); have r66 := hN.row 66 (by decide); have r67 := hN.row 67 (by decide)
  have := fp2L (nI t) w b (-1000000) (f_X10_newestBook (nI t) w M) M K (knw M 1 b (f_X10_newestBook (nI t) w M)) sz hK z2 (fun k hk => by rw [r65, r66, r67]; have := e4 k hk; exact ⟨this.1, this.2.1, this.2.2.1, by simp⟩) sz 0 (xmu (0 : Int32) (K 40 0 14) + 1) 0 (fun z_25 k_26 => (z_25, K)) (by omega) (by rw [hK]; unfold xmu; rw [nI_toInt (by omega)]; simp)
  rw [show nI 0 = (0 : Int32) from rfl, Nat.zero_add] at this
  rw [this]
end KNOWN
