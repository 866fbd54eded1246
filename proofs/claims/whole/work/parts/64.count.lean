/-! masks, count -/
def pop (v : Nat) : Nat := cntP (fun j => v.testBit j) 8 0
theorem bc_pop (M : xM) {v : Nat} (hv : v < 256) : f_J6_bitCount_0f7a4 (nI v) M = nI (pop v) := by
  have key : ∀ v : Fin 256, f_J6_bitCount_0f7a4 (nI v) (fun _ _ _ => 0) = nI (pop v) := by decide +kernel
  have e : f_J6_bitCount_0f7a4 (nI v) M = f_J6_bitCount_0f7a4 (nI v) (fun _ _ _ => 0) := by
    unfold f_J6_bitCount_0f7a4
    rfl
  rw [e]
  exact key ⟨v, hv⟩
theorem pop_or {i v : Nat} (hi : i < 8) (hv : v < 2 ^ i) : pop (v + 2 ^ i) = pop v + 1 := by
  have key : ∀ i : Fin 8, ∀ v : Fin 256, v.val < 2 ^ i.val → pop (v.val + 2 ^ i.val) = pop v.val + 1 := by decide +kernel
  have h8 : 2 ^ i ≤ 2 ^ 8 := Nat.pow_le_pow_right (by decide) (by omega)
  exact key ⟨i, hi⟩ ⟨v, by omega⟩ hv
theorem shl_n {i : Nat} (hi : i < 8) : (1 : Int32) <<< (nI i &&& 31) = nI (2 ^ i) := by
  have key : ∀ i : Fin 8, (1 : Int32) <<< (nI i &&& 31) = nI (2 ^ i.val) := by decide +kernel
  exact key ⟨i, hi⟩
theorem or_n {i v : Nat} (hi : i < 8) (hv : v < 2 ^ i) : nI v ||| nI (2 ^ i) = nI (v + 2 ^ i) := by
  rw [fa_or]
  have key : ∀ i : Fin 8, ∀ v : Fin 256, v.val < 2 ^ i.val → v.val ||| 2 ^ i.val = v.val + 2 ^ i.val := by decide +kernel
  have h8 : 2 ^ i ≤ 2 ^ 8 := Nat.pow_le_pow_right (by decide) (by omega)
  rw [key ⟨i, hi⟩ ⟨v, by omega⟩ hv]
/-- the set of those that have p, from i on -/
def msk (p : Nat → Bool) : Nat → Nat → Nat → Nat
  | 0, _, acc => acc
  | m + 1, i, acc => msk p m (i + 1) (if p i = true then acc + 2 ^ i else acc)
theorem msk_lt (p : Nat → Bool) : ∀ m i acc, acc < 2 ^ i → msk p m i acc < 2 ^ (i + m) := by
  intro m
  induction m with
  | zero => intro i acc h; exact h
  | succ m ih =>
    intro i acc h
    rw [msk, show i + (m + 1) = (i + 1) + m by omega]
    refine ih (i + 1) _ ?_
    have : 2 ^ (i + 1) = 2 ^ i + 2 ^ i := by rw [Nat.pow_succ]; omega
    split <;> omega
theorem msk_pop (p : Nat → Bool) : ∀ m i acc, i + m ≤ 8 → acc < 2 ^ i → pop (msk p m i acc) = pop acc + cntP p m i := by
  intro m
  induction m with
  | zero => intro i acc h1 h2; rfl
  | succ m ih =>
    intro i acc h1 h2
    have e2 : 2 ^ (i + 1) = 2 ^ i + 2 ^ i := by rw [Nat.pow_succ]; omega
    rw [msk, cntP, ih (i + 1) _ (by omega) (by split <;> omega)]
    by_cases c : p i = true
    · rw [if_pos c, if_pos c, pop_or (by omega) h2]; omega
    · rw [if_neg c, if_neg c]; omega
theorem cntP_c {p q : Nat → Bool} : ∀ m i, (∀ k, i ≤ k → k < i + m → p k = q k) → cntP p m i = cntP q m i := by
  intro m
  induction m with
  | zero => intro i h; rfl
  | succ m ih =>
    intro i h
    rw [cntP, cntP, h i (Nat.le_refl _) (by omega), ih (i + 1) (fun k h1 h2 => h k (by omega) (by omega))]
theorem msk_c {p q : Nat → Bool} : ∀ m i acc, (∀ k, i ≤ k → k < i + m → p k = q k) → msk p m i acc = msk q m i acc := by
  intro m
  induction m with
  | zero => intro i acc h; rfl
  | succ m ih =>
    intro i acc h
    rw [msk, msk, h i (Nat.le_refl _) (by omega), ih (i + 1) _ (fun k h1 h2 => h k (by omega) (by omega))]
section COUNT
variable {nb nn : Nat} {M : xM}
def shp (M : xM) (i : Nat) : Bool := decide (¬ M 27 i 4 = 0)
theorem sbL (h : xHB nb M) : ∀ (m i n acc : Nat) (kx : Int32 → Int32 → Int32), i + m = nb → m < n → acc < 2 ^ i → f_X10_shutBanks_L4 M n (nI acc) (nI i) kx = kx (nI (msk (shp M) m i acc)) (nI nb) := by
  have h8 := h.1
  intro m
  induction m with
  | zero =>
    intro i n acc kx h1 h2 h3
    obtain ⟨n, rfl⟩ : ∃ k, n = k + 1 := ⟨n - 1, by omega⟩
    obtain rfl : i = nb := by omega
    rw [f_X10_shutBanks_L4, h.2.1, if_pos (nI_le (Nat.le_refl _) (by omega)), msk]
  | succ m ih =>
    intro i n acc kx h1 h2 h3
    obtain ⟨n, rfl⟩ : ∃ k, n = k + 1 := ⟨n - 1, by omega⟩
    have u := nI_u (show i < nb by omega) (by omega)
    have e2 : 2 ^ (i + 1) = 2 ^ i + 2 ^ i := by rw [Nat.pow_succ]; omega
    rw [f_X10_shutBanks_L4, h.2.1, if_neg (nI_ge (by omega) (by omega)), msk]
    simp only [xlet_p, bankOf_eq h, if_pos u, xopt_ps, nI_clamp (show i < 2 ^ 31 by omega), nI_1, shl_n (show i < 8 by omega), or_n (show i < 8 by omega) h3]
    by_cases c : M 27 i 4 = 0
    · have : shp M i = false := by unfold shp; simp [c]
      rw [if_pos c, this, if_neg (show ¬ (false = true) by decide)]
      exact ih (i + 1) n acc kx (by omega) (by omega) (by omega)
    · have : shp M i = true := by unfold shp; simp [c]
      rw [if_neg c, this, if_pos (show true = true from rfl)]
      exact ih (i + 1) n _ kx (by omega) (by omega) (by omega)
theorem sb_eq (h : xHB nb M) : f_X10_shutBanks M = nI (msk (shp M) nb 0 0) := by
  unfold f_X10_shutBanks
  have h8 := h.1
  have := sbL h nb 0 (xmu (0 : Int32) (M 0 0 12) + 1) 0 (fun shut_12 i_13 => shut_12) (by omega) (by rw [h.2.1]; unfold xmu; rw [nI_toInt (by omega)]; simp) (by decide)
  rw [show nI 0 = (0 : Int32) from rfl] at this
  exact this
theorem c104 (what : Int32) (N : xM) (p : Nat → Bool) (h8 : nb ≤ 8) (hN : N 40 0 7 = nI nb) (hp : ∀ k : Nat, k < nb → p k = decide (¬ N 61 0 k = 0)) : ∀ (m i n z : Nat) (kx : Int32 → Int32 → Int32 × xM), i + m = nb → m < n → f_X11_count_L104 what N n (nI z) (nI i) kx = kx (nI (z + cntP p m i)) (nI nb) := by
  intro m
  induction m with
  | zero =>
    intro i n z kx h1 h2
    obtain ⟨n, rfl⟩ : ∃ k, n = k + 1 := ⟨n - 1, by omega⟩
    obtain rfl : i = nb := by omega
    rw [f_X11_count_L104, hN, if_pos (nI_le (Nat.le_refl _) (by omega)), cntP]
    rfl
  | succ m ih =>
    intro i n z kx h1 h2
    obtain ⟨n, rfl⟩ : ∃ k, n = k + 1 := ⟨n - 1, by omega⟩
    have z0 : nI z + 0 = nI z := by simp
    have hi := hp i (by omega)
    rw [f_X11_count_L104, hN, if_neg (nI_ge (by omega) (by omega)), cntP]
    simp only [xlet_p, nI_clamp (show i < 2 ^ 31 by omega), nI_1, z0]
    by_cases c : N 61 0 i = 0
    · have : p i = false := by rw [hi]; simp [c]
      rw [if_pos c, this, if_neg (show ¬ (false = true) by decide), Nat.zero_add]
      exact ih (i + 1) n z kx (by omega) (by omega)
    · have : p i = true := by rw [hi]; simp [c]
      rw [if_neg c, this, if_pos (show true = true from rfl), ← Nat.add_assoc]
      exact ih (i + 1) n (z + 1) kx (by omega) (by omega)
theorem stL (M : xM) : ∀ (m i n z : Nat) (kx : Int32 → Int32 → Int32), i + m = 8 → m < n → f_X10_sheetsThere_L4 M n (nI z) (nI i) kx = kx (nI (z + cntP (fun s => decide (¬ M 24 s 1 = (-1))) m i)) 8 := by
  intro m
  induction m with
  | zero =>
    intro i n z kx h1 h2
    obtain ⟨n, rfl⟩ : ∃ k, n = k + 1 := ⟨n - 1, by omega⟩
    obtain rfl : i = 8 := by omega
    rw [f_X10_sheetsThere_L4, if_pos (by decide), cntP]
    rfl
  | succ m ih =>
    intro i n z kx h1 h2
    obtain ⟨n, rfl⟩ : ∃ k, n = k + 1 := ⟨n - 1, by omega⟩
    have u : 0 ≤ nI i ∧ nI i ≤ 7 := ⟨nI_pos' (by omega), nI_le (b := 7) (by omega) (by decide)⟩
    rw [f_X10_sheetsThere_L4, if_neg (show ¬ (8 : Int32) ≤ nI i from nI_ge (b := 8) (by omega) (by decide)), cntP]
    simp only [xlet_p, sheetOf_eq, if_pos u, xopt_ps, nI_clamp (show i < 2 ^ 31 by omega), nI_1, f_X6_isMissing, xb_0]
    by_cases c : M 24 i 1 = (-1)
    · simp [c]
      have := ih (i + 1) n z kx (by omega) (by omega)
      simpa using this
    · simp [c]
      rw [← Nat.add_assoc]
      have := ih (i + 1) n (z + 1) kx (by omega) (by omega)
      simpa using this
theorem c66 (what : Int32) (N : xM) (p : Nat → Bool) (hp : ∀ k : Nat, k < 8 → p k = decide (¬ N 52 0 k < 0)) : ∀ (m i n z : Nat) (kx : Int32 → Int32 → Int32 × xM), i + m = 8 → m < n → f_X11_count_L66 what N n (nI z) (nI i) kx = kx (nI (z + cntP p m i)) 8 := by
  intro m
  induction m with
  | zero =>
    intro i n z kx h1 h2
    obtain ⟨n, rfl⟩ : ∃ k, n = k + 1 := ⟨n - 1, by omega⟩
    obtain rfl : i = 8 := by omega
    rw [f_X11_count_L66, if_pos (by decide), cntP]
    rfl
  | succ m ih =>
    intro i n z kx h1 h2
    obtain ⟨n, rfl⟩ : ∃ k, n = k + 1 := ⟨n - 1, by omega⟩
    have z0 : nI z + 0 = nI z := by simp
    have hi := hp i (by omega)
    rw [f_X11_count_L66, if_neg (show ¬ (8 : Int32) ≤ nI i from nI_ge (b := 8) (by omega) (by decide)), cntP]
    simp only [xlet_p, nI_clamp (show i < 2 ^ 31 by omega), nI_1, z0]
    by_cases c : N 52 0 i < 0
    · have : p i = false := by rw [hi]; simp [c]
      rw [if_pos c, this, if_neg (show ¬ (false = true) by decide), Nat.zero_add]
      exact ih (i + 1) n z kx (by omega) (by omega)
    · have : p i = true := by rw [hi]; simp [c]
      rw [if_neg c, this, if_pos (show true = true from rfl), ← Nat.add_assoc]
      exact ih (i + 1) n (z + 1) kx (by omega) (by omega)
theorem ntL (h : xHN nn M) (wh : Int32) : ∀ (m i n z : Nat) (kx : Int32 → Int32 → Int32), i + m = nn → m < n → f_X10_notesThatAre_L4 wh M n (nI z) (nI i) kx = kx (nI (z + cntP (fun k => decide (M 29 k 5 = wh)) m i)) (nI nn) := by
  have h24 := h.1
  intro m
  induction m with
  | zero =>
    intro i n z kx h1 h2
    obtain ⟨n, rfl⟩ : ∃ k, n = k + 1 := ⟨n - 1, by omega⟩
    obtain rfl : i = nn := by omega
    rw [f_X10_notesThatAre_L4, h.2.1, if_pos (nI_le (Nat.le_refl _) (by omega)), cntP]
    rfl
  | succ m ih =>
    intro i n z kx h1 h2
    obtain ⟨n, rfl⟩ : ∃ k, n = k + 1 := ⟨n - 1, by omega⟩
    have u := nI_u (show i < nn by omega) (by omega)
    rw [f_X10_notesThatAre_L4, h.2.1, if_neg (nI_ge (by omega) (by omega)), cntP]
    simp only [xlet_p, noteOf_eq h, if_pos u, xopt_ps, nI_clamp (show i < 2 ^ 31 by omega), nI_1]
    by_cases c : M 29 i 5 = wh
    · rw [if_pos c, if_pos (decide_eq_true c), ← Nat.add_assoc]
      exact ih (i + 1) n (z + 1) kx (by omega) (by omega)
    · rw [if_neg c, if_neg (by simp [c]), Nat.zero_add]
      exact ih (i + 1) n z kx (by omega) (by omega)
theorem c149 (what : Int32) (N : xM) (p : Nat → Bool) (h24 : nn ≤ 24) (hN : N 40 0 30 = nI nn) (hp : ∀ k : Nat, k < nn → p k = (if what = 5 then decide (¬ N 85 0 k = (-1000000)) else if what = 6 then decide (¬ N 87 0 k = 0) else decide (¬ N 89 0 k = 0))) : ∀ (m i n z : Nat) (kx : Int32 → Int32 → Int32 × xM), i + m = nn → m < n → f_X11_count_L149 what N n (nI z) (nI i) kx = kx (nI (z + cntP p m i)) (nI nn) := by
  intro m
  induction m with
  | zero =>
    intro i n z kx h1 h2
    obtain ⟨n, rfl⟩ : ∃ k, n = k + 1 := ⟨n - 1, by omega⟩
    obtain rfl : i = nn := by omega
    rw [f_X11_count_L149, hN, if_pos (nI_le (Nat.le_refl _) (by omega)), cntP]
    rfl
  | succ m ih =>
    intro i n z kx h1 h2
    obtain ⟨n, rfl⟩ : ∃ k, n = k + 1 := ⟨n - 1, by omega⟩
    have z0 : nI z + 0 = nI z := by simp
    have hi := hp i (by omega)
    have i1 := ih (i + 1) n z kx (by omega) (by omega)
    have i2 := ih (i + 1) n (z + 1) kx (by omega) (by omega)
    rw [f_X11_count_L149, hN, if_neg (nI_ge (by omega) (by omega)), cntP]
    simp only [xlet_p, nI_clamp (show i < 2 ^ 31 by omega), nI_1, z0]
    have go : (p i = true → f_X11_count_L149 what N n (nI (z + 1)) (nI (i + 1)) kx = kx (nI (z + ((if p i = true then 1 else 0) + cntP p m (i + 1)))) (nI nn)) ∧ (p i = false → f_X11_count_L149 what N n (nI z) (nI (i + 1)) kx = kx (nI (z + ((if p i = true then 1 else 0) + cntP p m (i + 1)))) (nI nn)) := by
      refine ⟨fun q => ?_, fun q => ?_⟩
      · rw [q, if_pos (show true = true from rfl), ← Nat.add_assoc]; exact i2
      · rw [q, if_neg (show ¬ (false = true) by decide), Nat.zero_add]; exact i1
    by_cases w5 : what = 5
    · rw [if_pos w5] at hi
      rw [if_pos w5]
      by_cases c : N 85 0 i = (-1000000)
      · rw [if_pos c]; exact go.2 (by rw [hi]; simp [c])
      · rw [if_neg c]; exact go.1 (by rw [hi]; simp [c])
    · rw [if_neg w5] at hi
      rw [if_neg w5]
      by_cases w6 : what = 6
      · rw [if_pos w6] at hi
        rw [if_pos w6]
        by_cases c : N 87 0 i = 0
        · rw [if_pos c]; exact go.2 (by rw [hi]; simp [c])
        · rw [if_neg c]; exact go.1 (by rw [hi]; simp [c])
      · rw [if_neg w6] at hi
        rw [if_neg w6]
        by_cases c : N 89 0 i = 0
        · rw [if_pos c]; exact go.2 (by rw [hi]; simp [c])
        · rw [if_neg c]; exact go.1 (by rw [hi]; simp [c])
theorem nt_eq (h : INV nb nn M) (wh what : Int32) (hp : ∀ k : Nat, k < nn → decide (M 29 k 5 = wh) = (if what = 5 then decide (¬ M 85 0 k = (-1000000)) else if what = 6 then decide (¬ M 87 0 k = 0) else decide (¬ M 89 0 k = 0))) : f_X11_count_L149 what (xup M 40 0 0 0) (xmu (0 : Int32) (xup M 40 0 0 0 40 0 30) + 1) (0 : Int32) (0 : Int32) (fun z_42 k_43 => (z_42, xup M 40 0 0 0)) = (f_X10_notesThatAre wh M, xup M 40 0 0 0) := by
  have h24 := h.nn24
  have e30 : xup M 40 0 0 0 40 0 30 = nI nn := by rw [xup_j (by decide)]; exact h.c30
  have L1 := ntL h.hn wh nn 0 (xmu (0 : Int32) (M 0 0 13) + 1) 0 (fun there_12 i_13 => there_12) (by omega) (by rw [h.c13]; unfold xmu; rw [nI_toInt (by omega)]; simp)
  have L2 := c149 what (xup M 40 0 0 0) (fun k => decide (M 29 k 5 = wh)) h24 e30 (fun k hk => by
    rw [xup_k (show (85 : Nat) ≠ 40 by decide), xup_k (show (87 : Nat) ≠ 40 by decide), xup_k (show (89 : Nat) ≠ 40 by decide)]
    exact hp k hk) nn 0 (xmu (0 : Int32) (xup M 40 0 0 0 40 0 30) + 1) 0 (fun z_42 k_43 => (z_42, xup M 40 0 0 0)) (by omega) (by rw [e30]; unfold xmu; rw [nI_toInt (by omega)]; simp)
  rw [show nI 0 = (0 : Int32) from rfl] at L1 L2
  rw [L2]
  unfold f_X10_notesThatAre
  rw [L1]
theorem s_count (h : INV nb nn M) (what : Int32) : f_X10_count what M = (f_X11_count what M).1 ∧ INV nb nn (f_X11_count what M).2 := by
  have hI := INV_thr (v := 0) h
  have h8 := h.nb8
  have h24 := h.nn24
  unfold f_X10_count f_X11_count
  simp only [xlet_p]
  by_cases w0 : what = 0
  · rw [if_pos w0, if_pos w0]
    have L1 := stL M 8 0 (xmu (0 : Int32) 8 + 1) 0 (fun there_13 i_14 => there_13) (by omega) (by decide)
    have L2 := c66 what (xup M 40 0 0 0) (fun s => decide (¬ M 24 s 1 = (-1))) (fun k hk => by
      have q := h.sh.2.2 k hk
      rw [xup_k (by decide), q.1]
      have := q.2.1
      by_cases c : M 24 k 1 = -1
      · rw [c]; decide
      · have : ¬ M 24 k 1 < 0 := by grind
        simp [c, this]) 8 0 (xmu (0 : Int32) 8 + 1) 0 (fun z_33 k_34 => (z_33, xup M 40 0 0 0)) (by omega) (by decide)
    rw [show nI 0 = (0 : Int32) from rfl] at L1 L2
    unfold f_X10_sheetsThere
    rw [L1, L2]
    exact ⟨rfl, hI⟩
  · rw [if_neg w0, if_neg w0]
    by_cases w1 : what = 1
    · rw [if_pos w1, if_pos w1]
      refine ⟨?_, hI⟩
      rw [xup_j (by decide), h.c7, h.c12]
    · rw [if_neg w1, if_neg w1]
      by_cases w2 : what = 2
      · rw [if_pos w2, if_pos w2]
        have e7 : xup M 40 0 0 0 40 0 7 = nI nb := by rw [xup_j (by decide)]; exact h.c7
        have L2 := c104 what (xup M 40 0 0 0) (shp M) h8 e7 (fun k hk => by
          have q := h.ba.2.2.2.1 k hk
          rw [xup_k (by decide), q.2.2.2.2.1]; rfl) nb 0 (xmu (0 : Int32) (xup M 40 0 0 0 40 0 7) + 1) 0 (fun z_37 k_38 => (z_37, xup M 40 0 0 0)) (by omega) (by rw [e7]; unfold xmu; rw [nI_toInt (by omega)]; simp)
        rw [show nI 0 = (0 : Int32) from rfl] at L2
        rw [L2, sb_eq h.hb, bc_pop M (by have := msk_lt (shp M) nb 0 0 (by decide); have : 2 ^ (0 + nb) ≤ 2 ^ 8 := Nat.pow_le_pow_right (by decide) (by omega); omega), msk_pop (shp M) nb 0 0 (by omega) (by decide)]
        exact ⟨rfl, hI⟩
      · rw [if_neg w2, if_neg w2]
        by_cases w3 : what = 3
        · rw [if_pos w3, if_pos w3]
          refine ⟨?_, hI⟩
          rw [xup_j (by decide)]
          exact h.en.1.symm
        · rw [if_neg w3, if_neg w3]
          by_cases w4 : what = 4
          · rw [if_pos w4, if_pos w4]
            refine ⟨?_, hI⟩
            rw [xup_j (by decide), h.c30, h.c13]
          · rw [if_neg w4, if_neg w4]
            by_cases w5 : what = 5
            · rw [if_pos w5, if_pos w5, nt_eq h 0 what (fun k hk => by
                have q := h.n1 hk
                rw [if_pos w5, q.t85]
                by_cases c : M 29 k 5 = 0
                · have := q.h8 c
                  have : ¬ M 29 k 8 = -1000000 := by grind
                  simp [c, this]
                · simp [c])]
              exact ⟨rfl, hI⟩
            · rw [if_neg w5, if_neg w5]
              by_cases w6 : what = 6
              · rw [if_pos w6, if_pos w6, nt_eq h 2 what (fun k hk => by
                  have q := h.n1 hk
                  rw [if_neg w5, if_pos w6, q.t87]
                  by_cases c : M 29 k 5 = 2 <;> simp [c])]
                exact ⟨rfl, hI⟩
              · rw [if_neg w6, if_neg w6]
                by_cases w7 : what = 7
                · rw [if_pos w7, if_pos w7, nt_eq h 3 what (fun k hk => by
                    have q := h.n1 hk
                    rw [if_neg w5, if_neg w6, q.t89]
                    by_cases c : M 29 k 5 = 3 <;> simp [c])]
                  exact ⟨rfl, hI⟩
                · rw [if_neg w7, if_neg w7]
                  by_cases w8 : what = 8
                  · rw [if_pos w8, if_pos w8]
                    refine ⟨?_, hI⟩
                    rw [xup_j (by decide)]
                    exact h.ta.1.symm
                  · rw [if_neg w8, if_neg w8]
                    by_cases w9 : what = 9
                    · rw [if_pos w9, if_pos w9]
                      refine ⟨?_, hI⟩
                      rw [xup_j (by decide)]
                      exact h.st.2.1
                    · rw [if_neg w9, if_neg w9]
                      exact ⟨rfl, hI⟩
end COUNT
