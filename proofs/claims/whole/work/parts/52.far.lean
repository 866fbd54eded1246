/-! FEWEST MILES: the class's table says what the reference's way finds -/
/-! sums that stay small -/
theorem i32b {x : Int32} {n : Nat} (hn : n < 2 ^ 31) (h0 : 0 ≤ x) (h1 : x ≤ nI n) : ∃ k : Nat, x = nI k ∧ k ≤ n := by
  obtain ⟨k, rfl, hk⟩ := i32_nat h0
  exact ⟨k, rfl, (nI_leI hk hn).mp h1⟩
theorem ad_b {x y : Int32} (hx : 0 ≤ x ∧ x ≤ 2000000) (hy : 0 ≤ y ∧ y ≤ 2000000) : 0 ≤ x + y ∧ x ≤ x + y ∧ y ≤ x + y ∧ x + y ≤ 4000000 := by
  obtain ⟨a, rfl, ha⟩ := i32b (n := 2000000) (by decide) hx.1 hx.2
  obtain ⟨b, rfl, hb⟩ := i32b (n := 2000000) (by decide) hy.1 hy.2
  rw [nI_add]
  exact ⟨nI_pos' (by omega), nI_le (by omega) (by omega), nI_le (by omega) (by omega), nI_le (b := 4000000) (by omega) (by decide)⟩
theorem ad_le {x y u v : Int32} (hx : 0 ≤ x ∧ x ≤ 2000000) (hy : 0 ≤ y ∧ y ≤ 2000000) (hu : 0 ≤ u ∧ u ≤ 2000000) (hv : 0 ≤ v ∧ v ≤ 2000000) (h1 : x ≤ u) (h2 : y ≤ v) : x + y ≤ u + v := by
  obtain ⟨a, rfl, ha⟩ := i32b (n := 2000000) (by decide) hx.1 hx.2
  obtain ⟨b, rfl, hb⟩ := i32b (n := 2000000) (by decide) hy.1 hy.2
  obtain ⟨c, rfl, hc⟩ := i32b (n := 2000000) (by decide) hu.1 hu.2
  obtain ⟨d, rfl, hd⟩ := i32b (n := 2000000) (by decide) hv.1 hv.2
  have e1 := (nI_leI (by omega) (by omega)).mp h1
  have e2 := (nI_leI (by omega) (by omega)).mp h2
  rw [nI_add, nI_add]
  exact nI_le (by omega) (by omega)
theorem mn_b {x y z : Int32} (hx : 0 ≤ x ∧ x ≤ 1000000) (hy : 0 ≤ y ∧ y ≤ 1000000) (hz : 0 ≤ z ∧ z ≤ 1000000) : 0 ≤ (if x + y < z then x + y else z) ∧ (if x + y < z then x + y else z) ≤ 1000000 := by
  have := ad_b (x := x) (y := y) ⟨hx.1, Int32.le_trans hx.2 (by decide)⟩ ⟨hy.1, Int32.le_trans hy.2 (by decide)⟩
  split
  · rename_i c; exact ⟨this.1, Int32.le_trans (Int32.le_of_lt c) hz.2⟩
  · exact hz
theorem tri8 {gab ab at' tb ak kb tk kt : Int32} (b1 : 0 ≤ ab ∧ ab ≤ 1000000) (b2 : 0 ≤ at' ∧ at' ≤ 1000000) (b3 : 0 ≤ tb ∧ tb ≤ 1000000) (b4 : 0 ≤ ak ∧ ak ≤ 1000000) (b5 : 0 ≤ kb ∧ kb ≤ 1000000) (b6 : 0 ≤ tk ∧ tk ≤ 1000000) (b7 : 0 ≤ kt ∧ kt ≤ 1000000) (l : gab ≤ ab ∧ gab ≤ at' + tb) (t1 : ab ≤ ak + kb) (t2 : at' ≤ ak + kt) (t3 : tb ≤ tk + kb) : gab ≤ (if at' + tk < ak then at' + tk else ak) + (if kt + tb < kb then kt + tb else kb) := by
  obtain ⟨ab, rfl, hab⟩ := i32b (n := 1000000) (by decide) b1.1 b1.2
  obtain ⟨at', rfl, hat⟩ := i32b (n := 1000000) (by decide) b2.1 b2.2
  obtain ⟨tb, rfl, htb⟩ := i32b (n := 1000000) (by decide) b3.1 b3.2
  obtain ⟨ak, rfl, hak⟩ := i32b (n := 1000000) (by decide) b4.1 b4.2
  obtain ⟨kb, rfl, hkb⟩ := i32b (n := 1000000) (by decide) b5.1 b5.2
  obtain ⟨tk, rfl, htk⟩ := i32b (n := 1000000) (by decide) b6.1 b6.2
  obtain ⟨kt, rfl, hkt⟩ := i32b (n := 1000000) (by decide) b7.1 b7.2
  rw [nI_add] at t1 t2 t3
  have e1 := (nI_leI (by omega) (by omega)).mp t1
  have e2 := (nI_leI (by omega) (by omega)).mp t2
  have e3 := (nI_leI (by omega) (by omega)).mp t3
  have l1 : ∀ z : Nat, z < 2 ^ 31 → ab ≤ z → gab ≤ nI z := fun z h1 h2 => Int32.le_trans l.1 (nI_le h2 h1)
  have l2 : ∀ z : Nat, z < 2 ^ 31 → at' + tb ≤ z → gab ≤ nI z := fun z h1 h2 => Int32.le_trans l.2 (by rw [nI_add]; exact nI_le h2 h1)
  simp only [nI_add, nI_ltI (show at' + tk < 2 ^ 31 by omega) (show ak < 2 ^ 31 by omega), nI_ltI (show kt + tb < 2 ^ 31 by omega) (show kb < 2 ^ 31 by omega)]
  split <;> split <;> rw [nI_add]
  · exact l2 _ (by omega) (by omega)
  · exact l2 _ (by omega) (by omega)
  · exact l2 _ (by omega) (by omega)
  · exact l1 _ (by omega) (by omega)
def FR (F : Nat → Int32) (t k : Nat) : Int32 := if F (6 * (k / 6) + t) + F (6 * t + k % 6) < F k then F (6 * (k / 6) + t) + F (6 * t + k % 6) else F k
theorem d6 {a b : Nat} (hb : b < 6) : (6 * a + b) / 6 = a ∧ (6 * a + b) % 6 = b := by omega
theorem FR_col {F : Nat → Int32} {t a : Nat} (ht : t < 6) (h0 : F (6 * t + t) = 0) : FR F t (6 * a + t) = F (6 * a + t) := by
  unfold FR
  rw [(d6 ht).1, (d6 ht).2, h0, if_neg (by grind)]
theorem FR_row {F : Nat → Int32} {t b : Nat} (hb : b < 6) (h0 : F (6 * t + t) = 0) : FR F t (6 * t + b) = F (6 * t + b) := by
  unfold FR
  rw [(d6 hb).1, (d6 hb).2, h0, if_neg (by grind)]
theorem FR_c {F G : Nat → Int32} {t k : Nat} (h1 : G (6 * (k / 6) + t) = F (6 * (k / 6) + t)) (h2 : G (6 * t + k % 6) = F (6 * t + k % 6)) (h3 : G k = F k) : FR G t k = FR F t k := by
  unfold FR; rw [h1, h2, h3]
theorem flo1_at {F : Nat → Int32} {t a b : Nat} (hb : b < 6) (k : Nat) : flo1 F t a b k = if k = 6 * a + b then FR F t k else F k := by
  unfold flo1 FR
  by_cases h : k = 6 * a + b
  · subst h
    rw [if_pos rfl, pk_us, (d6 hb).1, (d6 hb).2]
  · rw [if_neg h, pk_un h]
theorem flo1_col {F : Nat → Int32} {t a b x : Nat} (ht : t < 6) (hb : b < 6) (h0 : F (6 * t + t) = 0) : flo1 F t a b (6 * x + t) = F (6 * x + t) := by
  rw [flo1_at hb]
  split
  · exact FR_col ht h0
  · rfl
theorem flo1_row {F : Nat → Int32} {t a b c : Nat} (hc : c < 6) (hb : b < 6) (h0 : F (6 * t + t) = 0) : flo1 F t a b (6 * t + c) = F (6 * t + c) := by
  rw [flo1_at hb]
  split
  · exact FR_row hc h0
  · rfl
theorem flo2_at {t a : Nat} (ht : t < 6) : ∀ (m b : Nat) (F : Nat → Int32), b + m = 6 → F (6 * t + t) = 0 → ∀ k : Nat, flo2 t a m b F k = if k / 6 = a ∧ b ≤ k % 6 then FR F t k else F k := by
  intro m
  induction m with
  | zero => intro b F hb h0 k; rw [flo2, if_neg (by omega)]
  | succ m ih =>
    intro b F hb h0 k
    have hb6 : b < 6 := by omega
    rw [flo2, ih (b + 1) _ (by omega) (by rw [flo1_col ht hb6 h0]; exact h0) k]
    by_cases c : k = 6 * a + b
    · subst c
      rw [if_neg (by omega), if_pos (by omega), flo1_at hb6, if_pos rfl]
    · have e : flo1 F t a b k = F k := by rw [flo1_at hb6, if_neg c]
      rw [FR_c (flo1_col ht hb6 h0) (flo1_row (Nat.mod_lt _ (by decide)) hb6 h0) e, e]
      by_cases c2 : k / 6 = a ∧ b ≤ k % 6
      · rw [if_pos c2, if_pos (by omega)]
      · rw [if_neg c2, if_neg (by omega)]
theorem flo3_at {t : Nat} (ht : t < 6) : ∀ (m a : Nat) (F : Nat → Int32), a + m = 6 → F (6 * t + t) = 0 → ∀ k : Nat, k < 36 → flo3 t m a F k = if a ≤ k / 6 then FR F t k else F k := by
  intro m
  induction m with
  | zero => intro a F ha h0 k hk; rw [flo3, if_neg (by omega)]
  | succ m ih =>
    intro a F ha h0 k hk
    have col : ∀ x : Nat, flo2 t a 6 0 F (6 * x + t) = F (6 * x + t) := fun x => by
      rw [flo2_at ht 6 0 F (by omega) h0]
      split
      · exact FR_col ht h0
      · rfl
    have row : ∀ c : Nat, c < 6 → flo2 t a 6 0 F (6 * t + c) = F (6 * t + c) := fun c hc => by
      rw [flo2_at ht 6 0 F (by omega) h0]
      split
      · exact FR_row hc h0
      · rfl
    rw [flo3, ih (a + 1) _ (by omega) (by rw [col]; exact h0) k hk]
    by_cases c : k / 6 = a
    · rw [if_neg (by omega), if_pos (by omega), flo2_at ht 6 0 F (by omega) h0, if_pos ⟨c, by omega⟩]
    · have e : flo2 t a 6 0 F k = F k := by rw [flo2_at ht 6 0 F (by omega) h0, if_neg (by omega)]
      rw [FR_c (col _) (row _ (Nat.mod_lt _ (by decide))) e, e]
      by_cases c2 : a ≤ k / 6
      · rw [if_pos c2, if_pos (by omega)]
      · rw [if_neg c2, if_neg (by omega)]
/-- how far the table is, when the towns below t are ways through -/
def fS (A F : Nat → Int32) (t : Nat) : Prop := (∀ a b : Nat, a < 6 → b < 6 → 0 ≤ F (6 * a + b) ∧ F (6 * a + b) ≤ 1000000) ∧ (∀ a : Nat, a < 6 → F (6 * a + a) = 0) ∧ (∀ k a b : Nat, k < t → k < 6 → a < 6 → b < 6 → F (6 * a + b) ≤ F (6 * a + k) + F (6 * k + b)) ∧ (∀ x y : Nat, x < 6 → y < 6 → x ≠ y → F (6 * x + y) < 1000000 → ∃ u : Nat, u < 6 ∧ 0 < A (6 * u + y) ∧ F (6 * x + u) + A (6 * u + y) ≤ F (6 * x + y)) ∧ ∀ x y : Nat, x < 6 → y < 6 → x ≠ y → 0 < A (6 * x + y) → F (6 * x + y) ≤ A (6 * x + y)
theorem fS_0 {A : Nat → Int32} (hA : ∀ k : Nat, k < 36 → 0 ≤ A k ∧ A k ≤ 500) : fS A (flo0 A) 0 := by
  have at0 : ∀ a b : Nat, a < 6 → b < 6 → flo0 A (6 * a + b) = if a = b then 0 else if A (6 * a + b) = 0 then 1000000 else A (6 * a + b) := by
    intro a b ha hb
    unfold flo0
    rw [(d6 hb).1, (d6 hb).2]
  refine ⟨?_, ?_, ?_, ?_, ?_⟩
  · intro a b ha hb
    have := hA (6 * a + b) (by omega)
    rw [at0 a b ha hb]
    grind
  · intro a ha
    rw [at0 a a ha ha, if_pos rfl]
  · intro k a b h; omega
  · intro x y hx hy hne h
    have := hA (6 * x + y) (by omega)
    rw [at0 x y hx hy, if_neg hne] at h ⊢
    refine ⟨x, hx, ?_, ?_⟩
    · grind
    · rw [at0 x x hx hx, if_pos rfl]
      grind
  · intro x y hx hy hne h
    rw [at0 x y hx hy, if_neg hne, if_neg (by grind)]
    grind
theorem fS_s {A F G : Nat → Int32} {t : Nat} (ht : t < 6) (hA : ∀ k : Nat, k < 36 → 0 ≤ A k ∧ A k ≤ 500) (hG : ∀ k : Nat, k < 36 → G k = FR F t k) (h : fS A F t) : fS A G (t + 1) := by
  obtain ⟨h1, h2, h3, h4, h5⟩ := h
  have g : ∀ a b : Nat, a < 6 → b < 6 → G (6 * a + b) = if F (6 * a + t) + F (6 * t + b) < F (6 * a + b) then F (6 * a + t) + F (6 * t + b) else F (6 * a + b) := by
    intro a b ha hb
    rw [hG _ (by omega)]
    unfold FR
    rw [(d6 hb).1, (d6 hb).2]
  have gle : ∀ a b : Nat, a < 6 → b < 6 → G (6 * a + b) ≤ F (6 * a + b) ∧ G (6 * a + b) ≤ F (6 * a + t) + F (6 * t + b) := by
    intro a b ha hb
    rw [g a b ha hb]
    grind
  have w2 : ∀ {x : Int32}, 0 ≤ x ∧ x ≤ 1000000 → 0 ≤ x ∧ x ≤ 2000000 := fun h => ⟨h.1, Int32.le_trans h.2 (by decide)⟩
  have gb : ∀ a b : Nat, a < 6 → b < 6 → 0 ≤ G (6 * a + b) ∧ G (6 * a + b) ≤ 1000000 := by
    intro a b ha hb
    rw [g a b ha hb]
    exact mn_b (h1 a t ha ht) (h1 t b ht hb) (h1 a b ha hb)
  refine ⟨gb, ?_, ?_, ?_, ?_⟩
  · intro a ha
    have b2 := ad_b (w2 (h1 a t ha ht)) (w2 (h1 t a ht ha))
    rw [g a a ha ha, h2 a ha, if_neg (fun q => by have := b2.1; exact absurd q (Int32.not_lt.mpr this))]
  · intro k a b hk hk6 ha hb
    by_cases c : k = t
    · subst c
      have b2 := h2 k ht
      have e1 : G (6 * a + k) = F (6 * a + k) := by rw [g a k ha ht, b2, if_neg (by simp)]
      have e2 : G (6 * k + b) = F (6 * k + b) := by rw [g k b ht hb, b2, if_neg (by simp)]
      rw [e1, e2]
      exact (gle a b ha hb).2
    · rw [g a k ha hk6, g k b hk6 hb]
      exact tri8 (h1 a b ha hb) (h1 a t ha ht) (h1 t b ht hb) (h1 a k ha hk6) (h1 k b hk6 hb) (h1 t k ht hk6) (h1 k t hk6 ht) (gle a b ha hb) (h3 k a b (by omega) hk6 ha hb) (h3 k a t (by omega) hk6 ha ht) (h3 k t b (by omega) hk6 ht hb)
  · intro x y hx hy hne h
    rw [g x y hx hy] at h ⊢
    by_cases c : F (6 * x + t) + F (6 * t + y) < F (6 * x + y)
    · rw [if_pos c] at h ⊢
      have hty : t ≠ y := by
        rintro rfl
        rw [h2 t ht] at c
        simp at c
      have hlt : F (6 * t + y) < 1000000 := Int32.lt_of_le_of_lt (ad_b (w2 (h1 x t hx ht)) (w2 (h1 t y ht hy))).2.2.1 h
      obtain ⟨u, hu, hu2, hu3⟩ := h4 t y ht hy hty hlt
      refine ⟨u, hu, hu2, ?_⟩
      have l := (gle x u hx hu).2
      have b5 := hA (6 * u + y) (by omega)
      have b5' : 0 ≤ A (6 * u + y) ∧ A (6 * u + y) ≤ 2000000 := ⟨b5.1, Int32.le_trans b5.2 (by decide)⟩
      have x1 := h1 x t hx ht
      have x2 := h1 t u ht hu
      have x3 := h1 t y ht hy
      have s1 := ad_b (w2 x1) (w2 x2)
      obtain ⟨xt, ext, hxt⟩ := i32b (n := 1000000) (by decide) x1.1 x1.2
      obtain ⟨tu, etu, htu⟩ := i32b (n := 1000000) (by decide) x2.1 x2.2
      obtain ⟨ty, ety, hty2⟩ := i32b (n := 1000000) (by decide) x3.1 x3.2
      obtain ⟨w, ew, hw⟩ := i32b (n := 500) (by decide) b5.1 b5.2
      have x4 := gb x u hx hu
      obtain ⟨gu, egu, hgu⟩ := i32b (n := 1000000) (by decide) x4.1 x4.2
      rw [egu, ext, etu, nI_add] at l
      rw [etu, ew, ety, nI_add] at hu3
      have m1 := (nI_leI (by omega) (by omega)).mp l
      have m2 := (nI_leI (by omega) (by omega)).mp hu3
      rw [egu, ew, ext, ety, nI_add, nI_add]
      exact nI_le (by omega) (by omega)
    · rw [if_neg c] at h ⊢
      obtain ⟨u, hu, hu2, hu3⟩ := h4 x y hx hy hne h
      have b5 := hA (6 * u + y) (by omega)
      have b5' : 0 ≤ A (6 * u + y) ∧ A (6 * u + y) ≤ 2000000 := ⟨b5.1, Int32.le_trans b5.2 (by decide)⟩
      exact ⟨u, hu, hu2, Int32.le_trans (ad_le (w2 (gb x u hx hu)) b5' (w2 (h1 x u hx hu)) b5' (gle x u hx hu).1 (Int32.le_refl _)) hu3⟩
  · intro x y hx hy hne h
    exact Int32.le_trans (gle x y hx hy).1 (h5 x y hx hy hne h)
theorem fS_4 {A : Nat → Int32} (hA : ∀ k : Nat, k < 36 → 0 ≤ A k ∧ A k ≤ 500) : ∀ (m t : Nat) (F : Nat → Int32), t + m = 6 → fS A F t → fS A (flo4 m t F) 6 := by
  intro m
  induction m with
  | zero => intro t F ht h; have : t = 6 := by omega
            subst this; exact h
  | succ m ih =>
    intro t F ht h
    rw [flo4]
    exact ih (t + 1) _ (by omega) (fS_s (by omega) hA (fun k hk => by rw [flo3_at (by omega) 6 0 F (by omega) (h.2.1 t (by omega)) k hk, if_pos (by omega)]) h)
theorem fS_flo {A : Nat → Int32} (hA : ∀ k : Nat, k < 36 → 0 ≤ A k ∧ A k ≤ 500) : fS A (flo A) 6 := fS_4 hA 6 0 _ (by omega) (fS_0 hA)
/-- how many towns are nearer than x -/
def cnt (f : Nat → Int32) (x : Int32) : Nat → Nat
  | 0 => 0
  | n + 1 => cnt f x n + (if f n < x then 1 else 0)
theorem cnt_le (f : Nat → Int32) (x y : Int32) (h : x ≤ y) : ∀ n, cnt f x n ≤ cnt f y n := by
  intro n
  induction n with
  | zero => exact Nat.le_refl _
  | succ n ih =>
    rw [cnt, cnt]
    by_cases c : f n < x
    · rw [if_pos c, if_pos (by grind)]; omega
    · rw [if_neg c]; omega
theorem cnt_lt (f : Nat → Int32) (x y : Int32) (h : x ≤ y) : ∀ n u, u < n → f u < y → ¬ f u < x → cnt f x n < cnt f y n := by
  intro n
  induction n with
  | zero => intro u hu; omega
  | succ n ih =>
    intro u hu h1 h2
    rw [cnt, cnt]
    by_cases c : u = n
    · subst c
      have := cnt_le f x y h u
      rw [if_neg h2, if_pos h1]; omega
    · have := ih u (by omega) h1 h2
      by_cases c2 : f n < x
      · rw [if_pos c2, if_pos (by grind)]; omega
      · rw [if_neg c2]; omega
theorem cnt_n (f : Nat → Int32) (x : Int32) : ∀ n, cnt f x n ≤ n := by
  intro n
  induction n with
  | zero => exact Nat.le_refl _
  | succ n ih => rw [cnt]; split <;> omega
theorem cnt_self (f : Nat → Int32) : ∀ n u, u < n → cnt f (f u) n < n := by
  intro n
  induction n with
  | zero => intro u hu; omega
  | succ n ih =>
    intro u hu
    rw [cnt]
    by_cases c : u = n
    · subst c
      have := cnt_n f (f u) u
      rw [if_neg (by grind)]; omega
    · have := ih u (by omega)
      split <;> omega
/-- the reference's row stands between the fewest and c -/
def bI (f D : Nat → Int32) (c : Int32) : Prop := ∀ v : Nat, v < 6 → D v = (-1000000) ∨ (f v ≤ D v ∧ D v ≤ c)
theorem rlx_at (A D : Nat → Int32) (t v : Nat) : rlx A D t v = if 0 < A t ∧ D (t / 6) ≠ (-1000000) ∧ v = t % 6 ∧ (D v = (-1000000) ∨ D (t / 6) + A t < D v) then D (t / 6) + A t else D v := by
  unfold rlx
  by_cases d1 : A t ≤ 0
  · rw [if_pos d1, if_neg (fun q => absurd q.1 (Int32.not_lt.mpr d1))]
  · have d1' : 0 < A t := Int32.not_le.mp d1
    rw [if_neg d1]
    by_cases d2 : D (t / 6) = -1000000
    · rw [if_pos d2, if_neg (fun q => q.2.1 d2)]
    · rw [if_neg d2]
      by_cases d3 : D (t % 6) = -1000000
      · rw [if_pos d3]
        by_cases c : v = t % 6
        · subst c
          rw [pk_us, if_pos ⟨d1', d2, rfl, Or.inl d3⟩]
        · rw [pk_un c, if_neg (fun q => c q.2.2.1)]
      · rw [if_neg d3]
        by_cases d4 : D (t % 6) ≤ D (t / 6) + A t
        · rw [if_pos d4, if_neg]
          rintro ⟨-, -, rfl, q | q⟩
          · exact d3 q
          · exact absurd q (Int32.not_lt.mpr d4)
        · rw [if_neg d4]
          by_cases c : v = t % 6
          · subst c
            rw [pk_us, if_pos ⟨d1', d2, rfl, Or.inr (Int32.not_le.mp d4)⟩]
          · rw [pk_un c, if_neg (fun q => c q.2.2.1)]
/-- what the fewest miles from one town are: within bounds, and no road is shorter -/
def fN (A f : Nat → Int32) : Prop := (∀ k : Nat, k < 36 → 0 ≤ A k ∧ A k ≤ 500) ∧ (∀ v : Nat, v < 6 → 0 ≤ f v ∧ f v ≤ 1000000) ∧ ∀ k : Nat, k < 36 → 0 < A k → f (k % 6) ≤ f (k / 6) + A k
theorem w26 {x : Int32} (h : 0 ≤ x ∧ x ≤ 1000000) : 0 ≤ x ∧ x ≤ 2000000 := ⟨h.1, Int32.le_trans h.2 (by decide)⟩
theorem w25 {x : Int32} (h : 0 ≤ x ∧ x ≤ 500) : 0 ≤ x ∧ x ≤ 2000000 := ⟨h.1, Int32.le_trans h.2 (by decide)⟩
theorem nn_no {x : Int32} (h : 0 ≤ x) : x ≠ (-1000000) := fun e => absurd (e ▸ h) (by decide)
theorem rlx_bI {A f D : Nat → Int32} {c : Int32} {t : Nat} (h : fN A f) (ht : t < 36) (hc0 : 0 ≤ c) (hc : c ≤ 1000000) (hD : bI f D c) : bI f (rlx A D t) (c + 500) := by
  intro v hv
  have b3 := h.1 t ht
  rw [rlx_at]
  split
  · rename_i q
    obtain ⟨q1, q2, q3, q4⟩ := q
    subst q3
    right
    rcases hD (t / 6) (by omega) with b2 | b2
    · exact absurd b2 q2
    · have b5 := h.2.1 (t / 6) (by omega)
      have b6 := h.2.2 t ht q1
      have bd : 0 ≤ D (t / 6) ∧ D (t / 6) ≤ 1000000 := ⟨Int32.le_trans b5.1 b2.1, Int32.le_trans b2.2 hc⟩
      exact ⟨Int32.le_trans b6 (ad_le (w26 b5) (w25 b3) (w26 bd) (w25 b3) b2.1 (Int32.le_refl _)), ad_le (w26 bd) (w25 b3) (w26 ⟨hc0, hc⟩) ⟨by decide, by decide⟩ b2.2 b3.2⟩
  · rcases hD v hv with b1 | b1
    · exact Or.inl b1
    · exact Or.inr ⟨b1.1, Int32.le_trans b1.2 (ad_b (w26 ⟨hc0, hc⟩) ⟨by decide, by decide⟩).2.1⟩
theorem rlx_pos {A f D : Nat → Int32} {c : Int32} {t : Nat} (h : fN A f) (ht : t < 36) (hc : c ≤ 1000000) (hD : bI f D c) (q2 : D (t / 6) ≠ (-1000000)) : 0 ≤ D (t / 6) + A t := by
  rcases hD (t / 6) (by omega) with b2 | b2
  · exact absurd b2 q2
  · have b5 := h.2.1 (t / 6) (by omega)
    exact (ad_b (w26 ⟨Int32.le_trans b5.1 b2.1, Int32.le_trans b2.2 hc⟩) (w25 (h.1 t ht))).1
theorem rlx_dn {A f D : Nat → Int32} {c : Int32} {t : Nat} (h : fN A f) (ht : t < 36) (hc : c ≤ 1000000) (hD : bI f D c) (v : Nat) (hv : v < 6) (hn : D v ≠ (-1000000)) : rlx A D t v ≠ (-1000000) ∧ rlx A D t v ≤ D v := by
  rw [rlx_at]
  split
  · rename_i q
    obtain ⟨q1, q2, q3, q4⟩ := q
    refine ⟨nn_no (rlx_pos h ht hc hD q2), ?_⟩
    rcases q4 with q4 | q4
    · exact absurd q4 hn
    · exact Int32.le_of_lt q4
  · exact ⟨hn, Int32.le_refl _⟩
theorem rlx_tg {A f D : Nat → Int32} {c : Int32} {t : Nat} (h : fN A f) (ht : t < 36) (hc : c ≤ 1000000) (hD : bI f D c) (h1 : 0 < A t) (h2 : D (t / 6) ≠ (-1000000)) : rlx A D t (t % 6) ≠ (-1000000) ∧ rlx A D t (t % 6) ≤ D (t / 6) + A t := by
  rw [rlx_at]
  split
  · exact ⟨nn_no (rlx_pos h ht hc hD h2), Int32.le_refl _⟩
  · rename_i q
    have q1 : D (t % 6) ≠ -1000000 := fun z => q ⟨h1, h2, rfl, Or.inl z⟩
    exact ⟨q1, Int32.not_lt.mp (fun z => q ⟨h1, h2, rfl, Or.inr z⟩)⟩
theorem rlxs_bI {A f : Nat → Int32} (h : fN A f) : ∀ (m t : Nat) (D : Nat → Int32) (c : Int32), t + m = 36 → 0 ≤ c → c + nI (500 * m) ≤ 1000000 → c ≤ 1000000 → bI f D c → bI f (rlxs A m t D) (c + nI (500 * m)) ∧ (∀ v : Nat, v < 6 → D v ≠ (-1000000) → rlxs A m t D v ≠ (-1000000) ∧ rlxs A m t D v ≤ D v) ∧ ∀ e : Nat, t ≤ e → e < 36 → 0 < A e → D (e / 6) ≠ (-1000000) → rlxs A m t D (e % 6) ≠ (-1000000) ∧ rlxs A m t D (e % 6) ≤ D (e / 6) + A e := by
  intro m
  induction m with
  | zero =>
    intro t D c ht h0 hc hc2 hD
    refine ⟨?_, fun v hv hn => ?_, fun e h1 h2 => ?_⟩
    · rw [rlxs]
      have : c + nI (500 * 0) = c := by simp [nI]
      rw [this]; exact hD
    · rw [rlxs]; exact ⟨hn, Int32.le_refl _⟩
    · omega
  | succ m ih =>
    intro t D c ht h0 hc hc2 hD
    have hm : 500 * (m + 1) = 500 * m + 500 := by omega
    have e5 : c + nI (500 * (m + 1)) = (c + 500) + nI (500 * m) := by
      rw [hm, ← nI_add]
      show c + (nI (500 * m) + 500) = _
      grind
    have hp : 0 ≤ nI (500 * m) := nI_pos' (by omega)
    have hp2 : nI (500 * m) ≤ 18000 := nI_le (b := 18000) (by omega) (by decide)
    have hD2 := rlx_bI h (t := t) (by omega) h0 hc2 hD
    have c5 : c + 500 ≤ 1000000 := by rw [e5] at hc; grind
    obtain ⟨i1, i2, i3⟩ := ih (t + 1) (rlx A D t) (c + 500) (by omega) (by grind) (by rw [← e5]; exact hc) c5 hD2
    refine ⟨?_, fun v hv hn => ?_, fun e h1 h2 h3 h4 => ?_⟩
    · rw [rlxs, e5]; exact i1
    · rw [rlxs]
      have a1 := rlx_dn h (t := t) (by omega) hc2 hD v hv hn
      have a2 := i2 v hv a1.1
      exact ⟨a2.1, Int32.le_trans a2.2 a1.2⟩
    · rw [rlxs]
      by_cases c6 : e = t
      · subst c6
        have a1 := rlx_tg h h2 hc2 hD h3 h4
        have a2 := i2 (e % 6) (Nat.mod_lt _ (by decide)) a1.1
        exact ⟨a2.1, Int32.le_trans a2.2 a1.2⟩
      · have a1 := rlx_dn h (t := t) (by omega) hc2 hD (e / 6) (by omega) h4
        have a2 := i3 e (by omega) h2 h3 a1.1
        have b1 := hD2 (e / 6) (by omega)
        have b2 := h.1 e h2
        have b3 := h.2.1 (e / 6) (by omega)
        have b4 := hD (e / 6) (by omega)
        refine ⟨a2.1, Int32.le_trans a2.2 ?_⟩
        rcases b1 with b1 | b1
        · exact absurd b1 a1.1
        · rcases b4 with b4 | b4
          · exact absurd b4 h4
          · exact ad_le (w26 ⟨Int32.le_trans b3.1 b1.1, Int32.le_trans b1.2 c5⟩) (w25 b2) (w26 ⟨Int32.le_trans b3.1 b4.1, Int32.le_trans b4.2 hc2⟩) (w25 b2) a1.2 (Int32.le_refl _)
theorem rlxk_ok {A f : Nat → Int32} (h : fN A f) {a : Nat} (ha6 : a < 6) (hpre : ∀ v : Nat, v < 6 → v ≠ a → f v < 1000000 → ∃ u : Nat, u < 6 ∧ 0 < A (6 * u + v) ∧ f u + A (6 * u + v) ≤ f v) : ∀ (j i : Nat) (D : Nat → Int32) (c : Int32), 0 ≤ c → c ≤ 1000000 → c + nI (18000 * j) ≤ 1000000 → j ≤ 6 → bI f D c → D a = f a → (∀ v : Nat, v < 6 → f v < 1000000 → cnt f (f v) 6 ≤ i → D v = f v) → bI f (rlxk A j D) (c + nI (18000 * j)) ∧ ∀ v : Nat, v < 6 → f v < 1000000 → cnt f (f v) 6 ≤ i + j → rlxk A j D v = f v := by
  intro j
  induction j with
  | zero =>
    intro i D c h0 hc hc2 hj hD ha hi
    have : c + nI (18000 * 0) = c := by simp [nI]
    rw [rlxk, this]
    exact ⟨hD, hi⟩
  | succ j ih =>
    intro i D c h0 hc hc2 hj hD ha hi
    have e5 : c + nI (18000 * (j + 1)) = (c + 18000) + nI (18000 * j) := by
      rw [show 18000 * (j + 1) = 18000 * j + 18000 by omega, ← nI_add]
      show c + (nI (18000 * j) + 18000) = _
      grind
    have hp : 0 ≤ nI (18000 * j) := nI_pos' (by omega)
    have hp2 : nI (18000 * j) ≤ 108000 := nI_le (b := 108000) (by omega) (by decide)
    have c5 : c + 18000 ≤ 1000000 := by rw [e5] at hc2; grind
    have h18 : nI (500 * 36) = 18000 := by decide
    obtain ⟨r1, r2, r3⟩ := rlxs_bI h 36 0 D c (by omega) h0 (by rw [h18]; exact c5) hc hD
    rw [h18] at r1
    have fin : ∀ v : Nat, v < 6 → D v = f v → f v < 1000000 → rlxs A 36 0 D v = f v := by
      intro v hv e1 e2
      have b1 := h.2.1 v hv
      have a1 := r2 v hv (by rw [e1]; grind)
      have a2 := r1 v hv
      grind
    have key : ∀ v : Nat, v < 6 → f v < 1000000 → cnt f (f v) 6 ≤ i + 1 → rlxs A 36 0 D v = f v := by
      intro v hv e2 hn
      by_cases cv : D v = f v
      · exact fin v hv cv e2
      · have hva : v ≠ a := by rintro rfl; exact cv ha
        obtain ⟨u, hu, hu2, hu3⟩ := hpre v hv hva e2
        have b1 := h.2.1 u hu
        have b2 := h.1 (6 * u + v) (by omega)
        have b3 := h.2.1 v hv
        have l1 : f u < f v := by grind
        have l2 := cnt_lt f (f u) (f v) (by grind) 6 u hu l1 (by grind)
        have l3 := hi u hu (by grind) (by omega)
        have l4 := r3 (6 * u + v) (by omega) (by omega) hu2 (by rw [(d6 hv).1, l3]; grind)
        rw [(d6 hv).1, (d6 hv).2, l3] at l4
        have l5 := r1 v hv
        have l6 := l4.1
        have l7 := l4.2
        clear r1 r2 r3 hi hpre ih fin h
        grind
    have ha2 : rlxs A 36 0 D a = f a := by
      have b1 := h.2.1 a ha6
      have a1 := r2 a ha6 (by rw [ha]; grind)
      have a2 := r1 a ha6
      grind
    rw [rlxk, e5]
    obtain ⟨z1, z2⟩ := ih (i + 1) (rlxs A 36 0 D) (c + 18000) (by grind) c5 (by rw [← e5]; exact hc2) (by omega) r1 ha2 key
    exact ⟨z1, fun v hv e2 hn => z2 v hv e2 (by omega)⟩
theorem bfini_at {a : Nat} (ha : a < 6) : ∀ (m t : Nat) (r : Nat → Int32), t + m = 6 → ∀ v : Nat, v < 6 → bfini (nI a) m t r v = if t ≤ v then (if v = a then 0 else (-1000000)) else r v := by
  intro m
  induction m with
  | zero => intro t r ht v hv; rw [bfini, if_neg (by omega)]
  | succ m ih =>
    intro t r ht v hv
    rw [bfini, ih (t + 1) _ (by omega) v hv]
    by_cases c : v = t
    · subst c
      rw [if_neg (by omega), if_pos (Nat.le_refl _), pk_us]
      by_cases c2 : v = a
      · rw [if_pos c2, if_pos (by rw [c2])]
      · rw [if_neg c2, if_neg (fun q => c2 ((nI_eq (by omega) (by omega)).mp q))]
    · rw [pk_un c]
      by_cases c2 : t ≤ v
      · rw [if_pos c2, if_pos (by omega)]
      · rw [if_neg c2, if_neg (by omega)]
theorem far_ok {A : Nat → Int32} (hA : ∀ k : Nat, k < 36 → 0 ≤ A k ∧ A k ≤ 500) {a b : Nat} (ha : a < 6) (hb : b < 6) (r : Nat → Int32) : bfrow A (nI a) r b = if flo A (6 * a + b) < 1000000 then flo A (6 * a + b) else (-1000000) := by
  obtain ⟨h1, h2, h3, h4, h5⟩ := fS_flo hA
  have hN : fN A (fun v => flo A (6 * a + v)) := by
    refine ⟨hA, fun v hv => h1 a v ha hv, fun k hk hp => ?_⟩
    show flo A (6 * a + k % 6) ≤ flo A (6 * a + k / 6) + A k
    have hk6 : k / 6 < 6 := by omega
    have hm6 : k % 6 < 6 := by omega
    have hk : 6 * (k / 6) + k % 6 = k := by omega
    have b1 := h1 a (k / 6) ha hk6
    have b2 := h1 a (k % 6) ha hm6
    have b3 := hA k (by omega)
    by_cases c : k / 6 = k % 6
    · rw [c] at b1 ⊢
      grind
    · have t1 := h3 (k / 6) a (k % 6) hk6 hk6 ha hm6
      have t2 := h5 (k / 6) (k % 6) hk6 hm6 c (by rw [hk]; exact hp)
      have b4 := h1 (k / 6) (k % 6) hk6 hm6
      rw [hk] at t1 t2 b4
      grind
  have e0 : flo A (6 * a + a) = 0 := h2 a ha
  have hini := bfini_at ha 6 0 r (by omega)
  obtain ⟨z1, z2⟩ := rlxk_ok hN ha (fun v hv hva hlt => h4 a v ha hv (Ne.symm hva) hlt) 6 0 (bfini (nI a) 6 0 r) 0 (by decide) (by decide) (by decide) (by omega) (by
    intro v hv
    rw [hini v hv, if_pos (by omega)]
    by_cases c : v = a
    · subst c; rw [if_pos rfl]; right; show flo A (6 * v + v) ≤ 0 ∧ _; rw [e0]; decide
    · rw [if_neg c]; exact Or.inl rfl) (by rw [hini a ha, if_pos (by omega), if_pos rfl]; exact e0.symm) (by
    intro v hv hlt hc
    rw [hini v hv, if_pos (by omega)]
    by_cases c : v = a
    · subst c; rw [if_pos rfl]; exact e0.symm
    · exfalso
      obtain ⟨u, hu, hu2, hu3⟩ := h4 a v ha hv (Ne.symm c) hlt
      have b1 := h1 a u ha hu
      have b2 := h1 a v ha hv
      have b3 := hA (6 * u + v) (by omega)
      have l1 : flo A (6 * a + u) < flo A (6 * a + v) := by grind
      have := cnt_lt (fun v => flo A (6 * a + v)) (flo A (6 * a + u)) (flo A (6 * a + v)) (by grind) 6 u hu l1 (by show ¬ flo A (6 * a + u) < flo A (6 * a + u); grind)
      omega)
  have b1 := h1 a b ha hb
  unfold bfrow
  by_cases c : flo A (6 * a + b) < 1000000
  · rw [if_pos c]
    have := cnt_self (fun v => flo A (6 * a + v)) 6 b hb
    exact z2 b hb c (by show cnt _ (flo A (6 * a + b)) 6 ≤ 0 + 6; omega)
  · rw [if_neg c]
    have z3 := z1 b hb
    have h108 : (0 : Int32) + nI (18000 * 6) = 108000 := by decide
    rw [h108] at z3
    rcases z3 with z3 | z3
    · exact z3
    · exfalso
      have z4 : flo A (6 * a + b) ≤ rlxk A 6 (bfini (nI a) 6 0 r) b := z3.1
      have z5 := z3.2
      clear z3 z1 z2 hN h1 h2 h3 h4 h5 hini
      grind
theorem flo4_c : ∀ (m t : Nat) (F G : Nat → Int32), t + m = 6 → (∀ a : Nat, a < 6 → F (6 * a + a) = 0) → (∀ k : Nat, k < 36 → 0 ≤ F k ∧ F k ≤ 1000000) → (∀ k : Nat, k < 36 → F k = G k) → ∀ k : Nat, k < 36 → flo4 m t F k = flo4 m t G k := by
  have s1 : ∀ (F G : Nat → Int32) (t : Nat), t < 6 → (∀ k : Nat, k < 36 → F k = G k) → ∀ k : Nat, k < 36 → FR F t k = FR G t k := fun F G t ht hFG k hk => FR_c (hFG _ (by omega)).symm (hFG _ (by omega)).symm (hFG k hk).symm |>.symm
  intro m
  induction m with
  | zero => intro t F G _ _ _ hFG k hk; rw [flo4, flo4]; exact hFG k hk
  | succ m ih =>
    intro t F G ht hd hb hFG k hk
    rw [flo4, flo4]
    have f3 : ∀ k : Nat, k < 36 → flo3 t 6 0 F k = FR F t k := fun k hk => by rw [flo3_at (by omega) 6 0 F (by omega) (hd t (by omega)) k hk, if_pos (by omega)]
    have g3 : ∀ k : Nat, k < 36 → flo3 t 6 0 G k = FR G t k := fun k hk => by rw [flo3_at (by omega) 6 0 G (by omega) (by rw [← hFG _ (by omega)]; exact hd t (by omega)) k hk, if_pos (by omega)]
    refine ih (t + 1) _ _ (by omega) (fun a ha => ?_) (fun k hk => ?_) (fun k hk => ?_) k hk
    · rw [f3 _ (by omega)]
      unfold FR
      rw [(d6 ha).1, (d6 ha).2, hd a ha]
      have b1 := hb (6 * a + t) (by omega)
      have b2 := hb (6 * t + a) (by omega)
      grind
    · rw [f3 k hk]
      unfold FR
      have b1 := hb k hk
      have b2 := hb (6 * (k / 6) + t) (by omega)
      have b3 := hb (6 * t + k % 6) (by omega)
      grind
    · rw [f3 k hk, g3 k hk]
      exact s1 F G t (by omega) hFG k hk
theorem flo_c {A R : Nat → Int32} (hA : ∀ k : Nat, k < 36 → 0 ≤ A k ∧ A k ≤ 500) {G : Nat → Int32} (hG : ∀ k : Nat, k < 36 → G k = flo0 A k) : ∀ k : Nat, k < 36 → flo4 6 0 G k = flo A k := by
  intro k hk
  have z := fS_0 hA
  exact (flo4_c 6 0 _ _ (by omega) z.2.1 (fun k hk => by have := z.1 (k / 6) (k % 6) (by omega) (by omega); rwa [show 6 * (k / 6) + k % 6 = k by omega] at this) (fun k hk => (hG k hk).symm) k hk).symm
/-- both sides' fewest miles -/
theorem far_both {A F R : Nat → Int32} (h : gRo A F R) {a b : Nat} (ha : a < 6) (hb : b < 6) (r : Nat → Int32) : bfrow R (nI a) r b = if F (6 * a + b) < 1000000 then F (6 * a + b) else (-1000000) := by
  rw [h.2 _ (by omega)]
  have hR : ∀ k : Nat, k < 36 → 0 ≤ R k ∧ R k ≤ 500 := fun k hk => by rw [(h.1 k hk).1]; exact (h.1 k hk).2
  rw [far_ok hR ha hb]
  have key := flo_c (R := R) (fun k hk => (h.1 k hk).2) (G := flo0 R) (fun k hk => by unfold flo0; rw [(h.1 k hk).1]) (6 * a + b) (by omega)
  rw [show flo R (6 * a + b) = flo A (6 * a + b) from key]
