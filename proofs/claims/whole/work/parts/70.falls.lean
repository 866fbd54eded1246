/-! falls -/
section FALLS
variable {nb nn : Nat} {M N : xM}
def bp (v o : Nat) : Bool := decide ((nI v >>> (nI o &&& 31)) &&& 1 = 0)
def hsum (f : Nat → Int32) (p : Nat → Bool) : Nat → Nat → Int32 → Int32
  | 0, _, acc => acc
  | m + 1, i, acc => hsum f p m (i + 1) (if p i = true then acc + f i else acc)
theorem hsum_c {f g : Nat → Int32} {p q : Nat → Bool} : ∀ (m i : Nat) (acc : Int32), (∀ k, i ≤ k → k < i + m → ∀ x : Int32, (if p k = true then x + f k else x) = if q k = true then x + g k else x) → hsum f p m i acc = hsum g q m i acc := by
  intro m
  induction m with
  | zero => intro i acc _; rfl
  | succ m ih =>
    intro i acc h
    rw [hsum, hsum, h i (Nat.le_refl _) (by omega), ih (i + 1) _ (fun k h1 h2 => h k (by omega) (by omega))]
theorem hsum_z {f : Nat → Int32} {p : Nat → Bool} : ∀ (m i : Nat) (acc : Int32), (∀ k, i ≤ k → k < i + m → p k = true → f k = 0) → hsum f p m i acc = acc := by
  intro m
  induction m with
  | zero => intro i acc _; rfl
  | succ m ih =>
    intro i acc h
    have e : (if p i = true then acc + f i else acc) = acc := by
      by_cases c : p i = true
      · rw [if_pos c, h i (Nat.le_refl _) (by omega) c]; simp
      · rw [if_neg c]
    rw [hsum, e]
    exact ih (i + 1) acc (fun k h1 h2 => h k (by omega) (by omega))
theorem hsum_a {f : Nat → Int32} {p : Nat → Bool} : ∀ (m1 m2 i : Nat) (acc : Int32), hsum f p (m1 + m2) i acc = hsum f p m2 (i + m1) (hsum f p m1 i acc) := by
  intro m1
  induction m1 with
  | zero => intro m2 i acc; rw [Nat.zero_add]; rfl
  | succ m1 ih =>
    intro m2 i acc
    rw [show m1 + 1 + m2 = (m1 + m2) + 1 by omega, hsum, ih, hsum, show i + 1 + m1 = i + (m1 + 1) by omega]
theorem needL (i0 v : Nat) (M : xM) : ∀ (m o n : Nat) (has : Int32) (kx : Int32 → Int32 → Bool), o + m = 8 → m < n → f_X0_isInNeed_L7 i0 (nI v) M n has (nI o) kx = kx (hsum (M 28 i0) (bp v) m o has) 8 := by
  intro m
  induction m with
  | zero =>
    intro o n has kx h1 h2
    obtain ⟨n, rfl⟩ : ∃ k, n = k + 1 := ⟨n - 1, by omega⟩
    obtain rfl : o = 8 := by omega
    rw [f_X0_isInNeed_L7, if_pos (by decide)]
    rfl
  | succ m ih =>
    intro o n has kx h1 h2
    obtain ⟨n, rfl⟩ : ∃ k, n = k + 1 := ⟨n - 1, by omega⟩
    rw [f_X0_isInNeed_L7, if_neg (show ¬ (8 : Int32) ≤ nI o from nI_ge (b := 8) (by omega) (by decide)), hsum]
    simp only [xlet_p, nI_1, nI_clamp (show o < 2 ^ 31 by omega)]
    by_cases c : (nI v >>> (nI o &&& 31)) &&& 1 = 0
    · rw [if_pos c, if_pos (show bp v o = true from decide_eq_true c)]
      exact ih (o + 1) n _ kx (by omega) (by omega)
    · rw [if_neg c, if_neg (show ¬ bp v o = true by unfold bp; simp [c])]
      exact ih (o + 1) n _ kx (by omega) (by omega)
def ndp (M : xM) (v i : Nat) : Bool := decide (¬ M 27 i 3 ≤ hsum (M 28 i) (bp v) 8 0 (M 27 i 2))
theorem need_eq (i v : Nat) (M : xM) : f_X0_isInNeed i (nI v) M = ndp M v i := by
  unfold f_X0_isInNeed
  simp only [xlet_p]
  have L := needL i v M 8 0 (xmu (0 : Int32) 8 + 1) (M 27 i 2) (fun has_7 o_8 => if (M 27 i 3) ≤ has_7 then false else true) (by omega) (by decide)
  rw [show nI 0 = (0 : Int32) from rfl] at L
  rw [L]
  unfold ndp
  split <;> simp_all
theorem binL (h : xHB nb M) (v : Nat) : ∀ (m i n acc : Nat) (kx : Int32 → Int32 → Int32), i + m = nb → m < n → acc < 2 ^ i → f_X10_banksInNeed_L4 (nI v) M n (nI acc) (nI i) kx = kx (nI (msk (ndp M v) m i acc)) (nI nb) := by
  have h8 := h.1
  intro m
  induction m with
  | zero =>
    intro i n acc kx h1 h2 h3
    obtain ⟨n, rfl⟩ : ∃ k, n = k + 1 := ⟨n - 1, by omega⟩
    obtain rfl : i = nb := by omega
    rw [f_X10_banksInNeed_L4, h.2.1, if_pos (nI_le (Nat.le_refl _) (by omega)), msk]
  | succ m ih =>
    intro i n acc kx h1 h2 h3
    obtain ⟨n, rfl⟩ : ∃ k, n = k + 1 := ⟨n - 1, by omega⟩
    have u := nI_u (show i < nb by omega) (by omega)
    have e2 : 2 ^ (i + 1) = 2 ^ i + 2 ^ i := by rw [Nat.pow_succ]; omega
    rw [f_X10_banksInNeed_L4, h.2.1, if_neg (nI_ge (by omega) (by omega)), msk]
    simp only [xlet_p, bankOf_eq h, if_pos u, xopt_ps, nI_clamp (show i < 2 ^ 31 by omega), nI_1, shl_n (show i < 8 by omega), or_n (show i < 8 by omega) h3, need_eq, xb_0]
    by_cases c : ndp M v i = true
    · rw [if_neg (by rw [c]; decide), if_pos c]
      exact ih (i + 1) n _ kx (by omega) (by omega) (by omega)
    · have c' : ndp M v i = false := by simpa using c
      rw [if_pos c', if_neg c]
      exact ih (i + 1) n acc kx (by omega) (by omega) (by omega)
theorem bin_eq (h : xHB nb M) (v : Nat) : f_X10_banksInNeed (nI v) M = nI (msk (ndp M v) nb 0 0) := by
  unfold f_X10_banksInNeed
  have h8 := h.1
  have := binL h v nb 0 (xmu (0 : Int32) (M 0 0 12) + 1) 0 (fun inNeed_13 i_14 => inNeed_13) (by omega) (by rw [h.2.1]; unfold xmu; rw [nI_toInt (by omega)]; simp) (by decide)
  rw [show nI 0 = (0 : Int32) from rfl] at this
  exact this
/-- one round -/
def rnd (M : xM) (nb v : Nat) : Nat := v ||| msk (ndp M v) nb 0 0
theorem msk256 (p : Nat → Bool) (h8 : nb ≤ 8) : msk p nb 0 0 < 256 := by
  have := msk_lt p nb 0 0 (by decide)
  have : 2 ^ (0 + nb) ≤ 2 ^ 8 := Nat.pow_le_pow_right (by decide) (by omega)
  omega
theorem rnd256 (h8 : nb ≤ 8) {v : Nat} (hv : v < 256) : rnd M nb v < 256 := Nat.or_lt_two_pow (n := 8) hv (msk256 _ h8)
theorem rnd_ge (v : Nat) : v ≤ rnd M nb v := Nat.left_le_or
theorem cntP_mono {p q : Nat → Bool} : ∀ m i, (∀ k, p k = true → q k = true) → cntP p m i ≤ cntP q m i := by
  intro m
  induction m with
  | zero => intro i _; exact Nat.le_refl _
  | succ m ih =>
    intro i h
    rw [cntP, cntP]
    have := ih (i + 1) h
    by_cases c : p i = true
    · rw [if_pos c, if_pos (h i c)]; omega
    · rw [if_neg c]; omega
theorem cntP_st {p q : Nat → Bool} : ∀ m i, (∀ k, p k = true → q k = true) → (∃ k, i ≤ k ∧ k < i + m ∧ q k = true ∧ p k = false) → cntP p m i < cntP q m i := by
  intro m
  induction m with
  | zero => intro i _ ⟨k, h1, h2, _⟩; omega
  | succ m ih =>
    intro i h ⟨k, h1, h2, h3, h4⟩
    rw [cntP, cntP]
    by_cases e : k = i
    · subst e
      have := cntP_mono (p := p) (q := q) m (k + 1) h
      rw [h4, h3]
      simp
      omega
    · have := ih (i + 1) h ⟨k, by omega, by omega, h3, h4⟩
      by_cases c : p i = true
      · rw [if_pos c, if_pos (h i c)]; omega
      · rw [if_neg c]; omega
theorem pop_lt (h8 : nb ≤ 8) {v : Nat} (hv : v < 256) (hne : rnd M nb v ≠ v) : pop v < pop (rnd M nb v) := by
  have hw := rnd256 (M := M) h8 hv
  refine cntP_st 8 0 (fun k hk => ?_) ?_
  · unfold rnd
    rw [Nat.testBit_or, hk]; rfl
  · by_cases c : ∃ k, 0 ≤ k ∧ k < 0 + 8 ∧ (rnd M nb v).testBit k = true ∧ v.testBit k = false
    · exact c
    · exfalso
      refine hne (Nat.eq_of_testBit_eq fun k => ?_)
      by_cases k8 : k < 8
      · cases e1 : v.testBit k with
        | true => unfold rnd; rw [Nat.testBit_or, e1]; rfl
        | false =>
          cases e2 : (rnd M nb v).testBit k with
          | false => rfl
          | true => exact absurd ⟨k, by omega, by omega, e2, e1⟩ c
      · have p8 : (256 : Nat) ≤ 2 ^ k := by
          have : 2 ^ 8 ≤ 2 ^ k := Nat.pow_le_pow_right (by decide) (by omega)
          omega
        rw [Nat.testBit_lt_two_pow (by omega), Nat.testBit_lt_two_pow (by omega)]
theorem pop8 (v : Nat) : pop v ≤ 8 := cntP_le _ _ _
def fx (M : xM) (nb : Nat) : Nat → Nat → Nat → Nat × Nat
  | 0, v, r => (v, r)
  | j + 1, v, r => if rnd M nb v = v then (v, r) else fx M nb j (rnd M nb v) (r + 1)
theorem faL21 (h : xHB nb M) (what : Int32) (kx : Int32 → Int32 → Int32) : ∀ (j d n v r : Nat), d + j = 8 → j < n → v < 256 → f_X10_falls_L21 what M n (nI v) (nI r) (nI d) (fun a b _ => kx a b) = kx (nI (fx M nb j v r).1) (nI (fx M nb j v r).2) := by
  have h8 := h.1
  intro j
  induction j with
  | zero =>
    intro d n v r h1 h2 hv
    obtain ⟨n, rfl⟩ : ∃ k, n = k + 1 := ⟨n - 1, by omega⟩
    obtain rfl : d = 8 := by omega
    rw [f_X10_falls_L21, if_pos (by decide), fx]
  | succ j ih =>
    intro d n v r h1 h2 hv
    obtain ⟨n, rfl⟩ : ∃ k, n = k + 1 := ⟨n - 1, by omega⟩
    rw [f_X10_falls_L21, if_neg (show ¬ (8 : Int32) ≤ nI d from nI_ge (b := 8) (by omega) (by decide)), fx]
    have e : nI v ||| nI (msk (ndp M v) nb 0 0) = nI (rnd M nb v) := fa_or _ _
    have hw := rnd256 (M := M) h8 hv
    simp only [xlet_p, bin_eq h, e, nI_1, nI_eq (show rnd M nb v < 2 ^ 31 by omega) (show v < 2 ^ 31 by omega)]
    by_cases c : rnd M nb v = v
    · rw [if_pos c, if_pos c]
    · rw [if_neg c, if_neg c]
      exact ih (d + 1) n _ _ (by omega) (by omega) hw
end FALLS
