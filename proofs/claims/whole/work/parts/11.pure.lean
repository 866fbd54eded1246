/-! rows of the state, and the reference's way through the roads -/
theorem xrow_at (M : xM) (κ i : Nat) (r : Nat → Int32) (a b c : Nat) : xrow M κ i r a b c = if a = κ ∧ b = i then r c else M a b c := rfl
theorem xrow_self (M : xM) (κ i : Nat) : xrow M κ i (M κ i) = M := by
  funext a b c
  rw [xrow_at]
  by_cases h : a = κ ∧ b = i
  · rw [if_pos h, h.1, h.2]
  · rw [if_neg h]
theorem xrow_xrow (M : xM) (κ i : Nat) (r q : Nat → Int32) : xrow (xrow M κ i r) κ i q = xrow M κ i q := by
  funext a b c
  simp only [xrow_at]
  by_cases h : a = κ ∧ b = i
  · rw [if_pos h, if_pos h]
  · rw [if_neg h, if_neg h, if_neg h]
theorem xrow_k {M : xM} {κ i a b : Nat} {r : Nat → Int32} (h : a ≠ κ) : xrow M κ i r a b = M a b := xrow_ne (fun q => h q.1)
theorem xup_self (M : xM) (κ i j : Nat) : xup M κ i j (M κ i j) = M := by
  funext a b c
  rw [xup_at]
  by_cases h : a = κ ∧ b = i ∧ c = j
  · rw [if_pos h, h.1, h.2.1, h.2.2]
  · rw [if_neg h]
theorem xup_xup (M : xM) (κ i j : Nat) (v w : Int32) : xup (xup M κ i j v) κ i j w = xup M κ i j w := by
  funext a b c
  simp only [xup_at]
  by_cases h : a = κ ∧ b = i ∧ c = j
  · rw [if_pos h, if_pos h]
  · rw [if_neg h, if_neg h, if_neg h]
def rlx (ro r : Nat → Int32) (t : Nat) : Nat → Int32 := if ro t ≤ 0 then r else if r (t / 6) = (-1000000) then r else if r (t % 6) = (-1000000) then upd r (t % 6) (r (t / 6) + ro t) else if r (t % 6) ≤ r (t / 6) + ro t then r else upd r (t % 6) (r (t / 6) + ro t)
def rlxs (ro : Nat → Int32) : Nat → Nat → (Nat → Int32) → (Nat → Int32)
  | 0, _, r => r
  | m + 1, t, r => rlxs ro m (t + 1) (rlx ro r t)
def rlxk (ro : Nat → Int32) : Nat → (Nat → Int32) → (Nat → Int32)
  | 0, r => r
  | k + 1, r => rlxk ro k (rlxs ro 36 0 r)
def bfini (a : Int32) : Nat → Nat → (Nat → Int32) → (Nat → Int32)
  | 0, _, r => r
  | m + 1, t, r => bfini a m (t + 1) (upd r t (if nI t = a then 0 else (-1000000)))
def bfrow (ro : Nat → Int32) (a : Int32) (r : Nat → Int32) : Nat → Int32 := rlxk ro 6 (bfini a 6 0 r)
theorem farL42 (a b k : Int32) : ∀ (m t n : Nat) (N : xM) (kx : Int32 → xM → Int32 × xM), t + m = 36 → m < n → f_X11_farFrom_L42 a b k n (nI t) N kx = kx 36 (xrow N 56 0 (rlxs (N 55 0) m t (N 56 0))) := by
  intro m
  induction m with
  | zero =>
    intro t n N kx h1 h2
    obtain ⟨n, rfl⟩ : ∃ k, n = k + 1 := ⟨n - 1, by omega⟩
    have ht : t = 36 := by omega
    subst ht
    rw [f_X11_farFrom_L42, if_pos (by decide), rlxs, xrow_self]
    rfl
  | succ m ih =>
    intro t n N kx h1 h2
    obtain ⟨n, rfl⟩ : ∃ k, n = k + 1 := ⟨n - 1, by omega⟩
    have ht : t < 36 := by omega
    have e1 : nI t / 6 = nI (t / 6) := pk_div (d := 6) (by omega) (by decide) (by decide)
    have e2 : nI t - nI t / 6 * 6 = nI (t % 6) := pk_rem (d := 6) (by omega) (by decide) (by decide)
    have e2' : nI t - nI (t / 6) * 6 = nI (t % 6) := by rw [← e1]; exact e2
    have c0 : (nI t).toNatClampNeg = t := nI_clamp (by omega)
    have c1 : (nI (t / 6)).toNatClampNeg = t / 6 := nI_clamp (by omega)
    have c2 : (nI (t % 6)).toNatClampNeg = t % 6 := nI_clamp (by omega)
    have e3 : nI t + 1 = nI (t + 1) := nI_1 t
    rw [f_X11_farFrom_L42, if_neg (show ¬ (36 : Int32) ≤ nI t from nI_ge (b := 36) ht (by decide))]
    simp only [xlet, e1, e2', c0, c1, c2, e3]
    rw [rlxs, rlx]
    by_cases d1 : N 55 0 t ≤ 0
    · rw [if_pos d1, if_pos d1]; exact ih (t + 1) n N kx (by omega) (by omega)
    · rw [if_neg d1, if_neg d1]
      by_cases d2 : N 56 0 (t / 6) = (-1000000)
      · rw [if_pos d2, if_pos d2]; exact ih (t + 1) n N kx (by omega) (by omega)
      · rw [if_neg d2, if_neg d2]
        have key : ∀ v, f_X11_farFrom_L42 a b k n (nI (t + 1)) (xup N 56 0 (t % 6) v) kx = kx 36 (xrow N 56 0 (rlxs (N 55 0) m (t + 1) (upd (N 56 0) (t % 6) v))) := by
          intro v
          rw [ih (t + 1) n _ kx (by omega) (by omega)]
          show kx 36 (xrow (xrow N 56 0 (upd (N 56 0) (t % 6) v)) 56 0 _) = _
          rw [xrow_xrow, show xup N 56 0 (t % 6) v 55 0 = N 55 0 from xrow_k (by decide), show xup N 56 0 (t % 6) v 56 0 = upd (N 56 0) (t % 6) v from xrow_same]
        by_cases d3 : N 56 0 (t % 6) = (-1000000)
        · rw [if_pos d3, if_pos d3]; exact key _
        · rw [if_neg d3, if_neg d3]
          by_cases d4 : N 56 0 (t % 6) ≤ N 56 0 (t / 6) + N 55 0 t
          · rw [if_pos d4, if_pos d4]; exact ih (t + 1) n N kx (by omega) (by omega)
          · rw [if_neg d4, if_neg d4]; exact key _
theorem farL33 (a b : Int32) : ∀ (m t n : Nat) (N : xM) (kx : Int32 → xM → Int32 × xM), t + m = 6 → m < n → f_X11_farFrom_L33 a b n (nI t) N kx = kx 6 (xrow N 56 0 (rlxk (N 55 0) m (N 56 0))) := by
  intro m
  induction m with
  | zero =>
    intro t n N kx h1 h2
    obtain ⟨n, rfl⟩ : ∃ k, n = k + 1 := ⟨n - 1, by omega⟩
    have ht : t = 6 := by omega
    subst ht
    rw [f_X11_farFrom_L33, if_pos (by decide), rlxk, xrow_self]
    rfl
  | succ m ih =>
    intro t n N kx h1 h2
    obtain ⟨n, rfl⟩ : ∃ k, n = k + 1 := ⟨n - 1, by omega⟩
    have ht : t < 6 := by omega
    rw [f_X11_farFrom_L33, if_neg (show ¬ (6 : Int32) ≤ nI t from nI_ge (b := 6) ht (by decide))]
    have h36 := farL42 a b (nI t) 36 0 (xmu (0 : Int32) 36 + 1) N (fun t_18 M_19 => xlet (nI t + 1) fun x3_20 => f_X11_farFrom_L33 a b n x3_20 M_19 kx) (by omega) (by decide)
    rw [show (0 : Int32) = nI 0 from rfl] at h36 ⊢
    rw [h36]
    simp only [xlet]
    rw [nI_1, ih (t + 1) n _ kx (by omega) (by omega), xrow_xrow, rlxk, xrow_same, xrow_k (by decide)]
theorem farL2 (a b : Int32) : ∀ (m t n : Nat) (N : xM) (kx : Int32 → xM → Int32 × xM), t + m = 6 → m < n → f_X11_farFrom_L2 a b n (nI t) N kx = kx 6 (xrow N 56 0 (bfini a m t (N 56 0))) := by
  intro m
  induction m with
  | zero =>
    intro t n N kx h1 h2
    obtain ⟨n, rfl⟩ : ∃ k, n = k + 1 := ⟨n - 1, by omega⟩
    have ht : t = 6 := by omega
    subst ht
    rw [f_X11_farFrom_L2, if_pos (by decide), bfini, xrow_self]
    rfl
  | succ m ih =>
    intro t n N kx h1 h2
    obtain ⟨n, rfl⟩ : ∃ k, n = k + 1 := ⟨n - 1, by omega⟩
    have ht : t < 6 := by omega
    have c0 : (nI t).toNatClampNeg = t := nI_clamp (by omega)
    rw [f_X11_farFrom_L2, if_neg (show ¬ (6 : Int32) ≤ nI t from nI_ge (b := 6) ht (by decide))]
    simp only [xlet, c0, nI_1]
    have key : ∀ v, f_X11_farFrom_L2 a b n (nI (t + 1)) (xup N 56 0 t v) kx = kx 6 (xrow N 56 0 (bfini a m (t + 1) (upd (N 56 0) t v))) := by
      intro v
      rw [ih (t + 1) n _ kx (by omega) (by omega)]
      show kx 6 (xrow (xrow N 56 0 (upd (N 56 0) t v)) 56 0 _) = _
      rw [xrow_xrow, show xup N 56 0 t v 56 0 = upd (N 56 0) t v from xrow_same]
    rw [bfini]
    by_cases d : nI t = a
    · rw [if_pos d, if_pos d]; exact key _
    · rw [if_neg d, if_neg d]; exact key _
/-- what farFrom does: the row of miles is the reference's way, and nothing else moves -/
theorem farFrom_eq (a b : Int32) (M : xM) : f_X11_farFrom a b M = (bfrow (M 55 0) a (M 56 0) b.toNatClampNeg, xrow M 56 0 (bfrow (M 55 0) a (M 56 0))) := by
  unfold f_X11_farFrom
  rw [show (0 : Int32) = nI 0 from rfl, farL2 a b 6 0 _ M _ (by omega) (by decide)]
  rw [farL33 a b 6 0 _ _ _ (by omega) (by decide), xrow_xrow, xrow_same, xrow_same, xrow_k (by decide)]
  rfl
/-- a scan: as long as a place below len has q, one further -/
def scn (q : Int32 → Bool) (len : Int32) : Nat → Int32 → Int32
  | 0, p => p
  | n + 1, p => if p < len ∧ q p = true then scn q len n (p + 1) else p
theorem scn_ge (q : Int32 → Bool) (len : Int32) : ∀ (n : Nat) (p : Int32), p ≤ scn q len n p
  | 0, p => by rw [scn]; grind
  | n + 1, p => by
    rw [scn]
    by_cases h : p < len ∧ q p = true
    · rw [if_pos h]
      have := scn_ge q len n (p + 1)
      grind
    · rw [if_neg h]; grind
theorem scn_le (q : Int32 → Bool) (len : Int32) : ∀ (n : Nat) (p : Int32), p ≤ len → scn q len n p ≤ len
  | 0, p, hp => by rw [scn]; exact hp
  | n + 1, p, hp => by
    rw [scn]
    by_cases h : p < len ∧ q p = true
    · rw [if_pos h]
      exact scn_le q len n (p + 1) (by grind)
    · rw [if_neg h]; exact hp
theorem scn_gt (q : Int32 → Bool) (len : Int32) (n : Nat) (p : Int32) (h1 : p < len) (h2 : q p = true) : p < scn q len (n + 1) p := by
  rw [scn, if_pos ⟨h1, h2⟩]
  have := scn_ge q len n (p + 1)
  grind
theorem scn_stop (q : Int32 → Bool) (len : Int32) : ∀ (n : Nat) (p : Int32), xmu p len < n → ¬ (scn q len n p < len ∧ q (scn q len n p) = true)
  | 0, p, h => absurd h (Nat.not_lt_zero _)
  | n + 1, p, h => by
    rw [scn]
    by_cases c : p < len ∧ q p = true
    · rw [if_pos c]
      exact scn_stop q len n (p + 1) (by have := xmu_up c.1; omega)
    · rw [if_neg c]; exact c
theorem scn_fuel (q : Int32 → Bool) (len : Int32) : ∀ (n m : Nat) (p : Int32), xmu p len < n → xmu p len < m → scn q len n p = scn q len m p
  | 0, m, p, h, _ => absurd h (Nat.not_lt_zero _)
  | n + 1, 0, p, _, h => absurd h (Nat.not_lt_zero _)
  | n + 1, m + 1, p, h1, h2 => by
    rw [scn, scn]
    by_cases c : p < len ∧ q p = true
    · rw [if_pos c, if_pos c]
      have := xmu_up c.1
      exact scn_fuel q len n m (p + 1) (by omega) (by omega)
    · rw [if_neg c, if_neg c]
/-! the reference's tokens -/
def isW (q : Int32) : Bool := decide (q = 32 ∨ q = 10)
def isL (q : Int32) : Bool := decide (97 ≤ q ∧ q ≤ 122)
def isD (q : Int32) : Bool := decide (48 ≤ q ∧ q ≤ 57)
theorem isLetter_eq (q : Int32) (M : xM) : f_X11_isLetter q M = isL q := by
  unfold f_X11_isLetter isL; grind
theorem isFigure_eq (q : Int32) (M : xM) : f_X11_isFigure q M = isD q := by
  unfold f_X11_isFigure isD; grind
abbrev byt (B : Nat → Int32) (f : Int32 → Bool) : Int32 → Bool := fun p => f (B p.toNatClampNeg)
theorem byteAt_eq (k : Int32) (M : xM) : f_X11_byteAt k M = if k < M 40 0 23 then M 70 0 k.toNatClampNeg else (-1000000) := by
  unfold f_X11_byteAt
  by_cases h : k < M 40 0 23
  · rw [if_pos h, if_neg (by grind)]
  · rw [if_neg h, if_pos (by grind)]
theorem cur_up (N : xM) (v : Int32) : xup N 40 0 24 v 40 0 23 = N 40 0 23 ∧ xup N 40 0 24 v 70 0 = N 70 0 ∧ xup N 40 0 24 v 40 0 24 = v := by
  refine ⟨by simp [xup_at], ?_, by simp [xup_at]⟩
  funext j; simp [xup_at]
theorem stepL0 : ∀ (n : Nat) (N : xM) (kx : xM → xM), xmu (N 40 0 24) (N 40 0 23) < n → f_X11_step_L0 n N kx = kx (xup N 40 0 24 (scn (byt (N 70 0) isW) (N 40 0 23) n (N 40 0 24))) := by
  intro n
  induction n with
  | zero => intro N kx h; exact absurd h (Nat.not_lt_zero _)
  | succ n ih =>
    intro N kx h
    rw [f_X11_step_L0, scn]
    simp only [xlet, byteAt_eq]
    by_cases c : N 40 0 24 < N 40 0 23 ∧ byt (N 70 0) isW (N 40 0 24) = true
    · rw [if_pos c]
      obtain ⟨c1, c2⟩ := c
      have hm := xmu_up c1
      obtain ⟨u1, u2, u3⟩ := cur_up N (N 40 0 24 + 1)
      have hrec : f_X11_step_L0 n (xup N 40 0 24 (N 40 0 24 + 1)) kx = kx (xup N 40 0 24 (scn (byt (N 70 0) isW) (N 40 0 23) n (N 40 0 24 + 1))) := by
        rw [ih _ kx (by rw [u1, u3]; omega), u1, u2, u3, xup_xup]
      rw [if_pos c1]
      simp only [byt, isW, decide_eq_true_eq] at c2
      rcases c2 with c2 | c2
      · rw [if_pos c2]; exact hrec
      · rw [if_neg (by rw [c2]; decide), if_pos c2]; exact hrec
    · rw [if_neg c, xup_self]
      by_cases c1 : N 40 0 24 < N 40 0 23
      · have c2 : ¬ isW (N 70 0 (N 40 0 24).toNatClampNeg) = true := fun q => c ⟨c1, q⟩
        simp only [isW, decide_eq_true_eq, not_or] at c2
        rw [if_pos c1, if_neg c2.1, if_neg c2.2]
      · rw [if_neg c1, if_neg (by decide), if_neg (by decide)]
theorem stepL77 (q : Int32) : ∀ (n : Nat) (N : xM) (kx : xM → xM), xmu (N 40 0 24) (N 40 0 23) < n → f_X11_step_L77 q n N kx = kx (xup N 40 0 24 (scn (byt (N 70 0) isL) (N 40 0 23) n (N 40 0 24))) := by
  intro n
  induction n with
  | zero => intro N kx h; exact absurd h (Nat.not_lt_zero _)
  | succ n ih =>
    intro N kx h
    rw [f_X11_step_L77, scn]
    simp only [xlet, byteAt_eq, isLetter_eq, xb_0]
    by_cases c : N 40 0 24 < N 40 0 23 ∧ byt (N 70 0) isL (N 40 0 24) = true
    · rw [if_pos c]
      obtain ⟨c1, c2⟩ := c
      replace c2 : isL (N 70 0 (N 40 0 24).toNatClampNeg) = true := c2
      have hm := xmu_up c1
      obtain ⟨u1, u2, u3⟩ := cur_up N (N 40 0 24 + 1)
      rw [if_pos c1, if_neg (by rw [c2]; decide), ih _ kx (by rw [u1, u3]; omega), u1, u2, u3, xup_xup]
    · rw [if_neg c, xup_self]
      by_cases c1 : N 40 0 24 < N 40 0 23
      · have c2 : isL (N 70 0 (N 40 0 24).toNatClampNeg) = false := by
          cases e : isL (N 70 0 (N 40 0 24).toNatClampNeg) with
          | false => rfl
          | true => exact absurd ⟨c1, e⟩ c
        rw [if_pos c1, if_pos c2]
      · rw [if_neg c1, if_pos (by decide)]
theorem stepL119 (q : Int32) : ∀ (n : Nat) (N : xM) (kx : xM → xM), xmu (N 40 0 24) (N 40 0 23) < n → f_X11_step_L119 q n N kx = kx (xup N 40 0 24 (scn (byt (N 70 0) isD) (N 40 0 23) n (N 40 0 24))) := by
  intro n
  induction n with
  | zero => intro N kx h; exact absurd h (Nat.not_lt_zero _)
  | succ n ih =>
    intro N kx h
    rw [f_X11_step_L119, scn]
    simp only [xlet, byteAt_eq, isFigure_eq, xb_0]
    by_cases c : N 40 0 24 < N 40 0 23 ∧ byt (N 70 0) isD (N 40 0 24) = true
    · rw [if_pos c]
      obtain ⟨c1, c2⟩ := c
      replace c2 : isD (N 70 0 (N 40 0 24).toNatClampNeg) = true := c2
      have hm := xmu_up c1
      obtain ⟨u1, u2, u3⟩ := cur_up N (N 40 0 24 + 1)
      rw [if_pos c1, if_neg (by rw [c2]; decide), ih _ kx (by rw [u1, u3]; omega), u1, u2, u3, xup_xup]
    · rw [if_neg c, xup_self]
      by_cases c1 : N 40 0 24 < N 40 0 23
      · have c2 : isD (N 70 0 (N 40 0 24).toNatClampNeg) = false := by
          cases e : isD (N 70 0 (N 40 0 24).toNatClampNeg) with
          | false => rfl
          | true => exact absurd ⟨c1, e⟩ c
        rw [if_pos c1, if_pos c2]
      · rw [if_neg c1, if_pos (by decide)]
/-- a token: where it begins, where it ends, what it is (0 none, 1 the end, 2 a name, 3 a number, 4 the sign) -/
def tkS (B : Nat → Int32) (len p : Int32) : Int32 := scn (byt B isW) len (xmu p len + 1) p
def tkE (B : Nat → Int32) (len s : Int32) : Int32 := if s < len then (if isL (B s.toNatClampNeg) = true then scn (byt B isL) len (xmu s len + 1) s else if isD (B s.toNatClampNeg) = true then scn (byt B isD) len (xmu s len + 1) s else s + 1) else s
def tkK (B : Nat → Int32) (len s : Int32) : Int32 := if s < len then (if isL (B s.toNatClampNeg) = true then 2 else if isD (B s.toNatClampNeg) = true then (if tkE B len s - s ≤ 4 then 3 else 0) else if B s.toNatClampNeg = 59 then 4 else 0) else 1
def tset (M : xM) (s e k : Int32) : xM := xup (xup (xup (xup M 40 0 24 e) 40 0 26 s) 40 0 25 k) 40 0 27 e
theorem tset_at (M : xM) (s e k : Int32) (a b c : Nat) : tset M s e k a b c = if a = 40 ∧ b = 0 ∧ (c = 24 ∨ c = 27) then e else if a = 40 ∧ b = 0 ∧ c = 26 then s else if a = 40 ∧ b = 0 ∧ c = 25 then k else M a b c := by
  unfold tset
  simp only [xup_at]
  grind
theorem step_eq (M : xM) (hB : ∀ j : Nat, 0 ≤ M 70 0 j) : f_X11_step M = tset M (tkS (M 70 0) (M 40 0 23) (M 40 0 24)) (tkE (M 70 0) (M 40 0 23) (tkS (M 70 0) (M 40 0 23) (M 40 0 24))) (tkK (M 70 0) (M 40 0 23) (tkS (M 70 0) (M 40 0 23) (M 40 0 24))) := by
  unfold f_X11_step
  rw [stepL0 _ M _ (Nat.lt_succ_self _)]
  show _ = tset M (tkS (M 70 0) (M 40 0 23) (M 40 0 24)) _ _
  rw [show scn (byt (M 70 0) isW) (M 40 0 23) (xmu (M 40 0 24) (M 40 0 23) + 1) (M 40 0 24) = tkS (M 70 0) (M 40 0 23) (M 40 0 24) from rfl]
  generalize tkS (M 70 0) (M 40 0 23) (M 40 0 24) = z
  obtain ⟨u1, u2, u3⟩ := cur_up M z
  generalize hN : xup M 40 0 24 z = N at u1 u2 u3 ⊢
  have v1 : xup N 40 0 26 z 40 0 23 = M 40 0 23 := by rw [← u1]; simp [xup_at]
  have v2 : xup N 40 0 26 z 70 0 = M 70 0 := by rw [← u2]; funext j; simp [xup_at]
  have v3 : xup N 40 0 26 z 40 0 24 = z := by rw [← u3]; simp [xup_at]
  have v4 : xup N 40 0 26 z 40 0 26 = z := by simp [xup_at]
  simp only [xlet, u3, byteAt_eq, isLetter_eq, isFigure_eq, xb_0, v1, v2, v3]
  by_cases c : z < M 40 0 23
  · simp only [if_pos c]
    have hb : ¬ M 70 0 z.toNatClampNeg = (-1000000) := by have := hB z.toNatClampNeg; grind
    · rw [if_neg hb]
      cases eL : isL (M 70 0 z.toNatClampNeg) with
      | true =>
        rw [if_neg (by decide)]
        rw [stepL77 _ _ _ _ (by rw [v1, v3]; exact Nat.lt_succ_self _), v1, v2, v3]
        funext a b d
        rw [tset_at]
        simp only [tkE, tkK, if_pos c, eL, if_true, xup_at, ← hN]
        grind
      | false =>
        rw [if_pos rfl]
        cases eD : isD (M 70 0 z.toNatClampNeg) with
        | true =>
          rw [if_neg (by decide)]
          rw [stepL119 _ _ _ _ (by rw [v1, v3]; exact Nat.lt_succ_self _), v1, v2, v3]
          have w1 : ∀ y, xup (xup N 40 0 26 z) 40 0 24 y 40 0 24 = y := fun y => by simp [xup_at]
          have w2 : ∀ y, xup (xup N 40 0 26 z) 40 0 24 y 40 0 26 = z := fun y => by simp [xup_at]
          simp only [w1, w2]
          funext a b d
          rw [tset_at]
          simp only [tkE, tkK, if_pos c, eL, eD, if_true, Bool.false_eq_true, if_false]
          split <;> (simp only [xup_at, ← hN]; grind)
        | false =>
          rw [if_pos rfl]
          funext a b d
          rw [tset_at]
          simp only [tkE, tkK, if_pos c, eL, eD, Bool.false_eq_true, if_false]
          split <;> (simp only [xup_at, ← hN]; grind)
  · simp only [if_neg c, if_true]
    funext a b d
    rw [tset_at]
    simp only [tkE, tkK, if_neg c, xup_at, ← hN]
    grind
theorem tkS_ge (B : Nat → Int32) (len p : Int32) : p ≤ tkS B len p := scn_ge _ _ _ _
theorem tkS_le (B : Nat → Int32) (len p : Int32) (h : p ≤ len) : tkS B len p ≤ len := scn_le _ _ _ _ h
theorem tkE_ge (B : Nat → Int32) (len s : Int32) : s ≤ tkE B len s := by
  unfold tkE
  split
  · split
    · exact scn_ge _ _ _ _
    · split
      · exact scn_ge _ _ _ _
      · grind
  · grind
theorem tkE_le (B : Nat → Int32) (len s : Int32) (h : s ≤ len) : tkE B len s ≤ len := by
  unfold tkE
  split
  · split
    · exact scn_le _ _ _ _ h
    · split
      · exact scn_le _ _ _ _ h
      · grind
  · exact h
theorem tkE_gt (B : Nat → Int32) (len s : Int32) (h : s < len) : s < tkE B len s := by
  unfold tkE
  rw [if_pos h]
  split
  · rename_i c; exact scn_gt _ _ _ _ h c
  · split
    · rename_i c; exact scn_gt _ _ _ _ h c
    · grind
theorem tkK_end (B : Nat → Int32) (len s : Int32) : tkK B len s = 1 ↔ ¬ s < len := by
  unfold tkK
  split
  · rename_i h
    refine ⟨fun q => ?_, fun q => absurd h q⟩
    exfalso
    revert q
    repeat' split
    all_goals decide
  · rename_i h
    exact ⟨fun _ => h, fun _ => rfl⟩
/-- the reference's reader stands in order -/
def pI (M : xM) : Prop := 0 ≤ M 40 0 24 ∧ M 40 0 24 ≤ M 40 0 23 ∧ M 40 0 23 ≤ 400 ∧ 0 ≤ M 40 0 26 ∧ M 40 0 27 ≤ 400 ∧ ∀ j : Nat, 0 ≤ M 70 0 j
theorem bad_at (k : Int32) (M : xM) (a b c : Nat) : f_X11_bad k M a b c = if M 40 0 28 = 0 ∧ a = 40 ∧ b = 0 ∧ c = 28 then k else if M 40 0 28 = 0 ∧ a = 40 ∧ b = 0 ∧ c = 29 then M 40 0 26 else M a b c := by
  unfold f_X11_bad
  simp only [xlet]
  by_cases h : M 40 0 28 = 0
  · rw [if_pos h]; simp only [xup_at, h]; grind
  · rw [if_neg h]; simp only [h, false_and, if_false]
theorem pI_bad {k : Int32} {M : xM} (h : pI M) : pI (f_X11_bad k M) := by
  obtain ⟨h1, h2, h3, h4, h5, h6⟩ := h
  refine ⟨?_, ?_, ?_, ?_, ?_, fun j => ?_⟩ <;> simp only [bad_at] <;> simp <;> first | assumption | exact h6 j
theorem step_c (M : xM) (hB : ∀ j : Nat, 0 ≤ M 70 0 j) : f_X11_step M 40 0 23 = M 40 0 23 ∧ f_X11_step M 70 0 = M 70 0 := by
  rw [step_eq M hB]
  refine ⟨by simp [tset_at], ?_⟩
  funext j; simp [tset_at]
theorem pI_step {M : xM} (h : pI M) : pI (f_X11_step M) := by
  obtain ⟨h1, h2, h3, h4, h5, h6⟩ := h
  have e := step_eq M h6
  have a1 := tkS_ge (M 70 0) (M 40 0 23) (M 40 0 24)
  have a2 := tkS_le (M 70 0) (M 40 0 23) (M 40 0 24) h2
  have a3 := tkE_ge (M 70 0) (M 40 0 23) (tkS (M 70 0) (M 40 0 23) (M 40 0 24))
  have a4 := tkE_le (M 70 0) (M 40 0 23) (tkS (M 70 0) (M 40 0 23) (M 40 0 24)) a2
  rw [e]
  refine ⟨?_, ?_, ?_, ?_, ?_, fun j => ?_⟩ <;> simp only [tset_at] <;> simp <;> first | grind | exact h6 j
