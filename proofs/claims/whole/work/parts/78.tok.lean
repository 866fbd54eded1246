/-! tokens, on both sides -/
def trw (B T : Nat → Int32) (len : Int32) : Prop := ∀ k : Nat, k < len.toNatClampNeg → T k = ub (B k) ∧ (-128) ≤ B k ∧ B k ≤ 127
theorem ub_W {x : Int32} (h1 : (-128) ≤ x) (h2 : x ≤ 127) : isW (ub x) = isW x := by
  unfold ub isW
  split <;> grind
theorem ub_L {x : Int32} (h1 : (-128) ≤ x) (h2 : x ≤ 127) : isL (ub x) = isL x := by
  unfold ub isL
  split <;> grind
theorem ub_D {x : Int32} (h1 : (-128) ≤ x) (h2 : x ≤ 127) : isD (ub x) = isD x := by
  unfold ub isD
  split <;> grind
theorem ub_59 {x : Int32} (h1 : (-128) ≤ x) (h2 : x ≤ 127) : ub x = 59 ↔ x = 59 := by
  unfold ub
  split <;> grind
theorem ub_p {x : Int32} (h : 0 ≤ x) : ub x = x := by
  unfold ub
  rw [if_neg (Int32.not_lt.mpr h)]
theorem scn_c {q r : Int32 → Bool} {len : Int32} : ∀ (n : Nat) (p : Int32), (∀ x, p ≤ x → x < len → q x = r x) → scn q len n p = scn r len n p := by
  intro n
  induction n with
  | zero => intro p _; rfl
  | succ n ih =>
    intro p h
    rw [scn, scn]
    by_cases c : p < len
    · rw [h p (Int32.le_refl _) c]
      by_cases c2 : r p = true
      · rw [if_pos ⟨c, c2⟩, if_pos ⟨c, c2⟩]
        exact ih (p + 1) (fun x h1 h2 => h x (by grind) h2)
      · rw [if_neg (fun z => c2 z.2), if_neg (fun z => c2 z.2)]
    · rw [if_neg (fun z => c z.1), if_neg (fun z => c z.1)]
theorem scn_all {q : Int32 → Bool} {len : Int32} : ∀ (n : Nat) (p x : Int32), p ≤ x → x < scn q len n p → q x = true := by
  intro n
  induction n with
  | zero => intro p x h1 h2; rw [scn] at h2; grind
  | succ n ih =>
    intro p x h1 h2
    rw [scn] at h2
    by_cases c : p < len ∧ q p = true
    · rw [if_pos c] at h2
      by_cases e : x = p
      · rw [e]; exact c.2
      · exact ih (p + 1) x (by grind) h2
    · rw [if_neg c] at h2
      grind
section TOK
variable {B T : Nat → Int32} {len : Int32}
theorem tkS_c (h : trw B T len) {p : Int32} (hp : 0 ≤ p) : tkS T len p = tkS B len p := by
  unfold tkS
  refine scn_c _ _ (fun x h1 h2 => ?_)
  obtain ⟨e, b1, b2⟩ := h x.toNatClampNeg (tnc_lt (Int32.le_trans hp h1) h2)
  show isW (T x.toNatClampNeg) = isW (B x.toNatClampNeg)
  rw [e, ub_W b1 b2]
theorem tkE_c (h : trw B T len) {s : Int32} (hs : 0 ≤ s) : tkE T len s = tkE B len s := by
  unfold tkE
  by_cases c : s < len
  · rw [if_pos c, if_pos c]
    obtain ⟨e, b1, b2⟩ := h s.toNatClampNeg (tnc_lt hs c)
    rw [e, ub_L b1 b2, ub_D b1 b2]
    rw [scn_c (q := byt T isL) (r := byt B isL) _ _ (fun x h1 h2 => by
      obtain ⟨e, b1, b2⟩ := h x.toNatClampNeg (tnc_lt (Int32.le_trans hs h1) h2)
      show isL (T x.toNatClampNeg) = isL (B x.toNatClampNeg)
      rw [e, ub_L b1 b2])]
    rw [scn_c (q := byt T isD) (r := byt B isD) _ _ (fun x h1 h2 => by
      obtain ⟨e, b1, b2⟩ := h x.toNatClampNeg (tnc_lt (Int32.le_trans hs h1) h2)
      show isD (T x.toNatClampNeg) = isD (B x.toNatClampNeg)
      rw [e, ub_D b1 b2])]
  · rw [if_neg c, if_neg c]
theorem tkK_c (h : trw B T len) {s : Int32} (hs : 0 ≤ s) : tkK T len s = tkK B len s := by
  unfold tkK
  rw [tkE_c h hs]
  by_cases c : s < len
  · rw [if_pos c, if_pos c]
    obtain ⟨e, b1, b2⟩ := h s.toNatClampNeg (tnc_lt hs c)
    rw [e, ub_L b1 b2, ub_D b1 b2]
    have e59 : (if ub (B s.toNatClampNeg) = 59 then (4 : Int32) else 0) = if B s.toNatClampNeg = 59 then 4 else 0 := by
      by_cases d : B s.toNatClampNeg = 59
      · rw [if_pos d, if_pos ((ub_59 b1 b2).mpr d)]
      · rw [if_neg d, if_neg (fun z => d ((ub_59 b1 b2).mp z))]
    rw [e59]
  · rw [if_neg c, if_neg c]
theorem nums_c {z : Int32} : ∀ (n : Nat) (v k : Int32), (∀ x, k ≤ x → x < z → T x.toNatClampNeg = B x.toNatClampNeg) → nums T z n v k = nums B z n v k := by
  intro n
  induction n with
  | zero => intro v k _; rfl
  | succ n ih =>
    intro v k h
    rw [nums, nums]
    by_cases c : z ≤ k
    · rw [if_pos c, if_pos c]
    · rw [if_neg c, if_neg c, h k (Int32.le_refl _) (Int32.not_le.mp c)]
      exact ih _ _ (fun x h1 h2 => h x (by grind) h2)
/-- a number token's bytes are figures, a name's are letters -/
theorem tk_D {s : Int32} (hk : tkK B len s = 3) : s < len ∧ isL (B s.toNatClampNeg) = false ∧ isD (B s.toNatClampNeg) = true ∧ ∀ x, s ≤ x → x < tkE B len s → isD (B x.toNatClampNeg) = true := by
  unfold tkK at hk
  by_cases c : s < len
  · rw [if_pos c] at hk
    cases eL : isL (B s.toNatClampNeg) with
    | true => rw [eL] at hk; simp at hk
    | false =>
      rw [eL] at hk
      cases eD : isD (B s.toNatClampNeg) with
      | true =>
        refine ⟨c, rfl, rfl, fun x h1 h2 => ?_⟩
        unfold tkE at h2
        rw [if_pos c, eL, eD] at h2
        simp at h2
        exact scn_all (q := byt B isD) _ _ _ h1 h2
      | false => rw [eD] at hk; simp at hk; split at hk <;> simp at hk
  · rw [if_neg c] at hk; simp at hk
theorem tk_L {s : Int32} (hk : tkK B len s = 2) : s < len ∧ ∀ x, s ≤ x → x < tkE B len s → isL (B x.toNatClampNeg) = true := by
  unfold tkK at hk
  by_cases c : s < len
  · rw [if_pos c] at hk
    cases eL : isL (B s.toNatClampNeg) with
    | true =>
      refine ⟨c, fun x h1 h2 => ?_⟩
      unfold tkE at h2
      rw [if_pos c, eL] at h2
      simp at h2
      exact scn_all (q := byt B isL) _ _ _ h1 h2
    | false =>
      rw [eL] at hk
      simp at hk
      split at hk
      · split at hk <;> simp at hk
      · split at hk <;> simp at hk
  · rw [if_neg c] at hk; simp at hk
end TOK
/-- the letters of a name, as one number -/
def wvn (t : Nat → Nat) : Nat → Nat → Nat → Nat
  | 0, x, _ => x
  | m + 1, x, k => wvn t m (x * 256 + t k) (k + 1)
theorem shl8or {x b : Nat} (hx : x < 2 ^ 48) (hb : b < 256) : (lN x <<< ((8 : Int32).toInt64 &&& 63)) ||| (nI b).toInt64 = lN (x * 256 + b) := by
  rw [nI_l (by omega)]
  have e8 : (8 : Int32).toInt64 &&& 63 = 8 := by decide
  rw [e8]
  apply Int64.toBitVec_inj.1
  show (BitVec.ofNat 64 x <<< ((8 : Int64).toBitVec.smod 64)) ||| BitVec.ofNat 64 b = BitVec.ofNat 64 (x * 256 + b)
  have e : ((8 : Int64).toBitVec.smod 64).toNat = 8 := by decide
  apply BitVec.eq_of_toNat_eq
  rw [BitVec.toNat_or, BitVec.shiftLeft_eq', BitVec.toNat_shiftLeft, e, BitVec.toNat_ofNat, BitVec.toNat_ofNat, BitVec.toNat_ofNat, Nat.mod_eq_of_lt (show x < 2 ^ 64 by omega), Nat.mod_eq_of_lt (show b < 2 ^ 64 by omega), Nat.mod_eq_of_lt (show x * 256 + b < 2 ^ 64 by omega), Nat.shiftLeft_eq, Nat.mod_eq_of_lt (show x * 2 ^ 8 < 2 ^ 64 by omega)]
  have := Nat.two_pow_add_eq_or_of_lt (i := 8) (b := b) hb x
  rw [Nat.mul_comm x (2 ^ 8), ← this]
theorem wvn_lt {t : Nat → Nat} (ht : ∀ k, t k < 256) : ∀ (m x k : Nat) (d : Nat), x < 2 ^ (8 * d) → wvn t m x k < 2 ^ (8 * (d + m)) := by
  intro m
  induction m with
  | zero => intro x k d h; exact h
  | succ m ih =>
    intro x k d h
    rw [wvn, show d + (m + 1) = (d + 1) + m by omega]
    refine ih _ _ (d + 1) ?_
    have := ht k
    rw [show 8 * (d + 1) = 8 * d + 8 by omega, Nat.pow_add]
    omega
theorem woL7 (R : xM) (t : Nat → Nat) {a L : Nat} (hL : L < 8) (haL : a + L ≤ 400) (h25 : R 40 0 25 = 2) (h26 : R 40 0 26 = nI a) (h27 : R 40 0 27 = nI (a + L)) (ht : ∀ k, t k < 256) (hT : ∀ j, j < L → R 70 0 (a + j) = nI (t (a + j))) : ∀ (m d n x : Nat) (kx : Int64 → Int32 → Int64), d + m = L → m < n → x < 2 ^ (8 * d) → f_X11_word_L7 R n (lN x) (nI (a + d)) kx = kx (lN (wvn t m x (a + d))) (nI (a + L)) := by
  intro m
  induction m with
  | zero =>
    intro d n x kx h1 h2 h3
    obtain ⟨n, rfl⟩ : ∃ k, n = k + 1 := ⟨n - 1, by omega⟩
    obtain rfl : d = L := by omega
    rw [f_X11_word_L7, h27, if_pos (nI_le (Nat.le_refl _) (by omega)), wvn]
  | succ m ih =>
    intro d n x kx h1 h2 h3
    obtain ⟨n, rfl⟩ : ∃ k, n = k + 1 := ⟨n - 1, by omega⟩
    have e1 : nI (a + L) - nI a = nI L := by rw [pk_sub (by omega)]; congr 1; omega
    have hx : x < 2 ^ 48 := Nat.lt_of_lt_of_le h3 (Nat.pow_le_pow_right (by decide) (by omega))
    rw [f_X11_word_L7, h27, if_neg (nI_ge (by omega) (by omega)), if_pos h25, h26, e1, if_neg (show ¬ (8 : Int32) ≤ nI L from nI_ge (b := 8) (by omega) (by decide)), wvn]
    simp only [xlet_p, nI_clamp (show a + d < 2 ^ 31 by omega), nI_1]
    rw [hT d (by omega), shl8or hx (ht _), show a + d + 1 = a + (d + 1) by omega]
    refine ih (d + 1) n _ kx (by omega) (by omega) ?_
    have := ht (a + d)
    rw [show 8 * (d + 1) = 8 * d + 8 by omega, Nat.pow_add]
    omega
def cwN : List Nat := [2003133803, 7300710, 439721161573, 32497644298331492]
theorem lgc_eq (x y : Int64) : lg_cmp x y = 0 ↔ x = y := by
  unfold lg_cmp
  grind
theorem word_eq (R : xM) (t : Nat → Nat) {a L : Nat} (haL : a + L ≤ 400) (h25 : R 40 0 25 = 2) (h26 : R 40 0 26 = nI a) (h27 : R 40 0 27 = nI (a + L)) (ht : ∀ k, t k < 256) (hT : ∀ j, j < L → R 70 0 (a + j) = nI (t (a + j))) : f_X11_word R = if L < 8 then lN (wvn t L 0 a) else 0 := by
  unfold f_X11_word
  simp only [xlet_p]
  by_cases c : L < 8
  · rw [if_pos c]
    have W := woL7 R t c haL h25 h26 h27 ht hT L 0 (xmu (R 40 0 26) (R 40 0 27) + 1) 0 (fun v_7 k_8 => v_7) (by omega) (by rw [h26, h27]; unfold xmu; rw [nI_toInt (by omega), nI_toInt (by omega)]; omega) (by decide)
    rw [Nat.add_zero] at W
    rw [h26] at W ⊢
    exact W
  · rw [if_neg c]
    have e1 : nI (a + L) - nI a = nI L := by rw [pk_sub (by omega)]; congr 1; omega
    rw [h26, h27, f_X11_word_L7, h27, if_neg (nI_ge (by omega) (by omega)), if_pos h25, h26, e1, if_pos (show (8 : Int32) ≤ nI L from nI_le (a := 8) (by omega) (by omega))]
theorem nmL (wk : Nat) (N : xM) {a : Nat} (ha : a ≤ 400) (h4 : N 5 0 4 = nI a) (hw : slen wk ≤ 7) : ∀ (m i n : Nat), i + m = slen wk → m < n → (f_X7_isName_L28 wk N n (nI i) (fun _ => true) = true ↔ ∀ j, i ≤ j → j < slen wk → N 19 0 (a + j) = sby wk j) := by
  intro m
  induction m with
  | zero =>
    intro i n h1 h2
    obtain ⟨n, rfl⟩ : ∃ k, n = k + 1 := ⟨n - 1, by omega⟩
    rw [f_X7_isName_L28]
    simp only [xlet_p]
    rw [if_pos (show slI wk ≤ nI i from nI_le (a := slen wk) (by omega) (by omega))]
    exact ⟨fun _ j h3 h4 => by omega, fun _ => rfl⟩
  | succ m ih =>
    intro i n h1 h2
    obtain ⟨n, rfl⟩ : ∃ k, n = k + 1 := ⟨n - 1, by omega⟩
    rw [f_X7_isName_L28]
    simp only [xlet_p]
    rw [if_neg (show ¬ slI wk ≤ nI i from nI_ge (b := slen wk) (by omega) (by omega)), h4, nI_add, nI_clamp (show a + i < 2 ^ 31 by omega), nI_clamp (show i < 2 ^ 31 by omega), nI_1]
    by_cases c : N 19 0 (a + i) = sby wk i
    · rw [if_pos c, ih (i + 1) n (by omega) (by omega)]
      refine ⟨fun q j h3 h5 => ?_, fun q j h3 h5 => q j (by omega) h5⟩
      by_cases e : j = i
      · rw [e]; exact c
      · exact q j (by omega) h5
    · rw [if_neg c]
      exact ⟨fun q => absurd q (by decide), fun q => absurd (q i (Nat.le_refl _) (by omega)) c⟩

theorem wq_0 {t : Nat → Nat} {a L : Nat} (hL : 1 ≤ L) (hL8 : L < 8) (ht : ∀ j, j < L → 97 ≤ t (a + j) ∧ t (a + j) ≤ 122) : wvn t L 0 a = 2003133803 ↔ L = 4 ∧ t a = 119 ∧ t (a + 1) = 101 ∧ t (a + 2) = 101 ∧ t (a + 3) = 107 := by
  have cs : L = 1 ∨ L = 2 ∨ L = 3 ∨ L = 4 ∨ L = 5 ∨ L = 6 ∨ L = 7 := by omega
  rcases cs with e | e | e | e | e | e | e <;> subst e
  · have b0 := ht 0 (by omega)
    simp only [wvn, Nat.add_assoc, Nat.reduceAdd]
    constructor
    · intro q
      exfalso
      simp only [Nat.add_zero] at b0
      omega
    · intro q
      exact absurd q.1 (by decide)
  · have b0 := ht 0 (by omega)
    have b1 := ht 1 (by omega)
    simp only [wvn, Nat.add_assoc, Nat.reduceAdd]
    constructor
    · intro q
      exfalso
      simp only [Nat.add_zero] at b0
      omega
    · intro q
      exact absurd q.1 (by decide)
  · have b0 := ht 0 (by omega)
    have b1 := ht 1 (by omega)
    have b2 := ht 2 (by omega)
    simp only [wvn, Nat.add_assoc, Nat.reduceAdd]
    constructor
    · intro q
      exfalso
      simp only [Nat.add_zero] at b0
      omega
    · intro q
      exact absurd q.1 (by decide)
  · have b0 := ht 0 (by omega)
    have b1 := ht 1 (by omega)
    have b2 := ht 2 (by omega)
    have b3 := ht 3 (by omega)
    simp only [wvn, Nat.add_assoc, Nat.reduceAdd]
    simp only [Nat.add_zero] at b0
    constructor
    · intro q
      refine ⟨trivial, ?_, ?_, ?_, ?_⟩ <;> omega
    · intro q
      obtain ⟨-, q0, q1, q2, q3⟩ := q
      omega
  · have b0 := ht 0 (by omega)
    have b1 := ht 1 (by omega)
    have b2 := ht 2 (by omega)
    have b3 := ht 3 (by omega)
    have b4 := ht 4 (by omega)
    simp only [wvn, Nat.add_assoc, Nat.reduceAdd]
    constructor
    · intro q
      exfalso
      simp only [Nat.add_zero] at b0
      omega
    · intro q
      exact absurd q.1 (by decide)
  · have b0 := ht 0 (by omega)
    have b1 := ht 1 (by omega)
    have b2 := ht 2 (by omega)
    have b3 := ht 3 (by omega)
    have b4 := ht 4 (by omega)
    have b5 := ht 5 (by omega)
    simp only [wvn, Nat.add_assoc, Nat.reduceAdd]
    constructor
    · intro q
      exfalso
      simp only [Nat.add_zero] at b0
      omega
    · intro q
      exact absurd q.1 (by decide)
  · have b0 := ht 0 (by omega)
    have b1 := ht 1 (by omega)
    have b2 := ht 2 (by omega)
    have b3 := ht 3 (by omega)
    have b4 := ht 4 (by omega)
    have b5 := ht 5 (by omega)
    have b6 := ht 6 (by omega)
    simp only [wvn, Nat.add_assoc, Nat.reduceAdd]
    constructor
    · intro q
      exfalso
      simp only [Nat.add_zero] at b0
      omega
    · intro q
      exact absurd q.1 (by decide)

theorem wq_1 {t : Nat → Nat} {a L : Nat} (hL : 1 ≤ L) (hL8 : L < 8) (ht : ∀ j, j < L → 97 ≤ t (a + j) ∧ t (a + j) ≤ 122) : wvn t L 0 a = 7300710 ↔ L = 3 ∧ t a = 111 ∧ t (a + 1) = 102 ∧ t (a + 2) = 102 := by
  have cs : L = 1 ∨ L = 2 ∨ L = 3 ∨ L = 4 ∨ L = 5 ∨ L = 6 ∨ L = 7 := by omega
  rcases cs with e | e | e | e | e | e | e <;> subst e
  · have b0 := ht 0 (by omega)
    simp only [wvn, Nat.add_assoc, Nat.reduceAdd]
    constructor
    · intro q
      exfalso
      simp only [Nat.add_zero] at b0
      omega
    · intro q
      exact absurd q.1 (by decide)
  · have b0 := ht 0 (by omega)
    have b1 := ht 1 (by omega)
    simp only [wvn, Nat.add_assoc, Nat.reduceAdd]
    constructor
    · intro q
      exfalso
      simp only [Nat.add_zero] at b0
      omega
    · intro q
      exact absurd q.1 (by decide)
  · have b0 := ht 0 (by omega)
    have b1 := ht 1 (by omega)
    have b2 := ht 2 (by omega)
    simp only [wvn, Nat.add_assoc, Nat.reduceAdd]
    simp only [Nat.add_zero] at b0
    constructor
    · intro q
      refine ⟨trivial, ?_, ?_, ?_⟩ <;> omega
    · intro q
      obtain ⟨-, q0, q1, q2⟩ := q
      omega
  · have b0 := ht 0 (by omega)
    have b1 := ht 1 (by omega)
    have b2 := ht 2 (by omega)
    have b3 := ht 3 (by omega)
    simp only [wvn, Nat.add_assoc, Nat.reduceAdd]
    constructor
    · intro q
      exfalso
      simp only [Nat.add_zero] at b0
      omega
    · intro q
      exact absurd q.1 (by decide)
  · have b0 := ht 0 (by omega)
    have b1 := ht 1 (by omega)
    have b2 := ht 2 (by omega)
    have b3 := ht 3 (by omega)
    have b4 := ht 4 (by omega)
    simp only [wvn, Nat.add_assoc, Nat.reduceAdd]
    constructor
    · intro q
      exfalso
      simp only [Nat.add_zero] at b0
      omega
    · intro q
      exact absurd q.1 (by decide)
  · have b0 := ht 0 (by omega)
    have b1 := ht 1 (by omega)
    have b2 := ht 2 (by omega)
    have b3 := ht 3 (by omega)
    have b4 := ht 4 (by omega)
    have b5 := ht 5 (by omega)
    simp only [wvn, Nat.add_assoc, Nat.reduceAdd]
    constructor
    · intro q
      exfalso
      simp only [Nat.add_zero] at b0
      omega
    · intro q
      exact absurd q.1 (by decide)
  · have b0 := ht 0 (by omega)
    have b1 := ht 1 (by omega)
    have b2 := ht 2 (by omega)
    have b3 := ht 3 (by omega)
    have b4 := ht 4 (by omega)
    have b5 := ht 5 (by omega)
    have b6 := ht 6 (by omega)
    simp only [wvn, Nat.add_assoc, Nat.reduceAdd]
    constructor
    · intro q
      exfalso
      simp only [Nat.add_zero] at b0
      omega
    · intro q
      exact absurd q.1 (by decide)

theorem wq_2 {t : Nat → Nat} {a L : Nat} (hL : 1 ≤ L) (hL8 : L < 8) (ht : ∀ j, j < L → 97 ≤ t (a + j) ∧ t (a + j) ≤ 122) : wvn t L 0 a = 439721161573 ↔ L = 5 ∧ t a = 102 ∧ t (a + 1) = 97 ∧ t (a + 2) = 108 ∧ t (a + 3) = 115 ∧ t (a + 4) = 101 := by
  have cs : L = 1 ∨ L = 2 ∨ L = 3 ∨ L = 4 ∨ L = 5 ∨ L = 6 ∨ L = 7 := by omega
  rcases cs with e | e | e | e | e | e | e <;> subst e
  · have b0 := ht 0 (by omega)
    simp only [wvn, Nat.add_assoc, Nat.reduceAdd]
    constructor
    · intro q
      exfalso
      simp only [Nat.add_zero] at b0
      omega
    · intro q
      exact absurd q.1 (by decide)
  · have b0 := ht 0 (by omega)
    have b1 := ht 1 (by omega)
    simp only [wvn, Nat.add_assoc, Nat.reduceAdd]
    constructor
    · intro q
      exfalso
      simp only [Nat.add_zero] at b0
      omega
    · intro q
      exact absurd q.1 (by decide)
  · have b0 := ht 0 (by omega)
    have b1 := ht 1 (by omega)
    have b2 := ht 2 (by omega)
    simp only [wvn, Nat.add_assoc, Nat.reduceAdd]
    constructor
    · intro q
      exfalso
      simp only [Nat.add_zero] at b0
      omega
    · intro q
      exact absurd q.1 (by decide)
  · have b0 := ht 0 (by omega)
    have b1 := ht 1 (by omega)
    have b2 := ht 2 (by omega)
    have b3 := ht 3 (by omega)
    simp only [wvn, Nat.add_assoc, Nat.reduceAdd]
    constructor
    · intro q
      exfalso
      simp only [Nat.add_zero] at b0
      omega
    · intro q
      exact absurd q.1 (by decide)
  · have b0 := ht 0 (by omega)
    have b1 := ht 1 (by omega)
    have b2 := ht 2 (by omega)
    have b3 := ht 3 (by omega)
    have b4 := ht 4 (by omega)
    simp only [wvn, Nat.add_assoc, Nat.reduceAdd]
    simp only [Nat.add_zero] at b0
    constructor
    · intro q
      refine ⟨trivial, ?_, ?_, ?_, ?_, ?_⟩ <;> omega
    · intro q
      obtain ⟨-, q0, q1, q2, q3, q4⟩ := q
      omega
  · have b0 := ht 0 (by omega)
    have b1 := ht 1 (by omega)
    have b2 := ht 2 (by omega)
    have b3 := ht 3 (by omega)
    have b4 := ht 4 (by omega)
    have b5 := ht 5 (by omega)
    simp only [wvn, Nat.add_assoc, Nat.reduceAdd]
    constructor
    · intro q
      exfalso
      simp only [Nat.add_zero] at b0
      omega
    · intro q
      exact absurd q.1 (by decide)
  · have b0 := ht 0 (by omega)
    have b1 := ht 1 (by omega)
    have b2 := ht 2 (by omega)
    have b3 := ht 3 (by omega)
    have b4 := ht 4 (by omega)
    have b5 := ht 5 (by omega)
    have b6 := ht 6 (by omega)
    simp only [wvn, Nat.add_assoc, Nat.reduceAdd]
    constructor
    · intro q
      exfalso
      simp only [Nat.add_zero] at b0
      omega
    · intro q
      exact absurd q.1 (by decide)

theorem wq_3 {t : Nat → Nat} {a L : Nat} (hL : 1 ≤ L) (hL8 : L < 8) (ht : ∀ j, j < L → 97 ≤ t (a + j) ∧ t (a + j) ≤ 122) : wvn t L 0 a = 32497644298331492 ↔ L = 7 ∧ t a = 115 ∧ t (a + 1) = 116 ∧ t (a + 2) = 111 ∧ t (a + 3) = 112 ∧ t (a + 4) = 112 ∧ t (a + 5) = 101 ∧ t (a + 6) = 100 := by
  have cs : L = 1 ∨ L = 2 ∨ L = 3 ∨ L = 4 ∨ L = 5 ∨ L = 6 ∨ L = 7 := by omega
  rcases cs with e | e | e | e | e | e | e <;> subst e
  · have b0 := ht 0 (by omega)
    simp only [wvn, Nat.add_assoc, Nat.reduceAdd]
    constructor
    · intro q
      exfalso
      simp only [Nat.add_zero] at b0
      omega
    · intro q
      exact absurd q.1 (by decide)
  · have b0 := ht 0 (by omega)
    have b1 := ht 1 (by omega)
    simp only [wvn, Nat.add_assoc, Nat.reduceAdd]
    constructor
    · intro q
      exfalso
      simp only [Nat.add_zero] at b0
      omega
    · intro q
      exact absurd q.1 (by decide)
  · have b0 := ht 0 (by omega)
    have b1 := ht 1 (by omega)
    have b2 := ht 2 (by omega)
    simp only [wvn, Nat.add_assoc, Nat.reduceAdd]
    constructor
    · intro q
      exfalso
      simp only [Nat.add_zero] at b0
      omega
    · intro q
      exact absurd q.1 (by decide)
  · have b0 := ht 0 (by omega)
    have b1 := ht 1 (by omega)
    have b2 := ht 2 (by omega)
    have b3 := ht 3 (by omega)
    simp only [wvn, Nat.add_assoc, Nat.reduceAdd]
    constructor
    · intro q
      exfalso
      simp only [Nat.add_zero] at b0
      omega
    · intro q
      exact absurd q.1 (by decide)
  · have b0 := ht 0 (by omega)
    have b1 := ht 1 (by omega)
    have b2 := ht 2 (by omega)
    have b3 := ht 3 (by omega)
    have b4 := ht 4 (by omega)
    simp only [wvn, Nat.add_assoc, Nat.reduceAdd]
    constructor
    · intro q
      exfalso
      simp only [Nat.add_zero] at b0
      omega
    · intro q
      exact absurd q.1 (by decide)
  · have b0 := ht 0 (by omega)
    have b1 := ht 1 (by omega)
    have b2 := ht 2 (by omega)
    have b3 := ht 3 (by omega)
    have b4 := ht 4 (by omega)
    have b5 := ht 5 (by omega)
    simp only [wvn, Nat.add_assoc, Nat.reduceAdd]
    constructor
    · intro q
      exfalso
      simp only [Nat.add_zero] at b0
      omega
    · intro q
      exact absurd q.1 (by decide)
  · have b0 := ht 0 (by omega)
    have b1 := ht 1 (by omega)
    have b2 := ht 2 (by omega)
    have b3 := ht 3 (by omega)
    have b4 := ht 4 (by omega)
    have b5 := ht 5 (by omega)
    have b6 := ht 6 (by omega)
    simp only [wvn, Nat.add_assoc, Nat.reduceAdd]
    simp only [Nat.add_zero] at b0
    constructor
    · intro q
      refine ⟨trivial, ?_, ?_, ?_, ?_, ?_, ?_, ?_⟩ <;> omega
    · intro q
      obtain ⟨-, q0, q1, q2, q3, q4, q5, q6⟩ := q
      omega
