/-! way: what both sides reckon -/
section WAY
def bm (f : Nat → Nat) : Nat → Nat
  | 0 => 0
  | n + 1 => max (bm f n) (f n)
theorem bm_le (f : Nat → Nat) : ∀ n u, bm f n ≤ u ↔ ∀ k, k < n → f k ≤ u := by
  intro n
  induction n with
  | zero => intro u; exact ⟨fun _ k h => by omega, fun _ => Nat.zero_le _⟩
  | succ n ih =>
    intro u
    have e : bm f (n + 1) = max (bm f n) (f n) := rfl
    rw [e]
    refine ⟨fun h k hk => ?_, fun h => ?_⟩
    · by_cases c : k = n
      · subst c; omega
      · exact (ih u).mp (by omega) k (by omega)
    · have h1 := (ih u).mpr (fun k hk => h k (by omega))
      have h2 := h n (by omega)
      omega
theorem eqle {a b : Nat} (h : ∀ u, a ≤ u ↔ b ≤ u) : a = b := Nat.le_antisymm ((h b).mpr (Nat.le_refl _)) ((h a).mp (Nat.le_refl _))
def wS (S : Nat → Bool) (k : Nat) : Nat → Bool := fun j => S j && !decide (j = k)
def alw (rd : Nat → Nat → Bool) (r t to : Nat) : Bool := decide (t = to) || (decide (¬ r = 0) && rd t to)
def Wv (G : Nat → Nat → Nat) (rd : Nat → Nat → Bool) (z : Nat) : Nat → Nat → (Nat → Bool) → Nat
  | 0, _, _ => 0
  | r + 1, t, S => bm (fun to => if alw rd r t to = true then max (Wv G rd z r to S) (bm (fun k => if S k = true then G t k + Wv G rd z r to (wS S k) else 0) z) else 0) 6
def Ev (G : Nat → Nat → Nat) (rd : Nat → Nat → Bool) (z r t : Nat) (S : Nat → Bool) : Nat := bm (fun to => if alw rd r t to = true then Wv G rd z r to S else 0) 6
variable {G : Nat → Nat → Nat} {rd : Nat → Nat → Bool} {z : Nat}
theorem alw_s (r t : Nat) : alw rd r t t = true := by simp [alw]
theorem Wv_le (r t : Nat) (S : Nat → Bool) (u : Nat) : Wv G rd z (r + 1) t S ≤ u ↔ ∀ to, to < 6 → alw rd r t to = true → Wv G rd z r to S ≤ u ∧ ∀ k, k < z → S k = true → G t k + Wv G rd z r to (wS S k) ≤ u := by
  rw [Wv, bm_le]
  refine ⟨fun h to h1 h2 => ?_, fun h to h1 => ?_⟩
  · have q := h to h1
    rw [if_pos h2] at q
    refine ⟨by omega, fun k hk hS => ?_⟩
    have q2 := (bm_le _ z u).mp (Nat.le_trans (Nat.le_max_right _ _) q) k hk
    rw [if_pos hS] at q2
    exact q2
  · by_cases c : alw rd r t to = true
    · rw [if_pos c]
      obtain ⟨q1, q2⟩ := h to h1 c
      refine Nat.max_le.mpr ⟨q1, (bm_le _ z u).mpr (fun k hk => ?_)⟩
      by_cases c2 : S k = true
      · rw [if_pos c2]; exact q2 k hk c2
      · rw [if_neg c2]; exact Nat.zero_le _
    · rw [if_neg c]; exact Nat.zero_le _
theorem Ev_le (r t : Nat) (S : Nat → Bool) (u : Nat) : Ev G rd z r t S ≤ u ↔ ∀ to, to < 6 → alw rd r t to = true → Wv G rd z r to S ≤ u := by
  rw [Ev, bm_le]
  refine ⟨fun h to h1 h2 => ?_, fun h to h1 => ?_⟩
  · have q := h to h1
    rw [if_pos h2] at q
    exact q
  · by_cases c : alw rd r t to = true
    · rw [if_pos c]; exact h to h1 c
    · rw [if_neg c]; exact Nat.zero_le _
theorem Wv_b (hG : ∀ t k, G t k ≤ 100) : ∀ r t S, Wv G rd z r t S ≤ 100 * r := by
  intro r
  induction r with
  | zero => intro t S; exact Nat.le_refl _
  | succ r ih =>
    intro t S
    rw [Wv_le]
    intro to _ _
    refine ⟨by have := ih to S; omega, fun k _ _ => ?_⟩
    have := ih to (wS S k)
    have := hG t k
    omega
theorem Ev_b (hG : ∀ t k, G t k ≤ 100) (r t : Nat) (S : Nat → Bool) : Ev G rd z r t S ≤ 100 * r := by
  rw [Ev_le]
  intro to _ _
  exact Wv_b hG r to S
theorem Ev_0 (t : Nat) (S : Nat → Bool) : Ev G rd z 0 t S = 0 := by
  refine Nat.le_zero.mp ((Ev_le 0 t S 0).mpr (fun to _ _ => ?_))
  exact Nat.le_refl _
theorem Wv_ev {r t : Nat} (ht : t < 6) (S : Nat → Bool) (u : Nat) : Wv G rd z (r + 1) t S ≤ u ↔ Ev G rd z r t S ≤ u ∧ ∀ k, k < z → S k = true → G t k + Ev G rd z r t (wS S k) ≤ u := by
  rw [Wv_le]
  refine ⟨fun h => ⟨(Ev_le r t S u).mpr (fun to h1 h2 => (h to h1 h2).1), fun k hk hS => ?_⟩, fun h to h1 h2 => ⟨(Ev_le r t S u).mp h.1 to h1 h2, fun k hk hS => ?_⟩⟩
  · have q0 := (h t ht (alw_s r t)).2 k hk hS
    have q1 : Ev G rd z r t (wS S k) ≤ u - G t k := (Ev_le r t _ _).mpr (fun to h1 h2 => by
      have := (h to h1 h2).2 k hk hS
      omega)
    omega
  · have q0 := h.2 k hk hS
    have q1 := (Ev_le (G := G) (rd := rd) (z := z) r t (wS S k) _).mp (Nat.le_refl _) to h1 h2
    omega
/-! bits -/
theorem and31 {k : Nat} (hk : k < 32) : nI k &&& 31 = nI k := by
  have : ∀ k : Fin 32, nI k &&& 31 = nI k := by decide +kernel
  exact this ⟨k, hk⟩
theorem shl_32 {k : Nat} (hk : k < 31) : (1 : Int32) <<< (nI k &&& 31) = nI (2 ^ k) := by
  have : ∀ k : Fin 31, (1 : Int32) <<< (nI k &&& 31) = nI (2 ^ k.val) := by decide +kernel
  exact this ⟨k, hk⟩
theorem shr_n {s k : Nat} (hs : s < 2 ^ 31) (hk : k < 32) : nI s >>> nI k = nI (s >>> k) := by
  apply Int32.toBitVec_inj.1
  rw [Int32.toBitVec_shiftRight]
  have e : ∀ k : Fin 32, ((nI k).toBitVec.smod 32).toNat = k.val := by decide
  have e2 := e ⟨k, hk⟩
  dsimp only at e2
  have hm : (nI s).toBitVec.msb = false := by
    show (BitVec.ofNat 32 s).msb = false
    rw [BitVec.msb_eq_decide]
    simp
    rw [Nat.mod_eq_of_lt (by omega)]
    omega
  rw [BitVec.sshiftRight', e2, BitVec.sshiftRight_eq_of_msb_false hm]
  apply BitVec.eq_of_toNat_eq
  show ((BitVec.ofNat 32 s) >>> k).toNat = (BitVec.ofNat 32 (s >>> k)).toNat
  have h2 : s >>> k ≤ s := by rw [Nat.shiftRight_eq_div_pow]; exact Nat.div_le_self _ _
  rw [BitVec.toNat_ushiftRight, BitVec.toNat_ofNat, BitVec.toNat_ofNat, Nat.mod_eq_of_lt (by omega), Nat.mod_eq_of_lt (by omega)]
theorem bit_n {s k : Nat} (hs : s < 2 ^ 31) (hk : k < 32) : (nI s >>> (nI k &&& 31)) &&& 1 = if s.testBit k = true then 1 else 0 := by
  rw [and31 hk, shr_n hs hk]
  show nI (s >>> k) &&& nI 1 = _
  rw [fa_and, Nat.testBit]
  rw [Nat.and_comm 1 (s >>> k), Nat.and_one_is_mod]
  rcases Nat.mod_two_eq_zero_or_one (s >>> k) with e | e
  · rw [e]; rfl
  · rw [e]; rfl
theorem not_n {k : Nat} (hk : k < 8) : ((1 : Int32) <<< (nI k &&& 31)) ^^^ (-1) = nI (2 ^ 32 - (2 ^ k + 1)) := by
  have : ∀ k : Fin 8, ((1 : Int32) <<< (nI k &&& 31)) ^^^ (-1) = nI (2 ^ 32 - (2 ^ k.val + 1)) := by decide +kernel
  exact this ⟨k, hk⟩
theorem clr_n {s k : Nat} (hk : k < 8) : nI s &&& (((1 : Int32) <<< (nI k &&& 31)) ^^^ (-1)) = nI (s &&& (2 ^ 32 - (2 ^ k + 1))) := by
  rw [not_n hk, fa_and]
theorem clr_le (s k : Nat) : s &&& (2 ^ 32 - (2 ^ k + 1)) ≤ s := Nat.and_le_left
theorem clr_b {s k : Nat} (hs : s < 256) (hk : k < 8) : (s &&& (2 ^ 32 - (2 ^ k + 1))).testBit = wS s.testBit k := by
  funext j
  have h2 : (2 : Nat) ^ k < 2 ^ 32 := Nat.pow_lt_pow_right (by decide) (by omega)
  rw [Nat.testBit_and, Nat.testBit_two_pow_sub_succ h2, Nat.testBit_two_pow, wS]
  by_cases c : j < 32
  · simp only [c, decide_true, Bool.true_and]
    by_cases d : k = j
    · simp [d]
    · simp [d, Ne.symm d]
  · have : s.testBit j = false := Nat.testBit_lt_two_pow (Nat.lt_of_lt_of_le hs (by
      have : (2 : Nat) ^ 8 ≤ 2 ^ j := Nat.pow_le_pow_right (by decide) (by omega)
      omega))
    rw [this]; rfl
def dS (z s : Nat) : Nat → Bool := fun j => decide (j < z) && !s.testBit j
theorem dS_or (s k : Nat) : dS z (s ||| 2 ^ k) = wS (dS z s) k := by
  funext j
  rw [dS, wS, dS, Nat.testBit_or, Nat.testBit_two_pow]
  by_cases d : k = j
  · simp [d]
  · simp [d, Ne.symm d]
theorem dS_0 : dS z 0 = (2 ^ z - 1).testBit := by
  funext j
  rw [dS, Nat.testBit_two_pow_sub_one]
  simp
theorem dS_t {s k : Nat} (hk : k < z) : dS z s k = true ↔ ¬ s.testBit k = true := by simp [dS, hk]
theorem or_same {s k : Nat} : s ||| 2 ^ k = s ↔ s.testBit k = true := by
  refine ⟨fun h => ?_, fun h => Nat.eq_of_testBit_eq (fun j => ?_)⟩
  · rw [← h, Nat.testBit_or, Nat.testBit_two_pow]; simp
  · rw [Nat.testBit_or, Nat.testBit_two_pow]
    by_cases d : k = j
    · subst d; simp [h]
    · simp [d]
theorem pop_or1 {s k : Nat} (hs : s < 256) (hk : k < 8) : pop (s ||| 2 ^ k) ≤ pop s + 1 := by
  have : ∀ k : Fin 8, ∀ s : Fin 256, pop (s.val ||| 2 ^ k.val) ≤ pop s.val + 1 := by decide +kernel
  exact this ⟨k, hk⟩ ⟨s, hs⟩
theorem pop_1 {k : Nat} (hk : k < 8) : pop (2 ^ k) ≤ 1 := by
  have : ∀ k : Fin 8, pop (2 ^ k.val) ≤ 1 := by decide +kernel
  exact this ⟨k, hk⟩
theorem pop_0 : pop 0 = 0 := by decide
theorem p2_8 {z : Nat} (hz : z ≤ 8) : 2 ^ z ≤ 256 := Nat.pow_le_pow_right (n := 2) (by decide) hz
end WAY
