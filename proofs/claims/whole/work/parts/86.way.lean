/-! way: what both sides reckon -/
section WAY
def bm (f : Nat → Nat) : Nat → Nat
  | 0 => 0
  | n + 1 => max (bm f n) (f n)
theorem bm_le (f : Nat → Nat) : ∀ n u, bm f n ≤ u ↔ ∀ k, k < n → f k ≤ u := by
  intro n
  induction n with
  | zero => intro u; exact ⟨fun _ k h => by omega, fun _ => Nat.zero_le _⟩
  | succ n ih =>
    intro u
    have e : bm f (n + 1) = max (bm f n) (f n) := rfl
    rw [e]
    refine ⟨fun h k hk => ?_, fun h => ?_⟩
    · by_cases c : k = n
      · subst c; omega
      · exact (ih u).mp (by omega) k (by omega)
    · have h1 := (ih u).mpr (fun k hk => h k (by omega))
      have h2 := h n (by omega)
      omega
theorem eqle {a b : Nat} (h : ∀ u, a ≤ u ↔ b ≤ u) : a = b := Nat.le_antisymm ((h b).mpr (Nat.le_refl _)) ((h a).mp (Nat.le_refl _))
def wS (S : Nat → Bool) (k : Nat) : Nat → Bool := fun j => S j && !decide (j = k)
def alw (rd : Nat → Nat → Bool) (r t to : Nat) : Bool := decide (t = to) || (decide (¬ r = 0) && rd t to)
def Wv (G : Nat → Nat → Nat) (rd : Nat → Nat → Bool) (z : Nat) : Nat → Nat → (Nat → Bool) → Nat
  | 0, _, _ => 0
  | r + 1, t, S => bm (fun to => if alw rd r t to = true then max (Wv G rd z r to S) (bm (fun k => if S k = true then G t k + Wv G rd z r to (wS S k) else 0) z) else 0) 6
def Ev (G : Nat → Nat → Nat) (rd : Nat → Nat → Bool) (z r t : Nat) (S : Nat → Bool) : Nat := bm (fun to => if alw rd r t to = true then Wv G rd z r to S else 0) 6
variable {G : Nat → Nat → Nat} {rd : Nat → Nat → Bool} {z : Nat}
theorem alw_s (r t : Nat) : alw rd r t t = true := by simp [alw]
theorem Wv_le (r t : Nat) (S : Nat → Bool) (u : Nat) : Wv G rd z (r + 1) t S ≤ u ↔ ∀ to, to < 6 → alw rd r t to = true → Wv G rd z r to S ≤ u ∧ ∀ k, k < z → S k = true → G t k + Wv G rd z r to (wS S k) ≤ u := by
  rw [Wv, bm_le]
  refine ⟨fun h to h1 h2 => ?_, fun h to h1 => ?_⟩
  · have q := h to h1
    rw [if_pos h2] at q
    refine ⟨by omega, fun k hk hS => ?_⟩
    have q2 := (bm_le _ z u).mp (Nat.le_trans (Nat.le_max_right _ _) q) k hk
    rw [if_pos hS] at q2
    exact q2
  · by_cases c : alw rd r t to = true
    · rw [if_pos c]
      obtain ⟨q1, q2⟩ := h to h1 c
      refine Nat.max_le.mpr ⟨q1, (bm_le _ z u).mpr (fun k hk => ?_)⟩
      by_cases c2 : S k = true
      · rw [if_pos c2]; exact q2 k hk c2
      · rw [if_neg c2]; exact Nat.zero_le _
    · rw [if_neg c]; exact Nat.zero_le _
theorem Ev_le (r t : Nat) (S : Nat → Bool) (u : Nat) : Ev G rd z r t S ≤ u ↔ ∀ to, to < 6 → alw rd r t to = true → Wv G rd z r to S ≤ u := by
  rw [Ev, bm_le]
  refine ⟨fun h to h1 h2 => ?_, fun h to h1 => ?_⟩
  · have q := h to h1
    rw [if_pos h2] at q
    exact q
  · by_cases c : alw rd r t to = true
    · rw [if_pos c]; exact h to h1 c
    · rw [if_neg c]; exact Nat.zero_le _
theorem Wv_b (hG : ∀ t k, G t k ≤ 100) : ∀ r t S, Wv G rd z r t S ≤ 100 * r := by
  intro r
  induction r with
  | zero => intro t S; exact Nat.le_refl _
  | succ r ih =>
    intro t S
    rw [Wv_le]
    intro to _ _
    refine ⟨by have := ih to S; omega, fun k _ _ => ?_⟩
    have := ih to (wS S k)
    have := hG t k
    omega
theorem Ev_b (hG : ∀ t k, G t k ≤ 100) (r t : Nat) (S : Nat → Bool) : Ev G rd z r t S ≤ 100 * r := by
  rw [Ev_le]
  intro to _ _
  exact Wv_b hG r to S
theorem Ev_0 (t : Nat) (S : Nat → Bool) : Ev G rd z 0 t S = 0 := by
  refine Nat.le_zero.mp ((Ev_le 0 t S 0).mpr (fun to _ _ => ?_))
  exact Nat.le_refl _
theorem Wv_ev {r t : Nat} (ht : t < 6) (S : Nat → Bool) (u : Nat) : Wv G rd z (r + 1) t S ≤ u ↔ Ev G rd z r t S ≤ u ∧ ∀ k, k < z → S k = true → G t k + Ev G rd z r t (wS S k) ≤ u := by
  rw [Wv_le]
  refine ⟨fun h => ⟨(Ev_le r t S u).mpr (fun to h1 h2 => (h to h1 h2).1), fun k hk hS => ?_⟩, fun h to h1 h2 => ⟨(Ev_le r t S u).mp h.1 to h1 h2, fun k hk hS => ?_⟩⟩
  · have q0 := (h t ht (alw_s r t)).2 k hk hS
    have q1 : Ev G rd z r t (wS S k) ≤ u - G t k := (Ev_le r t _ _).mpr (fun to h1 h2 => by
      have := (h to h1 h2).2 k hk hS
      omega)
    omega
  · have q0 := h.2 k hk hS
    have q1 := (Ev_le (G := G) (rd := rd) (z := z) r t (wS S k) _).mp (Nat.le_refl _) to h1 h2
    omega
/-! bits -/
theorem and31 {k : Nat} (hk : k < 32) : nI k &&& 31 = nI k := by
  have : ∀ k : Fin 32, nI k &&& 31 = nI k := by decide +kernel
  exact this ⟨k, hk⟩
theorem shl_32 {k : Nat} (hk : k < 31) : (1 : Int32) <<< (nI k &&& 31) = nI (2 ^ k) := by
  have : ∀ k : Fin 31, (1 : Int32) <<< (nI k &&& 31) = nI (2 ^ k.val) := by decide +kernel
  exact this ⟨k, hk⟩
theorem shr_n {s k : Nat} (hs : s < 2 ^ 31) (hk : k < 32) : nI s >>> nI k = nI (s >>> k) := by
  apply Int32.toBitVec_inj.1
  rw [Int32.toBitVec_shiftRight]
  have e : ∀ k : Fin 32, ((nI k).toBitVec.smod 32).toNat = k.val := by decide
  have e2 := e ⟨k, hk⟩
  dsimp only at e2
  have hm : (nI s).toBitVec.msb = false := by
    show (BitVec.ofNat 32 s).msb = false
    rw [BitVec.msb_eq_decide]
    simp
    rw [Nat.mod_eq_of_lt (by omega)]
    omega
  rw [BitVec.sshiftRight', e2, BitVec.sshiftRight_eq_of_msb_false hm]
  apply BitVec.eq_of_toNat_eq
  show ((BitVec.ofNat 32 s) >>> k).toNat = (BitVec.ofNat 32 (s >>> k)).toNat
  have h2 : s >>> k ≤ s := by rw [Nat.shiftRight_eq_div_pow]; exact Nat.div_le_self _ _
  rw [BitVec.toNat_ushiftRight, BitVec.toNat_ofNat, BitVec.toNat_ofNat, Nat.mod_eq_of_lt (by omega), Nat.mod_eq_of_lt (by omega)]
theorem bit_n {s k : Nat} (hs : s < 2 ^ 31) (hk : k < 32) : (nI s >>> (nI k &&& 31)) &&& 1 = if s.testBit k = true then 1 else 0 := by
  rw [and31 hk, shr_n hs hk]
  show nI (s >>> k) &&& nI 1 = _
  rw [fa_and, Nat.testBit]
  rw [Nat.and_comm 1 (s >>> k), Nat.and_one_is_mod]
  rcases Nat.mod_two_eq_zero_or_one (s >>> k) with e | e
  · rw [e]; rfl
  · rw [e]; rfl
theorem not_n {k : Nat} (hk : k < 8) : ((1 : Int32) <<< (nI k &&& 31)) ^^^ (-1) = nI (2 ^ 32 - (2 ^ k + 1)) := by
  have : ∀ k : Fin 8, ((1 : Int32) <<< (nI k &&& 31)) ^^^ (-1) = nI (2 ^ 32 - (2 ^ k.val + 1)) := by decide +kernel
  exact this ⟨k, hk⟩
theorem clr_n {s k : Nat} (hk : k < 8) : nI s &&& (((1 : Int32) <<< (nI k &&& 31)) ^^^ (-1)) = nI (s &&& (2 ^ 32 - (2 ^ k + 1))) := by
  rw [not_n hk, fa_and]
theorem clr_le (s k : Nat) : s &&& (2 ^ 32 - (2 ^ k + 1)) ≤ s := Nat.and_le_left
theorem clr_b {s k : Nat} (hs : s < 256) (hk : k < 8) : (s &&& (2 ^ 32 - (2 ^ k + 1))).testBit = wS s.testBit k := by
  funext j
  have h2 : (2 : Nat) ^ k < 2 ^ 32 := Nat.pow_lt_pow_right (by decide) (by omega)
  rw [Nat.testBit_and, Nat.testBit_two_pow_sub_succ h2, Nat.testBit_two_pow, wS]
  by_cases c : j < 32
  · simp only [c, decide_true, Bool.true_and]
    by_cases d : k = j
    · simp [d]
    · simp [d, Ne.symm d]
  · have : s.testBit j = false := Nat.testBit_lt_two_pow (Nat.lt_of_lt_of_le hs (by
      have : (2 : Nat) ^ 8 ≤ 2 ^ j := Nat.pow_le_pow_right (by decide) (by omega)
      omega))
    rw [this]; rfl
def dS (z s : Nat) : Nat → Bool := fun j => decide (j < z) && !s.testBit j
theorem dS_or (s k : Nat) : dS z (s ||| 2 ^ k) = wS (dS z s) k := by
  funext j
  rw [dS, wS, dS, Nat.testBit_or, Nat.testBit_two_pow]
  by_cases d : k = j
  · simp [d]
  · simp [d, Ne.symm d]
theorem dS_0 : dS z 0 = (2 ^ z - 1).testBit := by
  funext j
  rw [dS, Nat.testBit_two_pow_sub_one]
  simp
theorem dS_t {s k : Nat} (hk : k < z) : dS z s k = true ↔ ¬ s.testBit k = true := by simp [dS, hk]
theorem or_same {s k : Nat} : s ||| 2 ^ k = s ↔ s.testBit k = true := by
  refine ⟨fun h => ?_, fun h => Nat.eq_of_testBit_eq (fun j => ?_)⟩
  · rw [← h, Nat.testBit_or, Nat.testBit_two_pow]; simp
  · rw [Nat.testBit_or, Nat.testBit_two_pow]
    by_cases d : k = j
    · subst d; simp [h]
    · simp [d]
theorem pop_or1 {s k : Nat} (hs : s < 256) (hk : k < 8) : pop (s ||| 2 ^ k) ≤ pop s + 1 := by
  have : ∀ k : Fin 8, ∀ s : Fin 256, pop (s.val ||| 2 ^ k.val) ≤ pop s.val + 1 := by decide +kernel
  exact this ⟨k, hk⟩ ⟨s, hs⟩
theorem pop_1 {k : Nat} (hk : k < 8) : pop (2 ^ k) ≤ 1 := by
  have : ∀ k : Fin 8, pop (2 ^ k.val) ≤ 1 := by decide +kernel
  exact this ⟨k, hk⟩
theorem pop_0 : pop 0 = 0 := by decide
theorem p2_8 {z : Nat} (hz : z ≤ 8) : 2 ^ z ≤ 256 := Nat.pow_le_pow_right (n := 2) (by decide) hz
end WAY
/-! way: the reference's table -/
section WAY2
variable {G : Nat → Nat → Nat} {rd : Nat → Nat → Bool} {z : Nat} {B N : xM}
theorem mg_eq (hr : ∀ t to, t < 6 → to < 6 → rd t to = decide (0 < B 55 0 (6 * t + to))) (hf : xfr 97 B N) {r t to : Nat} (ht : t < 6) (hto : to < 6) (h5 : r ≤ 6) : f_X11_mayGo (nI (r + 1)) (nI t) (nI to) N = alw rd r t to := by
  unfold f_X11_mayGo
  rw [i6' ht hto, hf 55 0 _ (by decide)]
  simp only [nI_eq (show t < 2 ^ 31 by omega) (show to < 2 ^ 31 by omega)]
  have e1 : nI (r + 1) ≤ 1 ↔ r + 1 ≤ 1 := nI_leI (b := 1) (by omega) (by omega)
  simp only [e1, alw, hr t to ht hto]
  by_cases c : t = to
  · rw [if_pos c]; simp [c]
  · rw [if_neg c]
    by_cases d : r = 0
    · rw [if_pos (by omega)]; simp [c, d]
    · rw [if_neg (by omega)]
      by_cases e : B 55 0 (6 * t + to) ≤ 0
      · rw [if_pos e]
        have : ¬ 0 < B 55 0 (6 * t + to) := Int32.not_lt.mpr e
        simp [c, this]
      · rw [if_neg e]
        have : 0 < B 55 0 (6 * t + to) := Int32.not_le.mp e
        simp [d, this]
def wgv (G : Nat → Nat → Nat) (rd : Nat → Nat → Bool) (z r t : Nat) (S : Nat → Bool) (k to : Nat) : Nat := if k = z then Wv G rd z r to S else G t k + Wv G rd z r to (wS S k)
theorem wgv_b (hG : ∀ t k, G t k ≤ 100) (r t : Nat) (S : Nat → Bool) (k to : Nat) : wgv G rd z r t S k to ≤ 100 + 100 * r := by
  unfold wgv
  split
  · have := Wv_b (rd := rd) (z := z) hG r to S; omega
  · have := Wv_b (rd := rd) (z := z) hG r to (wS S k)
    have := hG t k
    omega
def cl97 (G : Nat → Nat → Nat) (rd : Nat → Nat → Bool) (z r : Nat) (N : xM) : Prop := ∀ to s, to < 6 → s < 2 ^ z → N 97 0 (1536 * r + 256 * to + s) = nI (Wv G rd z r to s.testBit)
theorem gb_eq (hz : z ≤ 8) (hg : ∀ t k, t < 6 → k < z → f_X11_brings (nI k) (nI t) B = nI (G t k)) (hf : xfr 97 B N) {r : Nat} (h5 : r ≤ 6) (hc : cl97 G rd z r N) {s t k to : Nat} (hs : s < 2 ^ z) (ht : t < 6) (hk : k ≤ z) (hto : to < 6) : f_X11_goesBy (nI (r + 1)) (nI s) (nI t) (nI k) (nI z) (nI to) N = nI (wgv G rd z r t s.testBit k to) := by
  have p8 := p2_8 hz
  unfold f_X11_goesBy wgv
  simp only [xlet_p, nI_eq (show k < 2 ^ 31 by omega) (show z < 2 ^ 31 by omega), nI_pred]
  by_cases c : k = z
  · rw [if_pos c, if_pos c, nI_m 1536 r 1536 rfl, nI_m 256 to 256 rfl, nI_add, nI_add, nI_clamp (by omega), hc to s hto hs, Int32.zero_add]
  · rw [if_neg c, if_neg c, clr_n (by omega)]
    have l := clr_le s k
    have hb := hg t k ht (by omega)
    have e : f_X11_brings (nI k) (nI t) N = f_X11_brings (nI k) (nI t) B := by
      unfold f_X11_brings
      rw [hf 98 _ _ (by decide), hf 82 _ _ (by decide), hf 96 _ _ (by decide), hf 81 _ _ (by decide)]
    generalize hq : s &&& (2 ^ 32 - (2 ^ k + 1)) = q at *
    rw [e, hb, nI_m 1536 r 1536 rfl, nI_m 256 to 256 rfl, nI_add, nI_add, nI_clamp (by omega), hc to q hto (by omega), nI_add, ← hq, clr_b (by omega) (by omega)]
/-- where one place is tried in every town -/
theorem w258 (town sh i days what why : Int32) (hz : z ≤ 8) (hr : ∀ t to, t < 6 → to < 6 → rd t to = decide (0 < B 55 0 (6 * t + to))) (hg : ∀ t k, t < 6 → k < z → f_X11_brings (nI k) (nI t) B = nI (G t k)) (hG : ∀ t k, G t k ≤ 100) (hf : xfr 97 B N) {r : Nat} (h5 : r ≤ 6) (hc : cl97 G rd z r N) {s t k : Nat} (hs : s < 2 ^ z) (ht : t < 6) (hk : k ≤ z) (hb : k = z ∨ s.testBit k = true) : ∀ (m to n best : Nat) (kx : Int32 → Int32 → Int32 × xM), to + m = 6 → m < n → best ≤ 700 → ∃ v x, f_X11_way_L258 town sh i (nI z) days what why (nI (r + 1)) (nI t) (nI s) (nI k) N n (nI best) (nI to) kx = kx (nI v) x ∧ v ≤ 700 ∧ ∀ u, v ≤ u ↔ best ≤ u ∧ ∀ to', to ≤ to' → to' < 6 → alw rd r t to' = true → wgv G rd z r t s.testBit k to' ≤ u := by
  have p8 := p2_8 hz
  intro m
  induction m with
  | zero =>
    intro to n best kx h1 h2 h3
    obtain ⟨n, rfl⟩ : ∃ k, n = k + 1 := ⟨n - 1, by omega⟩
    rw [f_X11_way_L258, if_pos (show (6 : Int32) ≤ nI to from nI_le (a := 6) (by omega) (by omega))]
    exact ⟨best, _, rfl, h3, fun u => ⟨fun h => ⟨h, fun to' q1 q2 => by omega⟩, fun h => h.1⟩⟩
  | succ m ih =>
    intro to n best kx h1 h2 h3
    obtain ⟨n, rfl⟩ : ∃ k, n = k + 1 := ⟨n - 1, by omega⟩
    rw [f_X11_way_L258, if_neg (show ¬ (6 : Int32) ≤ nI to from nI_ge (b := 6) (by omega) (by decide))]
    have b0 : (0 : Int32) ≤ nI best := nI_pos' (by omega)
    have gb := wgv_b (rd := rd) (z := z) hG r t s.testBit k to
    simp only [xlet_p, xb_0, mg_eq hr hf ht (show to < 6 by omega) h5, gb_eq hz hg hf h5 hc hs ht hk (show to < 6 by omega), nI_1, if_pos b0, bit_n (show s < 2 ^ 31 by omega) (show k < 32 by omega), nI_leI (show wgv G rd z r t s.testBit k to < 2 ^ 31 by omega) (show best < 2 ^ 31 by omega)]
    have body : ∃ v x, (if alw rd r t to = false then f_X11_way_L258 town sh i (nI z) days what why (nI (r + 1)) (nI t) (nI s) (nI k) N n (nI best) (nI (to + 1)) kx else if wgv G rd z r t s.testBit k to ≤ best then f_X11_way_L258 town sh i (nI z) days what why (nI (r + 1)) (nI t) (nI s) (nI k) N n (nI best) (nI (to + 1)) kx else f_X11_way_L258 town sh i (nI z) days what why (nI (r + 1)) (nI t) (nI s) (nI k) N n (nI (wgv G rd z r t s.testBit k to)) (nI (to + 1)) kx) = kx (nI v) x ∧ v ≤ 700 ∧ ∀ u, v ≤ u ↔ best ≤ u ∧ ∀ to', to ≤ to' → to' < 6 → alw rd r t to' = true → wgv G rd z r t s.testBit k to' ≤ u := by
      by_cases c : alw rd r t to = false
      · rw [if_pos c]
        obtain ⟨v, x, e1, e2, e3⟩ := ih (to + 1) n best kx (by omega) (by omega) h3
        refine ⟨v, x, e1, e2, fun u => (e3 u).trans ⟨fun h => ⟨h.1, fun to' q1 q2 q3 => ?_⟩, fun h => ⟨h.1, fun to' q1 q2 q3 => h.2 to' (by omega) q2 q3⟩⟩⟩
        by_cases d : to' = to
        · subst d; rw [c] at q3; exact absurd q3 (by decide)
        · exact h.2 to' (by omega) q2 q3
      · rw [if_neg c]
        have c' : alw rd r t to = true := by cases q : alw rd r t to <;> simp_all
        by_cases d : wgv G rd z r t s.testBit k to ≤ best
        · rw [if_pos d]
          obtain ⟨v, x, e1, e2, e3⟩ := ih (to + 1) n best kx (by omega) (by omega) h3
          refine ⟨v, x, e1, e2, fun u => (e3 u).trans ⟨fun h => ⟨h.1, fun to' q1 q2 q3 => ?_⟩, fun h => ⟨h.1, fun to' q1 q2 q3 => h.2 to' (by omega) q2 q3⟩⟩⟩
          by_cases d : to' = to
          · subst d; have := h.1; omega
          · exact h.2 to' (by omega) q2 q3
        · rw [if_neg d]
          obtain ⟨v, x, e1, e2, e3⟩ := ih (to + 1) n (wgv G rd z r t s.testBit k to) kx (by omega) (by omega) (by omega)
          refine ⟨v, x, e1, e2, fun u => (e3 u).trans ⟨fun h => ⟨by have := h.1; omega, fun to' q1 q2 q3 => ?_⟩, fun h => ⟨h.2 to (Nat.le_refl _) (by omega) c', fun to' q1 q2 q3 => h.2 to' (by omega) q2 q3⟩⟩⟩
          by_cases d : to' = to
          · subst d; exact h.1
          · exact h.2 to' (by omega) q2 q3
    by_cases c : k = z
    · rw [if_pos (by rw [c])]; exact body
    · rw [if_neg (fun q => c ((nI_eq (by omega) (by omega)).mp q)), if_pos (hb.resolve_left c), if_pos rfl]; exact body
theorem w258n (town sh i days what why : Int32) (hz : z ≤ 8) {day t s k : Nat} (hs : s < 256) (hk : k < z) (hb : s.testBit k = false) (n : Nat) (hn : 0 < n) (best : Int32) (kx : Int32 → Int32 → Int32 × xM) : ∃ x, f_X11_way_L258 town sh i (nI z) days what why (nI day) (nI t) (nI s) (nI k) N n best 0 kx = kx best x := by
  obtain ⟨n, rfl⟩ : ∃ k, n = k + 1 := ⟨n - 1, by omega⟩
  rw [f_X11_way_L258, if_neg (by decide), if_neg (fun q => absurd ((nI_eq (by omega) (by omega)).mp q) (by omega)), bit_n (by omega) (by omega), hb, if_neg (by decide)]
  exact ⟨_, rfl⟩
theorem w248 (town sh i days what why : Int32) (hz : z ≤ 8) (hr : ∀ t to, t < 6 → to < 6 → rd t to = decide (0 < B 55 0 (6 * t + to))) (hg : ∀ t k, t < 6 → k < z → f_X11_brings (nI k) (nI t) B = nI (G t k)) (hG : ∀ t k, G t k ≤ 100) (hf : xfr 97 B N) {r : Nat} (h5 : r ≤ 6) (hc : cl97 G rd z r N) {s t : Nat} (hs : s < 2 ^ z) (ht : t < 6) : ∀ (m k n best : Nat) (kx : Int32 → Int32 → Int32 × xM), k + m = z + 1 → m < n → best ≤ 700 → ∃ v x, f_X11_way_L248 town sh i (nI z) days what why (nI (r + 1)) (nI t) (nI s) N n (nI best) (nI k) kx = kx (nI v) x ∧ v ≤ 700 ∧ ∀ u, v ≤ u ↔ best ≤ u ∧ ∀ k' to', k ≤ k' → k' ≤ z → (k' = z ∨ s.testBit k' = true) → to' < 6 → alw rd r t to' = true → wgv G rd z r t s.testBit k' to' ≤ u := by
  have p8 := p2_8 hz
  intro m
  induction m with
  | zero =>
    intro k n best kx h1 h2 h3
    obtain ⟨n, rfl⟩ : ∃ k, n = k + 1 := ⟨n - 1, by omega⟩
    rw [f_X11_way_L248, if_pos (nI_lt (by omega) (by omega))]
    exact ⟨best, _, rfl, h3, fun u => ⟨fun h => ⟨h, fun k' to' q1 q2 => by omega⟩, fun h => h.1⟩⟩
  | succ m ih =>
    intro k n best kx h1 h2 h3
    obtain ⟨n, rfl⟩ : ∃ k, n = k + 1 := ⟨n - 1, by omega⟩
    rw [f_X11_way_L248, if_neg (fun q => absurd ((nI_ltI (by omega) (by omega)).mp q) (by omega))]
    simp only [xlet_p, nI_1]
    by_cases c : k = z ∨ s.testBit k = true
    · obtain ⟨v, x, e1, e2, e3⟩ := w258 town sh i days what why hz hr hg hG hf h5 hc hs ht (show k ≤ z by omega) c 6 0 (xmu (0 : Int32) 6 + 1) best (fun best_34 to_35 => f_X11_way_L248 town sh i (nI z) days what why (nI (r + 1)) (nI t) (nI s) N n best_34 (nI (k + 1)) kx) rfl (by decide) h3
      obtain ⟨w, y, f1, f2, f3⟩ := ih (k + 1) n v kx (by omega) (by omega) e2
      refine ⟨w, y, e1.trans f1, f2, fun u => (f3 u).trans ?_⟩
      rw [e3 u]
      refine ⟨fun h => ⟨h.1.1, fun k' to' q1 q2 q3 q4 q5 => ?_⟩, fun h => ⟨⟨h.1, fun to' _ q2 q3 => h.2 k to' (Nat.le_refl _) (by omega) c q2 q3⟩, fun k' to' q1 => h.2 k' to' (by omega)⟩⟩
      by_cases d : k' = k
      · subst d; exact h.1.2 to' (Nat.zero_le _) q4 q5
      · exact h.2 k' to' (by omega) q2 q3 q4 q5
    · have cz : ¬ k = z := fun q => c (Or.inl q)
      have cb : s.testBit k = false := by cases q : s.testBit k <;> simp_all
      obtain ⟨x, e1⟩ := w258n (N := N) town sh i days what why hz (day := r + 1) (t := t) (show s < 256 by omega) (show k < z by omega) cb (xmu (0 : Int32) 6 + 1) (by omega) (nI best) (fun best_34 to_35 => f_X11_way_L248 town sh i (nI z) days what why (nI (r + 1)) (nI t) (nI s) N n best_34 (nI (k + 1)) kx)
      obtain ⟨w, y, f1, f2, f3⟩ := ih (k + 1) n best kx (by omega) (by omega) h3
      refine ⟨w, y, e1.trans f1, f2, fun u => (f3 u).trans ⟨fun h => ⟨h.1, fun k' to' q1 q2 q3 q4 q5 => ?_⟩, fun h => ⟨h.1, fun k' to' q1 => h.2 k' to' (by omega)⟩⟩⟩
      by_cases d : k' = k
      · subst d; exact absurd q3 c
      · exact h.2 k' to' (by omega) q2 q3 q4 q5
theorem w248v (town sh i days what why : Int32) (hz : z ≤ 8) (hr : ∀ t to, t < 6 → to < 6 → rd t to = decide (0 < B 55 0 (6 * t + to))) (hg : ∀ t k, t < 6 → k < z → f_X11_brings (nI k) (nI t) B = nI (G t k)) (hG : ∀ t k, G t k ≤ 100) (hf : xfr 97 B N) {r : Nat} (h5 : r ≤ 6) (hc : cl97 G rd z r N) {s t : Nat} (hs : s < 2 ^ z) (ht : t < 6) (kx : Int32 → Int32 → Int32 × xM) : ∃ x, f_X11_way_L248 town sh i (nI z) days what why (nI (r + 1)) (nI t) (nI s) N (xmu (0 : Int32) (nI z + 1) + 1) 0 0 kx = kx (nI (Wv G rd z (r + 1) t s.testBit)) x := by
  obtain ⟨v, x, e1, e2, e3⟩ := w248 town sh i days what why hz hr hg hG hf h5 hc hs ht (z + 1) 0 (xmu (0 : Int32) (nI z + 1) + 1) 0 kx (by omega) (by rw [nI_1]; unfold xmu; rw [nI_toInt (by omega)]; simp) (by omega)
  have e : v = Wv G rd z (r + 1) t s.testBit := by
    refine eqle (fun u => ?_)
    rw [e3 u, Wv_le]
    refine ⟨fun h to q1 q2 => ⟨?_, fun k hk hS => ?_⟩, fun h => ⟨Nat.zero_le _, fun k to q1 q2 q3 q4 q5 => ?_⟩⟩
    · have := h.2 z to (Nat.zero_le _) (Nat.le_refl _) (Or.inl rfl) q1 q2
      rw [wgv, if_pos rfl] at this
      exact this
    · have := h.2 k to (Nat.zero_le _) (by omega) (Or.inr hS) q1 q2
      rw [wgv, if_neg (by omega)] at this
      exact this
    · unfold wgv
      by_cases c : k = z
      · rw [if_pos c]; exact (h to q4 q5).1
      · rw [if_neg c]; exact (h to q4 q5).2 k (by omega) (q3.resolve_left c)
  rw [← e]
  exact ⟨x, e1⟩
end WAY2
/-! way: the reference's table, filled -/
section WAY3
variable {G : Nat → Nat → Nat} {rd : Nat → Nat → Bool} {z : Nat} {B : xM}
theorem w188 (town sh i zz days what why : Int32) : ∀ (m k n : Nat) (N : xM) (kx : Int32 → xM → Int32 × xM), k + m = 1536 → m < n → xfr 97 B N → (∀ j, j < k → N 97 0 j = 0) → ∃ N' x, f_X11_way_L188 town sh i zz days what why n (nI k) N kx = kx x N' ∧ xfr 97 B N' ∧ ∀ j, j < 1536 → N' 97 0 j = 0 := by
  intro m
  induction m with
  | zero =>
    intro k n N kx h1 h2 hf h3
    obtain ⟨n, rfl⟩ : ∃ k, n = k + 1 := ⟨n - 1, by omega⟩
    rw [f_X11_way_L188, if_pos (show (1536 : Int32) ≤ nI k from nI_le (a := 1536) (by omega) (by omega))]
    exact ⟨N, _, rfl, hf, fun j hj => h3 j (by omega)⟩
  | succ m ih =>
    intro k n N kx h1 h2 hf h3
    obtain ⟨n, rfl⟩ : ∃ k, n = k + 1 := ⟨n - 1, by omega⟩
    rw [f_X11_way_L188, if_neg (show ¬ (1536 : Int32) ≤ nI k from nI_ge (b := 1536) (by omega) (by decide))]
    simp only [xlet_p, nI_1, nI_clamp (show k < 2 ^ 31 by omega)]
    refine ih (k + 1) n _ kx (by omega) (by omega) (xfr_up hf) (fun j hj => ?_)
    by_cases d : j = k
    · subst d; exact xup_same
    · rw [xup_j d]; exact h3 j (by omega)
def dn97 (G : Nat → Nat → Nat) (rd : Nat → Nat → Bool) (z r t s : Nat) (N : xM) : Prop := ∀ t' s', t' < 6 → s' < 2 ^ z → (t' < t ∨ t' = t ∧ s' < s) → N 97 0 (1536 * (r + 1) + 256 * t' + s') = nI (Wv G rd z (r + 1) t' s'.testBit)
theorem w233 (town sh i days what why : Int32) (hz : z ≤ 8) (hr : ∀ t to, t < 6 → to < 6 → rd t to = decide (0 < B 55 0 (6 * t + to))) (hg : ∀ t k, t < 6 → k < z → f_X11_brings (nI k) (nI t) B = nI (G t k)) (hG : ∀ t k, G t k ≤ 100) {r : Nat} (h5 : r ≤ 6) {t : Nat} (ht : t < 6) : ∀ (m s n : Nat) (N : xM) (kx : Int32 → xM → Int32 × xM), s + m = 2 ^ z → m < n → xfr 97 B N → cl97 G rd z r N → dn97 G rd z r t s N → ∃ N' x, f_X11_way_L233 town sh i (nI z) days what why (nI (r + 1)) (nI t) n (nI s) N kx = kx x N' ∧ xfr 97 B N' ∧ cl97 G rd z r N' ∧ dn97 G rd z r (t + 1) 0 N' := by
  have p8 := p2_8 hz
  intro m
  induction m with
  | zero =>
    intro s n N kx h1 h2 hf hc hd
    obtain ⟨n, rfl⟩ : ∃ k, n = k + 1 := ⟨n - 1, by omega⟩
    rw [f_X11_way_L233, shl_32 (by omega), if_pos (nI_le (by omega) (by omega))]
    exact ⟨N, _, rfl, hf, hc, fun t' s' q1 q2 q3 => hd t' s' q1 q2 (by omega)⟩
  | succ m ih =>
    intro s n N kx h1 h2 hf hc hd
    obtain ⟨n, rfl⟩ : ∃ k, n = k + 1 := ⟨n - 1, by omega⟩
    rw [f_X11_way_L233, shl_32 (by omega), if_neg (nI_ge (by omega) (by omega))]
    obtain ⟨x, e⟩ := w248v town sh i days what why hz hr hg hG hf h5 hc (show s < 2 ^ z by omega) ht (fun best_38 k_39 => xlet (xup N 97 0 (((1536 * nI (r + 1)) + (256 * nI t)) + nI s).toNatClampNeg best_38) fun M_40 => xlet (nI s + 1) fun x10_41 => f_X11_way_L233 town sh i (nI z) days what why (nI (r + 1)) (nI t) n x10_41 M_40 kx)
    rw [e]
    simp only [xlet_p, nI_1]
    rw [nI_m 1536 (r + 1) 1536 rfl, nI_m 256 t 256 rfl, nI_add, nI_add, nI_clamp (by omega)]
    refine ih (s + 1) n _ kx (by omega) (by omega) (xfr_up hf) (fun to s' q1 q2 => ?_) (fun t' s' q1 q2 q3 => ?_)
    · rw [xup_j (by omega)]; exact hc to s' q1 q2
    · by_cases d : t' = t ∧ s' = s
      · obtain ⟨rfl, rfl⟩ := d; exact xup_same
      · rw [xup_j (by omega)]; exact hd t' s' q1 q2 (by omega)
theorem w223 (town sh i days what why : Int32) (hz : z ≤ 8) (hr : ∀ t to, t < 6 → to < 6 → rd t to = decide (0 < B 55 0 (6 * t + to))) (hg : ∀ t k, t < 6 → k < z → f_X11_brings (nI k) (nI t) B = nI (G t k)) (hG : ∀ t k, G t k ≤ 100) {r : Nat} (h5 : r ≤ 6) : ∀ (m t n : Nat) (N : xM) (kx : Int32 → xM → Int32 × xM), t + m = 6 → m < n → xfr 97 B N → cl97 G rd z r N → dn97 G rd z r t 0 N → ∃ N' x, f_X11_way_L223 town sh i (nI z) days what why (nI (r + 1)) n (nI t) N kx = kx x N' ∧ xfr 97 B N' ∧ cl97 G rd z (r + 1) N' ∧ cl97 G rd z r N' := by
  have p8 := p2_8 hz
  intro m
  induction m with
  | zero =>
    intro t n N kx h1 h2 hf hc hd
    obtain ⟨n, rfl⟩ : ∃ k, n = k + 1 := ⟨n - 1, by omega⟩
    rw [f_X11_way_L223, if_pos (show (6 : Int32) ≤ nI t from nI_le (a := 6) (by omega) (by omega))]
    exact ⟨N, _, rfl, hf, fun to s q1 q2 => hd to s q1 q2 (by omega), hc⟩
  | succ m ih =>
    intro t n N kx h1 h2 hf hc hd
    obtain ⟨n, rfl⟩ : ∃ k, n = k + 1 := ⟨n - 1, by omega⟩
    rw [f_X11_way_L223, if_neg (show ¬ (6 : Int32) ≤ nI t from nI_ge (b := 6) (by omega) (by decide)), shl_32 (by omega)]
    simp only [xlet_p, nI_1]
    obtain ⟨N', x, e1, e2, e3, e4⟩ := w233 town sh i days what why hz hr hg hG h5 (show t < 6 by omega) (2 ^ z) 0 (xmu (0 : Int32) (nI (2 ^ z)) + 1) N (fun set__43 M_44 => f_X11_way_L223 town sh i (nI z) days what why (nI (r + 1)) n (nI (t + 1)) M_44 kx) (by omega) (by unfold xmu; rw [nI_toInt (by omega), show (0 : Int32).toInt = 0 from rfl]; omega) hf hc hd
    obtain ⟨N2, x2, f1, f2⟩ := ih (t + 1) n N' kx (by omega) (by omega) e2 e3 e4
    exact ⟨N2, x2, e1.trans f1, f2⟩
theorem w213 (town sh i what why : Int32) (hz : z ≤ 8) (hr : ∀ t to, t < 6 → to < 6 → rd t to = decide (0 < B 55 0 (6 * t + to))) (hg : ∀ t k, t < 6 → k < z → f_X11_brings (nI k) (nI t) B = nI (G t k)) (hG : ∀ t k, G t k ≤ 100) {days : Nat} (h6 : days ≤ 6) : ∀ (m d n : Nat) (N : xM) (kx : Int32 → xM → Int32 × xM), d + m = days → m < n → xfr 97 B N → cl97 G rd z d N → (0 < d → cl97 G rd z (d - 1) N) → ∃ N' x, f_X11_way_L213 town sh i (nI z) (nI days) what why n (nI (d + 1)) N kx = kx x N' ∧ xfr 97 B N' ∧ cl97 G rd z days N' ∧ (0 < days → cl97 G rd z (days - 1) N') := by
  have p8 := p2_8 hz
  intro m
  induction m with
  | zero =>
    intro d n N kx h1 h2 hf hc hc'
    obtain ⟨n, rfl⟩ : ∃ k, n = k + 1 := ⟨n - 1, by omega⟩
    rw [f_X11_way_L213, if_pos (nI_lt (by omega) (by omega))]
    obtain rfl : d = days := by omega
    exact ⟨N, _, rfl, hf, hc, hc'⟩
  | succ m ih =>
    intro d n N kx h1 h2 hf hc hc'
    obtain ⟨n, rfl⟩ : ∃ k, n = k + 1 := ⟨n - 1, by omega⟩
    rw [f_X11_way_L213, if_neg (nI_nlt (by omega) (by omega))]
    simp only [xlet_p, nI_1]
    obtain ⟨N', x, e1, e2, e3, e4⟩ := w223 town sh i (nI days) what why hz hr hg hG (show d ≤ 6 by omega) 6 0 (xmu (0 : Int32) 6 + 1) N (fun t_47 M_48 => f_X11_way_L213 town sh i (nI z) (nI days) what why n (nI (d + 1 + 1)) M_48 kx) (by omega) (by decide) hf hc (fun t' s' q1 q2 q3 => by omega)
    obtain ⟨N2, x2, f1, f2⟩ := ih (d + 1) n N' kx (by omega) (by omega) e2 e3 (fun _ => e4)
    exact ⟨N2, x2, e1.trans f1, f2⟩
/-! the first way that brings the most -/
def fst1 (V : Nat → Nat → Nat) (al : Nat → Bool) (z a b : Nat) : Prop := a < 6 ∧ b ≤ z ∧ al a = true ∧ (∀ a' b', a' < 6 → b' ≤ z → al a' = true → V a' b' ≤ V a b) ∧ ∀ a' b', a' < 6 → b' ≤ z → al a' = true → (a' < a ∨ a' = a ∧ b' < b) → V a' b' < V a b
def cdW (z a b : Nat) : Int32 := if b = z then 16 * nI a + 15 else 16 * nI a + nI b
theorem w438 (sh i what why : Int32) {N : xM} (hz : z ≤ 8) (hr : ∀ t to, t < 6 → to < 6 → rd t to = decide (0 < B 55 0 (6 * t + to))) (hg : ∀ t k, t < 6 → k < z → f_X11_brings (nI k) (nI t) B = nI (G t k)) (hG : ∀ t k, G t k ≤ 100) (hf : xfr 97 B N) {r : Nat} (h5 : r ≤ 6) (hc : cl97 G rd z r N) {s t to a b : Nat} (hs : s < 2 ^ z) (ht : t < 6) (hto : to < 6) (hm : fst1 (fun a b => wgv G rd z r t s.testBit b a) (alw rd r t) z a b) (kx : Int32 → Int32 × xM) : ∀ (m k n : Nat), k + m = z + 1 → m < n → (to < a ∨ to = a ∧ k ≤ b) → (to < a → ∃ x, f_X11_way_L438 (nI t) sh i (nI z) (nI (r + 1)) what why (nI s) (nI (wgv G rd z r t s.testBit b a)) (nI to) N n (nI k) kx = kx x) ∧ (to = a → f_X11_way_L438 (nI t) sh i (nI z) (nI (r + 1)) what why (nI s) (nI (wgv G rd z r t s.testBit b a)) (nI to) N n (nI k) kx = (cdW z a b, N)) := by
  obtain ⟨a6, bz, ala, mx, fs⟩ := hm
  have gb := fun k to => wgv_b (rd := rd) (z := z) hG r t s.testBit k to
  intro m
  induction m with
  | zero =>
    intro k n h1 h2 h3
    obtain ⟨n, rfl⟩ : ∃ k, n = k + 1 := ⟨n - 1, by omega⟩
    rw [f_X11_way_L438, if_pos (nI_lt (by omega) (by omega))]
    exact ⟨fun _ => ⟨_, rfl⟩, fun q => by omega⟩
  | succ m ih =>
    intro k n h1 h2 h3
    obtain ⟨n, rfl⟩ : ∃ k, n = k + 1 := ⟨n - 1, by omega⟩
    have g1 := gb k to
    have g2 := gb b a
    rw [f_X11_way_L438, if_neg (nI_nlt (by omega) (by omega))]
    simp only [xlet_p, xb_0, mg_eq hr hf ht hto h5, gb_eq hz hg hf h5 hc hs ht (show k ≤ z by omega) hto, nI_1, nI_eq (show wgv G rd z r t s.testBit k to < 2 ^ 31 by omega) (show wgv G rd z r t s.testBit b a < 2 ^ 31 by omega), nI_eq (show k < 2 ^ 31 by omega) (show z < 2 ^ 31 by omega)]
    by_cases c : alw rd r t to = false
    · rw [if_pos c]
      exact ih (k + 1) n (by omega) (by omega) (by
        rcases h3 with h3 | ⟨h3, h4⟩
        · exact Or.inl h3
        · subst h3; rw [c] at ala; exact absurd ala (by decide))
    · rw [if_neg c]
      have c' : alw rd r t to = true := by cases q : alw rd r t to <;> simp_all
      by_cases d : to = a ∧ k = b
      · obtain ⟨rfl, rfl⟩ := d
        rw [if_pos rfl]
        refine ⟨fun q => by omega, fun _ => ?_⟩
        unfold cdW
        split <;> rfl
      · have l := fs to k hto (by omega) c' (by omega)
        dsimp only at l
        rw [if_neg (by omega)]
        exact ih (k + 1) n (by omega) (by omega) (by omega)
theorem w428 (sh i what why : Int32) {N : xM} (hz : z ≤ 8) (hr : ∀ t to, t < 6 → to < 6 → rd t to = decide (0 < B 55 0 (6 * t + to))) (hg : ∀ t k, t < 6 → k < z → f_X11_brings (nI k) (nI t) B = nI (G t k)) (hG : ∀ t k, G t k ≤ 100) (hf : xfr 97 B N) {r : Nat} (h5 : r ≤ 6) (hc : cl97 G rd z r N) {s t a b : Nat} (hs : s < 2 ^ z) (ht : t < 6) (hm : fst1 (fun a b => wgv G rd z r t s.testBit b a) (alw rd r t) z a b) (kx : Int32 → Int32 × xM) : ∀ (m to n : Nat), to + m = 6 → m < n → to ≤ a → f_X11_way_L428 (nI t) sh i (nI z) (nI (r + 1)) what why (nI s) (nI (wgv G rd z r t s.testBit b a)) N n (nI to) kx = (cdW z a b, N) := by
  have a6 := hm.1
  intro m
  induction m with
  | zero => intro to n h1 h2 h3; omega
  | succ m ih =>
    intro to n h1 h2 h3
    obtain ⟨n, rfl⟩ : ∃ k, n = k + 1 := ⟨n - 1, by omega⟩
    rw [f_X11_way_L428, if_neg (show ¬ (6 : Int32) ≤ nI to from nI_ge (b := 6) (by omega) (by decide))]
    simp only [xlet_p, nI_1]
    obtain ⟨e1, e2⟩ := w438 sh i what why hz hr hg hG hf h5 hc hs ht (show to < 6 by omega) hm (fun k_10 => f_X11_way_L428 (nI t) sh i (nI z) (nI (r + 1)) what why (nI s) (nI (wgv G rd z r t s.testBit b a)) N n (nI (to + 1)) kx) (z + 1) 0 (xmu (0 : Int32) (nI (z + 1)) + 1) (by omega) (by unfold xmu; rw [nI_toInt (by omega)]; simp) (by omega)
    by_cases c : to = a
    · exact e2 c
    · obtain ⟨x, e⟩ := e1 (by omega)
      exact e.trans (ih (to + 1) n (by omega) (by omega) (by omega))
end WAY3
/-! way: the class's tables -/
section WAY4
variable {G : Nat → Nat → Nat} {rd : Nat → Nat → Bool} {z : Nat}
def kG (G : Nat → Nat → Nat) (rd : Nat → Nat → Bool) (z : Nat) (N : xM) : Prop := N 11 0 3 = nI z ∧ N 11 0 4 = nI (2 ^ z) ∧ (∀ t k, t < 6 → k < z → N 20 0 (8 * t + k) = nI (G t k)) ∧ ∀ t to, t < 6 → to < 6 → rd t to = decide (0 < N 13 0 (6 * t + to))
theorem kG_of {M N : xM} (h : kG G rd z M) (e : ∀ a b c, (a = 11 ∧ (c = 3 ∨ c = 4)) ∨ a = 20 ∨ a = 13 → N a b c = M a b c) : kG G rd z N := by
  obtain ⟨h1, h2, h3, h4⟩ := h
  refine ⟨by rw [e 11 0 3 (by omega)]; exact h1, by rw [e 11 0 4 (by omega)]; exact h2, fun t k q1 q2 => by rw [e 20 _ _ (by omega)]; exact h3 t k q1 q2, fun t to q1 q2 => by rw [e 13 _ _ (by omega)]; exact h4 t to q1 q2⟩
def c22 (G : Nat → Nat → Nat) (rd : Nat → Nat → Bool) (z r d : Nat) (N : xM) : Prop := ∀ t s, t < 6 → s < 2 ^ z → pop s ≤ d → N 22 0 (256 * t + s) = nI (Ev G rd z r t (dS z s))
def c21 (G : Nat → Nat → Nat) (rd : Nat → Nat → Bool) (z r d : Nat) (N : xM) : Prop := ∀ t s, t < 6 → s < 2 ^ z → pop s ≤ d → N 21 0 (256 * t + s) = nI (Wv G rd z r t (dS z s))
theorem wpop8 {s : Nat} (hs : s < 256) : pop s ≤ 8 := by
  have : ∀ s : Fin 256, pop s.val ≤ 8 := by decide +kernel
  exact this ⟨s, hs⟩
theorem ix256 {t s : Nat} (ht : t < 6) (hs : s ≤ 256) : (nI t * 256 + nI s).toNatClampNeg = 256 * t + s := by
  rw [nI_mr 256 t 256 rfl, nI_add, nI_clamp (by omega)]; omega
theorem ix8' {t s : Nat} (ht : t < 6) (hs : s ≤ 256) : (nI t * 8 + nI s).toNatClampNeg = 8 * t + s := by
  rw [nI_mr 8 t 8 rfl, nI_add, nI_clamp (by omega)]; omega
theorem e10 {t : Nat} (hz : z ≤ 8) (ht : t < 6) : ∀ (m s n : Nat) (N : xM) (kx : Int32 → xM → xM), s + m = 2 ^ z → m < n → N 11 0 4 = nI (2 ^ z) → ∃ N' x, f_X3_endTheWay_L10 (nI t) n (nI s) N kx = kx x N' ∧ xfr 22 N N' ∧ (∀ s', s ≤ s' → s' < 2 ^ z → N' 22 0 (256 * t + s') = 0) ∧ ∀ j, j < 256 * t + s → N' 22 0 j = N 22 0 j := by
  have p8 := p2_8 hz
  intro m
  induction m with
  | zero =>
    intro s n N kx h1 h2 h3
    obtain ⟨n, rfl⟩ : ∃ k, n = k + 1 := ⟨n - 1, by omega⟩
    rw [f_X3_endTheWay_L10, h3, if_pos (nI_le (by omega) (by omega))]
    exact ⟨N, _, rfl, xfr_rf _ _, fun s' q1 q2 => by omega, fun j hj => rfl⟩
  | succ m ih =>
    intro s n N kx h1 h2 h3
    obtain ⟨n, rfl⟩ : ∃ k, n = k + 1 := ⟨n - 1, by omega⟩
    rw [f_X3_endTheWay_L10, h3, if_neg (nI_ge (by omega) (by omega))]
    simp only [xlet_p, nI_1, ix256 ht (show s ≤ 256 by omega)]
    obtain ⟨N', x, e1, e2, e3, e4⟩ := ih (s + 1) n (xup N 22 0 (256 * t + s) 0) kx (by omega) (by omega) (by rw [xup_k (by decide)]; exact h3)
    refine ⟨N', x, e1, fun a b c q => by rw [e2 a b c q, xup_k q], fun s' q1 q2 => ?_, fun j hj => by rw [e4 j (by omega), xup_j (by omega)]⟩
    by_cases d : s' = s
    · subst d; rw [e4 _ (by omega), xup_same]
    · exact e3 s' (by omega) q2
theorem e2' (hz : z ≤ 8) : ∀ (m t n : Nat) (N : xM) (kx : Int32 → xM → xM), t + m = 6 → m < n → N 11 0 4 = nI (2 ^ z) → (∀ t' s', t' < t → s' < 2 ^ z → N 22 0 (256 * t' + s') = 0) → ∃ N' x, f_X3_endTheWay_L2 n (nI t) N kx = kx x N' ∧ xfr 22 N N' ∧ ∀ t' s', t' < 6 → s' < 2 ^ z → N' 22 0 (256 * t' + s') = 0 := by
  have p8 := p2_8 hz
  intro m
  induction m with
  | zero =>
    intro t n N kx h1 h2 h3 h4
    obtain ⟨n, rfl⟩ : ∃ k, n = k + 1 := ⟨n - 1, by omega⟩
    rw [f_X3_endTheWay_L2, if_pos (show (6 : Int32) ≤ nI t from nI_le (a := 6) (by omega) (by omega))]
    exact ⟨N, _, rfl, xfr_rf _ _, fun t' s' q1 q2 => h4 t' s' (by omega) q2⟩
  | succ m ih =>
    intro t n N kx h1 h2 h3 h4
    obtain ⟨n, rfl⟩ : ∃ k, n = k + 1 := ⟨n - 1, by omega⟩
    rw [f_X3_endTheWay_L2, if_neg (show ¬ (6 : Int32) ≤ nI t from nI_ge (b := 6) (by omega) (by decide)), h3]
    simp only [xlet_p, nI_1]
    obtain ⟨N', x, e1, e2, e3, e4⟩ := e10 hz (show t < 6 by omega) (2 ^ z) 0 (xmu (0 : Int32) (nI (2 ^ z)) + 1) N (fun sold_5 M_6 => f_X3_endTheWay_L2 n (nI (t + 1)) M_6 kx) (by omega) (by unfold xmu; rw [nI_toInt (by omega), show (0 : Int32).toInt = 0 from rfl]; omega) h3
    obtain ⟨N2, x2, f1, f2, f3⟩ := ih (t + 1) n N' kx (by omega) (by omega) (by rw [e2 11 0 4 (by decide)]; exact h3) (fun t' s' q1 q2 => by
      by_cases d : t' = t
      · subst d; exact e3 s' (Nat.zero_le _) q2
      · rw [e4 _ (by omega)]; exact h4 t' s' (by omega) q2)
    exact ⟨N2, x2, e1.trans f1, fun a b c q => by rw [f2 a b c q, e2 a b c q], f3⟩
theorem etw_eq (hz : z ≤ 8) {N : xM} (h : N 11 0 4 = nI (2 ^ z)) (d : Nat) : c22 G rd z 0 d (f_X3_endTheWay N) := by
  obtain ⟨N', x, e1, -, e3⟩ := e2' hz 6 0 (xmu (0 : Int32) 6 + 1) N (fun town_8 M_9 => M_9) (by omega) (by decide) h (fun t' s' q => by omega)
  have e : f_X3_endTheWay N = N' := by
    unfold f_X3_endTheWay
    exact e1
  rw [e]
  intro t s q1 q2 _
  rw [e3 t s q1 q2, Ev_0]; rfl
theorem bs16 (hz : z ≤ 8) (hG : ∀ t k, G t k ≤ 100) {N : xM} (hk : kG G rd z N) {r d t s : Nat} (h5 : r ≤ 6) (hc : c22 G rd z r d N) (ht : t < 6) (hs : s < 2 ^ z) (hp : pop s + 1 ≤ d) : ∀ (m k n best : Nat) (kx : Int32 → Int32 → Int32), k + m = z → m < n → best ≤ 700 → ∃ v x, f_X3_bestSale_L16 (nI t) (nI s) N n (nI best) (nI k) kx = kx (nI v) x ∧ v ≤ 700 ∧ ∀ u, v ≤ u ↔ best ≤ u ∧ ∀ k', k ≤ k' → k' < z → dS z s k' = true → G t k' + Ev G rd z r t (wS (dS z s) k') ≤ u := by
  have p8 := p2_8 hz
  intro m
  induction m with
  | zero =>
    intro k n best kx h1 h2 h3
    obtain ⟨n, rfl⟩ : ∃ k, n = k + 1 := ⟨n - 1, by omega⟩
    rw [f_X3_bestSale_L16, hk.1, if_pos (nI_le (by omega) (by omega))]
    exact ⟨best, _, rfl, h3, fun u => ⟨fun h => ⟨h, fun k' q1 q2 => by omega⟩, fun h => h.1⟩⟩
  | succ m ih =>
    intro k n best kx h1 h2 h3
    obtain ⟨n, rfl⟩ : ∃ k, n = k + 1 := ⟨n - 1, by omega⟩
    have lt : s ||| 2 ^ k < 2 ^ z := Nat.or_lt_two_pow hs (Nat.pow_lt_pow_right (by decide) (by omega))
    have eb := Ev_b (rd := rd) (z := z) hG r t (wS (dS z s) k)
    have gb := hG t k
    rw [f_X3_bestSale_L16, hk.1, if_neg (nI_ge (by omega) (by omega)), shl_n (by omega), fa_or]
    simp only [xlet_p, nI_1, nI_eq (show s ||| 2 ^ k < 2 ^ 31 by omega) (show s < 2 ^ 31 by omega), ix256 ht (show s ||| 2 ^ k ≤ 256 by omega), ix8' ht (show k ≤ 256 by omega), hk.2.2.1 t k ht (show k < z by omega)]
    by_cases c : s ||| 2 ^ k = s
    · rw [if_pos c]
      obtain ⟨v, x, e1, e2, e3⟩ := ih (k + 1) n best kx (by omega) (by omega) h3
      refine ⟨v, x, e1, e2, fun u => (e3 u).trans ⟨fun h => ⟨h.1, fun k' q1 q2 q3 => ?_⟩, fun h => ⟨h.1, fun k' q1 => h.2 k' (by omega)⟩⟩⟩
      by_cases e : k' = k
      · subst e; exact absurd (or_same.mp c) ((dS_t q2).mp q3)
      · exact h.2 k' (by omega) q2 q3
    · rw [if_neg c, hc t _ ht lt (Nat.le_trans (pop_or1 (by omega) (by omega)) hp), dS_or, nI_add]
      have cs : dS z s k = true := (dS_t (by omega)).mpr (fun q => c (or_same.mpr q))
      have ee : (if nI best < nI (G t k + Ev G rd z r t (wS (dS z s) k)) then nI (G t k + Ev G rd z r t (wS (dS z s) k)) else nI best) = nI (max best (G t k + Ev G rd z r t (wS (dS z s) k))) := by
        by_cases l : best < G t k + Ev G rd z r t (wS (dS z s) k)
        · rw [if_pos (nI_lt l (by omega)), Nat.max_eq_right (by omega)]
        · rw [if_neg (nI_nlt (by omega) (by omega)), Nat.max_eq_left (by omega)]
      rw [ee]
      obtain ⟨v, x, e1, e2, e3⟩ := ih (k + 1) n (max best (G t k + Ev G rd z r t (wS (dS z s) k))) kx (by omega) (by omega) (by omega)
      refine ⟨v, x, e1, e2, fun u => (e3 u).trans ⟨fun h => ⟨by have := h.1; omega, fun k' q1 q2 q3 => ?_⟩, fun h => ⟨Nat.max_le.mpr ⟨h.1, h.2 k (Nat.le_refl _) (by omega) cs⟩, fun k' q1 => h.2 k' (by omega)⟩⟩⟩
      by_cases e : k' = k
      · subst e; have := h.1; omega
      · exact h.2 k' (by omega) q2 q3
theorem bs_eq (hz : z ≤ 8) (hG : ∀ t k, G t k ≤ 100) {N : xM} (hk : kG G rd z N) {r d t s : Nat} (h5 : r ≤ 6) (hc : c22 G rd z r d N) (ht : t < 6) (hs : s < 2 ^ z) (hp : pop s + 1 ≤ d) : f_X3_bestSale (nI t) (nI s) N = nI (Wv G rd z (r + 1) t (dS z s)) := by
  have p8 := p2_8 hz
  have eb := Ev_b (rd := rd) (z := z) hG r t (dS z s)
  obtain ⟨v, x, e1, e2, e3⟩ := bs16 hz hG hk h5 hc ht hs hp z 0 (xmu (0 : Int32) (nI z) + 1) (Ev G rd z r t (dS z s)) (fun best_9 place_10 => best_9) (by omega) (by unfold xmu; rw [nI_toInt (by omega)]; simp) (by omega)
  unfold f_X3_bestSale
  rw [xlet_p, ix256 ht (by omega), hc t s ht hs (by omega), hk.1]
  refine e1.trans ?_
  have e : v = Wv G rd z (r + 1) t (dS z s) := by
    refine eqle (fun u => ?_)
    rw [e3 u, Wv_ev ht]
    exact ⟨fun h => ⟨h.1, fun k hk hS => h.2 k (Nat.zero_le _) hk hS⟩, fun h => ⟨h.1, fun k _ hk hS => h.2 k hk hS⟩⟩
  rw [e]
theorem bm6 (hz : z ≤ 8) (hG : ∀ t k, G t k ≤ 100) {N : xM} (hk : kG G rd z N) {r d t s : Nat} (h5 : r ≤ 6) (h0 : ¬ r = 0) (hc : c21 G rd z r d N) (ht : t < 6) (hs : s < 2 ^ z) (hp : pop s ≤ d) : ∀ (m to n best : Nat) (kx : Int32 → Int32 → Int32), to + m = 6 → m < n → best ≤ 700 → ∃ v x, f_X3_bestMove_L6 (nI t) (nI s) N n (nI best) (nI to) kx = kx (nI v) x ∧ v ≤ 700 ∧ ∀ u, v ≤ u ↔ best ≤ u ∧ ∀ to', to ≤ to' → to' < 6 → alw rd r t to' = true → Wv G rd z r to' (dS z s) ≤ u := by
  have p8 := p2_8 hz
  intro m
  induction m with
  | zero =>
    intro to n best kx h1 h2 h3
    obtain ⟨n, rfl⟩ : ∃ k, n = k + 1 := ⟨n - 1, by omega⟩
    rw [f_X3_bestMove_L6, if_pos (show (6 : Int32) ≤ nI to from nI_le (a := 6) (by omega) (by omega))]
    exact ⟨best, _, rfl, h3, fun u => ⟨fun h => ⟨h, fun k' q1 q2 => by omega⟩, fun h => h.1⟩⟩
  | succ m ih =>
    intro to n best kx h1 h2 h3
    obtain ⟨n, rfl⟩ : ∃ k, n = k + 1 := ⟨n - 1, by omega⟩
    have wb := Wv_b (rd := rd) (z := z) hG r to (dS z s)
    have ee : (if nI best < nI (Wv G rd z r to (dS z s)) then nI (Wv G rd z r to (dS z s)) else nI best) = nI (max best (Wv G rd z r to (dS z s))) := by
      by_cases l : best < Wv G rd z r to (dS z s)
      · rw [if_pos (nI_lt l (by omega)), Nat.max_eq_right (by omega)]
      · rw [if_neg (nI_nlt (by omega) (by omega)), Nat.max_eq_left (by omega)]
    have hr := hk.2.2.2 t to ht (show to < 6 by omega)
    rw [f_X3_bestMove_L6, if_neg (show ¬ (6 : Int32) ≤ nI to from nI_ge (b := 6) (by omega) (by decide))]
    unfold f_X5_milesBetween
    simp only [xlet_p, nI_1, ix256 (show to < 6 by omega) (show s ≤ 256 by omega), hc to s (show to < 6 by omega) hs hp, ee, i6 ht (show to < 6 by omega), nI_eq (show to < 2 ^ 31 by omega) (show t < 2 ^ 31 by omega)]
    have yes : alw rd r t to = true → ∃ v x, f_X3_bestMove_L6 (nI t) (nI s) N n (nI (max best (Wv G rd z r to (dS z s)))) (nI (to + 1)) kx = kx (nI v) x ∧ v ≤ 700 ∧ ∀ u, v ≤ u ↔ best ≤ u ∧ ∀ to', to ≤ to' → to' < 6 → alw rd r t to' = true → Wv G rd z r to' (dS z s) ≤ u := by
      intro c
      obtain ⟨v, x, e1, e2, e3⟩ := ih (to + 1) n (max best (Wv G rd z r to (dS z s))) kx (by omega) (by omega) (by omega)
      refine ⟨v, x, e1, e2, fun u => (e3 u).trans ⟨fun h => ⟨by have := h.1; omega, fun k' q1 q2 q3 => ?_⟩, fun h => ⟨Nat.max_le.mpr ⟨h.1, h.2 to (Nat.le_refl _) (by omega) c⟩, fun k' q1 => h.2 k' (by omega)⟩⟩⟩
      by_cases e : k' = to
      · subst e; have := h.1; omega
      · exact h.2 k' (by omega) q2 q3
    by_cases c : to = t
    · rw [if_pos c]; exact yes (by rw [c]; exact alw_s r t)
    · rw [if_neg c]
      by_cases d : N 13 0 (6 * t + to) ≤ 0
      · rw [if_pos d]
        have d' : ¬ 0 < N 13 0 (6 * t + to) := Int32.not_lt.mpr d
        have na : ¬ alw rd r t to = true := by simp [alw, hr, d', Ne.symm c]
        obtain ⟨v, x, e1, e2, e3⟩ := ih (to + 1) n best kx (by omega) (by omega) h3
        refine ⟨v, x, e1, e2, fun u => (e3 u).trans ⟨fun h => ⟨h.1, fun k' q1 q2 q3 => ?_⟩, fun h => ⟨h.1, fun k' q1 => h.2 k' (by omega)⟩⟩⟩
        by_cases e : k' = to
        · subst e; exact absurd q3 na
        · exact h.2 k' (by omega) q2 q3
      · rw [if_neg d]
        have d' : 0 < N 13 0 (6 * t + to) := Int32.not_le.mp d
        exact yes (by simp [alw, hr, d', h0])
theorem bm_eq (hz : z ≤ 8) (hG : ∀ t k, G t k ≤ 100) {N : xM} (hk : kG G rd z N) {r d t s : Nat} (h5 : r ≤ 6) (h0 : ¬ r = 0) (hc : c21 G rd z r d N) (ht : t < 6) (hs : s < 2 ^ z) (hp : pop s ≤ d) : f_X3_bestMove (nI t) (nI s) N = nI (Ev G rd z r t (dS z s)) := by
  obtain ⟨v, x, e1, e2, e3⟩ := bm6 hz hG hk h5 h0 hc ht hs hp 6 0 (xmu (0 : Int32) 6 + 1) 0 (fun best_10 to_11 => best_10) (by omega) (by decide) (by omega)
  unfold f_X3_bestMove
  refine e1.trans ?_
  have e : v = Ev G rd z r t (dS z s) := by
    refine eqle (fun u => ?_)
    rw [e3 u, Ev_le]
    exact ⟨fun h to q1 q2 => h.2 to (Nat.zero_le _) q1 q2, fun h => ⟨Nat.zero_le _, fun to _ q1 q2 => h to q1 q2⟩⟩
  rw [e]
end WAY4
/-! way: the class's mornings and evenings -/
section WAY5
variable {G : Nat → Nat → Nat} {rd : Nat → Nat → Bool} {z : Nat}
theorem kG_21 {M N : xM} (h : kG G rd z M) (e : xfr 21 M N) : kG G rd z N := kG_of h (fun a b c q => e a b c (by omega))
theorem kG_22 {M N : xM} (h : kG G rd z M) (e : xfr 22 M N) : kG G rd z N := kG_of h (fun a b c q => e a b c (by omega))
theorem pm20 (hz : z ≤ 8) (hG : ∀ t k, G t k ≤ 100) (day : Int32) {r d s : Nat} (h5 : r ≤ 6) (hs : s < 2 ^ z) (hp : pop s + 1 ≤ d) : ∀ (m t n : Nat) (N : xM) (kx : Int32 → xM → xM), t + m = 6 → m < n → kG G rd z N → c22 G rd z r d N → ∃ N' x, f_X3_planMornings_L20 day (nI s) n (nI t) N kx = kx x N' ∧ xfr 21 N N' ∧ (∀ t', t ≤ t' → t' < 6 → N' 21 0 (256 * t' + s) = nI (Wv G rd z (r + 1) t' (dS z s))) ∧ ∀ j, (∀ t', t ≤ t' → ¬ j = 256 * t' + s) → N' 21 0 j = N 21 0 j := by
  have p8 := p2_8 hz
  intro m
  induction m with
  | zero =>
    intro t n N kx h1 h2 hk hc
    obtain ⟨n, rfl⟩ : ∃ k, n = k + 1 := ⟨n - 1, by omega⟩
    rw [f_X3_planMornings_L20, if_pos (show (6 : Int32) ≤ nI t from nI_le (a := 6) (by omega) (by omega))]
    exact ⟨N, _, rfl, xfr_rf _ _, fun t' q1 q2 => by omega, fun j _ => rfl⟩
  | succ m ih =>
    intro t n N kx h1 h2 hk hc
    obtain ⟨n, rfl⟩ : ∃ k, n = k + 1 := ⟨n - 1, by omega⟩
    rw [f_X3_planMornings_L20, if_neg (show ¬ (6 : Int32) ≤ nI t from nI_ge (b := 6) (by omega) (by decide)), bs_eq hz hG hk h5 hc (show t < 6 by omega) hs hp]
    simp only [xlet_p, nI_1, ix256 (show t < 6 by omega) (show s ≤ 256 by omega)]
    obtain ⟨N', x, e1, e2, e3, e4⟩ := ih (t + 1) n (xup N 21 0 (256 * t + s) (nI (Wv G rd z (r + 1) t (dS z s)))) kx (by omega) (by omega) (kG_21 hk (xfr_up (xfr_rf _ _))) (fun t' s' q1 q2 q3 => by rw [xup_k (by decide)]; exact hc t' s' q1 q2 q3)
    refine ⟨N', x, e1, fun a b c q => by rw [e2 a b c q, xup_k q], fun t' q1 q2 => ?_, fun j hj => ?_⟩
    · by_cases e : t' = t
      · subst e; rw [e4 _ (fun t'' q => by omega), xup_same]
      · exact e3 t' (by omega) q2
    · rw [e4 j (fun t' q => hj t' (by omega)), xup_j (hj t (Nat.le_refl _))]
theorem pm2' (hz : z ≤ 8) (hG : ∀ t k, G t k ≤ 100) {r d : Nat} (h5 : r ≤ 6) (hd : d ≤ 6) : ∀ (m s n : Nat) (N : xM) (kx : Int32 → xM → xM), s + m = 2 ^ z → m < n → kG G rd z N → c22 G rd z r (d + 1) N → (∀ t' s', t' < 6 → s' < s → pop s' ≤ d → N 21 0 (256 * t' + s') = nI (Wv G rd z (r + 1) t' (dS z s'))) → ∃ N' x, f_X3_planMornings_L2 (nI d) n (nI s) N kx = kx x N' ∧ xfr 21 N N' ∧ c21 G rd z (r + 1) d N' := by
  have p8 := p2_8 hz
  intro m
  induction m with
  | zero =>
    intro s n N kx h1 h2 hk hc h4
    obtain ⟨n, rfl⟩ : ∃ k, n = k + 1 := ⟨n - 1, by omega⟩
    rw [f_X3_planMornings_L2, hk.2.1, if_pos (nI_le (by omega) (by omega))]
    exact ⟨N, _, rfl, xfr_rf _ _, fun t' s' q1 q2 q3 => h4 t' s' q1 (by omega) q3⟩
  | succ m ih =>
    intro s n N kx h1 h2 hk hc h4
    obtain ⟨n, rfl⟩ : ∃ k, n = k + 1 := ⟨n - 1, by omega⟩
    have b8 := wpop8 (s := s) (by omega)
    rw [f_X3_planMornings_L2, hk.2.1, if_neg (nI_ge (by omega) (by omega)), bc_pop N (show s < 256 by omega)]
    simp only [xlet_p, nI_1, nI_ltI (show d < 2 ^ 31 by omega) (show pop s < 2 ^ 31 by omega)]
    by_cases c : d < pop s
    · rw [if_pos c]
      refine ih (s + 1) n N kx (by omega) (by omega) hk hc (fun t' s' q1 q2 q3 => ?_)
      by_cases e : s' = s
      · subst e; omega
      · exact h4 t' s' q1 (by omega) q3
    · rw [if_neg c]
      obtain ⟨N', x, e1, e2, e3, e4⟩ := pm20 hz hG (nI d) h5 (show s < 2 ^ z by omega) (show pop s + 1 ≤ d + 1 by omega) 6 0 (xmu (0 : Int32) 6 + 1) N (fun town_9 M_10 => f_X3_planMornings_L2 (nI d) n (nI (s + 1)) M_10 kx) (by omega) (by decide) hk hc
      obtain ⟨N2, x2, f1, f2, f3⟩ := ih (s + 1) n N' kx (by omega) (by omega) (kG_21 hk e2) (fun t' s' q1 q2 q3 => by rw [e2 22 _ _ (by decide)]; exact hc t' s' q1 q2 q3) (fun t' s' q1 q2 q3 => by
        by_cases e : s' = s
        · subst e; exact e3 t' (Nat.zero_le _) q1
        · rw [e4 _ (fun t'' _ => by omega)]; exact h4 t' s' q1 (by omega) q3)
      exact ⟨N2, x2, e1.trans f1, fun a b c q => by rw [f2 a b c q, e2 a b c q], f3⟩
theorem pm_eq (hz : z ≤ 8) (hG : ∀ t k, G t k ≤ 100) {r d : Nat} (h5 : r ≤ 6) (hd : d ≤ 6) {N : xM} (hk : kG G rd z N) (hc : c22 G rd z r (d + 1) N) : c21 G rd z (r + 1) d (f_X3_planMornings (nI d) N) := by
  have p8 := p2_8 hz
  obtain ⟨N', x, e1, -, e3⟩ := pm2' hz hG h5 hd (2 ^ z) 0 (xmu (0 : Int32) (nI (2 ^ z)) + 1) N (fun sold_12 M_13 => M_13) (by omega) (by unfold xmu; rw [nI_toInt (by omega), show (0 : Int32).toInt = 0 from rfl]; omega) hk hc (fun t' s' _ q => by omega)
  have e : f_X3_planMornings (nI d) N = N' := by
    unfold f_X3_planMornings
    rw [hk.2.1]
    exact e1
  rw [e]; exact e3
theorem pe23 (hz : z ≤ 8) (hG : ∀ t k, G t k ≤ 100) (day : Int32) {r d s : Nat} (h5 : r ≤ 6) (h0 : ¬ r = 0) (hs : s < 2 ^ z) (hp : pop s ≤ d) : ∀ (m t n : Nat) (N : xM) (kx : Int32 → xM → xM), t + m = 6 → m < n → kG G rd z N → c21 G rd z r d N → ∃ N' x, f_X3_planEvenings_L23 day (nI s) n (nI t) N kx = kx x N' ∧ xfr 22 N N' ∧ (∀ t', t ≤ t' → t' < 6 → N' 22 0 (256 * t' + s) = nI (Ev G rd z r t' (dS z s))) ∧ ∀ j, (∀ t', t ≤ t' → ¬ j = 256 * t' + s) → N' 22 0 j = N 22 0 j := by
  have p8 := p2_8 hz
  intro m
  induction m with
  | zero =>
    intro t n N kx h1 h2 hk hc
    obtain ⟨n, rfl⟩ : ∃ k, n = k + 1 := ⟨n - 1, by omega⟩
    rw [f_X3_planEvenings_L23, if_pos (show (6 : Int32) ≤ nI t from nI_le (a := 6) (by omega) (by omega))]
    exact ⟨N, _, rfl, xfr_rf _ _, fun t' q1 q2 => by omega, fun j _ => rfl⟩
  | succ m ih =>
    intro t n N kx h1 h2 hk hc
    obtain ⟨n, rfl⟩ : ∃ k, n = k + 1 := ⟨n - 1, by omega⟩
    rw [f_X3_planEvenings_L23, if_neg (show ¬ (6 : Int32) ≤ nI t from nI_ge (b := 6) (by omega) (by decide)), bm_eq hz hG hk h5 h0 hc (show t < 6 by omega) hs hp]
    simp only [xlet_p, nI_1, ix256 (show t < 6 by omega) (show s ≤ 256 by omega)]
    obtain ⟨N', x, e1, e2, e3, e4⟩ := ih (t + 1) n (xup N 22 0 (256 * t + s) (nI (Ev G rd z r t (dS z s)))) kx (by omega) (by omega) (kG_22 hk (xfr_up (xfr_rf _ _))) (fun t' s' q1 q2 q3 => by rw [xup_k (by decide)]; exact hc t' s' q1 q2 q3)
    refine ⟨N', x, e1, fun a b c q => by rw [e2 a b c q, xup_k q], fun t' q1 q2 => ?_, fun j hj => ?_⟩
    · by_cases e : t' = t
      · subst e; rw [e4 _ (fun t'' q => by omega), xup_same]
      · exact e3 t' (by omega) q2
    · rw [e4 j (fun t' q => hj t' (by omega)), xup_j (hj t (Nat.le_refl _))]
theorem pe2' (hz : z ≤ 8) (hG : ∀ t k, G t k ≤ 100) {r d : Nat} (h5 : r ≤ 6) (h0 : ¬ r = 0) (hd : d ≤ 6) : ∀ (m s n : Nat) (N : xM) (kx : Int32 → xM → xM), s + m = 2 ^ z → m < n → kG G rd z N → c21 G rd z r (d + 1) N → (∀ t' s', t' < 6 → s' < s → pop s' ≤ d + 1 → N 22 0 (256 * t' + s') = nI (Ev G rd z r t' (dS z s'))) → ∃ N' x, f_X3_planEvenings_L2 (nI d) n (nI s) N kx = kx x N' ∧ xfr 22 N N' ∧ c22 G rd z r (d + 1) N' := by
  have p8 := p2_8 hz
  intro m
  induction m with
  | zero =>
    intro s n N kx h1 h2 hk hc h4
    obtain ⟨n, rfl⟩ : ∃ k, n = k + 1 := ⟨n - 1, by omega⟩
    rw [f_X3_planEvenings_L2, hk.2.1, if_pos (nI_le (by omega) (by omega))]
    exact ⟨N, _, rfl, xfr_rf _ _, fun t' s' q1 q2 q3 => h4 t' s' q1 (by omega) q3⟩
  | succ m ih =>
    intro s n N kx h1 h2 hk hc h4
    obtain ⟨n, rfl⟩ : ∃ k, n = k + 1 := ⟨n - 1, by omega⟩
    have b8 := wpop8 (s := s) (by omega)
    rw [f_X3_planEvenings_L2, hk.2.1, if_neg (nI_ge (by omega) (by omega)), bc_pop N (show s < 256 by omega)]
    simp only [xlet_p, nI_1, nI_ltI (show d + 1 < 2 ^ 31 by omega) (show pop s < 2 ^ 31 by omega)]
    by_cases c : d + 1 < pop s
    · rw [if_pos c]
      refine ih (s + 1) n N kx (by omega) (by omega) hk hc (fun t' s' q1 q2 q3 => ?_)
      by_cases e : s' = s
      · subst e; omega
      · exact h4 t' s' q1 (by omega) q3
    · rw [if_neg c]
      obtain ⟨N', x, e1, e2, e3, e4⟩ := pe23 hz hG (nI d) h5 h0 (show s < 2 ^ z by omega) (show pop s ≤ d + 1 by omega) 6 0 (xmu (0 : Int32) 6 + 1) N (fun town_9 M_10 => f_X3_planEvenings_L2 (nI d) n (nI (s + 1)) M_10 kx) (by omega) (by decide) hk hc
      obtain ⟨N2, x2, f1, f2, f3⟩ := ih (s + 1) n N' kx (by omega) (by omega) (kG_22 hk e2) (fun t' s' q1 q2 q3 => by rw [e2 21 _ _ (by decide)]; exact hc t' s' q1 q2 q3) (fun t' s' q1 q2 q3 => by
        by_cases e : s' = s
        · subst e; exact e3 t' (Nat.zero_le _) q1
        · rw [e4 _ (fun t'' _ => by omega)]; exact h4 t' s' q1 (by omega) q3)
      exact ⟨N2, x2, e1.trans f1, fun a b c q => by rw [f2 a b c q, e2 a b c q], f3⟩
theorem pe_eq (hz : z ≤ 8) (hG : ∀ t k, G t k ≤ 100) {r d : Nat} (h5 : r ≤ 6) (h0 : ¬ r = 0) (hd : d ≤ 6) {N : xM} (hk : kG G rd z N) (hc : c21 G rd z r (d + 1) N) : c22 G rd z r (d + 1) (f_X3_planEvenings (nI d) N) := by
  have p8 := p2_8 hz
  obtain ⟨N', x, e1, -, e3⟩ := pe2' hz hG h5 h0 hd (2 ^ z) 0 (xmu (0 : Int32) (nI (2 ^ z)) + 1) N (fun sold_12 M_13 => M_13) (by omega) (by unfold xmu; rw [nI_toInt (by omega), show (0 : Int32).toInt = 0 from rfl]; omega) hk hc (fun t' s' _ q => by omega)
  have e : f_X3_planEvenings (nI d) N = N' := by
    unfold f_X3_planEvenings
    rw [hk.2.1]
    exact e1
  rw [e]; exact e3
theorem pl30 (hz : z ≤ 8) (hG : ∀ t k, G t k ≤ 100) (town zz days : Int32) {D : Nat} (hD : D ≤ 6) : ∀ (d n : Nat) (N : xM) (kx : Int32 → xM → xM), d < n → d + 1 ≤ D → kG G rd z N → c22 G rd z (D - 1 - d) (d + 1) N → ∃ N' x, f_X3_plan_L30 town zz days n (nI d) N kx = kx x N' ∧ (∀ a b c, ¬ a = 21 → ¬ a = 22 → N' a b c = N a b c) ∧ (0 < d → c21 G rd z (D - 1) 1 N') := by
  intro d
  induction d with
  | zero =>
    intro n N kx h1 h2 hk hc
    obtain ⟨n, rfl⟩ : ∃ k, n = k + 1 := ⟨n - 1, by omega⟩
    rw [f_X3_plan_L30, if_pos (by decide)]
    exact ⟨N, _, rfl, fun _ _ _ _ _ => rfl, fun q => by omega⟩
  | succ d ih =>
    intro n N kx h1 h2 hk hc
    obtain ⟨n, rfl⟩ : ∃ k, n = k + 1 := ⟨n - 1, by omega⟩
    have m1 := pm_eq hz hG (show D - 1 - (d + 1) ≤ 6 by omega) (show d + 1 ≤ 6 by omega) hk hc
    have mf := pm_fr (nI (d + 1)) N
    have e0 : ¬ nI (d + 1) ≤ 0 := nI_ge (a := 0) (by omega) (by omega)
    have e1 : nI (d + 1) ≤ 1 ↔ d + 1 ≤ 1 := nI_leI (b := 1) (by omega) (by omega)
    rw [f_X3_plan_L30, if_neg e0]
    simp only [xlet_p, e1, pk_m1, nI_pred]
    by_cases c : d = 0
    · subst c
      rw [if_pos (by omega)]
      obtain ⟨n, rfl⟩ : ∃ k, n = k + 1 := ⟨n - 1, by omega⟩
      rw [f_X3_plan_L30, if_pos (by decide)]
      refine ⟨_, _, rfl, fun a b c q1 q2 => mf a b c q1, fun _ => ?_⟩
      rw [show D - 1 - (0 + 1) + 1 = D - 1 by omega] at m1
      exact m1
    · rw [if_neg (by omega)]
      obtain ⟨d, rfl⟩ : ∃ k, d = k + 1 := ⟨d - 1, by omega⟩
      have mk := kG_21 hk mf
      have p1 := pe_eq hz hG (show D - 1 - (d + 1 + 1) + 1 ≤ 6 by omega) (by omega) (show d + 1 ≤ 6 by omega) mk m1
      have pf := pe_fr (nI (d + 1)) (f_X3_planMornings (nI (d + 1 + 1)) N)
      obtain ⟨N', x, f1, f2, f3⟩ := ih n _ kx (by omega) (by omega) (kG_22 mk pf) (by rw [show D - 1 - (d + 1) = D - 1 - (d + 1 + 1) + 1 by omega]; exact p1)
      exact ⟨N', x, f1, fun a b c q1 q2 => by rw [f2 a b c q1 q2, pf a b c q2, mf a b c q1], fun _ => f3 (by omega)⟩
end WAY5
/-! way: the class's first step -/
section WAY6
variable {G : Nat → Nat → Nat} {rd : Nat → Nat → Bool} {z : Nat}
theorem kim_5 (to place gold : Int32) (M : xM) : f_X3_keepIfMore to place gold M 11 0 5 = (if gold ≤ M 11 0 5 then M 11 0 5 else gold) ∧ f_X3_keepIfMore to place gold M 11 0 6 = (if gold ≤ M 11 0 5 then M 11 0 6 else 16 * to + place) := by
  unfold f_X3_keepIfMore
  simp only [xlet_p]
  by_cases c : gold ≤ M 11 0 5
  · simp only [if_pos c, and_self]
  · simp only [if_neg c]
    exact ⟨by rw [xup_j (by decide), xup_same], xup_same⟩
def bef (a b to k : Nat) : Prop := a < to ∨ a = to ∧ b < k
def AM (V : Nat → Nat → Nat) (al : Nat → Bool) (z to k : Nat) (cur code : Int32) : Prop := (cur = (-1000000) ∧ ∀ a b, a < 6 → b ≤ z → al a = true → ¬ bef a b to k) ∨ ∃ a b, a < 6 ∧ b ≤ z ∧ al a = true ∧ bef a b to k ∧ cur = nI (V a b) ∧ code = cdW z a b ∧ (∀ a' b', a' < 6 → b' ≤ z → al a' = true → bef a' b' to k → V a' b' ≤ V a b) ∧ ∀ a' b', a' < 6 → b' ≤ z → al a' = true → bef a' b' a b → V a' b' < V a b
theorem AM_step {V : Nat → Nat → Nat} {al : Nat → Bool} {to k : Nat} {cur code : Int32} (hV : ∀ a b, V a b ≤ 700) (h : AM V al z to k cur code) (ht : to < 6) (hk : k ≤ z) (ha : al to = true) : AM V al z to (k + 1) (if nI (V to k) ≤ cur then cur else nI (V to k)) (if nI (V to k) ≤ cur then code else cdW z to k) := by
  have v0 := hV to k
  rcases h with ⟨h1, h2⟩ | ⟨a, b, q1, q2, q3, q4, q5, q6, q7, q8⟩
  · have c : ¬ nI (V to k) ≤ cur := by
      rw [h1]
      have : (0 : Int32) ≤ nI (V to k) := nI_pos' (by omega)
      intro q
      exact absurd (Int32.le_trans this q) (by decide)
    rw [if_neg c, if_neg c]
    refine Or.inr ⟨to, k, ht, hk, ha, Or.inr ⟨rfl, by omega⟩, rfl, rfl, fun a' b' p1 p2 p3 p4 => ?_, fun a' b' p1 p2 p3 p4 => absurd p4 (h2 a' b' p1 p2 p3)⟩
    by_cases e : a' = to ∧ b' = k
    · obtain ⟨rfl, rfl⟩ := e; exact Nat.le_refl _
    · exact absurd (by unfold bef at p4 ⊢; omega) (h2 a' b' p1 p2 p3)
  · have v1 := hV a b
    rw [q5]
    simp only [nI_leI (show V to k < 2 ^ 31 by omega) (show V a b < 2 ^ 31 by omega)]
    by_cases c : V to k ≤ V a b
    · rw [if_pos c, if_pos c]
      refine Or.inr ⟨a, b, q1, q2, q3, by unfold bef at q4 ⊢; omega, rfl, q6, fun a' b' p1 p2 p3 p4 => ?_, q8⟩
      by_cases e : a' = to ∧ b' = k
      · obtain ⟨rfl, rfl⟩ := e; exact c
      · exact q7 a' b' p1 p2 p3 (by unfold bef at p4 ⊢; omega)
    · rw [if_neg c, if_neg c]
      refine Or.inr ⟨to, k, ht, hk, ha, Or.inr ⟨rfl, by omega⟩, rfl, rfl, fun a' b' p1 p2 p3 p4 => ?_, fun a' b' p1 p2 p3 p4 => ?_⟩
      · by_cases e : a' = to ∧ b' = k
        · obtain ⟨rfl, rfl⟩ := e; exact Nat.le_refl _
        · have := q7 a' b' p1 p2 p3 (by unfold bef at p4 ⊢; omega)
          omega
      · have := q7 a' b' p1 p2 p3 p4
        omega
theorem AM_next {V : Nat → Nat → Nat} {al : Nat → Bool} {to k k2 : Nat} {cur code : Int32} (h : AM V al z to k cur code) (e : ∀ a b, a < 6 → b ≤ z → al a = true → (bef a b to k ↔ bef a b (to + 1) k2)) : AM V al z (to + 1) k2 cur code := by
  rcases h with ⟨h1, h2⟩ | ⟨a, b, q1, q2, q3, q4, q5, q6, q7, q8⟩
  · exact Or.inl ⟨h1, fun a b p1 p2 p3 p4 => h2 a b p1 p2 p3 ((e a b p1 p2 p3).mpr p4)⟩
  · exact Or.inr ⟨a, b, q1, q2, q3, (e a b q1 q2 q3).mp q4, q5, q6, fun a' b' p1 p2 p3 p4 => q7 a' b' p1 p2 p3 ((e a' b' p1 p2 p3).mpr p4), q8⟩
def oth (M N : xM) : Prop := ∀ a b c, ¬ (a = 11 ∧ b = 0 ∧ (c = 5 ∨ c = 6)) → N a b c = M a b c
theorem oth_kim {M N : xM} (to place gold : Int32) (h : oth M N) : oth M (f_X3_keepIfMore to place gold N) := fun a b c q => by rw [kim_o q]; exact h a b c q
theorem cf39 (hz : z ≤ 8) (hG : ∀ t k, G t k ≤ 100) {B : xM} (hk : kG G rd z B) {r t to : Nat} (h5 : r ≤ 5) (ht : t < 6) (hto : to < 6) (ha : alw rd r t to = true) (go : Int32) (hgo : go = 0 ↔ r = 0) (hc : ¬ r = 0 → c21 G rd z r 1 B) : ∀ (m k n : Nat) (N : xM) (kx : Int32 → xM → xM), k + m = z → m < n → oth B N → AM (fun a b => wgv G rd z r t (dS z 0) b a) (alw rd r t) z to k (N 11 0 5) (N 11 0 6) → ∃ N' x, f_X3_chooseFirst_L39 (nI t) go (nI to) n (nI k) N kx = kx x N' ∧ oth B N' ∧ AM (fun a b => wgv G rd z r t (dS z 0) b a) (alw rd r t) z to z (N' 11 0 5) (N' 11 0 6) := by
  intro m
  induction m with
  | zero =>
    intro k n N kx h1 h2 ho hm
    obtain ⟨n, rfl⟩ : ∃ k, n = k + 1 := ⟨n - 1, by omega⟩
    rw [f_X3_chooseFirst_L39, ho 11 0 3 (by omega), hk.1, if_pos (nI_le (by omega) (by omega))]
    obtain rfl : k = z := by omega
    exact ⟨N, _, rfl, ho, hm⟩
  | succ m ih =>
    intro k n N kx h1 h2 ho hm
    obtain ⟨n, rfl⟩ : ∃ k, n = k + 1 := ⟨n - 1, by omega⟩
    have p1 : 2 ^ k < 2 ^ z := Nat.pow_lt_pow_right (by decide) (by omega)
    have p8 := p2_8 hz
    have st : ∀ g : Int32, g = nI (wgv G rd z r t (dS z 0) k to) → ∃ N' x, f_X3_chooseFirst_L39 (nI t) go (nI to) n (nI (k + 1)) (f_X3_keepIfMore (nI to) (nI k) g N) kx = kx x N' ∧ oth B N' ∧ AM (fun a b => wgv G rd z r t (dS z 0) b a) (alw rd r t) z to z (N' 11 0 5) (N' 11 0 6) := by
      intro g hg
      refine ih (k + 1) n _ kx (by omega) (by omega) (oth_kim _ _ _ ho) ?_
      obtain ⟨k5, k6⟩ := kim_5 (nI to) (nI k) g N
      rw [k5, k6, hg]
      have s := AM_step (fun a b => Nat.le_trans (wgv_b hG r t (dS z 0) b a) (by omega)) hm hto (show k ≤ z by omega) ha
      have e : cdW z to k = 16 * nI to + nI k := by rw [cdW, if_neg (by omega)]
      rw [e] at s
      exact s
    have gg : N 20 0 (8 * t + k) = nI (G t k) := by rw [ho 20 _ _ (by omega)]; exact hk.2.2.1 t k ht (by omega)
    rw [f_X3_chooseFirst_L39, ho 11 0 3 (by omega), hk.1, if_neg (nI_ge (by omega) (by omega)), shl_n (by omega)]
    simp only [xlet_p, nI_1, ix8' ht (show k ≤ 256 by omega), ix256 hto (show 2 ^ k ≤ 256 by omega), gg]
    have wg : wgv G rd z r t (dS z 0) k to = G t k + Wv G rd z r to (wS (dS z 0) k) := by rw [wgv, if_neg (by omega)]
    by_cases c : go = 0
    · rw [if_pos c]
      refine st _ ?_
      rw [wg, hgo.mp c]
      show nI (G t k) + nI 0 = nI (G t k + 0)
      rw [nI_add]
    · rw [if_neg c]
      refine st _ ?_
      have r0 : ¬ r = 0 := fun q => c (hgo.mpr q)
      rw [wg, ho 21 _ _ (by omega), hc r0 to (2 ^ k) hto p1 (pop_1 (by omega)), nI_add]
      have e := dS_or (z := z) 0 k
      rw [Nat.zero_or] at e
      rw [e]
theorem cf9 (hz : z ≤ 8) (hG : ∀ t k, G t k ≤ 100) {B : xM} (hk : kG G rd z B) {r t : Nat} (h5 : r ≤ 5) (ht : t < 6) (go : Int32) (hgo : go = 0 ↔ r = 0) (hc : ¬ r = 0 → c21 G rd z r 1 B) : ∀ (m to n : Nat) (N : xM) (kx : Int32 → xM → xM), to + m = 6 → m < n → oth B N → AM (fun a b => wgv G rd z r t (dS z 0) b a) (alw rd r t) z to 0 (N 11 0 5) (N 11 0 6) → ∃ N' x, f_X3_chooseFirst_L9 (nI t) go n (nI to) N kx = kx x N' ∧ oth B N' ∧ AM (fun a b => wgv G rd z r t (dS z 0) b a) (alw rd r t) z 6 0 (N' 11 0 5) (N' 11 0 6) := by
  intro m
  induction m with
  | zero =>
    intro to n N kx h1 h2 ho hm
    obtain ⟨n, rfl⟩ : ∃ k, n = k + 1 := ⟨n - 1, by omega⟩
    rw [f_X3_chooseFirst_L9, if_pos (show (6 : Int32) ≤ nI to from nI_le (a := 6) (by omega) (by omega))]
    obtain rfl : to = 6 := by omega
    exact ⟨N, _, rfl, ho, hm⟩
  | succ m ih =>
    intro to n N kx h1 h2 ho hm
    obtain ⟨n, rfl⟩ : ∃ k, n = k + 1 := ⟨n - 1, by omega⟩
    have p8 := p2_8 hz
    have p0 : 0 < 2 ^ z := Nat.pow_pos (by decide)
    have hto : to < 6 := by omega
    have ix : (nI to * 256).toNatClampNeg = 256 * to + 0 := by rw [nI_mr 256 to 256 rfl, nI_clamp (by omega)]; omega
    have stay : ∀ N' : xM, oth B N' → AM (fun a b => wgv G rd z r t (dS z 0) b a) (alw rd r t) z to z (N' 11 0 5) (N' 11 0 6) → alw rd r t to = true → ∀ g : Int32, g = nI (Wv G rd z r to (dS z 0)) → ∃ N2 x, f_X3_chooseFirst_L9 (nI t) go n (nI (to + 1)) (f_X3_keepIfMore (nI to) 15 g N') kx = kx x N2 ∧ oth B N2 ∧ AM (fun a b => wgv G rd z r t (dS z 0) b a) (alw rd r t) z 6 0 (N2 11 0 5) (N2 11 0 6) := by
      intro N' ho' hm' ha g hg
      refine ih (to + 1) n _ kx (by omega) (by omega) (oth_kim _ _ _ ho') ?_
      obtain ⟨k5, k6⟩ := kim_5 (nI to) 15 g N'
      have s := AM_step (fun a b => Nat.le_trans (wgv_b hG r t (dS z 0) b a) (by omega)) hm' hto (Nat.le_refl z) ha
      have e : cdW z to z = 16 * nI to + 15 := by rw [cdW, if_pos rfl]
      have e2 : wgv G rd z r t (dS z 0) z to = Wv G rd z r to (dS z 0) := by rw [wgv, if_pos rfl]
      rw [e] at s
      rw [e2] at s
      rw [k5, k6, hg]
      exact AM_next s (fun a b _ _ _ => by unfold bef; omega)
    have skip : ¬ alw rd r t to = true → ∃ N2 x, f_X3_chooseFirst_L9 (nI t) go n (nI (to + 1)) N kx = kx x N2 ∧ oth B N2 ∧ AM (fun a b => wgv G rd z r t (dS z 0) b a) (alw rd r t) z 6 0 (N2 11 0 5) (N2 11 0 6) := by
      intro na
      refine ih (to + 1) n _ kx (by omega) (by omega) ho (AM_next hm (fun a b _ _ q => ?_))
      have : ¬ a = to := fun e => na (by rw [← e]; exact q)
      unfold bef; omega
    have fz : z < xmu (0 : Int32) (nI z) + 1 := by unfold xmu; rw [nI_toInt (by omega)]; simp
    have w21 : ∀ N' : xM, oth B N' → ¬ r = 0 → N' 21 0 (256 * to + 0) = nI (Wv G rd z r to (dS z 0)) := fun N' o' r0 => by rw [o' 21 _ _ (by omega)]; exact hc r0 to 0 hto p0 (by rw [pop_0]; omega)
    have hr := hk.2.2.2 t to ht hto
    rw [f_X3_chooseFirst_L9, if_neg (show ¬ (6 : Int32) ≤ nI to from nI_ge (b := 6) (by omega) (by decide))]
    unfold f_X5_milesBetween
    simp only [xlet_p, nI_1, ix, ho 11 0 3 (by omega), hk.1, i6 ht hto, nI_eq (show to < 2 ^ 31 by omega) (show t < 2 ^ 31 by omega)]
    by_cases c : to = t
    · rw [if_pos c]
      have ha : alw rd r t to = true := by rw [c]; exact alw_s r t
      obtain ⟨N', x, e1, e2, e3⟩ := cf39 hz hG hk h5 ht hto ha go hgo hc z 0 (xmu (0 : Int32) (nI z) + 1) N (fun place_12 M_13 => if go = 0 then f_X3_chooseFirst_L9 (nI t) go n (nI (to + 1)) (f_X3_keepIfMore (nI to) 15 0 M_13) kx else f_X3_chooseFirst_L9 (nI t) go n (nI (to + 1)) (f_X3_keepIfMore (nI to) 15 (M_13 21 0 (256 * to + 0)) M_13) kx) (by omega) fz ho hm
      have two : ∃ N2 y, (if go = 0 then f_X3_chooseFirst_L9 (nI t) go n (nI (to + 1)) (f_X3_keepIfMore (nI to) 15 0 N') kx else f_X3_chooseFirst_L9 (nI t) go n (nI (to + 1)) (f_X3_keepIfMore (nI to) 15 (N' 21 0 (256 * to + 0)) N') kx) = kx y N2 ∧ oth B N2 ∧ AM (fun a b => wgv G rd z r t (dS z 0) b a) (alw rd r t) z 6 0 (N2 11 0 5) (N2 11 0 6) := by
        by_cases g0 : go = 0
        · rw [if_pos g0]
          exact stay N' e2 e3 ha 0 (by rw [hgo.mp g0]; rfl)
        · rw [if_neg g0]
          exact stay N' e2 e3 ha _ (w21 N' e2 (fun q => g0 (hgo.mpr q)))
      obtain ⟨N2, y, f1, f2⟩ := two
      exact ⟨N2, y, e1.trans f1, f2⟩
    · rw [if_neg c]
      by_cases g0 : go = 0
      · rw [if_pos g0]
        exact skip (by simp [alw, Ne.symm c, hgo.mp g0])
      · rw [if_neg g0]
        have r0 : ¬ r = 0 := fun q => g0 (hgo.mpr q)
        rw [ho 13 _ _ (by omega)]
        by_cases d : B 13 0 (6 * t + to) ≤ 0
        · rw [if_pos d]
          have d' : ¬ 0 < B 13 0 (6 * t + to) := Int32.not_lt.mpr d
          exact skip (by simp [alw, hr, d', Ne.symm c])
        · rw [if_neg d]
          have d' : 0 < B 13 0 (6 * t + to) := Int32.not_le.mp d
          have ha : alw rd r t to = true := by simp [alw, hr, d', r0]
          obtain ⟨N', x, e1, e2, e3⟩ := cf39 hz hG hk h5 ht hto ha go hgo hc z 0 (xmu (0 : Int32) (nI z) + 1) N (fun place_26 M_27 => f_X3_chooseFirst_L9 (nI t) go n (nI (to + 1)) (f_X3_keepIfMore (nI to) 15 (M_27 21 0 (256 * to + 0)) M_27) kx) (by omega) fz ho hm
          obtain ⟨N2, y, f1, f2⟩ := stay N' e2 e3 ha _ (w21 N' e2 r0)
          exact ⟨N2, y, e1.trans f1, f2⟩
theorem cf_eq (hz : z ≤ 8) (hG : ∀ t k, G t k ≤ 100) {B : xM} (hk : kG G rd z B) {r t : Nat} (h5 : r ≤ 5) (ht : t < 6) (go : Int32) (hgo : go = 0 ↔ r = 0) (hc : ¬ r = 0 → c21 G rd z r 1 B) : oth B (f_X3_chooseFirst (nI t) go B) ∧ ∃ a b, fst1 (fun a b => wgv G rd z r t (dS z 0) b a) (alw rd r t) z a b ∧ f_X3_chooseFirst (nI t) go B 11 0 5 = nI (wgv G rd z r t (dS z 0) b a) ∧ f_X3_chooseFirst (nI t) go B 11 0 6 = cdW z a b := by
  have o0 : oth B (xup B 11 0 5 (-1000000)) := fun a b c q => by rw [xup_at, if_neg (by omega)]
  obtain ⟨N', x, e1, e2, e3⟩ := cf9 hz hG hk h5 ht go hgo hc 6 0 (xmu (0 : Int32) 6 + 1) (xup B 11 0 5 (-1000000)) (fun to_33 M_34 => M_34) (by omega) (by decide) o0 (Or.inl ⟨xup_same, fun a b _ _ _ q => by unfold bef at q; omega⟩)
  have e : f_X3_chooseFirst (nI t) go B = N' := by
    unfold f_X3_chooseFirst
    rw [xlet_p]
    exact e1
  rw [e]
  refine ⟨e2, ?_⟩
  rcases e3 with ⟨h1, h2⟩ | ⟨a, b, q1, q2, q3, q4, q5, q6, q7, q8⟩
  · exact absurd (Or.inl ht) (h2 t 0 ht (Nat.zero_le _) (alw_s r t))
  · exact ⟨a, b, ⟨q1, q2, q3, fun a' b' p1 p2 p3 => q7 a' b' p1 p2 p3 (Or.inl p1), q8⟩, q5, q6⟩
theorem fst1_W {r t a b : Nat} (hm : fst1 (fun a b => wgv G rd z r t (dS z 0) b a) (alw rd r t) z a b) : wgv G rd z r t (dS z 0) b a = Wv G rd z (r + 1) t (dS z 0) := by
  obtain ⟨a6, bz, ala, mx, -⟩ := hm
  dsimp only at mx
  refine Nat.le_antisymm ?_ ((Wv_le r t (dS z 0) _).mpr (fun to h1 h2 => ⟨?_, fun k hk hS => ?_⟩))
  · have q := (Wv_le (G := G) (rd := rd) (z := z) r t (dS z 0) _).mp (Nat.le_refl _) a a6 ala
    unfold wgv
    by_cases c : b = z
    · rw [if_pos c]; exact q.1
    · rw [if_neg c]; exact q.2 b (by omega) (by rw [dS_t (by omega)]; simp)
  · have q := mx to z h1 (Nat.le_refl _) h2
    have e : wgv G rd z r t (dS z 0) z to = Wv G rd z r to (dS z 0) := by rw [wgv, if_pos rfl]
    rw [e] at q
    exact q
  · have q := mx to k h1 (by omega) h2
    have e : wgv G rd z r t (dS z 0) k to = G t k + Wv G rd z r to (wS (dS z 0) k) := by rw [wgv, if_neg (by omega)]
    rw [e] at q
    exact q
end WAY6
/-! way: the list of notes, the gains, the plan -/
section WAY7
variable {G : Nat → Nat → Nat} {rd : Nat → Nat → Bool} {z : Nat}
theorem plan_eq (hz : z ≤ 8) (hG : ∀ t k, G t k ≤ 100) {N : xM} (hg : ∀ t k, t < 6 → k < z → N 20 0 (8 * t + k) = nI (G t k)) (hr : ∀ t to, t < 6 → to < 6 → rd t to = decide (0 < N 13 0 (6 * t + to))) {t r : Nat} (ht : t < 6) (h5 : r ≤ 5) : (∀ a b c, ¬ a = 11 → ¬ a = 21 → ¬ a = 22 → f_X3_plan (nI t) (nI z) (nI (r + 1)) N a b c = N a b c) ∧ ∃ a b, fst1 (fun a b => wgv G rd z r t (dS z 0) b a) (alw rd r t) z a b ∧ f_X3_plan (nI t) (nI z) (nI (r + 1)) N 11 0 5 = nI (wgv G rd z r t (dS z 0) b a) ∧ f_X3_plan (nI t) (nI z) (nI (r + 1)) N 11 0 6 = cdW z a b := by
  have p8 := p2_8 hz
  have k0 : kG G rd z (xup (xup N 11 0 3 (nI z)) 11 0 4 (nI (2 ^ z))) := by
    refine ⟨by rw [xup_j (by decide), xup_same], xup_same, fun t k q1 q2 => ?_, fun t to q1 q2 => ?_⟩
    · rw [xup_k (by decide), xup_k (by decide)]; exact hg t k q1 q2
    · rw [xup_k (by decide), xup_k (by decide)]; exact hr t to q1 q2
  have ef := etw_fr (xup (xup N 11 0 3 (nI z)) 11 0 4 (nI (2 ^ z)))
  have k1 := kG_22 k0 ef
  have c0 : c22 G rd z (r + 1 - 1 - r) (r + 1) (f_X3_endTheWay (xup (xup N 11 0 3 (nI z)) 11 0 4 (nI (2 ^ z)))) := by
    rw [show r + 1 - 1 - r = 0 by omega]
    exact etw_eq hz k0.2.1 _
  obtain ⟨N', x, e1, e2, e3⟩ := pl30 hz hG (nI t) (nI z) (nI (r + 1)) (D := r + 1) (by omega) r (xmu 0 (nI r) + 1) _ (fun day_16 M_17 => if nI (r + 1) ≤ 1 then f_X3_chooseFirst (nI t) 0 M_17 else f_X3_chooseFirst (nI t) 1 M_17) (by unfold xmu; rw [nI_toInt (by omega)]; simp) (by omega) k1 c0
  have k2 : kG G rd z N' := kG_of k1 (fun a b c q => e2 a b c (by omega) (by omega))
  have fr : ∀ a b c, ¬ a = 11 → ¬ a = 21 → ¬ a = 22 → N' a b c = N a b c := fun a b c q1 q2 q3 => by rw [e2 a b c q2 q3, ef a b c q3, xup_k q1, xup_k q1]
  have e : f_X3_plan (nI t) (nI z) (nI (r + 1)) N = if nI (r + 1) ≤ 1 then f_X3_chooseFirst (nI t) 0 N' else f_X3_chooseFirst (nI t) 1 N' := by
    unfold f_X3_plan
    simp only [xlet_p, nI_pred]
    rw [if_neg (show ¬ (8 : Int32) < nI z from nI_nlt (a := 8) hz (by decide)), xup_same, shl_32 (by omega)]
    exact e1
  rw [e]
  have ee : nI (r + 1) ≤ 1 ↔ r + 1 ≤ 1 := nI_leI (b := 1) (by omega) (by omega)
  by_cases c : r = 0
  · rw [if_pos (ee.mpr (by omega))]
    obtain ⟨f1, f2⟩ := cf_eq hz hG k2 h5 ht 0 ⟨fun _ => c, fun _ => rfl⟩ (fun q => absurd c q)
    exact ⟨fun a b d q1 q2 q3 => by rw [f1 a b d (by omega)]; exact fr a b d q1 q2 q3, f2⟩
  · rw [if_neg (fun q => absurd (ee.mp q) (by omega))]
    obtain ⟨f1, f2⟩ := cf_eq hz hG k2 h5 ht 1 ⟨fun q => absurd q (by decide), fun q => absurd q c⟩ (fun _ => e3 (by omega))
    exact ⟨fun a b d q1 q2 q3 => by rw [f1 a b d (by omega)]; exact fr a b d q1 q2 q3, f2⟩
theorem td2 {p nt : Nat} (hp : p < 8) (M : xM) : ∀ (m t n : Nat) (N : xM) (kx : Int32 → xM → xM), t + m = 6 → m < n → xfr 20 M N → ∃ N' x, f_X10_tellDrover_L2 (nI p) nt n (nI t) N kx = kx x N' ∧ xfr 20 M N' ∧ (∀ t', t ≤ t' → t' < 6 → N' 20 0 (8 * t' + p) = (M 29 nt 2 * M 10 0 (nI t' * 8 + M 29 nt 1).toNatClampNeg) / 100) ∧ ∀ j, (∀ t', t ≤ t' → ¬ j = 8 * t' + p) → N' 20 0 j = N 20 0 j := by
  intro m
  induction m with
  | zero =>
    intro t n N kx h1 h2 hf
    obtain ⟨n, rfl⟩ : ∃ k, n = k + 1 := ⟨n - 1, by omega⟩
    rw [f_X10_tellDrover_L2, if_pos (show (6 : Int32) ≤ nI t from nI_le (a := 6) (by omega) (by omega))]
    exact ⟨N, _, rfl, hf, fun t' q1 q2 => by omega, fun j _ => rfl⟩
  | succ m ih =>
    intro t n N kx h1 h2 hf
    obtain ⟨n, rfl⟩ : ∃ k, n = k + 1 := ⟨n - 1, by omega⟩
    rw [f_X10_tellDrover_L2, if_neg (show ¬ (6 : Int32) ≤ nI t from nI_ge (b := 6) (by omega) (by decide))]
    unfold f_X3_tellGain
    simp only [xlet_p, nI_1, ix8' (show t < 6 by omega) (show p ≤ 256 by omega), hf 29 _ _ (by decide), hf 10 _ _ (by decide)]
    obtain ⟨N', x, e1, e2, e3, e4⟩ := ih (t + 1) n (xup N 20 0 (8 * t + p) ((M 29 nt 2 * M 10 0 (nI t * 8 + M 29 nt 1).toNatClampNeg) / 100)) kx (by omega) (by omega) (xfr_up hf)
    refine ⟨N', x, e1, e2, fun t' q1 q2 => ?_, fun j hj => ?_⟩
    · by_cases e : t' = t
      · subst e; rw [e4 _ (fun t'' q => by omega), xup_same]
      · exact e3 t' (by omega) q2
    · rw [e4 j (fun t' q => hj t' (by omega)), xup_j (hj t (Nat.le_refl _))]
theorem td_eq {p nt : Nat} (hp : p < 8) {M N : xM} (hf : xfr 20 M N) : xfr 20 M (f_X10_tellDrover (nI p) nt N) ∧ (∀ t', t' < 6 → f_X10_tellDrover (nI p) nt N 20 0 (8 * t' + p) = (M 29 nt 2 * M 10 0 (nI t' * 8 + M 29 nt 1).toNatClampNeg) / 100) ∧ ∀ j, (∀ t', ¬ j = 8 * t' + p) → f_X10_tellDrover (nI p) nt N 20 0 j = N 20 0 j := by
  obtain ⟨N', x, e1, e2, e3, e4⟩ := td2 (nt := nt) hp M 6 0 (xmu (0 : Int32) 6 + 1) N (fun t_5 M_6 => M_6) (by omega) (by decide) hf
  have e : f_X10_tellDrover (nI p) nt N = N' := by
    unfold f_X10_tellDrover
    exact e1
  rw [e]
  exact ⟨e2, fun t' q => e3 t' (Nat.zero_le _) q, fun j hj => e4 j (fun t' _ => hj t')⟩
theorem w109 {nn i : Nat} {M : xM} (hN : xHN nn M) (hn : nn ≤ 24) (town sh days what : Int32) {sq : Nat} (hz : z ≤ 8) (hi : i ≤ 60) (q : Nat → Nat) (hq : ∀ k, k < z → q k < nn ∧ M 25 sq (i + k) = nI (q k)) : ∀ (m k n : Nat) (N : xM) (kx : Int32 → xM → Int32 × xM), k + m = z → m < n → xfr 20 M N → (∀ t' k', t' < 6 → k' < k → N 20 0 (8 * t' + k') = (M 29 (q k') 2 * M 10 0 (nI t' * 8 + M 29 (q k') 1).toNatClampNeg) / 100) → ∃ N' x, f_X10_way_L109 town sh (nI i) (nI z) days what sq n (nI k) N kx = kx x N' ∧ xfr 20 M N' ∧ ∀ t' k', t' < 6 → k' < z → N' 20 0 (8 * t' + k') = (M 29 (q k') 2 * M 10 0 (nI t' * 8 + M 29 (q k') 1).toNatClampNeg) / 100 := by
  intro m
  induction m with
  | zero =>
    intro k n N kx h1 h2 hf h3
    obtain ⟨n, rfl⟩ : ∃ k, n = k + 1 := ⟨n - 1, by omega⟩
    rw [f_X10_way_L109, if_pos (nI_le (by omega) (by omega))]
    exact ⟨N, _, rfl, hf, fun t' k' q1 q2 => h3 t' k' q1 (by omega)⟩
  | succ m ih =>
    intro k n N kx h1 h2 hf h3
    obtain ⟨n, rfl⟩ : ∃ k, n = k + 1 := ⟨n - 1, by omega⟩
    obtain ⟨q1, q2⟩ := hq k (by omega)
    rw [f_X10_way_L109, if_neg (nI_ge (by omega) (by omega)), nI_add, nI_clamp (by omega), hf 25 _ _ (by decide), q2, noteOf_c (M := M) (hf 0 0 13 (by decide)), noteOf_eq hN, if_pos ⟨nI_pos' (by omega), nI_lt q1 (by omega)⟩, xopt_ps, nI_clamp (by omega)]
    simp only [xlet_p, nI_1]
    obtain ⟨e1, e2, e3⟩ := td_eq (p := k) (nt := q k) (by omega) hf
    refine ih (k + 1) n _ kx (by omega) (by omega) e1 (fun t' k' p1 p2 => ?_)
    by_cases e : k' = k
    · subst e; exact e2 t' p1
    · rw [e3 _ (fun t'' => by omega)]; exact h3 t' k' p1 (by omega)
/-! each note once -/
def dOK (nn : Nat) (v : Nat → Int32) (k : Nat) : Prop := (0 ≤ v k ∧ v k < nI nn) ∧ ∀ p, p < k → ¬ v p = v k
theorem ad6 {nn i sq : Nat} {M : xM} (hN : xHN nn M) (hn : nn ≤ 24) (hz : z ≤ 8) (hi : i ≤ 60) : ∀ (m k n s : Nat), k + m = z → m < n → s < 2 ^ 24 → (∀ b, b < 24 → (s.testBit b = true ↔ ∃ p, p < k ∧ M 25 sq (i + p) = nI b)) → (f_X10_areDifferentNotes_L6 sq (nI i) (nI z) M n (nI s) (nI k) (fun seen_11 k_12 => true) = true ↔ ∀ k', k ≤ k' → k' < z → dOK nn (fun p => M 25 sq (i + p)) k') := by
  intro m
  induction m with
  | zero =>
    intro k n s h1 h2 h3 h4
    obtain ⟨n, rfl⟩ : ∃ k, n = k + 1 := ⟨n - 1, by omega⟩
    rw [f_X10_areDifferentNotes_L6, if_pos (nI_le (by omega) (by omega))]
    exact ⟨fun _ k' q1 q2 => by omega, fun _ => rfl⟩
  | succ m ih =>
    intro k n s h1 h2 h3 h4
    obtain ⟨n, rfl⟩ : ∃ k, n = k + 1 := ⟨n - 1, by omega⟩
    rw [f_X10_areDifferentNotes_L6, if_neg (nI_ge (by omega) (by omega)), nI_add, nI_clamp (by omega), xlet_p, noteOf_eq hN]
    by_cases c : 0 ≤ M 25 sq (i + k) ∧ M 25 sq (i + k) < nI nn
    · rw [if_pos c, xopt_ps]
      obtain ⟨b, eb, hb⟩ := i32b (n := nn) (by omega) c.1 (by grind)
      have hb2 : b < nn := (nI_ltI (by omega) (by omega)).mp (by rw [← eb]; exact c.2)
      rw [eb, bit_n (show s < 2 ^ 31 by omega) (show b < 32 by omega), shl_32 (show b < 31 by omega), fa_or]
      simp only [xlet_p, nI_1]
      by_cases d : s.testBit b = true
      · rw [if_pos d, if_neg (by decide)]
        refine ⟨fun q => absurd q (by decide), fun q => ?_⟩
        obtain ⟨p, p1, p2⟩ := (h4 b (by omega)).mp d
        exact absurd (p2.trans eb.symm) ((q k (Nat.le_refl _) (by omega)).2 p p1)
      · rw [if_neg d, if_pos rfl]
        have l2 : s ||| 2 ^ b < 2 ^ 24 := Nat.or_lt_two_pow h3 (Nat.pow_lt_pow_right (by decide) (by omega))
        rw [ih (k + 1) n (s ||| 2 ^ b) (by omega) (by omega) l2 (fun b' hb' => ?_)]
        · refine ⟨fun q k' q1 q2 => ?_, fun q k' q1 q2 => q k' (by omega) q2⟩
          by_cases e : k' = k
          · subst e
            refine ⟨c, fun p hp z => d ((h4 b (by omega)).mpr ⟨p, hp, ?_⟩)⟩
            exact (show M 25 sq (i + p) = M 25 sq (i + k') from z).trans eb
          · exact q k' (by omega) q2
        · rw [Nat.testBit_or, Nat.testBit_two_pow, Bool.or_eq_true, h4 b' hb', decide_eq_true_iff]
          refine ⟨fun q => ?_, fun q => ?_⟩
          · rcases q with ⟨p, p1, p2⟩ | q
            · exact ⟨p, by omega, p2⟩
            · subst q; exact ⟨k, by omega, eb⟩
          · obtain ⟨p, p1, p2⟩ := q
            by_cases e : p = k
            · subst e; exact Or.inr ((nI_eq (by omega) (by omega)).mp (eb.symm.trans p2))
            · exact Or.inl ⟨p, by omega, p2⟩
    · rw [if_neg c, xopt_pn]
      exact ⟨fun q => absurd q (by decide), fun q => absurd (q k (Nat.le_refl _) (by omega)).1 c⟩
theorem ad_eq {nn i sq : Nat} {M : xM} (hN : xHN nn M) (hn : nn ≤ 24) (hz : z ≤ 8) (hi : i ≤ 60) : f_X10_areDifferentNotes sq (nI i) (nI z) M = true ↔ ∀ k, k < z → dOK nn (fun p => M 25 sq (i + p)) k := by
  have h := ad6 (sq := sq) hN hn hz hi z 0 (xmu (0 : Int32) (nI z) + 1) 0 (by omega) (by unfold xmu; rw [nI_toInt (by omega)]; simp) (by decide) (fun b _ => ⟨fun q => by rw [Nat.zero_testBit] at q; exact absurd q (by decide), fun ⟨p, p1, _⟩ => by omega⟩)
  unfold f_X10_areDifferentNotes
  exact h.trans ⟨fun q k hk => q k (Nat.zero_le _) hk, fun q k _ hk => q k hk⟩
theorem w124 (town sh i zz days what why : Int32) {k : Nat} (hk : k < 8) (N : xM) : ∀ (m p n : Nat) (g : Int32) (kx : Int32 → Int32 → Int32 × xM), p + m = k → m < n → (g = 0 ∨ g = 1) → ∃ g' x, f_X11_way_L124 town sh i zz days what why (nI k) N n g (nI p) kx = kx g' x ∧ (g' = 0 ↔ g = 0 ∨ ∃ p', p ≤ p' ∧ p' < k ∧ N 98 0 p' = N 98 0 k) := by
  intro m
  induction m with
  | zero =>
    intro p n g kx h1 h2 h3
    obtain ⟨n, rfl⟩ : ∃ k, n = k + 1 := ⟨n - 1, by omega⟩
    rw [f_X11_way_L124, if_pos (nI_le (by omega) (by omega))]
    exact ⟨g, _, rfl, fun q => Or.inl q, fun q => q.elim id (fun ⟨p', p1, p2, _⟩ => by omega)⟩
  | succ m ih =>
    intro p n g kx h1 h2 h3
    obtain ⟨n, rfl⟩ : ∃ k, n = k + 1 := ⟨n - 1, by omega⟩
    rw [f_X11_way_L124, if_neg (nI_ge (by omega) (by omega))]
    simp only [xlet_p, nI_1, nI_clamp (show p < 2 ^ 31 by omega), nI_clamp (show k < 2 ^ 31 by omega)]
    by_cases c : g = 0
    · rw [if_pos c]
      obtain ⟨g', x, e1, e2⟩ := ih (p + 1) n 0 kx (by omega) (by omega) (Or.inl rfl)
      exact ⟨g', x, e1, fun _ => Or.inl c, fun _ => e2.mpr (Or.inl rfl)⟩
    · rw [if_neg c]
      by_cases d : N 98 0 p = N 98 0 k
      · rw [if_pos d]
        obtain ⟨g', x, e1, e2⟩ := ih (p + 1) n 0 kx (by omega) (by omega) (Or.inl rfl)
        exact ⟨g', x, e1, fun _ => Or.inr ⟨p, Nat.le_refl _, by omega, d⟩, fun _ => e2.mpr (Or.inl rfl)⟩
      · rw [if_neg d]
        obtain ⟨g', x, e1, e2⟩ := ih (p + 1) n 1 kx (by omega) (by omega) (Or.inr rfl)
        refine ⟨g', x, e1, e2.trans ⟨fun q => ?_, fun q => ?_⟩⟩
        · rcases q with q | ⟨p', p1, p2, p3⟩
          · exact absurd q (by decide)
          · exact Or.inr ⟨p', by omega, p2, p3⟩
        · rcases q with q | ⟨p', p1, p2, p3⟩
          · exact absurd q c
          · by_cases e : p' = p
            · subst e; exact absurd p3 d
            · exact Or.inr ⟨p', by omega, p2, p3⟩
theorem w80 {nn s i : Nat} {B : xM} (h30 : B 40 0 30 = nI nn) (hn : nn ≤ 24) (hs : s < 8) (hz : z ≤ 8) (hi : i ≤ 60) (town days what why : Int32) : ∀ (m k n : Nat) (N : xM) (kx : Int32 → xM → Int32 × xM), k + m = z → m < n → xfr 98 B N → (∀ p, p < k → N 98 0 p = B 54 0 (60 * s + i + p)) → ∃ N', xfr 98 B N' ∧ ((∀ k', k ≤ k' → k' < z → dOK nn (fun p => B 54 0 (60 * s + i + p)) k') → (∃ x, f_X11_way_L80 town (nI s) (nI i) (nI z) days what why n (nI k) N kx = kx x N') ∧ ∀ p, p < z → N' 98 0 p = B 54 0 (60 * s + i + p)) ∧ (¬ (∀ k', k ≤ k' → k' < z → dOK nn (fun p => B 54 0 (60 * s + i + p)) k') → f_X11_way_L80 town (nI s) (nI i) (nI z) days what why n (nI k) N kx = ((-1000001), N')) := by
  intro m
  induction m with
  | zero =>
    intro k n N kx h1 h2 hf h3
    obtain ⟨n, rfl⟩ : ∃ k, n = k + 1 := ⟨n - 1, by omega⟩
    rw [f_X11_way_L80, if_pos (nI_le (by omega) (by omega))]
    exact ⟨N, hf, fun _ => ⟨⟨_, rfl⟩, fun p hp => h3 p (by omega)⟩, fun q => absurd (fun k' q1 q2 => by omega) q⟩
  | succ m ih =>
    intro k n N kx h1 h2 hf h3
    obtain ⟨n, rfl⟩ : ∃ k, n = k + 1 := ⟨n - 1, by omega⟩
    have ix : (60 * nI s + nI i + nI k).toNatClampNeg = 60 * s + i + k := by rw [nI_m 60 s 60 rfl, nI_add, nI_add, nI_clamp (by omega)]
    rw [f_X11_way_L80, if_neg (nI_ge (by omega) (by omega)), ix, nI_clamp (by omega), hf 54 _ _ (by decide)]
    simp only [xlet_p, nI_1]
    have f1 : xfr 98 B (xup N 98 0 k (B 54 0 (60 * s + i + k))) := xfr_up hf
    rw [xup_same, isNote_n (nn := nn) (by rw [f1 40 0 30 (by decide)]; exact h30) hn]
    obtain ⟨g', x, e1, e2⟩ := w124 town (nI s) (nI i) (nI z) days what why (show k < 8 by omega) (xup N 98 0 k (B 54 0 (60 * s + i + k))) k 0 (xmu (0 : Int32) (nI k) + 1) (xb (decide (0 ≤ B 54 0 (60 * s + i + k) ∧ B 54 0 (60 * s + i + k) < nI nn))) (fun good_63 q_64 => if good_63 = 0 then ((-1000001), xup N 98 0 k (B 54 0 (60 * s + i + k))) else f_X11_way_L80 town (nI s) (nI i) (nI z) days what why n (nI (k + 1)) (xup N 98 0 k (B 54 0 (60 * s + i + k))) kx) (by omega) (by unfold xmu; rw [nI_toInt (by omega)]; simp) (by cases decide (0 ≤ B 54 0 (60 * s + i + k) ∧ B 54 0 (60 * s + i + k) < nI nn) <;> simp [xb])
    have e0 : g' = 0 ↔ ¬ dOK nn (fun p => B 54 0 (60 * s + i + p)) k := by
      rw [e2, xb_0, decide_eq_false_iff_not, xup_same]
      unfold dOK
      refine ⟨fun q d => ?_, fun q => ?_⟩
      · rcases q with q | ⟨p, p1, p2, p3⟩
        · exact q d.1
        · rw [xup_j (by omega), h3 p p2] at p3
          exact d.2 p p2 p3
      · by_cases c : 0 ≤ B 54 0 (60 * s + i + k) ∧ B 54 0 (60 * s + i + k) < nI nn
        · refine Or.inr (Classical.byContradiction (fun w => q ⟨c, fun p hp z => w ⟨p, Nat.zero_le _, hp, ?_⟩⟩))
          rw [xup_j (by omega), h3 p hp]
          exact z
        · exact Or.inl c
    have e1' : f_X11_way_L124 town (nI s) (nI i) (nI z) days what why (nI k) (xup N 98 0 k (B 54 0 (60 * s + i + k))) (xmu (0 : Int32) (nI k) + 1) (xb (decide (0 ≤ B 54 0 (60 * s + i + k) ∧ B 54 0 (60 * s + i + k) < nI nn))) 0 (fun good_63 q_64 => if good_63 = 0 then ((-1000001), xup N 98 0 k (B 54 0 (60 * s + i + k))) else f_X11_way_L80 town (nI s) (nI i) (nI z) days what why n (nI (k + 1)) (xup N 98 0 k (B 54 0 (60 * s + i + k))) kx) = _ := e1
    rw [e1']
    by_cases c : g' = 0
    · rw [if_pos c]
      refine ⟨_, f1, fun q => absurd (q k (Nat.le_refl _) (by omega)) (e0.mp c), fun _ => rfl⟩
    · rw [if_neg c]
      have dk : dOK nn (fun p => B 54 0 (60 * s + i + p)) k := Classical.byContradiction (fun w => c (e0.mpr w))
      obtain ⟨N', g1, g2, g3⟩ := ih (k + 1) n (xup N 98 0 k (B 54 0 (60 * s + i + k))) kx (by omega) (by omega) f1 (fun p hp => by
        by_cases e : p = k
        · subst e; exact xup_same
        · rw [xup_j e]; exact h3 p (by omega))
      refine ⟨N', g1, fun q => g2 (fun k' q1 q2 => q k' (by omega) q2), fun q => g3 (fun w => q (fun k' q1 q2 => ?_))⟩
      by_cases e : k' = k
      · subst e; exact dk
      · exact w k' (by omega) q2
end WAY7
/-! way -/
section WAY8
variable {nb nn : Nat} {M : xM}
def wk10 (town z days what : Int32) : Int32 → xM → Int32 × xM := fun _ M_32 => if what = 0 then (f_X3_plan town z days M_32 11 0 5, xup (f_X3_plan town z days M_32) 0 0 16 0) else (f_X3_plan town z days M_32 11 0 6, xup (f_X3_plan town z days M_32) 0 0 16 0)
def wk11 (town sh i z days what : Int32) : Int32 → xM → Int32 × xM := fun _ M_82 => f_X11_way_L188 town sh i z days what 0 (xmu (0 : Int32) 1536 + 1) (0 : Int32) (xup M_82 40 0 1 0) (fun _ M_85 => f_X11_way_L213 town sh i z days what 0 (xmu (1 : Int32) (days + 1) + 1) (1 : Int32) M_85 (fun _ M_87 => if what = 0 then (M_87 97 0 (((1536 * days) + (256 * town)) + (((1 : Int32) <<< (z &&& 31)) - 1)).toNatClampNeg, M_87) else f_X11_way_L428 town sh i z days what 0 (((1 : Int32) <<< (z &&& 31)) - 1) (M_87 97 0 (((1536 * days) + (256 * town)) + (((1 : Int32) <<< (z &&& 31)) - 1)).toNatClampNeg) M_87 (xmu (0 : Int32) 6 + 1) (0 : Int32) (fun _ => ((-1000000), M_87))))
theorem gain_b {A C : Int32} (hA : 1 ≤ A ∧ A ≤ 100) (hC : 0 ≤ C ∧ C ≤ 100) : A * C / 100 = nI (A * C / 100).toNatClampNeg ∧ (A * C / 100).toNatClampNeg ≤ 100 := by
  obtain ⟨a, rfl, ha⟩ := i32b (n := 100) (by decide) (Int32.le_trans (by decide) hA.1) hA.2
  obtain ⟨c, rfl, hc⟩ := i32b (n := 100) (by decide) hC.1 hC.2
  have l : a * c ≤ 100 * 100 := Nat.mul_le_mul ha hc
  have e : nI a * nI c / 100 = nI (a * c / 100) := by rw [pk_mul, show (100 : Int32) = nI 100 from rfl, pk_div (by omega) (by decide) (by decide)]
  have l2 : a * c / 100 ≤ 100 := by omega
  rw [e, nI_clamp (by omega)]
  exact ⟨rfl, l2⟩
/-- all that counts: both sides reckon the same way -/
theorem way_same (h : INV nb nn M) {t s i z r : Nat} (ht : t < 6) (hs : s < 8) (hi : i ≤ 60) (hz1 : 1 ≤ z) (hz : z ≤ 8) (h5 : r ≤ 5) (what : Int32) (hl : ∀ k, k < z → M 54 0 (60 * s + i + k) = M 25 s (i + k)) (hd : ∀ k, k < z → dOK nn (fun p => M 25 s (i + p)) k) (C : xM) (x10 : Int32) (hC : f_X10_way_L109 (nI t) (nI s) (nI i) (nI z) (nI (r + 1)) what s (xmu (0 : Int32) (nI z) + 1) (0 : Int32) M (wk10 (nI t) (nI z) (nI (r + 1)) what) = (x10, C)) : R40 M C ∧ (∀ a b c : Nat, ¬ jk a b c → ¬ (a = 0 ∧ b = 0 ∧ c = 16) → C a b c = M a b c) ∧ C 0 0 16 = 0 ∧ ∀ D : xM, (∀ a b c, 40 ≤ a → ¬ a = 98 → ¬ (a = 40 ∧ b = 0 ∧ c = 0) → D a b c = M a b c) → (∀ k, k < z → D 98 0 k = M 25 s (i + k)) → ∀ y : Int32, ∃ D', wk11 (nI t) (nI s) (nI i) (nI z) (nI (r + 1)) what y D = (x10, D') ∧ (∀ a b c, ¬ a = 97 → D' a b c = xup D 40 0 1 0 a b c) := by
  have p8 := p2_8 hz
  have hn := h.ob.2.1
  have hN : xHN nn M := h.hn
  obtain ⟨ra⟩ : Nonempty (∀ k : Nat, k < 48 → M 96 0 k = M 10 0 k ∧ 0 ≤ M 10 0 k ∧ M 10 0 k ≤ 100) := ⟨h.ra⟩
  have hq : ∀ k, k < z → (M 25 s (i + k)).toNatClampNeg < nn ∧ M 25 s (i + k) = nI (M 25 s (i + k)).toNatClampNeg := by
    intro k hk
    obtain ⟨⟨d1, d2⟩, -⟩ := hd k hk
    obtain ⟨b, eb, hb⟩ := i32b (n := nn) (by omega) d1 (by grind)
    dsimp only at eb d2
    rw [eb, nI_clamp (by omega)]
    exact ⟨(nI_ltI (by omega) (by omega)).mp (by rw [← eb]; exact d2), rfl⟩
  obtain ⟨q, hqd⟩ : ∃ q : Nat → Nat, ∀ k, q k = (M 25 s (i + k)).toNatClampNeg := ⟨_, fun k => rfl⟩
  have hq' : ∀ k, k < z → q k < nn ∧ M 25 s (i + k) = nI (q k) := fun k hk => by rw [hqd]; exact hq k hk
  -- the gains
  have gi : ∀ t k, t < 6 → k < z → (nI t * 8 + M 29 (q k) 1).toNatClampNeg < 48 ∧ (nI t * 8 + M 29 (q k) 1).toNatClampNeg = 8 * t + (M 29 (q k) 1).toNatClampNeg := by
    intro t k ht hk
    have b := h.no.2.2.1 (q k)
    obtain ⟨b', eb, hb⟩ := i32b (n := 7) (by decide) b.1 b.2
    rw [eb, ix8' ht (by omega), nI_clamp (by omega)]
    omega
  obtain ⟨G, hGd⟩ : ∃ G : Nat → Nat → Nat, ∀ t k, G t k = if t < 6 ∧ k < z then ((M 29 (q k) 2 * M 10 0 (nI t * 8 + M 29 (q k) 1).toNatClampNeg) / 100).toNatClampNeg else 0 := ⟨_, fun t k => rfl⟩
  have gb : ∀ t k, t < 6 → k < z → (M 29 (q k) 2 * M 10 0 (nI t * 8 + M 29 (q k) 1).toNatClampNeg) / 100 = nI (G t k) ∧ G t k ≤ 100 := by
    intro t k ht hk
    rw [hGd, if_pos ⟨ht, hk⟩]
    have n1 := h.n1 (hq' k hk).1
    exact gain_b ⟨n1.s1, n1.s100⟩ (ra _ (gi t k ht hk).1).2
  have hG : ∀ t k, G t k ≤ 100 := by
    intro t k
    by_cases c : t < 6 ∧ k < z
    · exact (gb t k c.1 c.2).2
    · rw [hGd, if_neg c]; omega
  obtain ⟨rd, hrd⟩ : ∃ rd : Nat → Nat → Bool, ∀ t to, rd t to = decide (0 < M 13 0 (6 * t + to)) := ⟨_, fun t to => rfl⟩
  obtain ⟨N1, x1, e1, e2, e3⟩ := w109 hN hn (nI t) (nI s) (nI (r + 1)) what (sq := s) hz hi q hq' z 0 (xmu (0 : Int32) (nI z) + 1) M (wk10 (nI t) (nI z) (nI (r + 1)) what) (by omega) (by unfold xmu; rw [nI_toInt (by omega)]; simp) (xfr_rf _ _) (fun t' k' _ q => by omega)
  obtain ⟨f1, a, b, f2, f3, f4⟩ := plan_eq (G := G) (rd := rd) (N := N1) (t := t) (r := r) hz hG (fun t k q1 q2 => by rw [e3 t k q1 q2]; exact (gb t k q1 q2).1) (fun t to _ _ => by rw [e2 13 _ _ (by decide)]; exact hrd t to) ht h5
  have hres : wk10 (nI t) (nI z) (nI (r + 1)) what x1 N1 = (x10, C) := e1.symm.trans hC
  unfold wk10 at hres
  have hCe : C = xup (f_X3_plan (nI t) (nI z) (nI (r + 1)) N1) 0 0 16 0 := by
    by_cases c : what = 0
    · rw [if_pos c] at hres; exact (congrArg Prod.snd hres).symm
    · rw [if_neg c] at hres; exact (congrArg Prod.snd hres).symm
  have hx : x10 = if what = 0 then nI (wgv G rd z r t (dS z 0) b a) else cdW z a b := by
    by_cases c : what = 0
    · rw [if_pos c] at hres ⊢; rw [← f3]; exact (congrArg Prod.fst hres).symm
    · rw [if_neg c] at hres ⊢; rw [← f4]; exact (congrArg Prod.fst hres).symm
  have frC : ∀ a b c : Nat, ¬ jk a b c → ¬ (a = 0 ∧ b = 0 ∧ c = 16) → C a b c = M a b c := by
    intro a b c q1 q2
    unfold jk at q1
    rw [hCe, xup_at, if_neg q2, f1 a b c (by omega) (by omega) (by omega), e2 a b c (by omega)]
  refine ⟨fun a b c q => ?_, frC, by rw [hCe, xup_same], fun D hD h98 y => ?_⟩
  · rw [hCe, xup_k (by omega), f1 a b c (by omega) (by omega) (by omega), e2 a b c (by omega)]
  · -- the reference
    have hr : ∀ t to, t < 6 → to < 6 → rd t to = decide (0 < xup D 40 0 1 0 55 0 (6 * t + to)) := by
      intro t to q1 q2
      rw [xup_k (by decide), hD 55 _ _ (by decide) (by decide) (by omega), hrd, (h.ro.1 (6 * t + to) (by omega)).1]
    have hg : ∀ t k, t < 6 → k < z → f_X11_brings (nI k) (nI t) (xup D 40 0 1 0) = nI (G t k) := by
      intro t k q1 q2
      have n1 := h.n1 (hq' k q2).1
      have l1 := (hq' k q2).1
      unfold f_X11_brings
      rw [nI_clamp (by omega), xup_k (by decide), xup_k (by decide), xup_k (by decide), xup_k (by decide), h98 k q2, (hq' k q2).2, nI_clamp (by omega), hD 82 _ _ (by decide) (by decide) (by omega), hD 81 _ _ (by decide) (by decide) (by omega), hD 96 _ _ (by decide) (by decide) (by omega), n1.b82, n1.b81, nI_m 8 t 8 rfl, ← (gb t k q1 q2).1]
      have w := gi t k q1 q2
      rw [nI_mr 8 t 8 rfl, Nat.mul_comm t 8] at w ⊢
      rw [(ra _ w.1).1]
    obtain ⟨N2, x2, g1, g2, g3⟩ := w188 (B := xup D 40 0 1 0) (nI t) (nI s) (nI i) (nI z) (nI (r + 1)) what 0 1536 0 (xmu (0 : Int32) 1536 + 1) (xup D 40 0 1 0) (fun _ M_85 => f_X11_way_L213 (nI t) (nI s) (nI i) (nI z) (nI (r + 1)) what 0 (xmu (1 : Int32) (nI (r + 1) + 1) + 1) (1 : Int32) M_85 (fun _ M_87 => if what = 0 then (M_87 97 0 (((1536 * nI (r + 1)) + (256 * nI t)) + (((1 : Int32) <<< (nI z &&& 31)) - 1)).toNatClampNeg, M_87) else f_X11_way_L428 (nI t) (nI s) (nI i) (nI z) (nI (r + 1)) what 0 (((1 : Int32) <<< (nI z &&& 31)) - 1) (M_87 97 0 (((1536 * nI (r + 1)) + (256 * nI t)) + (((1 : Int32) <<< (nI z &&& 31)) - 1)).toNatClampNeg) M_87 (xmu (0 : Int32) 6 + 1) (0 : Int32) (fun _ => ((-1000000), M_87)))) rfl (by decide) (xfr_rf _ _) (fun j q => by omega)
    obtain ⟨N3, x3, k1, k2, k3, k4⟩ := w213 (B := xup D 40 0 1 0) (G := G) (rd := rd) (z := z) (nI t) (nI s) (nI i) what 0 hz hr hg hG (days := r + 1) (by omega) (r + 1) 0 (xmu (1 : Int32) (nI (r + 1) + 1) + 1) N2 (fun _ M_87 => if what = 0 then (M_87 97 0 (((1536 * nI (r + 1)) + (256 * nI t)) + (((1 : Int32) <<< (nI z &&& 31)) - 1)).toNatClampNeg, M_87) else f_X11_way_L428 (nI t) (nI s) (nI i) (nI z) (nI (r + 1)) what 0 (((1 : Int32) <<< (nI z &&& 31)) - 1) (M_87 97 0 (((1536 * nI (r + 1)) + (256 * nI t)) + (((1 : Int32) <<< (nI z &&& 31)) - 1)).toNatClampNeg) M_87 (xmu (0 : Int32) 6 + 1) (0 : Int32) (fun _ => ((-1000000), M_87))) (by omega) (by rw [nI_1]; unfold xmu; rw [nI_toInt (by omega), show (1 : Int32).toInt = 1 from rfl]; omega) g2 (fun to s' q1 q2 => by rw [g3 _ (by omega)]; rfl) (fun q => by omega)
    have k4 := k4 (by omega)
    rw [show r + 1 - 1 = r by omega] at k4
    have pz : 1 ≤ 2 ^ z := Nat.pow_pos (by decide)
    have e7 : (1 : Int32) <<< (nI z &&& 31) - 1 = nI (2 ^ z - 1) := by
      rw [shl_32 (by omega)]
      obtain ⟨w, hw⟩ : ∃ w, 2 ^ z = w + 1 := ⟨2 ^ z - 1, by omega⟩
      rw [hw, nI_pred]; rfl
    have e8 : N3 97 0 ((1536 * nI (r + 1) + 256 * nI t) + nI (2 ^ z - 1)).toNatClampNeg = nI (wgv G rd z r t (dS z 0) b a) := by
      rw [nI_m 1536 (r + 1) 1536 rfl, nI_m 256 t 256 rfl, nI_add, nI_add, nI_clamp (by omega), k3 t (2 ^ z - 1) ht (by omega), fst1_W f2, dS_0]
    refine ⟨N3, ?_, k2⟩
    unfold wk11
    refine g1.trans (k1.trans ?_)
    rw [e7, e8, hx]
    by_cases c : what = 0
    · rw [if_pos c, if_pos c]
    · rw [if_neg c, if_neg c]
      rw [dS_0] at f2 ⊢
      exact w428 (B := xup D 40 0 1 0) (nI s) (nI i) what 0 hz hr hg hG k2 (show r ≤ 6 by omega) k4 (show 2 ^ z - 1 < 2 ^ z by omega) ht f2 _ 6 0 (xmu (0 : Int32) 6 + 1) (by omega) (by decide) (Nat.zero_le _)
end WAY8
/-! way: the call -/
section WAY9
variable {nb nn : Nat} {M : xM}
theorem way10b (town sh i z days what : Int32) (M : xM) (h : ¬ ((0 ≤ town ∧ town ≤ 5) ∧ (0 ≤ sh ∧ sh ≤ 7) ∧ (1 ≤ z ∧ z ≤ 8) ∧ (1 ≤ days ∧ days ≤ 6) ∧ (0 ≤ what ∧ what ≤ 1))) : f_X10_way town sh i z days what M = ((-1000001), M) := by
  unfold f_X10_way
  simp only [xlet_p, sheetOf_eq, isTown10_eq, isUpTo_eq, xb_0, decide_eq_false_iff_not]
  by_cases c2 : 0 ≤ sh ∧ sh ≤ 7
  · rw [if_pos c2, xopt_ps]
    by_cases c1 : 0 ≤ town ∧ town ≤ 5
    · rw [if_neg (fun q => q c1)]
      by_cases c5 : 0 ≤ what ∧ what ≤ 1
      · rw [if_neg (fun q => q c5)]
        by_cases a1 : z < 1
        · rw [if_pos a1]
        · rw [if_neg a1]
          by_cases a2 : 8 < z
          · rw [if_pos a2]
          · rw [if_neg a2]
            by_cases a3 : days < 1
            · rw [if_pos a3]
            · rw [if_neg a3]
              by_cases a4 : days ≤ 6
              · exact absurd ⟨c1, c2, ⟨Int32.not_lt.mp a1, Int32.not_lt.mp a2⟩, ⟨Int32.not_lt.mp a3, a4⟩, c5⟩ h
              · rw [if_neg a4]
      · rw [if_pos c5]
    · rw [if_pos c1]
  · rw [if_neg c2, xopt_pn]
    split <;> rfl
theorem way11b (town sh i z days what : Int32) (N : xM) (h : ¬ ((0 ≤ town ∧ town ≤ 5) ∧ (0 ≤ sh ∧ sh ≤ 7) ∧ (1 ≤ z ∧ z ≤ 8) ∧ (1 ≤ days ∧ days ≤ 6) ∧ (0 ≤ what ∧ what ≤ 1))) : f_X11_way town sh i z days what N = ((-1000001), xup N 40 0 0 0) := by
  unfold f_X11_way
  simp only [xlet_p, isTown_eq, isSheet_eq, in_1_8, in_1_6, in_0_1, xb_0, decide_eq_false_iff_not]
  by_cases c1 : 0 ≤ town ∧ town ≤ 5
  · rw [if_neg (fun q => q c1)]
    by_cases c2 : 0 ≤ sh ∧ sh ≤ 7
    · rw [if_neg (fun q => q c2)]
      by_cases c3 : 1 ≤ z ∧ z ≤ 8
      · rw [if_neg (fun q => q c3)]
        by_cases c4 : 1 ≤ days ∧ days ≤ 6
        · rw [if_neg (fun q => q c4)]
          by_cases c5 : 0 ≤ what ∧ what ≤ 1
          · exact absurd ⟨c1, c2, c3, c4, c5⟩ h
          · rw [if_pos c5]
        · rw [if_pos c4]
      · rw [if_pos c3]
    · rw [if_pos c2]
  · rw [if_pos c1]
theorem s_way (h : INV nb nn M) (town sh i z days what : Int32) : R40 M (f_X10_way town sh i z days what M).2 ∧ (f_X10_way town sh i z days what M).1 = (f_X11_way town sh i z days what (f_X10_way town sh i z days what M).2).1 ∧ INV nb nn (f_X11_way town sh i z days what (f_X10_way town sh i z days what M).2).2 := by
  by_cases c : (0 ≤ town ∧ town ≤ 5) ∧ (0 ≤ sh ∧ sh ≤ 7) ∧ (1 ≤ z ∧ z ≤ 8) ∧ (1 ≤ days ∧ days ≤ 6) ∧ (0 ≤ what ∧ what ≤ 1)
  · obtain ⟨c1, c2, c3, c4, c5⟩ := c
    obtain ⟨t, rfl, ht, htc⟩ := ix_6 c1
    obtain ⟨s, rfl, hs, hsc⟩ := ix_8 c2
    obtain ⟨z, rfl, hz⟩ := i32b (n := 8) (by decide) (Int32.le_trans (by decide) c3.1) c3.2
    obtain ⟨D, rfl, hD⟩ := i32b (n := 6) (by decide) (Int32.le_trans (by decide) c4.1) c4.2
    have hz1 : 1 ≤ z := (nI_leI (a := 1) (by omega) (by omega)).mp c3.1
    have hD1 : 1 ≤ D := (nI_leI (a := 1) (by omega) (by omega)).mp c4.1
    obtain ⟨r, rfl⟩ : ∃ r, D = r + 1 := ⟨D - 1, by omega⟩
    have hb := h.sh.1
    have hb2 := h.sh.2.1
    have q := h.sh.2.2 s hs
    have p1 := hasP (i0 := s) (i := i) (z := nI z) hb
    have K : f_X10_way (nI t) (nI s) i (nI z) (nI (r + 1)) what M = if M 24 s 1 = (-1) then ((-1000011), xup M 0 0 16 1) else if f_X6_hasPlaces s i (nI z) M = true then (if f_X10_areDifferentNotes s i (nI z) M = true then f_X10_way_L109 (nI t) (nI s) i (nI z) (nI (r + 1)) what s (xmu (0 : Int32) (nI z) + 1) (0 : Int32) M (wk10 (nI t) (nI z) (nI (r + 1)) what) else ((-1000001), M)) else ((-1000012), xup M 0 0 16 2) := by
      unfold f_X10_way f_X6_isMissing f_X10_found f_X10_foundNothing wk10
      simp only [xlet_p, xlet2_p, sheetOf_eq, isTown10_eq, isUpTo_eq, xb_0, if_pos c2, xopt_ps, hsc, decide_eq_false_iff_not]
      rw [if_neg (fun q => q c1), if_neg (fun q => q c5), if_neg (Int32.not_lt.mpr c3.1), if_neg (Int32.not_lt.mpr c3.2), if_neg (Int32.not_lt.mpr c4.1), if_pos c4.2]
      by_cases d1 : M 24 s 1 = (-1)
      · simp only [if_pos d1]; rfl
      · simp only [if_neg d1]
        rw [if_pos trivial]
        by_cases e : f_X6_hasPlaces s i (nI z) M = true
        · rw [if_neg (by rw [e]; decide), if_pos e]
          by_cases e2 : f_X10_areDifferentNotes s i (nI z) M = true
          · rw [if_neg (by rw [e2]; decide), if_pos e2]
          · rw [if_pos (by simpa using e2), if_neg e2]
        · rw [if_pos (by simpa using e), if_neg e]; rfl
    have KM : ∀ N : xM, (∀ j : Nat, 0 ≤ N 53 0 j ∧ N 53 0 j ≤ 60) → f_X11_way (nI t) (nI s) i (nI z) (nI (r + 1)) what N = if N 52 0 s < 0 then ((-1000011), xup (xup N 40 0 0 0) 40 0 1 1) else if plc i (nI z) (N 53 0 s) then f_X11_way_L80 (nI t) (nI s) i (nI z) (nI (r + 1)) what 0 (xmu (0 : Int32) (nI z) + 1) (0 : Int32) (xup N 40 0 0 0) (wk11 (nI t) (nI s) i (nI z) (nI (r + 1)) what) else ((-1000012), xup (xup N 40 0 0 0) 40 0 1 2) := by
      intro N hN
      have n52 : xup N 40 0 0 0 52 0 s = N 52 0 s := xup_k (by decide)
      have n53 : ∀ j : Nat, xup N 40 0 0 0 53 0 j = N 53 0 j := fun j => xup_k (by decide)
      unfold f_X11_way wk11
      simp only [xlet_p, xlet2_p, isTown_eq, isSheet_eq, in_1_8, in_1_6, in_0_1, xb_0, decide_eq_false_iff_not]
      rw [if_neg (fun q => q c1), if_neg (fun q => q c2), if_neg (fun q => q c3), if_neg (fun q => q c4), if_neg (fun q => q c5), look_eq (fun j => by rw [n53]; exact hN j) hs i (nI z) (Int32.le_trans (by decide) c3.1), n52, n53]
      by_cases c1 : N 52 0 s < 0
      · rw [if_pos c1, if_pos c1]; dsimp only; rw [if_neg (by decide)]
      · rw [if_neg c1, if_neg c1]
        by_cases c2 : plc i (nI z) (N 53 0 s)
        · rw [if_pos c2, if_pos c2]; dsimp only; rw [if_pos (by decide)]
        · rw [if_neg c2, if_neg c2]; dsimp only; rw [if_neg (by decide)]
    have e53 : ∀ (v : Int32) (k : Nat), xup M 0 0 16 v 53 0 k = M 53 0 k := fun v k => xup_k (by decide)
    have e52 : ∀ (v : Int32) (k : Nat), xup M 0 0 16 v 52 0 k = M 52 0 k := fun v k => xup_k (by decide)
    rw [K]
    by_cases c1 : M 24 s 1 = (-1)
    · rw [if_pos c1, KM _ (fun k => by dsimp only; rw [e53]; exact hb2 k), if_pos (by dsimp only; rw [e52, q.1, c1]; decide)]
      exact ⟨R40_up (R40_rf M) (by decide), rfl, INV_st h 1⟩
    · have px : 0 ≤ M 24 s 1 := by have := q.2.1; grind
      have pn : ¬ M 52 0 s < 0 := by rw [q.1]; exact Int32.not_lt.mpr px
      obtain ⟨dx, ix⟩ := q.2.2.2 px
      rw [if_neg c1]
      by_cases c2 : plc i (nI z) (M 24 s 2)
      · rw [if_pos (p1.mpr c2)]
        obtain ⟨i1, i2, i3, i4, i5⟩ := id c2
        have a1 := tnc_add i1 i2 (Int32.le_trans i3 (by decide)) (Int32.le_trans i4 (by decide))
        have b1 : (i + nI z).toNatClampNeg ≤ (M 24 s 2).toNatClampNeg := tnc_mono i5
        have lx : (M 24 s 2).toNatClampNeg ≤ 60 := tnc_le (N := 60) (by decide) (hb s).2
        rw [nI_clamp (show z < 2 ^ 31 by omega)] at a1
        obtain ⟨ii, rfl, hii⟩ := i32b (n := 60) (by decide) i1 i3
        rw [nI_clamp (by omega)] at a1
        have hl : ∀ k, k < z → M 54 0 (60 * s + ii + k) = M 25 s (ii + k) := fun k hk => by
          rw [Nat.add_assoc]; exact ix (ii + k) (by omega)
        have dE : ∀ k, k < z → (dOK nn (fun p => M 54 0 (60 * s + ii + p)) k ↔ dOK nn (fun p => M 25 s (ii + p)) k) := by
          intro k hk
          unfold dOK
          dsimp only
          rw [hl k hk]
          exact ⟨fun w => ⟨w.1, fun p hp => by rw [← hl p (by omega)]; exact w.2 p hp⟩, fun w => ⟨w.1, fun p hp => by rw [hl p (by omega)]; exact w.2 p hp⟩⟩
        have fz : z < xmu (0 : Int32) (nI z) + 1 := by unfold xmu; rw [nI_toInt (by omega)]; simp
        have adE := ad_eq (sq := s) h.hn h.nn24 hz hii (z := z)
        by_cases c3 : ∀ k, k < z → dOK nn (fun p => M 25 s (ii + p)) k
        · rw [if_pos (adE.mpr c3)]
          obtain ⟨x10, C, hC⟩ : ∃ x10 C, f_X10_way_L109 (nI t) (nI s) (nI ii) (nI z) (nI (r + 1)) what s (xmu (0 : Int32) (nI z) + 1) (0 : Int32) M (wk10 (nI t) (nI z) (nI (r + 1)) what) = (x10, C) := ⟨_, _, rfl⟩
          obtain ⟨r1, r2, r3, r4⟩ := way_same h ht hs hii hz1 hz (show r ≤ 5 by omega) what hl c3 C x10 hC
          rw [hC]
          dsimp only
          have C53 : ∀ k : Nat, C 53 0 k = M 53 0 k := fun k => r1 53 0 k (by decide)
          rw [KM C (fun k => by rw [C53]; exact hb2 k), r1 52 0 s (by decide), if_neg pn, C53, dx, if_pos c2]
          have B54 : ∀ k : Nat, xup C 40 0 0 0 54 0 k = M 54 0 k := fun k => by rw [xup_k (by decide)]; exact r1 54 0 k (by decide)
          obtain ⟨D, d1, d2, -⟩ := w80 (nn := nn) (s := s) (i := ii) (z := z) (B := xup C 40 0 0 0) (by rw [xup_j (by decide), r1 40 0 30 (by decide)]; exact h.c30) h.nn24 hs hz hii (nI t) (nI (r + 1)) what 0 z 0 (xmu (0 : Int32) (nI z) + 1) (xup C 40 0 0 0) (wk11 (nI t) (nI s) (nI ii) (nI z) (nI (r + 1)) what) (by omega) fz (xfr_rf _ _) (fun p q => by omega)
          have okB : ∀ k', 0 ≤ k' → k' < z → dOK nn (fun p => xup C 40 0 0 0 54 0 (60 * s + ii + p)) k' := fun k' _ hk => by
            have e : (fun p => xup C 40 0 0 0 54 0 (60 * s + ii + p)) = fun p => M 54 0 (60 * s + ii + p) := by funext p; exact B54 _
            rw [e]; exact (dE k' hk).mpr (c3 k' hk)
          obtain ⟨⟨x, d3⟩, d4⟩ := d2 okB
          obtain ⟨D', g1, g2⟩ := r4 D (fun a b c q1 q2 q3 => by rw [d1 a b c q2, xup_at, if_neg q3]; exact r1 a b c q1) (fun k hk => by rw [d4 k hk, B54]; exact hl k hk) x
          have e0 : f_X11_way_L80 (nI t) (nI s) (nI ii) (nI z) (nI (r + 1)) what 0 (xmu (0 : Int32) (nI z) + 1) (0 : Int32) (xup C 40 0 0 0) (wk11 (nI t) (nI s) (nI ii) (nI z) (nI (r + 1)) what) = (x10, D') := d3.trans g1
          rw [e0]
          refine ⟨r1, rfl, INV_jk (INV_st h 0) (fun a b c w => ?_)⟩
          have w' := w
          unfold jk at w'
          dsimp only
          rw [g2 a b c (by omega), xup_at, xup_at (xup (xup M 0 0 16 0) 40 0 0 0)]
          by_cases e1 : a = 40 ∧ b = 0 ∧ c = 1
          · rw [if_pos e1, if_pos e1]
          · rw [if_neg e1, if_neg e1, d1 a b c (by omega), xup_at, xup_at (xup M 0 0 16 0)]
            by_cases e2 : a = 40 ∧ b = 0 ∧ c = 0
            · rw [if_pos e2, if_pos e2]
            · rw [if_neg e2, if_neg e2, xup_at]
              by_cases e3 : a = 0 ∧ b = 0 ∧ c = 16
              · obtain ⟨rfl, rfl, rfl⟩ := e3
                rw [if_pos ⟨rfl, rfl, rfl⟩]; exact r3
              · rw [if_neg e3]; exact r2 a b c w e3
        · rw [if_neg (fun q => c3 (adE.mp q))]
          dsimp only
          rw [KM M hb2, if_neg pn, dx, if_pos c2]
          obtain ⟨D, d1, -, d2⟩ := w80 (nn := nn) (s := s) (i := ii) (z := z) (B := xup M 40 0 0 0) (by rw [xup_j (by decide)]; exact h.c30) h.nn24 hs hz hii (nI t) (nI (r + 1)) what 0 z 0 (xmu (0 : Int32) (nI z) + 1) (xup M 40 0 0 0) (wk11 (nI t) (nI s) (nI ii) (nI z) (nI (r + 1)) what) (by omega) fz (xfr_rf _ _) (fun p q => by omega)
          have nB : ¬ ∀ k', 0 ≤ k' → k' < z → dOK nn (fun p => xup M 40 0 0 0 54 0 (60 * s + ii + p)) k' := fun w => c3 (fun k hk => by
            have e : (fun p => xup M 40 0 0 0 54 0 (60 * s + ii + p)) = fun p => M 54 0 (60 * s + ii + p) := by funext p; exact xup_k (by decide)
            have w2 := w k (Nat.zero_le _) hk
            rw [e] at w2
            exact (dE k hk).mp w2)
          have e0 : f_X11_way_L80 (nI t) (nI s) (nI ii) (nI z) (nI (r + 1)) what 0 (xmu (0 : Int32) (nI z) + 1) (0 : Int32) (xup M 40 0 0 0) (wk11 (nI t) (nI s) (nI ii) (nI z) (nI (r + 1)) what) = ((-1000001), D) := d2 nB
          rw [e0]
          refine ⟨R40_rf M, rfl, INV_jk h (fun a b c w => ?_)⟩
          unfold jk at w
          dsimp only
          rw [d1 a b c (by omega), xup_at, if_neg (by omega)]
      · rw [if_neg (fun z => c2 (p1.mp z)), KM _ (fun k => by dsimp only; rw [e53]; exact hb2 k), if_neg (by dsimp only; rw [e52]; exact pn), if_neg (by dsimp only; rw [e53, dx]; exact c2)]
        exact ⟨R40_up (R40_rf M) (by decide), rfl, INV_st h 2⟩
  · rw [way10b _ _ _ _ _ _ _ c]
    dsimp only
    rw [way11b _ _ _ _ _ _ _ c]
    exact ⟨R40_rf M, rfl, INV_thr h⟩
end WAY9
