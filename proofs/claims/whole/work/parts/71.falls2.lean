/-! falls, on the reference's side -/
section FALLS2
variable {nb nn : Nat} {M N : xM}
theorem or_add {i v : Nat} (hi : i < 8) (hv : v < 2 ^ i) : v ||| 2 ^ i = v + 2 ^ i := by
  have key : ∀ i : Fin 8, ∀ v : Fin 256, v.val < 2 ^ i.val → v.val ||| 2 ^ i.val = v.val + 2 ^ i.val := by decide +kernel
  have h8 : 2 ^ i ≤ 2 ^ 8 := Nat.pow_le_pow_right (by decide) (by omega)
  exact key ⟨i, hi⟩ ⟨v, by omega⟩ hv
theorem fa92 (what rounds more now : Int32) {v a : Nat} (ha : a < 8) (h8 : nb ≤ 8) (hN : N 40 0 7 = nI nb) : ∀ (m b n : Nat) (has : Int32) (kx : Int32 → Int32 → Int32 × xM), b + m = nb → m < n → f_X11_falls_L92 what (nI v) rounds more now (nI a) N n has (nI b) kx = kx (hsum (fun j => N 62 0 (8 * a + j)) (fun j => decide (¬ j = a) && bp v j) m b has) (nI nb) := by
  intro m
  induction m with
  | zero =>
    intro b n has kx h1 h2
    obtain ⟨n, rfl⟩ : ∃ k, n = k + 1 := ⟨n - 1, by omega⟩
    obtain rfl : b = nb := by omega
    rw [f_X11_falls_L92, hN, if_pos (nI_le (Nat.le_refl _) (by omega))]
    rfl
  | succ m ih =>
    intro b n has kx h1 h2
    obtain ⟨n, rfl⟩ : ∃ k, n = k + 1 := ⟨n - 1, by omega⟩
    have h0 : has + 0 = has := by simp
    rw [f_X11_falls_L92, hN, if_neg (nI_ge (by omega) (by omega)), hsum]
    simp only [xlet_p, nI_1, h0, nI_eq (show b < 2 ^ 31 by omega) (show a < 2 ^ 31 by omega), i8 ha (show b < 8 by omega)]
    by_cases c1 : b = a
    · rw [if_pos c1, if_neg (by simp [c1])]
      exact ih (b + 1) n has kx (by omega) (by omega)
    · rw [if_neg c1]
      by_cases c : (nI v >>> (nI b &&& 31)) &&& 1 = 0
      · rw [if_pos c, if_pos (by rw [show bp v b = true from decide_eq_true c]; simp [c1])]
        exact ih (b + 1) n _ kx (by omega) (by omega)
      · rw [if_neg c, if_neg (by rw [show bp v b = false from decide_eq_false c]; simp)]
        exact ih (b + 1) n has kx (by omega) (by omega)
theorem nd_eq (h : INV nb nn M) {v a : Nat} (ha : a < nb) : hsum (fun j => M 62 0 (8 * a + j)) (fun j => decide (¬ j = a) && bp v j) nb 0 (M 59 0 a) = hsum (M 28 a) (bp v) 8 0 (M 27 a 2) := by
  have h8 := h.nb8
  have q := h.ba.2.2.2.1 a ha
  rw [q.2.2.1]
  have e8 : hsum (M 28 a) (bp v) 8 0 (M 27 a 2) = hsum (M 28 a) (bp v) (nb + (8 - nb)) 0 (M 27 a 2) := by
    rw [show nb + (8 - nb) = 8 by omega]
  rw [e8, hsum_a nb (8 - nb) 0 (M 27 a 2)]
  rw [hsum_z (8 - nb) (0 + nb) _ (fun k h1 h2 _ => q.2.2.2.2.2.2.2.2 k (by omega) (by omega))]
  refine hsum_c nb 0 (M 27 a 2) (fun k h1 h2 x => ?_)
  by_cases c : k = a
  · subst c
    rw [q.2.2.2.2.2.2.1]
    simp
  · rw [show (decide (¬ k = a) && bp v k) = bp v k by simp [c]]
    have := q.2.2.2.2.2.2.2.1 k (by omega) c
    rw [this]
theorem fa71 (what rounds more : Int32) {v : Nat} (hv : v < 256) (h8 : nb ≤ 8) (hN : N 40 0 7 = nI nb) (p : Nat → Bool) (hp : ∀ a : Nat, a < nb → p a = decide (¬ N 62 0 (9 * a) ≤ hsum (fun j => N 62 0 (8 * a + j)) (fun j => decide (¬ j = a) && bp v j) nb 0 (N 59 0 a))) : ∀ (m i n acc : Nat) (kx : Int32 → Int32 → Int32 × xM), i + m = nb → m < n → acc < 2 ^ i → f_X11_falls_L71 what (nI v) rounds more N n (nI (v ||| acc)) (nI i) kx = kx (nI (v ||| msk p m i acc)) (nI nb) := by
  intro m
  induction m with
  | zero =>
    intro i n acc kx h1 h2 h3
    obtain ⟨n, rfl⟩ : ∃ k, n = k + 1 := ⟨n - 1, by omega⟩
    obtain rfl : i = nb := by omega
    rw [f_X11_falls_L71, hN, if_pos (nI_le (Nat.le_refl _) (by omega)), msk]
  | succ m ih =>
    intro i n acc kx h1 h2 h3
    obtain ⟨n, rfl⟩ : ∃ k, n = k + 1 := ⟨n - 1, by omega⟩
    have e2 : 2 ^ (i + 1) = 2 ^ i + 2 ^ i := by rw [Nat.pow_succ]; omega
    have pi := hp i (by omega)
    rw [f_X11_falls_L71, hN, if_neg (nI_ge (by omega) (by omega)), msk]
    simp only [xlet_p, nI_clamp (show i < 2 ^ 31 by omega), nI_1, shl_n (show i < 8 by omega), nI_m 9 i 9 rfl, nI_clamp (show 9 * i < 2 ^ 31 by omega)]
    have L := fa92 what rounds more (nI (v ||| acc)) (v := v) (show i < 8 by omega) h8 hN nb 0 (xmu (0 : Int32) (nI nb) + 1) (N 59 0 i) (fun has_12 b_13 => if N 62 0 (9 * i) ≤ has_12 then f_X11_falls_L71 what (nI v) rounds more N n (nI (v ||| acc) ||| 0) (nI (i + 1)) kx else f_X11_falls_L71 what (nI v) rounds more N n (nI (v ||| acc) ||| nI (2 ^ i)) (nI (i + 1)) kx) (by omega) (by unfold xmu; rw [nI_toInt (by omega)]; simp)
    rw [show nI 0 = (0 : Int32) from rfl] at L
    rw [L]
    by_cases c : N 62 0 (9 * i) ≤ hsum (fun j => N 62 0 (8 * i + j)) (fun j => decide (¬ j = i) && bp v j) nb 0 (N 59 0 i)
    · have pf : p i = false := by rw [pi]; exact decide_eq_false (fun q => q c)
      rw [if_pos c, pf, if_neg (show ¬ (false = true) by decide)]
      have z : nI (v ||| acc) ||| 0 = nI (v ||| acc) := by rw [show (0 : Int32) = nI 0 from rfl, fa_or]; simp
      rw [z]
      exact ih (i + 1) n acc kx (by omega) (by omega) (by omega)
    · have pt : p i = true := by rw [pi]; exact decide_eq_true c
      rw [if_neg c, pt, if_pos (show true = true from rfl)]
      have z : nI (v ||| acc) ||| nI (2 ^ i) = nI (v ||| (acc + 2 ^ i)) := by rw [fa_or, Nat.or_assoc, or_add (by omega) h3]
      rw [z]
      exact ih (i + 1) n _ kx (by omega) (by omega) (by omega)
theorem fa60 (h : INV nb nn M) (what : Int32) (e : ∀ a b c : Nat, (a = 62 ∨ a = 59 ∨ a = 61 ∨ (a = 40 ∧ c = 7)) → N a b c = M a b c) (kx : Int32 → Int32 → Int32 × xM) : ∀ (j n v r : Nat), 8 ≤ pop v + j → 257 - v < n → v < 256 → f_X11_falls_L60 what N n (nI v) (nI r) 1 (fun a b _ => kx a b) = kx (nI (fx M nb j v r).1) (nI (fx M nb j v r).2) := by
  have h8 := h.nb8
  have hN : N 40 0 7 = nI nb := by rw [e 40 0 7 (by omega)]; exact h.c7
  have r71 : ∀ (n v : Nat) (rounds : Int32) (kx : Int32 → Int32 → Int32 × xM), v < 256 → f_X11_falls_L71 what (nI v) rounds 1 N (xmu (0 : Int32) (N 40 0 7) + 1) (nI v) (0 : Int32) kx = kx (nI (rnd M nb v)) (nI nb) := by
    intro n v rounds kx hv
    have L := fa71 what rounds 1 hv h8 hN (ndp M v) (fun a ha => by
      have q := h.ba.2.2.2.1 a ha
      unfold ndp
      have e62 : ∀ k, N 62 0 k = M 62 0 k := fun k => e 62 0 k (by omega)
      simp only [e62, e 59 0 a (by omega)]
      rw [nd_eq h ha, q.2.2.2.1]) nb 0 (xmu (0 : Int32) (N 40 0 7) + 1) 0 kx (by omega) (by rw [hN]; unfold xmu; rw [nI_toInt (by omega)]; simp) (by decide)
    rw [show nI 0 = (0 : Int32) from rfl, Nat.or_zero] at L
    exact L
  have stop : ∀ (n v r : Nat), 2 ≤ n → v < 256 → rnd M nb v = v → f_X11_falls_L60 what N n (nI v) (nI r) 1 (fun a b _ => kx a b) = kx (nI v) (nI r) := by
    intro n v r hn hv hr
    obtain ⟨n, rfl⟩ : ∃ k, n = k + 2 := ⟨n - 2, by omega⟩
    have z : nI r + 0 = nI r := by simp
    rw [f_X11_falls_L60, if_neg (by decide), r71 n v _ _ hv, hr, if_pos rfl]
    simp only [xlet_p, z]
    rw [f_X11_falls_L60, if_pos rfl]
  intro j
  induction j with
  | zero =>
    intro n v r h1 h2 hv
    rw [fx]
    refine stop n v r (by omega) hv ?_
    by_cases c : rnd M nb v = v
    · exact c
    · have := pop_lt (M := M) h8 hv c
      have := pop8 (rnd M nb v)
      omega
  | succ j ih =>
    intro n v r h1 h2 hv
    rw [fx]
    by_cases c : rnd M nb v = v
    · rw [if_pos c]
      exact stop n v r (by omega) hv c
    · rw [if_neg c]
      obtain ⟨n, rfl⟩ : ∃ k, n = k + 1 := ⟨n - 1, by omega⟩
      have hw := rnd256 (M := M) h8 hv
      have hg := rnd_ge (M := M) (nb := nb) v
      have hpl := pop_lt (M := M) h8 hv c
      rw [f_X11_falls_L60, if_neg (by decide), r71 n v _ _ hv, if_neg (fun q => c ((nI_eq (by omega) (by omega)).mp q))]
      simp only [xlet_p, nI_1]
      exact ih n _ _ (by omega) (by omega) hw
theorem fa22 (what : Int32) (p : Nat → Bool) (h8 : nb ≤ 8) (hN : N 40 0 7 = nI nb) (hp : ∀ k : Nat, k < nb → p k = decide (¬ N 61 0 k = 0)) : ∀ (m i n acc : Nat) (kx : Int32 → Int32 → Int32 × xM), i + m = nb → m < n → acc < 2 ^ i → f_X11_falls_L22 what N n (nI acc) (nI i) kx = kx (nI (msk p m i acc)) (nI nb) := by
  intro m
  induction m with
  | zero =>
    intro i n acc kx h1 h2 h3
    obtain ⟨n, rfl⟩ : ∃ k, n = k + 1 := ⟨n - 1, by omega⟩
    obtain rfl : i = nb := by omega
    rw [f_X11_falls_L22, hN, if_pos (nI_le (Nat.le_refl _) (by omega)), msk]
  | succ m ih =>
    intro i n acc kx h1 h2 h3
    obtain ⟨n, rfl⟩ : ∃ k, n = k + 1 := ⟨n - 1, by omega⟩
    have e2 : 2 ^ (i + 1) = 2 ^ i + 2 ^ i := by rw [Nat.pow_succ]; omega
    have pi := hp i (by omega)
    have z : nI acc ||| 0 = nI acc := by rw [show (0 : Int32) = nI 0 from rfl, fa_or]; simp
    rw [f_X11_falls_L22, hN, if_neg (nI_ge (by omega) (by omega)), msk]
    simp only [xlet_p, nI_clamp (show i < 2 ^ 31 by omega), nI_1, shl_n (show i < 8 by omega), or_n (show i < 8 by omega) h3, z]
    by_cases c : N 61 0 i = 0
    · have pf : p i = false := by rw [pi]; simp [c]
      rw [if_pos c, pf, if_neg (show ¬ (false = true) by decide)]
      exact ih (i + 1) n acc kx (by omega) (by omega) (by omega)
    · have pt : p i = true := by rw [pi]; simp [c]
      rw [if_neg c, pt, if_pos (show true = true from rfl)]
      exact ih (i + 1) n _ kx (by omega) (by omega) (by omega)
theorem s_falls (h : INV nb nn M) (what : Int32) : f_X10_falls what M = (f_X11_falls what M).1 ∧ INV nb nn (f_X11_falls what M).2 := by
  have hI := INV_thr (v := 0) h
  have h8 := h.nb8
  unfold f_X10_falls f_X11_falls
  simp only [xlet_p, isUpTo_eq, in_0_1, xb_0]
  by_cases c : 0 ≤ what ∧ what ≤ 1
  · rw [if_neg (by simp [c]), if_neg (by simp [c])]
    have e7 : xup M 40 0 0 0 40 0 7 = nI nb := by rw [xup_j (by decide)]; exact h.c7
    have hm := msk256 (nb := nb) (shp M) h8
    rw [sb_eq h.hb]
    have L1 := faL21 h.hb what (fun fallen_10 rounds_11 => if what = 0 then fallen_10 else rounds_11) 8 0 (xmu (0 : Int32) 8 + 1) (msk (shp M) nb 0 0) 0 (by omega) (by decide) hm
    rw [show nI 0 = (0 : Int32) from rfl] at L1
    have L2 := fa22 (N := xup M 40 0 0 0) what (shp M) h8 e7 (fun k hk => by
      have q := h.ba.2.2.2.1 k hk
      rw [xup_k (by decide), q.2.2.2.2.1]; rfl) nb 0 (xmu (0 : Int32) (xup M 40 0 0 0 40 0 7) + 1) 0 (fun fallen_36 b_37 => f_X11_falls_L60 what (xup M 40 0 0 0) ((if (1 : Int32) = 0 then 0 else 1 + xmu fallen_36 256) + 1) fallen_36 (0 : Int32) (1 : Int32) (fun fallen_38 rounds_39 more_40 => if what = 0 then (fallen_38, xup M 40 0 0 0) else (rounds_39, xup M 40 0 0 0))) (by omega) (by rw [e7]; unfold xmu; rw [nI_toInt (by omega)]; simp) (by decide)
    rw [show nI 0 = (0 : Int32) from rfl] at L2
    have L3 := fa60 (N := xup M 40 0 0 0) h what (fun a b c z => by rw [xup_at, if_neg (by omega)]) (fun fallen_38 rounds_39 => if what = 0 then (fallen_38, xup M 40 0 0 0) else (rounds_39, xup M 40 0 0 0)) 8 ((if (1 : Int32) = 0 then 0 else 1 + xmu (nI (msk (shp M) nb 0 0)) 256) + 1) (msk (shp M) nb 0 0) 0 (by omega) (by
      rw [if_neg (by decide)]
      unfold xmu
      rw [nI_toInt (by omega), show (256 : Int32).toInt = 256 from by decide]
      omega) hm
    rw [show nI 0 = (0 : Int32) from rfl] at L3
    rw [L1, L2, L3]
    by_cases w : what = 0
    · simp only [if_pos w]; exact ⟨trivial, hI⟩
    · simp only [if_neg w]; exact ⟨trivial, hI⟩
  · rw [if_pos (by simp only [c, decide_false]), if_pos (by simp only [c, decide_false])]
    exact ⟨rfl, hI⟩
end FALLS2
