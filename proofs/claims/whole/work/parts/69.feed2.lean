/-! feed agrees -/
section FEED
variable {nb nn : Nat} {M : xM}
theorem apL (w : Int64) (z : Int32) : ∀ (m l n : Nat) (N : xM) (kx : Int32 → xM → xM), N 5 0 2 = nI l → l + m ≤ 400 → m ≤ 8 → m < n → ∃ N' : xM, f_X7_append_L5 w z n (nI m + (-1)) N kx = kx (-1) N' ∧ ∀ a b c : Nat, N' a b c = if a = 19 ∧ b = 0 ∧ l ≤ c ∧ c < l + m then cby w (m - 1 - (c - l)) else if a = 5 ∧ b = 0 ∧ c = 2 then nI (l + m) else N a b c := by
  intro m
  induction m with
  | zero =>
    intro l n N kx hl h1 h8 h2
    obtain ⟨n, rfl⟩ : ∃ k, n = k + 1 := ⟨n - 1, by omega⟩
    refine ⟨N, ?_, fun a b c => ?_⟩
    · rw [f_X7_append_L5, if_pos (by decide)]
      rfl
    · rw [if_neg (by omega)]
      split
      · rename_i q; rw [q.1, q.2.1, q.2.2]; exact hl
      · rfl
  | succ m ih =>
    intro l n N kx hl h1 h8 h2
    obtain ⟨n, rfl⟩ : ∃ k, n = k + 1 := ⟨n - 1, by omega⟩
    have e5 : ∀ v, xup N 19 0 l v 5 0 2 = nI l := fun v => by rw [xup_k (by decide)]; exact hl
    obtain ⟨N', q1, q2⟩ := ih (l + 1) n (xup (xup N 19 0 l (cby w m)) 5 0 2 (nI (l + 1))) kx xup_same (by omega) (by omega) (by omega)
    refine ⟨N', ?_, fun a b c => ?_⟩
    · rw [pk_m1, f_X7_append_L5, if_neg (nI_pos (by omega)), hl, if_neg (show ¬ (400 : Int32) ≤ nI l from nI_ge (b := 400) (by omega) (by decide))]
      simp only [xlet_p, nI_clamp (show l < 2 ^ 31 by omega), pk_vb, e5, nI_1]
      exact q1
    · rw [q2]
      by_cases d1 : a = 19
      · subst d1
        by_cases d2 : b = 0 ∧ l + 1 ≤ c ∧ c < l + 1 + m
        · rw [if_pos ⟨rfl, d2⟩, if_pos ⟨rfl, d2.1, by omega, by omega⟩]
          congr 1
          omega
        · rw [if_neg (fun z => d2 z.2), if_neg (by omega), xup_k (by decide), xup_at]
          by_cases d3 : b = 0 ∧ c = l
          · rw [if_pos ⟨rfl, d3⟩, if_pos ⟨rfl, d3.1, by omega, by omega⟩]
            congr 1
            omega
          · rw [if_neg (fun z => d3 z.2), if_neg (by omega), if_neg (by omega)]
      · rw [if_neg (show ¬ (a = 19 ∧ b = 0 ∧ l + 1 ≤ c ∧ c < l + 1 + m) from fun z => d1 z.1), if_neg (show ¬ (a = 19 ∧ b = 0 ∧ l ≤ c ∧ c < l + (m + 1)) from fun z => d1 z.1)]
        by_cases d4 : a = 5 ∧ b = 0 ∧ c = 2
        · rw [if_pos d4, if_pos d4]
          congr 1
          omega
        · rw [if_neg d4, if_neg d4, xup_at, if_neg d4, xup_k d1]
theorem feL (w : Int64) (z : Int32) : ∀ (m l n : Nat) (N : xM) (kx : Int32 → xM → Int32 × xM), N 40 0 21 = nI l → l + m ≤ 400 → m ≤ 8 → m < n → ∃ N' : xM, f_X11_feed_L40 w z n (nI m + (-1)) N kx = kx (-1) N' ∧ ∀ a b c : Nat, N' a b c = if a = 70 ∧ b = 0 ∧ l ≤ c ∧ c < l + m then rby w (m - 1 - (c - l)) else if a = 40 ∧ b = 0 ∧ c = 21 then nI (l + m) else N a b c := by
  intro m
  induction m with
  | zero =>
    intro l n N kx hl h1 h8 h2
    obtain ⟨n, rfl⟩ : ∃ k, n = k + 1 := ⟨n - 1, by omega⟩
    refine ⟨N, ?_, fun a b c => ?_⟩
    · rw [f_X11_feed_L40, if_pos (by decide)]
      rfl
    · rw [if_neg (by omega)]
      split
      · rename_i q; rw [q.1, q.2.1, q.2.2]; exact hl
      · rfl
  | succ m ih =>
    intro l n N kx hl h1 h8 h2
    obtain ⟨n, rfl⟩ : ∃ k, n = k + 1 := ⟨n - 1, by omega⟩
    have e5 : ∀ v, xup N 70 0 l v 40 0 21 = nI l := fun v => by rw [xup_k (by decide)]; exact hl
    obtain ⟨N', q1, q2⟩ := ih (l + 1) n (xup (xup N 70 0 l (rby w m)) 40 0 21 (nI (l + 1))) kx xup_same (by omega) (by omega) (by omega)
    refine ⟨N', ?_, fun a b c => ?_⟩
    · rw [pk_m1, f_X11_feed_L40, if_neg (nI_pos (by omega)), hl]
      simp only [xlet_p, nI_clamp (show l < 2 ^ 31 by omega), e5, nI_1]
      exact q1
    · rw [q2]
      by_cases d1 : a = 70
      · subst d1
        by_cases d2 : b = 0 ∧ l + 1 ≤ c ∧ c < l + 1 + m
        · rw [if_pos ⟨rfl, d2⟩, if_pos ⟨rfl, d2.1, by omega, by omega⟩]
          congr 1
          omega
        · rw [if_neg (fun z => d2 z.2), if_neg (by omega), xup_k (by decide), xup_at]
          by_cases d3 : b = 0 ∧ c = l
          · rw [if_pos ⟨rfl, d3⟩, if_pos ⟨rfl, d3.1, by omega, by omega⟩]
            congr 1
            omega
          · rw [if_neg (fun z => d3 z.2), if_neg (by omega), if_neg (by omega)]
      · rw [if_neg (show ¬ (a = 70 ∧ b = 0 ∧ l + 1 ≤ c ∧ c < l + 1 + m) from fun z => d1 z.1), if_neg (show ¬ (a = 70 ∧ b = 0 ∧ l ≤ c ∧ c < l + (m + 1)) from fun z => d1 z.1)]
        by_cases d4 : a = 40 ∧ b = 0 ∧ c = 21
        · rw [if_pos d4, if_pos d4]
          congr 1
          omega
        · rw [if_neg d4, if_neg d4, xup_at, if_neg d4, xup_k d1]
theorem s_feed (h : INV nb nn M) (w : Int64) (z : Int32) : R40 M (f_X10_feed w z M).2 ∧ (f_X10_feed w z M).1 = (f_X11_feed w z (f_X10_feed w z M).2).1 ∧ INV nb nn (f_X11_feed w z (f_X10_feed w z M).2).2 := by
  obtain ⟨t1, t2, t3, t4, t5⟩ := h.ta
  obtain ⟨l, el, hl⟩ := i32b (n := 400) (by decide) t2 t3
  have hI := INV_thr (v := 0) h
  by_cases c : 1 ≤ z ∧ z ≤ 8
  · obtain ⟨m, rfl, hm⟩ := i32b (n := 8) (by decide) (Int32.le_trans (by decide) c.1) c.2
    have hm1 : 1 ≤ m := (nI_leI (a := 1) (by omega) (by omega)).mp c.1
    have K1 : f_X10_feed w (nI m) M = if l + m ≤ 400 then (f_X7_append w (nI m) M 5 0 2, f_X7_append w (nI m) M) else ((-1000003), M) := by
      unfold f_X10_feed f_X7_hasRoom
      simp only [xlet_p, xb_0, el]
      generalize f_X7_append w (nI m) M = Z
      have e : (400 : Int32) - nI l = nI (400 - l) := pk_sub (a := 400) hl
      rw [if_neg (Int32.not_lt.mpr c.1), if_pos c.2, e]
      by_cases d : l + m ≤ 400
      · rw [if_pos d, if_neg (nI_nlt (by omega) (by omega)), if_neg (by simp)]
      · rw [if_neg d, if_pos (nI_lt (by omega) (by omega)), if_pos rfl]
    have K2 : ∀ N : xM, N 40 0 21 = nI l → f_X11_feed w (nI m) N = if l + m ≤ 400 then f_X11_feed_L40 w (nI m) (xmu (-1) (nI m - 1) + 1) (nI m - 1) (xup N 40 0 0 0) (fun k_12 M_13 => ((M_13 40 0 21), M_13)) else ((-1000003), xup N 40 0 0 0) := by
      intro N hN
      have e21 : xup N 40 0 0 0 40 0 21 = nI l := by rw [xup_j (by decide)]; exact hN
      unfold f_X11_feed
      simp only [xlet_p, xb_0, in_1_8, e21, nI_add]
      rw [if_neg (by simp [c])]
      by_cases d : l + m ≤ 400
      · rw [if_pos d, if_pos (show nI (l + m) ≤ (400 : Int32) from nI_le (b := 400) d (by decide))]
      · rw [if_neg d, if_neg (show ¬ nI (l + m) ≤ (400 : Int32) from nI_ge (a := 400) (by omega) (by omega))]
    have em : nI m - 1 = nI m + (-1) := by
      obtain ⟨k, rfl⟩ : ∃ k, m = k + 1 := ⟨m - 1, by omega⟩
      rw [nI_pred, pk_m1]
    have fu : m < xmu (-1) (nI m + (-1)) + 1 := by
      obtain ⟨k, rfl⟩ : ∃ k, m = k + 1 := ⟨m - 1, by omega⟩
      rw [pk_m1]
      unfold xmu
      rw [nI_toInt (by omega), show (-1 : Int32).toInt = -1 from by decide]
      omega
    rw [K1]
    by_cases d : l + m ≤ 400
    · rw [if_pos d]
      obtain ⟨C, q1, q2⟩ := apL w (nI m) m l (xmu (-1) (nI m + (-1)) + 1) M (fun left_9 M_10 => M_10) el d hm fu
      have eC : f_X7_append w (nI m) M = C := by
        unfold f_X7_append
        simp only [xlet_p, em]
        exact q1
      rw [eC]
      dsimp only
      have rC : R40 M C := fun a b c' hq => by rw [q2, if_neg (by omega), if_neg (by omega)]
      rw [K2 C (by rw [rC 40 0 21 (by decide), t1]; exact el), if_pos d, em]
      obtain ⟨D, p1, p2⟩ := feL w (nI m) m l (xmu (-1) (nI m + (-1)) + 1) (xup C 40 0 0 0) (fun k_12 M_13 => ((M_13 40 0 21), M_13)) (by rw [xup_j (by decide), rC 40 0 21 (by decide), t1]; exact el) d hm fu
      rw [p1]
      dsimp only
      have d21 : D 40 0 21 = nI (l + m) := by rw [p2, if_neg (by omega), if_pos ⟨rfl, rfl, rfl⟩]
      have c2 : C 5 0 2 = nI (l + m) := by rw [q2, if_neg (by omega), if_pos ⟨rfl, rfl, rfl⟩]
      have d5 : D 5 0 2 = nI (l + m) := by rw [p2, if_neg (by omega), if_neg (by omega), xup_k (by decide)]; exact c2
      refine ⟨rC, by rw [c2, d21], ?_⟩
      have r : ∀ a : Nat, ¬ (a = 19 ∨ a = 5 ∨ a = 70 ∨ a = 40) → D a = M a := fun a ha => by
        funext b c'
        rw [p2, if_neg (by omega), if_neg (by omega), xup_k (by omega), q2, if_neg (by omega), if_neg (by omega)]
      have c40 : ∀ c' : Nat, c' ≠ 0 → c' ≠ 21 → D 40 0 c' = M 40 0 c' := fun c' h1 h2 => by
        rw [p2, if_neg (by omega), if_neg (by omega), xup_j h1, rC 40 0 c' (by decide)]
      obtain ⟨g1, g2, g3, g4, g5, g6, g7, g8, g9, g10, g11⟩ := h
      refine ⟨?_, ?_, ?_, ?_, ?_, ?_, ?_, ?_, ?_, ?_, ?_⟩
      · rw [r 0 (by decide), r 1 (by decide), r 3 (by decide), r 7 (by decide), r 8 (by decide)]; exact g1
      · rw [r 0 (by decide), c40 1 (by decide) (by decide), c40 13 (by decide) (by decide), c40 22 (by decide) (by decide)]; exact g2
      · rw [r 24 (by decide), r 25 (by decide), r 52 (by decide), r 53 (by decide), r 54 (by decide)]; exact g3
      · rw [r 13 (by decide), r 14 (by decide), r 55 (by decide)]; exact g4
      · rw [r 27 (by decide), r 28 (by decide), r 58 (by decide), r 59 (by decide), r 60 (by decide), r 61 (by decide), r 62 (by decide), c40 7 (by decide) (by decide)]; exact g5
      · rw [r 15 (by decide), r 16 (by decide), r 17 (by decide), r 18 (by decide), r 65 (by decide), r 66 (by decide), r 67 (by decide), r 68 (by decide), r 4 (by decide), c40 14 (by decide) (by decide)]; exact g6
      · rw [d21, d5]
        refine ⟨rfl, nI_pos' (by omega), nI_le (b := 400) d (by decide), fun j => ?_, fun k hk => ?_⟩
        · rw [p2]
          by_cases e : 70 = 70 ∧ 0 = 0 ∧ l ≤ j ∧ j < l + m
          · rw [if_pos e]
            obtain ⟨u1, u2, u3⟩ := by_ub w (k := m - 1 - (j - l)) (by omega)
            rw [u1]
            unfold ub
            split <;> grind
          · rw [if_neg e, if_neg (by omega), xup_k (by decide), rC 70 0 j (by decide)]
            exact t4 j
        · rw [nI_clamp (by omega)] at hk
          have e19 : D 19 0 k = C 19 0 k := by rw [p2, if_neg (by omega), if_neg (by omega), xup_k (by decide)]
          rw [e19, p2, q2]
          by_cases e : l ≤ k
          · rw [if_pos ⟨rfl, rfl, e, hk⟩, if_pos ⟨rfl, rfl, e, hk⟩]
            exact by_ub w (by omega)
          · rw [if_neg (by omega), if_neg (by omega), if_neg (by omega), if_neg (by omega), xup_k (by decide), rC 70 0 k (by decide)]
            exact t5 k (by rw [el, nI_clamp (by omega)]; omega)
      · rw [r 29 (by decide), r 30 (by decide), r 31 (by decide), r 81 (by decide), r 82 (by decide), r 83 (by decide), r 84 (by decide), r 85 (by decide), r 86 (by decide), r 87 (by decide), r 88 (by decide), r 89 (by decide), r 90 (by decide), r 91 (by decide), r 92 (by decide), r 93 (by decide), c40 30 (by decide) (by decide)]; exact g8
      · rw [r 26 (by decide), r 94 (by decide), r 95 (by decide)]; exact g9
      · rw [r 10 (by decide), r 96 (by decide)]; exact g10
      · rw [r 23 (by decide), r 99 (by decide), r 12 (by decide), c40 50 (by decide) (by decide)]; exact g11
    · rw [if_neg d]
      dsimp only
      rw [K2 M (by rw [t1]; exact el), if_neg d]
      exact ⟨R40_rf M, rfl, hI⟩
  · have K1 : f_X10_feed w z M = ((-1000001), M) := by
      unfold f_X10_feed
      by_cases c1 : z < 1
      · rw [if_pos c1]
      · rw [if_neg c1, if_neg (fun q => c ⟨Int32.not_lt.mp c1, q⟩)]
    have K2 : f_X11_feed w z M = ((-1000001), xup M 40 0 0 0) := by
      unfold f_X11_feed
      simp only [xlet_p, xb_0, in_1_8]
      rw [if_pos (by simp only [c, decide_false])]
    rw [K1]
    dsimp only
    rw [K2]
    exact ⟨R40_rf M, rfl, hI⟩
end FEED
