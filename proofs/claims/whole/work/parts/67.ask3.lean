/-! ask agrees -/
theorem INV_tc {nb nn : Nat} {M N : xM} (h : INV nb nn M) (hq : ∀ a b c : Nat, ¬ jk a b c → ¬ (a = 23 ∨ a = 99 ∨ a = 12 ∨ (a = 40 ∧ b = 0 ∧ c = 50)) → N a b c = M a b c) (htc : gTc (N 23 0) (N 99 0) (N 12 0 1) (N 40 0 50)) : INV nb nn N := by
  have r : ∀ a : Nat, ¬ (a = 6 ∨ a = 9 ∨ a = 11 ∨ a = 20 ∨ a = 21 ∨ a = 22 ∨ a = 56 ∨ a = 97 ∨ a = 98 ∨ a = 5 ∨ a = 40 ∨ a = 23 ∨ a = 99 ∨ a = 12) → N a = M a := by
    intro a ha
    funext b c
    refine hq a b c (fun q => ha ?_) (fun q => ha ?_)
    · unfold jk at q; omega
    · omega
  have c0 : ∀ b c : Nat, N 0 b c = M 0 b c := fun b c => hq 0 b c (by unfold jk; omega) (by omega)
  have c40 : ∀ c : Nat, ¬ (c = 0 ∨ c = 19 ∨ 23 ≤ c ∧ c ≤ 29 ∨ c = 50) → N 40 0 c = M 40 0 c := fun c hc => hq 40 0 c (by unfold jk; omega) (by omega)
  have c5 : N 5 0 2 = M 5 0 2 := hq 5 0 2 (by unfold jk; omega) (by omega)
  obtain ⟨g1, g2, g3, g4, g5, g6, g7, g8, g9, g10, g11⟩ := h
  refine ⟨?_, ?_, ?_, ?_, ?_, ?_, ?_, ?_, ?_, ?_, htc⟩
  · rw [c0, c0, r 1 (by decide), r 3 (by decide), r 7 (by decide), r 8 (by decide)]; exact g1
  · rw [c0, c0, c0, c40 1 (by omega), c40 13 (by omega), c40 22 (by omega)]; exact g2
  · rw [r 24 (by decide), r 25 (by decide), r 52 (by decide), r 53 (by decide), r 54 (by decide)]; exact g3
  · rw [r 13 (by decide), r 14 (by decide), r 55 (by decide)]; exact g4
  · rw [r 27 (by decide), r 28 (by decide), r 58 (by decide), r 59 (by decide), r 60 (by decide), r 61 (by decide), r 62 (by decide), c40 7 (by omega)]; exact g5
  · rw [r 15 (by decide), r 16 (by decide), r 17 (by decide), r 18 (by decide), r 65 (by decide), r 66 (by decide), r 67 (by decide), r 68 (by decide), r 4 (by decide), c40 14 (by omega)]; exact g6
  · rw [r 19 (by decide), r 70 (by decide), c5, c40 21 (by omega)]; exact g7
  · rw [r 29 (by decide), r 30 (by decide), r 31 (by decide), r 81 (by decide), r 82 (by decide), r 83 (by decide), r 84 (by decide), r 85 (by decide), r 86 (by decide), r 87 (by decide), r 88 (by decide), r 89 (by decide), r 90 (by decide), r 91 (by decide), r 92 (by decide), r 93 (by decide), c40 30 (by omega)]; exact g8
  · rw [r 26 (by decide), r 94 (by decide), r 95 (by decide)]; exact g9
  · rw [r 10 (by decide), r 96 (by decide)]; exact g10
theorem bits_c (s : Int32) (M N : xM) : ∀ (n : Nat) (a k : Int32) (kx : Int32 → Int32 → Int32), f_X11_bits_L4 s M n a k kx = f_X11_bits_L4 s N n a k kx := by
  intro n
  induction n with
  | zero => intro a k kx; rfl
  | succ n ih =>
    intro a k kx
    rw [f_X11_bits_L4, f_X11_bits_L4]
    simp only [xlet_p, ih]
theorem bits_eq (M : xM) {v : Nat} (hv : v < 256) : f_X11_bits (nI v) M = nI (pop v) := by
  have key : ∀ v : Fin 256, f_X11_bits (nI v) (fun _ _ _ => 0) = nI (pop v) := by decide +kernel
  have e : f_X11_bits (nI v) M = f_X11_bits (nI v) (fun _ _ _ => 0) := by
    unfold f_X11_bits
    exact bits_c _ _ _ _ _ _ _
  rw [e]
  exact key ⟨v, hv⟩
theorem kindOf_c {q : Int32} {M N : xM} (e : ∀ a b c : Nat, a = 81 ∨ a = 83 ∨ a = 84 ∨ a = 87 ∨ a = 89 ∨ a = 60 ∨ (a = 40 ∧ b = 0 ∧ c = 7) → N a b c = M a b c) : f_X11_kindOf q N = f_X11_kindOf q M := by
  unfold f_X11_kindOf f_X11_isFalse f_X11_isGhost
  simp only [xlet_p, fun b c => e 81 b c (by omega), fun b c => e 83 b c (by omega), fun b c => e 84 b c (by omega), fun b c => e 87 b c (by omega), fun b c => e 89 b c (by omega), fun b c => e 60 b c (by omega), e 40 0 7 (by omega)]
section ASK3
variable {nb nn : Nat} {M : xM}
theorem INV_ask (h : INV nb nn M) (l : List Int32) (hl : l.length ≤ 16) : INV nb nn (rlv l 0 (xup (xup (clv l 0 (xup M 12 0 1 0)) 40 0 0 0) 40 0 50 0)) := by
  have q0 : xup M 12 0 1 0 12 0 1 = nI 0 := xup_same
  obtain ⟨a1, a2⟩ := clv_n l 0 (xup M 12 0 1 0) q0
  have q1 : xup (xup (clv l 0 (xup M 12 0 1 0)) 40 0 0 0) 40 0 50 0 40 0 50 = nI 0 := xup_same
  obtain ⟨b1, b2⟩ := rlv_n l 0 _ q1
  refine INV_tc h (fun a b c h1 h2 => ?_) ?_
  · rw [rlv_o _ _ _ _ _ _ (fun z => h2 (by omega)) (fun z => h2 (by omega)), xup_at, if_neg (fun z => h2 (by omega)), xup_at, if_neg (fun z => h1 (by unfold jk; omega)), clv_o _ _ _ _ _ _ (fun z => h2 (by omega)) (fun z => h2 (by omega)), xup_at, if_neg (fun z => h2 (by omega))]
  · have e12 : rlv l 0 (xup (xup (clv l 0 (xup M 12 0 1 0)) 40 0 0 0) 40 0 50 0) 12 0 1 = nI l.length := by
      rw [rlv_o _ _ _ _ _ _ (by decide) (by omega), xup_k (by decide), xup_k (by decide), a1, Nat.zero_add]
    have e23 : ∀ c, rlv l 0 (xup (xup (clv l 0 (xup M 12 0 1 0)) 40 0 0 0) 40 0 50 0) 23 0 c = if 0 ≤ c ∧ c < 0 + l.length then l.getD (c - 0) 0 else xup M 12 0 1 0 23 0 c := fun c => by
      rw [rlv_o _ _ _ _ _ _ (by decide) (by omega), xup_k (by decide), xup_k (by decide), a2]
    rw [e12, b1, Nat.zero_add]
    refine ⟨rfl, nI_pos' (by omega), nI_le (b := 16) hl (by decide), fun k hk => ?_⟩
    rw [nI_clamp (by omega)] at hk
    rw [e23, b2, if_pos (by omega), if_pos (by omega)]
theorem s_ask (h : INV nb nn M) (q what : Int32) : R40 M (f_X10_ask q what M).2 ∧ (f_X10_ask q what M).1 = (f_X11_ask q what (f_X10_ask q what M).2).1 ∧ INV nb nn (f_X11_ask q what (f_X10_ask q what M).2).2 := by
  by_cases c : (0 ≤ q ∧ q < nI nn) ∧ (0 ≤ what ∧ what ≤ 1)
  · obtain ⟨k, rfl, hk, hkc⟩ := ix_n (by have := h.nn24; omega) c.1
    have hn := h.n1 hk
    have h24 := h.nn24
    have kb := kindOf_b (nt := k) (M := M)
    have hw : what = 0 ∨ what = 1 := by have := c.2; grind
    have e12 : xup M 12 0 1 0 12 0 1 = 0 := xup_same
    have e29 : ∀ j : Nat, xup M 12 0 1 0 29 k j = M 29 k j := fun j => xup_k (by decide)
    have hw4 : 0 ≤ xup M 12 0 1 0 29 k 4 ∧ xup M 12 0 1 0 29 k 4 ≤ 255 := by rw [e29]; exact ⟨hn.w0, hn.w255⟩
    have K1 : f_X10_ask (nI k) what M = if what = 0 then f_X10_giveBody 17 (([10, 11, 12, 13, 14, 10] : List Int32).getD (f_X10_kindOf k M).toNatClampNeg 0) k (f_X10_kindOf k M) 0 (xup M 12 0 1 0) else f_X10_giveBody 17 (([20, 20, 21, 22, 20, 23] : List Int32).getD (f_X10_kindOf k M).toNatClampNeg 0) k (f_X10_kindOf k M) 0 (xup M 12 0 1 0) := by
      unfold f_X10_ask f_X8_empty
      simp only [xlet_p, xlet2_p, noteOf_eq h.hn, if_pos c.1, xopt_ps, hkc, isUpTo_eq, xb_0]
      rw [if_neg (by simp [c.2])]
    have K2 : ∀ l : List Int32, f_X11_ask (nI k) what (clv l 0 (xup M 12 0 1 0)) = if what = 0 then f_X11_sizeOf (nI k) (f_X10_kindOf k M) (rlv [] 0 (xup (xup (clv l 0 (xup M 12 0 1 0)) 40 0 0 0) 40 0 50 0)) else f_X11_markOf (nI k) (f_X10_kindOf k M) (rlv [] 0 (xup (xup (clv l 0 (xup M 12 0 1 0)) 40 0 0 0) 40 0 50 0)) := by
      intro l
      have oo : ∀ a b c : Nat, ¬ a = 23 → ¬ (a = 12 ∧ b = 0 ∧ c = 1) → clv l 0 (xup M 12 0 1 0) a b c = M a b c := fun a b c h1 h2 => by
        rw [clv_o _ _ _ _ _ _ h1 h2, xup_at, if_neg h2]
      have e30 : xup (clv l 0 (xup M 12 0 1 0)) 40 0 0 0 40 0 30 = nI nn := by rw [xup_j (by decide), oo _ _ _ (by decide) (by omega)]; exact h.c30
      have ek : f_X11_kindOf (nI k) (xup (xup (clv l 0 (xup M 12 0 1 0)) 40 0 0 0) 40 0 50 0) = f_X10_kindOf k M := by
        rw [← kind_ok h (jkE_rf M) hk]
        refine kindOf_c (fun a b c z => ?_)
        rw [xup_at, if_neg (by omega), xup_at, if_neg (by omega), oo _ _ _ (by omega) (by omega)]
      unfold f_X11_ask
      simp only [xlet_p, xlet2_p, isNote_n e30 h24, in_0_1, xb_0, ek]
      rw [if_neg (by simp [c.1]), if_neg (by simp [c.2])]
      rfl
    have r40 : ∀ l : List Int32, R40 M (clv l 0 (xup M 12 0 1 0)) := fun l a b c z => by
      rw [clv_o _ _ _ _ _ _ (by omega) (by omega), xup_k (by omega)]
    have z50 : ∀ l : List Int32, xup (xup (clv l 0 (xup M 12 0 1 0)) 40 0 0 0) 40 0 50 0 40 0 50 = 0 := fun l => xup_same
    have n81 : ∀ l : List Int32, xup (xup (clv l 0 (xup M 12 0 1 0)) 40 0 0 0) 40 0 50 0 81 0 k = M 29 k 1 := fun l => by rw [xup_k (by decide), xup_k (by decide), clv_o _ _ _ _ _ _ (by decide) (by omega), xup_k (by decide)]; exact hn.b81
    have n82 : ∀ l : List Int32, xup (xup (clv l 0 (xup M 12 0 1 0)) 40 0 0 0) 40 0 50 0 82 0 k = M 29 k 2 := fun l => by rw [xup_k (by decide), xup_k (by decide), clv_o _ _ _ _ _ _ (by decide) (by omega), xup_k (by decide)]; exact hn.b82
    have n84 : ∀ l : List Int32, xup (xup (clv l 0 (xup M 12 0 1 0)) 40 0 0 0) 40 0 50 0 84 0 k = M 29 k 4 := fun l => by rw [xup_k (by decide), xup_k (by decide), clv_o _ _ _ _ _ _ (by decide) (by omega), xup_k (by decide)]; exact hn.b84
    have k24 : k < 24 := by omega
    obtain ⟨kk, ekd, hkk⟩ := i32b (n := 5) (by decide) kb.1 kb.2
    rw [K1, ekd]
    simp only [ekd] at K2
    have cs : kk = 0 ∨ kk = 1 ∨ kk = 2 ∨ kk = 3 ∨ kk = 4 ∨ kk = 5 := by omega
    have i0 := hn.i0
    rcases hw with w | w <;> subst w
    · rw [if_pos rfl]
      rcases cs with e | e | e | e | e | e <;> subst e
      · rw [show ([10, 11, 12, 13, 14, 10] : List Int32).getD (nI 0).toNatClampNeg 0 = 10 from rfl, show nI 0 = (0 : Int32) from rfl, gb_0_0 k e12 hw4]
        dsimp only
        rw [show (gv 0 0 k (xup M 12 0 1 0)).2 = [10] from rfl, K2, if_pos rfl, show nI 0 = (0 : Int32) from rfl, sz_0 k24 (z50 _)]
        refine ⟨r40 _, ?_, INV_ask h [10] (by decide)⟩
        show xup M 12 0 1 0 29 k 2 = _
        simp only [e29, i0, n81, n82]
      · rw [show ([10, 11, 12, 13, 14, 10] : List Int32).getD (nI 1).toNatClampNeg 0 = 11 from rfl, show nI 1 = (1 : Int32) from rfl, gb_0_1 k e12 hw4]
        dsimp only
        rw [show (gv 0 1 k (xup M 12 0 1 0)).2 = [11, 10] from rfl, K2, if_pos rfl, show nI 1 = (1 : Int32) from rfl, sz_1 k24 (z50 _)]
        refine ⟨r40 _, ?_, INV_ask h [11, 10] (by decide)⟩
        show xup M 12 0 1 0 29 k 2 - nI (pop (xup M 12 0 1 0 29 k 4).toNatClampNeg) = _
        obtain ⟨ww, ew, hww⟩ := i32b (n := 255) (by decide) hn.w0 hn.w255
        rw [e29, e29, n82, n84, ew, nI_clamp (by omega), bits_eq _ (by omega)]
      · rw [show ([10, 11, 12, 13, 14, 10] : List Int32).getD (nI 2).toNatClampNeg 0 = 12 from rfl, show nI 2 = (2 : Int32) from rfl, gb_0_2 k e12 hw4]
        dsimp only
        rw [show (gv 0 2 k (xup M 12 0 1 0)).2 = [12, 21, 20] from rfl, K2, if_pos rfl, show nI 2 = (2 : Int32) from rfl, sz_2 k24 (z50 _)]
        refine ⟨r40 _, ?_, INV_ask h [12, 21, 20] (by decide)⟩
        show 0 - (xup M 12 0 1 0 29 k 0 + 100) = _
        simp only [e29, i0, n81, n82]
        simp
      · rw [show ([10, 11, 12, 13, 14, 10] : List Int32).getD (nI 3).toNatClampNeg 0 = 13 from rfl, show nI 3 = (3 : Int32) from rfl, gb_0_3 k e12 hw4]
        dsimp only
        rw [show (gv 0 3 k (xup M 12 0 1 0)).2 = [13, 12, 22, 21, 20] from rfl, K2, if_pos rfl, show nI 3 = (3 : Int32) from rfl, sz_3 k24 (z50 _)]
        refine ⟨r40 _, ?_, INV_ask h [13, 12, 22, 21, 20] (by decide)⟩
        show 2 * (0 - (xup M 12 0 1 0 29 k 0 + 100 + xup M 12 0 1 0 29 k 1)) = _
        simp only [e29, i0, n81, n82]
        simp
      · rw [show ([10, 11, 12, 13, 14, 10] : List Int32).getD (nI 4).toNatClampNeg 0 = 14 from rfl, show nI 4 = (4 : Int32) from rfl, gb_0_4 k e12 hw4]
        dsimp only
        rw [show (gv 0 4 k (xup M 12 0 1 0)).2 = [14, 10] from rfl, K2, if_pos rfl, show nI 4 = (4 : Int32) from rfl, sz_4 k24 (z50 _)]
        refine ⟨r40 _, ?_, INV_ask h [14, 10] (by decide)⟩
        show xup M 12 0 1 0 29 k 2 / 2 = _
        simp only [e29, i0, n81, n82]
      · rw [show ([10, 11, 12, 13, 14, 10] : List Int32).getD (nI 5).toNatClampNeg 0 = 10 from rfl, show nI 5 = (5 : Int32) from rfl, gb_0_5 k e12 hw4]
        dsimp only
        rw [show (gv 0 5 k (xup M 12 0 1 0)).2 = [10] from rfl, K2, if_pos rfl, show nI 5 = (5 : Int32) from rfl, sz_5 k24 (z50 _)]
        refine ⟨r40 _, ?_, INV_ask h [10] (by decide)⟩
        show xup M 12 0 1 0 29 k 2 = _
        simp only [e29, i0, n81, n82]
    · rw [if_neg (by decide)]
      rcases cs with e | e | e | e | e | e <;> subst e
      · rw [show ([20, 20, 21, 22, 20, 23] : List Int32).getD (nI 0).toNatClampNeg 0 = 20 from rfl, show nI 0 = (0 : Int32) from rfl, gb_1_0 k e12 hw4]
        dsimp only
        rw [show (gv 1 0 k (xup M 12 0 1 0)).2 = [20] from rfl, K2, if_neg (by decide), show nI 0 = (0 : Int32) from rfl, mk_0_0 k24 (z50 _)]
        refine ⟨r40 _, ?_, INV_ask h [20] (by decide)⟩
        show xup M 12 0 1 0 29 k 0 = _
        simp only [e29, i0, n81, n82]
      · rw [show ([20, 20, 21, 22, 20, 23] : List Int32).getD (nI 1).toNatClampNeg 0 = 20 from rfl, show nI 1 = (1 : Int32) from rfl, gb_1_1 k e12 hw4]
        dsimp only
        rw [show (gv 1 1 k (xup M 12 0 1 0)).2 = [20] from rfl, K2, if_neg (by decide), show nI 1 = (1 : Int32) from rfl, mk_1_0 k24 (z50 _)]
        refine ⟨r40 _, ?_, INV_ask h [20] (by decide)⟩
        show xup M 12 0 1 0 29 k 0 = _
        simp only [e29, i0, n81, n82]
      · rw [show ([20, 20, 21, 22, 20, 23] : List Int32).getD (nI 2).toNatClampNeg 0 = 21 from rfl, show nI 2 = (2 : Int32) from rfl, gb_1_2 k e12 hw4]
        dsimp only
        rw [show (gv 1 2 k (xup M 12 0 1 0)).2 = [21, 20] from rfl, K2, if_neg (by decide), show nI 2 = (2 : Int32) from rfl, mk_2_0 k24 (z50 _)]
        refine ⟨r40 _, ?_, INV_ask h [21, 20] (by decide)⟩
        show xup M 12 0 1 0 29 k 0 + 100 = _
        simp only [e29, i0, n81, n82]
      · rw [show ([20, 20, 21, 22, 20, 23] : List Int32).getD (nI 3).toNatClampNeg 0 = 22 from rfl, show nI 3 = (3 : Int32) from rfl, gb_1_3 k e12 hw4]
        dsimp only
        rw [show (gv 1 3 k (xup M 12 0 1 0)).2 = [22, 21, 20] from rfl, K2, if_neg (by decide), show nI 3 = (3 : Int32) from rfl, mk_3_0 k24 (z50 _)]
        refine ⟨r40 _, ?_, INV_ask h [22, 21, 20] (by decide)⟩
        show xup M 12 0 1 0 29 k 0 + 100 + xup M 12 0 1 0 29 k 1 = _
        simp only [e29, i0, n81, n82]
      · rw [show ([20, 20, 21, 22, 20, 23] : List Int32).getD (nI 4).toNatClampNeg 0 = 20 from rfl, show nI 4 = (4 : Int32) from rfl, gb_1_4 k e12 hw4]
        dsimp only
        rw [show (gv 1 4 k (xup M 12 0 1 0)).2 = [20] from rfl, K2, if_neg (by decide), show nI 4 = (4 : Int32) from rfl, mk_4_0 k24 (z50 _)]
        refine ⟨r40 _, ?_, INV_ask h [20] (by decide)⟩
        show xup M 12 0 1 0 29 k 0 = _
        simp only [e29, i0, n81, n82]
      · rw [show ([20, 20, 21, 22, 20, 23] : List Int32).getD (nI 5).toNatClampNeg 0 = 23 from rfl, show nI 5 = (5 : Int32) from rfl, gb_1_5 k e12 hw4]
        dsimp only
        rw [show (gv 1 5 k (xup M 12 0 1 0)).2 = [23, 20, 10] from rfl, K2, if_neg (by decide), show nI 5 = (5 : Int32) from rfl, mk_5_0 k24 (z50 _)]
        refine ⟨r40 _, ?_, INV_ask h [23, 20, 10] (by decide)⟩
        show xup M 12 0 1 0 29 k 0 + xup M 12 0 1 0 29 k 2 = _
        simp only [e29, i0, n81, n82]
  · have e30 : xup M 40 0 0 0 40 0 30 = nI nn := by rw [xup_j (by decide)]; exact h.c30
    have K1 : f_X10_ask q what M = ((-1000001), M) := by
      unfold f_X10_ask
      simp only [xlet_p, noteOf_eq h.hn, isUpTo_eq, xb_0]
      by_cases c1 : 0 ≤ q ∧ q < nI nn
      · have c2 : ¬ (0 ≤ what ∧ what ≤ 1) := fun z => c ⟨c1, z⟩
        simp only [if_pos c1, xopt_ps]
        rw [if_pos (by simp only [c2, decide_false])]
      · simp only [if_neg c1, xopt_pn]
    have K2 : f_X11_ask q what M = ((-1000001), xup M 40 0 0 0) := by
      unfold f_X11_ask
      simp only [xlet_p, isNote_n e30 h.nn24, in_0_1, xb_0]
      by_cases c1 : 0 ≤ q ∧ q < nI nn
      · have c2 : ¬ (0 ≤ what ∧ what ≤ 1) := fun z => c ⟨c1, z⟩
        rw [if_neg (by simp [c1]), if_pos (by simp only [c2, decide_false])]
      · rw [if_pos (by simp only [c1, decide_false])]
    rw [K1]
    dsimp only
    rw [K2]
    exact ⟨R40_rf M, rfl, INV_thr h⟩
end ASK3
