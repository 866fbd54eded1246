/-! worth, where only the hands have moved -/
def jkW (M N : xM) : Prop := ∀ a b c : Nat, 40 ≤ a → ¬ jk a b c → ¬ (85 ≤ a ∧ a ≤ 93) → N a b c = M a b c
theorem jkW_56 {M N K : xM} (e : jkW M N) (h : ∀ a b c : Nat, ¬ a = 56 → K a b c = N a b c) : jkW M K := fun a b c q0 q q2 => by
  rw [h a b c (fun z => q (by unfold jk; omega))]; exact e a b c q0 q q2
theorem jkW.row {M N : xM} (e : jkW M N) (a : Nat) (h : ¬ (a < 40 ∨ a = 6 ∨ a = 9 ∨ a = 11 ∨ a = 20 ∨ a = 21 ∨ a = 22 ∨ a = 56 ∨ a = 97 ∨ a = 98 ∨ a = 5 ∨ a = 40 ∨ (85 ≤ a ∧ a ≤ 93))) : N a = M a := by
  funext b c
  exact e a b c (by omega) (fun q => h (by unfold jk at q; omega)) (fun q => h (by omega))
theorem jkW.c40 {M N : xM} (e : jkW M N) (c : Nat) (h : ¬ (c = 0 ∨ c = 19 ∨ 23 ≤ c ∧ c ≤ 29)) : N 40 0 c = M 40 0 c := e 40 0 c (by omega) (fun q => h (by unfold jk at q; omega)) (by omega)
section WORTHW
variable {nb nn : Nat} {M N : xM}
theorem bw_okW (h : INV nb nn M) (e : jkW M N) {t : Nat} (ht : t < 6) (w : Int32) : (f_X11_bookWeek (nI t) w N).1 = f_X10_newestBook (nI t) w M := by
  rw [bookWeek_eq]
  unfold f_X10_newestBook
  simp only [xlet_p, nI_clamp (show t < 2 ^ 31 by omega)]
  rw [show (0 : Int32) = nI 0 from rfl, few_eq h (a := 0) (b := t) (by omega) ht (N 56 0), e.row 55 (by decide)]
theorem said_okW (h : INV nb nn M) (e : jkW M N) {t : Nat} (ht : t < 6) (w b what : Int32) : (f_X11_saidOf (nI t) w b what N).1 = f_X2_latest what b (f_X10_newestBook (nI t) w M) M ∧ jkW M (f_X11_saidOf (nI t) w b what N).2 := by
  refine ⟨?_, jkW_56 e (fun a b c q => said2 q)⟩
  obtain ⟨e1, e2, e3, e4⟩ := h.en
  obtain ⟨z1, z2⟩ := nsz e2 e3
  generalize (M 4 0 4).toNatClampNeg = sz at z1 z2 e4
  have hw := bw_okW h e ht w
  have hN : jkW M (f_X11_bookWeek (nI t) w N).2 := jkW_56 e (fun a b c q => bw2 q)
  unfold f_X11_saidOf f_X2_latest
  simp only [xlet2_p]
  rw [hw]
  generalize (f_X11_bookWeek (nI t) w N).2 = K at hN
  have hK : K 40 0 14 = nI sz := by rw [hN.c40 14 (by omega), e1, z1]
  have r65 := hN.row 65 (by decide); have r66 := hN.row 66 (by decide); have r67 := hN.row 67 (by decide); have r68 := hN.row 68 (by decide)
  have L1 := latL what b (f_X10_newestBook (nI t) w M) M sz z1 z2 (fun k hk => (e4 k hk).2.2.2.2.1) sz 0 (xmu (0 : Int32) (M 4 0 4) + 1) none (fun value_10 lw_11 i_12 => value_10) (by omega) (by rw [z1]; unfold xmu; rw [nI_toInt (by omega)]; simp)
  obtain ⟨L2, L3⟩ := saidL (nI t) w b what (f_X10_newestBook (nI t) w M) K (M 15 0) (M 16 0) (M 17 0) sz hK z2 (fun k hk => by rw [r65, r66, r67]; have := e4 k hk; exact ⟨this.1, this.2.1, this.2.2.1⟩) sz 0 (xmu (0 : Int32) (K 40 0 14) + 1) none (fun best_19 k_20 => if best_19 = (-1000000) then ((-1000000), K) else ((K 68 0 best_19.toNatClampNeg), K)) (by omega) (by rw [hK]; unfold xmu; rw [nI_toInt (by omega)]; simp) (fun j q => by cases q)
  simp only [xopt] at L1 L2
  rw [show nI 0 = (0 : Int32) from rfl] at L1 L2
  rw [L1, L2]
  cases hl : lst (M 15 0) (M 16 0) (M 17 0) what b (f_X10_newestBook (nI t) w M) sz 0 none with
  | none => simp
  | some j =>
    have hj := L3 j hl
    have hne : ¬ nI j = -1000000 := by have := nI_pos' (n := j) (by omega); grind
    simp [hne, nI_clamp (show j < 2 ^ 31 by omega), r68]
    exact (e4 j hj).2.2.2.1
theorem off_okW (h : INV nb nn M) (e : jkW M N) {t : Nat} (ht : t < 6) (w b : Int32) : (f_X11_offOf (nI t) w b N).1 = f_X2_off b (f_X10_newestBook (nI t) w M) M ∧ jkW M (f_X11_offOf (nI t) w b N).2 := by
  obtain ⟨s1, s2⟩ := said_okW h e ht w b 0
  refine ⟨?_, jkW_56 e (fun a b c q => off2 q)⟩
  unfold f_X11_offOf f_X2_off
  simp only [xlet_p, xlet2_p]
  rw [s1]
  split <;> rfl
theorem ghost_okW (h : INV nb nn M) (e : jkW M N) {k : Nat} (hk : k < nn) : f_X11_isGhost (nI k) N = decide (¬ M 29 k 1 < nI nb) := by
  have hn := h.n1 hk
  have := h.nn24
  unfold f_X11_isGhost
  rw [nI_clamp (by omega), e.row 81 (by decide), e.c40 7 (by omega), h.c7, hn.b81]
  grind
theorem false_okW (h : INV nb nn M) (e : jkW M N) {k : Nat} (hk : k < nn) : f_X11_isFalse (nI k) N = xopt (f_X10_bankOf (M 29 k 1) M) true (fun i => f_X4_isUnlike k (M 27 i 1) M) := by
  have hn := h.n1 hk
  have h24 := h.nn24
  have h1 := h.no.2.2.1 k
  unfold f_X11_isFalse
  simp only [xlet_p]
  rw [ghost_okW h e hk, bank_of h k]
  by_cases c : M 29 k 1 < nI nb
  · obtain ⟨j, hj, hjk, hjc⟩ := ix_n (by have := h.nb8; omega) ⟨h1.1, c⟩
    have hb := h.ba.2.2.2.1 j hjk
    simp only [c, xopt, if_true, unl_eq, nI_clamp (show k < 2 ^ 31 by omega), e.row 83 (by decide), e.row 84 (by decide), e.row 60 (by decide), e.row 81 (by decide)]
    rw [hn.b81, hj, hjc, hn.b83, hn.b84, hb.2.1]
    simp [xb]
  · simp [c, xb, xopt]
theorem worth_okW (h : INV nb nn M) (e : jkW M N) {k t : Nat} (hk : k < nn) (ht : t < 6) (w : Int32) : (f_X11_worthOf (nI k) (nI t) w N).1 = M 29 k 2 * f_X10_inTheHundred k (nI t) w M ∧ jkW M (f_X11_worthOf (nI k) (nI t) w N).2 := by
  refine ⟨?_, jkW_56 e (fun a b c q => wor2 q)⟩
  have hn := h.n1 hk
  have h24 := h.nn24
  have h1 := h.no.2.2.1 k
  have hf := false_okW h e hk
  have hb := bank_of h k
  unfold f_X11_worthOf f_X10_inTheHundred
  simp only [xlet_p, xlet2_p, nI_clamp (show k < 2 ^ 31 by omega)]
  rw [hf, hb]
  have e81 : N 81 0 k = M 29 k 1 := by rw [e.row 81 (by decide)]; exact hn.b81
  rw [e81]
  by_cases c : M 29 k 1 < nI nb
  · obtain ⟨j, hj, hjk, hjc⟩ := ix_n (by have := h.nb8; omega) ⟨h1.1, c⟩
    have hbj := h.ba.2.2.2.1 j hjk
    rw [if_pos c]
    simp only [xopt]
    by_cases u : f_X4_isUnlike k (M 27 (M 29 k 1).toNatClampNeg 1) M = true
    · simp [xb, u]
    · have u' : f_X4_isUnlike k (M 27 (M 29 k 1).toNatClampNeg 1) M = false := by simpa using u
      obtain ⟨s1, s2⟩ := said_okW h e ht w (M 29 k 1) 2
      simp only [xb, u']
      simp only [Bool.false_eq_true, if_false, if_true]
      rw [s1]
      generalize (f_X11_saidOf (nI t) w (M 29 k 1) 2 N).2 = K at s2
      have k81 : K 81 0 k = M 29 k 1 := by rw [s2.row 81 (by decide)]; exact hn.b81
      have k82 : K 82 0 k = M 29 k 2 := by rw [s2.row 82 (by decide)]; exact hn.b82
      rw [k81, k82]
      by_cases d : f_X2_latest 2 (M 29 k 1) (f_X10_newestBook (nI t) w M) M = -1000000
      · rw [if_pos d, if_pos d]
        obtain ⟨o1, o2⟩ := off_okW h s2 ht w (M 29 k 1)
        rw [o1]
        generalize (f_X11_offOf (nI t) w (M 29 k 1) K).2 = K2 at o2
        have q81 : K2 81 0 k = M 29 k 1 := by rw [o2.row 81 (by decide)]; exact hn.b81
        have q58 : K2 58 0 (M 29 k 1).toNatClampNeg = M 27 (M 29 k 1).toNatClampNeg 0 := by rw [o2.row 58 (by decide), hj, hjc]; exact hbj.1
        rw [q81, q58]
        obtain ⟨t2, ht2, ht2k, ht2c⟩ := ix_6 (h.ba.2.1 (M 29 k 1).toNatClampNeg)
        rw [ht2, farFrom_eq, few_eq h ht ht2k (K2 56 0)]
        simp only [ht2c, o2.row 55 (by decide)]
        have z82 : ∀ r, xrow K2 56 0 r 82 0 k = M 29 k 2 := fun r => by rw [xrow_k (by decide), o2.row 82 (by decide)]; exact hn.b82
        generalize bfrow (M 55 0) (nI t) (K2 56 0) t2 = fr
        by_cases d2 : fr = -1000000
        · simp [d2]
        · simp only [if_neg d2, z82]
          split
          · rename_i d3
            rw [if_neg (by grind)]; simp
          · rename_i d3
            rw [if_pos (by grind)]
      · rw [if_neg d, if_neg d]
  · simp [c, xb, xopt]
end WORTHW
