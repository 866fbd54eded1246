/-! looks, worth, kind: on both sides -/
section WORTH
variable {nb nn : Nat} {M N : xM}
theorem s_known (h : INV nb nn M) (town w b what : Int32) : f_X10_known town w b what M = (f_X11_known town w b what M).1 ∧ INV nb nn (f_X11_known town w b what M).2 := by
  unfold f_X10_known f_X11_known
  have hI := INV_thr (v := 0) h
  have e0 : jkE M (xup M 40 0 0 0) := jkE_thr (jkE_rf M)
  simp only [xlet_p, xlet2_p, isTown10_eq, isTown_eq, isUpTo_eq, isWeek_eq, in_0_2, bankOf_eq h.hb]
  rw [isBank_n (N := xup M 40 0 0 0) (nb := nb) (by rw [xup_j (by decide)]; exact h.c7) h.nb8]
  by_cases c1 : 0 ≤ town ∧ town ≤ 5
  · by_cases c2 : 0 ≤ w ∧ w ≤ 299
    · by_cases c3 : 0 ≤ b ∧ b < nI nb
      · obtain ⟨t, rfl, ht, htc⟩ := ix_6 c1
        obtain ⟨s1, s2⟩ := said_ok h e0 ht w b 2
        obtain ⟨o1, o2⟩ := off_ok h e0 ht w b
        obtain ⟨f1, f2, -⟩ := fals_ok h e0 ht w b
        have j1 := INV_jk h s2
        have j2 := INV_jk h o2
        have j3 := INV_jk h f2
        simp only [xb, c1, c2, c3, xopt]
        simp
        by_cases c4 : what = 0
        · subst c4
          simp [o1, j2]
        · by_cases c5 : what = 1
          · subst c5
            simp [s1, j1]
          · by_cases c6 : what = 2
            · subst c6
              simp [f1, j3]
            · have t2 : 0 ≤ what → 2 < what := by grind
              simp [c4, c5, c6]
              rw [if_pos t2]
              exact ⟨rfl, hI⟩
      · simp [xb, c1, c2, c3, xopt, hI]
    · simp [xb, c1, c2, xopt, hI]
  · simp [xb, c1, hI]
theorem unl_eq (i : Nat) (p : Int32) (M : xM) : f_X4_isUnlike i p M = decide (¬ ((M 29 i 3) ^^^ p) &&& ((M 29 i 4) ^^^ (-1)) = 0) := by
  unfold f_X4_isUnlike; grind
/-- which notes are of no bank, which are false -/
theorem ghost_ok (h : INV nb nn M) (e : jkE M N) {k : Nat} (hk : k < nn) : f_X11_isGhost (nI k) N = decide (¬ M 29 k 1 < nI nb) := by
  have hn := h.n1 hk
  have := h.nn24
  unfold f_X11_isGhost
  rw [nI_clamp (by omega), e.row 81 (by decide), e.c40 7 (by omega), h.c7, hn.b81]
  grind
theorem bank_of (h : INV nb nn M) (k : Nat) : f_X10_bankOf (M 29 k 1) M = if M 29 k 1 < nI nb then some (M 29 k 1).toNatClampNeg else none := by
  have h1 := h.no.2.2.1 k
  rw [bankOf_eq h.hb]
  simp [h1.1]
theorem false_ok (h : INV nb nn M) (e : jkE M N) {k : Nat} (hk : k < nn) : f_X11_isFalse (nI k) N = xopt (f_X10_bankOf (M 29 k 1) M) true (fun i => f_X4_isUnlike k (M 27 i 1) M) := by
  have hn := h.n1 hk
  have h24 := h.nn24
  have h1 := h.no.2.2.1 k
  unfold f_X11_isFalse
  simp only [xlet_p]
  rw [ghost_ok h e hk, bank_of h k]
  by_cases c : M 29 k 1 < nI nb
  · obtain ⟨j, hj, hjk, hjc⟩ := ix_n (by have := h.nb8; omega) ⟨h1.1, c⟩
    have hb := h.ba.2.2.2.1 j hjk
    simp only [c, xopt, if_true, unl_eq, nI_clamp (show k < 2 ^ 31 by omega), e.row 83 (by decide), e.row 84 (by decide), e.row 60 (by decide), e.row 81 (by decide)]
    rw [hn.b81, hj, hjc, hn.b83, hn.b84, hb.2.1]
    simp [xb]
  · simp [c, xb, xopt]
theorem kind_ok (h : INV nb nn M) (e : jkE M N) {k : Nat} (hk : k < nn) : f_X11_kindOf (nI k) N = f_X10_kindOf k M := by
  have hn := h.n1 hk
  have h24 := h.nn24
  have hf := false_ok h e hk
  have hg := ghost_ok h e hk
  have hb := bank_of h k
  unfold f_X11_kindOf f_X10_kindOf
  simp only [xlet_p]
  rw [hf, hg, hb]
  simp only [nI_clamp (show k < 2 ^ 31 by omega), e.row 87 (by decide), e.row 89 (by decide), e.row 84 (by decide)]
  obtain ⟨n1, n2, n3, n4, n5, n6, n7, n8, n9, n10, n11, n12, n13, n14, n15, n16, n17, n18⟩ := hn
  rw [n14, n15, n5]
  by_cases c : M 29 k 1 < nI nb
  · simp only [c, xopt, if_true]
    cases f_X4_isUnlike k (M 27 (M 29 k 1).toNatClampNeg 1) M <;> simp [xb] <;> grind
  · simp [c, xb, xopt]
theorem s_kind (h : INV nb nn M) (q : Int32) : f_X10_kind q M = (f_X11_kind q M).1 ∧ INV nb nn (f_X11_kind q M).2 := by
  unfold f_X10_kind f_X11_kind
  simp only [xlet_p, noteOf_eq h.hn]
  rw [isNote_n (N := xup M 40 0 0 0) (nn := nn) (by rw [xup_j (by decide)]; exact h.c30) h.nn24]
  have hI := INV_thr (v := 0) h
  by_cases c : 0 ≤ q ∧ q < nI nn
  · obtain ⟨k, rfl, hk, hc⟩ := ix_n (by have := h.nn24; omega) c
    have hq := kind_ok h (jkE_thr (v := 0) (jkE_rf M)) hk
    simp [c, xopt, xb, hc, hq, hI]
  · simp [c, xb, xopt, hI]
theorem worth_ok (h : INV nb nn M) (e : jkE M N) {k t : Nat} (hk : k < nn) (ht : t < 6) (w : Int32) : (f_X11_worthOf (nI k) (nI t) w N).1 = M 29 k 2 * f_X10_inTheHundred k (nI t) w M ∧ jkE M (f_X11_worthOf (nI k) (nI t) w N).2 := by
  refine ⟨?_, jkE_56 e (fun a b c q => wor2 q)⟩
  have hn := h.n1 hk
  have h24 := h.nn24
  have h1 := h.no.2.2.1 k
  have hf := false_ok h e hk
  have hb := bank_of h k
  unfold f_X11_worthOf f_X10_inTheHundred
  simp only [xlet_p, xlet2_p, nI_clamp (show k < 2 ^ 31 by omega)]
  rw [hf, hb]
  have e81 : N 81 0 k = M 29 k 1 := by rw [e.row 81 (by decide)]; exact hn.b81
  rw [e81]
  by_cases c : M 29 k 1 < nI nb
  · obtain ⟨j, hj, hjk, hjc⟩ := ix_n (by have := h.nb8; omega) ⟨h1.1, c⟩
    have hbj := h.ba.2.2.2.1 j hjk
    rw [if_pos c]
    simp only [xopt]
    by_cases u : f_X4_isUnlike k (M 27 (M 29 k 1).toNatClampNeg 1) M = true
    · simp [xb, u]
    · have u' : f_X4_isUnlike k (M 27 (M 29 k 1).toNatClampNeg 1) M = false := by simpa using u
      obtain ⟨s1, s2⟩ := said_ok h e ht w (M 29 k 1) 2
      simp only [xb, u']
      simp only [Bool.false_eq_true, if_false, if_true]
      rw [s1]
      generalize (f_X11_saidOf (nI t) w (M 29 k 1) 2 N).2 = K at s2
      have k81 : K 81 0 k = M 29 k 1 := by rw [s2.row 81 (by decide)]; exact hn.b81
      have k82 : K 82 0 k = M 29 k 2 := by rw [s2.row 82 (by decide)]; exact hn.b82
      rw [k81, k82]
      by_cases d : f_X2_latest 2 (M 29 k 1) (f_X10_newestBook (nI t) w M) M = -1000000
      · rw [if_pos d, if_pos d]
        obtain ⟨o1, o2⟩ := off_ok h s2 ht w (M 29 k 1)
        rw [o1]
        generalize (f_X11_offOf (nI t) w (M 29 k 1) K).2 = K2 at o2
        have q81 : K2 81 0 k = M 29 k 1 := by rw [o2.row 81 (by decide)]; exact hn.b81
        have q58 : K2 58 0 (M 29 k 1).toNatClampNeg = M 27 (M 29 k 1).toNatClampNeg 0 := by rw [o2.row 58 (by decide), hj, hjc]; exact hbj.1
        rw [q81, q58]
        obtain ⟨t2, ht2, ht2k, ht2c⟩ := ix_6 (h.ba.2.1 (M 29 k 1).toNatClampNeg)
        rw [ht2, farFrom_eq, few_eq h ht ht2k (K2 56 0)]
        simp only [ht2c, o2.row 55 (by decide)]
        have z82 : ∀ r, xrow K2 56 0 r 82 0 k = M 29 k 2 := fun r => by rw [xrow_k (by decide), o2.row 82 (by decide)]; exact hn.b82
        generalize bfrow (M 55 0) (nI t) (K2 56 0) t2 = fr
        by_cases d2 : fr = -1000000
        · simp [d2]
        · simp only [if_neg d2, z82]
          split
          · rename_i d3
            rw [if_neg (by grind)]; simp
          · rename_i d3
            rw [if_pos (by grind)]
      · rw [if_neg d, if_neg d]
  · simp [c, xb, xopt]
theorem s_worth (h : INV nb nn M) (q town w : Int32) : f_X10_worth q town w M = (f_X11_worth q town w M).1 ∧ INV nb nn (f_X11_worth q town w M).2 := by
  unfold f_X10_worth f_X11_worth
  simp only [xlet_p, xlet2_p, noteOf_eq h.hn, isTown10_eq, isTown_eq, isUpTo_eq, isWeek_eq]
  rw [isNote_n (N := xup M 40 0 0 0) (nn := nn) (by rw [xup_j (by decide)]; exact h.c30) h.nn24]
  have hI := INV_thr (v := 0) h
  by_cases c : 0 ≤ q ∧ q < nI nn
  · obtain ⟨k, rfl, hk, hc⟩ := ix_n (by have := h.nn24; omega) c
    by_cases c1 : 0 ≤ town ∧ town ≤ 5
    · by_cases c2 : 0 ≤ w ∧ w ≤ 299
      · obtain ⟨t, rfl, ht, htc⟩ := ix_6 c1
        obtain ⟨w1, w2⟩ := worth_ok h (jkE_thr (v := 0) (jkE_rf M)) hk ht w
        have j := INV_jk h w2
        simp [c, c1, c2, xopt, xb, hc, w1, j]
      · simp [c, c1, c2, xopt, xb, hI]
    · simp [c, c1, xopt, xb, hI]
  · simp [c, xb, xopt, hI]
theorem cntP_0 (p : Nat → Bool) : ∀ m i, cntP p m i = 0 ↔ ∀ k, i ≤ k → k < i + m → p k = false := by
  intro m
  induction m with
  | zero => intro i; rw [cntP]; exact ⟨fun _ k h1 h2 => by omega, fun _ => rfl⟩
  | succ m ih =>
    intro i
    rw [cntP]
    have := ih (i + 1)
    constructor
    · intro h k h1 h2
      by_cases c : k = i
      · subst c
        cases e : p k with
        | false => rfl
        | true => rw [e] at h; simp at h
      · exact this.mp (by omega) k (by omega) (by omega)
    · intro h
      have h0 := h i (by omega) (by omega)
      rw [h0]
      simp
      exact this.mpr (fun k h1 h2 => h k (by omega) (by omega))
theorem taL (nt : Nat) (nw : Int32) (M : xM) (sz : Nat) (hs : M 4 0 4 = nI sz) (h40 : sz ≤ 40) : ∀ (m i n : Nat) (sm : Int32), i + m = sz → m < n → f_X2_tellApart_L5 nt nw M n sm (nI i) (fun some__8 i_9 => decide (some__8 ≠ 0)) = (decide (sm ≠ 0 ∨ cntP (knw M 1 (M 29 nt 1) nw) m i ≠ 0) && decide (cntP (fun k => knw M 1 (M 29 nt 1) nw k && alk M nt k) m i = 0)) := by
  intro m
  induction m with
  | zero =>
    intro i n sm h1 h2
    obtain ⟨n, rfl⟩ : ∃ k, n = k + 1 := ⟨n - 1, by omega⟩
    obtain rfl : i = sz := by omega
    rw [f_X2_tellApart_L5, hs, if_pos (nI_le (Nat.le_refl _) (by omega)), cntP, cntP]
    simp
  | succ m ih =>
    intro i n sm h1 h2
    obtain ⟨n, rfl⟩ : ∃ k, n = k + 1 := ⟨n - 1, by omega⟩
    rw [f_X2_tellApart_L5, hs, if_neg (nI_ge (by omega) (by omega)), cntP, cntP]
    simp only [xlet_p, isKnown_eq, nI_clamp (show i < 2 ^ 31 by omega), nI_1, unl_eq]
    have i1 := ih (i + 1) n sm (by omega) (by omega)
    have i2 := ih (i + 1) n 1 (by omega) (by omega)
    rw [i1, i2]
    by_cases c : M 15 0 i = 1 ∧ M 17 0 i = M 29 nt 1 ∧ M 16 0 i ≤ nw
    · have k1 : knw M 1 (M 29 nt 1) nw i = true := by unfold knw; exact decide_eq_true c
      by_cases a : ((M 29 nt 3) ^^^ (M 18 0 i)) &&& ((M 29 nt 4) ^^^ (-1)) = 0
      · have a1 : alk M nt i = true := by unfold alk; exact decide_eq_true a
        rw [if_neg (by rw [decide_eq_true c]; decide), if_pos (by rw [decide_eq_false (fun q => q a)]; rfl)]
        simp [k1, a1]
      · have a1 : alk M nt i = false := by unfold alk; exact decide_eq_false a
        rw [if_neg (by rw [decide_eq_true c]; decide), if_neg (by rw [decide_eq_true a]; decide)]
        simp [k1, a1]
    · have k1 : knw M 1 (M 29 nt 1) nw i = false := by unfold knw; exact decide_eq_false c
      rw [if_pos (by rw [decide_eq_false c]; rfl)]
      simp [k1]
theorem s_looks (h : INV nb nn M) (q town w : Int32) : f_X10_looks q town w M = (f_X11_looks q town w M).1 ∧ INV nb nn (f_X11_looks q town w M).2 := by
  unfold f_X10_looks f_X11_looks f_X11_looksLike
  simp only [xlet_p, xlet2_p, noteOf_eq h.hn, isTown10_eq, isTown_eq, isUpTo_eq, isWeek_eq]
  rw [isNote_n (N := xup M 40 0 0 0) (nn := nn) (by rw [xup_j (by decide)]; exact h.c30) h.nn24]
  have hI := INV_thr (v := 0) h
  by_cases c : 0 ≤ q ∧ q < nI nn
  · obtain ⟨k, rfl, hk, hc⟩ := ix_n (by have := h.nn24; omega) c
    by_cases c1 : 0 ≤ town ∧ town ≤ 5
    · by_cases c2 : 0 ≤ w ∧ w ≤ 299
      · obtain ⟨t, rfl, ht, htc⟩ := ix_6 c1
        have e0 : jkE M (xup M 40 0 0 0) := jkE_thr (jkE_rf M)
        have hn := h.n1 hk
        have hf := false_ok h e0 hk
        have h81 : xup M 40 0 0 0 81 0 k = M 29 k 1 := by rw [xup_k (by decide)]; exact hn.b81
        have h84 : xup M 40 0 0 0 84 0 k = M 29 k 4 := by rw [xup_k (by decide)]; exact hn.b84
        simp only [c, c1, c2, xopt, xb, hc, h81, h84]
        simp only [decide_true, Bool.true_eq_false, if_true, if_false, true_and, and_self, show ¬ (1 : Int32) = 0 by decide]
        rw [hf, bank_of h k]
        by_cases cb : M 29 k 1 < nI nb
        · rw [if_pos cb]
          simp only [xopt]
          by_cases hu : f_X4_isUnlike k (M 27 (M 29 k 1).toNatClampNeg 1) M = true
          · simp [hu, hI]
          · have hu' : f_X4_isUnlike k (M 27 (M 29 k 1).toNatClampNeg 1) M = false := by simpa using hu
            simp only [hu', Bool.false_eq_true, if_false, if_true]
            obtain ⟨f1, f2, f3⟩ := fals_ok h e0 ht w (M 29 k 1)
            by_cases cw : M 29 k 4 = 0
            · simp [cw]; exact hI
            · simp only [cw, Bool.false_eq_true, if_false, if_true]
              rw [f1, f3]
              obtain ⟨e1, e2, e3, e4⟩ := h.en
              obtain ⟨z1, z2⟩ := nsz e2 e3
              generalize (M 4 0 4).toNatClampNeg = sz at z1 z2 e4
              have ta := taL k (f_X10_newestBook (nI t) w M) M sz z1 z2 sz 0 (xmu (0 : Int32) (M 4 0 4) + 1) 0 (by omega) (by rw [z1]; unfold xmu; rw [nI_toInt (by omega)]; simp)
              rw [show nI 0 = (0 : Int32) from rfl] at ta
              have ta2 : f_X2_tellApart k (f_X10_newestBook (nI t) w M) M = _ := ta
              rw [ta2]
              have c40 := cntP_le (knw M 1 (M 29 k 1) (f_X10_newestBook (nI t) w M)) sz 0
              generalize hcn : cntP (knw M 1 (M 29 k 1) (f_X10_newestBook (nI t) w M)) sz 0 = cn at c40
              by_cases c0 : cn = 0
              · subst c0
                simp [show nI 0 ≤ (0 : Int32) by decide]
                exact INV_jk h f2
              · have : ¬ nI cn ≤ 0 := nI_nle (by omega) (by omega)
                simp only [this, if_false, c0, ne_eq, not_false_eq_true, or_true, decide_true, Bool.true_and]
                generalize hK0 : (f_X11_falsePlates (nI t) w (M 29 k 1) (-1000000) (xup M 40 0 0 0)).2 = K0 at f2
                have hw := bw_ok h f2 ht w
                have hN : jkE M (f_X11_bookWeek (nI t) w K0).2 := jkE_56 f2 (fun a b c q => bw2 q)
                have hlast : jkE M (f_X11_falsePlates (nI t) w (M 29 k 1) (nI k) K0).2 := jkE_56 f2 (fun a b c q => fals2 q)
                have hval : (f_X11_falsePlates (nI t) w (M 29 k 1) (nI k) K0).1 = nI (cntP (fun j => knw M 1 (M 29 k 1) (f_X10_newestBook (nI t) w M) j && alk M k j) sz 0) := by
                  unfold f_X11_falsePlates
                  simp only [xlet2_p]
                  rw [hw]
                  generalize (f_X11_bookWeek (nI t) w K0).2 = K at hN
                  have hK : K 40 0 14 = nI sz := by rw [hN.c40 14 (by omega), e1, z1]
                  have r65 := hN.row 65 (by decide); have r66 := hN.row 66 (by decide); have r67 := hN.row 67 (by decide); have r68 := hN.row 68 (by decide); have r83 := hN.row 83 (by decide); have r84 := hN.row 84 (by decide)
                  have hne : ¬ nI k = -1000000 := by have := nI_pos' (n := k) (by have := h.nn24; omega); grind
                  have := fp2L (nI t) w (M 29 k 1) (nI k) (f_X10_newestBook (nI t) w M) M K (fun j => knw M 1 (M 29 k 1) (f_X10_newestBook (nI t) w M) j && alk M k j) sz hK z2 (fun j hj => by
                    rw [r65, r66, r67, r68, r83, r84, hc, hn.b83, hn.b84]
                    have q := e4 j hj
                    rw [q.2.2.2.1]
                    refine ⟨q.1, q.2.1, q.2.2.1, ?_⟩
                    unfold alk
                    simp [hne]) sz 0 (xmu (0 : Int32) (K 40 0 14) + 1) 0 (fun z_25 k_26 => (z_25, K)) (by omega) (by rw [hK]; unfold xmu; rw [nI_toInt (by omega)]; simp)
                  rw [show nI 0 = (0 : Int32) from rfl, Nat.zero_add] at this
                  rw [this]
                rw [hval]
                have d40 := cntP_le (fun j => knw M 1 (M 29 k 1) (f_X10_newestBook (nI t) w M) j && alk M k j) sz 0
                generalize cntP (fun j => knw M 1 (M 29 k 1) (f_X10_newestBook (nI t) w M) j && alk M k j) sz 0 = dn at d40
                by_cases d0 : dn = 0
                · subst d0
                  simp [nI_0]
                  exact INV_jk h hlast
                · have d1 : ¬ nI dn = 0 := nI_ne0 (by omega) (by omega)
                  simp [d0, d1]
                  exact INV_jk h hlast
        · rw [if_neg cb]
          simp [xopt, hI]
      · simp [c, c1, c2, xopt, xb, hI]
    · simp [c, c1, xopt, xb, hI]
  · simp [c, xb, xopt, hI]
theorem beaL (h : INV nb nn M) {k : Nat} (hk : k < nn) (e : jkE M N) (weeks : Int32) : ∀ (m n n2 : Nat), m < (M 29 k 6).toNatClampNeg → m < n → m < n2 → ∃ j : Nat, j < (M 29 k 6).toNatClampNeg ∧ (∀ kx, f_X4_bearer_L10 k (M 0 0 14) weeks M n (nI m) (nI m) kx = kx (nI j) (nI j)) ∧ ∀ kx, f_X11_bears_L52 (nI k) weeks N n2 (nI (12 * k + m)) kx = kx (nI (12 * k + j)) := by
  have hn := h.n1 hk
  have h24 := h.nn24
  have h6 := h.no.2.1 k
  have h12 : (M 29 k 6).toNatClampNeg ≤ 12 := tnc_le (N := 12) (by decide) (by exact h6.2)
  have hall := hn.hi
  have hcl : M 29 k 6 = nI (M 29 k 6).toNatClampNeg := (nsz h6.1 (by have := h6.2; grind)).1
  intro m
  induction m with
  | zero =>
    intro n n2 h1 h2 h3
    obtain ⟨n, rfl⟩ : ∃ k, n = k + 1 := ⟨n - 1, by omega⟩
    obtain ⟨n2, rfl⟩ : ∃ k, n2 = k + 1 := ⟨n2 - 1, by omega⟩
    refine ⟨0, h1, fun kx => ?_, fun kx => ?_⟩
    · rw [f_X4_bearer_L10, if_pos (by decide)]
    · rw [f_X11_bears_L52, nI_m 12 k 12 rfl, if_pos (nI_le (by omega) (by omega))]
  | succ m ih =>
    intro n n2 h1 h2 h3
    obtain ⟨n, rfl⟩ : ∃ k, n = k + 1 := ⟨n - 1, by omega⟩
    obtain ⟨n2, rfl⟩ : ∃ k, n2 = k + 1 := ⟨n2 - 1, by omega⟩
    have hw := hall (m + 1) h1
    have hhw : f_X4_handWeek k (nI (m + 1)) M = M 31 k (m + 1) := by
      unfold f_X4_handWeek
      rw [if_neg (nI_pos (by omega)), if_neg (by rw [hcl]; exact nI_ge h1 (by omega)), nI_clamp (by omega)]
    have e93 : N 93 0 (12 * k + (m + 1)) = M 31 k (m + 1) := by rw [e.row 93 (by decide)]; exact hw.2.1
    have e13 : N 40 0 13 = M 0 0 14 := by rw [e.c40 13 (by omega)]; exact h.st.2.1.symm
    by_cases c : M 0 0 14 - M 31 k (m + 1) ≤ weeks
    · obtain ⟨j, j1, j2, j3⟩ := ih n n2 (by omega) (by omega) (by omega)
      refine ⟨j, j1, fun kx => ?_, fun kx => ?_⟩
      · rw [f_X4_bearer_L10, if_neg (nI_nle (by omega) (by omega))]
        simp only [xlet_p, hhw]
        rw [if_pos c, nI_pred, pk_m1]
        exact j2 kx
      · rw [f_X11_bears_L52, nI_m 12 k 12 rfl, if_neg (nI_ge (by omega) (by omega)), nI_clamp (by omega), e93, e13, if_neg (by grind)]
        simp only [xlet_p]
        rw [show 12 * k + (m + 1) = (12 * k + m) + 1 by omega, pk_m1]
        exact j3 kx
    · refine ⟨m + 1, h1, fun kx => ?_, fun kx => ?_⟩
      · rw [f_X4_bearer_L10, if_neg (nI_nle (by omega) (by omega))]
        simp only [xlet_p, hhw]
        rw [if_neg c]
      · rw [f_X11_bears_L52, nI_m 12 k 12 rfl, if_neg (nI_ge (by omega) (by omega)), nI_clamp (by omega), e93, e13, if_pos (by grind)]
theorem s_bears (h : INV nb nn M) (q weeks : Int32) : f_X10_bears q weeks M = (f_X11_bears q weeks M).1 ∧ INV nb nn (f_X11_bears q weeks M).2 := by
  unfold f_X10_bears f_X11_bears
  simp only [xlet_p, noteOf_eq h.hn, isUpTo_eq, isWeek_eq]
  rw [isNote_n (N := xup M 40 0 0 0) (nn := nn) (by rw [xup_j (by decide)]; exact h.c30) h.nn24]
  have hI := INV_thr (v := 0) h
  by_cases c : 0 ≤ q ∧ q < nI nn
  · obtain ⟨k, rfl, hk, hc⟩ := ix_n (by have := h.nn24; omega) c
    by_cases c2 : 0 ≤ weeks ∧ weeks ≤ 299
    · have hn := h.n1 hk
      have h24 := h.nn24
      have h6 := h.no.2.1 k
      have e0 : jkE M (xup M 40 0 0 0) := jkE_thr (jkE_rf M)
      have hcl : M 29 k 6 = nI (M 29 k 6).toNatClampNeg := (nsz h6.1 (by have := h6.2; grind)).1
      have h12 : (M 29 k 6).toNatClampNeg ≤ 12 := tnc_le (N := 12) (by decide) (by exact h6.2)
      have hall := hn.hi
      have h8 := hn.h8
      have h85 : xup M 40 0 0 0 85 0 k = if M 29 k 5 = 0 then M 29 k 8 else -1000000 := by rw [xup_k (by decide)]; exact hn.t85
      have h91 : xup M 40 0 0 0 91 0 k = M 29 k 6 := by rw [xup_k (by decide)]; exact hn.m91
      have h1 : 1 ≤ M 29 k 6 := hn.m1
      simp only [c, c2, xopt, xb, hc, h85, h91]
      simp only [decide_true, if_true, if_false, true_and, and_self, show ¬ (1 : Int32) = 0 by decide]
      by_cases c5 : M 29 k 5 = 0
      · have h9 := h8 c5
        have h10 : ¬ M 29 k 8 = -1000000 := by grind
        simp only [c5, if_true, h10, if_false]
        unfold f_X4_bearer
        simp only [xlet_p]
        have hpos : 1 ≤ (M 29 k 6).toNatClampNeg := by
          rw [hcl] at h1
          have := (nI_leI (a := 1) (b := (M 29 k 6).toNatClampNeg) (by omega) (by omega)).mp h1
          exact this
        generalize hcn : (M 29 k 6).toNatClampNeg = cn at *
        obtain ⟨cm, rfl⟩ : ∃ z, cn = z + 1 := ⟨cn - 1, by omega⟩
        have hb := beaL h hk e0 weeks cm (xmu 0 (M 29 k 6 - 1) + 1) (xmu (12 * nI k) ((12 * nI k + M 29 k 6) - 1) + 1) (by omega) (by rw [hcl, nI_pred]; unfold xmu; rw [nI_toInt (by omega)]; simp) (by rw [hcl, nI_m 12 k 12 rfl, nI_add, show 12 * k + (cm + 1) = (12 * k + cm) + 1 by omega, nI_pred]; unfold xmu; rw [nI_toInt (by omega), nI_toInt (by omega)]; omega)
        obtain ⟨j, j1, j2, j3⟩ := hb
        rw [hcn] at j1
        rw [hcl, nI_m 12 k 12 rfl, nI_add, nI_pred, show 12 * k + (cm + 1) = (12 * k + cm) + 1 by omega, nI_pred]
        rw [hcl, nI_pred] at j2
        rw [hcl, nI_m 12 k 12 rfl, nI_add, show 12 * k + (cm + 1) = (12 * k + cm) + 1 by omega, nI_pred] at j3
        rw [j2, j3]
        have hj := hall j (by omega)
        refine ⟨?_, hI⟩
        unfold f_X4_handTrader
        rw [if_neg (nI_pos (by omega)), if_neg (by rw [hcl]; exact nI_ge j1 (by omega)), nI_clamp (by omega), nI_clamp (by omega), xup_k (by decide)]
        exact hj.1.symm
      · simp [c5, hI]
    · simp [c, c2, xopt, xb, hI]
  · simp [c, xb, xopt, hI]
end WORTH
