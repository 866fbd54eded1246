/-! pay, on the reference's side: how a note is held in the hundred -/
section PAY3
variable {nb nn : Nat} {M N : xM}
theorem lst_s {K15 K16 K17 : Nat → Int32} {wd bk nw : Int32} : ∀ (m i : Nat) (o : Option Nat), (∀ j, o = some j → j < i ∧ K15 j = wd) → ∀ k, lst K15 K16 K17 wd bk nw m i o = some k → k < i + m ∧ K15 k = wd := by
  intro m
  induction m with
  | zero => intro i o ho k hk; exact ho k hk
  | succ m ih =>
    intro i o ho k hk
    rw [lst] at hk
    have := ih (i + 1) _ (fun j hj => ?_) k hk
    · exact ⟨by omega, this.2⟩
    · by_cases c : (K15 i = wd ∧ K17 i = bk ∧ K16 i ≤ nw) ∧ xopt o true (fun j => decide (K16 j ≤ K16 i)) = true
      · rw [if_pos c] at hj; cases hj; exact ⟨by omega, c.1.1⟩
      · rw [if_neg c] at hj; have := ho j hj; exact ⟨by omega, this.2⟩
theorem lat_b (h : INV nb nn M) (wd bk nw : Int32) : f_X2_latest wd bk nw M = (-1000000) ∨ (0 ≤ f_X2_latest wd bk nw M ∧ (wd ≠ 1 → f_X2_latest wd bk nw M ≤ 100)) := by
  obtain ⟨e1, e2, e3, e4⟩ := h.en
  obtain ⟨z1, z2⟩ := nsz e2 e3
  generalize (M 4 0 4).toNatClampNeg = sz at z1 z2 e4
  have L1 := latL wd bk nw M sz z1 z2 (fun k hk => (e4 k hk).2.2.2.2.1) sz 0 (xmu (0 : Int32) (M 4 0 4) + 1) none (fun value_10 lw_11 i_12 => value_10) (by omega) (by rw [z1]; unfold xmu; rw [nI_toInt (by omega)]; simp)
  simp only [xopt_pn] at L1
  rw [show nI 0 = (0 : Int32) from rfl] at L1
  have L2 : f_X2_latest wd bk nw M = xopt (lst (M 15 0) (M 16 0) (M 17 0) wd bk nw sz 0 none) (-1000000) (M 18 0) := L1
  rw [L2]
  cases hl : lst (M 15 0) (M 16 0) (M 17 0) wd bk nw sz 0 none with
  | none => left; exact xopt_pn _ _
  | some j =>
    right
    obtain ⟨j1, j2⟩ := lst_s sz 0 none (fun j q => by cases q) j hl
    have q := e4 j (by omega)
    rw [xopt_ps]
    exact ⟨q.2.2.2.2.2.1, fun w => q.2.2.2.2.2.2 (by rw [j2]; exact w)⟩
theorem few_b (h : INV nb nn M) {a b : Nat} (ha : a < 6) (hb : b < 6) : f_X5_fewestMiles (nI a) (nI b) M = (-1000000) ∨ (0 ≤ f_X5_fewestMiles (nI a) (nI b) M ∧ f_X5_fewestMiles (nI a) (nI b) M ≤ 1000000) := by
  have r := h.ro
  obtain ⟨f1, -⟩ := fS_flo (A := M 13 0) (fun k hk => (r.1 k hk).2)
  have q := f1 a b ha hb
  rw [← r.2 _ (show 6 * a + b < 36 by omega)] at q
  unfold f_X5_fewestMiles
  simp only [xlet_p, i6 ha hb]
  split
  · exact Or.inr q
  · exact Or.inl rfl
theorem ith_b (h : INV nb nn M) (k : Nat) {t : Nat} (ht : t < 6) (w : Int32) : 0 ≤ f_X10_inTheHundred k (nI t) w M ∧ f_X10_inTheHundred k (nI t) w M ≤ 100 := by
  unfold f_X10_inTheHundred
  rw [bank_of h k]
  by_cases c : M 29 k 1 < nI nb
  · rw [if_pos c]
    simp only [xopt_ps, xlet_p, xb_0]
    split
    · rcases lat_b h 2 (M 29 k 1) (f_X10_newestBook (nI t) w M) with l | l
      · rw [if_pos l]
        obtain ⟨t2, ht2, ht2k, ht2c⟩ := ix_6 (h.ba.2.1 (M 29 k 1).toNatClampNeg)
        rw [ht2]
        rcases few_b h ht ht2k with f | f
        · rw [if_pos f]; decide
        · rw [if_neg (fun q => absurd (q ▸ f.1) (by decide))]
          obtain ⟨fm, ef, hfm⟩ := i32b (n := 1000000) (by decide) f.1 f.2
          rw [ef, show (20 : Int32) = nI 20 from rfl, pk_div (by omega) (by decide) (by decide)]
          have ho : 0 ≤ f_X2_off (M 29 k 1) (f_X10_newestBook (nI t) w M) M ∧ f_X2_off (M 29 k 1) (f_X10_newestBook (nI t) w M) M ≤ 100 := by
            unfold f_X2_off
            simp only [xlet_p]
            rcases lat_b h 0 (M 29 k 1) (f_X10_newestBook (nI t) w M) with q | q
            · rw [if_pos q]; decide
            · rw [if_neg (fun z => absurd (z ▸ q.1) (by decide))]
              exact ⟨q.1, q.2 (by decide)⟩
          obtain ⟨oo, eo, hoo⟩ := i32b (n := 100) (by decide) ho.1 ho.2
          rw [eo, show (100 : Int32) = nI 100 from rfl, pk_sub hoo]
          by_cases d : fm / 20 ≤ 100 - oo
          · rw [pk_sub d]
            split
            · exact ⟨nI_pos' (by omega), nI_le (by omega) (by omega)⟩
            · decide
          · rw [if_neg (fun q => absurd q (Int32.not_lt.mpr (Int32.le_of_lt (pk_sneg (by omega) (by omega)))))]
            decide
      · rw [if_neg (fun q => absurd (q ▸ l.1) (by decide))]
        exact ⟨l.1, l.2 (by decide)⟩
    · decide
  · rw [if_neg c]
    simp only [xopt_pn]
    decide
theorem mul_div {s x : Int32} (hs : 1 ≤ s ∧ s ≤ 100) (hx : 0 ≤ x ∧ x ≤ 100) : s * x / s = x := by
  obtain ⟨a, rfl, ha⟩ := i32b (n := 100) (by decide) (Int32.le_trans (by decide) hs.1) hs.2
  obtain ⟨b, rfl, hb⟩ := i32b (n := 100) (by decide) hx.1 hx.2
  have a1 : 1 ≤ a := (nI_leI (a := 1) (by omega) (by omega)).mp hs.1
  have : a * b ≤ 100 * 100 := Nat.mul_le_mul ha hb
  rw [pk_mul, pk_div (by omega) (by omega) (by omega), Nat.mul_div_cancel_left _ (by omega)]
theorem inh_ok (h : INV nb nn M) (e : jkW M N) {k x : Nat} (hk : k < nn) (hx : x < 8) : (f_X11_inHundred (nI k) (nI x) N).1 = f_X10_inTheHundred k (M 26 x 0) (M 0 0 14) M ∧ (∀ a b c : Nat, ¬ a = 56 → (f_X11_inHundred (nI k) (nI x) N).2 a b c = N a b c) := by
  have h24 := h.nn24
  have hn := h.n1 hk
  have e94 : N 94 0 x = M 26 x 0 := by rw [e.row 94 (by decide)]; exact (h.tr.2.2 x hx).1
  have e13 : N 40 0 13 = M 0 0 14 := by rw [e.c40 13 (by omega)]; exact h.st.2.1.symm
  obtain ⟨t, et, ht, -⟩ := ix_6 (h.tr.1 x)
  unfold f_X11_inHundred
  simp only [xlet2_p, nI_clamp (show x < 2 ^ 31 by omega), nI_clamp (show k < 2 ^ 31 by omega), e94, e13, et]
  obtain ⟨w1, w2⟩ := worth_okW h e hk ht (M 0 0 14)
  refine ⟨?_, fun a b c q => wor2 q⟩
  have e82 : (f_X11_worthOf (nI k) (nI t) (M 0 0 14) N).2 82 0 k = M 29 k 2 := by rw [wor2 (by decide), e.row 82 (by decide)]; exact hn.b82
  rw [w1, e82]
  exact mul_div ⟨hn.s1, hn.s100⟩ (ith_b h k ht _)
/-- what the reference's hands are when pk have been handed on -/
def rP (M : xM) (nn : Nat) (a : Int32) (pk : Nat → Bool) (N : xM) : Prop := jkW M N ∧ ∀ k : Nat, k < nn → (N 85 0 k = a ↔ pk k = false ∧ M 29 k 5 = 0 ∧ M 29 k 8 = a) ∧ (pk k = false → N 91 0 k = M 29 k 6)
theorem rP_56 {M N K : xM} {a : Int32} {pk : Nat → Bool} (e : rP M nn a pk N) (h : ∀ x y z : Nat, ¬ x = 56 → K x y z = N x y z) : rP M nn a pk K := by
  refine ⟨jkW_56 e.1 h, fun k hk => ?_⟩
  rw [h 85 0 k (by decide), h 91 0 k (by decide)]
  exact e.2 k hk
theorem pa57 (h : INV nb nn M) {a b : Nat} (ha : a < 8) (hb : b < 8) (v handed more : Int32) (pk : Nat → Bool) : ∀ (m i n : Nat) (o : Option Nat) (N : xM) (kx : Int32 → Int32 → xM → Int32 × xM), rP M nn (nI a) pk N → i + m = nn → m < n → (∀ j, o = some j → j < i ∧ opk (ofr M (nI a) (M 26 a 0) b) pk j ≠ (-1)) → ∃ N', (∀ x y z : Nat, ¬ x = 56 → N' x y z = N x y z) ∧ f_X11_pay_L57 (nI a) (nI b) v handed more n (xopt o (-1000000) nI) (nI i) N kx = kx (xopt (wst (opk (ofr M (nI a) (M 26 a 0) b) pk) m i o) (-1000000) nI) (nI nn) N' := by
  have h24 := h.nn24
  intro m
  induction m with
  | zero =>
    intro i n o N kx hN h1 h2 h3
    obtain ⟨n, rfl⟩ : ∃ k, n = k + 1 := ⟨n - 1, by omega⟩
    obtain rfl : i = nn := by omega
    refine ⟨N, fun _ _ _ _ => rfl, ?_⟩
    rw [f_X11_pay_L57, hN.1.c40 30 (by omega), h.c30, if_pos (nI_le (Nat.le_refl _) (by omega)), wst]
  | succ m ih =>
    intro i n o N kx hN h1 h2 h3
    obtain ⟨n, rfl⟩ : ∃ k, n = k + 1 := ⟨n - 1, by omega⟩
    have hi : i < nn := by omega
    obtain ⟨p1, p2⟩ := hN.2 i hi
    have skip : ∀ K : xM, (∀ x y z : Nat, ¬ x = 56 → K x y z = N x y z) → ¬ (opk (ofr M (nI a) (M 26 a 0) b) pk i ≠ (-1) ∧ xopt o true (fun j => decide (opk (ofr M (nI a) (M 26 a 0) b) pk i < opk (ofr M (nI a) (M 26 a 0) b) pk j)) = true) → ∃ N', (∀ x y z : Nat, ¬ x = 56 → N' x y z = N x y z) ∧ f_X11_pay_L57 (nI a) (nI b) v handed more n (xopt o (-1000000) nI) (nI (i + 1)) K kx = kx (xopt (wst (opk (ofr M (nI a) (M 26 a 0) b) pk) (m + 1) i o) (-1000000) nI) (nI nn) N' := by
      intro K hK hc
      obtain ⟨N', r1, r2⟩ := ih (i + 1) n o K kx (rP_56 hN hK) (by omega) (by omega) (fun j hj => ⟨by have := (h3 j hj).1; omega, (h3 j hj).2⟩)
      refine ⟨N', fun x y z q => by rw [r1 x y z q, hK x y z q], ?_⟩
      rw [r2, wst, if_neg hc]
    have take : ∀ K : xM, (∀ x y z : Nat, ¬ x = 56 → K x y z = N x y z) → (opk (ofr M (nI a) (M 26 a 0) b) pk i ≠ (-1) ∧ xopt o true (fun j => decide (opk (ofr M (nI a) (M 26 a 0) b) pk i < opk (ofr M (nI a) (M 26 a 0) b) pk j)) = true) → ∃ N', (∀ x y z : Nat, ¬ x = 56 → N' x y z = N x y z) ∧ f_X11_pay_L57 (nI a) (nI b) v handed more n (nI i) (nI (i + 1)) K kx = kx (xopt (wst (opk (ofr M (nI a) (M 26 a 0) b) pk) (m + 1) i o) (-1000000) nI) (nI nn) N' := by
      intro K hK hc
      obtain ⟨N', r1, r2⟩ := ih (i + 1) n (some i) K kx (rP_56 hN hK) (by omega) (by omega) (fun j hj => by cases hj; exact ⟨by omega, hc.1⟩)
      refine ⟨N', fun x y z q => by rw [r1 x y z q, hK x y z q], ?_⟩
      rw [xopt_ps] at r2
      rw [r2, wst, if_pos hc]
    rw [f_X11_pay_L57, hN.1.c40 30 (by omega), h.c30, if_neg (nI_ge (by omega) (by omega))]
    simp only [xlet_p, xlet2_p, nI_clamp (show i < 2 ^ 31 by omega), nI_clamp (show b < 2 ^ 31 by omega), nI_1]
    have og : opk (ofr M (nI a) (M 26 a 0) b) pk i ≠ (-1) → pk i = false ∧ elg M (nI a) b i := by
      intro q
      cases e : pk i with
      | true => unfold opk at q; rw [e] at q; simp at q
      | false =>
        refine ⟨rfl, ?_⟩
        apply Classical.byContradiction
        intro z
        unfold opk at q
        rw [e, ofr_n z] at q
        simp at q
    by_cases c1 : N 85 0 i = nI a
    · rw [if_pos c1]
      obtain ⟨pf, m5, m8⟩ := p1.mp c1
      rw [p2 pf]
      by_cases c2 : (12 : Int32) ≤ M 29 i 6
      · rw [if_pos c2]
        exact skip N (fun _ _ _ _ => rfl) (fun q => absurd (og q.1).2.2.2.1 (Int32.not_lt.mpr c2))
      · rw [if_neg c2]
        obtain ⟨b1, b2⟩ := inh_ok h hN.1 hi hb
        rw [b1]
        generalize (f_X11_inHundred (nI i) (nI b) N).2 = K1 at b2
        have e95 : K1 95 0 b = M 26 b 1 := by rw [b2 95 0 b (by decide), hN.1.row 95 (by decide)]; exact (h.tr.2.2 b hb).2
        rw [e95]
        by_cases c3 : f_X10_inTheHundred i (M 26 b 0) (M 0 0 14) M < M 26 b 1
        · rw [if_pos c3]
          exact skip K1 b2 (fun q => (og q.1).2.2.2.2 c3)
        · rw [if_neg c3]
          have el : elg M (nI a) b i := ⟨m5, m8, Int32.not_le.mp c2, c3⟩
          have ov : opk (ofr M (nI a) (M 26 a 0) b) pk i = f_X10_inTheHundred i (M 26 a 0) (M 0 0 14) M := by
            unfold opk; rw [pf, if_neg (show ¬ (false = true) by decide), ofr_p el]
          obtain ⟨ta, eta, hta, -⟩ := ix_6 (h.tr.1 a)
          have ib : ∀ k, 0 ≤ f_X10_inTheHundred k (M 26 a 0) (M 0 0 14) M := fun k => by rw [eta]; exact (ith_b h k hta _).1
          have on : opk (ofr M (nI a) (M 26 a 0) b) pk i ≠ (-1) := by
            rw [ov]; intro q; exact absurd (q ▸ ib i) (by decide)
          cases o with
          | none =>
            simp only [xopt_pn] at skip take ⊢
            rw [if_pos trivial]
            exact take K1 b2 ⟨on, trivial⟩
          | some j =>
            obtain ⟨j1, j2⟩ := h3 j rfl
            obtain ⟨jp, je⟩ : pk j = false ∧ elg M (nI a) b j := by
              cases e : pk j with
              | true => unfold opk at j2; rw [e] at j2; simp at j2
              | false =>
                refine ⟨rfl, ?_⟩
                apply Classical.byContradiction
                intro z
                unfold opk at j2
                rw [e, ofr_n z] at j2
                simp at j2
            have ovj : opk (ofr M (nI a) (M 26 a 0) b) pk j = f_X10_inTheHundred j (M 26 a 0) (M 0 0 14) M := by
              unfold opk; rw [jp, if_neg (show ¬ (false = true) by decide), ofr_p je]
            simp only [xopt_ps] at skip take ⊢
            rw [if_neg (fun q => by have := nI_pos' (n := j) (by omega); rw [q] at this; exact absurd this (by decide))]
            obtain ⟨d1, d2⟩ := inh_ok h (jkW_56 hN.1 b2) hi ha
            rw [d1]
            generalize (f_X11_inHundred (nI i) (nI a) K1).2 = K2 at d2
            have d2' : ∀ x y z : Nat, ¬ x = 56 → K2 x y z = N x y z := fun x y z q => by rw [d2 x y z q, b2 x y z q]
            obtain ⟨f1, f2⟩ := inh_ok h (jkW_56 hN.1 d2') (show j < nn by omega) ha
            rw [f1]
            generalize (f_X11_inHundred (nI j) (nI a) K2).2 = K3 at f2
            have f2' : ∀ x y z : Nat, ¬ x = 56 → K3 x y z = N x y z := fun x y z q => by rw [f2 x y z q, d2' x y z q]
            rw [ov, ovj] at skip take
            by_cases c4 : f_X10_inTheHundred j (M 26 a 0) (M 0 0 14) M ≤ f_X10_inTheHundred i (M 26 a 0) (M 0 0 14) M
            · rw [if_pos c4]
              exact skip K3 f2' (fun q => absurd (of_decide_eq_true q.2) (Int32.not_lt.mpr c4))
            · rw [if_neg c4]
              exact take K3 f2' ⟨by rw [← ov]; exact on, decide_eq_true (Int32.not_le.mp c4)⟩
    · rw [if_neg c1]
      exact skip N (fun _ _ _ _ => rfl) (fun q => by
        obtain ⟨z1, z2⟩ := og q.1
        exact c1 (p1.mpr ⟨z1, z2.1, z2.2.1⟩))
end PAY3
