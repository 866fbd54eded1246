/-! pay agrees: the end -/
section PAY5
variable {nb nn : Nat} {M : xM}
theorem gN1_cg {i : Nat} {A H K : Nat → Int32} {r81 r82 r83 r84 r85 r86 r87 r88 r89 : Int32} {R90 R90' : Nat → Int32} {r91 : Int32} {R92 R93 R92' R93' : Nat → Int32} (q : gN1 i A H K r81 r82 r83 r84 r85 r86 r87 r88 r89 R90 r91 R92 R93) (h12 : (A 6).toNatClampNeg ≤ 12) (o10 : R90' (2 * i) = R90 (2 * i)) (o11 : R90' (2 * i + 1) = R90 (2 * i + 1)) (o12 : ∀ j : Nat, j < 12 → R92' (12 * i + j) = R92 (12 * i + j) ∧ R93' (12 * i + j) = R93 (12 * i + j)) : gN1 i A H K r81 r82 r83 r84 r85 r86 r87 r88 r89 R90' r91 R92' R93' := by
  refine ⟨q.i0, q.b81, q.b82, q.b83, q.b84, q.s1, q.s100, q.w0, q.w255, q.p0, q.p3, q.t85, q.t86, q.t87, q.t89, q.t88, q.cut, fun z => ?_, q.m91, q.m1, q.h8, q.hl, fun j hj => ?_⟩
  · rw [o10, o11]; exact q.hv z
  · rw [(o12 j (by omega)).1, (o12 j (by omega)).2]; exact q.hi j hj
theorem pyS_p (o : Nat → Int32) (sm : Nat → Nat) (v : Nat) : ∀ (f : Nat) (pk : Nat → Bool) (hd : Nat), (∀ k, pk k = true → k < nn ∧ o k ≠ (-1)) → ∀ k, (pyS o nn sm v f pk hd).2 k = true → k < nn ∧ o k ≠ (-1) := by
  intro f
  induction f with
  | zero => intro pk hd h k hk; exact h k hk
  | succ f ih =>
    intro pk hd h k hk
    rw [pyS] at hk
    cases hw : wst (opk o pk) nn 0 none with
    | none => rw [hw, xopt_pn] at hk; exact h k hk
    | some j =>
      rw [hw, xopt_ps] at hk
      obtain ⟨j1, j2⟩ := wst_s nn 0 none (fun j hj => by cases hj) j hw
      have jo : o j ≠ (-1) := by
        unfold opk at j2
        by_cases e : pk j = true
        · rw [if_pos e] at j2; exact absurd rfl j2
        · rw [if_neg e] at j2; exact j2
      have h2 : ∀ k, pka pk j k = true → k < nn ∧ o k ≠ (-1) := by
        intro k q
        rcases pka_t.mp q with q | q
        · exact h k q
        · rw [q]; exact ⟨by omega, jo⟩
      by_cases c : v ≤ hd + sm j
      · rw [if_pos c] at hk; exact h2 k hk
      · rw [if_neg c] at hk; exact ih _ _ h2 k hk
theorem INV_pay (h : INV nb nn M) {a b : Nat} (hb : b < 8) (hab : nI b ≠ nI a) {pk : Nat → Bool} (hp : ∀ k, pk k = true → k < nn ∧ elg M (nI a) b k) {C D : xM} {o : Nat → Int32} (hC : cS M nn o (nI b) (M 0 0 14) pk C) (hD : rS M C (nI b) (M 0 0 14) pk D) : INV nb nn D := by
  have h24 := h.nn24
  have g8 := h.no
  have lo : ∀ x y z : Nat, x < 40 → x ≠ 9 → D x y z = hmd M pk (nI b) (M 0 0 14) x y z := fun x y z q1 q2 => by rw [hD.1 x y z q1, hC.1 x y z q2]
  have hi := hD.2
  refine INV_no h (fun x y z q1 q2 => ?_) ?_
  · rcases Nat.lt_or_ge x 40 with w | w
    · rw [lo x y z w (fun e => q1 (by unfold jk; omega)), hmd_o (fun e => q2 (by unfold nk; omega)) (fun e => q2 (by unfold nk; omega)) (fun e => q2 (by unfold nk; omega))]
    · rw [hi x y z w q1, rmd_o (fun e => q2 (by unfold nk; omega))]
  · have row : ∀ x : Nat, 41 ≤ x → ¬ (85 ≤ x ∧ x ≤ 93) → x < 94 → x ≠ 56 → D x 0 = M x 0 := fun x q1 q2 q3 q4 => by
      funext z
      rw [hi x 0 z (by omega) (by unfold jk; omega), rmd_o q2]
    have sh : ∀ x : Nat, x = 86 ∨ x = 87 ∨ x = 88 ∨ x = 89 ∨ x = 90 → ∀ z, D x 0 z = M x 0 z := fun x q z => by
      rw [hi x 0 z (by omega) (by unfold jk; omega)]
      unfold rmd
      rw [if_neg (by omega), if_neg (by omega), if_neg (by omega), if_neg (by omega)]
    obtain ⟨g1, g2, g3, g4, g5, g6, g7, g8', g9⟩ := g8
    rw [row 81 (by decide) (by decide) (by decide) (by decide), row 82 (by decide) (by decide) (by decide) (by decide), row 83 (by decide) (by decide) (by decide) (by decide), row 84 (by decide) (by decide) (by decide) (by decide)]
    have c29 : ∀ i c : Nat, c ≠ 5 → c ≠ 6 → c ≠ 8 → D 29 i c = M 29 i c := fun i c q1 q2 q3 => by rw [lo 29 i c (by decide) (by decide), hmd_o (by omega) (by decide) (by decide)]
    have cnt : ∀ i : Nat, pk i = true → ∃ n, M 29 i 6 = nI n ∧ 1 ≤ n ∧ n < 12 := fun i q => by
      obtain ⟨q1, q2⟩ := hp i q
      obtain ⟨n, en, hn⟩ := cnt_n1 h i
      refine ⟨n, en, ?_, ?_⟩
      · have := (h.n1 q1).m1
        rw [en] at this
        exact (nI_leI (a := 1) (by omega) (by omega)).mp this
      · have := q2.2.2.1
        rw [en] at this
        exact (nI_ltI (b := 12) (by omega) (by decide)).mp this
    have d6 : ∀ i : Nat, pk i = true → ∀ n, M 29 i 6 = nI n → D 29 i 6 = nI (n + 1) := fun i q n en => by
      rw [lo 29 i 6 (by decide) (by decide)]
      unfold hmd
      rw [if_neg (by omega), if_neg (by omega), if_neg (by omega), if_neg (by omega), if_pos ⟨q, rfl, rfl⟩, en, nI_1]
    have d91 : ∀ i : Nat, D 91 0 i = if pk i = true then M 29 i 6 + 1 else M 91 0 i := fun i => by
      rw [hi 91 0 i (by decide) (by unfold jk; omega)]
      unfold rmd
      simp
    refine ⟨?_, fun i => ?_, fun i => ?_, fun i => ?_, g5, fun i => ?_, g7, fun i hin => ?_, fun i hi1 hi2 => ?_⟩
    · rw [hi 40 0 30 (by decide) (by unfold jk; omega), rmd_o (by decide)]; exact g1
    · by_cases q : pk i = true
      · obtain ⟨n, en, n1, n2⟩ := cnt i q
        rw [d6 i q n en]
        exact ⟨nI_pos' (by omega), nI_le (b := 12) (by omega) (by decide)⟩
      · rw [lo 29 i 6 (by decide) (by decide), hmd_n (by simpa using q)]; exact g2 i
    · rw [c29 i 1 (by decide) (by decide) (by decide)]; exact g3 i
    · rw [c29 i 0 (by decide) (by decide) (by decide)]; exact g4 i
    · rw [d91]
      by_cases q : pk i = true
      · obtain ⟨n, en, n1, n2⟩ := cnt i q
        rw [if_pos q, en, nI_1]
        exact ⟨nI_pos' (by omega), nI_le (b := 12) (by omega) (by decide)⟩
      · rw [if_neg q]; exact g6 i
    · have hn := h.n1 hin
      rw [sh 86 (by omega), sh 87 (by omega), sh 88 (by omega), sh 89 (by omega)]
      by_cases q : pk i = true
      · obtain ⟨n, en, n1, n2⟩ := cnt i q
        obtain ⟨q1, q2⟩ := hp i q
        have ec : (M 29 i 6).toNatClampNeg = n := by rw [en]; exact nI_clamp (by omega)
        refine gN1_h hn en (by omega) true (to := nI b) (w := M 0 0 14) (fun c z1 z2 z3 _ _ => c29 i c z1 z2 z3) ?_ ?_ ⟨nI_pos' (by omega), nI_le (b := 7) (by omega) (by decide)⟩ ?_ (fun _ => n2) (fun z => by cases z) (fun c => ?_) (fun c => ?_) (fun c hc => ?_) (fun c hc => ?_) ?_ ?_ ?_ ?_ ?_
        · rw [lo 29 i 5 (by decide) (by decide)]; unfold hmd; rw [if_pos ⟨q, rfl, rfl⟩]
        · rw [lo 29 i 8 (by decide) (by decide)]; unfold hmd; rw [if_neg (by omega), if_pos ⟨q, rfl, rfl⟩]
        · rw [d6 i q n en, if_pos rfl]
        · rw [lo 30 i c (by decide) (by decide)]; unfold hmd; rw [ec]; simp [q]
        · rw [lo 31 i c (by decide) (by decide)]; unfold hmd; rw [ec]; simp [q]
        · rw [hi 92 0 _ (by decide) (by unfold jk; omega)]
          unfold rmd
          have x1 : (12 * i + c) / 12 = i := by omega
          have x2 : (12 * i + c) % 12 = c := by omega
          rw [x1, x2, ec]; simp [q]
        · rw [hi 93 0 _ (by decide) (by unfold jk; omega)]
          unfold rmd
          have x1 : (12 * i + c) / 12 = i := by omega
          have x2 : (12 * i + c) % 12 = c := by omega
          rw [x1, x2, ec]; simp [q]
        · rw [d91, if_pos q, d6 i q n en, en, nI_1]
        · rw [hi 85 0 i (by decide) (by unfold jk; omega)]; unfold rmd; rw [if_pos ⟨rfl, rfl, q⟩]
        · rw [hn.t86, if_neg (by rw [q2.1]; decide)]
        · rw [hn.t87, if_neg (by rw [q2.1]; decide)]
        · rw [hn.t89, if_neg (by rw [q2.1]; decide)]
      · have qf : pk i = false := by simpa using q
        have a29 : D 29 i = M 29 i := by funext c; rw [lo 29 i c (by decide) (by decide), hmd_n qf]
        have a30 : D 30 i = M 30 i := by funext c; rw [lo 30 i c (by decide) (by decide), hmd_n qf]
        have a31 : D 31 i = M 31 i := by funext c; rw [lo 31 i c (by decide) (by decide), hmd_n qf]
        have a85 : D 85 0 i = M 85 0 i := by rw [hi 85 0 i (by decide) (by unfold jk; omega)]; unfold rmd; simp [qf]
        rw [a29, a30, a31, a85, d91, if_neg q]
        refine gN1_cg hn (tnc_le (N := 12) (by decide) (g2 i).2) (sh 90 (by omega) _) (sh 90 (by omega) _) (fun j hj => ⟨?_, ?_⟩)
        · rw [hi 92 0 _ (by decide) (by unfold jk; omega)]
          unfold rmd
          have x1 : (12 * i + j) / 12 = i := by omega
          rw [x1]; simp [qf]
        · rw [hi 93 0 _ (by decide) (by unfold jk; omega)]
          unfold rmd
          have x1 : (12 * i + j) / 12 = i := by omega
          rw [x1]; simp [qf]
    · have qf : pk i = false := by
        cases e : pk i with
        | false => rfl
        | true => have := (hp i e).1; omega
      rw [sh 86 (by omega), sh 87 (by omega), sh 88 (by omega), sh 89 (by omega), d91, qf]
      exact g9 i hi1 hi2
theorem s_pay (h : INV nb nn M) (fr to v : Int32) : R40 M (f_X10_pay fr to v M).2 ∧ (f_X10_pay fr to v M).1 = (f_X11_pay fr to v (f_X10_pay fr to v M).2).1 ∧ INV nb nn (f_X11_pay fr to v (f_X10_pay fr to v M).2).2 := by
  have h24 := h.nn24
  have hI := INV_thr (v := 0) h
  by_cases c : (0 ≤ fr ∧ fr ≤ 7) ∧ (0 ≤ to ∧ to ≤ 7) ∧ fr ≠ to ∧ (1 ≤ v ∧ v ≤ 999)
  · obtain ⟨c1, c2, c3, c4⟩ := c
    obtain ⟨a, rfl, ha, hac⟩ := ix_8 c1
    obtain ⟨b, rfl, hb, hbc⟩ := ix_8 c2
    obtain ⟨vv, rfl, hvv⟩ := i32b (n := 999) (by decide) (Int32.le_trans (by decide) c4.1) c4.2
    have v1 : 1 ≤ vv := (nI_leI (a := 1) (by omega) (by omega)).mp c4.1
    have hab : a ≠ b := fun q => c3 (by rw [q])
    obtain ⟨ta, eta, hta, -⟩ := ix_6 (h.tr.1 a)
    have K1 : f_X10_pay (nI a) (nI b) (nI vv) M = f_X10_pay_L62 (nI a) (nI b) (nI vv) a b (xmu (0 : Int32) 24 + 1) (0 : Int32) (0 : Int32) (f_X10_offerNotes (nI a) (M 26 a 0) b M) (fun handed_34 turn_35 M_36 => (handed_34, M_36)) := by
      unfold f_X10_pay
      simp only [xlet_p, traderOf_eq, if_pos c1, if_pos c2, xopt_ps, hac, hbc]
      rw [if_neg c3, if_neg (Int32.not_lt.mpr c4.1), if_pos c4.2]
    have K2 : ∀ N : xM, f_X11_pay (nI a) (nI b) (nI vv) N = f_X11_pay_L45 (nI a) (nI b) (nI vv) ((if (1 : Int32) = 0 then 0 else 1 + xmu (0 : Int32) (nI vv)) + 1) (0 : Int32) (1 : Int32) (xup N 40 0 0 0) (fun handed_42 more_43 M_44 => (handed_42, M_44)) := by
      intro N
      unfold f_X11_pay
      simp only [xlet_p, isTrader_eq, in_1_999, xb_0]
      rw [if_neg (by simp [c1]), if_neg (by simp [c2]), if_neg c3, if_neg (by simp [c4])]
    have offE : f_X10_offerNotes (nI a) (M 26 a 0) b M = xrow M 9 0 (fun c => if 0 ≤ c ∧ c < nn then ofr M (nI a) (M 26 a 0) b c else M 9 0 c) := by
      unfold f_X10_offerNotes
      have L := offL h (nI a) c1.1 (M 26 a 0) (b := b) nn 0 (xmu (0 : Int32) (M 0 0 13) + 1) M (fun k_23 M_24 => M_24) (fun _ _ _ _ => rfl) (by omega) (by rw [h.c13]; unfold xmu; rw [nI_toInt (by omega)]; simp)
      rw [show nI 0 = (0 : Int32) from rfl] at L
      exact L
    have og : ∀ k, ofr M (nI a) (M 26 a 0) b k ≠ (-1) → elg M (nI a) b k := fun k q => by
      apply Classical.byContradiction
      intro z
      exact q (ofr_n z)
    have S0 : cS M nn (ofr M (nI a) (M 26 a 0) b) (nI b) (M 0 0 14) (fun _ => false) (xrow M 9 0 (fun c => if 0 ≤ c ∧ c < nn then ofr M (nI a) (M 26 a 0) b c else M 9 0 c)) := by
      refine ⟨fun x y z q => ?_, fun k hk => ?_⟩
      · rw [xrow_at, if_neg (fun w => q w.1), hmd_n rfl]
      · rw [xrow_same, if_pos (by omega)]
        unfold opk
        simp
    have hsm : ∀ k : Nat, k < nn → M 29 k 2 = nI (M 29 k 2).toNatClampNeg ∧ (M 29 k 2).toNatClampNeg ≤ 100 ∧ 1 ≤ (M 29 k 2).toNatClampNeg := fun k hk => by
      have hn := h.n1 hk
      obtain ⟨s, es, hs⟩ := i32b (n := 100) (by decide) (Int32.le_trans (by decide) hn.s1) hn.s100
      have := hn.s1
      rw [es] at this
      rw [es, nI_clamp (by omega)]
      exact ⟨rfl, hs, (nI_leI (a := 1) (by omega) (by omega)).mp this⟩
    obtain ⟨C, p1, p2⟩ := cpL h (nI a) (nI b) (nI vv) a b (ofr M (nI a) (M 26 a 0) b) (fun k => (M 29 k 2).toNatClampNeg) hvv rfl (fun k hk => ⟨(hsm k hk).1, (hsm k hk).2.1⟩) (fun k hk => by
      by_cases z : elg M (nI a) b k
      · rw [ofr_p z, eta]; exact (ith_b h k hta _).2
      · rw [ofr_n z]; decide) (fun k hk q => ⟨(og k q).2.2.1, (og k q).1⟩) 24 0 (xmu (0 : Int32) 24 + 1) (fun _ => false) 0 _ (by omega) (by decide) (by omega) S0
    rw [show nI 0 = (0 : Int32) from rfl] at p1
    rw [K1, offE, p1]
    dsimp only
    rw [K2]
    have rC : R40 M C := fun x y z q => by rw [p2.1 x y z (by omega), hmd_o (by omega) (by omega) (by omega)]
    have R0 : rS M C (nI b) (M 0 0 14) (fun _ => false) (xup C 40 0 0 0) := by
      refine ⟨fun x y z q => xup_k (by omega), fun x y z q1 q2 => ?_⟩
      rw [xup_at, if_neg (fun w => q2 (by unfold jk; omega)), rC x y z q1]
      unfold rmd
      simp
    obtain ⟨D, d1, d2⟩ := pa45 h ha hb hab C (fun k => (M 29 k 2).toNatClampNeg) hvv (fun k hk => hsm k hk) 24 ((if (1 : Int32) = 0 then 0 else 1 + xmu (0 : Int32) (nI vv)) + 1) (fun _ => false) 0 (xup C 40 0 0 0) (Nat.le_trans (cntP_le _ _ _) h24) (by
      rw [if_neg (by decide)]
      unfold xmu
      rw [nI_toInt (by omega)]
      simp
      omega) (by omega) R0
    rw [show nI 0 = (0 : Int32) from rfl] at d1
    rw [d1]
    refine ⟨rC, rfl, INV_pay h hb (fun q => hab ((nI_eq (by omega) (by omega)).mp q).symm) (fun k hk => ?_) p2 d2⟩
    obtain ⟨w1, w2⟩ := pyS_p (ofr M (nI a) (M 26 a 0) b) (fun k => (M 29 k 2).toNatClampNeg) vv 24 (fun _ => false) 0 (fun k q => by cases q) k hk
    exact ⟨w1, og k w2⟩
  · have K1 : f_X10_pay fr to v M = ((-1000001), M) := by
      unfold f_X10_pay
      simp only [xlet_p, traderOf_eq]
      by_cases c1 : 0 ≤ fr ∧ fr ≤ 7
      · simp only [if_pos c1, xopt_ps]
        by_cases c2 : 0 ≤ to ∧ to ≤ 7
        · simp only [if_pos c2, xopt_ps]
          by_cases c3 : fr = to
          · rw [if_pos c3]
          · rw [if_neg c3]
            by_cases c4 : v < 1
            · rw [if_pos c4]
            · rw [if_neg c4, if_neg (fun q => c ⟨c1, c2, c3, Int32.not_lt.mp c4, q⟩)]
        · simp only [if_neg c2, xopt_pn]
      · simp only [if_neg c1, xopt_pn]
        by_cases c2 : 0 ≤ to ∧ to ≤ 7
        · simp only [if_pos c2, xopt_ps]
        · simp only [if_neg c2, xopt_pn]
    have K2 : f_X11_pay fr to v M = ((-1000001), xup M 40 0 0 0) := by
      unfold f_X11_pay
      simp only [xlet_p, isTrader_eq, in_1_999, xb_0]
      by_cases c1 : 0 ≤ fr ∧ fr ≤ 7
      · rw [if_neg (by simp [c1])]
        by_cases c2 : 0 ≤ to ∧ to ≤ 7
        · rw [if_neg (by simp [c2])]
          by_cases c3 : fr = to
          · rw [if_pos c3]
          · have c4 : ¬ (1 ≤ v ∧ v ≤ 999) := fun z => c ⟨c1, c2, c3, z⟩
            rw [if_neg c3, if_pos (by simp only [c4, decide_false])]
        · rw [if_pos (by simp only [c2, decide_false])]
      · rw [if_pos (by simp only [c1, decide_false])]
    rw [K1]
    dsimp only
    rw [K2]
    exact ⟨R40_rf M, rfl, hI⟩
end PAY5
