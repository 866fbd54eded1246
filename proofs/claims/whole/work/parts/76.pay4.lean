/-! pay agrees -/
def rmd (M : xM) (pk : Nat → Bool) (to w : Int32) (a b c : Nat) : Int32 := if a = 85 ∧ b = 0 ∧ pk c = true then to else if a = 92 ∧ b = 0 ∧ pk (c / 12) = true ∧ c % 12 = (M 29 (c / 12) 6).toNatClampNeg then to else if a = 93 ∧ b = 0 ∧ pk (c / 12) = true ∧ c % 12 = (M 29 (c / 12) 6).toNatClampNeg then w else if a = 91 ∧ b = 0 ∧ pk c = true then M 29 c 6 + 1 else M a b c
section PAY4
variable {nb nn : Nat} {M : xM}
def rS (M C : xM) (to w : Int32) (pk : Nat → Bool) (N : xM) : Prop := (∀ a b c : Nat, a < 40 → N a b c = C a b c) ∧ ∀ a b c : Nat, 40 ≤ a → ¬ jk a b c → N a b c = rmd M pk to w a b c
theorem rS_56 {M C N K : xM} {to w : Int32} {pk : Nat → Bool} (e : rS M C to w pk N) (h : ∀ x y z : Nat, ¬ x = 56 → K x y z = N x y z) : rS M C to w pk K :=
  ⟨fun a b c q => by rw [h a b c (by omega)]; exact e.1 a b c q, fun a b c q1 q2 => by rw [h a b c (fun z => q2 (by unfold jk; omega))]; exact e.2 a b c q1 q2⟩
theorem rmd_o {pk : Nat → Bool} {to w : Int32} {a b c : Nat} (h : ¬ (85 ≤ a ∧ a ≤ 93)) : rmd M pk to w a b c = M a b c := by
  unfold rmd
  rw [if_neg (by omega), if_neg (by omega), if_neg (by omega), if_neg (by omega)]
theorem rS_P (h : INV nb nn M) {C N : xM} {a : Nat} (ha : a < 8) {to w : Int32} (hto : to ≠ nI a) {pk : Nat → Bool} (e : rS M C to w pk N) : rP M nn (nI a) pk N := by
  refine ⟨fun x y z q1 q2 q3 => by rw [e.2 x y z q1 q2, rmd_o q3], fun k hk => ⟨?_, fun q => ?_⟩⟩
  · have hn := h.n1 hk
    rw [e.2 85 0 k (by decide) (by unfold jk; omega)]
    unfold rmd
    have an : ¬ nI a = -1000000 := fun q => by have := nI_pos' (n := a) (by omega); rw [q] at this; exact absurd this (by decide)
    cases ep : pk k with
    | true =>
      rw [if_pos ⟨rfl, rfl, rfl⟩]
      exact ⟨fun q => absurd q hto, fun q => by simp at q⟩
    | false =>
      rw [if_neg (by simp), if_neg (by omega), if_neg (by omega), if_neg (by omega), hn.t85]
      by_cases c : M 29 k 5 = 0
      · rw [if_pos c]
        exact ⟨fun q => ⟨rfl, c, q⟩, fun q => q.2.2⟩
      · rw [if_neg c]
        exact ⟨fun q => absurd q.symm an, fun q => absurd q.2.1 c⟩
  · rw [e.2 91 0 k (by decide) (by unfold jk; omega)]
    unfold rmd
    rw [if_neg (by omega), if_neg (by omega), if_neg (by omega), if_neg (by rw [q]; simp)]
    exact (h.n1 hk).m91
theorem pa45 (h : INV nb nn M) {a b : Nat} (ha : a < 8) (hb : b < 8) (hab : a ≠ b) (C : xM) (sm : Nat → Nat) {v : Nat} (hv : v ≤ 999) (hsm : ∀ k : Nat, k < nn → M 29 k 2 = nI (sm k) ∧ sm k ≤ 100 ∧ 1 ≤ sm k) : ∀ (f n : Nat) (pk : Nat → Bool) (hd : Nat) (N : xM), cntP (fun k => !pk k) nn 0 ≤ f → v - hd + 2 ≤ n → hd < v → rS M C (nI b) (M 0 0 14) pk N → ∃ N', f_X11_pay_L45 (nI a) (nI b) (nI v) n (nI hd) 1 N (fun handed_42 more_43 M_44 => (handed_42, M_44)) = (nI (pyS (ofr M (nI a) (M 26 a 0) b) nn sm v f pk hd).1, N') ∧ rS M C (nI b) (M 0 0 14) (pyS (ofr M (nI a) (M 26 a 0) b) nn sm v f pk hd).2 N' := by
  have h24 := h.nn24
  have hto : nI b ≠ nI a := fun q => hab ((nI_eq (by omega) (by omega)).mp q).symm
  have none_ : ∀ (n : Nat) (pk : Nat → Bool) (hd : Nat) (N : xM), 2 ≤ n → rS M C (nI b) (M 0 0 14) pk N → wst (opk (ofr M (nI a) (M 26 a 0) b) pk) nn 0 none = none → ∃ N', f_X11_pay_L45 (nI a) (nI b) (nI v) n (nI hd) 1 N (fun handed_42 more_43 M_44 => (handed_42, M_44)) = (nI hd, N') ∧ rS M C (nI b) (M 0 0 14) pk N' := by
    intro n pk hd N hn hS hw
    obtain ⟨n, rfl⟩ : ∃ k, n = k + 2 := ⟨n - 2, by omega⟩
    have e30 : N 40 0 30 = nI nn := by rw [hS.2 40 0 30 (by decide) (by unfold jk; omega), rmd_o (by omega)]; exact h.c30
    obtain ⟨N', r1, r2⟩ := pa57 h ha hb (nI v) (nI hd) 1 pk nn 0 (xmu (0 : Int32) (N 40 0 30) + 1) none N (fun worst_24 k_25 M_26 => if worst_24 = (-1000000) then f_X11_pay_L45 (nI a) (nI b) (nI v) (n + 1) (nI hd) (0 : Int32) M_26 (fun handed_42 more_43 M_44 => (handed_42, M_44)) else xlet (f_X11_comeTo worst_24 (nI b) M_26) fun M_31 => xlet (nI hd + (M_31 82 0 worst_24.toNatClampNeg)) fun x4_32 => if nI v ≤ x4_32 then f_X11_pay_L45 (nI a) (nI b) (nI v) (n + 1) x4_32 (0 : Int32) M_31 (fun handed_42 more_43 M_44 => (handed_42, M_44)) else f_X11_pay_L45 (nI a) (nI b) (nI v) (n + 1) x4_32 (1 : Int32) M_31 (fun handed_42 more_43 M_44 => (handed_42, M_44))) (rS_P h ha hto hS) (by omega) (by rw [e30]; unfold xmu; rw [nI_toInt (by omega)]; simp) (fun j hj => by cases hj)
    refine ⟨N', ?_, rS_56 hS r1⟩
    rw [xopt_pn, show nI 0 = (0 : Int32) from rfl, hw, xopt_pn, if_pos rfl] at r2
    rw [f_X11_pay_L45, if_neg (by decide), r2, f_X11_pay_L45, if_pos rfl]
  intro f
  induction f with
  | zero =>
    intro n pk hd N h1 h2 h3 hS
    refine none_ n pk hd N (by omega) hS (wst_n nn 0 (fun k k1 k2 => ?_))
    have q := (cntP_0 _ _ _).mp (show cntP (fun k => !pk k) nn 0 = 0 by omega) k k1 k2
    unfold opk
    rw [if_pos (by simpa using q)]
  | succ f ih =>
    intro n pk hd N h1 h2 h3 hS
    rw [pyS]
    cases hw : wst (opk (ofr M (nI a) (M 26 a 0) b) pk) nn 0 none with
    | none =>
      simp only [xopt_pn]
      exact none_ n pk hd N (by omega) hS hw
    | some k =>
      simp only [xopt_ps]
      obtain ⟨n, rfl⟩ : ∃ z, n = z + 1 := ⟨n - 1, by omega⟩
      obtain ⟨k1, k2⟩ := wst_s nn 0 none (fun j hj => by cases hj) k hw
      have hk : k < nn := by omega
      have hn1 := h.n1 hk
      have pkf : pk k = false := by
        cases e : pk k with
        | false => rfl
        | true => unfold opk at k2; rw [e] at k2; simp at k2
      have el : elg M (nI a) b k := by
        apply Classical.byContradiction
        intro z
        unfold opk at k2
        rw [pkf, ofr_n z] at k2
        simp at k2
      obtain ⟨s1, s2, s3⟩ := hsm k hk
      have e30 : N 40 0 30 = nI nn := by rw [hS.2 40 0 30 (by decide) (by unfold jk; omega), rmd_o (by omega)]; exact h.c30
      obtain ⟨K, r1, r2⟩ := pa57 h ha hb (nI v) (nI hd) 1 pk nn 0 (xmu (0 : Int32) (N 40 0 30) + 1) none N (fun worst_24 k_25 M_26 => if worst_24 = (-1000000) then f_X11_pay_L45 (nI a) (nI b) (nI v) n (nI hd) (0 : Int32) M_26 (fun handed_42 more_43 M_44 => (handed_42, M_44)) else xlet (f_X11_comeTo worst_24 (nI b) M_26) fun M_31 => xlet (nI hd + (M_31 82 0 worst_24.toNatClampNeg)) fun x4_32 => if nI v ≤ x4_32 then f_X11_pay_L45 (nI a) (nI b) (nI v) n x4_32 (0 : Int32) M_31 (fun handed_42 more_43 M_44 => (handed_42, M_44)) else f_X11_pay_L45 (nI a) (nI b) (nI v) n x4_32 (1 : Int32) M_31 (fun handed_42 more_43 M_44 => (handed_42, M_44))) (rS_P h ha hto hS) (by omega) (by rw [e30]; unfold xmu; rw [nI_toInt (by omega)]; simp) (fun j hj => by cases hj)
      have kn : ¬ nI k = -1000000 := fun q => by have := nI_pos' (n := k) (by omega); rw [q] at this; exact absurd this (by decide)
      rw [xopt_pn, show nI 0 = (0 : Int32) from rfl, hw, xopt_ps, if_neg kn] at r2
      rw [f_X11_pay_L45, if_neg (by decide), r2]
      have KS := rS_56 hS r1
      obtain ⟨m, em, hm⟩ := cnt_n1 h k
      have m12 : m < 12 := by
        have := el.2.2.1
        rw [em] at this
        exact (nI_ltI (b := 12) (by omega) (by decide)).mp this
      have m1 : 1 ≤ m := by
        have := hn1.m1
        rw [em] at this
        exact (nI_leI (a := 1) (by omega) (by omega)).mp this
      have k91 : K 91 0 k = nI m := by
        rw [KS.2 91 0 k (by decide) (by unfold jk; omega)]
        unfold rmd
        rw [if_neg (by omega), if_neg (by omega), if_neg (by omega), if_neg (by rw [pkf]; simp), hn1.m91]
        exact em
      have k92 : K 92 0 (12 * k + m - 1) = nI a := by
        rw [KS.2 92 0 _ (by decide) (by unfold jk; omega)]
        unfold rmd
        have d1 : (12 * k + m - 1) / 12 = k := by omega
        rw [if_neg (by omega), d1, if_neg (by rw [pkf]; simp), if_neg (by omega), if_neg (by omega), show 12 * k + m - 1 = 12 * k + (m - 1) by omega, (hn1.hi (m - 1) (by rw [em, nI_clamp (by omega)]; omega)).1]
        have := hn1.hl el.1 el.2.2.1
        rw [em, nI_clamp (by omega)] at this
        rw [this]
        exact el.2.1
      have k13 : K 40 0 13 = M 0 0 14 := by
        rw [KS.2 40 0 13 (by decide) (by unfold jk; omega), rmd_o (by omega)]
        exact h.st.2.1.symm
      have at1 := fun x y z => come_at (t := nI b) (show k < 24 by omega) k91 hm x y z
      have add : m < 12 ∧ (m = 0 ∨ K 92 0 (12 * k + m - 1) ≠ nI b) := ⟨m12, Or.inr (by rw [k92]; exact Ne.symm hto)⟩
      simp only [add, true_and, k13] at at1
      simp only [xlet_p, nI_clamp (show k < 2 ^ 31 by omega)]
      generalize f_X11_comeTo (nI k) (nI b) K = N2 at at1
      have n82 : N2 82 0 k = nI (sm k) := by
        rw [at1, if_neg (by omega), if_neg (by omega), if_neg (by omega), if_neg (by omega), KS.2 82 0 k (by decide) (by unfold jk; omega), rmd_o (by omega), hn1.b82]
        exact s1
      rw [n82, nI_add]
      have S2 : rS M C (nI b) (M 0 0 14) (pka pk k) N2 := by
        refine ⟨fun x y z q => ?_, fun x y z q1 q2 => ?_⟩
        · rw [at1, if_neg (by omega), if_neg (by omega), if_neg (by omega), if_neg (by omega)]
          exact KS.1 x y z q
        · rw [at1, KS.2 x y z q1 q2]
          have pko : ∀ i, i ≠ k → pka pk k i = pk i := fun i hi => by unfold pka; simp [hi]
          have pkt : pka pk k k = true := pka_t.mpr (Or.inr rfl)
          unfold rmd
          have ec : (M 29 k 6).toNatClampNeg = m := by rw [em]; exact nI_clamp (by omega)
          have ez : (z = 12 * k + m) ↔ (z / 12 = k ∧ z % 12 = m) := by omega
          by_cases x85 : x = 85 ∧ y = 0
          · obtain ⟨rfl, rfl⟩ := x85
            by_cases zk : z = k
            · simp [zk, pkt]
            · simp [zk, pko z zk]
          · by_cases x92 : x = 92 ∧ y = 0
            · obtain ⟨rfl, rfl⟩ := x92
              by_cases zk : z / 12 = k
              · simp [ez, zk, pkt, pkf, ec]
              · simp [ez, zk, pko _ zk]
            · by_cases x93 : x = 93 ∧ y = 0
              · obtain ⟨rfl, rfl⟩ := x93
                by_cases zk : z / 12 = k
                · simp [ez, zk, pkt, pkf, ec]
                · simp [ez, zk, pko _ zk]
              · by_cases x91 : x = 91 ∧ y = 0
                · obtain ⟨rfl, rfl⟩ := x91
                  by_cases zk : z = k
                  · simp [zk, pkt, em, nI_1]
                  · simp [zk, pko z zk]
                · have y1 : ∀ P, ¬ (x = 85 ∧ y = 0 ∧ P) := fun P w => x85 ⟨w.1, w.2.1⟩
                  have y2 : ∀ P, ¬ (x = 92 ∧ y = 0 ∧ P) := fun P w => x92 ⟨w.1, w.2.1⟩
                  have y3 : ∀ P, ¬ (x = 93 ∧ y = 0 ∧ P) := fun P w => x93 ⟨w.1, w.2.1⟩
                  have y4 : ∀ P, ¬ (x = 91 ∧ y = 0 ∧ P) := fun P w => x91 ⟨w.1, w.2.1⟩
                  simp only [y1, y2, y3, y4, if_false]
      by_cases c : v ≤ hd + sm k
      · rw [if_pos c, if_pos (nI_le c (by omega))]
        obtain ⟨n, rfl⟩ : ∃ z, n = z + 1 := ⟨n - 1, by omega⟩
        exact ⟨N2, by rw [f_X11_pay_L45, if_pos rfl], S2⟩
      · rw [if_neg c, if_neg (nI_ge (by omega) (by omega))]
        refine ih n (pka pk k) (hd + sm k) N2 ?_ (by omega) (by omega) S2
        have := cntP_st (p := fun i => !pka pk k i) (q := fun i => !pk i) nn 0 (fun i hi => by
          unfold pka at hi
          simp at hi
          simp [hi.1]) ⟨k, by omega, by omega, by simp [pkf], by unfold pka; simp⟩
        omega
end PAY4
