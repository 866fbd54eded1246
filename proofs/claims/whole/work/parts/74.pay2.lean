/-! pay: the payment itself, on the class's side -/
def opk (o : Nat → Int32) (pk : Nat → Bool) (k : Nat) : Int32 := if pk k = true then (-1) else o k
def pka (pk : Nat → Bool) (k : Nat) : Nat → Bool := fun i => pk i || decide (i = k)
theorem pka_t {pk : Nat → Bool} {k i : Nat} : pka pk k i = true ↔ pk i = true ∨ i = k := by unfold pka; simp
def pyS (o : Nat → Int32) (nn : Nat) (sm : Nat → Nat) (v : Nat) : Nat → (Nat → Bool) → Nat → Nat × (Nat → Bool)
  | 0, pk, h => (h, pk)
  | f + 1, pk, h => xopt (wst (opk o pk) nn 0 none) (h, pk) (fun k => if v ≤ h + sm k then (h + sm k, pka pk k) else pyS o nn sm v f (pka pk k) (h + sm k))
def hmd (M : xM) (pk : Nat → Bool) (to w : Int32) (a b c : Nat) : Int32 := if pk b = true ∧ a = 29 ∧ c = 5 then 0 else if pk b = true ∧ a = 29 ∧ c = 8 then to else if pk b = true ∧ a = 30 ∧ c = (M 29 b 6).toNatClampNeg then to else if pk b = true ∧ a = 31 ∧ c = (M 29 b 6).toNatClampNeg then w else if pk b = true ∧ a = 29 ∧ c = 6 then M 29 b 6 + 1 else M a b c
theorem hmd_n {M : xM} {pk : Nat → Bool} {to w : Int32} {a b c : Nat} (h : pk b = false) : hmd M pk to w a b c = M a b c := by
  unfold hmd
  rw [h]
  simp
theorem hmd_o {M : xM} {pk : Nat → Bool} {to w : Int32} {a b c : Nat} (h1 : ¬ (a = 29 ∧ (c = 5 ∨ c = 8 ∨ c = 6))) (h2 : ¬ a = 30) (h3 : ¬ a = 31) : hmd M pk to w a b c = M a b c := by
  unfold hmd
  rw [if_neg (by omega), if_neg (by omega), if_neg (by omega), if_neg (by omega), if_neg (by omega)]
section PAY2
variable {nb nn : Nat} {M : xM}
/-- the class's state when pk have been handed on -/
def cS (M : xM) (nn : Nat) (o : Nat → Int32) (to w : Int32) (pk : Nat → Bool) (N : xM) : Prop := (∀ a b c : Nat, a ≠ 9 → N a b c = hmd M pk to w a b c) ∧ ∀ k : Nat, k < nn → N 9 0 k = opk o pk k
theorem cpL (h : INV nb nn M) (fr to sum_ : Int32) (py tk : Nat) (o : Nat → Int32) (sm : Nat → Nat) {v : Nat} (hv : v ≤ 999) (hs : sum_ = nI v) (hsm : ∀ k : Nat, k < nn → M 29 k 2 = nI (sm k) ∧ sm k ≤ 100) (hob : ∀ k : Nat, k < nn → o k ≤ 100) (ho : ∀ k : Nat, k < nn → o k ≠ (-1) → M 29 k 6 < 12 ∧ M 29 k 5 = 0) : ∀ (f t n : Nat) (pk : Nat → Bool) (hd : Nat) (N : xM), t + f = 24 → f < n → hd < v → cS M nn o to (M 0 0 14) pk N → ∃ N', f_X10_pay_L62 fr to sum_ py tk n (nI hd) (nI t) N (fun handed_34 turn_35 M_36 => (handed_34, M_36)) = (nI (pyS o nn sm v f pk hd).1, N') ∧ cS M nn o to (M 0 0 14) (pyS o nn sm v f pk hd).2 N' := by
  have h24 := h.nn24
  intro f
  induction f with
  | zero =>
    intro t n pk hd N h1 h2 h3 hN
    obtain ⟨n, rfl⟩ : ∃ k, n = k + 1 := ⟨n - 1, by omega⟩
    obtain rfl : t = 24 := by omega
    exact ⟨N, by rw [f_X10_pay_L62, if_pos (by decide)]; rfl, hN⟩
  | succ f ih =>
    intro t n pk hd N h1 h2 h3 hN
    obtain ⟨n, rfl⟩ : ∃ k, n = k + 1 := ⟨n - 1, by omega⟩
    obtain ⟨q1, q2⟩ := id hN
    have n13 : N 0 0 13 = nI nn := by rw [q1 0 0 13 (by decide), hmd_o (by omega) (by decide) (by decide)]; exact h.c13
    have hN2 : xHN nn N := ⟨h.hn.1, n13, fun j hj => by rw [q1 7 0 j (by decide), hmd_o (by omega) (by decide) (by decide)]; exact h.hn.2.2 j hj⟩
    have ob : ∀ k : Nat, k < nn → N 9 0 k ≤ 100 := fun k hk => by
      rw [q2 k hk]
      unfold opk
      split
      · decide
      · exact hob k hk
    rw [f_X10_pay_L62, if_neg (show ¬ (24 : Int32) ≤ nI t from nI_ge (b := 24) (by omega) (by decide)), hs, if_neg (nI_ge (by omega) (by omega)), pyS]
    have ew : wst (N 9 0) nn 0 none = wst (opk o pk) nn 0 none := wst_c nn 0 none (fun k hk => q2 k (by omega)) (fun j hj => by cases hj)
    simp only [xlet_p, wo_eq N n13 h24 ob, ew]
    cases hw : wst (opk o pk) nn 0 none with
    | none =>
      simp only [xopt_pn]
      rw [noteOf_eq hN2, if_neg (fun q => absurd q.1 (by decide))]
      simp only [xopt_pn]
      exact ⟨N, rfl, hN⟩
    | some k =>
      obtain ⟨k1, k2⟩ := wst_s nn 0 none (fun j hj => by cases hj) k hw
      have hk : k < nn := by omega
      have pkf : pk k = false := by
        cases e : pk k with
        | false => rfl
        | true => unfold opk at k2; rw [e] at k2; simp at k2
      have okk : o k ≠ (-1) := by unfold opk at k2; rw [pkf] at k2; simpa using k2
      obtain ⟨e6, e5⟩ := ho k hk okk
      have u := nI_u hk (by omega)
      simp only [xopt_ps]
      rw [noteOf_eq hN2, if_pos u]
      simp only [xopt_ps, nI_clamp (show k < 2 ^ 31 by omega)]
      have Nk : ∀ c : Nat, N 29 k c = M 29 k c := fun c => by rw [q1 29 k c (by decide), hmd_n pkf]
      have hn1 := h.n1 hk
      rw [Nk 0, hn1.i0, nI_clamp (show k < 2 ^ 31 by omega)]
      obtain ⟨s1, s2⟩ := hsm k hk
      obtain ⟨m, em, hm⟩ := cnt_n1 h k
      have m12 : m < 12 := by
        rw [em] at e6
        exact (nI_ltI (b := 12) (by omega) (by decide)).mp e6
      have u6 : xup N 9 0 k (-1) 29 k 6 = nI m := by rw [xup_k (by decide), Nk 6]; exact em
      have w14 : xup N 9 0 k (-1) 0 0 14 = M 0 0 14 := by rw [xup_k (by decide), q1 0 0 14 (by decide), hmd_o (by omega) (by decide) (by decide)]
      rw [w14]
      have at1 := fun a b c => handOn_at (k := k) (to := to) (w := M 0 0 14) u6 hm a b c
      generalize f_X4_handOn k to (M 0 0 14) (xup N 9 0 k (-1)) = N2 at at1
      have n2 : N2 29 k 2 = nI (sm k) := by rw [at1, if_neg (by omega), if_neg (by omega), if_neg (by omega), if_neg (by omega), if_neg (by omega), xup_k (by decide), Nk 2]; exact s1
      rw [n2, nI_add, nI_1]
      have S2 : cS M nn o to (M 0 0 14) (pka pk k) N2 := by
        refine ⟨fun a b c h9 => ?_, fun j hj => ?_⟩
        · rw [at1]
          by_cases b1 : b = k
          · subst b1
            have pt : pka pk b b = true := pka_t.mpr (Or.inr rfl)
            unfold hmd
            rw [pt, em, nI_clamp (show m < 2 ^ 31 by omega), nI_1]
            simp only [m12, true_and]
            rw [xup_k h9, q1 a b c h9, hmd_n pkf]
          · have : pka pk k b = pk b := by unfold pka; simp [b1]
            have e : hmd M (pka pk k) to (M 0 0 14) a b c = hmd M pk to (M 0 0 14) a b c := by unfold hmd; rw [this]
            rw [e, if_neg (by omega), if_neg (by omega), if_neg (by omega), if_neg (by omega), if_neg (by omega), xup_k h9, q1 a b c h9]
        · rw [at1, if_neg (by omega), if_neg (by omega), if_neg (by omega), if_neg (by omega), if_neg (by omega), xup_at]
          unfold opk
          by_cases j1 : j = k
          · rw [if_pos ⟨rfl, rfl, j1⟩, if_pos (pka_t.mpr (Or.inr j1))]
          · have : pka pk k j = pk j := by unfold pka; simp [j1]
            rw [if_neg (fun z => j1 z.2.2), this, q2 j hj]
            rfl
      by_cases c : v ≤ hd + sm k
      · rw [if_pos c]
        obtain ⟨n, rfl⟩ : ∃ z, n = z + 1 := ⟨n - 1, by omega⟩
        refine ⟨N2, ?_, S2⟩
        rw [f_X10_pay_L62]
        by_cases c2 : (24 : Int32) ≤ nI (t + 1)
        · rw [if_pos c2]
        · rw [if_neg c2, if_pos (nI_le c (by omega))]
      · rw [if_neg c, ← hs]
        exact ih (t + 1) n (pka pk k) (hd + sm k) N2 (by omega) (by omega) (by omega) S2
end PAY2
