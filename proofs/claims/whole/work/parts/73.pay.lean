/-! pay, on the class's side -/
section PAY
variable {nb nn : Nat} {M N : xM}
theorem lat_c (wd bk nw : Int32) (e : ∀ a b c : Nat, (a = 4 ∨ (15 ≤ a ∧ a ≤ 18)) → N a b c = M a b c) : ∀ (n : Nat) (v l i : Int32) (kx : Int32 → Int32 → Int32 → Int32), f_X2_latest_L10 wd bk nw N n v l i kx = f_X2_latest_L10 wd bk nw M n v l i kx := by
  intro n
  induction n with
  | zero => intro v l i kx; rfl
  | succ n ih =>
    intro v l i kx
    rw [f_X2_latest_L10, f_X2_latest_L10]
    simp only [xlet_p, isKnown_eq, ih, e 4 0 4 (by omega), fun c => e 15 0 c (by omega), fun c => e 16 0 c (by omega), fun c => e 17 0 c (by omega), fun c => e 18 0 c (by omega)]
theorem ith_c (k : Nat) (t w : Int32) (e : ∀ a b c : Nat, a ≠ 9 → N a b c = M a b c) : f_X10_inTheHundred k t w N = f_X10_inTheHundred k t w M := by
  have e1 : ∀ wd bk nw, f_X2_latest wd bk nw N = f_X2_latest wd bk nw M := fun wd bk nw => by
    unfold f_X2_latest
    rw [e 4 0 4 (by decide)]
    exact lat_c wd bk nw (fun a b c q => e a b c (by omega)) _ _ _ _ _
  have e2 : ∀ bk nw, f_X2_off bk nw N = f_X2_off bk nw M := fun bk nw => by
    unfold f_X2_off; rw [e1]
  have e3 : ∀ a b, f_X5_fewestMiles a b N = f_X5_fewestMiles a b M := fun a b => by
    unfold f_X5_fewestMiles; rw [e 14 0 _ (by decide)]
  have e4 : f_X10_newestBook t w N = f_X10_newestBook t w M := by
    unfold f_X10_newestBook; rw [e3]
  have e5 : ∀ q, f_X10_bankOf q N = f_X10_bankOf q M := fun q => by
    unfold f_X10_bankOf f_X10_isUpTo; rw [e 0 0 12 (by decide)]
  have e6 : ∀ p, f_X4_isUnlike k p N = f_X4_isUnlike k p M := fun p => by
    unfold f_X4_isUnlike; rw [e 29 k 3 (by decide), e 29 k 4 (by decide)]
  unfold f_X10_inTheHundred
  simp only [e1, e2, e3, e4, e5, e6, e 29 k 1 (by decide), fun i c => e 27 i c (by decide)]
/-- who may be handed on, and for what -/
def elg (M : xM) (a : Int32) (b i : Nat) : Prop := M 29 i 5 = 0 ∧ M 29 i 8 = a ∧ M 29 i 6 < 12 ∧ ¬ f_X10_inTheHundred i (M 26 b 0) (M 0 0 14) M < M 26 b 1
noncomputable def ofr (M : xM) (a : Int32) (t : Int32) (b i : Nat) : Int32 := by
  classical exact if elg M a b i then f_X10_inTheHundred i t (M 0 0 14) M else (-1)
theorem ofr_p {M : xM} {a t : Int32} {b i : Nat} (h : elg M a b i) : ofr M a t b i = f_X10_inTheHundred i t (M 0 0 14) M := by
  unfold ofr; rw [if_pos h]
theorem ofr_n {M : xM} {a t : Int32} {b i : Nat} (h : ¬ elg M a b i) : ofr M a t b i = (-1) := by
  unfold ofr; rw [if_neg h]
theorem offL (h : INV nb nn M) (a : Int32) (ha : 0 ≤ a) (t : Int32) {b : Nat} : ∀ (m i n : Nat) (N : xM) (kx : Int32 → xM → xM), (∀ x y z : Nat, x ≠ 9 → N x y z = M x y z) → i + m = nn → m < n → f_X10_offerNotes_L3 a t b n (nI i) N kx = kx (nI nn) (xrow N 9 0 (fun c => if i ≤ c ∧ c < nn then ofr M a t b c else N 9 0 c)) := by
  have h24 := h.nn24
  intro m
  induction m with
  | zero =>
    intro i n N kx e h1 h2
    obtain ⟨n, rfl⟩ : ∃ k, n = k + 1 := ⟨n - 1, by omega⟩
    obtain rfl : i = nn := by omega
    have e9 : (fun c => if i ≤ c ∧ c < i then ofr M a t b c else N 9 0 c) = N 9 0 := by
      funext c
      rw [if_neg (by omega)]
    rw [f_X10_offerNotes_L3, e 0 0 13 (by decide), h.c13, if_pos (nI_le (Nat.le_refl _) (by omega)), e9, xrow_self]
  | succ m ih =>
    intro i n N kx e h1 h2
    obtain ⟨n, rfl⟩ : ∃ k, n = k + 1 := ⟨n - 1, by omega⟩
    have u := nI_u (show i < nn by omega) (by omega)
    have hN : xHN nn N := by
      refine ⟨h.hn.1, ?_, fun j hj => ?_⟩
      · rw [e 0 0 13 (by decide)]; exact h.hn.2.1
      · rw [e 7 0 j (by decide)]; exact h.hn.2.2 j hj
    have eN : ∀ v x y z : Nat, ∀ w : Int32, x ≠ 9 → xup N 9 0 v w x y z = M x y z := fun v x y z w q => by rw [xup_k q]; exact e x y z q
    have fin : ∀ v : Int32, v = ofr M a t b i → f_X10_offerNotes_L3 a t b n (nI (i + 1)) (xup N 9 0 i v) kx = kx (nI nn) (xrow N 9 0 (fun c => if i ≤ c ∧ c < nn then ofr M a t b c else N 9 0 c)) := by
      intro v hv
      rw [ih (i + 1) n _ kx (fun x y z q => eN i x y z v q) (by omega) (by omega), xup_row_of, xrow_xrow, xrow_same]
      congr 2
      funext c
      by_cases d : c = i
      · subst d
        rw [if_neg (by omega), if_pos (by omega), pk_us, hv]
      · rw [pk_un d]
        by_cases d2 : i ≤ c ∧ c < nn
        · rw [if_pos d2, if_pos (by omega)]
        · rw [if_neg d2, if_neg (by omega)]
    rw [f_X10_offerNotes_L3, e 0 0 13 (by decide), h.c13, if_neg (nI_ge (by omega) (by omega)), if_neg (show ¬ (24 : Int32) ≤ nI i from nI_ge (b := 24) (by omega) (by decide))]
    have i1 : ∀ t, f_X10_inTheHundred i t (M 0 0 14) (xup N 9 0 i (-1)) = f_X10_inTheHundred i t (M 0 0 14) M := fun t => ith_c i t _ (fun x y z q => eN i x y z (-1) q)
    simp only [xlet_p, noteOf_eq hN, if_pos u, xopt_ps, nI_clamp (show i < 2 ^ 31 by omega), nI_1, f_X4_holder, f_X4_isFullOfHands, eN i 29 i 5 (-1) (by decide), eN i 29 i 8 (-1) (by decide), eN i 29 i 6 (-1) (by decide), eN i 26 b 0 (-1) (by decide), eN i 26 b 1 (-1) (by decide), eN i 0 0 14 (-1) (by decide), i1, xb_0, xup_xup]
    have nh : ∀ x : Prop, ¬ x → True := fun _ _ => trivial
    by_cases c1 : M 29 i 5 = 0 ∧ M 29 i 8 = a
    · rw [if_pos c1.1, if_pos c1.2]
      by_cases c2 : M 29 i 6 < 12
      · rw [if_pos c2, if_pos rfl]
        by_cases c3 : f_X10_inTheHundred i (M 26 b 0) (M 0 0 14) M < M 26 b 1
        · rw [if_pos c3]
          exact fin _ (ofr_n (fun q => q.2.2.2 c3)).symm
        · rw [if_neg c3]
          exact fin _ (ofr_p ⟨c1.1, c1.2, c2, c3⟩).symm
      · rw [if_neg c2, if_neg (by decide)]
        exact fin _ (ofr_n (fun q => c2 q.2.2.1)).symm
    · rw [if_neg (by
        split
        · rename_i q; exact fun z => c1 ⟨q, z⟩
        · intro z; rw [← z] at ha; exact absurd ha (by decide))]
      exact fin _ (ofr_n (fun q => c1 ⟨q.1, q.2.1⟩)).symm
/-- the first that brings least -/
def wst (o : Nat → Int32) : Nat → Nat → Option Nat → Option Nat
  | 0, _, b => b
  | m + 1, i, b => wst o m (i + 1) (if o i ≠ (-1) ∧ xopt b true (fun j => decide (o i < o j)) = true then some i else b)
theorem wst_c {o p : Nat → Int32} : ∀ (m i : Nat) (b : Option Nat), (∀ k, k < i + m → o k = p k) → (∀ j, b = some j → j < i) → wst o m i b = wst p m i b := by
  intro m
  induction m with
  | zero => intro i b _ _; rfl
  | succ m ih =>
    intro i b h hb
    have e : (if o i ≠ (-1) ∧ xopt b true (fun j => decide (o i < o j)) = true then some i else b) = if p i ≠ (-1) ∧ xopt b true (fun j => decide (p i < p j)) = true then some i else b := by
      rw [h i (by omega)]
      cases b with
      | none => simp only [xopt_pn]
      | some j =>
        have ej := h j (by have := hb j rfl; omega)
        simp only [xopt_ps, ej]
    rw [wst, wst, e]
    refine ih (i + 1) _ (fun k hk => h k (by omega)) (fun j hj => ?_)
    by_cases c : p i ≠ (-1) ∧ xopt b true (fun j => decide (p i < p j)) = true
    · rw [if_pos c] at hj; cases hj; omega
    · rw [if_neg c] at hj; have := hb j hj; omega
theorem wst_s {o : Nat → Int32} : ∀ (m i : Nat) (b : Option Nat), (∀ j, b = some j → j < i ∧ o j ≠ (-1)) → ∀ k, wst o m i b = some k → k < i + m ∧ o k ≠ (-1) := by
  intro m
  induction m with
  | zero => intro i b hb k hk; exact hb k hk
  | succ m ih =>
    intro i b hb k hk
    rw [wst] at hk
    have := ih (i + 1) _ (fun j hj => ?_) k hk
    · exact ⟨by omega, this.2⟩
    · by_cases c : o i ≠ (-1) ∧ xopt b true (fun j => decide (o i < o j)) = true
      · rw [if_pos c] at hj; cases hj; exact ⟨by omega, c.1⟩
      · rw [if_neg c] at hj; have := hb j hj; exact ⟨by omega, this.2⟩
theorem wst_n {o : Nat → Int32} : ∀ (m i : Nat), (∀ k, i ≤ k → k < i + m → o k = (-1)) → wst o m i none = none := by
  intro m
  induction m with
  | zero => intro i _; rfl
  | succ m ih =>
    intro i h
    rw [wst, if_neg (fun q => q.1 (h i (Nat.le_refl _) (by omega)))]
    exact ih (i + 1) (fun k h1 h2 => h k (by omega) (by omega))
theorem woL (N : xM) (hn : N 0 0 13 = nI nn) (h24 : nn ≤ 24) (hb : ∀ k : Nat, k < nn → N 9 0 k ≤ 100) : ∀ (m i n : Nat) (o : Option Nat) (kx : Int32 → Int32 → Int32 → Int32), i + m = nn → m < n → f_X10_worstOffer_L9 N n (xopt o (-1000000) nI) (xopt o 101 (N 9 0)) (nI i) kx = kx (xopt (wst (N 9 0) m i o) (-1000000) nI) (xopt (wst (N 9 0) m i o) 101 (N 9 0)) (nI nn) := by
  intro m
  induction m with
  | zero =>
    intro i n o kx h1 h2
    obtain ⟨n, rfl⟩ : ∃ k, n = k + 1 := ⟨n - 1, by omega⟩
    obtain rfl : i = nn := by omega
    rw [f_X10_worstOffer_L9, hn, if_pos (nI_le (Nat.le_refl _) (by omega)), wst]
  | succ m ih =>
    intro i n o kx h1 h2
    obtain ⟨n, rfl⟩ : ∃ k, n = k + 1 := ⟨n - 1, by omega⟩
    have hi := hb i (by omega)
    have i1 := ih (i + 1) n o kx (by omega) (by omega)
    have i2 := ih (i + 1) n (some i) kx (by omega) (by omega)
    rw [f_X10_worstOffer_L9, hn, if_neg (nI_ge (by omega) (by omega)), if_neg (show ¬ (24 : Int32) ≤ nI i from nI_ge (b := 24) (by omega) (by decide)), wst]
    simp only [xlet_p, nI_clamp (show i < 2 ^ 31 by omega), nI_1]
    by_cases c1 : N 9 0 i = -1
    · rw [if_pos c1, if_neg (fun q => q.1 c1)]
      exact i1
    · rw [if_neg c1]
      cases o with
      | none =>
        have : ¬ (101 : Int32) ≤ N 9 0 i := by grind
        simp only [xopt_pn] at i1 ⊢
        rw [if_neg this, if_pos ⟨c1, trivial⟩]
        simp only [xopt_ps] at i2
        exact i2
      | some j =>
        simp only [xopt_ps] at i1 i2 ⊢
        by_cases c2 : N 9 0 j ≤ N 9 0 i
        · rw [if_pos c2, if_neg (fun q => absurd (of_decide_eq_true q.2) (Int32.not_lt.mpr c2))]
          exact i1
        · rw [if_neg c2, if_pos ⟨c1, decide_eq_true (Int32.not_le.mp c2)⟩]
          exact i2
theorem wo_eq (N : xM) (hn : N 0 0 13 = nI nn) (h24 : nn ≤ 24) (hb : ∀ k : Nat, k < nn → N 9 0 k ≤ 100) : f_X10_worstOffer N = xopt (wst (N 9 0) nn 0 none) (-1000000) nI := by
  unfold f_X10_worstOffer
  have L := woL N hn h24 hb nn 0 (xmu (0 : Int32) (N 0 0 13) + 1) none (fun worst_9 least_10 i_11 => worst_9) (by omega) (by rw [hn]; unfold xmu; rw [nI_toInt (by omega)]; simp)
  simp only [xopt_pn] at L
  rw [show nI 0 = (0 : Int32) from rfl] at L
  exact L
end PAY
