/-! way: the class's first step -/
section WAY6
variable {G : Nat → Nat → Nat} {rd : Nat → Nat → Bool} {z : Nat}
theorem kim_5 (to place gold : Int32) (M : xM) : f_X3_keepIfMore to place gold M 11 0 5 = (if gold ≤ M 11 0 5 then M 11 0 5 else gold) ∧ f_X3_keepIfMore to place gold M 11 0 6 = (if gold ≤ M 11 0 5 then M 11 0 6 else 16 * to + place) := by
  unfold f_X3_keepIfMore
  simp only [xlet_p]
  by_cases c : gold ≤ M 11 0 5
  · simp only [if_pos c, and_self]
  · simp only [if_neg c]
    exact ⟨by rw [xup_j (by decide), xup_same], xup_same⟩
def bef (a b to k : Nat) : Prop := a < to ∨ a = to ∧ b < k
def AM (V : Nat → Nat → Nat) (al : Nat → Bool) (z to k : Nat) (cur code : Int32) : Prop := (cur = (-1000000) ∧ ∀ a b, a < 6 → b ≤ z → al a = true → ¬ bef a b to k) ∨ ∃ a b, a < 6 ∧ b ≤ z ∧ al a = true ∧ bef a b to k ∧ cur = nI (V a b) ∧ code = cdW z a b ∧ (∀ a' b', a' < 6 → b' ≤ z → al a' = true → bef a' b' to k → V a' b' ≤ V a b) ∧ ∀ a' b', a' < 6 → b' ≤ z → al a' = true → bef a' b' a b → V a' b' < V a b
theorem AM_step {V : Nat → Nat → Nat} {al : Nat → Bool} {to k : Nat} {cur code : Int32} (hV : ∀ a b, V a b ≤ 700) (h : AM V al z to k cur code) (ht : to < 6) (hk : k ≤ z) (ha : al to = true) : AM V al z to (k + 1) (if nI (V to k) ≤ cur then cur else nI (V to k)) (if nI (V to k) ≤ cur then code else cdW z to k) := by
  have v0 := hV to k
  rcases h with ⟨h1, h2⟩ | ⟨a, b, q1, q2, q3, q4, q5, q6, q7, q8⟩
  · have c : ¬ nI (V to k) ≤ cur := by
      rw [h1]
      have : (0 : Int32) ≤ nI (V to k) := nI_pos' (by omega)
      intro q
      exact absurd (Int32.le_trans this q) (by decide)
    rw [if_neg c, if_neg c]
    refine Or.inr ⟨to, k, ht, hk, ha, Or.inr ⟨rfl, by omega⟩, rfl, rfl, fun a' b' p1 p2 p3 p4 => ?_, fun a' b' p1 p2 p3 p4 => absurd p4 (h2 a' b' p1 p2 p3)⟩
    by_cases e : a' = to ∧ b' = k
    · obtain ⟨rfl, rfl⟩ := e; exact Nat.le_refl _
    · exact absurd (by unfold bef at p4 ⊢; omega) (h2 a' b' p1 p2 p3)
  · have v1 := hV a b
    rw [q5]
    simp only [nI_leI (show V to k < 2 ^ 31 by omega) (show V a b < 2 ^ 31 by omega)]
    by_cases c : V to k ≤ V a b
    · rw [if_pos c, if_pos c]
      refine Or.inr ⟨a, b, q1, q2, q3, by unfold bef at q4 ⊢; omega, rfl, q6, fun a' b' p1 p2 p3 p4 => ?_, q8⟩
      by_cases e : a' = to ∧ b' = k
      · obtain ⟨rfl, rfl⟩ := e; exact c
      · exact q7 a' b' p1 p2 p3 (by unfold bef at p4 ⊢; omega)
    · rw [if_neg c, if_neg c]
      refine Or.inr ⟨to, k, ht, hk, ha, Or.inr ⟨rfl, by omega⟩, rfl, rfl, fun a' b' p1 p2 p3 p4 => ?_, fun a' b' p1 p2 p3 p4 => ?_⟩
      · by_cases e : a' = to ∧ b' = k
        · obtain ⟨rfl, rfl⟩ := e; exact Nat.le_refl _
        · have := q7 a' b' p1 p2 p3 (by unfold bef at p4 ⊢; omega)
          omega
      · have := q7 a' b' p1 p2 p3 p4
        omega
theorem AM_next {V : Nat → Nat → Nat} {al : Nat → Bool} {to k k2 : Nat} {cur code : Int32} (h : AM V al z to k cur code) (e : ∀ a b, a < 6 → b ≤ z → al a = true → (bef a b to k ↔ bef a b (to + 1) k2)) : AM V al z (to + 1) k2 cur code := by
  rcases h with ⟨h1, h2⟩ | ⟨a, b, q1, q2, q3, q4, q5, q6, q7, q8⟩
  · exact Or.inl ⟨h1, fun a b p1 p2 p3 p4 => h2 a b p1 p2 p3 ((e a b p1 p2 p3).mpr p4)⟩
  · exact Or.inr ⟨a, b, q1, q2, q3, (e a b q1 q2 q3).mp q4, q5, q6, fun a' b' p1 p2 p3 p4 => q7 a' b' p1 p2 p3 ((e a' b' p1 p2 p3).mpr p4), q8⟩
def oth (M N : xM) : Prop := ∀ a b c, ¬ (a = 11 ∧ b = 0 ∧ (c = 5 ∨ c = 6)) → N a b c = M a b c
theorem oth_kim {M N : xM} (to place gold : Int32) (h : oth M N) : oth M (f_X3_keepIfMore to place gold N) := fun a b c q => by rw [kim_o q]; exact h a b c q
theorem cf39 (hz : z ≤ 8) (hG : ∀ t k, G t k ≤ 100) {B : xM} (hk : kG G rd z B) {r t to : Nat} (h5 : r ≤ 5) (ht : t < 6) (hto : to < 6) (ha : alw rd r t to = true) (go : Int32) (hgo : go = 0 ↔ r = 0) (hc : ¬ r = 0 → c21 G rd z r 1 B) : ∀ (m k n : Nat) (N : xM) (kx : Int32 → xM → xM), k + m = z → m < n → oth B N → AM (fun a b => wgv G rd z r t (dS z 0) b a) (alw rd r t) z to k (N 11 0 5) (N 11 0 6) → ∃ N' x, f_X3_chooseFirst_L39 (nI t) go (nI to) n (nI k) N kx = kx x N' ∧ oth B N' ∧ AM (fun a b => wgv G rd z r t (dS z 0) b a) (alw rd r t) z to z (N' 11 0 5) (N' 11 0 6) := by
  intro m
  induction m with
  | zero =>
    intro k n N kx h1 h2 ho hm
    obtain ⟨n, rfl⟩ : ∃ k, n = k + 1 := ⟨n - 1, by omega⟩
    rw [f_X3_chooseFirst_L39, ho 11 0 3 (by omega), hk.1, if_pos (nI_le (by omega) (by omega))]
    obtain rfl : k = z := by omega
    exact ⟨N, _, rfl, ho, hm⟩
  | succ m ih =>
    intro k n N kx h1 h2 ho hm
    obtain ⟨n, rfl⟩ : ∃ k, n = k + 1 := ⟨n - 1, by omega⟩
    have p1 : 2 ^ k < 2 ^ z := Nat.pow_lt_pow_right (by decide) (by omega)
    have p8 := p2_8 hz
    have st : ∀ g : Int32, g = nI (wgv G rd z r t (dS z 0) k to) → ∃ N' x, f_X3_chooseFirst_L39 (nI t) go (nI to) n (nI (k + 1)) (f_X3_keepIfMore (nI to) (nI k) g N) kx = kx x N' ∧ oth B N' ∧ AM (fun a b => wgv G rd z r t (dS z 0) b a) (alw rd r t) z to z (N' 11 0 5) (N' 11 0 6) := by
      intro g hg
      refine ih (k + 1) n _ kx (by omega) (by omega) (oth_kim _ _ _ ho) ?_
      obtain ⟨k5, k6⟩ := kim_5 (nI to) (nI k) g N
      rw [k5, k6, hg]
      have s := AM_step (fun a b => Nat.le_trans (wgv_b hG r t (dS z 0) b a) (by omega)) hm hto (show k ≤ z by omega) ha
      have e : cdW z to k = 16 * nI to + nI k := by rw [cdW, if_neg (by omega)]
      rw [e] at s
      exact s
    have gg : N 20 0 (8 * t + k) = nI (G t k) := by rw [ho 20 _ _ (by omega)]; exact hk.2.2.1 t k ht (by omega)
    rw [f_X3_chooseFirst_L39, ho 11 0 3 (by omega), hk.1, if_neg (nI_ge (by omega) (by omega)), shl_n (by omega)]
    simp only [xlet_p, nI_1, ix8' ht (show k ≤ 256 by omega), ix256 hto (show 2 ^ k ≤ 256 by omega), gg]
    have wg : wgv G rd z r t (dS z 0) k to = G t k + Wv G rd z r to (wS (dS z 0) k) := by rw [wgv, if_neg (by omega)]
    by_cases c : go = 0
    · rw [if_pos c]
      refine st _ ?_
      rw [wg, hgo.mp c]
      show nI (G t k) + nI 0 = nI (G t k + 0)
      rw [nI_add]
    · rw [if_neg c]
      refine st _ ?_
      have r0 : ¬ r = 0 := fun q => c (hgo.mpr q)
      rw [wg, ho 21 _ _ (by omega), hc r0 to (2 ^ k) hto p1 (pop_1 (by omega)), nI_add]
      have e := dS_or (z := z) 0 k
      rw [Nat.zero_or] at e
      rw [e]
theorem cf9 (hz : z ≤ 8) (hG : ∀ t k, G t k ≤ 100) {B : xM} (hk : kG G rd z B) {r t : Nat} (h5 : r ≤ 5) (ht : t < 6) (go : Int32) (hgo : go = 0 ↔ r = 0) (hc : ¬ r = 0 → c21 G rd z r 1 B) : ∀ (m to n : Nat) (N : xM) (kx : Int32 → xM → xM), to + m = 6 → m < n → oth B N → AM (fun a b => wgv G rd z r t (dS z 0) b a) (alw rd r t) z to 0 (N 11 0 5) (N 11 0 6) → ∃ N' x, f_X3_chooseFirst_L9 (nI t) go n (nI to) N kx = kx x N' ∧ oth B N' ∧ AM (fun a b => wgv G rd z r t (dS z 0) b a) (alw rd r t) z 6 0 (N' 11 0 5) (N' 11 0 6) := by
  intro m
  induction m with
  | zero =>
    intro to n N kx h1 h2 ho hm
    obtain ⟨n, rfl⟩ : ∃ k, n = k + 1 := ⟨n - 1, by omega⟩
    rw [f_X3_chooseFirst_L9, if_pos (show (6 : Int32) ≤ nI to from nI_le (a := 6) (by omega) (by omega))]
    obtain rfl : to = 6 := by omega
    exact ⟨N, _, rfl, ho, hm⟩
  | succ m ih =>
    intro to n N kx h1 h2 ho hm
    obtain ⟨n, rfl⟩ : ∃ k, n = k + 1 := ⟨n - 1, by omega⟩
    have p8 := p2_8 hz
    have p0 : 0 < 2 ^ z := Nat.pow_pos (by decide)
    have hto : to < 6 := by omega
    have ix : (nI to * 256).toNatClampNeg = 256 * to + 0 := by rw [nI_mr 256 to 256 rfl, nI_clamp (by omega)]; omega
    have stay : ∀ N' : xM, oth B N' → AM (fun a b => wgv G rd z r t (dS z 0) b a) (alw rd r t) z to z (N' 11 0 5) (N' 11 0 6) → alw rd r t to = true → ∀ g : Int32, g = nI (Wv G rd z r to (dS z 0)) → ∃ N2 x, f_X3_chooseFirst_L9 (nI t) go n (nI (to + 1)) (f_X3_keepIfMore (nI to) 15 g N') kx = kx x N2 ∧ oth B N2 ∧ AM (fun a b => wgv G rd z r t (dS z 0) b a) (alw rd r t) z 6 0 (N2 11 0 5) (N2 11 0 6) := by
      intro N' ho' hm' ha g hg
      refine ih (to + 1) n _ kx (by omega) (by omega) (oth_kim _ _ _ ho') ?_
      obtain ⟨k5, k6⟩ := kim_5 (nI to) 15 g N'
      have s := AM_step (fun a b => Nat.le_trans (wgv_b hG r t (dS z 0) b a) (by omega)) hm' hto (Nat.le_refl z) ha
      have e : cdW z to z = 16 * nI to + 15 := by rw [cdW, if_pos rfl]
      have e2 : wgv G rd z r t (dS z 0) z to = Wv G rd z r to (dS z 0) := by rw [wgv, if_pos rfl]
      rw [e] at s
      rw [e2] at s
      rw [k5, k6, hg]
      exact AM_next s (fun a b _ _ _ => by unfold bef; omega)
    have skip : ¬ alw rd r t to = true → ∃ N2 x, f_X3_chooseFirst_L9 (nI t) go n (nI (to + 1)) N kx = kx x N2 ∧ oth B N2 ∧ AM (fun a b => wgv G rd z r t (dS z 0) b a) (alw rd r t) z 6 0 (N2 11 0 5) (N2 11 0 6) := by
      intro na
      refine ih (to + 1) n _ kx (by omega) (by omega) ho (AM_next hm (fun a b _ _ q => ?_))
      have : ¬ a = to := fun e => na (by rw [← e]; exact q)
      unfold bef; omega
    have fz : z < xmu (0 : Int32) (nI z) + 1 := by unfold xmu; rw [nI_toInt (by omega)]; simp
    have w21 : ∀ N' : xM, oth B N' → ¬ r = 0 → N' 21 0 (256 * to + 0) = nI (Wv G rd z r to (dS z 0)) := fun N' o' r0 => by rw [o' 21 _ _ (by omega)]; exact hc r0 to 0 hto p0 (by rw [pop_0]; omega)
    have hr := hk.2.2.2 t to ht hto
    rw [f_X3_chooseFirst_L9, if_neg (show ¬ (6 : Int32) ≤ nI to from nI_ge (b := 6) (by omega) (by decide))]
    unfold f_X5_milesBetween
    simp only [xlet_p, nI_1, ix, ho 11 0 3 (by omega), hk.1, i6 ht hto, nI_eq (show to < 2 ^ 31 by omega) (show t < 2 ^ 31 by omega)]
    by_cases c : to = t
    · rw [if_pos c]
      have ha : alw rd r t to = true := by rw [c]; exact alw_s r t
      obtain ⟨N', x, e1, e2, e3⟩ := cf39 hz hG hk h5 ht hto ha go hgo hc z 0 (xmu (0 : Int32) (nI z) + 1) N (fun place_12 M_13 => if go = 0 then f_X3_chooseFirst_L9 (nI t) go n (nI (to + 1)) (f_X3_keepIfMore (nI to) 15 0 M_13) kx else f_X3_chooseFirst_L9 (nI t) go n (nI (to + 1)) (f_X3_keepIfMore (nI to) 15 (M_13 21 0 (256 * to + 0)) M_13) kx) (by omega) fz ho hm
      have two : ∃ N2 y, (if go = 0 then f_X3_chooseFirst_L9 (nI t) go n (nI (to + 1)) (f_X3_keepIfMore (nI to) 15 0 N') kx else f_X3_chooseFirst_L9 (nI t) go n (nI (to + 1)) (f_X3_keepIfMore (nI to) 15 (N' 21 0 (256 * to + 0)) N') kx) = kx y N2 ∧ oth B N2 ∧ AM (fun a b => wgv G rd z r t (dS z 0) b a) (alw rd r t) z 6 0 (N2 11 0 5) (N2 11 0 6) := by
        by_cases g0 : go = 0
        · rw [if_pos g0]
          exact stay N' e2 e3 ha 0 (by rw [hgo.mp g0]; rfl)
        · rw [if_neg g0]
          exact stay N' e2 e3 ha _ (w21 N' e2 (fun q => g0 (hgo.mpr q)))
      obtain ⟨N2, y, f1, f2⟩ := two
      exact ⟨N2, y, e1.trans f1, f2⟩
    · rw [if_neg c]
      by_cases g0 : go = 0
      · rw [if_pos g0]
        exact skip (by simp [alw, Ne.symm c, hgo.mp g0])
      · rw [if_neg g0]
        have r0 : ¬ r = 0 := fun q => g0 (hgo.mpr q)
        rw [ho 13 _ _ (by omega)]
        by_cases d : B 13 0 (6 * t + to) ≤ 0
        · rw [if_pos d]
          have d' : ¬ 0 < B 13 0 (6 * t + to) := Int32.not_lt.mpr d
          exact skip (by simp [alw, hr, d', Ne.symm c])
        · rw [if_neg d]
          have d' : 0 < B 13 0 (6 * t + to) := Int32.not_le.mp d
          have ha : alw rd r t to = true := by simp [alw, hr, d', r0]
          obtain ⟨N', x, e1, e2, e3⟩ := cf39 hz hG hk h5 ht hto ha go hgo hc z 0 (xmu (0 : Int32) (nI z) + 1) N (fun place_26 M_27 => f_X3_chooseFirst_L9 (nI t) go n (nI (to + 1)) (f_X3_keepIfMore (nI to) 15 (M_27 21 0 (256 * to + 0)) M_27) kx) (by omega) fz ho hm
          obtain ⟨N2, y, f1, f2⟩ := stay N' e2 e3 ha _ (w21 N' e2 r0)
          exact ⟨N2, y, e1.trans f1, f2⟩
theorem cf_eq (hz : z ≤ 8) (hG : ∀ t k, G t k ≤ 100) {B : xM} (hk : kG G rd z B) {r t : Nat} (h5 : r ≤ 5) (ht : t < 6) (go : Int32) (hgo : go = 0 ↔ r = 0) (hc : ¬ r = 0 → c21 G rd z r 1 B) : oth B (f_X3_chooseFirst (nI t) go B) ∧ ∃ a b, fst1 (fun a b => wgv G rd z r t (dS z 0) b a) (alw rd r t) z a b ∧ f_X3_chooseFirst (nI t) go B 11 0 5 = nI (wgv G rd z r t (dS z 0) b a) ∧ f_X3_chooseFirst (nI t) go B 11 0 6 = cdW z a b := by
  have o0 : oth B (xup B 11 0 5 (-1000000)) := fun a b c q => by rw [xup_at, if_neg (by omega)]
  obtain ⟨N', x, e1, e2, e3⟩ := cf9 hz hG hk h5 ht go hgo hc 6 0 (xmu (0 : Int32) 6 + 1) (xup B 11 0 5 (-1000000)) (fun to_33 M_34 => M_34) (by omega) (by decide) o0 (Or.inl ⟨xup_same, fun a b _ _ _ q => by unfold bef at q; omega⟩)
  have e : f_X3_chooseFirst (nI t) go B = N' := by
    unfold f_X3_chooseFirst
    rw [xlet_p]
    exact e1
  rw [e]
  refine ⟨e2, ?_⟩
  rcases e3 with ⟨h1, h2⟩ | ⟨a, b, q1, q2, q3, q4, q5, q6, q7, q8⟩
  · exact absurd (Or.inl ht) (h2 t 0 ht (Nat.zero_le _) (alw_s r t))
  · exact ⟨a, b, ⟨q1, q2, q3, fun a' b' p1 p2 p3 => q7 a' b' p1 p2 p3 (Or.inl p1), q8⟩, q5, q6⟩
theorem fst1_W {r t a b : Nat} (hm : fst1 (fun a b => wgv G rd z r t (dS z 0) b a) (alw rd r t) z a b) : wgv G rd z r t (dS z 0) b a = Wv G rd z (r + 1) t (dS z 0) := by
  obtain ⟨a6, bz, ala, mx, -⟩ := hm
  dsimp only at mx
  refine Nat.le_antisymm ?_ ((Wv_le r t (dS z 0) _).mpr (fun to h1 h2 => ⟨?_, fun k hk hS => ?_⟩))
  · have q := (Wv_le (G := G) (rd := rd) (z := z) r t (dS z 0) _).mp (Nat.le_refl _) a a6 ala
    unfold wgv
    by_cases c : b = z
    · rw [if_pos c]; exact q.1
    · rw [if_neg c]; exact q.2 b (by omega) (by rw [dS_t (by omega)]; simp)
  · have q := mx to z h1 (Nat.le_refl _) h2
    have e : wgv G rd z r t (dS z 0) z to = Wv G rd z r to (dS z 0) := by rw [wgv, if_pos rfl]
    rw [e] at q
    exact q
  · have q := mx to k h1 (by omega) h2
    have e : wgv G rd z r t (dS z 0) k to = G t k + Wv G rd z r to (wS (dS z 0) k) := by rw [wgv, if_neg (by omega)]
    rw [e] at q
    exact q
end WAY6
