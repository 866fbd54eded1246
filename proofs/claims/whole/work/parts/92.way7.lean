/-! way: the list of notes, the gains, the plan -/
section WAY7
variable {G : Nat → Nat → Nat} {rd : Nat → Nat → Bool} {z : Nat}
theorem plan_eq (hz : z ≤ 8) (hG : ∀ t k, G t k ≤ 100) {N : xM} (hg : ∀ t k, t < 6 → k < z → N 20 0 (8 * t + k) = nI (G t k)) (hr : ∀ t to, t < 6 → to < 6 → rd t to = decide (0 < N 13 0 (6 * t + to))) {t r : Nat} (ht : t < 6) (h5 : r ≤ 5) : (∀ a b c, ¬ a = 11 → ¬ a = 21 → ¬ a = 22 → f_X3_plan (nI t) (nI z) (nI (r + 1)) N a b c = N a b c) ∧ ∃ a b, fst1 (fun a b => wgv G rd z r t (dS z 0) b a) (alw rd r t) z a b ∧ f_X3_plan (nI t) (nI z) (nI (r + 1)) N 11 0 5 = nI (wgv G rd z r t (dS z 0) b a) ∧ f_X3_plan (nI t) (nI z) (nI (r + 1)) N 11 0 6 = cdW z a b := by
  have p8 := p2_8 hz
  have k0 : kG G rd z (xup (xup N 11 0 3 (nI z)) 11 0 4 (nI (2 ^ z))) := by
    refine ⟨by rw [xup_j (by decide), xup_same], xup_same, fun t k q1 q2 => ?_, fun t to q1 q2 => ?_⟩
    · rw [xup_k (by decide), xup_k (by decide)]; exact hg t k q1 q2
    · rw [xup_k (by decide), xup_k (by decide)]; exact hr t to q1 q2
  have ef := etw_fr (xup (xup N 11 0 3 (nI z)) 11 0 4 (nI (2 ^ z)))
  have k1 := kG_22 k0 ef
  have c0 : c22 G rd z (r + 1 - 1 - r) (r + 1) (f_X3_endTheWay (xup (xup N 11 0 3 (nI z)) 11 0 4 (nI (2 ^ z)))) := by
    rw [show r + 1 - 1 - r = 0 by omega]
    exact etw_eq hz k0.2.1 _
  obtain ⟨N', x, e1, e2, e3⟩ := pl30 hz hG (nI t) (nI z) (nI (r + 1)) (D := r + 1) (by omega) r (xmu 0 (nI r) + 1) _ (fun day_16 M_17 => if nI (r + 1) ≤ 1 then f_X3_chooseFirst (nI t) 0 M_17 else f_X3_chooseFirst (nI t) 1 M_17) (by unfold xmu; rw [nI_toInt (by omega)]; simp) (by omega) k1 c0
  have k2 : kG G rd z N' := kG_of k1 (fun a b c q => e2 a b c (by omega) (by omega))
  have fr : ∀ a b c, ¬ a = 11 → ¬ a = 21 → ¬ a = 22 → N' a b c = N a b c := fun a b c q1 q2 q3 => by rw [e2 a b c q2 q3, ef a b c q3, xup_k q1, xup_k q1]
  have e : f_X3_plan (nI t) (nI z) (nI (r + 1)) N = if nI (r + 1) ≤ 1 then f_X3_chooseFirst (nI t) 0 N' else f_X3_chooseFirst (nI t) 1 N' := by
    unfold f_X3_plan
    simp only [xlet_p, nI_pred]
    rw [if_neg (show ¬ (8 : Int32) < nI z from nI_nlt (a := 8) hz (by decide)), xup_same, shl_32 (by omega)]
    exact e1
  rw [e]
  have ee : nI (r + 1) ≤ 1 ↔ r + 1 ≤ 1 := nI_leI (b := 1) (by omega) (by omega)
  by_cases c : r = 0
  · rw [if_pos (ee.mpr (by omega))]
    obtain ⟨f1, f2⟩ := cf_eq hz hG k2 h5 ht 0 ⟨fun _ => c, fun _ => rfl⟩ (fun q => absurd c q)
    exact ⟨fun a b d q1 q2 q3 => by rw [f1 a b d (by omega)]; exact fr a b d q1 q2 q3, f2⟩
  · rw [if_neg (fun q => absurd (ee.mp q) (by omega))]
    obtain ⟨f1, f2⟩ := cf_eq hz hG k2 h5 ht 1 ⟨fun q => absurd q (by decide), fun q => absurd q c⟩ (fun _ => e3 (by omega))
    exact ⟨fun a b d q1 q2 q3 => by rw [f1 a b d (by omega)]; exact fr a b d q1 q2 q3, f2⟩
theorem td2 {p nt : Nat} (hp : p < 8) (M : xM) : ∀ (m t n : Nat) (N : xM) (kx : Int32 → xM → xM), t + m = 6 → m < n → xfr 20 M N → ∃ N' x, f_X10_tellDrover_L2 (nI p) nt n (nI t) N kx = kx x N' ∧ xfr 20 M N' ∧ (∀ t', t ≤ t' → t' < 6 → N' 20 0 (8 * t' + p) = (M 29 nt 2 * M 10 0 (nI t' * 8 + M 29 nt 1).toNatClampNeg) / 100) ∧ ∀ j, (∀ t', t ≤ t' → ¬ j = 8 * t' + p) → N' 20 0 j = N 20 0 j := by
  intro m
  induction m with
  | zero =>
    intro t n N kx h1 h2 hf
    obtain ⟨n, rfl⟩ : ∃ k, n = k + 1 := ⟨n - 1, by omega⟩
    rw [f_X10_tellDrover_L2, if_pos (show (6 : Int32) ≤ nI t from nI_le (a := 6) (by omega) (by omega))]
    exact ⟨N, _, rfl, hf, fun t' q1 q2 => by omega, fun j _ => rfl⟩
  | succ m ih =>
    intro t n N kx h1 h2 hf
    obtain ⟨n, rfl⟩ : ∃ k, n = k + 1 := ⟨n - 1, by omega⟩
    rw [f_X10_tellDrover_L2, if_neg (show ¬ (6 : Int32) ≤ nI t from nI_ge (b := 6) (by omega) (by decide))]
    unfold f_X3_tellGain
    simp only [xlet_p, nI_1, ix8' (show t < 6 by omega) (show p ≤ 256 by omega), hf 29 _ _ (by decide), hf 10 _ _ (by decide)]
    obtain ⟨N', x, e1, e2, e3, e4⟩ := ih (t + 1) n (xup N 20 0 (8 * t + p) ((M 29 nt 2 * M 10 0 (nI t * 8 + M 29 nt 1).toNatClampNeg) / 100)) kx (by omega) (by omega) (xfr_up hf)
    refine ⟨N', x, e1, e2, fun t' q1 q2 => ?_, fun j hj => ?_⟩
    · by_cases e : t' = t
      · subst e; rw [e4 _ (fun t'' q => by omega), xup_same]
      · exact e3 t' (by omega) q2
    · rw [e4 j (fun t' q => hj t' (by omega)), xup_j (hj t (Nat.le_refl _))]
theorem td_eq {p nt : Nat} (hp : p < 8) {M N : xM} (hf : xfr 20 M N) : xfr 20 M (f_X10_tellDrover (nI p) nt N) ∧ (∀ t', t' < 6 → f_X10_tellDrover (nI p) nt N 20 0 (8 * t' + p) = (M 29 nt 2 * M 10 0 (nI t' * 8 + M 29 nt 1).toNatClampNeg) / 100) ∧ ∀ j, (∀ t', ¬ j = 8 * t' + p) → f_X10_tellDrover (nI p) nt N 20 0 j = N 20 0 j := by
  obtain ⟨N', x, e1, e2, e3, e4⟩ := td2 (nt := nt) hp M 6 0 (xmu (0 : Int32) 6 + 1) N (fun t_5 M_6 => M_6) (by omega) (by decide) hf
  have e : f_X10_tellDrover (nI p) nt N = N' := by
    unfold f_X10_tellDrover
    exact e1
  rw [e]
  exact ⟨e2, fun t' q => e3 t' (Nat.zero_le _) q, fun j hj => e4 j (fun t' _ => hj t')⟩
theorem w109 {nn i : Nat} {M : xM} (hN : xHN nn M) (hn : nn ≤ 24) (town sh days what : Int32) {sq : Nat} (hz : z ≤ 8) (hi : i ≤ 60) (q : Nat → Nat) (hq : ∀ k, k < z → q k < nn ∧ M 25 sq (i + k) = nI (q k)) : ∀ (m k n : Nat) (N : xM) (kx : Int32 → xM → Int32 × xM), k + m = z → m < n → xfr 20 M N → (∀ t' k', t' < 6 → k' < k → N 20 0 (8 * t' + k') = (M 29 (q k') 2 * M 10 0 (nI t' * 8 + M 29 (q k') 1).toNatClampNeg) / 100) → ∃ N' x, f_X10_way_L109 town sh (nI i) (nI z) days what sq n (nI k) N kx = kx x N' ∧ xfr 20 M N' ∧ ∀ t' k', t' < 6 → k' < z → N' 20 0 (8 * t' + k') = (M 29 (q k') 2 * M 10 0 (nI t' * 8 + M 29 (q k') 1).toNatClampNeg) / 100 := by
  intro m
  induction m with
  | zero =>
    intro k n N kx h1 h2 hf h3
    obtain ⟨n, rfl⟩ : ∃ k, n = k + 1 := ⟨n - 1, by omega⟩
    rw [f_X10_way_L109, if_pos (nI_le (by omega) (by omega))]
    exact ⟨N, _, rfl, hf, fun t' k' q1 q2 => h3 t' k' q1 (by omega)⟩
  | succ m ih =>
    intro k n N kx h1 h2 hf h3
    obtain ⟨n, rfl⟩ : ∃ k, n = k + 1 := ⟨n - 1, by omega⟩
    obtain ⟨q1, q2⟩ := hq k (by omega)
    rw [f_X10_way_L109, if_neg (nI_ge (by omega) (by omega)), nI_add, nI_clamp (by omega), hf 25 _ _ (by decide), q2, noteOf_c (M := M) (hf 0 0 13 (by decide)), noteOf_eq hN, if_pos ⟨nI_pos' (by omega), nI_lt q1 (by omega)⟩, xopt_ps, nI_clamp (by omega)]
    simp only [xlet_p, nI_1]
    obtain ⟨e1, e2, e3⟩ := td_eq (p := k) (nt := q k) (by omega) hf
    refine ih (k + 1) n _ kx (by omega) (by omega) e1 (fun t' k' p1 p2 => ?_)
    by_cases e : k' = k
    · subst e; exact e2 t' p1
    · rw [e3 _ (fun t'' => by omega)]; exact h3 t' k' p1 (by omega)
/-! each note once -/
def dOK (nn : Nat) (v : Nat → Int32) (k : Nat) : Prop := (0 ≤ v k ∧ v k < nI nn) ∧ ∀ p, p < k → ¬ v p = v k
theorem ad6 {nn i sq : Nat} {M : xM} (hN : xHN nn M) (hn : nn ≤ 24) (hz : z ≤ 8) (hi : i ≤ 60) : ∀ (m k n s : Nat), k + m = z → m < n → s < 2 ^ 24 → (∀ b, b < 24 → (s.testBit b = true ↔ ∃ p, p < k ∧ M 25 sq (i + p) = nI b)) → (f_X10_areDifferentNotes_L6 sq (nI i) (nI z) M n (nI s) (nI k) (fun seen_11 k_12 => true) = true ↔ ∀ k', k ≤ k' → k' < z → dOK nn (fun p => M 25 sq (i + p)) k') := by
  intro m
  induction m with
  | zero =>
    intro k n s h1 h2 h3 h4
    obtain ⟨n, rfl⟩ : ∃ k, n = k + 1 := ⟨n - 1, by omega⟩
    rw [f_X10_areDifferentNotes_L6, if_pos (nI_le (by omega) (by omega))]
    exact ⟨fun _ k' q1 q2 => by omega, fun _ => rfl⟩
  | succ m ih =>
    intro k n s h1 h2 h3 h4
    obtain ⟨n, rfl⟩ : ∃ k, n = k + 1 := ⟨n - 1, by omega⟩
    rw [f_X10_areDifferentNotes_L6, if_neg (nI_ge (by omega) (by omega)), nI_add, nI_clamp (by omega), xlet_p, noteOf_eq hN]
    by_cases c : 0 ≤ M 25 sq (i + k) ∧ M 25 sq (i + k) < nI nn
    · rw [if_pos c, xopt_ps]
      obtain ⟨b, eb, hb⟩ := i32b (n := nn) (by omega) c.1 (by grind)
      have hb2 : b < nn := (nI_ltI (by omega) (by omega)).mp (by rw [← eb]; exact c.2)
      rw [eb, bit_n (show s < 2 ^ 31 by omega) (show b < 32 by omega), shl_32 (show b < 31 by omega), fa_or]
      simp only [xlet_p, nI_1]
      by_cases d : s.testBit b = true
      · rw [if_pos d, if_neg (by decide)]
        refine ⟨fun q => absurd q (by decide), fun q => ?_⟩
        obtain ⟨p, p1, p2⟩ := (h4 b (by omega)).mp d
        exact absurd (p2.trans eb.symm) ((q k (Nat.le_refl _) (by omega)).2 p p1)
      · rw [if_neg d, if_pos rfl]
        have l2 : s ||| 2 ^ b < 2 ^ 24 := Nat.or_lt_two_pow h3 (Nat.pow_lt_pow_right (by decide) (by omega))
        rw [ih (k + 1) n (s ||| 2 ^ b) (by omega) (by omega) l2 (fun b' hb' => ?_)]
        · refine ⟨fun q k' q1 q2 => ?_, fun q k' q1 q2 => q k' (by omega) q2⟩
          by_cases e : k' = k
          · subst e
            refine ⟨c, fun p hp z => d ((h4 b (by omega)).mpr ⟨p, hp, ?_⟩)⟩
            exact (show M 25 sq (i + p) = M 25 sq (i + k') from z).trans eb
          · exact q k' (by omega) q2
        · rw [Nat.testBit_or, Nat.testBit_two_pow, Bool.or_eq_true, h4 b' hb', decide_eq_true_iff]
          refine ⟨fun q => ?_, fun q => ?_⟩
          · rcases q with ⟨p, p1, p2⟩ | q
            · exact ⟨p, by omega, p2⟩
            · subst q; exact ⟨k, by omega, eb⟩
          · obtain ⟨p, p1, p2⟩ := q
            by_cases e : p = k
            · subst e; exact Or.inr ((nI_eq (by omega) (by omega)).mp (eb.symm.trans p2))
            · exact Or.inl ⟨p, by omega, p2⟩
    · rw [if_neg c, xopt_pn]
      exact ⟨fun q => absurd q (by decide), fun q => absurd (q k (Nat.le_refl _) (by omega)).1 c⟩
theorem ad_eq {nn i sq : Nat} {M : xM} (hN : xHN nn M) (hn : nn ≤ 24) (hz : z ≤ 8) (hi : i ≤ 60) : f_X10_areDifferentNotes sq (nI i) (nI z) M = true ↔ ∀ k, k < z → dOK nn (fun p => M 25 sq (i + p)) k := by
  have h := ad6 (sq := sq) hN hn hz hi z 0 (xmu (0 : Int32) (nI z) + 1) 0 (by omega) (by unfold xmu; rw [nI_toInt (by omega)]; simp) (by decide) (fun b _ => ⟨fun q => by rw [Nat.zero_testBit] at q; exact absurd q (by decide), fun ⟨p, p1, _⟩ => by omega⟩)
  unfold f_X10_areDifferentNotes
  exact h.trans ⟨fun q k hk => q k (Nat.zero_le _) hk, fun q k _ hk => q k hk⟩
theorem w124 (town sh i zz days what why : Int32) {k : Nat} (hk : k < 8) (N : xM) : ∀ (m p n : Nat) (g : Int32) (kx : Int32 → Int32 → Int32 × xM), p + m = k → m < n → (g = 0 ∨ g = 1) → ∃ g' x, f_X11_way_L124 town sh i zz days what why (nI k) N n g (nI p) kx = kx g' x ∧ (g' = 0 ↔ g = 0 ∨ ∃ p', p ≤ p' ∧ p' < k ∧ N 98 0 p' = N 98 0 k) := by
  intro m
  induction m with
  | zero =>
    intro p n g kx h1 h2 h3
    obtain ⟨n, rfl⟩ : ∃ k, n = k + 1 := ⟨n - 1, by omega⟩
    rw [f_X11_way_L124, if_pos (nI_le (by omega) (by omega))]
    exact ⟨g, _, rfl, fun q => Or.inl q, fun q => q.elim id (fun ⟨p', p1, p2, _⟩ => by omega)⟩
  | succ m ih =>
    intro p n g kx h1 h2 h3
    obtain ⟨n, rfl⟩ : ∃ k, n = k + 1 := ⟨n - 1, by omega⟩
    rw [f_X11_way_L124, if_neg (nI_ge (by omega) (by omega))]
    simp only [xlet_p, nI_1, nI_clamp (show p < 2 ^ 31 by omega), nI_clamp (show k < 2 ^ 31 by omega)]
    by_cases c : g = 0
    · rw [if_pos c]
      obtain ⟨g', x, e1, e2⟩ := ih (p + 1) n 0 kx (by omega) (by omega) (Or.inl rfl)
      exact ⟨g', x, e1, fun _ => Or.inl c, fun _ => e2.mpr (Or.inl rfl)⟩
    · rw [if_neg c]
      by_cases d : N 98 0 p = N 98 0 k
      · rw [if_pos d]
        obtain ⟨g', x, e1, e2⟩ := ih (p + 1) n 0 kx (by omega) (by omega) (Or.inl rfl)
        exact ⟨g', x, e1, fun _ => Or.inr ⟨p, Nat.le_refl _, by omega, d⟩, fun _ => e2.mpr (Or.inl rfl)⟩
      · rw [if_neg d]
        obtain ⟨g', x, e1, e2⟩ := ih (p + 1) n 1 kx (by omega) (by omega) (Or.inr rfl)
        refine ⟨g', x, e1, e2.trans ⟨fun q => ?_, fun q => ?_⟩⟩
        · rcases q with q | ⟨p', p1, p2, p3⟩
          · exact absurd q (by decide)
          · exact Or.inr ⟨p', by omega, p2, p3⟩
        · rcases q with q | ⟨p', p1, p2, p3⟩
          · exact absurd q c
          · by_cases e : p' = p
            · subst e; exact absurd p3 d
            · exact Or.inr ⟨p', by omega, p2, p3⟩
theorem w80 {nn s i : Nat} {B : xM} (h30 : B 40 0 30 = nI nn) (hn : nn ≤ 24) (hs : s < 8) (hz : z ≤ 8) (hi : i ≤ 60) (town days what why : Int32) : ∀ (m k n : Nat) (N : xM) (kx : Int32 → xM → Int32 × xM), k + m = z → m < n → xfr 98 B N → (∀ p, p < k → N 98 0 p = B 54 0 (60 * s + i + p)) → ∃ N', xfr 98 B N' ∧ ((∀ k', k ≤ k' → k' < z → dOK nn (fun p => B 54 0 (60 * s + i + p)) k') → (∃ x, f_X11_way_L80 town (nI s) (nI i) (nI z) days what why n (nI k) N kx = kx x N') ∧ ∀ p, p < z → N' 98 0 p = B 54 0 (60 * s + i + p)) ∧ (¬ (∀ k', k ≤ k' → k' < z → dOK nn (fun p => B 54 0 (60 * s + i + p)) k') → f_X11_way_L80 town (nI s) (nI i) (nI z) days what why n (nI k) N kx = ((-1000001), N')) := by
  intro m
  induction m with
  | zero =>
    intro k n N kx h1 h2 hf h3
    obtain ⟨n, rfl⟩ : ∃ k, n = k + 1 := ⟨n - 1, by omega⟩
    rw [f_X11_way_L80, if_pos (nI_le (by omega) (by omega))]
    exact ⟨N, hf, fun _ => ⟨⟨_, rfl⟩, fun p hp => h3 p (by omega)⟩, fun q => absurd (fun k' q1 q2 => by omega) q⟩
  | succ m ih =>
    intro k n N kx h1 h2 hf h3
    obtain ⟨n, rfl⟩ : ∃ k, n = k + 1 := ⟨n - 1, by omega⟩
    have ix : (60 * nI s + nI i + nI k).toNatClampNeg = 60 * s + i + k := by rw [nI_m 60 s 60 rfl, nI_add, nI_add, nI_clamp (by omega)]
    rw [f_X11_way_L80, if_neg (nI_ge (by omega) (by omega)), ix, nI_clamp (by omega), hf 54 _ _ (by decide)]
    simp only [xlet_p, nI_1]
    have f1 : xfr 98 B (xup N 98 0 k (B 54 0 (60 * s + i + k))) := xfr_up hf
    rw [xup_same, isNote_n (nn := nn) (by rw [f1 40 0 30 (by decide)]; exact h30) hn]
    obtain ⟨g', x, e1, e2⟩ := w124 town (nI s) (nI i) (nI z) days what why (show k < 8 by omega) (xup N 98 0 k (B 54 0 (60 * s + i + k))) k 0 (xmu (0 : Int32) (nI k) + 1) (xb (decide (0 ≤ B 54 0 (60 * s + i + k) ∧ B 54 0 (60 * s + i + k) < nI nn))) (fun good_63 q_64 => if good_63 = 0 then ((-1000001), xup N 98 0 k (B 54 0 (60 * s + i + k))) else f_X11_way_L80 town (nI s) (nI i) (nI z) days what why n (nI (k + 1)) (xup N 98 0 k (B 54 0 (60 * s + i + k))) kx) (by omega) (by unfold xmu; rw [nI_toInt (by omega)]; simp) (by cases decide (0 ≤ B 54 0 (60 * s + i + k) ∧ B 54 0 (60 * s + i + k) < nI nn) <;> simp [xb])
    have e0 : g' = 0 ↔ ¬ dOK nn (fun p => B 54 0 (60 * s + i + p)) k := by
      rw [e2, xb_0, decide_eq_false_iff_not, xup_same]
      unfold dOK
      refine ⟨fun q d => ?_, fun q => ?_⟩
      · rcases q with q | ⟨p, p1, p2, p3⟩
        · exact q d.1
        · rw [xup_j (by omega), h3 p p2] at p3
          exact d.2 p p2 p3
      · by_cases c : 0 ≤ B 54 0 (60 * s + i + k) ∧ B 54 0 (60 * s + i + k) < nI nn
        · refine Or.inr (Classical.byContradiction (fun w => q ⟨c, fun p hp z => w ⟨p, Nat.zero_le _, hp, ?_⟩⟩))
          rw [xup_j (by omega), h3 p hp]
          exact z
        · exact Or.inl c
    have e1' : f_X11_way_L124 town (nI s) (nI i) (nI z) days what why (nI k) (xup N 98 0 k (B 54 0 (60 * s + i + k))) (xmu (0 : Int32) (nI k) + 1) (xb (decide (0 ≤ B 54 0 (60 * s + i + k) ∧ B 54 0 (60 * s + i + k) < nI nn))) 0 (fun good_63 q_64 => if good_63 = 0 then ((-1000001), xup N 98 0 k (B 54 0 (60 * s + i + k))) else f_X11_way_L80 town (nI s) (nI i) (nI z) days what why n (nI (k + 1)) (xup N 98 0 k (B 54 0 (60 * s + i + k))) kx) = _ := e1
    rw [e1']
    by_cases c : g' = 0
    · rw [if_pos c]
      refine ⟨_, f1, fun q => absurd (q k (Nat.le_refl _) (by omega)) (e0.mp c), fun _ => rfl⟩
    · rw [if_neg c]
      have dk : dOK nn (fun p => B 54 0 (60 * s + i + p)) k := Classical.byContradiction (fun w => c (e0.mpr w))
      obtain ⟨N', g1, g2, g3⟩ := ih (k + 1) n (xup N 98 0 k (B 54 0 (60 * s + i + k))) kx (by omega) (by omega) f1 (fun p hp => by
        by_cases e : p = k
        · subst e; exact xup_same
        · rw [xup_j e]; exact h3 p (by omega))
      refine ⟨N', g1, fun q => g2 (fun k' q1 q2 => q k' (by omega) q2), fun q => g3 (fun w => q (fun k' q1 q2 => ?_))⟩
      by_cases e : k' = k
      · subst e; exact dk
      · exact w k' (by omega) q2
end WAY7
