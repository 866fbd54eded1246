/-! books: what the two readers do with a token -/
theorem numsn {B : Nat → Int32} {a L : Nat} (hL : L ≤ 4) (ha : a + L ≤ 400) (hd : ∀ j, j < L → 48 ≤ B (a + j) ∧ B (a + j) ≤ 57) : ∀ (m d n x : Nat), d + m = L → m < n → x < 10 ^ d → ∃ y, y < 10 ^ L ∧ nums B (nI (a + L)) n (nI x) (nI (a + d)) = nI y := by
  intro m
  induction m with
  | zero =>
    intro d n x h1 h2 h3
    obtain ⟨n, rfl⟩ : ∃ k, n = k + 1 := ⟨n - 1, by omega⟩
    obtain rfl : d = L := by omega
    exact ⟨x, h3, by rw [nums, if_pos (nI_le (Nat.le_refl _) (by omega))]⟩
  | succ m ih =>
    intro d n x h1 h2 h3
    obtain ⟨n, rfl⟩ : ∃ k, n = k + 1 := ⟨n - 1, by omega⟩
    obtain ⟨b1, b2⟩ := hd d (by omega)
    obtain ⟨q, eq, hq⟩ := i32b (n := 57) (by decide) (Int32.le_trans (by decide) b1) b2
    rw [eq] at b1
    have q48 : 48 ≤ q := (nI_leI (a := 48) (by omega) (by omega)).mp b1
    have p4 : 10 ^ d ≤ 10 ^ 4 := Nat.pow_le_pow_right (by decide) (by omega)
    have e : 10 * nI x + B (a + d) - 48 = nI (10 * x + q - 48) := by
      rw [eq, nI_m 10 x 10 rfl, nI_add]
      exact pk_sub (b := 48) (by omega)
    have p10 : 10 ^ (d + 1) = 10 ^ d * 10 := Nat.pow_succ 10 d
    obtain ⟨y, y1, y2⟩ := ih (d + 1) n (10 * x + q - 48) (by omega) (by omega) (by omega)
    refine ⟨y, y1, ?_⟩
    rw [nums, if_neg (nI_ge (by omega) (by omega)), nI_clamp (by omega), e, nI_1]
    exact y2
section BOOKS
variable {B T : Nat → Int32} {len : Int32} {N R : xM}
theorem numV_b (h : trw B T len) (hl : len ≤ 400) {s : Int32} (q : TR B T len N R s) (hk : tkK B len s = 3) : 0 ≤ numV R ∧ numV R ≤ 9999 := by
  obtain ⟨n1, r1, n2, r2, n4, r26, s0, sl, np, r24, r27, n3, r25, -⟩ := q
  obtain ⟨k1, k2, k3, k4⟩ := tk_D hk
  have el := tkE_le B len s sl
  have eg := tkE_gt B len s k1
  obtain ⟨a, rfl, ha⟩ := i32b (n := 400) (by decide) s0 (Int32.le_trans sl hl)
  obtain ⟨z, ez, hz⟩ := i32b (n := 400) (by decide) (Int32.le_trans s0 (Int32.le_of_lt eg)) (Int32.le_trans el hl)
  have az : a < z := by rw [ez] at eg; exact (nI_ltI (by omega) (by omega)).mp eg
  obtain ⟨L, rfl⟩ : ∃ L, z = a + L := ⟨z - a, by omega⟩
  have L4 : L ≤ 4 := by
    unfold tkK at hk
    rw [if_pos k1, k2, k3] at hk
    simp at hk
    rw [ez, pk_sub (by omega)] at hk
    have : a + L - a = L := by omega
    rw [this] at hk
    exact (nI_leI (b := 4) (by omega) (by decide)).mp hk
  have hd : ∀ j, j < L → 48 ≤ T (a + j) ∧ T (a + j) ≤ 57 := by
    intro j hj
    have d := k4 (nI (a + j)) (nI_le (by omega) (by omega)) (by rw [ez]; exact nI_lt (by omega) (by omega))
    rw [nI_clamp (by omega)] at d
    unfold isD at d
    obtain ⟨d1, d2⟩ := of_decide_eq_true d
    have xl : a + j < len.toNatClampNeg := by
      rw [ez] at el
      have := tnc_mono el
      rw [nI_clamp (by omega)] at this
      omega
    obtain ⟨e1, b1, b2⟩ := h (a + j) xl
    rw [e1, ub_p (Int32.le_trans (by decide) d1)]
    exact ⟨d1, d2⟩
  unfold numV
  rw [if_pos (by rw [r25]; exact hk), r26, r27, r1, ez]
  obtain ⟨y, y1, y2⟩ := numsn L4 hz hd L 0 (xmu (nI a) (nI (a + L)) + 1) 0 (by omega) (by unfold xmu; rw [nI_toInt (by omega), nI_toInt (by omega)]; omega) (by decide)
  simp only [Nat.add_zero] at y2
  rw [show nI 0 = (0 : Int32) from rfl] at y2
  rw [y2]
  have : 10 ^ L ≤ 10 ^ 4 := Nat.pow_le_pow_right (by decide) L4
  exact ⟨nI_pos' (by omega), nI_le (b := 9999) (by omega) (by decide)⟩
def EE (m : Nat) (N R : xM) : Prop := ∀ k : Nat, k < m → R 65 0 k = N 16 0 k ∧ R 66 0 k = N 15 0 k ∧ R 67 0 k = N 17 0 k ∧ R 68 0 k = N 18 0 k ∧ 0 ≤ N 16 0 k ∧ 0 ≤ N 18 0 k ∧ (N 15 0 k ≠ 1 → N 18 0 k ≤ 100)
def cF (M N : xM) : Prop := ∀ a b c : Nat, ¬ a = 5 → ¬ a = 6 → ¬ (15 ≤ a ∧ a ≤ 18) → N a b c = M a b c
def rF (Z R : xM) : Prop := ∀ a b c : Nat, ¬ (a = 40 ∧ b = 0 ∧ (c = 19 ∨ 23 ≤ c ∧ c ≤ 29)) → ¬ (65 ≤ a ∧ a ≤ 68) → R a b c = Z a b c
def DD (M Z : xM) (sz wr : Nat) (N R : xM) : Prop := cF M N ∧ rF Z R ∧ N 6 0 6 = nI wr ∧ R 40 0 19 = nI (sz + wr) ∧ sz + wr ≤ 40 ∧ EE (sz + wr) N R ∧ R 40 0 28 = 0 ∧ pJ R
def OO (M Z : xM) (sz : Nat) (len : Int32) (res : Int32 × xM) (Rf : xM) : Prop := (∃ N wr, res = (0, f_X2_keep (N 6 0 6) N) ∧ DD M Z sz wr N Rf ∧ N 5 0 2 = len) ∨ (0 < res.1 ∧ Rf 40 0 28 = res.1 ∧ Rf 40 0 29 = res.2 5 0 4 ∧ cF M res.2 ∧ rF Z Rf ∧ EE sz res.2 Rf ∧ res.2 5 0 2 = len)
theorem OO_bad {M Z : xM} {sz wr : Nat} {s : Int32} (d : DD M Z sz wr N R) (q : TR B T len N R s) {N' : xM} (hN : ∀ a b c : Nat, ¬ a = 6 → N' a b c = N a b c) {r : Int32} (hr : 0 < r) : OO M Z sz len (r, N') (f_X11_bad r R) := by
  obtain ⟨d1, d2, d3, d4, d5, d6, d7, d8⟩ := d
  right
  refine ⟨hr, ?_, ?_, fun a b c h1 h2 h3 => ?_, fun a b c h1 h2 => ?_, fun k hk => ?_, ?_⟩
  · rw [bad_at, if_pos ⟨d7, rfl, rfl, rfl⟩]
  · rw [bad_at, if_neg (by omega), if_pos ⟨d7, rfl, rfl, rfl⟩]
    show _ = N' 5 0 4
    rw [hN 5 0 4 (by decide), q.2.2.2.2.1, q.2.2.2.2.2.1]
  · show N' a b c = _
    rw [hN a b c h2]; exact d1 a b c h1 h2 h3
  · rw [bad_at, if_neg (by omega), if_neg (by omega)]; exact d2 a b c h1 h2
  · have e := d6 k (by omega)
    show _ = N' 16 0 k ∧ _ = N' 15 0 k ∧ _ = N' 17 0 k ∧ _ = N' 18 0 k ∧ 0 ≤ N' 16 0 k ∧ 0 ≤ N' 18 0 k ∧ (N' 15 0 k ≠ 1 → N' 18 0 k ≤ 100)
    rw [hN 15 0 k (by decide), hN 16 0 k (by decide), hN 17 0 k (by decide), hN 18 0 k (by decide)]
    simp only [bad_at]
    rw [if_neg (by omega), if_neg (by omega), if_neg (by omega), if_neg (by omega), if_neg (by omega), if_neg (by omega), if_neg (by omega), if_neg (by omega)]
    exact e
  · show N' 5 0 2 = len
    rw [hN 5 0 2 (by decide)]; exact q.2.2.1
/-- one token further -/
theorem DD_go {M Z : xM} {sz wr : Nat} {s : Int32} (h : trw B T len) (hT : ∀ j : Nat, 0 ≤ T j) (d : DD M Z sz wr N R) (q : TR B T len N R s) {N' : xM} (hN : ∀ a b c : Nat, ¬ a = 6 → N' a b c = N a b c) (h6 : N' 6 0 6 = N 6 0 6) : TR B T len (f_X7_readToken N') (f_X11_step R) (tkS B len (tkE B len s)) ∧ DD M Z sz wr (f_X7_readToken N') (f_X11_step R) ∧ ∀ c : Nat, f_X7_readToken N' 6 0 c = N' 6 0 c := by
  obtain ⟨n1, r1, n2, r2, n4, r26, s0, sl, np, r24, r27, n3, r25, -⟩ := q
  obtain ⟨d1, d2, d3, d4, d5, d6, d7, d8⟩ := d
  have e0 : 0 ≤ tkE B len s := Int32.le_trans s0 (tkE_ge B len s)
  have el := tkE_le B len s sl
  have hl : N' 5 0 1 ≤ N' 5 0 2 := by rw [hN 5 0 1 (by decide), hN 5 0 2 (by decide), np, n2]; exact el
  have TRn := TR_go (N := N') (R := R) h hT e0 el (by funext j; rw [hN 19 0 j (by decide), n1]) (by rw [hN 5 0 2 (by decide), n2]) (by rw [hN 5 0 1 (by decide), np]) r1 r2 r24
  have ro : ∀ a b c : Nat, ¬ a = 5 → f_X7_readToken N' a b c = N' a b c := fun a b c z => rt_o hl z
  have hB : ∀ j : Nat, 0 ≤ R 70 0 j := by rw [r1]; exact hT
  have so : ∀ a b c : Nat, ¬ (a = 40 ∧ b = 0 ∧ 24 ≤ c ∧ c ≤ 29) → f_X11_step R a b c = R a b c := fun a b c z => pfr_step R hB a b c z
  refine ⟨TRn, ⟨fun a b c h1 h2 h3 => ?_, fun a b c h1 h2 => ?_, ?_, ?_, d5, fun k hk => ?_, ?_, (step_all d8).1⟩, fun c => ro 6 0 c (by decide)⟩
  · rw [ro a b c h1, hN a b c h2]; exact d1 a b c h1 h2 h3
  · rw [so a b c (fun z => h1 ⟨z.1, z.2.1, by omega⟩)]; exact d2 a b c h1 h2
  · rw [ro 6 0 6 (by decide), h6]; exact d3
  · rw [so 40 0 19 (by omega)]; exact d4
  · have e := d6 k hk
    rw [ro 15 0 k (by decide), ro 16 0 k (by decide), ro 17 0 k (by decide), ro 18 0 k (by decide), hN 15 0 k (by decide), hN 16 0 k (by decide), hN 17 0 k (by decide), hN 18 0 k (by decide), so 65 0 k (by omega), so 66 0 k (by omega), so 67 0 k (by omega), so 68 0 k (by omega)]
    exact e
  · rw [step_28 R hB]; exact d7
/-- the class after a token -/
def cT (nb n t : Nat) (N : xM) : Int32 × xM := if N 5 0 3 = 0 ∧ N 6 0 2 = 0 then (0, f_X2_keep (N 6 0 6) N) else if (f_X1_step (nI nb) N).1 = 0 then f_X1_readTape_L19 (nI nb) n (nI (t + 1)) (f_X1_step (nI nb) N).2 (fun turn_18 M_19 => xlet (f_X2_keep (M_19 6 0 6) M_19) fun M_21 => (0, M_21)) else f_X1_step (nI nb) N
theorem cT_eq {nb n t : Nat} (ht : t ≤ 400) (N : xM) : f_X1_readTape_L19 (nI nb) (n + 1) (nI t) N (fun turn_18 M_19 => xlet (f_X2_keep (M_19 6 0 6) M_19) fun M_21 => (0, M_21)) = cT nb n t (f_X7_readToken N) := by
  rw [f_X1_readTape_L19, if_neg (show ¬ (400 : Int32) < nI t from nI_nlt (a := 400) ht (by decide))]
  simp only [xlet_p, xlet2_p, nI_1]
  generalize f_X7_readToken N = N3
  unfold cT
  generalize f_X1_step (nI nb) N3 = q
  by_cases c1 : N3 5 0 3 = 0
  · by_cases c2 : N3 6 0 2 = 0
    · rw [if_pos c1, if_pos c2, if_pos ⟨c1, c2⟩]
    · rw [if_pos c1, if_neg c2, if_neg (show ¬ (N3 5 0 3 = 0 ∧ N3 6 0 2 = 0) from fun z => c2 z.2)]
      simp only [xlet_p]
  · rw [if_neg c1, if_neg (show ¬ (N3 5 0 3 = 0 ∧ N3 6 0 2 = 0) from fun z => c1 z.1)]
    simp only [xlet_p]
end BOOKS
