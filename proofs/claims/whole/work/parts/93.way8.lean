/-! way -/
section WAY8
variable {nb nn : Nat} {M : xM}
def wk10 (town z days what : Int32) : Int32 → xM → Int32 × xM := fun _ M_32 => if what = 0 then (f_X3_plan town z days M_32 11 0 5, xup (f_X3_plan town z days M_32) 0 0 16 0) else (f_X3_plan town z days M_32 11 0 6, xup (f_X3_plan town z days M_32) 0 0 16 0)
def wk11 (town sh i z days what : Int32) : Int32 → xM → Int32 × xM := fun _ M_82 => f_X11_way_L188 town sh i z days what 0 (xmu (0 : Int32) 1536 + 1) (0 : Int32) (xup M_82 40 0 1 0) (fun _ M_85 => f_X11_way_L213 town sh i z days what 0 (xmu (1 : Int32) (days + 1) + 1) (1 : Int32) M_85 (fun _ M_87 => if what = 0 then (M_87 97 0 (((1536 * days) + (256 * town)) + (((1 : Int32) <<< (z &&& 31)) - 1)).toNatClampNeg, M_87) else f_X11_way_L428 town sh i z days what 0 (((1 : Int32) <<< (z &&& 31)) - 1) (M_87 97 0 (((1536 * days) + (256 * town)) + (((1 : Int32) <<< (z &&& 31)) - 1)).toNatClampNeg) M_87 (xmu (0 : Int32) 6 + 1) (0 : Int32) (fun _ => ((-1000000), M_87))))
theorem gain_b {A C : Int32} (hA : 1 ≤ A ∧ A ≤ 100) (hC : 0 ≤ C ∧ C ≤ 100) : A * C / 100 = nI (A * C / 100).toNatClampNeg ∧ (A * C / 100).toNatClampNeg ≤ 100 := by
  obtain ⟨a, rfl, ha⟩ := i32b (n := 100) (by decide) (Int32.le_trans (by decide) hA.1) hA.2
  obtain ⟨c, rfl, hc⟩ := i32b (n := 100) (by decide) hC.1 hC.2
  have l : a * c ≤ 100 * 100 := Nat.mul_le_mul ha hc
  have e : nI a * nI c / 100 = nI (a * c / 100) := by rw [pk_mul, show (100 : Int32) = nI 100 from rfl, pk_div (by omega) (by decide) (by decide)]
  have l2 : a * c / 100 ≤ 100 := by omega
  rw [e, nI_clamp (by omega)]
  exact ⟨rfl, l2⟩
/-- all that counts: both sides reckon the same way -/
theorem way_same (h : INV nb nn M) {t s i z r : Nat} (ht : t < 6) (hs : s < 8) (hi : i ≤ 60) (hz1 : 1 ≤ z) (hz : z ≤ 8) (h5 : r ≤ 5) (what : Int32) (hl : ∀ k, k < z → M 54 0 (60 * s + i + k) = M 25 s (i + k)) (hd : ∀ k, k < z → dOK nn (fun p => M 25 s (i + p)) k) (C : xM) (x10 : Int32) (hC : f_X10_way_L109 (nI t) (nI s) (nI i) (nI z) (nI (r + 1)) what s (xmu (0 : Int32) (nI z) + 1) (0 : Int32) M (wk10 (nI t) (nI z) (nI (r + 1)) what) = (x10, C)) : R40 M C ∧ (∀ a b c : Nat, ¬ jk a b c → ¬ (a = 0 ∧ b = 0 ∧ c = 16) → C a b c = M a b c) ∧ C 0 0 16 = 0 ∧ ∀ D : xM, (∀ a b c, 40 ≤ a → ¬ a = 98 → ¬ (a = 40 ∧ b = 0 ∧ c = 0) → D a b c = M a b c) → (∀ k, k < z → D 98 0 k = M 25 s (i + k)) → ∀ y : Int32, ∃ D', wk11 (nI t) (nI s) (nI i) (nI z) (nI (r + 1)) what y D = (x10, D') ∧ (∀ a b c, ¬ a = 97 → D' a b c = xup D 40 0 1 0 a b c) := by
  have p8 := p2_8 hz
  have hn := h.ob.2.1
  have hN : xHN nn M := h.hn
  obtain ⟨ra⟩ : Nonempty (∀ k : Nat, k < 48 → M 96 0 k = M 10 0 k ∧ 0 ≤ M 10 0 k ∧ M 10 0 k ≤ 100) := ⟨h.ra⟩
  have hq : ∀ k, k < z → (M 25 s (i + k)).toNatClampNeg < nn ∧ M 25 s (i + k) = nI (M 25 s (i + k)).toNatClampNeg := by
    intro k hk
    obtain ⟨⟨d1, d2⟩, -⟩ := hd k hk
    obtain ⟨b, eb, hb⟩ := i32b (n := nn) (by omega) d1 (by grind)
    dsimp only at eb d2
    rw [eb, nI_clamp (by omega)]
    exact ⟨(nI_ltI (by omega) (by omega)).mp (by rw [← eb]; exact d2), rfl⟩
  obtain ⟨q, hqd⟩ : ∃ q : Nat → Nat, ∀ k, q k = (M 25 s (i + k)).toNatClampNeg := ⟨_, fun k => rfl⟩
  have hq' : ∀ k, k < z → q k < nn ∧ M 25 s (i + k) = nI (q k) := fun k hk => by rw [hqd]; exact hq k hk
  -- the gains
  have gi : ∀ t k, t < 6 → k < z → (nI t * 8 + M 29 (q k) 1).toNatClampNeg < 48 ∧ (nI t * 8 + M 29 (q k) 1).toNatClampNeg = 8 * t + (M 29 (q k) 1).toNatClampNeg := by
    intro t k ht hk
    have b := h.no.2.2.1 (q k)
    obtain ⟨b', eb, hb⟩ := i32b (n := 7) (by decide) b.1 b.2
    rw [eb, ix8' ht (by omega), nI_clamp (by omega)]
    omega
  obtain ⟨G, hGd⟩ : ∃ G : Nat → Nat → Nat, ∀ t k, G t k = if t < 6 ∧ k < z then ((M 29 (q k) 2 * M 10 0 (nI t * 8 + M 29 (q k) 1).toNatClampNeg) / 100).toNatClampNeg else 0 := ⟨_, fun t k => rfl⟩
  have gb : ∀ t k, t < 6 → k < z → (M 29 (q k) 2 * M 10 0 (nI t * 8 + M 29 (q k) 1).toNatClampNeg) / 100 = nI (G t k) ∧ G t k ≤ 100 := by
    intro t k ht hk
    rw [hGd, if_pos ⟨ht, hk⟩]
    have n1 := h.n1 (hq' k hk).1
    exact gain_b ⟨n1.s1, n1.s100⟩ (ra _ (gi t k ht hk).1).2
  have hG : ∀ t k, G t k ≤ 100 := by
    intro t k
    by_cases c : t < 6 ∧ k < z
    · exact (gb t k c.1 c.2).2
    · rw [hGd, if_neg c]; omega
  obtain ⟨rd, hrd⟩ : ∃ rd : Nat → Nat → Bool, ∀ t to, rd t to = decide (0 < M 13 0 (6 * t + to)) := ⟨_, fun t to => rfl⟩
  obtain ⟨N1, x1, e1, e2, e3⟩ := w109 hN hn (nI t) (nI s) (nI (r + 1)) what (sq := s) hz hi q hq' z 0 (xmu (0 : Int32) (nI z) + 1) M (wk10 (nI t) (nI z) (nI (r + 1)) what) (by omega) (by unfold xmu; rw [nI_toInt (by omega)]; simp) (xfr_rf _ _) (fun t' k' _ q => by omega)
  obtain ⟨f1, a, b, f2, f3, f4⟩ := plan_eq (G := G) (rd := rd) (N := N1) (t := t) (r := r) hz hG (fun t k q1 q2 => by rw [e3 t k q1 q2]; exact (gb t k q1 q2).1) (fun t to _ _ => by rw [e2 13 _ _ (by decide)]; exact hrd t to) ht h5
  have hres : wk10 (nI t) (nI z) (nI (r + 1)) what x1 N1 = (x10, C) := e1.symm.trans hC
  unfold wk10 at hres
  have hCe : C = xup (f_X3_plan (nI t) (nI z) (nI (r + 1)) N1) 0 0 16 0 := by
    by_cases c : what = 0
    · rw [if_pos c] at hres; exact (congrArg Prod.snd hres).symm
    · rw [if_neg c] at hres; exact (congrArg Prod.snd hres).symm
  have hx : x10 = if what = 0 then nI (wgv G rd z r t (dS z 0) b a) else cdW z a b := by
    by_cases c : what = 0
    · rw [if_pos c] at hres ⊢; rw [← f3]; exact (congrArg Prod.fst hres).symm
    · rw [if_neg c] at hres ⊢; rw [← f4]; exact (congrArg Prod.fst hres).symm
  have frC : ∀ a b c : Nat, ¬ jk a b c → ¬ (a = 0 ∧ b = 0 ∧ c = 16) → C a b c = M a b c := by
    intro a b c q1 q2
    unfold jk at q1
    rw [hCe, xup_at, if_neg q2, f1 a b c (by omega) (by omega) (by omega), e2 a b c (by omega)]
  refine ⟨fun a b c q => ?_, frC, by rw [hCe, xup_same], fun D hD h98 y => ?_⟩
  · rw [hCe, xup_k (by omega), f1 a b c (by omega) (by omega) (by omega), e2 a b c (by omega)]
  · -- the reference
    have hr : ∀ t to, t < 6 → to < 6 → rd t to = decide (0 < xup D 40 0 1 0 55 0 (6 * t + to)) := by
      intro t to q1 q2
      rw [xup_k (by decide), hD 55 _ _ (by decide) (by decide) (by omega), hrd, (h.ro.1 (6 * t + to) (by omega)).1]
    have hg : ∀ t k, t < 6 → k < z → f_X11_brings (nI k) (nI t) (xup D 40 0 1 0) = nI (G t k) := by
      intro t k q1 q2
      have n1 := h.n1 (hq' k q2).1
      have l1 := (hq' k q2).1
      unfold f_X11_brings
      rw [nI_clamp (by omega), xup_k (by decide), xup_k (by decide), xup_k (by decide), xup_k (by decide), h98 k q2, (hq' k q2).2, nI_clamp (by omega), hD 82 _ _ (by decide) (by decide) (by omega), hD 81 _ _ (by decide) (by decide) (by omega), hD 96 _ _ (by decide) (by decide) (by omega), n1.b82, n1.b81, nI_m 8 t 8 rfl, ← (gb t k q1 q2).1]
      have w := gi t k q1 q2
      rw [nI_mr 8 t 8 rfl, Nat.mul_comm t 8] at w ⊢
      rw [(ra _ w.1).1]
    obtain ⟨N2, x2, g1, g2, g3⟩ := w188 (B := xup D 40 0 1 0) (nI t) (nI s) (nI i) (nI z) (nI (r + 1)) what 0 1536 0 (xmu (0 : Int32) 1536 + 1) (xup D 40 0 1 0) (fun _ M_85 => f_X11_way_L213 (nI t) (nI s) (nI i) (nI z) (nI (r + 1)) what 0 (xmu (1 : Int32) (nI (r + 1) + 1) + 1) (1 : Int32) M_85 (fun _ M_87 => if what = 0 then (M_87 97 0 (((1536 * nI (r + 1)) + (256 * nI t)) + (((1 : Int32) <<< (nI z &&& 31)) - 1)).toNatClampNeg, M_87) else f_X11_way_L428 (nI t) (nI s) (nI i) (nI z) (nI (r + 1)) what 0 (((1 : Int32) <<< (nI z &&& 31)) - 1) (M_87 97 0 (((1536 * nI (r + 1)) + (256 * nI t)) + (((1 : Int32) <<< (nI z &&& 31)) - 1)).toNatClampNeg) M_87 (xmu (0 : Int32) 6 + 1) (0 : Int32) (fun _ => ((-1000000), M_87)))) rfl (by decide) (xfr_rf _ _) (fun j q => by omega)
    obtain ⟨N3, x3, k1, k2, k3, k4⟩ := w213 (B := xup D 40 0 1 0) (G := G) (rd := rd) (z := z) (nI t) (nI s) (nI i) what 0 hz hr hg hG (days := r + 1) (by omega) (r + 1) 0 (xmu (1 : Int32) (nI (r + 1) + 1) + 1) N2 (fun _ M_87 => if what = 0 then (M_87 97 0 (((1536 * nI (r + 1)) + (256 * nI t)) + (((1 : Int32) <<< (nI z &&& 31)) - 1)).toNatClampNeg, M_87) else f_X11_way_L428 (nI t) (nI s) (nI i) (nI z) (nI (r + 1)) what 0 (((1 : Int32) <<< (nI z &&& 31)) - 1) (M_87 97 0 (((1536 * nI (r + 1)) + (256 * nI t)) + (((1 : Int32) <<< (nI z &&& 31)) - 1)).toNatClampNeg) M_87 (xmu (0 : Int32) 6 + 1) (0 : Int32) (fun _ => ((-1000000), M_87))) (by omega) (by rw [nI_1]; unfold xmu; rw [nI_toInt (by omega), show (1 : Int32).toInt = 1 from rfl]; omega) g2 (fun to s' q1 q2 => by rw [g3 _ (by omega)]; rfl) (fun q => by omega)
    have k4 := k4 (by omega)
    rw [show r + 1 - 1 = r by omega] at k4
    have pz : 1 ≤ 2 ^ z := Nat.pow_pos (by decide)
    have e7 : (1 : Int32) <<< (nI z &&& 31) - 1 = nI (2 ^ z - 1) := by
      rw [shl_32 (by omega)]
      obtain ⟨w, hw⟩ : ∃ w, 2 ^ z = w + 1 := ⟨2 ^ z - 1, by omega⟩
      rw [hw, nI_pred]; rfl
    have e8 : N3 97 0 ((1536 * nI (r + 1) + 256 * nI t) + nI (2 ^ z - 1)).toNatClampNeg = nI (wgv G rd z r t (dS z 0) b a) := by
      rw [nI_m 1536 (r + 1) 1536 rfl, nI_m 256 t 256 rfl, nI_add, nI_add, nI_clamp (by omega), k3 t (2 ^ z - 1) ht (by omega), fst1_W f2, dS_0]
    refine ⟨N3, ?_, k2⟩
    unfold wk11
    refine g1.trans (k1.trans ?_)
    rw [e7, e8, hx]
    by_cases c : what = 0
    · rw [if_pos c, if_pos c]
    · rw [if_neg c, if_neg c]
      rw [dS_0] at f2 ⊢
      exact w428 (B := xup D 40 0 1 0) (nI s) (nI i) what 0 hz hr hg hG k2 (show r ≤ 6 by omega) k4 (show 2 ^ z - 1 < 2 ^ z by omega) ht f2 _ 6 0 (xmu (0 : Int32) 6 + 1) (by omega) (by decide) (Nat.zero_le _)
end WAY8
