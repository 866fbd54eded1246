/-! a token at both readers -/
section TOK2
variable {B T : Nat → Int32} {len : Int32} {N R : xM}
def TR (B T : Nat → Int32) (len : Int32) (N R : xM) (s : Int32) : Prop := N 19 0 = B ∧ R 70 0 = T ∧ N 5 0 2 = len ∧ R 40 0 23 = len ∧ N 5 0 4 = s ∧ R 40 0 26 = s ∧ 0 ≤ s ∧ s ≤ len ∧ N 5 0 1 = tkE B len s ∧ R 40 0 24 = tkE B len s ∧ R 40 0 27 = tkE B len s ∧ N 5 0 3 = tokC (tkK B len s) ∧ R 40 0 25 = tkK B len s ∧ (tkK B len s = 3 → N 5 0 5 = numV R)
theorem TR_go (h : trw B T len) (hT : ∀ j : Nat, 0 ≤ T j) {p : Int32} (hp : 0 ≤ p) (hpl : p ≤ len) (n1 : N 19 0 = B) (n2 : N 5 0 2 = len) (n3 : N 5 0 1 = p) (r1 : R 70 0 = T) (r2 : R 40 0 23 = len) (r3 : R 40 0 24 = p) : TR B T len (f_X7_readToken N) (f_X11_step R) (tkS B len p) := by
  have at1 := rt_at N (by rw [n2, n3]; exact hpl)
  rw [n1, n2, n3] at at1
  have e := step_eq R (by rw [r1]; exact hT)
  rw [r1, r2, r3, tkS_c h hp] at e
  have s0 : 0 ≤ tkS B len p := Int32.le_trans hp (tkS_ge B len p)
  have sl : tkS B len p ≤ len := tkS_le B len p hpl
  rw [tkE_c h s0, tkK_c h s0] at e
  generalize tkS B len p = s at *
  have ta := fun a b c => tset_at R s (tkE B len s) (tkK B len s) a b c
  rw [← e] at ta
  refine ⟨?_, ?_, ?_, ?_, ?_, ?_, s0, sl, ?_, ?_, ?_, ?_, ?_, fun hk => ?_⟩
  · funext j; rw [at1, if_neg (by omega), if_neg (by omega), if_neg (by omega), if_neg (by omega), n1]
  · funext j; rw [ta, if_neg (by omega), if_neg (by omega), if_neg (by omega), r1]
  · rw [at1, if_neg (by omega), if_neg (by omega), if_neg (by omega), if_neg (by omega), n2]
  · rw [ta, if_neg (by omega), if_neg (by omega), if_neg (by omega), r2]
  · rw [at1, if_neg (by omega), if_neg (by omega), if_pos ⟨rfl, rfl, rfl⟩]
  · rw [ta, if_neg (by omega), if_pos ⟨rfl, rfl, rfl⟩]
  · rw [at1, if_pos ⟨rfl, rfl, rfl⟩]
  · rw [ta, if_pos ⟨rfl, rfl, by omega⟩]
  · rw [ta, if_pos ⟨rfl, rfl, by omega⟩]
  · rw [at1, if_neg (by omega), if_pos ⟨rfl, rfl, rfl⟩]
  · rw [ta, if_neg (by omega), if_neg (by omega), if_pos ⟨rfl, rfl, rfl⟩]
  · rw [at1, if_neg (by omega), if_neg (by omega), if_neg (by omega), if_pos ⟨rfl, rfl, rfl⟩]
    obtain ⟨k1, k2, k3, k4⟩ := tk_D hk
    have t25 : f_X11_step R 40 0 25 = 3 := by rw [ta, if_neg (by omega), if_neg (by omega), if_pos ⟨rfl, rfl, rfl⟩]; exact hk
    have t26 : f_X11_step R 40 0 26 = s := by rw [ta, if_neg (by omega), if_pos ⟨rfl, rfl, rfl⟩]
    have t27 : f_X11_step R 40 0 27 = tkE B len s := by rw [ta, if_pos ⟨rfl, rfl, by omega⟩]
    have t70 : f_X11_step R 70 0 = T := by funext j; rw [ta, if_neg (by omega), if_neg (by omega), if_neg (by omega), r1]
    unfold tkN numV
    rw [if_pos ⟨k1, k2, k3⟩, if_pos hk, if_pos t25, t26, t27, t70]
    refine (nums_c _ _ _ (fun x h1 h2 => ?_)).symm
    have xl : x < len := Int32.lt_of_lt_of_le h2 (tkE_le B len s sl)
    obtain ⟨e1, b1, b2⟩ := h x.toNatClampNeg (tnc_lt (Int32.le_trans s0 h1) xl)
    have d := k4 x h1 h2
    rw [e1]
    refine ub_p ?_
    unfold isD at d
    have := of_decide_eq_true d
    exact Int32.le_trans (by decide) this.1
theorem tokC_1 (k : Int32) : tokC k = 1 ↔ k = 2 := by unfold tokC; grind
theorem tokC_2 (k : Int32) : tokC k = 2 ↔ k = 3 := by unfold tokC; grind
theorem tokC_0 (k : Int32) : tokC k = 0 ↔ k = 1 := by unfold tokC; grind
theorem tokC_3 (k : Int32) : tokC k = 3 ↔ k = 4 := by unfold tokC; grind
theorem name_eq (h : trw B T len) (hl : len ≤ 400) {s : Int32} (q : TR B T len N R s) {wk : Nat} (hw : wk < 4) : f_X7_isName wk N = decide (f_X11_word R = lN (cwN.getD wk 0)) := by
  obtain ⟨n1, r1, n2, r2, n4, r26, s0, sl, np, r24, r27, n3, r25, -⟩ := q
  by_cases k2 : tkK B len s = 2
  · obtain ⟨c, all⟩ := tk_L k2
    have el := tkE_le B len s sl
    have eg := tkE_gt B len s c
    obtain ⟨a, rfl, ha⟩ := i32b (n := 400) (by decide) s0 (Int32.le_trans sl hl)
    obtain ⟨z, ez, hz⟩ := i32b (n := 400) (by decide) (Int32.le_trans s0 (Int32.le_of_lt eg)) (Int32.le_trans el hl)
    rw [ez] at eg np r24 r27 all el
    have az : a < z := (nI_ltI (by omega) (by omega)).mp eg
    obtain ⟨L, rfl⟩ : ∃ L, z = a + L := ⟨z - a, by omega⟩
    have lt : ∀ j, j < L → T (a + j) = B (a + j) ∧ 97 ≤ (B (a + j)).toNatClampNeg ∧ (B (a + j)).toNatClampNeg ≤ 122 ∧ B (a + j) = nI (B (a + j)).toNatClampNeg := by
      intro j hj
      have d := all (nI (a + j)) (nI_le (by omega) (by omega)) (nI_lt (by omega) (by omega))
      rw [nI_clamp (by omega)] at d
      unfold isL at d
      obtain ⟨d1, d2⟩ := of_decide_eq_true d
      have xl : a + j < len.toNatClampNeg := by
        have := tnc_mono el
        rw [nI_clamp (by omega)] at this
        omega
      obtain ⟨e1, b1, b2⟩ := h (a + j) xl
      obtain ⟨x, ex, hx⟩ := i32b (n := 122) (by decide) (Int32.le_trans (by decide) d1) d2
      refine ⟨by rw [e1]; exact ub_p (Int32.le_trans (by decide) d1), ?_⟩
      rw [ex, nI_clamp (by omega)]
      rw [ex] at d1
      exact ⟨(nI_leI (a := 97) (by omega) (by omega)).mp d1, hx, rfl⟩
    have tt : ∀ k, (if (B k).toNatClampNeg < 256 then (B k).toNatClampNeg else 0) < 256 := fun k => by split <;> omega
    have hT : ∀ j, j < L → R 70 0 (a + j) = nI (if (B (a + j)).toNatClampNeg < 256 then (B (a + j)).toNatClampNeg else 0) := fun j hj => by
      obtain ⟨l1, l2, l3, l4⟩ := lt j hj
      rw [if_pos (by omega), r1, l1]; exact l4
    have W := word_eq R (fun k => if (B k).toNatClampNeg < 256 then (B k).toNatClampNeg else 0) (a := a) (L := L) hz (by rw [r25]; exact k2) r26 r27 tt hT
    have ht : ∀ j, j < L → 97 ≤ (fun k => if (B k).toNatClampNeg < 256 then (B k).toNatClampNeg else 0) (a + j) ∧ (fun k => if (B k).toNatClampNeg < 256 then (B k).toNatClampNeg else 0) (a + j) ≤ 122 := fun j hj => by
      obtain ⟨l1, l2, l3, l4⟩ := lt j hj
      dsimp only
      rw [if_pos (by omega)]
      exact ⟨l2, l3⟩
    have tv : ∀ j x, j < L → x < 256 → ((fun k => if (B k).toNatClampNeg < 256 then (B k).toNatClampNeg else 0) (a + j) = x ↔ B (a + j) = nI x) := fun j x hj hx => by
      obtain ⟨l1, l2, l3, l4⟩ := lt j hj
      dsimp only
      rw [if_pos (by omega), l4, nI_clamp (by omega), nI_eq (by omega) (by omega)]
    have e1 : nI (a + L) - nI a = nI L := by rw [pk_sub (by omega)]; congr 1; omega
    have s7 : slen wk ≤ 7 ∧ 3 ≤ slen wk := by
      have key : ∀ w : Fin 4, slen w ≤ 7 ∧ 3 ≤ slen w := by decide
      exact key ⟨wk, hw⟩
    have nm : f_X7_isName wk N = true ↔ L = slen wk ∧ ∀ j, j < slen wk → B (a + j) = sby wk j := by
      unfold f_X7_isName
      simp only [xlet_p]
      rw [n3, if_pos ((tokC_1 _).mpr k2), np, n4, e1]
      have M1 := nmL wk N (a := a) (by omega) n4 s7.1 (slen wk) 0 (xmu (0 : Int32) (slI wk) + 1) (by omega) (by
        show slen wk < xmu (0 : Int32) (nI (slen wk)) + 1
        unfold xmu
        rw [nI_toInt (by omega)]; simp)
      rw [show nI 0 = (0 : Int32) from rfl, n1] at M1
      by_cases d : L = slen wk
      · rw [if_pos (show nI L = slI wk by rw [d]; rfl)]
        rw [M1]
        exact ⟨fun z => ⟨d, fun j hj => z j (by omega) hj⟩, fun z j _ hj => z.2 j hj⟩
      · rw [if_neg (show ¬ nI L = slI wk from fun z => d ((nI_eq (by omega) (by omega)).mp z))]
        exact ⟨fun z => absurd z (by decide), fun z => absurd z.1 d⟩
    have key : (L = slen wk ∧ ∀ j, j < slen wk → B (a + j) = sby wk j) ↔ f_X11_word R = lN (cwN.getD wk 0) := by
      rw [W]
      by_cases l8 : L < 8
      · rw [if_pos l8]
        have wl := wvn_lt (t := fun k => if (B k).toNatClampNeg < 256 then (B k).toNatClampNeg else 0) tt L 0 a 0 (by decide)
        have wl2 : 2 ^ (8 * (0 + L)) ≤ 2 ^ 56 := Nat.pow_le_pow_right (by decide) (by omega)
        have c4 : wk = 0 ∨ wk = 1 ∨ wk = 2 ∨ wk = 3 := by omega
        rcases c4 with e | e | e | e <;> subst e
        · show (L = 4 ∧ ∀ j, j < 4 → B (a + j) = sby 0 j) ↔ lN _ = lN 2003133803
          rw [pk_lEQ (by omega) (by omega), wq_0 (by omega) l8 ht]
          constructor
          · rintro ⟨rfl, z⟩
            refine ⟨rfl, (tv 0 119 (by omega) (by omega)).mpr (z 0 (by omega)), (tv 1 101 (by omega) (by omega)).mpr (z 1 (by omega)), (tv 2 101 (by omega) (by omega)).mpr (z 2 (by omega)), (tv 3 107 (by omega) (by omega)).mpr (z 3 (by omega))⟩
          · rintro ⟨rfl, z0, z1, z2, z3⟩
            refine ⟨rfl, fun j hj => ?_⟩
            have cj : j = 0 ∨ j = 1 ∨ j = 2 ∨ j = 3 := by omega
            rcases cj with e | e | e | e <;> subst e
            · exact (tv 0 119 (by omega) (by omega)).mp z0
            · exact (tv 1 101 (by omega) (by omega)).mp z1
            · exact (tv 2 101 (by omega) (by omega)).mp z2
            · exact (tv 3 107 (by omega) (by omega)).mp z3
        · show (L = 3 ∧ ∀ j, j < 3 → B (a + j) = sby 1 j) ↔ lN _ = lN 7300710
          rw [pk_lEQ (by omega) (by omega), wq_1 (by omega) l8 ht]
          constructor
          · rintro ⟨rfl, z⟩
            refine ⟨rfl, (tv 0 111 (by omega) (by omega)).mpr (z 0 (by omega)), (tv 1 102 (by omega) (by omega)).mpr (z 1 (by omega)), (tv 2 102 (by omega) (by omega)).mpr (z 2 (by omega))⟩
          · rintro ⟨rfl, z0, z1, z2⟩
            refine ⟨rfl, fun j hj => ?_⟩
            have cj : j = 0 ∨ j = 1 ∨ j = 2 := by omega
            rcases cj with e | e | e <;> subst e
            · exact (tv 0 111 (by omega) (by omega)).mp z0
            · exact (tv 1 102 (by omega) (by omega)).mp z1
            · exact (tv 2 102 (by omega) (by omega)).mp z2
        · show (L = 5 ∧ ∀ j, j < 5 → B (a + j) = sby 2 j) ↔ lN _ = lN 439721161573
          rw [pk_lEQ (by omega) (by omega), wq_2 (by omega) l8 ht]
          constructor
          · rintro ⟨rfl, z⟩
            refine ⟨rfl, (tv 0 102 (by omega) (by omega)).mpr (z 0 (by omega)), (tv 1 97 (by omega) (by omega)).mpr (z 1 (by omega)), (tv 2 108 (by omega) (by omega)).mpr (z 2 (by omega)), (tv 3 115 (by omega) (by omega)).mpr (z 3 (by omega)), (tv 4 101 (by omega) (by omega)).mpr (z 4 (by omega))⟩
          · rintro ⟨rfl, z0, z1, z2, z3, z4⟩
            refine ⟨rfl, fun j hj => ?_⟩
            have cj : j = 0 ∨ j = 1 ∨ j = 2 ∨ j = 3 ∨ j = 4 := by omega
            rcases cj with e | e | e | e | e <;> subst e
            · exact (tv 0 102 (by omega) (by omega)).mp z0
            · exact (tv 1 97 (by omega) (by omega)).mp z1
            · exact (tv 2 108 (by omega) (by omega)).mp z2
            · exact (tv 3 115 (by omega) (by omega)).mp z3
            · exact (tv 4 101 (by omega) (by omega)).mp z4
        · show (L = 7 ∧ ∀ j, j < 7 → B (a + j) = sby 3 j) ↔ lN _ = lN 32497644298331492
          rw [pk_lEQ (by omega) (by omega), wq_3 (by omega) l8 ht]
          constructor
          · rintro ⟨rfl, z⟩
            refine ⟨rfl, (tv 0 115 (by omega) (by omega)).mpr (z 0 (by omega)), (tv 1 116 (by omega) (by omega)).mpr (z 1 (by omega)), (tv 2 111 (by omega) (by omega)).mpr (z 2 (by omega)), (tv 3 112 (by omega) (by omega)).mpr (z 3 (by omega)), (tv 4 112 (by omega) (by omega)).mpr (z 4 (by omega)), (tv 5 101 (by omega) (by omega)).mpr (z 5 (by omega)), (tv 6 100 (by omega) (by omega)).mpr (z 6 (by omega))⟩
          · rintro ⟨rfl, z0, z1, z2, z3, z4, z5, z6⟩
            refine ⟨rfl, fun j hj => ?_⟩
            have cj : j = 0 ∨ j = 1 ∨ j = 2 ∨ j = 3 ∨ j = 4 ∨ j = 5 ∨ j = 6 := by omega
            rcases cj with e | e | e | e | e | e | e <;> subst e
            · exact (tv 0 115 (by omega) (by omega)).mp z0
            · exact (tv 1 116 (by omega) (by omega)).mp z1
            · exact (tv 2 111 (by omega) (by omega)).mp z2
            · exact (tv 3 112 (by omega) (by omega)).mp z3
            · exact (tv 4 112 (by omega) (by omega)).mp z4
            · exact (tv 5 101 (by omega) (by omega)).mp z5
            · exact (tv 6 100 (by omega) (by omega)).mp z6
      · rw [if_neg l8]
        have cn : (0 : Int64) ≠ lN (cwN.getD wk 0) := by
          have key : ∀ w : Fin 4, (0 : Int64) ≠ lN (cwN.getD w 0) := by decide
          exact key ⟨wk, hw⟩
        exact ⟨fun z => by omega, fun z => absurd z cn⟩
    by_cases d : f_X11_word R = lN (cwN.getD wk 0)
    · rw [decide_eq_true d]
      exact nm.mpr (key.mpr d)
    · rw [decide_eq_false d]
      cases e : f_X7_isName wk N with
      | false => rfl
      | true => exact absurd (key.mp (nm.mp e)) d
  · have w0 : f_X11_word R = 0 := by
      unfold f_X11_word
      simp only [xlet_p]
      rw [word_L7 R (by rw [r25]; exact k2)]
    have cn : (0 : Int64) ≠ lN (cwN.getD wk 0) := by
      have key : ∀ w : Fin 4, (0 : Int64) ≠ lN (cwN.getD w 0) := by decide
      exact key ⟨wk, hw⟩
    rw [w0, decide_eq_false cn]
    unfold f_X7_isName
    rw [n3, if_neg (fun z => k2 ((tokC_1 _).mp z))]
end TOK2
