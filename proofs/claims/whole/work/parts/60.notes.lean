/-! notes that change hands -/
theorem gNo_1 {nn k : Nat} {M N : xM} (hk : k < nn) (hnn : nn ≤ 24) (g : gNo nn (M 29) (M 30) (M 31) (M 81 0) (M 82 0) (M 83 0) (M 84 0) (M 85 0) (M 86 0) (M 87 0) (M 88 0) (M 89 0) (M 90 0) (M 91 0) (M 92 0) (M 93 0) (M 40 0 30)) (c30 : N 40 0 30 = M 40 0 30) (r81 : N 81 0 = M 81 0) (r82 : N 82 0 = M 82 0) (r83 : N 83 0 = M 83 0) (r84 : N 84 0 = M 84 0)
    (o : ∀ i : Nat, i ≠ k → N 29 i = M 29 i ∧ N 30 i = M 30 i ∧ N 31 i = M 31 i ∧ N 85 0 i = M 85 0 i ∧ N 86 0 i = M 86 0 i ∧ N 87 0 i = M 87 0 i ∧ N 88 0 i = M 88 0 i ∧ N 89 0 i = M 89 0 i ∧ N 91 0 i = M 91 0 i ∧ N 90 0 (2 * i) = M 90 0 (2 * i) ∧ N 90 0 (2 * i + 1) = M 90 0 (2 * i + 1) ∧ ∀ j : Nat, j < 12 → N 92 0 (12 * i + j) = M 92 0 (12 * i + j) ∧ N 93 0 (12 * i + j) = M 93 0 (12 * i + j))
    (b6 : 0 ≤ N 29 k 6 ∧ N 29 k 6 ≤ 12) (b1 : N 29 k 1 = M 29 k 1) (b0 : N 29 k 0 = M 29 k 0) (new : gN1 k (N 29 k) (N 30 k) (N 31 k) (N 81 0 k) (N 82 0 k) (N 83 0 k) (N 84 0 k) (N 85 0 k) (N 86 0 k) (N 87 0 k) (N 88 0 k) (N 89 0 k) (N 90 0) (N 91 0 k) (N 92 0) (N 93 0)) : gNo nn (N 29) (N 30) (N 31) (N 81 0) (N 82 0) (N 83 0) (N 84 0) (N 85 0) (N 86 0) (N 87 0) (N 88 0) (N 89 0) (N 90 0) (N 91 0) (N 92 0) (N 93 0) (N 40 0 30) := by
  obtain ⟨g1, g2, g3, g4, g5, g6, g7, g8, g9⟩ := g
  refine ⟨by rw [c30]; exact g1, fun i => ?_, fun i => ?_, fun i => ?_, fun j => by rw [r81]; exact g5 j, fun i => ?_, fun j => by rw [r82]; exact g7 j, fun i hi => ?_, fun i hi hi2 => ?_⟩
  · by_cases e : i = k
    · rw [e]; exact b6
    · rw [(o i e).1]; exact g2 i
  · by_cases e : i = k
    · rw [e, b1]; exact g3 k
    · rw [(o i e).1]; exact g3 i
  · by_cases e : i = k
    · rw [e, b0]; exact g4 k
    · rw [(o i e).1]; exact g4 i
  · by_cases e : i = k
    · rw [e, new.m91]; exact b6
    · rw [(o i e).2.2.2.2.2.2.2.2.1]; exact g6 i
  · by_cases e : i = k
    · subst e; exact new
    · obtain ⟨o1, o2, o3, o4, o5, o6, o7, o8, o9, o10, o11, o12⟩ := o i e
      have q := g8 i hi
      rw [o1, o2, o3, o4, o5, o6, o7, o8, o9, r81, r82, r83, r84]
      have h12 : (M 29 i 6).toNatClampNeg ≤ 12 := tnc_le (N := 12) (by decide) (g2 i).2
      refine ⟨q.i0, q.b81, q.b82, q.b83, q.b84, q.s1, q.s100, q.w0, q.w255, q.p0, q.p3, q.t85, q.t86, q.t87, q.t89, q.t88, q.cut, fun z => ?_, q.m91, q.m1, q.h8, q.hl, fun j hj => ?_⟩
      · rw [o10, o11]; exact q.hv z
      · rw [(o12 j (by omega)).1, (o12 j (by omega)).2]; exact q.hi j hj
  · obtain ⟨o1, o2, o3, o4, o5, o6, o7, o8, o9, o10, o11, o12⟩ := o i (by omega)
    rw [o5, o6, o7, o8, o9]
    exact g9 i hi hi2
section NOTES
variable {i : Nat} {A H K A' H' K' : Nat → Int32} {r81 r82 r83 r84 r85 r86 r87 r88 r89 : Int32} {R90 R90' : Nat → Int32} {r91 r91' : Int32} {R92 R93 R92' R93' : Nat → Int32}
/-- it goes home, or is lost -/
theorem gN1_w (g : gN1 i A H K r81 r82 r83 r84 r85 r86 r87 r88 r89 R90 r91 R92 R93) {w x85 x86 x87 x89 : Int32} (hA : ∀ c : Nat, c ≠ 5 → A' c = A c) (h5 : A' 5 = w) (hw : w = 1 ∨ w = 2) (e85 : x85 = (-1000000)) (e86 : x86 = if w = 1 then 1 else 0) (e87 : x87 = if w = 2 then 1 else 0) (e89 : x89 = 0) : gN1 i A' H K r81 r82 r83 r84 x85 x86 x87 r88 x89 R90 r91 R92 R93 := by
  obtain ⟨n1, n2, n3, n4, n5, n6, n7, n8, n9, n10, n11, n12, n13, n14, n15, n16, n17, n18, n19, n20, n21, n22, n23⟩ := g
  unfold gN1
  simp only [hA 0 (by decide), hA 1 (by decide), hA 2 (by decide), hA 3 (by decide), hA 4 (by decide), hA 6 (by decide), hA 7 (by decide), hA 8 (by decide), hA 9 (by decide), hA 10 (by decide), h5, e85, e86, e87, e89]
  have w0 : ¬ w = 0 := by rcases hw with q | q <;> subst q <;> decide
  have w3 : ¬ w = 3 := by rcases hw with q | q <;> subst q <;> decide
  exact ⟨n1, n2, n3, n4, n5, n6, n7, n8, n9, by rcases hw with q | q <;> subst q <;> decide, by rcases hw with q | q <;> subst q <;> decide, by rw [if_neg w0], trivial, trivial, by rw [if_neg w3], n16, n17, fun q => absurd q w3, n19, n20, fun q => absurd q w0, fun q => absurd q w0, n23⟩
/-- it is cut, or a half of it moves -/
theorem gN1_c (g : gN1 i A H K r81 r82 r83 r84 r85 r86 r87 r88 r89 R90 r91 R92 R93) {x85 x86 x87 x88 x89 : Int32} (hA : ∀ c : Nat, c ≠ 5 → c ≠ 7 → c ≠ 9 → c ≠ 10 → A' c = A c) (h5 : A' 5 = 3) (h7 : x88 = A' 7 ∧ (A' 7 = 0 ∨ A' 7 = 1)) (h9 : R90' (2 * i) = A' 9 ∧ R90' (2 * i + 1) = A' 10) (e85 : x85 = (-1000000)) (e86 : x86 = 0) (e87 : x87 = 0) (e89 : x89 = 1) : gN1 i A' H K r81 r82 r83 r84 x85 x86 x87 x88 x89 R90' r91 R92 R93 := by
  obtain ⟨n1, n2, n3, n4, n5, n6, n7, n8, n9, n10, n11, n12, n13, n14, n15, n16, n17, n18, n19, n20, n21, n22, n23⟩ := g
  unfold gN1
  simp only [hA 0 (by decide) (by decide) (by decide) (by decide), hA 1 (by decide) (by decide) (by decide) (by decide), hA 2 (by decide) (by decide) (by decide) (by decide), hA 3 (by decide) (by decide) (by decide) (by decide), hA 4 (by decide) (by decide) (by decide) (by decide), hA 6 (by decide) (by decide) (by decide) (by decide), hA 8 (by decide) (by decide) (by decide) (by decide), h5, e85, e86, e87, e89]
  exact ⟨n1, n2, n3, n4, n5, n6, n7, n8, n9, by decide, by decide, by simp, by decide, by decide, by decide, h7.1, h7.2, fun _ => h9, n19, n20, fun q => absurd q (by decide), fun q => absurd q (by decide), n23⟩
/-- it comes to a trader; 'ad': a hand more is told -/
theorem gN1_h (g : gN1 i A H K r81 r82 r83 r84 r85 r86 r87 r88 r89 R90 r91 R92 R93) {x85 x86 x87 x89 to w : Int32} {n : Nat} (hn : A 6 = nI n) (hn12 : n ≤ 12) (ad : Bool) (hA : ∀ c : Nat, c ≠ 5 → c ≠ 6 → c ≠ 8 → c ≠ 9 → c ≠ 10 → A' c = A c) (h5 : A' 5 = 0) (h8 : A' 8 = to) (ht : 0 ≤ to ∧ to ≤ 7) (h6 : A' 6 = if ad = true then nI (n + 1) else nI n) (had : ad = true → n < 12) (hno : ad = false → n = 12 ∨ H (n - 1) = to)
    (hH : ∀ c : Nat, H' c = if ad = true ∧ c = n then to else H c) (hK : ∀ c : Nat, K' c = if ad = true ∧ c = n then w else K c) (h92 : ∀ c : Nat, c < 12 → R92' (12 * i + c) = if ad = true ∧ c = n then to else R92 (12 * i + c)) (h93 : ∀ c : Nat, c < 12 → R93' (12 * i + c) = if ad = true ∧ c = n then w else R93 (12 * i + c)) (e91 : r91' = A' 6) (e85 : x85 = to) (e86 : x86 = 0) (e87 : x87 = 0) (e89 : x89 = 0) : gN1 i A' H' K' r81 r82 r83 r84 x85 x86 x87 r88 x89 R90' r91' R92' R93' := by
  obtain ⟨n1, n2, n3, n4, n5, n6, n7, n8, n9, n10, n11, n12, n13, n14, n15, n16, n17, n18, n19, n20, n21, n22, n23⟩ := g
  unfold gN1
  rw [hn] at n20 n22 n23
  rw [nI_clamp (by omega)] at n22 n23
  simp only [hA 0 (by decide) (by decide) (by decide) (by decide) (by decide), hA 1 (by decide) (by decide) (by decide) (by decide) (by decide), hA 2 (by decide) (by decide) (by decide) (by decide) (by decide), hA 3 (by decide) (by decide) (by decide) (by decide) (by decide), hA 4 (by decide) (by decide) (by decide) (by decide) (by decide), hA 7 (by decide) (by decide) (by decide) (by decide) (by decide), h5, h8, e85, e86, e87, e89]
  refine ⟨n1, n2, n3, n4, n5, n6, n7, n8, n9, by decide, by decide, by simp, by decide, by decide, by decide, n16, n17, fun q => absurd q (by decide), e91, ?_, fun _ => ht, fun _ => ?_, ?_⟩
  · rw [h6]
    cases ad with
    | true => simp; exact nI_le (a := 1) (by omega) (by omega)
    | false => simp; exact n20
  · rw [h6]
    cases ad with
    | true =>
      have := had rfl
      intro _
      simp only [if_true]
      rw [nI_clamp (by omega), hH, if_pos ⟨rfl, by omega⟩]
    | false =>
      simp only [Bool.false_eq_true, if_false]
      intro q
      rw [nI_clamp (by omega), hH, if_neg (by simp)]
      rcases hno rfl with e | e
      · rw [e] at q; exact absurd q (by decide)
      · exact e
  · intro c hc
    rw [h6] at hc
    cases ad with
    | true =>
      have := had rfl
      simp only [if_true] at hc
      rw [nI_clamp (by omega)] at hc
      rw [h92 c (by omega), h93 c (by omega), hH, hK]
      by_cases e : c = n
      · simp [e, ht]
      · simp only [e, and_false, if_false]
        exact n23 c (by omega)
    | false =>
      simp only [Bool.false_eq_true, if_false] at hc
      rw [nI_clamp (by omega)] at hc
      rw [h92 c (by omega), h93 c (by omega), hH, hK]
      simp only [Bool.false_eq_true, false_and, if_false]
      exact n23 c hc
end NOTES
theorem nar1 : vp_nar .boolean 1 = 1 := rfl
theorem nar0 : vp_nar .boolean 0 = 0 := rfl
theorem handOn_at {k : Nat} {to w : Int32} {M : xM} {n : Nat} (hn : M 29 k 6 = nI n) (hn12 : n ≤ 12) (a b c : Nat) : f_X4_handOn k to w M a b c = if a = 29 ∧ b = k ∧ c = 5 then 0 else if a = 29 ∧ b = k ∧ c = 8 then to else if n < 12 ∧ a = 30 ∧ b = k ∧ c = n then to else if n < 12 ∧ a = 31 ∧ b = k ∧ c = n then w else if n < 12 ∧ a = 29 ∧ b = k ∧ c = 6 then nI (n + 1) else M a b c := by
  unfold f_X4_handOn
  have e6 : xup (xup M 29 k 5 0) 29 k 8 to 29 k 6 = nI n := by rw [xup_j (by decide), xup_j (by decide)]; exact hn
  simp only [xlet_p, e6]
  rw [if_neg (nI_pos (by omega))]
  by_cases d : n < 12
  · rw [if_neg (show ¬ (12 : Int32) ≤ nI n from nI_ge (b := 12) d (by decide)), nI_clamp (by omega), nI_1]
    simp only [xup_at, d, true_and]
    by_cases e1 : a = 29
    · subst e1
      simp
      by_cases e2 : b = k
      · subst e2
        simp
        by_cases e3 : c = 6
        · subst e3; simp
        · by_cases e4 : c = 8
          · subst e4; simp
          · simp [e3, e4]
      · simp [e2]
    · by_cases e2 : a = 30
      · subst e2; simp
      · simp [e1, e2]
  · rw [if_pos (show (12 : Int32) ≤ nI n from nI_le (a := 12) (by omega) (by omega))]
    simp only [xup_at, d, false_and, if_false]
    by_cases e1 : a = 29 ∧ b = k
    · obtain ⟨rfl, rfl⟩ := e1
      by_cases e4 : c = 8
      · subst e4; simp
      · simp [e4]
    · have : ∀ x, ¬ (a = 29 ∧ b = k ∧ c = x) := fun x q => e1 ⟨q.1, q.2.1⟩
      simp only [this, if_false]
theorem come_at {k : Nat} {t : Int32} {M : xM} {n : Nat} (hk : k < 24) (hn : M 91 0 k = nI n) (hn12 : n ≤ 12) (a b c : Nat) : f_X11_comeTo (nI k) t M a b c = if a = 85 ∧ b = 0 ∧ c = k then t else if (n < 12 ∧ (n = 0 ∨ M 92 0 (12 * k + n - 1) ≠ t)) ∧ a = 92 ∧ b = 0 ∧ c = 12 * k + n then t else if (n < 12 ∧ (n = 0 ∨ M 92 0 (12 * k + n - 1) ≠ t)) ∧ a = 93 ∧ b = 0 ∧ c = 12 * k + n then M 40 0 13 else if (n < 12 ∧ (n = 0 ∨ M 92 0 (12 * k + n - 1) ≠ t)) ∧ a = 91 ∧ b = 0 ∧ c = k then nI (n + 1) else M a b c := by
  unfold f_X11_comeTo
  have e91 : xup M 85 0 k t 91 0 k = nI n := by rw [xup_k (by decide)]; exact hn
  have e92 : ∀ j : Nat, xup M 85 0 k t 92 0 j = M 92 0 j := fun j => xup_k (by decide)
  have f13 : ∀ j : Nat, xup (xup M 85 0 k t) 92 0 j t 40 0 13 = M 40 0 13 := fun j => by rw [xup_k (by decide), xup_k (by decide)]
  have f91 : ∀ (j : Nat) (v : Int32), xup (xup (xup M 85 0 k t) 92 0 j t) 93 0 j v 91 0 k = nI n := fun j v => by rw [xup_k (by decide), xup_k (by decide), xup_k (by decide)]; exact hn
  simp only [xlet_p, nI_clamp (show k < 2 ^ 31 by omega), e91, nI_m 12 k 12 rfl, nI_add, nI_clamp (show 12 * k + n < 2 ^ 31 by omega), f13, f91, nI_1]
  have chain : xup (xup (xup (xup M 85 0 k t) 92 0 (12 * k + n) t) 93 0 (12 * k + n) (M 40 0 13)) 91 0 k (nI (n + 1)) a b c = if a = 85 ∧ b = 0 ∧ c = k then t else if a = 92 ∧ b = 0 ∧ c = 12 * k + n then t else if a = 93 ∧ b = 0 ∧ c = 12 * k + n then M 40 0 13 else if a = 91 ∧ b = 0 ∧ c = k then nI (n + 1) else M a b c := by
    simp only [xup_at]
    by_cases e1 : a = 91
    · subst e1; simp
    · by_cases e2 : a = 93
      · subst e2; simp
      · by_cases e3 : a = 92
        · subst e3; simp
        · simp [e1, e2, e3]
  by_cases d : n < 12
  · rw [if_neg (show ¬ (12 : Int32) ≤ nI n from nI_ge (b := 12) d (by decide))]
    by_cases d0 : n = 0
    · rw [if_pos (by rw [d0]; rfl), chain]
      simp [d, d0]
    · have ep : nI (12 * k + n) - 1 = nI (12 * k + n - 1) := by
        obtain ⟨m, rfl⟩ : ∃ m, n = m + 1 := ⟨n - 1, by omega⟩
        rw [← Nat.add_assoc, nI_pred]; congr 1
      rw [if_neg (nI_ne0 (by omega) (by omega)), ep, nI_clamp (by omega), e92]
      by_cases d1 : M 92 0 (12 * k + n - 1) = t
      · rw [if_pos d1, xup_at]
        simp [d, d0, d1]
      · rw [if_neg d1, chain]
        simp [d, d0, d1]
  · rw [if_pos (show (12 : Int32) ≤ nI n from nI_le (a := 12) (by omega) (by omega)), xup_at]
    simp [d]

