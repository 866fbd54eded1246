/-! names opened by a law, not by unfolding: the kernel would else open the heavy side -/
theorem xlet_p {α β : Type} (a : α) (k : α → β) : xlet a k = k a := by
  have h : k a = k a := Eq.refl _
  exact h
theorem xlet2_p {α γ β : Type} (a : α × γ) (k : α → γ → β) : xlet2 a k = k a.1 a.2 := by
  have h : k a.1 a.2 = k a.1 a.2 := Eq.refl _
  exact h
theorem xopt_pn {β : Type} (a : β) (k : Nat → β) : xopt none a k = a := by
  have h : a = a := Eq.refl _
  exact h
theorem xopt_ps {β : Type} (i : Nat) (a : β) (k : Nat → β) : xopt (some i) a k = k i := by
  have h : k i = k i := Eq.refl _
  exact h
/-! WHAT TIES THE CLASS TO THE REFERENCE -/
theorem xup_row {M : xM} {κ i j a : Nat} {v : Int32} (h : a ≠ κ) : xup M κ i j v a = M a := by
  funext b c; exact xup_k h
theorem xrow_row {M : xM} {κ i a : Nat} {r : Nat → Int32} (h : a ≠ κ) : xrow M κ i r a = M a := by
  funext b; exact xrow_ne (fun q => h q.1)
theorem xup_row2 {M : xM} {κ i j a b : Nat} {v : Int32} (h : b ≠ i) : xup M κ i j v a b = M a b := by
  funext c; exact xup_i h
def gOb (nb nn : Nat) (c12 c13 : Int32) (R1 R3 R7 R8 : Nat → Int32) : Prop := nb ≤ 8 ∧ nn ≤ 24 ∧ c12 = nI nb ∧ c13 = nI nn ∧ (∀ j : Nat, j < 8 → R1 j ≠ 0) ∧ (∀ j : Nat, j < 8 → R8 j ≠ 0) ∧ (∀ j : Nat, j < nb → R3 j ≠ 0) ∧ (∀ j : Nat, j < nn → R7 j ≠ 0) ∧ (∀ j : Nat, nb ≤ j → R3 j = 0) ∧ ∀ j : Nat, nn ≤ j → R7 j = 0
def gSt (s16 s1 w14 w13 f15 f22 : Int32) : Prop := s16 = s1 ∧ w14 = w13 ∧ 0 ≤ w14 ∧ w14 ≤ 299 ∧ f15 = f22
def gSh (A B : Nat → Nat → Int32) (C D E : Nat → Int32) : Prop := (∀ i : Nat, 0 ≤ A i 2 ∧ A i 2 ≤ 60) ∧ (∀ j : Nat, 0 ≤ D j ∧ D j ≤ 60) ∧ ∀ s : Nat, s < 8 → C s = A s 1 ∧ (-1) ≤ A s 1 ∧ A s 1 ≤ 2 ∧ (0 ≤ A s 1 → D s = A s 2 ∧ ∀ k : Nat, k < (A s 2).toNatClampNeg → E (60 * s + k) = B s k)
/-- the class's table of fewest miles, out of the roads -/
def flo0 (A : Nat → Int32) (k : Nat) : Int32 := if k / 6 = k % 6 then 0 else if A k = 0 then 1000000 else A k
def flo1 (F : Nat → Int32) (t a b : Nat) : Nat → Int32 := upd F (6 * a + b) (if F (6 * a + t) + F (6 * t + b) < F (6 * a + b) then F (6 * a + t) + F (6 * t + b) else F (6 * a + b))
def flo2 (t a : Nat) : Nat → Nat → (Nat → Int32) → Nat → Int32
  | 0, _, F => F
  | m + 1, b, F => flo2 t a m (b + 1) (flo1 F t a b)
def flo3 (t : Nat) : Nat → Nat → (Nat → Int32) → Nat → Int32
  | 0, _, F => F
  | m + 1, a, F => flo3 t m (a + 1) (flo2 t a 6 0 F)
def flo4 : Nat → Nat → (Nat → Int32) → Nat → Int32
  | 0, _, F => F
  | m + 1, t, F => flo4 m (t + 1) (flo3 t 6 0 F)
def flo (A : Nat → Int32) : Nat → Int32 := flo4 6 0 (flo0 A)
def gRo (A F R : Nat → Int32) : Prop := (∀ k : Nat, k < 36 → R k = A k ∧ 0 ≤ A k ∧ A k ≤ 500) ∧ ∀ k : Nat, k < 36 → F k = flo A k
def gBa (nb : Nat) (A H : Nat → Nat → Int32) (T G P S W : Nat → Int32) (c7 : Int32) : Prop := c7 = nI nb ∧ (∀ i : Nat, 0 ≤ A i 0 ∧ A i 0 ≤ 5) ∧ (∀ j : Nat, 0 ≤ T j ∧ T j ≤ 5) ∧ (∀ i : Nat, i < nb → T i = A i 0 ∧ P i = A i 1 ∧ G i = A i 2 ∧ W (9 * i) = A i 3 ∧ S i = A i 4 ∧ (A i 4 = 0 ∨ A i 4 = 1) ∧ H i i = 0 ∧ (∀ j : Nat, j < 8 → j ≠ i → W (8 * i + j) = H i j) ∧ ∀ j : Nat, nb ≤ j → j < 8 → H i j = 0) ∧ ∀ i : Nat, nb ≤ i → i < 8 → S i = 0 ∧ ∀ j : Nat, j < 8 → W (8 * i + j) = 0
def gEn (K15 K16 K17 K18 R65 R66 R67 R68 : Nat → Int32) (s4 s14 : Int32) : Prop := s14 = s4 ∧ 0 ≤ s4 ∧ s4 ≤ 40 ∧ ∀ k : Nat, k < s4.toNatClampNeg → R65 k = K16 k ∧ R66 k = K15 k ∧ R67 k = K17 k ∧ R68 k = K18 k ∧ 0 ≤ K16 k ∧ 0 ≤ K18 k ∧ (K15 k ≠ 1 → K18 k ≤ 100)
def ub (x : Int32) : Int32 := if x < 0 then x + 256 else x
def gTa (B T : Nat → Int32) (l2 l21 : Int32) : Prop := l21 = l2 ∧ 0 ≤ l2 ∧ l2 ≤ 400 ∧ (∀ j : Nat, 0 ≤ T j) ∧ ∀ k : Nat, k < l2.toNatClampNeg → T k = ub (B k) ∧ (-128) ≤ B k ∧ B k ≤ 127
def gN1 (i : Nat) (A H K : Nat → Int32) (r81 r82 r83 r84 r85 r86 r87 r88 r89 : Int32) (R90 : Nat → Int32) (r91 : Int32) (R92 R93 : Nat → Int32) : Prop := A 0 = nI i ∧ r81 = A 1 ∧ r82 = A 2 ∧ r83 = A 3 ∧ r84 = A 4 ∧ 1 ≤ A 2 ∧ A 2 ≤ 100 ∧ 0 ≤ A 4 ∧ A 4 ≤ 255 ∧ 0 ≤ A 5 ∧ A 5 ≤ 3 ∧ r85 = (if A 5 = 0 then A 8 else (-1000000)) ∧ r86 = (if A 5 = 1 then 1 else 0) ∧ r87 = (if A 5 = 2 then 1 else 0) ∧ r89 = (if A 5 = 3 then 1 else 0) ∧ r88 = A 7 ∧ (A 7 = 0 ∨ A 7 = 1)
      ∧ (A 5 = 3 → R90 (2 * i) = A 9 ∧ R90 (2 * i + 1) = A 10) ∧ r91 = A 6 ∧ 1 ≤ A 6 ∧ (A 5 = 0 → 0 ≤ A 8 ∧ A 8 ≤ 7) ∧ (A 5 = 0 → A 6 < 12 → H ((A 6).toNatClampNeg - 1) = A 8) ∧ ∀ k : Nat, k < (A 6).toNatClampNeg → R92 (12 * i + k) = H k ∧ R93 (12 * i + k) = K k ∧ 0 ≤ H k ∧ H k ≤ 7
section GN1
variable {i : Nat} {A H K : Nat → Int32} {r81 r82 r83 r84 r85 r86 r87 r88 r89 : Int32} {R90 : Nat → Int32} {r91 : Int32} {R92 R93 : Nat → Int32}
theorem gN1.i0 (h : gN1 i A H K r81 r82 r83 r84 r85 r86 r87 r88 r89 R90 r91 R92 R93) : A 0 = nI i := h.1
theorem gN1.b81 (h : gN1 i A H K r81 r82 r83 r84 r85 r86 r87 r88 r89 R90 r91 R92 R93) : r81 = A 1 := h.2.1
theorem gN1.b82 (h : gN1 i A H K r81 r82 r83 r84 r85 r86 r87 r88 r89 R90 r91 R92 R93) : r82 = A 2 := h.2.2.1
theorem gN1.b83 (h : gN1 i A H K r81 r82 r83 r84 r85 r86 r87 r88 r89 R90 r91 R92 R93) : r83 = A 3 := h.2.2.2.1
theorem gN1.b84 (h : gN1 i A H K r81 r82 r83 r84 r85 r86 r87 r88 r89 R90 r91 R92 R93) : r84 = A 4 := h.2.2.2.2.1
theorem gN1.s1 (h : gN1 i A H K r81 r82 r83 r84 r85 r86 r87 r88 r89 R90 r91 R92 R93) : 1 ≤ A 2 := h.2.2.2.2.2.1
theorem gN1.s100 (h : gN1 i A H K r81 r82 r83 r84 r85 r86 r87 r88 r89 R90 r91 R92 R93) : A 2 ≤ 100 := h.2.2.2.2.2.2.1
theorem gN1.w0 (h : gN1 i A H K r81 r82 r83 r84 r85 r86 r87 r88 r89 R90 r91 R92 R93) : 0 ≤ A 4 := h.2.2.2.2.2.2.2.1
theorem gN1.w255 (h : gN1 i A H K r81 r82 r83 r84 r85 r86 r87 r88 r89 R90 r91 R92 R93) : A 4 ≤ 255 := h.2.2.2.2.2.2.2.2.1
theorem gN1.p0 (h : gN1 i A H K r81 r82 r83 r84 r85 r86 r87 r88 r89 R90 r91 R92 R93) : 0 ≤ A 5 := h.2.2.2.2.2.2.2.2.2.1
theorem gN1.p3 (h : gN1 i A H K r81 r82 r83 r84 r85 r86 r87 r88 r89 R90 r91 R92 R93) : A 5 ≤ 3 := h.2.2.2.2.2.2.2.2.2.2.1
theorem gN1.t85 (h : gN1 i A H K r81 r82 r83 r84 r85 r86 r87 r88 r89 R90 r91 R92 R93) : r85 = (if A 5 = 0 then A 8 else (-1000000)) := h.2.2.2.2.2.2.2.2.2.2.2.1
theorem gN1.t86 (h : gN1 i A H K r81 r82 r83 r84 r85 r86 r87 r88 r89 R90 r91 R92 R93) : r86 = (if A 5 = 1 then 1 else 0) := h.2.2.2.2.2.2.2.2.2.2.2.2.1
theorem gN1.t87 (h : gN1 i A H K r81 r82 r83 r84 r85 r86 r87 r88 r89 R90 r91 R92 R93) : r87 = (if A 5 = 2 then 1 else 0) := h.2.2.2.2.2.2.2.2.2.2.2.2.2.1
theorem gN1.t89 (h : gN1 i A H K r81 r82 r83 r84 r85 r86 r87 r88 r89 R90 r91 R92 R93) : r89 = (if A 5 = 3 then 1 else 0) := h.2.2.2.2.2.2.2.2.2.2.2.2.2.2.1
theorem gN1.t88 (h : gN1 i A H K r81 r82 r83 r84 r85 r86 r87 r88 r89 R90 r91 R92 R93) : r88 = A 7 := h.2.2.2.2.2.2.2.2.2.2.2.2.2.2.2.1
theorem gN1.cut (h : gN1 i A H K r81 r82 r83 r84 r85 r86 r87 r88 r89 R90 r91 R92 R93) : (A 7 = 0 ∨ A 7 = 1) := h.2.2.2.2.2.2.2.2.2.2.2.2.2.2.2.2.1
theorem gN1.hv (h : gN1 i A H K r81 r82 r83 r84 r85 r86 r87 r88 r89 R90 r91 R92 R93) : (A 5 = 3 → R90 (2 * i) = A 9 ∧ R90 (2 * i + 1) = A 10) := h.2.2.2.2.2.2.2.2.2.2.2.2.2.2.2.2.2.1
theorem gN1.m91 (h : gN1 i A H K r81 r82 r83 r84 r85 r86 r87 r88 r89 R90 r91 R92 R93) : r91 = A 6 := h.2.2.2.2.2.2.2.2.2.2.2.2.2.2.2.2.2.2.1
theorem gN1.m1 (h : gN1 i A H K r81 r82 r83 r84 r85 r86 r87 r88 r89 R90 r91 R92 R93) : 1 ≤ A 6 := h.2.2.2.2.2.2.2.2.2.2.2.2.2.2.2.2.2.2.2.1
theorem gN1.h8 (h : gN1 i A H K r81 r82 r83 r84 r85 r86 r87 r88 r89 R90 r91 R92 R93) : (A 5 = 0 → 0 ≤ A 8 ∧ A 8 ≤ 7) := h.2.2.2.2.2.2.2.2.2.2.2.2.2.2.2.2.2.2.2.2.1
theorem gN1.hl (h : gN1 i A H K r81 r82 r83 r84 r85 r86 r87 r88 r89 R90 r91 R92 R93) : (A 5 = 0 → A 6 < 12 → H ((A 6).toNatClampNeg - 1) = A 8) := h.2.2.2.2.2.2.2.2.2.2.2.2.2.2.2.2.2.2.2.2.2.1
theorem gN1.hi (h : gN1 i A H K r81 r82 r83 r84 r85 r86 r87 r88 r89 R90 r91 R92 R93) : ∀ k : Nat, k < (A 6).toNatClampNeg → R92 (12 * i + k) = H k ∧ R93 (12 * i + k) = K k ∧ 0 ≤ H k ∧ H k ≤ 7 := h.2.2.2.2.2.2.2.2.2.2.2.2.2.2.2.2.2.2.2.2.2.2
end GN1
def gNo (nn : Nat) (A H K : Nat → Nat → Int32) (R81 R82 R83 R84 R85 R86 R87 R88 R89 R90 R91 R92 R93 : Nat → Int32) (c30 : Int32) : Prop := c30 = nI nn ∧ (∀ i : Nat, 0 ≤ A i 6 ∧ A i 6 ≤ 12) ∧ (∀ i : Nat, 0 ≤ A i 1 ∧ A i 1 ≤ 7) ∧ (∀ i : Nat, 0 ≤ A i 0 ∧ A i 0 < 24) ∧ (∀ j : Nat, 0 ≤ R81 j ∧ R81 j ≤ 7) ∧ (∀ j : Nat, 0 ≤ R91 j ∧ R91 j ≤ 12) ∧ (∀ j : Nat, R82 j ≤ 100)
  ∧ (∀ i : Nat, i < nn → gN1 i (A i) (H i) (K i) (R81 i) (R82 i) (R83 i) (R84 i) (R85 i) (R86 i) (R87 i) (R88 i) (R89 i) R90 (R91 i) R92 R93)
  ∧ ∀ i : Nat, nn ≤ i → i < 24 → R86 i = 0 ∧ R87 i = 0 ∧ R88 i = 0 ∧ R89 i = 0 ∧ R91 i = 0
def gTr (A : Nat → Nat → Int32) (R94 R95 : Nat → Int32) : Prop := (∀ i : Nat, 0 ≤ A i 0 ∧ A i 0 ≤ 5) ∧ (∀ j : Nat, 0 ≤ R94 j ∧ R94 j ≤ 5) ∧ ∀ i : Nat, i < 8 → R94 i = A i 0 ∧ R95 i = A i 1
def gRa (R10 R96 : Nat → Int32) : Prop := ∀ k : Nat, k < 48 → R96 k = R10 k ∧ 0 ≤ R10 k ∧ R10 k ≤ 100
def gTc (R23 R99 : Nat → Int32) (c1 c50 : Int32) : Prop := c50 = c1 ∧ 0 ≤ c1 ∧ c1 ≤ 16 ∧ ∀ k : Nat, k < c1.toNatClampNeg → R99 k = R23 k
def INV (nb nn : Nat) (M : xM) : Prop := gOb nb nn (M 0 0 12) (M 0 0 13) (M 1 0) (M 3 0) (M 7 0) (M 8 0) ∧ gSt (M 0 0 16) (M 40 0 1) (M 0 0 14) (M 40 0 13) (M 0 0 15) (M 40 0 22) ∧ gSh (M 24) (M 25) (M 52 0) (M 53 0) (M 54 0) ∧ gRo (M 13 0) (M 14 0) (M 55 0) ∧ gBa nb (M 27) (M 28) (M 58 0) (M 59 0) (M 60 0) (M 61 0) (M 62 0) (M 40 0 7) ∧ gEn (M 15 0) (M 16 0) (M 17 0) (M 18 0) (M 65 0) (M 66 0) (M 67 0) (M 68 0) (M 4 0 4) (M 40 0 14) ∧ gTa (M 19 0) (M 70 0) (M 5 0 2) (M 40 0 21) ∧ gNo nn (M 29) (M 30) (M 31) (M 81 0) (M 82 0) (M 83 0) (M 84 0) (M 85 0) (M 86 0) (M 87 0) (M 88 0) (M 89 0) (M 90 0) (M 91 0) (M 92 0) (M 93 0) (M 40 0 30) ∧ gTr (M 26) (M 94 0) (M 95 0) ∧ gRa (M 10 0) (M 96 0) ∧ gTc (M 23 0) (M 99 0) (M 12 0 1) (M 40 0 50)
section INVP
variable {nb nn : Nat} {M : xM}
theorem INV.ob (h : INV nb nn M) : gOb nb nn (M 0 0 12) (M 0 0 13) (M 1 0) (M 3 0) (M 7 0) (M 8 0) := h.1
theorem INV.st (h : INV nb nn M) : gSt (M 0 0 16) (M 40 0 1) (M 0 0 14) (M 40 0 13) (M 0 0 15) (M 40 0 22) := h.2.1
theorem INV.sh (h : INV nb nn M) : gSh (M 24) (M 25) (M 52 0) (M 53 0) (M 54 0) := h.2.2.1
theorem INV.ro (h : INV nb nn M) : gRo (M 13 0) (M 14 0) (M 55 0) := h.2.2.2.1
theorem INV.ba (h : INV nb nn M) : gBa nb (M 27) (M 28) (M 58 0) (M 59 0) (M 60 0) (M 61 0) (M 62 0) (M 40 0 7) := h.2.2.2.2.1
theorem INV.en (h : INV nb nn M) : gEn (M 15 0) (M 16 0) (M 17 0) (M 18 0) (M 65 0) (M 66 0) (M 67 0) (M 68 0) (M 4 0 4) (M 40 0 14) := h.2.2.2.2.2.1
theorem INV.ta (h : INV nb nn M) : gTa (M 19 0) (M 70 0) (M 5 0 2) (M 40 0 21) := h.2.2.2.2.2.2.1
theorem INV.no (h : INV nb nn M) : gNo nn (M 29) (M 30) (M 31) (M 81 0) (M 82 0) (M 83 0) (M 84 0) (M 85 0) (M 86 0) (M 87 0) (M 88 0) (M 89 0) (M 90 0) (M 91 0) (M 92 0) (M 93 0) (M 40 0 30) := h.2.2.2.2.2.2.2.1
theorem INV.n1 (h : INV nb nn M) {k : Nat} (hk : k < nn) : gN1 k (M 29 k) (M 30 k) (M 31 k) (M 81 0 k) (M 82 0 k) (M 83 0 k) (M 84 0 k) (M 85 0 k) (M 86 0 k) (M 87 0 k) (M 88 0 k) (M 89 0 k) (M 90 0) (M 91 0 k) (M 92 0) (M 93 0) := h.2.2.2.2.2.2.2.1.2.2.2.2.2.2.2.1 k hk
theorem INV.tr (h : INV nb nn M) : gTr (M 26) (M 94 0) (M 95 0) := h.2.2.2.2.2.2.2.2.1
theorem INV.ra (h : INV nb nn M) : gRa (M 10 0) (M 96 0) := h.2.2.2.2.2.2.2.2.2.1
theorem INV.tc (h : INV nb nn M) : gTc (M 23 0) (M 99 0) (M 12 0 1) (M 40 0 50) := h.2.2.2.2.2.2.2.2.2.2
theorem INV.hb (h : INV nb nn M) : xHB nb M := ⟨h.ob.1, h.ob.2.2.1, h.ob.2.2.2.2.2.2.1⟩
theorem INV.hn (h : INV nb nn M) : xHN nn M := ⟨h.ob.2.1, h.ob.2.2.2.1, h.ob.2.2.2.2.2.2.2.1⟩
theorem INV.hs (h : INV nb nn M) : xHS M := h.ob.2.2.2.2.1
theorem INV.ht (h : INV nb nn M) : xHT M := h.ob.2.2.2.2.2.1
theorem INV.c7 (h : INV nb nn M) : M 40 0 7 = nI nb := h.ba.1
theorem INV.c30 (h : INV nb nn M) : M 40 0 30 = nI nn := h.no.1
theorem INV.c12 (h : INV nb nn M) : M 0 0 12 = nI nb := h.ob.2.2.1
theorem INV.c13 (h : INV nb nn M) : M 0 0 13 = nI nn := h.ob.2.2.2.1
theorem INV.nb8 (h : INV nb nn M) : nb ≤ 8 := h.ob.1
theorem INV.nn24 (h : INV nb nn M) : nn ≤ 24 := h.ob.2.1
/-- what a call may leave behind, as nothing later looks at it -/
def jk (a b c : Nat) : Prop := a = 6 ∨ a = 9 ∨ a = 11 ∨ a = 20 ∨ a = 21 ∨ a = 22 ∨ a = 56 ∨ a = 97 ∨ a = 98 ∨ (a = 5 ∧ b = 0 ∧ c ≠ 2) ∨ (a = 40 ∧ b = 0 ∧ (c = 0 ∨ c = 19 ∨ 23 ≤ c ∧ c ≤ 29))
theorem INV_jk {N : xM} (h : INV nb nn M) (hq : ∀ a b c : Nat, ¬ jk a b c → N a b c = M a b c) : INV nb nn N := by
  have r : ∀ a : Nat, ¬ (a = 6 ∨ a = 9 ∨ a = 11 ∨ a = 20 ∨ a = 21 ∨ a = 22 ∨ a = 56 ∨ a = 97 ∨ a = 98 ∨ a = 5 ∨ a = 40) → N a = M a := by
    intro a ha
    funext b c
    refine hq a b c (fun q => ha ?_)
    unfold jk at q
    omega
  have c0 : ∀ b c : Nat, N 0 b c = M 0 b c := fun b c => hq 0 b c (by unfold jk; omega)
  have c40 : ∀ c : Nat, ¬ (c = 0 ∨ c = 19 ∨ 23 ≤ c ∧ c ≤ 29) → N 40 0 c = M 40 0 c := fun c hc => hq 40 0 c (by unfold jk; omega)
  have c5 : N 5 0 2 = M 5 0 2 := hq 5 0 2 (by unfold jk; omega)
  unfold INV at *
  rw [r 1 (by decide), r 3 (by decide), r 7 (by decide), r 8 (by decide), r 24 (by decide), r 25 (by decide), r 52 (by decide), r 53 (by decide), r 54 (by decide), r 13 (by decide), r 14 (by decide), r 55 (by decide), r 27 (by decide), r 28 (by decide), r 58 (by decide), r 59 (by decide), r 60 (by decide), r 61 (by decide), r 62 (by decide), r 15 (by decide), r 16 (by decide), r 17 (by decide), r 18 (by decide), r 65 (by decide), r 66 (by decide), r 67 (by decide), r 68 (by decide), r 4 (by decide), r 19 (by decide), r 70 (by decide), r 29 (by decide), r 30 (by decide), r 31 (by decide)]
  rw [r 81 (by decide), r 82 (by decide), r 83 (by decide), r 84 (by decide), r 85 (by decide), r 86 (by decide), r 87 (by decide), r 88 (by decide), r 89 (by decide), r 90 (by decide), r 91 (by decide), r 92 (by decide), r 93 (by decide), r 26 (by decide), r 94 (by decide), r 95 (by decide), r 10 (by decide), r 96 (by decide), r 23 (by decide), r 99 (by decide), r 12 (by decide), c0, c0, c0, c0, c0, c5, c40 1 (by omega), c40 13 (by omega), c40 22 (by omega), c40 7 (by omega), c40 14 (by omega), c40 21 (by omega), c40 30 (by omega), c40 50 (by omega)]
  exact h
theorem INV_thr {v : Int32} (h : INV nb nn M) : INV nb nn (xup M 40 0 0 v) := INV_jk h (fun a b c q => by
  rw [xup_at, if_neg]; rintro ⟨h1, h2, h3⟩; exact q (by unfold jk; omega))
theorem INV_56 {r : Nat → Int32} (h : INV nb nn M) : INV nb nn (xrow M 56 0 r) := INV_jk h (fun a b c q => by
  rw [xrow_at, if_neg]; rintro ⟨h1, h2⟩; exact q (by unfold jk; omega))
/-- the reference's bounds -/
theorem INV.mi (h : INV nb nn M) : mI M := by
  have hb := nI_b (k := nb) (by have := h.nb8; omega)
  have hn := nI_b (k := nn) (by have := h.nn24; omega)
  have h8 : nI nb ≤ 8 := nI_le (b := 8) h.nb8 (by decide)
  have h24 : nI nn ≤ 24 := nI_le (b := 24) h.nn24 (by decide)
  obtain ⟨e1, e2, e3, e4⟩ := h.en
  obtain ⟨n1, n2, n3, n4, n5, n6, n7, n8, n9⟩ := h.no
  have key : ∀ j : Int32, 0 ≤ j → j < M 40 0 30 → j.toNatClampNeg < nn := fun j h1 h2 => tnc_n (by have := h.nn24; omega) h1 (by rw [← n1]; exact h2)
  unfold mI
  rw [h.c7, h.c30, e1]
  have hT := h.ba.2.2.1
  have h94 := h.tr.2.1
  refine ⟨hb.1, h8, hn.1, h24, e2, e3, n5, n6, hT, h94, n7, ?_⟩
  intro j h1 h2
  have h3 := n8 _ (key j h1 (by rw [n1]; exact h2))
  rw [h3.b82]
  exact h3.s1
end INVP
