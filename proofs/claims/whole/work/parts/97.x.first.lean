/-! THE FIRST WORLD: both objects as the constructors leave them -/
def w_X11 (g : xG) (h0 : Nat) (u : Nat → Nat) : va_W := [(h0, .inr (11, [.int 0, .int 0, .ref (u 0), .ref (u 1), .ref (u 2), .ref (u 3), .ref (u 4), .int 0, .ref (u 5), .ref (u 6), .ref (u 7), .ref (u 8), .ref (u 9), .int 0, .int 0, .ref (u 10), .ref (u 11), .ref (u 12), .ref (u 13), .int 0, .ref (u 14), .int 0, .int 0, .int 0, .int 0, .int 0, .int 0, .int 0, .int 0, .int 0, .int 0, .ref (u 15), .ref (u 16), .ref (u 17), .ref (u 18), .ref (u 19), .ref (u 20), .ref (u 21), .ref (u 22), .ref (u 23), .ref (u 24), .ref (u 25), .ref (u 26), .ref (u 27), .ref (u 28), .ref (u 29), .ref (u 30), .ref (u 31), .ref (u 32), .ref (u 33), .int 0])), ((u 0), .inl (xcy g 1, 8, .inl (upd (upd (upd (upd (upd (upd (upd (upd (fun _ => 0) (0 : Int32).toNatClampNeg (-1)) (1 : Int32).toNatClampNeg (-1)) (2 : Int32).toNatClampNeg (-1)) (3 : Int32).toNatClampNeg (-1)) (4 : Int32).toNatClampNeg (-1)) (5 : Int32).toNatClampNeg (-1)) (6 : Int32).toNatClampNeg (-1)) (7 : Int32).toNatClampNeg (-1)))), ((u 1), .inl (xcy g 1, 8, .inl (fun _ => 0))), ((u 2), .inl (xcy g 1, 480, .inl (fun _ => 0))), ((u 3), .inl (xcy g 1, 36, .inl (fun _ => 0))), ((u 4), .inl (xcy g 1, 6, .inl (fun _ => 0))), ((u 5), .inl (xcy g 1, 8, .inl (fun _ => 0))), ((u 6), .inl (xcy g 1, 8, .inl (fun _ => 0))), ((u 7), .inl (xcy g 1, 8, .inl (fun _ => 0))), ((u 8), .inl (xcy g 2, 8, .inl (fun _ => 0))), ((u 9), .inl (xcy g 1, 64, .inl (fun _ => 0))), ((u 10), .inl (xcy g 1, 40, .inl (fun _ => 0))), ((u 11), .inl (xcy g 1, 40, .inl (fun _ => 0))), ((u 12), .inl (xcy g 1, 40, .inl (fun _ => 0))), ((u 13), .inl (xcy g 1, 40, .inl (fun _ => 0))), ((u 14), .inl (xcy g 1, 400, .inl (fun _ => 0))), ((u 15), .inl (xcy g 1, 24, .inl (fun _ => 0))), ((u 16), .inl (xcy g 1, 24, .inl (fun _ => 0))), ((u 17), .inl (xcy g 1, 24, .inl (fun _ => 0))), ((u 18), .inl (xcy g 1, 24, .inl (fun _ => 0))), ((u 19), .inl (xcy g 1, 24, .inl (fun _ => 0))), ((u 20), .inl (xcy g 2, 24, .inl (fun _ => 0))), ((u 21), .inl (xcy g 2, 24, .inl (fun _ => 0))), ((u 22), .inl (xcy g 2, 24, .inl (fun _ => 0))), ((u 23), .inl (xcy g 2, 24, .inl (fun _ => 0))), ((u 24), .inl (xcy g 1, 48, .inl (fun _ => 0))), ((u 25), .inl (xcy g 1, 24, .inl (fun _ => 0))), ((u 26), .inl (xcy g 1, 288, .inl (fun _ => 0))), ((u 27), .inl (xcy g 1, 288, .inl (fun _ => 0))), ((u 28), .inl (xcy g 1, 8, .inl (fun _ => 0))), ((u 29), .inl (xcy g 1, 8, .inl (upd (upd (upd (upd (upd (upd (upd (upd (fun _ => 0) (0 : Int32).toNatClampNeg 50) (1 : Int32).toNatClampNeg 50) (2 : Int32).toNatClampNeg 50) (3 : Int32).toNatClampNeg 50) (4 : Int32).toNatClampNeg 50) (5 : Int32).toNatClampNeg 50) (6 : Int32).toNatClampNeg 50) (7 : Int32).toNatClampNeg 50))), ((u 30), .inl (xcy g 1, 48, .inl (fun _ => 0))), ((u 31), .inl (xcy g 1, 10752, .inl (fun _ => 0))), ((u 32), .inl (xcy g 1, 8, .inl (fun _ => 0))), ((u 33), .inl (xcy g 1, 16, .inl (fun _ => 0)))]
def L0 : List (Nat × Nat) := [(0, 0), (1, 0), (2, 0), (13, 0), (14, 0), (3, 0), (4, 0), (15, 0), (16, 0), (17, 0), (18, 0), (5, 0), (19, 0), (6, 0), (7, 0), (8, 0), (9, 0), (10, 0), (11, 0), (20, 0), (21, 0), (22, 0), (12, 0), (23, 0), (24, 0), (25, 0), (24, 1), (25, 1), (24, 2), (25, 2), (24, 3), (25, 3), (24, 4), (25, 4), (24, 5), (25, 5), (24, 6), (25, 6), (24, 7), (25, 7), (26, 0), (26, 1), (26, 2), (26, 3), (26, 4), (26, 5), (26, 6), (26, 7), (40, 0), (52, 0), (53, 0), (54, 0), (55, 0), (56, 0), (58, 0), (59, 0), (60, 0), (61, 0), (62, 0), (65, 0), (66, 0), (67, 0), (68, 0), (70, 0), (81, 0), (82, 0), (83, 0), (84, 0), (85, 0), (86, 0), (87, 0), (88, 0), (89, 0), (90, 0), (91, 0), (92, 0), (93, 0), (94, 0), (95, 0), (96, 0), (97, 0), (98, 0), (99, 0)]
def ad0 (h0 : Nat) (u : Nat → Nat) (h1 : Nat) (v : Nat → Nat) : Nat → Nat → Nat := fun κ i => match κ with
  | 0 => h0
  | 1 => u 0
  | 2 => u 1
  | 3 => u 4
  | 4 => u 5
  | 5 => u 10
  | 6 => u 12
  | 7 => u 13
  | 8 => u 14
  | 9 => u 15
  | 10 => u 16
  | 11 => u 17
  | 12 => u 21
  | 13 => u 2
  | 14 => u 3
  | 15 => u 6
  | 16 => u 7
  | 17 => u 8
  | 18 => u 9
  | 19 => u 11
  | 20 => u 18
  | 21 => u 19
  | 22 => u 20
  | 23 => u 22
  | 24 => u (23 + 2 * i)
  | 25 => u (24 + 2 * i)
  | 26 => u (39 + i)
  | 40 => h1
  | 52 => v 0
  | 53 => v 1
  | 54 => v 2
  | 55 => v 3
  | 56 => v 4
  | 58 => v 5
  | 59 => v 6
  | 60 => v 7
  | 61 => v 8
  | 62 => v 9
  | 65 => v 10
  | 66 => v 11
  | 67 => v 12
  | 68 => v 13
  | 70 => v 14
  | 81 => v 15
  | 82 => v 16
  | 83 => v 17
  | 84 => v 18
  | 85 => v 19
  | 86 => v 20
  | 87 => v 21
  | 88 => v 22
  | 89 => v 23
  | 90 => v 24
  | 91 => v 25
  | 92 => v 26
  | 93 => v 27
  | 94 => v 28
  | 95 => v 29
  | 96 => v 30
  | 97 => v 31
  | 98 => v 32
  | 99 => v 33
  | _ => 0
def M0 (m0 : xM) : xM := fun κ _ j => match κ with
  | 1 => if j < 8 then 1 else 0
  | 6 => if j = 4 then (-1) else 0
  | 8 => if j < 8 then 1 else 0
  | 11 => if j = 4 then 1 else 0
  | 13 => m0 13 0 j
  | 14 => m0 14 0 j
  | 24 => if j = 1 then (-1) else 0
  | 26 => if j = 1 then 50 else 0
  | 52 => if j < 8 then (-1) else 0
  | 95 => if j < 8 then 50 else 0
  | _ => 0
theorem wcons {f : Nat × Nat → Nat × va_E} {x : Nat × Nat} {L : List (Nat × Nat)} {c : Nat × va_E} {w : va_W} (h : f x = c) (t : L.map f = w) : (x :: L).map f = c :: w := by rw [List.map_cons, h, t]
theorem upd8 (a : Int32) : (fun j : Nat => if j < 8 then a else (0 : Int32)) = upd (upd (upd (upd (upd (upd (upd (upd (fun _ => 0) (0 : Int32).toNatClampNeg a) (1 : Int32).toNatClampNeg a) (2 : Int32).toNatClampNeg a) (3 : Int32).toNatClampNeg a) (4 : Int32).toNatClampNeg a) (5 : Int32).toNatClampNeg a) (6 : Int32).toNatClampNeg a) (7 : Int32).toNatClampNeg a := by
  funext j
  have h0 : (0 : Int32).toNatClampNeg = 0 := by decide
  have h1 : (1 : Int32).toNatClampNeg = 1 := by decide
  have h2 : (2 : Int32).toNatClampNeg = 2 := by decide
  have h3 : (3 : Int32).toNatClampNeg = 3 := by decide
  have h4 : (4 : Int32).toNatClampNeg = 4 := by decide
  have h5 : (5 : Int32).toNatClampNeg = 5 := by decide
  have h6 : (6 : Int32).toNatClampNeg = 6 := by decide
  have h7 : (7 : Int32).toNatClampNeg = 7 := by decide
  rw [h0, h1, h2, h3, h4, h5, h6, h7]
  by_cases hj : j < 8
  · rw [if_pos hj]
    rcases (show j = 0 ∨ j = 1 ∨ j = 2 ∨ j = 3 ∨ j = 4 ∨ j = 5 ∨ j = 6 ∨ j = 7 by omega) with h | h | h | h | h | h | h | h <;> (subst h; simp [upd])
  · rw [if_neg hj]
    have : j ≠ 0 ∧ j ≠ 1 ∧ j ≠ 2 ∧ j ≠ 3 ∧ j ≠ 4 ∧ j ≠ 5 ∧ j ≠ 6 ∧ j ≠ 7 := by omega
    obtain ⟨g0, g1, g2, g3, g4, g5, g6, g7⟩ := this
    simp [upd, g0, g1, g2, g3, g4, g5, g6, g7]
theorem up8 (a : Nat → Nat) : (fun j : Nat => if (if j < 8 then (1 : Int32) else 0) = 0 then none else some (a j)) = va_up (va_up (va_up (va_up (va_up (va_up (va_up (va_up (fun _ => none) (0 : Int32).toNatClampNeg (some (a 0))) (1 : Int32).toNatClampNeg (some (a 1))) (2 : Int32).toNatClampNeg (some (a 2))) (3 : Int32).toNatClampNeg (some (a 3))) (4 : Int32).toNatClampNeg (some (a 4))) (5 : Int32).toNatClampNeg (some (a 5))) (6 : Int32).toNatClampNeg (some (a 6))) (7 : Int32).toNatClampNeg (some (a 7)) := by
  funext j
  have h0 : (0 : Int32).toNatClampNeg = 0 := by decide
  have h1 : (1 : Int32).toNatClampNeg = 1 := by decide
  have h2 : (2 : Int32).toNatClampNeg = 2 := by decide
  have h3 : (3 : Int32).toNatClampNeg = 3 := by decide
  have h4 : (4 : Int32).toNatClampNeg = 4 := by decide
  have h5 : (5 : Int32).toNatClampNeg = 5 := by decide
  have h6 : (6 : Int32).toNatClampNeg = 6 := by decide
  have h7 : (7 : Int32).toNatClampNeg = 7 := by decide
  rw [h0, h1, h2, h3, h4, h5, h6, h7]
  by_cases hj : j < 8
  · rw [if_pos hj, if_neg (by decide)]
    rcases (show j = 0 ∨ j = 1 ∨ j = 2 ∨ j = 3 ∨ j = 4 ∨ j = 5 ∨ j = 6 ∨ j = 7 by omega) with h | h | h | h | h | h | h | h <;> (subst h; simp [va_up])
  · rw [if_neg hj, if_pos rfl]
    have : j ≠ 0 ∧ j ≠ 1 ∧ j ≠ 2 ∧ j ≠ 3 ∧ j ≠ 4 ∧ j ≠ 5 ∧ j ≠ 6 ∧ j ≠ 7 := by omega
    obtain ⟨g0, g1, g2, g3, g4, g5, g6, g7⟩ := this
    simp [va_up, g0, g1, g2, g3, g4, g5, g6, g7]
section FW
variable (g : xG) (m0 : xM) (h0 : Nat) (u : Nat → Nat) (h1 : Nat) (v : Nat → Nat)
abbrev g0 : xG := g.at (ad0 h0 u h1 v)
theorem w0_1 : xc (g0 g h0 u h1 v) 1 0 (M0 m0 1 0) = .inl (xcy g 5, 8, .inr (.inr (.inr (.inr (va_up (va_up (va_up (va_up (va_up (va_up (va_up (va_up (fun _ => none) (0 : Int32).toNatClampNeg (some (u 23))) (1 : Int32).toNatClampNeg (some (u 25))) (2 : Int32).toNatClampNeg (some (u 27))) (3 : Int32).toNatClampNeg (some (u 29))) (4 : Int32).toNatClampNeg (some (u 31))) (5 : Int32).toNatClampNeg (some (u 33))) (6 : Int32).toNatClampNeg (some (u 35))) (7 : Int32).toNatClampNeg (some (u 37))))))) := by
  have h := up8 (fun j => u (23 + 2 * j))
  show (.inl (xcy g 5, 8, .inr (.inr (.inr (.inr (fun j : Nat => if (if j < 8 then (1 : Int32) else 0) = 0 then none else some (u (23 + 2 * j))))))) : va_E) = _
  rw [h]
theorem w0_8 : xc (g0 g h0 u h1 v) 8 0 (M0 m0 8 0) = .inl (xcy g 6, 8, .inr (.inr (.inr (.inr (va_up (va_up (va_up (va_up (va_up (va_up (va_up (va_up (fun _ => none) (0 : Int32).toNatClampNeg (some (u 39))) (1 : Int32).toNatClampNeg (some (u 40))) (2 : Int32).toNatClampNeg (some (u 41))) (3 : Int32).toNatClampNeg (some (u 42))) (4 : Int32).toNatClampNeg (some (u 43))) (5 : Int32).toNatClampNeg (some (u 44))) (6 : Int32).toNatClampNeg (some (u 45))) (7 : Int32).toNatClampNeg (some (u 46))))))) := by
  have h := up8 (fun j => u (39 + j))
  show (.inl (xcy g 6, 8, .inr (.inr (.inr (.inr (fun j : Nat => if (if j < 8 then (1 : Int32) else 0) = 0 then none else some (u (39 + j))))))) : va_E) = _
  rw [h]
theorem w0_52 (a : Int32) : (.inl (xcy g 1, 8, .inl (fun j : Nat => if j < 8 then a else (0 : Int32))) : va_E) = .inl (xcy g 1, 8, .inl (upd (upd (upd (upd (upd (upd (upd (upd (fun _ => 0) (0 : Int32).toNatClampNeg a) (1 : Int32).toNatClampNeg a) (2 : Int32).toNatClampNeg a) (3 : Int32).toNatClampNeg a) (4 : Int32).toNatClampNeg a) (5 : Int32).toNatClampNeg a) (6 : Int32).toNatClampNeg a) (7 : Int32).toNatClampNeg a)) := by rw [upd8]
theorem w0_n (r : Nat → Int32) (a : Nat → Nat) (t n : Nat) (hr : ∀ j, r j = 0) : (.inl (xcy g t, n, .inr (.inr (.inr (.inr (fun j => if r j = 0 then none else some (a j)))))) : va_E) = .inl (xcy g t, n, .inr (.inr (.inr (.inr (fun _ => none))))) := by
  have : (fun j => if r j = 0 then none else some (a j)) = fun _ => (none : Option Nat) := by funext j; rw [if_pos (hr j)]
  rw [this]
abbrev f0 : Nat × Nat → Nat × va_E := fun q => (xad (g0 g h0 u h1 v) q.1 q.2, xc (g0 g h0 u h1 v) q.1 q.2 (M0 m0 q.1 q.2))
set_option maxRecDepth 100000 in
theorem w0_eq : xw (g0 g h0 u h1 v) L0 (M0 m0) = w_X10 g m0 h0 u ++ w_X11 g h1 v := (wcons rfl (wcons (congrArg (Prod.mk (u 0)) (w0_1 g m0 h0 u h1 v)) (wcons rfl (wcons rfl (wcons rfl (wcons (congrArg (Prod.mk (u 4)) (w0_n g (fun _ => 0) (fun j => xad (g0 g h0 u h1 v) 27 j) 3 8 (fun _ => rfl))) (wcons rfl (wcons rfl (wcons rfl (wcons rfl (wcons rfl (wcons rfl (wcons rfl (wcons rfl (wcons (congrArg (Prod.mk (u 13)) (w0_n g (fun _ => 0) (fun j => xad (g0 g h0 u h1 v) 29 j) 4 24 (fun _ => rfl))) (wcons (congrArg (Prod.mk (u 14)) (w0_8 g m0 h0 u h1 v)) (wcons rfl (wcons rfl (wcons rfl (wcons rfl (wcons rfl (wcons rfl (wcons rfl (wcons rfl (wcons rfl (wcons rfl (wcons rfl (wcons rfl (wcons rfl (wcons rfl (wcons rfl (wcons rfl (wcons rfl (wcons rfl (wcons rfl (wcons rfl (wcons rfl (wcons rfl (wcons rfl (wcons rfl (wcons rfl (wcons rfl (wcons rfl (wcons rfl (wcons rfl (wcons rfl (wcons rfl (wcons rfl (wcons rfl (wcons (congrArg (Prod.mk (v 0)) (w0_52 g (-1))) (wcons rfl (wcons rfl (wcons rfl (wcons rfl (wcons rfl (wcons rfl (wcons rfl (wcons rfl (wcons rfl (wcons rfl (wcons rfl (wcons rfl (wcons rfl (wcons rfl (wcons rfl (wcons rfl (wcons rfl (wcons rfl (wcons rfl (wcons rfl (wcons rfl (wcons rfl (wcons rfl (wcons rfl (wcons rfl (wcons rfl (wcons rfl (wcons rfl (wcons (congrArg (Prod.mk (v 29)) (w0_52 g 50)) (wcons rfl (wcons rfl (wcons rfl (wcons rfl rfl)))))))))))))))))))))))))))))))))))))))))))))))))))))))))))))))))))))))))))))))))))
end FW
theorem L0_a : ∀ q ∈ L0, (q.2 = 0 ∧ (q.1 < 24 ∨ q.1 = 40 ∨ q.1 ∈ [52, 53, 54, 55, 56, 58, 59, 60, 61, 62, 65, 66, 67, 68, 70, 81, 82, 83, 84, 85, 86, 87, 88, 89, 90, 91, 92, 93, 94, 95, 96, 97, 98, 99])) ∨ ((q.1 = 24 ∨ q.1 = 25 ∨ q.1 = 26) ∧ q.2 < 8) := by decide +kernel
theorem L0_b : ∀ k ∈ List.range 24, (k, 0) ∈ L0 := by decide +kernel
theorem L0_c : ∀ k ∈ [40, 52, 53, 54, 55, 56, 58, 59, 60, 61, 62, 65, 66, 67, 68, 70, 81, 82, 83, 84, 85, 86, 87, 88, 89, 90, 91, 92, 93, 94, 95, 96, 97, 98, 99], (k, 0) ∈ L0 := by decide +kernel
theorem L0_d : ∀ i ∈ List.range 8, (24, i) ∈ L0 ∧ (25, i) ∈ L0 ∧ (26, i) ∈ L0 := by decide +kernel
theorem L0_q : xEQ 0 0 L0 := fun κ i => by
  constructor
  · intro h
    rcases L0_a _ h with ⟨h1, h2⟩ | ⟨h1, h2⟩
    · dsimp only at h1 h2
      have h3 : κ ≠ 24 ∧ κ ≠ 25 ∧ κ ≠ 26 ∧ κ ≠ 27 ∧ κ ≠ 28 ∧ κ ≠ 29 ∧ κ ≠ 30 ∧ κ ≠ 31 := by
        rcases h2 with h2 | h2 | h2
        · omega
        · omega
        · simp only [List.mem_cons, List.not_mem_nil, or_false] at h2
          omega
      unfold xEx
      split
      all_goals first
        | omega
        | exact ⟨h1, h2⟩
    · dsimp only at h1 h2
      rcases h1 with h1 | h1 | h1 <;> (subst h1; exact h2)
  · intro h
    by_cases h24 : κ = 24
    · subst h24; exact (L0_d i (List.mem_range.mpr h)).1
    by_cases h25 : κ = 25
    · subst h25; exact (L0_d i (List.mem_range.mpr h)).2.1
    by_cases h26 : κ = 26
    · subst h26; exact (L0_d i (List.mem_range.mpr h)).2.2
    by_cases h27 : κ = 27
    · subst h27; exact absurd (show i < 0 from h) (Nat.not_lt_zero i)
    by_cases h28 : κ = 28
    · subst h28; exact absurd (show i < 0 from h) (Nat.not_lt_zero i)
    by_cases h29 : κ = 29
    · subst h29; exact absurd (show i < 0 from h) (Nat.not_lt_zero i)
    by_cases h30 : κ = 30
    · subst h30; exact absurd (show i < 0 from h) (Nat.not_lt_zero i)
    by_cases h31 : κ = 31
    · subst h31; exact absurd (show i < 0 from h) (Nat.not_lt_zero i)
    have h9 : i = 0 ∧ (κ < 24 ∨ κ = 40 ∨ κ ∈ [52, 53, 54, 55, 56, 58, 59, 60, 61, 62, 65, 66, 67, 68, 70, 81, 82, 83, 84, 85, 86, 87, 88, 89, 90, 91, 92, 93, 94, 95, 96, 97, 98, 99]) := by
      unfold xEx at h
      split at h
      all_goals first
        | omega
        | exact h
    obtain ⟨h1, h2⟩ := h9
    subst h1
    rcases h2 with h2 | h2 | h2
    · exact L0_b κ (List.mem_range.mpr h2)
    · subst h2; exact L0_c 40 (by decide)
    · exact L0_c κ (List.mem_cons_of_mem _ h2)
theorem INV_0 {m0 : xM} (hm : m0 = f_X5_measure (fun _ _ _ => 0)) : INV 0 0 (M0 m0) := by
  obtain ⟨G, h1, h2⟩ := measure_ex (fun _ _ _ => 0) (fun _ _ => ⟨by decide, by decide⟩)
  rw [h1] at hm
  have h13 : ∀ k, m0 13 0 k = 0 := fun k => by rw [hm, xrow_ne (by decide)]
  have h14 : ∀ k, k < 36 → m0 14 0 k = flo (fun _ => 0) k := fun k hk => by rw [hm, xrow_same]; exact h2 k hk
  have z8 : (0 : Int32) ≤ 8 := by decide
  refine ⟨?_, ?_, ?_, ?_, ?_, ?_, ?_, ?_, ?_, ?_, ?_⟩
  · refine ⟨by omega, by omega, rfl, rfl, fun j hj => ?_, fun j hj => ?_, fun j hj => absurd hj (by omega), fun j hj => absurd hj (by omega), fun _ _ => rfl, fun _ _ => rfl⟩
    · show (if j < 8 then (1 : Int32) else 0) ≠ 0
      rw [if_pos hj]; decide
    · show (if j < 8 then (1 : Int32) else 0) ≠ 0
      rw [if_pos hj]; decide
  · exact ⟨rfl, rfl, by show (0 : Int32) ≤ 0; decide, by show (0 : Int32) ≤ 299; decide, rfl⟩
  · refine ⟨fun _ => ⟨by show (0 : Int32) ≤ 0; decide, by show (0 : Int32) ≤ 60; decide⟩, fun _ => ⟨by show (0 : Int32) ≤ 0; decide, by show (0 : Int32) ≤ 60; decide⟩, fun s hs => ?_⟩
    refine ⟨?_, by show (-1 : Int32) ≤ -1; decide, by show (-1 : Int32) ≤ 2; decide, fun h => ?_⟩
    · show (if s < 8 then (-1 : Int32) else 0) = -1
      rw [if_pos hs]
    · exact absurd (show (0 : Int32) ≤ -1 from h) (by decide)
  · refine ⟨fun k hk => ⟨?_, ?_, ?_⟩, fun k hk => ?_⟩
    · show (0 : Int32) = m0 13 0 k
      rw [h13]
    · show (0 : Int32) ≤ m0 13 0 k
      rw [h13]; decide
    · show m0 13 0 k ≤ 500
      rw [h13]; decide
    · show m0 14 0 k = flo (m0 13 0) k
      rw [h14 k hk, show m0 13 0 = fun _ => 0 from funext h13]
  · refine ⟨rfl, fun _ => ⟨by show (0 : Int32) ≤ 0; decide, by show (0 : Int32) ≤ 5; decide⟩, fun _ => ⟨by show (0 : Int32) ≤ 0; decide, by show (0 : Int32) ≤ 5; decide⟩, fun i hi => absurd hi (by omega), fun i _ _ => ⟨rfl, fun _ _ => rfl⟩⟩
  · exact ⟨rfl, by show (0 : Int32) ≤ 0; decide, by show (0 : Int32) ≤ 40; decide, fun k hk => absurd (show k < 0 from hk) (by omega)⟩
  · exact ⟨rfl, by show (0 : Int32) ≤ 0; decide, by show (0 : Int32) ≤ 400; decide, fun _ => by show (0 : Int32) ≤ 0; decide, fun k hk => absurd (show k < 0 from hk) (by omega)⟩
  · refine ⟨rfl, fun _ => ⟨by show (0 : Int32) ≤ 0; decide, by show (0 : Int32) ≤ 12; decide⟩, fun _ => ⟨by show (0 : Int32) ≤ 0; decide, by show (0 : Int32) ≤ 7; decide⟩, fun _ => ⟨by show (0 : Int32) ≤ 0; decide, by show (0 : Int32) < 24; decide⟩, fun _ => ⟨by show (0 : Int32) ≤ 0; decide, by show (0 : Int32) ≤ 7; decide⟩, fun _ => ⟨by show (0 : Int32) ≤ 0; decide, by show (0 : Int32) ≤ 12; decide⟩, fun _ => by show (0 : Int32) ≤ 100; decide, fun i hi => absurd hi (by omega), fun i _ _ => ⟨rfl, rfl, rfl, rfl, rfl⟩⟩
  · refine ⟨fun _ => ⟨by show (0 : Int32) ≤ 0; decide, by show (0 : Int32) ≤ 5; decide⟩, fun _ => ⟨by show (0 : Int32) ≤ 0; decide, by show (0 : Int32) ≤ 5; decide⟩, fun i hi => ⟨rfl, ?_⟩⟩
    show (if i < 8 then (50 : Int32) else 0) = 50
    rw [if_pos hi]
  · exact fun k _ => ⟨rfl, by show (0 : Int32) ≤ 0; decide, by show (0 : Int32) ≤ 100; decide⟩
  · exact ⟨rfl, by show (0 : Int32) ≤ 0; decide, by show (0 : Int32) ≤ 16; decide, fun k hk => absurd (show k < 0 from hk) (by omega)⟩
