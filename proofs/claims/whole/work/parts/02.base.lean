/-! THE WORLD: a cell is a kind and a number; what it holds is M kind number slot; references stand by the kinds -/
abbrev xM : Type := Nat → Nat → Nat → Int32
abbrev xG : Type := va_G × (Nat → ClassId) × (Nat → Nat → Nat) × Nat × (Nat → Nat)
abbrev xad (g : xG) (κ i : Nat) : Nat := g.2.2.1 κ i
abbrev xcy (g : xG) (k : Nat) : ClassId := g.2.1 k
abbrev xlo (g : xG) : Nat := g.2.2.2.1
abbrev xst (g : xG) (k : Nat) : Nat := g.2.2.2.2 k
def xrow (M : xM) (κ i : Nat) (r : Nat → Int32) : xM := fun a b c => if a = κ ∧ b = i then r c else M a b c
def xup (M : xM) (κ i j : Nat) (v : Int32) : xM := xrow M κ i (upd (M κ i) j v)
theorem xrow_same {M : xM} {κ i : Nat} {r : Nat → Int32} : xrow M κ i r κ i = r := by funext c; simp [xrow]
theorem xrow_ne {M : xM} {κ i a b : Nat} {r : Nat → Int32} (h : ¬ (a = κ ∧ b = i)) : xrow M κ i r a b = M a b := by funext c; simp only [xrow, if_neg h]
theorem xup_at (M : xM) (κ i j : Nat) (v : Int32) (a b c : Nat) : xup M κ i j v a b c = if a = κ ∧ b = i ∧ c = j then v else M a b c := by
  unfold xup
  by_cases h : a = κ ∧ b = i
  · obtain ⟨h1, h2⟩ := h
    subst h1; subst h2
    rw [xrow_same]
    by_cases h3 : c = j
    · subst h3; simp [upd]
    · simp [upd, h3]
  · rw [xrow_ne h]
    rw [if_neg (fun q => h ⟨q.1, q.2.1⟩)]
theorem xup_same {M : xM} {κ i j : Nat} {v : Int32} : xup M κ i j v κ i j = v := by simp [xup_at]
theorem xup_k {M : xM} {κ i j a b c : Nat} {v : Int32} (h : a ≠ κ) : xup M κ i j v a b c = M a b c := by rw [xup_at, if_neg (fun q => h q.1)]
theorem xup_i {M : xM} {κ i j a b c : Nat} {v : Int32} (h : b ≠ i) : xup M κ i j v a b c = M a b c := by rw [xup_at, if_neg (fun q => h q.2.1)]
theorem xup_j {M : xM} {κ i j a b c : Nat} {v : Int32} (h : c ≠ j) : xup M κ i j v a b c = M a b c := by rw [xup_at, if_neg (fun q => h q.2.2)]
/-- an int array of n, a reference array of n to the kind κ: of the array class number t -/
abbrev xri (g : xG) (t n : Nat) (r : Nat → Int32) : va_E := .inl (xcy g t, n, .inl r)
abbrev xrq (g : xG) (t n κ : Nat) (r : Nat → Int32) : va_E := .inl (xcy g t, n, .inr (.inr (.inr (.inr (fun j => if r j = 0 then none else some (xad g κ j))))))
abbrev xf0 (g : xG) (r : Nat → Int32) : List Value := [.ref (xad g 1 0), .ref (xad g 2 0), .ref (xad g 3 0), .ref (xad g 4 0), .ref (xad g 5 0), .ref (xad g 6 0), .ref (xad g 7 0), .ref (xad g 8 0), .ref (xad g 9 0), .ref (xad g 10 0), .ref (xad g 11 0), .ref (xad g 12 0), .int (r 12), .int (r 13), .int (r 14), .int (r 15), .int (r 16)]
abbrev xf2 (g : xG) (_ : Nat → Int32) : List Value := [.ref (xad g 13 0), .ref (xad g 14 0)]
abbrev xf4 (g : xG) (r : Nat → Int32) : List Value := [.ref (xad g 15 0), .ref (xad g 16 0), .ref (xad g 17 0), .ref (xad g 18 0), .int (r 4)]
abbrev xf5 (g : xG) (r : Nat → Int32) : List Value := [.ref (xad g 19 0), .int (r 1), .int (r 2), .int (r 3), .int (r 4), .int (r 5)]
abbrev xf6 (g : xG) (r : Nat → Int32) : List Value := [.ref (xad g 5 0), .ref (xad g 4 0), .int (r 2), .int (r 3), .int (r 4), .int (r 5), .int (r 6)]
abbrev xf11 (g : xG) (r : Nat → Int32) : List Value := [.ref (xad g 20 0), .ref (xad g 21 0), .ref (xad g 22 0), .int (r 3), .int (r 4), .int (r 5), .int (r 6)]
abbrev xf12 (g : xG) (r : Nat → Int32) : List Value := [.ref (xad g 23 0), .int (r 1)]
abbrev xf24 (g : xG) (i : Nat) (r : Nat → Int32) : List Value := [.ref (xad g 25 i), .int (r 1), .int (r 2)]
abbrev xf26 (r : Nat → Int32) : List Value := [.int (r 0), .int (r 1)]
abbrev xf27 (g : xG) (i : Nat) (r : Nat → Int32) : List Value := [.int (r 0), .int (r 1), .int (r 2), .int (r 3), .int (r 4), .ref (xad g 28 i)]
abbrev xf29 (g : xG) (i : Nat) (r : Nat → Int32) : List Value := [.int (r 0), .int (r 1), .int (r 2), .int (r 3), .int (r 4), .int (r 5), .int (r 6), .int (r 7), .int (r 8), .int (r 9), .int (r 10), .ref (xad g 30 i), .ref (xad g 31 i)]
abbrev xf40 (g : xG) (r : Nat → Int32) : List Value := [.int (r 0), .int (r 1), .ref (xad g 52 0), .ref (xad g 53 0), .ref (xad g 54 0), .ref (xad g 55 0), .ref (xad g 56 0), .int (r 7), .ref (xad g 58 0), .ref (xad g 59 0), .ref (xad g 60 0), .ref (xad g 61 0), .ref (xad g 62 0), .int (r 13), .int (r 14), .ref (xad g 65 0), .ref (xad g 66 0), .ref (xad g 67 0), .ref (xad g 68 0), .int (r 19), .ref (xad g 70 0), .int (r 21), .int (r 22), .int (r 23), .int (r 24), .int (r 25), .int (r 26), .int (r 27), .int (r 28), .int (r 29), .int (r 30), .ref (xad g 81 0), .ref (xad g 82 0), .ref (xad g 83 0), .ref (xad g 84 0), .ref (xad g 85 0), .ref (xad g 86 0), .ref (xad g 87 0), .ref (xad g 88 0), .ref (xad g 89 0), .ref (xad g 90 0), .ref (xad g 91 0), .ref (xad g 92 0), .ref (xad g 93 0), .ref (xad g 94 0), .ref (xad g 95 0), .ref (xad g 96 0), .ref (xad g 97 0), .ref (xad g 98 0), .ref (xad g 99 0), .int (r 50)]
def xc (g : xG) (κ i : Nat) (r : Nat → Int32) : va_E := match κ with
  | 0 => .inr (10, xf0 g r)
  | 1 => xrq g 5 8 24 r
  | 2 => .inr (5, xf2 g r)
  | 3 => xrq g 3 8 27 r
  | 4 => .inr (2, xf4 g r)
  | 5 => .inr (7, xf5 g r)
  | 6 => .inr (1, xf6 g r)
  | 7 => xrq g 4 24 29 r
  | 8 => xrq g 6 8 26 r
  | 9 => xri g 1 24 r
  | 10 => xri g 1 48 r
  | 11 => .inr (3, xf11 g r)
  | 12 => .inr (8, xf12 g r)
  | 13 => xri g 1 36 r
  | 14 => xri g 1 36 r
  | 15 => xri g 1 40 r
  | 16 => xri g 1 40 r
  | 17 => xri g 1 40 r
  | 18 => xri g 1 40 r
  | 19 => xri g 0 400 r
  | 20 => xri g 1 48 r
  | 21 => xri g 1 1536 r
  | 22 => xri g 1 1536 r
  | 23 => xri g 1 16 r
  | 24 => .inr (6, xf24 g i r)
  | 25 => xri g 1 60 r
  | 26 => .inr (9, xf26 r)
  | 27 => .inr (0, xf27 g i r)
  | 28 => xri g 1 8 r
  | 29 => .inr (4, xf29 g i r)
  | 30 => xri g 1 12 r
  | 31 => xri g 1 12 r
  | 40 => .inr (11, xf40 g r)
  | 52 => xri g 1 8 r
  | 53 => xri g 1 8 r
  | 54 => xri g 1 480 r
  | 55 => xri g 1 36 r
  | 56 => xri g 1 6 r
  | 58 => xri g 1 8 r
  | 59 => xri g 1 8 r
  | 60 => xri g 1 8 r
  | 61 => xri g 2 8 r
  | 62 => xri g 1 64 r
  | 65 => xri g 1 40 r
  | 66 => xri g 1 40 r
  | 67 => xri g 1 40 r
  | 68 => xri g 1 40 r
  | 70 => xri g 1 400 r
  | 81 => xri g 1 24 r
  | 82 => xri g 1 24 r
  | 83 => xri g 1 24 r
  | 84 => xri g 1 24 r
  | 85 => xri g 1 24 r
  | 86 => xri g 2 24 r
  | 87 => xri g 2 24 r
  | 88 => xri g 2 24 r
  | 89 => xri g 2 24 r
  | 90 => xri g 1 48 r
  | 91 => xri g 1 24 r
  | 92 => xri g 1 288 r
  | 93 => xri g 1 288 r
  | 94 => xri g 1 8 r
  | 95 => xri g 1 8 r
  | 96 => xri g 1 48 r
  | 97 => xri g 1 10752 r
  | 98 => xri g 1 8 r
  | 99 => xri g 1 16 r
  | _ => xri g 1 0 r
abbrev xtys (g : xG) : List (ClassId × FieldType) := [(xcy g 0, .byte), (xcy g 1, .int), (xcy g 2, .boolean), (xcy g 3, .object "NoteCounter$Bank"), (xcy g 4, .object "NoteCounter$Note"), (xcy g 5, .object "NoteCounter$Sheet"), (xcy g 6, .object "NoteCounter$Trader")]
/-- the cells that there are with nb banks and nn notes -/
def xEx (nb nn κ i : Nat) : Prop := match κ with
  | 24 => i < 8
  | 25 => i < 8
  | 26 => i < 8
  | 27 => i < nb
  | 28 => i < nb
  | 29 => i < nn
  | 30 => i < nn
  | 31 => i < nn
  | _ => i = 0 ∧ (κ < 24 ∨ κ = 40 ∨ κ ∈ [52, 53, 54, 55, 56, 58, 59, 60, 61, 62, 65, 66, 67, 68, 70, 81, 82, 83, 84, 85, 86, 87, 88, 89, 90, 91, 92, 93, 94, 95, 96, 97, 98, 99])
def xEL (nb nn : Nat) (L : List (Nat × Nat)) : Prop := ∀ κ i : Nat, xEx nb nn κ i → (κ, i) ∈ L
def xw (g : xG) (L : List (Nat × Nat)) (M : xM) : va_W := L.map fun q => (xad g q.1 q.2, xc g q.1 q.2 (M q.1 q.2))
abbrev xP (g : xG) (L : List (Nat × Nat)) (M : xM) (H : Heap) : Prop := va_P g.1 vwCl (xw g L M) H
abbrev xK (g : xG) (U : State) : Prop := va_K g.1 vwCl (xtys g) U
def xD (g : xG) (L : List (Nat × Nat)) : Prop := (∀ (i j : Nat) (p q : Nat × Nat), L[i]? = some p → L[j]? = some q → xad g p.1 p.2 = xad g q.1 q.2 → i = j) ∧ ∀ (k : Nat) (q : Nat × Nat), L[k]? = some q → xlo g ≤ xad g q.1 q.2
def xA (g : xG) (L : List (Nat × Nat)) (sz : Nat) : Nat → Prop := fun q => (∃ (k : Nat) (x : Nat × Nat), L[k]? = some x ∧ xad g x.1 x.2 = q) ∨ sz ≤ q
/-- what stands outside: the two tables of the class, its four words, and that Strings are compact -/
def xAm (g : xG) (U : State) (H : Heap) : Prop :=
  xlo g ≤ H.size ∧ va_Z "NoteCounter" "SIZE_BODIES" "[I" (.ref (xst g 0)) (fun q => xlo g ≤ q) U H ∧ va_T .int (xst g 0) 6 (fun j => .int (([10, 11, 12, 13, 14, 10] : List Int32).getD j 0)) (fun q => xlo g ≤ q) U H
  ∧ va_Z "NoteCounter" "MARK_BODIES" "[I" (.ref (xst g 1)) (fun q => xlo g ≤ q) U H ∧ va_T .int (xst g 1) 6 (fun j => .int (([20, 20, 21, 22, 20, 23] : List Int32).getD j 0)) (fun q => xlo g ≤ q) U H
  ∧ vk_S 4 [4, 3, 5, 7] [[119, 101, 101, 107], [111, 102, 102], [102, 97, 108, 115, 101], [115, 116, 111, 112, 112, 101, 100]] (fun i => xst g (10 + i)) (fun i => xst g (20 + i)) (fun q => xlo g ≤ q) U H
  ∧ vk_R "NoteCounter$BookReader" 75 "week" (xst g 10) U ∧ vk_R "NoteCounter$BookReader" 95 "off" (xst g 11) U ∧ vk_R "NoteCounter$BookReader" 97 "false" (xst g 12) U ∧ vk_R "NoteCounter$BookReader" 99 "stopped" (xst g 13) U
  ∧ va_Z "java/lang/String" "COMPACT_STRINGS" "Z" (.int 1) (fun q => xlo g ≤ q) U H
  ∧ va_Zq "jdk/internal/util/Preconditions" "SIOOBE_FORMATTER" "Ljava/util/function/BiFunction;" (fun q => xlo g ≤ q) U H
theorem xAm.warm {g : xG} {s U : State} {H : Heap} (hW : s.WarmedH U.vm) (h : xAm g s H) : xAm g U H := by
  have hv := hW.alike
  obtain ⟨h1, h2, h3, h4, h5, h6, h7, h8, h9, h10, h11, h12⟩ := h
  exact ⟨h1, h2.moved hv, h3.moved hv, h4.moved hv, h5.moved hv, h6.moved hv, h7.warm hW, h8.warm hW, h9.warm hW, h10.warm hW, h11.moved hv, h12.moved hv⟩
theorem xAm.kept {g : xG} {s : State} {H H1 : Heap} (h : xAm g s H) (hz : H.size ≤ H1.size) (hq : ∀ a : Nat, a < H.size → ¬ xlo g ≤ a → H1[a]? = H[a]?) : xAm g s H1 := by
  obtain ⟨h1, h2, h3, h4, h5, h6, h7, h8, h9, h10, h11, h12⟩ := h
  exact ⟨Nat.le_trans h1 hz, h2.kept hq, h3.kept hq, h4.kept hq, h5.kept hq, h6.kept hq, h7, h8, h9, h10, h11.kept hq, h12.kept hq⟩
theorem xAm.same {g : xG} {s U : State} {H : Heap} (hv : U.vm = s.vm) (h : xAm g s H) : xAm g U H := by
  have hv2 : s.vm.Alike U.vm := by rw [hv]; exact Vm.Alike.refl s.vm
  obtain ⟨h1, h2, h3, h4, h5, h6, h7, h8, h9, h10, h11, h12⟩ := h
  exact ⟨h1, h2.moved hv2, h3.moved hv2, h4.moved hv2, h5.moved hv2, h6.moved hv2, h7.same hv, h8.same hv, h9.same hv, h10.same hv, h11.moved hv2, h12.moved hv2⟩
theorem xA_lo {g : xG} {L : List (Nat × Nat)} {sz : Nat} (hD : xD g L) (h : xlo g ≤ sz) : ∀ q, xA g L sz q → xlo g ≤ q := by
  intro q hq
  rcases hq with ⟨k, x, h1, h2⟩ | hq
  · rw [← h2]; exact hD.2 k x h1
  · exact Nat.le_trans h hq
theorem xw_at {g : xG} {L : List (Nat × Nat)} {M : xM} {κ i : Nat} (he : (κ, i) ∈ L) : ∃ q0 : Nat, L[q0]? = some (κ, i) ∧ (xw g L M)[q0]? = some (xad g κ i, xc g κ i (M κ i)) := by
  obtain ⟨q0, hq⟩ := List.getElem?_of_mem he
  exact ⟨q0, hq, by rw [xw, List.getElem?_map, hq]; rfl⟩
theorem xw_D {g : xG} {L : List (Nat × Nat)} (M : xM) (sz : Nat) (hD : xD g L) : va_D (xA g L sz) (xw g L M) := by
  have key : ∀ (k : Nat) (q : Nat × va_E), (xw g L M)[k]? = some q → ∃ x, L[k]? = some x ∧ xad g x.1 x.2 = q.1 := by
    intro k q hk
    rw [xw, List.getElem?_map] at hk
    cases hx : L[k]? with
    | none => rw [hx] at hk; cases hk
    | some x => rw [hx] at hk; cases hk; exact ⟨x, rfl, rfl⟩
  refine ⟨fun i j p q hi hj hpq => ?_, fun k q hk => ?_⟩
  · obtain ⟨x, h1, h2⟩ := key i p hi
    obtain ⟨y, h3, h4⟩ := key j q hj
    exact hD.1 i j x y h1 h3 (by rw [h2, h4, hpq])
  · obtain ⟨x, h1, h2⟩ := key k q hk
    exact Or.inl ⟨k, x, h1, h2⟩
theorem xw_set {g : xG} {L : List (Nat × Nat)} {M : xM} {κ i q0 : Nat} {r : Nat → Int32} {e : va_E} (hD : xD g L) (hq : L[q0]? = some (κ, i)) (he : xc g κ i r = e) : (xw g L M).set q0 (xad g κ i, e) = xw g L (xrow M κ i r) := by
  apply List.ext_getElem?
  intro k
  have hl : q0 < (xw g L M).length := by rw [xw, List.length_map]; exact (List.getElem?_eq_some_iff.mp hq).1
  by_cases hk : q0 = k
  · subst hk
    rw [List.getElem?_set_self hl, xw, List.getElem?_map, hq]
    simp only [Option.map_some, xrow_same, he]
  · rw [List.getElem?_set_ne hk, xw, xw, List.getElem?_map, List.getElem?_map]
    cases hx : L[k]? with
    | none => rfl
    | some x =>
      have hne : ¬ (x.1 = κ ∧ x.2 = i) := by
        intro h
        exact hk (hD.1 q0 k (κ, i) x hq hx (by rw [← h.1, ← h.2]))
      simp only [Option.map_some, xrow_ne hne]
section XB
variable {p : Program} {l : Launch} {e : Env} {R : Room} {s : State} {m : MethodId} {args : Array Value} {below : List Frame} {meth : Method} {c : Code} {H : Heap} {locs : List Loc} {cells slots : Nat} {Q : State → Prop}
variable {cc : ByteArray} {pc : Nat} {ls : Array Slot} {rest : List Value} {g : xG} {L : List (Nat × Nat)} {M : xM} {sz : Nat} {H0 : Heap} {Ts : List Cond} {own : String} {κ i : Nat}
theorem x_get (hx : p.tables.exec = Jvm.exec) (hb : c.code = cc) (hts : ∀ w ∈ Ts, w.before args s = true) {C : String} {T : u_T} {N ci index : Nat} (hin : ∀ w ∈ u_ws C T N, w ∈ Ts) (hown : s.vm.findClass own = some m.cls) (hK : xK g s) (hP : xP g L M H) (he : (κ, i) ∈ L) {fs : (Nat → Int32) → List Value} (hc : ∀ r, xc g κ i r = .inr (ci, fs r)) (hcl : vwCl[ci]? = some (C, T, N)) (k : Nat) (hk : k < N) {ref nm ds : String} (hlink : Cond.fieldLink own index ref nm ds ∈ Ts) (h1 : (T k).1 = ref) (h2 : (T k).2.1 = nm) (h3 : (T k).2.2.1 = ds) {v : Value} (hv : (fs (M κ i))[k]? = some v) (hdg : decode cc pc = .ok (.getfield index, 3))
    (kk : W p l e R s m args below meth c H locs cells slots Q (F0 m (pc + 3) ls (v :: rest))) : W p l e R s m args below meth c H locs cells slots Q (F0 m pc ls (.ref (xad g κ i) :: rest)) := by
  obtain ⟨q0, -, hq⟩ := xw_at (g := g) (M := M) he
  rw [hc] at hq
  subst h1; subst h2; subst h3
  exact va_get hx hb hts hin hown hK hP q0 hq hcl k hk (hts _ hlink) (fun _ h => h) hv hdg kk
theorem x_put (hx : p.tables.exec = Jvm.exec) (hb : c.code = cc) (hts : ∀ w ∈ Ts, w.before args s = true) {C : String} {T : u_T} {N ci index : Nat} (hin : ∀ w ∈ u_ws C T N, w ∈ Ts) {ty0 : Nat → FieldType} (hty : ∀ k, k < N → parseFieldDescriptor (T k).2.2.1 = some (ty0 k)) (hnm : ∀ a, a < N → ∀ b, b < N → a ≠ b → (T a).2.1 ≠ (T b).2.1) (hown : s.vm.findClass own = some m.cls) (hK : xK g s) (hP : xP g L M H) (hD : xD g L) (hS : va_S (xA g L sz) H0 H locs) (he : (κ, i) ∈ L) {fs : (Nat → Int32) → List Value} (hc : ∀ r, xc g κ i r = .inr (ci, fs r)) (hcl : vwCl[ci]? = some (C, T, N)) (k : Nat) (hk : k < N) {ref nm ds : String} (hlink : Cond.fieldLink own index ref nm ds ∈ Ts) (h1 : (T k).1 = ref) (h2 : (T k).2.1 = nm) (h3 : (T k).2.2.1 = ds) (hfin : (T k).2.2.2 = false) {v : Int32} (hn : narrow (ty0 k) (.int v) = .int v) (hfit : fits (ty0 k) (.int v) = true) (hl : ∀ r, k < (fs r).length) (hset : ∀ r, (fs r).set k (.int v) = fs (upd r k v)) (hdg : decode cc pc = .ok (.putfield index, 3))
    (kk : ∀ (H1 : Heap) (locs1 : List Loc), xP g L (xup M κ i k v) H1 → va_S (xA g L sz) H0 H1 locs1 → W p l e R s m args below meth c H1 locs1 cells slots Q (F0 m (pc + 3) ls rest)) : W p l e R s m args below meth c H locs cells slots Q (F0 m pc ls (.int v :: .ref (xad g κ i) :: rest)) := by
  obtain ⟨q0, hq0, hq⟩ := xw_at (g := g) (M := M) he
  rw [hc] at hq
  subst h1; subst h2; subst h3
  refine va_put hx hb hts hin ty0 hty hnm hown hK hP (xw_D M sz hD) hS q0 hq hcl k hk (hts _ hlink) (fun _ h => h) hfin (hty k hk) hn hfit (hl _) hdg (fun H1 locs1 hP1 _ hS1 => kk H1 locs1 ?_ hS1)
  rw [hset, ← hc, xw_set hD hq0 rfl] at hP1
  exact hP1
theorem x_iald (hx : p.tables.exec = Jvm.exec) (hb : c.code = cc) (hK : xK g s) (hP : xP g L M H) (he : (κ, i) ∈ L) {n : Nat} (hc : ∀ r, xc g κ i r = xri g 1 n r) {j : Int32} (hin : vp_in j n) (hdg : decode cc pc = .ok (.iaload, 1))
    (kk : W p l e R s m args below meth c H locs cells slots Q (F0 m (pc + 1) ls (.int (M κ i j.toNatClampNeg) :: rest))) : W p l e R s m args below meth c H locs cells slots Q (F0 m pc ls (.int j :: .ref (xad g κ i) :: rest)) := by
  obtain ⟨q0, -, hq⟩ := xw_at (g := g) (M := M) he
  rw [hc] at hq
  exact va_iald hx hb hK hP q0 1 hq rfl hin hdg kk
theorem x_bald (hx : p.tables.exec = Jvm.exec) (hb : c.code = cc) (hK : xK g s) (hP : xP g L M H) (he : (κ, i) ∈ L) {n : Nat} (hc : ∀ r, xc g κ i r = xri g 0 n r) {j : Int32} (hin : vp_in j n) (hdg : decode cc pc = .ok (.baload, 1))
    (kk : W p l e R s m args below meth c H locs cells slots Q (F0 m (pc + 1) ls (.int (M κ i j.toNatClampNeg) :: rest))) : W p l e R s m args below meth c H locs cells slots Q (F0 m pc ls (.int j :: .ref (xad g κ i) :: rest)) := by
  obtain ⟨q0, -, hq⟩ := xw_at (g := g) (M := M) he
  rw [hc] at hq
  exact va_bald hx hb hK hP q0 0 hq rfl hin hdg kk
theorem x_zald (hx : p.tables.exec = Jvm.exec) (hb : c.code = cc) (hK : xK g s) (hP : xP g L M H) (he : (κ, i) ∈ L) {n : Nat} (hc : ∀ r, xc g κ i r = xri g 2 n r) {j : Int32} (hin : vp_in j n) (hdg : decode cc pc = .ok (.baload, 1))
    (kk : W p l e R s m args below meth c H locs cells slots Q (F0 m (pc + 1) ls (.int (M κ i j.toNatClampNeg) :: rest))) : W p l e R s m args below meth c H locs cells slots Q (F0 m pc ls (.int j :: .ref (xad g κ i) :: rest)) := by
  obtain ⟨q0, -, hq⟩ := xw_at (g := g) (M := M) he
  rw [hc] at hq
  exact va_zald hx hb hK hP q0 2 hq rfl hin hdg kk
theorem x_iast (hx : p.tables.exec = Jvm.exec) (hb : c.code = cc) (hK : xK g s) (hP : xP g L M H) (hD : xD g L) (hS : va_S (xA g L sz) H0 H locs) (he : (κ, i) ∈ L) {n : Nat} (hc : ∀ r, xc g κ i r = xri g 1 n r) {j v : Int32} (hin : vp_in j n) (hdg : decode cc pc = .ok (.iastore, 1))
    (kk : ∀ (H1 : Heap) (locs1 : List Loc), xP g L (xup M κ i j.toNatClampNeg v) H1 → va_S (xA g L sz) H0 H1 locs1 → W p l e R s m args below meth c H1 locs1 cells slots Q (F0 m (pc + 1) ls rest)) : W p l e R s m args below meth c H locs cells slots Q (F0 m pc ls (.int v :: .int j :: .ref (xad g κ i) :: rest)) := by
  obtain ⟨q0, hq0, hq⟩ := xw_at (g := g) (M := M) he
  rw [hc] at hq
  refine va_iast hx hb hK hP (xw_D M sz hD) hS q0 1 hq rfl hin hdg (fun H1 locs1 hP1 _ hS1 => kk H1 locs1 ?_ hS1)
  rw [xw_set hD hq0 (hc _)] at hP1
  exact hP1
theorem x_bast (hx : p.tables.exec = Jvm.exec) (hb : c.code = cc) (hK : xK g s) (hP : xP g L M H) (hD : xD g L) (hS : va_S (xA g L sz) H0 H locs) (he : (κ, i) ∈ L) {n : Nat} (hc : ∀ r, xc g κ i r = xri g 0 n r) {j v : Int32} (hin : vp_in j n) (hdg : decode cc pc = .ok (.bastore, 1))
    (kk : ∀ (H1 : Heap) (locs1 : List Loc), xP g L (xup M κ i j.toNatClampNeg (vp_nar .byte v)) H1 → va_S (xA g L sz) H0 H1 locs1 → W p l e R s m args below meth c H1 locs1 cells slots Q (F0 m (pc + 1) ls rest)) : W p l e R s m args below meth c H locs cells slots Q (F0 m pc ls (.int v :: .int j :: .ref (xad g κ i) :: rest)) := by
  obtain ⟨q0, hq0, hq⟩ := xw_at (g := g) (M := M) he
  rw [hc] at hq
  refine va_bast hx hb hK hP (xw_D M sz hD) hS q0 0 hq rfl hin hdg (fun H1 locs1 hP1 _ hS1 => kk H1 locs1 ?_ hS1)
  rw [xw_set hD hq0 (hc _)] at hP1
  exact hP1
theorem x_zast (hx : p.tables.exec = Jvm.exec) (hb : c.code = cc) (hK : xK g s) (hP : xP g L M H) (hD : xD g L) (hS : va_S (xA g L sz) H0 H locs) (he : (κ, i) ∈ L) {n : Nat} (hc : ∀ r, xc g κ i r = xri g 2 n r) {j v : Int32} (hin : vp_in j n) (hdg : decode cc pc = .ok (.bastore, 1))
    (kk : ∀ (H1 : Heap) (locs1 : List Loc), xP g L (xup M κ i j.toNatClampNeg (vp_nar .boolean v)) H1 → va_S (xA g L sz) H0 H1 locs1 → W p l e R s m args below meth c H1 locs1 cells slots Q (F0 m (pc + 1) ls rest)) : W p l e R s m args below meth c H locs cells slots Q (F0 m pc ls (.int v :: .int j :: .ref (xad g κ i) :: rest)) := by
  obtain ⟨q0, hq0, hq⟩ := xw_at (g := g) (M := M) he
  rw [hc] at hq
  refine va_zast hx hb hK hP (xw_D M sz hD) hS q0 2 hq rfl hin hdg (fun H1 locs1 hP1 _ hS1 => kk H1 locs1 ?_ hS1)
  rw [xw_set hD hq0 (hc _)] at hP1
  exact hP1
/-- a reference array: the place holds a cell, or null -/
theorem x_aald (hx : p.tables.exec = Jvm.exec) (hb : c.code = cc) (hK : xK g s) (hP : xP g L M H) (he : (κ, i) ∈ L) {t n κ2 : Nat} {C : String} (hc : ∀ r, xc g κ i r = xrq g t n κ2 r) (ht : (xtys g)[t]? = some (xcy g t, .object C)) {j : Int32} (hin : vp_in j n) (hne : M κ i j.toNatClampNeg ≠ 0) (hdg : decode cc pc = .ok (.aaload, 1))
    (kk : W p l e R s m args below meth c H locs cells slots Q (F0 m (pc + 1) ls (.ref (xad g κ2 j.toNatClampNeg) :: rest))) : W p l e R s m args below meth c H locs cells slots Q (F0 m pc ls (.int j :: .ref (xad g κ i) :: rest)) := by
  obtain ⟨q0, -, hq⟩ := xw_at (g := g) (M := M) he
  rw [hc] at hq
  refine va_aldq hx hb hK hP q0 t hq ht hin hdg ?_
  rw [if_neg hne]
  exact kk
end XB
