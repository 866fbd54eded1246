/-! A WORLD THAT GROWS: bank and note make cells -/
abbrev xU : Type := (Nat → Nat → Nat) × List (Nat × Nat) × xM
def xPostG (g : xG) (u : xU) (t : State) : Prop := xP (g.at u.1) u.2.1 u.2.2 t.heap ∧ xD (g.at u.1) u.2.1
/-- just the cells that there are with nb banks and nn notes -/
def xEQ (nb nn : Nat) (L : List (Nat × Nat)) : Prop := ∀ κ i : Nat, (κ, i) ∈ L ↔ xEx nb nn κ i
theorem xEQ.el {nb nn : Nat} {L : List (Nat × Nat)} (h : xEQ nb nn L) : xEL nb nn L := fun κ i q => (h κ i).mpr q
theorem xc_at {g : xG} {ad : Nat → Nat → Nat} {κ i : Nat} {r : Nat → Int32} (h0 : ∀ a, a < 24 ∨ 52 ≤ a → ad a 0 = xad g a 0) (h1 : κ = 1 → ∀ j, r j ≠ 0 → ad 24 j = xad g 24 j) (h3 : κ = 3 → ∀ j, r j ≠ 0 → ad 27 j = xad g 27 j) (h7 : κ = 7 → ∀ j, r j ≠ 0 → ad 29 j = xad g 29 j) (h8 : κ = 8 → ∀ j, r j ≠ 0 → ad 26 j = xad g 26 j) (h24 : κ = 24 → ad 25 i = xad g 25 i) (h27 : κ = 27 → ad 28 i = xad g 28 i) (h29 : κ = 29 → ad 30 i = xad g 30 i ∧ ad 31 i = xad g 31 i) : xc (g.at ad) κ i r = xc g κ i r := by
  have hq : ∀ (k2 t n : Nat), (∀ j, r j ≠ 0 → ad k2 j = xad g k2 j) → xrq (g.at ad) t n k2 r = xrq g t n k2 r := by
    intro k2 t n h
    have : (fun j => if r j = 0 then none else some (xad (g.at ad) k2 j)) = fun j => if r j = 0 then none else some (xad g k2 j) := by
      funext j
      by_cases hr : r j = 0
      · rw [if_pos hr, if_pos hr]
      · rw [if_neg hr, if_neg hr]; exact congrArg some (h j hr)
    show (.inl (xcy g t, n, .inr (.inr (.inr (.inr _)))) : va_E) = .inl (xcy g t, n, .inr (.inr (.inr (.inr _))))
    rw [this]
  unfold xc
  split
  all_goals first
    | rfl
    | exact hq _ _ _ (h1 rfl)
    | exact hq _ _ _ (h3 rfl)
    | exact hq _ _ _ (h7 rfl)
    | exact hq _ _ _ (h8 rfl)
    | (have e := h24 rfl; simp [xf24, xad, xG.at] at e ⊢; exact e)
    | (have e := h27 rfl; simp [xf27, xad, xG.at] at e ⊢; exact e)
    | (have e := h29 rfl; simp [xf29, xad, xG.at] at e ⊢; exact e)
    | (simp [xf0, xf2, xf4, xf5, xf6, xf11, xf12, xf40, xad, xG.at, h0]; done)
theorem x_join1 {A : Nat → Prop} {D : va_G} {cl : List vw_C} {w w1 : va_W} {c : Nat × va_E} {H H1 : Heap} (hP : va_P D cl (w ++ [c]) H) (hD : va_D A (w ++ [c])) (hA : ∀ q, H.size ≤ q → A q) (hk : ∀ q : Nat, q < H.size → ¬ va_A [c] H.size q → H1[q]? = H[q]?) (hP1 : va_P D cl w1 H1) (hD1 : va_D (va_A [c] H.size) w1) : va_P D cl (w ++ w1) H1 ∧ va_D A (w ++ w1) := by
  have hl : ∀ (k : Nat) (q : Nat × va_E), w[k]? = some q → (w ++ [c])[k]? = some q := fun k q h => by
    rw [List.getElem?_append_left (List.getElem?_eq_some_iff.mp h).1]; exact h
  have hc : (w ++ [c])[w.length]? = some c := by simp
  have hcA : A c.1 := hD.2 _ _ hc
  have apart : ∀ (k : Nat) (q : Nat × va_E), w[k]? = some q → q.1 < H.size ∧ ¬ va_A [c] H.size q.1 := by
    intro k q hq
    have hlt := (hP k q (hl k q hq)).lt
    refine ⟨hlt, fun h => ?_⟩
    rcases h with ⟨k2, e, h⟩ | h
    · have hk2 : k2 = 0 := by have := (List.getElem?_eq_some_iff.mp h).1; simp at this; omega
      subst hk2
      have h9 : c = (q.1, e) := Option.some.inj h
      have := hD.1 k w.length q c (hl k q hq) hc (by rw [h9])
      have := (List.getElem?_eq_some_iff.mp hq).1
      omega
    · omega
  have hF : ∀ q, va_A [c] H.size q → A q := by
    intro q h
    rcases h with ⟨k2, e, h⟩ | h
    · have hk2 : k2 = 0 := by have := (List.getElem?_eq_some_iff.mp h).1; simp at this; omega
      subst hk2
      have h9 : c = (q, e) := Option.some.inj h
      rw [h9] at hcA; exact hcA
    · exact hA q h
  refine ⟨va_P.app (fun k q hq => ?_) hP1, va_D.app ⟨fun i j x y hx hy hxy => hD.1 i j x y (hl i x hx) (hl j y hy) hxy, fun k q hq => hD.2 k q (hl k q hq)⟩ (hD1.weaken (fun k q _ h => hF q.1 h)) (fun i j x y hx hy hxy => ?_)⟩
  · obtain ⟨g1, g2⟩ := apart k q hq
    exact (hP k q (hl k q hq)).kept (hk q.1 g1 g2)
  · exact (apart i x hx).2 (by rw [hxy]; exact hD1.2 j y hy)
theorem x_last {A : Nat → Prop} {D : va_G} {cl : List vw_C} {w : va_W} {c : Nat × va_E} {H : Heap} (hP : va_P D cl (w ++ [c]) H) (hD : va_D A (w ++ [c])) : va_P D cl [c] H ∧ va_D (fun _ => True) [c] ∧ A c.1 := by
  have hc : (w ++ [c])[w.length]? = some c := by simp
  have key : ∀ (k : Nat) (q : Nat × va_E), ([c] : va_W)[k]? = some q → k = 0 ∧ q = c := fun k q h => by
    have hk2 : k = 0 := by have := (List.getElem?_eq_some_iff.mp h).1; simp at this; omega
    subst hk2
    exact ⟨rfl, (Option.some.inj h).symm⟩
  exact ⟨fun k q h => by rw [(key k q h).2]; exact hP _ _ hc, ⟨fun i j p q hi hj _ => by rw [(key i p hi).1, (key j q hj).1], fun _ _ _ => trivial⟩, hD.2 _ _ hc⟩
theorem x_freeA {A : Nat → Prop} {c : Nat × va_E} {sz : Nat} (hc : A c.1) (hA : ∀ q, sz ≤ q → A q) : ∀ q, va_A [c] sz q → A q := by
  intro q h
  rcases h with ⟨k2, e, h⟩ | h
  · have hk2 : k2 = 0 := by have := (List.getElem?_eq_some_iff.mp h).1; simp at this; omega
    subst hk2
    have h9 : c = (q, e) := Option.some.inj h
    rw [h9] at hc; exact hc
  · exact hA q h
theorem x_grown {g : xG} {L L2 : List (Nat × Nat)} {M M2 : xM} {w1 : va_W} {ad : Nat → Nat → Nat} {sz : Nat} {H : Heap} (he : xw (g.at ad) L2 M2 = xw g L M ++ w1) (hP : va_P g.1 vwCl (xw g L M ++ w1) H) (hD : va_D (xA g L sz) (xw g L M ++ w1)) (hlo : ∀ q, xA g L sz q → xlo g ≤ q) : xP (g.at ad) L2 M2 H ∧ xD (g.at ad) L2 ∧ (∀ q, xA (g.at ad) L2 sz q → xA g L sz q) ∧ ∀ q, xA g L sz q → xA (g.at ad) L2 sz q := by
  refine ⟨by show va_P g.1 vwCl (xw (g.at ad) L2 M2) H; rw [he]; exact hP, xlist_D he hD hlo, xlist_A he hD (fun q h => Or.inr h), fun q h => ?_⟩
  rcases h with ⟨k, x, h1, h2⟩ | h
  · have h3 : (xw g L M ++ w1)[k]? = some (q, xc g x.1 x.2 (M x.1 x.2)) := by
      have : (xw g L M)[k]? = some (q, xc g x.1 x.2 (M x.1 x.2)) := by rw [xw, List.getElem?_map, h1]; simp [h2]
      rw [List.getElem?_append_left (List.getElem?_eq_some_iff.mp this).1]; exact this
    rw [← he, xw, List.getElem?_map] at h3
    cases hy : L2[k]? with
    | none => rw [hy] at h3; cases h3
    | some y =>
      rw [hy] at h3
      exact Or.inl ⟨k, y, hy, congrArg Prod.fst (Option.some.inj h3)⟩
  · exact Or.inr h
theorem va_S.mono {A B : Nat → Prop} {H0 H : Heap} {locs : List Loc} (h : ∀ q, A q → B q) (hS : va_S A H0 H locs) : va_S B H0 H locs := ⟨hS.1, fun q h1 h2 => hS.2.1 q h1 (fun z => h2 (h q z)), fun l hl => h _ (hS.2.2 l hl)⟩
section XGR
variable {p : Program} {l : Launch} {e : Env} {R : Room} {s : State} {m : MethodId} {args : Array Value} {below : List Frame} {meth : Method} {c : Code} {H : Heap} {locs : List Loc} {cells slots : Nat} {Q : State → Prop}
variable {cc : ByteArray} {pc nL : Nat} {ls : Array Slot} {rest : List Value} {g : xG} {L : List (Nat × Nat)} {M : xM} {own : String} {c0 : Cond} {y : MethodName} {b : ByteArray} {maxL : Nat} {ret : Option FieldType} {As : List Value}
theorem x_begG (hy : plainName y.cls = true) (hlen : Nat.ble (lg_sl As).length maxL = true) {Qc : Array Value → State → Outcome → State → Prop} {sz nc ns : Nat} {free : Addr → Prop} (body : ∀ (p : Program) (e : Env) (s : State) (m : MethodId) (args : Array Value) (below : List Frame) (meth : Method) (c : Code) (ls : Array Slot), s.heap.size = sz → xBeg p s m args meth c y b maxL ret g L M As ls → W p l e R s m args below meth c s.heap [] 0 0 (MQ below Qc args s nc ns free) (F0 m 0 ls [])) : Met l y (xws y b maxL ret) R (xPre g L M sz As) Qc nc ns free := by
  refine Met.ofW (cc := b) (maxL := maxL) (ret := ret) hy rfl ?_
  intro p e s m args below meth c s₁ B hml hv
  obtain ⟨rfl, hsz, hP, hK, hA⟩ := hv
  have hl := lv_entry As (n := maxL) (Nat.le_of_ble_eq_true hlen)
  rw [lg_entry_eq]
  exact body p e s m _ below meth c _ hsz ⟨B.exec, B.bytes, hml, findClass_of_methodNamed B.named, atoms_spec (ws := xws y b maxL ret) B.pre, B.returns, B.notSynchronized, hK, hA, hP, hl⟩
theorem x_retiG {post : Int32 → xU → Prop} {sz nc ns : Nat} (hx : p.tables.exec = Jvm.exec) (hb : c.code = cc) (hr : meth.sig.returnType = some .int) (hlk : meth.locks = false) {u : xU} (hP : xP (g.at u.1) u.2.1 u.2.2 H) (hD : xD (g.at u.1) u.2.1) (hS : va_S (xA g L sz) s.heap H locs) {v : Int32} (hp : post v u) (hc : cells ≤ nc) (hs : slots ≤ ns) (hdg : decode cc pc = .ok (.ireturn, 1)) : W p l e R s m args below meth c H locs cells slots (MQ below (va_Qi post (xPostG g) (xA g L sz)) args s nc ns (xA g L sz)) (F0 m pc ls [.int v]) :=
  W.widen (k := nc) (n := ns) hc hs (W.iret hx hb hr (fun t ht _ => ⟨⟨v, u, rfl, hp, by show xP _ _ _ t.heap; rw [ht]; exact hP, hD⟩, hS.F ht⟩) hS.2.2 hdg hlk)
/-- a reference array of the world takes the object of its own place -/
theorem x_astq (hx : p.tables.exec = Jvm.exec) (hb : c.code = cc) (hK : xK g s) (hD : xD g L) (hP : xP g L M H) {sz : Nat} {H0 : Heap} (hS : va_S (xA g L sz) H0 H locs) {κ κ2 t n ci N : Nat} {C : String} {T : u_T} {fs : (Nat → Int32) → List Value} {j : Int32} (he : (κ, 0) ∈ L) (he2 : (κ2, j.toNatClampNeg) ∈ L) (hc : ∀ r, xc g κ 0 r = xrq g t n κ2 r) (hc2 : ∀ r, xc g κ2 j.toNatClampNeg r = .inr (ci, fs r)) (hcl : vwCl[ci]? = some (C, T, N)) (ht : (xtys g)[t]? = some (xcy g t, .object C)) (hin : vp_in j n) (hdg : decode cc pc = .ok (.aastore, 1))
    (kk : ∀ (H1 : Heap) (locs1 : List Loc), xP g L (xup M κ 0 j.toNatClampNeg 1) H1 → va_S (xA g L sz) H0 H1 locs1 → W p l e R s m args below meth c H1 locs1 cells slots Q (F0 m (pc + 1) ls rest)) : W p l e R s m args below meth c H locs cells slots Q (F0 m pc ls (.ref (xad g κ2 j.toNatClampNeg) :: .int j :: .ref (xad g κ 0) :: rest)) := by
  obtain ⟨q1, hq1', hq1⟩ := xw_at (g := g) (M := M) he
  obtain ⟨q2, -, hq2⟩ := xw_at (g := g) (M := M) he2
  rw [hc] at hq1
  rw [hc2] at hq2
  refine va_astq (r := (C, T, N)) hx hb hK hP (xw_D M _ hD) hS q1 t q2 ci hq1 ht hq2 hcl hin hdg (fun H1 locs1 hP1 _ hS1 => kk H1 locs1 ?_ hS1)
  rw [xw_set (r := upd (M κ 0) j.toNatClampNeg 1) hD hq1' (by
    rw [hc]
    show (.inl (xcy g t, n, .inr (.inr (.inr (.inr _)))) : va_E) = .inl (xcy g t, n, .inr (.inr (.inr (.inr _))))
    congr 7
    funext i
    by_cases hi : i = j.toNatClampNeg
    · subst hi; simp [upd, va_up]
    · simp [upd, va_up, hi])] at hP1
  exact hP1
end XGR
/-- what a new bank and a new note are -/
def rBank (t pl go : Int32) : Nat → Int32 := fun j => if j = 0 then t else if j = 1 then pl else if j = 2 then go else 0
def rNote (n bk su ma wo : Int32) : Nat → Int32 := fun j => if j = 0 then n else if j = 1 then bk else if j = 2 then su else if j = 3 then ma else if j = 4 then wo else if j = 8 then (-1000000) else if j = 9 then (-1000000) else if j = 10 then (-1000000) else 0
def xmB (n : Nat) (t pl go : Int32) (M : xM) : xM := xrow (xrow M 27 n (rBank t pl go)) 28 n (fun _ => 0)
def xmN (n : Nat) (nr bk su ma wo : Int32) (M : xM) : xM := xrow (xrow (xrow M 29 n (rNote nr bk su ma wo)) 30 n (fun _ => 0)) 31 n (fun _ => 0)
def adB (g : xG) (n q q1 : Nat) : Nat → Nat → Nat := fun κ i => if κ = 27 ∧ i = n then q else if κ = 28 ∧ i = n then q1 else xad g κ i
def adN (g : xG) (n q q1 q2 : Nat) : Nat → Nat → Nat := fun κ i => if κ = 29 ∧ i = n then q else if κ = 30 ∧ i = n then q1 else if κ = 31 ∧ i = n then q2 else xad g κ i
theorem xEx_b {nb nn n : Nat} (h : nb ≤ n) : ¬ xEx nb nn 27 n ∧ ¬ xEx nb nn 28 n := ⟨Nat.not_lt.mpr h, Nat.not_lt.mpr h⟩
theorem xEx_n {nb nn n : Nat} (h : nn ≤ n) : ¬ xEx nb nn 29 n ∧ ¬ xEx nb nn 30 n ∧ ¬ xEx nb nn 31 n := ⟨Nat.not_lt.mpr h, Nat.not_lt.mpr h, Nat.not_lt.mpr h⟩
theorem xw_B {g : xG} {L : List (Nat × Nat)} {M : xM} {nb nn q q1 : Nat} {t pl go : Int32} (hL : xEQ nb nn L) (hz : M 3 0 nb = 0) : xw (g.at (adB g nb q q1)) (L ++ [(27, nb), (28, nb)]) (xmB nb t pl go M) = xw g L M ++ [(q, .inr (0, [.int t, .int pl, .int go, .int 0, .int 0, .ref q1])), (q1, .inl (xcy g 1, 8, .inl (fun _ => 0)))] := by
  have ha : xad (g.at (adB g nb q q1)) 27 nb = q ∧ xad (g.at (adB g nb q q1)) 28 nb = q1 := by constructor <;> simp [xad, xG.at, adB]
  have hm : xmB nb t pl go M 27 nb = rBank t pl go ∧ xmB nb t pl go M 28 nb = fun _ => 0 := by
    unfold xmB
    refine ⟨?_, xrow_same⟩
    rw [xrow_ne (by simp), xrow_same]
  have h1 : xw (g.at (adB g nb q q1)) L (xmB nb t pl go M) = xw g L M := by
    unfold xw
    refine List.map_congr_left fun x hx => ?_
    have hne : ¬ (x.1 = 27 ∧ x.2 = nb) ∧ ¬ (x.1 = 28 ∧ x.2 = nb) := by
      have h9 := (hL x.1 x.2).mp hx
      constructor <;> (rintro ⟨h1, h2⟩; rw [h1, h2] at h9; first | exact (xEx_b (Nat.le_refl _)).1 h9 | exact (xEx_b (Nat.le_refl _)).2 h9)
    have e1 : xad (g.at (adB g nb q q1)) x.1 x.2 = xad g x.1 x.2 := by simp only [xad, xG.at, adB]; rw [if_neg hne.1, if_neg hne.2]
    have e2 : xmB nb t pl go M x.1 x.2 = M x.1 x.2 := by unfold xmB; rw [xrow_ne hne.2, xrow_ne hne.1]
    have e3 : xc (g.at (adB g nb q q1)) x.1 x.2 (M x.1 x.2) = xc g x.1 x.2 (M x.1 x.2) := by
      refine xc_at ?_ ?_ ?_ ?_ ?_ ?_ ?_ ?_
      · intro a ha; simp only [adB]; rw [if_neg (by omega), if_neg (by omega)]
      · intro _ j _; simp [adB]
      · intro hk j hj
        have hj2 : j ≠ nb := by
          rintro rfl
          have h9 := (hL x.1 x.2).mp hx
          rw [hk] at h9
          have h10 : x.2 = 0 := h9.1
          rw [hk, h10] at hj
          exact hj hz
        simp [adB, hj2]
      · intro _ j _; simp [adB]
      · intro _ j _; simp [adB]
      · intro _; simp [adB]
      · intro hk
        have h9 := (hL x.1 x.2).mp hx
        rw [hk] at h9
        have h10 : x.2 < nb := h9
        have : x.2 ≠ nb := by omega
        simp [adB, this]
      · intro _; simp [adB]
    rw [e1, e2, e3]
  have h2 : xw (g.at (adB g nb q q1)) (L ++ [(27, nb), (28, nb)]) (xmB nb t pl go M) = xw (g.at (adB g nb q q1)) L (xmB nb t pl go M) ++ xw (g.at (adB g nb q q1)) [(27, nb), (28, nb)] (xmB nb t pl go M) := by unfold xw; rw [List.map_append]
  rw [h2, h1]
  congr 1
  show [(xad (g.at (adB g nb q q1)) 27 nb, xc (g.at (adB g nb q q1)) 27 nb (xmB nb t pl go M 27 nb)), (xad (g.at (adB g nb q q1)) 28 nb, xc (g.at (adB g nb q q1)) 28 nb (xmB nb t pl go M 28 nb))] = _
  rw [hm.1, hm.2, xc27, xc28]
  simp only [xf27]
  rw [ha.1, ha.2]
  rfl
theorem xw_N {g : xG} {L : List (Nat × Nat)} {M : xM} {nb nn q q1 q2 : Nat} {nr bk su ma wo : Int32} (hL : xEQ nb nn L) (hz : M 7 0 nn = 0) : xw (g.at (adN g nn q q1 q2)) (L ++ [(29, nn), (30, nn), (31, nn)]) (xmN nn nr bk su ma wo M) = xw g L M ++ [(q, .inr (4, [.int nr, .int bk, .int su, .int ma, .int wo, .int 0, .int 0, .int 0, .int (-1000000), .int (-1000000), .int (-1000000), .ref q1, .ref q2])), (q1, .inl (xcy g 1, 12, .inl (fun _ => 0))), (q2, .inl (xcy g 1, 12, .inl (fun _ => 0)))] := by
  have ha : xad (g.at (adN g nn q q1 q2)) 29 nn = q ∧ xad (g.at (adN g nn q q1 q2)) 30 nn = q1 ∧ xad (g.at (adN g nn q q1 q2)) 31 nn = q2 := by refine ⟨?_, ?_, ?_⟩ <;> simp [xad, xG.at, adN]
  have hm : xmN nn nr bk su ma wo M 29 nn = rNote nr bk su ma wo ∧ (xmN nn nr bk su ma wo M 30 nn = fun _ => 0) ∧ xmN nn nr bk su ma wo M 31 nn = fun _ => 0 := by
    unfold xmN
    refine ⟨?_, ?_, xrow_same⟩
    · rw [xrow_ne (by simp), xrow_ne (by simp), xrow_same]
    · rw [xrow_ne (by simp), xrow_same]
  have h1 : xw (g.at (adN g nn q q1 q2)) L (xmN nn nr bk su ma wo M) = xw g L M := by
    unfold xw
    refine List.map_congr_left fun x hx => ?_
    have hne : ¬ (x.1 = 29 ∧ x.2 = nn) ∧ ¬ (x.1 = 30 ∧ x.2 = nn) ∧ ¬ (x.1 = 31 ∧ x.2 = nn) := by
      have h9 := (hL x.1 x.2).mp hx
      have h8 := xEx_n (nb := nb) (Nat.le_refl nn)
      refine ⟨?_, ?_, ?_⟩
      · rintro ⟨h1, h2⟩; rw [h1, h2] at h9; exact h8.1 h9
      · rintro ⟨h1, h2⟩; rw [h1, h2] at h9; exact h8.2.1 h9
      · rintro ⟨h1, h2⟩; rw [h1, h2] at h9; exact h8.2.2 h9
    have e1 : xad (g.at (adN g nn q q1 q2)) x.1 x.2 = xad g x.1 x.2 := by simp only [xad, xG.at, adN]; rw [if_neg hne.1, if_neg hne.2.1, if_neg hne.2.2]
    have e2 : xmN nn nr bk su ma wo M x.1 x.2 = M x.1 x.2 := by unfold xmN; rw [xrow_ne hne.2.2, xrow_ne hne.2.1, xrow_ne hne.1]
    have e3 : xc (g.at (adN g nn q q1 q2)) x.1 x.2 (M x.1 x.2) = xc g x.1 x.2 (M x.1 x.2) := by
      refine xc_at ?_ ?_ ?_ ?_ ?_ ?_ ?_ ?_
      · intro a ha; simp only [adN]; rw [if_neg (by omega), if_neg (by omega), if_neg (by omega)]
      · intro _ j _; simp [adN]
      · intro _ j _; simp [adN]
      · intro hk j hj
        have hj2 : j ≠ nn := by
          rintro rfl
          have h9 := (hL x.1 x.2).mp hx
          rw [hk] at h9
          have h10 : x.2 = 0 := h9.1
          rw [hk, h10] at hj
          exact hj hz
        simp [adN, hj2]
      · intro _ j _; simp [adN]
      · intro _; simp [adN]
      · intro _; simp [adN]
      · intro hk
        have h9 := (hL x.1 x.2).mp hx
        rw [hk] at h9
        have h10 : x.2 < nn := h9
        have : x.2 ≠ nn := by omega
        simp [adN, this]
    rw [e1, e2, e3]
  have h2 : xw (g.at (adN g nn q q1 q2)) (L ++ [(29, nn), (30, nn), (31, nn)]) (xmN nn nr bk su ma wo M) = xw (g.at (adN g nn q q1 q2)) L (xmN nn nr bk su ma wo M) ++ xw (g.at (adN g nn q q1 q2)) [(29, nn), (30, nn), (31, nn)] (xmN nn nr bk su ma wo M) := by unfold xw; rw [List.map_append]
  rw [h2, h1]
  congr 1
  show [(xad (g.at (adN g nn q q1 q2)) 29 nn, xc (g.at (adN g nn q q1 q2)) 29 nn (xmN nn nr bk su ma wo M 29 nn)), (xad (g.at (adN g nn q q1 q2)) 30 nn, xc (g.at (adN g nn q q1 q2)) 30 nn (xmN nn nr bk su ma wo M 30 nn)), (xad (g.at (adN g nn q q1 q2)) 31 nn, xc (g.at (adN g nn q q1 q2)) 31 nn (xmN nn nr bk su ma wo M 31 nn))] = _
  rw [hm.1, hm.2.1, hm.2.2, xc29, xc30, xc31]
  simp only [xf29]
  rw [ha.1, ha.2.1, ha.2.2]
  rfl
theorem xEx_up {nb nn : Nat} {κ i : Nat} : xEx (nb + 1) nn κ i ↔ xEx nb nn κ i ∨ (κ, i) = (27, nb) ∨ (κ, i) = (28, nb) := by
  by_cases h1 : κ = 27
  · subst h1; show i < nb + 1 ↔ i < nb ∨ _; simp; omega
  · by_cases h2 : κ = 28
    · subst h2; show i < nb + 1 ↔ i < nb ∨ _; simp; omega
    · have : xEx (nb + 1) nn κ i ↔ xEx nb nn κ i := by unfold xEx; split <;> simp_all
      simp [this, h1, h2]
theorem xEx_upn {nb nn : Nat} {κ i : Nat} : xEx nb (nn + 1) κ i ↔ xEx nb nn κ i ∨ (κ, i) = (29, nn) ∨ (κ, i) = (30, nn) ∨ (κ, i) = (31, nn) := by
  by_cases h1 : κ = 29
  · subst h1; show i < nn + 1 ↔ i < nn ∨ _; simp; omega
  · by_cases h2 : κ = 30
    · subst h2; show i < nn + 1 ↔ i < nn ∨ _; simp; omega
    · by_cases h3 : κ = 31
      · subst h3; show i < nn + 1 ↔ i < nn ∨ _; simp; omega
      · have : xEx nb (nn + 1) κ i ↔ xEx nb nn κ i := by unfold xEx; split <;> simp_all
        simp [this, h1, h2, h3]
theorem xEQ.b {nb nn : Nat} {L : List (Nat × Nat)} (h : xEQ nb nn L) : xEQ (nb + 1) nn (L ++ [(27, nb), (28, nb)]) := fun κ i => by
  rw [xEx_up, ← h κ i]; simp
theorem xEQ.n {nb nn : Nat} {L : List (Nat × Nat)} (h : xEQ nb nn L) : xEQ nb (nn + 1) (L ++ [(29, nn), (30, nn), (31, nn)]) := fun κ i => by
  rw [xEx_upn, ← h κ i]; simp
