/-! THE CLAIM OUT OF ONE WALK OF THE LAW'S BODY. Your part is whole_start (and what it stands on); all else here is the same for every law, but numbers. -/
def R_law : String := "NoteCounterLaw"
def lw_P (b : Addr) (xs : List Int32) (args : Array Value) (s : State) : Prop := args = #[.ref b] ∧ s.IntsAt b xs ∧ xs.length ≤ 3584 ∧ (Jvm.Cond.and given_1 narrow_1).before args s = true
def lw_Q (_ : Array Value) (s : State) (o : Outcome) (t : State) : Prop := o = .returned (some (.int 1)) ∧ Framed s o t [] 600000 7302250
def lw_Z (below : List Frame) (a : Array Value) (s : State) : State → Prop := fun t => ∃ o, t.status = .running ∧ Ended t below o ∧ lw_Q a s o t
/-- the law's own end, with 1 on the stack, nothing written that was there before, its room as the claim has it -/
theorem lw_ret {p : Program} {l : Launch} {e : Env} {s : State} {m : MethodId} {below : List Frame} {meth : Method} {c : Code} {b : Nat} (hx : p.tables.exec = Jvm.exec) (hb : c.code = code) (hr : meth.sig.returnType = ret) (hlocks : meth.locks = false) {pc : Nat} {H : Heap} {ls : Array Slot} (hdg : decode code pc = .ok (.ireturn, 1)) : W p l e room_1 s m #[Value.ref b] below meth c H [] 600000 7302250 (lw_Z below #[Value.ref b] s) (F0 m pc ls [.int 1]) := by
  intro T hT X
  obtain ⟨fs, hret, hrun, hended, hW, hframe⟩ := X.leave (v := some (.int 1)) (hlocks := hlocks) (fun h => by rw [hr] at h; cases h)
  have hmeth' : T.vm.method? m = some meth := X.method'
  refine ⟨T.setFrames fs, ?_, .returned (some (.int 1)), hrun, hended, rfl, ⟨_, rfl⟩, hW, hframe⟩
  jvm_step X.here [X.here.top, hx, hb, hdg, hmeth', hr, ret, narrow_b1]
  (try refine ⟨rfl, ?_⟩); (try refine ⟨rfl, ?_⟩)
  first | (intro acts; rw [hret _ acts rfl rfl rfl]) | rw [hret _ _ rfl rfl rfl]
  exact Steps.refl _
/-- what holds at the law's entry: the machine, the code, the tables' words (any of lw_tbl by 'hts w (by decide +kernel)'), the script of L ints xs at the cell b, what the Statement gives of the start (any of its parts by flat_of_before) -/
def lw_At (p : Program) (s : State) (m : MethodId) (meth : Method) (c : Code) (b L : Nat) (xs : Nat → Int32) : Prop :=
  p.tables.exec = Jvm.exec ∧ c.code = code ∧ meth.sig.returnType = ret ∧ c.maxLocals = 4 ∧ s.vm.findClass R_law = some m.cls ∧ (∀ w ∈ lw_tbl, w.before #[Value.ref b] s = true) ∧ va_X b L xs s s.heap ∧ b < s.heap.size ∧ meth.locks = false ∧ (Jvm.Cond.and given_1 narrow_1).before #[Value.ref b] s = true
/-! THE LAW'S CASES -/
theorem lw_ok {s : State} {b : Nat} (hts : ∀ w ∈ lw_tbl, w.before #[Value.ref b] s = true) : ∀ w ∈ Cond.initialized RX10 :: wsL_law, w.before #[Value.ref b] s = true := fun w hw => by
  rcases List.mem_cons.mp hw with h | h
  · rw [h]; exact hts _ (wsL_law_in _ wd_2)
  · exact hts _ (wsL_law_in _ h)
def PX11 (M : xM) : Prop := (∀ j : Nat, 0 ≤ M 53 0 j ∧ M 53 0 j ≤ 60) ∧ (0 ≤ M 40 0 21 ∧ M 40 0 21 ≤ 400) ∧ (∀ j : Nat, 0 ≤ M 70 0 j) ∧ (∀ j : Int32, 0 ≤ j → j < M 40 0 30 → 1 ≤ M 91 0 j.toNatClampNeg) ∧ (0 ≤ M 40 0 50 ∧ M 40 0 50 ≤ 16) ∧ mI M
theorem INV.px {nb nn : Nat} {M : xM} (h : INV nb nn M) : PX11 M := by
  refine ⟨h.sh.2.1, ⟨by rw [h.ta.1]; exact h.ta.2.1, by rw [h.ta.1]; exact h.ta.2.2.1⟩, h.ta.2.2.2.1, ?_, ⟨by rw [h.tc.1]; exact h.tc.2.1, by rw [h.tc.1]; exact h.tc.2.2.1⟩, h.mi⟩
  intro j h1 h2
  have h3 := h.n1 (tnc_n (by have := h.nn24; omega) h1 (by rw [← h.c30]; exact h2))
  rw [h3.m91]; exact h3.m1
theorem PX11.r40 {M N : xM} (h : PX11 M) (hr : R40 M N) : PX11 N := by
  have e : ∀ a : Nat, 40 ≤ a → N a = M a := fun a ha => by funext b c; exact hr a b c ha
  unfold PX11 mI at *
  rw [e 40 (by omega), e 53 (by omega), e 70 (by omega), e 91 (by omega), e 81 (by omega), e 58 (by omega), e 94 (by omega), e 82 (by omega)]
  exact h
theorem sp_sheet {nb nn : Nat} {M u : xM} {r : Int32} (h : INV nb nn M) (a1 a2 a3 : Int32) (hp : (r, u) = f_X10_sheet a1 a2 a3 M) : PX11 u ∧ ∀ (r2 : Int32) (u2 : xM), (r2, u2) = f_X11_sheet a1 a2 a3 u → r = r2 ∧ INV nb nn u2 := by
  have hs := s_sheet h a1 a2 a3
  rw [← hp] at hs
  dsimp only at hs
  refine ⟨h.px.r40 hs.1, fun r2 u2 h2 => ?_⟩
  rw [← h2] at hs
  exact ⟨hs.2.1, hs.2.2⟩
theorem sp_set {nb nn : Nat} {M u : xM} {r : Int32} (h : INV nb nn M) (a1 a2 a3 : Int32) (hp : (r, u) = f_X10_set a1 a2 a3 M) : PX11 u ∧ ∀ (r2 : Int32) (u2 : xM), (r2, u2) = f_X11_set a1 a2 a3 u → r = r2 ∧ INV nb nn u2 := by
  have hs := s_set h a1 a2 a3
  rw [← hp] at hs
  dsimp only at hs
  refine ⟨h.px.r40 hs.1, fun r2 u2 h2 => ?_⟩
  rw [← h2] at hs
  exact ⟨hs.2.1, hs.2.2⟩
theorem sp_copy {nb nn : Nat} {M u : xM} {r : Int32} (h : INV nb nn M) (a1 a2 a3 a4 a5 : Int32) (hp : (r, u) = f_X10_copy a1 a2 a3 a4 a5 M) : PX11 u ∧ ∀ (r2 : Int32) (u2 : xM), (r2, u2) = f_X11_copy a1 a2 a3 a4 a5 u → r = r2 ∧ INV nb nn u2 := by
  have hs := s_copy h a1 a2 a3 a4 a5
  rw [← hp] at hs
  dsimp only at hs
  refine ⟨h.px.r40 hs.1, fun r2 u2 h2 => ?_⟩
  rw [← h2] at hs
  exact ⟨hs.2.1, hs.2.2⟩
theorem sp_drop {nb nn : Nat} {M u : xM} {r : Int32} (h : INV nb nn M) (a1 : Int32) (hp : (r, u) = f_X10_drop a1 M) : PX11 u ∧ ∀ (r2 : Int32) (u2 : xM), (r2, u2) = f_X11_drop a1 u → r = r2 ∧ INV nb nn u2 := by
  have hs := s_drop h a1
  rw [← hp] at hs
  dsimp only at hs
  refine ⟨h.px.r40 hs.1, fun r2 u2 h2 => ?_⟩
  rw [← h2] at hs
  exact ⟨hs.2.1, hs.2.2⟩
theorem sp_road {nb nn : Nat} {M u : xM} {r : Int32} (h : INV nb nn M) (a1 a2 a3 : Int32) (hp : (r, u) = f_X10_road a1 a2 a3 M) : PX11 u ∧ ∀ (r2 : Int32) (u2 : xM), (r2, u2) = f_X11_road a1 a2 a3 u → r = r2 ∧ INV nb nn u2 := by
  have hs := s_road h a1 a2 a3
  rw [← hp] at hs
  dsimp only at hs
  refine ⟨h.px.r40 (fun a b c q => hs.1 a b c (by omega) (by omega)), fun r2 u2 h2 => ?_⟩
  rw [← h2] at hs
  exact ⟨hs.2.1, hs.2.2⟩
theorem sp_far {nb nn : Nat} {M u : xM} {r : Int32} (h : INV nb nn M) (a1 a2 : Int32) (hp : r = f_X10_far a1 a2 M ∧ u = M) : PX11 u ∧ ∀ (r2 : Int32) (u2 : xM), (r2, u2) = f_X11_far a1 a2 u → r = r2 ∧ INV nb nn u2 := by
  obtain ⟨hp, hu⟩ := hp
  subst hu
  have hs := s_far h a1 a2
  rw [← hp] at hs
  refine ⟨h.px, fun r2 u2 h2 => ?_⟩
  rw [← h2] at hs
  exact hs
theorem sp_bank {nb nn : Nat} {M : xM} {g : xG} {L : List (Nat × Nat)} {r : Int32} {u : xU} (h : INV nb nn M) (hQ : xEQ nb nn L) (a1 a2 a3 : Int32) (hp : (r, u.2.2) = f_X10_bank a1 a2 a3 M ∧ ((r < 0 ∧ u = (xad g, L, M)) ∨ (0 ≤ r ∧ nb < 8 ∧ xEQ (nb + 1) nn u.2.1 ∧ u.1 0 0 = xad g 0 0 ∧ u.1 40 0 = xad g 40 0))) : ∃ k2 : Nat, xEQ k2 nn u.2.1 ∧ u.1 0 0 = xad g 0 0 ∧ u.1 40 0 = xad g 40 0 ∧ PX11 u.2.2 ∧ ∀ (r2 : Int32) (u2 : xM), (r2, u2) = f_X11_bank a1 a2 a3 u.2.2 → r = r2 ∧ INV k2 nn u2 := by
  obtain ⟨hp, hq⟩ := hp
  have hs := s_bank h a1 a2 a3
  rw [← hp] at hs
  dsimp only at hs
  obtain ⟨s1, s2, s3, s4⟩ := hs
  rcases hq with ⟨h1, h2⟩ | ⟨h1, h2, h3, h4, h5⟩
  · refine ⟨nb, by rw [h2]; exact hQ, by subst h2; rfl, by subst h2; rfl, h.px.r40 s1, fun r2 u2 h9 => ?_⟩
    rw [← h9] at s2 s3
    exact ⟨s2, s3 h1⟩
  · refine ⟨nb + 1, h3, h4, h5, h.px.r40 s1, fun r2 u2 h9 => ?_⟩
    rw [← h9] at s2 s4
    exact ⟨s2, s4 h1⟩
theorem sp_house {nb nn : Nat} {M u : xM} {r : Int32} (h : INV nb nn M) (a1 a2 : Int32) (hp : r = f_X10_house a1 a2 M ∧ u = M) : PX11 u ∧ ∀ (r2 : Int32) (u2 : xM), (r2, u2) = f_X11_house a1 a2 u → r = r2 ∧ INV nb nn u2 := by
  obtain ⟨hp, hu⟩ := hp
  subst hu
  have hs := s_house h a1 a2
  rw [← hp] at hs
  refine ⟨h.px, fun r2 u2 h2 => ?_⟩
  rw [← h2] at hs
  exact hs
theorem sp_hold {nb nn : Nat} {M u : xM} {r : Int32} (h : INV nb nn M) (a1 a2 a3 : Int32) (hp : (r, u) = f_X10_hold a1 a2 a3 M) : PX11 u ∧ ∀ (r2 : Int32) (u2 : xM), (r2, u2) = f_X11_hold a1 a2 a3 u → r = r2 ∧ INV nb nn u2 := by
  have hs := s_hold h a1 a2 a3
  rw [← hp] at hs
  dsimp only at hs
  refine ⟨h.px.r40 hs.1, fun r2 u2 h2 => ?_⟩
  rw [← h2] at hs
  exact ⟨hs.2.1, hs.2.2⟩
theorem sp_falls {nb nn : Nat} {M u : xM} {r : Int32} (h : INV nb nn M) (a1 : Int32) (hp : r = f_X10_falls a1 M ∧ u = M) : PX11 u ∧ ∀ (r2 : Int32) (u2 : xM), (r2, u2) = f_X11_falls a1 u → r = r2 ∧ INV nb nn u2 := by
  obtain ⟨hp, hu⟩ := hp
  subst hu
  have hs := s_falls h a1
  rw [← hp] at hs
  refine ⟨h.px, fun r2 u2 h2 => ?_⟩
  rw [← h2] at hs
  exact hs
theorem sp_week {nb nn : Nat} {M u : xM} {r : Int32} (h : INV nb nn M) (a1 : Int32) (hp : (r, u) = f_X10_week a1 M) : PX11 u ∧ ∀ (r2 : Int32) (u2 : xM), (r2, u2) = f_X11_week a1 u → r = r2 ∧ INV nb nn u2 := by
  have hs := s_week h a1
  rw [← hp] at hs
  dsimp only at hs
  refine ⟨h.px.r40 (fun a b c q => hs.1 a b c (by omega)), fun r2 u2 h2 => ?_⟩
  rw [← h2] at hs
  exact ⟨hs.2.1, hs.2.2⟩
theorem sp_feed {nb nn : Nat} {M u : xM} {r : Int32} (h : INV nb nn M) (a1 : Int64) (a2 : Int32) (hp : (r, u) = f_X10_feed a1 a2 M) : PX11 u ∧ ∀ (r2 : Int32) (u2 : xM), (r2, u2) = f_X11_feed a1 a2 u → r = r2 ∧ INV nb nn u2 := by
  have hs := s_feed h a1 a2
  rw [← hp] at hs
  dsimp only at hs
  refine ⟨h.px.r40 hs.1, fun r2 u2 h2 => ?_⟩
  rw [← h2] at hs
  exact ⟨hs.2.1, hs.2.2⟩
theorem sp_books {nb nn : Nat} {M u : xM} {r : Int32} (h : INV nb nn M) (hp : (r, u) = f_X10_books M) : PX11 u ∧ ∀ (r2 : Int32) (u2 : xM), (r2, u2) = f_X11_books u → r = r2 ∧ INV nb nn u2 := by
  have hs := s_books h
  rw [← hp] at hs
  dsimp only at hs
  refine ⟨h.px.r40 hs.1, fun r2 u2 h2 => ?_⟩
  rw [← h2] at hs
  exact ⟨hs.2.1, hs.2.2⟩
theorem sp_fault {nb nn : Nat} {M u : xM} {r : Int32} (h : INV nb nn M) (hp : r = f_X10_fault M ∧ u = M) : PX11 u ∧ ∀ (r2 : Int32) (u2 : xM), (r2, u2) = f_X11_fault u → r = r2 ∧ INV nb nn u2 := by
  obtain ⟨hp, hu⟩ := hp
  subst hu
  have hs := s_fault h
  rw [← hp] at hs
  refine ⟨h.px, fun r2 u2 h2 => ?_⟩
  rw [← h2] at hs
  exact hs
theorem sp_known {nb nn : Nat} {M u : xM} {r : Int32} (h : INV nb nn M) (a1 a2 a3 a4 : Int32) (hp : r = f_X10_known a1 a2 a3 a4 M ∧ u = M) : PX11 u ∧ ∀ (r2 : Int32) (u2 : xM), (r2, u2) = f_X11_known a1 a2 a3 a4 u → r = r2 ∧ INV nb nn u2 := by
  obtain ⟨hp, hu⟩ := hp
  subst hu
  have hs := s_known h a1 a2 a3 a4
  rw [← hp] at hs
  refine ⟨h.px, fun r2 u2 h2 => ?_⟩
  rw [← h2] at hs
  exact hs
theorem sp_note {nb nn : Nat} {M : xM} {g : xG} {L : List (Nat × Nat)} {r : Int32} {u : xU} (h : INV nb nn M) (hQ : xEQ nb nn L) (a1 a2 a3 a4 a5 : Int32) (hp : (r, u.2.2) = f_X10_note a1 a2 a3 a4 a5 M ∧ ((r < 0 ∧ u = (xad g, L, M)) ∨ (0 ≤ r ∧ nn < 24 ∧ xEQ nb (nn + 1) u.2.1 ∧ u.1 0 0 = xad g 0 0 ∧ u.1 40 0 = xad g 40 0))) : ∃ k2 : Nat, xEQ nb k2 u.2.1 ∧ u.1 0 0 = xad g 0 0 ∧ u.1 40 0 = xad g 40 0 ∧ PX11 u.2.2 ∧ ∀ (r2 : Int32) (u2 : xM), (r2, u2) = f_X11_note a1 a2 a3 a4 a5 u.2.2 → r = r2 ∧ INV nb k2 u2 := by
  obtain ⟨hp, hq⟩ := hp
  have hs := s_note h a1 a2 a3 a4 a5
  rw [← hp] at hs
  dsimp only at hs
  obtain ⟨s1, s2, s3, s4⟩ := hs
  rcases hq with ⟨h1, h2⟩ | ⟨h1, h2, h3, h4, h5⟩
  · refine ⟨nn, by rw [h2]; exact hQ, by subst h2; rfl, by subst h2; rfl, h.px.r40 s1, fun r2 u2 h9 => ?_⟩
    rw [← h9] at s2 s3
    exact ⟨s2, s3 h1⟩
  · refine ⟨nn + 1, h3, h4, h5, h.px.r40 s1, fun r2 u2 h9 => ?_⟩
    rw [← h9] at s2 s4
    exact ⟨s2, s4 h1⟩
theorem sp_told {nb nn : Nat} {M u : xM} {r : Int32} (h : INV nb nn M) (a1 a2 : Int32) (hp : r = f_X10_told a1 a2 M ∧ u = M) : PX11 u ∧ ∀ (r2 : Int32) (u2 : xM), (r2, u2) = f_X11_told a1 a2 u → r = r2 ∧ INV nb nn u2 := by
  obtain ⟨hp, hu⟩ := hp
  subst hu
  have hs := s_told h a1 a2
  rw [← hp] at hs
  refine ⟨h.px, fun r2 u2 h2 => ?_⟩
  rw [← h2] at hs
  exact hs
theorem sp_looks {nb nn : Nat} {M u : xM} {r : Int32} (h : INV nb nn M) (a1 a2 a3 : Int32) (hp : r = f_X10_looks a1 a2 a3 M ∧ u = M) : PX11 u ∧ ∀ (r2 : Int32) (u2 : xM), (r2, u2) = f_X11_looks a1 a2 a3 u → r = r2 ∧ INV nb nn u2 := by
  obtain ⟨hp, hu⟩ := hp
  subst hu
  have hs := s_looks h a1 a2 a3
  rw [← hp] at hs
  refine ⟨h.px, fun r2 u2 h2 => ?_⟩
  rw [← h2] at hs
  exact hs
theorem sp_worth {nb nn : Nat} {M u : xM} {r : Int32} (h : INV nb nn M) (a1 a2 a3 : Int32) (hp : r = f_X10_worth a1 a2 a3 M ∧ u = M) : PX11 u ∧ ∀ (r2 : Int32) (u2 : xM), (r2, u2) = f_X11_worth a1 a2 a3 u → r = r2 ∧ INV nb nn u2 := by
  obtain ⟨hp, hu⟩ := hp
  subst hu
  have hs := s_worth h a1 a2 a3
  rw [← hp] at hs
  refine ⟨h.px, fun r2 u2 h2 => ?_⟩
  rw [← h2] at hs
  exact hs
theorem sp_hands {nb nn : Nat} {M u : xM} {r : Int32} (h : INV nb nn M) (a1 a2 a3 : Int32) (hp : r = f_X10_hands a1 a2 a3 M ∧ u = M) : PX11 u ∧ ∀ (r2 : Int32) (u2 : xM), (r2, u2) = f_X11_hands a1 a2 a3 u → r = r2 ∧ INV nb nn u2 := by
  obtain ⟨hp, hu⟩ := hp
  subst hu
  have hs := s_hands h a1 a2 a3
  rw [← hp] at hs
  refine ⟨h.px, fun r2 u2 h2 => ?_⟩
  rw [← h2] at hs
  exact hs
theorem sp_trader {nb nn : Nat} {M u : xM} {r : Int32} (h : INV nb nn M) (a1 a2 a3 : Int32) (hp : (r, u) = f_X10_trader a1 a2 a3 M) : PX11 u ∧ ∀ (r2 : Int32) (u2 : xM), (r2, u2) = f_X11_trader a1 a2 a3 u → r = r2 ∧ INV nb nn u2 := by
  have hs := s_trader h a1 a2 a3
  rw [← hp] at hs
  dsimp only at hs
  refine ⟨h.px.r40 hs.1, fun r2 u2 h2 => ?_⟩
  rw [← h2] at hs
  exact ⟨hs.2.1, hs.2.2⟩
theorem sp_pay {nb nn : Nat} {M u : xM} {r : Int32} (h : INV nb nn M) (a1 a2 a3 : Int32) (hp : (r, u) = f_X10_pay a1 a2 a3 M) : PX11 u ∧ ∀ (r2 : Int32) (u2 : xM), (r2, u2) = f_X11_pay a1 a2 a3 u → r = r2 ∧ INV nb nn u2 := by
  have hs := s_pay h a1 a2 a3
  rw [← hp] at hs
  dsimp only at hs
  refine ⟨h.px.r40 hs.1, fun r2 u2 h2 => ?_⟩
  rw [← h2] at hs
  exact ⟨hs.2.1, hs.2.2⟩
theorem sp_bears {nb nn : Nat} {M u : xM} {r : Int32} (h : INV nb nn M) (a1 a2 : Int32) (hp : r = f_X10_bears a1 a2 M ∧ u = M) : PX11 u ∧ ∀ (r2 : Int32) (u2 : xM), (r2, u2) = f_X11_bears a1 a2 u → r = r2 ∧ INV nb nn u2 := by
  obtain ⟨hp, hu⟩ := hp
  subst hu
  have hs := s_bears h a1 a2
  rw [← hp] at hs
  refine ⟨h.px, fun r2 u2 h2 => ?_⟩
  rw [← h2] at hs
  exact hs
theorem sp_home {nb nn : Nat} {M u : xM} {r : Int32} (h : INV nb nn M) (a1 : Int32) (hp : (r, u) = f_X10_home a1 M) : PX11 u ∧ ∀ (r2 : Int32) (u2 : xM), (r2, u2) = f_X11_home a1 u → r = r2 ∧ INV nb nn u2 := by
  have hs := s_home h a1
  rw [← hp] at hs
  dsimp only at hs
  refine ⟨h.px.r40 hs.1, fun r2 u2 h2 => ?_⟩
  rw [← h2] at hs
  exact ⟨hs.2.1, hs.2.2⟩
theorem sp_cut {nb nn : Nat} {M u : xM} {r : Int32} (h : INV nb nn M) (a1 a2 : Int32) (hp : (r, u) = f_X10_cut a1 a2 M) : PX11 u ∧ ∀ (r2 : Int32) (u2 : xM), (r2, u2) = f_X11_cut a1 a2 u → r = r2 ∧ INV nb nn u2 := by
  have hs := s_cut h a1 a2
  rw [← hp] at hs
  dsimp only at hs
  refine ⟨h.px.r40 hs.1, fun r2 u2 h2 => ?_⟩
  rw [← h2] at hs
  exact ⟨hs.2.1, hs.2.2⟩
theorem sp_half {nb nn : Nat} {M u : xM} {r : Int32} (h : INV nb nn M) (a1 a2 a3 : Int32) (hp : (r, u) = f_X10_half a1 a2 a3 M) : PX11 u ∧ ∀ (r2 : Int32) (u2 : xM), (r2, u2) = f_X11_half a1 a2 a3 u → r = r2 ∧ INV nb nn u2 := by
  have hs := s_half h a1 a2 a3
  rw [← hp] at hs
  dsimp only at hs
  refine ⟨h.px.r40 hs.1, fun r2 u2 h2 => ?_⟩
  rw [← h2] at hs
  exact ⟨hs.2.1, hs.2.2⟩
theorem sp_rates {nb nn : Nat} {M u : xM} {r : Int32} (h : INV nb nn M) (a1 a2 a3 : Int32) (hp : (r, u) = f_X10_rates a1 a2 a3 M) : PX11 u ∧ ∀ (r2 : Int32) (u2 : xM), (r2, u2) = f_X11_rates a1 a2 a3 u → r = r2 ∧ INV nb nn u2 := by
  have hs := s_rates h a1 a2 a3
  rw [← hp] at hs
  dsimp only at hs
  refine ⟨h.px.r40 hs.1, fun r2 u2 h2 => ?_⟩
  rw [← h2] at hs
  exact ⟨hs.2.1, hs.2.2⟩
theorem sp_way {nb nn : Nat} {M u : xM} {r : Int32} (h : INV nb nn M) (a1 a2 a3 a4 a5 a6 : Int32) (hp : (r, u) = f_X10_way a1 a2 a3 a4 a5 a6 M) : PX11 u ∧ ∀ (r2 : Int32) (u2 : xM), (r2, u2) = f_X11_way a1 a2 a3 a4 a5 a6 u → r = r2 ∧ INV nb nn u2 := by
  have hs := s_way h a1 a2 a3 a4 a5 a6
  rw [← hp] at hs
  dsimp only at hs
  refine ⟨h.px.r40 hs.1, fun r2 u2 h2 => ?_⟩
  rw [← h2] at hs
  exact ⟨hs.2.1, hs.2.2⟩
theorem sp_kind {nb nn : Nat} {M u : xM} {r : Int32} (h : INV nb nn M) (a1 : Int32) (hp : r = f_X10_kind a1 M ∧ u = M) : PX11 u ∧ ∀ (r2 : Int32) (u2 : xM), (r2, u2) = f_X11_kind a1 u → r = r2 ∧ INV nb nn u2 := by
  obtain ⟨hp, hu⟩ := hp
  subst hu
  have hs := s_kind h a1
  rw [← hp] at hs
  refine ⟨h.px, fun r2 u2 h2 => ?_⟩
  rw [← h2] at hs
  exact hs
theorem sp_as {nb nn : Nat} {M u : xM} {r : Int32} (h : INV nb nn M) (a1 a2 : Int32) (hp : (r, u) = f_X10_as a1 a2 M) : PX11 u ∧ ∀ (r2 : Int32) (u2 : xM), (r2, u2) = f_X11_as a1 a2 u → r = r2 ∧ INV nb nn u2 := by
  have hs := s_as h a1 a2
  rw [← hp] at hs
  dsimp only at hs
  refine ⟨h.px.r40 hs.1, fun r2 u2 h2 => ?_⟩
  rw [← h2] at hs
  exact ⟨hs.2.1, hs.2.2⟩
theorem sp_ask {nb nn : Nat} {M u : xM} {r : Int32} (h : INV nb nn M) (a1 a2 : Int32) (hp : (r, u) = f_X10_ask a1 a2 M) : PX11 u ∧ ∀ (r2 : Int32) (u2 : xM), (r2, u2) = f_X11_ask a1 a2 u → r = r2 ∧ INV nb nn u2 := by
  have hs := s_ask h a1 a2
  rw [← hp] at hs
  dsimp only at hs
  refine ⟨h.px.r40 hs.1, fun r2 u2 h2 => ?_⟩
  rw [← h2] at hs
  exact ⟨hs.2.1, hs.2.2⟩
theorem sp_trace {nb nn : Nat} {M u : xM} {r : Int32} (h : INV nb nn M) (a1 : Int32) (hp : r = f_X10_trace a1 M ∧ u = M) : PX11 u ∧ ∀ (r2 : Int32) (u2 : xM), (r2, u2) = f_X11_trace a1 u → r = r2 ∧ INV nb nn u2 := by
  obtain ⟨hp, hu⟩ := hp
  subst hu
  have hs := s_trace h a1
  rw [← hp] at hs
  refine ⟨h.px, fun r2 u2 h2 => ?_⟩
  rw [← h2] at hs
  exact hs
theorem sp_count {nb nn : Nat} {M u : xM} {r : Int32} (h : INV nb nn M) (a1 : Int32) (hp : r = f_X10_count a1 M ∧ u = M) : PX11 u ∧ ∀ (r2 : Int32) (u2 : xM), (r2, u2) = f_X11_count a1 u → r = r2 ∧ INV nb nn u2 := by
  obtain ⟨hp, hu⟩ := hp
  subst hu
  have hs := s_count h a1
  rw [← hp] at hs
  refine ⟨h.px, fun r2 u2 h2 => ?_⟩
  rw [← h2] at hs
  exact hs
theorem sp_status {nb nn : Nat} {M u : xM} {r : Int32} (h : INV nb nn M) (hp : r = f_X10_status M ∧ u = M) : PX11 u ∧ ∀ (r2 : Int32) (u2 : xM), (r2, u2) = f_X11_status u → r = r2 ∧ INV nb nn u2 := by
  obtain ⟨hp, hu⟩ := hp
  subst hu
  have hs := s_status h
  rw [← hp] at hs
  refine ⟨h.px, fun r2 u2 h2 => ?_⟩
  rw [← h2] at hs
  exact hs
section LAW
variable {p : Program} {l : Launch} {e : Env} {s : State} {m : MethodId} {below : List Frame} {meth : Method} {c : Code} {b N : Nat} {xs : Nat → Int32} {H : Heap} {locs : List Loc} {cells slots : Nat} {Q : State → Prop} {ls : Array Slot} {rest : List Value} {q1 q2 : Nat} {x : Int32}
abbrev lwA (s : State) : Nat → Prop := fun q => s.heap.size ≤ q
abbrev lwL (b q1 q2 : Nat) (x : Int32) : List (Nat × Value) := [(0, .ref b), (1, .ref q1), (2, .ref q2), (3, .int x)]
def lwN (N : Nat) (x : Int32) : Prop := vp_in (x + 1) N ∧ vp_in (x + 2) N ∧ vp_in (x + 3) N ∧ vp_in (x + 4) N ∧ vp_in (x + 5) N ∧ vp_in (x + 6) N
/-- what holds at the head of the law's loop: the world, and class and reference tied to each other -/
def lwI (s : State) (q1 q2 : Nat) (H : Heap) (locs : List Loc) : Prop := ∃ (g : xG) (L : List (Nat × Nat)) (M : xM) (nb nn : Nat), xK g s ∧ xAm g s s.heap ∧ xlo g = s.heap.size ∧ xD g L ∧ xP g L M H ∧ xEQ nb nn L ∧ INV nb nn M ∧ va_S (lwA s) s.heap H locs ∧ xad g 0 0 = q1 ∧ xad g 40 0 = q2
theorem lw_lo {g : xG} {L : List (Nat × Nat)} (hD : xD g L) (hlo : xlo g = s.heap.size) : ∀ q, xA g L s.heap.size q → lwA s q := fun q h => by
  have := xA_lo hD (Nat.le_of_eq hlo) q h
  show s.heap.size ≤ q
  rw [← hlo]; exact this
theorem lw_arg (C0 : lw_At p s m meth c b N xs) (hS : va_S (lwA s) s.heap H locs) (hl : lv_has ls 4 (lwL b q1 q2 x)) {pc : Nat} {n : Int} {j a : Int32} (hin : vp_in (x + j) N) (ha : xs (x + j).toNatClampNeg = a) (hj : Int32.ofInt n = j) (d1 : decode cL_law pc = .ok (.aload_n 0, 1)) (d2 : decode cL_law (pc + 1) = .ok (.iload_n 3, 1)) (d3 : decode cL_law (pc + 2) = .ok (.iconst n, 1)) (d4 : decode cL_law (pc + 3) = .ok (.iadd, 1)) (d5 : decode cL_law (pc + 4) = .ok (.iaload, 1)) (kk : W p l e room_1 s m #[Value.ref b] below meth c H locs cells slots Q (F0 m (pc + 5) ls (.int a :: rest))) : W p l e room_1 s m #[Value.ref b] below meth c H locs cells slots Q (F0 m pc ls rest) := by
  obtain ⟨hx, hb, hr, hml, hown, hts, hX, hbl, hlocks, hgv⟩ := C0
  subst ha
  refine lv_aload_n hx hb d1 rfl (lv_at hl 0 rfl) ?_
  refine lv_iload_n hx hb d2 rfl (lv_at hl 3 rfl) ?_
  refine lv_iconst (v := j) hx hb d3 hj ?_
  refine lv_iadd hx hb d4 ?_
  exact va_sld hx hb hX hbl (Nat.not_le.mpr hbl) hS hin d5 kk
theorem lw_arg6 (C0 : lw_At p s m meth c b N xs) (hS : va_S (lwA s) s.heap H locs) (hl : lv_has ls 4 (lwL b q1 q2 x)) {pc : Nat} {n : Int} {j a : Int32} (hin : vp_in (x + j) N) (ha : xs (x + j).toNatClampNeg = a) (hj : (Int8.ofInt n).toInt32 = j) (d1 : decode cL_law pc = .ok (.aload_n 0, 1)) (d2 : decode cL_law (pc + 1) = .ok (.iload_n 3, 1)) (d3 : decode cL_law (pc + 2) = .ok (.bipush n, 2)) (d4 : decode cL_law (pc + 4) = .ok (.iadd, 1)) (d5 : decode cL_law (pc + 5) = .ok (.iaload, 1)) (kk : W p l e room_1 s m #[Value.ref b] below meth c H locs cells slots Q (F0 m (pc + 6) ls (.int a :: rest))) : W p l e room_1 s m #[Value.ref b] below meth c H locs cells slots Q (F0 m pc ls rest) := by
  obtain ⟨hx, hb, hr, hml, hown, hts, hX, hbl, hlocks, hgv⟩ := C0
  subst ha
  refine lv_aload_n hx hb d1 rfl (lv_at hl 0 rfl) ?_
  refine lv_iload_n hx hb d2 rfl (lv_at hl 3 rfl) ?_
  refine lv_bipush (v := j) hx hb d3 hj ?_
  refine lv_iadd hx hb d4 ?_
  exact va_sld hx hb hX hbl (Nat.not_le.mpr hbl) hS hin d5 kk
theorem x_cwVG {R : Room} {args : Array Value} {own C : String} {index maxL n mc ms : Nat} {y : MethodName} {bb : ByteArray} {ret : Option FieldType} {rm : Room} {c0 : Cond} (ht : ∀ w ∈ c0 :: wsL_law, w.before args s = true) (h : xMV C y bb maxL ret n) (hl : Cond.methodLink own index y ∈ wsL_law) (hrc : rm.cells = mc) (hrs : rm.slots = ms) (hR : rm.frames + 1 ≤ R.frames ∧ 8 + (maxL + 11) + rm.locals ≤ R.locals) : CallW R s args own C index y bb maxL ret (xws y bb maxL ret) rm mc ms n := by
  obtain ⟨h1, h2, h3, h4, h5⟩ := h
  refine cwV n ht (fun w hw => ?_) rfl hrc hrs h5 hR
  have hm : w ∈ wsL_law := by
    unfold wsV at hw
    rcases List.mem_append.mp hw with q | q
    · simp only [List.mem_cons, List.not_mem_nil, or_false] at q
      rcases q with q | q | q | q <;> (subst q; assumption)
    · rcases List.mem_cons.mp q with q | q
      · subst q; exact h4
      · exact q
  exact ⟨List.mem_cons_of_mem _ hm, xgood hm⟩
set_option maxRecDepth 100000 in
theorem lw_c0 (C0 : lw_At p s m meth c b N xs) (I : lwI s q1 q2 H locs) (hl : lv_has ls 4 (lwL b q1 q2 x)) (hj : lwN N x) (hc : cells + 3 ≤ 600000) (hs : slots + 37 ≤ 7302250) (K : ∀ (H : Heap) (locs : List Loc), lwI s q1 q2 H locs → W p l e room_1 s m #[Value.ref b] below meth c H locs (cells + 3) (slots + 37) Q (F0 m 1448 ls [])) : W p l e room_1 s m #[Value.ref b] below meth c H locs cells slots Q (F0 m 184 ls []) := by
  obtain ⟨g, L, M, nb, nn, hK, hAm, hlo, hD, hP, hQ, hI, hS, e1, e2⟩ := I
  obtain ⟨hx, hb, hr, hml, hown, hts, hX, hbl, hlocks, hgv⟩ := id C0
  have hcs : cells ≤ room_1.cells ∧ slots ≤ room_1.slots := ⟨Nat.le_trans (Nat.le_add_right _ _) hc, Nat.le_trans (Nat.le_add_right _ _) hs⟩
  obtain ⟨a1, ha1⟩ : ∃ z : Int32, xs (x + 1).toNatClampNeg = z := ⟨_, rfl⟩
  obtain ⟨a2, ha2⟩ : ∃ z : Int32, xs (x + 2).toNatClampNeg = z := ⟨_, rfl⟩
  obtain ⟨a3, ha3⟩ : ∃ z : Int32, xs (x + 3).toNatClampNeg = z := ⟨_, rfl⟩
  refine lv_aload_n hx hb dL_law_184 rfl (lv_at hl 1 rfl) ?_
  refine lw_arg C0 hS hl hj.1 ha1 (by decide) dL_law_185 dL_law_186 dL_law_187 dL_law_188 dL_law_189 ?_
  refine lw_arg C0 hS hl hj.2.1 ha2 (by decide) dL_law_190 dL_law_191 dL_law_192 dL_law_193 dL_law_194 ?_
  refine lw_arg C0 hS hl hj.2.2.1 ha3 (by decide) dL_law_195 dL_law_196 dL_law_197 dL_law_198 dL_law_199 ?_
  refine x_callVi (own := RL) (c0 := Cond.initialized RX10) (As := [.int a1, .int a2, .int a3]) (rest := []) ⟨hx, hb, hml, hown, lw_ok hts⟩ hK hAm hD hP (va_S.mono (fun q h => Or.inr h) hS) mt_X10_sheet wd_170 ⟨Nat.le_of_ble_eq_true rfl, Nat.le_of_ble_eq_true rfl⟩ (hQ.el 0 0 (xe_0 _ _)) (xc0 g 0) rfl (c_X10_sheet l nb nn g L M hD hQ.el a1 a2 a3 hI.hs) rfl hl.1 (Nat.le_of_ble_eq_true rfl) hcs dL_law_200 (by rw [e1]; rfl) (fun r u H locs hp hP hS => ?_)
  have hS := va_S.mono (lw_lo hD hlo) hS
  obtain ⟨hq, hfin⟩ := sp_sheet hI a1 a2 a3 hp
  refine lv_aload_n hx hb dL_law_203 rfl (lv_at hl 2 rfl) ?_
  refine lw_arg C0 hS hl hj.1 ha1 (by decide) dL_law_204 dL_law_205 dL_law_206 dL_law_207 dL_law_208 ?_
  refine lw_arg C0 hS hl hj.2.1 ha2 (by decide) dL_law_209 dL_law_210 dL_law_211 dL_law_212 dL_law_213 ?_
  refine lw_arg C0 hS hl hj.2.2.1 ha3 (by decide) dL_law_214 dL_law_215 dL_law_216 dL_law_217 dL_law_218 ?_
  refine x_callVi (own := RL) (c0 := Cond.initialized RX10) (As := [.int a1, .int a2, .int a3]) (rest := [.int r]) ⟨hx, hb, hml, hown, lw_ok hts⟩ hK hAm hD hP (va_S.mono (fun q h => Or.inr h) hS) mt_X11_sheet wd_196 ⟨Nat.le_of_ble_eq_true rfl, Nat.le_of_ble_eq_true rfl⟩ (hQ.el 40 0 (xe_40 _ _)) (xc40 g 0) rfl (c_X11_sheet l nb nn g L u hD hQ.el a1 a2 a3 ) rfl hl.1 (Nat.le_of_ble_eq_true rfl) hcs dL_law_219 (by rw [e2]; rfl) (fun r2 u2 H locs hp2 hP hS => ?_)
  obtain ⟨er, hI2⟩ := hfin r2 u2 hp2
  refine lv_icmp_eq (tgt := 1448) hx hb dL_law_222 (by decide) (fun _ => ?_) (fun q => absurd er q)
  exact W.widen (Nat.le_add_right _ _) (Nat.le_add_right _ _) (K _ _ ⟨g, L, u2, nb, nn, hK, hAm, hlo, hD, hP, hQ, hI2, va_S.mono (lw_lo hD hlo) hS, e1, e2⟩)
set_option maxRecDepth 100000 in
theorem lw_c1 (C0 : lw_At p s m meth c b N xs) (I : lwI s q1 q2 H locs) (hl : lv_has ls 4 (lwL b q1 q2 x)) (hj : lwN N x) (hc : cells + 3 ≤ 600000) (hs : slots + 37 ≤ 7302250) (K : ∀ (H : Heap) (locs : List Loc), lwI s q1 q2 H locs → W p l e room_1 s m #[Value.ref b] below meth c H locs (cells + 3) (slots + 37) Q (F0 m 1448 ls [])) : W p l e room_1 s m #[Value.ref b] below meth c H locs cells slots Q (F0 m 227 ls []) := by
  obtain ⟨g, L, M, nb, nn, hK, hAm, hlo, hD, hP, hQ, hI, hS, e1, e2⟩ := I
  obtain ⟨hx, hb, hr, hml, hown, hts, hX, hbl, hlocks, hgv⟩ := id C0
  have hcs : cells ≤ room_1.cells ∧ slots ≤ room_1.slots := ⟨Nat.le_trans (Nat.le_add_right _ _) hc, Nat.le_trans (Nat.le_add_right _ _) hs⟩
  obtain ⟨a1, ha1⟩ : ∃ z : Int32, xs (x + 1).toNatClampNeg = z := ⟨_, rfl⟩
  obtain ⟨a2, ha2⟩ : ∃ z : Int32, xs (x + 2).toNatClampNeg = z := ⟨_, rfl⟩
  obtain ⟨a3, ha3⟩ : ∃ z : Int32, xs (x + 3).toNatClampNeg = z := ⟨_, rfl⟩
  refine lv_aload_n hx hb dL_law_227 rfl (lv_at hl 1 rfl) ?_
  refine lw_arg C0 hS hl hj.1 ha1 (by decide) dL_law_228 dL_law_229 dL_law_230 dL_law_231 dL_law_232 ?_
  refine lw_arg C0 hS hl hj.2.1 ha2 (by decide) dL_law_233 dL_law_234 dL_law_235 dL_law_236 dL_law_237 ?_
  refine lw_arg C0 hS hl hj.2.2.1 ha3 (by decide) dL_law_238 dL_law_239 dL_law_240 dL_law_241 dL_law_242 ?_
  refine x_callVi (own := RL) (c0 := Cond.initialized RX10) (As := [.int a1, .int a2, .int a3]) (rest := []) ⟨hx, hb, hml, hown, lw_ok hts⟩ hK hAm hD hP (va_S.mono (fun q h => Or.inr h) hS) mt_X10_set wd_216 ⟨Nat.le_of_ble_eq_true rfl, Nat.le_of_ble_eq_true rfl⟩ (hQ.el 0 0 (xe_0 _ _)) (xc0 g 0) rfl (c_X10_set l nb nn g L M hD hQ.el a1 a2 a3 hI.hs hI.sh.1) rfl hl.1 (Nat.le_of_ble_eq_true rfl) hcs dL_law_243 (by rw [e1]; rfl) (fun r u H locs hp hP hS => ?_)
  have hS := va_S.mono (lw_lo hD hlo) hS
  obtain ⟨hq, hfin⟩ := sp_set hI a1 a2 a3 hp
  refine lv_aload_n hx hb dL_law_246 rfl (lv_at hl 2 rfl) ?_
  refine lw_arg C0 hS hl hj.1 ha1 (by decide) dL_law_247 dL_law_248 dL_law_249 dL_law_250 dL_law_251 ?_
  refine lw_arg C0 hS hl hj.2.1 ha2 (by decide) dL_law_252 dL_law_253 dL_law_254 dL_law_255 dL_law_256 ?_
  refine lw_arg C0 hS hl hj.2.2.1 ha3 (by decide) dL_law_257 dL_law_258 dL_law_259 dL_law_260 dL_law_261 ?_
  refine x_callVi (own := RL) (c0 := Cond.initialized RX10) (As := [.int a1, .int a2, .int a3]) (rest := [.int r]) ⟨hx, hb, hml, hown, lw_ok hts⟩ hK hAm hD hP (va_S.mono (fun q h => Or.inr h) hS) mt_X11_set wd_233 ⟨Nat.le_of_ble_eq_true rfl, Nat.le_of_ble_eq_true rfl⟩ (hQ.el 40 0 (xe_40 _ _)) (xc40 g 0) rfl (c_X11_set l nb nn g L u hD hQ.el a1 a2 a3 hq.1) rfl hl.1 (Nat.le_of_ble_eq_true rfl) hcs dL_law_262 (by rw [e2]; rfl) (fun r2 u2 H locs hp2 hP hS => ?_)
  obtain ⟨er, hI2⟩ := hfin r2 u2 hp2
  refine lv_icmp_eq (tgt := 1448) hx hb dL_law_265 (by decide) (fun _ => ?_) (fun q => absurd er q)
  exact W.widen (Nat.le_add_right _ _) (Nat.le_add_right _ _) (K _ _ ⟨g, L, u2, nb, nn, hK, hAm, hlo, hD, hP, hQ, hI2, va_S.mono (lw_lo hD hlo) hS, e1, e2⟩)
set_option maxRecDepth 100000 in
theorem lw_c2 (C0 : lw_At p s m meth c b N xs) (I : lwI s q1 q2 H locs) (hl : lv_has ls 4 (lwL b q1 q2 x)) (hj : lwN N x) (hc : cells + 3 ≤ 600000) (hs : slots + 37 ≤ 7302250) (K : ∀ (H : Heap) (locs : List Loc), lwI s q1 q2 H locs → W p l e room_1 s m #[Value.ref b] below meth c H locs (cells + 3) (slots + 37) Q (F0 m 1448 ls [])) : W p l e room_1 s m #[Value.ref b] below meth c H locs cells slots Q (F0 m 270 ls []) := by
  obtain ⟨g, L, M, nb, nn, hK, hAm, hlo, hD, hP, hQ, hI, hS, e1, e2⟩ := I
  obtain ⟨hx, hb, hr, hml, hown, hts, hX, hbl, hlocks, hgv⟩ := id C0
  have hcs : cells ≤ room_1.cells ∧ slots ≤ room_1.slots := ⟨Nat.le_trans (Nat.le_add_right _ _) hc, Nat.le_trans (Nat.le_add_right _ _) hs⟩
  obtain ⟨a1, ha1⟩ : ∃ z : Int32, xs (x + 1).toNatClampNeg = z := ⟨_, rfl⟩
  obtain ⟨a2, ha2⟩ : ∃ z : Int32, xs (x + 2).toNatClampNeg = z := ⟨_, rfl⟩
  obtain ⟨a3, ha3⟩ : ∃ z : Int32, xs (x + 3).toNatClampNeg = z := ⟨_, rfl⟩
  obtain ⟨a4, ha4⟩ : ∃ z : Int32, xs (x + 4).toNatClampNeg = z := ⟨_, rfl⟩
  obtain ⟨a5, ha5⟩ : ∃ z : Int32, xs (x + 5).toNatClampNeg = z := ⟨_, rfl⟩
  refine lv_aload_n hx hb dL_law_270 rfl (lv_at hl 1 rfl) ?_
  refine lw_arg C0 hS hl hj.1 ha1 (by decide) dL_law_271 dL_law_272 dL_law_273 dL_law_274 dL_law_275 ?_
  refine lw_arg C0 hS hl hj.2.1 ha2 (by decide) dL_law_276 dL_law_277 dL_law_278 dL_law_279 dL_law_280 ?_
  refine lw_arg C0 hS hl hj.2.2.1 ha3 (by decide) dL_law_281 dL_law_282 dL_law_283 dL_law_284 dL_law_285 ?_
  refine lw_arg C0 hS hl hj.2.2.2.1 ha4 (by decide) dL_law_286 dL_law_287 dL_law_288 dL_law_289 dL_law_290 ?_
  refine lw_arg C0 hS hl hj.2.2.2.2.1 ha5 (by decide) dL_law_291 dL_law_292 dL_law_293 dL_law_294 dL_law_295 ?_
  refine x_callVi (own := RL) (c0 := Cond.initialized RX10) (As := [.int a1, .int a2, .int a3, .int a4, .int a5]) (rest := []) ⟨hx, hb, hml, hown, lw_ok hts⟩ hK hAm hD hP (va_S.mono (fun q h => Or.inr h) hS) mt_X10_copy wd_237 ⟨Nat.le_of_ble_eq_true rfl, Nat.le_of_ble_eq_true rfl⟩ (hQ.el 0 0 (xe_0 _ _)) (xc0 g 0) rfl (c_X10_copy l nb nn g L M hD hQ.el a1 a2 a3 a4 a5 hI.hs hI.sh.1) rfl hl.1 (Nat.le_of_ble_eq_true rfl) hcs dL_law_296 (by rw [e1]; rfl) (fun r u H locs hp hP hS => ?_)
  have hS := va_S.mono (lw_lo hD hlo) hS
  obtain ⟨hq, hfin⟩ := sp_copy hI a1 a2 a3 a4 a5 hp
  refine lv_aload_n hx hb dL_law_299 rfl (lv_at hl 2 rfl) ?_
  refine lw_arg C0 hS hl hj.1 ha1 (by decide) dL_law_300 dL_law_301 dL_law_302 dL_law_303 dL_law_304 ?_
  refine lw_arg C0 hS hl hj.2.1 ha2 (by decide) dL_law_305 dL_law_306 dL_law_307 dL_law_308 dL_law_309 ?_
  refine lw_arg C0 hS hl hj.2.2.1 ha3 (by decide) dL_law_310 dL_law_311 dL_law_312 dL_law_313 dL_law_314 ?_
  refine lw_arg C0 hS hl hj.2.2.2.1 ha4 (by decide) dL_law_315 dL_law_316 dL_law_317 dL_law_318 dL_law_319 ?_
  refine lw_arg C0 hS hl hj.2.2.2.2.1 ha5 (by decide) dL_law_320 dL_law_321 dL_law_322 dL_law_323 dL_law_324 ?_
  refine x_callVi (own := RL) (c0 := Cond.initialized RX10) (As := [.int a1, .int a2, .int a3, .int a4, .int a5]) (rest := [.int r]) ⟨hx, hb, hml, hown, lw_ok hts⟩ hK hAm hD hP (va_S.mono (fun q h => Or.inr h) hS) mt_X11_copy wd_247 ⟨Nat.le_of_ble_eq_true rfl, Nat.le_of_ble_eq_true rfl⟩ (hQ.el 40 0 (xe_40 _ _)) (xc40 g 0) rfl (c_X11_copy l nb nn g L u hD hQ.el a1 a2 a3 a4 a5 hq.1) rfl hl.1 (Nat.le_of_ble_eq_true rfl) hcs dL_law_325 (by rw [e2]; rfl) (fun r2 u2 H locs hp2 hP hS => ?_)
  obtain ⟨er, hI2⟩ := hfin r2 u2 hp2
  refine lv_icmp_eq (tgt := 1448) hx hb dL_law_328 (by decide) (fun _ => ?_) (fun q => absurd er q)
  exact W.widen (Nat.le_add_right _ _) (Nat.le_add_right _ _) (K _ _ ⟨g, L, u2, nb, nn, hK, hAm, hlo, hD, hP, hQ, hI2, va_S.mono (lw_lo hD hlo) hS, e1, e2⟩)
set_option maxRecDepth 100000 in
theorem lw_c3 (C0 : lw_At p s m meth c b N xs) (I : lwI s q1 q2 H locs) (hl : lv_has ls 4 (lwL b q1 q2 x)) (hj : lwN N x) (hc : cells + 3 ≤ 600000) (hs : slots + 37 ≤ 7302250) (K : ∀ (H : Heap) (locs : List Loc), lwI s q1 q2 H locs → W p l e room_1 s m #[Value.ref b] below meth c H locs (cells + 3) (slots + 37) Q (F0 m 1448 ls [])) : W p l e room_1 s m #[Value.ref b] below meth c H locs cells slots Q (F0 m 333 ls []) := by
  obtain ⟨g, L, M, nb, nn, hK, hAm, hlo, hD, hP, hQ, hI, hS, e1, e2⟩ := I
  obtain ⟨hx, hb, hr, hml, hown, hts, hX, hbl, hlocks, hgv⟩ := id C0
  have hcs : cells ≤ room_1.cells ∧ slots ≤ room_1.slots := ⟨Nat.le_trans (Nat.le_add_right _ _) hc, Nat.le_trans (Nat.le_add_right _ _) hs⟩
  obtain ⟨a1, ha1⟩ : ∃ z : Int32, xs (x + 1).toNatClampNeg = z := ⟨_, rfl⟩
  refine lv_aload_n hx hb dL_law_333 rfl (lv_at hl 1 rfl) ?_
  refine lw_arg C0 hS hl hj.1 ha1 (by decide) dL_law_334 dL_law_335 dL_law_336 dL_law_337 dL_law_338 ?_
  refine x_callVi (own := RL) (c0 := Cond.initialized RX10) (As := [.int a1]) (rest := []) ⟨hx, hb, hml, hown, lw_ok hts⟩ hK hAm hD hP (va_S.mono (fun q h => Or.inr h) hS) mt_X10_drop wd_251 ⟨Nat.le_of_ble_eq_true rfl, Nat.le_of_ble_eq_true rfl⟩ (hQ.el 0 0 (xe_0 _ _)) (xc0 g 0) rfl (c_X10_drop l nb nn g L M hD hQ.el a1 hI.hs) rfl hl.1 (Nat.le_of_ble_eq_true rfl) hcs dL_law_339 (by rw [e1]; rfl) (fun r u H locs hp hP hS => ?_)
  have hS := va_S.mono (lw_lo hD hlo) hS
  obtain ⟨hq, hfin⟩ := sp_drop hI a1 hp
  refine lv_aload_n hx hb dL_law_342 rfl (lv_at hl 2 rfl) ?_
  refine lw_arg C0 hS hl hj.1 ha1 (by decide) dL_law_343 dL_law_344 dL_law_345 dL_law_346 dL_law_347 ?_
  refine x_callVi (own := RL) (c0 := Cond.initialized RX10) (As := [.int a1]) (rest := [.int r]) ⟨hx, hb, hml, hown, lw_ok hts⟩ hK hAm hD hP (va_S.mono (fun q h => Or.inr h) hS) mt_X11_drop wd_260 ⟨Nat.le_of_ble_eq_true rfl, Nat.le_of_ble_eq_true rfl⟩ (hQ.el 40 0 (xe_40 _ _)) (xc40 g 0) rfl (c_X11_drop l nb nn g L u hD hQ.el a1 ) rfl hl.1 (Nat.le_of_ble_eq_true rfl) hcs dL_law_348 (by rw [e2]; rfl) (fun r2 u2 H locs hp2 hP hS => ?_)
  obtain ⟨er, hI2⟩ := hfin r2 u2 hp2
  refine lv_icmp_eq (tgt := 1448) hx hb dL_law_351 (by decide) (fun _ => ?_) (fun q => absurd er q)
  exact W.widen (Nat.le_add_right _ _) (Nat.le_add_right _ _) (K _ _ ⟨g, L, u2, nb, nn, hK, hAm, hlo, hD, hP, hQ, hI2, va_S.mono (lw_lo hD hlo) hS, e1, e2⟩)
set_option maxRecDepth 100000 in
theorem lw_c4 (C0 : lw_At p s m meth c b N xs) (I : lwI s q1 q2 H locs) (hl : lv_has ls 4 (lwL b q1 q2 x)) (hj : lwN N x) (hc : cells + 3 ≤ 600000) (hs : slots + 37 ≤ 7302250) (K : ∀ (H : Heap) (locs : List Loc), lwI s q1 q2 H locs → W p l e room_1 s m #[Value.ref b] below meth c H locs (cells + 3) (slots + 37) Q (F0 m 1448 ls [])) : W p l e room_1 s m #[Value.ref b] below meth c H locs cells slots Q (F0 m 356 ls []) := by
  obtain ⟨g, L, M, nb, nn, hK, hAm, hlo, hD, hP, hQ, hI, hS, e1, e2⟩ := I
  obtain ⟨hx, hb, hr, hml, hown, hts, hX, hbl, hlocks, hgv⟩ := id C0
  have hcs : cells ≤ room_1.cells ∧ slots ≤ room_1.slots := ⟨Nat.le_trans (Nat.le_add_right _ _) hc, Nat.le_trans (Nat.le_add_right _ _) hs⟩
  obtain ⟨a1, ha1⟩ : ∃ z : Int32, xs (x + 1).toNatClampNeg = z := ⟨_, rfl⟩
  obtain ⟨a2, ha2⟩ : ∃ z : Int32, xs (x + 2).toNatClampNeg = z := ⟨_, rfl⟩
  obtain ⟨a3, ha3⟩ : ∃ z : Int32, xs (x + 3).toNatClampNeg = z := ⟨_, rfl⟩
  refine lv_aload_n hx hb dL_law_356 rfl (lv_at hl 1 rfl) ?_
  refine lw_arg C0 hS hl hj.1 ha1 (by decide) dL_law_357 dL_law_358 dL_law_359 dL_law_360 dL_law_361 ?_
  refine lw_arg C0 hS hl hj.2.1 ha2 (by decide) dL_law_362 dL_law_363 dL_law_364 dL_law_365 dL_law_366 ?_
  refine lw_arg C0 hS hl hj.2.2.1 ha3 (by decide) dL_law_367 dL_law_368 dL_law_369 dL_law_370 dL_law_371 ?_
  refine x_callVi (own := RL) (c0 := Cond.initialized RX10) (As := [.int a1, .int a2, .int a3]) (rest := []) ⟨hx, hb, hml, hown, lw_ok hts⟩ hK hAm hD hP (va_S.mono (fun q h => Or.inr h) hS) mt_X10_road wd_264 ⟨Nat.le_of_ble_eq_true rfl, Nat.le_of_ble_eq_true rfl⟩ (hQ.el 0 0 (xe_0 _ _)) (xc0 g 0) rfl (c_X10_road l nb nn g L M hD hQ.el a1 a2 a3 ) rfl hl.1 (Nat.le_of_ble_eq_true rfl) hcs dL_law_372 (by rw [e1]; rfl) (fun r u H locs hp hP hS => ?_)
  have hS := va_S.mono (lw_lo hD hlo) hS
  obtain ⟨hq, hfin⟩ := sp_road hI a1 a2 a3 hp
  refine lv_aload_n hx hb dL_law_375 rfl (lv_at hl 2 rfl) ?_
  refine lw_arg C0 hS hl hj.1 ha1 (by decide) dL_law_376 dL_law_377 dL_law_378 dL_law_379 dL_law_380 ?_
  refine lw_arg C0 hS hl hj.2.1 ha2 (by decide) dL_law_381 dL_law_382 dL_law_383 dL_law_384 dL_law_385 ?_
  refine lw_arg C0 hS hl hj.2.2.1 ha3 (by decide) dL_law_386 dL_law_387 dL_law_388 dL_law_389 dL_law_390 ?_
  refine x_callVi (own := RL) (c0 := Cond.initialized RX10) (As := [.int a1, .int a2, .int a3]) (rest := [.int r]) ⟨hx, hb, hml, hown, lw_ok hts⟩ hK hAm hD hP (va_S.mono (fun q h => Or.inr h) hS) mt_X11_road wd_276 ⟨Nat.le_of_ble_eq_true rfl, Nat.le_of_ble_eq_true rfl⟩ (hQ.el 40 0 (xe_40 _ _)) (xc40 g 0) rfl (c_X11_road l nb nn g L u hD hQ.el a1 a2 a3 ) rfl hl.1 (Nat.le_of_ble_eq_true rfl) hcs dL_law_391 (by rw [e2]; rfl) (fun r2 u2 H locs hp2 hP hS => ?_)
  obtain ⟨er, hI2⟩ := hfin r2 u2 hp2
  refine lv_icmp_eq (tgt := 1448) hx hb dL_law_394 (by decide) (fun _ => ?_) (fun q => absurd er q)
  exact W.widen (Nat.le_add_right _ _) (Nat.le_add_right _ _) (K _ _ ⟨g, L, u2, nb, nn, hK, hAm, hlo, hD, hP, hQ, hI2, va_S.mono (lw_lo hD hlo) hS, e1, e2⟩)
set_option maxRecDepth 100000 in
theorem lw_c5 (C0 : lw_At p s m meth c b N xs) (I : lwI s q1 q2 H locs) (hl : lv_has ls 4 (lwL b q1 q2 x)) (hj : lwN N x) (hc : cells + 3 ≤ 600000) (hs : slots + 37 ≤ 7302250) (K : ∀ (H : Heap) (locs : List Loc), lwI s q1 q2 H locs → W p l e room_1 s m #[Value.ref b] below meth c H locs (cells + 3) (slots + 37) Q (F0 m 1448 ls [])) : W p l e room_1 s m #[Value.ref b] below meth c H locs cells slots Q (F0 m 399 ls []) := by
  obtain ⟨g, L, M, nb, nn, hK, hAm, hlo, hD, hP, hQ, hI, hS, e1, e2⟩ := I
  obtain ⟨hx, hb, hr, hml, hown, hts, hX, hbl, hlocks, hgv⟩ := id C0
  have hcs : cells ≤ room_1.cells ∧ slots ≤ room_1.slots := ⟨Nat.le_trans (Nat.le_add_right _ _) hc, Nat.le_trans (Nat.le_add_right _ _) hs⟩
  obtain ⟨a1, ha1⟩ : ∃ z : Int32, xs (x + 1).toNatClampNeg = z := ⟨_, rfl⟩
  obtain ⟨a2, ha2⟩ : ∃ z : Int32, xs (x + 2).toNatClampNeg = z := ⟨_, rfl⟩
  refine lv_aload_n hx hb dL_law_399 rfl (lv_at hl 1 rfl) ?_
  refine lw_arg C0 hS hl hj.1 ha1 (by decide) dL_law_400 dL_law_401 dL_law_402 dL_law_403 dL_law_404 ?_
  refine lw_arg C0 hS hl hj.2.1 ha2 (by decide) dL_law_405 dL_law_406 dL_law_407 dL_law_408 dL_law_409 ?_
  refine x_callVi (own := RL) (c0 := Cond.initialized RX10) (As := [.int a1, .int a2]) (rest := []) ⟨hx, hb, hml, hown, lw_ok hts⟩ hK hAm hD hP (va_S.mono (fun q h => Or.inr h) hS) mt_X10_far wd_285 ⟨Nat.le_of_ble_eq_true rfl, Nat.le_of_ble_eq_true rfl⟩ (hQ.el 0 0 (xe_0 _ _)) (xc0 g 0) rfl (c_X10_far l nb nn g L M hD hQ.el a1 a2 ) rfl hl.1 (Nat.le_of_ble_eq_true rfl) hcs dL_law_410 (by rw [e1]; rfl) (fun r u H locs hp hP hS => ?_)
  have hS := va_S.mono (lw_lo hD hlo) hS
  obtain ⟨hq, hfin⟩ := sp_far hI a1 a2 hp
  refine lv_aload_n hx hb dL_law_413 rfl (lv_at hl 2 rfl) ?_
  refine lw_arg C0 hS hl hj.1 ha1 (by decide) dL_law_414 dL_law_415 dL_law_416 dL_law_417 dL_law_418 ?_
  refine lw_arg C0 hS hl hj.2.1 ha2 (by decide) dL_law_419 dL_law_420 dL_law_421 dL_law_422 dL_law_423 ?_
  refine x_callVi (own := RL) (c0 := Cond.initialized RX10) (As := [.int a1, .int a2]) (rest := [.int r]) ⟨hx, hb, hml, hown, lw_ok hts⟩ hK hAm hD hP (va_S.mono (fun q h => Or.inr h) hS) mt_X11_far wd_294 ⟨Nat.le_of_ble_eq_true rfl, Nat.le_of_ble_eq_true rfl⟩ (hQ.el 40 0 (xe_40 _ _)) (xc40 g 0) rfl (c_X11_far l nb nn g L u hD hQ.el a1 a2 ) rfl hl.1 (Nat.le_of_ble_eq_true rfl) hcs dL_law_424 (by rw [e2]; rfl) (fun r2 u2 H locs hp2 hP hS => ?_)
  obtain ⟨er, hI2⟩ := hfin r2 u2 hp2
  refine lv_icmp_eq (tgt := 1448) hx hb dL_law_427 (by decide) (fun _ => ?_) (fun q => absurd er q)
  exact W.widen (Nat.le_add_right _ _) (Nat.le_add_right _ _) (K _ _ ⟨g, L, u2, nb, nn, hK, hAm, hlo, hD, hP, hQ, hI2, va_S.mono (lw_lo hD hlo) hS, e1, e2⟩)
set_option maxRecDepth 100000 in
theorem lw_c6 (C0 : lw_At p s m meth c b N xs) (I : lwI s q1 q2 H locs) (hl : lv_has ls 4 (lwL b q1 q2 x)) (hj : lwN N x) (hc : cells + 3 ≤ 600000) (hs : slots + 37 ≤ 7302250) (K : ∀ (H : Heap) (locs : List Loc), lwI s q1 q2 H locs → W p l e room_1 s m #[Value.ref b] below meth c H locs (cells + 3) (slots + 37) Q (F0 m 1448 ls [])) : W p l e room_1 s m #[Value.ref b] below meth c H locs cells slots Q (F0 m 432 ls []) := by
  obtain ⟨g, L, M, nb, nn, hK, hAm, hlo, hD, hP, hQ, hI, hS, e1, e2⟩ := I
  obtain ⟨hx, hb, hr, hml, hown, hts, hX, hbl, hlocks, hgv⟩ := id C0
  have hcs : cells ≤ room_1.cells ∧ slots ≤ room_1.slots := ⟨Nat.le_trans (Nat.le_add_right _ _) hc, Nat.le_trans (Nat.le_add_right _ _) hs⟩
  obtain ⟨a1, ha1⟩ : ∃ z : Int32, xs (x + 1).toNatClampNeg = z := ⟨_, rfl⟩
  obtain ⟨a2, ha2⟩ : ∃ z : Int32, xs (x + 2).toNatClampNeg = z := ⟨_, rfl⟩
  obtain ⟨a3, ha3⟩ : ∃ z : Int32, xs (x + 3).toNatClampNeg = z := ⟨_, rfl⟩
  refine lv_aload_n hx hb dL_law_432 rfl (lv_at hl 1 rfl) ?_
  refine lw_arg C0 hS hl hj.1 ha1 (by decide) dL_law_433 dL_law_434 dL_law_435 dL_law_436 dL_law_437 ?_
  refine lw_arg C0 hS hl hj.2.1 ha2 (by decide) dL_law_438 dL_law_439 dL_law_440 dL_law_441 dL_law_442 ?_
  refine lw_arg C0 hS hl hj.2.2.1 ha3 (by decide) dL_law_443 dL_law_444 dL_law_445 dL_law_446 dL_law_447 ?_
  have hS9 : va_S (xA g L s.heap.size) s.heap H locs := va_S.mono (fun q h => Or.inr h) hS
  have hpre := x_preS hK hAm hD hP hS9 (av := [.ref (xad g 0 0), .int a1, .int a2, .int a3])
  refine W.eq (g2 := F0 m 448 ls [.int a3, .int a2, .int a1, .ref (xad g 0 0)]) (by rw [e1]) ?_
  refine va_calli (va_runV (As := [.int a1, .int a2, .int a3]) (rest := []) ⟨hx, hb, hml, hown, lw_ok hts⟩ (c_X10_bank l nb nn g L M hD hQ a1 a2 a3 hI.hb (hI.ob.2.2.2.2.2.2.2.2.1 nb (Nat.le_refl nb)) H.size) (x_cwVG (lw_ok hts) mt_X10_bank wd_303 rfl rfl ⟨Nat.le_of_ble_eq_true rfl, Nat.le_of_ble_eq_true rfl⟩) ⟨hpre.1, x_recv hK hP (hQ.el 0 0 (xe_0 _ _)) (xc0 g 0) rfl, hpre.2⟩ rfl rfl hl.1 rfl (lv_room (Nat.le_of_ble_eq_true rfl)) dL_law_448 ⟨Nat.le_trans (Nat.add_le_add_left (Nat.le_of_ble_eq_true rfl) _) hc, Nat.le_trans (Nat.add_le_add_left (Nat.le_of_ble_eq_true rfl) _) hs⟩) hS9 (fun q _ h => xA_mono hS9.1 h) (fun q h => xA_mono hS9.1 h) (fun r u t H1 locs1 ht _ hp hB _ _ hS1 => ?_)
  obtain ⟨k2, hQ2, f1, f2, hq, hfin⟩ := sp_bank hI hQ a1 a2 a3 hp
  obtain ⟨hP2, hD2⟩ := hB
  rw [ht] at hP2
  obtain ⟨g2, hg2⟩ : ∃ z : xG, z = g.at u.1 := ⟨_, rfl⟩
  rw [← hg2] at hP2 hD2
  have hK2 : xK g2 s := by rw [hg2]; exact hK
  have hAm2 : xAm g2 s s.heap := by rw [hg2]; exact hAm
  have hlo2 : xlo g2 = s.heap.size := by rw [hg2]; exact hlo
  have e12 : xad g2 0 0 = q1 := by rw [hg2]; exact f1.trans e1
  have e22 : xad g2 40 0 = q2 := by rw [hg2]; exact f2.trans e2
  have hS := va_S.mono (lw_lo hD hlo) hS1
  have hcs2 : cells + 2 ≤ room_1.cells ∧ slots + 14 ≤ room_1.slots := ⟨Nat.le_trans (Nat.add_le_add_left (Nat.le_of_ble_eq_true rfl) _) hc, Nat.le_trans (Nat.add_le_add_left (Nat.le_of_ble_eq_true rfl) _) hs⟩
  refine lv_aload_n hx hb dL_law_451 rfl (lv_at hl 2 rfl) ?_
  refine lw_arg C0 hS hl hj.1 ha1 (by decide) dL_law_452 dL_law_453 dL_law_454 dL_law_455 dL_law_456 ?_
  refine lw_arg C0 hS hl hj.2.1 ha2 (by decide) dL_law_457 dL_law_458 dL_law_459 dL_law_460 dL_law_461 ?_
  refine lw_arg C0 hS hl hj.2.2.1 ha3 (by decide) dL_law_462 dL_law_463 dL_law_464 dL_law_465 dL_law_466 ?_
  refine x_callVi (own := RL) (c0 := Cond.initialized RX10) (As := [.int a1, .int a2, .int a3]) (rest := [.int r]) ⟨hx, hb, hml, hown, lw_ok hts⟩ hK2 hAm2 hD2 hP2 (va_S.mono (fun q h => Or.inr h) hS) mt_X11_bank wd_321 ⟨Nat.le_of_ble_eq_true rfl, Nat.le_of_ble_eq_true rfl⟩ (hQ2.el 40 0 (xe_40 _ _)) (xc40 g2 0) rfl (c_X11_bank l k2 nn g2 u.2.1 u.2.2 hD2 hQ2.el a1 a2 a3 hq.2.2.2.2.2.1 hq.2.2.2.2.2.2.1) rfl hl.1 (Nat.le_of_ble_eq_true rfl) hcs2 dL_law_467 (by rw [e22]; rfl) (fun r2 u2 H locs hp2 hP hS => ?_)
  obtain ⟨er, hI2⟩ := hfin r2 u2 hp2
  refine lv_icmp_eq (tgt := 1448) hx hb dL_law_470 (by decide) (fun _ => ?_) (fun q => absurd er q)
  exact W.widen (Nat.add_le_add_left (Nat.le_of_ble_eq_true rfl) _) (Nat.add_le_add_left (Nat.le_of_ble_eq_true rfl) _) (K _ _ ⟨g2, u.2.1, u2, k2, nn, hK2, hAm2, hlo2, hD2, hP, hQ2, hI2, va_S.mono (lw_lo hD2 hlo2) hS, e12, e22⟩)
set_option maxRecDepth 100000 in
theorem lw_c7 (C0 : lw_At p s m meth c b N xs) (I : lwI s q1 q2 H locs) (hl : lv_has ls 4 (lwL b q1 q2 x)) (hj : lwN N x) (hc : cells + 3 ≤ 600000) (hs : slots + 37 ≤ 7302250) (K : ∀ (H : Heap) (locs : List Loc), lwI s q1 q2 H locs → W p l e room_1 s m #[Value.ref b] below meth c H locs (cells + 3) (slots + 37) Q (F0 m 1448 ls [])) : W p l e room_1 s m #[Value.ref b] below meth c H locs cells slots Q (F0 m 475 ls []) := by
  obtain ⟨g, L, M, nb, nn, hK, hAm, hlo, hD, hP, hQ, hI, hS, e1, e2⟩ := I
  obtain ⟨hx, hb, hr, hml, hown, hts, hX, hbl, hlocks, hgv⟩ := id C0
  have hcs : cells ≤ room_1.cells ∧ slots ≤ room_1.slots := ⟨Nat.le_trans (Nat.le_add_right _ _) hc, Nat.le_trans (Nat.le_add_right _ _) hs⟩
  obtain ⟨a1, ha1⟩ : ∃ z : Int32, xs (x + 1).toNatClampNeg = z := ⟨_, rfl⟩
  obtain ⟨a2, ha2⟩ : ∃ z : Int32, xs (x + 2).toNatClampNeg = z := ⟨_, rfl⟩
  refine lv_aload_n hx hb dL_law_475 rfl (lv_at hl 1 rfl) ?_
  refine lw_arg C0 hS hl hj.1 ha1 (by decide) dL_law_476 dL_law_477 dL_law_478 dL_law_479 dL_law_480 ?_
  refine lw_arg C0 hS hl hj.2.1 ha2 (by decide) dL_law_481 dL_law_482 dL_law_483 dL_law_484 dL_law_485 ?_
  refine x_callVi (own := RL) (c0 := Cond.initialized RX10) (As := [.int a1, .int a2]) (rest := []) ⟨hx, hb, hml, hown, lw_ok hts⟩ hK hAm hD hP (va_S.mono (fun q h => Or.inr h) hS) mt_X10_house wd_329 ⟨Nat.le_of_ble_eq_true rfl, Nat.le_of_ble_eq_true rfl⟩ (hQ.el 0 0 (xe_0 _ _)) (xc0 g 0) rfl (c_X10_house l nb nn g L M hD hQ.el a1 a2 hI.hb) rfl hl.1 (Nat.le_of_ble_eq_true rfl) hcs dL_law_486 (by rw [e1]; rfl) (fun r u H locs hp hP hS => ?_)
  have hS := va_S.mono (lw_lo hD hlo) hS
  obtain ⟨hq, hfin⟩ := sp_house hI a1 a2 hp
  refine lv_aload_n hx hb dL_law_489 rfl (lv_at hl 2 rfl) ?_
  refine lw_arg C0 hS hl hj.1 ha1 (by decide) dL_law_490 dL_law_491 dL_law_492 dL_law_493 dL_law_494 ?_
  refine lw_arg C0 hS hl hj.2.1 ha2 (by decide) dL_law_495 dL_law_496 dL_law_497 dL_law_498 dL_law_499 ?_
  refine x_callVi (own := RL) (c0 := Cond.initialized RX10) (As := [.int a1, .int a2]) (rest := [.int r]) ⟨hx, hb, hml, hown, lw_ok hts⟩ hK hAm hD hP (va_S.mono (fun q h => Or.inr h) hS) mt_X11_house wd_342 ⟨Nat.le_of_ble_eq_true rfl, Nat.le_of_ble_eq_true rfl⟩ (hQ.el 40 0 (xe_40 _ _)) (xc40 g 0) rfl (c_X11_house l nb nn g L u hD hQ.el a1 a2 hq.2.2.2.2.2.1 hq.2.2.2.2.2.2.1) rfl hl.1 (Nat.le_of_ble_eq_true rfl) hcs dL_law_500 (by rw [e2]; rfl) (fun r2 u2 H locs hp2 hP hS => ?_)
  obtain ⟨er, hI2⟩ := hfin r2 u2 hp2
  refine lv_icmp_eq (tgt := 1448) hx hb dL_law_503 (by decide) (fun _ => ?_) (fun q => absurd er q)
  exact W.widen (Nat.le_add_right _ _) (Nat.le_add_right _ _) (K _ _ ⟨g, L, u2, nb, nn, hK, hAm, hlo, hD, hP, hQ, hI2, va_S.mono (lw_lo hD hlo) hS, e1, e2⟩)
set_option maxRecDepth 100000 in
theorem lw_c8 (C0 : lw_At p s m meth c b N xs) (I : lwI s q1 q2 H locs) (hl : lv_has ls 4 (lwL b q1 q2 x)) (hj : lwN N x) (hc : cells + 3 ≤ 600000) (hs : slots + 37 ≤ 7302250) (K : ∀ (H : Heap) (locs : List Loc), lwI s q1 q2 H locs → W p l e room_1 s m #[Value.ref b] below meth c H locs (cells + 3) (slots + 37) Q (F0 m 1448 ls [])) : W p l e room_1 s m #[Value.ref b] below meth c H locs cells slots Q (F0 m 508 ls []) := by
  obtain ⟨g, L, M, nb, nn, hK, hAm, hlo, hD, hP, hQ, hI, hS, e1, e2⟩ := I
  obtain ⟨hx, hb, hr, hml, hown, hts, hX, hbl, hlocks, hgv⟩ := id C0
  have hcs : cells ≤ room_1.cells ∧ slots ≤ room_1.slots := ⟨Nat.le_trans (Nat.le_add_right _ _) hc, Nat.le_trans (Nat.le_add_right _ _) hs⟩
  obtain ⟨a1, ha1⟩ : ∃ z : Int32, xs (x + 1).toNatClampNeg = z := ⟨_, rfl⟩
  obtain ⟨a2, ha2⟩ : ∃ z : Int32, xs (x + 2).toNatClampNeg = z := ⟨_, rfl⟩
  obtain ⟨a3, ha3⟩ : ∃ z : Int32, xs (x + 3).toNatClampNeg = z := ⟨_, rfl⟩
  refine lv_aload_n hx hb dL_law_508 rfl (lv_at hl 1 rfl) ?_
  refine lw_arg C0 hS hl hj.1 ha1 (by decide) dL_law_509 dL_law_510 dL_law_511 dL_law_512 dL_law_513 ?_
  refine lw_arg C0 hS hl hj.2.1 ha2 (by decide) dL_law_514 dL_law_515 dL_law_516 dL_law_517 dL_law_518 ?_
  refine lw_arg C0 hS hl hj.2.2.1 ha3 (by decide) dL_law_519 dL_law_520 dL_law_521 dL_law_522 dL_law_523 ?_
  refine x_callVi (own := RL) (c0 := Cond.initialized RX10) (As := [.int a1, .int a2, .int a3]) (rest := []) ⟨hx, hb, hml, hown, lw_ok hts⟩ hK hAm hD hP (va_S.mono (fun q h => Or.inr h) hS) mt_X10_hold wd_351 ⟨Nat.le_of_ble_eq_true rfl, Nat.le_of_ble_eq_true rfl⟩ (hQ.el 0 0 (xe_0 _ _)) (xc0 g 0) rfl (c_X10_hold l nb nn g L M hD hQ.el a1 a2 a3 hI.hb) rfl hl.1 (Nat.le_of_ble_eq_true rfl) hcs dL_law_524 (by rw [e1]; rfl) (fun r u H locs hp hP hS => ?_)
  have hS := va_S.mono (lw_lo hD hlo) hS
  obtain ⟨hq, hfin⟩ := sp_hold hI a1 a2 a3 hp
  refine lv_aload_n hx hb dL_law_527 rfl (lv_at hl 2 rfl) ?_
  refine lw_arg C0 hS hl hj.1 ha1 (by decide) dL_law_528 dL_law_529 dL_law_530 dL_law_531 dL_law_532 ?_
  refine lw_arg C0 hS hl hj.2.1 ha2 (by decide) dL_law_533 dL_law_534 dL_law_535 dL_law_536 dL_law_537 ?_
  refine lw_arg C0 hS hl hj.2.2.1 ha3 (by decide) dL_law_538 dL_law_539 dL_law_540 dL_law_541 dL_law_542 ?_
  refine x_callVi (own := RL) (c0 := Cond.initialized RX10) (As := [.int a1, .int a2, .int a3]) (rest := [.int r]) ⟨hx, hb, hml, hown, lw_ok hts⟩ hK hAm hD hP (va_S.mono (fun q h => Or.inr h) hS) mt_X11_hold wd_363 ⟨Nat.le_of_ble_eq_true rfl, Nat.le_of_ble_eq_true rfl⟩ (hQ.el 40 0 (xe_40 _ _)) (xc40 g 0) rfl (c_X11_hold l nb nn g L u hD hQ.el a1 a2 a3 hq.2.2.2.2.2.1 hq.2.2.2.2.2.2.1) rfl hl.1 (Nat.le_of_ble_eq_true rfl) hcs dL_law_543 (by rw [e2]; rfl) (fun r2 u2 H locs hp2 hP hS => ?_)
  obtain ⟨er, hI2⟩ := hfin r2 u2 hp2
  refine lv_icmp_eq (tgt := 1448) hx hb dL_law_546 (by decide) (fun _ => ?_) (fun q => absurd er q)
  exact W.widen (Nat.le_add_right _ _) (Nat.le_add_right _ _) (K _ _ ⟨g, L, u2, nb, nn, hK, hAm, hlo, hD, hP, hQ, hI2, va_S.mono (lw_lo hD hlo) hS, e1, e2⟩)
set_option maxRecDepth 100000 in
theorem lw_c9 (C0 : lw_At p s m meth c b N xs) (I : lwI s q1 q2 H locs) (hl : lv_has ls 4 (lwL b q1 q2 x)) (hj : lwN N x) (hc : cells + 3 ≤ 600000) (hs : slots + 37 ≤ 7302250) (K : ∀ (H : Heap) (locs : List Loc), lwI s q1 q2 H locs → W p l e room_1 s m #[Value.ref b] below meth c H locs (cells + 3) (slots + 37) Q (F0 m 1448 ls [])) : W p l e room_1 s m #[Value.ref b] below meth c H locs cells slots Q (F0 m 551 ls []) := by
  obtain ⟨g, L, M, nb, nn, hK, hAm, hlo, hD, hP, hQ, hI, hS, e1, e2⟩ := I
  obtain ⟨hx, hb, hr, hml, hown, hts, hX, hbl, hlocks, hgv⟩ := id C0
  have hcs : cells ≤ room_1.cells ∧ slots ≤ room_1.slots := ⟨Nat.le_trans (Nat.le_add_right _ _) hc, Nat.le_trans (Nat.le_add_right _ _) hs⟩
  obtain ⟨a1, ha1⟩ : ∃ z : Int32, xs (x + 1).toNatClampNeg = z := ⟨_, rfl⟩
  refine lv_aload_n hx hb dL_law_551 rfl (lv_at hl 1 rfl) ?_
  refine lw_arg C0 hS hl hj.1 ha1 (by decide) dL_law_552 dL_law_553 dL_law_554 dL_law_555 dL_law_556 ?_
  refine x_callVi (own := RL) (c0 := Cond.initialized RX10) (As := [.int a1]) (rest := []) ⟨hx, hb, hml, hown, lw_ok hts⟩ hK hAm hD hP (va_S.mono (fun q h => Or.inr h) hS) mt_X10_falls wd_368 ⟨Nat.le_of_ble_eq_true rfl, Nat.le_of_ble_eq_true rfl⟩ (hQ.el 0 0 (xe_0 _ _)) (xc0 g 0) rfl (c_X10_falls l nb nn g L M hD hQ.el a1 hI.hb) rfl hl.1 (Nat.le_of_ble_eq_true rfl) hcs dL_law_557 (by rw [e1]; rfl) (fun r u H locs hp hP hS => ?_)
  have hS := va_S.mono (lw_lo hD hlo) hS
  obtain ⟨hq, hfin⟩ := sp_falls hI a1 hp
  refine lv_aload_n hx hb dL_law_560 rfl (lv_at hl 2 rfl) ?_
  refine lw_arg C0 hS hl hj.1 ha1 (by decide) dL_law_561 dL_law_562 dL_law_563 dL_law_564 dL_law_565 ?_
  refine x_callVi (own := RL) (c0 := Cond.initialized RX10) (As := [.int a1]) (rest := [.int r]) ⟨hx, hb, hml, hown, lw_ok hts⟩ hK hAm hD hP (va_S.mono (fun q h => Or.inr h) hS) mt_X11_falls wd_384 ⟨Nat.le_of_ble_eq_true rfl, Nat.le_of_ble_eq_true rfl⟩ (hQ.el 40 0 (xe_40 _ _)) (xc40 g 0) rfl (c_X11_falls l nb nn g L u hD hQ.el a1 hq.2.2.2.2.2.1 hq.2.2.2.2.2.2.1) rfl hl.1 (Nat.le_of_ble_eq_true rfl) hcs dL_law_566 (by rw [e2]; rfl) (fun r2 u2 H locs hp2 hP hS => ?_)
  obtain ⟨er, hI2⟩ := hfin r2 u2 hp2
  refine lv_icmp_eq (tgt := 1448) hx hb dL_law_569 (by decide) (fun _ => ?_) (fun q => absurd er q)
  exact W.widen (Nat.le_add_right _ _) (Nat.le_add_right _ _) (K _ _ ⟨g, L, u2, nb, nn, hK, hAm, hlo, hD, hP, hQ, hI2, va_S.mono (lw_lo hD hlo) hS, e1, e2⟩)
set_option maxRecDepth 100000 in
theorem lw_c10 (C0 : lw_At p s m meth c b N xs) (I : lwI s q1 q2 H locs) (hl : lv_has ls 4 (lwL b q1 q2 x)) (hj : lwN N x) (hc : cells + 3 ≤ 600000) (hs : slots + 37 ≤ 7302250) (K : ∀ (H : Heap) (locs : List Loc), lwI s q1 q2 H locs → W p l e room_1 s m #[Value.ref b] below meth c H locs (cells + 3) (slots + 37) Q (F0 m 1448 ls [])) : W p l e room_1 s m #[Value.ref b] below meth c H locs cells slots Q (F0 m 574 ls []) := by
  obtain ⟨g, L, M, nb, nn, hK, hAm, hlo, hD, hP, hQ, hI, hS, e1, e2⟩ := I
  obtain ⟨hx, hb, hr, hml, hown, hts, hX, hbl, hlocks, hgv⟩ := id C0
  have hcs : cells ≤ room_1.cells ∧ slots ≤ room_1.slots := ⟨Nat.le_trans (Nat.le_add_right _ _) hc, Nat.le_trans (Nat.le_add_right _ _) hs⟩
  obtain ⟨a1, ha1⟩ : ∃ z : Int32, xs (x + 1).toNatClampNeg = z := ⟨_, rfl⟩
  refine lv_aload_n hx hb dL_law_574 rfl (lv_at hl 1 rfl) ?_
  refine lw_arg C0 hS hl hj.1 ha1 (by decide) dL_law_575 dL_law_576 dL_law_577 dL_law_578 dL_law_579 ?_
  refine x_callVi (own := RL) (c0 := Cond.initialized RX10) (As := [.int a1]) (rest := []) ⟨hx, hb, hml, hown, lw_ok hts⟩ hK hAm hD hP (va_S.mono (fun q h => Or.inr h) hS) mt_X10_week wd_388 ⟨Nat.le_of_ble_eq_true rfl, Nat.le_of_ble_eq_true rfl⟩ (hQ.el 0 0 (xe_0 _ _)) (xc0 g 0) rfl (c_X10_week l nb nn g L M hD hQ.el a1 ) rfl hl.1 (Nat.le_of_ble_eq_true rfl) hcs dL_law_580 (by rw [e1]; rfl) (fun r u H locs hp hP hS => ?_)
  have hS := va_S.mono (lw_lo hD hlo) hS
  obtain ⟨hq, hfin⟩ := sp_week hI a1 hp
  refine lv_aload_n hx hb dL_law_583 rfl (lv_at hl 2 rfl) ?_
  refine lw_arg C0 hS hl hj.1 ha1 (by decide) dL_law_584 dL_law_585 dL_law_586 dL_law_587 dL_law_588 ?_
  refine x_callVi (own := RL) (c0 := Cond.initialized RX10) (As := [.int a1]) (rest := [.int r]) ⟨hx, hb, hml, hown, lw_ok hts⟩ hK hAm hD hP (va_S.mono (fun q h => Or.inr h) hS) mt_X11_week wd_392 ⟨Nat.le_of_ble_eq_true rfl, Nat.le_of_ble_eq_true rfl⟩ (hQ.el 40 0 (xe_40 _ _)) (xc40 g 0) rfl (c_X11_week l nb nn g L u hD hQ.el a1 ) rfl hl.1 (Nat.le_of_ble_eq_true rfl) hcs dL_law_589 (by rw [e2]; rfl) (fun r2 u2 H locs hp2 hP hS => ?_)
  obtain ⟨er, hI2⟩ := hfin r2 u2 hp2
  refine lv_icmp_eq (tgt := 1448) hx hb dL_law_592 (by decide) (fun _ => ?_) (fun q => absurd er q)
  exact W.widen (Nat.le_add_right _ _) (Nat.le_add_right _ _) (K _ _ ⟨g, L, u2, nb, nn, hK, hAm, hlo, hD, hP, hQ, hI2, va_S.mono (lw_lo hD hlo) hS, e1, e2⟩)
set_option maxRecDepth 100000 in
theorem lw_c11 (C0 : lw_At p s m meth c b N xs) (I : lwI s q1 q2 H locs) (hl : lv_has ls 4 (lwL b q1 q2 x)) (hj : lwN N x) (hc : cells + 3 ≤ 600000) (hs : slots + 37 ≤ 7302250) (K : ∀ (H : Heap) (locs : List Loc), lwI s q1 q2 H locs → W p l e room_1 s m #[Value.ref b] below meth c H locs (cells + 3) (slots + 37) Q (F0 m 1448 ls [])) : W p l e room_1 s m #[Value.ref b] below meth c H locs cells slots Q (F0 m 597 ls []) := by
  obtain ⟨g, L, M, nb, nn, hK, hAm, hlo, hD, hP, hQ, hI, hS, e1, e2⟩ := I
  obtain ⟨hx, hb, hr, hml, hown, hts, hX, hbl, hlocks, hgv⟩ := id C0
  have hcs : cells ≤ room_1.cells ∧ slots ≤ room_1.slots := ⟨Nat.le_trans (Nat.le_add_right _ _) hc, Nat.le_trans (Nat.le_add_right _ _) hs⟩
  obtain ⟨a1, ha1⟩ : ∃ z : Int32, xs (x + 1).toNatClampNeg = z := ⟨_, rfl⟩
  obtain ⟨a2, ha2⟩ : ∃ z : Int32, xs (x + 2).toNatClampNeg = z := ⟨_, rfl⟩
  obtain ⟨a3, ha3⟩ : ∃ z : Int32, xs (x + 3).toNatClampNeg = z := ⟨_, rfl⟩
  obtain ⟨w1, hw1⟩ : ∃ z : Int64, a1.toInt64 <<< ((32 : Int32).toInt64 &&& 63) = z := ⟨_, rfl⟩
  refine lv_aload_n hx hb dL_law_597 rfl (lv_at hl 1 rfl) ?_
  refine lw_arg C0 hS hl hj.1 ha1 (by decide) dL_law_598 dL_law_599 dL_law_600 dL_law_601 dL_law_602 ?_
  refine lv_i2l (v := a1.toInt64) hx hb dL_law_603 rfl ?_
  refine lv_bipush (v := 32) hx hb dL_law_604 (by decide) ?_
  refine lv_lshl hx hb dL_law_606 hw1 ?_
  refine lw_arg C0 hS hl hj.2.1 ha2 (by decide) dL_law_607 dL_law_608 dL_law_609 dL_law_610 dL_law_611 ?_
  refine lv_i2l (v := a2.toInt64) hx hb dL_law_612 rfl ?_
  refine lv_ldc2 hx hb hown (hts _ (wsL_law_in _ wd_6)) dL_law_613 ?_
  refine lv_land hx hb dL_law_616 ?_
  refine lv_lor hx hb dL_law_617 ?_
  refine lw_arg C0 hS hl hj.2.2.1 ha3 (by decide) dL_law_618 dL_law_619 dL_law_620 dL_law_621 dL_law_622 ?_
  refine x_callVi (own := RL) (c0 := Cond.initialized RX10) (As := [.long (w1 ||| (a2.toInt64 &&& 4294967295)), .int a3]) (rest := []) ⟨hx, hb, hml, hown, lw_ok hts⟩ hK hAm hD hP (va_S.mono (fun q h => Or.inr h) hS) mt_X10_feed wd_398 ⟨Nat.le_of_ble_eq_true rfl, Nat.le_of_ble_eq_true rfl⟩ (hQ.el 0 0 (xe_0 _ _)) (xc0 g 0) rfl (c_X10_feed l nb nn g L M hD hQ.el (w1 ||| (a2.toInt64 &&& 4294967295)) a3 hI.ta.2.1) rfl hl.1 (Nat.le_of_ble_eq_true rfl) hcs dL_law_623 (by rw [e1]; rfl) (fun r u H locs hp hP hS => ?_)
  have hS := va_S.mono (lw_lo hD hlo) hS
  obtain ⟨hq, hfin⟩ := sp_feed hI (w1 ||| (a2.toInt64 &&& 4294967295)) a3 hp
  refine lv_aload_n hx hb dL_law_626 rfl (lv_at hl 2 rfl) ?_
  refine lw_arg C0 hS hl hj.1 ha1 (by decide) dL_law_627 dL_law_628 dL_law_629 dL_law_630 dL_law_631 ?_
  refine lv_i2l (v := a1.toInt64) hx hb dL_law_632 rfl ?_
  refine lv_bipush (v := 32) hx hb dL_law_633 (by decide) ?_
  refine lv_lshl hx hb dL_law_635 hw1 ?_
  refine lw_arg C0 hS hl hj.2.1 ha2 (by decide) dL_law_636 dL_law_637 dL_law_638 dL_law_639 dL_law_640 ?_
  refine lv_i2l (v := a2.toInt64) hx hb dL_law_641 rfl ?_
  refine lv_ldc2 hx hb hown (hts _ (wsL_law_in _ wd_6)) dL_law_642 ?_
  refine lv_land hx hb dL_law_645 ?_
  refine lv_lor hx hb dL_law_646 ?_
  refine lw_arg C0 hS hl hj.2.2.1 ha3 (by decide) dL_law_647 dL_law_648 dL_law_649 dL_law_650 dL_law_651 ?_
  refine x_callVi (own := RL) (c0 := Cond.initialized RX10) (As := [.long (w1 ||| (a2.toInt64 &&& 4294967295)), .int a3]) (rest := [.int r]) ⟨hx, hb, hml, hown, lw_ok hts⟩ hK hAm hD hP (va_S.mono (fun q h => Or.inr h) hS) mt_X11_feed wd_411 ⟨Nat.le_of_ble_eq_true rfl, Nat.le_of_ble_eq_true rfl⟩ (hQ.el 40 0 (xe_40 _ _)) (xc40 g 0) rfl (c_X11_feed l nb nn g L u hD hQ.el (w1 ||| (a2.toInt64 &&& 4294967295)) a3 hq.2.1.1 hq.2.1.2) rfl hl.1 (Nat.le_of_ble_eq_true rfl) hcs dL_law_652 (by rw [e2]; rfl) (fun r2 u2 H locs hp2 hP hS => ?_)
  obtain ⟨er, hI2⟩ := hfin r2 u2 hp2
  refine lv_icmp_eq (tgt := 1448) hx hb dL_law_655 (by decide) (fun _ => ?_) (fun q => absurd er q)
  exact W.widen (Nat.le_add_right _ _) (Nat.le_add_right _ _) (K _ _ ⟨g, L, u2, nb, nn, hK, hAm, hlo, hD, hP, hQ, hI2, va_S.mono (lw_lo hD hlo) hS, e1, e2⟩)
set_option maxRecDepth 100000 in
theorem lw_c12 (C0 : lw_At p s m meth c b N xs) (I : lwI s q1 q2 H locs) (hl : lv_has ls 4 (lwL b q1 q2 x)) (hj : lwN N x) (hc : cells + 3 ≤ 600000) (hs : slots + 37 ≤ 7302250) (K : ∀ (H : Heap) (locs : List Loc), lwI s q1 q2 H locs → W p l e room_1 s m #[Value.ref b] below meth c H locs (cells + 3) (slots + 37) Q (F0 m 1448 ls [])) : W p l e room_1 s m #[Value.ref b] below meth c H locs cells slots Q (F0 m 660 ls []) := by
  obtain ⟨g, L, M, nb, nn, hK, hAm, hlo, hD, hP, hQ, hI, hS, e1, e2⟩ := I
  obtain ⟨hx, hb, hr, hml, hown, hts, hX, hbl, hlocks, hgv⟩ := id C0
  have hcs : cells ≤ room_1.cells ∧ slots ≤ room_1.slots := ⟨Nat.le_trans (Nat.le_add_right _ _) hc, Nat.le_trans (Nat.le_add_right _ _) hs⟩
  refine lv_aload_n hx hb dL_law_660 rfl (lv_at hl 1 rfl) ?_
  refine x_callVi (own := RL) (c0 := Cond.initialized RX10) (As := []) (rest := []) ⟨hx, hb, hml, hown, lw_ok hts⟩ hK hAm hD hP (va_S.mono (fun q h => Or.inr h) hS) mt_X10_books wd_417 ⟨Nat.le_of_ble_eq_true rfl, Nat.le_of_ble_eq_true rfl⟩ (hQ.el 0 0 (xe_0 _ _)) (xc0 g 0) rfl (c_X10_books l nb nn g L M hD hQ.el hI.ta.2.1 hI.ta.2.2.1) rfl hl.1 (Nat.le_of_ble_eq_true rfl) hcs dL_law_661 (by rw [e1]; rfl) (fun r u H locs hp hP hS => ?_)
  have hS := va_S.mono (lw_lo hD hlo) hS
  obtain ⟨hq, hfin⟩ := sp_books hI hp
  refine lv_aload_n hx hb dL_law_664 rfl (lv_at hl 2 rfl) ?_
  refine x_callVi (own := RL) (c0 := Cond.initialized RX10) (As := []) (rest := [.int r]) ⟨hx, hb, hml, hown, lw_ok hts⟩ hK hAm hD hP (va_S.mono (fun q h => Or.inr h) hS) mt_X11_books wd_556 ⟨Nat.le_of_ble_eq_true rfl, Nat.le_of_ble_eq_true rfl⟩ (hQ.el 40 0 (xe_40 _ _)) (xc40 g 0) rfl (c_X11_books l nb nn g L u hD hQ.el hq.2.1.1 hq.2.1.2 hq.2.2.1 hq.2.2.2.2.2.2.2.2.2.1 hq.2.2.2.2.2.2.2.2.2.2.1) rfl hl.1 (Nat.le_of_ble_eq_true rfl) hcs dL_law_665 (by rw [e2]; rfl) (fun r2 u2 H locs hp2 hP hS => ?_)
  obtain ⟨er, hI2⟩ := hfin r2 u2 hp2
  refine lv_icmp_eq (tgt := 1448) hx hb dL_law_668 (by decide) (fun _ => ?_) (fun q => absurd er q)
  exact W.widen (Nat.le_add_right _ _) (Nat.le_add_right _ _) (K _ _ ⟨g, L, u2, nb, nn, hK, hAm, hlo, hD, hP, hQ, hI2, va_S.mono (lw_lo hD hlo) hS, e1, e2⟩)
set_option maxRecDepth 100000 in
theorem lw_c13 (C0 : lw_At p s m meth c b N xs) (I : lwI s q1 q2 H locs) (hl : lv_has ls 4 (lwL b q1 q2 x)) (hj : lwN N x) (hc : cells + 3 ≤ 600000) (hs : slots + 37 ≤ 7302250) (K : ∀ (H : Heap) (locs : List Loc), lwI s q1 q2 H locs → W p l e room_1 s m #[Value.ref b] below meth c H locs (cells + 3) (slots + 37) Q (F0 m 1448 ls [])) : W p l e room_1 s m #[Value.ref b] below meth c H locs cells slots Q (F0 m 673 ls []) := by
  obtain ⟨g, L, M, nb, nn, hK, hAm, hlo, hD, hP, hQ, hI, hS, e1, e2⟩ := I
  obtain ⟨hx, hb, hr, hml, hown, hts, hX, hbl, hlocks, hgv⟩ := id C0
  have hcs : cells ≤ room_1.cells ∧ slots ≤ room_1.slots := ⟨Nat.le_trans (Nat.le_add_right _ _) hc, Nat.le_trans (Nat.le_add_right _ _) hs⟩
  refine lv_aload_n hx hb dL_law_673 rfl (lv_at hl 1 rfl) ?_
  refine x_callVi (own := RL) (c0 := Cond.initialized RX10) (As := []) (rest := []) ⟨hx, hb, hml, hown, lw_ok hts⟩ hK hAm hD hP (va_S.mono (fun q h => Or.inr h) hS) mt_X10_fault wd_613 ⟨Nat.le_of_ble_eq_true rfl, Nat.le_of_ble_eq_true rfl⟩ (hQ.el 0 0 (xe_0 _ _)) (xc0 g 0) rfl (c_X10_fault l nb nn g L M hD hQ.el ) rfl hl.1 (Nat.le_of_ble_eq_true rfl) hcs dL_law_674 (by rw [e1]; rfl) (fun r u H locs hp hP hS => ?_)
  have hS := va_S.mono (lw_lo hD hlo) hS
  obtain ⟨hq, hfin⟩ := sp_fault hI hp
  refine lv_aload_n hx hb dL_law_677 rfl (lv_at hl 2 rfl) ?_
  refine x_callVi (own := RL) (c0 := Cond.initialized RX10) (As := []) (rest := [.int r]) ⟨hx, hb, hml, hown, lw_ok hts⟩ hK hAm hD hP (va_S.mono (fun q h => Or.inr h) hS) mt_X11_fault wd_617 ⟨Nat.le_of_ble_eq_true rfl, Nat.le_of_ble_eq_true rfl⟩ (hQ.el 40 0 (xe_40 _ _)) (xc40 g 0) rfl (c_X11_fault l nb nn g L u hD hQ.el ) rfl hl.1 (Nat.le_of_ble_eq_true rfl) hcs dL_law_678 (by rw [e2]; rfl) (fun r2 u2 H locs hp2 hP hS => ?_)
  obtain ⟨er, hI2⟩ := hfin r2 u2 hp2
  refine lv_icmp_eq (tgt := 1448) hx hb dL_law_681 (by decide) (fun _ => ?_) (fun q => absurd er q)
  exact W.widen (Nat.le_add_right _ _) (Nat.le_add_right _ _) (K _ _ ⟨g, L, u2, nb, nn, hK, hAm, hlo, hD, hP, hQ, hI2, va_S.mono (lw_lo hD hlo) hS, e1, e2⟩)
set_option maxRecDepth 100000 in
theorem lw_c14 (C0 : lw_At p s m meth c b N xs) (I : lwI s q1 q2 H locs) (hl : lv_has ls 4 (lwL b q1 q2 x)) (hj : lwN N x) (hc : cells + 3 ≤ 600000) (hs : slots + 37 ≤ 7302250) (K : ∀ (H : Heap) (locs : List Loc), lwI s q1 q2 H locs → W p l e room_1 s m #[Value.ref b] below meth c H locs (cells + 3) (slots + 37) Q (F0 m 1448 ls [])) : W p l e room_1 s m #[Value.ref b] below meth c H locs cells slots Q (F0 m 686 ls []) := by
  obtain ⟨g, L, M, nb, nn, hK, hAm, hlo, hD, hP, hQ, hI, hS, e1, e2⟩ := I
  obtain ⟨hx, hb, hr, hml, hown, hts, hX, hbl, hlocks, hgv⟩ := id C0
  have hcs : cells ≤ room_1.cells ∧ slots ≤ room_1.slots := ⟨Nat.le_trans (Nat.le_add_right _ _) hc, Nat.le_trans (Nat.le_add_right _ _) hs⟩
  obtain ⟨a1, ha1⟩ : ∃ z : Int32, xs (x + 1).toNatClampNeg = z := ⟨_, rfl⟩
  obtain ⟨a2, ha2⟩ : ∃ z : Int32, xs (x + 2).toNatClampNeg = z := ⟨_, rfl⟩
  obtain ⟨a3, ha3⟩ : ∃ z : Int32, xs (x + 3).toNatClampNeg = z := ⟨_, rfl⟩
  obtain ⟨a4, ha4⟩ : ∃ z : Int32, xs (x + 4).toNatClampNeg = z := ⟨_, rfl⟩
  refine lv_aload_n hx hb dL_law_686 rfl (lv_at hl 1 rfl) ?_
  refine lw_arg C0 hS hl hj.1 ha1 (by decide) dL_law_687 dL_law_688 dL_law_689 dL_law_690 dL_law_691 ?_
  refine lw_arg C0 hS hl hj.2.1 ha2 (by decide) dL_law_692 dL_law_693 dL_law_694 dL_law_695 dL_law_696 ?_
  refine lw_arg C0 hS hl hj.2.2.1 ha3 (by decide) dL_law_697 dL_law_698 dL_law_699 dL_law_700 dL_law_701 ?_
  refine lw_arg C0 hS hl hj.2.2.2.1 ha4 (by decide) dL_law_702 dL_law_703 dL_law_704 dL_law_705 dL_law_706 ?_
  refine x_callVi (own := RL) (c0 := Cond.initialized RX10) (As := [.int a1, .int a2, .int a3, .int a4]) (rest := []) ⟨hx, hb, hml, hown, lw_ok hts⟩ hK hAm hD hP (va_S.mono (fun q h => Or.inr h) hS) mt_X10_known wd_621 ⟨Nat.le_of_ble_eq_true rfl, Nat.le_of_ble_eq_true rfl⟩ (hQ.el 0 0 (xe_0 _ _)) (xc0 g 0) rfl (c_X10_known l nb nn g L M hD hQ.el a1 a2 a3 a4 hI.hb hI.en.2.2.1) rfl hl.1 (Nat.le_of_ble_eq_true rfl) hcs dL_law_707 (by rw [e1]; rfl) (fun r u H locs hp hP hS => ?_)
  have hS := va_S.mono (lw_lo hD hlo) hS
  obtain ⟨hq, hfin⟩ := sp_known hI a1 a2 a3 a4 hp
  refine lv_aload_n hx hb dL_law_710 rfl (lv_at hl 2 rfl) ?_
  refine lw_arg C0 hS hl hj.1 ha1 (by decide) dL_law_711 dL_law_712 dL_law_713 dL_law_714 dL_law_715 ?_
  refine lw_arg C0 hS hl hj.2.1 ha2 (by decide) dL_law_716 dL_law_717 dL_law_718 dL_law_719 dL_law_720 ?_
  refine lw_arg C0 hS hl hj.2.2.1 ha3 (by decide) dL_law_721 dL_law_722 dL_law_723 dL_law_724 dL_law_725 ?_
  refine lw_arg C0 hS hl hj.2.2.2.1 ha4 (by decide) dL_law_726 dL_law_727 dL_law_728 dL_law_729 dL_law_730 ?_
  refine x_callVi (own := RL) (c0 := Cond.initialized RX10) (As := [.int a1, .int a2, .int a3, .int a4]) (rest := [.int r]) ⟨hx, hb, hml, hown, lw_ok hts⟩ hK hAm hD hP (va_S.mono (fun q h => Or.inr h) hS) mt_X11_known wd_648 ⟨Nat.le_of_ble_eq_true rfl, Nat.le_of_ble_eq_true rfl⟩ (hQ.el 40 0 (xe_40 _ _)) (xc40 g 0) rfl (c_X11_known l nb nn g L u hD hQ.el a1 a2 a3 a4 hq.2.2.2.2.2) rfl hl.1 (Nat.le_of_ble_eq_true rfl) hcs dL_law_731 (by rw [e2]; rfl) (fun r2 u2 H locs hp2 hP hS => ?_)
  obtain ⟨er, hI2⟩ := hfin r2 u2 hp2
  refine lv_icmp_eq (tgt := 1448) hx hb dL_law_734 (by decide) (fun _ => ?_) (fun q => absurd er q)
  exact W.widen (Nat.le_add_right _ _) (Nat.le_add_right _ _) (K _ _ ⟨g, L, u2, nb, nn, hK, hAm, hlo, hD, hP, hQ, hI2, va_S.mono (lw_lo hD hlo) hS, e1, e2⟩)
set_option maxRecDepth 100000 in
theorem lw_c15 (C0 : lw_At p s m meth c b N xs) (I : lwI s q1 q2 H locs) (hl : lv_has ls 4 (lwL b q1 q2 x)) (hj : lwN N x) (hc : cells + 3 ≤ 600000) (hs : slots + 37 ≤ 7302250) (K : ∀ (H : Heap) (locs : List Loc), lwI s q1 q2 H locs → W p l e room_1 s m #[Value.ref b] below meth c H locs (cells + 3) (slots + 37) Q (F0 m 1448 ls [])) : W p l e room_1 s m #[Value.ref b] below meth c H locs cells slots Q (F0 m 739 ls []) := by
  obtain ⟨g, L, M, nb, nn, hK, hAm, hlo, hD, hP, hQ, hI, hS, e1, e2⟩ := I
  obtain ⟨hx, hb, hr, hml, hown, hts, hX, hbl, hlocks, hgv⟩ := id C0
  have hcs : cells ≤ room_1.cells ∧ slots ≤ room_1.slots := ⟨Nat.le_trans (Nat.le_add_right _ _) hc, Nat.le_trans (Nat.le_add_right _ _) hs⟩
  obtain ⟨a1, ha1⟩ : ∃ z : Int32, xs (x + 1).toNatClampNeg = z := ⟨_, rfl⟩
  obtain ⟨a2, ha2⟩ : ∃ z : Int32, xs (x + 2).toNatClampNeg = z := ⟨_, rfl⟩
  obtain ⟨a3, ha3⟩ : ∃ z : Int32, xs (x + 3).toNatClampNeg = z := ⟨_, rfl⟩
  obtain ⟨a4, ha4⟩ : ∃ z : Int32, xs (x + 4).toNatClampNeg = z := ⟨_, rfl⟩
  obtain ⟨a5, ha5⟩ : ∃ z : Int32, xs (x + 5).toNatClampNeg = z := ⟨_, rfl⟩
  refine lv_aload_n hx hb dL_law_739 rfl (lv_at hl 1 rfl) ?_
  refine lw_arg C0 hS hl hj.1 ha1 (by decide) dL_law_740 dL_law_741 dL_law_742 dL_law_743 dL_law_744 ?_
  refine lw_arg C0 hS hl hj.2.1 ha2 (by decide) dL_law_745 dL_law_746 dL_law_747 dL_law_748 dL_law_749 ?_
  refine lw_arg C0 hS hl hj.2.2.1 ha3 (by decide) dL_law_750 dL_law_751 dL_law_752 dL_law_753 dL_law_754 ?_
  refine lw_arg C0 hS hl hj.2.2.2.1 ha4 (by decide) dL_law_755 dL_law_756 dL_law_757 dL_law_758 dL_law_759 ?_
  refine lw_arg C0 hS hl hj.2.2.2.2.1 ha5 (by decide) dL_law_760 dL_law_761 dL_law_762 dL_law_763 dL_law_764 ?_
  have hS9 : va_S (xA g L s.heap.size) s.heap H locs := va_S.mono (fun q h => Or.inr h) hS
  have hpre := x_preS hK hAm hD hP hS9 (av := [.ref (xad g 0 0), .int a1, .int a2, .int a3, .int a4, .int a5])
  refine W.eq (g2 := F0 m 765 ls [.int a5, .int a4, .int a3, .int a2, .int a1, .ref (xad g 0 0)]) (by rw [e1]) ?_
  refine va_calli (va_runV (As := [.int a1, .int a2, .int a3, .int a4, .int a5]) (rest := []) ⟨hx, hb, hml, hown, lw_ok hts⟩ (c_X10_note l nb nn g L M hD hQ a1 a2 a3 a4 a5 hI.hn hI.ht (hI.ob.2.2.2.2.2.2.2.2.2 nn (Nat.le_refl nn)) H.size) (x_cwVG (lw_ok hts) mt_X10_note wd_671 rfl rfl ⟨Nat.le_of_ble_eq_true rfl, Nat.le_of_ble_eq_true rfl⟩) ⟨hpre.1, x_recv hK hP (hQ.el 0 0 (xe_0 _ _)) (xc0 g 0) rfl, hpre.2⟩ rfl rfl hl.1 rfl (lv_room (Nat.le_of_ble_eq_true rfl)) dL_law_765 ⟨Nat.le_trans (Nat.add_le_add_left (Nat.le_of_ble_eq_true rfl) _) hc, Nat.le_trans (Nat.add_le_add_left (Nat.le_of_ble_eq_true rfl) _) hs⟩) hS9 (fun q _ h => xA_mono hS9.1 h) (fun q h => xA_mono hS9.1 h) (fun r u t H1 locs1 ht _ hp hB _ _ hS1 => ?_)
  obtain ⟨k2, hQ2, f1, f2, hq, hfin⟩ := sp_note hI hQ a1 a2 a3 a4 a5 hp
  obtain ⟨hP2, hD2⟩ := hB
  rw [ht] at hP2
  obtain ⟨g2, hg2⟩ : ∃ z : xG, z = g.at u.1 := ⟨_, rfl⟩
  rw [← hg2] at hP2 hD2
  have hK2 : xK g2 s := by rw [hg2]; exact hK
  have hAm2 : xAm g2 s s.heap := by rw [hg2]; exact hAm
  have hlo2 : xlo g2 = s.heap.size := by rw [hg2]; exact hlo
  have e12 : xad g2 0 0 = q1 := by rw [hg2]; exact f1.trans e1
  have e22 : xad g2 40 0 = q2 := by rw [hg2]; exact f2.trans e2
  have hS := va_S.mono (lw_lo hD hlo) hS1
  have hcs2 : cells + 3 ≤ room_1.cells ∧ slots + 37 ≤ room_1.slots := ⟨Nat.le_trans (Nat.add_le_add_left (Nat.le_of_ble_eq_true rfl) _) hc, Nat.le_trans (Nat.add_le_add_left (Nat.le_of_ble_eq_true rfl) _) hs⟩
  refine lv_aload_n hx hb dL_law_768 rfl (lv_at hl 2 rfl) ?_
  refine lw_arg C0 hS hl hj.1 ha1 (by decide) dL_law_769 dL_law_770 dL_law_771 dL_law_772 dL_law_773 ?_
  refine lw_arg C0 hS hl hj.2.1 ha2 (by decide) dL_law_774 dL_law_775 dL_law_776 dL_law_777 dL_law_778 ?_
  refine lw_arg C0 hS hl hj.2.2.1 ha3 (by decide) dL_law_779 dL_law_780 dL_law_781 dL_law_782 dL_law_783 ?_
  refine lw_arg C0 hS hl hj.2.2.2.1 ha4 (by decide) dL_law_784 dL_law_785 dL_law_786 dL_law_787 dL_law_788 ?_
  refine lw_arg C0 hS hl hj.2.2.2.2.1 ha5 (by decide) dL_law_789 dL_law_790 dL_law_791 dL_law_792 dL_law_793 ?_
  refine x_callVi (own := RL) (c0 := Cond.initialized RX10) (As := [.int a1, .int a2, .int a3, .int a4, .int a5]) (rest := [.int r]) ⟨hx, hb, hml, hown, lw_ok hts⟩ hK2 hAm2 hD2 hP2 (va_S.mono (fun q h => Or.inr h) hS) mt_X11_note wd_703 ⟨Nat.le_of_ble_eq_true rfl, Nat.le_of_ble_eq_true rfl⟩ (hQ2.el 40 0 (xe_40 _ _)) (xc40 g2 0) rfl (c_X11_note l nb k2 g2 u.2.1 u.2.2 hD2 hQ2.el a1 a2 a3 a4 a5 hq.2.2.2.2.2.2.2.1 hq.2.2.2.2.2.2.2.2.1 hq.2.2.2.2.2.2.2.2.2.2.2.2.1) rfl hl.1 (Nat.le_of_ble_eq_true rfl) hcs2 dL_law_794 (by rw [e22]; rfl) (fun r2 u2 H locs hp2 hP hS => ?_)
  obtain ⟨er, hI2⟩ := hfin r2 u2 hp2
  refine lv_icmp_eq (tgt := 1448) hx hb dL_law_797 (by decide) (fun _ => ?_) (fun q => absurd er q)
  exact W.widen (Nat.add_le_add_left (Nat.le_of_ble_eq_true rfl) _) (Nat.add_le_add_left (Nat.le_of_ble_eq_true rfl) _) (K _ _ ⟨g2, u.2.1, u2, nb, k2, hK2, hAm2, hlo2, hD2, hP, hQ2, hI2, va_S.mono (lw_lo hD2 hlo2) hS, e12, e22⟩)
set_option maxRecDepth 100000 in
theorem lw_c16 (C0 : lw_At p s m meth c b N xs) (I : lwI s q1 q2 H locs) (hl : lv_has ls 4 (lwL b q1 q2 x)) (hj : lwN N x) (hc : cells + 3 ≤ 600000) (hs : slots + 37 ≤ 7302250) (K : ∀ (H : Heap) (locs : List Loc), lwI s q1 q2 H locs → W p l e room_1 s m #[Value.ref b] below meth c H locs (cells + 3) (slots + 37) Q (F0 m 1448 ls [])) : W p l e room_1 s m #[Value.ref b] below meth c H locs cells slots Q (F0 m 802 ls []) := by
  obtain ⟨g, L, M, nb, nn, hK, hAm, hlo, hD, hP, hQ, hI, hS, e1, e2⟩ := I
  obtain ⟨hx, hb, hr, hml, hown, hts, hX, hbl, hlocks, hgv⟩ := id C0
  have hcs : cells ≤ room_1.cells ∧ slots ≤ room_1.slots := ⟨Nat.le_trans (Nat.le_add_right _ _) hc, Nat.le_trans (Nat.le_add_right _ _) hs⟩
  obtain ⟨a1, ha1⟩ : ∃ z : Int32, xs (x + 1).toNatClampNeg = z := ⟨_, rfl⟩
  obtain ⟨a2, ha2⟩ : ∃ z : Int32, xs (x + 2).toNatClampNeg = z := ⟨_, rfl⟩
  refine lv_aload_n hx hb dL_law_802 rfl (lv_at hl 1 rfl) ?_
  refine lw_arg C0 hS hl hj.1 ha1 (by decide) dL_law_803 dL_law_804 dL_law_805 dL_law_806 dL_law_807 ?_
  refine lw_arg C0 hS hl hj.2.1 ha2 (by decide) dL_law_808 dL_law_809 dL_law_810 dL_law_811 dL_law_812 ?_
  refine x_callVi (own := RL) (c0 := Cond.initialized RX10) (As := [.int a1, .int a2]) (rest := []) ⟨hx, hb, hml, hown, lw_ok hts⟩ hK hAm hD hP (va_S.mono (fun q h => Or.inr h) hS) mt_X10_told wd_716 ⟨Nat.le_of_ble_eq_true rfl, Nat.le_of_ble_eq_true rfl⟩ (hQ.el 0 0 (xe_0 _ _)) (xc0 g 0) rfl (c_X10_told l nb nn g L M hD hQ.el a1 a2 hI.hn) rfl hl.1 (Nat.le_of_ble_eq_true rfl) hcs dL_law_813 (by rw [e1]; rfl) (fun r u H locs hp hP hS => ?_)
  have hS := va_S.mono (lw_lo hD hlo) hS
  obtain ⟨hq, hfin⟩ := sp_told hI a1 a2 hp
  refine lv_aload_n hx hb dL_law_816 rfl (lv_at hl 2 rfl) ?_
  refine lw_arg C0 hS hl hj.1 ha1 (by decide) dL_law_817 dL_law_818 dL_law_819 dL_law_820 dL_law_821 ?_
  refine lw_arg C0 hS hl hj.2.1 ha2 (by decide) dL_law_822 dL_law_823 dL_law_824 dL_law_825 dL_law_826 ?_
  refine x_callVi (own := RL) (c0 := Cond.initialized RX10) (As := [.int a1, .int a2]) (rest := [.int r]) ⟨hx, hb, hml, hown, lw_ok hts⟩ hK hAm hD hP (va_S.mono (fun q h => Or.inr h) hS) mt_X11_told wd_733 ⟨Nat.le_of_ble_eq_true rfl, Nat.le_of_ble_eq_true rfl⟩ (hQ.el 40 0 (xe_40 _ _)) (xc40 g 0) rfl (c_X11_told l nb nn g L u hD hQ.el a1 a2 hq.2.2.2.2.2.2.2.1 hq.2.2.2.2.2.2.2.2.1) rfl hl.1 (Nat.le_of_ble_eq_true rfl) hcs dL_law_827 (by rw [e2]; rfl) (fun r2 u2 H locs hp2 hP hS => ?_)
  obtain ⟨er, hI2⟩ := hfin r2 u2 hp2
  refine lv_icmp_eq (tgt := 1448) hx hb dL_law_830 (by decide) (fun _ => ?_) (fun q => absurd er q)
  exact W.widen (Nat.le_add_right _ _) (Nat.le_add_right _ _) (K _ _ ⟨g, L, u2, nb, nn, hK, hAm, hlo, hD, hP, hQ, hI2, va_S.mono (lw_lo hD hlo) hS, e1, e2⟩)
set_option maxRecDepth 100000 in
theorem lw_c17 (C0 : lw_At p s m meth c b N xs) (I : lwI s q1 q2 H locs) (hl : lv_has ls 4 (lwL b q1 q2 x)) (hj : lwN N x) (hc : cells + 3 ≤ 600000) (hs : slots + 37 ≤ 7302250) (K : ∀ (H : Heap) (locs : List Loc), lwI s q1 q2 H locs → W p l e room_1 s m #[Value.ref b] below meth c H locs (cells + 3) (slots + 37) Q (F0 m 1448 ls [])) : W p l e room_1 s m #[Value.ref b] below meth c H locs cells slots Q (F0 m 835 ls []) := by
  obtain ⟨g, L, M, nb, nn, hK, hAm, hlo, hD, hP, hQ, hI, hS, e1, e2⟩ := I
  obtain ⟨hx, hb, hr, hml, hown, hts, hX, hbl, hlocks, hgv⟩ := id C0
  have hcs : cells ≤ room_1.cells ∧ slots ≤ room_1.slots := ⟨Nat.le_trans (Nat.le_add_right _ _) hc, Nat.le_trans (Nat.le_add_right _ _) hs⟩
  obtain ⟨a1, ha1⟩ : ∃ z : Int32, xs (x + 1).toNatClampNeg = z := ⟨_, rfl⟩
  obtain ⟨a2, ha2⟩ : ∃ z : Int32, xs (x + 2).toNatClampNeg = z := ⟨_, rfl⟩
  obtain ⟨a3, ha3⟩ : ∃ z : Int32, xs (x + 3).toNatClampNeg = z := ⟨_, rfl⟩
  refine lv_aload_n hx hb dL_law_835 rfl (lv_at hl 1 rfl) ?_
  refine lw_arg C0 hS hl hj.1 ha1 (by decide) dL_law_836 dL_law_837 dL_law_838 dL_law_839 dL_law_840 ?_
  refine lw_arg C0 hS hl hj.2.1 ha2 (by decide) dL_law_841 dL_law_842 dL_law_843 dL_law_844 dL_law_845 ?_
  refine lw_arg C0 hS hl hj.2.2.1 ha3 (by decide) dL_law_846 dL_law_847 dL_law_848 dL_law_849 dL_law_850 ?_
  refine x_callVi (own := RL) (c0 := Cond.initialized RX10) (As := [.int a1, .int a2, .int a3]) (rest := []) ⟨hx, hb, hml, hown, lw_ok hts⟩ hK hAm hD hP (va_S.mono (fun q h => Or.inr h) hS) mt_X10_looks wd_742 ⟨Nat.le_of_ble_eq_true rfl, Nat.le_of_ble_eq_true rfl⟩ (hQ.el 0 0 (xe_0 _ _)) (xc0 g 0) rfl (c_X10_looks l nb nn g L M hD hQ.el a1 a2 a3 hI.hn hI.hb hI.en.2.2.1) rfl hl.1 (Nat.le_of_ble_eq_true rfl) hcs dL_law_851 (by rw [e1]; rfl) (fun r u H locs hp hP hS => ?_)
  have hS := va_S.mono (lw_lo hD hlo) hS
  obtain ⟨hq, hfin⟩ := sp_looks hI a1 a2 a3 hp
  refine lv_aload_n hx hb dL_law_854 rfl (lv_at hl 2 rfl) ?_
  refine lw_arg C0 hS hl hj.1 ha1 (by decide) dL_law_855 dL_law_856 dL_law_857 dL_law_858 dL_law_859 ?_
  refine lw_arg C0 hS hl hj.2.1 ha2 (by decide) dL_law_860 dL_law_861 dL_law_862 dL_law_863 dL_law_864 ?_
  refine lw_arg C0 hS hl hj.2.2.1 ha3 (by decide) dL_law_865 dL_law_866 dL_law_867 dL_law_868 dL_law_869 ?_
  refine x_callVi (own := RL) (c0 := Cond.initialized RX10) (As := [.int a1, .int a2, .int a3]) (rest := [.int r]) ⟨hx, hb, hml, hown, lw_ok hts⟩ hK hAm hD hP (va_S.mono (fun q h => Or.inr h) hS) mt_X11_looks wd_756 ⟨Nat.le_of_ble_eq_true rfl, Nat.le_of_ble_eq_true rfl⟩ (hQ.el 40 0 (xe_40 _ _)) (xc40 g 0) rfl (c_X11_looks l nb nn g L u hD hQ.el a1 a2 a3 hq.2.2.2.2.2) rfl hl.1 (Nat.le_of_ble_eq_true rfl) hcs dL_law_870 (by rw [e2]; rfl) (fun r2 u2 H locs hp2 hP hS => ?_)
  obtain ⟨er, hI2⟩ := hfin r2 u2 hp2
  refine lv_icmp_eq (tgt := 1448) hx hb dL_law_873 (by decide) (fun _ => ?_) (fun q => absurd er q)
  exact W.widen (Nat.le_add_right _ _) (Nat.le_add_right _ _) (K _ _ ⟨g, L, u2, nb, nn, hK, hAm, hlo, hD, hP, hQ, hI2, va_S.mono (lw_lo hD hlo) hS, e1, e2⟩)
set_option maxRecDepth 100000 in
theorem lw_c18 (C0 : lw_At p s m meth c b N xs) (I : lwI s q1 q2 H locs) (hl : lv_has ls 4 (lwL b q1 q2 x)) (hj : lwN N x) (hc : cells + 3 ≤ 600000) (hs : slots + 37 ≤ 7302250) (K : ∀ (H : Heap) (locs : List Loc), lwI s q1 q2 H locs → W p l e room_1 s m #[Value.ref b] below meth c H locs (cells + 3) (slots + 37) Q (F0 m 1448 ls [])) : W p l e room_1 s m #[Value.ref b] below meth c H locs cells slots Q (F0 m 878 ls []) := by
  obtain ⟨g, L, M, nb, nn, hK, hAm, hlo, hD, hP, hQ, hI, hS, e1, e2⟩ := I
  obtain ⟨hx, hb, hr, hml, hown, hts, hX, hbl, hlocks, hgv⟩ := id C0
  have hcs : cells ≤ room_1.cells ∧ slots ≤ room_1.slots := ⟨Nat.le_trans (Nat.le_add_right _ _) hc, Nat.le_trans (Nat.le_add_right _ _) hs⟩
  obtain ⟨a1, ha1⟩ : ∃ z : Int32, xs (x + 1).toNatClampNeg = z := ⟨_, rfl⟩
  obtain ⟨a2, ha2⟩ : ∃ z : Int32, xs (x + 2).toNatClampNeg = z := ⟨_, rfl⟩
  obtain ⟨a3, ha3⟩ : ∃ z : Int32, xs (x + 3).toNatClampNeg = z := ⟨_, rfl⟩
  refine lv_aload_n hx hb dL_law_878 rfl (lv_at hl 1 rfl) ?_
  refine lw_arg C0 hS hl hj.1 ha1 (by decide) dL_law_879 dL_law_880 dL_law_881 dL_law_882 dL_law_883 ?_
  refine lw_arg C0 hS hl hj.2.1 ha2 (by decide) dL_law_884 dL_law_885 dL_law_886 dL_law_887 dL_law_888 ?_
  refine lw_arg C0 hS hl hj.2.2.1 ha3 (by decide) dL_law_889 dL_law_890 dL_law_891 dL_law_892 dL_law_893 ?_
  refine x_callVi (own := RL) (c0 := Cond.initialized RX10) (As := [.int a1, .int a2, .int a3]) (rest := []) ⟨hx, hb, hml, hown, lw_ok hts⟩ hK hAm hD hP (va_S.mono (fun q h => Or.inr h) hS) mt_X10_worth wd_772 ⟨Nat.le_of_ble_eq_true rfl, Nat.le_of_ble_eq_true rfl⟩ (hQ.el 0 0 (xe_0 _ _)) (xc0 g 0) rfl (c_X10_worth l nb nn g L M hD hQ.el a1 a2 a3 hI.hn hI.hb hI.en.2.2.1 hI.ba.2.1) rfl hl.1 (Nat.le_of_ble_eq_true rfl) hcs dL_law_894 (by rw [e1]; rfl) (fun r u H locs hp hP hS => ?_)
  have hS := va_S.mono (lw_lo hD hlo) hS
  obtain ⟨hq, hfin⟩ := sp_worth hI a1 a2 a3 hp
  refine lv_aload_n hx hb dL_law_897 rfl (lv_at hl 2 rfl) ?_
  refine lw_arg C0 hS hl hj.1 ha1 (by decide) dL_law_898 dL_law_899 dL_law_900 dL_law_901 dL_law_902 ?_
  refine lw_arg C0 hS hl hj.2.1 ha2 (by decide) dL_law_903 dL_law_904 dL_law_905 dL_law_906 dL_law_907 ?_
  refine lw_arg C0 hS hl hj.2.2.1 ha3 (by decide) dL_law_908 dL_law_909 dL_law_910 dL_law_911 dL_law_912 ?_
  refine x_callVi (own := RL) (c0 := Cond.initialized RX10) (As := [.int a1, .int a2, .int a3]) (rest := [.int r]) ⟨hx, hb, hml, hown, lw_ok hts⟩ hK hAm hD hP (va_S.mono (fun q h => Or.inr h) hS) mt_X11_worth wd_783 ⟨Nat.le_of_ble_eq_true rfl, Nat.le_of_ble_eq_true rfl⟩ (hQ.el 40 0 (xe_40 _ _)) (xc40 g 0) rfl (c_X11_worth l nb nn g L u hD hQ.el a1 a2 a3 hq.2.2.2.2.2) rfl hl.1 (Nat.le_of_ble_eq_true rfl) hcs dL_law_913 (by rw [e2]; rfl) (fun r2 u2 H locs hp2 hP hS => ?_)
  obtain ⟨er, hI2⟩ := hfin r2 u2 hp2
  refine lv_icmp_eq (tgt := 1448) hx hb dL_law_916 (by decide) (fun _ => ?_) (fun q => absurd er q)
  exact W.widen (Nat.le_add_right _ _) (Nat.le_add_right _ _) (K _ _ ⟨g, L, u2, nb, nn, hK, hAm, hlo, hD, hP, hQ, hI2, va_S.mono (lw_lo hD hlo) hS, e1, e2⟩)
set_option maxRecDepth 100000 in
theorem lw_c19 (C0 : lw_At p s m meth c b N xs) (I : lwI s q1 q2 H locs) (hl : lv_has ls 4 (lwL b q1 q2 x)) (hj : lwN N x) (hc : cells + 3 ≤ 600000) (hs : slots + 37 ≤ 7302250) (K : ∀ (H : Heap) (locs : List Loc), lwI s q1 q2 H locs → W p l e room_1 s m #[Value.ref b] below meth c H locs (cells + 3) (slots + 37) Q (F0 m 1448 ls [])) : W p l e room_1 s m #[Value.ref b] below meth c H locs cells slots Q (F0 m 921 ls []) := by
  obtain ⟨g, L, M, nb, nn, hK, hAm, hlo, hD, hP, hQ, hI, hS, e1, e2⟩ := I
  obtain ⟨hx, hb, hr, hml, hown, hts, hX, hbl, hlocks, hgv⟩ := id C0
  have hcs : cells ≤ room_1.cells ∧ slots ≤ room_1.slots := ⟨Nat.le_trans (Nat.le_add_right _ _) hc, Nat.le_trans (Nat.le_add_right _ _) hs⟩
  obtain ⟨a1, ha1⟩ : ∃ z : Int32, xs (x + 1).toNatClampNeg = z := ⟨_, rfl⟩
  obtain ⟨a2, ha2⟩ : ∃ z : Int32, xs (x + 2).toNatClampNeg = z := ⟨_, rfl⟩
  obtain ⟨a3, ha3⟩ : ∃ z : Int32, xs (x + 3).toNatClampNeg = z := ⟨_, rfl⟩
  refine lv_aload_n hx hb dL_law_921 rfl (lv_at hl 1 rfl) ?_
  refine lw_arg C0 hS hl hj.1 ha1 (by decide) dL_law_922 dL_law_923 dL_law_924 dL_law_925 dL_law_926 ?_
  refine lw_arg C0 hS hl hj.2.1 ha2 (by decide) dL_law_927 dL_law_928 dL_law_929 dL_law_930 dL_law_931 ?_
  refine lw_arg C0 hS hl hj.2.2.1 ha3 (by decide) dL_law_932 dL_law_933 dL_law_934 dL_law_935 dL_law_936 ?_
  refine x_callVi (own := RL) (c0 := Cond.initialized RX10) (As := [.int a1, .int a2, .int a3]) (rest := []) ⟨hx, hb, hml, hown, lw_ok hts⟩ hK hAm hD hP (va_S.mono (fun q h => Or.inr h) hS) mt_X10_hands wd_791 ⟨Nat.le_of_ble_eq_true rfl, Nat.le_of_ble_eq_true rfl⟩ (hQ.el 0 0 (xe_0 _ _)) (xc0 g 0) rfl (c_X10_hands l nb nn g L M hD hQ.el a1 a2 a3 hI.hn hI.no.2.1) rfl hl.1 (Nat.le_of_ble_eq_true rfl) hcs dL_law_937 (by rw [e1]; rfl) (fun r u H locs hp hP hS => ?_)
  have hS := va_S.mono (lw_lo hD hlo) hS
  obtain ⟨hq, hfin⟩ := sp_hands hI a1 a2 a3 hp
  refine lv_aload_n hx hb dL_law_940 rfl (lv_at hl 2 rfl) ?_
  refine lw_arg C0 hS hl hj.1 ha1 (by decide) dL_law_941 dL_law_942 dL_law_943 dL_law_944 dL_law_945 ?_
  refine lw_arg C0 hS hl hj.2.1 ha2 (by decide) dL_law_946 dL_law_947 dL_law_948 dL_law_949 dL_law_950 ?_
  refine lw_arg C0 hS hl hj.2.2.1 ha3 (by decide) dL_law_951 dL_law_952 dL_law_953 dL_law_954 dL_law_955 ?_
  refine x_callVi (own := RL) (c0 := Cond.initialized RX10) (As := [.int a1, .int a2, .int a3]) (rest := [.int r]) ⟨hx, hb, hml, hown, lw_ok hts⟩ hK hAm hD hP (va_S.mono (fun q h => Or.inr h) hS) mt_X11_hands wd_804 ⟨Nat.le_of_ble_eq_true rfl, Nat.le_of_ble_eq_true rfl⟩ (hQ.el 40 0 (xe_40 _ _)) (xc40 g 0) rfl (c_X11_hands l nb nn g L u hD hQ.el a1 a2 a3 hq.2.2.2.2.2.2.2.1 hq.2.2.2.2.2.2.2.2.1 hq.2.2.2.2.2.2.2.2.2.2.2.2.1) rfl hl.1 (Nat.le_of_ble_eq_true rfl) hcs dL_law_956 (by rw [e2]; rfl) (fun r2 u2 H locs hp2 hP hS => ?_)
  obtain ⟨er, hI2⟩ := hfin r2 u2 hp2
  refine lv_icmp_eq (tgt := 1448) hx hb dL_law_959 (by decide) (fun _ => ?_) (fun q => absurd er q)
  exact W.widen (Nat.le_add_right _ _) (Nat.le_add_right _ _) (K _ _ ⟨g, L, u2, nb, nn, hK, hAm, hlo, hD, hP, hQ, hI2, va_S.mono (lw_lo hD hlo) hS, e1, e2⟩)
set_option maxRecDepth 100000 in
theorem lw_c20 (C0 : lw_At p s m meth c b N xs) (I : lwI s q1 q2 H locs) (hl : lv_has ls 4 (lwL b q1 q2 x)) (hj : lwN N x) (hc : cells + 3 ≤ 600000) (hs : slots + 37 ≤ 7302250) (K : ∀ (H : Heap) (locs : List Loc), lwI s q1 q2 H locs → W p l e room_1 s m #[Value.ref b] below meth c H locs (cells + 3) (slots + 37) Q (F0 m 1448 ls [])) : W p l e room_1 s m #[Value.ref b] below meth c H locs cells slots Q (F0 m 964 ls []) := by
  obtain ⟨g, L, M, nb, nn, hK, hAm, hlo, hD, hP, hQ, hI, hS, e1, e2⟩ := I
  obtain ⟨hx, hb, hr, hml, hown, hts, hX, hbl, hlocks, hgv⟩ := id C0
  have hcs : cells ≤ room_1.cells ∧ slots ≤ room_1.slots := ⟨Nat.le_trans (Nat.le_add_right _ _) hc, Nat.le_trans (Nat.le_add_right _ _) hs⟩
  obtain ⟨a1, ha1⟩ : ∃ z : Int32, xs (x + 1).toNatClampNeg = z := ⟨_, rfl⟩
  obtain ⟨a2, ha2⟩ : ∃ z : Int32, xs (x + 2).toNatClampNeg = z := ⟨_, rfl⟩
  obtain ⟨a3, ha3⟩ : ∃ z : Int32, xs (x + 3).toNatClampNeg = z := ⟨_, rfl⟩
  refine lv_aload_n hx hb dL_law_964 rfl (lv_at hl 1 rfl) ?_
  refine lw_arg C0 hS hl hj.1 ha1 (by decide) dL_law_965 dL_law_966 dL_law_967 dL_law_968 dL_law_969 ?_
  refine lw_arg C0 hS hl hj.2.1 ha2 (by decide) dL_law_970 dL_law_971 dL_law_972 dL_law_973 dL_law_974 ?_
  refine lw_arg C0 hS hl hj.2.2.1 ha3 (by decide) dL_law_975 dL_law_976 dL_law_977 dL_law_978 dL_law_979 ?_
  refine x_callVi (own := RL) (c0 := Cond.initialized RX10) (As := [.int a1, .int a2, .int a3]) (rest := []) ⟨hx, hb, hml, hown, lw_ok hts⟩ hK hAm hD hP (va_S.mono (fun q h => Or.inr h) hS) mt_X10_trader wd_808 ⟨Nat.le_of_ble_eq_true rfl, Nat.le_of_ble_eq_true rfl⟩ (hQ.el 0 0 (xe_0 _ _)) (xc0 g 0) rfl (c_X10_trader l nb nn g L M hD hQ.el a1 a2 a3 hI.ht) rfl hl.1 (Nat.le_of_ble_eq_true rfl) hcs dL_law_980 (by rw [e1]; rfl) (fun r u H locs hp hP hS => ?_)
  have hS := va_S.mono (lw_lo hD hlo) hS
  obtain ⟨hq, hfin⟩ := sp_trader hI a1 a2 a3 hp
  refine lv_aload_n hx hb dL_law_983 rfl (lv_at hl 2 rfl) ?_
  refine lw_arg C0 hS hl hj.1 ha1 (by decide) dL_law_984 dL_law_985 dL_law_986 dL_law_987 dL_law_988 ?_
  refine lw_arg C0 hS hl hj.2.1 ha2 (by decide) dL_law_989 dL_law_990 dL_law_991 dL_law_992 dL_law_993 ?_
  refine lw_arg C0 hS hl hj.2.2.1 ha3 (by decide) dL_law_994 dL_law_995 dL_law_996 dL_law_997 dL_law_998 ?_
  refine x_callVi (own := RL) (c0 := Cond.initialized RX10) (As := [.int a1, .int a2, .int a3]) (rest := [.int r]) ⟨hx, hb, hml, hown, lw_ok hts⟩ hK hAm hD hP (va_S.mono (fun q h => Or.inr h) hS) mt_X11_trader wd_814 ⟨Nat.le_of_ble_eq_true rfl, Nat.le_of_ble_eq_true rfl⟩ (hQ.el 40 0 (xe_40 _ _)) (xc40 g 0) rfl (c_X11_trader l nb nn g L u hD hQ.el a1 a2 a3 ) rfl hl.1 (Nat.le_of_ble_eq_true rfl) hcs dL_law_999 (by rw [e2]; rfl) (fun r2 u2 H locs hp2 hP hS => ?_)
  obtain ⟨er, hI2⟩ := hfin r2 u2 hp2
  refine lv_icmp_eq (tgt := 1448) hx hb dL_law_1002 (by decide) (fun _ => ?_) (fun q => absurd er q)
  exact W.widen (Nat.le_add_right _ _) (Nat.le_add_right _ _) (K _ _ ⟨g, L, u2, nb, nn, hK, hAm, hlo, hD, hP, hQ, hI2, va_S.mono (lw_lo hD hlo) hS, e1, e2⟩)
set_option maxRecDepth 100000 in
theorem lw_c21 (C0 : lw_At p s m meth c b N xs) (I : lwI s q1 q2 H locs) (hl : lv_has ls 4 (lwL b q1 q2 x)) (hj : lwN N x) (hc : cells + 3 ≤ 600000) (hs : slots + 37 ≤ 7302250) (K : ∀ (H : Heap) (locs : List Loc), lwI s q1 q2 H locs → W p l e room_1 s m #[Value.ref b] below meth c H locs (cells + 3) (slots + 37) Q (F0 m 1448 ls [])) : W p l e room_1 s m #[Value.ref b] below meth c H locs cells slots Q (F0 m 1007 ls []) := by
  obtain ⟨g, L, M, nb, nn, hK, hAm, hlo, hD, hP, hQ, hI, hS, e1, e2⟩ := I
  obtain ⟨hx, hb, hr, hml, hown, hts, hX, hbl, hlocks, hgv⟩ := id C0
  have hcs : cells ≤ room_1.cells ∧ slots ≤ room_1.slots := ⟨Nat.le_trans (Nat.le_add_right _ _) hc, Nat.le_trans (Nat.le_add_right _ _) hs⟩
  obtain ⟨a1, ha1⟩ : ∃ z : Int32, xs (x + 1).toNatClampNeg = z := ⟨_, rfl⟩
  obtain ⟨a2, ha2⟩ : ∃ z : Int32, xs (x + 2).toNatClampNeg = z := ⟨_, rfl⟩
  obtain ⟨a3, ha3⟩ : ∃ z : Int32, xs (x + 3).toNatClampNeg = z := ⟨_, rfl⟩
  refine lv_aload_n hx hb dL_law_1007 rfl (lv_at hl 1 rfl) ?_
  refine lw_arg C0 hS hl hj.1 ha1 (by decide) dL_law_1008 dL_law_1009 dL_law_1010 dL_law_1011 dL_law_1012 ?_
  refine lw_arg C0 hS hl hj.2.1 ha2 (by decide) dL_law_1013 dL_law_1014 dL_law_1015 dL_law_1016 dL_law_1017 ?_
  refine lw_arg C0 hS hl hj.2.2.1 ha3 (by decide) dL_law_1018 dL_law_1019 dL_law_1020 dL_law_1021 dL_law_1022 ?_
  refine x_callVi (own := RL) (c0 := Cond.initialized RX10) (As := [.int a1, .int a2, .int a3]) (rest := []) ⟨hx, hb, hml, hown, lw_ok hts⟩ hK hAm hD hP (va_S.mono (fun q h => Or.inr h) hS) mt_X10_pay wd_818 ⟨Nat.le_of_ble_eq_true rfl, Nat.le_of_ble_eq_true rfl⟩ (hQ.el 0 0 (xe_0 _ _)) (xc0 g 0) rfl (c_X10_pay l nb nn g L M hD hQ.el a1 a2 a3 hI.hn hI.hb hI.ht hI.en.2.2.1 hI.ba.2.1 hI.tr.1 hI.no.2.2.2.1) rfl hl.1 (Nat.le_of_ble_eq_true rfl) hcs dL_law_1023 (by rw [e1]; rfl) (fun r u H locs hp hP hS => ?_)
  have hS := va_S.mono (lw_lo hD hlo) hS
  obtain ⟨hq, hfin⟩ := sp_pay hI a1 a2 a3 hp
  refine lv_aload_n hx hb dL_law_1026 rfl (lv_at hl 2 rfl) ?_
  refine lw_arg C0 hS hl hj.1 ha1 (by decide) dL_law_1027 dL_law_1028 dL_law_1029 dL_law_1030 dL_law_1031 ?_
  refine lw_arg C0 hS hl hj.2.1 ha2 (by decide) dL_law_1032 dL_law_1033 dL_law_1034 dL_law_1035 dL_law_1036 ?_
  refine lw_arg C0 hS hl hj.2.2.1 ha3 (by decide) dL_law_1037 dL_law_1038 dL_law_1039 dL_law_1040 dL_law_1041 ?_
  refine x_callVi (own := RL) (c0 := Cond.initialized RX10) (As := [.int a1, .int a2, .int a3]) (rest := [.int r]) ⟨hx, hb, hml, hown, lw_ok hts⟩ hK hAm hD hP (va_S.mono (fun q h => Or.inr h) hS) mt_X11_pay wd_835 ⟨Nat.le_of_ble_eq_true rfl, Nat.le_of_ble_eq_true rfl⟩ (hQ.el 40 0 (xe_40 _ _)) (xc40 g 0) rfl (c_X11_pay l nb nn g L u hD hQ.el a1 a2 a3 hq.2.2.2.2.2) rfl hl.1 (Nat.le_of_ble_eq_true rfl) hcs dL_law_1042 (by rw [e2]; rfl) (fun r2 u2 H locs hp2 hP hS => ?_)
  obtain ⟨er, hI2⟩ := hfin r2 u2 hp2
  refine lv_icmp_eq (tgt := 1448) hx hb dL_law_1045 (by decide) (fun _ => ?_) (fun q => absurd er q)
  exact W.widen (Nat.le_add_right _ _) (Nat.le_add_right _ _) (K _ _ ⟨g, L, u2, nb, nn, hK, hAm, hlo, hD, hP, hQ, hI2, va_S.mono (lw_lo hD hlo) hS, e1, e2⟩)
set_option maxRecDepth 100000 in
theorem lw_c22 (C0 : lw_At p s m meth c b N xs) (I : lwI s q1 q2 H locs) (hl : lv_has ls 4 (lwL b q1 q2 x)) (hj : lwN N x) (hc : cells + 3 ≤ 600000) (hs : slots + 37 ≤ 7302250) (K : ∀ (H : Heap) (locs : List Loc), lwI s q1 q2 H locs → W p l e room_1 s m #[Value.ref b] below meth c H locs (cells + 3) (slots + 37) Q (F0 m 1448 ls [])) : W p l e room_1 s m #[Value.ref b] below meth c H locs cells slots Q (F0 m 1050 ls []) := by
  obtain ⟨g, L, M, nb, nn, hK, hAm, hlo, hD, hP, hQ, hI, hS, e1, e2⟩ := I
  obtain ⟨hx, hb, hr, hml, hown, hts, hX, hbl, hlocks, hgv⟩ := id C0
  have hcs : cells ≤ room_1.cells ∧ slots ≤ room_1.slots := ⟨Nat.le_trans (Nat.le_add_right _ _) hc, Nat.le_trans (Nat.le_add_right _ _) hs⟩
  obtain ⟨a1, ha1⟩ : ∃ z : Int32, xs (x + 1).toNatClampNeg = z := ⟨_, rfl⟩
  obtain ⟨a2, ha2⟩ : ∃ z : Int32, xs (x + 2).toNatClampNeg = z := ⟨_, rfl⟩
  refine lv_aload_n hx hb dL_law_1050 rfl (lv_at hl 1 rfl) ?_
  refine lw_arg C0 hS hl hj.1 ha1 (by decide) dL_law_1051 dL_law_1052 dL_law_1053 dL_law_1054 dL_law_1055 ?_
  refine lw_arg C0 hS hl hj.2.1 ha2 (by decide) dL_law_1056 dL_law_1057 dL_law_1058 dL_law_1059 dL_law_1060 ?_
  refine x_callVi (own := RL) (c0 := Cond.initialized RX10) (As := [.int a1, .int a2]) (rest := []) ⟨hx, hb, hml, hown, lw_ok hts⟩ hK hAm hD hP (va_S.mono (fun q h => Or.inr h) hS) mt_X10_bears wd_844 ⟨Nat.le_of_ble_eq_true rfl, Nat.le_of_ble_eq_true rfl⟩ (hQ.el 0 0 (xe_0 _ _)) (xc0 g 0) rfl (c_X10_bears l nb nn g L M hD hQ.el a1 a2 hI.hn hI.no.2.1) rfl hl.1 (Nat.le_of_ble_eq_true rfl) hcs dL_law_1061 (by rw [e1]; rfl) (fun r u H locs hp hP hS => ?_)
  have hS := va_S.mono (lw_lo hD hlo) hS
  obtain ⟨hq, hfin⟩ := sp_bears hI a1 a2 hp
  refine lv_aload_n hx hb dL_law_1064 rfl (lv_at hl 2 rfl) ?_
  refine lw_arg C0 hS hl hj.1 ha1 (by decide) dL_law_1065 dL_law_1066 dL_law_1067 dL_law_1068 dL_law_1069 ?_
  refine lw_arg C0 hS hl hj.2.1 ha2 (by decide) dL_law_1070 dL_law_1071 dL_law_1072 dL_law_1073 dL_law_1074 ?_
  refine x_callVi (own := RL) (c0 := Cond.initialized RX10) (As := [.int a1, .int a2]) (rest := [.int r]) ⟨hx, hb, hml, hown, lw_ok hts⟩ hK hAm hD hP (va_S.mono (fun q h => Or.inr h) hS) mt_X11_bears wd_855 ⟨Nat.le_of_ble_eq_true rfl, Nat.le_of_ble_eq_true rfl⟩ (hQ.el 40 0 (xe_40 _ _)) (xc40 g 0) rfl (c_X11_bears l nb nn g L u hD hQ.el a1 a2 hq.2.2.2.2.2.2.2.1 hq.2.2.2.2.2.2.2.2.1 hq.2.2.2.2.2.2.2.2.2.2.2.2.1 hq.2.2.2.1) rfl hl.1 (Nat.le_of_ble_eq_true rfl) hcs dL_law_1075 (by rw [e2]; rfl) (fun r2 u2 H locs hp2 hP hS => ?_)
  obtain ⟨er, hI2⟩ := hfin r2 u2 hp2
  refine lv_icmp_eq (tgt := 1448) hx hb dL_law_1078 (by decide) (fun _ => ?_) (fun q => absurd er q)
  exact W.widen (Nat.le_add_right _ _) (Nat.le_add_right _ _) (K _ _ ⟨g, L, u2, nb, nn, hK, hAm, hlo, hD, hP, hQ, hI2, va_S.mono (lw_lo hD hlo) hS, e1, e2⟩)
set_option maxRecDepth 100000 in
theorem lw_c23 (C0 : lw_At p s m meth c b N xs) (I : lwI s q1 q2 H locs) (hl : lv_has ls 4 (lwL b q1 q2 x)) (hj : lwN N x) (hc : cells + 3 ≤ 600000) (hs : slots + 37 ≤ 7302250) (K : ∀ (H : Heap) (locs : List Loc), lwI s q1 q2 H locs → W p l e room_1 s m #[Value.ref b] below meth c H locs (cells + 3) (slots + 37) Q (F0 m 1448 ls [])) : W p l e room_1 s m #[Value.ref b] below meth c H locs cells slots Q (F0 m 1083 ls []) := by
  obtain ⟨g, L, M, nb, nn, hK, hAm, hlo, hD, hP, hQ, hI, hS, e1, e2⟩ := I
  obtain ⟨hx, hb, hr, hml, hown, hts, hX, hbl, hlocks, hgv⟩ := id C0
  have hcs : cells ≤ room_1.cells ∧ slots ≤ room_1.slots := ⟨Nat.le_trans (Nat.le_add_right _ _) hc, Nat.le_trans (Nat.le_add_right _ _) hs⟩
  obtain ⟨a1, ha1⟩ : ∃ z : Int32, xs (x + 1).toNatClampNeg = z := ⟨_, rfl⟩
  refine lv_aload_n hx hb dL_law_1083 rfl (lv_at hl 1 rfl) ?_
  refine lw_arg C0 hS hl hj.1 ha1 (by decide) dL_law_1084 dL_law_1085 dL_law_1086 dL_law_1087 dL_law_1088 ?_
  refine x_callVi (own := RL) (c0 := Cond.initialized RX10) (As := [.int a1]) (rest := []) ⟨hx, hb, hml, hown, lw_ok hts⟩ hK hAm hD hP (va_S.mono (fun q h => Or.inr h) hS) mt_X10_home wd_860 ⟨Nat.le_of_ble_eq_true rfl, Nat.le_of_ble_eq_true rfl⟩ (hQ.el 0 0 (xe_0 _ _)) (xc0 g 0) rfl (c_X10_home l nb nn g L M hD hQ.el a1 hI.hn hI.hb) rfl hl.1 (Nat.le_of_ble_eq_true rfl) hcs dL_law_1089 (by rw [e1]; rfl) (fun r u H locs hp hP hS => ?_)
  have hS := va_S.mono (lw_lo hD hlo) hS
  obtain ⟨hq, hfin⟩ := sp_home hI a1 hp
  refine lv_aload_n hx hb dL_law_1092 rfl (lv_at hl 2 rfl) ?_
  refine lw_arg C0 hS hl hj.1 ha1 (by decide) dL_law_1093 dL_law_1094 dL_law_1095 dL_law_1096 dL_law_1097 ?_
  refine x_callVi (own := RL) (c0 := Cond.initialized RX10) (As := [.int a1]) (rest := [.int r]) ⟨hx, hb, hml, hown, lw_ok hts⟩ hK hAm hD hP (va_S.mono (fun q h => Or.inr h) hS) mt_X11_home wd_868 ⟨Nat.le_of_ble_eq_true rfl, Nat.le_of_ble_eq_true rfl⟩ (hQ.el 40 0 (xe_40 _ _)) (xc40 g 0) rfl (c_X11_home l nb nn g L u hD hQ.el a1 hq.2.2.2.2.2.2.2.1 hq.2.2.2.2.2.2.2.2.1 hq.2.2.2.2.2.2.1 (fun j => (hq.2.2.2.2.2.2.2.2.2.2.2.1 j).1)) rfl hl.1 (Nat.le_of_ble_eq_true rfl) hcs dL_law_1098 (by rw [e2]; rfl) (fun r2 u2 H locs hp2 hP hS => ?_)
  obtain ⟨er, hI2⟩ := hfin r2 u2 hp2
  refine lv_icmp_eq (tgt := 1448) hx hb dL_law_1101 (by decide) (fun _ => ?_) (fun q => absurd er q)
  exact W.widen (Nat.le_add_right _ _) (Nat.le_add_right _ _) (K _ _ ⟨g, L, u2, nb, nn, hK, hAm, hlo, hD, hP, hQ, hI2, va_S.mono (lw_lo hD hlo) hS, e1, e2⟩)
set_option maxRecDepth 100000 in
theorem lw_c24 (C0 : lw_At p s m meth c b N xs) (I : lwI s q1 q2 H locs) (hl : lv_has ls 4 (lwL b q1 q2 x)) (hj : lwN N x) (hc : cells + 3 ≤ 600000) (hs : slots + 37 ≤ 7302250) (K : ∀ (H : Heap) (locs : List Loc), lwI s q1 q2 H locs → W p l e room_1 s m #[Value.ref b] below meth c H locs (cells + 3) (slots + 37) Q (F0 m 1448 ls [])) : W p l e room_1 s m #[Value.ref b] below meth c H locs cells slots Q (F0 m 1106 ls []) := by
  obtain ⟨g, L, M, nb, nn, hK, hAm, hlo, hD, hP, hQ, hI, hS, e1, e2⟩ := I
  obtain ⟨hx, hb, hr, hml, hown, hts, hX, hbl, hlocks, hgv⟩ := id C0
  have hcs : cells ≤ room_1.cells ∧ slots ≤ room_1.slots := ⟨Nat.le_trans (Nat.le_add_right _ _) hc, Nat.le_trans (Nat.le_add_right _ _) hs⟩
  obtain ⟨a1, ha1⟩ : ∃ z : Int32, xs (x + 1).toNatClampNeg = z := ⟨_, rfl⟩
  obtain ⟨a2, ha2⟩ : ∃ z : Int32, xs (x + 2).toNatClampNeg = z := ⟨_, rfl⟩
  refine lv_aload_n hx hb dL_law_1106 rfl (lv_at hl 1 rfl) ?_
  refine lw_arg C0 hS hl hj.1 ha1 (by decide) dL_law_1107 dL_law_1108 dL_law_1109 dL_law_1110 dL_law_1111 ?_
  refine lw_arg C0 hS hl hj.2.1 ha2 (by decide) dL_law_1112 dL_law_1113 dL_law_1114 dL_law_1115 dL_law_1116 ?_
  refine x_callVi (own := RL) (c0 := Cond.initialized RX10) (As := [.int a1, .int a2]) (rest := []) ⟨hx, hb, hml, hown, lw_ok hts⟩ hK hAm hD hP (va_S.mono (fun q h => Or.inr h) hS) mt_X10_cut wd_872 ⟨Nat.le_of_ble_eq_true rfl, Nat.le_of_ble_eq_true rfl⟩ (hQ.el 0 0 (xe_0 _ _)) (xc0 g 0) rfl (c_X10_cut l nb nn g L M hD hQ.el a1 a2 hI.hn hI.ht) rfl hl.1 (Nat.le_of_ble_eq_true rfl) hcs dL_law_1117 (by rw [e1]; rfl) (fun r u H locs hp hP hS => ?_)
  have hS := va_S.mono (lw_lo hD hlo) hS
  obtain ⟨hq, hfin⟩ := sp_cut hI a1 a2 hp
  refine lv_aload_n hx hb dL_law_1120 rfl (lv_at hl 2 rfl) ?_
  refine lw_arg C0 hS hl hj.1 ha1 (by decide) dL_law_1121 dL_law_1122 dL_law_1123 dL_law_1124 dL_law_1125 ?_
  refine lw_arg C0 hS hl hj.2.1 ha2 (by decide) dL_law_1126 dL_law_1127 dL_law_1128 dL_law_1129 dL_law_1130 ?_
  refine x_callVi (own := RL) (c0 := Cond.initialized RX10) (As := [.int a1, .int a2]) (rest := [.int r]) ⟨hx, hb, hml, hown, lw_ok hts⟩ hK hAm hD hP (va_S.mono (fun q h => Or.inr h) hS) mt_X11_cut wd_881 ⟨Nat.le_of_ble_eq_true rfl, Nat.le_of_ble_eq_true rfl⟩ (hQ.el 40 0 (xe_40 _ _)) (xc40 g 0) rfl (c_X11_cut l nb nn g L u hD hQ.el a1 a2 hq.2.2.2.2.2.2.2.1 hq.2.2.2.2.2.2.2.2.1) rfl hl.1 (Nat.le_of_ble_eq_true rfl) hcs dL_law_1131 (by rw [e2]; rfl) (fun r2 u2 H locs hp2 hP hS => ?_)
  obtain ⟨er, hI2⟩ := hfin r2 u2 hp2
  refine lv_icmp_eq (tgt := 1448) hx hb dL_law_1134 (by decide) (fun _ => ?_) (fun q => absurd er q)
  exact W.widen (Nat.le_add_right _ _) (Nat.le_add_right _ _) (K _ _ ⟨g, L, u2, nb, nn, hK, hAm, hlo, hD, hP, hQ, hI2, va_S.mono (lw_lo hD hlo) hS, e1, e2⟩)
set_option maxRecDepth 100000 in
theorem lw_c25 (C0 : lw_At p s m meth c b N xs) (I : lwI s q1 q2 H locs) (hl : lv_has ls 4 (lwL b q1 q2 x)) (hj : lwN N x) (hc : cells + 3 ≤ 600000) (hs : slots + 37 ≤ 7302250) (K : ∀ (H : Heap) (locs : List Loc), lwI s q1 q2 H locs → W p l e room_1 s m #[Value.ref b] below meth c H locs (cells + 3) (slots + 37) Q (F0 m 1448 ls [])) : W p l e room_1 s m #[Value.ref b] below meth c H locs cells slots Q (F0 m 1139 ls []) := by
  obtain ⟨g, L, M, nb, nn, hK, hAm, hlo, hD, hP, hQ, hI, hS, e1, e2⟩ := I
  obtain ⟨hx, hb, hr, hml, hown, hts, hX, hbl, hlocks, hgv⟩ := id C0
  have hcs : cells ≤ room_1.cells ∧ slots ≤ room_1.slots := ⟨Nat.le_trans (Nat.le_add_right _ _) hc, Nat.le_trans (Nat.le_add_right _ _) hs⟩
  obtain ⟨a1, ha1⟩ : ∃ z : Int32, xs (x + 1).toNatClampNeg = z := ⟨_, rfl⟩
  obtain ⟨a2, ha2⟩ : ∃ z : Int32, xs (x + 2).toNatClampNeg = z := ⟨_, rfl⟩
  obtain ⟨a3, ha3⟩ : ∃ z : Int32, xs (x + 3).toNatClampNeg = z := ⟨_, rfl⟩
  refine lv_aload_n hx hb dL_law_1139 rfl (lv_at hl 1 rfl) ?_
  refine lw_arg C0 hS hl hj.1 ha1 (by decide) dL_law_1140 dL_law_1141 dL_law_1142 dL_law_1143 dL_law_1144 ?_
  refine lw_arg C0 hS hl hj.2.1 ha2 (by decide) dL_law_1145 dL_law_1146 dL_law_1147 dL_law_1148 dL_law_1149 ?_
  refine lw_arg C0 hS hl hj.2.2.1 ha3 (by decide) dL_law_1150 dL_law_1151 dL_law_1152 dL_law_1153 dL_law_1154 ?_
  refine x_callVi (own := RL) (c0 := Cond.initialized RX10) (As := [.int a1, .int a2, .int a3]) (rest := []) ⟨hx, hb, hml, hown, lw_ok hts⟩ hK hAm hD hP (va_S.mono (fun q h => Or.inr h) hS) mt_X10_half wd_885 ⟨Nat.le_of_ble_eq_true rfl, Nat.le_of_ble_eq_true rfl⟩ (hQ.el 0 0 (xe_0 _ _)) (xc0 g 0) rfl (c_X10_half l nb nn g L M hD hQ.el a1 a2 a3 hI.hn hI.ht hI.no.2.1) rfl hl.1 (Nat.le_of_ble_eq_true rfl) hcs dL_law_1155 (by rw [e1]; rfl) (fun r u H locs hp hP hS => ?_)
  have hS := va_S.mono (lw_lo hD hlo) hS
  obtain ⟨hq, hfin⟩ := sp_half hI a1 a2 a3 hp
  refine lv_aload_n hx hb dL_law_1158 rfl (lv_at hl 2 rfl) ?_
  refine lw_arg C0 hS hl hj.1 ha1 (by decide) dL_law_1159 dL_law_1160 dL_law_1161 dL_law_1162 dL_law_1163 ?_
  refine lw_arg C0 hS hl hj.2.1 ha2 (by decide) dL_law_1164 dL_law_1165 dL_law_1166 dL_law_1167 dL_law_1168 ?_
  refine lw_arg C0 hS hl hj.2.2.1 ha3 (by decide) dL_law_1169 dL_law_1170 dL_law_1171 dL_law_1172 dL_law_1173 ?_
  refine x_callVi (own := RL) (c0 := Cond.initialized RX10) (As := [.int a1, .int a2, .int a3]) (rest := [.int r]) ⟨hx, hb, hml, hown, lw_ok hts⟩ hK hAm hD hP (va_S.mono (fun q h => Or.inr h) hS) mt_X11_half wd_902 ⟨Nat.le_of_ble_eq_true rfl, Nat.le_of_ble_eq_true rfl⟩ (hQ.el 40 0 (xe_40 _ _)) (xc40 g 0) rfl (c_X11_half l nb nn g L u hD hQ.el a1 a2 a3 hq.2.2.2.2.2.2.2.1 hq.2.2.2.2.2.2.2.2.1 hq.2.2.2.2.2.2.2.2.2.2.2.2.1) rfl hl.1 (Nat.le_of_ble_eq_true rfl) hcs dL_law_1174 (by rw [e2]; rfl) (fun r2 u2 H locs hp2 hP hS => ?_)
  obtain ⟨er, hI2⟩ := hfin r2 u2 hp2
  refine lv_icmp_eq (tgt := 1448) hx hb dL_law_1177 (by decide) (fun _ => ?_) (fun q => absurd er q)
  exact W.widen (Nat.le_add_right _ _) (Nat.le_add_right _ _) (K _ _ ⟨g, L, u2, nb, nn, hK, hAm, hlo, hD, hP, hQ, hI2, va_S.mono (lw_lo hD hlo) hS, e1, e2⟩)
set_option maxRecDepth 100000 in
theorem lw_c26 (C0 : lw_At p s m meth c b N xs) (I : lwI s q1 q2 H locs) (hl : lv_has ls 4 (lwL b q1 q2 x)) (hj : lwN N x) (hc : cells + 3 ≤ 600000) (hs : slots + 37 ≤ 7302250) (K : ∀ (H : Heap) (locs : List Loc), lwI s q1 q2 H locs → W p l e room_1 s m #[Value.ref b] below meth c H locs (cells + 3) (slots + 37) Q (F0 m 1448 ls [])) : W p l e room_1 s m #[Value.ref b] below meth c H locs cells slots Q (F0 m 1182 ls []) := by
  obtain ⟨g, L, M, nb, nn, hK, hAm, hlo, hD, hP, hQ, hI, hS, e1, e2⟩ := I
  obtain ⟨hx, hb, hr, hml, hown, hts, hX, hbl, hlocks, hgv⟩ := id C0
  have hcs : cells ≤ room_1.cells ∧ slots ≤ room_1.slots := ⟨Nat.le_trans (Nat.le_add_right _ _) hc, Nat.le_trans (Nat.le_add_right _ _) hs⟩
  obtain ⟨a1, ha1⟩ : ∃ z : Int32, xs (x + 1).toNatClampNeg = z := ⟨_, rfl⟩
  obtain ⟨a2, ha2⟩ : ∃ z : Int32, xs (x + 2).toNatClampNeg = z := ⟨_, rfl⟩
  obtain ⟨a3, ha3⟩ : ∃ z : Int32, xs (x + 3).toNatClampNeg = z := ⟨_, rfl⟩
  refine lv_aload_n hx hb dL_law_1182 rfl (lv_at hl 1 rfl) ?_
  refine lw_arg C0 hS hl hj.1 ha1 (by decide) dL_law_1183 dL_law_1184 dL_law_1185 dL_law_1186 dL_law_1187 ?_
  refine lw_arg C0 hS hl hj.2.1 ha2 (by decide) dL_law_1188 dL_law_1189 dL_law_1190 dL_law_1191 dL_law_1192 ?_
  refine lw_arg C0 hS hl hj.2.2.1 ha3 (by decide) dL_law_1193 dL_law_1194 dL_law_1195 dL_law_1196 dL_law_1197 ?_
  refine x_callVi (own := RL) (c0 := Cond.initialized RX10) (As := [.int a1, .int a2, .int a3]) (rest := []) ⟨hx, hb, hml, hown, lw_ok hts⟩ hK hAm hD hP (va_S.mono (fun q h => Or.inr h) hS) mt_X10_rates wd_906 ⟨Nat.le_of_ble_eq_true rfl, Nat.le_of_ble_eq_true rfl⟩ (hQ.el 0 0 (xe_0 _ _)) (xc0 g 0) rfl (c_X10_rates l nb nn g L M hD hQ.el a1 a2 a3 hI.hs hI.sh.1) rfl hl.1 (Nat.le_of_ble_eq_true rfl) hcs dL_law_1198 (by rw [e1]; rfl) (fun r u H locs hp hP hS => ?_)
  have hS := va_S.mono (lw_lo hD hlo) hS
  obtain ⟨hq, hfin⟩ := sp_rates hI a1 a2 a3 hp
  refine lv_aload_n hx hb dL_law_1201 rfl (lv_at hl 2 rfl) ?_
  refine lw_arg C0 hS hl hj.1 ha1 (by decide) dL_law_1202 dL_law_1203 dL_law_1204 dL_law_1205 dL_law_1206 ?_
  refine lw_arg C0 hS hl hj.2.1 ha2 (by decide) dL_law_1207 dL_law_1208 dL_law_1209 dL_law_1210 dL_law_1211 ?_
  refine lw_arg C0 hS hl hj.2.2.1 ha3 (by decide) dL_law_1212 dL_law_1213 dL_law_1214 dL_law_1215 dL_law_1216 ?_
  refine x_callVi (own := RL) (c0 := Cond.initialized RX10) (As := [.int a1, .int a2, .int a3]) (rest := [.int r]) ⟨hx, hb, hml, hown, lw_ok hts⟩ hK hAm hD hP (va_S.mono (fun q h => Or.inr h) hS) mt_X11_rates wd_910 ⟨Nat.le_of_ble_eq_true rfl, Nat.le_of_ble_eq_true rfl⟩ (hQ.el 40 0 (xe_40 _ _)) (xc40 g 0) rfl (c_X11_rates l nb nn g L u hD hQ.el a1 a2 a3 hq.1) rfl hl.1 (Nat.le_of_ble_eq_true rfl) hcs dL_law_1217 (by rw [e2]; rfl) (fun r2 u2 H locs hp2 hP hS => ?_)
  obtain ⟨er, hI2⟩ := hfin r2 u2 hp2
  refine lv_icmp_eq (tgt := 1448) hx hb dL_law_1220 (by decide) (fun _ => ?_) (fun q => absurd er q)
  exact W.widen (Nat.le_add_right _ _) (Nat.le_add_right _ _) (K _ _ ⟨g, L, u2, nb, nn, hK, hAm, hlo, hD, hP, hQ, hI2, va_S.mono (lw_lo hD hlo) hS, e1, e2⟩)
set_option maxRecDepth 100000 in
theorem lw_c27 (C0 : lw_At p s m meth c b N xs) (I : lwI s q1 q2 H locs) (hl : lv_has ls 4 (lwL b q1 q2 x)) (hj : lwN N x) (hc : cells + 3 ≤ 600000) (hs : slots + 37 ≤ 7302250) (K : ∀ (H : Heap) (locs : List Loc), lwI s q1 q2 H locs → W p l e room_1 s m #[Value.ref b] below meth c H locs (cells + 3) (slots + 37) Q (F0 m 1448 ls [])) : W p l e room_1 s m #[Value.ref b] below meth c H locs cells slots Q (F0 m 1225 ls []) := by
  obtain ⟨g, L, M, nb, nn, hK, hAm, hlo, hD, hP, hQ, hI, hS, e1, e2⟩ := I
  obtain ⟨hx, hb, hr, hml, hown, hts, hX, hbl, hlocks, hgv⟩ := id C0
  have hcs : cells ≤ room_1.cells ∧ slots ≤ room_1.slots := ⟨Nat.le_trans (Nat.le_add_right _ _) hc, Nat.le_trans (Nat.le_add_right _ _) hs⟩
  obtain ⟨a1, ha1⟩ : ∃ z : Int32, xs (x + 1).toNatClampNeg = z := ⟨_, rfl⟩
  obtain ⟨a2, ha2⟩ : ∃ z : Int32, xs (x + 2).toNatClampNeg = z := ⟨_, rfl⟩
  obtain ⟨a3, ha3⟩ : ∃ z : Int32, xs (x + 3).toNatClampNeg = z := ⟨_, rfl⟩
  obtain ⟨a4, ha4⟩ : ∃ z : Int32, xs (x + 4).toNatClampNeg = z := ⟨_, rfl⟩
  obtain ⟨a5, ha5⟩ : ∃ z : Int32, xs (x + 5).toNatClampNeg = z := ⟨_, rfl⟩
  obtain ⟨a6, ha6⟩ : ∃ z : Int32, xs (x + 6).toNatClampNeg = z := ⟨_, rfl⟩
  refine lv_aload_n hx hb dL_law_1225 rfl (lv_at hl 1 rfl) ?_
  refine lw_arg C0 hS hl hj.1 ha1 (by decide) dL_law_1226 dL_law_1227 dL_law_1228 dL_law_1229 dL_law_1230 ?_
  refine lw_arg C0 hS hl hj.2.1 ha2 (by decide) dL_law_1231 dL_law_1232 dL_law_1233 dL_law_1234 dL_law_1235 ?_
  refine lw_arg C0 hS hl hj.2.2.1 ha3 (by decide) dL_law_1236 dL_law_1237 dL_law_1238 dL_law_1239 dL_law_1240 ?_
  refine lw_arg C0 hS hl hj.2.2.2.1 ha4 (by decide) dL_law_1241 dL_law_1242 dL_law_1243 dL_law_1244 dL_law_1245 ?_
  refine lw_arg C0 hS hl hj.2.2.2.2.1 ha5 (by decide) dL_law_1246 dL_law_1247 dL_law_1248 dL_law_1249 dL_law_1250 ?_
  refine lw_arg6 C0 hS hl hj.2.2.2.2.2 ha6 (by decide) dL_law_1251 dL_law_1252 dL_law_1253 dL_law_1255 dL_law_1256 ?_
  refine x_callVi (own := RL) (c0 := Cond.initialized RX10) (As := [.int a1, .int a2, .int a3, .int a4, .int a5, .int a6]) (rest := []) ⟨hx, hb, hml, hown, lw_ok hts⟩ hK hAm hD hP (va_S.mono (fun q h => Or.inr h) hS) mt_X10_way wd_918 ⟨Nat.le_of_ble_eq_true rfl, Nat.le_of_ble_eq_true rfl⟩ (hQ.el 0 0 (xe_0 _ _)) (xc0 g 0) rfl (c_X10_way l nb nn g L M hD hQ.el a1 a2 a3 a4 a5 a6 hI.hn hI.hs hI.sh.1 hI.no.2.2.1) rfl hl.1 (Nat.le_of_ble_eq_true rfl) hcs dL_law_1257 (by rw [e1]; rfl) (fun r u H locs hp hP hS => ?_)
  have hS := va_S.mono (lw_lo hD hlo) hS
  obtain ⟨hq, hfin⟩ := sp_way hI a1 a2 a3 a4 a5 a6 hp
  refine lv_aload_n hx hb dL_law_1260 rfl (lv_at hl 2 rfl) ?_
  refine lw_arg C0 hS hl hj.1 ha1 (by decide) dL_law_1261 dL_law_1262 dL_law_1263 dL_law_1264 dL_law_1265 ?_
  refine lw_arg C0 hS hl hj.2.1 ha2 (by decide) dL_law_1266 dL_law_1267 dL_law_1268 dL_law_1269 dL_law_1270 ?_
  refine lw_arg C0 hS hl hj.2.2.1 ha3 (by decide) dL_law_1271 dL_law_1272 dL_law_1273 dL_law_1274 dL_law_1275 ?_
  refine lw_arg C0 hS hl hj.2.2.2.1 ha4 (by decide) dL_law_1276 dL_law_1277 dL_law_1278 dL_law_1279 dL_law_1280 ?_
  refine lw_arg C0 hS hl hj.2.2.2.2.1 ha5 (by decide) dL_law_1281 dL_law_1282 dL_law_1283 dL_law_1284 dL_law_1285 ?_
  refine lw_arg6 C0 hS hl hj.2.2.2.2.2 ha6 (by decide) dL_law_1286 dL_law_1287 dL_law_1288 dL_law_1290 dL_law_1291 ?_
  refine x_callVi (own := RL) (c0 := Cond.initialized RX10) (As := [.int a1, .int a2, .int a3, .int a4, .int a5, .int a6]) (rest := [.int r]) ⟨hx, hb, hml, hown, lw_ok hts⟩ hK hAm hD hP (va_S.mono (fun q h => Or.inr h) hS) mt_X11_way wd_979 ⟨Nat.le_of_ble_eq_true rfl, Nat.le_of_ble_eq_true rfl⟩ (hQ.el 40 0 (xe_40 _ _)) (xc40 g 0) rfl (c_X11_way l nb nn g L u hD hQ.el a1 a2 a3 a4 a5 a6 hq.1 hq.2.2.2.2.2) rfl hl.1 (Nat.le_of_ble_eq_true rfl) hcs dL_law_1292 (by rw [e2]; rfl) (fun r2 u2 H locs hp2 hP hS => ?_)
  obtain ⟨er, hI2⟩ := hfin r2 u2 hp2
  refine lv_icmp_eq (tgt := 1448) hx hb dL_law_1295 (by decide) (fun _ => ?_) (fun q => absurd er q)
  exact W.widen (Nat.le_add_right _ _) (Nat.le_add_right _ _) (K _ _ ⟨g, L, u2, nb, nn, hK, hAm, hlo, hD, hP, hQ, hI2, va_S.mono (lw_lo hD hlo) hS, e1, e2⟩)
set_option maxRecDepth 100000 in
theorem lw_c28 (C0 : lw_At p s m meth c b N xs) (I : lwI s q1 q2 H locs) (hl : lv_has ls 4 (lwL b q1 q2 x)) (hj : lwN N x) (hc : cells + 3 ≤ 600000) (hs : slots + 37 ≤ 7302250) (K : ∀ (H : Heap) (locs : List Loc), lwI s q1 q2 H locs → W p l e room_1 s m #[Value.ref b] below meth c H locs (cells + 3) (slots + 37) Q (F0 m 1448 ls [])) : W p l e room_1 s m #[Value.ref b] below meth c H locs cells slots Q (F0 m 1300 ls []) := by
  obtain ⟨g, L, M, nb, nn, hK, hAm, hlo, hD, hP, hQ, hI, hS, e1, e2⟩ := I
  obtain ⟨hx, hb, hr, hml, hown, hts, hX, hbl, hlocks, hgv⟩ := id C0
  have hcs : cells ≤ room_1.cells ∧ slots ≤ room_1.slots := ⟨Nat.le_trans (Nat.le_add_right _ _) hc, Nat.le_trans (Nat.le_add_right _ _) hs⟩
  obtain ⟨a1, ha1⟩ : ∃ z : Int32, xs (x + 1).toNatClampNeg = z := ⟨_, rfl⟩
  refine lv_aload_n hx hb dL_law_1300 rfl (lv_at hl 1 rfl) ?_
  refine lw_arg C0 hS hl hj.1 ha1 (by decide) dL_law_1301 dL_law_1302 dL_law_1303 dL_law_1304 dL_law_1305 ?_
  refine x_callVi (own := RL) (c0 := Cond.initialized RX10) (As := [.int a1]) (rest := []) ⟨hx, hb, hml, hown, lw_ok hts⟩ hK hAm hD hP (va_S.mono (fun q h => Or.inr h) hS) mt_X10_kind wd_995 ⟨Nat.le_of_ble_eq_true rfl, Nat.le_of_ble_eq_true rfl⟩ (hQ.el 0 0 (xe_0 _ _)) (xc0 g 0) rfl (c_X10_kind l nb nn g L M hD hQ.el a1 hI.hn hI.hb) rfl hl.1 (Nat.le_of_ble_eq_true rfl) hcs dL_law_1306 (by rw [e1]; rfl) (fun r u H locs hp hP hS => ?_)
  have hS := va_S.mono (lw_lo hD hlo) hS
  obtain ⟨hq, hfin⟩ := sp_kind hI a1 hp
  refine lv_aload_n hx hb dL_law_1309 rfl (lv_at hl 2 rfl) ?_
  refine lw_arg C0 hS hl hj.1 ha1 (by decide) dL_law_1310 dL_law_1311 dL_law_1312 dL_law_1313 dL_law_1314 ?_
  refine x_callVi (own := RL) (c0 := Cond.initialized RX10) (As := [.int a1]) (rest := [.int r]) ⟨hx, hb, hml, hown, lw_ok hts⟩ hK hAm hD hP (va_S.mono (fun q h => Or.inr h) hS) mt_X11_kind wd_1003 ⟨Nat.le_of_ble_eq_true rfl, Nat.le_of_ble_eq_true rfl⟩ (hQ.el 40 0 (xe_40 _ _)) (xc40 g 0) rfl (c_X11_kind l nb nn g L u hD hQ.el a1 hq.2.2.2.2.2.2.2.1 hq.2.2.2.2.2.2.2.2.1 hq.2.2.2.2.2.2.1 (fun j => (hq.2.2.2.2.2.2.2.2.2.2.2.1 j).1)) rfl hl.1 (Nat.le_of_ble_eq_true rfl) hcs dL_law_1315 (by rw [e2]; rfl) (fun r2 u2 H locs hp2 hP hS => ?_)
  obtain ⟨er, hI2⟩ := hfin r2 u2 hp2
  refine lv_icmp_eq (tgt := 1448) hx hb dL_law_1318 (by decide) (fun _ => ?_) (fun q => absurd er q)
  exact W.widen (Nat.le_add_right _ _) (Nat.le_add_right _ _) (K _ _ ⟨g, L, u2, nb, nn, hK, hAm, hlo, hD, hP, hQ, hI2, va_S.mono (lw_lo hD hlo) hS, e1, e2⟩)
set_option maxRecDepth 100000 in
theorem lw_c29 (C0 : lw_At p s m meth c b N xs) (I : lwI s q1 q2 H locs) (hl : lv_has ls 4 (lwL b q1 q2 x)) (hj : lwN N x) (hc : cells + 3 ≤ 600000) (hs : slots + 37 ≤ 7302250) (K : ∀ (H : Heap) (locs : List Loc), lwI s q1 q2 H locs → W p l e room_1 s m #[Value.ref b] below meth c H locs (cells + 3) (slots + 37) Q (F0 m 1448 ls [])) : W p l e room_1 s m #[Value.ref b] below meth c H locs cells slots Q (F0 m 1323 ls []) := by
  obtain ⟨g, L, M, nb, nn, hK, hAm, hlo, hD, hP, hQ, hI, hS, e1, e2⟩ := I
  obtain ⟨hx, hb, hr, hml, hown, hts, hX, hbl, hlocks, hgv⟩ := id C0
  have hcs : cells ≤ room_1.cells ∧ slots ≤ room_1.slots := ⟨Nat.le_trans (Nat.le_add_right _ _) hc, Nat.le_trans (Nat.le_add_right _ _) hs⟩
  obtain ⟨a1, ha1⟩ : ∃ z : Int32, xs (x + 1).toNatClampNeg = z := ⟨_, rfl⟩
  obtain ⟨a2, ha2⟩ : ∃ z : Int32, xs (x + 2).toNatClampNeg = z := ⟨_, rfl⟩
  refine lv_aload_n hx hb dL_law_1323 rfl (lv_at hl 1 rfl) ?_
  refine lw_arg C0 hS hl hj.1 ha1 (by decide) dL_law_1324 dL_law_1325 dL_law_1326 dL_law_1327 dL_law_1328 ?_
  refine lw_arg C0 hS hl hj.2.1 ha2 (by decide) dL_law_1329 dL_law_1330 dL_law_1331 dL_law_1332 dL_law_1333 ?_
  refine x_callVi (own := RL) (c0 := Cond.initialized RX10) (As := [.int a1, .int a2]) (rest := []) ⟨hx, hb, hml, hown, lw_ok hts⟩ hK hAm hD hP (va_S.mono (fun q h => Or.inr h) hS) mt_X10_as wd_1011 ⟨Nat.le_of_ble_eq_true rfl, Nat.le_of_ble_eq_true rfl⟩ (hQ.el 0 0 (xe_0 _ _)) (xc0 g 0) rfl (c_X10_as l nb nn g L M hD hQ.el a1 a2 hI.hn hI.hb) rfl hl.1 (Nat.le_of_ble_eq_true rfl) hcs dL_law_1334 (by rw [e1]; rfl) (fun r u H locs hp hP hS => ?_)
  have hS := va_S.mono (lw_lo hD hlo) hS
  obtain ⟨hq, hfin⟩ := sp_as hI a1 a2 hp
  refine lv_aload_n hx hb dL_law_1337 rfl (lv_at hl 2 rfl) ?_
  refine lw_arg C0 hS hl hj.1 ha1 (by decide) dL_law_1338 dL_law_1339 dL_law_1340 dL_law_1341 dL_law_1342 ?_
  refine lw_arg C0 hS hl hj.2.1 ha2 (by decide) dL_law_1343 dL_law_1344 dL_law_1345 dL_law_1346 dL_law_1347 ?_
  refine x_callVi (own := RL) (c0 := Cond.initialized RX10) (As := [.int a1, .int a2]) (rest := [.int r]) ⟨hx, hb, hml, hown, lw_ok hts⟩ hK hAm hD hP (va_S.mono (fun q h => Or.inr h) hS) mt_X11_as wd_1018 ⟨Nat.le_of_ble_eq_true rfl, Nat.le_of_ble_eq_true rfl⟩ (hQ.el 40 0 (xe_40 _ _)) (xc40 g 0) rfl (c_X11_as l nb nn g L u hD hQ.el a1 a2 hq.2.2.2.2.2.2.2.1 hq.2.2.2.2.2.2.2.2.1 hq.2.2.2.2.2.2.1 (fun j => (hq.2.2.2.2.2.2.2.2.2.2.2.1 j).1)) rfl hl.1 (Nat.le_of_ble_eq_true rfl) hcs dL_law_1348 (by rw [e2]; rfl) (fun r2 u2 H locs hp2 hP hS => ?_)
  obtain ⟨er, hI2⟩ := hfin r2 u2 hp2
  refine lv_icmp_eq (tgt := 1448) hx hb dL_law_1351 (by decide) (fun _ => ?_) (fun q => absurd er q)
  exact W.widen (Nat.le_add_right _ _) (Nat.le_add_right _ _) (K _ _ ⟨g, L, u2, nb, nn, hK, hAm, hlo, hD, hP, hQ, hI2, va_S.mono (lw_lo hD hlo) hS, e1, e2⟩)
set_option maxRecDepth 100000 in
theorem lw_c30 (C0 : lw_At p s m meth c b N xs) (I : lwI s q1 q2 H locs) (hl : lv_has ls 4 (lwL b q1 q2 x)) (hj : lwN N x) (hc : cells + 3 ≤ 600000) (hs : slots + 37 ≤ 7302250) (K : ∀ (H : Heap) (locs : List Loc), lwI s q1 q2 H locs → W p l e room_1 s m #[Value.ref b] below meth c H locs (cells + 3) (slots + 37) Q (F0 m 1448 ls [])) : W p l e room_1 s m #[Value.ref b] below meth c H locs cells slots Q (F0 m 1356 ls []) := by
  obtain ⟨g, L, M, nb, nn, hK, hAm, hlo, hD, hP, hQ, hI, hS, e1, e2⟩ := I
  obtain ⟨hx, hb, hr, hml, hown, hts, hX, hbl, hlocks, hgv⟩ := id C0
  have hcs : cells ≤ room_1.cells ∧ slots ≤ room_1.slots := ⟨Nat.le_trans (Nat.le_add_right _ _) hc, Nat.le_trans (Nat.le_add_right _ _) hs⟩
  obtain ⟨a1, ha1⟩ : ∃ z : Int32, xs (x + 1).toNatClampNeg = z := ⟨_, rfl⟩
  obtain ⟨a2, ha2⟩ : ∃ z : Int32, xs (x + 2).toNatClampNeg = z := ⟨_, rfl⟩
  refine lv_aload_n hx hb dL_law_1356 rfl (lv_at hl 1 rfl) ?_
  refine lw_arg C0 hS hl hj.1 ha1 (by decide) dL_law_1357 dL_law_1358 dL_law_1359 dL_law_1360 dL_law_1361 ?_
  refine lw_arg C0 hS hl hj.2.1 ha2 (by decide) dL_law_1362 dL_law_1363 dL_law_1364 dL_law_1365 dL_law_1366 ?_
  refine x_callVi (own := RL) (c0 := Cond.initialized RX10) (As := [.int a1, .int a2]) (rest := []) ⟨hx, hb, hml, hown, lw_ok hts⟩ hK hAm hD hP (va_S.mono (fun q h => Or.inr h) hS) mt_X10_ask wd_1025 ⟨Nat.le_of_ble_eq_true rfl, Nat.le_of_ble_eq_true rfl⟩ (hQ.el 0 0 (xe_0 _ _)) (xc0 g 0) rfl (c_X10_ask l nb nn g L M hD hQ.el a1 a2 hI.hn hI.hb) rfl hl.1 (Nat.le_of_ble_eq_true rfl) hcs dL_law_1367 (by rw [e1]; rfl) (fun r u H locs hp hP hS => ?_)
  have hS := va_S.mono (lw_lo hD hlo) hS
  obtain ⟨hq, hfin⟩ := sp_ask hI a1 a2 hp
  refine lv_aload_n hx hb dL_law_1370 rfl (lv_at hl 2 rfl) ?_
  refine lw_arg C0 hS hl hj.1 ha1 (by decide) dL_law_1371 dL_law_1372 dL_law_1373 dL_law_1374 dL_law_1375 ?_
  refine lw_arg C0 hS hl hj.2.1 ha2 (by decide) dL_law_1376 dL_law_1377 dL_law_1378 dL_law_1379 dL_law_1380 ?_
  refine x_callVi (own := RL) (c0 := Cond.initialized RX10) (As := [.int a1, .int a2]) (rest := [.int r]) ⟨hx, hb, hml, hown, lw_ok hts⟩ hK hAm hD hP (va_S.mono (fun q h => Or.inr h) hS) mt_X11_ask wd_1043 ⟨Nat.le_of_ble_eq_true rfl, Nat.le_of_ble_eq_true rfl⟩ (hQ.el 40 0 (xe_40 _ _)) (xc40 g 0) rfl (c_X11_ask l nb nn g L u hD hQ.el a1 a2 hq.2.2.2.2.2) rfl hl.1 (Nat.le_of_ble_eq_true rfl) hcs dL_law_1381 (by rw [e2]; rfl) (fun r2 u2 H locs hp2 hP hS => ?_)
  obtain ⟨er, hI2⟩ := hfin r2 u2 hp2
  refine lv_icmp_eq (tgt := 1448) hx hb dL_law_1384 (by decide) (fun _ => ?_) (fun q => absurd er q)
  exact W.widen (Nat.le_add_right _ _) (Nat.le_add_right _ _) (K _ _ ⟨g, L, u2, nb, nn, hK, hAm, hlo, hD, hP, hQ, hI2, va_S.mono (lw_lo hD hlo) hS, e1, e2⟩)
set_option maxRecDepth 100000 in
theorem lw_c31 (C0 : lw_At p s m meth c b N xs) (I : lwI s q1 q2 H locs) (hl : lv_has ls 4 (lwL b q1 q2 x)) (hj : lwN N x) (hc : cells + 3 ≤ 600000) (hs : slots + 37 ≤ 7302250) (K : ∀ (H : Heap) (locs : List Loc), lwI s q1 q2 H locs → W p l e room_1 s m #[Value.ref b] below meth c H locs (cells + 3) (slots + 37) Q (F0 m 1448 ls [])) : W p l e room_1 s m #[Value.ref b] below meth c H locs cells slots Q (F0 m 1389 ls []) := by
  obtain ⟨g, L, M, nb, nn, hK, hAm, hlo, hD, hP, hQ, hI, hS, e1, e2⟩ := I
  obtain ⟨hx, hb, hr, hml, hown, hts, hX, hbl, hlocks, hgv⟩ := id C0
  have hcs : cells ≤ room_1.cells ∧ slots ≤ room_1.slots := ⟨Nat.le_trans (Nat.le_add_right _ _) hc, Nat.le_trans (Nat.le_add_right _ _) hs⟩
  obtain ⟨a1, ha1⟩ : ∃ z : Int32, xs (x + 1).toNatClampNeg = z := ⟨_, rfl⟩
  refine lv_aload_n hx hb dL_law_1389 rfl (lv_at hl 1 rfl) ?_
  refine lw_arg C0 hS hl hj.1 ha1 (by decide) dL_law_1390 dL_law_1391 dL_law_1392 dL_law_1393 dL_law_1394 ?_
  refine x_callVi (own := RL) (c0 := Cond.initialized RX10) (As := [.int a1]) (rest := []) ⟨hx, hb, hml, hown, lw_ok hts⟩ hK hAm hD hP (va_S.mono (fun q h => Or.inr h) hS) mt_X10_trace wd_1063 ⟨Nat.le_of_ble_eq_true rfl, Nat.le_of_ble_eq_true rfl⟩ (hQ.el 0 0 (xe_0 _ _)) (xc0 g 0) rfl (c_X10_trace l nb nn g L M hD hQ.el a1 hI.tc.2.2.1) rfl hl.1 (Nat.le_of_ble_eq_true rfl) hcs dL_law_1395 (by rw [e1]; rfl) (fun r u H locs hp hP hS => ?_)
  have hS := va_S.mono (lw_lo hD hlo) hS
  obtain ⟨hq, hfin⟩ := sp_trace hI a1 hp
  refine lv_aload_n hx hb dL_law_1398 rfl (lv_at hl 2 rfl) ?_
  refine lw_arg C0 hS hl hj.1 ha1 (by decide) dL_law_1399 dL_law_1400 dL_law_1401 dL_law_1402 dL_law_1403 ?_
  refine x_callVi (own := RL) (c0 := Cond.initialized RX10) (As := [.int a1]) (rest := [.int r]) ⟨hx, hb, hml, hown, lw_ok hts⟩ hK hAm hD hP (va_S.mono (fun q h => Or.inr h) hS) mt_X11_trace wd_1072 ⟨Nat.le_of_ble_eq_true rfl, Nat.le_of_ble_eq_true rfl⟩ (hQ.el 40 0 (xe_40 _ _)) (xc40 g 0) rfl (c_X11_trace l nb nn g L u hD hQ.el a1 hq.2.2.2.2.1.1 hq.2.2.2.2.1.2) rfl hl.1 (Nat.le_of_ble_eq_true rfl) hcs dL_law_1404 (by rw [e2]; rfl) (fun r2 u2 H locs hp2 hP hS => ?_)
  obtain ⟨er, hI2⟩ := hfin r2 u2 hp2
  refine lv_icmp_eq (tgt := 1448) hx hb dL_law_1407 (by decide) (fun _ => ?_) (fun q => absurd er q)
  exact W.widen (Nat.le_add_right _ _) (Nat.le_add_right _ _) (K _ _ ⟨g, L, u2, nb, nn, hK, hAm, hlo, hD, hP, hQ, hI2, va_S.mono (lw_lo hD hlo) hS, e1, e2⟩)
set_option maxRecDepth 100000 in
theorem lw_c32 (C0 : lw_At p s m meth c b N xs) (I : lwI s q1 q2 H locs) (hl : lv_has ls 4 (lwL b q1 q2 x)) (hj : lwN N x) (hc : cells + 3 ≤ 600000) (hs : slots + 37 ≤ 7302250) (K : ∀ (H : Heap) (locs : List Loc), lwI s q1 q2 H locs → W p l e room_1 s m #[Value.ref b] below meth c H locs (cells + 3) (slots + 37) Q (F0 m 1448 ls [])) : W p l e room_1 s m #[Value.ref b] below meth c H locs cells slots Q (F0 m 1412 ls []) := by
  obtain ⟨g, L, M, nb, nn, hK, hAm, hlo, hD, hP, hQ, hI, hS, e1, e2⟩ := I
  obtain ⟨hx, hb, hr, hml, hown, hts, hX, hbl, hlocks, hgv⟩ := id C0
  have hcs : cells ≤ room_1.cells ∧ slots ≤ room_1.slots := ⟨Nat.le_trans (Nat.le_add_right _ _) hc, Nat.le_trans (Nat.le_add_right _ _) hs⟩
  obtain ⟨a1, ha1⟩ : ∃ z : Int32, xs (x + 1).toNatClampNeg = z := ⟨_, rfl⟩
  refine lv_aload_n hx hb dL_law_1412 rfl (lv_at hl 1 rfl) ?_
  refine lw_arg C0 hS hl hj.1 ha1 (by decide) dL_law_1413 dL_law_1414 dL_law_1415 dL_law_1416 dL_law_1417 ?_
  refine x_callVi (own := RL) (c0 := Cond.initialized RX10) (As := [.int a1]) (rest := []) ⟨hx, hb, hml, hown, lw_ok hts⟩ hK hAm hD hP (va_S.mono (fun q h => Or.inr h) hS) mt_X10_count wd_1076 ⟨Nat.le_of_ble_eq_true rfl, Nat.le_of_ble_eq_true rfl⟩ (hQ.el 0 0 (xe_0 _ _)) (xc0 g 0) rfl (c_X10_count l nb nn g L M hD hQ.el a1 hI.hn hI.hb hI.hs) rfl hl.1 (Nat.le_of_ble_eq_true rfl) hcs dL_law_1418 (by rw [e1]; rfl) (fun r u H locs hp hP hS => ?_)
  have hS := va_S.mono (lw_lo hD hlo) hS
  obtain ⟨hq, hfin⟩ := sp_count hI a1 hp
  refine lv_aload_n hx hb dL_law_1421 rfl (lv_at hl 2 rfl) ?_
  refine lw_arg C0 hS hl hj.1 ha1 (by decide) dL_law_1422 dL_law_1423 dL_law_1424 dL_law_1425 dL_law_1426 ?_
  refine x_callVi (own := RL) (c0 := Cond.initialized RX10) (As := [.int a1]) (rest := [.int r]) ⟨hx, hb, hml, hown, lw_ok hts⟩ hK hAm hD hP (va_S.mono (fun q h => Or.inr h) hS) mt_X11_count wd_1088 ⟨Nat.le_of_ble_eq_true rfl, Nat.le_of_ble_eq_true rfl⟩ (hQ.el 40 0 (xe_40 _ _)) (xc40 g 0) rfl (c_X11_count l nb nn g L u hD hQ.el a1 hq.2.2.2.2.2.1 hq.2.2.2.2.2.2.1 hq.2.2.2.2.2.2.2.1 hq.2.2.2.2.2.2.2.2.1) rfl hl.1 (Nat.le_of_ble_eq_true rfl) hcs dL_law_1427 (by rw [e2]; rfl) (fun r2 u2 H locs hp2 hP hS => ?_)
  obtain ⟨er, hI2⟩ := hfin r2 u2 hp2
  refine lv_icmp_eq (tgt := 1448) hx hb dL_law_1430 (by decide) (fun _ => ?_) (fun q => absurd er q)
  exact W.widen (Nat.le_add_right _ _) (Nat.le_add_right _ _) (K _ _ ⟨g, L, u2, nb, nn, hK, hAm, hlo, hD, hP, hQ, hI2, va_S.mono (lw_lo hD hlo) hS, e1, e2⟩)
set_option maxRecDepth 100000 in
theorem lw_c33 (C0 : lw_At p s m meth c b N xs) (I : lwI s q1 q2 H locs) (hl : lv_has ls 4 (lwL b q1 q2 x)) (hj : lwN N x) (hc : cells + 3 ≤ 600000) (hs : slots + 37 ≤ 7302250) (K : ∀ (H : Heap) (locs : List Loc), lwI s q1 q2 H locs → W p l e room_1 s m #[Value.ref b] below meth c H locs (cells + 3) (slots + 37) Q (F0 m 1448 ls [])) : W p l e room_1 s m #[Value.ref b] below meth c H locs cells slots Q (F0 m 1435 ls []) := by
  obtain ⟨g, L, M, nb, nn, hK, hAm, hlo, hD, hP, hQ, hI, hS, e1, e2⟩ := I
  obtain ⟨hx, hb, hr, hml, hown, hts, hX, hbl, hlocks, hgv⟩ := id C0
  have hcs : cells ≤ room_1.cells ∧ slots ≤ room_1.slots := ⟨Nat.le_trans (Nat.le_add_right _ _) hc, Nat.le_trans (Nat.le_add_right _ _) hs⟩
  refine lv_aload_n hx hb dL_law_1435 rfl (lv_at hl 1 rfl) ?_
  refine x_callVi (own := RL) (c0 := Cond.initialized RX10) (As := []) (rest := []) ⟨hx, hb, hml, hown, lw_ok hts⟩ hK hAm hD hP (va_S.mono (fun q h => Or.inr h) hS) mt_X10_status wd_1092 ⟨Nat.le_of_ble_eq_true rfl, Nat.le_of_ble_eq_true rfl⟩ (hQ.el 0 0 (xe_0 _ _)) (xc0 g 0) rfl (c_X10_status l nb nn g L M hD hQ.el ) rfl hl.1 (Nat.le_of_ble_eq_true rfl) hcs dL_law_1436 (by rw [e1]; rfl) (fun r u H locs hp hP hS => ?_)
  have hS := va_S.mono (lw_lo hD hlo) hS
  obtain ⟨hq, hfin⟩ := sp_status hI hp
  refine lv_aload_n hx hb dL_law_1439 rfl (lv_at hl 2 rfl) ?_
  refine x_callVi (own := RL) (c0 := Cond.initialized RX10) (As := []) (rest := [.int r]) ⟨hx, hb, hml, hown, lw_ok hts⟩ hK hAm hD hP (va_S.mono (fun q h => Or.inr h) hS) mt_X11_status wd_1096 ⟨Nat.le_of_ble_eq_true rfl, Nat.le_of_ble_eq_true rfl⟩ (hQ.el 40 0 (xe_40 _ _)) (xc40 g 0) rfl (c_X11_status l nb nn g L u hD hQ.el ) rfl hl.1 (Nat.le_of_ble_eq_true rfl) hcs dL_law_1440 (by rw [e2]; rfl) (fun r2 u2 H locs hp2 hP hS => ?_)
  obtain ⟨er, hI2⟩ := hfin r2 u2 hp2
  refine lv_icmp_eq (tgt := 1448) hx hb dL_law_1443 (by decide) (fun _ => ?_) (fun q => absurd er q)
  exact W.widen (Nat.le_add_right _ _) (Nat.le_add_right _ _) (K _ _ ⟨g, L, u2, nb, nn, hK, hAm, hlo, hD, hP, hQ, hI2, va_S.mono (lw_lo hD hlo) hS, e1, e2⟩)
end LAW
