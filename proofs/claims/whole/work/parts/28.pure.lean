def xfr (K : Nat) (M N : xM) : Prop := ∀ a b c : Nat, ¬ a = K → N a b c = M a b c
theorem xfr_rf (K : Nat) (M : xM) : xfr K M M := fun _ _ _ _ => rfl
theorem xfr_up {K i j : Nat} {M N : xM} {v : Int32} (h : xfr K M N) : xfr K M (xup N K i j v) := fun a b c q => by rw [xup_k q]; exact h a b c q
theorem etw_L10 (town : Int32) (M : xM) : ∀ (n : Nat) (sold : Int32) (N : xM) (kx : Int32 → xM → xM), xfr 22 M N → (∀ x N', xfr 22 M N' → xfr 22 M (kx x N')) → xfr 22 M (f_X3_endTheWay_L10 town n sold N kx) := by
  intro n
  induction n with
  | zero => intro sold N kx h _; exact h
  | succ n ih =>
    intro sold N kx h hk
    rw [f_X3_endTheWay_L10]
    simp only [xlet]
    repeat' split
    all_goals first | exact hk _ _ h | exact ih _ _ _ (xfr_up h) hk
theorem etw_L2 (M : xM) : ∀ (n : Nat) (town : Int32) (N : xM) (kx : Int32 → xM → xM), xfr 22 M N → (∀ x N', xfr 22 M N' → xfr 22 M (kx x N')) → xfr 22 M (f_X3_endTheWay_L2 n town N kx) := by
  intro n
  induction n with
  | zero => intro town N kx h _; exact h
  | succ n ih =>
    intro town N kx h hk
    rw [f_X3_endTheWay_L2]
    simp only [xlet]
    split
    · exact hk _ _ h
    · exact etw_L10 _ M _ _ _ _ h (fun x N' h' => ih _ _ _ h' hk)
theorem etw_fr (M : xM) : xfr 22 M (f_X3_endTheWay M) := by
  unfold f_X3_endTheWay
  exact etw_L2 M _ _ _ _ (xfr_rf 22 M) (fun x N' h' => h')
theorem pm_L20 (day sold : Int32) (M : xM) : ∀ (n : Nat) (town : Int32) (N : xM) (kx : Int32 → xM → xM), xfr 21 M N → (∀ x N', xfr 21 M N' → xfr 21 M (kx x N')) → xfr 21 M (f_X3_planMornings_L20 day sold n town N kx) := by
  intro n
  induction n with
  | zero => intro town N kx h _; exact h
  | succ n ih =>
    intro town N kx h hk
    rw [f_X3_planMornings_L20]
    simp only [xlet]
    repeat' split
    all_goals first | exact hk _ _ h | exact ih _ _ _ (xfr_up h) hk
theorem pm_L2 (day : Int32) (M : xM) : ∀ (n : Nat) (sold : Int32) (N : xM) (kx : Int32 → xM → xM), xfr 21 M N → (∀ x N', xfr 21 M N' → xfr 21 M (kx x N')) → xfr 21 M (f_X3_planMornings_L2 day n sold N kx) := by
  intro n
  induction n with
  | zero => intro sold N kx h _; exact h
  | succ n ih =>
    intro sold N kx h hk
    rw [f_X3_planMornings_L2]
    simp only [xlet]
    repeat' split
    all_goals first | exact hk _ _ h | exact ih _ _ _ h hk | exact pm_L20 _ _ M _ _ _ _ h (fun x N' h' => ih _ _ _ h' hk)
theorem pm_fr (day : Int32) (M : xM) : xfr 21 M (f_X3_planMornings day M) := by
  unfold f_X3_planMornings
  exact pm_L2 day M _ _ _ _ (xfr_rf 21 M) (fun x N' h' => h')
theorem pe_L23 (day sold : Int32) (M : xM) : ∀ (n : Nat) (town : Int32) (N : xM) (kx : Int32 → xM → xM), xfr 22 M N → (∀ x N', xfr 22 M N' → xfr 22 M (kx x N')) → xfr 22 M (f_X3_planEvenings_L23 day sold n town N kx) := by
  intro n
  induction n with
  | zero => intro town N kx h _; exact h
  | succ n ih =>
    intro town N kx h hk
    rw [f_X3_planEvenings_L23]
    simp only [xlet]
    repeat' split
    all_goals first | exact hk _ _ h | exact ih _ _ _ (xfr_up h) hk
theorem pe_L2 (day : Int32) (M : xM) : ∀ (n : Nat) (sold : Int32) (N : xM) (kx : Int32 → xM → xM), xfr 22 M N → (∀ x N', xfr 22 M N' → xfr 22 M (kx x N')) → xfr 22 M (f_X3_planEvenings_L2 day n sold N kx) := by
  intro n
  induction n with
  | zero => intro sold N kx h _; exact h
  | succ n ih =>
    intro sold N kx h hk
    rw [f_X3_planEvenings_L2]
    simp only [xlet]
    repeat' split
    all_goals first | exact hk _ _ h | exact ih _ _ _ h hk | exact pe_L23 _ _ M _ _ _ _ h (fun x N' h' => ih _ _ _ h' hk)
theorem pe_fr (day : Int32) (M : xM) : xfr 22 M (f_X3_planEvenings day M) := by
  unfold f_X3_planEvenings
  exact pe_L2 day M _ _ _ _ (xfr_rf 22 M) (fun x N' h' => h')
theorem kim_o {to place gold : Int32} {M : xM} {a b c : Nat} (h : ¬ (a = 11 ∧ b = 0 ∧ (c = 5 ∨ c = 6))) : f_X3_keepIfMore to place gold M a b c = M a b c := by
  unfold f_X3_keepIfMore
  simp only [xlet]
  split
  · rfl
  · simp only [xup_at]; grind
theorem kim3 {to place gold : Int32} {M : xM} : f_X3_keepIfMore to place gold M 11 0 3 = M 11 0 3 := kim_o (by omega)
theorem etw3 {M : xM} : f_X3_endTheWay M 11 0 3 = M 11 0 3 := etw_fr M _ _ _ (by decide)
theorem etw4 {M : xM} : f_X3_endTheWay M 11 0 4 = M 11 0 4 := etw_fr M _ _ _ (by decide)
theorem pm3 {day : Int32} {M : xM} : f_X3_planMornings day M 11 0 3 = M 11 0 3 := pm_fr day M _ _ _ (by decide)
theorem pm4 {day : Int32} {M : xM} : f_X3_planMornings day M 11 0 4 = M 11 0 4 := pm_fr day M _ _ _ (by decide)
theorem pe3 {day : Int32} {M : xM} : f_X3_planEvenings day M 11 0 3 = M 11 0 3 := pe_fr day M _ _ _ (by decide)
theorem pe4 {day : Int32} {M : xM} : f_X3_planEvenings day M 11 0 4 = M 11 0 4 := pe_fr day M _ _ _ (by decide)
