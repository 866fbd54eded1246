/-! bank and note: one more of each -/
section BANKS
variable {nb nn : Nat} {M : xM}
def bk2 (a b c : Nat) : Prop := a = 3 ∨ a = 27 ∨ a = 28 ∨ a = 58 ∨ a = 59 ∨ a = 60 ∨ (a = 0 ∧ b = 0 ∧ c = 12) ∨ (a = 40 ∧ b = 0 ∧ c = 7)
theorem INV_ba {nb' : Nat} {N : xM} (h : INV nb nn M) (hq : ∀ a b c : Nat, ¬ jk a b c → ¬ bk2 a b c → N a b c = M a b c) (ob : gOb nb' nn (N 0 0 12) (N 0 0 13) (N 1 0) (N 3 0) (N 7 0) (N 8 0)) (ba : gBa nb' (N 27) (N 28) (N 58 0) (N 59 0) (N 60 0) (N 61 0) (N 62 0) (N 40 0 7)) : INV nb' nn N := by
  have r : ∀ a : Nat, ¬ (a = 0 ∨ a = 6 ∨ a = 9 ∨ a = 11 ∨ a = 20 ∨ a = 21 ∨ a = 22 ∨ a = 56 ∨ a = 97 ∨ a = 98 ∨ a = 5 ∨ a = 40 ∨ a = 3 ∨ a = 27 ∨ a = 28 ∨ a = 58 ∨ a = 59 ∨ a = 60) → N a = M a := by
    intro a ha
    funext b c
    refine hq a b c (fun q => ha ?_) (fun q => ha ?_)
    · unfold jk at q; omega
    · unfold bk2 at q; omega
  have c0 : ∀ c : Nat, c ≠ 12 → N 0 0 c = M 0 0 c := fun c hc => hq 0 0 c (by unfold jk; omega) (by unfold bk2; omega)
  have c40 : ∀ c : Nat, ¬ (c = 0 ∨ c = 7 ∨ c = 19 ∨ 23 ≤ c ∧ c ≤ 29) → N 40 0 c = M 40 0 c := fun c hc => hq 40 0 c (by unfold jk; omega) (by unfold bk2; omega)
  have c5 : N 5 0 2 = M 5 0 2 := hq 5 0 2 (by unfold jk; omega) (by unfold bk2; omega)
  obtain ⟨g1, g2, g3, g4, g5, g6, g7, g8, g9, g10, g11⟩ := h
  refine ⟨ob, ?_, ?_, ?_, ba, ?_, ?_, ?_, ?_, ?_, ?_⟩
  · rw [c0 16 (by decide), c0 14 (by decide), c0 15 (by decide), c40 1 (by omega), c40 13 (by omega), c40 22 (by omega)]; exact g2
  · rw [r 24 (by decide), r 25 (by decide), r 52 (by decide), r 53 (by decide), r 54 (by decide)]; exact g3
  · rw [r 13 (by decide), r 14 (by decide), r 55 (by decide)]; exact g4
  · rw [r 15 (by decide), r 16 (by decide), r 17 (by decide), r 18 (by decide), r 65 (by decide), r 66 (by decide), r 67 (by decide), r 68 (by decide), r 4 (by decide), c40 14 (by omega)]; exact g6
  · rw [r 19 (by decide), r 70 (by decide), c5, c40 21 (by omega)]; exact g7
  · rw [r 29 (by decide), r 30 (by decide), r 31 (by decide), r 81 (by decide), r 82 (by decide), r 83 (by decide), r 84 (by decide), r 85 (by decide), r 86 (by decide), r 87 (by decide), r 88 (by decide), r 89 (by decide), r 90 (by decide), r 91 (by decide), r 92 (by decide), r 93 (by decide), c40 30 (by omega)]; exact g8
  · rw [r 26 (by decide), r 94 (by decide), r 95 (by decide)]; exact g9
  · rw [r 10 (by decide), r 96 (by decide)]; exact g10
  · rw [r 23 (by decide), r 99 (by decide), r 12 (by decide), c40 50 (by omega)]; exact g11
theorem bank10 (hb : nb ≤ 8) (h12 : M 0 0 12 = nI nb) (town gold plate : Int32) : f_X10_bank town gold plate M = if (0 ≤ town ∧ town ≤ 5) ∧ (0 ≤ gold ∧ gold ≤ 99999) ∧ (0 ≤ plate ∧ plate ≤ 255) then (if nb < 8 then (nI nb, xup (xup (xmB nb town plate gold M) 3 0 nb 1) 0 0 12 (nI (nb + 1))) else ((-1000003), M)) else ((-1000001), M) := by
  unfold f_X10_bank
  have e8 : nI nb < 8 ↔ nb < 8 := nI_ltI (b := 8) (by omega) (by decide)
  simp only [xlet_p, isTown10_eq, isUpTo_eq, xb_0, decide_eq_false_iff_not, h12, nI_1, nI_clamp (show nb < 2 ^ 31 by omega), e8]
  by_cases c1 : 0 ≤ town ∧ town ≤ 5
  · rw [if_neg (fun q => q c1)]
    by_cases c2 : 0 ≤ gold ∧ gold ≤ 99999
    · rw [if_neg (fun q => q c2)]
      by_cases c3 : 0 ≤ plate ∧ plate ≤ 255
      · rw [if_neg (fun q => q c3), if_pos (show (0 ≤ town ∧ town ≤ 5) ∧ (0 ≤ gold ∧ gold ≤ 99999) ∧ (0 ≤ plate ∧ plate ≤ 255) from ⟨c1, c2, c3⟩)]
      · rw [if_pos c3, if_neg (fun q => c3 q.2.2)]
    · rw [if_pos c2, if_neg (fun q => c2 q.2.1)]
  · rw [if_pos c1, if_neg (fun q => c1 q.1)]
theorem bank11 {N : xM} (hb : nb ≤ 8) (h7 : N 40 0 7 = nI nb) (town v marks : Int32) : f_X11_bank town v marks N = if (0 ≤ town ∧ town ≤ 5) ∧ (0 ≤ v ∧ v ≤ 99999) ∧ (0 ≤ marks ∧ marks ≤ 255) then (if nb < 8 then (nI nb, xup (xup (xup (xup (xup N 40 0 0 0) 58 0 nb town) 59 0 nb v) 60 0 nb marks) 40 0 7 (nI (nb + 1))) else ((-1000003), xup N 40 0 0 0)) else ((-1000001), xup N 40 0 0 0) := by
  unfold f_X11_bank
  have k7 : xup N 40 0 0 0 40 0 7 = nI nb := by rw [xup_j (by decide)]; exact h7
  have e8 : nI nb = 8 ↔ nb = 8 := nI_eq (b := 8) (by omega) (by decide)
  simp only [xlet_p, isTown_eq, in_0_99999, in_0_255, xb_0, decide_eq_false_iff_not]
  have k1 : xup (xup N 40 0 0 0) 58 0 nb town 40 0 7 = nI nb := by rw [xup_k (by decide)]; exact k7
  have k2 : xup (xup (xup N 40 0 0 0) 58 0 nb town) 59 0 nb v 40 0 7 = nI nb := by rw [xup_k (by decide)]; exact k1
  have k3 : xup (xup (xup (xup N 40 0 0 0) 58 0 nb town) 59 0 nb v) 60 0 nb marks 40 0 7 = nI nb := by rw [xup_k (by decide)]; exact k2
  simp only [k7, e8, nI_clamp (show nb < 2 ^ 31 by omega), k1, k2, k3, nI_1, xup_same, nI_pred]
  by_cases c1 : 0 ≤ town ∧ town ≤ 5
  · rw [if_neg (fun q => q c1)]
    by_cases c2 : 0 ≤ v ∧ v ≤ 99999
    · rw [if_neg (fun q => q c2)]
      by_cases c3 : 0 ≤ marks ∧ marks ≤ 255
      · rw [if_neg (fun q => q c3), if_pos (show (0 ≤ town ∧ town ≤ 5) ∧ (0 ≤ v ∧ v ≤ 99999) ∧ (0 ≤ marks ∧ marks ≤ 255) from ⟨c1, c2, c3⟩)]
        by_cases c4 : nb = 8
        · rw [if_pos c4, if_neg (by omega)]
        · rw [if_neg c4, if_pos (by omega)]
      · rw [if_pos c3, if_neg (fun q => c3 q.2.2)]
    · rw [if_pos c2, if_neg (fun q => c2 q.2.1)]
  · rw [if_pos c1, if_neg (fun q => c1 q.1)]
theorem s_bank (h : INV nb nn M) (town gold plate : Int32) : R40 M (f_X10_bank town gold plate M).2 ∧ (f_X10_bank town gold plate M).1 = (f_X11_bank town gold plate (f_X10_bank town gold plate M).2).1 ∧ ((f_X10_bank town gold plate M).1 < 0 → INV nb nn (f_X11_bank town gold plate (f_X10_bank town gold plate M).2).2) ∧ (0 ≤ (f_X10_bank town gold plate M).1 → INV (nb + 1) nn (f_X11_bank town gold plate (f_X10_bank town gold plate M).2).2) := by
  have hb := h.nb8
  rw [bank10 hb h.c12]
  by_cases c : (0 ≤ town ∧ town ≤ 5) ∧ (0 ≤ gold ∧ gold ≤ 99999) ∧ (0 ≤ plate ∧ plate ≤ 255)
  · rw [if_pos c]
    by_cases d : nb < 8
    · rw [if_pos d]
      dsimp only
      have r1 : R40 M (xup (xup (xmB nb town plate gold M) 3 0 nb 1) 0 0 12 (nI (nb + 1))) := fun a b c q => by
        rw [xup_k (by omega), xup_k (by omega)]
        unfold xmB
        rw [xrow_ne (by omega), xrow_ne (by omega)]
      rw [bank11 hb (by rw [r1 40 0 7 (by decide)]; exact h.c7), if_pos c, if_pos d]
      refine ⟨r1, rfl, fun q => absurd q (Int32.not_lt.mpr (nI_pos' (by omega))), fun _ => ?_⟩
      dsimp only
      generalize hDd : xup (xup (xup (xup (xup (xup (xup (xmB nb town plate gold M) 3 0 nb 1) 0 0 12 (nI (nb + 1))) 40 0 0 0) 58 0 nb town) 59 0 nb gold) 60 0 nb plate) 40 0 7 (nI (nb + 1)) = D
      have at_ : ∀ a b c : Nat, D a b c = if a = 40 ∧ b = 0 ∧ c = 7 then nI (nb + 1) else if a = 60 ∧ b = 0 ∧ c = nb then plate else if a = 59 ∧ b = 0 ∧ c = nb then gold else if a = 58 ∧ b = 0 ∧ c = nb then town else if a = 40 ∧ b = 0 ∧ c = 0 then 0 else if a = 0 ∧ b = 0 ∧ c = 12 then nI (nb + 1) else if a = 3 ∧ b = 0 ∧ c = nb then 1 else if a = 28 ∧ b = nb then 0 else if a = 27 ∧ b = nb then rBank town plate gold c else M a b c := by
        intro a b c
        rw [← hDd]
        simp only [xup_at, xmB, xrow_at]
      obtain ⟨o1, o2, o3, o4, o5, o6, o7, o8, o9, o10⟩ := h.ob
      obtain ⟨b1, b2, b3, b4, b5⟩ := h.ba
      have D3 : ∀ j : Nat, D 3 0 j = if j = nb then 1 else M 3 0 j := fun j => by
        rw [at_, if_neg (by omega), if_neg (by omega), if_neg (by omega), if_neg (by omega), if_neg (by omega), if_neg (by omega)]
        by_cases e : j = nb
        · rw [if_pos ⟨rfl, rfl, e⟩, if_pos e]
        · rw [if_neg (fun q => e q.2.2), if_neg e, if_neg (by omega), if_neg (by omega)]
      have D27 : ∀ i c : Nat, D 27 i c = if i = nb then rBank town plate gold c else M 27 i c := fun i c => by
        rw [at_, if_neg (by omega), if_neg (by omega), if_neg (by omega), if_neg (by omega), if_neg (by omega), if_neg (by omega), if_neg (by omega), if_neg (by omega)]
        by_cases e : i = nb
        · rw [if_pos ⟨rfl, e⟩, if_pos e]
        · rw [if_neg (fun q => e q.2), if_neg e]
      have D28 : ∀ i c : Nat, D 28 i c = if i = nb then 0 else M 28 i c := fun i c => by
        rw [at_, if_neg (by omega), if_neg (by omega), if_neg (by omega), if_neg (by omega), if_neg (by omega), if_neg (by omega), if_neg (by omega)]
        by_cases e : i = nb
        · rw [if_pos ⟨rfl, e⟩, if_pos e]
        · rw [if_neg (fun q => e q.2), if_neg e, if_neg (by omega)]
      have D58 : ∀ j : Nat, D 58 0 j = if j = nb then town else M 58 0 j := fun j => by
        rw [at_, if_neg (by omega), if_neg (by omega), if_neg (by omega)]
        by_cases e : j = nb
        · rw [if_pos ⟨rfl, rfl, e⟩, if_pos e]
        · rw [if_neg (fun q => e q.2.2), if_neg e, if_neg (by omega), if_neg (by omega), if_neg (by omega), if_neg (by omega), if_neg (by omega)]
      have D59 : ∀ j : Nat, D 59 0 j = if j = nb then gold else M 59 0 j := fun j => by
        rw [at_, if_neg (by omega), if_neg (by omega)]
        by_cases e : j = nb
        · rw [if_pos ⟨rfl, rfl, e⟩, if_pos e]
        · rw [if_neg (fun q => e q.2.2), if_neg e, if_neg (by omega), if_neg (by omega), if_neg (by omega), if_neg (by omega), if_neg (by omega), if_neg (by omega)]
      have D60 : ∀ j : Nat, D 60 0 j = if j = nb then plate else M 60 0 j := fun j => by
        rw [at_, if_neg (by omega)]
        by_cases e : j = nb
        · rw [if_pos ⟨rfl, rfl, e⟩, if_pos e]
        · rw [if_neg (fun q => e q.2.2), if_neg e, if_neg (by omega), if_neg (by omega), if_neg (by omega), if_neg (by omega), if_neg (by omega), if_neg (by omega), if_neg (by omega)]
      have Do : ∀ a b c : Nat, ¬ jk a b c → ¬ bk2 a b c → D a b c = M a b c := fun a b c q1 q2 => by
        unfold jk at q1; unfold bk2 at q2
        rw [at_, if_neg (by omega), if_neg (by omega), if_neg (by omega), if_neg (by omega), if_neg (by omega), if_neg (by omega), if_neg (by omega), if_neg (by omega), if_neg (by omega)]
      have Dr : ∀ a : Nat, (a = 1 ∨ a = 7 ∨ a = 8 ∨ a = 61 ∨ a = 62) → D a 0 = M a 0 := fun a q => by
        funext c; exact Do a 0 c (by unfold jk; omega) (by unfold bk2; omega)
      refine INV_ba h Do ⟨by omega, o2, ?_, ?_, ?_, ?_, fun j hj => ?_, ?_, fun j hj => ?_, ?_⟩ ⟨?_, fun i => ?_, fun j => ?_, fun i hi => ?_, fun i h1 h2 => ?_⟩
      · rw [at_, if_neg (by omega), if_neg (by omega), if_neg (by omega), if_neg (by omega), if_neg (by omega), if_pos ⟨rfl, rfl, rfl⟩]
      · rw [Do 0 0 13 (by unfold jk; omega) (by unfold bk2; omega)]; exact o4
      · rw [Dr 1 (by omega)]; exact o5
      · rw [Dr 8 (by omega)]; exact o6
      · rw [D3]
        by_cases e : j = nb
        · rw [if_pos e]; decide
        · rw [if_neg e]; exact o7 j (by omega)
      · rw [Dr 7 (by omega)]; exact o8
      · rw [D3, if_neg (by omega)]; exact o9 j (by omega)
      · rw [Dr 7 (by omega)]; exact o10
      · rw [at_, if_pos ⟨rfl, rfl, rfl⟩]
      · rw [D27]
        by_cases e : i = nb
        · rw [if_pos e]; exact c.1
        · rw [if_neg e]; exact b2 i
      · rw [D58]
        by_cases e : j = nb
        · rw [if_pos e]; exact c.1
        · rw [if_neg e]; exact b3 j
      · rw [Dr 61 (by omega), Dr 62 (by omega)]
        simp only [D27, D28, D58, D59, D60]
        by_cases e : i = nb
        · subst e
          simp only [if_pos trivial, ite_true]
          obtain ⟨s0, w0⟩ := b5 i (Nat.le_refl _) d
          refine ⟨rfl, rfl, rfl, ?_, ?_, Or.inl rfl, trivial, fun j hj _ => w0 j hj, fun _ _ _ => trivial⟩
          · have := w0 i d
            rw [show 9 * i = 8 * i + i by omega]
            exact this
          · exact s0
        · simp only [if_neg e]
          obtain ⟨q1, q2, q3, q4, q5, q6, q7, q8, q9⟩ := b4 i (by omega)
          exact ⟨q1, q2, q3, q4, q5, q6, q7, q8, fun j h1 h2 => q9 j (by omega) h2⟩
      · rw [Dr 61 (by omega), Dr 62 (by omega)]; exact b5 i (by omega) h2
    · rw [if_neg d]
      dsimp only
      rw [bank11 hb h.c7, if_pos c, if_neg d]
      exact ⟨R40_rf M, rfl, fun _ => INV_thr h, fun q => absurd q (by decide)⟩
  · rw [if_neg c]
    dsimp only
    rw [bank11 hb h.c7, if_neg c]
    exact ⟨R40_rf M, rfl, fun _ => INV_thr h, fun q => absurd q (by decide)⟩
end BANKS
/-! note: one more -/
section NOTES1
variable {nb nn : Nat} {M : xM}
def nt2 (a b c : Nat) : Prop := a = 7 ∨ a = 29 ∨ a = 30 ∨ a = 31 ∨ (81 ≤ a ∧ a ≤ 93) ∨ (a = 0 ∧ b = 0 ∧ c = 13) ∨ (a = 40 ∧ b = 0 ∧ c = 30)
theorem INV_nt {nn' : Nat} {N : xM} (h : INV nb nn M) (hq : ∀ a b c : Nat, ¬ jk a b c → ¬ nt2 a b c → N a b c = M a b c) (ob : gOb nb nn' (N 0 0 12) (N 0 0 13) (N 1 0) (N 3 0) (N 7 0) (N 8 0)) (hno : gNo nn' (N 29) (N 30) (N 31) (N 81 0) (N 82 0) (N 83 0) (N 84 0) (N 85 0) (N 86 0) (N 87 0) (N 88 0) (N 89 0) (N 90 0) (N 91 0) (N 92 0) (N 93 0) (N 40 0 30)) : INV nb nn' N := by
  have r : ∀ a : Nat, ¬ (a = 0 ∨ a = 6 ∨ a = 9 ∨ a = 11 ∨ a = 20 ∨ a = 21 ∨ a = 22 ∨ a = 56 ∨ a = 97 ∨ a = 98 ∨ a = 5 ∨ a = 40 ∨ a = 7 ∨ a = 29 ∨ a = 30 ∨ a = 31 ∨ (81 ≤ a ∧ a ≤ 93)) → N a = M a := by
    intro a ha
    funext b c
    refine hq a b c (fun q => ha ?_) (fun q => ha ?_)
    · unfold jk at q; omega
    · unfold nt2 at q; omega
  have c0 : ∀ c : Nat, c ≠ 13 → N 0 0 c = M 0 0 c := fun c hc => hq 0 0 c (by unfold jk; omega) (by unfold nt2; omega)
  have c40 : ∀ c : Nat, ¬ (c = 0 ∨ c = 30 ∨ c = 19 ∨ 23 ≤ c ∧ c ≤ 29) → N 40 0 c = M 40 0 c := fun c hc => hq 40 0 c (by unfold jk; omega) (by unfold nt2; omega)
  have c5 : N 5 0 2 = M 5 0 2 := hq 5 0 2 (by unfold jk; omega) (by unfold nt2; omega)
  obtain ⟨g1, g2, g3, g4, g5, g6, g7, g8, g9, g10, g11⟩ := h
  refine ⟨ob, ?_, ?_, ?_, ?_, ?_, ?_, hno, ?_, ?_, ?_⟩
  · rw [c0 16 (by decide), c0 14 (by decide), c0 15 (by decide), c40 1 (by omega), c40 13 (by omega), c40 22 (by omega)]; exact g2
  · rw [r 24 (by decide), r 25 (by decide), r 52 (by decide), r 53 (by decide), r 54 (by decide)]; exact g3
  · rw [r 13 (by decide), r 14 (by decide), r 55 (by decide)]; exact g4
  · rw [r 27 (by decide), r 28 (by decide), r 58 (by decide), r 59 (by decide), r 60 (by decide), r 61 (by decide), r 62 (by decide), c40 7 (by omega)]; exact g5
  · rw [r 15 (by decide), r 16 (by decide), r 17 (by decide), r 18 (by decide), r 65 (by decide), r 66 (by decide), r 67 (by decide), r 68 (by decide), r 4 (by decide), c40 14 (by omega)]; exact g6
  · rw [r 19 (by decide), r 70 (by decide), c5, c40 21 (by omega)]; exact g7
  · rw [r 26 (by decide), r 94 (by decide), r 95 (by decide)]; exact g9
  · rw [r 10 (by decide), r 96 (by decide)]; exact g10
  · rw [r 23 (by decide), r 99 (by decide), r 12 (by decide), c40 50 (by omega)]; exact g11
abbrev okN (b v has lost t : Int32) : Prop := (0 ≤ b ∧ b ≤ 7) ∧ (1 ≤ v ∧ v ≤ 100) ∧ (0 ≤ has ∧ has ≤ 255) ∧ (0 ≤ lost ∧ lost ≤ 255) ∧ (0 ≤ t ∧ t ≤ 7)
theorem note10 (hb : nn ≤ 24) (h13 : M 0 0 13 = nI nn) (b v has lost t : Int32) : f_X10_note b v has lost t M = if okN b v has lost t then (if nn < 24 then (nI nn, xup (xup (f_X4_handOn nn t (M 0 0 14) (xmN nn (nI nn) b v has lost M)) 7 0 nn 1) 0 0 13 (nI (nn + 1))) else ((-1000003), M)) else ((-1000001), M) := by
  have e8 : nI nn < 24 ↔ nn < 24 := nI_ltI (b := 24) (by omega) (by decide)
  have e14 : xmN nn (nI nn) b v has lost M 0 0 14 = M 0 0 14 := by unfold xmN; rw [xrow_ne (by omega), xrow_ne (by omega), xrow_ne (by omega)]
  unfold f_X10_note
  simp only [xlet_p, isUpTo_eq, xb_0, decide_eq_false_iff_not, h13, nI_1, nI_clamp (show nn < 2 ^ 31 by omega), e8, traderOf_eq, e14]
  by_cases c1 : 0 ≤ b ∧ b ≤ 7
  · rw [if_neg (fun q => q c1)]
    by_cases c2 : v < 1
    · rw [if_pos c2, if_neg (fun q => absurd q.2.1.1 (Int32.not_le.mpr c2))]
    · rw [if_neg c2]
      by_cases c3 : v ≤ 100
      · rw [if_pos c3]
        by_cases c4 : 0 ≤ has ∧ has ≤ 255
        · rw [if_neg (fun q => q c4)]
          by_cases c5 : 0 ≤ lost ∧ lost ≤ 255
          · rw [if_neg (fun q => q c5)]
            by_cases c6 : 0 ≤ t ∧ t ≤ 7
            · rw [if_pos c6, xopt_ps, if_pos (show okN b v has lost t from ⟨c1, ⟨Int32.not_lt.mp c2, c3⟩, c4, c5, c6⟩)]
            · rw [if_neg c6, xopt_pn, if_neg (fun q => c6 q.2.2.2.2)]
          · rw [if_pos c5, if_neg (fun q => c5 q.2.2.2.1)]
        · rw [if_pos c4, if_neg (fun q => c4 q.2.2.1)]
      · rw [if_neg c3, if_neg (fun q => c3 q.2.1.2)]
  · rw [if_pos c1, if_neg (fun q => c1 q.1)]
def nt11 (nn : Nat) (b v has lost : Int32) (N : xM) : xM := xup (xup (xup (xup (xup N 40 0 0 0) 81 0 nn b) 82 0 nn v) 83 0 nn has) 84 0 nn lost
theorem note11 {N : xM} (hb : nn ≤ 24) (h30 : N 40 0 30 = nI nn) (h91 : nn < 24 → N 91 0 nn = 0) (b v has lost t : Int32) : f_X11_note b v has lost t N = if okN b v has lost t then (if nn < 24 then (nI nn, xup (f_X11_comeTo (nI nn) t (nt11 nn b v has lost N)) 40 0 30 (nI (nn + 1))) else ((-1000003), xup N 40 0 0 0)) else ((-1000001), xup N 40 0 0 0) := by
  have e8 : nI nn = 24 ↔ nn = 24 := nI_eq (b := 24) (by omega) (by decide)
  have k0 : xup N 40 0 0 0 40 0 30 = nI nn := by rw [xup_j (by decide)]; exact h30
  have k1 : xup (xup N 40 0 0 0) 81 0 nn b 40 0 30 = nI nn := by rw [xup_k (by decide)]; exact k0
  have k2 : xup (xup (xup N 40 0 0 0) 81 0 nn b) 82 0 nn v 40 0 30 = nI nn := by rw [xup_k (by decide)]; exact k1
  have k3 : xup (xup (xup (xup N 40 0 0 0) 81 0 nn b) 82 0 nn v) 83 0 nn has 40 0 30 = nI nn := by rw [xup_k (by decide)]; exact k2
  have k4 : xup (xup (xup (xup (xup N 40 0 0 0) 81 0 nn b) 82 0 nn v) 83 0 nn has) 84 0 nn lost 40 0 30 = nI nn := by rw [xup_k (by decide)]; exact k3
  unfold f_X11_note
  simp only [xlet_p, in_0_7, in_1_100, in_0_255, isTrader_eq, xb_0, decide_eq_false_iff_not, k0, e8, nI_clamp (show nn < 2 ^ 31 by omega), k1, k2, k3, k4]
  by_cases c1 : 0 ≤ b ∧ b ≤ 7
  · rw [if_neg (fun q => q c1)]
    by_cases c3 : 1 ≤ v ∧ v ≤ 100
    · rw [if_neg (fun q => q c3)]
      by_cases c4 : 0 ≤ has ∧ has ≤ 255
      · rw [if_neg (fun q => q c4)]
        by_cases c5 : 0 ≤ lost ∧ lost ≤ 255
        · rw [if_neg (fun q => q c5)]
          by_cases c6 : 0 ≤ t ∧ t ≤ 7
          · rw [if_neg (fun q => q c6), if_pos (show okN b v has lost t from ⟨c1, c3, c4, c5, c6⟩)]
            by_cases d : nn = 24
            · rw [if_pos d, if_neg (by omega)]
            · rw [if_neg d, if_pos (by omega)]
              have e30 : f_X11_comeTo (nI nn) t (nt11 nn b v has lost N) 40 0 30 = nI nn := by
                rw [come_at (k := nn) (n := 0) (by omega) (by unfold nt11; rw [xup_k (by decide), xup_k (by decide), xup_k (by decide), xup_k (by decide), xup_k (by decide)]; exact h91 (by omega)) (by omega), if_neg (by omega), if_neg (by omega), if_neg (by omega), if_neg (by omega)]
                exact k4
              have e30' : f_X11_comeTo (nI nn) t (xup (xup (xup (xup (xup N 40 0 0 0) 81 0 nn b) 82 0 nn v) 83 0 nn has) 84 0 nn lost) 40 0 30 = nI nn := e30
              rw [e30', nI_1, xup_same, nI_pred]
              rfl
          · rw [if_pos c6, if_neg (fun q => c6 q.2.2.2.2)]
        · rw [if_pos c5, if_neg (fun q => c5 q.2.2.2.1)]
      · rw [if_pos c4, if_neg (fun q => c4 q.2.2.1)]
    · rw [if_pos c3, if_neg (fun q => c3 q.2.1)]
  · rw [if_pos c1, if_neg (fun q => c1 q.1)]
/-- what stands where, after a new note on both sides -/
theorem note_at (h : INV nb nn M) (d : nn < 24) (b v has lost t : Int32) (a i c : Nat) : xup (f_X11_comeTo (nI nn) t (nt11 nn b v has lost (xup (xup (f_X4_handOn nn t (M 0 0 14) (xmN nn (nI nn) b v has lost M)) 7 0 nn 1) 0 0 13 (nI (nn + 1))))) 40 0 30 (nI (nn + 1)) a i c = if a = 40 ∧ i = 0 ∧ c = 30 then nI (nn + 1) else if a = 85 ∧ i = 0 ∧ c = nn then t else if a = 92 ∧ i = 0 ∧ c = 12 * nn then t else if a = 93 ∧ i = 0 ∧ c = 12 * nn then M 40 0 13 else if a = 91 ∧ i = 0 ∧ c = nn then 1 else if a = 84 ∧ i = 0 ∧ c = nn then lost else if a = 83 ∧ i = 0 ∧ c = nn then has else if a = 82 ∧ i = 0 ∧ c = nn then v else if a = 81 ∧ i = 0 ∧ c = nn then b else if a = 40 ∧ i = 0 ∧ c = 0 then 0 else if a = 0 ∧ i = 0 ∧ c = 13 then nI (nn + 1) else if a = 7 ∧ i = 0 ∧ c = nn then 1 else if a = 29 ∧ i = nn ∧ c = 5 then 0 else if a = 29 ∧ i = nn ∧ c = 8 then t else if a = 30 ∧ i = nn ∧ c = 0 then t else if a = 31 ∧ i = nn ∧ c = 0 then M 0 0 14 else if a = 29 ∧ i = nn ∧ c = 6 then 1 else if a = 31 ∧ i = nn then 0 else if a = 30 ∧ i = nn then 0 else if a = 29 ∧ i = nn then rNote (nI nn) b v has lost c else M a i c := by
  have n6 : xmN nn (nI nn) b v has lost M 29 nn 6 = nI 0 := by
    unfold xmN; rw [xrow_ne (by omega), xrow_ne (by omega), xrow_same]; rfl
  have ho := fun a b' c => handOn_at (k := nn) (to := t) (w := M 0 0 14) (M := xmN nn (nI nn) b v has lost M) (n := 0) n6 (by omega) a b' c
  have q91 : nt11 nn b v has lost (xup (xup (f_X4_handOn nn t (M 0 0 14) (xmN nn (nI nn) b v has lost M)) 7 0 nn 1) 0 0 13 (nI (nn + 1))) 91 0 nn = nI 0 := by
    unfold nt11
    rw [xup_k (by decide), xup_k (by decide), xup_k (by decide), xup_k (by decide), xup_k (by decide), xup_k (by decide), xup_k (by decide), ho, if_neg (by omega), if_neg (by omega), if_neg (by omega), if_neg (by omega), if_neg (by omega)]
    unfold xmN
    rw [xrow_ne (by omega), xrow_ne (by omega), xrow_ne (by omega)]
    exact (h.no.2.2.2.2.2.2.2.2 nn (Nat.le_refl _) d).2.2.2.2
  have q13 : nt11 nn b v has lost (xup (xup (f_X4_handOn nn t (M 0 0 14) (xmN nn (nI nn) b v has lost M)) 7 0 nn 1) 0 0 13 (nI (nn + 1))) 40 0 13 = M 40 0 13 := by
    unfold nt11
    rw [xup_k (by decide), xup_k (by decide), xup_k (by decide), xup_k (by decide), xup_j (by decide), xup_k (by decide), xup_k (by decide), ho, if_neg (by omega), if_neg (by omega), if_neg (by omega), if_neg (by omega), if_neg (by omega)]
    unfold xmN
    rw [xrow_ne (by omega), xrow_ne (by omega), xrow_ne (by omega)]
  rw [xup_at, come_at d q91 (by omega), q13]
  unfold nt11
  simp only [xup_at, ho, Nat.zero_add, Nat.add_zero, show nI (0 + 1) = (1 : Int32) from rfl, show nI 1 = (1 : Int32) from rfl, show (0 : Nat) < 12 from by decide, true_and, true_or]
  unfold xmN
  simp only [xrow_at]
theorem s_note (h : INV nb nn M) (b v has lost t : Int32) : R40 M (f_X10_note b v has lost t M).2 ∧ (f_X10_note b v has lost t M).1 = (f_X11_note b v has lost t (f_X10_note b v has lost t M).2).1 ∧ ((f_X10_note b v has lost t M).1 < 0 → INV nb nn (f_X11_note b v has lost t (f_X10_note b v has lost t M).2).2) ∧ (0 ≤ (f_X10_note b v has lost t M).1 → INV nb (nn + 1) (f_X11_note b v has lost t (f_X10_note b v has lost t M).2).2) := by
  have hb := h.nn24
  have z91 : nn < 24 → M 91 0 nn = 0 := fun d => (h.no.2.2.2.2.2.2.2.2 nn (Nat.le_refl _) d).2.2.2.2
  rw [note10 hb h.c13]
  by_cases c : okN b v has lost t
  · rw [if_pos c]
    by_cases d : nn < 24
    · rw [if_pos d]
      dsimp only
      have r1 : R40 M (xup (xup (f_X4_handOn nn t (M 0 0 14) (xmN nn (nI nn) b v has lost M)) 7 0 nn 1) 0 0 13 (nI (nn + 1))) := fun a i c q => by
        rw [xup_k (by omega), xup_k (by omega), handOn_o (by omega) (by omega) (by omega)]
        unfold xmN
        rw [xrow_ne (by omega), xrow_ne (by omega), xrow_ne (by omega)]
      rw [note11 hb (by rw [r1 40 0 30 (by decide)]; exact h.c30) (fun q => by rw [r1 91 0 nn (by decide)]; exact z91 q), if_pos c, if_pos d]
      refine ⟨r1, rfl, fun q => absurd q (Int32.not_lt.mpr (nI_pos' (by omega))), fun _ => ?_⟩
      dsimp only
      have at_ := note_at h d b v has lost t
      generalize xup (f_X11_comeTo (nI nn) t (nt11 nn b v has lost (xup (xup (f_X4_handOn nn t (M 0 0 14) (xmN nn (nI nn) b v has lost M)) 7 0 nn 1) 0 0 13 (nI (nn + 1))))) 40 0 30 (nI (nn + 1)) = D at at_ ⊢
      obtain ⟨o1, o2, o3, o4, o5, o6, o7, o8, o9, o10⟩ := h.ob
      obtain ⟨n1, n2, n3, n4, n5, n6, n7, n8, n9⟩ := h.no
      obtain ⟨y1, y2, y3, y4, y5⟩ := n9 nn (Nat.le_refl _) d
      obtain ⟨k1, k2, k3, k4, k5⟩ := c
      have w13 : M 0 0 14 = M 40 0 13 := h.st.2.1
      have Do : ∀ a i c : Nat, ¬ jk a i c → ¬ nt2 a i c → D a i c = M a i c := fun a i c q1 q2 => by
        unfold jk at q1; unfold nt2 at q2
        rw [at_]
        repeat rw [if_neg (by omega)]
      have D7 : ∀ j : Nat, D 7 0 j = if j = nn then 1 else M 7 0 j := fun j => by
        rw [at_]
        by_cases e : j = nn
        · rw [if_pos e, e]
          simp
        · rw [if_neg e]
          repeat rw [if_neg (by omega)]
      have Dx : ∀ a : Nat, (a = 29 ∨ a = 30 ∨ a = 31) → ∀ i : Nat, i ≠ nn → D a i = M a i := fun a q i hi => by
        funext c
        rw [at_]
        repeat rw [if_neg (by omega)]
      have Dy : ∀ a : Nat, (81 ≤ a ∧ a ≤ 89 ∨ a = 91) → ∀ i : Nat, i ≠ nn → D a 0 i = M a 0 i := fun a q i hi => by
        rw [at_]
        repeat rw [if_neg (by omega)]
      have Dz : ∀ a : Nat, (86 ≤ a ∧ a ≤ 90) → D a 0 = M a 0 := fun a q => by
        funext c
        rw [at_]
        repeat rw [if_neg (by omega)]
      have Dw : ∀ a : Nat, (a = 92 ∨ a = 93) → ∀ j : Nat, j ≠ 12 * nn → D a 0 j = M a 0 j := fun a q j hj => by
        rw [at_]
        repeat rw [if_neg (by omega)]
      have D81 : D 81 0 nn = b := by rw [at_]; simp
      have D82 : D 82 0 nn = v := by rw [at_]; simp
      have D83 : D 83 0 nn = has := by rw [at_]; simp
      have D84 : D 84 0 nn = lost := by rw [at_]; simp
      have D85 : D 85 0 nn = t := by rw [at_]; simp
      have D91 : D 91 0 nn = 1 := by rw [at_]; simp
      have D92 : D 92 0 (12 * nn) = t := by rw [at_]; simp
      have D93 : D 93 0 (12 * nn) = M 40 0 13 := by rw [at_]; simp
      have D30 : D 30 nn 0 = t := by rw [at_]; simp
      have D31 : D 31 nn 0 = M 0 0 14 := by rw [at_]; simp
      have A : ∀ c : Nat, D 29 nn c = if c = 5 then 0 else if c = 8 then t else if c = 6 then 1 else rNote (nI nn) b v has lost c := fun c => by rw [at_]; simp
      have A0 : D 29 nn 0 = nI nn := by rw [A]; rfl
      have A1 : D 29 nn 1 = b := by rw [A]; rfl
      have A2 : D 29 nn 2 = v := by rw [A]; rfl
      have A3 : D 29 nn 3 = has := by rw [A]; rfl
      have A4 : D 29 nn 4 = lost := by rw [A]; rfl
      have A5 : D 29 nn 5 = 0 := by rw [A]; rfl
      have A6 : D 29 nn 6 = 1 := by rw [A]; rfl
      have A7 : D 29 nn 7 = 0 := by rw [A]; rfl
      have A8 : D 29 nn 8 = t := by rw [A]; rfl
      refine INV_nt h Do ⟨o1, by omega, ?_, ?_, ?_, ?_, ?_, fun j hj => ?_, ?_, fun j hj => ?_⟩ ⟨?_, fun i => ?_, fun i => ?_, fun i => ?_, fun j => ?_, fun j => ?_, fun j => ?_, fun i hi => ?_, fun i h1 h2 => ?_⟩
      · rw [Do 0 0 12 (by unfold jk; omega) (by unfold nt2; omega)]; exact o3
      · rw [at_]; simp
      · have e : D 1 0 = M 1 0 := by funext c; exact Do 1 0 c (by unfold jk; omega) (by unfold nt2; omega)
        rw [e]; exact o5
      · have e : D 8 0 = M 8 0 := by funext c; exact Do 8 0 c (by unfold jk; omega) (by unfold nt2; omega)
        rw [e]; exact o6
      · have e : D 3 0 = M 3 0 := by funext c; exact Do 3 0 c (by unfold jk; omega) (by unfold nt2; omega)
        rw [e]; exact o7
      · rw [D7]
        by_cases e : j = nn
        · rw [if_pos e]; decide
        · rw [if_neg e]; exact o8 j (by omega)
      · have e : D 3 0 = M 3 0 := by funext c; exact Do 3 0 c (by unfold jk; omega) (by unfold nt2; omega)
        rw [e]; exact o9
      · rw [D7, if_neg (by omega)]; exact o10 j (by omega)
      · rw [at_]; simp
      · by_cases e : i = nn
        · subst e; rw [A6]; decide
        · rw [Dx 29 (by omega) i e]; exact n2 i
      · by_cases e : i = nn
        · subst e; rw [A1]; exact k1
        · rw [Dx 29 (by omega) i e]; exact n3 i
      · by_cases e : i = nn
        · subst e; rw [A0]; exact ⟨nI_pos' (by omega), nI_lt (b := 24) d (by decide)⟩
        · rw [Dx 29 (by omega) i e]; exact n4 i
      · by_cases e : j = nn
        · subst e; rw [D81]; exact k1
        · rw [Dy 81 (by omega) j e]; exact n5 j
      · by_cases e : j = nn
        · subst e; rw [D91]; decide
        · rw [Dy 91 (by omega) j e]; exact n6 j
      · by_cases e : j = nn
        · subst e; rw [D82]; exact k2.2
        · rw [Dy 82 (by omega) j e]; exact n7 j
      · by_cases e : i = nn
        · subst e
          unfold gN1
          rw [A0, A1, A2, A3, A4, A5, A6, A7, A8, D81, D82, D83, D84, D85, D91, Dz 86 (by omega), Dz 87 (by omega), Dz 88 (by omega), Dz 89 (by omega), y1, y2, y3, y4]
          refine ⟨rfl, rfl, rfl, rfl, rfl, k2.1, k2.2, k4.1, k4.2, by decide, by decide, rfl, rfl, rfl, rfl, rfl, Or.inl rfl, fun q => absurd q (by decide), rfl, by decide, fun _ => k5, fun _ _ => D30, fun k hk => ?_⟩
          obtain rfl : k = 0 := by
            have : (1 : Int32).toNatClampNeg = 1 := rfl
            omega
          rw [Nat.add_zero, D92, D93, D30, D31]
          exact ⟨rfl, w13.symm, k5⟩
        · have hi' : i < nn := by omega
          have l12 : (M 29 i 6).toNatClampNeg ≤ 12 := tnc_le (N := 12) (by decide) (n2 i).2
          have gn := n8 i hi'
          unfold gN1 at gn ⊢
          rw [Dx 29 (by omega) i e, Dx 30 (by omega) i e, Dx 31 (by omega) i e, Dy 81 (by omega) i e, Dy 82 (by omega) i e, Dy 83 (by omega) i e, Dy 84 (by omega) i e, Dy 85 (by omega) i e, Dy 86 (by omega) i e, Dy 87 (by omega) i e, Dy 88 (by omega) i e, Dy 89 (by omega) i e, Dz 90 (by omega), Dy 91 (by omega) i e]
          obtain ⟨m1, m2, m3, m4, m5, m6, m7, m8, m9, m10, m11, m12, m13, m14, m15, m16, m17, m18, m19, m20, m21, m22, m23⟩ := gn
          exact ⟨m1, m2, m3, m4, m5, m6, m7, m8, m9, m10, m11, m12, m13, m14, m15, m16, m17, m18, m19, m20, m21, m22, fun k hk => by rw [Dw 92 (by omega) _ (by omega), Dw 93 (by omega) _ (by omega)]; exact m23 k hk⟩
      · rw [Dz 86 (by omega), Dz 87 (by omega), Dz 88 (by omega), Dz 89 (by omega), Dy 91 (by omega) i (by omega)]; exact n9 i (by omega) h2
    · rw [if_neg d]
      dsimp only
      rw [note11 hb h.c30 z91, if_pos c, if_neg d]
      exact ⟨R40_rf M, rfl, fun _ => INV_thr h, fun q => absurd q (by decide)⟩
  · rw [if_neg c]
    dsimp only
    rw [note11 hb h.c30 z91, if_neg c]
    exact ⟨R40_rf M, rfl, fun _ => INV_thr h, fun q => absurd q (by decide)⟩
end NOTES1
