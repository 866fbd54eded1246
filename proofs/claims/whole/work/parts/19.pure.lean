theorem wor2 {q town w : Int32} {M : xM} {x y z : Nat} (h : ¬ x = 56) : (f_X11_worthOf q town w M).2 x y z = M x y z := by
  unfold f_X11_worthOf
  simp only [xlet2, xlet]
  split
  · split
    · split
      · rw [ff2 h, off2 h, said2 h]
      · split
        · rw [ff2 h, off2 h, said2 h]
        · dsimp only
          rw [ff2 h, off2 h, said2 h]
    · exact said2 h
  · rfl
theorem mI_come {q t : Int32} {M : xM} (h : mI M) : mI (f_X11_comeTo q t M) := by
  have h' := h
  unfold mI at h ⊢
  obtain ⟨h1, h2, h3, h4, h5, h6, h7, h8, h9, h10, h11, h12⟩ := h
  unfold f_X11_comeTo
  simp only [xlet]
  have k8 := h8 q.toNatClampNeg
  repeat' split
  all_goals (simp only [xup_at]; simp; refine ⟨h1, h2, h3, h4, h5, h6, h7, ?_, h9, h10, h11, h12⟩; first | exact h8 | (intro j; have k9 := h8 j; simp only [xup_at] at *; grind))
theorem come_o {q t : Int32} {M : xM} {a b c : Nat} (h1 : ¬ a = 85) (h2 : ¬ a = 91) (h3 : ¬ a = 92) (h4 : ¬ a = 93) : f_X11_comeTo q t M a b c = M a b c := by
  unfold f_X11_comeTo
  simp only [xlet]
  repeat' split
  all_goals simp [xup_at, h1, h2, h3, h4]
theorem lsOK_s2 {M : xM} {k v : Int32} (h : lsOK M k) (h1 : 0 ≤ k) (h2 : k < 8) (h3 : 0 ≤ v) (h4 : v < 24) : lsOK (xup M 98 0 k.toNatClampNeg v) (k + 1) := lsOK_s h h1 h2 rfl (by rw [xup_same]; exact h3) (by rw [xup_same]; exact h4)
theorem mI_98 {M : xM} {j : Nat} {v : Int32} (hM : mI M) : mI (xup M 98 0 j v) := by
  unfold mI at *
  simp only [xup_at]
  simpa using hM
theorem wI_of {M : xM} {v z : Int32} (h1 : lsOK M z) (h2 : mI M) : wI (xup M 40 0 1 v) z := wI_o (by decide) (by decide) ⟨h1, h2.2.2.2.2.2.2.1⟩
