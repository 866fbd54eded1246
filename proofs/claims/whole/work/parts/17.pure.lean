theorem off2 {town w b : Int32} {M : xM} {x y z : Nat} (h : ¬ x = 56) : (f_X11_offOf town w b M).2 x y z = M x y z := by
  unfold f_X11_offOf
  simp only [xlet2]
  split <;> exact said2 h
theorem beg_at (v : Int32) (M : xM) (a b c : Nat) : f_X11_began v M a b c = if M 40 0 50 < 16 ∧ a = 99 ∧ b = 0 ∧ c = (M 40 0 50).toNatClampNeg then v else if M 40 0 50 < 16 ∧ a = 40 ∧ b = 0 ∧ c = 50 then M 40 0 50 + 1 else M a b c := by
  unfold f_X11_began
  simp only [xlet]
  by_cases h : 16 ≤ M 40 0 50
  · rw [if_pos h, if_neg (by grind), if_neg (by grind)]
  · rw [if_neg h]
    simp only [xup_at]
    grind
theorem beg50 {v : Int32} {M : xM} (h : 0 ≤ M 40 0 50) : 0 ≤ f_X11_began v M 40 0 50 := by
  rw [beg_at]; grind
theorem beg50' {v : Int32} {M : xM} (h : M 40 0 50 ≤ 16) : f_X11_began v M 40 0 50 ≤ 16 := by
  rw [beg_at]; grind
theorem beg_o {v : Int32} {M : xM} {a b c : Nat} (h1 : ¬ a = 99) (h2 : ¬ (a = 40 ∧ b = 0 ∧ c = 50)) : f_X11_began v M a b c = M a b c := by
  rw [beg_at, if_neg (fun q => h1 q.2.1), if_neg (fun q => h2 q.2)]
