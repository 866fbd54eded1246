/-! ask, on the reference's side -/
section ASK2
variable {nb nn : Nat} {M N : xM}
theorem mk_0_0 {k : Nat} (hk : k < 24) (h50 : N 40 0 50 = 0) : f_X11_markOf (nI k) 0 (rlv [] 0 N) = (nI k, rlv [20] 0 N) := by
  unfold f_X11_markOf
  simp [xlet_p, xlet2_p, f_X11_isOf, xb, began_1, h50, rlv_o, nI_clamp (show k < 2 ^ 31 by omega)]
theorem mk_1_0 {k : Nat} (hk : k < 24) (h50 : N 40 0 50 = 0) : f_X11_markOf (nI k) 1 (rlv [] 0 N) = (nI k, rlv [20] 0 N) := by
  unfold f_X11_markOf
  simp [xlet_p, xlet2_p, f_X11_isOf, xb, began_1, h50, rlv_o, nI_clamp (show k < 2 ^ 31 by omega)]
theorem mk_2_0 {k : Nat} (hk : k < 24) (h50 : N 40 0 50 = 0) : f_X11_markOf (nI k) 2 (rlv [] 0 N) = (nI k + 100, rlv [21, 20] 0 N) := by
  unfold f_X11_markOf
  simp [xlet_p, xlet2_p, f_X11_isOf, xb, began_1, h50, rlv_o, nI_clamp (show k < 2 ^ 31 by omega)]
theorem mk_3_0 {k : Nat} (hk : k < 24) (h50 : N 40 0 50 = 0) : f_X11_markOf (nI k) 3 (rlv [] 0 N) = (nI k + 100 + N 81 0 k, rlv [22, 21, 20] 0 N) := by
  unfold f_X11_markOf
  simp [xlet_p, xlet2_p, f_X11_isOf, xb, began_1, h50, rlv_o, nI_clamp (show k < 2 ^ 31 by omega)]
theorem mk_4_0 {k : Nat} (hk : k < 24) (h50 : N 40 0 50 = 0) : f_X11_markOf (nI k) 4 (rlv [] 0 N) = (nI k, rlv [20] 0 N) := by
  unfold f_X11_markOf
  simp [xlet_p, xlet2_p, f_X11_isOf, xb, began_1, h50, rlv_o, nI_clamp (show k < 2 ^ 31 by omega)]
theorem mk_5_0 {k : Nat} (hk : k < 24) (h50 : N 40 0 50 = 0) : f_X11_markOf (nI k) 5 (rlv [] 0 N) = (nI k + N 82 0 k, rlv [23, 20, 10] 0 N) := by
  unfold f_X11_markOf
  simp [xlet_p, xlet2_p, f_X11_isOf, xb, began_1, h50, rlv_o, nI_clamp (show k < 2 ^ 31 by omega)]
theorem mk_2_1 {k : Nat} (hk : k < 24) (h50 : N 40 0 50 = 0) : f_X11_markOf (nI k) 2 (rlv [12] 0 N) = (nI k + 100, rlv [12, 21, 20] 0 N) := by
  unfold f_X11_markOf
  simp [xlet_p, xlet2_p, f_X11_isOf, xb, began_1, h50, rlv_o, nI_clamp (show k < 2 ^ 31 by omega)]
theorem mk_3_2 {k : Nat} (hk : k < 24) (h50 : N 40 0 50 = 0) : f_X11_markOf (nI k) 3 (rlv [13, 12] 0 N) = (nI k + 100 + N 81 0 k, rlv [13, 12, 22, 21, 20] 0 N) := by
  unfold f_X11_markOf
  simp [xlet_p, xlet2_p, f_X11_isOf, xb, began_1, h50, rlv_o, nI_clamp (show k < 2 ^ 31 by omega)]
theorem sz_0 {k : Nat} (hk : k < 24) (h50 : N 40 0 50 = 0) : f_X11_sizeOf (nI k) 0 (rlv [] 0 N) = (N 82 0 k, rlv [10] 0 N) := by
  unfold f_X11_sizeOf
  simp [xlet_p, xlet2_p, f_X11_isOf, xb, began_1, h50, rlv_o, nI_clamp (show k < 2 ^ 31 by omega)]
theorem sz_1 {k : Nat} (hk : k < 24) (h50 : N 40 0 50 = 0) : f_X11_sizeOf (nI k) 1 (rlv [] 0 N) = (N 82 0 k - f_X11_bits (N 84 0 k) N, rlv [11, 10] 0 N) := by
  unfold f_X11_sizeOf
  simp [xlet_p, xlet2_p, f_X11_isOf, xb, began_1, h50, rlv_o, nI_clamp (show k < 2 ^ 31 by omega)]
  rfl
theorem sz_2 {k : Nat} (hk : k < 24) (h50 : N 40 0 50 = 0) : f_X11_sizeOf (nI k) 2 (rlv [] 0 N) = (-(nI k + 100), rlv [12, 21, 20] 0 N) := by
  unfold f_X11_sizeOf
  simp [xlet_p, xlet2_p, f_X11_isOf, xb, began_1, h50, rlv_o, nI_clamp (show k < 2 ^ 31 by omega), mk_2_1 hk h50]
theorem sz_3 {k : Nat} (hk : k < 24) (h50 : N 40 0 50 = 0) : f_X11_sizeOf (nI k) 3 (rlv [] 0 N) = (2 * -(nI k + 100 + N 81 0 k), rlv [13, 12, 22, 21, 20] 0 N) := by
  unfold f_X11_sizeOf
  simp [xlet_p, xlet2_p, f_X11_isOf, xb, began_1, h50, rlv_o, nI_clamp (show k < 2 ^ 31 by omega), mk_3_2 hk h50]
theorem sz_4 {k : Nat} (hk : k < 24) (h50 : N 40 0 50 = 0) : f_X11_sizeOf (nI k) 4 (rlv [] 0 N) = (N 82 0 k / 2, rlv [14, 10] 0 N) := by
  unfold f_X11_sizeOf
  simp [xlet_p, xlet2_p, f_X11_isOf, xb, began_1, h50, rlv_o, nI_clamp (show k < 2 ^ 31 by omega)]
theorem sz_5 {k : Nat} (hk : k < 24) (h50 : N 40 0 50 = 0) : f_X11_sizeOf (nI k) 5 (rlv [] 0 N) = (N 82 0 k, rlv [10] 0 N) := by
  unfold f_X11_sizeOf
  simp [xlet_p, xlet2_p, f_X11_isOf, xb, began_1, h50, rlv_o, nI_clamp (show k < 2 ^ 31 by omega)]
end ASK2
