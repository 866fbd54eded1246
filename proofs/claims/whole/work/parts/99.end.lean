theorem wd_1 : Cond.instantiable RX10 17 ∈ wsL_law := wr_1 (List.mem_of_getElem? (i := 1) rfl)
theorem wd_4 : Cond.instantiable RX11 51 ∈ wsL_law := wr_1 (List.mem_of_getElem? (i := 4) rfl)
theorem wd_8 : Cond.instanceMethod yX10_init ∈ wsL_law := wr_1 (List.mem_of_getElem? (i := 8) rfl)
theorem wd_9 : Cond.code yX10_init cX10_init 2 none ∈ wsL_law := wr_1 (List.mem_of_getElem? (i := 9) rfl)
theorem wd_132 : Cond.instanceMethod yX11_init ∈ wsL_law := wr_6 (List.mem_of_getElem? (i := 12) rfl)
theorem wd_133 : Cond.code yX11_init cX11_init 1 none ∈ wsL_law := wr_6 (List.mem_of_getElem? (i := 13) rfl)
section LOOP
variable {p : Program} {l : Launch} {e : Env} {s : State} {m : MethodId} {below : List Frame} {meth : Method} {c : Code} {b N : Nat} {xs : Nat → Int32} {H : Heap} {locs : List Loc} {cells slots : Nat} {Q : State → Prop} {ls : Array Slot} {rest : List Value} {q1 q2 : Nat} {x : Int32}
set_option maxRecDepth 100000 in
theorem lw_switch (C0 : lw_At p s m meth c b N xs) (I : lwI s q1 q2 H locs) (hl : lv_has ls 4 (lwL b q1 q2 x)) (hj : lwN N x) (hc : cells + 3 ≤ 600000) (hs : slots + 37 ≤ 7302250) (K : ∀ (H : Heap) (locs : List Loc), lwI s q1 q2 H locs → W p l e room_1 s m #[Value.ref b] below meth c H locs (cells + 3) (slots + 37) Q (F0 m 1448 ls [])) (y : Int32) : W p l e room_1 s m #[Value.ref b] below meth c H locs cells slots Q (F0 m 33 ls [.int y]) := by
  obtain ⟨hx, hb, hr, hml, hown, hts, hX, hbl, hlocks, hgv⟩ := id C0
  by_cases h : y.toInt < 0 ∨ 33 < y.toInt
  · exact lv_tableOut (tgt := 1448) hx hb dL_law_33 h (by decide) (W.widen (Nat.le_add_right _ _) (Nat.le_add_right _ _) (K _ _ I))
  · have h1 : ¬ y.toInt < 0 := fun q => h (Or.inl q)
    have h2 : ¬ 33 < y.toInt := fun q => h (Or.inr q)
    obtain ⟨k, hk, hky⟩ : ∃ k : Nat, k < 34 ∧ y.toInt = k := ⟨y.toInt.toNat, by omega, by omega⟩
    have hk : k = 0 ∨ k = 1 ∨ k = 2 ∨ k = 3 ∨ k = 4 ∨ k = 5 ∨ k = 6 ∨ k = 7 ∨ k = 8 ∨ k = 9 ∨ k = 10 ∨ k = 11 ∨ k = 12 ∨ k = 13 ∨ k = 14 ∨ k = 15 ∨ k = 16 ∨ k = 17 ∨ k = 18 ∨ k = 19 ∨ k = 20 ∨ k = 21 ∨ k = 22 ∨ k = 23 ∨ k = 24 ∨ k = 25 ∨ k = 26 ∨ k = 27 ∨ k = 28 ∨ k = 29 ∨ k = 30 ∨ k = 31 ∨ k = 32 ∨ k = 33 := by omega
    rcases hk with rfl | rfl | rfl | rfl | rfl | rfl | rfl | rfl | rfl | rfl | rfl | rfl | rfl | rfl | rfl | rfl | rfl | rfl | rfl | rfl | rfl | rfl | rfl | rfl | rfl | rfl | rfl | rfl | rfl | rfl | rfl | rfl | rfl | rfl
    · exact lv_tableIn (off := 151) (tgt := 184) hx hb dL_law_33 h1 h2 (by rw [hky]; rfl) (by decide) (lw_c0 C0 I hl hj hc hs K)
    · exact lv_tableIn (off := 194) (tgt := 227) hx hb dL_law_33 h1 h2 (by rw [hky]; rfl) (by decide) (lw_c1 C0 I hl hj hc hs K)
    · exact lv_tableIn (off := 237) (tgt := 270) hx hb dL_law_33 h1 h2 (by rw [hky]; rfl) (by decide) (lw_c2 C0 I hl hj hc hs K)
    · exact lv_tableIn (off := 300) (tgt := 333) hx hb dL_law_33 h1 h2 (by rw [hky]; rfl) (by decide) (lw_c3 C0 I hl hj hc hs K)
    · exact lv_tableIn (off := 323) (tgt := 356) hx hb dL_law_33 h1 h2 (by rw [hky]; rfl) (by decide) (lw_c4 C0 I hl hj hc hs K)
    · exact lv_tableIn (off := 366) (tgt := 399) hx hb dL_law_33 h1 h2 (by rw [hky]; rfl) (by decide) (lw_c5 C0 I hl hj hc hs K)
    · exact lv_tableIn (off := 399) (tgt := 432) hx hb dL_law_33 h1 h2 (by rw [hky]; rfl) (by decide) (lw_c6 C0 I hl hj hc hs K)
    · exact lv_tableIn (off := 442) (tgt := 475) hx hb dL_law_33 h1 h2 (by rw [hky]; rfl) (by decide) (lw_c7 C0 I hl hj hc hs K)
    · exact lv_tableIn (off := 475) (tgt := 508) hx hb dL_law_33 h1 h2 (by rw [hky]; rfl) (by decide) (lw_c8 C0 I hl hj hc hs K)
    · exact lv_tableIn (off := 518) (tgt := 551) hx hb dL_law_33 h1 h2 (by rw [hky]; rfl) (by decide) (lw_c9 C0 I hl hj hc hs K)
    · exact lv_tableIn (off := 541) (tgt := 574) hx hb dL_law_33 h1 h2 (by rw [hky]; rfl) (by decide) (lw_c10 C0 I hl hj hc hs K)
    · exact lv_tableIn (off := 564) (tgt := 597) hx hb dL_law_33 h1 h2 (by rw [hky]; rfl) (by decide) (lw_c11 C0 I hl hj hc hs K)
    · exact lv_tableIn (off := 627) (tgt := 660) hx hb dL_law_33 h1 h2 (by rw [hky]; rfl) (by decide) (lw_c12 C0 I hl hj hc hs K)
    · exact lv_tableIn (off := 640) (tgt := 673) hx hb dL_law_33 h1 h2 (by rw [hky]; rfl) (by decide) (lw_c13 C0 I hl hj hc hs K)
    · exact lv_tableIn (off := 653) (tgt := 686) hx hb dL_law_33 h1 h2 (by rw [hky]; rfl) (by decide) (lw_c14 C0 I hl hj hc hs K)
    · exact lv_tableIn (off := 706) (tgt := 739) hx hb dL_law_33 h1 h2 (by rw [hky]; rfl) (by decide) (lw_c15 C0 I hl hj hc hs K)
    · exact lv_tableIn (off := 769) (tgt := 802) hx hb dL_law_33 h1 h2 (by rw [hky]; rfl) (by decide) (lw_c16 C0 I hl hj hc hs K)
    · exact lv_tableIn (off := 802) (tgt := 835) hx hb dL_law_33 h1 h2 (by rw [hky]; rfl) (by decide) (lw_c17 C0 I hl hj hc hs K)
    · exact lv_tableIn (off := 845) (tgt := 878) hx hb dL_law_33 h1 h2 (by rw [hky]; rfl) (by decide) (lw_c18 C0 I hl hj hc hs K)
    · exact lv_tableIn (off := 888) (tgt := 921) hx hb dL_law_33 h1 h2 (by rw [hky]; rfl) (by decide) (lw_c19 C0 I hl hj hc hs K)
    · exact lv_tableIn (off := 931) (tgt := 964) hx hb dL_law_33 h1 h2 (by rw [hky]; rfl) (by decide) (lw_c20 C0 I hl hj hc hs K)
    · exact lv_tableIn (off := 974) (tgt := 1007) hx hb dL_law_33 h1 h2 (by rw [hky]; rfl) (by decide) (lw_c21 C0 I hl hj hc hs K)
    · exact lv_tableIn (off := 1017) (tgt := 1050) hx hb dL_law_33 h1 h2 (by rw [hky]; rfl) (by decide) (lw_c22 C0 I hl hj hc hs K)
    · exact lv_tableIn (off := 1050) (tgt := 1083) hx hb dL_law_33 h1 h2 (by rw [hky]; rfl) (by decide) (lw_c23 C0 I hl hj hc hs K)
    · exact lv_tableIn (off := 1073) (tgt := 1106) hx hb dL_law_33 h1 h2 (by rw [hky]; rfl) (by decide) (lw_c24 C0 I hl hj hc hs K)
    · exact lv_tableIn (off := 1106) (tgt := 1139) hx hb dL_law_33 h1 h2 (by rw [hky]; rfl) (by decide) (lw_c25 C0 I hl hj hc hs K)
    · exact lv_tableIn (off := 1149) (tgt := 1182) hx hb dL_law_33 h1 h2 (by rw [hky]; rfl) (by decide) (lw_c26 C0 I hl hj hc hs K)
    · exact lv_tableIn (off := 1192) (tgt := 1225) hx hb dL_law_33 h1 h2 (by rw [hky]; rfl) (by decide) (lw_c27 C0 I hl hj hc hs K)
    · exact lv_tableIn (off := 1267) (tgt := 1300) hx hb dL_law_33 h1 h2 (by rw [hky]; rfl) (by decide) (lw_c28 C0 I hl hj hc hs K)
    · exact lv_tableIn (off := 1290) (tgt := 1323) hx hb dL_law_33 h1 h2 (by rw [hky]; rfl) (by decide) (lw_c29 C0 I hl hj hc hs K)
    · exact lv_tableIn (off := 1323) (tgt := 1356) hx hb dL_law_33 h1 h2 (by rw [hky]; rfl) (by decide) (lw_c30 C0 I hl hj hc hs K)
    · exact lv_tableIn (off := 1356) (tgt := 1389) hx hb dL_law_33 h1 h2 (by rw [hky]; rfl) (by decide) (lw_c31 C0 I hl hj hc hs K)
    · exact lv_tableIn (off := 1379) (tgt := 1412) hx hb dL_law_33 h1 h2 (by rw [hky]; rfl) (by decide) (lw_c32 C0 I hl hj hc hs K)
    · exact lv_tableIn (off := 1402) (tgt := 1435) hx hb dL_law_33 h1 h2 (by rw [hky]; rfl) (by decide) (lw_c33 C0 I hl hj hc hs K)
theorem lw_len {N i : Nat} (hN : N ≤ 3584) (hi : i ≤ 4000) (h : ¬ Int32.ofNat N - 7 < nI i) : i + 7 ≤ N := by
  have h7 : (7 : Int32).toInt = 7 := by decide
  have h0 : (Int32.ofNat N).toInt = N := nI_toInt (by omega)
  have h1 : (Int32.ofNat N - 7).toInt = (N : Int) - 7 := by
    rw [Int32.toInt_sub, h0, h7, Int.bmod_eq_of_le] <;> omega
  have h2 : (nI i).toInt = i := nI_toInt (by omega)
  rw [Int32.lt_iff_toInt_lt, h1, h2] at h
  omega
set_option maxRecDepth 100000 in
/-- THE LAW'S LOOP: at its head, with i ints read -/
theorem law_loop (hN : N ≤ 3584) (C0 : lw_At p s m meth c b N xs) : ∀ (n i : Nat) (x : Int32), i ≤ N → N + 1 ≤ i + n → x = nI i → ∀ (H : Heap) (locs : List Loc), lwI s q1 q2 H locs → ∀ ls : Array Slot, lv_has ls 4 (lwL b q1 q2 x) → W p l e room_1 s m #[Value.ref b] below meth c H locs (90 + 3 * i) (18000 + 37 * i) (lw_Z below #[Value.ref b] s) (F0 m 18 ls []) := by
  obtain ⟨hx, hb, hr, hml, hown, hts, hX, hbl, hlocks, hgv⟩ := id C0
  intro n
  induction n with
  | zero =>
    intro i x h1 h2
    exact absurd h2 (by omega)
  | succ n ih =>
    intro i x hi hin ex H locs I ls hl
    have hS : va_S (lwA s) s.heap H locs := by
      obtain ⟨g, L, M, nb, nn, -, -, -, -, -, -, -, hS, -, -⟩ := I
      exact hS
    refine lv_iload_n hx hb dL_law_18 rfl (lv_at hl 3 rfl) ?_
    refine lv_aload_n hx hb dL_law_19 rfl (lv_at hl 0 rfl) ?_
    refine va_slen hx hb hX hbl (Nat.not_le.mpr hbl) hS dL_law_20 ?_
    refine lv_bipush (v := 7) hx hb dL_law_21 (by decide) ?_
    refine lv_isub hx hb dL_law_23 ?_
    refine lv_icmp_gt (tgt := 1454) hx hb dL_law_24 (by decide) (fun c1 => ?_) (fun c1 => ?_)
    · refine lv_iconst (v := 1) hx hb dL_law_1454 (by decide) ?_
      refine va_forget (fun q hq => hS.2.2 q hq) ?_
      refine W.widen (k := 600000) (n := 7302250) (by omega) (by omega) ?_
      exact lw_ret hx hb hr hlocks dL_law_1455
    · have hlt : i + 7 ≤ N := lw_len hN (by omega) (by rw [ex] at c1; exact c1)
      have hin0 : vp_in x N := by rw [ex]; exact vp_in_nI (by omega) (by omega)
      have hj : lwN N x := by
        rw [ex]
        unfold lwN
        rw [show nI i + 1 = nI (i + 1) from nI_add i 1, show nI i + 2 = nI (i + 2) from nI_add i 2, show nI i + 3 = nI (i + 3) from nI_add i 3, show nI i + 4 = nI (i + 4) from nI_add i 4, show nI i + 5 = nI (i + 5) from nI_add i 5, show nI i + 6 = nI (i + 6) from nI_add i 6]
        exact ⟨vp_in_nI (by omega) (by omega), vp_in_nI (by omega) (by omega), vp_in_nI (by omega) (by omega), vp_in_nI (by omega) (by omega), vp_in_nI (by omega) (by omega), vp_in_nI (by omega) (by omega)⟩
      refine lv_aload_n hx hb dL_law_27 rfl (lv_at hl 0 rfl) ?_
      refine lv_iload_n hx hb dL_law_28 rfl (lv_at hl 3 rfl) ?_
      refine va_sld hx hb hX hbl (Nat.not_le.mpr hbl) hS hin0 dL_law_29 ?_
      refine lv_bipush (v := 63) hx hb dL_law_30 (by decide) ?_
      refine lv_iand hx hb dL_law_32 ?_
      refine lw_switch C0 I hl hj (by omega) (by omega) (fun H locs I => ?_) _
      refine lv_iinc (v := x + 7) (lv' := [(3, .int (x + 7)), (0, .ref b), (1, .ref q1), (2, .ref q2)]) hx hb dL_law_1448 hl (k := 3) rfl rfl (by decide) rfl (fun ls hl => ?_)
      refine lv_goto (tgt := 18) hx hb dL_law_1451 (by decide) ?_
      refine W.widen (k := 90 + 3 * (i + 7)) (n := 18000 + 37 * (i + 7)) (by omega) (by omega) ?_
      exact ih (i + 7) (x + 7) hlt (by omega) (by rw [ex]; exact nI_add i 7) H locs I ls (lv_sub hl [1, 2, 3, 0] rfl)
end LOOP
section START
variable {s : State} {args : Array Value}
theorem st_K (hts : ∀ w ∈ Cond.initialized RX10 :: wsL_law, w.before args s = true) : ∃ D : va_G, ∀ (k : Nat) (q : vw_C), vwCl[k]? = some q → u_Kn s q.1 q.2.1 q.2.2 (D.1 k) (D.2 k) := by
  obtain ⟨c0, i0, k0⟩ := u_known (C := RX0) (T := TX0) (N := 6) (n := 6) hts inT_X0 (hts _ (List.mem_cons_of_mem _ wd_309))
  obtain ⟨c1, i1, k1⟩ := u_known (C := RX1) (T := TX1) (N := 7) (n := 7) hts inT_X1 (hts _ (List.mem_cons_of_mem _ wd_30))
  obtain ⟨c2, i2, k2⟩ := u_known (C := RX2) (T := TX2) (N := 5) (n := 5) hts inT_X2 (hts _ (List.mem_cons_of_mem _ wd_22))
  obtain ⟨c3, i3, k3⟩ := u_known (C := RX3) (T := TX3) (N := 7) (n := 7) hts inT_X3 (hts _ (List.mem_cons_of_mem _ wd_41))
  obtain ⟨c4, i4, k4⟩ := u_known (C := RX4) (T := TX4) (N := 13) (n := 13) hts inT_X4 (hts _ (List.mem_cons_of_mem _ wd_675))
  obtain ⟨c5, i5, k5⟩ := u_known (C := RX5) (T := TX5) (N := 2) (n := 2) hts inT_X5 (hts _ (List.mem_cons_of_mem _ wd_16))
  obtain ⟨c6, i6, k6⟩ := u_known (C := RX6) (T := TX6) (N := 3) (n := 3) hts inT_X6 (hts _ (List.mem_cons_of_mem _ wd_53))
  obtain ⟨c7, i7, k7⟩ := u_known (C := RX7) (T := TX7) (N := 6) (n := 6) hts inT_X7 (hts _ (List.mem_cons_of_mem _ wd_26))
  obtain ⟨c8, i8, k8⟩ := u_known (C := RX8) (T := TX8) (N := 2) (n := 2) hts inT_X8 (hts _ (List.mem_cons_of_mem _ wd_45))
  obtain ⟨c9, i9, k9⟩ := u_known (C := RX9) (T := TX9) (N := 2) (n := 2) hts inT_X9 (hts _ (List.mem_cons_of_mem _ wd_55))
  obtain ⟨c10, i10, k10⟩ := u_known (C := RX10) (T := TX10) (N := 17) (n := 17) hts inT_X10 (hts _ (List.mem_cons_of_mem _ wd_1))
  obtain ⟨c11, i11, k11⟩ := u_known (C := RX11) (T := TX11) (N := 51) (n := 51) hts inT_X11 (hts _ (List.mem_cons_of_mem _ wd_4))
  refine ⟨(fun k => match k with | 0 => c0 | 1 => c1 | 2 => c2 | 3 => c3 | 4 => c4 | 5 => c5 | 6 => c6 | 7 => c7 | 8 => c8 | 9 => c9 | 10 => c10 | _ => c11, fun k => match k with | 0 => i0 | 1 => i1 | 2 => i2 | 3 => i3 | 4 => i4 | 5 => i5 | 6 => i6 | 7 => i7 | 8 => i8 | 9 => i9 | 10 => i10 | _ => i11), ?_⟩
  intro k q hq
  match k, hq with
  | 0, hq => cases hq; exact k0
  | 1, hq => cases hq; exact k1
  | 2, hq => cases hq; exact k2
  | 3, hq => cases hq; exact k3
  | 4, hq => cases hq; exact k4
  | 5, hq => cases hq; exact k5
  | 6, hq => cases hq; exact k6
  | 7, hq => cases hq; exact k7
  | 8, hq => cases hq; exact k8
  | 9, hq => cases hq; exact k9
  | 10, hq => cases hq; exact k10
  | 11, hq => cases hq; exact k11
  | k + 12, hq => simp [vwCl] at hq
theorem st_arr {ty : FieldType} (hn : ∀ C, ty ≠ .object C) (h : (Cond.arrayClass ty).before args s = true) : ∃ cA : ClassId, ArrOfT s cA ty ∧ va_RA s cA ty := by
  obtain ⟨cA, kA, comp, h1, h2, h3⟩ := Cond.arrayClass_spec h
  refine ⟨cA, fun n z => ⟨fun k h => (by cases h), kA, h2, comp, h3⟩, ?_⟩
  cases ty <;> first | exact h1 | exact absurd rfl (hn _)
theorem st_obj {C : String} (h : (Cond.arrayOver (.object C)).before args s = true) : ∃ cA : ClassId, ArrOfT s cA (.object C) ∧ va_RA s cA (.object C) := by
  obtain ⟨comp, cA, kA, h1, -, h3, h4, h5⟩ := Cond.arrayOver_spec h
  exact ⟨cA, fun n z => ⟨fun k h => (by cases h), kA, h3, comp, h4⟩, kA, comp, h3, h4, h1, h5⟩
theorem st_A {b : Nat} (hts0 : ∀ w ∈ lw_tbl, w.before #[Value.ref b] s = true) : ∃ cy : Nat → ClassId, ∀ (k : Nat) (q : ClassId × FieldType), ([(cy 0, .byte), (cy 1, .int), (cy 2, .boolean), (cy 3, .object "NoteCounter$Bank"), (cy 4, .object "NoteCounter$Note"), (cy 5, .object "NoteCounter$Sheet"), (cy 6, .object "NoteCounter$Trader")] : List (ClassId × FieldType))[k]? = some q → ArrOfT s q.1 q.2 ∧ va_RA s q.1 q.2 := by
  obtain ⟨c0, k0⟩ := st_arr (ty := .byte) (fun _ h => by cases h) (hts0 _ (wsL_law_in _ wd_87))
  obtain ⟨c1, k1⟩ := st_arr (ty := .int) (fun _ h => by cases h) (hts0 _ (wsL_law_in _ wd_37))
  obtain ⟨c2, k2⟩ := st_arr (ty := .boolean) (fun _ h => by cases h) (hts0 _ (wsL_law_in _ wd_143))
  obtain ⟨c3, k3⟩ := st_obj (hts0 (.arrayOver (.object "NoteCounter$Bank")) (by decide +kernel))
  obtain ⟨c4, k4⟩ := st_obj (hts0 (.arrayOver (.object "NoteCounter$Note")) (by decide +kernel))
  obtain ⟨c5, k5⟩ := st_obj (hts0 (.arrayOver (.object "NoteCounter$Sheet")) (by decide +kernel))
  obtain ⟨c6, k6⟩ := st_obj (hts0 (.arrayOver (.object "NoteCounter$Trader")) (by decide +kernel))
  refine ⟨fun k => match k with | 0 => c0 | 1 => c1 | 2 => c2 | 3 => c3 | 4 => c4 | 5 => c5 | _ => c6, ?_⟩
  intro k q hq
  match k, hq with
  | 0, hq => cases hq; exact k0
  | 1, hq => cases hq; exact k1
  | 2, hq => cases hq; exact k2
  | 3, hq => cases hq; exact k3
  | 4, hq => cases hq; exact k4
  | 5, hq => cases hq; exact k5
  | 6, hq => cases hq; exact k6
  | k + 7, hq => simp at hq
theorem st_New {b : Nat} (hts0 : ∀ w ∈ lw_tbl, w.before #[Value.ref b] s = true) : xNew s :=
  ⟨va_AO.of (hts0 (.arrayOver (.object RX6)) (by decide +kernel)), va_AO.of (hts0 (.arrayOver (.object RX0)) (by decide +kernel)), va_AO.of (hts0 (.arrayOver (.object RX4)) (by decide +kernel)), va_AO.of (hts0 (.arrayOver (.object RX9)) (by decide +kernel)), va_Nw.of rfl (hts0 (.methodLinkNest RX10 30 yX2_init RX10) (by decide +kernel)), va_Nw.of rfl (hts0 (.methodLinkNest RX10 37 yX7_init RX10) (by decide +kernel)), va_Nw.of rfl (hts0 (.methodLinkNest RX10 72 yX3_init RX10) (by decide +kernel)), va_Nw.of rfl (hts0 (.methodLinkNest RX10 79 yX8_init RX10) (by decide +kernel)), va_Nw.of rfl (hts0 (.methodLinkNest RX10 100 yX6_init RX10) (by decide +kernel)), va_Nw.of rfl (hts0 (.methodLinkNest RX10 101 yX9_init RX10) (by decide +kernel))⟩
theorem st_tab {b : Nat} {nm : String} {l6 : List Int32} (hts0 : ∀ w ∈ lw_tbl, w.before #[Value.ref b] s = true) (h1 : Cond.laysStatic "NoteCounter" nm "[I" ∈ lw_tbl) (h2 : Cond.initialized "NoteCounter" ∈ lw_tbl) (h3 : (Cond.arrayOf (.static "NoteCounter" nm "[I") .int).before #[Value.ref b] s = true) (h4 : (Cond.eq (.length (.static "NoteCounter" nm "[I")) (.int (Int32.ofNat 6))).before #[Value.ref b] s = true) (h5 : ∀ j : Nat, j < 6 → (Cond.eq (.elem (.static "NoteCounter" nm "[I") (.int (Int32.ofNat j))) (.int (l6.getD j 0))).before #[Value.ref b] s = true) : ∃ t : Nat, va_Z "NoteCounter" nm "[I" (.ref t) (fun q => s.heap.size ≤ q) s s.heap ∧ va_T .int t 6 (fun j => .int (l6.getD j 0)) (fun q => s.heap.size ≤ q) s s.heap := by
  have hA : ∀ a : Nat, a < s.heap.size → ¬ (fun q : Nat => s.heap.size ≤ q) a := fun a h => Nat.not_le.mpr h
  obtain ⟨t, ht, hT⟩ := va_Tof (args := #[Value.ref b]) (N := 6) (f := fun j => .int (l6.getD j 0)) (A := fun q => s.heap.size ≤ q) (by decide) h3 (va_eqt h4) (fun j hj => va_eqt (h5 j hj)) hA
  exact ⟨t, va_Zref (hts0 _ h1) (hts0 _ h2) ht hA, hT⟩
theorem st_S {N : Nat} {len : List Nat} {byt : List (List Int32)} {f h adK adV : Nat → Nat} {A : Nat → Prop} {H : Heap} (hq : vk_S N len byt adK adV A s H) (hf : ∀ i, i < N → f i = adK i) (hh : ∀ i, i < N → h i = adV i) : vk_S N len byt f h A s H := by
  obtain ⟨a, c⟩ := hq
  refine ⟨fun i hi => ?_, fun i j hi hj e => c i j hi hj ?_⟩
  · rw [hf i hi, hh i hi]; exact a i hi
  · rw [← hf i hi, ← hf j hj]; exact e
def wtm : Nat → Term := fun i => .string "NoteCounter$BookReader" (([75, 95, 97, 99] : List Nat).getD i 0)
def wln : List Nat := [4, 3, 5, 7]
def wby : List (List Int32) := [[119, 101, 101, 107], [111, 102, 102], [102, 97, 108, 115, 101], [115, 116, 111, 112, 112, 101, 100]]
set_option maxRecDepth 100000 in
theorem st_wrd {b : Nat} (hgv : (Jvm.Cond.and given_1 narrow_1).before #[Value.ref b] s = true) : ∃ adK adV : Nat → Nat, vk_S 4 wln wby adK adV (fun q => s.heap.size ≤ q) s s.heap ∧ ∀ i : Nat, i < 4 → (wtm i).eval #[Value.ref b] s none [] s = some (.ref (adK i)) := by
  have hA : ∀ a : Nat, a < s.heap.size → ¬ (fun q : Nat => s.heap.size ≤ q) a := fun a h => Nat.not_le.mpr h
  have hg := flat_of_before _ hgv
  refine vk_Sof (tm := wtm) ?_ ?_ ?_ ?_ ?_ ?_ ?_ hA
  · intro i hi
    rcases (show i = 0 ∨ i = 1 ∨ i = 2 ∨ i = 3 by omega) with h | h | h | h <;> (subst h; decide)
  · intro i hi
    rcases (show i = 0 ∨ i = 1 ∨ i = 2 ∨ i = 3 by omega) with h | h | h | h <;> (subst h; exact hg _ (by decide +kernel))
  · intro i hi
    rcases (show i = 0 ∨ i = 1 ∨ i = 2 ∨ i = 3 by omega) with h | h | h | h <;> (subst h; exact hg _ (by decide +kernel))
  · intro i hi
    rcases (show i = 0 ∨ i = 1 ∨ i = 2 ∨ i = 3 by omega) with h | h | h | h <;> (subst h; exact hg _ (by decide +kernel))
  · intro i hi
    rcases (show i = 0 ∨ i = 1 ∨ i = 2 ∨ i = 3 by omega) with h | h | h | h <;> (subst h; exact hg _ (by decide +kernel))
  · intro i hi j hj
    rcases (show i = 0 ∨ i = 1 ∨ i = 2 ∨ i = 3 by omega) with h | h | h | h
    · subst h
      have hj : j < 4 := hj
      rcases (show j = 0 ∨ j = 1 ∨ j = 2 ∨ j = 3 by omega) with h | h | h | h <;> (subst h; exact hg _ (by decide +kernel))
    · subst h
      have hj : j < 3 := hj
      rcases (show j = 0 ∨ j = 1 ∨ j = 2 by omega) with h | h | h <;> (subst h; exact hg _ (by decide +kernel))
    · subst h
      have hj : j < 5 := hj
      rcases (show j = 0 ∨ j = 1 ∨ j = 2 ∨ j = 3 ∨ j = 4 by omega) with h | h | h | h | h <;> (subst h; exact hg _ (by decide +kernel))
    · subst h
      have hj : j < 7 := hj
      rcases (show j = 0 ∨ j = 1 ∨ j = 2 ∨ j = 3 ∨ j = 4 ∨ j = 5 ∨ j = 6 by omega) with h | h | h | h | h | h | h <;> (subst h; exact hg _ (by decide +kernel))
  · intro i j hi hj hij
    rcases (show i = 0 ∨ i = 1 ∨ i = 2 ∨ i = 3 by omega) with h | h | h | h <;> rcases (show j = 0 ∨ j = 1 ∨ j = 2 ∨ j = 3 by omega) with h2 | h2 | h2 | h2 <;> subst h <;> subst h2 <;> first | exact absurd rfl hij | exact Or.inl (hg _ (by decide +kernel)) | exact Or.inr (hg _ (by decide +kernel))
set_option maxRecDepth 100000 in
theorem st_Am {b : Nat} (hts0 : ∀ w ∈ lw_tbl, w.before #[Value.ref b] s = true) (hgv : (Jvm.Cond.and given_1 narrow_1).before #[Value.ref b] s = true) : ∃ st : Nat → Nat, ∀ g : xG, xlo g = s.heap.size → xst g = st → xAm g s s.heap := by
  have hA : ∀ a : Nat, a < s.heap.size → ¬ (fun q : Nat => s.heap.size ≤ q) a := fun a h => Nat.not_le.mpr h
  have hg := flat_of_before _ hgv
  obtain ⟨t0, hz0, hT0⟩ := st_tab (nm := "SIZE_BODIES") (l6 := [10, 11, 12, 13, 14, 10]) hts0 (by decide +kernel) (by decide +kernel) (hg _ (by decide +kernel)) (hg _ (by decide +kernel)) (fun j hj => by
    rcases (show j = 0 ∨ j = 1 ∨ j = 2 ∨ j = 3 ∨ j = 4 ∨ j = 5 by omega) with h | h | h | h | h | h <;> (subst h; exact hg _ (by decide +kernel)))
  obtain ⟨t1, hz1, hT1⟩ := st_tab (nm := "MARK_BODIES") (l6 := [20, 20, 21, 22, 20, 23]) hts0 (by decide +kernel) (by decide +kernel) (hg _ (by decide +kernel)) (hg _ (by decide +kernel)) (fun j hj => by
    rcases (show j = 0 ∨ j = 1 ∨ j = 2 ∨ j = 3 ∨ j = 4 ∨ j = 5 by omega) with h | h | h | h | h | h <;> (subst h; exact hg _ (by decide +kernel)))
  obtain ⟨adK, adV, hSt, hev⟩ := st_wrd hgv
  refine ⟨fun k => if k = 0 then t0 else if k = 1 then t1 else if k < 20 then adK (k - 10) else adV (k - 20), fun g hlo hst => ?_⟩
  have hK : ∀ i, i < 4 → xst g (10 + i) = adK i := fun i hi => by
    rw [hst]
    show (if 10 + i = 0 then t0 else if 10 + i = 1 then t1 else if 10 + i < 20 then adK (10 + i - 10) else adV (10 + i - 20)) = adK i
    rw [if_neg (by omega), if_neg (by omega), if_pos (by omega), show 10 + i - 10 = i by omega]
  have hV : ∀ i, i < 4 → xst g (20 + i) = adV i := fun i hi => by
    rw [hst]
    show (if 20 + i = 0 then t0 else if 20 + i = 1 then t1 else if 20 + i < 20 then adK (20 + i - 10) else adV (20 + i - 20)) = adV i
    rw [if_neg (by omega), if_neg (by omega), if_neg (by omega), show 20 + i - 20 = i by omega]
  have e0 : xst g 0 = t0 := by rw [hst]; rfl
  have e1 : xst g 1 = t1 := by rw [hst]; rfl
  have hR : ∀ i, i < 4 → (wtm i).eval #[Value.ref b] s none [] s = some (.ref (xst g (10 + i))) := fun i hi => by rw [hK i hi]; exact hev i hi
  unfold xAm
  rw [hlo, e0, e1]
  refine ⟨Nat.le_refl _, hz0, hT0, hz1, hT1, st_S hSt hK hV, vk_R.of (hts0 _ (by decide +kernel)) (hR 0 (by decide)), vk_R.of (hts0 _ (by decide +kernel)) (hR 1 (by decide)), vk_R.of (hts0 _ (by decide +kernel)) (hR 2 (by decide)), vk_R.of (hts0 _ (by decide +kernel)) (hR 3 (by decide)), ?_, ?_⟩
  · exact va_Zof (hts0 _ (by decide +kernel)) (hts0 _ (by decide +kernel)) (va_eqt (hg _ (by decide +kernel))) hA
  · exact va_Zqof (hts0 _ (by decide +kernel)) (hts0 _ (by decide +kernel)) (hg _ (by decide +kernel)) hA
theorem st_g {b : Nat} (hts0 : ∀ w ∈ lw_tbl, w.before #[Value.ref b] s = true) (hgv : (Jvm.Cond.and given_1 narrow_1).before #[Value.ref b] s = true) : ∃ g : xG, xK g s ∧ xAm g s s.heap ∧ xlo g = s.heap.size ∧ xNew s := by
  obtain ⟨D, hK⟩ := st_K (lw_ok hts0)
  obtain ⟨cy, hC⟩ := st_A hts0
  obtain ⟨st, hAm⟩ := st_Am hts0 hgv
  exact ⟨(D, cy, fun _ _ => 0, s.heap.size, st), ⟨hK, hC⟩, hAm _ rfl rfl, rfl, st_New hts0⟩
end START
set_option maxHeartbeats 4000000 in
set_option maxRecDepth 100000 in
theorem whole_start {p : Program} {e : Env} {s : State} {m : MethodId} {below : List Frame} {meth : Method} {c : Code} (l : Launch) {b L : Nat} {xs : Nat → Int32} (hL : L ≤ 3584) (C0 : lw_At p s m meth c b L xs) : W p l e room_1 s m #[Value.ref b] below meth c s.heap [] 0 0 (lw_Z below #[Value.ref b] s) (entryFrame m ([Value.ref b] : List Value).toArray 4) := by
  obtain ⟨hx, hb, hr, hml, hown, hts0, hX, hbl, hlocks, hgv⟩ := id C0
  have hts := lw_ok hts0
  have hown : s.vm.findClass RL = some m.cls := hown
  obtain ⟨g, hK, hAm, hlo, hNw⟩ := st_g hts0 hgv
  obtain ⟨m0, hm0⟩ : ∃ z : xM, z = f_X5_measure (fun _ _ _ => 0) := ⟨_, rfl⟩
  have hS : va_S (lwA s) s.heap s.heap [] := va_S.rf
  have hA : ∀ q : Nat, s.heap.size ≤ q → lwA s q := fun _ h => h
  have hP : va_P g.1 vwCl [] s.heap := fun k q h => by simp at h
  have hD : va_D (lwA s) [] := ⟨fun i j p q h => by simp at h, fun k q h => by simp at h⟩
  have hl := lv_entry ([.ref b]) (n := 4) (Nat.le_of_ble_eq_true rfl)
  rw [lg_entry_eq]
  generalize (lg_sl ([.ref b]) ++ List.replicate (4 - (lg_sl ([.ref b])).length) Slot.unset).toArray = ls at hl ⊢
  have hl : lv_has ls 4 [(0, .ref b)] := hl
  refine va_new (ci := 10) (fs := [.null, .null, .null, .null, .null, .null, .null, .null, .null, .null, .null, .null, .int 0, .int 0, .int 0, .int 0, .int 0]) (C := RX10) (T := TX10) (N := 17) hx hb hts inT_X10 tyX10 tyX10_ok hown (hts _ (List.mem_cons_of_mem _ wd_0)) (hts _ (List.mem_cons_of_mem _ wd_1)) (hts _ (List.mem_cons_of_mem _ wd_2)) hK hP hD hS hA rfl (fun j hj => by rcases (show j = 0 ∨ j = 1 ∨ j = 2 ∨ j = 3 ∨ j = 4 ∨ j = 5 ∨ j = 6 ∨ j = 7 ∨ j = 8 ∨ j = 9 ∨ j = 10 ∨ j = 11 ∨ j = 12 ∨ j = 13 ∨ j = 14 ∨ j = 15 ∨ j = 16 by omega) with rfl | rfl | rfl | rfl | rfl | rfl | rfl | rfl | rfl | rfl | rfl | rfl | rfl | rfl | rfl | rfl | rfl <;> rfl) (Nat.le_of_ble_eq_true rfl) (Nat.le_of_ble_eq_true rfl) dL_law_0 (fun h0 H hP hD hS => ?_)
  refine W.widen (k := 1) (n := 17) (by omega) (by omega) ?_
  refine lv_dup hx hb dL_law_3 rfl ?_
  obtain ⟨hPc, hDc, hAc⟩ := x_last hP hD
  have hAH : ∀ q, H.size ≤ q → lwA s q := fun q h => Nat.le_trans hS.1 h
  have hFc := x_freeA hAc hAH
  have hAmH : xAm g s H := hAm.kept hS.1 (fun a h1 h2 => hS.2.1 a h1 (fun z => h2 (by rw [hlo]; exact z)))
  refine va_callv (va_runI (As := []) (rest := [.ref h0]) ⟨hx, hb, hml, hown, hts⟩ (k_X10_init l g h0 H.size m0 hm0) (cwI 0 hts (x_gin wd_9) rfl rfl rfl (hts _ (List.mem_cons_of_mem _ wd_2)) (hts _ (List.mem_cons_of_mem _ wd_7)) (hts _ (List.mem_cons_of_mem _ wd_8)) rfl (by decide +kernel) ⟨Nat.le_of_ble_eq_true rfl, Nat.le_of_ble_eq_true rfl⟩) ⟨xblindN _ _ _ _ _, fun U hU hW => ⟨rfl, by rw [hU], by rw [hU]; exact hPc, va_K.moved hW.alike hK, hDc, by rw [hU]; exact hAmH.warm hW, by rw [hlo]; exact hAc, hNw.warm hW⟩⟩ rfl rfl hl.1 rfl (lv_room (Nat.le_of_ble_eq_true rfl)) dL_law_4 ⟨Nat.le_of_ble_eq_true rfl, Nat.le_of_ble_eq_true rfl⟩) hS (fun q _ h => hFc q h) hFc (fun u t H1 locs ht hvm hw hB hz1 hk1 hS => ?_)
  obtain ⟨hP1, hD1⟩ := hB
  rw [ht] at hP1
  obtain ⟨hP, hD⟩ := x_join1 hP hD hAH hk1 hP1 hD1
  generalize H1 = H at hP hS ⊢
  have hP : va_P g.1 vwCl (w_X10 g m0 h0 u) H := hP
  have hD : va_D (lwA s) (w_X10 g m0 h0 u) := hD
  refine W.widen (k := 48) (n := 4454) (by omega) (by omega) ?_
  refine lv_astore_n (lv' := [(1, .ref h0), (0, .ref b)]) hx hb dL_law_7 rfl hl (by decide) rfl (fun ls hl => ?_)
  refine va_new (ci := 11) (fs := [.int 0, .int 0, .null, .null, .null, .null, .null, .int 0, .null, .null, .null, .null, .null, .int 0, .int 0, .null, .null, .null, .null, .int 0, .null, .int 0, .int 0, .int 0, .int 0, .int 0, .int 0, .int 0, .int 0, .int 0, .int 0, .null, .null, .null, .null, .null, .null, .null, .null, .null, .null, .null, .null, .null, .null, .null, .null, .null, .null, .null, .int 0]) (C := RX11) (T := TX11) (N := 51) hx hb hts inT_X11 tyX11 tyX11_ok hown (hts _ (List.mem_cons_of_mem _ wd_3)) (hts _ (List.mem_cons_of_mem _ wd_4)) (hts _ (List.mem_cons_of_mem _ wd_5)) hK hP hD hS hA rfl (fun j hj => by rcases (show j = 0 ∨ j = 1 ∨ j = 2 ∨ j = 3 ∨ j = 4 ∨ j = 5 ∨ j = 6 ∨ j = 7 ∨ j = 8 ∨ j = 9 ∨ j = 10 ∨ j = 11 ∨ j = 12 ∨ j = 13 ∨ j = 14 ∨ j = 15 ∨ j = 16 ∨ j = 17 ∨ j = 18 ∨ j = 19 ∨ j = 20 ∨ j = 21 ∨ j = 22 ∨ j = 23 ∨ j = 24 ∨ j = 25 ∨ j = 26 ∨ j = 27 ∨ j = 28 ∨ j = 29 ∨ j = 30 ∨ j = 31 ∨ j = 32 ∨ j = 33 ∨ j = 34 ∨ j = 35 ∨ j = 36 ∨ j = 37 ∨ j = 38 ∨ j = 39 ∨ j = 40 ∨ j = 41 ∨ j = 42 ∨ j = 43 ∨ j = 44 ∨ j = 45 ∨ j = 46 ∨ j = 47 ∨ j = 48 ∨ j = 49 ∨ j = 50 by omega) with rfl | rfl | rfl | rfl | rfl | rfl | rfl | rfl | rfl | rfl | rfl | rfl | rfl | rfl | rfl | rfl | rfl | rfl | rfl | rfl | rfl | rfl | rfl | rfl | rfl | rfl | rfl | rfl | rfl | rfl | rfl | rfl | rfl | rfl | rfl | rfl | rfl | rfl | rfl | rfl | rfl | rfl | rfl | rfl | rfl | rfl | rfl | rfl | rfl | rfl | rfl <;> rfl) (Nat.le_of_ble_eq_true rfl) (Nat.le_of_ble_eq_true rfl) dL_law_8 (fun h1 H hP hD hS => ?_)
  refine W.widen (k := 49) (n := 4505) (by omega) (by omega) ?_
  refine lv_dup hx hb dL_law_11 rfl ?_
  obtain ⟨hPc, hDc, hAc⟩ := x_last hP hD
  have hAH : ∀ q, H.size ≤ q → lwA s q := fun q h => Nat.le_trans hS.1 h
  have hFc := x_freeA hAc hAH
  have hAmH : xAm g s H := hAm.kept hS.1 (fun a h1 h2 => hS.2.1 a h1 (fun z => h2 (by rw [hlo]; exact z)))
  refine va_callv (va_runI (As := []) (rest := [.ref h1]) ⟨hx, hb, hml, hown, hts⟩ (k_X11_init l g h1 H.size) (cwI 0 hts (x_gin wd_133) rfl rfl rfl (hts _ (List.mem_cons_of_mem _ wd_5)) (hts _ (List.mem_cons_of_mem _ wd_131)) (hts _ (List.mem_cons_of_mem _ wd_132)) rfl (by decide +kernel) ⟨Nat.le_of_ble_eq_true rfl, Nat.le_of_ble_eq_true rfl⟩) ⟨xblindK _ _ _ _, fun U hU hW => ⟨rfl, by rw [hU], by rw [hU]; exact hPc, va_K.moved hW.alike hK, hDc⟩⟩ rfl rfl hl.1 rfl (lv_room (Nat.le_of_ble_eq_true rfl)) dL_law_12 ⟨Nat.le_of_ble_eq_true rfl, Nat.le_of_ble_eq_true rfl⟩) hS (fun q _ h => hFc q h) hFc (fun v t H1 locs ht hvm hw hB hz1 hk1 hS => ?_)
  obtain ⟨hP1, hD1⟩ := hB
  rw [ht] at hP1
  obtain ⟨hP, hD⟩ := x_join1 hP hD hAH hk1 hP1 hD1
  generalize H1 = H at hP hS ⊢
  have hP : va_P g.1 vwCl (w_X10 g m0 h0 u ++ w_X11 g h1 v) H := hP
  have hD : va_D (lwA s) (w_X10 g m0 h0 u ++ w_X11 g h1 v) := hD
  have he := w0_eq g m0 h0 u h1 v
  have hD9 : xD (g0 g h0 u h1 v) L0 := xlist_D he hD (fun q h => by show xlo g ≤ q; rw [hlo]; exact h)
  rw [← he] at hP
  have I : lwI s h0 h1 H locs := ⟨g0 g h0 u h1 v, L0, M0 m0, 0, 0, hK, hAm, hlo, hD9, hP, L0_q, INV_0 hm0, hS, rfl, rfl⟩
  refine W.widen (k := 90) (n := 18000) (by omega) (by omega) ?_
  refine lv_astore_n (lv' := [(2, .ref h1), (1, .ref h0), (0, .ref b)]) hx hb dL_law_15 rfl hl (by decide) rfl (fun ls hl => ?_)
  refine lv_iconst (v := 0) hx hb dL_law_16 (by decide) ?_
  refine lv_istore_n (lv' := [(3, .int 0), (2, .ref h1), (1, .ref h0), (0, .ref b)]) hx hb dL_law_17 rfl hl (by decide) rfl (fun ls hl => ?_)
  exact law_loop hL C0 (L + 1) 0 0 (Nat.zero_le L) (by omega) nI_0.symm H locs I ls (lv_sub hl [3, 2, 1, 0] rfl)
set_option maxHeartbeats 4000000 in
theorem lw_walk (l : Launch) (b : Addr) (xs : List Int32) : MetFree l x (headSpec (Jvm.Cond.code x code maxLocals ret :: tables_1) room_1) (lw_P b xs) (fun _ _ _ _ _ => True) lw_Q := by
  refine MetFree.of_bodyS (code := code) (maxLocals := maxLocals) (ret := ret) (by decide) ?_ ?_
  · intro args s m h hn
    obtain ⟨meth, c, h1, h2, h3, h4, h5, h6, -, -⟩ := Cond.code_spec hn (atoms_spec (ws := Jvm.Cond.code x code maxLocals ret :: tables_1) h _ List.mem_cons_self)
    exact ⟨meth, c, h1, h2, h3, h4, h5, h6⟩
  · intro p e s m args below meth c s₁ B hml0 hP _
    obtain ⟨rfl, hx, hbd, hgv⟩ := hP
    obtain ⟨scr, harrAt, hlist, hof, hsmall⟩ := hx
    obtain ⟨hcb, hkn, -, -⟩ := State.arrayAt?_spec harrAt
    have hown : s.vm.findClass R_law = some m.cls := findClass_of_methodNamed B.named
    have hts0 : ∀ c ∈ (Jvm.Cond.code x code maxLocals ret :: tables_1), c.before #[Value.ref b] s = true := atoms_spec (ws := Jvm.Cond.code x code maxLocals ret :: tables_1) B.pre
    have hts : ∀ w ∈ lw_tbl, w.before #[Value.ref b] s = true := k2_hts_sels lw_privs (fun w hw => hts0 w (List.mem_cons_of_mem _ hw)) lw_privs_ok
    have hml : c.maxLocals = 4 := B.maxLocals_eq (hts0 _ List.mem_cons_self)
    have X₀ : Stand p l e room_1 s m #[Value.ref b] below meth c s₁ [] 0 0 := Stand.of_body B
    have hh0 : s₁.heap = s.heap := by rw [B.state]; rfl
    have hsz : scr.slots.size = xs.length := by rw [← Array.length_toList, hlist, List.length_map]
    have hval : ∀ j : Nat, j < xs.length → scr.slots[j]? = some (.int (xs.getD j 0)) := fun j hj => by
      rw [← Array.getElem?_toList, hlist]
      simp [hj]
    have hbl : b < s.heap.size := (Array.getElem?_eq_some_iff.mp hcb).1
    have hX : va_X b xs.length (fun j => xs.getD j 0) s s.heap := ⟨scr, hcb, hof, hkn, hsz, hval⟩
    have K : W p l e room_1 s m #[Value.ref b] below meth c s₁.heap [] 0 0 (lw_Z below #[Value.ref b] s) (entryFrame m ([Value.ref b] : List Value).toArray 4) := by
      rw [hh0]
      exact whole_start l hbd ⟨B.exec, B.bytes, B.returns, hml, hown, hts, hX, hbl, B.notSynchronized, hgv⟩
    obtain ⟨t, a1, o, b1, b2, b3⟩ := K s₁ rfl X₀
    exact ⟨t, o, a1, b1, b2, b3⟩
theorem lw_pre_spec {args : Array Value} {s : State} (h : (Jvm.Cond.and given_1 narrow_1).before args s = true) (hr : rest_1_c.before args s = true) : ∃ (b : Addr) (xs : List Int32), lw_P b xs args s := by
  have hs := flat_of_before _ h
  have hq := flat_of_before _ hr
  have hc : (Cond.count 1).before args s = true := hs _ (by decide +kernel)
  have harr : (Cond.arrayOf (.arg 0) .int).before args s = true := hs _ (by decide +kernel)
  have hle : (Cond.le (.length (.arg 0)) (.int 3584)).before args s = true := hs _ (by decide +kernel)
  have hlen : (Cond.isInt (.length (.arg 0))).before args s = true := hq _ (by decide +kernel)
  have hall : (Cond.all (.arg 0) (.isInt (.elem (.arg 0) (.index 0)))).before args s = true := hq _ (by decide +kernel)
  obtain ⟨b, xs, hb, hx⟩ := State.ints_of_pre rfl harr hlen hall
  have hsm : xs.length < 2 ^ 31 := hx.choose_spec.2.2.2
  have hev : (Term.length (.arg 0)).eval args s none [] s = some (.int xs.length.toInt32) := hx.length_eval hb
  have hv := Cond.le_ints hev (show (Term.int 3584).eval args s none [] s = some (.int 3584) from rfl)
  have hd : xs.length.toInt32 ≤ 3584 := by
    simpa [Cond.before, Cond.holds, hv] using hle
  have hN : xs.length ≤ 3584 := (Int32.ofNat_le_ofNat hsm (by decide)).mp (show Int32.ofNat xs.length ≤ Int32.ofNat 3584 from hd)
  exact ⟨b, xs, Cond.one_arg hc (show args[0]? = some (.ref b) from hb), hx, hN, h⟩
theorem lw_comes (l : Launch) : Comes l x (Jvm.Cond.code x code maxLocals ret :: tables_1) room_1 (fun tb e args s => Calls_1 tb e args s ∧ rest_1 tb e args s ∧ Pre_1 tb e args s)
    (fun _ _ args s o t => lw_Q args s o t) := by
  intro p e ha hc hk s m args below hf hfit hheap happ hpre
  obtain ⟨b, xs, hP⟩ := lw_pre_spec hpre.2.2 hpre.2.1
  obtain ⟨k, o, h1, h2, h3, hQ⟩ := lw_walk l b xs p e ha hc hk s m args below hf ((Spec.applies_iff_loose hf).mp happ).1 hP trivial
  exact ⟨k, o, h1, h2, h3, hQ⟩
theorem lw_frame {s t : State} {o : Outcome} {args : Array Value} (h : Framed s o t [] 600000 7302250) :
    Framed s o t (fieldLocs frame_1_writes args s ++ arrayLocs frame_1_arrays args s ++ staticLocs frame_1_statics s) 600000 7302250 := h
theorem lw_limb (L : Cond) (hL : ∀ (args : Array Value) (s t : State), L.after args s (.returned (some (.int 1))) t = true) :
    ArmFor flags0 classFile x code maxLocals ret World_1 tables_1 room_1 Calls_1 rest_1 Pre_1
      (fun tb e a s o t => postC L tb e a s o t ∧ Framed s o t (fieldLocs frame_1_writes a s ++ arrayLocs frame_1_arrays a s ++ staticLocs frame_1_statics s) 600000 7302250) := by
  intro l _ _ _ p e ha hc hk s m args below hf hfit hheap happ hpre
  obtain ⟨k, o, h1, h2, h3, rfl, hF⟩ := lw_comes l p e ha hc hk s m args below hf hfit hheap happ hpre
  exact ⟨k, _, h1, h2, h3, hL args s _, lw_frame hF⟩
theorem i_vc : Claimed_1_1 ∧ Claimed_1_2 := ⟨lw_limb limb_1_1 (fun args s t => by simp [limb_1_1, Cond.after, Cond.holds, Cond.value]), lw_limb limb_1_2 (fun args s t => Cond.after_iff.mpr (by
  first | (rw [show limb_1_2 = Cond.eq .result (.int 1) from rfl, Cond.eq_ints (x := 1) (y := 1) rfl rfl]; simp; done) | (simp [limb_1_2, Cond.value, Term.eval]; done)))⟩

