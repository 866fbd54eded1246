/-! books agree -/
section BOOKS5
variable {B T : Nat → Int32} {len : Int32} {M Z : xM} {sz nb : Nat}
theorem word0 (h : trw B T len) (hl : len ≤ 400) {N R : xM} {s : Int32} (q : TR B T len N R s) : f_X7_isName 0 N = true ↔ f_X11_word R = lN 2003133803 := by
  rw [name_eq h hl q (wk := 0) (by decide), show cwN.getD 0 0 = 2003133803 from rfl]
  simp
theorem word_k {R : xM} (h : f_X11_word R = lN 2003133803) : R 40 0 25 = 2 := by
  apply Decidable.byContradiction
  intro c
  have w0 : f_X11_word R = 0 := by
    unfold f_X11_word
    simp only [xlet_p]
    rw [word_L7 R c]
  rw [w0] at h
  exact absurd h (by decide)
theorem simB (S : BS B T len M Z sz nb) : ∀ n, P0 B T len M Z sz nb n ∧ P2 B T len M Z sz nb n ∧ P5 B T len M Z sz nb n := by
  intro n
  induction n using Nat.strongRecOn with
  | ind n ih =>
  obtain ⟨S1, S2, S3, S4, S5, S6, S7⟩ := id S
  have b28 : ∀ {r : Int32} {X : xM}, X 40 0 28 = 0 → 0 < r → ¬ f_X11_bad r X 40 0 28 = 0 := fun {r X} h1 h2 => by rw [bad_28 h1]; intro z; rw [z] at h2; exact absurd h2 (by decide)
  refine ⟨?_, ?_, ?_⟩
  · intro t N R s wr n40 d q h62 hts ht hn h1 hp
    obtain ⟨n40, rfl⟩ : ∃ k, n40 = k + 1 := ⟨n40 - 1, by omega⟩
    have d7 := d.2.2.2.2.2.2.1
    have d8 := d.2.2.2.2.2.2.2
    have k25 := q.2.2.2.2.2.2.2.2.2.2.2.2.1
    have k53 := q.2.2.2.2.2.2.2.2.2.2.2.1
    by_cases kE : tkK B len s = 1
    · refine ⟨R, fun kxr => ?_, ?_⟩
      · rw [f_X11_books_L40, if_pos d7, if_pos (by rw [k25]; exact kE)]
      · left
        refine ⟨N, wr, ?_, d, q.2.2.1⟩
        unfold cT
        rw [if_pos ⟨by rw [k53]; exact (tokC_0 _).mpr kE, h62⟩]
    · have r25 : ¬ R 40 0 25 = 1 := by rw [k25]; exact kE
      have pR := hp r25
      have sl := tk_in (B := B) kE
      have hne : ¬ (N 5 0 3 = 0 ∧ N 6 0 2 = 0) := fun z => kE ((tokC_0 _).mp (by rw [← k53]; exact z.1))
      have st := st0 (nI nb) h62
      have w0 := word0 S1 S3 q
      by_cases cw : f_X11_word R = lN 2003133803
      · rw [if_pos (w0.mpr cw)] at st
        obtain ⟨n1, rfl, t1, cT1, q1, D1, sl1, ts1, nt1⟩ := cT_go S d q sl hts ht hn (N' := xup N 6 0 2 1) (fun a b c z => xup_k z) (xup_j (by decide)) st hne
        have hm1 : f_X11_must 1 R = f_X11_step R := by rw [must_eq, if_pos d7, if_neg (by decide)]
        have D17 := D1.2.2.2.2.2.2.1
        have hS1 : pS R (f_X11_step R) := by
          have := pS_must (so := 1) d8 r25 d7
          rw [hm1] at this; exact this
        have pM1 := pM_S hS1 D1.2.2.2.2.2.2.2 d7
        have hL : ∀ kxr, f_X11_books_L40 (n40 + 1) R kxr = if (f_X11_numberTo 299 (f_X11_step R)).2 40 0 28 = 0 then f_X11_books_L96 (f_X11_numberTo 299 (f_X11_step R)).1 (pM (f_X11_numberTo 299 (f_X11_step R)).2 + 1) 1 (f_X11_numberTo 299 (f_X11_step R)).2 (KX n40 kxr) else f_X11_books_L96 (f_X11_numberTo 299 (f_X11_step R)).1 1 0 (f_X11_numberTo 299 (f_X11_step R)).2 (KX n40 kxr) := by
          intro kxr
          rw [L40_s d7 r25, if_pos cw, hm1]
        rw [cT1]
        rw [numberTo_eq 299 _ D17] at hL
        dsimp only at hL
        generalize hN5 : f_X7_readToken (xup N 6 0 2 1) = N5 at *
        have x2 : N5 6 0 2 = 1 := by rw [sl1, xup_same]
        have hne5 : ¬ (N5 5 0 3 = 0 ∧ N5 6 0 2 = 0) := fun z => by rw [x2] at z; exact absurd z.2 (by decide)
        have st' := st1 (nI nb) x2
        generalize hs1 : tkS B len (tkE B len s) = s1 at *
        have k25' := q1.2.2.2.2.2.2.2.2.2.2.2.2.1
        have k53' := q1.2.2.2.2.2.2.2.2.2.2.2.1
        rw [k25'] at hL
        rw [k53'] at st'
        have hJ1 := D1.2.2.2.2.2.2.2
        generalize hR1 : f_X11_step R = R1 at *
        have n40p : 1 ≤ n40 := by have := pM_pos (M := R1) D17; omega
        by_cases k3 : tkK B len s1 = 3
        · have nv := q1.2.2.2.2.2.2.2.2.2.2.2.2.2 k3
          rw [if_pos ((tokC_2 _).mpr k3), nv] at st'
          simp only [if_pos k3] at hL
          by_cases over : numV R1 ≤ 299
          · rw [if_neg (Int32.not_lt.mpr over)] at st'
            simp only [if_pos over] at hL
            have sl1' : s1 < len := tk_in (B := B) (by rw [k3]; decide)
            obtain ⟨n2, rfl, t2, cT2, q2, D2, sl2, ts2, nt2⟩ := cT_go S D1 q1 sl1' ts1 t1 nt1 (N' := xup (xup N5 6 0 3 (numV R1)) 6 0 2 2) (fun a b c z => by rw [xup_k z, xup_k z]) (by rw [xup_j (by decide), xup_j (by decide)]) st' hne5
            rw [cT2]
            have y2 : f_X7_readToken (xup (xup N5 6 0 3 (numV R1)) 6 0 2 2) 6 0 2 = 2 := by rw [sl2, xup_same]
            have y3 : f_X7_readToken (xup (xup N5 6 0 3 (numV R1)) 6 0 2 2) 6 0 3 = numV R1 := by rw [sl2, xup_j (by decide), xup_same]
            have D27 := D2.2.2.2.2.2.2.1
            have hS2 : pS R1 (f_X11_step R1) := (step_all hJ1).2.2 (by rw [k25', k3]; decide)
            have pM2 := pM_S hS2 D2.2.2.2.2.2.2.2 D17
            simp only [D27, if_true] at hL
            obtain ⟨Rf, f1, f2⟩ := (ih n2 (by omega)).2.1 (t + 1 + 1) _ _ _ wr n40 (pM (f_X11_step R1) + 1) D2 q2 y2 (by rw [y3]; exact (numV_b S1 S3 q1 k3).1) ts2 t2 nt2 (by omega) (by omega)
            refine ⟨Rf, fun kxr => ?_, f2⟩
            rw [hL]
            have := f1 kxr
            rw [y3] at this
            exact this
          · rw [if_pos (Int32.not_le.mp over)] at st'
            simp only [if_neg over, b28 D17 (show (0 : Int32) < 2 by decide), if_false] at hL
            refine ⟨f_X11_bad 2 R1, fun kxr => ?_, ?_⟩
            · rw [hL, L96_0 (n := 0), KX_bad n40p (b28 D17 (by decide))]
            · rw [cT_bad st' (by decide) hne5]
              exact OO_bad D1 q1 (fun a b c z => xup_k z) (by decide)
        · rw [if_neg (fun z => k3 ((tokC_2 _).mp z))] at st'
          simp only [if_neg k3, b28 D17 (show (0 : Int32) < 1 by decide), if_false] at hL
          refine ⟨f_X11_bad 1 R1, fun kxr => ?_, ?_⟩
          · rw [hL, L96_0 (n := 0), KX_bad n40p (b28 D17 (by decide))]
          · rw [cT_bad st' (by decide) hne5]
            exact OO_bad D1 q1 (fun a b c z => xup_k z) (by decide)
      · rw [if_neg (fun z => cw (w0.mp z))] at st
        have n40p : 1 ≤ n40 := by have := pM_pos (M := R) d7; omega
        refine ⟨f_X11_bad 1 R, fun kxr => ?_, ?_⟩
        · have hm0 : f_X11_must 0 R = f_X11_bad 1 R := by rw [must_eq, if_pos d7, if_pos rfl]
          rw [L40_s d7 r25, if_neg cw, hm0, num_bad d7 (by decide)]
          dsimp only
          rw [if_neg (b28 d7 (by decide)), L96_0 (n := 0), KX_bad n40p (b28 d7 (by decide))]
        · rw [cT_bad st (by decide) hne]
          exact OO_bad d q (fun a b c z => rfl) (by decide)
  · intro t N R s wr n40 n96 d q h62 hw0 hts ht hn p96 p40
    have d7 := d.2.2.2.2.2.2.1
    have pp := pM_pos d7
    have hst := st2 (nI nb) h62
    have hne : ¬ (N 5 0 3 = 0 ∧ N 6 0 2 = 0) := fun z => by rw [h62] at z; exact absurd z.2 (by decide)
    by_cases he : f_X11_entryOfWord R = (-1000000)
    · have hwe := we_eq S1 S3 q
      rw [if_pos he] at hwe
      unfold bgE at hst
      rw [hwe, if_pos rfl] at hst
      refine ⟨f_X11_bad 1 R, fun kxr => ?_, ?_⟩
      · obtain ⟨z, rfl⟩ : ∃ k, n96 = k + 2 := ⟨n96 - 2, by omega⟩
        rw [L96_1, re_1 d7 he, if_neg (b28 d7 (by decide)), L96_0, KX_bad (by omega) (b28 d7 (by decide))]
      · rw [cT_bad hst (by decide) hne]
        exact OO_bad d q (fun a b c z => xup_k z) (by decide)
    · exact ENT S (fun m hm => (ih m hm).2.2) d q (by rw [h62]; decide) hst hw0 hts ht hn p96 p40 he
  · intro t N R s wr n40 n96 d q h62 hw0 hts ht hn p96 p40
    have d7 := d.2.2.2.2.2.2.1
    have d8 := d.2.2.2.2.2.2.2
    have pp := pM_pos d7
    have hst := st5 (nI nb) h62
    have k25 := q.2.2.2.2.2.2.2.2.2.2.2.2.1
    have k53 := q.2.2.2.2.2.2.2.2.2.2.2.1
    have hne : ¬ (N 5 0 3 = 0 ∧ N 6 0 2 = 0) := fun z => by rw [h62] at z; exact absurd z.2 (by decide)
    rw [k53] at hst
    by_cases he : f_X11_entryOfWord R = (-1000000)
    · obtain ⟨z96, rfl⟩ : ∃ k, n96 = k + 1 := ⟨n96 - 1, by omega⟩
      by_cases k4 : tkK B len s = 4
      · rw [if_pos ((tokC_3 _).mpr k4)] at hst
        have sl := tk_in (B := B) (s := s) (len := len) (by rw [k4]; decide)
        obtain ⟨n1, rfl, t1, cT1, q1, D1, sl1, ts1, nt1⟩ := cT_go S d q sl hts ht hn (N' := xup N 6 0 2 0) (fun a b c z => xup_k z) (xup_j (by decide)) hst hne
        have hm1 : f_X11_must 1 R = f_X11_step R := by rw [must_eq, if_pos d7, if_neg (by decide)]
        have hS1 : pS R (f_X11_step R) := (step_all d8).2.2 (by rw [k25, k4]; decide)
        have pM1 := pM_S hS1 D1.2.2.2.2.2.2.2 d7
        obtain ⟨Rf, f1, f2⟩ := (ih n1 (by omega)).1 (t + 1) _ _ _ wr n40 D1 q1 (by rw [sl1, xup_same]) ts1 t1 nt1 (by omega) (fun _ => by omega)
        refine ⟨Rf, fun kxr => ?_, by rw [cT1]; exact f2⟩
        rw [if_pos he, L96_0]
        unfold KX
        rw [if_pos d7, if_pos (by rw [k25]; exact k4), hm1]
        exact f1 kxr
      · rw [if_neg (fun z => k4 ((tokC_3 _).mp z))] at hst
        have hwe := we_eq S1 S3 q
        rw [if_pos he] at hwe
        unfold bgE at hst
        rw [hwe, if_pos rfl] at hst
        have hm0 : f_X11_must 0 R = f_X11_bad 1 R := by rw [must_eq, if_pos d7, if_pos rfl]
        refine ⟨f_X11_bad 1 R, fun kxr => ?_, ?_⟩
        · rw [if_pos he, L96_0]
          unfold KX
          obtain ⟨m40, rfl⟩ : ∃ k, n40 = k + 1 := ⟨n40 - 1, by omega⟩
          rw [if_pos d7, if_neg (by rw [k25]; exact k4), hm0, L40_bad (b28 d7 (by decide))]
        · rw [cT_bad hst (by decide) hne]
          exact OO_bad d q (fun a b c z => xup_k z) (by decide)
    · have k2 : tkK B len s = 2 := by rw [← k25]; exact entry_name he
      rw [if_neg (fun z => absurd ((tokC_3 _).mp z) (by rw [k2]; decide))] at hst
      obtain ⟨Rf, f1, f2⟩ := ENT S (fun m hm => (ih m hm).2.2) d q (by rw [h62]; decide) hst hw0 hts ht hn p96 p40 he
      exact ⟨Rf, fun kxr => by rw [if_neg he]; exact f1 kxr, f2⟩
end BOOKS5
