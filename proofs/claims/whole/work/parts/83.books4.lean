/-! books: an entry -/
section BOOKS4
variable {B T : Nat → Int32} {len : Int32} {M Z : xM} {sz nb : Nat}
theorem write_at {N : xM} {m : Nat} (h4 : N 4 0 4 + N 6 0 6 = nI m) (hm : m < 40) (x2 x3 x4 x5 : Int32) (a b c : Nat) : f_X2_write (N 6 0 6) x2 x3 x4 x5 (xup N 6 0 2 5) a b c = if a = 15 ∧ b = 0 ∧ c = m then x2 else if a = 16 ∧ b = 0 ∧ c = m then x3 else if a = 17 ∧ b = 0 ∧ c = m then x4 else if a = 18 ∧ b = 0 ∧ c = m then x5 else if a = 6 ∧ b = 0 ∧ c = 2 then 5 else N a b c := by
  unfold f_X2_write
  have e : xup N 6 0 2 5 4 0 4 + N 6 0 6 = nI m := by rw [xup_k (by decide)]; exact h4
  simp only [xlet_p, e]
  rw [if_neg (nI_pos (by omega)), if_neg (show ¬ (40 : Int32) ≤ nI m from nI_ge (b := 40) hm (by decide)), nI_clamp (by omega)]
  simp only [xup_at]
  by_cases a18 : a = 18
  · subst a18; simp
  · by_cases a17 : a = 17
    · subst a17; simp
    · by_cases a16 : a = 16
      · subst a16; simp
      · simp [a18, a17, a16]
theorem wrE_at {w x2 x3 x4 : Int32} {X : xM} {m : Nat} (h28 : X 40 0 28 = 0) (h19 : X 40 0 19 = nI m) (hm : m < 40) (a b c : Nat) : wrE w x2 x3 x4 X a b c = if a = 40 ∧ b = 0 ∧ c = 19 then nI (m + 1) else if a = 65 ∧ b = 0 ∧ c = m then w else if a = 66 ∧ b = 0 ∧ c = m then x2 else if a = 67 ∧ b = 0 ∧ c = m then x3 else if a = 68 ∧ b = 0 ∧ c = m then x4 else X a b c := by
  unfold wrE
  rw [if_pos h28, h19, nI_clamp (by omega), nI_1]
  simp only [xup_at]
  by_cases a68 : a = 68
  · subst a68; simp
  · by_cases a67 : a = 67
    · subst a67; simp
    · by_cases a66 : a = 66
      · subst a66; simp
      · simp [a68, a67, a66]
theorem WR (S : BS B T len M Z sz nb) {wr : Nat} {N R : xM} {s : Int32} (d : DD M Z sz wr N R) (q : TR B T len N R s) (hw : sz + wr < 40) {e b v w : Int32} (h3 : N 6 0 3 = w) (hw0 : 0 ≤ w) (h4 : N 6 0 4 = e) (h5 : N 6 0 5 = b) (hv : N 5 0 5 = v) (hv0 : 0 ≤ v) (hv1 : e ≠ 1 → v ≤ 100) (hJ : pJ (wrE w e b v (f_X11_step R))) : TR B T len (f_X7_readToken (xup (wr4 N) 6 0 6 (wr4 N 6 0 6 + 1))) (wrE w e b v (f_X11_step R)) (tkS B len (tkE B len s)) ∧ DD M Z sz (wr + 1) (f_X7_readToken (xup (wr4 N) 6 0 6 (wr4 N 6 0 6 + 1))) (wrE w e b v (f_X11_step R)) ∧ f_X7_readToken (xup (wr4 N) 6 0 6 (wr4 N 6 0 6 + 1)) 6 0 2 = 5 ∧ f_X7_readToken (xup (wr4 N) 6 0 6 (wr4 N 6 0 6 + 1)) 6 0 3 = w := by
  obtain ⟨S1, S2, S3, S4, S5, S6, S7⟩ := S
  obtain ⟨n1, r1, n2, r2, n4, r26, s0, sl, np, r24, r27, n3, r25, -⟩ := id q
  obtain ⟨d1, d2, d3, d4, d5, d6, d7, d8⟩ := d
  have h44 : N 4 0 4 = nI sz := by rw [d1 4 0 4 (by decide) (by decide) (by decide)]; exact S4
  have hat := write_at (N := N) (m := sz + wr) (by rw [h44, d3, nI_add]) hw (N 6 0 4) (N 6 0 3) (N 6 0 5) (N 5 0 5)
  have hw4 : wr4 N = f_X2_write (N 6 0 6) (N 6 0 4) (N 6 0 3) (N 6 0 5) (N 5 0 5) (xup N 6 0 2 5) := rfl
  rw [← hw4] at hat
  generalize wr4 N = W at hat
  have w6 : W 6 0 6 = nI wr := by rw [hat, if_neg (by omega), if_neg (by omega), if_neg (by omega), if_neg (by omega), if_neg (by omega)]; exact d3
  rw [w6, nI_1]
  have e0 : 0 ≤ tkE B len s := Int32.le_trans s0 (tkE_ge B len s)
  have el := tkE_le B len s sl
  have u5 : ∀ y c : Nat, xup W 6 0 6 (nI (wr + 1)) 5 y c = N 5 y c := fun y c => by rw [xup_k (by decide), hat, if_neg (by omega), if_neg (by omega), if_neg (by omega), if_neg (by omega), if_neg (by omega)]
  have u19 : xup W 6 0 6 (nI (wr + 1)) 19 0 = B := by funext j; rw [xup_k (by decide), hat, if_neg (by omega), if_neg (by omega), if_neg (by omega), if_neg (by omega), if_neg (by omega), n1]
  have hl : xup W 6 0 6 (nI (wr + 1)) 5 0 1 ≤ xup W 6 0 6 (nI (wr + 1)) 5 0 2 := by rw [u5, u5, np, n2]; exact el
  have hB : ∀ j : Nat, 0 ≤ R 70 0 j := by rw [r1]; exact S2
  have s28 : f_X11_step R 40 0 28 = 0 := by rw [step_28 R hB]; exact d7
  have so : ∀ a b c : Nat, ¬ (a = 40 ∧ b = 0 ∧ 24 ≤ c ∧ c ≤ 29) → f_X11_step R a b c = R a b c := fun a b c z => pfr_step R hB a b c z
  have s19 : f_X11_step R 40 0 19 = nI (sz + wr) := by rw [so 40 0 19 (by omega)]; exact d4
  have rat := wrE_at (w := w) (x2 := e) (x3 := b) (x4 := v) s28 s19 hw
  have TRn := TR_go (N := xup W 6 0 6 (nI (wr + 1))) (R := R) S1 S2 e0 el u19 (by rw [u5, n2]) (by rw [u5, np]) r1 r2 r24
  have ro : ∀ a b c : Nat, ¬ a = 5 → f_X7_readToken (xup W 6 0 6 (nI (wr + 1))) a b c = xup W 6 0 6 (nI (wr + 1)) a b c := fun a b c z => rt_o hl z
  generalize f_X7_readToken (xup W 6 0 6 (nI (wr + 1))) = N9 at TRn ro
  generalize hX : f_X11_step R = X at *
  generalize wrE w e b v X = R3 at rat hJ
  have r40 : ∀ c : Nat, c ≠ 19 → R3 40 0 c = X 40 0 c := fun c z => by rw [rat, if_neg (by omega), if_neg (by omega), if_neg (by omega), if_neg (by omega), if_neg (by omega)]
  have r70 : R3 70 0 = X 70 0 := by funext j; rw [rat, if_neg (by omega), if_neg (by omega), if_neg (by omega), if_neg (by omega), if_neg (by omega)]
  have c9 : ∀ a c : Nat, 15 ≤ a → a ≤ 18 → N9 a 0 c = if c = sz + wr then (if a = 15 then e else if a = 16 then w else if a = 17 then b else v) else N a 0 c := fun a c z1 z2 => by
    rw [ro a 0 c (by omega), xup_k (by omega), hat, h3, h4, h5, hv]
    rcases (show a = 15 ∨ a = 16 ∨ a = 17 ∨ a = 18 by omega) with y | y | y | y <;> subst y <;> simp
  obtain ⟨t1, t2, t3, t4, t5, t6, t7, t8, t9, t10, t11, t12, t13, t14⟩ := TRn
  refine ⟨⟨t1, by rw [r70]; exact t2, t3, by rw [r40 23 (by decide)]; exact t4, t5, by rw [r40 26 (by decide)]; exact t6, t7, t8, t9, by rw [r40 24 (by decide)]; exact t10, by rw [r40 27 (by decide)]; exact t11, t12, by rw [r40 25 (by decide)]; exact t13, fun z => ?_⟩, ⟨fun a y c h1 h2 h3' => ?_, fun a y c h1 h2 => ?_, ?_, ?_, by omega, fun k hk => ?_, ?_, hJ⟩, ?_, ?_⟩
  · rw [t14 z]
    unfold numV
    rw [r40 25 (by decide), r40 26 (by decide), r40 27 (by decide), r70]
  · rw [ro a y c h1, xup_k h2, hat, if_neg (by omega), if_neg (by omega), if_neg (by omega), if_neg (by omega), if_neg (by omega)]
    exact d1 a y c h1 h2 h3'
  · rw [rat, if_neg (by omega), if_neg (by omega), if_neg (by omega), if_neg (by omega), if_neg (by omega), so a y c (fun z => h1 ⟨z.1, z.2.1, by omega⟩)]
    exact d2 a y c h1 h2
  · rw [ro 6 0 6 (by decide), xup_same]
  · rw [rat, if_pos ⟨rfl, rfl, rfl⟩]; rfl
  · rw [c9 15 k (by omega) (by omega), c9 16 k (by omega) (by omega), c9 17 k (by omega) (by omega), c9 18 k (by omega) (by omega)]
    simp only [rat]
    by_cases kz : k = sz + wr
    · simp [kz, hw0, hv0]
      exact hv1
    · have ee := d6 k (by omega)
      have x65 : X 65 0 k = R 65 0 k := so 65 0 k (by omega)
      have x66 : X 66 0 k = R 66 0 k := so 66 0 k (by omega)
      have x67 : X 67 0 k = R 67 0 k := so 67 0 k (by omega)
      have x68 : X 68 0 k = R 68 0 k := so 68 0 k (by omega)
      simp [kz, x65, x66, x67, x68]
      simpa using ee
  · rw [r40 28 (by decide)]; exact s28
  · rw [ro 6 0 2 (by decide), xup_j (by decide), hat, if_neg (by omega), if_neg (by omega), if_neg (by omega), if_neg (by omega), if_pos ⟨rfl, rfl, rfl⟩]
  · rw [ro 6 0 3 (by decide), xup_j (by decide), hat, if_neg (by omega), if_neg (by omega), if_neg (by omega), if_neg (by omega), if_neg (by omega)]; exact h3
theorem ENT (S : BS B T len M Z sz nb) {n : Nat} (ih : ∀ m, m < n → P5 B T len M Z sz nb m) {t wr n40 n96 : Nat} {N R : xM} {s : Int32} (d : DD M Z sz wr N R) (q : TR B T len N R s) (h62 : ¬ N 6 0 2 = 0) (hst : f_X1_step (nI nb) N = bgE N) (hw0 : 0 ≤ N 6 0 3) (hts : nI t ≤ s) (ht : t ≤ 400) (hn : 401 ≤ n + t) (p96 : pM R < n96) (p40 : pM R ≤ n40) (he : ¬ f_X11_entryOfWord R = (-1000000)) : ∃ Rf, (∀ kxr, f_X11_books_L96 (N 6 0 3) n96 1 R (KX n40 kxr) = kxr Rf) ∧ OO M Z sz len (cT nb n t N) Rf := by
  obtain ⟨S1, S2, S3, S4, S5, S6, S7⟩ := id S
  obtain ⟨d1, d2, d3, d4, d5, d6, d7, d8⟩ := id d
  have pp := pM_pos d7
  obtain ⟨n96, rfl⟩ : ∃ k, n96 = k + 1 := ⟨n96 - 1, by omega⟩
  have hB : ∀ j : Nat, 0 ≤ R 70 0 j := by rw [q.2.1]; exact S2
  have fault : ∀ Rf : xM, f_X11_readEntry (N 6 0 3) R = Rf → ¬ Rf 40 0 28 = 0 → ∀ kxr, f_X11_books_L96 (N 6 0 3) (n96 + 1) 1 R (KX n40 kxr) = kxr Rf := by
    intro Rf e1 e2 kxr
    rw [L96_1, e1, if_neg e2]
    obtain ⟨z, rfl⟩ : ∃ k, n96 = k + 1 := ⟨n96 - 1, by omega⟩
    rw [L96_0, KX_bad (by omega) e2]
  have b28 : ∀ {r : Int32} {X : xM}, X 40 0 28 = 0 → 0 < r → ¬ f_X11_bad r X 40 0 28 = 0 := fun {r X} h1 h2 => by rw [bad_28 h1]; intro z; rw [z] at h2; exact absurd h2 (by decide)
  have hne : ¬ (N 5 0 3 = 0 ∧ N 6 0 2 = 0) := fun z => h62 z.2
  have k2 : tkK B len s = 2 := by rw [← q.2.2.2.2.2.2.2.2.2.2.2.2.1]; exact entry_name he
  have slen' : s < len := tk_in (B := B) (by rw [k2]; decide)
  have hwe := we_eq S1 S3 q
  rw [if_neg he] at hwe
  have er := (ew_r R).resolve_left he
  generalize hE : f_X11_entryOfWord R = e at *
  have en1 : ¬ e = -1 := by rcases er with z | z | z <;> rw [z] <;> decide
  have h44 : N 4 0 4 + N 6 0 6 = nI (sz + wr) := by rw [d1 4 0 4 (by decide) (by decide) (by decide), S4, d3, nI_add]
  unfold bgE at hst
  rw [hwe, if_neg en1, h44] at hst
  by_cases full : sz + wr = 40
  · rw [if_pos (show (40 : Int32) ≤ nI (sz + wr) from nI_le (a := 40) (by omega) (by omega))] at hst
    refine ⟨f_X11_bad 3 R, fault _ (re_3 d7 (by rw [hE]; exact he) (by rw [d4, full]; rfl)) (b28 d7 (by decide)), ?_⟩
    rw [cT_bad hst (by decide) hne]
    exact OO_bad d q (fun a b c z => xup_k z) (by decide)
  · rw [if_neg (show ¬ (40 : Int32) ≤ nI (sz + wr) from nI_ge (b := 40) (by omega) (by decide))] at hst
    have h19 : ¬ R 40 0 19 = 40 := by rw [d4]; exact fun z => full ((nI_eq (b := 40) (by omega) (by decide)).mp z)
    have hre := re_s (w := N 6 0 3) d7 (by rw [hE]; exact he) h19
    rw [hE] at hre
    obtain ⟨n1, rfl, t1, cT1, q1, D1, sl1, ts1, nt1⟩ := cT_go S d q slen' hts ht hn (N' := xup (xup N 6 0 4 e) 6 0 2 3) (fun a b c z => by rw [xup_k z, xup_k z]) (by rw [xup_j (by decide), xup_j (by decide)]) hst hne
    rw [cT1]
    generalize hN5 : f_X7_readToken (xup (xup N 6 0 4 e) 6 0 2 3) = N5 at *
    have x2 : N5 6 0 2 = 3 := by rw [sl1, xup_same]
    have x3 : N5 6 0 3 = N 6 0 3 := by rw [sl1, xup_j (by decide), xup_j (by decide)]
    have x4 : N5 6 0 4 = e := by rw [sl1, xup_j (by decide), xup_same]
    rw [reT_s D1.2.2.2.2.2.2.2 D1.2.2.2.2.2.2.1] at hre
    have r7 : f_X11_step R 40 0 7 = nI nb := by rw [D1.2.1 40 0 7 (by omega) (by omega)]; exact S6
    have hne5 : ¬ (N5 5 0 3 = 0 ∧ N5 6 0 2 = 0) := fun z => by rw [x2] at z; exact absurd z.2 (by decide)
    have st := st3 (nI nb) x2
    generalize hs1 : tkS B len (tkE B len s) = s1 at *
    have k25 := q1.2.2.2.2.2.2.2.2.2.2.2.2.1
    have k53 := q1.2.2.2.2.2.2.2.2.2.2.2.1
    rw [k25, r7] at hre
    rw [k53] at st
    generalize hR1 : f_X11_step R = R1 at *
    have D17 := D1.2.2.2.2.2.2.1
    by_cases k3 : tkK B len s1 = 3
    · have nv := q1.2.2.2.2.2.2.2.2.2.2.2.2.2 k3
      rw [if_pos k3] at hre
      rw [if_pos ((tokC_2 _).mpr k3), nv] at st
      by_cases over : numV R1 ≤ nI nb - 1
      · rw [if_pos over] at hre
        rw [if_neg (Int32.not_lt.mpr over)] at st
        have sl1' : s1 < len := tk_in (B := B) (by rw [k3]; decide)
        obtain ⟨n2, rfl, t2, cT2, q2, D2, sl2, ts2, nt2⟩ := cT_go S D1 q1 sl1' ts1 t1 nt1 (N' := xup (xup N5 6 0 5 (numV R1)) 6 0 2 4) (fun a b c z => by rw [xup_k z, xup_k z]) (by rw [xup_j (by decide), xup_j (by decide)]) st hne5
        rw [cT2]
        generalize hN7 : f_X7_readToken (xup (xup N5 6 0 5 (numV R1)) 6 0 2 4) = N7 at *
        have y2 : N7 6 0 2 = 4 := by rw [sl2, xup_same]
        have y3 : N7 6 0 3 = N 6 0 3 := by rw [sl2, xup_j (by decide), xup_j (by decide)]; exact x3
        have y4 : N7 6 0 4 = e := by rw [sl2, xup_j (by decide), xup_j (by decide)]; exact x4
        have y5 : N7 6 0 5 = numV R1 := by rw [sl2, xup_j (by decide), xup_same]
        have hne7 : ¬ (N7 5 0 3 = 0 ∧ N7 6 0 2 = 0) := fun z => by rw [y2] at z; exact absurd z.2 (by decide)
        have st' := st4 (nI nb) y2
        generalize hs2 : tkS B len (tkE B len s1) = s2 at *
        have k25' := q2.2.2.2.2.2.2.2.2.2.2.2.2.1
        have k53' := q2.2.2.2.2.2.2.2.2.2.2.2.1
        rw [k25'] at hre
        rw [k53', y4] at st'
        generalize hR2 : f_X11_step R1 = R2 at *
        have D27 := D2.2.2.2.2.2.2.1
        by_cases k3' : tkK B len s2 = 3
        · have nv' := q2.2.2.2.2.2.2.2.2.2.2.2.2.2 k3'
          rw [if_pos k3'] at hre
          rw [if_pos ((tokC_2 _).mpr k3'), nv'] at st'
          by_cases ov' : numV R2 ≤ (if e = 1 then 255 else 100)
          · rw [if_pos ov'] at hre
            rw [if_neg (Int32.not_lt.mpr ov')] at st'
            have sl2' : s2 < len := tk_in (B := B) (by rw [k3']; decide)
            have hJ := pJ_re (w := N 6 0 3) d8
            have hS := pS_re (w := N 6 0 3) d8 d7
            have hpM := pM_S hS hJ d7
            rw [hre] at hJ hpM
            obtain ⟨W1, W2, W3, W4⟩ := WR S D2 q2 (by omega) y3 hw0 y4 y5 nv' (numV_b S1 S3 q2 k3').1 (fun z => by rw [if_neg z] at ov'; exact ov') hJ
            have a2 : ∃ a, s2 = nI a ∧ a < 400 ∧ t + 1 + 1 ≤ a := by
              obtain ⟨a, ea, ha⟩ := i32b (n := 400) (by decide) q2.2.2.2.2.2.2.1 (Int32.le_trans q2.2.2.2.2.2.2.2.1 S3)
              refine ⟨a, ea, ?_, ?_⟩
              · have := Int32.lt_of_lt_of_le sl2' S3
                rw [ea] at this
                exact (nI_ltI (b := 400) (by omega) (by decide)).mp this
              · rw [ea] at ts2
                exact (nI_leI (by omega) (by omega)).mp ts2
            obtain ⟨a, ea, ha4, hta⟩ := a2
            obtain ⟨n3, rfl⟩ : ∃ k, n2 = k + 1 := ⟨n2 - 1, by omega⟩
            have cT3 : cT nb (n3 + 1) (t + 1 + 1) N7 = cT nb n3 (t + 1 + 1 + 1) (f_X7_readToken (xup (wr4 N7) 6 0 6 (wr4 N7 6 0 6 + 1))) := by
              rw [show cT nb (n3 + 1) (t + 1 + 1) N7 = _ from rfl]
              unfold cT
              rw [if_neg hne7, st', if_pos rfl]
              dsimp only
              rw [cT_eq (by omega)]
              rfl
            rw [cT3]
            have eg := tkE_gt B len s2 sl2'
            have et : nI (t + 1 + 1 + 1) ≤ tkS B len (tkE B len s2) := by
              refine Int32.le_trans ?_ (tkS_ge B len _)
              rw [ea] at eg ⊢
              have : nI (a + 1) ≤ tkE B len (nI a) := by rw [← nI_1]; grind
              exact Int32.le_trans (nI_le (by omega) (by omega)) this
            obtain ⟨Rf, f1, f2⟩ := ih n3 (by omega) (t + 1 + 1 + 1) _ _ _ (wr + 1) n40 n96 W2 W1 W3 (by rw [W4]; exact hw0) et (by omega) (by omega) (by omega) (by omega)
            refine ⟨Rf, fun kxr => ?_, f2⟩
            rw [L96_1, hre, if_pos W2.2.2.2.2.2.2.1]
            have := f1 kxr
            rw [W4] at this
            exact this
          · rw [if_neg ov'] at hre
            rw [if_pos (Int32.not_le.mp ov')] at st'
            refine ⟨_, fault _ hre (b28 D27 (by decide)), ?_⟩
            rw [cT_bad st' (by decide) hne7]
            exact OO_bad D2 q2 (fun a b c z => rfl) (by decide)
        · rw [if_neg k3'] at hre
          rw [if_neg (fun z => k3' ((tokC_2 _).mp z))] at st'
          refine ⟨_, fault _ hre (b28 D27 (by decide)), ?_⟩
          rw [cT_bad st' (by decide) hne7]
          exact OO_bad D2 q2 (fun a b c z => rfl) (by decide)
      · rw [if_neg over] at hre
        rw [if_pos (Int32.not_le.mp over)] at st
        refine ⟨_, fault _ hre (b28 D17 (by decide)), ?_⟩
        rw [cT_bad st (by decide) hne5]
        exact OO_bad D1 q1 (fun a b c z => xup_k z) (by decide)
    · rw [if_neg k3] at hre
      rw [if_neg (fun z => k3 ((tokC_2 _).mp z))] at st
      refine ⟨_, fault _ hre (b28 D17 (by decide)), ?_⟩
      rw [cT_bad st (by decide) hne5]
      exact OO_bad D1 q1 (fun a b c z => xup_k z) (by decide)
end BOOKS4
