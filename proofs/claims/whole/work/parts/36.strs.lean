/-! the four words of the class, as Strings -/
def slen (k : Nat) : Nat := ([4, 3, 5, 7] : List Nat).getD k 0
def sby (k j : Nat) : Int32 := (([[119, 101, 101, 107], [111, 102, 102], [102, 97, 108, 115, 101], [115, 116, 111, 112, 112, 101, 100]] : List (List Int32)).getD k []).getD j 0
abbrev slI (k : Nat) : Int32 := Int32.ofNat (slen k)
section XS
variable {p : Program} {l : Launch} {e : Env} {R : Room} {s : State} {m : MethodId} {args : Array Value} {below : List Frame} {meth : Method} {c : Code} {H : Heap} {locs : List Loc} {cells slots : Nat} {Q : State → Prop}
variable {cc : ByteArray} {pc nL : Nat} {ls : Array Slot} {rest : List Value} {g : xG} {L : List (Nat × Nat)} {M : xM} {own : String} {c0 : Cond}
variable {y : MethodName} {b : ByteArray} {maxL n d index k : Nat} {ret : Option FieldType} {As : List Value}
theorem xvk (hAm : xAm g s s.heap) (hD : xD g L) : vk_S 4 [4, 3, 5, 7] [[119, 101, 101, 107], [111, 102, 102], [102, 97, 108, 115, 101], [115, 116, 111, 112, 112, 101, 100]] (fun i => xst g (10 + i)) (fun i => xst g (20 + i)) (xA g L s.heap.size) s s.heap := hAm.2.2.2.2.2.1.narrow (xA_lo hD hAm.1)
theorem x_rety {post : Int32 → xM → Prop} {sz : Nat} {ty : FieldType} (hx : p.tables.exec = Jvm.exec) (hb : c.code = cc) (hr : meth.sig.returnType = some ty) (hlk : meth.locks = false) (hP : xP g L M H) (hS : va_S (xA g L sz) s.heap H locs) {v : Int32} (hn : narrow ty (.int v) = .int v) (hp : post v M) (hdg : decode cc pc = .ok (.ireturn, 1)) : W p l e R s m args below meth c H locs cells slots (MQ below (va_Qi post (xPost g L) (xA g L sz)) args s cells slots (xA g L sz)) (F0 m pc ls [.int v]) :=
  W.zret hx hb hr hn (fun t ht _ => ⟨⟨v, M, rfl, hp, by show xP g L M t.heap; rw [ht]; exact hP⟩, hS.F ht⟩) hS.2.2 hdg hlk
theorem x_callVs (S : CallFix p m c cc nL s args (c0 :: wsL_law) own) (hK : xK g s) (hAm : xAm g s s.heap) (hD : xD g L) (hP : xP g L M H) (hS : va_S (xA g L s.heap.size) s.heap H locs) (hv : xMV "java/lang/String" y b maxL ret n) (hl : Cond.methodLink own index y ∈ wsL_law) (hR : d + 1 ≤ R.frames ∧ 8 + (maxL + 11) + 64 * d ≤ R.locals) (hk : k < 4) {post : Int32 → xM → Prop} (hM : xCi l y b maxL ret d g L M (.ref (xst g (10 + k)) :: As) post) (hn : As.length = n) (hsz : ls.size = nL) (hw : (rest.map fun v => v.category).sum ≤ 8) (hcs : cells ≤ R.cells ∧ slots ≤ R.slots) (hdg : decode cc pc = .ok (.invokevirtual index, 3)) {st0 : List Value} (hst : st0 = As.reverse ++ .ref (xst g (10 + k)) :: rest)
    (kk : ∀ (r : Int32) (u : xM) (H1 : Heap) (locs1 : List Loc), post r u → xP g L u H1 → va_S (xA g L s.heap.size) s.heap H1 locs1 → W p l e R s m args below meth c H1 locs1 cells slots Q (F0 m (pc + 3) ls (.int r :: rest))) : W p l e R s m args below meth c H locs cells slots Q (F0 m pc ls st0) := by
  subst hst
  have hpre := x_preS hK hAm hD hP hS (av := .ref (xst g (10 + k)) :: As)
  exact va_calli (va_runV S (hM H.size) (x_cwV S.2.2.2.2 hv hl hR) ⟨hpre.1, vk_recv (xvk hAm hD) hk hS, hpre.2⟩ rfl hn hsz rfl (lv_room hw) hdg hcs) hS (fun q _ h => xA_mono hS.1 h) (fun q h => xA_mono hS.1 h) (fun r u t H1 locs1 ht _ hp hB _ _ hS1 => kk r u H1 locs1 hp (by rw [← ht]; exact hB) hS1)
theorem x_callSv (S : CallFix p m c cc nL s args (c0 :: wsL_law) own) (hK : xK g s) (hAm : xAm g s s.heap) (hD : xD g L) (hP : xP g L M H) (hS : va_S (xA g L s.heap.size) s.heap H locs) (hv : xMS y b maxL none n) (hl : Cond.methodLink own index y ∈ wsL_law) (hR : d + 1 ≤ R.frames ∧ 8 + (maxL + 11) + 64 * d ≤ R.locals) {post : xM → Prop} (hM : xCv l y b maxL d g L M As post) (hn : As.length = n) (hsz : ls.size = nL) (hw : (rest.map fun v => v.category).sum ≤ 8) (hcs : cells ≤ R.cells ∧ slots ≤ R.slots) (hdg : decode cc pc = .ok (.invokestatic index, 3)) {st0 : List Value} (hst : st0 = As.reverse ++ rest)
    (kk : ∀ (u : xM) (H1 : Heap) (locs1 : List Loc), post u → xP g L u H1 → va_S (xA g L s.heap.size) s.heap H1 locs1 → W p l e R s m args below meth c H1 locs1 cells slots Q (F0 m (pc + 3) ls rest)) : W p l e R s m args below meth c H locs cells slots Q (F0 m pc ls st0) := by
  subst hst
  exact va_callv (va_runS S (hM H.size) (x_cwS S.2.2.2.2 hv hl hR) (x_preS hK hAm hD hP hS (av := As)) rfl hn hsz rfl (lv_room hw) hdg hcs) hS (fun q _ h => xA_mono hS.1 h) (fun q h => xA_mono hS.1 h) (fun u t H1 locs1 ht _ hp hB _ _ hS1 => kk u H1 locs1 hp (by rw [← ht]; exact hB) hS1)
theorem x_ldcS0 (hx : p.tables.exec = Jvm.exec) (hb : c.code = cc) (hown : s.vm.findClass "NoteCounter$BookReader" = some m.cls) (hAm : xAm g s s.heap) (hdg : decode cc pc = .ok (.ldc 75, 2)) (kk : W p l e R s m args below meth c H locs cells slots Q (F0 m (pc + 2) ls (.ref (xst g (10 + 0)) :: rest))) : W p l e R s m args below meth c H locs cells slots Q (F0 m pc ls rest) := va_ldcS hx hb hown hAm.2.2.2.2.2.2.1 hdg kk
theorem x_ldcS1 (hx : p.tables.exec = Jvm.exec) (hb : c.code = cc) (hown : s.vm.findClass "NoteCounter$BookReader" = some m.cls) (hAm : xAm g s s.heap) (hdg : decode cc pc = .ok (.ldc 95, 2)) (kk : W p l e R s m args below meth c H locs cells slots Q (F0 m (pc + 2) ls (.ref (xst g (10 + 1)) :: rest))) : W p l e R s m args below meth c H locs cells slots Q (F0 m pc ls rest) := va_ldcS hx hb hown hAm.2.2.2.2.2.2.2.1 hdg kk
theorem x_ldcS2 (hx : p.tables.exec = Jvm.exec) (hb : c.code = cc) (hown : s.vm.findClass "NoteCounter$BookReader" = some m.cls) (hAm : xAm g s s.heap) (hdg : decode cc pc = .ok (.ldc 97, 2)) (kk : W p l e R s m args below meth c H locs cells slots Q (F0 m (pc + 2) ls (.ref (xst g (10 + 2)) :: rest))) : W p l e R s m args below meth c H locs cells slots Q (F0 m pc ls rest) := va_ldcS hx hb hown hAm.2.2.2.2.2.2.2.2.1 hdg kk
theorem x_ldcS3 (hx : p.tables.exec = Jvm.exec) (hb : c.code = cc) (hown : s.vm.findClass "NoteCounter$BookReader" = some m.cls) (hAm : xAm g s s.heap) (hdg : decode cc pc = .ok (.ldc 99, 2)) (kk : W p l e R s m args below meth c H locs cells slots Q (F0 m (pc + 2) ls (.ref (xst g (10 + 3)) :: rest))) : W p l e R s m args below meth c H locs cells slots Q (F0 m pc ls rest) := va_ldcS hx hb hown hAm.2.2.2.2.2.2.2.2.2.1 hdg kk
end XS
set_option maxHeartbeats 4000000 in
set_option maxRecDepth 100000 in
theorem c_J0_coder_7d493 (l : Launch) (nb nn : Nat) (g : xG) (L : List (Nat × Nat)) (M : xM) (hD : xD g L) (hL : xEL nb nn L) (k : Nat) (hk : k < 4) : xCi l yJ0_coder_7d493 cJ0_coder_7d493 1 (some .byte) 0 g L M [.ref (xst g (10 + k))] (fun r u => r = 0 ∧ u = M) := by
  intro sz
  refine x_beg (by decide +kernel) rfl ?_
  intro p e s m args below meth c ls hsz hB
  subst hsz
  obtain ⟨hx, hb, hml, hown, hts, hr, hlk, hK, hAm, hP, hl⟩ := hB
  have S : CallFix p m c cJ0_coder_7d493 1 s args (xws yJ0_coder_7d493 cJ0_coder_7d493 1 (some .byte)) RJ0 := ⟨hx, hb, hml, hown, hts⟩
  have hown : s.vm.findClass RJ0 = some m.cls := hown
  have hl : lv_has ls 1 [(0, .ref (xst g (10 + k)))] := hl
  have hS : va_S (xA g L s.heap.size) s.heap s.heap [] := va_S.rf
  have hE := xvk hAm hD
  refine va_gets hx hb (hAm.2.2.2.2.2.2.2.2.2.2.1.narrow (xA_lo hD hAm.1)) hS hown (hts _ (List.mem_cons_of_mem _ wd_471)) (fun _ h => h) dJ0_coder_7d493_0 ?_
  refine lv_if_eq (tgt := 13) hx hb dJ0_coder_7d493_3 (by decide) (fun c_1 => absurd c_1 (by decide)) (fun c_1 => ?_)
  refine lv_aload_n hx hb dJ0_coder_7d493_6 rfl (lv_at hl 0 rfl) ?_
  refine vk_getf hx hb (hE.1 k hk).2.1 hS hown (hts _ (List.mem_cons_of_mem _ wd_472)) (fun _ h => h) dJ0_coder_7d493_7 ?_
  refine lv_goto (tgt := 14) hx hb dJ0_coder_7d493_10 (by decide) ?_
  exact x_rety hx hb hr hlk hP hS rfl ⟨rfl, rfl⟩ dJ0_coder_7d493_14
set_option maxHeartbeats 4000000 in
set_option maxRecDepth 100000 in
theorem c_J0_isLatin1_aae02 (l : Launch) (nb nn : Nat) (g : xG) (L : List (Nat × Nat)) (M : xM) (hD : xD g L) (hL : xEL nb nn L) (k : Nat) (hk : k < 4) : xCi l yJ0_isLatin1_aae02 cJ0_isLatin1_aae02 1 (some .boolean) 0 g L M [.ref (xst g (10 + k))] (fun r u => r = 1 ∧ u = M) := by
  intro sz
  refine x_beg (by decide +kernel) rfl ?_
  intro p e s m args below meth c ls hsz hB
  subst hsz
  obtain ⟨hx, hb, hml, hown, hts, hr, hlk, hK, hAm, hP, hl⟩ := hB
  have S : CallFix p m c cJ0_isLatin1_aae02 1 s args (xws yJ0_isLatin1_aae02 cJ0_isLatin1_aae02 1 (some .boolean)) RJ0 := ⟨hx, hb, hml, hown, hts⟩
  have hown : s.vm.findClass RJ0 = some m.cls := hown
  have hl : lv_has ls 1 [(0, .ref (xst g (10 + k)))] := hl
  have hS : va_S (xA g L s.heap.size) s.heap s.heap [] := va_S.rf
  have hE := xvk hAm hD
  refine va_gets hx hb (hAm.2.2.2.2.2.2.2.2.2.2.1.narrow (xA_lo hD hAm.1)) hS hown (hts _ (List.mem_cons_of_mem _ wd_471)) (fun _ h => h) dJ0_isLatin1_aae02_0 ?_
  refine lv_if_eq (tgt := 17) hx hb dJ0_isLatin1_aae02_3 (by decide) (fun c_1 => absurd c_1 (by decide)) (fun c_1 => ?_)
  refine lv_aload_n hx hb dJ0_isLatin1_aae02_6 rfl (lv_at hl 0 rfl) ?_
  refine vk_getf hx hb (hE.1 k hk).2.1 hS hown (hts _ (List.mem_cons_of_mem _ wd_472)) (fun _ h => h) dJ0_isLatin1_aae02_7 ?_
  refine lv_if_ne (tgt := 17) hx hb dJ0_isLatin1_aae02_10 (by decide) (fun c_2 => absurd rfl c_2) (fun c_2 => ?_)
  refine lv_iconst (v := 1) hx hb dJ0_isLatin1_aae02_13 (by decide) ?_
  refine lv_goto (tgt := 18) hx hb dJ0_isLatin1_aae02_14 (by decide) ?_
  exact x_rety hx hb hr hlk hP hS rfl ⟨rfl, rfl⟩ dJ0_isLatin1_aae02_18
set_option maxHeartbeats 4000000 in
set_option maxRecDepth 100000 in
theorem c_J0_length_8abf5 (l : Launch) (nb nn : Nat) (g : xG) (L : List (Nat × Nat)) (M : xM) (hD : xD g L) (hL : xEL nb nn L) (k : Nat) (hk : k < 4) : xCi l yJ0_length_8abf5 cJ0_length_8abf5 1 (some .int) 1 g L M [.ref (xst g (10 + k))] (fun r u => r = slI k ∧ u = M) := by
  intro sz
  refine x_beg (by decide +kernel) rfl ?_
  intro p e s m args below meth c ls hsz hB
  subst hsz
  obtain ⟨hx, hb, hml, hown, hts, hr, hlk, hK, hAm, hP, hl⟩ := hB
  have S : CallFix p m c cJ0_length_8abf5 1 s args (xws yJ0_length_8abf5 cJ0_length_8abf5 1 (some .int)) RJ0 := ⟨hx, hb, hml, hown, hts⟩
  have hown : s.vm.findClass RJ0 = some m.cls := hown
  have hl : lv_has ls 1 [(0, .ref (xst g (10 + k)))] := hl
  have hS : va_S (xA g L s.heap.size) s.heap s.heap [] := va_S.rf
  have hE := xvk hAm hD
  refine lv_aload_n hx hb dJ0_length_8abf5_0 rfl (lv_at hl 0 rfl) ?_
  refine vk_getf hx hb (hE.1 k hk).2.2.1 hS hown (hts _ (List.mem_cons_of_mem _ wd_466)) (fun _ h => h) dJ0_length_8abf5_1 ?_
  refine va_tlen hx hb (hE.1 k hk).2.2.2 hS rfl dJ0_length_8abf5_4 ?_
  refine lv_aload_n hx hb dJ0_length_8abf5_5 rfl (lv_at hl 0 rfl) ?_
  refine x_callVs (As := []) S hK hAm hD hP hS mt_J0_coder_7d493 wd_467 ⟨by decide, by decide⟩ hk (c_J0_coder_7d493 l nb nn g L M hD hL k hk) rfl hl.1 (Nat.le_of_ble_eq_true rfl) ⟨Nat.zero_le _, Nat.zero_le _⟩ dJ0_length_8abf5_6 rfl (fun r u H locs hp_ hP hS => ?_)
  obtain ⟨er, eu_⟩ := hp_
  rw [eu_] at hP
  subst er
  refine lv_ishr hx hb dJ0_length_8abf5_9 ?_
  refine x_reti hx hb hr hlk hP hS ⟨?_, rfl⟩ dJ0_length_8abf5_10
  rcases (show k = 0 ∨ k = 1 ∨ k = 2 ∨ k = 3 by omega) with rfl | rfl | rfl | rfl <;> decide
set_option maxHeartbeats 4000000 in
set_option maxRecDepth 100000 in
theorem c_J3_checkIndex_8e157_n (l : Launch) (nb nn : Nat) (g : xG) (L : List (Nat × Nat)) (M : xM) (hD : xD g L) (hL : xEL nb nn L) (i len : Int32) (h1 : 0 ≤ i) (h2 : i < len) : xCi l yJ3_checkIndex_8e157 cJ3_checkIndex_8e157 3 (some .int) 0 g L M [.int i, .int len, .null] (fun r u => r = i ∧ u = M) := by
  intro sz
  refine x_beg (by decide +kernel) rfl ?_
  intro p e s m args below meth c ls hsz hB
  subst hsz
  obtain ⟨hx, hb, hml, hown, hts, hr, hlk, hK, hAm, hP, hl⟩ := hB
  have S : CallFix p m c cJ3_checkIndex_8e157 3 s args (xws yJ3_checkIndex_8e157 cJ3_checkIndex_8e157 3 (some .int)) RJ3 := ⟨hx, hb, hml, hown, hts⟩
  have hown : s.vm.findClass RJ3 = some m.cls := hown
  have hl : lv_has ls 3 [(0, .int i), (1, .int len), (2, .null)] := hl
  have hS : va_S (xA g L s.heap.size) s.heap s.heap [] := va_S.rf
  have hE := xvk hAm hD
  refine lv_iload_n hx hb dJ3_checkIndex_8e157_0 rfl (lv_at hl 0 rfl) ?_
  refine lv_if_lt (tgt := 9) hx hb dJ3_checkIndex_8e157_1 (by decide) (fun c_1 => absurd c_1 (by grind)) (fun c_1 => ?_)
  refine lv_iload_n hx hb dJ3_checkIndex_8e157_4 rfl (lv_at hl 0 rfl) ?_
  refine lv_iload_n hx hb dJ3_checkIndex_8e157_5 rfl (lv_at hl 1 rfl) ?_
  refine lv_icmp_lt (tgt := 16) hx hb dJ3_checkIndex_8e157_6 (by decide) (fun c_2 => ?_) (fun c_2 => absurd h2 c_2)
  refine lv_iload_n hx hb dJ3_checkIndex_8e157_16 rfl (lv_at hl 0 rfl) ?_
  exact x_reti hx hb hr hlk hP hS ⟨rfl, rfl⟩ dJ3_checkIndex_8e157_17
set_option maxHeartbeats 4000000 in
set_option maxRecDepth 100000 in
theorem c_J3_checkIndex_8e157_r (l : Launch) (nb nn : Nat) (g : xG) (L : List (Nat × Nat)) (M : xM) (hD : xD g L) (hL : xEL nb nn L) (t : Nat) (i len : Int32) (h1 : 0 ≤ i) (h2 : i < len) : xCi l yJ3_checkIndex_8e157 cJ3_checkIndex_8e157 3 (some .int) 0 g L M [.int i, .int len, .ref t] (fun r u => r = i ∧ u = M) := by
  intro sz
  refine x_beg (by decide +kernel) rfl ?_
  intro p e s m args below meth c ls hsz hB
  subst hsz
  obtain ⟨hx, hb, hml, hown, hts, hr, hlk, hK, hAm, hP, hl⟩ := hB
  have S : CallFix p m c cJ3_checkIndex_8e157 3 s args (xws yJ3_checkIndex_8e157 cJ3_checkIndex_8e157 3 (some .int)) RJ3 := ⟨hx, hb, hml, hown, hts⟩
  have hown : s.vm.findClass RJ3 = some m.cls := hown
  have hl : lv_has ls 3 [(0, .int i), (1, .int len), (2, .ref t)] := hl
  have hS : va_S (xA g L s.heap.size) s.heap s.heap [] := va_S.rf
  have hE := xvk hAm hD
  refine lv_iload_n hx hb dJ3_checkIndex_8e157_0 rfl (lv_at hl 0 rfl) ?_
  refine lv_if_lt (tgt := 9) hx hb dJ3_checkIndex_8e157_1 (by decide) (fun c_1 => absurd c_1 (by grind)) (fun c_1 => ?_)
  refine lv_iload_n hx hb dJ3_checkIndex_8e157_4 rfl (lv_at hl 0 rfl) ?_
  refine lv_iload_n hx hb dJ3_checkIndex_8e157_5 rfl (lv_at hl 1 rfl) ?_
  refine lv_icmp_lt (tgt := 16) hx hb dJ3_checkIndex_8e157_6 (by decide) (fun c_2 => ?_) (fun c_2 => absurd h2 c_2)
  refine lv_iload_n hx hb dJ3_checkIndex_8e157_16 rfl (lv_at hl 0 rfl) ?_
  exact x_reti hx hb hr hlk hP hS ⟨rfl, rfl⟩ dJ3_checkIndex_8e157_17
set_option maxHeartbeats 4000000 in
set_option maxRecDepth 100000 in
theorem c_J0_checkIndex_df160 (l : Launch) (nb nn : Nat) (g : xG) (L : List (Nat × Nat)) (M : xM) (hD : xD g L) (hL : xEL nb nn L) (i len : Int32) (h1 : 0 ≤ i) (h2 : i < len) : xCv l yJ0_checkIndex_df160 cJ0_checkIndex_df160 2 1 g L M [.int i, .int len] (fun u => u = M) := by
  intro sz
  refine x_beg (by decide +kernel) rfl ?_
  intro p e s m args below meth c ls hsz hB
  subst hsz
  obtain ⟨hx, hb, hml, hown, hts, hr, hlk, hK, hAm, hP, hl⟩ := hB
  have S : CallFix p m c cJ0_checkIndex_df160 2 s args (xws yJ0_checkIndex_df160 cJ0_checkIndex_df160 2 none) RJ0 := ⟨hx, hb, hml, hown, hts⟩
  have hown : s.vm.findClass RJ0 = some m.cls := hown
  have hl : lv_has ls 2 [(0, .int i), (1, .int len)] := hl
  have hS : va_S (xA g L s.heap.size) s.heap s.heap [] := va_S.rf
  have hE := xvk hAm hD
  refine lv_iload_n hx hb dJ0_checkIndex_df160_0 rfl (lv_at hl 0 rfl) ?_
  refine lv_iload_n hx hb dJ0_checkIndex_df160_1 rfl (lv_at hl 1 rfl) ?_
  rcases hAm.2.2.2.2.2.2.2.2.2.2.2 with hz | ⟨t, hz⟩
  · refine va_gets hx hb (hz.narrow (xA_lo hD hAm.1)) hS hown (hts _ (List.mem_cons_of_mem _ wd_488)) (fun _ h => h) dJ0_checkIndex_df160_2 ?_
    refine x_callSi (As := [.int i, .int len, .null]) S hK hAm hD hP hS mt_J3_checkIndex_8e157 wd_489 ⟨by decide, by decide⟩ (c_J3_checkIndex_8e157_n l nb nn g L M hD hL i len h1 h2) rfl hl.1 (Nat.le_of_ble_eq_true rfl) ⟨Nat.zero_le _, Nat.zero_le _⟩ dJ0_checkIndex_df160_5 rfl (fun r u H locs hp_ hP hS => ?_)
    obtain ⟨er, eu_⟩ := hp_
    rw [eu_] at hP
    refine lv_pop hx hb dJ0_checkIndex_df160_8 rfl ?_
    exact x_retv hx hb hr hlk hP hS rfl dJ0_checkIndex_df160_9
  · refine va_gets hx hb (hz.narrow (xA_lo hD hAm.1)) hS hown (hts _ (List.mem_cons_of_mem _ wd_488)) (fun _ h => h) dJ0_checkIndex_df160_2 ?_
    refine x_callSi (As := [.int i, .int len, .ref t]) S hK hAm hD hP hS mt_J3_checkIndex_8e157 wd_489 ⟨by decide, by decide⟩ (c_J3_checkIndex_8e157_r l nb nn g L M hD hL t i len h1 h2) rfl hl.1 (Nat.le_of_ble_eq_true rfl) ⟨Nat.zero_le _, Nat.zero_le _⟩ dJ0_checkIndex_df160_5 rfl (fun r u H locs hp_ hP hS => ?_)
    obtain ⟨er, eu_⟩ := hp_
    rw [eu_] at hP
    refine lv_pop hx hb dJ0_checkIndex_df160_8 rfl ?_
    exact x_retv hx hb hr hlk hP hS rfl dJ0_checkIndex_df160_9
set_option maxHeartbeats 4000000 in
set_option maxRecDepth 100000 in
theorem c_J1_charAt_3b067 (l : Launch) (nb nn : Nat) (g : xG) (L : List (Nat × Nat)) (M : xM) (hD : xD g L) (hL : xEL nb nn L) (k : Nat) (hk : k < 4) (i : Int32) (h1 : 0 ≤ i) (h2 : i < slI k) : xCi l yJ1_charAt_3b067 cJ1_charAt_3b067 2 (some .char) 2 g L M [.ref (xst g (20 + k)), .int i] (fun r u => r = sby k i.toNatClampNeg ∧ u = M) := by
  intro sz
  refine x_beg (by decide +kernel) rfl ?_
  intro p e s m args below meth c ls hsz hB
  subst hsz
  obtain ⟨hx, hb, hml, hown, hts, hr, hlk, hK, hAm, hP, hl⟩ := hB
  have S : CallFix p m c cJ1_charAt_3b067 2 s args (xws yJ1_charAt_3b067 cJ1_charAt_3b067 2 (some .char)) RJ1 := ⟨hx, hb, hml, hown, hts⟩
  have hown : s.vm.findClass RJ1 = some m.cls := hown
  have hl : lv_has ls 2 [(0, .ref (xst g (20 + k))), (1, .int i)] := hl
  have hS : va_S (xA g L s.heap.size) s.heap s.heap [] := va_S.rf
  have hE := xvk hAm hD
  refine lv_iload_n hx hb dJ1_charAt_3b067_0 rfl (lv_at hl 1 rfl) ?_
  refine lv_aload_n hx hb dJ1_charAt_3b067_1 rfl (lv_at hl 0 rfl) ?_
  refine va_tlen hx hb (hE.1 k hk).2.2.2 hS rfl dJ1_charAt_3b067_2 ?_
  refine x_callSv (As := [.int i, .int (slI k)]) S hK hAm hD hP hS mt_J0_checkIndex_df160 wd_485 ⟨by decide, by decide⟩ (c_J0_checkIndex_df160 l nb nn g L M hD hL i (slI k) h1 h2) rfl hl.1 (Nat.le_of_ble_eq_true rfl) ⟨Nat.zero_le _, Nat.zero_le _⟩ dJ1_charAt_3b067_3 rfl (fun u H locs eu_ hP hS => ?_)
  rw [eu_] at hP
  refine lv_aload_n hx hb dJ1_charAt_3b067_6 rfl (lv_at hl 0 rfl) ?_
  refine lv_iload_n hx hb dJ1_charAt_3b067_7 rfl (lv_at hl 1 rfl) ?_
  have hin : vp_in i (slen k) := by
    rw [vp_in_iff]
    have q1 := Int32.le_iff_toInt_le.mp h1
    have q2 := Int32.lt_iff_toInt_lt.mp h2
    have q3 : (slI k).toInt = (slen k : Int) := nI_toInt (n := slen k) (by rcases (show k = 0 ∨ k = 1 ∨ k = 2 ∨ k = 3 by omega) with rfl | rfl | rfl | rfl <;> decide)
    rw [q3] at q2
    exact ⟨by simpa using q1, q2⟩
  refine va_tb hx hb (hE.1 k hk).2.2.2 hS hin rfl dJ1_charAt_3b067_8 ?_
  refine lv_sipush (v := 255) hx hb dJ1_charAt_3b067_9 (by decide) ?_
  refine lv_iand hx hb dJ1_charAt_3b067_12 ?_
  have hlt : i.toNatClampNeg < slen k := Nat.not_le.mp fun q => hin (Or.inr q)
  have hsb : ((sby k i.toNatClampNeg &&& 255).toUInt32 % 65536).toInt32 = sby k i.toNatClampNeg ∧ narrow .char (.int (sby k i.toNatClampNeg)) = .int (sby k i.toNatClampNeg) := by
    generalize i.toNatClampNeg = j at hlt
    rcases (show k = 0 ∨ k = 1 ∨ k = 2 ∨ k = 3 by omega) with rfl | rfl | rfl | rfl
    · rcases (show j = 0 ∨ j = 1 ∨ j = 2 ∨ j = 3 by simp [slen] at hlt; omega) with rfl | rfl | rfl | rfl <;> exact ⟨by decide, rfl⟩
    · rcases (show j = 0 ∨ j = 1 ∨ j = 2 by simp [slen] at hlt; omega) with rfl | rfl | rfl <;> exact ⟨by decide, rfl⟩
    · rcases (show j = 0 ∨ j = 1 ∨ j = 2 ∨ j = 3 ∨ j = 4 by simp [slen] at hlt; omega) with rfl | rfl | rfl | rfl | rfl <;> exact ⟨by decide, rfl⟩
    · rcases (show j = 0 ∨ j = 1 ∨ j = 2 ∨ j = 3 ∨ j = 4 ∨ j = 5 ∨ j = 6 by simp [slen] at hlt; omega) with rfl | rfl | rfl | rfl | rfl | rfl | rfl <;> exact ⟨by decide, rfl⟩
  refine lv_i2c (v := sby k i.toNatClampNeg) hx hb dJ1_charAt_3b067_13 hsb.1 ?_
  exact x_rety hx hb hr hlk hP hS hsb.2 ⟨rfl, rfl⟩ dJ1_charAt_3b067_14
set_option maxHeartbeats 4000000 in
set_option maxRecDepth 100000 in
theorem c_J0_charAt_5068e (l : Launch) (nb nn : Nat) (g : xG) (L : List (Nat × Nat)) (M : xM) (hD : xD g L) (hL : xEL nb nn L) (k : Nat) (hk : k < 4) (i : Int32) (h1 : 0 ≤ i) (h2 : i < slI k) : xCi l yJ0_charAt_5068e cJ0_charAt_5068e 2 (some .char) 3 g L M [.ref (xst g (10 + k)), .int i] (fun r u => r = sby k i.toNatClampNeg ∧ u = M) := by
  intro sz
  refine x_beg (by decide +kernel) rfl ?_
  intro p e s m args below meth c ls hsz hB
  subst hsz
  obtain ⟨hx, hb, hml, hown, hts, hr, hlk, hK, hAm, hP, hl⟩ := hB
  have S : CallFix p m c cJ0_charAt_5068e 2 s args (xws yJ0_charAt_5068e cJ0_charAt_5068e 2 (some .char)) RJ0 := ⟨hx, hb, hml, hown, hts⟩
  have hown : s.vm.findClass RJ0 = some m.cls := hown
  have hl : lv_has ls 2 [(0, .ref (xst g (10 + k))), (1, .int i)] := hl
  have hS : va_S (xA g L s.heap.size) s.heap s.heap [] := va_S.rf
  have hE := xvk hAm hD
  have hsb : narrow .char (.int (sby k i.toNatClampNeg)) = .int (sby k i.toNatClampNeg) := by
    have q2 := Int32.lt_iff_toInt_lt.mp h2
    have q3 : (slI k).toInt = (slen k : Int) := nI_toInt (n := slen k) (by rcases (show k = 0 ∨ k = 1 ∨ k = 2 ∨ k = 3 by omega) with rfl | rfl | rfl | rfl <;> decide)
    have q1 := Int32.le_iff_toInt_le.mp h1
    simp at q1
    rw [q3] at q2
    have hlt : i.toNatClampNeg < slen k := by show i.toInt.toNat < slen k; omega
    generalize i.toNatClampNeg = j at hlt
    rcases (show k = 0 ∨ k = 1 ∨ k = 2 ∨ k = 3 by omega) with rfl | rfl | rfl | rfl
    · rcases (show j = 0 ∨ j = 1 ∨ j = 2 ∨ j = 3 by simp [slen] at hlt; omega) with rfl | rfl | rfl | rfl <;> rfl
    · rcases (show j = 0 ∨ j = 1 ∨ j = 2 by simp [slen] at hlt; omega) with rfl | rfl | rfl <;> rfl
    · rcases (show j = 0 ∨ j = 1 ∨ j = 2 ∨ j = 3 ∨ j = 4 by simp [slen] at hlt; omega) with rfl | rfl | rfl | rfl | rfl <;> rfl
    · rcases (show j = 0 ∨ j = 1 ∨ j = 2 ∨ j = 3 ∨ j = 4 ∨ j = 5 ∨ j = 6 by simp [slen] at hlt; omega) with rfl | rfl | rfl | rfl | rfl | rfl | rfl <;> rfl
  refine lv_aload_n hx hb dJ0_charAt_5068e_0 rfl (lv_at hl 0 rfl) ?_
  refine x_callVs (As := []) S hK hAm hD hP hS mt_J0_isLatin1_aae02 wd_477 ⟨by decide, by decide⟩ hk (c_J0_isLatin1_aae02 l nb nn g L M hD hL k hk) rfl hl.1 (Nat.le_of_ble_eq_true rfl) ⟨Nat.zero_le _, Nat.zero_le _⟩ dJ0_charAt_5068e_1 rfl (fun r u H locs hp_ hP hS => ?_)
  obtain ⟨er, eu_⟩ := hp_
  rw [eu_] at hP
  subst er
  refine lv_if_eq (tgt := 16) hx hb dJ0_charAt_5068e_4 (by decide) (fun c_1 => absurd c_1 (by decide)) (fun c_1 => ?_)
  refine lv_aload_n hx hb dJ0_charAt_5068e_7 rfl (lv_at hl 0 rfl) ?_
  refine vk_getf hx hb (hE.1 k hk).2.2.1 hS hown (hts _ (List.mem_cons_of_mem _ wd_466)) (fun _ h => h) dJ0_charAt_5068e_8 ?_
  refine lv_iload_n hx hb dJ0_charAt_5068e_11 rfl (lv_at hl 1 rfl) ?_
  refine x_callSi (As := [.ref (xst g (20 + k)), .int i]) S hK hAm hD hP hS mt_J1_charAt_3b067 wd_481 ⟨by decide, by decide⟩ (c_J1_charAt_3b067 l nb nn g L M hD hL k hk i h1 h2) rfl hl.1 (Nat.le_of_ble_eq_true rfl) ⟨Nat.zero_le _, Nat.zero_le _⟩ dJ0_charAt_5068e_12 rfl (fun r u H locs hp_ hP hS => ?_)
  obtain ⟨er, eu_⟩ := hp_
  rw [eu_] at hP
  subst er
  exact x_rety hx hb hr hlk hP hS hsb ⟨rfl, rfl⟩ dJ0_charAt_5068e_15
theorem slI_b {k : Nat} (h : k < 4) : 3 ≤ slI k ∧ slI k ≤ 7 := by
  rcases (show k = 0 ∨ k = 1 ∨ k = 2 ∨ k = 3 by omega) with rfl | rfl | rfl | rfl <;> decide
