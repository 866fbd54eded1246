/-! CONTRACTS over the world, and the calls -/
abbrev xws (y : MethodName) (b : ByteArray) (n : Nat) (r : Option FieldType) : List Cond := Cond.code y b n r :: wsL_law
abbrev xr (d : Nat) : Room := { frames := d, cells := 0, slots := 0, locals := 64 * d }
theorem wsL_good : wsL_law.all goodWord = true := by decide +kernel
theorem xgood {w : Cond} (h : w ∈ wsL_law) : (w.onTables && w.keeps) = true ∨ ∃ ty, w = .arrayClass ty := good_of_word (List.all_eq_true.mp wsL_good w h)
def xMV (C : String) (y : MethodName) (b : ByteArray) (maxL : Nat) (ret : Option FieldType) (n : Nat) : Prop := Cond.instanceMethod y ∈ wsL_law ∧ Cond.selects C y y ∈ wsL_law ∧ Cond.initialized C ∈ wsL_law ∧ Cond.code y b maxL ret ∈ wsL_law ∧ (y.cls = C ∧ y.cls ≠ "java/lang/invoke/MethodHandle" ∧ y.cls ≠ "java/lang/invoke/VarHandle" ∧ (parseMethodDescriptor y.desc).map (fun d => d.parameters.length) = some n)
def xMS (y : MethodName) (b : ByteArray) (maxL : Nat) (ret : Option FieldType) (n : Nat) : Prop := Cond.static y ∈ wsL_law ∧ Cond.initialized y.cls ∈ wsL_law ∧ Cond.code y b maxL ret ∈ wsL_law ∧ (y.cls ≠ "java/lang/invoke/MethodHandle" ∧ y.cls ≠ "java/lang/invoke/VarHandle" ∧ (parseMethodDescriptor y.desc).map (fun d => d.parameters.length) = some n)
abbrev xPre (g : xG) (L : List (Nat × Nat)) (M : xM) (sz : Nat) (av : List Value) : Array Value → State → Prop := va_Pc av (fun U => U.heap.size = sz ∧ xP g L M U.heap ∧ xK g U ∧ xAm g U U.heap)
abbrev xPost (g : xG) (L : List (Nat × Nat)) : xM → State → Prop := fun u t => xP g L u t.heap
def xCi (l : Launch) (y : MethodName) (b : ByteArray) (maxL : Nat) (ret : Option FieldType) (d : Nat) (g : xG) (L : List (Nat × Nat)) (M : xM) (av : List Value) (post : Int32 → xM → Prop) : Prop := ∀ sz : Nat, Met l y (xws y b maxL ret) (xr d) (xPre g L M sz av) (va_Qi post (xPost g L) (xA g L sz)) 0 0 (xA g L sz)
def xCl (l : Launch) (y : MethodName) (b : ByteArray) (maxL : Nat) (ret : Option FieldType) (d : Nat) (g : xG) (L : List (Nat × Nat)) (M : xM) (av : List Value) (post : Int64 → xM → Prop) : Prop := ∀ sz : Nat, Met l y (xws y b maxL ret) (xr d) (xPre g L M sz av) (va_Ql post (xPost g L) (xA g L sz)) 0 0 (xA g L sz)
def xCv (l : Launch) (y : MethodName) (b : ByteArray) (maxL : Nat) (d : Nat) (g : xG) (L : List (Nat × Nat)) (M : xM) (av : List Value) (post : xM → Prop) : Prop := ∀ sz : Nat, Met l y (xws y b maxL none) (xr d) (xPre g L M sz av) (va_Qv post (xPost g L) (xA g L sz)) 0 0 (xA g L sz)
def xCq (l : Launch) (y : MethodName) (b : ByteArray) (maxL : Nat) (ret : Option FieldType) (d : Nat) (g : xG) (L : List (Nat × Nat)) (M : xM) (av : List Value) (post : Option Nat → xM → Prop) : Prop := ∀ sz : Nat, Met l y (xws y b maxL ret) (xr d) (xPre g L M sz av) (va_Qq post (xPost g L) (xA g L sz)) 0 0 (xA g L sz)
theorem xA_mono {g : xG} {L : List (Nat × Nat)} {a b q : Nat} (h : a ≤ b) (hq : xA g L b q) : xA g L a q := hq.elim Or.inl (fun z => Or.inr (Nat.le_trans h z))
theorem xblind (g : xG) (L : List (Nat × Nat)) (M : xM) (sz : Nat) (av : List Value) : FrameBlind (xPre g L M sz av) := fun a U g2 mk q => by
  obtain ⟨q0, q1, qP, qK, qA⟩ := q
  exact ⟨q0, q1, qP, va_K.moved (u := U) (U := U.calling g2 mk a) (Vm.Alike.refl U.vm) qK, xAm.same (U := U.calling g2 mk a) rfl qA⟩
section XC
variable {p : Program} {l : Launch} {e : Env} {R : Room} {s : State} {m : MethodId} {args : Array Value} {below : List Frame} {meth : Method} {c : Code} {H : Heap} {locs : List Loc} {cells slots : Nat} {Q : State → Prop}
variable {cc : ByteArray} {pc nL : Nat} {ls : Array Slot} {rest : List Value} {g : xG} {L : List (Nat × Nat)} {M : xM} {own : String} {c0 : Cond}
variable {C : String} {y : MethodName} {b : ByteArray} {maxL n d index : Nat} {ret : Option FieldType} {As : List Value}
theorem x_cwV (ht : ∀ w ∈ c0 :: wsL_law, w.before args s = true) (h : xMV C y b maxL ret n) (hl : Cond.methodLink own index y ∈ wsL_law) (hR : d + 1 ≤ R.frames ∧ 8 + (maxL + 11) + 64 * d ≤ R.locals) : CallW R s args own C index y b maxL ret (xws y b maxL ret) (xr d) 0 0 n := by
  obtain ⟨h1, h2, h3, h4, h5⟩ := h
  refine cwV n ht (fun w hw => ?_) rfl rfl rfl h5 hR
  have hm : w ∈ wsL_law := by
    unfold wsV at hw
    rcases List.mem_append.mp hw with q | q
    · simp only [List.mem_cons, List.not_mem_nil, or_false] at q
      rcases q with q | q | q | q <;> (subst q; assumption)
    · rcases List.mem_cons.mp q with q | q
      · subst q; exact h4
      · exact q
  exact ⟨List.mem_cons_of_mem _ hm, xgood hm⟩
theorem x_cwS (ht : ∀ w ∈ c0 :: wsL_law, w.before args s = true) (h : xMS y b maxL ret n) (hl : Cond.methodLink own index y ∈ wsL_law) (hR : d + 1 ≤ R.frames ∧ 8 + (maxL + 11) + 64 * d ≤ R.locals) : CallB R s args own index y b maxL ret (xws y b maxL ret) (xr d) 0 0 n ∧ (Cond.static y).before args s = true := by
  obtain ⟨h1, h2, h3, h5⟩ := h
  refine va_cwS n ht (fun w hw => ?_) rfl rfl rfl h5 hR
  have hm : w ∈ wsL_law := by
    unfold va_wsS at hw
    rcases List.mem_append.mp hw with q | q
    · simp only [List.mem_cons, List.not_mem_nil, or_false] at q
      rcases q with q | q | q <;> (subst q; assumption)
    · rcases List.mem_cons.mp q with q | q
      · subst q; exact h3
      · exact q
  exact ⟨List.mem_cons_of_mem _ hm, xgood hm⟩
theorem x_amb (hAm : xAm g s s.heap) (hD : xD g L) (hS : va_S (xA g L s.heap.size) s.heap H locs) : xAm g s H := hAm.kept hS.1 (fun a h1 h2 => hS.2.1 a h1 (fun z => h2 (xA_lo hD hAm.1 _ z)))
theorem x_preS (hK : xK g s) (hAm : xAm g s s.heap) (hD : xD g L) (hP : xP g L M H) (hS : va_S (xA g L s.heap.size) s.heap H locs) {av : List Value} : PreS s H (xPre g L M H.size av) av := by
  refine ⟨xblind g L M H.size av, fun U hU hW => ⟨rfl, by rw [hU], by rw [hU]; exact hP, va_K.moved hW.alike hK, ?_⟩⟩
  rw [hU]
  exact (x_amb hAm hD hS).warm hW
theorem x_recv (hK : xK g s) (hP : xP g L M H) {κ i ci N : Nat} {T : u_T} {fs : (Nat → Int32) → List Value} (he : (κ, i) ∈ L) (hc : ∀ r, xc g κ i r = .inr (ci, fs r)) (hcl : vwCl[ci]? = some (C, T, N)) : ∃ cell : Cell, H[xad g κ i]? = some cell ∧ cell.vm.isStatics = false ∧ s.vm.findClass C = some cell.cls := by
  obtain ⟨q0, -, hq⟩ := xw_at (g := g) (M := M) he
  rw [hc] at hq
  exact va_recv hK hP hcl hq
theorem x_callVi (S : CallFix p m c cc nL s args (c0 :: wsL_law) own) (hK : xK g s) (hAm : xAm g s s.heap) (hD : xD g L) (hP : xP g L M H) (hS : va_S (xA g L s.heap.size) s.heap H locs) (hv : xMV C y b maxL ret n) (hl : Cond.methodLink own index y ∈ wsL_law) (hR : d + 1 ≤ R.frames ∧ 8 + (maxL + 11) + 64 * d ≤ R.locals) {κ i ci N : Nat} {T : u_T} {fs : (Nat → Int32) → List Value} (he : (κ, i) ∈ L) (hc : ∀ r, xc g κ i r = .inr (ci, fs r)) (hcl : vwCl[ci]? = some (C, T, N)) {post : Int32 → xM → Prop} (hM : xCi l y b maxL ret d g L M (.ref (xad g κ i) :: As) post) (hn : As.length = n) (hsz : ls.size = nL) (hw : (rest.map fun v => v.category).sum ≤ 8) (hcs : cells ≤ R.cells ∧ slots ≤ R.slots) (hdg : decode cc pc = .ok (.invokevirtual index, 3)) {st0 : List Value} (hst : st0 = As.reverse ++ .ref (xad g κ i) :: rest)
    (kk : ∀ (r : Int32) (u : xM) (H1 : Heap) (locs1 : List Loc), post r u → xP g L u H1 → va_S (xA g L s.heap.size) s.heap H1 locs1 → W p l e R s m args below meth c H1 locs1 cells slots Q (F0 m (pc + 3) ls (.int r :: rest))) : W p l e R s m args below meth c H locs cells slots Q (F0 m pc ls st0) := by
  subst hst
  have hpre := x_preS hK hAm hD hP hS (av := .ref (xad g κ i) :: As)
  exact va_calli (va_runV S (hM H.size) (x_cwV S.2.2.2.2 hv hl hR) ⟨hpre.1, x_recv hK hP he hc hcl, hpre.2⟩ rfl hn hsz rfl (lv_room hw) hdg hcs) hS (fun q _ h => xA_mono hS.1 h) (fun q h => xA_mono hS.1 h) (fun r u t H1 locs1 ht _ hp hB _ _ hS1 => kk r u H1 locs1 hp (by rw [← ht]; exact hB) hS1)
theorem x_callVl (S : CallFix p m c cc nL s args (c0 :: wsL_law) own) (hK : xK g s) (hAm : xAm g s s.heap) (hD : xD g L) (hP : xP g L M H) (hS : va_S (xA g L s.heap.size) s.heap H locs) (hv : xMV C y b maxL ret n) (hl : Cond.methodLink own index y ∈ wsL_law) (hR : d + 1 ≤ R.frames ∧ 8 + (maxL + 11) + 64 * d ≤ R.locals) {κ i ci N : Nat} {T : u_T} {fs : (Nat → Int32) → List Value} (he : (κ, i) ∈ L) (hc : ∀ r, xc g κ i r = .inr (ci, fs r)) (hcl : vwCl[ci]? = some (C, T, N)) {post : Int64 → xM → Prop} (hM : xCl l y b maxL ret d g L M (.ref (xad g κ i) :: As) post) (hn : As.length = n) (hsz : ls.size = nL) (hw : (rest.map fun v => v.category).sum ≤ 8) (hcs : cells ≤ R.cells ∧ slots ≤ R.slots) (hdg : decode cc pc = .ok (.invokevirtual index, 3)) {st0 : List Value} (hst : st0 = As.reverse ++ .ref (xad g κ i) :: rest)
    (kk : ∀ (r : Int64) (u : xM) (H1 : Heap) (locs1 : List Loc), post r u → xP g L u H1 → va_S (xA g L s.heap.size) s.heap H1 locs1 → W p l e R s m args below meth c H1 locs1 cells slots Q (F0 m (pc + 3) ls (.long r :: rest))) : W p l e R s m args below meth c H locs cells slots Q (F0 m pc ls st0) := by
  subst hst
  have hpre := x_preS hK hAm hD hP hS (av := .ref (xad g κ i) :: As)
  exact va_calll (va_runV S (hM H.size) (x_cwV S.2.2.2.2 hv hl hR) ⟨hpre.1, x_recv hK hP he hc hcl, hpre.2⟩ rfl hn hsz rfl (lv_room hw) hdg hcs) hS (fun q _ h => xA_mono hS.1 h) (fun q h => xA_mono hS.1 h) (fun r u t H1 locs1 ht _ hp hB _ _ hS1 => kk r u H1 locs1 hp (by rw [← ht]; exact hB) hS1)
theorem x_callVv (S : CallFix p m c cc nL s args (c0 :: wsL_law) own) (hK : xK g s) (hAm : xAm g s s.heap) (hD : xD g L) (hP : xP g L M H) (hS : va_S (xA g L s.heap.size) s.heap H locs) (hv : xMV C y b maxL none n) (hl : Cond.methodLink own index y ∈ wsL_law) (hR : d + 1 ≤ R.frames ∧ 8 + (maxL + 11) + 64 * d ≤ R.locals) {κ i ci N : Nat} {T : u_T} {fs : (Nat → Int32) → List Value} (he : (κ, i) ∈ L) (hc : ∀ r, xc g κ i r = .inr (ci, fs r)) (hcl : vwCl[ci]? = some (C, T, N)) {post : xM → Prop} (hM : xCv l y b maxL d g L M (.ref (xad g κ i) :: As) post) (hn : As.length = n) (hsz : ls.size = nL) (hw : (rest.map fun v => v.category).sum ≤ 8) (hcs : cells ≤ R.cells ∧ slots ≤ R.slots) (hdg : decode cc pc = .ok (.invokevirtual index, 3)) {st0 : List Value} (hst : st0 = As.reverse ++ .ref (xad g κ i) :: rest)
    (kk : ∀ (u : xM) (H1 : Heap) (locs1 : List Loc), post u → xP g L u H1 → va_S (xA g L s.heap.size) s.heap H1 locs1 → W p l e R s m args below meth c H1 locs1 cells slots Q (F0 m (pc + 3) ls rest)) : W p l e R s m args below meth c H locs cells slots Q (F0 m pc ls st0) := by
  subst hst
  have hpre := x_preS hK hAm hD hP hS (av := .ref (xad g κ i) :: As)
  exact va_callv (va_runV S (hM H.size) (x_cwV S.2.2.2.2 hv hl hR) ⟨hpre.1, x_recv hK hP he hc hcl, hpre.2⟩ rfl hn hsz rfl (lv_room hw) hdg hcs) hS (fun q _ h => xA_mono hS.1 h) (fun q h => xA_mono hS.1 h) (fun u t H1 locs1 ht _ hp hB _ _ hS1 => kk u H1 locs1 hp (by rw [← ht]; exact hB) hS1)
theorem x_callVq (S : CallFix p m c cc nL s args (c0 :: wsL_law) own) (hK : xK g s) (hAm : xAm g s s.heap) (hD : xD g L) (hP : xP g L M H) (hS : va_S (xA g L s.heap.size) s.heap H locs) (hv : xMV C y b maxL ret n) (hl : Cond.methodLink own index y ∈ wsL_law) (hR : d + 1 ≤ R.frames ∧ 8 + (maxL + 11) + 64 * d ≤ R.locals) {κ i ci N : Nat} {T : u_T} {fs : (Nat → Int32) → List Value} (he : (κ, i) ∈ L) (hc : ∀ r, xc g κ i r = .inr (ci, fs r)) (hcl : vwCl[ci]? = some (C, T, N)) {post : Option Nat → xM → Prop} (hM : xCq l y b maxL ret d g L M (.ref (xad g κ i) :: As) post) (hn : As.length = n) (hsz : ls.size = nL) (hw : (rest.map fun v => v.category).sum ≤ 8) (hcs : cells ≤ R.cells ∧ slots ≤ R.slots) (hdg : decode cc pc = .ok (.invokevirtual index, 3)) {st0 : List Value} (hst : st0 = As.reverse ++ .ref (xad g κ i) :: rest)
    (kk : ∀ (r : Option Nat) (u : xM) (H1 : Heap) (locs1 : List Loc), post r u → xP g L u H1 → va_S (xA g L s.heap.size) s.heap H1 locs1 → W p l e R s m args below meth c H1 locs1 cells slots Q (F0 m (pc + 3) ls (va_rf r :: rest))) : W p l e R s m args below meth c H locs cells slots Q (F0 m pc ls st0) := by
  subst hst
  have hpre := x_preS hK hAm hD hP hS (av := .ref (xad g κ i) :: As)
  exact va_callq (va_runV S (hM H.size) (x_cwV S.2.2.2.2 hv hl hR) ⟨hpre.1, x_recv hK hP he hc hcl, hpre.2⟩ rfl hn hsz rfl (lv_room hw) hdg hcs) hS (fun q _ h => xA_mono hS.1 h) (fun q h => xA_mono hS.1 h) (fun r u t H1 locs1 ht _ hp hB _ _ hS1 => kk r u H1 locs1 hp (by rw [← ht]; exact hB) hS1)
theorem x_callSi (S : CallFix p m c cc nL s args (c0 :: wsL_law) own) (hK : xK g s) (hAm : xAm g s s.heap) (hD : xD g L) (hP : xP g L M H) (hS : va_S (xA g L s.heap.size) s.heap H locs) (hv : xMS y b maxL ret n) (hl : Cond.methodLink own index y ∈ wsL_law) (hR : d + 1 ≤ R.frames ∧ 8 + (maxL + 11) + 64 * d ≤ R.locals) {post : Int32 → xM → Prop} (hM : xCi l y b maxL ret d g L M As post) (hn : As.length = n) (hsz : ls.size = nL) (hw : (rest.map fun v => v.category).sum ≤ 8) (hcs : cells ≤ R.cells ∧ slots ≤ R.slots) (hdg : decode cc pc = .ok (.invokestatic index, 3)) {st0 : List Value} (hst : st0 = As.reverse ++ rest)
    (kk : ∀ (r : Int32) (u : xM) (H1 : Heap) (locs1 : List Loc), post r u → xP g L u H1 → va_S (xA g L s.heap.size) s.heap H1 locs1 → W p l e R s m args below meth c H1 locs1 cells slots Q (F0 m (pc + 3) ls (.int r :: rest))) : W p l e R s m args below meth c H locs cells slots Q (F0 m pc ls st0) := by
  subst hst
  exact va_calli (va_runS S (hM H.size) (x_cwS S.2.2.2.2 hv hl hR) (x_preS hK hAm hD hP hS (av := As)) rfl hn hsz rfl (lv_room hw) hdg hcs) hS (fun q _ h => xA_mono hS.1 h) (fun q h => xA_mono hS.1 h) (fun r u t H1 locs1 ht _ hp hB _ _ hS1 => kk r u H1 locs1 hp (by rw [← ht]; exact hB) hS1)
theorem x_math (hx : p.tables.exec = Jvm.exec) (hb : c.code = cc) (hml : c.maxLocals = nL) (hsz : ls.size = nL) (hts : ∀ w ∈ c0 :: wsL_law, w.before args s = true) (hown : s.vm.findClass own = some m.cls) (hl : Cond.methodLink own index Lib.Math.min.name ∈ wsL_law) (h1 : Cond.static Lib.Math.min.name ∈ wsL_law) (h2 : Cond.initialized "java/lang/Math" ∈ wsL_law) (h3 : Cond.code Lib.Math.min.name Lib.Math.min.code 2 (some .int) ∈ wsL_law) (hframes : 1 ≤ R.frames) (hlocals : (rest.map fun v => v.category).sum + 13 ≤ R.locals) (hcs : cells ≤ R.cells ∧ slots ≤ R.slots) {x z : Int32} (hdg : decode cc pc = .ok (.invokestatic index, 3))
    (kk : W p l e R s m args below meth c H locs cells slots Q (F0 m (pc + 3) ls (.int (if z < x then z else x) :: rest))) : W p l e R s m args below meth c H locs cells slots Q (F0 m pc ls (.int z :: .int x :: rest)) :=
  va_mmin hx hb (hml.trans hsz.symm) hown (hts _ (List.mem_cons_of_mem _ hl)) (hts _ (List.mem_cons_of_mem _ h1)) (hts _ (List.mem_cons_of_mem _ h2)) (hts _ (List.mem_cons_of_mem _ h3)) hframes hlocals hcs.1 hcs.2 hdg kk
theorem x_matx (hx : p.tables.exec = Jvm.exec) (hb : c.code = cc) (hml : c.maxLocals = nL) (hsz : ls.size = nL) (hts : ∀ w ∈ c0 :: wsL_law, w.before args s = true) (hown : s.vm.findClass own = some m.cls) (hl : Cond.methodLink own index Lib.Math.max.name ∈ wsL_law) (h1 : Cond.static Lib.Math.max.name ∈ wsL_law) (h2 : Cond.initialized "java/lang/Math" ∈ wsL_law) (h3 : Cond.code Lib.Math.max.name Lib.Math.max.code 2 (some .int) ∈ wsL_law) (hframes : 1 ≤ R.frames) (hlocals : (rest.map fun v => v.category).sum + 13 ≤ R.locals) (hcs : cells ≤ R.cells ∧ slots ≤ R.slots) {x z : Int32} (hdg : decode cc pc = .ok (.invokestatic index, 3))
    (kk : W p l e R s m args below meth c H locs cells slots Q (F0 m (pc + 3) ls (.int (if x < z then z else x) :: rest))) : W p l e R s m args below meth c H locs cells slots Q (F0 m pc ls (.int z :: .int x :: rest)) :=
  va_mmax hx hb (hml.trans hsz.symm) hown (hts _ (List.mem_cons_of_mem _ hl)) (hts _ (List.mem_cons_of_mem _ h1)) (hts _ (List.mem_cons_of_mem _ h2)) (hts _ (List.mem_cons_of_mem _ h3)) hframes hlocals hcs.1 hcs.2 hdg kk
theorem x_gets0 (hx : p.tables.exec = Jvm.exec) (hb : c.code = cc) (hts : ∀ w ∈ c0 :: wsL_law, w.before args s = true) (hown : s.vm.findClass own = some m.cls) (hAm : xAm g s s.heap) (hD : xD g L) (hS : va_S (xA g L s.heap.size) s.heap H locs) (hl : Cond.fieldLink own index "NoteCounter" "SIZE_BODIES" "[I" ∈ wsL_law) (hdg : decode cc pc = .ok (.getstatic index, 3))
    (kk : W p l e R s m args below meth c H locs cells slots Q (F0 m (pc + 3) ls (.ref (xst g 0) :: rest))) : W p l e R s m args below meth c H locs cells slots Q (F0 m pc ls rest) :=
  va_gets hx hb (hAm.2.1.narrow (xA_lo hD hAm.1)) hS hown (hts _ (List.mem_cons_of_mem _ hl)) (fun _ h => h) hdg kk
theorem x_gets1 (hx : p.tables.exec = Jvm.exec) (hb : c.code = cc) (hts : ∀ w ∈ c0 :: wsL_law, w.before args s = true) (hown : s.vm.findClass own = some m.cls) (hAm : xAm g s s.heap) (hD : xD g L) (hS : va_S (xA g L s.heap.size) s.heap H locs) (hl : Cond.fieldLink own index "NoteCounter" "MARK_BODIES" "[I" ∈ wsL_law) (hdg : decode cc pc = .ok (.getstatic index, 3))
    (kk : W p l e R s m args below meth c H locs cells slots Q (F0 m (pc + 3) ls (.ref (xst g 1) :: rest))) : W p l e R s m args below meth c H locs cells slots Q (F0 m pc ls rest) :=
  va_gets hx hb (hAm.2.2.2.1.narrow (xA_lo hD hAm.1)) hS hown (hts _ (List.mem_cons_of_mem _ hl)) (fun _ h => h) hdg kk
theorem x_tab0 (hx : p.tables.exec = Jvm.exec) (hb : c.code = cc) (hAm : xAm g s s.heap) (hD : xD g L) (hS : va_S (xA g L s.heap.size) s.heap H locs) {j : Int32} (hin : vp_in j 6) (hdg : decode cc pc = .ok (.iaload, 1))
    (kk : W p l e R s m args below meth c H locs cells slots Q (F0 m (pc + 1) ls (.int (([10, 11, 12, 13, 14, 10] : List Int32).getD j.toNatClampNeg 0) :: rest))) : W p l e R s m args below meth c H locs cells slots Q (F0 m pc ls (.int j :: .ref (xst g 0) :: rest)) :=
  va_ti hx hb (hAm.2.2.1.narrow (xA_lo hD hAm.1)) hS hin rfl hdg kk
theorem x_tab1 (hx : p.tables.exec = Jvm.exec) (hb : c.code = cc) (hAm : xAm g s s.heap) (hD : xD g L) (hS : va_S (xA g L s.heap.size) s.heap H locs) {j : Int32} (hin : vp_in j 6) (hdg : decode cc pc = .ok (.iaload, 1))
    (kk : W p l e R s m args below meth c H locs cells slots Q (F0 m (pc + 1) ls (.int (([20, 20, 21, 22, 20, 23] : List Int32).getD j.toNatClampNeg 0) :: rest))) : W p l e R s m args below meth c H locs cells slots Q (F0 m pc ls (.int j :: .ref (xst g 1) :: rest)) :=
  va_ti hx hb (hAm.2.2.2.2.1.narrow (xA_lo hD hAm.1)) hS hin rfl hdg kk
theorem x_copy (hx : p.tables.exec = Jvm.exec) (hb : c.code = cc) (hml : c.maxLocals = nL) (hsz : ls.size = nL) (hts : ∀ w ∈ c0 :: wsL_law, w.before args s = true) (hown : s.vm.findClass own = some m.cls) (hl : Cond.methodLink own index arraycopyName ∈ wsL_law) (hw1 : Cond.native arraycopyName ∈ wsL_law) (hw2 : Cond.static arraycopyName ∈ wsL_law) (hw3 : Cond.initialized "java/lang/System" ∈ wsL_law) (hK : xK g s) (hD : xD g L) (hP : xP g L M H) (hS : va_S (xA g L s.heap.size) s.heap H locs) {κ1 i1 κ2 i2 n1 n2 : Nat} (he1 : (κ1, i1) ∈ L) (he2 : (κ2, i2) ∈ L) (hc1 : ∀ r, xc g κ1 i1 r = xri g 1 n1 r) (hc2 : ∀ r, xc g κ2 i2 r = xri g 1 n2 r) {sp dp z : Int32} (h1 : ¬ sp < 0) (h2 : ¬ dp < 0) (h3 : ¬ z < 0) (h4 : sp.toNatClampNeg + z.toNatClampNeg ≤ n1) (h5 : dp.toNatClampNeg + z.toNatClampNeg ≤ n2) (hframes : 1 ≤ R.frames) (hlocals : (rest.map fun v => v.category).sum + (nativeFrameWords "java/lang/System" "arraycopy" 5 + 11) ≤ R.locals) (hdg : decode cc pc = .ok (.invokestatic index, 3))
    (kk : ∀ (H1 : Heap) (locs1 : List Loc), xP g L (xrow M κ2 i2 (va_cpy (M κ1 i1) (M κ2 i2) sp.toNatClampNeg dp.toNatClampNeg z.toNatClampNeg)) H1 → va_S (xA g L s.heap.size) s.heap H1 locs1 → W p l e R s m args below meth c H1 locs1 cells slots Q (F0 m (pc + 3) ls rest)) : W p l e R s m args below meth c H locs cells slots Q (F0 m pc ls (.int z :: .int dp :: .ref (xad g κ2 i2) :: .int sp :: .ref (xad g κ1 i1) :: rest)) := by
  obtain ⟨q1, -, hq1⟩ := xw_at (g := g) (M := M) he1
  obtain ⟨q2, hq2', hq2⟩ := xw_at (g := g) (M := M) he2
  rw [hc1] at hq1
  rw [hc2] at hq2
  refine va_copyi hx hb (hml.trans hsz.symm) hown (hts _ (List.mem_cons_of_mem _ hl)) (hts _ (List.mem_cons_of_mem _ hw1)) (hts _ (List.mem_cons_of_mem _ hw2)) (hts _ (List.mem_cons_of_mem _ hw3)) hK hP (xw_D M _ hD) hS q1 q2 1 1 hq1 hq2 rfl rfl rfl h1 h2 h3 h4 h5 (fun _ _ => rfl) hframes hlocals hdg (fun H1 locs1 hP1 _ hS1 => kk H1 locs1 ?_ hS1)
  rw [xw_set hD hq2' (hc2 _)] at hP1
  exact hP1
/-- the start of a contract: what is known at the method's first instruction -/
def xBeg (p : Program) (s : State) (m : MethodId) (args : Array Value) (meth : Method) (c : Code) (y : MethodName) (b : ByteArray) (maxL : Nat) (ret : Option FieldType) (g : xG) (L : List (Nat × Nat)) (M : xM) (av : List Value) (ls : Array Slot) : Prop :=
  p.tables.exec = Jvm.exec ∧ c.code = b ∧ c.maxLocals = maxL ∧ s.vm.findClass y.cls = some m.cls ∧ (∀ w ∈ xws y b maxL ret, w.before args s = true) ∧ meth.sig.returnType = ret ∧ meth.locks = false ∧ xK g s ∧ xAm g s s.heap ∧ xP g L M s.heap ∧ lv_has ls maxL (lv_args 0 av)
theorem x_beg (hy : plainName y.cls = true) (hlen : Nat.ble (lg_sl As).length maxL = true) {Qc : Array Value → State → Outcome → State → Prop} {sz : Nat} {free : Addr → Prop} (body : ∀ (p : Program) (e : Env) (s : State) (m : MethodId) (args : Array Value) (below : List Frame) (meth : Method) (c : Code) (ls : Array Slot), s.heap.size = sz → xBeg p s m args meth c y b maxL ret g L M As ls → W p l e (xr d) s m args below meth c s.heap [] 0 0 (MQ below Qc args s 0 0 free) (F0 m 0 ls [])) : Met l y (xws y b maxL ret) (xr d) (xPre g L M sz As) Qc 0 0 free := by
  refine Met.ofW (cc := b) (maxL := maxL) (ret := ret) hy rfl ?_
  intro p e s m args below meth c s₁ B hml hv
  obtain ⟨rfl, hsz, hP, hK, hA⟩ := hv
  have hl := lv_entry As (n := maxL) (Nat.le_of_ble_eq_true hlen)
  rw [lg_entry_eq]
  exact body p e s m _ below meth c _ hsz ⟨B.exec, B.bytes, hml, findClass_of_methodNamed B.named, atoms_spec (ws := xws y b maxL ret) B.pre, B.returns, B.notSynchronized, hK, hA, hP, hl⟩
theorem x_reti {post : Int32 → xM → Prop} {sz : Nat} (hx : p.tables.exec = Jvm.exec) (hb : c.code = cc) (hr : meth.sig.returnType = some .int) (hlk : meth.locks = false) (hP : xP g L M H) (hS : va_S (xA g L sz) s.heap H locs) {v : Int32} (hp : post v M) (hdg : decode cc pc = .ok (.ireturn, 1)) : W p l e R s m args below meth c H locs cells slots (MQ below (va_Qi post (xPost g L) (xA g L sz)) args s cells slots (xA g L sz)) (F0 m pc ls [.int v]) :=
  W.iret hx hb hr (fun t ht _ => ⟨⟨v, M, rfl, hp, by show xP g L M t.heap; rw [ht]; exact hP⟩, hS.F ht⟩) hS.2.2 hdg hlk
theorem x_retz {post : Int32 → xM → Prop} {sz : Nat} (hx : p.tables.exec = Jvm.exec) (hb : c.code = cc) (hr : meth.sig.returnType = some .boolean) (hlk : meth.locks = false) (hP : xP g L M H) (hS : va_S (xA g L sz) s.heap H locs) {v : Int32} (hn : narrow .boolean (.int v) = .int v) (hp : post v M) (hdg : decode cc pc = .ok (.ireturn, 1)) : W p l e R s m args below meth c H locs cells slots (MQ below (va_Qi post (xPost g L) (xA g L sz)) args s cells slots (xA g L sz)) (F0 m pc ls [.int v]) :=
  W.zret hx hb hr hn (fun t ht _ => ⟨⟨v, M, rfl, hp, by show xP g L M t.heap; rw [ht]; exact hP⟩, hS.F ht⟩) hS.2.2 hdg hlk
theorem x_retl {post : Int64 → xM → Prop} {sz : Nat} (hx : p.tables.exec = Jvm.exec) (hb : c.code = cc) (hr : meth.sig.returnType = some .long) (hlk : meth.locks = false) (hP : xP g L M H) (hS : va_S (xA g L sz) s.heap H locs) {v : Int64} (hp : post v M) (hdg : decode cc pc = .ok (.lreturn, 1)) : W p l e R s m args below meth c H locs cells slots (MQ below (va_Ql post (xPost g L) (xA g L sz)) args s cells slots (xA g L sz)) (F0 m pc ls [.long v]) :=
  W.lret hx hb hr (fun t ht _ => ⟨⟨v, M, rfl, hp, by show xP g L M t.heap; rw [ht]; exact hP⟩, hS.F ht⟩) hS.2.2 hdg hlk
theorem x_retv {post : xM → Prop} {sz : Nat} (hx : p.tables.exec = Jvm.exec) (hb : c.code = cc) (hr : meth.sig.returnType = none) (hlk : meth.locks = false) (hP : xP g L M H) (hS : va_S (xA g L sz) s.heap H locs) (hp : post M) (hdg : decode cc pc = .ok (.return_, 1)) : W p l e R s m args below meth c H locs cells slots (MQ below (va_Qv post (xPost g L) (xA g L sz)) args s cells slots (xA g L sz)) (F0 m pc ls []) :=
  W.vret hx hb hr (fun t ht _ => ⟨⟨M, rfl, hp, by show xP g L M t.heap; rw [ht]; exact hP⟩, hS.F ht⟩) hS.2.2 hdg hlk
theorem x_retq {post : Option Nat → xM → Prop} {sz : Nat} {rt : String} (hx : p.tables.exec = Jvm.exec) (hb : c.code = cc) (hr : meth.sig.returnType = some (.object rt)) (hlk : meth.locks = false) (hP : xP g L M H) (hS : va_S (xA g L sz) s.heap H locs) {v : Option Nat} {w : Value} (hw : w = va_rf v) (hp : post v M) (hdg : decode cc pc = .ok (.areturn, 1)) : W p l e R s m args below meth c H locs cells slots (MQ below (va_Qq post (xPost g L) (xA g L sz)) args s cells slots (xA g L sz)) (F0 m pc ls [w]) :=
  W.aret hx hb hr (Or.inl ⟨rt, rfl⟩) (by rw [hw]; cases v with | none => exact Or.inl rfl | some a => exact Or.inr ⟨a, rfl⟩) (fun t ht _ => ⟨⟨v, M, by rw [hw], hp, by show xP g L M t.heap; rw [ht]; exact hP⟩, hS.F ht⟩) hS.2.2 hdg hlk
end XC
/-- a name for a value, in the functions that say what the methods do -/
def xlet {α β : Type} (a : α) (k : α → β) : β := k a
def xlet2 {α γ β : Type} (a : α × γ) (k : α → γ → β) : β := k a.1 a.2
theorem xlet_n {α β : Type} {F : β} {a b : α} {k : α → β} (h : F = xlet a k) (e : b = a) : F = k b := by rw [h, e]; rfl
theorem xlet2_n {α γ β : Type} {F : β} {a : α × γ} {b1 : α} {b2 : γ} {k : α → γ → β} (h : F = xlet2 a k) (e : (b1, b2) = a) : F = k b1 b2 := by rw [h, ← e]; rfl
def xb (b : Bool) : Int32 := if b then 1 else 0
theorem xb_nar (b : Bool) : narrow .boolean (.int (xb b)) = .int (xb b) := by cases b <;> rfl
theorem xb_fit (b : Bool) : fits .boolean (.int (xb b)) = true := by cases b <;> rfl
theorem xb_0 {b : Bool} : xb b = 0 ↔ b = false := by cases b <;> simp [xb]
theorem xin {x : Int32} {n : Nat} {N : Int32} (h1 : 0 ≤ x) (h2 : x < N) (hN : N.toInt = n) : vp_in x n := by
  rw [vp_in_iff, ← hN]
  exact ⟨by simpa using Int32.le_iff_toInt_le.mp h1, Int32.lt_iff_toInt_lt.mp h2⟩
def xopt {β : Type} (o : Option Nat) (a : β) (k : Nat → β) : β := match o with
  | none => a
  | some i => k i
theorem xopt_n {β : Type} {F a : β} {o : Option Nat} {k : Nat → β} (h : F = xopt o a k) (e : o = none) : F = a := by rw [h, e]; rfl
theorem xopt_s {β : Type} {F a : β} {o : Option Nat} {k : Nat → β} {i : Nat} (h : F = xopt o a k) (e : o = some i) : F = k i := by rw [h, e]; rfl
/-- how far a counter has to go, up and down -/
def xmu (a b : Int32) : Nat := (b.toInt - a.toInt).toNat
theorem xmu_up {a b : Int32} (h : a < b) : xmu (a + 1) b < xmu a b := by
  have h1 := Int32.lt_iff_toInt_lt.mp h
  have h2 : (a + 1).toInt = a.toInt + 1 := by
    rw [Int32.toInt_add]
    have := a.toInt_lt; have := b.toInt_lt; have := a.le_toInt; have := b.le_toInt
    simp
    rw [Int.bmod_eq_of_le] <;> omega
  unfold xmu
  omega
theorem xmu_dn {a b : Int32} (h : b < a) : xmu b (a + (-1)) < xmu b a := by
  have h1 := Int32.lt_iff_toInt_lt.mp h
  have h2 : (a + (-1)).toInt = a.toInt - 1 := by
    rw [Int32.toInt_add]
    have := a.toInt_lt; have := b.toInt_lt; have := a.le_toInt; have := b.le_toInt
    simp
    rw [Int.bmod_eq_of_le] <;> omega
  unfold xmu
  omega
theorem xbv {v : Int32} (h : v = 0 ∨ v = 1) : v = xb (decide (v ≠ 0)) := by rcases h with h | h <;> subst h <;> rfl
theorem xbv_nar {v : Int32} (h : v = 0 ∨ v = 1) : narrow .boolean (.int v) = .int v := by rcases h with h | h <;> subst h <;> rfl
