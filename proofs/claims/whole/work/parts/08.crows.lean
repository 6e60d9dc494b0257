section SC
variable {p : Program} {l : Launch} {e : Env} {R : Room} {s : State} {m : MethodId} {args : Array Value} {below : List Frame} {meth : Method} {c : Code} {cells slots : Nat} {Q : State → Prop} {cc : ByteArray} {nL : Nat} {own : String} {D : sf_D} {tys : List (ClassId × FieldType)} {A : Nat → Prop} {ws : va_W} {lv lv' : List (Nat × Value)} {pc pc' : Nat} {st rest : List Value}
theorem sf_cuU (cx : sf_Cx p m meth c cc nL s args own D tys A) {C owner : String} {x y : MethodName} {bytes : ByteArray} {maxL n index : Nat} {ret : Option FieldType} {rm : Room} (pk : sf_Pk y bytes maxL ret n) (h1 : Cond.methodLink own index x ∈ sf_gtbl) (h2 : Cond.sameMethod x.cls owner x.name x.desc ∈ sf_gtbl) (h3 : Cond.selects C x y ∈ sf_gtbl) (h4 : Cond.instanceMethod y ∈ sf_gtbl) (hyx : y = ⟨owner, x.name, x.desc⟩) (hd : owner ≠ "java/lang/invoke/MethodHandle" ∧ owner ≠ "java/lang/invoke/VarHandle" ∧ (parseMethodDescriptor x.desc).map (fun d => d.parameters.length) = some n) (hrm : rm.cells = 0 ∧ rm.slots = 0) (hR : rm.frames + 1 ≤ R.frames ∧ 8 + (maxL + 11) + rm.locals ≤ R.locals) : va_CU R s args own C owner index x y bytes maxL ret (Cond.code y bytes maxL ret :: sf_gtbl) rm 0 0 n := by
  refine va_cwU n cx.2.2.2.2.1 ?_ rfl hrm.1 hrm.2 hyx hd hR
  intro w hw
  rcases List.mem_append.mp hw with h | h
  · simp only [List.mem_cons, List.not_mem_nil, or_false] at h
    rcases h with rfl | rfl | rfl | rfl | rfl
    · exact ⟨h1, sf_good h1⟩
    · exact ⟨h2, sf_good h2⟩
    · exact ⟨h3, sf_good h3⟩
    · exact ⟨h4, sf_good h4⟩
    · exact ⟨pk.1, sf_good pk.1⟩
  · exact sf_ht pk.2.1 w h
theorem sf_cuO (cx : sf_Cx p m meth c cc nL s args own D tys A) {C owner : String} {x y : MethodName} {bytes : ByteArray} {maxL n index : Nat} {ret : Option FieldType} {rm : Room} (pk : sf_Pk y bytes maxL ret n) (h1 : Cond.methodLink own index x ∈ sf_gtbl) (h2 : Cond.sameMethod x.cls owner x.name x.desc ∈ sf_gtbl) (h3 : Cond.selects C x y ∈ sf_gtbl) (h4 : Cond.instanceMethod y ∈ sf_gtbl) (h5 : Cond.instanceMethod ⟨owner, x.name, x.desc⟩ ∈ sf_gtbl) {b0 : ByteArray} {m0 : Nat} {r0 : Option FieldType} (h0 : Cond.code ⟨owner, x.name, x.desc⟩ b0 m0 r0 ∈ sf_gtbl) (hd : owner ≠ "java/lang/invoke/MethodHandle" ∧ owner ≠ "java/lang/invoke/VarHandle" ∧ (parseMethodDescriptor x.desc).map (fun d => d.parameters.length) = some n) (hrm : rm.cells = 0 ∧ rm.slots = 0) (hR : rm.frames + 1 ≤ R.frames ∧ 8 + (maxL + 11) + rm.locals ≤ R.locals) : va_CU R s args own C owner index x y bytes maxL ret (Cond.code y bytes maxL ret :: sf_gtbl) rm 0 0 n := by
  refine va_cwO n cx.2.2.2.2.1 ?_ rfl hrm.1 hrm.2 h0 hd hR
  intro w hw
  rcases List.mem_append.mp hw with h | h
  · simp only [List.mem_cons, List.not_mem_nil, or_false] at h
    rcases h with rfl | rfl | rfl | rfl | rfl | rfl
    · exact ⟨h1, sf_good h1⟩
    · exact ⟨h2, sf_good h2⟩
    · exact ⟨h5, sf_good h5⟩
    · exact ⟨h3, sf_good h3⟩
    · exact ⟨h4, sf_good h4⟩
    · exact ⟨pk.1, sf_good pk.1⟩
  · exact sf_ht pk.2.1 w h
theorem sw_callU (cx : sf_Cx p m meth c cc nL s args own D tys A) {y : MethodName} {bytes : ByteArray} {maxL n index : Nat} {ret : Option FieldType} {rm : Room} {wc w' wn : va_W} {o : Option Value} {As : List Value} {C owner : String} {x : MethodName} {b ci : Nat} {fs : List Value} {q : vw_C} (hc : sf_Ct l y bytes maxL ret rm D tys (.ref b :: As) wc o w') (cu : va_CU R s args own C owner index x y bytes maxL ret (Cond.code y bytes maxL ret :: sf_gtbl) rm 0 0 n) (hcs : cells ≤ R.cells ∧ slots ≤ R.slots) (is : List Nat) (hC : is.map (fun i => ws[i]?) = wc.map some) (hnd : va_nd is = true) (hadr : wc.map Prod.fst = w'.map Prod.fst) (hw : sf_rp ws is w' = wn) (q0 : Nat) (hq : wc[q0]? = some (b, .inr (ci, fs))) (hcl : vwCl[ci]? = some q) (hqn : q.1 = C) (hnA : As.length = n) (hW : (rest.map fun v => v.category).sum ≤ 8) (hst : st = As.reverse ++ .ref b :: rest) (hdg : decode cc pc = .ok (.invokevirtual index, 3)) (hn : pc + 3 = pc') (k : sf_W p l e R s m args below meth c cells slots Q nL D A wn lv pc' (o.toList ++ rest)) : sf_W p l e R s m args below meth c cells slots Q nL D A ws lv pc st := by
  intro H locs ls hP hD hS hl
  obtain ⟨i, -, hi⟩ := sf_at hC q0 _ hq
  refine sf_go cx (va_runU ⟨cx.1, cx.2.1, cx.2.2.1, cx.2.2.2.1, cx.2.2.2.2.1⟩ (hc H.size) cu ⟨sf_Pc_blind, hqn ▸ va_recv cx.2.2.2.2.2.2.1 hP hcl hi, sf_pre cx hP hD hS is hC hnd⟩ rfl hnA hl.1 hst (lv_room hW) hdg hcs) hP hD hS hl is hC hnd hadr hw hn k
theorem sw_callSU (cx : sf_Cx p m meth c cc nL s args own D tys A) {y : MethodName} {bytes : ByteArray} {maxL n index : Nat} {ret : Option FieldType} {rm : Room} {w' : va_W} {o : Option Value} {As : List Value} {b ci : Nat} {fs : List Value} {q : vw_C} (hc : sf_Ct l y bytes maxL ret rm D tys (.ref b :: As) ws o w') (pk : sf_Pk y bytes maxL ret n) (hinst : Cond.instanceMethod y ∈ sf_gtbl) (hlink : Cond.methodLink own index y ∈ sf_gtbl) (hsame : Cond.sameMethod y.cls y.cls y.name y.desc ∈ sf_gtbl) (hsup : Cond.superclass own y.cls ∈ sf_gtbl) (hni : y.name ≠ "<init>") (hrm : rm.cells = 0 ∧ rm.slots = 0) (hR : rm.frames + 1 ≤ R.frames ∧ 8 + (maxL + 11) + rm.locals ≤ R.locals) (hcs : cells ≤ R.cells ∧ slots ≤ R.slots) (q0 : Nat) (hq : ws[q0]? = some (b, .inr (ci, fs))) (hcl : vwCl[ci]? = some q) (hnA : As.length = n) (hW : (rest.map fun v => v.category).sum ≤ 8) (hst : st = As.reverse ++ .ref b :: rest) (hdg : decode cc pc = .ok (.invokespecial index, 3)) (hn : pc + 3 = pc') (k : sf_W p l e R s m args below meth c cells slots Q nL D A w' lv pc' (o.toList ++ rest)) : sf_W p l e R s m args below meth c cells slots Q nL D A ws lv pc st := by
  intro H locs ls hP hD hS hl
  have cs : va_CS R s args own index y bytes maxL ret (Cond.code y bytes maxL ret :: sf_gtbl) rm 0 0 n := by
    refine va_cwSU n cx.2.2.2.2.1 ?_ rfl hrm.1 hrm.2 ⟨hni, pk.2.2.2.2⟩ hR
    intro w hw
    rcases List.mem_append.mp hw with h | h
    · simp only [List.mem_cons, List.not_mem_nil, or_false] at h
      rcases h with rfl | rfl | rfl | rfl | rfl
      · exact ⟨hlink, sf_good hlink⟩
      · exact ⟨hsame, sf_good hsame⟩
      · exact ⟨hsup, sf_good hsup⟩
      · exact ⟨hinst, sf_good hinst⟩
      · exact ⟨pk.1, sf_good pk.1⟩
    · exact sf_ht pk.2.1 w h
  refine sf_goW cx (va_runSU (cx.2.2.2.2.2.2.1.1 ci q hcl).2 ⟨cx.1, cx.2.1, cx.2.2.1, cx.2.2.2.1, cx.2.2.2.2.1⟩ (hc H.size) cs ⟨sf_Pc_blind, va_recv cx.2.2.2.2.2.2.1 hP hcl hq, sf_preW cx hP hD hS⟩ rfl hnA hl.1 hst (lv_room hW) hdg hcs) hD hS hl hn k
theorem sw_copyi (cx : sf_Cx p m meth c cc nL s args own D tys A) {index : Nat} (hlink : Cond.methodLink own index arraycopyName ∈ sf_gtbl) (hnat : Cond.native arraycopyName ∈ sf_gtbl) (hstat : Cond.static arraycopyName ∈ sf_gtbl) (hini : Cond.initialized "java/lang/System" ∈ sf_gtbl) (q0 q1 t0 : Nat) {a0 a : Nat} {c0 c1 : ClassId} {n0 n1 : Nat} {f g : Nat → Int32} (ha0 : ws[q0]? = some (a0, .inl (c0, n0, .inl f))) (ha1 : ws[q1]? = some (a, .inl (c1, n1, .inl g))) (ht0 : tys[t0]? = some (c0, .int)) (ht1 : tys[t0]? = some (c1, .int)) {sp dp n : Int32} (h1 : ¬ sp < 0) (h2 : ¬ dp < 0) (h3 : ¬ n < 0) (h4 : sp.toNatClampNeg + n.toNatClampNeg ≤ n0) (h5 : dp.toNatClampNeg + n.toNatClampNeg ≤ n1) (hframes : 1 ≤ R.frames) (hlocals : (st.map fun v => v.category).sum + (nativeFrameWords "java/lang/System" "arraycopy" 5 + 11) ≤ R.locals) (hdg : decode cc pc = .ok (.invokestatic index, 3)) {ws' : va_W} (hw : ws.set q1 (a, .inl (c1, n1, .inl (va_cpy f g sp.toNatClampNeg dp.toNatClampNeg n.toNatClampNeg))) = ws') (hn : pc + 3 = pc') (k : sf_W p l e R s m args below meth c cells slots Q nL D A ws' lv pc' st) : sf_W p l e R s m args below meth c cells slots Q nL D A ws lv pc (.int n :: .int dp :: .ref a :: .int sp :: .ref a0 :: st) := fun H locs ls hP hD hS hl => va_copyi cx.1 cx.2.1 (cx.2.2.1.trans hl.1.symm) cx.2.2.2.1 (cx.2.2.2.2.1 _ hlink) (cx.2.2.2.2.1 _ hnat) (cx.2.2.2.2.1 _ hstat) (cx.2.2.2.2.1 _ hini) cx.2.2.2.2.2.2.1 hP hD hS q0 q1 t0 t0 ha0 ha1 ht0 ht1 rfl h1 h2 h3 h4 h5 (fun _ _ => rfl) hframes hlocals hdg (fun H1 locs1 hP1 hD1 hS1 => hn ▸ k H1 locs1 ls (hw ▸ hP1) (hw ▸ hD1) hS1 hl)
theorem sw_copyl (cx : sf_Cx p m meth c cc nL s args own D tys A) {index : Nat} (hlink : Cond.methodLink own index arraycopyName ∈ sf_gtbl) (hnat : Cond.native arraycopyName ∈ sf_gtbl) (hstat : Cond.static arraycopyName ∈ sf_gtbl) (hini : Cond.initialized "java/lang/System" ∈ sf_gtbl) (q0 q1 t0 : Nat) {a0 a : Nat} {c0 c1 : ClassId} {n0 n1 : Nat} {f g : Nat → Int64} (ha0 : ws[q0]? = some (a0, .inl (c0, n0, .inr (.inl f)))) (ha1 : ws[q1]? = some (a, .inl (c1, n1, .inr (.inl g)))) (ht0 : tys[t0]? = some (c0, .long)) (ht1 : tys[t0]? = some (c1, .long)) {sp dp n : Int32} (h1 : ¬ sp < 0) (h2 : ¬ dp < 0) (h3 : ¬ n < 0) (h4 : sp.toNatClampNeg + n.toNatClampNeg ≤ n0) (h5 : dp.toNatClampNeg + n.toNatClampNeg ≤ n1) (hframes : 1 ≤ R.frames) (hlocals : (st.map fun v => v.category).sum + (nativeFrameWords "java/lang/System" "arraycopy" 5 + 11) ≤ R.locals) (hdg : decode cc pc = .ok (.invokestatic index, 3)) {ws' : va_W} (hw : ws.set q1 (a, .inl (c1, n1, .inr (.inl (va_cpy f g sp.toNatClampNeg dp.toNatClampNeg n.toNatClampNeg)))) = ws') (hn : pc + 3 = pc') (k : sf_W p l e R s m args below meth c cells slots Q nL D A ws' lv pc' st) : sf_W p l e R s m args below meth c cells slots Q nL D A ws lv pc (.int n :: .int dp :: .ref a :: .int sp :: .ref a0 :: st) := fun H locs ls hP hD hS hl => va_copyl cx.1 cx.2.1 (cx.2.2.1.trans hl.1.symm) cx.2.2.2.1 (cx.2.2.2.2.1 _ hlink) (cx.2.2.2.2.1 _ hnat) (cx.2.2.2.2.1 _ hstat) (cx.2.2.2.2.1 _ hini) cx.2.2.2.2.2.2.1 hP hD hS q0 q1 t0 t0 ha0 ha1 ht0 ht1 rfl h1 h2 h3 h4 h5 (fun _ _ => rfl) hframes hlocals hdg (fun H1 locs1 hP1 hD1 hS1 => hn ▸ k H1 locs1 ls (hw ▸ hP1) (hw ▸ hD1) hS1 hl)
theorem sw_instY (cx : sf_Cx p m meth c cc nL s args own D tys A) {C nm : String} {index a ci : Nat} {fs : List Value} {q : vw_C} (hlink : Cond.classLink own index nm ∈ sf_gtbl) (hc : va_Nw (.castable C nm) s) (q0 : Nat) (hq : ws[q0]? = some (a, .inr (ci, fs))) (hcl : vwCl[ci]? = some q) (hqn : q.1 = C) (hdg : decode cc pc = .ok (.instanceof index, 3)) (hn : pc + 3 = pc') (k : sf_W p l e R s m args below meth c cells slots Q nL D A ws lv pc' (.int 1 :: st)) : sf_W p l e R s m args below meth c cells slots Q nL D A ws lv pc (.ref a :: st) := fun H locs ls hP hD hS hl => va_instY cx.1 cx.2.1 cx.2.2.2.1 (cx.2.2.2.2.1 _ hlink) hc (hqn ▸ va_recv cx.2.2.2.2.2.2.1 hP hcl hq) hdg (hn ▸ k H locs ls hP hD hS hl)
theorem sw_instS (cx : sf_Cx p m meth c cc nL s args own D tys A) {nm : String} {index a ci : Nat} {fs : List Value} {q : vw_C} (hlink : Cond.classLink own index nm ∈ sf_gtbl) (q0 : Nat) (hq : ws[q0]? = some (a, .inr (ci, fs))) (hcl : vwCl[ci]? = some q) (hqn : q.1 = nm) (hdg : decode cc pc = .ok (.instanceof index, 3)) (hn : pc + 3 = pc') (k : sf_W p l e R s m args below meth c cells slots Q nL D A ws lv pc' (.int 1 :: st)) : sf_W p l e R s m args below meth c cells slots Q nL D A ws lv pc (.ref a :: st) := fun H locs ls hP hD hS hl => va_instS cx.1 cx.2.1 cx.2.2.2.1 (cx.2.2.2.2.1 _ hlink) (hqn ▸ (cx.2.2.2.2.2.2.1.1 ci q hcl).2) (hqn ▸ va_recv cx.2.2.2.2.2.2.1 hP hcl hq) hdg (hn ▸ k H locs ls hP hD hS hl)
theorem sw_instNo (cx : sf_Cx p m meth c cc nL s args own D tys A) {C nm : String} {index a ci : Nat} {fs : List Value} {q : vw_C} (hlink : Cond.classLink own index nm ∈ sf_gtbl) (hc : (C, nm) ∈ sf_ncs) (q0 : Nat) (hq : ws[q0]? = some (a, .inr (ci, fs))) (hcl : vwCl[ci]? = some q) (hqn : q.1 = C) (hdg : decode cc pc = .ok (.instanceof index, 3)) (hn : pc + 3 = pc') (k : sf_W p l e R s m args below meth c cells slots Q nL D A ws lv pc' (.int 0 :: st)) : sf_W p l e R s m args below meth c cells slots Q nL D A ws lv pc (.ref a :: st) := fun H locs ls hP hD hS hl => va_instNo cx.1 cx.2.1 cx.2.2.2.1 (cx.2.2.2.2.1 _ hlink) (cx.2.2.2.2.2.2.2.2.2.2.2.2.2 _ hc) (hqn ▸ va_recv cx.2.2.2.2.2.2.1 hP hcl hq) hdg (hn ▸ k H locs ls hP hD hS hl)
theorem sw_ldcS (cx : sf_Cx p m meth c cc nL s args own D tys A) {index : Nat} {tx : String} (i : Nat) (hi : sf_strs[i]? = some (own, index, tx)) (hdg : decode cc pc = .ok (.ldc index, 2)) (hn : pc + 2 = pc') (k : sf_W p l e R s m args below meth c cells slots Q nL D A ws lv pc' (.ref (D.2.1 i) :: st)) : sf_W p l e R s m args below meth c cells slots Q nL D A ws lv pc st := fun H locs ls hP hD hS hl => va_ldcS cx.1 cx.2.1 cx.2.2.2.1 (cx.2.2.2.2.2.2.2.2.2.2.1 i _ hi) hdg (hn ▸ k H locs ls hP hD hS hl)
def gk {α : Type} (j n : Nat) (k : Option α) : Option α := if j < n then k else none
theorem gk_s {α : Type} {j n : Nat} {k : Option α} {r : α} (h : gk j n k = some r) : j < n ∧ k = some r := by
  unfold gk at h
  by_cases hc : j < n
  · rw [if_pos hc] at h; exact ⟨hc, h⟩
  · rw [if_neg hc] at h; cases h
theorem gk_lt {α : Type} {j n : Nat} {k : Option α} (h : j < n) : gk j n k = k := if_pos h
theorem sw_aaldS (cx : sf_Cx p m meth c cc nL s args own D tys A) (q0 t0 : Nat) {a : Nat} {cA : ClassId} {C : String} {n : Nat} {f : Nat → Nat} (ha : ws[q0]? = some (a, .inl (cA, n, .inr (.inr (.inr (.inr (fun k => some (f k)))))))) (ht : tys[t0]? = some (cA, .object C)) {i : Int32} (hi : vp_in i n) (hdg : decode cc pc = .ok (.aaload, 1)) (hn : pc + 1 = pc') (k : sf_W p l e R s m args below meth c cells slots Q nL D A ws lv pc' (.ref (f i.toNatClampNeg) :: st)) : sf_W p l e R s m args below meth c cells slots Q nL D A ws lv pc (.int i :: .ref a :: st) := sw_aald cx q0 t0 ha ht hi hdg hn k
theorem sf_rp1 {ws : va_W} {i : Nat} {q : Nat × va_E} (h : ws[i]? = some q) : sf_rp ws [i] [q] = ws := by
  show ws.set i q = ws
  obtain ⟨h1, h2⟩ := List.getElem?_eq_some_iff.mp h
  rw [← h2]
  exact List.set_getElem_self h1
def gc {α : Type} (sp dp n : Int32) (n0 n1 : Nat) (k : Option α) : Option α := if ¬ sp < 0 ∧ ¬ dp < 0 ∧ ¬ n < 0 ∧ sp.toNatClampNeg + n.toNatClampNeg ≤ n0 ∧ dp.toNatClampNeg + n.toNatClampNeg ≤ n1 then k else none
theorem gc_s {α : Type} {sp dp n : Int32} {n0 n1 : Nat} {k : Option α} {r : α} (h : gc sp dp n n0 n1 k = some r) : (¬ sp < 0 ∧ ¬ dp < 0 ∧ ¬ n < 0 ∧ sp.toNatClampNeg + n.toNatClampNeg ≤ n0 ∧ dp.toNatClampNeg + n.toNatClampNeg ≤ n1) ∧ k = some r := by
  unfold gc at h
  by_cases hc : ¬ sp < 0 ∧ ¬ dp < 0 ∧ ¬ n < 0 ∧ sp.toNatClampNeg + n.toNatClampNeg ≤ n0 ∧ dp.toNatClampNeg + n.toNatClampNeg ≤ n1
  · rw [if_pos hc] at h; exact ⟨hc, h⟩
  · rw [if_neg hc] at h; cases h
theorem gc_ok {α : Type} {sp dp n : Int32} {n0 n1 : Nat} {k : Option α} (h : ¬ sp < 0 ∧ ¬ dp < 0 ∧ ¬ n < 0 ∧ sp.toNatClampNeg + n.toNatClampNeg ≤ n0 ∧ dp.toNatClampNeg + n.toNatClampNeg ≤ n1) : gc sp dp n n0 n1 k = k := if_pos h
theorem sf_subc {vm : Vm} {a b : ClassId} {k : Class} (hk : vm.classes[a]? = some k) (hs : k.super = some b) : vm.isSubclass a b = true := by
  unfold Vm.isSubclass
  have hlt := (Array.getElem?_eq_some_iff.mp hk).1
  obtain ⟨n, hn⟩ : ∃ n, vm.classes.size = n + 1 := ⟨vm.classes.size - 1, by omega⟩
  rw [hn]
  simp [Vm.isSubclassAux, hk, hs]
/-- super.m(..), where the superclass has m from its own superclass -/
theorem sw_callSX (cx : sf_Cx p m meth c cc nL s args own D tys A) {x y : MethodName} {bytes : ByteArray} {maxL n index : Nat} {ret : Option FieldType} {rm : Room} {w' : va_W} {o : Option Value} {As : List Value} {b ci : Nat} {fs : List Value} {q : vw_C} (hc : sf_Ct l y bytes maxL ret rm D tys (.ref b :: As) ws o w') (pk : sf_Pk y bytes maxL ret n) (hinst : Cond.instanceMethod y ∈ sf_gtbl) (hlink : Cond.methodLink own index x ∈ sf_gtbl) (hsame : Cond.sameMethod x.cls y.cls x.name x.desc ∈ sf_gtbl) (hsup : Cond.superclass own x.cls ∈ sf_gtbl) (hsup2 : Cond.superclass x.cls y.cls ∈ sf_gtbl) (hni : x.name ≠ "<init>") (hxy : y = ⟨y.cls, x.name, x.desc⟩) (hrm : rm.cells = 0 ∧ rm.slots = 0) (hR : rm.frames + 1 ≤ R.frames ∧ 8 + (maxL + 11) + rm.locals ≤ R.locals) (hcs : cells ≤ R.cells ∧ slots ≤ R.slots) (q0 : Nat) (hq : ws[q0]? = some (b, .inr (ci, fs))) (hcl : vwCl[ci]? = some q) (hnA : As.length = n) (hW : (rest.map fun v => v.category).sum ≤ 8) (hst : st = As.reverse ++ .ref b :: rest) (hdg : decode cc pc = .ok (.invokespecial index, 3)) (hn : pc + 3 = pc') (k : sf_W p l e R s m args below meth c cells slots Q nL D A w' lv pc' (o.toList ++ rest)) : sf_W p l e R s m args below meth c cells slots Q nL D A ws lv pc st := by
  intro H locs ls hP hD hS hl
  have hX := cx.2.2.2.2.1
  have hB : Back l R p e below s args y 3 8 (PreOf R 0 0 (sf_Pc D tys (.ref b :: As) ws H.size)) (PostOf (sf_Q D tys (va_A ws H.size) o w') 0 0 (va_A ws H.size)) := back_of (bytes := bytes) (maxL := maxL) (ret := ret) (hc H.size) sf_Pc_blind hrm.1 hrm.2 hR.1 hR.2 (pay_in hX (sf_ht pk.2.1)) List.mem_cons_self (fun a' U hW => word_at hW (Or.inl (by first | rfl | simp [Cond.onTables, Cond.keeps, Cond.steady])) (hX _ pk.1))
  obtain ⟨mk, methM, hnamed, hmethM, hstM, habM⟩ := Cond.instanceMethod_spec (hX _ hinst)
  obtain ⟨methM', cM, hmethM', -, -, -, -, -, -, hsigM⟩ := Cond.code_spec hnamed (hX _ pk.2.1)
  cases hmethM.symm.trans hmethM'
  obtain ⟨ps, dk, kp, hps, hdk, hkp, hsuper, -, -, hnid⟩ := Cond.superclass_spec cx.2.2.2.1 (hX _ hsup)
  obtain ⟨ps2, dk2, kp2, hps2, hdk2, hkp2, hsuper2, -, -, -⟩ := Cond.superclass_spec hps (hX _ hsup2)
  have hnm : s.methodNamed? ⟨y.cls, x.name, x.desc⟩ = some mk := hxy ▸ hnamed
  have hpm : ps2 = mk.cls := Option.some.inj (hps2.symm.trans (findClass_of_methodNamed hnamed))
  have hsub : s.vm.isSubclass ps mk.cls = true := by rw [← hpm]; exact sf_subc hdk2 hsuper2
  obtain ⟨cellB, hcB, hoB, hclB⟩ := va_recv cx.2.2.2.2.2.2.1 hP hcl hq
  obtain ⟨hfc, kB, hkB, -⟩ := (cx.2.2.2.2.2.2.1.1 ci q hcl).2
  rw [Option.some.inj (hfc.symm.trans hclB)] at hkB
  have hlenA : ∀ sig, parseMethodDescriptor y.desc = some sig → As.length = sig.parameters.length := by
    intro sig h
    have h2 := pk.2.2.2.2
    rw [h] at h2
    rw [hnA]
    exact (Option.some.inj h2).symm
  have hr : va_Run p l e R s m args below meth c H locs cells slots 0 0 (F0 m pc ls st) rest (sf_Q D tys (va_A ws H.size) o w' (Value.ref b :: As).toArray) (va_A ws H.size) := by
    intro T hT X
    obtain ⟨vm₁, X₁, hstep₁⟩ := X.invokespecialUp cx.1 (owner := y.cls) cx.2.2.2.1 (hX _ hlink) (hX _ hsame) hnm hmethM hstM habM hni hdk hnid hps hsuper hsub (a := b) (cell := cellB) (by rw [hT]; exact hcB)
      (fun z h => by rw [h] at hoB; cases hoB) hkB (g := F0 m pc ls st) rfl (argsL := As) (rest := rest) (hlenA _ hsigM) hst (by rw [cx.2.1]; exact hdg)
    obtain ⟨v, B, X', ⟨g', mk', t, L, e1, e2, hq2, h1, hL, h2, h3⟩, hsteps⟩ := hB m meth c ⟨T.setVm vm₁, locs, cells, slots⟩ { (F0 m pc ls st) with stack := rest } (.invokespecial index) mk (Value.ref b :: As).toArray X₁ rfl (hl.1.trans cx.2.2.1.symm) (by rw [cx.2.1]; exact hdg) (lv_room hW) (X₁.named hnamed) ⟨hcs.1, hcs.2, sf_preW cx hP hD hS (T.setVm vm₁) hT X₁.warmed⟩
    obtain ⟨U', l2, c2, s2⟩ := B
    dsimp only [Pt.U, Pt.locs, Pt.cells, Pt.slots] at X' e1 e2 h1 h2 h3 hsteps
    subst h1; subst h2; subst h3
    exact ⟨v, (T.setVm vm₁).calling g' mk' (Value.ref b :: As).toArray, t, U', L, hT, X', hL, e1, e2, hq2, fun target h => hstep₁ _ (by rw [doInvoke_state]; exact hsteps.trans h)⟩
  exact sf_goW cx hr hD hS hl hn k
end SC
