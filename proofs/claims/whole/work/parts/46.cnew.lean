/-! constructors: contracts that make cells -/
def sf_Qn (D : sf_D) (tys : List (ClassId × FieldType)) (A : Nat → Prop) (P : va_W → Prop) : Array Value → State → Outcome → State → Prop := fun _ st oc t => (∃ w', P w' ∧ oc = .returned none ∧ va_P D.1 vwCl w' t.heap ∧ va_K D.1 vwCl tys t ∧ va_D A w') ∧ va_F A st t
def sf_Cn (l : Launch) (y : MethodName) (cc : ByteArray) (maxL : Nat) (rm : Room) (D : sf_D) (tys : List (ClassId × FieldType)) (av : List Value) (ws : va_W) (P : va_W → Prop) (mc ms : Nat) : Prop :=
  ∀ sz : Nat, Met l y (Cond.code y cc maxL none :: sf_gtbl) rm (sf_Pc D tys av ws sz) (sf_Qn D tys (va_A ws sz) P) mc ms (va_A ws sz)
section CN
variable {p : Program} {l : Launch} {e : Env} {R : Room} {s : State} {m : MethodId} {args : Array Value} {below : List Frame} {meth : Method} {c : Code} {cells slots : Nat} {Q : State → Prop} {cc : ByteArray} {nL : Nat} {own : String} {D : sf_D} {tys : List (ClassId × FieldType)} {A : Nat → Prop} {ws : va_W} {lv lv' : List (Nat × Value)} {pc pc' : Nat} {st rest : List Value} {P : va_W → Prop} {mc ms : Nat}
theorem sf_metN {y : MethodName} {maxL : Nat} {rm : Room} {av : List Value} (hy : plainName y.cls = true) (hlen : (lg_sl av).length ≤ maxL) (hlv : lv_args 0 av = lv)
    (body : ∀ (p : Program) (e : Env) (s : State) (m : MethodId) (args : Array Value) (below : List Frame) (meth : Method) (c : Code) (A : Nat → Prop) (Q : State → Prop), sf_Cx p m meth c cc maxL s args y.cls D tys A → meth.sig.returnType = none → meth.name = y.name → Q = MQ below (sf_Qn D tys A P) args s mc ms A → sf_W p l e rm s m args below meth c 0 0 Q maxL D A ws lv 0 []) : sf_Cn l y cc maxL rm D tys av ws P mc ms := by
  intro sz
  refine Met.ofW (cc := cc) (maxL := maxL) (ret := none) hy rfl ?_
  intro p e s m args below meth c s₁ B hml hv
  obtain ⟨rfl, hsz, hP, hK, hD0, hN, hSt⟩ := hv
  have hts := atoms_spec (ws := Cond.code y cc maxL none :: sf_gtbl) B.pre
  have hown : s.vm.findClass y.cls = some m.cls := findClass_of_methodNamed B.named
  subst hsz
  have hD := hD0.self (sz := s.heap.size)
  have hA : ∀ q : Nat, s.heap.size ≤ q → va_A ws s.heap.size q := fun q h => Or.inr h
  have hl := lv_entry av (n := maxL) hlen
  rw [hlv] at hl
  rw [lg_entry_eq]
  exact body p e s m _ below meth c (va_A ws s.heap.size) _ ⟨B.exec, B.bytes, hml, hown, fun w h => hts w (List.mem_cons_of_mem _ h), hN, hK, hA, B.notSynchronized, hSt⟩ B.returns (name_of_methodNamed B.named B.method).1 rfl s.heap [] _ hP hD va_S.rf hl
theorem sw_vretN (cx : sf_Cx p m meth c cc nL s args own D tys A) (hr : meth.sig.returnType = none) (hQ : Q = MQ below (sf_Qn D tys A P) args s mc ms A) (hp : P ws) (hdg : decode cc pc = .ok (.return_, 1)) : sf_W p l e R s m args below meth c mc ms Q nL D A ws lv pc [] := by
  subst hQ
  exact fun H locs ls hP hD hS hl => W.vret cx.1 cx.2.1 hr (fun t ht hW => ⟨⟨ws, hp, rfl, by rw [ht]; exact hP, va_K.moved hW.alike cx.2.2.2.2.2.2.1, hD⟩, hS.F ht⟩) hS.2.2 hdg cx.2.2.2.2.2.2.2.2.1
/-- the same cells in another order, or fewer -/
theorem sw_perm {w' : va_W} (is : List Nat) (hs : is.map (fun i => ws[i]?) = w'.map some) (hn : va_nd is = true) (k : sf_W p l e R s m args below meth c cells slots Q nL D A w' lv pc st) : sf_W p l e R s m args below meth c cells slots Q nL D A ws lv pc st := by
  intro H locs ls hP hD hS hl
  refine k H locs ls (fun j q hq => ?_) (hD.sub is hn hs) hS hl
  obtain ⟨i, -, hi⟩ := sf_at hs j q hq
  exact hP i q hi
/-- behind a call that makes cells: the caller's other cells, then what the callee left -/
theorem sf_goN {H : Heap} {locs : List Loc} {ls : Array Slot} {wc wr : va_W} {a : Array Value} (cx : sf_Cx p m meth c cc nL s args own D tys A)
    (hr : va_Run p l e R s m args below meth c H locs cells slots mc ms (F0 m pc ls st) rest (sf_Qn D tys (va_A wc H.size) P a) (va_A wc H.size)) (hP : va_P D.1 vwCl ws H) (hD : va_D A ws) (hS : va_S A s.heap H locs) (hl : lv_has ls nL lv) (is isR : List Nat) (hC : is.map (fun i => ws[i]?) = wc.map some) (hR : isR.map (fun i => ws[i]?) = wr.map some) (hnR : va_nd isR = true) (hdis : ∀ i ∈ isR, i ∉ is)
    (hn : pc + 3 = pc') (k : ∀ w', P w' → sf_W p l e R s m args below meth c (cells + mc) (slots + ms) Q nL D A (wr ++ w') lv pc' rest) : W p l e R s m args below meth c H locs cells slots Q (F0 m pc ls st) := by
  subst hn
  have hF := va_free (wc := wc) hD hS cx.2.2.2.2.2.2.2.1 is hC
  intro T hT X
  obtain ⟨v, st₀, t, T', L, h0, X', hL, e1, e2, ⟨⟨w', hp, hv, hP1, hK1, hD1⟩, hz, hk⟩, stp⟩ := hr T hT X
  cases hv
  rw [h0] at hz hk
  rw [← e1] at hP1 hz hk
  obtain ⟨hP2, hD2⟩ := va_join hP hD is isR hC hR hnR hdis hk hF hP1 hD1
  obtain ⟨t2, a1, b1⟩ := k w' hp T'.heap (locs ++ L) ls hP2 hD2
    ⟨Nat.le_trans hS.1 hz, fun q h1 h2 => by rw [hk q (Nat.lt_of_lt_of_le h1 hS.1) (fun z => h2 (hF q z))]; exact hS.2.1 q h1 h2, fun q hq => by
      rcases List.mem_append.mp hq with h | h
      · exact hS.2.2 q h
      · exact hF _ (hL q h)⟩ hl T' rfl X'
  exact ⟨t2, stp t2 a1, b1⟩
def sf_PkI (y : MethodName) (bytes : ByteArray) (maxL n : Nat) : Prop := sf_Pk y bytes maxL none n ∧ Cond.instanceMethod y ∈ sf_gtbl ∧ y.name = "<init>"
theorem sw_callI (cx : sf_Cx p m meth c cc nL s args own D tys A) {y : MethodName} {bytes : ByteArray} {maxL n index : Nat} {rm : Room} {wc wr : va_W} {As : List Value} {b : Nat} (hc : sf_Cn l y bytes maxL rm D tys (.ref b :: As) wc P mc ms) (pk : sf_PkI y bytes maxL n) (hlink : Cond.methodLink own index y ∈ sf_gtbl) (hrm : rm.cells = mc ∧ rm.slots = ms) (hR : rm.frames + 1 ≤ R.frames ∧ 8 + (maxL + 11) + rm.locals ≤ R.locals) (hcs : cells + mc ≤ R.cells ∧ slots + ms ≤ R.slots) (is isR : List Nat) (hC : is.map (fun i => ws[i]?) = wc.map some) (hnd : va_nd is = true) (hRs : isR.map (fun i => ws[i]?) = wr.map some) (hnR : va_nd isR = true) (hdis : ∀ i ∈ isR, i ∉ is) (hnA : As.length = n) (hW : (rest.map fun v => v.category).sum ≤ 8) (hst : st = As.reverse ++ .ref b :: rest) (hdg : decode cc pc = .ok (.invokespecial index, 3)) (hn : pc + 3 = pc') (k : ∀ w', P w' → sf_W p l e R s m args below meth c (cells + mc) (slots + ms) Q nL D A (wr ++ w') lv pc' rest) : sf_W p l e R s m args below meth c cells slots Q nL D A ws lv pc st := by
  intro H locs ls hP hD hS hl
  refine sf_goN cx (va_runI ⟨cx.1, cx.2.1, cx.2.2.1, cx.2.2.2.1, cx.2.2.2.2.1⟩ (hc H.size) ⟨callB_of n cx.2.2.2.2.1 (sf_ht pk.1.2.1) rfl hrm.1 hrm.2 (cx.2.2.2.2.1 _ pk.1.1) (cx.2.2.2.2.1 _ hlink) pk.1.2.2 hR, pk.2.2, cx.2.2.2.2.1 _ pk.2.1⟩ ⟨sf_Pc_blind, sf_pre cx hP hD hS is hC hnd⟩ rfl hnA hl.1 hst (lv_room hW) hdg hcs) hP hD hS hl is isR hC hRs hnR hdis hn k
theorem sw_new (cx : sf_Cx p m meth c cc nL s args own D tys A) {C : String} {T : u_T} {N ci index : Nat} (hin : ∀ w ∈ u_ws C T N, w ∈ sf_gtbl) (ty : Nat → FieldType) (hty : ∀ k, k < N → parseFieldDescriptor (T k).2.2.1 = some (ty k)) (hcl : Cond.classLink own index C ∈ sf_gtbl) (hinst : Cond.instantiable C N ∈ sf_gtbl) (hini : Cond.initialized C ∈ sf_gtbl) (hc : vwCl[ci]? = some (C, T, N)) {fs : List Value} (hfs : ∀ j, j < N → defaultValue (ty j) = vp_V fs j) (hcs : cells + 1 ≤ R.cells ∧ slots + N ≤ R.slots) (hdg : decode cc pc = .ok (.new index, 3)) (hn : pc + 3 = pc') (k : ∀ q, sf_W p l e R s m args below meth c (cells + 1) (slots + N) Q nL D A (ws ++ [(q, .inr (ci, fs))]) lv pc' (.ref q :: st)) : sf_W p l e R s m args below meth c cells slots Q nL D A ws lv pc st :=
  fun H locs ls hP hD hS hl => va_new cx.1 cx.2.1 cx.2.2.2.2.1 hin ty hty cx.2.2.2.1 (cx.2.2.2.2.1 _ hcl) (cx.2.2.2.2.1 _ hinst) (cx.2.2.2.2.1 _ hini) cx.2.2.2.2.2.2.1 hP hD hS cx.2.2.2.2.2.2.2.1 hc hfs hcs.1 hcs.2 hdg (fun q H1 hP1 hD1 hS1 => hn ▸ k q H1 locs ls hP1 hD1 hS1 hl)
theorem sw_newI (cx : sf_Cx p m meth c cc nL s args own D tys A) (harr : Cond.arrayClass (newarray.typeOf .int) ∈ sf_gtbl) {cI : ClassId} (t0 : Nat) (ht : tys[t0]? = some (cI, .int)) {n : Int32} {N' : Nat} (h0 : ¬ n < 0) (hN : n.toNatClampNeg = N') (hb : N' ≤ 100000) (hcs : cells + 1 ≤ R.cells ∧ slots + N' ≤ R.slots) (hdg : decode cc pc = .ok (.newarray .int, 2)) (hn : pc + 2 = pc') (k : ∀ q, sf_W p l e R s m args below meth c (cells + 1) (slots + N') Q nL D A (ws ++ [(q, .inl (cI, N', .inl (fun _ => 0)))]) lv pc' (.ref q :: st)) : sf_W p l e R s m args below meth c cells slots Q nL D A ws lv pc (.int n :: st) := by
  intro H locs ls hP hD hS hl
  refine va_newa (ty := .int) (a0 := (N', .inl (fun _ => 0))) cx.1 cx.2.1 (cx.2.2.2.2.1 _ harr) rfl cx.2.2.2.2.2.2.1 hP hD hS cx.2.2.2.2.2.2.2.1 (fun _ => rfl) h0 hN (by show N' * 4 ≤ _; omega) hcs.1 hcs.2 hdg (fun q cA H1 hK1 hP1 hD1 hS1 => ?_)
  have e1 := va_nm_int (hK1.2 tys.length (cA, .int) (by rw [List.getElem?_append_right (Nat.le_refl _), Nat.sub_self]; rfl)).2
  have e2 := va_nm_int (cx.2.2.2.2.2.2.1.2 t0 (cI, .int) ht).2
  have e : cA = cI := Option.some.inj (e1.symm.trans e2)
  subst e
  exact hn ▸ k q H1 locs ls hP1 hD1 hS1 hl
theorem sw_newL (cx : sf_Cx p m meth c cc nL s args own D tys A) (harr : Cond.arrayClass (newarray.typeOf .long) ∈ sf_gtbl) {cJ : ClassId} (t0 : Nat) (ht : tys[t0]? = some (cJ, .long)) {n : Int32} {N' : Nat} (h0 : ¬ n < 0) (hN : n.toNatClampNeg = N') (hb : N' ≤ 100000) (hcs : cells + 1 ≤ R.cells ∧ slots + N' ≤ R.slots) (hdg : decode cc pc = .ok (.newarray .long, 2)) (hn : pc + 2 = pc') (k : ∀ q, sf_W p l e R s m args below meth c (cells + 1) (slots + N') Q nL D A (ws ++ [(q, .inl (cJ, N', .inr (.inl (fun _ => 0))))]) lv pc' (.ref q :: st)) : sf_W p l e R s m args below meth c cells slots Q nL D A ws lv pc (.int n :: st) := by
  intro H locs ls hP hD hS hl
  refine va_newa (ty := .long) (a0 := (N', .inr (.inl (fun _ => 0)))) cx.1 cx.2.1 (cx.2.2.2.2.1 _ harr) rfl cx.2.2.2.2.2.2.1 hP hD hS cx.2.2.2.2.2.2.2.1 (fun _ => rfl) h0 hN (by show N' * 8 ≤ _; omega) hcs.1 hcs.2 hdg (fun q cA H1 hK1 hP1 hD1 hS1 => ?_)
  have e1 := va_nm_long (hK1.2 tys.length (cA, .long) (by rw [List.getElem?_append_right (Nat.le_refl _), Nat.sub_self]; rfl)).2
  have e2 := va_nm_long (cx.2.2.2.2.2.2.1.2 t0 (cJ, .long) ht).2
  have e : cA = cJ := Option.some.inj (e1.symm.trans e2)
  subst e
  exact hn ▸ k q H1 locs ls hP1 hD1 hS1 hl
theorem sw_putF (cx : sf_Cx p m meth c cc nL s args own D tys A) (hin2 : meth.name = "<init>") {C : String} {T : u_T} {N ci index : Nat} (hin : ∀ w ∈ u_ws C T N, w ∈ sf_gtbl) (ty0 : Nat → FieldType) (hty : ∀ k, k < N → parseFieldDescriptor (T k).2.2.1 = some (ty0 k)) (hnm : ∀ a, a < N → ∀ b, b < N → a ≠ b → (T a).2.1 ≠ (T b).2.1) (q0 : Nat) {a : Nat} {fs : List Value} (he : ws[q0]? = some (a, .inr (ci, fs))) (hc : vwCl[ci]? = some (C, T, N)) (k0 : Nat) (hk : k0 < N) (hlink : Cond.fieldLink own index (T k0).1 (T k0).2.1 (T k0).2.2.1 ∈ sf_gtbl) (hfin : (T k0).2.2.2 = true) (hdecl : (T k0).1 = own) {v : Value} (hv : narrow (ty0 k0) v = v) (hfit : fits (ty0 k0) v = true) (hl0 : k0 < fs.length) (hdg : decode cc pc = .ok (.putfield index, 3)) {ws' : va_W} (hw : ws.set q0 (a, .inr (ci, fs.set k0 v)) = ws') (hn : pc + 3 = pc') (k : sf_W p l e R s m args below meth c cells slots Q nL D A ws' lv pc' st) : sf_W p l e R s m args below meth c cells slots Q nL D A ws lv pc (v :: .ref a :: st) :=
  fun H locs ls hP hD hS hl => va_putF cx.1 cx.2.1 cx.2.2.2.2.1 hin ty0 hty hnm cx.2.2.2.1 cx.2.2.2.2.2.2.1 hP hD hS q0 he hc k0 hk (cx.2.2.2.2.1 _ hlink) (fun _ h => h) hfin hin2 hdecl (hty k0 hk) hv hfit hl0 hdg (fun H1 locs1 hP1 hD1 hS1 => hn ▸ k H1 locs1 ls (hw ▸ hP1) (hw ▸ hD1) hS1 hl)
theorem sw_objI (cx : sf_Cx p m meth c cc nL s args own D tys A) {idx : Nat} (hlink : Cond.methodLink own idx Lib.objectInit ∈ sf_gtbl) (hinst : Cond.instanceMethod Lib.objectInit ∈ sf_gtbl) (hcode : Cond.code Lib.objectInit ⟨#[0xb1]⟩ 1 none ∈ sf_gtbl) {a : Nat} (hframes : 1 ≤ R.frames) (hlocals : (st.map fun v => v.category).sum + 12 ≤ R.locals) (hdg : decode cc pc = .ok (.invokespecial idx, 3)) (hn : pc + 3 = pc') (k : sf_W p l e R s m args below meth c cells slots Q nL D A ws lv pc' st) : sf_W p l e R s m args below meth c cells slots Q nL D A ws lv pc (.ref a :: st) :=
  fun H locs ls hP hD hS hl => W.objInit cx.1 cx.2.1 cx.2.2.2.1 (cx.2.2.2.2.1 _ hlink) (cx.2.2.2.2.1 _ hinst) (cx.2.2.2.2.1 _ hcode) rfl (hl.1.trans cx.2.2.1.symm) rfl hdg hframes (by show 2 * 0 + _ + 12 ≤ _; omega) (hn ▸ k H locs ls hP hD hS hl)
theorem sw_aastO (cx : sf_Cx p m meth c cc nL s args own D tys A) (q0 t0 qk ci : Nat) {E : String} {cA : ClassId} {r : vw_C} {a n v : Nat} {vs : List Value} {f : Nat → Option Nat} (ha : ws[q0]? = some (a, .inl (cA, n, .inr (.inr (.inr (.inr f)))))) (ht : tys[t0]? = some (cA, .object E)) (hca : Cond.castable r.1 E ∈ sf_nwL) (hv : ws[qk]? = some (v, .inr (ci, vs))) (hc : vwCl[ci]? = some r) {i : Int32} (hin : vp_in i n) (hdg : decode cc pc = .ok (.aastore, 1)) {ws' : va_W} (hw : ws.set q0 (a, .inl (cA, n, .inr (.inr (.inr (.inr (va_up f i.toNatClampNeg (some v))))))) = ws') (hn : pc + 1 = pc') (k : sf_W p l e R s m args below meth c cells slots Q nL D A ws' lv pc' st) : sf_W p l e R s m args below meth c cells slots Q nL D A ws lv pc (.ref v :: .int i :: .ref a :: st) :=
  fun H locs ls hP hD hS hl => va_astqO cx.1 cx.2.1 cx.2.2.2.2.2.2.1 hP hD hS q0 t0 qk ci ha ht (cx.2.2.2.2.2.1 _ hca) hv hc hin hdg (fun H1 locs1 hP1 hD1 hS1 => hn ▸ k H1 locs1 ls (hw ▸ hP1) (hw ▸ hD1) hS1 hl)
theorem sw_aast (cx : sf_Cx p m meth c cc nL s args own D tys A) (q0 t0 qk ci : Nat) {cA : ClassId} {r : vw_C} {a n v : Nat} {vs : List Value} {f : Nat → Option Nat} (ha : ws[q0]? = some (a, .inl (cA, n, .inr (.inr (.inr (.inr f)))))) (ht : tys[t0]? = some (cA, .object r.1)) (hv : ws[qk]? = some (v, .inr (ci, vs))) (hc : vwCl[ci]? = some r) {i : Int32} (hin : vp_in i n) (hdg : decode cc pc = .ok (.aastore, 1)) {ws' : va_W} (hw : ws.set q0 (a, .inl (cA, n, .inr (.inr (.inr (.inr (va_up f i.toNatClampNeg (some v))))))) = ws') (hn : pc + 1 = pc') (k : sf_W p l e R s m args below meth c cells slots Q nL D A ws' lv pc' st) : sf_W p l e R s m args below meth c cells slots Q nL D A ws lv pc (.ref v :: .int i :: .ref a :: st) :=
  fun H locs ls hP hD hS hl => va_astq cx.1 cx.2.1 cx.2.2.2.2.2.2.1 hP hD hS q0 t0 qk ci ha ht hv hc hin hdg (fun H1 locs1 hP1 hD1 hS1 => hn ▸ k H1 locs1 ls (hw ▸ hP1) (hw ▸ hD1) hS1 hl)
end CN
