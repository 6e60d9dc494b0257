/-! constructors: contracts that make cells -/
def sf_Qn (D : sf_D) (tys : List (ClassId × FieldType)) (A : Nat → Prop) (P : va_W → Prop) : Array Value → State → Outcome → State → Prop := fun _ st oc t => (∃ w', P w' ∧ oc = .returned none ∧ va_P D.1 vwCl w' t.heap ∧ va_K D.1 vwCl tys t ∧ va_D A w') ∧ va_F A st t
def sf_Cn (l : Launch) (y : MethodName) (cc : ByteArray) (maxL : Nat) (rm : Room) (D : sf_D) (tys : List (ClassId × FieldType)) (av : List Value) (ws : va_W) (P : va_W → Prop) (mc ms : Nat) : Prop :=
  ∀ sz : Nat, Met l y (Cond.code y cc maxL none :: sf_gtbl) rm (sf_Pc D tys av ws sz) (sf_Qn D tys (va_A ws sz) P) mc ms (va_A ws sz)
section CN
variable {p : Program} {l : Launch} {e : Env} {R : Room} {s : State} {m : MethodId} {args : Array Value} {below : List Frame} {meth : Method} {c : Code} {cells slots : Nat} {Q : State → Prop} {cc : ByteArray} {nL : Nat} {own : String} {D : sf_D} {tys : List (ClassId × FieldType)} {A : Nat → Prop} {ws : va_W} {lv lv' : List (Nat × Value)} {pc pc' : Nat} {st rest : List Value} {P : va_W → Prop} {mc ms : Nat}
theorem sf_metN {y : MethodName} {maxL : Nat} {rm : Room} {av : List Value} (hy : plainName y.cls = true) (hlen : (lg_sl av).length ≤ maxL) (hlv : lv_args 0 av = lv)
    (body : ∀ (p : Program) (e : Env) (s : State) (m : MethodId) (args : Array Value) (below : List Frame) (meth : Method) (c : Code) (A : Nat → Prop) (Q : State → Prop), sf_Cx p m meth c cc maxL s args y.cls D tys A → meth.sig.returnType = none → Q = MQ below (sf_Qn D tys A P) args s mc ms A → sf_W p l e rm s m args below meth c 0 0 Q maxL D A ws lv 0 []) : sf_Cn l y cc maxL rm D tys av ws P mc ms := by
  intro sz
  refine Met.ofW (cc := cc) (maxL := maxL) (ret := none) hy rfl ?_
  intro p e s m args below meth c s₁ B hml hv
  obtain ⟨rfl, hsz, hP, hK, hD0, hN, hSt⟩ := hv
  have hts := atoms_spec (ws := Cond.code y cc maxL none :: sf_gtbl) B.pre
  have hown : s.vm.findClass y.cls = some m.cls := findClass_of_methodNamed B.named
  subst hsz
  have hD := hD0.self (sz := s.heap.size)
  have hA : ∀ q : Nat, s.heap.size ≤ q → va_A ws s.heap.size q := fun q h => Or.inr h
  have hl := lv_entry av (n := maxL) hlen
  rw [hlv] at hl
  rw [lg_entry_eq]
  exact body p e s m _ below meth c (va_A ws s.heap.size) _ ⟨B.exec, B.bytes, hml, hown, fun w h => hts w (List.mem_cons_of_mem _ h), hN, hK, hA, B.notSynchronized, hSt⟩ B.returns rfl s.heap [] _ hP hD va_S.rf hl
theorem sw_vretN (cx : sf_Cx p m meth c cc nL s args own D tys A) (hr : meth.sig.returnType = none) (hQ : Q = MQ below (sf_Qn D tys A P) args s mc ms A) (hp : P ws) (hdg : decode cc pc = .ok (.return_, 1)) : sf_W p l e R s m args below meth c mc ms Q nL D A ws lv pc [] := by
  subst hQ
  exact fun H locs ls hP hD hS hl => W.vret cx.1 cx.2.1 hr (fun t ht hW => ⟨⟨ws, hp, rfl, by rw [ht]; exact hP, va_K.moved hW.alike cx.2.2.2.2.2.2.1, hD⟩, hS.F ht⟩) hS.2.2 hdg cx.2.2.2.2.2.2.2.2.1
/-- the same cells in another order, or fewer -/
theorem sw_perm {w' : va_W} (is : List Nat) (hs : is.map (fun i => ws[i]?) = w'.map some) (hn : va_nd is = true) (k : sf_W p l e R s m args below meth c cells slots Q nL D A w' lv pc st) : sf_W p l e R s m args below meth c cells slots Q nL D A ws lv pc st := by
  intro H locs ls hP hD hS hl
  refine k H locs ls (fun j q hq => ?_) (hD.sub is hn hs) hS hl
  obtain ⟨i, -, hi⟩ := sf_at hs j q hq
  exact hP i q hi
/-- behind a call that makes cells: the caller's other cells, then what the callee left -/
theorem sf_goN {H : Heap} {locs : List Loc} {ls : Array Slot} {wc wr : va_W} {a : Array Value} (cx : sf_Cx p m meth c cc nL s args own D tys A)
    (hr : va_Run p l e R s m args below meth c H locs cells slots mc ms (F0 m pc ls st) rest (sf_Qn D tys (va_A wc H.size) P a) (va_A wc H.size)) (hP : va_P D.1 vwCl ws H) (hD : va_D A ws) (hS : va_S A s.heap H locs) (hl : lv_has ls nL lv) (is isR : List Nat) (hC : is.map (fun i => ws[i]?) = wc.map some) (hR : isR.map (fun i => ws[i]?) = wr.map some) (hnR : va_nd isR = true) (hdis : ∀ i ∈ isR, i ∉ is)
    (hn : pc + 3 = pc') (k : ∀ w', P w' → sf_W p l e R s m args below meth c (cells + mc) (slots + ms) Q nL D A (wr ++ w') lv pc' rest) : W p l e R s m args below meth c H locs cells slots Q (F0 m pc ls st) := by
  subst hn
  have hF := va_free (wc := wc) hD hS cx.2.2.2.2.2.2.2.1 is hC
  intro T hT X
  obtain ⟨v, st₀, t, T', L, h0, X', hL, e1, e2, ⟨⟨w', hp, hv, hP1, hK1, hD1⟩, hz, hk⟩, stp⟩ := hr T hT X
  cases hv
  rw [h0] at hz hk
  rw [← e1] at hP1 hz hk
  obtain ⟨hP2, hD2⟩ := va_join hP hD is isR hC hR hnR hdis hk hF hP1 hD1
  obtain ⟨t2, a1, b1⟩ := k w' hp T'.heap (locs ++ L) ls hP2 hD2
    ⟨Nat.le_trans hS.1 hz, fun q h1 h2 => by rw [hk q (Nat.lt_of_lt_of_le h1 hS.1) (fun z => h2 (hF q z))]; exact hS.2.1 q h1 h2, fun q hq => by
      rcases List.mem_append.mp hq with h | h
      · exact hS.2.2 q h
      · exact hF _ (hL q h)⟩ hl T' rfl X'
  exact ⟨t2, stp t2 a1, b1⟩
def sf_PkI (y : MethodName) (bytes : ByteArray) (maxL n : Nat) : Prop := sf_Pk y bytes maxL none n ∧ Cond.instanceMethod y ∈ sf_gtbl ∧ y.name = "<init>"
theorem sw_callI (cx : sf_Cx p m meth c cc nL s args own D tys A) {y : MethodName} {bytes : ByteArray} {maxL n index : Nat} {rm : Room} {wc wr : va_W} {As : List Value} {b : Nat} (hc : sf_Cn l y bytes maxL rm D tys (.ref b :: As) wc P mc ms) (pk : sf_PkI y bytes maxL n) (hlink : Cond.methodLink own index y ∈ sf_gtbl) (hrm : rm.cells = mc ∧ rm.slots = ms) (hR : rm.frames + 1 ≤ R.frames ∧ 8 + (maxL + 11) + rm.locals ≤ R.locals) (hcs : cells + mc ≤ R.cells ∧ slots + ms ≤ R.slots) (is isR : List Nat) (hC : is.map (fun i => ws[i]?) = wc.map some) (hnd : va_nd is = true) (hRs : isR.map (fun i => ws[i]?) = wr.map some) (hnR : va_nd isR = true) (hdis : ∀ i ∈ isR, i ∉ is) (hnA : As.length = n) (hW : (rest.map fun v => v.category).sum ≤ 8) (hst : st = As.reverse ++ .ref b :: rest) (hdg : decode cc pc = .ok (.invokespecial index, 3)) (hn : pc + 3 = pc') (k : ∀ w', P w' → sf_W p l e R s m args below meth c (cells + mc) (slots + ms) Q nL D A (wr ++ w') lv pc' rest) : sf_W p l e R s m args below meth c cells slots Q nL D A ws lv pc st := by
  intro H locs ls hP hD hS hl
  refine sf_goN cx (va_runI ⟨cx.1, cx.2.1, cx.2.2.1, cx.2.2.2.1, cx.2.2.2.2.1⟩ (hc H.size) ⟨callB_of n cx.2.2.2.2.1 (sf_ht pk.1.2.1) rfl hrm.1 hrm.2 (cx.2.2.2.2.1 _ pk.1.1) (cx.2.2.2.2.1 _ hlink) pk.1.2.2 hR, pk.2.2, cx.2.2.2.2.1 _ pk.2.1⟩ ⟨sf_Pc_blind, sf_pre cx hP hD hS is hC hnd⟩ rfl hnA hl.1 hst (lv_room hW) hdg hcs) hP hD hS hl is isR hC hRs hnR hdis hn k
end CN
