/-! constructors: StairFines -/
def sf_AO (U : State) : Prop := va_AO "StairFines$Kind" U ∧ va_AO "StairFines$Sheet" U
def sf_CnA (l : Launch) (y : MethodName) (cc : ByteArray) (maxL : Nat) (rm : Room) (D : sf_D) (tys : List (ClassId × FieldType)) (av : List Value) (ws : va_W) (P : va_W → Prop) (mc ms : Nat) : Prop :=
  ∀ sz : Nat, Met l y (Cond.code y cc maxL none :: sf_gtbl) rm (fun a U => sf_Pc D tys av ws sz a U ∧ sf_AO U) (sf_Qn D tys (va_A ws sz) P) mc ms (va_A ws sz)
section CA
variable {p : Program} {l : Launch} {e : Env} {R : Room} {s : State} {m : MethodId} {args : Array Value} {below : List Frame} {meth : Method} {c : Code} {cells slots : Nat} {Q : State → Prop} {cc : ByteArray} {nL : Nat} {own : String} {D : sf_D} {tys : List (ClassId × FieldType)} {A : Nat → Prop} {ws : va_W} {lv lv' : List (Nat × Value)} {pc pc' : Nat} {st rest : List Value} {P : va_W → Prop} {mc ms : Nat}
theorem sf_metA {y : MethodName} {maxL : Nat} {rm : Room} {av : List Value} (hy : plainName y.cls = true) (hlen : (lg_sl av).length ≤ maxL) (hlv : lv_args 0 av = lv)
    (body : ∀ (p : Program) (e : Env) (s : State) (m : MethodId) (args : Array Value) (below : List Frame) (meth : Method) (c : Code) (A : Nat → Prop) (Q : State → Prop), sf_Cx p m meth c cc maxL s args y.cls D tys A → sf_AO s → meth.sig.returnType = none → meth.name = y.name → Q = MQ below (sf_Qn D tys A P) args s mc ms A → sf_W p l e rm s m args below meth c 0 0 Q maxL D A ws lv 0 []) : sf_CnA l y cc maxL rm D tys av ws P mc ms := by
  intro sz
  refine Met.ofW (cc := cc) (maxL := maxL) (ret := none) hy rfl ?_
  intro p e s m args below meth c s₁ B hml hv
  obtain ⟨⟨rfl, hsz, hP, hK, hD0, hN, hSt⟩, hAO⟩ := hv
  have hts := atoms_spec (ws := Cond.code y cc maxL none :: sf_gtbl) B.pre
  have hown : s.vm.findClass y.cls = some m.cls := findClass_of_methodNamed B.named
  subst hsz
  have hD := hD0.self (sz := s.heap.size)
  have hA : ∀ q : Nat, s.heap.size ≤ q → va_A ws s.heap.size q := fun q h => Or.inr h
  have hl := lv_entry av (n := maxL) hlen
  rw [hlv] at hl
  rw [lg_entry_eq]
  exact body p e s m _ below meth c (va_A ws s.heap.size) _ ⟨B.exec, B.bytes, hml, hown, fun w h => hts w (List.mem_cons_of_mem _ h), hN, hK, hA, B.notSynchronized, hSt⟩ hAO B.returns (name_of_methodNamed B.named B.method).1 rfl s.heap [] _ hP hD va_S.rf hl
theorem sw_newQ (cx : sf_Cx p m meth c cc nL s args own D tys A) {C : String} {index : Nat} (hcl : Cond.classLink own index C ∈ sf_gtbl) (hAO : va_AO C s) {cK : ClassId} (t0 : Nat) (ht : tys[t0]? = some (cK, .object C)) {n : Int32} {N' : Nat} (h0 : ¬ n < 0) (hN : n.toNatClampNeg = N') (hb : N' ≤ 100000) (hcs : cells + 1 ≤ R.cells ∧ slots + N' ≤ R.slots) (hdg : decode cc pc = .ok (.anewarray index, 3)) (hn : pc + 3 = pc') (k : ∀ q, sf_W p l e R s m args below meth c (cells + 1) (slots + N') Q nL D A (ws ++ [(q, .inl (cK, N', .inr (.inr (.inr (.inr (fun _ => none))))))]) lv pc' (.ref q :: st)) : sf_W p l e R s m args below meth c cells slots Q nL D A ws lv pc (.int n :: st) := by
  intro H locs ls hP hD hS hl
  refine va_newq cx.1 cx.2.1 cx.2.2.2.1 (cx.2.2.2.2.1 _ hcl) hAO cx.2.2.2.2.2.2.1 hP hD hS cx.2.2.2.2.2.2.2.1 h0 hN (by omega) hcs.1 hcs.2 hdg (fun q cA H1 hK1 hP1 hD1 hS1 => ?_)
  obtain ⟨_, _, _, _, _, e1⟩ := (hK1.2 tys.length (cA, .object C) (by rw [List.getElem?_append_right (Nat.le_refl _), Nat.sub_self]; rfl)).2
  obtain ⟨_, _, _, _, _, e2⟩ := (cx.2.2.2.2.2.2.1.2 t0 (cK, .object C) ht).2
  have e : cA = cK := Option.some.inj (e1.symm.trans e2)
  subst e
  exact hn ▸ k q H1 locs ls hP1 hD1 hS1 hl
end CA
