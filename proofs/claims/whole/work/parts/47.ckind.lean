/-! constructors: the kinds -/
section CK
variable {p : Program} {l : Launch} {e : Env} {R : Room} {s : State} {m : MethodId} {args : Array Value} {below : List Frame} {meth : Method} {c : Code} {cells slots : Nat} {Q : State → Prop} {cc : ByteArray} {nL : Nat} {own : String} {D : sf_D} {tys : List (ClassId × FieldType)} {A : Nat → Prop} {ws : va_W} {lv lv' : List (Nat × Value)} {pc pc' : Nat} {st rest : List Value} {P : va_W → Prop} {mc ms : Nat}
theorem sw_callIN (cx : sf_Cx p m meth c cc nL s args own D tys A) {y : MethodName} {bytes : ByteArray} {maxL n index : Nat} {rm : Room} {wc wr : va_W} {As : List Value} {b : Nat} {host : String} (hc : sf_Cn l y bytes maxL rm D tys (.ref b :: As) wc P mc ms) (pk : sf_PkI y bytes maxL n) (hlink : Cond.methodLinkNest own index y host ∈ sf_nwL) (hrm : rm.cells = mc ∧ rm.slots = ms) (hR : rm.frames + 1 ≤ R.frames ∧ 8 + (maxL + 11) + rm.locals ≤ R.locals) (hcs : cells + mc ≤ R.cells ∧ slots + ms ≤ R.slots) (is isR : List Nat) (hC : is.map (fun i => ws[i]?) = wc.map some) (hnd : va_nd is = true) (hRs : isR.map (fun i => ws[i]?) = wr.map some) (hnR : va_nd isR = true) (hdis : ∀ i ∈ isR, i ∉ is) (hnA : As.length = n) (hW : (rest.map fun v => v.category).sum ≤ 8) (hst : st = As.reverse ++ .ref b :: rest) (hdg : decode cc pc = .ok (.invokespecial index, 3)) (hn : pc + 3 = pc') (k : ∀ w', P w' → sf_W p l e R s m args below meth c (cells + mc) (slots + ms) Q nL D A (wr ++ w') lv pc' rest) : sf_W p l e R s m args below meth c cells slots Q nL D A ws lv pc st := by
  intro H locs ls hP hD hS hl
  refine sf_goN cx (va_runIN ⟨cx.1, cx.2.1, cx.2.2.1, cx.2.2.2.1, cx.2.2.2.2.1⟩ (hc H.size) ⟨va_cnB n cx.2.2.2.2.1 (sf_ht pk.1.2.1) rfl hrm.1 hrm.2 (cx.2.2.2.2.2.1 _ hlink) (cx.2.2.2.2.1 _ pk.1.1) pk.1.2.2 hR, pk.2.2, cx.2.2.2.2.1 _ pk.2.1⟩ ⟨sf_Pc_blind, sf_pre cx hP hD hS is hC hnd⟩ rfl hnA hl.1 hst (lv_room hW) hdg hcs) hP hD hS hl is isR hC hRs hnR hdis hn k
end CK
abbrev rm_K : Room := ({ frames := 1, cells := 0, slots := 0, locals := 12 } : Room)
abbrev rm_K2 : Room := ({ frames := 2, cells := 0, slots := 0, locals := 32 } : Room)
theorem pi_X3 : sf_PkI yX3_init cX3_init 1 0 := ⟨⟨ini_RX3, code_yX3_init, by decide, by decide, by decide +kernel⟩, inst_yX3_init, rfl⟩
theorem n_X3 (l : Launch) (D : sf_D) (tys : List (ClassId × FieldType)) (b ci : Nat) : sf_Cn l yX3_init cX3_init 1 rm_K D tys [.ref b] [(b, .inr (ci, []))] (fun w => w = [(b, .inr (ci, []))]) 0 0 := by
  refine sf_metN (lv := [(0, .ref b)]) (by decide) (Nat.le_of_ble_eq_true rfl) rfl ?_
  intro p e s m args below meth c A Q cx hr hnm hQ
  have cx : sf_Cx p m meth c cX3_init 1 s args RX3 D tys A := cx
  refine sw_aload_n (pc' := 1) cx dX3_init_0 rfl 0 rfl rfl ?_
  refine sw_objI (pc' := 4) cx ml_RX3_1 inst_objectInit code_objectInit (by decide) (by decide) dX3_init_1 rfl ?_
  exact sw_vretN cx hr hQ rfl dX3_init_4
theorem n_X6 (l : Launch) (D : sf_D) (tys : List (ClassId × FieldType)) (b ci : Nat) : sf_Cn l yX6_init cX6_init 1 rm_K2 D tys [.ref b] [(b, .inr (ci, []))] (fun w => w = [(b, .inr (ci, []))]) 0 0 := by
  refine sf_metN (lv := [(0, .ref b)]) (by decide) (Nat.le_of_ble_eq_true rfl) rfl ?_
  intro p e s m args below meth c A Q cx hr hnm hQ
  have cx : sf_Cx p m meth c cX6_init 1 s args RX6 D tys A := cx
  refine sw_aload_n (pc' := 1) cx dX6_init_0 rfl 0 rfl rfl ?_
  refine sw_callIN (As := []) (rest := []) (wr := []) (pc' := 4) cx (n_X3 l D tys b ci) pi_X3 mn_RX6_1 ⟨rfl, rfl⟩ ⟨by decide, by decide⟩ ⟨by decide, by decide⟩ [0] [] rfl rfl rfl rfl (fun i hi => absurd hi (List.not_mem_nil)) rfl (by decide) rfl dX6_init_1 rfl (fun w' hw => ?_)
  subst hw
  exact sw_vretN cx hr hQ rfl dX6_init_4
abbrev rm_K3 : Room := ({ frames := 3, cells := 0, slots := 0, locals := 52 } : Room)
theorem pi_X6 : sf_PkI yX6_init cX6_init 1 0 := ⟨pk_yX6_init, inst_yX6_init, rfl⟩
theorem pi_X0 : sf_PkI yX0_init cX0_init 1 0 := ⟨pk_yX0_init, inst_yX0_init, rfl⟩
theorem pi_X2 : sf_PkI yX2_init cX2_init 1 0 := ⟨pk_yX2_init, inst_yX2_init, rfl⟩
theorem pi_X1 : sf_PkI yX1_init cX1_init 1 0 := ⟨pk_yX1_init, inst_yX1_init, rfl⟩
theorem pi_X5 : sf_PkI yX5_init cX5_init 1 0 := ⟨pk_yX5_init, inst_yX5_init, rfl⟩
theorem n_X0 (l : Launch) (D : sf_D) (tys : List (ClassId × FieldType)) (b ci : Nat) : sf_Cn l yX0_init cX0_init 1 rm_K2 D tys [.ref b] [(b, .inr (ci, []))] (fun w => w = [(b, .inr (ci, []))]) 0 0 := by
  refine sf_metN (lv := [(0, .ref b)]) (by decide) (Nat.le_of_ble_eq_true rfl) rfl ?_
  intro p e s m args below meth c A Q cx hr hnm hQ
  have cx : sf_Cx p m meth c cX0_init 1 s args RX0 D tys A := cx
  refine sw_aload_n (pc' := 1) cx dX0_init_0 rfl 0 rfl rfl ?_
  refine sw_callIN (As := []) (rest := []) (wr := []) (pc' := 4) cx (n_X3 l D tys b ci) pi_X3 mn_RX0_1 ⟨rfl, rfl⟩ ⟨by decide, by decide⟩ ⟨by decide, by decide⟩ [0] [] rfl rfl rfl rfl (fun i hi => absurd hi (List.not_mem_nil)) rfl (by decide) rfl dX0_init_1 rfl (fun w' hw => ?_)
  subst hw
  exact sw_vretN cx hr hQ rfl dX0_init_4
theorem n_X2 (l : Launch) (D : sf_D) (tys : List (ClassId × FieldType)) (b ci : Nat) : sf_Cn l yX2_init cX2_init 1 rm_K2 D tys [.ref b] [(b, .inr (ci, []))] (fun w => w = [(b, .inr (ci, []))]) 0 0 := by
  refine sf_metN (lv := [(0, .ref b)]) (by decide) (Nat.le_of_ble_eq_true rfl) rfl ?_
  intro p e s m args below meth c A Q cx hr hnm hQ
  have cx : sf_Cx p m meth c cX2_init 1 s args RX2 D tys A := cx
  refine sw_aload_n (pc' := 1) cx dX2_init_0 rfl 0 rfl rfl ?_
  refine sw_callIN (As := []) (rest := []) (wr := []) (pc' := 4) cx (n_X3 l D tys b ci) pi_X3 mn_RX2_1 ⟨rfl, rfl⟩ ⟨by decide, by decide⟩ ⟨by decide, by decide⟩ [0] [] rfl rfl rfl rfl (fun i hi => absurd hi (List.not_mem_nil)) rfl (by decide) rfl dX2_init_1 rfl (fun w' hw => ?_)
  subst hw
  exact sw_vretN cx hr hQ rfl dX2_init_4
theorem n_X1 (l : Launch) (D : sf_D) (tys : List (ClassId × FieldType)) (b ci : Nat) : sf_Cn l yX1_init cX1_init 1 rm_K3 D tys [.ref b] [(b, .inr (ci, []))] (fun w => w = [(b, .inr (ci, []))]) 0 0 := by
  refine sf_metN (lv := [(0, .ref b)]) (by decide) (Nat.le_of_ble_eq_true rfl) rfl ?_
  intro p e s m args below meth c A Q cx hr hnm hQ
  have cx : sf_Cx p m meth c cX1_init 1 s args RX1 D tys A := cx
  refine sw_aload_n (pc' := 1) cx dX1_init_0 rfl 0 rfl rfl ?_
  refine sw_callIN (As := []) (rest := []) (wr := []) (pc' := 4) cx (n_X2 l D tys b ci) pi_X2 mn_RX1_1 ⟨rfl, rfl⟩ ⟨by decide, by decide⟩ ⟨by decide, by decide⟩ [0] [] rfl rfl rfl rfl (fun i hi => absurd hi (List.not_mem_nil)) rfl (by decide) rfl dX1_init_1 rfl (fun w' hw => ?_)
  subst hw
  exact sw_vretN cx hr hQ rfl dX1_init_4
theorem n_X5 (l : Launch) (D : sf_D) (tys : List (ClassId × FieldType)) (b ci : Nat) : sf_Cn l yX5_init cX5_init 1 rm_K3 D tys [.ref b] [(b, .inr (ci, []))] (fun w => w = [(b, .inr (ci, []))]) 0 0 := by
  refine sf_metN (lv := [(0, .ref b)]) (by decide) (Nat.le_of_ble_eq_true rfl) rfl ?_
  intro p e s m args below meth c A Q cx hr hnm hQ
  have cx : sf_Cx p m meth c cX5_init 1 s args RX5 D tys A := cx
  refine sw_aload_n (pc' := 1) cx dX5_init_0 rfl 0 rfl rfl ?_
  refine sw_callIN (As := []) (rest := []) (wr := []) (pc' := 4) cx (n_X0 l D tys b ci) pi_X0 mn_RX5_1 ⟨rfl, rfl⟩ ⟨by decide, by decide⟩ ⟨by decide, by decide⟩ [0] [] rfl rfl rfl rfl (fun i hi => absurd hi (List.not_mem_nil)) rfl (by decide) rfl dX5_init_1 rfl (fun w' hw => ?_)
  subst hw
  exact sw_vretN cx hr hQ rfl dX5_init_4
