/-! THE CLAIM OUT OF ONE WALK OF THE LAW'S BODY. Your part is whole_start (and what it stands on); all else here is the same for every law, but numbers. -/
def R_law : String := "StairFinesLaw"
def lw_P (b : Addr) (xs : List Int32) (args : Array Value) (s : State) : Prop := args = #[.ref b] ∧ s.IntsAt b xs ∧ xs.length ≤ 3072 ∧ (Jvm.Cond.and given_1 narrow_1).before args s = true
def lw_Q (_ : Array Value) (s : State) (o : Outcome) (t : State) : Prop := o = .returned (some (.int 1)) ∧ Framed s o t [] 60 2375
def lw_Z (below : List Frame) (a : Array Value) (s : State) : State → Prop := fun t => ∃ o, t.status = .running ∧ Ended t below o ∧ lw_Q a s o t
/-- the law's own end, with 1 on the stack, nothing written that was there before, its room as the claim has it -/
theorem lw_ret {p : Program} {l : Launch} {e : Env} {s : State} {m : MethodId} {below : List Frame} {meth : Method} {c : Code} {b : Nat} (hx : p.tables.exec = Jvm.exec) (hb : c.code = code) (hr : meth.sig.returnType = ret) (hlocks : meth.locks = false) {pc : Nat} {H : Heap} {ls : Array Slot} (hdg : decode code pc = .ok (.ireturn, 1)) : W p l e room_1 s m #[Value.ref b] below meth c H [] 60 2375 (lw_Z below #[Value.ref b] s) (F0 m pc ls [.int 1]) := by
  intro T hT X
  obtain ⟨fs, hret, hrun, hended, hW, hframe⟩ := X.leave (v := some (.int 1)) (hlocks := hlocks) (fun h => by rw [hr] at h; cases h)
  have hmeth' : T.vm.method? m = some meth := X.method'
  refine ⟨T.setFrames fs, ?_, .returned (some (.int 1)), hrun, hended, rfl, ⟨_, rfl⟩, hW, hframe⟩
  jvm_step X.here [X.here.top, hx, hb, hdg, hmeth', hr, ret, narrow_b1]
  (try refine ⟨rfl, ?_⟩); (try refine ⟨rfl, ?_⟩)
  first | (intro acts; rw [hret _ acts rfl rfl rfl]) | rw [hret _ _ rfl rfl rfl]
  exact Steps.refl _
/-- what holds at the law's entry: the machine, the code, the tables' words (any of lw_tbl by 'hts w (by decide +kernel)'), the script of L ints xs at the cell b, what the Statement gives of the start (any of its parts by flat_of_before) -/
def lw_At (p : Program) (s : State) (m : MethodId) (meth : Method) (c : Code) (b L : Nat) (xs : Nat → Int32) : Prop :=
  p.tables.exec = Jvm.exec ∧ c.code = code ∧ meth.sig.returnType = ret ∧ c.maxLocals = 4 ∧ s.vm.findClass R_law = some m.cls ∧ (∀ w ∈ lw_tbl, w.before #[Value.ref b] s = true) ∧ va_X b L xs s s.heap ∧ b < s.heap.size ∧ meth.locks = false ∧ (Jvm.Cond.and given_1 narrow_1).before #[Value.ref b] s = true
set_option maxRecDepth 100000 in
set_option maxHeartbeats 4000000 in
/-- the law, from its entry -/
theorem whole_start {p : Program} {e : Env} {s : State} {m : MethodId} {below : List Frame} {meth : Method} {c : Code} (l : Launch) (hflags : l.flags = flags0) {b L : Nat} {xs : Nat → Int32} (hL : L ≤ 3072) (C0 : lw_At p s m meth c b L xs) : W p l e room_1 s m #[Value.ref b] below meth c s.heap [] 0 0 (lw_Z below #[Value.ref b] s) (entryFrame m ([Value.ref b] : List Value).toArray 4) := by
  obtain ⟨hx, hb, hr, hml, hown, hts, hX, hbl, hlocks, hgv⟩ := C0
  have hg : ∀ w ∈ sf_gtbl, w.before #[Value.ref b] s = true := fun w hw => hts w (List.mem_filter.mp hw).1
  have hNW : sf_NW s := fun w hw => va_Nw.of (sf_NW_on (List.mem_filter.mp hw).2) (hts w (List.mem_append_right _ (List.mem_filter.mp hw).1))
  obtain ⟨D1, cI, cJ, cK, cS, hK⟩ := law_tys hts hg
  obtain ⟨adK, adV, hSt⟩ := law_St hts hgv
  have hAO : sf_AO s := ⟨va_AO.of (hts _ tb_o1), va_AO.of (hts _ tb_o2)⟩
  have hbA : ¬ (fun q : Nat => s.heap.size ≤ q) b := Nat.not_le.mpr hbl
  have cx : sf_Cx p m meth c cL_law 4 s #[Value.ref b] RL (D1, adK, adV) (sf_ty cI cJ cK cS) (fun q : Nat => s.heap.size ≤ q) := ⟨hx, hb, hml, hown, hg, hNW, hK, fun _ h => h, hlocks, hSt D1⟩
  have key : sf_W p l e room_1 s m #[Value.ref b] below meth c 0 0 (lw_Z below #[Value.ref b] s) 4 (D1, adK, adV) (fun q : Nat => s.heap.size ≤ q) [] [(0, .ref b)] 0 [] := by
    refine sw_new (pc' := 3) cx in_X9 tyX9 tyX9_ok cln_RL_7 isn_RX9 ini_RX9 (ci := 9) rfl df_X9 ⟨Nat.le_of_ble_eq_true rfl, Nat.le_of_ble_eq_true rfl⟩ dL_law_0 rfl (fun b1 => ?_)
    refine sw_dup (pc' := 4) cx dL_law_3 rfl rfl ?_
    refine sw_callIA (pc' := 7) (As := []) (rest := [.ref b1]) cx hAO (n_X9 l (D1, adK, adV) cI cJ cK cS b1) pi_X9 ml_RL_9 ⟨rfl, rfl⟩ ⟨Nat.le_of_ble_eq_true rfl, Nat.le_of_ble_eq_true rfl⟩ ⟨Nat.le_of_ble_eq_true rfl, Nat.le_of_ble_eq_true rfl⟩ rfl (Nat.le_of_ble_eq_true rfl) rfl dL_law_4 rfl (fun w' hw => ?_)
    obtain ⟨g, m0, m1, m2, ka, sa, sn, r0, r1, r2, rfl, h0, rfl⟩ := hw
    refine sw_astore_n (pc' := 8) (lv' := [(1, .ref (g 0)), (0, .ref b)]) cx dL_law_7 rfl (by decide) rfl rfl ?_
    refine sw_new (pc' := 11) cx in_X10 tyX10 tyX10_ok cln_RL_10 isn_RX10 ini_RX10 (ci := 10) rfl df_X10 ⟨Nat.le_of_ble_eq_true rfl, Nat.le_of_ble_eq_true rfl⟩ dL_law_8 rfl (fun b2 => ?_)
    refine sw_dup (pc' := 12) cx dL_law_11 rfl rfl ?_
    refine sw_callIL (pc' := 15) (As := []) (rest := [.ref b2]) cx (n_X10 l (D1, adK, adV) cI cJ cK cS b2) pi_X10 ml_RL_12 ⟨rfl, rfl⟩ ⟨Nat.le_of_ble_eq_true rfl, Nat.le_of_ble_eq_true rfl⟩ ⟨Nat.le_of_ble_eq_true rfl, Nat.le_of_ble_eq_true rfl⟩ rfl (Nat.le_of_ble_eq_true rfl) rfl dL_law_12 rfl (fun w' hw => ?_)
    obtain ⟨h, row, rfl, hrow, rfl⟩ := hw
    refine sw_astore_n (pc' := 16) (lv' := [(2, .ref (h 0)), (1, .ref (g 0)), (0, .ref b)]) cx dL_law_15 rfl (by decide) rfl rfl ?_
    refine sw_iconst (pc' := 17) (v := nI 0) cx dL_law_16 (by decide) rfl ?_
    refine sw_istore_n (pc' := 18) (lv' := [(3, .int (nI 0)), (2, .ref (h 0)), (1, .ref (g 0)), (0, .ref b)]) cx dL_law_17 rfl (by decide) rfl rfl ?_
    have KE : ∀ i, LG p l e s m #[Value.ref b] below meth c (lw_Z below #[Value.ref b] s) (D1, adK, adV) (fun q : Nat => s.heap.size ≤ q) g m0 m1 m2 ka sa sn h cI cJ cK cS b i 1405 := by
      intro i mu tr ke kp tby tlen ttok tsta tbeh tnum ttak sh fi row fnd tape tmany sort begs tends word valu good bits size shts lent imag befo kept hR
      refine sw_iconst (pc' := 1406) (v := 1) cx dL_law_1405 (by decide) rfl ?_
      intro H locs ls hP hD hS hl
      exact va_forget (fun q hq => hS.2.2 q hq) (lw_ret hx hb hr hlocks dL_law_1406)
    have e0 : mo0 h cI cJ row = mo_W h cI cJ row (nI 0) (fun _ => 0) (fun _ => 0) 0 0 0 0 0 0 0 (fun _ => 0) (fun _ => 0) (fun _ => 0) (fun _ => 0) (fun _ => 0) (fun _ => 0) 0 := by rw [nI_0]
    refine sw_eq (ws2 := sx_W g m0 m1 m2 ka sa sn cI cJ cK cS (M0 r0) (M0 r1) (M0 r2) 0 (fun _ => 0) 0 0 0 0 0 0 sh0 (fun _ => 0) ++ mo_W h cI cJ row (nI 0) (fun _ => 0) (fun _ => 0) 0 0 0 0 0 0 0 (fun _ => 0) (fun _ => 0) (fun _ => 0) (fun _ => 0) (fun _ => 0) (fun _ => 0) 0) (by rw [← e0]; rfl) rfl rfl rfl ?_
    exact law_loop cx hX hbl hbA hL KE (L + 7) 0 (Nat.zero_le _) (by omega) _ _ _ _ _ _ _ _ _ _ _ _ _ _ _ _ _ _ _ _ _ _ _ _ _ _ _ _ _ _ (LR_0 h0 hrow)
  have hl := lv_entry ([.ref b]) (n := 4) (Nat.le_of_ble_eq_true rfl)
  rw [lg_entry_eq]
  exact key s.heap [] _ (fun k q h => by simp at h) ⟨fun i j x y h => by simp at h, fun k q h => by simp at h⟩ va_S.rf hl
