/-! the law: rows, relation -/
theorem rp_go : ∀ (wa w' pre wb : va_W), wa.length = w'.length → sf_rp (pre ++ (wa ++ wb)) (List.range' pre.length wa.length) w' = pre ++ (w' ++ wb)
  | [], [], pre, wb, _ => rfl
  | [], _ :: _, _, _, h => by simp at h
  | _ :: _, [], _, _, h => by simp at h
  | a :: wa, x :: w', pre, wb, h => by
    rw [List.length_cons, List.range'_succ]
    show sf_rp ((pre ++ (a :: wa ++ wb)).set pre.length x) (List.range' (pre.length + 1) wa.length) w' = _
    have e : (pre ++ (a :: wa ++ wb)).set pre.length x = (pre ++ [x]) ++ (wa ++ wb) := by
      rw [List.set_append_right _ _ (Nat.le_refl _), Nat.sub_self, List.cons_append, List.set_cons_zero, List.append_assoc]; rfl
    have h2 := rp_go wa w' (pre ++ [x]) wb (by simpa using h)
    rw [List.length_append] at h2
    rw [e]
    refine h2.trans ?_
    rw [List.append_assoc]; rfl
theorem rp_l {wa wb w' : va_W} (h : wa.map Prod.fst = w'.map Prod.fst) : sf_rp (wa ++ wb) (List.range' 0 wa.length) w' = w' ++ wb :=
  rp_go wa w' [] wb (by simpa using congrArg List.length h)
theorem rp_r {wa wb w' : va_W} (h : wb.map Prod.fst = w'.map Prod.fst) : sf_rp (wa ++ wb) (List.range' wa.length wb.length) w' = wa ++ w' := by
  have h2 := rp_go wb w' wa [] (by simpa using congrArg List.length h)
  rw [List.append_nil, List.append_nil] at h2
  exact h2
def bz (x : Int32) : Int32 := if x = 0 then nI 0 else nI 1
theorem bz_or (x : Int32) : bz x = nI 0 ∨ bz x = nI 1 := by
  unfold bz
  split
  · exact Or.inl rfl
  · exact Or.inr rfl
theorem and63 (x : Int32) : ∃ j, j < 64 ∧ x &&& 63 = nI j := by
  have e : (x.toUInt32 &&& Int32.toUInt32 63).toNat = x.toUInt32.toNat % 2 ^ 6 := by
    rw [UInt32.toNat_and, show (Int32.toUInt32 63).toNat = 2 ^ 6 - 1 from by decide, Nat.and_two_pow_sub_one_eq_mod]
  refine ⟨x.toUInt32.toNat % 2 ^ 6, by omega, ?_⟩
  rw [← Int32.toBitVec_inj, ← BitVec.toNat_inj]
  show (x.toUInt32 &&& Int32.toUInt32 63).toNat = (BitVec.ofNat 32 (x.toUInt32.toNat % 2 ^ 6)).toNat
  rw [e, BitVec.toNat_ofNat]
  omega
theorem cmp6 {L i : Nat} (hL : L ≤ 3072) (hi : i ≤ 4000) (h : ¬ nI L - nI 6 < nI i) : i + 6 ≤ L := by
  rcases Nat.lt_or_ge L (i + 6) with q | q
  · refine absurd ?_ h
    rw [Int32.lt_iff_toInt_lt, Int32.toInt_sub, nI_toInt (by omega), nI_toInt (by omega), nI_toInt (by omega), Int.bmod_eq_of_le (by omega) (by omega)]
    omega
  · exact q
def LR (mu ke : MtS) (kp : Int32) (tby : Nat → Int32) (tlen : Int32) (sh : Nat → ShS) (fi row fnd tape : Nat → Int32) (tmany : Int32) (bits size : Nat → Int32) (shts : Nat → Int64) (imag : Nat → Int32) (kept : Int32) : Prop := RA mu row ∧ RF fi fnd ∧ RK ke imag kp kept ∧ RT tby tape tlen tmany ∧ RH sh bits size shts
theorem RT_0 {tby tape : Nat → Int32} : RT tby tape (nI 0) (nI 0) := ⟨0, Nat.zero_le _, rfl, rfl, fun k hk => absurd hk (Nat.not_lt_zero k)⟩
theorem RT_len {tby tape : Nat → Int32} {tlen tmany : Int32} (h : RT tby tape tlen tmany) : tlen = tmany := by
  obtain ⟨L, -, h1, h2, -⟩ := h
  rw [h1, h2]
def LX (s : State) (A : Nat → Prop) (b L : Nat) (xs : Nat → Int32) (i : Nat) : Prop := va_X b L xs s s.heap ∧ b < s.heap.size ∧ ¬ A b ∧ i + 6 ≤ L ∧ L ≤ 3072
def LG (p : Program) (l : Launch) (e : Env) (s : State) (m : MethodId) (args : Array Value) (below : List Frame) (meth : Method) (c : Code) (Q : State → Prop) (D : sf_D) (A : Nat → Prop) (g m0 m1 m2 ka sa sn h : Nat → Nat) (cI cJ cK cS : ClassId) (b i pc : Nat) : Prop :=
  ∀ (mu tr ke : MtS) (kp : Int32) (tby : Nat → Int32) (tlen ttok tsta tbeh tnum ttak : Int32) (sh : Nat → ShS) (fi row fnd tape : Nat → Int32) (tmany sort begs tends : Int32) (word : Int64) (valu good : Int32) (bits size : Nat → Int32) (shts lent : Nat → Int64) (imag befo : Nat → Int32) (kept : Int32), LR mu ke kp tby tlen sh fi row fnd tape tmany bits size shts imag kept → sf_W p l e room_1 s m args below meth c 60 2375 Q 4 D A (sx_W g m0 m1 m2 ka sa sn cI cJ cK cS mu tr ke kp tby tlen ttok tsta tbeh tnum ttak sh fi ++ mo_W h cI cJ row (nI 0) fnd tape tmany sort begs tends word valu good bits size shts lent imag befo kept) [(3, .int (nI i)), (2, .ref (h 0)), (1, .ref (g 0)), (0, .ref b)] pc []
theorem sx_adr {g m0 m1 m2 ka sa sn : Nat → Nat} {cI cJ cK cS : ClassId} {mu tr ke : MtS} {kp : Int32} {tby : Nat → Int32} {tlen ttok tsta tbeh tnum ttak : Int32} {sh : Nat → ShS} {fi : Nat → Int32} {mu' tr' ke' : MtS} {kp' : Int32} {tby' : Nat → Int32} {tlen' ttok' tsta' tbeh' tnum' ttak' : Int32} {sh' : Nat → ShS} {fi' : Nat → Int32} : (sx_W g m0 m1 m2 ka sa sn cI cJ cK cS mu tr ke kp tby tlen ttok tsta tbeh tnum ttak sh fi).map Prod.fst = (sx_W g m0 m1 m2 ka sa sn cI cJ cK cS mu' tr' ke' kp' tby' tlen' ttok' tsta' tbeh' tnum' ttak' sh' fi').map Prod.fst := by
  simp only [sx_W, List.map_cons, List.map_nil]
theorem sx_0 {g m0 m1 m2 ka sa sn : Nat → Nat} {cI cJ cK cS : ClassId} {mu tr ke : MtS} {kp : Int32} {tby : Nat → Int32} {tlen ttok tsta tbeh tnum ttak : Int32} {sh : Nat → ShS} {fi : Nat → Int32} : (sx_W g m0 m1 m2 ka sa sn cI cJ cK cS mu tr ke kp tby tlen ttok tsta tbeh tnum ttak sh fi)[0]? = some (g 0, .inr (9, [.ref (m0 0), .ref (m1 0), .ref (m2 0), .int kp, .ref (g 1), .ref (g 3), .ref (g 4)])) := rfl
section LA
variable {p : Program} {l : Launch} {e : Env} {R : Room} {s : State} {m : MethodId} {args : Array Value} {below : List Frame} {meth : Method} {c : Code} {cells slots : Nat} {Q : State → Prop} {cc : ByteArray} {nL : Nat} {own : String} {D : sf_D} {tys : List (ClassId × FieldType)} {A : Nat → Prop} {ws : va_W} {lv lv' : List (Nat × Value)} {pc pc' : Nat} {st rest : List Value}
theorem sw_callA (cx : sf_Cx p m meth c cc nL s args own D tys A) {y : MethodName} {bytes : ByteArray} {maxL n index : Nat} {ret : Option FieldType} {rm : Room} {wa wb w' : va_W} {o : Option Value} {As : List Value} {b ci : Nat} {fs : List Value} {q : vw_C} (hc : sf_Ct l y bytes maxL ret rm D tys (.ref b :: As) wa o w') (pk : sf_PkV y bytes maxL ret n) (hlink : Cond.methodLink own index y ∈ sf_gtbl) (hrm : rm.cells = 0 ∧ rm.slots = 0) (hR : rm.frames + 1 ≤ R.frames ∧ 8 + (maxL + 11) + rm.locals ≤ R.locals) (hcs : cells ≤ R.cells ∧ slots ≤ R.slots) (hadr : wa.map Prod.fst = w'.map Prod.fst) (hq : wa[0]? = some (b, .inr (ci, fs))) (hcl : vwCl[ci]? = some q) (hqn : q.1 = y.cls) (hnA : As.length = n) (hW : (rest.map fun v => v.category).sum ≤ 8) (hst : st = As.reverse ++ .ref b :: rest) (hdg : decode cc pc = .ok (.invokevirtual index, 3)) (hn : pc + 3 = pc') (k : sf_W p l e R s m args below meth c cells slots Q nL D A (w' ++ wb) lv pc' (o.toList ++ rest)) : sf_W p l e R s m args below meth c cells slots Q nL D A (wa ++ wb) lv pc st :=
  sw_callV cx hc pk hlink hrm hR hcs (List.range' 0 wa.length) (ap_l wa wb) (nd_r _ _) hadr (rp_l hadr) 0 hq hcl hqn hnA hW hst hdg hn k
theorem sw_callB (cx : sf_Cx p m meth c cc nL s args own D tys A) {y : MethodName} {bytes : ByteArray} {maxL n index : Nat} {ret : Option FieldType} {rm : Room} {wa wb w' : va_W} {o : Option Value} {As : List Value} {b ci : Nat} {fs : List Value} {q : vw_C} (hc : sf_Ct l y bytes maxL ret rm D tys (.ref b :: As) wb o w') (pk : sf_PkV y bytes maxL ret n) (hlink : Cond.methodLink own index y ∈ sf_gtbl) (hrm : rm.cells = 0 ∧ rm.slots = 0) (hR : rm.frames + 1 ≤ R.frames ∧ 8 + (maxL + 11) + rm.locals ≤ R.locals) (hcs : cells ≤ R.cells ∧ slots ≤ R.slots) (hadr : wb.map Prod.fst = w'.map Prod.fst) (hq : wb[0]? = some (b, .inr (ci, fs))) (hcl : vwCl[ci]? = some q) (hqn : q.1 = y.cls) (hnA : As.length = n) (hW : (rest.map fun v => v.category).sum ≤ 8) (hst : st = As.reverse ++ .ref b :: rest) (hdg : decode cc pc = .ok (.invokevirtual index, 3)) (hn : pc + 3 = pc') (k : sf_W p l e R s m args below meth c cells slots Q nL D A (wa ++ w') lv pc' (o.toList ++ rest)) : sf_W p l e R s m args below meth c cells slots Q nL D A (wa ++ wb) lv pc st :=
  sw_callV cx hc pk hlink hrm hR hcs (List.range' wa.length wb.length) (ap_r wa wb) (nd_r _ _) hadr (rp_r hadr) 0 hq hcl hqn hnA hW hst hdg hn k
theorem sw_sld (cx : sf_Cx p m meth c cc nL s args own D tys A) {b L : Nat} {xs : Nat → Int32} (hX : va_X b L xs s s.heap) (hbl : b < s.heap.size) (hbA : ¬ A b) {i : Int32} (hin : vp_in i L) {j : Nat} (hj : i.toNatClampNeg = j) (hdg : decode cc pc = .ok (.iaload, 1)) (hn : pc + 1 = pc') (k : sf_W p l e R s m args below meth c cells slots Q nL D A ws lv pc' (.int (xs j) :: st)) : sf_W p l e R s m args below meth c cells slots Q nL D A ws lv pc (.int i :: .ref b :: st) := by
  subst hj
  exact fun H locs ls hP hD hS hl => va_sld cx.1 cx.2.1 hX hbl hbA hS hin hdg (hn ▸ k H locs ls hP hD hS hl)
theorem sw_slen (cx : sf_Cx p m meth c cc nL s args own D tys A) {b L : Nat} {xs : Nat → Int32} (hX : va_X b L xs s s.heap) (hbl : b < s.heap.size) (hbA : ¬ A b) (hdg : decode cc pc = .ok (.arraylength, 1)) (hn : pc + 1 = pc') (k : sf_W p l e R s m args below meth c cells slots Q nL D A ws lv pc' (.int (nI L) :: st)) : sf_W p l e R s m args below meth c cells slots Q nL D A ws lv pc (.ref b :: st) :=
  fun H locs ls hP hD hS hl => va_slen cx.1 cx.2.1 hX hbl hbA hS hdg (hn ▸ k H locs ls hP hD hS hl)
/-- a number of the script, k places behind the call's own -/
theorem sw_scr (cx : sf_Cx p m meth c cc nL s args own D tys A) {b L i x1 x2 : Nat} {xs : Nat → Int32} (X : LX s A b L xs i) {n : Int} (k : Nat) (hk : Int32.ofInt n = nI k) (hk6 : k < 6) (d0 : decode cc pc = .ok (.aload_n 0, 1)) (d1 : decode cc (pc + 1) = .ok (.iload_n 3, 1)) (d2 : decode cc (pc + 2) = .ok (.iconst n, 1)) (d3 : decode cc (pc + 3) = .ok (.iadd, 1)) (d4 : decode cc (pc + 4) = .ok (.iaload, 1)) (hn : pc + 5 = pc') (kk : sf_W p l e R s m args below meth c cells slots Q nL D A ws [(3, .int (nI i)), (2, .ref x2), (1, .ref x1), (0, .ref b)] pc' (.int (xs (i + k)) :: st)) : sf_W p l e R s m args below meth c cells slots Q nL D A ws [(3, .int (nI i)), (2, .ref x2), (1, .ref x1), (0, .ref b)] pc st := by
  obtain ⟨hX, hbl, hbA, hi, hL⟩ := X
  refine sw_aload_n (pc' := pc + 1) cx d0 rfl 3 rfl rfl ?_
  refine sw_iload_n (pc' := pc + 2) cx d1 rfl 0 rfl rfl ?_
  refine sw_iconst (pc' := pc + 3) cx d2 hk rfl ?_
  refine sw_iadd (pc' := pc + 4) cx d3 rfl ?_
  exact sw_sld cx hX hbl hbA (by rw [nI_add]; exact vp_in_nI (by omega) (by omega)) (by rw [nI_add]; exact nI_clamp (by omega)) d4 hn kk
theorem sw_bz (cx : sf_Cx p m meth c cc nL s args own D tys A) {x : Int32} (d0 : decode cc pc = .ok (.ifCond .eq 7, 3)) (d3 : decode cc (pc + 3) = .ok (.iconst 1, 1)) (d4 : decode cc (pc + 4) = .ok (.goto 4, 3)) (d7 : decode cc (pc + 7) = .ok (.iconst 0, 1)) (hn : pc + 8 = pc') (k : sf_W p l e R s m args below meth c cells slots Q nL D A ws lv pc' (.int (bz x) :: st)) : sf_W p l e R s m args below meth c cells slots Q nL D A ws lv pc (.int x :: st) := by
  subst hn
  refine sw_if_eq (tgt := pc + 7) (pc' := pc + 3) cx d0 (by omega) rfl (fun h => ?_) (fun h => ?_)
  · refine sw_iconst (v := nI 0) (pc' := pc + 8) cx d7 (by decide) rfl ?_
    rw [show bz x = nI 0 from if_pos h] at k
    exact k
  · refine sw_iconst (v := nI 1) (pc' := pc + 4) cx d3 (by decide) rfl ?_
    refine sw_goto (tgt := pc + 8) cx d4 (by omega) ?_
    rw [show bz x = nI 1 from if_neg h] at k
    exact k
end LA
