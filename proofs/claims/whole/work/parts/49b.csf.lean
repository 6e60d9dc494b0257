/-! StairFines.<init>, in stages; the rest of the world is any list -/
theorem ap_l (wa wb : va_W) : (List.range' 0 wa.length).map (fun i => (wa ++ wb)[i]?) = wa.map some := by
  refine List.ext_getElem (by simp) (fun i h1 h2 => ?_)
  have h3 : i < wa.length := by simpa using h2
  rw [List.getElem_map, List.getElem_map, List.getElem_range', Nat.zero_add, Nat.one_mul, List.getElem?_append_left h3, List.getElem?_eq_getElem h3]
theorem ap_r (wa wb : va_W) : (List.range' wa.length wb.length).map (fun i => (wa ++ wb)[i]?) = wb.map some := by
  refine List.ext_getElem (by simp) (fun i h1 h2 => ?_)
  have h3 : i < wb.length := by simpa using h2
  rw [List.getElem_map, List.getElem_map, List.getElem_range', Nat.one_mul, List.getElem?_append_right (Nat.le_add_right _ _), Nat.add_sub_cancel_left, List.getElem?_eq_getElem h3]
theorem nd_r : ∀ n a, va_nd (List.range' a n) = true
  | 0, _ => rfl
  | n + 1, a => by
    rw [List.range'_succ]
    simp only [va_nd, Bool.and_eq_true, decide_eq_true_eq]
    exact ⟨fun h => by rw [List.mem_range'_1] at h; omega, nd_r n (a + 1)⟩
theorem arrV_cg {cA : ClassId} {n : Nat} {f g : Nat → Value} (h : ∀ j, j < n → f j = g j) : arrV cA n f = arrV cA n g := by
  unfold arrV
  have e : (fun j : Fin n => f j.val) = fun j : Fin n => g j.val := funext fun j => h j.val j.isLt
  rw [e]
section CB2
variable {p : Program} {l : Launch} {e : Env} {R : Room} {s : State} {m : MethodId} {args : Array Value} {below : List Frame} {meth : Method} {c : Code} {cells slots : Nat} {Q : State → Prop} {cc : ByteArray} {nL : Nat} {own : String} {D : sf_D} {tys : List (ClassId × FieldType)} {A : Nat → Prop} {ws : va_W} {lv lv' : List (Nat × Value)} {pc pc' : Nat} {st rest : List Value} {P : va_W → Prop} {mc ms : Nat}
theorem sw_arrQ (q0 : Nat) {a n : Nat} {cA : ClassId} {f g : Nat → Option Nat} (ha : ws[q0]? = some (a, .inl (cA, n, .inr (.inr (.inr (.inr f)))))) (hfg : ∀ j, j < n → f j = g j) {ws' : va_W} (hw : ws.set q0 (a, .inl (cA, n, .inr (.inr (.inr (.inr g))))) = ws') (k : sf_W p l e R s m args below meth c cells slots Q nL D A ws' lv pc st) : sf_W p l e R s m args below meth c cells slots Q nL D A ws lv pc st := by
  subst hw
  intro H locs ls hP hD hS hl
  have hlt : q0 < ws.length := (List.getElem?_eq_some_iff.mp ha).1
  have key : ∀ (i : Nat) (q : Nat × va_E), (ws.set q0 (a, .inl (cA, n, .inr (.inr (.inr (.inr g))))))[i]? = some q → ∃ q1, ws[i]? = some q1 ∧ q1.1 = q.1 := by
    intro i q h
    by_cases hi : i = q0
    · subst hi
      rw [List.getElem?_set_self hlt] at h
      cases h
      exact ⟨_, ha, rfl⟩
    · rw [List.getElem?_set_ne (Ne.symm hi)] at h
      exact ⟨q, h, rfl⟩
  refine k H locs ls (fun i q h => ?_) ⟨fun i j x y hi hj hxy => ?_, fun i q h => ?_⟩ hS hl
  · by_cases hi : i = q0
    · subst hi
      rw [List.getElem?_set_self hlt] at h
      cases h
      have h1 : H[a]? = some (arrV cA n (fun j => va_rf (f j))) := hP i _ ha
      have h2 : arrV cA n (fun j => va_rf (f j)) = arrV cA n (fun j => va_rf (g j)) := arrV_cg fun j hj => by rw [hfg j hj]
      rw [h2] at h1
      exact h1
    · rw [List.getElem?_set_ne (Ne.symm hi)] at h
      exact hP i q h
  · obtain ⟨x0, h1, h2⟩ := key i x hi
    obtain ⟨y0, h3, h4⟩ := key j y hj
    exact hD.1 i j x0 y0 h1 h3 (h2.trans (hxy.trans h4.symm))
  · obtain ⟨q1, h1, h2⟩ := key i q h
    rw [← h2]
    exact hD.2 i q1 h1
theorem sw_callIL (cx : sf_Cx p m meth c cc nL s args own D tys A) {y : MethodName} {bytes : ByteArray} {maxL n index : Nat} {rm : Room} {x : Nat × va_E} {wr : va_W} {As : List Value} {b : Nat} (hc : sf_Cn l y bytes maxL rm D tys (.ref b :: As) [x] P mc ms) (pk : sf_PkI y bytes maxL n) (hlink : Cond.methodLink own index y ∈ sf_gtbl) (hrm : rm.cells = mc ∧ rm.slots = ms) (hR : rm.frames + 1 ≤ R.frames ∧ 8 + (maxL + 11) + rm.locals ≤ R.locals) (hcs : cells + mc ≤ R.cells ∧ slots + ms ≤ R.slots) (hnA : As.length = n) (hW : (rest.map fun v => v.category).sum ≤ 8) (hst : st = As.reverse ++ .ref b :: rest) (hdg : decode cc pc = .ok (.invokespecial index, 3)) (hn : pc + 3 = pc') (k : ∀ w', P w' → sf_W p l e R s m args below meth c (cells + mc) (slots + ms) Q nL D A (wr ++ w') lv pc' rest) : sf_W p l e R s m args below meth c cells slots Q nL D A (wr ++ [x]) lv pc st :=
  sw_callI cx hc pk hlink hrm hR hcs [wr.length] (List.range' 0 wr.length) (by simp) rfl (ap_l wr [x]) (nd_r _ _) (fun i hi => by rw [List.mem_range'_1] at hi; simp; omega) hnA hW hst hdg hn k
theorem sw_callINL (cx : sf_Cx p m meth c cc nL s args own D tys A) {y : MethodName} {bytes : ByteArray} {maxL n index : Nat} {rm : Room} {x : Nat × va_E} {wr : va_W} {As : List Value} {b : Nat} {host : String} (hc : sf_Cn l y bytes maxL rm D tys (.ref b :: As) [x] P mc ms) (pk : sf_PkI y bytes maxL n) (hlink : Cond.methodLinkNest own index y host ∈ sf_nwL) (hrm : rm.cells = mc ∧ rm.slots = ms) (hR : rm.frames + 1 ≤ R.frames ∧ 8 + (maxL + 11) + rm.locals ≤ R.locals) (hcs : cells + mc ≤ R.cells ∧ slots + ms ≤ R.slots) (hnA : As.length = n) (hW : (rest.map fun v => v.category).sum ≤ 8) (hst : st = As.reverse ++ .ref b :: rest) (hdg : decode cc pc = .ok (.invokespecial index, 3)) (hn : pc + 3 = pc') (k : ∀ w', P w' → sf_W p l e R s m args below meth c (cells + mc) (slots + ms) Q nL D A (wr ++ w') lv pc' rest) : sf_W p l e R s m args below meth c cells slots Q nL D A (wr ++ [x]) lv pc st :=
  sw_callIN cx hc pk hlink hrm hR hcs [wr.length] (List.range' 0 wr.length) (by simp) rfl (ap_l wr [x]) (nd_r _ _) (fun i hi => by rw [List.mem_range'_1] at hi; simp; omega) hnA hW hst hdg hn k
/-- the last cell comes to the second place -/
theorem sw_rot {c0 x : Nat × va_E} {wr : va_W} (k : sf_W p l e R s m args below meth c cells slots Q nL D A (c0 :: x :: wr) lv pc st) : sf_W p l e R s m args below meth c cells slots Q nL D A ((c0 :: wr) ++ [x]) lv pc st := by
  refine sw_perm (w' := c0 :: x :: wr) (0 :: (wr.length + 1) :: List.range' 1 wr.length) ?_ ?_ k
  · have h1 := ap_r [c0] (wr ++ [x])
    have h2 : (List.range' 1 wr.length).map (fun i => ((c0 :: wr) ++ [x])[i]?) = wr.map some := by
      refine List.ext_getElem (by simp) (fun i h1 h2 => ?_)
      have h3 : i < wr.length := by simpa using h2
      rw [List.getElem_map, List.getElem_map, List.getElem_range', Nat.one_mul, Nat.add_comm, List.cons_append, List.getElem?_cons_succ, List.getElem?_append_left h3, List.getElem?_eq_getElem h3]
    rw [List.map_cons, List.map_cons, h2]
    have h4 : ((c0 :: wr) ++ [x])[wr.length + 1]? = some x := by
      rw [List.cons_append, List.getElem?_cons_succ, List.getElem?_append_right (Nat.le_refl _), Nat.sub_self]; rfl
    rw [h4]; rfl
  · simp only [va_nd, Bool.and_eq_true, decide_eq_true_eq]
    refine ⟨fun h => ?_, fun h => ?_, nd_r _ _⟩
    · rcases List.mem_cons.mp h with h | h
      · omega
      · rw [List.mem_range'_1] at h; omega
    · rw [List.mem_range'_1] at h; omega
end CB2
section CS2
variable {p : Program} {l : Launch} {e : Env} {R : Room} {s : State} {m : MethodId} {args : Array Value} {below : List Frame} {meth : Method} {c : Code} {cells slots : Nat} {Q : State → Prop} {D : sf_D} {cI cJ cK cS : ClassId} {A : Nat → Prop} {lv : List (Nat × Value)} {pc : Nat}
theorem st_kind (cx : sf_Cx p m meth c cX9_init 2 s args RX9 D (sf_ty cI cJ cK cS) A) {C : String} {T : u_T} {ci iN iI j : Nat} {y : MethodName} {bytes : ByteArray} {rm : Room} {n : Int} {v : Int32} {c0 : Nat × va_E} {kA b : Nat} {f : Nat → Option Nat} {wr : va_W} (hc : ∀ q, sf_Cn l y bytes 1 rm D (sf_ty cI cJ cK cS) [.ref q] [(q, .inr (ci, []))] (fun w => w = [(q, .inr (ci, []))]) 0 0) (pk : sf_PkI y bytes 1 0) (hlink : Cond.methodLinkNest RX9 iI y "StairFines" ∈ sf_nwL) (hin : ∀ w ∈ u_ws C T 0, w ∈ sf_gtbl) (hcl : Cond.classLink RX9 iN C ∈ sf_gtbl) (hinst : Cond.instantiable C 0 ∈ sf_gtbl) (hini : Cond.initialized C ∈ sf_gtbl) (hci : vwCl[ci]? = some (C, T, 0)) (hE : C = "StairFines$Kind" ∨ Cond.castable C "StairFines$Kind" ∈ sf_nwL) (hrm : rm.cells = 0 ∧ rm.slots = 0) (hR : rm.frames + 1 ≤ R.frames ∧ 8 + (1 + 11) + rm.locals ≤ R.locals) (hcs : cells + 1 ≤ R.cells ∧ slots ≤ R.slots) (hv : Int32.ofInt n = v) (hvin : vp_in v 6) (hj : v.toNatClampNeg = j) (d0 : decode cX9_init pc = .ok (.dup, 1)) (d1 : decode cX9_init (pc + 1) = .ok (.iconst n, 1)) (d2 : decode cX9_init (pc + 2) = .ok (.new iN, 3)) (d5 : decode cX9_init (pc + 5) = .ok (.dup, 1)) (d6 : decode cX9_init (pc + 6) = .ok (.invokespecial iI, 3)) (d9 : decode cX9_init (pc + 9) = .ok (.aastore, 1)) (k : ∀ q, sf_W p l e R s m args below meth c (cells + 1) slots Q 2 D A (c0 :: (kA, .inl (cK, 6, .inr (.inr (.inr (.inr (va_up f j (some q))))))) :: (wr ++ [(q, .inr (ci, []))])) lv (pc + 10) [.ref kA]) : sf_W p l e R s m args below meth c cells slots Q 2 D A (c0 :: (kA, .inl (cK, 6, .inr (.inr (.inr (.inr f))))) :: wr) lv pc [.ref kA] := by
  refine sw_dup (pc' := pc + 1) cx d0 rfl rfl ?_
  refine sw_iconst (pc' := pc + 2) cx d1 hv rfl ?_
  refine sw_new (pc' := pc + 5) (fs := []) cx hin (fun _ => .int) (fun k hk => absurd hk (Nat.not_lt_zero k)) hcl hinst hini hci (fun k hk => absurd hk (Nat.not_lt_zero k)) hcs d2 rfl (fun q => ?_)
  refine sw_dup (pc' := pc + 6) cx d5 rfl rfl ?_
  refine sw_callINL (pc' := pc + 9) (As := []) (rest := [.ref q, .int v, .ref kA, .ref kA]) cx (hc q) pk hlink hrm hR hcs rfl (Nat.le_of_ble_eq_true rfl) rfl d6 rfl (fun w' hw => ?_)
  subst hw
  have hg : ((c0 :: (kA, .inl (cK, 6, .inr (.inr (.inr (.inr f))))) :: wr) ++ [(q, .inr (ci, []))] : va_W)[wr.length + 2]? = some (q, .inr (ci, [])) := by
    rw [List.cons_append, List.cons_append, List.getElem?_cons_succ, List.getElem?_cons_succ, List.getElem?_append_right (Nat.le_refl _), Nat.sub_self]; rfl
  rcases hE with hE | hE
  · subst hE
    exact sw_aast (pc' := pc + 10) cx 1 2 (wr.length + 2) ci rfl rfl hg hci hvin d9 (by rw [hj]; rfl) rfl (k q)
  · exact sw_aastO (pc' := pc + 10) cx 1 2 (wr.length + 2) ci rfl rfl hE hg hci hvin d9 (by rw [hj]; rfl) rfl (k q)
def mtc (kA q q1 q2 q3 q4 q5 q6 q7 q8 q9 : Nat) (cI : ClassId) (res : Nat → Int32) : va_W := [(q, .inr (4, [.ref kA, .ref q1, .ref q2, .ref q3, .ref q4, .long 0, .int 0, .int 0, .int 4, .int 1, .int 0, .ref q5, .ref q6, .ref q7, .ref q8, .ref q9])), (q1, .inl (cI, 40, .inl res)), (q2, .inl (cI, 40, .inl (fun _ => 0))), (q3, .inl (cI, 40, .inl (fun _ => 0))), (q4, .inl (cI, 40, .inl (fun _ => 0))), (q5, .inl (cI, 10, .inl (fun _ => 0))), (q6, .inl (cI, 10, .inl (fun _ => 0))), (q7, .inl (cI, 10, .inl (fun _ => 0))), (q8, .inl (cI, 10, .inl (fun _ => 0))), (q9, .inl (cI, 10, .inl (fun _ => 0)))]
theorem pi_X4 : sf_PkI yX4_init cX4_init 2 1 := ⟨pk_yX4_init, inst_yX4_init, rfl⟩
theorem pi_X7 : sf_PkI yX7_init cX7_init 1 0 := ⟨pk_yX7_init, inst_yX7_init, rfl⟩
theorem pi_X8 : sf_PkI yX8_init cX8_init 2 1 := ⟨pk_yX8_init, inst_yX8_init, rfl⟩
theorem df_X4 : ∀ j, j < 16 → defaultValue (tyX4 j) = vp_V [.null, .null, .null, .null, .null, .long 0, .int 0, .int 0, .int 0, .int 0, .int 0, .null, .null, .null, .null, .null] j := by decide +kernel
theorem df_X7 : ∀ j, j < 3 → defaultValue (tyX7 j) = vp_V [.null, .int 0, .int 0] j := by decide +kernel
theorem df_X8 : ∀ j, j < 8 → defaultValue (tyX8 j) = vp_V [.null, .null, .int 0, .int 0, .int 0, .int 0, .int 0, .int 0] j := by decide +kernel
theorem st_mount (cx : sf_Cx p m meth c cX9_init 2 s args RX9 D (sf_ty cI cJ cK cS) A) (hnm : meth.name = "<init>") {b kA k0 idx : Nat} {fs : List Value} {wr : va_W} (hfs : fs.length = 7) (hk : k0 < 7) (hlink : Cond.fieldLink RX9 idx (TX9 k0).1 (TX9 k0).2.1 (TX9 k0).2.2.1 ∈ sf_gtbl) (hfin : (TX9 k0).2.2.2 = true) (hdecl : (TX9 k0).1 = RX9) (hv : ∀ q, narrow (tyX9 k0) (.ref q) = .ref q) (hfit : ∀ q, fits (tyX9 k0) (.ref q) = true) (hR : 3 ≤ R.frames ∧ 81 ≤ R.locals) (hcs : cells + 10 ≤ R.cells ∧ slots + 226 ≤ R.slots) (d0 : decode cX9_init pc = .ok (.aload_n 0, 1)) (d1 : decode cX9_init (pc + 1) = .ok (.new 27, 3)) (d4 : decode cX9_init (pc + 4) = .ok (.dup, 1)) (d5 : decode cX9_init (pc + 5) = .ok (.aload_n 1, 1)) (d6 : decode cX9_init (pc + 6) = .ok (.invokespecial 29, 3)) (d9 : decode cX9_init (pc + 9) = .ok (.putfield idx, 3)) (k : ∀ q q1 q2 q3 q4 q5 q6 q7 q8 q9 res, (∀ j, j < 40 → res j = nI 3) → sf_W p l e R s m args below meth c (cells + 1 + 9) (slots + 16 + 210) Q 2 D A ((b, .inr (9, fs.set k0 (.ref q))) :: (wr ++ mtc kA q q1 q2 q3 q4 q5 q6 q7 q8 q9 cI res)) [(1, .ref kA), (0, .ref b)] (pc + 12) []) : sf_W p l e R s m args below meth c cells slots Q 2 D A ((b, .inr (9, fs)) :: wr) [(1, .ref kA), (0, .ref b)] pc [] := by
  refine sw_aload_n (pc' := pc + 1) cx d0 rfl 1 rfl rfl ?_
  refine sw_new (pc' := pc + 4) cx in_X4 tyX4 tyX4_ok cln_RX9_27 isn_RX4 ini_RX4 (ci := 4) rfl df_X4 ⟨by omega, by omega⟩ d1 rfl (fun q => ?_)
  refine sw_dup (pc' := pc + 5) cx d4 rfl rfl ?_
  refine sw_aload_n (pc' := pc + 6) cx d5 rfl 0 rfl rfl ?_
  refine sw_callIL (pc' := pc + 9) (As := [.ref kA]) (rest := [.ref q, .ref b]) cx (n_X4 l D cI cJ cK cS q kA) pi_X4 ml_RX9_29 ⟨rfl, rfl⟩ hR ⟨by omega, by omega⟩ rfl (Nat.le_of_ble_eq_true rfl) rfl d6 rfl (fun w' hw => ?_)
  obtain ⟨q1, q2, q3, q4, q5, q6, q7, q8, q9, res, h3, rfl⟩ := hw
  exact sw_putF (pc' := pc + 12) cx hnm in_X9 tyX9 tyX9_ok nmX9 0 rfl rfl k0 hk hlink hfin hdecl (hv q) (hfit q) (by omega) d9 rfl rfl (k q q1 q2 q3 q4 q5 q6 q7 q8 q9 res h3)
def shc (q q1 : Nat) (cJ : ClassId) : va_W := [(q, .inr (7, [.ref q1, .int 0, .int 0])), (q1, .inl (cJ, 40, .inr (.inl (fun _ => 0))))]
theorem st_sheet (cx : sf_Cx p m meth c cX9_init 2 s args RX9 D (sf_ty cI cJ cK cS) A) {j : Nat} {n : Int} {v : Int32} {c0 : Nat × va_E} {sA b : Nat} {f : Nat → Option Nat} {wr : va_W} (hR : 2 ≤ R.frames ∧ 32 ≤ R.locals) (hcs : cells + 2 ≤ R.cells ∧ slots + 43 ≤ R.slots) (hv : Int32.ofInt n = v) (hvin : vp_in v 4) (hj : v.toNatClampNeg = j) (d0 : decode cX9_init pc = .ok (.dup, 1)) (d1 : decode cX9_init (pc + 1) = .ok (.iconst n, 1)) (d2 : decode cX9_init (pc + 2) = .ok (.new 49, 3)) (d5 : decode cX9_init (pc + 5) = .ok (.dup, 1)) (d6 : decode cX9_init (pc + 6) = .ok (.invokespecial 51, 3)) (d9 : decode cX9_init (pc + 9) = .ok (.aastore, 1)) (k : ∀ q q1, sf_W p l e R s m args below meth c (cells + 1 + 1) (slots + 3 + 40) Q 2 D A (c0 :: (sA, .inl (cS, 4, .inr (.inr (.inr (.inr (va_up f j (some q))))))) :: (wr ++ shc q q1 cJ)) lv (pc + 10) [.ref sA, .ref b]) : sf_W p l e R s m args below meth c cells slots Q 2 D A (c0 :: (sA, .inl (cS, 4, .inr (.inr (.inr (.inr f))))) :: wr) lv pc [.ref sA, .ref b] := by
  refine sw_dup (pc' := pc + 1) cx d0 rfl rfl ?_
  refine sw_iconst (pc' := pc + 2) cx d1 hv rfl ?_
  refine sw_new (pc' := pc + 5) cx in_X7 tyX7 tyX7_ok cln_RX9_49 isn_RX7 ini_RX7 (ci := 7) rfl df_X7 ⟨by omega, by omega⟩ d2 rfl (fun q => ?_)
  refine sw_dup (pc' := pc + 6) cx d5 rfl rfl ?_
  refine sw_callINL (pc' := pc + 9) (As := []) (rest := [.ref q, .int v, .ref sA, .ref sA, .ref b]) cx (n_X7 l D cI cJ cK cS q) pi_X7 mn_RX9_51 ⟨rfl, rfl⟩ hR ⟨by omega, by omega⟩ rfl (Nat.le_of_ble_eq_true rfl) rfl d6 rfl (fun w' hw => ?_)
  obtain ⟨q1, rfl⟩ := hw
  have hg : ((c0 :: (sA, .inl (cS, 4, .inr (.inr (.inr (.inr f))))) :: wr) ++ shc q q1 cJ : va_W)[wr.length + 2]? = some (q, .inr (7, [.ref q1, .int 0, .int 0])) := by
    rw [List.cons_append, List.cons_append, List.getElem?_cons_succ, List.getElem?_cons_succ, List.getElem?_append_right (Nat.le_refl _), Nat.sub_self]; rfl
  exact sw_aast (pc' := pc + 10) cx 1 3 (wr.length + 2) 7 rfl rfl hg rfl hvin d9 (by rw [hj]; rfl) rfl (k q q1)
end CS2
/-! StairFines.<init> -/
def M0 (res : Nat → Int32) : MtS := mt_mk 0 0 4 1 0 res (fun _ => 0) (fun _ => 0) (fun _ => 0) (fun _ => 0) (fun _ => 0) (fun _ => 0) (fun _ => 0) (fun _ => 0) 0
def sh0 : Nat → ShS := fun _ => (fun _ => 0, 0, 0)
def sxP (b : Nat) (cI cJ cK cS : ClassId) (w : va_W) : Prop := ∃ g m0 m1 m2 ka sa sn r0 r1 r2, g 0 = b ∧ (∀ j, j < 40 → r0 j = nI 3) ∧ w = sx_W g m0 m1 m2 ka sa sn cI cJ cK cS (M0 r0) (M0 r1) (M0 r2) 0 (fun _ => 0) 0 0 0 0 0 0 sh0 (fun _ => 0)
theorem mtc_mk (h : Nat → Nat) (kA : Nat) (cI : ClassId) (res : Nat → Int32) : mtc kA (h 0) (h 1) (h 2) (h 3) (h 4) (h 5) (h 6) (h 7) (h 8) (h 9) cI res = [(h 0, .inr (4, [.ref kA, .ref (h 1), .ref (h 2), .ref (h 3), .ref (h 4), .long (M0 res).2, .int ((M0 res).1 0 0), .int ((M0 res).1 0 1), .int ((M0 res).1 0 2), .int ((M0 res).1 0 3), .int ((M0 res).1 0 4), .ref (h 5), .ref (h 6), .ref (h 7), .ref (h 8), .ref (h 9)])), (h 1, .inl (cI, 40, .inl ((M0 res).1 1))), (h 2, .inl (cI, 40, .inl ((M0 res).1 2))), (h 3, .inl (cI, 40, .inl ((M0 res).1 3))), (h 4, .inl (cI, 40, .inl ((M0 res).1 4))), (h 5, .inl (cI, 10, .inl ((M0 res).1 5))), (h 6, .inl (cI, 10, .inl ((M0 res).1 6))), (h 7, .inl (cI, 10, .inl ((M0 res).1 7))), (h 8, .inl (cI, 10, .inl ((M0 res).1 8))), (h 9, .inl (cI, 10, .inl ((M0 res).1 9)))] := rfl
theorem shc_mk (k q q1 : Nat) (cJ : ClassId) : shc q q1 cJ = [(q, .inr (7, [.ref q1, .int (sh0 k).2.1, .int (sh0 k).2.2])), (q1, .inl (cJ, 40, .inr (.inl (sh0 k).1)))] := rfl
theorem ca_X6 : Cond.castable RX6 "StairFines$Kind" ∈ sf_nwL := sf_memN 1225 (by decide +kernel) rfl
theorem ca_X0 : Cond.castable RX0 "StairFines$Kind" ∈ sf_nwL := sf_memN 1226 (by decide +kernel) rfl
theorem ca_X2 : Cond.castable RX2 "StairFines$Kind" ∈ sf_nwL := sf_memN 1227 (by decide +kernel) rfl
theorem ca_X1 : Cond.castable RX1 "StairFines$Kind" ∈ sf_nwL := sf_memN 1228 (by decide +kernel) rfl
theorem ca_X5 : Cond.castable RX5 "StairFines$Kind" ∈ sf_nwL := sf_memN 1229 (by decide +kernel) rfl
abbrev rm_O : Room := ({ frames := 4, cells := 49, slots := 995, locals := 100 } : Room)
set_option maxRecDepth 100000 in
set_option maxHeartbeats 4000000 in
theorem n_X9 (l : Launch) (D : sf_D) (cI cJ cK cS : ClassId) (b : Nat) : sf_CnA l yX9_init cX9_init 2 rm_O D (sf_ty cI cJ cK cS) [.ref b] [(b, .inr (9, [.null, .null, .null, .int 0, .null, .null, .null]))] (sxP b cI cJ cK cS) 49 995 := by
  refine sf_metA (lv := [(0, .ref b)]) (by decide) (Nat.le_of_ble_eq_true rfl) rfl ?_
  intro p e s m args below meth c A Q cx hAO hr hnm hQ
  have cx : sf_Cx p m meth c cX9_init 2 s args RX9 D (sf_ty cI cJ cK cS) A := cx
  refine sw_aload_n (pc' := 1) cx dX9_init_0 rfl 0 rfl rfl ?_
  refine sw_objI (pc' := 4) cx ml_RX9_3 inst_objectInit code_objectInit (by decide) (by decide) dX9_init_1 rfl ?_
  refine sw_bipush (pc' := 6) (v := 6) cx dX9_init_4 (by decide) rfl ?_
  refine sw_newQ (pc' := 9) cx cln_RX9_9 hAO.1 (cK := cK) 2 rfl (N' := 6) (by decide) (by decide) (by decide) ⟨Nat.le_of_ble_eq_true rfl, Nat.le_of_ble_eq_true rfl⟩ dX9_init_6 rfl (fun kA => ?_)
  refine st_kind (wr := []) (b := b) (pc := 9) cx (C := RX3) (T := TX3) (ci := 3) (fun q => n_X3 l D _ q 3) pi_X3 mn_RX9_11 in_X3 cln_RX9_9 isn_RX3 ini_RX3 rfl (Or.inl rfl) ⟨rfl, rfl⟩ ⟨Nat.le_of_ble_eq_true rfl, Nat.le_of_ble_eq_true rfl⟩ ⟨Nat.le_of_ble_eq_true rfl, Nat.le_of_ble_eq_true rfl⟩ (n := 0) (v := 0) (by decide) (by unfold vp_in; decide) (j := 0) (by decide) dX9_init_9 dX9_init_10 dX9_init_11 dX9_init_14 dX9_init_15 dX9_init_18 (fun k0 => ?_)
  refine st_kind (b := b) (pc := 19) cx (C := RX6) (T := TX6) (ci := 6) (fun q => n_X6 l D _ q 6) pi_X6 mn_RX9_14 in_X6 cln_RX9_12 isn_RX6 ini_RX6 rfl (Or.inr ca_X6) ⟨rfl, rfl⟩ ⟨Nat.le_of_ble_eq_true rfl, Nat.le_of_ble_eq_true rfl⟩ ⟨Nat.le_of_ble_eq_true rfl, Nat.le_of_ble_eq_true rfl⟩ (n := 1) (v := 1) (by decide) (by unfold vp_in; decide) (j := 1) (by decide) dX9_init_19 dX9_init_20 dX9_init_21 dX9_init_24 dX9_init_25 dX9_init_28 (fun k1 => ?_)
  refine st_kind (b := b) (pc := 29) cx (C := RX0) (T := TX0) (ci := 0) (fun q => n_X0 l D _ q 0) pi_X0 mn_RX9_17 in_X0 cln_RX9_15 isn_RX0 ini_RX0 rfl (Or.inr ca_X0) ⟨rfl, rfl⟩ ⟨Nat.le_of_ble_eq_true rfl, Nat.le_of_ble_eq_true rfl⟩ ⟨Nat.le_of_ble_eq_true rfl, Nat.le_of_ble_eq_true rfl⟩ (n := 2) (v := 2) (by decide) (by unfold vp_in; decide) (j := 2) (by decide) dX9_init_29 dX9_init_30 dX9_init_31 dX9_init_34 dX9_init_35 dX9_init_38 (fun k2 => ?_)
  refine st_kind (b := b) (pc := 39) cx (C := RX2) (T := TX2) (ci := 2) (fun q => n_X2 l D _ q 2) pi_X2 mn_RX9_20 in_X2 cln_RX9_18 isn_RX2 ini_RX2 rfl (Or.inr ca_X2) ⟨rfl, rfl⟩ ⟨Nat.le_of_ble_eq_true rfl, Nat.le_of_ble_eq_true rfl⟩ ⟨Nat.le_of_ble_eq_true rfl, Nat.le_of_ble_eq_true rfl⟩ (n := 3) (v := 3) (by decide) (by unfold vp_in; decide) (j := 3) (by decide) dX9_init_39 dX9_init_40 dX9_init_41 dX9_init_44 dX9_init_45 dX9_init_48 (fun k3 => ?_)
  refine st_kind (b := b) (pc := 49) cx (C := RX1) (T := TX1) (ci := 1) (fun q => n_X1 l D _ q 1) pi_X1 mn_RX9_23 in_X1 cln_RX9_21 isn_RX1 ini_RX1 rfl (Or.inr ca_X1) ⟨rfl, rfl⟩ ⟨Nat.le_of_ble_eq_true rfl, Nat.le_of_ble_eq_true rfl⟩ ⟨Nat.le_of_ble_eq_true rfl, Nat.le_of_ble_eq_true rfl⟩ (n := 4) (v := 4) (by decide) (by unfold vp_in; decide) (j := 4) (by decide) dX9_init_49 dX9_init_50 dX9_init_51 dX9_init_54 dX9_init_55 dX9_init_58 (fun k4 => ?_)
  refine st_kind (b := b) (pc := 59) cx (C := RX5) (T := TX5) (ci := 5) (fun q => n_X5 l D _ q 5) pi_X5 mn_RX9_26 in_X5 cln_RX9_24 isn_RX5 ini_RX5 rfl (Or.inr ca_X5) ⟨rfl, rfl⟩ ⟨Nat.le_of_ble_eq_true rfl, Nat.le_of_ble_eq_true rfl⟩ ⟨Nat.le_of_ble_eq_true rfl, Nat.le_of_ble_eq_true rfl⟩ (n := 5) (v := 5) (by decide) (by unfold vp_in; decide) (j := 5) (by decide) dX9_init_59 dX9_init_60 dX9_init_61 dX9_init_64 dX9_init_65 dX9_init_68 (fun k5 => ?_)
  refine sw_astore_n (pc' := 70) (lv' := [(1, .ref kA), (0, .ref b)]) cx dX9_init_69 rfl (by decide) rfl rfl ?_
  refine st_mount (pc := 70) cx hnm (k0 := 0) (idx := 32) rfl (by decide) fl_RX9_32 rfl rfl (fun _ => rfl) (fun _ => rfl) ⟨Nat.le_of_ble_eq_true rfl, Nat.le_of_ble_eq_true rfl⟩ ⟨Nat.le_of_ble_eq_true rfl, Nat.le_of_ble_eq_true rfl⟩ dX9_init_70 dX9_init_71 dX9_init_74 dX9_init_75 dX9_init_76 dX9_init_79 (fun a0_0 a0_1 a0_2 a0_3 a0_4 a0_5 a0_6 a0_7 a0_8 a0_9 r0 h0 => ?_)
  refine st_mount (pc := 82) cx hnm (k0 := 1) (idx := 36) rfl (by decide) fl_RX9_36 rfl rfl (fun _ => rfl) (fun _ => rfl) ⟨Nat.le_of_ble_eq_true rfl, Nat.le_of_ble_eq_true rfl⟩ ⟨Nat.le_of_ble_eq_true rfl, Nat.le_of_ble_eq_true rfl⟩ dX9_init_82 dX9_init_83 dX9_init_86 dX9_init_87 dX9_init_88 dX9_init_91 (fun a1_0 a1_1 a1_2 a1_3 a1_4 a1_5 a1_6 a1_7 a1_8 a1_9 r1 h1 => ?_)
  refine st_mount (pc := 94) cx hnm (k0 := 2) (idx := 39) rfl (by decide) fl_RX9_39 rfl rfl (fun _ => rfl) (fun _ => rfl) ⟨Nat.le_of_ble_eq_true rfl, Nat.le_of_ble_eq_true rfl⟩ ⟨Nat.le_of_ble_eq_true rfl, Nat.le_of_ble_eq_true rfl⟩ dX9_init_94 dX9_init_95 dX9_init_98 dX9_init_99 dX9_init_100 dX9_init_103 (fun a2_0 a2_1 a2_2 a2_3 a2_4 a2_5 a2_6 a2_7 a2_8 a2_9 r2 h2 => ?_)
  refine sw_aload_n (pc' := 107) cx dX9_init_106 rfl 1 rfl rfl ?_
  refine sw_new (pc' := 110) cx in_X8 tyX8 tyX8_ok cln_RX9_42 isn_RX8 ini_RX8 (ci := 8) rfl df_X8 ⟨Nat.le_of_ble_eq_true rfl, Nat.le_of_ble_eq_true rfl⟩ dX9_init_107 rfl (fun qt => ?_)
  refine sw_dup (pc' := 111) cx dX9_init_110 rfl rfl ?_
  refine sw_aload_n (pc' := 112) cx dX9_init_111 rfl 0 rfl rfl ?_
  refine sw_callIL (pc' := 115) (As := [.ref kA]) (rest := [.ref qt, .ref b]) cx (n_X8 l D cI cJ cK cS qt kA) pi_X8 ml_RX9_44 ⟨rfl, rfl⟩ ⟨Nat.le_of_ble_eq_true rfl, Nat.le_of_ble_eq_true rfl⟩ ⟨Nat.le_of_ble_eq_true rfl, Nat.le_of_ble_eq_true rfl⟩ rfl (Nat.le_of_ble_eq_true rfl) rfl dX9_init_112 rfl (fun w' hw => ?_)
  obtain ⟨qb, rfl⟩ := hw
  refine sw_putF (pc' := 118) (ws' := (b, .inr (9, [.ref a0_0, .ref a1_0, .ref a2_0, .int 0, .ref qt, .null, .null])) :: _) cx hnm in_X9 tyX9 tyX9_ok nmX9 0 rfl rfl 4 (by decide) fl_RX9_45 rfl rfl rfl rfl (Nat.le_of_ble_eq_true rfl) dX9_init_115 rfl rfl ?_
  refine sw_aload_n (pc' := 119) cx dX9_init_118 rfl 1 rfl rfl ?_
  refine sw_iconst (pc' := 120) (v := 4) cx dX9_init_119 (by decide) rfl ?_
  refine sw_newQ (pc' := 123) cx cln_RX9_49 hAO.2 (cK := cS) 3 rfl (N' := 4) (by decide) (by decide) (by decide) ⟨Nat.le_of_ble_eq_true rfl, Nat.le_of_ble_eq_true rfl⟩ dX9_init_120 rfl (fun sA => ?_)
  refine sw_rot ?_
  refine st_sheet (pc := 123) cx ⟨Nat.le_of_ble_eq_true rfl, Nat.le_of_ble_eq_true rfl⟩ ⟨Nat.le_of_ble_eq_true rfl, Nat.le_of_ble_eq_true rfl⟩ (n := 0) (v := 0) (by decide) (by unfold vp_in; decide) (j := 0) (by decide) dX9_init_123 dX9_init_124 dX9_init_125 dX9_init_128 dX9_init_129 dX9_init_132 (fun s0 n0 => ?_)
  refine st_sheet (pc := 133) cx ⟨Nat.le_of_ble_eq_true rfl, Nat.le_of_ble_eq_true rfl⟩ ⟨Nat.le_of_ble_eq_true rfl, Nat.le_of_ble_eq_true rfl⟩ (n := 1) (v := 1) (by decide) (by unfold vp_in; decide) (j := 1) (by decide) dX9_init_133 dX9_init_134 dX9_init_135 dX9_init_138 dX9_init_139 dX9_init_142 (fun s1 n1 => ?_)
  refine st_sheet (pc := 143) cx ⟨Nat.le_of_ble_eq_true rfl, Nat.le_of_ble_eq_true rfl⟩ ⟨Nat.le_of_ble_eq_true rfl, Nat.le_of_ble_eq_true rfl⟩ (n := 2) (v := 2) (by decide) (by unfold vp_in; decide) (j := 2) (by decide) dX9_init_143 dX9_init_144 dX9_init_145 dX9_init_148 dX9_init_149 dX9_init_152 (fun s2 n2 => ?_)
  refine st_sheet (pc := 153) cx ⟨Nat.le_of_ble_eq_true rfl, Nat.le_of_ble_eq_true rfl⟩ ⟨Nat.le_of_ble_eq_true rfl, Nat.le_of_ble_eq_true rfl⟩ (n := 3) (v := 3) (by decide) (by unfold vp_in; decide) (j := 3) (by decide) dX9_init_153 dX9_init_154 dX9_init_155 dX9_init_158 dX9_init_159 dX9_init_162 (fun s3 n3 => ?_)
  refine sw_putF (pc' := 166) (ws' := (b, .inr (9, [.ref a0_0, .ref a1_0, .ref a2_0, .int 0, .ref qt, .ref sA, .null])) :: _) cx hnm in_X9 tyX9 tyX9_ok nmX9 0 rfl rfl 5 (by decide) fl_RX9_52 rfl rfl rfl rfl (Nat.le_of_ble_eq_true rfl) dX9_init_163 rfl rfl ?_
  refine sw_aload_n (pc' := 167) cx dX9_init_166 rfl 1 rfl rfl ?_
  refine sw_bipush (pc' := 169) (v := 7) cx dX9_init_167 (by decide) rfl ?_
  refine sw_newI (pc' := 171) cx arc_int (cI := cI) 0 rfl (N' := 7) (by decide) (by decide) (by decide) ⟨Nat.le_of_ble_eq_true rfl, Nat.le_of_ble_eq_true rfl⟩ dX9_init_169 rfl (fun qf => ?_)
  refine sw_putF (pc' := 174) (ws' := (b, .inr (9, [.ref a0_0, .ref a1_0, .ref a2_0, .int 0, .ref qt, .ref sA, .ref qf])) :: _) cx hnm in_X9 tyX9 tyX9_ok nmX9 0 rfl rfl 6 (by decide) fl_RX9_56 rfl rfl rfl rfl (Nat.le_of_ble_eq_true rfl) dX9_init_171 rfl rfl ?_
  obtain ⟨g, rfl, rfl, rfl, rfl, rfl, rfl⟩ : ∃ g : Nat → Nat, g 0 = b ∧ g 1 = qt ∧ g 2 = qb ∧ g 3 = sA ∧ g 4 = qf ∧ g 5 = kA := ⟨fun k => match k with | 0 => b | 1 => qt | 2 => qb | 3 => sA | 4 => qf | _ => kA, rfl, rfl, rfl, rfl, rfl, rfl⟩
  obtain ⟨m0, rfl, rfl, rfl, rfl, rfl, rfl, rfl, rfl, rfl, rfl⟩ : ∃ m0 : Nat → Nat, m0 0 = a0_0 ∧ m0 1 = a0_1 ∧ m0 2 = a0_2 ∧ m0 3 = a0_3 ∧ m0 4 = a0_4 ∧ m0 5 = a0_5 ∧ m0 6 = a0_6 ∧ m0 7 = a0_7 ∧ m0 8 = a0_8 ∧ m0 9 = a0_9 := ⟨fun k => match k with | 0 => a0_0 | 1 => a0_1 | 2 => a0_2 | 3 => a0_3 | 4 => a0_4 | 5 => a0_5 | 6 => a0_6 | 7 => a0_7 | 8 => a0_8 | _ => a0_9, rfl, rfl, rfl, rfl, rfl, rfl, rfl, rfl, rfl, rfl⟩
  obtain ⟨m1, rfl, rfl, rfl, rfl, rfl, rfl, rfl, rfl, rfl, rfl⟩ : ∃ m1 : Nat → Nat, m1 0 = a1_0 ∧ m1 1 = a1_1 ∧ m1 2 = a1_2 ∧ m1 3 = a1_3 ∧ m1 4 = a1_4 ∧ m1 5 = a1_5 ∧ m1 6 = a1_6 ∧ m1 7 = a1_7 ∧ m1 8 = a1_8 ∧ m1 9 = a1_9 := ⟨fun k => match k with | 0 => a1_0 | 1 => a1_1 | 2 => a1_2 | 3 => a1_3 | 4 => a1_4 | 5 => a1_5 | 6 => a1_6 | 7 => a1_7 | 8 => a1_8 | _ => a1_9, rfl, rfl, rfl, rfl, rfl, rfl, rfl, rfl, rfl, rfl⟩
  obtain ⟨m2, rfl, rfl, rfl, rfl, rfl, rfl, rfl, rfl, rfl, rfl⟩ : ∃ m2 : Nat → Nat, m2 0 = a2_0 ∧ m2 1 = a2_1 ∧ m2 2 = a2_2 ∧ m2 3 = a2_3 ∧ m2 4 = a2_4 ∧ m2 5 = a2_5 ∧ m2 6 = a2_6 ∧ m2 7 = a2_7 ∧ m2 8 = a2_8 ∧ m2 9 = a2_9 := ⟨fun k => match k with | 0 => a2_0 | 1 => a2_1 | 2 => a2_2 | 3 => a2_3 | 4 => a2_4 | 5 => a2_5 | 6 => a2_6 | 7 => a2_7 | 8 => a2_8 | _ => a2_9, rfl, rfl, rfl, rfl, rfl, rfl, rfl, rfl, rfl, rfl⟩
  obtain ⟨ka, rfl, rfl, rfl, rfl, rfl, rfl⟩ : ∃ ka : Nat → Nat, ka 0 = k0 ∧ ka 1 = k1 ∧ ka 2 = k2 ∧ ka 3 = k3 ∧ ka 4 = k4 ∧ ka 5 = k5 := ⟨fun k => match k with | 0 => k0 | 1 => k1 | 2 => k2 | 3 => k3 | 4 => k4 | _ => k5, rfl, rfl, rfl, rfl, rfl, rfl⟩
  obtain ⟨sa, rfl, rfl, rfl, rfl⟩ : ∃ sa : Nat → Nat, sa 0 = s0 ∧ sa 1 = s1 ∧ sa 2 = s2 ∧ sa 3 = s3 := ⟨fun k => match k with | 0 => s0 | 1 => s1 | 2 => s2 | _ => s3, rfl, rfl, rfl, rfl⟩
  obtain ⟨sn, rfl, rfl, rfl, rfl⟩ : ∃ sn : Nat → Nat, sn 0 = n0 ∧ sn 1 = n1 ∧ sn 2 = n2 ∧ sn 3 = n3 := ⟨fun k => match k with | 0 => n0 | 1 => n1 | 2 => n2 | _ => n3, rfl, rfl, rfl, rfl⟩
  refine sw_arrQ 1 rfl (g := fun k => some (sa k)) (fun j hj => ?_) (ws' := _ :: (g 3, .inl (cS, 4, .inr (.inr (.inr (.inr (fun k => some (sa k))))))) :: _) rfl ?_
  · rcases (show j = 0 ∨ j = 1 ∨ j = 2 ∨ j = 3 by omega) with rfl | rfl | rfl | rfl <;> rfl
  refine sw_arrQ 2 rfl (g := fun k => some (ka k)) (fun j hj => ?_) (ws' := _ :: _ :: (g 5, .inl (cK, 6, .inr (.inr (.inr (.inr (fun k => some (ka k))))))) :: _) rfl ?_
  · rcases (show j = 0 ∨ j = 1 ∨ j = 2 ∨ j = 3 ∨ j = 4 ∨ j = 5 by omega) with rfl | rfl | rfl | rfl | rfl | rfl <;> rfl
  refine sw_perm (w' := sx_W g m0 m1 m2 ka sa sn cI cJ cK cS (M0 r0) (M0 r1) (M0 r2) 0 (fun _ => 0) 0 0 0 0 0 0 sh0 (fun _ => 0)) [0, 9, 10, 11, 12, 13, 14, 15, 16, 17, 18, 19, 20, 21, 22, 23, 24, 25, 26, 27, 28, 29, 30, 31, 32, 33, 34, 35, 36, 37, 38, 2, 3, 4, 5, 6, 7, 8, 39, 40, 1, 41, 42, 43, 44, 45, 46, 47, 48, 49] ?_ (by decide) ?_
  · simp only [mtc_mk, shc_mk 0 (sa 0) (sn 0), shc_mk 1 (sa 1) (sn 1), shc_mk 2 (sa 2) (sn 2), shc_mk 3 (sa 3) (sn 3), sx_W, tp_W, List.append_eq, List.map_cons, List.map_nil, List.nil_append, List.cons_append, List.append_assoc, List.getElem?_cons_succ, List.getElem?_cons_zero]
  exact sw_vretN cx hr hQ ⟨g, m0, m1, m2, ka, sa, sn, r0, r1, r2, rfl, h0, rfl⟩ dX9_init_174
