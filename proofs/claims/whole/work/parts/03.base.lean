/-! words: one table for every method -/
def sf_gtbl : List Cond := lw_tbl.filter goodWord
def sf_isNest : Cond → Bool
  | .fieldLinkNest _ _ _ _ _ _ => true
  | .methodLinkNest _ _ _ _ => true
  | .castable _ _ => true
  | _ => false
def sf_nwL : List Cond := tables_1.filter sf_isNest
def sf_NW (U : State) : Prop := ∀ w ∈ sf_nwL, va_Nw w U
theorem sf_mem {w : Cond} (i : Nat) (h : lw_tbl[i]? = some w) (hg : goodWord w = true) : w ∈ sf_gtbl := List.mem_filter.mpr ⟨List.mem_of_getElem? h, hg⟩
theorem sf_memN {w : Cond} (i : Nat) (h : tables_1[i]? = some w) (hg : sf_isNest w = true) : w ∈ sf_nwL := List.mem_filter.mpr ⟨List.mem_of_getElem? h, hg⟩
theorem sf_good {w : Cond} (h : w ∈ sf_gtbl) : (w.onTables && w.keeps) = true ∨ ∃ ty, w = .arrayClass ty := good_of_word (List.mem_filter.mp h).2
theorem sf_NW_on {w : Cond} (h : sf_isNest w = true) : w.onTables = true := by
  cases w <;> first | rfl | cases h
theorem sf_NW_same {u U : State} (h : u.vm = U.vm) (hN : sf_NW u) : sf_NW U := fun w hw => (hN w hw).same (sf_NW_on (List.mem_filter.mp hw).2) h
theorem sf_NW_warm {s U : State} (hW : s.WarmedH U.vm) (hN : sf_NW s) : sf_NW U := by
  intro w hw
  have h1 := (List.mem_filter.mp hw).2
  have h2 := hN w hw
  cases w <;> first | exact h2.warmF hW | exact h2.warmM hW | exact h2.warmC hW | cases h1
/-! guards of the functions that say what a method does -/
def gx {α : Type} (i : Int32) (n : Nat) (k : Option α) : Option α := if i < 0 ∨ n ≤ i.toNatClampNeg then none else k
def gz {α : Type} (y : Int32) (k : Option α) : Option α := if y = 0 then none else k
def bd {α β : Type} (a : Option α) (k : α → Option β) : Option β := match a with
  | none => none
  | some x => k x
theorem gx_s {α : Type} {i : Int32} {n : Nat} {k : Option α} {r : α} (h : gx i n k = some r) : vp_in i n ∧ k = some r := by
  unfold gx at h
  by_cases hc : i < 0 ∨ n ≤ i.toNatClampNeg
  · rw [if_pos hc] at h; cases h
  · rw [if_neg hc] at h; exact ⟨hc, h⟩
theorem gx_in {α : Type} {i : Int32} {n : Nat} {k : Option α} (h : vp_in i n) : gx i n k = k := if_neg h
theorem gz_s {α : Type} {y : Int32} {k : Option α} {r : α} (h : gz y k = some r) : ¬ y = 0 ∧ k = some r := by
  unfold gz at h
  by_cases hc : y = 0
  · rw [if_pos hc] at h; cases h
  · rw [if_neg hc] at h; exact ⟨hc, h⟩
theorem gz_ne {α : Type} {y : Int32} {k : Option α} (h : ¬ y = 0) : gz y k = k := if_neg h
theorem bd_s {α β : Type} {a : Option α} {k : α → Option β} {r : β} (h : bd a k = some r) : ∃ x, a = some x ∧ k x = some r := by
  cases a with
  | none => cases h
  | some x => exact ⟨x, rfl, h⟩
theorem bd_some {α β : Type} {a : Option α} {k : α → Option β} {x : α} (h : a = some x) : bd a k = k x := by rw [h]; rfl
theorem it_p {α : Type} {c : Prop} {_ : Decidable c} {a b r : α} (hc : c) (h : (if c then a else b) = r) : a = r := by rwa [if_pos hc] at h
theorem it_n {α : Type} {c : Prop} {_ : Decidable c} {a b r : α} (hc : ¬ c) (h : (if c then a else b) = r) : b = r := by rwa [if_neg hc] at h
/-! cells of a world put in their places -/
def sf_rp : va_W → List Nat → va_W → va_W
  | ws, i :: is, q :: qs => sf_rp (ws.set i q) is qs
  | ws, _, _ => ws
theorem sf_rp_get : ∀ (is : List Nat) (ws w' : va_W), va_nd is = true → is.length = w'.length → (∀ i ∈ is, i < ws.length) → ∀ (k : Nat) (q : Nat × va_E), (sf_rp ws is w')[k]? = some q → (k ∉ is ∧ ws[k]? = some q) ∨ ∃ j : Nat, is[j]? = some k ∧ w'[j]? = some q
  | [], ws, w', _, _, _, k, q, h => Or.inl ⟨List.not_mem_nil, by cases w' <;> exact h⟩
  | i :: is, ws, [], _, hl, _, k, q, h => by simp at hl
  | i :: is, ws, q0 :: qs, hn, hl, hi, k, q, h => by
    simp only [va_nd, Bool.and_eq_true, decide_eq_true_eq] at hn
    have h' : (sf_rp (ws.set i q0) is qs)[k]? = some q := h
    rcases sf_rp_get is (ws.set i q0) qs hn.2 (by simpa using hl) (fun j hj => by rw [List.length_set]; exact hi j (List.mem_cons_of_mem _ hj)) k q h' with ⟨h1, h2⟩ | ⟨j, h1, h2⟩
    · by_cases hk : k = i
      · subst hk
        rw [List.getElem?_set_self (hi k List.mem_cons_self)] at h2
        exact Or.inr ⟨0, rfl, by rw [List.getElem?_cons_zero]; exact h2⟩
      · rw [List.getElem?_set_ne (Ne.symm hk)] at h2
        exact Or.inl ⟨fun hm => (List.mem_cons.mp hm).elim hk h1, h2⟩
    · exact Or.inr ⟨j + 1, by rw [List.getElem?_cons_succ]; exact h1, by rw [List.getElem?_cons_succ]; exact h2⟩
/-- a call's world among the caller's: which cell stands where -/
theorem sf_at {ws wc : va_W} {is : List Nat} (hC : is.map (fun i => ws[i]?) = wc.map some) : ∀ (k : Nat) (q : Nat × va_E), wc[k]? = some q → ∃ i, is[k]? = some i ∧ ws[i]? = some q := by
  intro k q hq
  have h1 : (is.map (fun i => ws[i]?))[k]? = some (some q) := by rw [hC, List.getElem?_map, hq]; rfl
  rw [List.getElem?_map] at h1
  cases hi : is[k]? with
  | none => rw [hi] at h1; cases h1
  | some i => rw [hi] at h1; exact ⟨i, rfl, Option.some.inj h1⟩
theorem sf_at2 {ws wc : va_W} {is : List Nat} (hC : is.map (fun i => ws[i]?) = wc.map some) : ∀ (k i : Nat), is[k]? = some i → ∃ q, wc[k]? = some q ∧ ws[i]? = some q := by
  intro k i hi
  have h1 : (wc.map some)[k]? = some (ws[i]?) := by rw [← hC, List.getElem?_map, hi]; rfl
  rw [List.getElem?_map] at h1
  cases hq : wc[k]? with
  | none => rw [hq] at h1; cases h1
  | some q => rw [hq] at h1; exact ⟨q, rfl, (Option.some.inj h1).symm⟩
theorem sf_back {A : Nat → Prop} {D : va_G} {ws wc w' : va_W} {H H1 : Heap} (hP : va_P D vwCl ws H) (hD : va_D A ws) (is : List Nat) (hC : is.map (fun i => ws[i]?) = wc.map some) (hnd : va_nd is = true) (hadr : wc.map Prod.fst = w'.map Prod.fst)
    (hk : ∀ q : Nat, q < H.size → ¬ va_A wc H.size q → H1[q]? = H[q]?) (hP1 : va_P D vwCl w' H1) : va_P D vwCl (sf_rp ws is w') H1 ∧ va_D A (sf_rp ws is w') := by
  have hlen : is.length = w'.length := by
    have h1 : is.length = wc.length := by simpa using congrArg List.length hC
    have h2 : wc.length = w'.length := by simpa using congrArg List.length hadr
    exact h1.trans h2
  have hlt : ∀ i ∈ is, i < ws.length := by
    intro i hi
    obtain ⟨k, hk⟩ := List.getElem?_of_mem hi
    obtain ⟨q, -, h2⟩ := sf_at2 hC k i hk
    exact (List.getElem?_eq_some_iff.mp h2).1
  have adr : ∀ (j i : Nat) (q : Nat × va_E), is[j]? = some i → w'[j]? = some q → ∃ q0, ws[i]? = some q0 ∧ q0.1 = q.1 := by
    intro j i q hi hq
    obtain ⟨q0, h1, h2⟩ := sf_at2 hC j i hi
    refine ⟨q0, h2, ?_⟩
    have h3 : (wc.map Prod.fst)[j]? = (w'.map Prod.fst)[j]? := by rw [hadr]
    rw [List.getElem?_map, List.getElem?_map, h1, hq] at h3
    exact Option.some.inj h3
  have got := sf_rp_get is ws w' hnd hlen hlt
  have key : ∀ (k : Nat) (q : Nat × va_E), (sf_rp ws is w')[k]? = some q → ∃ q0, ws[k]? = some q0 ∧ q0.1 = q.1 := by
    intro k q h
    rcases got k q h with ⟨-, h2⟩ | ⟨j, h1, h2⟩
    · exact ⟨q, h2, rfl⟩
    · exact adr j k q h1 h2
  refine ⟨fun k q h => ?_, fun i j x y hi hj hxy => ?_, fun k q h => ?_⟩
  · rcases got k q h with ⟨h1, h2⟩ | ⟨j, h1, h2⟩
    · refine (hP k q h2).kept (hk q.1 (hP k q h2).lt (fun hA => ?_))
      rcases hA with ⟨k2, e, h3⟩ | h3
      · obtain ⟨i, h4, h5⟩ := sf_at hC k2 (q.1, e) h3
        have := hD.1 k i q (q.1, e) h2 h5 rfl
        subst this
        exact h1 (List.mem_of_getElem? h4)
      · exact absurd (hP k q h2).lt (Nat.not_lt.mpr h3)
    · exact hP1 j q h2
  · obtain ⟨x0, h1, h2⟩ := key i x hi
    obtain ⟨y0, h3, h4⟩ := key j y hj
    exact hD.1 i j x0 y0 h1 h3 (h2.trans (hxy.trans h4.symm))
  · obtain ⟨q0, h1, h2⟩ := key k q h
    rw [← h2]
    exact hD.2 k q0 h1
/-! what stands outside every world: the texts, two statics, which kind isn't which -/
abbrev sf_D : Type := va_G × (Nat → Nat) × (Nat → Nat)
def sf_len : List Nat := [4, 6, 4, 5, 7, 7, 2, 3, 4, 2, 2, 5, 5]
def sf_byt : List (List Int32) := [[102, 105, 110, 101], [115, 104, 97, 114, 101, 100], [97, 108, 109, 115], [104, 97, 115, 116, 121], [102, 101, 105, 103, 110, 101, 100], [115, 97, 105, 110, 116, 108, 121], [97, 116], [97, 114, 109], [114, 111, 99, 107], [116, 111], [111, 102], [102, 114, 111, 115, 116], [109, 101, 101, 116, 115]]
def sf_strs : List (String × Nat × String) := [("StairFines$Kind", 7, "fine"), ("StairFines$Shared", 7, "shared"), ("StairFines$Alms", 7, "alms"), ("StairFines$Hasty", 7, "hasty"), ("StairFines$Feigned", 7, "feigned"), ("StairFines$Saintly", 7, "saintly"), ("StairFines$Tape", 82, "at"), ("StairFines$Tape", 84, "arm"), ("StairFines$Tape", 53, "rock"), ("StairFines$Tape", 90, "to"), ("StairFines$Tape", 92, "of"), ("StairFines$Tape", 61, "frost"), ("StairFines$Tape", 74, "meets")]
def sf_ncs : List (String × String) := [("StairFines$Kind", "StairFines$Shared"), ("StairFines$Kind", "StairFines$Alms"), ("StairFines$Kind", "StairFines$Hasty"), ("StairFines$Kind", "StairFines$Feigned"), ("StairFines$Kind", "StairFines$Saintly"), ("StairFines$Shared", "StairFines$Alms"), ("StairFines$Shared", "StairFines$Hasty"), ("StairFines$Shared", "StairFines$Feigned"), ("StairFines$Shared", "StairFines$Saintly"), ("StairFines$Alms", "StairFines$Shared"), ("StairFines$Alms", "StairFines$Hasty"), ("StairFines$Alms", "StairFines$Feigned"), ("StairFines$Alms", "StairFines$Saintly"), ("StairFines$Hasty", "StairFines$Shared"), ("StairFines$Hasty", "StairFines$Alms"), ("StairFines$Hasty", "StairFines$Feigned"), ("StairFines$Hasty", "StairFines$Saintly"), ("StairFines$Feigned", "StairFines$Shared"), ("StairFines$Feigned", "StairFines$Alms"), ("StairFines$Feigned", "StairFines$Saintly"), ("StairFines$Saintly", "StairFines$Shared"), ("StairFines$Saintly", "StairFines$Hasty"), ("StairFines$Saintly", "StairFines$Feigned")]
def sf_St (D : sf_D) (A : Nat → Prop) (U : State) (H : Heap) : Prop :=
  vk_S 13 sf_len sf_byt D.2.1 D.2.2 A U H ∧ (∀ (i : Nat) (q : String × Nat × String), sf_strs[i]? = some q → vk_R q.1 q.2.1 q.2.2 (D.2.1 i) U) ∧ va_Z "java/lang/String" "COMPACT_STRINGS" "Z" (.int 1) A U H ∧ va_Zq "jdk/internal/util/Preconditions" "SIOOBE_FORMATTER" "Ljava/util/function/BiFunction;" A U H ∧ ∀ q ∈ sf_ncs, va_Nc q.1 q.2 U
theorem sf_St_warm {D : sf_D} {A : Nat → Prop} {s U : State} {H : Heap} (hW : s.WarmedH U.vm) (h : sf_St D A s H) : sf_St D A U H :=
  ⟨h.1.moved hW.alike, fun i q hq => (h.2.1 i q hq).warm hW, h.2.2.1.moved hW.alike, h.2.2.2.1.moved hW.alike, fun q hq => (h.2.2.2.2 q hq).moved hW.alike⟩
theorem sf_St_same {D : sf_D} {A : Nat → Prop} {u U : State} {H : Heap} (hv : U.vm = u.vm) (h : sf_St D A u H) : sf_St D A U H :=
  ⟨h.1.moved (hv ▸ Vm.Alike.refl u.vm), fun i q hq => (h.2.1 i q hq).same hv, h.2.2.1.moved (hv ▸ Vm.Alike.refl u.vm), h.2.2.2.1.moved (hv ▸ Vm.Alike.refl u.vm), fun q hq => (h.2.2.2.2 q hq).moved (hv ▸ Vm.Alike.refl u.vm)⟩
theorem sf_St_kept {D : sf_D} {A : Nat → Prop} {U : State} {H H1 : Heap} (h : sf_St D A U H) (hq : ∀ a : Nat, a < H.size → ¬ A a → H1[a]? = H[a]?) : sf_St D A U H1 :=
  ⟨h.1.kept hq, h.2.1, h.2.2.1.kept hq, h.2.2.2.1.kept hq, h.2.2.2.2⟩
theorem sf_St_narrow {D : sf_D} {A B : Nat → Prop} {U : State} {H : Heap} (h : sf_St D A U H) (hAB : ∀ q, B q → A q) : sf_St D B U H :=
  ⟨h.1.narrow hAB, h.2.1, h.2.2.1.narrow hAB, h.2.2.2.1.narrow hAB, h.2.2.2.2⟩
/-! contracts -/
def sf_Pc (D : sf_D) (tys : List (ClassId × FieldType)) (av : List Value) (ws : va_W) (sz : Nat) : Array Value → State → Prop := va_Pc av (fun U => U.heap.size = sz ∧ va_P D.1 vwCl ws U.heap ∧ va_K D.1 vwCl tys U ∧ va_D (fun _ => True) ws ∧ sf_NW U ∧ sf_St D (va_A ws sz) U U.heap)
def sf_Q (D : sf_D) (tys : List (ClassId × FieldType)) (A : Nat → Prop) (o : Option Value) (w' : va_W) : Array Value → State → Outcome → State → Prop := fun _ st oc t => (oc = .returned o ∧ va_P D.1 vwCl w' t.heap ∧ va_K D.1 vwCl tys t ∧ va_D A w') ∧ va_F A st t
def sf_Ct (l : Launch) (y : MethodName) (cc : ByteArray) (maxL : Nat) (ret : Option FieldType) (rm : Room) (D : sf_D) (tys : List (ClassId × FieldType)) (av : List Value) (ws : va_W) (o : Option Value) (w' : va_W) : Prop :=
  ∀ sz : Nat, Met l y (Cond.code y cc maxL ret :: sf_gtbl) rm (sf_Pc D tys av ws sz) (sf_Q D tys (va_A ws sz) o w') 0 0 (va_A ws sz)
theorem sf_Pc_blind {D : sf_D} {tys : List (ClassId × FieldType)} {av : List Value} {ws : va_W} {sz : Nat} : FrameBlind (sf_Pc D tys av ws sz) := by
  intro a U g mk q
  obtain ⟨q0, q1, qP, qK, qD, qN, qS⟩ := q
  exact ⟨q0, q1, qP, va_K.moved (u := U) (U := U.calling g mk a) (Vm.Alike.refl U.vm) qK, qD, sf_NW_same (u := U) (U := U.calling g mk a) rfl qN, sf_St_same (u := U) (U := U.calling g mk a) rfl qS⟩
section SF
variable {p : Program} {l : Launch} {e : Env} {R : Room} {s : State} {m : MethodId} {args : Array Value} {below : List Frame} {meth : Method} {c : Code} {cells slots : Nat} {Q : State → Prop} {cc : ByteArray} {nL : Nat} {own : String} {D : sf_D} {tys : List (ClassId × FieldType)} {A : Nat → Prop} {ws : va_W} {lv lv' : List (Nat × Value)} {pc pc' : Nat} {st rest : List Value}
def sf_Cx (p : Program) (m : MethodId) (meth : Method) (c : Code) (cc : ByteArray) (nL : Nat) (s : State) (args : Array Value) (own : String) (D : sf_D) (tys : List (ClassId × FieldType)) (A : Nat → Prop) : Prop :=
  p.tables.exec = Jvm.exec ∧ c.code = cc ∧ c.maxLocals = nL ∧ s.vm.findClass own = some m.cls ∧ (∀ w ∈ sf_gtbl, w.before args s = true) ∧ sf_NW s ∧ va_K D.1 vwCl tys s ∧ (∀ q, s.heap.size ≤ q → A q) ∧ meth.locks = false ∧ sf_St D A s s.heap
def sf_W (p : Program) (l : Launch) (e : Env) (R : Room) (s : State) (m : MethodId) (args : Array Value) (below : List Frame) (meth : Method) (c : Code) (cells slots : Nat) (Q : State → Prop) (nL : Nat) (D : sf_D) (A : Nat → Prop) (ws : va_W) (lv : List (Nat × Value)) (pc : Nat) (st : List Value) : Prop :=
  ∀ (H : Heap) (locs : List Loc) (ls : Array Slot), va_P D.1 vwCl ws H → va_D A ws → va_S A s.heap H locs → lv_has ls nL lv → W p l e R s m args below meth c H locs cells slots Q (F0 m pc ls st)
/-- a method's contract out of the walk from its entry -/
theorem sf_met {y : MethodName} {maxL : Nat} {ret : Option FieldType} {rm : Room} {av : List Value} {o : Option Value} {w' : va_W} (hy : plainName y.cls = true) (hlen : (lg_sl av).length ≤ maxL) (hlv : lv_args 0 av = lv)
    (body : ∀ (p : Program) (e : Env) (s : State) (m : MethodId) (args : Array Value) (below : List Frame) (meth : Method) (c : Code) (A : Nat → Prop) (Q : State → Prop), sf_Cx p m meth c cc maxL s args y.cls D tys A → meth.sig.returnType = ret → Q = MQ below (sf_Q D tys A o w') args s 0 0 A → sf_W p l e rm s m args below meth c 0 0 Q maxL D A ws lv 0 []) : sf_Ct l y cc maxL ret rm D tys av ws o w' := by
  intro sz
  refine Met.ofW (cc := cc) (maxL := maxL) (ret := ret) hy rfl ?_
  intro p e s m args below meth c s₁ B hml hv
  obtain ⟨rfl, hsz, hP, hK, hD0, hN, hSt⟩ := hv
  have hts := atoms_spec (ws := Cond.code y cc maxL ret :: sf_gtbl) B.pre
  have hown : s.vm.findClass y.cls = some m.cls := findClass_of_methodNamed B.named
  subst hsz
  have hD := hD0.self (sz := s.heap.size)
  have hA : ∀ q : Nat, s.heap.size ≤ q → va_A ws s.heap.size q := fun q h => Or.inr h
  have hl := lv_entry av (n := maxL) hlen
  rw [hlv] at hl
  rw [lg_entry_eq]
  exact body p e s m _ below meth c (va_A ws s.heap.size) _ ⟨B.exec, B.bytes, hml, hown, fun w h => hts w (List.mem_cons_of_mem _ h), hN, hK, hA, B.notSynchronized, hSt⟩ B.returns rfl s.heap [] _ hP hD va_S.rf hl
/-- the ends -/
theorem sw_iret {v : Int32} (cx : sf_Cx p m meth c cc nL s args own D tys A) (hr : meth.sig.returnType = some .int) (hQ : Q = MQ below (sf_Q D tys A (some (.int v)) ws) args s 0 0 A) (hdg : decode cc pc = .ok (.ireturn, 1)) : sf_W p l e R s m args below meth c 0 0 Q nL D A ws lv pc [.int v] := by
  subst hQ
  exact fun H locs ls hP hD hS hl => W.iret cx.1 cx.2.1 hr (fun t ht hW => ⟨⟨rfl, by rw [ht]; exact hP, va_K.moved hW.alike cx.2.2.2.2.2.2.1, hD⟩, hS.F ht⟩) hS.2.2 hdg cx.2.2.2.2.2.2.2.2.1
theorem sw_zret {v : Int32} {ty : FieldType} (cx : sf_Cx p m meth c cc nL s args own D tys A) (hr : meth.sig.returnType = some ty) (hn : narrow ty (.int v) = .int v) (hQ : Q = MQ below (sf_Q D tys A (some (.int v)) ws) args s 0 0 A) (hdg : decode cc pc = .ok (.ireturn, 1)) : sf_W p l e R s m args below meth c 0 0 Q nL D A ws lv pc [.int v] := by
  subst hQ
  exact fun H locs ls hP hD hS hl => W.zret cx.1 cx.2.1 hr hn (fun t ht hW => ⟨⟨rfl, by rw [ht]; exact hP, va_K.moved hW.alike cx.2.2.2.2.2.2.1, hD⟩, hS.F ht⟩) hS.2.2 hdg cx.2.2.2.2.2.2.2.2.1
theorem sw_lret {v : Int64} (cx : sf_Cx p m meth c cc nL s args own D tys A) (hr : meth.sig.returnType = some .long) (hQ : Q = MQ below (sf_Q D tys A (some (.long v)) ws) args s 0 0 A) (hdg : decode cc pc = .ok (.lreturn, 1)) : sf_W p l e R s m args below meth c 0 0 Q nL D A ws lv pc [.long v] := by
  subst hQ
  exact fun H locs ls hP hD hS hl => W.lret cx.1 cx.2.1 hr (fun t ht hW => ⟨⟨rfl, by rw [ht]; exact hP, va_K.moved hW.alike cx.2.2.2.2.2.2.1, hD⟩, hS.F ht⟩) hS.2.2 hdg cx.2.2.2.2.2.2.2.2.1
theorem sw_vret (cx : sf_Cx p m meth c cc nL s args own D tys A) (hr : meth.sig.returnType = none) (hQ : Q = MQ below (sf_Q D tys A none ws) args s 0 0 A) (hdg : decode cc pc = .ok (.return_, 1)) : sf_W p l e R s m args below meth c 0 0 Q nL D A ws lv pc [] := by
  subst hQ
  exact fun H locs ls hP hD hS hl => W.vret cx.1 cx.2.1 hr (fun t ht hW => ⟨⟨rfl, by rw [ht]; exact hP, va_K.moved hW.alike cx.2.2.2.2.2.2.1, hD⟩, hS.F ht⟩) hS.2.2 hdg cx.2.2.2.2.2.2.2.2.1
theorem sw_aret {v : Nat} {rt : FieldType} (cx : sf_Cx p m meth c cc nL s args own D tys A) (hr : meth.sig.returnType = some rt) (hrt : (∃ n, rt = .object n) ∨ ∃ t, rt = .array t) (hQ : Q = MQ below (sf_Q D tys A (some (.ref v)) ws) args s 0 0 A) (hdg : decode cc pc = .ok (.areturn, 1)) : sf_W p l e R s m args below meth c 0 0 Q nL D A ws lv pc [.ref v] := by
  subst hQ
  exact fun H locs ls hP hD hS hl => W.aret cx.1 cx.2.1 hr hrt (Or.inr ⟨v, rfl⟩) (fun t ht hW => ⟨⟨rfl, by rw [ht]; exact hP, va_K.moved hW.alike cx.2.2.2.2.2.2.1, hD⟩, hS.F ht⟩) hS.2.2 hdg cx.2.2.2.2.2.2.2.2.1
end SF
