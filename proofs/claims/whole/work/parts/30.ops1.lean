/-! the calls: the mountain, fines -/
section O1
variable {mu : MtS} {row fi fnd : Nat → Int32}
theorem RA_of {mu : MtS} {r0 row : Nat → Int32} {N : Nat → Nat} {z : Int32} (hC : CR mu N z) (hM : MR 0 r0 row N z) (hb : BN N) (hy : N 0 ≤ 9999) : RA mu row := ⟨N, z, hC, hM.self, hb, hy⟩
theorem op_rock (h : RA mu row) (hF : RF fi fnd) (a0 a1 : Int32) : ∃ r mu' fi' row' fnd', f_X9_rock mu fi a0 a1 = some (r, mu', fi') ∧ f_X10_rock row fnd a0 a1 = some (r, row', fnd') ∧ RA mu' row' ∧ RF fi' fnd' := by
  obtain ⟨N, z, hC, hM, hb, hy⟩ := id h
  obtain ⟨fi', fnd', e1, e2, hF'⟩ := find0 hF
  rcases wplace a0 with ⟨p1, p2⟩ | ⟨p, hp, rfl, p1, p2⟩
  · refine ⟨-1000000001, mu, fi', row, fnd', ?_, ?_, h, hF'⟩
    · rw [q_X9_rock, p2, bd_sm, if_pos rfl, q_X9_rock_b17, e1, bd_sm]
    · rw [q_X10_rock, p1, bd_sm, if_pos rfl, q_X10_rock_b17, e2, bd_sm]
  · rcases win a1 1 9 (by decide) (by decide) with ⟨w1, w2⟩ | ⟨v, hv1, hv9, rfl, w1, w2⟩
    · refine ⟨-1000000001, mu, fi', row, fnd', ?_, ?_, h, hF'⟩
      · rw [q_X9_rock, p2, bd_sm, if_neg (by decide), w2, bd_sm, if_pos rfl, q_X9_rock_b17, e1, bd_sm]
      · rw [q_X10_rock, p1, bd_sm, if_neg (by decide), w1, bd_sm, if_pos rfl, q_X10_rock_b17, e2, bd_sm]
    · have hr := hC.rk hp
      refine ⟨nI (N (5 + p)), _, fi, upd row (5 + p) (nI v), fnd, ?_, ?_, RA_of (CR_rk hC hp (v := v)) (hM.p0 (k := 5 + p) (by omega) (by omega) (v := v) (Or.inr (by omega))) (BN_rk hb hp hv1 hv9) (by rw [nu_n (by omega)]; exact hy), hF⟩
      · rw [q_X9_rock, p2, bd_sm, if_neg (by decide), w2, bd_sm, if_neg (by decide), gx_n (by omega) (by decide), gx_n (by omega) (by decide), nI_clamp (by omega), hr]
      · rw [q_X10_rock, p1, bd_sm, if_neg (by decide), w1, bd_sm, if_neg (by decide), nI_add, gx_n (by omega) (by decide), gx_n (by omega) (by decide), nI_clamp (by omega), hM.g0 (by omega) (by omega)]
theorem op_let (h : RA mu row) (hF : RF fi fnd) (a0 a1 : Int32) : ∃ r mu' fi' row' fnd', f_X9_let mu fi a0 a1 = some (r, mu', fi') ∧ f_X10_let row fnd a0 a1 = some (r, row', fnd') ∧ RA mu' row' ∧ RF fi' fnd' := by
  obtain ⟨N, z, hC, hM, hb, hy⟩ := id h
  obtain ⟨fi', fnd', e1, e2, hF'⟩ := find0 hF
  have k1 : ¬ nI 1 = nI 0 := by decide
  have k2 : ¬ nI 0 = nI 1 := by decide
  rcases win a0 0 1 (by decide) (by decide) with ⟨w1, w2⟩ | ⟨k, -, hk, rfl, w1, -⟩
  · have n0 : ¬ a0 = nI 0 := by
      rintro rfl
      rw [q_X10_in, if_neg (by decide), if_neg (by decide)] at w1
      exact absurd (Option.some.inj w1) (by decide)
    have n1 : ¬ a0 = nI 1 := by
      rintro rfl
      rw [q_X10_in, if_neg (by decide), if_neg (by decide)] at w1
      exact absurd (Option.some.inj w1) (by decide)
    refine ⟨-1000000001, mu, fi', row, fnd', ?_, ?_, h, hF'⟩
    · rw [q_X9_let, if_neg n0, q_X9_let_b32, if_neg n1, q_X9_let_b65, e1, bd_sm]
    · rw [q_X10_let, w1, bd_sm, if_pos rfl, q_X10_let_b28, e2, bd_sm]
  · rcases (show k = 0 ∨ k = 1 by omega) with rfl | rfl
    · rcases win a1 0 9 (by decide) (by decide) with ⟨v1, v2⟩ | ⟨v, -, hv, rfl, v1, v2⟩
      · refine ⟨-1000000001, mu, fi', row, fnd', ?_, ?_, h, hF'⟩
        · rw [q_X9_let, if_pos rfl, v2, bd_sm, if_pos rfl, q_X9_let_b32, if_neg k2, q_X9_let_b65, e1, bd_sm]
        · rw [q_X10_let, w1, bd_sm, if_neg (by decide), if_pos rfl, q_X10_let_b22, v1, bd_sm, if_pos rfl, q_X10_let_b28, e2, bd_sm]
      · refine ⟨nI (N 1), _, fi, upd row 1 (nI v), fnd, ?_, ?_, RA_of (CR_sc hC (k := 1) (v := v) (fr := nI v) (me := mu.1 0 2) (Or.inl rfl) (by rw [nu_s]) (by rw [nu_n (by decide)]; exact hC.2.2.1)) (hM.p0 (k := 1) (by omega) (by omega) (v := v) (Or.inr (by omega))) (BN_1 hb hv) (by rw [nu_n (by omega)]; exact hy), hF⟩
        · rw [q_X9_let, if_pos rfl, v2, bd_sm, if_neg (by decide), hC.2.1]
        · rw [q_X10_let, w1, bd_sm, if_neg (by decide), if_pos rfl, q_X10_let_b22, v1, bd_sm, if_neg (by decide), nI_add, gx_n (by omega) (by decide), gx_n (by omega) (by decide), nI_clamp (by omega), hM.g0 (by omega) (by omega)]
    · rcases win a1 0 20 (by decide) (by decide) with ⟨v1, v2⟩ | ⟨v, -, hv, rfl, v1, v2⟩
      · refine ⟨-1000000001, mu, fi', row, fnd', ?_, ?_, h, hF'⟩
        · rw [q_X9_let, if_neg k1, q_X9_let_b32, if_pos rfl, v2, bd_sm, if_pos rfl, q_X9_let_b65, e1, bd_sm]
        · rw [q_X10_let, w1, bd_sm, if_neg (by decide), if_neg k1, q_X10_let_b22, v1, bd_sm, if_pos rfl, q_X10_let_b28, e2, bd_sm]
      · refine ⟨nI (N 2), _, fi, upd row 2 (nI v), fnd, ?_, ?_, RA_of (CR_sc hC (k := 2) (v := v) (fr := mu.1 0 1) (me := nI v) (Or.inr rfl) (by rw [nu_n (by decide)]; exact hC.2.1) (by rw [nu_s])) (hM.p0 (k := 2) (by omega) (by omega) (v := v) (Or.inr (by omega))) (BN_2 hb hv) (by rw [nu_n (by omega)]; exact hy), hF⟩
        · rw [q_X9_let, if_neg k1, q_X9_let_b32, if_pos rfl, v2, bd_sm, if_neg (by decide), hC.2.2.1]
        · rw [q_X10_let, w1, bd_sm, if_neg (by decide), if_neg k1, q_X10_let_b22, v1, bd_sm, if_neg (by decide), nI_add, gx_n (by omega) (by decide), gx_n (by omega) (by decide), nI_clamp (by omega), hM.g0 (by omega) (by omega)]
/-- a new fine, in both -/
def addS (N : Nat → Nat) (k st p a : Nat) : Nat → Nat := nupd (nupd (nupd (nupd (nupd (nupd N (205 + 5 * N 4 + 0) k) (205 + 5 * N 4 + 1) st) (205 + 5 * N 4 + 2) p) (205 + 5 * N 4 + 3) a) (205 + 5 * N 4 + 4) 0) 4 (N 4 + 1)
theorem addS_out {N : Nat → Nat} {k st p a j : Nat} (h4 : j ≠ 4) (hj : j < 205 + 5 * N 4 ∨ 205 + 5 * N 4 + 5 ≤ j) : addS N k st p a j = N j := by
  unfold addS
  rw [nu_n h4, nu_n (by omega), nu_n (by omega), nu_n (by omega), nu_n (by omega), nu_n (by omega)]
theorem addS_4 {N : Nat → Nat} {k st p a : Nat} : addS N k st p a 4 = N 4 + 1 := nu_s
theorem addS_new {N : Nat → Nat} {k st p a : Nat} : fld (addS N k st p a) (N 4) 0 = k ∧ fld (addS N k st p a) (N 4) 1 = st ∧ fld (addS N k st p a) (N 4) 2 = p ∧ fld (addS N k st p a) (N 4) 3 = a ∧ fld (addS N k st p a) (N 4) 4 = 0 := by
  unfold addS
  refine ⟨?_, ?_, ?_, ?_, ?_⟩
  · rw [fld_ne (by omega), fld_up (by decide) (by decide), fld_up (by decide) (by decide), fld_up (by decide) (by decide), fld_up (by decide) (by decide), fld_up (by decide) (by decide)]; simp
  · rw [fld_ne (by omega), fld_up (by decide) (by decide), fld_up (by decide) (by decide), fld_up (by decide) (by decide), fld_up (by decide) (by decide), fld_up (by decide) (by decide)]; simp
  · rw [fld_ne (by omega), fld_up (by decide) (by decide), fld_up (by decide) (by decide), fld_up (by decide) (by decide), fld_up (by decide) (by decide), fld_up (by decide) (by decide)]; simp
  · rw [fld_ne (by omega), fld_up (by decide) (by decide), fld_up (by decide) (by decide), fld_up (by decide) (by decide), fld_up (by decide) (by decide), fld_up (by decide) (by decide)]; simp
  · rw [fld_ne (by omega), fld_up (by decide) (by decide), fld_up (by decide) (by decide), fld_up (by decide) (by decide), fld_up (by decide) (by decide), fld_up (by decide) (by decide)]; simp
theorem addS_old {N : Nat → Nat} {k st p a g w : Nat} (hg : g ≠ N 4) (hw : w < 5) : fld (addS N k st p a) g w = fld N g w := addS_out (by omega) (by omega)
theorem BN_add {N : Nat → Nat} (hb : BN N) (h4 : N 4 < 10) {k st p a : Nat} (hk : k ≤ 5) (hs : st ≤ 40) (hp : p ≤ 39) (ha : 1 ≤ a ∧ a ≤ 9) : BN (addS N k st p a) := by
  refine ⟨by rw [addS_out (by omega) (by omega)]; exact hb.1, by rw [addS_out (by omega) (by omega)]; exact hb.2.1, by rw [addS_4]; omega, fun q hq => ?_, fun g hg => ?_⟩
  · rw [addS_out (by omega) (by omega), addS_out (by omega) (by omega), addS_out (by omega) (by omega), addS_out (by omega) (by omega)]; exact hb.2.2.2.1 q hq
  · rw [addS_4]
    by_cases e : g = N 4
    · subst e
      obtain ⟨e0, e1, e2, e3, e4⟩ := addS_new (N := N) (k := k) (st := st) (p := p) (a := a)
      rw [e0, e1, e2, e3, e4]
      exact ⟨hk, hs, hp, ha.2, by omega, fun _ => ha.1⟩
    · rw [addS_old e (by decide), addS_old e (by decide), addS_old e (by decide), addS_old e (by decide), addS_old e (by decide)]
      obtain ⟨b0, b1, b2, b3, b4, b5⟩ := hb.2.2.2.2 g hg
      exact ⟨b0, b1, b2, b3, b4, fun hN => b5 (by omega)⟩
theorem c_isFull {N : Nat → Nat} {z : Int32} (hC : CR mu N z) (hb : BN N) : f_X4_isFull mu = some (if N 4 = 10 then nI 1 else nI 0) := by
  have := hb.2.2.1
  rw [q_X4_isFull, hC.mn]
  by_cases e : N 4 = 10
  · rw [if_neg (nI_nlt (by omega) (by omega)), if_pos e]
  · rw [if_pos (nI_lt (by omega) (by decide)), if_neg e]
theorem c_addFine {N : Nat → Nat} {z : Int32} (hC : CR mu N z) (hb : BN N) (h4 : N 4 < 10) {k st p a : Nat} : ∃ mu', f_X4_addFine mu (nI k) (nI st) (nI p) (nI a) = some mu' ∧ CR mu' (addS N k st p a) z := by
  rw [q_X4_addFine, c_isFull hC hb, bd_sm, if_neg (show ¬ N 4 = 10 by omega), if_pos rfl, hC.mn, gx_n h4 (by decide), gx_n h4 (by decide), gx_n h4 (by decide), gx_n h4 (by decide), gx_n h4 (by decide), nI_clamp (by omega), nI_add]
  refine ⟨_, rfl, ?_⟩
  obtain ⟨e0, e1, e2, e3, e4⟩ := addS_new (N := N) (k := k) (st := st) (p := p) (a := a)
  refine ⟨?_, ?_, ?_, hC.2.2.2.1, ?_, fun q hq => ?_, fun q hq hw => ?_, fun g hg => ?_, ?_⟩
  · rw [addS_out (by omega) (by omega)]; exact hC.1
  · rw [addS_out (by omega) (by omega)]; exact hC.2.1
  · rw [addS_out (by omega) (by omega)]; exact hC.2.2.1
  · rw [addS_4]; rfl
  · rw [addS_out (by omega) (by omega)]; exact hC.rk hq
  · rw [addS_out (by omega) (by omega)] at hw
    rw [addS_out (by omega) (by omega), addS_out (by omega) (by omega), addS_out (by omega) (by omega)]
    exact hC.2.2.2.2.2.2.1 q hq hw
  · rw [addS_4] at hg
    by_cases e : g = N 4
    · subst e
      rw [e0, e1, e2, e3, e4]
      exact ⟨pk_us, pk_us, pk_us, pk_us, pk_us⟩
    · rw [addS_old e (by decide), addS_old e (by decide), addS_old e (by decide), addS_old e (by decide), addS_old e (by decide)]
      obtain ⟨a0, a1, a2, a3, a4⟩ := hC.fin (f := g) (by omega)
      exact ⟨(pk_un e).trans a0, (pk_un e).trans a1, (pk_un e).trans a2, (pk_un e).trans a3, (pk_un e).trans a4⟩
  · obtain ⟨W, h1, h2, h3⟩ := hC.2.2.2.2.2.2.2.2
    exact ⟨W, h1, h2, fun p hp => by rw [addS_out (by omega) (by omega)]; exact h3 p hp⟩
theorem m_addFine {r0 : Nat → Int32} {N : Nat → Nat} {z : Int32} (hM : MR 0 r0 row N z) (h4 : N 4 < 10) {k st p a : Nat} (hk : k < 1000) (hs : st < 1000) (hp : p < 1000) (ha : a < 1000) : ∃ row', f_X10_addFine row (nI 0) (nI k) (nI st) (nI p) (nI a) = some row' ∧ MR 0 r0 row' (addS N k st p a) z := by
  have h1 := hM.put (k := 205 + 5 * N 4 + 0) (by omega) (by omega) (v := k) (Or.inr hk)
  have h2 := h1.put (k := 205 + 5 * N 4 + 1) (by omega) (by omega) (v := st) (Or.inr hs)
  have h3 := h2.put (k := 205 + 5 * N 4 + 2) (by omega) (by omega) (v := p) (Or.inr hp)
  have h4' := h3.put (k := 205 + 5 * N 4 + 3) (by omega) (by omega) (v := a) (Or.inr ha)
  have h5 := h4'.put (k := 205 + 5 * N 4 + 4) (by omega) (by omega) (v := 0) (Or.inr (by decide))
  have h6 := h5.p0 (k := 4) (by omega) (by omega) (v := N 4 + 1) (Or.inr (by omega))
  have g := h5.g0 (k := 4) (by omega) (by omega)
  rw [nu_n (by omega), nu_n (by omega), nu_n (by omega), nu_n (by omega), nu_n (by omega)] at g
  refine ⟨_, ?_, h6⟩
  rw [q_X10_addFine, nI_clamp (by decide), hM.g0 (by decide) (by decide), m_sets (by decide) h4 (by decide), bd_sm, m_sets (by decide) h4 (by decide), bd_sm, m_sets (by decide) h4 (by decide), bd_sm, m_sets (by decide) h4 (by decide), bd_sm, m_sets (by decide) h4 (by decide), bd_sm, g, nI_add]
theorem op_fine (h : RA mu row) (hF : RF fi fnd) (a0 a1 a2 : Int32) : ∃ r mu' fi' row' fnd', f_X9_fine mu fi a0 a1 a2 = some (r, mu', fi') ∧ f_X10_fine row (nI 0) fnd a0 a1 a2 = some (r, row', fnd') ∧ RA mu' row' ∧ RF fi' fnd' := by
  obtain ⟨N, z, hC, hM, hb, hy⟩ := id h
  obtain ⟨fi', fnd', e1, e2, hF'⟩ := find0 hF
  have h10 := hb.2.2.1
  rcases wkind a0 with ⟨k1, k2⟩ | ⟨k, hk, rfl, k1, k2⟩
  · refine ⟨-1000000001, mu, fi', row, fnd', ?_, ?_, h, hF'⟩
    · rw [q_X9_fine, k2, bd_sm, if_pos rfl, q_X9_fine_b24, e1, bd_sm]
    · rw [q_X10_fine, k1, bd_sm, if_pos rfl, q_X10_fine_b24, e2, bd_sm]
  · rcases win a1 1 40 (by decide) (by decide) with ⟨w1, w2⟩ | ⟨st, hs1, hs, rfl, w1, w2⟩
    · refine ⟨-1000000001, mu, fi', row, fnd', ?_, ?_, h, hF'⟩
      · rw [q_X9_fine, k2, bd_sm, if_neg (by decide), w2, bd_sm, if_pos rfl, q_X9_fine_b24, e1, bd_sm]
      · rw [q_X10_fine, k1, bd_sm, if_neg (by decide), w1, bd_sm, if_pos rfl, q_X10_fine_b24, e2, bd_sm]
    · rcases wplace a2 with ⟨p1, p2⟩ | ⟨p, hp, rfl, p1, p2⟩
      · refine ⟨-1000000001, mu, fi', row, fnd', ?_, ?_, h, hF'⟩
        · rw [q_X9_fine, k2, bd_sm, if_neg (by decide), w2, bd_sm, if_neg (by decide), p2, bd_sm, if_pos rfl, q_X9_fine_b24, e1, bd_sm]
        · rw [q_X10_fine, k1, bd_sm, if_neg (by decide), w1, bd_sm, if_neg (by decide), p1, bd_sm, if_pos rfl, q_X10_fine_b24, e2, bd_sm]
      · by_cases c : N 4 = 10
        · obtain ⟨fi', fnd', e1, e2, hF'⟩ := find1 hF
          refine ⟨-1000000002, mu, fi', row, fnd', ?_, ?_, h, hF'⟩
          · rw [q_X9_fine, k2, bd_sm, if_neg (by decide), w2, bd_sm, if_neg (by decide), p2, bd_sm, if_neg (by decide), c_isFull hC hb, bd_sm, if_pos c, if_neg (by decide), e1, bd_sm]
          · rw [q_X10_fine, k1, bd_sm, if_neg (by decide), w1, bd_sm, if_neg (by decide), p1, bd_sm, if_neg (by decide), nI_clamp (by decide), hM.g0 (by decide) (by decide), if_pos (by rw [c]), e2, bd_sm]
        · obtain ⟨mu', f1, hC'⟩ := c_addFine hC hb (show N 4 < 10 by omega) (k := k) (st := st) (p := p) (a := 3)
          obtain ⟨row', f2, hM'⟩ := m_addFine hM (show N 4 < 10 by omega) (k := k) (st := st) (p := p) (a := 3) (by omega) (by omega) (by omega) (by decide)
          have hn : ¬ nI (N 4) = nI 10 := fun q => c ((nI_eq (by omega) (by decide)).mp q)
          refine ⟨nI (N 4), mu', fi, row', fnd, ?_, ?_, RA_of hC' hM' (BN_add hb (by omega) (by omega) (by omega) (by omega) (by decide)) (by rw [addS_out (by omega) (by omega)]; exact hy), hF⟩
          · rw [q_X9_fine, k2, bd_sm, if_neg (by decide), w2, bd_sm, if_neg (by decide), p2, bd_sm, if_neg (by decide), c_isFull hC hb, bd_sm, if_neg c, if_pos rfl, f1, bd_sm, hC'.mn, addS_4, pk_sub (by omega), Nat.add_sub_cancel]
          · rw [q_X10_fine, k1, bd_sm, if_neg (by decide), w1, bd_sm, if_neg (by decide), p1, bd_sm, if_neg (by decide), nI_clamp (by decide), hM.g0 (by decide) (by decide), if_neg hn, f2, bd_sm, hM'.g0 (by decide) (by decide), addS_4, pk_sub (by omega), Nat.add_sub_cancel]
end O1
