/-! the calls: best, kind, needed, bears, meetsFor, alone, whose, steepest, mend -/
section O5
variable {mu tr : MtS} {row r0 fi fnd : Nat → Int32} {N : Nat → Nat} {z : Int32}
theorem m_then {o : Nat} (hM : MR o r0 row N z) (hb : BN N) (ho : o ≤ 255) {k : Nat} (hk : k < 1000) : ∃ row', f_X10_reachThen row (nI o) (nI k) = some (nI (rch (gyS N z k).1), row', nI 0) ∧ MR o r0 row' (gyS N z k).1 (gyS N z k).2 := by
  obtain ⟨r', m1, m2⟩ := m_go hM hb ho hk
  exact ⟨r', by rw [q_X10_reachThen, m1, bd_sm, m_reach m2 ho, bd_sm], m2⟩
theorem msets {o : Nat} (hM : MR o r0 row N z) {f w v : Nat} (hf : f < 10) (hw : w < 5) (hv : v < 1000) : MR o r0 (upd row (o + (205 + 5 * f + w)) (nI v)) (nupd N (205 + 5 * f + w) v) z := hM.put (by omega) (by omega) (Or.inr hv)
theorem best_l (hC : CR mu N z) (hb : BN N) (hy : N 0 ≤ 9999) {f k : Nat} (hf : f < N 4) (hk : k < 1000) : ∀ n i (b v : Int32) (tr : MtS) (row : Nat → Int32) (att : Int32), i ≤ 40 → 40 < i + n → MR 0 row row N z → att = nI 0 → ∃ r tr' row', f_X9_best_b71 mu n tr fi (nI f) (nI k) (nI (fld N f 2)) b v (nI i) = some (r, tr', fi) ∧ f_X10_best_b61 n row att fnd (nI f) (nI k) b (nI (fld N f 2)) v (nI i) = some (r, row', nI 0, fnd) ∧ MR 0 row' row' N z
  | 0, i, b, v, tr, row, att, h1, h2, hM, ha => by omega
  | n + 1, i, b, v, tr, row, att, h1, h2, hM, ha => by
    have h4 := hb.2.2.1
    have h2' := (hb.2.2.2.2 f (by omega)).2.2.1
    rw [q_X9_best_b71, q_X10_best_b61]
    by_cases c : i = 40
    · subst c
      exact ⟨b, tr, row, by rw [if_pos (by decide)], by rw [if_pos (by decide), ha], hM⟩
    · rw [if_neg (nI_ge (by omega) (by decide)), if_neg (nI_ge (by omega) (by decide))]
      by_cases e : i = fld N f 2
      · rw [if_pos (by rw [e]), if_pos (by rw [e]), q_X9_best_b134, q_X10_best_b131, nI_add]
        exact best_l hC hb hy hf hk n (i + 1) b v tr row att (by omega) (by omega) hM ha
      · rw [if_neg (nsel e (by omega) (by omega)), if_neg (nsel e (by omega) (by omega))]
        obtain ⟨t, rT, t1, t2, t3, t4⟩ := trial hC hM hb tr att
        obtain ⟨u1, c1, c2⟩ := c_move t2 hb (a := i) hf
        have hM1 := msets t4 (f := f) (w := 2) (v := i) (by omega) (by decide) (by omega)
        have hM2 := msets hM1 (f := f) (w := 4) (v := 0) (by omega) (by decide) (by omega)
        have hb1 := BN_fld hb (f := f) (w := 2) (v := i) (by omega) (by decide) (by omega) (by omega) (fun _ => by omega) (by omega) (by omega)
        have hb2 := BN_fld hb1 (f := f) (w := 4) (v := 0) (by omega) (by decide) (by omega) (by omega) (by omega) (by omega) (fun _ => by omega)
        obtain ⟨u2, c3, c4⟩ := c_go c2 hb2 hk
        obtain ⟨r2, m3, m4⟩ := m_then hM2 hb2 (by decide) hk
        have hbk := m4.back hM
        rw [t1, t3, bd_sm, bd_sm, c1, bd_sm, c3, bd_sm, c_climb c4 (BN_gy hb2 z k), bd_sm, m_sets (by decide) (by omega) (by decide), bd_sm, m_sets (by decide) (by omega) (by decide), bd_sm, m3, bd_sm]
        generalize nI (rch (gyS (nupd (nupd N (205 + 5 * f + 2) i) (205 + 5 * f + 4) 0) z k).1) = rr
        show ∃ r tr' row', (if rr ≤ v then _ else _) = _ ∧ (if rr ≤ v then _ else _) = _ ∧ _
        by_cases g : rr ≤ v
        · rw [if_pos g, if_pos g, q_X9_best_b134, q_X10_best_b114, if_pos g, q_X10_best_b129, q_X10_best_b131, nI_add]
          exact best_l hC hb hy hf hk n (i + 1) b v u2 r2 (nI 0) (by omega) (by omega) hbk rfl
        · rw [if_neg g, if_neg g, q_X9_best_b134, q_X10_best_b114, if_neg g, q_X10_best_b129, q_X10_best_b131, nI_add]
          exact best_l hC hb hy hf hk n (i + 1) _ rr u2 r2 (nI 0) (by omega) (by omega) hbk rfl
theorem op_best (h : RA mu row) (hF : RF fi fnd) (tr : MtS) (a0 a1 : Int32) : ∃ r tr' fi' row' fnd', f_X9_best mu tr fi a0 a1 = some (r, tr', fi') ∧ f_X10_best row (nI 0) fnd a0 a1 = some (r, row', nI 0, fnd') ∧ RA mu row' ∧ RF fi' fnd' := by
  obtain ⟨N, z, hC, hM, hb, hy⟩ := id h
  rw [q_X9_best, q_X10_best, q_X10_isSoon]
  rcases wfine hC hM hb a0 with ⟨p1, p2⟩ | ⟨f, hf, hf10, rfl, p1, p2⟩
  · obtain ⟨fi', fnd', e1, e2, hF'⟩ := find0 hF
    exact ⟨-1000000001, tr, fi', row, fnd', by rw [p2, bd_sm, if_pos rfl, e1, bd_sm], by rw [p1, bd_sm, if_pos rfl, q_X10_best_b15, e2, bd_sm], h, hF'⟩
  · rw [p1, p2, bd_sm, bd_sm, if_neg (by decide), if_neg (by decide)]
    rcases ayears hC hM hy hF a1 1 100 (by decide) (by decide) with ⟨fi', fnd', w1, g1, e2, hF'⟩ | ⟨fi', fnd', w1, l1, g1, e2, hF'⟩ | ⟨k, hk1, hk2, rfl, hyk, w1, l1, g1⟩
    · exact ⟨-1000000001, tr, fi', row, fnd', by rw [g1, bd_sm, if_neg nf1], by rw [w1, bd_sm, gb_n0, bd_sm, if_pos rfl, q_X10_best_b15, e2, bd_sm], h, hF'⟩
    · exact ⟨-1000000005, tr, fi', row, fnd', by rw [g1, bd_sm, if_neg nf5], by rw [w1, bd_sm, gb_n1, bd_sm, if_neg (by decide), l1, bd_sm, if_neg (by decide), e2, bd_sm], h, hF'⟩
    · obtain ⟨t, rT, t1, t2, t3, t4⟩ := trial hC hM hb tr (nI 0)
      obtain ⟨u', c1, c2⟩ := c_go t2 hb (k := k) (by omega)
      obtain ⟨r', m1, m2⟩ := m_then t4 hb (by decide) (k := k) (by omega)
      obtain ⟨r, tr', row', q1, q2, q3⟩ := best_l (fi := fi) (fnd := fnd) hC hb hy hf (k := k) (by omega) 1000 0 (nI (fld N f 2)) (nI (rch (gyS N z k).1)) u' r' (nI 0) (by omega) (by omega) (m2.back hM) rfl
      refine ⟨r, tr', fi, row', fnd, ?_, ?_, ⟨N, z, hC, q3, hb, hy⟩, hF⟩
      · rw [g1, bd_sm, if_pos rfl, gx_n hf10 (by decide), t1, bd_sm, c1, bd_sm, c_climb c2 (BN_gy hb z k), bd_sm, nI_clamp (by omega), (hC.fin hf).2.2.1]; exact q1
      · rw [w1, bd_sm, gb_n1, bd_sm, if_neg (by decide), l1, bd_sm, if_pos rfl, t3, bd_sm, m_fineOf t4 (by decide) hf10 (by decide), bd_sm, m1, bd_sm]; exact q2
theorem kind_l (hC : CR mu N z) (hb : BN N) {f k : Nat} (hf : f < N 4) (hk : k < 1000) : ∀ n i (b v : Int32) (tr : MtS) (row : Nat → Int32) (att : Int32), i ≤ 6 → 6 < i + n → MR 0 row row N z → att = nI 0 → ∃ r tr' row', f_X9_kind_b41 mu n tr fi (nI f) (nI k) b v (nI i) = some (r, tr', fi) ∧ f_X10_kind_b45 n row att fnd (nI f) (nI k) b v (nI i) = some (r, row', nI 0, fnd) ∧ MR 0 row' row' N z
  | 0, i, b, v, tr, row, att, h1, h2, hM, ha => by omega
  | n + 1, i, b, v, tr, row, att, h1, h2, hM, ha => by
    have h4 := hb.2.2.1
    rw [q_X9_kind_b41, q_X10_kind_b45]
    by_cases c : i = 6
    · subst c
      exact ⟨b, tr, row, by rw [if_pos (by decide)], by rw [if_pos (by decide), ha], hM⟩
    · rw [if_neg (nI_ge (by omega) (by decide)), if_neg (nI_nlt (by omega) (by decide))]
      obtain ⟨t, rT, t1, t2, t3, t4⟩ := trial hC hM hb tr att
      have c2 := CR_f0 t2 (f := f) (v := i)
      have hM1 := msets t4 (f := f) (w := 0) (v := i) (by omega) (by decide) (by omega)
      have hb1 := BN_fld hb (f := f) (w := 0) (v := i) (by omega) (by decide) (fun _ => by omega) (by omega) (by omega) (by omega) (by omega)
      obtain ⟨u2, c3, c4⟩ := c_go c2 hb1 hk
      obtain ⟨r2, m3, m4⟩ := m_then hM1 hb1 (by decide) hk
      have hbk := m4.back hM
      rw [t1, t3, bd_sm, bd_sm, gx_n (show f < 10 by omega) (by decide), nI_clamp (show f < 2 ^ 31 by omega), c3, bd_sm, c_climb c4 (BN_gy hb1 z k), bd_sm, m_sets (by decide) (by omega) (by decide), bd_sm, m3, bd_sm]
      generalize nI (rch (gyS (nupd N (205 + 5 * f + 0) i) z k).1) = rr
      show ∃ r tr' row', (if rr ≤ v then _ else _) = _ ∧ (if rr ≤ v then _ else _) = _ ∧ _
      by_cases g : rr ≤ v
      · rw [if_pos g, if_pos g, q_X9_kind_b95, q_X10_kind_b83, if_pos g, q_X10_kind_b98, nI_add]
        exact kind_l hC hb hf hk n (i + 1) b v u2 r2 (nI 0) (by omega) (by omega) hbk rfl
      · rw [if_neg g, if_neg g, q_X9_kind_b95, q_X10_kind_b83, if_neg g, q_X10_kind_b98, nI_add]
        exact kind_l hC hb hf hk n (i + 1) _ rr u2 r2 (nI 0) (by omega) (by omega) hbk rfl
theorem op_kind (h : RA mu row) (hF : RF fi fnd) (tr : MtS) (a0 a1 : Int32) : ∃ r tr' fi' row' fnd', f_X9_kind mu tr fi a0 a1 = some (r, tr', fi') ∧ f_X10_kind row (nI 0) fnd a0 a1 = some (r, row', nI 0, fnd') ∧ RA mu row' ∧ RF fi' fnd' := by
  obtain ⟨N, z, hC, hM, hb, hy⟩ := id h
  rw [q_X9_kind, q_X10_kind, q_X10_isSoon]
  rcases wfine hC hM hb a0 with ⟨p1, p2⟩ | ⟨f, hf, hf10, rfl, p1, p2⟩
  · obtain ⟨fi', fnd', e1, e2, hF'⟩ := find0 hF
    exact ⟨-1000000001, tr, fi', row, fnd', by rw [p2, bd_sm, if_pos rfl, e1, bd_sm], by rw [p1, bd_sm, if_pos rfl, q_X10_kind_b15, e2, bd_sm], h, hF'⟩
  · rw [p1, p2, bd_sm, bd_sm, if_neg (by decide), if_neg (by decide)]
    rcases ayears hC hM hy hF a1 1 100 (by decide) (by decide) with ⟨fi', fnd', w1, g1, e2, hF'⟩ | ⟨fi', fnd', w1, l1, g1, e2, hF'⟩ | ⟨k, hk1, hk2, rfl, hyk, w1, l1, g1⟩
    · exact ⟨-1000000001, tr, fi', row, fnd', by rw [g1, bd_sm, if_neg nf1], by rw [w1, bd_sm, gb_n0, bd_sm, if_pos rfl, q_X10_kind_b15, e2, bd_sm], h, hF'⟩
    · exact ⟨-1000000005, tr, fi', row, fnd', by rw [g1, bd_sm, if_neg nf5], by rw [w1, bd_sm, gb_n1, bd_sm, if_neg (by decide), l1, bd_sm, if_neg (by decide), e2, bd_sm], h, hF'⟩
    · obtain ⟨r, tr', row', q1, q2, q3⟩ := kind_l (fi := fi) (fnd := fnd) hC hb hf (k := k) (by omega) 1000 0 (nI 0) (-1) tr row (nI 0) (by omega) (by omega) hM rfl
      refine ⟨r, tr', fi, row', fnd, ?_, ?_, ⟨N, z, hC, q3, hb, hy⟩, hF⟩
      · rw [g1, bd_sm, if_pos rfl]; exact q1
      · rw [w1, bd_sm, gb_n1, bd_sm, if_neg (by decide), l1, bd_sm, if_pos rfl]; exact q2
theorem needed_l (hC : CR mu N z) (hb : BN N) (hF : RF fi fnd) {k : Nat} (hk : k < 1000) : ∀ n i (b v : Int32) (tr : MtS) (row : Nat → Int32) (att : Int32), i ≤ N 4 → N 4 < i + n → MR 0 row row N z → att = nI 0 → ∃ r tr' fi' row' fnd', f_X9_needed_b41 mu n tr fi (nI k) v b (nI i) = some (r, tr', fi') ∧ f_X10_needed_b44 n row att fnd (nI k) v b (nI i) = some (r, row', nI 0, fnd') ∧ MR 0 row' row' N z ∧ RF fi' fnd'
  | 0, i, b, v, tr, row, att, h1, h2, hM, ha => by omega
  | n + 1, i, b, v, tr, row, att, h1, h2, hM, ha => by
    have h4 := hb.2.2.1
    rw [q_X9_needed_b41, q_X10_needed_b44, hC.mn, nI_clamp (show 4 < 2 ^ 31 by decide), hM.g0 (by decide) (by decide)]
    by_cases c : i = N 4
    · rw [if_pos (nI_le (by omega) (by omega)), if_pos (nI_le (by omega) (by omega))]
      by_cases g : nI 0 ≤ b
      · exact ⟨b, tr, fi, row, fnd, by rw [if_pos g], by rw [if_pos g, ha], hM, hF⟩
      · obtain ⟨fi', fnd', e1, e2, hF'⟩ := find3 hF
        exact ⟨-1000000004, tr, fi', row, fnd', by rw [if_neg g, e1, bd_sm], by rw [if_neg g, e2, bd_sm, ha], hM, hF'⟩
    · rw [if_neg (nI_ge (by omega) (by omega)), if_neg (nI_ge (by omega) (by omega))]
      obtain ⟨t, rT, t1, t2, t3, t4⟩ := trial hC hM hb tr att
      have c2 := CR_f1 t2 (f := i) (v := 0)
      have hM1 := msets t4 (f := i) (w := 1) (v := 0) (by omega) (by decide) (by omega)
      have hb1 := BN_fld hb (f := i) (w := 1) (v := 0) (by omega) (by decide) (by omega) (fun _ => by omega) (by omega) (by omega) (by omega)
      obtain ⟨u2, c3, c4⟩ := c_go c2 hb1 hk
      obtain ⟨r2, m3, m4⟩ := m_then hM1 hb1 (by decide) hk
      have hbk := m4.back hM
      rw [t1, t3, bd_sm, bd_sm, gx_n (show i < 10 by omega) (by decide), nI_clamp (show i < 2 ^ 31 by omega), c3, bd_sm, c_climb c4 (BN_gy hb1 z k), bd_sm, m_sets (by decide) (by omega) (by decide), bd_sm, m3, bd_sm]
      generalize nI (rch (gyS (nupd N (205 + 5 * i + 1) 0) z k).1) = rr
      show ∃ r tr' fi' row' fnd', (if v ≤ rr then _ else _) = _ ∧ (if v ≤ rr then _ else _) = _ ∧ _
      by_cases g : v ≤ rr
      · rw [if_pos g, if_pos g, q_X9_needed_b98, q_X10_needed_b86, if_pos g, q_X10_needed_b99, nI_add]
        exact needed_l hC hb hF hk n (i + 1) b v u2 r2 (nI 0) (by omega) (by omega) hbk rfl
      · rw [if_neg g, if_neg g, q_X9_needed_b98, q_X10_needed_b86, if_neg g, q_X10_needed_b99, nI_add]
        exact needed_l hC hb hF hk n (i + 1) _ rr u2 r2 (nI 0) (by omega) (by omega) hbk rfl
theorem op_needed (h : RA mu row) (hF : RF fi fnd) (tr : MtS) (a0 : Int32) : ∃ r tr' fi' row' fnd', f_X9_needed mu tr fi a0 = some (r, tr', fi') ∧ f_X10_needed row (nI 0) fnd a0 = some (r, row', nI 0, fnd') ∧ RA mu row' ∧ RF fi' fnd' := by
  obtain ⟨N, z, hC, hM, hb, hy⟩ := id h
  rw [q_X9_needed, q_X10_needed, q_X10_isSoon]
  rcases ayears hC hM hy hF a0 1 100 (by decide) (by decide) with ⟨fi', fnd', w1, g1, e2, hF'⟩ | ⟨fi', fnd', w1, l1, g1, e2, hF'⟩ | ⟨k, hk1, hk2, rfl, hyk, w1, l1, g1⟩
  · exact ⟨-1000000001, tr, fi', row, fnd', by rw [g1, bd_sm, if_neg nf1], by rw [w1, bd_sm, gb_n0, bd_sm, if_pos rfl, e2, bd_sm], h, hF'⟩
  · exact ⟨-1000000005, tr, fi', row, fnd', by rw [g1, bd_sm, if_neg nf5], by rw [w1, bd_sm, gb_n1, bd_sm, if_neg (by decide), l1, bd_sm, if_neg (by decide), e2, bd_sm], h, hF'⟩
  · obtain ⟨t, rT, t1, t2, t3, t4⟩ := trial hC hM hb tr (nI 0)
    obtain ⟨u', c1, c2⟩ := c_go t2 hb (k := k) (by omega)
    obtain ⟨r', m1, m2⟩ := m_then t4 hb (by decide) (k := k) (by omega)
    obtain ⟨r, tr', fi', row', fnd', q1, q2, q3, q4⟩ := needed_l hC hb hF (k := k) (by omega) 1000 0 (-1) (nI (rch (gyS N z k).1)) u' r' (nI 0) (by omega) (by have := hb.2.2.1; omega) (m2.back hM) rfl
    refine ⟨r, tr', fi', row', fnd', ?_, ?_, ⟨N, z, hC, q3, hb, hy⟩, q4⟩
    · rw [g1, bd_sm, if_pos rfl, t1, bd_sm, c1, bd_sm, c_climb c2 (BN_gy hb z k), bd_sm]; exact q1
    · rw [w1, bd_sm, gb_n1, bd_sm, if_neg (by decide), l1, bd_sm, if_pos rfl, t3, bd_sm, m1, bd_sm]; exact q2
end O5
