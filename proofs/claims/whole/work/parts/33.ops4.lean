/-! the calls: years, on, reachOn, pass, paid, farthest -/
section O4
variable {mu tr : MtS} {row r0 fi fnd : Nat → Int32} {N : Nat → Nat} {z : Int32}
theorem nf1 : ¬ (-1000000001 : Int32) = nI 0 := by decide
theorem nf5 : ¬ (-1000000005 : Int32) = nI 0 := by decide
theorem yr_0 : (yrS N z).1 0 = N 0 + 1 := by
  by_cases h : N 1 = 0
  · rw [yr_a h]; show nupd (syS N (N 4)) 0 (N 0 + 1) 0 = N 0 + 1; exact nu_s
  · rw [yr_b h]
    generalize fzA (syS N (N 4)) z = Q
    show nupd Q.1 0 (N 0 + 1) 0 = N 0 + 1; exact nu_s
theorem gy_0 : ∀ k, (gyS N z k).1 0 = N 0 + k
  | 0 => rfl
  | k + 1 => by
    show (yrS (gyS N z k).1 (gyS N z k).2).1 0 = N 0 + (k + 1)
    rw [yr_0, gy_0 k]; rfl
theorem yr_4 (hb : BN N) : (yrS N z).1 4 = N 4 := by
  by_cases h : N 1 = 0
  · rw [yr_a h]; show nupd (syS N (N 4)) 0 (N 0 + 1) 4 = N 4; rw [nu_n (by decide), sy_out hb (by omega) _ hb.2.2.1]
  · have e : (fzA (syS N (N 4)) z).1 4 = N 4 := by rw [fzA_out (by omega), sy_out hb (by omega) _ hb.2.2.1]
    rw [yr_b h]
    generalize fzA (syS N (N 4)) z = Q at e ⊢
    show nupd Q.1 0 (N 0 + 1) 4 = N 4
    rw [nu_n (by decide), e]
theorem rch_le : rch N ≤ 40 := rc_le 40 0
theorem latek (hC : CR mu N z) (hM : MR 0 r0 row N z) (hy : N 0 ≤ 9999) {k : Nat} (hk : k < 1000) : (N 0 + k ≤ 9999 ∧ f_X9_isTooLateFor mu (nI k) = some (nI 0) ∧ f_X10_isLate row (nI k) = some (nI 0)) ∨ (f_X9_isTooLateFor mu (nI k) = some (nI 1) ∧ f_X10_isLate row (nI k) = some (nI 1)) := by
  rw [q_X9_isTooLateFor, q_X10_isLate, hC.1, nI_clamp (by decide), hM.g0 (by decide) (by decide), nI_add]
  by_cases c : N 0 + k ≤ 9999
  · left
    exact ⟨c, by rw [if_pos (nI_le c (by decide))], by rw [if_pos (nI_le c (by decide))]⟩
  · right
    exact ⟨by rw [if_neg (nI_ge (by omega) (by omega))], by rw [if_neg (nI_ge (by omega) (by omega))]⟩
theorem ayears (hC : CR mu N z) (hM : MR 0 r0 row N z) (hy : N 0 ≤ 9999) (hF : RF fi fnd) (a0 : Int32) (lo hi : Nat) (hh : lo ≤ hi) (h3 : hi < 1000) :
    (∃ fi' fnd', f_X10_in a0 (nI lo) (nI hi) = some (nI 0) ∧ f_X9_againstYears mu fi a0 (nI lo) (nI hi) = some ((-1000000001 : Int32), fi') ∧ f_X10_finds fnd (-1000000001 : Int32) = some ((-1000000001 : Int32), fnd') ∧ RF fi' fnd') ∨
    (∃ fi' fnd', f_X10_in a0 (nI lo) (nI hi) = some (nI 1) ∧ f_X10_isLate row a0 = some (nI 1) ∧ f_X9_againstYears mu fi a0 (nI lo) (nI hi) = some ((-1000000005 : Int32), fi') ∧ f_X10_finds fnd (-1000000005 : Int32) = some ((-1000000005 : Int32), fnd') ∧ RF fi' fnd') ∨
    (∃ k, lo ≤ k ∧ k ≤ hi ∧ a0 = nI k ∧ N 0 + k ≤ 9999 ∧ f_X10_in a0 (nI lo) (nI hi) = some (nI 1) ∧ f_X10_isLate row a0 = some (nI 0) ∧ f_X9_againstYears mu fi a0 (nI lo) (nI hi) = some (nI 0, fi)) := by
  rcases win a0 lo hi h3 hh with ⟨w1, w2⟩ | ⟨k, hk1, hk2, rfl, w1, w2⟩
  · left
    obtain ⟨fi', fnd', e1, e2, hF'⟩ := find0 hF
    exact ⟨fi', fnd', w1, by rw [q_X9_againstYears, w2, bd_sm, if_pos rfl, e1, bd_sm], e2, hF'⟩
  · right
    rcases latek hC hM hy (k := k) (by omega) with ⟨l0, l1, l2⟩ | ⟨l1, l2⟩
    · right
      exact ⟨k, hk1, hk2, rfl, l0, w1, l2, by rw [q_X9_againstYears, w2, bd_sm, if_neg (by decide), l1, bd_sm, if_pos rfl]⟩
    · left
      obtain ⟨fi', fnd', e1, e2, hF'⟩ := find4 hF
      exact ⟨fi', fnd', w1, l2, by rw [q_X9_againstYears, w2, bd_sm, if_neg (by decide), l1, bd_sm, if_neg (by decide), e1, bd_sm], e2, hF'⟩
theorem RA.back {rowT : Nat → Int32} {M : Nat → Nat} {w : Int32} (h : RA mu row) (hT : MR 255 row rowT M w) : RA mu rowT := by
  obtain ⟨N, z, hC, hM, hb, hy⟩ := h
  exact ⟨N, z, hC, hT.back hM, hb, hy⟩
theorem op_years (h : RA mu row) (hF : RF fi fnd) (a0 : Int32) : ∃ r mu' fi' row' fnd', f_X9_years mu fi a0 = some (r, mu', fi') ∧ f_X10_years row (nI 0) fnd a0 = some (r, row', fnd') ∧ RA mu' row' ∧ RF fi' fnd' := by
  obtain ⟨N, z, hC, hM, hb, hy⟩ := id h
  rw [q_X9_years, q_X10_years]
  rcases ayears hC hM hy hF a0 1 200 (by decide) (by decide) with ⟨fi', fnd', w1, g1, e2, hF'⟩ | ⟨fi', fnd', w1, l1, g1, e2, hF'⟩ | ⟨k, hk1, hk2, rfl, hyk, w1, l1, g1⟩
  · exact ⟨-1000000001, mu, fi', row, fnd', by rw [g1, bd_sm, if_neg nf1], by rw [w1, bd_sm, if_pos rfl, e2, bd_sm], h, hF'⟩
  · exact ⟨-1000000005, mu, fi', row, fnd', by rw [g1, bd_sm, if_neg nf5], by rw [w1, bd_sm, if_neg (by decide), l1, bd_sm, if_neg (by decide), e2, bd_sm], h, hF'⟩
  · obtain ⟨u', c1, c2⟩ := c_go hC hb (k := k) (by omega)
    obtain ⟨r', m1, m2⟩ := m_go hM hb (by decide) (k := k) (by omega)
    refine ⟨nI (cw (gyS N z k).1 40), u', fi, r', fnd, ?_, ?_, RA_of c2 m2 (BN_gy hb z k) (by rw [gy_0]; exact hyk), hF⟩
    · rw [g1, bd_sm, if_pos rfl, c1, bd_sm, c_wholes c2 (BN_gy hb z k), bd_sm]
    · rw [w1, bd_sm, if_neg (by decide), l1, bd_sm, if_pos rfl, m1, bd_sm, m_wholes m2 (by decide), bd_sm]
/-- a trial begins, in both -/
theorem trial (hC : CR mu N z) (hM : MR 0 r0 row N z) (hb : BN N) (tr : MtS) (att : Int32) : ∃ t rT, f_X9_startTrial mu tr = some t ∧ CR t N z ∧ f_X10_lends row att = some (rT, nI 255) ∧ MR 255 row rT N z := by
  obtain ⟨t, c1, c2⟩ := c_become tr hC hb
  obtain ⟨rT, m1, m2⟩ := m_lends hM att
  exact ⟨t, rT, by rw [q_X9_startTrial, c1, bd_sm], c2, m1, m2⟩
theorem op_on (h : RA mu row) (hF : RF fi fnd) (tr : MtS) (a0 : Int32) : ∃ r tr' fi' row' fnd', f_X9_on mu tr fi a0 = some (r, tr', fi') ∧ f_X10_on row (nI 0) fnd a0 = some (r, row', nI 0, fnd') ∧ RA mu row' ∧ RF fi' fnd' := by
  obtain ⟨N, z, hC, hM, hb, hy⟩ := id h
  rw [q_X9_on, q_X10_on, q_X10_isLong]
  rcases ayears hC hM hy hF a0 0 200 (by decide) (by decide) with ⟨fi', fnd', w1, g1, e2, hF'⟩ | ⟨fi', fnd', w1, l1, g1, e2, hF'⟩ | ⟨k, hk1, hk2, rfl, hyk, w1, l1, g1⟩
  · exact ⟨(-1000000001 : Int32).toInt64, tr, fi', row, fnd', by rw [g1, bd_sm, if_neg nf1], by rw [w1, bd_sm, gb_n0, bd_sm, if_pos rfl, e2, bd_sm], h, hF'⟩
  · exact ⟨(-1000000005 : Int32).toInt64, tr, fi', row, fnd', by rw [g1, bd_sm, if_neg nf5], by rw [w1, bd_sm, gb_n1, bd_sm, if_neg (by decide), l1, bd_sm, if_neg (by decide), e2, bd_sm], h, hF'⟩
  · obtain ⟨t, rT, t1, t2, t3, t4⟩ := trial hC hM hb tr (nI 0)
    obtain ⟨u', c1, c2⟩ := c_go t2 hb (k := k) (by omega)
    obtain ⟨r', m1, m2⟩ := m_go t4 hb (by decide) (k := k) (by omega)
    refine ⟨u'.2, u', fi, r', fnd, ?_, ?_, h.back m2, hF⟩
    · rw [g1, bd_sm, if_pos rfl, t1, bd_sm, c1, bd_sm]
    · rw [w1, bd_sm, gb_n1, bd_sm, if_neg (by decide), l1, bd_sm, if_pos rfl, t3, bd_sm, m1, bd_sm, m_wset m2 (by decide) c2, bd_sm]
theorem op_reachOn (h : RA mu row) (hF : RF fi fnd) (tr : MtS) (a0 : Int32) : ∃ r tr' fi' row' fnd', f_X9_reachOn mu tr fi a0 = some (r, tr', fi') ∧ f_X10_reachOn row (nI 0) fnd a0 = some (r, row', nI 0, fnd') ∧ RA mu row' ∧ RF fi' fnd' := by
  obtain ⟨N, z, hC, hM, hb, hy⟩ := id h
  rw [q_X9_reachOn, q_X10_reachOn, q_X10_isLong]
  rcases ayears hC hM hy hF a0 0 200 (by decide) (by decide) with ⟨fi', fnd', w1, g1, e2, hF'⟩ | ⟨fi', fnd', w1, l1, g1, e2, hF'⟩ | ⟨k, hk1, hk2, rfl, hyk, w1, l1, g1⟩
  · exact ⟨-1000000001, tr, fi', row, fnd', by rw [g1, bd_sm, if_neg nf1], by rw [w1, bd_sm, gb_n0, bd_sm, if_pos rfl, e2, bd_sm], h, hF'⟩
  · exact ⟨-1000000005, tr, fi', row, fnd', by rw [g1, bd_sm, if_neg nf5], by rw [w1, bd_sm, gb_n1, bd_sm, if_neg (by decide), l1, bd_sm, if_neg (by decide), e2, bd_sm], h, hF'⟩
  · obtain ⟨t, rT, t1, t2, t3, t4⟩ := trial hC hM hb tr (nI 0)
    obtain ⟨u', c1, c2⟩ := c_go t2 hb (k := k) (by omega)
    obtain ⟨r', m1, m2⟩ := m_go t4 hb (by decide) (k := k) (by omega)
    refine ⟨nI (rch (gyS N z k).1), u', fi, r', fnd, ?_, ?_, h.back m2, hF⟩
    · rw [g1, bd_sm, if_pos rfl, t1, bd_sm, c1, bd_sm, c_climb c2 (BN_gy hb z k), bd_sm]
    · rw [w1, bd_sm, gb_n1, bd_sm, if_neg (by decide), l1, bd_sm, if_pos rfl, t3, bd_sm, m1, bd_sm, m_reach m2 (by decide), bd_sm]
theorem c_go1 (h : CR tr N z) (hb : BN N) : ∃ u', f_X4_goYears tr (nI 1) = some u' ∧ CR u' (yrS N z).1 (yrS N z).2 := c_go h hb (k := 1) (by decide)
theorem pass_l (hF : RF fi fnd) : ∀ n i (N : Nat → Nat) (z : Int32) (tr : MtS) (row : Nat → Int32), i ≤ 201 → 201 < i + n → CR tr N z → MR 255 r0 row N z → BN N → ∃ r tr' fi' row' fnd', f_X9_pass_b22 mu n tr fi (nI i) = some (r, tr', fi') ∧ f_X10_pass_b23 n row (nI 255) fnd (nI i) = some (r, row', nI 0, fnd') ∧ (∃ M w, MR 255 r0 row' M w) ∧ RF fi' fnd'
  | 0, i, N, z, tr, row, h1, h2, hC, hM, hb => by omega
  | n + 1, i, N, z, tr, row, h1, h2, hC, hM, hb => by
    rw [q_X9_pass_b22, q_X10_pass_b23]
    by_cases c : i = 201
    · obtain ⟨fi', fnd', e1, e2, hF'⟩ := find3 hF
      subst c
      exact ⟨-1000000004, tr, fi', row, fnd', by rw [if_pos (by decide), e1, bd_sm], by rw [if_pos (by decide), q_X10_pass_b49, if_neg (by decide), e2, bd_sm], ⟨N, z, hM⟩, hF'⟩
    · rw [if_neg (nI_nlt (by omega) (by omega)), if_neg (nI_nlt (by omega) (by omega)), c_climb hC hb, m_reach hM (by decide), bd_sm, bd_sm]
      have hr := rch_le (N := N)
      by_cases e : rch N = 40
      · exact ⟨nI i, tr, fi, row, fnd, by rw [e, if_pos rfl], by rw [e, if_pos (by decide), q_X10_pass_b49, if_pos (nI_le (by omega) (by omega))], ⟨N, z, hM⟩, hF⟩
      · obtain ⟨u', c1, c2⟩ := c_go1 hC hb
        obtain ⟨r', m1, m2⟩ := m_year hM hb (by decide)
        rw [if_neg (nsel e (by omega) (by decide)), if_neg (nI_ge (by omega) (by decide)), c1, m1, bd_sm, bd_sm, nI_add]
        exact pass_l hF n (i + 1) _ _ u' r' (by omega) (by omega) c2 m2 (BN_yr hb z)
theorem op_pass (h : RA mu row) (hF : RF fi fnd) (tr : MtS) : ∃ r tr' fi' row' fnd', f_X9_pass mu tr fi = some (r, tr', fi') ∧ f_X10_pass row (nI 0) fnd = some (r, row', nI 0, fnd') ∧ RA mu row' ∧ RF fi' fnd' := by
  obtain ⟨N, z, hC, hM, hb, hy⟩ := id h
  rw [q_X9_pass, q_X10_pass]
  rcases latek hC hM hy (k := 200) (by omega) with ⟨l0, l1, l2⟩ | ⟨l1, l2⟩
  · obtain ⟨t, rT, t1, t2, t3, t4⟩ := trial hC hM hb tr (nI 0)
    obtain ⟨r, tr', fi', row', fnd', p1, p2, ⟨M, w, p3⟩, p4⟩ := pass_l (mu := mu) hF 1000 0 N z t rT (by decide) (by decide) t2 t4 hb
    exact ⟨r, tr', fi', row', fnd', by rw [l1, bd_sm, if_pos rfl, t1, bd_sm, p1], by rw [l2, bd_sm, if_pos rfl, t3, bd_sm, p2], h.back p3, p4⟩
  · obtain ⟨fi', fnd', e1, e2, hF'⟩ := find4 hF
    exact ⟨-1000000005, tr, fi', row, fnd', by rw [l1, bd_sm, if_neg (by decide), e1, bd_sm], by rw [l2, bd_sm, if_neg (by decide), e2, bd_sm], h, hF'⟩
theorem paid_l (hF : RF fi fnd) {f : Nat} : ∀ n i (N : Nat → Nat) (z : Int32) (tr : MtS) (row : Nat → Int32), i ≤ 201 → 201 < i + n → CR tr N z → MR 255 r0 row N z → BN N → f < N 4 → ∃ r tr' fi' row' fnd', f_X9_paid_b39 mu n tr fi (nI f) (nI i) = some (r, tr', fi') ∧ f_X10_paid_b38 n row (nI 255) fnd (nI f) (nI i) = some (r, row', nI 0, fnd') ∧ (∃ M w, MR 255 r0 row' M w) ∧ RF fi' fnd'
  | 0, i, N, z, tr, row, h1, h2, hC, hM, hb, hf => by omega
  | n + 1, i, N, z, tr, row, h1, h2, hC, hM, hb, hf => by
    have h4 := hb.2.2.1
    have h1' := (hb.2.2.2.2 f (by omega)).2.1
    rw [q_X9_paid_b39, q_X10_paid_b38]
    by_cases c : i = 201
    · obtain ⟨fi', fnd', e1, e2, hF'⟩ := find3 hF
      subst c
      exact ⟨-1000000004, tr, fi', row, fnd', by rw [if_pos (by decide), e1, bd_sm], by rw [if_pos (by decide), q_X10_paid_b64, if_neg (by decide), e2, bd_sm], ⟨N, z, hM⟩, hF'⟩
    · rw [if_neg (nI_nlt (by omega) (by omega)), if_neg (nI_nlt (by omega) (by omega)), gx_n (show f < 10 by omega) (by decide), nI_clamp (by omega), (hC.fin hf).2.1, m_fineOf hM (by decide) (by omega) (by decide), bd_sm]
      by_cases e : fld N f 1 = 0
      · exact ⟨nI i, tr, fi, row, fnd, by rw [e, if_pos rfl], by rw [e, if_pos (by decide), q_X10_paid_b64, if_pos (nI_le (by omega) (by omega))], ⟨N, z, hM⟩, hF⟩
      · obtain ⟨u', c1, c2⟩ := c_go1 hC hb
        obtain ⟨r', m1, m2⟩ := m_year hM hb (by decide)
        rw [if_neg (nsel e (by omega) (by decide)), if_neg (nI_ge (by omega) (by omega)), c1, m1, bd_sm, bd_sm, nI_add]
        exact paid_l hF n (i + 1) _ _ u' r' (by omega) (by omega) c2 m2 (BN_yr hb z) (by rw [yr_4 hb]; exact hf)
theorem op_paid (h : RA mu row) (hF : RF fi fnd) (tr : MtS) (a0 : Int32) : ∃ r tr' fi' row' fnd', f_X9_paid mu tr fi a0 = some (r, tr', fi') ∧ f_X10_paid row (nI 0) fnd a0 = some (r, row', nI 0, fnd') ∧ RA mu row' ∧ RF fi' fnd' := by
  obtain ⟨N, z, hC, hM, hb, hy⟩ := id h
  rw [q_X9_paid, q_X10_paid]
  rcases wfine hC hM hb a0 with ⟨p1, p2⟩ | ⟨f, hf, hf10, rfl, p1, p2⟩
  · obtain ⟨fi', fnd', e1, e2, hF'⟩ := find0 hF
    exact ⟨-1000000001, tr, fi', row, fnd', by rw [p2, bd_sm, if_pos rfl, e1, bd_sm], by rw [p1, bd_sm, if_pos rfl, e2, bd_sm], h, hF'⟩
  · rcases latek hC hM hy (k := 200) (by omega) with ⟨l0, l1, l2⟩ | ⟨l1, l2⟩
    · obtain ⟨t, rT, t1, t2, t3, t4⟩ := trial hC hM hb tr (nI 0)
      obtain ⟨r, tr', fi', row', fnd', q1, q2, ⟨M, w, q3⟩, q4⟩ := paid_l (mu := mu) hF 1000 0 N z t rT (by decide) (by decide) t2 t4 hb hf
      exact ⟨r, tr', fi', row', fnd', by rw [p2, bd_sm, if_neg (by decide), l1, bd_sm, if_pos rfl, t1, bd_sm, q1], by rw [p1, bd_sm, if_neg (by decide), l2, bd_sm, if_pos rfl, t3, bd_sm, q2], h.back q3, q4⟩
    · obtain ⟨fi', fnd', e1, e2, hF'⟩ := find4 hF
      exact ⟨-1000000005, tr, fi', row, fnd', by rw [p2, bd_sm, if_neg (by decide), l1, bd_sm, if_neg (by decide), e1, bd_sm], by rw [p1, bd_sm, if_neg (by decide), l2, bd_sm, if_neg (by decide), e2, bd_sm], h, hF'⟩
theorem far_l {k : Nat} (hk : k < 1000) : ∀ n i (x : Nat) (N : Nat → Nat) (z : Int32) (tr : MtS) (row : Nat → Int32), i ≤ k → k < i + n → x ≤ 40 → CR tr N z → MR 255 r0 row N z → BN N → ∃ r tr' row', f_X9_farthest_b31 mu n tr fi (nI k) (nI x) (nI (i + 1)) = some (r, tr', fi) ∧ f_X10_farthest_b40 n row (nI 255) fnd (nI k) (nI x) (nI i) = some (r, row', nI 0, fnd) ∧ (∃ M w, MR 255 r0 row' M w)
  | 0, i, x, N, z, tr, row, h1, h2, hx, hC, hM, hb => by omega
  | n + 1, i, x, N, z, tr, row, h1, h2, hx, hC, hM, hb => by
    rw [q_X9_farthest_b31, q_X10_farthest_b40]
    by_cases c : i = k
    · subst c
      exact ⟨nI x, tr, row, by rw [if_pos (nI_lt (by omega) (by omega))], by rw [if_pos (nI_le (Nat.le_refl _) (by omega))], ⟨N, z, hM⟩⟩
    · obtain ⟨u', c1, c2⟩ := c_go1 hC hb
      obtain ⟨r', m1, m2⟩ := m_year hM hb (by decide)
      have hr := rch_le (N := (yrS N z).1)
      rw [if_neg (nI_nlt (by omega) (by omega)), if_neg (nI_ge (by omega) (by omega)), c1, m1, bd_sm, bd_sm, c_climb c2 (BN_yr hb z), m_reach m2 (by decide), bd_sm, bd_sm, nI_add]
      by_cases e : x < rch (yrS N z).1
      · rw [if_pos (nI_lt e (by omega)), if_neg (nI_ge e (by omega)), q_X10_farthest_b67, nI_add]
        exact far_l hk n (i + 1) _ _ _ u' r' (by omega) (by omega) hr c2 m2 (BN_yr hb z)
      · rw [if_neg (nI_nlt (by omega) (by omega)), if_pos (nI_le (by omega) (by omega)), q_X10_farthest_b67, nI_add]
        exact far_l hk n (i + 1) _ _ _ u' r' (by omega) (by omega) hx c2 m2 (BN_yr hb z)
theorem op_farthest (h : RA mu row) (hF : RF fi fnd) (tr : MtS) (a0 : Int32) : ∃ r tr' fi' row' fnd', f_X9_farthest mu tr fi a0 = some (r, tr', fi') ∧ f_X10_farthest row (nI 0) fnd a0 = some (r, row', nI 0, fnd') ∧ RA mu row' ∧ RF fi' fnd' := by
  obtain ⟨N, z, hC, hM, hb, hy⟩ := id h
  rw [q_X9_farthest, q_X10_farthest, q_X10_isLong]
  rcases ayears hC hM hy hF a0 0 200 (by decide) (by decide) with ⟨fi', fnd', w1, g1, e2, hF'⟩ | ⟨fi', fnd', w1, l1, g1, e2, hF'⟩ | ⟨k, hk1, hk2, rfl, hyk, w1, l1, g1⟩
  · exact ⟨-1000000001, tr, fi', row, fnd', by rw [g1, bd_sm, if_neg nf1], by rw [w1, bd_sm, gb_n0, bd_sm, if_pos rfl, e2, bd_sm], h, hF'⟩
  · exact ⟨-1000000005, tr, fi', row, fnd', by rw [g1, bd_sm, if_neg nf5], by rw [w1, bd_sm, gb_n1, bd_sm, if_neg (by decide), l1, bd_sm, if_neg (by decide), e2, bd_sm], h, hF'⟩
  · obtain ⟨t, rT, t1, t2, t3, t4⟩ := trial hC hM hb tr (nI 0)
    obtain ⟨r, tr', row', q1, q2, ⟨M, w, q3⟩⟩ := far_l (mu := mu) (fi := fi) (fnd := fnd) (k := k) (by omega) 1000 0 (rch N) N z t rT (by omega) (by omega) rch_le t2 t4 hb
    refine ⟨r, tr', fi, row', fnd, ?_, ?_, h.back q3, hF⟩
    · rw [g1, bd_sm, if_pos rfl, t1, bd_sm, c_climb t2 hb, bd_sm]; exact q1
    · rw [w1, bd_sm, gb_n1, bd_sm, if_neg (by decide), l1, bd_sm, if_pos rfl, t3, bd_sm, m_reach t4 (by decide), bd_sm]; exact q2
end O4
