/-! the calls: bears, meetsFor, alone, whose, steepest, mend -/
section O6
variable {mu tr : MtS} {row r0 fi fnd : Nat → Int32} {N : Nat → Nat} {z : Int32}
/-- the highest frost below i that bears -/
def bl (N : Nat → Nat) (z : Int32) (k : Nat) : Nat → Int32
  | 0 => -1
  | i + 1 => if rch (gyS (nupd N 1 i) z k).1 = 40 then nI i else bl N z k i
theorem bl_s (k i : Nat) : bl N z k (i + 1) = if rch (gyS (nupd N 1 i) z k).1 = 40 then nI i else bl N z k i := rfl
theorem nI_m1 (j : Nat) : nI j + (-1 : Int32) = nI j - nI 1 := by
  rw [Int32.sub_eq_add_neg]; rfl
theorem c_bears_l (hC : CR mu N z) (hb : BN N) {k : Nat} (hk : k < 1000) : ∀ i n (tr : MtS), i ≤ 10 → i < n → ∃ tr', f_X9_bears_b19 mu n tr fi (nI k) (nI i - nI 1) = if nI 0 ≤ bl N z k i then some (bl N z k i, tr', fi) else bd (f_X9_found fi (nI 3)) (fun r4 => some (r4.1, tr', r4.2))
  | i, 0, tr, h1, h2 => by omega
  | 0, n + 1, tr, h1, h2 => by
    refine ⟨tr, ?_⟩
    rw [q_X9_bears_b19, if_pos (by decide), if_neg (by show ¬ nI 0 ≤ -1; decide)]
  | i + 1, n + 1, tr, h1, h2 => by
    rw [pk_sub (by omega), Nat.add_sub_cancel, q_X9_bears_b19, if_neg (nI_nlt (Nat.zero_le _) (by omega))]
    obtain ⟨t, c1, c2⟩ := c_become tr hC hb
    have c3 := CR_sc c2 (k := 1) (v := i) (Or.inl rfl) (fr := nI i) (me := t.1 0 2) (by rw [nu_s]) (by rw [nu_n (by decide)]; exact c2.2.2.1)
    have hb1 := BN_1 hb (v := i) (by omega)
    obtain ⟨u2, c4, c5⟩ := c_go c3 hb1 hk
    have hr := rch_le (N := (gyS (nupd N 1 i) z k).1)
    rw [q_X9_startTrial, c1, bd_sm, bd_sm, c4, bd_sm, c_climb c5 (BN_gy hb1 z k), bd_sm, bl_s]
    generalize rch (gyS (nupd N 1 i) z k).1 = rr at hr ⊢
    by_cases e : rr = 40
    · refine ⟨u2, ?_⟩
      rw [e, if_pos rfl, if_pos rfl, if_pos (nI_le (Nat.zero_le _) (by omega))]
    · obtain ⟨t', p⟩ := c_bears_l hC hb hk i n u2 (by omega) (by omega)
      refine ⟨t', ?_⟩
      rw [if_neg (nsel e (by omega) (by decide)), if_neg e, nI_m1]
      exact p
theorem m_bears_l (hb : BN N) {k : Nat} (hk : k < 1000) : ∀ n i (row : Nat → Int32) (att : Int32), i ≤ 10 → 10 < i + n → MR 0 row row N z → att = nI 0 → ∃ row', f_X10_bears_b37 n row att fnd (nI k) (bl N z k i) (nI i) = (if nI 0 ≤ bl N z k 10 then some (bl N z k 10, row', nI 0, fnd) else bd (f_X10_finds fnd (-1000000004 : Int32)) (fun r9 => some (r9.1, row', nI 0, r9.2))) ∧ MR 0 row' row' N z
  | 0, i, row, att, h1, h2, hM, ha => by omega
  | n + 1, i, row, att, h1, h2, hM, ha => by
    rw [q_X10_bears_b37]
    by_cases c : i = 10
    · subst c
      exact ⟨row, by rw [if_pos (by decide), ha], hM⟩
    · obtain ⟨rT, m1, m2⟩ := m_lends hM att
      have m3 := m2.put (k := 1) (v := i) (by decide) (by decide) (Or.inr (by omega))
      obtain ⟨r2, m4, m5⟩ := m_then m3 (BN_1 hb (v := i) (by omega)) (by decide) hk
      have hbk := m5.back hM
      have hr := rch_le (N := (gyS (nupd N 1 i) z k).1)
      have ih := m_bears_l hb hk n (i + 1) r2 (nI 0) (by omega) (by omega) hbk rfl
      rw [bl_s] at ih
      rw [if_neg (nI_ge (by omega) (by decide)), m1, bd_sm]
      show ∃ row', gx (nI 255 + nI 1) 510 (bd (f_X10_reachThen (upd rT (nI 255 + nI 1).toNatClampNeg (nI i)) (nI 255) (nI k)) _) = _ ∧ _
      rw [nI_add, gx_n (by decide) (by decide), nI_clamp (by decide), m4, bd_sm]
      generalize rch (gyS (nupd N 1 i) z k).1 = rr at hr ih ⊢
      show ∃ row', (if nI rr = nI 40 then _ else _) = _ ∧ _
      by_cases e : rr = 40
      · rw [if_pos e] at ih
        rw [if_pos (by rw [e]), q_X10_bears_b74, nI_add]; exact ih
      · rw [if_neg e] at ih
        rw [if_neg (nsel e (by omega) (by decide)), q_X10_bears_b74, nI_add]; exact ih
theorem op_bears (h : RA mu row) (hF : RF fi fnd) (tr : MtS) (a0 : Int32) : ∃ r tr' fi' row' fnd', f_X9_bears mu tr fi a0 = some (r, tr', fi') ∧ f_X10_bears row (nI 0) fnd a0 = some (r, row', nI 0, fnd') ∧ RA mu row' ∧ RF fi' fnd' := by
  obtain ⟨N, z, hC, hM, hb, hy⟩ := id h
  rw [q_X9_bears, q_X10_bears]
  rcases ayears hC hM hy hF a0 1 200 (by decide) (by decide) with ⟨fi', fnd', w1, g1, e2, hF'⟩ | ⟨fi', fnd', w1, l1, g1, e2, hF'⟩ | ⟨k, hk1, hk2, rfl, hyk, w1, l1, g1⟩
  · exact ⟨-1000000001, tr, fi', row, fnd', by rw [g1, bd_sm, if_neg nf1], by rw [w1, bd_sm, if_pos rfl, e2, bd_sm], h, hF'⟩
  · exact ⟨-1000000005, tr, fi', row, fnd', by rw [g1, bd_sm, if_neg nf5], by rw [w1, bd_sm, if_neg (by decide), l1, bd_sm, if_neg (by decide), e2, bd_sm], h, hF'⟩
  · obtain ⟨tr', p1⟩ := c_bears_l (fi := fi) hC hb (k := k) (by omega) 10 1000 tr (by decide) (by decide)
    obtain ⟨row', p2, p3⟩ := m_bears_l (fnd := fnd) (z := z) hb (k := k) (by omega) 1000 0 row (nI 0) (by decide) (by decide) hM rfl
    rw [show nI 10 - nI 1 = nI 9 by decide] at p1
    rw [show bl N z k 0 = -1 from rfl] at p2
    rw [g1, bd_sm, if_pos rfl, w1, bd_sm, if_neg (by decide), l1, bd_sm, if_pos rfl, p1, p2]
    by_cases g : nI 0 ≤ bl N z k 10
    · exact ⟨bl N z k 10, tr', fi, row', fnd, by rw [if_pos g], by rw [if_pos g], ⟨N, z, hC, p3, hb, hy⟩, hF⟩
    · obtain ⟨fi', fnd', e1, e2, hF'⟩ := find3 hF
      exact ⟨-1000000004, tr', fi', row', fnd', by rw [if_neg g, e1, bd_sm], by rw [if_neg g, e2, bd_sm], ⟨N, z, hC, p3, hb, hy⟩, hF'⟩
theorem rc_cong {M : Nat → Nat} {m : Nat} (hM : ∀ j, 45 ≤ j → M j = N j) : ∀ k n, rcS M m k n = rcS N m k n
  | 0, n => rfl
  | k + 1, n => by
    show (if M (45 + n) = 1 ∧ (n = 0 ∨ (M (85 + n) ≤ M (85 + n - 1) + m ∧ M (85 + n - 1) ≤ M (85 + n) + m)) then rcS M m k (n + 1) else n) = (if N (45 + n) = 1 ∧ (n = 0 ∨ (N (85 + n) ≤ N (85 + n - 1) + m ∧ N (85 + n - 1) ≤ N (85 + n) + m)) then rcS N m k (n + 1) else n)
    rw [hM (45 + n) (by omega), hM (85 + n) (by omega), hM (85 + n - 1) (by omega), rc_cong hM k (n + 1)]
theorem rch_m {m : Nat} : rch (nupd N 2 m) = rcS N m 40 0 := by
  show rcS (nupd N 2 m) (nupd N 2 m 2) 40 0 = _
  rw [nu_s]; exact rc_cong (fun j hj => nu_n (by omega)) 40 0
theorem meets_l (hC : CR mu N z) (hb : BN N) (hF : RF fi fnd) {a : Nat} (ha : a ≤ 40) : ∀ n i (row : Nat → Int32) (c : Nat), i ≤ 21 → 21 < i + n → MR 0 r0 row (nupd N 2 c) z → ∃ r fi' row' fnd', f_X9_meetsFor_b18 mu n fi (nI a) (nI i) = some (r, fi') ∧ f_X10_meetsFor_b29 (nI 0) n row fnd (nI a) (nI (N 2)) (nI i) (nI 0) = some (r, row', fnd') ∧ MR 0 r0 row' N z ∧ RF fi' fnd'
  | 0, i, row, c, h1, h2, hM => by omega
  | n + 1, i, row, c, h1, h2, hM => by
    have hN2 := hb.2.1
    have hend : ∀ (row : Nat → Int32) (c : Nat), MR 0 r0 row (nupd N 2 c) z → MR 0 r0 (upd row (nI 2).toNatClampNeg (nI (N 2))) N z := by
      intro row c hM
      have := hM.p0 (k := 2) (v := N 2) (by decide) (by decide) (Or.inr (by omega))
      rw [nu_uu, nu_id] at this
      exact this
    rw [q_X9_meetsFor_b18, q_X10_meetsFor_b29, if_pos (show nI 0 = nI 0 from rfl)]
    by_cases e : i = 21
    · subst e
      obtain ⟨fi', fnd', e1, e2, hF'⟩ := find3 hF
      exact ⟨-1000000004, fi', _, fnd', by rw [if_pos (by decide), e1, bd_sm], by rw [if_pos (by decide), q_X10_meetsFor_b78, if_pos rfl, e2, bd_sm], hend _ _ hM, hF'⟩
    · have hM1 := hM.p0 (k := 2) (v := i) (by decide) (by decide) (Or.inr (by omega))
      rw [nu_uu] at hM1
      have hr := rc_le (N := N) (m := i) 40 0
      rw [if_neg (nI_nlt (by omega) (by decide)), if_neg (nI_nlt (by omega) (by decide)), c_climbWith hC hb (m := i) (by omega), bd_sm, show (nI 2).toNatClampNeg = 2 from nI_clamp (by decide), m_reach hM1 (by decide), bd_sm, rch_m]
      by_cases g : rcS N i 40 0 < a
      · rw [if_pos (nI_lt g (by omega)), if_pos (nI_lt g (by omega)), q_X10_meetsFor_b60, if_pos rfl, q_X10_meetsFor_b74, nI_add]
        exact meets_l hC hb hF ha n (i + 1) _ i (by omega) (by omega) hM1
      · obtain ⟨n', rfl⟩ : ∃ n', n = n' + 1 := ⟨n - 1, by omega⟩
        refine ⟨nI i, fi, _, fnd, by rw [if_neg (nI_nlt (by omega) (by omega))], ?_, hend _ _ hM1, hF⟩
        rw [if_neg (nI_nlt (by omega) (by omega)), q_X10_meetsFor_b60, if_neg (by decide), q_X10_meetsFor_b74, q_X10_meetsFor_b29, if_neg (by decide), q_X10_meetsFor_b78, if_neg (by decide)]
theorem op_meetsFor (h : RA mu row) (hF : RF fi fnd) (a0 : Int32) : ∃ r fi' row' fnd', f_X9_meetsFor mu fi a0 = some (r, fi') ∧ f_X10_meetsFor row (nI 0) fnd a0 = some (r, row', fnd') ∧ RA mu row' ∧ RF fi' fnd' := by
  obtain ⟨N, z, hC, hM, hb, hy⟩ := id h
  rw [q_X9_meetsFor, q_X10_meetsFor]
  rcases win a0 0 40 (by decide) (by decide) with ⟨w1, w2⟩ | ⟨a, -, ha, rfl, w1, w2⟩
  · obtain ⟨fi', fnd', e1, e2, hF'⟩ := find0 hF
    exact ⟨-1000000001, fi', row, fnd', by rw [w2, bd_sm, if_pos rfl, e1, bd_sm], by rw [w1, bd_sm, if_pos rfl, e2, bd_sm], h, hF'⟩
  · obtain ⟨r, fi', row', fnd', p1, p2, p3, p4⟩ := meets_l hC hb hF ha 1000 0 row (N 2) (by decide) (by decide) (by rw [nu_id]; exact hM)
    refine ⟨r, fi', row', fnd', ?_, ?_, RA_of hC p3 hb hy, p4⟩
    · rw [w2, bd_sm, if_neg (by decide)]; exact p1
    · rw [w1, bd_sm, if_neg (by decide), nI_clamp (by decide), hM.g0 (by decide) (by decide)]; exact p2
end O6
