/-! the calls: alone, whose, steepest, mend -/
section O7
variable {mu tr : MtS} {row r0 fi fnd : Nat → Int32} {N : Nat → Nat} {z : Int32}
theorem ad0 (x : Int32) : x + nI 0 = x := by
  rw [show nI 0 = (0 : Int32) from rfl]; simp
theorem ior0 (x : Int32) : x ||| nI 0 = x := by
  rw [show nI 0 = (0 : Int32) from rfl]; simp
theorem wk_pos (hb : BN N) {f : Nat} (hf : f < N 4) : 1 ≤ wk N f := by
  have h4 := hb.2.2.1
  have h3 := (hb.2.2.2.2 f (by omega)).2.2.2.2.2 hf
  unfold wk
  split
  · omega
  · split
    · omega
    · split
      · omega
      · split
        · omega
        · split
          · omega
          · omega
theorem alone_l (hC : CR mu N z) (hM : MR 0 r0 row N z) {w : Nat} (h1 : 1 ≤ w) (hw : w < 1000) : ∀ n i (x : Int32), i ≤ 40 → 40 < i + n → ∃ r, f_X9_alone_b35 mu n fi (nI w) x (nI i) = some (r, fi) ∧ f_X10_alone_b26 row (nI 0) n fnd (nI w) x (nI i) = some (r, fnd)
  | 0, i, x, h1, h2 => by omega
  | n + 1, i, x, g1, g2 => by
    rw [q_X9_alone_b35, q_X10_alone_b26]
    by_cases c : i = 40
    · subst c
      exact ⟨x, by rw [if_pos (by decide)], by rw [if_pos (by decide)]⟩
    · have hi : i < 40 := by omega
      have hwz : ¬ nI w = 0 := nsel (a := w) (b := 0) (by omega) (by omega) (by decide)
      rw [if_neg (nI_ge hi (by decide)), if_neg (nI_ge hi (by decide)), c_isWhole hC hi, m_isWhole hM (by decide) hi, bd_sm, bd_sm]
      by_cases e : N (45 + i) = 1
      · rw [if_neg (fun q => m_whole0.mp q e), if_neg (fun q => m_whole0.mp q e), q_X9_alone_b73, q_X10_alone_b62, ad0, nI_add]
        exact alone_l hC hM h1 hw n (i + 1) x (by omega) (by omega)
      · rw [if_pos (m_whole0.mpr e), if_pos (m_whole0.mpr e), gx_n hi (by decide), gz_ne hwz, nI_clamp (by omega), hC.rk hi, q_X9_alone_b73, nI_add 5 i, gx_n (by omega) (by decide), gz_ne hwz, nI_clamp (by omega), hM.g0 (by omega) (by omega), q_X10_alone_b62, nI_add i 1]
        exact alone_l hC hM h1 hw n (i + 1) _ (by omega) (by omega)
theorem op_alone (h : RA mu row) (hF : RF fi fnd) (a0 : Int32) : ∃ r fi' fnd', f_X9_alone mu fi a0 = some (r, fi') ∧ f_X10_alone row (nI 0) fnd a0 = some (r, fnd') ∧ RF fi' fnd' := by
  obtain ⟨N, z, hC, hM, hb, hy⟩ := id h
  rw [q_X9_alone, q_X10_alone]
  rcases wfine hC hM hb a0 with ⟨p1, p2⟩ | ⟨f, hf, hf10, rfl, p1, p2⟩
  · obtain ⟨fi', fnd', e1, e2, hF'⟩ := find0 hF
    exact ⟨-1000000001, fi', fnd', by rw [p2, bd_sm, if_pos rfl, e1, bd_sm], by rw [p1, bd_sm, if_pos rfl, e2, bd_sm], hF'⟩
  · have hw1 := wk_pos hb hf
    have hw2 := wk_le hb hf10
    obtain ⟨r, q1, q2⟩ := alone_l (fi := fi) (fnd := fnd) hC hM (w := wk N f) hw1 (by omega) 1000 0 (nI 0) (by decide) (by decide)
    refine ⟨r, fi, fnd, ?_, ?_, hF⟩
    · rw [p2, bd_sm, if_neg (by decide), c_works hC hb hf, bd_sm]
      by_cases e : wk N f = 1
      · rw [e, if_neg (by decide)]; rw [e] at q1; exact q1
      · rw [if_pos (nI_lt (by omega) (by omega))]; exact q1
    · rw [p1, bd_sm, if_neg (by decide), m_works hM (by decide) hb.w hf10, bd_sm]; exact q2
theorem whose_l (hC : CR mu N z) (hM : MR 0 r0 row N z) (hb : BN N) {p : Nat} (hp : p < 40) (a1 : Int32) : ∀ n i (x : Int32), i ≤ N 4 → N 4 < i + n → ∃ r, f_X9_whose_b28 mu n fi (nI p) a1 x (nI i) = some (r, fi) ∧ f_X10_whose_b29 row (nI 0) n fnd (nI p) a1 x (nI i) = some (r, fnd)
  | 0, i, x, h1, h2 => by omega
  | n + 1, i, x, g1, g2 => by
    have h4 := hb.2.2.1
    rw [q_X9_whose_b28, q_X10_whose_b29, hC.mn, show (nI 4).toNatClampNeg = 4 from nI_clamp (by decide), hM.g0 (by decide) (by decide)]
    by_cases c : i = N 4
    · exact ⟨x, by rw [if_pos (nI_le (by omega) (by omega))], by rw [if_pos (nI_le (by omega) (by omega))]⟩
    · rw [if_neg (nI_ge (by omega) (by omega)), if_neg (nI_ge (by omega) (by omega)), c_high hC hb (by omega) hp, m_highAt hM (by decide) (by omega) hp, bd_sm, bd_sm]
      by_cases e : nI (hg N i p) = a1
      · rw [if_pos e, if_pos e, q_X9_whose_b61, q_X10_whose_b60, nI_add]
        exact whose_l hC hM hb hp a1 n (i + 1) _ (by omega) (by omega)
      · rw [if_neg e, if_neg e, q_X9_whose_b61, q_X10_whose_b60, ior0, nI_add]
        exact whose_l hC hM hb hp a1 n (i + 1) _ (by omega) (by omega)
theorem op_whose (h : RA mu row) (hF : RF fi fnd) (a0 a1 : Int32) : ∃ r fi' fnd', f_X9_whose mu fi a0 a1 = some (r, fi') ∧ f_X10_whose row (nI 0) fnd a0 a1 = some (r, fnd') ∧ RF fi' fnd' := by
  obtain ⟨N, z, hC, hM, hb, hy⟩ := id h
  obtain ⟨fi', fnd', e1, e2, hF'⟩ := find0 hF
  rw [q_X9_whose, q_X10_whose]
  rcases wplace a0 with ⟨p1, p2⟩ | ⟨p, hp, rfl, p1, p2⟩
  · exact ⟨-1000000001, fi', fnd', by rw [p2, bd_sm, if_pos rfl, q_X9_whose_b17, e1, bd_sm], by rw [p1, bd_sm, if_pos rfl, q_X10_whose_b17, e2, bd_sm], hF'⟩
  · rcases win a1 0 40 (by decide) (by decide) with ⟨w1, w2⟩ | ⟨a, -, ha, rfl, w1, w2⟩
    · exact ⟨-1000000001, fi', fnd', by rw [p2, bd_sm, if_neg (by decide), w2, bd_sm, if_pos rfl, q_X9_whose_b17, e1, bd_sm], by rw [p1, bd_sm, if_neg (by decide), w1, bd_sm, if_pos rfl, q_X10_whose_b17, e2, bd_sm], hF'⟩
    · obtain ⟨r, q1, q2⟩ := whose_l (fi := fi) (fnd := fnd) hC hM hb hp (nI a) 1000 0 (nI 0) (by omega) (by have := hb.2.2.1; omega)
      exact ⟨r, fi, fnd, by rw [p2, bd_sm, if_neg (by decide), w2, bd_sm, if_neg (by decide), q1], by rw [p1, bd_sm, if_neg (by decide), w1, bd_sm, if_neg (by decide), q2], hF⟩
theorem steep_l (hC : CR mu N z) (hM : MR 0 r0 row N z) (hb : BN N) (hF : RF fi fnd) : ∀ n i (x1 x2 y : Int32), 1 ≤ i → i ≤ 40 → 40 < i + n → ((x1 = nI 0 ∧ y = -1) ∨ ∃ b, 1 ≤ b ∧ b < 40 ∧ x1 = nI b ∧ y = nI b ∧ x2 = nI (N (85 + b)) - nI (N (85 + b - 1))) → ∃ r fi' fnd', f_X9_steepest_b6 mu n fi x1 x2 (nI i) = some (r, fi') ∧ f_X10_steepest_b4 row (nI 0) n fnd y (nI i) = some (r, fnd') ∧ RF fi' fnd'
  | 0, i, x1, x2, y, h0, h1, h2, hI => by omega
  | n + 1, i, x1, x2, y, h0, h1, h2, hI => by
    rw [q_X9_steepest_b6, q_X10_steepest_b4]
    by_cases c : i = 40
    · subst c
      rw [if_pos (show nI 40 ≤ nI 40 by decide), if_pos (show nI 40 ≤ nI 40 by decide)]
      rcases hI with ⟨rfl, rfl⟩ | ⟨b, b1, b2, rfl, rfl, -⟩
      · obtain ⟨fi', fnd', e1, e2, hF'⟩ := find3 hF
        exact ⟨-1000000004, fi', fnd', by rw [if_pos rfl, e1, bd_sm], by rw [if_neg (by decide), e2, bd_sm], hF'⟩
      · exact ⟨nI b, fi, fnd, by rw [if_neg (nsel (by omega) (by omega) (by decide))], by rw [if_pos (nI_le (Nat.zero_le _) (by omega))], hF⟩
    · have hi : i < 40 := by omega
      rw [if_neg (nI_ge hi (by decide)), if_neg (nI_ge hi (by decide)), c_pair hC hi h0, m_pair hM (by decide) hi h0, bd_sm, bd_sm]
      by_cases e : N (45 + i) = 1 ∧ N (45 + (i - 1)) = 1
      · have e1 := (hC.2.2.2.2.2.2.1 i hi e.1).1
        have e2 := (hC.2.2.2.2.2.2.1 (i - 1) (by omega) e.2).1
        rw [if_neg (fun q => m_whole0.mp q e), if_neg (fun q => m_whole0.mp q e), gx_n hi (by decide), pk_sub h0, gx_n (show i - 1 < 40 by omega) (by decide), nI_clamp (show i < 2 ^ 31 by omega), nI_clamp (show i - 1 < 2 ^ 31 by omega), e1, e2, show 85 + (i - 1) = 85 + i - 1 by omega]
        rcases hI with ⟨rfl, rfl⟩ | ⟨b, b1, b2, rfl, rfl, rfl⟩
        · rw [if_pos rfl, if_pos (by decide), q_X9_steepest_b59, q_X9_steepest_b64, q_X10_steepest_b43, q_X10_steepest_b48, q_X10_steepest_b49, nI_add]
          exact steep_l hC hM hb hF n (i + 1) _ _ _ (by omega) (by omega) (by omega) (Or.inr ⟨i, h0, hi, rfl, rfl, rfl⟩)
        · rw [if_neg (nsel (by omega) (by omega) (by decide)), if_neg (nI_nlt (Nat.zero_le _) (by omega)), m_rises hM (by decide) hi h0, bd_sm, if_pos (nI_le (Nat.zero_le _) (by omega)), q_X10_steepest_b37, m_rises hM (by decide) b2 b1, bd_sm]
          by_cases g : nI (N (85 + i)) - nI (N (85 + i - 1)) ≤ nI (N (85 + b)) - nI (N (85 + b - 1))
          · rw [if_pos g, if_pos g, q_X9_steepest_b64, q_X10_steepest_b48, q_X10_steepest_b49, nI_add]
            exact steep_l hC hM hb hF n (i + 1) _ _ _ (by omega) (by omega) (by omega) (Or.inr ⟨b, b1, b2, rfl, rfl, rfl⟩)
          · rw [if_neg g, if_neg g, q_X9_steepest_b59, q_X9_steepest_b64, q_X10_steepest_b43, q_X10_steepest_b48, q_X10_steepest_b49, nI_add]
            exact steep_l hC hM hb hF n (i + 1) _ _ _ (by omega) (by omega) (by omega) (Or.inr ⟨i, h0, hi, rfl, rfl, rfl⟩)
      · rw [if_pos (m_whole0.mpr e), if_pos (m_whole0.mpr e), q_X9_steepest_b64, q_X10_steepest_b49, nI_add]
        exact steep_l hC hM hb hF n (i + 1) _ _ _ (by omega) (by omega) (by omega) hI
theorem op_steepest (h : RA mu row) (hF : RF fi fnd) : ∃ r fi' fnd', f_X9_steepest mu fi = some (r, fi') ∧ f_X10_steepest row (nI 0) fnd = some (r, fnd') ∧ RF fi' fnd' := by
  obtain ⟨N, z, hC, hM, hb, hy⟩ := id h
  rw [q_X9_steepest, q_X10_steepest]
  exact steep_l hC hM hb hF 1000 1 _ _ _ (by decide) (by decide) (by decide) (Or.inl ⟨rfl, rfl⟩)
theorem BN_cut (hb : BN N) {p hh f : Nat} (hp : p < 40) (hhh : hh ≤ 40) (hf : f ≤ 10) : BN (cutS N p hh f) := by
  refine ⟨by rw [cutS_out (by omega) (by omega) (by omega) (by omega)]; exact hb.1, by rw [cutS_out (by omega) (by omega) (by omega) (by omega)]; exact hb.2.1, by rw [cutS_out (by omega) (by omega) (by omega) (by omega)]; exact hb.2.2.1, fun q hq => ?_, fun g hg => ?_⟩
  · obtain ⟨a1, a2, a3, a4, a5⟩ := hb.2.2.2.1 q hq
    rw [cutS_out (k := 5 + q) (by omega) (by omega) (by omega) (by omega)]
    refine ⟨a1, a2, ?_⟩
    by_cases e : q = p
    · subst e
      unfold cutS
      rw [nu_n (k := 165 + q) (j := 45 + q) (by omega), nu_n (k := 125 + q) (j := 45 + q) (by omega), nu_n (k := 85 + q) (j := 45 + q) (by omega), nu_s, nu_n (k := 165 + q) (j := 85 + q) (by omega), nu_n (k := 125 + q) (j := 85 + q) (by omega), nu_s, nu_n (k := 165 + q) (j := 125 + q) (by omega), nu_s]
      omega
    · rw [cutS_out (by omega) (by omega) (by omega) (by omega), cutS_out (by omega) (by omega) (by omega) (by omega), cutS_out (by omega) (by omega) (by omega) (by omega)]
      exact ⟨a3, a4, a5⟩
  · rw [fld_cut hp, fld_cut hp, fld_cut hp, fld_cut hp, fld_cut hp, cutS_out (by omega) (by omega) (by omega) (by omega)]
    exact hb.2.2.2.2 g hg
theorem rc_ge {m : Nat} : ∀ k n, n ≤ rcS N m k n
  | 0, n => Nat.le_refl _
  | k + 1, n => by
    show n ≤ if _ then rcS N m k (n + 1) else n
    split
    · exact Nat.le_trans (Nat.le_succ n) (rc_ge k (n + 1))
    · exact Nat.le_refl _
theorem rc_whole {m : Nat} : ∀ k n q, n ≤ q → q < rcS N m k n → N (45 + q) = 1
  | 0, n, q, h1, h2 => absurd h2 (by show ¬ q < n; omega)
  | k + 1, n, q, h1, h2 => by
    have h2 : q < if N (45 + n) = 1 ∧ (n = 0 ∨ (N (85 + n) ≤ N (85 + n - 1) + m ∧ N (85 + n - 1) ≤ N (85 + n) + m)) then rcS N m k (n + 1) else n := h2
    split at h2
    · rename_i e
      by_cases g : q = n
      · rw [g]; exact e.1
      · exact rc_whole k (n + 1) q (by omega) h2
    · omega
theorem rc_agree {M : Nat → Nat} {m : Nat} : ∀ k n, (∀ q, q ≤ rcS N m k n → M (45 + q) = N (45 + q) ∧ M (85 + q) = N (85 + q)) → rcS M m k n = rcS N m k n
  | 0, n, h => rfl
  | k + 1, n, h => by
    have hn := h n (rc_ge (k + 1) n)
    have hp : ¬ n = 0 → M (85 + n - 1) = N (85 + n - 1) := by
      intro h0
      have := (h (n - 1) (Nat.le_trans (Nat.sub_le n 1) (rc_ge (k + 1) n))).2
      rwa [show 85 + (n - 1) = 85 + n - 1 by omega] at this
    have hc : (M (45 + n) = 1 ∧ (n = 0 ∨ (M (85 + n) ≤ M (85 + n - 1) + m ∧ M (85 + n - 1) ≤ M (85 + n) + m))) ↔ (N (45 + n) = 1 ∧ (n = 0 ∨ (N (85 + n) ≤ N (85 + n - 1) + m ∧ N (85 + n - 1) ≤ N (85 + n) + m))) := by
      rw [hn.1, hn.2]
      by_cases h0 : n = 0
      · simp [h0]
      · rw [hp h0]
    have hN : rcS N m (k + 1) n = if N (45 + n) = 1 ∧ (n = 0 ∨ (N (85 + n) ≤ N (85 + n - 1) + m ∧ N (85 + n - 1) ≤ N (85 + n) + m)) then rcS N m k (n + 1) else n := rfl
    have hM : rcS M m (k + 1) n = if M (45 + n) = 1 ∧ (n = 0 ∨ (M (85 + n) ≤ M (85 + n - 1) + m ∧ M (85 + n - 1) ≤ M (85 + n) + m)) then rcS M m k (n + 1) else n := rfl
    by_cases c : N (45 + n) = 1 ∧ (n = 0 ∨ (N (85 + n) ≤ N (85 + n - 1) + m ∧ N (85 + n - 1) ≤ N (85 + n) + m))
    · rw [hN, if_pos c] at h
      rw [hN, hM, if_pos c, if_pos (hc.mpr c)]
      exact rc_agree k (n + 1) h
    · rw [hN, hM, if_neg c, if_neg (fun q => c (hc.mp q))]
theorem rch_cut {p : Nat} (hw : ¬ N (45 + p) = 1) (hp : p ≠ rch N) (hp4 : p < 40) : rch (cutS N p 10 0) = rch N := by
  have hgt : rch N < p := by
    rcases Nat.lt_or_ge p (rch N) with h | h
    · exact absurd (rc_whole 40 0 p (Nat.zero_le _) h) hw
    · omega
  show rcS (cutS N p 10 0) (cutS N p 10 0 2) 40 0 = rcS N (N 2) 40 0
  rw [cutS_out (k := 2) (by omega) (by omega) (by omega) (by omega)]
  refine rc_agree 40 0 fun q hq => ?_
  have hq' : q ≤ rch N := hq
  exact ⟨cutS_out (by omega) (by omega) (by omega) (by omega), cutS_out (by omega) (by omega) (by omega) (by omega)⟩
theorem m_try (hM : MR 0 row row N z) (hb : BN N) {p : Nat} (hp : p < 40) (att : Int32) : ∃ rT r1 r2, f_X10_lends row att = some (rT, nI 255) ∧ f_X10_cuts rT (nI 255) (nI p) (nI 10) (nI 0) = some r1 ∧ f_X10_reachThen r1 (nI 255) (nI 0) = some (nI (rch (cutS N p 10 0)), r2, nI 0) ∧ MR 0 r2 r2 N z := by
  obtain ⟨rT, m1, m2⟩ := m_lends hM att
  obtain ⟨r1, m3, m4⟩ := m_cuts m2 (by decide) (hh := 10) (f := 0) hp (by decide) (by decide)
  obtain ⟨r2, m5, m6⟩ := m_then m4 (BN_cut hb hp (by decide) (by decide)) (by decide) (k := 0) (by decide)
  exact ⟨rT, r1, r2, m1, m3, m5, m6.back hM⟩
theorem mend_rest (hb : BN N) (h4 : ¬ N 4 = 0) (x2 : Int32) {a : Nat} (ha : a ≤ 40) : ∀ n i (row : Nat → Int32), i ≤ 40 → 40 < i + n → MR 0 row row N z → (∀ q, i ≤ q → q < 40 → ¬ N (45 + q) = 1 → rch (cutS N q 10 0) ≤ a) → ∃ row', f_X10_mend_b9 n row (nI 0) fnd (nI a) x2 (nI i) = f_X10_mend_b82 row' (nI 0) fnd x2 ∧ MR 0 row' row' N z
  | 0, i, row, h1, h2, hM, hq => by omega
  | n + 1, i, row, h1, h2, hM, hq => by
    have h10 := hb.2.2.1
    rw [q_X10_mend_b9]
    by_cases c : i = 40
    · subst c
      exact ⟨row, by rw [if_pos (by decide)], hM⟩
    · rw [if_neg (nI_ge (by omega) (by decide)), nI_clamp (by decide), hM.g0 (by decide) (by decide), if_neg (nI_ge (by omega) (by omega)), m_isWhole hM (by decide) (by omega), bd_sm]
      by_cases e : N (45 + i) = 1
      · rw [if_neg (fun q => m_whole0.mp q e), q_X10_mend_b76, nI_add]
        exact mend_rest hb h4 x2 ha n (i + 1) row (by omega) (by omega) hM (fun q g1 g2 g3 => hq q (by omega) g2 g3)
      · obtain ⟨rT, r1, r2, m1, m3, m5, m6⟩ := m_try hM hb (p := i) (by omega) (nI 0)
        have g := hq i (Nat.le_refl _) (by omega) e
        rw [if_pos (m_whole0.mpr e), m1, bd_sm, m3, bd_sm, m5, bd_sm, if_pos (show nI (rch (cutS N i 10 0)) ≤ nI a from nI_le g (by omega)), q_X10_mend_b62, if_pos (show nI (rch (cutS N i 10 0)) ≤ nI a from nI_le g (by omega)), q_X10_mend_b75, q_X10_mend_b76, nI_add]
        exact mend_rest hb h4 x2 ha n (i + 1) r2 (by omega) (by omega) m6 (fun q g1 g2 g3 => hq q (by omega) g2 g3)
theorem mend_pre (hb : BN N) (h4 : ¬ N 4 = 0) (hM : MR 0 row row N z) (x1 x2 : Int32) : ∀ d i n, i + d ≤ 40 → (∀ q, i ≤ q → q < i + d → N (45 + q) = 1) → f_X10_mend_b9 (n + d) row (nI 0) fnd x1 x2 (nI i) = f_X10_mend_b9 n row (nI 0) fnd x1 x2 (nI (i + d))
  | 0, i, n, h1, h2 => rfl
  | d + 1, i, n, h1, h2 => by
    have h10 := hb.2.2.1
    rw [← Nat.add_assoc, q_X10_mend_b9, if_neg (nI_ge (by omega) (by decide)), nI_clamp (by decide), hM.g0 (by decide) (by decide), if_neg (nI_ge (by omega) (by omega)), m_isWhole hM (by decide) (by omega), bd_sm, if_neg (fun q => m_whole0.mp q (h2 i (Nat.le_refl _) (by omega))), q_X10_mend_b76, nI_add, mend_pre hb h4 hM x1 x2 d (i + 1) n (by omega) (fun q g1 g2 => h2 q (by omega) (by omega)), show i + 1 + d = i + (d + 1) by omega]
theorem op_mend (h : RA mu row) (hF : RF fi fnd) (tr : MtS) : ∃ r tr' fi' row' fnd', f_X9_mend mu tr fi = some (r, tr', fi') ∧ f_X10_mend row (nI 0) fnd = some (r, row', nI 0, fnd') ∧ RA mu row' ∧ RF fi' fnd' := by
  obtain ⟨N, z, hC, hM, hb, hy⟩ := id h
  obtain ⟨fi', fnd', e1, e2, hF'⟩ := find3 hF
  have h10 := hb.2.2.1
  have hs := rch_le (N := N)
  rw [q_X9_mend, q_X10_mend, c_climb hC hb, bd_sm, m_reach hM (by decide), bd_sm, hC.mn]
  by_cases h4 : N 4 = 0
  · refine ⟨-1000000004, tr, fi', row, fnd', ?_, ?_, h, hF'⟩
    · rw [h4, if_pos rfl, q_X9_mend_b36, e1, bd_sm]
    · rw [q_X10_mend_b9, if_neg (by decide), nI_clamp (by decide), hM.g0 (by decide) (by decide), h4, if_pos (by decide), q_X10_mend_b82, if_neg (by decide), e2, bd_sm]
  · rw [if_neg (nsel h4 (by omega) (by decide))]
    -- where no place mends
    have hno : (∀ q, q < 40 → ¬ N (45 + q) = 1 → rch (cutS N q 10 0) ≤ rch N) → ∃ row', f_X10_mend_b9 1000 row (nI 0) fnd (nI (rch N)) (-1) (nI 0) = some (-1000000004, row', nI 0, fnd') ∧ RA mu row' := by
      intro hq
      obtain ⟨row', q1, q2⟩ := mend_rest (fnd := fnd) hb h4 (-1) hs 1000 0 row (by decide) (by decide) hM (fun q _ g2 g3 => hq q g2 g3)
      exact ⟨row', by rw [q1, q_X10_mend_b82, if_neg (by decide), e2, bd_sm], ⟨N, z, hC, q2, hb, hy⟩⟩
    by_cases c40 : rch N = 40
    · obtain ⟨row', q1, q2⟩ := hno (fun q g2 g3 => by rw [c40]; exact rch_le)
      refine ⟨-1000000004, tr, fi', row', fnd', ?_, q1, q2, hF'⟩
      rw [c40, c_isPlaceN (Or.inr (by decide)), bd_sm, if_pos rfl, q_X9_mend_b36, e1, bd_sm]
    · have hs4 : rch N < 40 := by omega
      rw [c_isPlace hs4, bd_sm, if_neg (by decide), c_isWhole hC hs4, bd_sm]
      by_cases e : N (45 + rch N) = 1
      · obtain ⟨row', q1, q2⟩ := hno (fun q g2 g3 => by
          rw [rch_cut g3 (fun g => g3 (by rw [g]; exact e)) g2]; exact Nat.le_refl _)
        refine ⟨-1000000004, tr, fi', row', fnd', ?_, q1, q2, hF'⟩
        rw [if_neg (fun q => m_whole0.mp q e), q_X9_mend_b36, e1, bd_sm]
      · obtain ⟨t, c1, c2⟩ := c_become tr hC hb
        obtain ⟨u1, c3, c4⟩ := c_cut c2 (hh := 10) (f := 0) hs4
        have hb1 := BN_cut hb (hh := 10) (f := 0) hs4 (by decide) (by decide)
        have hr1 := rch_le (N := cutS N (rch N) 10 0)
        rw [if_pos (m_whole0.mpr e), q_X9_startTrial, c1, bd_sm, bd_sm, c3, bd_sm, c_climb c4 hb1, bd_sm]
        by_cases g : rch (cutS N (rch N) 10 0) ≤ rch N
        · obtain ⟨row', q1, q2⟩ := hno (fun q g2 g3 => by
            by_cases gq : q = rch N
            · rw [gq]; exact g
            · rw [rch_cut g3 gq g2]; exact Nat.le_refl _)
          refine ⟨-1000000004, u1, fi', row', fnd', ?_, q1, q2, hF'⟩
          rw [if_pos (nI_le g (by omega)), e1, bd_sm]
        · have hw : ∀ q, 0 ≤ q → q < 0 + rch N → N (45 + q) = 1 := fun q _ hq => rc_whole 40 0 q (Nat.zero_le _) (by rw [Nat.zero_add] at hq; exact hq)
          have hp := mend_pre (fnd := fnd) hb h4 hM (nI (rch N)) (-1) (rch N) 0 (1000 - rch N) (by omega) hw
          rw [show 1000 - rch N + rch N = 1000 by omega, Nat.zero_add] at hp
          obtain ⟨rT, r1, r2, m1, m3, m5, m6⟩ := m_try hM hb hs4 (nI 0)
          obtain ⟨row', q1, q2⟩ := mend_rest (fnd := fnd) hb h4 (nI (rch N)) hr1 (999 - rch N) (rch N + 1) r2 (by omega) (by omega) m6 (fun q g1 g2 g3 => by
            rw [rch_cut g3 (by omega) g2]; omega)
          refine ⟨nI (rch N), u1, fi, row', fnd, ?_, ?_, ⟨N, z, hC, q2, hb, hy⟩, hF⟩
          · rw [if_neg (nI_ge (by omega) (by omega))]
          · have hgt : ¬ nI (rch (cutS N (rch N) 10 0)) ≤ nI (rch N) := nI_ge (by omega) (by omega)
            rw [hp, show 1000 - rch N = (999 - rch N) + 1 by omega, q_X10_mend_b9, if_neg (nI_ge hs4 (by decide)), nI_clamp (by decide), hM.g0 (by decide) (by decide), if_neg (nI_ge (by omega) (by omega)), m_isWhole hM (by decide) hs4, bd_sm, if_pos (m_whole0.mpr e), m1, bd_sm, m3, bd_sm, m5, bd_sm, if_neg hgt, q_X10_mend_b62, if_neg hgt, q_X10_mend_b75, q_X10_mend_b76, nI_add, q1, q_X10_mend_b82, if_pos (nI_le (Nat.zero_le _) (by omega))]
end O7
