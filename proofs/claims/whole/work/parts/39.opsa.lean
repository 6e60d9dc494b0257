/-! the calls: stair, read, sheet, copy -/
section OA
variable {mu tr ke : MtS} {row r0 fi fnd : Nat → Int32} {N : Nat → Nat} {z : Int32} {sh : Nat → ShS} {bits size : Nat → Int32} {shts : Nat → Int64}
theorem low_id8 : ∀ a, a ≤ 40 → f_X10_narrow (nI 8) (nI a).toInt64 = some (nI a).toInt64 := by decide +kernel
theorem low_id16 : ∀ a, a ≤ 40 → f_X10_narrow (nI 16) (nI a).toInt64 = some (nI a).toInt64 := by decide +kernel
theorem low_id64 : ∀ a, a ≤ 40 → f_X10_narrow (nI 64) (nI a).toInt64 = some (nI a).toInt64 := by decide +kernel
theorem low_id {b : Int32} (hb : RB b) (h0 : ¬ b = nI 0) {a : Nat} (ha : a ≤ 40) : f_X7_lowest b (nI a).toInt64 = some (nI a).toInt64 := by
  rw [low_eq]
  rcases hb with h | h | h | h
  · exact absurd h h0
  · rw [h]; exact low_id8 a ha
  · rw [h]; exact low_id16 a ha
  · rw [h]; exact low_id64 a ha
theorem stair_l (hC : CR tr N z) (hM : MR 255 r0 row N z) (hb : BN N) {s n0 : Nat} (hs : s < 4) (hn : n0 ≤ 40) (hz : size s = nI n0) (hbs : RB (bits s)) (h0 : ¬ bits s = nI 0) : ∀ n i (sh : Nat → ShS) (shts : Nat → Int64), i ≤ 40 → 40 < i + n → RH sh bits size shts → ∃ r sh' shts', f_X9_stair_b70 mu n tr sh fi s (nI i) (nI i) = some (r, tr, sh', fi) ∧ f_X10_stair_b76 bits size n row (nI 255) fnd shts (nI s) (nI i) = some (r, row, nI 0, fnd, shts') ∧ RH sh' bits size shts'
  | 0, i, sh, shts, h1, h2, hH => by omega
  | n + 1, i, sh, shts, h1, h2, hH => by
    obtain ⟨b1, b2, b3, b4, b5⟩ := hH s hs
    rw [q_X9_stair_b70, q_X10_stair_b76]
    by_cases c : i = 40
    · subst c
      exact ⟨nI 40, sh, shts, by rw [if_pos (by decide)], by rw [if_pos (by decide), q_X10_stair_b135], hH⟩
    · have hi : i < 40 := by omega
      rw [if_neg (nI_ge hi (by decide)), if_neg (nI_ge hi (by decide)), gk_n hs, gx_n hs (by decide), b4, show (nI s).toNatClampNeg = s from nI_clamp (by omega), hz, holds1 hn (by omega), bd_sm]
      by_cases g : i < n0
      · have hh := (hb.2.2.2.1 i hi).2.2.2.1
        rw [if_pos g, if_neg n10, if_neg (nI_ge g (by omega)), c_isWhole hC hi, m_isWhole hM (by decide) hi, bd_sm, bd_sm]
        have step : ∀ a, a ≤ 40 → (∃ r sh' shts', f_X9_stair_b117 mu (f_X9_stair_b70 mu n) tr sh fi s (nI i) (nI i) (nI a).toInt64 (nI i) s = some (r, tr, sh', fi) ∧ f_X10_stair_b128 bits size (f_X10_stair_b76 bits size n) row (nI 255) fnd shts (nI s) (nI i) (nI a).toInt64 (nI 40 * nI s + nI i) = some (r, row, nI 0, fnd, shts') ∧ RH sh' bits size shts') := by
          intro a ha
          rw [q_X9_stair_b117, q_X10_stair_b128, gk_n hs, b4, hz, b1, q_X7_put, holds1 hn (by omega), if_pos g, bd_sm, if_neg n10, low_id hbs h0 ha, bd_sm, gx_n hi (by decide), bd_sm, pk_mul, nI_add (40 * s) i, gx_n (show 40 * s + i < 160 by omega) (by decide), show (nI i).toNatClampNeg = i from nI_clamp (by omega), show (nI (40 * s + i)).toNatClampNeg = 40 * s + i from nI_clamp (by omega), nI_add i 1]
          have hp := RH_put hH hs hi (nI a).toInt64
          rw [b1, b4, hz] at hp
          exact stair_l hC hM hb hs hn hz hbs h0 n (i + 1) _ _ (by omega) (by omega) hp
        by_cases e : N (45 + i) = 1
        · rw [if_neg (fun q => m_whole0.mp q e), if_neg (fun q => m_whole0.mp q e), gx_n hi (by decide), show (nI i).toNatClampNeg = i from nI_clamp (by omega), (hC.2.2.2.2.2.2.1 i hi e).1, nI_add 85 i, m_its hM (by decide) (by omega) (by omega), bd_sm]
          exact step _ hh
        · rw [if_pos (m_whole0.mpr e), if_pos (m_whole0.mpr e)]
          exact step 0 (by decide)
      · rw [if_neg g, if_pos rfl, if_pos (nI_le (by omega) (by omega)), q_X10_stair_b135]
        exact ⟨nI i, sh, shts, rfl, rfl, hH⟩
theorem op_stair (h : RA mu row) (hF : RF fi fnd) (hH : RH sh bits size shts) (tr : MtS) (a0 a1 : Int32) : ∃ r tr' sh' fi' row' fnd' shts', f_X9_stair mu tr sh fi a0 a1 = some (r, tr', sh', fi') ∧ f_X10_stair row (nI 0) fnd bits size shts a0 a1 = some (r, row', nI 0, fnd', shts') ∧ RA mu row' ∧ RF fi' fnd' ∧ RH sh' bits size shts' := by
  obtain ⟨N, z, hC, hM, hb, hy⟩ := id h
  rw [q_X9_stair, q_X10_stair, q_X10_isLong]
  rcases wsheet a0 with ⟨p1, p2⟩ | ⟨s, hs, rfl, p1, p2⟩
  · obtain ⟨fi', fnd', e1, e2, hF'⟩ := find0 hF
    exact ⟨-1000000001, tr, sh, fi', row, fnd', shts, by rw [p2, bd_sm, if_pos rfl, e1, bd_sm], by rw [p1, bd_sm, if_pos rfl, q_X10_stair_b53, if_neg nf1, e2, bd_sm], h, hF', hH⟩
  · obtain ⟨b1, b2, ⟨n, hn, b3⟩, b4, b5⟩ := hH s hs
    rw [p1, p2, bd_sm, bd_sm, if_neg n10, if_neg n10, gx_n hs (by decide), gx_n hs (by decide), gk_c hs, show (nI s).toNatClampNeg = s from nI_clamp (by omega), b1]
    by_cases c : bits s = nI 0
    · obtain ⟨fi', fnd', e1, e2, hF'⟩ := find5 hF
      exact ⟨-1000000006, tr, sh, fi', row, fnd', shts, by rw [RB1 c, bd_sm, if_neg n10, e1, bd_sm], by rw [if_pos c, q_X10_stair_b53, if_neg (by decide), e2, bd_sm], h, hF', hH⟩
    · rw [RB0 c, bd_sm, if_pos rfl, if_neg c]
      rcases ayears hC hM hy hF a1 0 200 (by decide) (by decide) with ⟨fi', fnd', w1, g1, e2, hF'⟩ | ⟨fi', fnd', w1, l1, g1, e2, hF'⟩ | ⟨k, hk1, hk2, rfl, hyk, w1, l1, g1⟩
      · exact ⟨-1000000001, tr, sh, fi', row, fnd', shts, by rw [g1, bd_sm, if_neg nf1], by rw [w1, bd_sm, gb_n0, bd_sm, if_pos rfl, q_X10_stair_b53, if_neg nf1, e2, bd_sm], h, hF', hH⟩
      · exact ⟨-1000000005, tr, sh, fi', row, fnd', shts, by rw [g1, bd_sm, if_neg nf5], by rw [w1, bd_sm, gb_n1, bd_sm, if_neg n10, l1, bd_sm, if_neg n10, q_X10_stair_b53, if_neg nf5, e2, bd_sm], h, hF', hH⟩
      · obtain ⟨t, rT, t1, t2, t3, t4⟩ := trial hC hM hb tr (nI 0)
        obtain ⟨u', c1, c2⟩ := c_go t2 hb (k := k) (by omega)
        obtain ⟨r', m1, m2⟩ := m_go t4 hb (by decide) (k := k) (by omega)
        obtain ⟨r, sh', shts', q1, q2, q3⟩ := stair_l (mu := mu) (fi := fi) (fnd := fnd) c2 m2 (BN_gy hb z k) hs hn b3 b2 c 1000 0 sh shts (by decide) (by decide) hH
        refine ⟨r, u', sh', fi, r', fnd, shts', ?_, ?_, h.back m2, hF, q3⟩
        · rw [g1, bd_sm, if_pos rfl, t1, bd_sm, c1, bd_sm]; exact q1
        · rw [w1, bd_sm, gb_n1, bd_sm, if_neg n10, l1, bd_sm, if_pos rfl, q_X10_stair_b53, if_pos rfl, t3, bd_sm, m1, bd_sm]; exact q2
theorem read_l (hH : RH sh bits size shts) {s n0 : Nat} (hs : s < 4) (hn : n0 ≤ 40) (hz : size s = nI n0) : ∀ n i (N : Nat → Nat) (z : Int32) (tr : MtS) (row : Nat → Int32), i ≤ 40 → 41 < i + n → CR tr N z → MR 255 r0 row N z → BN N → ∃ r tr' row', f_X9_read_b54 mu sh n tr fi s (nI i) = some (r, tr', fi) ∧ f_X10_read_b62 bits size shts n row (nI 255) fnd (nI s) (nI 0) (nI i) = some (r, row', nI 0, fnd) ∧ ∃ M w, MR 255 r0 row' M w
  | 0, i, N, z, tr, row, h1, h2, hC, hM, hb => by omega
  | n + 1, i, N, z, tr, row, h1, h2, hC, hM, hb => by
    obtain ⟨b1, b2, b3, b4, b5⟩ := hH s hs
    rw [q_X9_read_b54, q_X10_read_b62, gx_n hs (by decide), show (nI s).toNatClampNeg = s from nI_clamp (by omega), hz]
    by_cases c : i = 40
    · subst c
      exact ⟨nI 0, tr, row, by rw [if_pos (by decide)], by rw [if_pos (nI_le hn (by decide)), q_X10_read_b117], N, z, hM⟩
    · have hi : i < 40 := by omega
      rw [if_neg (nI_ge hi (by decide)), gk_n hs, b4, hz, holds1 hn (by omega), bd_sm]
      by_cases g : i < n0
      · obtain ⟨u', c1, c2⟩ := c_go1 hC hb
        obtain ⟨r', m1, m2⟩ := m_year hM hb (by decide)
        rw [if_pos g, if_neg n10, if_neg (nI_ge g (by omega)), if_pos (show nI 0 = nI 0 from rfl), gk_n hs, gk_n hs, gx_n hi (by decide), pk_mul, nI_add (40 * s) i, gx_n (show 40 * s + i < 160 by omega) (by decide), show (nI i).toNatClampNeg = i from nI_clamp (by omega), show (nI (40 * s + i)).toNatClampNeg = 40 * s + i from nI_clamp (by omega), b5 i hi, c_climb hC hb, m_reach hM (by decide), bd_sm, bd_sm]
        by_cases e : lg_cmp (shts (40 * s + i)) (nI (rch N)).toInt64 = nI 0
        · rw [if_pos e, if_pos e, c1, bd_sm, q_X10_read_b106, m1, bd_sm, nI_add]
          exact read_l hH hs hn hz n (i + 1) _ _ u' r' (by omega) (by omega) c2 m2 (BN_yr hb z)
        · obtain ⟨n', rfl⟩ : ∃ n', n = n' + 1 := ⟨n - 1, by omega⟩
          refine ⟨nI (1 + i), tr, r', ?_, ?_, _, _, m2⟩
          · rw [if_neg e, nI_add]
          · rw [if_neg e, q_X10_read_b106, m1, bd_sm, nI_add, q_X10_read_b62, gx_n hs (by decide), show (nI s).toNatClampNeg = s from nI_clamp (by omega), hz, q_X10_read_b117, Nat.add_comm i 1]
            by_cases g2 : n0 ≤ 1 + i
            · rw [if_pos (nI_le g2 (by omega))]
            · rw [if_neg (nI_ge (by omega) (by omega)), if_neg (nsel (by omega) (by omega) (by decide))]
      · rw [if_neg g, if_pos rfl, if_pos (nI_le (by omega) (by omega)), q_X10_read_b117]
        exact ⟨nI 0, tr, row, rfl, rfl, N, z, hM⟩
theorem op_read (h : RA mu row) (hF : RF fi fnd) (hH : RH sh bits size shts) (tr : MtS) (a0 : Int32) : ∃ r tr' fi' row' fnd', f_X9_read mu tr sh fi a0 = some (r, tr', fi') ∧ f_X10_read row (nI 0) fnd bits size shts a0 = some (r, row', nI 0, fnd') ∧ RA mu row' ∧ RF fi' fnd' := by
  obtain ⟨N, z, hC, hM, hb, hy⟩ := id h
  rw [q_X9_read, q_X10_read]
  rcases wsheet a0 with ⟨p1, p2⟩ | ⟨s, hs, rfl, p1, p2⟩
  · obtain ⟨fi', fnd', e1, e2, hF'⟩ := find0 hF
    exact ⟨-1000000001, tr, fi', row, fnd', by rw [p2, bd_sm, if_pos rfl, e1, bd_sm], by rw [p1, bd_sm, if_pos rfl, q_X10_read_b42, if_neg nf1, e2, bd_sm], h, hF'⟩
  · obtain ⟨b1, b2, ⟨n, hn, b3⟩, b4, b5⟩ := hH s hs
    rw [p1, p2, bd_sm, bd_sm, if_neg n10, if_neg n10, gx_n hs (by decide), gx_n hs (by decide), gk_c hs, show (nI s).toNatClampNeg = s from nI_clamp (by omega), b1]
    by_cases c : bits s = nI 0
    · obtain ⟨fi', fnd', e1, e2, hF'⟩ := find5 hF
      exact ⟨-1000000006, tr, fi', row, fnd', by rw [RB1 c, bd_sm, if_neg n10, e1, bd_sm], by rw [if_pos c, q_X10_read_b42, if_neg (by decide), e2, bd_sm], h, hF'⟩
    · rw [RB0 c, bd_sm, if_pos rfl, if_neg c]
      rcases latek hC hM hy (k := 40) (by omega) with ⟨l0, l1, l2⟩ | ⟨l1, l2⟩
      · obtain ⟨t, rT, t1, t2, t3, t4⟩ := trial hC hM hb tr (nI 0)
        obtain ⟨r, tr', row', q1, q2, M, w, q3⟩ := read_l (mu := mu) (fi := fi) (fnd := fnd) hH hs hn b3 1000 0 N z t rT (by decide) (by decide) t2 t4 hb
        exact ⟨r, tr', fi, row', fnd, by rw [l1, bd_sm, if_pos rfl, t1, bd_sm, q1], by rw [l2, bd_sm, if_pos rfl, q_X10_read_b42, if_pos rfl, t3, bd_sm, q2], h.back q3, hF⟩
      · obtain ⟨fi', fnd', e1, e2, hF'⟩ := find4 hF
        exact ⟨-1000000005, tr, fi', row, fnd', by rw [l1, bd_sm, if_neg n10, e1, bd_sm], by rw [l2, bd_sm, if_neg n10, q_X10_read_b42, if_neg nf5, e2, bd_sm], h, hF'⟩
theorem fill_l : ∀ n k (arr : Nat → Int64), k ≤ 40 → 40 < k + n → (∀ j, j < k → arr j = lN 0) → ∃ arr', f_J7_fill_d0a16_b6 n arr (lN 0) (nI k) (nI 40) = some arr' ∧ ∀ j, j < 40 → arr' j = lN 0
  | 0, k, arr, h1, h2, h3 => by omega
  | n + 1, k, arr, h1, h2, h3 => by
    rw [q_J7_fill_d0a16_b6]
    by_cases c : k = 40
    · subst c
      exact ⟨arr, by rw [if_pos (by decide)], h3⟩
    · rw [if_neg (nI_ge (by omega) (by decide)), gx_n (by omega) (by decide), nI_clamp (by omega), nI_add]
      refine fill_l n (k + 1) _ (by omega) (by omega) fun j hj => ?_
      by_cases e : j = k
      · subst e; exact ul_s
      · rw [ul_n e]; exact h3 j (by omega)
theorem m_sheet_l {s : Nat} (hs : s < 4) (sz : Nat → Int32) : ∀ n k (g : Nat → Int64), k ≤ 40 → 40 < k + n → (∀ j, j < k → g (40 * s + j) = lN 0) → (∀ m, (m < 40 * s ∨ 40 * s + 40 ≤ m) → g m = shts m) → ∃ g', f_X10_sheet_b86 n fnd bits sz g (nI s) (nI k) = some (sz s, fnd, bits, sz, g') ∧ (∀ j, j < 40 → g' (40 * s + j) = lN 0) ∧ (∀ m, (m < 40 * s ∨ 40 * s + 40 ≤ m) → g' m = shts m)
  | 0, k, g, h1, h2, h3, h4 => by omega
  | n + 1, k, g, h1, h2, h3, h4 => by
    rw [q_X10_sheet_b86]
    by_cases c : k = 40
    · subst c
      exact ⟨g, by rw [if_pos (by decide), gx_n hs (by decide), nI_clamp (by omega)], h3, h4⟩
    · rw [if_neg (nI_ge (by omega) (by decide)), pk_mul, nI_add, gx_n (by omega) (by decide), nI_clamp (by omega), nI_add]
      refine m_sheet_l hs sz n (k + 1) _ (by omega) (by omega) (fun j hj => ?_) (fun m hm => ?_)
      · by_cases e : j = k
        · subst e; exact ul_s
        · rw [ul_n (by omega)]; exact h3 j (by omega)
      · rw [ul_n (by omega)]; exact h4 m hm
theorem sheet_ok (hH : RH sh bits size shts) {s v : Nat} (hs : s < 4) {b : Int32} (hb : RB b) (hv : v ≤ 40) : ∃ r sh' bits' size' shts', f_X9_sheet_b35 sh fi (nI s) b (nI v) = some (r, sh', fi) ∧ f_X10_sheet_b36 fnd bits size shts (nI s) b (nI v) = some (r, fnd, bits', size', shts') ∧ RH sh' bits' size' shts' := by
  obtain ⟨arr, f1, f2⟩ := fill_l 1000 0 (sh s).1 (by decide) (by decide) (fun j hj => absurd hj (Nat.not_lt_zero j))
  have key : ∀ w, w ≤ 40 → f_X7_layOut (sh s).1 (sh s).2.1 (sh s).2.2 b (nI v) = some (arr, b, nI w) → (∃ g, f_X10_sheet_b36 fnd bits size shts (nI s) b (nI v) = f_X10_sheet_b82 fnd (upd bits s b) size shts (nI s) (nI w) (nI s) ∧ g = 0) → ∃ r sh' bits' size' shts', f_X9_sheet_b35 sh fi (nI s) b (nI v) = some (r, sh', fi) ∧ f_X10_sheet_b36 fnd bits size shts (nI s) b (nI v) = some (r, fnd, bits', size', shts') ∧ RH sh' bits' size' shts' := by
    intro w hw hl ⟨g, hg, _⟩
    obtain ⟨g', s1, s2, s3⟩ := m_sheet_l (fnd := fnd) (bits := upd bits s b) (shts := shts) hs (upd size s (nI w)) 1000 0 shts (by decide) (by decide) (fun j hj => absurd hj (Nat.not_lt_zero j)) (fun _ _ => rfl)
    refine ⟨nI w, sh_up sh s (arr, b, nI w), upd bits s b, upd size s (nI w), g', ?_, ?_, ?_⟩
    · rw [q_X9_sheet_b35, if_pos (nI_le (Nat.zero_le _) (by omega)), if_pos (nI_le hv (by decide)), gx_n hs (by decide), gk_c hs, show (nI s).toNatClampNeg = s from nI_clamp (by omega), hl, bd_sm, gx_n hs (by decide), gk_n hs, su_s]
    · rw [hg, q_X10_sheet_b82, gx_n hs (by decide), show (nI s).toNatClampNeg = s from nI_clamp (by omega), s1, pk_us]
    · intro t ht
      by_cases c : t = s
      · subst c
        rw [su_s, pk_us, pk_us]
        exact ⟨rfl, hb, ⟨w, hw, rfl⟩, rfl, fun k hk => by rw [s2 k hk]; exact f2 k hk⟩
      · obtain ⟨a1, a2, a3, a4, a5⟩ := hH t ht
        rw [su_n c, pk_un c, pk_un c]
        exact ⟨a1, a2, a3, a4, fun k hk => by rw [s3 _ (by omega)]; exact a5 k hk⟩
  by_cases c : b = nI 0
  · refine key 0 (by decide) ?_ ⟨0, ?_, rfl⟩
    · rw [q_X7_layOut, if_pos c, q_X7_layOut_b15, q_J7_fill_d0a16, f1, bd_sm]
    · rw [q_X10_sheet_b36, if_pos (nI_le (Nat.zero_le _) (by omega)), if_pos (nI_le hv (by decide)), gx_n hs (by decide), if_pos c, show (nI s).toNatClampNeg = s from nI_clamp (by omega)]
  · refine key v hv ?_ ⟨0, ?_, rfl⟩
    · rw [q_X7_layOut, if_neg c, q_X7_layOut_b15, q_J7_fill_d0a16, f1, bd_sm]
    · rw [q_X10_sheet_b36, if_pos (nI_le (Nat.zero_le _) (by omega)), if_pos (nI_le hv (by decide)), gx_n hs (by decide), if_neg c, show (nI s).toNatClampNeg = s from nI_clamp (by omega)]
theorem op_sheet (hF : RF fi fnd) (hH : RH sh bits size shts) (a0 a1 a2 : Int32) : ∃ r sh' fi' fnd' bits' size' shts', f_X9_sheet sh fi a0 a1 a2 = some (r, sh', fi') ∧ f_X10_sheet fnd bits size shts a0 a1 a2 = some (r, fnd', bits', size', shts') ∧ RH sh' bits' size' shts' ∧ RF fi' fnd' := by
  obtain ⟨fi', fnd', e1, e2, hF'⟩ := find0 hF
  have hbad : ∃ r sh' fi' fnd' bits' size' shts', f_X9_sheet_b29 sh fi = some (r, sh', fi') ∧ f_X10_sheet_b29 fnd bits size shts = some (r, fnd', bits', size', shts') ∧ RH sh' bits' size' shts' ∧ RF fi' fnd' := ⟨-1000000001, sh, fi', fnd', bits, size, shts, by rw [q_X9_sheet_b29, e1, bd_sm], by rw [q_X10_sheet_b29, e2, bd_sm], hH, hF'⟩
  rw [q_X9_sheet, q_X10_sheet]
  rcases wsheet a0 with ⟨p1, p2⟩ | ⟨s, hs, rfl, p1, p2⟩
  · rw [p1, p2, bd_sm, bd_sm, if_pos rfl, if_pos rfl]; exact hbad
  · rw [p1, p2, bd_sm, bd_sm, if_neg n10, if_neg n10]
    have hgood : RB a1 → ∃ r sh' fi' fnd' bits' size' shts', f_X9_sheet_b35 sh fi (nI s) a1 a2 = some (r, sh', fi') ∧ f_X10_sheet_b36 fnd bits size shts (nI s) a1 a2 = some (r, fnd', bits', size', shts') ∧ RH sh' bits' size' shts' ∧ RF fi' fnd' := by
      intro hb
      by_cases c1 : nI 0 ≤ a2
      · by_cases c2 : a2 ≤ nI 40
        · obtain ⟨v, hv, rfl⟩ : ∃ v, v ≤ 40 ∧ a2 = nI v := by
            have h0 : ¬ a2 < 0 := by
              intro q
              rw [fa_le] at c1
              rw [fa_lt] at q
              have : (nI 0).toInt = (0 : Int32).toInt := rfl
              omega
            obtain ⟨j, hj, rfl⟩ := nI_of h0
            exact ⟨j, by rw [fa_le, nI_toInt hj, nI_toInt (by decide)] at c2; omega, rfl⟩
          obtain ⟨r, sh', bits', size', shts', q1, q2, q3⟩ := sheet_ok (fi := fi) (fnd := fnd) hH hs hb hv
          exact ⟨r, sh', fi, fnd, bits', size', shts', q1, q2, q3, hF⟩
        · exact ⟨-1000000001, sh, fi', fnd', bits, size, shts, by rw [q_X9_sheet_b35, if_pos c1, if_neg c2, e1, bd_sm], by rw [q_X10_sheet_b36, if_pos c1, if_neg c2, e2, bd_sm], hH, hF'⟩
      · obtain ⟨fi', fnd', e1, e2, hF'⟩ := find6 hF
        exact ⟨-1000000007, sh, fi', fnd', bits, size, shts, by rw [q_X9_sheet_b35, if_neg c1, e1, bd_sm], by rw [q_X10_sheet_b36, if_neg c1, e2, bd_sm], hH, hF'⟩
    by_cases c0 : a1 = nI 0
    · rw [if_pos c0, if_pos c0]; exact hgood (Or.inl c0)
    by_cases c1 : a1 = nI 8
    · rw [if_neg c0, if_neg c0, if_pos c1, if_pos c1]; exact hgood (Or.inr (Or.inl c1))
    by_cases c2 : a1 = nI 16
    · rw [if_neg c0, if_neg c0, if_neg c1, if_neg c1, if_pos c2, if_pos c2]; exact hgood (Or.inr (Or.inr (Or.inl c2)))
    by_cases c3 : a1 = nI 64
    · rw [if_neg c0, if_neg c0, if_neg c1, if_neg c1, if_neg c2, if_neg c2, if_pos c3, if_pos c3]; exact hgood (Or.inr (Or.inr (Or.inr c3)))
    · rw [if_neg c0, if_neg c0, if_neg c1, if_neg c1, if_neg c2, if_neg c2, if_neg c3, if_neg c3]; exact hbad
end OA
