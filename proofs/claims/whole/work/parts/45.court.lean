/-! the call court -/
section CO
variable {B : Nat → Nat} {L s e : Nat} {tby tape : Nat → Int32} {tok num sort valu : Int32} {word : Int64} {u mu tr : MtS} {r0 row befo : Nat → Int32} {N : Nat → Nat} {z : Int32}
theorem mb_to : ∀ n k, k ≤ 255 → 255 < k + n → f_X10_moveAll_befo_b2 n row (fb_put befo row 0 k) (nI 1) (nI k) = some (row, fb_put befo row 0 255)
  | 0, k, h1, h2 => by omega
  | n + 1, k, h1, h2 => by
    rw [q_X10_moveAll_befo_b2]
    rcases Nat.lt_or_ge k 255 with hk | hk
    · have hs := fb_put_succ befo row 0 k
      rw [Nat.zero_add] at hs
      rw [if_neg (nI_ge hk (by decide)), if_neg (by decide), gx_n (by omega) (by decide), gx_n (by omega) (by decide), nI_clamp (by omega), q_X10_moveAll_befo_b34, nI_add, hs]
      exact mb_to n (k + 1) (by omega) (by omega)
    · have e : k = 255 := by omega
      subst e
      rw [if_pos (nI_le (Nat.le_refl _) (by decide))]
theorem mb_fro : ∀ n k, k ≤ 255 → 255 < k + n → f_X10_moveAll_befo_b2 n (fb_put row befo 0 k) befo (nI 0) (nI k) = some (fb_put row befo 0 255, befo)
  | 0, k, h1, h2 => by omega
  | n + 1, k, h1, h2 => by
    rw [q_X10_moveAll_befo_b2]
    rcases Nat.lt_or_ge k 255 with hk | hk
    · have hs := fb_put_succ row befo 0 k
      rw [Nat.zero_add] at hs
      rw [if_neg (nI_ge hk (by decide)), if_pos rfl, gx_n (by omega) (by decide), gx_n (by omega) (by decide), nI_clamp (by omega), q_X10_moveAll_befo_b34, nI_add, hs]
      exact mb_fro n (k + 1) (by omega) (by omega)
    · have e : k = 255 := by omega
      subst e
      rw [if_pos (nI_le (Nat.le_refl _) (by decide))]
theorem mb_back (row befo : Nat → Int32) : f_X10_moveAll_befo row befo (nI 0) = some (fb_put row befo 0 255, befo) := by
  have := mb_fro (row := row) (befo := befo) 1000 0 (by decide) (by decide)
  rw [fb_put_0] at this
  rw [q_X10_moveAll_befo]; exact this
theorem mb_keep (row befo : Nat → Int32) : f_X10_moveAll_befo row befo (nI 1) = some (row, fb_put befo row 0 255) := by
  have := mb_to (row := row) (befo := befo) 1000 0 (by decide) (by decide)
  rw [fb_put_0] at this
  rw [q_X10_moveAll_befo]; exact this
/-- the model's end of the text: a fault -/
theorem end_bad (n : Nat) (row : Nat → Int32) (so te va g : Int32) (s : Nat) (wo : Int64) (x : Int32) (h : g = nI 0 ∨ (g = nI 1 ∧ ¬ so = nI 0)) : ∃ so' te' wo' va', f_X10_court_b23 (nI 0) tape (n + 1) row (nI L) so (nI s) te wo va g befo x (nI 0) = some ((-1 : Int32) - nI s, fb_put row befo 0 255, nI 0, so', nI s, te', wo', va', nI 0, befo) := by
  refine ⟨so, te, wo, va, ?_⟩
  rw [q_X10_court_b23, if_pos (show nI 0 = nI 0 from rfl)]
  rcases h with rfl | ⟨rfl, h⟩
  · rw [if_pos (show nI 0 = nI 0 from rfl), q_X10_court_b90, q_X10_court_b91, gb_n0, if_pos rfl, mb_back, bd_sm]
  · rw [if_neg n10, if_neg h, q_X10_court_b90, q_X10_court_b91, gb_n0, if_pos rfl, mb_back, bd_sm]
theorem end_good (n : Nat) (row : Nat → Int32) (te va be : Int32) (wo : Int64) (x : Int32) : f_X10_court_b23 (nI 0) tape (n + 1) row (nI L) (nI 0) be te wo va (nI 1) befo x (nI 0) = some (x, row, nI 0, nI 0, be, te, wo, va, nI 1, befo) := by
  rw [q_X10_court_b23, if_pos (show nI 0 = nI 0 from rfl), if_neg n10, if_pos rfl, q_X10_court_b91, gb_n1, if_neg n10]
theorem word_end (w : Nat) : f_X8_isWord tby (nI L) (nI 0) (nI s) (nI e) w = some (nI 0) := by
  rw [q_X8_isWord, if_neg (by decide)]
theorem item_end (ttak : Int32) : f_X8_item tby (nI L) (nI 0) (nI s) (nI e) num ttak u = some (nI 0, nI 0, nI s, nI e, num, ttak, u) := by
  have hp := item_pre (L := L) (tby := tby) (tok := nI 0) (s := s) (e := e) (num := num) (u := u) ttak 6 0 994 (by decide) (fun j _ g => word_end j)
  rw [show 994 + 6 = 1000 from rfl, show 0 + 6 = 6 from rfl] at hp
  rw [q_X8_item, hp, q_X8_item_b2, if_pos (show nI 6 ≤ nI 6 by decide), q_X8_takeWord, word_end, bd_sm, if_pos rfl, bd_sm, if_pos rfl, q_X8_takeWord, word_end, bd_sm, if_pos rfl, bd_sm, if_pos rfl, q_X8_takeWord, word_end, bd_sm, if_pos rfl, bd_sm, if_pos rfl]
theorem tell_l (hB : BY B L tby tape) : ∀ n m x (s e : Nat) (tok num ttak : Int32) (u : MtS) (N : Nat → Nat) (row : Nat → Int32) (so be : Int32) (te : Nat) (wo : Int64) (va sort : Int32) (word : Int64) (valu : Int32), 121 < x + n → 122 < x + m → 1 ≤ x → (x = 1 ∨ x ≤ e) → f_X10_advance tape (nI L) so be (nI te) wo va = some (sort, nI s, nI e, word, valu) → TK B L s e tok num sort word valu → CR u N z → MR 0 r0 row N z → BN N →
    ∃ r c1 c2 c3 c4 c5 u' row' m1 m2 m3 m4 m5 m6, f_X8_tell_b11 tby (nI L) n tok (nI s) (nI e) num ttak u (nI x) = some (r, c1, c2, c3, c4, c5, u') ∧ f_X10_court_b23 (nI 0) tape m row (nI L) so be (nI te) wo va (nI 1) befo (nI (x - 1)) (nI 1) = some (r, row', nI 0, m1, m2, m3, m4, m5, m6, befo) ∧ ((r < nI 0 ∧ ∃ q, row' = fb_put q befo 0 255) ∨ (¬ r < nI 0 ∧ ∃ N', CR u' N' z ∧ MR 0 r0 row' N' z ∧ BN N' ∧ N' 0 = N 0))
  | 0, m, x, s, e, tok, num, ttak, u, N, row, so, be, te, wo, va, sort, word, valu, h1, h2, h3, h4, ha, hT, hC, hM, hN => by have := hT.2.1; have := hB.1; omega
  | n + 1, 0, x, s, e, tok, num, ttak, u, N, row, so, be, te, wo, va, sort, word, valu, h1, h2, h3, h4, ha, hT, hC, hM, hN => by have := hT.2.1; have := hB.1; omega
  | n + 1, 1, x, s, e, tok, num, ttak, u, N, row, so, be, te, wo, va, sort, word, valu, h1, h2, h3, h4, ha, hT, hC, hM, hN => by have := hT.2.1; have := hB.1; omega
  | n + 1, m + 2, x, s, e, tok, num, ttak, u, N, row, so, be, te, wo, va, sort, word, valu, h1, h2, h3, h4, ha, hT, hC, hM, hN => by
    have hL := hB.1
    have he := hT.2.1
    have hneg : ∀ k, k ≤ 120 → (-1 : Int32) - nI k < nI 0 := by decide +kernel
    obtain ⟨g, t', s', e', n', k', u', N', r', o', w', v', g1, g2, g3, g4, g5, g6, g7, g8⟩ := itemI hB hT hC hM hN ttak
    have q1 := g3.1
    have q2 := g3.2.1
    rw [q_X8_tell_b11, if_neg (nI_nlt (by omega) (by omega)), g1, bd_sm, q_X10_court_b23, if_neg n10, ha, bd_sm, g2, bd_sm]
    rcases g8 with rfl | ⟨rfl, le⟩
    · obtain ⟨a1, a2, a3, a4, hbad⟩ := end_bad (L := L) (tape := tape) (befo := befo) m r' o' (nI e') v' (nI 0) s' w' (nI (x - 1) + nI 1) (Or.inl rfl)
      refine ⟨(-1 : Int32) - nI s', t', nI s', nI e', n', k', u', fb_put r' befo 0 255, a1, nI s', a2, a3, a4, nI 0, ?_, ?_, Or.inl ⟨hneg s' (by omega), r', rfl⟩⟩
      · rw [if_pos rfl]
      · rw [if_pos rfl, q_X10_court_b66, q_X10_court_b67]; exact hbad
    · have hse : s < e := by
        rcases hT.2.2 with ⟨rfl, -⟩ | ⟨-, -, h, -⟩ | ⟨-, -, h, -⟩ | ⟨-, -, h, -⟩ | ⟨-, -, h, -⟩
        · rw [item_end] at g1
          have := congrArg Prod.fst (Option.some.inj g1)
          exact absurd this (by show ¬ nI 0 = nI 1; decide)
        · exact h
        · exact h
        · exact h
        · exact h
      rw [if_neg n10, if_neg n10]
      have hx1 : nI (x - 1) + nI 1 = nI x := by rw [nI_add, show x - 1 + 1 = x by omega]
      rcases g3.2.2 with ⟨rfl, rfl, -⟩ | ⟨rfl, rfl, -⟩ | ⟨rfl, rfl, -⟩ | ⟨rfl, rfl, ls, rfl⟩ | ⟨rfl, rfl, -, b, hb1, hb2, rfl⟩
      · refine ⟨nI x, nI 0, nI s', nI e', n', k', u', r', nI 0, nI s', nI e', w', v', nI 1, ?_, ?_, Or.inr ⟨nI_nlt (Nat.zero_le _) (by omega), N', g4, g5, g6, g7⟩⟩
        · rw [if_pos rfl]
        · rw [if_neg (show ¬ nI 0 = nI 3 by decide), q_X10_court_b66, q_X10_court_b67]
          show f_X10_court_b23 (nI 0) tape (m + 1) r' (nI L) (nI 0) (nI s') (nI e') w' v' (nI 1) befo (nI (x - 1) + nI 1) (nI 0) = _
          rw [end_good, hx1]
      · obtain ⟨a1, a2, a3, a4, hbad⟩ := end_bad (L := L) (tape := tape) (befo := befo) m r' (nI 1) (nI e') v' (nI 1) s' w' (nI (x - 1) + nI 1) (Or.inr ⟨rfl, by decide⟩)
        refine ⟨(-1 : Int32) - nI s', nI 1, nI s', nI e', n', k', u', fb_put r' befo 0 255, a1, nI s', a2, a3, a4, nI 0, ?_, ?_, Or.inl ⟨hneg s' (by omega), r', rfl⟩⟩
        · rw [if_neg (show ¬ nI 1 = nI 0 by decide), if_neg (show ¬ nI 1 = nI 3 by decide)]
        · rw [if_neg (show ¬ nI 1 = nI 3 by decide), q_X10_court_b66, q_X10_court_b67]; exact hbad
      · obtain ⟨a1, a2, a3, a4, hbad⟩ := end_bad (L := L) (tape := tape) (befo := befo) m r' (nI 2) (nI e') v' (nI 1) s' w' (nI (x - 1) + nI 1) (Or.inr ⟨rfl, by decide⟩)
        refine ⟨(-1 : Int32) - nI s', nI 2, nI s', nI e', n', k', u', fb_put r' befo 0 255, a1, nI s', a2, a3, a4, nI 0, ?_, ?_, Or.inl ⟨hneg s' (by omega), r', rfl⟩⟩
        · rw [if_neg (show ¬ nI 2 = nI 0 by decide), if_neg (show ¬ nI 2 = nI 3 by decide)]
        · rw [if_neg (show ¬ nI 2 = nI 3 by decide), q_X10_court_b66, q_X10_court_b67]; exact hbad
      · obtain ⟨t2, s2, e2, u2, o2, w2, v2, f1, f2, f3, f4⟩ := adv hB (nI 3) (nI s') n' (nI 3) (nI s') w' (nI 59) q2
        have q3 := f3.1
        obtain ⟨r, c1, c2, c3, c4, c5, u'', row', m1, m2, m3, m4, m5, m6, p1, p2, p3⟩ := tell_l hB n (m + 1) (x + 1) s2 e2 t2 u2 k' u' N' r' (nI 3) (nI s') e' w' (nI 59) o2 w2 v2 (by omega) (by omega) (by omega) (Or.inr (by rcases h4 with h4 | h4 <;> omega)) f2 f3 g4 g5 g6
        refine ⟨r, c1, c2, c3, c4, c5, u'', row', m1, m2, m3, m4, m5, m6, ?_, ?_, ?_⟩
        · rw [if_neg (show ¬ nI 3 = nI 0 by decide), if_pos rfl, f1, bd_sm, nI_add]; exact p1
        · rw [if_pos rfl, if_pos rfl, q_X10_court_b67, hx1]
          rw [show x + 1 - 1 = x by omega] at p2
          exact p2
        · rcases p3 with p3 | ⟨p3, N'', x1, x2, x3, x4⟩
          · exact Or.inl p3
          · exact Or.inr ⟨p3, N'', x1, x2, x3, by rw [x4, g7]⟩
      · obtain ⟨a1, a2, a3, a4, hbad⟩ := end_bad (L := L) (tape := tape) (befo := befo) m r' (nI 3) (nI e') (nI b) (nI 1) s' w' (nI (x - 1) + nI 1) (Or.inr ⟨rfl, by decide⟩)
        refine ⟨(-1 : Int32) - nI s', nI 4, nI s', nI e', n', k', u', fb_put r' befo 0 255, a1, nI s', a2, a3, a4, nI 0, ?_, ?_, Or.inl ⟨hneg s' (by omega), r', rfl⟩⟩
        · rw [if_neg (show ¬ nI 4 = nI 0 by decide), if_neg (show ¬ nI 4 = nI 3 by decide)]
        · rw [if_pos rfl, if_neg (nsel hb2 (by omega) (by decide)), q_X10_court_b66, q_X10_court_b67]; exact hbad
theorem op_court (h : RA mu row) {tlen tmany : Int32} (hT : RT tby tape tlen tmany) (tr : MtS) (ttok tsta tbeh tnum ttak sort begs tends : Int32) (word : Int64) (valu good : Int32) (befo : Nat → Int32) : ∃ r mu' tr' c1 c2 c3 c4 c5 row' m1 m2 m3 m4 m5 m6 befo', f_X9_court mu tr tby tlen ttok tsta tbeh tnum ttak = some (r, mu', tr', nI 0, c1, c2, c3, c4, c5) ∧ f_X10_court row (nI 0) tape tmany sort begs tends word valu good befo = some (r, row', nI 0, m1, m2, m3, m4, m5, m6, befo') ∧ RA mu' row' := by
  obtain ⟨N, z, hC, hM, hb, hy⟩ := id h
  obtain ⟨L, hL, rfl, rfl, h4⟩ := hT
  have hB : BY (fun k => (tape k).toNatClampNeg) L tby tape := by
    refine ⟨hL, fun k hk => ?_⟩
    obtain ⟨a1, b, b1, b2⟩ := h4 k hk
    have : (tape k).toNatClampNeg = b := by rw [b2]; exact nI_clamp (by omega)
    show (tape k).toNatClampNeg < 256 ∧ tby k = nI (tape k).toNatClampNeg ∧ tape k = nI (tape k).toNatClampNeg
    rw [this, a1]
    exact ⟨b1, b2, b2⟩
  obtain ⟨t, c1, c2⟩ := c_become tr hC hb
  obtain ⟨t1, s1, e1, u1, o1, w1, v1, g1, g2, hT1, le1⟩ := adv hB ttok tsta tnum sort begs word valu (e := 0) (Nat.zero_le _)
  obtain ⟨r, d1, d2, d3, d4, d5, u', row', m1, m2, m3, m4, m5, m6, p1, p2, p3⟩ := tell_l (befo := fb_put befo row 0 255) hB 1000 1000 1 s1 e1 t1 u1 ttak t N row sort begs 0 word valu o1 w1 v1 (by decide) (by decide) (by decide) (Or.inl rfl) g2 hT1 c2 hM hb
  have pm : f_X10_court row (nI 0) tape (nI L) sort begs tends word valu good befo = some (r, row', nI 0, m1, m2, m3, m4, m5, m6, fb_put befo row 0 255) := by
    rw [q_X10_court, mb_keep, bd_sm]; exact p2
  rcases p3 with ⟨p3, q, rfl⟩ | ⟨p3, N', x1, x2, x3, x4⟩
  · refine ⟨r, mu, u', d1, d2, d3, d4, d5, _, m1, m2, m3, m4, m5, m6, _, ?_, pm, ⟨N, z, hC, MR_put (MR_put hM befo) q, hb, hy⟩⟩
    rw [q_X9_court, q_X9_startTrial, c1, bd_sm, bd_sm, q_X8_tell, g1, bd_sm, p1, bd_sm, if_pos p3, q_X9_court_b31]
  · obtain ⟨w, y1, y2⟩ := c_become mu x1 x3
    refine ⟨r, w, u', d1, d2, d3, d4, d5, _, m1, m2, m3, m4, m5, m6, _, ?_, pm, RA_of y2 x2 x3 (by rw [x4]; exact hy)⟩
    rw [q_X9_court, q_X9_startTrial, c1, bd_sm, bd_sm, q_X8_tell, g1, bd_sm, p1, bd_sm, if_neg p3, y1, bd_sm, q_X9_court_b31]
end CO
