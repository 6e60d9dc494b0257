/-! the text: an item -/
section I2
variable {B : Nat → Nat} {L s e : Nat} {tby tape : Nat → Int32} {tok num sort valu : Int32} {word : Int64} {u : MtS} {r0 row : Nat → Int32} {N : Nat → Nat} {z : Int32}
theorem b42_0 (so v x y x2 x4 : Int32) (wo : Int64) (be te : Int32) : f_X10_wantRock_b42 tape (nI L) 1000 row so be te wo v (nI 0) x2 x x4 = some (row, so, be, te, wo, v, nI 0) := by
  rw [q_X10_wantRock_b42]
  by_cases c : x2 < x4
  · rw [if_pos c]
  · rw [if_neg c, if_pos rfl]
theorem rockI (hB : BY B L tby tape) (hT : TK B L s e tok num sort word valu) (hC : CR u N z) (hM : MR 0 r0 row N z) (hN : BN N) (ttak : Int32) : IR B L r0 z (N 0) e (f_X8_rockItem tby (nI L) tok (nI s) (nI e) num ttak u) (bd (f_X10_wantNumber tape (nI L) sort (nI s) (nI e) word valu (nI 1) (nI 0) (nI 39)) (fun r2 => bd (f_X10_mayWant tape (nI L) r2.2.1 r2.2.2.1 r2.2.2.2.1 r2.2.2.2.2.1 r2.2.2.2.2.2.1 r2.2.2.2.2.2.2 (lN 555) r2.1 (nI 39) r2.1) (fun r3 => bd (f_X10_wantWord tape (nI L) r3.2.1 r3.2.2.1 r3.2.2.2.1 r3.2.2.2.2.1 r3.2.2.2.2.2.1 r3.2.2.2.2.2.2 (lN 411)) (fun r4 => bd (f_X10_wantNumber tape (nI L) r4.1 r4.2.1 r4.2.2.1 r4.2.2.2.1 r4.2.2.2.2.1 r4.2.2.2.2.2 (nI 1) (nI 9)) (fun r5 => f_X10_wantRock_b42 tape (nI L) 1000 row r5.2.1 r5.2.2.1 r5.2.2.2.1 r5.2.2.2.2.1 r5.2.2.2.2.2.1 r5.2.2.2.2.2.2 r3.1 r5.1 r2.1))))) := by
  rw [q_X8_rockItem]
  rcases takeN hB hT ttak 0 39 (by decide) (by decide) with ⟨a1, a2⟩ | ⟨a, t2, s2, e2, u2, o2, w2, v2, ha1, ha2, a1, a2, hT2, le2⟩
  · exact ⟨nI 0, tok, s, e, num, ttak, u, N, row, sort, word, valu, by rw [a1, bd_sm, if_pos rfl], by rw [a2, bd_sm, mayW0, bd_sm, wantW0, bd_sm, wantN0, bd_sm, b42_0 (y := 0)], hT, hC, hM, hN, rfl, Or.inl rfl⟩
  · have q2 := hT2.1
    rw [a1, bd_sm, if_neg n10, a2, bd_sm, show lN 555 = lN (cst 9) from rfl]
    rcases takeW hB (w := 9) (by decide) hT2 with ⟨b1, b2, b3⟩ | ⟨t3, s3, e3, u3, o3, w3, v3, b1, b2, b3, b4, hT3, le3⟩
    · rw [b1, bd_sm, if_pos rfl, mayF b2, bd_sm]
      obtain ⟨g, t', s', e', n', k', u', N', r', o', w', v', g1, g2, g3, g4, g5, g6, g7, g8⟩ := rockT hB hT2 hC hM hN (nI a) (Nat.le_refl a) ha2
      exact ⟨g, t', s', e', n', k', u', N', r', o', w', v', g1, g2, g3, g4, g5, g6, g7, g8.elim Or.inl (fun h => Or.inr ⟨h.1, by omega⟩)⟩
    · have q3 := hT3.1
      rw [b1, bd_sm, if_neg n10, q_X10_mayWant, if_neg n10, b2, bd_sm, if_neg n10, b3, bd_sm]
      rcases takeN hB hT3 (nI a) a 39 ha2 (by decide) with ⟨c1, c2⟩ | ⟨b, t4, s4, e4, u4, o4, w4, v4, hb1, hb2, c1, c2, hT4, le4⟩
      · exact ⟨nI 0, t3, s3, e3, u3, nI a, u, N, row, o3, w3, v3, by rw [c1, bd_sm, if_pos rfl], by rw [c2, bd_sm, bd_sm, wantW0, bd_sm, wantN0, bd_sm, b42_0 (y := 0)], hT3, hC, hM, hN, rfl, Or.inl rfl⟩
      · have q4 := hT4.1
        rw [c1, bd_sm, if_neg n10, c2, bd_sm, bd_sm]
        obtain ⟨g, t', s', e', n', k', u', N', r', o', w', v', g1, g2, g3, g4, g5, g6, g7, g8⟩ := rockT hB hT4 hC hM hN (nI b) hb1 hb2
        exact ⟨g, t', s', e', n', k', u', N', r', o', w', v', g1, g2, g3, g4, g5, g6, g7, g8.elim Or.inl (fun h => Or.inr ⟨h.1, by omega⟩)⟩
theorem kdn : ∀ k, k < 6 → kd_name k = some k := by decide +kernel
theorem kindH (hB : BY B L tby tape) (hT : TK B L s e tok num sort word valu) : (∃ k, k < 6 ∧ (∀ j, j < k → f_X8_isWord tby (nI L) tok (nI s) (nI e) j = some (nI 0)) ∧ f_X8_isWord tby (nI L) tok (nI s) (nI e) k = some (nI 1) ∧ f_X10_kindHere sort word = some (nI k)) ∨ ((∀ j, j < 6 → f_X8_isWord tby (nI L) tok (nI s) (nI e) j = some (nI 0)) ∧ f_X10_kindHere sort word = some (-1)) := by
  rw [q_X10_kindHere, show lN 125042 = lN (cst 0) from rfl, show lN 276913705 = lN (cst 1) from rfl, show lN 28801 = lN (cst 2) from rfl, show lN 4285627 = lN (cst 3) from rfl, show lN 2401198564 = lN (cst 4) from rfl, show lN 7380411658 = lN (cst 5) from rfl]
  obtain ⟨x0, a0, b0, c0⟩ := isW hB (w := 0) (by decide) hT
  obtain ⟨x1, a1, b1, c1⟩ := isW hB (w := 1) (by decide) hT
  obtain ⟨x2, a2, b2, c2⟩ := isW hB (w := 2) (by decide) hT
  obtain ⟨x3, a3, b3, c3⟩ := isW hB (w := 3) (by decide) hT
  obtain ⟨x4, a4, b4, c4⟩ := isW hB (w := 4) (by decide) hT
  obtain ⟨x5, a5, b5, c5⟩ := isW hB (w := 5) (by decide) hT
  rw [b0, bd_sm]
  rcases c0 with rfl | ⟨rfl, -⟩
  rw [if_pos rfl, b1, bd_sm]
  rcases c1 with rfl | ⟨rfl, -⟩
  rw [if_pos rfl, b2, bd_sm]
  rcases c2 with rfl | ⟨rfl, -⟩
  rw [if_pos rfl, b3, bd_sm]
  rcases c3 with rfl | ⟨rfl, -⟩
  rw [if_pos rfl, b4, bd_sm]
  rcases c4 with rfl | ⟨rfl, -⟩
  rw [if_pos rfl, b5, bd_sm]
  rcases c5 with rfl | ⟨rfl, -⟩
  · rw [if_pos rfl]
    refine Or.inr ⟨fun j hj => ?_, rfl⟩
    rcases (show j = 0 ∨ j = 1 ∨ j = 2 ∨ j = 3 ∨ j = 4 ∨ j = 5 by omega) with rfl | rfl | rfl | rfl | rfl | rfl <;> assumption
  · rw [if_neg n10]
    refine Or.inl ⟨5, by decide, fun j hj => ?_, a5, rfl⟩
    rcases (show j = 0 ∨ j = 1 ∨ j = 2 ∨ j = 3 ∨ j = 4 by omega) with rfl | rfl | rfl | rfl | rfl <;> assumption
  · rw [if_neg n10]
    refine Or.inl ⟨4, by decide, fun j hj => ?_, a4, rfl⟩
    rcases (show j = 0 ∨ j = 1 ∨ j = 2 ∨ j = 3 by omega) with rfl | rfl | rfl | rfl <;> assumption
  · rw [if_neg n10]
    refine Or.inl ⟨3, by decide, fun j hj => ?_, a3, rfl⟩
    rcases (show j = 0 ∨ j = 1 ∨ j = 2 by omega) with rfl | rfl | rfl <;> assumption
  · rw [if_neg n10]
    refine Or.inl ⟨2, by decide, fun j hj => ?_, a2, rfl⟩
    rcases (show j = 0 ∨ j = 1 by omega) with rfl | rfl <;> assumption
  · rw [if_neg n10]
    refine Or.inl ⟨1, by decide, fun j hj => ?_, a1, rfl⟩
    rcases (show j = 0 by omega) with rfl
    assumption
  · rw [if_neg n10]
    exact Or.inl ⟨0, by decide, fun j hj => absurd hj (Nat.not_lt_zero j), a0, rfl⟩
theorem item_pre (ttak : Int32) : ∀ d i n, i + d ≤ 6 → (∀ j, i ≤ j → j < i + d → f_X8_isWord tby (nI L) tok (nI s) (nI e) j = some (nI 0)) → f_X8_item_b2 tby (nI L) (n + d) tok (nI s) (nI e) num ttak u (nI i) = f_X8_item_b2 tby (nI L) n tok (nI s) (nI e) num ttak u (nI (i + d))
  | 0, i, n, h1, h2 => rfl
  | d + 1, i, n, h1, h2 => by
    rw [← Nat.add_assoc, q_X8_item_b2, if_neg (nI_ge (by omega) (by decide)), gx_n (by omega) (by decide), show (nI i).toNatClampNeg = i from nI_clamp (by omega), gk_n (by omega), kdn i (by omega), bd_sm, h2 i (Nat.le_refl _) (by omega), bd_sm, if_pos rfl, nI_add, item_pre ttak d (i + 1) n (by omega) (fun j g1 g2 => h2 j (by omega) (by omega)), show i + 1 + d = i + (d + 1) by omega]
theorem itemI (hB : BY B L tby tape) (hT : TK B L s e tok num sort word valu) (hC : CR u N z) (hM : MR 0 r0 row N z) (hN : BN N) (ttak : Int32) : IR B L r0 z (N 0) e (f_X8_item tby (nI L) tok (nI s) (nI e) num ttak u) (f_X10_wantItem row (nI 0) tape (nI L) sort (nI s) (nI e) word valu (nI 1)) := by
  rw [q_X8_item, q_X10_wantItem]
  rcases kindH hB hT with ⟨k, hk, k1, k2, k3⟩ | ⟨k1, k3⟩
  · have hp := item_pre (L := L) (tby := tby) (tok := tok) (s := s) (e := e) (num := num) (u := u) ttak k 0 (1000 - k) (by omega) (fun j _ g => k1 j (by omega))
    rw [show 1000 - k + k = 1000 by omega, Nat.zero_add, show 1000 - k = (999 - k) + 1 by omega] at hp
    obtain ⟨g, t', s', e', n', k', u', N', r', o', w', v', g1, g2, g3, g4, g5, g6, g7, g8⟩ := fineI hB hT hC hM hN ttak hk
    refine ⟨g, t', s', e', n', k', u', N', r', o', w', v', ?_, ?_, g3, g4, g5, g6, g7, g8⟩
    · rw [hp, q_X8_item_b2, if_neg (nI_ge (by omega) (by decide)), gx_n (by omega) (by decide), show (nI k).toNatClampNeg = k from nI_clamp (by omega), gk_n (by omega), kdn k hk, bd_sm, k2, bd_sm, if_neg n10, g1, bd_sm]
      rcases g8 with rfl | ⟨rfl, -⟩
      · exact gb_n0
      · exact gb_n1
    · rw [k3, bd_sm, if_neg (nI_nlt (Nat.zero_le _) (by omega)), bd_sm, g2, bd_sm]
  · have hp := item_pre (L := L) (tby := tby) (tok := tok) (s := s) (e := e) (num := num) (u := u) ttak 6 0 994 (by decide) (fun j _ g => k1 j (by omega))
    rw [show 994 + 6 = 1000 from rfl, show 0 + 6 = 6 from rfl] at hp
    rw [hp, q_X8_item_b2, if_pos (show nI 6 ≤ nI 6 by decide), k3, bd_sm, if_pos (show (-1 : Int32) < nI 0 by decide), show lN 365321 = lN (cst 8) from rfl, show lN 3554408 = lN (cst 11) from rfl, show lN 7011352 = lN (cst 12) from rfl]
    rcases takeW hB (w := 8) (by decide) hT with ⟨b1, b2, b3⟩ | ⟨t3, s3, e3, u3, o3, w3, v3, b1, b2, b3, b4, hT3, le3⟩
    · rw [b1, bd_sm, if_pos rfl, b2, bd_sm, if_pos rfl]
      rcases takeW hB (w := 11) (by decide) hT with ⟨c1, c2, c3⟩ | ⟨t3, s3, e3, u3, o3, w3, v3, c1, c2, c3, c4, hT3, le3⟩
      · rw [c1, bd_sm, if_pos rfl, c2, bd_sm, if_pos rfl]
        rcases takeW hB (w := 12) (by decide) hT with ⟨d1, d2, d3⟩ | ⟨t3, s3, e3, u3, o3, w3, v3, d1, d2, d3, d4, hT3, le3⟩
        · exact ⟨nI 0, tok, s, e, num, ttak, u, N, row, sort, word, valu, by rw [d1, bd_sm, if_pos rfl], by rw [d2, bd_sm, if_pos rfl], hT, hC, hM, hN, rfl, Or.inl rfl⟩
        · have q3 := hT3.1
          rw [d1, bd_sm, if_neg n10, d2, bd_sm, if_neg n10, q_X10_wantLet, d3, bd_sm]
          rcases takeN hB hT3 ttak 0 20 (by decide) (by decide) with ⟨x1, x2⟩ | ⟨v, t4, s4, e4, u4, o4, w4, v4, hv1, hv2, x1, x2, hT4, le4⟩
          · exact ⟨nI 0, t3, s3, e3, u3, ttak, u, N, row, o3, w3, v3, by rw [x1, bd_sm, if_pos rfl], by rw [x2, bd_sm, if_pos rfl, bd_sm], hT3, hC, hM, hN, rfl, Or.inl rfl⟩
          · exact ⟨nI 1, t4, s4, e4, u4, nI v, _, nupd N 2 v, _, o4, w4, v4, by rw [x1, bd_sm, if_neg n10], by rw [x2, bd_sm, if_neg n10, gx_n (by decide) (by decide), nI_clamp (by decide), bd_sm], hT4, CR_sc hC (k := 2) (v := v) (Or.inr rfl) (fr := u.1 0 1) (me := nI v) (by rw [nu_n (by decide)]; exact hC.2.1) (by rw [nu_s]), hM.p0 (k := 2) (v := v) (by decide) (by decide) (Or.inr (by omega)), BN_2 hN hv2, nu_n (by decide), Or.inr ⟨rfl, by omega⟩⟩
      · have q3 := hT3.1
        rw [c1, bd_sm, if_neg n10, c2, bd_sm, if_neg n10, q_X10_wantLet, c3, bd_sm]
        rcases takeN hB hT3 ttak 0 9 (by decide) (by decide) with ⟨x1, x2⟩ | ⟨v, t4, s4, e4, u4, o4, w4, v4, hv1, hv2, x1, x2, hT4, le4⟩
        · exact ⟨nI 0, t3, s3, e3, u3, ttak, u, N, row, o3, w3, v3, by rw [x1, bd_sm, if_pos rfl], by rw [x2, bd_sm, if_pos rfl, bd_sm], hT3, hC, hM, hN, rfl, Or.inl rfl⟩
        · exact ⟨nI 1, t4, s4, e4, u4, nI v, _, nupd N 1 v, _, o4, w4, v4, by rw [x1, bd_sm, if_neg n10], by rw [x2, bd_sm, if_neg n10, gx_n (by decide) (by decide), nI_clamp (by decide), bd_sm], hT4, CR_sc hC (k := 1) (v := v) (Or.inl rfl) (fr := nI v) (me := u.1 0 2) (by rw [nu_s]) (by rw [nu_n (by decide)]; exact hC.2.2.1), hM.p0 (k := 1) (v := v) (by decide) (by decide) (Or.inr (by omega)), BN_1 hN hv2, nu_n (by decide), Or.inr ⟨rfl, by omega⟩⟩
    · have q3 := hT3.1
      obtain ⟨g, t', s', e', n', k', u', N', r', o', w', v', g1, g2, g3, g4, g5, g6, g7, g8⟩ := rockI hB hT3 hC hM hN ttak
      refine ⟨g, t', s', e', n', k', u', N', r', o', w', v', ?_, ?_, g3, g4, g5, g6, g7, g8.elim Or.inl (fun h => Or.inr ⟨h.1, by omega⟩)⟩
      · rw [b1, bd_sm, if_neg n10, g1, bd_sm]
        rcases g8 with rfl | ⟨rfl, -⟩
        · exact gb_n0
        · exact gb_n1
      · rw [b2, bd_sm, if_neg n10, q_X10_wantRock, b3, bd_sm, g2, bd_sm]
end I2
