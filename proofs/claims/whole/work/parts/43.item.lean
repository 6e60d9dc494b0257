/-! the text: items -/
section IT
variable {B : Nat → Nat} {L s e : Nat} {tby tape : Nat → Int32} {tok num sort valu : Int32} {word : Int64} {u : MtS} {r0 row : Nat → Int32} {N : Nat → Nat} {z : Int32}
def IR (B : Nat → Nat) (L : Nat) (r0 : Nat → Int32) (z : Int32) (n0 e : Nat) (c : Option (Int32 × Int32 × Int32 × Int32 × Int32 × Int32 × MtS)) (m : Option ((Nat → Int32) × Int32 × Int32 × Int32 × Int64 × Int32 × Int32)) : Prop :=
  ∃ g tok' s' e' num' ttak' u' N' row' sort' word' valu', c = some (g, tok', nI s', nI e', num', ttak', u') ∧ m = some (row', sort', nI s', nI e', word', valu', g) ∧ TK B L s' e' tok' num' sort' word' valu' ∧ CR u' N' z ∧ MR 0 r0 row' N' z ∧ BN N' ∧ N' 0 = n0 ∧ (g = nI 0 ∨ (g = nI 1 ∧ e ≤ s'))
theorem rocks_l (w : Nat) (hw1 : 1 ≤ w) (hw9 : w ≤ 9) {b : Nat} (hb : b ≤ 39) (tok sta beh num sort begs tends valu : Int32) (word : Int64) : ∀ d i n m (N : Nat → Nat) (u : MtS) (row : Nat → Int32), i + d = b + 1 → d < n → d < m → CR u N z → MR 0 r0 row N z → BN N → ∃ u' N' row', f_X8_rockItem_b69 tby (nI L) n tok sta beh num (nI w) u (nI b) (nI i) = some (nI 1, tok, sta, beh, num, nI w, u') ∧ f_X10_wantRock_b42 tape (nI L) m row sort begs tends word valu (nI 1) (nI b) (nI w) (nI i) = some (row', sort, begs, tends, word, valu, nI 1) ∧ CR u' N' z ∧ MR 0 r0 row' N' z ∧ BN N' ∧ N' 0 = N 0
  | d, i, 0, m, N, u, row, h1, h2, h3, hC, hM, hN => by omega
  | d, i, n + 1, 0, N, u, row, h1, h2, h3, hC, hM, hN => by omega
  | 0, i, n + 1, m + 1, N, u, row, h1, h2, h3, hC, hM, hN => by
    exact ⟨u, N, row, by rw [q_X8_rockItem_b69, if_pos (nI_lt (by omega) (by omega))], by rw [q_X10_wantRock_b42, if_pos (nI_lt (by omega) (by omega))], hC, hM, hN, rfl⟩
  | d + 1, i, n + 1, m + 1, N, u, row, h1, h2, h3, hC, hM, hN => by
    have hM' := hM.p0 (k := 5 + i) (v := w) (by omega) (by omega) (Or.inr (by omega))
    obtain ⟨u', N', row', g1, g2, g3, g4, g5, g6⟩ := rocks_l w hw1 hw9 hb tok sta beh num sort begs tends valu word d (i + 1) n m _ _ _ (by omega) (by omega) (by omega) (CR_rk hC (p := i) (v := w) (by omega)) hM' (BN_rk hN (by omega) hw1 hw9)
    refine ⟨u', N', row', ?_, ?_, g3, g4, g5, by rw [g6, nu_n (by omega)]⟩
    · rw [q_X8_rockItem_b69, if_neg (nI_nlt (by omega) (by omega)), if_neg (nI_ge (by omega) (by decide)), gx_n (by omega) (by decide), nI_clamp (by omega), nI_add]; exact g1
    · rw [q_X10_wantRock_b42, if_neg (nI_nlt (by omega) (by omega)), if_neg n10, nI_add 5 i, gx_n (by omega) (by decide), nI_clamp (by omega), nI_add]; exact g2
theorem mayF {w : Nat} (h : f_X10_isWord sort word (lN (cst w)) = some (nI 0)) (a1 a2 a3 : Int32) : f_X10_mayWant tape (nI L) sort (nI s) (nI e) word valu (nI 1) (lN (cst w)) a1 a2 a3 = some (a3, sort, nI s, nI e, word, valu, nI 1) := by
  rw [q_X10_mayWant, if_neg n10, h, bd_sm, if_pos rfl]
theorem fineI (hB : BY B L tby tape) (hT : TK B L s e tok num sort word valu) (hC : CR u N z) (hM : MR 0 r0 row N z) (hN : BN N) (ttak : Int32) {k : Nat} (hk : k < 6) : IR B L r0 z (N 0) e (f_X8_fineItem tby (nI L) tok (nI s) (nI e) num ttak u (nI k)) (f_X10_wantFine row (nI 0) tape (nI L) sort (nI s) (nI e) word valu (nI 1) (nI k)) := by
  have h10 := hN.2.2.1
  rw [q_X8_fineItem, q_X10_wantFine, c_isFull hC hN, bd_sm, nI_clamp (by decide), hM.g0 (by decide) (by decide)]
  by_cases c : N 4 = 10
  · refine ⟨nI 0, tok, s, e, num, ttak, u, N, row, sort, word, valu, ?_, ?_, hT, hC, hM, hN, rfl, Or.inl rfl⟩
    · rw [if_pos c, if_neg n10]
    · rw [c, if_pos (by decide), q_X10_wantFine_b17, gb_n0, if_pos rfl, q_X10_wantFine_b31, wantN0, bd_sm, wantW0, bd_sm, wantN0, bd_sm, mayW0, bd_sm, if_pos rfl]
  · obtain ⟨t1, s1, e1, u1, o1, w1, v1, g1, g2, hT1, le1⟩ := adv hB tok (nI s) num sort (nI s) word valu hT.2.1
    have q1 := hT1.1
    rw [if_neg c, if_pos rfl, g1, bd_sm, if_neg (nI_ge (by omega) (by decide)), q_X10_wantFine_b17, gb_n1, if_neg n10, g2, bd_sm, q_X10_wantFine_b31]
    rcases takeN hB hT1 ttak 1 40 (by decide) (by decide) with ⟨a1, a2⟩ | ⟨st, t2, s2, e2, u2, o2, w2, v2, hst1, hst2, a1, a2, hT2, le2⟩
    · exact ⟨nI 0, t1, s1, e1, u1, ttak, u, N, row, o1, w1, v1, by rw [a1, bd_sm, if_pos rfl], by rw [a2, bd_sm, wantW0, bd_sm, wantN0, bd_sm, mayW0, bd_sm, if_pos rfl], hT1, hC, hM, hN, rfl, Or.inl rfl⟩
    · have q2 := hT2.1
      rw [a1, bd_sm, if_neg n10, a2, bd_sm]
      rcases takeW hB (w := 6) (by decide) hT2 with ⟨b1, b2, b3⟩ | ⟨t3, s3, e3, u3, o3, w3, v3, b1, b2, b3, b4, hT3, le3⟩
      · exact ⟨nI 0, t2, s2, e2, u2, nI st, u, N, row, o2, w2, v2, by rw [b1, bd_sm, if_pos rfl], by rw [show lN 47 = lN (cst 6) from rfl, b3, bd_sm, wantN0, bd_sm, mayW0, bd_sm, if_pos rfl], hT2, hC, hM, hN, rfl, Or.inl rfl⟩
      · have q3 := hT3.1
        rw [b1, bd_sm, if_neg n10, show lN 47 = lN (cst 6) from rfl, b4, bd_sm]
        rcases takeN hB hT3 (nI st) 0 39 (by decide) (by decide) with ⟨c1, c2⟩ | ⟨p, t4, s4, e4, u4, o4, w4, v4, hp1, hp2, c1, c2, hT4, le4⟩
        · exact ⟨nI 0, t3, s3, e3, u3, nI st, u, N, row, o3, w3, v3, by rw [c1, bd_sm, if_pos rfl], by rw [c2, bd_sm, mayW0, bd_sm, if_pos rfl], hT3, hC, hM, hN, rfl, Or.inl rfl⟩
        · have q4 := hT4.1
          rw [c1, bd_sm, if_neg n10, c2, bd_sm]
          rcases takeW hB (w := 7) (by decide) hT4 with ⟨d1, d2, d3⟩ | ⟨t5, s5, e5, u5, o5, w5, v5, d1, d2, d3, d4, hT5, le5⟩
          · obtain ⟨u', f1, f2⟩ := c_addFine hC hN (by omega) (k := k) (st := st) (p := p) (a := 3)
            obtain ⟨r', m1, m2⟩ := m_addFine hM (by omega) (k := k) (st := st) (p := p) (a := 3) (by omega) (by omega) (by omega) (by decide)
            exact ⟨nI 1, t4, s4, e4, u4, nI p, u', addS N k st p 3, r', o4, w4, v4, by rw [d1, bd_sm, if_pos rfl, q_X8_fineItem_b87, f1, bd_sm], by rw [show lN 1228 = lN (cst 7) from rfl, mayF d2, bd_sm, if_neg n10, m1, bd_sm], hT4, f2, m2, BN_add hN (by omega) (by omega) hst2 hp2 (by decide), addS_out (by decide) (by omega), Or.inr ⟨rfl, by omega⟩⟩
          · have q5 := hT5.1
            rw [d1, bd_sm, if_neg n10, show lN 1228 = lN (cst 7) from rfl, q_X10_mayWant, if_neg n10, d2, bd_sm, if_neg n10, d3, bd_sm]
            rcases takeN hB hT5 (nI p) 1 9 (by decide) (by decide) with ⟨x1, x2⟩ | ⟨a, t6, s6, e6, u6, o6, w6, v6, ha1, ha2, x1, x2, hT6, le6⟩
            · exact ⟨nI 0, t5, s5, e5, u5, nI p, u, N, row, o5, w5, v5, by rw [x1, bd_sm, if_pos rfl], by rw [x2, bd_sm, bd_sm, if_pos rfl], hT5, hC, hM, hN, rfl, Or.inl rfl⟩
            · obtain ⟨u', f1, f2⟩ := c_addFine hC hN (by omega) (k := k) (st := st) (p := p) (a := a)
              obtain ⟨r', m1, m2⟩ := m_addFine hM (by omega) (k := k) (st := st) (p := p) (a := a) (by omega) (by omega) (by omega) (by omega)
              exact ⟨nI 1, t6, s6, e6, u6, nI a, u', addS N k st p a, r', o6, w6, v6, by rw [x1, bd_sm, if_neg n10, q_X8_fineItem_b87, f1, bd_sm], by rw [x2, bd_sm, bd_sm, if_neg n10, m1, bd_sm], hT6, f2, m2, BN_add hN (by omega) (by omega) hst2 hp2 ⟨ha1, ha2⟩, addS_out (by decide) (by omega), Or.inr ⟨rfl, by omega⟩⟩
/-- rock's tail: 'of' and a hardness -/
theorem rockT (hB : BY B L tby tape) (hT : TK B L s e tok num sort word valu) (hC : CR u N z) (hM : MR 0 r0 row N z) (hN : BN N) (ttak : Int32) {a b : Nat} (hab : a ≤ b) (hb : b ≤ 39) : IR B L r0 z (N 0) e (f_X8_rockItem_b45 tby (nI L) tok (nI s) (nI e) num ttak u (nI a) (nI b)) (bd (f_X10_wantWord tape (nI L) sort (nI s) (nI e) word valu (nI 1) (lN 411)) (fun r4 => bd (f_X10_wantNumber tape (nI L) r4.1 r4.2.1 r4.2.2.1 r4.2.2.2.1 r4.2.2.2.2.1 r4.2.2.2.2.2 (nI 1) (nI 9)) (fun r5 => f_X10_wantRock_b42 tape (nI L) 1000 row r5.2.1 r5.2.2.1 r5.2.2.2.1 r5.2.2.2.2.1 r5.2.2.2.2.2.1 r5.2.2.2.2.2.2 (nI b) r5.1 (nI a)))) := by
  have h0 : ∀ (so v : Int32) (wo : Int64) (s e : Nat) (x : Int32), f_X10_wantRock_b42 tape (nI L) 1000 row so (nI s) (nI e) wo v (nI 0) (nI b) x (nI a) = some (row, so, nI s, nI e, wo, v, nI 0) := by
    intro so v wo s e x
    rw [q_X10_wantRock_b42, if_neg (nI_nlt hab (by omega)), if_pos rfl]
  rw [q_X8_rockItem_b45, show lN 411 = lN (cst 10) from rfl]
  rcases takeW hB (w := 10) (by decide) hT with ⟨b1, b2, b3⟩ | ⟨t3, s3, e3, u3, o3, w3, v3, b1, b2, b3, b4, hT3, le3⟩
  · exact ⟨nI 0, tok, s, e, num, ttak, u, N, row, sort, word, valu, by rw [b1, bd_sm, if_pos rfl], by rw [b3, bd_sm, wantN0, bd_sm, h0], hT, hC, hM, hN, rfl, Or.inl rfl⟩
  · have q3 := hT3.1
    rw [b1, bd_sm, if_neg n10, b4, bd_sm]
    rcases takeN hB hT3 ttak 1 9 (by decide) (by decide) with ⟨c1, c2⟩ | ⟨w, t4, s4, e4, u4, o4, w4, v4, hw1, hw9, c1, c2, hT4, le4⟩
    · exact ⟨nI 0, t3, s3, e3, u3, ttak, u, N, row, o3, w3, v3, by rw [c1, bd_sm, if_pos rfl], by rw [c2, bd_sm, h0], hT3, hC, hM, hN, rfl, Or.inl rfl⟩
    · obtain ⟨u', N', row', g1, g2, g3, g4, g5, g6⟩ := rocks_l (L := L) (tby := tby) (tape := tape) w hw1 hw9 hb t4 (nI s4) (nI e4) u4 o4 (nI s4) (nI e4) v4 w4 (b + 1 - a) a 1000 1000 N u row (by omega) (by omega) (by omega) hC hM hN
      exact ⟨nI 1, t4, s4, e4, u4, nI w, u', N', row', o4, w4, v4, by rw [c1, bd_sm, if_neg n10, g1], by rw [c2, bd_sm, g2], hT4, g3, g4, g5, g6, Or.inr ⟨rfl, by omega⟩⟩
end IT
