/-! the calls: feed, sheet, write, lays, stair, read -/
section O9
variable {mu tr ke : MtS} {row r0 fi fnd : Nat → Int32} {N : Nat → Nat} {z : Int32} {sh : Nat → ShS} {bits size : Nat → Int32} {shts : Nat → Int64}
theorem n10 : ¬ nI 1 = nI 0 := by decide
theorem feed_l (x : Int32) : ∀ n k (tby tape : Nat → Int32) (L : Nat), k ≤ 4 → k < n → L + k ≤ 120 → (∀ j, j < L → tby j = tape j ∧ ∃ b, b < 256 ∧ tape j = nI b) → ∃ r tby' tlen' tape', f_X9_feed_b39 n tby (nI L) fi x (nI k - nI 1) = some (r, tby', tlen', fi) ∧ f_X10_feed_b38 n fnd tape (nI L) x (nI k - nI 1) = some (r, fnd, tape', tlen') ∧ RT tby' tape' tlen' tlen'
  | 0, k, tby, tape, L, h1, h2, h3, h4 => by omega
  | n + 1, 0, tby, tape, L, h1, h2, h3, h4 => by
    rw [q_X9_feed_b39, q_X10_feed_b38]
    exact ⟨nI L, tby, nI L, tape, by rw [if_pos (by decide)], by rw [if_pos (by decide)], L, by omega, rfl, rfl, h4⟩
  | n + 1, k + 1, tby, tape, L, h1, h2, h3, h4 => by
    rw [pk_sub (by omega), Nat.add_sub_cancel, q_X9_feed_b39, q_X10_feed_b38, if_neg (nI_nlt (Nat.zero_le _) (by omega)), if_neg (nI_nlt (Nat.zero_le _) (by omega)), q_X8_append, if_neg (nI_ge (by omega) (by decide)), gx_n (by omega) (by decide), gx_n (by omega) (by decide), bd_sm, nI_clamp (by omega), nI_add, pk_mul, byte_sh x (s := 8 * k) (by omega), nI_m1]
    obtain ⟨b, hb, e⟩ := byte_of (x >>> (nI (8 * k) &&& 31))
    rw [e]
    refine feed_l x n k (upd tby L (nI b)) (upd tape L (nI b)) (L + 1) (by omega) (by omega) (by omega) fun j hj => ?_
    by_cases c : j = L
    · subst c; rw [pk_us, pk_us]; exact ⟨rfl, b, hb, rfl⟩
    · rw [pk_un c, pk_un c]; exact h4 j (by omega)
theorem op_feed (hF : RF fi fnd) {tby tape : Nat → Int32} {tlen tmany : Int32} (hT : RT tby tape tlen tmany) (a0 a1 : Int32) : ∃ r tby' tlen' fi' fnd' tape' tmany', f_X9_feed tby tlen fi a0 a1 = some (r, tby', tlen', fi') ∧ f_X10_feed fnd tape tmany a0 a1 = some (r, fnd', tape', tmany') ∧ RT tby' tape' tlen' tmany' ∧ RF fi' fnd' := by
  obtain ⟨L, h1, rfl, rfl, h4⟩ := id hT
  rw [q_X9_feed, q_X10_feed]
  rcases win a1 1 4 (by decide) (by decide) with ⟨w1, w2⟩ | ⟨k, hk1, hk2, rfl, w1, w2⟩
  · obtain ⟨fi', fnd', e1, e2, hF'⟩ := find0 hF
    exact ⟨-1000000001, tby, nI L, fi', fnd', tape, nI L, by rw [w2, bd_sm, if_pos rfl, e1, bd_sm], by rw [w1, bd_sm, if_pos rfl, e2, bd_sm], hT, hF'⟩
  · rw [w1, w2, bd_sm, bd_sm, if_neg n10, if_neg n10, nI_add]
    by_cases c : L + k ≤ 120
    · obtain ⟨r, tby', tlen', tape', q1, q2, q3⟩ := feed_l (fi := fi) (fnd := fnd) a0 1000 k tby tape L (by omega) (by omega) c h4
      exact ⟨r, tby', tlen', fi, fnd, tape', tlen', by rw [if_pos (nI_le c (by decide)), q1], by rw [if_pos (nI_le c (by decide)), q2], q3, hF⟩
    · obtain ⟨fi', fnd', e1, e2, hF'⟩ := find1 hF
      exact ⟨-1000000002, tby, nI L, fi', fnd', tape, nI L, by rw [if_neg (nI_ge (by omega) (by omega)), e1, bd_sm], by rw [if_neg (nI_ge (by omega) (by omega)), e2, bd_sm], hT, hF'⟩
theorem gk_c {α : Type} {s : Nat} {k : Option α} (h : s < 4) : gk (nI s).toNatClampNeg 4 k = k := by rw [nI_clamp (by omega)]; exact gk_n h
theorem ul_s {f : Nat → Int64} {i : Nat} {x : Int64} : vp_updL f i x i = x := if_pos rfl
theorem ul_n {f : Nat → Int64} {i j : Nat} {x : Int64} (h : j ≠ i) : vp_updL f i x j = f j := if_neg h
theorem su_s {sh : Nat → ShS} {k : Nat} {v : ShS} : sh_up sh k v k = v := if_pos rfl
theorem su_n {sh : Nat → ShS} {k j : Nat} {v : ShS} (h : j ≠ k) : sh_up sh k v j = sh j := if_neg h
theorem holds1 {n k : Nat} (hn : n ≤ 40) (hk : k < 1000) : f_X7_holds (nI n) (nI k) (nI 1) = some (if k < n then nI 1 else nI 0) := by
  rw [q_X7_holds, if_neg (nI_nlt (Nat.zero_le _) (by omega)), if_neg (by decide)]
  by_cases c : n = 0
  · subst c; rw [if_pos (by decide), if_neg (by omega)]
  · rw [if_neg (nI_nlt (by omega) (by omega)), pk_sub (by omega)]
    by_cases g : k < n
    · rw [if_neg (nI_nlt (by omega) (by omega)), if_pos g]
    · rw [if_pos (nI_lt (by omega) (by omega)), if_neg g]
theorem RB0 {b : Int32} (h : ¬ b = nI 0) : f_X7_isMissing b = some (nI 0) := by rw [q_X7_isMissing, if_neg h]
theorem RB1 {b : Int32} (h : b = nI 0) : f_X7_isMissing b = some (nI 1) := by rw [q_X7_isMissing, if_pos h]
/-- one number of one sheet changes -/
theorem RH_put (hH : RH sh bits size shts) {s k : Nat} (hs : s < 4) (hk : k < 40) (v : Int64) : RH (sh_up sh s (vp_updL (sh s).1 k v, (sh s).2.1, (sh s).2.2)) bits size (vp_updL shts (40 * s + k) v) := by
  intro t ht
  obtain ⟨a1, a2, a3, a4, a5⟩ := hH t ht
  by_cases c : t = s
  · subst c
    rw [su_s]
    refine ⟨a1, a2, a3, a4, fun j hj => ?_⟩
    by_cases e : j = k
    · subst e; rw [ul_s]; exact ul_s
    · rw [ul_n (by omega)]; exact (ul_n e).trans (a5 j hj)
  · rw [su_n c]
    exact ⟨a1, a2, a3, a4, fun j hj => by rw [ul_n (by omega)]; exact a5 j hj⟩
theorem op_write (hF : RF fi fnd) (hH : RH sh bits size shts) (a0 a1 : Int32) (a2 : Int64) : ∃ r sh' fi' fnd' shts', f_X9_write sh fi a0 a1 a2 = some (r, sh', fi') ∧ f_X10_write fnd bits size shts a0 a1 a2 = some (r, fnd', shts') ∧ RH sh' bits size shts' ∧ RF fi' fnd' := by
  rw [q_X9_write, q_X10_write]
  rcases wsheet a0 with ⟨p1, p2⟩ | ⟨s, hs, rfl, p1, p2⟩
  · obtain ⟨fi', fnd', e1, e2, hF'⟩ := find0 hF
    exact ⟨(-1000000001 : Int32).toInt64, sh, fi', fnd', shts, by rw [p2, bd_sm, if_pos rfl, e1, bd_sm], by rw [p1, bd_sm, if_pos rfl, e2, bd_sm], hH, hF'⟩
  · obtain ⟨b1, b2, ⟨n, hn, b3⟩, b4, b5⟩ := hH s hs
    rw [p1, p2, bd_sm, bd_sm, if_neg (by decide), if_neg (by decide), gx_n hs (by decide), gx_n hs (by decide), gk_c hs, show (nI s).toNatClampNeg = s from nI_clamp (by omega), b1]
    by_cases c : bits s = nI 0
    · obtain ⟨fi', fnd', e1, e2, hF'⟩ := find5 hF
      exact ⟨(-1000000006 : Int32).toInt64, sh, fi', fnd', shts, by rw [RB1 c, bd_sm, if_neg (by decide), e1, bd_sm], by rw [if_pos c, e2, bd_sm], hH, hF'⟩
    · rw [RB0 c, bd_sm, if_pos rfl, if_neg c, gk_n hs, gx_n hs (by decide), b4, b3]
      rcases pk_ix a1 (n := n) (by omega) with h | h | ⟨j, hj, rfl⟩
      · obtain ⟨fi', fnd', e1, e2, hF'⟩ := find0 hF
        have h' : a1 < nI 0 := h
        exact ⟨(-1000000001 : Int32).toInt64, sh, fi', fnd', shts, by rw [q_X7_holds, if_pos h', bd_sm, if_pos rfl, e1, bd_sm], by rw [q_X10_in, if_pos h', bd_sm, if_pos rfl, e2, bd_sm], hH, hF'⟩
      · obtain ⟨fi', fnd', e1, e2, hF'⟩ := find0 hF
        have hz : (0 : Int32).toInt = 0 := by decide
        have h0 : ¬ a1 < nI 0 := by
          intro q
          rw [fa_le, nI_toInt (by omega)] at h
          rw [fa_lt, nI_toInt (by decide)] at q
          omega
        obtain ⟨j, hj, rfl⟩ := nI_of h0
        have hnj : n ≤ j := by rw [fa_le, nI_toInt (by omega), nI_toInt hj] at h; omega
        refine ⟨(-1000000001 : Int32).toInt64, sh, fi', fnd', shts, ?_, ?_, hH, hF'⟩
        · rw [q_X7_holds, if_neg h0, if_neg (by decide)]
          by_cases g : n = 0
          · rw [g, if_pos (by decide), bd_sm, if_pos rfl, e1, bd_sm]
          · rw [if_neg (nI_nlt (by omega) (by omega)), pk_sub (by omega), if_pos (nI_lt (by omega) (by omega)), bd_sm, if_pos rfl, e1, bd_sm]
        · have h1 : nI n - nI 1 < nI j := by rw [fa_lt, pk_sub_toInt (by omega) (by decide), nI_toInt hj]; omega
          rw [q_X10_in, if_neg h0, if_pos h1, bd_sm, if_pos rfl, e2, bd_sm]
      · rw [holds1 hn (by omega), if_pos hj, bd_sm, if_neg (by decide), gk_n hs, gk_n hs, gk_n hs, gx_n (show j < 40 by omega) (by decide), q_X10_in, if_neg (nI_nlt (Nat.zero_le _) (by omega)), pk_sub (by omega), if_neg (nI_nlt (by omega) (by omega)), bd_sm, if_neg (by decide), pk_mul, nI_add, gx_n (show 40 * s + j < 160 by omega) (by decide), gx_n hs (by decide), q_X7_put, holds1 hn (by omega), if_pos hj, bd_sm, if_neg (by decide), low_eq]
        have hx : ∃ v, f_X10_narrow (bits s) a2 = some v := by
          rw [q_X10_narrow]
          split
          · exact ⟨_, rfl⟩
          · split
            · exact ⟨_, rfl⟩
            · exact ⟨_, rfl⟩
        obtain ⟨v, hv⟩ := hx
        rw [hv, bd_sm, bd_sm, gx_n (show j < 40 by omega) (by decide), bd_sm, gx_n (show 40 * s + j < 160 by omega) (by decide), nI_clamp (show j < 2 ^ 31 by omega), nI_clamp (show 40 * s + j < 2 ^ 31 by omega), b5 j (by omega)]
        have hp := RH_put hH hs (show j < 40 by omega) v
        rw [b1, b4, b3] at hp
        exact ⟨_, _, fi, fnd, _, rfl, rfl, hp, hF⟩
/-- both speak of a sheet that is there -/
theorem lays_l (hH : RH sh bits size shts) {s n0 : Nat} (hs : s < 4) (hn : n0 ≤ 40) (hz : size s = nI n0) : ∀ n i (x : Int32) (N : Nat → Nat) (mu : MtS) (row : Nat → Int32), i ≤ 40 → 40 < i + n → CR mu N z → MR 0 r0 row N z → BN N → N 0 ≤ 9999 → ∃ r mu' row', f_X9_lays_b38 sh n mu fi s x (nI i) = some (r, mu', fi) ∧ f_X10_lays_b35 bits size shts n row fnd (nI s) x (nI i) = some (r, row', fnd) ∧ RA mu' row'
  | 0, i, x, N, mu, row, h1, h2, hC, hM, hb, hy => by omega
  | n + 1, i, x, N, mu, row, h1, h2, hC, hM, hb, hy => by
    obtain ⟨b1, b2, b3, b4, b5⟩ := hH s hs
    rw [q_X9_lays_b38, q_X10_lays_b35]
    by_cases c : i = 40
    · subst c
      exact ⟨x, mu, row, by rw [if_pos (by decide)], by rw [if_pos (by decide)], RA_of hC hM hb hy⟩
    · have hi : i < 40 := by omega
      rw [if_neg (nI_ge hi (by decide)), if_neg (nI_ge hi (by decide)), gk_n hs, gx_n hs (by decide), b4, show (nI s).toNatClampNeg = s from nI_clamp (by omega), hz, holds1 hn (by omega), bd_sm]
      by_cases g : i < n0
      · rw [if_pos g, if_neg n10, if_neg (nI_ge g (by omega)), gk_n hs, gk_n hs, gx_n hi (by decide), pk_mul, nI_add, gx_n (show 40 * s + i < 160 by omega) (by decide), show (nI i).toNatClampNeg = i from nI_clamp (by omega), show (nI (40 * s + i)).toNatClampNeg = 40 * s + i from nI_clamp (by omega), b5 i hi]
        generalize hv : shts (40 * s + i) = v
        by_cases g1 : lg_cmp v (lN 1) < nI 0
        · rw [if_pos g1, if_pos g1, q_X9_lays_b96, q_X10_lays_b94, nI_add]
          exact lays_l hH hs hn hz n (i + 1) x N mu row (by omega) (by omega) hC hM hb hy
        · rw [if_neg g1, if_neg g1]
          by_cases g2 : nI 0 < lg_cmp v (lN 9)
          · rw [if_pos g2, if_pos g2, q_X9_lays_b96, q_X10_lays_b94, nI_add]
            exact lays_l hH hs hn hz n (i + 1) x N mu row (by omega) (by omega) hC hM hb hy
          · have hlo : ¬ v < lN 1 := fun q => g1 ((lg_cmp_lt v (lN 1)).mpr q)
            have hhi : ¬ lN 9 < v := fun q => g2 ((lg_cmp_gt v (lN 9)).mpr q)
            obtain ⟨w, hw1, hw9, hw⟩ : ∃ w, 1 ≤ w ∧ w ≤ 9 ∧ v.toInt32 = nI w := by
              rw [fa_lt64] at hlo hhi
              have e1 : (lN 1).toInt = 1 := by decide
              have e9 : (lN 9).toInt = 9 := by decide
              rw [e1] at hlo
              rw [e9] at hhi
              have hv : v = lN v.toInt.toNat := by
                rw [fa_eq64]
                have : v.toInt = 1 ∨ v.toInt = 2 ∨ v.toInt = 3 ∨ v.toInt = 4 ∨ v.toInt = 5 ∨ v.toInt = 6 ∨ v.toInt = 7 ∨ v.toInt = 8 ∨ v.toInt = 9 := by omega
                rcases this with h | h | h | h | h | h | h | h | h <;> rw [h] <;> decide
              refine ⟨v.toInt.toNat, by omega, by omega, ?_⟩
              have : v.toInt = 1 ∨ v.toInt = 2 ∨ v.toInt = 3 ∨ v.toInt = 4 ∨ v.toInt = 5 ∨ v.toInt = 6 ∨ v.toInt = 7 ∨ v.toInt = 8 ∨ v.toInt = 9 := by omega
              rcases this with h | h | h | h | h | h | h | h | h <;> rw [h] at hv ⊢ <;> rw [hv] <;> decide
            have hM' := hM.p0 (k := 5 + i) (v := w) (by omega) (by omega) (Or.inr (by omega))
            rw [if_neg g2, if_neg g2, gx_n hi (by decide), nI_add 5 i, gx_n (show 5 + i < 510 by omega) (by decide), hw, q_X9_lays_b96, q_X10_lays_b94, nI_add i 1, show (nI (5 + i)).toNatClampNeg = 5 + i from nI_clamp (by omega)]
            exact lays_l hH hs hn hz n (i + 1) _ _ _ _ (by omega) (by omega) (CR_rk hC hi) hM' (BN_rk hb hi hw1 hw9) (by rw [nu_n (by omega)]; exact hy)
      · rw [if_neg g, if_pos rfl, if_pos (nI_le (by omega) (by omega))]
        exact ⟨x, mu, row, rfl, rfl, RA_of hC hM hb hy⟩
theorem op_lays (h : RA mu row) (hF : RF fi fnd) (hH : RH sh bits size shts) (a0 : Int32) : ∃ r mu' fi' row' fnd', f_X9_lays mu sh fi a0 = some (r, mu', fi') ∧ f_X10_lays row fnd bits size shts a0 = some (r, row', fnd') ∧ RA mu' row' ∧ RF fi' fnd' := by
  obtain ⟨N, z, hC, hM, hb, hy⟩ := id h
  rw [q_X9_lays, q_X10_lays]
  rcases wsheet a0 with ⟨p1, p2⟩ | ⟨s, hs, rfl, p1, p2⟩
  · obtain ⟨fi', fnd', e1, e2, hF'⟩ := find0 hF
    exact ⟨-1000000001, mu, fi', row, fnd', by rw [p2, bd_sm, if_pos rfl, e1, bd_sm], by rw [p1, bd_sm, if_pos rfl, e2, bd_sm], h, hF'⟩
  · obtain ⟨b1, b2, ⟨n, hn, b3⟩, b4, b5⟩ := hH s hs
    rw [p1, p2, bd_sm, bd_sm, if_neg n10, if_neg n10, gx_n hs (by decide), gx_n hs (by decide), gk_c hs, show (nI s).toNatClampNeg = s from nI_clamp (by omega), b1]
    by_cases c : bits s = nI 0
    · obtain ⟨fi', fnd', e1, e2, hF'⟩ := find5 hF
      exact ⟨-1000000006, mu, fi', row, fnd', by rw [RB1 c, bd_sm, if_neg n10, e1, bd_sm], by rw [if_pos c, e2, bd_sm], h, hF'⟩
    · rw [RB0 c, bd_sm, if_pos rfl, if_neg c]
      obtain ⟨r, mu', row', q1, q2, q3⟩ := lays_l (fi := fi) (fnd := fnd) hH hs hn b3 1000 0 (nI 0) N mu row (by decide) (by decide) hC hM hb hy
      exact ⟨r, mu', fi, row', fnd, q1, q2, q3, hF⟩
end O9
