/-! the calls: set, placeOf, whole, make, reach, faults, seed, now, years -/
section O3
variable {mu : MtS} {row fi fnd : Nat → Int32} {N : Nat → Nat} {z : Int32}
theorem win0 {x : Int32} {lo hi : Nat} (h : f_X10_in x (nI lo) (nI hi) = some (nI 0)) {j : Nat} (h1 : lo ≤ j) (h2 : j ≤ hi) (h3 : hi < 1000) : ¬ x = nI j := by
  rintro rfl
  rw [q_X10_in, if_neg (nI_nlt h1 (by omega)), if_neg (nI_nlt h2 (by omega))] at h
  exact absurd (Option.some.inj h) (by decide)
theorem op_set (h : RA mu row) (hF : RF fi fnd) (a0 a1 a2 : Int32) : ∃ r mu' fi' row' fnd', f_X9_set mu fi a0 a1 a2 = some (r, mu', fi') ∧ f_X10_set row (nI 0) fnd a0 a1 a2 = some (r, row', fnd') ∧ RA mu' row' ∧ RF fi' fnd' := by
  obtain ⟨N, z, hC, hM, hb, hy⟩ := id h
  obtain ⟨fi', fnd', e1, e2, hF'⟩ := find0 hF
  rcases wfine hC hM hb a0 with ⟨p1, p2⟩ | ⟨f, hf, hf10, rfl, p1, p2⟩
  · refine ⟨-1000000001, mu, fi', row, fnd', ?_, ?_, h, hF'⟩
    · rw [q_X9_set, p2, bd_sm, if_pos rfl, e1, bd_sm]
    · rw [q_X10_set, p1, bd_sm, if_pos rfl, q_X10_set_b16, e2, bd_sm]
  · obtain ⟨g0, g1, g2, g3, g4⟩ := hC.fin hf
    have hx : f_X10_isPart a1 a2 = some (nI 0) → f_X10_set row (nI 0) fnd (nI f) a1 a2 = some (-1000000001, row, fnd') := by
      intro hp
      rw [q_X10_set, p1, bd_sm, if_neg (by decide), hp, bd_sm, if_pos rfl, q_X10_set_b16, e2, bd_sm]
    have hc : f_X9_set_b130 mu fi = some (-1000000001, mu, fi') := by rw [q_X9_set_b130, e1, bd_sm]
    by_cases c1 : a1 = nI 1
    · subst c1
      rcases win a2 0 40 (by decide) (by decide) with ⟨w1, w2⟩ | ⟨v, -, hv, rfl, w1, w2⟩
      · refine ⟨-1000000001, mu, fi', row, fnd', ?_, hx (by rw [q_X10_isPart, if_pos rfl, w1, bd_sm, gb_n0]), h, hF'⟩
        rw [q_X9_set, p2, bd_sm, if_neg (by decide), if_pos rfl, w2, bd_sm, if_pos rfl, q_X9_set_b56, if_neg (by decide), q_X9_set_b91, if_neg (by decide), hc]
      · refine ⟨nI (fld N f 1), _, fi, _, fnd, ?_, ?_, RA_of (CR_f1 hC (f := f) (v := v)) (hM.pf hf10 (w := 1) (by decide) (v := v) (by omega)) (BN_fld hb hf10 (by decide) (by omega) (fun _ => by omega) (by omega) (by omega) (by omega)) (by rw [nu_n (by omega)]; exact hy), hF⟩
        · rw [q_X9_set, p2, bd_sm, if_neg (by decide), if_pos rfl, w2, bd_sm, if_neg (by decide), gx_n hf10 (by decide), gx_n hf10 (by decide), nI_clamp (by omega), g1]
        · rw [q_X10_set, p1, bd_sm, if_neg (by decide), q_X10_isPart, if_pos rfl, w1, bd_sm, gb_n1, bd_sm, if_neg (by decide), m_fineOf hM (by decide) hf10 (by decide), bd_sm, m_sets (by decide) hf10 (by decide), bd_sm, if_neg (by decide)]
    · by_cases c2 : a1 = nI 2
      · subst c2
        rcases wplace a2 with ⟨w1, w2⟩ | ⟨v, hv, rfl, w1, w2⟩
        · refine ⟨-1000000001, mu, fi', row, fnd', ?_, hx (by rw [q_X10_isPart, if_neg (by decide), if_pos rfl, w1, bd_sm, gb_n0]), h, hF'⟩
          rw [q_X9_set, p2, bd_sm, if_neg (by decide), if_neg (by decide), q_X9_set_b56, if_pos rfl, w2, bd_sm, if_pos rfl, q_X9_set_b91, if_neg (by decide), hc]
        · obtain ⟨u', m1, m2⟩ := c_move hC hb (a := v) hf
          have hM1 := hM.pf hf10 (w := 2) (by decide) (v := v) (by omega)
          have hM2 := hM1.pf hf10 (w := 4) (by decide) (v := 0) (by omega)
          have hb1 := BN_fld hb hf10 (w := 2) (v := v) (by decide) (by omega) (by omega) (fun _ => by omega) (by omega) (by omega)
          have hb2 := BN_fld hb1 hf10 (w := 4) (v := 0) (by decide) (by omega) (by omega) (by omega) (by omega) (fun _ => by omega)
          refine ⟨nI (fld N f 2), _, fi, _, fnd, ?_, ?_, RA_of m2 hM2 hb2 (by rw [nu_n (by omega), nu_n (by omega)]; exact hy), hF⟩
          · rw [q_X9_set, p2, bd_sm, if_neg (by decide), if_neg (by decide), q_X9_set_b56, if_pos rfl, w2, bd_sm, if_neg (by decide), gx_n hf10 (by decide), m1, bd_sm, nI_clamp (by omega), g2]
          · rw [q_X10_set, p1, bd_sm, if_neg (by decide), q_X10_isPart, if_neg (by decide), if_pos rfl, w1, bd_sm, gb_n1, bd_sm, if_neg (by decide), m_fineOf hM (by decide) hf10 (by decide), bd_sm, m_sets (by decide) hf10 (by decide), bd_sm, if_pos rfl, m_sets (by decide) hf10 (by decide), bd_sm]
      · by_cases c3 : a1 = nI 3
        · subst c3
          rcases win a2 1 9 (by decide) (by decide) with ⟨w1, w2⟩ | ⟨v, hv1, hv, rfl, w1, w2⟩
          · refine ⟨-1000000001, mu, fi', row, fnd', ?_, hx (by rw [q_X10_isPart, if_neg (by decide), if_neg (by decide), if_pos rfl, w1, bd_sm, if_pos rfl]), h, hF'⟩
            rw [q_X9_set, p2, bd_sm, if_neg (by decide), if_neg (by decide), q_X9_set_b56, if_neg (by decide), q_X9_set_b91, if_pos rfl, w2, bd_sm, if_pos rfl, hc]
          · refine ⟨nI (fld N f 3), _, fi, _, fnd, ?_, ?_, RA_of (CR_f3 hC (f := f) (v := v)) (hM.pf hf10 (w := 3) (by decide) (v := v) (by omega)) (BN_fld hb hf10 (by decide) (by omega) (by omega) (by omega) (fun _ => by omega) (by omega)) (by rw [nu_n (by omega)]; exact hy), hF⟩
            · rw [q_X9_set, p2, bd_sm, if_neg (by decide), if_neg (by decide), q_X9_set_b56, if_neg (by decide), q_X9_set_b91, if_pos rfl, w2, bd_sm, if_neg (by decide), gx_n hf10 (by decide), gx_n hf10 (by decide), nI_clamp (by omega), g3]
            · rw [q_X10_set, p1, bd_sm, if_neg (by decide), q_X10_isPart, if_neg (by decide), if_neg (by decide), if_pos rfl, w1, bd_sm, if_neg (by decide), bd_sm, if_neg (by decide), m_fineOf hM (by decide) hf10 (by decide), bd_sm, m_sets (by decide) hf10 (by decide), bd_sm, if_neg (by decide)]
        · refine ⟨-1000000001, mu, fi', row, fnd', ?_, hx (by rw [q_X10_isPart, if_neg c1, if_neg c2, if_neg c3]), h, hF'⟩
          rw [q_X9_set, p2, bd_sm, if_neg (by decide), if_neg c1, q_X9_set_b56, if_neg c2, q_X9_set_b91, if_neg c3, hc]
theorem m_plc (hM : MR 0 row row N z) {p k : Nat} (hp : p < 40) (hk : k ≤ 4) : f_X10_placeOf_b43 row (nI 0) fnd (nI p) (nI k) = some (nI (N (5 + 40 * k + p)), fnd) := by
  rw [q_X10_placeOf_b43, pk_mul, nI_add, nI_add, gx_n (by omega) (by decide), nI_clamp (by omega), hM.g0 (by omega) (by omega)]
theorem op_placeOf (h : RA mu row) (hF : RF fi fnd) (a0 a1 : Int32) : ∃ r fi' fnd', f_X9_placeOf mu fi a0 a1 = some (r, fi') ∧ f_X10_placeOf row (nI 0) fnd a0 a1 = some (r, fnd') ∧ RF fi' fnd' := by
  obtain ⟨N, z, hC, hM, hb, hy⟩ := id h
  obtain ⟨fi', fnd', e1, e2, hF'⟩ := find0 hF
  rcases wplace a0 with ⟨p1, p2⟩ | ⟨p, hp, rfl, p1, p2⟩
  · refine ⟨-1000000001, fi', fnd', ?_, ?_, hF'⟩
    · rw [q_X9_placeOf, p2, bd_sm, if_pos rfl, q_X9_placeOf_b16, e1, bd_sm]
    · rw [q_X10_placeOf, p1, bd_sm, if_pos rfl, q_X10_placeOf_b16, e2, bd_sm]
  · rcases win a1 0 4 (by decide) (by decide) with ⟨w1, w2⟩ | ⟨k, -, hk, rfl, w1, w2⟩
    · refine ⟨-1000000001, fi', fnd', ?_, ?_, hF'⟩
      · rw [q_X9_placeOf, p2, bd_sm, if_neg (by decide), w2, bd_sm, if_pos rfl, q_X9_placeOf_b16, e1, bd_sm]
      · rw [q_X10_placeOf, p1, bd_sm, if_neg (by decide), w1, bd_sm, if_pos rfl, q_X10_placeOf_b16, e2, bd_sm]
    · have hm := m_plc (fnd := fnd) hM hp hk
      obtain ⟨a1', a2', a3', a4', a5'⟩ := hb.2.2.2.1 p hp
      by_cases c0 : k = 0
      · subst c0
        refine ⟨nI (N (5 + p)), fi, fnd, ?_, ?_, hF⟩
        · rw [q_X9_placeOf, p2, bd_sm, if_neg (by decide), w2, bd_sm, if_neg (by decide), if_pos rfl, gx_n hp (by decide), nI_clamp (by omega), hC.rk hp]
        · rw [q_X10_placeOf, p1, bd_sm, if_neg (by decide), w1, bd_sm, if_neg (by decide), if_pos (by decide), hm]
      · by_cases c1 : k = 1
        · subst c1
          refine ⟨nI (N (45 + p)), fi, fnd, ?_, ?_, hF⟩
          · rw [q_X9_placeOf, p2, bd_sm, if_neg (by decide), w2, bd_sm, if_neg (by decide), if_neg (by decide), if_pos rfl, c_isWhole hC hp, bd_sm]
            by_cases e : N (45 + p) = 1
            · rw [if_neg (fun q => m_whole0.mp q e), e]
            · rw [if_pos (m_whole0.mpr e), show N (45 + p) = 0 by omega]
          · rw [q_X10_placeOf, p1, bd_sm, if_neg (by decide), w1, bd_sm, if_neg (by decide), if_pos (by decide), hm]
        · have hle : ¬ nI k ≤ nI 1 := nI_ge (by omega) (by omega)
          by_cases e : N (45 + p) = 1
          · obtain ⟨s1, s2, s3⟩ := hC.2.2.2.2.2.2.1 p hp e
            refine ⟨nI (N (5 + 40 * k + p)), fi, fnd, ?_, ?_, hF⟩
            · rw [q_X9_placeOf, p2, bd_sm, if_neg (by decide), w2, bd_sm, if_neg (by decide), if_neg (nsel c0 (by omega) (by decide)), if_neg (nsel c1 (by omega) (by decide)), c_isWhole hC hp, bd_sm, if_neg (fun q => m_whole0.mp q e)]
              rcases (show k = 2 ∨ k = 3 ∨ k = 4 by omega) with rfl | rfl | rfl
              · rw [if_pos rfl, gx_n hp (by decide), nI_clamp (by omega), s1]
              · rw [if_neg (by decide), if_pos rfl, gx_n hp (by decide), nI_clamp (by omega), s2]
              · rw [if_neg (by decide), if_neg (by decide), gx_n hp (by decide), nI_clamp (by omega), s3]
            · rw [q_X10_placeOf, p1, bd_sm, if_neg (by decide), w1, bd_sm, if_neg (by decide), if_neg hle, m_isWhole hM (by decide) hp, bd_sm, if_neg (fun q => m_whole0.mp q e), hm]
          · obtain ⟨fi', fnd', e1, e2, hF'⟩ := find4 hF
            refine ⟨-1000000005, fi', fnd', ?_, ?_, hF'⟩
            · rw [q_X9_placeOf, p2, bd_sm, if_neg (by decide), w2, bd_sm, if_neg (by decide), if_neg (nsel c0 (by omega) (by decide)), if_neg (nsel c1 (by omega) (by decide)), c_isWhole hC hp, bd_sm, if_pos (m_whole0.mpr e), e1, bd_sm]
            · rw [q_X10_placeOf, p1, bd_sm, if_neg (by decide), w1, bd_sm, if_neg (by decide), if_neg hle, m_isWhole hM (by decide) hp, bd_sm, if_pos (m_whole0.mpr e), e2, bd_sm]
theorem op_make (h : RA mu row) (hF : RF fi fnd) (a0 a1 a2 : Int32) (h01 : a1 = nI 0 ∨ a1 = nI 1) : ∃ r mu' fi' row' fnd', f_X9_make mu fi a0 a1 a2 = some (r, mu', fi') ∧ f_X10_make row (nI 0) fnd a0 a1 a2 = some (r, row', fnd') ∧ RA mu' row' ∧ RF fi' fnd' := by
  obtain ⟨N, z, hC, hM, hb, hy⟩ := id h
  obtain ⟨fi', fnd', e1, e2, hF'⟩ := find0 hF
  rcases wplace a0 with ⟨p1, p2⟩ | ⟨p, hp, rfl, p1, p2⟩
  · refine ⟨-1000000001, mu, fi', row, fnd', ?_, ?_, h, hF'⟩
    · rw [q_X9_make, p2, bd_sm, if_pos rfl, q_X9_make_b18, e1, bd_sm]
    · rw [q_X10_make, p1, bd_sm, if_pos rfl, q_X10_make_b15, e2, bd_sm]
  · rcases wfine hC hM hb a2 with ⟨w1, w2⟩ | ⟨f, hf, hf10, rfl, w1, w2⟩
    · refine ⟨-1000000001, mu, fi', row, fnd', ?_, ?_, h, hF'⟩
      · rw [q_X9_make, p2, bd_sm, if_neg (by decide), w2, bd_sm, if_pos rfl, q_X9_make_b18, e1, bd_sm]
      · rw [q_X10_make, p1, bd_sm, if_neg (by decide), w1, bd_sm, if_pos rfl, q_X10_make_b15, e2, bd_sm]
    · have hc : f_X9_make mu fi (nI p) a1 (nI f) = if (if N (45 + p) = 1 then nI 1 else nI 0) = a1 then some (nI 0, mu, fi) else if a1 = nI 0 then bd (f_X4_breakUp mu (nI p)) (fun r8 => some (nI 1, r8, fi)) else bd (f_X4_cut mu (nI p) (nI 10) (nI f)) (fun r9 => some (nI 1, r9, fi)) := by
        rw [q_X9_make, p2, bd_sm, if_neg (by decide), w2, bd_sm, if_neg (by decide), c_isWhole hC hp, bd_sm]
      have hx : f_X10_make row (nI 0) fnd (nI p) a1 (nI f) = if (if N (45 + p) = 1 then nI 1 else nI 0) = a1 then some (nI 0, row, fnd) else if a1 = nI 0 then bd (f_X10_breaks row (nI 0) (nI p)) (fun r8 => some (nI 1, r8, fnd)) else bd (f_X10_cuts row (nI 0) (nI p) (nI 10) (nI f)) (fun r9 => some (nI 1, r9, fnd)) := by
        rw [q_X10_make, p1, bd_sm, if_neg (by decide), w1, bd_sm, if_neg (by decide), m_isWhole hM (by decide) hp, bd_sm]
      rw [hc, hx]
      by_cases c : (if N (45 + p) = 1 then nI 1 else nI 0) = a1
      · exact ⟨nI 0, mu, fi, row, fnd, by rw [if_pos c], by rw [if_pos c], h, hF⟩
      · rw [if_neg c, if_neg c]
        rcases h01 with rfl | rfl
        · obtain ⟨u', k1, k2⟩ := c_break hC hp
          obtain ⟨r', l1, l2⟩ := m_breaks hM (by decide) hp
          have hb' : BN (brkS N p) := ⟨Nat.le_trans brk_le hb.1, Nat.le_trans brk_le hb.2.1, Nat.le_trans brk_le hb.2.2.1, fun q hq => by
              obtain ⟨a1, a2, a3, a4, a5⟩ := hb.2.2.2.1 q hq
              rw [brk_out (k := 5 + q) hp (by omega)]
              exact ⟨a1, a2, Nat.le_trans brk_le a3, Nat.le_trans brk_le a4, Nat.le_trans brk_le a5⟩, fun g hg => by
              have := hb.2.2.2.2 g hg
              rw [show fld (brkS N p) g 0 = fld N g 0 from brk_out hp (by omega), show fld (brkS N p) g 1 = fld N g 1 from brk_out hp (by omega), show fld (brkS N p) g 2 = fld N g 2 from brk_out hp (by omega), show fld (brkS N p) g 3 = fld N g 3 from brk_out hp (by omega), show fld (brkS N p) g 4 = fld N g 4 from brk_out hp (by omega), brk_out (k := 4) hp (by omega)]
              exact this⟩
          refine ⟨nI 1, u', fi, r', fnd, ?_, ?_, RA_of k2 l2 hb' (by rw [brk_out hp (by omega)]; exact hy), hF⟩
          · rw [if_pos rfl, k1, bd_sm]
          · rw [if_pos rfl, l1, bd_sm]
        · obtain ⟨u', k1, k2⟩ := c_cut hC (hh := 10) (f := f) hp
          obtain ⟨r', l1, l2⟩ := m_cuts hM (by decide) (hh := 10) (f := f) hp (by decide) (by omega)
          have hb' : BN (cutS N p 10 f) := by
            refine ⟨by rw [cutS_out (by omega) (by omega) (by omega) (by omega)]; exact hb.1, by rw [cutS_out (by omega) (by omega) (by omega) (by omega)]; exact hb.2.1, by rw [cutS_out (by omega) (by omega) (by omega) (by omega)]; exact hb.2.2.1, fun q hq => ?_, fun g hg => ?_⟩
            · obtain ⟨a1, a2, a3, a4, a5⟩ := hb.2.2.2.1 q hq
              rw [cutS_out (k := 5 + q) (by omega) (by omega) (by omega) (by omega)]
              refine ⟨a1, a2, ?_⟩
              by_cases e : q = p
              · subst e
                unfold cutS
                rw [nu_n (k := 165 + q) (j := 45 + q) (by omega), nu_n (k := 125 + q) (j := 45 + q) (by omega), nu_n (k := 85 + q) (j := 45 + q) (by omega), nu_s, nu_n (k := 165 + q) (j := 85 + q) (by omega), nu_n (k := 125 + q) (j := 85 + q) (by omega), nu_s, nu_n (k := 165 + q) (j := 125 + q) (by omega), nu_s]
                omega
              · rw [cutS_out (by omega) (by omega) (by omega) (by omega), cutS_out (by omega) (by omega) (by omega) (by omega), cutS_out (by omega) (by omega) (by omega) (by omega)]
                exact ⟨a3, a4, a5⟩
            · rw [fld_cut hp, fld_cut hp, fld_cut hp, fld_cut hp, fld_cut hp, cutS_out (by omega) (by omega) (by omega) (by omega)]
              exact hb.2.2.2.2 g hg
          refine ⟨nI 1, u', fi, r', fnd, ?_, ?_, RA_of k2 l2 hb' (by rw [cutS_out (by omega) (by omega) (by omega) (by omega)]; exact hy), hF⟩
          · rw [if_neg (by decide), k1, bd_sm]
          · rw [if_neg (by decide), l1, bd_sm]
theorem or0 (x : Int64) : x ||| lN 0 = x := by
  rw [show lN 0 = (0 : Int64) from rfl]; simp
theorem mod_s (W p : Nat) : W % 2 ^ (p + 1) = 2 ^ p * (W.testBit p).toNat + W % 2 ^ p := by
  rw [Nat.mod_pow_succ, Nat.testBit_eq_decide_div_mod_eq, Nat.add_comm]
  rcases Nat.mod_two_eq_zero_or_one (W / 2 ^ p) with h | h <;> rw [h] <;> rfl
theorem m_wset_l {o : Nat} {r0 : Nat → Int32} (hM : MR o r0 row N z) (ho : o ≤ 255) {W : Nat} (hW : ∀ p, p < 40 → (W.testBit p = true ↔ N (45 + p) = 1)) : ∀ n p, p ≤ 40 → 40 < p + n → f_X10_wholeSet_b4 row (nI o) n (lN (W % 2 ^ p)) (nI p) = some (lN (W % 2 ^ 40))
  | 0, p, h1, h2 => by omega
  | n + 1, p, h1, h2 => by
    rw [q_X10_wholeSet_b4]
    rcases Nat.lt_or_ge p 40 with hp | hp
    · have ih := m_wset_l hM ho hW n (p + 1) (by omega) (by omega)
      rw [if_neg (nI_ge hp (by decide)), m_isWhole hM ho hp, bd_sm]
      rw [mod_s] at ih
      by_cases e : N (45 + p) = 1
      · rw [if_neg (fun q => m_whole0.mp q e), q_X10_wholeSet_b26, wb_shl 1 (by omega), nI_add, Nat.one_mul]
        rw [(hW p hp).mpr e, show (true.toNat) = 1 from rfl, ← fb_or_sumL 1 (Nat.mod_lt _ (Nat.two_pow_pos p)), Nat.mul_one] at ih
        rw [Int64.or_comm]; exact ih
      · have eb : W.testBit p = false := by
          cases hh : W.testBit p
          · rfl
          · exact absurd ((hW p hp).mp hh) e
        rw [if_pos (m_whole0.mpr e), q_X10_wholeSet_b26, or0, nI_add]
        rw [eb, show (false.toNat) = 0 from rfl, Nat.mul_zero, Nat.zero_add] at ih
        exact ih
    · have e : p = 40 := by omega
      subst e
      rw [if_pos (nI_le (Nat.le_refl _) (by decide))]
theorem m_wset {o : Nat} {r0 : Nat → Int32} (hM : MR o r0 row N z) (ho : o ≤ 255) (hC : CR mu N z) : f_X10_wholeSet row (nI o) = some mu.2 := by
  obtain ⟨W, h1, h2, h3⟩ := hC.2.2.2.2.2.2.2.2
  have := m_wset_l hM ho (W := W) (fun p hp => by rw [h3 p hp, decide_eq_true_iff]) 1000 0 (by decide) (by decide)
  rw [Nat.mod_eq_of_lt h2, Nat.pow_zero, Nat.mod_one] at this
  rw [q_X10_wholeSet, this, h1]
theorem op_whole (h : RA mu row) : ∃ r, f_X9_whole mu = some r ∧ f_X10_whole row (nI 0) = some r := by
  obtain ⟨N, z, hC, hM, hb, hy⟩ := id h
  exact ⟨mu.2, by rw [q_X9_whole], by rw [q_X10_whole, m_wset hM (by decide) hC, bd_sm]⟩
theorem op_reach (h : RA mu row) : ∃ r, f_X9_reach mu = some r ∧ f_X10_reach row (nI 0) = some r := by
  obtain ⟨N, z, hC, hM, hb, hy⟩ := id h
  exact ⟨nI (rch N), by rw [q_X9_reach, c_climb hC hb, bd_sm], by rw [q_X10_reach, m_reach hM (by decide), bd_sm]⟩
theorem c_pair (hC : CR mu N z) {p : Nat} (hp : p < 40) (h1 : 1 ≤ p) : f_X4_isPair mu (nI p) = some (if N (45 + p) = 1 ∧ N (45 + (p - 1)) = 1 then nI 1 else nI 0) := by
  rw [q_X4_isPair, c_isWhole hC hp, bd_sm]
  by_cases e : N (45 + p) = 1
  · rw [if_neg (fun q => m_whole0.mp q e), pk_sub h1, c_isWhole hC (by omega), bd_sm]
    by_cases e2 : N (45 + (p - 1)) = 1
    · rw [if_neg (fun q => m_whole0.mp q e2), if_pos ⟨e, e2⟩]
    · rw [if_pos (m_whole0.mpr e2), if_neg (fun q => e2 q.2)]
  · rw [if_pos (m_whole0.mpr e), if_neg (fun q => e q.1)]
theorem m_pair {o : Nat} {r0 : Nat → Int32} (hM : MR o r0 row N z) (ho : o ≤ 255) {p : Nat} (hp : p < 40) (h1 : 1 ≤ p) : f_X10_areBoth row (nI o) (nI p) = some (if N (45 + p) = 1 ∧ N (45 + (p - 1)) = 1 then nI 1 else nI 0) := by
  rw [q_X10_areBoth, m_isWhole hM ho hp, bd_sm]
  by_cases e : N (45 + p) = 1
  · rw [if_neg (fun q => m_whole0.mp q e), pk_sub h1, m_isWhole hM ho (by omega), bd_sm]
    by_cases e2 : N (45 + (p - 1)) = 1
    · rw [if_neg (fun q => m_whole0.mp q e2), if_pos ⟨e, e2⟩]
    · rw [if_pos (m_whole0.mpr e2), if_neg (fun q => e2 q.2)]
  · rw [if_pos (m_whole0.mpr e), if_neg (fun q => e q.1)]
theorem faults_l (hC : CR mu N z) (hM : MR 0 row row N z) (hb : BN N) : ∀ n p x, 1 ≤ p → p ≤ 40 → 40 < p + n → ∃ r, f_X9_faults_b4 mu n x (nI p) = some r ∧ f_X10_faults_b4 row (nI 0) n x (nI p) = some r
  | 0, p, x, h0, h1, h2 => by omega
  | n + 1, p, x, h0, h1, h2 => by
    rw [q_X9_faults_b4, q_X10_faults_b4]
    rcases Nat.lt_or_ge p 40 with hp | hp
    · rw [if_neg (nI_ge hp (by decide)), if_neg (nI_ge hp (by decide)), c_pair hC hp h0, m_pair hM (by decide) hp h0, bd_sm, bd_sm]
      by_cases e : N (45 + p) = 1 ∧ N (45 + (p - 1)) = 1
      · rw [if_neg (fun q => m_whole0.mp q e), if_neg (fun q => m_whole0.mp q e), hC.2.2.1, c_isMet hC hb hp h0 (by have := hb.2.1; omega) e.1 e.2, m_meets hM (by decide) hp h0, bd_sm, bd_sm]
        by_cases e2 : N (85 + p) ≤ N (85 + p - 1) + N 2 ∧ N (85 + p - 1) ≤ N (85 + p) + N 2
        · rw [if_neg (fun q => m_whole0.mp q e2), if_neg (fun q => m_whole0.mp q e2), q_X9_faults_b45, q_X10_faults_b33, q_X10_faults_b34, or0, nI_add]
          exact faults_l hC hM hb n (p + 1) x (by omega) (by omega) (by omega)
        · rw [if_pos (m_whole0.mpr e2), if_pos (m_whole0.mpr e2), q_X9_faults_b45, q_X10_faults_b34, nI_add]
          exact faults_l hC hM hb n (p + 1) _ (by omega) (by omega) (by omega)
      · rw [if_pos (m_whole0.mpr e), if_pos (m_whole0.mpr e), q_X9_faults_b45, q_X10_faults_b33, q_X10_faults_b34, or0, nI_add]
        exact faults_l hC hM hb n (p + 1) x (by omega) (by omega) (by omega)
    · have e : p = 40 := by omega
      subst e
      rw [if_pos (nI_le (Nat.le_refl _) (by decide)), if_pos (nI_le (Nat.le_refl _) (by decide))]
      exact ⟨x, rfl, rfl⟩
theorem op_faults (h : RA mu row) : ∃ r, f_X9_faults mu = some r ∧ f_X10_faults row (nI 0) = some r := by
  obtain ⟨N, z, hC, hM, hb, hy⟩ := id h
  rw [q_X9_faults, q_X10_faults]
  exact faults_l hC hM hb 1000 1 _ (by decide) (by decide) (by decide)
theorem op_seed (h : RA mu row) (a0 : Int32) : ∃ r mu' row', f_X9_seed mu a0 = some (r, mu') ∧ f_X10_seed row a0 = some (r, row') ∧ RA mu' row' := by
  obtain ⟨N, z, hC, hM, hb, hy⟩ := id h
  have h3 : row 3 = z := hM.2.1
  refine ⟨z, _, _, by rw [q_X9_seed, hC.2.2.2.1], by rw [q_X10_seed, nI_clamp (by decide), h3], ?_⟩
  exact RA_of (CR_z hC a0) (by have := hM.putz a0; rwa [Nat.zero_add] at this) hb hy
theorem m_now_l (hM : MR 0 row row N z) (hb : BN N) : ∀ n k, k ≤ N 4 → N 4 < k + n → f_X10_now_b50 row (nI 0) n fnd (nI (ow N k)) (nI k) = some (nI (ow N (N 4)), fnd)
  | 0, k, h1, h2 => by omega
  | n + 1, k, h1, h2 => by
    have h4 := hb.2.2.1
    rw [q_X10_now_b50, nI_clamp (by decide), hM.g0 (by decide) (by decide)]
    rcases Nat.lt_or_ge k (N 4) with hk | hk
    · rw [if_neg (nI_ge hk (by omega)), m_fineOf hM (by decide) (by omega) (by decide), bd_sm, nI_add, nI_add]
      exact m_now_l hM hb n (k + 1) (by omega) (by omega)
    · have e : k = N 4 := by omega
      rw [if_pos (nI_le hk (by omega)), e]
theorem op_now (h : RA mu row) (hF : RF fi fnd) (a0 : Int32) : ∃ r fi' fnd', f_X9_now mu fi a0 = some (r, fi') ∧ f_X10_now row (nI 0) fnd a0 = some (r, fnd') ∧ RF fi' fnd' := by
  obtain ⟨N, z, hC, hM, hb, hy⟩ := id h
  obtain ⟨fi', fnd', e1, e2, hF'⟩ := find0 hF
  rw [q_X9_now, q_X10_now]
  by_cases c0 : a0 = nI 0
  · subst c0
    exact ⟨nI (N 0), fi, fnd, by rw [if_pos rfl, hC.1], by rw [if_pos rfl, q_X10_now_b36, gx_n (by decide) (by decide), nI_clamp (by decide), hM.g0 (by decide) (by decide)], hF⟩
  by_cases c1 : a0 = nI 1
  · subst c1
    exact ⟨nI (N 1), fi, fnd, by rw [if_neg (by decide), if_pos rfl, hC.2.1], by rw [if_neg (by decide), if_pos rfl, q_X10_now_b36, gx_n (by decide) (by decide), nI_clamp (by decide), hM.g0 (by decide) (by decide)], hF⟩
  by_cases c2 : a0 = nI 2
  · subst c2
    exact ⟨nI (N 2), fi, fnd, by rw [if_neg (by decide), if_neg (by decide), if_pos rfl, hC.2.2.1], by rw [if_neg (by decide), if_neg (by decide), if_pos rfl, q_X10_now_b36, gx_n (by decide) (by decide), nI_clamp (by decide), hM.g0 (by decide) (by decide)], hF⟩
  by_cases c3 : a0 = nI 3
  · subst c3
    exact ⟨nI (cw N 40), fi, fnd, by rw [if_neg (by decide), if_neg (by decide), if_neg (by decide), if_pos rfl, c_wholes hC hb, bd_sm], by rw [if_neg (by decide), if_neg (by decide), if_neg (by decide), if_pos rfl, m_wholes hM (by decide), bd_sm], hF⟩
  by_cases c4 : a0 = nI 4
  · subst c4
    refine ⟨nI (ow N (N 4)), fi, fnd, by rw [if_neg (by decide), if_neg (by decide), if_neg (by decide), if_neg (by decide), if_pos rfl, c_owed hC hb, bd_sm], ?_, hF⟩
    rw [if_neg (by decide), if_neg (by decide), if_neg (by decide), if_neg (by decide), if_pos rfl]
    exact m_now_l hM hb 1000 0 (by omega) (by have := hb.2.2.1; omega)
  · refine ⟨-1000000001, fi', fnd', ?_, ?_, hF'⟩
    · rw [if_neg c0, if_neg c1, if_neg c2, if_neg c3, if_neg c4, e1, bd_sm]
    · rw [if_neg c0, if_neg c1, if_neg c2, if_neg c3, if_neg c4, e2, bd_sm]
end O3
