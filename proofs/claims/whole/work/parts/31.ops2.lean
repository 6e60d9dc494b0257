/-! the calls: of, set, turn, as, placeOf -/
def cbS (N : Nat → Nat) (f : Nat) : Nat → Nat := fb_sm (fun q => if N (45 + q) = 1 ∧ N (125 + q) = f then 1 else 0)
section O2
variable {mu : MtS} {row fi fnd : Nat → Int32} {N : Nat → Nat} {z : Int32}
theorem cbS_s (f p : Nat) : cbS N f (p + 1) = cbS N f p + (if N (45 + p) = 1 ∧ N (125 + p) = f then 1 else 0) := rfl
theorem m_cutBy_l {r0 : Nat → Int32} (hM : MR 0 r0 row N z) {f : Nat} (hf : f < 1000) : ∀ n p, p ≤ 40 → 40 < p + n → f_X10_cutBy_b4 row (nI 0) n (nI f) (nI (cbS N f p)) (nI p) = some (nI (cbS N f 40))
  | 0, p, h1, h2 => by omega
  | n + 1, p, h1, h2 => by
    rw [q_X10_cutBy_b4]
    rcases Nat.lt_or_ge p 40 with hp | hp
    · have hs := hM.small (125 + p) (by omega) (by omega) (by omega) (by omega)
      have ih := m_cutBy_l hM hf n (p + 1) (by omega) (by omega)
      rw [cbS_s] at ih
      rw [if_neg (nI_ge hp (by decide)), m_isWhole hM (by decide) hp, bd_sm]
      by_cases e : N (45 + p) = 1
      · rw [if_neg (fun q => m_whole0.mp q e), nI_add, m_its hM (by decide) (by omega) (by omega), bd_sm]
        by_cases e2 : N (125 + p) = f
        · rw [if_pos ⟨e, e2⟩] at ih
          rw [if_pos (by rw [e2]), q_X10_cutBy_b36, nI_add, nI_add]
          exact ih
        · rw [if_neg (fun q => e2 q.2)] at ih
          rw [if_neg (fun q => e2 ((nI_eq (by omega) (by omega)).mp q)), q_X10_cutBy_b35, q_X10_cutBy_b36, nI_add, nI_add]
          exact ih
      · rw [if_neg (fun q => e q.1)] at ih
        rw [if_pos (m_whole0.mpr e), q_X10_cutBy_b35, q_X10_cutBy_b36, nI_add, nI_add]
        exact ih
    · have e : p = 40 := by omega
      subst e
      rw [if_pos (nI_le (Nat.le_refl _) (by decide))]
theorem m_cutBy {r0 : Nat → Int32} (hM : MR 0 r0 row N z) {f : Nat} (hf : f < 1000) : f_X10_cutBy row (nI 0) (nI f) = some (nI (cbS N f 40)) := by
  rw [q_X10_cutBy]
  exact m_cutBy_l hM hf 1000 0 (by decide) (by decide)
theorem c_cutBy_l (hC : CR mu N z) (hb : BN N) {f : Nat} (hf : f < 1000) : ∀ n p, p ≤ 40 → 40 < p + n → f_X4_cutBy_b4 mu n (nI f) (nI (cbS N f p)) (nI p) = some (nI (cbS N f 40))
  | 0, p, h1, h2 => by omega
  | n + 1, p, h1, h2 => by
    rw [q_X4_cutBy_b4]
    rcases Nat.lt_or_ge p 40 with hp | hp
    · have hs := (hb.2.2.2.1 p hp).2.2.2.2
      have ih := c_cutBy_l hC hb hf n (p + 1) (by omega) (by omega)
      rw [cbS_s] at ih
      rw [if_neg (nI_ge hp (by decide)), c_isWhole hC hp, bd_sm]
      by_cases e : N (45 + p) = 1
      · rw [if_neg (fun q => m_whole0.mp q e), gx_n hp (by decide), nI_clamp (by omega), (hC.2.2.2.2.2.2.1 p hp e).2.1]
        by_cases e2 : N (125 + p) = f
        · rw [if_pos ⟨e, e2⟩] at ih
          rw [if_pos (by rw [e2]), q_X4_cutBy_b31, nI_add, nI_add]
          exact ih
        · rw [if_neg (fun q => e2 q.2)] at ih
          rw [if_neg (fun q => e2 ((nI_eq (by omega) (by omega)).mp q)), q_X4_cutBy_b31, nI_add]
          exact ih
      · rw [if_neg (fun q => e q.1)] at ih
        rw [if_pos (m_whole0.mpr e), q_X4_cutBy_b31, nI_add]
        exact ih
    · have e : p = 40 := by omega
      subst e
      rw [if_pos (nI_le (Nat.le_refl _) (by decide))]
theorem c_cutBy (hC : CR mu N z) (hb : BN N) {f : Nat} (hf : f < 1000) : f_X4_cutBy mu (nI f) = some (nI (cbS N f 40)) := by
  rw [q_X4_cutBy]
  exact c_cutBy_l hC hb hf 1000 0 (by decide) (by decide)
theorem nsel {a b : Nat} (h : a ≠ b) (ha : a < 1000) (hb : b < 1000) : ¬ nI a = nI b := fun q => h ((nI_eq (by omega) (by omega)).mp q)
theorem op_of (h : RA mu row) (hF : RF fi fnd) (a0 a1 : Int32) : ∃ r fi' fnd', f_X9_of mu fi a0 a1 = some (r, fi') ∧ f_X10_of row (nI 0) fnd a0 a1 = some (r, fnd') ∧ RF fi' fnd' := by
  obtain ⟨N, z, hC, hM, hb, hy⟩ := id h
  obtain ⟨fi', fnd', e1, e2, hF'⟩ := find0 hF
  rcases wfine hC hM hb a0 with ⟨p1, p2⟩ | ⟨f, hf, hf10, rfl, p1, p2⟩
  · refine ⟨-1000000001, fi', fnd', ?_, ?_, hF'⟩
    · rw [q_X9_of, p2, bd_sm, if_pos rfl, e1, bd_sm]
    · rw [q_X10_of, p1, bd_sm, if_pos rfl, q_X10_of_b18, e2, bd_sm]
  · obtain ⟨g0, g1, g2, g3, g4⟩ := hC.fin hf
    have b2 := (hb.2.2.2.2 f hf10).2.2.1
    rcases win a1 0 7 (by decide) (by decide) with ⟨w1, w2⟩ | ⟨k, -, hk, rfl, w1, w2⟩
    · have hn : ∀ j, j ≤ 7 → ¬ a1 = nI j := by
        rintro j hj rfl
        rw [q_X10_in, if_neg (nI_nlt (Nat.zero_le _) (by omega)), if_neg (nI_nlt hj (by decide))] at w1
        exact absurd (Option.some.inj w1) (by decide)
      refine ⟨-1000000001, fi', fnd', ?_, ?_, hF'⟩
      · rw [q_X9_of, p2, bd_sm, if_neg (by decide), if_neg (hn 0 (by decide)), if_neg (hn 1 (by decide)), if_neg (hn 2 (by decide)), if_neg (hn 3 (by decide)), if_neg (hn 4 (by decide)), if_neg (hn 5 (by decide)), if_neg (hn 6 (by decide)), if_neg (hn 7 (by decide)), e1, bd_sm]
      · rw [q_X10_of, p1, bd_sm, if_neg (by decide), w1, bd_sm, if_pos rfl, q_X10_of_b18, e2, bd_sm]
    · have hx : f_X10_of row (nI 0) fnd (nI f) (nI k) = if nI k = nI 5 then bd (f_X10_works row (nI 0) (nI f)) (fun r6 => some (r6, fnd)) else if nI k = nI 6 then bd (f_X10_fineOf row (nI 0) (nI f) (nI 2)) (fun r8 => bd (f_X10_highAt row (nI 0) (nI f) r8) (fun r9 => some (r9, fnd))) else if nI k = nI 7 then bd (f_X10_cutBy row (nI 0) (nI f)) (fun r11 => some (r11, fnd)) else bd (f_X10_fineOf row (nI 0) (nI f) (nI k)) (fun r12 => some (r12, fnd)) := by
        rw [q_X10_of, p1, bd_sm, if_neg (by decide), w1, bd_sm, if_neg (by decide)]
      have hc : f_X9_of mu fi (nI f) (nI k) = if nI k = nI 0 then gx (nI f) 10 (some (((mu.1 5) (nI f).toNatClampNeg), fi)) else if nI k = nI 1 then gx (nI f) 10 (some (((mu.1 6) (nI f).toNatClampNeg), fi)) else if nI k = nI 2 then gx (nI f) 10 (some (((mu.1 7) (nI f).toNatClampNeg), fi)) else if nI k = nI 3 then gx (nI f) 10 (some (((mu.1 8) (nI f).toNatClampNeg), fi)) else if nI k = nI 4 then gx (nI f) 10 (some (((mu.1 9) (nI f).toNatClampNeg), fi)) else if nI k = nI 5 then bd (f_X4_worksOf mu (nI f)) (fun r14 => some (r14, fi)) else if nI k = nI 6 then gx (nI f) 10 (bd (f_X4_highOf mu (nI f) ((mu.1 7) (nI f).toNatClampNeg)) (fun r17 => some (r17, fi))) else if nI k = nI 7 then bd (f_X4_cutBy mu (nI f)) (fun r19 => some (r19, fi)) else bd (f_X9_found fi (nI 0)) (fun r20 => some (r20.1, r20.2)) := by
        rw [q_X9_of, p2, bd_sm, if_neg (by decide)]
      rw [hx, hc]
      rcases (show k = 0 ∨ k = 1 ∨ k = 2 ∨ k = 3 ∨ k = 4 ∨ k = 5 ∨ k = 6 ∨ k = 7 by omega) with rfl | rfl | rfl | rfl | rfl | rfl | rfl | rfl
      · refine ⟨nI (fld N f 0), fi, fnd, ?_, ?_, hF⟩
        · rw [if_pos rfl, gx_n hf10 (by decide), nI_clamp (by omega), g0]
        · rw [if_neg (by decide), if_neg (by decide), if_neg (by decide), m_fineOf hM (by decide) hf10 (by decide), bd_sm]
      · refine ⟨nI (fld N f 1), fi, fnd, ?_, ?_, hF⟩
        · rw [if_neg (by decide), if_pos rfl, gx_n hf10 (by decide), nI_clamp (by omega), g1]
        · rw [if_neg (by decide), if_neg (by decide), if_neg (by decide), m_fineOf hM (by decide) hf10 (by decide), bd_sm]
      · refine ⟨nI (fld N f 2), fi, fnd, ?_, ?_, hF⟩
        · rw [if_neg (by decide), if_neg (by decide), if_pos rfl, gx_n hf10 (by decide), nI_clamp (by omega), g2]
        · rw [if_neg (by decide), if_neg (by decide), if_neg (by decide), m_fineOf hM (by decide) hf10 (by decide), bd_sm]
      · refine ⟨nI (fld N f 3), fi, fnd, ?_, ?_, hF⟩
        · rw [if_neg (by decide), if_neg (by decide), if_neg (by decide), if_pos rfl, gx_n hf10 (by decide), nI_clamp (by omega), g3]
        · rw [if_neg (by decide), if_neg (by decide), if_neg (by decide), m_fineOf hM (by decide) hf10 (by decide), bd_sm]
      · refine ⟨nI (fld N f 4), fi, fnd, ?_, ?_, hF⟩
        · rw [if_neg (by decide), if_neg (by decide), if_neg (by decide), if_neg (by decide), if_pos rfl, gx_n hf10 (by decide), nI_clamp (by omega), g4]
        · rw [if_neg (by decide), if_neg (by decide), if_neg (by decide), m_fineOf hM (by decide) hf10 (by decide), bd_sm]
      · refine ⟨nI (wk N f), fi, fnd, ?_, ?_, hF⟩
        · rw [if_neg (by decide), if_neg (by decide), if_neg (by decide), if_neg (by decide), if_neg (by decide), if_pos rfl, c_works hC hb hf, bd_sm]
        · rw [if_pos rfl, m_works hM (by decide) hb.w hf10, bd_sm]
      · refine ⟨nI (hg N f (fld N f 2)), fi, fnd, ?_, ?_, hF⟩
        · rw [if_neg (by decide), if_neg (by decide), if_neg (by decide), if_neg (by decide), if_neg (by decide), if_neg (by decide), if_pos rfl, gx_n hf10 (by decide), nI_clamp (by omega), g2, c_high hC hb hf (by omega), bd_sm]
        · rw [if_neg (by decide), if_pos rfl, m_fineOf hM (by decide) hf10 (by decide), bd_sm, m_highAt hM (by decide) hf10 (by omega), bd_sm]
      · refine ⟨nI (cbS N f 40), fi, fnd, ?_, ?_, hF⟩
        · rw [if_neg (by decide), if_neg (by decide), if_neg (by decide), if_neg (by decide), if_neg (by decide), if_neg (by decide), if_neg (by decide), if_pos rfl, c_cutBy hC hb (by omega), bd_sm]
        · rw [if_neg (by decide), if_neg (by decide), if_pos rfl, m_cutBy hM (by omega), bd_sm]
/-- one of a fine's fields changes, in both -/
theorem CR_f0 (hC : CR mu N z) {f v : Nat} : CR (mt_mk (mu.1 0 0) (mu.1 0 1) (mu.1 0 2) (mu.1 0 3) (mu.1 0 4) (mu.1 1) (mu.1 2) (mu.1 3) (mu.1 4) (upd (mu.1 5) f (nI v)) (mu.1 6) (mu.1 7) (mu.1 8) (mu.1 9) mu.2) (nupd N (205 + 5 * f + 0) v) z := by
  refine CR_fin hC (fun k hk => nu_n (by omega)) fun g hg => ?_
  obtain ⟨a0, a1, a2, a3, a4⟩ := hC.fin hg
  rw [fld_up (by decide) (by decide), fld_up (by decide) (by decide), fld_up (by decide) (by decide), fld_up (by decide) (by decide), fld_up (by decide) (by decide)]
  by_cases e : g = f
  · subst e; simp; exact ⟨pk_us, a1, a2, a3, a4⟩
  · simp [e]; exact ⟨(pk_un e).trans a0, a1, a2, a3, a4⟩
theorem CR_f1 (hC : CR mu N z) {f v : Nat} : CR (mt_mk (mu.1 0 0) (mu.1 0 1) (mu.1 0 2) (mu.1 0 3) (mu.1 0 4) (mu.1 1) (mu.1 2) (mu.1 3) (mu.1 4) (mu.1 5) (upd (mu.1 6) f (nI v)) (mu.1 7) (mu.1 8) (mu.1 9) mu.2) (nupd N (205 + 5 * f + 1) v) z := by
  refine CR_fin hC (fun k hk => nu_n (by omega)) fun g hg => ?_
  obtain ⟨a0, a1, a2, a3, a4⟩ := hC.fin hg
  rw [fld_up (by decide) (by decide), fld_up (by decide) (by decide), fld_up (by decide) (by decide), fld_up (by decide) (by decide), fld_up (by decide) (by decide)]
  by_cases e : g = f
  · subst e; simp; exact ⟨a0, pk_us, a2, a3, a4⟩
  · simp [e]; exact ⟨a0, (pk_un e).trans a1, a2, a3, a4⟩
theorem CR_f3 (hC : CR mu N z) {f v : Nat} : CR (mt_mk (mu.1 0 0) (mu.1 0 1) (mu.1 0 2) (mu.1 0 3) (mu.1 0 4) (mu.1 1) (mu.1 2) (mu.1 3) (mu.1 4) (mu.1 5) (mu.1 6) (mu.1 7) (upd (mu.1 8) f (nI v)) (mu.1 9) mu.2) (nupd N (205 + 5 * f + 3) v) z := by
  refine CR_fin hC (fun k hk => nu_n (by omega)) fun g hg => ?_
  obtain ⟨a0, a1, a2, a3, a4⟩ := hC.fin hg
  rw [fld_up (by decide) (by decide), fld_up (by decide) (by decide), fld_up (by decide) (by decide), fld_up (by decide) (by decide), fld_up (by decide) (by decide)]
  by_cases e : g = f
  · subst e; simp; exact ⟨a0, a1, a2, pk_us, a4⟩
  · simp [e]; exact ⟨a0, a1, a2, (pk_un e).trans a3, a4⟩
theorem MR.pf {r0 : Nat → Int32} (hM : MR 0 r0 row N z) {f w v : Nat} (hf : f < 10) (hw : w < 5) (hv : v < 1000) : MR 0 r0 (upd row (0 + (205 + 5 * f + w)) (nI v)) (nupd N (205 + 5 * f + w) v) z := hM.put (by omega) (by omega) (Or.inr hv)
theorem op_turn (h : RA mu row) (hF : RF fi fnd) (a0 a1 : Int32) : ∃ r mu' fi' row' fnd', f_X9_turn mu fi a0 a1 = some (r, mu', fi') ∧ f_X10_turn row (nI 0) fnd a0 a1 = some (r, row', fnd') ∧ RA mu' row' ∧ RF fi' fnd' := by
  obtain ⟨N, z, hC, hM, hb, hy⟩ := id h
  obtain ⟨fi', fnd', e1, e2, hF'⟩ := find0 hF
  rcases wfine hC hM hb a0 with ⟨p1, p2⟩ | ⟨f, hf, hf10, rfl, p1, p2⟩
  · refine ⟨-1000000001, mu, fi', row, fnd', ?_, ?_, h, hF'⟩
    · rw [q_X9_turn, p2, bd_sm, if_pos rfl, q_X9_turn_b18, e1, bd_sm]
    · rw [q_X10_turn, p1, bd_sm, if_pos rfl, q_X10_turn_b15, e2, bd_sm]
  · rcases wkind a1 with ⟨k1, k2⟩ | ⟨k, hk, rfl, k1, k2⟩
    · refine ⟨-1000000001, mu, fi', row, fnd', ?_, ?_, h, hF'⟩
      · rw [q_X9_turn, p2, bd_sm, if_neg (by decide), k2, bd_sm, if_pos rfl, q_X9_turn_b18, e1, bd_sm]
      · rw [q_X10_turn, p1, bd_sm, if_neg (by decide), k1, bd_sm, if_pos rfl, q_X10_turn_b15, e2, bd_sm]
    · refine ⟨nI (fld N f 0), _, fi, _, fnd, ?_, ?_, RA_of (CR_f0 hC (f := f) (v := k)) (hM.pf hf10 (w := 0) (by decide) (v := k) (by omega)) (BN_fld hb hf10 (by decide) (fun _ => by omega) (by omega) (by omega) (by omega) (by omega)) (by rw [nu_n (by omega)]; exact hy), hF⟩
      · rw [q_X9_turn, p2, bd_sm, if_neg (by decide), k2, bd_sm, if_neg (by decide), gx_n hf10 (by decide), gx_n hf10 (by decide), nI_clamp (by omega), (hC.fin hf).1]
      · rw [q_X10_turn, p1, bd_sm, if_neg (by decide), k1, bd_sm, if_neg (by decide), m_fineOf hM (by decide) hf10 (by decide), bd_sm, m_sets (by decide) hf10 (by decide), bd_sm]
theorem kd_isOf_ok : ∀ j, j < 6 → ∀ k, k < 6 → kd_isOf j (nI k) = f_X10_isUnder (nI j) (nI k) := by decide +kernel
theorem under01 : ∀ j, j < 6 → ∀ k, k < 6 → f_X10_isUnder (nI j) (nI k) = some (nI 0) ∨ f_X10_isUnder (nI j) (nI k) = some (nI 1) := by decide +kernel
theorem op_as (h : RA mu row) (hF : RF fi fnd) (a0 a1 : Int32) : ∃ r fi' fnd', f_X9_as mu fi a0 a1 = some (r, fi') ∧ f_X10_as row (nI 0) fnd a0 a1 = some (r, fnd') ∧ RF fi' fnd' := by
  obtain ⟨N, z, hC, hM, hb, hy⟩ := id h
  obtain ⟨fi', fnd', e1, e2, hF'⟩ := find0 hF
  rcases wfine hC hM hb a0 with ⟨p1, p2⟩ | ⟨f, hf, hf10, rfl, p1, p2⟩
  · refine ⟨-1000000001, fi', fnd', ?_, ?_, hF'⟩
    · rw [q_X9_as, p2, bd_sm, if_pos rfl, q_X9_as_b18, e1, bd_sm]
    · rw [q_X10_as, p1, bd_sm, if_pos rfl, q_X10_as_b15, e2, bd_sm]
  · rcases wkind a1 with ⟨k1, k2⟩ | ⟨k, hk, rfl, k1, k2⟩
    · refine ⟨-1000000001, fi', fnd', ?_, ?_, hF'⟩
      · rw [q_X9_as, p2, bd_sm, if_neg (by decide), k2, bd_sm, if_pos rfl, q_X9_as_b18, e1, bd_sm]
      · rw [q_X10_as, p1, bd_sm, if_neg (by decide), k1, bd_sm, if_pos rfl, q_X10_as_b15, e2, bd_sm]
    · have b0 := (hb.2.2.2.2 f hf10).1
      have ek := kd_isOf_ok (fld N f 0) (by omega) k hk
      rcases under01 (fld N f 0) (by omega) k hk with hu | hu
      · obtain ⟨fi', fnd', e1, e2, hF'⟩ := find2 hF
        refine ⟨-1000000003, fi', fnd', ?_, ?_, hF'⟩
        · rw [q_X9_as, p2, bd_sm, if_neg (by decide), k2, bd_sm, if_neg (by decide), c_kindOf hC hb hf, bd_sm, gk_n (by omega), ek, hu, bd_sm, if_pos rfl, e1, bd_sm]
        · rw [q_X10_as, p1, bd_sm, if_neg (by decide), k1, bd_sm, if_neg (by decide), m_fineOf hM (by decide) hf10 (by decide), bd_sm, hu, bd_sm, if_pos rfl, e2, bd_sm]
      · refine ⟨nI (fld N f 1), fi, fnd, ?_, ?_, hF⟩
        · rw [q_X9_as, p2, bd_sm, if_neg (by decide), k2, bd_sm, if_neg (by decide), c_kindOf hC hb hf, bd_sm, gk_n (by omega), ek, hu, bd_sm, if_neg (by decide), gx_n hf10 (by decide), nI_clamp (by omega), (hC.fin hf).2.1]
        · rw [q_X10_as, p1, bd_sm, if_neg (by decide), k1, bd_sm, if_neg (by decide), m_fineOf hM (by decide) hf10 (by decide), bd_sm, hu, bd_sm, if_neg (by decide), m_fineOf hM (by decide) hf10 (by decide), bd_sm]
end O2
