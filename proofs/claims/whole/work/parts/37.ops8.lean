/-! the calls: image, undo, tear, wipe, count, status, and numbers' widths -/
def RK (ke : MtS) (imag : Nat → Int32) (kp kept : Int32) : Prop := kp = kept ∧ (kp = nI 0 ∨ (kp = nI 1 ∧ RA ke imag))
def RT (tby tape : Nat → Int32) (tlen tmany : Int32) : Prop := ∃ L, L ≤ 120 ∧ tlen = nI L ∧ tmany = nI L ∧ ∀ k, k < L → tby k = tape k ∧ ∃ b, b < 256 ∧ tape k = nI b
def RB (b : Int32) : Prop := b = nI 0 ∨ b = nI 8 ∨ b = nI 16 ∨ b = nI 64
def RH (sh : Nat → ShS) (bits size : Nat → Int32) (shts : Nat → Int64) : Prop := ∀ s, s < 4 → (sh s).2.1 = bits s ∧ RB (bits s) ∧ (∃ n, n ≤ 40 ∧ size s = nI n) ∧ (sh s).2.2 = size s ∧ ∀ k, k < 40 → (sh s).1 k = shts (40 * s + k)
section O8
variable {mu tr ke : MtS} {row r0 fi fnd imag : Nat → Int32} {N : Nat → Nat} {z : Int32}
theorem mv_to : ∀ n k, k ≤ 255 → 255 < k + n → f_X10_moveAll_imag_b2 n row (fb_put imag row 0 k) (nI 1) (nI k) = some (row, fb_put imag row 0 255)
  | 0, k, h1, h2 => by omega
  | n + 1, k, h1, h2 => by
    rw [q_X10_moveAll_imag_b2]
    rcases Nat.lt_or_ge k 255 with hk | hk
    · have hs := fb_put_succ imag row 0 k
      rw [Nat.zero_add] at hs
      rw [if_neg (nI_ge hk (by decide)), if_neg (by decide), gx_n (by omega) (by decide), gx_n (by omega) (by decide), nI_clamp (by omega), q_X10_moveAll_imag_b34, nI_add, hs]
      exact mv_to n (k + 1) (by omega) (by omega)
    · have e : k = 255 := by omega
      subst e
      rw [if_pos (nI_le (Nat.le_refl _) (by decide))]
theorem mv_fro : ∀ n k, k ≤ 255 → 255 < k + n → f_X10_moveAll_imag_b2 n (fb_put row imag 0 k) imag (nI 0) (nI k) = some (fb_put row imag 0 255, imag)
  | 0, k, h1, h2 => by omega
  | n + 1, k, h1, h2 => by
    rw [q_X10_moveAll_imag_b2]
    rcases Nat.lt_or_ge k 255 with hk | hk
    · have hs := fb_put_succ row imag 0 k
      rw [Nat.zero_add] at hs
      rw [if_neg (nI_ge hk (by decide)), if_pos rfl, gx_n (by omega) (by decide), gx_n (by omega) (by decide), nI_clamp (by omega), q_X10_moveAll_imag_b34, nI_add, hs]
      exact mv_fro n (k + 1) (by omega) (by omega)
    · have e : k = 255 := by omega
      subst e
      rw [if_pos (nI_le (Nat.le_refl _) (by decide))]
theorem MR_put (h : MR 0 r0 row N z) (g : Nat → Int32) : MR 0 (fb_put g row 0 255) (fb_put g row 0 255) N z := by
  refine ⟨fun k hk h3 => ?_, ?_, fun _ _ => rfl, h.2.2.2⟩
  · rw [fb_put_in (by omega) (by omega), show 0 + k - 0 = k by omega]; exact h.g0 hk h3
  · rw [fb_put_in (by omega) (by omega)]; exact h.2.1
theorem op_image (h : RA mu row) (ke : MtS) (imag : Nat → Int32) (kp kept : Int32) : ∃ r ke' kp' imag' kept', f_X9_image mu ke kp = some (r, ke', kp') ∧ f_X10_image row imag kept = some (r, row, imag', kept') ∧ RK ke' imag' kp' kept' := by
  obtain ⟨N, z, hC, hM, hb, hy⟩ := id h
  obtain ⟨w, c1, c2⟩ := c_become ke hC hb
  have hm := mv_to (row := row) (imag := imag) 1000 0 (by decide) (by decide)
  rw [fb_put_0] at hm
  exact ⟨nI 1, w, nI 1, _, nI 1, by rw [q_X9_image, c1, bd_sm], by rw [q_X10_image, q_X10_moveAll_imag, hm, bd_sm], rfl, Or.inr ⟨rfl, ⟨N, z, c2, MR_put hM imag, hb, hy⟩⟩⟩
theorem op_undo (h : RA mu row) (hF : RF fi fnd) {kp kept : Int32} (hK : RK ke imag kp kept) : ∃ r mu' fi' row' fnd', f_X9_undo mu ke kp fi = some (r, mu', fi') ∧ f_X10_undo row fnd imag kept = some (r, row', fnd', imag) ∧ RA mu' row' ∧ RF fi' fnd' := by
  obtain ⟨rfl, hK⟩ := hK
  rw [q_X9_undo, q_X10_undo]
  rcases hK with rfl | ⟨rfl, hK⟩
  · obtain ⟨fi', fnd', e1, e2, hF'⟩ := find3 hF
    exact ⟨-1000000004, mu, fi', row, fnd', by rw [if_pos rfl, e1, bd_sm], by rw [if_pos rfl, e2, bd_sm], h, hF'⟩
  · obtain ⟨N, z, hC, hM, hb, hy⟩ := hK
    obtain ⟨w, c1, c2⟩ := c_become mu hC hb
    have hm := mv_fro (row := row) (imag := imag) 1000 0 (by decide) (by decide)
    rw [fb_put_0] at hm
    have hM' := MR_put hM row
    refine ⟨nI (N 4), w, fi, fb_put row imag 0 255, fnd, ?_, ?_, ⟨N, z, c2, hM', hb, hy⟩, hF⟩
    · rw [if_neg (by decide), c1, bd_sm, c2.mn]
    · rw [if_neg (by decide), q_X10_moveAll_imag, hm, bd_sm, nI_clamp (by decide)]
      show some (fb_put row imag 0 255 4, fb_put row imag 0 255, fnd, imag) = _
      rw [hM'.g0 (by decide) (by decide)]
theorem op_tear {kp kept : Int32} (hK : RK ke imag kp kept) : ∃ r, f_X9_tear kp = some (r, nI 0) ∧ f_X10_tear kept = some (r, nI 0) ∧ RK ke imag (nI 0) (nI 0) := by
  obtain ⟨rfl, hK⟩ := hK
  rw [q_X9_tear, q_X10_tear]
  rcases hK with rfl | ⟨rfl, hK⟩
  · exact ⟨nI 0, by rw [if_pos rfl, q_X9_tear_b12], by rw [if_pos rfl, q_X10_tear_b12], rfl, Or.inl rfl⟩
  · exact ⟨nI 1, by rw [if_neg (by decide), q_X9_tear_b12], by rw [if_neg (by decide), q_X10_tear_b12], rfl, Or.inl rfl⟩
theorem op_wipe {tby tape : Nat → Int32} {tlen tmany : Int32} (hT : RT tby tape tlen tmany) : ∃ r, f_X9_wipe tlen = some (r, nI 0) ∧ f_X10_wipe tmany = some (r, nI 0) ∧ RT tby tape (nI 0) (nI 0) := by
  obtain ⟨L, h1, rfl, rfl, h4⟩ := hT
  exact ⟨nI L, by rw [q_X9_wipe], by rw [q_X10_wipe], 0, by decide, rfl, rfl, fun k hk => absurd hk (Nat.not_lt_zero k)⟩
theorem high_l (hC : CR mu N z) (hM : MR 0 r0 row N z) (tm : Int32) : ∀ n i (x : Int32), i ≤ 40 → 40 < i + n → ∃ r, f_X4_highOfAll_b4 mu n x (nI i) = some r ∧ f_X10_count_b46 row (nI 0) tm n fnd x (nI i) = some (r, fnd)
  | 0, i, x, h1, h2 => by omega
  | n + 1, i, x, h1, h2 => by
    rw [q_X4_highOfAll_b4, q_X10_count_b46]
    by_cases c : i = 40
    · subst c
      exact ⟨x, by rw [if_pos (by decide)], by rw [if_pos (by decide)]⟩
    · have hi : i < 40 := by omega
      rw [if_neg (nI_ge hi (by decide)), if_neg (nI_ge hi (by decide)), c_isWhole hC hi, m_isWhole hM (by decide) hi, bd_sm, bd_sm]
      by_cases e : N (45 + i) = 1
      · rw [if_neg (fun q => m_whole0.mp q e), if_neg (fun q => m_whole0.mp q e), gx_n hi (by decide), nI_clamp (by omega), (hC.2.2.2.2.2.2.1 i hi e).1, q_X4_highOfAll_b27, nI_add 85 i, gx_n (by omega) (by decide), nI_clamp (by omega), hM.g0 (by omega) (by omega), q_X10_count_b74, nI_add i 1]
        exact high_l hC hM tm n (i + 1) _ (by omega) (by omega)
      · rw [if_pos (m_whole0.mpr e), if_pos (m_whole0.mpr e), q_X4_highOfAll_b27, q_X10_count_b74, ad0, nI_add]
        exact high_l hC hM tm n (i + 1) _ (by omega) (by omega)
theorem op_count (h : RA mu row) (hF : RF fi fnd) {tlen tmany : Int32} (ht : tlen = tmany) (a0 : Int32) : ∃ r fi' fnd', f_X9_count mu tlen fi a0 = some (r, fi') ∧ f_X10_count row (nI 0) fnd tmany a0 = some (r, fnd') ∧ RF fi' fnd' := by
  obtain ⟨N, z, hC, hM, hb, hy⟩ := id h
  rw [q_X9_count, q_X10_count]
  by_cases c0 : a0 = nI 0
  · exact ⟨nI (N 4), fi, fnd, by rw [if_pos c0, hC.mn], by rw [if_pos c0, nI_clamp (by decide), hM.g0 (by decide) (by decide)], hF⟩
  by_cases c1 : a0 = nI 1
  · exact ⟨tlen, fi, fnd, by rw [if_neg c0, if_pos c1], by rw [if_neg c0, if_pos c1, ht], hF⟩
  by_cases c2 : a0 = nI 2
  · obtain ⟨r, q1, q2⟩ := high_l (fnd := fnd) hC hM tmany 1000 0 (nI 0) (by decide) (by decide)
    exact ⟨r, fi, fnd, by rw [if_neg c0, if_neg c1, if_pos c2, q_X4_highOfAll, q1, bd_sm], by rw [if_neg c0, if_neg c1, if_pos c2, q2], hF⟩
  by_cases c3 : a0 = nI 3
  · exact ⟨z, fi, fnd, by rw [if_neg c0, if_neg c1, if_neg c2, if_pos c3, hC.2.2.2.1], by rw [if_neg c0, if_neg c1, if_neg c2, if_pos c3, nI_clamp (by decide), show row 3 = z from hM.2.1], hF⟩
  · obtain ⟨fi', fnd', e1, e2, hF'⟩ := find0 hF
    exact ⟨-1000000001, fi', fnd', by rw [if_neg c0, if_neg c1, if_neg c2, if_neg c3, e1, bd_sm], by rw [if_neg c0, if_neg c1, if_neg c2, if_neg c3, e2, bd_sm], hF'⟩
theorem stat_l (hF : RF fi fnd) (a0 : Int32) : ∀ n i (x : Int32), i ≤ 7 → 7 < i + n → ∃ r, f_X9_status_b31 n fi x (nI i) = some (r, fi) ∧ f_X10_status_b21 n fnd a0 x (nI i) = if nI 0 ≤ a0 then f_X10_status_b63 fnd a0 else some (r, fnd)
  | 0, i, x, h1, h2 => by omega
  | n + 1, i, x, h1, h2 => by
    rw [q_X9_status_b31, q_X10_status_b21]
    by_cases c : i = 7
    · subst c
      refine ⟨x, by rw [if_pos (by decide)], ?_⟩
      rw [if_pos (show nI 7 ≤ nI 7 by decide)]
      by_cases g : nI 0 ≤ a0
      · rw [if_pos g, if_pos g, if_pos g]
      · rw [if_neg g, if_neg g]
    · have hi : i < 7 := by omega
      rw [if_neg (nI_ge hi (by decide)), if_neg (nI_ge hi (by decide)), gx_n hi (by decide), gx_n hi (by decide), nI_clamp (by omega), hF i hi, nI_add]
      exact stat_l hF a0 n (i + 1) _ (by omega) (by omega)
theorem op_status (hF : RF fi fnd) (a0 : Int32) : ∃ r fi' fnd', f_X9_status fi a0 = some (r, fi') ∧ f_X10_status fnd a0 = some (r, fnd') ∧ RF fi' fnd' := by
  rw [q_X9_status, q_X10_status, q_X9_isWithin, q_X10_in]
  obtain ⟨fi', fnd', e1, e2, hF'⟩ := find0 hF
  by_cases c1 : a0 < -1
  · exact ⟨-1000000001, fi', fnd', by rw [if_pos c1, bd_sm, if_pos rfl, e1, bd_sm], by rw [if_pos c1, bd_sm, if_pos rfl, e2, bd_sm], hF'⟩
  by_cases c2 : nI 6 < a0
  · exact ⟨-1000000001, fi', fnd', by rw [if_neg c1, if_pos c2, bd_sm, if_pos rfl, e1, bd_sm], by rw [if_neg c1, if_pos c2, bd_sm, if_pos rfl, e2, bd_sm], hF'⟩
  · rw [if_neg c1, if_neg c2, bd_sm, if_neg (show ¬ nI 1 = nI 0 by decide), bd_sm, if_neg (show ¬ nI 1 = nI 0 by decide)]
    obtain ⟨r, q1, q2⟩ := stat_l hF a0 1000 0 (nI 0) (by decide) (by decide)
    rw [q2]
    by_cases g : a0 < nI 0
    · exact ⟨r, fi, fnd, by rw [if_pos g, q1], by rw [if_neg (show ¬ nI 0 ≤ a0 from fun q => by rw [fa_lt] at g; rw [fa_le] at q; omega)], hF⟩
    · obtain ⟨j, hj, rfl⟩ := nI_of g
      rw [nI_ltI (by decide) hj] at c2
      refine ⟨fi j, fi, fnd, ?_, ?_, hF⟩
      · rw [if_neg g, gx_n (by omega) (by decide), nI_clamp (by omega)]
      · rw [if_pos (nI_le (Nat.zero_le _) (by omega)), q_X10_status_b63, gx_n (by omega) (by decide), nI_clamp (by omega), hF j (by omega)]
theorem byte_sh (x : Int32) {s : Nat} (hs : s ≤ 24) : ((x.toUInt32 >>> ((nI s).toUInt32 &&& Int32.toUInt32 31)).toInt32 &&& nI 255) = ((x >>> (nI s &&& 31)) &&& nI 255) := by
  apply b_ext
  intro i hi
  rw [b_and, b_and, b_ushr s (by omega), b_sshr s (by omega) x hi, show bt (nI 255) i = decide (i < 8) from b_255 i]
  by_cases c : i < 8
  · rw [if_pos (by omega)]
  · rw [decide_eq_false c, Bool.and_false, Bool.and_false]
theorem byte_of (x : Int32) : ∃ b, b < 256 ∧ x &&& nI 255 = nI b := by
  obtain ⟨n, hn, rfl⟩ := wb_of32 x
  exact ⟨n % 2 ^ 8, Nat.mod_lt _ (by decide), fa_mask n 8⟩
theorem sext (a : BitVec 64) (w : Nat) (hw : 1 ≤ w) (hw2 : w ≤ 31) : (((a.signExtend 32).signExtend w).signExtend 32).signExtend 64 = (a <<< (64 - w)).sshiftRight (64 - w) := by
  apply BitVec.eq_of_getLsbD_eq
  intro i hi
  simp only [BitVec.getLsbD_sshiftRight, BitVec.getLsbD_signExtend, BitVec.msb_eq_getLsbD_last, BitVec.getLsbD_shiftLeft]
  by_cases c : i < w
  · have e1 : i < 32 := by omega
    have e2 : 64 - w + i < 64 := by omega
    have e3 : ¬ 64 - w + i < 64 - w := by omega
    have e4 : 64 - w + i - (64 - w) = i := by omega
    have e5 : ¬ 64 ≤ i := by omega
    simp [hi, c, e1, e2, e3, e4, e5]
  · have e2 : ¬ 64 - w + i < 64 := by omega
    have e3 : ¬ 63 < 64 - w := by omega
    have e4 : 63 - (64 - w) = w - 1 := by omega
    have e5 : ¬ 64 ≤ i := by omega
    have e6 : w - 1 < 32 := by omega
    have e7 : w - 1 < w := by omega
    have e8 : w - 1 < 64 := by omega
    by_cases c2 : i < 32
    · simp [hi, c, c2, e2, e3, e4, e5, e6, e7, e8]
    · have e10 : ¬ 31 < w := by omega
      simp [hi, c, c2, e2, e3, e4, e5, e6, e7, e8, e10]
theorem low8 (a : Int64) : a.toInt32.toInt8.toInt32.toInt64 = (a <<< ((nI 56).toInt64 &&& 63)) >>> ((nI 56).toInt64 &&& 63) := by
  rw [wb_c 56 (by decide)]
  apply wb_inj
  rw [Int64.toBitVec_shiftRight, Int64.toBitVec_shiftLeft]
  show _ = (a.toBitVec <<< ((lN 56).toBitVec.smod 64).toNat).sshiftRight ((lN 56).toBitVec.smod 64).toNat
  rw [show ((lN 56).toBitVec.smod 64).toNat = 56 by decide +kernel]
  exact sext a.toBitVec 8 (by decide) (by decide)
theorem low16 (a : Int64) : a.toInt32.toInt16.toInt32.toInt64 = (a <<< ((nI 48).toInt64 &&& 63)) >>> ((nI 48).toInt64 &&& 63) := by
  rw [wb_c 48 (by decide)]
  apply wb_inj
  rw [Int64.toBitVec_shiftRight, Int64.toBitVec_shiftLeft]
  show _ = (a.toBitVec <<< ((lN 48).toBitVec.smod 64).toNat).sshiftRight ((lN 48).toBitVec.smod 64).toNat
  rw [show ((lN 48).toBitVec.smod 64).toNat = 48 by decide +kernel]
  exact sext a.toBitVec 16 (by decide) (by decide)
theorem low_eq (b : Int32) (a : Int64) : f_X7_lowest b a = f_X10_narrow b a := by
  rw [q_X7_lowest, q_X10_narrow, low8, low16]
end O8
