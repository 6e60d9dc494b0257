/-! a year, as the class goes it -/
theorem CR_put0 {u : MtS} {N : Nat → Nat} {z : Int32} (h : CR u N z) {v : Nat} {y : Int32} (hy : y = nI v) : CR (mt_mk y (u.1 0 1) (u.1 0 2) (u.1 0 3) (u.1 0 4) (u.1 1) (u.1 2) (u.1 3) (u.1 4) (u.1 5) (u.1 6) (u.1 7) (u.1 8) (u.1 9) u.2) (nupd N 0 v) z := by
  refine ⟨?_, ?_, ?_, h.2.2.2.1, ?_, fun q hq => ?_, fun q hq hw => ?_, fun g hg => ?_, ?_⟩
  · rw [nu_s]; exact hy
  · rw [nu_n (by omega)]; exact h.2.1
  · rw [nu_n (by omega)]; exact h.2.2.1
  · rw [nu_n (by omega)]; exact h.mn
  · rw [nu_n (by omega)]; exact h.rk hq
  · rw [nu_n (by omega)] at hw
    rw [nu_n (by omega), nu_n (by omega), nu_n (by omega)]
    exact h.2.2.2.2.2.2.1 q hq hw
  · rw [nu_n (by omega)] at hg
    rw [fld_ne (by omega), fld_ne (by omega), fld_ne (by omega), fld_ne (by omega), fld_ne (by omega)]
    exact h.fin hg
  · obtain ⟨W, h1, h2, h3⟩ := h.2.2.2.2.2.2.2.2
    exact ⟨W, h1, h2, fun p hp => by rw [nu_n (by omega)]; exact h3 p hp⟩
/-- a fine's own fields change -/
theorem CR_fin {u : MtS} {N M : Nat → Nat} {z : Int32} (h : CR u N z) (hM : ∀ k, k < 205 → M k = N k) {k5 k6 k7 k8 k9 : Nat → Int32} (hf : ∀ f, f < N 4 → k5 f = nI (fld M f 0) ∧ k6 f = nI (fld M f 1) ∧ k7 f = nI (fld M f 2) ∧ k8 f = nI (fld M f 3) ∧ k9 f = nI (fld M f 4)) : CR (mt_mk (u.1 0 0) (u.1 0 1) (u.1 0 2) (u.1 0 3) (u.1 0 4) (u.1 1) (u.1 2) (u.1 3) (u.1 4) k5 k6 k7 k8 k9 u.2) M z := by
  refine ⟨?_, ?_, ?_, h.2.2.2.1, ?_, fun q hq => ?_, fun q hq hw => ?_, fun g hg => ?_, ?_⟩
  · rw [hM _ (by omega)]; exact h.1
  · rw [hM _ (by omega)]; exact h.2.1
  · rw [hM _ (by omega)]; exact h.2.2.1
  · rw [hM _ (by omega)]; exact h.mn
  · rw [hM _ (by omega)]; exact h.rk hq
  · rw [hM _ (by omega)] at hw
    rw [hM _ (by omega), hM _ (by omega), hM _ (by omega)]
    exact h.2.2.2.2.2.2.1 q hq hw
  · rw [hM _ (by omega)] at hg
    exact hf g hg
  · obtain ⟨W, h1, h2, h3⟩ := h.2.2.2.2.2.2.2.2
    exact ⟨W, h1, h2, fun p hp => by rw [hM _ (by omega)]; exact h3 p hp⟩
theorem fld_eq {N : Nat → Nat} {f w v : Nat} : fld (nupd N (205 + 5 * f + w) v) f w = v := nu_s
section CY
variable {u : MtS} {N : Nat → Nat} {z : Int32}
theorem c_move (h : CR u N z) (hb : BN N) {f a : Nat} (hf : f < N 4) : ∃ u', f_X4_moveFine u (nI f) (nI a) = some u' ∧ CR u' (nupd (nupd N (205 + 5 * f + 2) a) (205 + 5 * f + 4) 0) z := by
  have h10 := hb.2.2.1
  rw [q_X4_moveFine, gx_n (by omega) (by decide), gx_n (by omega) (by decide), nI_clamp (by omega)]
  refine ⟨_, rfl, CR_fin h (fun k hk => by rw [nu_n (by omega), nu_n (by omega)]) fun g hg => ?_⟩
  obtain ⟨a0, a1, a2, a3, a4⟩ := h.fin hg
  by_cases e : g = f
  · subst e
    rw [fld_ne (w := 0) (by omega), fld_ne (w := 0) (by omega), fld_ne (w := 1) (by omega), fld_ne (w := 1) (by omega), fld_ne (w := 2) (by omega), fld_ne (w := 3) (by omega), fld_ne (w := 3) (by omega), fld_eq, fld_eq]
    exact ⟨a0, a1, pk_us, a3, pk_us⟩
  · rw [fld_ne (by omega), fld_ne (by omega), fld_ne (by omega), fld_ne (by omega), fld_ne (by omega), fld_ne (by omega), fld_ne (by omega), fld_ne (by omega), fld_ne (by omega), fld_ne (by omega)]
    exact ⟨a0, a1, (pk_un e).trans a2, a3, (pk_un e).trans a4⟩
theorem c_goOn_l {f : Nat} : ∀ (d n i : Nat) (N : Nat → Nat) (u : MtS), CR u N z → BN N → f < N 4 → (∀ k, k < d → N (45 + (fld N f 2 + k) % 40) = 1) → ¬ N (45 + (fld N f 2 + d) % 40) = 1 → i + d < 40 → d < n → ∃ u', f_X4_goOn_b2 n u (nI f) (nI i) = some u' ∧ CR u' (mvS N f d) z
  | 0, 0, i, N, u, h, hb, hf, h1, h2, hi, hn => by omega
  | 0, n + 1, i, N, u, h, hb, hf, h1, h2, hi, hn => by
    have h10 := hb.2.2.1
    have hp : fld N f 2 ≤ 39 := (hb.2.2.2.2 f (by omega)).2.2.1
    rw [show (fld N f 2 + 0) % 40 = fld N f 2 by omega] at h2
    rw [q_X4_goOn_b2, if_neg (nI_ge (by omega) (by decide)), gx_n (by omega) (by decide), nI_clamp (by omega), (h.fin hf).2.2.1, c_isWhole h (by omega), bd_sm, if_pos (m_whole0.mpr h2)]
    exact ⟨u, rfl, h⟩
  | d + 1, 0, i, N, u, h, hb, hf, h1, h2, hi, hn => by omega
  | d + 1, n + 1, i, N, u, h, hb, hf, h1, h2, hi, hn => by
    have h10 := hb.2.2.1
    have hp : fld N f 2 ≤ 39 := (hb.2.2.2.2 f (by omega)).2.2.1
    have h0 := h1 0 (by omega)
    rw [show (fld N f 2 + 0) % 40 = fld N f 2 by omega] at h0
    have go : ∀ a, a = (fld N f 2 + 1) % 40 → ∃ u', f_X4_goOn_b46 (f_X4_goOn_b2 n) u (nI f) (nI i) (nI a) (nI f) = some u' ∧ CR u' (mvS N f (d + 1)) z := by
      intro a ha
      obtain ⟨u2, e2, hA⟩ := c_move h hb hf (a := a)
      rw [q_X4_goOn_b46, e2, bd_sm, nI_add]
      rw [ha] at hA
      have hA : CR u2 (mvS N f 1) z := hA
      rw [← mv_succ]
      refine c_goOn_l d n (i + 1) (mvS N f 1) u2 hA (BN_mv hb (by omega)) (by rw [mv_out (by omega) (by omega)]; exact hf) (fun k hk => ?_) ?_ (by omega) (by omega)
      · rw [mv_out (by omega) (by omega), mv_at (by decide), show ((fld N f 2 + 1) % 40 + k) % 40 = (fld N f 2 + (k + 1)) % 40 by omega]
        exact h1 (k + 1) (by omega)
      · rw [mv_out (by omega) (by omega), mv_at (by decide), show ((fld N f 2 + 1) % 40 + d) % 40 = (fld N f 2 + (d + 1)) % 40 by omega]
        exact h2
    rw [q_X4_goOn_b2, if_neg (nI_ge (by omega) (by decide)), gx_n (by omega) (by decide), nI_clamp (by omega), (h.fin hf).2.2.1, c_isWhole h (by omega), bd_sm, if_neg (fun q => m_whole0.mp q h0), gx_n (by omega) (by decide)]
    by_cases c : fld N f 2 = 39
    · rw [if_pos (by rw [c])]
      exact go 0 (by omega)
    · rw [if_neg (fun q => c ((nI_eq (by omega) (by decide)).mp q)), gx_n (by omega) (by decide), nI_add]
      exact go _ (by omega)
theorem c_workOn (h : CR u N z) (hb : BN N) {f : Nat} (hf : f < N 4) : ∃ u', f_X4_workOn u (nI f) (nI (fld N f 2)) = some u' ∧ CR u' (rsS N f) z := by
  have h10 := hb.2.2.1
  obtain ⟨b0, b1, b2, b3, b4, -⟩ := hb.2.2.2.2 f (by omega)
  have hp : fld N f 2 < 40 := by omega
  obtain ⟨a1, a2, -⟩ := hb.2.2.2.1 _ hp
  have hc := cw_le N hb.w
  have hwk := wk_le hb (f := f) (by omega)
  obtain ⟨f0, f1, f2, f3, f4⟩ := h.fin hf
  have ewk : (if fld N f 0 = 1 then 2 * fld N f 3 else if fld N f 0 = 2 then fld N f 3 else if fld N f 0 = 3 then fld N f 3 + 2 else if fld N f 0 = 4 then (fld N f 3 + 2) / 2 else if fld N f 0 = 5 then fld N f 3 + (40 - cw N 40) / 10 else fld N f 3) = wk N f := rfl
  have ehg : (if fld N f 0 = 2 then N (5 + fld N f 2) + 6 else if fld N f 0 = 3 then N (5 + fld N f 2) + 13 else if fld N f 0 = 4 then N (5 + fld N f 2) + 16 else if fld N f 0 = 5 then (if N (5 + fld N f 2) ≤ 5 then N (5 + fld N f 2) + 6 else 7) else N (5 + fld N f 2) + 8) = hg N f (fld N f 2) := rfl
  rw [q_X4_workOn, c_kindOf h hb hf, bd_sm, gx_n (by omega) (by decide), gx_n (by omega) (by decide), c_wholes h hb, bd_sm, gk_n (by omega), nI_clamp (by omega), nI_clamp (by omega), f3, pk_sub hc, kd_works_ok (by omega) b3 (by omega), bd_sm, gx_n (by omega) (by decide), c_isPlace hp, bd_sm, if_neg (by decide), gx_n (by omega) (by decide), gx_n (by omega) (by decide), pk_us, f4, h.rk hp, ewk, nI_add]
  have hA : CR (mt_mk (u.1 0 0) (u.1 0 1) (u.1 0 2) (u.1 0 3) (u.1 0 4) (u.1 1) (u.1 2) (u.1 3) (u.1 4) (u.1 5) (u.1 6) (u.1 7) (u.1 8) (upd (u.1 9) f (nI (fld N f 4 + wk N f))) u.2) (nupd N (205 + 5 * f + 4) (fld N f 4 + wk N f)) z := by
    refine CR_fin h (fun k hk => nu_n (by omega)) fun g hg => ?_
    obtain ⟨g0, g1, g2, g3, g4⟩ := h.fin hg
    by_cases e : g = f
    · subst e
      rw [fld_ne (by omega), fld_ne (by omega), fld_ne (by omega), fld_ne (by omega), fld_eq]
      exact ⟨g0, g1, g2, g3, pk_us⟩
    · rw [fld_ne (by omega), fld_ne (by omega), fld_ne (by omega), fld_ne (by omega), fld_ne (by omega)]
      exact ⟨g0, g1, g2, g3, (pk_un e).trans g4⟩
  by_cases hlt : fld N f 4 + wk N f < N (5 + fld N f 2)
  · rw [if_pos (nI_lt hlt (by omega))]
    refine ⟨_, rfl, ?_⟩
    unfold rsS
    rw [if_pos hlt]
    exact hA
  · have hr : rsS N f = nupd (nupd (cutS (nupd N (205 + 5 * f + 4) (fld N f 4 + wk N f)) (fld N f 2) (hg N f (fld N f 2)) f) (205 + 5 * f + 1) (fld N f 1 - (if fld N f 0 = 4 then 2 else 1))) (205 + 5 * f + 4) 0 := if_neg hlt
    rw [if_neg (nI_nlt (by omega) (by omega)), gx_n (by omega) (by decide), gk_n (by omega), kd_high_ok (by omega) a2 a1, bd_sm, ehg]
    obtain ⟨u2, e2, hB⟩ := c_cut hA hp (hh := hg N f (fld N f 2)) (f := f)
    have hN4 : cutS (nupd N (205 + 5 * f + 4) (fld N f 4 + wk N f)) (fld N f 2) (hg N f (fld N f 2)) f 4 = N 4 := by
      rw [cutS_out (by omega) (by omega) (by omega) (by omega), nu_n (by omega)]
    have hfB := hB.fin (f := f) (by rw [hN4]; exact hf)
    have hk4 : fld (cutS (nupd N (205 + 5 * f + 4) (fld N f 4 + wk N f)) (fld N f 2) (hg N f (fld N f 2)) f) f 1 = fld N f 1 := by
      rw [fld_cut hp, fld_ne (by omega)]
    have eo : (if nI 0 < nI (fld N f 1) - nI (if fld N f 0 = 4 then 2 else 1) then nI (fld N f 1) - nI (if fld N f 0 = 4 then 2 else 1) else nI 0) = nI (fld N f 1 - (if fld N f 0 = 4 then 2 else 1)) := by
      have hk : (if fld N f 0 = 4 then 2 else 1) ≤ 2 := by split <;> omega
      generalize (if fld N f 0 = 4 then 2 else 1) = cc at hk ⊢
      by_cases c : cc < fld N f 1
      · rw [pk_sub (by omega), if_pos (nI_lt (by omega) (by omega))]
      · have : ¬ nI 0 < nI (fld N f 1) - nI cc := by
          rw [fa_lt, pk_sub_toInt (by omega) (by omega), nI_toInt (by decide)]; omega
        rw [if_neg this, show fld N f 1 - cc = 0 by omega]
    rw [e2, bd_sm, gx_n (by omega) (by decide), gk_n (by omega), kd_counts_ok (by omega), bd_sm, gx_n (by omega) (by decide), gx_n (by omega) (by decide), hfB.2.1, hk4, eo, hr]
    refine ⟨_, rfl, CR_fin hB (fun k hk => by rw [nu_n (by omega), nu_n (by omega)]) fun g hg => ?_⟩
    have hgB := hB.fin hg
    by_cases e : g = f
    · subst e
      rw [fld_ne (w := 0) (by omega), fld_ne (w := 0) (by omega), fld_ne (w := 1) (by omega), fld_eq, fld_ne (w := 2) (by omega), fld_ne (w := 2) (by omega), fld_ne (w := 3) (by omega), fld_ne (w := 3) (by omega), fld_eq]
      exact ⟨hgB.1, pk_us, hgB.2.2.1, hgB.2.2.2.1, pk_us⟩
    · rw [fld_ne (by omega), fld_ne (by omega), fld_ne (by omega), fld_ne (by omega), fld_ne (by omega), fld_ne (by omega), fld_ne (by omega), fld_ne (by omega), fld_ne (by omega), fld_ne (by omega)]
      exact ⟨hgB.1, (pk_un e).trans hgB.2.1, hgB.2.2.1, hgB.2.2.2.1, (pk_un e).trans hgB.2.2.2.2⟩
theorem CR_z (h : CR u N z) (z' : Int32) : CR (mt_mk (u.1 0 0) (u.1 0 1) (u.1 0 2) z' (u.1 0 4) (u.1 1) (u.1 2) (u.1 3) (u.1 4) (u.1 5) (u.1 6) (u.1 7) (u.1 8) (u.1 9) u.2) N z' :=
  ⟨h.1, h.2.1, h.2.2.1, rfl, h.2.2.2.2⟩
theorem c_fz_l (hb : BN N) : ∀ n p u, p ≤ 40 → 40 < p + n → CR u (fzS N z p).1 (fzS N z p).2 → ∃ u', f_X4_freeze_b2 n u (nI p) = some u' ∧ CR u' (fzA N z).1 (fzA N z).2
  | 0, p, u, h1, h2, h => by omega
  | n + 1, p, u, h1, h2, h => by
    rw [q_X4_freeze_b2]
    rcases Nat.lt_or_ge p 40 with hp | hp
    · have hN1 : (fzS N z p).1 1 = N 1 := fz_out (by omega) p h1
      rw [if_neg (nI_ge hp (by decide)), c_isWhole h hp, bd_sm]
      by_cases e : (fzS N z p).1 (45 + p) = 1
      · have hA := CR_z h (nz (fzS N z p).2)
        have hz : u.1 0 3 = (fzS N z p).2 := h.2.2.2.1
        have hf1 : u.1 0 1 = nI (N 1) := by rw [← hN1]; exact h.2.1
        rw [if_neg (fun q => m_whole0.mp q e), q_X4_draw, bd_sm, hz]
        have e2 : (fzS N z p).2 * nI 1103515245 + nI 12345 = nz (fzS N z p).2 := rfl
        have e3 : ∀ w : Int32, ((w.toUInt32 >>> ((nI 8).toUInt32 &&& Int32.toUInt32 31)).toInt32) - ((w.toUInt32 >>> ((nI 8).toUInt32 &&& Int32.toUInt32 31)).toInt32) / (nI 10) * (nI 10) = drw w := fun _ => rfl
        rw [e2, e3]
        have e5 : (mt_mk (u.1 0 0) (u.1 0 1) (u.1 0 2) (nz (fzS N z p).2) (u.1 0 4) (u.1 1) (u.1 2) (u.1 3) (u.1 4) (u.1 5) (u.1 6) (u.1 7) (u.1 8) (u.1 9) u.2).1 0 1 = u.1 0 1 := rfl
        show ∃ u', (if (mt_mk (u.1 0 0) (u.1 0 1) (u.1 0 2) (nz (fzS N z p).2) (u.1 0 4) (u.1 1) (u.1 2) (u.1 3) (u.1 4) (u.1 5) (u.1 6) (u.1 7) (u.1 8) (u.1 9) u.2).1 0 1 ≤ drw (nz (fzS N z p).2) then f_X4_freeze_b32 (f_X4_freeze_b2 n) (mt_mk (u.1 0 0) (u.1 0 1) (u.1 0 2) (nz (fzS N z p).2) (u.1 0 4) (u.1 1) (u.1 2) (u.1 3) (u.1 4) (u.1 5) (u.1 6) (u.1 7) (u.1 8) (u.1 9) u.2) (nI p) else bd (f_X4_breakUp (mt_mk (u.1 0 0) (u.1 0 1) (u.1 0 2) (nz (fzS N z p).2) (u.1 0 4) (u.1 1) (u.1 2) (u.1 3) (u.1 4) (u.1 5) (u.1 6) (u.1 7) (u.1 8) (u.1 9) u.2) (nI p)) (fun r6 => f_X4_freeze_b32 (f_X4_freeze_b2 n) r6 (nI p))) = some u' ∧ _
        rw [e5, hf1]
        by_cases e4 : nI (N 1) ≤ drw (nz (fzS N z p).2)
        · rw [if_pos e4, q_X4_freeze_b32, nI_add]
          refine c_fz_l hb n (p + 1) _ (by omega) (by omega) ?_
          rw [fzS_s, if_pos e, if_pos e4, ← hf1]
          exact hA
        · obtain ⟨u2, hr, hB⟩ := c_break hA hp
          rw [hf1] at hr
          rw [if_neg e4, hr, bd_sm, q_X4_freeze_b32, nI_add]
          refine c_fz_l hb n (p + 1) _ (by omega) (by omega) ?_
          rw [fzS_s, if_pos e, if_neg e4]
          exact hB
      · rw [if_pos (m_whole0.mpr e), q_X4_freeze_b32, nI_add]
        refine c_fz_l hb n (p + 1) _ (by omega) (by omega) ?_
        rw [fzS_s, if_neg e]
        exact h
    · have e : p = 40 := by omega
      subst e
      rw [if_pos (nI_le (Nat.le_refl _) (by decide))]
      exact ⟨u, rfl, h⟩
theorem c_yr_l (hb : BN N) : ∀ n f u, f ≤ N 4 → N 4 < f + n → CR u (syS N f) z → ∃ u', f_X4_goYear_b2 n u (nI f) = some u' ∧ CR u' (yrS N z).1 (yrS N z).2
  | 0, f, u, h1, h2, h => by omega
  | n + 1, f, u, h1, h2, h => by
    have h10 := hb.2.2.1
    have h9 := hb.1
    have hbf := BN_sy hb f (by omega)
    have hN4 : syS N f 4 = N 4 := sy_out hb (by omega) f (by omega)
    rw [q_X4_goYear_b2, h.mn, hN4]
    rcases Nat.lt_or_ge f (N 4) with hf | hf
    · have hff : f < syS N f 4 := by rw [hN4]; exact hf
      obtain ⟨f0, f1, f2, f3, f4⟩ := h.fin hff
      obtain ⟨b0, b1, b2, b3, b4, -⟩ := hbf.2.2.2.2 f (by omega)
      have es : syS N (f + 1) = svS (syS N f) f := rfl
      rw [if_neg (nI_ge hf (by omega)), gx_n (by omega) (by decide), nI_clamp (by omega), f1]
      by_cases c1 : fld (syS N f) f 1 = 0
      · rw [if_pos (nI_le (by omega) (by decide)), q_X4_goYear_b46, nI_add]
        refine c_yr_l hb n (f + 1) u (by omega) (by omega) ?_
        rw [es]
        unfold svS
        rw [if_pos (Or.inl c1)]
        exact h
      · rw [if_neg (nI_ge (by omega) (by omega))]
        by_cases c2 : cw (syS N f) 40 = 40
        · rw [if_pos ((c_full h hbf).mpr c2), q_X4_goYear_b46, nI_add]
          refine c_yr_l hb n (f + 1) u (by omega) (by omega) ?_
          rw [es]
          unfold svS
          rw [if_pos (Or.inr c2)]
          exact h
        · obtain ⟨d1, d2, d3⟩ := dS_ok hbf (f := f) (by omega) c2
          obtain ⟨u2, e2, hA⟩ := c_goOn_l (f := f) (dS (syS N f) f) 1000 0 (syS N f) u h hbf hff d2 d3 (by omega) (by omega)
          have hbm := BN_mv hbf (f := f) (d := dS (syS N f) f) (by omega)
          have hfm : f < mvS (syS N f) f (dS (syS N f) f) 4 := by rw [mv_out (by omega) (by omega)]; exact hff
          obtain ⟨u3, e3, hB⟩ := c_workOn hA hbm hfm
          rw [if_neg (fun q => c2 ((c_full h hbf).mp q)), q_X4_goOn, e2, bd_sm, (hA.fin hfm).2.2.1, e3, bd_sm, gx_n (by omega) (by decide), q_X4_goYear_b46, nI_add]
          refine c_yr_l hb n (f + 1) u3 (by omega) (by omega) ?_
          rw [es]
          unfold svS
          rw [if_neg (by omega)]
          exact hB
    · have e : f = N 4 := by omega
      subst e
      have hN1 : syS N (N 4) 1 = N 1 := sy_out hb (by omega) (N 4) h10
      have hN0 : syS N (N 4) 0 = N 0 := sy_out hb (by omega) (N 4) h10
      have last : ∀ (u : MtS) (M : Nat → Nat) (w : Int32), CR u M w → M 0 = N 0 → ∃ u', f_X4_goYear_b63 u = some u' ∧ CR u' (nupd M 0 (N 0 + 1)) w := by
        intro u M w hM h0
        rw [q_X4_goYear_b63]
        refine ⟨_, rfl, CR_put0 hM ?_⟩
        rw [hM.1, h0, nI_add]
      rw [if_pos (nI_le (Nat.le_refl _) (by omega)), h.2.1, hN1]
      by_cases e1 : N 1 = 0
      · rw [if_pos (nI_le (by omega) (by decide)), yr_a e1]
        exact last u _ z h hN0
      · obtain ⟨u2, e2, hB⟩ := c_fz_l (N := syS N (N 4)) (z := z) (BN_sy hb (N 4) h10) 1000 0 u (by decide) (by decide) h
        rw [if_neg (nI_ge (by omega) (by omega)), q_X4_freeze, e2, bd_sm, yr_b e1]
        have h00 := (fzA_out (N := syS N (N 4)) (z := z) (k := 0) (by omega)).trans hN0
        generalize fzA (syS N (N 4)) z = q at hB h00 ⊢
        exact last u2 q.1 q.2 hB h00
theorem c_year (h : CR u N z) (hb : BN N) : ∃ u', f_X4_goYear u = some u' ∧ CR u' (yrS N z).1 (yrS N z).2 := by
  have := hb.2.2.1
  rw [q_X4_goYear]
  exact c_yr_l hb 1000 0 u (Nat.zero_le _) (by omega) h
end CY
