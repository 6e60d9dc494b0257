/-! a year, as the model goes it -/
def BN (N : Nat → Nat) : Prop := N 1 ≤ 9 ∧ N 2 ≤ 20 ∧ N 4 ≤ 10 ∧ (∀ p, p < 40 → 1 ≤ N (5 + p) ∧ N (5 + p) ≤ 9 ∧ N (45 + p) ≤ 1 ∧ N (85 + p) ≤ 40 ∧ N (125 + p) ≤ 10) ∧ (∀ f, f < 10 → fld N f 0 ≤ 5 ∧ fld N f 1 ≤ 40 ∧ fld N f 2 ≤ 39 ∧ fld N f 3 ≤ 9 ∧ fld N f 4 ≤ 9 ∧ (f < N 4 → 1 ≤ fld N f 3))
def rsS (N : Nat → Nat) (f : Nat) : Nat → Nat := if fld N f 4 + wk N f < N (5 + fld N f 2) then nupd N (205 + 5 * f + 4) (fld N f 4 + wk N f) else nupd (nupd (cutS (nupd N (205 + 5 * f + 4) (fld N f 4 + wk N f)) (fld N f 2) (hg N f (fld N f 2)) f) (205 + 5 * f + 1) (fld N f 1 - (if fld N f 0 = 4 then 2 else 1))) (205 + 5 * f + 4) 0
def mvS (N : Nat → Nat) (f d : Nat) : Nat → Nat := if d = 0 then N else nupd (nupd N (205 + 5 * f + 2) ((fld N f 2 + d) % 40)) (205 + 5 * f + 4) 0
def dS (N : Nat → Nat) (f : Nat) : Nat := fa_first (fun i => decide (¬ N (45 + (fld N f 2 + i) % 40) = 1)) 40
def svS (N : Nat → Nat) (f : Nat) : Nat → Nat := if fld N f 1 = 0 ∨ cw N 40 = 40 then N else rsS (mvS N f (dS N f)) f
theorem BN.w {N : Nat → Nat} (h : BN N) : ∀ q, q < 40 → N (45 + q) ≤ 1 := fun q hq => (h.2.2.2.1 q hq).2.2.1
theorem hg_le {N : Nat → Nat} (h : BN N) {f p : Nat} (hp : p < 40) : hg N f p ≤ 25 := by
  have := (h.2.2.2.1 p hp).2.1
  unfold hg
  repeat' split
  all_goals omega
theorem wk_le {N : Nat → Nat} (h : BN N) {f : Nat} (hf : f < 10) : wk N f ≤ 22 := by
  have := (h.2.2.2.2 f hf).2.2.2.1
  unfold wk
  repeat' split
  all_goals omega
theorem cutS_out {N : Nat → Nat} {p hh f k : Nat} (h1 : k ≠ 45 + p) (h2 : k ≠ 85 + p) (h3 : k ≠ 125 + p) (h4 : k ≠ 165 + p) : cutS N p hh f k = N k := by
  unfold cutS
  rw [nu_n h4, nu_n h3, nu_n h2, nu_n h1]
theorem fld_ne {N : Nat → Nat} {f w k v : Nat} (h : 205 + 5 * f + w ≠ k) : fld (nupd N k v) f w = fld N f w := nu_n h
theorem fld_cut {N : Nat → Nat} {p hh g f w : Nat} (hp : p < 40) : fld (cutS N p hh g) f w = fld N f w := cutS_out (by omega) (by omega) (by omega) (by omega)
section MY
variable {o : Nat} {r0 row : Nat → Int32} {N : Nat → Nat} {z : Int32}
theorem m_whole0 {c : Prop} [Decidable c] : ((if c then nI 1 else nI 0) = nI 0) ↔ ¬ c := by
  by_cases h : c
  · rw [if_pos h]; exact ⟨fun q => absurd q (by decide), fun q => absurd h q⟩
  · rw [if_neg h]; exact ⟨fun _ => h, fun _ => rfl⟩
theorem m_tail (h : MR o r0 row N z) (ho : o ≤ 255) {f a b : Nat} (hf : f < 10) (ha : a < 1000) (hb : b < 1000) : ∃ row', f_X10_serves_b130 (nI o) row (nI f) (nI b) (nI a) = some row' ∧ MR o r0 row' (nupd (nupd N (205 + 5 * f + 1) (a - b)) (205 + 5 * f + 4) 0) z := by
  have key : ∀ v : Nat, v = a - b → ∃ row', f_X10_serves_b147 (nI o) row (nI f) (nI v) (nI 1) (nI f) = some row' ∧ MR o r0 row' (nupd (nupd N (205 + 5 * f + 1) (a - b)) (205 + 5 * f + 4) 0) z := by
    intro v hv
    have h1 := (h.put (k := 205 + 5 * f + 1) (by omega) (by omega) (v := a - b) (Or.inr (by omega))).put (k := 205 + 5 * f + 4) (by omega) (by omega) (v := 0) (Or.inr (by decide))
    refine ⟨_, ?_, h1⟩
    rw [q_X10_serves_b147, m_sets ho hf (by decide), bd_sm, m_sets ho hf (by decide), bd_sm, hv]
  rw [q_X10_serves_b130]
  by_cases hab : b ≤ a
  · rw [pk_sub hab, if_pos (nI_le (Nat.zero_le _) (by omega))]
    exact key _ rfl
  · have hneg : ¬ nI 0 ≤ nI a - nI b := by
      rw [fa_le, pk_sub_toInt (by omega) (by omega), nI_toInt (by decide)]
      omega
    rw [if_neg hneg]
    exact key 0 (by omega)
theorem m_srv0 (h : MR o r0 row N z) (hb : BN N) (ho : o ≤ 255) {f : Nat} (hf : f < 10) (n : Nat) (hw : ¬ N (45 + fld N f 2) = 1) : ∃ row', f_X10_serves_b19 (nI o) (n + 1) row (nI f) = some row' ∧ MR o r0 row' (rsS N f) z := by
  obtain ⟨b0, b1, b2, b3, b4, -⟩ := hb.2.2.2.2 f hf
  have hp : fld N f 2 < 40 := by omega
  obtain ⟨k1, k2, k3, k4, k5⟩ := hb.2.2.2.1 _ hp
  have hwk := wk_le hb hf
  have hhg := hg_le hb hp (f := f)
  have hA := h.put (k := 205 + 5 * f + 4) (by omega) (by omega) (v := fld N f 4 + wk N f) (Or.inr (by omega))
  have ehg : hg (nupd N (205 + 5 * f + 4) (fld N f 4 + wk N f)) f (fld N f 2) = hg N f (fld N f 2) := by
    unfold hg
    rw [fld_ne (by omega), nu_n (by omega)]
  rw [q_X10_serves_b19, m_fineOf h ho hf (by decide), bd_sm, m_isWhole h ho hp, bd_sm, if_pos (m_whole0.mpr hw), bd_sm, m_fineOf h ho hf (by decide), bd_sm, m_works h ho hb.w hf, bd_sm, nI_add, m_sets ho hf (by decide), bd_sm, nI_add, m_its hA ho (by omega) (by omega), bd_sm, nu_n (by omega)]
  by_cases hlt : fld N f 4 + wk N f < N (5 + fld N f 2)
  · rw [if_pos (nI_lt hlt (by omega))]
    refine ⟨_, rfl, ?_⟩
    unfold rsS
    rw [if_pos hlt]
    exact hA
  · rw [if_neg (nI_nlt (by omega) (by omega)), m_highAt hA ho hf hp, bd_sm, ehg]
    obtain ⟨row2, hc, hB⟩ := m_cuts hA ho hp (hh := hg N f (fld N f 2)) (f := f) (by omega) (by omega)
    rw [hc, bd_sm, m_fineOf hB ho hf (by decide), bd_sm, m_fineOf hB ho hf (by decide), bd_sm, fld_cut hp, fld_cut hp, fld_ne (by omega), fld_ne (by omega)]
    have hr : rsS N f = nupd (nupd (cutS (nupd N (205 + 5 * f + 4) (fld N f 4 + wk N f)) (fld N f 2) (hg N f (fld N f 2)) f) (205 + 5 * f + 1) (fld N f 1 - (if fld N f 0 = 4 then 2 else 1))) (205 + 5 * f + 4) 0 := if_neg hlt
    rw [hr]
    by_cases h4 : fld N f 0 = 4
    · rw [if_pos (by rw [h4]), if_pos h4]
      exact m_tail hB ho hf (by omega) (by decide)
    · rw [if_neg (fun q => h4 ((nI_eq (by omega) (by decide)).mp q)), if_neg h4]
      exact m_tail hB ho hf (by omega) (by decide)
theorem m_srv1 (h : MR o r0 row N z) (hb : BN N) (ho : o ≤ 255) {f : Nat} (hf : f < 10) (n : Nat) (hw : N (45 + fld N f 2) = 1) : ∃ row', f_X10_serves_b19 (nI o) (n + 1) row (nI f) = f_X10_serves_b19 (nI o) n row' (nI f) ∧ MR o r0 row' (mvS N f 1) z := by
  obtain ⟨b0, b1, b2, b3, b4, -⟩ := hb.2.2.2.2 f hf
  have hp : fld N f 2 < 40 := by omega
  have hA := (h.put (k := 205 + 5 * f + 2) (by omega) (by omega) (v := (fld N f 2 + 1) % 40) (Or.inr (by omega))).put (k := 205 + 5 * f + 4) (by omega) (by omega) (v := 0) (Or.inr (by decide))
  refine ⟨_, ?_, hA⟩
  rw [q_X10_serves_b19, m_fineOf h ho hf (by decide), bd_sm, m_isWhole h ho hp, bd_sm, if_neg (fun q => m_whole0.mp q hw), bd_sm, nI_add, pk_rem (by omega) (by decide) (by decide), m_sets ho hf (by decide), bd_sm, m_sets ho hf (by decide), bd_sm]
end MY
theorem mv_fld {N : Nat → Nat} {f d w : Nat} (hd : d ≠ 0) (h2 : w ≠ 2) (h4 : w ≠ 4) : fld (mvS N f d) f w = fld N f w := by
  unfold mvS
  rw [if_neg hd, fld_ne (by omega), fld_ne (by omega)]
theorem mv_at {N : Nat → Nat} {f d : Nat} (hd : d ≠ 0) : fld (mvS N f d) f 2 = (fld N f 2 + d) % 40 := by
  unfold mvS
  rw [if_neg hd, fld_ne (by omega)]
  exact nu_s
theorem mv_out {N : Nat → Nat} {f d k : Nat} (hk : k < 205 ∨ 255 ≤ k) (hf : f < 10) : mvS N f d k = N k := by
  unfold mvS
  split
  · rfl
  · rw [nu_n (by omega), nu_n (by omega)]
theorem mv_oth {N : Nat → Nat} {f d g w : Nat} (hg : g ≠ f) (hw : w < 5) : fld (mvS N f d) g w = fld N g w := by
  unfold mvS
  split
  · rfl
  · rw [fld_ne (by omega), fld_ne (by omega)]
theorem mv_succ {N : Nat → Nat} {f d : Nat} : mvS (mvS N f 1) f d = mvS N f (d + 1) := by
  by_cases hd : d = 0
  · subst hd; rfl
  · funext k
    have e : (fld (mvS N f 1) f 2 + d) % 40 = (fld N f 2 + (d + 1)) % 40 := by rw [mv_at (by decide)]; omega
    have h1 : mvS (mvS N f 1) f d = nupd (nupd (mvS N f 1) (205 + 5 * f + 2) ((fld (mvS N f 1) f 2 + d) % 40)) (205 + 5 * f + 4) 0 := if_neg hd
    have h2 : mvS N f (d + 1) = nupd (nupd N (205 + 5 * f + 2) ((fld N f 2 + (d + 1)) % 40)) (205 + 5 * f + 4) 0 := if_neg (by omega)
    rw [h1, h2, e]
    by_cases k4 : k = 205 + 5 * f + 4
    · subst k4; rw [nu_s, nu_s]
    · rw [nu_n k4, nu_n k4]
      by_cases k2 : k = 205 + 5 * f + 2
      · subst k2; rw [nu_s, nu_s]
      · rw [nu_n k2, nu_n k2]
        have h3 : mvS N f 1 = nupd (nupd N (205 + 5 * f + 2) ((fld N f 2 + 1) % 40)) (205 + 5 * f + 4) 0 := rfl
        rw [h3, nu_n k4, nu_n k2]
theorem BN_mv {N : Nat → Nat} (hb : BN N) {f d : Nat} (hf : f < 10) : BN (mvS N f d) := by
  refine ⟨by rw [mv_out (by omega) hf]; exact hb.1, by rw [mv_out (by omega) hf]; exact hb.2.1, by rw [mv_out (by omega) hf]; exact hb.2.2.1, fun p hp => ?_, fun g hg => ?_⟩
  · rw [mv_out (by omega) hf, mv_out (by omega) hf, mv_out (by omega) hf, mv_out (by omega) hf]; exact hb.2.2.2.1 p hp
  · rw [mv_out (k := 4) (by omega) hf]
    by_cases e : g = f
    · subst e
      by_cases hd : d = 0
      · subst hd; exact hb.2.2.2.2 g hg
      · rw [mv_fld (w := 0) hd (by decide) (by decide), mv_fld (w := 1) hd (by decide) (by decide), mv_fld (w := 3) hd (by decide) (by decide), mv_at hd]
        have h4 : fld (mvS N g d) g 4 = 0 := by
          unfold mvS
          rw [if_neg hd]
          exact nu_s
        rw [h4]
        obtain ⟨b0, b1, b2, b3, b4, b5⟩ := hb.2.2.2.2 g hg
        exact ⟨b0, b1, by omega, b3, by omega, b5⟩
    · rw [mv_oth e (by decide), mv_oth e (by decide), mv_oth e (by decide), mv_oth e (by decide), mv_oth e (by decide)]; exact hb.2.2.2.2 g hg
section MZ
variable {o : Nat} {r0 row : Nat → Int32} {N : Nat → Nat} {z : Int32}
theorem m_srvd (ho : o ≤ 255) {f : Nat} (hf : f < 10) : ∀ (d n : Nat) (N : Nat → Nat) (row : Nat → Int32), MR o r0 row N z → BN N → (∀ i, i < d → N (45 + (fld N f 2 + i) % 40) = 1) → ¬ N (45 + (fld N f 2 + d) % 40) = 1 → d < n → ∃ row', f_X10_serves_b19 (nI o) n row (nI f) = some row' ∧ MR o r0 row' (rsS (mvS N f d) f) z
  | 0, 0, N, row, h, hb, h1, h2, hn => by omega
  | 0, n + 1, N, row, h, hb, h1, h2, hn => by
    have hp : fld N f 2 ≤ 39 := (hb.2.2.2.2 f hf).2.2.1
    have e : (fld N f 2 + 0) % 40 = fld N f 2 := by omega
    rw [e] at h2
    exact m_srv0 h hb ho hf n h2
  | d + 1, 0, N, row, h, hb, h1, h2, hn => by omega
  | d + 1, n + 1, N, row, h, hb, h1, h2, hn => by
    have hp : fld N f 2 ≤ 39 := (hb.2.2.2.2 f hf).2.2.1
    have e : (fld N f 2 + 0) % 40 = fld N f 2 := by omega
    have h0 := h1 0 (by omega)
    rw [e] at h0
    obtain ⟨row1, e1, hA⟩ := m_srv1 h hb ho hf n h0
    rw [e1, ← mv_succ]
    refine m_srvd ho hf d n (mvS N f 1) row1 hA (BN_mv hb hf) (fun i hi => ?_) ?_ (by omega)
    · rw [mv_out (by omega) hf, mv_at (by decide)]
      have := h1 (i + 1) (by omega)
      rw [show ((fld N f 2 + 1) % 40 + i) % 40 = (fld N f 2 + (i + 1)) % 40 by omega]
      exact this
    · rw [mv_out (by omega) hf, mv_at (by decide)]
      rw [show ((fld N f 2 + 1) % 40 + d) % 40 = (fld N f 2 + (d + 1)) % 40 by omega]
      exact h2
theorem cw_full {N : Nat → Nat} (hw : ∀ q, q < 40 → N (45 + q) ≤ 1) : ∀ n, n ≤ 40 → (∀ q, q < n → N (45 + q) = 1) → cw N n = n
  | 0, _, _ => rfl
  | n + 1, h, h1 => by
    have e : cw N (n + 1) = cw N n + N (45 + n) := rfl
    rw [e, cw_full hw n (by omega) (fun q hq => h1 q (by omega)), h1 n (by omega)]
theorem cw_lt {N : Nat → Nat} (hw : ∀ q, q < 40 → N (45 + q) ≤ 1) (h : ¬ cw N 40 = 40) : ∃ q, q < 40 ∧ ¬ N (45 + q) = 1 := by
  refine Classical.byContradiction fun hn => h (cw_full hw 40 (by decide) fun q hq => Classical.byContradiction fun hq2 => hn ⟨q, hq, hq2⟩)
theorem dS_ok {N : Nat → Nat} (hb : BN N) {f : Nat} (hf : f < 10) (hc : ¬ cw N 40 = 40) : dS N f < 40 ∧ (∀ i, i < dS N f → N (45 + (fld N f 2 + i) % 40) = 1) ∧ ¬ N (45 + (fld N f 2 + dS N f) % 40) = 1 := by
  obtain ⟨q, hq, hn⟩ := cw_lt hb.w hc
  have hp : fld N f 2 ≤ 39 := (hb.2.2.2.2 f hf).2.2.1
  have hlt : dS N f < 40 := by
    refine Classical.byContradiction fun hge => ?_
    have h1 := fa_first_no (fun i => decide (¬ N (45 + (fld N f 2 + i) % 40) = 1)) 40 ((q + 40 - fld N f 2) % 40) (by unfold dS at hge; omega)
    have e : (fld N f 2 + (q + 40 - fld N f 2) % 40) % 40 = q := by omega
    simp only [e, decide_eq_false_iff_not] at h1
    exact h1 hn
  refine ⟨hlt, fun i hi => ?_, ?_⟩
  · have h1 := fa_first_no (fun i => decide (¬ N (45 + (fld N f 2 + i) % 40) = 1)) 40 i hi
    simp only [decide_eq_false_iff_not, Decidable.not_not] at h1
    exact h1
  · have h1 := fa_first_yes (fun i => decide (¬ N (45 + (fld N f 2 + i) % 40) = 1)) 40 hlt
    simp only [decide_eq_true_eq] at h1
    exact h1
theorem m_serves (h : MR o r0 row N z) (hb : BN N) (ho : o ≤ 255) {f : Nat} (hf : f < 10) : ∃ row', f_X10_serves row (nI o) (nI f) = some row' ∧ MR o r0 row' (svS N f) z := by
  have h1 := h.fsmall hf (w := 1) (by decide)
  have hc := cw_le N hb.w
  rw [q_X10_serves, m_fineOf h ho hf (by decide), bd_sm]
  by_cases e1 : fld N f 1 = 0
  · rw [if_pos (by rw [e1])]
    exact ⟨row, rfl, by unfold svS; rw [if_pos (Or.inl e1)]; exact h⟩
  · rw [if_neg (fun q => e1 ((nI_eq (by omega) (by decide)).mp q)), m_wholes h ho, bd_sm]
    by_cases e2 : cw N 40 = 40
    · rw [if_pos (by rw [e2])]
      exact ⟨row, rfl, by unfold svS; rw [if_pos (Or.inr e2)]; exact h⟩
    · rw [if_neg (fun q => e2 ((nI_eq (by omega) (by decide)).mp q))]
      obtain ⟨d1, d2, d3⟩ := dS_ok hb hf e2
      have := m_srvd ho hf (dS N f) 1000 N row h hb d2 d3 (by omega)
      unfold svS
      rw [if_neg (by omega)]
      exact this
end MZ
