/-! years, reach, what is lent: the model's -/
theorem rs_out {N : Nat → Nat} {f k : Nat} (hf : f < 10) (hp : fld N f 2 < 40) (hk : k < 45 ∨ 255 ≤ k) : rsS N f k = N k := by
  unfold rsS
  split
  · rw [nu_n (by omega)]
  · rw [nu_n (by omega), nu_n (by omega), cutS_out (by omega) (by omega) (by omega) (by omega), nu_n (by omega)]
theorem rs_oth {N : Nat → Nat} {f g w : Nat} (hp : fld N f 2 < 40) (hg : g ≠ f) (hw : w < 5) : fld (rsS N f) g w = fld N g w := by
  unfold rsS
  split
  · rw [fld_ne (by omega)]
  · rw [fld_ne (by omega), fld_ne (by omega), fld_cut hp, fld_ne (by omega)]
theorem rs_own {N : Nat → Nat} {f w : Nat} (hp : fld N f 2 < 40) (h1 : w ≠ 1) (h4 : w ≠ 4) : fld (rsS N f) f w = fld N f w := by
  unfold rsS
  split
  · rw [fld_ne (by omega)]
  · rw [fld_ne (by omega), fld_ne (by omega), fld_cut hp, fld_ne (by omega)]
theorem rs_owes {N : Nat → Nat} {f : Nat} (hp : fld N f 2 < 40) : fld (rsS N f) f 1 ≤ fld N f 1 := by
  unfold rsS
  split
  · rw [fld_ne (by omega)]; exact Nat.le_refl _
  · rw [fld_ne (by omega)]
    have e : ∀ (M : Nat → Nat) (v : Nat), fld (nupd M (205 + 5 * f + 1) v) f 1 = v := fun M v => nu_s
    rw [e]
    exact Nat.sub_le _ _
theorem rs_work {N : Nat → Nat} (hb : BN N) {f : Nat} (hp : fld N f 2 < 40) : fld (rsS N f) f 4 ≤ 9 := by
  have hr := (hb.2.2.2.1 _ hp).2.1
  have e : ∀ (M : Nat → Nat) (v : Nat), fld (nupd M (205 + 5 * f + 4) v) f 4 = v := fun M v => nu_s
  unfold rsS
  split
  · rw [e]; omega
  · rw [e]; omega
theorem rs_whole {N : Nat → Nat} (hb : BN N) {f q : Nat} (hf : f < 10) (hp : fld N f 2 < 40) (hq : q < 40) : rsS N f (45 + q) ≤ 1 ∧ rsS N f (85 + q) ≤ 40 ∧ rsS N f (125 + q) ≤ 10 := by
  have hr := hb.2.2.2.1 q hq
  have hh := hg_le hb hp (f := f)
  unfold rsS
  split
  · rw [nu_n (by omega), nu_n (by omega), nu_n (by omega)]; exact ⟨hr.2.2.1, hr.2.2.2.1, hr.2.2.2.2⟩
  · rw [nu_n (by omega), nu_n (by omega), nu_n (by omega), nu_n (by omega), nu_n (by omega), nu_n (by omega)]
    by_cases e : q = fld N f 2
    · subst e
      unfold cutS
      rw [nu_n (by omega), nu_n (by omega), nu_n (by omega), nu_s, nu_n (by omega), nu_n (by omega), nu_s, nu_n (by omega), nu_s]
      omega
    · rw [cutS_out (by omega) (by omega) (by omega) (by omega), cutS_out (by omega) (by omega) (by omega) (by omega), cutS_out (by omega) (by omega) (by omega) (by omega), nu_n (by omega), nu_n (by omega), nu_n (by omega)]
      exact ⟨hr.2.2.1, hr.2.2.2.1, hr.2.2.2.2⟩
theorem BN_rs {N : Nat → Nat} (hb : BN N) {f : Nat} (hf : f < 10) : BN (rsS N f) := by
  have hp : fld N f 2 < 40 := by have := (hb.2.2.2.2 f hf).2.2.1; omega
  refine ⟨by rw [rs_out hf hp (by omega)]; exact hb.1, by rw [rs_out hf hp (by omega)]; exact hb.2.1, by rw [rs_out hf hp (by omega)]; exact hb.2.2.1, fun p hq => ?_, fun g hg => ?_⟩
  · have hw := rs_whole hb hf hp hq
    rw [rs_out (k := 5 + p) hf hp (by omega)]
    exact ⟨(hb.2.2.2.1 p hq).1, (hb.2.2.2.1 p hq).2.1, hw.1, hw.2.1, hw.2.2⟩
  · rw [rs_out (k := 4) hf hp (by omega)]
    obtain ⟨b0, b1, b2, b3, b4, b5⟩ := hb.2.2.2.2 g hg
    by_cases e : g = f
    · subst e
      rw [rs_own (w := 0) hp (by decide) (by decide), rs_own (w := 2) hp (by decide) (by decide), rs_own (w := 3) hp (by decide) (by decide)]
      exact ⟨b0, Nat.le_trans (rs_owes hp) b1, b2, b3, rs_work hb hp, b5⟩
    · rw [rs_oth hp e (by decide), rs_oth hp e (by decide), rs_oth hp e (by decide), rs_oth hp e (by decide), rs_oth hp e (by decide)]
      exact ⟨b0, b1, b2, b3, b4, b5⟩
theorem BN_sv {N : Nat → Nat} (hb : BN N) {f : Nat} (hf : f < 10) : BN (svS N f) := by
  unfold svS
  split
  · exact hb
  · exact BN_rs (BN_mv hb hf) hf
theorem sv_out {N : Nat → Nat} (hb : BN N) {f k : Nat} (hf : f < 10) (hk : k < 45 ∨ 255 ≤ k) : svS N f k = N k := by
  unfold svS
  split
  · rfl
  · have hp : fld (mvS N f (dS N f)) f 2 < 40 := by have := ((BN_mv hb hf (d := dS N f)).2.2.2.2 f hf).2.2.1; omega
    rw [rs_out hf hp hk, mv_out (by omega) hf]
def syS (N : Nat → Nat) : Nat → (Nat → Nat)
  | 0 => N
  | f + 1 => svS (syS N f) f
theorem BN_sy {N : Nat → Nat} (hb : BN N) : ∀ f, f ≤ 10 → BN (syS N f)
  | 0, _ => hb
  | f + 1, h => BN_sv (BN_sy hb f (by omega)) (by omega)
theorem sy_out {N : Nat → Nat} (hb : BN N) {k : Nat} (hk : k < 45 ∨ 255 ≤ k) : ∀ f, f ≤ 10 → syS N f k = N k
  | 0, _ => rfl
  | f + 1, h => by
    show svS (syS N f) f k = N k
    rw [sv_out (BN_sy hb f (by omega)) (by omega) hk, sy_out hb hk f (by omega)]
def drw (z : Int32) : Int32 := ((z.toUInt32 >>> ((nI 8).toUInt32 &&& Int32.toUInt32 31)).toInt32) - ((z.toUInt32 >>> ((nI 8).toUInt32 &&& Int32.toUInt32 31)).toInt32) / (nI 10) * (nI 10)
def nz (z : Int32) : Int32 := z * nI 1103515245 + nI 12345
def fzS (N : Nat → Nat) (z : Int32) : Nat → (Nat → Nat) × Int32
  | 0 => (N, z)
  | p + 1 => if (fzS N z p).1 (45 + p) = 1 then (if nI (N 1) ≤ drw (nz (fzS N z p).2) then ((fzS N z p).1, nz (fzS N z p).2) else (brkS (fzS N z p).1 p, nz (fzS N z p).2)) else fzS N z p
theorem fzS_s (N : Nat → Nat) (z : Int32) (p : Nat) : fzS N z (p + 1) = if (fzS N z p).1 (45 + p) = 1 then (if nI (N 1) ≤ drw (nz (fzS N z p).2) then ((fzS N z p).1, nz (fzS N z p).2) else (brkS (fzS N z p).1 p, nz (fzS N z p).2)) else fzS N z p := rfl
theorem brk_out {N : Nat → Nat} {p k : Nat} (hp : p < 40) (hk : k < 45 ∨ 205 ≤ k) : brkS N p k = N k := by
  unfold brkS
  rw [nu_n (by omega), nu_n (by omega), nu_n (by omega), nu_n (by omega)]
theorem fz_out {N : Nat → Nat} {z : Int32} {k : Nat} (hk : k < 45 ∨ 205 ≤ k) : ∀ p, p ≤ 40 → (fzS N z p).1 k = N k
  | 0, _ => rfl
  | p + 1, h => by
    have ih := fz_out (N := N) (z := z) hk p (by omega)
    rw [fzS_s]
    split
    · split
      · exact ih
      · show brkS _ p k = N k
        rw [brk_out (by omega) hk, ih]
    · exact ih
theorem brk_le {N : Nat → Nat} {p k : Nat} : brkS N p k ≤ N k := by
  unfold brkS nupd
  repeat' split
  all_goals omega
theorem fz_le {N : Nat → Nat} {z : Int32} {k : Nat} : ∀ p, (fzS N z p).1 k ≤ N k
  | 0 => Nat.le_refl _
  | p + 1 => by
    have ih := fz_le (N := N) (z := z) (k := k) p
    rw [fzS_s]
    split
    · split
      · exact ih
      · exact Nat.le_trans brk_le ih
    · exact ih
theorem BN_fz {N : Nat → Nat} (hb : BN N) (z : Int32) {p : Nat} (hp : p ≤ 40) : BN (fzS N z p).1 := by
  refine ⟨by rw [fz_out (by omega) p hp]; exact hb.1, by rw [fz_out (by omega) p hp]; exact hb.2.1, by rw [fz_out (by omega) p hp]; exact hb.2.2.1, fun q hq => ?_, fun f hf => ?_⟩
  · obtain ⟨a1, a2, a3, a4, a5⟩ := hb.2.2.2.1 q hq
    rw [fz_out (k := 5 + q) (by omega) p hp]
    exact ⟨a1, a2, Nat.le_trans (fz_le p) a3, Nat.le_trans (fz_le p) a4, Nat.le_trans (fz_le p) a5⟩
  · unfold fld
    rw [fz_out (by omega) p hp, fz_out (by omega) p hp, fz_out (by omega) p hp, fz_out (by omega) p hp, fz_out (by omega) p hp, fz_out (by omega) p hp]
    exact hb.2.2.2.2 f hf
def fzA (N : Nat → Nat) (z : Int32) : (Nat → Nat) × Int32 := fzS N z 40
def yrS (N : Nat → Nat) (z : Int32) : (Nat → Nat) × Int32 := if N 1 = 0 then (nupd (syS N (N 4)) 0 (N 0 + 1), z) else (nupd (fzA (syS N (N 4)) z).1 0 (N 0 + 1), (fzA (syS N (N 4)) z).2)
theorem BN_fzA {N : Nat → Nat} (hb : BN N) (z : Int32) : BN (fzA N z).1 := by
  unfold fzA
  exact BN_fz hb z (Nat.le_refl 40)
theorem fzA_out {N : Nat → Nat} {z : Int32} {k : Nat} (hk : k < 45 ∨ 205 ≤ k) : (fzA N z).1 k = N k := by
  unfold fzA
  exact fz_out hk 40 (Nat.le_refl 40)
theorem yr_a {N : Nat → Nat} {z : Int32} (h : N 1 = 0) : yrS N z = (nupd (syS N (N 4)) 0 (N 0 + 1), z) := if_pos h
theorem yr_b {N : Nat → Nat} {z : Int32} (h : ¬ N 1 = 0) : yrS N z = (nupd (fzA (syS N (N 4)) z).1 0 (N 0 + 1), (fzA (syS N (N 4)) z).2) := if_neg h
theorem BN_put0 {N : Nat → Nat} (hb : BN N) (v : Nat) : BN (nupd N 0 v) := by
  refine ⟨by rw [nu_n (by omega)]; exact hb.1, by rw [nu_n (by omega)]; exact hb.2.1, by rw [nu_n (by omega)]; exact hb.2.2.1, fun q hq => ?_, fun f hf => ?_⟩
  · rw [nu_n (by omega), nu_n (by omega), nu_n (by omega), nu_n (by omega)]; exact hb.2.2.2.1 q hq
  · rw [fld_ne (by omega), fld_ne (by omega), fld_ne (by omega), fld_ne (by omega), fld_ne (by omega), nu_n (by omega)]; exact hb.2.2.2.2 f hf
theorem BN_yr {N : Nat → Nat} (hb : BN N) (z : Int32) : BN (yrS N z).1 := by
  have h := BN_sy hb (N 4) hb.2.2.1
  by_cases e : N 1 = 0
  · rw [yr_a e]
    exact BN_put0 h _
  · rw [yr_b e]
    have hz := BN_fzA h z
    generalize fzA (syS N (N 4)) z = q at hz ⊢
    exact BN_put0 hz _
def gyS (N : Nat → Nat) (z : Int32) : Nat → (Nat → Nat) × Int32
  | 0 => (N, z)
  | n + 1 => yrS (gyS N z n).1 (gyS N z n).2
theorem BN_gy {N : Nat → Nat} (hb : BN N) (z : Int32) : ∀ n, BN (gyS N z n).1
  | 0 => hb
  | n + 1 => BN_yr (BN_gy hb z n) _
def met (N : Nat → Nat) (m p : Nat) : Prop := N (85 + p) ≤ N (85 + p - 1) + m ∧ N (85 + p - 1) ≤ N (85 + p) + m
def rcS (N : Nat → Nat) (m : Nat) : Nat → Nat → Nat
  | 0, n => n
  | k + 1, n => if N (45 + n) = 1 ∧ (n = 0 ∨ (N (85 + n) ≤ N (85 + n - 1) + m ∧ N (85 + n - 1) ≤ N (85 + n) + m)) then rcS N m k (n + 1) else n
def rch (N : Nat → Nat) : Nat := rcS N (N 2) 40 0
theorem rc_le {N : Nat → Nat} {m : Nat} : ∀ k n, rcS N m k n ≤ n + k
  | 0, n => Nat.le_refl _
  | k + 1, n => by
    unfold rcS
    split
    · have := rc_le (N := N) (m := m) k (n + 1); omega
    · omega
section MG
variable {o : Nat} {r0 row : Nat → Int32} {N : Nat → Nat} {z : Int32}
theorem m_fz_l (ho : o ≤ 255) (hb : BN N) : ∀ n p row, p ≤ 40 → 40 < p + n → MR o r0 row (fzS N z p).1 (fzS N z p).2 → ∃ row', f_X10_freezes_b2 (nI o) n row (nI p) = some row' ∧ MR o r0 row' (fzA N z).1 (fzA N z).2
  | 0, p, row, h1, h2, h => by omega
  | n + 1, p, row, h1, h2, h => by
    rw [q_X10_freezes_b2]
    rcases Nat.lt_or_ge p 40 with hp | hp
    · have hN1 : (fzS N z p).1 1 = N 1 := fz_out (by omega) p h1
      have h1b := hb.1
      rw [if_neg (nI_ge hp (by decide)), m_isWhole h ho hp, bd_sm]
      by_cases e : (fzS N z p).1 (45 + p) = 1
      · have hA := h.putz (nz (fzS N z p).2)
        rw [if_neg (fun q => m_whole0.mp q e), m_itz h ho, bd_sm, nI_add, gx_n (by omega) (by decide), nI_clamp (by omega)]
        have e2 : (fzS N z p).2 * nI 1103515245 + nI 12345 = nz (fzS N z p).2 := rfl
        rw [e2, m_its hA ho (by decide) (by decide), bd_sm, hN1]
        have e3 : ∀ w : Int32, ((w.toUInt32 >>> ((nI 8).toUInt32 &&& Int32.toUInt32 31)).toInt32) - ((w.toUInt32 >>> ((nI 8).toUInt32 &&& Int32.toUInt32 31)).toInt32) / (nI 10) * (nI 10) = drw w := fun _ => rfl
        rw [e3]
        by_cases e4 : nI (N 1) ≤ drw (nz (fzS N z p).2)
        · rw [if_pos e4, q_X10_freezes_b61, nI_add]
          refine m_fz_l ho hb n (p + 1) _ (by omega) (by omega) ?_
          rw [fzS_s, if_pos e, if_pos e4]
          exact hA
        · obtain ⟨row2, hr, hB⟩ := m_breaks hA ho hp
          rw [if_neg e4, hr, bd_sm, q_X10_freezes_b61, nI_add]
          refine m_fz_l ho hb n (p + 1) _ (by omega) (by omega) ?_
          rw [fzS_s, if_pos e, if_neg e4]
          exact hB
      · rw [if_pos (m_whole0.mpr e), q_X10_freezes_b61, nI_add]
        refine m_fz_l ho hb n (p + 1) _ (by omega) (by omega) ?_
        rw [fzS_s, if_neg e]
        exact h
    · have e : p = 40 := by omega
      subst e
      rw [if_pos (nI_le (Nat.le_refl _) (by decide))]
      exact ⟨row, rfl, h⟩
theorem m_yr_l (ho : o ≤ 255) (hb : BN N) : ∀ n f row, f ≤ N 4 → N 4 < f + n → MR o r0 row (syS N f) z → ∃ row', f_X10_yearGoes_b2 (nI o) n row (nI f) = some row' ∧ MR o r0 row' (yrS N z).1 (yrS N z).2
  | 0, f, row, h1, h2, h => by omega
  | n + 1, f, row, h1, h2, h => by
    have h10 := hb.2.2.1
    have h9 := hb.1
    have hN4 : syS N f 4 = N 4 := sy_out hb (by omega) f (by omega)
    rw [q_X10_yearGoes_b2, m_its h ho (by decide) (by decide), bd_sm, hN4]
    rcases Nat.lt_or_ge f (N 4) with hf | hf
    · rw [if_neg (nI_ge hf (by omega))]
      obtain ⟨row2, e, hA⟩ := m_serves h (BN_sy hb f (by omega)) ho (f := f) (by omega)
      rw [e, bd_sm, nI_add]
      exact m_yr_l ho hb n (f + 1) row2 (by omega) (by omega) hA
    · have e : f = N 4 := by omega
      subst e
      have hN1 : syS N (N 4) 1 = N 1 := sy_out hb (by omega) (N 4) h10
      have hN0 : syS N (N 4) 0 = N 0 := sy_out hb (by omega) (N 4) h10
      have last : ∀ (row : Nat → Int32) (M : Nat → Nat) (w : Int32), MR o r0 row M w → M 0 = N 0 → ∃ row', f_X10_yearGoes_b34 (nI o) row = some row' ∧ MR o r0 row' (nupd M 0 (N 0 + 1)) w := by
        intro row M w hM h0
        have hA := hM.put (k := 0) (by decide) (by decide) (v := N 0 + 1) (Or.inl (Or.inl rfl))
        refine ⟨_, ?_, hA⟩
        have hg : row (o + 0) = nI (N 0) := by rw [hM.get (by decide) (by decide), h0]
        rw [q_X10_yearGoes_b34, nI_add, gx_n (by omega) (by decide), gx_n (by omega) (by decide), nI_clamp (by omega), hg, nI_add]
      rw [if_pos (nI_le (Nat.le_refl _) (by omega)), m_its h ho (by decide) (by decide), bd_sm, hN1]
      by_cases e1 : N 1 = 0
      · rw [if_pos (nI_le (by omega) (by decide))]
        rw [yr_a e1]
        exact last row _ z h hN0
      · rw [if_neg (nI_ge (by omega) (by omega)), q_X10_freezes]
        obtain ⟨row2, e2, hB⟩ := m_fz_l (r0 := r0) (N := syS N (N 4)) (z := z) ho (BN_sy hb (N 4) h10) 1000 0 row (by decide) (by decide) h
        rw [e2, bd_sm]
        rw [yr_b e1]
        have h00 := (fzA_out (N := syS N (N 4)) (z := z) (k := 0) (by omega)).trans hN0
        generalize fzA (syS N (N 4)) z = q at hB h00 ⊢
        exact last row2 q.1 q.2 hB h00
theorem m_year (h : MR o r0 row N z) (hb : BN N) (ho : o ≤ 255) : ∃ row', f_X10_yearGoes row (nI o) = some row' ∧ MR o r0 row' (yrS N z).1 (yrS N z).2 :=
  m_yr_l ho hb 1000 0 row (Nat.zero_le _) (by have := hb.2.2.1; omega) h
theorem m_go_l (ho : o ≤ 255) (hb : BN N) {k : Nat} (hk : k < 1000) : ∀ n i row, i ≤ k → k < i + n → MR o r0 row (gyS N z i).1 (gyS N z i).2 → ∃ row', f_X10_go_b2 (nI o) n row (nI k) (nI i) = some row' ∧ MR o r0 row' (gyS N z k).1 (gyS N z k).2
  | 0, i, row, h1, h2, h => by omega
  | n + 1, i, row, h1, h2, h => by
    rw [q_X10_go_b2]
    rcases Nat.lt_or_ge i k with hi | hi
    · rw [if_neg (nI_ge hi (by omega))]
      obtain ⟨row2, e, hA⟩ := m_year h (BN_gy hb z i) ho
      rw [e, bd_sm, nI_add]
      exact m_go_l ho hb hk n (i + 1) row2 (by omega) (by omega) hA
    · have e : i = k := by omega
      subst e
      rw [if_pos (nI_le (Nat.le_refl _) (by omega))]
      exact ⟨row, rfl, h⟩
theorem m_go (h : MR o r0 row N z) (hb : BN N) (ho : o ≤ 255) {k : Nat} (hk : k < 1000) : ∃ row', f_X10_go row (nI o) (nI k) = some row' ∧ MR o r0 row' (gyS N z k).1 (gyS N z k).2 :=
  m_go_l ho hb hk 1000 0 row (Nat.zero_le _) (by omega) h
theorem m_rises (h : MR o r0 row N z) (ho : o ≤ 255) {p : Nat} (hp : p < 40) (h1 : 1 ≤ p) : f_X10_rises row (nI o) (nI p) = some (nI (N (85 + p)) - nI (N (85 + p - 1))) := by
  rw [q_X10_rises, nI_add, m_its h ho (by omega) (by omega), bd_sm, pk_sub (by omega), m_its h ho (by omega) (by omega), bd_sm]
theorem m_meets (h : MR o r0 row N z) (ho : o ≤ 255) {p : Nat} (hp : p < 40) (h1 : 1 ≤ p) : f_X10_meets row (nI o) (nI p) = some (if N (85 + p) ≤ N (85 + p - 1) + N 2 ∧ N (85 + p - 1) ≤ N (85 + p) + N 2 then nI 1 else nI 0) := by
  have s1 := h.small (85 + p) (by omega) (by omega) (by omega) (by omega)
  have s2 := h.small (85 + p - 1) (by omega) (by omega) (by omega) (by omega)
  have s3 := h.small 2 (by omega) (by omega) (by omega) (by omega)
  rw [q_X10_meets, m_rises h ho hp h1, bd_sm, m_its h ho (by decide) (by decide), bd_sm, bd_sm, q_X10_in]
  have e1 : (nI (N (85 + p)) - nI (N (85 + p - 1)) < nI 0 - nI (N 2)) ↔ N (85 + p) + N 2 < N (85 + p - 1) := by
    rw [fa_lt, pk_sub_toInt (by omega) (by omega), pk_sub_toInt (by omega) (by omega)]; omega
  have e2 : (nI (N 2) < nI (N (85 + p)) - nI (N (85 + p - 1))) ↔ N (85 + p - 1) + N 2 < N (85 + p) := by
    rw [fa_lt, pk_sub_toInt (by omega) (by omega), nI_toInt (by omega)]; omega
  by_cases c1 : N (85 + p) + N 2 < N (85 + p - 1)
  · rw [if_pos (e1.mpr c1), bd_sm, gb_n0, if_neg (by omega)]
  · rw [if_neg (fun q => c1 (e1.mp q))]
    by_cases c2 : N (85 + p - 1) + N 2 < N (85 + p)
    · rw [if_pos (e2.mpr c2), bd_sm, gb_n0, if_neg (by omega)]
    · rw [if_neg (fun q => c2 (e2.mp q)), bd_sm, gb_n1, if_pos (by omega)]
theorem m_reach_l (h : MR o r0 row N z) (ho : o ≤ 255) : ∀ n k p, p + k = 40 → k < n → f_X10_reachNow_b2 row (nI o) n (nI p) = some (nI (rcS N (N 2) k p))
  | 0, k, p, h1, h2 => by omega
  | n + 1, 0, p, h1, h2 => by
    have e : p = 40 := by omega
    subst e
    rw [q_X10_reachNow_b2, if_pos (nI_le (Nat.le_refl _) (by decide))]
    rfl
  | n + 1, k + 1, p, h1, h2 => by
    have hp : p < 40 := by omega
    have step : f_X10_reachNow_b36 row (nI o) (f_X10_reachNow_b2 row (nI o) n) (nI p) = some (nI (rcS N (N 2) k (p + 1))) := by
      rw [q_X10_reachNow_b36, nI_add]
      exact m_reach_l h ho n k (p + 1) (by omega) (by omega)
    rw [q_X10_reachNow_b2, if_neg (nI_ge hp (by decide)), m_isWhole h ho hp, bd_sm]
    unfold rcS
    by_cases e : N (45 + p) = 1
    · rw [if_neg (fun q => m_whole0.mp q e)]
      by_cases e0 : p = 0
      · subst e0
        rw [if_pos rfl, step, if_pos ⟨e, Or.inl rfl⟩]
      · have hne : ¬ nI p = nI 0 := fun q => e0 ((nI_eq (by omega) (by decide)).mp q)
        rw [if_neg hne, if_neg hne, q_X10_reachNow_b30, m_meets h ho hp (by omega), bd_sm]
        by_cases c : N (85 + p) ≤ N (85 + p - 1) + N 2 ∧ N (85 + p - 1) ≤ N (85 + p) + N 2
        · rw [if_neg (fun q => m_whole0.mp q c), step, if_pos ⟨e, Or.inr c⟩]
        · rw [if_pos (m_whole0.mpr c), if_neg (fun q => q.2.elim e0 c)]
    · rw [if_pos (m_whole0.mpr e), if_neg (fun q => e q.1)]
theorem m_reach (h : MR o r0 row N z) (ho : o ≤ 255) : f_X10_reachNow row (nI o) = some (nI (rch N)) := m_reach_l h ho 1000 40 0 (by decide) (by decide)
theorem m_lends_l (row : Nat → Int32) (att : Int32) : ∀ n k, k ≤ 255 → 255 < k + n → f_X10_lends_b7 n (fb_put row row 255 k) att (nI k) = some (fb_put row row 255 255, nI 255)
  | 0, k, h1, h2 => by omega
  | n + 1, k, h1, h2 => by
    rw [q_X10_lends_b7]
    rcases Nat.lt_or_ge k 255 with hk | hk
    · rw [if_neg (nI_ge hk (by decide)), gx_n (by omega) (by decide), nI_add, gx_n (by omega) (by decide), nI_clamp (by omega), nI_clamp (by omega), nI_add, fb_put_out (f := row) (g := row) (k := k) (by omega), fb_put_succ]
      exact m_lends_l row att n (k + 1) (by omega) (by omega)
    · have e : k = 255 := by omega
      subst e
      rw [if_pos (nI_le (Nat.le_refl _) (by decide))]
theorem m_lends (h : MR 0 r0 row N z) (att : Int32) : ∃ row', f_X10_lends row att = some (row', nI 255) ∧ MR 255 row row' N z := by
  have hl := m_lends_l row (nI 0) 1000 0 (by decide) (by decide)
  rw [fb_put_0] at hl
  refine ⟨fb_put row row 255 255, by rw [q_X10_lends]; exact hl, fun k hk h3 => ?_, ?_, fun k hk => ?_, h.2.2.2⟩
  · rw [fb_put_in (by omega) (by omega)]
    have := h.get hk h3
    rw [Nat.zero_add] at this
    rw [show 255 + k - 255 = k by omega]
    exact this
  · rw [fb_put_in (by omega) (by omega)]
    exact h.2.1
  · rw [fb_put_out (by omega)]
/-- what is lent leaves what there is -/
theorem MR.back {rowT : Nat → Int32} {M : Nat → Nat} {w : Int32} (hT : MR 255 row rowT M w) (h : MR 0 r0 row N z) : MR 0 rowT rowT N z := by
  refine ⟨fun k hk h3 => ?_, ?_, fun _ _ => rfl, h.2.2.2⟩
  · rw [hT.2.2.1 _ (by omega)]; exact h.1 k hk h3
  · rw [hT.2.2.1 _ (by omega)]; exact h.2.1
end MG
