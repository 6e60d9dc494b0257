/-! years at rest, how far one climbs, copies of a mountain: the class's -/
def ow (N : Nat → Nat) : Nat → Nat := fb_sm (fun f => fld N f 1)
def RS (N : Nat → Nat) : Prop := (cw N 40 = 40 ∨ ow N (N 4) = 0) ∧ (cw N 40 = 0 ∨ N 1 = 0)
theorem ow_le {N : Nat → Nat} (hb : BN N) : ∀ k, k ≤ 10 → ow N k ≤ 40 * k
  | 0, _ => Nat.le_refl _
  | k + 1, h => by
    have h1 := ow_le hb k (by omega)
    have h2 := (hb.2.2.2.2 k (by omega)).2.1
    have e : ow N (k + 1) = ow N k + fld N k 1 := rfl
    omega
theorem rest_sy {N : Nat → Nat} (h : cw N 40 = 40 ∨ ow N (N 4) = 0) : ∀ f, f ≤ N 4 → syS N f = N
  | 0, _ => rfl
  | f + 1, hf => by
    have ih := rest_sy h f (by omega)
    show svS (syS N f) f = N
    rw [ih]
    unfold svS
    rw [if_pos]
    rcases h with h | h
    · exact Or.inr h
    · exact Or.inl (fb_sm_zero h f (by omega))
theorem rest_fz {N : Nat → Nat} {z : Int32} (h : cw N 40 = 0) : ∀ p, p ≤ 40 → fzS N z p = (N, z)
  | 0, _ => rfl
  | p + 1, hp => by
    have ih := rest_fz (z := z) h p (by omega)
    have h0 := cw_zero 40 h p (by omega)
    rw [fzS_s, ih]
    show (if N (45 + p) = 1 then _ else _) = _
    rw [if_neg (by omega)]
theorem rest_fzA {N : Nat → Nat} {z : Int32} (h : cw N 40 = 0) : fzA N z = (N, z) := by
  unfold fzA
  exact rest_fz h 40 (Nat.le_refl 40)
theorem rest_yr {N : Nat → Nat} {z : Int32} (h : RS N) : yrS N z = (nupd N 0 (N 0 + 1), z) := by
  have hs := rest_sy h.1 (N 4) (Nat.le_refl _)
  by_cases e : N 1 = 0
  · rw [yr_a e, hs]
  · rw [yr_b e, hs, rest_fzA (h.2.resolve_right e)]
theorem cw_put0 {N : Nat → Nat} {v : Nat} : ∀ n, cw (nupd N 0 v) n = cw N n
  | 0 => rfl
  | n + 1 => by
    show cw (nupd N 0 v) n + nupd N 0 v (45 + n) = cw N n + N (45 + n)
    rw [cw_put0 n, nu_n (by omega)]
theorem ow_put0 {N : Nat → Nat} {v : Nat} : ∀ n, ow (nupd N 0 v) n = ow N n
  | 0 => rfl
  | n + 1 => by
    show ow (nupd N 0 v) n + fld (nupd N 0 v) n 1 = ow N n + fld N n 1
    rw [ow_put0 n, fld_ne (by omega)]
theorem RS_put0 {N : Nat → Nat} {v : Nat} (h : RS N) : RS (nupd N 0 v) := by
  unfold RS
  rw [cw_put0, ow_put0, nu_n (by omega), nu_n (by omega)]
  exact h
theorem nu_uu {N : Nat → Nat} {k a b : Nat} : nupd (nupd N k a) k b = nupd N k b := by
  funext j
  by_cases e : j = k
  · subst e; rw [nu_s, nu_s]
  · rw [nu_n e, nu_n e, nu_n e]
theorem nu_id {N : Nat → Nat} {k : Nat} : nupd N k (N k) = N := by
  funext j
  by_cases e : j = k
  · subst e; rw [nu_s]
  · rw [nu_n e]
theorem rest_gy {N : Nat → Nat} {z : Int32} (h : RS N) : ∀ k, gyS N z k = (nupd N 0 (N 0 + k), z)
  | 0 => by
    show (N, z) = _
    rw [Nat.add_zero, nu_id]
  | k + 1 => by
    show yrS (gyS N z k).1 (gyS N z k).2 = _
    rw [rest_gy h k]
    show yrS (nupd N 0 (N 0 + k)) z = _
    rw [rest_yr (RS_put0 h), nu_uu, nu_s, Nat.add_assoc]
theorem gy_add {N : Nat → Nat} {z : Int32} (i : Nat) : ∀ j, gyS N z (i + j) = gyS (gyS N z i).1 (gyS N z i).2 j
  | 0 => rfl
  | j + 1 => by
    show yrS (gyS N z (i + j)).1 (gyS N z (i + j)).2 = yrS (gyS (gyS N z i).1 (gyS N z i).2 j).1 (gyS (gyS N z i).1 (gyS N z i).2 j).2
    rw [gy_add i j]
section CG
variable {u : MtS} {N : Nat → Nat} {z : Int32}
theorem c_owed_l (h : CR u N z) (hb : BN N) : ∀ n k, k ≤ N 4 → N 4 < k + n → f_X4_owedByAll_b4 u n (nI (ow N k)) (nI k) = some (nI (ow N (N 4)))
  | 0, k, h1, h2 => by omega
  | n + 1, k, h1, h2 => by
    have h10 := hb.2.2.1
    rw [q_X4_owedByAll_b4, h.mn]
    rcases Nat.lt_or_ge k (N 4) with hk | hk
    · rw [if_neg (nI_ge hk (by omega)), gx_n (by omega) (by decide), nI_clamp (by omega), (h.fin hk).2.1, nI_add, nI_add]
      exact c_owed_l h hb n (k + 1) (by omega) (by omega)
    · have e : k = N 4 := by omega
      subst e
      rw [if_pos (nI_le (Nat.le_refl _) (by omega))]
theorem c_owed (h : CR u N z) (hb : BN N) : f_X4_owedByAll u = some (nI (ow N (N 4))) := by
  have := hb.2.2.1
  rw [q_X4_owedByAll]
  exact c_owed_l h hb 1000 0 (Nat.zero_le _) (by omega)
theorem c_rest (h : CR u N z) (hb : BN N) : (RS N → f_X4_isAtRest u = some (nI 1)) ∧ (¬ RS N → f_X4_isAtRest u = some (nI 0)) := by
  have h10 := hb.2.2.1
  have h9 := hb.1
  have hle := ow_le hb (N 4) h10
  have key : ∀ s : Nat, s ≤ 1 → ((s = 0 ∧ (cw N 40 = 0 ∨ N 1 = 0)) → f_X4_isAtRest_b23 u (nI s) = some (nI 1)) ∧ (¬ (s = 0 ∧ (cw N 40 = 0 ∨ N 1 = 0)) → f_X4_isAtRest_b23 u (nI s) = some (nI 0)) := by
    intro s hs
    have h44 : f_X4_isAtRest_b44 u (nI s) = if s = 0 then some (nI 1) else some (nI 0) := by
      rw [q_X4_isAtRest_b44, q_X4_isAtRest_b45]
      by_cases e : s = 0
      · subst e; rfl
      · rw [if_neg (fun q => e ((nI_eq (by omega) (by decide)).mp q)), if_neg e]
    have h45 : f_X4_isAtRest_b45 u (nI s) (nI 1) = some (nI 0) := by
      rw [q_X4_isAtRest_b45]
      by_cases e : nI s = nI 0
      · rw [if_pos e, if_neg (by decide)]
      · rw [if_neg e]
    rw [q_X4_isAtRest_b23, h.2.1, h44, h45]
    by_cases c1 : cw N 40 = 0
    · rw [if_pos ((c_none h hb).mpr c1)]
      exact ⟨fun q => if_pos q.1, fun q => if_neg (fun x => q ⟨x, Or.inl c1⟩)⟩
    · rw [if_neg (fun q => c1 ((c_none h hb).mp q))]
      by_cases c2 : N 1 = 0
      · rw [if_pos (nI_le (by omega) (by decide))]
        exact ⟨fun q => if_pos q.1, fun q => if_neg (fun x => q ⟨x, Or.inr c2⟩)⟩
      · rw [if_neg (nI_ge (by omega) (by omega))]
        exact ⟨fun q => absurd q.2 (by omega), fun _ => rfl⟩
  rw [q_X4_isAtRest]
  by_cases c1 : cw N 40 = 40
  · rw [if_pos ((c_full h hb).mpr c1), q_X4_isAtRest_b22]
    exact ⟨fun q => (key 0 (by omega)).1 ⟨rfl, q.2⟩, fun q => (key 0 (by omega)).2 (fun x => q ⟨Or.inl c1, x.2⟩)⟩
  · rw [if_neg (fun q => c1 ((c_full h hb).mp q)), c_owed h hb, bd_sm]
    by_cases c2 : ow N (N 4) = 0
    · rw [if_pos (nI_le (by omega) (by decide)), q_X4_isAtRest_b22]
      exact ⟨fun q => (key 0 (by omega)).1 ⟨rfl, q.2⟩, fun q => (key 0 (by omega)).2 (fun x => q ⟨Or.inr c2, x.2⟩)⟩
    · rw [if_neg (nI_ge (by omega) (by omega))]
      exact ⟨fun q => absurd q.1 (by omega), fun _ => (key 1 (by omega)).2 (fun x => by omega)⟩
theorem c_go_l (hb : BN N) {k : Nat} (hk : k < 1000) : ∀ n i u, i ≤ k → k < i + n → CR u (gyS N z i).1 (gyS N z i).2 → ∃ u', f_X4_goYears_b2 n u (nI k) (nI i) = some u' ∧ CR u' (gyS N z k).1 (gyS N z k).2
  | 0, i, u, h1, h2, h => by omega
  | n + 1, i, u, h1, h2, h => by
    have hbi := BN_gy hb z i
    rw [q_X4_goYears_b2]
    rcases Nat.lt_or_ge i k with hi | hi
    · rw [if_neg (nI_ge hi (by omega))]
      by_cases c : RS (gyS N z i).1
      · rw [(c_rest h hbi).1 c, bd_sm, if_neg (by decide)]
        refine ⟨_, rfl, ?_⟩
        have e : gyS N z k = (nupd (gyS N z i).1 0 ((gyS N z i).1 0 + (k - i)), (gyS N z i).2) := by
          have h1 := gy_add (N := N) (z := z) i (k - i)
          rw [show i + (k - i) = k by omega] at h1
          rw [h1, rest_gy c]
        rw [e]
        refine CR_put0 h ?_
        rw [h.1, pk_sub (by omega), nI_add]
      · rw [(c_rest h hbi).2 c, bd_sm, if_pos rfl]
        obtain ⟨u2, e2, hA⟩ := c_year h hbi
        rw [e2, bd_sm, nI_add]
        exact c_go_l hb hk n (i + 1) u2 (by omega) (by omega) hA
    · have e : i = k := by omega
      subst e
      rw [if_pos (nI_le (Nat.le_refl _) (by omega))]
      exact ⟨u, rfl, h⟩
theorem c_go (h : CR u N z) (hb : BN N) {k : Nat} (hk : k < 1000) : ∃ u', f_X4_goYears u (nI k) = some u' ∧ CR u' (gyS N z k).1 (gyS N z k).2 := by
  rw [q_X4_goYears]
  exact c_go_l hb hk 1000 0 u (Nat.zero_le _) (by omega) h
theorem c_isMet (h : CR u N z) (hb : BN N) {p m : Nat} (hp : p < 40) (h1 : 1 ≤ p) (hm : m < 1000) (w1 : N (45 + p) = 1) (w0 : N (45 + (p - 1)) = 1) : f_X4_isMet u (nI p) (nI m) = some (if N (85 + p) ≤ N (85 + p - 1) + m ∧ N (85 + p - 1) ≤ N (85 + p) + m then nI 1 else nI 0) := by
  have a1 := (h.2.2.2.2.2.2.1 p hp w1).1
  have a0 := (h.2.2.2.2.2.2.1 (p - 1) (by omega) w0).1
  have b1 := (hb.2.2.2.1 p hp).2.2.2.1
  have b0 := (hb.2.2.2.1 (p - 1) (by omega)).2.2.2.1
  rw [show 85 + (p - 1) = 85 + p - 1 by omega] at a0 b0
  rw [q_X4_isMet, gx_n (by omega) (by decide), pk_sub h1, gx_n (by omega) (by decide), nI_clamp (by omega), nI_clamp (by omega), a1, a0]
  generalize N (85 + p) = a at b1 ⊢
  generalize N (85 + p - 1) = b at b0 ⊢
  have hd : (nI m < (if nI 0 ≤ nI a - nI b then nI a - nI b else nI 0 - (nI a - nI b))) ↔ (a + m < b ∨ b + m < a) := by
    by_cases c : b ≤ a
    · rw [pk_sub c, if_pos (nI_le (Nat.zero_le _) (by omega)), nI_ltI (by omega) (by omega)]; omega
    · have hn : ¬ nI 0 ≤ nI a - nI b := by rw [fa_le, pk_sub_toInt (by omega) (by omega), nI_toInt (by decide)]; omega
      have e : nI 0 - (nI a - nI b) = nI (b - a) := by
        rw [fa_eq, fb_subI (by rw [pk_sub_toInt (by omega) (by omega), nI_toInt (by decide)]; omega) (by rw [pk_sub_toInt (by omega) (by omega), nI_toInt (by decide)]; omega), pk_sub_toInt (by omega) (by omega), nI_toInt (by decide), nI_toInt (by omega)]
        omega
      rw [if_neg hn, e, nI_ltI (by omega) (by omega)]; omega
  by_cases c : a + m < b ∨ b + m < a
  · rw [if_pos (hd.mpr c), if_neg (by omega)]
  · rw [if_neg (fun q => c (hd.mp q)), if_pos (by omega)]
theorem c_climb_l (h : CR u N z) (hb : BN N) {m : Nat} (hm : m < 1000) : ∀ n k p, 1 ≤ p → p + k = 40 → k < n → N (45 + (p - 1)) = 1 → f_X4_climbWith_b12 u n (nI m) (nI p) = some (nI (rcS N m k p))
  | 0, k, p, h0, h1, h2, hw => by omega
  | n + 1, 0, p, h0, h1, h2, hw => by
    have e : p = 40 := by omega
    subst e
    rw [q_X4_climbWith_b12, if_pos (nI_le (Nat.le_refl _) (by decide))]
    rfl
  | n + 1, k + 1, p, h0, h1, h2, hw => by
    have hp : p < 40 := by omega
    rw [q_X4_climbWith_b12, if_neg (nI_ge hp (by decide)), c_isWhole h hp, bd_sm]
    unfold rcS
    by_cases e : N (45 + p) = 1
    · rw [if_neg (fun q => m_whole0.mp q e), c_isMet h hb hp h0 hm e hw, bd_sm]
      by_cases c : N (85 + p) ≤ N (85 + p - 1) + m ∧ N (85 + p - 1) ≤ N (85 + p) + m
      · rw [if_neg (fun q => m_whole0.mp q c), if_pos ⟨e, Or.inr c⟩, nI_add]
        exact c_climb_l h hb hm n k (p + 1) (by omega) (by omega) (by omega) (by rw [show p + 1 - 1 = p by omega]; exact e)
      · rw [if_pos (m_whole0.mpr c), if_neg (fun q => q.2.elim (by omega) c)]
    · rw [if_pos (m_whole0.mpr e), if_neg (fun q => e q.1)]
theorem c_climbWith (h : CR u N z) (hb : BN N) {m : Nat} (hm : m < 1000) : f_X4_climbWith u (nI m) = some (nI (rcS N m 40 0)) := by
  have e0 : rcS N m 40 0 = if N (45 + 0) = 1 ∧ (0 = 0 ∨ (N (85 + 0) ≤ N (85 + 0 - 1) + m ∧ N (85 + 0 - 1) ≤ N (85 + 0) + m)) then rcS N m 39 1 else 0 := rfl
  rw [q_X4_climbWith, c_isWhole h (by decide), bd_sm, e0]
  by_cases e : N (45 + 0) = 1
  · rw [if_neg (fun q => m_whole0.mp q e), if_pos ⟨e, Or.inl rfl⟩]
    exact c_climb_l h hb hm 1000 39 1 (by decide) (by decide) (by decide) e
  · rw [if_pos (m_whole0.mpr e), if_neg (fun q => e q.1)]
theorem c_climb (h : CR u N z) (hb : BN N) : f_X4_climb u = some (nI (rch N)) := by
  have := hb.2.1
  rw [q_X4_climb, h.2.2.1, c_climbWith h hb (by omega), bd_sm]
  rfl
theorem cpy_lt {f g : Nat → Int32} {n k : Nat} (h : k < n) : va_cpy f g 0 0 n k = f k := by
  rw [pk_cpy_in (by omega) (by omega)]
  rw [show 0 + (k - 0) = k by omega]
theorem c_become (v : MtS) (h : CR u N z) (hb : BN N) : ∃ w, f_X4_become v u = some w ∧ CR w N z := by
  have h10 := hb.2.2.1
  have c0 : (nI 0).toNatClampNeg = 0 := nI_clamp (by decide)
  have c40 : (nI 40).toNatClampNeg = 40 := nI_clamp (by decide)
  have c10 : (nI 10).toNatClampNeg = 10 := nI_clamp (by decide)
  rw [q_X4_become, c0, c40, c10]
  refine ⟨_, rfl, h.1, h.2.1, h.2.2.1, h.2.2.2.1, h.mn, fun p hp => (cpy_lt hp).trans (h.rk hp), fun p hp hw => ?_, fun f hf => ?_, h.2.2.2.2.2.2.2.2⟩
  · obtain ⟨a, b, c⟩ := h.2.2.2.2.2.2.1 p hp hw
    exact ⟨(cpy_lt hp).trans a, (cpy_lt hp).trans b, (cpy_lt hp).trans c⟩
  · obtain ⟨a0, a1, a2, a3, a4⟩ := h.fin hf
    exact ⟨(cpy_lt (by omega)).trans a0, (cpy_lt (by omega)).trans a1, (cpy_lt (by omega)).trans a2, (cpy_lt (by omega)).trans a3, (cpy_lt (by omega)).trans a4⟩
end CG
