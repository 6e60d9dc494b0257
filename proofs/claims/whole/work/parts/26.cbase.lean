/-! the class's mountain and the numbers -/
def CR (u : MtS) (N : Nat → Nat) (z : Int32) : Prop :=
  u.1 0 0 = nI (N 0) ∧ u.1 0 1 = nI (N 1) ∧ u.1 0 2 = nI (N 2) ∧ u.1 0 3 = z ∧ u.1 0 4 = nI (N 4) ∧ (∀ p, p < 40 → u.1 1 p = nI (N (5 + p))) ∧ (∀ p, p < 40 → N (45 + p) = 1 → u.1 2 p = nI (N (85 + p)) ∧ u.1 3 p = nI (N (125 + p)) ∧ u.1 4 p = nI (N (165 + p))) ∧
  (∀ f, f < N 4 → u.1 5 f = nI (fld N f 0) ∧ u.1 6 f = nI (fld N f 1) ∧ u.1 7 f = nI (fld N f 2) ∧ u.1 8 f = nI (fld N f 3) ∧ u.1 9 f = nI (fld N f 4)) ∧ ∃ W, u.2 = lN W ∧ W < 2 ^ 40 ∧ ∀ p, p < 40 → W.testBit p = decide (N (45 + p) = 1)
theorem gk_n {α : Type} {j n : Nat} {k : Option α} (h : j < n) : gk j n k = k := if_pos h
theorem lgc (x y : Int64) : (lg_cmp x y = nI 0) ↔ x = y := lg_cmp_eq x y
theorem c_isPlace {p : Nat} (hp : p < 40) : f_X9_isPlace (nI p) = some (nI 1) := by
  rw [q_X9_isPlace, if_neg (nI_nlt (Nat.zero_le _) (by omega)), if_neg (nI_ge hp (by decide))]
theorem c_isPlaceN {x : Int32} (h : x < 0 ∨ nI 40 ≤ x) : f_X9_isPlace x = some (nI 0) := by
  rw [q_X9_isPlace]
  by_cases c : x < nI 0
  · rw [if_pos c]
  · rw [if_neg c, if_pos (h.resolve_left c)]
theorem c_isKind {p : Nat} (hp : p < 6) : f_X9_isKind (nI p) = some (nI 1) := by
  rw [q_X9_isKind, if_neg (nI_nlt (Nat.zero_le _) (by omega)), if_neg (nI_ge hp (by decide))]
theorem c_isKindN {x : Int32} (h : x < 0 ∨ nI 6 ≤ x) : f_X9_isKind x = some (nI 0) := by
  rw [q_X9_isKind]
  by_cases c : x < nI 0
  · rw [if_pos c]
  · rw [if_neg c, if_pos (h.resolve_left c)]
theorem cw_all {N : Nat → Nat} (hw : ∀ q, q < 40 → N (45 + q) ≤ 1) : ∀ n, n ≤ 40 → cw N n ≤ n ∧ (cw N n = n → ∀ q, q < n → N (45 + q) = 1)
  | 0, _ => ⟨Nat.le_refl _, fun _ q hq => absurd hq (Nat.not_lt_zero q)⟩
  | n + 1, h => by
    obtain ⟨h1, h2⟩ := cw_all hw n (by omega)
    have e : cw N (n + 1) = cw N n + N (45 + n) := rfl
    have hn := hw n (by omega)
    rw [e]
    refine ⟨by omega, fun h3 q hq => ?_⟩
    rcases Nat.lt_or_ge q n with hq2 | hq2
    · exact h2 (by omega) q hq2
    · have : q = n := by omega
      subst this; omega
theorem cw_zero {N : Nat → Nat} : ∀ n, cw N n = 0 → ∀ q, q < n → N (45 + q) = 0
  | 0, _, q, hq => absurd hq (Nat.not_lt_zero q)
  | n + 1, h, q, hq => by
    have e : cw N (n + 1) = cw N n + N (45 + n) := rfl
    rw [e] at h
    rcases Nat.lt_or_ge q n with hq2 | hq2
    · exact cw_zero n (by omega) q hq2
    · have : q = n := by omega
      subst this; omega
section CB
variable {u : MtS} {N : Nat → Nat} {z : Int32}
theorem CR.mn (h : CR u N z) : u.1 0 4 = nI (N 4) := h.2.2.2.2.1
theorem CR.rk (h : CR u N z) {p : Nat} (hp : p < 40) : u.1 1 p = nI (N (5 + p)) := h.2.2.2.2.2.1 p hp
theorem CR.fin (h : CR u N z) {f : Nat} (hf : f < N 4) : u.1 5 f = nI (fld N f 0) ∧ u.1 6 f = nI (fld N f 1) ∧ u.1 7 f = nI (fld N f 2) ∧ u.1 8 f = nI (fld N f 3) ∧ u.1 9 f = nI (fld N f 4) := h.2.2.2.2.2.2.2.1 f hf
theorem c_isWhole (h : CR u N z) {p : Nat} (hp : p < 40) : f_X4_isWhole u (nI p) = some (if N (45 + p) = 1 then nI 1 else nI 0) := by
  obtain ⟨W, hW, hlt, hbit⟩ := h.2.2.2.2.2.2.2.2
  rw [q_X4_isWhole, c_isPlace hp, bd_sm, if_neg (by decide), hW, wb_shr (by omega) (by omega), fb_andL]
  have hb := hbit p hp
  rw [Nat.testBit_eq_decide_div_mod_eq] at hb
  have h2 : W / 2 ^ p &&& 1 = W / 2 ^ p % 2 := Nat.and_one_is_mod _
  rw [h2]
  by_cases e : N (45 + p) = 1
  · rw [if_pos e]
    rw [e] at hb
    have h3 : W / 2 ^ p % 2 = 1 := by simpa using hb
    rw [if_neg (fun q => absurd ((lgc _ _).mp q) (by rw [h3]; decide))]
  · rw [if_neg e]
    have h3 : W / 2 ^ p % 2 = 0 := by
      have : ¬ W / 2 ^ p % 2 = 1 := by simpa [e] using hb
      omega
    rw [if_pos ((lgc _ _).mpr (by rw [h3]))]
theorem c_isWholeN {x : Int32} (h : x < 0 ∨ nI 40 ≤ x) : f_X4_isWhole u x = some (nI 0) := by
  rw [q_X4_isWhole, c_isPlaceN h, bd_sm, if_pos rfl]
theorem c_wholes (h : CR u N z) (hb : BN N) : f_X4_wholePlaces u = some (nI (cw N 40)) := by
  obtain ⟨W, hW, hlt, hbit⟩ := h.2.2.2.2.2.2.2.2
  rw [q_X4_wholePlaces, hW, c_bitCount hlt, bd_sm]
  have e : pcW W = cw N 40 := by
    refine fb_sm_cong fun p hp => ?_
    have := hb.w p hp
    rw [hbit p hp]
    by_cases e : N (45 + p) = 1
    · simp [e]
    · simp [e]; omega
  rw [e]
theorem c_full (h : CR u N z) (hb : BN N) : (lg_cmp u.2 (lN 1099511627775) = nI 0) ↔ cw N 40 = 40 := by
  obtain ⟨W, hW, hlt, hbit⟩ := h.2.2.2.2.2.2.2.2
  rw [lgc, hW, fb_lN_inj (by omega) (by decide)]
  constructor
  · intro e
    refine cw_full hb.w 40 (by decide) fun q hq => ?_
    have := hbit q hq
    rw [e, show 1099511627775 = 2 ^ 40 - 1 from rfl, Nat.testBit_two_pow_sub_one] at this
    simpa [hq] using this
  · intro e
    have ha := (cw_all hb.w 40 (by decide)).2 e
    rw [show 1099511627775 = 2 ^ 40 - 1 from rfl]
    apply Nat.eq_of_testBit_eq
    intro i
    rw [Nat.testBit_two_pow_sub_one]
    rcases Nat.lt_or_ge i 40 with hi | hi
    · rw [hbit i hi, ha i hi]; simp [hi]
    · rw [Nat.testBit_lt_two_pow (Nat.lt_of_lt_of_le hlt (Nat.pow_le_pow_right (by decide) hi))]
      simp; omega
theorem c_none (h : CR u N z) (hb : BN N) : (lg_cmp u.2 (lN 0) = nI 0) ↔ cw N 40 = 0 := by
  obtain ⟨W, hW, hlt, hbit⟩ := h.2.2.2.2.2.2.2.2
  rw [lgc, hW, fb_lN_inj (by omega) (by decide)]
  constructor
  · intro e
    have hz : ∀ q, q < 40 → N (45 + q) = 0 := by
      intro q hq
      have h1 := hbit q hq
      have h2 := hb.w q hq
      rw [e, Nat.zero_testBit] at h1
      have h3 : ¬ N (45 + q) = 1 := by simpa using h1.symm
      omega
    have : ∀ n, n ≤ 40 → cw N n = 0 := by
      intro n
      induction n with
      | zero => intro _; rfl
      | succ n ih =>
        intro hn
        have e : cw N (n + 1) = cw N n + N (45 + n) := rfl
        rw [e, ih (by omega), hz n (by omega)]
    exact this 40 (by decide)
  · intro e
    have hz := cw_zero 40 e
    apply Nat.eq_of_testBit_eq
    intro i
    rw [Nat.zero_testBit]
    rcases Nat.lt_or_ge i 40 with hi | hi
    · rw [hbit i hi, hz i hi]; rfl
    · exact Nat.testBit_lt_two_pow (Nat.lt_of_lt_of_le hlt (Nat.pow_le_pow_right (by decide) hi))
theorem c_hasFine (h : CR u N z) (hb : BN N) {f : Nat} (hf : f < N 4) : f_X4_hasFine u (nI f) = some (nI 1) := by
  have := hb.2.2.1
  rw [q_X4_hasFine, if_neg (nI_nlt (Nat.zero_le _) (by omega)), h.mn, if_neg (nI_ge hf (by omega)), if_neg (nI_ge (by omega) (by decide))]
theorem c_hasFineN (h : CR u N z) {x : Int32} (hx : x < 0 ∨ nI (N 4) ≤ x) : f_X4_hasFine u x = some (nI 0) := by
  rw [q_X4_hasFine, h.mn]
  by_cases c : x < nI 0
  · rw [if_pos c]
  · rw [if_neg c, if_pos (hx.resolve_left c)]
theorem c_kindOf (h : CR u N z) (hb : BN N) {f : Nat} (hf : f < N 4) : f_X4_kindOf u (nI f) = some (fld N f 0) := by
  have h10 := hb.2.2.1
  have hk := (hb.2.2.2.2 f (by omega)).1
  rw [q_X4_kindOf, gx_n (by omega) (by decide), nI_clamp (by omega), (h.fin hf).1, c_isKind (by omega), bd_sm, if_neg (by decide), gx_n (by omega) (by decide), nI_clamp (by omega)]
theorem kd_works_ok {j a b : Nat} (hj : j < 6) (ha : a ≤ 9) (hb : b ≤ 40) : kd_works j (nI a) (nI b) = some (nI (if j = 1 then 2 * a else if j = 2 then a else if j = 3 then a + 2 else if j = 4 then (a + 2) / 2 else if j = 5 then a + b / 10 else a)) := by
  match j, hj with
  | 0, _ => rfl
  | 1, _ =>
    show f_X6_works (nI a) (nI b) = _
    rw [q_X6_works, q_X3_works, bd_sm, pk_mul]; rfl
  | 2, _ => rfl
  | 3, _ =>
    show f_X2_works (nI a) (nI b) = _
    rw [q_X2_works, q_X3_works, bd_sm, nI_add]; rfl
  | 4, _ =>
    show f_X1_works (nI a) (nI b) = _
    rw [q_X1_works, q_X2_works, q_X3_works, bd_sm, bd_sm, nI_add, pk_div (by omega) (by decide) (by decide)]; rfl
  | 5, _ =>
    show f_X5_works (nI a) (nI b) = _
    rw [q_X5_works, q_X3_works, bd_sm, pk_div (by omega) (by decide) (by decide), nI_add]; rfl
theorem kd_high_ok {j r : Nat} (hj : j < 6) (hr : r ≤ 9) (h1 : 1 ≤ r) : kd_cutsHigh j (nI r) = some (nI (if j = 2 then r + 6 else if j = 3 then r + 13 else if j = 4 then r + 16 else if j = 5 then (if r ≤ 5 then r + 6 else 7) else r + 8)) := by
  match j, hj with
  | 0, _ =>
    show f_X3_cutsHigh (nI r) = some (nI (r + 8))
    rw [q_X3_cutsHigh, nI_add, Nat.add_comm]
  | 1, _ =>
    show f_X3_cutsHigh (nI r) = some (nI (r + 8))
    rw [q_X3_cutsHigh, nI_add, Nat.add_comm]
  | 2, _ =>
    show f_X0_cutsHigh (nI r) = some (nI (r + 6))
    rw [q_X0_cutsHigh, q_X3_cutsHigh, bd_sm, nI_add, pk_sub (by omega)]
    rw [show 8 + r - 2 = r + 6 by omega]
  | 3, _ =>
    show f_X2_cutsHigh (nI r) = some (nI (r + 13))
    rw [q_X2_cutsHigh, q_X3_cutsHigh, bd_sm, nI_add, nI_add]
    rw [show 8 + r + 5 = r + 13 by omega]
  | 4, _ =>
    show f_X1_cutsHigh (nI r) = some (nI (r + 16))
    rw [q_X1_cutsHigh, q_X2_cutsHigh, q_X3_cutsHigh, bd_sm, bd_sm, nI_add, nI_add, nI_add]
    rw [show 8 + r + 5 + 3 = r + 16 by omega]
  | 5, _ =>
    show f_X5_cutsHigh (nI r) = some (nI (if r ≤ 5 then r + 6 else 7))
    rw [q_X5_cutsHigh]
    by_cases c : r ≤ 5
    · rw [if_pos (nI_le c (by decide)), if_pos c, q_X0_cutsHigh, q_X3_cutsHigh, bd_sm, bd_sm, nI_add, pk_sub (by omega)]
      rw [show 8 + r - 2 = r + 6 by omega]
    · rw [if_neg (nI_ge (by omega) (by omega)), if_neg c]
theorem kd_counts_ok {j : Nat} (hj : j < 6) : kd_counts j = some (nI (if j = 4 then 2 else 1)) := by
  match j, hj with
  | 0, _ => rfl
  | 1, _ => rfl
  | 2, _ => rfl
  | 3, _ => rfl
  | 4, _ => rfl
  | 5, _ => rfl
theorem c_works (h : CR u N z) (hb : BN N) {f : Nat} (hf : f < N 4) : f_X4_worksOf u (nI f) = some (nI (wk N f)) := by
  have h10 := hb.2.2.1
  obtain ⟨b0, b1, b2, b3, b4, -⟩ := hb.2.2.2.2 f (by omega)
  have hc := cw_le N hb.w
  rw [q_X4_worksOf, c_kindOf h hb hf, bd_sm, gx_n (by omega) (by decide), c_wholes h hb, bd_sm, gk_n (by omega), nI_clamp (by omega), (h.fin hf).2.2.2.1, pk_sub hc, kd_works_ok (by omega) b3 (by omega), bd_sm]
  rfl
theorem c_high (h : CR u N z) (hb : BN N) {f p : Nat} (hf : f < N 4) (hp : p < 40) : f_X4_highOf u (nI f) (nI p) = some (nI (hg N f p)) := by
  have h10 := hb.2.2.1
  obtain ⟨b0, b1, b2, b3, b4, -⟩ := hb.2.2.2.2 f (by omega)
  obtain ⟨a1, a2, -⟩ := hb.2.2.2.1 p hp
  rw [q_X4_highOf, c_isPlace hp, bd_sm, if_neg (by decide), c_kindOf h hb hf, bd_sm, gx_n (by omega) (by decide), gk_n (by omega), nI_clamp (by omega), h.rk hp, kd_high_ok (by omega) a2 a1, bd_sm]
  rfl
theorem c_cut (h : CR u N z) {p hh f : Nat} (hp : p < 40) : ∃ u', f_X4_cut u (nI p) (nI hh) (nI f) = some u' ∧ CR u' (cutS N p hh f) z := by
  obtain ⟨W, hW, hlt, hbit⟩ := h.2.2.2.2.2.2.2.2
  have hs : ∀ k, k < 45 → cutS N p hh f k = N k := fun k hk => cutS_out (by omega) (by omega) (by omega) (by omega)
  rw [q_X4_cut, gx_n (by omega) (by decide), gx_n (by omega) (by decide), gx_n (by omega) (by decide), nI_clamp (by omega)]
  refine ⟨_, rfl, ?_⟩
  refine ⟨?_, ?_, ?_, h.2.2.2.1, ?_, fun q hq => ?_, fun q hq hw => ?_, fun g hg => ?_, W ||| 2 ^ p, ?_, ?_, fun q hq => ?_⟩
  · rw [hs 0 (by omega)]; exact h.1
  · rw [hs 1 (by omega)]; exact h.2.1
  · rw [hs 2 (by omega)]; exact h.2.2.1
  · rw [hs 4 (by omega)]; exact h.mn
  · rw [hs (5 + q) (by omega)]; exact h.rk hq
  · by_cases e : q = p
    · subst e
      unfold cutS
      rw [nu_n (by omega), nu_n (by omega), nu_s, nu_n (by omega), nu_s, nu_s]
      exact ⟨pk_us, pk_us, by rw [← h.1]; exact pk_us⟩
    · rw [cutS_out (by omega) (by omega) (by omega) (by omega)] at hw
      rw [cutS_out (by omega) (by omega) (by omega) (by omega), cutS_out (by omega) (by omega) (by omega) (by omega), cutS_out (by omega) (by omega) (by omega) (by omega)]
      obtain ⟨a, b, c⟩ := h.2.2.2.2.2.2.1 q hq hw
      exact ⟨(pk_un e).trans a, (pk_un e).trans b, (pk_un e).trans c⟩
  · rw [hs 4 (by omega)] at hg
    rw [fld_cut hp, fld_cut hp, fld_cut hp, fld_cut hp, fld_cut hp]
    exact h.fin hg
  · show u.2 ||| (lN 1 <<< ((nI p).toInt64 &&& 63)) = _
    rw [hW, wb_shl 1 (by omega), Nat.one_mul, fb_orL]
  · exact Nat.or_lt_two_pow hlt (Nat.pow_lt_pow_right (by decide) hp)
  · rw [fb_bit_set, hbit q hq]
    by_cases e : q = p
    · subst e
      have : cutS N q hh f (45 + q) = 1 := by
        unfold cutS
        rw [nu_n (by omega), nu_n (by omega), nu_n (by omega), nu_s]
      rw [this]; simp
    · rw [cutS_out (by omega) (by omega) (by omega) (by omega)]; simp [e]
theorem c_break (h : CR u N z) {p : Nat} (hp : p < 40) : ∃ u', f_X4_breakUp u (nI p) = some u' ∧ CR u' (brkS N p) z := by
  obtain ⟨W, hW, hlt, hbit⟩ := h.2.2.2.2.2.2.2.2
  have hs : ∀ k, k < 45 ∨ 205 ≤ k → brkS N p k = N k := fun k hk => brk_out hp hk
  have hw0 : brkS N p (45 + p) = 0 := by
    unfold brkS
    rw [nu_n (by omega), nu_n (by omega), nu_n (by omega), nu_s]
  have ho : ∀ b q, b = 45 ∨ b = 85 ∨ b = 125 ∨ b = 165 → q < 40 → q ≠ p → brkS N p (b + q) = N (b + q) := by
    intro b q hb hq e
    unfold brkS
    rw [nu_n (by omega), nu_n (by omega), nu_n (by omega), nu_n (by omega)]
  rw [q_X4_breakUp]
  refine ⟨_, rfl, ?_⟩
  refine ⟨?_, ?_, ?_, h.2.2.2.1, ?_, fun q hq => ?_, fun q hq hw => ?_, fun g hg => ?_, W &&& (2 ^ p ^^^ (2 ^ 64 - 1)), ?_, ?_, fun q hq => ?_⟩
  · rw [hs 0 (by omega)]; exact h.1
  · rw [hs 1 (by omega)]; exact h.2.1
  · rw [hs 2 (by omega)]; exact h.2.2.1
  · rw [hs 4 (by omega)]; exact h.mn
  · rw [hs (5 + q) (by omega)]; exact h.rk hq
  · by_cases e : q = p
    · subst e
      rw [hw0] at hw
      cases hw
    · rw [ho 45 q (by omega) hq e] at hw
      rw [ho 85 q (by omega) hq e, ho 125 q (by omega) hq e, ho 165 q (by omega) hq e]
      exact h.2.2.2.2.2.2.1 q hq hw
  · rw [hs 4 (by omega)] at hg
    unfold fld
    rw [hs _ (by omega), hs _ (by omega), hs _ (by omega), hs _ (by omega), hs _ (by omega)]
    exact h.fin hg
  · show u.2 &&& ((lN 1 <<< ((nI p).toInt64 &&& 63)) ^^^ (-1 : Int64)) = _
    have em : (-1 : Int64) = lN (2 ^ 64 - 1) := by decide +kernel
    rw [hW, wb_shl 1 (by omega), Nat.one_mul, em, fb_xorL, fb_andL]
  · exact Nat.lt_of_le_of_lt Nat.and_le_left hlt
  · rw [Nat.testBit_and, Nat.testBit_xor, Nat.testBit_two_pow, Nat.testBit_two_pow_sub_one, hbit q hq]
    by_cases e : q = p
    · subst e
      rw [hw0]
      have : q < 64 := by omega
      simp [this]
    · have h1 : ¬ p = q := fun x => e x.symm
      have h2 : q < 64 := by omega
      rw [ho 45 q (by omega) hq e]
      simp [h1, h2]
end CB
