/-! the text: one token, seen by both -/
def BY (B : Nat → Nat) (L : Nat) (tby tape : Nat → Int32) : Prop := L ≤ 120 ∧ ∀ k, k < L → B k < 256 ∧ tby k = nI (B k) ∧ tape k = nI (B k)
def hs (B : Nat → Nat) (s : Nat) : Nat → Nat
  | 0 => 0
  | k + 1 => 27 * hs B s k + (B (s + k) - 96)
def wd (B : Nat → Nat) (s k : Nat) : Int64 := if k ≤ 12 then lN (hs B s k) else -1
def TK (B : Nat → Nat) (L s e : Nat) (tok num sort : Int32) (word : Int64) (valu : Int32) : Prop :=
  s ≤ e ∧ e ≤ L ∧ ((tok = nI 0 ∧ sort = nI 0 ∧ s = e) ∨
    (tok = nI 1 ∧ sort = nI 1 ∧ s < e ∧ (∀ k, s ≤ k → k < e → 97 ≤ B k ∧ B k ≤ 122) ∧ word = wd B s (e - s)) ∨
    (tok = nI 2 ∧ sort = nI 2 ∧ s < e ∧ ∃ v, v ≤ 10000 ∧ num = nI v ∧ valu = nI v) ∨
    (tok = nI 3 ∧ sort = nI 3 ∧ s < e ∧ valu = nI 59) ∨
    (tok = nI 4 ∧ sort = nI 3 ∧ s < e ∧ ∃ b, b < 256 ∧ b ≠ 59 ∧ valu = nI b))
section AD
variable {B : Nat → Nat} {L : Nat} {tby tape : Nat → Int32}
theorem cl_let : ∀ b, b < 256 → f_X8_isLetter (nI b) = some (if 97 ≤ b ∧ b ≤ 122 then nI 1 else nI 0) ∧ f_X10_isLetter (nI b) = some (if 97 ≤ b ∧ b ≤ 122 then nI 1 else nI 0) := by decide +kernel
theorem cl_dig : ∀ b, b < 256 → f_X8_isDigit (nI b) = some (if 48 ≤ b ∧ b ≤ 57 then nI 1 else nI 0) ∧ f_X10_isDigit (nI b) = some (if 48 ≤ b ∧ b ≤ 57 then nI 1 else nI 0) := by decide +kernel
theorem m_letN : f_X10_isLetter (-1) = some (nI 0) := by decide +kernel
theorem m_digN : f_X10_isDigit (-1) = some (nI 0) := by decide +kernel
theorem byteN {e : Nat} (hL : L ≤ 120) (h : L ≤ e) (he : e < 1000) : f_X10_byteAt tape (nI L) (nI e) = some (-1) := by rw [q_X10_byteAt, if_pos (nI_le h (by omega))]
theorem byteI (hB : BY B L tby tape) {e : Nat} (h : e < L) : f_X10_byteAt tape (nI L) (nI e) = some (nI (B e)) := by
  have hL := hB.1
  rw [q_X10_byteAt, if_neg (nI_ge h (by omega)), gx_n (by omega) (by decide), nI_clamp (by omega), (hB.2 e h).2.2]
theorem wd_s {s k : Nat} (hk : k < 1000) (h : 97 ≤ B (s + k)) (h2 : B (s + k) < 256) : wd B s (k + 1) = if nI 12 ≤ nI k then -1 else lN 27 * wd B s k + (nI (B (s + k))).toInt64 - lN 96 := by
  by_cases c : 12 ≤ k
  · rw [if_pos (nI_le c (by omega))]
    unfold wd
    rw [if_neg (by omega)]
  · rw [if_neg (nI_ge (by omega) (by omega))]
    unfold wd
    rw [if_pos (by omega), if_pos (by omega), nI_l (by omega), lN_mul, lN_add, lN_sub (by omega), show hs B s (k + 1) = 27 * hs B s k + (B (s + k) - 96) from rfl, Nat.add_sub_assoc (by omega)]
/-- letters, from where both stand on -/
theorem let_l (hB : BY B L tby tape) {s : Nat} (num valu : Int32) : ∀ d e n m, e + d = L → d < n → d < m → s ≤ e → (∀ k, s ≤ k → k < e → 97 ≤ B k ∧ B k ≤ 122) → ∃ e', e ≤ e' ∧ e' ≤ L ∧ f_X8_advance_b95 tby (nI L) n (nI 1) (nI s) (nI e) num = some (nI 1, nI s, nI e', num) ∧ f_X10_advance_b126 tape (nI L) m (nI 1) (nI s) (nI e) (wd B s (e - s)) valu = some (nI 1, nI s, nI e', wd B s (e' - s), valu) ∧ ∀ k, s ≤ k → k < e' → 97 ≤ B k ∧ B k ≤ 122
  | d, e, 0, m, h1, h2, h3, h4, h5 => by omega
  | d, e, n + 1, 0, h1, h2, h3, h4, h5 => by omega
  | 0, e, n + 1, m + 1, h1, h2, h3, h4, h5 => by
    have hL := hB.1
    refine ⟨e, Nat.le_refl _, by omega, ?_, ?_, h5⟩
    · rw [q_X8_advance_b95, if_pos (nI_le (by omega) (by omega))]
    · rw [q_X10_advance_b126, if_pos rfl, byteN hL (by omega) (by omega), bd_sm, m_letN, bd_sm, if_pos rfl, q_X10_advance_b207, if_neg (by decide)]
  | d + 1, e, n + 1, m + 1, h1, h2, h3, h4, h5 => by
    have hL := hB.1
    have he : e < L := by omega
    obtain ⟨hb, hc, ht⟩ := hB.2 e he
    obtain ⟨l1, l2⟩ := cl_let (B e) hb
    rw [q_X8_advance_b95, if_neg (nI_ge he (by omega)), gx_n (by omega) (by decide), nI_clamp (by omega), hc, l1, bd_sm, q_X10_advance_b126, if_pos (show nI 1 = nI 1 from rfl), byteI hB he, bd_sm, l2, bd_sm]
    by_cases c : 97 ≤ B e ∧ B e ≤ 122
    · obtain ⟨e', g1, g2, g3, g4, g5⟩ := let_l hB (s := s) num valu d (e + 1) n m (by omega) (by omega) (by omega) (by omega) (fun k k1 k2 => by
        by_cases kk : k = e
        · rw [kk]; exact c
        · exact h5 k k1 (by omega))
      refine ⟨e', by omega, g2, ?_, ?_, g5⟩
      · rw [if_pos c, if_neg n10, nI_add]; exact g3
      · have hw := wd_s (B := B) (s := s) (k := e - s) (by omega) (by rw [show s + (e - s) = e by omega]; exact c.1) (by rw [show s + (e - s) = e by omega]; exact hb)
        rw [show s + (e - s) = e by omega, show e - s + 1 = e + 1 - s by omega] at hw
        rw [hw] at g4
        rw [if_pos c, if_neg n10, pk_sub h4]
        by_cases cc : nI 12 ≤ nI (e - s)
        · rw [if_pos cc] at g4
          rw [if_pos cc, q_X10_advance_b191, nI_add]; exact g4
        · rw [if_neg cc] at g4
          rw [if_neg cc, bd_sm, q_X10_advance_b191, nI_add]; exact g4
    · refine ⟨e, Nat.le_refl _, by omega, ?_, ?_, h5⟩
      · rw [if_neg c, if_pos rfl]
      · rw [if_neg c, if_pos rfl, q_X10_advance_b207, if_neg (by decide)]
/-- digits, from where both stand on -/
theorem dig_l (hB : BY B L tby tape) (s : Int32) (word : Int64) : ∀ d e n m v, e + d = L → d < n → d < m → v ≤ 10000 → ∃ e' v', e ≤ e' ∧ e' ≤ L ∧ v' ≤ 10000 ∧ f_X8_advance_b154 tby (nI L) n (nI 2) s (nI e) (nI v) = some (nI 2, s, nI e', nI v') ∧ f_X10_advance_b207 tape (nI L) m (nI 2) s (nI e) word (nI v) = some (nI 2, s, nI e', word, nI v')
  | d, e, 0, m, v, h1, h2, h3, h4 => by omega
  | d, e, n + 1, 0, v, h1, h2, h3, h4 => by omega
  | 0, e, n + 1, m + 1, v, h1, h2, h3, h4 => by
    have hL := hB.1
    refine ⟨e, v, Nat.le_refl _, by omega, h4, ?_, ?_⟩
    · rw [q_X8_advance_b154, if_pos (nI_le (by omega) (by omega))]
    · rw [q_X10_advance_b207, if_pos rfl, byteN hL (by omega) (by omega), bd_sm, m_digN, bd_sm, if_pos rfl]
  | d + 1, e, n + 1, m + 1, v, h1, h2, h3, h4 => by
    have hL := hB.1
    have he : e < L := by omega
    obtain ⟨hb, hc, ht⟩ := hB.2 e he
    obtain ⟨l1, l2⟩ := cl_dig (B e) hb
    rw [q_X8_advance_b154, if_neg (nI_ge he (by omega)), gx_n (by omega) (by decide), gx_n (by omega) (by decide), nI_clamp (by omega), hc, l1, bd_sm, q_X10_advance_b207, if_pos (show nI 2 = nI 2 from rfl), byteI hB he, bd_sm, l2, bd_sm]
    by_cases c : 48 ≤ B e ∧ B e ≤ 57
    · rw [if_pos c, if_neg n10, if_neg n10, pk_mul, nI_add (v * 10) (B e), pk_sub (show 48 ≤ v * 10 + B e by omega), nI_add e 1]
      by_cases cv : v ≤ 999
      · rw [if_pos (show nI (v * 10 + B e - 48) < nI 10000 from nI_lt (by omega) (by omega)), if_pos (nI_le cv (by omega)), bd_sm, pk_mul, nI_add (10 * v) (B e), pk_sub (show 48 ≤ 10 * v + B e by omega), q_X10_advance_b265, nI_add e 1, Nat.mul_comm 10 v]
        obtain ⟨e', v', g1, g2, g3, g4, g5⟩ := dig_l hB s word d (e + 1) n m (v * 10 + B e - 48) (by omega) (by omega) (by omega) (by omega)
        exact ⟨e', v', by omega, g2, g3, g4, g5⟩
      · rw [if_neg (show ¬ nI (v * 10 + B e - 48) < nI 10000 from nI_nlt (by omega) (by omega)), if_neg (nI_ge (by omega) (by omega)), q_X10_advance_b265, nI_add]
        obtain ⟨e', v', g1, g2, g3, g4, g5⟩ := dig_l hB s word d (e + 1) n m 10000 (by omega) (by omega) (by omega) (by omega)
        exact ⟨e', v', by omega, g2, g3, g4, g5⟩
    · refine ⟨e, v, Nat.le_refl _, by omega, h4, ?_, ?_⟩
      · rw [if_neg c, if_pos rfl]
      · rw [if_neg c, if_pos rfl]
/-- the next token, from where both stand on -/
theorem adv_l (hB : BY B L tby tape) (tok sta num sort tends : Int32) (word : Int64) (valu : Int32) : ∀ d e n m, e + d = L → d < n → d < m → ∃ tok' s' e' num' sort' word' valu', f_X8_advance_b0 tby (nI L) n tok sta (nI e) num = some (tok', nI s', nI e', num') ∧ f_X10_advance_b8 tape (nI L) m sort (nI e) tends word valu = some (sort', nI s', nI e', word', valu') ∧ TK B L s' e' tok' num' sort' word' valu' ∧ e ≤ s'
  | d, e, 0, m, h1, h2, h3 => by omega
  | d, e, n + 1, 0, h1, h2, h3 => by omega
  | 0, e, n + 1, m + 1, h1, h2, h3 => by
    have hL := hB.1
    have ee : e = L := by omega
    refine ⟨nI 0, e, e, num, nI 0, lN 0, -1, ?_, ?_, ⟨Nat.le_refl _, by omega, Or.inl ⟨rfl, rfl, rfl⟩⟩, Nat.le_refl _⟩
    · rw [q_X8_advance_b0, if_pos (nI_le (by omega) (by omega)), q_X8_advance_b38, if_neg (nI_nlt (by omega) (by omega))]
    · rw [q_X10_advance_b8, byteN hL (by omega) (by omega), bd_sm, if_neg (by decide), bd_sm, if_neg (by decide), q_X10_advance_b83, if_neg (by decide), q_X10_advance_b105, if_neg (by decide), q_X10_advance_b126, if_neg (by decide), q_X10_advance_b207, if_neg (by decide)]
  | d + 1, e, n + 1, m + 1, h1, h2, h3 => by
    have hL := hB.1
    have he : e < L := by omega
    obtain ⟨hb, hc, ht⟩ := hB.2 e he
    rw [q_X8_advance_b0, if_neg (nI_ge he (by omega)), gx_n (by omega) (by decide), show (nI e).toNatClampNeg = e from nI_clamp (by omega), hc, q_X10_advance_b8, byteI hB he, bd_sm, bd_sm]
    by_cases c : B e = 32
    · rw [if_pos (by rw [c]), if_pos (by rw [c]), nI_add]
      obtain ⟨t', s', e', u', o', w', v', g1, g2, g3, g4⟩ := adv_l hB tok sta num sort tends word valu d (e + 1) n m (by omega) (by omega) (by omega)
      exact ⟨t', s', e', u', o', w', v', g1, g2, g3, by omega⟩
    · obtain ⟨l1, l2⟩ := cl_let (B e) hb
      obtain ⟨d1, d2⟩ := cl_dig (B e) hb
      rw [if_neg (nsel c (by omega) (by decide)), if_neg (nsel c (by omega) (by decide)), if_pos (show nI 0 ≤ nI (B e) from nI_le (Nat.zero_le _) (by omega)), l2, bd_sm, q_X8_advance_b38, if_pos (nI_lt he (by omega)), gx_n (by omega) (by decide), show (nI e).toNatClampNeg = e from nI_clamp (by omega), hc, l1, bd_sm]
      by_cases cl : 97 ≤ B e ∧ B e ≤ 122
      · obtain ⟨e', g1, g2, g3, g4, g5⟩ := let_l hB (s := e) num (nI (B e)) d (e + 1) 1000 999 (by omega) (by omega) (by omega) (by omega) (fun k k1 k2 => by rw [show k = e by omega]; exact cl)
        refine ⟨nI 1, e, e', num, nI 1, wd B e (e' - e), nI (B e), ?_, ?_, ⟨by omega, g2, Or.inr (Or.inl ⟨rfl, rfl, by omega, g5, rfl⟩)⟩, Nat.le_refl _⟩
        · rw [if_pos cl, if_neg n10, nI_add]; exact g3
        · have hw : wd B e (e + 1 - e) = lN 27 * lN 0 + (nI (B e)).toInt64 - lN 96 := by
            have h := wd_s (B := B) (s := e) (k := 0) (by decide) cl.1 hb
            rw [if_neg (by decide)] at h
            rw [show e + 1 - e = 0 + 1 by omega]; exact h
          rw [hw] at g4
          rw [if_pos cl, if_neg n10, q_X10_advance_b83, if_neg (by decide), q_X10_advance_b105, if_neg (by decide), q_X10_advance_b126, if_pos rfl, byteI hB he, bd_sm, l2, bd_sm, if_pos cl, if_neg n10, pk_sub (Nat.le_refl _), Nat.sub_self, if_neg (by decide), bd_sm, q_X10_advance_b191, nI_add]
          exact g4
      · rw [if_neg cl, if_pos rfl, if_pos rfl, d1, d2, bd_sm, bd_sm]
        by_cases cd : 48 ≤ B e ∧ B e ≤ 57
        · obtain ⟨e', v', g1, g2, g3, g4, g5⟩ := dig_l hB (nI e) (lN 0) d (e + 1) 1000 999 (B e - 48) (by omega) (by omega) (by omega) (by omega)
          refine ⟨nI 2, e, e', nI v', nI 2, lN 0, nI v', ?_, ?_, ⟨by omega, g2, Or.inr (Or.inr (Or.inl ⟨rfl, rfl, by omega, v', g3, rfl, rfl⟩))⟩, Nat.le_refl _⟩
          · rw [if_pos cd, if_neg n10, pk_sub cd.1, nI_add]; exact g4
          · rw [if_pos cd, if_neg n10, q_X10_advance_b83, if_pos rfl, q_X10_advance_b105, if_neg (by decide), q_X10_advance_b126, if_neg (by decide), q_X10_advance_b207, if_pos rfl, byteI hB he, bd_sm, d2, bd_sm, if_pos cd, if_neg n10, if_pos (by decide), bd_sm, q_X10_advance_b265, pk_mul, nI_add (10 * 0) (B e), pk_sub (show 48 ≤ 10 * 0 + B e by omega), nI_add e 1, show 10 * 0 + B e - 48 = B e - 48 by omega]
            exact g5
        · rw [if_neg cd, if_pos rfl, if_pos rfl]
          have hm : f_X10_advance_b83 tape (nI L) sort (nI e) (nI e) word valu (nI (B e)) (nI 3) = some (nI 3, nI e, nI (e + 1), lN 0, nI (B e)) := by
            rw [q_X10_advance_b83, if_neg (by decide), q_X10_advance_b105, if_pos rfl, nI_add, q_X10_advance_b126, if_neg (by decide), q_X10_advance_b207, if_neg (by decide)]
          by_cases c59 : B e = 59
          · refine ⟨nI 3, e, e + 1, num, nI 3, lN 0, nI (B e), ?_, hm, ⟨by omega, by omega, Or.inr (Or.inr (Or.inr (Or.inl ⟨rfl, rfl, by omega, by rw [c59]⟩)))⟩, Nat.le_refl _⟩
            rw [if_pos (by rw [c59]), nI_add]
          · refine ⟨nI 4, e, e + 1, num, nI 3, lN 0, nI (B e), ?_, hm, ⟨by omega, by omega, Or.inr (Or.inr (Or.inr (Or.inr ⟨rfl, rfl, by omega, B e, hb, c59, rfl⟩)))⟩, Nat.le_refl _⟩
            rw [if_neg (nsel c59 (by omega) (by decide)), nI_add]
theorem adv (hB : BY B L tby tape) (tok sta num sort begs : Int32) (word : Int64) (valu : Int32) {e : Nat} (he : e ≤ L) : ∃ tok' s' e' num' sort' word' valu', f_X8_advance tby (nI L) tok sta (nI e) num = some (tok', nI s', nI e', num') ∧ f_X10_advance tape (nI L) sort begs (nI e) word valu = some (sort', nI s', nI e', word', valu') ∧ TK B L s' e' tok' num' sort' word' valu' ∧ e ≤ s' := by
  have hL := hB.1
  rw [q_X8_advance, q_X10_advance]
  exact adv_l hB tok sta num sort (nI e) word valu (L - e) e 1000 1000 (by omega) (by omega) (by omega)
end AD
