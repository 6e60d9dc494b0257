/-! the text: words and numbers taken, by both -/
def LT (w i : Nat) : Nat := ((sf_byt.getD w []).getD i 0).toNatClampNeg
def cst (w : Nat) : Nat := [125042, 276913705, 28801, 4285627, 2401198564, 7380411658, 47, 1228, 365321, 555, 411, 3554408, 7011352].getD w 0
def lenW (w : Nat) : Nat := sf_len.getD w 0
theorem lt_ok : ∀ w, w < 13 → ∀ i, i < 7 → i < lenW w → sf_chr w (nI i) = nI (LT w i) ∧ 97 ≤ LT w i ∧ LT w i ≤ 122 := by decide +kernel
theorem len_ok : ∀ w, w < 13 → lenW w ≤ 7 ∧ 1 ≤ lenW w ∧ hs (LT w) 0 (lenW w) = cst w := by decide +kernel
theorem hs_inj {B C : Nat → Nat} {s t : Nat} : ∀ k l, (∀ i, i < k → 97 ≤ B (s + i) ∧ B (s + i) ≤ 122) → (∀ i, i < l → 97 ≤ C (t + i) ∧ C (t + i) ≤ 122) → hs B s k = hs C t l → k = l ∧ ∀ i, i < k → B (s + i) = C (t + i)
  | 0, 0, h1, h2, h3 => ⟨rfl, fun i hi => absurd hi (Nat.not_lt_zero i)⟩
  | 0, l + 1, h1, h2, h3 => by
    have h3 : 0 = 27 * hs C t l + (C (t + l) - 96) := h3
    have := h2 l (Nat.lt_succ_self l)
    omega
  | k + 1, 0, h1, h2, h3 => by
    have h3 : 27 * hs B s k + (B (s + k) - 96) = 0 := h3
    have := h1 k (Nat.lt_succ_self k)
    omega
  | k + 1, l + 1, h1, h2, h3 => by
    have h3 : 27 * hs B s k + (B (s + k) - 96) = 27 * hs C t l + (C (t + l) - 96) := h3
    have a1 := h1 k (Nat.lt_succ_self k)
    have a2 := h2 l (Nat.lt_succ_self l)
    obtain ⟨e1, e2⟩ := hs_inj k l (fun i hi => h1 i (by omega)) (fun i hi => h2 i (by omega)) (by omega)
    subst e1
    refine ⟨rfl, fun i hi => ?_⟩
    by_cases c : i = k
    · subst c; omega
    · exact e2 i (by omega)
theorem hs_lt {B : Nat → Nat} {s : Nat} : ∀ k, (∀ i, i < k → 97 ≤ B (s + i) ∧ B (s + i) ≤ 122) → hs B s k < 27 ^ k
  | 0, h => by show 0 < 27 ^ 0; decide
  | k + 1, h => by
    have a1 := h k (Nat.lt_succ_self k)
    have a2 := hs_lt k (fun i hi => h i (by omega))
    show 27 * hs B s k + (B (s + k) - 96) < 27 ^ k * 27
    omega
theorem cst_lt : ∀ w, w < 13 → cst w < 2 ^ 63 := by decide +kernel
section TKS
variable {B : Nat → Nat} {L s e : Nat} {tby tape : Nat → Int32} {tok num sort valu : Int32} {word : Int64}
theorem cmp_l (hB : BY B L tby tape) {w : Nat} (hw : w < 13) (hs1 : s + lenW w ≤ L) (tok beh : Int32) : ∀ n i, i ≤ lenW w → lenW w < i + n → (∀ j, j < i → B (s + j) = LT w j) → ∃ r, f_X8_isWord_b28 tby (nI L) tok (nI s) beh n w (nI i) = some r ∧ ((r = nI 1 ∧ ∀ j, j < lenW w → B (s + j) = LT w j) ∨ (r = nI 0 ∧ ¬ ∀ j, j < lenW w → B (s + j) = LT w j))
  | 0, i, h1, h2, h3 => by omega
  | n + 1, i, h1, h2, h3 => by
    have hL := hB.1
    obtain ⟨l1, l2, l3⟩ := len_ok w hw
    rw [q_X8_isWord_b28, gk_n hw, show Int32.ofNat (sf_len.getD w 0) = nI (lenW w) from rfl]
    by_cases c : i = lenW w
    · exact ⟨nI 1, by rw [if_pos (nI_le (by omega) (by omega))], Or.inl ⟨rfl, fun j hj => h3 j (by omega)⟩⟩
    · obtain ⟨x1, x2, x3⟩ := lt_ok w hw i (by omega) (by omega)
      have hb := hB.2 (s + i) (by omega)
      rw [if_neg (nI_ge (by omega) (by omega)), nI_add, if_neg (nI_ge (by omega) (by omega)), gx_n (by omega) (by decide), gk_n hw, show sf_len.getD w 0 = lenW w from rfl, gx_n (show i < lenW w by omega) (by omega), nI_clamp (by omega), hb.2.1, x1, nI_add]
      by_cases g : B (s + i) = LT w i
      · rw [if_pos (by rw [g])]
        refine cmp_l hB hw hs1 tok beh n (i + 1) (by omega) (by omega) fun j hj => ?_
        by_cases gj : j = i
        · rw [gj]; exact g
        · exact h3 j (by omega)
      · exact ⟨nI 0, by rw [if_neg (nsel g (by omega) (by omega))], Or.inr ⟨rfl, fun q => g (q i (by omega))⟩⟩
theorem isW (hB : BY B L tby tape) {w : Nat} (hw : w < 13) (hT : TK B L s e tok num sort word valu) : ∃ r, f_X8_isWord tby (nI L) tok (nI s) (nI e) w = some r ∧ f_X10_isWord sort word (lN (cst w)) = some r ∧ (r = nI 0 ∨ (r = nI 1 ∧ tok = nI 1)) := by
  have hL := hB.1
  obtain ⟨t1, t2, t3⟩ := hT
  rw [q_X8_isWord, q_X10_isWord]
  have no : ¬ tok = nI 1 → ¬ sort = nI 1 → ∃ r, (if tok = nI 1 then gk w 13 (if nI e - nI s = Int32.ofNat (sf_len.getD w 0) then f_X8_isWord_b28 tby (nI L) tok (nI s) (nI e) 1000 w (nI 0) else some (nI 0)) else some (nI 0)) = some r ∧ (if sort = nI 1 then if lg_cmp word (lN (cst w)) = nI 0 then some (nI 1) else some (nI 0) else some (nI 0)) = some r ∧ (r = nI 0 ∨ (r = nI 1 ∧ tok = nI 1)) := by
    intro a b
    exact ⟨nI 0, by rw [if_neg a], by rw [if_neg b], Or.inl rfl⟩
  rcases t3 with ⟨rfl, rfl, -⟩ | ⟨rfl, rfl, t4, t5, rfl⟩ | ⟨rfl, rfl, -⟩ | ⟨rfl, rfl, -⟩ | ⟨rfl, rfl, -⟩
  · exact no (by decide) (by decide)
  · obtain ⟨l1, l2, l3⟩ := len_ok w hw
    have hlet : ∀ i, i < e - s → 97 ≤ B (s + i) ∧ B (s + i) ≤ 122 := fun i hi => t5 (s + i) (by omega) (by omega)
    have hlt : ∀ i, i < lenW w → 97 ≤ LT w (0 + i) ∧ LT w (0 + i) ≤ 122 := fun i hi => by rw [Nat.zero_add]; exact (lt_ok w hw i (by omega) hi).2
    rw [if_pos rfl, if_pos rfl, gk_n hw, pk_sub t1, show Int32.ofNat (sf_len.getD w 0) = nI (lenW w) from rfl]
    have hcmp : (lg_cmp (wd B s (e - s)) (lN (cst w)) = nI 0) ↔ (e - s = lenW w ∧ ∀ j, j < lenW w → B (s + j) = LT w j) := by
      rw [lgc]
      by_cases c : e - s ≤ 12
      · have hb := hs_lt (B := B) (s := s) (e - s) hlet
        have hp : 27 ^ (e - s) ≤ 27 ^ 12 := Nat.pow_le_pow_right (by decide) c
        have h63 : (27 : Nat) ^ 12 < 2 ^ 63 := by decide
        unfold wd
        rw [if_pos c, fb_lN_inj (by omega) (cst_lt w hw), ← l3]
        constructor
        · intro q
          obtain ⟨q1, q2⟩ := hs_inj (e - s) (lenW w) hlet hlt q
          exact ⟨q1, fun j hj => by rw [q2 j (by omega), Nat.zero_add]⟩
        · rintro ⟨q1, q2⟩
          rw [q1]
          have : ∀ k, k ≤ lenW w → hs B s k = hs (LT w) 0 k := by
            intro k
            induction k with
            | zero => intro _; rfl
            | succ k ih =>
              intro hk
              show 27 * hs B s k + (B (s + k) - 96) = 27 * hs (LT w) 0 k + (LT w (0 + k) - 96)
              rw [ih (by omega), q2 k (by omega), Nat.zero_add]
          exact this _ (Nat.le_refl _)
      · unfold wd
        rw [if_neg c]
        constructor
        · intro q
          exfalso
          have := cst_lt w hw
          have h1 : (lN (cst w)).toInt = (cst w : Int) := by
            show (Int64.ofNat (cst w)).toInt = _
            rw [Int64.toInt_ofNat_of_lt this]
          rw [← q] at h1
          have h2 : (-1 : Int64).toInt = -1 := by decide
          omega
        · rintro ⟨q1, q2⟩; omega
    by_cases c : e - s = lenW w
    · rw [if_pos (by rw [c])]
      obtain ⟨r, m1, m2⟩ := cmp_l hB hw (s := s) (by omega) (nI 1) (nI e) 1000 0 (Nat.zero_le _) (by omega) (fun j hj => absurd hj (Nat.not_lt_zero j))
      refine ⟨r, m1, ?_, ?_⟩
      · rcases m2 with ⟨rfl, m2⟩ | ⟨rfl, m2⟩
        · rw [if_pos (hcmp.mpr ⟨c, m2⟩)]
        · rw [if_neg (fun q => m2 (hcmp.mp q).2)]
      · rcases m2 with ⟨rfl, m2⟩ | ⟨rfl, m2⟩
        · exact Or.inr ⟨rfl, rfl⟩
        · exact Or.inl rfl
    · exact ⟨nI 0, by rw [if_neg (nsel c (by omega) (by omega))], by rw [if_neg (fun q => c (hcmp.mp q).1)], Or.inl rfl⟩
  · exact no (by decide) (by decide)
  · exact no (by decide) (by decide)
  · exact no (by decide) (by decide)
theorem wantW0 (a0 : Int64) : f_X10_wantWord tape (nI L) sort (nI s) (nI e) word valu (nI 0) a0 = some (sort, nI s, nI e, word, valu, nI 0) := by
  rw [q_X10_wantWord, if_pos rfl, q_X10_wantWord_b20, q_X10_wantWord_b21, gb_n0, if_pos rfl]
theorem wantN0 (a0 a1 : Int32) : f_X10_wantNumber tape (nI L) sort (nI s) (nI e) word valu (nI 0) a0 a1 = some (valu, sort, nI s, nI e, word, valu, nI 0) := by
  rw [q_X10_wantNumber, if_pos rfl, q_X10_wantNumber_b34, q_X10_wantNumber_b35, gb_n0, if_pos rfl]
theorem mayW0 (a0 : Int64) (a1 a2 a3 : Int32) : f_X10_mayWant tape (nI L) sort (nI s) (nI e) word valu (nI 0) a0 a1 a2 a3 = some (a3, sort, nI s, nI e, word, valu, nI 0) := by
  rw [q_X10_mayWant, if_pos rfl]
theorem takeW (hB : BY B L tby tape) {w : Nat} (hw : w < 13) (hT : TK B L s e tok num sort word valu) :
    (f_X8_takeWord tby (nI L) tok (nI s) (nI e) num w = some (nI 0, tok, nI s, nI e, num) ∧ f_X10_isWord sort word (lN (cst w)) = some (nI 0) ∧ f_X10_wantWord tape (nI L) sort (nI s) (nI e) word valu (nI 1) (lN (cst w)) = some (sort, nI s, nI e, word, valu, nI 0)) ∨
    ∃ tok' s' e' num' sort' word' valu', f_X8_takeWord tby (nI L) tok (nI s) (nI e) num w = some (nI 1, tok', nI s', nI e', num') ∧ f_X10_isWord sort word (lN (cst w)) = some (nI 1) ∧ f_X10_advance tape (nI L) sort (nI s) (nI e) word valu = some (sort', nI s', nI e', word', valu') ∧ f_X10_wantWord tape (nI L) sort (nI s) (nI e) word valu (nI 1) (lN (cst w)) = some (sort', nI s', nI e', word', valu', nI 1) ∧ TK B L s' e' tok' num' sort' word' valu' ∧ e ≤ s' := by
  obtain ⟨r, r1, r2, r3⟩ := isW hB hw hT
  rcases r3 with rfl | ⟨rfl, -⟩
  · left
    exact ⟨by rw [q_X8_takeWord, r1, bd_sm, if_pos rfl], r2, by rw [q_X10_wantWord, if_neg n10, r2, bd_sm, if_pos rfl, q_X10_wantWord_b20, q_X10_wantWord_b21, gb_n0, if_pos rfl]⟩
  · right
    obtain ⟨t', s', e', u', o', w', v', g1, g2, g3, g4⟩ := adv hB tok (nI s) num sort (nI s) word valu hT.2.1
    exact ⟨t', s', e', u', o', w', v', by rw [q_X8_takeWord, r1, bd_sm, if_neg n10, g1, bd_sm], r2, g2, by rw [q_X10_wantWord, if_neg n10, r2, bd_sm, if_neg n10, q_X10_wantWord_b21, gb_n1, if_neg n10, g2, bd_sm], g3, g4⟩
theorem takeN (hB : BY B L tby tape) (hT : TK B L s e tok num sort word valu) (ttak : Int32) (lo hi : Nat) (hh : lo ≤ hi) (h3 : hi < 1000) :
    (f_X8_take tby (nI L) tok (nI s) (nI e) num ttak (nI lo) (nI hi) = some (nI 0, tok, nI s, nI e, num, ttak) ∧ f_X10_wantNumber tape (nI L) sort (nI s) (nI e) word valu (nI 1) (nI lo) (nI hi) = some (valu, sort, nI s, nI e, word, valu, nI 0)) ∨
    ∃ v tok' s' e' num' sort' word' valu', lo ≤ v ∧ v ≤ hi ∧ f_X8_take tby (nI L) tok (nI s) (nI e) num ttak (nI lo) (nI hi) = some (nI 1, tok', nI s', nI e', num', nI v) ∧ f_X10_wantNumber tape (nI L) sort (nI s) (nI e) word valu (nI 1) (nI lo) (nI hi) = some (nI v, sort', nI s', nI e', word', valu', nI 1) ∧ TK B L s' e' tok' num' sort' word' valu' ∧ e ≤ s' := by
  obtain ⟨t1, t2, t3⟩ := id hT
  rw [q_X8_take, q_X10_wantNumber, if_neg n10]
  have no : ¬ tok = nI 2 → ¬ sort = nI 2 → ((if tok = nI 2 then bd (f_X9_isWithin num (nI lo) (nI hi)) (fun r2 => if r2 = nI 0 then some (nI 0, tok, nI s, nI e, num, ttak) else bd (f_X8_advance tby (nI L) tok (nI s) (nI e) num) (fun r4 => some (nI 1, r4.1, r4.2.1, r4.2.2.1, r4.2.2.2, num))) else some (nI 0, tok, nI s, nI e, num, ttak)) = some (nI 0, tok, nI s, nI e, num, ttak) ∧ (if sort = nI 2 then bd (f_X10_in valu (nI lo) (nI hi)) (fun r3 => if r3 = nI 0 then f_X10_wantNumber_b34 tape (nI L) sort (nI s) (nI e) word valu (nI 1) valu else f_X10_wantNumber_b35 tape (nI L) sort (nI s) (nI e) word valu (nI 1) valu (nI 1)) else f_X10_wantNumber_b34 tape (nI L) sort (nI s) (nI e) word valu (nI 1) valu) = some (valu, sort, nI s, nI e, word, valu, nI 0)) := by
    intro a b
    exact ⟨by rw [if_neg a], by rw [if_neg b, q_X10_wantNumber_b34, q_X10_wantNumber_b35, gb_n0, if_pos rfl]⟩
  rcases t3 with ⟨rfl, rfl, -⟩ | ⟨rfl, rfl, -⟩ | ⟨rfl, rfl, t4, v, hv, rfl, rfl⟩ | ⟨rfl, rfl, -⟩ | ⟨rfl, rfl, -⟩
  · exact Or.inl (no (by decide) (by decide))
  · exact Or.inl (no (by decide) (by decide))
  · rcases win (nI v) lo hi h3 hh with ⟨w1, w2⟩ | ⟨j, hj1, hj2, hj, w1, w2⟩
    · left
      exact ⟨by rw [if_pos rfl, w2, bd_sm, if_pos rfl], by rw [if_pos rfl, w1, bd_sm, if_pos rfl, q_X10_wantNumber_b34, q_X10_wantNumber_b35, gb_n0, if_pos rfl]⟩
    · right
      obtain ⟨t', s', e', u', o', w', v', g1, g2, g3, g4⟩ := adv hB (nI 2) (nI s) (nI v) (nI 2) (nI s) word (nI v) hT.2.1
      exact ⟨j, t', s', e', u', o', w', v', hj1, hj2, by rw [if_pos rfl, w2, bd_sm, if_neg n10, g1, bd_sm, hj], by rw [if_pos rfl, w1, bd_sm, if_neg n10, q_X10_wantNumber_b35, gb_n1, if_neg n10, g2, bd_sm, hj], g3, g4⟩
  · exact Or.inl (no (by decide) (by decide))
  · exact Or.inl (no (by decide) (by decide))
end TKS
