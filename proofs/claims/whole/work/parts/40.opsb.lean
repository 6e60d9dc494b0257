/-! the call copy -/
section OB
variable {fi fnd : Nat → Int32} {sh : Nat → ShS} {bits size : Nat → Int32} {shts lent : Nat → Int64}
theorem part_ok {s n : Nat} (hs : s < 4) (hn : n ≤ 40) (hz : size s = nI n) (a b : Int32) : (f_X7_holds (nI n) a b = some (nI 0) ∧ f_X10_isPart_ size (nI s) a b = some (nI 0)) ∨ ∃ p q, a = nI p ∧ b = nI q ∧ p + q ≤ n ∧ f_X7_holds (nI n) a b = some (nI 1) ∧ f_X10_isPart_ size (nI s) a b = some (nI 1) := by
  rw [q_X7_holds, q_X10_isPart_, gx_n hs (by decide), gx_n hs (by decide), nI_clamp (by omega), hz]
  by_cases c1 : a < nI 0
  · rw [if_pos c1]; exact Or.inl ⟨rfl, rfl⟩
  · rw [if_neg c1]
    by_cases c2 : b < nI 0
    · rw [if_pos c2]; exact Or.inl ⟨rfl, rfl⟩
    · rw [if_neg c2]
      obtain ⟨p, hp, rfl⟩ := nI_of c1
      obtain ⟨q, hq, rfl⟩ := nI_of c2
      by_cases c3 : nI n < nI q
      · rw [if_pos c3]; exact Or.inl ⟨rfl, rfl⟩
      · rw [if_neg c3]
        rw [nI_ltI (by omega) hq] at c3
        rw [pk_sub (by omega)]
        by_cases c4 : nI (n - q) < nI p
        · rw [if_pos c4]; exact Or.inl ⟨rfl, rfl⟩
        · rw [if_neg c4]
          rw [nI_ltI (by omega) hp] at c4
          exact Or.inr ⟨p, q, rfl, rfl, by omega, rfl, rfl⟩
theorem cp2_l {t p q : Nat} (ht : t < 4) (hpq : p + q ≤ 40) : ∀ n k (g : Nat → Int64), k ≤ q → q < k + n → (∀ m, g m = if 40 * t + p ≤ m ∧ m < 40 * t + p + k then lent (m - (40 * t + p)) else shts m) → ∃ g', f_X10_copy_b139 bits size n fnd g lent (nI t) (nI p) (nI q) (nI k) = some (nI q, fnd, g', lent) ∧ ∀ m, g' m = if 40 * t + p ≤ m ∧ m < 40 * t + p + q then lent (m - (40 * t + p)) else shts m
  | 0, k, g, h1, h2, h3 => by omega
  | n + 1, k, g, h1, h2, h3 => by
    rw [q_X10_copy_b139]
    by_cases c : k = q
    · subst c
      exact ⟨g, by rw [if_pos (nI_le (Nat.le_refl _) (by omega))], h3⟩
    · rw [if_neg (nI_ge (by omega) (by omega)), gx_n (show k < 40 by omega) (by decide), pk_mul, nI_add, nI_add, gx_n (by omega) (by decide), nI_clamp (by omega), nI_clamp (by omega), nI_add]
      refine cp2_l ht hpq n (k + 1) _ (by omega) (by omega) fun m => ?_
      by_cases e : m = 40 * t + p + k
      · subst e
        rw [ul_s, if_pos (by omega), show 40 * t + p + k - (40 * t + p) = k by omega]
      · rw [ul_n e, h3 m]
        by_cases e2 : 40 * t + p ≤ m ∧ m < 40 * t + p + k
        · rw [if_pos e2, if_pos (by omega)]
        · rw [if_neg e2, if_neg (by omega)]
theorem cp1_l {s p t p3 q : Nat} (hs : s < 4) (hpq : p + q ≤ 40) (ht : t < 4) (hpq3 : p3 + q ≤ 40) : ∀ n k (l : Nat → Int64), k ≤ q → q < k + n → (∀ j, j < k → l j = shts (40 * s + p + j)) → ∃ g' l', f_X10_copy_b102 bits size n fnd shts l (nI s) (nI p) (nI t) (nI p3) (nI q) (nI k) = some (nI q, fnd, g', l') ∧ ∀ m, g' m = if 40 * t + p3 ≤ m ∧ m < 40 * t + p3 + q then shts (40 * s + p + (m - (40 * t + p3))) else shts m
  | 0, k, l, h1, h2, h3 => by omega
  | n + 1, k, l, h1, h2, h3 => by
    rw [q_X10_copy_b102]
    by_cases c : k = q
    · subst c
      obtain ⟨g', e1, e2⟩ := cp2_l (bits := bits) (size := size) (fnd := fnd) (lent := l) (shts := shts) ht hpq3 1000 0 shts (Nat.zero_le _) (by omega) (fun m => by rw [if_neg (by omega)])
      refine ⟨g', l, by rw [if_pos (nI_le (Nat.le_refl _) (by omega)), e1], fun m => ?_⟩
      rw [e2 m]
      by_cases g : 40 * t + p3 ≤ m ∧ m < 40 * t + p3 + k
      · rw [if_pos g, if_pos g, h3 _ (by omega)]
      · rw [if_neg g, if_neg g]
    · rw [if_neg (nI_ge (by omega) (by omega)), pk_mul, nI_add, nI_add, gx_n (by omega) (by decide), gx_n (show k < 40 by omega) (by decide), nI_clamp (by omega), nI_clamp (by omega), nI_add]
      refine cp1_l hs hpq ht hpq3 n (k + 1) _ (by omega) (by omega) fun j hj => ?_
      by_cases e : j = k
      · subst e; exact ul_s
      · rw [ul_n e]; exact h3 j (by omega)
theorem gc_n {α : Type} {p p3 q : Nat} {k : Option α} (h1 : p + q ≤ 40) (h2 : p3 + q ≤ 40) : gc (nI p) (nI p3) (nI q) 40 40 k = k := by
  unfold gc
  rw [nI_clamp (by omega), nI_clamp (by omega), nI_clamp (by omega)]
  exact if_pos ⟨nI_nlt (b := 0) (Nat.zero_le _) (by omega), nI_nlt (b := 0) (Nat.zero_le _) (by omega), nI_nlt (b := 0) (Nat.zero_le _) (by omega), h1, h2⟩
theorem op_copy (hF : RF fi fnd) (hH : RH sh bits size shts) (lent : Nat → Int64) (a0 a1 a2 a3 a4 : Int32) : ∃ r sh' fi' fnd' shts' lent', f_X9_copy sh fi a0 a1 a2 a3 a4 = some (r, sh', fi') ∧ f_X10_copy fnd bits size shts lent a0 a1 a2 a3 a4 = some (r, fnd', shts', lent') ∧ RH sh' bits size shts' ∧ RF fi' fnd' := by
  obtain ⟨fi', fnd', e1, e2, hF'⟩ := find0 hF
  rw [q_X9_copy, q_X10_copy]
  rcases wsheet a0 with ⟨p1, p2⟩ | ⟨s, hs, rfl, p1, p2⟩
  · exact ⟨-1000000001, sh, fi', fnd', shts, lent, by rw [p2, bd_sm, if_pos rfl, q_X9_copy_b14, e1, bd_sm], by rw [p1, bd_sm, if_pos rfl, q_X10_copy_b14, e2, bd_sm], hH, hF'⟩
  · rw [p1, p2, bd_sm, bd_sm, if_neg n10, if_neg n10]
    rcases wsheet a2 with ⟨k1, k2⟩ | ⟨t, ht, rfl, k1, k2⟩
    · exact ⟨-1000000001, sh, fi', fnd', shts, lent, by rw [k2, bd_sm, if_pos rfl, q_X9_copy_b14, e1, bd_sm], by rw [k1, bd_sm, if_pos rfl, q_X10_copy_b14, e2, bd_sm], hH, hF'⟩
    · obtain ⟨b1, b2, ⟨n, hn, b3⟩, b4, b5⟩ := hH s hs
      obtain ⟨d1, d2, ⟨m, hm, d3⟩, d4, d5⟩ := hH t ht
      rw [k1, k2, bd_sm, bd_sm, if_neg n10, if_neg n10, gx_n hs (by decide), gx_n hs (by decide), gx_n ht (by decide), gx_n ht (by decide), show (nI s).toNatClampNeg = s from nI_clamp (by omega), show (nI t).toNatClampNeg = t from nI_clamp (by omega), gk_n hs, b1, d1]
      obtain ⟨fi5, fnd5, f1, f2, hF5⟩ := find5 hF
      by_cases c : bits s = nI 0
      · exact ⟨-1000000006, sh, fi5, fnd5, shts, lent, by rw [RB1 c, bd_sm, if_neg n10, q_X9_copy_b52, f1, bd_sm], by rw [if_pos c, q_X10_copy_b39, f2, bd_sm], hH, hF5⟩
      · rw [RB0 c, bd_sm, if_pos rfl, if_neg c, gk_n ht]
        by_cases c' : bits t = nI 0
        · exact ⟨-1000000006, sh, fi5, fnd5, shts, lent, by rw [RB1 c', bd_sm, if_neg n10, q_X9_copy_b52, f1, bd_sm], by rw [if_pos c', q_X10_copy_b39, f2, bd_sm], hH, hF5⟩
        · rw [RB0 c', bd_sm, if_pos rfl, if_neg c', gk_n hs, gk_n ht, gx_n hs (by decide), gx_n ht (by decide)]
          by_cases g : bits s = bits t
          · rw [if_pos g, if_pos g, gk_n hs, b4, b3]
            rcases part_ok hs hn b3 a1 a4 with ⟨q1, q2⟩ | ⟨p, q, rfl, rfl, hpq, q1, q2⟩
            · exact ⟨-1000000001, sh, fi', fnd', shts, lent, by rw [q1, bd_sm, if_pos rfl, q_X9_copy_b100, e1, bd_sm], by rw [q2, bd_sm, if_pos rfl, q_X10_copy_b92, e2, bd_sm], hH, hF'⟩
            · rw [q1, q2, bd_sm, bd_sm, if_neg n10, if_neg n10, gk_n ht, d4, d3]
              rcases part_ok ht hm d3 a3 (nI q) with ⟨r1, r2⟩ | ⟨p3, q', rfl, hq', hpq3, r1, r2⟩
              · exact ⟨-1000000001, sh, fi', fnd', shts, lent, by rw [r1, bd_sm, if_pos rfl, q_X9_copy_b100, e1, bd_sm], by rw [r2, bd_sm, if_pos rfl, q_X10_copy_b92, e2, bd_sm], hH, hF'⟩
              · have hqq : p3 + q ≤ m := by
                  by_cases z0 : q = q'
                  · omega
                  · exact absurd hq' (nsel z0 (by omega) (by omega))
                obtain ⟨g', l', m1, m2⟩ := cp1_l (bits := bits) (size := size) (fnd := fnd) (shts := shts) hs (show p + q ≤ 40 by omega) ht (show p3 + q ≤ 40 by omega) 1000 0 lent (Nat.zero_le _) (by omega) (fun j hj => absurd hj (Nat.not_lt_zero j))
                refine ⟨nI q, sh_up sh t (va_cpy (sh s).1 (sh t).1 p p3 q, bits t, nI m), fi, fnd, g', l', ?_, ?_, ?_, hF⟩
                · rw [r1, bd_sm, if_neg n10, gk_n hs, gk_n ht, gk_n hs, gk_n ht, gc_n (by omega) (by omega), nI_clamp (by omega), nI_clamp (by omega), nI_clamp (by omega)]
                · rw [r2, bd_sm, if_neg n10, m1]
                · intro u hu
                  obtain ⟨v1, v2, v3, v4, v5⟩ := hH u hu
                  by_cases ce : u = t
                  · subst ce
                    rw [su_s]
                    refine ⟨rfl, v2, v3, d3.symm, fun k hk => ?_⟩
                    show va_cpy (sh s).1 (sh u).1 p p3 q k = _
                    unfold va_cpy
                    rw [m2]
                    by_cases cg : p3 ≤ k ∧ k < p3 + q
                    · rw [if_pos cg, if_pos (by omega), b5 _ (by omega), show 40 * s + p + (40 * u + k - (40 * u + p3)) = 40 * s + (p + (k - p3)) by omega]
                    · rw [if_neg cg, if_neg (by omega), v5 k hk]
                  · rw [su_n ce]
                    refine ⟨v1, v2, v3, v4, fun k hk => ?_⟩
                    rw [m2, if_neg (by omega)]; exact v5 k hk
          · obtain ⟨fi', fnd', e1, e2, hF'⟩ := find2 hF
            exact ⟨-1000000003, sh, fi', fnd', shts, lent, by rw [if_neg g, e1, bd_sm], by rw [if_neg g, e2, bd_sm], hH, hF'⟩
end OB
