/-! the text: items -/
section IT
variable {B : Nat → Nat} {L s e : Nat} {tby tape : Nat → Int32} {tok num sort valu : Int32} {word : Int64} {u : MtS} {r0 row : Nat → Int32} {N : Nat → Nat} {z : Int32}
def IR (B : Nat → Nat) (L : Nat) (r0 : Nat → Int32) (z : Int32) (n0 e : Nat) (c : Option (Int32 × Int32 × Int32 × Int32 × Int32 × Int32 × MtS)) (m : Option ((Nat → Int32) × Int32 × Int32 × Int32 × Int64 × Int32 × Int32)) : Prop :=
  ∃ g tok' s' e' num' ttak' u' N' row' sort' word' valu', c = some (g, tok', nI s', nI e', num', ttak', u') ∧ m = some (row', sort', nI s', nI e', word', valu', g) ∧ TK B L s' e' tok' num' sort' word' valu' ∧ CR u' N' z ∧ MR 0 r0 row' N' z ∧ BN N' ∧ N' 0 = n0 ∧ (g = nI 0 ∨ (g = nI 1 ∧ e ≤ s'))
theorem rocks_l (w : Nat) (hw1 : 1 ≤ w) (hw9 : w ≤ 9) {b : Nat} (hb : b ≤ 39) (tok sta beh num sort begs tends valu : Int32) (word : Int64) : ∀ d i n m (N : Nat → Nat) (u : MtS) (row : Nat → Int32), i + d = b + 1 → d < n → d < m → CR u N z → MR 0 r0 row N z → BN N → ∃ u' N' row', f_X8_rockItem_b69 tby (nI L) n tok sta beh num (nI w) u (nI b) (nI i) = some (nI 1, tok, sta, beh, num, nI w, u') ∧ f_X10_wantRock_b42 tape (nI L) m row sort begs tends word valu (nI 1) (nI b) (nI w) (nI i) = some (row', sort, begs, tends, word, valu, nI 1) ∧ CR u' N' z ∧ MR 0 r0 row' N' z ∧ BN N' ∧ N' 0 = N 0
  | d, i, 0, m, N, u, row, h1, h2, h3, hC, hM, hN => by omega
  | d, i, n + 1, 0, N, u, row, h1, h2, h3, hC, hM, hN => by omega
  | 0, i, n + 1, m + 1, N, u, row, h1, h2, h3, hC, hM, hN => by
    exact ⟨u, N, row, by rw [q_X8_rockItem_b69, if_pos (nI_lt (by omega) (by omega))], by rw [q_X10_wantRock_b42, if_pos (nI_lt (by omega) (by omega))], hC, hM, hN, rfl⟩
  | d + 1, i, n + 1, m + 1, N, u, row, h1, h2, h3, hC, hM, hN => by
    have hM' := hM.p0 (k := 5 + i) (v := w) (by omega) (by omega) (Or.inr (by omega))
    obtain ⟨u', N', row', g1, g2, g3, g4, g5, g6⟩ := rocks_l w hw1 hw9 hb tok sta beh num sort begs tends valu word d (i + 1) n m _ _ _ (by omega) (by omega) (by omega) (CR_rk hC (p := i) (v := w) (by omega)) hM' (BN_rk hN (by omega) hw1 hw9)
    refine ⟨u', N', row', ?_, ?_, g3, g4, g5, by rw [g6, nu_n (by omega)]⟩
    · rw [q_X8_rockItem_b69, if_neg (nI_nlt (by omega) (by omega)), if_neg (nI_ge (by omega) (by decide)), gx_n (by omega) (by decide), nI_clamp (by omega), nI_add]; exact g1
    · rw [q_X10_wantRock_b42, if_neg (nI_nlt (by omega) (by omega)), if_neg n10, nI_add 5 i, gx_n (by omega) (by decide), nI_clamp (by omega), nI_add]; exact g2
end IT
