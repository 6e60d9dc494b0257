/-! the numbers behind both: N (as the model's row has them; place 3, z, apart) -/
def nupd (N : Nat → Nat) (k v : Nat) : Nat → Nat := fun j => if j = k then v else N j
theorem nu_s {N : Nat → Nat} {k v : Nat} : nupd N k v k = v := if_pos rfl
theorem nu_n {N : Nat → Nat} {k v j : Nat} (h : j ≠ k) : nupd N k v j = N j := if_neg h
theorem bd_sm {α β : Type} (x : α) (k : α → Option β) : bd (some x) k = k x := rfl
theorem gx_n {α : Type} {i N : Nat} {k : Option α} (h : i < N) (hN : N < 2 ^ 31) : gx (nI i) N k = k := gx_in (vp_in_nI h hN)
theorem gb_n0 {α : Type} {k : Option α} : gb (nI 0) k = k := rfl
theorem gb_n1 {α : Type} {k : Option α} : gb (nI 1) k = k := rfl
/-- places of a row whose numbers may grow: the year, and the years in which steps were cut -/
def bigK (k : Nat) : Prop := k = 0 ∨ (165 ≤ k ∧ k < 205)
def MR (o : Nat) (r0 row : Nat → Int32) (N : Nat → Nat) (z : Int32) : Prop :=
  (∀ k, k < 255 → k ≠ 3 → row (o + k) = nI (N k)) ∧ row (o + 3) = z ∧ (∀ k, (k < o ∨ o + 255 ≤ k) → row k = r0 k) ∧ ∀ k, k < 255 → k ≠ 3 → bigK k ∨ N k < 1000
section MB
variable {o : Nat} {r0 row : Nat → Int32} {N : Nat → Nat} {z : Int32}
theorem MR.get (h : MR o r0 row N z) {k : Nat} (hk : k < 255) (h3 : k ≠ 3) : row (o + k) = nI (N k) := h.1 k hk h3
theorem MR.small (h : MR o r0 row N z) (k : Nat) (hk : k < 255) (h3 : k ≠ 3) (h0 : k ≠ 0) (hc : k < 165 ∨ 205 ≤ k) : N k < 1000 := by
  rcases h.2.2.2 k hk h3 with h | h
  · unfold bigK at h; omega
  · exact h
theorem MR.put (h : MR o r0 row N z) {k : Nat} (hk : k < 255) (h3 : k ≠ 3) {v : Nat} (hv : bigK k ∨ v < 1000) : MR o r0 (upd row (o + k) (nI v)) (nupd N k v) z := by
  refine ⟨fun j hj hj3 => ?_, ?_, fun j hj => ?_, fun j hj hj3 => ?_⟩
  · by_cases e : j = k
    · subst e; rw [pk_us, nu_s]
    · rw [pk_un (by omega), nu_n e]; exact h.1 j hj hj3
  · rw [pk_un (by omega)]; exact h.2.1
  · rw [pk_un (by omega)]; exact h.2.2.1 j hj
  · by_cases e : j = k
    · subst e; rw [nu_s]; exact hv
    · rw [nu_n e]; exact h.2.2.2 j hj hj3
theorem MR.putz (h : MR o r0 row N z) (z' : Int32) : MR o r0 (upd row (o + 3) z') N z' := by
  refine ⟨fun j hj hj3 => ?_, pk_us, fun j hj => ?_, h.2.2.2⟩
  · rw [pk_un (by omega)]; exact h.1 j hj hj3
  · rw [pk_un (by omega)]; exact h.2.2.1 j hj
theorem MR.cong (h : MR o r0 row N z) {M : Nat → Nat} (e : ∀ k, k < 255 → k ≠ 3 → M k = N k) : MR o r0 row M z :=
  ⟨fun k hk h3 => by rw [e k hk h3]; exact h.1 k hk h3, h.2.1, h.2.2.1, fun k hk h3 => by rw [e k hk h3]; exact h.2.2.2 k hk h3⟩
/-- what a fine's field w is -/
def fld (N : Nat → Nat) (f w : Nat) : Nat := N (205 + 5 * f + w)
theorem m_its (h : MR o r0 row N z) (ho : o ≤ 255) {k : Nat} (hk : k < 255) (h3 : k ≠ 3) : f_X10_its row (nI o) (nI k) = some (nI (N k)) := by
  rw [q_X10_its, nI_add, gx_n (by omega) (by decide), nI_clamp (by omega), h.get hk h3]
theorem m_itz (h : MR o r0 row N z) (ho : o ≤ 255) : f_X10_its row (nI o) (nI 3) = some z := by
  rw [q_X10_its, nI_add, gx_n (by omega) (by decide), nI_clamp (by omega), h.2.1]
theorem m_fineOf (h : MR o r0 row N z) (ho : o ≤ 255) {j w : Nat} (hj : j < 10) (hw : w < 5) : f_X10_fineOf row (nI o) (nI j) (nI w) = some (nI (fld N j w)) := by
  rw [q_X10_fineOf, nI_add, pk_mul, nI_add, nI_add, gx_n (by omega) (by decide), nI_clamp (by omega)]
  have e : o + 205 + 5 * j + w = o + (205 + 5 * j + w) := by omega
  rw [e, h.get (by omega) (by omega)]
  rfl
theorem m_sets (ho : o ≤ 255) {j w : Nat} (hj : j < 10) (hw : w < 5) (v : Int32) : f_X10_sets row (nI o) (nI j) (nI w) v = some (upd row (o + (205 + 5 * j + w)) v) := by
  rw [q_X10_sets, nI_add, pk_mul, nI_add, nI_add, gx_n (by omega) (by decide), nI_clamp (by omega)]
  have e : o + 205 + 5 * j + w = o + (205 + 5 * j + w) := by omega
  rw [e]
theorem m_isWhole (h : MR o r0 row N z) (ho : o ≤ 255) {p : Nat} (hp : p < 40) : f_X10_isWhole row (nI o) (nI p) = some (if N (45 + p) = 1 then nI 1 else nI 0) := by
  have hs := h.small (45 + p) (by omega) (by omega) (by omega) (by omega)
  rw [q_X10_isWhole, nI_add, m_its h ho (by omega) (by omega), bd_sm]
  by_cases e : N (45 + p) = 1
  · rw [if_pos e, if_pos (by rw [e])]
  · rw [if_neg e, if_neg (fun q => e ((nI_eq (by omega) (by omega)).mp q))]
/-- how many of the first places are whole -/
def cw (N : Nat → Nat) : Nat → Nat := fb_sm (fun q => N (45 + q))
theorem m_wholes_l (h : MR o r0 row N z) (ho : o ≤ 255) : ∀ n p, p ≤ 40 → 40 < p + n → f_X10_wholes_b4 row (nI o) n (nI (cw N p)) (nI p) = some (nI (cw N 40))
  | 0, p, h1, h2 => by omega
  | n + 1, p, h1, h2 => by
    rw [q_X10_wholes_b4]
    rcases Nat.lt_or_ge p 40 with hp | hp
    · rw [if_neg (nI_ge hp (by decide)), nI_add, m_its h ho (by omega) (by omega), bd_sm, nI_add, nI_add]
      exact m_wholes_l h ho n (p + 1) (by omega) (by omega)
    · have e : p = 40 := by omega
      subst e
      rw [if_pos (nI_le (Nat.le_refl _) (by decide))]
theorem m_wholes (h : MR o r0 row N z) (ho : o ≤ 255) : f_X10_wholes row (nI o) = some (nI (cw N 40)) := m_wholes_l h ho 1000 0 (by decide) (by decide)
def wk (N : Nat → Nat) (f : Nat) : Nat := if fld N f 0 = 1 then 2 * fld N f 3 else if fld N f 0 = 2 then fld N f 3 else if fld N f 0 = 3 then fld N f 3 + 2 else if fld N f 0 = 4 then (fld N f 3 + 2) / 2 else if fld N f 0 = 5 then fld N f 3 + (40 - cw N 40) / 10 else fld N f 3
theorem MR.fsmall (h : MR o r0 row N z) {j w : Nat} (hj : j < 10) (hw : w < 5) : fld N j w < 1000 := h.small (205 + 5 * j + w) (by omega) (by omega) (by omega) (by omega)
theorem nI_if {c : Prop} [Decidable c] (a b : Nat) : (if c then nI a else nI b) = nI (if c then a else b) := by split <;> rfl
theorem so_if {c : Prop} [Decidable c] {α : Type} (a b : α) : (if c then some a else some b) = some (if c then a else b) := by split <;> rfl
theorem cw_le (N : Nat → Nat) (hN : ∀ q, q < 40 → N (45 + q) ≤ 1) : cw N 40 ≤ 40 := by
  have := fb_sm_bound (f := fun q => N (45 + q)) (c := 1) (n := 40) (fun k hk => hN k hk)
  unfold cw; omega
theorem m_works (h : MR o r0 row N z) (ho : o ≤ 255) (hw : ∀ q, q < 40 → N (45 + q) ≤ 1) {j : Nat} (hj : j < 10) : f_X10_works row (nI o) (nI j) = some (nI (wk N j)) := by
  have h0 := h.fsmall hj (w := 0) (by decide)
  have h3 := h.fsmall hj (w := 3) (by decide)
  have hc := cw_le N hw
  rw [q_X10_works, m_fineOf h ho hj (by decide), bd_sm, m_fineOf h ho hj (by decide), bd_sm, m_wholes h ho, bd_sm]
  rw [nI_add, pk_mul, pk_sub hc, pk_div (by omega) (by omega) (by decide), pk_div (by omega) (by omega) (by decide), nI_add]
  simp (disch := omega) only [nI_eq, so_if, nI_if]
  rfl
def hg (N : Nat → Nat) (f p : Nat) : Nat := if fld N f 0 = 2 then N (5 + p) + 6 else if fld N f 0 = 3 then N (5 + p) + 13 else if fld N f 0 = 4 then N (5 + p) + 16 else if fld N f 0 = 5 then (if N (5 + p) ≤ 5 then N (5 + p) + 6 else 7) else N (5 + p) + 8
theorem m_highAt (h : MR o r0 row N z) (ho : o ≤ 255) {j p : Nat} (hj : j < 10) (hp : p < 40) : f_X10_highAt row (nI o) (nI j) (nI p) = some (nI (hg N j p)) := by
  have h0 := h.fsmall hj (w := 0) (by decide)
  have h3 := h.small (5 + p) (by omega) (by omega) (by omega) (by omega)
  rw [q_X10_highAt, nI_add, m_its h ho (by omega) (by omega), bd_sm, m_fineOf h ho hj (by decide), bd_sm]
  simp (disch := omega) only [nI_add, nI_eq, nI_leI, so_if, nI_if]
  rfl
def cutS (N : Nat → Nat) (p hh f : Nat) : Nat → Nat := nupd (nupd (nupd (nupd N (45 + p) 1) (85 + p) hh) (125 + p) f) (165 + p) (N 0)
def brkS (N : Nat → Nat) (p : Nat) : Nat → Nat := nupd (nupd (nupd (nupd N (45 + p) 0) (85 + p) 0) (125 + p) 0) (165 + p) 0
theorem m_cuts (h : MR o r0 row N z) (ho : o ≤ 255) {p hh f : Nat} (hp : p < 40) (hh1 : hh < 1000) (hf : f < 1000) : ∃ row', f_X10_cuts row (nI o) (nI p) (nI hh) (nI f) = some row' ∧ MR o r0 row' (cutS N p hh f) z := by
  have e1 : o + 45 + p = o + (45 + p) := by omega
  have e2 : o + 85 + p = o + (85 + p) := by omega
  have e3 : o + 125 + p = o + (125 + p) := by omega
  have e4 : o + 165 + p = o + (165 + p) := by omega
  have hA := ((h.put (k := 45 + p) (by omega) (by omega) (v := 1) (Or.inr (by decide))).put (k := 85 + p) (by omega) (by omega) (v := hh) (Or.inr hh1)).put (k := 125 + p) (by omega) (by omega) (v := f) (Or.inr hf)
  have hB := hA.put (k := 165 + p) (by omega) (by omega) (v := N 0) (Or.inl (Or.inr (by omega)))
  refine ⟨_, ?_, hB⟩
  simp only [q_X10_cuts, nI_add]
  rw [gx_n (by omega) (by decide), gx_n (by omega) (by decide), gx_n (by omega) (by decide), nI_clamp (by omega), nI_clamp (by omega), nI_clamp (by omega), e1, e2, e3, m_its hA ho (by decide) (by decide), bd_sm, gx_n (by omega) (by decide), nI_clamp (by omega), e4]
  rw [nu_n (by omega), nu_n (by omega), nu_n (by omega)]
theorem m_breaks (h : MR o r0 row N z) (ho : o ≤ 255) {p : Nat} (hp : p < 40) : ∃ row', f_X10_breaks row (nI o) (nI p) = some row' ∧ MR o r0 row' (brkS N p) z := by
  have e1 : o + 45 + p = o + (45 + p) := by omega
  have e2 : o + 85 + p = o + (85 + p) := by omega
  have e3 : o + 125 + p = o + (125 + p) := by omega
  have e4 : o + 165 + p = o + (165 + p) := by omega
  have hB := (((h.put (k := 45 + p) (by omega) (by omega) (v := 0) (Or.inr (by decide))).put (k := 85 + p) (by omega) (by omega) (v := 0) (Or.inr (by decide))).put (k := 125 + p) (by omega) (by omega) (v := 0) (Or.inr (by decide))).put (k := 165 + p) (by omega) (by omega) (v := 0) (Or.inr (by decide))
  refine ⟨_, ?_, hB⟩
  simp only [q_X10_breaks, nI_add]
  rw [gx_n (by omega) (by decide), gx_n (by omega) (by decide), gx_n (by omega) (by decide), gx_n (by omega) (by decide), nI_clamp (by omega), nI_clamp (by omega), nI_clamp (by omega), nI_clamp (by omega), e1, e2, e3, e4]
end MB
