/-! the relation of both, and what the calls share -/
def RA (mu : MtS) (row : Nat → Int32) : Prop := ∃ N z, CR mu N z ∧ MR 0 row row N z ∧ BN N ∧ N 0 ≤ 9999
def RF (fi fnd : Nat → Int32) : Prop := ∀ k, k < 7 → fi k = fnd k
theorem MR.self {o : Nat} {r0 row : Nat → Int32} {N : Nat → Nat} {z : Int32} (h : MR o r0 row N z) : MR o row row N z := ⟨h.1, h.2.1, fun _ _ => rfl, h.2.2.2⟩
theorem MR.g0 {r0 row : Nat → Int32} {N : Nat → Nat} {z : Int32} (h : MR 0 r0 row N z) {k : Nat} (hk : k < 255) (h3 : k ≠ 3) : row k = nI (N k) := by
  have := h.get hk h3
  rwa [Nat.zero_add] at this
theorem MR.p0 {r0 row : Nat → Int32} {N : Nat → Nat} {z : Int32} (h : MR 0 r0 row N z) {k : Nat} (hk : k < 255) (h3 : k ≠ 3) {v : Nat} (hv : bigK k ∨ v < 1000) : MR 0 r0 (upd row k (nI v)) (nupd N k v) z := by
  have := h.put hk h3 hv
  rwa [Nat.zero_add] at this
theorem fld_up {N : Nat → Nat} {f w g x v : Nat} (hw : w < 5) (hx : x < 5) : fld (nupd N (205 + 5 * f + w) v) g x = if g = f ∧ x = w then v else fld N g x := by
  by_cases e : g = f ∧ x = w
  · rw [if_pos e, e.1, e.2]; exact nu_s
  · rw [if_neg e]; exact nu_n (by omega)
theorem BN_fld {N : Nat → Nat} (hb : BN N) {f w v : Nat} (hf : f < 10) (hw : w < 5) (h0 : w = 0 → v ≤ 5) (h1 : w = 1 → v ≤ 40) (h2 : w = 2 → v ≤ 39) (h3 : w = 3 → 1 ≤ v ∧ v ≤ 9) (h4 : w = 4 → v ≤ 9) : BN (nupd N (205 + 5 * f + w) v) := by
  refine ⟨by rw [nu_n (by omega)]; exact hb.1, by rw [nu_n (by omega)]; exact hb.2.1, by rw [nu_n (by omega)]; exact hb.2.2.1, fun q hq => ?_, fun g hg => ?_⟩
  · rw [nu_n (by omega), nu_n (by omega), nu_n (by omega), nu_n (by omega)]; exact hb.2.2.2.1 q hq
  · obtain ⟨b0, b1, b2, b3, b4, b5⟩ := hb.2.2.2.2 g hg
    rw [fld_up hw (by decide), fld_up hw (by decide), fld_up hw (by decide), fld_up hw (by decide), fld_up hw (by decide), nu_n (by omega)]
    refine ⟨?_, ?_, ?_, ?_, ?_, fun hN => ?_⟩
    · split
      · rename_i e; exact h0 e.2.symm
      · exact b0
    · split
      · rename_i e; exact h1 e.2.symm
      · exact b1
    · split
      · rename_i e; exact h2 e.2.symm
      · exact b2
    · split
      · rename_i e; exact (h3 e.2.symm).2
      · exact b3
    · split
      · rename_i e; exact h4 e.2.symm
      · exact b4
    · split
      · rename_i e; exact (h3 e.2.symm).1
      · exact b5 hN
theorem BN_rk {N : Nat → Nat} (hb : BN N) {p v : Nat} (hp : p < 40) (h1 : 1 ≤ v) (h9 : v ≤ 9) : BN (nupd N (5 + p) v) := by
  refine ⟨by rw [nu_n (by omega)]; exact hb.1, by rw [nu_n (by omega)]; exact hb.2.1, by rw [nu_n (by omega)]; exact hb.2.2.1, fun q hq => ?_, fun g hg => ?_⟩
  · obtain ⟨a1, a2, a3, a4, a5⟩ := hb.2.2.2.1 q hq
    rw [nu_n (k := 5 + p) (j := 45 + q) (by omega), nu_n (k := 5 + p) (j := 85 + q) (by omega), nu_n (k := 5 + p) (j := 125 + q) (by omega)]
    by_cases e : q = p
    · subst e; rw [nu_s]; exact ⟨h1, h9, a3, a4, a5⟩
    · rw [nu_n (by omega)]; exact ⟨a1, a2, a3, a4, a5⟩
  · rw [fld_ne (by omega), fld_ne (by omega), fld_ne (by omega), fld_ne (by omega), fld_ne (by omega), nu_n (by omega)]; exact hb.2.2.2.2 g hg
theorem BN_1 {N : Nat → Nat} (hb : BN N) {v : Nat} (h9 : v ≤ 9) : BN (nupd N 1 v) := by
  refine ⟨by rw [nu_s]; exact h9, by rw [nu_n (by omega)]; exact hb.2.1, by rw [nu_n (by omega)]; exact hb.2.2.1, fun q hq => ?_, fun g hg => ?_⟩
  · rw [nu_n (by omega), nu_n (by omega), nu_n (by omega), nu_n (by omega)]; exact hb.2.2.2.1 q hq
  · rw [fld_ne (by omega), fld_ne (by omega), fld_ne (by omega), fld_ne (by omega), fld_ne (by omega), nu_n (by omega)]; exact hb.2.2.2.2 g hg
theorem BN_2 {N : Nat → Nat} (hb : BN N) {v : Nat} (h9 : v ≤ 20) : BN (nupd N 2 v) := by
  refine ⟨by rw [nu_n (by omega)]; exact hb.1, by rw [nu_s]; exact h9, by rw [nu_n (by omega)]; exact hb.2.2.1, fun q hq => ?_, fun g hg => ?_⟩
  · rw [nu_n (by omega), nu_n (by omega), nu_n (by omega), nu_n (by omega)]; exact hb.2.2.2.1 q hq
  · rw [fld_ne (by omega), fld_ne (by omega), fld_ne (by omega), fld_ne (by omega), fld_ne (by omega), nu_n (by omega)]; exact hb.2.2.2.2 g hg
theorem CR_rk {u : MtS} {N : Nat → Nat} {z : Int32} (h : CR u N z) {p v : Nat} (hp : p < 40) : CR (mt_mk (u.1 0 0) (u.1 0 1) (u.1 0 2) (u.1 0 3) (u.1 0 4) (upd (u.1 1) p (nI v)) (u.1 2) (u.1 3) (u.1 4) (u.1 5) (u.1 6) (u.1 7) (u.1 8) (u.1 9) u.2) (nupd N (5 + p) v) z := by
  refine ⟨?_, ?_, ?_, h.2.2.2.1, ?_, fun q hq => ?_, fun q hq hw => ?_, fun g hg => ?_, ?_⟩
  · rw [nu_n (by omega)]; exact h.1
  · rw [nu_n (by omega)]; exact h.2.1
  · rw [nu_n (by omega)]; exact h.2.2.1
  · rw [nu_n (by omega)]; exact h.mn
  · by_cases e : q = p
    · subst e; rw [nu_s]; exact pk_us
    · rw [nu_n (by omega)]; exact (pk_un e).trans (h.rk hq)
  · rw [nu_n (by omega)] at hw
    rw [nu_n (by omega), nu_n (by omega), nu_n (by omega)]
    exact h.2.2.2.2.2.2.1 q hq hw
  · rw [nu_n (by omega)] at hg
    rw [fld_ne (by omega), fld_ne (by omega), fld_ne (by omega), fld_ne (by omega), fld_ne (by omega)]
    exact h.fin hg
  · obtain ⟨W, h1, h2, h3⟩ := h.2.2.2.2.2.2.2.2
    exact ⟨W, h1, h2, fun p hp => by rw [nu_n (by omega)]; exact h3 p hp⟩
theorem CR_sc {u : MtS} {N : Nat → Nat} {z : Int32} (h : CR u N z) {k v : Nat} (hk : k = 1 ∨ k = 2) {fr me : Int32} (hfr : fr = nI (nupd N k v 1)) (hme : me = nI (nupd N k v 2)) : CR (mt_mk (u.1 0 0) fr me (u.1 0 3) (u.1 0 4) (u.1 1) (u.1 2) (u.1 3) (u.1 4) (u.1 5) (u.1 6) (u.1 7) (u.1 8) (u.1 9) u.2) (nupd N k v) z := by
  refine ⟨?_, hfr, hme, h.2.2.2.1, ?_, fun q hq => ?_, fun q hq hw => ?_, fun g hg => ?_, ?_⟩
  · rw [nu_n (by omega)]; exact h.1
  · rw [nu_n (by omega)]; exact h.mn
  · rw [nu_n (by omega)]; exact h.rk hq
  · rw [nu_n (by omega)] at hw
    rw [nu_n (by omega), nu_n (by omega), nu_n (by omega)]
    exact h.2.2.2.2.2.2.1 q hq hw
  · rw [nu_n (by omega)] at hg
    rw [fld_ne (by omega), fld_ne (by omega), fld_ne (by omega), fld_ne (by omega), fld_ne (by omega)]
    exact h.fin hg
  · obtain ⟨W, h1, h2, h3⟩ := h.2.2.2.2.2.2.2.2
    exact ⟨W, h1, h2, fun p hp => by rw [nu_n (by omega)]; exact h3 p hp⟩
/-- findings -/
theorem RF_up {fi fnd : Nat → Int32} (h : RF fi fnd) (k : Nat) (x : Int32) : RF (upd fi k (fi k + x)) (upd fnd k (fnd k + x)) ∨ ¬ k < 7 := by
  by_cases hk : k < 7
  · left
    intro j hj
    by_cases e : j = k
    · subst e; rw [pk_us, pk_us, h j hj]
    · rw [pk_un e, pk_un e]; exact h j hj
  · exact Or.inr hk
theorem F_found {fi : Nat → Int32} {k : Nat} (hk : k < 7) : f_X9_found fi (nI k) = some ((-1000000001 : Int32) - nI k, upd fi k (fi k + nI 1)) := by
  rw [q_X9_found, q_X9_isWithin, if_neg (nI_nlt (Nat.zero_le _) (by omega)), if_neg (nI_nlt (by omega) (by decide)), bd_sm, if_neg (by decide), gx_n hk (by decide), gx_n hk (by decide), nI_clamp (by omega), q_X9_found_b20]
theorem F_finds {fnd : Nat → Int32} {k : Nat} (hk : k < 7) {x : Int32} (hx : (-1000000001 : Int32) - x = nI k) : f_X10_finds fnd x = some (x, upd fnd k (fnd k + nI 1)) := by
  rw [q_X10_finds, hx, gx_n hk (by decide), gx_n hk (by decide), nI_clamp (by omega)]
/-- finding k, told by both -/
theorem find_k {fi fnd : Nat → Int32} (hF : RF fi fnd) (k : Nat) (hk : k < 7) (x : Int32) (hx : (-1000000001 : Int32) - x = nI k) (hx2 : (-1000000001 : Int32) - nI k = x) : ∃ fi' fnd', f_X9_found fi (nI k) = some (x, fi') ∧ f_X10_finds fnd x = some (x, fnd') ∧ RF fi' fnd' := by
  refine ⟨_, _, by rw [F_found hk, hx2], F_finds hk hx, ?_⟩
  rcases RF_up hF k (nI 1) with h | h
  · exact h
  · exact absurd hk h
theorem find0 {fi fnd : Nat → Int32} (hF : RF fi fnd) : ∃ fi' fnd', f_X9_found fi (nI 0) = some ((-1000000001 : Int32), fi') ∧ f_X10_finds fnd (-1000000001 : Int32) = some ((-1000000001 : Int32), fnd') ∧ RF fi' fnd' := find_k hF 0 (by decide) _ (by decide) (by decide)
theorem find1 {fi fnd : Nat → Int32} (hF : RF fi fnd) : ∃ fi' fnd', f_X9_found fi (nI 1) = some ((-1000000002 : Int32), fi') ∧ f_X10_finds fnd (-1000000002 : Int32) = some ((-1000000002 : Int32), fnd') ∧ RF fi' fnd' := find_k hF 1 (by decide) _ (by decide) (by decide)
theorem find2 {fi fnd : Nat → Int32} (hF : RF fi fnd) : ∃ fi' fnd', f_X9_found fi (nI 2) = some ((-1000000003 : Int32), fi') ∧ f_X10_finds fnd (-1000000003 : Int32) = some ((-1000000003 : Int32), fnd') ∧ RF fi' fnd' := find_k hF 2 (by decide) _ (by decide) (by decide)
theorem find3 {fi fnd : Nat → Int32} (hF : RF fi fnd) : ∃ fi' fnd', f_X9_found fi (nI 3) = some ((-1000000004 : Int32), fi') ∧ f_X10_finds fnd (-1000000004 : Int32) = some ((-1000000004 : Int32), fnd') ∧ RF fi' fnd' := find_k hF 3 (by decide) _ (by decide) (by decide)
theorem find4 {fi fnd : Nat → Int32} (hF : RF fi fnd) : ∃ fi' fnd', f_X9_found fi (nI 4) = some ((-1000000005 : Int32), fi') ∧ f_X10_finds fnd (-1000000005 : Int32) = some ((-1000000005 : Int32), fnd') ∧ RF fi' fnd' := find_k hF 4 (by decide) _ (by decide) (by decide)
theorem find5 {fi fnd : Nat → Int32} (hF : RF fi fnd) : ∃ fi' fnd', f_X9_found fi (nI 5) = some ((-1000000006 : Int32), fi') ∧ f_X10_finds fnd (-1000000006 : Int32) = some ((-1000000006 : Int32), fnd') ∧ RF fi' fnd' := find_k hF 5 (by decide) _ (by decide) (by decide)
theorem find6 {fi fnd : Nat → Int32} (hF : RF fi fnd) : ∃ fi' fnd', f_X9_found fi (nI 6) = some ((-1000000007 : Int32), fi') ∧ f_X10_finds fnd (-1000000007 : Int32) = some ((-1000000007 : Int32), fnd') ∧ RF fi' fnd' := find_k hF 6 (by decide) _ (by decide) (by decide)
/-- windows -/
theorem win (x : Int32) (lo hi : Nat) (h : hi < 1000) (hh : lo ≤ hi) : (f_X10_in x (nI lo) (nI hi) = some (nI 0) ∧ f_X9_isWithin x (nI lo) (nI hi) = some (nI 0)) ∨ ∃ j, lo ≤ j ∧ j ≤ hi ∧ x = nI j ∧ f_X10_in x (nI lo) (nI hi) = some (nI 1) ∧ f_X9_isWithin x (nI lo) (nI hi) = some (nI 1) := by
  rw [q_X10_in, q_X9_isWithin]
  by_cases c1 : x < nI lo
  · rw [if_pos c1]; exact Or.inl ⟨rfl, rfl⟩
  · by_cases c2 : nI hi < x
    · rw [if_neg c1, if_pos c2]; exact Or.inl ⟨rfl, rfl⟩
    · rw [if_neg c1, if_neg c2]
      have hx : ¬ x < 0 := by
        intro hn
        apply c1
        rw [fa_lt] at hn ⊢
        rw [nI_toInt (by omega)]
        have : (0 : Int32).toInt = 0 := by decide
        omega
      obtain ⟨j, hj, rfl⟩ := nI_of hx
      rw [nI_ltI hj (by omega)] at c1
      rw [nI_ltI (by omega) hj] at c2
      exact Or.inr ⟨j, by omega, by omega, rfl, rfl, rfl⟩
theorem wplace (x : Int32) : (f_X10_isPlace x = some (nI 0) ∧ f_X9_isPlace x = some (nI 0)) ∨ ∃ p, p < 40 ∧ x = nI p ∧ f_X10_isPlace x = some (nI 1) ∧ f_X9_isPlace x = some (nI 1) := by
  rcases win x 0 39 (by decide) (by decide) with ⟨h1, h2⟩ | ⟨j, -, hj, rfl, h1, -⟩
  · left
    refine ⟨by rw [q_X10_isPlace, h1, bd_sm, gb_n0], ?_⟩
    rcases pk_ix x (n := 40) (by decide) with h | h | ⟨j, hj, rfl⟩
    · exact c_isPlaceN (Or.inl h)
    · exact c_isPlaceN (Or.inr h)
    · rw [q_X9_isWithin, if_neg (nI_nlt (Nat.zero_le _) (by omega)), if_neg (nI_nlt (by omega) (by decide))] at h2
      exact absurd (Option.some.inj h2) (by decide)
  · exact Or.inr ⟨j, by omega, rfl, by rw [q_X10_isPlace, h1, bd_sm, gb_n1], c_isPlace (by omega)⟩
theorem wkind (x : Int32) : (f_X10_isKind x = some (nI 0) ∧ f_X9_isKind x = some (nI 0)) ∨ ∃ p, p < 6 ∧ x = nI p ∧ f_X10_isKind x = some (nI 1) ∧ f_X9_isKind x = some (nI 1) := by
  rcases win x 0 5 (by decide) (by decide) with ⟨h1, h2⟩ | ⟨j, -, hj, rfl, h1, -⟩
  · left
    refine ⟨by rw [q_X10_isKind, h1, bd_sm, gb_n0], ?_⟩
    rcases pk_ix x (n := 6) (by decide) with h | h | ⟨j, hj, rfl⟩
    · exact c_isKindN (Or.inl h)
    · exact c_isKindN (Or.inr h)
    · rw [q_X9_isWithin, if_neg (nI_nlt (Nat.zero_le _) (by omega)), if_neg (nI_nlt (by omega) (by decide))] at h2
      exact absurd (Option.some.inj h2) (by decide)
  · exact Or.inr ⟨j, by omega, rfl, by rw [q_X10_isKind, h1, bd_sm, gb_n1], c_isKind (by omega)⟩
theorem wsheet (x : Int32) : (f_X10_isSheet x = some (nI 0) ∧ f_X9_isSheet x = some (nI 0)) ∨ ∃ p, p < 4 ∧ x = nI p ∧ f_X10_isSheet x = some (nI 1) ∧ f_X9_isSheet x = some (nI 1) := by
  rcases win x 0 3 (by decide) (by decide) with ⟨h1, h2⟩ | ⟨j, -, hj, rfl, h1, -⟩
  · left
    refine ⟨by rw [q_X10_isSheet, h1, bd_sm, gb_n0], ?_⟩
    rcases pk_ix x (n := 4) (by decide) with h | h | ⟨j, hj, rfl⟩
    · rw [q_X9_isSheet, if_pos (show x < nI 0 from h)]
    · rw [q_X9_isSheet]
      by_cases c : x < nI 0
      · rw [if_pos c]
      · rw [if_neg c, if_pos h]
    · rw [q_X9_isWithin, if_neg (nI_nlt (Nat.zero_le _) (by omega)), if_neg (nI_nlt (by omega) (by decide))] at h2
      exact absurd (Option.some.inj h2) (by decide)
  · exact Or.inr ⟨j, by omega, rfl, by rw [q_X10_isSheet, h1, bd_sm, gb_n1], by rw [q_X9_isSheet, if_neg (nI_nlt (Nat.zero_le _) (by omega)), if_neg (nI_ge (by omega) (by decide))]⟩
theorem wfine {mu : MtS} {r0 row : Nat → Int32} {N : Nat → Nat} {z : Int32} (hC : CR mu N z) (hM : MR 0 r0 row N z) (hb : BN N) (x : Int32) : (f_X10_isFine row (nI 0) x = some (nI 0) ∧ f_X4_hasFine mu x = some (nI 0)) ∨ ∃ f, f < N 4 ∧ f < 10 ∧ x = nI f ∧ f_X10_isFine row (nI 0) x = some (nI 1) ∧ f_X4_hasFine mu x = some (nI 1) := by
  have h10 := hb.2.2.1
  have hz : (0 : Int32).toInt = 0 := by decide
  rcases pk_ix x (n := N 4) (by omega) with h | h | ⟨j, hj, rfl⟩
  · left
    refine ⟨?_, c_hasFineN hC (Or.inl h)⟩
    rw [q_X10_isFine, m_its hM (by decide) (by decide) (by decide), bd_sm, q_X10_in, if_pos (show x < nI 0 from h), bd_sm, gb_n0]
  · left
    refine ⟨?_, c_hasFineN hC (Or.inr h)⟩
    rw [q_X10_isFine, m_its hM (by decide) (by decide) (by decide), bd_sm, q_X10_in]
    have h1 : nI (N 4) - nI 1 < x := by
      rw [fa_le, nI_toInt (by omega)] at h
      rw [fa_lt, pk_sub_toInt (by omega) (by decide)]; omega
    by_cases c : x < nI 0
    · rw [if_pos c, bd_sm, gb_n0]
    · rw [if_neg c, if_pos h1, bd_sm, gb_n0]
  · right
    refine ⟨j, hj, by omega, rfl, ?_, c_hasFine hC hb hj⟩
    rw [q_X10_isFine, m_its hM (by decide) (by decide) (by decide), bd_sm, q_X10_in, if_neg (nI_nlt (Nat.zero_le _) (by omega)), pk_sub (by omega), if_neg (nI_nlt (by omega) (by omega)), bd_sm, gb_n1]
