/-! Long.bitCount -/
def mkB (m : Nat) : Nat → Nat
  | 0 => 0
  | n + 1 => 256 * mkB m n + m
def smB (g : Nat → Nat) : Nat → Nat → Nat
  | 0, _ => 0
  | n + 1, W => 256 * smB g n (W / 256) + g (W % 256)
theorem land256 (a c : Nat) {b d : Nat} (hb : b < 256) (hd : d < 256) : (256 * a + b) &&& (256 * c + d) = 256 * (a &&& c) + (b &&& d) := by
  have hbd : b &&& d < 2 ^ 8 := Nat.lt_of_le_of_lt Nat.and_le_left hb
  apply Nat.eq_of_testBit_eq
  intro i
  rw [Nat.testBit_and, show 256 = 2 ^ 8 from rfl, Nat.testBit_two_pow_mul_add a hb, Nat.testBit_two_pow_mul_add c hd, Nat.testBit_two_pow_mul_add _ hbd]
  split
  · rw [Nat.testBit_and]
  · rw [Nat.testBit_and]
theorem smB_id : ∀ n W, W < 256 ^ n → smB (fun b => b) n W = W
  | 0, W, h => by
    have : W = 0 := by simpa using h
    subst this; rfl
  | n + 1, W, h => by
    show 256 * smB (fun b => b) n (W / 256) + W % 256 = W
    rw [smB_id n (W / 256) (by rw [Nat.pow_succ] at h; omega)]
    omega
theorem smB_sub {f g : Nat → Nat} (h : ∀ b, b < 256 → g b ≤ f b) : ∀ n W, smB g n W ≤ smB f n W ∧ smB f n W - smB g n W = smB (fun b => f b - g b) n W
  | 0, W => ⟨Nat.le_refl _, rfl⟩
  | n + 1, W => by
    obtain ⟨h1, h2⟩ := smB_sub h n (W / 256)
    have h3 := h (W % 256) (Nat.mod_lt _ (by decide))
    show 256 * smB g n (W / 256) + g (W % 256) ≤ 256 * smB f n (W / 256) + f (W % 256) ∧ 256 * smB f n (W / 256) + f (W % 256) - (256 * smB g n (W / 256) + g (W % 256)) = 256 * smB (fun b => f b - g b) n (W / 256) + (f (W % 256) - g (W % 256))
    omega
theorem smB_add (f g : Nat → Nat) : ∀ n W, smB f n W + smB g n W = smB (fun b => f b + g b) n W
  | 0, W => rfl
  | n + 1, W => by
    have h := smB_add f g n (W / 256)
    show 256 * smB f n (W / 256) + f (W % 256) + (256 * smB g n (W / 256) + g (W % 256)) = 256 * smB (fun b => f b + g b) n (W / 256) + (f (W % 256) + g (W % 256))
    omega
theorem smB_and {g : Nat → Nat} (hg : ∀ b, b < 256 → g b < 256) {m : Nat} (hm : m < 256) : ∀ n W, smB g n W &&& mkB m n = smB (fun b => g b &&& m) n W
  | 0, W => by simp [smB, mkB]
  | n + 1, W => by
    show (256 * smB g n (W / 256) + g (W % 256)) &&& (256 * mkB m n + m) = 256 * smB (fun b => g b &&& m) n (W / 256) + (g (W % 256) &&& m)
    rw [land256 _ _ (hg _ (Nat.mod_lt _ (by decide))) hm, smB_and hg hm n (W / 256)]
theorem smB_shr1 {g : Nat → Nat} (hg : ∀ b, b < 256 → g b < 256) : ∀ n W, smB g n W / 2 &&& mkB 85 n = smB (fun b => g b / 2 &&& 85) n W
  | 0, W => by simp [smB, mkB]
  | n + 1, W => by
    have hb := hg (W % 256) (Nat.mod_lt _ (by decide))
    have key : ∀ r, r < 2 → ∀ b, b < 256 → (128 * r + b / 2) &&& 85 = b / 2 &&& 85 := by decide +kernel
    show (256 * smB g n (W / 256) + g (W % 256)) / 2 &&& (256 * mkB 85 n + 85) = 256 * smB (fun b => g b / 2 &&& 85) n (W / 256) + (g (W % 256) / 2 &&& 85)
    rw [show (256 * smB g n (W / 256) + g (W % 256)) / 2 = 256 * (smB g n (W / 256) / 2) + (128 * (smB g n (W / 256) % 2) + g (W % 256) / 2) by omega, land256 _ _ (by omega) (by decide), smB_shr1 hg n (W / 256), key _ (by omega) _ hb]
theorem smB_shr2 {g : Nat → Nat} (hg : ∀ b, b < 256 → g b < 256) : ∀ n W, smB g n W / 4 &&& mkB 51 n = smB (fun b => g b / 4 &&& 51) n W
  | 0, W => by simp [smB, mkB]
  | n + 1, W => by
    have hb := hg (W % 256) (Nat.mod_lt _ (by decide))
    have key : ∀ r, r < 4 → ∀ b, b < 256 → (64 * r + b / 4) &&& 51 = b / 4 &&& 51 := by decide +kernel
    show (256 * smB g n (W / 256) + g (W % 256)) / 4 &&& (256 * mkB 51 n + 51) = 256 * smB (fun b => g b / 4 &&& 51) n (W / 256) + (g (W % 256) / 4 &&& 51)
    rw [show (256 * smB g n (W / 256) + g (W % 256)) / 4 = 256 * (smB g n (W / 256) / 4) + (64 * (smB g n (W / 256) % 4) + g (W % 256) / 4) by omega, land256 _ _ (by omega) (by decide), smB_shr2 hg n (W / 256), key _ (by omega) _ hb]
def pg1 (b : Nat) : Nat := b - (b / 2 &&& 85)
def pg2 (b : Nat) : Nat := (pg1 b &&& 51) + (pg1 b / 4 &&& 51)
def pg3 (b : Nat) : Nat := (pg2 b + pg2 b / 16) &&& 15
theorem pg1_lt : ∀ b, b < 256 → pg1 b < 256 ∧ (b / 2 &&& 85) ≤ b := by decide +kernel
theorem pg2_lt : ∀ b, b < 256 → pg2 b < 256 ∧ pg2 b % 16 ≤ 4 ∧ pg2 b / 16 ≤ 4 := by decide +kernel
theorem pg3_key : ∀ r, r < 5 → ∀ b, b < 256 → (pg2 b + 16 * r + pg2 b / 16) &&& 15 = pg3 b := by decide +kernel
theorem pg3_bits : ∀ b, b < 256 → pg3 b = fb_sm (fun j => if b.testBit j then 1 else 0) 8 := by decide +kernel
theorem smB_nib : ∀ n W, smB pg2 n W % 16 ≤ 4
  | 0, W => by simp [smB]
  | n + 1, W => by
    have h := (pg2_lt (W % 256) (Nat.mod_lt _ (by decide))).2.1
    show (256 * smB pg2 n (W / 256) + pg2 (W % 256)) % 16 ≤ 4
    omega
theorem smB_3 : ∀ n W, (smB pg2 n W + smB pg2 n W / 16) &&& mkB 15 n = smB pg3 n W
  | 0, W => by simp [smB, mkB]
  | n + 1, W => by
    have hb := pg2_lt (W % 256) (Nat.mod_lt _ (by decide))
    have hn := smB_nib n (W / 256)
    show (256 * smB pg2 n (W / 256) + pg2 (W % 256) + (256 * smB pg2 n (W / 256) + pg2 (W % 256)) / 16) &&& (256 * mkB 15 n + 15) = 256 * smB pg3 n (W / 256) + pg3 (W % 256)
    rw [show 256 * smB pg2 n (W / 256) + pg2 (W % 256) + (256 * smB pg2 n (W / 256) + pg2 (W % 256)) / 16 = 256 * (smB pg2 n (W / 256) + smB pg2 n (W / 256) / 16) + (pg2 (W % 256) + 16 * (smB pg2 n (W / 256) % 16) + pg2 (W % 256) / 16) by omega, land256 _ _ (by omega) (by decide), smB_3 n (W / 256), pg3_key _ (by omega) _ (Nat.mod_lt _ (by decide))]
theorem smB_lt {g : Nat → Nat} (hg : ∀ b, b < 256 → g b < 256) : ∀ n W, smB g n W < 256 ^ n
  | 0, W => by simp [smB]
  | n + 1, W => by
    have h := smB_lt hg n (W / 256)
    have h2 := hg (W % 256) (Nat.mod_lt _ (by decide))
    show 256 * smB g n (W / 256) + g (W % 256) < 256 ^ (n + 1)
    rw [Nat.pow_succ]; omega
theorem pc_byte (W i : Nat) : fb_sm (fun j => if (W / 2 ^ (8 * i) % 256).testBit j then 1 else 0) 8 = fb_sm (fun j => if W.testBit (8 * i + j) then 1 else 0) 8 := by
  refine fb_sm_cong fun j hj => ?_
  rw [show 256 = 2 ^ 8 from rfl, Nat.testBit_mod_two_pow, Nat.testBit_div_two_pow]
  simp [hj, Nat.add_comm]
def pcW (W : Nat) : Nat := fb_sm (fun p => if W.testBit p then 1 else 0) 40
theorem pc_sum (W : Nat) (hW : W < 2 ^ 40) : smB pg3 8 W = pg3 (W % 256) + 256 * pg3 (W / 256 % 256) + 65536 * pg3 (W / 65536 % 256) + 16777216 * pg3 (W / 16777216 % 256) + 4294967296 * pg3 (W / 4294967296 % 256) := by
  have e0 : pg3 0 = 0 := by decide
  simp only [smB, Nat.div_div_eq_div_mul, Nat.reduceMul]
  rw [show W / 1099511627776 = 0 by omega, show W / 281474976710656 = 0 by omega, show W / 72057594037927936 = 0 by omega]
  simp only [Nat.zero_mod, e0]
  omega
theorem sm40 (f : Nat → Nat) : fb_sm f 40 = fb_sm f 8 + fb_sm (fun j => f (8 + j)) 8 + fb_sm (fun j => f (16 + j)) 8 + fb_sm (fun j => f (24 + j)) 8 + fb_sm (fun j => f (32 + j)) 8 := by
  simp only [fb_sm, Nat.reduceAdd]
  omega
theorem swar_end {a b c d e : Nat} (ha : a ≤ 8) (hb : b ≤ 8) (hc : c ≤ 8) (hd : d ≤ 8) (he : e ≤ 8) {S : Nat} (hS : S = a + 256 * b + 65536 * c + 16777216 * d + 4294967296 * e) : (S + S / 256 + (S + S / 256) / 65536 + (S + S / 256 + (S + S / 256) / 65536) / 4294967296) % 128 = a + b + c + d + e := by
  have d1 : S / 256 = b + 256 * c + 65536 * d + 16777216 * e := by omega
  rw [d1]
  obtain ⟨T, hT⟩ : ∃ T, T = S + (b + 256 * c + 65536 * d + 16777216 * e) := ⟨_, rfl⟩
  rw [← hT]
  have d2 : T / 65536 = (c + d) + 256 * (d + e) + 65536 * e := by omega
  rw [d2]
  obtain ⟨V, hV⟩ : ∃ V, V = T + ((c + d) + 256 * (d + e) + 65536 * e) := ⟨_, rfl⟩
  rw [← hV]
  have d3 : V / 4294967296 = e := by omega
  rw [d3]
  omega
theorem pc_tot (W : Nat) : pcW W = pg3 (W % 256) + pg3 (W / 256 % 256) + pg3 (W / 65536 % 256) + pg3 (W / 16777216 % 256) + pg3 (W / 4294967296 % 256) := by
  have h0 := pc_byte W 0
  have h1 := pc_byte W 1
  have h2 := pc_byte W 2
  have h3 := pc_byte W 3
  have h4 := pc_byte W 4
  simp only [Nat.reduceMul, Nat.reducePow, Nat.zero_add, Nat.div_one, Nat.mul_zero] at h0 h1 h2 h3 h4
  rw [pg3_bits _ (Nat.mod_lt _ (by decide)), pg3_bits _ (Nat.mod_lt _ (by decide)), pg3_bits _ (Nat.mod_lt _ (by decide)), pg3_bits _ (Nat.mod_lt _ (by decide)), pg3_bits _ (Nat.mod_lt _ (by decide)), h0, h1, h2, h3, h4]
  unfold pcW
  exact sm40 _
theorem c_bitCount {W : Nat} (hW : W < 2 ^ 40) : f_J13_bitCount_95d88 (lN W) = some (nI (pcW W)) := by
  have m5 : (6148914691236517205 : Nat) = mkB 85 8 := by decide +kernel
  have m3 : (3689348814741910323 : Nat) = mkB 51 8 := by decide +kernel
  have mf : (1085102592571150095 : Nat) = mkB 15 8 := by decide +kernel
  have hid : smB (fun b => b) 8 W = W := smB_id 8 W (by omega)
  have h1a : W / 2 &&& mkB 85 8 = smB (fun b => b / 2 &&& 85) 8 W := by
    have := smB_shr1 (g := fun b => b) (fun b h => h) 8 W
    rw [hid] at this
    exact this
  obtain ⟨h1b, h1c⟩ := smB_sub (f := fun b => b) (g := fun b => b / 2 &&& 85) (fun b hb => (pg1_lt b hb).2) 8 W
  rw [hid] at h1b h1c
  have h1d : smB (fun b => b - (b / 2 &&& 85)) 8 W = smB pg1 8 W := rfl
  rw [h1d] at h1c
  have l1 := smB_lt (g := pg1) (fun b h => (pg1_lt b h).1) 8 W
  have h2a := smB_and (g := pg1) (fun b h => (pg1_lt b h).1) (m := 51) (by decide) 8 W
  have h2b := smB_shr2 (g := pg1) (fun b h => (pg1_lt b h).1) 8 W
  have h2c : smB (fun b => pg1 b &&& 51) 8 W + smB (fun b => pg1 b / 4 &&& 51) 8 W = smB pg2 8 W := smB_add _ _ 8 W
  have l2 := smB_lt (g := pg2) (fun b h => (pg2_lt b h).1) 8 W
  have h3 := smB_3 8 W
  have s3 := pc_sum W hW
  have tot := pc_tot W
  have bd8 : ∀ b, b < 256 → pg3 b ≤ 8 := by decide +kernel
  have c0 := bd8 (W % 256) (Nat.mod_lt _ (by decide))
  have c1 := bd8 (W / 256 % 256) (Nat.mod_lt _ (by decide))
  have c2 := bd8 (W / 65536 % 256) (Nat.mod_lt _ (by decide))
  have c3 := bd8 (W / 16777216 % 256) (Nat.mod_lt _ (by decide))
  have c4 := bd8 (W / 4294967296 % 256) (Nat.mod_lt _ (by decide))
  have p64 : (256 : Nat) ^ 8 = 2 ^ 64 := by decide
  rw [p64] at l1 l2
  rw [q_J13_bitCount_95d88]
  rw [wb_shr (by omega) (by decide), fb_andL, m5, show W / 2 ^ 1 = W / 2 from rfl, h1a, lN_sub h1b, h1c]
  rw [wb_shr l1 (by decide), m3, fb_andL, fb_andL, show smB pg1 8 W / 2 ^ 2 = smB pg1 8 W / 4 from rfl, h2a, h2b, lN_add, h2c]
  rw [wb_shr l2 (by decide), lN_add, mf, fb_andL, show smB pg2 8 W / 2 ^ 4 = smB pg2 8 W / 16 from rfl, h3]
  rw [wb_shr (by omega) (by decide), lN_add, wb_shr (by omega) (by decide), lN_add, wb_shr (by omega) (by decide), lN_add, lN_i]
  rw [show (127 : Nat) = 2 ^ 7 - 1 from rfl, fa_mask]
  refine congrArg (fun x => some (nI x)) ?_
  rw [tot]
  exact swar_end c0 c1 c2 c3 c4 s3
