/-! ===== Long.bitCount ===== -/
theorem tbit_lN {n c : Nat} (hc : c < 64) : tbit (lN n) c = n.testBit c := by
  unfold tbit
  show (BitVec.ofNat 64 n).getLsbD c = _
  rw [BitVec.getLsbD_ofNat]
  simp [hc]
theorem sh_k {a k : Nat} (ha : a < 2 ^ 64) (hk : k < 64) : ((lN a).toUInt64 >>> ((nI k).toInt64.toUInt64 &&& Int64.toUInt64 63)).toInt64 = lN (a / 2 ^ k) := by
  apply tbit_ext
  intro c hc
  rw [tbit_ushr hk, tbit_lN hc, Nat.testBit_div_two_pow]
  rcases Nat.lt_or_ge (k + c) 64 with q | q
  · rw [tbit_lN q, Nat.add_comm]
  · rw [show c + k = k + c by omega, Nat.testBit_lt_two_pow (Nat.lt_of_lt_of_le ha (Nat.pow_le_pow_right (by decide) q))]
    unfold tbit
    exact BitVec.getLsbD_of_ge _ _ q
def dg (w : Nat) (f : Nat → Nat) : Nat → Nat
  | 0 => 0
  | n + 1 => f 0 + 2 ^ w * dg w (fun j => f (j + 1)) n
theorem dg_cg {w : Nat} : ∀ {n : Nat} {f g : Nat → Nat}, (∀ j, j < n → f j = g j) → dg w f n = dg w g n
  | 0, _, _, _ => rfl
  | n + 1, f, g, h => by
    rw [dg, dg, h 0 (by omega), dg_cg (fun j hj => h (j + 1) (by omega))]
theorem dg_lt {w : Nat} : ∀ {n : Nat} {f : Nat → Nat}, (∀ j, f j < 2 ^ w) → dg w f n < 2 ^ (w * n)
  | 0, _, _ => by simp [dg]
  | n + 1, f, h => by
    have h1 := dg_lt (n := n) (fun j => h (j + 1))
    rw [dg, Nat.mul_succ, Nat.pow_add, Nat.mul_comm (2 ^ (w * n))]
    have h0 := h 0
    calc f 0 + 2 ^ w * dg w (fun j => f (j + 1)) n < 2 ^ w + 2 ^ w * dg w (fun j => f (j + 1)) n := by omega
      _ = 2 ^ w * (dg w (fun j => f (j + 1)) n + 1) := by rw [Nat.mul_succ]; omega
      _ ≤ 2 ^ w * 2 ^ (w * n) := Nat.mul_le_mul_left _ h1
theorem dg_ext {w : Nat} : ∀ {n : Nat} {f : Nat → Nat}, f n = 0 → dg w f (n + 1) = dg w f n
  | 0, f, h => by simp [dg, h]
  | n + 1, f, h => by
    rw [dg, dg_ext (f := fun j => f (j + 1)) h]
    rfl
theorem dg_div {w n : Nat} {f : Nat → Nat} (h : f 0 < 2 ^ w) (hn : f n = 0) : dg w f n / 2 ^ w = dg w (fun j => f (j + 1)) n := by
  rw [← dg_ext hn, dg, Nat.add_mul_div_left _ _ (Nat.two_pow_pos w), Nat.div_eq_of_lt h]
  omega
theorem dg_add {w : Nat} : ∀ {n : Nat} {f g : Nat → Nat}, dg w f n + dg w g n = dg w (fun j => f j + g j) n
  | 0, _, _ => rfl
  | n + 1, f, g => by
    rw [dg, dg, dg, ← dg_add (n := n), Nat.mul_add]
    omega
theorem dg_pair {w w2 : Nat} (hw : w2 = w + w) : ∀ {n : Nat} {f : Nat → Nat}, dg w f (2 * n) = dg w2 (fun j => f (2 * j) + 2 ^ w * f (2 * j + 1)) n
  | 0, _ => rfl
  | n + 1, f => by
    rw [show 2 * (n + 1) = 2 * n + 1 + 1 by omega, dg, dg, dg, dg_pair hw, hw, Nat.pow_add, Nat.mul_add, Nat.mul_assoc]
    rw [Nat.add_assoc]
    rfl
theorem and_cat {w a b x y : Nat} (ha : a < 2 ^ w) (hb : b < 2 ^ w) : (a + 2 ^ w * x) &&& (b + 2 ^ w * y) = (a &&& b) + 2 ^ w * (x &&& y) := by
  have hab : a &&& b < 2 ^ w := Nat.and_lt_two_pow _ hb
  apply Nat.eq_of_testBit_eq
  intro i
  rw [Nat.testBit_and, Nat.add_comm a, Nat.add_comm b, Nat.add_comm (a &&& b), Nat.testBit_two_pow_mul_add _ ha, Nat.testBit_two_pow_mul_add _ hb, Nat.testBit_two_pow_mul_add _ hab]
  split <;> rw [Nat.testBit_and]
theorem dg_and {w : Nat} : ∀ {n : Nat} {f g : Nat → Nat}, (∀ j, f j < 2 ^ w) → (∀ j, g j < 2 ^ w) → dg w f n &&& dg w g n = dg w (fun j => f j &&& g j) n
  | 0, _, _, _, _ => by simp [dg]
  | n + 1, f, g, hf, hg => by
    rw [dg, dg, dg, and_cat (hf 0) (hg 0), dg_and (fun j => hf (j + 1)) (fun j => hg (j + 1))]
def bP (P : Nat → Bool) (j : Nat) : Nat := if j < 64 ∧ P j = true then 1 else 0
theorem dg_top {w : Nat} : ∀ {n : Nat} {f : Nat → Nat}, dg w f (n + 1) = dg w f n + 2 ^ (w * n) * f n
  | 0, f => by simp [dg]
  | n + 1, f => by
    rw [dg, dg_top (n := n), Nat.mul_add, ← Nat.add_assoc, ← Nat.mul_assoc, ← Nat.pow_add, show w + w * n = w * (n + 1) by rw [Nat.mul_succ]; omega]
    rfl
theorem bP_le (P : Nat → Bool) (j : Nat) : bP P j ≤ 1 := by
  unfold bP
  split <;> omega
theorem shl_lN : ∀ k, k < 64 → lN 1 <<< ((nI k).toInt64 &&& 63) = lN (2 ^ k * 1) := by decide +kernel
theorem lOr_dg (P : Nat → Bool) : ∀ n, n ≤ 64 → lOr P n = lN (dg 1 (bP P) n)
  | 0, _ => rfl
  | n + 1, h => by
    have ih := lOr_dg P n (by omega)
    have hlt : dg 1 (bP P) n < 2 ^ n := by
      have := dg_lt (w := 1) (n := n) (f := bP P) (fun j => by have := bP_le P j; omega)
      simpa using this
    rw [lOr, dg_top]
    split
    · rename_i e
      rw [ih, shl_lN n (by omega), fb_orL, Nat.or_comm, ← Nat.two_pow_add_eq_or_of_lt hlt, show bP P n = 1 from if_pos ⟨by omega, e⟩, Nat.one_mul, Nat.add_comm]
    · rename_i e
      rw [ih, show bP P n = 0 from if_neg (fun z => e z.2)]
      rfl
theorem and_lo {w x y : Nat} (hx : x < 2 ^ w) : (x + 2 ^ w * y) &&& (2 ^ w - 1) = x := by
  rw [Nat.and_two_pow_sub_one_eq_mod, Nat.add_mul_mod_self_left, Nat.mod_eq_of_lt hx]
theorem bits1 {b : Nat → Nat} (hb : ∀ j, b j ≤ 1) (h64 : b 64 = 0) : (dg 1 b 64 / 2 ^ 1) &&& 6148914691236517205 = dg 2 (fun j => b (2 * j + 1)) 32 := by
  rw [dg_div (by have := hb 0; omega) h64, dg_pair (n := 32) (w2 := 2) rfl, show 6148914691236517205 = dg 2 (fun _ => 1) 32 by decide, dg_and (fun j => by have := hb (2 * j + 1); have := hb (2 * j + 1 + 1); omega) (fun _ => by decide)]
  exact dg_cg (fun j _ => and_lo (w := 1) (by have := hb (2 * j + 1); omega))
theorem bits1' {b : Nat → Nat} : dg 1 b 64 = dg 2 (fun j => b (2 * j) + b (2 * j + 1)) 32 + dg 2 (fun j => b (2 * j + 1)) 32 := by
  rw [dg_pair (n := 32) (w2 := 2) rfl, dg_add]
  exact dg_cg (fun j _ => by omega)
theorem bits2 {s : Nat → Nat} (hs : ∀ j, s j ≤ 2) : dg 2 s 32 &&& 3689348814741910323 = dg 4 (fun j => s (2 * j)) 16 := by
  rw [dg_pair (n := 16) (w2 := 4) rfl, show 3689348814741910323 = dg 4 (fun _ => 3) 16 by decide, dg_and (fun j => by have := hs (2 * j); have := hs (2 * j + 1); omega) (fun _ => by decide)]
  exact dg_cg (fun j _ => and_lo (w := 2) (by have := hs (2 * j); omega))
theorem bits3 {v : Nat → Nat} (hv : ∀ j, v j ≤ 8) : dg 4 v 16 &&& 1085102592571150095 = dg 8 (fun j => v (2 * j)) 8 := by
  rw [dg_pair (n := 8) (w2 := 8) rfl, show 1085102592571150095 = dg 8 (fun _ => 15) 8 by decide, dg_and (fun j => by have := hv (2 * j); have := hv (2 * j + 1); omega) (fun _ => by decide)]
  exact dg_cg (fun j _ => and_lo (w := 4) (by have := hv (2 * j); omega))
theorem ct_bP (P : Nat → Bool) : ∀ n, n ≤ 64 → fb_ct P n = fb_sm (bP P) n
  | 0, _ => rfl
  | n + 1, h => by
    rw [fb_ct_succ, fb_sm_succ, ct_bP P n (by omega)]
    unfold bP
    by_cases e : P n = true
    · rw [if_pos e, if_pos ⟨by omega, e⟩]
    · rw [if_neg e, if_neg (fun z => e z.2)]
theorem and127 (n : Nat) : nI n &&& nI 127 = nI (n % 128) := by
  have e : nI n = nI (n % 2 ^ 32) := by
    unfold nI
    apply Int32.toBitVec_inj.mp
    show BitVec.ofNat 32 n = BitVec.ofNat 32 (n % 2 ^ 32)
    apply BitVec.eq_of_toNat_eq
    simp
  rw [e, pk_andN (k := 7) (Nat.mod_lt _ (by decide)) (by decide)]
  congr 1
  omega
section BIT
variable {sL d : Nat} {h : mH} {p : Int32 → mH → Prop}
theorem k_bitCount {P : Nat → Bool} (hp : p (nI (fb_ct P 64)) h) : mI (Kd sL (d + 1)) 191 [.inr (.inl (lOr P 64))] h p := by
  refine ke_J13_bitCount ?_
  rw [lOr_dg P 64 (by omega)]
  have hb := bP_le P
  have h64 : bP P 64 = 0 := if_neg (by omega)
  have hz : ∀ j, 64 ≤ j → bP P j = 0 := fun j hj => if_neg (by omega)
  rw [ct_bP P 64 (by omega)] at hp
  generalize bP P = b at hb h64 hz hp ⊢
  have l0 : dg 1 b 64 < 2 ^ 64 := dg_lt (w := 1) (n := 64) (fun j => by have := hb j; omega)
  have l1 : dg 2 (fun j => b (2 * j) + b (2 * j + 1)) 32 < 2 ^ 64 := dg_lt (w := 2) (n := 32) (fun j => by have := hb (2 * j); have := hb (2 * j + 1); omega)
  refine EX.go (Kd_mono _ _) [false] 40 0 ?_
  dsimp only [wpc_s, wsl_t, wsl_f, gD_0, gD_s, ↓denB_n, pI_s, pG_s, pU_n, cb_J13_bitCount_0, ↓ev_lload_n_0, ↓ev_iconst_1, ↓ev_lushr, ↓ev_ldc2_6148914691236517205, ↓ev_land, ↓ev_lsub, ↓ev_lstore_n_0, ↓ev_ldc2_3689348814741910323, ↓ev_iconst_2, ↓ev_ladd, ↓ev_iconst_4, ↓ev_ldc2_1085102592571150095, ↓ev_bipush_8, ↓ev_bipush_16, ↓ev_bipush_32, ↓ev_l2i, ↓ev_bipush_127, ↓ev_iand, ↓ev_iret, Nat.reduceAdd]
  rw [sh_k l0 (by decide), fb_andL, bits1 hb h64, bits1', lN_sub (by omega), Nat.add_sub_cancel]
  generalize hs : (fun j => b (2 * j) + b (2 * j + 1)) = s at l1 ⊢
  have hs1 : ∀ j, s j = b (2 * j) + b (2 * j + 1) := fun j => by rw [← hs]
  have hs2 : ∀ j, s j ≤ 2 := fun j => by have := hb (2 * j); have := hb (2 * j + 1); have := hs1 j; omega
  have hs0 : ∀ j, 32 ≤ j → s j = 0 := fun j hj => by rw [hs1, hz _ (by omega), hz _ (by omega)]
  rw [sh_k l1 (by decide), fb_andL, fb_andL, bits2 hs2, dg_div (by have := hs2 0; omega) (hs0 32 (by omega)), bits2 (fun j => hs2 (j + 1)), lN_add, dg_add]
  generalize hu : (fun j => s (2 * j) + s (2 * j + 1)) = u
  have hu1 : ∀ j, u j = s (2 * j) + s (2 * j + 1) := fun j => by rw [← hu]
  have hu2 : ∀ j, u j ≤ 4 := fun j => by have := hs2 (2 * j); have := hs2 (2 * j + 1); have := hu1 j; omega
  have hu0 : ∀ j, 16 ≤ j → u j = 0 := fun j hj => by rw [hu1, hs0 _ (by omega), hs0 _ (by omega)]
  have l2 : dg 4 u 16 < 2 ^ 64 := dg_lt (w := 4) (n := 16) (fun j => by have := hu2 j; omega)
  rw [sh_k l2 (by decide), dg_div (by have := hu2 0; omega) (hu0 16 (by omega)), lN_add, dg_add, fb_andL, bits3 (fun j => by have := hu2 j; have := hu2 (j + 1); omega)]
  generalize hw : (fun j => u (2 * j) + u (2 * j + 1)) = w
  have hw1 : ∀ j, w j = u (2 * j) + u (2 * j + 1) := fun j => by rw [← hw]
  have hw2 : ∀ j, w j ≤ 8 := fun j => by have := hu2 (2 * j); have := hu2 (2 * j + 1); have := hw1 j; omega
  have hw0 : ∀ j, 8 ≤ j → w j = 0 := fun j hj => by rw [hw1, hu0 _ (by omega), hu0 _ (by omega)]
  have l3 : dg 8 w 8 < 2 ^ 64 := dg_lt (w := 8) (n := 8) (fun j => by have := hw2 j; omega)
  rw [sh_k l3 (by decide), dg_div (by have := hw2 0; omega) (hw0 8 (by omega)), lN_add, dg_add]
  generalize hx : (fun j => w j + w (j + 1)) = x
  have hx1 : ∀ j, x j = w j + w (j + 1) := fun j => by rw [← hx]
  have hx2 : ∀ j, x j ≤ 16 := fun j => by have := hw2 j; have := hw2 (j + 1); have := hx1 j; omega
  have hx0 : ∀ j, 8 ≤ j → x j = 0 := fun j hj => by rw [hx1, hw0 _ (by omega), hw0 _ (by omega)]
  have l4 : dg 8 x 8 < 2 ^ 64 := dg_lt (w := 8) (n := 8) (fun j => by have := hx2 j; omega)
  rw [sh_k l4 (by decide), show 2 ^ 16 = 2 ^ 8 * 2 ^ 8 by decide, ← Nat.div_div_eq_div_mul, dg_div (by have := hx2 0; omega) (hx0 8 (by omega)), dg_div (n := 8) (f := fun j => x (j + 1)) (by have := hx2 1; show x 1 < 2 ^ 8; omega) (hx0 9 (by omega)), lN_add, dg_add]
  generalize hy : (fun j => x j + x (j + 1 + 1)) = y
  have hy1 : ∀ j, y j = x j + x (j + 1 + 1) := fun j => by rw [← hy]
  have hy2 : ∀ j, y j ≤ 32 := fun j => by have := hx2 j; have := hx2 (j + 1 + 1); have := hy1 j; omega
  have hy0 : ∀ j, 8 ≤ j → y j = 0 := fun j hj => by rw [hy1, hx0 _ (by omega), hx0 _ (by omega)]
  have l5 : dg 8 y 8 < 2 ^ 64 := dg_lt (w := 8) (n := 8) (fun j => by have := hy2 j; omega)
  rw [sh_k l5 (by decide), show 2 ^ 32 = 2 ^ 8 * 2 ^ 8 * 2 ^ 8 * 2 ^ 8 by decide, ← Nat.div_div_eq_div_mul, ← Nat.div_div_eq_div_mul, ← Nat.div_div_eq_div_mul, dg_div (by have := hy2 0; omega) (hy0 8 (by omega)), dg_div (n := 8) (f := fun j => y (j + 1)) (by have := hy2 1; show y 1 < 2 ^ 8; omega) (hy0 9 (by omega)), dg_div (n := 8) (f := fun j => y (j + 1 + 1)) (by have := hy2 2; show y 2 < 2 ^ 8; omega) (hy0 10 (by omega)), dg_div (n := 8) (f := fun j => y (j + 1 + 1 + 1)) (by have := hy2 3; show y 3 < 2 ^ 8; omega) (hy0 11 (by omega)), lN_add, dg_add, lN_i, and127, dg]
  rw [show (y 0 + y (0 + 1 + 1 + 1 + 1) + 2 ^ 8 * dg 8 (fun j => y (j + 1) + y (j + 1 + 1 + 1 + 1 + 1)) 7) % 128 = fb_sm b 64 from ?_]
  · exact hp
  · have q := hy2 0
    have q2 := hy2 4
    have e : ∀ z, (y 0 + y (0 + 1 + 1 + 1 + 1) + 2 ^ 8 * z) % 128 = y 0 + y 4 := fun z => by
      show (y 0 + y 4 + 256 * z) % 128 = y 0 + y 4
      omega
    rw [e]
    simp only [hy1, hx1, hw1, hu1, hs1, fb_sm, Nat.reduceAdd, Nat.reduceMul, Nat.mul_zero, Nat.zero_add]
    omega
end BIT
