/-! ===== the reference: texts ===== -/
def FT (h h' : mH) : Prop := (∀ r, r ≠ .inr 7 → r ≠ .inr 16 → h' r = h r) ∧ ∀ j, j ≠ 16 → j ≠ 17 → h' (.inr 7) j = h (.inr 7) j
theorem FT.rf {h : mH} : FT h h := ⟨fun _ _ _ => rfl, fun _ _ _ => rfl⟩
theorem FT.tr {h h1 h2 : mH} (a : FT h h1) (b : FT h1 h2) : FT h h2 := ⟨fun r p q => (b.1 r p q).trans (a.1 r p q), fun j p q => (b.2 j p q).trans (a.2 j p q)⟩
theorem FT.fr {h h' : mH} (a : FT h h') : FR h h' := fun r p => a.1 r (p 7 (by decide) (by decide)) (p 16 (by decide) (by decide))
theorem FT.u {h : mH} {k : Nat} {v : Int32} (hk : k = 16 ∨ k = 17) : FT h (hup h (.inr 7) k v) := ⟨fun r p _ => by funext j; exact hup_other p j, fun j p q => hup_idx (by omega)⟩
theorem FT.t {h : mH} {k : Nat} {v : Int32} : FT h (hup h (.inr 16) k v) := ⟨fun r _ p => by funext j; exact hup_other p j, fun j _ _ => hup_other (by simp) j⟩
theorem RG.ft {h h' : mH} {g : Gs} (hG : RG h g) (ho : FT h h') : RG h' g := by
  obtain ⟨w1, w2, w3, w4, w5, w6, w7, w8⟩ := hG
  refine ⟨fun j hj => by rw [ho.1 _ (by simp) (by simp)]; exact w1 j hj, fun z j hj => by rw [ho.1 _ (by simp) (by simp)]; exact w2 z j hj, by rw [ho.2 _ (by decide) (by decide)]; exact w3, by rw [ho.2 _ (by decide) (by decide)]; exact w4, fun j hj => by rw [ho.1 _ (by simp) (by simp)]; exact w5 j hj, by rw [ho.2 _ (by decide) (by decide)]; exact w6, w7, fun j hj => by rw [ho.1 _ (by simp) (by simp)]; exact w8 j hj⟩
/-- the reader stands at a, so many deeds are read -/
def TQ (h : mH) (N : Nat) (tp : Nat → Nat) (a c : Nat) : Prop := h (.inr 7) 15 = nI N ∧ h (.inr 7) 17 = nI a ∧ h (.inr 7) 16 = nI c ∧ N ≤ 120 ∧ a ≤ N ∧ c < 120 ∧ ∀ j, j < N → h (.inr 15) j = nI (tp j) ∧ tp j < 256
theorem TQ.u {h : mH} {N a c : Nat} {tp : Nat → Nat} {b : Nat} (hT : TQ h N tp a c) (hb : b ≤ N) : TQ (hup h (.inr 7) 17 (nI b)) N tp b c := by
  obtain ⟨h1, h2, h3, h4, h5, h6, h7⟩ := hT
  exact ⟨by rw [hup_idx (by decide)]; exact h1, hup_same, by rw [hup_idx (by decide)]; exact h3, h4, hb, h6, fun j hj => by rw [hup_other (by simp)]; exact h7 j hj⟩
theorem TQ.t {h : mH} {N a c : Nat} {tp : Nat → Nat} {k : Nat} {v : Int32} (hT : TQ h N tp a c) : TQ (hup h (.inr 16) k v) N tp a c := by
  obtain ⟨h1, h2, h3, h4, h5, h6, h7⟩ := hT
  exact ⟨by rw [hup_other (by simp)]; exact h1, by rw [hup_other (by simp)]; exact h2, by rw [hup_other (by simp)]; exact h3, h4, h5, h6, fun j hj => by rw [hup_other (by simp)]; exact h7 j hj⟩
def nmO (b : Nat) : Int32 := if ltr b < 7 then nI (nbo (ltr b)) else -1
/-- a deed as the reference notes it -/
def TD (h : mH) (i : Nat) (x : Dd) : Prop := (∃ b, b < 256 ∧ ltr b = x.1 ∧ h (.inr 16) (4 * i) = nI b) ∧ x.1 < 7 ∧ (∀ k, k < nbo x.1 → h (.inr 16) (4 * i + 1 + k) = nI (x.2 k)) ∧ ∀ k, nbo x.1 ≤ k → x.2 k = 0
theorem TD.o {h h' : mH} {i : Nat} {x : Dd} (hT : TD h i x) (ho : ∀ j, 4 * i ≤ j → j < 4 * i + 4 → h' (.inr 16) j = h (.inr 16) j) : TD h' i x := by
  obtain ⟨⟨b, h1, h2, h3⟩, h4, h5, h6⟩ := hT
  have := nbo_le x.1
  exact ⟨⟨b, h1, h2, by rw [ho _ (by omega) (by omega)]; exact h3⟩, h4, fun k hk => by rw [ho _ (by omega) (by omega)]; exact h5 k hk, h6⟩
section RTAPE
variable {sL d N a c B : Nat} {tp : Nat → Nat} {h : mH} {g : Gs} {p : Int32 → mH → Prop}
theorem r_numbersOf {b : Nat} (hb : b < 256) (hp : p (nmO b) h) : mI (Kd sL (d + 1)) 181 [.inl (nI b)] h p := by
  refine ke_X4_numbersOf ?_
  refine EX.go (Kd_mono _ _) [false, false, false, false, false, false] 40 0 ?_
  dsimp only [wpc_s, wsl_t, wsl_f, gD_0, gD_s, ↓denB_n, pI_s, pG_s, pU_n, cb_X4_numbersOf_0, cb_X4_numbersOf_1, cb_X4_numbersOf_2, cb_X4_numbersOf_3, cb_X4_numbersOf_4, cb_X4_numbersOf_5, ↓ev_iload_n_0, ↓ev_tsw_100_20, ↓ev_iconst_3, ↓ev_iret, ↓ev_iconst_2, ↓ev_iconst_1, ↓ev_iconst_0, ↓ev_iconst_m1, Nat.reduceAdd]
  try simp (disch := omega) only [pk_mul, nI_add, n_lt0, n_le0, n_eq0, n_ge0, n_gt0, n_lt, n_le, n_eq, n_in, n_div, n_rem, n_rem2, n_m1, nI_clamp, bz_0, bz_1, tI_0, tI_bz, n4, n16, eq_self, Nat.reduceLT, Nat.reduceLeDiff, Nat.reduceEqDiff, Nat.reduceAdd, Nat.reduceMul, Nat.reduceDiv, Nat.reduceMod, Nat.le_refl, decide_eq_false_iff_not, Classical.not_not, true_and, and_true, false_and, and_false, not_true_eq_false, not_false_eq_true, forall_const, true_implies, false_implies, implies_true, ne_eq]
  have e : ∀ k v, b = k → nmO k = v → p v h := fun k v h1 h2 => by rw [h1, h2] at hp; exact hp
  have hb' : ∀ k, b = k → nmO k = -1 → p (-1) h := fun k h1 h2 => e k _ h1 h2
  refine ⟨fun z => e 100 (nI 1) z (by decide), fun c0 => ⟨fun z => e 101 (-1) z (by decide), fun c1 => ⟨fun z => e 102 (nI 0) z (by decide), fun c2 => ⟨fun z => e 103 (nI 2) z (by decide), fun c3 => ⟨fun z => e 104 (-1) z (by decide), fun c4 => ⟨fun z => e 105 (-1) z (by decide), fun c5 => ⟨fun z => e 106 (-1) z (by decide), fun c6 => ⟨fun z => e 107 (-1) z (by decide), fun c7 => ⟨fun z => e 108 (-1) z (by decide), fun c8 => ⟨fun z => e 109 (nI 1) z (by decide), fun c9 => ⟨fun z => e 110 (-1) z (by decide), fun d0 => ⟨fun z => e 111 (-1) z (by decide), fun d1 => ⟨fun z => e 112 (-1) z (by decide), fun d2 => ⟨fun z => e 113 (-1) z (by decide), fun d3 => ⟨fun z => e 114 (nI 1) z (by decide), fun d4 => ⟨fun z => e 115 (nI 1) z (by decide), fun d5 => ⟨fun z => e 116 (-1) z (by decide), fun d6 => ⟨fun z => e 117 (-1) z (by decide), fun d7 => ⟨fun z => e 118 (-1) z (by decide), fun d8 => ⟨fun z => e 119 (nI 3) z (by decide), fun d9 => ?_⟩⟩⟩⟩⟩⟩⟩⟩⟩⟩⟩⟩⟩⟩⟩⟩⟩⟩⟩⟩
  have : nmO b = -1 := by
    unfold nmO ltr
    rw [if_neg d9, if_neg d5, if_neg c0, if_neg d4, if_neg c3, if_neg c9, if_neg c2]
    rfl
  rw [this] at hp
  exact hp
theorem dig_in {x : Nat} (hx : x < 256) : (nI 48 ≤ nI x ∧ nI x ≤ nI 57) ↔ (48 ≤ x ∧ x ≤ 57) := by
  rw [n_le (by omega) (by omega), n_le (by omega) (by omega)]
theorem r_isDigit {b : Nat} (hT : TQ h N tp a c) (hb : b ≤ N) (hp : p (tI (dec (isdg N tp b))) h) : mI (Kd sL (d + 2)) 182 [.inr (.inr (.inr 7)), .inl (nI b)] h p := by
  obtain ⟨h1, h2, h3, h4, h5, h6, h7⟩ := hT
  refine ke_X4_isDigit ?_
  refine EX.go (Kd_mono _ _) [false, false, false, false, false] 40 0 ?_
  dsimp only [wpc_s, wsl_t, wsl_f, gD_0, gD_s, ↓denB_n, pI_s, pG_s, pU_n, cb_X4_isDigit_0, cb_X4_isDigit_1, cb_X4_isDigit_2, cb_X4_isDigit_3, cb_X4_isDigit_4, ↓ev_iload_n_1, ↓ev_aload_n_0, ↓ev_getf_4_15, ↓ev_icmp_ge, ↓ev_getf_4_13, ↓ev_iald_o8, ↓ev_iald_o9, ↓ev_iald_o10, ↓ev_iald_o11, ↓ev_iald_o12, ↓ev_iald_o13, ↓ev_iald_o14, ↓ev_iald_o15, ↓ev_iald_o16, ↓ev_bipush_48, ↓ev_bipush_57, ↓ev_calls_3_0_1, ↓ev_calls_3_1_1, ↓ev_calls_3_2_1, ↓ev_calls_3_3_1, ↓ev_calls_3_4_1, ↓ev_if_eq, ↓ev_iconst_1, ↓ev_goto, ↓ev_iconst_0, ↓ev_zret, Nat.reduceAdd]
  rw [h1]
  try simp (disch := omega) only [pk_mul, nI_add, n_lt0, n_le0, n_eq0, n_ge0, n_gt0, n_lt, n_le, n_eq, n_in, n_div, n_rem, n_rem2, n_m1, nI_clamp, bz_0, bz_1, tI_0, tI_bz, n4, n16, eq_self, Nat.reduceLT, Nat.reduceLeDiff, Nat.reduceEqDiff, Nat.reduceAdd, Nat.reduceMul, Nat.reduceDiv, Nat.reduceMod, Nat.le_refl, decide_eq_false_iff_not, Classical.not_not, true_and, and_true, false_and, and_false, not_true_eq_false, not_false_eq_true, forall_const, true_implies, false_implies, implies_true, ne_eq]
  refine ⟨fun z => pdf hp (fun y => absurd y.1 (by omega)), fun z => ⟨by omega, ?_⟩⟩
  rw [(h7 b (by omega)).1]
  refine r_in ?_
  rw [dec_iff (dig_in (h7 b (by omega)).2)]
  try simp (disch := omega) only [pk_mul, nI_add, n_lt0, n_le0, n_eq0, n_ge0, n_gt0, n_lt, n_le, n_eq, n_in, n_div, n_rem, n_rem2, n_m1, nI_clamp, bz_0, bz_1, tI_0, tI_bz, n4, n16, eq_self, Nat.reduceLT, Nat.reduceLeDiff, Nat.reduceEqDiff, Nat.reduceAdd, Nat.reduceMul, Nat.reduceDiv, Nat.reduceMod, Nat.le_refl, decide_eq_false_iff_not, Classical.not_not, true_and, and_true, false_and, and_false, not_true_eq_false, not_false_eq_true, forall_const, true_implies, false_implies, implies_true, ne_eq]
  refine ⟨fun y => pdf hp (fun w => dec_f.mp y w.2), fun y => pdt hp ⟨by omega, Classical.not_not.mp (fun w => y (dec_f.mpr w))⟩⟩
theorem nset_o {f : Nat → Nat} {i v j : Nat} (h : j ≠ i) : nset f i v j = f j := if_neg h
theorem nset_s {f : Nat → Nat} {i v : Nat} : nset f i v i = v := if_pos rfl
theorem rdN_lo {N : Nat} {tp : Nat → Nat} : ∀ n i a ns j, j < i → (rdN N tp n i a ns).2.2 j = ns j
  | 0, _, _, _, _, _ => rfl
  | n + 1, i, a, ns, j, hj => by
    unfold rdN
    split
    · rw [rdN_lo n (i + 1) _ _ j (by omega), nset_o (by omega)]
    · exact nset_o (by omega)
theorem rdN_hi {N : Nat} {tp : Nat → Nat} : ∀ n i a ns j, i + n ≤ j → (rdN N tp n i a ns).2.2 j = ns j
  | 0, _, _, _, _, _ => rfl
  | n + 1, i, a, ns, j, hj => by
    unfold rdN
    split
    · rw [rdN_hi n (i + 1) _ _ j (by omega), nset_o (by omega)]
    · exact nset_o (by omega)
theorem r_isDeed (hT : TQ h N tp a c) (hp0 : (rdD N tp a).1 = false → ∀ h', FT h h' → TQ h' N tp (rdD N tp a).2.1 c → (∀ j, j < 4 * c → h' (.inr 16) j = h (.inr 16) j) → p (nI 0) h') (hp1 : (rdD N tp a).1 = true → ∀ h', FT h h' → h' (.inr 7) 17 = nI (rdD N tp a).2.1 → h' (.inr 7) 16 = nI (c + 1) → (∀ j, j < 4 * c → h' (.inr 16) j = h (.inr 16) j) → TD h' c (rdD N tp a).2.2 → p (nI 1) h') : mI (Kd sL (d + 3)) 183 [.inr (.inr (.inr 7))] h p := by
  refine ke_X4_isDeed ?_
  obtain ⟨e15, e17, e16, hN, ha, hc, htp⟩ := id hT
  refine EX.go (Kd_mono _ _) [false, false, false, false, true, false, false, false, false, false, false, true, false, false, false, false] 40 0 ?_
  dsimp only [wpc_s, wsl_t, wsl_f, gD_0, gD_s, ↓denB_n, pI_s, pG_s, pU_n, cb_X4_isDeed_0, cb_X4_isDeed_1, cb_X4_isDeed_2, cb_X4_isDeed_3, cb_X4_isDeed_4, cb_X4_isDeed_5, cb_X4_isDeed_6, cb_X4_isDeed_7, cb_X4_isDeed_8, cb_X4_isDeed_9, cb_X4_isDeed_10, cb_X4_isDeed_11, cb_X4_isDeed_12, cb_X4_isDeed_13, cb_X4_isDeed_14, cb_X4_isDeed_15, ↓ev_aload_n_0, ↓ev_getf_4_17, ↓ev_getf_4_15, ↓ev_icmp_eq, ↓ev_getf_4_13, ↓ev_iald_o8, ↓ev_iald_o9, ↓ev_iald_o10, ↓ev_iald_o11, ↓ev_iald_o12, ↓ev_iald_o13, ↓ev_iald_o14, ↓ev_iald_o15, ↓ev_iald_o16, ↓ev_calls_1_0_1, ↓ev_calls_1_1_1, ↓ev_calls_1_2_1, ↓ev_calls_1_3_1, ↓ev_calls_1_4_1, ↓ev_iconst_m1, ↓ev_icmp_ne, ↓ev_iconst_0, ↓ev_zret, ↓ev_getf_4_14, ↓ev_iconst_4, ↓ev_getf_4_16, ↓ev_imul, ↓ev_iast_o8, ↓ev_iast_o9, ↓ev_iast_o10, ↓ev_iast_o11, ↓ev_iast_o12, ↓ev_iast_o13, ↓ev_iast_o14, ↓ev_iast_o15, ↓ev_iast_o16, ↓ev_dup, ↓ev_dupr, ↓ev_iconst_1, ↓ev_iadd, ↓ev_putf_4_17, ↓ev_istore_n_1, ↓ev_iload_n_1, ↓ev_icmp_gt, ↓ev_bipush_32, ↓ev_callv_2_0_1, ↓ev_callv_2_1_1, ↓ev_callv_2_2_1, ↓ev_callv_2_3_1, ↓ev_callv_2_4_1, ↓ev_if_ne, ↓ev_istore_n_2, ↓ev_istore_n_3, ↓ev_iload_n_3, ↓ev_iconst_3, ↓ev_icmp_ge, ↓ev_if_eq, ↓ev_bipush_10, ↓ev_iload_n_2, ↓ev_bipush_48, ↓ev_isub, ↓ev_iinc_3_1, ↓ev_goto, ↓ev_iinc_1_1, ↓ev_putf_4_16, Nat.reduceAdd]
  rw [e17, e15]
  try simp (disch := omega) only [pk_mul, nI_add, n_lt0, n_le0, n_eq0, n_ge0, n_gt0, n_lt, n_le, n_eq, n_in, n_div, n_rem, n_rem2, n_m1, nI_clamp, bz_0, bz_1, tI_0, tI_bz, n4, n16, eq_self, Nat.reduceLT, Nat.reduceLeDiff, Nat.reduceEqDiff, Nat.reduceAdd, Nat.reduceMul, Nat.reduceDiv, Nat.reduceMod, Nat.le_refl, decide_eq_false_iff_not, Classical.not_not, true_and, and_true, false_and, and_false, not_true_eq_false, not_false_eq_true, forall_const, true_implies, false_implies, implies_true, ne_eq]
  unfold rdD at hp0 hp1
  refine ⟨fun z => ?_, fun z => ⟨by omega, ?_⟩⟩
  · rw [if_neg (by omega)] at hp0
    exact hp0 rfl h FT.rf hT (fun _ _ => rfl)
  obtain ⟨et, ht⟩ := htp a (by omega)
  rw [et]
  refine r_numbersOf ht ?_
  unfold nmO
  by_cases z7 : ltr (tp a) < 7
  · have hnb := nbo_le (ltr (tp a))
    rw [if_pos z7]
    rw [if_pos ⟨by omega, z7⟩] at hp0 hp1
    dsimp only at hp0 hp1
    have q16 : ∀ k v, hup h (.inr 16) k v (.inr 7) = h (.inr 7) := fun k v => by funext j; exact hup_other (by simp) j
    try simp (disch := omega) only [pk_mul, nI_add, n_lt0, n_le0, n_eq0, n_ge0, n_gt0, n_lt, n_le, n_eq, n_in, n_div, n_rem, n_rem2, n_m1, nI_clamp, bz_0, bz_1, tI_0, tI_bz, n4, n16, eq_self, Nat.reduceLT, Nat.reduceLeDiff, Nat.reduceEqDiff, Nat.reduceAdd, Nat.reduceMul, Nat.reduceDiv, Nat.reduceMod, Nat.le_refl, decide_eq_false_iff_not, Classical.not_not, true_and, and_true, false_and, and_false, not_true_eq_false, not_false_eq_true, forall_const, true_implies, false_implies, implies_true, ne_eq, e16, e17, et, q16]
    refine ⟨by omega, by omega, ?_⟩
    have T1 : TQ (hup (hup h (.inr 16) (4 * c) (nI (tp a))) (.inr 7) 17 (nI (a + 1))) N tp (a + 1) c := hT.t.u (by omega)
    have o1 : FT h (hup (hup h (.inr 16) (4 * c) (nI (tp a))) (.inr 7) 17 (nI (a + 1))) := FT.t.tr (FT.u (Or.inr rfl))
    have s1 : hup (hup h (.inr 16) (4 * c) (nI (tp a))) (.inr 7) 17 (nI (a + 1)) (.inr 16) (4 * c) = nI (tp a) := by rw [hup_other (by simp), hup_same]
    have u1 : ∀ j, j < 4 * c → hup (hup h (.inr 16) (4 * c) (nI (tp a))) (.inr 7) 17 (nI (a + 1)) (.inr 16) j = h (.inr 16) j := fun j hj => by rw [hup_other (by simp), hup_idx (by omega)]
    generalize hup (hup h (.inr 16) (4 * c) (nI (tp a))) (.inr 7) 17 (nI (a + 1)) = h1 at T1 o1 s1 u1
    suffices H : ∀ (n i b : Nat) (ns : Nat → Nat) (h2 : mH) (x2 x3 : Option mV), i + n = nbo (ltr (tp a)) → TQ h2 N tp b c → FT h h2 → h2 (.inr 16) (4 * c) = nI (tp a) → (∀ j, j < 4 * c → h2 (.inr 16) j = h (.inr 16) j) → (∀ k, k < i → h2 (.inr 16) (4 * c + 1 + k) = nI (ns k)) → ((rdN N tp n i b ns).1 = false → ∀ h', FT h h' → TQ h' N tp (rdN N tp n i b ns).2.1 c → (∀ j, j < 4 * c → h' (.inr 16) j = h (.inr 16) j) → p (nI 0) h') → ((rdN N tp n i b ns).1 = true → ∀ h', FT h h' → h' (.inr 7) 17 = nI (rdN N tp n i b ns).2.1 → h' (.inr 7) 16 = nI (c + 1) → (∀ j, j < 4 * c → h' (.inr 16) j = h (.inr 16) j) → h' (.inr 16) (4 * c) = nI (tp a) → (∀ k, k < nbo (ltr (tp a)) → h' (.inr 16) (4 * c + 1 + k) = nI ((rdN N tp n i b ns).2.2 k)) → p (nI 1) h') → EX (Kd sL (d + 2)) sL md_X4_isDeed (pI p) 4 [some (.inr (.inr (.inr 7))), some (.inl (nI (i + 1))), x2, x3] [] h2 by
      refine H (nbo (ltr (tp a))) 0 (a + 1) (fun _ => 0) h1 _ _ (by omega) T1 o1 s1 u1 (fun k hk => absurd hk (Nat.not_lt_zero k)) hp0 (fun y h' f1 f2 f3 f4 f5 f6 => hp1 y h' f1 f2 f3 f4 ⟨⟨tp a, ht, rfl, f5⟩, z7, f6, fun k hk => ?_⟩)
      exact rdN_hi _ _ _ _ k (by have := hk; dsimp only at this; omega)
    intro n
    induction n with
    | zero =>
      intro i b ns h2 x2 x3 hi T2 o2 s2 u2 v2 hp0 hp1
      refine EX.go (Kd_mono _ _) [false, false, false, false, true, false, false, false, false, false, false, true, false, false, false, false] 40 4 ?_
      dsimp only [wpc_s, wsl_t, wsl_f, gD_0, gD_s, ↓denB_n, pI_s, pG_s, pU_n, cb_X4_isDeed_0, cb_X4_isDeed_1, cb_X4_isDeed_2, cb_X4_isDeed_3, cb_X4_isDeed_4, cb_X4_isDeed_5, cb_X4_isDeed_6, cb_X4_isDeed_7, cb_X4_isDeed_8, cb_X4_isDeed_9, cb_X4_isDeed_10, cb_X4_isDeed_11, cb_X4_isDeed_12, cb_X4_isDeed_13, cb_X4_isDeed_14, cb_X4_isDeed_15, ↓ev_aload_n_0, ↓ev_getf_4_17, ↓ev_getf_4_15, ↓ev_icmp_eq, ↓ev_getf_4_13, ↓ev_iald_o8, ↓ev_iald_o9, ↓ev_iald_o10, ↓ev_iald_o11, ↓ev_iald_o12, ↓ev_iald_o13, ↓ev_iald_o14, ↓ev_iald_o15, ↓ev_iald_o16, ↓ev_calls_1_0_1, ↓ev_calls_1_1_1, ↓ev_calls_1_2_1, ↓ev_calls_1_3_1, ↓ev_calls_1_4_1, ↓ev_iconst_m1, ↓ev_icmp_ne, ↓ev_iconst_0, ↓ev_zret, ↓ev_getf_4_14, ↓ev_iconst_4, ↓ev_getf_4_16, ↓ev_imul, ↓ev_iast_o8, ↓ev_iast_o9, ↓ev_iast_o10, ↓ev_iast_o11, ↓ev_iast_o12, ↓ev_iast_o13, ↓ev_iast_o14, ↓ev_iast_o15, ↓ev_iast_o16, ↓ev_dup, ↓ev_dupr, ↓ev_iconst_1, ↓ev_iadd, ↓ev_putf_4_17, ↓ev_istore_n_1, ↓ev_iload_n_1, ↓ev_icmp_gt, ↓ev_bipush_32, ↓ev_callv_2_0_1, ↓ev_callv_2_1_1, ↓ev_callv_2_2_1, ↓ev_callv_2_3_1, ↓ev_callv_2_4_1, ↓ev_if_ne, ↓ev_istore_n_2, ↓ev_istore_n_3, ↓ev_iload_n_3, ↓ev_iconst_3, ↓ev_icmp_ge, ↓ev_if_eq, ↓ev_bipush_10, ↓ev_iload_n_2, ↓ev_bipush_48, ↓ev_isub, ↓ev_iinc_3_1, ↓ev_goto, ↓ev_iinc_1_1, ↓ev_putf_4_16, Nat.reduceAdd]
      obtain ⟨f15, f17, f16, -, hb, -, ftp⟩ := id T2
      rw [f16]
      try simp (disch := omega) only [pk_mul, nI_add, n_lt0, n_le0, n_eq0, n_ge0, n_gt0, n_lt, n_le, n_eq, n_in, n_div, n_rem, n_rem2, n_m1, nI_clamp, bz_0, bz_1, tI_0, tI_bz, n4, n16, eq_self, Nat.reduceLT, Nat.reduceLeDiff, Nat.reduceEqDiff, Nat.reduceAdd, Nat.reduceMul, Nat.reduceDiv, Nat.reduceMod, Nat.le_refl, decide_eq_false_iff_not, Classical.not_not, true_and, and_true, false_and, and_false, not_true_eq_false, not_false_eq_true, forall_const, true_implies, false_implies, implies_true, ne_eq, s2]
      refine ⟨by omega, r_numbersOf ht ?_⟩
      unfold nmO
      rw [if_pos z7]
      try simp (disch := omega) only [pk_mul, nI_add, n_lt0, n_le0, n_eq0, n_ge0, n_gt0, n_lt, n_le, n_eq, n_in, n_div, n_rem, n_rem2, n_m1, nI_clamp, bz_0, bz_1, tI_0, tI_bz, n4, n16, eq_self, Nat.reduceLT, Nat.reduceLeDiff, Nat.reduceEqDiff, Nat.reduceAdd, Nat.reduceMul, Nat.reduceDiv, Nat.reduceMod, Nat.le_refl, decide_eq_false_iff_not, Classical.not_not, true_and, and_true, false_and, and_false, not_true_eq_false, not_false_eq_true, forall_const, true_implies, false_implies, implies_true, ne_eq, f16]
      refine ⟨fun _ => ?_, fun y => absurd (show nbo (ltr (tp a)) < i + 1 by omega) y⟩
      unfold rdN at hp1
      refine hp1 rfl _ (o2.tr (FT.u (Or.inl rfl))) ?_ ?_ (fun j hj => ?_) ?_ (fun k hk => ?_)
      · rw [hup_idx (by decide), f17]
      · rw [hup_same]
      · rw [hup_other (by simp)]; exact u2 j hj
      · rw [hup_other (by simp)]; exact s2
      · rw [hup_other (by simp)]; exact v2 k (by omega)
    | succ n ih =>
      intro i b ns h2 x2 x3 hi T2 o2 s2 u2 v2 hp0 hp1
      refine EX.go (Kd_mono _ _) [false, false, false, false, true, false, false, false, false, false, false, true, false, false, true, true] 40 4 ?_
      dsimp only [wpc_s, wsl_t, wsl_f, gD_0, gD_s, ↓denB_n, pI_s, pG_s, pU_n, cb_X4_isDeed_0, cb_X4_isDeed_1, cb_X4_isDeed_2, cb_X4_isDeed_3, cb_X4_isDeed_4, cb_X4_isDeed_5, cb_X4_isDeed_6, cb_X4_isDeed_7, cb_X4_isDeed_8, cb_X4_isDeed_9, cb_X4_isDeed_10, cb_X4_isDeed_11, cb_X4_isDeed_12, cb_X4_isDeed_13, cb_X4_isDeed_14, cb_X4_isDeed_15, ↓ev_aload_n_0, ↓ev_getf_4_17, ↓ev_getf_4_15, ↓ev_icmp_eq, ↓ev_getf_4_13, ↓ev_iald_o8, ↓ev_iald_o9, ↓ev_iald_o10, ↓ev_iald_o11, ↓ev_iald_o12, ↓ev_iald_o13, ↓ev_iald_o14, ↓ev_iald_o15, ↓ev_iald_o16, ↓ev_calls_1_0_1, ↓ev_calls_1_1_1, ↓ev_calls_1_2_1, ↓ev_calls_1_3_1, ↓ev_calls_1_4_1, ↓ev_iconst_m1, ↓ev_icmp_ne, ↓ev_iconst_0, ↓ev_zret, ↓ev_getf_4_14, ↓ev_iconst_4, ↓ev_getf_4_16, ↓ev_imul, ↓ev_iast_o8, ↓ev_iast_o9, ↓ev_iast_o10, ↓ev_iast_o11, ↓ev_iast_o12, ↓ev_iast_o13, ↓ev_iast_o14, ↓ev_iast_o15, ↓ev_iast_o16, ↓ev_dup, ↓ev_dupr, ↓ev_iconst_1, ↓ev_iadd, ↓ev_putf_4_17, ↓ev_istore_n_1, ↓ev_iload_n_1, ↓ev_icmp_gt, ↓ev_bipush_32, ↓ev_callv_2_0_1, ↓ev_callv_2_1_1, ↓ev_callv_2_2_1, ↓ev_callv_2_3_1, ↓ev_callv_2_4_1, ↓ev_if_ne, ↓ev_istore_n_2, ↓ev_istore_n_3, ↓ev_iload_n_3, ↓ev_iconst_3, ↓ev_icmp_ge, ↓ev_if_eq, ↓ev_bipush_10, ↓ev_iload_n_2, ↓ev_bipush_48, ↓ev_isub, ↓ev_iinc_3_1, ↓ev_goto, ↓ev_iinc_1_1, ↓ev_putf_4_16, Nat.reduceAdd]
      obtain ⟨f15, f17, f16, -, hb, -, ftp⟩ := id T2
      rw [f16]
      try simp (disch := omega) only [pk_mul, nI_add, n_lt0, n_le0, n_eq0, n_ge0, n_gt0, n_lt, n_le, n_eq, n_in, n_div, n_rem, n_rem2, n_m1, nI_clamp, bz_0, bz_1, tI_0, tI_bz, n4, n16, eq_self, Nat.reduceLT, Nat.reduceLeDiff, Nat.reduceEqDiff, Nat.reduceAdd, Nat.reduceMul, Nat.reduceDiv, Nat.reduceMod, Nat.le_refl, decide_eq_false_iff_not, Classical.not_not, true_and, and_true, false_and, and_false, not_true_eq_false, not_false_eq_true, forall_const, true_implies, false_implies, implies_true, ne_eq, s2]
      refine ⟨by omega, r_numbersOf ht ?_⟩
      unfold nmO
      rw [if_pos z7, f17, f15]
      try simp (disch := omega) only [pk_mul, nI_add, n_lt0, n_le0, n_eq0, n_ge0, n_gt0, n_lt, n_le, n_eq, n_in, n_div, n_rem, n_rem2, n_m1, nI_clamp, bz_0, bz_1, tI_0, tI_bz, n4, n16, eq_self, Nat.reduceLT, Nat.reduceLeDiff, Nat.reduceEqDiff, Nat.reduceAdd, Nat.reduceMul, Nat.reduceDiv, Nat.reduceMod, Nat.le_refl, decide_eq_false_iff_not, Classical.not_not, true_and, and_true, false_and, and_false, not_true_eq_false, not_false_eq_true, forall_const, true_implies, false_implies, implies_true, ne_eq]
      refine ⟨fun y => absurd y (by omega), fun _ => ?_⟩
      unfold rdN tkN at hp0 hp1
      refine ⟨fun y => ?_, fun y => ⟨by omega, ?_⟩⟩
      · rw [if_neg (show ¬ (b < N ∧ tp b = 32) by omega)] at hp0
        exact hp0 (by rfl) h2 o2 T2 u2
      obtain ⟨gt1, gt2⟩ := ftp b (by omega)
      rw [gt1]
      try simp (disch := omega) only [pk_mul, nI_add, n_lt0, n_le0, n_eq0, n_ge0, n_gt0, n_lt, n_le, n_eq, n_in, n_div, n_rem, n_rem2, n_m1, nI_clamp, bz_0, bz_1, tI_0, tI_bz, n4, n16, eq_self, Nat.reduceLT, Nat.reduceLeDiff, Nat.reduceEqDiff, Nat.reduceAdd, Nat.reduceMul, Nat.reduceDiv, Nat.reduceMod, Nat.le_refl, decide_eq_false_iff_not, Classical.not_not, true_and, and_true, false_and, and_false, not_true_eq_false, not_false_eq_true, forall_const, true_implies, false_implies, implies_true, ne_eq]
      refine ⟨fun y2 => ?_, fun y2 => ?_⟩
      · rw [if_pos (show b < N ∧ tp b = 32 from ⟨by omega, y2⟩)] at hp0 hp1
        have T3 : TQ (hup h2 (.inr 7) 17 (nI (b + 1))) N tp (b + 1) c := T2.u (by omega)
        have o3 : FT h (hup h2 (.inr 7) 17 (nI (b + 1))) := o2.tr (FT.u (Or.inr rfl))
        have s3 : ∀ j, hup h2 (.inr 7) 17 (nI (b + 1)) (.inr 16) j = h2 (.inr 16) j := fun j => hup_other (by simp) j
        have q17 : hup h2 (.inr 7) 17 (nI (b + 1)) (.inr 7) 17 = nI (b + 1) := hup_same
        rw [q17]
        generalize hup h2 (.inr 7) 17 (nI (b + 1)) = h3 at T3 o3 s3 q17
        refine r_isDigit T3 (by omega) ?_
        try simp (disch := omega) only [pk_mul, nI_add, n_lt0, n_le0, n_eq0, n_ge0, n_gt0, n_lt, n_le, n_eq, n_in, n_div, n_rem, n_rem2, n_m1, nI_clamp, bz_0, bz_1, tI_0, tI_bz, n4, n16, eq_self, Nat.reduceLT, Nat.reduceLeDiff, Nat.reduceEqDiff, Nat.reduceAdd, Nat.reduceMul, Nat.reduceDiv, Nat.reduceMod, Nat.le_refl, decide_eq_false_iff_not, Classical.not_not, true_and, and_true, false_and, and_false, not_true_eq_false, not_false_eq_true, forall_const, true_implies, false_implies, implies_true, ne_eq]
        refine ⟨fun y3 => ?_, fun y3 => ?_⟩
        · -- digits
          have y4 : isdg N tp (b + 1) := Classical.not_not.mp (fun w => y3 (dec_f.mpr w))
          have hgt : b + 1 < (dgF N tp 3 (b + 1) 0).1 := by
            unfold dgF
            rw [if_pos y4]
            exact (dgF_le N tp 2 (b + 1 + 1) _).1
          rw [decide_eq_true hgt] at hp0 hp1
          dsimp only at hp0 hp1
          rw [if_pos rfl] at hp0 hp1
          have hle := dgF_N (N := N) (tp := tp) 3 (b + 1) 0 (by omega)
          have J14 : ∀ (h4 : mH) (e v : Nat) (x3 : Option mV), (e, v) = dgF N tp 3 (b + 1) 0 → TQ h4 N tp e c → FT h h4 → (∀ j, h4 (.inr 16) j = h2 (.inr 16) j) → EX (Kd sL (d + 2)) sL md_X4_isDeed (pI p) 14 [some (.inr (.inr (.inr 7))), some (.inl (nI (i + 1))), some (.inl (nI v)), x3] [] h4 := by
            intro h4 e v x3 hev T4 o4 s4
            rw [← hev] at hp0 hp1
            dsimp only at hp0 hp1
            refine EX.go (Kd_mono _ _) [false, false, false, false, true, false, false, false, false, false, false, true, false, false, false, false] 40 14 ?_
            dsimp only [wpc_s, wsl_t, wsl_f, gD_0, gD_s, ↓denB_n, pI_s, pG_s, pU_n, cb_X4_isDeed_0, cb_X4_isDeed_1, cb_X4_isDeed_2, cb_X4_isDeed_3, cb_X4_isDeed_4, cb_X4_isDeed_5, cb_X4_isDeed_6, cb_X4_isDeed_7, cb_X4_isDeed_8, cb_X4_isDeed_9, cb_X4_isDeed_10, cb_X4_isDeed_11, cb_X4_isDeed_12, cb_X4_isDeed_13, cb_X4_isDeed_14, cb_X4_isDeed_15, ↓ev_aload_n_0, ↓ev_getf_4_17, ↓ev_getf_4_15, ↓ev_icmp_eq, ↓ev_getf_4_13, ↓ev_iald_o8, ↓ev_iald_o9, ↓ev_iald_o10, ↓ev_iald_o11, ↓ev_iald_o12, ↓ev_iald_o13, ↓ev_iald_o14, ↓ev_iald_o15, ↓ev_iald_o16, ↓ev_calls_1_0_1, ↓ev_calls_1_1_1, ↓ev_calls_1_2_1, ↓ev_calls_1_3_1, ↓ev_calls_1_4_1, ↓ev_iconst_m1, ↓ev_icmp_ne, ↓ev_iconst_0, ↓ev_zret, ↓ev_getf_4_14, ↓ev_iconst_4, ↓ev_getf_4_16, ↓ev_imul, ↓ev_iast_o8, ↓ev_iast_o9, ↓ev_iast_o10, ↓ev_iast_o11, ↓ev_iast_o12, ↓ev_iast_o13, ↓ev_iast_o14, ↓ev_iast_o15, ↓ev_iast_o16, ↓ev_dup, ↓ev_dupr, ↓ev_iconst_1, ↓ev_iadd, ↓ev_putf_4_17, ↓ev_istore_n_1, ↓ev_iload_n_1, ↓ev_icmp_gt, ↓ev_bipush_32, ↓ev_callv_2_0_1, ↓ev_callv_2_1_1, ↓ev_callv_2_2_1, ↓ev_callv_2_3_1, ↓ev_callv_2_4_1, ↓ev_if_ne, ↓ev_istore_n_2, ↓ev_istore_n_3, ↓ev_iload_n_3, ↓ev_iconst_3, ↓ev_icmp_ge, ↓ev_if_eq, ↓ev_bipush_10, ↓ev_iload_n_2, ↓ev_bipush_48, ↓ev_isub, ↓ev_iinc_3_1, ↓ev_goto, ↓ev_iinc_1_1, ↓ev_putf_4_16, Nat.reduceAdd]
            rw [T4.2.2.1]
            try simp (disch := omega) only [pk_mul, nI_add, n_lt0, n_le0, n_eq0, n_ge0, n_gt0, n_lt, n_le, n_eq, n_in, n_div, n_rem, n_rem2, n_m1, nI_clamp, bz_0, bz_1, tI_0, tI_bz, n4, n16, eq_self, Nat.reduceLT, Nat.reduceLeDiff, Nat.reduceEqDiff, Nat.reduceAdd, Nat.reduceMul, Nat.reduceDiv, Nat.reduceMod, Nat.le_refl, decide_eq_false_iff_not, Classical.not_not, true_and, and_true, false_and, and_false, not_true_eq_false, not_false_eq_true, forall_const, true_implies, false_implies, implies_true, ne_eq]
            refine ⟨by omega, ih (i + 1) e (nset ns i v) _ _ _ (by omega) T4.t (o4.tr FT.t) ?_ (fun j hj => ?_) (fun k hk => ?_) hp0 hp1⟩
            · rw [hup_idx (by omega), s4]; exact s2
            · rw [hup_idx (by omega), s4]; exact u2 j hj
            · by_cases w : k = i
              · subst w
                rw [show 4 * c + 1 + k = 4 * c + (k + 1) by omega, hup_same, nset_s]
              · rw [hup_idx (by omega), s4, nset_o w]
                exact v2 k (by omega)
          suffices H2 : ∀ (f m e v : Nat) (h4 : mH), m + f = 3 → dgF N tp f e v = dgF N tp 3 (b + 1) 0 → TQ h4 N tp e c → FT h h4 → (∀ j, h4 (.inr 16) j = h2 (.inr 16) j) → EX (Kd sL (d + 2)) sL md_X4_isDeed (pI p) 11 [some (.inr (.inr (.inr 7))), some (.inl (nI (i + 1))), some (.inl (nI v)), some (.inl (nI m))] [] h4 from H2 3 0 (b + 1) 0 h3 rfl rfl T3 o3 s3
          intro f
          induction f with
          | zero =>
            intro m e v h4 hm hev T4 o4 s4
            refine EX.go (Kd_mono _ _) [false, false, false, false, true, false, false, false, false, false, false, true, false, false, true, false] 40 11 ?_
            dsimp only [wpc_s, wsl_t, wsl_f, gD_0, gD_s, ↓denB_n, pI_s, pG_s, pU_n, cb_X4_isDeed_0, cb_X4_isDeed_1, cb_X4_isDeed_2, cb_X4_isDeed_3, cb_X4_isDeed_4, cb_X4_isDeed_5, cb_X4_isDeed_6, cb_X4_isDeed_7, cb_X4_isDeed_8, cb_X4_isDeed_9, cb_X4_isDeed_10, cb_X4_isDeed_11, cb_X4_isDeed_12, cb_X4_isDeed_13, cb_X4_isDeed_14, cb_X4_isDeed_15, ↓ev_aload_n_0, ↓ev_getf_4_17, ↓ev_getf_4_15, ↓ev_icmp_eq, ↓ev_getf_4_13, ↓ev_iald_o8, ↓ev_iald_o9, ↓ev_iald_o10, ↓ev_iald_o11, ↓ev_iald_o12, ↓ev_iald_o13, ↓ev_iald_o14, ↓ev_iald_o15, ↓ev_iald_o16, ↓ev_calls_1_0_1, ↓ev_calls_1_1_1, ↓ev_calls_1_2_1, ↓ev_calls_1_3_1, ↓ev_calls_1_4_1, ↓ev_iconst_m1, ↓ev_icmp_ne, ↓ev_iconst_0, ↓ev_zret, ↓ev_getf_4_14, ↓ev_iconst_4, ↓ev_getf_4_16, ↓ev_imul, ↓ev_iast_o8, ↓ev_iast_o9, ↓ev_iast_o10, ↓ev_iast_o11, ↓ev_iast_o12, ↓ev_iast_o13, ↓ev_iast_o14, ↓ev_iast_o15, ↓ev_iast_o16, ↓ev_dup, ↓ev_dupr, ↓ev_iconst_1, ↓ev_iadd, ↓ev_putf_4_17, ↓ev_istore_n_1, ↓ev_iload_n_1, ↓ev_icmp_gt, ↓ev_bipush_32, ↓ev_callv_2_0_1, ↓ev_callv_2_1_1, ↓ev_callv_2_2_1, ↓ev_callv_2_3_1, ↓ev_callv_2_4_1, ↓ev_if_ne, ↓ev_istore_n_2, ↓ev_istore_n_3, ↓ev_iload_n_3, ↓ev_iconst_3, ↓ev_icmp_ge, ↓ev_if_eq, ↓ev_bipush_10, ↓ev_iload_n_2, ↓ev_bipush_48, ↓ev_isub, ↓ev_iinc_3_1, ↓ev_goto, ↓ev_iinc_1_1, ↓ev_putf_4_16, Nat.reduceAdd]
            try simp (disch := omega) only [pk_mul, nI_add, n_lt0, n_le0, n_eq0, n_ge0, n_gt0, n_lt, n_le, n_eq, n_in, n_div, n_rem, n_rem2, n_m1, nI_clamp, bz_0, bz_1, tI_0, tI_bz, n4, n16, eq_self, Nat.reduceLT, Nat.reduceLeDiff, Nat.reduceEqDiff, Nat.reduceAdd, Nat.reduceMul, Nat.reduceDiv, Nat.reduceMod, Nat.le_refl, decide_eq_false_iff_not, Classical.not_not, true_and, and_true, false_and, and_false, not_true_eq_false, not_false_eq_true, forall_const, true_implies, false_implies, implies_true, ne_eq]
            exact ⟨fun _ => J14 h4 e v _ hev T4 o4 s4, fun w => absurd (show 3 ≤ m by omega) w⟩
          | succ f ih2 =>
            intro m e v h4 hm hev T4 o4 s4
            refine EX.go (Kd_mono _ _) [false, false, false, false, true, false, false, false, false, false, false, true, false, false, true, false] 40 11 ?_
            dsimp only [wpc_s, wsl_t, wsl_f, gD_0, gD_s, ↓denB_n, pI_s, pG_s, pU_n, cb_X4_isDeed_0, cb_X4_isDeed_1, cb_X4_isDeed_2, cb_X4_isDeed_3, cb_X4_isDeed_4, cb_X4_isDeed_5, cb_X4_isDeed_6, cb_X4_isDeed_7, cb_X4_isDeed_8, cb_X4_isDeed_9, cb_X4_isDeed_10, cb_X4_isDeed_11, cb_X4_isDeed_12, cb_X4_isDeed_13, cb_X4_isDeed_14, cb_X4_isDeed_15, ↓ev_aload_n_0, ↓ev_getf_4_17, ↓ev_getf_4_15, ↓ev_icmp_eq, ↓ev_getf_4_13, ↓ev_iald_o8, ↓ev_iald_o9, ↓ev_iald_o10, ↓ev_iald_o11, ↓ev_iald_o12, ↓ev_iald_o13, ↓ev_iald_o14, ↓ev_iald_o15, ↓ev_iald_o16, ↓ev_calls_1_0_1, ↓ev_calls_1_1_1, ↓ev_calls_1_2_1, ↓ev_calls_1_3_1, ↓ev_calls_1_4_1, ↓ev_iconst_m1, ↓ev_icmp_ne, ↓ev_iconst_0, ↓ev_zret, ↓ev_getf_4_14, ↓ev_iconst_4, ↓ev_getf_4_16, ↓ev_imul, ↓ev_iast_o8, ↓ev_iast_o9, ↓ev_iast_o10, ↓ev_iast_o11, ↓ev_iast_o12, ↓ev_iast_o13, ↓ev_iast_o14, ↓ev_iast_o15, ↓ev_iast_o16, ↓ev_dup, ↓ev_dupr, ↓ev_iconst_1, ↓ev_iadd, ↓ev_putf_4_17, ↓ev_istore_n_1, ↓ev_iload_n_1, ↓ev_icmp_gt, ↓ev_bipush_32, ↓ev_callv_2_0_1, ↓ev_callv_2_1_1, ↓ev_callv_2_2_1, ↓ev_callv_2_3_1, ↓ev_callv_2_4_1, ↓ev_if_ne, ↓ev_istore_n_2, ↓ev_istore_n_3, ↓ev_iload_n_3, ↓ev_iconst_3, ↓ev_icmp_ge, ↓ev_if_eq, ↓ev_bipush_10, ↓ev_iload_n_2, ↓ev_bipush_48, ↓ev_isub, ↓ev_iinc_3_1, ↓ev_goto, ↓ev_iinc_1_1, ↓ev_putf_4_16, Nat.reduceAdd]
            have k17 := T4.2.1
            have he := T4.2.2.2.2.1
            unfold dgF at hev
            try simp (disch := omega) only [pk_mul, nI_add, n_lt0, n_le0, n_eq0, n_ge0, n_gt0, n_lt, n_le, n_eq, n_in, n_div, n_rem, n_rem2, n_m1, nI_clamp, bz_0, bz_1, tI_0, tI_bz, n4, n16, eq_self, Nat.reduceLT, Nat.reduceLeDiff, Nat.reduceEqDiff, Nat.reduceAdd, Nat.reduceMul, Nat.reduceDiv, Nat.reduceMod, Nat.le_refl, decide_eq_false_iff_not, Classical.not_not, true_and, and_true, false_and, and_false, not_true_eq_false, not_false_eq_true, forall_const, true_implies, false_implies, implies_true, ne_eq]
            refine ⟨fun w => absurd w (by omega), fun _ => ?_⟩
            rw [k17]
            refine r_isDigit T4 he ?_
            try simp (disch := omega) only [pk_mul, nI_add, n_lt0, n_le0, n_eq0, n_ge0, n_gt0, n_lt, n_le, n_eq, n_in, n_div, n_rem, n_rem2, n_m1, nI_clamp, bz_0, bz_1, tI_0, tI_bz, n4, n16, eq_self, Nat.reduceLT, Nat.reduceLeDiff, Nat.reduceEqDiff, Nat.reduceAdd, Nat.reduceMul, Nat.reduceDiv, Nat.reduceMod, Nat.le_refl, decide_eq_false_iff_not, Classical.not_not, true_and, and_true, false_and, and_false, not_true_eq_false, not_false_eq_true, forall_const, true_implies, false_implies, implies_true, ne_eq]
            refine ⟨fun w => ?_, fun w => ?_⟩
            · rw [dec_f] at w
              rw [if_neg w] at hev
              exact J14 h4 e v _ hev T4 o4 s4
            · have w1 : isdg N tp e := Classical.not_not.mp (fun y => w (dec_f.mpr y))
              rw [if_pos w1] at hev
              obtain ⟨k1, k2⟩ := T4.2.2.2.2.2.2 e w1.1
              have hw1 := w1.1
              have hw2 := w1.2.1
              rw [k17]
              try simp (disch := omega) only [pk_mul, nI_add, n_lt0, n_le0, n_eq0, n_ge0, n_gt0, n_lt, n_le, n_eq, n_in, n_div, n_rem, n_rem2, n_m1, nI_clamp, bz_0, bz_1, tI_0, tI_bz, n4, n16, eq_self, Nat.reduceLT, Nat.reduceLeDiff, Nat.reduceEqDiff, Nat.reduceAdd, Nat.reduceMul, Nat.reduceDiv, Nat.reduceMod, Nat.le_refl, decide_eq_false_iff_not, Classical.not_not, true_and, and_true, false_and, and_false, not_true_eq_false, not_false_eq_true, forall_const, true_implies, false_implies, implies_true, ne_eq, k1]
              refine ⟨by omega, ?_⟩
              rw [n_sub (by omega), show 10 * v + tp e - 48 = v * 10 + tp e - 48 by omega]
              refine ih2 (m + 1) (e + 1) (v * 10 + tp e - 48) _ (by omega) hev (T4.u (by omega)) (o4.tr (FT.u (Or.inr rfl))) (fun j => by rw [hup_other (by simp)]; exact s4 j)
        · -- no digit
          rw [dec_f] at y3
          have hno : dgF N tp 3 (b + 1) 0 = (b + 1, 0) := by
            unfold dgF
            rw [if_neg y3]
          rw [hno] at hp0
          dsimp only at hp0
          rw [decide_eq_false (show ¬ (b + 1 < b + 1) by omega), if_neg (by decide)] at hp0
          exact hp0 rfl h3 o3 T3 (fun j hj => by rw [s3]; exact u2 j hj)
      · rw [if_neg (show ¬ (b < N ∧ tp b = 32) from fun w => y2 w.2)] at hp0
        exact hp0 (by rfl) h2 o2 T2 u2
  · rw [if_neg z7]
    rw [if_neg (fun w => z7 w.2)] at hp0
    refine ⟨fun w => absurd rfl w, fun _ => hp0 rfl h FT.rf hT (fun _ _ => rfl)⟩
end RTAPE
