/-! ===== the reference: its row, what it reads ===== -/
def RS (h : mH) (S : St) : Prop := ∀ j, j < 400 → h (.inr 8) j = S j
theorem ev_iald_g {M : mK} {sL : Nat} {post : mP} {L : Nat → mC} {b pc n : Nat} {t : List Nat} {c : List mE} {ls : mL} {st : List mV} {h : mH} {r : mRef} {k : Nat} {x : Int32} (hr : arr sL r = some k) : denB M sL post L b ((pc, .iaload, n, t) :: c) ls (.inl x :: .inr (.inr r) :: st) h = (vp_in x k ∧ denB M sL post L b c ls (.inl (h r x.toNatClampNeg) :: st) h) := by
  show (match arr sL r with
      | some n => vp_in x n ∧ denB M sL post L b c ls (.inl (h r x.toNatClampNeg) :: st) h
      | none => False) = _
  rw [hr]
theorem tI_b (b : Bool) : bz (tI b) := by rw [tI_bz]; trivial
theorem okN_in {x : Int32} {m n : Nat} (hn : n = m + 1) (hm : n < 2 ^ 31) : (nI 0 ≤ x ∧ x ≤ nI m) ↔ okN x n := by
  unfold okN
  have e1 := nI_toInt (show m < 2 ^ 31 by omega)
  have e2 := nI_toInt hm
  have e0 : (0 : Int32).toInt = 0 := by decide
  have e3 : (nI 0).toInt = 0 := by decide
  rw [Int32.le_iff_toInt_le, Int32.le_iff_toInt_le, Int32.lt_iff_toInt_lt, Int32.lt_iff_toInt_lt, e1, e2, e0, e3]
  omega
theorem okL_in {S : St} {x : Int32} (hm : mn S ≤ 6) : (nI 0 ≤ x ∧ x ≤ nI (mn S) - nI 1) ↔ okL S x := by
  unfold okL
  have e : ∀ m, m < 7 → (nI m - nI 1).toInt = (m : Int) - 1 := by decide
  have e1 := e (mn S) (by omega)
  have e2 := nI_toInt (show mn S < 2 ^ 31 by omega)
  have e0 : (0 : Int32).toInt = 0 := by decide
  have e3 : (nI 0).toInt = 0 := by decide
  rw [Int32.le_iff_toInt_le, Int32.le_iff_toInt_le, Int32.lt_iff_toInt_lt, Int32.lt_iff_toInt_lt, e1, e2, e0, e3]
  omega
theorem clu_in {x : Int32} : (nI 1 ≤ x ∧ x ≤ nI 63) ↔ (0 < x ∧ x < nI 64) := by
  have e0 : (0 : Int32).toInt = 0 := by decide
  have e1 : (nI 1).toInt = 1 := by decide
  have e2 : (nI 63).toInt = 63 := by decide
  have e3 : (nI 64).toInt = 64 := by decide
  rw [Int32.le_iff_toInt_le, Int32.le_iff_toInt_le, Int32.lt_iff_toInt_lt, Int32.lt_iff_toInt_lt, e1, e2, e0, e3]
  omega
theorem WF.cd {S : St} (h : WF S) {t k : Nat} (ht : t = 0 ∨ nam S t) (hk : k < 4) : S (64 + 4 * t + k) = nI (dt S t k) := by
  rcases ht with rfl | ht
  · rw [dt_0, show 64 + 4 * 0 + k = 64 + k by omega]; exact h.z k hk
  · rw [dt_pos ht.1]; exact h.cn ht k hk
section REF
variable {sL d : Nat} {h : mH} {S : St} {p : Int32 → mH → Prop}
theorem r_in {x a b : Int32} (hp : p (tI (dec (a ≤ x ∧ x ≤ b))) h) : mI (Kd sL (d + 1)) 100 [.inl x, .inl a, .inl b] h p := by
  refine ke_X4_in ?_
  refine EX.go (Kd_mono _ _) [false, false, false, false, false] 40 0 ?_
  dsimp only [wpc_s, wsl_t, wsl_f, gD_0, gD_s, ↓denB_n, pI_s, pG_s, pU_n, cb_X4_in_0, cb_X4_in_1, cb_X4_in_2, cb_X4_in_3, cb_X4_in_4, ↓ev_iload_n_0, ↓ev_iload_n_1, ↓ev_icmp_lt, ↓ev_iload_n_2, ↓ev_icmp_gt, ↓ev_iconst_1, ↓ev_goto, ↓ev_iconst_0, ↓ev_zret, Nat.reduceAdd]
  refine ⟨fun c => ⟨Or.inl rfl, pdf hp (fun z => Int32.not_lt.mpr z.1 c)⟩, fun c => ⟨fun c2 => ⟨Or.inl rfl, pdf hp (fun z => Int32.not_lt.mpr z.2 c2)⟩, fun c2 => ⟨Or.inr rfl, pdt hp ⟨Int32.not_lt.mp c, Int32.not_lt.mp c2⟩⟩⟩⟩
theorem r_copies {a b : mRef} {q : mH → Prop} (ha : arw a = some 400) (hb : arw b = some 400) (hab : a ≠ b) (hp : ∀ f : Nat → Int32, (∀ j, j < 400 → f j = h a j) → q (hpt h b f)) : mU (Kd sL (d + 1)) 102 [.inr (.inr a), .inr (.inr b)] h q := by
  refine ke_X4_copies ?_
  refine EX.go (Kd_mono _ _) [false, true, false, false] 40 0 ?_
  dsimp only [wpc_s, wsl_t, wsl_f, gD_0, gD_s, ↓denB_n, pI_s, pG_s, pU_n, cb_X4_copies_0, cb_X4_copies_1, cb_X4_copies_2, cb_X4_copies_3, ↓ev_iconst_0, ↓ev_istore_n_2, ↓ev_iload_n_2, ↓ev_sipush_400, ↓ev_icmp_ge, ↓ev_aload_n_1, ↓ev_aload_n_0, ↓ev_iald_o8, ↓ev_iald_o9, ↓ev_iald_o10, ↓ev_iald_o11, ↓ev_iald_o12, ↓ev_iald_o13, ↓ev_iald_o14, ↓ev_iald_o15, ↓ev_iald_o16, ↓ev_iast_o8, ↓ev_iast_o9, ↓ev_iast_o10, ↓ev_iast_o11, ↓ev_iast_o12, ↓ev_iast_o13, ↓ev_iast_o14, ↓ev_iast_o15, ↓ev_iast_o16, ↓ev_iinc_2_1, ↓ev_goto, ↓ev_ret, Nat.reduceAdd]
  suffices H : ∀ (f k : Nat) (g : Nat → Int32), k + f = 400 → (∀ j, j < k → g j = h a j) → EX (Kd sL d) sL md_X4_copies (pU q) 1 [some (.inr (.inr a)), some (.inr (.inr b)), some (.inl (nI k))] [] (hpt h b g) by
    have := H 400 0 (h b) (by omega) (fun j hj => absurd hj (Nat.not_lt_zero j))
    rwa [hpt_eta] at this
  intro f
  induction f with
  | zero =>
    intro k g hk hg
    refine EX.go (Kd_mono _ _) [false, true, false, false] 40 1 ?_
    dsimp only [wpc_s, wsl_t, wsl_f, gD_0, gD_s, ↓denB_n, pI_s, pG_s, pU_n, cb_X4_copies_0, cb_X4_copies_1, cb_X4_copies_2, cb_X4_copies_3, ↓ev_iconst_0, ↓ev_istore_n_2, ↓ev_iload_n_2, ↓ev_sipush_400, ↓ev_icmp_ge, ↓ev_aload_n_1, ↓ev_aload_n_0, ↓ev_iald_o8, ↓ev_iald_o9, ↓ev_iald_o10, ↓ev_iald_o11, ↓ev_iald_o12, ↓ev_iald_o13, ↓ev_iald_o14, ↓ev_iald_o15, ↓ev_iald_o16, ↓ev_iast_o8, ↓ev_iast_o9, ↓ev_iast_o10, ↓ev_iast_o11, ↓ev_iast_o12, ↓ev_iast_o13, ↓ev_iast_o14, ↓ev_iast_o15, ↓ev_iast_o16, ↓ev_iinc_2_1, ↓ev_goto, ↓ev_ret, Nat.reduceAdd]
    try simp (disch := omega) only [pk_mul, nI_add, n_lt0, n_le0, n_eq0, n_ge0, n_gt0, n_lt, n_le, n_eq, n_in, n_div, n_rem, n_rem2, n_m1, nI_clamp, bz_0, bz_1, tI_0, tI_bz, n4, n16, eq_self, Nat.reduceLT, Nat.reduceLeDiff, Nat.reduceEqDiff, Nat.reduceAdd, Nat.reduceMul, Nat.reduceDiv, Nat.reduceMod, Nat.le_refl, decide_eq_false_iff_not, Classical.not_not, true_and, and_true, false_and, and_false, not_true_eq_false, not_false_eq_true, forall_const, true_implies, false_implies, implies_true, ne_eq]
    exact ⟨fun _ => hp g (fun j hj => hg j (by omega)), fun c => absurd (show 400 ≤ k by omega) c⟩
  | succ f ih =>
    intro k g hk hg
    refine EX.go (Kd_mono _ _) [false, true, false, false] 40 1 ?_
    dsimp only [wpc_s, wsl_t, wsl_f, gD_0, gD_s, ↓denB_n, pI_s, pG_s, pU_n, cb_X4_copies_0, cb_X4_copies_1, cb_X4_copies_2, cb_X4_copies_3, ↓ev_iconst_0, ↓ev_istore_n_2, ↓ev_iload_n_2, ↓ev_sipush_400, ↓ev_icmp_ge, ↓ev_aload_n_1, ↓ev_aload_n_0, ↓ev_iald_o8, ↓ev_iald_o9, ↓ev_iald_o10, ↓ev_iald_o11, ↓ev_iald_o12, ↓ev_iald_o13, ↓ev_iald_o14, ↓ev_iald_o15, ↓ev_iald_o16, ↓ev_iast_o8, ↓ev_iast_o9, ↓ev_iast_o10, ↓ev_iast_o11, ↓ev_iast_o12, ↓ev_iast_o13, ↓ev_iast_o14, ↓ev_iast_o15, ↓ev_iast_o16, ↓ev_iinc_2_1, ↓ev_goto, ↓ev_ret, Nat.reduceAdd]
    try simp (disch := omega) only [pk_mul, nI_add, n_lt0, n_le0, n_eq0, n_ge0, n_gt0, n_lt, n_le, n_eq, n_in, n_div, n_rem, n_rem2, n_m1, nI_clamp, bz_0, bz_1, tI_0, tI_bz, n4, n16, eq_self, Nat.reduceLT, Nat.reduceLeDiff, Nat.reduceEqDiff, Nat.reduceAdd, Nat.reduceMul, Nat.reduceDiv, Nat.reduceMod, Nat.le_refl, decide_eq_false_iff_not, Classical.not_not, true_and, and_true, false_and, and_false, not_true_eq_false, not_false_eq_true, forall_const, true_implies, false_implies, implies_true, ne_eq]
    refine ⟨fun c => absurd c (by omega), fun _ => ?_⟩
    rw [ev_iald_g (arr_of_arw ha)]
    rw [ev_iast_g hb]
    dsimp only [wpc_s, wsl_t, wsl_f, gD_0, gD_s, ↓denB_n, pI_s, pG_s, pU_n, cb_X4_copies_0, cb_X4_copies_1, cb_X4_copies_2, cb_X4_copies_3, ↓ev_iconst_0, ↓ev_istore_n_2, ↓ev_iload_n_2, ↓ev_sipush_400, ↓ev_icmp_ge, ↓ev_aload_n_1, ↓ev_aload_n_0, ↓ev_iald_o8, ↓ev_iald_o9, ↓ev_iald_o10, ↓ev_iald_o11, ↓ev_iald_o12, ↓ev_iald_o13, ↓ev_iald_o14, ↓ev_iald_o15, ↓ev_iald_o16, ↓ev_iast_o8, ↓ev_iast_o9, ↓ev_iast_o10, ↓ev_iast_o11, ↓ev_iast_o12, ↓ev_iast_o13, ↓ev_iast_o14, ↓ev_iast_o15, ↓ev_iast_o16, ↓ev_iinc_2_1, ↓ev_goto, ↓ev_ret, Nat.reduceAdd]
    have e : hpt h b g a = h a := hpt_ne hab
    try simp (disch := omega) only [pk_mul, nI_add, n_lt0, n_le0, n_eq0, n_ge0, n_gt0, n_lt, n_le, n_eq, n_in, n_div, n_rem, n_rem2, n_m1, nI_clamp, bz_0, bz_1, tI_0, tI_bz, n4, n16, eq_self, Nat.reduceLT, Nat.reduceLeDiff, Nat.reduceEqDiff, Nat.reduceAdd, Nat.reduceMul, Nat.reduceDiv, Nat.reduceMod, Nat.le_refl, decide_eq_false_iff_not, Classical.not_not, true_and, and_true, false_and, and_false, not_true_eq_false, not_false_eq_true, forall_const, true_implies, false_implies, implies_true, ne_eq, hup_hpt, e]
    refine ⟨by omega, by omega, ih (k + 1) _ (by omega) (fun j hj => ?_)⟩
    rcases Nat.lt_or_ge j k with q | q
    · rw [pk_un (by omega)]; exact hg j q
    · rw [show j = k by omega, pk_us]
theorem r_isLayer {x : Int32} (hS : RS h S) (hw : WF S) (hp : p (tI (dec (okL S x))) h) : mI (Kd sL (d + 2)) 103 [.inr (.inr (.inr 7)), .inl x] h p := by
  refine ke_X4_isLayer ?_
  refine EX.go (Kd_mono _ _) [false] 40 0 ?_
  dsimp only [wpc_s, wsl_t, wsl_f, gD_0, gD_s, ↓denB_n, pI_s, pG_s, pU_n, cb_X4_isLayer_0, ↓ev_iload_n_1, ↓ev_iconst_0, ↓ev_aload_n_0, ↓ev_getf_4_0, ↓ev_sipush_320, ↓ev_iald_o8, ↓ev_iald_o9, ↓ev_iald_o10, ↓ev_iald_o11, ↓ev_iald_o12, ↓ev_iald_o13, ↓ev_iald_o14, ↓ev_iald_o15, ↓ev_iald_o16, ↓ev_iconst_1, ↓ev_isub, ↓ev_calls_3_0_1, ↓ev_calls_3_1_1, ↓ev_calls_3_2_1, ↓ev_calls_3_3_1, ↓ev_calls_3_4_1, ↓ev_zret, Nat.reduceAdd]
  have e : h (.inr 8) 320 = nI (mn S) := (hS 320 (by decide)).trans hw.m2
  try simp (disch := omega) only [pk_mul, nI_add, n_lt0, n_le0, n_eq0, n_ge0, n_gt0, n_lt, n_le, n_eq, n_in, n_div, n_rem, n_rem2, n_m1, nI_clamp, bz_0, bz_1, tI_0, tI_bz, n4, n16, eq_self, Nat.reduceLT, Nat.reduceLeDiff, Nat.reduceEqDiff, Nat.reduceAdd, Nat.reduceMul, Nat.reduceDiv, Nat.reduceMod, Nat.le_refl, decide_eq_false_iff_not, Classical.not_not, true_and, and_true, false_and, and_false, not_true_eq_false, not_false_eq_true, forall_const, true_implies, false_implies, implies_true, ne_eq, e]
  refine r_in ?_
  rw [dec_iff (okL_in hw.m)]
  exact ⟨tI_b _, hp⟩
theorem sn_in {s : Nat} (hw : WF S) (hs : s < 8) : S (383 + s) = nI 1 ↔ ¬ sn S s = -1 := by
  unfold sn
  constructor
  · intro e
    rw [if_pos e]
    obtain ⟨l, hl, e2⟩ := hw.sn s hs e
    have := hw.m
    rw [e2, n_m1 (by omega)]
    exact id
  · intro z
    refine Decidable.byContradiction (fun e => ?_)
    rw [if_neg e] at z
    exact z rfl
theorem r_isSnap {x : Int32} (hS : RS h S) (hw : WF S) (hp : p (tI (dec (okN x 8 ∧ ¬ sn S x.toNatClampNeg = -1))) h) : mI (Kd sL (d + 2)) 104 [.inr (.inr (.inr 7)), .inl x] h p := by
  refine ke_X4_isSnap ?_
  refine EX.go (Kd_mono _ _) [false, false, false, false, false] 40 0 ?_
  dsimp only [wpc_s, wsl_t, wsl_f, gD_0, gD_s, ↓denB_n, pI_s, pG_s, pU_n, cb_X4_isSnap_0, cb_X4_isSnap_1, cb_X4_isSnap_2, cb_X4_isSnap_3, cb_X4_isSnap_4, ↓ev_iload_n_1, ↓ev_iconst_0, ↓ev_bipush_7, ↓ev_calls_3_0_1, ↓ev_calls_3_1_1, ↓ev_calls_3_2_1, ↓ev_calls_3_3_1, ↓ev_calls_3_4_1, ↓ev_if_eq, ↓ev_aload_n_0, ↓ev_getf_4_0, ↓ev_sipush_383, ↓ev_iadd, ↓ev_iald_o8, ↓ev_iald_o9, ↓ev_iald_o10, ↓ev_iald_o11, ↓ev_iald_o12, ↓ev_iald_o13, ↓ev_iald_o14, ↓ev_iald_o15, ↓ev_iald_o16, ↓ev_iconst_1, ↓ev_icmp_ne, ↓ev_goto, ↓ev_zret, Nat.reduceAdd]
  refine r_in ?_
  rw [dec_iff (okN_in (m := 7) (n := 8) rfl (by decide))]
  rw [tI_0, dec_f]
  refine ⟨fun c => ⟨Or.inl rfl, pdf hp (fun z => c z.1)⟩, fun c => ?_⟩
  have c1 : okN x 8 := Classical.not_not.mp c
  obtain ⟨k, hk, rfl⟩ := okN_n c1 (by decide)
  have e : h (.inr 8) (383 + k) = S (383 + k) := hS _ (by omega)
  try simp (disch := omega) only [pk_mul, nI_add, n_lt0, n_le0, n_eq0, n_ge0, n_gt0, n_lt, n_le, n_eq, n_in, n_div, n_rem, n_rem2, n_m1, nI_clamp, bz_0, bz_1, tI_0, tI_bz, n4, n16, eq_self, Nat.reduceLT, Nat.reduceLeDiff, Nat.reduceEqDiff, Nat.reduceAdd, Nat.reduceMul, Nat.reduceDiv, Nat.reduceMod, Nat.le_refl, decide_eq_false_iff_not, Classical.not_not, true_and, and_true, false_and, and_false, not_true_eq_false, not_false_eq_true, forall_const, true_implies, false_implies, implies_true, ne_eq, e]
  rw [nI_clamp (by omega)] at hp
  refine ⟨by omega, fun c2 => pdf hp (fun z => c2 ((sn_in hw hk).mpr z.2)), fun c2 => pdt hp ⟨c1, (sn_in hw hk).mp c2⟩⟩
theorem r_isPlace {x : Int32} (hp : p (tI (dec (okN x 64))) h) : mI (Kd sL (d + 2)) 105 [.inl x] h p := by
  refine ke_X4_isPlace ?_
  refine EX.go (Kd_mono _ _) [false] 40 0 ?_
  dsimp only [wpc_s, wsl_t, wsl_f, gD_0, gD_s, ↓denB_n, pI_s, pG_s, pU_n, cb_X4_isPlace_0, ↓ev_iload_n_0, ↓ev_iconst_0, ↓ev_bipush_63, ↓ev_calls_3_0_1, ↓ev_calls_3_1_1, ↓ev_calls_3_2_1, ↓ev_calls_3_3_1, ↓ev_calls_3_4_1, ↓ev_zret, Nat.reduceAdd]
  refine r_in ?_
  rw [dec_iff (okN_in (m := 63) rfl (by decide))]
  exact ⟨tI_b _, hp⟩
theorem r_isBlock {x : Int32} (hp : p (tI (dec (okN x 16))) h) : mI (Kd sL (d + 2)) 106 [.inl x] h p := by
  refine ke_X4_isBlock ?_
  refine EX.go (Kd_mono _ _) [false] 40 0 ?_
  dsimp only [wpc_s, wsl_t, wsl_f, gD_0, gD_s, ↓denB_n, pI_s, pG_s, pU_n, cb_X4_isBlock_0, ↓ev_iload_n_0, ↓ev_iconst_0, ↓ev_bipush_15, ↓ev_calls_3_0_1, ↓ev_calls_3_1_1, ↓ev_calls_3_2_1, ↓ev_calls_3_3_1, ↓ev_calls_3_4_1, ↓ev_zret, Nat.reduceAdd]
  refine r_in ?_
  rw [dec_iff (okN_in (m := 15) rfl (by decide))]
  exact ⟨tI_b _, hp⟩
theorem r_isByte {x : Int32} (hp : p (tI (dec (okN x 256))) h) : mI (Kd sL (d + 2)) 148 [.inl x] h p := by
  refine ke_X4_isByte ?_
  refine EX.go (Kd_mono _ _) [false] 40 0 ?_
  dsimp only [wpc_s, wsl_t, wsl_f, gD_0, gD_s, ↓denB_n, pI_s, pG_s, pU_n, cb_X4_isByte_0, ↓ev_iload_n_0, ↓ev_iconst_0, ↓ev_sipush_255, ↓ev_calls_3_0_1, ↓ev_calls_3_1_1, ↓ev_calls_3_2_1, ↓ev_calls_3_3_1, ↓ev_calls_3_4_1, ↓ev_zret, Nat.reduceAdd]
  refine r_in ?_
  rw [dec_iff (okN_in (m := 255) rfl (by decide))]
  exact ⟨tI_b _, hp⟩
theorem r_isCluster {x : Int32} (hp : p (tI (dec (0 < x ∧ x < nI 64))) h) : mI (Kd sL (d + 2)) 107 [.inl x] h p := by
  refine ke_X4_isCluster ?_
  refine EX.go (Kd_mono _ _) [false] 40 0 ?_
  dsimp only [wpc_s, wsl_t, wsl_f, gD_0, gD_s, ↓denB_n, pI_s, pG_s, pU_n, cb_X4_isCluster_0, ↓ev_iload_n_0, ↓ev_iconst_1, ↓ev_bipush_63, ↓ev_calls_3_0_1, ↓ev_calls_3_1_1, ↓ev_calls_3_2_1, ↓ev_calls_3_3_1, ↓ev_calls_3_4_1, ↓ev_zret, Nat.reduceAdd]
  refine r_in ?_
  rw [dec_iff clu_in]
  exact ⟨tI_b _, hp⟩
theorem r_dir {a b : Nat} (hp : p (nI (327 + 4 * a + b)) h) : mI (Kd sL (d + 1)) 108 [.inl (nI a), .inl (nI b)] h p := by
  refine ke_X4_dir ?_
  refine EX.go (Kd_mono _ _) [false] 40 0 ?_
  dsimp only [wpc_s, wsl_t, wsl_f, gD_0, gD_s, ↓denB_n, pI_s, pG_s, pU_n, cb_X4_dir_0, ↓ev_sipush_327, ↓ev_iconst_4, ↓ev_iload_n_0, ↓ev_imul, ↓ev_iadd, ↓ev_iload_n_1, ↓ev_iret, Nat.reduceAdd]
  try simp (disch := omega) only [pk_mul, nI_add, n_lt0, n_le0, n_eq0, n_ge0, n_gt0, n_lt, n_le, n_eq, n_in, n_div, n_rem, n_rem2, n_m1, nI_clamp, bz_0, bz_1, tI_0, tI_bz, n4, n16, eq_self, Nat.reduceLT, Nat.reduceLeDiff, Nat.reduceEqDiff, Nat.reduceAdd, Nat.reduceMul, Nat.reduceDiv, Nat.reduceMod, Nat.le_refl, decide_eq_false_iff_not, Classical.not_not, true_and, and_true, false_and, and_false, not_true_eq_false, not_false_eq_true, forall_const, true_implies, false_implies, implies_true, ne_eq]
  exact hp
theorem r_dataOf {dd b : Nat} (hS : RS h S) (hw : WF S) (hd : dd < 14) (hb : b < 16) (hq : prs S dd = true) (hp : p (nI (dof S dd b)) h) : mI (Kd sL (d + 2)) 109 [.inr (.inr (.inr 7)), .inl (nI dd), .inl (nI b)] h p := by
  refine ke_X4_dataOf ?_
  refine EX.go (Kd_mono _ _) [false, false, false, false] 40 0 ?_
  dsimp only [wpc_s, wsl_t, wsl_f, gD_0, gD_s, ↓denB_n, pI_s, pG_s, pU_n, cb_X4_dataOf_0, cb_X4_dataOf_1, cb_X4_dataOf_2, cb_X4_dataOf_3, ↓ev_aload_n_0, ↓ev_getf_4_0, ↓ev_iload_n_1, ↓ev_iload_n_2, ↓ev_iconst_4, ↓ev_idiv, ↓ev_calls_2_0_1, ↓ev_calls_2_1_1, ↓ev_calls_2_2_1, ↓ev_calls_2_3_1, ↓ev_calls_2_4_1, ↓ev_iald_o8, ↓ev_iald_o9, ↓ev_iald_o10, ↓ev_iald_o11, ↓ev_iald_o12, ↓ev_iald_o13, ↓ev_iald_o14, ↓ev_iald_o15, ↓ev_iald_o16, ↓ev_istore_n_3, ↓ev_iload_n_3, ↓ev_if_ne, ↓ev_iconst_0, ↓ev_goto, ↓ev_bipush_64, ↓ev_imul, ↓ev_iadd, ↓ev_irem, ↓ev_iret, Nat.reduceAdd]
  try simp (disch := omega) only [pk_mul, nI_add, n_lt0, n_le0, n_eq0, n_ge0, n_gt0, n_lt, n_le, n_eq, n_in, n_div, n_rem, n_rem2, n_m1, nI_clamp, bz_0, bz_1, tI_0, tI_bz, n4, n16, eq_self, Nat.reduceLT, Nat.reduceLeDiff, Nat.reduceEqDiff, Nat.reduceAdd, Nat.reduceMul, Nat.reduceDiv, Nat.reduceMod, Nat.le_refl, decide_eq_false_iff_not, Classical.not_not, true_and, and_true, false_and, and_false, not_true_eq_false, not_false_eq_true, forall_const, true_implies, false_implies, implies_true, ne_eq]
  refine r_dir ?_
  have hl := tb_lt S dd (b / 4)
  have e : h (.inr 8) (327 + 4 * dd + b / 4) = nI (tb S dd (b / 4)) := by rw [hS _ (by omega), hw.dr hd (by omega) hq]
  have e2 : h (.inr 8) (64 + 4 * tb S dd (b / 4) + b % 4) = nI (dof S dd b) := by rw [hS _ (by omega), hw.cd (tbn hd (by omega)) (by omega)]; rfl
  try simp (disch := omega) only [pk_mul, nI_add, n_lt0, n_le0, n_eq0, n_ge0, n_gt0, n_lt, n_le, n_eq, n_in, n_div, n_rem, n_rem2, n_m1, nI_clamp, bz_0, bz_1, tI_0, tI_bz, n4, n16, eq_self, Nat.reduceLT, Nat.reduceLeDiff, Nat.reduceEqDiff, Nat.reduceAdd, Nat.reduceMul, Nat.reduceDiv, Nat.reduceMod, Nat.le_refl, decide_eq_false_iff_not, Classical.not_not, true_and, and_true, false_and, and_false, not_true_eq_false, not_false_eq_true, forall_const, true_implies, false_implies, implies_true, ne_eq, e, e2]
  refine ⟨by omega, fun c => ⟨by omega, hp⟩, fun c => ?_⟩
  have : dof S dd b = 0 := by unfold dof; rw [c, dt_0]
  rwa [this] at hp
theorem r_readBy {dd pl : Nat} {x : Int32} (hS : RS h S) (hw : WF S) (hd : dd < 14) (hpl : pl < 64) (hq : prs S dd = true) (hx : x = -1 ∨ ∃ b, b < mn S ∧ x = nI b) (hp : p (if dof S dd (pl / 4) = 0 then rdf S 6 x pl else S (64 + (4 * dof S dd (pl / 4) + pl % 4))) h) : mI (Kd sL (d + 3)) 110 [.inr (.inr (.inr 7)), .inl (nI dd), .inl x, .inl (nI pl)] h p := by
  refine ke_X4_readBy ?_
  refine EX.go (Kd_mono _ _) [false, true, false, false, false, false] 40 0 ?_
  dsimp only [wpc_s, wsl_t, wsl_f, gD_0, gD_s, ↓denB_n, pI_s, pG_s, pU_n, cb_X4_readBy_0, cb_X4_readBy_1, cb_X4_readBy_2, cb_X4_readBy_3, cb_X4_readBy_4, cb_X4_readBy_5, ↓ev_iload_n_1, ↓ev_istore_4, ↓ev_iload_n_2, ↓ev_istore_5, ↓ev_aload_n_0, ↓ev_iload_4, ↓ev_iload_n_3, ↓ev_iconst_4, ↓ev_idiv, ↓ev_callv_3_0_1, ↓ev_callv_3_1_1, ↓ev_callv_3_2_1, ↓ev_callv_3_3_1, ↓ev_callv_3_4_1, ↓ev_callv_3_5_1, ↓ev_if_ne, ↓ev_iload_5, ↓ev_iconst_m1, ↓ev_icmp_ne, ↓ev_iconst_0, ↓ev_iret, ↓ev_getf_4_0, ↓ev_sipush_321, ↓ev_iadd, ↓ev_iald_o8, ↓ev_iald_o9, ↓ev_iald_o10, ↓ev_iald_o11, ↓ev_iald_o12, ↓ev_iald_o13, ↓ev_iald_o14, ↓ev_iald_o15, ↓ev_iald_o16, ↓ev_goto, ↓ev_bipush_64, ↓ev_imul, ↓ev_irem, Nat.reduceAdd]
  obtain ⟨r, hr6, hr⟩ := ac_r hw
  have hm6 := hw.m
  suffices H : ∀ (f a : Nat) (y : Int32), a < 14 → prs S a = true → (y = -1 ∨ ∃ b, b < mn S ∧ y = nI b ∧ r b < f) → p (if dof S a (pl / 4) = 0 then rdf S 6 y pl else S (64 + (4 * dof S a (pl / 4) + pl % 4))) h → EX (Kd sL (d + 2)) sL md_X4_readBy (pI p) 1 [some (.inr (.inr (.inr 7))), some (.inl (nI dd)), some (.inl x), some (.inl (nI pl)), some (.inl (nI a)), some (.inl y)] [] h by
    refine H 6 dd x hd hq ?_ hp
    rcases hx with e | ⟨b, hb, e⟩
    · exact Or.inl e
    · exact Or.inr ⟨b, hb, e, hr6 b hb⟩
  intro f
  induction f with
  | zero =>
    intro a y ha hqa hy hp
    have hy1 := hy.resolve_right (fun ⟨b, _, _, z⟩ => absurd z (Nat.not_lt_zero _))
    subst hy1
    have hdl := dof_lt S a (pl / 4)
    refine EX.go (Kd_mono _ _) [false, true, false, false, false, false] 40 1 ?_
    dsimp only [wpc_s, wsl_t, wsl_f, gD_0, gD_s, ↓denB_n, pI_s, pG_s, pU_n, cb_X4_readBy_0, cb_X4_readBy_1, cb_X4_readBy_2, cb_X4_readBy_3, cb_X4_readBy_4, cb_X4_readBy_5, ↓ev_iload_n_1, ↓ev_istore_4, ↓ev_iload_n_2, ↓ev_istore_5, ↓ev_aload_n_0, ↓ev_iload_4, ↓ev_iload_n_3, ↓ev_iconst_4, ↓ev_idiv, ↓ev_callv_3_0_1, ↓ev_callv_3_1_1, ↓ev_callv_3_2_1, ↓ev_callv_3_3_1, ↓ev_callv_3_4_1, ↓ev_callv_3_5_1, ↓ev_if_ne, ↓ev_iload_5, ↓ev_iconst_m1, ↓ev_icmp_ne, ↓ev_iconst_0, ↓ev_iret, ↓ev_getf_4_0, ↓ev_sipush_321, ↓ev_iadd, ↓ev_iald_o8, ↓ev_iald_o9, ↓ev_iald_o10, ↓ev_iald_o11, ↓ev_iald_o12, ↓ev_iald_o13, ↓ev_iald_o14, ↓ev_iald_o15, ↓ev_iald_o16, ↓ev_goto, ↓ev_bipush_64, ↓ev_imul, ↓ev_irem, Nat.reduceAdd]
    try simp (disch := omega) only [pk_mul, nI_add, n_lt0, n_le0, n_eq0, n_ge0, n_gt0, n_lt, n_le, n_eq, n_in, n_div, n_rem, n_rem2, n_m1, nI_clamp, bz_0, bz_1, tI_0, tI_bz, n4, n16, eq_self, Nat.reduceLT, Nat.reduceLeDiff, Nat.reduceEqDiff, Nat.reduceAdd, Nat.reduceMul, Nat.reduceDiv, Nat.reduceMod, Nat.le_refl, decide_eq_false_iff_not, Classical.not_not, true_and, and_true, false_and, and_false, not_true_eq_false, not_false_eq_true, forall_const, true_implies, false_implies, implies_true, ne_eq]
    refine r_dataOf hS hw ha (by omega) hqa ?_
    try simp (disch := omega) only [pk_mul, nI_add, n_lt0, n_le0, n_eq0, n_ge0, n_gt0, n_lt, n_le, n_eq, n_in, n_div, n_rem, n_rem2, n_m1, nI_clamp, bz_0, bz_1, tI_0, tI_bz, n4, n16, eq_self, Nat.reduceLT, Nat.reduceLeDiff, Nat.reduceEqDiff, Nat.reduceAdd, Nat.reduceMul, Nat.reduceDiv, Nat.reduceMod, Nat.le_refl, decide_eq_false_iff_not, Classical.not_not, true_and, and_true, false_and, and_false, not_true_eq_false, not_false_eq_true, forall_const, true_implies, false_implies, implies_true, ne_eq]
    refine ⟨fun c => ?_, fun c => ?_⟩
    · refine r_dataOf hS hw ha (by omega) hqa ?_
      have e2 : h (.inr 8) (64 + 4 * dof S a (pl / 4) + pl % 4) = S (64 + (4 * dof S a (pl / 4) + pl % 4)) := by rw [hS _ (by omega), Nat.add_assoc]
      try simp (disch := omega) only [pk_mul, nI_add, n_lt0, n_le0, n_eq0, n_ge0, n_gt0, n_lt, n_le, n_eq, n_in, n_div, n_rem, n_rem2, n_m1, nI_clamp, bz_0, bz_1, tI_0, tI_bz, n4, n16, eq_self, Nat.reduceLT, Nat.reduceLeDiff, Nat.reduceEqDiff, Nat.reduceAdd, Nat.reduceMul, Nat.reduceDiv, Nat.reduceMod, Nat.le_refl, decide_eq_false_iff_not, Classical.not_not, true_and, and_true, false_and, and_false, not_true_eq_false, not_false_eq_true, forall_const, true_implies, false_implies, implies_true, ne_eq, e2]
      rw [if_neg c] at hp
      exact ⟨by omega, hp⟩
    · rw [if_pos c, rdf_m1] at hp
      exact hp
  | succ f ih =>
    intro a y ha hqa hy hp
    have hdl := dof_lt S a (pl / 4)
    refine EX.go (Kd_mono _ _) [false, true, false, false, false, false] 40 1 ?_
    dsimp only [wpc_s, wsl_t, wsl_f, gD_0, gD_s, ↓denB_n, pI_s, pG_s, pU_n, cb_X4_readBy_0, cb_X4_readBy_1, cb_X4_readBy_2, cb_X4_readBy_3, cb_X4_readBy_4, cb_X4_readBy_5, ↓ev_iload_n_1, ↓ev_istore_4, ↓ev_iload_n_2, ↓ev_istore_5, ↓ev_aload_n_0, ↓ev_iload_4, ↓ev_iload_n_3, ↓ev_iconst_4, ↓ev_idiv, ↓ev_callv_3_0_1, ↓ev_callv_3_1_1, ↓ev_callv_3_2_1, ↓ev_callv_3_3_1, ↓ev_callv_3_4_1, ↓ev_callv_3_5_1, ↓ev_if_ne, ↓ev_iload_5, ↓ev_iconst_m1, ↓ev_icmp_ne, ↓ev_iconst_0, ↓ev_iret, ↓ev_getf_4_0, ↓ev_sipush_321, ↓ev_iadd, ↓ev_iald_o8, ↓ev_iald_o9, ↓ev_iald_o10, ↓ev_iald_o11, ↓ev_iald_o12, ↓ev_iald_o13, ↓ev_iald_o14, ↓ev_iald_o15, ↓ev_iald_o16, ↓ev_goto, ↓ev_bipush_64, ↓ev_imul, ↓ev_irem, Nat.reduceAdd]
    try simp (disch := omega) only [pk_mul, nI_add, n_lt0, n_le0, n_eq0, n_ge0, n_gt0, n_lt, n_le, n_eq, n_in, n_div, n_rem, n_rem2, n_m1, nI_clamp, bz_0, bz_1, tI_0, tI_bz, n4, n16, eq_self, Nat.reduceLT, Nat.reduceLeDiff, Nat.reduceEqDiff, Nat.reduceAdd, Nat.reduceMul, Nat.reduceDiv, Nat.reduceMod, Nat.le_refl, decide_eq_false_iff_not, Classical.not_not, true_and, and_true, false_and, and_false, not_true_eq_false, not_false_eq_true, forall_const, true_implies, false_implies, implies_true, ne_eq]
    refine r_dataOf hS hw ha (by omega) hqa ?_
    try simp (disch := omega) only [pk_mul, nI_add, n_lt0, n_le0, n_eq0, n_ge0, n_gt0, n_lt, n_le, n_eq, n_in, n_div, n_rem, n_rem2, n_m1, nI_clamp, bz_0, bz_1, tI_0, tI_bz, n4, n16, eq_self, Nat.reduceLT, Nat.reduceLeDiff, Nat.reduceEqDiff, Nat.reduceAdd, Nat.reduceMul, Nat.reduceDiv, Nat.reduceMod, Nat.le_refl, decide_eq_false_iff_not, Classical.not_not, true_and, and_true, false_and, and_false, not_true_eq_false, not_false_eq_true, forall_const, true_implies, false_implies, implies_true, ne_eq]
    refine ⟨fun c => ?_, fun c => ⟨fun c2 => ?_, fun c2 => ?_⟩⟩
    · refine r_dataOf hS hw ha (by omega) hqa ?_
      have e2 : h (.inr 8) (64 + 4 * dof S a (pl / 4) + pl % 4) = S (64 + (4 * dof S a (pl / 4) + pl % 4)) := by rw [hS _ (by omega), Nat.add_assoc]
      try simp (disch := omega) only [pk_mul, nI_add, n_lt0, n_le0, n_eq0, n_ge0, n_gt0, n_lt, n_le, n_eq, n_in, n_div, n_rem, n_rem2, n_m1, nI_clamp, bz_0, bz_1, tI_0, tI_bz, n4, n16, eq_self, Nat.reduceLT, Nat.reduceLeDiff, Nat.reduceEqDiff, Nat.reduceAdd, Nat.reduceMul, Nat.reduceDiv, Nat.reduceMod, Nat.le_refl, decide_eq_false_iff_not, Classical.not_not, true_and, and_true, false_and, and_false, not_true_eq_false, not_false_eq_true, forall_const, true_implies, false_implies, implies_true, ne_eq, e2]
      rw [if_neg c] at hp
      exact ⟨by omega, hp⟩
    · obtain ⟨b, hb, rfl, hrb⟩ := hy.resolve_left c2
      rw [if_pos c, rdf_fix hw hb] at hp
      have e2 : h (.inr 8) (321 + b) = bk S b := by rw [hS _ (by omega), bk_in hb]
      try simp (disch := omega) only [pk_mul, nI_add, n_lt0, n_le0, n_eq0, n_ge0, n_gt0, n_lt, n_le, n_eq, n_in, n_div, n_rem, n_rem2, n_m1, nI_clamp, bz_0, bz_1, tI_0, tI_bz, n4, n16, eq_self, Nat.reduceLT, Nat.reduceLeDiff, Nat.reduceEqDiff, Nat.reduceAdd, Nat.reduceMul, Nat.reduceDiv, Nat.reduceMod, Nat.le_refl, decide_eq_false_iff_not, Classical.not_not, true_and, and_true, false_and, and_false, not_true_eq_false, not_false_eq_true, forall_const, true_implies, false_implies, implies_true, ne_eq, e2]
      refine ⟨by omega, ih b (bk S b) (by omega) (prs_lay hb (by omega)) ?_ hp⟩
      rcases wf_bk hw hb with z | ⟨b2, hb2, z⟩
      · exact Or.inl z
      · refine Or.inr ⟨b2, hb2, z, ?_⟩
        have := hr b b2 hb hb2 (by rw [← bk_in hb]; exact z)
        omega
    · rw [if_pos c, c2, rdf_m1] at hp
      exact hp
theorem r_readOf {l pl : Nat} (hS : RS h S) (hw : WF S) (hl : l < mn S) (hpl : pl < 64) (hp : p (rdf S 6 (nI l) pl) h) : mI (Kd sL (d + 4)) 111 [.inr (.inr (.inr 7)), .inl (nI l), .inl (nI pl)] h p := by
  have hm6 := hw.m
  refine ke_X4_readOf ?_
  refine EX.go (Kd_mono _ _) [false] 40 0 ?_
  dsimp only [wpc_s, wsl_t, wsl_f, gD_0, gD_s, ↓denB_n, pI_s, pG_s, pU_n, cb_X4_readOf_0, ↓ev_aload_n_0, ↓ev_iload_n_1, ↓ev_getf_4_0, ↓ev_sipush_321, ↓ev_iadd, ↓ev_iald_o8, ↓ev_iald_o9, ↓ev_iald_o10, ↓ev_iald_o11, ↓ev_iald_o12, ↓ev_iald_o13, ↓ev_iald_o14, ↓ev_iald_o15, ↓ev_iald_o16, ↓ev_iload_n_2, ↓ev_callv_4_0_1, ↓ev_callv_4_1_1, ↓ev_callv_4_2_1, ↓ev_callv_4_3_1, ↓ev_callv_4_4_1, ↓ev_iret, Nat.reduceAdd]
  have e2 : h (.inr 8) (321 + l) = bk S l := by rw [hS _ (by omega), bk_in hl]
  try simp (disch := omega) only [pk_mul, nI_add, n_lt0, n_le0, n_eq0, n_ge0, n_gt0, n_lt, n_le, n_eq, n_in, n_div, n_rem, n_rem2, n_m1, nI_clamp, bz_0, bz_1, tI_0, tI_bz, n4, n16, eq_self, Nat.reduceLT, Nat.reduceLeDiff, Nat.reduceEqDiff, Nat.reduceAdd, Nat.reduceMul, Nat.reduceDiv, Nat.reduceMod, Nat.le_refl, decide_eq_false_iff_not, Classical.not_not, true_and, and_true, false_and, and_false, not_true_eq_false, not_false_eq_true, forall_const, true_implies, false_implies, implies_true, ne_eq, e2]
  refine ⟨by omega, r_readBy hS hw (by omega) hpl (prs_lay hl (by omega)) (wf_bk hw hl) ?_⟩
  rw [← rdf_fix hw hl]
  exact hp
theorem r_standsOn {l : Nat} {x : Int32} (hS : RS h S) (hw : WF S) (hl : l < mn S) (hx : x = -1 ∨ ∃ b, b < mn S ∧ x = nI b) (hp : p (tI (sto S 6 x (nI l))) h) : mI (Kd sL (d + 1)) 117 [.inr (.inr (.inr 7)), .inl x, .inl (nI l)] h p := by
  refine ke_X4_standsOn ?_
  refine EX.go (Kd_mono _ _) [false, true, false, false, false, false, false, false] 40 0 ?_
  dsimp only [wpc_s, wsl_t, wsl_f, gD_0, gD_s, ↓denB_n, pI_s, pG_s, pU_n, cb_X4_standsOn_0, cb_X4_standsOn_1, cb_X4_standsOn_2, cb_X4_standsOn_3, cb_X4_standsOn_4, cb_X4_standsOn_5, cb_X4_standsOn_6, cb_X4_standsOn_7, ↓ev_iload_n_1, ↓ev_istore_n_3, ↓ev_iload_n_3, ↓ev_iconst_m1, ↓ev_icmp_eq, ↓ev_iload_n_2, ↓ev_aload_n_0, ↓ev_getf_4_0, ↓ev_sipush_321, ↓ev_iadd, ↓ev_iald_o8, ↓ev_iald_o9, ↓ev_iald_o10, ↓ev_iald_o11, ↓ev_iald_o12, ↓ev_iald_o13, ↓ev_iald_o14, ↓ev_iald_o15, ↓ev_iald_o16, ↓ev_goto, ↓ev_icmp_ne, ↓ev_iconst_1, ↓ev_iconst_0, ↓ev_zret, Nat.reduceAdd]
  obtain ⟨r, hr6, hr⟩ := ac_r hw
  have hm6 := hw.m
  suffices H : ∀ (f : Nat) (y : Int32), (y = -1 ∨ ∃ b, b < mn S ∧ y = nI b ∧ r b < f) → p (tI (sto S 6 y (nI l))) h → EX (Kd sL d) sL md_X4_standsOn (pI p) 1 [some (.inr (.inr (.inr 7))), some (.inl x), some (.inl (nI l)), some (.inl y)] [] h by
    refine H 6 x ?_ hp
    rcases hx with e | ⟨b, hb, e⟩
    · exact Or.inl e
    · exact Or.inr ⟨b, hb, e, hr6 b hb⟩
  have hm1 : ¬ (-1 : Int32) = nI l := fun z => by
    have := n_m1 (show l < 2 ^ 31 by omega)
    rw [← z] at this
    exact this.mp rfl
  intro f
  induction f with
  | zero =>
    intro y hy hp
    have hy1 := hy.resolve_right (fun ⟨b, _, _, z⟩ => absurd z (Nat.not_lt_zero _))
    subst hy1
    rw [sto_m1] at hp
    refine EX.go (Kd_mono _ _) [false, true, false, false, false, false, false, false] 40 1 ?_
    dsimp only [wpc_s, wsl_t, wsl_f, gD_0, gD_s, ↓denB_n, pI_s, pG_s, pU_n, cb_X4_standsOn_0, cb_X4_standsOn_1, cb_X4_standsOn_2, cb_X4_standsOn_3, cb_X4_standsOn_4, cb_X4_standsOn_5, cb_X4_standsOn_6, cb_X4_standsOn_7, ↓ev_iload_n_1, ↓ev_istore_n_3, ↓ev_iload_n_3, ↓ev_iconst_m1, ↓ev_icmp_eq, ↓ev_iload_n_2, ↓ev_aload_n_0, ↓ev_getf_4_0, ↓ev_sipush_321, ↓ev_iadd, ↓ev_iald_o8, ↓ev_iald_o9, ↓ev_iald_o10, ↓ev_iald_o11, ↓ev_iald_o12, ↓ev_iald_o13, ↓ev_iald_o14, ↓ev_iald_o15, ↓ev_iald_o16, ↓ev_goto, ↓ev_icmp_ne, ↓ev_iconst_1, ↓ev_iconst_0, ↓ev_zret, Nat.reduceAdd]
    refine ⟨fun _ => ⟨fun _ => ⟨Or.inl rfl, hp⟩, fun c => absurd c hm1⟩, fun c => absurd rfl c⟩
  | succ f ih =>
    intro y hy hp
    refine EX.go (Kd_mono _ _) [false, true, false, false, false, false, false, false] 40 1 ?_
    dsimp only [wpc_s, wsl_t, wsl_f, gD_0, gD_s, ↓denB_n, pI_s, pG_s, pU_n, cb_X4_standsOn_0, cb_X4_standsOn_1, cb_X4_standsOn_2, cb_X4_standsOn_3, cb_X4_standsOn_4, cb_X4_standsOn_5, cb_X4_standsOn_6, cb_X4_standsOn_7, ↓ev_iload_n_1, ↓ev_istore_n_3, ↓ev_iload_n_3, ↓ev_iconst_m1, ↓ev_icmp_eq, ↓ev_iload_n_2, ↓ev_aload_n_0, ↓ev_getf_4_0, ↓ev_sipush_321, ↓ev_iadd, ↓ev_iald_o8, ↓ev_iald_o9, ↓ev_iald_o10, ↓ev_iald_o11, ↓ev_iald_o12, ↓ev_iald_o13, ↓ev_iald_o14, ↓ev_iald_o15, ↓ev_iald_o16, ↓ev_goto, ↓ev_icmp_ne, ↓ev_iconst_1, ↓ev_iconst_0, ↓ev_zret, Nat.reduceAdd]
    refine ⟨fun c => ?_, fun c => ⟨fun c2 => ⟨fun c3 => absurd c2 c3, fun _ => ?_⟩, fun c2 => ?_⟩⟩
    · subst c
      rw [sto_m1] at hp
      exact ⟨fun _ => ⟨Or.inl rfl, hp⟩, fun c => absurd c hm1⟩
    · obtain ⟨b, hb, rfl, hrb⟩ := hy.resolve_left c
      rw [sto_fix hw hb, if_pos c2] at hp
      exact ⟨Or.inr rfl, hp⟩
    · obtain ⟨b, hb, rfl, hrb⟩ := hy.resolve_left c
      rw [sto_fix hw hb, if_neg c2] at hp
      have e2 : h (.inr 8) (321 + b) = bk S b := by rw [hS _ (by omega), bk_in hb]
      try simp (disch := omega) only [pk_mul, nI_add, n_lt0, n_le0, n_eq0, n_ge0, n_gt0, n_lt, n_le, n_eq, n_in, n_div, n_rem, n_rem2, n_m1, nI_clamp, bz_0, bz_1, tI_0, tI_bz, n4, n16, eq_self, Nat.reduceLT, Nat.reduceLeDiff, Nat.reduceEqDiff, Nat.reduceAdd, Nat.reduceMul, Nat.reduceDiv, Nat.reduceMod, Nat.le_refl, decide_eq_false_iff_not, Classical.not_not, true_and, and_true, false_and, and_false, not_true_eq_false, not_false_eq_true, forall_const, true_implies, false_implies, implies_true, ne_eq, e2]
      refine ⟨by omega, ih (bk S b) ?_ hp⟩
      rcases wf_bk hw hb with z | ⟨b2, hb2, z⟩
      · exact Or.inl z
      · refine Or.inr ⟨b2, hb2, z, ?_⟩
        have := hr b b2 hb hb2 (by rw [← bk_in hb]; exact z)
        omega
theorem r_isNamedBy {dd : Nat} (hS : RS h S) (hw : WF S) (hd : dd < 14) (hp : p (tI (prs S dd)) h) : mI (Kd sL (d + 1)) 118 [.inr (.inr (.inr 7)), .inl (nI dd)] h p := by
  have hm6 := hw.m
  refine ke_X4_isNamedBy ?_
  refine EX.go (Kd_mono _ _) [false, false, false, false, false, false, false, false] 40 0 ?_
  dsimp only [wpc_s, wsl_t, wsl_f, gD_0, gD_s, ↓denB_n, pI_s, pG_s, pU_n, cb_X4_isNamedBy_0, cb_X4_isNamedBy_1, cb_X4_isNamedBy_2, cb_X4_isNamedBy_3, cb_X4_isNamedBy_4, cb_X4_isNamedBy_5, cb_X4_isNamedBy_6, cb_X4_isNamedBy_7, ↓ev_iload_n_1, ↓ev_bipush_6, ↓ev_icmp_ge, ↓ev_aload_n_0, ↓ev_getf_4_0, ↓ev_sipush_320, ↓ev_iald_o8, ↓ev_iald_o9, ↓ev_iald_o10, ↓ev_iald_o11, ↓ev_iald_o12, ↓ev_iald_o13, ↓ev_iald_o14, ↓ev_iald_o15, ↓ev_iald_o16, ↓ev_iconst_1, ↓ev_goto, ↓ev_iconst_0, ↓ev_sipush_383, ↓ev_iadd, ↓ev_isub, ↓ev_icmp_ne, ↓ev_zret, Nat.reduceAdd]
  have e : h (.inr 8) 320 = nI (mn S) := (hS 320 (by decide)).trans hw.m2
  unfold prs at hp
  try simp (disch := omega) only [pk_mul, nI_add, n_lt0, n_le0, n_eq0, n_ge0, n_gt0, n_lt, n_le, n_eq, n_in, n_div, n_rem, n_rem2, n_m1, nI_clamp, bz_0, bz_1, tI_0, tI_bz, n4, n16, eq_self, Nat.reduceLT, Nat.reduceLeDiff, Nat.reduceEqDiff, Nat.reduceAdd, Nat.reduceMul, Nat.reduceDiv, Nat.reduceMod, Nat.le_refl, decide_eq_false_iff_not, Classical.not_not, true_and, and_true, false_and, and_false, not_true_eq_false, not_false_eq_true, forall_const, true_implies, false_implies, implies_true, ne_eq, e]
  refine ⟨fun c => ?_, fun c => ?_⟩
  · rw [if_neg (by omega)] at hp
    have e2 : nI (383 + dd) - nI 6 = nI (377 + dd) := by rw [n_sub (by omega)]; congr 1; omega
    have e3 : h (.inr 8) (377 + dd) = S (377 + dd) := hS _ (by omega)
    try simp (disch := omega) only [pk_mul, nI_add, n_lt0, n_le0, n_eq0, n_ge0, n_gt0, n_lt, n_le, n_eq, n_in, n_div, n_rem, n_rem2, n_m1, nI_clamp, bz_0, bz_1, tI_0, tI_bz, n4, n16, eq_self, Nat.reduceLT, Nat.reduceLeDiff, Nat.reduceEqDiff, Nat.reduceAdd, Nat.reduceMul, Nat.reduceDiv, Nat.reduceMod, Nat.le_refl, decide_eq_false_iff_not, Classical.not_not, true_and, and_true, false_and, and_false, not_true_eq_false, not_false_eq_true, forall_const, true_implies, false_implies, implies_true, ne_eq, e2, e3]
    exact ⟨by omega, fun c2 => pf hp c2, fun c2 => pt hp c2⟩
  · rw [if_pos (by omega)] at hp
    exact ⟨fun c2 => pf hp (by omega), fun c2 => pt hp (by omega)⟩
theorem r_isTable {c : Nat} (hS : RS h S) (hw : WF S) (h1 : 1 ≤ c) (h2 : c < 64) (hp : p (tI (dec (isT S 0 14 c))) h) : mI (Kd sL (d + 2)) 120 [.inr (.inr (.inr 7)), .inl (nI c)] h p := by
  refine ke_X4_isTable ?_
  refine EX.go (Kd_mono _ _) [false, true, false, true, false, false, false, false, false, false, false, false] 40 0 ?_
  dsimp only [wpc_s, wsl_t, wsl_f, gD_0, gD_s, ↓denB_n, pI_s, pG_s, pU_n, cb_X4_isTable_0, cb_X4_isTable_1, cb_X4_isTable_2, cb_X4_isTable_3, cb_X4_isTable_4, cb_X4_isTable_5, cb_X4_isTable_6, cb_X4_isTable_7, cb_X4_isTable_8, cb_X4_isTable_9, cb_X4_isTable_10, cb_X4_isTable_11, ↓ev_iconst_0, ↓ev_istore_n_2, ↓ev_istore_n_3, ↓ev_iload_n_3, ↓ev_bipush_14, ↓ev_icmp_ge, ↓ev_istore_4, ↓ev_iload_4, ↓ev_iconst_4, ↓ev_iload_n_2, ↓ev_if_ne, ↓ev_aload_n_0, ↓ev_callv_2_0_1, ↓ev_callv_2_1_1, ↓ev_callv_2_2_1, ↓ev_callv_2_3_1, ↓ev_callv_2_4_1, ↓ev_if_eq, ↓ev_getf_4_0, ↓ev_calls_2_0_1, ↓ev_calls_2_1_1, ↓ev_calls_2_2_1, ↓ev_calls_2_3_1, ↓ev_calls_2_4_1, ↓ev_iald_o8, ↓ev_iald_o9, ↓ev_iald_o10, ↓ev_iald_o11, ↓ev_iald_o12, ↓ev_iald_o13, ↓ev_iald_o14, ↓ev_iald_o15, ↓ev_iald_o16, ↓ev_iload_n_1, ↓ev_icmp_ne, ↓ev_iconst_1, ↓ev_goto, ↓ev_iinc_4_1, ↓ev_iinc_3_1, ↓ev_zret, Nat.reduceAdd]
  suffices H : ∀ (f k : Nat) (o : Option mV), k + f = 14 → EX (Kd sL (d + 1)) sL md_X4_isTable (pI p) 1 [some (.inr (.inr (.inr 7))), some (.inl (nI c)), some (.inl (tI (dec (∃ x j, j < 4 ∧ x < k ∧ tb S x j = c)))), some (.inl (nI k)), o] [] h by
    have := H 14 0 none rfl
    rw [show dec (∃ x j, j < 4 ∧ x < 0 ∧ tb S x j = c) = false by rw [dec_f]; exact fun ⟨_, _, _, z, _⟩ => absurd z (Nat.not_lt_zero _)] at this
    exact this
  intro f
  induction f with
  | zero =>
    intro k o hk
    refine EX.go (Kd_mono _ _) [false, true, false, true, false, false, false, false, false, false, false, false] 40 1 ?_
    dsimp only [wpc_s, wsl_t, wsl_f, gD_0, gD_s, ↓denB_n, pI_s, pG_s, pU_n, cb_X4_isTable_0, cb_X4_isTable_1, cb_X4_isTable_2, cb_X4_isTable_3, cb_X4_isTable_4, cb_X4_isTable_5, cb_X4_isTable_6, cb_X4_isTable_7, cb_X4_isTable_8, cb_X4_isTable_9, cb_X4_isTable_10, cb_X4_isTable_11, ↓ev_iconst_0, ↓ev_istore_n_2, ↓ev_istore_n_3, ↓ev_iload_n_3, ↓ev_bipush_14, ↓ev_icmp_ge, ↓ev_istore_4, ↓ev_iload_4, ↓ev_iconst_4, ↓ev_iload_n_2, ↓ev_if_ne, ↓ev_aload_n_0, ↓ev_callv_2_0_1, ↓ev_callv_2_1_1, ↓ev_callv_2_2_1, ↓ev_callv_2_3_1, ↓ev_callv_2_4_1, ↓ev_if_eq, ↓ev_getf_4_0, ↓ev_calls_2_0_1, ↓ev_calls_2_1_1, ↓ev_calls_2_2_1, ↓ev_calls_2_3_1, ↓ev_calls_2_4_1, ↓ev_iald_o8, ↓ev_iald_o9, ↓ev_iald_o10, ↓ev_iald_o11, ↓ev_iald_o12, ↓ev_iald_o13, ↓ev_iald_o14, ↓ev_iald_o15, ↓ev_iald_o16, ↓ev_iload_n_1, ↓ev_icmp_ne, ↓ev_iconst_1, ↓ev_goto, ↓ev_iinc_4_1, ↓ev_iinc_3_1, ↓ev_zret, Nat.reduceAdd]
    try simp (disch := omega) only [pk_mul, nI_add, n_lt0, n_le0, n_eq0, n_ge0, n_gt0, n_lt, n_le, n_eq, n_in, n_div, n_rem, n_rem2, n_m1, nI_clamp, bz_0, bz_1, tI_0, tI_bz, n4, n16, eq_self, Nat.reduceLT, Nat.reduceLeDiff, Nat.reduceEqDiff, Nat.reduceAdd, Nat.reduceMul, Nat.reduceDiv, Nat.reduceMod, Nat.le_refl, decide_eq_false_iff_not, Classical.not_not, true_and, and_true, false_and, and_false, not_true_eq_false, not_false_eq_true, forall_const, true_implies, false_implies, implies_true, ne_eq]
    refine ⟨fun _ => ?_, fun c2 => absurd (show 14 ≤ k by omega) c2⟩
    rw [dec_iff (show (∃ x j, j < 4 ∧ x < k ∧ tb S x j = c) ↔ isT S 0 14 c from ⟨fun ⟨x, j, a, b, e⟩ => ⟨by omega, x, j, by omega, by omega, a, e⟩, fun ⟨_, x, j, _, a, b, e⟩ => ⟨x, j, b, by omega, e⟩⟩)]
    exact hp
  | succ f ih =>
    intro k o hk
    refine EX.go (Kd_mono _ _) [false, true, false, true, false, false, false, false, false, false, false, false] 40 1 ?_
    dsimp only [wpc_s, wsl_t, wsl_f, gD_0, gD_s, ↓denB_n, pI_s, pG_s, pU_n, cb_X4_isTable_0, cb_X4_isTable_1, cb_X4_isTable_2, cb_X4_isTable_3, cb_X4_isTable_4, cb_X4_isTable_5, cb_X4_isTable_6, cb_X4_isTable_7, cb_X4_isTable_8, cb_X4_isTable_9, cb_X4_isTable_10, cb_X4_isTable_11, ↓ev_iconst_0, ↓ev_istore_n_2, ↓ev_istore_n_3, ↓ev_iload_n_3, ↓ev_bipush_14, ↓ev_icmp_ge, ↓ev_istore_4, ↓ev_iload_4, ↓ev_iconst_4, ↓ev_iload_n_2, ↓ev_if_ne, ↓ev_aload_n_0, ↓ev_callv_2_0_1, ↓ev_callv_2_1_1, ↓ev_callv_2_2_1, ↓ev_callv_2_3_1, ↓ev_callv_2_4_1, ↓ev_if_eq, ↓ev_getf_4_0, ↓ev_calls_2_0_1, ↓ev_calls_2_1_1, ↓ev_calls_2_2_1, ↓ev_calls_2_3_1, ↓ev_calls_2_4_1, ↓ev_iald_o8, ↓ev_iald_o9, ↓ev_iald_o10, ↓ev_iald_o11, ↓ev_iald_o12, ↓ev_iald_o13, ↓ev_iald_o14, ↓ev_iald_o15, ↓ev_iald_o16, ↓ev_iload_n_1, ↓ev_icmp_ne, ↓ev_iconst_1, ↓ev_goto, ↓ev_iinc_4_1, ↓ev_iinc_3_1, ↓ev_zret, Nat.reduceAdd]
    try simp (disch := omega) only [pk_mul, nI_add, n_lt0, n_le0, n_eq0, n_ge0, n_gt0, n_lt, n_le, n_eq, n_in, n_div, n_rem, n_rem2, n_m1, nI_clamp, bz_0, bz_1, tI_0, tI_bz, n4, n16, eq_self, Nat.reduceLT, Nat.reduceLeDiff, Nat.reduceEqDiff, Nat.reduceAdd, Nat.reduceMul, Nat.reduceDiv, Nat.reduceMod, Nat.le_refl, decide_eq_false_iff_not, Classical.not_not, true_and, and_true, false_and, and_false, not_true_eq_false, not_false_eq_true, forall_const, true_implies, false_implies, implies_true, ne_eq]
    refine ⟨fun c2 => absurd c2 (by omega), fun _ => ?_⟩
    suffices H2 : ∀ (f2 k2 : Nat), k2 + f2 = 4 → EX (Kd sL (d + 1)) sL md_X4_isTable (pI p) 3 [some (.inr (.inr (.inr 7))), some (.inl (nI c)), some (.inl (tI (dec (∃ x j, j < 4 ∧ (x < k ∨ x = k ∧ j < k2) ∧ tb S x j = c)))), some (.inl (nI k)), some (.inl (nI k2))] [] h by
      have := H2 4 0 rfl
      rw [dec_iff (show (∃ x j, j < 4 ∧ (x < k ∨ x = k ∧ j < 0) ∧ tb S x j = c) ↔ (∃ x j, j < 4 ∧ x < k ∧ tb S x j = c) from ⟨fun ⟨x, j, a, b, e⟩ => ⟨x, j, a, by omega, e⟩, fun ⟨x, j, a, b, e⟩ => ⟨x, j, a, Or.inl b, e⟩⟩)] at this
      exact this
    intro f2
    induction f2 with
    | zero =>
      intro k2 hk2
      refine EX.go (Kd_mono _ _) [false, true, false, true, false, false, false, false, false, false, false, false] 40 3 ?_
      dsimp only [wpc_s, wsl_t, wsl_f, gD_0, gD_s, ↓denB_n, pI_s, pG_s, pU_n, cb_X4_isTable_0, cb_X4_isTable_1, cb_X4_isTable_2, cb_X4_isTable_3, cb_X4_isTable_4, cb_X4_isTable_5, cb_X4_isTable_6, cb_X4_isTable_7, cb_X4_isTable_8, cb_X4_isTable_9, cb_X4_isTable_10, cb_X4_isTable_11, ↓ev_iconst_0, ↓ev_istore_n_2, ↓ev_istore_n_3, ↓ev_iload_n_3, ↓ev_bipush_14, ↓ev_icmp_ge, ↓ev_istore_4, ↓ev_iload_4, ↓ev_iconst_4, ↓ev_iload_n_2, ↓ev_if_ne, ↓ev_aload_n_0, ↓ev_callv_2_0_1, ↓ev_callv_2_1_1, ↓ev_callv_2_2_1, ↓ev_callv_2_3_1, ↓ev_callv_2_4_1, ↓ev_if_eq, ↓ev_getf_4_0, ↓ev_calls_2_0_1, ↓ev_calls_2_1_1, ↓ev_calls_2_2_1, ↓ev_calls_2_3_1, ↓ev_calls_2_4_1, ↓ev_iald_o8, ↓ev_iald_o9, ↓ev_iald_o10, ↓ev_iald_o11, ↓ev_iald_o12, ↓ev_iald_o13, ↓ev_iald_o14, ↓ev_iald_o15, ↓ev_iald_o16, ↓ev_iload_n_1, ↓ev_icmp_ne, ↓ev_iconst_1, ↓ev_goto, ↓ev_iinc_4_1, ↓ev_iinc_3_1, ↓ev_zret, Nat.reduceAdd]
      try simp (disch := omega) only [pk_mul, nI_add, n_lt0, n_le0, n_eq0, n_ge0, n_gt0, n_lt, n_le, n_eq, n_in, n_div, n_rem, n_rem2, n_m1, nI_clamp, bz_0, bz_1, tI_0, tI_bz, n4, n16, eq_self, Nat.reduceLT, Nat.reduceLeDiff, Nat.reduceEqDiff, Nat.reduceAdd, Nat.reduceMul, Nat.reduceDiv, Nat.reduceMod, Nat.le_refl, decide_eq_false_iff_not, Classical.not_not, true_and, and_true, false_and, and_false, not_true_eq_false, not_false_eq_true, forall_const, true_implies, false_implies, implies_true, ne_eq]
      refine ⟨fun _ => ?_, fun c2 => absurd (show 4 ≤ k2 by omega) c2⟩
      rw [dec_iff (show (∃ x j, j < 4 ∧ (x < k ∨ x = k ∧ j < k2) ∧ tb S x j = c) ↔ (∃ x j, j < 4 ∧ x < k + 1 ∧ tb S x j = c) from ⟨fun ⟨x, j, a, b, e⟩ => ⟨x, j, a, by omega, e⟩, fun ⟨x, j, a, b, e⟩ => ⟨x, j, a, by omega, e⟩⟩)]
      exact ih (k + 1) _ (by omega)
    | succ f2 ih2 =>
      intro k2 hk2
      refine EX.go (Kd_mono _ _) [false, true, false, true, false, false, false, false, false, false, false, false] 40 3 ?_
      dsimp only [wpc_s, wsl_t, wsl_f, gD_0, gD_s, ↓denB_n, pI_s, pG_s, pU_n, cb_X4_isTable_0, cb_X4_isTable_1, cb_X4_isTable_2, cb_X4_isTable_3, cb_X4_isTable_4, cb_X4_isTable_5, cb_X4_isTable_6, cb_X4_isTable_7, cb_X4_isTable_8, cb_X4_isTable_9, cb_X4_isTable_10, cb_X4_isTable_11, ↓ev_iconst_0, ↓ev_istore_n_2, ↓ev_istore_n_3, ↓ev_iload_n_3, ↓ev_bipush_14, ↓ev_icmp_ge, ↓ev_istore_4, ↓ev_iload_4, ↓ev_iconst_4, ↓ev_iload_n_2, ↓ev_if_ne, ↓ev_aload_n_0, ↓ev_callv_2_0_1, ↓ev_callv_2_1_1, ↓ev_callv_2_2_1, ↓ev_callv_2_3_1, ↓ev_callv_2_4_1, ↓ev_if_eq, ↓ev_getf_4_0, ↓ev_calls_2_0_1, ↓ev_calls_2_1_1, ↓ev_calls_2_2_1, ↓ev_calls_2_3_1, ↓ev_calls_2_4_1, ↓ev_iald_o8, ↓ev_iald_o9, ↓ev_iald_o10, ↓ev_iald_o11, ↓ev_iald_o12, ↓ev_iald_o13, ↓ev_iald_o14, ↓ev_iald_o15, ↓ev_iald_o16, ↓ev_iload_n_1, ↓ev_icmp_ne, ↓ev_iconst_1, ↓ev_goto, ↓ev_iinc_4_1, ↓ev_iinc_3_1, ↓ev_zret, Nat.reduceAdd]
      try simp (disch := omega) only [pk_mul, nI_add, n_lt0, n_le0, n_eq0, n_ge0, n_gt0, n_lt, n_le, n_eq, n_in, n_div, n_rem, n_rem2, n_m1, nI_clamp, bz_0, bz_1, tI_0, tI_bz, n4, n16, eq_self, Nat.reduceLT, Nat.reduceLeDiff, Nat.reduceEqDiff, Nat.reduceAdd, Nat.reduceMul, Nat.reduceDiv, Nat.reduceMod, Nat.le_refl, decide_eq_false_iff_not, Classical.not_not, true_and, and_true, false_and, and_false, not_true_eq_false, not_false_eq_true, forall_const, true_implies, false_implies, implies_true, ne_eq]
      refine ⟨fun c2 => absurd c2 (by omega), fun _ => ⟨fun c2 => ?_, fun c2 => ?_⟩⟩
      · have ih3 := ih2 (k2 + 1) (by omega)
        have c3 := Classical.not_not.mp (fun z => c2 (dec_f.mpr z))
        rw [show dec (∃ x j, j < 4 ∧ (x < k ∨ x = k ∧ j < k2 + 1) ∧ tb S x j = c) = true by
          rw [dec_t]
          obtain ⟨x, j, a, b, e⟩ := c3
          exact ⟨x, j, a, by omega, e⟩] at ih3
        exact ih3
      · have ih3 := ih2 (k2 + 1) (by omega)
        rw [dec_f] at c2
        refine r_isNamedBy hS hw (by omega) ?_
        try simp (disch := omega) only [pk_mul, nI_add, n_lt0, n_le0, n_eq0, n_ge0, n_gt0, n_lt, n_le, n_eq, n_in, n_div, n_rem, n_rem2, n_m1, nI_clamp, bz_0, bz_1, tI_0, tI_bz, n4, n16, eq_self, Nat.reduceLT, Nat.reduceLeDiff, Nat.reduceEqDiff, Nat.reduceAdd, Nat.reduceMul, Nat.reduceDiv, Nat.reduceMod, Nat.le_refl, decide_eq_false_iff_not, Classical.not_not, true_and, and_true, false_and, and_false, not_true_eq_false, not_false_eq_true, forall_const, true_implies, false_implies, implies_true, ne_eq]
        have key : (tb S k k2 = c) → ∃ x j, j < 4 ∧ (x < k ∨ x = k ∧ j < k2 + 1) ∧ tb S x j = c := fun e => ⟨k, k2, by omega, Or.inr ⟨rfl, by omega⟩, e⟩
        have key2 : ¬ tb S k k2 = c → ¬ ∃ x j, j < 4 ∧ (x < k ∨ x = k ∧ j < k2 + 1) ∧ tb S x j = c := by
          rintro z ⟨x, j, a, b, e⟩
          by_cases q : x = k ∧ j = k2
          · obtain ⟨rfl, rfl⟩ := q; exact z e
          · exact c2 ⟨x, j, a, by omega, e⟩
        refine ⟨fun c3 => ?_, fun c3 => ?_⟩
        · rw [show dec (∃ x j, j < 4 ∧ (x < k ∨ x = k ∧ j < k2 + 1) ∧ tb S x j = c) = false by
            rw [dec_f]
            refine key2 (fun z => ?_)
            unfold tb at z
            rw [c3] at z
            simp only [Bool.false_eq_true, if_false] at z
            omega] at ih3
          exact ih3
        · have c4 : prs S k = true := by simpa using c3
          refine r_dir ?_
          have hl := tb_lt S k k2
          have e : h (.inr 8) (327 + 4 * k + k2) = nI (tb S k k2) := by rw [hS _ (by omega), hw.dr (by omega) (by omega) c4]
          try simp (disch := omega) only [pk_mul, nI_add, n_lt0, n_le0, n_eq0, n_ge0, n_gt0, n_lt, n_le, n_eq, n_in, n_div, n_rem, n_rem2, n_m1, nI_clamp, bz_0, bz_1, tI_0, tI_bz, n4, n16, eq_self, Nat.reduceLT, Nat.reduceLeDiff, Nat.reduceEqDiff, Nat.reduceAdd, Nat.reduceMul, Nat.reduceDiv, Nat.reduceMod, Nat.le_refl, decide_eq_false_iff_not, Classical.not_not, true_and, and_true, false_and, and_false, not_true_eq_false, not_false_eq_true, forall_const, true_implies, false_implies, implies_true, ne_eq, e]
          refine ⟨by omega, fun c5 => ?_, fun c5 => ?_⟩
          · rw [dec_f.mpr (key2 c5)] at ih3
            exact ih3
          · rw [dec_t.mpr (key c5)] at ih3
            exact ih3
end REF
