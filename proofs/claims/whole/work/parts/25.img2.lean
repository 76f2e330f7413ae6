/-! ===== class Image: sets of clusters, repair, copies, chains ===== -/
section IM2
variable {sL d : Nat} {h : mH} {i : Fin 3} {S : St}
theorem fb4_le (f : Nat → Nat) (c : Nat) : fb_sm (fun k => icn (f k) c) 4 ≤ 4 := by
  have := fb_sm_bound (f := fun k => icn (f k) c) (c := 1) (n := 4) (fun k _ => by unfold icn; split <;> omega)
  omega
theorem tru_le (S : St) (c : Nat) : tru S c ≤ 312 := by
  have h1 : rfc S c ≤ 14 * 4 := fb_sm_bound (fun k _ => fb4_le _ _)
  have h2 : nmc S c ≤ 64 * 4 := fb_sm_bound (fun k _ => by
    split
    · exact fb4_le _ _
    · omega)
  unfold tru
  omega
theorem nmc_le (S : St) (c : Nat) : nmc S c ≤ 312 := by
  have := tru_le S c
  unfold tru at this
  omega
theorem lOr_1 {P : Nat → Bool} (h : P 0 = false) : lOr P 1 = lN 0 := by simp [lOr, h]
noncomputable def lackP (S : St) (c : Nat) : Bool := dec (1 ≤ c ∧ S c < nI (tru S c))
noncomputable def leakP (S : St) (c : Nat) : Bool := dec (1 ≤ c ∧ nI (tru S c) < S c)
noncomputable def freeP (S : St) (c : Nat) : Bool := dec (1 ≤ c ∧ S c = 0)
noncomputable def sharP (S : St) (c : Nat) : Bool := dec (1 ≤ c ∧ 1 < nmc S c)
theorem dec0 {q : Prop} : dec (1 ≤ 0 ∧ q) = false := by
  rw [dec_f]
  exact fun z => absurd z.1 (by decide)
theorem k_lackSet {p : Int64 → mH → Prop} (hC : CR h i S) (hp : ∀ h', Oi i h h' → CR h' i S → p (lOr (lackP S) 64) h') : mG (Kd sL (d + 5)) 24 [.inr (.inr (.inl (i, 0)))] h p := by
  refine ke_X0_lackSet ?_
  refine EX.go (Kd_mono _ _) [false, true, false, false, false, false] 40 0 ?_
  dsimp only [wpc_s, wsl_t, wsl_f, gD_0, gD_s, ↓denB_n, pI_s, pG_s, pU_n, cb_X0_lackSet_0, cb_X0_lackSet_1, cb_X0_lackSet_2, cb_X0_lackSet_3, cb_X0_lackSet_4, cb_X0_lackSet_5, ↓ev_aload_n_0, ↓ev_callv_1_0_0, ↓ev_callv_1_1_0, ↓ev_callv_1_2_0, ↓ev_callv_1_3_0, ↓ev_callv_1_4_0, ↓ev_lconst_0, ↓ev_lstore_n_1, ↓ev_iconst_1, ↓ev_istore_n_3, ↓ev_iload_n_3, ↓ev_bipush_64, ↓ev_icmp_ge, ↓ev_getf_0_1, ↓ev_iald_m1, ↓ev_iald_m2, ↓ev_iald_m3, ↓ev_iald_m4, ↓ev_iald_m5, ↓ev_iald_m6, ↓ev_getf_0_7, ↓ev_lload_n_1, ↓ev_lconst_1, ↓ev_lshl, ↓ev_lor, ↓ev_iinc_3_1, ↓ev_goto, ↓ev_lret, Nat.reduceAdd]
  refine k_countTrue hC (fun h1 hO hC hf => ?_)
  suffices H : ∀ (f k : Nat), k + f = 64 → 1 ≤ k → EX (Kd sL (d + 4)) sL md_X0_lackSet (pG p) 1 [some (.inr (.inr (.inl (i, 0)))), some (.inr (.inl (lOr (lackP S) k))), none, some (.inl (nI k))] [] h1 by
    have := H 63 1 (by omega) (Nat.le_refl 1)
    rwa [lOr_1 dec0] at this
  intro f
  induction f with
  | zero =>
    intro k hk h1
    refine EX.go (Kd_mono _ _) [false, true, false, false, false, false] 40 1 ?_
    dsimp only [wpc_s, wsl_t, wsl_f, gD_0, gD_s, ↓denB_n, pI_s, pG_s, pU_n, cb_X0_lackSet_0, cb_X0_lackSet_1, cb_X0_lackSet_2, cb_X0_lackSet_3, cb_X0_lackSet_4, cb_X0_lackSet_5, ↓ev_aload_n_0, ↓ev_callv_1_0_0, ↓ev_callv_1_1_0, ↓ev_callv_1_2_0, ↓ev_callv_1_3_0, ↓ev_callv_1_4_0, ↓ev_lconst_0, ↓ev_lstore_n_1, ↓ev_iconst_1, ↓ev_istore_n_3, ↓ev_iload_n_3, ↓ev_bipush_64, ↓ev_icmp_ge, ↓ev_getf_0_1, ↓ev_iald_m1, ↓ev_iald_m2, ↓ev_iald_m3, ↓ev_iald_m4, ↓ev_iald_m5, ↓ev_iald_m6, ↓ev_getf_0_7, ↓ev_lload_n_1, ↓ev_lconst_1, ↓ev_lshl, ↓ev_lor, ↓ev_iinc_3_1, ↓ev_goto, ↓ev_lret, Nat.reduceAdd]
    try simp (disch := omega) only [pk_mul, nI_add, n_lt0, n_le0, n_eq0, n_ge0, n_gt0, n_lt, n_le, n_eq, n_in, n_div, n_rem, n_rem2, n_m1, nI_clamp, bz_0, bz_1, tI_0, tI_bz, n4, n16, eq_self, Nat.reduceLT, Nat.reduceLeDiff, Nat.reduceEqDiff, Nat.reduceAdd, Nat.reduceMul, Nat.reduceDiv, Nat.reduceMod, Nat.le_refl, decide_eq_false_iff_not, Classical.not_not, true_and, and_true, false_and, and_false, not_true_eq_false, not_false_eq_true, forall_const, true_implies, false_implies, implies_true, ne_eq]
    refine ⟨fun _ => ?_, fun c => absurd (show 64 ≤ k by omega) c⟩
    rw [show k = 64 by omega]
    exact hp _ hO hC
  | succ f ih =>
    intro k hk hk1
    refine EX.go (Kd_mono _ _) [false, true, false, false, false, false] 40 1 ?_
    dsimp only [wpc_s, wsl_t, wsl_f, gD_0, gD_s, ↓denB_n, pI_s, pG_s, pU_n, cb_X0_lackSet_0, cb_X0_lackSet_1, cb_X0_lackSet_2, cb_X0_lackSet_3, cb_X0_lackSet_4, cb_X0_lackSet_5, ↓ev_aload_n_0, ↓ev_callv_1_0_0, ↓ev_callv_1_1_0, ↓ev_callv_1_2_0, ↓ev_callv_1_3_0, ↓ev_callv_1_4_0, ↓ev_lconst_0, ↓ev_lstore_n_1, ↓ev_iconst_1, ↓ev_istore_n_3, ↓ev_iload_n_3, ↓ev_bipush_64, ↓ev_icmp_ge, ↓ev_getf_0_1, ↓ev_iald_m1, ↓ev_iald_m2, ↓ev_iald_m3, ↓ev_iald_m4, ↓ev_iald_m5, ↓ev_iald_m6, ↓ev_getf_0_7, ↓ev_lload_n_1, ↓ev_lconst_1, ↓ev_lshl, ↓ev_lor, ↓ev_iinc_3_1, ↓ev_goto, ↓ev_lret, Nat.reduceAdd]
    have e1 : h1 (.inl (i, 2)) k = S k := hC.2.1 k (by omega)
    have e2 := hf k hk1 (by omega)
    try simp (disch := omega) only [pk_mul, nI_add, n_lt0, n_le0, n_eq0, n_ge0, n_gt0, n_lt, n_le, n_eq, n_in, n_div, n_rem, n_rem2, n_m1, nI_clamp, bz_0, bz_1, tI_0, tI_bz, n4, n16, eq_self, Nat.reduceLT, Nat.reduceLeDiff, Nat.reduceEqDiff, Nat.reduceAdd, Nat.reduceMul, Nat.reduceDiv, Nat.reduceMod, Nat.le_refl, decide_eq_false_iff_not, Classical.not_not, true_and, and_true, false_and, and_false, not_true_eq_false, not_false_eq_true, forall_const, true_implies, false_implies, implies_true, ne_eq, e1, e2]
    have ih2 := ih (k + 1) (by omega) (by omega)
    rw [lOr] at ih2
    refine ⟨fun c => absurd c (by omega), fun _ => ⟨by omega, by omega, fun c => ?_, fun c => ?_⟩⟩
    · rw [if_neg (by rw [Bool.not_eq_true, lackP, dec_f]; exact fun z => Int32.not_lt.mpr c z.2)] at ih2
      exact ih2
    · rw [if_pos (by rw [lackP, dec_t]; exact ⟨hk1, Int32.not_le.mp c⟩)] at ih2
      exact ih2
theorem k_leakSet {p : Int64 → mH → Prop} (hC : CR h i S) (hp : ∀ h', Oi i h h' → CR h' i S → p (lOr (leakP S) 64) h') : mG (Kd sL (d + 5)) 23 [.inr (.inr (.inl (i, 0)))] h p := by
  refine ke_X0_leakSet ?_
  refine EX.go (Kd_mono _ _) [false, true, false, false, false, false] 40 0 ?_
  dsimp only [wpc_s, wsl_t, wsl_f, gD_0, gD_s, ↓denB_n, pI_s, pG_s, pU_n, cb_X0_leakSet_0, cb_X0_leakSet_1, cb_X0_leakSet_2, cb_X0_leakSet_3, cb_X0_leakSet_4, cb_X0_leakSet_5, ↓ev_aload_n_0, ↓ev_callv_1_0_0, ↓ev_callv_1_1_0, ↓ev_callv_1_2_0, ↓ev_callv_1_3_0, ↓ev_callv_1_4_0, ↓ev_lconst_0, ↓ev_lstore_n_1, ↓ev_iconst_1, ↓ev_istore_n_3, ↓ev_iload_n_3, ↓ev_bipush_64, ↓ev_icmp_ge, ↓ev_getf_0_1, ↓ev_iald_m1, ↓ev_iald_m2, ↓ev_iald_m3, ↓ev_iald_m4, ↓ev_iald_m5, ↓ev_iald_m6, ↓ev_getf_0_7, ↓ev_icmp_le, ↓ev_lload_n_1, ↓ev_lconst_1, ↓ev_lshl, ↓ev_lor, ↓ev_iinc_3_1, ↓ev_goto, ↓ev_lret, Nat.reduceAdd]
  refine k_countTrue hC (fun h1 hO hC hf => ?_)
  suffices H : ∀ (f k : Nat), k + f = 64 → 1 ≤ k → EX (Kd sL (d + 4)) sL md_X0_leakSet (pG p) 1 [some (.inr (.inr (.inl (i, 0)))), some (.inr (.inl (lOr (leakP S) k))), none, some (.inl (nI k))] [] h1 by
    have := H 63 1 (by omega) (Nat.le_refl 1)
    rwa [lOr_1 dec0] at this
  intro f
  induction f with
  | zero =>
    intro k hk h1
    refine EX.go (Kd_mono _ _) [false, true, false, false, false, false] 40 1 ?_
    dsimp only [wpc_s, wsl_t, wsl_f, gD_0, gD_s, ↓denB_n, pI_s, pG_s, pU_n, cb_X0_leakSet_0, cb_X0_leakSet_1, cb_X0_leakSet_2, cb_X0_leakSet_3, cb_X0_leakSet_4, cb_X0_leakSet_5, ↓ev_aload_n_0, ↓ev_callv_1_0_0, ↓ev_callv_1_1_0, ↓ev_callv_1_2_0, ↓ev_callv_1_3_0, ↓ev_callv_1_4_0, ↓ev_lconst_0, ↓ev_lstore_n_1, ↓ev_iconst_1, ↓ev_istore_n_3, ↓ev_iload_n_3, ↓ev_bipush_64, ↓ev_icmp_ge, ↓ev_getf_0_1, ↓ev_iald_m1, ↓ev_iald_m2, ↓ev_iald_m3, ↓ev_iald_m4, ↓ev_iald_m5, ↓ev_iald_m6, ↓ev_getf_0_7, ↓ev_icmp_le, ↓ev_lload_n_1, ↓ev_lconst_1, ↓ev_lshl, ↓ev_lor, ↓ev_iinc_3_1, ↓ev_goto, ↓ev_lret, Nat.reduceAdd]
    try simp (disch := omega) only [pk_mul, nI_add, n_lt0, n_le0, n_eq0, n_ge0, n_gt0, n_lt, n_le, n_eq, n_in, n_div, n_rem, n_rem2, n_m1, nI_clamp, bz_0, bz_1, tI_0, tI_bz, n4, n16, eq_self, Nat.reduceLT, Nat.reduceLeDiff, Nat.reduceEqDiff, Nat.reduceAdd, Nat.reduceMul, Nat.reduceDiv, Nat.reduceMod, Nat.le_refl, decide_eq_false_iff_not, Classical.not_not, true_and, and_true, false_and, and_false, not_true_eq_false, not_false_eq_true, forall_const, true_implies, false_implies, implies_true, ne_eq]
    refine ⟨fun _ => ?_, fun c => absurd (show 64 ≤ k by omega) c⟩
    rw [show k = 64 by omega]
    exact hp _ hO hC
  | succ f ih =>
    intro k hk hk1
    refine EX.go (Kd_mono _ _) [false, true, false, false, false, false] 40 1 ?_
    dsimp only [wpc_s, wsl_t, wsl_f, gD_0, gD_s, ↓denB_n, pI_s, pG_s, pU_n, cb_X0_leakSet_0, cb_X0_leakSet_1, cb_X0_leakSet_2, cb_X0_leakSet_3, cb_X0_leakSet_4, cb_X0_leakSet_5, ↓ev_aload_n_0, ↓ev_callv_1_0_0, ↓ev_callv_1_1_0, ↓ev_callv_1_2_0, ↓ev_callv_1_3_0, ↓ev_callv_1_4_0, ↓ev_lconst_0, ↓ev_lstore_n_1, ↓ev_iconst_1, ↓ev_istore_n_3, ↓ev_iload_n_3, ↓ev_bipush_64, ↓ev_icmp_ge, ↓ev_getf_0_1, ↓ev_iald_m1, ↓ev_iald_m2, ↓ev_iald_m3, ↓ev_iald_m4, ↓ev_iald_m5, ↓ev_iald_m6, ↓ev_getf_0_7, ↓ev_icmp_le, ↓ev_lload_n_1, ↓ev_lconst_1, ↓ev_lshl, ↓ev_lor, ↓ev_iinc_3_1, ↓ev_goto, ↓ev_lret, Nat.reduceAdd]
    have e1 : h1 (.inl (i, 2)) k = S k := hC.2.1 k (by omega)
    have e2 := hf k hk1 (by omega)
    try simp (disch := omega) only [pk_mul, nI_add, n_lt0, n_le0, n_eq0, n_ge0, n_gt0, n_lt, n_le, n_eq, n_in, n_div, n_rem, n_rem2, n_m1, nI_clamp, bz_0, bz_1, tI_0, tI_bz, n4, n16, eq_self, Nat.reduceLT, Nat.reduceLeDiff, Nat.reduceEqDiff, Nat.reduceAdd, Nat.reduceMul, Nat.reduceDiv, Nat.reduceMod, Nat.le_refl, decide_eq_false_iff_not, Classical.not_not, true_and, and_true, false_and, and_false, not_true_eq_false, not_false_eq_true, forall_const, true_implies, false_implies, implies_true, ne_eq, e1, e2]
    have ih2 := ih (k + 1) (by omega) (by omega)
    rw [lOr] at ih2
    refine ⟨fun c => absurd c (by omega), fun _ => ⟨by omega, by omega, fun c => ?_, fun c => ?_⟩⟩
    · rw [if_neg (by rw [Bool.not_eq_true, leakP, dec_f]; exact fun z => Int32.not_lt.mpr c z.2)] at ih2
      exact ih2
    · rw [if_pos (by rw [leakP, dec_t]; exact ⟨hk1, Int32.not_le.mp c⟩)] at ih2
      exact ih2
theorem k_freeSet {p : Int64 → mH → Prop} (hC : CR h i S) (hp : p (lOr (freeP S) 64) h) : mG (Kd sL (d + 1)) 25 [.inr (.inr (.inl (i, 0)))] h p := by
  refine ke_X0_freeSet ?_
  refine EX.go (Kd_mono _ _) [false, true, false, false, false, false] 40 0 ?_
  dsimp only [wpc_s, wsl_t, wsl_f, gD_0, gD_s, ↓denB_n, pI_s, pG_s, pU_n, cb_X0_freeSet_0, cb_X0_freeSet_1, cb_X0_freeSet_2, cb_X0_freeSet_3, cb_X0_freeSet_4, cb_X0_freeSet_5, ↓ev_lconst_0, ↓ev_lstore_n_1, ↓ev_iconst_1, ↓ev_istore_n_3, ↓ev_iload_n_3, ↓ev_bipush_64, ↓ev_icmp_ge, ↓ev_aload_n_0, ↓ev_getf_0_1, ↓ev_iald_m1, ↓ev_iald_m2, ↓ev_iald_m3, ↓ev_iald_m4, ↓ev_iald_m5, ↓ev_iald_m6, ↓ev_if_ne, ↓ev_lload_n_1, ↓ev_lconst_1, ↓ev_lshl, ↓ev_lor, ↓ev_iinc_3_1, ↓ev_goto, ↓ev_lret, Nat.reduceAdd]
  suffices H : ∀ (f k : Nat), k + f = 64 → 1 ≤ k → EX (Kd sL d) sL md_X0_freeSet (pG p) 1 [some (.inr (.inr (.inl (i, 0)))), some (.inr (.inl (lOr (freeP S) k))), none, some (.inl (nI k))] [] h by
    have := H 63 1 (by omega) (Nat.le_refl 1)
    rwa [lOr_1 dec0] at this
  intro f
  induction f with
  | zero =>
    intro k hk h1
    refine EX.go (Kd_mono _ _) [false, true, false, false, false, false] 40 1 ?_
    dsimp only [wpc_s, wsl_t, wsl_f, gD_0, gD_s, ↓denB_n, pI_s, pG_s, pU_n, cb_X0_freeSet_0, cb_X0_freeSet_1, cb_X0_freeSet_2, cb_X0_freeSet_3, cb_X0_freeSet_4, cb_X0_freeSet_5, ↓ev_lconst_0, ↓ev_lstore_n_1, ↓ev_iconst_1, ↓ev_istore_n_3, ↓ev_iload_n_3, ↓ev_bipush_64, ↓ev_icmp_ge, ↓ev_aload_n_0, ↓ev_getf_0_1, ↓ev_iald_m1, ↓ev_iald_m2, ↓ev_iald_m3, ↓ev_iald_m4, ↓ev_iald_m5, ↓ev_iald_m6, ↓ev_if_ne, ↓ev_lload_n_1, ↓ev_lconst_1, ↓ev_lshl, ↓ev_lor, ↓ev_iinc_3_1, ↓ev_goto, ↓ev_lret, Nat.reduceAdd]
    try simp (disch := omega) only [pk_mul, nI_add, n_lt0, n_le0, n_eq0, n_ge0, n_gt0, n_lt, n_le, n_eq, n_in, n_div, n_rem, n_rem2, n_m1, nI_clamp, bz_0, bz_1, tI_0, tI_bz, n4, n16, eq_self, Nat.reduceLT, Nat.reduceLeDiff, Nat.reduceEqDiff, Nat.reduceAdd, Nat.reduceMul, Nat.reduceDiv, Nat.reduceMod, Nat.le_refl, decide_eq_false_iff_not, Classical.not_not, true_and, and_true, false_and, and_false, not_true_eq_false, not_false_eq_true, forall_const, true_implies, false_implies, implies_true, ne_eq]
    refine ⟨fun _ => ?_, fun c => absurd (show 64 ≤ k by omega) c⟩
    rw [show k = 64 by omega]
    exact hp
  | succ f ih =>
    intro k hk hk1
    refine EX.go (Kd_mono _ _) [false, true, false, false, false, false] 40 1 ?_
    dsimp only [wpc_s, wsl_t, wsl_f, gD_0, gD_s, ↓denB_n, pI_s, pG_s, pU_n, cb_X0_freeSet_0, cb_X0_freeSet_1, cb_X0_freeSet_2, cb_X0_freeSet_3, cb_X0_freeSet_4, cb_X0_freeSet_5, ↓ev_lconst_0, ↓ev_lstore_n_1, ↓ev_iconst_1, ↓ev_istore_n_3, ↓ev_iload_n_3, ↓ev_bipush_64, ↓ev_icmp_ge, ↓ev_aload_n_0, ↓ev_getf_0_1, ↓ev_iald_m1, ↓ev_iald_m2, ↓ev_iald_m3, ↓ev_iald_m4, ↓ev_iald_m5, ↓ev_iald_m6, ↓ev_if_ne, ↓ev_lload_n_1, ↓ev_lconst_1, ↓ev_lshl, ↓ev_lor, ↓ev_iinc_3_1, ↓ev_goto, ↓ev_lret, Nat.reduceAdd]
    have e1 : h (.inl (i, 2)) k = S k := hC.2.1 k (by omega)
    try simp (disch := omega) only [pk_mul, nI_add, n_lt0, n_le0, n_eq0, n_ge0, n_gt0, n_lt, n_le, n_eq, n_in, n_div, n_rem, n_rem2, n_m1, nI_clamp, bz_0, bz_1, tI_0, tI_bz, n4, n16, eq_self, Nat.reduceLT, Nat.reduceLeDiff, Nat.reduceEqDiff, Nat.reduceAdd, Nat.reduceMul, Nat.reduceDiv, Nat.reduceMod, Nat.le_refl, decide_eq_false_iff_not, Classical.not_not, true_and, and_true, false_and, and_false, not_true_eq_false, not_false_eq_true, forall_const, true_implies, false_implies, implies_true, ne_eq, e1]
    have ih2 := ih (k + 1) (by omega) (by omega)
    rw [lOr] at ih2
    refine ⟨fun c => absurd c (by omega), fun _ => ⟨by omega, fun c => ?_, fun c => ?_⟩⟩
    · rw [if_neg (by rw [Bool.not_eq_true, freeP, dec_f]; exact fun z => c z.2)] at ih2
      exact ih2
    · rw [if_pos (by rw [freeP, dec_t]; exact ⟨hk1, c⟩)] at ih2
      exact ih2
theorem k_sharedData {p : Int64 → mH → Prop} (hC : CR h i S) (hp : ∀ h', Oi i h h' → CR h' i S → p (lOr (sharP S) 64) h') : mG (Kd sL (d + 4)) 26 [.inr (.inr (.inl (i, 0)))] h p := by
  refine ke_X0_sharedData ?_
  refine EX.go (Kd_mono _ _) [false, true, false, false, false, false] 40 0 ?_
  dsimp only [wpc_s, wsl_t, wsl_f, gD_0, gD_s, ↓denB_n, pI_s, pG_s, pU_n, cb_X0_sharedData_0, cb_X0_sharedData_1, cb_X0_sharedData_2, cb_X0_sharedData_3, cb_X0_sharedData_4, cb_X0_sharedData_5, ↓ev_aload_n_0, ↓ev_callv_1_0_0, ↓ev_callv_1_1_0, ↓ev_callv_1_2_0, ↓ev_callv_1_3_0, ↓ev_callv_1_4_0, ↓ev_lconst_0, ↓ev_lstore_n_1, ↓ev_iconst_1, ↓ev_istore_n_3, ↓ev_iload_n_3, ↓ev_bipush_64, ↓ev_icmp_ge, ↓ev_getf_0_7, ↓ev_iald_m1, ↓ev_iald_m2, ↓ev_iald_m3, ↓ev_iald_m4, ↓ev_iald_m5, ↓ev_iald_m6, ↓ev_icmp_le, ↓ev_lload_n_1, ↓ev_lconst_1, ↓ev_lshl, ↓ev_lor, ↓ev_iinc_3_1, ↓ev_goto, ↓ev_lret, Nat.reduceAdd]
  refine k_countCells hC (fun h1 hO hC hf => ?_)
  suffices H : ∀ (f k : Nat), k + f = 64 → 1 ≤ k → EX (Kd sL (d + 3)) sL md_X0_sharedData (pG p) 1 [some (.inr (.inr (.inl (i, 0)))), some (.inr (.inl (lOr (sharP S) k))), none, some (.inl (nI k))] [] h1 by
    have := H 63 1 (by omega) (Nat.le_refl 1)
    rwa [lOr_1 dec0] at this
  intro f
  induction f with
  | zero =>
    intro k hk h1
    refine EX.go (Kd_mono _ _) [false, true, false, false, false, false] 40 1 ?_
    dsimp only [wpc_s, wsl_t, wsl_f, gD_0, gD_s, ↓denB_n, pI_s, pG_s, pU_n, cb_X0_sharedData_0, cb_X0_sharedData_1, cb_X0_sharedData_2, cb_X0_sharedData_3, cb_X0_sharedData_4, cb_X0_sharedData_5, ↓ev_aload_n_0, ↓ev_callv_1_0_0, ↓ev_callv_1_1_0, ↓ev_callv_1_2_0, ↓ev_callv_1_3_0, ↓ev_callv_1_4_0, ↓ev_lconst_0, ↓ev_lstore_n_1, ↓ev_iconst_1, ↓ev_istore_n_3, ↓ev_iload_n_3, ↓ev_bipush_64, ↓ev_icmp_ge, ↓ev_getf_0_7, ↓ev_iald_m1, ↓ev_iald_m2, ↓ev_iald_m3, ↓ev_iald_m4, ↓ev_iald_m5, ↓ev_iald_m6, ↓ev_icmp_le, ↓ev_lload_n_1, ↓ev_lconst_1, ↓ev_lshl, ↓ev_lor, ↓ev_iinc_3_1, ↓ev_goto, ↓ev_lret, Nat.reduceAdd]
    try simp (disch := omega) only [pk_mul, nI_add, n_lt0, n_le0, n_eq0, n_ge0, n_gt0, n_lt, n_le, n_eq, n_in, n_div, n_rem, n_rem2, n_m1, nI_clamp, bz_0, bz_1, tI_0, tI_bz, n4, n16, eq_self, Nat.reduceLT, Nat.reduceLeDiff, Nat.reduceEqDiff, Nat.reduceAdd, Nat.reduceMul, Nat.reduceDiv, Nat.reduceMod, Nat.le_refl, decide_eq_false_iff_not, Classical.not_not, true_and, and_true, false_and, and_false, not_true_eq_false, not_false_eq_true, forall_const, true_implies, false_implies, implies_true, ne_eq]
    refine ⟨fun _ => ?_, fun c => absurd (show 64 ≤ k by omega) c⟩
    rw [show k = 64 by omega]
    exact hp _ hO hC
  | succ f ih =>
    intro k hk hk1
    refine EX.go (Kd_mono _ _) [false, true, false, false, false, false] 40 1 ?_
    dsimp only [wpc_s, wsl_t, wsl_f, gD_0, gD_s, ↓denB_n, pI_s, pG_s, pU_n, cb_X0_sharedData_0, cb_X0_sharedData_1, cb_X0_sharedData_2, cb_X0_sharedData_3, cb_X0_sharedData_4, cb_X0_sharedData_5, ↓ev_aload_n_0, ↓ev_callv_1_0_0, ↓ev_callv_1_1_0, ↓ev_callv_1_2_0, ↓ev_callv_1_3_0, ↓ev_callv_1_4_0, ↓ev_lconst_0, ↓ev_lstore_n_1, ↓ev_iconst_1, ↓ev_istore_n_3, ↓ev_iload_n_3, ↓ev_bipush_64, ↓ev_icmp_ge, ↓ev_getf_0_7, ↓ev_iald_m1, ↓ev_iald_m2, ↓ev_iald_m3, ↓ev_iald_m4, ↓ev_iald_m5, ↓ev_iald_m6, ↓ev_icmp_le, ↓ev_lload_n_1, ↓ev_lconst_1, ↓ev_lshl, ↓ev_lor, ↓ev_iinc_3_1, ↓ev_goto, ↓ev_lret, Nat.reduceAdd]
    have e2 := hf k hk1 (by omega)
    have hle := nmc_le S k
    try simp (disch := omega) only [pk_mul, nI_add, n_lt0, n_le0, n_eq0, n_ge0, n_gt0, n_lt, n_le, n_eq, n_in, n_div, n_rem, n_rem2, n_m1, nI_clamp, bz_0, bz_1, tI_0, tI_bz, n4, n16, eq_self, Nat.reduceLT, Nat.reduceLeDiff, Nat.reduceEqDiff, Nat.reduceAdd, Nat.reduceMul, Nat.reduceDiv, Nat.reduceMod, Nat.le_refl, decide_eq_false_iff_not, Classical.not_not, true_and, and_true, false_and, and_false, not_true_eq_false, not_false_eq_true, forall_const, true_implies, false_implies, implies_true, ne_eq, e2]
    have ih2 := ih (k + 1) (by omega) (by omega)
    rw [lOr] at ih2
    refine ⟨fun c => absurd c (by omega), fun _ => ⟨by omega, fun c => ?_, fun c => ?_⟩⟩
    · rw [if_neg (by rw [Bool.not_eq_true, sharP, dec_f]; exact fun z => absurd z.2 (by omega))] at ih2
      exact ih2
    · rw [if_pos (by rw [sharP, dec_t]; exact ⟨hk1, by omega⟩)] at ih2
      exact ih2
/-- the counts become true -/
noncomputable def mnd (S : St) : St := fun j => if 1 ≤ j ∧ j < 64 then nI (tru S j) else S j
theorem mnd_hi {S : St} {j : Nat} (h : 64 ≤ j) : mnd S j = S j := by
  unfold mnd
  rw [if_neg (by omega)]
/-- what is read off two states that are the same from 64 on -/
theorem hi_same {S S' : St} (h : ∀ j, 64 ≤ j → S' j = S j) : mn S' = mn S ∧ (∀ x, prs S' x = prs S x) ∧ (∀ x k, tb S' x k = tb S x k) ∧ (∀ t k, dt S' t k = dt S t k) ∧ (∀ l, bk S' l = bk S l) ∧ (∀ s, sn S' s = sn S s) ∧ S' 399 = S 399 := by
  have e1 : mn S' = mn S := by unfold mn; rw [h 320 (by decide)]
  have e2 : ∀ x, prs S' x = prs S x := fun x => by unfold prs; rw [e1, h (377 + x) (by omega)]
  refine ⟨e1, e2, fun x k => ?_, fun t k => ?_, fun l => ?_, fun s => ?_, h 399 (by decide)⟩
  · unfold tb; rw [e2, h (327 + 4 * x + k) (by omega)]
  · unfold dt; rw [h (64 + 4 * t + k) (by omega)]
  · unfold bk; rw [e1, h (321 + l) (by omega)]
  · unfold sn; rw [h (383 + s) (by omega), h (391 + s) (by omega)]
theorem CR.cnt {S' : St} (hC : CR h i S) (hs : ∀ j, 64 ≤ j → S' j = S j) {f : Nat → Int32} (hf : ∀ j, j < 64 → f j = S' j) : CR (hpt h (.inl (i, 2)) f) i S' := by
  obtain ⟨e1, e2, e3, e4, e5, e6, e7⟩ := hi_same hs
  obtain ⟨h1, h2, h3, h4, h5, h6, h7, h8⟩ := hC
  refine ⟨fun j hj => ?_, fun j hj => ?_, fun x k hx hk => ?_, fun l hl => ?_, fun s hs' => ?_, ?_, ?_, ?_⟩
  · rw [hpt_ne (by simp), h1 j hj, hs _ (by omega)]
  · rw [hpt_self, hf j hj]
  · rw [hpt_ne (by simp), h3 x k hx hk, e3]
  · rw [hpt_ne (by simp), h4 l hl, e5]
  · rw [hpt_ne (by simp), h5 s hs', e6]
  · rw [hpt_ne (by simp), h6, e1]
  · rw [e1]; exact h7
  · rw [hpt_ne (by simp), h8, e7]
noncomputable def mndP (S : St) (c : Nat) : Bool := dec (1 ≤ c ∧ ¬ S c = nI (tru S c))
theorem k_mendCounts {p : Int32 → mH → Prop} (hC : CR h i S) (hp : ∀ h', Oi i h h' → CR h' i (mnd S) → p (nI (fb_ct (mndP S) 64)) h') : mI (Kd sL (d + 5)) 27 [.inr (.inr (.inl (i, 0)))] h p := by
  refine ke_X0_mendCounts ?_
  refine EX.go (Kd_mono _ _) [false, true, false, false, false, false] 40 0 ?_
  dsimp only [wpc_s, wsl_t, wsl_f, gD_0, gD_s, ↓denB_n, pI_s, pG_s, pU_n, cb_X0_mendCounts_0, cb_X0_mendCounts_1, cb_X0_mendCounts_2, cb_X0_mendCounts_3, cb_X0_mendCounts_4, cb_X0_mendCounts_5, ↓ev_aload_n_0, ↓ev_callv_1_0_0, ↓ev_callv_1_1_0, ↓ev_callv_1_2_0, ↓ev_callv_1_3_0, ↓ev_callv_1_4_0, ↓ev_iconst_0, ↓ev_istore_n_1, ↓ev_iconst_1, ↓ev_istore_n_2, ↓ev_iload_n_2, ↓ev_bipush_64, ↓ev_icmp_ge, ↓ev_getf_0_1, ↓ev_iald_m1, ↓ev_iald_m2, ↓ev_iald_m3, ↓ev_iald_m4, ↓ev_iald_m5, ↓ev_iald_m6, ↓ev_getf_0_7, ↓ev_icmp_eq, ↓ev_iast_m1, ↓ev_iast_m2, ↓ev_iast_m3, ↓ev_iast_m4, ↓ev_iast_m5, ↓ev_iast_m6, ↓ev_iinc_1_1, ↓ev_iinc_2_1, ↓ev_goto, ↓ev_iload_n_1, ↓ev_iret, Nat.reduceAdd]
  refine k_countTrue hC (fun h1 hO hC hf => ?_)
  suffices H : ∀ (f k : Nat) (g : Nat → Int32), k + f = 64 → 1 ≤ k → (∀ j, j < 64 → g j = if 1 ≤ j ∧ j < k then nI (tru S j) else S j) → EX (Kd sL (d + 4)) sL md_X0_mendCounts (pI p) 1 [some (.inr (.inr (.inl (i, 0)))), some (.inl (nI (fb_ct (mndP S) k))), some (.inl (nI k))] [] (hpt h1 (.inl (i, 2)) g) by
    have := H 63 1 (h1 (.inl (i, 2))) (by omega) (Nat.le_refl 1) (fun j hj => by rw [hC.2.1 j hj, if_neg (by omega)])
    rw [hpt_eta] at this
    have e0 : fb_ct (mndP S) 1 = 0 := by
      have e9 : mndP S 0 = false := dec0
      simp [fb_ct, e9]
    rwa [e0] at this
  intro f
  induction f with
  | zero =>
    intro k g hk h1 hg
    refine EX.go (Kd_mono _ _) [false, true, false, false, false, false] 40 1 ?_
    dsimp only [wpc_s, wsl_t, wsl_f, gD_0, gD_s, ↓denB_n, pI_s, pG_s, pU_n, cb_X0_mendCounts_0, cb_X0_mendCounts_1, cb_X0_mendCounts_2, cb_X0_mendCounts_3, cb_X0_mendCounts_4, cb_X0_mendCounts_5, ↓ev_aload_n_0, ↓ev_callv_1_0_0, ↓ev_callv_1_1_0, ↓ev_callv_1_2_0, ↓ev_callv_1_3_0, ↓ev_callv_1_4_0, ↓ev_iconst_0, ↓ev_istore_n_1, ↓ev_iconst_1, ↓ev_istore_n_2, ↓ev_iload_n_2, ↓ev_bipush_64, ↓ev_icmp_ge, ↓ev_getf_0_1, ↓ev_iald_m1, ↓ev_iald_m2, ↓ev_iald_m3, ↓ev_iald_m4, ↓ev_iald_m5, ↓ev_iald_m6, ↓ev_getf_0_7, ↓ev_icmp_eq, ↓ev_iast_m1, ↓ev_iast_m2, ↓ev_iast_m3, ↓ev_iast_m4, ↓ev_iast_m5, ↓ev_iast_m6, ↓ev_iinc_1_1, ↓ev_iinc_2_1, ↓ev_goto, ↓ev_iload_n_1, ↓ev_iret, Nat.reduceAdd]
    try simp (disch := omega) only [pk_mul, nI_add, n_lt0, n_le0, n_eq0, n_ge0, n_gt0, n_lt, n_le, n_eq, n_in, n_div, n_rem, n_rem2, n_m1, nI_clamp, bz_0, bz_1, tI_0, tI_bz, n4, n16, eq_self, Nat.reduceLT, Nat.reduceLeDiff, Nat.reduceEqDiff, Nat.reduceAdd, Nat.reduceMul, Nat.reduceDiv, Nat.reduceMod, Nat.le_refl, decide_eq_false_iff_not, Classical.not_not, true_and, and_true, false_and, and_false, not_true_eq_false, not_false_eq_true, forall_const, true_implies, false_implies, implies_true, ne_eq]
    refine ⟨fun _ => ?_, fun c => absurd (show 64 ≤ k by omega) c⟩
    rw [show k = 64 by omega]
    refine hp _ (hO.tr Oi.pt) (hC.cnt (fun j hj => mnd_hi hj) (fun j hj => ?_))
    rw [hg j hj, show k = 64 by omega]
    rfl
  | succ f ih =>
    intro k g hk hk1 hg
    refine EX.go (Kd_mono _ _) [false, true, false, false, false, false] 40 1 ?_
    dsimp only [wpc_s, wsl_t, wsl_f, gD_0, gD_s, ↓denB_n, pI_s, pG_s, pU_n, cb_X0_mendCounts_0, cb_X0_mendCounts_1, cb_X0_mendCounts_2, cb_X0_mendCounts_3, cb_X0_mendCounts_4, cb_X0_mendCounts_5, ↓ev_aload_n_0, ↓ev_callv_1_0_0, ↓ev_callv_1_1_0, ↓ev_callv_1_2_0, ↓ev_callv_1_3_0, ↓ev_callv_1_4_0, ↓ev_iconst_0, ↓ev_istore_n_1, ↓ev_iconst_1, ↓ev_istore_n_2, ↓ev_iload_n_2, ↓ev_bipush_64, ↓ev_icmp_ge, ↓ev_getf_0_1, ↓ev_iald_m1, ↓ev_iald_m2, ↓ev_iald_m3, ↓ev_iald_m4, ↓ev_iald_m5, ↓ev_iald_m6, ↓ev_getf_0_7, ↓ev_icmp_eq, ↓ev_iast_m1, ↓ev_iast_m2, ↓ev_iast_m3, ↓ev_iast_m4, ↓ev_iast_m5, ↓ev_iast_m6, ↓ev_iinc_1_1, ↓ev_iinc_2_1, ↓ev_goto, ↓ev_iload_n_1, ↓ev_iret, Nat.reduceAdd]
    have e1 : g k = S k := by rw [hg k (by omega), if_neg (by omega)]
    have e2 := hf k hk1 (by omega)
    have e3 : hpt h1 (.inl (i, 2)) g (.inl (i, 6)) = h1 (.inl (i, 6)) := hpt_ne (by simp)
    have hle := tru_le S k
    try simp (disch := omega) only [pk_mul, nI_add, n_lt0, n_le0, n_eq0, n_ge0, n_gt0, n_lt, n_le, n_eq, n_in, n_div, n_rem, n_rem2, n_m1, nI_clamp, bz_0, bz_1, tI_0, tI_bz, n4, n16, eq_self, Nat.reduceLT, Nat.reduceLeDiff, Nat.reduceEqDiff, Nat.reduceAdd, Nat.reduceMul, Nat.reduceDiv, Nat.reduceMod, Nat.le_refl, decide_eq_false_iff_not, Classical.not_not, true_and, and_true, false_and, and_false, not_true_eq_false, not_false_eq_true, forall_const, true_implies, false_implies, implies_true, ne_eq, hpt_self, e1, e2, e3, hup_hpt]
    refine ⟨fun c => absurd c (by omega), fun _ => ⟨by omega, by omega, fun c => ?_, fun c => ⟨by omega, by omega, ?_⟩⟩⟩
    · have ih2 := ih (k + 1) g (by omega) (by omega) (fun j hj => by
        rw [hg j hj]
        by_cases q : j = k
        · subst q; rw [if_neg (by omega), if_pos (by omega), c]
        · by_cases q2 : 1 ≤ j ∧ j < k
          · rw [if_pos q2, if_pos (by omega)]
          · rw [if_neg q2, if_neg (by omega)])
      rw [fb_ct_succ, if_neg (by rw [Bool.not_eq_true, mndP, dec_f]; exact fun z => z.2 c)] at ih2
      exact ih2
    · have ih2 := ih (k + 1) (upd g k (nI (tru S k))) (by omega) (by omega) (fun j hj => by
        by_cases q : j = k
        · subst q; rw [pk_us, if_pos (by omega)]
        · rw [pk_un q, hg j hj]
          by_cases q2 : 1 ≤ j ∧ j < k
          · rw [if_pos q2, if_pos (by omega)]
          · rw [if_neg q2, if_neg (by omega)])
      rw [fb_ct_succ, if_pos (by rw [mndP, dec_t]; exact ⟨hk1, c⟩)] at ih2
      exact ih2
theorem k_copyFrom {j : Fin 3} {p : mH → Prop} (hC : CR h j S) (hp : ∀ h', Oi i h h' → CR h' i S → p h') : mU (Kd sL (d + 1)) 0 [.inr (.inr (.inl (i, 0))), .inr (.inr (.inl (j, 0)))] h p := by
  refine ke_X0_copyFrom ?_
  refine EX.go (Kd_mono _ _) [false] 40 0 ?_
  dsimp only [wpc_s, wsl_t, wsl_f, gD_0, gD_s, ↓denB_n, pI_s, pG_s, pU_n, cb_X0_copyFrom_0, ↓ev_aload_n_1, ↓ev_getf_0_0, ↓ev_iconst_0, ↓ev_aload_n_0, ↓ev_alen_m1, ↓ev_alen_m2, ↓ev_alen_m3, ↓ev_alen_m4, ↓ev_alen_m5, ↓ev_alen_m6, ↓ev_getf_0_1, ↓ev_getf_0_2, ↓ev_getf_0_3, ↓ev_getf_0_4, ↓ev_getf_0_5, ↓ev_putf_0_5, ↓ev_getf_0_6, ↓ev_putf_0_6, ↓ev_ret, Nat.reduceAdd]
  refine ev_copy rfl rfl (by decide) (by decide) (by decide) (by decide) (by decide) (by decide) ?_
  dsimp only [wpc_s, wsl_t, wsl_f, gD_0, gD_s, ↓denB_n, pI_s, pG_s, pU_n, cb_X0_copyFrom_0, ↓ev_aload_n_1, ↓ev_getf_0_0, ↓ev_iconst_0, ↓ev_aload_n_0, ↓ev_alen_m1, ↓ev_alen_m2, ↓ev_alen_m3, ↓ev_alen_m4, ↓ev_alen_m5, ↓ev_alen_m6, ↓ev_getf_0_1, ↓ev_getf_0_2, ↓ev_getf_0_3, ↓ev_getf_0_4, ↓ev_getf_0_5, ↓ev_putf_0_5, ↓ev_getf_0_6, ↓ev_putf_0_6, ↓ev_ret, Nat.reduceAdd]
  refine ev_copy rfl rfl (by decide) (by decide) (by decide) (by decide) (by decide) (by decide) ?_
  dsimp only [wpc_s, wsl_t, wsl_f, gD_0, gD_s, ↓denB_n, pI_s, pG_s, pU_n, cb_X0_copyFrom_0, ↓ev_aload_n_1, ↓ev_getf_0_0, ↓ev_iconst_0, ↓ev_aload_n_0, ↓ev_alen_m1, ↓ev_alen_m2, ↓ev_alen_m3, ↓ev_alen_m4, ↓ev_alen_m5, ↓ev_alen_m6, ↓ev_getf_0_1, ↓ev_getf_0_2, ↓ev_getf_0_3, ↓ev_getf_0_4, ↓ev_getf_0_5, ↓ev_putf_0_5, ↓ev_getf_0_6, ↓ev_putf_0_6, ↓ev_ret, Nat.reduceAdd]
  refine ev_copy rfl rfl (by decide) (by decide) (by decide) (by decide) (by decide) (by decide) ?_
  dsimp only [wpc_s, wsl_t, wsl_f, gD_0, gD_s, ↓denB_n, pI_s, pG_s, pU_n, cb_X0_copyFrom_0, ↓ev_aload_n_1, ↓ev_getf_0_0, ↓ev_iconst_0, ↓ev_aload_n_0, ↓ev_alen_m1, ↓ev_alen_m2, ↓ev_alen_m3, ↓ev_alen_m4, ↓ev_alen_m5, ↓ev_alen_m6, ↓ev_getf_0_1, ↓ev_getf_0_2, ↓ev_getf_0_3, ↓ev_getf_0_4, ↓ev_getf_0_5, ↓ev_putf_0_5, ↓ev_getf_0_6, ↓ev_putf_0_6, ↓ev_ret, Nat.reduceAdd]
  refine ev_copy rfl rfl (by decide) (by decide) (by decide) (by decide) (by decide) (by decide) ?_
  dsimp only [wpc_s, wsl_t, wsl_f, gD_0, gD_s, ↓denB_n, pI_s, pG_s, pU_n, cb_X0_copyFrom_0, ↓ev_aload_n_1, ↓ev_getf_0_0, ↓ev_iconst_0, ↓ev_aload_n_0, ↓ev_alen_m1, ↓ev_alen_m2, ↓ev_alen_m3, ↓ev_alen_m4, ↓ev_alen_m5, ↓ev_alen_m6, ↓ev_getf_0_1, ↓ev_getf_0_2, ↓ev_getf_0_3, ↓ev_getf_0_4, ↓ev_getf_0_5, ↓ev_putf_0_5, ↓ev_getf_0_6, ↓ev_putf_0_6, ↓ev_ret, Nat.reduceAdd]
  refine ev_copy rfl rfl (by decide) (by decide) (by decide) (by decide) (by decide) (by decide) ?_
  dsimp only [wpc_s, wsl_t, wsl_f, gD_0, gD_s, ↓denB_n, pI_s, pG_s, pU_n, cb_X0_copyFrom_0, ↓ev_aload_n_1, ↓ev_getf_0_0, ↓ev_iconst_0, ↓ev_aload_n_0, ↓ev_alen_m1, ↓ev_alen_m2, ↓ev_alen_m3, ↓ev_alen_m4, ↓ev_alen_m5, ↓ev_alen_m6, ↓ev_getf_0_1, ↓ev_getf_0_2, ↓ev_getf_0_3, ↓ev_getf_0_4, ↓ev_getf_0_5, ↓ev_putf_0_5, ↓ev_getf_0_6, ↓ev_putf_0_6, ↓ev_ret, Nat.reduceAdd]
  obtain ⟨h1, h2, h3, h4, h5, h6, h7, h8⟩ := hC
  refine hp _ ?_ ?_
  · intro r hr
    have q0 := hr 0
    have q1 := hr 1
    have q2 := hr 2
    have q3 := hr 3
    have q4 := hr 4
    have q5 := hr 5
    funext k
    simp [hup, hcp, q0, q1, q2, q3, q4, q5]
  · refine ⟨fun k hk => ?_, fun k hk => ?_, fun x k hx hk => ?_, fun l hl => ?_, fun s hs => ?_, ?_, h7, ?_⟩
    · rw [← h1 k hk]
      simp [hup, hcp, nI_clamp, hk]
    · rw [← h2 k hk]
      simp [hup, hcp, nI_clamp, hk]
    · have hb : 4 * x + k < 56 := by omega
      rw [← h3 x k hx hk]
      simp [hup, hcp, nI_clamp, hb]
    · rw [← h4 l hl]
      simp [hup, hcp, nI_clamp, hl]
    · rw [← h5 s hs]
      simp [hup, hcp, nI_clamp, hs]
    · rw [← h6]
      simp [hup, hcp]
    · rw [← h8]
      simp [hup, hcp]
theorem k_atOld {s pl l : Nat} {p : Int32 → mH → Prop} (hC : CR h i S) (hs : s < 8) (hpl : pl < 64) (hl : sn S s = nI l) (hlm : l < mn S) (hp : p (if dof S (6 + s) (pl / 4) = 0 then rdf S 6 (bk S l) pl else S (64 + (4 * dof S (6 + s) (pl / 4) + pl % 4))) h) : mI (Kd sL (d + 3)) 14 [.inr (.inr (.inl (i, 0))), .inl (nI s), .inl (nI pl)] h p := by
  refine ke_X0_atOld ?_
  refine EX.go (Kd_mono _ _) [false, false, false, false, false, false] 40 0 ?_
  dsimp only [wpc_s, wsl_t, wsl_f, gD_0, gD_s, ↓denB_n, pI_s, pG_s, pU_n, cb_X0_atOld_0, cb_X0_atOld_1, cb_X0_atOld_2, cb_X0_atOld_3, cb_X0_atOld_4, cb_X0_atOld_5, ↓ev_aload_n_0, ↓ev_bipush_6, ↓ev_iload_n_1, ↓ev_iadd, ↓ev_iload_n_2, ↓ev_iconst_4, ↓ev_idiv, ↓ev_callv_3_0_1, ↓ev_callv_3_1_1, ↓ev_callv_3_2_1, ↓ev_callv_3_3_1, ↓ev_callv_3_4_1, ↓ev_callv_3_5_1, ↓ev_istore_n_3, ↓ev_iload_n_3, ↓ev_if_eq, ↓ev_getf_0_0, ↓ev_imul, ↓ev_irem, ↓ev_iald_m1, ↓ev_iald_m2, ↓ev_iald_m3, ↓ev_iald_m4, ↓ev_iald_m5, ↓ev_iald_m6, ↓ev_iret, ↓ev_getf_0_4, ↓ev_istore_4, ↓ev_iload_4, ↓ev_callv_2_0_1, ↓ev_callv_2_1_1, ↓ev_callv_2_2_1, ↓ev_callv_2_3_1, ↓ev_callv_2_4_1, ↓ev_getf_0_3, ↓ev_goto, ↓ev_iconst_0, Nat.reduceAdd]
  try simp (disch := omega) only [pk_mul, nI_add, n_lt0, n_le0, n_eq0, n_ge0, n_gt0, n_lt, n_le, n_eq, n_in, n_div, n_rem, n_rem2, n_m1, nI_clamp, bz_0, bz_1, tI_0, tI_bz, n4, n16, eq_self, Nat.reduceLT, Nat.reduceLeDiff, Nat.reduceEqDiff, Nat.reduceAdd, Nat.reduceMul, Nat.reduceDiv, Nat.reduceMod, Nat.le_refl, decide_eq_false_iff_not, Classical.not_not, true_and, and_true, false_and, and_false, not_true_eq_false, not_false_eq_true, forall_const, true_implies, false_implies, implies_true, ne_eq]
  refine k_dataOf hC (by omega) (by omega) ?_
  have hdl := dof_lt S (6 + s) (pl / 4)
  have e : h (.inl (i, 1)) (dof S (6 + s) (pl / 4) * 4 + pl % 4) = S (64 + (4 * dof S (6 + s) (pl / 4) + pl % 4)) := by rw [hC.1 _ (by omega), Nat.mul_comm]
  have e5 : h (.inl (i, 5)) s = nI l := by rw [hC.2.2.2.2.1 s hs, hl]
  have hm6 := hC.2.2.2.2.2.2.1
  try simp (disch := omega) only [pk_mul, nI_add, n_lt0, n_le0, n_eq0, n_ge0, n_gt0, n_lt, n_le, n_eq, n_in, n_div, n_rem, n_rem2, n_m1, nI_clamp, bz_0, bz_1, tI_0, tI_bz, n4, n16, eq_self, Nat.reduceLT, Nat.reduceLeDiff, Nat.reduceEqDiff, Nat.reduceAdd, Nat.reduceMul, Nat.reduceDiv, Nat.reduceMod, Nat.le_refl, decide_eq_false_iff_not, Classical.not_not, true_and, and_true, false_and, and_false, not_true_eq_false, not_false_eq_true, forall_const, true_implies, false_implies, implies_true, ne_eq, e, e5]
  refine ⟨fun c => ⟨hs, ?_⟩, fun c => ⟨by omega, ?_⟩⟩
  · rw [if_pos c] at hp
    refine k_hasLayer hC ?_
    try simp (disch := omega) only [pk_mul, nI_add, n_lt0, n_le0, n_eq0, n_ge0, n_gt0, n_lt, n_le, n_eq, n_in, n_div, n_rem, n_rem2, n_m1, nI_clamp, bz_0, bz_1, tI_0, tI_bz, n4, n16, eq_self, Nat.reduceLT, Nat.reduceLeDiff, Nat.reduceEqDiff, Nat.reduceAdd, Nat.reduceMul, Nat.reduceDiv, Nat.reduceMod, Nat.le_refl, decide_eq_false_iff_not, Classical.not_not, true_and, and_true, false_and, and_false, not_true_eq_false, not_false_eq_true, forall_const, true_implies, false_implies, implies_true, ne_eq]
    refine ⟨fun c2 => absurd hlm c2, fun _ => ⟨by omega, ?_⟩⟩
    rw [hC.2.2.2.1 l (by omega)]
    exact k_at hC hpl hp
  · rwa [if_neg c] at hp
/-- how many layers are below, by at most f -/
def cbl (S : St) : Nat → Int32 → Nat
  | 0, _ => 0
  | f + 1, l => if 0 ≤ l ∧ l < nI 6 then cbl S f (bk S l.toNatClampNeg) + 1 else 0
/-- x is l, or stands on it by less than f layers -/
def sto (S : St) : Nat → Int32 → Int32 → Bool
  | 0, _, _ => false
  | f + 1, x, l => if 0 ≤ x ∧ x < nI 6 then (if x = l then true else sto S f (bk S x.toNatClampNeg) l) else false
theorem k_layersBelow {l : Nat} {p : Int32 → mH → Prop} (hC : CR h i S) (hl : l < 6) (hp : p (nI (cbl S 6 (bk S l))) h) : mI (Kd sL (d + 1)) 7 [.inr (.inr (.inl (i, 0))), .inl (nI l)] h p := by
  refine ke_X0_layersBelow ?_
  refine EX.go (Kd_mono _ _) [false, true, false, false, false, false] 40 0 ?_
  dsimp only [wpc_s, wsl_t, wsl_f, gD_0, gD_s, ↓denB_n, pI_s, pG_s, pU_n, cb_X0_layersBelow_0, cb_X0_layersBelow_1, cb_X0_layersBelow_2, cb_X0_layersBelow_3, cb_X0_layersBelow_4, cb_X0_layersBelow_5, ↓ev_iconst_0, ↓ev_istore_n_2, ↓ev_aload_n_0, ↓ev_getf_0_3, ↓ev_iload_n_1, ↓ev_iald_m1, ↓ev_iald_m2, ↓ev_iald_m3, ↓ev_iald_m4, ↓ev_iald_m5, ↓ev_iald_m6, ↓ev_istore_n_3, ↓ev_iload_n_3, ↓ev_if_lt, ↓ev_bipush_6, ↓ev_icmp_ge, ↓ev_iload_n_2, ↓ev_iinc_2_1, ↓ev_goto, ↓ev_iret, Nat.reduceAdd]
  have e : h (.inl (i, 4)) l = bk S l := hC.2.2.2.1 l hl
  try simp (disch := omega) only [pk_mul, nI_add, n_lt0, n_le0, n_eq0, n_ge0, n_gt0, n_lt, n_le, n_eq, n_in, n_div, n_rem, n_rem2, n_m1, nI_clamp, bz_0, bz_1, tI_0, tI_bz, n4, n16, eq_self, Nat.reduceLT, Nat.reduceLeDiff, Nat.reduceEqDiff, Nat.reduceAdd, Nat.reduceMul, Nat.reduceDiv, Nat.reduceMod, Nat.le_refl, decide_eq_false_iff_not, Classical.not_not, true_and, and_true, false_and, and_false, not_true_eq_false, not_false_eq_true, forall_const, true_implies, false_implies, implies_true, ne_eq, e]
  refine ⟨hl, ?_⟩
  suffices H : ∀ (f k : Nat) (x : Int32), k + f = 6 → p (nI (k + cbl S f x)) h → EX (Kd sL d) sL md_X0_layersBelow (pI p) 1 [some (.inr (.inr (.inl (i, 0)))), some (.inl (nI l)), some (.inl (nI k)), some (.inl x)] [] h from H 6 0 _ rfl (by simpa using hp)
  intro f
  induction f with
  | zero =>
    intro k x hk hp
    refine EX.go (Kd_mono _ _) [false, true, false, false, false, false] 40 1 ?_
    dsimp only [wpc_s, wsl_t, wsl_f, gD_0, gD_s, ↓denB_n, pI_s, pG_s, pU_n, cb_X0_layersBelow_0, cb_X0_layersBelow_1, cb_X0_layersBelow_2, cb_X0_layersBelow_3, cb_X0_layersBelow_4, cb_X0_layersBelow_5, ↓ev_iconst_0, ↓ev_istore_n_2, ↓ev_aload_n_0, ↓ev_getf_0_3, ↓ev_iload_n_1, ↓ev_iald_m1, ↓ev_iald_m2, ↓ev_iald_m3, ↓ev_iald_m4, ↓ev_iald_m5, ↓ev_iald_m6, ↓ev_istore_n_3, ↓ev_iload_n_3, ↓ev_if_lt, ↓ev_bipush_6, ↓ev_icmp_ge, ↓ev_iload_n_2, ↓ev_iinc_2_1, ↓ev_goto, ↓ev_iret, Nat.reduceAdd]
    try simp (disch := omega) only [pk_mul, nI_add, n_lt0, n_le0, n_eq0, n_ge0, n_gt0, n_lt, n_le, n_eq, n_in, n_div, n_rem, n_rem2, n_m1, nI_clamp, bz_0, bz_1, tI_0, tI_bz, n4, n16, eq_self, Nat.reduceLT, Nat.reduceLeDiff, Nat.reduceEqDiff, Nat.reduceAdd, Nat.reduceMul, Nat.reduceDiv, Nat.reduceMod, Nat.le_refl, decide_eq_false_iff_not, Classical.not_not, true_and, and_true, false_and, and_false, not_true_eq_false, not_false_eq_true, forall_const, true_implies, false_implies, implies_true, ne_eq]
    exact ⟨fun _ => hp, fun _ => ⟨fun _ => hp, fun _ => ⟨fun _ => hp, fun c => absurd (show 6 ≤ k by omega) c⟩⟩⟩
  | succ f ih =>
    intro k x hk hp
    refine EX.go (Kd_mono _ _) [false, true, false, false, false, false] 40 1 ?_
    dsimp only [wpc_s, wsl_t, wsl_f, gD_0, gD_s, ↓denB_n, pI_s, pG_s, pU_n, cb_X0_layersBelow_0, cb_X0_layersBelow_1, cb_X0_layersBelow_2, cb_X0_layersBelow_3, cb_X0_layersBelow_4, cb_X0_layersBelow_5, ↓ev_iconst_0, ↓ev_istore_n_2, ↓ev_aload_n_0, ↓ev_getf_0_3, ↓ev_iload_n_1, ↓ev_iald_m1, ↓ev_iald_m2, ↓ev_iald_m3, ↓ev_iald_m4, ↓ev_iald_m5, ↓ev_iald_m6, ↓ev_istore_n_3, ↓ev_iload_n_3, ↓ev_if_lt, ↓ev_bipush_6, ↓ev_icmp_ge, ↓ev_iload_n_2, ↓ev_iinc_2_1, ↓ev_goto, ↓ev_iret, Nat.reduceAdd]
    refine ⟨fun c => ?_, fun c => ⟨fun c2 => ?_, fun c2 => ⟨fun c3 => ?_, fun c3 => ?_⟩⟩⟩
    · rwa [cbl, if_neg (fun z => Int32.not_lt.mpr z.1 c)] at hp
    · rwa [cbl, if_neg (fun z => Int32.not_lt.mpr c2 z.2)] at hp
    · try simp (disch := omega) only [pk_mul, nI_add, n_lt0, n_le0, n_eq0, n_ge0, n_gt0, n_lt, n_le, n_eq, n_in, n_div, n_rem, n_rem2, n_m1, nI_clamp, bz_0, bz_1, tI_0, tI_bz, n4, n16, eq_self, Nat.reduceLT, Nat.reduceLeDiff, Nat.reduceEqDiff, Nat.reduceAdd, Nat.reduceMul, Nat.reduceDiv, Nat.reduceMod, Nat.le_refl, decide_eq_false_iff_not, Classical.not_not, true_and, and_true, false_and, and_false, not_true_eq_false, not_false_eq_true, forall_const, true_implies, false_implies, implies_true, ne_eq] at c3
      omega
    · obtain ⟨y, hy, rfl⟩ := (i_cases x).resolve_left c
      have hy6 : y < 6 := by
        have := c2
        try simp (disch := omega) only [pk_mul, nI_add, n_lt0, n_le0, n_eq0, n_ge0, n_gt0, n_lt, n_le, n_eq, n_in, n_div, n_rem, n_rem2, n_m1, nI_clamp, bz_0, bz_1, tI_0, tI_bz, n4, n16, eq_self, Nat.reduceLT, Nat.reduceLeDiff, Nat.reduceEqDiff, Nat.reduceAdd, Nat.reduceMul, Nat.reduceDiv, Nat.reduceMod, Nat.le_refl, decide_eq_false_iff_not, Classical.not_not, true_and, and_true, false_and, and_false, not_true_eq_false, not_false_eq_true, forall_const, true_implies, false_implies, implies_true, ne_eq] at this
        omega
      have e : h (.inl (i, 4)) y = bk S y := hC.2.2.2.1 y hy6
      try simp (disch := omega) only [pk_mul, nI_add, n_lt0, n_le0, n_eq0, n_ge0, n_gt0, n_lt, n_le, n_eq, n_in, n_div, n_rem, n_rem2, n_m1, nI_clamp, bz_0, bz_1, tI_0, tI_bz, n4, n16, eq_self, Nat.reduceLT, Nat.reduceLeDiff, Nat.reduceEqDiff, Nat.reduceAdd, Nat.reduceMul, Nat.reduceDiv, Nat.reduceMod, Nat.le_refl, decide_eq_false_iff_not, Classical.not_not, true_and, and_true, false_and, and_false, not_true_eq_false, not_false_eq_true, forall_const, true_implies, false_implies, implies_true, ne_eq, e]
      refine ⟨hy6, ih (k + 1) _ (by omega) ?_⟩
      rw [cbl, if_pos ⟨Int32.not_lt.mp c, Int32.not_le.mp c2⟩, nI_clamp hy] at hp
      rwa [show k + 1 + cbl S f (bk S y) = k + (cbl S f (bk S y) + 1) by omega]
theorem k_standsOn {x l : Int32} {p : Int32 → mH → Prop} (hC : CR h i S) (hp : p (tI (sto S 6 x l)) h) : mI (Kd sL (d + 1)) 8 [.inr (.inr (.inl (i, 0))), .inl x, .inl l] h p := by
  refine ke_X0_standsOn ?_
  refine EX.go (Kd_mono _ _) [false, true, false, false, false, false, false, false] 40 0 ?_
  dsimp only [wpc_s, wsl_t, wsl_f, gD_0, gD_s, ↓denB_n, pI_s, pG_s, pU_n, cb_X0_standsOn_0, cb_X0_standsOn_1, cb_X0_standsOn_2, cb_X0_standsOn_3, cb_X0_standsOn_4, cb_X0_standsOn_5, cb_X0_standsOn_6, cb_X0_standsOn_7, ↓ev_iload_n_1, ↓ev_istore_n_3, ↓ev_iconst_0, ↓ev_istore_4, ↓ev_iload_4, ↓ev_bipush_6, ↓ev_icmp_ge, ↓ev_iload_n_3, ↓ev_if_lt, ↓ev_iload_n_2, ↓ev_icmp_ne, ↓ev_iconst_1, ↓ev_zret, ↓ev_aload_n_0, ↓ev_getf_0_3, ↓ev_iald_m1, ↓ev_iald_m2, ↓ev_iald_m3, ↓ev_iald_m4, ↓ev_iald_m5, ↓ev_iald_m6, ↓ev_iinc_4_1, ↓ev_goto, Nat.reduceAdd]
  suffices H : ∀ (f k : Nat) (z : Int32), k + f = 6 → p (tI (sto S f z l)) h → EX (Kd sL d) sL md_X0_standsOn (pI p) 1 [some (.inr (.inr (.inl (i, 0)))), some (.inl x), some (.inl l), some (.inl z), some (.inl (nI k))] [] h from H 6 0 _ rfl hp
  intro f
  induction f with
  | zero =>
    intro k z hk hp
    refine EX.go (Kd_mono _ _) [false, true, false, false, false, false, false, false] 40 1 ?_
    dsimp only [wpc_s, wsl_t, wsl_f, gD_0, gD_s, ↓denB_n, pI_s, pG_s, pU_n, cb_X0_standsOn_0, cb_X0_standsOn_1, cb_X0_standsOn_2, cb_X0_standsOn_3, cb_X0_standsOn_4, cb_X0_standsOn_5, cb_X0_standsOn_6, cb_X0_standsOn_7, ↓ev_iload_n_1, ↓ev_istore_n_3, ↓ev_iconst_0, ↓ev_istore_4, ↓ev_iload_4, ↓ev_bipush_6, ↓ev_icmp_ge, ↓ev_iload_n_3, ↓ev_if_lt, ↓ev_iload_n_2, ↓ev_icmp_ne, ↓ev_iconst_1, ↓ev_zret, ↓ev_aload_n_0, ↓ev_getf_0_3, ↓ev_iald_m1, ↓ev_iald_m2, ↓ev_iald_m3, ↓ev_iald_m4, ↓ev_iald_m5, ↓ev_iald_m6, ↓ev_iinc_4_1, ↓ev_goto, Nat.reduceAdd]
    try simp (disch := omega) only [pk_mul, nI_add, n_lt0, n_le0, n_eq0, n_ge0, n_gt0, n_lt, n_le, n_eq, n_in, n_div, n_rem, n_rem2, n_m1, nI_clamp, bz_0, bz_1, tI_0, tI_bz, n4, n16, eq_self, Nat.reduceLT, Nat.reduceLeDiff, Nat.reduceEqDiff, Nat.reduceAdd, Nat.reduceMul, Nat.reduceDiv, Nat.reduceMod, Nat.le_refl, decide_eq_false_iff_not, Classical.not_not, true_and, and_true, false_and, and_false, not_true_eq_false, not_false_eq_true, forall_const, true_implies, false_implies, implies_true, ne_eq]
    exact ⟨fun _ => hp, fun c => absurd (show 6 ≤ k by omega) c⟩
  | succ f ih =>
    intro k z hk hp
    refine EX.go (Kd_mono _ _) [false, true, false, false, false, false, false, false] 40 1 ?_
    dsimp only [wpc_s, wsl_t, wsl_f, gD_0, gD_s, ↓denB_n, pI_s, pG_s, pU_n, cb_X0_standsOn_0, cb_X0_standsOn_1, cb_X0_standsOn_2, cb_X0_standsOn_3, cb_X0_standsOn_4, cb_X0_standsOn_5, cb_X0_standsOn_6, cb_X0_standsOn_7, ↓ev_iload_n_1, ↓ev_istore_n_3, ↓ev_iconst_0, ↓ev_istore_4, ↓ev_iload_4, ↓ev_bipush_6, ↓ev_icmp_ge, ↓ev_iload_n_3, ↓ev_if_lt, ↓ev_iload_n_2, ↓ev_icmp_ne, ↓ev_iconst_1, ↓ev_zret, ↓ev_aload_n_0, ↓ev_getf_0_3, ↓ev_iald_m1, ↓ev_iald_m2, ↓ev_iald_m3, ↓ev_iald_m4, ↓ev_iald_m5, ↓ev_iald_m6, ↓ev_iinc_4_1, ↓ev_goto, Nat.reduceAdd]
    try simp (disch := omega) only [pk_mul, nI_add, n_lt0, n_le0, n_eq0, n_ge0, n_gt0, n_lt, n_le, n_eq, n_in, n_div, n_rem, n_rem2, n_m1, nI_clamp, bz_0, bz_1, tI_0, tI_bz, n4, n16, eq_self, Nat.reduceLT, Nat.reduceLeDiff, Nat.reduceEqDiff, Nat.reduceAdd, Nat.reduceMul, Nat.reduceDiv, Nat.reduceMod, Nat.le_refl, decide_eq_false_iff_not, Classical.not_not, true_and, and_true, false_and, and_false, not_true_eq_false, not_false_eq_true, forall_const, true_implies, false_implies, implies_true, ne_eq]
    refine ⟨fun c => absurd c (by omega), fun _ => ⟨fun c => ?_, fun c => ⟨fun c2 => ?_, fun c2 => ?_⟩⟩⟩
    · rwa [sto, if_neg (fun z => Int32.not_lt.mpr z.1 c)] at hp
    · rwa [sto, if_neg (fun z => Int32.not_lt.mpr c2 z.2)] at hp
    · rw [sto, if_pos ⟨Int32.not_lt.mp c, Int32.not_le.mp c2⟩] at hp
      refine ⟨fun c3 => ?_, fun c3 => ?_⟩
      · rw [if_neg c3] at hp
        obtain ⟨y, hy, rfl⟩ := (i_cases z).resolve_left c
        have hy6 : y < 6 := by
          have := c2
          try simp (disch := omega) only [pk_mul, nI_add, n_lt0, n_le0, n_eq0, n_ge0, n_gt0, n_lt, n_le, n_eq, n_in, n_div, n_rem, n_rem2, n_m1, nI_clamp, bz_0, bz_1, tI_0, tI_bz, n4, n16, eq_self, Nat.reduceLT, Nat.reduceLeDiff, Nat.reduceEqDiff, Nat.reduceAdd, Nat.reduceMul, Nat.reduceDiv, Nat.reduceMod, Nat.le_refl, decide_eq_false_iff_not, Classical.not_not, true_and, and_true, false_and, and_false, not_true_eq_false, not_false_eq_true, forall_const, true_implies, false_implies, implies_true, ne_eq] at this
          omega
        have e : h (.inl (i, 4)) y = bk S y := hC.2.2.2.1 y hy6
        try simp (disch := omega) only [pk_mul, nI_add, n_lt0, n_le0, n_eq0, n_ge0, n_gt0, n_lt, n_le, n_eq, n_in, n_div, n_rem, n_rem2, n_m1, nI_clamp, bz_0, bz_1, tI_0, tI_bz, n4, n16, eq_self, Nat.reduceLT, Nat.reduceLeDiff, Nat.reduceEqDiff, Nat.reduceAdd, Nat.reduceMul, Nat.reduceDiv, Nat.reduceMod, Nat.le_refl, decide_eq_false_iff_not, Classical.not_not, true_and, and_true, false_and, and_false, not_true_eq_false, not_false_eq_true, forall_const, true_implies, false_implies, implies_true, ne_eq, e]
        rw [nI_clamp hy] at hp
        exact ⟨hy6, ih (k + 1) _ (by omega) hp⟩
      · rwa [if_pos c3] at hp
/-- one more layer -/
def addL (S : St) (b : Int32) : St := upd (upd S (321 + mn S) b) 320 (nI (mn S + 1))
theorem k_addLayer {b : Int32} {p : Int32 → mH → Prop} (hC : CR h i S) (hm : mn S < 6) (h0 : ∀ k, k < 4 → S (327 + 4 * mn S + k) = nI 0) (hp : ∀ h', Oi i h h' → CR h' i (addL S b) → p (nI (mn S)) h') : mI (Kd sL (d + 1)) 4 [.inr (.inr (.inl (i, 0))), .inl b] h p := by
  refine ke_X0_addLayer ?_
  refine EX.go (Kd_mono _ _) [false, false, false] 40 0 ?_
  dsimp only [wpc_s, wsl_t, wsl_f, gD_0, gD_s, ↓denB_n, pI_s, pG_s, pU_n, cb_X0_addLayer_0, cb_X0_addLayer_1, cb_X0_addLayer_2, ↓ev_aload_n_0, ↓ev_getf_0_5, ↓ev_istore_n_2, ↓ev_iload_n_2, ↓ev_bipush_6, ↓ev_icmp_lt, ↓ev_iconst_m1, ↓ev_iret, ↓ev_getf_0_3, ↓ev_iload_n_1, ↓ev_iast_m1, ↓ev_iast_m2, ↓ev_iast_m3, ↓ev_iast_m4, ↓ev_iast_m5, ↓ev_iast_m6, ↓ev_dup, ↓ev_dupr, ↓ev_iconst_1, ↓ev_iadd, ↓ev_putf_0_5, Nat.reduceAdd]
  have e6 : h (.inl (i, 0)) 5 = nI (mn S) := hC.2.2.2.2.2.1
  have e7 : ∀ v, hup h (.inl (i, 4)) (mn S) v (.inl (i, 0)) 5 = nI (mn S) := fun v => by rw [hup_other (by simp), e6]
  try simp (disch := omega) only [pk_mul, nI_add, n_lt0, n_le0, n_eq0, n_ge0, n_gt0, n_lt, n_le, n_eq, n_in, n_div, n_rem, n_rem2, n_m1, nI_clamp, bz_0, bz_1, tI_0, tI_bz, n4, n16, eq_self, Nat.reduceLT, Nat.reduceLeDiff, Nat.reduceEqDiff, Nat.reduceAdd, Nat.reduceMul, Nat.reduceDiv, Nat.reduceMod, Nat.le_refl, decide_eq_false_iff_not, Classical.not_not, true_and, and_true, false_and, and_false, not_true_eq_false, not_false_eq_true, forall_const, true_implies, false_implies, implies_true, ne_eq, e6, e7]
  refine ⟨fun _ => ⟨hm, ?_⟩, fun c => absurd hm c⟩
  obtain ⟨h1, h2, h3, h4, h5, -, h7, h8⟩ := hC
  have m1 : mn (addL S b) = mn S + 1 := by
    unfold addL
    show (upd _ 320 _ 320).toNatClampNeg = _
    rw [pk_us, nI_clamp (by omega)]
  have hlo : ∀ j, j ≠ 320 → j ≠ 321 + mn S → addL S b j = S j := fun j a1 a2 => by unfold addL; rw [pk_un a1, pk_un a2]
  have hbk : addL S b (321 + mn S) = b := by unfold addL; rw [pk_un (by omega), pk_us]
  have hpr : ∀ x, prs (addL S b) x = if x = mn S then true else prs S x := by
    intro x
    unfold prs
    rw [m1]
    by_cases q : x < 6
    · rw [if_pos q, if_pos q]
      by_cases q2 : x = mn S
      · subst q2; simp
      · rw [if_neg q2]
        congr 1
        apply propext
        omega
    · rw [if_neg q, if_neg q, if_neg (by omega), hlo (377 + x) (by omega) (by omega)]
  refine hp _ (Oi.up.tr Oi.up) ⟨fun j hj => ?_, fun j hj => ?_, fun x k hx hk => ?_, fun l hl => ?_, fun s hs => ?_, ?_, ?_, ?_⟩
  · rw [hup_other (by simp), hup_other (by simp), h1 j hj, hlo _ (by omega) (by omega)]
  · rw [hup_other (by simp), hup_other (by simp), h2 j hj, hlo _ (by omega) (by omega)]
  · rw [hup_other (by simp), hup_other (by simp), h3 x k hx hk]
    unfold tb
    rw [hpr, hlo (327 + 4 * x + k) (by omega) (by omega)]
    by_cases q2 : x = mn S
    · subst q2
      have : prs S (mn S) = false := by unfold prs; rw [if_pos hm]; simp
      rw [this, h0 k hk]
      simp [cl_n]
    · rw [if_neg q2]
  · rw [hup_other (by simp)]
    unfold bk
    rw [m1]
    by_cases q2 : l = mn S
    · subst q2
      rw [if_pos (by omega), hbk]
      simp [hup]
    · rw [hlo _ (by omega) (by omega)]
      have : hup h (.inl (i, 4)) (mn S) b (.inl (i, 4)) l = h (.inl (i, 4)) l := by simp [hup, q2]
      rw [this, h4 l hl]
      unfold bk
      by_cases q3 : l < mn S
      · rw [if_pos q3, if_pos (by omega)]
      · rw [if_neg q3, if_neg (by omega)]
  · rw [hup_other (by simp), hup_other (by simp), h5 s hs]
    unfold sn
    rw [hlo _ (by omega) (by omega), hlo _ (by omega) (by omega)]
  · rw [m1]
    simp [hup]
  · omega
  · have : hup (hup h (.inl (i, 4)) (mn S) b) (.inl (i, 0)) 5 (nI (mn S + 1)) (.inl (i, 0)) 6 = h (.inl (i, 0)) 6 := by simp [hup]
    rw [this, h8, hlo _ (by omega) (by omega)]
/-- the least like one, of a set -/
def lsA (S : St) (P : Nat → Bool) (dd e : Nat) : Prop := (e = dd ∨ (1 ≤ e ∧ e < dd ∧ P e = true ∧ alk S e dd)) ∧ ∀ j, 1 ≤ j → j < e → ¬ (P j = true ∧ alk S j dd)
theorem k_leastAlike {P : Nat → Bool} {dd : Nat} {p : Int32 → mH → Prop} (hC : CR h i S) (hd : dd < 64) (hp : ∀ e, e < 64 → lsA S P dd e → p (nI e) h) : mI (Kd sL (d + 2)) 17 [.inr (.inr (.inl (i, 0))), .inr (.inl (lOr P 64)), .inl (nI dd)] h p := by
  refine ke_X0_leastAlike ?_
  refine EX.go (Kd_mono _ _) [false, true, false, false, false, false, false] 40 0 ?_
  dsimp only [wpc_s, wsl_t, wsl_f, gD_0, gD_s, ↓denB_n, pI_s, pG_s, pU_n, cb_X0_leastAlike_0, cb_X0_leastAlike_1, cb_X0_leastAlike_2, cb_X0_leastAlike_3, cb_X0_leastAlike_4, cb_X0_leastAlike_5, cb_X0_leastAlike_6, ↓ev_iconst_1, ↓ev_istore_4, ↓ev_iload_4, ↓ev_iload_n_3, ↓ev_icmp_ge, ↓ev_lload_n_1, ↓ev_calls_2_0_1, ↓ev_calls_2_1_1, ↓ev_calls_2_2_1, ↓ev_calls_2_3_1, ↓ev_calls_2_4_1, ↓ev_if_eq, ↓ev_aload_n_0, ↓ev_callv_3_0_1, ↓ev_callv_3_1_1, ↓ev_callv_3_2_1, ↓ev_callv_3_3_1, ↓ev_callv_3_4_1, ↓ev_callv_3_5_1, ↓ev_iret, ↓ev_iinc_4_1, ↓ev_goto, Nat.reduceAdd]
  suffices H : ∀ (f k : Nat), k + f = dd ∨ (f = 0 ∧ dd ≤ k) → 1 ≤ k → k ≤ dd + 1 → (∀ j, 1 ≤ j → j < k → ¬ (P j = true ∧ alk S j dd)) → EX (Kd sL (d + 1)) sL md_X0_leastAlike (pI p) 1 [some (.inr (.inr (.inl (i, 0)))), some (.inr (.inl (lOr P 64))), none, some (.inl (nI dd)), some (.inl (nI k))] [] h from H (dd - 1) 1 (by omega) (Nat.le_refl 1) (by omega) (fun j h1 h2 => by omega)
  intro f
  induction f with
  | zero =>
    intro k hk h1 h2 hj
    refine EX.go (Kd_mono _ _) [false, true, false, false, false, false, false] 40 1 ?_
    dsimp only [wpc_s, wsl_t, wsl_f, gD_0, gD_s, ↓denB_n, pI_s, pG_s, pU_n, cb_X0_leastAlike_0, cb_X0_leastAlike_1, cb_X0_leastAlike_2, cb_X0_leastAlike_3, cb_X0_leastAlike_4, cb_X0_leastAlike_5, cb_X0_leastAlike_6, ↓ev_iconst_1, ↓ev_istore_4, ↓ev_iload_4, ↓ev_iload_n_3, ↓ev_icmp_ge, ↓ev_lload_n_1, ↓ev_calls_2_0_1, ↓ev_calls_2_1_1, ↓ev_calls_2_2_1, ↓ev_calls_2_3_1, ↓ev_calls_2_4_1, ↓ev_if_eq, ↓ev_aload_n_0, ↓ev_callv_3_0_1, ↓ev_callv_3_1_1, ↓ev_callv_3_2_1, ↓ev_callv_3_3_1, ↓ev_callv_3_4_1, ↓ev_callv_3_5_1, ↓ev_iret, ↓ev_iinc_4_1, ↓ev_goto, Nat.reduceAdd]
    try simp (disch := omega) only [pk_mul, nI_add, n_lt0, n_le0, n_eq0, n_ge0, n_gt0, n_lt, n_le, n_eq, n_in, n_div, n_rem, n_rem2, n_m1, nI_clamp, bz_0, bz_1, tI_0, tI_bz, n4, n16, eq_self, Nat.reduceLT, Nat.reduceLeDiff, Nat.reduceEqDiff, Nat.reduceAdd, Nat.reduceMul, Nat.reduceDiv, Nat.reduceMod, Nat.le_refl, decide_eq_false_iff_not, Classical.not_not, true_and, and_true, false_and, and_false, not_true_eq_false, not_false_eq_true, forall_const, true_implies, false_implies, implies_true, ne_eq]
    refine ⟨fun _ => hp dd hd ⟨Or.inl rfl, fun j e1 e2 => hj j e1 (by omega)⟩, fun c => absurd (show dd ≤ k by omega) c⟩
  | succ f ih =>
    intro k hk h1 h2 hj
    refine EX.go (Kd_mono _ _) [false, true, false, false, false, false, false] 40 1 ?_
    dsimp only [wpc_s, wsl_t, wsl_f, gD_0, gD_s, ↓denB_n, pI_s, pG_s, pU_n, cb_X0_leastAlike_0, cb_X0_leastAlike_1, cb_X0_leastAlike_2, cb_X0_leastAlike_3, cb_X0_leastAlike_4, cb_X0_leastAlike_5, cb_X0_leastAlike_6, ↓ev_iconst_1, ↓ev_istore_4, ↓ev_iload_4, ↓ev_iload_n_3, ↓ev_icmp_ge, ↓ev_lload_n_1, ↓ev_calls_2_0_1, ↓ev_calls_2_1_1, ↓ev_calls_2_2_1, ↓ev_calls_2_3_1, ↓ev_calls_2_4_1, ↓ev_if_eq, ↓ev_aload_n_0, ↓ev_callv_3_0_1, ↓ev_callv_3_1_1, ↓ev_callv_3_2_1, ↓ev_callv_3_3_1, ↓ev_callv_3_4_1, ↓ev_callv_3_5_1, ↓ev_iret, ↓ev_iinc_4_1, ↓ev_goto, Nat.reduceAdd]
    try simp (disch := omega) only [pk_mul, nI_add, n_lt0, n_le0, n_eq0, n_ge0, n_gt0, n_lt, n_le, n_eq, n_in, n_div, n_rem, n_rem2, n_m1, nI_clamp, bz_0, bz_1, tI_0, tI_bz, n4, n16, eq_self, Nat.reduceLT, Nat.reduceLeDiff, Nat.reduceEqDiff, Nat.reduceAdd, Nat.reduceMul, Nat.reduceDiv, Nat.reduceMod, Nat.le_refl, decide_eq_false_iff_not, Classical.not_not, true_and, and_true, false_and, and_false, not_true_eq_false, not_false_eq_true, forall_const, true_implies, false_implies, implies_true, ne_eq]
    refine ⟨fun c => absurd c (by omega), fun _ => ?_⟩
    have nxt : ¬ (P k = true ∧ alk S k dd) → EX (Kd sL (d + 1)) sL md_X0_leastAlike (pI p) 1 [some (.inr (.inr (.inl (i, 0)))), some (.inr (.inl (lOr P 64))), none, some (.inl (nI dd)), some (.inl (nI (k + 1)))] [] h := fun hn => ih (k + 1) (by omega) (by omega) (by omega) (fun j e1 e2 => by
      rcases Nat.lt_or_ge j k with q | q
      · exact hj j e1 q
      · rw [show j = k by omega]; exact hn)
    refine k_isIn (by omega) ?_
    try simp (disch := omega) only [pk_mul, nI_add, n_lt0, n_le0, n_eq0, n_ge0, n_gt0, n_lt, n_le, n_eq, n_in, n_div, n_rem, n_rem2, n_m1, nI_clamp, bz_0, bz_1, tI_0, tI_bz, n4, n16, eq_self, Nat.reduceLT, Nat.reduceLeDiff, Nat.reduceEqDiff, Nat.reduceAdd, Nat.reduceMul, Nat.reduceDiv, Nat.reduceMod, Nat.le_refl, decide_eq_false_iff_not, Classical.not_not, true_and, and_true, false_and, and_false, not_true_eq_false, not_false_eq_true, forall_const, true_implies, false_implies, implies_true, ne_eq]
    refine ⟨fun c => nxt (fun z => by rw [c] at z; cases z.1), fun c => ?_⟩
    refine k_alike hC (by omega) hd ?_
    try simp (disch := omega) only [pk_mul, nI_add, n_lt0, n_le0, n_eq0, n_ge0, n_gt0, n_lt, n_le, n_eq, n_in, n_div, n_rem, n_rem2, n_m1, nI_clamp, bz_0, bz_1, tI_0, tI_bz, n4, n16, eq_self, Nat.reduceLT, Nat.reduceLeDiff, Nat.reduceEqDiff, Nat.reduceAdd, Nat.reduceMul, Nat.reduceDiv, Nat.reduceMod, Nat.le_refl, decide_eq_false_iff_not, Classical.not_not, true_and, and_true, false_and, and_false, not_true_eq_false, not_false_eq_true, forall_const, true_implies, false_implies, implies_true, ne_eq, dec_f]
    exact ⟨fun c2 => nxt (fun z => c2 z.2), fun c2 => hp k (by omega) ⟨Or.inr ⟨h1, by omega, by simpa using c, c2⟩, hj⟩⟩
end IM2
