/-! ===== class Image: what it reads ===== -/
section IMG
variable {sL d : Nat} {h : mH} {i : Fin 3} {S : St} {p : Int32 → mH → Prop}
theorem k_hasLayer {x : Int32} (hC : CR h i S) (hp : p (tI (decide (¬ x < 0 ∧ x < nI (mn S)))) h) : mI (Kd sL (d + 1)) 1 [.inr (.inr (.inl (i, 0))), .inl x] h p := by
  refine ke_X0_hasLayer ?_
  refine EX.go (Kd_mono _ _) [false, false, false, false, false, false] 40 0 ?_
  dsimp only [wpc_s, wsl_t, wsl_f, gD_0, gD_s, ↓denB_n, pI_s, pG_s, pU_n, cb_X0_hasLayer_0, cb_X0_hasLayer_1, cb_X0_hasLayer_2, cb_X0_hasLayer_3, cb_X0_hasLayer_4, cb_X0_hasLayer_5, ↓ev_iload_n_1, ↓ev_if_lt, ↓ev_aload_n_0, ↓ev_getf_0_5, ↓ev_icmp_ge, ↓ev_bipush_6, ↓ev_iconst_1, ↓ev_goto, ↓ev_iconst_0, ↓ev_zret, Nat.reduceAdd]
  obtain ⟨-, -, -, -, -, h5, h6, -⟩ := hC
  rw [h5]
  have hb : nI (mn S) ≤ nI 6 := nI_le h6 (by decide)
  refine ⟨fun c => ⟨Or.inl rfl, pf hp (fun z => z.1 c)⟩, fun c => ⟨fun c2 => ⟨Or.inl rfl, pf hp (fun z => Int32.not_lt.mpr c2 z.2)⟩, fun c2 => ⟨fun c3 => absurd (Int32.le_trans hb c3) c2, fun c3 => ⟨Or.inr rfl, pt hp ⟨c, Int32.not_le.mp c2⟩⟩⟩⟩⟩
theorem k_hasBacking {x : Int32} (hC : CR h i S) (hp : p (tI (decide (x = -1 ∨ (¬ x < 0 ∧ x < nI (mn S))))) h) : mI (Kd sL (d + 2)) 2 [.inr (.inr (.inl (i, 0))), .inl x] h p := by
  refine ke_X0_hasBacking ?_
  refine EX.go (Kd_mono _ _) [false, false, false, false, false] 40 0 ?_
  dsimp only [wpc_s, wsl_t, wsl_f, gD_0, gD_s, ↓denB_n, pI_s, pG_s, pU_n, cb_X0_hasBacking_0, cb_X0_hasBacking_1, cb_X0_hasBacking_2, cb_X0_hasBacking_3, cb_X0_hasBacking_4, ↓ev_iload_n_1, ↓ev_iconst_m1, ↓ev_icmp_eq, ↓ev_aload_n_0, ↓ev_callv_2_0_1, ↓ev_callv_2_1_1, ↓ev_callv_2_2_1, ↓ev_callv_2_3_1, ↓ev_callv_2_4_1, ↓ev_if_eq, ↓ev_iconst_1, ↓ev_goto, ↓ev_iconst_0, ↓ev_zret, Nat.reduceAdd]
  refine ⟨fun c => ⟨Or.inr rfl, pt hp (Or.inl c)⟩, fun c => k_hasLayer hC ?_⟩
  try simp (disch := omega) only [pk_mul, nI_add, n_lt0, n_le0, n_eq0, n_ge0, n_gt0, n_lt, n_le, n_eq, n_in, n_div, n_rem, n_rem2, n_m1, nI_clamp, bz_0, bz_1, tI_0, tI_bz, n4, n16, eq_self, Nat.reduceLT, Nat.reduceLeDiff, Nat.reduceEqDiff, Nat.reduceAdd, Nat.reduceMul, Nat.reduceDiv, Nat.reduceMod, Nat.le_refl, decide_eq_false_iff_not, Classical.not_not, true_and, and_true, false_and, and_false, not_true_eq_false, not_false_eq_true, forall_const, true_implies, false_implies, implies_true, ne_eq]
  exact ⟨fun c2 => pf hp (fun z => z.elim c c2), fun c2 => pt hp (Or.inr c2)⟩
theorem k_hasSnapshot {x : Int32} (hC : CR h i S) (hp : p (tI (decide (¬ x < 0 ∧ x < nI 8 ∧ ¬ sn S x.toNatClampNeg = -1))) h) : mI (Kd sL (d + 1)) 3 [.inr (.inr (.inl (i, 0))), .inl x] h p := by
  refine ke_X0_hasSnapshot ?_
  refine EX.go (Kd_mono _ _) [false, false, false, false, false, false] 40 0 ?_
  dsimp only [wpc_s, wsl_t, wsl_f, gD_0, gD_s, ↓denB_n, pI_s, pG_s, pU_n, cb_X0_hasSnapshot_0, cb_X0_hasSnapshot_1, cb_X0_hasSnapshot_2, cb_X0_hasSnapshot_3, cb_X0_hasSnapshot_4, cb_X0_hasSnapshot_5, ↓ev_iload_n_1, ↓ev_if_lt, ↓ev_bipush_8, ↓ev_icmp_ge, ↓ev_aload_n_0, ↓ev_getf_0_4, ↓ev_iald_m1, ↓ev_iald_m2, ↓ev_iald_m3, ↓ev_iald_m4, ↓ev_iald_m5, ↓ev_iald_m6, ↓ev_iconst_m1, ↓ev_icmp_eq, ↓ev_iconst_1, ↓ev_goto, ↓ev_iconst_0, ↓ev_zret, Nat.reduceAdd]
  refine ⟨fun c => ⟨Or.inl rfl, pf hp (fun z => z.1 c)⟩, fun c => ⟨fun c2 => ⟨Or.inl rfl, pf hp (fun z => Int32.not_lt.mpr c2 z.2.1)⟩, fun c2 => ?_⟩⟩
  obtain ⟨k, hk, rfl⟩ := (i_cases x).resolve_left c
  have hk8 : k < 8 := by
    have := c2
    try simp (disch := omega) only [pk_mul, nI_add, n_lt0, n_le0, n_eq0, n_ge0, n_gt0, n_lt, n_le, n_eq, n_in, n_div, n_rem, n_rem2, n_m1, nI_clamp, bz_0, bz_1, tI_0, tI_bz, n4, n16, eq_self, Nat.reduceLT, Nat.reduceLeDiff, Nat.reduceEqDiff, Nat.reduceAdd, Nat.reduceMul, Nat.reduceDiv, Nat.reduceMod, Nat.le_refl, decide_eq_false_iff_not, Classical.not_not, true_and, and_true, false_and, and_false, not_true_eq_false, not_false_eq_true, forall_const, true_implies, false_implies, implies_true, ne_eq] at this
    omega
  have e : h (.inl (i, 5)) k = sn S k := hC.2.2.2.2.1 k hk8
  try simp (disch := omega) only [pk_mul, nI_add, n_lt0, n_le0, n_eq0, n_ge0, n_gt0, n_lt, n_le, n_eq, n_in, n_div, n_rem, n_rem2, n_m1, nI_clamp, bz_0, bz_1, tI_0, tI_bz, n4, n16, eq_self, Nat.reduceLT, Nat.reduceLeDiff, Nat.reduceEqDiff, Nat.reduceAdd, Nat.reduceMul, Nat.reduceDiv, Nat.reduceMod, Nat.le_refl, decide_eq_false_iff_not, Classical.not_not, true_and, and_true, false_and, and_false, not_true_eq_false, not_false_eq_true, forall_const, true_implies, false_implies, implies_true, ne_eq, e]
  rw [nI_clamp hk] at hp
  exact ⟨hk8, fun c3 => pf hp (fun z => z.2.2 c3), fun c3 => pt hp ⟨c, Int32.not_le.mp c2, c3⟩⟩
theorem k_tableAt {dd k : Nat} (hC : CR h i S) (hd : dd < 14) (hk : k < 4) (hp : p (nI (tb S dd k)) h) : mI (Kd sL (d + 1)) 9 [.inr (.inr (.inl (i, 0))), .inl (nI dd), .inl (nI k)] h p := by
  refine ke_X0_tableAt ?_
  refine EX.go (Kd_mono _ _) [false, false, false, false, false, false, false, false, false] 40 0 ?_
  dsimp only [wpc_s, wsl_t, wsl_f, gD_0, gD_s, ↓denB_n, pI_s, pG_s, pU_n, cb_X0_tableAt_0, cb_X0_tableAt_1, cb_X0_tableAt_2, cb_X0_tableAt_3, cb_X0_tableAt_4, cb_X0_tableAt_5, cb_X0_tableAt_6, cb_X0_tableAt_7, cb_X0_tableAt_8, ↓ev_iload_n_1, ↓ev_iconst_4, ↓ev_imul, ↓ev_iload_n_2, ↓ev_iadd, ↓ev_istore_n_3, ↓ev_iload_n_3, ↓ev_if_lt, ↓ev_aload_n_0, ↓ev_getf_0_2, ↓ev_alen_m1, ↓ev_alen_m2, ↓ev_alen_m3, ↓ev_alen_m4, ↓ev_alen_m5, ↓ev_alen_m6, ↓ev_icmp_ge, ↓ev_iald_m1, ↓ev_iald_m2, ↓ev_iald_m3, ↓ev_iald_m4, ↓ev_iald_m5, ↓ev_iald_m6, ↓ev_goto, ↓ev_iconst_0, ↓ev_istore_4, ↓ev_iload_4, ↓ev_if_le, ↓ev_bipush_64, ↓ev_iret, Nat.reduceAdd]
  have e : h (.inl (i, 3)) (dd * 4 + k) = nI (tb S dd k) := by rw [Nat.mul_comm]; exact hC.2.2.1 dd k hd hk
  have hl := tb_lt S dd k
  try simp (disch := omega) only [pk_mul, nI_add, n_lt0, n_le0, n_eq0, n_ge0, n_gt0, n_lt, n_le, n_eq, n_in, n_div, n_rem, n_rem2, n_m1, nI_clamp, bz_0, bz_1, tI_0, tI_bz, n4, n16, eq_self, Nat.reduceLT, Nat.reduceLeDiff, Nat.reduceEqDiff, Nat.reduceAdd, Nat.reduceMul, Nat.reduceDiv, Nat.reduceMod, Nat.le_refl, decide_eq_false_iff_not, Classical.not_not, true_and, and_true, false_and, and_false, not_true_eq_false, not_false_eq_true, forall_const, true_implies, false_implies, implies_true, ne_eq, e]
  refine ⟨fun c => absurd c (by omega), fun c => ⟨by omega, fun c2 => ?_, fun c2 => ⟨fun c3 => absurd c3 (by omega), fun _ => hp⟩⟩⟩
  rw [c2] at hp
  exact hp
theorem k_dataAt {t k : Nat} (hC : CR h i S) (ht : t < 64) (hk : k < 4) (hp : p (nI (dt S t k)) h) : mI (Kd sL (d + 1)) 10 [.inr (.inr (.inl (i, 0))), .inl (nI t), .inl (nI k)] h p := by
  refine ke_X0_dataAt ?_
  refine EX.go (Kd_mono _ _) [false, false, false, false, false, false, false, false, false] 40 0 ?_
  dsimp only [wpc_s, wsl_t, wsl_f, gD_0, gD_s, ↓denB_n, pI_s, pG_s, pU_n, cb_X0_dataAt_0, cb_X0_dataAt_1, cb_X0_dataAt_2, cb_X0_dataAt_3, cb_X0_dataAt_4, cb_X0_dataAt_5, cb_X0_dataAt_6, cb_X0_dataAt_7, cb_X0_dataAt_8, ↓ev_iload_n_1, ↓ev_iconst_4, ↓ev_imul, ↓ev_iload_n_2, ↓ev_iadd, ↓ev_istore_n_3, ↓ev_iload_n_3, ↓ev_icmp_lt, ↓ev_aload_n_0, ↓ev_getf_0_0, ↓ev_alen_m1, ↓ev_alen_m2, ↓ev_alen_m3, ↓ev_alen_m4, ↓ev_alen_m5, ↓ev_alen_m6, ↓ev_icmp_ge, ↓ev_iald_m1, ↓ev_iald_m2, ↓ev_iald_m3, ↓ev_iald_m4, ↓ev_iald_m5, ↓ev_iald_m6, ↓ev_goto, ↓ev_iconst_0, ↓ev_istore_4, ↓ev_iload_4, ↓ev_if_le, ↓ev_bipush_64, ↓ev_iret, Nat.reduceAdd]
  have e : h (.inl (i, 1)) (t * 4 + k) = S (64 + 4 * t + k) := by rw [hC.1 _ (by omega)]; congr 1; omega
  try simp (disch := omega) only [pk_mul, nI_add, n_lt0, n_le0, n_eq0, n_ge0, n_gt0, n_lt, n_le, n_eq, n_in, n_div, n_rem, n_rem2, n_m1, nI_clamp, bz_0, bz_1, tI_0, tI_bz, n4, n16, eq_self, Nat.reduceLT, Nat.reduceLeDiff, Nat.reduceEqDiff, Nat.reduceAdd, Nat.reduceMul, Nat.reduceDiv, Nat.reduceMod, Nat.le_refl, decide_eq_false_iff_not, Classical.not_not, true_and, and_true, false_and, and_false, not_true_eq_false, not_false_eq_true, forall_const, true_implies, false_implies, implies_true, ne_eq, e]
  unfold dt at hp
  refine ⟨fun c => ?_, fun c => ⟨fun c2 => absurd c2 (by omega), fun c2 => ⟨by omega, ?_⟩⟩⟩
  · rwa [if_pos (by omega)] at hp
  · rw [if_neg (by omega)] at hp
    refine ⟨fun c3 => ?_, fun c3 => ⟨fun c4 => ?_, fun c4 => ?_⟩⟩
    · rwa [cl_le c3] at hp
    · rwa [cl_ge c4] at hp
    · rwa [cl_in c3 c4] at hp
theorem k_dataOf {dd b : Nat} (hC : CR h i S) (hd : dd < 14) (hb : b < 16) (hp : p (nI (dof S dd b)) h) : mI (Kd sL (d + 2)) 11 [.inr (.inr (.inl (i, 0))), .inl (nI dd), .inl (nI b)] h p := by
  refine ke_X0_dataOf ?_
  refine EX.go (Kd_mono _ _) [false] 40 0 ?_
  dsimp only [wpc_s, wsl_t, wsl_f, gD_0, gD_s, ↓denB_n, pI_s, pG_s, pU_n, cb_X0_dataOf_0, ↓ev_aload_n_0, ↓ev_iload_n_1, ↓ev_iload_n_2, ↓ev_iconst_4, ↓ev_idiv, ↓ev_callv_3_0_1, ↓ev_callv_3_1_1, ↓ev_callv_3_2_1, ↓ev_callv_3_3_1, ↓ev_callv_3_4_1, ↓ev_callv_3_5_1, ↓ev_irem, ↓ev_iret, Nat.reduceAdd]
  try simp (disch := omega) only [pk_mul, nI_add, n_lt0, n_le0, n_eq0, n_ge0, n_gt0, n_lt, n_le, n_eq, n_in, n_div, n_rem, n_rem2, n_m1, nI_clamp, bz_0, bz_1, tI_0, tI_bz, n4, n16, eq_self, Nat.reduceLT, Nat.reduceLeDiff, Nat.reduceEqDiff, Nat.reduceAdd, Nat.reduceMul, Nat.reduceDiv, Nat.reduceMod, Nat.le_refl, decide_eq_false_iff_not, Classical.not_not, true_and, and_true, false_and, and_false, not_true_eq_false, not_false_eq_true, forall_const, true_implies, false_implies, implies_true, ne_eq]
  refine k_tableAt hC hd (by omega) ?_
  refine k_dataAt hC (tb_lt _ _ _) (by omega) ?_
  exact hp
theorem k_at {pl : Nat} {x : Int32} (hC : CR h i S) (hpl : pl < 64) (hp : p (rdf S 6 x pl) h) : mI (Kd sL (d + 2)) 13 [.inr (.inr (.inl (i, 0))), .inl x, .inl (nI pl)] h p := by
  refine ke_X0_at ?_
  refine EX.go (Kd_mono _ _) [false, true, false, false, false, false, false, false] 40 0 ?_
  dsimp only [wpc_s, wsl_t, wsl_f, gD_0, gD_s, ↓denB_n, pI_s, pG_s, pU_n, cb_X0_at_0, cb_X0_at_1, cb_X0_at_2, cb_X0_at_3, cb_X0_at_4, cb_X0_at_5, cb_X0_at_6, cb_X0_at_7, ↓ev_iload_n_1, ↓ev_istore_n_3, ↓ev_iconst_0, ↓ev_istore_4, ↓ev_iload_4, ↓ev_bipush_6, ↓ev_icmp_ge, ↓ev_iload_n_3, ↓ev_if_lt, ↓ev_aload_n_0, ↓ev_iload_n_2, ↓ev_bipush_16, ↓ev_idiv, ↓ev_callv_3_0_1, ↓ev_callv_3_1_1, ↓ev_callv_3_2_1, ↓ev_callv_3_3_1, ↓ev_callv_3_4_1, ↓ev_callv_3_5_1, ↓ev_iconst_4, ↓ev_irem, ↓ev_istore_5, ↓ev_iload_5, ↓ev_if_eq, ↓ev_getf_0_0, ↓ev_imul, ↓ev_iadd, ↓ev_iald_m1, ↓ev_iald_m2, ↓ev_iald_m3, ↓ev_iald_m4, ↓ev_iald_m5, ↓ev_iald_m6, ↓ev_iret, ↓ev_getf_0_3, ↓ev_iinc_4_1, ↓ev_goto, Nat.reduceAdd]
  suffices H : ∀ (f k : Nat) (l : Int32) (o : Option mV), k + f = 6 → p (rdf S f l pl) h → EX (Kd sL (d + 1)) sL md_X0_at (pI p) 1 [some (.inr (.inr (.inl (i, 0)))), some (.inl x), some (.inl (nI pl)), some (.inl l), some (.inl (nI k)), o] [] h from H 6 0 x none rfl hp
  intro f
  induction f with
  | zero =>
    intro k l o hk hp
    refine EX.go (Kd_mono _ _) [false, true, false, false, false, false, false, false] 40 1 ?_
    dsimp only [wpc_s, wsl_t, wsl_f, gD_0, gD_s, ↓denB_n, pI_s, pG_s, pU_n, cb_X0_at_0, cb_X0_at_1, cb_X0_at_2, cb_X0_at_3, cb_X0_at_4, cb_X0_at_5, cb_X0_at_6, cb_X0_at_7, ↓ev_iload_n_1, ↓ev_istore_n_3, ↓ev_iconst_0, ↓ev_istore_4, ↓ev_iload_4, ↓ev_bipush_6, ↓ev_icmp_ge, ↓ev_iload_n_3, ↓ev_if_lt, ↓ev_aload_n_0, ↓ev_iload_n_2, ↓ev_bipush_16, ↓ev_idiv, ↓ev_callv_3_0_1, ↓ev_callv_3_1_1, ↓ev_callv_3_2_1, ↓ev_callv_3_3_1, ↓ev_callv_3_4_1, ↓ev_callv_3_5_1, ↓ev_iconst_4, ↓ev_irem, ↓ev_istore_5, ↓ev_iload_5, ↓ev_if_eq, ↓ev_getf_0_0, ↓ev_imul, ↓ev_iadd, ↓ev_iald_m1, ↓ev_iald_m2, ↓ev_iald_m3, ↓ev_iald_m4, ↓ev_iald_m5, ↓ev_iald_m6, ↓ev_iret, ↓ev_getf_0_3, ↓ev_iinc_4_1, ↓ev_goto, Nat.reduceAdd]
    try simp (disch := omega) only [pk_mul, nI_add, n_lt0, n_le0, n_eq0, n_ge0, n_gt0, n_lt, n_le, n_eq, n_in, n_div, n_rem, n_rem2, n_m1, nI_clamp, bz_0, bz_1, tI_0, tI_bz, n4, n16, eq_self, Nat.reduceLT, Nat.reduceLeDiff, Nat.reduceEqDiff, Nat.reduceAdd, Nat.reduceMul, Nat.reduceDiv, Nat.reduceMod, Nat.le_refl, decide_eq_false_iff_not, Classical.not_not, true_and, and_true, false_and, and_false, not_true_eq_false, not_false_eq_true, forall_const, true_implies, false_implies, implies_true, ne_eq]
    exact ⟨fun _ => hp, fun c => absurd (show 6 ≤ k by omega) c⟩
  | succ f ih =>
    intro k l o hk hp
    refine EX.go (Kd_mono _ _) [false, true, false, false, false, false, false, false] 40 1 ?_
    dsimp only [wpc_s, wsl_t, wsl_f, gD_0, gD_s, ↓denB_n, pI_s, pG_s, pU_n, cb_X0_at_0, cb_X0_at_1, cb_X0_at_2, cb_X0_at_3, cb_X0_at_4, cb_X0_at_5, cb_X0_at_6, cb_X0_at_7, ↓ev_iload_n_1, ↓ev_istore_n_3, ↓ev_iconst_0, ↓ev_istore_4, ↓ev_iload_4, ↓ev_bipush_6, ↓ev_icmp_ge, ↓ev_iload_n_3, ↓ev_if_lt, ↓ev_aload_n_0, ↓ev_iload_n_2, ↓ev_bipush_16, ↓ev_idiv, ↓ev_callv_3_0_1, ↓ev_callv_3_1_1, ↓ev_callv_3_2_1, ↓ev_callv_3_3_1, ↓ev_callv_3_4_1, ↓ev_callv_3_5_1, ↓ev_iconst_4, ↓ev_irem, ↓ev_istore_5, ↓ev_iload_5, ↓ev_if_eq, ↓ev_getf_0_0, ↓ev_imul, ↓ev_iadd, ↓ev_iald_m1, ↓ev_iald_m2, ↓ev_iald_m3, ↓ev_iald_m4, ↓ev_iald_m5, ↓ev_iald_m6, ↓ev_iret, ↓ev_getf_0_3, ↓ev_iinc_4_1, ↓ev_goto, Nat.reduceAdd]
    try simp (disch := omega) only [pk_mul, nI_add, n_lt0, n_le0, n_eq0, n_ge0, n_gt0, n_lt, n_le, n_eq, n_in, n_div, n_rem, n_rem2, n_m1, nI_clamp, bz_0, bz_1, tI_0, tI_bz, n4, n16, eq_self, Nat.reduceLT, Nat.reduceLeDiff, Nat.reduceEqDiff, Nat.reduceAdd, Nat.reduceMul, Nat.reduceDiv, Nat.reduceMod, Nat.le_refl, decide_eq_false_iff_not, Classical.not_not, true_and, and_true, false_and, and_false, not_true_eq_false, not_false_eq_true, forall_const, true_implies, false_implies, implies_true, ne_eq]
    refine ⟨fun c => absurd c (by omega), fun _ => ⟨fun c => ?_, fun c => ⟨fun c2 => ?_, fun c2 => ?_⟩⟩⟩
    · rwa [rdf, if_neg (fun z => Int32.not_lt.mpr z.1 c)] at hp
    · rwa [rdf, if_neg (fun z => Int32.not_lt.mpr c2 z.2)] at hp
    · obtain ⟨l, hl, rfl⟩ := (i_cases l).resolve_left c
      have hl6 : l < 6 := by
        have := c2
        try simp (disch := omega) only [pk_mul, nI_add, n_lt0, n_le0, n_eq0, n_ge0, n_gt0, n_lt, n_le, n_eq, n_in, n_div, n_rem, n_rem2, n_m1, nI_clamp, bz_0, bz_1, tI_0, tI_bz, n4, n16, eq_self, Nat.reduceLT, Nat.reduceLeDiff, Nat.reduceEqDiff, Nat.reduceAdd, Nat.reduceMul, Nat.reduceDiv, Nat.reduceMod, Nat.le_refl, decide_eq_false_iff_not, Classical.not_not, true_and, and_true, false_and, and_false, not_true_eq_false, not_false_eq_true, forall_const, true_implies, false_implies, implies_true, ne_eq] at this
        omega
      rw [rdf, if_pos ⟨Int32.not_lt.mp c, Int32.not_le.mp c2⟩, nI_clamp hl] at hp
      refine k_tableAt hC (by omega) (by omega) ?_
      refine k_dataAt hC (tb_lt _ _ _) (by omega) ?_
      have e0 : dt S (tb S l (pl / 16)) (pl / 4 % 4) = dof S l (pl / 4) := by
        unfold dof
        congr 2
        omega
      rw [e0]
      have hdl := dof_lt S l (pl / 4)
      have e : h (.inl (i, 1)) (dof S l (pl / 4) * 4 + pl % 4) = S (64 + (4 * dof S l (pl / 4) + pl % 4)) := by rw [hC.1 _ (by omega), Nat.mul_comm]
      try simp (disch := omega) only [pk_mul, nI_add, n_lt0, n_le0, n_eq0, n_ge0, n_gt0, n_lt, n_le, n_eq, n_in, n_div, n_rem, n_rem2, n_m1, nI_clamp, bz_0, bz_1, tI_0, tI_bz, n4, n16, eq_self, Nat.reduceLT, Nat.reduceLeDiff, Nat.reduceEqDiff, Nat.reduceAdd, Nat.reduceMul, Nat.reduceDiv, Nat.reduceMod, Nat.le_refl, decide_eq_false_iff_not, Classical.not_not, true_and, and_true, false_and, and_false, not_true_eq_false, not_false_eq_true, forall_const, true_implies, false_implies, implies_true, ne_eq, e]
      refine ⟨fun c3 => ?_, fun c3 => ⟨by omega, ?_⟩⟩
      · rw [if_pos c3] at hp
        refine ⟨by omega, ?_⟩
        rw [hC.2.2.2.1 l hl6]
        exact ih (k + 1) (bk S l) _ (by omega) hp
      · rwa [if_neg c3] at hp
theorem k_isIn {P : Nat → Bool} {c : Nat} (hc : c < 64) (hp : p (tI (P c)) h) : mI (Kd sL (d + 1)) 98 [.inr (.inl (lOr P 64)), .inl (nI c)] h p := by
  refine ke_X3_isIn ?_
  refine EX.go (Kd_mono _ _) [false, false, false, false] 40 0 ?_
  dsimp only [wpc_s, wsl_t, wsl_f, gD_0, gD_s, ↓denB_n, pI_s, pG_s, pU_n, cb_X3_isIn_0, cb_X3_isIn_1, cb_X3_isIn_2, cb_X3_isIn_3, ↓ev_lload_n_0, ↓ev_iload_n_2, ↓ev_lushr, ↓ev_lconst_1, ↓ev_land, ↓ev_lconst_0, ↓ev_lcmp, ↓ev_if_eq, ↓ev_iconst_1, ↓ev_goto, ↓ev_iconst_0, ↓ev_zret, Nat.reduceAdd]
  try simp (disch := omega) only [pk_mul, nI_add, n_lt0, n_le0, n_eq0, n_ge0, n_gt0, n_lt, n_le, n_eq, n_in, n_div, n_rem, n_rem2, n_m1, nI_clamp, bz_0, bz_1, tI_0, tI_bz, n4, n16, eq_self, Nat.reduceLT, Nat.reduceLeDiff, Nat.reduceEqDiff, Nat.reduceAdd, Nat.reduceMul, Nat.reduceDiv, Nat.reduceMod, Nat.le_refl, decide_eq_false_iff_not, Classical.not_not, true_and, and_true, false_and, and_false, not_true_eq_false, not_false_eq_true, forall_const, true_implies, false_implies, implies_true, ne_eq, lg_cmp0]
  have key : (((lOr P 64).toUInt64 >>> ((nI c).toInt64.toUInt64 &&& Int64.toUInt64 63)).toInt64 &&& lN 1 = lN 0) = (P c = false) := by
    apply propext
    have hb : ∀ j, j < 64 → tbit ((((lOr P 64).toUInt64 >>> ((nI c).toInt64.toUInt64 &&& Int64.toUInt64 63)).toInt64 &&& lN 1)) j = (P c && decide (j = 0)) := by
      intro j hj
      rw [tbit_and, tbit_ushr hc, tbit_1 j hj]
      by_cases h0 : j = 0
      · subst h0
        rw [Nat.add_zero, tbit_lOr P 64 c (by omega)]
        simp [hc]
      · simp [h0]
    constructor
    · intro e
      have h1 := hb 0 (by decide)
      rw [e, tbit_0] at h1
      simpa using h1.symm
    · intro e
      apply tbit_ext
      intro j hj
      rw [hb j hj, tbit_0, e]
      rfl
  rw [key]
  refine ⟨fun c2 => ?_, fun c2 => ?_⟩
  · rw [c2] at hp; exact hp
  · rw [show P c = true by simpa using c2] at hp; exact hp
theorem k_isCluster {x : Int32} (hp : p (tI (decide (0 < x ∧ x < nI 64))) h) : mI (Kd sL (d + 1)) 97 [.inl x] h p := by
  refine ke_X3_isCluster ?_
  refine EX.go (Kd_mono _ _) [false, false, false, false, false] 40 0 ?_
  dsimp only [wpc_s, wsl_t, wsl_f, gD_0, gD_s, ↓denB_n, pI_s, pG_s, pU_n, cb_X3_isCluster_0, cb_X3_isCluster_1, cb_X3_isCluster_2, cb_X3_isCluster_3, cb_X3_isCluster_4, ↓ev_iload_n_0, ↓ev_if_le, ↓ev_bipush_64, ↓ev_icmp_ge, ↓ev_iconst_1, ↓ev_goto, ↓ev_iconst_0, ↓ev_zret, Nat.reduceAdd]
  try simp (disch := omega) only [pk_mul, nI_add, n_lt0, n_le0, n_eq0, n_ge0, n_gt0, n_lt, n_le, n_eq, n_in, n_div, n_rem, n_rem2, n_m1, nI_clamp, bz_0, bz_1, tI_0, tI_bz, n4, n16, eq_self, Nat.reduceLT, Nat.reduceLeDiff, Nat.reduceEqDiff, Nat.reduceAdd, Nat.reduceMul, Nat.reduceDiv, Nat.reduceMod, Nat.le_refl, decide_eq_false_iff_not, Classical.not_not, true_and, and_true, false_and, and_false, not_true_eq_false, not_false_eq_true, forall_const, true_implies, false_implies, implies_true, ne_eq]
  exact ⟨fun c => pf hp (fun z => Int32.not_lt.mpr c z.1), fun c => ⟨fun c2 => pf hp (fun z => Int32.not_lt.mpr c2 z.2), fun c2 => pt hp ⟨Int32.not_le.mp c, Int32.not_le.mp c2⟩⟩⟩
theorem k_alike {c e : Nat} (hC : CR h i S) (hc : c < 64) (he : e < 64) (hp : p (tI (dec (alk S c e))) h) : mI (Kd sL (d + 1)) 16 [.inr (.inr (.inl (i, 0))), .inl (nI c), .inl (nI e)] h p := by
  refine ke_X0_alike ?_
  refine EX.go (Kd_mono _ _) [false, true, false, false, false, false] 40 0 ?_
  dsimp only [wpc_s, wsl_t, wsl_f, gD_0, gD_s, ↓denB_n, pI_s, pG_s, pU_n, cb_X0_alike_0, cb_X0_alike_1, cb_X0_alike_2, cb_X0_alike_3, cb_X0_alike_4, cb_X0_alike_5, ↓ev_iconst_0, ↓ev_istore_n_3, ↓ev_iload_n_3, ↓ev_iconst_4, ↓ev_icmp_ge, ↓ev_aload_n_0, ↓ev_getf_0_0, ↓ev_iload_n_1, ↓ev_imul, ↓ev_iadd, ↓ev_iald_m1, ↓ev_iald_m2, ↓ev_iald_m3, ↓ev_iald_m4, ↓ev_iald_m5, ↓ev_iald_m6, ↓ev_iload_n_2, ↓ev_icmp_eq, ↓ev_zret, ↓ev_iinc_3_1, ↓ev_goto, ↓ev_iconst_1, Nat.reduceAdd]
  suffices H : ∀ (f k : Nat), k + f = 4 → (∀ j, j < k → S (64 + 4 * c + j) = S (64 + 4 * e + j)) → EX (Kd sL d) sL md_X0_alike (pI p) 1 [some (.inr (.inr (.inl (i, 0)))), some (.inl (nI c)), some (.inl (nI e)), some (.inl (nI k))] [] h from H 4 0 rfl (fun j hj => absurd hj (Nat.not_lt_zero j))
  intro f
  induction f with
  | zero =>
    intro k hk hj
    refine EX.go (Kd_mono _ _) [false, true, false, false, false, false] 40 1 ?_
    dsimp only [wpc_s, wsl_t, wsl_f, gD_0, gD_s, ↓denB_n, pI_s, pG_s, pU_n, cb_X0_alike_0, cb_X0_alike_1, cb_X0_alike_2, cb_X0_alike_3, cb_X0_alike_4, cb_X0_alike_5, ↓ev_iconst_0, ↓ev_istore_n_3, ↓ev_iload_n_3, ↓ev_iconst_4, ↓ev_icmp_ge, ↓ev_aload_n_0, ↓ev_getf_0_0, ↓ev_iload_n_1, ↓ev_imul, ↓ev_iadd, ↓ev_iald_m1, ↓ev_iald_m2, ↓ev_iald_m3, ↓ev_iald_m4, ↓ev_iald_m5, ↓ev_iald_m6, ↓ev_iload_n_2, ↓ev_icmp_eq, ↓ev_zret, ↓ev_iinc_3_1, ↓ev_goto, ↓ev_iconst_1, Nat.reduceAdd]
    try simp (disch := omega) only [pk_mul, nI_add, n_lt0, n_le0, n_eq0, n_ge0, n_gt0, n_lt, n_le, n_eq, n_in, n_div, n_rem, n_rem2, n_m1, nI_clamp, bz_0, bz_1, tI_0, tI_bz, n4, n16, eq_self, Nat.reduceLT, Nat.reduceLeDiff, Nat.reduceEqDiff, Nat.reduceAdd, Nat.reduceMul, Nat.reduceDiv, Nat.reduceMod, Nat.le_refl, decide_eq_false_iff_not, Classical.not_not, true_and, and_true, false_and, and_false, not_true_eq_false, not_false_eq_true, forall_const, true_implies, false_implies, implies_true, ne_eq]
    refine ⟨fun _ => pdt hp (fun j hj2 => hj j (by omega)), fun c2 => absurd (show 4 ≤ k by omega) c2⟩
  | succ f ih =>
    intro k hk hj
    refine EX.go (Kd_mono _ _) [false, true, false, false, false, false] 40 1 ?_
    dsimp only [wpc_s, wsl_t, wsl_f, gD_0, gD_s, ↓denB_n, pI_s, pG_s, pU_n, cb_X0_alike_0, cb_X0_alike_1, cb_X0_alike_2, cb_X0_alike_3, cb_X0_alike_4, cb_X0_alike_5, ↓ev_iconst_0, ↓ev_istore_n_3, ↓ev_iload_n_3, ↓ev_iconst_4, ↓ev_icmp_ge, ↓ev_aload_n_0, ↓ev_getf_0_0, ↓ev_iload_n_1, ↓ev_imul, ↓ev_iadd, ↓ev_iald_m1, ↓ev_iald_m2, ↓ev_iald_m3, ↓ev_iald_m4, ↓ev_iald_m5, ↓ev_iald_m6, ↓ev_iload_n_2, ↓ev_icmp_eq, ↓ev_zret, ↓ev_iinc_3_1, ↓ev_goto, ↓ev_iconst_1, Nat.reduceAdd]
    have e1 : h (.inl (i, 1)) (c * 4 + k) = S (64 + 4 * c + k) := by rw [hC.1 _ (by omega)]; congr 1; omega
    have e2 : h (.inl (i, 1)) (e * 4 + k) = S (64 + 4 * e + k) := by rw [hC.1 _ (by omega)]; congr 1; omega
    try simp (disch := omega) only [pk_mul, nI_add, n_lt0, n_le0, n_eq0, n_ge0, n_gt0, n_lt, n_le, n_eq, n_in, n_div, n_rem, n_rem2, n_m1, nI_clamp, bz_0, bz_1, tI_0, tI_bz, n4, n16, eq_self, Nat.reduceLT, Nat.reduceLeDiff, Nat.reduceEqDiff, Nat.reduceAdd, Nat.reduceMul, Nat.reduceDiv, Nat.reduceMod, Nat.le_refl, decide_eq_false_iff_not, Classical.not_not, true_and, and_true, false_and, and_false, not_true_eq_false, not_false_eq_true, forall_const, true_implies, false_implies, implies_true, ne_eq, e1, e2]
    refine ⟨fun c2 => absurd c2 (by omega), fun _ => ⟨by omega, by omega, fun c2 => ?_, fun c2 => pdf hp (fun z => c2 (z k (by omega)))⟩⟩
    exact ih (k + 1) (by omega) (fun j hj2 => by
      rcases Nat.lt_or_ge j k with q | q
      · exact hj j q
      · rw [show j = k by omega]; exact c2)
theorem k_sameBlock {b : Nat} {x y : Int32} (hC : CR h i S) (hb : b < 16) (hp : p (tI (dec (∀ k, k < 4 → rdf S 6 x (4 * b + k) = rdf S 6 y (4 * b + k)))) h) : mI (Kd sL (d + 3)) 15 [.inr (.inr (.inl (i, 0))), .inl x, .inl y, .inl (nI b)] h p := by
  refine ke_X0_sameBlock ?_
  refine EX.go (Kd_mono _ _) [false, true, false, false, false, false] 40 0 ?_
  dsimp only [wpc_s, wsl_t, wsl_f, gD_0, gD_s, ↓denB_n, pI_s, pG_s, pU_n, cb_X0_sameBlock_0, cb_X0_sameBlock_1, cb_X0_sameBlock_2, cb_X0_sameBlock_3, cb_X0_sameBlock_4, cb_X0_sameBlock_5, ↓ev_iload_n_3, ↓ev_iconst_4, ↓ev_imul, ↓ev_istore_4, ↓ev_iload_4, ↓ev_iconst_1, ↓ev_iadd, ↓ev_icmp_ge, ↓ev_aload_n_0, ↓ev_iload_n_1, ↓ev_callv_3_0_1, ↓ev_callv_3_1_1, ↓ev_callv_3_2_1, ↓ev_callv_3_3_1, ↓ev_callv_3_4_1, ↓ev_callv_3_5_1, ↓ev_iload_n_2, ↓ev_icmp_eq, ↓ev_iconst_0, ↓ev_zret, ↓ev_iinc_4_1, ↓ev_goto, Nat.reduceAdd]
  try simp (disch := omega) only [pk_mul, nI_add, n_lt0, n_le0, n_eq0, n_ge0, n_gt0, n_lt, n_le, n_eq, n_in, n_div, n_rem, n_rem2, n_m1, nI_clamp, bz_0, bz_1, tI_0, tI_bz, n4, n16, eq_self, Nat.reduceLT, Nat.reduceLeDiff, Nat.reduceEqDiff, Nat.reduceAdd, Nat.reduceMul, Nat.reduceDiv, Nat.reduceMod, Nat.le_refl, decide_eq_false_iff_not, Classical.not_not, true_and, and_true, false_and, and_false, not_true_eq_false, not_false_eq_true, forall_const, true_implies, false_implies, implies_true, ne_eq]
  suffices H : ∀ (f k : Nat), k + f = 4 → (∀ j, j < k → rdf S 6 x (4 * b + j) = rdf S 6 y (4 * b + j)) → EX (Kd sL (d + 2)) sL md_X0_sameBlock (pI p) 1 [some (.inr (.inr (.inl (i, 0)))), some (.inl x), some (.inl y), some (.inl (nI b)), some (.inl (nI (b * 4 + k)))] [] h from H 4 0 rfl (fun j hj => absurd hj (Nat.not_lt_zero j))
  intro f
  induction f with
  | zero =>
    intro k hk hj
    refine EX.go (Kd_mono _ _) [false, true, false, false, false, false] 40 1 ?_
    dsimp only [wpc_s, wsl_t, wsl_f, gD_0, gD_s, ↓denB_n, pI_s, pG_s, pU_n, cb_X0_sameBlock_0, cb_X0_sameBlock_1, cb_X0_sameBlock_2, cb_X0_sameBlock_3, cb_X0_sameBlock_4, cb_X0_sameBlock_5, ↓ev_iload_n_3, ↓ev_iconst_4, ↓ev_imul, ↓ev_istore_4, ↓ev_iload_4, ↓ev_iconst_1, ↓ev_iadd, ↓ev_icmp_ge, ↓ev_aload_n_0, ↓ev_iload_n_1, ↓ev_callv_3_0_1, ↓ev_callv_3_1_1, ↓ev_callv_3_2_1, ↓ev_callv_3_3_1, ↓ev_callv_3_4_1, ↓ev_callv_3_5_1, ↓ev_iload_n_2, ↓ev_icmp_eq, ↓ev_iconst_0, ↓ev_zret, ↓ev_iinc_4_1, ↓ev_goto, Nat.reduceAdd]
    try simp (disch := omega) only [pk_mul, nI_add, n_lt0, n_le0, n_eq0, n_ge0, n_gt0, n_lt, n_le, n_eq, n_in, n_div, n_rem, n_rem2, n_m1, nI_clamp, bz_0, bz_1, tI_0, tI_bz, n4, n16, eq_self, Nat.reduceLT, Nat.reduceLeDiff, Nat.reduceEqDiff, Nat.reduceAdd, Nat.reduceMul, Nat.reduceDiv, Nat.reduceMod, Nat.le_refl, decide_eq_false_iff_not, Classical.not_not, true_and, and_true, false_and, and_false, not_true_eq_false, not_false_eq_true, forall_const, true_implies, false_implies, implies_true, ne_eq]
    refine ⟨fun _ => pdt hp (fun j hj2 => hj j (by omega)), fun c2 => absurd (show (b + 1) * 4 ≤ b * 4 + k by omega) c2⟩
  | succ f ih =>
    intro k hk hj
    refine EX.go (Kd_mono _ _) [false, true, false, false, false, false] 40 1 ?_
    dsimp only [wpc_s, wsl_t, wsl_f, gD_0, gD_s, ↓denB_n, pI_s, pG_s, pU_n, cb_X0_sameBlock_0, cb_X0_sameBlock_1, cb_X0_sameBlock_2, cb_X0_sameBlock_3, cb_X0_sameBlock_4, cb_X0_sameBlock_5, ↓ev_iload_n_3, ↓ev_iconst_4, ↓ev_imul, ↓ev_istore_4, ↓ev_iload_4, ↓ev_iconst_1, ↓ev_iadd, ↓ev_icmp_ge, ↓ev_aload_n_0, ↓ev_iload_n_1, ↓ev_callv_3_0_1, ↓ev_callv_3_1_1, ↓ev_callv_3_2_1, ↓ev_callv_3_3_1, ↓ev_callv_3_4_1, ↓ev_callv_3_5_1, ↓ev_iload_n_2, ↓ev_icmp_eq, ↓ev_iconst_0, ↓ev_zret, ↓ev_iinc_4_1, ↓ev_goto, Nat.reduceAdd]
    try simp (disch := omega) only [pk_mul, nI_add, n_lt0, n_le0, n_eq0, n_ge0, n_gt0, n_lt, n_le, n_eq, n_in, n_div, n_rem, n_rem2, n_m1, nI_clamp, bz_0, bz_1, tI_0, tI_bz, n4, n16, eq_self, Nat.reduceLT, Nat.reduceLeDiff, Nat.reduceEqDiff, Nat.reduceAdd, Nat.reduceMul, Nat.reduceDiv, Nat.reduceMod, Nat.le_refl, decide_eq_false_iff_not, Classical.not_not, true_and, and_true, false_and, and_false, not_true_eq_false, not_false_eq_true, forall_const, true_implies, false_implies, implies_true, ne_eq]
    refine ⟨fun c2 => absurd c2 (by omega), fun _ => ?_⟩
    refine k_at hC (by omega) ?_
    refine k_at hC (by omega) ?_
    rw [show b * 4 + k = 4 * b + k by omega]
    refine ⟨fun c2 => ?_, fun c2 => pdf hp (fun z => c2 (z k (by omega)))⟩
    rw [show 4 * b + k + 1 = b * 4 + (k + 1) by omega]
    exact ih (k + 1) (by omega) (fun j hj2 => by
      rcases Nat.lt_or_ge j k with q | q
      · exact hj j q
      · rw [show j = k by omega]; exact c2)
theorem k_ownBlocks {l : Nat} (hC : CR h i S) (hl : l < 14) (hp : p (iOr (fun b => decide (¬ dof S l b = 0)) 16) h) : mI (Kd sL (d + 3)) 12 [.inr (.inr (.inl (i, 0))), .inl (nI l)] h p := by
  refine ke_X0_ownBlocks ?_
  refine EX.go (Kd_mono _ _) [false, true, false, false, false, false] 40 0 ?_
  dsimp only [wpc_s, wsl_t, wsl_f, gD_0, gD_s, ↓denB_n, pI_s, pG_s, pU_n, cb_X0_ownBlocks_0, cb_X0_ownBlocks_1, cb_X0_ownBlocks_2, cb_X0_ownBlocks_3, cb_X0_ownBlocks_4, cb_X0_ownBlocks_5, ↓ev_iconst_0, ↓ev_istore_n_2, ↓ev_istore_n_3, ↓ev_iload_n_3, ↓ev_bipush_16, ↓ev_icmp_ge, ↓ev_aload_n_0, ↓ev_iload_n_1, ↓ev_callv_3_0_1, ↓ev_callv_3_1_1, ↓ev_callv_3_2_1, ↓ev_callv_3_3_1, ↓ev_callv_3_4_1, ↓ev_callv_3_5_1, ↓ev_if_eq, ↓ev_iload_n_2, ↓ev_iconst_1, ↓ev_ishl, ↓ev_ior, ↓ev_iinc_3_1, ↓ev_goto, ↓ev_iret, Nat.reduceAdd]
  suffices H : ∀ (f k : Nat), k + f = 16 → EX (Kd sL (d + 2)) sL md_X0_ownBlocks (pI p) 1 [some (.inr (.inr (.inl (i, 0)))), some (.inl (nI l)), some (.inl (iOr (fun b => decide (¬ dof S l b = 0)) k)), some (.inl (nI k))] [] h from H 16 0 rfl
  intro f
  induction f with
  | zero =>
    intro k hk
    refine EX.go (Kd_mono _ _) [false, true, false, false, false, false] 40 1 ?_
    dsimp only [wpc_s, wsl_t, wsl_f, gD_0, gD_s, ↓denB_n, pI_s, pG_s, pU_n, cb_X0_ownBlocks_0, cb_X0_ownBlocks_1, cb_X0_ownBlocks_2, cb_X0_ownBlocks_3, cb_X0_ownBlocks_4, cb_X0_ownBlocks_5, ↓ev_iconst_0, ↓ev_istore_n_2, ↓ev_istore_n_3, ↓ev_iload_n_3, ↓ev_bipush_16, ↓ev_icmp_ge, ↓ev_aload_n_0, ↓ev_iload_n_1, ↓ev_callv_3_0_1, ↓ev_callv_3_1_1, ↓ev_callv_3_2_1, ↓ev_callv_3_3_1, ↓ev_callv_3_4_1, ↓ev_callv_3_5_1, ↓ev_if_eq, ↓ev_iload_n_2, ↓ev_iconst_1, ↓ev_ishl, ↓ev_ior, ↓ev_iinc_3_1, ↓ev_goto, ↓ev_iret, Nat.reduceAdd]
    try simp (disch := omega) only [pk_mul, nI_add, n_lt0, n_le0, n_eq0, n_ge0, n_gt0, n_lt, n_le, n_eq, n_in, n_div, n_rem, n_rem2, n_m1, nI_clamp, bz_0, bz_1, tI_0, tI_bz, n4, n16, eq_self, Nat.reduceLT, Nat.reduceLeDiff, Nat.reduceEqDiff, Nat.reduceAdd, Nat.reduceMul, Nat.reduceDiv, Nat.reduceMod, Nat.le_refl, decide_eq_false_iff_not, Classical.not_not, true_and, and_true, false_and, and_false, not_true_eq_false, not_false_eq_true, forall_const, true_implies, false_implies, implies_true, ne_eq]
    refine ⟨fun _ => ?_, fun c2 => absurd (show 16 ≤ k by omega) c2⟩
    rwa [show k = 16 by omega]
  | succ f ih =>
    intro k hk
    refine EX.go (Kd_mono _ _) [false, true, false, false, false, false] 40 1 ?_
    dsimp only [wpc_s, wsl_t, wsl_f, gD_0, gD_s, ↓denB_n, pI_s, pG_s, pU_n, cb_X0_ownBlocks_0, cb_X0_ownBlocks_1, cb_X0_ownBlocks_2, cb_X0_ownBlocks_3, cb_X0_ownBlocks_4, cb_X0_ownBlocks_5, ↓ev_iconst_0, ↓ev_istore_n_2, ↓ev_istore_n_3, ↓ev_iload_n_3, ↓ev_bipush_16, ↓ev_icmp_ge, ↓ev_aload_n_0, ↓ev_iload_n_1, ↓ev_callv_3_0_1, ↓ev_callv_3_1_1, ↓ev_callv_3_2_1, ↓ev_callv_3_3_1, ↓ev_callv_3_4_1, ↓ev_callv_3_5_1, ↓ev_if_eq, ↓ev_iload_n_2, ↓ev_iconst_1, ↓ev_ishl, ↓ev_ior, ↓ev_iinc_3_1, ↓ev_goto, ↓ev_iret, Nat.reduceAdd]
    try simp (disch := omega) only [pk_mul, nI_add, n_lt0, n_le0, n_eq0, n_ge0, n_gt0, n_lt, n_le, n_eq, n_in, n_div, n_rem, n_rem2, n_m1, nI_clamp, bz_0, bz_1, tI_0, tI_bz, n4, n16, eq_self, Nat.reduceLT, Nat.reduceLeDiff, Nat.reduceEqDiff, Nat.reduceAdd, Nat.reduceMul, Nat.reduceDiv, Nat.reduceMod, Nat.le_refl, decide_eq_false_iff_not, Classical.not_not, true_and, and_true, false_and, and_false, not_true_eq_false, not_false_eq_true, forall_const, true_implies, false_implies, implies_true, ne_eq]
    refine ⟨fun c2 => absurd c2 (by omega), fun _ => ?_⟩
    refine k_dataOf hC hl (by omega) ?_
    have hdl := dof_lt S l k
    have ih2 := ih (k + 1) (by omega)
    rw [iOr] at ih2
    try simp (disch := omega) only [pk_mul, nI_add, n_lt0, n_le0, n_eq0, n_ge0, n_gt0, n_lt, n_le, n_eq, n_in, n_div, n_rem, n_rem2, n_m1, nI_clamp, bz_0, bz_1, tI_0, tI_bz, n4, n16, eq_self, Nat.reduceLT, Nat.reduceLeDiff, Nat.reduceEqDiff, Nat.reduceAdd, Nat.reduceMul, Nat.reduceDiv, Nat.reduceMod, Nat.le_refl, decide_eq_false_iff_not, Classical.not_not, true_and, and_true, false_and, and_false, not_true_eq_false, not_false_eq_true, forall_const, true_implies, false_implies, implies_true, ne_eq]
    refine ⟨fun c2 => ?_, fun c2 => ?_⟩
    · rw [if_neg (by simp [c2])] at ih2; exact ih2
    · rw [if_pos (by simp [c2])] at ih2; exact ih2
theorem k_snapshotSet (hC : CR h i S) (hp : p (iOr (fun s => decide (¬ sn S s = -1)) 8) h) : mI (Kd sL (d + 1)) 5 [.inr (.inr (.inl (i, 0)))] h p := by
  refine ke_X0_snapshotSet ?_
  refine EX.go (Kd_mono _ _) [false, true, false, false, false, false] 40 0 ?_
  dsimp only [wpc_s, wsl_t, wsl_f, gD_0, gD_s, ↓denB_n, pI_s, pG_s, pU_n, cb_X0_snapshotSet_0, cb_X0_snapshotSet_1, cb_X0_snapshotSet_2, cb_X0_snapshotSet_3, cb_X0_snapshotSet_4, cb_X0_snapshotSet_5, ↓ev_iconst_0, ↓ev_istore_n_1, ↓ev_istore_n_2, ↓ev_iload_n_2, ↓ev_bipush_8, ↓ev_icmp_ge, ↓ev_aload_n_0, ↓ev_getf_0_4, ↓ev_iald_m1, ↓ev_iald_m2, ↓ev_iald_m3, ↓ev_iald_m4, ↓ev_iald_m5, ↓ev_iald_m6, ↓ev_iconst_m1, ↓ev_icmp_eq, ↓ev_iload_n_1, ↓ev_iconst_1, ↓ev_ishl, ↓ev_ior, ↓ev_iinc_2_1, ↓ev_goto, ↓ev_iret, Nat.reduceAdd]
  suffices H : ∀ (f k : Nat), k + f = 8 → EX (Kd sL d) sL md_X0_snapshotSet (pI p) 1 [some (.inr (.inr (.inl (i, 0)))), some (.inl (iOr (fun s => decide (¬ sn S s = -1)) k)), some (.inl (nI k))] [] h from H 8 0 rfl
  intro f
  induction f with
  | zero =>
    intro k hk
    refine EX.go (Kd_mono _ _) [false, true, false, false, false, false] 40 1 ?_
    dsimp only [wpc_s, wsl_t, wsl_f, gD_0, gD_s, ↓denB_n, pI_s, pG_s, pU_n, cb_X0_snapshotSet_0, cb_X0_snapshotSet_1, cb_X0_snapshotSet_2, cb_X0_snapshotSet_3, cb_X0_snapshotSet_4, cb_X0_snapshotSet_5, ↓ev_iconst_0, ↓ev_istore_n_1, ↓ev_istore_n_2, ↓ev_iload_n_2, ↓ev_bipush_8, ↓ev_icmp_ge, ↓ev_aload_n_0, ↓ev_getf_0_4, ↓ev_iald_m1, ↓ev_iald_m2, ↓ev_iald_m3, ↓ev_iald_m4, ↓ev_iald_m5, ↓ev_iald_m6, ↓ev_iconst_m1, ↓ev_icmp_eq, ↓ev_iload_n_1, ↓ev_iconst_1, ↓ev_ishl, ↓ev_ior, ↓ev_iinc_2_1, ↓ev_goto, ↓ev_iret, Nat.reduceAdd]
    try simp (disch := omega) only [pk_mul, nI_add, n_lt0, n_le0, n_eq0, n_ge0, n_gt0, n_lt, n_le, n_eq, n_in, n_div, n_rem, n_rem2, n_m1, nI_clamp, bz_0, bz_1, tI_0, tI_bz, n4, n16, eq_self, Nat.reduceLT, Nat.reduceLeDiff, Nat.reduceEqDiff, Nat.reduceAdd, Nat.reduceMul, Nat.reduceDiv, Nat.reduceMod, Nat.le_refl, decide_eq_false_iff_not, Classical.not_not, true_and, and_true, false_and, and_false, not_true_eq_false, not_false_eq_true, forall_const, true_implies, false_implies, implies_true, ne_eq]
    refine ⟨fun _ => ?_, fun c2 => absurd (show 8 ≤ k by omega) c2⟩
    rwa [show k = 8 by omega]
  | succ f ih =>
    intro k hk
    refine EX.go (Kd_mono _ _) [false, true, false, false, false, false] 40 1 ?_
    dsimp only [wpc_s, wsl_t, wsl_f, gD_0, gD_s, ↓denB_n, pI_s, pG_s, pU_n, cb_X0_snapshotSet_0, cb_X0_snapshotSet_1, cb_X0_snapshotSet_2, cb_X0_snapshotSet_3, cb_X0_snapshotSet_4, cb_X0_snapshotSet_5, ↓ev_iconst_0, ↓ev_istore_n_1, ↓ev_istore_n_2, ↓ev_iload_n_2, ↓ev_bipush_8, ↓ev_icmp_ge, ↓ev_aload_n_0, ↓ev_getf_0_4, ↓ev_iald_m1, ↓ev_iald_m2, ↓ev_iald_m3, ↓ev_iald_m4, ↓ev_iald_m5, ↓ev_iald_m6, ↓ev_iconst_m1, ↓ev_icmp_eq, ↓ev_iload_n_1, ↓ev_iconst_1, ↓ev_ishl, ↓ev_ior, ↓ev_iinc_2_1, ↓ev_goto, ↓ev_iret, Nat.reduceAdd]
    have e : h (.inl (i, 5)) k = sn S k := hC.2.2.2.2.1 k (by omega)
    try simp (disch := omega) only [pk_mul, nI_add, n_lt0, n_le0, n_eq0, n_ge0, n_gt0, n_lt, n_le, n_eq, n_in, n_div, n_rem, n_rem2, n_m1, nI_clamp, bz_0, bz_1, tI_0, tI_bz, n4, n16, eq_self, Nat.reduceLT, Nat.reduceLeDiff, Nat.reduceEqDiff, Nat.reduceAdd, Nat.reduceMul, Nat.reduceDiv, Nat.reduceMod, Nat.le_refl, decide_eq_false_iff_not, Classical.not_not, true_and, and_true, false_and, and_false, not_true_eq_false, not_false_eq_true, forall_const, true_implies, false_implies, implies_true, ne_eq, e]
    have ih2 := ih (k + 1) (by omega)
    rw [iOr] at ih2
    refine ⟨fun c2 => absurd c2 (by omega), fun _ => ⟨by omega, fun c2 => ?_, fun c2 => ?_⟩⟩
    · rw [if_neg (by simp [c2])] at ih2; exact ih2
    · rw [if_pos (by simp [c2])] at ih2; exact ih2
/-- the least snapshot that isn't there, 8: none -/
theorem k_leastMissing (hC : CR h i S) (hp : ∀ s, s ≤ 8 → (∀ j, j < s → ¬ sn S j = -1) → (s < 8 → sn S s = -1) → p (if s = 8 then -1 else nI s) h) : mI (Kd sL (d + 1)) 6 [.inr (.inr (.inl (i, 0)))] h p := by
  refine ke_X0_leastMissingSnapshot ?_
  refine EX.go (Kd_mono _ _) [false, true, false, false, false, false] 40 0 ?_
  dsimp only [wpc_s, wsl_t, wsl_f, gD_0, gD_s, ↓denB_n, pI_s, pG_s, pU_n, cb_X0_leastMissingSnapshot_0, cb_X0_leastMissingSnapshot_1, cb_X0_leastMissingSnapshot_2, cb_X0_leastMissingSnapshot_3, cb_X0_leastMissingSnapshot_4, cb_X0_leastMissingSnapshot_5, ↓ev_iconst_0, ↓ev_istore_n_1, ↓ev_iload_n_1, ↓ev_bipush_8, ↓ev_icmp_ge, ↓ev_aload_n_0, ↓ev_getf_0_4, ↓ev_iald_m1, ↓ev_iald_m2, ↓ev_iald_m3, ↓ev_iald_m4, ↓ev_iald_m5, ↓ev_iald_m6, ↓ev_iconst_m1, ↓ev_icmp_ne, ↓ev_iret, ↓ev_iinc_1_1, ↓ev_goto, Nat.reduceAdd]
  suffices H : ∀ (f k : Nat), k + f = 8 → (∀ j, j < k → ¬ sn S j = -1) → EX (Kd sL d) sL md_X0_leastMissingSnapshot (pI p) 1 [some (.inr (.inr (.inl (i, 0)))), some (.inl (nI k))] [] h from H 8 0 rfl (fun j hj => absurd hj (Nat.not_lt_zero j))
  intro f
  induction f with
  | zero =>
    intro k hk hj
    refine EX.go (Kd_mono _ _) [false, true, false, false, false, false] 40 1 ?_
    dsimp only [wpc_s, wsl_t, wsl_f, gD_0, gD_s, ↓denB_n, pI_s, pG_s, pU_n, cb_X0_leastMissingSnapshot_0, cb_X0_leastMissingSnapshot_1, cb_X0_leastMissingSnapshot_2, cb_X0_leastMissingSnapshot_3, cb_X0_leastMissingSnapshot_4, cb_X0_leastMissingSnapshot_5, ↓ev_iconst_0, ↓ev_istore_n_1, ↓ev_iload_n_1, ↓ev_bipush_8, ↓ev_icmp_ge, ↓ev_aload_n_0, ↓ev_getf_0_4, ↓ev_iald_m1, ↓ev_iald_m2, ↓ev_iald_m3, ↓ev_iald_m4, ↓ev_iald_m5, ↓ev_iald_m6, ↓ev_iconst_m1, ↓ev_icmp_ne, ↓ev_iret, ↓ev_iinc_1_1, ↓ev_goto, Nat.reduceAdd]
    try simp (disch := omega) only [pk_mul, nI_add, n_lt0, n_le0, n_eq0, n_ge0, n_gt0, n_lt, n_le, n_eq, n_in, n_div, n_rem, n_rem2, n_m1, nI_clamp, bz_0, bz_1, tI_0, tI_bz, n4, n16, eq_self, Nat.reduceLT, Nat.reduceLeDiff, Nat.reduceEqDiff, Nat.reduceAdd, Nat.reduceMul, Nat.reduceDiv, Nat.reduceMod, Nat.le_refl, decide_eq_false_iff_not, Classical.not_not, true_and, and_true, false_and, and_false, not_true_eq_false, not_false_eq_true, forall_const, true_implies, false_implies, implies_true, ne_eq]
    refine ⟨fun _ => ?_, fun c2 => absurd (show 8 ≤ k by omega) c2⟩
    have := hp k (by omega) hj (fun z => absurd z (by omega))
    rwa [if_pos (by omega)] at this
  | succ f ih =>
    intro k hk hj
    refine EX.go (Kd_mono _ _) [false, true, false, false, false, false] 40 1 ?_
    dsimp only [wpc_s, wsl_t, wsl_f, gD_0, gD_s, ↓denB_n, pI_s, pG_s, pU_n, cb_X0_leastMissingSnapshot_0, cb_X0_leastMissingSnapshot_1, cb_X0_leastMissingSnapshot_2, cb_X0_leastMissingSnapshot_3, cb_X0_leastMissingSnapshot_4, cb_X0_leastMissingSnapshot_5, ↓ev_iconst_0, ↓ev_istore_n_1, ↓ev_iload_n_1, ↓ev_bipush_8, ↓ev_icmp_ge, ↓ev_aload_n_0, ↓ev_getf_0_4, ↓ev_iald_m1, ↓ev_iald_m2, ↓ev_iald_m3, ↓ev_iald_m4, ↓ev_iald_m5, ↓ev_iald_m6, ↓ev_iconst_m1, ↓ev_icmp_ne, ↓ev_iret, ↓ev_iinc_1_1, ↓ev_goto, Nat.reduceAdd]
    have e : h (.inl (i, 5)) k = sn S k := hC.2.2.2.2.1 k (by omega)
    try simp (disch := omega) only [pk_mul, nI_add, n_lt0, n_le0, n_eq0, n_ge0, n_gt0, n_lt, n_le, n_eq, n_in, n_div, n_rem, n_rem2, n_m1, nI_clamp, bz_0, bz_1, tI_0, tI_bz, n4, n16, eq_self, Nat.reduceLT, Nat.reduceLeDiff, Nat.reduceEqDiff, Nat.reduceAdd, Nat.reduceMul, Nat.reduceDiv, Nat.reduceMod, Nat.le_refl, decide_eq_false_iff_not, Classical.not_not, true_and, and_true, false_and, and_false, not_true_eq_false, not_false_eq_true, forall_const, true_implies, false_implies, implies_true, ne_eq, e]
    refine ⟨fun c2 => absurd c2 (by omega), fun _ => ⟨by omega, fun c2 => ?_, fun c2 => ?_⟩⟩
    · exact ih (k + 1) (by omega) (fun j hj2 => by
        rcases Nat.lt_or_ge j k with q | q
        · exact hj j q
        · rw [show j = k by omega]; exact c2)
    · have := hp k (by omega) hj (fun _ => c2)
      rwa [if_neg (by omega)] at this
end IMG
