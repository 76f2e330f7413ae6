/-! ===== class Image: what it reads ===== -/
section IMG
variable {sL d : Nat} {h : mH} {i : Fin 3} {S : St} {p : Int32 → mH → Prop}
theorem k_hasLayer {x : Int32} (hC : CR h i S) (hp : p (tI (decide (¬ x < 0 ∧ x < nI (mn S)))) h) : mI (Kd sL (d + 1)) 1 [.inr (.inr (.inl (i, 0))), .inl x] h p := by
  refine ke_X0_hasLayer ?_
  refine EX.go (Kd_mono _ _) [false, false, false, false, false, false] 40 0 ?_
  dsimp only [wpc_s, wsl_t, wsl_f, gD_0, gD_s, ↓denB_n, pI_s, pG_s, pU_n, cb_X0_hasLayer_0, cb_X0_hasLayer_1, cb_X0_hasLayer_2, cb_X0_hasLayer_3, cb_X0_hasLayer_4, cb_X0_hasLayer_5, ↓ev_iload_n_1, ↓ev_if_lt, ↓ev_aload_n_0, ↓ev_getf_0_5, ↓ev_icmp_ge, ↓ev_bipush_6, ↓ev_iconst_1, ↓ev_goto, ↓ev_iconst_0, ↓ev_zret, Nat.reduceAdd]
  obtain ⟨-, -, -, -, -, h5, h6, -⟩ := hC
  rw [h5]
  have hb : nI (mn S) ≤ nI 6 := nI_le h6 (by decide)
  refine ⟨fun c => ⟨Or.inl rfl, pf hp (fun z => z.1 c)⟩, fun c => ⟨fun c2 => ⟨Or.inl rfl, pf hp (fun z => Int32.not_lt.mpr c2 z.2)⟩, fun c2 => ⟨fun c3 => absurd (Int32.le_trans hb c3) c2, fun c3 => ⟨Or.inr rfl, pt hp ⟨c, Int32.not_le.mp c2⟩⟩⟩⟩⟩
theorem k_hasBacking {x : Int32} (hC : CR h i S) (hp : p (tI (decide (x = -1 ∨ (¬ x < 0 ∧ x < nI (mn S))))) h) : mI (Kd sL (d + 2)) 2 [.inr (.inr (.inl (i, 0))), .inl x] h p := by
  refine ke_X0_hasBacking ?_
  refine EX.go (Kd_mono _ _) [false, false, false, false, false] 40 0 ?_
  dsimp only [wpc_s, wsl_t, wsl_f, gD_0, gD_s, ↓denB_n, pI_s, pG_s, pU_n, cb_X0_hasBacking_0, cb_X0_hasBacking_1, cb_X0_hasBacking_2, cb_X0_hasBacking_3, cb_X0_hasBacking_4, ↓ev_iload_n_1, ↓ev_iconst_m1, ↓ev_icmp_eq, ↓ev_aload_n_0, ↓ev_callv_2_0_1, ↓ev_callv_2_1_1, ↓ev_callv_2_2_1, ↓ev_callv_2_3_1, ↓ev_callv_2_4_1, ↓ev_if_eq, ↓ev_iconst_1, ↓ev_goto, ↓ev_iconst_0, ↓ev_zret, Nat.reduceAdd]
  refine ⟨fun c => ⟨Or.inr rfl, pt hp (Or.inl c)⟩, fun c => k_hasLayer hC ?_⟩
  simp (disch := omega) only [pk_mul, nI_add, n_lt0, n_le0, n_eq0, n_ge0, n_gt0, n_lt, n_le, n_eq, n_in, n_div, n_rem, n_rem2, n_m1, nI_clamp, bz_0, bz_1, tI_0, tI_bz, n4, n16, eq_self, Nat.reduceLT, Nat.reduceLeDiff, Nat.reduceEqDiff, Nat.reduceAdd, Nat.reduceMul, Nat.reduceDiv, Nat.reduceMod, Nat.le_refl, decide_eq_false_iff_not, Classical.not_not, true_and, and_true, false_and, and_false, not_true_eq_false, not_false_eq_true, forall_const, true_implies, false_implies, implies_true, ne_eq]
  exact ⟨fun c2 => pf hp (fun z => z.elim c c2), fun c2 => pt hp (Or.inr c2)⟩
theorem k_hasSnapshot {x : Int32} (hC : CR h i S) (hp : p (tI (decide (¬ x < 0 ∧ x < nI 8 ∧ ¬ sn S x.toNatClampNeg = -1))) h) : mI (Kd sL (d + 1)) 3 [.inr (.inr (.inl (i, 0))), .inl x] h p := by
  refine ke_X0_hasSnapshot ?_
  refine EX.go (Kd_mono _ _) [false, false, false, false, false, false] 40 0 ?_
  dsimp only [wpc_s, wsl_t, wsl_f, gD_0, gD_s, ↓denB_n, pI_s, pG_s, pU_n, cb_X0_hasSnapshot_0, cb_X0_hasSnapshot_1, cb_X0_hasSnapshot_2, cb_X0_hasSnapshot_3, cb_X0_hasSnapshot_4, cb_X0_hasSnapshot_5, ↓ev_iload_n_1, ↓ev_if_lt, ↓ev_bipush_8, ↓ev_icmp_ge, ↓ev_aload_n_0, ↓ev_getf_0_4, ↓ev_iald_m1, ↓ev_iald_m2, ↓ev_iald_m3, ↓ev_iald_m4, ↓ev_iald_m5, ↓ev_iald_m6, ↓ev_iconst_m1, ↓ev_icmp_eq, ↓ev_iconst_1, ↓ev_goto, ↓ev_iconst_0, ↓ev_zret, Nat.reduceAdd]
  refine ⟨fun c => ⟨Or.inl rfl, pf hp (fun z => z.1 c)⟩, fun c => ⟨fun c2 => ⟨Or.inl rfl, pf hp (fun z => Int32.not_lt.mpr c2 z.2.1)⟩, fun c2 => ?_⟩⟩
  obtain ⟨k, hk, rfl⟩ := (i_cases x).resolve_left c
  have hk8 : k < 8 := by
    have := c2
    simp (disch := omega) only [pk_mul, nI_add, n_lt0, n_le0, n_eq0, n_ge0, n_gt0, n_lt, n_le, n_eq, n_in, n_div, n_rem, n_rem2, n_m1, nI_clamp, bz_0, bz_1, tI_0, tI_bz, n4, n16, eq_self, Nat.reduceLT, Nat.reduceLeDiff, Nat.reduceEqDiff, Nat.reduceAdd, Nat.reduceMul, Nat.reduceDiv, Nat.reduceMod, Nat.le_refl, decide_eq_false_iff_not, Classical.not_not, true_and, and_true, false_and, and_false, not_true_eq_false, not_false_eq_true, forall_const, true_implies, false_implies, implies_true, ne_eq] at this
    omega
  have e : h (.inl (i, 5)) k = sn S k := hC.2.2.2.2.1 k hk8
  simp (disch := omega) only [pk_mul, nI_add, n_lt0, n_le0, n_eq0, n_ge0, n_gt0, n_lt, n_le, n_eq, n_in, n_div, n_rem, n_rem2, n_m1, nI_clamp, bz_0, bz_1, tI_0, tI_bz, n4, n16, eq_self, Nat.reduceLT, Nat.reduceLeDiff, Nat.reduceEqDiff, Nat.reduceAdd, Nat.reduceMul, Nat.reduceDiv, Nat.reduceMod, Nat.le_refl, decide_eq_false_iff_not, Classical.not_not, true_and, and_true, false_and, and_false, not_true_eq_false, not_false_eq_true, forall_const, true_implies, false_implies, implies_true, ne_eq, e]
  rw [nI_clamp hk] at hp
  exact ⟨hk8, fun c3 => pf hp (fun z => z.2.2 c3), fun c3 => pt hp ⟨c, Int32.not_le.mp c2, c3⟩⟩
theorem k_tableAt {dd k : Nat} (hC : CR h i S) (hd : dd < 14) (hk : k < 4) (hp : p (nI (tb S dd k)) h) : mI (Kd sL (d + 1)) 9 [.inr (.inr (.inl (i, 0))), .inl (nI dd), .inl (nI k)] h p := by
  refine ke_X0_tableAt ?_
  refine EX.go (Kd_mono _ _) [false, false, false, false, false, false, false, false, false] 40 0 ?_
  dsimp only [wpc_s, wsl_t, wsl_f, gD_0, gD_s, ↓denB_n, pI_s, pG_s, pU_n, cb_X0_tableAt_0, cb_X0_tableAt_1, cb_X0_tableAt_2, cb_X0_tableAt_3, cb_X0_tableAt_4, cb_X0_tableAt_5, cb_X0_tableAt_6, cb_X0_tableAt_7, cb_X0_tableAt_8, ↓ev_iload_n_1, ↓ev_iconst_4, ↓ev_imul, ↓ev_iload_n_2, ↓ev_iadd, ↓ev_istore_n_3, ↓ev_iload_n_3, ↓ev_if_lt, ↓ev_aload_n_0, ↓ev_getf_0_2, ↓ev_alen_m1, ↓ev_alen_m2, ↓ev_alen_m3, ↓ev_alen_m4, ↓ev_alen_m5, ↓ev_alen_m6, ↓ev_icmp_ge, ↓ev_iald_m1, ↓ev_iald_m2, ↓ev_iald_m3, ↓ev_iald_m4, ↓ev_iald_m5, ↓ev_iald_m6, ↓ev_goto, ↓ev_iconst_0, ↓ev_istore_4, ↓ev_iload_4, ↓ev_if_le, ↓ev_bipush_64, ↓ev_iret, Nat.reduceAdd]
  have e : h (.inl (i, 3)) (dd * 4 + k) = nI (tb S dd k) := by rw [Nat.mul_comm]; exact hC.2.2.1 dd k hd hk
  have hl := tb_lt S dd k
  simp (disch := omega) only [pk_mul, nI_add, n_lt0, n_le0, n_eq0, n_ge0, n_gt0, n_lt, n_le, n_eq, n_in, n_div, n_rem, n_rem2, n_m1, nI_clamp, bz_0, bz_1, tI_0, tI_bz, n4, n16, eq_self, Nat.reduceLT, Nat.reduceLeDiff, Nat.reduceEqDiff, Nat.reduceAdd, Nat.reduceMul, Nat.reduceDiv, Nat.reduceMod, Nat.le_refl, decide_eq_false_iff_not, Classical.not_not, true_and, and_true, false_and, and_false, not_true_eq_false, not_false_eq_true, forall_const, true_implies, false_implies, implies_true, ne_eq, e]
  refine ⟨fun c => absurd c (by omega), fun c => ⟨by omega, fun c2 => ?_, fun c2 => ⟨fun c3 => absurd c3 (by omega), fun _ => hp⟩⟩⟩
  rw [c2] at hp
  exact hp
theorem k_dataAt {t k : Nat} (hC : CR h i S) (ht : t < 64) (hk : k < 4) (hp : p (nI (dt S t k)) h) : mI (Kd sL (d + 1)) 10 [.inr (.inr (.inl (i, 0))), .inl (nI t), .inl (nI k)] h p := by
  refine ke_X0_dataAt ?_
  refine EX.go (Kd_mono _ _) [false, false, false, false, false, false, false, false, false] 40 0 ?_
  dsimp only [wpc_s, wsl_t, wsl_f, gD_0, gD_s, ↓denB_n, pI_s, pG_s, pU_n, cb_X0_dataAt_0, cb_X0_dataAt_1, cb_X0_dataAt_2, cb_X0_dataAt_3, cb_X0_dataAt_4, cb_X0_dataAt_5, cb_X0_dataAt_6, cb_X0_dataAt_7, cb_X0_dataAt_8, ↓ev_iload_n_1, ↓ev_iconst_4, ↓ev_imul, ↓ev_iload_n_2, ↓ev_iadd, ↓ev_istore_n_3, ↓ev_iload_n_3, ↓ev_icmp_lt, ↓ev_aload_n_0, ↓ev_getf_0_0, ↓ev_alen_m1, ↓ev_alen_m2, ↓ev_alen_m3, ↓ev_alen_m4, ↓ev_alen_m5, ↓ev_alen_m6, ↓ev_icmp_ge, ↓ev_iald_m1, ↓ev_iald_m2, ↓ev_iald_m3, ↓ev_iald_m4, ↓ev_iald_m5, ↓ev_iald_m6, ↓ev_goto, ↓ev_iconst_0, ↓ev_istore_4, ↓ev_iload_4, ↓ev_if_le, ↓ev_bipush_64, ↓ev_iret, Nat.reduceAdd]
  have e : h (.inl (i, 1)) (t * 4 + k) = S (64 + 4 * t + k) := by rw [hC.1 _ (by omega)]; congr 1; omega
  simp (disch := omega) only [pk_mul, nI_add, n_lt0, n_le0, n_eq0, n_ge0, n_gt0, n_lt, n_le, n_eq, n_in, n_div, n_rem, n_rem2, n_m1, nI_clamp, bz_0, bz_1, tI_0, tI_bz, n4, n16, eq_self, Nat.reduceLT, Nat.reduceLeDiff, Nat.reduceEqDiff, Nat.reduceAdd, Nat.reduceMul, Nat.reduceDiv, Nat.reduceMod, Nat.le_refl, decide_eq_false_iff_not, Classical.not_not, true_and, and_true, false_and, and_false, not_true_eq_false, not_false_eq_true, forall_const, true_implies, false_implies, implies_true, ne_eq, e]
  unfold dt at hp
  refine ⟨fun c => ?_, fun c => ⟨fun c2 => absurd c2 (by omega), fun c2 => ⟨by omega, ?_⟩⟩⟩
  · rwa [if_pos (by omega)] at hp
  · rw [if_neg (by omega)] at hp
    refine ⟨fun c3 => ?_, fun c3 => ⟨fun c4 => ?_, fun c4 => ?_⟩⟩
    · rwa [cl_le c3] at hp
    · rwa [cl_ge c4] at hp
    · rwa [cl_in c3 c4] at hp
theorem k_dataOf {dd b : Nat} (hC : CR h i S) (hd : dd < 14) (hb : b < 16) (hp : p (nI (dof S dd b)) h) : mI (Kd sL (d + 2)) 11 [.inr (.inr (.inl (i, 0))), .inl (nI dd), .inl (nI b)] h p := by
  refine ke_X0_dataOf ?_
  refine EX.go (Kd_mono _ _) [false] 40 0 ?_
  dsimp only [wpc_s, wsl_t, wsl_f, gD_0, gD_s, ↓denB_n, pI_s, pG_s, pU_n, cb_X0_dataOf_0, ↓ev_aload_n_0, ↓ev_iload_n_1, ↓ev_iload_n_2, ↓ev_iconst_4, ↓ev_idiv, ↓ev_callv_3_0_1, ↓ev_callv_3_1_1, ↓ev_callv_3_2_1, ↓ev_callv_3_3_1, ↓ev_callv_3_4_1, ↓ev_irem, ↓ev_iret, Nat.reduceAdd]
  simp (disch := omega) only [pk_mul, nI_add, n_lt0, n_le0, n_eq0, n_ge0, n_gt0, n_lt, n_le, n_eq, n_in, n_div, n_rem, n_rem2, n_m1, nI_clamp, bz_0, bz_1, tI_0, tI_bz, n4, n16, eq_self, Nat.reduceLT, Nat.reduceLeDiff, Nat.reduceEqDiff, Nat.reduceAdd, Nat.reduceMul, Nat.reduceDiv, Nat.reduceMod, Nat.le_refl, decide_eq_false_iff_not, Classical.not_not, true_and, and_true, false_and, and_false, not_true_eq_false, not_false_eq_true, forall_const, true_implies, false_implies, implies_true, ne_eq]
  refine k_tableAt hC hd (by omega) ?_
  refine k_dataAt hC (tb_lt _ _ _) (by omega) ?_
  exact hp
theorem k_at {pl : Nat} {x : Int32} (hC : CR h i S) (hpl : pl < 64) (hp : p (rdf S 6 x pl) h) : mI (Kd sL (d + 2)) 13 [.inr (.inr (.inl (i, 0))), .inl x, .inl (nI pl)] h p := by
  refine ke_X0_at ?_
  refine EX.go (Kd_mono _ _) [false, true, false, false, false, false, false, false] 40 0 ?_
  dsimp only [wpc_s, wsl_t, wsl_f, gD_0, gD_s, ↓denB_n, pI_s, pG_s, pU_n, cb_X0_at_0, cb_X0_at_1, cb_X0_at_2, cb_X0_at_3, cb_X0_at_4, cb_X0_at_5, cb_X0_at_6, cb_X0_at_7, ↓ev_iload_n_1, ↓ev_istore_n_3, ↓ev_iconst_0, ↓ev_istore_4, ↓ev_iload_4, ↓ev_bipush_6, ↓ev_icmp_ge, ↓ev_iload_n_3, ↓ev_if_lt, ↓ev_aload_n_0, ↓ev_iload_n_2, ↓ev_bipush_16, ↓ev_idiv, ↓ev_callv_3_0_1, ↓ev_callv_3_1_1, ↓ev_callv_3_2_1, ↓ev_callv_3_3_1, ↓ev_callv_3_4_1, ↓ev_iconst_4, ↓ev_irem, ↓ev_istore_5, ↓ev_iload_5, ↓ev_if_eq, ↓ev_getf_0_0, ↓ev_imul, ↓ev_iadd, ↓ev_iald_m1, ↓ev_iald_m2, ↓ev_iald_m3, ↓ev_iald_m4, ↓ev_iald_m5, ↓ev_iald_m6, ↓ev_iret, ↓ev_getf_0_3, ↓ev_iinc_4_1, ↓ev_goto, Nat.reduceAdd]
  suffices H : ∀ (f k : Nat) (l : Int32) (o : Option mV), k + f = 6 → p (rdf S f l pl) h → EX (Kd sL (d + 1)) sL md_X0_at (pI p) 1 [some (.inr (.inr (.inl (i, 0)))), some (.inl x), some (.inl (nI pl)), some (.inl l), some (.inl (nI k)), o] [] h from H 6 0 x none rfl hp
  intro f
  induction f with
  | zero =>
    intro k l o hk hp
    refine EX.go (Kd_mono _ _) [false, true, false, false, false, false, false, false] 40 1 ?_
    dsimp only [wpc_s, wsl_t, wsl_f, gD_0, gD_s, ↓denB_n, pI_s, pG_s, pU_n, cb_X0_at_0, cb_X0_at_1, cb_X0_at_2, cb_X0_at_3, cb_X0_at_4, cb_X0_at_5, cb_X0_at_6, cb_X0_at_7, ↓ev_iload_n_1, ↓ev_istore_n_3, ↓ev_iconst_0, ↓ev_istore_4, ↓ev_iload_4, ↓ev_bipush_6, ↓ev_icmp_ge, ↓ev_iload_n_3, ↓ev_if_lt, ↓ev_aload_n_0, ↓ev_iload_n_2, ↓ev_bipush_16, ↓ev_idiv, ↓ev_callv_3_0_1, ↓ev_callv_3_1_1, ↓ev_callv_3_2_1, ↓ev_callv_3_3_1, ↓ev_callv_3_4_1, ↓ev_iconst_4, ↓ev_irem, ↓ev_istore_5, ↓ev_iload_5, ↓ev_if_eq, ↓ev_getf_0_0, ↓ev_imul, ↓ev_iadd, ↓ev_iald_m1, ↓ev_iald_m2, ↓ev_iald_m3, ↓ev_iald_m4, ↓ev_iald_m5, ↓ev_iald_m6, ↓ev_iret, ↓ev_getf_0_3, ↓ev_iinc_4_1, ↓ev_goto, Nat.reduceAdd]
    simp (disch := omega) only [pk_mul, nI_add, n_lt0, n_le0, n_eq0, n_ge0, n_gt0, n_lt, n_le, n_eq, n_in, n_div, n_rem, n_rem2, n_m1, nI_clamp, bz_0, bz_1, tI_0, tI_bz, n4, n16, eq_self, Nat.reduceLT, Nat.reduceLeDiff, Nat.reduceEqDiff, Nat.reduceAdd, Nat.reduceMul, Nat.reduceDiv, Nat.reduceMod, Nat.le_refl, decide_eq_false_iff_not, Classical.not_not, true_and, and_true, false_and, and_false, not_true_eq_false, not_false_eq_true, forall_const, true_implies, false_implies, implies_true, ne_eq]
    exact ⟨fun _ => hp, fun c => absurd (show 6 ≤ k by omega) c⟩
  | succ f ih =>
    intro k l o hk hp
    refine EX.go (Kd_mono _ _) [false, true, false, false, false, false, false, false] 40 1 ?_
    dsimp only [wpc_s, wsl_t, wsl_f, gD_0, gD_s, ↓denB_n, pI_s, pG_s, pU_n, cb_X0_at_0, cb_X0_at_1, cb_X0_at_2, cb_X0_at_3, cb_X0_at_4, cb_X0_at_5, cb_X0_at_6, cb_X0_at_7, ↓ev_iload_n_1, ↓ev_istore_n_3, ↓ev_iconst_0, ↓ev_istore_4, ↓ev_iload_4, ↓ev_bipush_6, ↓ev_icmp_ge, ↓ev_iload_n_3, ↓ev_if_lt, ↓ev_aload_n_0, ↓ev_iload_n_2, ↓ev_bipush_16, ↓ev_idiv, ↓ev_callv_3_0_1, ↓ev_callv_3_1_1, ↓ev_callv_3_2_1, ↓ev_callv_3_3_1, ↓ev_callv_3_4_1, ↓ev_iconst_4, ↓ev_irem, ↓ev_istore_5, ↓ev_iload_5, ↓ev_if_eq, ↓ev_getf_0_0, ↓ev_imul, ↓ev_iadd, ↓ev_iald_m1, ↓ev_iald_m2, ↓ev_iald_m3, ↓ev_iald_m4, ↓ev_iald_m5, ↓ev_iald_m6, ↓ev_iret, ↓ev_getf_0_3, ↓ev_iinc_4_1, ↓ev_goto, Nat.reduceAdd]
    simp (disch := omega) only [pk_mul, nI_add, n_lt0, n_le0, n_eq0, n_ge0, n_gt0, n_lt, n_le, n_eq, n_in, n_div, n_rem, n_rem2, n_m1, nI_clamp, bz_0, bz_1, tI_0, tI_bz, n4, n16, eq_self, Nat.reduceLT, Nat.reduceLeDiff, Nat.reduceEqDiff, Nat.reduceAdd, Nat.reduceMul, Nat.reduceDiv, Nat.reduceMod, Nat.le_refl, decide_eq_false_iff_not, Classical.not_not, true_and, and_true, false_and, and_false, not_true_eq_false, not_false_eq_true, forall_const, true_implies, false_implies, implies_true, ne_eq]
    refine ⟨fun c => absurd c (by omega), fun _ => ⟨fun c => ?_, fun c => ⟨fun c2 => ?_, fun c2 => ?_⟩⟩⟩
    · rwa [rdf, if_neg (fun z => Int32.not_lt.mpr z.1 c)] at hp
    · rwa [rdf, if_neg (fun z => Int32.not_lt.mpr c2 z.2)] at hp
    · obtain ⟨l, hl, rfl⟩ := (i_cases l).resolve_left c
      have hl6 : l < 6 := by
        have := c2
        simp (disch := omega) only [pk_mul, nI_add, n_lt0, n_le0, n_eq0, n_ge0, n_gt0, n_lt, n_le, n_eq, n_in, n_div, n_rem, n_rem2, n_m1, nI_clamp, bz_0, bz_1, tI_0, tI_bz, n4, n16, eq_self, Nat.reduceLT, Nat.reduceLeDiff, Nat.reduceEqDiff, Nat.reduceAdd, Nat.reduceMul, Nat.reduceDiv, Nat.reduceMod, Nat.le_refl, decide_eq_false_iff_not, Classical.not_not, true_and, and_true, false_and, and_false, not_true_eq_false, not_false_eq_true, forall_const, true_implies, false_implies, implies_true, ne_eq] at this
        omega
      rw [rdf, if_pos ⟨Int32.not_lt.mp c, Int32.not_le.mp c2⟩, nI_clamp hl] at hp
      refine k_tableAt hC (by omega) (by omega) ?_
      refine k_dataAt hC (tb_lt _ _ _) (by omega) ?_
      have e0 : dt S (tb S l (pl / 16)) (pl / 4 % 4) = dof S l (pl / 4) := by
        unfold dof
        congr 2
        omega
      rw [e0]
      have hdl := dof_lt S l (pl / 4)
      have e : h (.inl (i, 1)) (dof S l (pl / 4) * 4 + pl % 4) = S (64 + (4 * dof S l (pl / 4) + pl % 4)) := by rw [hC.1 _ (by omega), Nat.mul_comm]
      simp (disch := omega) only [pk_mul, nI_add, n_lt0, n_le0, n_eq0, n_ge0, n_gt0, n_lt, n_le, n_eq, n_in, n_div, n_rem, n_rem2, n_m1, nI_clamp, bz_0, bz_1, tI_0, tI_bz, n4, n16, eq_self, Nat.reduceLT, Nat.reduceLeDiff, Nat.reduceEqDiff, Nat.reduceAdd, Nat.reduceMul, Nat.reduceDiv, Nat.reduceMod, Nat.le_refl, decide_eq_false_iff_not, Classical.not_not, true_and, and_true, false_and, and_false, not_true_eq_false, not_false_eq_true, forall_const, true_implies, false_implies, implies_true, ne_eq, e]
      refine ⟨fun c3 => ?_, fun c3 => ⟨by omega, ?_⟩⟩
      · rw [if_pos c3] at hp
        refine ⟨by omega, ?_⟩
        rw [hC.2.2.2.1 l hl6]
        exact ih (k + 1) (bk S l) _ (by omega) hp
      · rwa [if_neg c3] at hp
end IMG
