/-! ===== class Thought: go ===== -/
section GO
variable {sL d L : Nat} {h : mH} {i : Fin 3} {S : St} {p : mH → Prop}
theorem go_pre {kd : Nat} (hC : CR h i S) (hL : L ≤ 1000000) (hk : h (.inr 2) 1 = nI kd) (H : ∀ h1, OV h h1 → TR h1 L (S, 0, 0) → h1 (.inr 2) 1 = nI kd → (∀ j, j < 5 → h1 (.inr 2) j = h (.inr 2) j) → p h1) : ∀ h1, OV h h1 → TR h1 L (S, 0, 0) → p h1 := fun h1 o t => H h1 o t (by rw [o.2 1 (by decide)]; exact hk) o.2
theorem k_go_write {l pl : Nat} {v : Int32} (hC : CR h i S) (hL : L ≤ 1000000) (hk : h (.inr 2) 1 = nI 0) (h2 : h (.inr 2) 2 = nI l) (h3 : h (.inr 2) 3 = nI pl) (h4 : h (.inr 2) 4 = v) (hl : l < mn S) (hpl : pl < 64) (hp : ∀ h', OV h h' → TR h' L (wpl L l pl v (S, 0, 0)) → p h') : mU (Kd sL (d + 6)) 39 [.inr (.inr (.inr 2)), .inr (.inr (.inl (i, 0))), .inl (nI L)] h p := by
  have hm6 := hC.2.2.2.2.2.2.1
  refine ke_X2_go ?_
  refine EX.go (Kd_mono _ _) [false, false, false, false, false, false, false, false, false, false] 40 0 ?_
  dsimp only [wpc_s, wsl_t, wsl_f, gD_0, gD_s, ↓denB_n, pI_s, pG_s, pU_n, cb_X2_go_0, cb_X2_go_1, cb_X2_go_2, cb_X2_go_3, cb_X2_go_4, cb_X2_go_5, cb_X2_go_6, cb_X2_go_7, cb_X2_go_8, cb_X2_go_9, ↓ev_aload_n_0, ↓ev_aload_n_1, ↓ev_iload_n_2, ↓ev_callv_3_0_0, ↓ev_callv_3_1_0, ↓ev_callv_3_2_0, ↓ev_callv_3_3_0, ↓ev_callv_3_4_0, ↓ev_getf_2_1, ↓ev_tsw_0_8, ↓ev_getf_2_2, ↓ev_getf_2_3, ↓ev_getf_2_4, ↓ev_callv_4_0_0, ↓ev_callv_4_1_0, ↓ev_callv_4_2_0, ↓ev_callv_4_3_0, ↓ev_callv_4_4_0, ↓ev_goto, ↓ev_getf_2_0, ↓ev_callv_1_0_1, ↓ev_callv_1_1_1, ↓ev_callv_1_2_1, ↓ev_callv_1_3_1, ↓ev_callv_1_4_1, ↓ev_callv_2_0_0, ↓ev_callv_2_1_0, ↓ev_callv_2_2_0, ↓ev_callv_2_3_0, ↓ev_callv_2_4_0, ↓ev_callv_1_0_0, ↓ev_callv_1_1_0, ↓ev_callv_1_2_0, ↓ev_callv_1_3_0, ↓ev_callv_1_4_0, ↓ev_ret, Nat.reduceAdd]
  refine k_start hC hL (fun h1 o1 t1 => ?_)
  have e1 := (o1.2 1 (by decide)).trans hk
  have e2 := (o1.2 2 (by decide)).trans h2
  have e3 := (o1.2 3 (by decide)).trans h3
  have e4 := (o1.2 4 (by decide)).trans h4
  rw [e1]
  try simp (disch := omega) only [pk_mul, nI_add, n_lt0, n_le0, n_eq0, n_ge0, n_gt0, n_lt, n_le, n_eq, n_in, n_div, n_rem, n_rem2, n_m1, nI_clamp, bz_0, bz_1, tI_0, tI_bz, n4, n16, eq_self, Nat.reduceLT, Nat.reduceLeDiff, Nat.reduceEqDiff, Nat.reduceAdd, Nat.reduceMul, Nat.reduceDiv, Nat.reduceMod, Nat.le_refl, decide_eq_false_iff_not, Classical.not_not, true_and, and_true, false_and, and_false, not_true_eq_false, not_false_eq_true, forall_const, true_implies, false_implies, implies_true, ne_eq]
  rw [e2, e3, e4]
  exact k_writePlace t1 hl hpl (fun h2 o2 t2 => hp h2 (o1.tr o2.ou.ov) t2)
theorem k_go_snap {l s : Nat} (hC : CR h i S) (hL : L ≤ 1000000) (hk : h (.inr 2) 1 = nI 1) (h2 : h (.inr 2) 2 = nI l) (hl : l < mn S) (hs : s < 8) (hs1 : ∀ j, j < s → ¬ sn S j = -1) (hs2 : sn S s = -1) (hp : ∀ h', OV h h' → TR h' L (snp L l s (S, 0, 0)) → p h') : mU (Kd sL (d + 6)) 39 [.inr (.inr (.inr 2)), .inr (.inr (.inl (i, 0))), .inl (nI L)] h p := by
  have hm6 := hC.2.2.2.2.2.2.1
  refine ke_X2_go ?_
  refine EX.go (Kd_mono _ _) [false, false, false, false, false, false, false, false, false, false] 40 0 ?_
  dsimp only [wpc_s, wsl_t, wsl_f, gD_0, gD_s, ↓denB_n, pI_s, pG_s, pU_n, cb_X2_go_0, cb_X2_go_1, cb_X2_go_2, cb_X2_go_3, cb_X2_go_4, cb_X2_go_5, cb_X2_go_6, cb_X2_go_7, cb_X2_go_8, cb_X2_go_9, ↓ev_aload_n_0, ↓ev_aload_n_1, ↓ev_iload_n_2, ↓ev_callv_3_0_0, ↓ev_callv_3_1_0, ↓ev_callv_3_2_0, ↓ev_callv_3_3_0, ↓ev_callv_3_4_0, ↓ev_getf_2_1, ↓ev_tsw_0_8, ↓ev_getf_2_2, ↓ev_getf_2_3, ↓ev_getf_2_4, ↓ev_callv_4_0_0, ↓ev_callv_4_1_0, ↓ev_callv_4_2_0, ↓ev_callv_4_3_0, ↓ev_callv_4_4_0, ↓ev_goto, ↓ev_getf_2_0, ↓ev_callv_1_0_1, ↓ev_callv_1_1_1, ↓ev_callv_1_2_1, ↓ev_callv_1_3_1, ↓ev_callv_1_4_1, ↓ev_callv_2_0_0, ↓ev_callv_2_1_0, ↓ev_callv_2_2_0, ↓ev_callv_2_3_0, ↓ev_callv_2_4_0, ↓ev_callv_1_0_0, ↓ev_callv_1_1_0, ↓ev_callv_1_2_0, ↓ev_callv_1_3_0, ↓ev_callv_1_4_0, ↓ev_ret, Nat.reduceAdd]
  refine k_start hC hL (fun h1 o1 t1 => ?_)
  have e1 := (o1.2 1 (by decide)).trans hk
  have e2 := (o1.2 2 (by decide)).trans h2
  rw [e1]
  try simp (disch := omega) only [pk_mul, nI_add, n_lt0, n_le0, n_eq0, n_ge0, n_gt0, n_lt, n_le, n_eq, n_in, n_div, n_rem, n_rem2, n_m1, nI_clamp, bz_0, bz_1, tI_0, tI_bz, n4, n16, eq_self, Nat.reduceLT, Nat.reduceLeDiff, Nat.reduceEqDiff, Nat.reduceAdd, Nat.reduceMul, Nat.reduceDiv, Nat.reduceMod, Nat.le_refl, decide_eq_false_iff_not, Classical.not_not, true_and, and_true, false_and, and_false, not_true_eq_false, not_false_eq_true, forall_const, true_implies, false_implies, implies_true, ne_eq]
  rw [e2]
  refine k_leastMissing t1.1 (fun s2 a b c => ?_)
  have es : s2 = s := by
    rcases Nat.lt_trichotomy s2 s with q | q | q
    · exact absurd (c (by omega)) (hs1 s2 q)
    · exact q
    · exact absurd hs2 (b s q)
  subst es
  rw [if_neg (by omega)]
  exact k_takeSnapshot t1 hl hs (fun h2 o2 t2 => hp h2 (o1.tr o2.ou.ov) t2)
theorem k_go_drop {s : Nat} (hC : CR h i S) (hL : L ≤ 1000000) (hk : h (.inr 2) 1 = nI 2) (h2 : h (.inr 2) 2 = nI s) (hs : s < 8) (hp : ∀ h', OV h h' → TR h' L (drp L s (S, 0, 0)) → p h') : mU (Kd sL (d + 6)) 39 [.inr (.inr (.inr 2)), .inr (.inr (.inl (i, 0))), .inl (nI L)] h p := by
  have hm6 := hC.2.2.2.2.2.2.1
  refine ke_X2_go ?_
  refine EX.go (Kd_mono _ _) [false, false, false, false, false, false, false, false, false, false] 40 0 ?_
  dsimp only [wpc_s, wsl_t, wsl_f, gD_0, gD_s, ↓denB_n, pI_s, pG_s, pU_n, cb_X2_go_0, cb_X2_go_1, cb_X2_go_2, cb_X2_go_3, cb_X2_go_4, cb_X2_go_5, cb_X2_go_6, cb_X2_go_7, cb_X2_go_8, cb_X2_go_9, ↓ev_aload_n_0, ↓ev_aload_n_1, ↓ev_iload_n_2, ↓ev_callv_3_0_0, ↓ev_callv_3_1_0, ↓ev_callv_3_2_0, ↓ev_callv_3_3_0, ↓ev_callv_3_4_0, ↓ev_getf_2_1, ↓ev_tsw_0_8, ↓ev_getf_2_2, ↓ev_getf_2_3, ↓ev_getf_2_4, ↓ev_callv_4_0_0, ↓ev_callv_4_1_0, ↓ev_callv_4_2_0, ↓ev_callv_4_3_0, ↓ev_callv_4_4_0, ↓ev_goto, ↓ev_getf_2_0, ↓ev_callv_1_0_1, ↓ev_callv_1_1_1, ↓ev_callv_1_2_1, ↓ev_callv_1_3_1, ↓ev_callv_1_4_1, ↓ev_callv_2_0_0, ↓ev_callv_2_1_0, ↓ev_callv_2_2_0, ↓ev_callv_2_3_0, ↓ev_callv_2_4_0, ↓ev_callv_1_0_0, ↓ev_callv_1_1_0, ↓ev_callv_1_2_0, ↓ev_callv_1_3_0, ↓ev_callv_1_4_0, ↓ev_ret, Nat.reduceAdd]
  refine k_start hC hL (fun h1 o1 t1 => ?_)
  have e1 := (o1.2 1 (by decide)).trans hk
  have e2 := (o1.2 2 (by decide)).trans h2
  rw [e1]
  try simp (disch := omega) only [pk_mul, nI_add, n_lt0, n_le0, n_eq0, n_ge0, n_gt0, n_lt, n_le, n_eq, n_in, n_div, n_rem, n_rem2, n_m1, nI_clamp, bz_0, bz_1, tI_0, tI_bz, n4, n16, eq_self, Nat.reduceLT, Nat.reduceLeDiff, Nat.reduceEqDiff, Nat.reduceAdd, Nat.reduceMul, Nat.reduceDiv, Nat.reduceMod, Nat.le_refl, decide_eq_false_iff_not, Classical.not_not, true_and, and_true, false_and, and_false, not_true_eq_false, not_false_eq_true, forall_const, true_implies, false_implies, implies_true, ne_eq]
  rw [e2]
  exact k_dropSnapshot t1 hs (fun h2 o2 t2 => hp h2 (o1.tr o2.ov) t2)
theorem k_go_revert {s l : Nat} (hC : CR h i S) (hL : L ≤ 1000000) (hk : h (.inr 2) 1 = nI 3) (h2 : h (.inr 2) 2 = nI s) (hs : s < 8) (hsn : sn S s = nI l) (hl : l < mn S) (hp : ∀ h', OV h h' → TR h' L (rvt L l s (S, 0, 0)) → p h') : mU (Kd sL (d + 6)) 39 [.inr (.inr (.inr 2)), .inr (.inr (.inl (i, 0))), .inl (nI L)] h p := by
  have hm6 := hC.2.2.2.2.2.2.1
  refine ke_X2_go ?_
  refine EX.go (Kd_mono _ _) [false, false, false, false, false, false, false, false, false, false] 40 0 ?_
  dsimp only [wpc_s, wsl_t, wsl_f, gD_0, gD_s, ↓denB_n, pI_s, pG_s, pU_n, cb_X2_go_0, cb_X2_go_1, cb_X2_go_2, cb_X2_go_3, cb_X2_go_4, cb_X2_go_5, cb_X2_go_6, cb_X2_go_7, cb_X2_go_8, cb_X2_go_9, ↓ev_aload_n_0, ↓ev_aload_n_1, ↓ev_iload_n_2, ↓ev_callv_3_0_0, ↓ev_callv_3_1_0, ↓ev_callv_3_2_0, ↓ev_callv_3_3_0, ↓ev_callv_3_4_0, ↓ev_getf_2_1, ↓ev_tsw_0_8, ↓ev_getf_2_2, ↓ev_getf_2_3, ↓ev_getf_2_4, ↓ev_callv_4_0_0, ↓ev_callv_4_1_0, ↓ev_callv_4_2_0, ↓ev_callv_4_3_0, ↓ev_callv_4_4_0, ↓ev_goto, ↓ev_getf_2_0, ↓ev_callv_1_0_1, ↓ev_callv_1_1_1, ↓ev_callv_1_2_1, ↓ev_callv_1_3_1, ↓ev_callv_1_4_1, ↓ev_callv_2_0_0, ↓ev_callv_2_1_0, ↓ev_callv_2_2_0, ↓ev_callv_2_3_0, ↓ev_callv_2_4_0, ↓ev_callv_1_0_0, ↓ev_callv_1_1_0, ↓ev_callv_1_2_0, ↓ev_callv_1_3_0, ↓ev_callv_1_4_0, ↓ev_ret, Nat.reduceAdd]
  refine k_start hC hL (fun h1 o1 t1 => ?_)
  have e1 := (o1.2 1 (by decide)).trans hk
  have e2 := (o1.2 2 (by decide)).trans h2
  rw [e1]
  try simp (disch := omega) only [pk_mul, nI_add, n_lt0, n_le0, n_eq0, n_ge0, n_gt0, n_lt, n_le, n_eq, n_in, n_div, n_rem, n_rem2, n_m1, nI_clamp, bz_0, bz_1, tI_0, tI_bz, n4, n16, eq_self, Nat.reduceLT, Nat.reduceLeDiff, Nat.reduceEqDiff, Nat.reduceAdd, Nat.reduceMul, Nat.reduceDiv, Nat.reduceMod, Nat.le_refl, decide_eq_false_iff_not, Classical.not_not, true_and, and_true, false_and, and_false, not_true_eq_false, not_false_eq_true, forall_const, true_implies, false_implies, implies_true, ne_eq]
  rw [e2]
  exact k_revertTo t1 hs hsn hl (fun h2 o2 t2 => hp h2 (o1.tr o2.ov) t2)
theorem k_go_giveUp {l b : Nat} (hC : CR h i S) (hL : L ≤ 1000000) (hk : h (.inr 2) 1 = nI 4) (h2 : h (.inr 2) 2 = nI l) (h3 : h (.inr 2) 3 = nI b) (hl : l < mn S) (hb : b < 16) (hp : ∀ h', OV h h' → TR h' L (gvu L l b (S, 0, 0)) → p h') : mU (Kd sL (d + 6)) 39 [.inr (.inr (.inr 2)), .inr (.inr (.inl (i, 0))), .inl (nI L)] h p := by
  have hm6 := hC.2.2.2.2.2.2.1
  refine ke_X2_go ?_
  refine EX.go (Kd_mono _ _) [false, false, false, false, false, false, false, false, false, false] 40 0 ?_
  dsimp only [wpc_s, wsl_t, wsl_f, gD_0, gD_s, ↓denB_n, pI_s, pG_s, pU_n, cb_X2_go_0, cb_X2_go_1, cb_X2_go_2, cb_X2_go_3, cb_X2_go_4, cb_X2_go_5, cb_X2_go_6, cb_X2_go_7, cb_X2_go_8, cb_X2_go_9, ↓ev_aload_n_0, ↓ev_aload_n_1, ↓ev_iload_n_2, ↓ev_callv_3_0_0, ↓ev_callv_3_1_0, ↓ev_callv_3_2_0, ↓ev_callv_3_3_0, ↓ev_callv_3_4_0, ↓ev_getf_2_1, ↓ev_tsw_0_8, ↓ev_getf_2_2, ↓ev_getf_2_3, ↓ev_getf_2_4, ↓ev_callv_4_0_0, ↓ev_callv_4_1_0, ↓ev_callv_4_2_0, ↓ev_callv_4_3_0, ↓ev_callv_4_4_0, ↓ev_goto, ↓ev_getf_2_0, ↓ev_callv_1_0_1, ↓ev_callv_1_1_1, ↓ev_callv_1_2_1, ↓ev_callv_1_3_1, ↓ev_callv_1_4_1, ↓ev_callv_2_0_0, ↓ev_callv_2_1_0, ↓ev_callv_2_2_0, ↓ev_callv_2_3_0, ↓ev_callv_2_4_0, ↓ev_callv_1_0_0, ↓ev_callv_1_1_0, ↓ev_callv_1_2_0, ↓ev_callv_1_3_0, ↓ev_callv_1_4_0, ↓ev_ret, Nat.reduceAdd]
  refine k_start hC hL (fun h1 o1 t1 => ?_)
  have e1 := (o1.2 1 (by decide)).trans hk
  have e2 := (o1.2 2 (by decide)).trans h2
  have e3 := (o1.2 3 (by decide)).trans h3
  rw [e1]
  try simp (disch := omega) only [pk_mul, nI_add, n_lt0, n_le0, n_eq0, n_ge0, n_gt0, n_lt, n_le, n_eq, n_in, n_div, n_rem, n_rem2, n_m1, nI_clamp, bz_0, bz_1, tI_0, tI_bz, n4, n16, eq_self, Nat.reduceLT, Nat.reduceLeDiff, Nat.reduceEqDiff, Nat.reduceAdd, Nat.reduceMul, Nat.reduceDiv, Nat.reduceMod, Nat.le_refl, decide_eq_false_iff_not, Classical.not_not, true_and, and_true, false_and, and_false, not_true_eq_false, not_false_eq_true, forall_const, true_implies, false_implies, implies_true, ne_eq]
  rw [e2, e3]
  exact k_giveUpBlock t1 hl hb (fun h2 o2 t2 => hp h2 (o1.tr o2.ou.ov) t2)
theorem k_go_merge {l bb : Nat} (hC : CR h i S) (hL : L ≤ 1000000) (hk : h (.inr 2) 1 = nI 5) (h2 : h (.inr 2) 2 = nI l) (hl : l < mn S) (hbk : bk S l = nI bb) (hbb : bb < mn S) (hp : ∀ h', OV h h' → TR h' L (mrg L l bb (S, 0, 0)) → p h') : mU (Kd sL (d + 6)) 39 [.inr (.inr (.inr 2)), .inr (.inr (.inl (i, 0))), .inl (nI L)] h p := by
  have hm6 := hC.2.2.2.2.2.2.1
  refine ke_X2_go ?_
  refine EX.go (Kd_mono _ _) [false, false, false, false, false, false, false, false, false, false] 40 0 ?_
  dsimp only [wpc_s, wsl_t, wsl_f, gD_0, gD_s, ↓denB_n, pI_s, pG_s, pU_n, cb_X2_go_0, cb_X2_go_1, cb_X2_go_2, cb_X2_go_3, cb_X2_go_4, cb_X2_go_5, cb_X2_go_6, cb_X2_go_7, cb_X2_go_8, cb_X2_go_9, ↓ev_aload_n_0, ↓ev_aload_n_1, ↓ev_iload_n_2, ↓ev_callv_3_0_0, ↓ev_callv_3_1_0, ↓ev_callv_3_2_0, ↓ev_callv_3_3_0, ↓ev_callv_3_4_0, ↓ev_getf_2_1, ↓ev_tsw_0_8, ↓ev_getf_2_2, ↓ev_getf_2_3, ↓ev_getf_2_4, ↓ev_callv_4_0_0, ↓ev_callv_4_1_0, ↓ev_callv_4_2_0, ↓ev_callv_4_3_0, ↓ev_callv_4_4_0, ↓ev_goto, ↓ev_getf_2_0, ↓ev_callv_1_0_1, ↓ev_callv_1_1_1, ↓ev_callv_1_2_1, ↓ev_callv_1_3_1, ↓ev_callv_1_4_1, ↓ev_callv_2_0_0, ↓ev_callv_2_1_0, ↓ev_callv_2_2_0, ↓ev_callv_2_3_0, ↓ev_callv_2_4_0, ↓ev_callv_1_0_0, ↓ev_callv_1_1_0, ↓ev_callv_1_2_0, ↓ev_callv_1_3_0, ↓ev_callv_1_4_0, ↓ev_ret, Nat.reduceAdd]
  refine k_start hC hL (fun h1 o1 t1 => ?_)
  have e1 := (o1.2 1 (by decide)).trans hk
  have e2 := (o1.2 2 (by decide)).trans h2
  rw [e1]
  try simp (disch := omega) only [pk_mul, nI_add, n_lt0, n_le0, n_eq0, n_ge0, n_gt0, n_lt, n_le, n_eq, n_in, n_div, n_rem, n_rem2, n_m1, nI_clamp, bz_0, bz_1, tI_0, tI_bz, n4, n16, eq_self, Nat.reduceLT, Nat.reduceLeDiff, Nat.reduceEqDiff, Nat.reduceAdd, Nat.reduceMul, Nat.reduceDiv, Nat.reduceMod, Nat.le_refl, decide_eq_false_iff_not, Classical.not_not, true_and, and_true, false_and, and_false, not_true_eq_false, not_false_eq_true, forall_const, true_implies, false_implies, implies_true, ne_eq]
  rw [e2]
  exact k_mergeDown t1 hl hbk hbb (fun h2 o2 t2 => hp h2 (o1.tr o2.ov) t2)
theorem k_go_fold  (hC : CR h i S) (hL : L ≤ 1000000) (hk : h (.inr 2) 1 = nI 6)  (hp : ∀ h', OV h h' → TR h' L (fol L (S, 0, 0)) → p h') : mU (Kd sL (d + 6)) 39 [.inr (.inr (.inr 2)), .inr (.inr (.inl (i, 0))), .inl (nI L)] h p := by
  have hm6 := hC.2.2.2.2.2.2.1
  refine ke_X2_go ?_
  refine EX.go (Kd_mono _ _) [false, false, false, false, false, false, false, false, false, false] 40 0 ?_
  dsimp only [wpc_s, wsl_t, wsl_f, gD_0, gD_s, ↓denB_n, pI_s, pG_s, pU_n, cb_X2_go_0, cb_X2_go_1, cb_X2_go_2, cb_X2_go_3, cb_X2_go_4, cb_X2_go_5, cb_X2_go_6, cb_X2_go_7, cb_X2_go_8, cb_X2_go_9, ↓ev_aload_n_0, ↓ev_aload_n_1, ↓ev_iload_n_2, ↓ev_callv_3_0_0, ↓ev_callv_3_1_0, ↓ev_callv_3_2_0, ↓ev_callv_3_3_0, ↓ev_callv_3_4_0, ↓ev_getf_2_1, ↓ev_tsw_0_8, ↓ev_getf_2_2, ↓ev_getf_2_3, ↓ev_getf_2_4, ↓ev_callv_4_0_0, ↓ev_callv_4_1_0, ↓ev_callv_4_2_0, ↓ev_callv_4_3_0, ↓ev_callv_4_4_0, ↓ev_goto, ↓ev_getf_2_0, ↓ev_callv_1_0_1, ↓ev_callv_1_1_1, ↓ev_callv_1_2_1, ↓ev_callv_1_3_1, ↓ev_callv_1_4_1, ↓ev_callv_2_0_0, ↓ev_callv_2_1_0, ↓ev_callv_2_2_0, ↓ev_callv_2_3_0, ↓ev_callv_2_4_0, ↓ev_callv_1_0_0, ↓ev_callv_1_1_0, ↓ev_callv_1_2_0, ↓ev_callv_1_3_0, ↓ev_callv_1_4_0, ↓ev_ret, Nat.reduceAdd]
  refine k_start hC hL (fun h1 o1 t1 => ?_)
  have e1 := (o1.2 1 (by decide)).trans hk
  rw [e1]
  try simp (disch := omega) only [pk_mul, nI_add, n_lt0, n_le0, n_eq0, n_ge0, n_gt0, n_lt, n_le, n_eq, n_in, n_div, n_rem, n_rem2, n_m1, nI_clamp, bz_0, bz_1, tI_0, tI_bz, n4, n16, eq_self, Nat.reduceLT, Nat.reduceLeDiff, Nat.reduceEqDiff, Nat.reduceAdd, Nat.reduceMul, Nat.reduceDiv, Nat.reduceMod, Nat.le_refl, decide_eq_false_iff_not, Classical.not_not, true_and, and_true, false_and, and_false, not_true_eq_false, not_false_eq_true, forall_const, true_implies, false_implies, implies_true, ne_eq]
  exact k_foldAlike t1 (fun h2 o2 t2 => hp h2 (o1.tr o2.ou.ov) t2)
theorem k_go_move {l safe : Nat} {y : Int32} (hC : CR h i S) (hL : L ≤ 1000000) (hk : h (.inr 2) 1 = nI 7) (h2 : h (.inr 2) 2 = nI l) (h3 : h (.inr 2) 3 = y) (h4 : h (.inr 2) 4 = nI safe) (hl : l < mn S) (hsf : safe ≤ 1) (hp : ∀ h', OV h h' → TR h' L (mov L l y safe (S, 0, 0)) → p h') : mU (Kd sL (d + 6)) 39 [.inr (.inr (.inr 2)), .inr (.inr (.inl (i, 0))), .inl (nI L)] h p := by
  have hm6 := hC.2.2.2.2.2.2.1
  refine ke_X2_go ?_
  refine EX.go (Kd_mono _ _) [false, false, false, false, false, false, false, false, false, false] 40 0 ?_
  dsimp only [wpc_s, wsl_t, wsl_f, gD_0, gD_s, ↓denB_n, pI_s, pG_s, pU_n, cb_X2_go_0, cb_X2_go_1, cb_X2_go_2, cb_X2_go_3, cb_X2_go_4, cb_X2_go_5, cb_X2_go_6, cb_X2_go_7, cb_X2_go_8, cb_X2_go_9, ↓ev_aload_n_0, ↓ev_aload_n_1, ↓ev_iload_n_2, ↓ev_callv_3_0_0, ↓ev_callv_3_1_0, ↓ev_callv_3_2_0, ↓ev_callv_3_3_0, ↓ev_callv_3_4_0, ↓ev_getf_2_1, ↓ev_tsw_0_8, ↓ev_getf_2_2, ↓ev_getf_2_3, ↓ev_getf_2_4, ↓ev_callv_4_0_0, ↓ev_callv_4_1_0, ↓ev_callv_4_2_0, ↓ev_callv_4_3_0, ↓ev_callv_4_4_0, ↓ev_goto, ↓ev_getf_2_0, ↓ev_callv_1_0_1, ↓ev_callv_1_1_1, ↓ev_callv_1_2_1, ↓ev_callv_1_3_1, ↓ev_callv_1_4_1, ↓ev_callv_2_0_0, ↓ev_callv_2_1_0, ↓ev_callv_2_2_0, ↓ev_callv_2_3_0, ↓ev_callv_2_4_0, ↓ev_callv_1_0_0, ↓ev_callv_1_1_0, ↓ev_callv_1_2_0, ↓ev_callv_1_3_0, ↓ev_callv_1_4_0, ↓ev_ret, Nat.reduceAdd]
  refine k_start hC hL (fun h1 o1 t1 => ?_)
  have e1 := (o1.2 1 (by decide)).trans hk
  have e2 := (o1.2 2 (by decide)).trans h2
  have e3 := (o1.2 3 (by decide)).trans h3
  have e4 := (o1.2 4 (by decide)).trans h4
  rw [e1]
  try simp (disch := omega) only [pk_mul, nI_add, n_lt0, n_le0, n_eq0, n_ge0, n_gt0, n_lt, n_le, n_eq, n_in, n_div, n_rem, n_rem2, n_m1, nI_clamp, bz_0, bz_1, tI_0, tI_bz, n4, n16, eq_self, Nat.reduceLT, Nat.reduceLeDiff, Nat.reduceEqDiff, Nat.reduceAdd, Nat.reduceMul, Nat.reduceDiv, Nat.reduceMod, Nat.le_refl, decide_eq_false_iff_not, Classical.not_not, true_and, and_true, false_and, and_false, not_true_eq_false, not_false_eq_true, forall_const, true_implies, false_implies, implies_true, ne_eq]
  rw [e2, e3, e4]
  exact k_moveOnto t1 hl hsf (fun h2 o2 t2 => hp h2 (o1.tr o2.ou.ov) t2)
end GO
