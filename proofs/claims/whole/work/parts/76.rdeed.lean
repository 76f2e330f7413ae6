/-! ===== the reference: a block given up, layers merged, moved ===== -/
section RDEED
variable {sL d L B M : Nat} {h : mH} {σ : Sg} {S : St} {q : mH → Prop} {p : Int32 → mH → Prop}
theorem mgF_cr {l bb : Nat} (hB : LB B L (σ.2.1 + 900)) (h : HC B M σ) (hb : bb < M) (p : Nat) (hp : p ≤ 64) : HC B M (mgF L l bb p σ) := by
  rcases hB with hB | ⟨rfl, hn, hB⟩
  · exact mgF_c hB h hb p hp
  · rw [show mgF LL l bb p σ = mgF 1000000 l bb p σ from (el_mgF l bb p σ (by omega)).1]
    exact mgF_c (by omega) h hb p hp
theorem mvK_cr {l b : Nat} (hB : LB B L (σ.2.1 + 900)) (h : HC B M σ) (hl : l < M) (hb : b < 16) (k : Nat) (hk : k ≤ 4) : HC B M (mvK L l b k σ) := by
  rcases hB with hB | ⟨rfl, hn, hB⟩
  · exact mvK_c hB hl hb k hk σ h
  · rw [show mvK LL l b k σ = mvK 1000000 l b k σ from (el_mvK l b k σ (by omega)).1]
    exact mvK_c (by omega) hl hb k hk σ h
theorem mvF_cr {l : Nat} {y : Int32} (hB : LB B L (σ.2.1 + 900)) (h : HC B M σ) (hl : l < M) (b : Nat) (hb : b ≤ 16) : HC B M (mvF L l y b σ) := by
  rcases hB with hB | ⟨rfl, hn, hB⟩
  · exact mvF_c hB h hl b hb
  · rw [show mvF LL l y b σ = mvF 1000000 l y b σ from (el_mvF l y b σ (by omega)).1]
    exact mvF_c (by omega) h hl b hb
theorem r_givesUp {l b : Nat} (hR : RR h L σ) (hB : LB B L σ.2.1) (hC : HC B M σ) (hl : l < M) (hb : b < 16) (hp : ∀ h', OC h h' → RR h' L (gvu L l b σ) → q h') : mU (Kd sL (d + 5)) 138 [.inr (.inr (.inr 7)), .inl (nI l), .inl (nI b)] h q := by
  have hw := hC.1.1
  have hM := hC.1.2.2
  have hm6 := hw.m
  refine ke_X4_givesUp ?_
  refine EX.go (Kd_mono _ _) [false, false, false] 40 0 ?_
  dsimp only [wpc_s, wsl_t, wsl_f, gD_0, gD_s, ↓denB_n, pI_s, pG_s, pU_n, cb_X4_givesUp_0, cb_X4_givesUp_1, cb_X4_givesUp_2, ↓ev_aload_n_0, ↓ev_iload_n_1, ↓ev_iload_n_2, ↓ev_callv_3_0_1, ↓ev_callv_3_1_1, ↓ev_callv_3_2_1, ↓ev_callv_3_3_1, ↓ev_callv_3_4_1, ↓ev_callv_3_5_1, ↓ev_istore_n_3, ↓ev_iload_n_3, ↓ev_if_ne, ↓ev_ret, ↓ev_callv_3_0_0, ↓ev_callv_3_1_0, ↓ev_callv_3_2_0, ↓ev_callv_3_3_0, ↓ev_callv_3_4_0, ↓ev_bipush_64, ↓ev_iconst_4, ↓ev_getf_4_0, ↓ev_idiv, ↓ev_calls_2_0_1, ↓ev_calls_2_1_1, ↓ev_calls_2_2_1, ↓ev_calls_2_3_1, ↓ev_calls_2_4_1, ↓ev_iald_o8, ↓ev_iald_o9, ↓ev_iald_o10, ↓ev_iald_o11, ↓ev_iald_o12, ↓ev_iald_o13, ↓ev_iald_o14, ↓ev_iald_o15, ↓ev_iald_o16, ↓ev_imul, ↓ev_iadd, ↓ev_irem, ↓ev_iconst_0, ↓ev_iconst_m1, Nat.reduceAdd]
  refine r_dataOf hR.1 hw (by omega) hb (prs_lay (by omega) (by omega)) ?_
  have hdl := dof_lt σ.1 l b
  try simp (disch := omega) only [pk_mul, nI_add, n_lt0, n_le0, n_eq0, n_ge0, n_gt0, n_lt, n_le, n_eq, n_in, n_div, n_rem, n_rem2, n_m1, nI_clamp, bz_0, bz_1, tI_0, tI_bz, n4, n16, eq_self, Nat.reduceLT, Nat.reduceLeDiff, Nat.reduceEqDiff, Nat.reduceAdd, Nat.reduceMul, Nat.reduceDiv, Nat.reduceMod, Nat.le_refl, decide_eq_false_iff_not, Classical.not_not, true_and, and_true, false_and, and_false, not_true_eq_false, not_false_eq_true, forall_const, true_implies, false_implies, implies_true, ne_eq]
  unfold gvu at hp
  refine ⟨fun c => ?_, fun c => ?_⟩
  · rw [if_neg c] at hp
    have hO := own_hr hB hC hl (show b / 4 < 4 by omega)
    refine r_owns hR hw (by omega) hb (fun h1 o1 t1 => ?_)
    generalize own L l (b / 4) σ = ow at hO hp t1
    obtain ⟨t, τ⟩ := ow
    dsimp only at hO hp t1
    have hw1 := hO.1.1
    have hM1 := hO.1.2.2
    refine r_dir ?_
    have htl := tb_lt τ.1 l (b / 4)
    have e : h1 (.inr 8) (327 + 4 * l + b / 4) = nI (tb τ.1 l (b / 4)) := by rw [t1.1 _ (by omega), hw1.dr (by omega) (by omega) (prs_lay (by omega) (by omega))]
    try simp (disch := omega) only [pk_mul, nI_add, n_lt0, n_le0, n_eq0, n_ge0, n_gt0, n_lt, n_le, n_eq, n_in, n_div, n_rem, n_rem2, n_m1, nI_clamp, bz_0, bz_1, tI_0, tI_bz, n4, n16, eq_self, Nat.reduceLT, Nat.reduceLeDiff, Nat.reduceEqDiff, Nat.reduceAdd, Nat.reduceMul, Nat.reduceDiv, Nat.reduceMod, Nat.le_refl, decide_eq_false_iff_not, Classical.not_not, true_and, and_true, false_and, and_false, not_true_eq_false, not_false_eq_true, forall_const, true_implies, false_implies, implies_true, ne_eq, e]
    refine ⟨by omega, r_sets t1 (by omega) (fun h2 o2 t2 => ?_)⟩
    refine r_addc t2 c hdl (fun h3 o3 t3 => hp h3 (o1.tr (o2.tr o3)) ?_)
    by_cases z : τ.2.2 = 0
    · rw [(hO.2 z).2.1, Nat.add_assoc] at t3
      exact t3
    · rw [gt_hz z] at t3 ⊢
      exact t3
  · rw [if_pos c] at hp
    exact hp h OC.rf hR
theorem r_merges {l bb : Nat} (hR : RR h L σ) (hB : LB B L (σ.2.1 + 2000)) (hC : HC B M σ) (hl : l < M) (hbk : σ.1 (321 + l) = nI bb) (hbb : bb < M) (hp : ∀ h', OD h h' → RR h' L (mrg L l bb σ) → q h') : mU (Kd sL (d + 6)) 139 [.inr (.inr (.inr 7)), .inl (nI l)] h q := by
  have hM := hC.1.2.2
  have hm6 := hC.1.1.m
  refine ke_X4_merges ?_
  refine EX.go (Kd_mono _ _) [false, true, false, false, false, false] 40 0 ?_
  dsimp only [wpc_s, wsl_t, wsl_f, gD_0, gD_s, ↓denB_n, pI_s, pG_s, pU_n, cb_X4_merges_0, cb_X4_merges_1, cb_X4_merges_2, cb_X4_merges_3, cb_X4_merges_4, cb_X4_merges_5, ↓ev_iconst_0, ↓ev_istore_n_2, ↓ev_iload_n_2, ↓ev_bipush_64, ↓ev_icmp_ge, ↓ev_aload_n_0, ↓ev_iload_n_1, ↓ev_iconst_4, ↓ev_idiv, ↓ev_callv_3_0_1, ↓ev_callv_3_1_1, ↓ev_callv_3_2_1, ↓ev_callv_3_3_1, ↓ev_callv_3_4_1, ↓ev_callv_3_5_1, ↓ev_if_eq, ↓ev_getf_4_0, ↓ev_sipush_321, ↓ev_iadd, ↓ev_iald_o8, ↓ev_iald_o9, ↓ev_iald_o10, ↓ev_iald_o11, ↓ev_iald_o12, ↓ev_iald_o13, ↓ev_iald_o14, ↓ev_iald_o15, ↓ev_iald_o16, ↓ev_callv_4_0_0, ↓ev_callv_4_1_0, ↓ev_callv_4_2_0, ↓ev_callv_4_3_0, ↓ev_callv_4_4_0, ↓ev_iinc_2_1, ↓ev_goto, ↓ev_callv_2_0_0, ↓ev_callv_2_1_0, ↓ev_callv_2_2_0, ↓ev_callv_2_3_0, ↓ev_callv_2_4_0, ↓ev_iconst_m1, ↓ev_callv_3_0_0, ↓ev_callv_3_1_0, ↓ev_callv_3_2_0, ↓ev_callv_3_3_0, ↓ev_callv_3_4_0, ↓ev_callv_1_0_0, ↓ev_callv_1_1_0, ↓ev_callv_1_2_0, ↓ev_callv_1_3_0, ↓ev_callv_1_4_0, ↓ev_ret, Nat.reduceAdd]
  suffices H : ∀ (f k : Nat) (h2 : mH), k + f = 64 → OC h h2 → RR h2 L (mgF L l bb k σ) → EX (Kd sL (d + 5)) sL md_X4_merges (pU q) 1 [some (.inr (.inr (.inr 7))), some (.inl (nI l)), some (.inl (nI k))] [] h2 from H 64 0 h rfl OC.rf hR
  intro f
  induction f with
  | zero =>
    intro k h2 hk o2 t2
    have hk4 : k = 64 := by omega
    subst hk4
    refine EX.go (Kd_mono _ _) [false, true, false, false, false, false] 40 1 ?_
    dsimp only [wpc_s, wsl_t, wsl_f, gD_0, gD_s, ↓denB_n, pI_s, pG_s, pU_n, cb_X4_merges_0, cb_X4_merges_1, cb_X4_merges_2, cb_X4_merges_3, cb_X4_merges_4, cb_X4_merges_5, ↓ev_iconst_0, ↓ev_istore_n_2, ↓ev_iload_n_2, ↓ev_bipush_64, ↓ev_icmp_ge, ↓ev_aload_n_0, ↓ev_iload_n_1, ↓ev_iconst_4, ↓ev_idiv, ↓ev_callv_3_0_1, ↓ev_callv_3_1_1, ↓ev_callv_3_2_1, ↓ev_callv_3_3_1, ↓ev_callv_3_4_1, ↓ev_callv_3_5_1, ↓ev_if_eq, ↓ev_getf_4_0, ↓ev_sipush_321, ↓ev_iadd, ↓ev_iald_o8, ↓ev_iald_o9, ↓ev_iald_o10, ↓ev_iald_o11, ↓ev_iald_o12, ↓ev_iald_o13, ↓ev_iald_o14, ↓ev_iald_o15, ↓ev_iald_o16, ↓ev_callv_4_0_0, ↓ev_callv_4_1_0, ↓ev_callv_4_2_0, ↓ev_callv_4_3_0, ↓ev_callv_4_4_0, ↓ev_iinc_2_1, ↓ev_goto, ↓ev_callv_2_0_0, ↓ev_callv_2_1_0, ↓ev_callv_2_2_0, ↓ev_callv_2_3_0, ↓ev_callv_2_4_0, ↓ev_iconst_m1, ↓ev_callv_3_0_0, ↓ev_callv_3_1_0, ↓ev_callv_3_2_0, ↓ev_callv_3_3_0, ↓ev_callv_3_4_0, ↓ev_callv_1_0_0, ↓ev_callv_1_1_0, ↓ev_callv_1_2_0, ↓ev_callv_1_3_0, ↓ev_callv_1_4_0, ↓ev_ret, Nat.reduceAdd]
    try simp (disch := omega) only [pk_mul, nI_add, n_lt0, n_le0, n_eq0, n_ge0, n_gt0, n_lt, n_le, n_eq, n_in, n_div, n_rem, n_rem2, n_m1, nI_clamp, bz_0, bz_1, tI_0, tI_bz, n4, n16, eq_self, Nat.reduceLT, Nat.reduceLeDiff, Nat.reduceEqDiff, Nat.reduceAdd, Nat.reduceMul, Nat.reduceDiv, Nat.reduceMod, Nat.le_refl, decide_eq_false_iff_not, Classical.not_not, true_and, and_true, false_and, and_false, not_true_eq_false, not_false_eq_true, forall_const, true_implies, false_implies, implies_true, ne_eq]
    have hC2 := mgF_cr (l := l) (hB.w (Or.inl (by omega))) hC hbb 64 (by omega)
    have hw2 := hC2.1.1
    have hM2 := hC2.1.2.2
    unfold mrg at hp
    generalize mgF L l bb 64 σ = τ at hp t2 hC2 hw2 hM2
    refine r_remembers t2 hw2 (by omega) (prs_lay (by omega) (by omega)) (fun h3 o3 t3 f3 => ?_)
    refine r_setsDir0 t3 (by omega) (fun h4 o4 t4 => ?_)
    obtain ⟨g1, g2⟩ := had_ok (S' := (gt L (fun S => wdr0 S l) τ).1) hw2 (fun j hj hj2 => gt_fr (fun S => if_neg (by omega)) τ) (show l < 14 by omega)
    exact r_releasesHad t4 (fun i hi => by rw [o4.1 _ (by simp) (by simp), f3 i hi]) (fun i => tb_lt _ _ _) g1 g2 (fun h5 o5 t5 => hp h5 (o2.od.tr (o3.tr (o4.od.tr o5.od))) t5)
  | succ f ih =>
    intro k h2 hk o2 t2
    refine EX.go (Kd_mono _ _) [false, true, false, false, false, false] 40 1 ?_
    dsimp only [wpc_s, wsl_t, wsl_f, gD_0, gD_s, ↓denB_n, pI_s, pG_s, pU_n, cb_X4_merges_0, cb_X4_merges_1, cb_X4_merges_2, cb_X4_merges_3, cb_X4_merges_4, cb_X4_merges_5, ↓ev_iconst_0, ↓ev_istore_n_2, ↓ev_iload_n_2, ↓ev_bipush_64, ↓ev_icmp_ge, ↓ev_aload_n_0, ↓ev_iload_n_1, ↓ev_iconst_4, ↓ev_idiv, ↓ev_callv_3_0_1, ↓ev_callv_3_1_1, ↓ev_callv_3_2_1, ↓ev_callv_3_3_1, ↓ev_callv_3_4_1, ↓ev_callv_3_5_1, ↓ev_if_eq, ↓ev_getf_4_0, ↓ev_sipush_321, ↓ev_iadd, ↓ev_iald_o8, ↓ev_iald_o9, ↓ev_iald_o10, ↓ev_iald_o11, ↓ev_iald_o12, ↓ev_iald_o13, ↓ev_iald_o14, ↓ev_iald_o15, ↓ev_iald_o16, ↓ev_callv_4_0_0, ↓ev_callv_4_1_0, ↓ev_callv_4_2_0, ↓ev_callv_4_3_0, ↓ev_callv_4_4_0, ↓ev_iinc_2_1, ↓ev_goto, ↓ev_callv_2_0_0, ↓ev_callv_2_1_0, ↓ev_callv_2_2_0, ↓ev_callv_2_3_0, ↓ev_callv_2_4_0, ↓ev_iconst_m1, ↓ev_callv_3_0_0, ↓ev_callv_3_1_0, ↓ev_callv_3_2_0, ↓ev_callv_3_3_0, ↓ev_callv_3_4_0, ↓ev_callv_1_0_0, ↓ev_callv_1_1_0, ↓ev_callv_1_2_0, ↓ev_callv_1_3_0, ↓ev_callv_1_4_0, ↓ev_ret, Nat.reduceAdd]
    try simp (disch := omega) only [pk_mul, nI_add, n_lt0, n_le0, n_eq0, n_ge0, n_gt0, n_lt, n_le, n_eq, n_in, n_div, n_rem, n_rem2, n_m1, nI_clamp, bz_0, bz_1, tI_0, tI_bz, n4, n16, eq_self, Nat.reduceLT, Nat.reduceLeDiff, Nat.reduceEqDiff, Nat.reduceAdd, Nat.reduceMul, Nat.reduceDiv, Nat.reduceMod, Nat.le_refl, decide_eq_false_iff_not, Classical.not_not, true_and, and_true, false_and, and_false, not_true_eq_false, not_false_eq_true, forall_const, true_implies, false_implies, implies_true, ne_eq]
    have hC2 := mgF_cr (l := l) (hB.w (Or.inl (by omega))) hC hbb k (by omega)
    have hw2 := hC2.1.1
    have hM2 := hC2.1.2.2
    have hn2 := n_mgF (L := L) (σ := σ) (l := l) (bb := bb) k
    refine ⟨fun c => absurd c (by omega), fun _ => ?_⟩
    refine r_dataOf t2.1 hw2 (by omega) (by omega) (prs_lay (by omega) (by omega)) ?_
    have hdl := dof_lt (mgF L l bb k σ).1 l (k / 4)
    have ih2 := fun h3 o3 t3 => ih (k + 1) h3 (by omega) o3 t3
    unfold mgF at ih2
    have e : h2 (.inr 8) (321 + l) = nI bb := by rw [t2.1 _ (by omega), mgF_fr (by unfold frj; omega) σ k (by omega), hbk]
    try simp (disch := omega) only [pk_mul, nI_add, n_lt0, n_le0, n_eq0, n_ge0, n_gt0, n_lt, n_le, n_eq, n_in, n_div, n_rem, n_rem2, n_m1, nI_clamp, bz_0, bz_1, tI_0, tI_bz, n4, n16, eq_self, Nat.reduceLT, Nat.reduceLeDiff, Nat.reduceEqDiff, Nat.reduceAdd, Nat.reduceMul, Nat.reduceDiv, Nat.reduceMod, Nat.le_refl, decide_eq_false_iff_not, Classical.not_not, true_and, and_true, false_and, and_false, not_true_eq_false, not_false_eq_true, forall_const, true_implies, false_implies, implies_true, ne_eq, e]
    refine ⟨fun c => ?_, fun c => ?_⟩
    · rw [if_pos c] at ih2
      exact ih2 h2 o2 t2
    · rw [if_neg c] at ih2
      refine ⟨by omega, r_readOf t2.1 hw2 (by omega) (by omega) ?_⟩
      exact r_writes t2 (hB.w (Or.inl (by omega))) hC2 hbb (by omega) (fun h3 o3 t3 => ih2 h3 (o2.tr o3) t3)
theorem r_isSame {l b : Nat} {y : Int32} {h : mH} (hS : RS h S) (hw : WF S) (hl : l < mn S) (hy : y = -1 ∨ ∃ x, x < mn S ∧ y = nI x) (hb : b < 16) (hp : p (tI (dec (smB S (nI l) y b))) h) : mI (Kd sL (d + 5)) 140 [.inr (.inr (.inr 7)), .inl (nI l), .inl y, .inl (nI b)] h p := by
  have hm6 := hw.m
  refine ke_X4_isSame ?_
  refine EX.go (Kd_mono _ _) [false, true, false, false, false, false, false, false, false, false, false] 40 0 ?_
  dsimp only [wpc_s, wsl_t, wsl_f, gD_0, gD_s, ↓denB_n, pI_s, pG_s, pU_n, cb_X4_isSame_0, cb_X4_isSame_1, cb_X4_isSame_2, cb_X4_isSame_3, cb_X4_isSame_4, cb_X4_isSame_5, cb_X4_isSame_6, cb_X4_isSame_7, cb_X4_isSame_8, cb_X4_isSame_9, cb_X4_isSame_10, ↓ev_iconst_1, ↓ev_istore_4, ↓ev_iconst_4, ↓ev_iload_n_3, ↓ev_imul, ↓ev_istore_5, ↓ev_iload_5, ↓ev_iadd, ↓ev_icmp_ge, ↓ev_iload_4, ↓ev_if_eq, ↓ev_aload_n_0, ↓ev_iload_n_1, ↓ev_callv_3_0_1, ↓ev_callv_3_1_1, ↓ev_callv_3_2_1, ↓ev_callv_3_3_1, ↓ev_callv_3_4_1, ↓ev_callv_3_5_1, ↓ev_iload_n_2, ↓ev_iconst_m1, ↓ev_icmp_ne, ↓ev_iconst_0, ↓ev_goto, ↓ev_iinc_5_1, ↓ev_zret, Nat.reduceAdd]
  try simp (disch := omega) only [pk_mul, nI_add, n_lt0, n_le0, n_eq0, n_ge0, n_gt0, n_lt, n_le, n_eq, n_in, n_div, n_rem, n_rem2, n_m1, nI_clamp, bz_0, bz_1, tI_0, tI_bz, n4, n16, eq_self, Nat.reduceLT, Nat.reduceLeDiff, Nat.reduceEqDiff, Nat.reduceAdd, Nat.reduceMul, Nat.reduceDiv, Nat.reduceMod, Nat.le_refl, decide_eq_false_iff_not, Classical.not_not, true_and, and_true, false_and, and_false, not_true_eq_false, not_false_eq_true, forall_const, true_implies, false_implies, implies_true, ne_eq]
  suffices H : ∀ (f k : Nat), k + f = 4 → EX (Kd sL (d + 4)) sL md_X4_isSame (pI p) 1 [some (.inr (.inr (.inr 7))), some (.inl (nI l)), some (.inl y), some (.inl (nI b)), some (.inl (tI (dec (∀ j, j < k → rdf S 6 (nI l) (4 * b + j) = rdf S 6 y (4 * b + j))))), some (.inl (nI (4 * b + k)))] [] h by
    have := H 4 0 rfl
    rw [show dec (∀ j, j < 0 → rdf S 6 (nI l) (4 * b + j) = rdf S 6 y (4 * b + j)) = true by rw [dec_t]; exact fun j hj => absurd hj (Nat.not_lt_zero j)] at this
    exact this
  intro f
  induction f with
  | zero =>
    intro k hk
    refine EX.go (Kd_mono _ _) [false, true, false, false, false, false, false, false, false, false, false] 40 1 ?_
    dsimp only [wpc_s, wsl_t, wsl_f, gD_0, gD_s, ↓denB_n, pI_s, pG_s, pU_n, cb_X4_isSame_0, cb_X4_isSame_1, cb_X4_isSame_2, cb_X4_isSame_3, cb_X4_isSame_4, cb_X4_isSame_5, cb_X4_isSame_6, cb_X4_isSame_7, cb_X4_isSame_8, cb_X4_isSame_9, cb_X4_isSame_10, ↓ev_iconst_1, ↓ev_istore_4, ↓ev_iconst_4, ↓ev_iload_n_3, ↓ev_imul, ↓ev_istore_5, ↓ev_iload_5, ↓ev_iadd, ↓ev_icmp_ge, ↓ev_iload_4, ↓ev_if_eq, ↓ev_aload_n_0, ↓ev_iload_n_1, ↓ev_callv_3_0_1, ↓ev_callv_3_1_1, ↓ev_callv_3_2_1, ↓ev_callv_3_3_1, ↓ev_callv_3_4_1, ↓ev_callv_3_5_1, ↓ev_iload_n_2, ↓ev_iconst_m1, ↓ev_icmp_ne, ↓ev_iconst_0, ↓ev_goto, ↓ev_iinc_5_1, ↓ev_zret, Nat.reduceAdd]
    try simp (disch := omega) only [pk_mul, nI_add, n_lt0, n_le0, n_eq0, n_ge0, n_gt0, n_lt, n_le, n_eq, n_in, n_div, n_rem, n_rem2, n_m1, nI_clamp, bz_0, bz_1, tI_0, tI_bz, n4, n16, eq_self, Nat.reduceLT, Nat.reduceLeDiff, Nat.reduceEqDiff, Nat.reduceAdd, Nat.reduceMul, Nat.reduceDiv, Nat.reduceMod, Nat.le_refl, decide_eq_false_iff_not, Classical.not_not, true_and, and_true, false_and, and_false, not_true_eq_false, not_false_eq_true, forall_const, true_implies, false_implies, implies_true, ne_eq]
    refine ⟨fun _ => ?_, fun c2 => absurd (show 4 * b + 4 ≤ 4 * b + k by omega) c2⟩
    rw [show k = 4 by omega]
    exact hp
  | succ f ih =>
    intro k hk
    refine EX.go (Kd_mono _ _) [false, true, false, false, false, false, false, false, false, false, false] 40 1 ?_
    dsimp only [wpc_s, wsl_t, wsl_f, gD_0, gD_s, ↓denB_n, pI_s, pG_s, pU_n, cb_X4_isSame_0, cb_X4_isSame_1, cb_X4_isSame_2, cb_X4_isSame_3, cb_X4_isSame_4, cb_X4_isSame_5, cb_X4_isSame_6, cb_X4_isSame_7, cb_X4_isSame_8, cb_X4_isSame_9, cb_X4_isSame_10, ↓ev_iconst_1, ↓ev_istore_4, ↓ev_iconst_4, ↓ev_iload_n_3, ↓ev_imul, ↓ev_istore_5, ↓ev_iload_5, ↓ev_iadd, ↓ev_icmp_ge, ↓ev_iload_4, ↓ev_if_eq, ↓ev_aload_n_0, ↓ev_iload_n_1, ↓ev_callv_3_0_1, ↓ev_callv_3_1_1, ↓ev_callv_3_2_1, ↓ev_callv_3_3_1, ↓ev_callv_3_4_1, ↓ev_callv_3_5_1, ↓ev_iload_n_2, ↓ev_iconst_m1, ↓ev_icmp_ne, ↓ev_iconst_0, ↓ev_goto, ↓ev_iinc_5_1, ↓ev_zret, Nat.reduceAdd]
    try simp (disch := omega) only [pk_mul, nI_add, n_lt0, n_le0, n_eq0, n_ge0, n_gt0, n_lt, n_le, n_eq, n_in, n_div, n_rem, n_rem2, n_m1, nI_clamp, bz_0, bz_1, tI_0, tI_bz, n4, n16, eq_self, Nat.reduceLT, Nat.reduceLeDiff, Nat.reduceEqDiff, Nat.reduceAdd, Nat.reduceMul, Nat.reduceDiv, Nat.reduceMod, Nat.le_refl, decide_eq_false_iff_not, Classical.not_not, true_and, and_true, false_and, and_false, not_true_eq_false, not_false_eq_true, forall_const, true_implies, false_implies, implies_true, ne_eq]
    have ih2 := ih (k + 1) (by omega)
    refine ⟨fun c2 => absurd c2 (by omega), fun _ => ⟨fun c2 => ?_, fun c2 => ?_⟩⟩
    · rw [dec_f] at c2
      rw [dec_f.mpr (fun z => c2 (fun j hj => z j (by omega)))] at ih2
      exact ih2
    · have c3 : ∀ j, j < k → rdf S 6 (nI l) (4 * b + j) = rdf S 6 y (4 * b + j) := Classical.not_not.mp (fun z => c2 (dec_f.mpr z))
      refine r_readOf hS hw hl (by omega) ?_
      have fin : ∀ b2 : Bool, (b2 = dec (rdf S 6 (nI l) (4 * b + k) = rdf S 6 y (4 * b + k))) → EX (Kd sL (d + 4)) sL md_X4_isSame (pI p) 1 [some (.inr (.inr (.inr 7))), some (.inl (nI l)), some (.inl y), some (.inl (nI b)), some (.inl (tI b2)), some (.inl (nI (4 * b + (k + 1))))] [] h := by
        intro b2 hb2
        rw [hb2, dec_iff (show (rdf S 6 (nI l) (4 * b + k) = rdf S 6 y (4 * b + k)) ↔ (∀ j, j < k + 1 → rdf S 6 (nI l) (4 * b + j) = rdf S 6 y (4 * b + j)) from ⟨fun z j hj => by
          by_cases q : j = k
          · subst q; exact z
          · exact c3 j (by omega), fun z => z k (by omega)⟩)]
        exact ih2
      refine ⟨fun c4 => ?_, fun c4 => ?_⟩
      · obtain ⟨x, hx, rfl⟩ := hy.resolve_left c4
        refine r_readOf hS hw hx (by omega) ?_
        exact ⟨fun c5 => fin false (dec_f.mpr c5).symm, fun c5 => fin true (dec_t.mpr c5).symm⟩
      · subst c4
        rw [rdf_m1] at fin
        exact ⟨fun c5 => fin false (dec_f.mpr c5).symm, fun c5 => fin true (dec_t.mpr c5).symm⟩
theorem r_moves {l safe : Nat} {y : Int32} (hR : RR h L σ) (hB : LB B L (σ.2.1 + 2000)) (hC : HC B M σ) (hl : l < M) (hy : y = -1 ∨ ∃ x, x < M ∧ y = nI x) (hsf : safe ≤ 1) (hp : ∀ h', OC h h' → RR h' L (mov L l y safe σ) → q h') : mU (Kd sL (d + 6)) 141 [.inr (.inr (.inr 7)), .inl (nI l), .inl y, .inl (nI safe)] h q := by
  have hM := hC.1.2.2
  have hm6 := hC.1.1.m
  refine ke_X4_moves ?_
  refine EX.go (Kd_mono _ _) [false, true, false, false, false, false, false, true, false, false, false] 40 0 ?_
  dsimp only [wpc_s, wsl_t, wsl_f, gD_0, gD_s, ↓denB_n, pI_s, pG_s, pU_n, cb_X4_moves_0, cb_X4_moves_1, cb_X4_moves_2, cb_X4_moves_3, cb_X4_moves_4, cb_X4_moves_5, cb_X4_moves_6, cb_X4_moves_7, cb_X4_moves_8, cb_X4_moves_9, cb_X4_moves_10, ↓ev_iconst_0, ↓ev_istore_4, ↓ev_iload_4, ↓ev_bipush_16, ↓ev_icmp_ge, ↓ev_iload_n_3, ↓ev_iconst_1, ↓ev_icmp_ne, ↓ev_aload_n_0, ↓ev_iload_n_1, ↓ev_callv_3_0_1, ↓ev_callv_3_1_1, ↓ev_callv_3_2_1, ↓ev_callv_3_3_1, ↓ev_callv_3_4_1, ↓ev_callv_3_5_1, ↓ev_if_ne, ↓ev_iload_n_2, ↓ev_callv_4_0_1, ↓ev_callv_4_1_1, ↓ev_callv_4_2_1, ↓ev_callv_4_3_1, ↓ev_callv_4_4_1, ↓ev_if_eq, ↓ev_goto, ↓ev_iconst_4, ↓ev_imul, ↓ev_istore_5, ↓ev_iload_5, ↓ev_iadd, ↓ev_callv_4_0_0, ↓ev_callv_4_1_0, ↓ev_callv_4_2_0, ↓ev_callv_4_3_0, ↓ev_callv_4_4_0, ↓ev_iinc_5_1, ↓ev_iinc_4_1, ↓ev_sipush_321, ↓ev_callv_3_0_0, ↓ev_callv_3_1_0, ↓ev_callv_3_2_0, ↓ev_callv_3_3_0, ↓ev_callv_3_4_0, ↓ev_ret, Nat.reduceAdd]
  have J10 : ∀ (h2 : mH) (τ : Sg) (o4 o5 : Option mV), OC h h2 → RR h2 L τ → (∀ h', OC h h' → RR h' L (gt L (fun S => upd S (321 + l) y) τ) → q h') → EX (Kd sL (d + 5)) sL md_X4_moves (pU q) 10 [some (.inr (.inr (.inr 7))), some (.inl (nI l)), some (.inl y), some (.inl (nI safe)), o4, o5] [] h2 := by
    intro h2 τ o4 o5 o2 t2 hp
    refine EX.go (Kd_mono _ _) [false, true, false, false, false, false, false, true, false, false, false] 40 10 ?_
    dsimp only [wpc_s, wsl_t, wsl_f, gD_0, gD_s, ↓denB_n, pI_s, pG_s, pU_n, cb_X4_moves_0, cb_X4_moves_1, cb_X4_moves_2, cb_X4_moves_3, cb_X4_moves_4, cb_X4_moves_5, cb_X4_moves_6, cb_X4_moves_7, cb_X4_moves_8, cb_X4_moves_9, cb_X4_moves_10, ↓ev_iconst_0, ↓ev_istore_4, ↓ev_iload_4, ↓ev_bipush_16, ↓ev_icmp_ge, ↓ev_iload_n_3, ↓ev_iconst_1, ↓ev_icmp_ne, ↓ev_aload_n_0, ↓ev_iload_n_1, ↓ev_callv_3_0_1, ↓ev_callv_3_1_1, ↓ev_callv_3_2_1, ↓ev_callv_3_3_1, ↓ev_callv_3_4_1, ↓ev_callv_3_5_1, ↓ev_if_ne, ↓ev_iload_n_2, ↓ev_callv_4_0_1, ↓ev_callv_4_1_1, ↓ev_callv_4_2_1, ↓ev_callv_4_3_1, ↓ev_callv_4_4_1, ↓ev_if_eq, ↓ev_goto, ↓ev_iconst_4, ↓ev_imul, ↓ev_istore_5, ↓ev_iload_5, ↓ev_iadd, ↓ev_callv_4_0_0, ↓ev_callv_4_1_0, ↓ev_callv_4_2_0, ↓ev_callv_4_3_0, ↓ev_callv_4_4_0, ↓ev_iinc_5_1, ↓ev_iinc_4_1, ↓ev_sipush_321, ↓ev_callv_3_0_0, ↓ev_callv_3_1_0, ↓ev_callv_3_2_0, ↓ev_callv_3_3_0, ↓ev_callv_3_4_0, ↓ev_ret, Nat.reduceAdd]
    try simp (disch := omega) only [pk_mul, nI_add, n_lt0, n_le0, n_eq0, n_ge0, n_gt0, n_lt, n_le, n_eq, n_in, n_div, n_rem, n_rem2, n_m1, nI_clamp, bz_0, bz_1, tI_0, tI_bz, n4, n16, eq_self, Nat.reduceLT, Nat.reduceLeDiff, Nat.reduceEqDiff, Nat.reduceAdd, Nat.reduceMul, Nat.reduceDiv, Nat.reduceMod, Nat.le_refl, decide_eq_false_iff_not, Classical.not_not, true_and, and_true, false_and, and_false, not_true_eq_false, not_false_eq_true, forall_const, true_implies, false_implies, implies_true, ne_eq]
    exact r_sets t2 (by omega) (fun h3 o3 t3 => hp h3 (o2.tr o3) t3)
  unfold mov at hp
  by_cases cs : safe = 1
  · subst cs
    rw [if_pos rfl] at hp
    suffices H : ∀ (f k : Nat) (h2 : mH) (o5 : Option mV), k + f = 16 → OC h h2 → RR h2 L (mvF L l y k σ) → EX (Kd sL (d + 5)) sL md_X4_moves (pU q) 1 [some (.inr (.inr (.inr 7))), some (.inl (nI l)), some (.inl y), some (.inl (nI 1)), some (.inl (nI k)), o5] [] h2 from H 16 0 h _ rfl OC.rf hR
    intro f
    induction f with
    | zero =>
      intro k h2 o5 hk o2 t2
      refine EX.go (Kd_mono _ _) [false, true, false, false, false, false, false, true, false, false, true] 40 1 ?_
      dsimp only [wpc_s, wsl_t, wsl_f, gD_0, gD_s, ↓denB_n, pI_s, pG_s, pU_n, cb_X4_moves_0, cb_X4_moves_1, cb_X4_moves_2, cb_X4_moves_3, cb_X4_moves_4, cb_X4_moves_5, cb_X4_moves_6, cb_X4_moves_7, cb_X4_moves_8, cb_X4_moves_9, cb_X4_moves_10, ↓ev_iconst_0, ↓ev_istore_4, ↓ev_iload_4, ↓ev_bipush_16, ↓ev_icmp_ge, ↓ev_iload_n_3, ↓ev_iconst_1, ↓ev_icmp_ne, ↓ev_aload_n_0, ↓ev_iload_n_1, ↓ev_callv_3_0_1, ↓ev_callv_3_1_1, ↓ev_callv_3_2_1, ↓ev_callv_3_3_1, ↓ev_callv_3_4_1, ↓ev_callv_3_5_1, ↓ev_if_ne, ↓ev_iload_n_2, ↓ev_callv_4_0_1, ↓ev_callv_4_1_1, ↓ev_callv_4_2_1, ↓ev_callv_4_3_1, ↓ev_callv_4_4_1, ↓ev_if_eq, ↓ev_goto, ↓ev_iconst_4, ↓ev_imul, ↓ev_istore_5, ↓ev_iload_5, ↓ev_iadd, ↓ev_callv_4_0_0, ↓ev_callv_4_1_0, ↓ev_callv_4_2_0, ↓ev_callv_4_3_0, ↓ev_callv_4_4_0, ↓ev_iinc_5_1, ↓ev_iinc_4_1, ↓ev_sipush_321, ↓ev_callv_3_0_0, ↓ev_callv_3_1_0, ↓ev_callv_3_2_0, ↓ev_callv_3_3_0, ↓ev_callv_3_4_0, ↓ev_ret, Nat.reduceAdd]
      try simp (disch := omega) only [pk_mul, nI_add, n_lt0, n_le0, n_eq0, n_ge0, n_gt0, n_lt, n_le, n_eq, n_in, n_div, n_rem, n_rem2, n_m1, nI_clamp, bz_0, bz_1, tI_0, tI_bz, n4, n16, eq_self, Nat.reduceLT, Nat.reduceLeDiff, Nat.reduceEqDiff, Nat.reduceAdd, Nat.reduceMul, Nat.reduceDiv, Nat.reduceMod, Nat.le_refl, decide_eq_false_iff_not, Classical.not_not, true_and, and_true, false_and, and_false, not_true_eq_false, not_false_eq_true, forall_const, true_implies, false_implies, implies_true, ne_eq]
      rw [show k = 16 by omega] at t2
      exact ⟨fun _ => J10 h2 _ _ _ o2 t2 hp, fun c => absurd (show 16 ≤ k by omega) c⟩
    | succ f ih =>
      intro k h2 o5 hk o2 t2
      have hC2 := mvF_cr (y := y) (hB.w (Or.inl (by omega))) hC hl k (by omega)
      have hw2 := hC2.1.1
      have hM2 := hC2.1.2.2
      have hn2 := n_mvF (L := L) (σ := σ) (l := l) (y := y) k
      refine EX.go (Kd_mono _ _) [false, true, false, false, false, false, false, true, false, true, true] 40 1 ?_
      dsimp only [wpc_s, wsl_t, wsl_f, gD_0, gD_s, ↓denB_n, pI_s, pG_s, pU_n, cb_X4_moves_0, cb_X4_moves_1, cb_X4_moves_2, cb_X4_moves_3, cb_X4_moves_4, cb_X4_moves_5, cb_X4_moves_6, cb_X4_moves_7, cb_X4_moves_8, cb_X4_moves_9, cb_X4_moves_10, ↓ev_iconst_0, ↓ev_istore_4, ↓ev_iload_4, ↓ev_bipush_16, ↓ev_icmp_ge, ↓ev_iload_n_3, ↓ev_iconst_1, ↓ev_icmp_ne, ↓ev_aload_n_0, ↓ev_iload_n_1, ↓ev_callv_3_0_1, ↓ev_callv_3_1_1, ↓ev_callv_3_2_1, ↓ev_callv_3_3_1, ↓ev_callv_3_4_1, ↓ev_callv_3_5_1, ↓ev_if_ne, ↓ev_iload_n_2, ↓ev_callv_4_0_1, ↓ev_callv_4_1_1, ↓ev_callv_4_2_1, ↓ev_callv_4_3_1, ↓ev_callv_4_4_1, ↓ev_if_eq, ↓ev_goto, ↓ev_iconst_4, ↓ev_imul, ↓ev_istore_5, ↓ev_iload_5, ↓ev_iadd, ↓ev_callv_4_0_0, ↓ev_callv_4_1_0, ↓ev_callv_4_2_0, ↓ev_callv_4_3_0, ↓ev_callv_4_4_0, ↓ev_iinc_5_1, ↓ev_iinc_4_1, ↓ev_sipush_321, ↓ev_callv_3_0_0, ↓ev_callv_3_1_0, ↓ev_callv_3_2_0, ↓ev_callv_3_3_0, ↓ev_callv_3_4_0, ↓ev_ret, Nat.reduceAdd]
      try simp (disch := omega) only [pk_mul, nI_add, n_lt0, n_le0, n_eq0, n_ge0, n_gt0, n_lt, n_le, n_eq, n_in, n_div, n_rem, n_rem2, n_m1, nI_clamp, bz_0, bz_1, tI_0, tI_bz, n4, n16, eq_self, Nat.reduceLT, Nat.reduceLeDiff, Nat.reduceEqDiff, Nat.reduceAdd, Nat.reduceMul, Nat.reduceDiv, Nat.reduceMod, Nat.le_refl, decide_eq_false_iff_not, Classical.not_not, true_and, and_true, false_and, and_false, not_true_eq_false, not_false_eq_true, forall_const, true_implies, false_implies, implies_true, ne_eq]
      have J9 : ∀ (h3 : mH) (o5 : Option mV), OC h h3 → RR h3 L (mvF L l y (k + 1) σ) → EX (Kd sL (d + 5)) sL md_X4_moves (pU q) 9 [some (.inr (.inr (.inr 7))), some (.inl (nI l)), some (.inl y), some (.inl (nI 1)), some (.inl (nI k)), o5] [] h3 := by
        intro h3 o5 o3 t3
        refine EX.go (Kd_mono _ _) [false, true, false, false, false, false, false, true, false, false, false] 40 9 ?_
        dsimp only [wpc_s, wsl_t, wsl_f, gD_0, gD_s, ↓denB_n, pI_s, pG_s, pU_n, cb_X4_moves_0, cb_X4_moves_1, cb_X4_moves_2, cb_X4_moves_3, cb_X4_moves_4, cb_X4_moves_5, cb_X4_moves_6, cb_X4_moves_7, cb_X4_moves_8, cb_X4_moves_9, cb_X4_moves_10, ↓ev_iconst_0, ↓ev_istore_4, ↓ev_iload_4, ↓ev_bipush_16, ↓ev_icmp_ge, ↓ev_iload_n_3, ↓ev_iconst_1, ↓ev_icmp_ne, ↓ev_aload_n_0, ↓ev_iload_n_1, ↓ev_callv_3_0_1, ↓ev_callv_3_1_1, ↓ev_callv_3_2_1, ↓ev_callv_3_3_1, ↓ev_callv_3_4_1, ↓ev_callv_3_5_1, ↓ev_if_ne, ↓ev_iload_n_2, ↓ev_callv_4_0_1, ↓ev_callv_4_1_1, ↓ev_callv_4_2_1, ↓ev_callv_4_3_1, ↓ev_callv_4_4_1, ↓ev_if_eq, ↓ev_goto, ↓ev_iconst_4, ↓ev_imul, ↓ev_istore_5, ↓ev_iload_5, ↓ev_iadd, ↓ev_callv_4_0_0, ↓ev_callv_4_1_0, ↓ev_callv_4_2_0, ↓ev_callv_4_3_0, ↓ev_callv_4_4_0, ↓ev_iinc_5_1, ↓ev_iinc_4_1, ↓ev_sipush_321, ↓ev_callv_3_0_0, ↓ev_callv_3_1_0, ↓ev_callv_3_2_0, ↓ev_callv_3_3_0, ↓ev_callv_3_4_0, ↓ev_ret, Nat.reduceAdd]
        try simp (disch := omega) only [pk_mul, nI_add, n_lt0, n_le0, n_eq0, n_ge0, n_gt0, n_lt, n_le, n_eq, n_in, n_div, n_rem, n_rem2, n_m1, nI_clamp, bz_0, bz_1, tI_0, tI_bz, n4, n16, eq_self, Nat.reduceLT, Nat.reduceLeDiff, Nat.reduceEqDiff, Nat.reduceAdd, Nat.reduceMul, Nat.reduceDiv, Nat.reduceMod, Nat.le_refl, decide_eq_false_iff_not, Classical.not_not, true_and, and_true, false_and, and_false, not_true_eq_false, not_false_eq_true, forall_const, true_implies, false_implies, implies_true, ne_eq]
        exact ih (k + 1) h3 _ (by omega) o3 t3
      unfold mvF at J9
      refine ⟨fun c => absurd c (by omega), fun _ => ?_⟩
      refine r_dataOf t2.1 hw2 (by omega) (by omega) (prs_lay (by omega) (by omega)) ?_
      have hdl := dof_lt (mvF L l y k σ).1 l k
      try simp (disch := omega) only [pk_mul, nI_add, n_lt0, n_le0, n_eq0, n_ge0, n_gt0, n_lt, n_le, n_eq, n_in, n_div, n_rem, n_rem2, n_m1, nI_clamp, bz_0, bz_1, tI_0, tI_bz, n4, n16, eq_self, Nat.reduceLT, Nat.reduceLeDiff, Nat.reduceEqDiff, Nat.reduceAdd, Nat.reduceMul, Nat.reduceDiv, Nat.reduceMod, Nat.le_refl, decide_eq_false_iff_not, Classical.not_not, true_and, and_true, false_and, and_false, not_true_eq_false, not_false_eq_true, forall_const, true_implies, false_implies, implies_true, ne_eq]
      refine ⟨fun c => ?_, fun c => ?_⟩
      · rw [if_neg (fun z => c z.1)] at J9
        exact J9 h2 _ o2 t2
      · refine r_isSame t2.1 hw2 (by omega) (by rw [hM2]; exact hy) (by omega) ?_
        try simp (disch := omega) only [pk_mul, nI_add, n_lt0, n_le0, n_eq0, n_ge0, n_gt0, n_lt, n_le, n_eq, n_in, n_div, n_rem, n_rem2, n_m1, nI_clamp, bz_0, bz_1, tI_0, tI_bz, n4, n16, eq_self, Nat.reduceLT, Nat.reduceLeDiff, Nat.reduceEqDiff, Nat.reduceAdd, Nat.reduceMul, Nat.reduceDiv, Nat.reduceMod, Nat.le_refl, decide_eq_false_iff_not, Classical.not_not, true_and, and_true, false_and, and_false, not_true_eq_false, not_false_eq_true, forall_const, true_implies, false_implies, implies_true, ne_eq]
        refine ⟨fun c2 => ?_, fun c2 => ?_⟩
        · rw [if_pos ⟨c, c2⟩] at J9
          generalize mvF L l y k σ = τ at J9 t2 hC2 hw2 hM2 hn2
          suffices H2 : ∀ (f2 k2 : Nat) (h3 : mH), k2 + f2 = 4 → OC h h3 → RR h3 L (mvK L l k k2 τ) → EX (Kd sL (d + 5)) sL md_X4_moves (pU q) 7 [some (.inr (.inr (.inr 7))), some (.inl (nI l)), some (.inl y), some (.inl (nI 1)), some (.inl (nI k)), some (.inl (nI (4 * k + k2)))] [] h3 from H2 4 0 h2 rfl o2 t2
          intro f2
          induction f2 with
          | zero =>
            intro k2 h3 hk2 o3 t3
            refine EX.go (Kd_mono _ _) [false, true, false, false, false, false, false, true, false, true, false] 40 7 ?_
            dsimp only [wpc_s, wsl_t, wsl_f, gD_0, gD_s, ↓denB_n, pI_s, pG_s, pU_n, cb_X4_moves_0, cb_X4_moves_1, cb_X4_moves_2, cb_X4_moves_3, cb_X4_moves_4, cb_X4_moves_5, cb_X4_moves_6, cb_X4_moves_7, cb_X4_moves_8, cb_X4_moves_9, cb_X4_moves_10, ↓ev_iconst_0, ↓ev_istore_4, ↓ev_iload_4, ↓ev_bipush_16, ↓ev_icmp_ge, ↓ev_iload_n_3, ↓ev_iconst_1, ↓ev_icmp_ne, ↓ev_aload_n_0, ↓ev_iload_n_1, ↓ev_callv_3_0_1, ↓ev_callv_3_1_1, ↓ev_callv_3_2_1, ↓ev_callv_3_3_1, ↓ev_callv_3_4_1, ↓ev_callv_3_5_1, ↓ev_if_ne, ↓ev_iload_n_2, ↓ev_callv_4_0_1, ↓ev_callv_4_1_1, ↓ev_callv_4_2_1, ↓ev_callv_4_3_1, ↓ev_callv_4_4_1, ↓ev_if_eq, ↓ev_goto, ↓ev_iconst_4, ↓ev_imul, ↓ev_istore_5, ↓ev_iload_5, ↓ev_iadd, ↓ev_callv_4_0_0, ↓ev_callv_4_1_0, ↓ev_callv_4_2_0, ↓ev_callv_4_3_0, ↓ev_callv_4_4_0, ↓ev_iinc_5_1, ↓ev_iinc_4_1, ↓ev_sipush_321, ↓ev_callv_3_0_0, ↓ev_callv_3_1_0, ↓ev_callv_3_2_0, ↓ev_callv_3_3_0, ↓ev_callv_3_4_0, ↓ev_ret, Nat.reduceAdd]
            try simp (disch := omega) only [pk_mul, nI_add, n_lt0, n_le0, n_eq0, n_ge0, n_gt0, n_lt, n_le, n_eq, n_in, n_div, n_rem, n_rem2, n_m1, nI_clamp, bz_0, bz_1, tI_0, tI_bz, n4, n16, eq_self, Nat.reduceLT, Nat.reduceLeDiff, Nat.reduceEqDiff, Nat.reduceAdd, Nat.reduceMul, Nat.reduceDiv, Nat.reduceMod, Nat.le_refl, decide_eq_false_iff_not, Classical.not_not, true_and, and_true, false_and, and_false, not_true_eq_false, not_false_eq_true, forall_const, true_implies, false_implies, implies_true, ne_eq]
            rw [show k2 = 4 by omega] at t3
            exact ⟨fun _ => J9 h3 _ o3 t3, fun c => absurd (show 4 * k + 4 ≤ 4 * k + k2 by omega) c⟩
          | succ f2 ih2 =>
            intro k2 h3 hk2 o3 t3
            have hC3 := mvK_cr (l := l) (b := k) (hB.w (Or.inl (by omega))) hC2 hl (by omega) k2 (by omega)
            have hn3 := n_mvK (L := L) (σ := τ) (l := l) (b := k) k2
            refine EX.go (Kd_mono _ _) [false, true, false, false, false, false, false, true, false, true, false] 40 7 ?_
            dsimp only [wpc_s, wsl_t, wsl_f, gD_0, gD_s, ↓denB_n, pI_s, pG_s, pU_n, cb_X4_moves_0, cb_X4_moves_1, cb_X4_moves_2, cb_X4_moves_3, cb_X4_moves_4, cb_X4_moves_5, cb_X4_moves_6, cb_X4_moves_7, cb_X4_moves_8, cb_X4_moves_9, cb_X4_moves_10, ↓ev_iconst_0, ↓ev_istore_4, ↓ev_iload_4, ↓ev_bipush_16, ↓ev_icmp_ge, ↓ev_iload_n_3, ↓ev_iconst_1, ↓ev_icmp_ne, ↓ev_aload_n_0, ↓ev_iload_n_1, ↓ev_callv_3_0_1, ↓ev_callv_3_1_1, ↓ev_callv_3_2_1, ↓ev_callv_3_3_1, ↓ev_callv_3_4_1, ↓ev_callv_3_5_1, ↓ev_if_ne, ↓ev_iload_n_2, ↓ev_callv_4_0_1, ↓ev_callv_4_1_1, ↓ev_callv_4_2_1, ↓ev_callv_4_3_1, ↓ev_callv_4_4_1, ↓ev_if_eq, ↓ev_goto, ↓ev_iconst_4, ↓ev_imul, ↓ev_istore_5, ↓ev_iload_5, ↓ev_iadd, ↓ev_callv_4_0_0, ↓ev_callv_4_1_0, ↓ev_callv_4_2_0, ↓ev_callv_4_3_0, ↓ev_callv_4_4_0, ↓ev_iinc_5_1, ↓ev_iinc_4_1, ↓ev_sipush_321, ↓ev_callv_3_0_0, ↓ev_callv_3_1_0, ↓ev_callv_3_2_0, ↓ev_callv_3_3_0, ↓ev_callv_3_4_0, ↓ev_ret, Nat.reduceAdd]
            try simp (disch := omega) only [pk_mul, nI_add, n_lt0, n_le0, n_eq0, n_ge0, n_gt0, n_lt, n_le, n_eq, n_in, n_div, n_rem, n_rem2, n_m1, nI_clamp, bz_0, bz_1, tI_0, tI_bz, n4, n16, eq_self, Nat.reduceLT, Nat.reduceLeDiff, Nat.reduceEqDiff, Nat.reduceAdd, Nat.reduceMul, Nat.reduceDiv, Nat.reduceMod, Nat.le_refl, decide_eq_false_iff_not, Classical.not_not, true_and, and_true, false_and, and_false, not_true_eq_false, not_false_eq_true, forall_const, true_implies, false_implies, implies_true, ne_eq]
            refine ⟨fun c => absurd c (by omega), fun _ => ?_⟩
            refine r_readOf t3.1 hC3.1.1 (by rw [hC3.1.2.2]; exact hl) (by omega) ?_
            exact r_writes t3 (hB.w (Or.inl (by omega))) hC3 hl (by omega) (fun h4 o4 t4 => ih2 (k2 + 1) h4 (by omega) (o3.tr o4) t4)
        · rw [if_neg (fun z => c2 z.2)] at J9
          exact J9 h2 _ o2 t2
  · rw [if_neg cs] at hp
    refine EX.go (Kd_mono _ _) [false, true, false, false, false, false, false, true, false, false, true] 40 1 ?_
    dsimp only [wpc_s, wsl_t, wsl_f, gD_0, gD_s, ↓denB_n, pI_s, pG_s, pU_n, cb_X4_moves_0, cb_X4_moves_1, cb_X4_moves_2, cb_X4_moves_3, cb_X4_moves_4, cb_X4_moves_5, cb_X4_moves_6, cb_X4_moves_7, cb_X4_moves_8, cb_X4_moves_9, cb_X4_moves_10, ↓ev_iconst_0, ↓ev_istore_4, ↓ev_iload_4, ↓ev_bipush_16, ↓ev_icmp_ge, ↓ev_iload_n_3, ↓ev_iconst_1, ↓ev_icmp_ne, ↓ev_aload_n_0, ↓ev_iload_n_1, ↓ev_callv_3_0_1, ↓ev_callv_3_1_1, ↓ev_callv_3_2_1, ↓ev_callv_3_3_1, ↓ev_callv_3_4_1, ↓ev_callv_3_5_1, ↓ev_if_ne, ↓ev_iload_n_2, ↓ev_callv_4_0_1, ↓ev_callv_4_1_1, ↓ev_callv_4_2_1, ↓ev_callv_4_3_1, ↓ev_callv_4_4_1, ↓ev_if_eq, ↓ev_goto, ↓ev_iconst_4, ↓ev_imul, ↓ev_istore_5, ↓ev_iload_5, ↓ev_iadd, ↓ev_callv_4_0_0, ↓ev_callv_4_1_0, ↓ev_callv_4_2_0, ↓ev_callv_4_3_0, ↓ev_callv_4_4_0, ↓ev_iinc_5_1, ↓ev_iinc_4_1, ↓ev_sipush_321, ↓ev_callv_3_0_0, ↓ev_callv_3_1_0, ↓ev_callv_3_2_0, ↓ev_callv_3_3_0, ↓ev_callv_3_4_0, ↓ev_ret, Nat.reduceAdd]
    try simp (disch := omega) only [pk_mul, nI_add, n_lt0, n_le0, n_eq0, n_ge0, n_gt0, n_lt, n_le, n_eq, n_in, n_div, n_rem, n_rem2, n_m1, nI_clamp, bz_0, bz_1, tI_0, tI_bz, n4, n16, eq_self, Nat.reduceLT, Nat.reduceLeDiff, Nat.reduceEqDiff, Nat.reduceAdd, Nat.reduceMul, Nat.reduceDiv, Nat.reduceMod, Nat.le_refl, decide_eq_false_iff_not, Classical.not_not, true_and, and_true, false_and, and_false, not_true_eq_false, not_false_eq_true, forall_const, true_implies, false_implies, implies_true, ne_eq, cs]
    exact J10 h _ _ _ OC.rf hR hp
end RDEED
