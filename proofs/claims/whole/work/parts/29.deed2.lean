/-! ===== class Thought: drop, revert, give up, merge, move, fold; all deeds ===== -/
section DE2
variable {sL d L : Nat} {h : mH} {σ : Sg}
theorem addc_hi {c j : Nat} {v : Int32} (hc : c < 64) (hj : 64 ≤ j) (σ : Sg) : (addc L c v σ).1 j = σ.1 j := by
  unfold addc
  split
  · rfl
  · unfold gt
    split
    · split
      · rfl
      · exact pk_un (by omega)
    · rfl
theorem csF_hi {dd j : Nat} (hj : 64 ≤ j) : ∀ (k : Nat) (σ : Sg), (csF L dd k σ).1 j = σ.1 j
  | 0, σ => rfl
  | k + 1, σ => by
    unfold csF
    rw [addc_hi (tb_lt _ _ _) hj]
    exact csF_hi hj k σ
theorem prs_sn {S : St} {s l : Nat} (h : sn S s = nI l) (hl : l < 2 ^ 31) : prs S (6 + s) = true := by
  unfold sn at h
  split at h
  · rename_i e
    unfold prs
    rw [if_neg (by omega), show 377 + (6 + s) = 383 + s by omega]
    simpa using e
  · have := n_m1 hl
    rw [← h] at this
    simp at this
theorem k_rangeCheck {n a b : Nat} {p : mH → Prop} (hn : n < 1000) (hab : a ≤ b) (hb : b ≤ n) (hp : p h) : mU (Kd sL (d + 1)) 192 [.inl (nI n), .inl (nI a), .inl (nI b)] h p := by
  refine ke_J7_rangeCheck ?_
  refine EX.go (Kd_mono _ _) [false, false, false, false, false, false, false] 40 0 ?_
  dsimp only [wpc_s, wsl_t, wsl_f, gD_0, gD_s, ↓denB_n, pI_s, pG_s, pU_n, cb_J7_rangeCheck_0, cb_J7_rangeCheck_1, cb_J7_rangeCheck_2, cb_J7_rangeCheck_3, cb_J7_rangeCheck_4, cb_J7_rangeCheck_5, cb_J7_rangeCheck_6, ↓ev_iload_n_1, ↓ev_iload_n_2, ↓ev_icmp_le, ↓ev_nop, ↓ev_if_ge, ↓ev_iload_n_0, ↓ev_ret, Nat.reduceAdd]
  try simp (disch := omega) only [pk_mul, nI_add, n_lt0, n_le0, n_eq0, n_ge0, n_gt0, n_lt, n_le, n_eq, n_in, n_div, n_rem, n_rem2, n_m1, nI_clamp, bz_0, bz_1, tI_0, tI_bz, n4, n16, eq_self, Nat.reduceLT, Nat.reduceLeDiff, Nat.reduceEqDiff, Nat.reduceAdd, Nat.reduceMul, Nat.reduceDiv, Nat.reduceMod, Nat.le_refl, decide_eq_false_iff_not, Classical.not_not, true_and, and_true, false_and, and_false, not_true_eq_false, not_false_eq_true, forall_const, true_implies, false_implies, implies_true, ne_eq]
  exact ⟨fun _ => ⟨fun _ => hp, fun c => absurd hb c⟩, fun c => absurd hab c⟩
theorem k_fill4 {r : mRef} {n a b : Nat} {v : Int32} {p : mH → Prop} (hr : arw r = some n) (hn : n < 1000) (hab : a ≤ b) (hb : b ≤ n) (hp : ∀ f : Nat → Int32, (∀ j, f j = if a ≤ j ∧ j < b then v else h r j) → p (hpt h r f)) : mU (Kd sL (d + 2)) 194 [.inr (.inr r), .inl (nI a), .inl (nI b), .inl v] h p := by
  refine ke_J7_fill4 ?_
  refine EX.go (Kd_mono _ _) [false, true, false, false] 40 0 ?_
  dsimp only [wpc_s, wsl_t, wsl_f, gD_0, gD_s, ↓denB_n, pI_s, pG_s, pU_n, cb_J7_fill4_0, cb_J7_fill4_1, cb_J7_fill4_2, cb_J7_fill4_3, ↓ev_aload_n_0, ↓ev_iload_n_1, ↓ev_iload_n_2, ↓ev_calls_3_0_0, ↓ev_calls_3_1_0, ↓ev_calls_3_2_0, ↓ev_calls_3_3_0, ↓ev_calls_3_4_0, ↓ev_istore_4, ↓ev_iload_4, ↓ev_icmp_ge, ↓ev_iload_n_3, ↓ev_iinc_4_1, ↓ev_goto, ↓ev_ret, Nat.reduceAdd]
  rw [ev_alen_g (arr_of_arw hr)]
  dsimp only [wpc_s, wsl_t, wsl_f, gD_0, gD_s, ↓denB_n, pI_s, pG_s, pU_n, cb_J7_fill4_0, cb_J7_fill4_1, cb_J7_fill4_2, cb_J7_fill4_3, ↓ev_aload_n_0, ↓ev_iload_n_1, ↓ev_iload_n_2, ↓ev_calls_3_0_0, ↓ev_calls_3_1_0, ↓ev_calls_3_2_0, ↓ev_calls_3_3_0, ↓ev_calls_3_4_0, ↓ev_istore_4, ↓ev_iload_4, ↓ev_icmp_ge, ↓ev_iload_n_3, ↓ev_iinc_4_1, ↓ev_goto, ↓ev_ret, Nat.reduceAdd]
  refine k_rangeCheck hn hab hb ?_
  suffices H : ∀ (f k : Nat) (g : Nat → Int32), k + f = b → a ≤ k → (∀ j, g j = if a ≤ j ∧ j < k then v else h r j) → EX (Kd sL (d + 1)) sL md_J7_fill4 (pU p) 1 [some (.inr (.inr r)), some (.inl (nI a)), some (.inl (nI b)), some (.inl v), some (.inl (nI k))] [] (hpt h r g) by
    have := H (b - a) a (h r) (by omega) (Nat.le_refl a) (fun j => by rw [if_neg (by omega)])
    rwa [hpt_eta] at this
  intro f
  induction f with
  | zero =>
    intro k g hk hak hg
    refine EX.go (Kd_mono _ _) [false, true, false, false] 40 1 ?_
    dsimp only [wpc_s, wsl_t, wsl_f, gD_0, gD_s, ↓denB_n, pI_s, pG_s, pU_n, cb_J7_fill4_0, cb_J7_fill4_1, cb_J7_fill4_2, cb_J7_fill4_3, ↓ev_aload_n_0, ↓ev_iload_n_1, ↓ev_iload_n_2, ↓ev_calls_3_0_0, ↓ev_calls_3_1_0, ↓ev_calls_3_2_0, ↓ev_calls_3_3_0, ↓ev_calls_3_4_0, ↓ev_istore_4, ↓ev_iload_4, ↓ev_icmp_ge, ↓ev_iload_n_3, ↓ev_iinc_4_1, ↓ev_goto, ↓ev_ret, Nat.reduceAdd]
    try simp (disch := omega) only [pk_mul, nI_add, n_lt0, n_le0, n_eq0, n_ge0, n_gt0, n_lt, n_le, n_eq, n_in, n_div, n_rem, n_rem2, n_m1, nI_clamp, bz_0, bz_1, tI_0, tI_bz, n4, n16, eq_self, Nat.reduceLT, Nat.reduceLeDiff, Nat.reduceEqDiff, Nat.reduceAdd, Nat.reduceMul, Nat.reduceDiv, Nat.reduceMod, Nat.le_refl, decide_eq_false_iff_not, Classical.not_not, true_and, and_true, false_and, and_false, not_true_eq_false, not_false_eq_true, forall_const, true_implies, false_implies, implies_true, ne_eq]
    refine ⟨fun _ => hp g (fun j => ?_), fun c => absurd (show b ≤ k by omega) c⟩
    rw [hg j, show k = b by omega]
  | succ f ih =>
    intro k g hk hak hg
    refine EX.go (Kd_mono _ _) [false, true, false, false] 40 1 ?_
    dsimp only [wpc_s, wsl_t, wsl_f, gD_0, gD_s, ↓denB_n, pI_s, pG_s, pU_n, cb_J7_fill4_0, cb_J7_fill4_1, cb_J7_fill4_2, cb_J7_fill4_3, ↓ev_aload_n_0, ↓ev_iload_n_1, ↓ev_iload_n_2, ↓ev_calls_3_0_0, ↓ev_calls_3_1_0, ↓ev_calls_3_2_0, ↓ev_calls_3_3_0, ↓ev_calls_3_4_0, ↓ev_istore_4, ↓ev_iload_4, ↓ev_icmp_ge, ↓ev_iload_n_3, ↓ev_iinc_4_1, ↓ev_goto, ↓ev_ret, Nat.reduceAdd]
    try simp (disch := omega) only [pk_mul, nI_add, n_lt0, n_le0, n_eq0, n_ge0, n_gt0, n_lt, n_le, n_eq, n_in, n_div, n_rem, n_rem2, n_m1, nI_clamp, bz_0, bz_1, tI_0, tI_bz, n4, n16, eq_self, Nat.reduceLT, Nat.reduceLeDiff, Nat.reduceEqDiff, Nat.reduceAdd, Nat.reduceMul, Nat.reduceDiv, Nat.reduceMod, Nat.le_refl, decide_eq_false_iff_not, Classical.not_not, true_and, and_true, false_and, and_false, not_true_eq_false, not_false_eq_true, forall_const, true_implies, false_implies, implies_true, ne_eq]
    refine ⟨fun c => absurd c (by omega), fun _ => ?_⟩
    rw [ev_iast_g hr]
    dsimp only [wpc_s, wsl_t, wsl_f, gD_0, gD_s, ↓denB_n, pI_s, pG_s, pU_n, cb_J7_fill4_0, cb_J7_fill4_1, cb_J7_fill4_2, cb_J7_fill4_3, ↓ev_aload_n_0, ↓ev_iload_n_1, ↓ev_iload_n_2, ↓ev_calls_3_0_0, ↓ev_calls_3_1_0, ↓ev_calls_3_2_0, ↓ev_calls_3_3_0, ↓ev_calls_3_4_0, ↓ev_istore_4, ↓ev_iload_4, ↓ev_icmp_ge, ↓ev_iload_n_3, ↓ev_iinc_4_1, ↓ev_goto, ↓ev_ret, Nat.reduceAdd]
    try simp (disch := omega) only [pk_mul, nI_add, n_lt0, n_le0, n_eq0, n_ge0, n_gt0, n_lt, n_le, n_eq, n_in, n_div, n_rem, n_rem2, n_m1, nI_clamp, bz_0, bz_1, tI_0, tI_bz, n4, n16, eq_self, Nat.reduceLT, Nat.reduceLeDiff, Nat.reduceEqDiff, Nat.reduceAdd, Nat.reduceMul, Nat.reduceDiv, Nat.reduceMod, Nat.le_refl, decide_eq_false_iff_not, Classical.not_not, true_and, and_true, false_and, and_false, not_true_eq_false, not_false_eq_true, forall_const, true_implies, false_implies, implies_true, ne_eq, hup_hpt]
    refine ⟨by omega, ih (k + 1) _ (by omega) (by omega) (fun j => ?_)⟩
    by_cases q : j = k
    · subst q; rw [pk_us, if_pos (by omega)]
    · rw [pk_un q, hg j]
      by_cases q2 : a ≤ j ∧ j < k
      · rw [if_pos q2, if_pos (by omega)]
      · rw [if_neg q2, if_neg (by omega)]
theorem k_dropSnapshot {s : Nat} {p : mH → Prop} (hT : TR h L σ) (hs : s < 8) (hp : ∀ h', OU h h' → TR h' L (drp L s σ) → p h') : mU (Kd sL (d + 4)) 46 [.inr (.inr (.inr 2)), .inl (nI s)] h p := by
  refine ke_X2_dropSnapshot ?_
  refine EX.go (Kd_mono _ _) [false, false, true] 40 0 ?_
  dsimp only [wpc_s, wsl_t, wsl_f, gD_0, gD_s, ↓denB_n, pI_s, pG_s, pU_n, cb_X2_dropSnapshot_0, cb_X2_dropSnapshot_1, cb_X2_dropSnapshot_2, ↓ev_bipush_6, ↓ev_iload_n_1, ↓ev_iadd, ↓ev_istore_n_2, ↓ev_aload_n_0, ↓ev_iload_n_2, ↓ev_callv_2_0_0, ↓ev_callv_2_1_0, ↓ev_callv_2_2_0, ↓ev_callv_2_3_0, ↓ev_callv_2_4_0, ↓ev_callv_1_0_1, ↓ev_callv_1_1_1, ↓ev_callv_1_2_1, ↓ev_callv_1_3_1, ↓ev_callv_1_4_1, ↓ev_if_eq, ↓ev_getf_2_0, ↓ev_getf_0_4, ↓ev_iconst_m1, ↓ev_iast_m1, ↓ev_iast_m2, ↓ev_iast_m3, ↓ev_iast_m4, ↓ev_iast_m5, ↓ev_iast_m6, ↓ev_iast_o3, ↓ev_getf_0_2, ↓ev_iconst_4, ↓ev_imul, ↓ev_iconst_1, ↓ev_iconst_0, ↓ev_calls_4_0_0, ↓ev_calls_4_1_0, ↓ev_calls_4_2_0, ↓ev_calls_4_3_0, ↓ev_calls_4_4_0, ↓ev_callv_1_0_0, ↓ev_callv_1_1_0, ↓ev_callv_1_2_0, ↓ev_callv_1_3_0, ↓ev_callv_1_4_0, ↓ev_ret, Nat.reduceAdd]
  try simp (disch := omega) only [pk_mul, nI_add, n_lt0, n_le0, n_eq0, n_ge0, n_gt0, n_lt, n_le, n_eq, n_in, n_div, n_rem, n_rem2, n_m1, nI_clamp, bz_0, bz_1, tI_0, tI_bz, n4, n16, eq_self, Nat.reduceLT, Nat.reduceLeDiff, Nat.reduceEqDiff, Nat.reduceAdd, Nat.reduceMul, Nat.reduceDiv, Nat.reduceMod, Nat.le_refl, decide_eq_false_iff_not, Classical.not_not, true_and, and_true, false_and, and_false, not_true_eq_false, not_false_eq_true, forall_const, true_implies, false_implies, implies_true, ne_eq]
  refine k_noteTables hT (by omega) (fun h1 o1 t1 hh => ?_)
  unfold drp at hp
  have J2 : ∀ (h2 : mH) (σ2 : Sg), OT h1 h2 → TR h2 L σ2 → (∀ h', OU h h' → TR h' L (rlF L (fun i => tb σ.1 (6 + s) i) 4 σ2) → p h') → EX (Kd sL (d + 3)) sL md_X2_dropSnapshot (pU p) 2 [some (.inr (.inr (.inr 2))), some (.inl (nI s)), some (.inl (nI (6 + s)))] [] h2 := by
    intro h2 σ2 o2 t2 hp
    refine EX.go (Kd_mono _ _) [false, false, false] 40 2 ?_
    dsimp only [wpc_s, wsl_t, wsl_f, gD_0, gD_s, ↓denB_n, pI_s, pG_s, pU_n, cb_X2_dropSnapshot_0, cb_X2_dropSnapshot_1, cb_X2_dropSnapshot_2, ↓ev_bipush_6, ↓ev_iload_n_1, ↓ev_iadd, ↓ev_istore_n_2, ↓ev_aload_n_0, ↓ev_iload_n_2, ↓ev_callv_2_0_0, ↓ev_callv_2_1_0, ↓ev_callv_2_2_0, ↓ev_callv_2_3_0, ↓ev_callv_2_4_0, ↓ev_callv_1_0_1, ↓ev_callv_1_1_1, ↓ev_callv_1_2_1, ↓ev_callv_1_3_1, ↓ev_callv_1_4_1, ↓ev_if_eq, ↓ev_getf_2_0, ↓ev_getf_0_4, ↓ev_iconst_m1, ↓ev_iast_m1, ↓ev_iast_m2, ↓ev_iast_m3, ↓ev_iast_m4, ↓ev_iast_m5, ↓ev_iast_m6, ↓ev_iast_o3, ↓ev_getf_0_2, ↓ev_iconst_4, ↓ev_imul, ↓ev_iconst_1, ↓ev_iconst_0, ↓ev_calls_4_0_0, ↓ev_calls_4_1_0, ↓ev_calls_4_2_0, ↓ev_calls_4_3_0, ↓ev_calls_4_4_0, ↓ev_callv_1_0_0, ↓ev_callv_1_1_0, ↓ev_callv_1_2_0, ↓ev_callv_1_3_0, ↓ev_callv_1_4_0, ↓ev_ret, Nat.reduceAdd]
    refine k_releaseNoted t2 (T := fun i => tb σ.1 (6 + s) i) (fun i hi => by rw [o2.had]; exact hh i hi) (fun i => tb_lt _ _ _) (fun h3 o3 t3 => ?_)
    exact hp h3 (o1.tr (o2.ou.tr o3.ou)) t3
  refine k_step t1 (fun h3 o3 t3 hn => ?_) (fun h3 o3 z0 z1 t3 => ?_)
  · rw [gt_no hn] at hp
    exact ⟨fun _ => J2 h3 _ o3 t3 hp, fun c2 => absurd rfl c2⟩
  · rw [gt_yes z0 z1] at hp
    refine ⟨fun c2 => absurd c2 (by decide), fun _ => ?_⟩
    try simp (disch := omega) only [pk_mul, nI_add, n_lt0, n_le0, n_eq0, n_ge0, n_gt0, n_lt, n_le, n_eq, n_in, n_div, n_rem, n_rem2, n_m1, nI_clamp, bz_0, bz_1, tI_0, tI_bz, n4, n16, eq_self, Nat.reduceLT, Nat.reduceLeDiff, Nat.reduceEqDiff, Nat.reduceAdd, Nat.reduceMul, Nat.reduceDiv, Nat.reduceMod, Nat.le_refl, decide_eq_false_iff_not, Classical.not_not, true_and, and_true, false_and, and_false, not_true_eq_false, not_false_eq_true, forall_const, true_implies, false_implies, implies_true, ne_eq]
    refine ⟨hs, ?_⟩
    refine k_fill4 (r := .inl (2, 3)) (n := 56) rfl (by decide) (by omega) (by omega) (fun f hf => ?_)
    refine J2 _ _ (o3.tr ((OT.oi Oi.up).tr (OT.oi Oi.pt))) (t3.img (Oi.up.tr Oi.pt) (CR.drop t3.1 hs (fun r a b => ?_) ?_ (fun j hj => ?_))) hp
    · rw [hpt_ne a]; funext k; exact hup_other b k
    · rw [hpt_ne (by simp), hup_self]
    · rw [hpt_self, hf j, hup_other (by simp)]
      by_cases q : 4 * (6 + s) ≤ j ∧ j < 4 * (6 + s) + 4
      · rw [if_pos (by omega), if_pos q]
      · rw [if_neg (by omega), if_neg q]
theorem k_revertTo {l s : Nat} {p : mH → Prop} (hT : TR h L σ) (hs : s < 8) (hsn : sn σ.1 s = nI l) (hl : l < mn σ.1) (hp : ∀ h', OU h h' → TR h' L (rvt L l s σ) → p h') : mU (Kd sL (d + 4)) 47 [.inr (.inr (.inr 2)), .inl (nI s)] h p := by
  have hm6 := hT.1.2.2.2.2.2.2.1
  refine ke_X2_revertTo ?_
  refine EX.go (Kd_mono _ _) [false, false, true, true, false, false, false, false] 40 0 ?_
  dsimp only [wpc_s, wsl_t, wsl_f, gD_0, gD_s, ↓denB_n, pI_s, pG_s, pU_n, cb_X2_revertTo_0, cb_X2_revertTo_1, cb_X2_revertTo_2, cb_X2_revertTo_3, cb_X2_revertTo_4, cb_X2_revertTo_5, cb_X2_revertTo_6, cb_X2_revertTo_7, ↓ev_bipush_6, ↓ev_iload_n_1, ↓ev_iadd, ↓ev_istore_n_2, ↓ev_aload_n_0, ↓ev_getf_2_0, ↓ev_getf_0_4, ↓ev_iald_m1, ↓ev_iald_m2, ↓ev_iald_m3, ↓ev_iald_m4, ↓ev_iald_m5, ↓ev_iald_m6, ↓ev_iald_o3, ↓ev_istore_n_3, ↓ev_iload_n_3, ↓ev_callv_2_0_1, ↓ev_callv_2_1_1, ↓ev_callv_2_2_1, ↓ev_callv_2_3_1, ↓ev_callv_2_4_1, ↓ev_if_ne, ↓ev_ret, ↓ev_callv_2_0_0, ↓ev_callv_2_1_0, ↓ev_callv_2_2_0, ↓ev_callv_2_3_0, ↓ev_callv_2_4_0, ↓ev_iconst_0, ↓ev_istore_4, ↓ev_iload_4, ↓ev_iconst_4, ↓ev_icmp_ge, ↓ev_iload_n_2, ↓ev_callv_3_0_1, ↓ev_callv_3_1_1, ↓ev_callv_3_2_1, ↓ev_callv_3_3_1, ↓ev_callv_3_4_1, ↓ev_callv_3_5_1, ↓ev_iconst_1, ↓ev_callv_3_0_0, ↓ev_callv_3_1_0, ↓ev_callv_3_2_0, ↓ev_callv_3_3_0, ↓ev_callv_3_4_0, ↓ev_iinc_4_1, ↓ev_goto, ↓ev_callv_1_0_1, ↓ev_callv_1_1_1, ↓ev_callv_1_2_1, ↓ev_callv_1_3_1, ↓ev_callv_1_4_1, ↓ev_if_eq, ↓ev_getf_0_2, ↓ev_imul, ↓ev_callv_1_0_0, ↓ev_callv_1_1_0, ↓ev_callv_1_2_0, ↓ev_callv_1_3_0, ↓ev_callv_1_4_0, Nat.reduceAdd]
  have e5 : h (.inl (2, 5)) s = nI l := by rw [hT.1.2.2.2.2.1 s hs, hsn]
  try simp (disch := omega) only [pk_mul, nI_add, n_lt0, n_le0, n_eq0, n_ge0, n_gt0, n_lt, n_le, n_eq, n_in, n_div, n_rem, n_rem2, n_m1, nI_clamp, bz_0, bz_1, tI_0, tI_bz, n4, n16, eq_self, Nat.reduceLT, Nat.reduceLeDiff, Nat.reduceEqDiff, Nat.reduceAdd, Nat.reduceMul, Nat.reduceDiv, Nat.reduceMod, Nat.le_refl, decide_eq_false_iff_not, Classical.not_not, true_and, and_true, false_and, and_false, not_true_eq_false, not_false_eq_true, forall_const, true_implies, false_implies, implies_true, ne_eq, e5]
  refine ⟨hs, k_hasLayer hT.1 ?_⟩
  try simp (disch := omega) only [pk_mul, nI_add, n_lt0, n_le0, n_eq0, n_ge0, n_gt0, n_lt, n_le, n_eq, n_in, n_div, n_rem, n_rem2, n_m1, nI_clamp, bz_0, bz_1, tI_0, tI_bz, n4, n16, eq_self, Nat.reduceLT, Nat.reduceLeDiff, Nat.reduceEqDiff, Nat.reduceAdd, Nat.reduceMul, Nat.reduceDiv, Nat.reduceMod, Nat.le_refl, decide_eq_false_iff_not, Classical.not_not, true_and, and_true, false_and, and_false, not_true_eq_false, not_false_eq_true, forall_const, true_implies, false_implies, implies_true, ne_eq]
  refine ⟨fun _ => ?_, fun c => absurd hl c⟩
  unfold rvt at hp
  refine EX.go (Kd_mono _ _) [false, false, false, true, false, false, false, false] 40 2 ?_
  dsimp only [wpc_s, wsl_t, wsl_f, gD_0, gD_s, ↓denB_n, pI_s, pG_s, pU_n, cb_X2_revertTo_0, cb_X2_revertTo_1, cb_X2_revertTo_2, cb_X2_revertTo_3, cb_X2_revertTo_4, cb_X2_revertTo_5, cb_X2_revertTo_6, cb_X2_revertTo_7, ↓ev_bipush_6, ↓ev_iload_n_1, ↓ev_iadd, ↓ev_istore_n_2, ↓ev_aload_n_0, ↓ev_getf_2_0, ↓ev_getf_0_4, ↓ev_iald_m1, ↓ev_iald_m2, ↓ev_iald_m3, ↓ev_iald_m4, ↓ev_iald_m5, ↓ev_iald_m6, ↓ev_iald_o3, ↓ev_istore_n_3, ↓ev_iload_n_3, ↓ev_callv_2_0_1, ↓ev_callv_2_1_1, ↓ev_callv_2_2_1, ↓ev_callv_2_3_1, ↓ev_callv_2_4_1, ↓ev_if_ne, ↓ev_ret, ↓ev_callv_2_0_0, ↓ev_callv_2_1_0, ↓ev_callv_2_2_0, ↓ev_callv_2_3_0, ↓ev_callv_2_4_0, ↓ev_iconst_0, ↓ev_istore_4, ↓ev_iload_4, ↓ev_iconst_4, ↓ev_icmp_ge, ↓ev_iload_n_2, ↓ev_callv_3_0_1, ↓ev_callv_3_1_1, ↓ev_callv_3_2_1, ↓ev_callv_3_3_1, ↓ev_callv_3_4_1, ↓ev_callv_3_5_1, ↓ev_iconst_1, ↓ev_callv_3_0_0, ↓ev_callv_3_1_0, ↓ev_callv_3_2_0, ↓ev_callv_3_3_0, ↓ev_callv_3_4_0, ↓ev_iinc_4_1, ↓ev_goto, ↓ev_callv_1_0_1, ↓ev_callv_1_1_1, ↓ev_callv_1_2_1, ↓ev_callv_1_3_1, ↓ev_callv_1_4_1, ↓ev_if_eq, ↓ev_getf_0_2, ↓ev_imul, ↓ev_callv_1_0_0, ↓ev_callv_1_1_0, ↓ev_callv_1_2_0, ↓ev_callv_1_3_0, ↓ev_callv_1_4_0, Nat.reduceAdd]
  refine k_noteTables hT (by omega) (fun h1 o1 t1 hh => ?_)
  suffices H : ∀ (f k : Nat) (h2 : mH), k + f = 4 → OT h1 h2 → TR h2 L (csF L (6 + s) k σ) → EX (Kd sL (d + 3)) sL md_X2_revertTo (pU p) 3 [some (.inr (.inr (.inr 2))), some (.inl (nI s)), some (.inl (nI (6 + s))), some (.inl (nI l)), some (.inl (nI k))] [] h2 from H 4 0 h1 rfl OT.rf t1
  intro f
  induction f with
  | zero =>
    intro k h2 hk o t
    refine EX.go (Kd_mono _ _) [false, false, false, true, false, false, false, true] 40 3 ?_
    dsimp only [wpc_s, wsl_t, wsl_f, gD_0, gD_s, ↓denB_n, pI_s, pG_s, pU_n, cb_X2_revertTo_0, cb_X2_revertTo_1, cb_X2_revertTo_2, cb_X2_revertTo_3, cb_X2_revertTo_4, cb_X2_revertTo_5, cb_X2_revertTo_6, cb_X2_revertTo_7, ↓ev_bipush_6, ↓ev_iload_n_1, ↓ev_iadd, ↓ev_istore_n_2, ↓ev_aload_n_0, ↓ev_getf_2_0, ↓ev_getf_0_4, ↓ev_iald_m1, ↓ev_iald_m2, ↓ev_iald_m3, ↓ev_iald_m4, ↓ev_iald_m5, ↓ev_iald_m6, ↓ev_iald_o3, ↓ev_istore_n_3, ↓ev_iload_n_3, ↓ev_callv_2_0_1, ↓ev_callv_2_1_1, ↓ev_callv_2_2_1, ↓ev_callv_2_3_1, ↓ev_callv_2_4_1, ↓ev_if_ne, ↓ev_ret, ↓ev_callv_2_0_0, ↓ev_callv_2_1_0, ↓ev_callv_2_2_0, ↓ev_callv_2_3_0, ↓ev_callv_2_4_0, ↓ev_iconst_0, ↓ev_istore_4, ↓ev_iload_4, ↓ev_iconst_4, ↓ev_icmp_ge, ↓ev_iload_n_2, ↓ev_callv_3_0_1, ↓ev_callv_3_1_1, ↓ev_callv_3_2_1, ↓ev_callv_3_3_1, ↓ev_callv_3_4_1, ↓ev_callv_3_5_1, ↓ev_iconst_1, ↓ev_callv_3_0_0, ↓ev_callv_3_1_0, ↓ev_callv_3_2_0, ↓ev_callv_3_3_0, ↓ev_callv_3_4_0, ↓ev_iinc_4_1, ↓ev_goto, ↓ev_callv_1_0_1, ↓ev_callv_1_1_1, ↓ev_callv_1_2_1, ↓ev_callv_1_3_1, ↓ev_callv_1_4_1, ↓ev_if_eq, ↓ev_getf_0_2, ↓ev_imul, ↓ev_callv_1_0_0, ↓ev_callv_1_1_0, ↓ev_callv_1_2_0, ↓ev_callv_1_3_0, ↓ev_callv_1_4_0, Nat.reduceAdd]
    try simp (disch := omega) only [pk_mul, nI_add, n_lt0, n_le0, n_eq0, n_ge0, n_gt0, n_lt, n_le, n_eq, n_in, n_div, n_rem, n_rem2, n_m1, nI_clamp, bz_0, bz_1, tI_0, tI_bz, n4, n16, eq_self, Nat.reduceLT, Nat.reduceLeDiff, Nat.reduceEqDiff, Nat.reduceAdd, Nat.reduceMul, Nat.reduceDiv, Nat.reduceMod, Nat.le_refl, decide_eq_false_iff_not, Classical.not_not, true_and, and_true, false_and, and_false, not_true_eq_false, not_false_eq_true, forall_const, true_implies, false_implies, implies_true, ne_eq]
    rw [show k = 4 by omega] at t
    refine ⟨fun _ => ?_, fun c2 => absurd (show 4 ≤ k by omega) c2⟩
    have J7 : ∀ (h2 : mH) (σ2 : Sg), OT h1 h2 → TR h2 L σ2 → (∀ h', OU h h' → TR h' L (rlF L (fun i => tb σ.1 l i) 4 σ2) → p h') → EX (Kd sL (d + 3)) sL md_X2_revertTo (pU p) 7 [some (.inr (.inr (.inr 2))), some (.inl (nI s)), some (.inl (nI (6 + s))), some (.inl (nI l)), some (.inl (nI k))] [] h2 := by
      intro h2 σ2 o2 t2 hp
      refine EX.go (Kd_mono _ _) [false, false, false, true, false, false, false, false] 40 7 ?_
      dsimp only [wpc_s, wsl_t, wsl_f, gD_0, gD_s, ↓denB_n, pI_s, pG_s, pU_n, cb_X2_revertTo_0, cb_X2_revertTo_1, cb_X2_revertTo_2, cb_X2_revertTo_3, cb_X2_revertTo_4, cb_X2_revertTo_5, cb_X2_revertTo_6, cb_X2_revertTo_7, ↓ev_bipush_6, ↓ev_iload_n_1, ↓ev_iadd, ↓ev_istore_n_2, ↓ev_aload_n_0, ↓ev_getf_2_0, ↓ev_getf_0_4, ↓ev_iald_m1, ↓ev_iald_m2, ↓ev_iald_m3, ↓ev_iald_m4, ↓ev_iald_m5, ↓ev_iald_m6, ↓ev_iald_o3, ↓ev_istore_n_3, ↓ev_iload_n_3, ↓ev_callv_2_0_1, ↓ev_callv_2_1_1, ↓ev_callv_2_2_1, ↓ev_callv_2_3_1, ↓ev_callv_2_4_1, ↓ev_if_ne, ↓ev_ret, ↓ev_callv_2_0_0, ↓ev_callv_2_1_0, ↓ev_callv_2_2_0, ↓ev_callv_2_3_0, ↓ev_callv_2_4_0, ↓ev_iconst_0, ↓ev_istore_4, ↓ev_iload_4, ↓ev_iconst_4, ↓ev_icmp_ge, ↓ev_iload_n_2, ↓ev_callv_3_0_1, ↓ev_callv_3_1_1, ↓ev_callv_3_2_1, ↓ev_callv_3_3_1, ↓ev_callv_3_4_1, ↓ev_callv_3_5_1, ↓ev_iconst_1, ↓ev_callv_3_0_0, ↓ev_callv_3_1_0, ↓ev_callv_3_2_0, ↓ev_callv_3_3_0, ↓ev_callv_3_4_0, ↓ev_iinc_4_1, ↓ev_goto, ↓ev_callv_1_0_1, ↓ev_callv_1_1_1, ↓ev_callv_1_2_1, ↓ev_callv_1_3_1, ↓ev_callv_1_4_1, ↓ev_if_eq, ↓ev_getf_0_2, ↓ev_imul, ↓ev_callv_1_0_0, ↓ev_callv_1_1_0, ↓ev_callv_1_2_0, ↓ev_callv_1_3_0, ↓ev_callv_1_4_0, Nat.reduceAdd]
      refine k_releaseNoted t2 (T := fun i => tb σ.1 l i) (fun i hi => by rw [o2.had]; exact hh i hi) (fun i => tb_lt _ _ _) (fun h3 o3 t3 => ?_)
      exact hp h3 (o1.tr (o2.ou.tr o3.ou)) t3
    refine k_step t (fun h3 o3 t3 hn => ?_) (fun h3 o3 z0 z1 t3 => ?_)
    · rw [gt_no hn] at hp
      exact ⟨fun _ => J7 h3 _ (o.tr o3) t3 hp, fun c2 => absurd rfl c2⟩
    · rw [gt_yes z0 z1] at hp
      refine ⟨fun c2 => absurd c2 (by decide), fun _ => ?_⟩
      try simp (disch := omega) only [pk_mul, nI_add, n_lt0, n_le0, n_eq0, n_ge0, n_gt0, n_lt, n_le, n_eq, n_in, n_div, n_rem, n_rem2, n_m1, nI_clamp, bz_0, bz_1, tI_0, tI_bz, n4, n16, eq_self, Nat.reduceLT, Nat.reduceLeDiff, Nat.reduceEqDiff, Nat.reduceAdd, Nat.reduceMul, Nat.reduceDiv, Nat.reduceMod, Nat.le_refl, decide_eq_false_iff_not, Classical.not_not, true_and, and_true, false_and, and_false, not_true_eq_false, not_false_eq_true, forall_const, true_implies, false_implies, implies_true, ne_eq]
      refine ev_copy rfl rfl (nI_pos' (by omega)) (nI_pos' (by omega)) (by decide) (by rw [nI_clamp (by omega), nI_clamp (by decide)]; omega) (by rw [nI_clamp (by omega), nI_clamp (by decide)]; omega) (by decide) ?_
      dsimp only [wpc_s, wsl_t, wsl_f, gD_0, gD_s, ↓denB_n, pI_s, pG_s, pU_n, cb_X2_revertTo_0, cb_X2_revertTo_1, cb_X2_revertTo_2, cb_X2_revertTo_3, cb_X2_revertTo_4, cb_X2_revertTo_5, cb_X2_revertTo_6, cb_X2_revertTo_7, ↓ev_bipush_6, ↓ev_iload_n_1, ↓ev_iadd, ↓ev_istore_n_2, ↓ev_aload_n_0, ↓ev_getf_2_0, ↓ev_getf_0_4, ↓ev_iald_m1, ↓ev_iald_m2, ↓ev_iald_m3, ↓ev_iald_m4, ↓ev_iald_m5, ↓ev_iald_m6, ↓ev_iald_o3, ↓ev_istore_n_3, ↓ev_iload_n_3, ↓ev_callv_2_0_1, ↓ev_callv_2_1_1, ↓ev_callv_2_2_1, ↓ev_callv_2_3_1, ↓ev_callv_2_4_1, ↓ev_if_ne, ↓ev_ret, ↓ev_callv_2_0_0, ↓ev_callv_2_1_0, ↓ev_callv_2_2_0, ↓ev_callv_2_3_0, ↓ev_callv_2_4_0, ↓ev_iconst_0, ↓ev_istore_4, ↓ev_iload_4, ↓ev_iconst_4, ↓ev_icmp_ge, ↓ev_iload_n_2, ↓ev_callv_3_0_1, ↓ev_callv_3_1_1, ↓ev_callv_3_2_1, ↓ev_callv_3_3_1, ↓ev_callv_3_4_1, ↓ev_callv_3_5_1, ↓ev_iconst_1, ↓ev_callv_3_0_0, ↓ev_callv_3_1_0, ↓ev_callv_3_2_0, ↓ev_callv_3_3_0, ↓ev_callv_3_4_0, ↓ev_iinc_4_1, ↓ev_goto, ↓ev_callv_1_0_1, ↓ev_callv_1_1_1, ↓ev_callv_1_2_1, ↓ev_callv_1_3_1, ↓ev_callv_1_4_1, ↓ev_if_eq, ↓ev_getf_0_2, ↓ev_imul, ↓ev_callv_1_0_0, ↓ev_callv_1_1_0, ↓ev_callv_1_2_0, ↓ev_callv_1_3_0, ↓ev_callv_1_4_0, Nat.reduceAdd]
      rw [nI_clamp (by omega), nI_clamp (by omega), nI_clamp (by decide)]
      have hml : l < mn (csF L (6 + s) 4 σ).1 := by rw [mn_csF]; exact hl
      refine J7 _ _ (o.tr (o3.tr (OT.oi Oi.cp))) (t3.img Oi.cp (CR.dirs t3.1 (a := l) hml (fun r hr => by funext k; simp [hcp, hr]) (fun j hj => ?_) (fun j hj hn => ?_) (fun k hk => ?_))) hp
      · show (if _ then _ else _) = _
        rw [if_neg hj]
      · unfold hcp
        rw [if_neg (fun z => by omega)]
      · have e : hcp h3 (.inl (2, 3)) ((6 + s) * 4) (.inl (2, 3)) (l * 4) 4 (.inl (2, 3)) (4 * l + k) = h3 (.inl (2, 3)) (4 * (6 + s) + k) := by
          unfold hcp
          rw [if_pos ⟨rfl, by omega, by omega⟩, show (6 + s) * 4 + (4 * l + k - l * 4) = 4 * (6 + s) + k by omega]
        rw [e, t3.1.2.2.1 (6 + s) k (by omega) hk]
        congr 1
        have e9 : wdir (csF L (6 + s) 4 σ).1 l (6 + s) (327 + 4 * l + k) = (csF L (6 + s) 4 σ).1 (327 + 4 * (6 + s) + k) := by
          show (if _ then _ else _) = _
          rw [if_pos (by omega), show 327 + 4 * (6 + s) + (327 + 4 * l + k - (327 + 4 * l)) = 327 + 4 * (6 + s) + k by omega]
        show tb (csF L (6 + s) 4 σ).1 (6 + s) k = cl (wdir (csF L (6 + s) 4 σ).1 l (6 + s) (327 + 4 * l + k))
        rw [e9]
        unfold tb
        have e10 : prs (csF L (6 + s) 4 σ).1 (6 + s) = true := by
          rw [(hi_same (fun j hj => csF_hi hj 4 σ)).2.1]
          exact prs_sn hsn (by omega)
        rw [e10]
        rfl
  | succ f ih =>
    intro k h2 hk o t
    refine EX.go (Kd_mono _ _) [false, false, false, true, false, false, false, false] 40 3 ?_
    dsimp only [wpc_s, wsl_t, wsl_f, gD_0, gD_s, ↓denB_n, pI_s, pG_s, pU_n, cb_X2_revertTo_0, cb_X2_revertTo_1, cb_X2_revertTo_2, cb_X2_revertTo_3, cb_X2_revertTo_4, cb_X2_revertTo_5, cb_X2_revertTo_6, cb_X2_revertTo_7, ↓ev_bipush_6, ↓ev_iload_n_1, ↓ev_iadd, ↓ev_istore_n_2, ↓ev_aload_n_0, ↓ev_getf_2_0, ↓ev_getf_0_4, ↓ev_iald_m1, ↓ev_iald_m2, ↓ev_iald_m3, ↓ev_iald_m4, ↓ev_iald_m5, ↓ev_iald_m6, ↓ev_iald_o3, ↓ev_istore_n_3, ↓ev_iload_n_3, ↓ev_callv_2_0_1, ↓ev_callv_2_1_1, ↓ev_callv_2_2_1, ↓ev_callv_2_3_1, ↓ev_callv_2_4_1, ↓ev_if_ne, ↓ev_ret, ↓ev_callv_2_0_0, ↓ev_callv_2_1_0, ↓ev_callv_2_2_0, ↓ev_callv_2_3_0, ↓ev_callv_2_4_0, ↓ev_iconst_0, ↓ev_istore_4, ↓ev_iload_4, ↓ev_iconst_4, ↓ev_icmp_ge, ↓ev_iload_n_2, ↓ev_callv_3_0_1, ↓ev_callv_3_1_1, ↓ev_callv_3_2_1, ↓ev_callv_3_3_1, ↓ev_callv_3_4_1, ↓ev_callv_3_5_1, ↓ev_iconst_1, ↓ev_callv_3_0_0, ↓ev_callv_3_1_0, ↓ev_callv_3_2_0, ↓ev_callv_3_3_0, ↓ev_callv_3_4_0, ↓ev_iinc_4_1, ↓ev_goto, ↓ev_callv_1_0_1, ↓ev_callv_1_1_1, ↓ev_callv_1_2_1, ↓ev_callv_1_3_1, ↓ev_callv_1_4_1, ↓ev_if_eq, ↓ev_getf_0_2, ↓ev_imul, ↓ev_callv_1_0_0, ↓ev_callv_1_1_0, ↓ev_callv_1_2_0, ↓ev_callv_1_3_0, ↓ev_callv_1_4_0, Nat.reduceAdd]
    try simp (disch := omega) only [pk_mul, nI_add, n_lt0, n_le0, n_eq0, n_ge0, n_gt0, n_lt, n_le, n_eq, n_in, n_div, n_rem, n_rem2, n_m1, nI_clamp, bz_0, bz_1, tI_0, tI_bz, n4, n16, eq_self, Nat.reduceLT, Nat.reduceLeDiff, Nat.reduceEqDiff, Nat.reduceAdd, Nat.reduceMul, Nat.reduceDiv, Nat.reduceMod, Nat.le_refl, decide_eq_false_iff_not, Classical.not_not, true_and, and_true, false_and, and_false, not_true_eq_false, not_false_eq_true, forall_const, true_implies, false_implies, implies_true, ne_eq]
    refine ⟨fun c2 => absurd c2 (by omega), fun _ => ?_⟩
    refine k_tableAt t.1 (by omega) (by omega) ?_
    refine k_addToCount t (tb_lt _ _ _) (fun h3 o3 t3 => ?_)
    exact ih (k + 1) h3 (by omega) (o.tr o3) t3
theorem k_giveUpBlock {l b : Nat} {p : mH → Prop} (hT : TR h L σ) (hl : l < mn σ.1) (hb : b < 16) (hp : ∀ h', OT h h' → TR h' L (gvu L l b σ) → p h') : mU (Kd sL (d + 4)) 48 [.inr (.inr (.inr 2)), .inl (nI l), .inl (nI b)] h p := by
  have hm6 := hT.1.2.2.2.2.2.2.1
  refine ke_X2_giveUpBlock ?_
  refine EX.go (Kd_mono _ _) [false, false, true, false, false] 40 0 ?_
  dsimp only [wpc_s, wsl_t, wsl_f, gD_0, gD_s, ↓denB_n, pI_s, pG_s, pU_n, cb_X2_giveUpBlock_0, cb_X2_giveUpBlock_1, cb_X2_giveUpBlock_2, cb_X2_giveUpBlock_3, cb_X2_giveUpBlock_4, ↓ev_aload_n_0, ↓ev_getf_2_0, ↓ev_iload_n_1, ↓ev_iload_n_2, ↓ev_callv_3_0_1, ↓ev_callv_3_1_1, ↓ev_callv_3_2_1, ↓ev_callv_3_3_1, ↓ev_callv_3_4_1, ↓ev_callv_3_5_1, ↓ev_istore_n_3, ↓ev_iload_n_3, ↓ev_if_ne, ↓ev_ret, ↓ev_iconst_4, ↓ev_idiv, ↓ev_istore_4, ↓ev_callv_1_0_1, ↓ev_callv_1_1_1, ↓ev_callv_1_2_1, ↓ev_callv_1_3_1, ↓ev_callv_1_4_1, ↓ev_if_eq, ↓ev_getf_0_0, ↓ev_iload_4, ↓ev_imul, ↓ev_irem, ↓ev_iadd, ↓ev_iconst_0, ↓ev_iast_m1, ↓ev_iast_m2, ↓ev_iast_m3, ↓ev_iast_m4, ↓ev_iast_m5, ↓ev_iast_m6, ↓ev_iast_o3, ↓ev_iconst_m1, ↓ev_callv_3_0_0, ↓ev_callv_3_1_0, ↓ev_callv_3_2_0, ↓ev_callv_3_3_0, ↓ev_callv_3_4_0, Nat.reduceAdd]
  refine k_dataOf hT.1 (by omega) hb ?_
  have hdl := dof_lt σ.1 l b
  unfold gvu at hp
  try simp (disch := omega) only [pk_mul, nI_add, n_lt0, n_le0, n_eq0, n_ge0, n_gt0, n_lt, n_le, n_eq, n_in, n_div, n_rem, n_rem2, n_m1, nI_clamp, bz_0, bz_1, tI_0, tI_bz, n4, n16, eq_self, Nat.reduceLT, Nat.reduceLeDiff, Nat.reduceEqDiff, Nat.reduceAdd, Nat.reduceMul, Nat.reduceDiv, Nat.reduceMod, Nat.le_refl, decide_eq_false_iff_not, Classical.not_not, true_and, and_true, false_and, and_false, not_true_eq_false, not_false_eq_true, forall_const, true_implies, false_implies, implies_true, ne_eq]
  refine ⟨fun c => ?_, fun c => ?_⟩
  · rw [if_neg c] at hp
    refine EX.go (Kd_mono _ _) [false, false, false, false, true] 40 2 ?_
    dsimp only [wpc_s, wsl_t, wsl_f, gD_0, gD_s, ↓denB_n, pI_s, pG_s, pU_n, cb_X2_giveUpBlock_0, cb_X2_giveUpBlock_1, cb_X2_giveUpBlock_2, cb_X2_giveUpBlock_3, cb_X2_giveUpBlock_4, ↓ev_aload_n_0, ↓ev_getf_2_0, ↓ev_iload_n_1, ↓ev_iload_n_2, ↓ev_callv_3_0_1, ↓ev_callv_3_1_1, ↓ev_callv_3_2_1, ↓ev_callv_3_3_1, ↓ev_callv_3_4_1, ↓ev_callv_3_5_1, ↓ev_istore_n_3, ↓ev_iload_n_3, ↓ev_if_ne, ↓ev_ret, ↓ev_iconst_4, ↓ev_idiv, ↓ev_istore_4, ↓ev_callv_1_0_1, ↓ev_callv_1_1_1, ↓ev_callv_1_2_1, ↓ev_callv_1_3_1, ↓ev_callv_1_4_1, ↓ev_if_eq, ↓ev_getf_0_0, ↓ev_iload_4, ↓ev_imul, ↓ev_irem, ↓ev_iadd, ↓ev_iconst_0, ↓ev_iast_m1, ↓ev_iast_m2, ↓ev_iast_m3, ↓ev_iast_m4, ↓ev_iast_m5, ↓ev_iast_m6, ↓ev_iast_o3, ↓ev_iconst_m1, ↓ev_callv_3_0_0, ↓ev_callv_3_1_0, ↓ev_callv_3_2_0, ↓ev_callv_3_3_0, ↓ev_callv_3_4_0, Nat.reduceAdd]
    try simp (disch := omega) only [pk_mul, nI_add, n_lt0, n_le0, n_eq0, n_ge0, n_gt0, n_lt, n_le, n_eq, n_in, n_div, n_rem, n_rem2, n_m1, nI_clamp, bz_0, bz_1, tI_0, tI_bz, n4, n16, eq_self, Nat.reduceLT, Nat.reduceLeDiff, Nat.reduceEqDiff, Nat.reduceAdd, Nat.reduceMul, Nat.reduceDiv, Nat.reduceMod, Nat.le_refl, decide_eq_false_iff_not, Classical.not_not, true_and, and_true, false_and, and_false, not_true_eq_false, not_false_eq_true, forall_const, true_implies, false_implies, implies_true, ne_eq]
    refine k_ownTable hT hl (by omega) (fun h1 o1 t1 => ?_)
    have htl := own_lt L l (b / 4) σ
    generalize own L l (b / 4) σ = q at hp t1 htl ⊢
    obtain ⟨t, σ1⟩ := q
    dsimp only at hp t1 htl ⊢
    have J4 : ∀ (h2 : mH) (σ2 : Sg), OT h h2 → TR h2 L σ2 → (∀ h', OT h h' → TR h' L (addc L (dof σ.1 l b) (-1) σ2) → p h') → EX (Kd sL (d + 3)) sL md_X2_giveUpBlock (pU p) 4 [some (.inr (.inr (.inr 2))), some (.inl (nI l)), some (.inl (nI b)), some (.inl (nI (dof σ.1 l b))), some (.inl (nI t))] [] h2 := by
      intro h2 σ2 o2 t2 hp
      refine EX.go (Kd_mono _ _) [false, false, false, false, false] 40 4 ?_
      dsimp only [wpc_s, wsl_t, wsl_f, gD_0, gD_s, ↓denB_n, pI_s, pG_s, pU_n, cb_X2_giveUpBlock_0, cb_X2_giveUpBlock_1, cb_X2_giveUpBlock_2, cb_X2_giveUpBlock_3, cb_X2_giveUpBlock_4, ↓ev_aload_n_0, ↓ev_getf_2_0, ↓ev_iload_n_1, ↓ev_iload_n_2, ↓ev_callv_3_0_1, ↓ev_callv_3_1_1, ↓ev_callv_3_2_1, ↓ev_callv_3_3_1, ↓ev_callv_3_4_1, ↓ev_callv_3_5_1, ↓ev_istore_n_3, ↓ev_iload_n_3, ↓ev_if_ne, ↓ev_ret, ↓ev_iconst_4, ↓ev_idiv, ↓ev_istore_4, ↓ev_callv_1_0_1, ↓ev_callv_1_1_1, ↓ev_callv_1_2_1, ↓ev_callv_1_3_1, ↓ev_callv_1_4_1, ↓ev_if_eq, ↓ev_getf_0_0, ↓ev_iload_4, ↓ev_imul, ↓ev_irem, ↓ev_iadd, ↓ev_iconst_0, ↓ev_iast_m1, ↓ev_iast_m2, ↓ev_iast_m3, ↓ev_iast_m4, ↓ev_iast_m5, ↓ev_iast_m6, ↓ev_iast_o3, ↓ev_iconst_m1, ↓ev_callv_3_0_0, ↓ev_callv_3_1_0, ↓ev_callv_3_2_0, ↓ev_callv_3_3_0, ↓ev_callv_3_4_0, Nat.reduceAdd]
      exact k_addToCount t2 hdl (fun h3 o3 t3 => hp h3 (o2.tr o3) t3)
    refine k_step t1 (fun h3 o3 t3 hn => ?_) (fun h3 o3 z0 z1 t3 => ?_)
    · rw [gt_no hn] at hp
      exact ⟨fun _ => J4 h3 _ (o1.tr o3) t3 hp, fun c2 => absurd rfl c2⟩
    · rw [gt_yes z0 z1] at hp
      refine ⟨fun c2 => absurd c2 (by decide), fun _ => ?_⟩
      try simp (disch := omega) only [pk_mul, nI_add, n_lt0, n_le0, n_eq0, n_ge0, n_gt0, n_lt, n_le, n_eq, n_in, n_div, n_rem, n_rem2, n_m1, nI_clamp, bz_0, bz_1, tI_0, tI_bz, n4, n16, eq_self, Nat.reduceLT, Nat.reduceLeDiff, Nat.reduceEqDiff, Nat.reduceAdd, Nat.reduceMul, Nat.reduceDiv, Nat.reduceMod, Nat.le_refl, decide_eq_false_iff_not, Classical.not_not, true_and, and_true, false_and, and_false, not_true_eq_false, not_false_eq_true, forall_const, true_implies, false_implies, implies_true, ne_eq]
      refine ⟨by omega, J4 _ _ (o1.tr (o3.tr (OT.oi Oi.up))) ?_ hp⟩
      rw [show t * 4 + b % 4 = 4 * t + b % 4 by omega]
      exact t3.img Oi.up (t3.1.cel1 (by omega) _)
  · rw [if_pos c] at hp
    exact hp h OT.rf hT
end DE2
