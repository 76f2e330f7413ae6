/-! ===== the reference: what it counts ===== -/
def h23 (h : mH) (f g : Nat → Int32) : mH := hpt (hpt h (.inr 12) f) (.inr 13) g
theorem a_12 {h : mH} {f g : Nat → Int32} : h23 h f g (.inr 12) = f := by
  unfold h23
  rw [hpt_ne (by simp), hpt_self]
theorem a_13 {h : mH} {f g : Nat → Int32} : h23 h f g (.inr 13) = g := hpt_self
theorem a_8 {h : mH} {f g : Nat → Int32} : h23 h f g (.inr 8) = h (.inr 8) := by
  unfold h23
  rw [hpt_ne (by simp), hpt_ne (by simp)]
theorem a_o {h : mH} {f g : Nat → Int32} {r : mRef} (h1 : r ≠ .inr 12) (h2 : r ≠ .inr 13) : h23 h f g r = h r := by
  unfold h23
  rw [hpt_ne h2, hpt_ne h1]
theorem u_13 {h : mH} {f g : Nat → Int32} {k : Nat} {v : Int32} : hup (h23 h f g) (.inr 13) k v = h23 h f (upd g k v) := hup_hpt
theorem u_12 {h : mH} {f g : Nat → Int32} {k : Nat} {v : Int32} : hup (h23 h f g) (.inr 12) k v = h23 h (upd f k v) g := by
  funext r j
  by_cases q : r = .inr 12
  · subst q
    rw [a_12, hup_self, a_12]
  · rw [hup_other q]
    unfold h23
    by_cases q2 : r = .inr 13
    · subst q2
      rw [hpt_self, hpt_self]
    · rw [hpt_ne q2, hpt_ne q2, hpt_ne q, hpt_ne q]
theorem h23_eta {h : mH} : h23 h (h (.inr 12)) (h (.inr 13)) = h := by
  unfold h23
  rw [hpt_eta]
  have e : h (.inr 13) = hpt h (.inr 12) (h (.inr 12)) (.inr 13) := by rw [hpt_eta]
  rw [hpt_eta]
theorem RS.a {h : mH} {S : St} {f g : Nat → Int32} (hS : RS h S) : RS (h23 h f g) S := fun j hj => by rw [a_8]; exact hS j hj
section REC
variable {sL d : Nat} {h : mH} {S : St} {p : Int32 → mH → Prop}
theorem tb_ab {dd k : Nat} (h : prs S dd = false) : tb S dd k = 0 := by
  unfold tb
  rw [h]
  rfl
theorem s_ab {dd c : Nat} (h : prs S dd = false) (hc : 1 ≤ c) : ∀ n, fb_sm (fun j => icn (tb S dd j) c) n = 0
  | 0 => rfl
  | n + 1 => by rw [fb_sm_succ, s_ab h hc n, tb_ab h, icn_n (by omega)]
theorem r_reckons {q : mH → Prop} (hS : RS h S) (hw : WF S) (hp : ∀ f g : Nat → Int32, (∀ c, 1 ≤ c → c < 64 → f c = nI (tru S c)) → (∀ c, 1 ≤ c → c < 64 → g c = nI (nmc S c)) → q (h23 h f g)) : mU (Kd sL (d + 3)) 119 [.inr (.inr (.inr 7))] h q := by
  refine ke_X4_reckons ?_
  refine EX.go (Kd_mono _ _) [false, true, false, false, true, false, true, false, false, false, false, true, false, false, false, true, false, false, false, true, false, false] 40 0 ?_
  dsimp only [wpc_s, wsl_t, wsl_f, gD_0, gD_s, ↓denB_n, pI_s, pG_s, pU_n, cb_X4_reckons_0, cb_X4_reckons_1, cb_X4_reckons_2, cb_X4_reckons_3, cb_X4_reckons_4, cb_X4_reckons_5, cb_X4_reckons_6, cb_X4_reckons_7, cb_X4_reckons_8, cb_X4_reckons_9, cb_X4_reckons_10, cb_X4_reckons_11, cb_X4_reckons_12, cb_X4_reckons_13, cb_X4_reckons_14, cb_X4_reckons_15, cb_X4_reckons_16, cb_X4_reckons_17, cb_X4_reckons_18, cb_X4_reckons_19, cb_X4_reckons_20, cb_X4_reckons_21, ↓ev_iconst_0, ↓ev_istore_n_1, ↓ev_iload_n_1, ↓ev_bipush_64, ↓ev_icmp_ge, ↓ev_aload_n_0, ↓ev_getf_4_5, ↓ev_iast_o8, ↓ev_iast_o9, ↓ev_iast_o10, ↓ev_iast_o11, ↓ev_iast_o12, ↓ev_iast_o13, ↓ev_iast_o14, ↓ev_iast_o15, ↓ev_iast_o16, ↓ev_getf_4_6, ↓ev_iinc_1_1, ↓ev_goto, ↓ev_bipush_14, ↓ev_istore_n_2, ↓ev_iload_n_2, ↓ev_iconst_4, ↓ev_callv_2_0_1, ↓ev_callv_2_1_1, ↓ev_callv_2_2_1, ↓ev_callv_2_3_1, ↓ev_callv_2_4_1, ↓ev_if_eq, ↓ev_getf_4_0, ↓ev_calls_2_0_1, ↓ev_calls_2_1_1, ↓ev_calls_2_2_1, ↓ev_calls_2_3_1, ↓ev_calls_2_4_1, ↓ev_iald_o8, ↓ev_iald_o9, ↓ev_iald_o10, ↓ev_iald_o11, ↓ev_iald_o12, ↓ev_iald_o13, ↓ev_iald_o14, ↓ev_iald_o15, ↓ev_iald_o16, ↓ev_dup2, ↓ev_iconst_1, ↓ev_iadd, ↓ev_iinc_2_1, ↓ev_if_ne, ↓ev_imul, ↓ev_ret, Nat.reduceAdd]
  -- the last loop
  have J19 : ∀ (f k : Nat) (F G : Nat → Int32) (o : Option mV), k + f = 64 → (∀ c, 1 ≤ c → c < 64 → F c = nI (rfc S c + if c < k then nmc S c else 0)) → (∀ c, 1 ≤ c → c < 64 → G c = nI (nmc S c)) → EX (Kd sL (d + 2)) sL md_X4_reckons (pU q) 19 [some (.inr (.inr (.inr 7))), some (.inl (nI k)), o] [] (h23 h F G) := by
    intro f
    induction f with
    | zero =>
      intro k F G o hk hF hG
      refine EX.go (Kd_mono _ _) [false, true, false, false, true, false, true, false, false, false, false, true, false, false, false, true, false, false, false, true, false, false] 40 19 ?_
      dsimp only [wpc_s, wsl_t, wsl_f, gD_0, gD_s, ↓denB_n, pI_s, pG_s, pU_n, cb_X4_reckons_0, cb_X4_reckons_1, cb_X4_reckons_2, cb_X4_reckons_3, cb_X4_reckons_4, cb_X4_reckons_5, cb_X4_reckons_6, cb_X4_reckons_7, cb_X4_reckons_8, cb_X4_reckons_9, cb_X4_reckons_10, cb_X4_reckons_11, cb_X4_reckons_12, cb_X4_reckons_13, cb_X4_reckons_14, cb_X4_reckons_15, cb_X4_reckons_16, cb_X4_reckons_17, cb_X4_reckons_18, cb_X4_reckons_19, cb_X4_reckons_20, cb_X4_reckons_21, ↓ev_iconst_0, ↓ev_istore_n_1, ↓ev_iload_n_1, ↓ev_bipush_64, ↓ev_icmp_ge, ↓ev_aload_n_0, ↓ev_getf_4_5, ↓ev_iast_o8, ↓ev_iast_o9, ↓ev_iast_o10, ↓ev_iast_o11, ↓ev_iast_o12, ↓ev_iast_o13, ↓ev_iast_o14, ↓ev_iast_o15, ↓ev_iast_o16, ↓ev_getf_4_6, ↓ev_iinc_1_1, ↓ev_goto, ↓ev_bipush_14, ↓ev_istore_n_2, ↓ev_iload_n_2, ↓ev_iconst_4, ↓ev_callv_2_0_1, ↓ev_callv_2_1_1, ↓ev_callv_2_2_1, ↓ev_callv_2_3_1, ↓ev_callv_2_4_1, ↓ev_if_eq, ↓ev_getf_4_0, ↓ev_calls_2_0_1, ↓ev_calls_2_1_1, ↓ev_calls_2_2_1, ↓ev_calls_2_3_1, ↓ev_calls_2_4_1, ↓ev_iald_o8, ↓ev_iald_o9, ↓ev_iald_o10, ↓ev_iald_o11, ↓ev_iald_o12, ↓ev_iald_o13, ↓ev_iald_o14, ↓ev_iald_o15, ↓ev_iald_o16, ↓ev_dup2, ↓ev_iconst_1, ↓ev_iadd, ↓ev_iinc_2_1, ↓ev_if_ne, ↓ev_imul, ↓ev_ret, Nat.reduceAdd]
      try simp (disch := omega) only [pk_mul, nI_add, n_lt0, n_le0, n_eq0, n_ge0, n_gt0, n_lt, n_le, n_eq, n_in, n_div, n_rem, n_rem2, n_m1, nI_clamp, bz_0, bz_1, tI_0, tI_bz, n4, n16, eq_self, Nat.reduceLT, Nat.reduceLeDiff, Nat.reduceEqDiff, Nat.reduceAdd, Nat.reduceMul, Nat.reduceDiv, Nat.reduceMod, Nat.le_refl, decide_eq_false_iff_not, Classical.not_not, true_and, and_true, false_and, and_false, not_true_eq_false, not_false_eq_true, forall_const, true_implies, false_implies, implies_true, ne_eq, u_12, u_13]
      refine ⟨fun _ => hp _ _ (fun c h1 h2 => ?_) (fun c h1 h2 => ?_), fun c => absurd (show 64 ≤ k by omega) c⟩
      · rw [pk_un (by omega), hF c h1 h2, if_pos (by omega)]
        rfl
      · rw [pk_un (by omega), hG c h1 h2]
    | succ f ih =>
      intro k F G o hk hF hG
      refine EX.go (Kd_mono _ _) [false, true, false, false, true, false, true, false, false, false, false, true, false, false, false, true, false, false, false, true, false, false] 40 19 ?_
      dsimp only [wpc_s, wsl_t, wsl_f, gD_0, gD_s, ↓denB_n, pI_s, pG_s, pU_n, cb_X4_reckons_0, cb_X4_reckons_1, cb_X4_reckons_2, cb_X4_reckons_3, cb_X4_reckons_4, cb_X4_reckons_5, cb_X4_reckons_6, cb_X4_reckons_7, cb_X4_reckons_8, cb_X4_reckons_9, cb_X4_reckons_10, cb_X4_reckons_11, cb_X4_reckons_12, cb_X4_reckons_13, cb_X4_reckons_14, cb_X4_reckons_15, cb_X4_reckons_16, cb_X4_reckons_17, cb_X4_reckons_18, cb_X4_reckons_19, cb_X4_reckons_20, cb_X4_reckons_21, ↓ev_iconst_0, ↓ev_istore_n_1, ↓ev_iload_n_1, ↓ev_bipush_64, ↓ev_icmp_ge, ↓ev_aload_n_0, ↓ev_getf_4_5, ↓ev_iast_o8, ↓ev_iast_o9, ↓ev_iast_o10, ↓ev_iast_o11, ↓ev_iast_o12, ↓ev_iast_o13, ↓ev_iast_o14, ↓ev_iast_o15, ↓ev_iast_o16, ↓ev_getf_4_6, ↓ev_iinc_1_1, ↓ev_goto, ↓ev_bipush_14, ↓ev_istore_n_2, ↓ev_iload_n_2, ↓ev_iconst_4, ↓ev_callv_2_0_1, ↓ev_callv_2_1_1, ↓ev_callv_2_2_1, ↓ev_callv_2_3_1, ↓ev_callv_2_4_1, ↓ev_if_eq, ↓ev_getf_4_0, ↓ev_calls_2_0_1, ↓ev_calls_2_1_1, ↓ev_calls_2_2_1, ↓ev_calls_2_3_1, ↓ev_calls_2_4_1, ↓ev_iald_o8, ↓ev_iald_o9, ↓ev_iald_o10, ↓ev_iald_o11, ↓ev_iald_o12, ↓ev_iald_o13, ↓ev_iald_o14, ↓ev_iald_o15, ↓ev_iald_o16, ↓ev_dup2, ↓ev_iconst_1, ↓ev_iadd, ↓ev_iinc_2_1, ↓ev_if_ne, ↓ev_imul, ↓ev_ret, Nat.reduceAdd]
      try simp (disch := omega) only [pk_mul, nI_add, n_lt0, n_le0, n_eq0, n_ge0, n_gt0, n_lt, n_le, n_eq, n_in, n_div, n_rem, n_rem2, n_m1, nI_clamp, bz_0, bz_1, tI_0, tI_bz, n4, n16, eq_self, Nat.reduceLT, Nat.reduceLeDiff, Nat.reduceEqDiff, Nat.reduceAdd, Nat.reduceMul, Nat.reduceDiv, Nat.reduceMod, Nat.le_refl, decide_eq_false_iff_not, Classical.not_not, true_and, and_true, false_and, and_false, not_true_eq_false, not_false_eq_true, forall_const, true_implies, false_implies, implies_true, ne_eq, u_12, u_13, a_12, a_13]
      refine ⟨fun c => absurd c (by omega), fun _ => ⟨by omega, by omega, by omega, ih (k + 1) _ _ _ (by omega) (fun c h1 h2 => ?_) hG⟩⟩
      by_cases e : c = k
      · subst e
        rw [pk_us, hF c h1 h2, hG c h1 h2, nI_add, if_neg (by omega), if_pos (by omega), Nat.add_zero]
      · rw [pk_un e, hF c h1 h2]
        by_cases e2 : c < k
        · rw [if_pos e2, if_pos (by omega)]
        · rw [if_neg e2, if_neg (by omega)]
  have J11 : ∀ (f k : Nat) (F G : Nat → Int32) (o : Option mV), k + f = 64 → 1 ≤ k → (∀ c, 1 ≤ c → c < 64 → F c = nI (rfc S c)) → (∀ c, 1 ≤ c → c < 64 → G c = nI (fb_sm (fun t => if dec (isT S 0 14 t) then cn4 S t c else 0) k)) → EX (Kd sL (d + 2)) sL md_X4_reckons (pU q) 11 [some (.inr (.inr (.inr 7))), some (.inl (nI k)), o] [] (h23 h F G) := by
    intro f
    induction f with
    | zero =>
      intro k F G o hk h1 hF hG
      refine EX.go (Kd_mono _ _) [false, true, false, false, true, false, true, false, false, false, false, true, false, false, false, true, false, false, false, true, false, false] 40 11 ?_
      dsimp only [wpc_s, wsl_t, wsl_f, gD_0, gD_s, ↓denB_n, pI_s, pG_s, pU_n, cb_X4_reckons_0, cb_X4_reckons_1, cb_X4_reckons_2, cb_X4_reckons_3, cb_X4_reckons_4, cb_X4_reckons_5, cb_X4_reckons_6, cb_X4_reckons_7, cb_X4_reckons_8, cb_X4_reckons_9, cb_X4_reckons_10, cb_X4_reckons_11, cb_X4_reckons_12, cb_X4_reckons_13, cb_X4_reckons_14, cb_X4_reckons_15, cb_X4_reckons_16, cb_X4_reckons_17, cb_X4_reckons_18, cb_X4_reckons_19, cb_X4_reckons_20, cb_X4_reckons_21, ↓ev_iconst_0, ↓ev_istore_n_1, ↓ev_iload_n_1, ↓ev_bipush_64, ↓ev_icmp_ge, ↓ev_aload_n_0, ↓ev_getf_4_5, ↓ev_iast_o8, ↓ev_iast_o9, ↓ev_iast_o10, ↓ev_iast_o11, ↓ev_iast_o12, ↓ev_iast_o13, ↓ev_iast_o14, ↓ev_iast_o15, ↓ev_iast_o16, ↓ev_getf_4_6, ↓ev_iinc_1_1, ↓ev_goto, ↓ev_bipush_14, ↓ev_istore_n_2, ↓ev_iload_n_2, ↓ev_iconst_4, ↓ev_callv_2_0_1, ↓ev_callv_2_1_1, ↓ev_callv_2_2_1, ↓ev_callv_2_3_1, ↓ev_callv_2_4_1, ↓ev_if_eq, ↓ev_getf_4_0, ↓ev_calls_2_0_1, ↓ev_calls_2_1_1, ↓ev_calls_2_2_1, ↓ev_calls_2_3_1, ↓ev_calls_2_4_1, ↓ev_iald_o8, ↓ev_iald_o9, ↓ev_iald_o10, ↓ev_iald_o11, ↓ev_iald_o12, ↓ev_iald_o13, ↓ev_iald_o14, ↓ev_iald_o15, ↓ev_iald_o16, ↓ev_dup2, ↓ev_iconst_1, ↓ev_iadd, ↓ev_iinc_2_1, ↓ev_if_ne, ↓ev_imul, ↓ev_ret, Nat.reduceAdd]
      try simp (disch := omega) only [pk_mul, nI_add, n_lt0, n_le0, n_eq0, n_ge0, n_gt0, n_lt, n_le, n_eq, n_in, n_div, n_rem, n_rem2, n_m1, nI_clamp, bz_0, bz_1, tI_0, tI_bz, n4, n16, eq_self, Nat.reduceLT, Nat.reduceLeDiff, Nat.reduceEqDiff, Nat.reduceAdd, Nat.reduceMul, Nat.reduceDiv, Nat.reduceMod, Nat.le_refl, decide_eq_false_iff_not, Classical.not_not, true_and, and_true, false_and, and_false, not_true_eq_false, not_false_eq_true, forall_const, true_implies, false_implies, implies_true, ne_eq]
      refine ⟨fun _ => J19 64 0 F G _ rfl (fun c h1 h2 => ?_) (fun c h1 h2 => ?_), fun c => absurd (show 64 ≤ k by omega) c⟩
      · rw [hF c h1 h2, if_neg (by omega), Nat.add_zero]
      · rw [hG c h1 h2, show k = 64 by omega]
        rfl
    | succ f ih =>
      intro k F G o hk h1 hF hG
      refine EX.go (Kd_mono _ _) [false, true, false, false, true, false, true, false, false, false, false, true, false, false, false, true, false, false, false, true, false, false] 40 11 ?_
      dsimp only [wpc_s, wsl_t, wsl_f, gD_0, gD_s, ↓denB_n, pI_s, pG_s, pU_n, cb_X4_reckons_0, cb_X4_reckons_1, cb_X4_reckons_2, cb_X4_reckons_3, cb_X4_reckons_4, cb_X4_reckons_5, cb_X4_reckons_6, cb_X4_reckons_7, cb_X4_reckons_8, cb_X4_reckons_9, cb_X4_reckons_10, cb_X4_reckons_11, cb_X4_reckons_12, cb_X4_reckons_13, cb_X4_reckons_14, cb_X4_reckons_15, cb_X4_reckons_16, cb_X4_reckons_17, cb_X4_reckons_18, cb_X4_reckons_19, cb_X4_reckons_20, cb_X4_reckons_21, ↓ev_iconst_0, ↓ev_istore_n_1, ↓ev_iload_n_1, ↓ev_bipush_64, ↓ev_icmp_ge, ↓ev_aload_n_0, ↓ev_getf_4_5, ↓ev_iast_o8, ↓ev_iast_o9, ↓ev_iast_o10, ↓ev_iast_o11, ↓ev_iast_o12, ↓ev_iast_o13, ↓ev_iast_o14, ↓ev_iast_o15, ↓ev_iast_o16, ↓ev_getf_4_6, ↓ev_iinc_1_1, ↓ev_goto, ↓ev_bipush_14, ↓ev_istore_n_2, ↓ev_iload_n_2, ↓ev_iconst_4, ↓ev_callv_2_0_1, ↓ev_callv_2_1_1, ↓ev_callv_2_2_1, ↓ev_callv_2_3_1, ↓ev_callv_2_4_1, ↓ev_if_eq, ↓ev_getf_4_0, ↓ev_calls_2_0_1, ↓ev_calls_2_1_1, ↓ev_calls_2_2_1, ↓ev_calls_2_3_1, ↓ev_calls_2_4_1, ↓ev_iald_o8, ↓ev_iald_o9, ↓ev_iald_o10, ↓ev_iald_o11, ↓ev_iald_o12, ↓ev_iald_o13, ↓ev_iald_o14, ↓ev_iald_o15, ↓ev_iald_o16, ↓ev_dup2, ↓ev_iconst_1, ↓ev_iadd, ↓ev_iinc_2_1, ↓ev_if_ne, ↓ev_imul, ↓ev_ret, Nat.reduceAdd]
      try simp (disch := omega) only [pk_mul, nI_add, n_lt0, n_le0, n_eq0, n_ge0, n_gt0, n_lt, n_le, n_eq, n_in, n_div, n_rem, n_rem2, n_m1, nI_clamp, bz_0, bz_1, tI_0, tI_bz, n4, n16, eq_self, Nat.reduceLT, Nat.reduceLeDiff, Nat.reduceEqDiff, Nat.reduceAdd, Nat.reduceMul, Nat.reduceDiv, Nat.reduceMod, Nat.le_refl, decide_eq_false_iff_not, Classical.not_not, true_and, and_true, false_and, and_false, not_true_eq_false, not_false_eq_true, forall_const, true_implies, false_implies, implies_true, ne_eq]
      refine ⟨fun c => absurd c (by omega), fun _ => ?_⟩
      refine r_isTable hS.a hw h1 (by omega) ?_
      try simp (disch := omega) only [pk_mul, nI_add, n_lt0, n_le0, n_eq0, n_ge0, n_gt0, n_lt, n_le, n_eq, n_in, n_div, n_rem, n_rem2, n_m1, nI_clamp, bz_0, bz_1, tI_0, tI_bz, n4, n16, eq_self, Nat.reduceLT, Nat.reduceLeDiff, Nat.reduceEqDiff, Nat.reduceAdd, Nat.reduceMul, Nat.reduceDiv, Nat.reduceMod, Nat.le_refl, decide_eq_false_iff_not, Classical.not_not, true_and, and_true, false_and, and_false, not_true_eq_false, not_false_eq_true, forall_const, true_implies, false_implies, implies_true, ne_eq]
      refine ⟨fun c => ?_, fun c => ?_⟩
      · have hPk : dec (isT S 0 14 k) = true := by simpa using c
        have hnam : nam S k := by rw [dec_t] at hPk; exact hPk
        suffices H2 : ∀ (f2 k2 : Nat) (G : Nat → Int32), k2 + f2 = 4 → (∀ c, 1 ≤ c → c < 64 → G c = nI (fb_sm (fun t => if dec (isT S 0 14 t) then cn4 S t c else 0) k + fb_sm (fun j => icn (dt S k j) c) k2)) → EX (Kd sL (d + 2)) sL md_X4_reckons (pU q) 15 [some (.inr (.inr (.inr 7))), some (.inl (nI k)), some (.inl (nI k2))] [] (h23 h F G) by
          refine H2 4 0 G rfl (fun c h1 h2 => ?_)
          rw [hG c h1 h2]
          rfl
        intro f2
        induction f2 with
        | zero =>
          intro k2 G hk2 hG
          refine EX.go (Kd_mono _ _) [false, true, false, false, true, false, true, false, false, false, false, true, false, false, false, true, false, false, false, true, false, false] 40 15 ?_
          dsimp only [wpc_s, wsl_t, wsl_f, gD_0, gD_s, ↓denB_n, pI_s, pG_s, pU_n, cb_X4_reckons_0, cb_X4_reckons_1, cb_X4_reckons_2, cb_X4_reckons_3, cb_X4_reckons_4, cb_X4_reckons_5, cb_X4_reckons_6, cb_X4_reckons_7, cb_X4_reckons_8, cb_X4_reckons_9, cb_X4_reckons_10, cb_X4_reckons_11, cb_X4_reckons_12, cb_X4_reckons_13, cb_X4_reckons_14, cb_X4_reckons_15, cb_X4_reckons_16, cb_X4_reckons_17, cb_X4_reckons_18, cb_X4_reckons_19, cb_X4_reckons_20, cb_X4_reckons_21, ↓ev_iconst_0, ↓ev_istore_n_1, ↓ev_iload_n_1, ↓ev_bipush_64, ↓ev_icmp_ge, ↓ev_aload_n_0, ↓ev_getf_4_5, ↓ev_iast_o8, ↓ev_iast_o9, ↓ev_iast_o10, ↓ev_iast_o11, ↓ev_iast_o12, ↓ev_iast_o13, ↓ev_iast_o14, ↓ev_iast_o15, ↓ev_iast_o16, ↓ev_getf_4_6, ↓ev_iinc_1_1, ↓ev_goto, ↓ev_bipush_14, ↓ev_istore_n_2, ↓ev_iload_n_2, ↓ev_iconst_4, ↓ev_callv_2_0_1, ↓ev_callv_2_1_1, ↓ev_callv_2_2_1, ↓ev_callv_2_3_1, ↓ev_callv_2_4_1, ↓ev_if_eq, ↓ev_getf_4_0, ↓ev_calls_2_0_1, ↓ev_calls_2_1_1, ↓ev_calls_2_2_1, ↓ev_calls_2_3_1, ↓ev_calls_2_4_1, ↓ev_iald_o8, ↓ev_iald_o9, ↓ev_iald_o10, ↓ev_iald_o11, ↓ev_iald_o12, ↓ev_iald_o13, ↓ev_iald_o14, ↓ev_iald_o15, ↓ev_iald_o16, ↓ev_dup2, ↓ev_iconst_1, ↓ev_iadd, ↓ev_iinc_2_1, ↓ev_if_ne, ↓ev_imul, ↓ev_ret, Nat.reduceAdd]
          try simp (disch := omega) only [pk_mul, nI_add, n_lt0, n_le0, n_eq0, n_ge0, n_gt0, n_lt, n_le, n_eq, n_in, n_div, n_rem, n_rem2, n_m1, nI_clamp, bz_0, bz_1, tI_0, tI_bz, n4, n16, eq_self, Nat.reduceLT, Nat.reduceLeDiff, Nat.reduceEqDiff, Nat.reduceAdd, Nat.reduceMul, Nat.reduceDiv, Nat.reduceMod, Nat.le_refl, decide_eq_false_iff_not, Classical.not_not, true_and, and_true, false_and, and_false, not_true_eq_false, not_false_eq_true, forall_const, true_implies, false_implies, implies_true, ne_eq]
          refine ⟨fun _ => ih (k + 1) F G _ (by omega) (by omega) hF (fun c h1 h2 => ?_), fun c => absurd (show 4 ≤ k2 by omega) c⟩
          rw [hG c h1 h2, fb_sm_succ, hPk, show k2 = 4 by omega]
          rfl
        | succ f2 ih2 =>
          intro k2 G hk2 hG
          refine EX.go (Kd_mono _ _) [false, true, false, false, true, false, true, false, false, false, false, true, false, false, false, true, false, false, false, true, false, false] 40 15 ?_
          dsimp only [wpc_s, wsl_t, wsl_f, gD_0, gD_s, ↓denB_n, pI_s, pG_s, pU_n, cb_X4_reckons_0, cb_X4_reckons_1, cb_X4_reckons_2, cb_X4_reckons_3, cb_X4_reckons_4, cb_X4_reckons_5, cb_X4_reckons_6, cb_X4_reckons_7, cb_X4_reckons_8, cb_X4_reckons_9, cb_X4_reckons_10, cb_X4_reckons_11, cb_X4_reckons_12, cb_X4_reckons_13, cb_X4_reckons_14, cb_X4_reckons_15, cb_X4_reckons_16, cb_X4_reckons_17, cb_X4_reckons_18, cb_X4_reckons_19, cb_X4_reckons_20, cb_X4_reckons_21, ↓ev_iconst_0, ↓ev_istore_n_1, ↓ev_iload_n_1, ↓ev_bipush_64, ↓ev_icmp_ge, ↓ev_aload_n_0, ↓ev_getf_4_5, ↓ev_iast_o8, ↓ev_iast_o9, ↓ev_iast_o10, ↓ev_iast_o11, ↓ev_iast_o12, ↓ev_iast_o13, ↓ev_iast_o14, ↓ev_iast_o15, ↓ev_iast_o16, ↓ev_getf_4_6, ↓ev_iinc_1_1, ↓ev_goto, ↓ev_bipush_14, ↓ev_istore_n_2, ↓ev_iload_n_2, ↓ev_iconst_4, ↓ev_callv_2_0_1, ↓ev_callv_2_1_1, ↓ev_callv_2_2_1, ↓ev_callv_2_3_1, ↓ev_callv_2_4_1, ↓ev_if_eq, ↓ev_getf_4_0, ↓ev_calls_2_0_1, ↓ev_calls_2_1_1, ↓ev_calls_2_2_1, ↓ev_calls_2_3_1, ↓ev_calls_2_4_1, ↓ev_iald_o8, ↓ev_iald_o9, ↓ev_iald_o10, ↓ev_iald_o11, ↓ev_iald_o12, ↓ev_iald_o13, ↓ev_iald_o14, ↓ev_iald_o15, ↓ev_iald_o16, ↓ev_dup2, ↓ev_iconst_1, ↓ev_iadd, ↓ev_iinc_2_1, ↓ev_if_ne, ↓ev_imul, ↓ev_ret, Nat.reduceAdd]
          have hdl := dt_lt S k k2
          have e : h (.inr 8) (64 + 4 * k + k2) = nI (dt S k k2) := by rw [hS _ (by omega), hw.cd (Or.inr hnam) (by omega)]
          try simp (disch := omega) only [pk_mul, nI_add, n_lt0, n_le0, n_eq0, n_ge0, n_gt0, n_lt, n_le, n_eq, n_in, n_div, n_rem, n_rem2, n_m1, nI_clamp, bz_0, bz_1, tI_0, tI_bz, n4, n16, eq_self, Nat.reduceLT, Nat.reduceLeDiff, Nat.reduceEqDiff, Nat.reduceAdd, Nat.reduceMul, Nat.reduceDiv, Nat.reduceMod, Nat.le_refl, decide_eq_false_iff_not, Classical.not_not, true_and, and_true, false_and, and_false, not_true_eq_false, not_false_eq_true, forall_const, true_implies, false_implies, implies_true, ne_eq, a_8, a_13, u_13, e]
          refine ⟨fun c => absurd c (by omega), fun _ => ⟨by omega, by omega, by omega, ih2 (k2 + 1) _ (by omega) (fun c h1 h2 => ?_)⟩⟩
          rw [upd_icn hG c h1 h2]
          simp only [fb_sm_succ, Nat.add_assoc]
      · refine ih (k + 1) F G _ (by omega) (by omega) hF (fun e h1 h2 => ?_)
        rw [hG e h1 h2, fb_sm_succ, c]
        rfl
  have J4 : ∀ (f k : Nat) (F G : Nat → Int32) (o : Option mV), k + f = 14 → (∀ c, 1 ≤ c → c < 64 → F c = nI (fb_sm (fun dd => rf4 S dd c) k)) → (∀ c, 1 ≤ c → c < 64 → G c = nI 0) → EX (Kd sL (d + 2)) sL md_X4_reckons (pU q) 4 [some (.inr (.inr (.inr 7))), some (.inl (nI k)), o] [] (h23 h F G) := by
    intro f
    induction f with
    | zero =>
      intro k F G o hk hF hG
      refine EX.go (Kd_mono _ _) [false, true, false, false, true, false, true, false, false, false, false, true, false, false, false, true, false, false, false, true, false, false] 40 4 ?_
      dsimp only [wpc_s, wsl_t, wsl_f, gD_0, gD_s, ↓denB_n, pI_s, pG_s, pU_n, cb_X4_reckons_0, cb_X4_reckons_1, cb_X4_reckons_2, cb_X4_reckons_3, cb_X4_reckons_4, cb_X4_reckons_5, cb_X4_reckons_6, cb_X4_reckons_7, cb_X4_reckons_8, cb_X4_reckons_9, cb_X4_reckons_10, cb_X4_reckons_11, cb_X4_reckons_12, cb_X4_reckons_13, cb_X4_reckons_14, cb_X4_reckons_15, cb_X4_reckons_16, cb_X4_reckons_17, cb_X4_reckons_18, cb_X4_reckons_19, cb_X4_reckons_20, cb_X4_reckons_21, ↓ev_iconst_0, ↓ev_istore_n_1, ↓ev_iload_n_1, ↓ev_bipush_64, ↓ev_icmp_ge, ↓ev_aload_n_0, ↓ev_getf_4_5, ↓ev_iast_o8, ↓ev_iast_o9, ↓ev_iast_o10, ↓ev_iast_o11, ↓ev_iast_o12, ↓ev_iast_o13, ↓ev_iast_o14, ↓ev_iast_o15, ↓ev_iast_o16, ↓ev_getf_4_6, ↓ev_iinc_1_1, ↓ev_goto, ↓ev_bipush_14, ↓ev_istore_n_2, ↓ev_iload_n_2, ↓ev_iconst_4, ↓ev_callv_2_0_1, ↓ev_callv_2_1_1, ↓ev_callv_2_2_1, ↓ev_callv_2_3_1, ↓ev_callv_2_4_1, ↓ev_if_eq, ↓ev_getf_4_0, ↓ev_calls_2_0_1, ↓ev_calls_2_1_1, ↓ev_calls_2_2_1, ↓ev_calls_2_3_1, ↓ev_calls_2_4_1, ↓ev_iald_o8, ↓ev_iald_o9, ↓ev_iald_o10, ↓ev_iald_o11, ↓ev_iald_o12, ↓ev_iald_o13, ↓ev_iald_o14, ↓ev_iald_o15, ↓ev_iald_o16, ↓ev_dup2, ↓ev_iconst_1, ↓ev_iadd, ↓ev_iinc_2_1, ↓ev_if_ne, ↓ev_imul, ↓ev_ret, Nat.reduceAdd]
      try simp (disch := omega) only [pk_mul, nI_add, n_lt0, n_le0, n_eq0, n_ge0, n_gt0, n_lt, n_le, n_eq, n_in, n_div, n_rem, n_rem2, n_m1, nI_clamp, bz_0, bz_1, tI_0, tI_bz, n4, n16, eq_self, Nat.reduceLT, Nat.reduceLeDiff, Nat.reduceEqDiff, Nat.reduceAdd, Nat.reduceMul, Nat.reduceDiv, Nat.reduceMod, Nat.le_refl, decide_eq_false_iff_not, Classical.not_not, true_and, and_true, false_and, and_false, not_true_eq_false, not_false_eq_true, forall_const, true_implies, false_implies, implies_true, ne_eq]
      refine ⟨fun _ => J11 63 1 F G _ rfl (by omega) (fun c h1 h2 => ?_) (fun c h1 h2 => ?_), fun c => absurd (show 14 ≤ k by omega) c⟩
      · rw [hF c h1 h2, show k = 14 by omega]
        rfl
      · rw [hG c h1 h2]
        have e0 : dec (isT S 0 14 0) = false := by rw [dec_f]; exact fun z => z.1 rfl
        simp [fb_sm, e0]
    | succ f ih =>
      intro k F G o hk hF hG
      refine EX.go (Kd_mono _ _) [false, true, false, false, true, false, true, false, false, false, false, true, false, false, false, true, false, false, false, true, false, false] 40 4 ?_
      dsimp only [wpc_s, wsl_t, wsl_f, gD_0, gD_s, ↓denB_n, pI_s, pG_s, pU_n, cb_X4_reckons_0, cb_X4_reckons_1, cb_X4_reckons_2, cb_X4_reckons_3, cb_X4_reckons_4, cb_X4_reckons_5, cb_X4_reckons_6, cb_X4_reckons_7, cb_X4_reckons_8, cb_X4_reckons_9, cb_X4_reckons_10, cb_X4_reckons_11, cb_X4_reckons_12, cb_X4_reckons_13, cb_X4_reckons_14, cb_X4_reckons_15, cb_X4_reckons_16, cb_X4_reckons_17, cb_X4_reckons_18, cb_X4_reckons_19, cb_X4_reckons_20, cb_X4_reckons_21, ↓ev_iconst_0, ↓ev_istore_n_1, ↓ev_iload_n_1, ↓ev_bipush_64, ↓ev_icmp_ge, ↓ev_aload_n_0, ↓ev_getf_4_5, ↓ev_iast_o8, ↓ev_iast_o9, ↓ev_iast_o10, ↓ev_iast_o11, ↓ev_iast_o12, ↓ev_iast_o13, ↓ev_iast_o14, ↓ev_iast_o15, ↓ev_iast_o16, ↓ev_getf_4_6, ↓ev_iinc_1_1, ↓ev_goto, ↓ev_bipush_14, ↓ev_istore_n_2, ↓ev_iload_n_2, ↓ev_iconst_4, ↓ev_callv_2_0_1, ↓ev_callv_2_1_1, ↓ev_callv_2_2_1, ↓ev_callv_2_3_1, ↓ev_callv_2_4_1, ↓ev_if_eq, ↓ev_getf_4_0, ↓ev_calls_2_0_1, ↓ev_calls_2_1_1, ↓ev_calls_2_2_1, ↓ev_calls_2_3_1, ↓ev_calls_2_4_1, ↓ev_iald_o8, ↓ev_iald_o9, ↓ev_iald_o10, ↓ev_iald_o11, ↓ev_iald_o12, ↓ev_iald_o13, ↓ev_iald_o14, ↓ev_iald_o15, ↓ev_iald_o16, ↓ev_dup2, ↓ev_iconst_1, ↓ev_iadd, ↓ev_iinc_2_1, ↓ev_if_ne, ↓ev_imul, ↓ev_ret, Nat.reduceAdd]
      try simp (disch := omega) only [pk_mul, nI_add, n_lt0, n_le0, n_eq0, n_ge0, n_gt0, n_lt, n_le, n_eq, n_in, n_div, n_rem, n_rem2, n_m1, nI_clamp, bz_0, bz_1, tI_0, tI_bz, n4, n16, eq_self, Nat.reduceLT, Nat.reduceLeDiff, Nat.reduceEqDiff, Nat.reduceAdd, Nat.reduceMul, Nat.reduceDiv, Nat.reduceMod, Nat.le_refl, decide_eq_false_iff_not, Classical.not_not, true_and, and_true, false_and, and_false, not_true_eq_false, not_false_eq_true, forall_const, true_implies, false_implies, implies_true, ne_eq]
      refine ⟨fun c => absurd c (by omega), fun _ => ?_⟩
      suffices H2 : ∀ (f2 k2 : Nat) (F : Nat → Int32), k2 + f2 = 4 → (∀ c, 1 ≤ c → c < 64 → F c = nI (fb_sm (fun dd => rf4 S dd c) k + fb_sm (fun j => icn (tb S k j) c) k2)) → EX (Kd sL (d + 2)) sL md_X4_reckons (pU q) 6 [some (.inr (.inr (.inr 7))), some (.inl (nI k)), some (.inl (nI k2))] [] (h23 h F G) by
        refine H2 4 0 F rfl (fun c h1 h2 => ?_)
        rw [hF c h1 h2]
        rfl
      intro f2
      induction f2 with
      | zero =>
        intro k2 F hk2 hF
        refine EX.go (Kd_mono _ _) [false, true, false, false, true, false, true, false, false, false, false, true, false, false, false, true, false, false, false, true, false, false] 40 6 ?_
        dsimp only [wpc_s, wsl_t, wsl_f, gD_0, gD_s, ↓denB_n, pI_s, pG_s, pU_n, cb_X4_reckons_0, cb_X4_reckons_1, cb_X4_reckons_2, cb_X4_reckons_3, cb_X4_reckons_4, cb_X4_reckons_5, cb_X4_reckons_6, cb_X4_reckons_7, cb_X4_reckons_8, cb_X4_reckons_9, cb_X4_reckons_10, cb_X4_reckons_11, cb_X4_reckons_12, cb_X4_reckons_13, cb_X4_reckons_14, cb_X4_reckons_15, cb_X4_reckons_16, cb_X4_reckons_17, cb_X4_reckons_18, cb_X4_reckons_19, cb_X4_reckons_20, cb_X4_reckons_21, ↓ev_iconst_0, ↓ev_istore_n_1, ↓ev_iload_n_1, ↓ev_bipush_64, ↓ev_icmp_ge, ↓ev_aload_n_0, ↓ev_getf_4_5, ↓ev_iast_o8, ↓ev_iast_o9, ↓ev_iast_o10, ↓ev_iast_o11, ↓ev_iast_o12, ↓ev_iast_o13, ↓ev_iast_o14, ↓ev_iast_o15, ↓ev_iast_o16, ↓ev_getf_4_6, ↓ev_iinc_1_1, ↓ev_goto, ↓ev_bipush_14, ↓ev_istore_n_2, ↓ev_iload_n_2, ↓ev_iconst_4, ↓ev_callv_2_0_1, ↓ev_callv_2_1_1, ↓ev_callv_2_2_1, ↓ev_callv_2_3_1, ↓ev_callv_2_4_1, ↓ev_if_eq, ↓ev_getf_4_0, ↓ev_calls_2_0_1, ↓ev_calls_2_1_1, ↓ev_calls_2_2_1, ↓ev_calls_2_3_1, ↓ev_calls_2_4_1, ↓ev_iald_o8, ↓ev_iald_o9, ↓ev_iald_o10, ↓ev_iald_o11, ↓ev_iald_o12, ↓ev_iald_o13, ↓ev_iald_o14, ↓ev_iald_o15, ↓ev_iald_o16, ↓ev_dup2, ↓ev_iconst_1, ↓ev_iadd, ↓ev_iinc_2_1, ↓ev_if_ne, ↓ev_imul, ↓ev_ret, Nat.reduceAdd]
        try simp (disch := omega) only [pk_mul, nI_add, n_lt0, n_le0, n_eq0, n_ge0, n_gt0, n_lt, n_le, n_eq, n_in, n_div, n_rem, n_rem2, n_m1, nI_clamp, bz_0, bz_1, tI_0, tI_bz, n4, n16, eq_self, Nat.reduceLT, Nat.reduceLeDiff, Nat.reduceEqDiff, Nat.reduceAdd, Nat.reduceMul, Nat.reduceDiv, Nat.reduceMod, Nat.le_refl, decide_eq_false_iff_not, Classical.not_not, true_and, and_true, false_and, and_false, not_true_eq_false, not_false_eq_true, forall_const, true_implies, false_implies, implies_true, ne_eq]
        refine ⟨fun _ => ih (k + 1) F G _ (by omega) (fun c h1 h2 => ?_) hG, fun c => absurd (show 4 ≤ k2 by omega) c⟩
        rw [hF c h1 h2, fb_sm_succ, show k2 = 4 by omega]
        rfl
      | succ f2 ih2 =>
        intro k2 F hk2 hF
        refine EX.go (Kd_mono _ _) [false, true, false, false, true, false, true, false, false, false, false, true, false, false, false, true, false, false, false, true, false, false] 40 6 ?_
        dsimp only [wpc_s, wsl_t, wsl_f, gD_0, gD_s, ↓denB_n, pI_s, pG_s, pU_n, cb_X4_reckons_0, cb_X4_reckons_1, cb_X4_reckons_2, cb_X4_reckons_3, cb_X4_reckons_4, cb_X4_reckons_5, cb_X4_reckons_6, cb_X4_reckons_7, cb_X4_reckons_8, cb_X4_reckons_9, cb_X4_reckons_10, cb_X4_reckons_11, cb_X4_reckons_12, cb_X4_reckons_13, cb_X4_reckons_14, cb_X4_reckons_15, cb_X4_reckons_16, cb_X4_reckons_17, cb_X4_reckons_18, cb_X4_reckons_19, cb_X4_reckons_20, cb_X4_reckons_21, ↓ev_iconst_0, ↓ev_istore_n_1, ↓ev_iload_n_1, ↓ev_bipush_64, ↓ev_icmp_ge, ↓ev_aload_n_0, ↓ev_getf_4_5, ↓ev_iast_o8, ↓ev_iast_o9, ↓ev_iast_o10, ↓ev_iast_o11, ↓ev_iast_o12, ↓ev_iast_o13, ↓ev_iast_o14, ↓ev_iast_o15, ↓ev_iast_o16, ↓ev_getf_4_6, ↓ev_iinc_1_1, ↓ev_goto, ↓ev_bipush_14, ↓ev_istore_n_2, ↓ev_iload_n_2, ↓ev_iconst_4, ↓ev_callv_2_0_1, ↓ev_callv_2_1_1, ↓ev_callv_2_2_1, ↓ev_callv_2_3_1, ↓ev_callv_2_4_1, ↓ev_if_eq, ↓ev_getf_4_0, ↓ev_calls_2_0_1, ↓ev_calls_2_1_1, ↓ev_calls_2_2_1, ↓ev_calls_2_3_1, ↓ev_calls_2_4_1, ↓ev_iald_o8, ↓ev_iald_o9, ↓ev_iald_o10, ↓ev_iald_o11, ↓ev_iald_o12, ↓ev_iald_o13, ↓ev_iald_o14, ↓ev_iald_o15, ↓ev_iald_o16, ↓ev_dup2, ↓ev_iconst_1, ↓ev_iadd, ↓ev_iinc_2_1, ↓ev_if_ne, ↓ev_imul, ↓ev_ret, Nat.reduceAdd]
        try simp (disch := omega) only [pk_mul, nI_add, n_lt0, n_le0, n_eq0, n_ge0, n_gt0, n_lt, n_le, n_eq, n_in, n_div, n_rem, n_rem2, n_m1, nI_clamp, bz_0, bz_1, tI_0, tI_bz, n4, n16, eq_self, Nat.reduceLT, Nat.reduceLeDiff, Nat.reduceEqDiff, Nat.reduceAdd, Nat.reduceMul, Nat.reduceDiv, Nat.reduceMod, Nat.le_refl, decide_eq_false_iff_not, Classical.not_not, true_and, and_true, false_and, and_false, not_true_eq_false, not_false_eq_true, forall_const, true_implies, false_implies, implies_true, ne_eq]
        refine ⟨fun c => absurd c (by omega), fun _ => ?_⟩
        refine r_isNamedBy hS.a hw (by omega) ?_
        try simp (disch := omega) only [pk_mul, nI_add, n_lt0, n_le0, n_eq0, n_ge0, n_gt0, n_lt, n_le, n_eq, n_in, n_div, n_rem, n_rem2, n_m1, nI_clamp, bz_0, bz_1, tI_0, tI_bz, n4, n16, eq_self, Nat.reduceLT, Nat.reduceLeDiff, Nat.reduceEqDiff, Nat.reduceAdd, Nat.reduceMul, Nat.reduceDiv, Nat.reduceMod, Nat.le_refl, decide_eq_false_iff_not, Classical.not_not, true_and, and_true, false_and, and_false, not_true_eq_false, not_false_eq_true, forall_const, true_implies, false_implies, implies_true, ne_eq]
        refine ⟨fun c => ?_, fun c => ?_⟩
        · refine ih (k + 1) F G _ (by omega) (fun e h1 h2 => ?_) hG
          rw [hF e h1 h2, fb_sm_succ]
          unfold rf4
          rw [s_ab c h1, s_ab c h1]
        · have hq : prs S k = true := by simpa using c
          refine r_dir ?_
          have hdl := tb_lt S k k2
          have e : h (.inr 8) (327 + 4 * k + k2) = nI (tb S k k2) := by rw [hS _ (by omega), hw.dr (by omega) (by omega) hq]
          try simp (disch := omega) only [pk_mul, nI_add, n_lt0, n_le0, n_eq0, n_ge0, n_gt0, n_lt, n_le, n_eq, n_in, n_div, n_rem, n_rem2, n_m1, nI_clamp, bz_0, bz_1, tI_0, tI_bz, n4, n16, eq_self, Nat.reduceLT, Nat.reduceLeDiff, Nat.reduceEqDiff, Nat.reduceAdd, Nat.reduceMul, Nat.reduceDiv, Nat.reduceMod, Nat.le_refl, decide_eq_false_iff_not, Classical.not_not, true_and, and_true, false_and, and_false, not_true_eq_false, not_false_eq_true, forall_const, true_implies, false_implies, implies_true, ne_eq, a_8, a_12, u_12, e]
          refine ⟨by omega, by omega, by omega, ih2 (k2 + 1) _ (by omega) (fun c h1 h2 => ?_)⟩
          rw [upd_icn hF c h1 h2]
          simp only [fb_sm_succ, Nat.add_assoc]
  suffices H : ∀ (f k : Nat) (F G : Nat → Int32), k + f = 64 → (∀ c, c < k → F c = nI 0 ∧ G c = nI 0) → EX (Kd sL (d + 2)) sL md_X4_reckons (pU q) 1 [some (.inr (.inr (.inr 7))), some (.inl (nI k)), none] [] (h23 h F G) by
    have := H 64 0 (h (.inr 12)) (h (.inr 13)) rfl (fun c hc => absurd hc (Nat.not_lt_zero c))
    rwa [h23_eta] at this
  intro f
  induction f with
  | zero =>
    intro k F G hk hF
    refine EX.go (Kd_mono _ _) [false, true, false, false, true, false, true, false, false, false, false, true, false, false, false, true, false, false, false, true, false, false] 40 1 ?_
    dsimp only [wpc_s, wsl_t, wsl_f, gD_0, gD_s, ↓denB_n, pI_s, pG_s, pU_n, cb_X4_reckons_0, cb_X4_reckons_1, cb_X4_reckons_2, cb_X4_reckons_3, cb_X4_reckons_4, cb_X4_reckons_5, cb_X4_reckons_6, cb_X4_reckons_7, cb_X4_reckons_8, cb_X4_reckons_9, cb_X4_reckons_10, cb_X4_reckons_11, cb_X4_reckons_12, cb_X4_reckons_13, cb_X4_reckons_14, cb_X4_reckons_15, cb_X4_reckons_16, cb_X4_reckons_17, cb_X4_reckons_18, cb_X4_reckons_19, cb_X4_reckons_20, cb_X4_reckons_21, ↓ev_iconst_0, ↓ev_istore_n_1, ↓ev_iload_n_1, ↓ev_bipush_64, ↓ev_icmp_ge, ↓ev_aload_n_0, ↓ev_getf_4_5, ↓ev_iast_o8, ↓ev_iast_o9, ↓ev_iast_o10, ↓ev_iast_o11, ↓ev_iast_o12, ↓ev_iast_o13, ↓ev_iast_o14, ↓ev_iast_o15, ↓ev_iast_o16, ↓ev_getf_4_6, ↓ev_iinc_1_1, ↓ev_goto, ↓ev_bipush_14, ↓ev_istore_n_2, ↓ev_iload_n_2, ↓ev_iconst_4, ↓ev_callv_2_0_1, ↓ev_callv_2_1_1, ↓ev_callv_2_2_1, ↓ev_callv_2_3_1, ↓ev_callv_2_4_1, ↓ev_if_eq, ↓ev_getf_4_0, ↓ev_calls_2_0_1, ↓ev_calls_2_1_1, ↓ev_calls_2_2_1, ↓ev_calls_2_3_1, ↓ev_calls_2_4_1, ↓ev_iald_o8, ↓ev_iald_o9, ↓ev_iald_o10, ↓ev_iald_o11, ↓ev_iald_o12, ↓ev_iald_o13, ↓ev_iald_o14, ↓ev_iald_o15, ↓ev_iald_o16, ↓ev_dup2, ↓ev_iconst_1, ↓ev_iadd, ↓ev_iinc_2_1, ↓ev_if_ne, ↓ev_imul, ↓ev_ret, Nat.reduceAdd]
    try simp (disch := omega) only [pk_mul, nI_add, n_lt0, n_le0, n_eq0, n_ge0, n_gt0, n_lt, n_le, n_eq, n_in, n_div, n_rem, n_rem2, n_m1, nI_clamp, bz_0, bz_1, tI_0, tI_bz, n4, n16, eq_self, Nat.reduceLT, Nat.reduceLeDiff, Nat.reduceEqDiff, Nat.reduceAdd, Nat.reduceMul, Nat.reduceDiv, Nat.reduceMod, Nat.le_refl, decide_eq_false_iff_not, Classical.not_not, true_and, and_true, false_and, and_false, not_true_eq_false, not_false_eq_true, forall_const, true_implies, false_implies, implies_true, ne_eq]
    exact ⟨fun _ => J4 14 0 F G _ rfl (fun c h1 h2 => (hF c (by omega)).1) (fun c h1 h2 => (hF c (by omega)).2), fun c => absurd (show 64 ≤ k by omega) c⟩
  | succ f ih =>
    intro k F G hk hF
    refine EX.go (Kd_mono _ _) [false, true, false, false, true, false, true, false, false, false, false, true, false, false, false, true, false, false, false, true, false, false] 40 1 ?_
    dsimp only [wpc_s, wsl_t, wsl_f, gD_0, gD_s, ↓denB_n, pI_s, pG_s, pU_n, cb_X4_reckons_0, cb_X4_reckons_1, cb_X4_reckons_2, cb_X4_reckons_3, cb_X4_reckons_4, cb_X4_reckons_5, cb_X4_reckons_6, cb_X4_reckons_7, cb_X4_reckons_8, cb_X4_reckons_9, cb_X4_reckons_10, cb_X4_reckons_11, cb_X4_reckons_12, cb_X4_reckons_13, cb_X4_reckons_14, cb_X4_reckons_15, cb_X4_reckons_16, cb_X4_reckons_17, cb_X4_reckons_18, cb_X4_reckons_19, cb_X4_reckons_20, cb_X4_reckons_21, ↓ev_iconst_0, ↓ev_istore_n_1, ↓ev_iload_n_1, ↓ev_bipush_64, ↓ev_icmp_ge, ↓ev_aload_n_0, ↓ev_getf_4_5, ↓ev_iast_o8, ↓ev_iast_o9, ↓ev_iast_o10, ↓ev_iast_o11, ↓ev_iast_o12, ↓ev_iast_o13, ↓ev_iast_o14, ↓ev_iast_o15, ↓ev_iast_o16, ↓ev_getf_4_6, ↓ev_iinc_1_1, ↓ev_goto, ↓ev_bipush_14, ↓ev_istore_n_2, ↓ev_iload_n_2, ↓ev_iconst_4, ↓ev_callv_2_0_1, ↓ev_callv_2_1_1, ↓ev_callv_2_2_1, ↓ev_callv_2_3_1, ↓ev_callv_2_4_1, ↓ev_if_eq, ↓ev_getf_4_0, ↓ev_calls_2_0_1, ↓ev_calls_2_1_1, ↓ev_calls_2_2_1, ↓ev_calls_2_3_1, ↓ev_calls_2_4_1, ↓ev_iald_o8, ↓ev_iald_o9, ↓ev_iald_o10, ↓ev_iald_o11, ↓ev_iald_o12, ↓ev_iald_o13, ↓ev_iald_o14, ↓ev_iald_o15, ↓ev_iald_o16, ↓ev_dup2, ↓ev_iconst_1, ↓ev_iadd, ↓ev_iinc_2_1, ↓ev_if_ne, ↓ev_imul, ↓ev_ret, Nat.reduceAdd]
    try simp (disch := omega) only [pk_mul, nI_add, n_lt0, n_le0, n_eq0, n_ge0, n_gt0, n_lt, n_le, n_eq, n_in, n_div, n_rem, n_rem2, n_m1, nI_clamp, bz_0, bz_1, tI_0, tI_bz, n4, n16, eq_self, Nat.reduceLT, Nat.reduceLeDiff, Nat.reduceEqDiff, Nat.reduceAdd, Nat.reduceMul, Nat.reduceDiv, Nat.reduceMod, Nat.le_refl, decide_eq_false_iff_not, Classical.not_not, true_and, and_true, false_and, and_false, not_true_eq_false, not_false_eq_true, forall_const, true_implies, false_implies, implies_true, ne_eq, u_12, u_13]
    refine ⟨fun c => absurd c (by omega), fun _ => ⟨by omega, by omega, ih (k + 1) _ _ (by omega) (fun c hc => ?_)⟩⟩
    by_cases e : c = k
    · subst e
      rw [pk_us, pk_us]
      exact ⟨rfl, rfl⟩
    · rw [pk_un e, pk_un e]
      exact hF c (by omega)
theorem r_hasLack (hS : RS h S) (hw : WF S) (hp : ∀ f g : Nat → Int32, p (tI (lk S)) (h23 h f g)) : mI (Kd sL (d + 4)) 121 [.inr (.inr (.inr 7))] h p := by
  refine ke_X4_hasLack ?_
  refine EX.go (Kd_mono _ _) [false, true, false, false, false, false, false, false] 40 0 ?_
  dsimp only [wpc_s, wsl_t, wsl_f, gD_0, gD_s, ↓denB_n, pI_s, pG_s, pU_n, cb_X4_hasLack_0, cb_X4_hasLack_1, cb_X4_hasLack_2, cb_X4_hasLack_3, cb_X4_hasLack_4, cb_X4_hasLack_5, cb_X4_hasLack_6, cb_X4_hasLack_7, ↓ev_aload_n_0, ↓ev_callv_1_0_0, ↓ev_callv_1_1_0, ↓ev_callv_1_2_0, ↓ev_callv_1_3_0, ↓ev_callv_1_4_0, ↓ev_iconst_0, ↓ev_istore_n_1, ↓ev_iconst_1, ↓ev_istore_n_2, ↓ev_iload_n_2, ↓ev_bipush_64, ↓ev_icmp_ge, ↓ev_iload_n_1, ↓ev_if_ne, ↓ev_getf_4_0, ↓ev_iadd, ↓ev_iald_o8, ↓ev_iald_o9, ↓ev_iald_o10, ↓ev_iald_o11, ↓ev_iald_o12, ↓ev_iald_o13, ↓ev_iald_o14, ↓ev_iald_o15, ↓ev_iald_o16, ↓ev_getf_4_5, ↓ev_goto, ↓ev_iinc_2_1, ↓ev_zret, Nat.reduceAdd]
  refine r_reckons hS hw (fun F G hF hG => ?_)
  have hp := hp F G
  suffices H : ∀ (f k : Nat), k + f = 64 → 1 ≤ k → EX (Kd sL (d + 3)) sL md_X4_hasLack (pI p) 1 [some (.inr (.inr (.inr 7))), some (.inl (tI (dec (∃ c, c < k ∧ lackP S c = true)))), some (.inl (nI k))] [] (h23 h F G) by
    have := H 63 1 rfl (by omega)
    rw [show dec (∃ c, c < 1 ∧ lackP S c = true) = false by
      rw [dec_f]
      rintro ⟨c, hc, z⟩
      rw [show c = 0 by omega] at z
      unfold lackP at z
      rw [dec0] at z
      cases z] at this
    exact this
  intro f
  induction f with
  | zero =>
    intro k hk h1
    refine EX.go (Kd_mono _ _) [false, true, false, false, false, false, false, false] 40 1 ?_
    dsimp only [wpc_s, wsl_t, wsl_f, gD_0, gD_s, ↓denB_n, pI_s, pG_s, pU_n, cb_X4_hasLack_0, cb_X4_hasLack_1, cb_X4_hasLack_2, cb_X4_hasLack_3, cb_X4_hasLack_4, cb_X4_hasLack_5, cb_X4_hasLack_6, cb_X4_hasLack_7, ↓ev_aload_n_0, ↓ev_callv_1_0_0, ↓ev_callv_1_1_0, ↓ev_callv_1_2_0, ↓ev_callv_1_3_0, ↓ev_callv_1_4_0, ↓ev_iconst_0, ↓ev_istore_n_1, ↓ev_iconst_1, ↓ev_istore_n_2, ↓ev_iload_n_2, ↓ev_bipush_64, ↓ev_icmp_ge, ↓ev_iload_n_1, ↓ev_if_ne, ↓ev_getf_4_0, ↓ev_iadd, ↓ev_iald_o8, ↓ev_iald_o9, ↓ev_iald_o10, ↓ev_iald_o11, ↓ev_iald_o12, ↓ev_iald_o13, ↓ev_iald_o14, ↓ev_iald_o15, ↓ev_iald_o16, ↓ev_getf_4_5, ↓ev_goto, ↓ev_iinc_2_1, ↓ev_zret, Nat.reduceAdd]
    try simp (disch := omega) only [pk_mul, nI_add, n_lt0, n_le0, n_eq0, n_ge0, n_gt0, n_lt, n_le, n_eq, n_in, n_div, n_rem, n_rem2, n_m1, nI_clamp, bz_0, bz_1, tI_0, tI_bz, n4, n16, eq_self, Nat.reduceLT, Nat.reduceLeDiff, Nat.reduceEqDiff, Nat.reduceAdd, Nat.reduceMul, Nat.reduceDiv, Nat.reduceMod, Nat.le_refl, decide_eq_false_iff_not, Classical.not_not, true_and, and_true, false_and, and_false, not_true_eq_false, not_false_eq_true, forall_const, true_implies, false_implies, implies_true, ne_eq]
    refine ⟨fun _ => ?_, fun c => absurd (show 64 ≤ k by omega) c⟩
    rw [show k = 64 by omega]
    exact hp
  | succ f ih =>
    intro k hk h1
    refine EX.go (Kd_mono _ _) [false, true, false, false, false, false, false, false] 40 1 ?_
    dsimp only [wpc_s, wsl_t, wsl_f, gD_0, gD_s, ↓denB_n, pI_s, pG_s, pU_n, cb_X4_hasLack_0, cb_X4_hasLack_1, cb_X4_hasLack_2, cb_X4_hasLack_3, cb_X4_hasLack_4, cb_X4_hasLack_5, cb_X4_hasLack_6, cb_X4_hasLack_7, ↓ev_aload_n_0, ↓ev_callv_1_0_0, ↓ev_callv_1_1_0, ↓ev_callv_1_2_0, ↓ev_callv_1_3_0, ↓ev_callv_1_4_0, ↓ev_iconst_0, ↓ev_istore_n_1, ↓ev_iconst_1, ↓ev_istore_n_2, ↓ev_iload_n_2, ↓ev_bipush_64, ↓ev_icmp_ge, ↓ev_iload_n_1, ↓ev_if_ne, ↓ev_getf_4_0, ↓ev_iadd, ↓ev_iald_o8, ↓ev_iald_o9, ↓ev_iald_o10, ↓ev_iald_o11, ↓ev_iald_o12, ↓ev_iald_o13, ↓ev_iald_o14, ↓ev_iald_o15, ↓ev_iald_o16, ↓ev_getf_4_5, ↓ev_goto, ↓ev_iinc_2_1, ↓ev_zret, Nat.reduceAdd]
    have e1 : h (.inr 8) k = S k := hS k (by omega)
    have e2 := hF k h1 (by omega)
    try simp (disch := omega) only [pk_mul, nI_add, n_lt0, n_le0, n_eq0, n_ge0, n_gt0, n_lt, n_le, n_eq, n_in, n_div, n_rem, n_rem2, n_m1, nI_clamp, bz_0, bz_1, tI_0, tI_bz, n4, n16, eq_self, Nat.reduceLT, Nat.reduceLeDiff, Nat.reduceEqDiff, Nat.reduceAdd, Nat.reduceMul, Nat.reduceDiv, Nat.reduceMod, Nat.le_refl, decide_eq_false_iff_not, Classical.not_not, true_and, and_true, false_and, and_false, not_true_eq_false, not_false_eq_true, forall_const, true_implies, false_implies, implies_true, ne_eq, a_8, a_12, e1, e2]
    have ih2 := ih (k + 1) (by omega) (by omega)
    have e0 : nI (0 + k) = nI k := by rw [Nat.zero_add]
    refine ⟨fun c => absurd c (by omega), fun _ => ⟨fun c => ?_, fun c => ?_⟩⟩
    · have c3 : ∃ c, c < k ∧ lackP S c = true := Classical.not_not.mp (fun z => c (dec_f.mpr z))
      rw [show dec (∃ c, c < k + 1 ∧ lackP S c = true) = true by
        rw [dec_t]
        obtain ⟨x, hx, z⟩ := c3
        exact ⟨x, by omega, z⟩] at ih2
      exact ih2
    · rw [dec_f] at c
      try simp (disch := omega) only [pk_mul, nI_add, n_lt0, n_le0, n_eq0, n_ge0, n_gt0, n_lt, n_le, n_eq, n_in, n_div, n_rem, n_rem2, n_m1, nI_clamp, bz_0, bz_1, tI_0, tI_bz, n4, n16, eq_self, Nat.reduceLT, Nat.reduceLeDiff, Nat.reduceEqDiff, Nat.reduceAdd, Nat.reduceMul, Nat.reduceDiv, Nat.reduceMod, Nat.le_refl, decide_eq_false_iff_not, Classical.not_not, true_and, and_true, false_and, and_false, not_true_eq_false, not_false_eq_true, forall_const, true_implies, false_implies, implies_true, ne_eq, Nat.zero_add, e1]
      refine ⟨by omega, by omega, fun c2 => ?_, fun c2 => ?_⟩
      · rw [show dec (∃ c, c < k + 1 ∧ lackP S c = true) = false by
          rw [dec_f]
          rintro ⟨x, hx, z⟩
          by_cases q : x = k
          · subst q
            unfold lackP at z
            rw [dec_t] at z
            exact Int32.not_lt.mpr c2 z.2
          · exact c ⟨x, by omega, z⟩] at ih2
        exact ih2
      · rw [show dec (∃ c, c < k + 1 ∧ lackP S c = true) = true by
          rw [dec_t]
          refine ⟨k, by omega, ?_⟩
          unfold lackP
          rw [dec_t]
          exact ⟨h1, Int32.not_le.mp c2⟩] at ih2
        exact ih2
theorem r_areAlike {c e : Nat} (hS : RS h S) (hc : c < 64) (he : e < 64) (hp : p (tI (dec (alk S c e))) h) : mI (Kd sL (d + 1)) 142 [.inr (.inr (.inr 7)), .inl (nI c), .inl (nI e)] h p := by
  refine ke_X4_areAlike ?_
  refine EX.go (Kd_mono _ _) [false, true, false, false, false, false, false, false] 40 0 ?_
  dsimp only [wpc_s, wsl_t, wsl_f, gD_0, gD_s, ↓denB_n, pI_s, pG_s, pU_n, cb_X4_areAlike_0, cb_X4_areAlike_1, cb_X4_areAlike_2, cb_X4_areAlike_3, cb_X4_areAlike_4, cb_X4_areAlike_5, cb_X4_areAlike_6, cb_X4_areAlike_7, ↓ev_iconst_1, ↓ev_istore_n_3, ↓ev_iconst_0, ↓ev_istore_4, ↓ev_iload_4, ↓ev_iconst_4, ↓ev_icmp_ge, ↓ev_iload_n_3, ↓ev_if_eq, ↓ev_aload_n_0, ↓ev_getf_4_0, ↓ev_bipush_64, ↓ev_iload_n_1, ↓ev_imul, ↓ev_iadd, ↓ev_iald_o8, ↓ev_iald_o9, ↓ev_iald_o10, ↓ev_iald_o11, ↓ev_iald_o12, ↓ev_iald_o13, ↓ev_iald_o14, ↓ev_iald_o15, ↓ev_iald_o16, ↓ev_iload_n_2, ↓ev_icmp_ne, ↓ev_goto, ↓ev_iinc_4_1, ↓ev_zret, Nat.reduceAdd]
  suffices H : ∀ (f k : Nat), k + f = 4 → EX (Kd sL d) sL md_X4_areAlike (pI p) 1 [some (.inr (.inr (.inr 7))), some (.inl (nI c)), some (.inl (nI e)), some (.inl (tI (dec (∀ j, j < k → S (64 + 4 * c + j) = S (64 + 4 * e + j))))), some (.inl (nI k))] [] h by
    have := H 4 0 rfl
    rw [show dec (∀ j, j < 0 → S (64 + 4 * c + j) = S (64 + 4 * e + j)) = true by rw [dec_t]; exact fun j hj => absurd hj (Nat.not_lt_zero j)] at this
    exact this
  intro f
  induction f with
  | zero =>
    intro k hk
    refine EX.go (Kd_mono _ _) [false, true, false, false, false, false, false, false] 40 1 ?_
    dsimp only [wpc_s, wsl_t, wsl_f, gD_0, gD_s, ↓denB_n, pI_s, pG_s, pU_n, cb_X4_areAlike_0, cb_X4_areAlike_1, cb_X4_areAlike_2, cb_X4_areAlike_3, cb_X4_areAlike_4, cb_X4_areAlike_5, cb_X4_areAlike_6, cb_X4_areAlike_7, ↓ev_iconst_1, ↓ev_istore_n_3, ↓ev_iconst_0, ↓ev_istore_4, ↓ev_iload_4, ↓ev_iconst_4, ↓ev_icmp_ge, ↓ev_iload_n_3, ↓ev_if_eq, ↓ev_aload_n_0, ↓ev_getf_4_0, ↓ev_bipush_64, ↓ev_iload_n_1, ↓ev_imul, ↓ev_iadd, ↓ev_iald_o8, ↓ev_iald_o9, ↓ev_iald_o10, ↓ev_iald_o11, ↓ev_iald_o12, ↓ev_iald_o13, ↓ev_iald_o14, ↓ev_iald_o15, ↓ev_iald_o16, ↓ev_iload_n_2, ↓ev_icmp_ne, ↓ev_goto, ↓ev_iinc_4_1, ↓ev_zret, Nat.reduceAdd]
    try simp (disch := omega) only [pk_mul, nI_add, n_lt0, n_le0, n_eq0, n_ge0, n_gt0, n_lt, n_le, n_eq, n_in, n_div, n_rem, n_rem2, n_m1, nI_clamp, bz_0, bz_1, tI_0, tI_bz, n4, n16, eq_self, Nat.reduceLT, Nat.reduceLeDiff, Nat.reduceEqDiff, Nat.reduceAdd, Nat.reduceMul, Nat.reduceDiv, Nat.reduceMod, Nat.le_refl, decide_eq_false_iff_not, Classical.not_not, true_and, and_true, false_and, and_false, not_true_eq_false, not_false_eq_true, forall_const, true_implies, false_implies, implies_true, ne_eq]
    refine ⟨fun _ => ?_, fun c2 => absurd (show 4 ≤ k by omega) c2⟩
    rw [show k = 4 by omega]
    exact hp
  | succ f ih =>
    intro k hk
    refine EX.go (Kd_mono _ _) [false, true, false, false, false, false, false, false] 40 1 ?_
    dsimp only [wpc_s, wsl_t, wsl_f, gD_0, gD_s, ↓denB_n, pI_s, pG_s, pU_n, cb_X4_areAlike_0, cb_X4_areAlike_1, cb_X4_areAlike_2, cb_X4_areAlike_3, cb_X4_areAlike_4, cb_X4_areAlike_5, cb_X4_areAlike_6, cb_X4_areAlike_7, ↓ev_iconst_1, ↓ev_istore_n_3, ↓ev_iconst_0, ↓ev_istore_4, ↓ev_iload_4, ↓ev_iconst_4, ↓ev_icmp_ge, ↓ev_iload_n_3, ↓ev_if_eq, ↓ev_aload_n_0, ↓ev_getf_4_0, ↓ev_bipush_64, ↓ev_iload_n_1, ↓ev_imul, ↓ev_iadd, ↓ev_iald_o8, ↓ev_iald_o9, ↓ev_iald_o10, ↓ev_iald_o11, ↓ev_iald_o12, ↓ev_iald_o13, ↓ev_iald_o14, ↓ev_iald_o15, ↓ev_iald_o16, ↓ev_iload_n_2, ↓ev_icmp_ne, ↓ev_goto, ↓ev_iinc_4_1, ↓ev_zret, Nat.reduceAdd]
    have e1 : h (.inr 8) (64 + 4 * c + k) = S (64 + 4 * c + k) := hS _ (by omega)
    have e2 : h (.inr 8) (64 + 4 * e + k) = S (64 + 4 * e + k) := hS _ (by omega)
    try simp (disch := omega) only [pk_mul, nI_add, n_lt0, n_le0, n_eq0, n_ge0, n_gt0, n_lt, n_le, n_eq, n_in, n_div, n_rem, n_rem2, n_m1, nI_clamp, bz_0, bz_1, tI_0, tI_bz, n4, n16, eq_self, Nat.reduceLT, Nat.reduceLeDiff, Nat.reduceEqDiff, Nat.reduceAdd, Nat.reduceMul, Nat.reduceDiv, Nat.reduceMod, Nat.le_refl, decide_eq_false_iff_not, Classical.not_not, true_and, and_true, false_and, and_false, not_true_eq_false, not_false_eq_true, forall_const, true_implies, false_implies, implies_true, ne_eq, e1, e2]
    have ih2 := ih (k + 1) (by omega)
    refine ⟨fun c2 => absurd c2 (by omega), fun _ => ⟨fun c2 => ?_, fun c2 => ?_⟩⟩
    · rw [dec_f] at c2
      rw [dec_f.mpr (fun z => c2 (fun j hj => z j (by omega)))] at ih2
      exact ih2
    · have c3 : ∀ j, j < k → S (64 + 4 * c + j) = S (64 + 4 * e + j) := Classical.not_not.mp (fun z => c2 (dec_f.mpr z))
      refine ⟨by omega, by omega, fun c4 => ?_, fun c4 => ?_⟩
      · rw [dec_f.mpr (fun z => c4 (z k (by omega)))] at ih2
        exact ih2
      · rw [dec_t.mpr (show ∀ j, j < k + 1 → S (64 + 4 * c + j) = S (64 + 4 * e + j) from fun j hj => by
          by_cases q : j = k
          · subst q; exact c4
          · exact c3 j (by omega))] at ih2
        exact ih2
theorem r_free (hS : RS h S) (hp : p (fre S) h) : mI (Kd sL (d + 1)) 167 [.inr (.inr (.inr 7))] h p := by
  refine ke_X4_free ?_
  refine EX.go (Kd_mono _ _) [false, true, false, false, false, false, false] 40 0 ?_
  dsimp only [wpc_s, wsl_t, wsl_f, gD_0, gD_s, ↓denB_n, pI_s, pG_s, pU_n, cb_X4_free_0, cb_X4_free_1, cb_X4_free_2, cb_X4_free_3, cb_X4_free_4, cb_X4_free_5, cb_X4_free_6, ↓ev_iconst_0, ↓ev_istore_n_1, ↓ev_iconst_1, ↓ev_istore_n_2, ↓ev_iload_n_2, ↓ev_bipush_64, ↓ev_icmp_ge, ↓ev_iload_n_1, ↓ev_aload_n_0, ↓ev_getf_4_0, ↓ev_iadd, ↓ev_iald_o8, ↓ev_iald_o9, ↓ev_iald_o10, ↓ev_iald_o11, ↓ev_iald_o12, ↓ev_iald_o13, ↓ev_iald_o14, ↓ev_iald_o15, ↓ev_iald_o16, ↓ev_if_ne, ↓ev_goto, ↓ev_iinc_2_1, ↓ev_iret, Nat.reduceAdd]
  suffices H : ∀ (f k : Nat), k + f = 64 → 1 ≤ k → EX (Kd sL d) sL md_X4_free (pI p) 1 [some (.inr (.inr (.inr 7))), some (.inl (nI (fb_ct (freeP S) k))), some (.inl (nI k))] [] h by
    have := H 63 1 rfl (by omega)
    have e9 : freeP S 0 = false := dec0
    rw [show fb_ct (freeP S) 1 = 0 by simp [fb_ct, e9]] at this
    exact this
  intro f
  induction f with
  | zero =>
    intro k hk h1
    refine EX.go (Kd_mono _ _) [false, true, false, false, false, false, false] 40 1 ?_
    dsimp only [wpc_s, wsl_t, wsl_f, gD_0, gD_s, ↓denB_n, pI_s, pG_s, pU_n, cb_X4_free_0, cb_X4_free_1, cb_X4_free_2, cb_X4_free_3, cb_X4_free_4, cb_X4_free_5, cb_X4_free_6, ↓ev_iconst_0, ↓ev_istore_n_1, ↓ev_iconst_1, ↓ev_istore_n_2, ↓ev_iload_n_2, ↓ev_bipush_64, ↓ev_icmp_ge, ↓ev_iload_n_1, ↓ev_aload_n_0, ↓ev_getf_4_0, ↓ev_iadd, ↓ev_iald_o8, ↓ev_iald_o9, ↓ev_iald_o10, ↓ev_iald_o11, ↓ev_iald_o12, ↓ev_iald_o13, ↓ev_iald_o14, ↓ev_iald_o15, ↓ev_iald_o16, ↓ev_if_ne, ↓ev_goto, ↓ev_iinc_2_1, ↓ev_iret, Nat.reduceAdd]
    try simp (disch := omega) only [pk_mul, nI_add, n_lt0, n_le0, n_eq0, n_ge0, n_gt0, n_lt, n_le, n_eq, n_in, n_div, n_rem, n_rem2, n_m1, nI_clamp, bz_0, bz_1, tI_0, tI_bz, n4, n16, eq_self, Nat.reduceLT, Nat.reduceLeDiff, Nat.reduceEqDiff, Nat.reduceAdd, Nat.reduceMul, Nat.reduceDiv, Nat.reduceMod, Nat.le_refl, decide_eq_false_iff_not, Classical.not_not, true_and, and_true, false_and, and_false, not_true_eq_false, not_false_eq_true, forall_const, true_implies, false_implies, implies_true, ne_eq]
    refine ⟨fun _ => ?_, fun c => absurd (show 64 ≤ k by omega) c⟩
    rw [show k = 64 by omega]
    exact hp
  | succ f ih =>
    intro k hk h1
    refine EX.go (Kd_mono _ _) [false, true, false, false, false, false, false] 40 1 ?_
    dsimp only [wpc_s, wsl_t, wsl_f, gD_0, gD_s, ↓denB_n, pI_s, pG_s, pU_n, cb_X4_free_0, cb_X4_free_1, cb_X4_free_2, cb_X4_free_3, cb_X4_free_4, cb_X4_free_5, cb_X4_free_6, ↓ev_iconst_0, ↓ev_istore_n_1, ↓ev_iconst_1, ↓ev_istore_n_2, ↓ev_iload_n_2, ↓ev_bipush_64, ↓ev_icmp_ge, ↓ev_iload_n_1, ↓ev_aload_n_0, ↓ev_getf_4_0, ↓ev_iadd, ↓ev_iald_o8, ↓ev_iald_o9, ↓ev_iald_o10, ↓ev_iald_o11, ↓ev_iald_o12, ↓ev_iald_o13, ↓ev_iald_o14, ↓ev_iald_o15, ↓ev_iald_o16, ↓ev_if_ne, ↓ev_goto, ↓ev_iinc_2_1, ↓ev_iret, Nat.reduceAdd]
    have e1 : h (.inr 8) k = S k := hS k (by omega)
    try simp (disch := omega) only [pk_mul, nI_add, n_lt0, n_le0, n_eq0, n_ge0, n_gt0, n_lt, n_le, n_eq, n_in, n_div, n_rem, n_rem2, n_m1, nI_clamp, bz_0, bz_1, tI_0, tI_bz, n4, n16, eq_self, Nat.reduceLT, Nat.reduceLeDiff, Nat.reduceEqDiff, Nat.reduceAdd, Nat.reduceMul, Nat.reduceDiv, Nat.reduceMod, Nat.le_refl, decide_eq_false_iff_not, Classical.not_not, true_and, and_true, false_and, and_false, not_true_eq_false, not_false_eq_true, forall_const, true_implies, false_implies, implies_true, ne_eq, Nat.zero_add, e1]
    have ih2 := ih (k + 1) (by omega) (by omega)
    rw [fb_ct_succ] at ih2
    refine ⟨fun c => absurd c (by omega), fun _ => ⟨by omega, fun c => ?_, fun c => ?_⟩⟩
    · rw [if_neg (by rw [Bool.not_eq_true, freeP, dec_f]; exact fun z => c z.2)] at ih2
      exact ih2
    · rw [if_pos (by rw [freeP, dec_t]; exact ⟨h1, c⟩)] at ih2
      exact ih2
end REC
