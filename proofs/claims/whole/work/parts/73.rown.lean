/-! ===== the reference: to own a table, to write a place ===== -/
section ROWN
variable {sL d L : Nat} {h : mH} {σ : Sg} {q : mH → Prop}
theorem cp4_self {S : St} {a b k : Nat} (hk : k < 4) : cp4 S a b (64 + 4 * a + k) = S (64 + 4 * a + k) := by
  by_cases e : a = b
  · subst e; exact cp4_in hk
  · exact cp4_out (by omega)
theorem incF_0 : ∀ (k : Nat) (τ : Sg), incF L 0 k τ = τ
  | 0, _ => rfl
  | k + 1, τ => by
    unfold incF
    rw [incF_0 k, dt_0]
    rfl
theorem four_0 {S : St} {n : Nat} (hz : ∀ k, k < 4 → S (64 + k) = nI 0) : four S n (nI 0) (nI 0) (nI 0) (nI 0) = cp4 S 0 n :=
  four_eq (fun j hj => cp4_out hj) ((cp4_in (k := 0) (by decide)).trans (hz 0 (by decide))) ((cp4_in (k := 1) (by decide)).trans (hz 1 (by decide))) ((cp4_in (k := 2) (by decide)).trans (hz 2 (by decide))) ((cp4_in (k := 3) (by decide)).trans (hz 3 (by decide)))
theorem own_key {l i r : Nat} (hneg : ¬ (¬ tb σ.1 l i = 0 ∧ σ.1 (tb σ.1 l i) ≤ nI 1)) (hr : σ.2.2 = 0 → r = (ncl σ).1) : (own L l i σ).2 = addc L (tb σ.1 l i) (-1) (gt L (fun S => upd S (327 + 4 * l + i) (nI r)) (incF L (tb σ.1 l i) 4 (gt L (fun S => cp4 S (tb σ.1 l i) r) (gt L (fun S => upd S (ncl σ).1 (nI 1)) (ncl σ).2)))) := by
  by_cases z : σ.2.2 = 0
  · rw [hr z]
    unfold own
    rw [if_neg hneg]
    rfl
  · rw [own_hz z, ncl_hz z]
    dsimp only
    rw [gt_hz z, gt_hz z, incF_hz z, gt_hz z, addc_hz z]
theorem r_owns {l b : Nat} (hR : RR h L σ) (hw : WF σ.1) (hl : l < mn σ.1) (hb : b < 16) (hp : ∀ h', OC h h' → RR h' L (own L l (b / 4) σ).2 → q h') : mU (Kd sL (d + 4)) 128 [.inr (.inr (.inr 7)), .inl (nI l), .inl (nI b)] h q := by
  have hm6 := hw.m
  refine ke_X4_owns ?_
  refine EX.go (Kd_mono _ _) [false, false, false, true, false, false, false, true, false, false, false, false, false, false, false] 40 0 ?_
  dsimp only [wpc_s, wsl_t, wsl_f, gD_0, gD_s, ↓denB_n, pI_s, pG_s, pU_n, cb_X4_owns_0, cb_X4_owns_1, cb_X4_owns_2, cb_X4_owns_3, cb_X4_owns_4, cb_X4_owns_5, cb_X4_owns_6, cb_X4_owns_7, cb_X4_owns_8, cb_X4_owns_9, cb_X4_owns_10, cb_X4_owns_11, cb_X4_owns_12, cb_X4_owns_13, cb_X4_owns_14, ↓ev_iload_n_1, ↓ev_iload_n_2, ↓ev_iconst_4, ↓ev_idiv, ↓ev_calls_2_0_1, ↓ev_calls_2_1_1, ↓ev_calls_2_2_1, ↓ev_calls_2_3_1, ↓ev_calls_2_4_1, ↓ev_istore_n_3, ↓ev_aload_n_0, ↓ev_getf_4_0, ↓ev_iload_n_3, ↓ev_iald_o8, ↓ev_iald_o9, ↓ev_iald_o10, ↓ev_iald_o11, ↓ev_iald_o12, ↓ev_iald_o13, ↓ev_iald_o14, ↓ev_iald_o15, ↓ev_iald_o16, ↓ev_istore_4, ↓ev_iload_4, ↓ev_if_eq, ↓ev_iconst_0, ↓ev_iadd, ↓ev_iconst_1, ↓ev_icmp_gt, ↓ev_ret, ↓ev_callv_1_0_1, ↓ev_callv_1_1_1, ↓ev_callv_1_2_1, ↓ev_callv_1_3_1, ↓ev_callv_1_4_1, ↓ev_istore_5, ↓ev_if_ne, ↓ev_iload_5, ↓ev_callv_6_0_0, ↓ev_callv_6_1_0, ↓ev_callv_6_2_0, ↓ev_callv_6_3_0, ↓ev_callv_6_4_0, ↓ev_goto, ↓ev_callv_3_0_0, ↓ev_callv_3_1_0, ↓ev_callv_3_2_0, ↓ev_callv_3_3_0, ↓ev_callv_3_4_0, ↓ev_istore_6, ↓ev_iload_6, ↓ev_icmp_ge, ↓ev_bipush_64, ↓ev_imul, ↓ev_iinc_6_1, ↓ev_iconst_m1, Nat.reduceAdd]
  try simp (disch := omega) only [pk_mul, nI_add, n_lt0, n_le0, n_eq0, n_ge0, n_gt0, n_lt, n_le, n_eq, n_in, n_div, n_rem, n_rem2, n_m1, nI_clamp, bz_0, bz_1, tI_0, tI_bz, n4, n16, eq_self, Nat.reduceLT, Nat.reduceLeDiff, Nat.reduceEqDiff, Nat.reduceAdd, Nat.reduceMul, Nat.reduceDiv, Nat.reduceMod, Nat.le_refl, decide_eq_false_iff_not, Classical.not_not, true_and, and_true, false_and, and_false, not_true_eq_false, not_false_eq_true, forall_const, true_implies, false_implies, implies_true, ne_eq]
  refine r_dir ?_
  have hol := tb_lt σ.1 l (b / 4)
  have hod := tbn (S := σ.1) (d := l) (k := b / 4) (by omega) (by omega)
  have e : h (.inr 8) (327 + 4 * l + b / 4) = nI (tb σ.1 l (b / 4)) := by rw [hR.1 _ (by omega), hw.dr (by omega) (by omega) (prs_lay hl (by omega))]
  have e2 : h (.inr 8) (tb σ.1 l (b / 4)) = σ.1 (tb σ.1 l (b / 4)) := hR.1 _ (by omega)
  try simp (disch := omega) only [pk_mul, nI_add, n_lt0, n_le0, n_eq0, n_ge0, n_gt0, n_lt, n_le, n_eq, n_in, n_div, n_rem, n_rem2, n_m1, nI_clamp, bz_0, bz_1, tI_0, tI_bz, n4, n16, eq_self, Nat.reduceLT, Nat.reduceLeDiff, Nat.reduceEqDiff, Nat.reduceAdd, Nat.reduceMul, Nat.reduceDiv, Nat.reduceMod, Nat.le_refl, decide_eq_false_iff_not, Classical.not_not, true_and, and_true, false_and, and_false, not_true_eq_false, not_false_eq_true, forall_const, true_implies, false_implies, implies_true, ne_eq, e, Nat.zero_add, e2]
  suffices H : ¬ (¬ tb σ.1 l (b / 4) = 0 ∧ σ.1 (tb σ.1 l (b / 4)) ≤ nI 1) → EX (Kd sL (d + 3)) sL md_X4_owns (pU q) 3 [some (.inr (.inr (.inr 7))), some (.inl (nI l)), some (.inl (nI b)), some (.inl (nI (327 + 4 * l + b / 4))), some (.inl (nI (tb σ.1 l (b / 4)))), none, none] [] h by
    refine ⟨by omega, fun c => H (fun z => z.1 c), fun c => ⟨by omega, fun c2 => H (fun z => Int32.not_lt.mpr z.2 c2), fun c2 => ?_⟩⟩
    have hp := hp h OC.rf
    unfold own at hp
    rw [if_pos ⟨c, Int32.not_lt.mp c2⟩] at hp
    exact hp hR
  intro hneg
  refine EX.go (Kd_mono _ _) [false, false, false, false, false, false, true, true, false, false, false, false, false, false, false] 40 3 ?_
  dsimp only [wpc_s, wsl_t, wsl_f, gD_0, gD_s, ↓denB_n, pI_s, pG_s, pU_n, cb_X4_owns_0, cb_X4_owns_1, cb_X4_owns_2, cb_X4_owns_3, cb_X4_owns_4, cb_X4_owns_5, cb_X4_owns_6, cb_X4_owns_7, cb_X4_owns_8, cb_X4_owns_9, cb_X4_owns_10, cb_X4_owns_11, cb_X4_owns_12, cb_X4_owns_13, cb_X4_owns_14, ↓ev_iload_n_1, ↓ev_iload_n_2, ↓ev_iconst_4, ↓ev_idiv, ↓ev_calls_2_0_1, ↓ev_calls_2_1_1, ↓ev_calls_2_2_1, ↓ev_calls_2_3_1, ↓ev_calls_2_4_1, ↓ev_istore_n_3, ↓ev_aload_n_0, ↓ev_getf_4_0, ↓ev_iload_n_3, ↓ev_iald_o8, ↓ev_iald_o9, ↓ev_iald_o10, ↓ev_iald_o11, ↓ev_iald_o12, ↓ev_iald_o13, ↓ev_iald_o14, ↓ev_iald_o15, ↓ev_iald_o16, ↓ev_istore_4, ↓ev_iload_4, ↓ev_if_eq, ↓ev_iconst_0, ↓ev_iadd, ↓ev_iconst_1, ↓ev_icmp_gt, ↓ev_ret, ↓ev_callv_1_0_1, ↓ev_callv_1_1_1, ↓ev_callv_1_2_1, ↓ev_callv_1_3_1, ↓ev_callv_1_4_1, ↓ev_istore_5, ↓ev_if_ne, ↓ev_iload_5, ↓ev_callv_6_0_0, ↓ev_callv_6_1_0, ↓ev_callv_6_2_0, ↓ev_callv_6_3_0, ↓ev_callv_6_4_0, ↓ev_goto, ↓ev_callv_3_0_0, ↓ev_callv_3_1_0, ↓ev_callv_3_2_0, ↓ev_callv_3_3_0, ↓ev_callv_3_4_0, ↓ev_istore_6, ↓ev_iload_6, ↓ev_icmp_ge, ↓ev_bipush_64, ↓ev_imul, ↓ev_iinc_6_1, ↓ev_iconst_m1, Nat.reduceAdd]
  refine r_anew hR (fun r h1 hr hrn o1 t1 => ?_)
  rw [own_key hneg hrn] at hp
  have hz : ∀ k, k < 4 → (gt L (fun S => upd S (ncl σ).1 (nI 1)) (ncl σ).2).1 (64 + k) = nI 0 := fun k hk => by
    have := ncl_lt σ
    rw [gt_fr (fun S => pk_un (by omega)), ncl_S]
    exact hw.z k hk
  have hcell : ∀ k, k < 4 → (gt L (fun S => upd S (ncl σ).1 (nI 1)) (ncl σ).2).1 (64 + 4 * tb σ.1 l (b / 4) + k) = nI (dt σ.1 (tb σ.1 l (b / 4)) k) := fun k hk => by
    have := ncl_lt σ
    rw [gt_fr (fun S => pk_un (by omega)), ncl_S]
    exact hw.cd hod hk
  generalize hold : tb σ.1 l (b / 4) = old at hp hol hcell ⊢
  have hdl : ∀ k, dt σ.1 old k < 64 := fun k => dt_lt _ _ _
  generalize hD : dt σ.1 old = D at hcell hdl
  clear hneg e e2 hod
  generalize gt L (fun S => upd S (ncl σ).1 (nI 1)) (ncl σ).2 = τ at hp t1 hz hcell
  have J12 : ∀ (h2 : mH) (τ2 : Sg) (o6 : Option mV), OC h h2 → RR h2 L τ2 → (∀ h', OC h h' → RR h' L (addc L old (-1) (gt L (fun S => upd S (327 + 4 * l + b / 4) (nI r)) τ2)) → q h') → EX (Kd sL (d + 3)) sL md_X4_owns (pU q) 12 [some (.inr (.inr (.inr 7))), some (.inl (nI l)), some (.inl (nI b)), some (.inl (nI (327 + 4 * l + b / 4))), some (.inl (nI old)), some (.inl (nI r)), o6] [] h2 := by
    intro h2 τ2 o6 o2 t2 hp
    refine EX.go (Kd_mono _ _) [false, false, false, false, false, false, false, true, false, false, false, false, false, false, false] 40 12 ?_
    dsimp only [wpc_s, wsl_t, wsl_f, gD_0, gD_s, ↓denB_n, pI_s, pG_s, pU_n, cb_X4_owns_0, cb_X4_owns_1, cb_X4_owns_2, cb_X4_owns_3, cb_X4_owns_4, cb_X4_owns_5, cb_X4_owns_6, cb_X4_owns_7, cb_X4_owns_8, cb_X4_owns_9, cb_X4_owns_10, cb_X4_owns_11, cb_X4_owns_12, cb_X4_owns_13, cb_X4_owns_14, ↓ev_iload_n_1, ↓ev_iload_n_2, ↓ev_iconst_4, ↓ev_idiv, ↓ev_calls_2_0_1, ↓ev_calls_2_1_1, ↓ev_calls_2_2_1, ↓ev_calls_2_3_1, ↓ev_calls_2_4_1, ↓ev_istore_n_3, ↓ev_aload_n_0, ↓ev_getf_4_0, ↓ev_iload_n_3, ↓ev_iald_o8, ↓ev_iald_o9, ↓ev_iald_o10, ↓ev_iald_o11, ↓ev_iald_o12, ↓ev_iald_o13, ↓ev_iald_o14, ↓ev_iald_o15, ↓ev_iald_o16, ↓ev_istore_4, ↓ev_iload_4, ↓ev_if_eq, ↓ev_iconst_0, ↓ev_iadd, ↓ev_iconst_1, ↓ev_icmp_gt, ↓ev_ret, ↓ev_callv_1_0_1, ↓ev_callv_1_1_1, ↓ev_callv_1_2_1, ↓ev_callv_1_3_1, ↓ev_callv_1_4_1, ↓ev_istore_5, ↓ev_if_ne, ↓ev_iload_5, ↓ev_callv_6_0_0, ↓ev_callv_6_1_0, ↓ev_callv_6_2_0, ↓ev_callv_6_3_0, ↓ev_callv_6_4_0, ↓ev_goto, ↓ev_callv_3_0_0, ↓ev_callv_3_1_0, ↓ev_callv_3_2_0, ↓ev_callv_3_3_0, ↓ev_callv_3_4_0, ↓ev_istore_6, ↓ev_iload_6, ↓ev_icmp_ge, ↓ev_bipush_64, ↓ev_imul, ↓ev_iinc_6_1, ↓ev_iconst_m1, Nat.reduceAdd]
    refine r_sets t2 (by omega) (fun h3 o3 t3 => ?_)
    try simp (disch := omega) only [pk_mul, nI_add, n_lt0, n_le0, n_eq0, n_ge0, n_gt0, n_lt, n_le, n_eq, n_in, n_div, n_rem, n_rem2, n_m1, nI_clamp, bz_0, bz_1, tI_0, tI_bz, n4, n16, eq_self, Nat.reduceLT, Nat.reduceLeDiff, Nat.reduceEqDiff, Nat.reduceAdd, Nat.reduceMul, Nat.reduceDiv, Nat.reduceMod, Nat.le_refl, decide_eq_false_iff_not, Classical.not_not, true_and, and_true, false_and, and_false, not_true_eq_false, not_false_eq_true, forall_const, true_implies, false_implies, implies_true, ne_eq]
    refine ⟨fun c => ?_, fun c => ?_⟩
    · subst c
      exact hp h3 (o2.tr o3) t3
    · exact r_addc t3 c hol (fun h4 o4 t4 => hp h4 (o2.tr (o3.tr o4)) t4)
  have J7 : ∀ (f k : Nat) (h2 : mH), ¬ old = 0 → k + f = 4 → OC h h2 → ∀ τ2 : Sg, (∀ k, k < 4 → τ2.1 (64 + 4 * old + k) = nI (D k)) → RR h2 L (incF L old k τ2) → (∀ h', OC h h' → RR h' L (addc L old (-1) (gt L (fun S => upd S (327 + 4 * l + b / 4) (nI r)) (incF L old 4 τ2))) → q h') → EX (Kd sL (d + 3)) sL md_X4_owns (pU q) 7 [some (.inr (.inr (.inr 7))), some (.inl (nI l)), some (.inl (nI b)), some (.inl (nI (327 + 4 * l + b / 4))), some (.inl (nI old)), some (.inl (nI r)), some (.inl (nI k))] [] h2 := by
    intro f
    induction f with
    | zero =>
      intro k h2 ho hk o2 τ2 hc t2 hp
      refine EX.go (Kd_mono _ _) [false, false, false, false, false, false, false, true, false, false, false, false, true, false, false] 40 7 ?_
      dsimp only [wpc_s, wsl_t, wsl_f, gD_0, gD_s, ↓denB_n, pI_s, pG_s, pU_n, cb_X4_owns_0, cb_X4_owns_1, cb_X4_owns_2, cb_X4_owns_3, cb_X4_owns_4, cb_X4_owns_5, cb_X4_owns_6, cb_X4_owns_7, cb_X4_owns_8, cb_X4_owns_9, cb_X4_owns_10, cb_X4_owns_11, cb_X4_owns_12, cb_X4_owns_13, cb_X4_owns_14, ↓ev_iload_n_1, ↓ev_iload_n_2, ↓ev_iconst_4, ↓ev_idiv, ↓ev_calls_2_0_1, ↓ev_calls_2_1_1, ↓ev_calls_2_2_1, ↓ev_calls_2_3_1, ↓ev_calls_2_4_1, ↓ev_istore_n_3, ↓ev_aload_n_0, ↓ev_getf_4_0, ↓ev_iload_n_3, ↓ev_iald_o8, ↓ev_iald_o9, ↓ev_iald_o10, ↓ev_iald_o11, ↓ev_iald_o12, ↓ev_iald_o13, ↓ev_iald_o14, ↓ev_iald_o15, ↓ev_iald_o16, ↓ev_istore_4, ↓ev_iload_4, ↓ev_if_eq, ↓ev_iconst_0, ↓ev_iadd, ↓ev_iconst_1, ↓ev_icmp_gt, ↓ev_ret, ↓ev_callv_1_0_1, ↓ev_callv_1_1_1, ↓ev_callv_1_2_1, ↓ev_callv_1_3_1, ↓ev_callv_1_4_1, ↓ev_istore_5, ↓ev_if_ne, ↓ev_iload_5, ↓ev_callv_6_0_0, ↓ev_callv_6_1_0, ↓ev_callv_6_2_0, ↓ev_callv_6_3_0, ↓ev_callv_6_4_0, ↓ev_goto, ↓ev_callv_3_0_0, ↓ev_callv_3_1_0, ↓ev_callv_3_2_0, ↓ev_callv_3_3_0, ↓ev_callv_3_4_0, ↓ev_istore_6, ↓ev_iload_6, ↓ev_icmp_ge, ↓ev_bipush_64, ↓ev_imul, ↓ev_iinc_6_1, ↓ev_iconst_m1, Nat.reduceAdd]
      try simp (disch := omega) only [pk_mul, nI_add, n_lt0, n_le0, n_eq0, n_ge0, n_gt0, n_lt, n_le, n_eq, n_in, n_div, n_rem, n_rem2, n_m1, nI_clamp, bz_0, bz_1, tI_0, tI_bz, n4, n16, eq_self, Nat.reduceLT, Nat.reduceLeDiff, Nat.reduceEqDiff, Nat.reduceAdd, Nat.reduceMul, Nat.reduceDiv, Nat.reduceMod, Nat.le_refl, decide_eq_false_iff_not, Classical.not_not, true_and, and_true, false_and, and_false, not_true_eq_false, not_false_eq_true, forall_const, true_implies, false_implies, implies_true, ne_eq]
      rw [show k = 4 by omega] at t2
      exact ⟨fun _ => J12 h2 _ _ o2 t2 hp, fun c2 => absurd (show 4 ≤ k by omega) c2⟩
    | succ f ih =>
      intro k h2 ho hk o2 τ2 hc t2 hp
      refine EX.go (Kd_mono _ _) [false, false, false, false, false, false, false, true, false, false, false, true, true, false, false] 40 7 ?_
      dsimp only [wpc_s, wsl_t, wsl_f, gD_0, gD_s, ↓denB_n, pI_s, pG_s, pU_n, cb_X4_owns_0, cb_X4_owns_1, cb_X4_owns_2, cb_X4_owns_3, cb_X4_owns_4, cb_X4_owns_5, cb_X4_owns_6, cb_X4_owns_7, cb_X4_owns_8, cb_X4_owns_9, cb_X4_owns_10, cb_X4_owns_11, cb_X4_owns_12, cb_X4_owns_13, cb_X4_owns_14, ↓ev_iload_n_1, ↓ev_iload_n_2, ↓ev_iconst_4, ↓ev_idiv, ↓ev_calls_2_0_1, ↓ev_calls_2_1_1, ↓ev_calls_2_2_1, ↓ev_calls_2_3_1, ↓ev_calls_2_4_1, ↓ev_istore_n_3, ↓ev_aload_n_0, ↓ev_getf_4_0, ↓ev_iload_n_3, ↓ev_iald_o8, ↓ev_iald_o9, ↓ev_iald_o10, ↓ev_iald_o11, ↓ev_iald_o12, ↓ev_iald_o13, ↓ev_iald_o14, ↓ev_iald_o15, ↓ev_iald_o16, ↓ev_istore_4, ↓ev_iload_4, ↓ev_if_eq, ↓ev_iconst_0, ↓ev_iadd, ↓ev_iconst_1, ↓ev_icmp_gt, ↓ev_ret, ↓ev_callv_1_0_1, ↓ev_callv_1_1_1, ↓ev_callv_1_2_1, ↓ev_callv_1_3_1, ↓ev_callv_1_4_1, ↓ev_istore_5, ↓ev_if_ne, ↓ev_iload_5, ↓ev_callv_6_0_0, ↓ev_callv_6_1_0, ↓ev_callv_6_2_0, ↓ev_callv_6_3_0, ↓ev_callv_6_4_0, ↓ev_goto, ↓ev_callv_3_0_0, ↓ev_callv_3_1_0, ↓ev_callv_3_2_0, ↓ev_callv_3_3_0, ↓ev_callv_3_4_0, ↓ev_istore_6, ↓ev_iload_6, ↓ev_icmp_ge, ↓ev_bipush_64, ↓ev_imul, ↓ev_iinc_6_1, ↓ev_iconst_m1, Nat.reduceAdd]
      have e3 : (incF L old k τ2).1 (64 + 4 * old + k) = nI (D k) := by rw [incF_fr (by omega)]; exact hc k (by omega)
      have e1 : h2 (.inr 8) (64 + 4 * old + k) = nI (D k) := by rw [t2.1 _ (by omega), e3]
      have e2 : dt (incF L old k τ2).1 old k = D k := by rw [dt_pos ho, e3, cl_n (hdl k)]
      have hdk := hdl k
      try simp (disch := omega) only [pk_mul, nI_add, n_lt0, n_le0, n_eq0, n_ge0, n_gt0, n_lt, n_le, n_eq, n_in, n_div, n_rem, n_rem2, n_m1, nI_clamp, bz_0, bz_1, tI_0, tI_bz, n4, n16, eq_self, Nat.reduceLT, Nat.reduceLeDiff, Nat.reduceEqDiff, Nat.reduceAdd, Nat.reduceMul, Nat.reduceDiv, Nat.reduceMod, Nat.le_refl, decide_eq_false_iff_not, Classical.not_not, true_and, and_true, false_and, and_false, not_true_eq_false, not_false_eq_true, forall_const, true_implies, false_implies, implies_true, ne_eq, e1, ho]
      have J11 : ∀ (h3 : mH), OC h h3 → RR h3 L (addc L (D k) (nI 1) (incF L old k τ2)) → EX (Kd sL (d + 3)) sL md_X4_owns (pU q) 11 [some (.inr (.inr (.inr 7))), some (.inl (nI l)), some (.inl (nI b)), some (.inl (nI (327 + 4 * l + b / 4))), some (.inl (nI old)), some (.inl (nI r)), some (.inl (nI k))] [] h3 := by
        intro h3 o3 t3
        refine EX.go (Kd_mono _ _) [false, false, false, false, false, false, false, true, false, false, false, false, false, false, false] 40 11 ?_
        dsimp only [wpc_s, wsl_t, wsl_f, gD_0, gD_s, ↓denB_n, pI_s, pG_s, pU_n, cb_X4_owns_0, cb_X4_owns_1, cb_X4_owns_2, cb_X4_owns_3, cb_X4_owns_4, cb_X4_owns_5, cb_X4_owns_6, cb_X4_owns_7, cb_X4_owns_8, cb_X4_owns_9, cb_X4_owns_10, cb_X4_owns_11, cb_X4_owns_12, cb_X4_owns_13, cb_X4_owns_14, ↓ev_iload_n_1, ↓ev_iload_n_2, ↓ev_iconst_4, ↓ev_idiv, ↓ev_calls_2_0_1, ↓ev_calls_2_1_1, ↓ev_calls_2_2_1, ↓ev_calls_2_3_1, ↓ev_calls_2_4_1, ↓ev_istore_n_3, ↓ev_aload_n_0, ↓ev_getf_4_0, ↓ev_iload_n_3, ↓ev_iald_o8, ↓ev_iald_o9, ↓ev_iald_o10, ↓ev_iald_o11, ↓ev_iald_o12, ↓ev_iald_o13, ↓ev_iald_o14, ↓ev_iald_o15, ↓ev_iald_o16, ↓ev_istore_4, ↓ev_iload_4, ↓ev_if_eq, ↓ev_iconst_0, ↓ev_iadd, ↓ev_iconst_1, ↓ev_icmp_gt, ↓ev_ret, ↓ev_callv_1_0_1, ↓ev_callv_1_1_1, ↓ev_callv_1_2_1, ↓ev_callv_1_3_1, ↓ev_callv_1_4_1, ↓ev_istore_5, ↓ev_if_ne, ↓ev_iload_5, ↓ev_callv_6_0_0, ↓ev_callv_6_1_0, ↓ev_callv_6_2_0, ↓ev_callv_6_3_0, ↓ev_callv_6_4_0, ↓ev_goto, ↓ev_callv_3_0_0, ↓ev_callv_3_1_0, ↓ev_callv_3_2_0, ↓ev_callv_3_3_0, ↓ev_callv_3_4_0, ↓ev_istore_6, ↓ev_iload_6, ↓ev_icmp_ge, ↓ev_bipush_64, ↓ev_imul, ↓ev_iinc_6_1, ↓ev_iconst_m1, Nat.reduceAdd]
        try simp (disch := omega) only [pk_mul, nI_add, n_lt0, n_le0, n_eq0, n_ge0, n_gt0, n_lt, n_le, n_eq, n_in, n_div, n_rem, n_rem2, n_m1, nI_clamp, bz_0, bz_1, tI_0, tI_bz, n4, n16, eq_self, Nat.reduceLT, Nat.reduceLeDiff, Nat.reduceEqDiff, Nat.reduceAdd, Nat.reduceMul, Nat.reduceDiv, Nat.reduceMod, Nat.le_refl, decide_eq_false_iff_not, Classical.not_not, true_and, and_true, false_and, and_false, not_true_eq_false, not_false_eq_true, forall_const, true_implies, false_implies, implies_true, ne_eq]
        refine ih (k + 1) h3 ho (by omega) o3 τ2 hc ?_ hp
        unfold incF
        rw [e2]
        exact t3
      refine ⟨fun c2 => absurd c2 (by omega), fun _ => ⟨by omega, fun c => ?_, fun c => ?_⟩⟩
      · refine J11 h2 o2 ?_
        rw [c]
        exact t2
      · exact ⟨by omega, r_addc t2 c hdk (fun h3 o3 t3 => J11 h3 (o2.tr o3) t3)⟩
  have J6 : ∀ (h2 : mH), OC h h2 → RR h2 L (gt L (fun S => cp4 S old r) τ) → EX (Kd sL (d + 3)) sL md_X4_owns (pU q) 6 [some (.inr (.inr (.inr 7))), some (.inl (nI l)), some (.inl (nI b)), some (.inl (nI (327 + 4 * l + b / 4))), some (.inl (nI old)), some (.inl (nI r)), none] [] h2 := by
    intro h2 o2 t2
    refine EX.go (Kd_mono _ _) [false, false, false, false, false, false, false, true, false, false, false, false, false, false, false] 40 6 ?_
    dsimp only [wpc_s, wsl_t, wsl_f, gD_0, gD_s, ↓denB_n, pI_s, pG_s, pU_n, cb_X4_owns_0, cb_X4_owns_1, cb_X4_owns_2, cb_X4_owns_3, cb_X4_owns_4, cb_X4_owns_5, cb_X4_owns_6, cb_X4_owns_7, cb_X4_owns_8, cb_X4_owns_9, cb_X4_owns_10, cb_X4_owns_11, cb_X4_owns_12, cb_X4_owns_13, cb_X4_owns_14, ↓ev_iload_n_1, ↓ev_iload_n_2, ↓ev_iconst_4, ↓ev_idiv, ↓ev_calls_2_0_1, ↓ev_calls_2_1_1, ↓ev_calls_2_2_1, ↓ev_calls_2_3_1, ↓ev_calls_2_4_1, ↓ev_istore_n_3, ↓ev_aload_n_0, ↓ev_getf_4_0, ↓ev_iload_n_3, ↓ev_iald_o8, ↓ev_iald_o9, ↓ev_iald_o10, ↓ev_iald_o11, ↓ev_iald_o12, ↓ev_iald_o13, ↓ev_iald_o14, ↓ev_iald_o15, ↓ev_iald_o16, ↓ev_istore_4, ↓ev_iload_4, ↓ev_if_eq, ↓ev_iconst_0, ↓ev_iadd, ↓ev_iconst_1, ↓ev_icmp_gt, ↓ev_ret, ↓ev_callv_1_0_1, ↓ev_callv_1_1_1, ↓ev_callv_1_2_1, ↓ev_callv_1_3_1, ↓ev_callv_1_4_1, ↓ev_istore_5, ↓ev_if_ne, ↓ev_iload_5, ↓ev_callv_6_0_0, ↓ev_callv_6_1_0, ↓ev_callv_6_2_0, ↓ev_callv_6_3_0, ↓ev_callv_6_4_0, ↓ev_goto, ↓ev_callv_3_0_0, ↓ev_callv_3_1_0, ↓ev_callv_3_2_0, ↓ev_callv_3_3_0, ↓ev_callv_3_4_0, ↓ev_istore_6, ↓ev_iload_6, ↓ev_icmp_ge, ↓ev_bipush_64, ↓ev_imul, ↓ev_iinc_6_1, ↓ev_iconst_m1, Nat.reduceAdd]
    by_cases c : old = 0
    · subst c
      refine EX.go (Kd_mono _ _) [false, false, false, false, false, false, false, true, false, false, false, false, true, false, false] 40 7 ?_
      dsimp only [wpc_s, wsl_t, wsl_f, gD_0, gD_s, ↓denB_n, pI_s, pG_s, pU_n, cb_X4_owns_0, cb_X4_owns_1, cb_X4_owns_2, cb_X4_owns_3, cb_X4_owns_4, cb_X4_owns_5, cb_X4_owns_6, cb_X4_owns_7, cb_X4_owns_8, cb_X4_owns_9, cb_X4_owns_10, cb_X4_owns_11, cb_X4_owns_12, cb_X4_owns_13, cb_X4_owns_14, ↓ev_iload_n_1, ↓ev_iload_n_2, ↓ev_iconst_4, ↓ev_idiv, ↓ev_calls_2_0_1, ↓ev_calls_2_1_1, ↓ev_calls_2_2_1, ↓ev_calls_2_3_1, ↓ev_calls_2_4_1, ↓ev_istore_n_3, ↓ev_aload_n_0, ↓ev_getf_4_0, ↓ev_iload_n_3, ↓ev_iald_o8, ↓ev_iald_o9, ↓ev_iald_o10, ↓ev_iald_o11, ↓ev_iald_o12, ↓ev_iald_o13, ↓ev_iald_o14, ↓ev_iald_o15, ↓ev_iald_o16, ↓ev_istore_4, ↓ev_iload_4, ↓ev_if_eq, ↓ev_iconst_0, ↓ev_iadd, ↓ev_iconst_1, ↓ev_icmp_gt, ↓ev_ret, ↓ev_callv_1_0_1, ↓ev_callv_1_1_1, ↓ev_callv_1_2_1, ↓ev_callv_1_3_1, ↓ev_callv_1_4_1, ↓ev_istore_5, ↓ev_if_ne, ↓ev_iload_5, ↓ev_callv_6_0_0, ↓ev_callv_6_1_0, ↓ev_callv_6_2_0, ↓ev_callv_6_3_0, ↓ev_callv_6_4_0, ↓ev_goto, ↓ev_callv_3_0_0, ↓ev_callv_3_1_0, ↓ev_callv_3_2_0, ↓ev_callv_3_3_0, ↓ev_callv_3_4_0, ↓ev_istore_6, ↓ev_iload_6, ↓ev_icmp_ge, ↓ev_bipush_64, ↓ev_imul, ↓ev_iinc_6_1, ↓ev_iconst_m1, Nat.reduceAdd]
      try simp (disch := omega) only [pk_mul, nI_add, n_lt0, n_le0, n_eq0, n_ge0, n_gt0, n_lt, n_le, n_eq, n_in, n_div, n_rem, n_rem2, n_m1, nI_clamp, bz_0, bz_1, tI_0, tI_bz, n4, n16, eq_self, Nat.reduceLT, Nat.reduceLeDiff, Nat.reduceEqDiff, Nat.reduceAdd, Nat.reduceMul, Nat.reduceDiv, Nat.reduceMod, Nat.le_refl, decide_eq_false_iff_not, Classical.not_not, true_and, and_true, false_and, and_false, not_true_eq_false, not_false_eq_true, forall_const, true_implies, false_implies, implies_true, ne_eq]
      rw [incF_0] at hp
      exact J12 h2 _ _ o2 t2 hp
    · exact J7 4 0 h2 c rfl o2 (gt L (fun S => cp4 S old r) τ) (fun k hk => (gt_fr (f := fun S => cp4 S old r) (fun S => cp4_self hk) τ).trans (hcell k hk)) t2 hp
  try simp (disch := omega) only [pk_mul, nI_add, n_lt0, n_le0, n_eq0, n_ge0, n_gt0, n_lt, n_le, n_eq, n_in, n_div, n_rem, n_rem2, n_m1, nI_clamp, bz_0, bz_1, tI_0, tI_bz, n4, n16, eq_self, Nat.reduceLT, Nat.reduceLeDiff, Nat.reduceEqDiff, Nat.reduceAdd, Nat.reduceMul, Nat.reduceDiv, Nat.reduceMod, Nat.le_refl, decide_eq_false_iff_not, Classical.not_not, true_and, and_true, false_and, and_false, not_true_eq_false, not_false_eq_true, forall_const, true_implies, false_implies, implies_true, ne_eq]
  refine ⟨fun c => ?_, fun c => ?_⟩
  · exact r_copiesCells t1 hol hr (fun h2 o2 t2 => J6 h2 (o1.tr o2) t2)
  · refine r_setsFour t1 hr (fun h2 o2 t2 => J6 h2 (o1.tr o2) ?_)
    subst c
    rw [gt_cg (f' := fun S => four S r (nI 0) (nI 0) (nI 0) (nI 0)) (fun _ => (four_0 hz).symm)]
    exact t2
theorem rlk_hz {t : Nat} : ∀ (f k : Nat) (τ : Sg), ¬ τ.2.2 = 0 → rlk L t f k τ = τ
  | 0, _, _, _ => rfl
  | f + 1, k, τ, z => by
    unfold rlk
    rw [addc_hz z, rlk_hz f (k + 1) τ z]
    split <;> rfl
theorem r_releases {t : Nat} (hR : RR h L σ) (ht : t < 64) (hc : ∀ k, k < 4 → σ.1 (64 + 4 * t + k) = nI (dt σ.1 t k)) (hne : ¬ t = 0 → ∀ k, k < 4 → ¬ dt σ.1 t k = t) (hp : ∀ h', OC h h' → RR h' L (rel1 L t σ) → q h') : mU (Kd sL (d + 4)) 129 [.inr (.inr (.inr 7)), .inl (nI t)] h q := by
  refine ke_X4_releases ?_
  refine EX.go (Kd_mono _ _) [false, false, false, false, false, true, false, false, false, false] 40 0 ?_
  dsimp only [wpc_s, wsl_t, wsl_f, gD_0, gD_s, ↓denB_n, pI_s, pG_s, pU_n, cb_X4_releases_0, cb_X4_releases_1, cb_X4_releases_2, cb_X4_releases_3, cb_X4_releases_4, cb_X4_releases_5, cb_X4_releases_6, cb_X4_releases_7, cb_X4_releases_8, cb_X4_releases_9, ↓ev_iload_n_1, ↓ev_if_ne, ↓ev_ret, ↓ev_aload_n_0, ↓ev_iconst_m1, ↓ev_callv_3_0_0, ↓ev_callv_3_1_0, ↓ev_callv_3_2_0, ↓ev_callv_3_3_0, ↓ev_callv_3_4_0, ↓ev_getf_4_0, ↓ev_iconst_0, ↓ev_iadd, ↓ev_iald_o8, ↓ev_iald_o9, ↓ev_iald_o10, ↓ev_iald_o11, ↓ev_iald_o12, ↓ev_iald_o13, ↓ev_iald_o14, ↓ev_iald_o15, ↓ev_iald_o16, ↓ev_if_eq, ↓ev_istore_n_2, ↓ev_iload_n_2, ↓ev_iconst_4, ↓ev_icmp_ge, ↓ev_bipush_64, ↓ev_imul, ↓ev_iinc_2_1, ↓ev_goto, Nat.reduceAdd]
  try simp (disch := omega) only [pk_mul, nI_add, n_lt0, n_le0, n_eq0, n_ge0, n_gt0, n_lt, n_le, n_eq, n_in, n_div, n_rem, n_rem2, n_m1, nI_clamp, bz_0, bz_1, tI_0, tI_bz, n4, n16, eq_self, Nat.reduceLT, Nat.reduceLeDiff, Nat.reduceEqDiff, Nat.reduceAdd, Nat.reduceMul, Nat.reduceDiv, Nat.reduceMod, Nat.le_refl, decide_eq_false_iff_not, Classical.not_not, true_and, and_true, false_and, and_false, not_true_eq_false, not_false_eq_true, forall_const, true_implies, false_implies, implies_true, ne_eq]
  unfold rel1 at hp
  refine ⟨fun c => ?_, fun c => ?_⟩
  · rw [if_neg c] at hp
    refine r_addc hR c ht (fun h1 o1 t1 => ?_)
    have hhi : ∀ j, 64 ≤ j → (addc L t (-1) σ).1 j = σ.1 j := fun j hj => addc_hi ht hj σ
    generalize addc L t (-1) σ = τ at hp t1 hhi
    have e : h1 (.inr 8) t = τ.1 t := t1.1 t (by omega)
    try simp (disch := omega) only [pk_mul, nI_add, n_lt0, n_le0, n_eq0, n_ge0, n_gt0, n_lt, n_le, n_eq, n_in, n_div, n_rem, n_rem2, n_m1, nI_clamp, bz_0, bz_1, tI_0, tI_bz, n4, n16, eq_self, Nat.reduceLT, Nat.reduceLeDiff, Nat.reduceEqDiff, Nat.reduceAdd, Nat.reduceMul, Nat.reduceDiv, Nat.reduceMod, Nat.le_refl, decide_eq_false_iff_not, Classical.not_not, true_and, and_true, false_and, and_false, not_true_eq_false, not_false_eq_true, forall_const, true_implies, false_implies, implies_true, ne_eq, Nat.zero_add, e]
    refine ⟨by omega, fun c2 => ?_, fun c2 => ?_⟩
    · suffices H : ∀ (f k : Nat) (h2 : mH) (τ2 : Sg), k + f = 4 → OC h h2 → RR h2 L τ2 → τ2.1 t = 0 → (∀ j, 64 ≤ j → τ2.1 j = σ.1 j) → (∀ h', OC h h' → RR h' L (rlk L t f k τ2) → q h') → EX (Kd sL (d + 3)) sL md_X4_releases (pU q) 5 [some (.inr (.inr (.inr 7))), some (.inl (nI t)), some (.inl (nI k))] [] h2 from H 4 0 h1 τ rfl o1 t1 c2 hhi hp
      intro f
      induction f with
      | zero =>
        intro k h2 τ2 hk o2 t2 h0 hhi hp
        refine EX.go (Kd_mono _ _) [false, false, false, false, false, true, false, false, false, false] 40 5 ?_
        dsimp only [wpc_s, wsl_t, wsl_f, gD_0, gD_s, ↓denB_n, pI_s, pG_s, pU_n, cb_X4_releases_0, cb_X4_releases_1, cb_X4_releases_2, cb_X4_releases_3, cb_X4_releases_4, cb_X4_releases_5, cb_X4_releases_6, cb_X4_releases_7, cb_X4_releases_8, cb_X4_releases_9, ↓ev_iload_n_1, ↓ev_if_ne, ↓ev_ret, ↓ev_aload_n_0, ↓ev_iconst_m1, ↓ev_callv_3_0_0, ↓ev_callv_3_1_0, ↓ev_callv_3_2_0, ↓ev_callv_3_3_0, ↓ev_callv_3_4_0, ↓ev_getf_4_0, ↓ev_iconst_0, ↓ev_iadd, ↓ev_iald_o8, ↓ev_iald_o9, ↓ev_iald_o10, ↓ev_iald_o11, ↓ev_iald_o12, ↓ev_iald_o13, ↓ev_iald_o14, ↓ev_iald_o15, ↓ev_iald_o16, ↓ev_if_eq, ↓ev_istore_n_2, ↓ev_iload_n_2, ↓ev_iconst_4, ↓ev_icmp_ge, ↓ev_bipush_64, ↓ev_imul, ↓ev_iinc_2_1, ↓ev_goto, Nat.reduceAdd]
        try simp (disch := omega) only [pk_mul, nI_add, n_lt0, n_le0, n_eq0, n_ge0, n_gt0, n_lt, n_le, n_eq, n_in, n_div, n_rem, n_rem2, n_m1, nI_clamp, bz_0, bz_1, tI_0, tI_bz, n4, n16, eq_self, Nat.reduceLT, Nat.reduceLeDiff, Nat.reduceEqDiff, Nat.reduceAdd, Nat.reduceMul, Nat.reduceDiv, Nat.reduceMod, Nat.le_refl, decide_eq_false_iff_not, Classical.not_not, true_and, and_true, false_and, and_false, not_true_eq_false, not_false_eq_true, forall_const, true_implies, false_implies, implies_true, ne_eq]
        exact ⟨fun _ => hp h2 o2 t2, fun c2 => absurd (show 4 ≤ k by omega) c2⟩
      | succ f ih =>
        intro k h2 τ2 hk o2 t2 h0 hhi hp
        refine EX.go (Kd_mono _ _) [false, false, false, false, false, true, false, false, false, false] 40 5 ?_
        dsimp only [wpc_s, wsl_t, wsl_f, gD_0, gD_s, ↓denB_n, pI_s, pG_s, pU_n, cb_X4_releases_0, cb_X4_releases_1, cb_X4_releases_2, cb_X4_releases_3, cb_X4_releases_4, cb_X4_releases_5, cb_X4_releases_6, cb_X4_releases_7, cb_X4_releases_8, cb_X4_releases_9, ↓ev_iload_n_1, ↓ev_if_ne, ↓ev_ret, ↓ev_aload_n_0, ↓ev_iconst_m1, ↓ev_callv_3_0_0, ↓ev_callv_3_1_0, ↓ev_callv_3_2_0, ↓ev_callv_3_3_0, ↓ev_callv_3_4_0, ↓ev_getf_4_0, ↓ev_iconst_0, ↓ev_iadd, ↓ev_iald_o8, ↓ev_iald_o9, ↓ev_iald_o10, ↓ev_iald_o11, ↓ev_iald_o12, ↓ev_iald_o13, ↓ev_iald_o14, ↓ev_iald_o15, ↓ev_iald_o16, ↓ev_if_eq, ↓ev_istore_n_2, ↓ev_iload_n_2, ↓ev_iconst_4, ↓ev_icmp_ge, ↓ev_bipush_64, ↓ev_imul, ↓ev_iinc_2_1, ↓ev_goto, Nat.reduceAdd]
        have e3 : τ2.1 (64 + 4 * t + k) = nI (dt σ.1 t k) := by rw [hhi _ (by omega)]; exact hc k (by omega)
        have e1 : h2 (.inr 8) (64 + 4 * t + k) = nI (dt σ.1 t k) := by rw [t2.1 _ (by omega), e3]
        have hdl := dt_lt σ.1 t k
        have e2 : dt τ2.1 t k = dt σ.1 t k := by rw [dt_pos c, e3, cl_n hdl]
        try simp (disch := omega) only [pk_mul, nI_add, n_lt0, n_le0, n_eq0, n_ge0, n_gt0, n_lt, n_le, n_eq, n_in, n_div, n_rem, n_rem2, n_m1, nI_clamp, bz_0, bz_1, tI_0, tI_bz, n4, n16, eq_self, Nat.reduceLT, Nat.reduceLeDiff, Nat.reduceEqDiff, Nat.reduceAdd, Nat.reduceMul, Nat.reduceDiv, Nat.reduceMod, Nat.le_refl, decide_eq_false_iff_not, Classical.not_not, true_and, and_true, false_and, and_false, not_true_eq_false, not_false_eq_true, forall_const, true_implies, false_implies, implies_true, ne_eq, e1]
        unfold rlk at hp
        rw [if_pos h0, e2] at hp
        refine ⟨fun c2 => absurd c2 (by omega), fun _ => ⟨by omega, fun c3 => ?_, fun c3 => ⟨by omega, ?_⟩⟩⟩
        · rw [c3] at hp
          exact ih (k + 1) h2 τ2 (by omega) o2 t2 h0 hhi hp
        · refine r_addc t2 c3 hdl (fun h3 o3 t3 => ?_)
          refine ih (k + 1) h3 _ (by omega) (o2.tr o3) t3 ?_ (fun j hj => ?_) hp
          · unfold addc
            rw [if_neg c3, gt_fr (fun S => pk_un (fun z => hne c k (by omega) z.symm))]
            exact h0
          · rw [addc_hi hdl hj, hhi j hj]
    · unfold rlk at hp
      rw [if_neg c2] at hp
      exact hp h1 o1 t1
  · rw [if_pos c] at hp
    exact hp h OC.rf hR
end ROWN
