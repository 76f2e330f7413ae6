section PB6
variable {sL d : Nat} {h : mH} {g : Gs} {p : Int32 → mH → Prop}
/-- the tape's cells, all else as it was -/
theorem CG.tp {h' : mH} {n : Nat} {f : Nat → Nat} (hG : CG h g) (ho : ∀ r, r ≠ .inr 4 → r ≠ .inr 5 → h' r = h r) (h4 : h' (.inr 4) 2 = nI n) (hn : n ≤ 120) (h5 : ∀ j, j < n → h' (.inr 5) j = nI (f j)) : CG h' (gtp g n f) := by
  obtain ⟨q1, q2, q3, q4, q5, q6, q7, q8⟩ := hG
  have hcr : ∀ (i : Fin 3) (S : St), CR h i S → CR h' i S := by
    intro i S hC
    obtain ⟨w1, w2, w3, w4, w5, w6, w7, w8⟩ := hC
    refine ⟨?_, ?_, ?_, ?_, ?_, ?_, w7, ?_⟩
    all_goals (rw [ho _ (by simp) (by simp)]; assumption)
  refine ⟨hcr _ _ q1, fun z => hcr _ _ (q2 z), ?_, ?_, ?_, h4, hn, h5⟩
  all_goals (rw [ho _ (by simp) (by simp)]; assumption)
theorem fx_tp {h' : mH} (ho : ∀ r, r ≠ .inr 4 → r ≠ .inr 5 → h' r = h r) : FW h h' := fun n hn => ho _ (fun z => by cases z; omega) (fun z => by cases z; omega)
theorem k_append {b : Int32} {n : Nat} {p : mH → Prop} (h4 : h (.inr 4) 2 = nI n) (hn : n < 120) (hp : p (hup (hup h (.inr 5) n b) (.inr 4) 2 (nI (n + 1)))) : mU (Kd sL (d + 1)) 28 [.inr (.inr (.inr 4)), .inl b] h p := by
  refine ke_X1_append ?_
  refine EX.go (Kd_mono _ _) [false, false, false] 40 0 ?_
  dsimp only [wpc_s, wsl_t, wsl_f, gD_0, gD_s, ↓denB_n, pI_s, pG_s, pU_n, cb_X1_append_0, cb_X1_append_1, cb_X1_append_2, ↓ev_aload_n_0, ↓ev_getf_1_2, ↓ev_bipush_120, ↓ev_icmp_ge, ↓ev_getf_1_0, ↓ev_iload_n_1, ↓ev_iast_o5, ↓ev_iast_o6, ↓ev_dup, ↓ev_dupr, ↓ev_iconst_1, ↓ev_iadd, ↓ev_putf_1_2, ↓ev_ret, Nat.reduceAdd]
  have e : hup h (.inr 5) n b (.inr 4) 2 = nI n := by rw [hup_other (by simp)]; exact h4
  rw [h4]
  try simp (disch := omega) only [pk_mul, nI_add, n_lt0, n_le0, n_eq0, n_ge0, n_gt0, n_lt, n_le, n_eq, n_in, n_div, n_rem, n_rem2, n_m1, nI_clamp, bz_0, bz_1, tI_0, tI_bz, n4, n16, eq_self, Nat.reduceLT, Nat.reduceLeDiff, Nat.reduceEqDiff, Nat.reduceAdd, Nat.reduceMul, Nat.reduceDiv, Nat.reduceMod, Nat.le_refl, decide_eq_false_iff_not, Classical.not_not, true_and, and_true, false_and, and_false, not_true_eq_false, not_false_eq_true, forall_const, true_implies, false_implies, implies_true, ne_eq, e]
  exact ⟨fun c => absurd c (by omega), fun _ => ⟨hn, hp⟩⟩
theorem and255 (x : Int32) : x &&& nI 255 = nI (x.toBitVec.toNat % 256) := pk_and x 8 (by decide)
theorem c_feed {x : Int64} {n : Int32} (hG : CG h g) (hp : ∀ h', FW h h' → CG h' (aFeed g x n).2 → p (aFeed g x n).1 h') : mI (Kd sL (d + 9)) 81 [.inr (.inr (.inr 0)), .inr (.inl x), .inl n] h p := by
  refine ke_X3_feed ?_
  refine EX.go (Kd_mono _ _) [false, false, true, false, false, false, true, false, false] 40 0 ?_
  dsimp only [wpc_s, wsl_t, wsl_f, gD_0, gD_s, ↓denB_n, pI_s, pG_s, pU_n, cb_X3_feed_0, cb_X3_feed_1, cb_X3_feed_2, cb_X3_feed_3, cb_X3_feed_4, cb_X3_feed_5, cb_X3_feed_6, cb_X3_feed_7, cb_X3_feed_8, ↓ev_iload_n_3, ↓ev_iconst_1, ↓ev_icmp_lt, ↓ev_bipush_8, ↓ev_icmp_le, ↓ev_aload_n_0, ↓ev_sipush_m1001, ↓ev_callv_2_0_1, ↓ev_callv_2_1_1, ↓ev_callv_2_2_1, ↓ev_callv_2_3_1, ↓ev_callv_2_4_1, ↓ev_iret, ↓ev_getf_3_3, ↓ev_getf_1_2, ↓ev_iadd, ↓ev_bipush_120, ↓ev_sipush_m1002, ↓ev_iconst_0, ↓ev_istore_4, ↓ev_iload_4, ↓ev_icmp_ge, ↓ev_lload_n_1, ↓ev_imul, ↓ev_lushr, ↓ev_l2i, ↓ev_sipush_255, ↓ev_iand, ↓ev_callv_2_0_0, ↓ev_callv_2_1_0, ↓ev_callv_2_2_0, ↓ev_callv_2_3_0, ↓ev_callv_2_4_0, ↓ev_iinc_4_1, ↓ev_goto, Nat.reduceAdd]
  unfold aFeed at hp
  have J2 : ¬ (nI 1 ≤ n ∧ n ≤ nI 8) → EX (Kd sL (d + 8)) sL md_X3_feed (pI p) 2 [some (.inr (.inr (.inr 0))), some (.inr (.inl x)), none, some (.inl n), none] [] h := by
    intro hn
    refine EX.go (Kd_mono _ _) [false, false, false, false, false, false, true, false, false] 40 2 ?_
    dsimp only [wpc_s, wsl_t, wsl_f, gD_0, gD_s, ↓denB_n, pI_s, pG_s, pU_n, cb_X3_feed_0, cb_X3_feed_1, cb_X3_feed_2, cb_X3_feed_3, cb_X3_feed_4, cb_X3_feed_5, cb_X3_feed_6, cb_X3_feed_7, cb_X3_feed_8, ↓ev_iload_n_3, ↓ev_iconst_1, ↓ev_icmp_lt, ↓ev_bipush_8, ↓ev_icmp_le, ↓ev_aload_n_0, ↓ev_sipush_m1001, ↓ev_callv_2_0_1, ↓ev_callv_2_1_1, ↓ev_callv_2_2_1, ↓ev_callv_2_3_1, ↓ev_callv_2_4_1, ↓ev_iret, ↓ev_getf_3_3, ↓ev_getf_1_2, ↓ev_iadd, ↓ev_bipush_120, ↓ev_sipush_m1002, ↓ev_iconst_0, ↓ev_istore_4, ↓ev_iload_4, ↓ev_icmp_ge, ↓ev_lload_n_1, ↓ev_imul, ↓ev_lushr, ↓ev_l2i, ↓ev_sipush_255, ↓ev_iand, ↓ev_callv_2_0_0, ↓ev_callv_2_1_0, ↓ev_callv_2_2_0, ↓ev_callv_2_3_0, ↓ev_callv_2_4_0, ↓ev_iinc_4_1, ↓ev_goto, Nat.reduceAdd]
    rw [if_neg (by rw [dec_t]; exact hn)] at hp
    exact k_rfA (j := 0) hG (by decide) (fun h' f => hp h' f.fw)
  refine ⟨fun c1 => J2 (fun z => Int32.not_lt.mpr z.1 c1), fun c1 => ⟨fun c2 => ?_, fun c2 => J2 (fun z => c2 z.2)⟩⟩
  rw [if_pos (by rw [dec_t]; exact ⟨Int32.not_lt.mp c1, c2⟩)] at hp
  obtain ⟨k, hk, rfl⟩ := (i_cases n).resolve_left (fun z => c1 (Int32.lt_of_lt_of_le z (by decide)))
  rw [nI_clamp hk] at hp
  have q1 := c2
  rw [n_le hk (by decide)] at q1
  obtain ⟨w1, w2, w3, w4, w5, e4, w7, w8⟩ := id hG
  rw [e4]
  generalize hN : g.2.2.2.2.2.1 = N at e4 w7 w8 hp ⊢
  try simp (disch := omega) only [pk_mul, nI_add, n_lt0, n_le0, n_eq0, n_ge0, n_gt0, n_lt, n_le, n_eq, n_in, n_div, n_rem, n_rem2, n_m1, nI_clamp, bz_0, bz_1, tI_0, tI_bz, n4, n16, eq_self, Nat.reduceLT, Nat.reduceLeDiff, Nat.reduceEqDiff, Nat.reduceAdd, Nat.reduceMul, Nat.reduceDiv, Nat.reduceMod, Nat.le_refl, decide_eq_false_iff_not, Classical.not_not, true_and, and_true, false_and, and_false, not_true_eq_false, not_false_eq_true, forall_const, true_implies, false_implies, implies_true, ne_eq]
  refine ⟨fun c3 => ?_, fun c3 => ?_⟩
  · rw [if_pos (by rw [dec_t]; exact c3)] at hp
    suffices H : ∀ (f i : Nat) (h' : mH), i + f = k → (∀ r, r ≠ .inr 4 → r ≠ .inr 5 → h' r = h r) → h' (.inr 4) 2 = nI (N + i) → (∀ j, j < N + i → h' (.inr 5) j = nI (tpc g x k j)) → EX (Kd sL (d + 8)) sL md_X3_feed (pI p) 6 [some (.inr (.inr (.inr 0))), some (.inr (.inl x)), none, some (.inl (nI k)), some (.inl (nI i))] [] h' by
      refine H k 0 h (by omega) (fun _ _ _ => rfl) e4 (fun j hj => ?_)
      rw [w8 j hj]
      unfold tpc
      rw [hN, if_neg (by omega)]
    intro f
    induction f with
    | zero =>
      intro i h' hi ho h4 h5
      have : i = k := by omega
      subst this
      refine EX.go (Kd_mono _ _) [false, false, false, false, false, false, true, false, false] 40 6 ?_
      dsimp only [wpc_s, wsl_t, wsl_f, gD_0, gD_s, ↓denB_n, pI_s, pG_s, pU_n, cb_X3_feed_0, cb_X3_feed_1, cb_X3_feed_2, cb_X3_feed_3, cb_X3_feed_4, cb_X3_feed_5, cb_X3_feed_6, cb_X3_feed_7, cb_X3_feed_8, ↓ev_iload_n_3, ↓ev_iconst_1, ↓ev_icmp_lt, ↓ev_bipush_8, ↓ev_icmp_le, ↓ev_aload_n_0, ↓ev_sipush_m1001, ↓ev_callv_2_0_1, ↓ev_callv_2_1_1, ↓ev_callv_2_2_1, ↓ev_callv_2_3_1, ↓ev_callv_2_4_1, ↓ev_iret, ↓ev_getf_3_3, ↓ev_getf_1_2, ↓ev_iadd, ↓ev_bipush_120, ↓ev_sipush_m1002, ↓ev_iconst_0, ↓ev_istore_4, ↓ev_iload_4, ↓ev_icmp_ge, ↓ev_lload_n_1, ↓ev_imul, ↓ev_lushr, ↓ev_l2i, ↓ev_sipush_255, ↓ev_iand, ↓ev_callv_2_0_0, ↓ev_callv_2_1_0, ↓ev_callv_2_2_0, ↓ev_callv_2_3_0, ↓ev_callv_2_4_0, ↓ev_iinc_4_1, ↓ev_goto, Nat.reduceAdd]
      try simp (disch := omega) only [pk_mul, nI_add, n_lt0, n_le0, n_eq0, n_ge0, n_gt0, n_lt, n_le, n_eq, n_in, n_div, n_rem, n_rem2, n_m1, nI_clamp, bz_0, bz_1, tI_0, tI_bz, n4, n16, eq_self, Nat.reduceLT, Nat.reduceLeDiff, Nat.reduceEqDiff, Nat.reduceAdd, Nat.reduceMul, Nat.reduceDiv, Nat.reduceMod, Nat.le_refl, decide_eq_false_iff_not, Classical.not_not, true_and, and_true, false_and, and_false, not_true_eq_false, not_false_eq_true, forall_const, true_implies, false_implies, implies_true, ne_eq]
      rw [h4]
      exact hp h' (fx_tp ho) (hG.tp ho h4 c3 h5)
    | succ f ih =>
      intro i h' hi ho h4 h5
      refine EX.go (Kd_mono _ _) [false, false, false, false, false, false, true, false, false] 40 6 ?_
      dsimp only [wpc_s, wsl_t, wsl_f, gD_0, gD_s, ↓denB_n, pI_s, pG_s, pU_n, cb_X3_feed_0, cb_X3_feed_1, cb_X3_feed_2, cb_X3_feed_3, cb_X3_feed_4, cb_X3_feed_5, cb_X3_feed_6, cb_X3_feed_7, cb_X3_feed_8, ↓ev_iload_n_3, ↓ev_iconst_1, ↓ev_icmp_lt, ↓ev_bipush_8, ↓ev_icmp_le, ↓ev_aload_n_0, ↓ev_sipush_m1001, ↓ev_callv_2_0_1, ↓ev_callv_2_1_1, ↓ev_callv_2_2_1, ↓ev_callv_2_3_1, ↓ev_callv_2_4_1, ↓ev_iret, ↓ev_getf_3_3, ↓ev_getf_1_2, ↓ev_iadd, ↓ev_bipush_120, ↓ev_sipush_m1002, ↓ev_iconst_0, ↓ev_istore_4, ↓ev_iload_4, ↓ev_icmp_ge, ↓ev_lload_n_1, ↓ev_imul, ↓ev_lushr, ↓ev_l2i, ↓ev_sipush_255, ↓ev_iand, ↓ev_callv_2_0_0, ↓ev_callv_2_1_0, ↓ev_callv_2_2_0, ↓ev_callv_2_3_0, ↓ev_callv_2_4_0, ↓ev_iinc_4_1, ↓ev_goto, Nat.reduceAdd]
      try simp (disch := omega) only [pk_mul, nI_add, n_lt0, n_le0, n_eq0, n_ge0, n_gt0, n_lt, n_le, n_eq, n_in, n_div, n_rem, n_rem2, n_m1, nI_clamp, bz_0, bz_1, tI_0, tI_bz, n4, n16, eq_self, Nat.reduceLT, Nat.reduceLeDiff, Nat.reduceEqDiff, Nat.reduceAdd, Nat.reduceMul, Nat.reduceDiv, Nat.reduceMod, Nat.le_refl, decide_eq_false_iff_not, Classical.not_not, true_and, and_true, false_and, and_false, not_true_eq_false, not_false_eq_true, forall_const, true_implies, false_implies, implies_true, ne_eq, pk_mul, and255]
      refine ⟨fun c => absurd c (by omega), fun _ => ?_⟩
      refine k_append h4 (by omega) ?_
      refine ih (i + 1) _ (by omega) (fun r a b => ?_) hup_same (fun j hj => ?_)
      · rw [← ho r a b]
        funext q
        rw [hup_other a, hup_other b]
      · rw [hup_other (by simp)]
        by_cases e : j = N + i
        · subst e
          rw [hup_same]
          unfold tpc
          rw [hN, if_pos (by omega), show N + i - N = i by omega]
          rfl
        · rw [hup_idx e]
          exact h5 j (by omega)
  · rw [if_neg (by rw [dec_t]; exact c3)] at hp
    exact k_rfA (j := 1) hG (by decide) (fun h' f => hp h' f.fw)
theorem c_wipe (hG : CG h g) (hp : ∀ h', FW h h' → CG h' (aWipe g).2 → p (aWipe g).1 h') : mI (Kd sL (d + 9)) 82 [.inr (.inr (.inr 0))] h p := by
  refine ke_X3_wipe ?_
  refine EX.go (Kd_mono _ _) [false] 40 0 ?_
  dsimp only [wpc_s, wsl_t, wsl_f, gD_0, gD_s, ↓denB_n, pI_s, pG_s, pU_n, cb_X3_wipe_0, ↓ev_aload_n_0, ↓ev_getf_3_3, ↓ev_getf_1_2, ↓ev_istore_n_1, ↓ev_iconst_0, ↓ev_putf_1_2, ↓ev_iload_n_1, ↓ev_iret, Nat.reduceAdd]
  rw [hG.2.2.2.2.2.1]
  exact hp _ (fx_tp (fun r a _ => by funext q; exact hup_other a q)) (hG.tp (fun r a _ => by funext q; exact hup_other a q) hup_same (by omega) (fun j hj => absurd hj (by omega)))
theorem c_keep (hG : CG h g) (hp : ∀ h', FX h h' → CG h' (aKeep g).2 → p (aKeep g).1 h') : mI (Kd sL (d + 9)) 84 [.inr (.inr (.inr 0))] h p := by
  refine ke_X3_keep ?_
  refine EX.go (Kd_mono _ _) [false] 40 0 ?_
  dsimp only [wpc_s, wsl_t, wsl_f, gD_0, gD_s, ↓denB_n, pI_s, pG_s, pU_n, cb_X3_keep_0, ↓ev_aload_n_0, ↓ev_getf_3_1, ↓ev_getf_3_0, ↓ev_callv_2_0_0, ↓ev_callv_2_1_0, ↓ev_callv_2_2_0, ↓ev_callv_2_3_0, ↓ev_callv_2_4_0, ↓ev_iconst_1, ↓ev_putf_3_5, ↓ev_callv_1_0_2, ↓ev_callv_1_1_2, ↓ev_callv_1_2_2, ↓ev_callv_1_3_2, ↓ev_callv_1_4_2, ↓ev_calls_1_0_1, ↓ev_calls_1_1_1, ↓ev_calls_1_2_1, ↓ev_calls_1_3_1, ↓ev_calls_1_4_1, ↓ev_iret, Nat.reduceAdd]
  refine k_copyFrom (i := 1) (j := 0) hG.1 (fun h1 o1 c1 => ?_)
  obtain ⟨w1, w2, w3, w4, w5, w6, w7, w8⟩ := hG
  have c0 : CR h1 0 g.1 := w1.oth o1 (by decide)
  refine ⟨by rw [bz_1]; trivial, ?_⟩
  refine k_freeSet (c0.up2 0 5 (nI 1)) ?_
  refine k_bitCount ?_
  refine hp _ (o1.fx.tr (fx_up (by decide))) ⟨c0.up2 _ _ _, fun _ => c1.up2 _ _ _, hup_same, ?_, fun j hj => ?_, ?_, w7, fun j hj => ?_⟩
  · rw [hup_idx (by decide), o1.oth]; exact w4
  · rw [hup_other (by simp), o1.oth]; exact w5 j hj
  · rw [hup_other (by simp), o1.oth]; exact w6
  · rw [hup_other (by simp), o1.oth]; exact w8 j hj
theorem c_again (hG : CG h g) (hp : ∀ h', FX h h' → CG h' (aAgain g).2 → p (aAgain g).1 h') : mI (Kd sL (d + 9)) 85 [.inr (.inr (.inr 0))] h p := by
  refine ke_X3_again ?_
  refine EX.go (Kd_mono _ _) [false, false, false] 40 0 ?_
  dsimp only [wpc_s, wsl_t, wsl_f, gD_0, gD_s, ↓denB_n, pI_s, pG_s, pU_n, cb_X3_again_0, cb_X3_again_1, cb_X3_again_2, ↓ev_aload_n_0, ↓ev_getf_3_5, ↓ev_if_ne, ↓ev_sipush_m1003, ↓ev_callv_2_0_1, ↓ev_callv_2_1_1, ↓ev_callv_2_2_1, ↓ev_callv_2_3_1, ↓ev_callv_2_4_1, ↓ev_iret, ↓ev_getf_3_0, ↓ev_getf_3_1, ↓ev_callv_2_0_0, ↓ev_callv_2_1_0, ↓ev_callv_2_2_0, ↓ev_callv_2_3_0, ↓ev_callv_2_4_0, ↓ev_callv_1_0_2, ↓ev_callv_1_1_2, ↓ev_callv_1_2_2, ↓ev_callv_1_3_2, ↓ev_callv_1_4_2, ↓ev_calls_1_0_1, ↓ev_calls_1_1_1, ↓ev_calls_1_2_1, ↓ev_calls_1_3_1, ↓ev_calls_1_4_1, Nat.reduceAdd]
  unfold aAgain at hp
  rw [hG.2.2.1]
  try simp (disch := omega) only [pk_mul, nI_add, n_lt0, n_le0, n_eq0, n_ge0, n_gt0, n_lt, n_le, n_eq, n_in, n_div, n_rem, n_rem2, n_m1, nI_clamp, bz_0, bz_1, tI_0, tI_bz, n4, n16, eq_self, Nat.reduceLT, Nat.reduceLeDiff, Nat.reduceEqDiff, Nat.reduceAdd, Nat.reduceMul, Nat.reduceDiv, Nat.reduceMod, Nat.le_refl, decide_eq_false_iff_not, Classical.not_not, true_and, and_true, false_and, and_false, not_true_eq_false, not_false_eq_true, forall_const, true_implies, false_implies, implies_true, ne_eq]
  refine ⟨fun c => ?_, fun c => ?_⟩
  · have c' : g.2.2.1 = true := by simpa using c
    rw [if_pos c'] at hp
    refine k_copyFrom (i := 0) (j := 1) (hG.2.1 c') (fun h1 o1 c1 => ?_)
    refine k_freeSet c1 ?_
    refine k_bitCount ?_
    exact hp h1 o1.fx (hG.oi0 o1 c1)
  · rw [if_neg (by rw [c]; decide)] at hp
    exact k_rfA (j := 2) hG (by decide) hp
theorem c_count {w : Int32} (hG : CG h g) (hp : ∀ h', FX h h' → CG h' (aCount g w).2 → p (aCount g w).1 h') : mI (Kd sL (d + 9)) 86 [.inr (.inr (.inr 0)), .inl w] h p := by
  refine ke_X3_count ?_
  refine EX.go (Kd_mono _ _) [false, false, false, false, false, false, false, false] 40 0 ?_
  dsimp only [wpc_s, wsl_t, wsl_f, gD_0, gD_s, ↓denB_n, pI_s, pG_s, pU_n, cb_X3_count_0, cb_X3_count_1, cb_X3_count_2, cb_X3_count_3, cb_X3_count_4, cb_X3_count_5, cb_X3_count_6, cb_X3_count_7, ↓ev_iload_n_1, ↓ev_tsw_0_6, ↓ev_aload_n_0, ↓ev_getf_3_0, ↓ev_getf_0_5, ↓ev_iret, ↓ev_callv_1_0_1, ↓ev_callv_1_1_1, ↓ev_callv_1_2_1, ↓ev_callv_1_3_1, ↓ev_callv_1_4_1, ↓ev_callv_1_0_2, ↓ev_callv_1_1_2, ↓ev_callv_1_2_2, ↓ev_callv_1_3_2, ↓ev_callv_1_4_2, ↓ev_calls_1_0_1, ↓ev_calls_1_1_1, ↓ev_calls_1_2_1, ↓ev_calls_1_3_1, ↓ev_calls_1_4_1, ↓ev_getf_0_6, ↓ev_getf_3_3, ↓ev_getf_1_2, ↓ev_getf_3_6, ↓ev_sipush_m1001, ↓ev_callv_2_0_1, ↓ev_callv_2_1_1, ↓ev_callv_2_2_1, ↓ev_callv_2_3_1, ↓ev_callv_2_4_1, Nat.reduceAdd]
  unfold aCount at hp
  refine ⟨fun c0 => ?_, fun c0 => ⟨fun c1 => ?_, fun c1 => ⟨fun c2 => ?_, fun c2 => ⟨fun c3 => ?_, fun c3 => ⟨fun c4 => ?_, fun c4 => ⟨fun c5 => ?_, fun c5 => ?_⟩⟩⟩⟩⟩⟩
  · rw [if_pos c0] at hp
    have e5 : h (.inl (0, 0)) 5 = nI (mn g.1) := hG.1.2.2.2.2.2.1
    rw [e5]
    exact hp h FX.rf hG
  · rw [if_neg c0, if_pos c1] at hp
    exact k_snapshotSet hG.1 (hp h FX.rf hG)
  · rw [if_neg c0, if_neg c1, if_pos c2] at hp
    refine k_freeSet hG.1 ?_
    exact k_bitCount (hp h FX.rf hG)
  · rw [if_neg c0, if_neg c1, if_neg c2, if_pos c3] at hp
    have e6 : h (.inl (0, 0)) 6 = g.1 399 := hG.1.2.2.2.2.2.2.2
    rw [e6]
    exact hp h FX.rf hG
  · rw [if_neg c0, if_neg c1, if_neg c2, if_neg c3, if_pos c4] at hp
    rw [hG.2.2.2.2.2.1]
    exact hp h FX.rf hG
  · rw [if_neg c0, if_neg c1, if_neg c2, if_neg c3, if_neg c4, if_pos c5] at hp
    rw [hG.2.2.2.1]
    exact hp h FX.rf hG
  · rw [if_neg c0, if_neg c1, if_neg c2, if_neg c3, if_neg c4, if_neg c5] at hp
    exact k_rfA (j := 0) hG (by decide) hp
theorem c_refused {w : Int32} (hG : CG h g) (hp : ∀ h', FX h h' → CG h' (aRefused g w).2 → p (aRefused g w).1 h') : mI (Kd sL (d + 9)) 87 [.inr (.inr (.inr 0)), .inl w] h p := by
  refine ke_X3_refused ?_
  refine EX.go (Kd_mono _ _) [false, false, false, false] 40 0 ?_
  dsimp only [wpc_s, wsl_t, wsl_f, gD_0, gD_s, ↓denB_n, pI_s, pG_s, pU_n, cb_X3_refused_0, cb_X3_refused_1, cb_X3_refused_2, cb_X3_refused_3, ↓ev_iload_n_1, ↓ev_if_lt, ↓ev_iconst_4, ↓ev_icmp_lt, ↓ev_aload_n_0, ↓ev_sipush_m1001, ↓ev_callv_2_0_1, ↓ev_callv_2_1_1, ↓ev_callv_2_2_1, ↓ev_callv_2_3_1, ↓ev_callv_2_4_1, ↓ev_iret, ↓ev_getf_3_4, ↓ev_iald_m1, ↓ev_iald_m2, ↓ev_iald_m3, ↓ev_iald_m4, ↓ev_iald_m5, ↓ev_iald_m6, ↓ev_iald_o1, ↓ev_iald_o6, Nat.reduceAdd]
  unfold aRefused at hp
  refine ⟨fun c1 => ?_, fun c1 => ⟨fun c2 => ?_, fun c2 => ?_⟩⟩
  · rw [if_neg (by rw [dec_t]; exact fun z => z.1 c1)] at hp
    exact k_rfA (j := 0) hG (by decide) hp
  · rw [if_pos (by rw [dec_t]; exact ⟨c1, c2⟩)] at hp
    obtain ⟨k, hk, rfl⟩ := okN_n ⟨c1, c2⟩ (by decide)
    rw [nI_clamp (by omega)] at hp
    have e := hG.2.2.2.2.1 k hk
    try simp (disch := omega) only [pk_mul, nI_add, n_lt0, n_le0, n_eq0, n_ge0, n_gt0, n_lt, n_le, n_eq, n_in, n_div, n_rem, n_rem2, n_m1, nI_clamp, bz_0, bz_1, tI_0, tI_bz, n4, n16, eq_self, Nat.reduceLT, Nat.reduceLeDiff, Nat.reduceEqDiff, Nat.reduceAdd, Nat.reduceMul, Nat.reduceDiv, Nat.reduceMod, Nat.le_refl, decide_eq_false_iff_not, Classical.not_not, true_and, and_true, false_and, and_false, not_true_eq_false, not_false_eq_true, forall_const, true_implies, false_implies, implies_true, ne_eq, e]
    exact ⟨hk, hp h FX.rf hG⟩
  · rw [if_neg (by rw [dec_t]; exact fun z => c2 z.2)] at hp
    exact k_rfA (j := 0) hG (by decide) hp
theorem c_write {a b c : Int32} (hG : CG h g) (hI : GI g) (hp : ∀ h', FX h h' → CG h' (aDeed g 0 a b c).2 → p (aDeed g 0 a b c).1 h') : mI (Kd sL (d + 9)) 58 [.inr (.inr (.inr 0)), .inl a, .inl b, .inl c] h p := by
  refine ke_X3_write ?_
  refine EX.go (Kd_mono _ _) [false] 40 0 ?_
  dsimp only [wpc_s, wsl_t, wsl_f, gD_0, gD_s, ↓denB_n, pI_s, pG_s, pU_n, cb_X3_write_0, ↓ev_aload_n_0, ↓ev_iconst_0, ↓ev_iload_n_1, ↓ev_iload_n_2, ↓ev_iload_n_3, ↓ev_callv_5_0_1, ↓ev_callv_5_1_1, ↓ev_callv_5_2_1, ↓ev_callv_5_3_1, ↓ev_callv_5_4_1, ↓ev_callv_2_0_1, ↓ev_callv_2_1_1, ↓ev_callv_2_2_1, ↓ev_callv_2_3_1, ↓ev_callv_2_4_1, ↓ev_iret, Nat.reduceAdd]
  exact k_deed (kd := 0) hG hI.1 hI.2.1 (by decide) hp
theorem c_snap {a : Int32} (hG : CG h g) (hI : GI g) (hp : ∀ h', FX h h' → CG h' (aDeed g 1 a 0 0).2 → p (aDeed g 1 a 0 0).1 h') : mI (Kd sL (d + 9)) 59 [.inr (.inr (.inr 0)), .inl a] h p := by
  refine ke_X3_snap ?_
  refine EX.go (Kd_mono _ _) [false] 40 0 ?_
  dsimp only [wpc_s, wsl_t, wsl_f, gD_0, gD_s, ↓denB_n, pI_s, pG_s, pU_n, cb_X3_snap_0, ↓ev_aload_n_0, ↓ev_iconst_1, ↓ev_iload_n_1, ↓ev_iconst_0, ↓ev_callv_5_0_1, ↓ev_callv_5_1_1, ↓ev_callv_5_2_1, ↓ev_callv_5_3_1, ↓ev_callv_5_4_1, ↓ev_callv_2_0_1, ↓ev_callv_2_1_1, ↓ev_callv_2_2_1, ↓ev_callv_2_3_1, ↓ev_callv_2_4_1, ↓ev_iret, Nat.reduceAdd]
  exact k_deed (kd := 1) hG hI.1 hI.2.1 (by decide) hp
theorem c_drop {a : Int32} (hG : CG h g) (hI : GI g) (hp : ∀ h', FX h h' → CG h' (aDeed g 2 a 0 0).2 → p (aDeed g 2 a 0 0).1 h') : mI (Kd sL (d + 9)) 60 [.inr (.inr (.inr 0)), .inl a] h p := by
  refine ke_X3_drop ?_
  refine EX.go (Kd_mono _ _) [false] 40 0 ?_
  dsimp only [wpc_s, wsl_t, wsl_f, gD_0, gD_s, ↓denB_n, pI_s, pG_s, pU_n, cb_X3_drop_0, ↓ev_aload_n_0, ↓ev_iconst_2, ↓ev_iload_n_1, ↓ev_iconst_0, ↓ev_callv_5_0_1, ↓ev_callv_5_1_1, ↓ev_callv_5_2_1, ↓ev_callv_5_3_1, ↓ev_callv_5_4_1, ↓ev_callv_2_0_1, ↓ev_callv_2_1_1, ↓ev_callv_2_2_1, ↓ev_callv_2_3_1, ↓ev_callv_2_4_1, ↓ev_iret, Nat.reduceAdd]
  exact k_deed (kd := 2) hG hI.1 hI.2.1 (by decide) hp
theorem c_revert {a : Int32} (hG : CG h g) (hI : GI g) (hp : ∀ h', FX h h' → CG h' (aDeed g 3 a 0 0).2 → p (aDeed g 3 a 0 0).1 h') : mI (Kd sL (d + 9)) 61 [.inr (.inr (.inr 0)), .inl a] h p := by
  refine ke_X3_revert ?_
  refine EX.go (Kd_mono _ _) [false] 40 0 ?_
  dsimp only [wpc_s, wsl_t, wsl_f, gD_0, gD_s, ↓denB_n, pI_s, pG_s, pU_n, cb_X3_revert_0, ↓ev_aload_n_0, ↓ev_iconst_3, ↓ev_iload_n_1, ↓ev_iconst_0, ↓ev_callv_5_0_1, ↓ev_callv_5_1_1, ↓ev_callv_5_2_1, ↓ev_callv_5_3_1, ↓ev_callv_5_4_1, ↓ev_callv_2_0_1, ↓ev_callv_2_1_1, ↓ev_callv_2_2_1, ↓ev_callv_2_3_1, ↓ev_callv_2_4_1, ↓ev_iret, Nat.reduceAdd]
  exact k_deed (kd := 3) hG hI.1 hI.2.1 (by decide) hp
theorem c_giveUp {a b : Int32} (hG : CG h g) (hI : GI g) (hp : ∀ h', FX h h' → CG h' (aDeed g 4 a b 0).2 → p (aDeed g 4 a b 0).1 h') : mI (Kd sL (d + 9)) 62 [.inr (.inr (.inr 0)), .inl a, .inl b] h p := by
  refine ke_X3_giveUp ?_
  refine EX.go (Kd_mono _ _) [false] 40 0 ?_
  dsimp only [wpc_s, wsl_t, wsl_f, gD_0, gD_s, ↓denB_n, pI_s, pG_s, pU_n, cb_X3_giveUp_0, ↓ev_aload_n_0, ↓ev_iconst_4, ↓ev_iload_n_1, ↓ev_iload_n_2, ↓ev_iconst_0, ↓ev_callv_5_0_1, ↓ev_callv_5_1_1, ↓ev_callv_5_2_1, ↓ev_callv_5_3_1, ↓ev_callv_5_4_1, ↓ev_callv_2_0_1, ↓ev_callv_2_1_1, ↓ev_callv_2_2_1, ↓ev_callv_2_3_1, ↓ev_callv_2_4_1, ↓ev_iret, Nat.reduceAdd]
  exact k_deed (kd := 4) hG hI.1 hI.2.1 (by decide) hp
theorem c_merge {a : Int32} (hG : CG h g) (hI : GI g) (hp : ∀ h', FX h h' → CG h' (aDeed g 5 a 0 0).2 → p (aDeed g 5 a 0 0).1 h') : mI (Kd sL (d + 9)) 63 [.inr (.inr (.inr 0)), .inl a] h p := by
  refine ke_X3_merge ?_
  refine EX.go (Kd_mono _ _) [false] 40 0 ?_
  dsimp only [wpc_s, wsl_t, wsl_f, gD_0, gD_s, ↓denB_n, pI_s, pG_s, pU_n, cb_X3_merge_0, ↓ev_aload_n_0, ↓ev_iconst_5, ↓ev_iload_n_1, ↓ev_iconst_0, ↓ev_callv_5_0_1, ↓ev_callv_5_1_1, ↓ev_callv_5_2_1, ↓ev_callv_5_3_1, ↓ev_callv_5_4_1, ↓ev_callv_2_0_1, ↓ev_callv_2_1_1, ↓ev_callv_2_2_1, ↓ev_callv_2_3_1, ↓ev_callv_2_4_1, ↓ev_iret, Nat.reduceAdd]
  exact k_deed (kd := 5) hG hI.1 hI.2.1 (by decide) hp
theorem c_move {a b c : Int32} (hG : CG h g) (hI : GI g) (hp : ∀ h', FX h h' → CG h' (aDeed g 7 a b c).2 → p (aDeed g 7 a b c).1 h') : mI (Kd sL (d + 9)) 64 [.inr (.inr (.inr 0)), .inl a, .inl b, .inl c] h p := by
  refine ke_X3_move ?_
  refine EX.go (Kd_mono _ _) [false] 40 0 ?_
  dsimp only [wpc_s, wsl_t, wsl_f, gD_0, gD_s, ↓denB_n, pI_s, pG_s, pU_n, cb_X3_move_0, ↓ev_aload_n_0, ↓ev_bipush_7, ↓ev_iload_n_1, ↓ev_iload_n_2, ↓ev_iload_n_3, ↓ev_callv_5_0_1, ↓ev_callv_5_1_1, ↓ev_callv_5_2_1, ↓ev_callv_5_3_1, ↓ev_callv_5_4_1, ↓ev_callv_2_0_1, ↓ev_callv_2_1_1, ↓ev_callv_2_2_1, ↓ev_callv_2_3_1, ↓ev_callv_2_4_1, ↓ev_iret, Nat.reduceAdd]
  exact k_deed (kd := 7) hG hI.1 hI.2.1 (by decide) hp
theorem c_fold (hG : CG h g) (hI : GI g) (hp : ∀ h', FX h h' → CG h' (aDeed g 6 0 0 0).2 → p (aDeed g 6 0 0 0).1 h') : mI (Kd sL (d + 9)) 65 [.inr (.inr (.inr 0))] h p := by
  refine ke_X3_fold ?_
  refine EX.go (Kd_mono _ _) [false] 40 0 ?_
  dsimp only [wpc_s, wsl_t, wsl_f, gD_0, gD_s, ↓denB_n, pI_s, pG_s, pU_n, cb_X3_fold_0, ↓ev_aload_n_0, ↓ev_bipush_6, ↓ev_iconst_0, ↓ev_callv_5_0_1, ↓ev_callv_5_1_1, ↓ev_callv_5_2_1, ↓ev_callv_5_3_1, ↓ev_callv_5_4_1, ↓ev_callv_2_0_1, ↓ev_callv_2_1_1, ↓ev_callv_2_2_1, ↓ev_callv_2_3_1, ↓ev_callv_2_4_1, ↓ev_iret, Nat.reduceAdd]
  exact k_deed (kd := 6) hG hI.1 hI.2.1 (by decide) hp
end PB6
