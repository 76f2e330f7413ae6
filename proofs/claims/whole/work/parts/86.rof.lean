/-! ===== the reference: room, of, feed ===== -/
section ROF
variable {sL d L B : Nat} {h : mH} {g : Gs} {S : St} {p : Int32 → mH → Prop}
theorem r_room {l : Int32} (hG : RG h g) (hJ : JG B g) (hB : B < 2 ^ 29) (hp : ∀ h', FR h h' → RG h' (aRoom g l).2 → p (aRoom g l).1 h') : mI (Kd sL (d + 12)) 177 [.inr (.inr (.inr 7)), .inl l] h p := by
  have hm6 := hJ.1.m
  refine ke_X4_room ?_
  refine EX.go (Kd_mono _ _) [false, false, false, false, false, false] 40 0 ?_
  dsimp only [wpc_s, wsl_t, wsl_f, gD_0, gD_s, ↓denB_n, pI_s, pG_s, pU_n, cb_X4_room_0, cb_X4_room_1, cb_X4_room_2, cb_X4_room_3, cb_X4_room_4, cb_X4_room_5, ↓ev_aload_n_0, ↓ev_iload_n_1, ↓ev_callv_2_0_1, ↓ev_callv_2_1_1, ↓ev_callv_2_2_1, ↓ev_callv_2_3_1, ↓ev_callv_2_4_1, ↓ev_if_ne, ↓ev_sipush_m1001, ↓ev_goto, ↓ev_callv_1_0_1, ↓ev_callv_1_1_1, ↓ev_callv_1_2_1, ↓ev_callv_1_3_1, ↓ev_callv_1_4_1, ↓ev_if_eq, ↓ev_sipush_m1003, ↓ev_iconst_0, ↓ev_callv_3_0_1, ↓ev_callv_3_1_1, ↓ev_callv_3_2_1, ↓ev_callv_3_3_1, ↓ev_callv_3_4_1, ↓ev_callv_3_5_1, ↓ev_iret, Nat.reduceAdd]
  unfold aRoom at hp
  refine r_isLayer hG.1 hJ.1 ?_
  try simp (disch := omega) only [pk_mul, nI_add, n_lt0, n_le0, n_eq0, n_ge0, n_gt0, n_lt, n_le, n_eq, n_in, n_div, n_rem, n_rem2, n_m1, nI_clamp, bz_0, bz_1, tI_0, tI_bz, n4, n16, eq_self, Nat.reduceLT, Nat.reduceLeDiff, Nat.reduceEqDiff, Nat.reduceAdd, Nat.reduceMul, Nat.reduceDiv, Nat.reduceMod, Nat.le_refl, decide_eq_false_iff_not, Classical.not_not, true_and, and_true, false_and, and_false, not_true_eq_false, not_false_eq_true, forall_const, true_implies, false_implies, implies_true, ne_eq]
  refine ⟨fun c => ?_, fun c => ?_⟩
  · have a1 : okL g.1 l := Classical.not_not.mp (fun z => c (dec_f.mpr z))
    rw [if_pos (dec_t.mpr a1)] at hp
    obtain ⟨k, hk, rfl⟩ := okL_n a1 hm6
    rw [nI_clamp (by omega)] at hp
    refine r_hasLack hG.1 hJ.1 (fun F G => ?_)
    try simp (disch := omega) only [pk_mul, nI_add, n_lt0, n_le0, n_eq0, n_ge0, n_gt0, n_lt, n_le, n_eq, n_in, n_div, n_rem, n_rem2, n_m1, nI_clamp, bz_0, bz_1, tI_0, tI_bz, n4, n16, eq_self, Nat.reduceLT, Nat.reduceLeDiff, Nat.reduceEqDiff, Nat.reduceAdd, Nat.reduceMul, Nat.reduceDiv, Nat.reduceMod, Nat.le_refl, decide_eq_false_iff_not, Classical.not_not, true_and, and_true, false_and, and_false, not_true_eq_false, not_false_eq_true, forall_const, true_implies, false_implies, implies_true, ne_eq]
    refine ⟨fun c2 => ?_, fun c2 => ?_⟩
    · rw [if_neg (by rw [c2]; decide)] at hp
      refine r_through (w := nI 0) (Or.inl rfl) hG.1.a hJ.1 hJ.2.1 hB hk c2 (fun h2 o2 s2 => ?_)
      rw [if_pos rfl]
      exact hp h2 (FE.p23.tr o2).fr (hG.fe0 (FE.p23.tr o2) s2)
    · rw [if_pos (by simpa using c2)] at hp
      exact r_rf (j := 2) hG.p23 (by decide) (fun h2 o2 g2 => hp h2 (FE.p23.fr.tr o2) g2)
  · rw [if_neg (by rw [c]; decide)] at hp
    exact r_rf (j := 0) hG (by decide) hp
theorem r_of {l w : Int32} (hG : RG h g) (hJ : JG B g) (hB : B < 2 ^ 29) (hp : ∀ h', FR h h' → RG h' (aOf g l w).2 → p (aOf g l w).1 h') : mI (Kd sL (d + 12)) 178 [.inr (.inr (.inr 7)), .inl l, .inl w] h p := by
  have hm6 := hJ.1.m
  refine ke_X4_of ?_
  refine EX.go (Kd_mono _ _) [false, false, false, false, false, false, true, false, false, false, false, false, false, false, false, false, false, true, false, false] 40 0 ?_
  dsimp only [wpc_s, wsl_t, wsl_f, gD_0, gD_s, ↓denB_n, pI_s, pG_s, pU_n, cb_X4_of_0, cb_X4_of_1, cb_X4_of_2, cb_X4_of_3, cb_X4_of_4, cb_X4_of_5, cb_X4_of_6, cb_X4_of_7, cb_X4_of_8, cb_X4_of_9, cb_X4_of_10, cb_X4_of_11, cb_X4_of_12, cb_X4_of_13, cb_X4_of_14, cb_X4_of_15, cb_X4_of_16, cb_X4_of_17, cb_X4_of_18, cb_X4_of_19, ↓ev_aload_n_0, ↓ev_iload_n_1, ↓ev_callv_2_0_1, ↓ev_callv_2_1_1, ↓ev_callv_2_2_1, ↓ev_callv_2_3_1, ↓ev_callv_2_4_1, ↓ev_if_eq, ↓ev_iload_n_2, ↓ev_iconst_0, ↓ev_iconst_3, ↓ev_calls_3_0_1, ↓ev_calls_3_1_1, ↓ev_calls_3_2_1, ↓ev_calls_3_3_1, ↓ev_calls_3_4_1, ↓ev_if_ne, ↓ev_sipush_m1001, ↓ev_iret, ↓ev_istore_n_3, ↓ev_tsw_0_3, ↓ev_getf_4_0, ↓ev_sipush_321, ↓ev_iadd, ↓ev_iald_o8, ↓ev_iald_o9, ↓ev_iald_o10, ↓ev_iald_o11, ↓ev_iald_o12, ↓ev_iald_o13, ↓ev_iald_o14, ↓ev_iald_o15, ↓ev_iald_o16, ↓ev_istore_4, ↓ev_iload_4, ↓ev_bipush_16, ↓ev_icmp_ge, ↓ev_iload_n_3, ↓ev_callv_3_0_1, ↓ev_callv_3_1_1, ↓ev_callv_3_2_1, ↓ev_callv_3_3_1, ↓ev_callv_3_4_1, ↓ev_callv_3_5_1, ↓ev_iconst_1, ↓ev_ishl, ↓ev_goto, ↓ev_ior, ↓ev_iinc_4_1, ↓ev_callv_1_0_1, ↓ev_callv_1_1_1, ↓ev_callv_1_2_1, ↓ev_callv_1_3_1, ↓ev_callv_1_4_1, ↓ev_iconst_m1, ↓ev_icmp_eq, ↓ev_iinc_3_1, Nat.reduceAdd]
  unfold aOf at hp
  refine r_isLayer hG.1 hJ.1 ?_
  try simp (disch := omega) only [pk_mul, nI_add, n_lt0, n_le0, n_eq0, n_ge0, n_gt0, n_lt, n_le, n_eq, n_in, n_div, n_rem, n_rem2, n_m1, nI_clamp, bz_0, bz_1, tI_0, tI_bz, n4, n16, eq_self, Nat.reduceLT, Nat.reduceLeDiff, Nat.reduceEqDiff, Nat.reduceAdd, Nat.reduceMul, Nat.reduceDiv, Nat.reduceMod, Nat.le_refl, decide_eq_false_iff_not, Classical.not_not, true_and, and_true, false_and, and_false, not_true_eq_false, not_false_eq_true, forall_const, true_implies, false_implies, implies_true, ne_eq]
  refine ⟨fun c => ?_, fun c => ?_⟩
  · rw [if_neg (by rw [c]; decide)] at hp
    exact r_rf (j := 0) hG (by decide) hp
  have a1 : okL g.1 l := Classical.not_not.mp (fun z => c (dec_f.mpr z))
  rw [if_pos (dec_t.mpr a1)] at hp
  obtain ⟨k, hk, rfl⟩ := okL_n a1 hm6
  rw [nI_clamp (by omega)] at hp
  refine r_in ?_
  rw [dec_iff (okN_in (m := 3) (n := 4) rfl (by decide))]
  have e : h (.inr 8) (321 + k) = bk g.1 k := by rw [hG.1 _ (by omega), bk_in hk]
  try simp (disch := omega) only [pk_mul, nI_add, n_lt0, n_le0, n_eq0, n_ge0, n_gt0, n_lt, n_le, n_eq, n_in, n_div, n_rem, n_rem2, n_m1, nI_clamp, bz_0, bz_1, tI_0, tI_bz, n4, n16, eq_self, Nat.reduceLT, Nat.reduceLeDiff, Nat.reduceEqDiff, Nat.reduceAdd, Nat.reduceMul, Nat.reduceDiv, Nat.reduceMod, Nat.le_refl, decide_eq_false_iff_not, Classical.not_not, true_and, and_true, false_and, and_false, not_true_eq_false, not_false_eq_true, forall_const, true_implies, false_implies, implies_true, ne_eq, e]
  refine ⟨fun c2 => ?_, fun c2 => ?_⟩
  · have a2 : okN w 4 := Classical.not_not.mp (fun z => c2 (dec_f.mpr z))
    have fin := fun z => hp h FR.rf z
    refine ⟨fun c3 => ⟨by omega, ?_⟩, fun c3 => ⟨fun c4 => ?_, fun c4 => ⟨fun c5 => ?_, fun c5 => ⟨by omega, ?_⟩⟩⟩⟩
    · rw [if_pos c3] at fin
      exact fin hG
    · rw [if_neg c3, if_pos c4] at fin
      suffices H : ∀ (f b : Nat), b + f = 16 → EX (Kd sL (d + 11)) sL md_X4_of (pI p) 6 [some (.inr (.inr (.inr 7))), some (.inl (nI k)), some (.inl w), some (.inl (iOr (fun b => decide (¬ dof g.1 k b = 0)) b)), some (.inl (nI b))] [] h from H 16 0 rfl
      intro f
      induction f with
      | zero =>
        intro b hb
        refine EX.go (Kd_mono _ _) [false, false, false, false, false, false, true, false, false, false, false, false, false, false, false, false, false, true, false, false] 40 6 ?_
        dsimp only [wpc_s, wsl_t, wsl_f, gD_0, gD_s, ↓denB_n, pI_s, pG_s, pU_n, cb_X4_of_0, cb_X4_of_1, cb_X4_of_2, cb_X4_of_3, cb_X4_of_4, cb_X4_of_5, cb_X4_of_6, cb_X4_of_7, cb_X4_of_8, cb_X4_of_9, cb_X4_of_10, cb_X4_of_11, cb_X4_of_12, cb_X4_of_13, cb_X4_of_14, cb_X4_of_15, cb_X4_of_16, cb_X4_of_17, cb_X4_of_18, cb_X4_of_19, ↓ev_aload_n_0, ↓ev_iload_n_1, ↓ev_callv_2_0_1, ↓ev_callv_2_1_1, ↓ev_callv_2_2_1, ↓ev_callv_2_3_1, ↓ev_callv_2_4_1, ↓ev_if_eq, ↓ev_iload_n_2, ↓ev_iconst_0, ↓ev_iconst_3, ↓ev_calls_3_0_1, ↓ev_calls_3_1_1, ↓ev_calls_3_2_1, ↓ev_calls_3_3_1, ↓ev_calls_3_4_1, ↓ev_if_ne, ↓ev_sipush_m1001, ↓ev_iret, ↓ev_istore_n_3, ↓ev_tsw_0_3, ↓ev_getf_4_0, ↓ev_sipush_321, ↓ev_iadd, ↓ev_iald_o8, ↓ev_iald_o9, ↓ev_iald_o10, ↓ev_iald_o11, ↓ev_iald_o12, ↓ev_iald_o13, ↓ev_iald_o14, ↓ev_iald_o15, ↓ev_iald_o16, ↓ev_istore_4, ↓ev_iload_4, ↓ev_bipush_16, ↓ev_icmp_ge, ↓ev_iload_n_3, ↓ev_callv_3_0_1, ↓ev_callv_3_1_1, ↓ev_callv_3_2_1, ↓ev_callv_3_3_1, ↓ev_callv_3_4_1, ↓ev_callv_3_5_1, ↓ev_iconst_1, ↓ev_ishl, ↓ev_goto, ↓ev_ior, ↓ev_iinc_4_1, ↓ev_callv_1_0_1, ↓ev_callv_1_1_1, ↓ev_callv_1_2_1, ↓ev_callv_1_3_1, ↓ev_callv_1_4_1, ↓ev_iconst_m1, ↓ev_icmp_eq, ↓ev_iinc_3_1, Nat.reduceAdd]
        try simp (disch := omega) only [pk_mul, nI_add, n_lt0, n_le0, n_eq0, n_ge0, n_gt0, n_lt, n_le, n_eq, n_in, n_div, n_rem, n_rem2, n_m1, nI_clamp, bz_0, bz_1, tI_0, tI_bz, n4, n16, eq_self, Nat.reduceLT, Nat.reduceLeDiff, Nat.reduceEqDiff, Nat.reduceAdd, Nat.reduceMul, Nat.reduceDiv, Nat.reduceMod, Nat.le_refl, decide_eq_false_iff_not, Classical.not_not, true_and, and_true, false_and, and_false, not_true_eq_false, not_false_eq_true, forall_const, true_implies, false_implies, implies_true, ne_eq]
        rw [show b = 16 by omega]
        exact ⟨fun _ => fin hG, fun z => absurd (show 16 ≤ 16 by omega) z⟩
      | succ f ih =>
        intro b hb
        refine EX.go (Kd_mono _ _) [false, false, false, false, false, false, true, false, false, false, false, false, false, false, false, false, false, true, false, false] 40 6 ?_
        dsimp only [wpc_s, wsl_t, wsl_f, gD_0, gD_s, ↓denB_n, pI_s, pG_s, pU_n, cb_X4_of_0, cb_X4_of_1, cb_X4_of_2, cb_X4_of_3, cb_X4_of_4, cb_X4_of_5, cb_X4_of_6, cb_X4_of_7, cb_X4_of_8, cb_X4_of_9, cb_X4_of_10, cb_X4_of_11, cb_X4_of_12, cb_X4_of_13, cb_X4_of_14, cb_X4_of_15, cb_X4_of_16, cb_X4_of_17, cb_X4_of_18, cb_X4_of_19, ↓ev_aload_n_0, ↓ev_iload_n_1, ↓ev_callv_2_0_1, ↓ev_callv_2_1_1, ↓ev_callv_2_2_1, ↓ev_callv_2_3_1, ↓ev_callv_2_4_1, ↓ev_if_eq, ↓ev_iload_n_2, ↓ev_iconst_0, ↓ev_iconst_3, ↓ev_calls_3_0_1, ↓ev_calls_3_1_1, ↓ev_calls_3_2_1, ↓ev_calls_3_3_1, ↓ev_calls_3_4_1, ↓ev_if_ne, ↓ev_sipush_m1001, ↓ev_iret, ↓ev_istore_n_3, ↓ev_tsw_0_3, ↓ev_getf_4_0, ↓ev_sipush_321, ↓ev_iadd, ↓ev_iald_o8, ↓ev_iald_o9, ↓ev_iald_o10, ↓ev_iald_o11, ↓ev_iald_o12, ↓ev_iald_o13, ↓ev_iald_o14, ↓ev_iald_o15, ↓ev_iald_o16, ↓ev_istore_4, ↓ev_iload_4, ↓ev_bipush_16, ↓ev_icmp_ge, ↓ev_iload_n_3, ↓ev_callv_3_0_1, ↓ev_callv_3_1_1, ↓ev_callv_3_2_1, ↓ev_callv_3_3_1, ↓ev_callv_3_4_1, ↓ev_callv_3_5_1, ↓ev_iconst_1, ↓ev_ishl, ↓ev_goto, ↓ev_ior, ↓ev_iinc_4_1, ↓ev_callv_1_0_1, ↓ev_callv_1_1_1, ↓ev_callv_1_2_1, ↓ev_callv_1_3_1, ↓ev_callv_1_4_1, ↓ev_iconst_m1, ↓ev_icmp_eq, ↓ev_iinc_3_1, Nat.reduceAdd]
        try simp (disch := omega) only [pk_mul, nI_add, n_lt0, n_le0, n_eq0, n_ge0, n_gt0, n_lt, n_le, n_eq, n_in, n_div, n_rem, n_rem2, n_m1, nI_clamp, bz_0, bz_1, tI_0, tI_bz, n4, n16, eq_self, Nat.reduceLT, Nat.reduceLeDiff, Nat.reduceEqDiff, Nat.reduceAdd, Nat.reduceMul, Nat.reduceDiv, Nat.reduceMod, Nat.le_refl, decide_eq_false_iff_not, Classical.not_not, true_and, and_true, false_and, and_false, not_true_eq_false, not_false_eq_true, forall_const, true_implies, false_implies, implies_true, ne_eq]
        refine ⟨fun z => absurd z (by omega), fun _ => ?_⟩
        refine r_dataOf hG.1 hJ.1 (by omega) (by omega) (prs_lay hk (by omega)) ?_
        have hdl := dof_lt g.1 k b
        have ih2 := ih (b + 1) (by omega)
        rw [iOr] at ih2
        try simp (disch := omega) only [pk_mul, nI_add, n_lt0, n_le0, n_eq0, n_ge0, n_gt0, n_lt, n_le, n_eq, n_in, n_div, n_rem, n_rem2, n_m1, nI_clamp, bz_0, bz_1, tI_0, tI_bz, n4, n16, eq_self, Nat.reduceLT, Nat.reduceLeDiff, Nat.reduceEqDiff, Nat.reduceAdd, Nat.reduceMul, Nat.reduceDiv, Nat.reduceMod, Nat.le_refl, decide_eq_false_iff_not, Classical.not_not, true_and, and_true, false_and, and_false, not_true_eq_false, not_false_eq_true, forall_const, true_implies, false_implies, implies_true, ne_eq]
        refine ⟨fun z => ?_, fun z => ?_⟩
        · rw [if_neg (by simp [z])] at ih2
          rw [ior_0]
          exact ih2
        · rw [if_pos (by simp [z])] at ih2
          exact ih2
    · rw [if_neg c3, if_neg c4, if_pos c5] at hp
      refine r_hasLack hG.1 hJ.1 (fun F G => ?_)
      try simp (disch := omega) only [pk_mul, nI_add, n_lt0, n_le0, n_eq0, n_ge0, n_gt0, n_lt, n_le, n_eq, n_in, n_div, n_rem, n_rem2, n_m1, nI_clamp, bz_0, bz_1, tI_0, tI_bz, n4, n16, eq_self, Nat.reduceLT, Nat.reduceLeDiff, Nat.reduceEqDiff, Nat.reduceAdd, Nat.reduceMul, Nat.reduceDiv, Nat.reduceMod, Nat.le_refl, decide_eq_false_iff_not, Classical.not_not, true_and, and_true, false_and, and_false, not_true_eq_false, not_false_eq_true, forall_const, true_implies, false_implies, implies_true, ne_eq]
      refine ⟨fun c6 => ?_, fun c6 => ?_⟩
      · refine r_through (w := nI 1) (Or.inr rfl) hG.1.a hJ.1 hJ.2.1 hB hk c6 (fun h2 o2 s2 => ?_)
        rw [if_neg (show ¬ nI 1 = nI 0 by decide)]
        exact hp h2 (FE.p23.tr o2).fr (hG.fe0 (FE.p23.tr o2) s2)
      · unfold rwc at hp
        rw [if_pos (by simpa using c6)] at hp
        exact hp _ FE.p23.fr hG.p23
    · have c6 : w = nI 3 := by
        obtain ⟨x, hx, rfl⟩ := okN_n a2 (by decide)
        rcases (show x = 0 ∨ x = 1 ∨ x = 2 ∨ x = 3 by omega) with rfl | rfl | rfl | rfl
        · exact absurd rfl c3
        · exact absurd rfl c4
        · exact absurd rfl c5
        · rfl
      rw [if_neg c3, if_neg c4, if_neg c5, if_pos c6] at fin
      have fin := fin hG
      obtain ⟨r, hr6, hr⟩ := ac_r hJ.1
      suffices H : ∀ (f n : Nat) (y : Int32), (y = -1 ∨ ∃ b, b < mn g.1 ∧ y = nI b ∧ r b < f) → p (nI (n + cbl g.1 6 y)) h → EX (Kd sL (d + 11)) sL md_X4_of (pI p) 17 [some (.inr (.inr (.inr 7))), some (.inl (nI k)), some (.inl w), some (.inl (nI n)), some (.inl y)] [] h by
        refine H 6 0 (bk g.1 k) ?_ (by rw [Nat.zero_add]; exact fin)
        rcases wf_bk hJ.1 hk with z | ⟨b, hb, z⟩
        · exact Or.inl z
        · exact Or.inr ⟨b, hb, z, hr6 b hb⟩
      intro f
      induction f with
      | zero =>
        intro n y hy hp
        have hy1 := hy.resolve_right (fun ⟨b, _, _, z⟩ => absurd z (Nat.not_lt_zero _))
        subst hy1
        rw [cbl_m1, Nat.add_zero] at hp
        refine EX.go (Kd_mono _ _) [false, false, false, false, false, false, true, false, false, false, false, false, false, false, false, false, false, true, false, false] 40 17 ?_
        dsimp only [wpc_s, wsl_t, wsl_f, gD_0, gD_s, ↓denB_n, pI_s, pG_s, pU_n, cb_X4_of_0, cb_X4_of_1, cb_X4_of_2, cb_X4_of_3, cb_X4_of_4, cb_X4_of_5, cb_X4_of_6, cb_X4_of_7, cb_X4_of_8, cb_X4_of_9, cb_X4_of_10, cb_X4_of_11, cb_X4_of_12, cb_X4_of_13, cb_X4_of_14, cb_X4_of_15, cb_X4_of_16, cb_X4_of_17, cb_X4_of_18, cb_X4_of_19, ↓ev_aload_n_0, ↓ev_iload_n_1, ↓ev_callv_2_0_1, ↓ev_callv_2_1_1, ↓ev_callv_2_2_1, ↓ev_callv_2_3_1, ↓ev_callv_2_4_1, ↓ev_if_eq, ↓ev_iload_n_2, ↓ev_iconst_0, ↓ev_iconst_3, ↓ev_calls_3_0_1, ↓ev_calls_3_1_1, ↓ev_calls_3_2_1, ↓ev_calls_3_3_1, ↓ev_calls_3_4_1, ↓ev_if_ne, ↓ev_sipush_m1001, ↓ev_iret, ↓ev_istore_n_3, ↓ev_tsw_0_3, ↓ev_getf_4_0, ↓ev_sipush_321, ↓ev_iadd, ↓ev_iald_o8, ↓ev_iald_o9, ↓ev_iald_o10, ↓ev_iald_o11, ↓ev_iald_o12, ↓ev_iald_o13, ↓ev_iald_o14, ↓ev_iald_o15, ↓ev_iald_o16, ↓ev_istore_4, ↓ev_iload_4, ↓ev_bipush_16, ↓ev_icmp_ge, ↓ev_iload_n_3, ↓ev_callv_3_0_1, ↓ev_callv_3_1_1, ↓ev_callv_3_2_1, ↓ev_callv_3_3_1, ↓ev_callv_3_4_1, ↓ev_callv_3_5_1, ↓ev_iconst_1, ↓ev_ishl, ↓ev_goto, ↓ev_ior, ↓ev_iinc_4_1, ↓ev_callv_1_0_1, ↓ev_callv_1_1_1, ↓ev_callv_1_2_1, ↓ev_callv_1_3_1, ↓ev_callv_1_4_1, ↓ev_iconst_m1, ↓ev_icmp_eq, ↓ev_iinc_3_1, Nat.reduceAdd]
        exact ⟨fun _ => hp, fun z => absurd rfl z⟩
      | succ f ih =>
        intro n y hy hp
        refine EX.go (Kd_mono _ _) [false, false, false, false, false, false, true, false, false, false, false, false, false, false, false, false, false, true, false, false] 40 17 ?_
        dsimp only [wpc_s, wsl_t, wsl_f, gD_0, gD_s, ↓denB_n, pI_s, pG_s, pU_n, cb_X4_of_0, cb_X4_of_1, cb_X4_of_2, cb_X4_of_3, cb_X4_of_4, cb_X4_of_5, cb_X4_of_6, cb_X4_of_7, cb_X4_of_8, cb_X4_of_9, cb_X4_of_10, cb_X4_of_11, cb_X4_of_12, cb_X4_of_13, cb_X4_of_14, cb_X4_of_15, cb_X4_of_16, cb_X4_of_17, cb_X4_of_18, cb_X4_of_19, ↓ev_aload_n_0, ↓ev_iload_n_1, ↓ev_callv_2_0_1, ↓ev_callv_2_1_1, ↓ev_callv_2_2_1, ↓ev_callv_2_3_1, ↓ev_callv_2_4_1, ↓ev_if_eq, ↓ev_iload_n_2, ↓ev_iconst_0, ↓ev_iconst_3, ↓ev_calls_3_0_1, ↓ev_calls_3_1_1, ↓ev_calls_3_2_1, ↓ev_calls_3_3_1, ↓ev_calls_3_4_1, ↓ev_if_ne, ↓ev_sipush_m1001, ↓ev_iret, ↓ev_istore_n_3, ↓ev_tsw_0_3, ↓ev_getf_4_0, ↓ev_sipush_321, ↓ev_iadd, ↓ev_iald_o8, ↓ev_iald_o9, ↓ev_iald_o10, ↓ev_iald_o11, ↓ev_iald_o12, ↓ev_iald_o13, ↓ev_iald_o14, ↓ev_iald_o15, ↓ev_iald_o16, ↓ev_istore_4, ↓ev_iload_4, ↓ev_bipush_16, ↓ev_icmp_ge, ↓ev_iload_n_3, ↓ev_callv_3_0_1, ↓ev_callv_3_1_1, ↓ev_callv_3_2_1, ↓ev_callv_3_3_1, ↓ev_callv_3_4_1, ↓ev_callv_3_5_1, ↓ev_iconst_1, ↓ev_ishl, ↓ev_goto, ↓ev_ior, ↓ev_iinc_4_1, ↓ev_callv_1_0_1, ↓ev_callv_1_1_1, ↓ev_callv_1_2_1, ↓ev_callv_1_3_1, ↓ev_callv_1_4_1, ↓ev_iconst_m1, ↓ev_icmp_eq, ↓ev_iinc_3_1, Nat.reduceAdd]
        refine ⟨fun z => ?_, fun z => ?_⟩
        · rw [z, cbl_m1, Nat.add_zero] at hp
          exact hp
        · obtain ⟨b, hb, rfl, hrb⟩ := hy.resolve_left z
          rw [cbl_fix hJ.1 hb] at hp
          have e2 : h (.inr 8) (321 + b) = bk g.1 b := by rw [hG.1 _ (by omega), bk_in hb]
          try simp (disch := omega) only [pk_mul, nI_add, n_lt0, n_le0, n_eq0, n_ge0, n_gt0, n_lt, n_le, n_eq, n_in, n_div, n_rem, n_rem2, n_m1, nI_clamp, bz_0, bz_1, tI_0, tI_bz, n4, n16, eq_self, Nat.reduceLT, Nat.reduceLeDiff, Nat.reduceEqDiff, Nat.reduceAdd, Nat.reduceMul, Nat.reduceDiv, Nat.reduceMod, Nat.le_refl, decide_eq_false_iff_not, Classical.not_not, true_and, and_true, false_and, and_false, not_true_eq_false, not_false_eq_true, forall_const, true_implies, false_implies, implies_true, ne_eq, e2]
          refine ⟨by omega, ih (n + 1) (bk g.1 b) ?_ (by rw [show n + 1 + cbl g.1 6 (bk g.1 b) = n + (cbl g.1 6 (bk g.1 b) + 1) by omega]; exact hp)⟩
          rcases wf_bk hJ.1 hb with y | ⟨b2, hb2, y⟩
          · exact Or.inl y
          · refine Or.inr ⟨b2, hb2, y, ?_⟩
            have := hr b b2 hb hb2 (by rw [← bk_in hb]; exact y)
            omega
  · rw [dec_f] at c2
    have hne : ∀ j, j < 4 → ¬ w = nI j := fun j hj z => c2 (by
      rw [z]
      exact ⟨by rw [n_lt0 (by omega)]; exact id, nI_lt hj (by decide)⟩)
    rw [if_neg (hne 0 (by decide)), if_neg (hne 1 (by decide)), if_neg (hne 2 (by decide)), if_neg (hne 3 (by decide))] at hp
    exact r_rf (j := 0) hG (by decide) hp
theorem RG.tp {h' : mH} {n : Nat} {f : Nat → Nat} (hG : RG h g) (ho : ∀ r, r ≠ .inr 7 → r ≠ .inr 15 → h' r = h r) (h7 : ∀ j, j ≠ 15 → h' (.inr 7) j = h (.inr 7) j) (h4 : h' (.inr 7) 15 = nI n) (hn : n ≤ 120) (h5 : ∀ j, j < n → h' (.inr 15) j = nI (f j)) : RG h' (gtp g n f) := by
  obtain ⟨w1, w2, w3, w4, w5, w6, w7, w8⟩ := hG
  refine ⟨fun j hj => by rw [ho _ (by simp) (by simp)]; exact w1 j hj, fun z j hj => by rw [ho _ (by simp) (by simp)]; exact w2 z j hj, by rw [h7 _ (by decide)]; exact w3, by rw [h7 _ (by decide)]; exact w4, fun j hj => by rw [ho _ (by simp) (by simp)]; exact w5 j hj, h4, hn, h5⟩
theorem r_feed {x : Int64} {n : Int32} (hG : RG h g) (hp : ∀ h', FR h h' → RG h' (aFeed g x n).2 → p (aFeed g x n).1 h') : mI (Kd sL (d + 12)) 179 [.inr (.inr (.inr 7)), .inr (.inl x), .inl n] h p := by
  refine ke_X4_feed ?_
  refine EX.go (Kd_mono _ _) [false, false, false, false, false, true, false, false] 40 0 ?_
  dsimp only [wpc_s, wsl_t, wsl_f, gD_0, gD_s, ↓denB_n, pI_s, pG_s, pU_n, cb_X4_feed_0, cb_X4_feed_1, cb_X4_feed_2, cb_X4_feed_3, cb_X4_feed_4, cb_X4_feed_5, cb_X4_feed_6, cb_X4_feed_7, ↓ev_iload_n_3, ↓ev_iconst_1, ↓ev_bipush_8, ↓ev_calls_3_0_1, ↓ev_calls_3_1_1, ↓ev_calls_3_2_1, ↓ev_calls_3_3_1, ↓ev_calls_3_4_1, ↓ev_if_ne, ↓ev_aload_n_0, ↓ev_sipush_m1001, ↓ev_callv_2_0_1, ↓ev_callv_2_1_1, ↓ev_callv_2_2_1, ↓ev_callv_2_3_1, ↓ev_callv_2_4_1, ↓ev_iret, ↓ev_getf_4_15, ↓ev_iadd, ↓ev_bipush_120, ↓ev_icmp_le, ↓ev_sipush_m1002, ↓ev_iconst_0, ↓ev_istore_4, ↓ev_iload_4, ↓ev_icmp_ge, ↓ev_getf_4_13, ↓ev_lload_n_1, ↓ev_imul, ↓ev_lushr, ↓ev_l2i, ↓ev_sipush_255, ↓ev_iand, ↓ev_iast_o8, ↓ev_iast_o9, ↓ev_iast_o10, ↓ev_iast_o11, ↓ev_iast_o12, ↓ev_iast_o13, ↓ev_iast_o14, ↓ev_iast_o15, ↓ev_iast_o16, ↓ev_dup, ↓ev_dupr, ↓ev_putf_4_15, ↓ev_iinc_4_1, ↓ev_goto, Nat.reduceAdd]
  unfold aFeed at hp
  refine r_in ?_
  try simp (disch := omega) only [pk_mul, nI_add, n_lt0, n_le0, n_eq0, n_ge0, n_gt0, n_lt, n_le, n_eq, n_in, n_div, n_rem, n_rem2, n_m1, nI_clamp, bz_0, bz_1, tI_0, tI_bz, n4, n16, eq_self, Nat.reduceLT, Nat.reduceLeDiff, Nat.reduceEqDiff, Nat.reduceAdd, Nat.reduceMul, Nat.reduceDiv, Nat.reduceMod, Nat.le_refl, decide_eq_false_iff_not, Classical.not_not, true_and, and_true, false_and, and_false, not_true_eq_false, not_false_eq_true, forall_const, true_implies, false_implies, implies_true, ne_eq]
  refine ⟨fun c => ?_, fun c => ?_⟩
  · have a1 : nI 1 ≤ n ∧ n ≤ nI 8 := Classical.not_not.mp (fun z => c (dec_f.mpr z))
    rw [if_pos (dec_t.mpr a1)] at hp
    obtain ⟨k, hk, rfl⟩ := (i_cases n).resolve_left (fun z => by
      have := Int32.lt_of_le_of_lt a1.1 z
      rw [n_lt0 (by decide)] at this
      exact this)
    rw [nI_clamp hk] at hp
    have q1 := a1.2
    rw [n_le hk (by decide)] at q1
    obtain ⟨w1, w2, w3, w4, w5, e4, w7, w8⟩ := id hG
    rw [e4]
    generalize hN : g.2.2.2.2.2.1 = N at e4 w7 w8 hp ⊢
    try simp (disch := omega) only [pk_mul, nI_add, n_lt0, n_le0, n_eq0, n_ge0, n_gt0, n_lt, n_le, n_eq, n_in, n_div, n_rem, n_rem2, n_m1, nI_clamp, bz_0, bz_1, tI_0, tI_bz, n4, n16, eq_self, Nat.reduceLT, Nat.reduceLeDiff, Nat.reduceEqDiff, Nat.reduceAdd, Nat.reduceMul, Nat.reduceDiv, Nat.reduceMod, Nat.le_refl, decide_eq_false_iff_not, Classical.not_not, true_and, and_true, false_and, and_false, not_true_eq_false, not_false_eq_true, forall_const, true_implies, false_implies, implies_true, ne_eq]
    refine ⟨fun c3 => ?_, fun c3 => ?_⟩
    · rw [if_pos (dec_t.mpr c3)] at hp
      suffices H : ∀ (f i : Nat) (h' : mH), i + f = k → (∀ r, r ≠ .inr 7 → r ≠ .inr 15 → h' r = h r) → (∀ j, j ≠ 15 → h' (.inr 7) j = h (.inr 7) j) → h' (.inr 7) 15 = nI (N + i) → (∀ j, j < N + i → h' (.inr 15) j = nI (tpc g x k j)) → EX (Kd sL (d + 11)) sL md_X4_feed (pI p) 5 [some (.inr (.inr (.inr 7))), some (.inr (.inl x)), none, some (.inl (nI k)), some (.inl (nI i))] [] h' by
        refine H k 0 h (by omega) (fun _ _ _ => rfl) (fun _ _ => rfl) e4 (fun j hj => ?_)
        rw [w8 j hj]
        unfold tpc
        rw [hN, if_neg (by omega)]
      intro f
      induction f with
      | zero =>
        intro i h' hi ho h7 h4 h5
        have : i = k := by omega
        subst this
        refine EX.go (Kd_mono _ _) [false, false, false, false, false, true, false, false] 40 5 ?_
        dsimp only [wpc_s, wsl_t, wsl_f, gD_0, gD_s, ↓denB_n, pI_s, pG_s, pU_n, cb_X4_feed_0, cb_X4_feed_1, cb_X4_feed_2, cb_X4_feed_3, cb_X4_feed_4, cb_X4_feed_5, cb_X4_feed_6, cb_X4_feed_7, ↓ev_iload_n_3, ↓ev_iconst_1, ↓ev_bipush_8, ↓ev_calls_3_0_1, ↓ev_calls_3_1_1, ↓ev_calls_3_2_1, ↓ev_calls_3_3_1, ↓ev_calls_3_4_1, ↓ev_if_ne, ↓ev_aload_n_0, ↓ev_sipush_m1001, ↓ev_callv_2_0_1, ↓ev_callv_2_1_1, ↓ev_callv_2_2_1, ↓ev_callv_2_3_1, ↓ev_callv_2_4_1, ↓ev_iret, ↓ev_getf_4_15, ↓ev_iadd, ↓ev_bipush_120, ↓ev_icmp_le, ↓ev_sipush_m1002, ↓ev_iconst_0, ↓ev_istore_4, ↓ev_iload_4, ↓ev_icmp_ge, ↓ev_getf_4_13, ↓ev_lload_n_1, ↓ev_imul, ↓ev_lushr, ↓ev_l2i, ↓ev_sipush_255, ↓ev_iand, ↓ev_iast_o8, ↓ev_iast_o9, ↓ev_iast_o10, ↓ev_iast_o11, ↓ev_iast_o12, ↓ev_iast_o13, ↓ev_iast_o14, ↓ev_iast_o15, ↓ev_iast_o16, ↓ev_dup, ↓ev_dupr, ↓ev_putf_4_15, ↓ev_iinc_4_1, ↓ev_goto, Nat.reduceAdd]
        try simp (disch := omega) only [pk_mul, nI_add, n_lt0, n_le0, n_eq0, n_ge0, n_gt0, n_lt, n_le, n_eq, n_in, n_div, n_rem, n_rem2, n_m1, nI_clamp, bz_0, bz_1, tI_0, tI_bz, n4, n16, eq_self, Nat.reduceLT, Nat.reduceLeDiff, Nat.reduceEqDiff, Nat.reduceAdd, Nat.reduceMul, Nat.reduceDiv, Nat.reduceMod, Nat.le_refl, decide_eq_false_iff_not, Classical.not_not, true_and, and_true, false_and, and_false, not_true_eq_false, not_false_eq_true, forall_const, true_implies, false_implies, implies_true, ne_eq]
        rw [h4]
        exact hp h' (fun r q => ho r (q 7 (by decide) (by decide)) (q 15 (by decide) (by decide))) (hG.tp ho h7 h4 c3 h5)
      | succ f ih =>
        intro i h' hi ho h7 h4 h5
        refine EX.go (Kd_mono _ _) [false, false, false, false, false, true, false, false] 40 5 ?_
        dsimp only [wpc_s, wsl_t, wsl_f, gD_0, gD_s, ↓denB_n, pI_s, pG_s, pU_n, cb_X4_feed_0, cb_X4_feed_1, cb_X4_feed_2, cb_X4_feed_3, cb_X4_feed_4, cb_X4_feed_5, cb_X4_feed_6, cb_X4_feed_7, ↓ev_iload_n_3, ↓ev_iconst_1, ↓ev_bipush_8, ↓ev_calls_3_0_1, ↓ev_calls_3_1_1, ↓ev_calls_3_2_1, ↓ev_calls_3_3_1, ↓ev_calls_3_4_1, ↓ev_if_ne, ↓ev_aload_n_0, ↓ev_sipush_m1001, ↓ev_callv_2_0_1, ↓ev_callv_2_1_1, ↓ev_callv_2_2_1, ↓ev_callv_2_3_1, ↓ev_callv_2_4_1, ↓ev_iret, ↓ev_getf_4_15, ↓ev_iadd, ↓ev_bipush_120, ↓ev_icmp_le, ↓ev_sipush_m1002, ↓ev_iconst_0, ↓ev_istore_4, ↓ev_iload_4, ↓ev_icmp_ge, ↓ev_getf_4_13, ↓ev_lload_n_1, ↓ev_imul, ↓ev_lushr, ↓ev_l2i, ↓ev_sipush_255, ↓ev_iand, ↓ev_iast_o8, ↓ev_iast_o9, ↓ev_iast_o10, ↓ev_iast_o11, ↓ev_iast_o12, ↓ev_iast_o13, ↓ev_iast_o14, ↓ev_iast_o15, ↓ev_iast_o16, ↓ev_dup, ↓ev_dupr, ↓ev_putf_4_15, ↓ev_iinc_4_1, ↓ev_goto, Nat.reduceAdd]
        have e7 : ∀ v, hup h' (.inr 15) (N + i) v (.inr 7) 15 = nI (N + i) := fun v => by rw [hup_other (by simp), h4]
        try simp (disch := omega) only [pk_mul, nI_add, n_lt0, n_le0, n_eq0, n_ge0, n_gt0, n_lt, n_le, n_eq, n_in, n_div, n_rem, n_rem2, n_m1, nI_clamp, bz_0, bz_1, tI_0, tI_bz, n4, n16, eq_self, Nat.reduceLT, Nat.reduceLeDiff, Nat.reduceEqDiff, Nat.reduceAdd, Nat.reduceMul, Nat.reduceDiv, Nat.reduceMod, Nat.le_refl, decide_eq_false_iff_not, Classical.not_not, true_and, and_true, false_and, and_false, not_true_eq_false, not_false_eq_true, forall_const, true_implies, false_implies, implies_true, ne_eq, h4, pk_mul, and255, e7]
        refine ⟨fun z => absurd z (by omega), fun _ => ⟨by omega, ?_⟩⟩
        refine ih (i + 1) _ (by omega) (fun r p1 p2 => ?_) (fun j hj => ?_) ?_ (fun j hj => ?_)
        · rw [← ho r p1 p2]
          funext j
          rw [hup_other p1, hup_other p2]
        · rw [hup_idx hj, hup_other (by simp)]; exact h7 j hj
        · rw [hup_same, Nat.add_assoc]
        · rw [hup_other (by simp)]
          by_cases z : j = N + i
          · subst z
            rw [hup_same]
            unfold tpc
            rw [hN, if_pos (by omega), show N + i - N = i by omega]
            rfl
          · rw [hup_idx z]
            exact h5 j (by omega)
    · rw [if_neg (by rw [dec_t]; exact c3)] at hp
      exact r_rf (j := 1) hG (by decide) hp
  · rw [dec_f.mpr (dec_f.mp c), if_neg (by decide)] at hp
    exact r_rf (j := 0) hG (by decide) hp
end ROF
