/-! ===== the reference: deeds as calls ===== -/
section RPUB
variable {sL d L B : Nat} {h : mH} {g : Gs} {p : Int32 → mH → Prop} {kd : Nat} {a b c : Int32}
theorem dl_bad (hp : ∀ h', FD h h' → RG h' (aDeed g kd a b c).2 → p (aDeed g kd a b c).1 h') (z : ¬ fit g.1 kd a b c) : ∀ h', FD h h' → RG h' (rfA g 0).2 → p (rfA g 0).1 h' := by
  unfold aDeed at hp
  rw [dec_f.mpr z, if_neg (by decide)] at hp
  exact hp
theorem dl_st (hp : ∀ h', FD h h' → RG h' (aDeed g kd a b c).2 → p (aDeed g kd a b c).1 h') (z : fit g.1 kd a b c) (y : lk g.1 = true ∨ hin g.1 kd a) : ∀ h', FD h h' → RG h' (rfA g 2).2 → p (rfA g 2).1 h' := by
  unfold aDeed at hp
  rw [dec_t.mpr z, if_pos rfl, if_pos (by rw [Bool.or_eq_true, dec_t]; exact y)] at hp
  exact hp
theorem dl_rnd (hp : ∀ h', FD h h' → RG h' (aDeed g kd a b c).2 → p (aDeed g kd a b c).1 h') (z : fit g.1 kd a b c) (y : lk g.1 = false) (x : ¬ hin g.1 kd a) (w : rnd g.1 kd a b = true) : ∀ h', FD h h' → RG h' (rfA g 3).2 → p (rfA g 3).1 h' := by
  unfold aDeed at hp
  rw [dec_t.mpr z, if_pos rfl, if_neg (by rw [Bool.or_eq_true, dec_t]; exact fun u => u.elim (fun u => by rw [y] at u; cases u) x), if_pos w] at hp
  exact hp
theorem dl_go (hp : ∀ h', FD h h' → RG h' (aDeed g kd a b c).2 → p (aDeed g kd a b c).1 h') (z : fit g.1 kd a b c) (y : lk g.1 = false) (x : ¬ hin g.1 kd a) (w : rnd g.1 kd a b = false) : ∀ h', FD h h' → RG h' (if (tau g.1 kd a b c).2.2 = 2 then rfA g 1 else dne g (tau2 g.1 kd a b c)).2 → p (if (tau g.1 kd a b c).2.2 = 2 then rfA g 1 else dne g (tau2 g.1 kd a b c)).1 h' := by
  unfold aDeed at hp
  rw [dec_t.mpr z, if_pos rfl, if_neg (by rw [Bool.or_eq_true, dec_t]; exact fun u => u.elim (fun u => by rw [y] at u; cases u) x), if_neg (by rw [w]; decide)] at hp
  exact hp
theorem rnd_n (hk : kd ≠ 7) : rnd g.1 kd a b = false := by
  unfold rnd
  rw [decide_eq_false hk]
  rfl
theorem hin_n (h1 : kd ≠ 1) (h5 : kd ≠ 5) : ¬ hin g.1 kd a := fun z => z.elim (fun z => h1 z.1) (fun z => h5 z.1)
theorem fd23 {h' : mH} {F G : Nat → Int32} (o : FD (h23 h F G) h') : FD h h' := FE.p23.fd.tr o
theorem r_write (hG : RG h g) (hJ : JG B g) (hB : B < 2 ^ 29) (hp : ∀ h', FD h h' → RG h' (aDeed g 0 a b c).2 → p (aDeed g 0 a b c).1 h') : mI (Kd sL (d + 10)) 149 [.inr (.inr (.inr 7)), .inl a, .inl b, .inl c] h p := by
  refine ke_X4_write ?_
  refine EX.go (Kd_mono _ _) [false, false, false, false, false, false, false, false] 40 0 ?_
  dsimp only [wpc_s, wsl_t, wsl_f, gD_0, gD_s, ↓denB_n, pI_s, pG_s, pU_n, cb_X4_write_0, cb_X4_write_1, cb_X4_write_2, cb_X4_write_3, cb_X4_write_4, cb_X4_write_5, cb_X4_write_6, cb_X4_write_7, ↓ev_aload_n_0, ↓ev_iload_n_1, ↓ev_callv_2_0_1, ↓ev_callv_2_1_1, ↓ev_callv_2_2_1, ↓ev_callv_2_3_1, ↓ev_callv_2_4_1, ↓ev_if_eq, ↓ev_iload_n_2, ↓ev_calls_1_0_1, ↓ev_calls_1_1_1, ↓ev_calls_1_2_1, ↓ev_calls_1_3_1, ↓ev_calls_1_4_1, ↓ev_iload_n_3, ↓ev_if_ne, ↓ev_sipush_m1001, ↓ev_iret, ↓ev_callv_1_0_1, ↓ev_callv_1_1_1, ↓ev_callv_1_2_1, ↓ev_callv_1_3_1, ↓ev_callv_1_4_1, ↓ev_sipush_m1003, ↓ev_goto, ↓ev_iconst_0, ↓ev_callv_5_0_1, ↓ev_callv_5_1_1, ↓ev_callv_5_2_1, ↓ev_callv_5_3_1, ↓ev_callv_5_4_1, Nat.reduceAdd]
  refine r_isLayer hG.1 hJ.1 ?_
  try simp (disch := omega) only [pk_mul, nI_add, n_lt0, n_le0, n_eq0, n_ge0, n_gt0, n_lt, n_le, n_eq, n_in, n_div, n_rem, n_rem2, n_m1, nI_clamp, bz_0, bz_1, tI_0, tI_bz, n4, n16, eq_self, Nat.reduceLT, Nat.reduceLeDiff, Nat.reduceEqDiff, Nat.reduceAdd, Nat.reduceMul, Nat.reduceDiv, Nat.reduceMod, Nat.le_refl, decide_eq_false_iff_not, Classical.not_not, true_and, and_true, false_and, and_false, not_true_eq_false, not_false_eq_true, forall_const, true_implies, false_implies, implies_true, ne_eq]
  refine ⟨fun c1 => r_refuse (j := 0) hG (by decide) (dl_bad hp (fun z => dec_f.mp c1 z.1)), fun c1 => ?_⟩
  refine r_isPlace ?_
  try simp (disch := omega) only [pk_mul, nI_add, n_lt0, n_le0, n_eq0, n_ge0, n_gt0, n_lt, n_le, n_eq, n_in, n_div, n_rem, n_rem2, n_m1, nI_clamp, bz_0, bz_1, tI_0, tI_bz, n4, n16, eq_self, Nat.reduceLT, Nat.reduceLeDiff, Nat.reduceEqDiff, Nat.reduceAdd, Nat.reduceMul, Nat.reduceDiv, Nat.reduceMod, Nat.le_refl, decide_eq_false_iff_not, Classical.not_not, true_and, and_true, false_and, and_false, not_true_eq_false, not_false_eq_true, forall_const, true_implies, false_implies, implies_true, ne_eq]
  refine ⟨fun c2 => r_refuse (j := 0) hG (by decide) (dl_bad hp (fun z => dec_f.mp c2 z.2.1)), fun c2 => ?_⟩
  refine r_isByte ?_
  try simp (disch := omega) only [pk_mul, nI_add, n_lt0, n_le0, n_eq0, n_ge0, n_gt0, n_lt, n_le, n_eq, n_in, n_div, n_rem, n_rem2, n_m1, nI_clamp, bz_0, bz_1, tI_0, tI_bz, n4, n16, eq_self, Nat.reduceLT, Nat.reduceLeDiff, Nat.reduceEqDiff, Nat.reduceAdd, Nat.reduceMul, Nat.reduceDiv, Nat.reduceMod, Nat.le_refl, decide_eq_false_iff_not, Classical.not_not, true_and, and_true, false_and, and_false, not_true_eq_false, not_false_eq_true, forall_const, true_implies, false_implies, implies_true, ne_eq]
  refine ⟨fun c3 => ?_, fun c3 => r_refuse (j := 0) hG (by decide) (dl_bad hp (fun z => dec_f.mp c3 z.2.2))⟩
  have hf : fit g.1 0 a b c := ⟨Classical.not_not.mp (fun z => c1 (dec_f.mpr z)), Classical.not_not.mp (fun z => c2 (dec_f.mpr z)), Classical.not_not.mp (fun z => c3 (dec_f.mpr z))⟩
  refine r_hasLack hG.1 hJ.1 (fun F G => ?_)
  try simp (disch := omega) only [pk_mul, nI_add, n_lt0, n_le0, n_eq0, n_ge0, n_gt0, n_lt, n_le, n_eq, n_in, n_div, n_rem, n_rem2, n_m1, nI_clamp, bz_0, bz_1, tI_0, tI_bz, n4, n16, eq_self, Nat.reduceLT, Nat.reduceLeDiff, Nat.reduceEqDiff, Nat.reduceAdd, Nat.reduceMul, Nat.reduceDiv, Nat.reduceMod, Nat.le_refl, decide_eq_false_iff_not, Classical.not_not, true_and, and_true, false_and, and_false, not_true_eq_false, not_false_eq_true, forall_const, true_implies, false_implies, implies_true, ne_eq]
  refine ⟨fun c4 => ?_, fun c4 => ?_⟩
  · have hgo := dl_go hp hf c4 (hin_n (by decide) (by decide)) (rnd_n (by decide))
    exact r_deed (kd := 0) (a := a) (b := b) (c := c) hG.p23 hJ hB (by decide) hf c4 (hin_n (by decide) (by decide)) (fun h1 o1 g1 => hgo h1 (fd23 o1) g1)
  · exact r_refuse (j := 2) hG.p23 (by decide) (fun h1 o1 g1 => dl_st hp hf (Or.inl (by simpa using c4)) h1 (fd23 o1) g1)
theorem lms_eq {S : St} (hw : WF S) {s : Nat} (hs : s ≤ 8) (h1 : ∀ j, j < s → S (383 + j) = nI 1) (h2 : s < 8 → ¬ S (383 + s) = nI 1) : lms S = s := by
  obtain ⟨a1, a2, a3⟩ := lms_ok S
  rcases Nat.lt_trichotomy (lms S) s with q | q | q
  · exact absurd (a3 (by omega)) ((sn_in hw (by omega)).mp (h1 _ q))
  · exact q
  · exact absurd ((sn_in hw (by omega)).mpr (a2 s q)) (h2 (by omega))
theorem r_snap (hG : RG h g) (hJ : JG B g) (hB : B < 2 ^ 29) (hp : ∀ h', FD h h' → RG h' (aDeed g 1 a 0 0).2 → p (aDeed g 1 a 0 0).1 h') : mI (Kd sL (d + 10)) 150 [.inr (.inr (.inr 7)), .inl a] h p := by
  refine ke_X4_snap ?_
  refine EX.go (Kd_mono _ _) [false, false, false, true, false, false, false, false, false, false, false] 40 0 ?_
  dsimp only [wpc_s, wsl_t, wsl_f, gD_0, gD_s, ↓denB_n, pI_s, pG_s, pU_n, cb_X4_snap_0, cb_X4_snap_1, cb_X4_snap_2, cb_X4_snap_3, cb_X4_snap_4, cb_X4_snap_5, cb_X4_snap_6, cb_X4_snap_7, cb_X4_snap_8, cb_X4_snap_9, cb_X4_snap_10, ↓ev_aload_n_0, ↓ev_iload_n_1, ↓ev_callv_2_0_1, ↓ev_callv_2_1_1, ↓ev_callv_2_2_1, ↓ev_callv_2_3_1, ↓ev_callv_2_4_1, ↓ev_if_ne, ↓ev_sipush_m1001, ↓ev_iret, ↓ev_iconst_0, ↓ev_istore_n_2, ↓ev_iload_n_2, ↓ev_bipush_8, ↓ev_icmp_ge, ↓ev_getf_4_0, ↓ev_sipush_383, ↓ev_iadd, ↓ev_iald_o8, ↓ev_iald_o9, ↓ev_iald_o10, ↓ev_iald_o11, ↓ev_iald_o12, ↓ev_iald_o13, ↓ev_iald_o14, ↓ev_iald_o15, ↓ev_iald_o16, ↓ev_iconst_1, ↓ev_icmp_ne, ↓ev_iinc_2_1, ↓ev_goto, ↓ev_callv_1_0_1, ↓ev_callv_1_1_1, ↓ev_callv_1_2_1, ↓ev_callv_1_3_1, ↓ev_callv_1_4_1, ↓ev_sipush_m1003, ↓ev_callv_5_0_1, ↓ev_callv_5_1_1, ↓ev_callv_5_2_1, ↓ev_callv_5_3_1, ↓ev_callv_5_4_1, Nat.reduceAdd]
  refine r_isLayer hG.1 hJ.1 ?_
  try simp (disch := omega) only [pk_mul, nI_add, n_lt0, n_le0, n_eq0, n_ge0, n_gt0, n_lt, n_le, n_eq, n_in, n_div, n_rem, n_rem2, n_m1, nI_clamp, bz_0, bz_1, tI_0, tI_bz, n4, n16, eq_self, Nat.reduceLT, Nat.reduceLeDiff, Nat.reduceEqDiff, Nat.reduceAdd, Nat.reduceMul, Nat.reduceDiv, Nat.reduceMod, Nat.le_refl, decide_eq_false_iff_not, Classical.not_not, true_and, and_true, false_and, and_false, not_true_eq_false, not_false_eq_true, forall_const, true_implies, false_implies, implies_true, ne_eq]
  refine ⟨fun c1 => ?_, fun c1 => r_refuse (j := 0) hG (by decide) (dl_bad hp (fun z => dec_f.mp c1 z))⟩
  have hf : fit g.1 1 a 0 0 := Classical.not_not.mp (fun z => c1 (dec_f.mpr z))
  suffices H : ∀ (f k : Nat), k + f = 8 → (∀ j, j < k → g.1 (383 + j) = nI 1) → EX (Kd sL (d + 9)) sL md_X4_snap (pI p) 3 [some (.inr (.inr (.inr 7))), some (.inl a), some (.inl (nI k))] [] h from H 8 0 rfl (fun j hj => absurd hj (Nat.not_lt_zero j))
  have J6 : ∀ k, k ≤ 8 → lms g.1 = k → EX (Kd sL (d + 9)) sL md_X4_snap (pI p) 6 [some (.inr (.inr (.inr 7))), some (.inl a), some (.inl (nI k))] [] h := by
    intro k hk hlm
    refine EX.go (Kd_mono _ _) [false, false, false, true, false, false, false, false, false, false, false] 40 6 ?_
    dsimp only [wpc_s, wsl_t, wsl_f, gD_0, gD_s, ↓denB_n, pI_s, pG_s, pU_n, cb_X4_snap_0, cb_X4_snap_1, cb_X4_snap_2, cb_X4_snap_3, cb_X4_snap_4, cb_X4_snap_5, cb_X4_snap_6, cb_X4_snap_7, cb_X4_snap_8, cb_X4_snap_9, cb_X4_snap_10, ↓ev_aload_n_0, ↓ev_iload_n_1, ↓ev_callv_2_0_1, ↓ev_callv_2_1_1, ↓ev_callv_2_2_1, ↓ev_callv_2_3_1, ↓ev_callv_2_4_1, ↓ev_if_ne, ↓ev_sipush_m1001, ↓ev_iret, ↓ev_iconst_0, ↓ev_istore_n_2, ↓ev_iload_n_2, ↓ev_bipush_8, ↓ev_icmp_ge, ↓ev_getf_4_0, ↓ev_sipush_383, ↓ev_iadd, ↓ev_iald_o8, ↓ev_iald_o9, ↓ev_iald_o10, ↓ev_iald_o11, ↓ev_iald_o12, ↓ev_iald_o13, ↓ev_iald_o14, ↓ev_iald_o15, ↓ev_iald_o16, ↓ev_iconst_1, ↓ev_icmp_ne, ↓ev_iinc_2_1, ↓ev_goto, ↓ev_callv_1_0_1, ↓ev_callv_1_1_1, ↓ev_callv_1_2_1, ↓ev_callv_1_3_1, ↓ev_callv_1_4_1, ↓ev_sipush_m1003, ↓ev_callv_5_0_1, ↓ev_callv_5_1_1, ↓ev_callv_5_2_1, ↓ev_callv_5_3_1, ↓ev_callv_5_4_1, Nat.reduceAdd]
    refine r_hasLack hG.1 hJ.1 (fun F G => ?_)
    obtain ⟨a1, a2, a3⟩ := lms_ok g.1
    try simp (disch := omega) only [pk_mul, nI_add, n_lt0, n_le0, n_eq0, n_ge0, n_gt0, n_lt, n_le, n_eq, n_in, n_div, n_rem, n_rem2, n_m1, nI_clamp, bz_0, bz_1, tI_0, tI_bz, n4, n16, eq_self, Nat.reduceLT, Nat.reduceLeDiff, Nat.reduceEqDiff, Nat.reduceAdd, Nat.reduceMul, Nat.reduceDiv, Nat.reduceMod, Nat.le_refl, decide_eq_false_iff_not, Classical.not_not, true_and, and_true, false_and, and_false, not_true_eq_false, not_false_eq_true, forall_const, true_implies, false_implies, implies_true, ne_eq]
    refine ⟨fun c4 => ?_, fun c4 => ⟨fun c5 => ?_, fun c5 => ?_⟩⟩
    · exact r_refuse (j := 2) hG.p23 (by decide) (fun h1 o1 g1 => dl_st hp hf (Or.inl (by simpa using c4)) h1 (fd23 o1) g1)
    · have hh : ¬ hin g.1 1 a := fun z => z.elim (fun z => z.2 (lms g.1) (by omega) (a3 (by omega))) (fun z => absurd z.1 (by decide))
      have hgo := dl_go hp hf c4 hh (rnd_n (by decide))
      rw [← hlm]
      exact r_deed (kd := 1) (a := a) (b := 0) (c := 0) hG.p23 hJ hB (by decide) hf c4 hh (fun h1 o1 g1 => hgo h1 (fd23 o1) g1)
    · exact r_refuse (j := 2) hG.p23 (by decide) (fun h1 o1 g1 => dl_st hp hf (Or.inr (Or.inl ⟨rfl, fun s hs => a2 s (by omega)⟩)) h1 (fd23 o1) g1)
  intro f
  induction f with
  | zero =>
    intro k hk hj
    refine EX.go (Kd_mono _ _) [false, false, false, true, false, false, true, false, false, false, false] 40 3 ?_
    dsimp only [wpc_s, wsl_t, wsl_f, gD_0, gD_s, ↓denB_n, pI_s, pG_s, pU_n, cb_X4_snap_0, cb_X4_snap_1, cb_X4_snap_2, cb_X4_snap_3, cb_X4_snap_4, cb_X4_snap_5, cb_X4_snap_6, cb_X4_snap_7, cb_X4_snap_8, cb_X4_snap_9, cb_X4_snap_10, ↓ev_aload_n_0, ↓ev_iload_n_1, ↓ev_callv_2_0_1, ↓ev_callv_2_1_1, ↓ev_callv_2_2_1, ↓ev_callv_2_3_1, ↓ev_callv_2_4_1, ↓ev_if_ne, ↓ev_sipush_m1001, ↓ev_iret, ↓ev_iconst_0, ↓ev_istore_n_2, ↓ev_iload_n_2, ↓ev_bipush_8, ↓ev_icmp_ge, ↓ev_getf_4_0, ↓ev_sipush_383, ↓ev_iadd, ↓ev_iald_o8, ↓ev_iald_o9, ↓ev_iald_o10, ↓ev_iald_o11, ↓ev_iald_o12, ↓ev_iald_o13, ↓ev_iald_o14, ↓ev_iald_o15, ↓ev_iald_o16, ↓ev_iconst_1, ↓ev_icmp_ne, ↓ev_iinc_2_1, ↓ev_goto, ↓ev_callv_1_0_1, ↓ev_callv_1_1_1, ↓ev_callv_1_2_1, ↓ev_callv_1_3_1, ↓ev_callv_1_4_1, ↓ev_sipush_m1003, ↓ev_callv_5_0_1, ↓ev_callv_5_1_1, ↓ev_callv_5_2_1, ↓ev_callv_5_3_1, ↓ev_callv_5_4_1, Nat.reduceAdd]
    try simp (disch := omega) only [pk_mul, nI_add, n_lt0, n_le0, n_eq0, n_ge0, n_gt0, n_lt, n_le, n_eq, n_in, n_div, n_rem, n_rem2, n_m1, nI_clamp, bz_0, bz_1, tI_0, tI_bz, n4, n16, eq_self, Nat.reduceLT, Nat.reduceLeDiff, Nat.reduceEqDiff, Nat.reduceAdd, Nat.reduceMul, Nat.reduceDiv, Nat.reduceMod, Nat.le_refl, decide_eq_false_iff_not, Classical.not_not, true_and, and_true, false_and, and_false, not_true_eq_false, not_false_eq_true, forall_const, true_implies, false_implies, implies_true, ne_eq]
    exact ⟨fun _ => J6 k (by omega) (lms_eq hJ.1 (by omega) hj (fun z => absurd z (by omega))), fun z => absurd (show 8 ≤ k by omega) z⟩
  | succ f ih =>
    intro k hk hj
    refine EX.go (Kd_mono _ _) [false, false, false, true, false, false, true, false, false, false, false] 40 3 ?_
    dsimp only [wpc_s, wsl_t, wsl_f, gD_0, gD_s, ↓denB_n, pI_s, pG_s, pU_n, cb_X4_snap_0, cb_X4_snap_1, cb_X4_snap_2, cb_X4_snap_3, cb_X4_snap_4, cb_X4_snap_5, cb_X4_snap_6, cb_X4_snap_7, cb_X4_snap_8, cb_X4_snap_9, cb_X4_snap_10, ↓ev_aload_n_0, ↓ev_iload_n_1, ↓ev_callv_2_0_1, ↓ev_callv_2_1_1, ↓ev_callv_2_2_1, ↓ev_callv_2_3_1, ↓ev_callv_2_4_1, ↓ev_if_ne, ↓ev_sipush_m1001, ↓ev_iret, ↓ev_iconst_0, ↓ev_istore_n_2, ↓ev_iload_n_2, ↓ev_bipush_8, ↓ev_icmp_ge, ↓ev_getf_4_0, ↓ev_sipush_383, ↓ev_iadd, ↓ev_iald_o8, ↓ev_iald_o9, ↓ev_iald_o10, ↓ev_iald_o11, ↓ev_iald_o12, ↓ev_iald_o13, ↓ev_iald_o14, ↓ev_iald_o15, ↓ev_iald_o16, ↓ev_iconst_1, ↓ev_icmp_ne, ↓ev_iinc_2_1, ↓ev_goto, ↓ev_callv_1_0_1, ↓ev_callv_1_1_1, ↓ev_callv_1_2_1, ↓ev_callv_1_3_1, ↓ev_callv_1_4_1, ↓ev_sipush_m1003, ↓ev_callv_5_0_1, ↓ev_callv_5_1_1, ↓ev_callv_5_2_1, ↓ev_callv_5_3_1, ↓ev_callv_5_4_1, Nat.reduceAdd]
    have e : h (.inr 8) (383 + k) = g.1 (383 + k) := hG.1 _ (by omega)
    try simp (disch := omega) only [pk_mul, nI_add, n_lt0, n_le0, n_eq0, n_ge0, n_gt0, n_lt, n_le, n_eq, n_in, n_div, n_rem, n_rem2, n_m1, nI_clamp, bz_0, bz_1, tI_0, tI_bz, n4, n16, eq_self, Nat.reduceLT, Nat.reduceLeDiff, Nat.reduceEqDiff, Nat.reduceAdd, Nat.reduceMul, Nat.reduceDiv, Nat.reduceMod, Nat.le_refl, decide_eq_false_iff_not, Classical.not_not, true_and, and_true, false_and, and_false, not_true_eq_false, not_false_eq_true, forall_const, true_implies, false_implies, implies_true, ne_eq, e]
    refine ⟨fun z => absurd z (by omega), fun _ => ⟨by omega, fun z => J6 k (by omega) (lms_eq hJ.1 (by omega) hj (fun _ => z)), fun z => ih (k + 1) (by omega) (fun j h2 => ?_)⟩⟩
    by_cases y : j = k
    · subst y; exact z
    · exact hj j (by omega)
theorem r_drop (hG : RG h g) (hJ : JG B g) (hB : B < 2 ^ 29) (hp : ∀ h', FD h h' → RG h' (aDeed g 2 a 0 0).2 → p (aDeed g 2 a 0 0).1 h') : mI (Kd sL (d + 10)) 151 [.inr (.inr (.inr 7)), .inl a] h p := by
  refine ke_X4_drop ?_
  refine EX.go (Kd_mono _ _) [false, false, false, false, false, false] 40 0 ?_
  dsimp only [wpc_s, wsl_t, wsl_f, gD_0, gD_s, ↓denB_n, pI_s, pG_s, pU_n, cb_X4_drop_0, cb_X4_drop_1, cb_X4_drop_2, cb_X4_drop_3, cb_X4_drop_4, cb_X4_drop_5, ↓ev_aload_n_0, ↓ev_iload_n_1, ↓ev_callv_2_0_1, ↓ev_callv_2_1_1, ↓ev_callv_2_2_1, ↓ev_callv_2_3_1, ↓ev_callv_2_4_1, ↓ev_if_ne, ↓ev_sipush_m1001, ↓ev_goto, ↓ev_callv_1_0_1, ↓ev_callv_1_1_1, ↓ev_callv_1_2_1, ↓ev_callv_1_3_1, ↓ev_callv_1_4_1, ↓ev_if_eq, ↓ev_sipush_m1003, ↓ev_iconst_2, ↓ev_iconst_0, ↓ev_callv_5_0_1, ↓ev_callv_5_1_1, ↓ev_callv_5_2_1, ↓ev_callv_5_3_1, ↓ev_callv_5_4_1, ↓ev_iret, Nat.reduceAdd]
  refine r_isSnap hG.1 hJ.1 ?_
  try simp (disch := omega) only [pk_mul, nI_add, n_lt0, n_le0, n_eq0, n_ge0, n_gt0, n_lt, n_le, n_eq, n_in, n_div, n_rem, n_rem2, n_m1, nI_clamp, bz_0, bz_1, tI_0, tI_bz, n4, n16, eq_self, Nat.reduceLT, Nat.reduceLeDiff, Nat.reduceEqDiff, Nat.reduceAdd, Nat.reduceMul, Nat.reduceDiv, Nat.reduceMod, Nat.le_refl, decide_eq_false_iff_not, Classical.not_not, true_and, and_true, false_and, and_false, not_true_eq_false, not_false_eq_true, forall_const, true_implies, false_implies, implies_true, ne_eq]
  refine ⟨fun c1 => ?_, fun c1 => r_refuse (j := 0) hG (by decide) (dl_bad hp (fun z => dec_f.mp c1 z))⟩
  have hf : fit g.1 2 a 0 0 := Classical.not_not.mp (fun z => c1 (dec_f.mpr z))
  refine r_hasLack hG.1 hJ.1 (fun F G => ?_)
  try simp (disch := omega) only [pk_mul, nI_add, n_lt0, n_le0, n_eq0, n_ge0, n_gt0, n_lt, n_le, n_eq, n_in, n_div, n_rem, n_rem2, n_m1, nI_clamp, bz_0, bz_1, tI_0, tI_bz, n4, n16, eq_self, Nat.reduceLT, Nat.reduceLeDiff, Nat.reduceEqDiff, Nat.reduceAdd, Nat.reduceMul, Nat.reduceDiv, Nat.reduceMod, Nat.le_refl, decide_eq_false_iff_not, Classical.not_not, true_and, and_true, false_and, and_false, not_true_eq_false, not_false_eq_true, forall_const, true_implies, false_implies, implies_true, ne_eq]
  refine ⟨fun c4 => ?_, fun c4 => ?_⟩
  · have hgo := dl_go hp hf c4 (hin_n (by decide) (by decide)) (rnd_n (by decide))
    exact r_deed (kd := 2) (a := a) (b := 0) (c := 0) hG.p23 hJ hB (by decide) hf c4 (hin_n (by decide) (by decide)) (fun h1 o1 g1 => hgo h1 (fd23 o1) g1)
  · exact r_refuse (j := 2) hG.p23 (by decide) (fun h1 o1 g1 => dl_st hp hf (Or.inl (by simpa using c4)) h1 (fd23 o1) g1)
theorem r_revert (hG : RG h g) (hJ : JG B g) (hB : B < 2 ^ 29) (hp : ∀ h', FD h h' → RG h' (aDeed g 3 a 0 0).2 → p (aDeed g 3 a 0 0).1 h') : mI (Kd sL (d + 10)) 152 [.inr (.inr (.inr 7)), .inl a] h p := by
  refine ke_X4_revert ?_
  refine EX.go (Kd_mono _ _) [false, false, false, false, false, false] 40 0 ?_
  dsimp only [wpc_s, wsl_t, wsl_f, gD_0, gD_s, ↓denB_n, pI_s, pG_s, pU_n, cb_X4_revert_0, cb_X4_revert_1, cb_X4_revert_2, cb_X4_revert_3, cb_X4_revert_4, cb_X4_revert_5, ↓ev_aload_n_0, ↓ev_iload_n_1, ↓ev_callv_2_0_1, ↓ev_callv_2_1_1, ↓ev_callv_2_2_1, ↓ev_callv_2_3_1, ↓ev_callv_2_4_1, ↓ev_if_ne, ↓ev_sipush_m1001, ↓ev_goto, ↓ev_callv_1_0_1, ↓ev_callv_1_1_1, ↓ev_callv_1_2_1, ↓ev_callv_1_3_1, ↓ev_callv_1_4_1, ↓ev_if_eq, ↓ev_sipush_m1003, ↓ev_iconst_3, ↓ev_iconst_0, ↓ev_callv_5_0_1, ↓ev_callv_5_1_1, ↓ev_callv_5_2_1, ↓ev_callv_5_3_1, ↓ev_callv_5_4_1, ↓ev_iret, Nat.reduceAdd]
  refine r_isSnap hG.1 hJ.1 ?_
  try simp (disch := omega) only [pk_mul, nI_add, n_lt0, n_le0, n_eq0, n_ge0, n_gt0, n_lt, n_le, n_eq, n_in, n_div, n_rem, n_rem2, n_m1, nI_clamp, bz_0, bz_1, tI_0, tI_bz, n4, n16, eq_self, Nat.reduceLT, Nat.reduceLeDiff, Nat.reduceEqDiff, Nat.reduceAdd, Nat.reduceMul, Nat.reduceDiv, Nat.reduceMod, Nat.le_refl, decide_eq_false_iff_not, Classical.not_not, true_and, and_true, false_and, and_false, not_true_eq_false, not_false_eq_true, forall_const, true_implies, false_implies, implies_true, ne_eq]
  refine ⟨fun c1 => ?_, fun c1 => r_refuse (j := 0) hG (by decide) (dl_bad hp (fun z => dec_f.mp c1 z))⟩
  have hf : fit g.1 3 a 0 0 := Classical.not_not.mp (fun z => c1 (dec_f.mpr z))
  refine r_hasLack hG.1 hJ.1 (fun F G => ?_)
  try simp (disch := omega) only [pk_mul, nI_add, n_lt0, n_le0, n_eq0, n_ge0, n_gt0, n_lt, n_le, n_eq, n_in, n_div, n_rem, n_rem2, n_m1, nI_clamp, bz_0, bz_1, tI_0, tI_bz, n4, n16, eq_self, Nat.reduceLT, Nat.reduceLeDiff, Nat.reduceEqDiff, Nat.reduceAdd, Nat.reduceMul, Nat.reduceDiv, Nat.reduceMod, Nat.le_refl, decide_eq_false_iff_not, Classical.not_not, true_and, and_true, false_and, and_false, not_true_eq_false, not_false_eq_true, forall_const, true_implies, false_implies, implies_true, ne_eq]
  refine ⟨fun c4 => ?_, fun c4 => ?_⟩
  · have hgo := dl_go hp hf c4 (hin_n (by decide) (by decide)) (rnd_n (by decide))
    exact r_deed (kd := 3) (a := a) (b := 0) (c := 0) hG.p23 hJ hB (by decide) hf c4 (hin_n (by decide) (by decide)) (fun h1 o1 g1 => hgo h1 (fd23 o1) g1)
  · exact r_refuse (j := 2) hG.p23 (by decide) (fun h1 o1 g1 => dl_st hp hf (Or.inl (by simpa using c4)) h1 (fd23 o1) g1)
theorem r_giveUp (hG : RG h g) (hJ : JG B g) (hB : B < 2 ^ 29) (hp : ∀ h', FD h h' → RG h' (aDeed g 4 a b 0).2 → p (aDeed g 4 a b 0).1 h') : mI (Kd sL (d + 10)) 153 [.inr (.inr (.inr 7)), .inl a, .inl b] h p := by
  refine ke_X4_giveUp ?_
  refine EX.go (Kd_mono _ _) [false, false, false, false, false, false, false] 40 0 ?_
  dsimp only [wpc_s, wsl_t, wsl_f, gD_0, gD_s, ↓denB_n, pI_s, pG_s, pU_n, cb_X4_giveUp_0, cb_X4_giveUp_1, cb_X4_giveUp_2, cb_X4_giveUp_3, cb_X4_giveUp_4, cb_X4_giveUp_5, cb_X4_giveUp_6, ↓ev_aload_n_0, ↓ev_iload_n_1, ↓ev_callv_2_0_1, ↓ev_callv_2_1_1, ↓ev_callv_2_2_1, ↓ev_callv_2_3_1, ↓ev_callv_2_4_1, ↓ev_if_eq, ↓ev_iload_n_2, ↓ev_calls_1_0_1, ↓ev_calls_1_1_1, ↓ev_calls_1_2_1, ↓ev_calls_1_3_1, ↓ev_calls_1_4_1, ↓ev_if_ne, ↓ev_sipush_m1001, ↓ev_goto, ↓ev_callv_1_0_1, ↓ev_callv_1_1_1, ↓ev_callv_1_2_1, ↓ev_callv_1_3_1, ↓ev_callv_1_4_1, ↓ev_sipush_m1003, ↓ev_iconst_4, ↓ev_iconst_0, ↓ev_callv_5_0_1, ↓ev_callv_5_1_1, ↓ev_callv_5_2_1, ↓ev_callv_5_3_1, ↓ev_callv_5_4_1, ↓ev_iret, Nat.reduceAdd]
  refine r_isLayer hG.1 hJ.1 ?_
  try simp (disch := omega) only [pk_mul, nI_add, n_lt0, n_le0, n_eq0, n_ge0, n_gt0, n_lt, n_le, n_eq, n_in, n_div, n_rem, n_rem2, n_m1, nI_clamp, bz_0, bz_1, tI_0, tI_bz, n4, n16, eq_self, Nat.reduceLT, Nat.reduceLeDiff, Nat.reduceEqDiff, Nat.reduceAdd, Nat.reduceMul, Nat.reduceDiv, Nat.reduceMod, Nat.le_refl, decide_eq_false_iff_not, Classical.not_not, true_and, and_true, false_and, and_false, not_true_eq_false, not_false_eq_true, forall_const, true_implies, false_implies, implies_true, ne_eq]
  refine ⟨fun c1 => r_refuse (j := 0) hG (by decide) (dl_bad hp (fun z => dec_f.mp c1 z.1)), fun c1 => ?_⟩
  refine r_isBlock ?_
  try simp (disch := omega) only [pk_mul, nI_add, n_lt0, n_le0, n_eq0, n_ge0, n_gt0, n_lt, n_le, n_eq, n_in, n_div, n_rem, n_rem2, n_m1, nI_clamp, bz_0, bz_1, tI_0, tI_bz, n4, n16, eq_self, Nat.reduceLT, Nat.reduceLeDiff, Nat.reduceEqDiff, Nat.reduceAdd, Nat.reduceMul, Nat.reduceDiv, Nat.reduceMod, Nat.le_refl, decide_eq_false_iff_not, Classical.not_not, true_and, and_true, false_and, and_false, not_true_eq_false, not_false_eq_true, forall_const, true_implies, false_implies, implies_true, ne_eq]
  refine ⟨fun c2 => ?_, fun c2 => r_refuse (j := 0) hG (by decide) (dl_bad hp (fun z => dec_f.mp c2 z.2))⟩
  have hf : fit g.1 4 a b 0 := ⟨Classical.not_not.mp (fun z => c1 (dec_f.mpr z)), Classical.not_not.mp (fun z => c2 (dec_f.mpr z))⟩
  refine r_hasLack hG.1 hJ.1 (fun F G => ?_)
  try simp (disch := omega) only [pk_mul, nI_add, n_lt0, n_le0, n_eq0, n_ge0, n_gt0, n_lt, n_le, n_eq, n_in, n_div, n_rem, n_rem2, n_m1, nI_clamp, bz_0, bz_1, tI_0, tI_bz, n4, n16, eq_self, Nat.reduceLT, Nat.reduceLeDiff, Nat.reduceEqDiff, Nat.reduceAdd, Nat.reduceMul, Nat.reduceDiv, Nat.reduceMod, Nat.le_refl, decide_eq_false_iff_not, Classical.not_not, true_and, and_true, false_and, and_false, not_true_eq_false, not_false_eq_true, forall_const, true_implies, false_implies, implies_true, ne_eq]
  refine ⟨fun c4 => ?_, fun c4 => ?_⟩
  · have hgo := dl_go hp hf c4 (hin_n (by decide) (by decide)) (rnd_n (by decide))
    exact r_deed (kd := 4) (a := a) (b := b) (c := 0) hG.p23 hJ hB (by decide) hf c4 (hin_n (by decide) (by decide)) (fun h1 o1 g1 => hgo h1 (fd23 o1) g1)
  · exact r_refuse (j := 2) hG.p23 (by decide) (fun h1 o1 g1 => dl_st hp hf (Or.inl (by simpa using c4)) h1 (fd23 o1) g1)
theorem r_merge (hG : RG h g) (hJ : JG B g) (hB : B < 2 ^ 29) (hp : ∀ h', FD h h' → RG h' (aDeed g 5 a 0 0).2 → p (aDeed g 5 a 0 0).1 h') : mI (Kd sL (d + 10)) 154 [.inr (.inr (.inr 7)), .inl a] h p := by
  refine ke_X4_merge ?_
  refine EX.go (Kd_mono _ _) [false, false, false, false, false, false, false] 40 0 ?_
  dsimp only [wpc_s, wsl_t, wsl_f, gD_0, gD_s, ↓denB_n, pI_s, pG_s, pU_n, cb_X4_merge_0, cb_X4_merge_1, cb_X4_merge_2, cb_X4_merge_3, cb_X4_merge_4, cb_X4_merge_5, cb_X4_merge_6, ↓ev_aload_n_0, ↓ev_iload_n_1, ↓ev_callv_2_0_1, ↓ev_callv_2_1_1, ↓ev_callv_2_2_1, ↓ev_callv_2_3_1, ↓ev_callv_2_4_1, ↓ev_if_ne, ↓ev_sipush_m1001, ↓ev_goto, ↓ev_callv_1_0_1, ↓ev_callv_1_1_1, ↓ev_callv_1_2_1, ↓ev_callv_1_3_1, ↓ev_callv_1_4_1, ↓ev_getf_4_0, ↓ev_sipush_321, ↓ev_iadd, ↓ev_iald_o8, ↓ev_iald_o9, ↓ev_iald_o10, ↓ev_iald_o11, ↓ev_iald_o12, ↓ev_iald_o13, ↓ev_iald_o14, ↓ev_iald_o15, ↓ev_iald_o16, ↓ev_iconst_m1, ↓ev_icmp_ne, ↓ev_sipush_m1003, ↓ev_iconst_5, ↓ev_iconst_0, ↓ev_callv_5_0_1, ↓ev_callv_5_1_1, ↓ev_callv_5_2_1, ↓ev_callv_5_3_1, ↓ev_callv_5_4_1, ↓ev_iret, Nat.reduceAdd]
  refine r_isLayer hG.1 hJ.1 ?_
  try simp (disch := omega) only [pk_mul, nI_add, n_lt0, n_le0, n_eq0, n_ge0, n_gt0, n_lt, n_le, n_eq, n_in, n_div, n_rem, n_rem2, n_m1, nI_clamp, bz_0, bz_1, tI_0, tI_bz, n4, n16, eq_self, Nat.reduceLT, Nat.reduceLeDiff, Nat.reduceEqDiff, Nat.reduceAdd, Nat.reduceMul, Nat.reduceDiv, Nat.reduceMod, Nat.le_refl, decide_eq_false_iff_not, Classical.not_not, true_and, and_true, false_and, and_false, not_true_eq_false, not_false_eq_true, forall_const, true_implies, false_implies, implies_true, ne_eq]
  refine ⟨fun c1 => ?_, fun c1 => r_refuse (j := 0) hG (by decide) (dl_bad hp (fun z => dec_f.mp c1 z))⟩
  have hf : fit g.1 5 a 0 0 := Classical.not_not.mp (fun z => c1 (dec_f.mpr z))
  have hm6 := hJ.1.m
  obtain ⟨l, hl, rfl⟩ := okL_n hf hm6
  refine r_hasLack hG.1 hJ.1 (fun F G => ?_)
  have e : h (.inr 8) (321 + l) = bk g.1 l := by rw [hG.1 _ (by omega), bk_in hl]
  try simp (disch := omega) only [pk_mul, nI_add, n_lt0, n_le0, n_eq0, n_ge0, n_gt0, n_lt, n_le, n_eq, n_in, n_div, n_rem, n_rem2, n_m1, nI_clamp, bz_0, bz_1, tI_0, tI_bz, n4, n16, eq_self, Nat.reduceLT, Nat.reduceLeDiff, Nat.reduceEqDiff, Nat.reduceAdd, Nat.reduceMul, Nat.reduceDiv, Nat.reduceMod, Nat.le_refl, decide_eq_false_iff_not, Classical.not_not, true_and, and_true, false_and, and_false, not_true_eq_false, not_false_eq_true, forall_const, true_implies, false_implies, implies_true, ne_eq, a_8, e]
  refine ⟨fun c4 => ?_, fun c4 => ⟨by omega, fun c5 => ?_, fun c5 => ?_⟩⟩
  · exact r_refuse (j := 2) hG.p23 (by decide) (fun h1 o1 g1 => dl_st hp hf (Or.inl (by simpa using c4)) h1 (fd23 o1) g1)
  · have hh : ¬ hin g.1 5 (nI l) := fun z => z.elim (fun z => absurd z.1 (by decide)) (fun z => c5 (by have := z.2; rw [nI_clamp (by omega)] at this; exact this))
    have hgo := dl_go hp hf c4 hh (rnd_n (by decide))
    exact r_deed (kd := 5) (a := nI l) (b := 0) (c := 0) hG.p23 hJ hB (by decide) hf c4 hh (fun h1 o1 g1 => hgo h1 (fd23 o1) g1)
  · exact r_refuse (j := 2) hG.p23 (by decide) (fun h1 o1 g1 => dl_st hp hf (Or.inr (Or.inr ⟨rfl, by rw [nI_clamp (by omega)]; exact c5⟩)) h1 (fd23 o1) g1)
theorem in01 {x : Int32} : (nI 0 ≤ x ∧ x ≤ nI 1) ↔ (x = 0 ∨ x = 1) := by
  rw [okN_in (m := 1) (n := 2) rfl (by decide)]
  constructor
  · intro z
    obtain ⟨k, hk, rfl⟩ := okN_n z (by decide)
    rcases (show k = 0 ∨ k = 1 by omega) with rfl | rfl
    · exact Or.inl rfl
    · exact Or.inr rfl
  · rintro (rfl | rfl)
    · exact ⟨by decide, by decide⟩
    · exact ⟨by decide, by decide⟩
theorem r_move (hG : RG h g) (hJ : JG B g) (hB : B < 2 ^ 29) (hp : ∀ h', FD h h' → RG h' (aDeed g 7 a b c).2 → p (aDeed g 7 a b c).1 h') : mI (Kd sL (d + 10)) 155 [.inr (.inr (.inr 7)), .inl a, .inl b, .inl c] h p := by
  refine ke_X4_move ?_
  refine EX.go (Kd_mono _ _) [false, false, false, true, false, false, false, false, false, false, false] 40 0 ?_
  dsimp only [wpc_s, wsl_t, wsl_f, gD_0, gD_s, ↓denB_n, pI_s, pG_s, pU_n, cb_X4_move_0, cb_X4_move_1, cb_X4_move_2, cb_X4_move_3, cb_X4_move_4, cb_X4_move_5, cb_X4_move_6, cb_X4_move_7, cb_X4_move_8, cb_X4_move_9, cb_X4_move_10, ↓ev_aload_n_0, ↓ev_iload_n_1, ↓ev_callv_2_0_1, ↓ev_callv_2_1_1, ↓ev_callv_2_2_1, ↓ev_callv_2_3_1, ↓ev_callv_2_4_1, ↓ev_if_eq, ↓ev_iload_n_2, ↓ev_iconst_m1, ↓ev_icmp_eq, ↓ev_iload_n_3, ↓ev_iconst_0, ↓ev_iconst_1, ↓ev_calls_3_0_1, ↓ev_calls_3_1_1, ↓ev_calls_3_2_1, ↓ev_calls_3_3_1, ↓ev_calls_3_4_1, ↓ev_if_ne, ↓ev_sipush_m1001, ↓ev_iret, ↓ev_callv_1_0_1, ↓ev_callv_1_1_1, ↓ev_callv_1_2_1, ↓ev_callv_1_3_1, ↓ev_callv_1_4_1, ↓ev_sipush_m1003, ↓ev_callv_3_0_1, ↓ev_callv_3_1_1, ↓ev_callv_3_2_1, ↓ev_callv_3_3_1, ↓ev_callv_3_4_1, ↓ev_callv_3_5_1, ↓ev_sipush_m1004, ↓ev_goto, ↓ev_bipush_6, ↓ev_callv_5_0_1, ↓ev_callv_5_1_1, ↓ev_callv_5_2_1, ↓ev_callv_5_3_1, ↓ev_callv_5_4_1, Nat.reduceAdd]
  refine r_isLayer hG.1 hJ.1 ?_
  have J3 : okL g.1 a → (b = -1 ∨ okL g.1 b) → EX (Kd sL (d + 9)) sL md_X4_move (pI p) 3 [some (.inr (.inr (.inr 7))), some (.inl a), some (.inl b), some (.inl c)] [] h := by
    intro h1 h2
    refine EX.go (Kd_mono _ _) [false, false, false, true, false, false, false, false, false, false, false] 40 3 ?_
    dsimp only [wpc_s, wsl_t, wsl_f, gD_0, gD_s, ↓denB_n, pI_s, pG_s, pU_n, cb_X4_move_0, cb_X4_move_1, cb_X4_move_2, cb_X4_move_3, cb_X4_move_4, cb_X4_move_5, cb_X4_move_6, cb_X4_move_7, cb_X4_move_8, cb_X4_move_9, cb_X4_move_10, ↓ev_aload_n_0, ↓ev_iload_n_1, ↓ev_callv_2_0_1, ↓ev_callv_2_1_1, ↓ev_callv_2_2_1, ↓ev_callv_2_3_1, ↓ev_callv_2_4_1, ↓ev_if_eq, ↓ev_iload_n_2, ↓ev_iconst_m1, ↓ev_icmp_eq, ↓ev_iload_n_3, ↓ev_iconst_0, ↓ev_iconst_1, ↓ev_calls_3_0_1, ↓ev_calls_3_1_1, ↓ev_calls_3_2_1, ↓ev_calls_3_3_1, ↓ev_calls_3_4_1, ↓ev_if_ne, ↓ev_sipush_m1001, ↓ev_iret, ↓ev_callv_1_0_1, ↓ev_callv_1_1_1, ↓ev_callv_1_2_1, ↓ev_callv_1_3_1, ↓ev_callv_1_4_1, ↓ev_sipush_m1003, ↓ev_callv_3_0_1, ↓ev_callv_3_1_1, ↓ev_callv_3_2_1, ↓ev_callv_3_3_1, ↓ev_callv_3_4_1, ↓ev_callv_3_5_1, ↓ev_sipush_m1004, ↓ev_goto, ↓ev_bipush_6, ↓ev_callv_5_0_1, ↓ev_callv_5_1_1, ↓ev_callv_5_2_1, ↓ev_callv_5_3_1, ↓ev_callv_5_4_1, Nat.reduceAdd]
    refine r_in ?_
    rw [dec_iff in01]
    try simp (disch := omega) only [pk_mul, nI_add, n_lt0, n_le0, n_eq0, n_ge0, n_gt0, n_lt, n_le, n_eq, n_in, n_div, n_rem, n_rem2, n_m1, nI_clamp, bz_0, bz_1, tI_0, tI_bz, n4, n16, eq_self, Nat.reduceLT, Nat.reduceLeDiff, Nat.reduceEqDiff, Nat.reduceAdd, Nat.reduceMul, Nat.reduceDiv, Nat.reduceMod, Nat.le_refl, decide_eq_false_iff_not, Classical.not_not, true_and, and_true, false_and, and_false, not_true_eq_false, not_false_eq_true, forall_const, true_implies, false_implies, implies_true, ne_eq]
    refine ⟨fun c3 => ?_, fun c3 => r_refuse (j := 0) hG (by decide) (dl_bad hp (fun z => dec_f.mp c3 z.2.2))⟩
    have hf : fit g.1 7 a b c := ⟨h1, h2, Classical.not_not.mp (fun z => c3 (dec_f.mpr z))⟩
    refine r_hasLack hG.1 hJ.1 (fun F G => ?_)
    try simp (disch := omega) only [pk_mul, nI_add, n_lt0, n_le0, n_eq0, n_ge0, n_gt0, n_lt, n_le, n_eq, n_in, n_div, n_rem, n_rem2, n_m1, nI_clamp, bz_0, bz_1, tI_0, tI_bz, n4, n16, eq_self, Nat.reduceLT, Nat.reduceLeDiff, Nat.reduceEqDiff, Nat.reduceAdd, Nat.reduceMul, Nat.reduceDiv, Nat.reduceMod, Nat.le_refl, decide_eq_false_iff_not, Classical.not_not, true_and, and_true, false_and, and_false, not_true_eq_false, not_false_eq_true, forall_const, true_implies, false_implies, implies_true, ne_eq]
    refine ⟨fun c4 => ?_, fun c4 => ?_⟩
    · have hm6 := hJ.1.m
      obtain ⟨l, hl, rfl⟩ := okL_n h1 hm6
      have hb2 : b = -1 ∨ ∃ x, x < mn g.1 ∧ b = nI x := h2.elim Or.inl (fun z => by
        obtain ⟨x, hx, e⟩ := okL_n z hm6
        exact Or.inr ⟨x, hx, e⟩)
      refine r_standsOn hG.1.a hJ.1 hl hb2 ?_
      try simp (disch := omega) only [pk_mul, nI_add, n_lt0, n_le0, n_eq0, n_ge0, n_gt0, n_lt, n_le, n_eq, n_in, n_div, n_rem, n_rem2, n_m1, nI_clamp, bz_0, bz_1, tI_0, tI_bz, n4, n16, eq_self, Nat.reduceLT, Nat.reduceLeDiff, Nat.reduceEqDiff, Nat.reduceAdd, Nat.reduceMul, Nat.reduceDiv, Nat.reduceMod, Nat.le_refl, decide_eq_false_iff_not, Classical.not_not, true_and, and_true, false_and, and_false, not_true_eq_false, not_false_eq_true, forall_const, true_implies, false_implies, implies_true, ne_eq]
      refine ⟨fun c5 => ?_, fun c5 => ?_⟩
      · have hgo := dl_go hp hf c4 (hin_n (by decide) (by decide)) (by unfold rnd; rw [c5, Bool.and_false])
        exact r_deed (kd := 7) (a := nI l) (b := b) (c := c) hG.p23 hJ hB (by decide) hf c4 (hin_n (by decide) (by decide)) (fun h1 o1 g1 => hgo h1 (fd23 o1) g1)
      · have c6 : sto g.1 6 b (nI l) = true := by simpa using c5
        exact r_refuse (j := 3) hG.p23 (by decide) (fun h1 o1 g1 => dl_rnd hp hf c4 (hin_n (by decide) (by decide)) (by unfold rnd; rw [c6]; rfl) h1 (fd23 o1) g1)
    · exact r_refuse (j := 2) hG.p23 (by decide) (fun h1 o1 g1 => dl_st hp hf (Or.inl (by simpa using c4)) h1 (fd23 o1) g1)
  try simp (disch := omega) only [pk_mul, nI_add, n_lt0, n_le0, n_eq0, n_ge0, n_gt0, n_lt, n_le, n_eq, n_in, n_div, n_rem, n_rem2, n_m1, nI_clamp, bz_0, bz_1, tI_0, tI_bz, n4, n16, eq_self, Nat.reduceLT, Nat.reduceLeDiff, Nat.reduceEqDiff, Nat.reduceAdd, Nat.reduceMul, Nat.reduceDiv, Nat.reduceMod, Nat.le_refl, decide_eq_false_iff_not, Classical.not_not, true_and, and_true, false_and, and_false, not_true_eq_false, not_false_eq_true, forall_const, true_implies, false_implies, implies_true, ne_eq]
  refine ⟨fun c1 => r_refuse (j := 0) hG (by decide) (dl_bad hp (fun z => dec_f.mp c1 z.1)), fun c1 => ?_⟩
  have h1 : okL g.1 a := Classical.not_not.mp (fun z => c1 (dec_f.mpr z))
  refine ⟨fun c2 => J3 h1 (Or.inl c2), fun c2 => ?_⟩
  refine r_isLayer hG.1 hJ.1 ?_
  try simp (disch := omega) only [pk_mul, nI_add, n_lt0, n_le0, n_eq0, n_ge0, n_gt0, n_lt, n_le, n_eq, n_in, n_div, n_rem, n_rem2, n_m1, nI_clamp, bz_0, bz_1, tI_0, tI_bz, n4, n16, eq_self, Nat.reduceLT, Nat.reduceLeDiff, Nat.reduceEqDiff, Nat.reduceAdd, Nat.reduceMul, Nat.reduceDiv, Nat.reduceMod, Nat.le_refl, decide_eq_false_iff_not, Classical.not_not, true_and, and_true, false_and, and_false, not_true_eq_false, not_false_eq_true, forall_const, true_implies, false_implies, implies_true, ne_eq]
  exact ⟨fun c3 => r_refuse (j := 0) hG (by decide) (dl_bad hp (fun z => z.2.1.elim c2 (dec_f.mp c3))), fun c3 => J3 h1 (Or.inr (Classical.not_not.mp (fun z => c3 (dec_f.mpr z))))⟩
theorem r_fold (hG : RG h g) (hJ : JG B g) (hB : B < 2 ^ 29) (hp : ∀ h', FD h h' → RG h' (aDeed g 6 0 0 0).2 → p (aDeed g 6 0 0 0).1 h') : mI (Kd sL (d + 10)) 156 [.inr (.inr (.inr 7))] h p := by
  refine ke_X4_fold ?_
  refine EX.go (Kd_mono _ _) [false, false, false, false] 40 0 ?_
  dsimp only [wpc_s, wsl_t, wsl_f, gD_0, gD_s, ↓denB_n, pI_s, pG_s, pU_n, cb_X4_fold_0, cb_X4_fold_1, cb_X4_fold_2, cb_X4_fold_3, ↓ev_aload_n_0, ↓ev_callv_1_0_1, ↓ev_callv_1_1_1, ↓ev_callv_1_2_1, ↓ev_callv_1_3_1, ↓ev_callv_1_4_1, ↓ev_if_eq, ↓ev_sipush_m1003, ↓ev_callv_2_0_1, ↓ev_callv_2_1_1, ↓ev_callv_2_2_1, ↓ev_callv_2_3_1, ↓ev_callv_2_4_1, ↓ev_goto, ↓ev_bipush_7, ↓ev_iconst_0, ↓ev_callv_5_0_1, ↓ev_callv_5_1_1, ↓ev_callv_5_2_1, ↓ev_callv_5_3_1, ↓ev_callv_5_4_1, ↓ev_iret, Nat.reduceAdd]
  have hf : fit g.1 6 0 0 0 := trivial
  refine r_hasLack hG.1 hJ.1 (fun F G => ?_)
  try simp (disch := omega) only [pk_mul, nI_add, n_lt0, n_le0, n_eq0, n_ge0, n_gt0, n_lt, n_le, n_eq, n_in, n_div, n_rem, n_rem2, n_m1, nI_clamp, bz_0, bz_1, tI_0, tI_bz, n4, n16, eq_self, Nat.reduceLT, Nat.reduceLeDiff, Nat.reduceEqDiff, Nat.reduceAdd, Nat.reduceMul, Nat.reduceDiv, Nat.reduceMod, Nat.le_refl, decide_eq_false_iff_not, Classical.not_not, true_and, and_true, false_and, and_false, not_true_eq_false, not_false_eq_true, forall_const, true_implies, false_implies, implies_true, ne_eq]
  refine ⟨fun c4 => ?_, fun c4 => ?_⟩
  · have hgo := dl_go hp hf c4 (hin_n (by decide) (by decide)) (rnd_n (by decide))
    exact r_deed (kd := 6) (a := 0) (b := 0) (c := 0) hG.p23 hJ hB (by decide) hf c4 (hin_n (by decide) (by decide)) (fun h1 o1 g1 => hgo h1 (fd23 o1) g1)
  · exact r_refuse (j := 2) hG.p23 (by decide) (fun h1 o1 g1 => dl_st hp hf (Or.inl (by simpa using c4)) h1 (fd23 o1) g1)
end RPUB
