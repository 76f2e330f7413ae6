/-! ===== the reference: calls that read and set ===== -/
theorem FE.u8 {h : mH} {k : Nat} {v : Int32} : FE h (hup h (.inr 8) k v) := ⟨fun r _ p _ _ _ _ => by funext j; exact hup_other p j, fun j _ _ _ _ => hup_other (by simp) j⟩
theorem FE.fr {h h' : mH} (a : FE h h') : FR h h' := a.fd.fr
theorem fr_up {h : mH} {n k : Nat} {v : Int32} (h1 : 7 ≤ n) (h2 : n ≤ 16) : FR h (hup h (.inr n) k v) := fun r p => by funext j; exact hup_other (p n h1 h2) j
theorem fr_pt {h : mH} {n : Nat} {f : Nat → Int32} (h1 : 7 ≤ n) (h2 : n ≤ 16) : FR h (hpt h (.inr n) f) := fun r p => hpt_ne (p n h1 h2)
theorem RG.u8 {h : mH} {g : Gs} {k : Nat} {v : Int32} (hG : RG h g) : RG (hup h (.inr 8) k v) (gwS g (upd g.1 k v)) := hG.fe FE.u8 hG.1.up
section RPB2
variable {sL d L B : Nat} {h : mH} {g : Gs} {p : Int32 → mH → Prop}
theorem r_rf {j : Nat} (hG : RG h g) (hj : j < 4) (hp : ∀ h', FR h h' → RG h' (rfA g j).2 → p (rfA g j).1 h') : mI (Kd sL (d + 1)) 101 [.inr (.inr (.inr 7)), .inl (rc j)] h p := r_refuse hG hj (fun h' o => hp h' o.fr)
theorem r_layer {b : Int32} (hG : RG h g) (hJ : JG B g) (hp : ∀ h', FR h h' → RG h' (aLayer g b).2 → p (aLayer g b).1 h') : mI (Kd sL (d + 12)) 112 [.inr (.inr (.inr 7)), .inl b] h p := by
  have hm6 := hJ.1.m
  refine ke_X4_layer ?_
  refine EX.go (Kd_mono _ _) [false, false, false, true, false, false] 40 0 ?_
  dsimp only [wpc_s, wsl_t, wsl_f, gD_0, gD_s, ↓denB_n, pI_s, pG_s, pU_n, cb_X4_layer_0, cb_X4_layer_1, cb_X4_layer_2, cb_X4_layer_3, cb_X4_layer_4, cb_X4_layer_5, ↓ev_iload_n_1, ↓ev_iconst_m1, ↓ev_icmp_eq, ↓ev_aload_n_0, ↓ev_callv_2_0_1, ↓ev_callv_2_1_1, ↓ev_callv_2_2_1, ↓ev_callv_2_3_1, ↓ev_callv_2_4_1, ↓ev_if_ne, ↓ev_sipush_m1001, ↓ev_iret, ↓ev_getf_4_0, ↓ev_sipush_320, ↓ev_iald_o8, ↓ev_iald_o9, ↓ev_iald_o10, ↓ev_iald_o11, ↓ev_iald_o12, ↓ev_iald_o13, ↓ev_iald_o14, ↓ev_iald_o15, ↓ev_iald_o16, ↓ev_bipush_6, ↓ev_icmp_ne, ↓ev_sipush_m1002, ↓ev_sipush_321, ↓ev_iadd, ↓ev_iast_o8, ↓ev_iast_o9, ↓ev_iast_o10, ↓ev_iast_o11, ↓ev_iast_o12, ↓ev_iast_o13, ↓ev_iast_o14, ↓ev_iast_o15, ↓ev_iast_o16, ↓ev_dup2, ↓ev_iconst_1, ↓ev_isub, Nat.reduceAdd]
  have J3 : (b = -1 ∨ okL g.1 b) → EX (Kd sL (d + 11)) sL md_X4_layer (pI p) 3 [some (.inr (.inr (.inr 7))), some (.inl b)] [] h := by
    intro hb
    unfold aLayer at hp
    rw [if_pos (dec_t.mpr hb)] at hp
    refine EX.go (Kd_mono _ _) [false, false, false, true, false, false] 40 3 ?_
    dsimp only [wpc_s, wsl_t, wsl_f, gD_0, gD_s, ↓denB_n, pI_s, pG_s, pU_n, cb_X4_layer_0, cb_X4_layer_1, cb_X4_layer_2, cb_X4_layer_3, cb_X4_layer_4, cb_X4_layer_5, ↓ev_iload_n_1, ↓ev_iconst_m1, ↓ev_icmp_eq, ↓ev_aload_n_0, ↓ev_callv_2_0_1, ↓ev_callv_2_1_1, ↓ev_callv_2_2_1, ↓ev_callv_2_3_1, ↓ev_callv_2_4_1, ↓ev_if_ne, ↓ev_sipush_m1001, ↓ev_iret, ↓ev_getf_4_0, ↓ev_sipush_320, ↓ev_iald_o8, ↓ev_iald_o9, ↓ev_iald_o10, ↓ev_iald_o11, ↓ev_iald_o12, ↓ev_iald_o13, ↓ev_iald_o14, ↓ev_iald_o15, ↓ev_iald_o16, ↓ev_bipush_6, ↓ev_icmp_ne, ↓ev_sipush_m1002, ↓ev_sipush_321, ↓ev_iadd, ↓ev_iast_o8, ↓ev_iast_o9, ↓ev_iast_o10, ↓ev_iast_o11, ↓ev_iast_o12, ↓ev_iast_o13, ↓ev_iast_o14, ↓ev_iast_o15, ↓ev_iast_o16, ↓ev_dup2, ↓ev_iconst_1, ↓ev_isub, Nat.reduceAdd]
    have e : h (.inr 8) 320 = nI (mn g.1) := (hG.1 320 (by decide)).trans hJ.1.m2
    have e1 : hup h (.inr 8) (321 + mn g.1) b (.inr 8) 320 = nI (mn g.1) := by rw [hup_idx (by omega), e]
    try simp (disch := omega) only [pk_mul, nI_add, n_lt0, n_le0, n_eq0, n_ge0, n_gt0, n_lt, n_le, n_eq, n_in, n_div, n_rem, n_rem2, n_m1, nI_clamp, bz_0, bz_1, tI_0, tI_bz, n4, n16, eq_self, Nat.reduceLT, Nat.reduceLeDiff, Nat.reduceEqDiff, Nat.reduceAdd, Nat.reduceMul, Nat.reduceDiv, Nat.reduceMod, Nat.le_refl, decide_eq_false_iff_not, Classical.not_not, true_and, and_true, false_and, and_false, not_true_eq_false, not_false_eq_true, forall_const, true_implies, false_implies, implies_true, ne_eq, e, e1]
    refine ⟨fun c => ⟨by omega, ?_⟩, fun c => ?_⟩
    · rw [if_neg (by omega)] at hp
      rw [hup_same, n_sub (by omega), Nat.add_sub_cancel]
      exact hp _ ((fr_up (by decide) (by decide)).tr (fr_up (by decide) (by decide))) hG.u8.u8
    · rw [if_pos (by omega)] at hp
      exact r_rf (j := 1) hG (by decide) hp
  refine ⟨fun c => J3 (Or.inl c), fun c => r_isLayer hG.1 hJ.1 ?_⟩
  try simp (disch := omega) only [pk_mul, nI_add, n_lt0, n_le0, n_eq0, n_ge0, n_gt0, n_lt, n_le, n_eq, n_in, n_div, n_rem, n_rem2, n_m1, nI_clamp, bz_0, bz_1, tI_0, tI_bz, n4, n16, eq_self, Nat.reduceLT, Nat.reduceLeDiff, Nat.reduceEqDiff, Nat.reduceAdd, Nat.reduceMul, Nat.reduceDiv, Nat.reduceMod, Nat.le_refl, decide_eq_false_iff_not, Classical.not_not, true_and, and_true, false_and, and_false, not_true_eq_false, not_false_eq_true, forall_const, true_implies, false_implies, implies_true, ne_eq]
  refine ⟨fun c2 => J3 (Or.inr (Classical.not_not.mp (fun z => c2 (dec_f.mpr z)))), fun c2 => r_rf (j := 0) hG (by decide) ?_⟩
  unfold aLayer at hp
  rw [dec_f.mpr (fun z => z.elim c (dec_f.mp c2)), if_neg (by decide)] at hp
  exact hp
theorem r_read {l pl : Int32} (hG : RG h g) (hJ : JG B g) (hp : ∀ h', FR h h' → RG h' (aRead g l pl).2 → p (aRead g l pl).1 h') : mI (Kd sL (d + 12)) 113 [.inr (.inr (.inr 7)), .inl l, .inl pl] h p := by
  have hm6 := hJ.1.m
  refine ke_X4_read ?_
  refine EX.go (Kd_mono _ _) [false, false, false, false, false] 40 0 ?_
  dsimp only [wpc_s, wsl_t, wsl_f, gD_0, gD_s, ↓denB_n, pI_s, pG_s, pU_n, cb_X4_read_0, cb_X4_read_1, cb_X4_read_2, cb_X4_read_3, cb_X4_read_4, ↓ev_aload_n_0, ↓ev_iload_n_1, ↓ev_callv_2_0_1, ↓ev_callv_2_1_1, ↓ev_callv_2_2_1, ↓ev_callv_2_3_1, ↓ev_callv_2_4_1, ↓ev_if_eq, ↓ev_iload_n_2, ↓ev_calls_1_0_1, ↓ev_calls_1_1_1, ↓ev_calls_1_2_1, ↓ev_calls_1_3_1, ↓ev_calls_1_4_1, ↓ev_callv_3_0_1, ↓ev_callv_3_1_1, ↓ev_callv_3_2_1, ↓ev_callv_3_3_1, ↓ev_callv_3_4_1, ↓ev_callv_3_5_1, ↓ev_goto, ↓ev_sipush_m1001, ↓ev_iret, Nat.reduceAdd]
  unfold aRead at hp
  refine r_isLayer hG.1 hJ.1 ?_
  try simp (disch := omega) only [pk_mul, nI_add, n_lt0, n_le0, n_eq0, n_ge0, n_gt0, n_lt, n_le, n_eq, n_in, n_div, n_rem, n_rem2, n_m1, nI_clamp, bz_0, bz_1, tI_0, tI_bz, n4, n16, eq_self, Nat.reduceLT, Nat.reduceLeDiff, Nat.reduceEqDiff, Nat.reduceAdd, Nat.reduceMul, Nat.reduceDiv, Nat.reduceMod, Nat.le_refl, decide_eq_false_iff_not, Classical.not_not, true_and, and_true, false_and, and_false, not_true_eq_false, not_false_eq_true, forall_const, true_implies, false_implies, implies_true, ne_eq]
  refine ⟨fun c => ?_, fun c => ?_⟩
  · rw [dec_f.mpr (fun z => dec_f.mp c z.1), if_neg (by decide)] at hp
    exact r_rf (j := 0) hG (by decide) hp
  refine r_isPlace ?_
  try simp (disch := omega) only [pk_mul, nI_add, n_lt0, n_le0, n_eq0, n_ge0, n_gt0, n_lt, n_le, n_eq, n_in, n_div, n_rem, n_rem2, n_m1, nI_clamp, bz_0, bz_1, tI_0, tI_bz, n4, n16, eq_self, Nat.reduceLT, Nat.reduceLeDiff, Nat.reduceEqDiff, Nat.reduceAdd, Nat.reduceMul, Nat.reduceDiv, Nat.reduceMod, Nat.le_refl, decide_eq_false_iff_not, Classical.not_not, true_and, and_true, false_and, and_false, not_true_eq_false, not_false_eq_true, forall_const, true_implies, false_implies, implies_true, ne_eq]
  refine ⟨fun c2 => ?_, fun c2 => ?_⟩
  · rw [dec_f.mpr (fun z => dec_f.mp c2 z.2), if_neg (by decide)] at hp
    exact r_rf (j := 0) hG (by decide) hp
  have a1 : okL g.1 l := Classical.not_not.mp (fun z => c (dec_f.mpr z))
  have a2 : okN pl 64 := Classical.not_not.mp (fun z => c2 (dec_f.mpr z))
  rw [if_pos (dec_t.mpr ⟨a1, a2⟩)] at hp
  obtain ⟨k1, g1, rfl⟩ := okL_n a1 hm6
  obtain ⟨k2, g2, rfl⟩ := okN_n a2 (by decide)
  rw [nI_clamp (by omega)] at hp
  exact r_readOf hG.1 hJ.1 g1 g2 (hp h FR.rf hG)
theorem r_readOld {s pl : Int32} (hG : RG h g) (hJ : JG B g) (hp : ∀ h', FR h h' → RG h' (aReadOld g s pl).2 → p (aReadOld g s pl).1 h') : mI (Kd sL (d + 12)) 114 [.inr (.inr (.inr 7)), .inl s, .inl pl] h p := by
  have hm6 := hJ.1.m
  refine ke_X4_readOld ?_
  refine EX.go (Kd_mono _ _) [false, false, false, false, false] 40 0 ?_
  dsimp only [wpc_s, wsl_t, wsl_f, gD_0, gD_s, ↓denB_n, pI_s, pG_s, pU_n, cb_X4_readOld_0, cb_X4_readOld_1, cb_X4_readOld_2, cb_X4_readOld_3, cb_X4_readOld_4, ↓ev_aload_n_0, ↓ev_iload_n_1, ↓ev_callv_2_0_1, ↓ev_callv_2_1_1, ↓ev_callv_2_2_1, ↓ev_callv_2_3_1, ↓ev_callv_2_4_1, ↓ev_if_eq, ↓ev_iload_n_2, ↓ev_calls_1_0_1, ↓ev_calls_1_1_1, ↓ev_calls_1_2_1, ↓ev_calls_1_3_1, ↓ev_calls_1_4_1, ↓ev_bipush_6, ↓ev_iadd, ↓ev_getf_4_0, ↓ev_sipush_321, ↓ev_sipush_391, ↓ev_iald_o8, ↓ev_iald_o9, ↓ev_iald_o10, ↓ev_iald_o11, ↓ev_iald_o12, ↓ev_iald_o13, ↓ev_iald_o14, ↓ev_iald_o15, ↓ev_iald_o16, ↓ev_callv_4_0_1, ↓ev_callv_4_1_1, ↓ev_callv_4_2_1, ↓ev_callv_4_3_1, ↓ev_callv_4_4_1, ↓ev_goto, ↓ev_sipush_m1001, ↓ev_iret, Nat.reduceAdd]
  unfold aReadOld at hp
  refine r_isSnap hG.1 hJ.1 ?_
  try simp (disch := omega) only [pk_mul, nI_add, n_lt0, n_le0, n_eq0, n_ge0, n_gt0, n_lt, n_le, n_eq, n_in, n_div, n_rem, n_rem2, n_m1, nI_clamp, bz_0, bz_1, tI_0, tI_bz, n4, n16, eq_self, Nat.reduceLT, Nat.reduceLeDiff, Nat.reduceEqDiff, Nat.reduceAdd, Nat.reduceMul, Nat.reduceDiv, Nat.reduceMod, Nat.le_refl, decide_eq_false_iff_not, Classical.not_not, true_and, and_true, false_and, and_false, not_true_eq_false, not_false_eq_true, forall_const, true_implies, false_implies, implies_true, ne_eq]
  refine ⟨fun c => ?_, fun c => ?_⟩
  · rw [dec_f.mpr (fun z => dec_f.mp c z.1), if_neg (by decide)] at hp
    exact r_rf (j := 0) hG (by decide) hp
  refine r_isPlace ?_
  try simp (disch := omega) only [pk_mul, nI_add, n_lt0, n_le0, n_eq0, n_ge0, n_gt0, n_lt, n_le, n_eq, n_in, n_div, n_rem, n_rem2, n_m1, nI_clamp, bz_0, bz_1, tI_0, tI_bz, n4, n16, eq_self, Nat.reduceLT, Nat.reduceLeDiff, Nat.reduceEqDiff, Nat.reduceAdd, Nat.reduceMul, Nat.reduceDiv, Nat.reduceMod, Nat.le_refl, decide_eq_false_iff_not, Classical.not_not, true_and, and_true, false_and, and_false, not_true_eq_false, not_false_eq_true, forall_const, true_implies, false_implies, implies_true, ne_eq]
  refine ⟨fun c2 => ?_, fun c2 => ?_⟩
  · rw [dec_f.mpr (fun z => dec_f.mp c2 z.2), if_neg (by decide)] at hp
    exact r_rf (j := 0) hG (by decide) hp
  have a1 := Classical.not_not.mp (fun z => c (dec_f.mpr z))
  have a2 : okN pl 64 := Classical.not_not.mp (fun z => c2 (dec_f.mpr z))
  rw [if_pos (dec_t.mpr ⟨a1, a2⟩)] at hp
  obtain ⟨k1, g1, rfl⟩ := okN_n a1.1 (by decide)
  obtain ⟨k2, g2, rfl⟩ := okN_n a2 (by decide)
  have a3 := a1.2
  rw [nI_clamp (by omega)] at a3
  rw [nI_clamp (by omega), nI_clamp (by omega)] at hp
  obtain ⟨l, hl, el⟩ := ((wf_W0 hJ.1).1 k1 g1).resolve_left a3
  have e1 : h (.inr 8) (391 + k1) = nI l := by
    rw [hG.1 _ (by omega), ← el]
    unfold sn
    rw [if_pos ((sn_in hJ.1 g1).mpr a3)]
  have e2 : h (.inr 8) (321 + l) = bk g.1 l := by rw [hG.1 _ (by omega), bk_in hl]
  try simp (disch := omega) only [pk_mul, nI_add, n_lt0, n_le0, n_eq0, n_ge0, n_gt0, n_lt, n_le, n_eq, n_in, n_div, n_rem, n_rem2, n_m1, nI_clamp, bz_0, bz_1, tI_0, tI_bz, n4, n16, eq_self, Nat.reduceLT, Nat.reduceLeDiff, Nat.reduceEqDiff, Nat.reduceAdd, Nat.reduceMul, Nat.reduceDiv, Nat.reduceMod, Nat.le_refl, decide_eq_false_iff_not, Classical.not_not, true_and, and_true, false_and, and_false, not_true_eq_false, not_false_eq_true, forall_const, true_implies, false_implies, implies_true, ne_eq, e1, e2]
  refine ⟨by omega, by omega, r_readBy hG.1 hJ.1 (by omega) g2 (prs_sn el (by omega)) (wf_bk hJ.1 hl) ?_⟩
  unfold rdo at hp
  rw [el, nI_clamp (by omega)] at hp
  exact hp h FR.rf hG
theorem r_unlike {x y : Int32} (hG : RG h g) (hJ : JG B g) (hp : ∀ h', FR h h' → RG h' (aUnlike g x y).2 → p (aUnlike g x y).1 h') : mI (Kd sL (d + 12)) 115 [.inr (.inr (.inr 7)), .inl x, .inl y] h p := by
  have hm6 := hJ.1.m
  refine ke_X4_unlike ?_
  refine EX.go (Kd_mono _ _) [false, false, false, false, true, false, false, false, false] 40 0 ?_
  dsimp only [wpc_s, wsl_t, wsl_f, gD_0, gD_s, ↓denB_n, pI_s, pG_s, pU_n, cb_X4_unlike_0, cb_X4_unlike_1, cb_X4_unlike_2, cb_X4_unlike_3, cb_X4_unlike_4, cb_X4_unlike_5, cb_X4_unlike_6, cb_X4_unlike_7, cb_X4_unlike_8, ↓ev_aload_n_0, ↓ev_iload_n_1, ↓ev_callv_2_0_1, ↓ev_callv_2_1_1, ↓ev_callv_2_2_1, ↓ev_callv_2_3_1, ↓ev_callv_2_4_1, ↓ev_if_eq, ↓ev_iload_n_2, ↓ev_if_ne, ↓ev_sipush_m1001, ↓ev_iret, ↓ev_iconst_0, ↓ev_istore_n_3, ↓ev_iload_n_3, ↓ev_bipush_64, ↓ev_icmp_ge, ↓ev_callv_3_0_1, ↓ev_callv_3_1_1, ↓ev_callv_3_2_1, ↓ev_callv_3_3_1, ↓ev_callv_3_4_1, ↓ev_callv_3_5_1, ↓ev_icmp_eq, ↓ev_iinc_3_1, ↓ev_goto, ↓ev_iconst_m1, Nat.reduceAdd]
  unfold aUnlike at hp
  refine r_isLayer hG.1 hJ.1 ?_
  try simp (disch := omega) only [pk_mul, nI_add, n_lt0, n_le0, n_eq0, n_ge0, n_gt0, n_lt, n_le, n_eq, n_in, n_div, n_rem, n_rem2, n_m1, nI_clamp, bz_0, bz_1, tI_0, tI_bz, n4, n16, eq_self, Nat.reduceLT, Nat.reduceLeDiff, Nat.reduceEqDiff, Nat.reduceAdd, Nat.reduceMul, Nat.reduceDiv, Nat.reduceMod, Nat.le_refl, decide_eq_false_iff_not, Classical.not_not, true_and, and_true, false_and, and_false, not_true_eq_false, not_false_eq_true, forall_const, true_implies, false_implies, implies_true, ne_eq]
  refine ⟨fun c => ?_, fun c => ?_⟩
  · rw [dec_f.mpr (fun z => dec_f.mp c z.1), if_neg (by decide)] at hp
    exact r_rf (j := 0) hG (by decide) hp
  refine r_isLayer hG.1 hJ.1 ?_
  try simp (disch := omega) only [pk_mul, nI_add, n_lt0, n_le0, n_eq0, n_ge0, n_gt0, n_lt, n_le, n_eq, n_in, n_div, n_rem, n_rem2, n_m1, nI_clamp, bz_0, bz_1, tI_0, tI_bz, n4, n16, eq_self, Nat.reduceLT, Nat.reduceLeDiff, Nat.reduceEqDiff, Nat.reduceAdd, Nat.reduceMul, Nat.reduceDiv, Nat.reduceMod, Nat.le_refl, decide_eq_false_iff_not, Classical.not_not, true_and, and_true, false_and, and_false, not_true_eq_false, not_false_eq_true, forall_const, true_implies, false_implies, implies_true, ne_eq]
  refine ⟨fun c2 => ?_, fun c2 => ?_⟩
  · have a1 : okL g.1 x := Classical.not_not.mp (fun z => c (dec_f.mpr z))
    have a2 : okL g.1 y := Classical.not_not.mp (fun z => c2 (dec_f.mpr z))
    rw [if_pos (dec_t.mpr ⟨a1, a2⟩)] at hp
    obtain ⟨k1, g1, rfl⟩ := okL_n a1 hm6
    obtain ⟨k2, g2, rfl⟩ := okL_n a2 hm6
    have hp := hp h FR.rf hG
    dsimp only at hp
    suffices H : ∀ (f k : Nat), k + f = 64 → p (unF g.1 (nI k1) (nI k2) f k) h → EX (Kd sL (d + 11)) sL md_X4_unlike (pI p) 4 [some (.inr (.inr (.inr 7))), some (.inl (nI k1)), some (.inl (nI k2)), some (.inl (nI k))] [] h from H 64 0 rfl hp
    intro f
    induction f with
    | zero =>
      intro k hk hp
      refine EX.go (Kd_mono _ _) [false, false, false, false, true, false, false, false, false] 40 4 ?_
      dsimp only [wpc_s, wsl_t, wsl_f, gD_0, gD_s, ↓denB_n, pI_s, pG_s, pU_n, cb_X4_unlike_0, cb_X4_unlike_1, cb_X4_unlike_2, cb_X4_unlike_3, cb_X4_unlike_4, cb_X4_unlike_5, cb_X4_unlike_6, cb_X4_unlike_7, cb_X4_unlike_8, ↓ev_aload_n_0, ↓ev_iload_n_1, ↓ev_callv_2_0_1, ↓ev_callv_2_1_1, ↓ev_callv_2_2_1, ↓ev_callv_2_3_1, ↓ev_callv_2_4_1, ↓ev_if_eq, ↓ev_iload_n_2, ↓ev_if_ne, ↓ev_sipush_m1001, ↓ev_iret, ↓ev_iconst_0, ↓ev_istore_n_3, ↓ev_iload_n_3, ↓ev_bipush_64, ↓ev_icmp_ge, ↓ev_callv_3_0_1, ↓ev_callv_3_1_1, ↓ev_callv_3_2_1, ↓ev_callv_3_3_1, ↓ev_callv_3_4_1, ↓ev_callv_3_5_1, ↓ev_icmp_eq, ↓ev_iinc_3_1, ↓ev_goto, ↓ev_iconst_m1, Nat.reduceAdd]
      try simp (disch := omega) only [pk_mul, nI_add, n_lt0, n_le0, n_eq0, n_ge0, n_gt0, n_lt, n_le, n_eq, n_in, n_div, n_rem, n_rem2, n_m1, nI_clamp, bz_0, bz_1, tI_0, tI_bz, n4, n16, eq_self, Nat.reduceLT, Nat.reduceLeDiff, Nat.reduceEqDiff, Nat.reduceAdd, Nat.reduceMul, Nat.reduceDiv, Nat.reduceMod, Nat.le_refl, decide_eq_false_iff_not, Classical.not_not, true_and, and_true, false_and, and_false, not_true_eq_false, not_false_eq_true, forall_const, true_implies, false_implies, implies_true, ne_eq]
      exact ⟨fun _ => hp, fun z => absurd (show 64 ≤ k by omega) z⟩
    | succ f ih =>
      intro k hk hp
      refine EX.go (Kd_mono _ _) [false, false, false, false, true, false, false, false, false] 40 4 ?_
      dsimp only [wpc_s, wsl_t, wsl_f, gD_0, gD_s, ↓denB_n, pI_s, pG_s, pU_n, cb_X4_unlike_0, cb_X4_unlike_1, cb_X4_unlike_2, cb_X4_unlike_3, cb_X4_unlike_4, cb_X4_unlike_5, cb_X4_unlike_6, cb_X4_unlike_7, cb_X4_unlike_8, ↓ev_aload_n_0, ↓ev_iload_n_1, ↓ev_callv_2_0_1, ↓ev_callv_2_1_1, ↓ev_callv_2_2_1, ↓ev_callv_2_3_1, ↓ev_callv_2_4_1, ↓ev_if_eq, ↓ev_iload_n_2, ↓ev_if_ne, ↓ev_sipush_m1001, ↓ev_iret, ↓ev_iconst_0, ↓ev_istore_n_3, ↓ev_iload_n_3, ↓ev_bipush_64, ↓ev_icmp_ge, ↓ev_callv_3_0_1, ↓ev_callv_3_1_1, ↓ev_callv_3_2_1, ↓ev_callv_3_3_1, ↓ev_callv_3_4_1, ↓ev_callv_3_5_1, ↓ev_icmp_eq, ↓ev_iinc_3_1, ↓ev_goto, ↓ev_iconst_m1, Nat.reduceAdd]
      try simp (disch := omega) only [pk_mul, nI_add, n_lt0, n_le0, n_eq0, n_ge0, n_gt0, n_lt, n_le, n_eq, n_in, n_div, n_rem, n_rem2, n_m1, nI_clamp, bz_0, bz_1, tI_0, tI_bz, n4, n16, eq_self, Nat.reduceLT, Nat.reduceLeDiff, Nat.reduceEqDiff, Nat.reduceAdd, Nat.reduceMul, Nat.reduceDiv, Nat.reduceMod, Nat.le_refl, decide_eq_false_iff_not, Classical.not_not, true_and, and_true, false_and, and_false, not_true_eq_false, not_false_eq_true, forall_const, true_implies, false_implies, implies_true, ne_eq]
      unfold unF at hp
      refine ⟨fun z => absurd z (by omega), fun _ => ?_⟩
      refine r_readOf hG.1 hJ.1 g1 (by omega) ?_
      refine r_readOf hG.1 hJ.1 g2 (by omega) ?_
      refine ⟨fun z => ?_, fun z => ?_⟩
      · rw [if_pos z] at hp
        exact ih (k + 1) (by omega) hp
      · rw [if_neg z] at hp
        exact hp
  · rw [dec_f.mpr (fun z => dec_f.mp c2 z.2), if_neg (by decide)] at hp
    exact r_rf (j := 0) hG (by decide) hp
theorem r_sum {x : Int32} (hG : RG h g) (hJ : JG B g) (hp : ∀ h', FR h h' → RG h' (aSum g x).2 → p (aSum g x).1 h') : mI (Kd sL (d + 12)) 116 [.inr (.inr (.inr 7)), .inl x] h p := by
  have hm6 := hJ.1.m
  refine ke_X4_sum ?_
  refine EX.go (Kd_mono _ _) [false, false, false, true, false, false] 40 0 ?_
  dsimp only [wpc_s, wsl_t, wsl_f, gD_0, gD_s, ↓denB_n, pI_s, pG_s, pU_n, cb_X4_sum_0, cb_X4_sum_1, cb_X4_sum_2, cb_X4_sum_3, cb_X4_sum_4, cb_X4_sum_5, ↓ev_aload_n_0, ↓ev_iload_n_1, ↓ev_callv_2_0_1, ↓ev_callv_2_1_1, ↓ev_callv_2_2_1, ↓ev_callv_2_3_1, ↓ev_callv_2_4_1, ↓ev_if_ne, ↓ev_sipush_m1001, ↓ev_iret, ↓ev_iconst_1, ↓ev_istore_n_2, ↓ev_iconst_0, ↓ev_istore_n_3, ↓ev_iload_n_3, ↓ev_bipush_64, ↓ev_icmp_ge, ↓ev_bipush_31, ↓ev_iload_n_2, ↓ev_imul, ↓ev_callv_3_0_1, ↓ev_callv_3_1_1, ↓ev_callv_3_2_1, ↓ev_callv_3_3_1, ↓ev_callv_3_4_1, ↓ev_callv_3_5_1, ↓ev_iadd, ↓ev_iinc_3_1, ↓ev_goto, Nat.reduceAdd]
  unfold aSum at hp
  refine r_isLayer hG.1 hJ.1 ?_
  try simp (disch := omega) only [pk_mul, nI_add, n_lt0, n_le0, n_eq0, n_ge0, n_gt0, n_lt, n_le, n_eq, n_in, n_div, n_rem, n_rem2, n_m1, nI_clamp, bz_0, bz_1, tI_0, tI_bz, n4, n16, eq_self, Nat.reduceLT, Nat.reduceLeDiff, Nat.reduceEqDiff, Nat.reduceAdd, Nat.reduceMul, Nat.reduceDiv, Nat.reduceMod, Nat.le_refl, decide_eq_false_iff_not, Classical.not_not, true_and, and_true, false_and, and_false, not_true_eq_false, not_false_eq_true, forall_const, true_implies, false_implies, implies_true, ne_eq]
  refine ⟨fun c => ?_, fun c => ?_⟩
  · have a1 : okL g.1 x := Classical.not_not.mp (fun z => c (dec_f.mpr z))
    rw [if_pos (dec_t.mpr a1)] at hp
    obtain ⟨k1, g1, rfl⟩ := okL_n a1 hm6
    have hp := hp h FR.rf hG
    dsimp only at hp
    suffices H : ∀ (f k : Nat), k + f = 64 → EX (Kd sL (d + 11)) sL md_X4_sum (pI p) 3 [some (.inr (.inr (.inr 7))), some (.inl (nI k1)), some (.inl (smF g.1 (nI k1) k)), some (.inl (nI k))] [] h from H 64 0 rfl
    intro f
    induction f with
    | zero =>
      intro k hk
      refine EX.go (Kd_mono _ _) [false, false, false, true, false, false] 40 3 ?_
      dsimp only [wpc_s, wsl_t, wsl_f, gD_0, gD_s, ↓denB_n, pI_s, pG_s, pU_n, cb_X4_sum_0, cb_X4_sum_1, cb_X4_sum_2, cb_X4_sum_3, cb_X4_sum_4, cb_X4_sum_5, ↓ev_aload_n_0, ↓ev_iload_n_1, ↓ev_callv_2_0_1, ↓ev_callv_2_1_1, ↓ev_callv_2_2_1, ↓ev_callv_2_3_1, ↓ev_callv_2_4_1, ↓ev_if_ne, ↓ev_sipush_m1001, ↓ev_iret, ↓ev_iconst_1, ↓ev_istore_n_2, ↓ev_iconst_0, ↓ev_istore_n_3, ↓ev_iload_n_3, ↓ev_bipush_64, ↓ev_icmp_ge, ↓ev_bipush_31, ↓ev_iload_n_2, ↓ev_imul, ↓ev_callv_3_0_1, ↓ev_callv_3_1_1, ↓ev_callv_3_2_1, ↓ev_callv_3_3_1, ↓ev_callv_3_4_1, ↓ev_callv_3_5_1, ↓ev_iadd, ↓ev_iinc_3_1, ↓ev_goto, Nat.reduceAdd]
      try simp (disch := omega) only [pk_mul, nI_add, n_lt0, n_le0, n_eq0, n_ge0, n_gt0, n_lt, n_le, n_eq, n_in, n_div, n_rem, n_rem2, n_m1, nI_clamp, bz_0, bz_1, tI_0, tI_bz, n4, n16, eq_self, Nat.reduceLT, Nat.reduceLeDiff, Nat.reduceEqDiff, Nat.reduceAdd, Nat.reduceMul, Nat.reduceDiv, Nat.reduceMod, Nat.le_refl, decide_eq_false_iff_not, Classical.not_not, true_and, and_true, false_and, and_false, not_true_eq_false, not_false_eq_true, forall_const, true_implies, false_implies, implies_true, ne_eq]
      rw [show k = 64 by omega]
      exact ⟨fun _ => hp, fun z => absurd (show 64 ≤ 64 by omega) z⟩
    | succ f ih =>
      intro k hk
      refine EX.go (Kd_mono _ _) [false, false, false, true, false, false] 40 3 ?_
      dsimp only [wpc_s, wsl_t, wsl_f, gD_0, gD_s, ↓denB_n, pI_s, pG_s, pU_n, cb_X4_sum_0, cb_X4_sum_1, cb_X4_sum_2, cb_X4_sum_3, cb_X4_sum_4, cb_X4_sum_5, ↓ev_aload_n_0, ↓ev_iload_n_1, ↓ev_callv_2_0_1, ↓ev_callv_2_1_1, ↓ev_callv_2_2_1, ↓ev_callv_2_3_1, ↓ev_callv_2_4_1, ↓ev_if_ne, ↓ev_sipush_m1001, ↓ev_iret, ↓ev_iconst_1, ↓ev_istore_n_2, ↓ev_iconst_0, ↓ev_istore_n_3, ↓ev_iload_n_3, ↓ev_bipush_64, ↓ev_icmp_ge, ↓ev_bipush_31, ↓ev_iload_n_2, ↓ev_imul, ↓ev_callv_3_0_1, ↓ev_callv_3_1_1, ↓ev_callv_3_2_1, ↓ev_callv_3_3_1, ↓ev_callv_3_4_1, ↓ev_callv_3_5_1, ↓ev_iadd, ↓ev_iinc_3_1, ↓ev_goto, Nat.reduceAdd]
      try simp (disch := omega) only [pk_mul, nI_add, n_lt0, n_le0, n_eq0, n_ge0, n_gt0, n_lt, n_le, n_eq, n_in, n_div, n_rem, n_rem2, n_m1, nI_clamp, bz_0, bz_1, tI_0, tI_bz, n4, n16, eq_self, Nat.reduceLT, Nat.reduceLeDiff, Nat.reduceEqDiff, Nat.reduceAdd, Nat.reduceMul, Nat.reduceDiv, Nat.reduceMod, Nat.le_refl, decide_eq_false_iff_not, Classical.not_not, true_and, and_true, false_and, and_false, not_true_eq_false, not_false_eq_true, forall_const, true_implies, false_implies, implies_true, ne_eq]
      refine ⟨fun z => absurd z (by omega), fun _ => ?_⟩
      refine r_readOf hG.1 hJ.1 g1 (by omega) ?_
      try simp (disch := omega) only [pk_mul, nI_add, n_lt0, n_le0, n_eq0, n_ge0, n_gt0, n_lt, n_le, n_eq, n_in, n_div, n_rem, n_rem2, n_m1, nI_clamp, bz_0, bz_1, tI_0, tI_bz, n4, n16, eq_self, Nat.reduceLT, Nat.reduceLeDiff, Nat.reduceEqDiff, Nat.reduceAdd, Nat.reduceMul, Nat.reduceDiv, Nat.reduceMod, Nat.le_refl, decide_eq_false_iff_not, Classical.not_not, true_and, and_true, false_and, and_false, not_true_eq_false, not_false_eq_true, forall_const, true_implies, false_implies, implies_true, ne_eq]
      exact ih (k + 1) (by omega)
  · rw [if_neg (by rw [c]; decide)] at hp
    exact r_rf (j := 0) hG (by decide) hp
theorem r_tear {n : Int32} (hG : RG h g) (hp : ∀ h', FR h h' → RG h' (aTear g n).2 → p (aTear g n).1 h') : mI (Kd sL (d + 12)) 157 [.inr (.inr (.inr 7)), .inl n] h p := by
  refine ke_X4_tear ?_
  refine EX.go (Kd_mono _ _) [false, false, false] 40 0 ?_
  dsimp only [wpc_s, wsl_t, wsl_f, gD_0, gD_s, ↓denB_n, pI_s, pG_s, pU_n, cb_X4_tear_0, cb_X4_tear_1, cb_X4_tear_2, ↓ev_iload_n_1, ↓ev_iconst_m1, ↓ev_sipush_999, ↓ev_calls_3_0_1, ↓ev_calls_3_1_1, ↓ev_calls_3_2_1, ↓ev_calls_3_3_1, ↓ev_calls_3_4_1, ↓ev_if_ne, ↓ev_aload_n_0, ↓ev_sipush_m1001, ↓ev_callv_2_0_1, ↓ev_callv_2_1_1, ↓ev_callv_2_2_1, ↓ev_callv_2_3_1, ↓ev_callv_2_4_1, ↓ev_iret, ↓ev_getf_4_0, ↓ev_sipush_399, ↓ev_iald_o8, ↓ev_iald_o9, ↓ev_iald_o10, ↓ev_iald_o11, ↓ev_iald_o12, ↓ev_iald_o13, ↓ev_iald_o14, ↓ev_iald_o15, ↓ev_iald_o16, ↓ev_istore_n_2, ↓ev_iast_o8, ↓ev_iast_o9, ↓ev_iast_o10, ↓ev_iast_o11, ↓ev_iast_o12, ↓ev_iast_o13, ↓ev_iast_o14, ↓ev_iast_o15, ↓ev_iast_o16, ↓ev_iload_n_2, Nat.reduceAdd]
  unfold aTear at hp
  refine r_in ?_
  rw [dec_iff (show (-1 ≤ n ∧ n ≤ nI 999) ↔ (¬ n < -1 ∧ n ≤ nI 999) from and_congr_left' (Int32.not_lt.symm))]
  try simp (disch := omega) only [pk_mul, nI_add, n_lt0, n_le0, n_eq0, n_ge0, n_gt0, n_lt, n_le, n_eq, n_in, n_div, n_rem, n_rem2, n_m1, nI_clamp, bz_0, bz_1, tI_0, tI_bz, n4, n16, eq_self, Nat.reduceLT, Nat.reduceLeDiff, Nat.reduceEqDiff, Nat.reduceAdd, Nat.reduceMul, Nat.reduceDiv, Nat.reduceMod, Nat.le_refl, decide_eq_false_iff_not, Classical.not_not, true_and, and_true, false_and, and_false, not_true_eq_false, not_false_eq_true, forall_const, true_implies, false_implies, implies_true, ne_eq]
  refine ⟨fun c => ?_, fun c => ?_⟩
  · rw [if_pos (by simpa using c)] at hp
    have e : h (.inr 8) 399 = g.1 399 := hG.1 399 (by decide)
    rw [e]
    exact hp _ (fr_up (by decide) (by decide)) hG.u8
  · rw [if_neg (by rw [c]; decide)] at hp
    exact r_rf (j := 0) hG (by decide) hp
theorem r_cluster {c w : Int32} (hG : RG h g) (hJ : JG B g) (hp : ∀ h', FR h h' → RG h' (aCluster g c w).2 → p (aCluster g c w).1 h') : mI (Kd sL (d + 12)) 158 [.inr (.inr (.inr 7)), .inl c, .inl w] h p := by
  refine ke_X4_cluster ?_
  refine EX.go (Kd_mono _ _) [false, false, false, false, false, false, false, false, false] 40 0 ?_
  dsimp only [wpc_s, wsl_t, wsl_f, gD_0, gD_s, ↓denB_n, pI_s, pG_s, pU_n, cb_X4_cluster_0, cb_X4_cluster_1, cb_X4_cluster_2, cb_X4_cluster_3, cb_X4_cluster_4, cb_X4_cluster_5, cb_X4_cluster_6, cb_X4_cluster_7, cb_X4_cluster_8, ↓ev_iload_n_1, ↓ev_calls_1_0_1, ↓ev_calls_1_1_1, ↓ev_calls_1_2_1, ↓ev_calls_1_3_1, ↓ev_calls_1_4_1, ↓ev_if_eq, ↓ev_iload_n_2, ↓ev_iconst_0, ↓ev_iconst_5, ↓ev_calls_3_0_1, ↓ev_calls_3_1_1, ↓ev_calls_3_2_1, ↓ev_calls_3_3_1, ↓ev_calls_3_4_1, ↓ev_if_ne, ↓ev_aload_n_0, ↓ev_sipush_m1001, ↓ev_callv_2_0_1, ↓ev_callv_2_1_1, ↓ev_callv_2_2_1, ↓ev_callv_2_3_1, ↓ev_callv_2_4_1, ↓ev_iret, ↓ev_callv_1_0_0, ↓ev_callv_1_1_0, ↓ev_callv_1_2_0, ↓ev_callv_1_3_0, ↓ev_callv_1_4_0, ↓ev_getf_4_0, ↓ev_iadd, ↓ev_iald_o8, ↓ev_iald_o9, ↓ev_iald_o10, ↓ev_iald_o11, ↓ev_iald_o12, ↓ev_iald_o13, ↓ev_iald_o14, ↓ev_iald_o15, ↓ev_iald_o16, ↓ev_goto, ↓ev_iconst_1, ↓ev_icmp_ne, ↓ev_getf_4_5, ↓ev_bipush_64, ↓ev_iconst_4, ↓ev_imul, ↓ev_iconst_2, ↓ev_isub, Nat.reduceAdd]
  unfold aCluster at hp
  refine r_isCluster ?_
  try simp (disch := omega) only [pk_mul, nI_add, n_lt0, n_le0, n_eq0, n_ge0, n_gt0, n_lt, n_le, n_eq, n_in, n_div, n_rem, n_rem2, n_m1, nI_clamp, bz_0, bz_1, tI_0, tI_bz, n4, n16, eq_self, Nat.reduceLT, Nat.reduceLeDiff, Nat.reduceEqDiff, Nat.reduceAdd, Nat.reduceMul, Nat.reduceDiv, Nat.reduceMod, Nat.le_refl, decide_eq_false_iff_not, Classical.not_not, true_and, and_true, false_and, and_false, not_true_eq_false, not_false_eq_true, forall_const, true_implies, false_implies, implies_true, ne_eq]
  refine ⟨fun c1 => ?_, fun c1 => ?_⟩
  · rw [if_neg (by rw [c1]; decide)] at hp
    exact r_rf (j := 0) hG (by decide) hp
  have a1 : 0 < c ∧ c < nI 64 := Classical.not_not.mp (fun z => c1 (dec_f.mpr z))
  rw [if_pos (dec_t.mpr a1)] at hp
  obtain ⟨k, k1, k2, rfl⟩ := pc_x a1
  rw [nI_clamp (by omega)] at hp
  refine r_in ?_
  rw [dec_iff (okN_in (m := 5) (n := 6) rfl (by decide))]
  try simp (disch := omega) only [pk_mul, nI_add, n_lt0, n_le0, n_eq0, n_ge0, n_gt0, n_lt, n_le, n_eq, n_in, n_div, n_rem, n_rem2, n_m1, nI_clamp, bz_0, bz_1, tI_0, tI_bz, n4, n16, eq_self, Nat.reduceLT, Nat.reduceLeDiff, Nat.reduceEqDiff, Nat.reduceAdd, Nat.reduceMul, Nat.reduceDiv, Nat.reduceMod, Nat.le_refl, decide_eq_false_iff_not, Classical.not_not, true_and, and_true, false_and, and_false, not_true_eq_false, not_false_eq_true, forall_const, true_implies, false_implies, implies_true, ne_eq]
  refine ⟨fun c2 => ?_, fun c2 => ?_⟩
  · have a2 : okN w 6 := Classical.not_not.mp (fun z => c2 (dec_f.mpr z))
    obtain ⟨x, hx, rfl⟩ := okN_n a2 (by decide)
    refine r_reckons hG.1 hJ.1 (fun F G hF hG2 => ?_)
    have e0 : h (.inr 8) k = g.1 k := hG.1 _ (by omega)
    have e1 := hF k k1 k2
    have e2 : ∀ j, j < 4 → h (.inr 8) (64 + 4 * k + j) = g.1 (64 + 4 * k + j) := fun j hj => hG.1 _ (by omega)
    have fin := hp (h23 h F G) FE.p23.fr
    rcases (show x = 0 ∨ x = 1 ∨ x = 2 ∨ x = 3 ∨ x = 4 ∨ x = 5 by omega) with rfl | rfl | rfl | rfl | rfl | rfl
    · rw [if_pos rfl] at fin
      try simp (disch := omega) only [pk_mul, nI_add, n_lt0, n_le0, n_eq0, n_ge0, n_gt0, n_lt, n_le, n_eq, n_in, n_div, n_rem, n_rem2, n_m1, nI_clamp, bz_0, bz_1, tI_0, tI_bz, n4, n16, eq_self, Nat.reduceLT, Nat.reduceLeDiff, Nat.reduceEqDiff, Nat.reduceAdd, Nat.reduceMul, Nat.reduceDiv, Nat.reduceMod, Nat.le_refl, decide_eq_false_iff_not, Classical.not_not, true_and, and_true, false_and, and_false, not_true_eq_false, not_false_eq_true, forall_const, true_implies, false_implies, implies_true, ne_eq, Nat.zero_add, a_8, e0]
      exact ⟨by omega, fin hG.p23⟩
    · rw [if_neg (by decide), if_pos rfl] at fin
      try simp (disch := omega) only [pk_mul, nI_add, n_lt0, n_le0, n_eq0, n_ge0, n_gt0, n_lt, n_le, n_eq, n_in, n_div, n_rem, n_rem2, n_m1, nI_clamp, bz_0, bz_1, tI_0, tI_bz, n4, n16, eq_self, Nat.reduceLT, Nat.reduceLeDiff, Nat.reduceEqDiff, Nat.reduceAdd, Nat.reduceMul, Nat.reduceDiv, Nat.reduceMod, Nat.le_refl, decide_eq_false_iff_not, Classical.not_not, true_and, and_true, false_and, and_false, not_true_eq_false, not_false_eq_true, forall_const, true_implies, false_implies, implies_true, ne_eq, a_12, e1]
      exact ⟨by omega, fin hG.p23⟩
    · rw [if_neg (by decide), if_neg (by decide), if_pos rfl] at fin
      try simp (disch := omega) only [pk_mul, nI_add, n_lt0, n_le0, n_eq0, n_ge0, n_gt0, n_lt, n_le, n_eq, n_in, n_div, n_rem, n_rem2, n_m1, nI_clamp, bz_0, bz_1, tI_0, tI_bz, n4, n16, eq_self, Nat.reduceLT, Nat.reduceLeDiff, Nat.reduceEqDiff, Nat.reduceAdd, Nat.reduceMul, Nat.reduceDiv, Nat.reduceMod, Nat.le_refl, decide_eq_false_iff_not, Classical.not_not, true_and, and_true, false_and, and_false, not_true_eq_false, not_false_eq_true, forall_const, true_implies, false_implies, implies_true, ne_eq, a_8]
      rw [n_sub (by omega)]
      try simp (disch := omega) only [pk_mul, nI_add, n_lt0, n_le0, n_eq0, n_ge0, n_gt0, n_lt, n_le, n_eq, n_in, n_div, n_rem, n_rem2, n_m1, nI_clamp, bz_0, bz_1, tI_0, tI_bz, n4, n16, eq_self, Nat.reduceLT, Nat.reduceLeDiff, Nat.reduceEqDiff, Nat.reduceAdd, Nat.reduceMul, Nat.reduceDiv, Nat.reduceMod, Nat.le_refl, decide_eq_false_iff_not, Classical.not_not, true_and, and_true, false_and, and_false, not_true_eq_false, not_false_eq_true, forall_const, true_implies, false_implies, implies_true, ne_eq, a_8]
      refine ⟨by omega, ?_⟩
      rw [show 64 + 4 * k + 2 - 2 = 64 + 4 * k + 0 by omega, e2 0 (by decide)]
      exact fin hG.p23
    · rw [if_neg (by decide), if_neg (by decide), if_neg (by decide), if_pos rfl] at fin
      try simp (disch := omega) only [pk_mul, nI_add, n_lt0, n_le0, n_eq0, n_ge0, n_gt0, n_lt, n_le, n_eq, n_in, n_div, n_rem, n_rem2, n_m1, nI_clamp, bz_0, bz_1, tI_0, tI_bz, n4, n16, eq_self, Nat.reduceLT, Nat.reduceLeDiff, Nat.reduceEqDiff, Nat.reduceAdd, Nat.reduceMul, Nat.reduceDiv, Nat.reduceMod, Nat.le_refl, decide_eq_false_iff_not, Classical.not_not, true_and, and_true, false_and, and_false, not_true_eq_false, not_false_eq_true, forall_const, true_implies, false_implies, implies_true, ne_eq, a_8]
      rw [n_sub (by omega)]
      try simp (disch := omega) only [pk_mul, nI_add, n_lt0, n_le0, n_eq0, n_ge0, n_gt0, n_lt, n_le, n_eq, n_in, n_div, n_rem, n_rem2, n_m1, nI_clamp, bz_0, bz_1, tI_0, tI_bz, n4, n16, eq_self, Nat.reduceLT, Nat.reduceLeDiff, Nat.reduceEqDiff, Nat.reduceAdd, Nat.reduceMul, Nat.reduceDiv, Nat.reduceMod, Nat.le_refl, decide_eq_false_iff_not, Classical.not_not, true_and, and_true, false_and, and_false, not_true_eq_false, not_false_eq_true, forall_const, true_implies, false_implies, implies_true, ne_eq, a_8]
      refine ⟨by omega, ?_⟩
      rw [show 64 + 4 * k + 3 - 2 = 64 + 4 * k + 1 by omega, e2 1 (by decide)]
      exact fin hG.p23
    · rw [if_neg (by decide), if_neg (by decide), if_neg (by decide), if_neg (by decide), if_pos rfl] at fin
      try simp (disch := omega) only [pk_mul, nI_add, n_lt0, n_le0, n_eq0, n_ge0, n_gt0, n_lt, n_le, n_eq, n_in, n_div, n_rem, n_rem2, n_m1, nI_clamp, bz_0, bz_1, tI_0, tI_bz, n4, n16, eq_self, Nat.reduceLT, Nat.reduceLeDiff, Nat.reduceEqDiff, Nat.reduceAdd, Nat.reduceMul, Nat.reduceDiv, Nat.reduceMod, Nat.le_refl, decide_eq_false_iff_not, Classical.not_not, true_and, and_true, false_and, and_false, not_true_eq_false, not_false_eq_true, forall_const, true_implies, false_implies, implies_true, ne_eq, a_8]
      rw [n_sub (by omega)]
      try simp (disch := omega) only [pk_mul, nI_add, n_lt0, n_le0, n_eq0, n_ge0, n_gt0, n_lt, n_le, n_eq, n_in, n_div, n_rem, n_rem2, n_m1, nI_clamp, bz_0, bz_1, tI_0, tI_bz, n4, n16, eq_self, Nat.reduceLT, Nat.reduceLeDiff, Nat.reduceEqDiff, Nat.reduceAdd, Nat.reduceMul, Nat.reduceDiv, Nat.reduceMod, Nat.le_refl, decide_eq_false_iff_not, Classical.not_not, true_and, and_true, false_and, and_false, not_true_eq_false, not_false_eq_true, forall_const, true_implies, false_implies, implies_true, ne_eq, a_8]
      refine ⟨by omega, ?_⟩
      rw [show 64 + 4 * k + 4 - 2 = 64 + 4 * k + 2 by omega, e2 2 (by decide)]
      exact fin hG.p23
    · rw [if_neg (by decide), if_neg (by decide), if_neg (by decide), if_neg (by decide), if_neg (by decide), if_pos rfl] at fin
      try simp (disch := omega) only [pk_mul, nI_add, n_lt0, n_le0, n_eq0, n_ge0, n_gt0, n_lt, n_le, n_eq, n_in, n_div, n_rem, n_rem2, n_m1, nI_clamp, bz_0, bz_1, tI_0, tI_bz, n4, n16, eq_self, Nat.reduceLT, Nat.reduceLeDiff, Nat.reduceEqDiff, Nat.reduceAdd, Nat.reduceMul, Nat.reduceDiv, Nat.reduceMod, Nat.le_refl, decide_eq_false_iff_not, Classical.not_not, true_and, and_true, false_and, and_false, not_true_eq_false, not_false_eq_true, forall_const, true_implies, false_implies, implies_true, ne_eq, a_8]
      rw [n_sub (by omega)]
      try simp (disch := omega) only [pk_mul, nI_add, n_lt0, n_le0, n_eq0, n_ge0, n_gt0, n_lt, n_le, n_eq, n_in, n_div, n_rem, n_rem2, n_m1, nI_clamp, bz_0, bz_1, tI_0, tI_bz, n4, n16, eq_self, Nat.reduceLT, Nat.reduceLeDiff, Nat.reduceEqDiff, Nat.reduceAdd, Nat.reduceMul, Nat.reduceDiv, Nat.reduceMod, Nat.le_refl, decide_eq_false_iff_not, Classical.not_not, true_and, and_true, false_and, and_false, not_true_eq_false, not_false_eq_true, forall_const, true_implies, false_implies, implies_true, ne_eq, a_8]
      refine ⟨by omega, ?_⟩
      rw [show 64 + 4 * k + 5 - 2 = 64 + 4 * k + 3 by omega, e2 3 (by decide)]
      exact fin hG.p23
  · rw [dec_f] at c2
    have hne : ∀ j, j < 6 → ¬ w = nI j := fun j hj z => c2 (by
      rw [z]
      exact ⟨by rw [n_lt0 (by omega)]; exact id, nI_lt hj (by decide)⟩)
    rw [if_neg (hne 0 (by decide)), if_neg (hne 1 (by decide)), if_neg (hne 2 (by decide)), if_neg (hne 3 (by decide)), if_neg (hne 4 (by decide)), if_neg (hne 5 (by decide))] at hp
    exact r_rf (j := 0) hG (by decide) hp
theorem r_spoil {c n : Int32} (hG : RG h g) (hp : ∀ h', FR h h' → RG h' (aSpoil g c n).2 → p (aSpoil g c n).1 h') : mI (Kd sL (d + 12)) 159 [.inr (.inr (.inr 7)), .inl c, .inl n] h p := by
  refine ke_X4_spoil ?_
  refine EX.go (Kd_mono _ _) [false, false, false, false] 40 0 ?_
  dsimp only [wpc_s, wsl_t, wsl_f, gD_0, gD_s, ↓denB_n, pI_s, pG_s, pU_n, cb_X4_spoil_0, cb_X4_spoil_1, cb_X4_spoil_2, cb_X4_spoil_3, ↓ev_iload_n_1, ↓ev_calls_1_0_1, ↓ev_calls_1_1_1, ↓ev_calls_1_2_1, ↓ev_calls_1_3_1, ↓ev_calls_1_4_1, ↓ev_if_eq, ↓ev_iload_n_2, ↓ev_iconst_0, ↓ev_bipush_99, ↓ev_calls_3_0_1, ↓ev_calls_3_1_1, ↓ev_calls_3_2_1, ↓ev_calls_3_3_1, ↓ev_calls_3_4_1, ↓ev_if_ne, ↓ev_aload_n_0, ↓ev_sipush_m1001, ↓ev_callv_2_0_1, ↓ev_callv_2_1_1, ↓ev_callv_2_2_1, ↓ev_callv_2_3_1, ↓ev_callv_2_4_1, ↓ev_iret, ↓ev_getf_4_0, ↓ev_iadd, ↓ev_iald_o8, ↓ev_iald_o9, ↓ev_iald_o10, ↓ev_iald_o11, ↓ev_iald_o12, ↓ev_iald_o13, ↓ev_iald_o14, ↓ev_iald_o15, ↓ev_iald_o16, ↓ev_istore_n_3, ↓ev_iast_o8, ↓ev_iast_o9, ↓ev_iast_o10, ↓ev_iast_o11, ↓ev_iast_o12, ↓ev_iast_o13, ↓ev_iast_o14, ↓ev_iast_o15, ↓ev_iast_o16, ↓ev_iload_n_3, Nat.reduceAdd]
  unfold aSpoil at hp
  refine r_isCluster ?_
  try simp (disch := omega) only [pk_mul, nI_add, n_lt0, n_le0, n_eq0, n_ge0, n_gt0, n_lt, n_le, n_eq, n_in, n_div, n_rem, n_rem2, n_m1, nI_clamp, bz_0, bz_1, tI_0, tI_bz, n4, n16, eq_self, Nat.reduceLT, Nat.reduceLeDiff, Nat.reduceEqDiff, Nat.reduceAdd, Nat.reduceMul, Nat.reduceDiv, Nat.reduceMod, Nat.le_refl, decide_eq_false_iff_not, Classical.not_not, true_and, and_true, false_and, and_false, not_true_eq_false, not_false_eq_true, forall_const, true_implies, false_implies, implies_true, ne_eq]
  refine ⟨fun c1 => ?_, fun c1 => ?_⟩
  · rw [dec_f.mpr (fun z => dec_f.mp c1 z.1), if_neg (by decide)] at hp
    exact r_rf (j := 0) hG (by decide) hp
  have a1 : 0 < c ∧ c < nI 64 := Classical.not_not.mp (fun z => c1 (dec_f.mpr z))
  refine r_in ?_
  rw [dec_iff (show (nI 0 ≤ n ∧ n ≤ nI 99) ↔ (¬ n < 0 ∧ n ≤ nI 99) from and_congr_left' (Int32.not_lt.symm))]
  try simp (disch := omega) only [pk_mul, nI_add, n_lt0, n_le0, n_eq0, n_ge0, n_gt0, n_lt, n_le, n_eq, n_in, n_div, n_rem, n_rem2, n_m1, nI_clamp, bz_0, bz_1, tI_0, tI_bz, n4, n16, eq_self, Nat.reduceLT, Nat.reduceLeDiff, Nat.reduceEqDiff, Nat.reduceAdd, Nat.reduceMul, Nat.reduceDiv, Nat.reduceMod, Nat.le_refl, decide_eq_false_iff_not, Classical.not_not, true_and, and_true, false_and, and_false, not_true_eq_false, not_false_eq_true, forall_const, true_implies, false_implies, implies_true, ne_eq]
  refine ⟨fun c2 => ?_, fun c2 => ?_⟩
  · have a2 : ¬ n < 0 ∧ n ≤ nI 99 := Classical.not_not.mp (fun z => c2 (dec_f.mpr z))
    rw [if_pos (dec_t.mpr ⟨a1, a2⟩)] at hp
    obtain ⟨k, k1, k2, rfl⟩ := pc_x a1
    rw [nI_clamp (by omega)] at hp
    have e0 : h (.inr 8) k = g.1 k := hG.1 _ (by omega)
    try simp (disch := omega) only [pk_mul, nI_add, n_lt0, n_le0, n_eq0, n_ge0, n_gt0, n_lt, n_le, n_eq, n_in, n_div, n_rem, n_rem2, n_m1, nI_clamp, bz_0, bz_1, tI_0, tI_bz, n4, n16, eq_self, Nat.reduceLT, Nat.reduceLeDiff, Nat.reduceEqDiff, Nat.reduceAdd, Nat.reduceMul, Nat.reduceDiv, Nat.reduceMod, Nat.le_refl, decide_eq_false_iff_not, Classical.not_not, true_and, and_true, false_and, and_false, not_true_eq_false, not_false_eq_true, forall_const, true_implies, false_implies, implies_true, ne_eq, Nat.zero_add, e0]
    exact ⟨by omega, by omega, hp _ (fr_up (by decide) (by decide)) hG.u8⟩
  · rw [dec_f.mpr (fun z => dec_f.mp c2 z.2), if_neg (by decide)] at hp
    exact r_rf (j := 0) hG (by decide) hp
theorem r_refused {w : Int32} (hG : RG h g) (hp : ∀ h', FR h h' → RG h' (aRefused g w).2 → p (aRefused g w).1 h') : mI (Kd sL (d + 12)) 190 [.inr (.inr (.inr 7)), .inl w] h p := by
  refine ke_X4_refused ?_
  refine EX.go (Kd_mono _ _) [false, false, false, false] 40 0 ?_
  dsimp only [wpc_s, wsl_t, wsl_f, gD_0, gD_s, ↓denB_n, pI_s, pG_s, pU_n, cb_X4_refused_0, cb_X4_refused_1, cb_X4_refused_2, cb_X4_refused_3, ↓ev_iload_n_1, ↓ev_iconst_0, ↓ev_iconst_3, ↓ev_calls_3_0_1, ↓ev_calls_3_1_1, ↓ev_calls_3_2_1, ↓ev_calls_3_3_1, ↓ev_calls_3_4_1, ↓ev_if_eq, ↓ev_aload_n_0, ↓ev_getf_4_4, ↓ev_iald_o8, ↓ev_iald_o9, ↓ev_iald_o10, ↓ev_iald_o11, ↓ev_iald_o12, ↓ev_iald_o13, ↓ev_iald_o14, ↓ev_iald_o15, ↓ev_iald_o16, ↓ev_goto, ↓ev_sipush_m1001, ↓ev_callv_2_0_1, ↓ev_callv_2_1_1, ↓ev_callv_2_2_1, ↓ev_callv_2_3_1, ↓ev_callv_2_4_1, ↓ev_iret, Nat.reduceAdd]
  unfold aRefused at hp
  refine r_in ?_
  rw [dec_iff (okN_in (m := 3) (n := 4) rfl (by decide))]
  try simp (disch := omega) only [pk_mul, nI_add, n_lt0, n_le0, n_eq0, n_ge0, n_gt0, n_lt, n_le, n_eq, n_in, n_div, n_rem, n_rem2, n_m1, nI_clamp, bz_0, bz_1, tI_0, tI_bz, n4, n16, eq_self, Nat.reduceLT, Nat.reduceLeDiff, Nat.reduceEqDiff, Nat.reduceAdd, Nat.reduceMul, Nat.reduceDiv, Nat.reduceMod, Nat.le_refl, decide_eq_false_iff_not, Classical.not_not, true_and, and_true, false_and, and_false, not_true_eq_false, not_false_eq_true, forall_const, true_implies, false_implies, implies_true, ne_eq]
  refine ⟨fun c => ?_, fun c => ?_⟩
  · rw [if_neg (by rw [c]; decide)] at hp
    exact r_rf (j := 0) hG (by decide) hp
  · have a1 : okN w 4 := Classical.not_not.mp (fun z => c (dec_f.mpr z))
    rw [if_pos (dec_t.mpr a1)] at hp
    obtain ⟨k, hk, rfl⟩ := okN_n a1 (by decide)
    rw [nI_clamp (by omega)] at hp
    have e := hG.2.2.2.2.1 k hk
    try simp (disch := omega) only [pk_mul, nI_add, n_lt0, n_le0, n_eq0, n_ge0, n_gt0, n_lt, n_le, n_eq, n_in, n_div, n_rem, n_rem2, n_m1, nI_clamp, bz_0, bz_1, tI_0, tI_bz, n4, n16, eq_self, Nat.reduceLT, Nat.reduceLeDiff, Nat.reduceEqDiff, Nat.reduceAdd, Nat.reduceMul, Nat.reduceDiv, Nat.reduceMod, Nat.le_refl, decide_eq_false_iff_not, Classical.not_not, true_and, and_true, false_and, and_false, not_true_eq_false, not_false_eq_true, forall_const, true_implies, false_implies, implies_true, ne_eq, e]
    exact ⟨hk, hp h FR.rf hG⟩
end RPB2
