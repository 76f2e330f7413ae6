/-! ===== class TornLayers: layers, places, counts ===== -/
noncomputable def aLayer (g : Gs) (b : Int32) : Int32 × Gs := if dec (b = -1 ∨ okL g.1 b) then (if 6 ≤ mn g.1 then rfA g 1 else (nI (mn g.1), gwS g (addL g.1 b))) else rfA g 0
/-- all places of a layer written: -1 or how many writes -/
noncomputable def rwc (S : St) (l : Nat) : Int32 := if lk S then -1 else if dec (∃ j, j ≤ 64 ∧ (rwF 1000000 l j (S, 0, 0)).2.2 = 2) then -1 else nI (rwF 1000000 l 64 (S, 0, 0)).2.1
noncomputable def aOf (g : Gs) (l w : Int32) : Int32 × Gs := if dec (okL g.1 l) then (if w = nI 0 then (bk g.1 l.toNatClampNeg, g) else if w = nI 1 then (iOr (fun b => decide (¬ dof g.1 l.toNatClampNeg b = 0)) 16, g) else if w = nI 2 then (rwc g.1 l.toNatClampNeg, g) else if w = nI 3 then (nI (cbl g.1 6 (bk g.1 l.toNatClampNeg)), g) else rfA g 0) else rfA g 0
noncomputable def aRead (g : Gs) (l pl : Int32) : Int32 × Gs := if dec (okL g.1 l ∧ okN pl 64) then (rdf g.1 6 l pl.toNatClampNeg, g) else rfA g 0
def rdo (S : St) (s pl : Nat) : Int32 := if dof S (6 + s) (pl / 4) = 0 then rdf S 6 (bk S (sn S s).toNatClampNeg) pl else S (64 + (4 * dof S (6 + s) (pl / 4) + pl % 4))
noncomputable def aReadOld (g : Gs) (s pl : Int32) : Int32 × Gs := if dec ((okN s 8 ∧ ¬ sn g.1 s.toNatClampNeg = -1) ∧ okN pl 64) then (rdo g.1 s.toNatClampNeg pl.toNatClampNeg, g) else rfA g 0
def unF (S : St) (x y : Int32) : Nat → Nat → Int32
  | 0, _ => -1
  | f + 1, k => if rdf S 6 x k = rdf S 6 y k then unF S x y f (k + 1) else nI k
noncomputable def aUnlike (g : Gs) (x y : Int32) : Int32 × Gs := if dec (okL g.1 x ∧ okL g.1 y) then (unF g.1 x y 64 0, g) else rfA g 0
def smF (S : St) (x : Int32) : Nat → Int32
  | 0 => nI 1
  | k + 1 => nI 31 * smF S x k + rdf S 6 x k
noncomputable def aSum (g : Gs) (x : Int32) : Int32 × Gs := if dec (okL g.1 x) then (smF g.1 x 64, g) else rfA g 0
noncomputable def aTear (g : Gs) (n : Int32) : Int32 × Gs := if dec (¬ n < -1 ∧ n ≤ nI 999) then (g.1 399, gwS g (upd g.1 399 n)) else rfA g 0
noncomputable def aCluster (g : Gs) (c w : Int32) : Int32 × Gs := if dec (0 < c ∧ c < nI 64) then (if w = nI 0 then (g.1 c.toNatClampNeg, g) else if w = nI 1 then (nI (tru g.1 c.toNatClampNeg), g) else if w = nI 2 then (g.1 (64 + 4 * c.toNatClampNeg), g) else if w = nI 3 then (g.1 (64 + 4 * c.toNatClampNeg + 1), g) else if w = nI 4 then (g.1 (64 + 4 * c.toNatClampNeg + 2), g) else if w = nI 5 then (g.1 (64 + 4 * c.toNatClampNeg + 3), g) else rfA g 0) else rfA g 0
noncomputable def aSpoil (g : Gs) (c n : Int32) : Int32 × Gs := if dec ((0 < c ∧ c < nI 64) ∧ ¬ n < 0 ∧ n ≤ nI 99) then (g.1 c.toNatClampNeg, gwS g (upd g.1 c.toNatClampNeg n)) else rfA g 0
noncomputable def aAll (g : Gs) (w : Int32) : Int64 := if w = nI 0 then lOr (leakP g.1) 64 else if w = nI 1 then lOr (lackP g.1) 64 else if w = nI 2 then lOr (freeP g.1) 64 else if w = nI 3 then lOr (sharP g.1) 64 else lN 0
noncomputable def aRepair (g : Gs) : Int32 × Gs := (nI (fb_ct (mndP g.1) 64), gwS g (mnd g.1))
/-- what holds of the state from call to call -/
def GI (g : Gs) : Prop := W0 g.1 ∧ wT g.1 ∧ (∀ l, mn g.1 ≤ l → l < 6 → ∀ k, k < 4 → g.1 (327 + 4 * l + k) = nI 0)
section PB2
variable {sL d : Nat} {h : mH} {g : Gs} {p : Int32 → mH → Prop}
theorem k_rfA {j : Nat} (hG : CG h g) (hj : j < 4) (hp : ∀ h', FX h h' → CG h' (rfA g j).2 → p (rfA g j).1 h') : mI (Kd sL (d + 1)) 88 [.inr (.inr (.inr 0)), .inl (rc j)] h p := k_refuse hG hj hp
theorem c_layer {b : Int32} (hG : CG h g) (hI : GI g) (hp : ∀ h', FX h h' → CG h' (aLayer g b).2 → p (aLayer g b).1 h') : mI (Kd sL (d + 9)) 52 [.inr (.inr (.inr 0)), .inl b] h p := by
  refine ke_X3_layer ?_
  refine EX.go (Kd_mono _ _) [false, false, false, false, false] 40 0 ?_
  dsimp only [wpc_s, wsl_t, wsl_f, gD_0, gD_s, ↓denB_n, pI_s, pG_s, pU_n, cb_X3_layer_0, cb_X3_layer_1, cb_X3_layer_2, cb_X3_layer_3, cb_X3_layer_4, ↓ev_aload_n_0, ↓ev_getf_3_0, ↓ev_iload_n_1, ↓ev_callv_2_0_1, ↓ev_callv_2_1_1, ↓ev_callv_2_2_1, ↓ev_callv_2_3_1, ↓ev_callv_2_4_1, ↓ev_if_ne, ↓ev_sipush_m1001, ↓ev_iret, ↓ev_getf_0_5, ↓ev_bipush_6, ↓ev_icmp_lt, ↓ev_sipush_m1002, Nat.reduceAdd]
  have hm6 := hG.1.2.2.2.2.2.2.1
  refine k_hasBacking hG.1 ?_
  have e5 : h (.inl (0, 0)) 5 = nI (mn g.1) := hG.1.2.2.2.2.2.1
  rw [e5]
  unfold aLayer at hp
  try simp (disch := omega) only [pk_mul, nI_add, n_lt0, n_le0, n_eq0, n_ge0, n_gt0, n_lt, n_le, n_eq, n_in, n_div, n_rem, n_rem2, n_m1, nI_clamp, bz_0, bz_1, tI_0, tI_bz, n4, n16, eq_self, Nat.reduceLT, Nat.reduceLeDiff, Nat.reduceEqDiff, Nat.reduceAdd, Nat.reduceMul, Nat.reduceDiv, Nat.reduceMod, Nat.le_refl, decide_eq_false_iff_not, Classical.not_not, true_and, and_true, false_and, and_false, not_true_eq_false, not_false_eq_true, forall_const, true_implies, false_implies, implies_true, ne_eq]
  refine ⟨fun c1 => ⟨fun c2 => ?_, fun c2 => ?_⟩, fun c1 => ?_⟩
  · rw [if_pos (by rw [dec_t]; exact c1), if_neg (by omega)] at hp
    exact k_addLayer hG.1 c2 (hI.2.2 _ (Nat.le_refl _) c2) (fun h1 o1 c1' => hp h1 o1.fx (hG.oi0 o1 c1'))
  · rw [if_pos (by rw [dec_t]; exact c1), if_pos (by omega)] at hp
    exact k_rfA (j := 1) hG (by decide) hp
  · rw [if_neg (by rw [dec_t]; exact c1)] at hp
    exact k_rfA (j := 0) hG (by decide) hp
theorem k_rewritingCost {l : Nat} (hG : CG h g) (hl : l < mn g.1) (hp : ∀ h', FX h h' → CG h' g → p (rwc g.1 l) h') : mI (Kd sL (d + 6)) 93 [.inr (.inr (.inr 0)), .inl (nI l)] h p := by
  refine ke_X3_rewritingCost ?_
  refine EX.go (Kd_mono _ _) [false, false, false, false] 40 0 ?_
  dsimp only [wpc_s, wsl_t, wsl_f, gD_0, gD_s, ↓denB_n, pI_s, pG_s, pU_n, cb_X3_rewritingCost_0, cb_X3_rewritingCost_1, cb_X3_rewritingCost_2, cb_X3_rewritingCost_3, ↓ev_aload_n_0, ↓ev_getf_3_0, ↓ev_callv_1_0_2, ↓ev_callv_1_1_2, ↓ev_callv_1_2_2, ↓ev_callv_1_3_2, ↓ev_callv_1_4_2, ↓ev_lconst_0, ↓ev_lcmp, ↓ev_if_ne, ↓ev_getf_3_2, ↓ev_iload_n_1, ↓ev_callv_3_0_1, ↓ev_callv_3_1_1, ↓ev_callv_3_2_1, ↓ev_callv_3_3_1, ↓ev_callv_3_4_1, ↓ev_callv_3_5_1, ↓ev_bipush_64, ↓ev_icmp_ge, ↓ev_iconst_m1, ↓ev_iret, ↓ev_getf_2_6, Nat.reduceAdd]
  refine k_lackSet hG.1 (fun h1 o1 c1 => ?_)
  have hG1 := hG.oi o1 c1
  try simp (disch := omega) only [pk_mul, nI_add, n_lt0, n_le0, n_eq0, n_ge0, n_gt0, n_lt, n_le, n_eq, n_in, n_div, n_rem, n_rem2, n_m1, nI_clamp, bz_0, bz_1, tI_0, tI_bz, n4, n16, eq_self, Nat.reduceLT, Nat.reduceLeDiff, Nat.reduceEqDiff, Nat.reduceAdd, Nat.reduceMul, Nat.reduceDiv, Nat.reduceMod, Nat.le_refl, decide_eq_false_iff_not, Classical.not_not, true_and, and_true, false_and, and_false, not_true_eq_false, not_false_eq_true, forall_const, true_implies, false_implies, implies_true, ne_eq, lg_cmp0, lk_lOr]
  unfold rwc at hp
  refine ⟨fun c2 => ?_, fun c2 => ?_⟩
  · rw [if_pos (by simpa using c2)] at hp
    exact hp h1 o1.fx hG1
  · rw [if_neg (by rw [c2]; decide)] at hp
    refine k_rewriteAll hG1.1 hl (fun n h2 τ hn o2 hj hτ t2 => ?_)
    have hp2 := hp h2 (o1.fx.tr o2.fx) (hG1.ov o2)
    try simp (disch := omega) only [pk_mul, nI_add, n_lt0, n_le0, n_eq0, n_ge0, n_gt0, n_lt, n_le, n_eq, n_in, n_div, n_rem, n_rem2, n_m1, nI_clamp, bz_0, bz_1, tI_0, tI_bz, n4, n16, eq_self, Nat.reduceLT, Nat.reduceLeDiff, Nat.reduceEqDiff, Nat.reduceAdd, Nat.reduceMul, Nat.reduceDiv, Nat.reduceMod, Nat.le_refl, decide_eq_false_iff_not, Classical.not_not, true_and, and_true, false_and, and_false, not_true_eq_false, not_false_eq_true, forall_const, true_implies, false_implies, implies_true, ne_eq]
    rcases hτ with ⟨rfl, rfl⟩ | ⟨hn2, rfl, hk2⟩
    · refine ⟨fun _ => ?_, fun c3 => absurd (Nat.le_refl 64) c3⟩
      rw [if_neg (by rw [dec_t]; exact fun ⟨j, a1, a2⟩ => hj j a1 a2)] at hp2
      rw [t2.2.2.1]
      exact hp2
    · refine ⟨fun c3 => absurd c3 (by omega), fun _ => ?_⟩
      rwa [if_pos (by rw [dec_t]; exact ⟨n + 1, by omega, hk2⟩)] at hp2
theorem c_of {l w : Int32} (hG : CG h g) (hp : ∀ h', FX h h' → CG h' (aOf g l w).2 → p (aOf g l w).1 h') : mI (Kd sL (d + 9)) 53 [.inr (.inr (.inr 0)), .inl l, .inl w] h p := by
  refine ke_X3_of ?_
  refine EX.go (Kd_mono _ _) [false, false, false, false, false, false, false, false] 40 0 ?_
  dsimp only [wpc_s, wsl_t, wsl_f, gD_0, gD_s, ↓denB_n, pI_s, pG_s, pU_n, cb_X3_of_0, cb_X3_of_1, cb_X3_of_2, cb_X3_of_3, cb_X3_of_4, cb_X3_of_5, cb_X3_of_6, cb_X3_of_7, ↓ev_aload_n_0, ↓ev_getf_3_0, ↓ev_iload_n_1, ↓ev_callv_2_0_1, ↓ev_callv_2_1_1, ↓ev_callv_2_2_1, ↓ev_callv_2_3_1, ↓ev_callv_2_4_1, ↓ev_if_ne, ↓ev_sipush_m1001, ↓ev_iret, ↓ev_iload_n_2, ↓ev_tsw_0_4, ↓ev_getf_0_3, ↓ev_iald_m1, ↓ev_iald_m2, ↓ev_iald_m3, ↓ev_iald_m4, ↓ev_iald_m5, ↓ev_iald_m6, ↓ev_iald_o1, ↓ev_iald_o6, Nat.reduceAdd]
  have hm6 := hG.1.2.2.2.2.2.2.1
  refine k_hasLayerD hG.1 ?_
  unfold aOf at hp
  try simp (disch := omega) only [pk_mul, nI_add, n_lt0, n_le0, n_eq0, n_ge0, n_gt0, n_lt, n_le, n_eq, n_in, n_div, n_rem, n_rem2, n_m1, nI_clamp, bz_0, bz_1, tI_0, tI_bz, n4, n16, eq_self, Nat.reduceLT, Nat.reduceLeDiff, Nat.reduceEqDiff, Nat.reduceAdd, Nat.reduceMul, Nat.reduceDiv, Nat.reduceMod, Nat.le_refl, decide_eq_false_iff_not, Classical.not_not, true_and, and_true, false_and, and_false, not_true_eq_false, not_false_eq_true, forall_const, true_implies, false_implies, implies_true, ne_eq, dec_f]
  refine ⟨fun c1 => ?_, fun c1 => ?_⟩
  · obtain ⟨k, hk, rfl⟩ := okL_n c1 hm6
    rw [if_pos (by rw [dec_t]; exact c1), nI_clamp (by omega)] at hp
    have e4 := hG.1.2.2.2.1 k (by omega)
    try simp (disch := omega) only [pk_mul, nI_add, n_lt0, n_le0, n_eq0, n_ge0, n_gt0, n_lt, n_le, n_eq, n_in, n_div, n_rem, n_rem2, n_m1, nI_clamp, bz_0, bz_1, tI_0, tI_bz, n4, n16, eq_self, Nat.reduceLT, Nat.reduceLeDiff, Nat.reduceEqDiff, Nat.reduceAdd, Nat.reduceMul, Nat.reduceDiv, Nat.reduceMod, Nat.le_refl, decide_eq_false_iff_not, Classical.not_not, true_and, and_true, false_and, and_false, not_true_eq_false, not_false_eq_true, forall_const, true_implies, false_implies, implies_true, ne_eq, e4]
    refine ⟨fun c2 => ?_, fun c2 => ⟨fun c3 => ?_, fun c3 => ⟨fun c4 => ?_, fun c4 => ⟨fun c5 => ?_, fun c5 => ?_⟩⟩⟩⟩
    · rw [if_pos c2] at hp
      exact ⟨by omega, hp h FX.rf hG⟩
    · rw [if_neg c2, if_pos c3] at hp
      exact k_ownBlocks hG.1 (by omega) (hp h FX.rf hG)
    · rw [if_neg c2, if_neg c3, if_pos c4] at hp
      exact k_rewritingCost hG hk hp
    · rw [if_neg c2, if_neg c3, if_neg c4, if_pos c5] at hp
      exact k_layersBelow hG.1 (by omega) (hp h FX.rf hG)
    · rw [if_neg c2, if_neg c3, if_neg c4, if_neg c5] at hp
      exact k_rfA (j := 0) hG (by decide) hp
  · rw [if_neg (by rw [dec_t]; exact c1)] at hp
    exact k_rfA (j := 0) hG (by decide) hp
theorem c_read {l pl : Int32} (hG : CG h g) (hp : ∀ h', FX h h' → CG h' (aRead g l pl).2 → p (aRead g l pl).1 h') : mI (Kd sL (d + 9)) 54 [.inr (.inr (.inr 0)), .inl l, .inl pl] h p := by
  refine ke_X3_read ?_
  refine EX.go (Kd_mono _ _) [false, false, false, false] 40 0 ?_
  dsimp only [wpc_s, wsl_t, wsl_f, gD_0, gD_s, ↓denB_n, pI_s, pG_s, pU_n, cb_X3_read_0, cb_X3_read_1, cb_X3_read_2, cb_X3_read_3, ↓ev_aload_n_0, ↓ev_getf_3_0, ↓ev_iload_n_1, ↓ev_callv_2_0_1, ↓ev_callv_2_1_1, ↓ev_callv_2_2_1, ↓ev_callv_2_3_1, ↓ev_callv_2_4_1, ↓ev_if_eq, ↓ev_iload_n_2, ↓ev_calls_1_0_1, ↓ev_calls_1_1_1, ↓ev_calls_1_2_1, ↓ev_calls_1_3_1, ↓ev_calls_1_4_1, ↓ev_if_ne, ↓ev_sipush_m1001, ↓ev_iret, ↓ev_callv_3_0_1, ↓ev_callv_3_1_1, ↓ev_callv_3_2_1, ↓ev_callv_3_3_1, ↓ev_callv_3_4_1, ↓ev_callv_3_5_1, Nat.reduceAdd]
  refine k_hasLayerD hG.1 ?_
  unfold aRead at hp
  try simp (disch := omega) only [pk_mul, nI_add, n_lt0, n_le0, n_eq0, n_ge0, n_gt0, n_lt, n_le, n_eq, n_in, n_div, n_rem, n_rem2, n_m1, nI_clamp, bz_0, bz_1, tI_0, tI_bz, n4, n16, eq_self, Nat.reduceLT, Nat.reduceLeDiff, Nat.reduceEqDiff, Nat.reduceAdd, Nat.reduceMul, Nat.reduceDiv, Nat.reduceMod, Nat.le_refl, decide_eq_false_iff_not, Classical.not_not, true_and, and_true, false_and, and_false, not_true_eq_false, not_false_eq_true, forall_const, true_implies, false_implies, implies_true, ne_eq, dec_f]
  refine ⟨fun c1 => ?_, fun c1 => k_isPlace ?_⟩
  · rw [if_neg (by rw [dec_t]; exact fun z => c1 z.1)] at hp
    exact k_rfA (j := 0) hG (by decide) hp
  · try simp (disch := omega) only [pk_mul, nI_add, n_lt0, n_le0, n_eq0, n_ge0, n_gt0, n_lt, n_le, n_eq, n_in, n_div, n_rem, n_rem2, n_m1, nI_clamp, bz_0, bz_1, tI_0, tI_bz, n4, n16, eq_self, Nat.reduceLT, Nat.reduceLeDiff, Nat.reduceEqDiff, Nat.reduceAdd, Nat.reduceMul, Nat.reduceDiv, Nat.reduceMod, Nat.le_refl, decide_eq_false_iff_not, Classical.not_not, true_and, and_true, false_and, and_false, not_true_eq_false, not_false_eq_true, forall_const, true_implies, false_implies, implies_true, ne_eq, dec_f]
    refine ⟨fun c2 => ?_, fun c2 => ?_⟩
    · rw [if_pos (by rw [dec_t]; exact ⟨c1, c2⟩)] at hp
      obtain ⟨k, hk, rfl⟩ := okN_n c2 (by decide)
      rw [nI_clamp (by omega)] at hp
      exact k_at hG.1 hk (hp h FX.rf hG)
    · rw [if_neg (by rw [dec_t]; exact fun z => c2 z.2)] at hp
      exact k_rfA (j := 0) hG (by decide) hp
theorem c_readOld {s pl : Int32} (hG : CG h g) (hI : GI g) (hp : ∀ h', FX h h' → CG h' (aReadOld g s pl).2 → p (aReadOld g s pl).1 h') : mI (Kd sL (d + 9)) 55 [.inr (.inr (.inr 0)), .inl s, .inl pl] h p := by
  refine ke_X3_readOld ?_
  refine EX.go (Kd_mono _ _) [false, false, false, false] 40 0 ?_
  dsimp only [wpc_s, wsl_t, wsl_f, gD_0, gD_s, ↓denB_n, pI_s, pG_s, pU_n, cb_X3_readOld_0, cb_X3_readOld_1, cb_X3_readOld_2, cb_X3_readOld_3, ↓ev_aload_n_0, ↓ev_getf_3_0, ↓ev_iload_n_1, ↓ev_callv_2_0_1, ↓ev_callv_2_1_1, ↓ev_callv_2_2_1, ↓ev_callv_2_3_1, ↓ev_callv_2_4_1, ↓ev_if_eq, ↓ev_iload_n_2, ↓ev_calls_1_0_1, ↓ev_calls_1_1_1, ↓ev_calls_1_2_1, ↓ev_calls_1_3_1, ↓ev_calls_1_4_1, ↓ev_if_ne, ↓ev_sipush_m1001, ↓ev_iret, ↓ev_callv_3_0_1, ↓ev_callv_3_1_1, ↓ev_callv_3_2_1, ↓ev_callv_3_3_1, ↓ev_callv_3_4_1, ↓ev_callv_3_5_1, Nat.reduceAdd]
  have hm6 := hG.1.2.2.2.2.2.2.1
  refine k_hasSnapD hG.1 ?_
  unfold aReadOld at hp
  try simp (disch := omega) only [pk_mul, nI_add, n_lt0, n_le0, n_eq0, n_ge0, n_gt0, n_lt, n_le, n_eq, n_in, n_div, n_rem, n_rem2, n_m1, nI_clamp, bz_0, bz_1, tI_0, tI_bz, n4, n16, eq_self, Nat.reduceLT, Nat.reduceLeDiff, Nat.reduceEqDiff, Nat.reduceAdd, Nat.reduceMul, Nat.reduceDiv, Nat.reduceMod, Nat.le_refl, decide_eq_false_iff_not, Classical.not_not, true_and, and_true, false_and, and_false, not_true_eq_false, not_false_eq_true, forall_const, true_implies, false_implies, implies_true, ne_eq, dec_f]
  refine ⟨fun c1 => ?_, fun c1 => k_isPlace ?_⟩
  · rw [if_neg (by rw [dec_t]; exact fun z => c1 z.1)] at hp
    exact k_rfA (j := 0) hG (by decide) hp
  · try simp (disch := omega) only [pk_mul, nI_add, n_lt0, n_le0, n_eq0, n_ge0, n_gt0, n_lt, n_le, n_eq, n_in, n_div, n_rem, n_rem2, n_m1, nI_clamp, bz_0, bz_1, tI_0, tI_bz, n4, n16, eq_self, Nat.reduceLT, Nat.reduceLeDiff, Nat.reduceEqDiff, Nat.reduceAdd, Nat.reduceMul, Nat.reduceDiv, Nat.reduceMod, Nat.le_refl, decide_eq_false_iff_not, Classical.not_not, true_and, and_true, false_and, and_false, not_true_eq_false, not_false_eq_true, forall_const, true_implies, false_implies, implies_true, ne_eq, dec_f]
    refine ⟨fun c2 => ?_, fun c2 => ?_⟩
    · rw [if_pos (by rw [dec_t]; exact ⟨c1, c2⟩)] at hp
      obtain ⟨k, hk, rfl⟩ := okN_n c2 (by decide)
      obtain ⟨s1, hs1, rfl⟩ := okN_n c1.1 (by decide)
      rw [nI_clamp (by omega), nI_clamp (by omega)] at hp
      have c3 := c1.2
      rw [nI_clamp (by omega)] at c3
      obtain ⟨l, hl, el⟩ := (hI.1.1 s1 hs1).resolve_left c3
      have hp2 := hp h FX.rf hG
      unfold rdo at hp2
      rw [el, nI_clamp (by omega)] at hp2
      exact k_atOld hG.1 hs1 hk el hl hp2
    · rw [if_neg (by rw [dec_t]; exact fun z => c2 z.2)] at hp
      exact k_rfA (j := 0) hG (by decide) hp
theorem c_unlike {x y : Int32} (hG : CG h g) (hp : ∀ h', FX h h' → CG h' (aUnlike g x y).2 → p (aUnlike g x y).1 h') : mI (Kd sL (d + 9)) 56 [.inr (.inr (.inr 0)), .inl x, .inl y] h p := by
  refine ke_X3_unlike ?_
  refine EX.go (Kd_mono _ _) [false, false, false, false, true, false, false, false, false] 40 0 ?_
  dsimp only [wpc_s, wsl_t, wsl_f, gD_0, gD_s, ↓denB_n, pI_s, pG_s, pU_n, cb_X3_unlike_0, cb_X3_unlike_1, cb_X3_unlike_2, cb_X3_unlike_3, cb_X3_unlike_4, cb_X3_unlike_5, cb_X3_unlike_6, cb_X3_unlike_7, cb_X3_unlike_8, ↓ev_aload_n_0, ↓ev_getf_3_0, ↓ev_iload_n_1, ↓ev_callv_2_0_1, ↓ev_callv_2_1_1, ↓ev_callv_2_2_1, ↓ev_callv_2_3_1, ↓ev_callv_2_4_1, ↓ev_if_eq, ↓ev_iload_n_2, ↓ev_if_ne, ↓ev_sipush_m1001, ↓ev_iret, ↓ev_iconst_0, ↓ev_istore_n_3, ↓ev_iload_n_3, ↓ev_bipush_64, ↓ev_icmp_ge, ↓ev_callv_3_0_1, ↓ev_callv_3_1_1, ↓ev_callv_3_2_1, ↓ev_callv_3_3_1, ↓ev_callv_3_4_1, ↓ev_callv_3_5_1, ↓ev_icmp_eq, ↓ev_iinc_3_1, ↓ev_goto, ↓ev_iconst_m1, Nat.reduceAdd]
  unfold aUnlike at hp
  refine k_hasLayerD hG.1 ?_
  try simp (disch := omega) only [pk_mul, nI_add, n_lt0, n_le0, n_eq0, n_ge0, n_gt0, n_lt, n_le, n_eq, n_in, n_div, n_rem, n_rem2, n_m1, nI_clamp, bz_0, bz_1, tI_0, tI_bz, n4, n16, eq_self, Nat.reduceLT, Nat.reduceLeDiff, Nat.reduceEqDiff, Nat.reduceAdd, Nat.reduceMul, Nat.reduceDiv, Nat.reduceMod, Nat.le_refl, decide_eq_false_iff_not, Classical.not_not, true_and, and_true, false_and, and_false, not_true_eq_false, not_false_eq_true, forall_const, true_implies, false_implies, implies_true, ne_eq, dec_f]
  refine ⟨fun c1 => ?_, fun c1 => k_hasLayerD hG.1 ?_⟩
  · rw [if_neg (by rw [dec_t]; exact fun z => c1 z.1)] at hp
    exact k_rfA (j := 0) hG (by decide) hp
  · try simp (disch := omega) only [pk_mul, nI_add, n_lt0, n_le0, n_eq0, n_ge0, n_gt0, n_lt, n_le, n_eq, n_in, n_div, n_rem, n_rem2, n_m1, nI_clamp, bz_0, bz_1, tI_0, tI_bz, n4, n16, eq_self, Nat.reduceLT, Nat.reduceLeDiff, Nat.reduceEqDiff, Nat.reduceAdd, Nat.reduceMul, Nat.reduceDiv, Nat.reduceMod, Nat.le_refl, decide_eq_false_iff_not, Classical.not_not, true_and, and_true, false_and, and_false, not_true_eq_false, not_false_eq_true, forall_const, true_implies, false_implies, implies_true, ne_eq, dec_f]
    refine ⟨fun c2 => ?_, fun c2 => ?_⟩
    · rw [if_pos (by rw [dec_t]; exact ⟨c1, c2⟩)] at hp
      have hp := hp h FX.rf hG
      dsimp only at hp
      suffices H : ∀ (f k : Nat), k + f = 64 → p (unF g.1 x y f k) h → EX (Kd sL (d + 8)) sL md_X3_unlike (pI p) 4 [some (.inr (.inr (.inr 0))), some (.inl x), some (.inl y), some (.inl (nI k))] [] h from H 64 0 rfl hp
      intro f
      induction f with
      | zero =>
        intro k hk he
        refine EX.go (Kd_mono _ _) [false, false, false, false, true, false, false, false, false] 40 4 ?_
        dsimp only [wpc_s, wsl_t, wsl_f, gD_0, gD_s, ↓denB_n, pI_s, pG_s, pU_n, cb_X3_unlike_0, cb_X3_unlike_1, cb_X3_unlike_2, cb_X3_unlike_3, cb_X3_unlike_4, cb_X3_unlike_5, cb_X3_unlike_6, cb_X3_unlike_7, cb_X3_unlike_8, ↓ev_aload_n_0, ↓ev_getf_3_0, ↓ev_iload_n_1, ↓ev_callv_2_0_1, ↓ev_callv_2_1_1, ↓ev_callv_2_2_1, ↓ev_callv_2_3_1, ↓ev_callv_2_4_1, ↓ev_if_eq, ↓ev_iload_n_2, ↓ev_if_ne, ↓ev_sipush_m1001, ↓ev_iret, ↓ev_iconst_0, ↓ev_istore_n_3, ↓ev_iload_n_3, ↓ev_bipush_64, ↓ev_icmp_ge, ↓ev_callv_3_0_1, ↓ev_callv_3_1_1, ↓ev_callv_3_2_1, ↓ev_callv_3_3_1, ↓ev_callv_3_4_1, ↓ev_callv_3_5_1, ↓ev_icmp_eq, ↓ev_iinc_3_1, ↓ev_goto, ↓ev_iconst_m1, Nat.reduceAdd]
        try simp (disch := omega) only [pk_mul, nI_add, n_lt0, n_le0, n_eq0, n_ge0, n_gt0, n_lt, n_le, n_eq, n_in, n_div, n_rem, n_rem2, n_m1, nI_clamp, bz_0, bz_1, tI_0, tI_bz, n4, n16, eq_self, Nat.reduceLT, Nat.reduceLeDiff, Nat.reduceEqDiff, Nat.reduceAdd, Nat.reduceMul, Nat.reduceDiv, Nat.reduceMod, Nat.le_refl, decide_eq_false_iff_not, Classical.not_not, true_and, and_true, false_and, and_false, not_true_eq_false, not_false_eq_true, forall_const, true_implies, false_implies, implies_true, ne_eq]
        exact ⟨fun _ => he, fun c => absurd (show 64 ≤ k by omega) c⟩
      | succ f ih =>
        intro k hk he
        refine EX.go (Kd_mono _ _) [false, false, false, false, true, false, false, false, false] 40 4 ?_
        dsimp only [wpc_s, wsl_t, wsl_f, gD_0, gD_s, ↓denB_n, pI_s, pG_s, pU_n, cb_X3_unlike_0, cb_X3_unlike_1, cb_X3_unlike_2, cb_X3_unlike_3, cb_X3_unlike_4, cb_X3_unlike_5, cb_X3_unlike_6, cb_X3_unlike_7, cb_X3_unlike_8, ↓ev_aload_n_0, ↓ev_getf_3_0, ↓ev_iload_n_1, ↓ev_callv_2_0_1, ↓ev_callv_2_1_1, ↓ev_callv_2_2_1, ↓ev_callv_2_3_1, ↓ev_callv_2_4_1, ↓ev_if_eq, ↓ev_iload_n_2, ↓ev_if_ne, ↓ev_sipush_m1001, ↓ev_iret, ↓ev_iconst_0, ↓ev_istore_n_3, ↓ev_iload_n_3, ↓ev_bipush_64, ↓ev_icmp_ge, ↓ev_callv_3_0_1, ↓ev_callv_3_1_1, ↓ev_callv_3_2_1, ↓ev_callv_3_3_1, ↓ev_callv_3_4_1, ↓ev_callv_3_5_1, ↓ev_icmp_eq, ↓ev_iinc_3_1, ↓ev_goto, ↓ev_iconst_m1, Nat.reduceAdd]
        try simp (disch := omega) only [pk_mul, nI_add, n_lt0, n_le0, n_eq0, n_ge0, n_gt0, n_lt, n_le, n_eq, n_in, n_div, n_rem, n_rem2, n_m1, nI_clamp, bz_0, bz_1, tI_0, tI_bz, n4, n16, eq_self, Nat.reduceLT, Nat.reduceLeDiff, Nat.reduceEqDiff, Nat.reduceAdd, Nat.reduceMul, Nat.reduceDiv, Nat.reduceMod, Nat.le_refl, decide_eq_false_iff_not, Classical.not_not, true_and, and_true, false_and, and_false, not_true_eq_false, not_false_eq_true, forall_const, true_implies, false_implies, implies_true, ne_eq]
        refine ⟨fun c => absurd c (by omega), fun _ => ?_⟩
        refine k_at hG.1 (by omega) ?_
        refine k_at hG.1 (by omega) ?_
        rw [unF] at he
        refine ⟨fun c => ?_, fun c => ?_⟩
        · rw [if_pos c] at he
          exact ih (k + 1) (by omega) he
        · rw [if_neg c] at he
          exact he
    · rw [if_neg (by rw [dec_t]; exact fun z => c2 z.2)] at hp
      exact k_rfA (j := 0) hG (by decide) hp
theorem c_sum {x : Int32} (hG : CG h g) (hp : ∀ h', FX h h' → CG h' (aSum g x).2 → p (aSum g x).1 h') : mI (Kd sL (d + 9)) 57 [.inr (.inr (.inr 0)), .inl x] h p := by
  refine ke_X3_sum ?_
  refine EX.go (Kd_mono _ _) [false, false, false, true, false, false] 40 0 ?_
  dsimp only [wpc_s, wsl_t, wsl_f, gD_0, gD_s, ↓denB_n, pI_s, pG_s, pU_n, cb_X3_sum_0, cb_X3_sum_1, cb_X3_sum_2, cb_X3_sum_3, cb_X3_sum_4, cb_X3_sum_5, ↓ev_aload_n_0, ↓ev_getf_3_0, ↓ev_iload_n_1, ↓ev_callv_2_0_1, ↓ev_callv_2_1_1, ↓ev_callv_2_2_1, ↓ev_callv_2_3_1, ↓ev_callv_2_4_1, ↓ev_if_ne, ↓ev_sipush_m1001, ↓ev_iret, ↓ev_iconst_1, ↓ev_istore_n_2, ↓ev_iconst_0, ↓ev_istore_n_3, ↓ev_iload_n_3, ↓ev_bipush_64, ↓ev_icmp_ge, ↓ev_bipush_31, ↓ev_iload_n_2, ↓ev_imul, ↓ev_callv_3_0_1, ↓ev_callv_3_1_1, ↓ev_callv_3_2_1, ↓ev_callv_3_3_1, ↓ev_callv_3_4_1, ↓ev_callv_3_5_1, ↓ev_iadd, ↓ev_iinc_3_1, ↓ev_goto, Nat.reduceAdd]
  unfold aSum at hp
  refine k_hasLayerD hG.1 ?_
  try simp (disch := omega) only [pk_mul, nI_add, n_lt0, n_le0, n_eq0, n_ge0, n_gt0, n_lt, n_le, n_eq, n_in, n_div, n_rem, n_rem2, n_m1, nI_clamp, bz_0, bz_1, tI_0, tI_bz, n4, n16, eq_self, Nat.reduceLT, Nat.reduceLeDiff, Nat.reduceEqDiff, Nat.reduceAdd, Nat.reduceMul, Nat.reduceDiv, Nat.reduceMod, Nat.le_refl, decide_eq_false_iff_not, Classical.not_not, true_and, and_true, false_and, and_false, not_true_eq_false, not_false_eq_true, forall_const, true_implies, false_implies, implies_true, ne_eq, dec_f]
  refine ⟨fun c1 => ?_, fun c1 => ?_⟩
  · rw [if_pos (by rw [dec_t]; exact c1)] at hp
    have hp := hp h FX.rf hG
    dsimp only at hp
    suffices H : ∀ (f k : Nat), k + f = 64 → EX (Kd sL (d + 8)) sL md_X3_sum (pI p) 3 [some (.inr (.inr (.inr 0))), some (.inl x), some (.inl (smF g.1 x k)), some (.inl (nI k))] [] h from H 64 0 rfl
    intro f
    induction f with
    | zero =>
      intro k hk
      refine EX.go (Kd_mono _ _) [false, false, false, true, false, false] 40 3 ?_
      dsimp only [wpc_s, wsl_t, wsl_f, gD_0, gD_s, ↓denB_n, pI_s, pG_s, pU_n, cb_X3_sum_0, cb_X3_sum_1, cb_X3_sum_2, cb_X3_sum_3, cb_X3_sum_4, cb_X3_sum_5, ↓ev_aload_n_0, ↓ev_getf_3_0, ↓ev_iload_n_1, ↓ev_callv_2_0_1, ↓ev_callv_2_1_1, ↓ev_callv_2_2_1, ↓ev_callv_2_3_1, ↓ev_callv_2_4_1, ↓ev_if_ne, ↓ev_sipush_m1001, ↓ev_iret, ↓ev_iconst_1, ↓ev_istore_n_2, ↓ev_iconst_0, ↓ev_istore_n_3, ↓ev_iload_n_3, ↓ev_bipush_64, ↓ev_icmp_ge, ↓ev_bipush_31, ↓ev_iload_n_2, ↓ev_imul, ↓ev_callv_3_0_1, ↓ev_callv_3_1_1, ↓ev_callv_3_2_1, ↓ev_callv_3_3_1, ↓ev_callv_3_4_1, ↓ev_callv_3_5_1, ↓ev_iadd, ↓ev_iinc_3_1, ↓ev_goto, Nat.reduceAdd]
      try simp (disch := omega) only [pk_mul, nI_add, n_lt0, n_le0, n_eq0, n_ge0, n_gt0, n_lt, n_le, n_eq, n_in, n_div, n_rem, n_rem2, n_m1, nI_clamp, bz_0, bz_1, tI_0, tI_bz, n4, n16, eq_self, Nat.reduceLT, Nat.reduceLeDiff, Nat.reduceEqDiff, Nat.reduceAdd, Nat.reduceMul, Nat.reduceDiv, Nat.reduceMod, Nat.le_refl, decide_eq_false_iff_not, Classical.not_not, true_and, and_true, false_and, and_false, not_true_eq_false, not_false_eq_true, forall_const, true_implies, false_implies, implies_true, ne_eq]
      rw [show k = 64 by omega]
      exact ⟨fun _ => hp, fun c => absurd (Nat.le_refl 64) c⟩
    | succ f ih =>
      intro k hk
      refine EX.go (Kd_mono _ _) [false, false, false, true, false, false] 40 3 ?_
      dsimp only [wpc_s, wsl_t, wsl_f, gD_0, gD_s, ↓denB_n, pI_s, pG_s, pU_n, cb_X3_sum_0, cb_X3_sum_1, cb_X3_sum_2, cb_X3_sum_3, cb_X3_sum_4, cb_X3_sum_5, ↓ev_aload_n_0, ↓ev_getf_3_0, ↓ev_iload_n_1, ↓ev_callv_2_0_1, ↓ev_callv_2_1_1, ↓ev_callv_2_2_1, ↓ev_callv_2_3_1, ↓ev_callv_2_4_1, ↓ev_if_ne, ↓ev_sipush_m1001, ↓ev_iret, ↓ev_iconst_1, ↓ev_istore_n_2, ↓ev_iconst_0, ↓ev_istore_n_3, ↓ev_iload_n_3, ↓ev_bipush_64, ↓ev_icmp_ge, ↓ev_bipush_31, ↓ev_iload_n_2, ↓ev_imul, ↓ev_callv_3_0_1, ↓ev_callv_3_1_1, ↓ev_callv_3_2_1, ↓ev_callv_3_3_1, ↓ev_callv_3_4_1, ↓ev_callv_3_5_1, ↓ev_iadd, ↓ev_iinc_3_1, ↓ev_goto, Nat.reduceAdd]
      try simp (disch := omega) only [pk_mul, nI_add, n_lt0, n_le0, n_eq0, n_ge0, n_gt0, n_lt, n_le, n_eq, n_in, n_div, n_rem, n_rem2, n_m1, nI_clamp, bz_0, bz_1, tI_0, tI_bz, n4, n16, eq_self, Nat.reduceLT, Nat.reduceLeDiff, Nat.reduceEqDiff, Nat.reduceAdd, Nat.reduceMul, Nat.reduceDiv, Nat.reduceMod, Nat.le_refl, decide_eq_false_iff_not, Classical.not_not, true_and, and_true, false_and, and_false, not_true_eq_false, not_false_eq_true, forall_const, true_implies, false_implies, implies_true, ne_eq]
      refine ⟨fun c => absurd c (by omega), fun _ => ?_⟩
      refine k_at hG.1 (by omega) ?_
      exact ih (k + 1) (by omega)
  · rw [if_neg (by rw [dec_t]; exact c1)] at hp
    exact k_rfA (j := 0) hG (by decide) hp
theorem c_tear {n : Int32} (hG : CG h g) (hp : ∀ h', FX h h' → CG h' (aTear g n).2 → p (aTear g n).1 h') : mI (Kd sL (d + 9)) 66 [.inr (.inr (.inr 0)), .inl n] h p := by
  refine ke_X3_tear ?_
  refine EX.go (Kd_mono _ _) [false, false, false, false] 40 0 ?_
  dsimp only [wpc_s, wsl_t, wsl_f, gD_0, gD_s, ↓denB_n, pI_s, pG_s, pU_n, cb_X3_tear_0, cb_X3_tear_1, cb_X3_tear_2, cb_X3_tear_3, ↓ev_iload_n_1, ↓ev_iconst_m1, ↓ev_icmp_lt, ↓ev_sipush_999, ↓ev_icmp_le, ↓ev_aload_n_0, ↓ev_sipush_m1001, ↓ev_callv_2_0_1, ↓ev_callv_2_1_1, ↓ev_callv_2_2_1, ↓ev_callv_2_3_1, ↓ev_callv_2_4_1, ↓ev_iret, ↓ev_getf_3_0, ↓ev_getf_0_6, ↓ev_istore_n_2, ↓ev_putf_0_6, ↓ev_iload_n_2, Nat.reduceAdd]
  unfold aTear at hp
  have e6 : h (.inl (0, 0)) 6 = g.1 399 := hG.1.2.2.2.2.2.2.2
  rw [e6]
  refine ⟨fun c1 => ?_, fun c1 => ⟨fun c2 => ?_, fun c2 => ?_⟩⟩
  · rw [if_neg (by rw [dec_t]; exact fun z => z.1 c1)] at hp
    exact k_rfA (j := 0) hG (by decide) hp
  · rw [if_pos (by rw [dec_t]; exact ⟨c1, c2⟩)] at hp
    exact hp _ (Oi.up (i := 0)).fx (hG.oi0 Oi.up (hG.1.tear n))
  · rw [if_neg (by rw [dec_t]; exact fun z => c2 z.2)] at hp
    exact k_rfA (j := 0) hG (by decide) hp
end PB2
