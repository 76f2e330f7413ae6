/-! ===== the reference: who holds what ===== -/
section RHOLD
variable {sL d L B : Nat} {h : mH} {g : Gs} {S : St} {p : Int32 → mH → Prop}
theorem hld_ab {x c : Nat} (hq : prs S x = false) : ¬ hld S x c := by
  have hT : ∀ t, ¬ isT S x (x + 1) t := by
    rintro t ⟨h0, d, k, h1, h2, h3, h4⟩
    have : d = x := by omega
    subst this
    rw [tb_ab hq] at h4
    exact h0 h4.symm
  rintro (z | ⟨-, t, k, -, -, -, z, -⟩)
  · exact hT c z
  · rw [dec_t] at z
    exact hT t z
theorem r_heldBy {dd : Nat} {p : Int64 → mH → Prop} (hS : RS h S) (hw : WF S) (hd : dd < 14) (hq : prs S dd = true) (hp : p (lOr (fun c => dec (hld S dd c)) 64) h) : mG (Kd sL (d + 2)) 163 [.inr (.inr (.inr 7)), .inl (nI dd)] h p := by
  refine ke_X4_heldBy ?_
  refine EX.go (Kd_mono _ _) [false, true, false, false, false, true, false, false, false] 40 0 ?_
  dsimp only [wpc_s, wsl_t, wsl_f, gD_0, gD_s, ↓denB_n, pI_s, pG_s, pU_n, cb_X4_heldBy_0, cb_X4_heldBy_1, cb_X4_heldBy_2, cb_X4_heldBy_3, cb_X4_heldBy_4, cb_X4_heldBy_5, cb_X4_heldBy_6, cb_X4_heldBy_7, cb_X4_heldBy_8, ↓ev_lconst_0, ↓ev_lstore_n_2, ↓ev_iconst_0, ↓ev_istore_4, ↓ev_iload_4, ↓ev_iconst_4, ↓ev_icmp_ge, ↓ev_aload_n_0, ↓ev_getf_4_0, ↓ev_iload_n_1, ↓ev_calls_2_0_1, ↓ev_calls_2_1_1, ↓ev_calls_2_2_1, ↓ev_calls_2_3_1, ↓ev_calls_2_4_1, ↓ev_iald_o8, ↓ev_iald_o9, ↓ev_iald_o10, ↓ev_iald_o11, ↓ev_iald_o12, ↓ev_iald_o13, ↓ev_iald_o14, ↓ev_iald_o15, ↓ev_iald_o16, ↓ev_istore_5, ↓ev_iload_5, ↓ev_if_ne, ↓ev_goto, ↓ev_lload_n_2, ↓ev_lconst_1, ↓ev_lshl, ↓ev_lor, ↓ev_istore_6, ↓ev_iload_6, ↓ev_bipush_64, ↓ev_imul, ↓ev_iadd, ↓ev_iinc_6_1, ↓ev_iinc_4_1, ↓ev_ldc2_18446744073709551614, ↓ev_land, ↓ev_lret, Nat.reduceAdd]
  suffices H : ∀ (f k : Nat) (x : Int64) (x5 x6 : Option mV), k + f = 4 → (∀ c, c < 64 → tbit x c = dec (∃ j, j < k ∧ ¬ tb S dd j = 0 ∧ (tb S dd j = c ∨ ∃ i, i < 4 ∧ dt S (tb S dd j) i = c))) → EX (Kd sL (d + 1)) sL md_X4_heldBy (pG p) 1 [some (.inr (.inr (.inr 7))), some (.inl (nI dd)), some (.inr (.inl x)), none, some (.inl (nI k)), x5, x6] [] h by
    refine H 4 0 (lN 0) _ _ rfl (fun c _ => ?_)
    rw [tbit_0]
    exact (dec_f.mpr (fun ⟨j, z, _⟩ => absurd z (Nat.not_lt_zero j))).symm
  intro f
  induction f with
  | zero =>
    intro k x x5 x6 hk hx
    refine EX.go (Kd_mono _ _) [false, true, false, false, false, true, false, false, false] 40 1 ?_
    dsimp only [wpc_s, wsl_t, wsl_f, gD_0, gD_s, ↓denB_n, pI_s, pG_s, pU_n, cb_X4_heldBy_0, cb_X4_heldBy_1, cb_X4_heldBy_2, cb_X4_heldBy_3, cb_X4_heldBy_4, cb_X4_heldBy_5, cb_X4_heldBy_6, cb_X4_heldBy_7, cb_X4_heldBy_8, ↓ev_lconst_0, ↓ev_lstore_n_2, ↓ev_iconst_0, ↓ev_istore_4, ↓ev_iload_4, ↓ev_iconst_4, ↓ev_icmp_ge, ↓ev_aload_n_0, ↓ev_getf_4_0, ↓ev_iload_n_1, ↓ev_calls_2_0_1, ↓ev_calls_2_1_1, ↓ev_calls_2_2_1, ↓ev_calls_2_3_1, ↓ev_calls_2_4_1, ↓ev_iald_o8, ↓ev_iald_o9, ↓ev_iald_o10, ↓ev_iald_o11, ↓ev_iald_o12, ↓ev_iald_o13, ↓ev_iald_o14, ↓ev_iald_o15, ↓ev_iald_o16, ↓ev_istore_5, ↓ev_iload_5, ↓ev_if_ne, ↓ev_goto, ↓ev_lload_n_2, ↓ev_lconst_1, ↓ev_lshl, ↓ev_lor, ↓ev_istore_6, ↓ev_iload_6, ↓ev_bipush_64, ↓ev_imul, ↓ev_iadd, ↓ev_iinc_6_1, ↓ev_iinc_4_1, ↓ev_ldc2_18446744073709551614, ↓ev_land, ↓ev_lret, Nat.reduceAdd]
    try simp (disch := omega) only [pk_mul, nI_add, n_lt0, n_le0, n_eq0, n_ge0, n_gt0, n_lt, n_le, n_eq, n_in, n_div, n_rem, n_rem2, n_m1, nI_clamp, bz_0, bz_1, tI_0, tI_bz, n4, n16, eq_self, Nat.reduceLT, Nat.reduceLeDiff, Nat.reduceEqDiff, Nat.reduceAdd, Nat.reduceMul, Nat.reduceDiv, Nat.reduceMod, Nat.le_refl, decide_eq_false_iff_not, Classical.not_not, true_and, and_true, false_and, and_false, not_true_eq_false, not_false_eq_true, forall_const, true_implies, false_implies, implies_true, ne_eq]
    refine ⟨fun _ => ?_, fun c => absurd (show 4 ≤ k by omega) c⟩
    rw [show x &&& lN 18446744073709551614 = lOr (fun c => dec (hld S dd c)) 64 from lOr_eq (fun c hc => ?_)]
    · exact hp
    · rw [tbit_and, hx c hc, tbit_m2 c hc, dec_dec, dec_and]
      apply dec_iff
      have hk4 : k = 4 := by omega
      subst hk4
      constructor
      · rintro ⟨⟨j, hj, h0, z⟩, hc0⟩
        have hT : isT S dd (dd + 1) (tb S dd j) := ⟨h0, dd, j, Nat.le_refl _, by omega, hj, rfl⟩
        rcases z with rfl | ⟨i, hi, rfl⟩
        · exact Or.inl hT
        · exact Or.inr ⟨hc0, tb S dd j, i, by omega, tb_lt _ _ _, hi, dec_t.mpr hT, rfl⟩
      · rintro (⟨h0, d', j, h1, h2, h3, h4⟩ | ⟨h0, t, i, h1, h2, h3, h4, h5⟩)
        · have : d' = dd := by omega
          subst this
          exact ⟨⟨j, h3, by rw [h4]; exact h0, Or.inl h4⟩, h0⟩
        · rw [dec_t] at h4
          obtain ⟨g0, d', j, g1, g2, g3, g4⟩ := h4
          have : d' = dd := by omega
          subst this
          exact ⟨⟨j, g3, by rw [g4]; exact g0, Or.inr ⟨i, h3, by rw [g4]; exact h5⟩⟩, h0⟩
  | succ f ih =>
    intro k x x5 x6 hk hx
    refine EX.go (Kd_mono _ _) [false, true, false, false, false, true, false, false, false] 40 1 ?_
    dsimp only [wpc_s, wsl_t, wsl_f, gD_0, gD_s, ↓denB_n, pI_s, pG_s, pU_n, cb_X4_heldBy_0, cb_X4_heldBy_1, cb_X4_heldBy_2, cb_X4_heldBy_3, cb_X4_heldBy_4, cb_X4_heldBy_5, cb_X4_heldBy_6, cb_X4_heldBy_7, cb_X4_heldBy_8, ↓ev_lconst_0, ↓ev_lstore_n_2, ↓ev_iconst_0, ↓ev_istore_4, ↓ev_iload_4, ↓ev_iconst_4, ↓ev_icmp_ge, ↓ev_aload_n_0, ↓ev_getf_4_0, ↓ev_iload_n_1, ↓ev_calls_2_0_1, ↓ev_calls_2_1_1, ↓ev_calls_2_2_1, ↓ev_calls_2_3_1, ↓ev_calls_2_4_1, ↓ev_iald_o8, ↓ev_iald_o9, ↓ev_iald_o10, ↓ev_iald_o11, ↓ev_iald_o12, ↓ev_iald_o13, ↓ev_iald_o14, ↓ev_iald_o15, ↓ev_iald_o16, ↓ev_istore_5, ↓ev_iload_5, ↓ev_if_ne, ↓ev_goto, ↓ev_lload_n_2, ↓ev_lconst_1, ↓ev_lshl, ↓ev_lor, ↓ev_istore_6, ↓ev_iload_6, ↓ev_bipush_64, ↓ev_imul, ↓ev_iadd, ↓ev_iinc_6_1, ↓ev_iinc_4_1, ↓ev_ldc2_18446744073709551614, ↓ev_land, ↓ev_lret, Nat.reduceAdd]
    try simp (disch := omega) only [pk_mul, nI_add, n_lt0, n_le0, n_eq0, n_ge0, n_gt0, n_lt, n_le, n_eq, n_in, n_div, n_rem, n_rem2, n_m1, nI_clamp, bz_0, bz_1, tI_0, tI_bz, n4, n16, eq_self, Nat.reduceLT, Nat.reduceLeDiff, Nat.reduceEqDiff, Nat.reduceAdd, Nat.reduceMul, Nat.reduceDiv, Nat.reduceMod, Nat.le_refl, decide_eq_false_iff_not, Classical.not_not, true_and, and_true, false_and, and_false, not_true_eq_false, not_false_eq_true, forall_const, true_implies, false_implies, implies_true, ne_eq]
    refine ⟨fun c => absurd c (by omega), fun _ => ?_⟩
    refine r_dir ?_
    have hl := tb_lt S dd k
    have e : h (.inr 8) (327 + 4 * dd + k) = nI (tb S dd k) := by rw [hS _ (by omega), hw.dr hd (by omega) hq]
    try simp (disch := omega) only [pk_mul, nI_add, n_lt0, n_le0, n_eq0, n_ge0, n_gt0, n_lt, n_le, n_eq, n_in, n_div, n_rem, n_rem2, n_m1, nI_clamp, bz_0, bz_1, tI_0, tI_bz, n4, n16, eq_self, Nat.reduceLT, Nat.reduceLeDiff, Nat.reduceEqDiff, Nat.reduceAdd, Nat.reduceMul, Nat.reduceDiv, Nat.reduceMod, Nat.le_refl, decide_eq_false_iff_not, Classical.not_not, true_and, and_true, false_and, and_false, not_true_eq_false, not_false_eq_true, forall_const, true_implies, false_implies, implies_true, ne_eq, e]
    refine ⟨by omega, fun c => ?_, fun c => ?_⟩
    · suffices H2 : ∀ (f2 k2 : Nat) (x : Int64), k2 + f2 = 4 → (∀ c, c < 64 → tbit x c = dec ((∃ j, j < k ∧ ¬ tb S dd j = 0 ∧ (tb S dd j = c ∨ ∃ i, i < 4 ∧ dt S (tb S dd j) i = c)) ∨ tb S dd k = c ∨ ∃ i, i < k2 ∧ dt S (tb S dd k) i = c)) → EX (Kd sL (d + 1)) sL md_X4_heldBy (pG p) 5 [some (.inr (.inr (.inr 7))), some (.inl (nI dd)), some (.inr (.inl x)), none, some (.inl (nI k)), some (.inl (nI (tb S dd k))), some (.inl (nI k2))] [] h by
        refine H2 4 0 _ rfl (fun c hc => ?_)
        rw [tbit_or, hx c hc, tbit_shl hl, dec_dec, dec_or]
        apply dec_iff
        constructor
        · rintro (z | z)
          · exact Or.inl z
          · exact Or.inr (Or.inl z.symm)
        · rintro (z | z | ⟨i, hi, -⟩)
          · exact Or.inl z
          · exact Or.inr z.symm
          · exact absurd hi (Nat.not_lt_zero i)
      intro f2
      induction f2 with
      | zero =>
        intro k2 x hk2 hx
        refine EX.go (Kd_mono _ _) [false, true, false, false, false, true, false, false, false] 40 5 ?_
        dsimp only [wpc_s, wsl_t, wsl_f, gD_0, gD_s, ↓denB_n, pI_s, pG_s, pU_n, cb_X4_heldBy_0, cb_X4_heldBy_1, cb_X4_heldBy_2, cb_X4_heldBy_3, cb_X4_heldBy_4, cb_X4_heldBy_5, cb_X4_heldBy_6, cb_X4_heldBy_7, cb_X4_heldBy_8, ↓ev_lconst_0, ↓ev_lstore_n_2, ↓ev_iconst_0, ↓ev_istore_4, ↓ev_iload_4, ↓ev_iconst_4, ↓ev_icmp_ge, ↓ev_aload_n_0, ↓ev_getf_4_0, ↓ev_iload_n_1, ↓ev_calls_2_0_1, ↓ev_calls_2_1_1, ↓ev_calls_2_2_1, ↓ev_calls_2_3_1, ↓ev_calls_2_4_1, ↓ev_iald_o8, ↓ev_iald_o9, ↓ev_iald_o10, ↓ev_iald_o11, ↓ev_iald_o12, ↓ev_iald_o13, ↓ev_iald_o14, ↓ev_iald_o15, ↓ev_iald_o16, ↓ev_istore_5, ↓ev_iload_5, ↓ev_if_ne, ↓ev_goto, ↓ev_lload_n_2, ↓ev_lconst_1, ↓ev_lshl, ↓ev_lor, ↓ev_istore_6, ↓ev_iload_6, ↓ev_bipush_64, ↓ev_imul, ↓ev_iadd, ↓ev_iinc_6_1, ↓ev_iinc_4_1, ↓ev_ldc2_18446744073709551614, ↓ev_land, ↓ev_lret, Nat.reduceAdd]
        try simp (disch := omega) only [pk_mul, nI_add, n_lt0, n_le0, n_eq0, n_ge0, n_gt0, n_lt, n_le, n_eq, n_in, n_div, n_rem, n_rem2, n_m1, nI_clamp, bz_0, bz_1, tI_0, tI_bz, n4, n16, eq_self, Nat.reduceLT, Nat.reduceLeDiff, Nat.reduceEqDiff, Nat.reduceAdd, Nat.reduceMul, Nat.reduceDiv, Nat.reduceMod, Nat.le_refl, decide_eq_false_iff_not, Classical.not_not, true_and, and_true, false_and, and_false, not_true_eq_false, not_false_eq_true, forall_const, true_implies, false_implies, implies_true, ne_eq]
        refine ⟨fun _ => ih (k + 1) x _ _ (by omega) (fun c' hc => ?_), fun c => absurd (show 4 ≤ k2 by omega) c⟩
        rw [hx c' hc]
        apply dec_iff
        constructor
        · rintro (⟨j, hj, z⟩ | z)
          · exact ⟨j, by omega, z⟩
          · refine ⟨k, by omega, c, z.imp id (fun ⟨i, hi, y⟩ => ⟨i, by omega, y⟩)⟩
        · rintro ⟨j, hj, z1, z2⟩
          by_cases q : j = k
          · subst q
            exact Or.inr (z2.imp id (fun ⟨i, hi, y⟩ => ⟨i, by omega, y⟩))
          · exact Or.inl ⟨j, by omega, z1, z2⟩
      | succ f2 ih2 =>
        intro k2 x hk2 hx
        refine EX.go (Kd_mono _ _) [false, true, false, false, false, true, false, false, false] 40 5 ?_
        dsimp only [wpc_s, wsl_t, wsl_f, gD_0, gD_s, ↓denB_n, pI_s, pG_s, pU_n, cb_X4_heldBy_0, cb_X4_heldBy_1, cb_X4_heldBy_2, cb_X4_heldBy_3, cb_X4_heldBy_4, cb_X4_heldBy_5, cb_X4_heldBy_6, cb_X4_heldBy_7, cb_X4_heldBy_8, ↓ev_lconst_0, ↓ev_lstore_n_2, ↓ev_iconst_0, ↓ev_istore_4, ↓ev_iload_4, ↓ev_iconst_4, ↓ev_icmp_ge, ↓ev_aload_n_0, ↓ev_getf_4_0, ↓ev_iload_n_1, ↓ev_calls_2_0_1, ↓ev_calls_2_1_1, ↓ev_calls_2_2_1, ↓ev_calls_2_3_1, ↓ev_calls_2_4_1, ↓ev_iald_o8, ↓ev_iald_o9, ↓ev_iald_o10, ↓ev_iald_o11, ↓ev_iald_o12, ↓ev_iald_o13, ↓ev_iald_o14, ↓ev_iald_o15, ↓ev_iald_o16, ↓ev_istore_5, ↓ev_iload_5, ↓ev_if_ne, ↓ev_goto, ↓ev_lload_n_2, ↓ev_lconst_1, ↓ev_lshl, ↓ev_lor, ↓ev_istore_6, ↓ev_iload_6, ↓ev_bipush_64, ↓ev_imul, ↓ev_iadd, ↓ev_iinc_6_1, ↓ev_iinc_4_1, ↓ev_ldc2_18446744073709551614, ↓ev_land, ↓ev_lret, Nat.reduceAdd]
        have hdl := dt_lt S (tb S dd k) k2
        have e2 : h (.inr 8) (64 + 4 * tb S dd k + k2) = nI (dt S (tb S dd k) k2) := by rw [hS _ (by omega), hw.cd (tbn hd (by omega)) (by omega)]
        try simp (disch := omega) only [pk_mul, nI_add, n_lt0, n_le0, n_eq0, n_ge0, n_gt0, n_lt, n_le, n_eq, n_in, n_div, n_rem, n_rem2, n_m1, nI_clamp, bz_0, bz_1, tI_0, tI_bz, n4, n16, eq_self, Nat.reduceLT, Nat.reduceLeDiff, Nat.reduceEqDiff, Nat.reduceAdd, Nat.reduceMul, Nat.reduceDiv, Nat.reduceMod, Nat.le_refl, decide_eq_false_iff_not, Classical.not_not, true_and, and_true, false_and, and_false, not_true_eq_false, not_false_eq_true, forall_const, true_implies, false_implies, implies_true, ne_eq, e2]
        refine ⟨fun c => absurd c (by omega), fun _ => ⟨by omega, ih2 (k2 + 1) _ (by omega) (fun c' hc => ?_)⟩⟩
        rw [tbit_or, hx c' hc, tbit_shl hdl, dec_dec, dec_or]
        apply dec_iff
        constructor
        · rintro ((z | z | ⟨i, hi, y⟩) | z)
          · exact Or.inl z
          · exact Or.inr (Or.inl z)
          · exact Or.inr (Or.inr ⟨i, by omega, y⟩)
          · exact Or.inr (Or.inr ⟨k2, by omega, z.symm⟩)
        · rintro (z | z | ⟨i, hi, y⟩)
          · exact Or.inl (Or.inl z)
          · exact Or.inl (Or.inr (Or.inl z))
          · by_cases q : i = k2
            · subst q
              exact Or.inr y.symm
            · exact Or.inl (Or.inr (Or.inr ⟨i, by omega, y⟩))
    · refine ih (k + 1) x _ _ (by omega) (fun c' hc => ?_)
      rw [hx c' hc]
      apply dec_iff
      constructor
      · rintro ⟨j, hj, z⟩
        exact ⟨j, by omega, z⟩
      · rintro ⟨j, hj, z1, z2⟩
        by_cases q : j = k
        · subst q
          exact absurd c z1
        · exact ⟨j, by omega, z1, z2⟩
noncomputable def dro (S : St) (w : Int32) : Option Nat := match hdr w with
  | some x => if prs S x then some x else none
  | none => none
def oI (o : Option Nat) : Int32 := match o with
  | some x => nI x
  | none => -1
theorem hdr_l {k : Nat} (hk : k < 6) : hdr (nI k) = some k := by
  unfold hdr
  rw [if_pos (in6 hk), nI_clamp (by omega)]
theorem hdr_s {k : Nat} (hk : k < 8) : hdr (nI (k + 10)) = some (6 + k) := by
  unfold hdr
  rw [if_neg (fun z => by have := z.2; rw [n_lt (by omega) (by omega)] at this; omega), if_pos ⟨by rw [n_le (by omega) (by omega)]; omega, by rw [n_lt (by omega) (by omega)]; omega⟩, nI_clamp (by omega)]
  congr 1
  omega
theorem sub10 {w : Int32} {k : Nat} (hk : k < 8) (h : w - nI 10 = nI k) : w = nI (k + 10) := by
  rw [← nI_add, ← h]
  exact (Int32.sub_add_cancel w (nI 10)).symm
theorem dro_pr {w : Int32} {x : Nat} (h : dro S w = some x) : hdr w = some x ∧ prs S x = true := by
  unfold dro at h
  split at h
  · rename_i y e
    split at h
    · rename_i z
      cases h
      exact ⟨e, z⟩
    · cases h
  · cases h
theorem r_directoryOf {w : Int32} (hS : RS h S) (hw : WF S) (hp : p (oI (dro S w)) h) : mI (Kd sL (d + 3)) 162 [.inr (.inr (.inr 7)), .inl w] h p := by
  have hm6 := hw.m
  refine ke_X4_directoryOf ?_
  refine EX.go (Kd_mono _ _) [false, false, false, false, false, false] 40 0 ?_
  dsimp only [wpc_s, wsl_t, wsl_f, gD_0, gD_s, ↓denB_n, pI_s, pG_s, pU_n, cb_X4_directoryOf_0, cb_X4_directoryOf_1, cb_X4_directoryOf_2, cb_X4_directoryOf_3, cb_X4_directoryOf_4, cb_X4_directoryOf_5, ↓ev_aload_n_0, ↓ev_iload_n_1, ↓ev_callv_2_0_1, ↓ev_callv_2_1_1, ↓ev_callv_2_2_1, ↓ev_callv_2_3_1, ↓ev_callv_2_4_1, ↓ev_if_eq, ↓ev_goto, ↓ev_bipush_10, ↓ev_isub, ↓ev_bipush_6, ↓ev_iadd, ↓ev_iconst_m1, ↓ev_iret, Nat.reduceAdd]
  refine r_isLayer hS hw ?_
  try simp (disch := omega) only [pk_mul, nI_add, n_lt0, n_le0, n_eq0, n_ge0, n_gt0, n_lt, n_le, n_eq, n_in, n_div, n_rem, n_rem2, n_m1, nI_clamp, bz_0, bz_1, tI_0, tI_bz, n4, n16, eq_self, Nat.reduceLT, Nat.reduceLeDiff, Nat.reduceEqDiff, Nat.reduceAdd, Nat.reduceMul, Nat.reduceDiv, Nat.reduceMod, Nat.le_refl, decide_eq_false_iff_not, Classical.not_not, true_and, and_true, false_and, and_false, not_true_eq_false, not_false_eq_true, forall_const, true_implies, false_implies, implies_true, ne_eq]
  refine ⟨fun c => ?_, fun c => ?_⟩
  · rw [dec_f] at c
    refine r_isSnap hS hw ?_
    try simp (disch := omega) only [pk_mul, nI_add, n_lt0, n_le0, n_eq0, n_ge0, n_gt0, n_lt, n_le, n_eq, n_in, n_div, n_rem, n_rem2, n_m1, nI_clamp, bz_0, bz_1, tI_0, tI_bz, n4, n16, eq_self, Nat.reduceLT, Nat.reduceLeDiff, Nat.reduceEqDiff, Nat.reduceAdd, Nat.reduceMul, Nat.reduceDiv, Nat.reduceMod, Nat.le_refl, decide_eq_false_iff_not, Classical.not_not, true_and, and_true, false_and, and_false, not_true_eq_false, not_false_eq_true, forall_const, true_implies, false_implies, implies_true, ne_eq]
    refine ⟨fun c2 => ?_, fun c2 => ?_⟩
    · rw [dec_f] at c2
      have : dro S w = none := by
        unfold dro
        split
        · rename_i x e
          have hx : prs S x = false := by
            unfold hdr at e
            split at e
            · rename_i z
              cases e
              obtain ⟨k, hk, rfl⟩ := okN_n (n := 6) ⟨Int32.not_lt.mpr z.1, z.2⟩ (by decide)
              rw [nI_clamp (by omega), prs_lo (by omega), decide_eq_false_iff_not]
              intro y
              exact c ⟨by rw [n_lt0 (by omega)]; exact id, by rw [n_lt (by omega) (by omega)]; exact y⟩
            · split at e
              · rename_i z
                cases e
                obtain ⟨k, hk, rfl⟩ := okN_n (n := 18) (x := w) ⟨fun y => by
                  have := Int32.lt_of_le_of_lt z.1 y
                  rw [n_lt0 (by decide)] at this
                  exact this, z.2⟩ (by decide)
                have hk1 := z.1
                rw [n_le (by omega) (by omega)] at hk1
                rw [nI_clamp (by omega)]
                have e10 : nI k - nI 10 = nI (k - 10) := n_sub hk1
                rw [e10] at c2
                have ok : okN (nI (k - 10)) 8 := ⟨by rw [n_lt0 (by omega)]; exact id, by rw [n_lt (by omega) (by omega)]; omega⟩
                have h1 : ¬ ¬ sn S (k - 10) = -1 := fun y => c2 ⟨ok, by rw [nI_clamp (by omega)]; exact y⟩
                rw [show k - 4 = 6 + (k - 10) by omega, prs_6, decide_eq_false_iff_not]
                exact fun y => h1 ((sn_in hw (by omega)).mp y)
              · cases e
          rw [hx]
          rfl
        · rfl
      rw [this] at hp
      exact hp
    · have c3 := Classical.not_not.mp (fun z => c2 (dec_f.mpr z))
      obtain ⟨k, hk, e⟩ := okN_n c3.1 (by decide)
      have e2 := sub10 hk e
      subst e2
      have h1 := c3.2
      rw [e, nI_clamp (by omega)] at h1
      have : dro S (nI (k + 10)) = some (6 + k) := by
        unfold dro
        rw [hdr_s hk]
        dsimp only
        rw [if_pos]
        rw [prs_6, decide_eq_true_iff]
        exact (sn_in hw hk).mpr h1
      rw [this] at hp
      try simp (disch := omega) only [pk_mul, nI_add, n_lt0, n_le0, n_eq0, n_ge0, n_gt0, n_lt, n_le, n_eq, n_in, n_div, n_rem, n_rem2, n_m1, nI_clamp, bz_0, bz_1, tI_0, tI_bz, n4, n16, eq_self, Nat.reduceLT, Nat.reduceLeDiff, Nat.reduceEqDiff, Nat.reduceAdd, Nat.reduceMul, Nat.reduceDiv, Nat.reduceMod, Nat.le_refl, decide_eq_false_iff_not, Classical.not_not, true_and, and_true, false_and, and_false, not_true_eq_false, not_false_eq_true, forall_const, true_implies, false_implies, implies_true, ne_eq]
      rw [n_sub (by omega), show 6 + (k + 10) - 10 = 6 + k by omega]
      exact hp
  · have c3 : okL S w := Classical.not_not.mp (fun z => c (dec_f.mpr z))
    obtain ⟨k, hk, rfl⟩ := okL_n c3 hm6
    have : dro S (nI k) = some k := by
      unfold dro
      rw [hdr_l (by omega)]
      dsimp only
      rw [if_pos (prs_lay hk (by omega))]
    rw [this] at hp
    exact hp
theorem holds_none {w : Int32} (h : dro S w = none) : aHolds S w = lN 0 := by
  unfold aHolds
  unfold dro at h
  split at h
  · rename_i x e
    rw [e]
    dsimp only
    split at h
    · cases h
    · rename_i z
      exact lOr_0.mpr (fun c _ => dec_f.mpr (hld_ab (by simpa using z)))
  · rename_i e
    rw [e]
theorem r_holds {w : Int32} {p : Int64 → mH → Prop} (hS : RS h S) (hw : WF S) (hp : p (aHolds S w) h) : mG (Kd sL (d + 12)) 164 [.inr (.inr (.inr 7)), .inl w] h p := by
  refine ke_X4_holds ?_
  refine EX.go (Kd_mono _ _) [false, false, false, false] 40 0 ?_
  dsimp only [wpc_s, wsl_t, wsl_f, gD_0, gD_s, ↓denB_n, pI_s, pG_s, pU_n, cb_X4_holds_0, cb_X4_holds_1, cb_X4_holds_2, cb_X4_holds_3, ↓ev_aload_n_0, ↓ev_iload_n_1, ↓ev_callv_2_0_1, ↓ev_callv_2_1_1, ↓ev_callv_2_2_1, ↓ev_callv_2_3_1, ↓ev_callv_2_4_1, ↓ev_iconst_m1, ↓ev_icmp_ne, ↓ev_lconst_0, ↓ev_goto, ↓ev_callv_2_0_2, ↓ev_callv_2_1_2, ↓ev_callv_2_2_2, ↓ev_callv_2_3_2, ↓ev_callv_2_4_2, ↓ev_lret, Nat.reduceAdd]
  refine r_directoryOf hS hw ?_
  cases hd : dro S w with
  | none =>
    rw [holds_none hd] at hp
    exact ⟨fun c => absurd rfl c, fun _ => hp⟩
  | some x =>
    obtain ⟨h1, h2⟩ := dro_pr hd
    have hx := hdr_lt h1
    refine ⟨fun _ => ?_, fun c => ?_⟩
    · refine r_directoryOf hS hw ?_
      rw [hd]
      refine r_heldBy hS hw hx h2 ?_
      unfold aHolds at hp
      rw [h1] at hp
      exact hp
    · have c1 : nI x = -1 := c
      rw [n_m1 (by omega)] at c1
      exact c1.elim
theorem alone_none {w : Int32} (h : dro S w = none) : aAlone S w = lN 0 := by
  unfold aAlone
  unfold dro at h
  split at h
  · rename_i x e
    rw [e]
    dsimp only
    split at h
    · cases h
    · rename_i z
      exact lOr_0.mpr (fun c _ => dec_f.mpr (fun y => hld_ab (by simpa using z) y.1))
  · rename_i e
    rw [e]
theorem r_alone {w : Int32} {p : Int64 → mH → Prop} (hS : RS h S) (hw : WF S) (hp : p (aAlone S w) h) : mG (Kd sL (d + 12)) 165 [.inr (.inr (.inr 7)), .inl w] h p := by
  refine ke_X4_alone ?_
  refine EX.go (Kd_mono _ _) [false, false, false, true, false, false, false, false, false] 40 0 ?_
  dsimp only [wpc_s, wsl_t, wsl_f, gD_0, gD_s, ↓denB_n, pI_s, pG_s, pU_n, cb_X4_alone_0, cb_X4_alone_1, cb_X4_alone_2, cb_X4_alone_3, cb_X4_alone_4, cb_X4_alone_5, cb_X4_alone_6, cb_X4_alone_7, cb_X4_alone_8, ↓ev_aload_n_0, ↓ev_iload_n_1, ↓ev_callv_2_0_1, ↓ev_callv_2_1_1, ↓ev_callv_2_2_1, ↓ev_callv_2_3_1, ↓ev_callv_2_4_1, ↓ev_istore_n_2, ↓ev_iload_n_2, ↓ev_iconst_m1, ↓ev_icmp_ne, ↓ev_lconst_0, ↓ev_lret, ↓ev_callv_2_0_2, ↓ev_callv_2_1_2, ↓ev_callv_2_2_2, ↓ev_callv_2_3_2, ↓ev_callv_2_4_2, ↓ev_lstore_n_3, ↓ev_iconst_0, ↓ev_istore_5, ↓ev_iload_5, ↓ev_bipush_14, ↓ev_icmp_ge, ↓ev_icmp_eq, ↓ev_if_eq, ↓ev_lload_n_3, ↓ev_ldc2_18446744073709551615, ↓ev_lxor, ↓ev_land, ↓ev_iinc_5_1, ↓ev_goto, Nat.reduceAdd]
  refine r_directoryOf hS hw ?_
  cases hd : dro S w with
  | none =>
    rw [alone_none hd] at hp
    exact ⟨fun c => absurd rfl c, fun _ => hp⟩
  | some x =>
    obtain ⟨h1, h2⟩ := dro_pr hd
    have hx := hdr_lt h1
    refine ⟨fun _ => ?_, fun c => ?_⟩
    · refine r_heldBy hS hw hx h2 ?_
      unfold aAlone at hp
      rw [h1] at hp
      dsimp only at hp
      suffices H : ∀ (f k : Nat), k + f = 14 → EX (Kd sL (d + 11)) sL md_X4_alone (pG p) 3 [some (.inr (.inr (.inr 7))), some (.inl w), some (.inl (nI x)), some (.inr (.inl (lOr (fun c => dec (hld S x c ∧ ∀ y, y < k → y ≠ x → ¬ hld S y c)) 64))), none, some (.inl (nI k))] [] h by
        have := H 14 0 rfl
        rw [lOr_congr (Q := fun c => dec (hld S x c)) (fun c _ => dec_iff ⟨fun z => z.1, fun z => ⟨z, fun y hy => absurd hy (Nat.not_lt_zero y)⟩⟩)] at this
        exact this
      intro f
      induction f with
      | zero =>
        intro k hk
        refine EX.go (Kd_mono _ _) [false, false, false, true, false, false, false, false, false] 40 3 ?_
        dsimp only [wpc_s, wsl_t, wsl_f, gD_0, gD_s, ↓denB_n, pI_s, pG_s, pU_n, cb_X4_alone_0, cb_X4_alone_1, cb_X4_alone_2, cb_X4_alone_3, cb_X4_alone_4, cb_X4_alone_5, cb_X4_alone_6, cb_X4_alone_7, cb_X4_alone_8, ↓ev_aload_n_0, ↓ev_iload_n_1, ↓ev_callv_2_0_1, ↓ev_callv_2_1_1, ↓ev_callv_2_2_1, ↓ev_callv_2_3_1, ↓ev_callv_2_4_1, ↓ev_istore_n_2, ↓ev_iload_n_2, ↓ev_iconst_m1, ↓ev_icmp_ne, ↓ev_lconst_0, ↓ev_lret, ↓ev_callv_2_0_2, ↓ev_callv_2_1_2, ↓ev_callv_2_2_2, ↓ev_callv_2_3_2, ↓ev_callv_2_4_2, ↓ev_lstore_n_3, ↓ev_iconst_0, ↓ev_istore_5, ↓ev_iload_5, ↓ev_bipush_14, ↓ev_icmp_ge, ↓ev_icmp_eq, ↓ev_if_eq, ↓ev_lload_n_3, ↓ev_ldc2_18446744073709551615, ↓ev_lxor, ↓ev_land, ↓ev_iinc_5_1, ↓ev_goto, Nat.reduceAdd]
        try simp (disch := omega) only [pk_mul, nI_add, n_lt0, n_le0, n_eq0, n_ge0, n_gt0, n_lt, n_le, n_eq, n_in, n_div, n_rem, n_rem2, n_m1, nI_clamp, bz_0, bz_1, tI_0, tI_bz, n4, n16, eq_self, Nat.reduceLT, Nat.reduceLeDiff, Nat.reduceEqDiff, Nat.reduceAdd, Nat.reduceMul, Nat.reduceDiv, Nat.reduceMod, Nat.le_refl, decide_eq_false_iff_not, Classical.not_not, true_and, and_true, false_and, and_false, not_true_eq_false, not_false_eq_true, forall_const, true_implies, false_implies, implies_true, ne_eq]
        rw [show k = 14 by omega]
        exact ⟨fun _ => hp, fun z => absurd (show 14 ≤ 14 by omega) z⟩
      | succ f ih =>
        intro k hk
        refine EX.go (Kd_mono _ _) [false, false, false, true, false, false, false, false, false] 40 3 ?_
        dsimp only [wpc_s, wsl_t, wsl_f, gD_0, gD_s, ↓denB_n, pI_s, pG_s, pU_n, cb_X4_alone_0, cb_X4_alone_1, cb_X4_alone_2, cb_X4_alone_3, cb_X4_alone_4, cb_X4_alone_5, cb_X4_alone_6, cb_X4_alone_7, cb_X4_alone_8, ↓ev_aload_n_0, ↓ev_iload_n_1, ↓ev_callv_2_0_1, ↓ev_callv_2_1_1, ↓ev_callv_2_2_1, ↓ev_callv_2_3_1, ↓ev_callv_2_4_1, ↓ev_istore_n_2, ↓ev_iload_n_2, ↓ev_iconst_m1, ↓ev_icmp_ne, ↓ev_lconst_0, ↓ev_lret, ↓ev_callv_2_0_2, ↓ev_callv_2_1_2, ↓ev_callv_2_2_2, ↓ev_callv_2_3_2, ↓ev_callv_2_4_2, ↓ev_lstore_n_3, ↓ev_iconst_0, ↓ev_istore_5, ↓ev_iload_5, ↓ev_bipush_14, ↓ev_icmp_ge, ↓ev_icmp_eq, ↓ev_if_eq, ↓ev_lload_n_3, ↓ev_ldc2_18446744073709551615, ↓ev_lxor, ↓ev_land, ↓ev_iinc_5_1, ↓ev_goto, Nat.reduceAdd]
        try simp (disch := omega) only [pk_mul, nI_add, n_lt0, n_le0, n_eq0, n_ge0, n_gt0, n_lt, n_le, n_eq, n_in, n_div, n_rem, n_rem2, n_m1, nI_clamp, bz_0, bz_1, tI_0, tI_bz, n4, n16, eq_self, Nat.reduceLT, Nat.reduceLeDiff, Nat.reduceEqDiff, Nat.reduceAdd, Nat.reduceMul, Nat.reduceDiv, Nat.reduceMod, Nat.le_refl, decide_eq_false_iff_not, Classical.not_not, true_and, and_true, false_and, and_false, not_true_eq_false, not_false_eq_true, forall_const, true_implies, false_implies, implies_true, ne_eq]
        have ih2 := ih (k + 1) (by omega)
        have same : (∀ c, c < 64 → (k = x ∨ ¬ hld S k c)) → EX (Kd sL (d + 11)) sL md_X4_alone (pG p) 3 [some (.inr (.inr (.inr 7))), some (.inl w), some (.inl (nI x)), some (.inr (.inl (lOr (fun c => dec (hld S x c ∧ ∀ y, y < k → y ≠ x → ¬ hld S y c)) 64))), none, some (.inl (nI (k + 1)))] [] h := by
          intro hs
          rw [lOr_congr (Q := fun c => dec (hld S x c ∧ ∀ y, y < k + 1 → y ≠ x → ¬ hld S y c)) (fun c hc => dec_iff ⟨fun z => ⟨z.1, fun y h1 h2 => ?_⟩, fun z => ⟨z.1, fun y h1 h2 => z.2 y (by omega) h2⟩⟩)]
          · exact ih2
          · by_cases q : y = k
            · subst q
              exact (hs c hc).resolve_left h2
            · exact z.2 y (by omega) h2
        refine ⟨fun z => absurd z (by omega), fun _ => ⟨fun c1 => same (fun c _ => Or.inl c1), fun c1 => ?_⟩⟩
        refine r_isNamedBy hS hw (by omega) ?_
        try simp (disch := omega) only [pk_mul, nI_add, n_lt0, n_le0, n_eq0, n_ge0, n_gt0, n_lt, n_le, n_eq, n_in, n_div, n_rem, n_rem2, n_m1, nI_clamp, bz_0, bz_1, tI_0, tI_bz, n4, n16, eq_self, Nat.reduceLT, Nat.reduceLeDiff, Nat.reduceEqDiff, Nat.reduceAdd, Nat.reduceMul, Nat.reduceDiv, Nat.reduceMod, Nat.le_refl, decide_eq_false_iff_not, Classical.not_not, true_and, and_true, false_and, and_false, not_true_eq_false, not_false_eq_true, forall_const, true_implies, false_implies, implies_true, ne_eq]
        refine ⟨fun c2 => same (fun c _ => Or.inr (hld_ab c2)), fun c2 => ?_⟩
        refine r_heldBy hS hw (by omega) (by simpa using c2) ?_
        rw [lOr_andn]
        rw [lOr_congr (Q := fun c => dec (hld S x c ∧ ∀ y, y < k + 1 → y ≠ x → ¬ hld S y c)) (fun c hc => ?_)]
        · exact ih2
        · have : (!dec (hld S k c)) = dec (¬ hld S k c) := by
            by_cases z : hld S k c
            · rw [dec_t.mpr z, dec_f.mpr (fun y => y z)]; rfl
            · rw [dec_f.mpr z, dec_t.mpr z]; rfl
          rw [this, dec_and]
          apply dec_iff
          constructor
          · rintro ⟨⟨z1, z2⟩, z3⟩
            refine ⟨z1, fun y h1 h2 => ?_⟩
            by_cases q : y = k
            · subst q; exact z3
            · exact z2 y (by omega) h2
          · rintro ⟨z1, z2⟩
            exact ⟨⟨z1, fun y h1 h2 => z2 y (by omega) h2⟩, z2 k (by omega) c1⟩
    · have c1 : nI x = -1 := c
      rw [n_m1 (by omega)] at c1
      exact c1.elim
theorem bit_1 {P : Nat → Bool} {c : Nat} (hc : c < 64) : (((lOr P 64).toUInt64 >>> ((nI c).toInt64.toUInt64 &&& Int64.toUInt64 63)).toInt64 &&& lN 1 = lN 1) = (P c = true) := by
  apply propext
  have hb : ∀ j, j < 64 → tbit ((((lOr P 64).toUInt64 >>> ((nI c).toInt64.toUInt64 &&& Int64.toUInt64 63)).toInt64 &&& lN 1)) j = (P c && decide (j = 0)) := by
    intro j hj
    rw [tbit_and, tbit_ushr hc, tbit_1 j hj]
    by_cases h0 : j = 0
    · subst h0
      rw [Nat.add_zero, tbit_lOr P 64 c (by omega)]
      simp [hc]
    · simp [h0]
  constructor
  · intro e
    have h1 := hb 0 (by decide)
    rw [e, tbit_1 0 (by decide)] at h1
    simpa using h1.symm
  · intro e
    apply tbit_ext
    intro j hj
    rw [hb j hj, tbit_1 j hj, e]
    rfl
theorem r_holders {c : Int32} (hG : RG h g) (hJ : JG B g) (hp : ∀ h', FR h h' → RG h' (aHolders g c).2 → p (aHolders g c).1 h') : mI (Kd sL (d + 12)) 166 [.inr (.inr (.inr 7)), .inl c] h p := by
  refine ke_X4_holders ?_
  refine EX.go (Kd_mono _ _) [false, false, false, true, false, false, false, false, false, false, false, false] 40 0 ?_
  dsimp only [wpc_s, wsl_t, wsl_f, gD_0, gD_s, ↓denB_n, pI_s, pG_s, pU_n, cb_X4_holders_0, cb_X4_holders_1, cb_X4_holders_2, cb_X4_holders_3, cb_X4_holders_4, cb_X4_holders_5, cb_X4_holders_6, cb_X4_holders_7, cb_X4_holders_8, cb_X4_holders_9, cb_X4_holders_10, cb_X4_holders_11, ↓ev_iload_n_1, ↓ev_calls_1_0_1, ↓ev_calls_1_1_1, ↓ev_calls_1_2_1, ↓ev_calls_1_3_1, ↓ev_calls_1_4_1, ↓ev_if_ne, ↓ev_aload_n_0, ↓ev_sipush_m1001, ↓ev_callv_2_0_1, ↓ev_callv_2_1_1, ↓ev_callv_2_2_1, ↓ev_callv_2_3_1, ↓ev_callv_2_4_1, ↓ev_iret, ↓ev_iconst_0, ↓ev_istore_n_2, ↓ev_istore_n_3, ↓ev_iload_n_3, ↓ev_bipush_14, ↓ev_icmp_ge, ↓ev_if_eq, ↓ev_callv_2_0_2, ↓ev_callv_2_1_2, ↓ev_callv_2_2_2, ↓ev_callv_2_3_2, ↓ev_callv_2_4_2, ↓ev_lushr, ↓ev_lconst_1, ↓ev_land, ↓ev_lcmp, ↓ev_iload_n_2, ↓ev_iconst_1, ↓ev_bipush_6, ↓ev_goto, ↓ev_isub, ↓ev_bipush_10, ↓ev_iadd, ↓ev_ishl, ↓ev_ior, ↓ev_iinc_3_1, Nat.reduceAdd]
  unfold aHolders at hp
  refine r_isCluster ?_
  try simp (disch := omega) only [pk_mul, nI_add, n_lt0, n_le0, n_eq0, n_ge0, n_gt0, n_lt, n_le, n_eq, n_in, n_div, n_rem, n_rem2, n_m1, nI_clamp, bz_0, bz_1, tI_0, tI_bz, n4, n16, eq_self, Nat.reduceLT, Nat.reduceLeDiff, Nat.reduceEqDiff, Nat.reduceAdd, Nat.reduceMul, Nat.reduceDiv, Nat.reduceMod, Nat.le_refl, decide_eq_false_iff_not, Classical.not_not, true_and, and_true, false_and, and_false, not_true_eq_false, not_false_eq_true, forall_const, true_implies, false_implies, implies_true, ne_eq]
  refine ⟨fun c1 => ?_, fun c1 => ?_⟩
  · have a1 : 0 < c ∧ c < nI 64 := Classical.not_not.mp (fun z => c1 (dec_f.mpr z))
    rw [if_pos (dec_t.mpr a1)] at hp
    obtain ⟨x, k1, k2, rfl⟩ := pc_x a1
    rw [nI_clamp (by omega)] at hp
    have hp := hp h FR.rf hG
    dsimp only at hp
    suffices H : ∀ (f k : Nat), k + f = 14 → EX (Kd sL (d + 11)) sL md_X4_holders (pI p) 3 [some (.inr (.inr (.inr 7))), some (.inl (nI x)), some (.inl (hoF g.1 x k)), some (.inl (nI k))] [] h from H 14 0 rfl
    intro f
    induction f with
    | zero =>
      intro k hk
      refine EX.go (Kd_mono _ _) [false, false, false, true, false, false, false, false, false, false, false, false] 40 3 ?_
      dsimp only [wpc_s, wsl_t, wsl_f, gD_0, gD_s, ↓denB_n, pI_s, pG_s, pU_n, cb_X4_holders_0, cb_X4_holders_1, cb_X4_holders_2, cb_X4_holders_3, cb_X4_holders_4, cb_X4_holders_5, cb_X4_holders_6, cb_X4_holders_7, cb_X4_holders_8, cb_X4_holders_9, cb_X4_holders_10, cb_X4_holders_11, ↓ev_iload_n_1, ↓ev_calls_1_0_1, ↓ev_calls_1_1_1, ↓ev_calls_1_2_1, ↓ev_calls_1_3_1, ↓ev_calls_1_4_1, ↓ev_if_ne, ↓ev_aload_n_0, ↓ev_sipush_m1001, ↓ev_callv_2_0_1, ↓ev_callv_2_1_1, ↓ev_callv_2_2_1, ↓ev_callv_2_3_1, ↓ev_callv_2_4_1, ↓ev_iret, ↓ev_iconst_0, ↓ev_istore_n_2, ↓ev_istore_n_3, ↓ev_iload_n_3, ↓ev_bipush_14, ↓ev_icmp_ge, ↓ev_if_eq, ↓ev_callv_2_0_2, ↓ev_callv_2_1_2, ↓ev_callv_2_2_2, ↓ev_callv_2_3_2, ↓ev_callv_2_4_2, ↓ev_lushr, ↓ev_lconst_1, ↓ev_land, ↓ev_lcmp, ↓ev_iload_n_2, ↓ev_iconst_1, ↓ev_bipush_6, ↓ev_goto, ↓ev_isub, ↓ev_bipush_10, ↓ev_iadd, ↓ev_ishl, ↓ev_ior, ↓ev_iinc_3_1, Nat.reduceAdd]
      try simp (disch := omega) only [pk_mul, nI_add, n_lt0, n_le0, n_eq0, n_ge0, n_gt0, n_lt, n_le, n_eq, n_in, n_div, n_rem, n_rem2, n_m1, nI_clamp, bz_0, bz_1, tI_0, tI_bz, n4, n16, eq_self, Nat.reduceLT, Nat.reduceLeDiff, Nat.reduceEqDiff, Nat.reduceAdd, Nat.reduceMul, Nat.reduceDiv, Nat.reduceMod, Nat.le_refl, decide_eq_false_iff_not, Classical.not_not, true_and, and_true, false_and, and_false, not_true_eq_false, not_false_eq_true, forall_const, true_implies, false_implies, implies_true, ne_eq]
      rw [show k = 14 by omega]
      exact ⟨fun _ => hp, fun z => absurd (show 14 ≤ 14 by omega) z⟩
    | succ f ih =>
      intro k hk
      refine EX.go (Kd_mono _ _) [false, false, false, true, false, false, false, false, false, false, false, false] 40 3 ?_
      dsimp only [wpc_s, wsl_t, wsl_f, gD_0, gD_s, ↓denB_n, pI_s, pG_s, pU_n, cb_X4_holders_0, cb_X4_holders_1, cb_X4_holders_2, cb_X4_holders_3, cb_X4_holders_4, cb_X4_holders_5, cb_X4_holders_6, cb_X4_holders_7, cb_X4_holders_8, cb_X4_holders_9, cb_X4_holders_10, cb_X4_holders_11, ↓ev_iload_n_1, ↓ev_calls_1_0_1, ↓ev_calls_1_1_1, ↓ev_calls_1_2_1, ↓ev_calls_1_3_1, ↓ev_calls_1_4_1, ↓ev_if_ne, ↓ev_aload_n_0, ↓ev_sipush_m1001, ↓ev_callv_2_0_1, ↓ev_callv_2_1_1, ↓ev_callv_2_2_1, ↓ev_callv_2_3_1, ↓ev_callv_2_4_1, ↓ev_iret, ↓ev_iconst_0, ↓ev_istore_n_2, ↓ev_istore_n_3, ↓ev_iload_n_3, ↓ev_bipush_14, ↓ev_icmp_ge, ↓ev_if_eq, ↓ev_callv_2_0_2, ↓ev_callv_2_1_2, ↓ev_callv_2_2_2, ↓ev_callv_2_3_2, ↓ev_callv_2_4_2, ↓ev_lushr, ↓ev_lconst_1, ↓ev_land, ↓ev_lcmp, ↓ev_iload_n_2, ↓ev_iconst_1, ↓ev_bipush_6, ↓ev_goto, ↓ev_isub, ↓ev_bipush_10, ↓ev_iadd, ↓ev_ishl, ↓ev_ior, ↓ev_iinc_3_1, Nat.reduceAdd]
      try simp (disch := omega) only [pk_mul, nI_add, n_lt0, n_le0, n_eq0, n_ge0, n_gt0, n_lt, n_le, n_eq, n_in, n_div, n_rem, n_rem2, n_m1, nI_clamp, bz_0, bz_1, tI_0, tI_bz, n4, n16, eq_self, Nat.reduceLT, Nat.reduceLeDiff, Nat.reduceEqDiff, Nat.reduceAdd, Nat.reduceMul, Nat.reduceDiv, Nat.reduceMod, Nat.le_refl, decide_eq_false_iff_not, Classical.not_not, true_and, and_true, false_and, and_false, not_true_eq_false, not_false_eq_true, forall_const, true_implies, false_implies, implies_true, ne_eq]
      have ih2 := ih (k + 1) (by omega)
      unfold hoF at ih2
      refine ⟨fun z => absurd z (by omega), fun _ => ?_⟩
      refine r_isNamedBy hG.1 hJ.1 (by omega) ?_
      try simp (disch := omega) only [pk_mul, nI_add, n_lt0, n_le0, n_eq0, n_ge0, n_gt0, n_lt, n_le, n_eq, n_in, n_div, n_rem, n_rem2, n_m1, nI_clamp, bz_0, bz_1, tI_0, tI_bz, n4, n16, eq_self, Nat.reduceLT, Nat.reduceLeDiff, Nat.reduceEqDiff, Nat.reduceAdd, Nat.reduceMul, Nat.reduceDiv, Nat.reduceMod, Nat.le_refl, decide_eq_false_iff_not, Classical.not_not, true_and, and_true, false_and, and_false, not_true_eq_false, not_false_eq_true, forall_const, true_implies, false_implies, implies_true, ne_eq]
      refine ⟨fun c2 => ?_, fun c2 => ?_⟩
      · rw [if_neg (by rw [dec_t]; exact hld_ab c2)] at ih2
        exact ih2
      refine r_heldBy hG.1 hJ.1 (by omega) (by simpa using c2) ?_
      try simp (disch := omega) only [pk_mul, nI_add, n_lt0, n_le0, n_eq0, n_ge0, n_gt0, n_lt, n_le, n_eq, n_in, n_div, n_rem, n_rem2, n_m1, nI_clamp, bz_0, bz_1, tI_0, tI_bz, n4, n16, eq_self, Nat.reduceLT, Nat.reduceLeDiff, Nat.reduceEqDiff, Nat.reduceAdd, Nat.reduceMul, Nat.reduceDiv, Nat.reduceMod, Nat.le_refl, decide_eq_false_iff_not, Classical.not_not, true_and, and_true, false_and, and_false, not_true_eq_false, not_false_eq_true, forall_const, true_implies, false_implies, implies_true, ne_eq, lg_cmp0, bit_1]
      refine ⟨fun c3 => ?_, fun c3 => ?_⟩
      · rw [if_neg c3] at ih2
        exact ih2
      · rw [if_pos c3] at ih2
        unfold hbit at ih2
        refine ⟨fun c4 => ?_, fun c4 => ?_⟩
        · rw [if_neg (by omega)] at ih2
          rw [n_sub (by omega), nI_add, show k - 6 + 10 = k + 4 by omega]
          exact ih2
        · rw [if_pos (by omega)] at ih2
          exact ih2
  · rw [if_neg (by rw [c1]; decide)] at hp
    exact r_rf (j := 0) hG (by decide) hp
theorem dse_pos {c : Nat} (h1 : 1 ≤ c) : dseD S c = true ↔ 0 < nmc S c := by
  unfold dseD
  rw [dec_t, nmc_pos h1]
  unfold isD
  constructor
  · rintro ⟨h0, t, k, a, b, e, f, i⟩
    rw [dec_t] at f
    exact ⟨t, k, f, e, i⟩
  · rintro ⟨t, k, a, b, e⟩
    have := nam_lt a
    exact ⟨by omega, t, k, this.1, this.2, b, dec_t.mpr a, e⟩
theorem twK_0 {c : Nat} : ∀ k, k ≤ c + 1 → twK S c k = 0
  | 0, _ => rfl
  | k + 1, hk => by
    unfold twK
    rw [twK_0 k (by omega), dec_f.mpr (fun z => absurd z.1 (by omega))]
    rfl
theorem twK_le {c : Nat} : ∀ k, twK S c k ≤ k
  | 0 => Nat.le_refl _
  | k + 1 => by
    have := twK_le (c := c) k
    unfold twK
    split <;> omega
theorem twF_le : ∀ c, twF S c ≤ 64 * c
  | 0 => Nat.le_refl _
  | c + 1 => by
    have := twF_le c
    have h2 := twK_le (S := S) (c := c) 64
    unfold twF
    split <;> omega
theorem r_twins (hG : RG h g) (hJ : JG B g) (hp : ∀ h', FR h h' → RG h' g → p (aTwins g.1) h') : mI (Kd sL (d + 12)) 169 [.inr (.inr (.inr 7))] h p := by
  refine ke_X4_twins ?_
  refine EX.go (Kd_mono _ _) [false, true, false, true, false, false, false, false, false, false, false, false] 40 0 ?_
  dsimp only [wpc_s, wsl_t, wsl_f, gD_0, gD_s, ↓denB_n, pI_s, pG_s, pU_n, cb_X4_twins_0, cb_X4_twins_1, cb_X4_twins_2, cb_X4_twins_3, cb_X4_twins_4, cb_X4_twins_5, cb_X4_twins_6, cb_X4_twins_7, cb_X4_twins_8, cb_X4_twins_9, cb_X4_twins_10, cb_X4_twins_11, ↓ev_aload_n_0, ↓ev_callv_1_0_0, ↓ev_callv_1_1_0, ↓ev_callv_1_2_0, ↓ev_callv_1_3_0, ↓ev_callv_1_4_0, ↓ev_iconst_0, ↓ev_istore_n_1, ↓ev_iconst_1, ↓ev_istore_n_2, ↓ev_iload_n_2, ↓ev_bipush_64, ↓ev_icmp_ge, ↓ev_iadd, ↓ev_istore_n_3, ↓ev_iload_n_3, ↓ev_iload_n_1, ↓ev_getf_4_6, ↓ev_iald_o8, ↓ev_iald_o9, ↓ev_iald_o10, ↓ev_iald_o11, ↓ev_iald_o12, ↓ev_iald_o13, ↓ev_iald_o14, ↓ev_iald_o15, ↓ev_iald_o16, ↓ev_if_le, ↓ev_callv_3_0_1, ↓ev_callv_3_1_1, ↓ev_callv_3_2_1, ↓ev_callv_3_3_1, ↓ev_callv_3_4_1, ↓ev_callv_3_5_1, ↓ev_if_eq, ↓ev_goto, ↓ev_iinc_3_1, ↓ev_iinc_2_1, ↓ev_iret, Nat.reduceAdd]
  refine r_reckons hG.1 hJ.1 (fun F G hF hG2 => ?_)
  have hp := hp _ FE.p23.fr (hG.p23 (F := F) (G := G))
  suffices H : ∀ (f k : Nat) (x3 : Option mV), k + f = 64 → 1 ≤ k → EX (Kd sL (d + 11)) sL md_X4_twins (pI p) 1 [some (.inr (.inr (.inr 7))), some (.inl (nI (twF g.1 k))), some (.inl (nI k)), x3] [] (h23 h F G) from H 63 1 _ rfl (by omega)
  intro f
  induction f with
  | zero =>
    intro k x3 hk h1
    refine EX.go (Kd_mono _ _) [false, true, false, true, false, false, false, false, false, false, false, false] 40 1 ?_
    dsimp only [wpc_s, wsl_t, wsl_f, gD_0, gD_s, ↓denB_n, pI_s, pG_s, pU_n, cb_X4_twins_0, cb_X4_twins_1, cb_X4_twins_2, cb_X4_twins_3, cb_X4_twins_4, cb_X4_twins_5, cb_X4_twins_6, cb_X4_twins_7, cb_X4_twins_8, cb_X4_twins_9, cb_X4_twins_10, cb_X4_twins_11, ↓ev_aload_n_0, ↓ev_callv_1_0_0, ↓ev_callv_1_1_0, ↓ev_callv_1_2_0, ↓ev_callv_1_3_0, ↓ev_callv_1_4_0, ↓ev_iconst_0, ↓ev_istore_n_1, ↓ev_iconst_1, ↓ev_istore_n_2, ↓ev_iload_n_2, ↓ev_bipush_64, ↓ev_icmp_ge, ↓ev_iadd, ↓ev_istore_n_3, ↓ev_iload_n_3, ↓ev_iload_n_1, ↓ev_getf_4_6, ↓ev_iald_o8, ↓ev_iald_o9, ↓ev_iald_o10, ↓ev_iald_o11, ↓ev_iald_o12, ↓ev_iald_o13, ↓ev_iald_o14, ↓ev_iald_o15, ↓ev_iald_o16, ↓ev_if_le, ↓ev_callv_3_0_1, ↓ev_callv_3_1_1, ↓ev_callv_3_2_1, ↓ev_callv_3_3_1, ↓ev_callv_3_4_1, ↓ev_callv_3_5_1, ↓ev_if_eq, ↓ev_goto, ↓ev_iinc_3_1, ↓ev_iinc_2_1, ↓ev_iret, Nat.reduceAdd]
    try simp (disch := omega) only [pk_mul, nI_add, n_lt0, n_le0, n_eq0, n_ge0, n_gt0, n_lt, n_le, n_eq, n_in, n_div, n_rem, n_rem2, n_m1, nI_clamp, bz_0, bz_1, tI_0, tI_bz, n4, n16, eq_self, Nat.reduceLT, Nat.reduceLeDiff, Nat.reduceEqDiff, Nat.reduceAdd, Nat.reduceMul, Nat.reduceDiv, Nat.reduceMod, Nat.le_refl, decide_eq_false_iff_not, Classical.not_not, true_and, and_true, false_and, and_false, not_true_eq_false, not_false_eq_true, forall_const, true_implies, false_implies, implies_true, ne_eq]
    rw [show k = 64 by omega]
    exact ⟨fun _ => hp, fun z => absurd (show 64 ≤ 64 by omega) z⟩
  | succ f ih =>
    intro k x3 hk h1
    refine EX.go (Kd_mono _ _) [false, true, false, true, false, false, false, false, false, false, false, false] 40 1 ?_
    dsimp only [wpc_s, wsl_t, wsl_f, gD_0, gD_s, ↓denB_n, pI_s, pG_s, pU_n, cb_X4_twins_0, cb_X4_twins_1, cb_X4_twins_2, cb_X4_twins_3, cb_X4_twins_4, cb_X4_twins_5, cb_X4_twins_6, cb_X4_twins_7, cb_X4_twins_8, cb_X4_twins_9, cb_X4_twins_10, cb_X4_twins_11, ↓ev_aload_n_0, ↓ev_callv_1_0_0, ↓ev_callv_1_1_0, ↓ev_callv_1_2_0, ↓ev_callv_1_3_0, ↓ev_callv_1_4_0, ↓ev_iconst_0, ↓ev_istore_n_1, ↓ev_iconst_1, ↓ev_istore_n_2, ↓ev_iload_n_2, ↓ev_bipush_64, ↓ev_icmp_ge, ↓ev_iadd, ↓ev_istore_n_3, ↓ev_iload_n_3, ↓ev_iload_n_1, ↓ev_getf_4_6, ↓ev_iald_o8, ↓ev_iald_o9, ↓ev_iald_o10, ↓ev_iald_o11, ↓ev_iald_o12, ↓ev_iald_o13, ↓ev_iald_o14, ↓ev_iald_o15, ↓ev_iald_o16, ↓ev_if_le, ↓ev_callv_3_0_1, ↓ev_callv_3_1_1, ↓ev_callv_3_2_1, ↓ev_callv_3_3_1, ↓ev_callv_3_4_1, ↓ev_callv_3_5_1, ↓ev_if_eq, ↓ev_goto, ↓ev_iinc_3_1, ↓ev_iinc_2_1, ↓ev_iret, Nat.reduceAdd]
    try simp (disch := omega) only [pk_mul, nI_add, n_lt0, n_le0, n_eq0, n_ge0, n_gt0, n_lt, n_le, n_eq, n_in, n_div, n_rem, n_rem2, n_m1, nI_clamp, bz_0, bz_1, tI_0, tI_bz, n4, n16, eq_self, Nat.reduceLT, Nat.reduceLeDiff, Nat.reduceEqDiff, Nat.reduceAdd, Nat.reduceMul, Nat.reduceDiv, Nat.reduceMod, Nat.le_refl, decide_eq_false_iff_not, Classical.not_not, true_and, and_true, false_and, and_false, not_true_eq_false, not_false_eq_true, forall_const, true_implies, false_implies, implies_true, ne_eq]
    refine ⟨fun z => absurd z (by omega), fun _ => ?_⟩
    suffices H2 : ∀ (f2 k2 : Nat), k2 + f2 = 64 → k + 1 ≤ k2 → EX (Kd sL (d + 11)) sL md_X4_twins (pI p) 3 [some (.inr (.inr (.inr 7))), some (.inl (nI (twF g.1 k + twK g.1 k k2))), some (.inl (nI k)), some (.inl (nI k2))] [] (h23 h F G) by
      have := H2 (64 - (k + 1)) (k + 1) (by omega) (Nat.le_refl _)
      rw [twK_0 (k + 1) (Nat.le_refl _), Nat.add_zero] at this
      exact this
    intro f2
    induction f2 with
    | zero =>
      intro k2 hk2 h2
      refine EX.go (Kd_mono _ _) [false, true, false, true, false, false, false, false, false, false, false, false] 40 3 ?_
      dsimp only [wpc_s, wsl_t, wsl_f, gD_0, gD_s, ↓denB_n, pI_s, pG_s, pU_n, cb_X4_twins_0, cb_X4_twins_1, cb_X4_twins_2, cb_X4_twins_3, cb_X4_twins_4, cb_X4_twins_5, cb_X4_twins_6, cb_X4_twins_7, cb_X4_twins_8, cb_X4_twins_9, cb_X4_twins_10, cb_X4_twins_11, ↓ev_aload_n_0, ↓ev_callv_1_0_0, ↓ev_callv_1_1_0, ↓ev_callv_1_2_0, ↓ev_callv_1_3_0, ↓ev_callv_1_4_0, ↓ev_iconst_0, ↓ev_istore_n_1, ↓ev_iconst_1, ↓ev_istore_n_2, ↓ev_iload_n_2, ↓ev_bipush_64, ↓ev_icmp_ge, ↓ev_iadd, ↓ev_istore_n_3, ↓ev_iload_n_3, ↓ev_iload_n_1, ↓ev_getf_4_6, ↓ev_iald_o8, ↓ev_iald_o9, ↓ev_iald_o10, ↓ev_iald_o11, ↓ev_iald_o12, ↓ev_iald_o13, ↓ev_iald_o14, ↓ev_iald_o15, ↓ev_iald_o16, ↓ev_if_le, ↓ev_callv_3_0_1, ↓ev_callv_3_1_1, ↓ev_callv_3_2_1, ↓ev_callv_3_3_1, ↓ev_callv_3_4_1, ↓ev_callv_3_5_1, ↓ev_if_eq, ↓ev_goto, ↓ev_iinc_3_1, ↓ev_iinc_2_1, ↓ev_iret, Nat.reduceAdd]
      try simp (disch := omega) only [pk_mul, nI_add, n_lt0, n_le0, n_eq0, n_ge0, n_gt0, n_lt, n_le, n_eq, n_in, n_div, n_rem, n_rem2, n_m1, nI_clamp, bz_0, bz_1, tI_0, tI_bz, n4, n16, eq_self, Nat.reduceLT, Nat.reduceLeDiff, Nat.reduceEqDiff, Nat.reduceAdd, Nat.reduceMul, Nat.reduceDiv, Nat.reduceMod, Nat.le_refl, decide_eq_false_iff_not, Classical.not_not, true_and, and_true, false_and, and_false, not_true_eq_false, not_false_eq_true, forall_const, true_implies, false_implies, implies_true, ne_eq]
      have ih2 := ih (k + 1) (some (.inl (nI k2))) (by omega) (by omega)
      unfold twF at ih2
      rw [if_pos h1] at ih2
      have e64 : k2 = 64 := by omega
      subst e64
      exact ⟨fun _ => ih2, fun z => absurd (show 64 ≤ 64 by omega) z⟩
    | succ f2 ih2 =>
      intro k2 hk2 h2
      refine EX.go (Kd_mono _ _) [false, true, false, true, false, false, false, false, false, false, false, false] 40 3 ?_
      dsimp only [wpc_s, wsl_t, wsl_f, gD_0, gD_s, ↓denB_n, pI_s, pG_s, pU_n, cb_X4_twins_0, cb_X4_twins_1, cb_X4_twins_2, cb_X4_twins_3, cb_X4_twins_4, cb_X4_twins_5, cb_X4_twins_6, cb_X4_twins_7, cb_X4_twins_8, cb_X4_twins_9, cb_X4_twins_10, cb_X4_twins_11, ↓ev_aload_n_0, ↓ev_callv_1_0_0, ↓ev_callv_1_1_0, ↓ev_callv_1_2_0, ↓ev_callv_1_3_0, ↓ev_callv_1_4_0, ↓ev_iconst_0, ↓ev_istore_n_1, ↓ev_iconst_1, ↓ev_istore_n_2, ↓ev_iload_n_2, ↓ev_bipush_64, ↓ev_icmp_ge, ↓ev_iadd, ↓ev_istore_n_3, ↓ev_iload_n_3, ↓ev_iload_n_1, ↓ev_getf_4_6, ↓ev_iald_o8, ↓ev_iald_o9, ↓ev_iald_o10, ↓ev_iald_o11, ↓ev_iald_o12, ↓ev_iald_o13, ↓ev_iald_o14, ↓ev_iald_o15, ↓ev_iald_o16, ↓ev_if_le, ↓ev_callv_3_0_1, ↓ev_callv_3_1_1, ↓ev_callv_3_2_1, ↓ev_callv_3_3_1, ↓ev_callv_3_4_1, ↓ev_callv_3_5_1, ↓ev_if_eq, ↓ev_goto, ↓ev_iinc_3_1, ↓ev_iinc_2_1, ↓ev_iret, Nat.reduceAdd]
      have e1 := hG2 k h1 (by omega)
      have e2 := hG2 k2 (by omega) (by omega)
      have l1 := nmc_le g.1 k
      have l2 := nmc_le g.1 k2
      have d1 := dse_pos (S := g.1) h1
      have d2 := dse_pos (S := g.1) (show 1 ≤ k2 by omega)
      try simp (disch := omega) only [pk_mul, nI_add, n_lt0, n_le0, n_eq0, n_ge0, n_gt0, n_lt, n_le, n_eq, n_in, n_div, n_rem, n_rem2, n_m1, nI_clamp, bz_0, bz_1, tI_0, tI_bz, n4, n16, eq_self, Nat.reduceLT, Nat.reduceLeDiff, Nat.reduceEqDiff, Nat.reduceAdd, Nat.reduceMul, Nat.reduceDiv, Nat.reduceMod, Nat.le_refl, decide_eq_false_iff_not, Classical.not_not, true_and, and_true, false_and, and_false, not_true_eq_false, not_false_eq_true, forall_const, true_implies, false_implies, implies_true, ne_eq, a_13, e1, e2]
      have ih3 := ih2 (k2 + 1) (by omega) (by omega)
      rw [show twK g.1 k (k2 + 1) = twK g.1 k k2 + (if dec (k + 1 ≤ k2 ∧ dseD g.1 k = true ∧ dseD g.1 k2 = true ∧ alk g.1 k k2) then 1 else 0) from rfl] at ih3
      refine ⟨fun z => absurd z (by omega), fun _ => ⟨by omega, fun c => ?_, fun c => ⟨by omega, fun c2 => ?_, fun c2 => ?_⟩⟩⟩
      · rw [if_neg (by rw [dec_t]; exact fun z => absurd (d1.mp z.2.1) (by omega)), ← Nat.add_assoc] at ih3
        exact ih3
      · rw [if_neg (by rw [dec_t]; exact fun z => absurd (d2.mp z.2.2.1) (by omega)), ← Nat.add_assoc] at ih3
        exact ih3
      · refine r_areAlike hG.1.a (by omega) (by omega) ?_
        try simp (disch := omega) only [pk_mul, nI_add, n_lt0, n_le0, n_eq0, n_ge0, n_gt0, n_lt, n_le, n_eq, n_in, n_div, n_rem, n_rem2, n_m1, nI_clamp, bz_0, bz_1, tI_0, tI_bz, n4, n16, eq_self, Nat.reduceLT, Nat.reduceLeDiff, Nat.reduceEqDiff, Nat.reduceAdd, Nat.reduceMul, Nat.reduceDiv, Nat.reduceMod, Nat.le_refl, decide_eq_false_iff_not, Classical.not_not, true_and, and_true, false_and, and_false, not_true_eq_false, not_false_eq_true, forall_const, true_implies, false_implies, implies_true, ne_eq]
        refine ⟨fun c3 => ?_, fun c3 => ?_⟩
        · rw [if_neg (by rw [dec_t]; exact fun z => dec_f.mp c3 z.2.2.2), ← Nat.add_assoc] at ih3
          exact ih3
        · rw [if_pos (by rw [dec_t]; exact ⟨h2, d1.mpr (by omega), d2.mpr (by omega), Classical.not_not.mp (fun z => c3 (dec_f.mpr z))⟩), ← Nat.add_assoc] at ih3
          exact ih3
end RHOLD
