/-! ===== class TornLayers: foresee, settle ===== -/
/-- the deed that is set is act, over S -/
def DS (sL _d : Nat) (h : mH) (act : Nat → Sg → Sg) (S : St) : Prop := ∀ (d' : Nat) (h' : mH) (L : Nat) (p : mH → Prop), (∀ j, 1 ≤ j → j < 5 → h' (.inr 2) j = h (.inr 2) j) → CR h' 0 S → L ≤ 1000000 → (∀ h'', OV h' h'' → TR h'' L (act L (S, 0, 0)) → p h'') → mU (Kd sL (d' + 6)) 39 [.inr (.inr (.inr 2)), .inr (.inr (.inl (0, 0))), .inl (nI L)] h' p
theorem DS.mv {sL d : Nat} {h h1 : mH} {act : Nat → Sg → Sg} {S : St} (hD : DS sL d h act S) (ho : ∀ j, 1 ≤ j → j < 5 → h1 (.inr 2) j = h (.inr 2) j) : DS sL d h1 act S := fun d' h' L p a b c e => hD d' h' L p (fun j h1' h2' => (a j h1' h2').trans (ho j h1' h2')) b c e
def lmf (S : St) : Nat → Nat → Nat
  | 0, s => s
  | f + 1, s => if sn S s = -1 then s else lmf S f (s + 1)
/-- the least snapshot that isn't there -/
def lms (S : St) : Nat := lmf S 8 0
theorem lmf_ok (S : St) : ∀ f s, s + f = 8 → (∀ j, j < s → ¬ sn S j = -1) → lmf S f s ≤ 8 ∧ (∀ j, j < lmf S f s → ¬ sn S j = -1) ∧ (lmf S f s < 8 → sn S (lmf S f s) = -1)
  | 0, s, h, hj => ⟨by unfold lmf; omega, hj, fun h2 => by unfold lmf at h2; omega⟩
  | f + 1, s, h, hj => by
    unfold lmf
    split
    · rename_i e
      exact ⟨by omega, hj, fun _ => e⟩
    · rename_i e
      exact lmf_ok S f (s + 1) (by omega) (fun j h2 => by
        rcases Nat.lt_or_ge j s with q | q
        · exact hj j q
        · rw [show j = s by omega]; exact e)
theorem lms_ok (S : St) : lms S ≤ 8 ∧ (∀ j, j < lms S → ¬ sn S j = -1) ∧ (lms S < 8 → sn S (lms S) = -1) := lmf_ok S 8 0 rfl (fun j h => absurd h (Nat.not_lt_zero j))
/-- what the snapshots' and layers' numbers are -/
def W0 (S : St) : Prop := (∀ s, s < 8 → sn S s = -1 ∨ ∃ l, l < mn S ∧ sn S s = nI l) ∧ (∀ l, l < mn S → bk S l = -1 ∨ ∃ b, b < mn S ∧ bk S l = nI b)
/-- deed kd with these numbers -/
noncomputable def act (S : St) (kd : Nat) (a b c : Int32) (L : Nat) : Sg → Sg := match kd with
  | 0 => wpl L a.toNatClampNeg b.toNatClampNeg c
  | 1 => snp L a.toNatClampNeg (lms S)
  | 2 => drp L a.toNatClampNeg
  | 3 => rvt L (sn S a.toNatClampNeg).toNatClampNeg a.toNatClampNeg
  | 4 => gvu L a.toNatClampNeg b.toNatClampNeg
  | 5 => mrg L a.toNatClampNeg (bk S a.toNatClampNeg).toNatClampNeg
  | 7 => mov L a.toNatClampNeg b c.toNatClampNeg
  | _ => fol L
section FOR
variable {sL d : Nat} {h : mH} {g : Gs} {p : Int32 → mH → Prop}
theorem okL_n {S : St} {x : Int32} (h : okL S x) (h6 : mn S ≤ 6) : ∃ k, k < mn S ∧ x = nI k := by
  obtain ⟨k, hk, rfl⟩ := (i_cases x).resolve_left h.1
  exact ⟨k, by have := h.2; rwa [n_lt hk (by omega)] at this, rfl⟩
theorem okN_n {n : Nat} {x : Int32} (h : okN x n) (hn : n < 2 ^ 31) : ∃ k, k < n ∧ x = nI k := by
  obtain ⟨k, hk, rfl⟩ := (i_cases x).resolve_left h.1
  exact ⟨k, by have := h.2; rwa [n_lt hk hn] at this, rfl⟩
theorem ds_all {kd : Nat} {a b c : Int32} (hC : CR h 0 g.1) (hw : W0 g.1) (hkd : kd < 8) (hf : fit g.1 kd a b c) (hh : ¬ hin g.1 kd a) (e1 : h (.inr 2) 1 = nI kd) (e2 : h (.inr 2) 2 = a) (e3 : h (.inr 2) 3 = b) (e4 : h (.inr 2) 4 = c) : DS sL d h (act g.1 kd a b c) g.1 := by
  intro d' h' L p ho hC' hL hp
  have hm6 := hC.2.2.2.2.2.2.1
  have f1 := (ho 1 (by decide) (by decide)).trans e1
  have f2 := (ho 2 (by decide) (by decide)).trans e2
  have f3 := (ho 3 (by decide) (by decide)).trans e3
  have f4 := (ho 4 (by decide) (by decide)).trans e4
  rcases (show kd = 0 ∨ kd = 1 ∨ kd = 2 ∨ kd = 3 ∨ kd = 4 ∨ kd = 5 ∨ kd = 6 ∨ kd = 7 by omega) with rfl | rfl | rfl | rfl | rfl | rfl | rfl | rfl
  · obtain ⟨k1, g1, rfl⟩ := okL_n hf.1 hm6
    obtain ⟨k2, g2, rfl⟩ := okN_n hf.2.1 (by decide)
    unfold act at hp
    rw [nI_clamp (by omega), nI_clamp (by omega)] at hp
    exact k_go_write hC' hL f1 f2 f3 f4 g1 g2 hp
  · obtain ⟨k1, g1, rfl⟩ := okL_n hf hm6
    obtain ⟨s1, s2, s3⟩ := lms_ok g.1
    have s8 : lms g.1 < 8 := by
      rcases Nat.lt_or_ge (lms g.1) 8 with q | q
      · exact q
      · exact absurd (Or.inl ⟨rfl, fun j hj => s2 j (by omega)⟩) hh
    unfold act at hp
    rw [nI_clamp (by omega)] at hp
    exact k_go_snap hC' hL f1 f2 g1 s8 s2 (s3 s8) hp
  · obtain ⟨k1, g1, rfl⟩ := okN_n hf.1 (by decide)
    unfold act at hp
    rw [nI_clamp (by omega)] at hp
    exact k_go_drop hC' hL f1 f2 g1 hp
  · obtain ⟨k1, g1, rfl⟩ := okN_n hf.1 (by decide)
    have g2 := hf.2
    rw [nI_clamp (by omega)] at g2
    obtain ⟨l, hl, el⟩ := (hw.1 k1 g1).resolve_left g2
    unfold act at hp
    rw [nI_clamp (by omega), el, nI_clamp (by omega)] at hp
    exact k_go_revert hC' hL f1 f2 g1 el hl hp
  · obtain ⟨k1, g1, rfl⟩ := okL_n hf.1 hm6
    obtain ⟨k2, g2, rfl⟩ := okN_n hf.2 (by decide)
    unfold act at hp
    rw [nI_clamp (by omega), nI_clamp (by omega)] at hp
    exact k_go_giveUp hC' hL f1 f2 f3 g1 g2 hp
  · obtain ⟨k1, g1, rfl⟩ := okL_n hf hm6
    have g2 : ¬ bk g.1 k1 = -1 := fun z => hh (Or.inr ⟨rfl, by rw [nI_clamp (by omega)]; exact z⟩)
    obtain ⟨bb, hb, eb⟩ := (hw.2 k1 g1).resolve_left g2
    unfold act at hp
    rw [nI_clamp (by omega), eb, nI_clamp (by omega)] at hp
    exact k_go_merge hC' hL f1 f2 g1 eb hb hp
  · exact k_go_fold hC' hL f1 hp
  · obtain ⟨k1, g1, rfl⟩ := okL_n hf.1 hm6
    unfold act at hp
    rw [nI_clamp (by omega)] at hp
    rcases hf.2.2 with z | z
    · subst z
      exact k_go_move (safe := 0) hC' hL f1 f2 f3 f4 g1 (by decide) hp
    · subst z
      exact k_go_move (safe := 1) hC' hL f1 f2 f3 f4 g1 (by decide) hp
/-- the run with no limit -/
noncomputable def tau (S : St) (kd : Nat) (a b c : Int32) : Sg := act S kd a b c 1000000 (S, 0, 0)
noncomputable def rnd (S : St) (kd : Nat) (a b : Int32) : Bool := decide (kd = 7) && sto S 6 b a
theorem k_foresee {kd : Nat} {a b c : Int32} (hG : CG h g) (hw : W0 g.1) (hkd : kd < 8)
    (p1 : ¬ fit g.1 kd a b c → ∀ h', FX h h' → CG h' (rfs g 0) → p (rc 0) h')
    (p2 : fit g.1 kd a b c → (lk g.1 = true ∨ hin g.1 kd a) → ∀ h', FX h h' → CG h' (rfs g 2) → p (rc 2) h')
    (p3 : fit g.1 kd a b c → lk g.1 = false → ¬ hin g.1 kd a → rnd g.1 kd a b = true → ∀ h', FX h h' → CG h' (rfs g 3) → p (rc 3) h')
    (p4 : fit g.1 kd a b c → lk g.1 = false → ¬ hin g.1 kd a → rnd g.1 kd a b = false → (tau g.1 kd a b c).2.2 = 2 → ∀ h', FX h h' → CG h' (rfs g 1) → p (rc 1) h')
    (p5 : fit g.1 kd a b c → lk g.1 = false → ¬ hin g.1 kd a → rnd g.1 kd a b = false → ¬ (tau g.1 kd a b c).2.2 = 2 → ∀ h', FX h h' → CG h' g → TR h' 1000000 (tau g.1 kd a b c) → DS sL d h' (act g.1 kd a b c) g.1 → p (nI (tau g.1 kd a b c).2.1) h') : mI (Kd sL (d + 7)) 89 [.inr (.inr (.inr 0)), .inl (nI kd), .inl a, .inl b, .inl c] h p := by
  refine ke_X3_foresee ?_
  refine EX.go (Kd_mono _ _) [false, false, false, false, true, false, false, false, true, false, false, false] 40 0 ?_
  dsimp only [wpc_s, wsl_t, wsl_f, gD_0, gD_s, ↓denB_n, pI_s, pG_s, pU_n, cb_X3_foresee_0, cb_X3_foresee_1, cb_X3_foresee_2, cb_X3_foresee_3, cb_X3_foresee_4, cb_X3_foresee_5, cb_X3_foresee_6, cb_X3_foresee_7, cb_X3_foresee_8, cb_X3_foresee_9, cb_X3_foresee_10, cb_X3_foresee_11, ↓ev_aload_n_0, ↓ev_iload_n_1, ↓ev_iload_n_2, ↓ev_iload_n_3, ↓ev_iload_4, ↓ev_callv_5_0_1, ↓ev_callv_5_1_1, ↓ev_callv_5_2_1, ↓ev_callv_5_3_1, ↓ev_callv_5_4_1, ↓ev_if_ne, ↓ev_sipush_m1001, ↓ev_callv_2_0_1, ↓ev_callv_2_1_1, ↓ev_callv_2_2_1, ↓ev_callv_2_3_1, ↓ev_callv_2_4_1, ↓ev_iret, ↓ev_getf_3_0, ↓ev_callv_1_0_2, ↓ev_callv_1_1_2, ↓ev_callv_1_2_2, ↓ev_callv_1_3_2, ↓ev_callv_1_4_2, ↓ev_lconst_0, ↓ev_lcmp, ↓ev_callv_3_0_1, ↓ev_callv_3_1_1, ↓ev_callv_3_2_1, ↓ev_callv_3_3_1, ↓ev_callv_3_4_1, ↓ev_callv_3_5_1, ↓ev_if_eq, ↓ev_sipush_m1003, ↓ev_bipush_7, ↓ev_icmp_ne, ↓ev_sipush_m1004, ↓ev_getf_3_2, ↓ev_callv_5_0_0, ↓ev_callv_5_1_0, ↓ev_callv_5_2_0, ↓ev_callv_5_3_0, ↓ev_callv_5_4_0, ↓ev_ldc_1000000, ↓ev_callv_3_0_0, ↓ev_callv_3_1_0, ↓ev_callv_3_2_0, ↓ev_callv_3_3_0, ↓ev_callv_3_4_0, ↓ev_getf_2_7, ↓ev_sipush_m1002, ↓ev_goto, ↓ev_getf_2_6, Nat.reduceAdd]
  refine k_fits hG.1 hkd ?_
  try simp (disch := omega) only [pk_mul, nI_add, n_lt0, n_le0, n_eq0, n_ge0, n_gt0, n_lt, n_le, n_eq, n_in, n_div, n_rem, n_rem2, n_m1, nI_clamp, bz_0, bz_1, tI_0, tI_bz, n4, n16, eq_self, Nat.reduceLT, Nat.reduceLeDiff, Nat.reduceEqDiff, Nat.reduceAdd, Nat.reduceMul, Nat.reduceDiv, Nat.reduceMod, Nat.le_refl, decide_eq_false_iff_not, Classical.not_not, true_and, and_true, false_and, and_false, not_true_eq_false, not_false_eq_true, forall_const, true_implies, false_implies, implies_true, ne_eq, dec_f]
  refine ⟨fun c1 => ?_, fun c1 => k_refuse hG (by decide) (p1 c1)⟩
  refine k_lackSet hG.1 (fun h1 o1 c1' => ?_)
  have hG1 := hG.oi o1 c1'
  have fx1 := o1.fx
  try simp (disch := omega) only [pk_mul, nI_add, n_lt0, n_le0, n_eq0, n_ge0, n_gt0, n_lt, n_le, n_eq, n_in, n_div, n_rem, n_rem2, n_m1, nI_clamp, bz_0, bz_1, tI_0, tI_bz, n4, n16, eq_self, Nat.reduceLT, Nat.reduceLeDiff, Nat.reduceEqDiff, Nat.reduceAdd, Nat.reduceMul, Nat.reduceDiv, Nat.reduceMod, Nat.le_refl, decide_eq_false_iff_not, Classical.not_not, true_and, and_true, false_and, and_false, not_true_eq_false, not_false_eq_true, forall_const, true_implies, false_implies, implies_true, ne_eq, lg_cmp0, lk_lOr]
  have J4 : (lk g.1 = true ∨ hin g.1 kd a) → ∀ h1, FX h h1 → CG h1 g → EX (Kd sL (d + 6)) sL md_X3_foresee (pI p) 4 [some (.inr (.inr (.inr 0))), some (.inl (nI kd)), some (.inl a), some (.inl b), some (.inl c)] [] h1 := by
    intro hc h1 fx1 hG1
    refine EX.go (Kd_mono _ _) [false, false, false, false, false, false, false, false, false, false, false, false] 40 4 ?_
    dsimp only [wpc_s, wsl_t, wsl_f, gD_0, gD_s, ↓denB_n, pI_s, pG_s, pU_n, cb_X3_foresee_0, cb_X3_foresee_1, cb_X3_foresee_2, cb_X3_foresee_3, cb_X3_foresee_4, cb_X3_foresee_5, cb_X3_foresee_6, cb_X3_foresee_7, cb_X3_foresee_8, cb_X3_foresee_9, cb_X3_foresee_10, cb_X3_foresee_11, ↓ev_aload_n_0, ↓ev_iload_n_1, ↓ev_iload_n_2, ↓ev_iload_n_3, ↓ev_iload_4, ↓ev_callv_5_0_1, ↓ev_callv_5_1_1, ↓ev_callv_5_2_1, ↓ev_callv_5_3_1, ↓ev_callv_5_4_1, ↓ev_if_ne, ↓ev_sipush_m1001, ↓ev_callv_2_0_1, ↓ev_callv_2_1_1, ↓ev_callv_2_2_1, ↓ev_callv_2_3_1, ↓ev_callv_2_4_1, ↓ev_iret, ↓ev_getf_3_0, ↓ev_callv_1_0_2, ↓ev_callv_1_1_2, ↓ev_callv_1_2_2, ↓ev_callv_1_3_2, ↓ev_callv_1_4_2, ↓ev_lconst_0, ↓ev_lcmp, ↓ev_callv_3_0_1, ↓ev_callv_3_1_1, ↓ev_callv_3_2_1, ↓ev_callv_3_3_1, ↓ev_callv_3_4_1, ↓ev_callv_3_5_1, ↓ev_if_eq, ↓ev_sipush_m1003, ↓ev_bipush_7, ↓ev_icmp_ne, ↓ev_sipush_m1004, ↓ev_getf_3_2, ↓ev_callv_5_0_0, ↓ev_callv_5_1_0, ↓ev_callv_5_2_0, ↓ev_callv_5_3_0, ↓ev_callv_5_4_0, ↓ev_ldc_1000000, ↓ev_callv_3_0_0, ↓ev_callv_3_1_0, ↓ev_callv_3_2_0, ↓ev_callv_3_3_0, ↓ev_callv_3_4_0, ↓ev_getf_2_7, ↓ev_sipush_m1002, ↓ev_goto, ↓ev_getf_2_6, Nat.reduceAdd]
    exact k_refuse hG1 (j := 2) (by decide) (fun h2 f2 g2 => p2 c1 hc h2 (fx1.tr f2) g2)
  refine ⟨fun c2 => J4 (Or.inl (by simpa using c2)) h1 fx1 hG1, fun c2 => ?_⟩
  refine k_isHindered hG1.1 hkd c1 ?_
  try simp (disch := omega) only [pk_mul, nI_add, n_lt0, n_le0, n_eq0, n_ge0, n_gt0, n_lt, n_le, n_eq, n_in, n_div, n_rem, n_rem2, n_m1, nI_clamp, bz_0, bz_1, tI_0, tI_bz, n4, n16, eq_self, Nat.reduceLT, Nat.reduceLeDiff, Nat.reduceEqDiff, Nat.reduceAdd, Nat.reduceMul, Nat.reduceDiv, Nat.reduceMod, Nat.le_refl, decide_eq_false_iff_not, Classical.not_not, true_and, and_true, false_and, and_false, not_true_eq_false, not_false_eq_true, forall_const, true_implies, false_implies, implies_true, ne_eq, dec_f]
  refine ⟨fun c3 => ?_, fun c3 => J4 (Or.inr c3) h1 fx1 hG1⟩
  have J8 : rnd g.1 kd a b = false → EX (Kd sL (d + 6)) sL md_X3_foresee (pI p) 8 [some (.inr (.inr (.inr 0))), some (.inl (nI kd)), some (.inl a), some (.inl b), some (.inl c)] [] h1 := by
    intro hr
    refine EX.go (Kd_mono _ _) [false, false, false, false, false, false, false, false, false, false, false, false] 40 8 ?_
    dsimp only [wpc_s, wsl_t, wsl_f, gD_0, gD_s, ↓denB_n, pI_s, pG_s, pU_n, cb_X3_foresee_0, cb_X3_foresee_1, cb_X3_foresee_2, cb_X3_foresee_3, cb_X3_foresee_4, cb_X3_foresee_5, cb_X3_foresee_6, cb_X3_foresee_7, cb_X3_foresee_8, cb_X3_foresee_9, cb_X3_foresee_10, cb_X3_foresee_11, ↓ev_aload_n_0, ↓ev_iload_n_1, ↓ev_iload_n_2, ↓ev_iload_n_3, ↓ev_iload_4, ↓ev_callv_5_0_1, ↓ev_callv_5_1_1, ↓ev_callv_5_2_1, ↓ev_callv_5_3_1, ↓ev_callv_5_4_1, ↓ev_if_ne, ↓ev_sipush_m1001, ↓ev_callv_2_0_1, ↓ev_callv_2_1_1, ↓ev_callv_2_2_1, ↓ev_callv_2_3_1, ↓ev_callv_2_4_1, ↓ev_iret, ↓ev_getf_3_0, ↓ev_callv_1_0_2, ↓ev_callv_1_1_2, ↓ev_callv_1_2_2, ↓ev_callv_1_3_2, ↓ev_callv_1_4_2, ↓ev_lconst_0, ↓ev_lcmp, ↓ev_callv_3_0_1, ↓ev_callv_3_1_1, ↓ev_callv_3_2_1, ↓ev_callv_3_3_1, ↓ev_callv_3_4_1, ↓ev_callv_3_5_1, ↓ev_if_eq, ↓ev_sipush_m1003, ↓ev_bipush_7, ↓ev_icmp_ne, ↓ev_sipush_m1004, ↓ev_getf_3_2, ↓ev_callv_5_0_0, ↓ev_callv_5_1_0, ↓ev_callv_5_2_0, ↓ev_callv_5_3_0, ↓ev_callv_5_4_0, ↓ev_ldc_1000000, ↓ev_callv_3_0_0, ↓ev_callv_3_1_0, ↓ev_callv_3_2_0, ↓ev_callv_3_3_0, ↓ev_callv_3_4_0, ↓ev_getf_2_7, ↓ev_sipush_m1002, ↓ev_goto, ↓ev_getf_2_6, Nat.reduceAdd]
    refine k_set (fun h2 o2 e1 e2 e3 e4 => ?_)
    have hv : ∀ r, r ≠ .inr 2 → h2 r = h1 r := o2
    have hG2 : CG h2 g := by
      obtain ⟨q1, q2, q3, q4, q5, q6, q7, q8⟩ := hG1
      have hcr : ∀ (i : Fin 3) (S : St), CR h1 i S → CR h2 i S := by
        intro i S hC
        obtain ⟨w1, w2, w3, w4, w5, w6, w7, w8⟩ := hC
        refine ⟨?_, ?_, ?_, ?_, ?_, ?_, w7, ?_⟩
        all_goals (rw [hv _ (by simp)]; assumption)
      refine ⟨hcr _ _ q1, fun z => hcr _ _ (q2 z), ?_, ?_, ?_, ?_, q7, ?_⟩
      all_goals (rw [hv _ (by simp)]; assumption)
    have fx2 : FX h1 h2 := fun n hn => hv _ (fun z => by cases z; omega)
    have hD := ds_all (sL := sL) (d := d) hG2.1 hw hkd c1 c3 e1 e2 e3 e4
    refine hD _ h2 1000000 _ (fun _ _ _ => rfl) hG2.1 (Nat.le_refl _) (fun h3 o3 t3 => ?_)
    have hG3 := hG2.ov o3
    have t3 : TR h3 1000000 (tau g.1 kd a b c) := t3
    have e7 := t3.2.2.2.1
    have e6 := t3.2.2.1
    rw [e7, e6, hk_2 t3.2.2.2.2.2.2]
    refine ⟨fun c4 => p5 c1 (by simpa using c2) c3 hr c4 h3 (fx1.tr (fx2.tr o3.fx)) hG3 t3 (hD.mv (fun j _ h5 => o3.2 j h5)), fun c4 => ?_⟩
    exact k_refuse hG3 (j := 1) (by decide) (fun h4 f4 g4 => p4 c1 (by simpa using c2) c3 hr (by simpa using c4) h4 (fx1.tr (fx2.tr (o3.fx.tr f4))) g4)
  refine ⟨fun c4 => J8 (by simp [rnd, c4]), fun c4 => ?_⟩
  refine k_standsOn hG1.1 ?_
  try simp (disch := omega) only [pk_mul, nI_add, n_lt0, n_le0, n_eq0, n_ge0, n_gt0, n_lt, n_le, n_eq, n_in, n_div, n_rem, n_rem2, n_m1, nI_clamp, bz_0, bz_1, tI_0, tI_bz, n4, n16, eq_self, Nat.reduceLT, Nat.reduceLeDiff, Nat.reduceEqDiff, Nat.reduceAdd, Nat.reduceMul, Nat.reduceDiv, Nat.reduceMod, Nat.le_refl, decide_eq_false_iff_not, Classical.not_not, true_and, and_true, false_and, and_false, not_true_eq_false, not_false_eq_true, forall_const, true_implies, false_implies, implies_true, ne_eq]
  refine ⟨fun c5 => J8 (by simp [rnd, c5]), fun c5 => ?_⟩
  exact k_refuse hG1 (j := 3) (by decide) (fun h2 f2 g2 => p3 c1 (by simpa using c2) c3 (by simp [rnd, c4]; simpa using c5) h2 (fx1.tr f2) g2)
end FOR
