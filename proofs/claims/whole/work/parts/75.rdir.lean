/-! ===== the reference: directories, records, releases ===== -/
def OD (h h' : mH) : Prop := (∀ r, r ≠ .inr 7 → r ≠ .inr 8 → r ≠ .inr 12 → r ≠ .inr 13 → r ≠ .inr 14 → h' r = h r) ∧ ∀ j, j ≠ 7 → j ≠ 9 → j ≠ 10 → h' (.inr 7) j = h (.inr 7) j
theorem OD.rf {h : mH} : OD h h := ⟨fun _ _ _ _ _ _ => rfl, fun _ _ _ _ => rfl⟩
theorem OD.tr {h h1 h2 : mH} (a : OD h h1) (b : OD h1 h2) : OD h h2 := ⟨fun r p q s t u => (b.1 r p q s t u).trans (a.1 r p q s t u), fun j p q t => (b.2 j p q t).trans (a.2 j p q t)⟩
theorem OC.od {h h' : mH} (a : OC h h') : OD h h' := ⟨fun r p q _ _ _ => a.1 r p q, a.2⟩
theorem OD.p14 {h : mH} {f : Nat → Int32} : OD h (hpt h (.inr 14) f) := ⟨fun r _ _ _ _ p => hpt_ne p, fun j _ _ _ => by rw [hpt_ne (by simp)]⟩
theorem OD.p23 {h : mH} {f g : Nat → Int32} : OD h (h23 h f g) := ⟨fun r _ _ p q _ => a_o p q, fun j _ _ _ => by rw [a_o (by simp) (by simp)]⟩
theorem RR.o {h h' : mH} {L : Nat} {σ : Sg} (hR : RR h L σ) (h7 : h' (.inr 7) = h (.inr 7)) (h8 : h' (.inr 8) = h (.inr 8)) : RR h' L σ := by
  obtain ⟨h1, h2, h3, h4, h5, h6⟩ := hR
  refine ⟨fun j hj => by rw [h8]; exact h1 j hj, ?_, ?_, ?_, ?_, h6⟩
  all_goals (rw [h7]; assumption)
theorem RR.p14 {h : mH} {L : Nat} {σ : Sg} {f : Nat → Int32} (hR : RR h L σ) : RR (hpt h (.inr 14) f) L σ := hR.o (hpt_ne (by simp)) (hpt_ne (by simp))
theorem RR.p23 {h : mH} {L : Nat} {σ : Sg} {f g : Nat → Int32} (hR : RR h L σ) : RR (h23 h f g) L σ := hR.o (a_o (by simp) (by simp)) a_8
section RDIR
variable {sL d L B M : Nat} {h : mH} {σ : Sg} {q : mH → Prop}
theorem r_remembers {dd : Nat} (hR : RR h L σ) (hw : WF σ.1) (hd : dd < 14) (hq : prs σ.1 dd = true) (hp : ∀ h', OD h h' → RR h' L σ → (∀ i, i < 4 → h' (.inr 14) i = nI (tb σ.1 dd i)) → q h') : mU (Kd sL (d + 2)) 131 [.inr (.inr (.inr 7)), .inl (nI dd)] h q := by
  refine ke_X4_remembers ?_
  refine EX.go (Kd_mono _ _) [false, true, false, false] 40 0 ?_
  dsimp only [wpc_s, wsl_t, wsl_f, gD_0, gD_s, ↓denB_n, pI_s, pG_s, pU_n, cb_X4_remembers_0, cb_X4_remembers_1, cb_X4_remembers_2, cb_X4_remembers_3, ↓ev_iconst_0, ↓ev_istore_n_2, ↓ev_iload_n_2, ↓ev_iconst_4, ↓ev_icmp_ge, ↓ev_aload_n_0, ↓ev_getf_4_12, ↓ev_getf_4_0, ↓ev_iload_n_1, ↓ev_calls_2_0_1, ↓ev_calls_2_1_1, ↓ev_calls_2_2_1, ↓ev_calls_2_3_1, ↓ev_calls_2_4_1, ↓ev_iald_o8, ↓ev_iald_o9, ↓ev_iald_o10, ↓ev_iald_o11, ↓ev_iald_o12, ↓ev_iald_o13, ↓ev_iald_o14, ↓ev_iald_o15, ↓ev_iald_o16, ↓ev_iast_o8, ↓ev_iast_o9, ↓ev_iast_o10, ↓ev_iast_o11, ↓ev_iast_o12, ↓ev_iast_o13, ↓ev_iast_o14, ↓ev_iast_o15, ↓ev_iast_o16, ↓ev_iinc_2_1, ↓ev_goto, ↓ev_ret, Nat.reduceAdd]
  suffices H : ∀ (f k : Nat) (g : Nat → Int32), k + f = 4 → (∀ j, j < k → g j = nI (tb σ.1 dd j)) → EX (Kd sL (d + 1)) sL md_X4_remembers (pU q) 1 [some (.inr (.inr (.inr 7))), some (.inl (nI dd)), some (.inl (nI k))] [] (hpt h (.inr 14) g) by
    have := H 4 0 (h (.inr 14)) rfl (fun j hj => absurd hj (Nat.not_lt_zero j))
    rwa [hpt_eta] at this
  intro f
  induction f with
  | zero =>
    intro k g hk hg
    refine EX.go (Kd_mono _ _) [false, true, false, false] 40 1 ?_
    dsimp only [wpc_s, wsl_t, wsl_f, gD_0, gD_s, ↓denB_n, pI_s, pG_s, pU_n, cb_X4_remembers_0, cb_X4_remembers_1, cb_X4_remembers_2, cb_X4_remembers_3, ↓ev_iconst_0, ↓ev_istore_n_2, ↓ev_iload_n_2, ↓ev_iconst_4, ↓ev_icmp_ge, ↓ev_aload_n_0, ↓ev_getf_4_12, ↓ev_getf_4_0, ↓ev_iload_n_1, ↓ev_calls_2_0_1, ↓ev_calls_2_1_1, ↓ev_calls_2_2_1, ↓ev_calls_2_3_1, ↓ev_calls_2_4_1, ↓ev_iald_o8, ↓ev_iald_o9, ↓ev_iald_o10, ↓ev_iald_o11, ↓ev_iald_o12, ↓ev_iald_o13, ↓ev_iald_o14, ↓ev_iald_o15, ↓ev_iald_o16, ↓ev_iast_o8, ↓ev_iast_o9, ↓ev_iast_o10, ↓ev_iast_o11, ↓ev_iast_o12, ↓ev_iast_o13, ↓ev_iast_o14, ↓ev_iast_o15, ↓ev_iast_o16, ↓ev_iinc_2_1, ↓ev_goto, ↓ev_ret, Nat.reduceAdd]
    try simp (disch := omega) only [pk_mul, nI_add, n_lt0, n_le0, n_eq0, n_ge0, n_gt0, n_lt, n_le, n_eq, n_in, n_div, n_rem, n_rem2, n_m1, nI_clamp, bz_0, bz_1, tI_0, tI_bz, n4, n16, eq_self, Nat.reduceLT, Nat.reduceLeDiff, Nat.reduceEqDiff, Nat.reduceAdd, Nat.reduceMul, Nat.reduceDiv, Nat.reduceMod, Nat.le_refl, decide_eq_false_iff_not, Classical.not_not, true_and, and_true, false_and, and_false, not_true_eq_false, not_false_eq_true, forall_const, true_implies, false_implies, implies_true, ne_eq]
    refine ⟨fun _ => hp _ OD.p14 hR.p14 (fun i hi => ?_), fun c => absurd (show 4 ≤ k by omega) c⟩
    rw [hpt_self]
    exact hg i (by omega)
  | succ f ih =>
    intro k g hk hg
    refine EX.go (Kd_mono _ _) [false, true, false, false] 40 1 ?_
    dsimp only [wpc_s, wsl_t, wsl_f, gD_0, gD_s, ↓denB_n, pI_s, pG_s, pU_n, cb_X4_remembers_0, cb_X4_remembers_1, cb_X4_remembers_2, cb_X4_remembers_3, ↓ev_iconst_0, ↓ev_istore_n_2, ↓ev_iload_n_2, ↓ev_iconst_4, ↓ev_icmp_ge, ↓ev_aload_n_0, ↓ev_getf_4_12, ↓ev_getf_4_0, ↓ev_iload_n_1, ↓ev_calls_2_0_1, ↓ev_calls_2_1_1, ↓ev_calls_2_2_1, ↓ev_calls_2_3_1, ↓ev_calls_2_4_1, ↓ev_iald_o8, ↓ev_iald_o9, ↓ev_iald_o10, ↓ev_iald_o11, ↓ev_iald_o12, ↓ev_iald_o13, ↓ev_iald_o14, ↓ev_iald_o15, ↓ev_iald_o16, ↓ev_iast_o8, ↓ev_iast_o9, ↓ev_iast_o10, ↓ev_iast_o11, ↓ev_iast_o12, ↓ev_iast_o13, ↓ev_iast_o14, ↓ev_iast_o15, ↓ev_iast_o16, ↓ev_iinc_2_1, ↓ev_goto, ↓ev_ret, Nat.reduceAdd]
    try simp (disch := omega) only [pk_mul, nI_add, n_lt0, n_le0, n_eq0, n_ge0, n_gt0, n_lt, n_le, n_eq, n_in, n_div, n_rem, n_rem2, n_m1, nI_clamp, bz_0, bz_1, tI_0, tI_bz, n4, n16, eq_self, Nat.reduceLT, Nat.reduceLeDiff, Nat.reduceEqDiff, Nat.reduceAdd, Nat.reduceMul, Nat.reduceDiv, Nat.reduceMod, Nat.le_refl, decide_eq_false_iff_not, Classical.not_not, true_and, and_true, false_and, and_false, not_true_eq_false, not_false_eq_true, forall_const, true_implies, false_implies, implies_true, ne_eq]
    refine ⟨fun c => absurd c (by omega), fun _ => ?_⟩
    refine r_dir ?_
    have e : hpt h (.inr 14) g (.inr 8) (327 + 4 * dd + k) = nI (tb σ.1 dd k) := by rw [hR.p14.1 _ (by omega), hw.dr hd (by omega) hq]
    try simp (disch := omega) only [pk_mul, nI_add, n_lt0, n_le0, n_eq0, n_ge0, n_gt0, n_lt, n_le, n_eq, n_in, n_div, n_rem, n_rem2, n_m1, nI_clamp, bz_0, bz_1, tI_0, tI_bz, n4, n16, eq_self, Nat.reduceLT, Nat.reduceLeDiff, Nat.reduceEqDiff, Nat.reduceAdd, Nat.reduceMul, Nat.reduceDiv, Nat.reduceMod, Nat.le_refl, decide_eq_false_iff_not, Classical.not_not, true_and, and_true, false_and, and_false, not_true_eq_false, not_false_eq_true, forall_const, true_implies, false_implies, implies_true, ne_eq, e, hup_hpt]
    refine ⟨by omega, by omega, ih (k + 1) _ (by omega) (fun j hj => ?_)⟩
    by_cases z : j = k
    · subst z; rw [pk_us]
    · rw [pk_un z]; exact hg j (by omega)
theorem rlk_hi {t j : Nat} (hj : 64 ≤ j) : ∀ (f k : Nat) (τ : Sg), (rlk L t f k τ).1 j = τ.1 j
  | 0, _, _ => rfl
  | f + 1, k, τ => by
    unfold rlk
    split
    · rw [rlk_hi hj f (k + 1), addc_hi (dt_lt _ _ _) hj]
    · rfl
theorem rel1_hi {t j : Nat} (ht : t < 64) (hj : 64 ≤ j) (τ : Sg) : (rel1 L t τ).1 j = τ.1 j := by
  unfold rel1
  split
  · rfl
  · rw [rlk_hi hj, addc_hi ht hj]
theorem rlF_hi {T : Nat → Nat} {j : Nat} (hT : ∀ i, T i < 64) (hj : 64 ≤ j) : ∀ (i : Nat) (τ : Sg), (rlF L T i τ).1 j = τ.1 j
  | 0, _ => rfl
  | i + 1, τ => by
    unfold rlF
    rw [rel1_hi (hT i) hj, rlF_hi hT hj i]
theorem r_releasesHad {T : Nat → Nat} (hR : RR h L σ) (hh : ∀ i, i < 4 → h (.inr 14) i = nI (T i)) (hT : ∀ i, T i < 64) (hc : ∀ i k, i < 4 → k < 4 → σ.1 (64 + 4 * T i + k) = nI (dt σ.1 (T i) k)) (hne : ∀ i, i < 4 → ¬ T i = 0 → ∀ k, k < 4 → ¬ dt σ.1 (T i) k = T i) (hp : ∀ h', OC h h' → RR h' L (rlF L T 4 σ) → q h') : mU (Kd sL (d + 5)) 132 [.inr (.inr (.inr 7))] h q := by
  refine ke_X4_releasesHad ?_
  refine EX.go (Kd_mono _ _) [false, true, false, false] 40 0 ?_
  dsimp only [wpc_s, wsl_t, wsl_f, gD_0, gD_s, ↓denB_n, pI_s, pG_s, pU_n, cb_X4_releasesHad_0, cb_X4_releasesHad_1, cb_X4_releasesHad_2, cb_X4_releasesHad_3, ↓ev_iconst_0, ↓ev_istore_n_1, ↓ev_iload_n_1, ↓ev_iconst_4, ↓ev_icmp_ge, ↓ev_aload_n_0, ↓ev_getf_4_12, ↓ev_iald_o8, ↓ev_iald_o9, ↓ev_iald_o10, ↓ev_iald_o11, ↓ev_iald_o12, ↓ev_iald_o13, ↓ev_iald_o14, ↓ev_iald_o15, ↓ev_iald_o16, ↓ev_callv_2_0_0, ↓ev_callv_2_1_0, ↓ev_callv_2_2_0, ↓ev_callv_2_3_0, ↓ev_callv_2_4_0, ↓ev_iinc_1_1, ↓ev_goto, ↓ev_ret, Nat.reduceAdd]
  suffices H : ∀ (f k : Nat) (h2 : mH), k + f = 4 → OC h h2 → RR h2 L (rlF L T k σ) → EX (Kd sL (d + 4)) sL md_X4_releasesHad (pU q) 1 [some (.inr (.inr (.inr 7))), some (.inl (nI k))] [] h2 from H 4 0 h rfl OC.rf hR
  intro f
  induction f with
  | zero =>
    intro k h2 hk o2 t2
    refine EX.go (Kd_mono _ _) [false, true, false, false] 40 1 ?_
    dsimp only [wpc_s, wsl_t, wsl_f, gD_0, gD_s, ↓denB_n, pI_s, pG_s, pU_n, cb_X4_releasesHad_0, cb_X4_releasesHad_1, cb_X4_releasesHad_2, cb_X4_releasesHad_3, ↓ev_iconst_0, ↓ev_istore_n_1, ↓ev_iload_n_1, ↓ev_iconst_4, ↓ev_icmp_ge, ↓ev_aload_n_0, ↓ev_getf_4_12, ↓ev_iald_o8, ↓ev_iald_o9, ↓ev_iald_o10, ↓ev_iald_o11, ↓ev_iald_o12, ↓ev_iald_o13, ↓ev_iald_o14, ↓ev_iald_o15, ↓ev_iald_o16, ↓ev_callv_2_0_0, ↓ev_callv_2_1_0, ↓ev_callv_2_2_0, ↓ev_callv_2_3_0, ↓ev_callv_2_4_0, ↓ev_iinc_1_1, ↓ev_goto, ↓ev_ret, Nat.reduceAdd]
    try simp (disch := omega) only [pk_mul, nI_add, n_lt0, n_le0, n_eq0, n_ge0, n_gt0, n_lt, n_le, n_eq, n_in, n_div, n_rem, n_rem2, n_m1, nI_clamp, bz_0, bz_1, tI_0, tI_bz, n4, n16, eq_self, Nat.reduceLT, Nat.reduceLeDiff, Nat.reduceEqDiff, Nat.reduceAdd, Nat.reduceMul, Nat.reduceDiv, Nat.reduceMod, Nat.le_refl, decide_eq_false_iff_not, Classical.not_not, true_and, and_true, false_and, and_false, not_true_eq_false, not_false_eq_true, forall_const, true_implies, false_implies, implies_true, ne_eq]
    rw [show k = 4 by omega] at t2
    exact ⟨fun _ => hp h2 o2 t2, fun c => absurd (show 4 ≤ k by omega) c⟩
  | succ f ih =>
    intro k h2 hk o2 t2
    refine EX.go (Kd_mono _ _) [false, true, false, false] 40 1 ?_
    dsimp only [wpc_s, wsl_t, wsl_f, gD_0, gD_s, ↓denB_n, pI_s, pG_s, pU_n, cb_X4_releasesHad_0, cb_X4_releasesHad_1, cb_X4_releasesHad_2, cb_X4_releasesHad_3, ↓ev_iconst_0, ↓ev_istore_n_1, ↓ev_iload_n_1, ↓ev_iconst_4, ↓ev_icmp_ge, ↓ev_aload_n_0, ↓ev_getf_4_12, ↓ev_iald_o8, ↓ev_iald_o9, ↓ev_iald_o10, ↓ev_iald_o11, ↓ev_iald_o12, ↓ev_iald_o13, ↓ev_iald_o14, ↓ev_iald_o15, ↓ev_iald_o16, ↓ev_callv_2_0_0, ↓ev_callv_2_1_0, ↓ev_callv_2_2_0, ↓ev_callv_2_3_0, ↓ev_callv_2_4_0, ↓ev_iinc_1_1, ↓ev_goto, ↓ev_ret, Nat.reduceAdd]
    have e : h2 (.inr 14) k = nI (T k) := by rw [o2.1 _ (by simp) (by simp)]; exact hh k (by omega)
    try simp (disch := omega) only [pk_mul, nI_add, n_lt0, n_le0, n_eq0, n_ge0, n_gt0, n_lt, n_le, n_eq, n_in, n_div, n_rem, n_rem2, n_m1, nI_clamp, bz_0, bz_1, tI_0, tI_bz, n4, n16, eq_self, Nat.reduceLT, Nat.reduceLeDiff, Nat.reduceEqDiff, Nat.reduceAdd, Nat.reduceMul, Nat.reduceDiv, Nat.reduceMod, Nat.le_refl, decide_eq_false_iff_not, Classical.not_not, true_and, and_true, false_and, and_false, not_true_eq_false, not_false_eq_true, forall_const, true_implies, false_implies, implies_true, ne_eq, e]
    have e2 : ∀ t x, dt (rlF L T k σ).1 t x = dt σ.1 t x := (nam_cg (fun j hj => rlF_hi hT hj k σ)).2
    refine ⟨fun c => absurd c (by omega), fun _ => ⟨by omega, r_releases t2 (hT k) (fun x hx => ?_) (fun z x hx => ?_) (fun h3 o3 t3 => ih (k + 1) h3 (by omega) (o2.tr o3) t3)⟩⟩
    · rw [rlF_hi hT (by omega), e2]
      exact hc k x (by omega) hx
    · rw [e2]
      exact hne k (by omega) z x hx
theorem r_countsTables {dd : Nat} (hR : RR h L σ) (hw : WF σ.1) (hd : dd < 14) (hq : prs σ.1 dd = true) (hp : ∀ h', OC h h' → RR h' L (csF L dd 4 σ) → q h') : mU (Kd sL (d + 4)) 133 [.inr (.inr (.inr 7)), .inl (nI dd)] h q := by
  refine ke_X4_countsTables ?_
  refine EX.go (Kd_mono _ _) [false, true, false, false, false, false] 40 0 ?_
  dsimp only [wpc_s, wsl_t, wsl_f, gD_0, gD_s, ↓denB_n, pI_s, pG_s, pU_n, cb_X4_countsTables_0, cb_X4_countsTables_1, cb_X4_countsTables_2, cb_X4_countsTables_3, cb_X4_countsTables_4, cb_X4_countsTables_5, ↓ev_iconst_0, ↓ev_istore_n_2, ↓ev_iload_n_2, ↓ev_iconst_4, ↓ev_icmp_ge, ↓ev_aload_n_0, ↓ev_getf_4_0, ↓ev_iload_n_1, ↓ev_calls_2_0_1, ↓ev_calls_2_1_1, ↓ev_calls_2_2_1, ↓ev_calls_2_3_1, ↓ev_calls_2_4_1, ↓ev_iald_o8, ↓ev_iald_o9, ↓ev_iald_o10, ↓ev_iald_o11, ↓ev_iald_o12, ↓ev_iald_o13, ↓ev_iald_o14, ↓ev_iald_o15, ↓ev_iald_o16, ↓ev_if_eq, ↓ev_iconst_1, ↓ev_callv_3_0_0, ↓ev_callv_3_1_0, ↓ev_callv_3_2_0, ↓ev_callv_3_3_0, ↓ev_callv_3_4_0, ↓ev_iinc_2_1, ↓ev_goto, ↓ev_ret, Nat.reduceAdd]
  suffices H : ∀ (f k : Nat) (h2 : mH), k + f = 4 → OC h h2 → RR h2 L (csF L dd k σ) → EX (Kd sL (d + 3)) sL md_X4_countsTables (pU q) 1 [some (.inr (.inr (.inr 7))), some (.inl (nI dd)), some (.inl (nI k))] [] h2 from H 4 0 h rfl OC.rf hR
  intro f
  induction f with
  | zero =>
    intro k h2 hk o2 t2
    refine EX.go (Kd_mono _ _) [false, true, false, false, false, false] 40 1 ?_
    dsimp only [wpc_s, wsl_t, wsl_f, gD_0, gD_s, ↓denB_n, pI_s, pG_s, pU_n, cb_X4_countsTables_0, cb_X4_countsTables_1, cb_X4_countsTables_2, cb_X4_countsTables_3, cb_X4_countsTables_4, cb_X4_countsTables_5, ↓ev_iconst_0, ↓ev_istore_n_2, ↓ev_iload_n_2, ↓ev_iconst_4, ↓ev_icmp_ge, ↓ev_aload_n_0, ↓ev_getf_4_0, ↓ev_iload_n_1, ↓ev_calls_2_0_1, ↓ev_calls_2_1_1, ↓ev_calls_2_2_1, ↓ev_calls_2_3_1, ↓ev_calls_2_4_1, ↓ev_iald_o8, ↓ev_iald_o9, ↓ev_iald_o10, ↓ev_iald_o11, ↓ev_iald_o12, ↓ev_iald_o13, ↓ev_iald_o14, ↓ev_iald_o15, ↓ev_iald_o16, ↓ev_if_eq, ↓ev_iconst_1, ↓ev_callv_3_0_0, ↓ev_callv_3_1_0, ↓ev_callv_3_2_0, ↓ev_callv_3_3_0, ↓ev_callv_3_4_0, ↓ev_iinc_2_1, ↓ev_goto, ↓ev_ret, Nat.reduceAdd]
    try simp (disch := omega) only [pk_mul, nI_add, n_lt0, n_le0, n_eq0, n_ge0, n_gt0, n_lt, n_le, n_eq, n_in, n_div, n_rem, n_rem2, n_m1, nI_clamp, bz_0, bz_1, tI_0, tI_bz, n4, n16, eq_self, Nat.reduceLT, Nat.reduceLeDiff, Nat.reduceEqDiff, Nat.reduceAdd, Nat.reduceMul, Nat.reduceDiv, Nat.reduceMod, Nat.le_refl, decide_eq_false_iff_not, Classical.not_not, true_and, and_true, false_and, and_false, not_true_eq_false, not_false_eq_true, forall_const, true_implies, false_implies, implies_true, ne_eq]
    rw [show k = 4 by omega] at t2
    exact ⟨fun _ => hp h2 o2 t2, fun c => absurd (show 4 ≤ k by omega) c⟩
  | succ f ih =>
    intro k h2 hk o2 t2
    refine EX.go (Kd_mono _ _) [false, true, false, false, false, false] 40 1 ?_
    dsimp only [wpc_s, wsl_t, wsl_f, gD_0, gD_s, ↓denB_n, pI_s, pG_s, pU_n, cb_X4_countsTables_0, cb_X4_countsTables_1, cb_X4_countsTables_2, cb_X4_countsTables_3, cb_X4_countsTables_4, cb_X4_countsTables_5, ↓ev_iconst_0, ↓ev_istore_n_2, ↓ev_iload_n_2, ↓ev_iconst_4, ↓ev_icmp_ge, ↓ev_aload_n_0, ↓ev_getf_4_0, ↓ev_iload_n_1, ↓ev_calls_2_0_1, ↓ev_calls_2_1_1, ↓ev_calls_2_2_1, ↓ev_calls_2_3_1, ↓ev_calls_2_4_1, ↓ev_iald_o8, ↓ev_iald_o9, ↓ev_iald_o10, ↓ev_iald_o11, ↓ev_iald_o12, ↓ev_iald_o13, ↓ev_iald_o14, ↓ev_iald_o15, ↓ev_iald_o16, ↓ev_if_eq, ↓ev_iconst_1, ↓ev_callv_3_0_0, ↓ev_callv_3_1_0, ↓ev_callv_3_2_0, ↓ev_callv_3_3_0, ↓ev_callv_3_4_0, ↓ev_iinc_2_1, ↓ev_goto, ↓ev_ret, Nat.reduceAdd]
    try simp (disch := omega) only [pk_mul, nI_add, n_lt0, n_le0, n_eq0, n_ge0, n_gt0, n_lt, n_le, n_eq, n_in, n_div, n_rem, n_rem2, n_m1, nI_clamp, bz_0, bz_1, tI_0, tI_bz, n4, n16, eq_self, Nat.reduceLT, Nat.reduceLeDiff, Nat.reduceEqDiff, Nat.reduceAdd, Nat.reduceMul, Nat.reduceDiv, Nat.reduceMod, Nat.le_refl, decide_eq_false_iff_not, Classical.not_not, true_and, and_true, false_and, and_false, not_true_eq_false, not_false_eq_true, forall_const, true_implies, false_implies, implies_true, ne_eq]
    refine ⟨fun c => absurd c (by omega), fun _ => ?_⟩
    refine r_dir ?_
    have hl := tb_lt σ.1 dd k
    have e : h2 (.inr 8) (327 + 4 * dd + k) = nI (tb σ.1 dd k) := by rw [t2.1 _ (by omega), csF_hi (by omega), hw.dr hd (by omega) hq]
    have e2 : tb (csF L dd k σ).1 dd k = tb σ.1 dd k := (hi_same (fun j hj => csF_hi hj k σ)).2.2.1 dd k
    have ih2 := fun h3 o3 t3 => ih (k + 1) h3 (by omega) o3 t3
    unfold csF at ih2
    rw [e2] at ih2
    try simp (disch := omega) only [pk_mul, nI_add, n_lt0, n_le0, n_eq0, n_ge0, n_gt0, n_lt, n_le, n_eq, n_in, n_div, n_rem, n_rem2, n_m1, nI_clamp, bz_0, bz_1, tI_0, tI_bz, n4, n16, eq_self, Nat.reduceLT, Nat.reduceLeDiff, Nat.reduceEqDiff, Nat.reduceAdd, Nat.reduceMul, Nat.reduceDiv, Nat.reduceMod, Nat.le_refl, decide_eq_false_iff_not, Classical.not_not, true_and, and_true, false_and, and_false, not_true_eq_false, not_false_eq_true, forall_const, true_implies, false_implies, implies_true, ne_eq, e]
    refine ⟨by omega, fun c => ?_, fun c => ?_⟩
    · rw [c] at ih2
      exact ih2 h2 o2 t2
    · refine r_dir ?_
      try simp (disch := omega) only [pk_mul, nI_add, n_lt0, n_le0, n_eq0, n_ge0, n_gt0, n_lt, n_le, n_eq, n_in, n_div, n_rem, n_rem2, n_m1, nI_clamp, bz_0, bz_1, tI_0, tI_bz, n4, n16, eq_self, Nat.reduceLT, Nat.reduceLeDiff, Nat.reduceEqDiff, Nat.reduceAdd, Nat.reduceMul, Nat.reduceDiv, Nat.reduceMod, Nat.le_refl, decide_eq_false_iff_not, Classical.not_not, true_and, and_true, false_and, and_false, not_true_eq_false, not_false_eq_true, forall_const, true_implies, false_implies, implies_true, ne_eq, e]
      exact ⟨by omega, r_addc t2 c hl (fun h3 o3 t3 => ih2 h3 (o2.tr o3) t3)⟩
/-- so many numbers of a directory copied -/
def wdk (S : St) (a : Nat) (v : Nat → Int32) (k : Nat) : St := fun j => if 327 + 4 * a ≤ j ∧ j < 327 + 4 * a + k then v (j - (327 + 4 * a)) else S j
theorem wdk_0 {S : St} {a : Nat} {v : Nat → Int32} : wdk S a v 0 = S := by
  funext j
  exact if_neg (by omega)
theorem wdk_s {S : St} {a k : Nat} {v : Nat → Int32} : wdk S a v (k + 1) = upd (wdk S a v k) (327 + 4 * a + k) (v k) := by
  funext j
  unfold wdk
  by_cases z : j = 327 + 4 * a + k
  · subst z
    rw [pk_us, if_pos (by omega)]
    congr 1
    omega
  · rw [pk_un z]
    by_cases y : 327 + 4 * a ≤ j ∧ j < 327 + 4 * a + k
    · rw [if_pos y, if_pos (by omega)]
    · rw [if_neg y, if_neg (by omega)]
theorem r_setsDirC {a b : Nat} (hR : RR h L σ) (ha : a < 14) (hb : b < 14) (hp : ∀ h', OC h h' → RR h' L (gt L (fun S => wdir S a b) σ) → q h') : mU (Kd sL (d + 2)) 134 [.inr (.inr (.inr 7)), .inl (nI a), .inl (nI b)] h q := by
  refine ke_X4_setsDirectory ?_
  refine EX.go (Kd_mono _ _) [false, false, false, true, false, false, false, false, false] 40 0 ?_
  dsimp only [wpc_s, wsl_t, wsl_f, gD_0, gD_s, ↓denB_n, pI_s, pG_s, pU_n, cb_X4_setsDirectory_0, cb_X4_setsDirectory_1, cb_X4_setsDirectory_2, cb_X4_setsDirectory_3, cb_X4_setsDirectory_4, cb_X4_setsDirectory_5, cb_X4_setsDirectory_6, cb_X4_setsDirectory_7, cb_X4_setsDirectory_8, ↓ev_aload_n_0, ↓ev_callv_1_0_1, ↓ev_callv_1_1_1, ↓ev_callv_1_2_1, ↓ev_callv_1_3_1, ↓ev_callv_1_4_1, ↓ev_if_ne, ↓ev_ret, ↓ev_iconst_0, ↓ev_istore_n_3, ↓ev_iload_n_3, ↓ev_iconst_4, ↓ev_icmp_ge, ↓ev_getf_4_0, ↓ev_iload_n_1, ↓ev_calls_2_0_1, ↓ev_calls_2_1_1, ↓ev_calls_2_2_1, ↓ev_calls_2_3_1, ↓ev_calls_2_4_1, ↓ev_iload_n_2, ↓ev_iconst_m1, ↓ev_icmp_ne, ↓ev_goto, ↓ev_iald_o8, ↓ev_iald_o9, ↓ev_iald_o10, ↓ev_iald_o11, ↓ev_iald_o12, ↓ev_iald_o13, ↓ev_iald_o14, ↓ev_iald_o15, ↓ev_iald_o16, ↓ev_iast_o8, ↓ev_iast_o9, ↓ev_iast_o10, ↓ev_iast_o11, ↓ev_iast_o12, ↓ev_iast_o13, ↓ev_iast_o14, ↓ev_iast_o15, ↓ev_iast_o16, ↓ev_iinc_3_1, Nat.reduceAdd]
  refine r_may hR (fun h1 o1 t1 hn => ?_) (fun h1 o1 z0 z1 t1 => ?_)
  · rw [gt_no hn] at hp
    exact ⟨fun c2 => absurd rfl c2, fun _ => hp h1 o1 t1⟩
  · rw [gt_yes z0 z1] at hp
    refine ⟨fun _ => ?_, fun c2 => absurd c2 (by decide)⟩
    suffices H : ∀ (f k : Nat) (h2 : mH), k + f = 4 → OC h h2 → RR h2 L (wdk σ.1 a (fun j => σ.1 (327 + 4 * b + j)) k, σ.2.1 + 1, 0) → EX (Kd sL (d + 1)) sL md_X4_setsDirectory (pU q) 3 [some (.inr (.inr (.inr 7))), some (.inl (nI a)), some (.inl (nI b)), some (.inl (nI k))] [] h2 from H 4 0 h1 rfl o1 (by rw [wdk_0]; exact t1)
    intro f
    induction f with
    | zero =>
      intro k h2 hk o2 t2
      refine EX.go (Kd_mono _ _) [false, false, false, true, false, false, false, false, false] 40 3 ?_
      dsimp only [wpc_s, wsl_t, wsl_f, gD_0, gD_s, ↓denB_n, pI_s, pG_s, pU_n, cb_X4_setsDirectory_0, cb_X4_setsDirectory_1, cb_X4_setsDirectory_2, cb_X4_setsDirectory_3, cb_X4_setsDirectory_4, cb_X4_setsDirectory_5, cb_X4_setsDirectory_6, cb_X4_setsDirectory_7, cb_X4_setsDirectory_8, ↓ev_aload_n_0, ↓ev_callv_1_0_1, ↓ev_callv_1_1_1, ↓ev_callv_1_2_1, ↓ev_callv_1_3_1, ↓ev_callv_1_4_1, ↓ev_if_ne, ↓ev_ret, ↓ev_iconst_0, ↓ev_istore_n_3, ↓ev_iload_n_3, ↓ev_iconst_4, ↓ev_icmp_ge, ↓ev_getf_4_0, ↓ev_iload_n_1, ↓ev_calls_2_0_1, ↓ev_calls_2_1_1, ↓ev_calls_2_2_1, ↓ev_calls_2_3_1, ↓ev_calls_2_4_1, ↓ev_iload_n_2, ↓ev_iconst_m1, ↓ev_icmp_ne, ↓ev_goto, ↓ev_iald_o8, ↓ev_iald_o9, ↓ev_iald_o10, ↓ev_iald_o11, ↓ev_iald_o12, ↓ev_iald_o13, ↓ev_iald_o14, ↓ev_iald_o15, ↓ev_iald_o16, ↓ev_iast_o8, ↓ev_iast_o9, ↓ev_iast_o10, ↓ev_iast_o11, ↓ev_iast_o12, ↓ev_iast_o13, ↓ev_iast_o14, ↓ev_iast_o15, ↓ev_iast_o16, ↓ev_iinc_3_1, Nat.reduceAdd]
      try simp (disch := omega) only [pk_mul, nI_add, n_lt0, n_le0, n_eq0, n_ge0, n_gt0, n_lt, n_le, n_eq, n_in, n_div, n_rem, n_rem2, n_m1, nI_clamp, bz_0, bz_1, tI_0, tI_bz, n4, n16, eq_self, Nat.reduceLT, Nat.reduceLeDiff, Nat.reduceEqDiff, Nat.reduceAdd, Nat.reduceMul, Nat.reduceDiv, Nat.reduceMod, Nat.le_refl, decide_eq_false_iff_not, Classical.not_not, true_and, and_true, false_and, and_false, not_true_eq_false, not_false_eq_true, forall_const, true_implies, false_implies, implies_true, ne_eq]
      rw [show k = 4 by omega] at t2
      exact ⟨fun _ => hp h2 o2 t2, fun c => absurd (show 4 ≤ k by omega) c⟩
    | succ f ih =>
      intro k h2 hk o2 t2
      refine EX.go (Kd_mono _ _) [false, false, false, true, false, false, false, false, false] 40 3 ?_
      dsimp only [wpc_s, wsl_t, wsl_f, gD_0, gD_s, ↓denB_n, pI_s, pG_s, pU_n, cb_X4_setsDirectory_0, cb_X4_setsDirectory_1, cb_X4_setsDirectory_2, cb_X4_setsDirectory_3, cb_X4_setsDirectory_4, cb_X4_setsDirectory_5, cb_X4_setsDirectory_6, cb_X4_setsDirectory_7, cb_X4_setsDirectory_8, ↓ev_aload_n_0, ↓ev_callv_1_0_1, ↓ev_callv_1_1_1, ↓ev_callv_1_2_1, ↓ev_callv_1_3_1, ↓ev_callv_1_4_1, ↓ev_if_ne, ↓ev_ret, ↓ev_iconst_0, ↓ev_istore_n_3, ↓ev_iload_n_3, ↓ev_iconst_4, ↓ev_icmp_ge, ↓ev_getf_4_0, ↓ev_iload_n_1, ↓ev_calls_2_0_1, ↓ev_calls_2_1_1, ↓ev_calls_2_2_1, ↓ev_calls_2_3_1, ↓ev_calls_2_4_1, ↓ev_iload_n_2, ↓ev_iconst_m1, ↓ev_icmp_ne, ↓ev_goto, ↓ev_iald_o8, ↓ev_iald_o9, ↓ev_iald_o10, ↓ev_iald_o11, ↓ev_iald_o12, ↓ev_iald_o13, ↓ev_iald_o14, ↓ev_iald_o15, ↓ev_iald_o16, ↓ev_iast_o8, ↓ev_iast_o9, ↓ev_iast_o10, ↓ev_iast_o11, ↓ev_iast_o12, ↓ev_iast_o13, ↓ev_iast_o14, ↓ev_iast_o15, ↓ev_iast_o16, ↓ev_iinc_3_1, Nat.reduceAdd]
      try simp (disch := omega) only [pk_mul, nI_add, n_lt0, n_le0, n_eq0, n_ge0, n_gt0, n_lt, n_le, n_eq, n_in, n_div, n_rem, n_rem2, n_m1, nI_clamp, bz_0, bz_1, tI_0, tI_bz, n4, n16, eq_self, Nat.reduceLT, Nat.reduceLeDiff, Nat.reduceEqDiff, Nat.reduceAdd, Nat.reduceMul, Nat.reduceDiv, Nat.reduceMod, Nat.le_refl, decide_eq_false_iff_not, Classical.not_not, true_and, and_true, false_and, and_false, not_true_eq_false, not_false_eq_true, forall_const, true_implies, false_implies, implies_true, ne_eq]
      refine ⟨fun c => absurd c (by omega), fun _ => ?_⟩
      refine r_dir ?_
      try simp (disch := omega) only [pk_mul, nI_add, n_lt0, n_le0, n_eq0, n_ge0, n_gt0, n_lt, n_le, n_eq, n_in, n_div, n_rem, n_rem2, n_m1, nI_clamp, bz_0, bz_1, tI_0, tI_bz, n4, n16, eq_self, Nat.reduceLT, Nat.reduceLeDiff, Nat.reduceEqDiff, Nat.reduceAdd, Nat.reduceMul, Nat.reduceDiv, Nat.reduceMod, Nat.le_refl, decide_eq_false_iff_not, Classical.not_not, true_and, and_true, false_and, and_false, not_true_eq_false, not_false_eq_true, forall_const, true_implies, false_implies, implies_true, ne_eq]
      refine r_dir ?_
      have e : h2 (.inr 8) (327 + 4 * b + k) = σ.1 (327 + 4 * b + k) := by
        rw [t2.1 _ (by omega)]
        show wdk σ.1 a (fun j => σ.1 (327 + 4 * b + j)) k (327 + 4 * b + k) = _
        unfold wdk
        by_cases z : a = b
        · subst z
          exact if_neg (by omega)
        · exact if_neg (by omega)
      try simp (disch := omega) only [pk_mul, nI_add, n_lt0, n_le0, n_eq0, n_ge0, n_gt0, n_lt, n_le, n_eq, n_in, n_div, n_rem, n_rem2, n_m1, nI_clamp, bz_0, bz_1, tI_0, tI_bz, n4, n16, eq_self, Nat.reduceLT, Nat.reduceLeDiff, Nat.reduceEqDiff, Nat.reduceAdd, Nat.reduceMul, Nat.reduceDiv, Nat.reduceMod, Nat.le_refl, decide_eq_false_iff_not, Classical.not_not, true_and, and_true, false_and, and_false, not_true_eq_false, not_false_eq_true, forall_const, true_implies, false_implies, implies_true, ne_eq, e]
      refine ⟨by omega, by omega, ih (k + 1) _ (by omega) (o2.tr OC.u8) ?_⟩
      rw [wdk_s]
      exact t2.up
theorem r_setsDir0 {a : Nat} (hR : RR h L σ) (ha : a < 14) (hp : ∀ h', OC h h' → RR h' L (gt L (fun S => wdr0 S a) σ) → q h') : mU (Kd sL (d + 2)) 134 [.inr (.inr (.inr 7)), .inl (nI a), .inl (-1)] h q := by
  refine ke_X4_setsDirectory ?_
  refine EX.go (Kd_mono _ _) [false, false, false, true, false, false, false, false, false] 40 0 ?_
  dsimp only [wpc_s, wsl_t, wsl_f, gD_0, gD_s, ↓denB_n, pI_s, pG_s, pU_n, cb_X4_setsDirectory_0, cb_X4_setsDirectory_1, cb_X4_setsDirectory_2, cb_X4_setsDirectory_3, cb_X4_setsDirectory_4, cb_X4_setsDirectory_5, cb_X4_setsDirectory_6, cb_X4_setsDirectory_7, cb_X4_setsDirectory_8, ↓ev_aload_n_0, ↓ev_callv_1_0_1, ↓ev_callv_1_1_1, ↓ev_callv_1_2_1, ↓ev_callv_1_3_1, ↓ev_callv_1_4_1, ↓ev_if_ne, ↓ev_ret, ↓ev_iconst_0, ↓ev_istore_n_3, ↓ev_iload_n_3, ↓ev_iconst_4, ↓ev_icmp_ge, ↓ev_getf_4_0, ↓ev_iload_n_1, ↓ev_calls_2_0_1, ↓ev_calls_2_1_1, ↓ev_calls_2_2_1, ↓ev_calls_2_3_1, ↓ev_calls_2_4_1, ↓ev_iload_n_2, ↓ev_iconst_m1, ↓ev_icmp_ne, ↓ev_goto, ↓ev_iald_o8, ↓ev_iald_o9, ↓ev_iald_o10, ↓ev_iald_o11, ↓ev_iald_o12, ↓ev_iald_o13, ↓ev_iald_o14, ↓ev_iald_o15, ↓ev_iald_o16, ↓ev_iast_o8, ↓ev_iast_o9, ↓ev_iast_o10, ↓ev_iast_o11, ↓ev_iast_o12, ↓ev_iast_o13, ↓ev_iast_o14, ↓ev_iast_o15, ↓ev_iast_o16, ↓ev_iinc_3_1, Nat.reduceAdd]
  refine r_may hR (fun h1 o1 t1 hn => ?_) (fun h1 o1 z0 z1 t1 => ?_)
  · rw [gt_no hn] at hp
    exact ⟨fun c2 => absurd rfl c2, fun _ => hp h1 o1 t1⟩
  · rw [gt_yes z0 z1] at hp
    refine ⟨fun _ => ?_, fun c2 => absurd c2 (by decide)⟩
    suffices H : ∀ (f k : Nat) (h2 : mH), k + f = 4 → OC h h2 → RR h2 L (wdk σ.1 a (fun _ => nI 0) k, σ.2.1 + 1, 0) → EX (Kd sL (d + 1)) sL md_X4_setsDirectory (pU q) 3 [some (.inr (.inr (.inr 7))), some (.inl (nI a)), some (.inl (-1)), some (.inl (nI k))] [] h2 from H 4 0 h1 rfl o1 (by rw [wdk_0]; exact t1)
    intro f
    induction f with
    | zero =>
      intro k h2 hk o2 t2
      refine EX.go (Kd_mono _ _) [false, false, false, true, false, false, false, false, false] 40 3 ?_
      dsimp only [wpc_s, wsl_t, wsl_f, gD_0, gD_s, ↓denB_n, pI_s, pG_s, pU_n, cb_X4_setsDirectory_0, cb_X4_setsDirectory_1, cb_X4_setsDirectory_2, cb_X4_setsDirectory_3, cb_X4_setsDirectory_4, cb_X4_setsDirectory_5, cb_X4_setsDirectory_6, cb_X4_setsDirectory_7, cb_X4_setsDirectory_8, ↓ev_aload_n_0, ↓ev_callv_1_0_1, ↓ev_callv_1_1_1, ↓ev_callv_1_2_1, ↓ev_callv_1_3_1, ↓ev_callv_1_4_1, ↓ev_if_ne, ↓ev_ret, ↓ev_iconst_0, ↓ev_istore_n_3, ↓ev_iload_n_3, ↓ev_iconst_4, ↓ev_icmp_ge, ↓ev_getf_4_0, ↓ev_iload_n_1, ↓ev_calls_2_0_1, ↓ev_calls_2_1_1, ↓ev_calls_2_2_1, ↓ev_calls_2_3_1, ↓ev_calls_2_4_1, ↓ev_iload_n_2, ↓ev_iconst_m1, ↓ev_icmp_ne, ↓ev_goto, ↓ev_iald_o8, ↓ev_iald_o9, ↓ev_iald_o10, ↓ev_iald_o11, ↓ev_iald_o12, ↓ev_iald_o13, ↓ev_iald_o14, ↓ev_iald_o15, ↓ev_iald_o16, ↓ev_iast_o8, ↓ev_iast_o9, ↓ev_iast_o10, ↓ev_iast_o11, ↓ev_iast_o12, ↓ev_iast_o13, ↓ev_iast_o14, ↓ev_iast_o15, ↓ev_iast_o16, ↓ev_iinc_3_1, Nat.reduceAdd]
      try simp (disch := omega) only [pk_mul, nI_add, n_lt0, n_le0, n_eq0, n_ge0, n_gt0, n_lt, n_le, n_eq, n_in, n_div, n_rem, n_rem2, n_m1, nI_clamp, bz_0, bz_1, tI_0, tI_bz, n4, n16, eq_self, Nat.reduceLT, Nat.reduceLeDiff, Nat.reduceEqDiff, Nat.reduceAdd, Nat.reduceMul, Nat.reduceDiv, Nat.reduceMod, Nat.le_refl, decide_eq_false_iff_not, Classical.not_not, true_and, and_true, false_and, and_false, not_true_eq_false, not_false_eq_true, forall_const, true_implies, false_implies, implies_true, ne_eq]
      rw [show k = 4 by omega] at t2
      exact ⟨fun _ => hp h2 o2 t2, fun c => absurd (show 4 ≤ k by omega) c⟩
    | succ f ih =>
      intro k h2 hk o2 t2
      refine EX.go (Kd_mono _ _) [false, false, false, true, false, false, false, false, false] 40 3 ?_
      dsimp only [wpc_s, wsl_t, wsl_f, gD_0, gD_s, ↓denB_n, pI_s, pG_s, pU_n, cb_X4_setsDirectory_0, cb_X4_setsDirectory_1, cb_X4_setsDirectory_2, cb_X4_setsDirectory_3, cb_X4_setsDirectory_4, cb_X4_setsDirectory_5, cb_X4_setsDirectory_6, cb_X4_setsDirectory_7, cb_X4_setsDirectory_8, ↓ev_aload_n_0, ↓ev_callv_1_0_1, ↓ev_callv_1_1_1, ↓ev_callv_1_2_1, ↓ev_callv_1_3_1, ↓ev_callv_1_4_1, ↓ev_if_ne, ↓ev_ret, ↓ev_iconst_0, ↓ev_istore_n_3, ↓ev_iload_n_3, ↓ev_iconst_4, ↓ev_icmp_ge, ↓ev_getf_4_0, ↓ev_iload_n_1, ↓ev_calls_2_0_1, ↓ev_calls_2_1_1, ↓ev_calls_2_2_1, ↓ev_calls_2_3_1, ↓ev_calls_2_4_1, ↓ev_iload_n_2, ↓ev_iconst_m1, ↓ev_icmp_ne, ↓ev_goto, ↓ev_iald_o8, ↓ev_iald_o9, ↓ev_iald_o10, ↓ev_iald_o11, ↓ev_iald_o12, ↓ev_iald_o13, ↓ev_iald_o14, ↓ev_iald_o15, ↓ev_iald_o16, ↓ev_iast_o8, ↓ev_iast_o9, ↓ev_iast_o10, ↓ev_iast_o11, ↓ev_iast_o12, ↓ev_iast_o13, ↓ev_iast_o14, ↓ev_iast_o15, ↓ev_iast_o16, ↓ev_iinc_3_1, Nat.reduceAdd]
      try simp (disch := omega) only [pk_mul, nI_add, n_lt0, n_le0, n_eq0, n_ge0, n_gt0, n_lt, n_le, n_eq, n_in, n_div, n_rem, n_rem2, n_m1, nI_clamp, bz_0, bz_1, tI_0, tI_bz, n4, n16, eq_self, Nat.reduceLT, Nat.reduceLeDiff, Nat.reduceEqDiff, Nat.reduceAdd, Nat.reduceMul, Nat.reduceDiv, Nat.reduceMod, Nat.le_refl, decide_eq_false_iff_not, Classical.not_not, true_and, and_true, false_and, and_false, not_true_eq_false, not_false_eq_true, forall_const, true_implies, false_implies, implies_true, ne_eq]
      refine ⟨fun c => absurd c (by omega), fun _ => ?_⟩
      refine r_dir ?_
      try simp (disch := omega) only [pk_mul, nI_add, n_lt0, n_le0, n_eq0, n_ge0, n_gt0, n_lt, n_le, n_eq, n_in, n_div, n_rem, n_rem2, n_m1, nI_clamp, bz_0, bz_1, tI_0, tI_bz, n4, n16, eq_self, Nat.reduceLT, Nat.reduceLeDiff, Nat.reduceEqDiff, Nat.reduceAdd, Nat.reduceMul, Nat.reduceDiv, Nat.reduceMod, Nat.le_refl, decide_eq_false_iff_not, Classical.not_not, true_and, and_true, false_and, and_false, not_true_eq_false, not_false_eq_true, forall_const, true_implies, false_implies, implies_true, ne_eq]
      refine ⟨by omega, ih (k + 1) _ (by omega) (o2.tr OC.u8) ?_⟩
      rw [wdk_s]
      exact t2.up
theorem r_snaps {l s : Nat} (hR : RR h L σ) (hw : WF σ.1) (hl : l < mn σ.1) (hs : s < 8) (hp : ∀ h', OC h h' → RR h' L (snp L l s σ) → q h') : mU (Kd sL (d + 5)) 135 [.inr (.inr (.inr 7)), .inl (nI l), .inl (nI s)] h q := by
  have hm6 := hw.m
  refine ke_X4_snaps ?_
  refine EX.go (Kd_mono _ _) [false, false, false, true, false, false] 40 0 ?_
  dsimp only [wpc_s, wsl_t, wsl_f, gD_0, gD_s, ↓denB_n, pI_s, pG_s, pU_n, cb_X4_snaps_0, cb_X4_snaps_1, cb_X4_snaps_2, cb_X4_snaps_3, cb_X4_snaps_4, cb_X4_snaps_5, ↓ev_aload_n_0, ↓ev_iload_n_1, ↓ev_callv_2_0_0, ↓ev_callv_2_1_0, ↓ev_callv_2_2_0, ↓ev_callv_2_3_0, ↓ev_callv_2_4_0, ↓ev_callv_1_0_1, ↓ev_callv_1_1_1, ↓ev_callv_1_2_1, ↓ev_callv_1_3_1, ↓ev_callv_1_4_1, ↓ev_if_ne, ↓ev_ret, ↓ev_getf_4_0, ↓ev_sipush_383, ↓ev_iload_n_2, ↓ev_iadd, ↓ev_iconst_1, ↓ev_iast_o8, ↓ev_iast_o9, ↓ev_iast_o10, ↓ev_iast_o11, ↓ev_iast_o12, ↓ev_iast_o13, ↓ev_iast_o14, ↓ev_iast_o15, ↓ev_iast_o16, ↓ev_sipush_391, ↓ev_iconst_0, ↓ev_istore_n_3, ↓ev_iload_n_3, ↓ev_iconst_4, ↓ev_icmp_ge, ↓ev_bipush_6, ↓ev_calls_2_0_1, ↓ev_calls_2_1_1, ↓ev_calls_2_2_1, ↓ev_calls_2_3_1, ↓ev_calls_2_4_1, ↓ev_iald_o8, ↓ev_iald_o9, ↓ev_iald_o10, ↓ev_iald_o11, ↓ev_iald_o12, ↓ev_iald_o13, ↓ev_iald_o14, ↓ev_iald_o15, ↓ev_iald_o16, ↓ev_iinc_3_1, ↓ev_goto, Nat.reduceAdd]
  refine r_countsTables hR hw (by omega) (prs_lay hl (by omega)) (fun h0 o0 t0 => ?_)
  unfold snp at hp
  generalize csF L l 4 σ = τ at hp t0
  refine r_may t0 (fun h1 o1 t1 hn => ?_) (fun h1 o1 z0 z1 t1 => ?_)
  · rw [gt_no hn] at hp
    exact ⟨fun c2 => absurd rfl c2, fun _ => hp h1 (o0.tr o1) t1⟩
  · rw [gt_yes z0 z1] at hp
    refine ⟨fun _ => ?_, fun c2 => absurd c2 (by decide)⟩
    try simp (disch := omega) only [pk_mul, nI_add, n_lt0, n_le0, n_eq0, n_ge0, n_gt0, n_lt, n_le, n_eq, n_in, n_div, n_rem, n_rem2, n_m1, nI_clamp, bz_0, bz_1, tI_0, tI_bz, n4, n16, eq_self, Nat.reduceLT, Nat.reduceLeDiff, Nat.reduceEqDiff, Nat.reduceAdd, Nat.reduceMul, Nat.reduceDiv, Nat.reduceMod, Nat.le_refl, decide_eq_false_iff_not, Classical.not_not, true_and, and_true, false_and, and_false, not_true_eq_false, not_false_eq_true, forall_const, true_implies, false_implies, implies_true, ne_eq]
    refine ⟨by omega, by omega, ?_⟩
    suffices H : ∀ (f k : Nat) (h2 : mH), k + f = 4 → OC h h2 → RR h2 L (wdk (upd (upd τ.1 (383 + s) (nI 1)) (391 + s) (nI l)) (6 + s) (fun j => τ.1 (327 + 4 * l + j)) k, τ.2.1 + 1, 0) → EX (Kd sL (d + 4)) sL md_X4_snaps (pU q) 3 [some (.inr (.inr (.inr 7))), some (.inl (nI l)), some (.inl (nI s)), some (.inl (nI k))] [] h2 from H 4 0 _ rfl (o0.tr (o1.tr (OC.u8.tr OC.u8))) (by rw [wdk_0]; exact t1.up.up)
    intro f
    induction f with
    | zero =>
      intro k h2 hk o2 t2
      refine EX.go (Kd_mono _ _) [false, false, false, true, false, false] 40 3 ?_
      dsimp only [wpc_s, wsl_t, wsl_f, gD_0, gD_s, ↓denB_n, pI_s, pG_s, pU_n, cb_X4_snaps_0, cb_X4_snaps_1, cb_X4_snaps_2, cb_X4_snaps_3, cb_X4_snaps_4, cb_X4_snaps_5, ↓ev_aload_n_0, ↓ev_iload_n_1, ↓ev_callv_2_0_0, ↓ev_callv_2_1_0, ↓ev_callv_2_2_0, ↓ev_callv_2_3_0, ↓ev_callv_2_4_0, ↓ev_callv_1_0_1, ↓ev_callv_1_1_1, ↓ev_callv_1_2_1, ↓ev_callv_1_3_1, ↓ev_callv_1_4_1, ↓ev_if_ne, ↓ev_ret, ↓ev_getf_4_0, ↓ev_sipush_383, ↓ev_iload_n_2, ↓ev_iadd, ↓ev_iconst_1, ↓ev_iast_o8, ↓ev_iast_o9, ↓ev_iast_o10, ↓ev_iast_o11, ↓ev_iast_o12, ↓ev_iast_o13, ↓ev_iast_o14, ↓ev_iast_o15, ↓ev_iast_o16, ↓ev_sipush_391, ↓ev_iconst_0, ↓ev_istore_n_3, ↓ev_iload_n_3, ↓ev_iconst_4, ↓ev_icmp_ge, ↓ev_bipush_6, ↓ev_calls_2_0_1, ↓ev_calls_2_1_1, ↓ev_calls_2_2_1, ↓ev_calls_2_3_1, ↓ev_calls_2_4_1, ↓ev_iald_o8, ↓ev_iald_o9, ↓ev_iald_o10, ↓ev_iald_o11, ↓ev_iald_o12, ↓ev_iald_o13, ↓ev_iald_o14, ↓ev_iald_o15, ↓ev_iald_o16, ↓ev_iinc_3_1, ↓ev_goto, Nat.reduceAdd]
      try simp (disch := omega) only [pk_mul, nI_add, n_lt0, n_le0, n_eq0, n_ge0, n_gt0, n_lt, n_le, n_eq, n_in, n_div, n_rem, n_rem2, n_m1, nI_clamp, bz_0, bz_1, tI_0, tI_bz, n4, n16, eq_self, Nat.reduceLT, Nat.reduceLeDiff, Nat.reduceEqDiff, Nat.reduceAdd, Nat.reduceMul, Nat.reduceDiv, Nat.reduceMod, Nat.le_refl, decide_eq_false_iff_not, Classical.not_not, true_and, and_true, false_and, and_false, not_true_eq_false, not_false_eq_true, forall_const, true_implies, false_implies, implies_true, ne_eq]
      have e : wdk (upd (upd τ.1 (383 + s) (nI 1)) (391 + s) (nI l)) (6 + s) (fun j => τ.1 (327 + 4 * l + j)) 4 = wrec τ.1 l s := by
        funext j
        unfold wdk wrec
        by_cases y1 : j = 383 + s
        · rw [if_neg (by omega), if_pos y1, pk_un (by omega), y1, pk_us]
        · by_cases y2 : j = 391 + s
          · rw [if_neg (by omega), if_neg y1, if_pos y2, y2, pk_us]
          · by_cases y3 : 351 + 4 * s ≤ j ∧ j < 351 + 4 * s + 4
            · rw [if_pos (by omega), if_neg y1, if_neg y2, if_pos y3]
              congr 1
              omega
            · rw [if_neg (by omega), if_neg y1, if_neg y2, if_neg y3, pk_un y2, pk_un y1]
      rw [show k = 4 by omega, e] at t2
      exact ⟨fun _ => hp h2 o2 t2, fun c => absurd (show 4 ≤ k by omega) c⟩
    | succ f ih =>
      intro k h2 hk o2 t2
      refine EX.go (Kd_mono _ _) [false, false, false, true, false, false] 40 3 ?_
      dsimp only [wpc_s, wsl_t, wsl_f, gD_0, gD_s, ↓denB_n, pI_s, pG_s, pU_n, cb_X4_snaps_0, cb_X4_snaps_1, cb_X4_snaps_2, cb_X4_snaps_3, cb_X4_snaps_4, cb_X4_snaps_5, ↓ev_aload_n_0, ↓ev_iload_n_1, ↓ev_callv_2_0_0, ↓ev_callv_2_1_0, ↓ev_callv_2_2_0, ↓ev_callv_2_3_0, ↓ev_callv_2_4_0, ↓ev_callv_1_0_1, ↓ev_callv_1_1_1, ↓ev_callv_1_2_1, ↓ev_callv_1_3_1, ↓ev_callv_1_4_1, ↓ev_if_ne, ↓ev_ret, ↓ev_getf_4_0, ↓ev_sipush_383, ↓ev_iload_n_2, ↓ev_iadd, ↓ev_iconst_1, ↓ev_iast_o8, ↓ev_iast_o9, ↓ev_iast_o10, ↓ev_iast_o11, ↓ev_iast_o12, ↓ev_iast_o13, ↓ev_iast_o14, ↓ev_iast_o15, ↓ev_iast_o16, ↓ev_sipush_391, ↓ev_iconst_0, ↓ev_istore_n_3, ↓ev_iload_n_3, ↓ev_iconst_4, ↓ev_icmp_ge, ↓ev_bipush_6, ↓ev_calls_2_0_1, ↓ev_calls_2_1_1, ↓ev_calls_2_2_1, ↓ev_calls_2_3_1, ↓ev_calls_2_4_1, ↓ev_iald_o8, ↓ev_iald_o9, ↓ev_iald_o10, ↓ev_iald_o11, ↓ev_iald_o12, ↓ev_iald_o13, ↓ev_iald_o14, ↓ev_iald_o15, ↓ev_iald_o16, ↓ev_iinc_3_1, ↓ev_goto, Nat.reduceAdd]
      try simp (disch := omega) only [pk_mul, nI_add, n_lt0, n_le0, n_eq0, n_ge0, n_gt0, n_lt, n_le, n_eq, n_in, n_div, n_rem, n_rem2, n_m1, nI_clamp, bz_0, bz_1, tI_0, tI_bz, n4, n16, eq_self, Nat.reduceLT, Nat.reduceLeDiff, Nat.reduceEqDiff, Nat.reduceAdd, Nat.reduceMul, Nat.reduceDiv, Nat.reduceMod, Nat.le_refl, decide_eq_false_iff_not, Classical.not_not, true_and, and_true, false_and, and_false, not_true_eq_false, not_false_eq_true, forall_const, true_implies, false_implies, implies_true, ne_eq]
      refine ⟨fun c => absurd c (by omega), fun _ => ?_⟩
      refine r_dir ?_
      refine r_dir ?_
      have e : h2 (.inr 8) (327 + 4 * l + k) = τ.1 (327 + 4 * l + k) := by
        rw [t2.1 _ (by omega)]
        dsimp only
        unfold wdk
        rw [if_neg (by omega), pk_un (by omega), pk_un (by omega)]
      try simp (disch := omega) only [pk_mul, nI_add, n_lt0, n_le0, n_eq0, n_ge0, n_gt0, n_lt, n_le, n_eq, n_in, n_div, n_rem, n_rem2, n_m1, nI_clamp, bz_0, bz_1, tI_0, tI_bz, n4, n16, eq_self, Nat.reduceLT, Nat.reduceLeDiff, Nat.reduceEqDiff, Nat.reduceAdd, Nat.reduceMul, Nat.reduceDiv, Nat.reduceMod, Nat.le_refl, decide_eq_false_iff_not, Classical.not_not, true_and, and_true, false_and, and_false, not_true_eq_false, not_false_eq_true, forall_const, true_implies, false_implies, implies_true, ne_eq, e]
      refine ⟨by omega, by omega, ih (k + 1) _ (by omega) (o2.tr OC.u8) ?_⟩
      rw [wdk_s]
      exact t2.up
/-- what a table that was named holds when it is released -/
theorem had_ok {S S' : St} (hw : WF S) (hh : ∀ j, 64 ≤ j → j < 320 → S' j = S j) {dd : Nat} (hd : dd < 14) : (∀ i k, i < 4 → k < 4 → S' (64 + 4 * tb S dd i + k) = nI (dt S' (tb S dd i) k)) ∧ ∀ i, i < 4 → ¬ tb S dd i = 0 → ∀ k, k < 4 → ¬ dt S' (tb S dd i) k = tb S dd i := by
  have e : ∀ i k, i < 4 → k < 4 → dt S' (tb S dd i) k = dt S (tb S dd i) k := fun i k hi hk => by
    have := tb_lt S dd i
    unfold dt
    rw [hh _ (by omega) (by omega)]
  refine ⟨fun i k hi hk => ?_, fun i hi h0 k hk => ?_⟩
  · have := tb_lt S dd i
    rw [e i k hi hk, hh _ (by omega) (by omega)]
    exact hw.cd (tbn hd hi) hk
  · rw [e i k hi hk]
    intro z
    have hn := (tbn (S := S) hd hi).resolve_left h0
    have := hw.nd hn hk
    rw [z] at this
    exact this hn
theorem r_drops {s : Nat} (hR : RR h L σ) (hw : WF σ.1) (hs : s < 8) (hq : prs σ.1 (6 + s) = true) (hp : ∀ h', OD h h' → RR h' L (drp L s σ) → q h') : mU (Kd sL (d + 6)) 136 [.inr (.inr (.inr 7)), .inl (nI s)] h q := by
  refine ke_X4_drops ?_
  refine EX.go (Kd_mono _ _) [false] 40 0 ?_
  dsimp only [wpc_s, wsl_t, wsl_f, gD_0, gD_s, ↓denB_n, pI_s, pG_s, pU_n, cb_X4_drops_0, ↓ev_aload_n_0, ↓ev_bipush_6, ↓ev_iload_n_1, ↓ev_iadd, ↓ev_callv_2_0_0, ↓ev_callv_2_1_0, ↓ev_callv_2_2_0, ↓ev_callv_2_3_0, ↓ev_callv_2_4_0, ↓ev_sipush_383, ↓ev_iconst_0, ↓ev_callv_3_0_0, ↓ev_callv_3_1_0, ↓ev_callv_3_2_0, ↓ev_callv_3_3_0, ↓ev_callv_3_4_0, ↓ev_callv_1_0_0, ↓ev_callv_1_1_0, ↓ev_callv_1_2_0, ↓ev_callv_1_3_0, ↓ev_callv_1_4_0, ↓ev_ret, Nat.reduceAdd]
  try simp (disch := omega) only [pk_mul, nI_add, n_lt0, n_le0, n_eq0, n_ge0, n_gt0, n_lt, n_le, n_eq, n_in, n_div, n_rem, n_rem2, n_m1, nI_clamp, bz_0, bz_1, tI_0, tI_bz, n4, n16, eq_self, Nat.reduceLT, Nat.reduceLeDiff, Nat.reduceEqDiff, Nat.reduceAdd, Nat.reduceMul, Nat.reduceDiv, Nat.reduceMod, Nat.le_refl, decide_eq_false_iff_not, Classical.not_not, true_and, and_true, false_and, and_false, not_true_eq_false, not_false_eq_true, forall_const, true_implies, false_implies, implies_true, ne_eq]
  refine r_remembers hR hw (by omega) hq (fun h1 o1 t1 f1 => ?_)
  refine r_sets t1 (by omega) (fun h2 o2 t2 => ?_)
  unfold drp at hp
  obtain ⟨g1, g2⟩ := had_ok (S' := (gt L (fun S => upd S (383 + s) (nI 0)) σ).1) hw (fun j hj hj2 => gt_fr (fun S => pk_un (by omega)) σ) (show 6 + s < 14 by omega)
  exact r_releasesHad t2 (fun i hi => by rw [o2.1 _ (by simp) (by simp)]; exact f1 i hi) (fun i => tb_lt _ _ _) g1 g2 (fun h3 o3 t3 => hp h3 (o1.tr (o2.od.tr o3.od)) t3)
theorem r_reverts {l s : Nat} (hR : RR h L σ) (hw : WF σ.1) (hs : s < 8) (hsn : sn σ.1 s = nI l) (hl : l < mn σ.1) (hp : ∀ h', OD h h' → RR h' L (rvt L l s σ) → q h') : mU (Kd sL (d + 6)) 137 [.inr (.inr (.inr 7)), .inl (nI s)] h q := by
  have hm6 := hw.m
  refine ke_X4_reverts ?_
  refine EX.go (Kd_mono _ _) [false] 40 0 ?_
  dsimp only [wpc_s, wsl_t, wsl_f, gD_0, gD_s, ↓denB_n, pI_s, pG_s, pU_n, cb_X4_reverts_0, ↓ev_aload_n_0, ↓ev_getf_4_0, ↓ev_sipush_391, ↓ev_iload_n_1, ↓ev_iadd, ↓ev_iald_o8, ↓ev_iald_o9, ↓ev_iald_o10, ↓ev_iald_o11, ↓ev_iald_o12, ↓ev_iald_o13, ↓ev_iald_o14, ↓ev_iald_o15, ↓ev_iald_o16, ↓ev_istore_n_2, ↓ev_bipush_6, ↓ev_callv_2_0_0, ↓ev_callv_2_1_0, ↓ev_callv_2_2_0, ↓ev_callv_2_3_0, ↓ev_callv_2_4_0, ↓ev_iload_n_2, ↓ev_callv_3_0_0, ↓ev_callv_3_1_0, ↓ev_callv_3_2_0, ↓ev_callv_3_3_0, ↓ev_callv_3_4_0, ↓ev_callv_1_0_0, ↓ev_callv_1_1_0, ↓ev_callv_1_2_0, ↓ev_callv_1_3_0, ↓ev_callv_1_4_0, ↓ev_ret, Nat.reduceAdd]
  have hpq := prs_sn hsn (by omega)
  have e : h (.inr 8) (391 + s) = nI l := by
    rw [hR.1 _ (by omega), ← hsn]
    unfold sn
    rw [if_pos]
    have := hpq
    rw [prs_6] at this
    simpa using this
  try simp (disch := omega) only [pk_mul, nI_add, n_lt0, n_le0, n_eq0, n_ge0, n_gt0, n_lt, n_le, n_eq, n_in, n_div, n_rem, n_rem2, n_m1, nI_clamp, bz_0, bz_1, tI_0, tI_bz, n4, n16, eq_self, Nat.reduceLT, Nat.reduceLeDiff, Nat.reduceEqDiff, Nat.reduceAdd, Nat.reduceMul, Nat.reduceDiv, Nat.reduceMod, Nat.le_refl, decide_eq_false_iff_not, Classical.not_not, true_and, and_true, false_and, and_false, not_true_eq_false, not_false_eq_true, forall_const, true_implies, false_implies, implies_true, ne_eq, e]
  refine ⟨by omega, r_countsTables hR hw (by omega) hpq (fun h1 o1 t1 => ?_)⟩
  have hhi : ∀ j, 64 ≤ j → (csF L (6 + s) 4 σ).1 j = σ.1 j := fun j hj => csF_hi hj 4 σ
  have hw1 : WF (csF L (6 + s) 4 σ).1 := wf_cnt hw hhi
  have hs1 := hi_same hhi
  have htb : ∀ i, tb (csF L (6 + s) 4 σ).1 l i = tb σ.1 l i := fun i => hs1.2.2.1 l i
  unfold rvt at hp
  generalize csF L (6 + s) 4 σ = τ at hp t1 hhi hw1 htb hs1
  refine r_remembers t1 hw1 (by omega) (prs_lay (by rw [hs1.1]; exact hl) (by omega)) (fun h2 o2 t2 f2 => ?_)
  refine r_setsDirC t2 (by omega) (by omega) (fun h3 o3 t3 => ?_)
  obtain ⟨g1, g2⟩ := had_ok (S' := (gt L (fun S => wdir S l (6 + s)) τ).1) hw (fun j hj hj2 => by rw [gt_fr (fun S => if_neg (by omega)) τ, hhi j hj]) (show l < 14 by omega)
  exact r_releasesHad t3 (fun i hi => by rw [o3.1 _ (by simp) (by simp), f2 i hi, htb]) (fun i => tb_lt _ _ _) g1 g2 (fun h4 o4 t4 => hp h4 (o1.od.tr (o2.tr (o3.od.tr o4.od))) t4)
end RDIR
