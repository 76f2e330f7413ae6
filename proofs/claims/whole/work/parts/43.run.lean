theorem dgF_N {N : Nat} {tp : Nat → Nat} : ∀ f a v, a ≤ N → (dgF N tp f a v).1 ≤ N
  | 0, a, v, h => h
  | f + 1, a, v, h => by
    unfold dgF
    split
    · rename_i e
      exact dgF_N f (a + 1) _ (by have := e.1; omega)
    · exact h
theorem tkN_N {N : Nat} {tp : Nat → Nat} {a : Nat} (h : a ≤ N) : (tkN N tp a).2.1 ≤ N := by
  unfold tkN
  split
  · rename_i e
    exact dgF_N 3 (a + 1) 0 (by have := e.1; omega)
  · exact h
theorem rdN_N {N : Nat} {tp : Nat → Nat} : ∀ c i a ns, a ≤ N → (rdN N tp c i a ns).2.1 ≤ N
  | 0, i, a, ns, h => h
  | c + 1, i, a, ns, h => by
    unfold rdN
    split
    · exact rdN_N c (i + 1) _ _ (tkN_N h)
    · exact tkN_N h
theorem rdD_N {N : Nat} {tp : Nat → Nat} {a : Nat} (h : a ≤ N) : (rdD N tp a).2.1 ≤ N := by
  unfold rdD
  split
  · rename_i e
    exact rdN_N _ _ (a + 1) _ (by have := e.1; omega)
  · exact h
theorem dsF_N {N : Nat} {tp : Nat → Nat} : ∀ f a, a ≤ N → (dsF N tp f a).2 ≤ N
  | 0, a, h => h
  | f + 1, a, h => by
    have h1 := rdD_N (tp := tp) h
    unfold dsF
    split
    · split
      · rename_i e
        exact dsF_N f _ (by have := e.1; omega)
      · split
        · exact h1
        · exact h1
    · exact h1
/-- only the reader and what it counts -/
def OQ (h h' : mH) : Prop := (∀ r, r ≠ .inr 4 → r ≠ .inr 6 → h' r = h r) ∧ h' (.inr 4) 2 = h (.inr 4) 2
theorem OQ.rf {h : mH} : OQ h h := ⟨fun _ _ _ => rfl, rfl⟩
theorem OQ.tr {h h1 h2 : mH} (a : OQ h h1) (b : OQ h1 h2) : OQ h h2 := ⟨fun r p q => (b.1 r p q).trans (a.1 r p q), b.2.trans a.2⟩
theorem OP.oq {h h' : mH} (a : OP h h') : OQ h h' := ⟨a.1, a.2 2 (by decide) (by decide)⟩
theorem OQ.u {h : mH} {k : Nat} {v : Int32} (hk : k ≠ 2) : OQ h (hup h (.inr 4) k v) := ⟨fun r p _ => by funext q; exact hup_other p q, hup_idx (Ne.symm hk)⟩
theorem OQ.fw {h h' : mH} (a : OQ h h') : FW h h' := fun n hn => a.1 _ (fun z => by cases z; omega) (fun z => by cases z; omega)
theorem TP.oq {h h' : mH} {N a a' : Nat} {tp : Nat → Nat} (hT : TP h N tp a) (ho : OQ h h') (h3 : h' (.inr 4) 3 = nI a') (ha : a' ≤ 1000) : TP h' N tp a' := by
  obtain ⟨e2, e3, hN, ha1, e5⟩ := hT
  refine ⟨ho.2.trans e2, h3, hN, ha, fun j hj => ?_⟩
  rw [ho.1 _ (by simp) (by simp)]
  exact e5 j hj
def TPi (h : mH) (N : Nat) (tp : Nat → Nat) : Prop := h (.inr 4) 2 = nI N ∧ N ≤ 120 ∧ ∀ j, j < N → h (.inr 5) j = nI (tp j) ∧ tp j < 256
theorem TPi.tp {h h' : mH} {N a' : Nat} {tp : Nat → Nat} (hT : TPi h N tp) (ho : OQ h h') (h3 : h' (.inr 4) 3 = nI a') (ha : a' ≤ 1000) : TP h' N tp a' := by
  obtain ⟨e2, hN, e5⟩ := hT
  refine ⟨ho.2.trans e2, h3, hN, ha, fun j hj => ?_⟩
  rw [ho.1 _ (by simp) (by simp)]
  exact e5 j hj
theorem CG.oq {h h' : mH} {g : Gs} (hG : CG h g) (ho : OQ h h') : CG h' g := by
  obtain ⟨q1, q2, q3, q4, q5, q6, q7, q8⟩ := hG
  have hcr : ∀ (i : Fin 3) (S : St), CR h i S → CR h' i S := by
    intro i S hC
    obtain ⟨w1, w2, w3, w4, w5, w6, w7, w8⟩ := hC
    refine ⟨?_, ?_, ?_, ?_, ?_, ?_, w7, ?_⟩
    all_goals (rw [ho.1 _ (by simp) (by simp)]; assumption)
  refine ⟨hcr _ _ q1, fun z => hcr _ _ (q2 z), ?_, ?_, ?_, ho.2.trans q6, q7, ?_⟩
  all_goals (rw [ho.1 _ (by simp) (by simp)]; assumption)
theorem NB.oq {h h' : mH} (a : NB h) (ho : OQ h h') : NB h' := fun k hk => by rw [ho.1 _ (by simp) (by simp)]; exact a k hk
section RUN
variable {sL d N a : Nat} {tp : Nat → Nat} {h : mH} {p : Int32 → mH → Prop}
theorem k_faultPlace (hT : TPi h N tp) (hB : NB h) (p0 : (dsF N tp 120 0).1 = none → ∀ h', OQ h h' → p (nI (dsF N tp 120 0).2) h') (p1 : ∀ L, (dsF N tp 120 0).1 = some L → ∀ h', OQ h h' → h' (.inr 4) 5 = nI L.length → p (-1) h') : mI (Kd sL (d + 8)) 30 [.inr (.inr (.inr 4))] h p := by
  refine ke_X1_faultPlace ?_
  refine EX.go (Kd_mono _ _) [false, true, false, false, false, false, false, false, false, false, false] 40 0 ?_
  dsimp only [wpc_s, wsl_t, wsl_f, gD_0, gD_s, ↓denB_n, pI_s, pG_s, pU_n, cb_X1_faultPlace_0, cb_X1_faultPlace_1, cb_X1_faultPlace_2, cb_X1_faultPlace_3, cb_X1_faultPlace_4, cb_X1_faultPlace_5, cb_X1_faultPlace_6, cb_X1_faultPlace_7, cb_X1_faultPlace_8, cb_X1_faultPlace_9, cb_X1_faultPlace_10, ↓ev_aload_n_0, ↓ev_iconst_0, ↓ev_putf_1_3, ↓ev_iconst_1, ↓ev_putf_1_5, ↓ev_getf_1_5, ↓ev_bipush_120, ↓ev_icmp_gt, ↓ev_callv_1_0_1, ↓ev_callv_1_1_1, ↓ev_callv_1_2_1, ↓ev_callv_1_3_1, ↓ev_callv_1_4_1, ↓ev_if_ne, ↓ev_getf_1_3, ↓ev_iret, ↓ev_getf_1_2, ↓ev_icmp_ge, ↓ev_goto, ↓ev_iconst_m1, ↓ev_dup, ↓ev_dupr, ↓ev_iadd, Nat.reduceAdd]
  have hN := hT.2.1
  suffices H : ∀ (f k a : Nat) (h' : mH), k + f = 121 → 1 ≤ k → a ≤ N → OQ h h' → TP h' N tp a → h' (.inr 4) 5 = nI k → ((dsF N tp f a).1 = none → ∀ h', OQ h h' → p (nI (dsF N tp f a).2) h') → (∀ L, (dsF N tp f a).1 = some L → ∀ h', OQ h h' → h' (.inr 4) 5 = nI (k - 1 + L.length) → p (-1) h') → EX (Kd sL (d + 7)) sL md_X1_faultPlace (pI p) 1 [some (.inr (.inr (.inr 4)))] [] h' by
    have o : OQ h (hup (hup h (.inr 4) 3 (nI 0)) (.inr 4) 5 (nI 1)) := (OQ.u (by decide)).tr (OQ.u (by decide))
    refine H 120 1 0 _ rfl (Nat.le_refl 1) (Nat.zero_le _) o (hT.tp o (by rw [hup_idx (by decide), hup_same]) (by omega)) hup_same p0 (fun L hL h' oh he => p1 L hL h' oh (by rw [he]; rw [show 1 - 1 + L.length = L.length by omega]))
  intro f
  induction f with
  | zero =>
    intro k a h' hk h1 ha ho hT' h5 q0 q1
    refine EX.go (Kd_mono _ _) [false, true, false, false, false, false, false, false, false, false, false] 40 1 ?_
    dsimp only [wpc_s, wsl_t, wsl_f, gD_0, gD_s, ↓denB_n, pI_s, pG_s, pU_n, cb_X1_faultPlace_0, cb_X1_faultPlace_1, cb_X1_faultPlace_2, cb_X1_faultPlace_3, cb_X1_faultPlace_4, cb_X1_faultPlace_5, cb_X1_faultPlace_6, cb_X1_faultPlace_7, cb_X1_faultPlace_8, cb_X1_faultPlace_9, cb_X1_faultPlace_10, ↓ev_aload_n_0, ↓ev_iconst_0, ↓ev_putf_1_3, ↓ev_iconst_1, ↓ev_putf_1_5, ↓ev_getf_1_5, ↓ev_bipush_120, ↓ev_icmp_gt, ↓ev_callv_1_0_1, ↓ev_callv_1_1_1, ↓ev_callv_1_2_1, ↓ev_callv_1_3_1, ↓ev_callv_1_4_1, ↓ev_if_ne, ↓ev_getf_1_3, ↓ev_iret, ↓ev_getf_1_2, ↓ev_icmp_ge, ↓ev_goto, ↓ev_iconst_m1, ↓ev_dup, ↓ev_dupr, ↓ev_iadd, Nat.reduceAdd]
    rw [h5, hT'.2.1]
    try simp (disch := omega) only [pk_mul, nI_add, n_lt0, n_le0, n_eq0, n_ge0, n_gt0, n_lt, n_le, n_eq, n_in, n_div, n_rem, n_rem2, n_m1, nI_clamp, bz_0, bz_1, tI_0, tI_bz, n4, n16, eq_self, Nat.reduceLT, Nat.reduceLeDiff, Nat.reduceEqDiff, Nat.reduceAdd, Nat.reduceMul, Nat.reduceDiv, Nat.reduceMod, Nat.le_refl, decide_eq_false_iff_not, Classical.not_not, true_and, and_true, false_and, and_false, not_true_eq_false, not_false_eq_true, forall_const, true_implies, false_implies, implies_true, ne_eq]
    exact ⟨fun _ => q0 rfl h' ho, fun c => absurd (show 120 < k by omega) c⟩
  | succ f ih =>
    intro k a h' hk h1 ha ho hT' h5 q0 q1
    refine EX.go (Kd_mono _ _) [false, true, false, false, false, false, false, false, false, false, false] 40 1 ?_
    dsimp only [wpc_s, wsl_t, wsl_f, gD_0, gD_s, ↓denB_n, pI_s, pG_s, pU_n, cb_X1_faultPlace_0, cb_X1_faultPlace_1, cb_X1_faultPlace_2, cb_X1_faultPlace_3, cb_X1_faultPlace_4, cb_X1_faultPlace_5, cb_X1_faultPlace_6, cb_X1_faultPlace_7, cb_X1_faultPlace_8, cb_X1_faultPlace_9, cb_X1_faultPlace_10, ↓ev_aload_n_0, ↓ev_iconst_0, ↓ev_putf_1_3, ↓ev_iconst_1, ↓ev_putf_1_5, ↓ev_getf_1_5, ↓ev_bipush_120, ↓ev_icmp_gt, ↓ev_callv_1_0_1, ↓ev_callv_1_1_1, ↓ev_callv_1_2_1, ↓ev_callv_1_3_1, ↓ev_callv_1_4_1, ↓ev_if_ne, ↓ev_getf_1_3, ↓ev_iret, ↓ev_getf_1_2, ↓ev_icmp_ge, ↓ev_goto, ↓ev_iconst_m1, ↓ev_dup, ↓ev_dupr, ↓ev_iadd, Nat.reduceAdd]
    rw [h5]
    try simp (disch := omega) only [pk_mul, nI_add, n_lt0, n_le0, n_eq0, n_ge0, n_gt0, n_lt, n_le, n_eq, n_in, n_div, n_rem, n_rem2, n_m1, nI_clamp, bz_0, bz_1, tI_0, tI_bz, n4, n16, eq_self, Nat.reduceLT, Nat.reduceLeDiff, Nat.reduceEqDiff, Nat.reduceAdd, Nat.reduceMul, Nat.reduceDiv, Nat.reduceMod, Nat.le_refl, decide_eq_false_iff_not, Classical.not_not, true_and, and_true, false_and, and_false, not_true_eq_false, not_false_eq_true, forall_const, true_implies, false_implies, implies_true, ne_eq]
    refine ⟨fun c => absurd c (by omega), fun _ => ?_⟩
    refine k_takeDeed hT' (by omega) (hB.oq ho) (fun h1 o1 t1 _ => ?_)
    have hle := rdD_N (tp := tp) ha
    rw [dsF] at q0 q1
    generalize rdD N tp a = R at t1 hle q0 q1 ⊢
    try simp (disch := omega) only [pk_mul, nI_add, n_lt0, n_le0, n_eq0, n_ge0, n_gt0, n_lt, n_le, n_eq, n_in, n_div, n_rem, n_rem2, n_m1, nI_clamp, bz_0, bz_1, tI_0, tI_bz, n4, n16, eq_self, Nat.reduceLT, Nat.reduceLeDiff, Nat.reduceEqDiff, Nat.reduceAdd, Nat.reduceMul, Nat.reduceDiv, Nat.reduceMod, Nat.le_refl, decide_eq_false_iff_not, Classical.not_not, true_and, and_true, false_and, and_false, not_true_eq_false, not_false_eq_true, forall_const, true_implies, false_implies, implies_true, ne_eq]
    refine ⟨fun c => ?_, fun c => ?_⟩
    · have c' : R.1 = true := by simpa using c
      rw [if_pos c'] at q0 q1
      refine k_takeParting t1 (by omega) (fun hn => ?_) (fun n1 n2 h2 o2 t2 _ => ?_)
      · rw [if_neg hn] at q0 q1
        rw [t1.2.1, t1.1]
        try simp (disch := omega) only [pk_mul, nI_add, n_lt0, n_le0, n_eq0, n_ge0, n_gt0, n_lt, n_le, n_eq, n_in, n_div, n_rem, n_rem2, n_m1, nI_clamp, bz_0, bz_1, tI_0, tI_bz, n4, n16, eq_self, Nat.reduceLT, Nat.reduceLeDiff, Nat.reduceEqDiff, Nat.reduceAdd, Nat.reduceMul, Nat.reduceDiv, Nat.reduceMod, Nat.le_refl, decide_eq_false_iff_not, Classical.not_not, true_and, and_true, false_and, and_false, not_true_eq_false, not_false_eq_true, forall_const, true_implies, false_implies, implies_true, ne_eq]
        refine ⟨fun c3 => ?_, fun c3 => ?_⟩
        · rw [if_neg (by omega)] at q1
          refine q1 _ rfl h1 (ho.tr o1.oq) ?_
          rw [o1.2 5 (by decide) (by decide), h5]
          show nI k = nI (k - 1 + 1)
          rw [show k - 1 + 1 = k by omega]
        · rw [if_pos (by omega)] at q0
          exact q0 rfl h1 (ho.tr o1.oq)
      · rw [if_pos ⟨n1, n2⟩] at q0 q1
        refine ⟨fun _ => ?_, fun c2 => absurd c2 (by decide)⟩
        have e5 : h2 (.inr 4) 5 = nI k := by rw [o2.2 5 (by decide) (by decide), o1.2 5 (by decide) (by decide), h5]
        rw [e5]
        try simp (disch := omega) only [pk_mul, nI_add, n_lt0, n_le0, n_eq0, n_ge0, n_gt0, n_lt, n_le, n_eq, n_in, n_div, n_rem, n_rem2, n_m1, nI_clamp, bz_0, bz_1, tI_0, tI_bz, n4, n16, eq_self, Nat.reduceLT, Nat.reduceLeDiff, Nat.reduceEqDiff, Nat.reduceAdd, Nat.reduceMul, Nat.reduceDiv, Nat.reduceMod, Nat.le_refl, decide_eq_false_iff_not, Classical.not_not, true_and, and_true, false_and, and_false, not_true_eq_false, not_false_eq_true, forall_const, true_implies, false_implies, implies_true, ne_eq]
        have o3 : OQ h2 (hup h2 (.inr 4) 5 (nI (k + 1))) := OQ.u (by decide)
        refine ih (k + 1) (R.2.1 + 1) _ (by omega) (by omega) (by omega) (ho.tr (o1.oq.tr (o2.oq.tr o3))) (t2.oq o3 (by rw [hup_idx (by decide)]; exact t2.2.1) (by omega)) hup_same (fun e h3 oh => ?_) (fun L hL h3 oh he => ?_)
        · exact q0 (by rw [e]; rfl) h3 oh
        · refine q1 (R.2.2 :: L) (by rw [hL]; rfl) h3 oh ?_
          rw [he]
          show nI (k + 1 - 1 + L.length) = nI (k - 1 + (L.length + 1))
          rw [show k + 1 - 1 + L.length = k - 1 + (L.length + 1) by omega]
    · rw [if_neg (by rw [c]; decide)] at q0
      rw [t1.2.1]
      exact q0 rfl h1 (ho.tr o1.oq)
theorem neg300 : ∀ i, i < 200 → ¬ (nI (i + 1) < -300 - nI i) ∧ -300 - nI i ≤ nI (i + 1) := by decide +kernel
theorem neg10 : ∀ i, i < 200 → ¬ (nI 0 < -10 - nI i) ∧ -10 - nI i ≤ nI 0 := by decide +kernel
theorem aDeed_tp (g : Gs) (kd : Nat) (a b c : Int32) : (aDeed g kd a b c).2.2.2.2.2.2 = g.2.2.2.2.2 := by
  unfold aDeed
  split
  · split
    · rfl
    · split
      · rfl
      · split
        · rfl
        · rfl
  · rfl
theorem NB.fw {h h' : mH} (a : NB h) (ho : FW h h') : NB h' := fun k hk => by rw [ho _ (by decide)]; exact a k hk
theorem exF_nil {i : Nat} {g : Gs} : exF [] i g = (nI i, g) := rfl
theorem c_run {g : Gs} (J : Nat → Gs → Prop) (hJ1 : ∀ i g, i ≤ 120 → J i g → GI g) (hJ2 : ∀ i g kd a b c, i < 120 → kd < 7 → J i g → J (i + 1) (aDeed g kd a b c).2) (hJ : J 0 g) (hG : CG h g) (htb : ∀ j, j < g.2.2.2.2.2.1 → g.2.2.2.2.2.2 j < 256) (hB : NB h) (hp : ∀ h', FW h h' → CG h' (aRun g).2 → p (aRun g).1 h') : mI (Kd sL (d + 9)) 83 [.inr (.inr (.inr 0))] h p := by
  refine ke_X3_run ?_
  refine EX.go (Kd_mono _ _) [false, false, false, true, true, false, false, false, false] 40 0 ?_
  dsimp only [wpc_s, wsl_t, wsl_f, gD_0, gD_s, ↓denB_n, pI_s, pG_s, pU_n, cb_X3_run_0, cb_X3_run_1, cb_X3_run_2, cb_X3_run_3, cb_X3_run_4, cb_X3_run_5, cb_X3_run_6, cb_X3_run_7, cb_X3_run_8, ↓ev_aload_n_0, ↓ev_getf_3_3, ↓ev_callv_1_0_1, ↓ev_callv_1_1_1, ↓ev_callv_1_2_1, ↓ev_callv_1_3_1, ↓ev_callv_1_4_1, ↓ev_istore_n_1, ↓ev_iload_n_1, ↓ev_iconst_m1, ↓ev_icmp_ne, ↓ev_getf_1_5, ↓ev_goto, ↓ev_bipush_m10, ↓ev_isub, ↓ev_istore_n_2, ↓ev_getf_1_1, ↓ev_astore_n_3, ↓ev_iconst_0, ↓ev_putf_1_3, ↓ev_istore_4, ↓ev_iload_4, ↓ev_iload_n_2, ↓ev_icmp_ge, ↓ev_pop, ↓ev_getf_1_4, ↓ev_aload_n_3, ↓ev_iald_m1, ↓ev_iald_m2, ↓ev_iald_m3, ↓ev_iald_m4, ↓ev_iald_m5, ↓ev_iald_m6, ↓ev_iald_o1, ↓ev_iald_o6, ↓ev_iconst_1, ↓ev_iconst_2, ↓ev_callv_5_0_1, ↓ev_callv_5_1_1, ↓ev_callv_5_2_1, ↓ev_callv_5_3_1, ↓ev_callv_5_4_1, ↓ev_callv_2_0_1, ↓ev_callv_2_1_1, ↓ev_callv_2_2_1, ↓ev_callv_2_3_1, ↓ev_callv_2_4_1, ↓ev_if_ge, ↓ev_sipush_m300, ↓ev_iinc_4_1, ↓ev_putf_1_2, ↓ev_iret, Nat.reduceAdd]
  unfold aRun at hp
  obtain ⟨w1, w2, w3, w4, w5, w6, w7, w8⟩ := id hG
  generalize hN : g.2.2.2.2.2.1 = N at hp w6 w7 w8 htb
  generalize htp : g.2.2.2.2.2.2 = tp at hp w8 htb
  have hT0 : TPi h N tp := ⟨w6, w7, fun j hj => ⟨w8 j hj, htb j hj⟩⟩
  have hfin : ∀ (y z : Int32) (i : Nat) (g' : Gs) (h' : mH), z ≤ nI i → FW h h' → CG h' g' → (∀ h'', FW h h'' → CG h'' (gtp g' 0 tp) → p z h'') → EX (Kd sL (d + 8)) sL md_X3_run (pI p) 4 [some (.inr (.inr (.inr 0))), some (.inl y), some (.inl z), some (.inr (.inr (.inr 6))), some (.inl (nI i))] [] h' := by
    intro y z i g' h' hz fw hG' hq
    refine EX.go (Kd_mono _ _) [false, false, false, false, true, false, false, true, false] 40 4 ?_
    dsimp only [wpc_s, wsl_t, wsl_f, gD_0, gD_s, ↓denB_n, pI_s, pG_s, pU_n, cb_X3_run_0, cb_X3_run_1, cb_X3_run_2, cb_X3_run_3, cb_X3_run_4, cb_X3_run_5, cb_X3_run_6, cb_X3_run_7, cb_X3_run_8, ↓ev_aload_n_0, ↓ev_getf_3_3, ↓ev_callv_1_0_1, ↓ev_callv_1_1_1, ↓ev_callv_1_2_1, ↓ev_callv_1_3_1, ↓ev_callv_1_4_1, ↓ev_istore_n_1, ↓ev_iload_n_1, ↓ev_iconst_m1, ↓ev_icmp_ne, ↓ev_getf_1_5, ↓ev_goto, ↓ev_bipush_m10, ↓ev_isub, ↓ev_istore_n_2, ↓ev_getf_1_1, ↓ev_astore_n_3, ↓ev_iconst_0, ↓ev_putf_1_3, ↓ev_istore_4, ↓ev_iload_4, ↓ev_iload_n_2, ↓ev_icmp_ge, ↓ev_pop, ↓ev_getf_1_4, ↓ev_aload_n_3, ↓ev_iald_m1, ↓ev_iald_m2, ↓ev_iald_m3, ↓ev_iald_m4, ↓ev_iald_m5, ↓ev_iald_m6, ↓ev_iald_o1, ↓ev_iald_o6, ↓ev_iconst_1, ↓ev_iconst_2, ↓ev_callv_5_0_1, ↓ev_callv_5_1_1, ↓ev_callv_5_2_1, ↓ev_callv_5_3_1, ↓ev_callv_5_4_1, ↓ev_callv_2_0_1, ↓ev_callv_2_1_1, ↓ev_callv_2_2_1, ↓ev_callv_2_3_1, ↓ev_callv_2_4_1, ↓ev_if_ge, ↓ev_sipush_m300, ↓ev_iinc_4_1, ↓ev_putf_1_2, ↓ev_iret, Nat.reduceAdd]
    refine ⟨fun _ => ?_, fun c => absurd hz c⟩
    have ho : ∀ r, r ≠ .inr 4 → r ≠ .inr 5 → hup h' (.inr 4) 2 (nI 0) r = h' r := fun r a _ => by funext q; exact hup_other a q
    exact hq _ (fw.tr (fx_tp ho)) (hG'.tp ho hup_same (by omega) (fun j hj => absurd hj (by omega)))
  have hstart : ∀ (x z : Int32) (h' : mH), OQ h h' → EX (Kd sL (d + 8)) sL md_X3_run (pI p) 4 [some (.inr (.inr (.inr 0))), some (.inl x), some (.inl z), some (.inr (.inr (.inr 6))), some (.inl (nI 0))] [] (hup h' (.inr 4) 3 (nI 0)) → EX (Kd sL (d + 8)) sL md_X3_run (pI p) 3 [some (.inr (.inr (.inr 0))), some (.inl x), none, none, none] [.inl z] h' := by
    intro x z h' ho he
    refine EX.go (Kd_mono _ _) [false, false, false, false, true, false, false, false, false] 40 3 ?_
    dsimp only [wpc_s, wsl_t, wsl_f, gD_0, gD_s, ↓denB_n, pI_s, pG_s, pU_n, cb_X3_run_0, cb_X3_run_1, cb_X3_run_2, cb_X3_run_3, cb_X3_run_4, cb_X3_run_5, cb_X3_run_6, cb_X3_run_7, cb_X3_run_8, ↓ev_aload_n_0, ↓ev_getf_3_3, ↓ev_callv_1_0_1, ↓ev_callv_1_1_1, ↓ev_callv_1_2_1, ↓ev_callv_1_3_1, ↓ev_callv_1_4_1, ↓ev_istore_n_1, ↓ev_iload_n_1, ↓ev_iconst_m1, ↓ev_icmp_ne, ↓ev_getf_1_5, ↓ev_goto, ↓ev_bipush_m10, ↓ev_isub, ↓ev_istore_n_2, ↓ev_getf_1_1, ↓ev_astore_n_3, ↓ev_iconst_0, ↓ev_putf_1_3, ↓ev_istore_4, ↓ev_iload_4, ↓ev_iload_n_2, ↓ev_icmp_ge, ↓ev_pop, ↓ev_getf_1_4, ↓ev_aload_n_3, ↓ev_iald_m1, ↓ev_iald_m2, ↓ev_iald_m3, ↓ev_iald_m4, ↓ev_iald_m5, ↓ev_iald_m6, ↓ev_iald_o1, ↓ev_iald_o6, ↓ev_iconst_1, ↓ev_iconst_2, ↓ev_callv_5_0_1, ↓ev_callv_5_1_1, ↓ev_callv_5_2_1, ↓ev_callv_5_3_1, ↓ev_callv_5_4_1, ↓ev_callv_2_0_1, ↓ev_callv_2_1_1, ↓ev_callv_2_2_1, ↓ev_callv_2_3_1, ↓ev_callv_2_4_1, ↓ev_if_ge, ↓ev_sipush_m300, ↓ev_iinc_4_1, ↓ev_putf_1_2, ↓ev_iret, Nat.reduceAdd]
    exact he
  refine k_faultPlace hT0 hB (fun e h1 o1 => ?_) (fun L hL h1 o1 e1 => ?_)
  · rw [e] at hp
    have hle := dsF_N (tp := tp) 120 0 (Nat.zero_le N)
    generalize (dsF N tp 120 0).2 = x at hp hle ⊢
    try simp (disch := omega) only [pk_mul, nI_add, n_lt0, n_le0, n_eq0, n_ge0, n_gt0, n_lt, n_le, n_eq, n_in, n_div, n_rem, n_rem2, n_m1, nI_clamp, bz_0, bz_1, tI_0, tI_bz, n4, n16, eq_self, Nat.reduceLT, Nat.reduceLeDiff, Nat.reduceEqDiff, Nat.reduceAdd, Nat.reduceMul, Nat.reduceDiv, Nat.reduceMod, Nat.le_refl, decide_eq_false_iff_not, Classical.not_not, true_and, and_true, false_and, and_false, not_true_eq_false, not_false_eq_true, forall_const, true_implies, false_implies, implies_true, ne_eq]
    have o2 : OQ h1 (hup h1 (.inr 4) 3 (nI 0)) := OQ.u (by decide)
    exact hstart _ _ h1 o1 (hfin _ _ 0 g _ (neg10 x (by omega)).2 (o1.tr o2).fw (hG.oq (o1.tr o2)) (fun h2 fw2 g2 => hp h2 fw2 g2))
  · rw [hL] at hp
    rw [e1]
    try simp (disch := omega) only [pk_mul, nI_add, n_lt0, n_le0, n_eq0, n_ge0, n_gt0, n_lt, n_le, n_eq, n_in, n_div, n_rem, n_rem2, n_m1, nI_clamp, bz_0, bz_1, tI_0, tI_bz, n4, n16, eq_self, Nat.reduceLT, Nat.reduceLeDiff, Nat.reduceEqDiff, Nat.reduceAdd, Nat.reduceMul, Nat.reduceDiv, Nat.reduceMod, Nat.le_refl, decide_eq_false_iff_not, Classical.not_not, true_and, and_true, false_and, and_false, not_true_eq_false, not_false_eq_true, forall_const, true_implies, false_implies, implies_true, ne_eq]
    refine hstart _ _ h1 o1 ?_
    have o2 : OQ h1 (hup h1 (.inr 4) 3 (nI 0)) := OQ.u (by decide)
    have hlen : ∀ f a L, (dsF N tp f a).1 = some L → L.length ≤ f := by
      intro f
      induction f with
      | zero => intro a L h; cases h
      | succ f ih =>
        intro a L h
        rw [dsF] at h
        split at h
        · split at h
          · generalize hq : dsF N tp f ((rdD N tp a).2.1 + 1) = Q at h
            obtain ⟨q1, q2⟩ := Q
            cases q1 with
            | none => cases h
            | some L' =>
              cases h
              have := ih _ L' (by rw [hq])
              show L'.length + 1 ≤ f + 1
              omega
          · split at h
            · cases h
            · cases h
              show 1 ≤ f + 1
              omega
        · cases h
    have hl120 := hlen 120 0 L hL
    generalize hT : L.length = T at hl120 ⊢
    suffices H : ∀ (L : List Dd) (i f a : Nat) (g' : Gs) (h' : mH), i + L.length = T → J i g' → CG h' g' → FW h h' → g'.2.2.2.2.2 = g.2.2.2.2.2 → (L ≠ [] → TP h' N tp a ∧ a ≤ N ∧ (dsF N tp f a).1 = some L) → (∀ h'', FW h h'' → CG h'' (gtp (exF L i g').2 0 tp) → p (exF L i g').1 h'') → EX (Kd sL (d + 8)) sL md_X3_run (pI p) 4 [some (.inr (.inr (.inr 0))), some (.inl (-1)), some (.inl (nI T)), some (.inr (.inr (.inr 6))), some (.inl (nI i))] [] h' from H L 0 120 0 g _ (by omega) hJ (hG.oq (o1.tr o2)) (o1.tr o2).fw rfl (fun _ => ⟨hT0.tp (o1.tr o2) hup_same (by omega), Nat.zero_le _, hL⟩) hp
    intro L
    induction L with
    | nil =>
      intro i f a g' h' hi hJ' hG' fw ht _ hq
      have : i = T := by simpa using hi
      subst this
      exact hfin _ _ i g' h' (Int32.le_refl _) fw hG' hq
    | cons x L ih =>
      intro i f a g' h' hi hJ' hG' fw ht hne hq
      obtain ⟨hT', ha, hd⟩ := hne (by simp)
      have hi2 : i + (L.length + 1) = T := hi
      cases f with
      | zero => cases hd
      | succ f =>
        rw [dsF] at hd
        have hrl := rdD_le N tp a
        have hrn := rdD_N (tp := tp) ha
        have hok : (rdD N tp a).1 = true := by
          rcases Bool.eq_false_or_eq_true (rdD N tp a).1 with e | e
          · exact e
          · rw [if_neg (by rw [e]; decide)] at hd
            cases hd
        rw [if_pos hok] at hd
        refine EX.go (Kd_mono _ _) [false, false, false, false, true, false, false, true, false] 40 4 ?_
        dsimp only [wpc_s, wsl_t, wsl_f, gD_0, gD_s, ↓denB_n, pI_s, pG_s, pU_n, cb_X3_run_0, cb_X3_run_1, cb_X3_run_2, cb_X3_run_3, cb_X3_run_4, cb_X3_run_5, cb_X3_run_6, cb_X3_run_7, cb_X3_run_8, ↓ev_aload_n_0, ↓ev_getf_3_3, ↓ev_callv_1_0_1, ↓ev_callv_1_1_1, ↓ev_callv_1_2_1, ↓ev_callv_1_3_1, ↓ev_callv_1_4_1, ↓ev_istore_n_1, ↓ev_iload_n_1, ↓ev_iconst_m1, ↓ev_icmp_ne, ↓ev_getf_1_5, ↓ev_goto, ↓ev_bipush_m10, ↓ev_isub, ↓ev_istore_n_2, ↓ev_getf_1_1, ↓ev_astore_n_3, ↓ev_iconst_0, ↓ev_putf_1_3, ↓ev_istore_4, ↓ev_iload_4, ↓ev_iload_n_2, ↓ev_icmp_ge, ↓ev_pop, ↓ev_getf_1_4, ↓ev_aload_n_3, ↓ev_iald_m1, ↓ev_iald_m2, ↓ev_iald_m3, ↓ev_iald_m4, ↓ev_iald_m5, ↓ev_iald_m6, ↓ev_iald_o1, ↓ev_iald_o6, ↓ev_iconst_1, ↓ev_iconst_2, ↓ev_callv_5_0_1, ↓ev_callv_5_1_1, ↓ev_callv_5_2_1, ↓ev_callv_5_3_1, ↓ev_callv_5_4_1, ↓ev_callv_2_0_1, ↓ev_callv_2_1_1, ↓ev_callv_2_2_1, ↓ev_callv_2_3_1, ↓ev_callv_2_4_1, ↓ev_if_ge, ↓ev_sipush_m300, ↓ev_iinc_4_1, ↓ev_putf_1_2, ↓ev_iret, Nat.reduceAdd]
        try simp (disch := omega) only [pk_mul, nI_add, n_lt0, n_le0, n_eq0, n_ge0, n_gt0, n_lt, n_le, n_eq, n_in, n_div, n_rem, n_rem2, n_m1, nI_clamp, bz_0, bz_1, tI_0, tI_bz, n4, n16, eq_self, Nat.reduceLT, Nat.reduceLeDiff, Nat.reduceEqDiff, Nat.reduceAdd, Nat.reduceMul, Nat.reduceDiv, Nat.reduceMod, Nat.le_refl, decide_eq_false_iff_not, Classical.not_not, true_and, and_true, false_and, and_false, not_true_eq_false, not_false_eq_true, forall_const, true_implies, false_implies, implies_true, ne_eq]
        refine ⟨fun c => absurd c (by omega), fun _ => ?_⟩
        refine k_takeDeed hT' (by omega) (hB.fw fw) (fun h2 o2 t2 hk2 => ?_)
        obtain ⟨k4, k6⟩ := hk2 hok
        generalize hR : rdD N tp a = R at hd hrl hrn hok t2 k4 k6
        have hx : x = R.2.2 ∧ (L ≠ [] → R.2.1 < N ∧ tp R.2.1 = 59 ∧ (dsF N tp f (R.2.1 + 1)).1 = some L) := by
          split at hd
          · rename_i e
            cases hq : (dsF N tp f (R.2.1 + 1)).1 with
            | none => rw [hq] at hd; cases hd
            | some L' =>
              rw [hq] at hd
              cases hd
              exact ⟨rfl, fun _ => ⟨e.1, e.2, rfl⟩⟩
          · split at hd
            · cases hd
            · cases hd
              exact ⟨rfl, fun z => absurd rfl z⟩
        obtain ⟨hx1, hx2⟩ := hx
        have hG2 := hG'.oq o2.oq
        rw [exF] at hq
        rw [← hx1] at k4 k6
        have hx7 : x.1 < 7 := by rw [hx1]; exact (hrl.2.2 hok).2.2
        rw [k4, k6 0 (by decide), k6 1 (by decide), k6 2 (by decide)]
        have J7 : ∀ (z : Int32) (h3 : mH), TP h3 N tp R.2.1 → (∀ h4, OQ h3 h4 → (R.2.1 < N → tp R.2.1 = 59 → TP h4 N tp (R.2.1 + 1)) → EX (Kd sL (d + 8)) sL md_X3_run (pI p) 4 [some (.inr (.inr (.inr 0))), some (.inl (-1)), some (.inl z), some (.inr (.inr (.inr 6))), some (.inl (nI (i + 1)))] [] h4) → EX (Kd sL (d + 8)) sL md_X3_run (pI p) 7 [some (.inr (.inr (.inr 0))), some (.inl (-1)), some (.inl z), some (.inr (.inr (.inr 6))), some (.inl (nI i))] [] h3 := by
          intro z h3 t3 hn
          refine EX.go (Kd_mono _ _) [false, false, false, false, true, false, false, false, false] 40 7 ?_
          dsimp only [wpc_s, wsl_t, wsl_f, gD_0, gD_s, ↓denB_n, pI_s, pG_s, pU_n, cb_X3_run_0, cb_X3_run_1, cb_X3_run_2, cb_X3_run_3, cb_X3_run_4, cb_X3_run_5, cb_X3_run_6, cb_X3_run_7, cb_X3_run_8, ↓ev_aload_n_0, ↓ev_getf_3_3, ↓ev_callv_1_0_1, ↓ev_callv_1_1_1, ↓ev_callv_1_2_1, ↓ev_callv_1_3_1, ↓ev_callv_1_4_1, ↓ev_istore_n_1, ↓ev_iload_n_1, ↓ev_iconst_m1, ↓ev_icmp_ne, ↓ev_getf_1_5, ↓ev_goto, ↓ev_bipush_m10, ↓ev_isub, ↓ev_istore_n_2, ↓ev_getf_1_1, ↓ev_astore_n_3, ↓ev_iconst_0, ↓ev_putf_1_3, ↓ev_istore_4, ↓ev_iload_4, ↓ev_iload_n_2, ↓ev_icmp_ge, ↓ev_pop, ↓ev_getf_1_4, ↓ev_aload_n_3, ↓ev_iald_m1, ↓ev_iald_m2, ↓ev_iald_m3, ↓ev_iald_m4, ↓ev_iald_m5, ↓ev_iald_m6, ↓ev_iald_o1, ↓ev_iald_o6, ↓ev_iconst_1, ↓ev_iconst_2, ↓ev_callv_5_0_1, ↓ev_callv_5_1_1, ↓ev_callv_5_2_1, ↓ev_callv_5_3_1, ↓ev_callv_5_4_1, ↓ev_callv_2_0_1, ↓ev_callv_2_1_1, ↓ev_callv_2_2_1, ↓ev_callv_2_3_1, ↓ev_callv_2_4_1, ↓ev_if_ge, ↓ev_sipush_m300, ↓ev_iinc_4_1, ↓ev_putf_1_2, ↓ev_iret, Nat.reduceAdd]
          refine k_takeParting t3 (by omega) (fun n0 => ?_) (fun n1 n2 h4 o4 t4 _ => ?_)
          · try simp (disch := omega) only [pk_mul, nI_add, n_lt0, n_le0, n_eq0, n_ge0, n_gt0, n_lt, n_le, n_eq, n_in, n_div, n_rem, n_rem2, n_m1, nI_clamp, bz_0, bz_1, tI_0, tI_bz, n4, n16, eq_self, Nat.reduceLT, Nat.reduceLeDiff, Nat.reduceEqDiff, Nat.reduceAdd, Nat.reduceMul, Nat.reduceDiv, Nat.reduceMod, Nat.le_refl, decide_eq_false_iff_not, Classical.not_not, true_and, and_true, false_and, and_false, not_true_eq_false, not_false_eq_true, forall_const, true_implies, false_implies, implies_true, ne_eq]
            exact hn h3 OQ.rf (fun a b => absurd ⟨a, b⟩ n0)
          · try simp (disch := omega) only [pk_mul, nI_add, n_lt0, n_le0, n_eq0, n_ge0, n_gt0, n_lt, n_le, n_eq, n_in, n_div, n_rem, n_rem2, n_m1, nI_clamp, bz_0, bz_1, tI_0, tI_bz, n4, n16, eq_self, Nat.reduceLT, Nat.reduceLeDiff, Nat.reduceEqDiff, Nat.reduceAdd, Nat.reduceMul, Nat.reduceDiv, Nat.reduceMod, Nat.le_refl, decide_eq_false_iff_not, Classical.not_not, true_and, and_true, false_and, and_false, not_true_eq_false, not_false_eq_true, forall_const, true_implies, false_implies, implies_true, ne_eq]
            exact hn h4 o4.oq (fun _ _ => t4)
        refine k_deed (kd := x.1) hG2 (hJ1 _ _ (by omega) hJ').1 (hJ1 _ _ (by omega) hJ').2.1 (by omega) (fun h3 fx3 g3 => ?_)
        have hJ3 := hJ2 i g' x.1 (nI (x.2 0)) (nI (x.2 1)) (nI (x.2 2)) (by omega) hx7 hJ'
        have htp3 := aDeed_tp g' x.1 (nI (x.2 0)) (nI (x.2 1)) (nI (x.2 2))
        have t3 : TP h3 N tp R.2.1 := by
          obtain ⟨e2, e3, f2, f3, f4⟩ := t2
          refine ⟨?_, ?_, f2, f3, ?_⟩
          · rw [fx3 4 (by decide)]; exact e2
          · rw [fx3 4 (by decide)]; exact e3
          · rw [fx3 5 (by decide)]; exact f4
        generalize aDeed g' x.1 (nI (x.2 0)) (nI (x.2 1)) (nI (x.2 2)) = D at hq g3 hJ3 htp3 ⊢
        have fw3 : FW h h3 := fw.tr (o2.oq.fw.tr fx3.fw)
        refine ⟨fun c => ?_, fun c => ?_⟩
        · rw [if_neg (Int32.not_lt.mpr c)] at hq
          refine J7 _ h3 t3 (fun h4 o4 t4 => ?_)
          refine ih (i + 1) f (R.2.1 + 1) D.2 h4 (by omega) hJ3 (g3.oq o4) (fw3.tr o4.fw) (htp3.trans ht) (fun hne => ?_) hq
          obtain ⟨a1, a2, a3⟩ := hx2 hne
          exact ⟨t4 a1 a2, by omega, a3⟩
        · rw [if_pos (Int32.not_le.mp c)] at hq
          refine J7 _ h3 t3 (fun h4 o4 t4 => ?_)
          exact hfin _ _ (i + 1) D.2 h4 (neg300 i (by omega)).2 (fw3.tr o4.fw) (g3.oq o4) hq
end RUN
