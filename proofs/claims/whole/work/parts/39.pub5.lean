section PB5
variable {sL d : Nat} {h : mH} {g : Gs} {p : Int32 → mH → Prop}
theorem k_fore {kd : Nat} {a b c : Int32} (hG : CG h g) (hw : W0 g.1) (hkd : kd < 8) (hp : ∀ h', FX h h' → CG h' (aFore g kd a b c).2 → p (aFore g kd a b c).1 h') : mI (Kd sL (d + 7)) 89 [.inr (.inr (.inr 0)), .inl (nI kd), .inl a, .inl b, .inl c] h p := by
  unfold aFore at hp
  refine k_foresee hG hw hkd (fun c1 h1 f1 g1 => ?_) (fun c1 c2 h1 f1 g1 => ?_) (fun c1 c2 c3 c4 h1 f1 g1 => ?_) (fun c1 c2 c3 c4 c5 h1 f1 g1 => ?_) (fun c1 c2 c3 c4 c5 h1 f1 g1 t1 d1 => ?_)
  · rw [if_neg (by rw [dec_t]; exact c1)] at hp
    exact hp h1 f1 g1
  · rw [if_pos (by rw [dec_t]; exact c1), if_pos (by rw [Bool.or_eq_true, dec_t]; exact c2)] at hp
    exact hp h1 f1 g1
  · rw [if_pos (by rw [dec_t]; exact c1), if_neg (by rw [Bool.or_eq_true, dec_t, c2]; exact fun z => z.elim (by decide) c3), if_pos c4] at hp
    exact hp h1 f1 g1
  · rw [if_pos (by rw [dec_t]; exact c1), if_neg (by rw [Bool.or_eq_true, dec_t, c2]; exact fun z => z.elim (by decide) c3), if_neg (by rw [c4]; decide), if_pos c5] at hp
    exact hp h1 f1 g1
  · rw [if_pos (by rw [dec_t]; exact c1), if_neg (by rw [Bool.or_eq_true, dec_t, c2]; exact fun z => z.elim (by decide) c3), if_neg (by rw [c4]; decide), if_neg c5] at hp
    exact hp h1 f1 g1
theorem hin_0 {S : St} {a : Int32} : ¬ hin S 0 a := fun z => z.elim (fun z => absurd z.1 (by decide)) (fun z => absurd z.1 (by decide))
/-- a write foreseen, then what is thought -/
theorem k_think {l pl v x : Int32} {q : Int32 → mH → Prop} (hG : CG h g) (hw : W0 g.1)
    (hp : ∀ h', FX h h' → CG h' (aThk g l pl v x).2 → p (aThk g l pl v x).1 h')
    (hq1 : ∀ (y : Int32) (h' : mH), y < 0 → p y h' → q y h')
    (hq : okL g.1 l → okN pl 64 → ∀ h', FX h h' → CG h' g → TR h' 1000000 (tau g.1 0 l pl v) → DS sL d h' (act g.1 0 l pl v) g.1 → (∀ h'', FX h h'' → CG h'' g → p x h'') → q (nI (tau g.1 0 l pl v).2.1) h') : mI (Kd sL (d + 7)) 89 [.inr (.inr (.inr 0)), .inl (nI 0), .inl l, .inl pl, .inl v] h q := by
  unfold aThk at hp
  refine k_foresee hG hw (by decide) (fun c1 h1 f1 g1 => ?_) (fun c1 c2 h1 f1 g1 => ?_) (fun c1 c2 c3 c4 h1 f1 g1 => ?_) (fun c1 c2 c3 c4 c5 h1 f1 g1 => ?_) (fun c1 c2 c3 c4 c5 h1 f1 g1 t1 d1 => ?_)
  · rw [if_neg (by rw [dec_t]; exact c1)] at hp
    exact hq1 _ _ (rc_neg 0) (hp h1 f1 g1)
  · rw [if_pos (by rw [dec_t]; exact c1), if_pos (c2.resolve_right hin_0)] at hp
    exact hq1 _ _ (rc_neg 2) (hp h1 f1 g1)
  · exact absurd c4 (by simp [rnd])
  · rw [if_pos (by rw [dec_t]; exact c1), if_neg (by rw [c2]; decide), if_pos c5] at hp
    exact hq1 _ _ (rc_neg 1) (hp h1 f1 g1)
  · rw [if_pos (by rw [dec_t]; exact c1), if_neg (by rw [c2]; decide), if_neg c5] at hp
    exact hq c1.1 c1.2.1 h1 f1 g1 t1 d1 hp
theorem c_cost {l pl : Int32} (hG : CG h g) (hI : GI g) (hp : ∀ h', FX h h' → CG h' (aFore g 0 l pl 0).2 → p (aFore g 0 l pl 0).1 h') : mI (Kd sL (d + 9)) 76 [.inr (.inr (.inr 0)), .inl l, .inl pl] h p := by
  refine ke_X3_cost ?_
  refine EX.go (Kd_mono _ _) [false] 40 0 ?_
  dsimp only [wpc_s, wsl_t, wsl_f, gD_0, gD_s, ↓denB_n, pI_s, pG_s, pU_n, cb_X3_cost_0, ↓ev_aload_n_0, ↓ev_iconst_0, ↓ev_iload_n_1, ↓ev_iload_n_2, ↓ev_callv_5_0_1, ↓ev_callv_5_1_1, ↓ev_callv_5_2_1, ↓ev_callv_5_3_1, ↓ev_callv_5_4_1, ↓ev_iret, Nat.reduceAdd]
  exact k_fore (kd := 0) hG hI.1 (by decide) hp
theorem k_isTornBehind {x : Int32} (hp : p (tI (dec (okN x 100))) h) : mI (Kd sL (d + 1)) 95 [.inl x] h p := by
  refine ke_X3_isTornBehind ?_
  refine EX.go (Kd_mono _ _) [false, false, false, false, false] 40 0 ?_
  dsimp only [wpc_s, wsl_t, wsl_f, gD_0, gD_s, ↓denB_n, pI_s, pG_s, pU_n, cb_X3_isTornBehind_0, cb_X3_isTornBehind_1, cb_X3_isTornBehind_2, cb_X3_isTornBehind_3, cb_X3_isTornBehind_4, ↓ev_iload_n_0, ↓ev_if_lt, ↓ev_bipush_99, ↓ev_icmp_gt, ↓ev_iconst_1, ↓ev_goto, ↓ev_iconst_0, ↓ev_zret, Nat.reduceAdd]
  try simp (disch := omega) only [pk_mul, nI_add, n_lt0, n_le0, n_eq0, n_ge0, n_gt0, n_lt, n_le, n_eq, n_in, n_div, n_rem, n_rem2, n_m1, nI_clamp, bz_0, bz_1, tI_0, tI_bz, n4, n16, eq_self, Nat.reduceLT, Nat.reduceLeDiff, Nat.reduceEqDiff, Nat.reduceAdd, Nat.reduceMul, Nat.reduceDiv, Nat.reduceMod, Nat.le_refl, decide_eq_false_iff_not, Classical.not_not, true_and, and_true, false_and, and_false, not_true_eq_false, not_false_eq_true, forall_const, true_implies, false_implies, implies_true, ne_eq]
  refine ⟨fun c => pdf hp (fun z => z.1 c), fun c => ?_⟩
  obtain ⟨k, hk, rfl⟩ := (i_cases x).resolve_left c
  try simp (disch := omega) only [pk_mul, nI_add, n_lt0, n_le0, n_eq0, n_ge0, n_gt0, n_lt, n_le, n_eq, n_in, n_div, n_rem, n_rem2, n_m1, nI_clamp, bz_0, bz_1, tI_0, tI_bz, n4, n16, eq_self, Nat.reduceLT, Nat.reduceLeDiff, Nat.reduceEqDiff, Nat.reduceAdd, Nat.reduceMul, Nat.reduceDiv, Nat.reduceMod, Nat.le_refl, decide_eq_false_iff_not, Classical.not_not, true_and, and_true, false_and, and_false, not_true_eq_false, not_false_eq_true, forall_const, true_implies, false_implies, implies_true, ne_eq]
  refine ⟨fun c2 => pdf hp (fun z => ?_), fun c2 => pdt hp ⟨c, by rw [n_lt hk (by decide)]; omega⟩⟩
  have := z.2
  rw [n_lt hk (by decide)] at this
  omega
theorem c_torn {l pl v n : Int32} (hG : CG h g) (hI : GI g) (hp : ∀ h', FX h h' → CG h' (aTorn g l pl v n).2 → p (aTorn g l pl v n).1 h') : mI (Kd sL (d + 9)) 77 [.inr (.inr (.inr 0)), .inl l, .inl pl, .inl v, .inl n] h p := by
  refine ke_X3_torn ?_
  refine EX.go (Kd_mono _ _) [false, false, false, true, false, false] 40 0 ?_
  dsimp only [wpc_s, wsl_t, wsl_f, gD_0, gD_s, ↓denB_n, pI_s, pG_s, pU_n, cb_X3_torn_0, cb_X3_torn_1, cb_X3_torn_2, cb_X3_torn_3, cb_X3_torn_4, cb_X3_torn_5, ↓ev_iload_4, ↓ev_calls_1_0_1, ↓ev_calls_1_1_1, ↓ev_calls_1_2_1, ↓ev_calls_1_3_1, ↓ev_calls_1_4_1, ↓ev_if_eq, ↓ev_aload_n_0, ↓ev_iconst_0, ↓ev_iload_n_1, ↓ev_iload_n_2, ↓ev_iload_n_3, ↓ev_callv_5_0_1, ↓ev_callv_5_1_1, ↓ev_callv_5_2_1, ↓ev_callv_5_3_1, ↓ev_callv_5_4_1, ↓ev_goto, ↓ev_sipush_m1001, ↓ev_callv_2_0_1, ↓ev_callv_2_1_1, ↓ev_callv_2_2_1, ↓ev_callv_2_3_1, ↓ev_callv_2_4_1, ↓ev_istore_5, ↓ev_iload_5, ↓ev_if_ge, ↓ev_iret, ↓ev_getf_3_2, ↓ev_getf_3_0, ↓ev_callv_3_0_0, ↓ev_callv_3_1_0, ↓ev_callv_3_2_0, ↓ev_callv_3_3_0, ↓ev_callv_3_4_0, ↓ev_getf_2_0, ↓ev_callv_3_0_1, ↓ev_callv_3_1_1, ↓ev_callv_3_2_1, ↓ev_callv_3_3_1, ↓ev_callv_3_4_1, ↓ev_callv_3_5_1, Nat.reduceAdd]
  unfold aTorn at hp
  have J3n : ∀ y h', y < 0 → p y h' → EX (Kd sL (d + 8)) sL md_X3_torn (pI p) 3 [some (.inr (.inr (.inr 0))), some (.inl l), some (.inl pl), some (.inl v), some (.inl n), none] [.inl y] h' := by
    intro y h' hy hpy
    refine EX.go (Kd_mono _ _) [false, false, false, false, false, false] 40 3 ?_
    dsimp only [wpc_s, wsl_t, wsl_f, gD_0, gD_s, ↓denB_n, pI_s, pG_s, pU_n, cb_X3_torn_0, cb_X3_torn_1, cb_X3_torn_2, cb_X3_torn_3, cb_X3_torn_4, cb_X3_torn_5, ↓ev_iload_4, ↓ev_calls_1_0_1, ↓ev_calls_1_1_1, ↓ev_calls_1_2_1, ↓ev_calls_1_3_1, ↓ev_calls_1_4_1, ↓ev_if_eq, ↓ev_aload_n_0, ↓ev_iconst_0, ↓ev_iload_n_1, ↓ev_iload_n_2, ↓ev_iload_n_3, ↓ev_callv_5_0_1, ↓ev_callv_5_1_1, ↓ev_callv_5_2_1, ↓ev_callv_5_3_1, ↓ev_callv_5_4_1, ↓ev_goto, ↓ev_sipush_m1001, ↓ev_callv_2_0_1, ↓ev_callv_2_1_1, ↓ev_callv_2_2_1, ↓ev_callv_2_3_1, ↓ev_callv_2_4_1, ↓ev_istore_5, ↓ev_iload_5, ↓ev_if_ge, ↓ev_iret, ↓ev_getf_3_2, ↓ev_getf_3_0, ↓ev_callv_3_0_0, ↓ev_callv_3_1_0, ↓ev_callv_3_2_0, ↓ev_callv_3_3_0, ↓ev_callv_3_4_0, ↓ev_getf_2_0, ↓ev_callv_3_0_1, ↓ev_callv_3_1_1, ↓ev_callv_3_2_1, ↓ev_callv_3_3_1, ↓ev_callv_3_4_1, ↓ev_callv_3_5_1, Nat.reduceAdd]
    exact ⟨fun c => absurd hy (Int32.not_lt.mpr c), fun _ => hpy⟩
  refine k_isTornBehind ?_
  try simp (disch := omega) only [pk_mul, nI_add, n_lt0, n_le0, n_eq0, n_ge0, n_gt0, n_lt, n_le, n_eq, n_in, n_div, n_rem, n_rem2, n_m1, nI_clamp, bz_0, bz_1, tI_0, tI_bz, n4, n16, eq_self, Nat.reduceLT, Nat.reduceLeDiff, Nat.reduceEqDiff, Nat.reduceAdd, Nat.reduceMul, Nat.reduceDiv, Nat.reduceMod, Nat.le_refl, decide_eq_false_iff_not, Classical.not_not, true_and, and_true, false_and, and_false, not_true_eq_false, not_false_eq_true, forall_const, true_implies, false_implies, implies_true, ne_eq, dec_f]
  refine ⟨fun c1 => ?_, fun c1 => ?_⟩
  · rw [if_neg (by rw [dec_t]; exact c1)] at hp
    exact k_rfA (j := 0) hG (by decide) (fun h1 f1 g1 => J3n _ _ (rc_neg 0) (hp h1 f1 g1))
  · rw [if_pos (by rw [dec_t]; exact c1)] at hp
    refine k_think hG hI.1 hp J3n (fun o1 o2 h1 f1 g1 t1 d1 hp2 => ?_)
    refine EX.go (Kd_mono _ _) [false, false, false, false, false, false] 40 3 ?_
    dsimp only [wpc_s, wsl_t, wsl_f, gD_0, gD_s, ↓denB_n, pI_s, pG_s, pU_n, cb_X3_torn_0, cb_X3_torn_1, cb_X3_torn_2, cb_X3_torn_3, cb_X3_torn_4, cb_X3_torn_5, ↓ev_iload_4, ↓ev_calls_1_0_1, ↓ev_calls_1_1_1, ↓ev_calls_1_2_1, ↓ev_calls_1_3_1, ↓ev_calls_1_4_1, ↓ev_if_eq, ↓ev_aload_n_0, ↓ev_iconst_0, ↓ev_iload_n_1, ↓ev_iload_n_2, ↓ev_iload_n_3, ↓ev_callv_5_0_1, ↓ev_callv_5_1_1, ↓ev_callv_5_2_1, ↓ev_callv_5_3_1, ↓ev_callv_5_4_1, ↓ev_goto, ↓ev_sipush_m1001, ↓ev_callv_2_0_1, ↓ev_callv_2_1_1, ↓ev_callv_2_2_1, ↓ev_callv_2_3_1, ↓ev_callv_2_4_1, ↓ev_istore_5, ↓ev_iload_5, ↓ev_if_ge, ↓ev_iret, ↓ev_getf_3_2, ↓ev_getf_3_0, ↓ev_callv_3_0_0, ↓ev_callv_3_1_0, ↓ev_callv_3_2_0, ↓ev_callv_3_3_0, ↓ev_callv_3_4_0, ↓ev_getf_2_0, ↓ev_callv_3_0_1, ↓ev_callv_3_1_1, ↓ev_callv_3_2_1, ↓ev_callv_3_3_1, ↓ev_callv_3_4_1, ↓ev_callv_3_5_1, Nat.reduceAdd]
    have hle := t1.2.2.2.2
    obtain ⟨k, hk, rfl⟩ := okN_n c1 (by decide)
    obtain ⟨pl', hpl, rfl⟩ := okN_n o2 (by decide)
    rw [nI_clamp (by omega), nI_clamp (by omega)] at hp2
    try simp (disch := omega) only [pk_mul, nI_add, n_lt0, n_le0, n_eq0, n_ge0, n_gt0, n_lt, n_le, n_eq, n_in, n_div, n_rem, n_rem2, n_m1, nI_clamp, bz_0, bz_1, tI_0, tI_bz, n4, n16, eq_self, Nat.reduceLT, Nat.reduceLeDiff, Nat.reduceEqDiff, Nat.reduceAdd, Nat.reduceMul, Nat.reduceDiv, Nat.reduceMod, Nat.le_refl, decide_eq_false_iff_not, Classical.not_not, true_and, and_true, false_and, and_false, not_true_eq_false, not_false_eq_true, forall_const, true_implies, false_implies, implies_true, ne_eq]
    refine d1 _ h1 k _ (fun _ _ _ => rfl) g1.1 (by omega) (fun h2 o2 t2 => ?_)
    refine k_at t2.1 hpl ?_
    exact hp2 h2 (f1.tr o2.fx) (g1.ov o2)
theorem CG.oi2 {h' : mH} (hG : CG h g) (ho : Oi 2 h h') : CG h' g := hG.ov ⟨fun r a _ _ => ho r a, fun j _ => by rw [ho.oth]⟩
theorem c_leaks {l pl n : Int32} (hG : CG h g) (hI : GI g) (hp : ∀ h', FX h h' → CG h' (aLeaks g l pl n).2 → p (aLeaks g l pl n).1 h') : mI (Kd sL (d + 9)) 78 [.inr (.inr (.inr 0)), .inl l, .inl pl, .inl n] h p := by
  refine ke_X3_leaks ?_
  refine EX.go (Kd_mono _ _) [false, false, false, true, false, false] 40 0 ?_
  dsimp only [wpc_s, wsl_t, wsl_f, gD_0, gD_s, ↓denB_n, pI_s, pG_s, pU_n, cb_X3_leaks_0, cb_X3_leaks_1, cb_X3_leaks_2, cb_X3_leaks_3, cb_X3_leaks_4, cb_X3_leaks_5, ↓ev_iload_n_3, ↓ev_calls_1_0_1, ↓ev_calls_1_1_1, ↓ev_calls_1_2_1, ↓ev_calls_1_3_1, ↓ev_calls_1_4_1, ↓ev_if_eq, ↓ev_aload_n_0, ↓ev_iconst_0, ↓ev_iload_n_1, ↓ev_iload_n_2, ↓ev_callv_5_0_1, ↓ev_callv_5_1_1, ↓ev_callv_5_2_1, ↓ev_callv_5_3_1, ↓ev_callv_5_4_1, ↓ev_goto, ↓ev_sipush_m1001, ↓ev_callv_2_0_1, ↓ev_callv_2_1_1, ↓ev_callv_2_2_1, ↓ev_callv_2_3_1, ↓ev_callv_2_4_1, ↓ev_istore_4, ↓ev_iload_4, ↓ev_if_ge, ↓ev_iret, ↓ev_getf_3_2, ↓ev_getf_3_0, ↓ev_callv_3_0_0, ↓ev_callv_3_1_0, ↓ev_callv_3_2_0, ↓ev_callv_3_3_0, ↓ev_callv_3_4_0, ↓ev_getf_2_0, ↓ev_callv_1_0_2, ↓ev_callv_1_1_2, ↓ev_callv_1_2_2, ↓ev_callv_1_3_2, ↓ev_callv_1_4_2, Nat.reduceAdd]
  unfold aLeaks at hp
  have J3n : ∀ y h', y < 0 → p y h' → EX (Kd sL (d + 8)) sL md_X3_leaks (pI p) 3 [some (.inr (.inr (.inr 0))), some (.inl l), some (.inl pl), some (.inl n), none] [.inl y] h' := by
    intro y h' hy hpy
    refine EX.go (Kd_mono _ _) [false, false, false, false, false, false] 40 3 ?_
    dsimp only [wpc_s, wsl_t, wsl_f, gD_0, gD_s, ↓denB_n, pI_s, pG_s, pU_n, cb_X3_leaks_0, cb_X3_leaks_1, cb_X3_leaks_2, cb_X3_leaks_3, cb_X3_leaks_4, cb_X3_leaks_5, ↓ev_iload_n_3, ↓ev_calls_1_0_1, ↓ev_calls_1_1_1, ↓ev_calls_1_2_1, ↓ev_calls_1_3_1, ↓ev_calls_1_4_1, ↓ev_if_eq, ↓ev_aload_n_0, ↓ev_iconst_0, ↓ev_iload_n_1, ↓ev_iload_n_2, ↓ev_callv_5_0_1, ↓ev_callv_5_1_1, ↓ev_callv_5_2_1, ↓ev_callv_5_3_1, ↓ev_callv_5_4_1, ↓ev_goto, ↓ev_sipush_m1001, ↓ev_callv_2_0_1, ↓ev_callv_2_1_1, ↓ev_callv_2_2_1, ↓ev_callv_2_3_1, ↓ev_callv_2_4_1, ↓ev_istore_4, ↓ev_iload_4, ↓ev_if_ge, ↓ev_iret, ↓ev_getf_3_2, ↓ev_getf_3_0, ↓ev_callv_3_0_0, ↓ev_callv_3_1_0, ↓ev_callv_3_2_0, ↓ev_callv_3_3_0, ↓ev_callv_3_4_0, ↓ev_getf_2_0, ↓ev_callv_1_0_2, ↓ev_callv_1_1_2, ↓ev_callv_1_2_2, ↓ev_callv_1_3_2, ↓ev_callv_1_4_2, Nat.reduceAdd]
    exact ⟨fun c => absurd hy (Int32.not_lt.mpr c), fun _ => hpy⟩
  refine k_isTornBehind ?_
  try simp (disch := omega) only [pk_mul, nI_add, n_lt0, n_le0, n_eq0, n_ge0, n_gt0, n_lt, n_le, n_eq, n_in, n_div, n_rem, n_rem2, n_m1, nI_clamp, bz_0, bz_1, tI_0, tI_bz, n4, n16, eq_self, Nat.reduceLT, Nat.reduceLeDiff, Nat.reduceEqDiff, Nat.reduceAdd, Nat.reduceMul, Nat.reduceDiv, Nat.reduceMod, Nat.le_refl, decide_eq_false_iff_not, Classical.not_not, true_and, and_true, false_and, and_false, not_true_eq_false, not_false_eq_true, forall_const, true_implies, false_implies, implies_true, ne_eq, dec_f]
  refine ⟨fun c1 => ?_, fun c1 => ?_⟩
  · rw [if_neg (by rw [dec_t]; exact c1)] at hp
    exact k_rfA (j := 0) hG (by decide) (fun h1 f1 g1 => J3n _ _ (rc_neg 0) (hp h1 f1 g1))
  · rw [if_pos (by rw [dec_t]; exact c1)] at hp
    refine k_think hG hI.1 hp J3n (fun o1 o2 h1 f1 g1 t1 d1 hp2 => ?_)
    refine EX.go (Kd_mono _ _) [false, false, false, false, false, false] 40 3 ?_
    dsimp only [wpc_s, wsl_t, wsl_f, gD_0, gD_s, ↓denB_n, pI_s, pG_s, pU_n, cb_X3_leaks_0, cb_X3_leaks_1, cb_X3_leaks_2, cb_X3_leaks_3, cb_X3_leaks_4, cb_X3_leaks_5, ↓ev_iload_n_3, ↓ev_calls_1_0_1, ↓ev_calls_1_1_1, ↓ev_calls_1_2_1, ↓ev_calls_1_3_1, ↓ev_calls_1_4_1, ↓ev_if_eq, ↓ev_aload_n_0, ↓ev_iconst_0, ↓ev_iload_n_1, ↓ev_iload_n_2, ↓ev_callv_5_0_1, ↓ev_callv_5_1_1, ↓ev_callv_5_2_1, ↓ev_callv_5_3_1, ↓ev_callv_5_4_1, ↓ev_goto, ↓ev_sipush_m1001, ↓ev_callv_2_0_1, ↓ev_callv_2_1_1, ↓ev_callv_2_2_1, ↓ev_callv_2_3_1, ↓ev_callv_2_4_1, ↓ev_istore_4, ↓ev_iload_4, ↓ev_if_ge, ↓ev_iret, ↓ev_getf_3_2, ↓ev_getf_3_0, ↓ev_callv_3_0_0, ↓ev_callv_3_1_0, ↓ev_callv_3_2_0, ↓ev_callv_3_3_0, ↓ev_callv_3_4_0, ↓ev_getf_2_0, ↓ev_callv_1_0_2, ↓ev_callv_1_1_2, ↓ev_callv_1_2_2, ↓ev_callv_1_3_2, ↓ev_callv_1_4_2, Nat.reduceAdd]
    have hle := t1.2.2.2.2
    obtain ⟨k, hk, rfl⟩ := okN_n c1 (by decide)
    rw [nI_clamp (by omega)] at hp2
    try simp (disch := omega) only [pk_mul, nI_add, n_lt0, n_le0, n_eq0, n_ge0, n_gt0, n_lt, n_le, n_eq, n_in, n_div, n_rem, n_rem2, n_m1, nI_clamp, bz_0, bz_1, tI_0, tI_bz, n4, n16, eq_self, Nat.reduceLT, Nat.reduceLeDiff, Nat.reduceEqDiff, Nat.reduceAdd, Nat.reduceMul, Nat.reduceDiv, Nat.reduceMod, Nat.le_refl, decide_eq_false_iff_not, Classical.not_not, true_and, and_true, false_and, and_false, not_true_eq_false, not_false_eq_true, forall_const, true_implies, false_implies, implies_true, ne_eq]
    refine d1 _ h1 k _ (fun _ _ _ => rfl) g1.1 (by omega) (fun h2 o2 t2 => ?_)
    refine k_leakSet t2.1 (fun h3 o3 c3 => ?_)
    refine k_bitCount ?_
    exact hp2 h3 (f1.tr (o2.fx.tr o3.fx)) ((g1.ov o2).oi2 o3)
theorem c_behind {l pl v : Int32} (hG : CG h g) (hI : GI g) (hp : ∀ h', FX h h' → CG h' (aBehind g l pl v).2 → p (aBehind g l pl v).1 h') : mI (Kd sL (d + 9)) 79 [.inr (.inr (.inr 0)), .inl l, .inl pl, .inl v] h p := by
  refine ke_X3_behind ?_
  refine EX.go (Kd_mono _ _) [false, false, false, false, false, true, false, false, false, false] 40 0 ?_
  dsimp only [wpc_s, wsl_t, wsl_f, gD_0, gD_s, ↓denB_n, pI_s, pG_s, pU_n, cb_X3_behind_0, cb_X3_behind_1, cb_X3_behind_2, cb_X3_behind_3, cb_X3_behind_4, cb_X3_behind_5, cb_X3_behind_6, cb_X3_behind_7, cb_X3_behind_8, cb_X3_behind_9, ↓ev_aload_n_0, ↓ev_iconst_0, ↓ev_iload_n_1, ↓ev_iload_n_2, ↓ev_iload_n_3, ↓ev_callv_5_0_1, ↓ev_callv_5_1_1, ↓ev_callv_5_2_1, ↓ev_callv_5_3_1, ↓ev_callv_5_4_1, ↓ev_istore_4, ↓ev_iload_4, ↓ev_if_ge, ↓ev_iret, ↓ev_getf_3_0, ↓ev_callv_3_0_1, ↓ev_callv_3_1_1, ↓ev_callv_3_2_1, ↓ev_callv_3_3_1, ↓ev_callv_3_4_1, ↓ev_callv_3_5_1, ↓ev_icmp_ne, ↓ev_iconst_m1, ↓ev_istore_5, ↓ev_iload_5, ↓ev_icmp_ge, ↓ev_getf_3_2, ↓ev_callv_3_0_0, ↓ev_callv_3_1_0, ↓ev_callv_3_2_0, ↓ev_callv_3_3_0, ↓ev_callv_3_4_0, ↓ev_getf_2_0, ↓ev_iinc_5_1, ↓ev_goto, Nat.reduceAdd]
  unfold aBehind at hp
  refine k_think hG hI.1 hp (fun y h' hy hpy => ⟨fun c => absurd hy (Int32.not_lt.mpr c), fun _ => hpy⟩) (fun o1 o2 h1 f1 g1 t1 d1 hp2 => ?_)
  have hle := t1.2.2.2.2
  obtain ⟨pl', hpl, rfl⟩ := okN_n o2 (by decide)
  rw [nI_clamp (by omega)] at hp2
  try simp (disch := omega) only [pk_mul, nI_add, n_lt0, n_le0, n_eq0, n_ge0, n_gt0, n_lt, n_le, n_eq, n_in, n_div, n_rem, n_rem2, n_m1, nI_clamp, bz_0, bz_1, tI_0, tI_bz, n4, n16, eq_self, Nat.reduceLT, Nat.reduceLeDiff, Nat.reduceEqDiff, Nat.reduceAdd, Nat.reduceMul, Nat.reduceDiv, Nat.reduceMod, Nat.le_refl, decide_eq_false_iff_not, Classical.not_not, true_and, and_true, false_and, and_false, not_true_eq_false, not_false_eq_true, forall_const, true_implies, false_implies, implies_true, ne_eq]
  refine k_at g1.1 hpl ?_
  refine ⟨fun c => ?_, fun c => ?_⟩
  · rw [if_neg c] at hp2
    generalize hN : (tau g.1 0 l (nI pl') v).2.1 = N at hp2 hle ⊢
    suffices H : ∀ (f k : Nat) (h' : mH), k + f = N → FX h h' → CG h' g → (∀ j, 1 ≤ j → j < 5 → h' (.inr 2) j = h1 (.inr 2) j) → (∀ h'', FX h h'' → CG h'' g → p (bhF g.1 l (nI pl') v f k) h'') → EX (Kd sL (d + 8)) sL md_X3_behind (pI p) 5 [some (.inr (.inr (.inr 0))), some (.inl l), some (.inl (nI pl')), some (.inl v), some (.inl (nI N)), some (.inl (nI k))] [] h' from H N 0 h1 (by omega) f1 g1 (fun _ _ _ => rfl) hp2
    intro f
    induction f with
    | zero =>
      intro k h' hk fx hG' _ hp3
      have : k = N := by omega
      subst this
      refine EX.go (Kd_mono _ _) [false, false, false, false, false, true, false, false, false, false] 40 5 ?_
      dsimp only [wpc_s, wsl_t, wsl_f, gD_0, gD_s, ↓denB_n, pI_s, pG_s, pU_n, cb_X3_behind_0, cb_X3_behind_1, cb_X3_behind_2, cb_X3_behind_3, cb_X3_behind_4, cb_X3_behind_5, cb_X3_behind_6, cb_X3_behind_7, cb_X3_behind_8, cb_X3_behind_9, ↓ev_aload_n_0, ↓ev_iconst_0, ↓ev_iload_n_1, ↓ev_iload_n_2, ↓ev_iload_n_3, ↓ev_callv_5_0_1, ↓ev_callv_5_1_1, ↓ev_callv_5_2_1, ↓ev_callv_5_3_1, ↓ev_callv_5_4_1, ↓ev_istore_4, ↓ev_iload_4, ↓ev_if_ge, ↓ev_iret, ↓ev_getf_3_0, ↓ev_callv_3_0_1, ↓ev_callv_3_1_1, ↓ev_callv_3_2_1, ↓ev_callv_3_3_1, ↓ev_callv_3_4_1, ↓ev_callv_3_5_1, ↓ev_icmp_ne, ↓ev_iconst_m1, ↓ev_istore_5, ↓ev_iload_5, ↓ev_icmp_ge, ↓ev_getf_3_2, ↓ev_callv_3_0_0, ↓ev_callv_3_1_0, ↓ev_callv_3_2_0, ↓ev_callv_3_3_0, ↓ev_callv_3_4_0, ↓ev_getf_2_0, ↓ev_iinc_5_1, ↓ev_goto, Nat.reduceAdd]
      try simp (disch := omega) only [pk_mul, nI_add, n_lt0, n_le0, n_eq0, n_ge0, n_gt0, n_lt, n_le, n_eq, n_in, n_div, n_rem, n_rem2, n_m1, nI_clamp, bz_0, bz_1, tI_0, tI_bz, n4, n16, eq_self, Nat.reduceLT, Nat.reduceLeDiff, Nat.reduceEqDiff, Nat.reduceAdd, Nat.reduceMul, Nat.reduceDiv, Nat.reduceMod, Nat.le_refl, decide_eq_false_iff_not, Classical.not_not, true_and, and_true, false_and, and_false, not_true_eq_false, not_false_eq_true, forall_const, true_implies, false_implies, implies_true, ne_eq]
      exact hp3 h' fx hG'
    | succ f ih =>
      intro k h' hk fx hG' hj hp3
      refine EX.go (Kd_mono _ _) [false, false, false, false, false, true, false, false, false, false] 40 5 ?_
      dsimp only [wpc_s, wsl_t, wsl_f, gD_0, gD_s, ↓denB_n, pI_s, pG_s, pU_n, cb_X3_behind_0, cb_X3_behind_1, cb_X3_behind_2, cb_X3_behind_3, cb_X3_behind_4, cb_X3_behind_5, cb_X3_behind_6, cb_X3_behind_7, cb_X3_behind_8, cb_X3_behind_9, ↓ev_aload_n_0, ↓ev_iconst_0, ↓ev_iload_n_1, ↓ev_iload_n_2, ↓ev_iload_n_3, ↓ev_callv_5_0_1, ↓ev_callv_5_1_1, ↓ev_callv_5_2_1, ↓ev_callv_5_3_1, ↓ev_callv_5_4_1, ↓ev_istore_4, ↓ev_iload_4, ↓ev_if_ge, ↓ev_iret, ↓ev_getf_3_0, ↓ev_callv_3_0_1, ↓ev_callv_3_1_1, ↓ev_callv_3_2_1, ↓ev_callv_3_3_1, ↓ev_callv_3_4_1, ↓ev_callv_3_5_1, ↓ev_icmp_ne, ↓ev_iconst_m1, ↓ev_istore_5, ↓ev_iload_5, ↓ev_icmp_ge, ↓ev_getf_3_2, ↓ev_callv_3_0_0, ↓ev_callv_3_1_0, ↓ev_callv_3_2_0, ↓ev_callv_3_3_0, ↓ev_callv_3_4_0, ↓ev_getf_2_0, ↓ev_iinc_5_1, ↓ev_goto, Nat.reduceAdd]
      try simp (disch := omega) only [pk_mul, nI_add, n_lt0, n_le0, n_eq0, n_ge0, n_gt0, n_lt, n_le, n_eq, n_in, n_div, n_rem, n_rem2, n_m1, nI_clamp, bz_0, bz_1, tI_0, tI_bz, n4, n16, eq_self, Nat.reduceLT, Nat.reduceLeDiff, Nat.reduceEqDiff, Nat.reduceAdd, Nat.reduceMul, Nat.reduceDiv, Nat.reduceMod, Nat.le_refl, decide_eq_false_iff_not, Classical.not_not, true_and, and_true, false_and, and_false, not_true_eq_false, not_false_eq_true, forall_const, true_implies, false_implies, implies_true, ne_eq]
      refine ⟨fun c => absurd c (by omega), fun _ => ?_⟩
      refine d1 _ h' k _ hj hG'.1 (by omega) (fun h2 o2 t2 => ?_)
      refine k_at t2.1 hpl ?_
      rw [bhF, nI_clamp (by omega)] at hp3
      refine ⟨fun c2 => ?_, fun c2 => ?_⟩
      · rw [if_neg c2] at hp3
        exact ih (k + 1) h2 (by omega) (fx.tr o2.fx) (hG'.ov o2) (fun j a b => (o2.2 j b).trans (hj j a b)) hp3
      · rw [if_pos (by simpa using c2)] at hp3
        exact hp3 h2 (fx.tr o2.fx) (hG'.ov o2)
  · rw [if_pos (by simpa using c)] at hp2
    exact hp2 h1 f1 g1
theorem rmF_ok {S : St} {l n : Nat} (hj : ∀ j, j ≤ n → ¬ (rwF 1000000 l j (S, 0, 0)).2.2 = 2) (hn : n ≤ 64) (h2 : n = 64 ∨ (rwF 1000000 l (n + 1) (S, 0, 0)).2.2 = 2) : ∀ f k, k + f = 64 → k ≤ n → rmF S l f k = n
  | 0, k, hk, hkn => by unfold rmF; omega
  | f + 1, k, hk, hkn => by
    unfold rmF
    by_cases e : k = n
    · subst e
      rw [if_pos (h2.resolve_left (by omega))]
    · rw [if_neg (hj (k + 1) (by omega))]
      exact rmF_ok hj hn h2 f (k + 1) (by omega) (by omega)
theorem c_room {l : Int32} (hG : CG h g) (hp : ∀ h', FX h h' → CG h' (aRoom g l).2 → p (aRoom g l).1 h') : mI (Kd sL (d + 9)) 80 [.inr (.inr (.inr 0)), .inl l] h p := by
  refine ke_X3_room ?_
  refine EX.go (Kd_mono _ _) [false, false, false, false, false] 40 0 ?_
  dsimp only [wpc_s, wsl_t, wsl_f, gD_0, gD_s, ↓denB_n, pI_s, pG_s, pU_n, cb_X3_room_0, cb_X3_room_1, cb_X3_room_2, cb_X3_room_3, cb_X3_room_4, ↓ev_aload_n_0, ↓ev_getf_3_0, ↓ev_iload_n_1, ↓ev_callv_2_0_1, ↓ev_callv_2_1_1, ↓ev_callv_2_2_1, ↓ev_callv_2_3_1, ↓ev_callv_2_4_1, ↓ev_if_ne, ↓ev_sipush_m1001, ↓ev_iret, ↓ev_callv_1_0_2, ↓ev_callv_1_1_2, ↓ev_callv_1_2_2, ↓ev_callv_1_3_2, ↓ev_callv_1_4_2, ↓ev_lconst_0, ↓ev_lcmp, ↓ev_if_eq, ↓ev_sipush_m1003, ↓ev_getf_3_2, ↓ev_callv_3_0_1, ↓ev_callv_3_1_1, ↓ev_callv_3_2_1, ↓ev_callv_3_3_1, ↓ev_callv_3_4_1, ↓ev_callv_3_5_1, Nat.reduceAdd]
  unfold aRoom at hp
  have hm6 := hG.1.2.2.2.2.2.2.1
  refine k_hasLayerD hG.1 ?_
  try simp (disch := omega) only [pk_mul, nI_add, n_lt0, n_le0, n_eq0, n_ge0, n_gt0, n_lt, n_le, n_eq, n_in, n_div, n_rem, n_rem2, n_m1, nI_clamp, bz_0, bz_1, tI_0, tI_bz, n4, n16, eq_self, Nat.reduceLT, Nat.reduceLeDiff, Nat.reduceEqDiff, Nat.reduceAdd, Nat.reduceMul, Nat.reduceDiv, Nat.reduceMod, Nat.le_refl, decide_eq_false_iff_not, Classical.not_not, true_and, and_true, false_and, and_false, not_true_eq_false, not_false_eq_true, forall_const, true_implies, false_implies, implies_true, ne_eq, dec_f]
  refine ⟨fun c1 => ?_, fun c1 => ?_⟩
  · rw [if_pos (by rw [dec_t]; exact c1)] at hp
    obtain ⟨k, hk, rfl⟩ := okL_n c1 hm6
    rw [nI_clamp (by omega)] at hp
    refine k_lackSet hG.1 (fun h1 o1 c1 => ?_)
    have hG1 := hG.oi o1 c1
    try simp (disch := omega) only [pk_mul, nI_add, n_lt0, n_le0, n_eq0, n_ge0, n_gt0, n_lt, n_le, n_eq, n_in, n_div, n_rem, n_rem2, n_m1, nI_clamp, bz_0, bz_1, tI_0, tI_bz, n4, n16, eq_self, Nat.reduceLT, Nat.reduceLeDiff, Nat.reduceEqDiff, Nat.reduceAdd, Nat.reduceMul, Nat.reduceDiv, Nat.reduceMod, Nat.le_refl, decide_eq_false_iff_not, Classical.not_not, true_and, and_true, false_and, and_false, not_true_eq_false, not_false_eq_true, forall_const, true_implies, false_implies, implies_true, ne_eq, lg_cmp0, lk_lOr]
    refine ⟨fun c2 => ?_, fun c2 => ?_⟩
    · rw [if_neg (by rw [c2]; decide)] at hp
      refine k_rewriteAll hG1.1 hk (fun n h2 τ hn o2 hj hτ t2 => ?_)
      have hp2 := hp h2 (o1.fx.tr o2.fx) (hG1.ov o2)
      rw [rmF_ok hj hn (hτ.elim (fun z => Or.inl z.1) (fun z => Or.inr (by rw [← z.2.1]; exact z.2.2))) 64 0 rfl (by omega)] at hp2
      exact hp2
    · rw [if_pos (by simpa using c2)] at hp
      exact k_rfA (j := 2) hG1 (by decide) (fun h2 f2 g2 => hp h2 (o1.fx.tr f2) g2)
  · rw [if_neg (by rw [dec_t]; exact c1)] at hp
    exact k_rfA (j := 0) hG (by decide) hp
end PB5
