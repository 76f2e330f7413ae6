/-! ===== the reference: in thought ===== -/
theorem gt_k {L : Nat} {f : St → St} {σ : Sg} (h : σ.2.2 ≤ 2) : (gt L f σ).2.2 ≤ 2 := by
  unfold gt
  split
  · split
    · exact (by decide : 1 ≤ 2)
    · exact (by decide : 0 ≤ 2)
  · exact h
theorem addc_k {L c : Nat} {v : Int32} {σ : Sg} (h : σ.2.2 ≤ 2) : (addc L c v σ).2.2 ≤ 2 := by
  unfold addc
  split
  · exact h
  · exact gt_k h
theorem incF_k {L old : Nat} {σ : Sg} (h : σ.2.2 ≤ 2) : ∀ k, (incF L old k σ).2.2 ≤ 2
  | 0 => h
  | k + 1 => addc_k (incF_k h k)
theorem ncl_k {σ : Sg} (h : σ.2.2 ≤ 2) : (ncl σ).2.2.2 ≤ 2 := by
  unfold ncl
  split
  · split
    · exact (by decide : 2 ≤ 2)
    · exact h
  · exact h
theorem own_k {L l i : Nat} {σ : Sg} (h : σ.2.2 ≤ 2) : (own L l i σ).2.2.2 ≤ 2 := by
  unfold own
  split
  · exact h
  · exact addc_k (gt_k (incF_k (gt_k (gt_k (ncl_k h))) 4))
theorem wpl_k {L l p : Nat} {v : Int32} {σ : Sg} (h : σ.2.2 ≤ 2) : (wpl L l p v σ).2.2 ≤ 2 := by
  unfold wpl wp1
  have h1 := own_k (L := L) (l := l) (i := p / 4 / 4) h
  split
  · exact gt_k (addc_k (gt_k (gt_k (gt_k (ncl_k h1)))))
  · exact gt_k h1
section RTHK
variable {sL d L B : Nat} {h : mH} {g : Gs} {S : St} {p : Int32 → mH → Prop} {l pl v : Int32}
theorem tau_v {w : Int32} : (tau S 0 l pl v).2 = (tau S 0 l pl w).2 := wpl_v
theorem fit_v {w : Int32} (h : fit S 0 l pl v) (hw : okN w 256) : fit S 0 l pl w := ⟨h.1, h.2.1, hw⟩
theorem ok0 : okN 0 256 := ⟨by decide, by decide⟩
theorem r_wrong {b : Bool} (hS : RS h S) (hw : WF S) (hb : BD S B) (hB : B < 2 ^ 29)
    (hbad : ¬ (okL S l ∧ okN pl 64 ∧ b = true) → p (-1001) h)
    (hst : okL S l → okN pl 64 → b = true → lk S = true → ∀ h', FE h h' → RS h' S → p (-1003) h')
    (hful : okL S l → okN pl 64 → b = true → lk S = false → (tau S 0 l pl 0).2.2 = 2 → ∀ h', FE h h' → RS h' S → p (-1002) h')
    (hok : okL S l → okN pl 64 → b = true → lk S = false → ¬ (tau S 0 l pl 0).2.2 = 2 → ∀ h', FE h h' → RS h' S → h' (.inr 7) 7 = nI (tau S 0 l pl 0).2.1 → p (nI 0) h') : mI (Kd sL (d + 9)) 170 [.inr (.inr (.inr 7)), .inl l, .inl pl, .inl (tI b)] h p := by
  refine ke_X4_wrong ?_
  refine EX.go (Kd_mono _ _) [false, false, false, false, false, false, false, false, false, false] 40 0 ?_
  dsimp only [wpc_s, wsl_t, wsl_f, gD_0, gD_s, ↓denB_n, pI_s, pG_s, pU_n, cb_X4_wrong_0, cb_X4_wrong_1, cb_X4_wrong_2, cb_X4_wrong_3, cb_X4_wrong_4, cb_X4_wrong_5, cb_X4_wrong_6, cb_X4_wrong_7, cb_X4_wrong_8, cb_X4_wrong_9, ↓ev_aload_n_0, ↓ev_iload_n_1, ↓ev_callv_2_0_1, ↓ev_callv_2_1_1, ↓ev_callv_2_2_1, ↓ev_callv_2_3_1, ↓ev_callv_2_4_1, ↓ev_if_eq, ↓ev_iload_n_2, ↓ev_calls_1_0_1, ↓ev_calls_1_1_1, ↓ev_calls_1_2_1, ↓ev_calls_1_3_1, ↓ev_calls_1_4_1, ↓ev_iload_n_3, ↓ev_if_ne, ↓ev_sipush_m1001, ↓ev_iret, ↓ev_callv_1_0_1, ↓ev_callv_1_1_1, ↓ev_callv_1_2_1, ↓ev_callv_1_3_1, ↓ev_callv_1_4_1, ↓ev_sipush_m1003, ↓ev_goto, ↓ev_iconst_0, ↓ev_callv_5_0_1, ↓ev_callv_5_1_1, ↓ev_callv_5_2_1, ↓ev_callv_5_3_1, ↓ev_callv_5_4_1, ↓ev_sipush_m1002, Nat.reduceAdd]
  refine r_isLayer hS hw ?_
  try simp (disch := omega) only [pk_mul, nI_add, n_lt0, n_le0, n_eq0, n_ge0, n_gt0, n_lt, n_le, n_eq, n_in, n_div, n_rem, n_rem2, n_m1, nI_clamp, bz_0, bz_1, tI_0, tI_bz, n4, n16, eq_self, Nat.reduceLT, Nat.reduceLeDiff, Nat.reduceEqDiff, Nat.reduceAdd, Nat.reduceMul, Nat.reduceDiv, Nat.reduceMod, Nat.le_refl, decide_eq_false_iff_not, Classical.not_not, true_and, and_true, false_and, and_false, not_true_eq_false, not_false_eq_true, forall_const, true_implies, false_implies, implies_true, ne_eq]
  refine ⟨fun c1 => hbad (fun z => dec_f.mp c1 z.1), fun c1 => ?_⟩
  refine r_isPlace ?_
  try simp (disch := omega) only [pk_mul, nI_add, n_lt0, n_le0, n_eq0, n_ge0, n_gt0, n_lt, n_le, n_eq, n_in, n_div, n_rem, n_rem2, n_m1, nI_clamp, bz_0, bz_1, tI_0, tI_bz, n4, n16, eq_self, Nat.reduceLT, Nat.reduceLeDiff, Nat.reduceEqDiff, Nat.reduceAdd, Nat.reduceMul, Nat.reduceDiv, Nat.reduceMod, Nat.le_refl, decide_eq_false_iff_not, Classical.not_not, true_and, and_true, false_and, and_false, not_true_eq_false, not_false_eq_true, forall_const, true_implies, false_implies, implies_true, ne_eq]
  refine ⟨fun c2 => hbad (fun z => dec_f.mp c2 z.2.1), fun c2 => ⟨fun c3 => ?_, fun c3 => hbad (fun z => by rw [c3] at z; exact absurd z.2.2 (by decide))⟩⟩
  have a1 : okL S l := Classical.not_not.mp (fun z => c1 (dec_f.mpr z))
  have a2 : okN pl 64 := Classical.not_not.mp (fun z => c2 (dec_f.mpr z))
  have a3 : b = true := by simpa using c3
  refine r_hasLack hS hw (fun F G => ?_)
  try simp (disch := omega) only [pk_mul, nI_add, n_lt0, n_le0, n_eq0, n_ge0, n_gt0, n_lt, n_le, n_eq, n_in, n_div, n_rem, n_rem2, n_m1, nI_clamp, bz_0, bz_1, tI_0, tI_bz, n4, n16, eq_self, Nat.reduceLT, Nat.reduceLeDiff, Nat.reduceEqDiff, Nat.reduceAdd, Nat.reduceMul, Nat.reduceDiv, Nat.reduceMod, Nat.le_refl, decide_eq_false_iff_not, Classical.not_not, true_and, and_true, false_and, and_false, not_true_eq_false, not_false_eq_true, forall_const, true_implies, false_implies, implies_true, ne_eq]
  refine ⟨fun c4 => ?_, fun c4 => hst a1 a2 a3 (by simpa using c4) _ FE.p23 hS.a⟩
  refine r_isTooMuch (kd := 0) (a := l) (b := pl) (c := 0) hS.a hw hb hB (by decide) ⟨a1, a2, ok0⟩ c4 (hin_n (g := (S, S, false, fun _ => 0, 0, 0, fun _ => 0)) (by decide) (by decide)) (fun h1 o1 s1 d1 => ?_)
  rw [tI_0]
  refine ⟨fun c5 => ?_, fun c5 => ?_⟩
  · exact hok a1 a2 a3 c4 (of_decide_eq_false c5) h1 (FE.p23.tr o1) s1 d1
  · exact hful a1 a2 a3 c4 (by simpa using c5) h1 (FE.p23.tr o1) s1
theorem r_cost (hG : RG h g) (hJ : JG B g) (hB : B < 2 ^ 29) (hp : ∀ h', FR h h' → RG h' (aFore g 0 l pl 0).2 → p (aFore g 0 l pl 0).1 h') : mI (Kd sL (d + 12)) 171 [.inr (.inr (.inr 7)), .inl l, .inl pl] h p := by
  refine ke_X4_cost ?_
  refine EX.go (Kd_mono _ _) [false, false, false, false] 40 0 ?_
  dsimp only [wpc_s, wsl_t, wsl_f, gD_0, gD_s, ↓denB_n, pI_s, pG_s, pU_n, cb_X4_cost_0, cb_X4_cost_1, cb_X4_cost_2, cb_X4_cost_3, ↓ev_aload_n_0, ↓ev_iload_n_1, ↓ev_iload_n_2, ↓ev_iconst_1, ↓ev_callv_4_0_1, ↓ev_callv_4_1_1, ↓ev_callv_4_2_1, ↓ev_callv_4_3_1, ↓ev_callv_4_4_1, ↓ev_istore_n_3, ↓ev_iload_n_3, ↓ev_if_eq, ↓ev_callv_2_0_1, ↓ev_callv_2_1_1, ↓ev_callv_2_2_1, ↓ev_callv_2_3_1, ↓ev_callv_2_4_1, ↓ev_goto, ↓ev_getf_4_7, ↓ev_iret, Nat.reduceAdd]
  unfold aFore at hp
  refine r_wrong (b := true) hG.1 hJ.1 hJ.2.1 hB (fun z => ?_) (fun z1 z2 _ z3 h1 o1 s1 => ?_) (fun z1 z2 _ z3 z4 h1 o1 s1 => ?_) (fun z1 z2 _ z3 z4 h1 o1 s1 d1 => ?_)
  · refine ⟨fun c => absurd c (by decide), fun _ => ?_⟩
    rw [dec_f.mpr (fun y => z ⟨y.1, y.2.1, rfl⟩), if_neg (by decide)] at hp
    exact r_rf (j := 0) hG (by decide) hp
  · refine ⟨fun c => absurd c (by decide), fun _ => ?_⟩
    rw [if_pos (dec_t.mpr ⟨z1, z2, ok0⟩), if_pos (by rw [z3]; rfl)] at hp
    exact r_rf (j := 2) (hG.fe0 o1 s1) (by decide) (fun h2 o2 g2 => hp h2 (o1.fr.tr o2) g2)
  · refine ⟨fun c => absurd c (by decide), fun _ => ?_⟩
    rw [if_pos (dec_t.mpr ⟨z1, z2, ok0⟩), if_neg (by rw [z3, dec_f.mpr (hin_n (by decide) (by decide))]; decide), if_neg (by rw [rnd_n (by decide)]; decide), if_pos z4] at hp
    exact r_rf (j := 1) (hG.fe0 o1 s1) (by decide) (fun h2 o2 g2 => hp h2 (o1.fr.tr o2) g2)
  · refine ⟨fun _ => ?_, fun c => absurd rfl c⟩
    rw [if_pos (dec_t.mpr ⟨z1, z2, ok0⟩), if_neg (by rw [z3, dec_f.mpr (hin_n (by decide) (by decide))]; decide), if_neg (by rw [rnd_n (by decide)]; decide), if_neg z4] at hp
    rw [d1]
    exact hp h1 o1.fr (hG.fe0 o1 s1)
theorem act_wf {n : Nat} (hw : WF S) (hb : BD S B) (hB : B + n < 2 ^ 30) (hf : fit S 0 l pl v) (hl : lk S = false) : WF (act S 0 l pl v n (S, 0, 0)).1 ∧ mn (act S 0 l pl v n (S, 0, 0)).1 = mn S := by
  have h := act_a (kd := 0) (L := n) hw hb hB (by decide) hf hl (hin_n (g := (S, S, false, fun _ => 0, 0, 0, fun _ => 0)) (by decide) (by decide)) (rnd_n (g := (S, S, false, fun _ => 0, 0, 0, fun _ => 0)) (by decide))
  exact ⟨h.1, h.2.2⟩
theorem r_thought {n : Nat} {w : Int32} (hS : RS h S) (hw : WF S) (hb : BD S B) (hB : B < 2 ^ 29) (hn : n < 2000) (hf : fit S 0 l pl v) (hl : lk S = false) (hp : ∀ h', FE h h' → RS h' S → p (if w = 0 then rdf (act S 0 l pl v n (S, 0, 0)).1 6 l pl.toNatClampNeg else nI (fb_ct (leakP (act S 0 l pl v n (S, 0, 0)).1) 64)) h') : mI (Kd sL (d + 8)) 172 [.inr (.inr (.inr 7)), .inl l, .inl pl, .inl v, .inl (nI n), .inl w] h p := by
  have hm6 := hw.m
  obtain ⟨hw2, hm2⟩ := act_wf (n := n) hw hb (by omega) hf hl
  refine ke_X4_thought ?_
  refine EX.go (Kd_mono _ _) [false, true, false, false, false, false, false, false, false, false] 40 0 ?_
  dsimp only [wpc_s, wsl_t, wsl_f, gD_0, gD_s, ↓denB_n, pI_s, pG_s, pU_n, cb_X4_thought_0, cb_X4_thought_1, cb_X4_thought_2, cb_X4_thought_3, cb_X4_thought_4, cb_X4_thought_5, cb_X4_thought_6, cb_X4_thought_7, cb_X4_thought_8, cb_X4_thought_9, ↓ev_aload_n_0, ↓ev_getf_4_0, ↓ev_getf_4_1, ↓ev_calls_2_0_0, ↓ev_calls_2_1_0, ↓ev_calls_2_2_0, ↓ev_calls_2_3_0, ↓ev_calls_2_4_0, ↓ev_iconst_0, ↓ev_iload_n_1, ↓ev_iload_n_2, ↓ev_iload_n_3, ↓ev_iload_4, ↓ev_callv_6_0_0, ↓ev_callv_6_1_0, ↓ev_callv_6_2_0, ↓ev_callv_6_3_0, ↓ev_callv_6_4_0, ↓ev_callv_3_0_1, ↓ev_callv_3_1_1, ↓ev_callv_3_2_1, ↓ev_callv_3_3_1, ↓ev_callv_3_4_1, ↓ev_callv_3_5_1, ↓ev_istore_6, ↓ev_callv_1_0_0, ↓ev_callv_1_1_0, ↓ev_callv_1_2_0, ↓ev_callv_1_3_0, ↓ev_callv_1_4_0, ↓ev_istore_7, ↓ev_iconst_1, ↓ev_istore_8, ↓ev_iload_8, ↓ev_bipush_64, ↓ev_icmp_ge, ↓ev_iload_7, ↓ev_iadd, ↓ev_iald_o8, ↓ev_iald_o9, ↓ev_iald_o10, ↓ev_iald_o11, ↓ev_iald_o12, ↓ev_iald_o13, ↓ev_iald_o14, ↓ev_iald_o15, ↓ev_iald_o16, ↓ev_getf_4_5, ↓ev_icmp_le, ↓ev_goto, ↓ev_iinc_8_1, ↓ev_iload_5, ↓ev_if_ne, ↓ev_iload_6, ↓ev_iret, Nat.reduceAdd]
  refine r_copies rfl rfl (by simp) (fun f1 hf1 => ?_)
  have s1 : RS (hpt h (.inr 9) f1) S := fun j hj => by rw [hpt_ne (by simp)]; exact hS j hj
  refine r_performs (kd := 0) (a := l) (b := pl) (c := v) s1 hw hb (Or.inl (by omega)) (by omega) (by decide) hf hl (hin_n (g := (S, S, false, fun _ => 0, 0, 0, fun _ => 0)) (by decide) (by decide)) (fun h2 o2 t2 => ?_)
  obtain ⟨k1, g1, rfl⟩ := okL_n hf.1 hm6
  obtain ⟨k2, g2, rfl⟩ := okN_n hf.2.1 (by decide)
  have e9 : ∀ j, j < 400 → h2 (.inr 9) j = S j := fun j hj => by
    rw [o2.1 _ (by simp) (by simp) (by simp) (by simp) (by simp), hpt_self, hf1 j hj]
    exact hS j hj
  have o3 : FE h h2 := (FE.pt (Or.inr rfl)).tr o2.fe
  rw [nI_clamp (show k2 < 2 ^ 31 by omega)] at hp
  generalize act S 0 (nI k1) (nI k2) v n (S, 0, 0) = τ at hp t2 hw2 hm2
  refine r_readOf t2.1 hw2 (by omega) g2 ?_
  refine r_reckons t2.1 hw2 (fun F G hF hG => ?_)
  have s4 : RS (h23 h2 F G) τ.1 := t2.1.a
  suffices H : ∀ (f k : Nat), k + f = 64 → 1 ≤ k → EX (Kd sL (d + 7)) sL md_X4_thought (pI p) 1 [some (.inr (.inr (.inr 7))), some (.inl (nI k1)), some (.inl (nI k2)), some (.inl v), some (.inl (nI n)), some (.inl w), some (.inl (rdf τ.1 6 (nI k1) k2)), some (.inl (nI (fb_ct (leakP τ.1) k))), some (.inl (nI k))] [] (h23 h2 F G) by
    have := H 63 1 rfl (by omega)
    have e9 : leakP τ.1 0 = false := dec0
    rw [show fb_ct (leakP τ.1) 1 = 0 by simp [fb_ct, e9]] at this
    exact this
  intro f
  induction f with
  | zero =>
    intro k hk h1
    have hk64 : k = 64 := by omega
    subst hk64
    refine EX.go (Kd_mono _ _) [false, true, false, false, false, false, false, false, false, false] 40 1 ?_
    dsimp only [wpc_s, wsl_t, wsl_f, gD_0, gD_s, ↓denB_n, pI_s, pG_s, pU_n, cb_X4_thought_0, cb_X4_thought_1, cb_X4_thought_2, cb_X4_thought_3, cb_X4_thought_4, cb_X4_thought_5, cb_X4_thought_6, cb_X4_thought_7, cb_X4_thought_8, cb_X4_thought_9, ↓ev_aload_n_0, ↓ev_getf_4_0, ↓ev_getf_4_1, ↓ev_calls_2_0_0, ↓ev_calls_2_1_0, ↓ev_calls_2_2_0, ↓ev_calls_2_3_0, ↓ev_calls_2_4_0, ↓ev_iconst_0, ↓ev_iload_n_1, ↓ev_iload_n_2, ↓ev_iload_n_3, ↓ev_iload_4, ↓ev_callv_6_0_0, ↓ev_callv_6_1_0, ↓ev_callv_6_2_0, ↓ev_callv_6_3_0, ↓ev_callv_6_4_0, ↓ev_callv_3_0_1, ↓ev_callv_3_1_1, ↓ev_callv_3_2_1, ↓ev_callv_3_3_1, ↓ev_callv_3_4_1, ↓ev_callv_3_5_1, ↓ev_istore_6, ↓ev_callv_1_0_0, ↓ev_callv_1_1_0, ↓ev_callv_1_2_0, ↓ev_callv_1_3_0, ↓ev_callv_1_4_0, ↓ev_istore_7, ↓ev_iconst_1, ↓ev_istore_8, ↓ev_iload_8, ↓ev_bipush_64, ↓ev_icmp_ge, ↓ev_iload_7, ↓ev_iadd, ↓ev_iald_o8, ↓ev_iald_o9, ↓ev_iald_o10, ↓ev_iald_o11, ↓ev_iald_o12, ↓ev_iald_o13, ↓ev_iald_o14, ↓ev_iald_o15, ↓ev_iald_o16, ↓ev_getf_4_5, ↓ev_icmp_le, ↓ev_goto, ↓ev_iinc_8_1, ↓ev_iload_5, ↓ev_if_ne, ↓ev_iload_6, ↓ev_iret, Nat.reduceAdd]
    try simp (disch := omega) only [pk_mul, nI_add, n_lt0, n_le0, n_eq0, n_ge0, n_gt0, n_lt, n_le, n_eq, n_in, n_div, n_rem, n_rem2, n_m1, nI_clamp, bz_0, bz_1, tI_0, tI_bz, n4, n16, eq_self, Nat.reduceLT, Nat.reduceLeDiff, Nat.reduceEqDiff, Nat.reduceAdd, Nat.reduceMul, Nat.reduceDiv, Nat.reduceMod, Nat.le_refl, decide_eq_false_iff_not, Classical.not_not, true_and, and_true, false_and, and_false, not_true_eq_false, not_false_eq_true, forall_const, true_implies, false_implies, implies_true, ne_eq]
    refine r_copies rfl rfl (by simp) (fun f2 hf2 => ?_)
    have fin := hp (hpt (h23 h2 F G) (.inr 8) f2) (o3.tr (FE.p23.tr (FE.pt (Or.inl rfl)))) (fun j hj => by
      rw [hpt_self, hf2 j hj, a_o (by simp) (by simp)]
      exact e9 j hj)
    refine ⟨fun c => ?_, fun c => ?_⟩
    · rw [if_neg c] at fin
      exact fin
    · rw [if_pos c] at fin
      exact fin
  | succ f ih =>
    intro k hk h1
    refine EX.go (Kd_mono _ _) [false, true, false, false, false, false, false, false, false, false] 40 1 ?_
    dsimp only [wpc_s, wsl_t, wsl_f, gD_0, gD_s, ↓denB_n, pI_s, pG_s, pU_n, cb_X4_thought_0, cb_X4_thought_1, cb_X4_thought_2, cb_X4_thought_3, cb_X4_thought_4, cb_X4_thought_5, cb_X4_thought_6, cb_X4_thought_7, cb_X4_thought_8, cb_X4_thought_9, ↓ev_aload_n_0, ↓ev_getf_4_0, ↓ev_getf_4_1, ↓ev_calls_2_0_0, ↓ev_calls_2_1_0, ↓ev_calls_2_2_0, ↓ev_calls_2_3_0, ↓ev_calls_2_4_0, ↓ev_iconst_0, ↓ev_iload_n_1, ↓ev_iload_n_2, ↓ev_iload_n_3, ↓ev_iload_4, ↓ev_callv_6_0_0, ↓ev_callv_6_1_0, ↓ev_callv_6_2_0, ↓ev_callv_6_3_0, ↓ev_callv_6_4_0, ↓ev_callv_3_0_1, ↓ev_callv_3_1_1, ↓ev_callv_3_2_1, ↓ev_callv_3_3_1, ↓ev_callv_3_4_1, ↓ev_callv_3_5_1, ↓ev_istore_6, ↓ev_callv_1_0_0, ↓ev_callv_1_1_0, ↓ev_callv_1_2_0, ↓ev_callv_1_3_0, ↓ev_callv_1_4_0, ↓ev_istore_7, ↓ev_iconst_1, ↓ev_istore_8, ↓ev_iload_8, ↓ev_bipush_64, ↓ev_icmp_ge, ↓ev_iload_7, ↓ev_iadd, ↓ev_iald_o8, ↓ev_iald_o9, ↓ev_iald_o10, ↓ev_iald_o11, ↓ev_iald_o12, ↓ev_iald_o13, ↓ev_iald_o14, ↓ev_iald_o15, ↓ev_iald_o16, ↓ev_getf_4_5, ↓ev_icmp_le, ↓ev_goto, ↓ev_iinc_8_1, ↓ev_iload_5, ↓ev_if_ne, ↓ev_iload_6, ↓ev_iret, Nat.reduceAdd]
    have e0 : h23 h2 F G (.inr 8) k = τ.1 k := s4 k (by omega)
    have e1 := hF k h1 (by omega)
    try simp (disch := omega) only [pk_mul, nI_add, n_lt0, n_le0, n_eq0, n_ge0, n_gt0, n_lt, n_le, n_eq, n_in, n_div, n_rem, n_rem2, n_m1, nI_clamp, bz_0, bz_1, tI_0, tI_bz, n4, n16, eq_self, Nat.reduceLT, Nat.reduceLeDiff, Nat.reduceEqDiff, Nat.reduceAdd, Nat.reduceMul, Nat.reduceDiv, Nat.reduceMod, Nat.le_refl, decide_eq_false_iff_not, Classical.not_not, true_and, and_true, false_and, and_false, not_true_eq_false, not_false_eq_true, forall_const, true_implies, false_implies, implies_true, ne_eq, Nat.zero_add, e0, a_12, e1]
    have ih2 := ih (k + 1) (by omega) (by omega)
    rw [fb_ct_succ] at ih2
    refine ⟨fun z => absurd z (by omega), fun _ => ⟨by omega, by omega, fun c => ?_, fun c => ?_⟩⟩
    · rw [if_neg (by unfold leakP; rw [dec_t]; exact fun z => Int32.not_lt.mpr c z.2)] at ih2
      exact ih2
    · rw [if_pos (by unfold leakP; exact dec_t.mpr ⟨h1, Int32.not_le.mp c⟩)] at ih2
      exact ih2
theorem thk_bad {x : Int32} (z : ¬ fit g.1 0 l pl v) : aThk g l pl v x = rfA g 0 := by
  unfold aThk
  rw [dec_f.mpr z, if_neg (by decide)]
theorem thk_st {x : Int32} (z : fit g.1 0 l pl v) (y : lk g.1 = true) : aThk g l pl v x = rfA g 2 := by
  unfold aThk
  rw [dec_t.mpr z, if_pos rfl, if_pos y]
theorem thk_fu {x : Int32} (z : fit g.1 0 l pl v) (y : lk g.1 = false) (w : (tau g.1 0 l pl v).2.2 = 2) : aThk g l pl v x = rfA g 1 := by
  unfold aThk
  rw [dec_t.mpr z, if_pos rfl, if_neg (by rw [y]; decide), if_pos w]
theorem thk_ok {x : Int32} (z : fit g.1 0 l pl v) (y : lk g.1 = false) (w : ¬ (tau g.1 0 l pl v).2.2 = 2) : aThk g l pl v x = (x, g) := by
  unfold aThk
  rw [dec_t.mpr z, if_pos rfl, if_neg (by rw [y]; decide), if_neg w]
theorem r_torn {n : Int32} (hG : RG h g) (hJ : JG B g) (hB : B < 2 ^ 29) (hp : ∀ h', FR h h' → RG h' (aTorn g l pl v n).2 → p (aTorn g l pl v n).1 h') : mI (Kd sL (d + 12)) 173 [.inr (.inr (.inr 7)), .inl l, .inl pl, .inl v, .inl n] h p := by
  refine ke_X4_torn ?_
  refine EX.go (Kd_mono _ _) [false, false, false, false, true, false, false, false] 40 0 ?_
  dsimp only [wpc_s, wsl_t, wsl_f, gD_0, gD_s, ↓denB_n, pI_s, pG_s, pU_n, cb_X4_torn_0, cb_X4_torn_1, cb_X4_torn_2, cb_X4_torn_3, cb_X4_torn_4, cb_X4_torn_5, cb_X4_torn_6, cb_X4_torn_7, ↓ev_aload_n_0, ↓ev_iload_n_1, ↓ev_iload_n_2, ↓ev_iload_n_3, ↓ev_calls_1_0_1, ↓ev_calls_1_1_1, ↓ev_calls_1_2_1, ↓ev_calls_1_3_1, ↓ev_calls_1_4_1, ↓ev_if_eq, ↓ev_iload_4, ↓ev_iconst_0, ↓ev_bipush_99, ↓ev_calls_3_0_1, ↓ev_calls_3_1_1, ↓ev_calls_3_2_1, ↓ev_calls_3_3_1, ↓ev_calls_3_4_1, ↓ev_iconst_1, ↓ev_goto, ↓ev_callv_4_0_1, ↓ev_callv_4_1_1, ↓ev_callv_4_2_1, ↓ev_callv_4_3_1, ↓ev_callv_4_4_1, ↓ev_istore_5, ↓ev_iload_5, ↓ev_callv_2_0_1, ↓ev_callv_2_1_1, ↓ev_callv_2_2_1, ↓ev_callv_2_3_1, ↓ev_callv_2_4_1, ↓ev_callv_6_0_1, ↓ev_callv_6_1_1, ↓ev_callv_6_2_1, ↓ev_callv_6_3_1, ↓ev_callv_6_4_1, ↓ev_iret, Nat.reduceAdd]
  have J4 : ∀ b : Bool, (b = true ↔ (okN v 256 ∧ okN n 100)) → EX (Kd sL (d + 11)) sL md_X4_torn (pI p) 4 [some (.inr (.inr (.inr 7))), some (.inl l), some (.inl pl), some (.inl v), some (.inl n), none] [.inl (tI b), .inl pl, .inl l, .inr (.inr (.inr 7))] h := by
    intro b hb
    refine EX.go (Kd_mono _ _) [false, false, false, false, false, false, false, false] 40 4 ?_
    dsimp only [wpc_s, wsl_t, wsl_f, gD_0, gD_s, ↓denB_n, pI_s, pG_s, pU_n, cb_X4_torn_0, cb_X4_torn_1, cb_X4_torn_2, cb_X4_torn_3, cb_X4_torn_4, cb_X4_torn_5, cb_X4_torn_6, cb_X4_torn_7, ↓ev_aload_n_0, ↓ev_iload_n_1, ↓ev_iload_n_2, ↓ev_iload_n_3, ↓ev_calls_1_0_1, ↓ev_calls_1_1_1, ↓ev_calls_1_2_1, ↓ev_calls_1_3_1, ↓ev_calls_1_4_1, ↓ev_if_eq, ↓ev_iload_4, ↓ev_iconst_0, ↓ev_bipush_99, ↓ev_calls_3_0_1, ↓ev_calls_3_1_1, ↓ev_calls_3_2_1, ↓ev_calls_3_3_1, ↓ev_calls_3_4_1, ↓ev_iconst_1, ↓ev_goto, ↓ev_callv_4_0_1, ↓ev_callv_4_1_1, ↓ev_callv_4_2_1, ↓ev_callv_4_3_1, ↓ev_callv_4_4_1, ↓ev_istore_5, ↓ev_iload_5, ↓ev_callv_2_0_1, ↓ev_callv_2_1_1, ↓ev_callv_2_2_1, ↓ev_callv_2_3_1, ↓ev_callv_2_4_1, ↓ev_callv_6_0_1, ↓ev_callv_6_1_1, ↓ev_callv_6_2_1, ↓ev_callv_6_3_1, ↓ev_callv_6_4_1, ↓ev_iret, Nat.reduceAdd]
    unfold aTorn at hp
    refine r_wrong (b := b) hG.1 hJ.1 hJ.2.1 hB (fun z => ?_) (fun z1 z2 z0 z3 h1 o1 s1 => ?_) (fun z1 z2 z0 z3 z4 h1 o1 s1 => ?_) (fun z1 z2 z0 z3 z4 h1 o1 s1 d1 => ?_)
    · refine ⟨fun c => absurd c (by decide), fun _ => ?_⟩
      have : ∀ x, (if dec (okN n 100) then aThk g l pl v x else rfA g 0) = rfA g 0 := fun x => by
        by_cases y : okN n 100
        · rw [if_pos (dec_t.mpr y), thk_bad (fun w => z ⟨w.1, w.2.1, hb.mpr ⟨w.2.2, y⟩⟩)]
        · rw [dec_f.mpr y, if_neg (by decide)]
      rw [this] at hp
      exact r_rf (j := 0) hG (by decide) hp
    · obtain ⟨y1, y2⟩ := hb.mp z0
      refine ⟨fun c => absurd c (by decide), fun _ => ?_⟩
      rw [if_pos (dec_t.mpr y2), thk_st ⟨z1, z2, y1⟩ z3] at hp
      exact r_rf (j := 2) (hG.fe0 o1 s1) (by decide) (fun h2 o2 g2 => hp h2 (o1.fr.tr o2) g2)
    · obtain ⟨y1, y2⟩ := hb.mp z0
      refine ⟨fun c => absurd c (by decide), fun _ => ?_⟩
      rw [if_pos (dec_t.mpr y2), thk_fu ⟨z1, z2, y1⟩ z3 (by rw [tau_v (w := 0)]; exact z4)] at hp
      exact r_rf (j := 1) (hG.fe0 o1 s1) (by decide) (fun h2 o2 g2 => hp h2 (o1.fr.tr o2) g2)
    · obtain ⟨y1, y2⟩ := hb.mp z0
      refine ⟨fun _ => ?_, fun c => absurd rfl c⟩
      rw [if_pos (dec_t.mpr y2), thk_ok ⟨z1, z2, y1⟩ z3 (by rw [tau_v (w := 0)]; exact z4)] at hp
      obtain ⟨k, hk, rfl⟩ := okN_n y2 (by decide)
      rw [nI_clamp (show k < 2 ^ 31 by omega)] at hp
      refine r_thought s1 hJ.1 hJ.2.1 hB (by omega) ⟨z1, z2, y1⟩ z3 (fun h2 o2 s2 => ?_)
      exact hp h2 (o1.tr o2).fr (hG.fe0 (o1.tr o2) s2)
  refine r_isByte ?_
  try simp (disch := omega) only [pk_mul, nI_add, n_lt0, n_le0, n_eq0, n_ge0, n_gt0, n_lt, n_le, n_eq, n_in, n_div, n_rem, n_rem2, n_m1, nI_clamp, bz_0, bz_1, tI_0, tI_bz, n4, n16, eq_self, Nat.reduceLT, Nat.reduceLeDiff, Nat.reduceEqDiff, Nat.reduceAdd, Nat.reduceMul, Nat.reduceDiv, Nat.reduceMod, Nat.le_refl, decide_eq_false_iff_not, Classical.not_not, true_and, and_true, false_and, and_false, not_true_eq_false, not_false_eq_true, forall_const, true_implies, false_implies, implies_true, ne_eq]
  refine ⟨fun c1 => J4 false ⟨fun z => absurd z (by decide), fun z => absurd z.1 (dec_f.mp c1)⟩, fun c1 => ?_⟩
  refine r_in ?_
  rw [dec_iff (okN_in (m := 99) (n := 100) rfl (by decide))]
  try simp (disch := omega) only [pk_mul, nI_add, n_lt0, n_le0, n_eq0, n_ge0, n_gt0, n_lt, n_le, n_eq, n_in, n_div, n_rem, n_rem2, n_m1, nI_clamp, bz_0, bz_1, tI_0, tI_bz, n4, n16, eq_self, Nat.reduceLT, Nat.reduceLeDiff, Nat.reduceEqDiff, Nat.reduceAdd, Nat.reduceMul, Nat.reduceDiv, Nat.reduceMod, Nat.le_refl, decide_eq_false_iff_not, Classical.not_not, true_and, and_true, false_and, and_false, not_true_eq_false, not_false_eq_true, forall_const, true_implies, false_implies, implies_true, ne_eq]
  refine ⟨fun c2 => J4 false ⟨fun z => absurd z (by decide), fun z => absurd z.2 (dec_f.mp c2)⟩, fun c2 => J4 true ⟨fun _ => ⟨Classical.not_not.mp (fun z => c1 (dec_f.mpr z)), Classical.not_not.mp (fun z => c2 (dec_f.mpr z))⟩, fun _ => rfl⟩⟩
theorem r_leaks {n : Int32} (hG : RG h g) (hJ : JG B g) (hB : B < 2 ^ 29) (hp : ∀ h', FR h h' → RG h' (aLeaks g l pl n).2 → p (aLeaks g l pl n).1 h') : mI (Kd sL (d + 12)) 174 [.inr (.inr (.inr 7)), .inl l, .inl pl, .inl n] h p := by
  refine ke_X4_leaks ?_
  refine EX.go (Kd_mono _ _) [false, false, false, false] 40 0 ?_
  dsimp only [wpc_s, wsl_t, wsl_f, gD_0, gD_s, ↓denB_n, pI_s, pG_s, pU_n, cb_X4_leaks_0, cb_X4_leaks_1, cb_X4_leaks_2, cb_X4_leaks_3, ↓ev_aload_n_0, ↓ev_iload_n_1, ↓ev_iload_n_2, ↓ev_iload_n_3, ↓ev_iconst_0, ↓ev_bipush_99, ↓ev_calls_3_0_1, ↓ev_calls_3_1_1, ↓ev_calls_3_2_1, ↓ev_calls_3_3_1, ↓ev_calls_3_4_1, ↓ev_callv_4_0_1, ↓ev_callv_4_1_1, ↓ev_callv_4_2_1, ↓ev_callv_4_3_1, ↓ev_callv_4_4_1, ↓ev_istore_4, ↓ev_iload_4, ↓ev_if_eq, ↓ev_callv_2_0_1, ↓ev_callv_2_1_1, ↓ev_callv_2_2_1, ↓ev_callv_2_3_1, ↓ev_callv_2_4_1, ↓ev_goto, ↓ev_iconst_1, ↓ev_callv_6_0_1, ↓ev_callv_6_1_1, ↓ev_callv_6_2_1, ↓ev_callv_6_3_1, ↓ev_callv_6_4_1, ↓ev_iret, Nat.reduceAdd]
  unfold aLeaks at hp
  refine r_in ?_
  rw [dec_iff (okN_in (m := 99) (n := 100) rfl (by decide))]
  refine r_wrong (b := dec (okN n 100)) hG.1 hJ.1 hJ.2.1 hB (fun z => ?_) (fun z1 z2 z0 z3 h1 o1 s1 => ?_) (fun z1 z2 z0 z3 z4 h1 o1 s1 => ?_) (fun z1 z2 z0 z3 z4 h1 o1 s1 d1 => ?_)
  · refine ⟨fun c => absurd c (by decide), fun _ => ?_⟩
    have : ∀ x, (if dec (okN n 100) then aThk g l pl 0 x else rfA g 0) = rfA g 0 := fun x => by
      by_cases y : okN n 100
      · rw [if_pos (dec_t.mpr y), thk_bad (fun w => z ⟨w.1, w.2.1, dec_t.mpr y⟩)]
      · rw [dec_f.mpr y, if_neg (by decide)]
    rw [this] at hp
    exact r_rf (j := 0) hG (by decide) hp
  · refine ⟨fun c => absurd c (by decide), fun _ => ?_⟩
    rw [if_pos z0, thk_st ⟨z1, z2, ok0⟩ z3] at hp
    exact r_rf (j := 2) (hG.fe0 o1 s1) (by decide) (fun h2 o2 g2 => hp h2 (o1.fr.tr o2) g2)
  · refine ⟨fun c => absurd c (by decide), fun _ => ?_⟩
    rw [if_pos z0, thk_fu ⟨z1, z2, ok0⟩ z3 z4] at hp
    exact r_rf (j := 1) (hG.fe0 o1 s1) (by decide) (fun h2 o2 g2 => hp h2 (o1.fr.tr o2) g2)
  · refine ⟨fun _ => ?_, fun c => absurd rfl c⟩
    rw [if_pos z0, thk_ok ⟨z1, z2, ok0⟩ z3 z4] at hp
    obtain ⟨k, hk, rfl⟩ := okN_n (dec_t.mp z0) (by decide)
    rw [nI_clamp (show k < 2 ^ 31 by omega)] at hp
    refine r_thought s1 hJ.1 hJ.2.1 hB (by omega) ⟨z1, z2, ok0⟩ z3 (fun h2 o2 s2 => ?_)
    exact hp h2 (o1.tr o2).fr (hG.fe0 (o1.tr o2) s2)
/-- a write that is done reads as v -/
theorem tau_rd (hw : WF S) (hb : BD S B) (hB : B < 2 ^ 29) (hf : fit S 0 l pl v) (hl : lk S = false) (hn : ¬ (tau S 0 l pl v).2.2 = 2) {n : Nat} (hn2 : (tau S 0 l pl v).2.1 ≤ n) : rdf (act S 0 l pl v n (S, 0, 0)).1 6 l pl.toNatClampNeg = v := by
  have hm6 := hw.m
  obtain ⟨k1, g1, rfl⟩ := okL_n hf.1 hm6
  obtain ⟨k2, g2, rfl⟩ := okN_n hf.2.1 (by decide)
  have ht : tau S 0 (nI k1) (nI k2) v = wpl 1000000 k1 k2 v (S, 0, 0) := by
    show wpl 1000000 (nI k1).toNatClampNeg (nI k2).toNatClampNeg v (S, 0, 0) = _
    rw [nI_clamp (by omega), nI_clamp (by omega)]
  have ha : act S 0 (nI k1) (nI k2) v n (S, 0, 0) = wpl n k1 k2 v (S, 0, 0) := by
    show wpl n (nI k1).toNatClampNeg (nI k2).toNatClampNeg v (S, 0, 0) = _
    rw [nI_clamp (by omega), nI_clamp (by omega)]
  rw [ht] at hn hn2
  rw [ha, nI_clamp (by omega)]
  have hq := wpl_h (L := 1000000) (B := B) (M := mn S) (σ := ((S, 0, 0) : Sg)) (v := v) (by omega) ⟨⟨hw, hb, rfl⟩, fun _ => lk_C0 hl⟩ g1 g2
  have hc := n_wpl (L := 1000000) (σ := ((S, 0, 0) : Sg)) (l := k1) (p := k2) (v := v)
  have hg := gd_wpl k1 k2 v 1000000 (S, 0, 0)
  have h1 : ¬ (wpl 1000000 k1 k2 v (S, 0, 0)).2.2 = 1 := fun z => by
    rcases hg.2.2.1 z with y | y
    · exact absurd y (show ¬ (0 : Nat) = 1 by decide)
    · have : (wpl 1000000 k1 k2 v (S, 0, 0)).2.1 ≤ 0 + 13 := hc
      dsimp only at y
      omega
  have hk := hq.1
  have h2 : (wpl 1000000 k1 k2 v (S, 0, 0)).2.2 = 0 := by
    have : (wpl 1000000 k1 k2 v (S, 0, 0)).2.2 ≤ 2 := wpl_k (show 0 ≤ 2 by decide)
    omega
  have e : wpl n k1 k2 v (S, 0, 0) = wpl 1000000 k1 k2 v (S, 0, 0) := hg.2.2.2.1 n h1 hn2
  rw [e]
  have hrv := (hq.2 h2).2
  rw [rdf_s (f := 5) (by omega), if_neg hrv.1]
  exact hrv.2
end RTHK
