section TA2
variable {sL d N a : Nat} {tp : Nat → Nat} {h : mH} {p : Int32 → mH → Prop}
theorem tkN_le (N : Nat) (tp : Nat → Nat) (a : Nat) : a ≤ (tkN N tp a).2.1 ∧ (tkN N tp a).2.1 ≤ a + 4 := by
  unfold tkN
  split
  · have := dgF_le N tp 3 (a + 1) 0
    exact ⟨by show a ≤ (dgF N tp 3 (a + 1) 0).1; omega, by show (dgF N tp 3 (a + 1) 0).1 ≤ a + 4; omega⟩
  · exact ⟨Nat.le_refl _, Nat.le_add_right _ _⟩
theorem ltr_ok : ∀ b, b < 256 → xix (nI b) = (if ltr b < 7 then nI (ltr b) else -1) := by decide +kernel
theorem c_chr : ∀ b, b < 256 → ((nI b).toUInt32 % 65536).toInt32 = nI b := by decide +kernel
theorem rdN_le (N : Nat) (tp : Nat → Nat) : ∀ c i a ns, a ≤ (rdN N tp c i a ns).2.1 ∧ (rdN N tp c i a ns).2.1 ≤ a + 4 * c
  | 0, i, a, ns => ⟨Nat.le_refl _, Nat.le_refl _⟩
  | c + 1, i, a, ns => by
    have h1 := tkN_le N tp a
    unfold rdN
    split
    · have := rdN_le N tp c (i + 1) (tkN N tp a).2.1 (nset ns i (tkN N tp a).2.2)
      omega
    · exact ⟨h1.1, by show (tkN N tp a).2.1 ≤ _; omega⟩
theorem nbo_le (k : Nat) : nbo k ≤ 3 := by
  unfold nbo
  split
  · omega
  · split
    · omega
    · split <;> omega
theorem rdD_le (N : Nat) (tp : Nat → Nat) (a : Nat) : a ≤ (rdD N tp a).2.1 ∧ (rdD N tp a).2.1 ≤ a + 13 ∧ ((rdD N tp a).1 = true → a + 1 ≤ (rdD N tp a).2.1 ∧ a < N ∧ (rdD N tp a).2.2.1 < 7) := by
  unfold rdD
  split
  · rename_i e
    have := rdN_le N tp (nbo (ltr (tp a))) 0 (a + 1) (fun _ => 0)
    have h3 := nbo_le (ltr (tp a))
    refine ⟨?_, ?_, fun _ => ⟨this.1, e.1, e.2⟩⟩
    · show a ≤ (rdN N tp (nbo (ltr (tp a))) 0 (a + 1) (fun _ => 0)).2.1
      omega
    · show (rdN N tp (nbo (ltr (tp a))) 0 (a + 1) (fun _ => 0)).2.1 ≤ a + 13
      omega
  · exact ⟨Nat.le_refl _, Nat.le_add_right _ _, fun z => absurd (show false = true from z) (by decide)⟩
/-- the constant array of how many numbers -/
def NB (h : mH) : Prop := ∀ k, k < 7 → h (.inr 20) k = nI (nbo k)
theorem k_fill6 {p : mH → Prop} (hp : ∀ h', (∀ r, r ≠ .inr 6 → h' r = h r) → (∀ j, j < 3 → h' (.inr 6) j = nI 0) → p h') : mU (Kd sL (d + 1)) 193 [.inr (.inr (.inr 6)), .inl (nI 0)] h p :=
  k_fill2 (n := 3) rfl (by decide) (fun f hf => hp _ (fun r hr => hpt_ne hr) (fun j hj => by rw [hpt_self]; exact hf j hj))
theorem k_takeDeed (hT : TP h N tp a) (ha : a ≤ 500) (hB : NB h) (hp : ∀ h', OP h h' → TP h' N tp (rdD N tp a).2.1 → ((rdD N tp a).1 = true → h' (.inr 4) 4 = nI (rdD N tp a).2.2.1 ∧ ∀ j, j < 3 → h' (.inr 6) j = nI ((rdD N tp a).2.2.2 j)) → p (tI (rdD N tp a).1) h') : mI (Kd sL (d + 7)) 32 [.inr (.inr (.inr 4))] h p := by
  refine ke_X1_takeDeed ?_
  refine EX.go (Kd_mono _ _) [false, false, false, true, false, false, false, true, false, false, false, false, false] 40 0 ?_
  dsimp only [wpc_s, wsl_t, wsl_f, gD_0, gD_s, ↓denB_n, pI_s, pG_s, pU_n, cb_X1_takeDeed_0, cb_X1_takeDeed_1, cb_X1_takeDeed_2, cb_X1_takeDeed_3, cb_X1_takeDeed_4, cb_X1_takeDeed_5, cb_X1_takeDeed_6, cb_X1_takeDeed_7, cb_X1_takeDeed_8, cb_X1_takeDeed_9, cb_X1_takeDeed_10, cb_X1_takeDeed_11, cb_X1_takeDeed_12, ↓ev_aload_n_0, ↓ev_callv_1_0_1, ↓ev_callv_1_1_1, ↓ev_callv_1_2_1, ↓ev_callv_1_3_1, ↓ev_callv_1_4_1, ↓ev_istore_n_1, ↓ev_iload_n_1, ↓ev_if_ge, ↓ev_iconst_m1, ↓ev_goto, ↓ev_ldcs, ↓ev_i2c, ↓ev_callv_2_0_1, ↓ev_callv_2_1_1, ↓ev_callv_2_2_1, ↓ev_callv_2_3_1, ↓ev_callv_2_4_1, ↓ev_putf_1_4, ↓ev_getf_1_4, ↓ev_if_lt, ↓ev_getstatic, ↓ev_alen_o5, ↓ev_alen_o6, ↓ev_alen_o20, ↓ev_icmp_lt, ↓ev_iconst_0, ↓ev_zret, ↓ev_dup, ↓ev_dupr, ↓ev_getf_1_3, ↓ev_iconst_1, ↓ev_iadd, ↓ev_putf_1_3, ↓ev_getf_1_1, ↓ev_calls_2_0_0, ↓ev_calls_2_1_0, ↓ev_calls_2_2_0, ↓ev_calls_2_3_0, ↓ev_calls_2_4_0, ↓ev_istore_n_2, ↓ev_iload_n_2, ↓ev_iald_o5, ↓ev_iald_o6, ↓ev_iald_o20, ↓ev_icmp_ge, ↓ev_iconst_3, ↓ev_if_ne, ↓ev_iinc_2_1, Nat.reduceAdd]
  refine k_ahead hT ?_
  unfold rdD at hp
  have hN := hT.2.2.1
  have J3n : ∀ y h', y < 0 → p (nI 0) (hup h' (.inr 4) 4 y) → EX (Kd sL (d + 6)) sL md_X1_takeDeed (pI p) 3 [some (.inr (.inr (.inr 4))), some (.inl (if a < N then nI (tp a) else -1)), none] [.inl y, .inr (.inr (.inr 4))] h' := by
    intro y h' hy hpy
    refine EX.go (Kd_mono _ _) [false, false, false, false, false, false, true, true, false, false, false, false, false] 40 3 ?_
    dsimp only [wpc_s, wsl_t, wsl_f, gD_0, gD_s, ↓denB_n, pI_s, pG_s, pU_n, cb_X1_takeDeed_0, cb_X1_takeDeed_1, cb_X1_takeDeed_2, cb_X1_takeDeed_3, cb_X1_takeDeed_4, cb_X1_takeDeed_5, cb_X1_takeDeed_6, cb_X1_takeDeed_7, cb_X1_takeDeed_8, cb_X1_takeDeed_9, cb_X1_takeDeed_10, cb_X1_takeDeed_11, cb_X1_takeDeed_12, ↓ev_aload_n_0, ↓ev_callv_1_0_1, ↓ev_callv_1_1_1, ↓ev_callv_1_2_1, ↓ev_callv_1_3_1, ↓ev_callv_1_4_1, ↓ev_istore_n_1, ↓ev_iload_n_1, ↓ev_if_ge, ↓ev_iconst_m1, ↓ev_goto, ↓ev_ldcs, ↓ev_i2c, ↓ev_callv_2_0_1, ↓ev_callv_2_1_1, ↓ev_callv_2_2_1, ↓ev_callv_2_3_1, ↓ev_callv_2_4_1, ↓ev_putf_1_4, ↓ev_getf_1_4, ↓ev_if_lt, ↓ev_getstatic, ↓ev_alen_o5, ↓ev_alen_o6, ↓ev_alen_o20, ↓ev_icmp_lt, ↓ev_iconst_0, ↓ev_zret, ↓ev_dup, ↓ev_dupr, ↓ev_getf_1_3, ↓ev_iconst_1, ↓ev_iadd, ↓ev_putf_1_3, ↓ev_getf_1_1, ↓ev_calls_2_0_0, ↓ev_calls_2_1_0, ↓ev_calls_2_2_0, ↓ev_calls_2_3_0, ↓ev_calls_2_4_0, ↓ev_istore_n_2, ↓ev_iload_n_2, ↓ev_iald_o5, ↓ev_iald_o6, ↓ev_iald_o20, ↓ev_icmp_ge, ↓ev_iconst_3, ↓ev_if_ne, ↓ev_iinc_2_1, Nat.reduceAdd]
    rw [hup_same]
    try simp (disch := omega) only [pk_mul, nI_add, n_lt0, n_le0, n_eq0, n_ge0, n_gt0, n_lt, n_le, n_eq, n_in, n_div, n_rem, n_rem2, n_m1, nI_clamp, bz_0, bz_1, tI_0, tI_bz, n4, n16, eq_self, Nat.reduceLT, Nat.reduceLeDiff, Nat.reduceEqDiff, Nat.reduceAdd, Nat.reduceMul, Nat.reduceDiv, Nat.reduceMod, Nat.le_refl, decide_eq_false_iff_not, Classical.not_not, true_and, and_true, false_and, and_false, not_true_eq_false, not_false_eq_true, forall_const, true_implies, false_implies, implies_true, ne_eq]
    exact ⟨fun _ => hpy, fun c => absurd hy c⟩
  by_cases q : a < N
  · have hb := (hT.2.2.2.2 a q).2
    rw [if_pos q]
    rw [if_pos q] at J3n
    try simp (disch := omega) only [pk_mul, nI_add, n_lt0, n_le0, n_eq0, n_ge0, n_gt0, n_lt, n_le, n_eq, n_in, n_div, n_rem, n_rem2, n_m1, nI_clamp, bz_0, bz_1, tI_0, tI_bz, n4, n16, eq_self, Nat.reduceLT, Nat.reduceLeDiff, Nat.reduceEqDiff, Nat.reduceAdd, Nat.reduceMul, Nat.reduceDiv, Nat.reduceMod, Nat.le_refl, decide_eq_false_iff_not, Classical.not_not, true_and, and_true, false_and, and_false, not_true_eq_false, not_false_eq_true, forall_const, true_implies, false_implies, implies_true, ne_eq]
    rw [c_chr _ hb]
    refine Or.inl ⟨rfl, by omega, nI (tp a), rfl, ?_⟩
    show EX (Kd sL (d + 6)) sL md_X1_takeDeed (pI p) 3 [some (.inr (.inr (.inr 4))), some (.inl (nI (tp a))), none] [.inl (xix (nI (tp a))), .inr (.inr (.inr 4))] h
    rw [ltr_ok _ hb]
    by_cases q2 : ltr (tp a) < 7
    · rw [if_pos ⟨q, q2⟩] at hp
      rw [if_pos q2]
      refine EX.go (Kd_mono _ _) [false, false, false, false, false, false, false, true, false, false, false, false, false] 40 3 ?_
      dsimp only [wpc_s, wsl_t, wsl_f, gD_0, gD_s, ↓denB_n, pI_s, pG_s, pU_n, cb_X1_takeDeed_0, cb_X1_takeDeed_1, cb_X1_takeDeed_2, cb_X1_takeDeed_3, cb_X1_takeDeed_4, cb_X1_takeDeed_5, cb_X1_takeDeed_6, cb_X1_takeDeed_7, cb_X1_takeDeed_8, cb_X1_takeDeed_9, cb_X1_takeDeed_10, cb_X1_takeDeed_11, cb_X1_takeDeed_12, ↓ev_aload_n_0, ↓ev_callv_1_0_1, ↓ev_callv_1_1_1, ↓ev_callv_1_2_1, ↓ev_callv_1_3_1, ↓ev_callv_1_4_1, ↓ev_istore_n_1, ↓ev_iload_n_1, ↓ev_if_ge, ↓ev_iconst_m1, ↓ev_goto, ↓ev_ldcs, ↓ev_i2c, ↓ev_callv_2_0_1, ↓ev_callv_2_1_1, ↓ev_callv_2_2_1, ↓ev_callv_2_3_1, ↓ev_callv_2_4_1, ↓ev_putf_1_4, ↓ev_getf_1_4, ↓ev_if_lt, ↓ev_getstatic, ↓ev_alen_o5, ↓ev_alen_o6, ↓ev_alen_o20, ↓ev_icmp_lt, ↓ev_iconst_0, ↓ev_zret, ↓ev_dup, ↓ev_dupr, ↓ev_getf_1_3, ↓ev_iconst_1, ↓ev_iadd, ↓ev_putf_1_3, ↓ev_getf_1_1, ↓ev_calls_2_0_0, ↓ev_calls_2_1_0, ↓ev_calls_2_2_0, ↓ev_calls_2_3_0, ↓ev_calls_2_4_0, ↓ev_istore_n_2, ↓ev_iload_n_2, ↓ev_iald_o5, ↓ev_iald_o6, ↓ev_iald_o20, ↓ev_icmp_ge, ↓ev_iconst_3, ↓ev_if_ne, ↓ev_iinc_2_1, Nat.reduceAdd]
      rw [hup_same]
      try simp (disch := omega) only [pk_mul, nI_add, n_lt0, n_le0, n_eq0, n_ge0, n_gt0, n_lt, n_le, n_eq, n_in, n_div, n_rem, n_rem2, n_m1, nI_clamp, bz_0, bz_1, tI_0, tI_bz, n4, n16, eq_self, Nat.reduceLT, Nat.reduceLeDiff, Nat.reduceEqDiff, Nat.reduceAdd, Nat.reduceMul, Nat.reduceDiv, Nat.reduceMod, Nat.le_refl, decide_eq_false_iff_not, Classical.not_not, true_and, and_true, false_and, and_false, not_true_eq_false, not_false_eq_true, forall_const, true_implies, false_implies, implies_true, ne_eq]
      refine ⟨fun _ => ?_, fun c => absurd q2 c⟩
      have e3 : hup h (.inr 4) 4 (nI (ltr (tp a))) (.inr 4) 3 = nI a := by rw [hup_idx (by decide)]; exact hT.2.1
      rw [e3]
      try simp (disch := omega) only [pk_mul, nI_add, n_lt0, n_le0, n_eq0, n_ge0, n_gt0, n_lt, n_le, n_eq, n_in, n_div, n_rem, n_rem2, n_m1, nI_clamp, bz_0, bz_1, tI_0, tI_bz, n4, n16, eq_self, Nat.reduceLT, Nat.reduceLeDiff, Nat.reduceEqDiff, Nat.reduceAdd, Nat.reduceMul, Nat.reduceDiv, Nat.reduceMod, Nat.le_refl, decide_eq_false_iff_not, Classical.not_not, true_and, and_true, false_and, and_false, not_true_eq_false, not_false_eq_true, forall_const, true_implies, false_implies, implies_true, ne_eq]
      refine k_fill6 (fun h1 v1 z1 => ?_)
      have o1 : OP h h1 := by
        have o : OP h (hup (hup h (.inr 4) 4 (nI (ltr (tp a)))) (.inr 4) 3 (nI (a + 1))) := OP.u4.tr OP.u3
        exact o.tr ⟨fun r _ b => v1 r b, fun j _ _ => by rw [v1 _ (by simp)]⟩
      have f3 : h1 (.inr 4) 3 = nI (a + 1) := by rw [v1 _ (by simp), hup_same]
      have f4 : h1 (.inr 4) 4 = nI (ltr (tp a)) := by rw [v1 _ (by simp), hup_idx (by decide), hup_same]
      generalize hR : rdN N tp (nbo (ltr (tp a))) 0 (a + 1) (fun _ => 0) = R at hp
      have hnb := nbo_le (ltr (tp a))
      generalize hk : ltr (tp a) = kd at hp f4 q2 hnb hR
      suffices H : ∀ (c i a' : Nat) (ns : Nat → Nat) (h' : mH), i + c = nbo kd → a' ≤ a + 1 + 4 * i → rdN N tp c i a' ns = R → OP h h' → TP h' N tp a' → h' (.inr 4) 4 = nI kd → (∀ j, j < 3 → h' (.inr 6) j = nI (ns j)) → (∀ j, i ≤ j → ns j = 0) → EX (Kd sL (d + 6)) sL md_X1_takeDeed (pI p) 7 [some (.inr (.inr (.inr 4))), some (.inl (nI (tp a))), some (.inl (nI i))] [] h' from H (nbo kd) 0 (a + 1) (fun _ => 0) h1 (by omega) (by omega) hR o1 (hT.op o1 f3 (by omega)) f4 z1 (fun _ _ => rfl)
      intro c
      induction c with
      | zero =>
        intro i a' ns h' hi ha' hr ho hT' h44 h6 hz
        refine EX.go (Kd_mono _ _) [false, false, false, false, false, false, false, true, false, false, false, false, false] 40 7 ?_
        dsimp only [wpc_s, wsl_t, wsl_f, gD_0, gD_s, ↓denB_n, pI_s, pG_s, pU_n, cb_X1_takeDeed_0, cb_X1_takeDeed_1, cb_X1_takeDeed_2, cb_X1_takeDeed_3, cb_X1_takeDeed_4, cb_X1_takeDeed_5, cb_X1_takeDeed_6, cb_X1_takeDeed_7, cb_X1_takeDeed_8, cb_X1_takeDeed_9, cb_X1_takeDeed_10, cb_X1_takeDeed_11, cb_X1_takeDeed_12, ↓ev_aload_n_0, ↓ev_callv_1_0_1, ↓ev_callv_1_1_1, ↓ev_callv_1_2_1, ↓ev_callv_1_3_1, ↓ev_callv_1_4_1, ↓ev_istore_n_1, ↓ev_iload_n_1, ↓ev_if_ge, ↓ev_iconst_m1, ↓ev_goto, ↓ev_ldcs, ↓ev_i2c, ↓ev_callv_2_0_1, ↓ev_callv_2_1_1, ↓ev_callv_2_2_1, ↓ev_callv_2_3_1, ↓ev_callv_2_4_1, ↓ev_putf_1_4, ↓ev_getf_1_4, ↓ev_if_lt, ↓ev_getstatic, ↓ev_alen_o5, ↓ev_alen_o6, ↓ev_alen_o20, ↓ev_icmp_lt, ↓ev_iconst_0, ↓ev_zret, ↓ev_dup, ↓ev_dupr, ↓ev_getf_1_3, ↓ev_iconst_1, ↓ev_iadd, ↓ev_putf_1_3, ↓ev_getf_1_1, ↓ev_calls_2_0_0, ↓ev_calls_2_1_0, ↓ev_calls_2_2_0, ↓ev_calls_2_3_0, ↓ev_calls_2_4_0, ↓ev_istore_n_2, ↓ev_iload_n_2, ↓ev_iald_o5, ↓ev_iald_o6, ↓ev_iald_o20, ↓ev_icmp_ge, ↓ev_iconst_3, ↓ev_if_ne, ↓ev_iinc_2_1, Nat.reduceAdd]
        have eb : h' (.inr 20) = h (.inr 20) := ho.1 _ (by simp) (by simp)
        have en := hB kd q2
        rw [h44, eb]
        try simp (disch := omega) only [pk_mul, nI_add, n_lt0, n_le0, n_eq0, n_ge0, n_gt0, n_lt, n_le, n_eq, n_in, n_div, n_rem, n_rem2, n_m1, nI_clamp, bz_0, bz_1, tI_0, tI_bz, n4, n16, eq_self, Nat.reduceLT, Nat.reduceLeDiff, Nat.reduceEqDiff, Nat.reduceAdd, Nat.reduceMul, Nat.reduceDiv, Nat.reduceMod, Nat.le_refl, decide_eq_false_iff_not, Classical.not_not, true_and, and_true, false_and, and_false, not_true_eq_false, not_false_eq_true, forall_const, true_implies, false_implies, implies_true, ne_eq, en]
        refine ⟨q2, fun _ => ?_, fun c => absurd (show nbo kd ≤ i by omega) c⟩
        rw [rdN] at hr
        subst hr
        exact hp h' ho hT' (fun _ => ⟨h44, h6⟩)
      | succ c ih =>
        intro i a' ns h' hi ha' hr ho hT' h44 h6 hz
        refine EX.go (Kd_mono _ _) [false, false, false, false, false, false, false, true, false, false, false, false, false] 40 7 ?_
        dsimp only [wpc_s, wsl_t, wsl_f, gD_0, gD_s, ↓denB_n, pI_s, pG_s, pU_n, cb_X1_takeDeed_0, cb_X1_takeDeed_1, cb_X1_takeDeed_2, cb_X1_takeDeed_3, cb_X1_takeDeed_4, cb_X1_takeDeed_5, cb_X1_takeDeed_6, cb_X1_takeDeed_7, cb_X1_takeDeed_8, cb_X1_takeDeed_9, cb_X1_takeDeed_10, cb_X1_takeDeed_11, cb_X1_takeDeed_12, ↓ev_aload_n_0, ↓ev_callv_1_0_1, ↓ev_callv_1_1_1, ↓ev_callv_1_2_1, ↓ev_callv_1_3_1, ↓ev_callv_1_4_1, ↓ev_istore_n_1, ↓ev_iload_n_1, ↓ev_if_ge, ↓ev_iconst_m1, ↓ev_goto, ↓ev_ldcs, ↓ev_i2c, ↓ev_callv_2_0_1, ↓ev_callv_2_1_1, ↓ev_callv_2_2_1, ↓ev_callv_2_3_1, ↓ev_callv_2_4_1, ↓ev_putf_1_4, ↓ev_getf_1_4, ↓ev_if_lt, ↓ev_getstatic, ↓ev_alen_o5, ↓ev_alen_o6, ↓ev_alen_o20, ↓ev_icmp_lt, ↓ev_iconst_0, ↓ev_zret, ↓ev_dup, ↓ev_dupr, ↓ev_getf_1_3, ↓ev_iconst_1, ↓ev_iadd, ↓ev_putf_1_3, ↓ev_getf_1_1, ↓ev_calls_2_0_0, ↓ev_calls_2_1_0, ↓ev_calls_2_2_0, ↓ev_calls_2_3_0, ↓ev_calls_2_4_0, ↓ev_istore_n_2, ↓ev_iload_n_2, ↓ev_iald_o5, ↓ev_iald_o6, ↓ev_iald_o20, ↓ev_icmp_ge, ↓ev_iconst_3, ↓ev_if_ne, ↓ev_iinc_2_1, Nat.reduceAdd]
        have eb : h' (.inr 20) = h (.inr 20) := ho.1 _ (by simp) (by simp)
        have en := hB kd q2
        rw [h44, eb]
        try simp (disch := omega) only [pk_mul, nI_add, n_lt0, n_le0, n_eq0, n_ge0, n_gt0, n_lt, n_le, n_eq, n_in, n_div, n_rem, n_rem2, n_m1, nI_clamp, bz_0, bz_1, tI_0, tI_bz, n4, n16, eq_self, Nat.reduceLT, Nat.reduceLeDiff, Nat.reduceEqDiff, Nat.reduceAdd, Nat.reduceMul, Nat.reduceDiv, Nat.reduceMod, Nat.le_refl, decide_eq_false_iff_not, Classical.not_not, true_and, and_true, false_and, and_false, not_true_eq_false, not_false_eq_true, forall_const, true_implies, false_implies, implies_true, ne_eq, en]
        refine ⟨q2, fun c => absurd c (by omega), fun _ => ⟨fun c => absurd c (by omega), fun _ => ?_⟩⟩
        refine k_takeNumber hT' (by omega) (by omega) (by rw [h6 i (by omega), hz i (Nat.le_refl _)]) (fun h2 o2 t2 j2 v2 k2 => ?_)
        have hle := tkN_le N tp a'
        have h6' : ∀ j, j < 3 → h2 (.inr 6) j = nI (nset ns i (tkN N tp a').2.2 j) := by
          intro j hj
          unfold nset
          by_cases e : j = i
          · subst e; rw [if_pos rfl]; exact v2
          · rw [if_neg e, j2 j e]; exact h6 j hj
        rw [rdN] at hr
        try simp (disch := omega) only [pk_mul, nI_add, n_lt0, n_le0, n_eq0, n_ge0, n_gt0, n_lt, n_le, n_eq, n_in, n_div, n_rem, n_rem2, n_m1, nI_clamp, bz_0, bz_1, tI_0, tI_bz, n4, n16, eq_self, Nat.reduceLT, Nat.reduceLeDiff, Nat.reduceEqDiff, Nat.reduceAdd, Nat.reduceMul, Nat.reduceDiv, Nat.reduceMod, Nat.le_refl, decide_eq_false_iff_not, Classical.not_not, true_and, and_true, false_and, and_false, not_true_eq_false, not_false_eq_true, forall_const, true_implies, false_implies, implies_true, ne_eq]
        refine ⟨fun c2 => ?_, fun c2 => ?_⟩
        · rw [if_pos (by simpa using c2)] at hr
          exact ih (i + 1) _ _ h2 (by omega) (by omega) hr (ho.tr o2) t2 (k2.trans h44) h6' (fun j hj => by unfold nset; rw [if_neg (by omega)]; exact hz j (by omega))
        · rw [if_neg (by rw [c2]; decide)] at hr
          subst hr
          exact hp h2 (ho.tr o2) t2 (fun z => absurd (show false = true from z) (by decide))
    · rw [if_neg (fun z => q2 z.2)] at hp
      rw [if_neg q2]
      dsimp only at hp
      exact J3n _ _ (by decide) (hp _ OP.u4 (hT.op OP.u4 (by rw [hup_idx (by decide)]; exact hT.2.1) (by omega)) (fun z => absurd (show false = true from z) (by decide)))
  · rw [if_neg (fun z => q z.1)] at hp
    rw [if_neg q]
    rw [if_neg q] at J3n
    dsimp only at hp
    try simp (disch := omega) only [pk_mul, nI_add, n_lt0, n_le0, n_eq0, n_ge0, n_gt0, n_lt, n_le, n_eq, n_in, n_div, n_rem, n_rem2, n_m1, nI_clamp, bz_0, bz_1, tI_0, tI_bz, n4, n16, eq_self, Nat.reduceLT, Nat.reduceLeDiff, Nat.reduceEqDiff, Nat.reduceAdd, Nat.reduceMul, Nat.reduceDiv, Nat.reduceMod, Nat.le_refl, decide_eq_false_iff_not, Classical.not_not, true_and, and_true, false_and, and_false, not_true_eq_false, not_false_eq_true, forall_const, true_implies, false_implies, implies_true, ne_eq]
    exact ⟨fun c => absurd c (by decide), fun _ => J3n (-1) _ (by decide) (hp _ OP.u4 (hT.op OP.u4 (by rw [hup_idx (by decide)]; exact hT.2.1) (by omega)) (fun z => absurd (show false = true from z) (by decide)))⟩
end TA2
